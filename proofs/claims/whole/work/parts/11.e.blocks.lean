-- X5_kinds X5_wrongs X5_steps X5_odds X5_sheet X5_lose X5_put X5_cell X5_copy X5_tell X5_knock X5_as X5_trace X5_fault X5_many X5_isWithin X5_isSheet X5_isLane X5_isAskedOfDay X5_hasParish X5_faulted
theorem k_X5_kinds_0 {Γ : tn_G} {ks : List (Nat × Nat)} {ρ : Nat → Nat → Nat} {σ : Nat → Nat → Int32} {K : Option Value → List (Nat × Nat) → (Nat → Nat → Nat) → (Nat → Nat → Int32) → Prop} (hG : tn_Gd ks ρ) (hΓ : tn_is Γ m_X5_kinds) (hK : tn_rt Γ m_X5_kinds K) (a0 : Int32) (h : tn_CI m_X1_hasHouse [.ref 3, .int a0] ks ρ σ (fun r1 σ1 => ((¬ r1 = 0 → tn_A Γ 17 [.ref 2, .int a0, .int (0 : Int32), .int (0 : Int32)] [] 0 0 ks ρ σ1) ∧ (r1 = 0 → K (some (.int (-1 : Int32))) ks ρ σ1)))) : tn_A Γ 0 [.ref 2, .int a0, .null, .null] [] 0 0 ks ρ σ := by
  refine tn_aload_n (pc := 0) hΓ d_X5_kinds_0 rfl ?_
  refine tn_getRy (y := 3) (pc := 1) hΓ d_X5_kinds_1 fl_5_12 rfl (gd_k hG (c := 2) rfl) (gd_r hG 2 0 3 rfl rfl) ?_
  refine tn_iload_n (pc := 4) hΓ d_X5_kinds_4 rfl ?_
  refine tn_cvI (As := [.int a0]) (st := []) (pc := 5) hΓ d_X5_kinds_5 mv_X1_hasHouse im_X1_hasHouse se_X1_hasHouse ml_5_77 ⟨⟨by decide, by decide⟩, by decide, by decide⟩ rfl rfl rfl (by decide) ⟨_, rfl⟩ (gp_k hG pb3) (Nat.le_of_ble_eq_true rfl) rfl h (fun r1 σ1 h => ?_)
  refine tn_if_ne (tgt := 13) (pc := 8) hΓ d_X5_kinds_8 (by decide) (fun hq => ?_) (fun hq => ?_)
  · have h := h.1 hq
    refine tn_iconst (pc := 13) hΓ d_X5_kinds_13 ic_0 ?_
    refine tn_istore_n (loc' := [.ref 2, .int a0, .int (0 : Int32), .null]) (pc := 14) hΓ d_X5_kinds_14 (by decide) rfl rfl ?_
    refine tn_iconst (pc := 15) hΓ d_X5_kinds_15 ic_0 ?_
    refine tn_istore_n (loc' := [.ref 2, .int a0, .int (0 : Int32), .int (0 : Int32)]) (pc := 16) hΓ d_X5_kinds_16 (by decide) rfl rfl ?_
    exact h
  · have h := h.2 hq
    refine tn_iconst (pc := 11) hΓ d_X5_kinds_11 ic_m1 ?_
    exact tn_ret_i (pc := 12) hΓ hK d_X5_kinds_12 rfl (by decide) (by decide) h
theorem k_X5_kinds_17 {Γ : tn_G} {ks : List (Nat × Nat)} {ρ : Nat → Nat → Nat} {σ : Nat → Nat → Int32} {K : Option Value → List (Nat × Nat) → (Nat → Nat → Nat) → (Nat → Nat → Int32) → Prop} (hG : tn_Gd ks ρ) (hΓ : tn_is Γ m_X5_kinds) (hK : tn_rt Γ m_X5_kinds K) (y1 : Int32) (y2 : Int32) (y3 : Int32) (h : (((2 : Int32) < y3 → K (some (.int y2)) ks ρ σ) ∧ (¬ (2 : Int32) < y3 → tn_CV m_X1_become [.ref 15, .ref 3] ks ρ σ (fun σ1 => (vp_in y1 5 ∧ (∀ σ2, σ2 = tn_u σ1 (15 + 3 + y1.toNatClampNeg) 0 y3 → tn_CI m_X5_doReadingsHoldOfTrial [.ref 2] ks ρ σ2 (fun r1 σ3 => ((r1 = 0 → (∀ x1 : Int32, x1 = y3 + (1 : Int32) → tn_A Γ 17 [.ref 2, .int y1, .int y2, .int x1] [] 0 0 ks ρ σ3)) ∧ (¬ r1 = 0 → (∀ x2 : Int32, x2 = (y2 ||| ((1 : Int32) <<< (y3 &&& 31))) → (∀ x3 : Int32, x3 = y3 + (1 : Int32) → tn_A Γ 17 [.ref 2, .int y1, .int x2, .int x3] [] 0 0 ks ρ σ3))))))))))) : tn_A Γ 17 [.ref 2, .int y1, .int y2, .int y3] [] 0 0 ks ρ σ := by
  refine tn_iload_n (pc := 17) hΓ d_X5_kinds_17 rfl ?_
  refine tn_iconst (pc := 18) hΓ d_X5_kinds_18 ic_2 ?_
  refine tn_icmp_gt (tgt := 65) (pc := 19) hΓ d_X5_kinds_19 (by decide) (fun hq => ?_) (fun hq => ?_)
  · have h := h.1 hq
    refine tn_iload_n (pc := 65) hΓ d_X5_kinds_65 rfl ?_
    exact tn_ret_i (pc := 66) hΓ hK d_X5_kinds_66 rfl (by decide) (by decide) h
  · have h := h.2 hq
    refine tn_aload_n (pc := 22) hΓ d_X5_kinds_22 rfl ?_
    refine tn_getRy (y := 15) (pc := 23) hΓ d_X5_kinds_23 fl_5_18 rfl (gd_k hG (c := 2) rfl) (gd_r hG 2 1 15 rfl rfl) ?_
    refine tn_aload_n (pc := 26) hΓ d_X5_kinds_26 rfl ?_
    refine tn_getRy (y := 3) (pc := 27) hΓ d_X5_kinds_27 fl_5_12 rfl (gd_k hG (c := 2) rfl) (gd_r hG 2 0 3 rfl rfl) ?_
    refine tn_cvV (As := [.ref 3]) (st := []) (pc := 30) hΓ d_X5_kinds_30 mv_X1_become im_X1_become se_X1_become ml_5_70 ⟨⟨by decide, by decide⟩, by decide, by decide⟩ rfl rfl rfl (by decide) ⟨_, rfl⟩ (gp_k hG pb15) (Nat.le_of_ble_eq_true rfl) rfl h (fun σ1 h => ?_)
    refine tn_aload_n (pc := 33) hΓ d_X5_kinds_33 rfl ?_
    refine tn_getRy (y := 15) (pc := 34) hΓ d_X5_kinds_34 fl_5_18 rfl (gd_k hG (c := 2) rfl) (gd_r hG 2 1 15 rfl rfl) ?_
    refine tn_getRy (y := 15 + 1) (pc := 37) hΓ d_X5_kinds_37 fl_5_80 rfl (gp_k hG pb15) (gp_h hG pb15) ?_
    refine tn_iload_n (pc := 40) hΓ d_X5_kinds_40 rfl ?_
    obtain ⟨hi1, h⟩ := h
    refine tn_aaldy (t := 0) (y := 15 + 3 + y1.toNatClampNeg) (pc := 41) hΓ d_X5_kinds_41 (by decide) (gp_kh hG pb15) hi1 (gp_H hG pb15 hi1) ?_
    refine tn_iload_n (pc := 42) hΓ d_X5_kinds_42 rfl ?_
    refine tn_putI (pc := 43) hΓ d_X5_kinds_43 fl_5_84 fk_5_0_0 rfl (gp_kH hG pb15 (tn_inN hi1))  ?_
    refine tn_tops (fun σ2 eσ2 => ?_)
    have h := h σ2 eσ2
    refine tn_aload_n (pc := 46) hΓ d_X5_kinds_46 rfl ?_
    refine tn_cvI (As := []) (st := []) (pc := 47) hΓ d_X5_kinds_47 mv_X5_doReadingsHoldOfTrial im_X5_doReadingsHoldOfTrial se_X5_doReadingsHoldOfTrial ml_5_195 ⟨⟨by decide, by decide⟩, by decide, by decide⟩ rfl rfl rfl (by decide) ⟨_, rfl⟩ (gd_k hG (c := 2) rfl) (Nat.le_of_ble_eq_true rfl) rfl h (fun r1 σ3 h => ?_)
    refine tn_if_eq (tgt := 59) (pc := 50) hΓ d_X5_kinds_50 (by decide) (fun hq => ?_) (fun hq => ?_)
    · have h := h.1 hq
      refine tn_iincw (loc' := fun v_ => [.ref 2, .int y1, .int y2, .int v_]) (pc := 59) hΓ d_X5_kinds_59 rfl ic_1 (by decide) rfl (fun _ => rfl) (fun x1 ex1 => ?_)
      have h := h x1 ex1
      refine tn_goto (tgt := 17) (pc := 62) hΓ d_X5_kinds_62 (by decide) ?_
      exact h
    · have h := h.2 hq
      refine tn_iload_n (pc := 53) hΓ d_X5_kinds_53 rfl ?_
      refine tn_iconst (pc := 54) hΓ d_X5_kinds_54 ic_1 ?_
      refine tn_iload_n (pc := 55) hΓ d_X5_kinds_55 rfl ?_
      refine tn_ishl (pc := 56) hΓ d_X5_kinds_56 ?_
      refine tn_ior (pc := 57) hΓ d_X5_kinds_57 ?_
      refine tn_topi (fun x2 ex2 => ?_)
      have h := h x2 ex2
      refine tn_istore_n (loc' := [.ref 2, .int y1, .int x2, .int y3]) (pc := 58) hΓ d_X5_kinds_58 (by decide) rfl rfl ?_
      refine tn_iincw (loc' := fun v_ => [.ref 2, .int y1, .int x2, .int v_]) (pc := 59) hΓ d_X5_kinds_59 rfl ic_1 (by decide) rfl (fun _ => rfl) (fun x3 ex3 => ?_)
      have h := h x3 ex3
      refine tn_goto (tgt := 17) (pc := 62) hΓ d_X5_kinds_62 (by decide) ?_
      exact h
theorem k_X5_wrongs_0 {Γ : tn_G} {ks : List (Nat × Nat)} {ρ : Nat → Nat → Nat} {σ : Nat → Nat → Int32} {K : Option Value → List (Nat × Nat) → (Nat → Nat → Nat) → (Nat → Nat → Int32) → Prop} (hG : tn_Gd ks ρ) (hΓ : tn_is Γ m_X5_wrongs) (hK : tn_rt Γ m_X5_wrongs K) (a0 : Int32) (h : tn_CI m_X1_hasHouse [.ref 3, .int a0] ks ρ σ (fun r1 σ1 => ((¬ r1 = 0 → tn_A Γ 17 [.ref 2, .int a0, .int (0 : Int32), .int (0 : Int32)] [] 0 0 ks ρ σ1) ∧ (r1 = 0 → K (some (.int (-1 : Int32))) ks ρ σ1)))) : tn_A Γ 0 [.ref 2, .int a0, .null, .null] [] 0 0 ks ρ σ := by
  refine tn_aload_n (pc := 0) hΓ d_X5_wrongs_0 rfl ?_
  refine tn_getRy (y := 3) (pc := 1) hΓ d_X5_wrongs_1 fl_5_12 rfl (gd_k hG (c := 2) rfl) (gd_r hG 2 0 3 rfl rfl) ?_
  refine tn_iload_n (pc := 4) hΓ d_X5_wrongs_4 rfl ?_
  refine tn_cvI (As := [.int a0]) (st := []) (pc := 5) hΓ d_X5_wrongs_5 mv_X1_hasHouse im_X1_hasHouse se_X1_hasHouse ml_5_77 ⟨⟨by decide, by decide⟩, by decide, by decide⟩ rfl rfl rfl (by decide) ⟨_, rfl⟩ (gp_k hG pb3) (Nat.le_of_ble_eq_true rfl) rfl h (fun r1 σ1 h => ?_)
  refine tn_if_ne (tgt := 13) (pc := 8) hΓ d_X5_wrongs_8 (by decide) (fun hq => ?_) (fun hq => ?_)
  · have h := h.1 hq
    refine tn_iconst (pc := 13) hΓ d_X5_wrongs_13 ic_0 ?_
    refine tn_istore_n (loc' := [.ref 2, .int a0, .int (0 : Int32), .null]) (pc := 14) hΓ d_X5_wrongs_14 (by decide) rfl rfl ?_
    refine tn_iconst (pc := 15) hΓ d_X5_wrongs_15 ic_0 ?_
    refine tn_istore_n (loc' := [.ref 2, .int a0, .int (0 : Int32), .int (0 : Int32)]) (pc := 16) hΓ d_X5_wrongs_16 (by decide) rfl rfl ?_
    exact h
  · have h := h.2 hq
    refine tn_iconst (pc := 11) hΓ d_X5_wrongs_11 ic_m1 ?_
    exact tn_ret_i (pc := 12) hΓ hK d_X5_wrongs_12 rfl (by decide) (by decide) h
theorem k_X5_wrongs_17 {Γ : tn_G} {ks : List (Nat × Nat)} {ρ : Nat → Nat → Nat} {σ : Nat → Nat → Int32} {K : Option Value → List (Nat × Nat) → (Nat → Nat → Nat) → (Nat → Nat → Int32) → Prop} (hG : tn_Gd ks ρ) (hΓ : tn_is Γ m_X5_wrongs) (hK : tn_rt Γ m_X5_wrongs K) (y1 : Int32) (y2 : Int32) (y3 : Int32) (h : (((9 : Int32) < y3 → K (some (.int y2)) ks ρ σ) ∧ (¬ (9 : Int32) < y3 → tn_CV m_X1_become [.ref 15, .ref 3] ks ρ σ (fun σ1 => (vp_in y1 5 ∧ (∀ σ2, σ2 = tn_u σ1 (15 + 3 + y1.toNatClampNeg) 1 y3 → tn_CI m_X5_doReadingsHoldOfTrial [.ref 2] ks ρ σ2 (fun r1 σ3 => ((r1 = 0 → (∀ x1 : Int32, x1 = y3 + (1 : Int32) → tn_A Γ 17 [.ref 2, .int y1, .int y2, .int x1] [] 0 0 ks ρ σ3)) ∧ (¬ r1 = 0 → (∀ x2 : Int32, x2 = (y2 ||| ((1 : Int32) <<< (y3 &&& 31))) → (∀ x3 : Int32, x3 = y3 + (1 : Int32) → tn_A Γ 17 [.ref 2, .int y1, .int x2, .int x3] [] 0 0 ks ρ σ3))))))))))) : tn_A Γ 17 [.ref 2, .int y1, .int y2, .int y3] [] 0 0 ks ρ σ := by
  refine tn_iload_n (pc := 17) hΓ d_X5_wrongs_17 rfl ?_
  refine tn_bipush (pc := 18) hΓ d_X5_wrongs_18 bp_9 ?_
  refine tn_icmp_gt (tgt := 66) (pc := 20) hΓ d_X5_wrongs_20 (by decide) (fun hq => ?_) (fun hq => ?_)
  · have h := h.1 hq
    refine tn_iload_n (pc := 66) hΓ d_X5_wrongs_66 rfl ?_
    exact tn_ret_i (pc := 67) hΓ hK d_X5_wrongs_67 rfl (by decide) (by decide) h
  · have h := h.2 hq
    refine tn_aload_n (pc := 23) hΓ d_X5_wrongs_23 rfl ?_
    refine tn_getRy (y := 15) (pc := 24) hΓ d_X5_wrongs_24 fl_5_18 rfl (gd_k hG (c := 2) rfl) (gd_r hG 2 1 15 rfl rfl) ?_
    refine tn_aload_n (pc := 27) hΓ d_X5_wrongs_27 rfl ?_
    refine tn_getRy (y := 3) (pc := 28) hΓ d_X5_wrongs_28 fl_5_12 rfl (gd_k hG (c := 2) rfl) (gd_r hG 2 0 3 rfl rfl) ?_
    refine tn_cvV (As := [.ref 3]) (st := []) (pc := 31) hΓ d_X5_wrongs_31 mv_X1_become im_X1_become se_X1_become ml_5_70 ⟨⟨by decide, by decide⟩, by decide, by decide⟩ rfl rfl rfl (by decide) ⟨_, rfl⟩ (gp_k hG pb15) (Nat.le_of_ble_eq_true rfl) rfl h (fun σ1 h => ?_)
    refine tn_aload_n (pc := 34) hΓ d_X5_wrongs_34 rfl ?_
    refine tn_getRy (y := 15) (pc := 35) hΓ d_X5_wrongs_35 fl_5_18 rfl (gd_k hG (c := 2) rfl) (gd_r hG 2 1 15 rfl rfl) ?_
    refine tn_getRy (y := 15 + 1) (pc := 38) hΓ d_X5_wrongs_38 fl_5_80 rfl (gp_k hG pb15) (gp_h hG pb15) ?_
    refine tn_iload_n (pc := 41) hΓ d_X5_wrongs_41 rfl ?_
    obtain ⟨hi1, h⟩ := h
    refine tn_aaldy (t := 0) (y := 15 + 3 + y1.toNatClampNeg) (pc := 42) hΓ d_X5_wrongs_42 (by decide) (gp_kh hG pb15) hi1 (gp_H hG pb15 hi1) ?_
    refine tn_iload_n (pc := 43) hΓ d_X5_wrongs_43 rfl ?_
    refine tn_putI (pc := 44) hΓ d_X5_wrongs_44 fl_5_89 fk_5_0_1 rfl (gp_kH hG pb15 (tn_inN hi1))  ?_
    refine tn_tops (fun σ2 eσ2 => ?_)
    have h := h σ2 eσ2
    refine tn_aload_n (pc := 47) hΓ d_X5_wrongs_47 rfl ?_
    refine tn_cvI (As := []) (st := []) (pc := 48) hΓ d_X5_wrongs_48 mv_X5_doReadingsHoldOfTrial im_X5_doReadingsHoldOfTrial se_X5_doReadingsHoldOfTrial ml_5_195 ⟨⟨by decide, by decide⟩, by decide, by decide⟩ rfl rfl rfl (by decide) ⟨_, rfl⟩ (gd_k hG (c := 2) rfl) (Nat.le_of_ble_eq_true rfl) rfl h (fun r1 σ3 h => ?_)
    refine tn_if_eq (tgt := 60) (pc := 51) hΓ d_X5_wrongs_51 (by decide) (fun hq => ?_) (fun hq => ?_)
    · have h := h.1 hq
      refine tn_iincw (loc' := fun v_ => [.ref 2, .int y1, .int y2, .int v_]) (pc := 60) hΓ d_X5_wrongs_60 rfl ic_1 (by decide) rfl (fun _ => rfl) (fun x1 ex1 => ?_)
      have h := h x1 ex1
      refine tn_goto (tgt := 17) (pc := 63) hΓ d_X5_wrongs_63 (by decide) ?_
      exact h
    · have h := h.2 hq
      refine tn_iload_n (pc := 54) hΓ d_X5_wrongs_54 rfl ?_
      refine tn_iconst (pc := 55) hΓ d_X5_wrongs_55 ic_1 ?_
      refine tn_iload_n (pc := 56) hΓ d_X5_wrongs_56 rfl ?_
      refine tn_ishl (pc := 57) hΓ d_X5_wrongs_57 ?_
      refine tn_ior (pc := 58) hΓ d_X5_wrongs_58 ?_
      refine tn_topi (fun x2 ex2 => ?_)
      have h := h x2 ex2
      refine tn_istore_n (loc' := [.ref 2, .int y1, .int x2, .int y3]) (pc := 59) hΓ d_X5_wrongs_59 (by decide) rfl rfl ?_
      refine tn_iincw (loc' := fun v_ => [.ref 2, .int y1, .int x2, .int v_]) (pc := 60) hΓ d_X5_wrongs_60 rfl ic_1 (by decide) rfl (fun _ => rfl) (fun x3 ex3 => ?_)
      have h := h x3 ex3
      refine tn_goto (tgt := 17) (pc := 63) hΓ d_X5_wrongs_63 (by decide) ?_
      exact h
theorem k_X5_steps_0 {Γ : tn_G} {ks : List (Nat × Nat)} {ρ : Nat → Nat → Nat} {σ : Nat → Nat → Int32} {K : Option Value → List (Nat × Nat) → (Nat → Nat → Nat) → (Nat → Nat → Int32) → Prop} (hG : tn_Gd ks ρ) (hΓ : tn_is Γ m_X5_steps) (hK : tn_rt Γ m_X5_steps K)  (h : tn_CI m_X5_hasParish [.ref 2] ks ρ σ (fun r1 σ1 => ((¬ r1 = 0 → tn_A Γ 14 [.ref 2, .int (0 : Int32), .int (1 : Int32)] [] 0 0 ks ρ σ1) ∧ (r1 = 0 → K (some (.int (-3 : Int32))) ks ρ σ1)))) : tn_A Γ 0 [.ref 2, .null, .null] [] 0 0 ks ρ σ := by
  refine tn_aload_n (pc := 0) hΓ d_X5_steps_0 rfl ?_
  refine tn_cvI (As := []) (st := []) (pc := 1) hΓ d_X5_steps_1 mv_X5_hasParish im_X5_hasParish se_X5_hasParish ml_5_135 ⟨⟨by decide, by decide⟩, by decide, by decide⟩ rfl rfl rfl (by decide) ⟨_, rfl⟩ (gd_k hG (c := 2) rfl) (Nat.le_of_ble_eq_true rfl) rfl h (fun r1 σ1 h => ?_)
  refine tn_if_ne (tgt := 10) (pc := 4) hΓ d_X5_steps_4 (by decide) (fun hq => ?_) (fun hq => ?_)
  · have h := h.1 hq
    refine tn_iconst (pc := 10) hΓ d_X5_steps_10 ic_0 ?_
    refine tn_istore_n (loc' := [.ref 2, .int (0 : Int32), .null]) (pc := 11) hΓ d_X5_steps_11 (by decide) rfl rfl ?_
    refine tn_iconst (pc := 12) hΓ d_X5_steps_12 ic_1 ?_
    refine tn_istore_n (loc' := [.ref 2, .int (0 : Int32), .int (1 : Int32)]) (pc := 13) hΓ d_X5_steps_13 (by decide) rfl rfl ?_
    exact h
  · have h := h.2 hq
    refine tn_bipush (pc := 7) hΓ d_X5_steps_7 bp_m3 ?_
    exact tn_ret_i (pc := 9) hΓ hK d_X5_steps_9 rfl (by decide) (by decide) h
theorem k_X5_steps_14 {Γ : tn_G} {ks : List (Nat × Nat)} {ρ : Nat → Nat → Nat} {σ : Nat → Nat → Int32} {K : Option Value → List (Nat × Nat) → (Nat → Nat → Nat) → (Nat → Nat → Int32) → Prop} (hG : tn_Gd ks ρ) (hΓ : tn_is Γ m_X5_steps) (hK : tn_rt Γ m_X5_steps K) (y1 : Int32) (y2 : Int32) (h : (((4 : Int32) < y2 → K (some (.int y1)) ks ρ σ) ∧ (¬ (4 : Int32) < y2 → tn_CV m_X1_become [.ref 15, .ref 3] ks ρ σ (fun σ1 => (∀ σ2, σ2 = tn_u σ1 15 4 y2 → tn_CI m_X5_doReadingsHoldOfTrial [.ref 2] ks ρ σ2 (fun r1 σ3 => ((r1 = 0 → (∀ x1 : Int32, x1 = y2 + (1 : Int32) → tn_A Γ 14 [.ref 2, .int y1, .int x1] [] 0 0 ks ρ σ3)) ∧ (¬ r1 = 0 → (∀ x2 : Int32, x2 = (y1 ||| ((1 : Int32) <<< (y2 &&& 31))) → (∀ x3 : Int32, x3 = y2 + (1 : Int32) → tn_A Γ 14 [.ref 2, .int x2, .int x3] [] 0 0 ks ρ σ3)))))))))) : tn_A Γ 14 [.ref 2, .int y1, .int y2] [] 0 0 ks ρ σ := by
  refine tn_iload_n (pc := 14) hΓ d_X5_steps_14 rfl ?_
  refine tn_iconst (pc := 15) hΓ d_X5_steps_15 ic_4 ?_
  refine tn_icmp_gt (tgt := 57) (pc := 16) hΓ d_X5_steps_16 (by decide) (fun hq => ?_) (fun hq => ?_)
  · have h := h.1 hq
    refine tn_iload_n (pc := 57) hΓ d_X5_steps_57 rfl ?_
    exact tn_ret_i (pc := 58) hΓ hK d_X5_steps_58 rfl (by decide) (by decide) h
  · have h := h.2 hq
    refine tn_aload_n (pc := 19) hΓ d_X5_steps_19 rfl ?_
    refine tn_getRy (y := 15) (pc := 20) hΓ d_X5_steps_20 fl_5_18 rfl (gd_k hG (c := 2) rfl) (gd_r hG 2 1 15 rfl rfl) ?_
    refine tn_aload_n (pc := 23) hΓ d_X5_steps_23 rfl ?_
    refine tn_getRy (y := 3) (pc := 24) hΓ d_X5_steps_24 fl_5_12 rfl (gd_k hG (c := 2) rfl) (gd_r hG 2 0 3 rfl rfl) ?_
    refine tn_cvV (As := [.ref 3]) (st := []) (pc := 27) hΓ d_X5_steps_27 mv_X1_become im_X1_become se_X1_become ml_5_70 ⟨⟨by decide, by decide⟩, by decide, by decide⟩ rfl rfl rfl (by decide) ⟨_, rfl⟩ (gp_k hG pb15) (Nat.le_of_ble_eq_true rfl) rfl h (fun σ1 h => ?_)
    refine tn_aload_n (pc := 30) hΓ d_X5_steps_30 rfl ?_
    refine tn_getRy (y := 15) (pc := 31) hΓ d_X5_steps_31 fl_5_18 rfl (gd_k hG (c := 2) rfl) (gd_r hG 2 1 15 rfl rfl) ?_
    refine tn_iload_n (pc := 34) hΓ d_X5_steps_34 rfl ?_
    refine tn_putI (pc := 35) hΓ d_X5_steps_35 fl_5_198 fk_5_1_4 rfl (gp_k hG pb15)  ?_
    refine tn_tops (fun σ2 eσ2 => ?_)
    have h := h σ2 eσ2
    refine tn_aload_n (pc := 38) hΓ d_X5_steps_38 rfl ?_
    refine tn_cvI (As := []) (st := []) (pc := 39) hΓ d_X5_steps_39 mv_X5_doReadingsHoldOfTrial im_X5_doReadingsHoldOfTrial se_X5_doReadingsHoldOfTrial ml_5_195 ⟨⟨by decide, by decide⟩, by decide, by decide⟩ rfl rfl rfl (by decide) ⟨_, rfl⟩ (gd_k hG (c := 2) rfl) (Nat.le_of_ble_eq_true rfl) rfl h (fun r1 σ3 h => ?_)
    refine tn_if_eq (tgt := 51) (pc := 42) hΓ d_X5_steps_42 (by decide) (fun hq => ?_) (fun hq => ?_)
    · have h := h.1 hq
      refine tn_iincw (loc' := fun v_ => [.ref 2, .int y1, .int v_]) (pc := 51) hΓ d_X5_steps_51 rfl ic_1 (by decide) rfl (fun _ => rfl) (fun x1 ex1 => ?_)
      have h := h x1 ex1
      refine tn_goto (tgt := 14) (pc := 54) hΓ d_X5_steps_54 (by decide) ?_
      exact h
    · have h := h.2 hq
      refine tn_iload_n (pc := 45) hΓ d_X5_steps_45 rfl ?_
      refine tn_iconst (pc := 46) hΓ d_X5_steps_46 ic_1 ?_
      refine tn_iload_n (pc := 47) hΓ d_X5_steps_47 rfl ?_
      refine tn_ishl (pc := 48) hΓ d_X5_steps_48 ?_
      refine tn_ior (pc := 49) hΓ d_X5_steps_49 ?_
      refine tn_topi (fun x2 ex2 => ?_)
      have h := h x2 ex2
      refine tn_istore_n (loc' := [.ref 2, .int x2, .int y2]) (pc := 50) hΓ d_X5_steps_50 (by decide) rfl rfl ?_
      refine tn_iincw (loc' := fun v_ => [.ref 2, .int x2, .int v_]) (pc := 51) hΓ d_X5_steps_51 rfl ic_1 (by decide) rfl (fun _ => rfl) (fun x3 ex3 => ?_)
      have h := h x3 ex3
      refine tn_goto (tgt := 14) (pc := 54) hΓ d_X5_steps_54 (by decide) ?_
      exact h
theorem k_X5_odds_0 {Γ : tn_G} {ks : List (Nat × Nat)} {ρ : Nat → Nat → Nat} {σ : Nat → Nat → Int32} {K : Option Value → List (Nat × Nat) → (Nat → Nat → Nat) → (Nat → Nat → Int32) → Prop} (hG : tn_Gd ks ρ) (hΓ : tn_is Γ m_X5_odds) (hK : tn_rt Γ m_X5_odds K) (a0 : Int32) (a1 : Int32) (h : tn_CI m_X5_isWithin [.int a0, .int (0 : Int32), .int (90 : Int32)] ks ρ σ (fun r1 σ1 => ((r1 = 0 → K (some (.long (-9223372036854775808 : Int64))) ks ρ σ1) ∧ (¬ r1 = 0 → tn_CI m_X5_isWithin [.int a1, .int (0 : Int32), .int (1 : Int32)] ks ρ σ1 (fun r2 σ2 => ((r2 = 0 → K (some (.long (-9223372036854775808 : Int64))) ks ρ σ2) ∧ (¬ r2 = 0 → tn_CI m_X5_hasParish [.ref 2] ks ρ σ2 (fun r3 σ3 => ((¬ r3 = 0 → tn_A Γ 38 [.ref 2, .int a0, .int a1, .int (0 : Int32), .int (0 : Int32), .int (0 : Int32)] [] 0 0 ks ρ σ3) ∧ (r3 = 0 → K (some (.long (-9223372036854775808 : Int64))) ks ρ σ3)))))))))) : tn_A Γ 0 [.ref 2, .int a0, .int a1, .null, .null, .null] [] 0 0 ks ρ σ := by
  refine tn_iload_n (pc := 0) hΓ d_X5_odds_0 rfl ?_
  refine tn_iconst (pc := 1) hΓ d_X5_odds_1 ic_0 ?_
  refine tn_bipush (pc := 2) hΓ d_X5_odds_2 bp_90 ?_
  refine tn_csI (As := [.int a0, .int (0 : Int32), .int (90 : Int32)]) (st := []) (pc := 4) hΓ d_X5_odds_4 mv_X5_isWithin st_X5_isWithin ml_5_125 ⟨⟨by decide, by decide⟩, by decide, by decide⟩ rfl rfl rfl (Nat.le_of_ble_eq_true rfl) rfl h (fun r1 σ1 h => ?_)
  refine tn_if_eq (tgt := 26) (pc := 7) hΓ d_X5_odds_7 (by decide) (fun hq => ?_) (fun hq => ?_)
  · have h := h.1 hq
    refine tn_ldc2 (pc := 26) hΓ kc_5_201 d_X5_odds_26 ?_
    exact tn_ret_l (pc := 29) hΓ hK d_X5_odds_29 rfl (by decide) (by decide) h
  · have h := h.2 hq
    refine tn_iload_n (pc := 10) hΓ d_X5_odds_10 rfl ?_
    refine tn_iconst (pc := 11) hΓ d_X5_odds_11 ic_0 ?_
    refine tn_iconst (pc := 12) hΓ d_X5_odds_12 ic_1 ?_
    refine tn_csI (As := [.int a1, .int (0 : Int32), .int (1 : Int32)]) (st := []) (pc := 13) hΓ d_X5_odds_13 mv_X5_isWithin st_X5_isWithin ml_5_125 ⟨⟨by decide, by decide⟩, by decide, by decide⟩ rfl rfl rfl (Nat.le_of_ble_eq_true rfl) rfl h (fun r2 σ2 h => ?_)
    refine tn_if_eq (tgt := 26) (pc := 16) hΓ d_X5_odds_16 (by decide) (fun hq => ?_) (fun hq => ?_)
    · have h := h.1 hq
      refine tn_ldc2 (pc := 26) hΓ kc_5_201 d_X5_odds_26 ?_
      exact tn_ret_l (pc := 29) hΓ hK d_X5_odds_29 rfl (by decide) (by decide) h
    · have h := h.2 hq
      refine tn_aload_n (pc := 19) hΓ d_X5_odds_19 rfl ?_
      refine tn_cvI (As := []) (st := []) (pc := 20) hΓ d_X5_odds_20 mv_X5_hasParish im_X5_hasParish se_X5_hasParish ml_5_135 ⟨⟨by decide, by decide⟩, by decide, by decide⟩ rfl rfl rfl (by decide) ⟨_, rfl⟩ (gd_k hG (c := 2) rfl) (Nat.le_of_ble_eq_true rfl) rfl h (fun r3 σ3 h => ?_)
      refine tn_if_ne (tgt := 30) (pc := 23) hΓ d_X5_odds_23 (by decide) (fun hq => ?_) (fun hq => ?_)
      · have h := h.1 hq
        refine tn_iconst (pc := 30) hΓ d_X5_odds_30 ic_0 ?_
        refine tn_istore_n (loc' := [.ref 2, .int a0, .int a1, .int (0 : Int32), .null, .null]) (pc := 31) hΓ d_X5_odds_31 (by decide) rfl rfl ?_
        refine tn_iconst (pc := 32) hΓ d_X5_odds_32 ic_0 ?_
        refine tn_istore (loc' := [.ref 2, .int a0, .int a1, .int (0 : Int32), .int (0 : Int32), .null]) (pc := 33) hΓ d_X5_odds_33 (by decide) rfl rfl ?_
        refine tn_iconst (pc := 35) hΓ d_X5_odds_35 ic_0 ?_
        refine tn_istore (loc' := [.ref 2, .int a0, .int a1, .int (0 : Int32), .int (0 : Int32), .int (0 : Int32)]) (pc := 36) hΓ d_X5_odds_36 (by decide) rfl rfl ?_
        exact h
      · have h := h.2 hq
        refine tn_ldc2 (pc := 26) hΓ kc_5_201 d_X5_odds_26 ?_
        exact tn_ret_l (pc := 29) hΓ hK d_X5_odds_29 rfl (by decide) (by decide) h
theorem k_X5_odds_38 {Γ : tn_G} {ks : List (Nat × Nat)} {ρ : Nat → Nat → Nat} {σ : Nat → Nat → Int32} {K : Option Value → List (Nat × Nat) → (Nat → Nat → Nat) → (Nat → Nat → Int32) → Prop} (hG : tn_Gd ks ρ) (hΓ : tn_is Γ m_X5_odds) (hK : tn_rt Γ m_X5_odds K) (y1 : Int32) (y2 : Int32) (y3 : Int32) (y4 : Int32) (y5 : Int32) (h : tn_CI m_X1_setCount [.ref 3] ks ρ σ (fun r1 σ1 => ((r1 ≤ y5 → tn_A Γ 92 [.null, .null, .int y2, .int y3, .int y4, .null] [] 0 0 ks ρ σ1) ∧ (¬ r1 ≤ y5 → tn_CI m_X1_doesSetRankle [.ref 3, .int y5] ks ρ σ1 (fun r2 σ2 => ((r2 = 0 → (∀ x1 : Int32, x1 = y5 + (1 : Int32) → tn_A Γ 38 [.ref 2, .int y1, .int y2, .int y3, .int y4, .int x1] [] 0 0 ks ρ σ2)) ∧ (¬ r2 = 0 → (∀ x2 : Int32, x2 = y4 + (1 : Int32) → tn_CI m_X1_weightOfSet [.ref 3, .int y5] ks ρ σ2 (fun r3 σ3 => ((r3 < y1 → (∀ x3 : Int32, x3 = (y3 + (0 : Int32)) → (∀ x4 : Int32, x4 = y5 + (1 : Int32) → tn_A Γ 38 [.ref 2, .int y1, .int y2, .int x3, .int x2, .int x4] [] 0 0 ks ρ σ3))) ∧ (¬ r3 < y1 → (∀ x5 : Int32, x5 = (y3 + (1 : Int32)) → (∀ x6 : Int32, x6 = y5 + (1 : Int32) → tn_A Γ 38 [.ref 2, .int y1, .int y2, .int x5, .int x2, .int x6] [] 0 0 ks ρ σ3))))))))))))) : tn_A Γ 38 [.ref 2, .int y1, .int y2, .int y3, .int y4, .int y5] [] 0 0 ks ρ σ := by
  refine tn_iload (pc := 38) hΓ d_X5_odds_38 rfl ?_
  refine tn_aload_n (pc := 40) hΓ d_X5_odds_40 rfl ?_
  refine tn_getRy (y := 3) (pc := 41) hΓ d_X5_odds_41 fl_5_12 rfl (gd_k hG (c := 2) rfl) (gd_r hG 2 0 3 rfl rfl) ?_
  refine tn_cvI (As := []) (st := [.int y5]) (pc := 44) hΓ d_X5_odds_44 mv_X1_setCount im_X1_setCount se_X1_setCount ml_5_164 ⟨⟨by decide, by decide⟩, by decide, by decide⟩ rfl rfl rfl (by decide) ⟨_, rfl⟩ (gp_k hG pb3) (Nat.le_of_ble_eq_true rfl) rfl h (fun r1 σ1 h => ?_)
  refine tn_icmp_ge (tgt := 92) (pc := 47) hΓ d_X5_odds_47 (by decide) (fun hq => ?_) (fun hq => ?_)
  · have h := h.1 hq
    refine tn_drop [false, false, true, true, true, false] (loc' := [.null, .null, .int y2, .int y3, .int y4, .null]) rfl ?_
    exact h
  · have h := h.2 hq
    refine tn_aload_n (pc := 50) hΓ d_X5_odds_50 rfl ?_
    refine tn_getRy (y := 3) (pc := 51) hΓ d_X5_odds_51 fl_5_12 rfl (gd_k hG (c := 2) rfl) (gd_r hG 2 0 3 rfl rfl) ?_
    refine tn_iload (pc := 54) hΓ d_X5_odds_54 rfl ?_
    refine tn_cvI (As := [.int y5]) (st := []) (pc := 56) hΓ d_X5_odds_56 mv_X1_doesSetRankle im_X1_doesSetRankle se_X1_doesSetRankle ml_5_172 ⟨⟨by decide, by decide⟩, by decide, by decide⟩ rfl rfl rfl (by decide) ⟨_, rfl⟩ (gp_k hG pb3) (Nat.le_of_ble_eq_true rfl) rfl h (fun r2 σ2 h => ?_)
    refine tn_if_eq (tgt := 86) (pc := 59) hΓ d_X5_odds_59 (by decide) (fun hq => ?_) (fun hq => ?_)
    · have h := h.1 hq
      refine tn_iincw (loc' := fun v_ => [.ref 2, .int y1, .int y2, .int y3, .int y4, .int v_]) (pc := 86) hΓ d_X5_odds_86 rfl ic_1 (by decide) rfl (fun _ => rfl) (fun x1 ex1 => ?_)
      have h := h x1 ex1
      refine tn_goto (tgt := 38) (pc := 89) hΓ d_X5_odds_89 (by decide) ?_
      exact h
    · have h := h.2 hq
      refine tn_iincw (loc' := fun v_ => [.ref 2, .int y1, .int y2, .int y3, .int v_, .int y5]) (pc := 62) hΓ d_X5_odds_62 rfl ic_1 (by decide) rfl (fun _ => rfl) (fun x2 ex2 => ?_)
      have h := h x2 ex2
      refine tn_iload_n (pc := 65) hΓ d_X5_odds_65 rfl ?_
      refine tn_aload_n (pc := 66) hΓ d_X5_odds_66 rfl ?_
      refine tn_getRy (y := 3) (pc := 67) hΓ d_X5_odds_67 fl_5_12 rfl (gd_k hG (c := 2) rfl) (gd_r hG 2 0 3 rfl rfl) ?_
      refine tn_iload (pc := 70) hΓ d_X5_odds_70 rfl ?_
      refine tn_cvI (As := [.int y5]) (st := [.int y3]) (pc := 72) hΓ d_X5_odds_72 mv_X1_weightOfSet im_X1_weightOfSet se_X1_weightOfSet ml_5_179 ⟨⟨by decide, by decide⟩, by decide, by decide⟩ rfl rfl rfl (by decide) ⟨_, rfl⟩ (gp_k hG pb3) (Nat.le_of_ble_eq_true rfl) rfl h (fun r3 σ3 h => ?_)
      refine tn_iload_n (pc := 75) hΓ d_X5_odds_75 rfl ?_
      refine tn_icmp_lt (tgt := 83) (pc := 76) hΓ d_X5_odds_76 (by decide) (fun hq => ?_) (fun hq => ?_)
      · have h := h.1 hq
        refine tn_iconst (pc := 83) hΓ d_X5_odds_83 ic_0 ?_
        refine tn_iadd (pc := 84) hΓ d_X5_odds_84 ?_
        refine tn_topi (fun x3 ex3 => ?_)
        have h := h x3 ex3
        refine tn_istore_n (loc' := [.ref 2, .int y1, .int y2, .int x3, .int x2, .int y5]) (pc := 85) hΓ d_X5_odds_85 (by decide) rfl rfl ?_
        refine tn_iincw (loc' := fun v_ => [.ref 2, .int y1, .int y2, .int x3, .int x2, .int v_]) (pc := 86) hΓ d_X5_odds_86 rfl ic_1 (by decide) rfl (fun _ => rfl) (fun x4 ex4 => ?_)
        have h := h x4 ex4
        refine tn_goto (tgt := 38) (pc := 89) hΓ d_X5_odds_89 (by decide) ?_
        exact h
      · have h := h.2 hq
        refine tn_iconst (pc := 79) hΓ d_X5_odds_79 ic_1 ?_
        refine tn_goto (tgt := 84) (pc := 80) hΓ d_X5_odds_80 (by decide) ?_
        refine tn_iadd (pc := 84) hΓ d_X5_odds_84 ?_
        refine tn_topi (fun x5 ex5 => ?_)
        have h := h x5 ex5
        refine tn_istore_n (loc' := [.ref 2, .int y1, .int y2, .int x5, .int x2, .int y5]) (pc := 85) hΓ d_X5_odds_85 (by decide) rfl rfl ?_
        refine tn_iincw (loc' := fun v_ => [.ref 2, .int y1, .int y2, .int x5, .int x2, .int v_]) (pc := 86) hΓ d_X5_odds_86 rfl ic_1 (by decide) rfl (fun _ => rfl) (fun x6 ex6 => ?_)
        have h := h x6 ex6
        refine tn_goto (tgt := 38) (pc := 89) hΓ d_X5_odds_89 (by decide) ?_
        exact h
theorem k_X5_odds_92 {Γ : tn_G} {ks : List (Nat × Nat)} {ρ : Nat → Nat → Nat} {σ : Nat → Nat → Int32} {K : Option Value → List (Nat × Nat) → (Nat → Nat → Nat) → (Nat → Nat → Int32) → Prop} (hG : tn_Gd ks ρ) (hΓ : tn_is Γ m_X5_odds) (hK : tn_rt Γ m_X5_odds K) (y2 : Int32) (y3 : Int32) (y4 : Int32) (h : ((y4 ≤ (1 : Int32) → ((¬ y2 = 0 → K (some (.long y4.toInt64)) ks ρ σ) ∧ (y2 = 0 → K (some (.long y3.toInt64)) ks ρ σ))) ∧ (¬ y4 ≤ (1 : Int32) → ((¬ (y3 - y3 / (2 : Int32) * (2 : Int32)) = 0 → ((¬ y2 = 0 → K (some (.long y4.toInt64)) ks ρ σ) ∧ (y2 = 0 → K (some (.long y3.toInt64)) ks ρ σ))) ∧ ((y3 - y3 / (2 : Int32) * (2 : Int32)) = 0 → (∀ x1 : Int32, x1 = (y3 / (2 : Int32)) → (∀ x2 : Int32, x2 = (y4 / (2 : Int32)) → tn_A Γ 92 [.null, .null, .int y2, .int x1, .int x2, .null] [] 0 0 ks ρ σ))))))) : tn_A Γ 92 [.null, .null, .int y2, .int y3, .int y4, .null] [] 0 0 ks ρ σ := by
  refine tn_iload (pc := 92) hΓ d_X5_odds_92 rfl ?_
  refine tn_iconst (pc := 94) hΓ d_X5_odds_94 ic_1 ?_
  refine tn_icmp_le (tgt := 117) (pc := 95) hΓ d_X5_odds_95 (by decide) (fun hq => ?_) (fun hq => ?_)
  · have h := h.1 hq
    refine tn_iload_n (pc := 117) hΓ d_X5_odds_117 rfl ?_
    refine tn_if_ne (tgt := 126) (pc := 118) hΓ d_X5_odds_118 (by decide) (fun hq => ?_) (fun hq => ?_)
    · have h := h.1 hq
      refine tn_iload (pc := 126) hΓ d_X5_odds_126 rfl ?_
      refine tn_i2l (pc := 128) hΓ d_X5_odds_128 ?_
      exact tn_ret_l (pc := 129) hΓ hK d_X5_odds_129 rfl (by decide) (by decide) h
    · have h := h.2 hq
      refine tn_iload_n (pc := 121) hΓ d_X5_odds_121 rfl ?_
      refine tn_i2l (pc := 122) hΓ d_X5_odds_122 ?_
      refine tn_goto (tgt := 129) (pc := 123) hΓ d_X5_odds_123 (by decide) ?_
      exact tn_ret_l (pc := 129) hΓ hK d_X5_odds_129 rfl (by decide) (by decide) h
  · have h := h.2 hq
    refine tn_iload_n (pc := 98) hΓ d_X5_odds_98 rfl ?_
    refine tn_iconst (pc := 99) hΓ d_X5_odds_99 ic_2 ?_
    refine tn_irem (pc := 100) hΓ d_X5_odds_100 (by decide) ?_
    refine tn_if_ne (tgt := 117) (pc := 101) hΓ d_X5_odds_101 (by decide) (fun hq => ?_) (fun hq => ?_)
    · have h := h.1 hq
      refine tn_iload_n (pc := 117) hΓ d_X5_odds_117 rfl ?_
      refine tn_if_ne (tgt := 126) (pc := 118) hΓ d_X5_odds_118 (by decide) (fun hq => ?_) (fun hq => ?_)
      · have h := h.1 hq
        refine tn_iload (pc := 126) hΓ d_X5_odds_126 rfl ?_
        refine tn_i2l (pc := 128) hΓ d_X5_odds_128 ?_
        exact tn_ret_l (pc := 129) hΓ hK d_X5_odds_129 rfl (by decide) (by decide) h
      · have h := h.2 hq
        refine tn_iload_n (pc := 121) hΓ d_X5_odds_121 rfl ?_
        refine tn_i2l (pc := 122) hΓ d_X5_odds_122 ?_
        refine tn_goto (tgt := 129) (pc := 123) hΓ d_X5_odds_123 (by decide) ?_
        exact tn_ret_l (pc := 129) hΓ hK d_X5_odds_129 rfl (by decide) (by decide) h
    · have h := h.2 hq
      refine tn_iload_n (pc := 104) hΓ d_X5_odds_104 rfl ?_
      refine tn_iconst (pc := 105) hΓ d_X5_odds_105 ic_2 ?_
      refine tn_idiv (pc := 106) hΓ d_X5_odds_106 (by decide) ?_
      refine tn_topi (fun x1 ex1 => ?_)
      have h := h x1 ex1
      refine tn_istore_n (loc' := [.null, .null, .int y2, .int x1, .int y4, .null]) (pc := 107) hΓ d_X5_odds_107 (by decide) rfl rfl ?_
      refine tn_iload (pc := 108) hΓ d_X5_odds_108 rfl ?_
      refine tn_iconst (pc := 110) hΓ d_X5_odds_110 ic_2 ?_
      refine tn_idiv (pc := 111) hΓ d_X5_odds_111 (by decide) ?_
      refine tn_topi (fun x2 ex2 => ?_)
      have h := h x2 ex2
      refine tn_istore (loc' := [.null, .null, .int y2, .int x1, .int x2, .null]) (pc := 112) hΓ d_X5_odds_112 (by decide) rfl rfl ?_
      refine tn_goto (tgt := 92) (pc := 114) hΓ d_X5_odds_114 (by decide) ?_
      exact h
theorem k_X5_sheet_0 {Γ : tn_G} {ks : List (Nat × Nat)} {ρ : Nat → Nat → Nat} {σ : Nat → Nat → Int32} {K : Option Value → List (Nat × Nat) → (Nat → Nat → Nat) → (Nat → Nat → Int32) → Prop} (hG : tn_Gd ks ρ) (hΓ : tn_is Γ m_X5_sheet) (hK : tn_rt Γ m_X5_sheet K) (a0 : Int32) (a1 : Int32) (a2 : Int32) (h : (∀ σ1, σ1 = tn_u σ 2 9 (0 : Int32) → tn_CI m_X5_isSheet [.int a0] ks ρ σ1 (fun r1 σ2 => ((¬ r1 = 0 → tn_CI m_X5_isLane [.int a1] ks ρ σ2 (fun r2 σ3 => ((r2 = 0 → K (some (.int (-2 : Int32))) ks ρ σ3) ∧ (¬ r2 = 0 → ((a2 ≤ (60 : Int32) → ((0 ≤ a2 → (vp_in a0 4 ∧ tn_CV m_X2_renew [.ref (31 + 2 * a0.toNatClampNeg), .int a1, .int a2] ks ρ σ3 (fun σ4 => K (some (.int (1 : Int32))) ks ρ σ4))) ∧ (¬ 0 ≤ a2 → tn_CI m_X5_faulted [.ref 2, .int (4 : Int32)] ks ρ σ3 (fun r3 σ5 => K (some (.int r3)) ks ρ σ5)))) ∧ (¬ a2 ≤ (60 : Int32) → K (some (.int (-2 : Int32))) ks ρ σ3)))))) ∧ (r1 = 0 → K (some (.int (-1 : Int32))) ks ρ σ2))))) : tn_A Γ 0 [.ref 2, .int a0, .int a1, .int a2] [] 0 0 ks ρ σ := by
  refine tn_aload_n (pc := 0) hΓ d_X5_sheet_0 rfl ?_
  refine tn_iconst (pc := 1) hΓ d_X5_sheet_1 ic_0 ?_
  refine tn_putI (pc := 2) hΓ d_X5_sheet_2 fl_5_47 fk_5_5_9 rfl (gd_k hG (c := 2) rfl)  ?_
  refine tn_tops (fun σ1 eσ1 => ?_)
  have h := h σ1 eσ1
  refine tn_iload_n (pc := 5) hΓ d_X5_sheet_5 rfl ?_
  refine tn_csI (As := [.int a0]) (st := []) (pc := 6) hΓ d_X5_sheet_6 mv_X5_isSheet st_X5_isSheet ml_5_51 ⟨⟨by decide, by decide⟩, by decide, by decide⟩ rfl rfl rfl (Nat.le_of_ble_eq_true rfl) rfl h (fun r1 σ2 h => ?_)
  refine tn_if_ne (tgt := 14) (pc := 9) hΓ d_X5_sheet_9 (by decide) (fun hq => ?_) (fun hq => ?_)
  · have h := h.1 hq
    refine tn_iload_n (pc := 14) hΓ d_X5_sheet_14 rfl ?_
    refine tn_csI (As := [.int a1]) (st := []) (pc := 15) hΓ d_X5_sheet_15 mv_X5_isLane st_X5_isLane ml_5_55 ⟨⟨by decide, by decide⟩, by decide, by decide⟩ rfl rfl rfl (Nat.le_of_ble_eq_true rfl) rfl h (fun r2 σ3 h => ?_)
    refine tn_if_eq (tgt := 27) (pc := 18) hΓ d_X5_sheet_18 (by decide) (fun hq => ?_) (fun hq => ?_)
    · have h := h.1 hq
      refine tn_bipush (pc := 27) hΓ d_X5_sheet_27 bp_m2 ?_
      exact tn_ret_i (pc := 29) hΓ hK d_X5_sheet_29 rfl (by decide) (by decide) h
    · have h := h.2 hq
      refine tn_iload_n (pc := 21) hΓ d_X5_sheet_21 rfl ?_
      refine tn_bipush (pc := 22) hΓ d_X5_sheet_22 bp_60 ?_
      refine tn_icmp_le (tgt := 30) (pc := 24) hΓ d_X5_sheet_24 (by decide) (fun hq => ?_) (fun hq => ?_)
      · have h := h.1 hq
        refine tn_iload_n (pc := 30) hΓ d_X5_sheet_30 rfl ?_
        refine tn_if_ge (tgt := 40) (pc := 31) hΓ d_X5_sheet_31 (by decide) (fun hq => ?_) (fun hq => ?_)
        · have h := h.1 hq
          refine tn_aload_n (pc := 40) hΓ d_X5_sheet_40 rfl ?_
          refine tn_getRy (y := 27) (pc := 41) hΓ d_X5_sheet_41 fl_5_23 rfl (gd_k hG (c := 2) rfl) (gd_r hG 2 2 27 rfl rfl) ?_
          refine tn_iload_n (pc := 44) hΓ d_X5_sheet_44 rfl ?_
          obtain ⟨hi1, h⟩ := h
          refine tn_aaldy (t := 2) (y := (31 + 2 * a0.toNatClampNeg)) (pc := 45) hΓ d_X5_sheet_45 (by decide) (gd_k hG (c := 27) rfl) hi1 (gs_S hG hi1) ?_
          refine tn_iload_n (pc := 46) hΓ d_X5_sheet_46 rfl ?_
          refine tn_iload_n (pc := 47) hΓ d_X5_sheet_47 rfl ?_
          refine tn_cvV (As := [.int a1, .int a2]) (st := []) (pc := 48) hΓ d_X5_sheet_48 mv_X2_renew im_X2_renew se_X2_renew ml_5_203 ⟨⟨by decide, by decide⟩, by decide, by decide⟩ rfl rfl rfl (by decide) ⟨_, rfl⟩ (gs_k hG (gs_b (tn_inN hi1))) (Nat.le_of_ble_eq_true rfl) rfl h (fun σ4 h => ?_)
          refine tn_iconst (pc := 51) hΓ d_X5_sheet_51 ic_1 ?_
          exact tn_ret_i (pc := 52) hΓ hK d_X5_sheet_52 rfl (by decide) (by decide) h
        · have h := h.2 hq
          refine tn_aload_n (pc := 34) hΓ d_X5_sheet_34 rfl ?_
          refine tn_iconst (pc := 35) hΓ d_X5_sheet_35 ic_4 ?_
          refine tn_cvI (As := [.int (4 : Int32)]) (st := []) (pc := 36) hΓ d_X5_sheet_36 mv_X5_faulted im_X5_faulted se_X5_faulted ml_5_62 ⟨⟨by decide, by decide⟩, by decide, by decide⟩ rfl rfl rfl (by decide) ⟨_, rfl⟩ (gd_k hG (c := 2) rfl) (Nat.le_of_ble_eq_true rfl) rfl h (fun r3 σ5 h => ?_)
          exact tn_ret_i (pc := 39) hΓ hK d_X5_sheet_39 rfl (by decide) (by decide) h
      · have h := h.2 hq
        refine tn_bipush (pc := 27) hΓ d_X5_sheet_27 bp_m2 ?_
        exact tn_ret_i (pc := 29) hΓ hK d_X5_sheet_29 rfl (by decide) (by decide) h
  · have h := h.2 hq
    refine tn_iconst (pc := 12) hΓ d_X5_sheet_12 ic_m1 ?_
    exact tn_ret_i (pc := 13) hΓ hK d_X5_sheet_13 rfl (by decide) (by decide) h
theorem k_X5_lose_0 {Γ : tn_G} {ks : List (Nat × Nat)} {ρ : Nat → Nat → Nat} {σ : Nat → Nat → Int32} {K : Option Value → List (Nat × Nat) → (Nat → Nat → Nat) → (Nat → Nat → Int32) → Prop} (hG : tn_Gd ks ρ) (hΓ : tn_is Γ m_X5_lose) (hK : tn_rt Γ m_X5_lose K) (a0 : Int32) (h : tn_CI m_X5_isSheet [.int a0] ks ρ σ (fun r1 σ1 => ((¬ r1 = 0 → (vp_in a0 4 ∧ (((σ1 (31 + 2 * a0.toNatClampNeg) 1) = 0 → (∀ σ2, σ2 = tn_u σ1 (31 + 2 * a0.toNatClampNeg) 1 (0 : Int32) → K (some (.int (0 : Int32))) ks ρ σ2)) ∧ (¬ (σ1 (31 + 2 * a0.toNatClampNeg) 1) = 0 → (∀ σ3, σ3 = tn_u σ1 (31 + 2 * a0.toNatClampNeg) 1 (0 : Int32) → K (some (.int (1 : Int32))) ks ρ σ3))))) ∧ (r1 = 0 → K (some (.int (-1 : Int32))) ks ρ σ1)))) : tn_A Γ 0 [.ref 2, .int a0, .null] [] 0 0 ks ρ σ := by
  refine tn_iload_n (pc := 0) hΓ d_X5_lose_0 rfl ?_
  refine tn_csI (As := [.int a0]) (st := []) (pc := 1) hΓ d_X5_lose_1 mv_X5_isSheet st_X5_isSheet ml_5_51 ⟨⟨by decide, by decide⟩, by decide, by decide⟩ rfl rfl rfl (Nat.le_of_ble_eq_true rfl) rfl h (fun r1 σ1 h => ?_)
  refine tn_if_ne (tgt := 9) (pc := 4) hΓ d_X5_lose_4 (by decide) (fun hq => ?_) (fun hq => ?_)
  · have h := h.1 hq
    refine tn_aload_n (pc := 9) hΓ d_X5_lose_9 rfl ?_
    refine tn_getRy (y := 27) (pc := 10) hΓ d_X5_lose_10 fl_5_23 rfl (gd_k hG (c := 2) rfl) (gd_r hG 2 2 27 rfl rfl) ?_
    refine tn_iload_n (pc := 13) hΓ d_X5_lose_13 rfl ?_
    obtain ⟨hi1, h⟩ := h
    refine tn_aaldy (t := 2) (y := (31 + 2 * a0.toNatClampNeg)) (pc := 14) hΓ d_X5_lose_14 (by decide) (gd_k hG (c := 27) rfl) hi1 (gs_S hG hi1) ?_
    refine tn_getI (pc := 15) hΓ d_X5_lose_15 fl_5_207 rfl (gs_k hG (gs_b (tn_inN hi1))) ?_
    refine tn_if_eq (tgt := 25) (pc := 18) hΓ d_X5_lose_18 (by decide) (fun hq => ?_) (fun hq => ?_)
    · have h := h.1 hq
      refine tn_iconst (pc := 25) hΓ d_X5_lose_25 ic_0 ?_
      refine tn_istore_n (loc' := [.ref 2, .int a0, .int (0 : Int32)]) (pc := 26) hΓ d_X5_lose_26 (by decide) rfl rfl ?_
      refine tn_aload_n (pc := 27) hΓ d_X5_lose_27 rfl ?_
      refine tn_getRy (y := 27) (pc := 28) hΓ d_X5_lose_28 fl_5_23 rfl (gd_k hG (c := 2) rfl) (gd_r hG 2 2 27 rfl rfl) ?_
      refine tn_iload_n (pc := 31) hΓ d_X5_lose_31 rfl ?_
      refine tn_aaldy (t := 2) (y := (31 + 2 * a0.toNatClampNeg)) (pc := 32) hΓ d_X5_lose_32 (by decide) (gd_k hG (c := 27) rfl) hi1 (gs_S hG hi1) ?_
      refine tn_iconst (pc := 33) hΓ d_X5_lose_33 ic_0 ?_
      refine tn_putZ (pc := 34) hΓ d_X5_lose_34 fl_5_207 fk_5_2_1 rfl (gs_k hG (gs_b (tn_inN hi1))) (Or.inl rfl) ?_
      refine tn_tops (fun σ2 eσ2 => ?_)
      have h := h σ2 eσ2
      refine tn_iload_n (pc := 37) hΓ d_X5_lose_37 rfl ?_
      exact tn_ret_i (pc := 38) hΓ hK d_X5_lose_38 rfl (by decide) (by decide) h
    · have h := h.2 hq
      refine tn_iconst (pc := 21) hΓ d_X5_lose_21 ic_1 ?_
      refine tn_goto (tgt := 26) (pc := 22) hΓ d_X5_lose_22 (by decide) ?_
      refine tn_istore_n (loc' := [.ref 2, .int a0, .int (1 : Int32)]) (pc := 26) hΓ d_X5_lose_26 (by decide) rfl rfl ?_
      refine tn_aload_n (pc := 27) hΓ d_X5_lose_27 rfl ?_
      refine tn_getRy (y := 27) (pc := 28) hΓ d_X5_lose_28 fl_5_23 rfl (gd_k hG (c := 2) rfl) (gd_r hG 2 2 27 rfl rfl) ?_
      refine tn_iload_n (pc := 31) hΓ d_X5_lose_31 rfl ?_
      refine tn_aaldy (t := 2) (y := (31 + 2 * a0.toNatClampNeg)) (pc := 32) hΓ d_X5_lose_32 (by decide) (gd_k hG (c := 27) rfl) hi1 (gs_S hG hi1) ?_
      refine tn_iconst (pc := 33) hΓ d_X5_lose_33 ic_0 ?_
      refine tn_putZ (pc := 34) hΓ d_X5_lose_34 fl_5_207 fk_5_2_1 rfl (gs_k hG (gs_b (tn_inN hi1))) (Or.inl rfl) ?_
      refine tn_tops (fun σ3 eσ3 => ?_)
      have h := h σ3 eσ3
      refine tn_iload_n (pc := 37) hΓ d_X5_lose_37 rfl ?_
      exact tn_ret_i (pc := 38) hΓ hK d_X5_lose_38 rfl (by decide) (by decide) h
  · have h := h.2 hq
    refine tn_iconst (pc := 7) hΓ d_X5_lose_7 ic_m1 ?_
    exact tn_ret_i (pc := 8) hΓ hK d_X5_lose_8 rfl (by decide) (by decide) h
theorem k_X5_put_0 {Γ : tn_G} {ks : List (Nat × Nat)} {ρ : Nat → Nat → Nat} {σ : Nat → Nat → Int32} {K : Option Value → List (Nat × Nat) → (Nat → Nat → Nat) → (Nat → Nat → Int32) → Prop} (hG : tn_Gd ks ρ) (hΓ : tn_is Γ m_X5_put) (hK : tn_rt Γ m_X5_put K) (a0 : Int32) (a1 : Int32) (a2 : Int32) (h : (∀ σ1, σ1 = tn_u σ 2 9 (0 : Int32) → tn_CI m_X5_isSheet [.int a0] ks ρ σ1 (fun r1 σ2 => ((¬ r1 = 0 → (vp_in a0 4 ∧ ((¬ (σ2 (31 + 2 * a0.toNatClampNeg) 1) = 0 → tn_CI m_X2_hasCells [.ref (31 + 2 * a0.toNatClampNeg), .int a1, .int (1 : Int32)] ks ρ σ2 (fun r2 σ3 => ((¬ r2 = 0 → tn_CI m_X2_cutToLane [.ref (31 + 2 * a0.toNatClampNeg), .int a2] ks ρ σ3 (fun r3 σ4 => (vp_in a1 60 ∧ (∀ σ5, σ5 = tn_u σ4 ((31 + 2 * a0.toNatClampNeg) + 1) a1.toNatClampNeg r3 → K (some (.int (1 : Int32))) ks ρ σ5)))) ∧ (r2 = 0 → tn_CI m_X5_faulted [.ref 2, .int (3 : Int32)] ks ρ σ3 (fun r4 σ6 => K (some (.int r4)) ks ρ σ6))))) ∧ ((σ2 (31 + 2 * a0.toNatClampNeg) 1) = 0 → tn_CI m_X5_faulted [.ref 2, .int (1 : Int32)] ks ρ σ2 (fun r5 σ7 => K (some (.int r5)) ks ρ σ7))))) ∧ (r1 = 0 → K (some (.int (-1 : Int32))) ks ρ σ2))))) : tn_A Γ 0 [.ref 2, .int a0, .int a1, .int a2, .null] [] 0 0 ks ρ σ := by
  refine tn_aload_n (pc := 0) hΓ d_X5_put_0 rfl ?_
  refine tn_iconst (pc := 1) hΓ d_X5_put_1 ic_0 ?_
  refine tn_putI (pc := 2) hΓ d_X5_put_2 fl_5_47 fk_5_5_9 rfl (gd_k hG (c := 2) rfl)  ?_
  refine tn_tops (fun σ1 eσ1 => ?_)
  have h := h σ1 eσ1
  refine tn_iload_n (pc := 5) hΓ d_X5_put_5 rfl ?_
  refine tn_csI (As := [.int a0]) (st := []) (pc := 6) hΓ d_X5_put_6 mv_X5_isSheet st_X5_isSheet ml_5_51 ⟨⟨by decide, by decide⟩, by decide, by decide⟩ rfl rfl rfl (Nat.le_of_ble_eq_true rfl) rfl h (fun r1 σ2 h => ?_)
  refine tn_if_ne (tgt := 14) (pc := 9) hΓ d_X5_put_9 (by decide) (fun hq => ?_) (fun hq => ?_)
  · have h := h.1 hq
    refine tn_aload_n (pc := 14) hΓ d_X5_put_14 rfl ?_
    refine tn_getRy (y := 27) (pc := 15) hΓ d_X5_put_15 fl_5_23 rfl (gd_k hG (c := 2) rfl) (gd_r hG 2 2 27 rfl rfl) ?_
    refine tn_iload_n (pc := 18) hΓ d_X5_put_18 rfl ?_
    obtain ⟨hi1, h⟩ := h
    refine tn_aaldy (t := 2) (y := (31 + 2 * a0.toNatClampNeg)) (pc := 19) hΓ d_X5_put_19 (by decide) (gd_k hG (c := 27) rfl) hi1 (gs_S hG hi1) ?_
    refine tn_astore (loc' := [.ref 2, .int a0, .int a1, .int a2, .ref (31 + 2 * a0.toNatClampNeg)]) (pc := 20) hΓ d_X5_put_20 (by decide) rfl rfl ?_
    refine tn_aload (pc := 22) hΓ d_X5_put_22 rfl ?_
    refine tn_getI (pc := 24) hΓ d_X5_put_24 fl_5_207 rfl (gs_k hG (gs_b (tn_inN hi1))) ?_
    refine tn_if_ne (tgt := 36) (pc := 27) hΓ d_X5_put_27 (by decide) (fun hq => ?_) (fun hq => ?_)
    · have h := h.1 hq
      refine tn_aload (pc := 36) hΓ d_X5_put_36 rfl ?_
      refine tn_iload_n (pc := 38) hΓ d_X5_put_38 rfl ?_
      refine tn_iconst (pc := 39) hΓ d_X5_put_39 ic_1 ?_
      refine tn_cvI (As := [.int a1, .int (1 : Int32)]) (st := []) (pc := 40) hΓ d_X5_put_40 mv_X2_hasCells im_X2_hasCells se_X2_hasCells ml_5_210 ⟨⟨by decide, by decide⟩, by decide, by decide⟩ rfl rfl rfl (by decide) ⟨_, rfl⟩ (gs_k hG (gs_b (tn_inN hi1))) (Nat.le_of_ble_eq_true rfl) rfl h (fun r2 σ3 h => ?_)
      refine tn_if_ne (tgt := 52) (pc := 43) hΓ d_X5_put_43 (by decide) (fun hq => ?_) (fun hq => ?_)
      · have h := h.1 hq
        refine tn_aload (pc := 52) hΓ d_X5_put_52 rfl ?_
        refine tn_getRy (y := (31 + 2 * a0.toNatClampNeg) + 1) (pc := 54) hΓ d_X5_put_54 fl_5_213 rfl (gs_k hG (gs_b (tn_inN hi1))) (gs_c hG (gs_b (tn_inN hi1))) ?_
        refine tn_iload_n (pc := 57) hΓ d_X5_put_57 rfl ?_
        refine tn_aload (pc := 58) hΓ d_X5_put_58 rfl ?_
        refine tn_iload_n (pc := 60) hΓ d_X5_put_60 rfl ?_
        refine tn_cvI (As := [.int a2]) (st := [.int a1, .ref ((31 + 2 * a0.toNatClampNeg) + 1)]) (pc := 61) hΓ d_X5_put_61 mv_X2_cutToLane im_X2_cutToLane se_X2_cutToLane ml_5_216 ⟨⟨by decide, by decide⟩, by decide, by decide⟩ rfl rfl rfl (by decide) ⟨_, rfl⟩ (gs_k hG (gs_b (tn_inN hi1))) (Nat.le_of_ble_eq_true rfl) rfl h (fun r3 σ4 h => ?_)
        obtain ⟨hi2, h⟩ := h
        refine tn_ast (pc := 64) hΓ d_X5_put_64 (gs_kc hG (gs_b (tn_inN hi1))) hi2 ?_
        refine tn_tops (fun σ5 eσ5 => ?_)
        have h := h σ5 eσ5
        refine tn_iconst (pc := 65) hΓ d_X5_put_65 ic_1 ?_
        exact tn_ret_i (pc := 66) hΓ hK d_X5_put_66 rfl (by decide) (by decide) h
      · have h := h.2 hq
        refine tn_aload_n (pc := 46) hΓ d_X5_put_46 rfl ?_
        refine tn_iconst (pc := 47) hΓ d_X5_put_47 ic_3 ?_
        refine tn_cvI (As := [.int (3 : Int32)]) (st := []) (pc := 48) hΓ d_X5_put_48 mv_X5_faulted im_X5_faulted se_X5_faulted ml_5_62 ⟨⟨by decide, by decide⟩, by decide, by decide⟩ rfl rfl rfl (by decide) ⟨_, rfl⟩ (gd_k hG (c := 2) rfl) (Nat.le_of_ble_eq_true rfl) rfl h (fun r4 σ6 h => ?_)
        exact tn_ret_i (pc := 51) hΓ hK d_X5_put_51 rfl (by decide) (by decide) h
    · have h := h.2 hq
      refine tn_aload_n (pc := 30) hΓ d_X5_put_30 rfl ?_
      refine tn_iconst (pc := 31) hΓ d_X5_put_31 ic_1 ?_
      refine tn_cvI (As := [.int (1 : Int32)]) (st := []) (pc := 32) hΓ d_X5_put_32 mv_X5_faulted im_X5_faulted se_X5_faulted ml_5_62 ⟨⟨by decide, by decide⟩, by decide, by decide⟩ rfl rfl rfl (by decide) ⟨_, rfl⟩ (gd_k hG (c := 2) rfl) (Nat.le_of_ble_eq_true rfl) rfl h (fun r5 σ7 h => ?_)
      exact tn_ret_i (pc := 35) hΓ hK d_X5_put_35 rfl (by decide) (by decide) h
  · have h := h.2 hq
    refine tn_iconst (pc := 12) hΓ d_X5_put_12 ic_m1 ?_
    exact tn_ret_i (pc := 13) hΓ hK d_X5_put_13 rfl (by decide) (by decide) h
theorem k_X5_cell_0 {Γ : tn_G} {ks : List (Nat × Nat)} {ρ : Nat → Nat → Nat} {σ : Nat → Nat → Int32} {K : Option Value → List (Nat × Nat) → (Nat → Nat → Nat) → (Nat → Nat → Int32) → Prop} (hG : tn_Gd ks ρ) (hΓ : tn_is Γ m_X5_cell) (hK : tn_rt Γ m_X5_cell K) (a0 : Int32) (a1 : Int32) (a2 : Int32) (h : (∀ σ1, σ1 = tn_u σ 2 9 (0 : Int32) → tn_CI m_X5_isSheet [.int a0] ks ρ σ1 (fun r1 σ2 => ((r1 = 0 → K (some (.long (-9223372036854775808 : Int64))) ks ρ σ2) ∧ (¬ r1 = 0 → tn_CI m_X5_isLane [.int a2] ks ρ σ2 (fun r2 σ3 => ((¬ r2 = 0 → (vp_in a0 4 ∧ tn_CI m_X5_faultOfCells [.ref (31 + 2 * a0.toNatClampNeg), .int a2, .int a1, .int (1 : Int32)] ks ρ σ3 (fun r3 σ4 => ((r3 = 0 → (vp_in a1 60 ∧ K (some (.long ((σ4 ((31 + 2 * a0.toNatClampNeg) + 1) a1.toNatClampNeg).toInt64))) ks ρ σ4)) ∧ (¬ r3 = 0 → (∀ σ5, σ5 = tn_u σ4 2 9 r3 → K (some (.long (-9223372036854775808 : Int64))) ks ρ σ5)))))) ∧ (r2 = 0 → K (some (.long (-9223372036854775808 : Int64))) ks ρ σ3)))))))) : tn_A Γ 0 [.ref 2, .int a0, .int a1, .int a2, .null, .null] [] 0 0 ks ρ σ := by
  refine tn_aload_n (pc := 0) hΓ d_X5_cell_0 rfl ?_
  refine tn_iconst (pc := 1) hΓ d_X5_cell_1 ic_0 ?_
  refine tn_putI (pc := 2) hΓ d_X5_cell_2 fl_5_47 fk_5_5_9 rfl (gd_k hG (c := 2) rfl)  ?_
  refine tn_tops (fun σ1 eσ1 => ?_)
  have h := h σ1 eσ1
  refine tn_iload_n (pc := 5) hΓ d_X5_cell_5 rfl ?_
  refine tn_csI (As := [.int a0]) (st := []) (pc := 6) hΓ d_X5_cell_6 mv_X5_isSheet st_X5_isSheet ml_5_51 ⟨⟨by decide, by decide⟩, by decide, by decide⟩ rfl rfl rfl (Nat.le_of_ble_eq_true rfl) rfl h (fun r1 σ2 h => ?_)
  refine tn_if_eq (tgt := 19) (pc := 9) hΓ d_X5_cell_9 (by decide) (fun hq => ?_) (fun hq => ?_)
  · have h := h.1 hq
    refine tn_ldc2 (pc := 19) hΓ kc_5_201 d_X5_cell_19 ?_
    exact tn_ret_l (pc := 22) hΓ hK d_X5_cell_22 rfl (by decide) (by decide) h
  · have h := h.2 hq
    refine tn_iload_n (pc := 12) hΓ d_X5_cell_12 rfl ?_
    refine tn_csI (As := [.int a2]) (st := []) (pc := 13) hΓ d_X5_cell_13 mv_X5_isLane st_X5_isLane ml_5_55 ⟨⟨by decide, by decide⟩, by decide, by decide⟩ rfl rfl rfl (Nat.le_of_ble_eq_true rfl) rfl h (fun r2 σ3 h => ?_)
    refine tn_if_ne (tgt := 23) (pc := 16) hΓ d_X5_cell_16 (by decide) (fun hq => ?_) (fun hq => ?_)
    · have h := h.1 hq
      refine tn_aload_n (pc := 23) hΓ d_X5_cell_23 rfl ?_
      refine tn_getRy (y := 27) (pc := 24) hΓ d_X5_cell_24 fl_5_23 rfl (gd_k hG (c := 2) rfl) (gd_r hG 2 2 27 rfl rfl) ?_
      refine tn_iload_n (pc := 27) hΓ d_X5_cell_27 rfl ?_
      obtain ⟨hi1, h⟩ := h
      refine tn_aaldy (t := 2) (y := (31 + 2 * a0.toNatClampNeg)) (pc := 28) hΓ d_X5_cell_28 (by decide) (gd_k hG (c := 27) rfl) hi1 (gs_S hG hi1) ?_
      refine tn_astore (loc' := [.ref 2, .int a0, .int a1, .int a2, .ref (31 + 2 * a0.toNatClampNeg), .null]) (pc := 29) hΓ d_X5_cell_29 (by decide) rfl rfl ?_
      refine tn_aload (pc := 31) hΓ d_X5_cell_31 rfl ?_
      refine tn_iload_n (pc := 33) hΓ d_X5_cell_33 rfl ?_
      refine tn_iload_n (pc := 34) hΓ d_X5_cell_34 rfl ?_
      refine tn_iconst (pc := 35) hΓ d_X5_cell_35 ic_1 ?_
      refine tn_csI (As := [.ref (31 + 2 * a0.toNatClampNeg), .int a2, .int a1, .int (1 : Int32)]) (st := []) (pc := 36) hΓ d_X5_cell_36 mv_X5_faultOfCells st_X5_faultOfCells ml_5_58 ⟨⟨by decide, by decide⟩, by decide, by decide⟩ rfl rfl rfl (Nat.le_of_ble_eq_true rfl) rfl h (fun r3 σ4 h => ?_)
      refine tn_istore (loc' := [.ref 2, .int a0, .int a1, .int a2, .ref (31 + 2 * a0.toNatClampNeg), .int r3]) (pc := 39) hΓ d_X5_cell_39 (by decide) rfl rfl ?_
      refine tn_iload (pc := 41) hΓ d_X5_cell_41 rfl ?_
      refine tn_if_eq (tgt := 56) (pc := 43) hΓ d_X5_cell_43 (by decide) (fun hq => ?_) (fun hq => ?_)
      · have h := h.1 hq
        refine tn_aload (pc := 56) hΓ d_X5_cell_56 rfl ?_
        refine tn_getRy (y := (31 + 2 * a0.toNatClampNeg) + 1) (pc := 58) hΓ d_X5_cell_58 fl_5_213 rfl (gs_k hG (gs_b (tn_inN hi1))) (gs_c hG (gs_b (tn_inN hi1))) ?_
        refine tn_iload_n (pc := 61) hΓ d_X5_cell_61 rfl ?_
        obtain ⟨hi2, h⟩ := h
        refine tn_ald (pc := 62) hΓ d_X5_cell_62 (gs_kc hG (gs_b (tn_inN hi1))) hi2 ?_
        refine tn_i2l (pc := 63) hΓ d_X5_cell_63 ?_
        exact tn_ret_l (pc := 64) hΓ hK d_X5_cell_64 rfl (by decide) (by decide) h
      · have h := h.2 hq
        refine tn_aload_n (pc := 46) hΓ d_X5_cell_46 rfl ?_
        refine tn_iload (pc := 47) hΓ d_X5_cell_47 rfl ?_
        refine tn_putI (pc := 49) hΓ d_X5_cell_49 fl_5_47 fk_5_5_9 rfl (gd_k hG (c := 2) rfl)  ?_
        refine tn_tops (fun σ5 eσ5 => ?_)
        have h := h σ5 eσ5
        refine tn_ldc2 (pc := 52) hΓ kc_5_201 d_X5_cell_52 ?_
        exact tn_ret_l (pc := 55) hΓ hK d_X5_cell_55 rfl (by decide) (by decide) h
    · have h := h.2 hq
      refine tn_ldc2 (pc := 19) hΓ kc_5_201 d_X5_cell_19 ?_
      exact tn_ret_l (pc := 22) hΓ hK d_X5_cell_22 rfl (by decide) (by decide) h
theorem k_X5_copy_0 {Γ : tn_G} {ks : List (Nat × Nat)} {ρ : Nat → Nat → Nat} {σ : Nat → Nat → Int32} {K : Option Value → List (Nat × Nat) → (Nat → Nat → Nat) → (Nat → Nat → Int32) → Prop} (hG : tn_Gd ks ρ) (hΓ : tn_is Γ m_X5_copy) (hK : tn_rt Γ m_X5_copy K) (a0 : Int32) (a1 : Int32) (a2 : Int32) (a3 : Int32) (a4 : Int32) (h : (∀ σ1, σ1 = tn_u σ 2 9 (0 : Int32) → tn_CI m_X5_isSheet [.int a0] ks ρ σ1 (fun r1 σ2 => ((r1 = 0 → K (some (.int (-1 : Int32))) ks ρ σ2) ∧ (¬ r1 = 0 → tn_CI m_X5_isSheet [.int a2] ks ρ σ2 (fun r2 σ3 => ((¬ r2 = 0 → (vp_in a0 4 ∧ (vp_in a2 4 ∧ (((σ3 (31 + 2 * a0.toNatClampNeg) 1) = 0 → tn_CI m_X5_faulted [.ref 2, .int (1 : Int32)] ks ρ σ3 (fun r3 σ4 => K (some (.int r3)) ks ρ σ4)) ∧ (¬ (σ3 (31 + 2 * a0.toNatClampNeg) 1) = 0 → ((¬ (σ3 (31 + 2 * a2.toNatClampNeg) 1) = 0 → (((σ3 (31 + 2 * a0.toNatClampNeg) 2) = (σ3 (31 + 2 * a2.toNatClampNeg) 2) → tn_CI m_X2_hasCells [.ref (31 + 2 * a0.toNatClampNeg), .int a1, .int a4] ks ρ σ3 (fun r4 σ5 => ((r4 = 0 → tn_CI m_X5_faulted [.ref 2, .int (3 : Int32)] ks ρ σ5 (fun r5 σ6 => K (some (.int r5)) ks ρ σ6)) ∧ (¬ r4 = 0 → tn_CI m_X2_hasCells [.ref (31 + 2 * a2.toNatClampNeg), .int a3, .int a4] ks ρ σ5 (fun r6 σ7 => ((¬ r6 = 0 → (¬ a1 < 0 ∧ ¬ a3 < 0 ∧ ¬ a4 < 0 ∧ a1.toNatClampNeg + a4.toNatClampNeg ≤ 60 ∧ a3.toNatClampNeg + a4.toNatClampNeg ≤ 60 ∧ ∀ σ8, σ8 = (fun c_ => if c_ = (31 + 2 * a2.toNatClampNeg) + 1 then va_cpy (σ7 ((31 + 2 * a0.toNatClampNeg) + 1)) (σ7 ((31 + 2 * a2.toNatClampNeg) + 1)) a1.toNatClampNeg a3.toNatClampNeg a4.toNatClampNeg else σ7 c_) → K (some (.int a4)) ks ρ σ8)) ∧ (r6 = 0 → tn_CI m_X5_faulted [.ref 2, .int (3 : Int32)] ks ρ σ7 (fun r7 σ9 => K (some (.int r7)) ks ρ σ9)))))))) ∧ (¬ (σ3 (31 + 2 * a0.toNatClampNeg) 2) = (σ3 (31 + 2 * a2.toNatClampNeg) 2) → tn_CI m_X5_faulted [.ref 2, .int (2 : Int32)] ks ρ σ3 (fun r8 σ10 => K (some (.int r8)) ks ρ σ10)))) ∧ ((σ3 (31 + 2 * a2.toNatClampNeg) 1) = 0 → tn_CI m_X5_faulted [.ref 2, .int (1 : Int32)] ks ρ σ3 (fun r9 σ11 => K (some (.int r9)) ks ρ σ11)))))))) ∧ (r2 = 0 → K (some (.int (-1 : Int32))) ks ρ σ3)))))))) : tn_A Γ 0 [.ref 2, .int a0, .int a1, .int a2, .int a3, .int a4, .null, .null] [] 0 0 ks ρ σ := by
  refine tn_aload_n (pc := 0) hΓ d_X5_copy_0 rfl ?_
  refine tn_iconst (pc := 1) hΓ d_X5_copy_1 ic_0 ?_
  refine tn_putI (pc := 2) hΓ d_X5_copy_2 fl_5_47 fk_5_5_9 rfl (gd_k hG (c := 2) rfl)  ?_
  refine tn_tops (fun σ1 eσ1 => ?_)
  have h := h σ1 eσ1
  refine tn_iload_n (pc := 5) hΓ d_X5_copy_5 rfl ?_
  refine tn_csI (As := [.int a0]) (st := []) (pc := 6) hΓ d_X5_copy_6 mv_X5_isSheet st_X5_isSheet ml_5_51 ⟨⟨by decide, by decide⟩, by decide, by decide⟩ rfl rfl rfl (Nat.le_of_ble_eq_true rfl) rfl h (fun r1 σ2 h => ?_)
  refine tn_if_eq (tgt := 19) (pc := 9) hΓ d_X5_copy_9 (by decide) (fun hq => ?_) (fun hq => ?_)
  · have h := h.1 hq
    refine tn_iconst (pc := 19) hΓ d_X5_copy_19 ic_m1 ?_
    exact tn_ret_i (pc := 20) hΓ hK d_X5_copy_20 rfl (by decide) (by decide) h
  · have h := h.2 hq
    refine tn_iload_n (pc := 12) hΓ d_X5_copy_12 rfl ?_
    refine tn_csI (As := [.int a2]) (st := []) (pc := 13) hΓ d_X5_copy_13 mv_X5_isSheet st_X5_isSheet ml_5_51 ⟨⟨by decide, by decide⟩, by decide, by decide⟩ rfl rfl rfl (Nat.le_of_ble_eq_true rfl) rfl h (fun r2 σ3 h => ?_)
    refine tn_if_ne (tgt := 21) (pc := 16) hΓ d_X5_copy_16 (by decide) (fun hq => ?_) (fun hq => ?_)
    · have h := h.1 hq
      refine tn_aload_n (pc := 21) hΓ d_X5_copy_21 rfl ?_
      refine tn_getRy (y := 27) (pc := 22) hΓ d_X5_copy_22 fl_5_23 rfl (gd_k hG (c := 2) rfl) (gd_r hG 2 2 27 rfl rfl) ?_
      refine tn_iload_n (pc := 25) hΓ d_X5_copy_25 rfl ?_
      obtain ⟨hi1, h⟩ := h
      refine tn_aaldy (t := 2) (y := (31 + 2 * a0.toNatClampNeg)) (pc := 26) hΓ d_X5_copy_26 (by decide) (gd_k hG (c := 27) rfl) hi1 (gs_S hG hi1) ?_
      refine tn_astore (loc' := [.ref 2, .int a0, .int a1, .int a2, .int a3, .int a4, .ref (31 + 2 * a0.toNatClampNeg), .null]) (pc := 27) hΓ d_X5_copy_27 (by decide) rfl rfl ?_
      refine tn_aload_n (pc := 29) hΓ d_X5_copy_29 rfl ?_
      refine tn_getRy (y := 27) (pc := 30) hΓ d_X5_copy_30 fl_5_23 rfl (gd_k hG (c := 2) rfl) (gd_r hG 2 2 27 rfl rfl) ?_
      refine tn_iload_n (pc := 33) hΓ d_X5_copy_33 rfl ?_
      obtain ⟨hi2, h⟩ := h
      refine tn_aaldy (t := 2) (y := (31 + 2 * a2.toNatClampNeg)) (pc := 34) hΓ d_X5_copy_34 (by decide) (gd_k hG (c := 27) rfl) hi2 (gs_S hG hi2) ?_
      refine tn_astore (loc' := [.ref 2, .int a0, .int a1, .int a2, .int a3, .int a4, .ref (31 + 2 * a0.toNatClampNeg), .ref (31 + 2 * a2.toNatClampNeg)]) (pc := 35) hΓ d_X5_copy_35 (by decide) rfl rfl ?_
      refine tn_aload (pc := 37) hΓ d_X5_copy_37 rfl ?_
      refine tn_getI (pc := 39) hΓ d_X5_copy_39 fl_5_207 rfl (gs_k hG (gs_b (tn_inN hi1))) ?_
      refine tn_if_eq (tgt := 53) (pc := 42) hΓ d_X5_copy_42 (by decide) (fun hq => ?_) (fun hq => ?_)
      · have h := h.1 hq
        refine tn_aload_n (pc := 53) hΓ d_X5_copy_53 rfl ?_
        refine tn_iconst (pc := 54) hΓ d_X5_copy_54 ic_1 ?_
        refine tn_cvI (As := [.int (1 : Int32)]) (st := []) (pc := 55) hΓ d_X5_copy_55 mv_X5_faulted im_X5_faulted se_X5_faulted ml_5_62 ⟨⟨by decide, by decide⟩, by decide, by decide⟩ rfl rfl rfl (by decide) ⟨_, rfl⟩ (gd_k hG (c := 2) rfl) (Nat.le_of_ble_eq_true rfl) rfl h (fun r3 σ4 h => ?_)
        exact tn_ret_i (pc := 58) hΓ hK d_X5_copy_58 rfl (by decide) (by decide) h
      · have h := h.2 hq
        refine tn_aload (pc := 45) hΓ d_X5_copy_45 rfl ?_
        refine tn_getI (pc := 47) hΓ d_X5_copy_47 fl_5_207 rfl (gs_k hG (gs_b (tn_inN hi2))) ?_
        refine tn_if_ne (tgt := 59) (pc := 50) hΓ d_X5_copy_50 (by decide) (fun hq => ?_) (fun hq => ?_)
        · have h := h.1 hq
          refine tn_aload (pc := 59) hΓ d_X5_copy_59 rfl ?_
          refine tn_getI (pc := 61) hΓ d_X5_copy_61 fl_5_219 rfl (gs_k hG (gs_b (tn_inN hi1))) ?_
          refine tn_aload (pc := 64) hΓ d_X5_copy_64 rfl ?_
          refine tn_getI (pc := 66) hΓ d_X5_copy_66 fl_5_219 rfl (gs_k hG (gs_b (tn_inN hi2))) ?_
          refine tn_icmp_eq (tgt := 78) (pc := 69) hΓ d_X5_copy_69 (by decide) (fun hq => ?_) (fun hq => ?_)
          · have h := h.1 hq
            refine tn_aload (pc := 78) hΓ d_X5_copy_78 rfl ?_
            refine tn_iload_n (pc := 80) hΓ d_X5_copy_80 rfl ?_
            refine tn_iload (pc := 81) hΓ d_X5_copy_81 rfl ?_
            refine tn_cvI (As := [.int a1, .int a4]) (st := []) (pc := 83) hΓ d_X5_copy_83 mv_X2_hasCells im_X2_hasCells se_X2_hasCells ml_5_210 ⟨⟨by decide, by decide⟩, by decide, by decide⟩ rfl rfl rfl (by decide) ⟨_, rfl⟩ (gs_k hG (gs_b (tn_inN hi1))) (Nat.le_of_ble_eq_true rfl) rfl h (fun r4 σ5 h => ?_)
            refine tn_if_eq (tgt := 101) (pc := 86) hΓ d_X5_copy_86 (by decide) (fun hq => ?_) (fun hq => ?_)
            · have h := h.1 hq
              refine tn_aload_n (pc := 101) hΓ d_X5_copy_101 rfl ?_
              refine tn_iconst (pc := 102) hΓ d_X5_copy_102 ic_3 ?_
              refine tn_cvI (As := [.int (3 : Int32)]) (st := []) (pc := 103) hΓ d_X5_copy_103 mv_X5_faulted im_X5_faulted se_X5_faulted ml_5_62 ⟨⟨by decide, by decide⟩, by decide, by decide⟩ rfl rfl rfl (by decide) ⟨_, rfl⟩ (gd_k hG (c := 2) rfl) (Nat.le_of_ble_eq_true rfl) rfl h (fun r5 σ6 h => ?_)
              exact tn_ret_i (pc := 106) hΓ hK d_X5_copy_106 rfl (by decide) (by decide) h
            · have h := h.2 hq
              refine tn_aload (pc := 89) hΓ d_X5_copy_89 rfl ?_
              refine tn_iload (pc := 91) hΓ d_X5_copy_91 rfl ?_
              refine tn_iload (pc := 93) hΓ d_X5_copy_93 rfl ?_
              refine tn_cvI (As := [.int a3, .int a4]) (st := []) (pc := 95) hΓ d_X5_copy_95 mv_X2_hasCells im_X2_hasCells se_X2_hasCells ml_5_210 ⟨⟨by decide, by decide⟩, by decide, by decide⟩ rfl rfl rfl (by decide) ⟨_, rfl⟩ (gs_k hG (gs_b (tn_inN hi2))) (Nat.le_of_ble_eq_true rfl) rfl h (fun r6 σ7 h => ?_)
              refine tn_if_ne (tgt := 107) (pc := 98) hΓ d_X5_copy_98 (by decide) (fun hq => ?_) (fun hq => ?_)
              · have h := h.1 hq
                refine tn_aload (pc := 107) hΓ d_X5_copy_107 rfl ?_
                refine tn_getRy (y := (31 + 2 * a0.toNatClampNeg) + 1) (pc := 109) hΓ d_X5_copy_109 fl_5_213 rfl (gs_k hG (gs_b (tn_inN hi1))) (gs_c hG (gs_b (tn_inN hi1))) ?_
                refine tn_iload_n (pc := 112) hΓ d_X5_copy_112 rfl ?_
                refine tn_aload (pc := 113) hΓ d_X5_copy_113 rfl ?_
                refine tn_getRy (y := (31 + 2 * a2.toNatClampNeg) + 1) (pc := 115) hΓ d_X5_copy_115 fl_5_213 rfl (gs_k hG (gs_b (tn_inN hi2))) (gs_c hG (gs_b (tn_inN hi2))) ?_
                refine tn_iload (pc := 118) hΓ d_X5_copy_118 rfl ?_
                refine tn_iload (pc := 120) hΓ d_X5_copy_120 rfl ?_
                obtain ⟨ha1, ha2, ha3, ha4, ha5, h⟩ := h
                refine tn_acopy (pc := 122) hΓ d_X5_copy_122 ac_link ac_nat ac_stat ac_ini (by decide) (by decide) (gs_kc hG (gs_b (tn_inN hi1))) (gs_kc hG (gs_b (tn_inN hi2))) ha1 ha2 ha3 ha4 ha5 ?_
                refine tn_tops (fun σ8 eσ8 => ?_)
                have h := h σ8 eσ8
                refine tn_iload (pc := 125) hΓ d_X5_copy_125 rfl ?_
                exact tn_ret_i (pc := 127) hΓ hK d_X5_copy_127 rfl (by decide) (by decide) h
              · have h := h.2 hq
                refine tn_aload_n (pc := 101) hΓ d_X5_copy_101 rfl ?_
                refine tn_iconst (pc := 102) hΓ d_X5_copy_102 ic_3 ?_
                refine tn_cvI (As := [.int (3 : Int32)]) (st := []) (pc := 103) hΓ d_X5_copy_103 mv_X5_faulted im_X5_faulted se_X5_faulted ml_5_62 ⟨⟨by decide, by decide⟩, by decide, by decide⟩ rfl rfl rfl (by decide) ⟨_, rfl⟩ (gd_k hG (c := 2) rfl) (Nat.le_of_ble_eq_true rfl) rfl h (fun r7 σ9 h => ?_)
                exact tn_ret_i (pc := 106) hΓ hK d_X5_copy_106 rfl (by decide) (by decide) h
          · have h := h.2 hq
            refine tn_aload_n (pc := 72) hΓ d_X5_copy_72 rfl ?_
            refine tn_iconst (pc := 73) hΓ d_X5_copy_73 ic_2 ?_
            refine tn_cvI (As := [.int (2 : Int32)]) (st := []) (pc := 74) hΓ d_X5_copy_74 mv_X5_faulted im_X5_faulted se_X5_faulted ml_5_62 ⟨⟨by decide, by decide⟩, by decide, by decide⟩ rfl rfl rfl (by decide) ⟨_, rfl⟩ (gd_k hG (c := 2) rfl) (Nat.le_of_ble_eq_true rfl) rfl h (fun r8 σ10 h => ?_)
            exact tn_ret_i (pc := 77) hΓ hK d_X5_copy_77 rfl (by decide) (by decide) h
        · have h := h.2 hq
          refine tn_aload_n (pc := 53) hΓ d_X5_copy_53 rfl ?_
          refine tn_iconst (pc := 54) hΓ d_X5_copy_54 ic_1 ?_
          refine tn_cvI (As := [.int (1 : Int32)]) (st := []) (pc := 55) hΓ d_X5_copy_55 mv_X5_faulted im_X5_faulted se_X5_faulted ml_5_62 ⟨⟨by decide, by decide⟩, by decide, by decide⟩ rfl rfl rfl (by decide) ⟨_, rfl⟩ (gd_k hG (c := 2) rfl) (Nat.le_of_ble_eq_true rfl) rfl h (fun r9 σ11 h => ?_)
          exact tn_ret_i (pc := 58) hΓ hK d_X5_copy_58 rfl (by decide) (by decide) h
    · have h := h.2 hq
      refine tn_iconst (pc := 19) hΓ d_X5_copy_19 ic_m1 ?_
      exact tn_ret_i (pc := 20) hΓ hK d_X5_copy_20 rfl (by decide) (by decide) h
theorem k_X5_tell_0 {Γ : tn_G} {ks : List (Nat × Nat)} {ρ : Nat → Nat → Nat} {σ : Nat → Nat → Int32} {K : Option Value → List (Nat × Nat) → (Nat → Nat → Nat) → (Nat → Nat → Int32) → Prop} (hG : tn_Gd ks ρ) (hΓ : tn_is Γ m_X5_tell) (hK : tn_rt Γ m_X5_tell K) (a0 : Int32) (h : tn_CI m_X1_hasHouse [.ref 3, .int a0] ks ρ σ (fun r1 σ1 => ((¬ r1 = 0 → (vp_in a0 5 ∧ (((σ1 (3 + 3 + a0.toNatClampNeg) 0) = (1 : Int32) → tn_CI m_X5_toldAsBrooding [.ref 2, .ref (3 + 3 + a0.toNatClampNeg)] ks ρ σ1 (fun r2 σ2 => K (some (.int r2)) ks ρ σ2)) ∧ (¬ (σ1 (3 + 3 + a0.toNatClampNeg) 0) = (1 : Int32) → (((σ1 (3 + 3 + a0.toNatClampNeg) 0) = (2 : Int32) → tn_CI m_X5_toldAsDouble [.ref 2, .ref (3 + 3 + a0.toNatClampNeg)] ks ρ σ1 (fun r3 σ3 => K (some (.int r3)) ks ρ σ3)) ∧ (¬ (σ1 (3 + 3 + a0.toNatClampNeg) 0) = (2 : Int32) → tn_CI m_X5_toldAsPlain [.ref 2, .ref (3 + 3 + a0.toNatClampNeg)] ks ρ σ1 (fun r4 σ4 => K (some (.int r4)) ks ρ σ4))))))) ∧ (r1 = 0 → K (some (.int (-1 : Int32))) ks ρ σ1)))) : tn_A Γ 0 [.ref 2, .int a0, .null] [] 0 0 ks ρ σ := by
  refine tn_aload_n (pc := 0) hΓ d_X5_tell_0 rfl ?_
  refine tn_getRy (y := 3) (pc := 1) hΓ d_X5_tell_1 fl_5_12 rfl (gd_k hG (c := 2) rfl) (gd_r hG 2 0 3 rfl rfl) ?_
  refine tn_iload_n (pc := 4) hΓ d_X5_tell_4 rfl ?_
  refine tn_cvI (As := [.int a0]) (st := []) (pc := 5) hΓ d_X5_tell_5 mv_X1_hasHouse im_X1_hasHouse se_X1_hasHouse ml_5_77 ⟨⟨by decide, by decide⟩, by decide, by decide⟩ rfl rfl rfl (by decide) ⟨_, rfl⟩ (gp_k hG pb3) (Nat.le_of_ble_eq_true rfl) rfl h (fun r1 σ1 h => ?_)
  refine tn_if_ne (tgt := 13) (pc := 8) hΓ d_X5_tell_8 (by decide) (fun hq => ?_) (fun hq => ?_)
  · have h := h.1 hq
    refine tn_aload_n (pc := 13) hΓ d_X5_tell_13 rfl ?_
    refine tn_getRy (y := 3) (pc := 14) hΓ d_X5_tell_14 fl_5_12 rfl (gd_k hG (c := 2) rfl) (gd_r hG 2 0 3 rfl rfl) ?_
    refine tn_getRy (y := 3 + 1) (pc := 17) hΓ d_X5_tell_17 fl_5_80 rfl (gp_k hG pb3) (gp_h hG pb3) ?_
    refine tn_iload_n (pc := 20) hΓ d_X5_tell_20 rfl ?_
    obtain ⟨hi1, h⟩ := h
    refine tn_aaldy (t := 0) (y := 3 + 3 + a0.toNatClampNeg) (pc := 21) hΓ d_X5_tell_21 (by decide) (gp_kh hG pb3) hi1 (gp_H hG pb3 hi1) ?_
    refine tn_astore_n (loc' := [.ref 2, .int a0, .ref (3 + 3 + a0.toNatClampNeg)]) (pc := 22) hΓ d_X5_tell_22 (by decide) rfl rfl ?_
    refine tn_aload_n (pc := 23) hΓ d_X5_tell_23 rfl ?_
    refine tn_getI (pc := 24) hΓ d_X5_tell_24 fl_5_84 rfl (gp_kH hG pb3 (tn_inN hi1)) ?_
    refine tn_byc ((σ1 (3 + 3 + a0.toNatClampNeg) 0) = (1 : Int32)) (fun hq => ?_) (fun hq0 => ?_)
    · have h := h.1 hq
      refine tn_lookup (off := 31) (tgt := 58) (pc := 27) hΓ d_X5_tell_27 (by decide) (by rw [hq] <;> rfl) (by decide) ?_
      refine tn_aload_n (pc := 58) hΓ d_X5_tell_58 rfl ?_
      refine tn_aload_n (pc := 59) hΓ d_X5_tell_59 rfl ?_
      refine tn_cvI (As := [.ref (3 + 3 + a0.toNatClampNeg)]) (st := []) (pc := 60) hΓ d_X5_tell_60 mv_X5_toldAsBrooding im_X5_toldAsBrooding se_X5_toldAsBrooding ml_5_232 ⟨⟨by decide, by decide⟩, by decide, by decide⟩ rfl rfl rfl (by decide) ⟨_, rfl⟩ (gd_k hG (c := 2) rfl) (Nat.le_of_ble_eq_true rfl) rfl h (fun r2 σ2 h => ?_)
      exact tn_ret_i (pc := 63) hΓ hK d_X5_tell_63 rfl (by decide) (by decide) h
    have h := h.2 hq0
    refine tn_byc ((σ1 (3 + 3 + a0.toNatClampNeg) 0) = (2 : Int32)) (fun hq => ?_) (fun hq1 => ?_)
    · have h := h.1 hq
      refine tn_lookup (off := 25) (tgt := 52) (pc := 27) hΓ d_X5_tell_27 (by decide) (by rw [hq] <;> rfl) (by decide) ?_
      refine tn_aload_n (pc := 52) hΓ d_X5_tell_52 rfl ?_
      refine tn_aload_n (pc := 53) hΓ d_X5_tell_53 rfl ?_
      refine tn_cvI (As := [.ref (3 + 3 + a0.toNatClampNeg)]) (st := []) (pc := 54) hΓ d_X5_tell_54 mv_X5_toldAsDouble im_X5_toldAsDouble se_X5_toldAsDouble ml_5_228 ⟨⟨by decide, by decide⟩, by decide, by decide⟩ rfl rfl rfl (by decide) ⟨_, rfl⟩ (gd_k hG (c := 2) rfl) (Nat.le_of_ble_eq_true rfl) rfl h (fun r3 σ3 h => ?_)
      exact tn_ret_i (pc := 57) hΓ hK d_X5_tell_57 rfl (by decide) (by decide) h
    have h := h.2 hq1
    refine tn_lookup (off := 37) (tgt := 64) (pc := 27) hΓ d_X5_tell_27 (by decide) (by rw [lv_osw hq0 (by decide), lv_osw hq1 (by decide)] <;> rfl) (by decide) ?_
    refine tn_aload_n (pc := 64) hΓ d_X5_tell_64 rfl ?_
    refine tn_aload_n (pc := 65) hΓ d_X5_tell_65 rfl ?_
    refine tn_cvI (As := [.ref (3 + 3 + a0.toNatClampNeg)]) (st := []) (pc := 66) hΓ d_X5_tell_66 mv_X5_toldAsPlain im_X5_toldAsPlain se_X5_toldAsPlain ml_5_235 ⟨⟨by decide, by decide⟩, by decide, by decide⟩ rfl rfl rfl (by decide) ⟨_, rfl⟩ (gd_k hG (c := 2) rfl) (Nat.le_of_ble_eq_true rfl) rfl h (fun r4 σ4 h => ?_)
    exact tn_ret_i (pc := 69) hΓ hK d_X5_tell_69 rfl (by decide) (by decide) h
  · have h := h.2 hq
    refine tn_iconst (pc := 11) hΓ d_X5_tell_11 ic_m1 ?_
    exact tn_ret_i (pc := 12) hΓ hK d_X5_tell_12 rfl (by decide) (by decide) h
theorem k_X5_knock_0 {Γ : tn_G} {ks : List (Nat × Nat)} {ρ : Nat → Nat → Nat} {σ : Nat → Nat → Int32} {K : Option Value → List (Nat × Nat) → (Nat → Nat → Nat) → (Nat → Nat → Int32) → Prop} (hG : tn_Gd ks ρ) (hΓ : tn_is Γ m_X5_knock) (hK : tn_rt Γ m_X5_knock K) (a0 : Int32) (h : tn_CI m_X1_hasHouse [.ref 3, .int a0] ks ρ σ (fun r1 σ1 => ((¬ r1 = 0 → (vp_in a0 5 ∧ ((¬ (σ1 (3 + 3 + a0.toNatClampNeg) 0) = (2 : Int32) → tn_CI m_X5_knockedAsLent [.ref 2, .ref (3 + 3 + a0.toNatClampNeg)] ks ρ σ1 (fun r2 σ2 => K (some (.int r2)) ks ρ σ2)) ∧ ((σ1 (3 + 3 + a0.toNatClampNeg) 0) = (2 : Int32) → tn_CI m_X5_knockedAsDouble [.ref 2] ks ρ σ1 (fun r3 σ3 => K (some (.int r3)) ks ρ σ3))))) ∧ (r1 = 0 → K (some (.int (-1 : Int32))) ks ρ σ1)))) : tn_A Γ 0 [.ref 2, .int a0, .null] [] 0 0 ks ρ σ := by
  refine tn_aload_n (pc := 0) hΓ d_X5_knock_0 rfl ?_
  refine tn_getRy (y := 3) (pc := 1) hΓ d_X5_knock_1 fl_5_12 rfl (gd_k hG (c := 2) rfl) (gd_r hG 2 0 3 rfl rfl) ?_
  refine tn_iload_n (pc := 4) hΓ d_X5_knock_4 rfl ?_
  refine tn_cvI (As := [.int a0]) (st := []) (pc := 5) hΓ d_X5_knock_5 mv_X1_hasHouse im_X1_hasHouse se_X1_hasHouse ml_5_77 ⟨⟨by decide, by decide⟩, by decide, by decide⟩ rfl rfl rfl (by decide) ⟨_, rfl⟩ (gp_k hG pb3) (Nat.le_of_ble_eq_true rfl) rfl h (fun r1 σ1 h => ?_)
  refine tn_if_ne (tgt := 13) (pc := 8) hΓ d_X5_knock_8 (by decide) (fun hq => ?_) (fun hq => ?_)
  · have h := h.1 hq
    refine tn_aload_n (pc := 13) hΓ d_X5_knock_13 rfl ?_
    refine tn_getRy (y := 3) (pc := 14) hΓ d_X5_knock_14 fl_5_12 rfl (gd_k hG (c := 2) rfl) (gd_r hG 2 0 3 rfl rfl) ?_
    refine tn_getRy (y := 3 + 1) (pc := 17) hΓ d_X5_knock_17 fl_5_80 rfl (gp_k hG pb3) (gp_h hG pb3) ?_
    refine tn_iload_n (pc := 20) hΓ d_X5_knock_20 rfl ?_
    obtain ⟨hi1, h⟩ := h
    refine tn_aaldy (t := 0) (y := 3 + 3 + a0.toNatClampNeg) (pc := 21) hΓ d_X5_knock_21 (by decide) (gp_kh hG pb3) hi1 (gp_H hG pb3 hi1) ?_
    refine tn_astore_n (loc' := [.ref 2, .int a0, .ref (3 + 3 + a0.toNatClampNeg)]) (pc := 22) hΓ d_X5_knock_22 (by decide) rfl rfl ?_
    refine tn_aload_n (pc := 23) hΓ d_X5_knock_23 rfl ?_
    refine tn_getI (pc := 24) hΓ d_X5_knock_24 fl_5_84 rfl (gp_kH hG pb3 (tn_inN hi1)) ?_
    refine tn_iconst (pc := 27) hΓ d_X5_knock_27 ic_2 ?_
    refine tn_icmp_ne (tgt := 38) (pc := 28) hΓ d_X5_knock_28 (by decide) (fun hq => ?_) (fun hq => ?_)
    · have h := h.1 hq
      refine tn_aload_n (pc := 38) hΓ d_X5_knock_38 rfl ?_
      refine tn_aload_n (pc := 39) hΓ d_X5_knock_39 rfl ?_
      refine tn_cvI (As := [.ref (3 + 3 + a0.toNatClampNeg)]) (st := []) (pc := 40) hΓ d_X5_knock_40 mv_X5_knockedAsLent im_X5_knockedAsLent se_X5_knockedAsLent ml_5_241 ⟨⟨by decide, by decide⟩, by decide, by decide⟩ rfl rfl rfl (by decide) ⟨_, rfl⟩ (gd_k hG (c := 2) rfl) (Nat.le_of_ble_eq_true rfl) rfl h (fun r2 σ2 h => ?_)
      exact tn_ret_i (pc := 43) hΓ hK d_X5_knock_43 rfl (by decide) (by decide) h
    · have h := h.2 hq
      refine tn_aload_n (pc := 31) hΓ d_X5_knock_31 rfl ?_
      refine tn_cvI (As := []) (st := []) (pc := 32) hΓ d_X5_knock_32 mv_X5_knockedAsDouble im_X5_knockedAsDouble se_X5_knockedAsDouble ml_5_238 ⟨⟨by decide, by decide⟩, by decide, by decide⟩ rfl rfl rfl (by decide) ⟨_, rfl⟩ (gd_k hG (c := 2) rfl) (Nat.le_of_ble_eq_true rfl) rfl h (fun r3 σ3 h => ?_)
      refine tn_goto (tgt := 43) (pc := 35) hΓ d_X5_knock_35 (by decide) ?_
      exact tn_ret_i (pc := 43) hΓ hK d_X5_knock_43 rfl (by decide) (by decide) h
  · have h := h.2 hq
    refine tn_iconst (pc := 11) hΓ d_X5_knock_11 ic_m1 ?_
    exact tn_ret_i (pc := 12) hΓ hK d_X5_knock_12 rfl (by decide) (by decide) h
theorem k_X5_as_0 {Γ : tn_G} {ks : List (Nat × Nat)} {ρ : Nat → Nat → Nat} {σ : Nat → Nat → Int32} {K : Option Value → List (Nat × Nat) → (Nat → Nat → Nat) → (Nat → Nat → Int32) → Prop} (hG : tn_Gd ks ρ) (hΓ : tn_is Γ m_X5_as) (hK : tn_rt Γ m_X5_as K) (a0 : Int32) (a1 : Int32) (h : (∀ σ1, σ1 = tn_u σ 2 9 (0 : Int32) → tn_CI m_X1_hasHouse [.ref 3, .int a0] ks ρ σ1 (fun r1 σ2 => ((¬ r1 = 0 → tn_CI m_X5_isWithin [.int a1, .int (0 : Int32), .int (2 : Int32)] ks ρ σ2 (fun r2 σ3 => ((¬ r2 = 0 → (vp_in a0 5 ∧ (((σ3 (3 + 3 + a0.toNatClampNeg) 0) < a1 → tn_CI m_X5_faulted [.ref 2, .int (2 : Int32)] ks ρ σ3 (fun r3 σ4 => K (some (.int r3)) ks ρ σ4)) ∧ (¬ (σ3 (3 + 3 + a0.toNatClampNeg) 0) < a1 → K (some (.int (1 : Int32))) ks ρ σ3)))) ∧ (r2 = 0 → K (some (.int (-2 : Int32))) ks ρ σ3)))) ∧ (r1 = 0 → K (some (.int (-1 : Int32))) ks ρ σ2))))) : tn_A Γ 0 [.ref 2, .int a0, .int a1] [] 0 0 ks ρ σ := by
  refine tn_aload_n (pc := 0) hΓ d_X5_as_0 rfl ?_
  refine tn_iconst (pc := 1) hΓ d_X5_as_1 ic_0 ?_
  refine tn_putI (pc := 2) hΓ d_X5_as_2 fl_5_47 fk_5_5_9 rfl (gd_k hG (c := 2) rfl)  ?_
  refine tn_tops (fun σ1 eσ1 => ?_)
  have h := h σ1 eσ1
  refine tn_aload_n (pc := 5) hΓ d_X5_as_5 rfl ?_
  refine tn_getRy (y := 3) (pc := 6) hΓ d_X5_as_6 fl_5_12 rfl (gd_k hG (c := 2) rfl) (gd_r hG 2 0 3 rfl rfl) ?_
  refine tn_iload_n (pc := 9) hΓ d_X5_as_9 rfl ?_
  refine tn_cvI (As := [.int a0]) (st := []) (pc := 10) hΓ d_X5_as_10 mv_X1_hasHouse im_X1_hasHouse se_X1_hasHouse ml_5_77 ⟨⟨by decide, by decide⟩, by decide, by decide⟩ rfl rfl rfl (by decide) ⟨_, rfl⟩ (gp_k hG pb3) (Nat.le_of_ble_eq_true rfl) rfl h (fun r1 σ2 h => ?_)
  refine tn_if_ne (tgt := 18) (pc := 13) hΓ d_X5_as_13 (by decide) (fun hq => ?_) (fun hq => ?_)
  · have h := h.1 hq
    refine tn_iload_n (pc := 18) hΓ d_X5_as_18 rfl ?_
    refine tn_iconst (pc := 19) hΓ d_X5_as_19 ic_0 ?_
    refine tn_iconst (pc := 20) hΓ d_X5_as_20 ic_2 ?_
    refine tn_csI (As := [.int a1, .int (0 : Int32), .int (2 : Int32)]) (st := []) (pc := 21) hΓ d_X5_as_21 mv_X5_isWithin st_X5_isWithin ml_5_125 ⟨⟨by decide, by decide⟩, by decide, by decide⟩ rfl rfl rfl (Nat.le_of_ble_eq_true rfl) rfl h (fun r2 σ3 h => ?_)
    refine tn_if_ne (tgt := 30) (pc := 24) hΓ d_X5_as_24 (by decide) (fun hq => ?_) (fun hq => ?_)
    · have h := h.1 hq
      refine tn_iload_n (pc := 30) hΓ d_X5_as_30 rfl ?_
      refine tn_aload_n (pc := 31) hΓ d_X5_as_31 rfl ?_
      refine tn_getRy (y := 3) (pc := 32) hΓ d_X5_as_32 fl_5_12 rfl (gd_k hG (c := 2) rfl) (gd_r hG 2 0 3 rfl rfl) ?_
      refine tn_getRy (y := 3 + 1) (pc := 35) hΓ d_X5_as_35 fl_5_80 rfl (gp_k hG pb3) (gp_h hG pb3) ?_
      refine tn_iload_n (pc := 38) hΓ d_X5_as_38 rfl ?_
      obtain ⟨hi1, h⟩ := h
      refine tn_aaldy (t := 0) (y := 3 + 3 + a0.toNatClampNeg) (pc := 39) hΓ d_X5_as_39 (by decide) (gp_kh hG pb3) hi1 (gp_H hG pb3 hi1) ?_
      refine tn_getI (pc := 40) hΓ d_X5_as_40 fl_5_84 rfl (gp_kH hG pb3 (tn_inN hi1)) ?_
      refine tn_icmp_gt (tgt := 50) (pc := 43) hΓ d_X5_as_43 (by decide) (fun hq => ?_) (fun hq => ?_)
      · have h := h.1 hq
        refine tn_aload_n (pc := 50) hΓ d_X5_as_50 rfl ?_
        refine tn_iconst (pc := 51) hΓ d_X5_as_51 ic_2 ?_
        refine tn_cvI (As := [.int (2 : Int32)]) (st := []) (pc := 52) hΓ d_X5_as_52 mv_X5_faulted im_X5_faulted se_X5_faulted ml_5_62 ⟨⟨by decide, by decide⟩, by decide, by decide⟩ rfl rfl rfl (by decide) ⟨_, rfl⟩ (gd_k hG (c := 2) rfl) (Nat.le_of_ble_eq_true rfl) rfl h (fun r3 σ4 h => ?_)
        exact tn_ret_i (pc := 55) hΓ hK d_X5_as_55 rfl (by decide) (by decide) h
      · have h := h.2 hq
        refine tn_iconst (pc := 46) hΓ d_X5_as_46 ic_1 ?_
        refine tn_goto (tgt := 55) (pc := 47) hΓ d_X5_as_47 (by decide) ?_
        exact tn_ret_i (pc := 55) hΓ hK d_X5_as_55 rfl (by decide) (by decide) h
    · have h := h.2 hq
      refine tn_bipush (pc := 27) hΓ d_X5_as_27 bp_m2 ?_
      exact tn_ret_i (pc := 29) hΓ hK d_X5_as_29 rfl (by decide) (by decide) h
  · have h := h.2 hq
    refine tn_iconst (pc := 16) hΓ d_X5_as_16 ic_m1 ?_
    exact tn_ret_i (pc := 17) hΓ hK d_X5_as_17 rfl (by decide) (by decide) h
theorem k_X5_trace_0 {Γ : tn_G} {ks : List (Nat × Nat)} {ρ : Nat → Nat → Nat} {σ : Nat → Nat → Int32} {K : Option Value → List (Nat × Nat) → (Nat → Nat → Nat) → (Nat → Nat → Int32) → Prop} (hG : tn_Gd ks ρ) (hΓ : tn_is Γ m_X5_trace) (hK : tn_rt Γ m_X5_trace K)  (h : K (some (.int (σ 2 8))) ks ρ σ) : tn_A Γ 0 [.ref 2] [] 0 0 ks ρ σ := by
  refine tn_aload_n (pc := 0) hΓ d_X5_trace_0 rfl ?_
  refine tn_getI (pc := 1) hΓ d_X5_trace_1 fl_5_44 rfl (gd_k hG (c := 2) rfl) ?_
  exact tn_ret_i (pc := 4) hΓ hK d_X5_trace_4 rfl (by decide) (by decide) h
theorem k_X5_fault_0 {Γ : tn_G} {ks : List (Nat × Nat)} {ρ : Nat → Nat → Nat} {σ : Nat → Nat → Int32} {K : Option Value → List (Nat × Nat) → (Nat → Nat → Nat) → (Nat → Nat → Int32) → Prop} (hG : tn_Gd ks ρ) (hΓ : tn_is Γ m_X5_fault) (hK : tn_rt Γ m_X5_fault K)  (h : K (some (.int (σ 2 9))) ks ρ σ) : tn_A Γ 0 [.ref 2] [] 0 0 ks ρ σ := by
  refine tn_aload_n (pc := 0) hΓ d_X5_fault_0 rfl ?_
  refine tn_getI (pc := 1) hΓ d_X5_fault_1 fl_5_47 rfl (gd_k hG (c := 2) rfl) ?_
  exact tn_ret_i (pc := 4) hΓ hK d_X5_fault_4 rfl (by decide) (by decide) h
theorem k_X5_many_0 {Γ : tn_G} {ks : List (Nat × Nat)} {ρ : Nat → Nat → Nat} {σ : Nat → Nat → Int32} {K : Option Value → List (Nat × Nat) → (Nat → Nat → Nat) → (Nat → Nat → Int32) → Prop} (hG : tn_Gd ks ρ) (hΓ : tn_is Γ m_X5_many) (hK : tn_rt Γ m_X5_many K) (a0 : Int32) (h : ((a0 = (0 : Int32) → K (some (.int (σ 3 2))) ks ρ σ) ∧ (¬ a0 = (0 : Int32) → ((a0 = (1 : Int32) → K (some (.int (σ 3 3))) ks ρ σ) ∧ (¬ a0 = (1 : Int32) → ((a0 = (2 : Int32) → K (some (.int (σ 2 7))) ks ρ σ) ∧ (¬ a0 = (2 : Int32) → ((a0 = (3 : Int32) → tn_CI m_X1_hatsLost [.ref 3] ks ρ σ (fun r1 σ1 => K (some (.int r1)) ks ρ σ1)) ∧ (¬ a0 = (3 : Int32) → ((a0 = (4 : Int32) → K (some (.int (σ 2 6))) ks ρ σ) ∧ (¬ a0 = (4 : Int32) → ((a0 = (5 : Int32) → K (some (.int (σ 3 5))) ks ρ σ) ∧ (¬ a0 = (5 : Int32) → ((a0 = (6 : Int32) → tn_CI m_X1_voice [.ref 3] ks ρ σ (fun r2 σ2 => K (some (.int r2)) ks ρ σ2)) ∧ (¬ a0 = (6 : Int32) → K (some (.int (-2 : Int32))) ks ρ σ))))))))))))))) : tn_A Γ 0 [.ref 2, .int a0] [] 0 0 ks ρ σ := by
  refine tn_iload_n (pc := 0) hΓ d_X5_many_0 rfl ?_
  refine tn_byc (a0 = (0 : Int32)) (fun hq => ?_) (fun hq0 => ?_)
  · have h := h.1 hq
    refine tn_tblIn (off := 43) (tgt := 44) (pc := 1) hΓ d_X5_many_1 (by rw [hq] <;> decide) (by rw [hq] <;> decide) (by rw [hq] <;> rfl) (by decide) ?_
    refine tn_aload_n (pc := 44) hΓ d_X5_many_44 rfl ?_
    refine tn_getRy (y := 3) (pc := 45) hΓ d_X5_many_45 fl_5_12 rfl (gd_k hG (c := 2) rfl) (gd_r hG 2 0 3 rfl rfl) ?_
    refine tn_getI (pc := 48) hΓ d_X5_many_48 fl_5_74 rfl (gp_k hG pb3) ?_
    exact tn_ret_i (pc := 51) hΓ hK d_X5_many_51 rfl (by decide) (by decide) h
  have h := h.2 hq0
  refine tn_byc (a0 = (1 : Int32)) (fun hq => ?_) (fun hq1 => ?_)
  · have h := h.1 hq
    refine tn_tblIn (off := 51) (tgt := 52) (pc := 1) hΓ d_X5_many_1 (by rw [hq] <;> decide) (by rw [hq] <;> decide) (by rw [hq] <;> rfl) (by decide) ?_
    refine tn_aload_n (pc := 52) hΓ d_X5_many_52 rfl ?_
    refine tn_getRy (y := 3) (pc := 53) hΓ d_X5_many_53 fl_5_12 rfl (gd_k hG (c := 2) rfl) (gd_r hG 2 0 3 rfl rfl) ?_
    refine tn_getI (pc := 56) hΓ d_X5_many_56 fl_5_244 rfl (gp_k hG pb3) ?_
    exact tn_ret_i (pc := 59) hΓ hK d_X5_many_59 rfl (by decide) (by decide) h
  have h := h.2 hq1
  refine tn_byc (a0 = (2 : Int32)) (fun hq => ?_) (fun hq2 => ?_)
  · have h := h.1 hq
    refine tn_tblIn (off := 59) (tgt := 60) (pc := 1) hΓ d_X5_many_1 (by rw [hq] <;> decide) (by rw [hq] <;> decide) (by rw [hq] <;> rfl) (by decide) ?_
    refine tn_aload_n (pc := 60) hΓ d_X5_many_60 rfl ?_
    refine tn_getI (pc := 61) hΓ d_X5_many_61 fl_5_41 rfl (gd_k hG (c := 2) rfl) ?_
    exact tn_ret_i (pc := 64) hΓ hK d_X5_many_64 rfl (by decide) (by decide) h
  have h := h.2 hq2
  refine tn_byc (a0 = (3 : Int32)) (fun hq => ?_) (fun hq3 => ?_)
  · have h := h.1 hq
    refine tn_tblIn (off := 64) (tgt := 65) (pc := 1) hΓ d_X5_many_1 (by rw [hq] <;> decide) (by rw [hq] <;> decide) (by rw [hq] <;> rfl) (by decide) ?_
    refine tn_aload_n (pc := 65) hΓ d_X5_many_65 rfl ?_
    refine tn_getRy (y := 3) (pc := 66) hΓ d_X5_many_66 fl_5_12 rfl (gd_k hG (c := 2) rfl) (gd_r hG 2 0 3 rfl rfl) ?_
    refine tn_cvI (As := []) (st := []) (pc := 69) hΓ d_X5_many_69 mv_X1_hatsLost im_X1_hatsLost se_X1_hatsLost ml_5_158 ⟨⟨by decide, by decide⟩, by decide, by decide⟩ rfl rfl rfl (by decide) ⟨_, rfl⟩ (gp_k hG pb3) (Nat.le_of_ble_eq_true rfl) rfl h (fun r1 σ1 h => ?_)
    exact tn_ret_i (pc := 72) hΓ hK d_X5_many_72 rfl (by decide) (by decide) h
  have h := h.2 hq3
  refine tn_byc (a0 = (4 : Int32)) (fun hq => ?_) (fun hq4 => ?_)
  · have h := h.1 hq
    refine tn_tblIn (off := 72) (tgt := 73) (pc := 1) hΓ d_X5_many_1 (by rw [hq] <;> decide) (by rw [hq] <;> decide) (by rw [hq] <;> rfl) (by decide) ?_
    refine tn_aload_n (pc := 73) hΓ d_X5_many_73 rfl ?_
    refine tn_getI (pc := 74) hΓ d_X5_many_74 fl_5_37 rfl (gd_k hG (c := 2) rfl) ?_
    exact tn_ret_i (pc := 77) hΓ hK d_X5_many_77 rfl (by decide) (by decide) h
  have h := h.2 hq4
  refine tn_byc (a0 = (5 : Int32)) (fun hq => ?_) (fun hq5 => ?_)
  · have h := h.1 hq
    refine tn_tblIn (off := 77) (tgt := 78) (pc := 1) hΓ d_X5_many_1 (by rw [hq] <;> decide) (by rw [hq] <;> decide) (by rw [hq] <;> rfl) (by decide) ?_
    refine tn_aload_n (pc := 78) hΓ d_X5_many_78 rfl ?_
    refine tn_getRy (y := 3) (pc := 79) hΓ d_X5_many_79 fl_5_12 rfl (gd_k hG (c := 2) rfl) (gd_r hG 2 0 3 rfl rfl) ?_
    refine tn_getI (pc := 82) hΓ d_X5_many_82 fl_5_155 rfl (gp_k hG pb3) ?_
    exact tn_ret_i (pc := 85) hΓ hK d_X5_many_85 rfl (by decide) (by decide) h
  have h := h.2 hq5
  refine tn_byc (a0 = (6 : Int32)) (fun hq => ?_) (fun hq6 => ?_)
  · have h := h.1 hq
    refine tn_tblIn (off := 85) (tgt := 86) (pc := 1) hΓ d_X5_many_1 (by rw [hq] <;> decide) (by rw [hq] <;> decide) (by rw [hq] <;> rfl) (by decide) ?_
    refine tn_aload_n (pc := 86) hΓ d_X5_many_86 rfl ?_
    refine tn_getRy (y := 3) (pc := 87) hΓ d_X5_many_87 fl_5_12 rfl (gd_k hG (c := 2) rfl) (gd_r hG 2 0 3 rfl rfl) ?_
    refine tn_cvI (As := []) (st := []) (pc := 90) hΓ d_X5_many_90 mv_X1_voice im_X1_voice se_X1_voice ml_5_132 ⟨⟨by decide, by decide⟩, by decide, by decide⟩ rfl rfl rfl (by decide) ⟨_, rfl⟩ (gp_k hG pb3) (Nat.le_of_ble_eq_true rfl) rfl h (fun r2 σ2 h => ?_)
    exact tn_ret_i (pc := 93) hΓ hK d_X5_many_93 rfl (by decide) (by decide) h
  have h := h.2 hq6
  refine tn_tblOut (tgt := 94) (pc := 1) hΓ d_X5_many_1 (tn_out_0_6 hq0 hq1 hq2 hq3 hq4 hq5 hq6) (by decide) ?_
  refine tn_bipush (pc := 94) hΓ d_X5_many_94 bp_m2 ?_
  exact tn_ret_i (pc := 96) hΓ hK d_X5_many_96 rfl (by decide) (by decide) h
theorem k_X5_isWithin_0 {Γ : tn_G} {ks : List (Nat × Nat)} {ρ : Nat → Nat → Nat} {σ : Nat → Nat → Int32} {K : Option Value → List (Nat × Nat) → (Nat → Nat → Nat) → (Nat → Nat → Int32) → Prop} (hG : tn_Gd ks ρ) (hΓ : tn_is Γ m_X5_isWithin) (hK : tn_rt Γ m_X5_isWithin K) (a0 : Int32) (a1 : Int32) (a2 : Int32) (h : ((a0 < a1 → K (some (.int (0 : Int32))) ks ρ σ) ∧ (¬ a0 < a1 → ((a2 < a0 → K (some (.int (0 : Int32))) ks ρ σ) ∧ (¬ a2 < a0 → K (some (.int (1 : Int32))) ks ρ σ))))) : tn_A Γ 0 [.int a0, .int a1, .int a2] [] 0 0 ks ρ σ := by
  refine tn_iload_n (pc := 0) hΓ d_X5_isWithin_0 rfl ?_
  refine tn_iload_n (pc := 1) hΓ d_X5_isWithin_1 rfl ?_
  refine tn_icmp_lt (tgt := 14) (pc := 2) hΓ d_X5_isWithin_2 (by decide) (fun hq => ?_) (fun hq => ?_)
  · have h := h.1 hq
    refine tn_iconst (pc := 14) hΓ d_X5_isWithin_14 ic_0 ?_
    exact tn_ret_z (pc := 15) hΓ hK d_X5_isWithin_15 rfl (by decide) (by decide) (Or.inl rfl) h
  · have h := h.2 hq
    refine tn_iload_n (pc := 5) hΓ d_X5_isWithin_5 rfl ?_
    refine tn_iload_n (pc := 6) hΓ d_X5_isWithin_6 rfl ?_
    refine tn_icmp_gt (tgt := 14) (pc := 7) hΓ d_X5_isWithin_7 (by decide) (fun hq => ?_) (fun hq => ?_)
    · have h := h.1 hq
      refine tn_iconst (pc := 14) hΓ d_X5_isWithin_14 ic_0 ?_
      exact tn_ret_z (pc := 15) hΓ hK d_X5_isWithin_15 rfl (by decide) (by decide) (Or.inl rfl) h
    · have h := h.2 hq
      refine tn_iconst (pc := 10) hΓ d_X5_isWithin_10 ic_1 ?_
      refine tn_goto (tgt := 15) (pc := 11) hΓ d_X5_isWithin_11 (by decide) ?_
      exact tn_ret_z (pc := 15) hΓ hK d_X5_isWithin_15 rfl (by decide) (by decide) (Or.inr rfl) h
theorem k_X5_isSheet_0 {Γ : tn_G} {ks : List (Nat × Nat)} {ρ : Nat → Nat → Nat} {σ : Nat → Nat → Int32} {K : Option Value → List (Nat × Nat) → (Nat → Nat → Nat) → (Nat → Nat → Int32) → Prop} (hG : tn_Gd ks ρ) (hΓ : tn_is Γ m_X5_isSheet) (hK : tn_rt Γ m_X5_isSheet K) (a0 : Int32) (h : tn_CI m_X5_isWithin [.int a0, .int (0 : Int32), .int (3 : Int32)] ks ρ σ (fun r1 σ1 => ((r1 = 0 ∨ r1 = 1) ∧ K (some (.int r1)) ks ρ σ1))) : tn_A Γ 0 [.int a0] [] 0 0 ks ρ σ := by
  refine tn_iload_n (pc := 0) hΓ d_X5_isSheet_0 rfl ?_
  refine tn_iconst (pc := 1) hΓ d_X5_isSheet_1 ic_0 ?_
  refine tn_iconst (pc := 2) hΓ d_X5_isSheet_2 ic_3 ?_
  refine tn_csI (As := [.int a0, .int (0 : Int32), .int (3 : Int32)]) (st := []) (pc := 3) hΓ d_X5_isSheet_3 mv_X5_isWithin st_X5_isWithin ml_5_125 ⟨⟨by decide, by decide⟩, by decide, by decide⟩ rfl rfl rfl (Nat.le_of_ble_eq_true rfl) rfl h (fun r1 σ1 h => ?_)
  exact tn_ret_z (pc := 6) hΓ hK d_X5_isSheet_6 rfl (by decide) (by decide) h.1 h.2
theorem k_X5_isLane_0 {Γ : tn_G} {ks : List (Nat × Nat)} {ρ : Nat → Nat → Nat} {σ : Nat → Nat → Int32} {K : Option Value → List (Nat × Nat) → (Nat → Nat → Nat) → (Nat → Nat → Int32) → Prop} (hG : tn_Gd ks ρ) (hΓ : tn_is Γ m_X5_isLane) (hK : tn_rt Γ m_X5_isLane K) (a0 : Int32) (h : tn_CI m_X5_isWithin [.int a0, .int (0 : Int32), .int (2 : Int32)] ks ρ σ (fun r1 σ1 => ((r1 = 0 ∨ r1 = 1) ∧ K (some (.int r1)) ks ρ σ1))) : tn_A Γ 0 [.int a0] [] 0 0 ks ρ σ := by
  refine tn_iload_n (pc := 0) hΓ d_X5_isLane_0 rfl ?_
  refine tn_iconst (pc := 1) hΓ d_X5_isLane_1 ic_0 ?_
  refine tn_iconst (pc := 2) hΓ d_X5_isLane_2 ic_2 ?_
  refine tn_csI (As := [.int a0, .int (0 : Int32), .int (2 : Int32)]) (st := []) (pc := 3) hΓ d_X5_isLane_3 mv_X5_isWithin st_X5_isWithin ml_5_125 ⟨⟨by decide, by decide⟩, by decide, by decide⟩ rfl rfl rfl (Nat.le_of_ble_eq_true rfl) rfl h (fun r1 σ1 h => ?_)
  exact tn_ret_z (pc := 6) hΓ hK d_X5_isLane_6 rfl (by decide) (by decide) h.1 h.2
theorem k_X5_isAskedOfDay_0 {Γ : tn_G} {ks : List (Nat × Nat)} {ρ : Nat → Nat → Nat} {σ : Nat → Nat → Int32} {K : Option Value → List (Nat × Nat) → (Nat → Nat → Nat) → (Nat → Nat → Int32) → Prop} (hG : tn_Gd ks ρ) (hΓ : tn_is Γ m_X5_isAskedOfDay) (hK : tn_rt Γ m_X5_isAskedOfDay K) (a0 : Int32) (h : tn_CI m_X5_isWithin [.int a0, .int (0 : Int32), .int (4 : Int32)] ks ρ σ (fun r1 σ1 => ((¬ r1 = 0 → K (some (.int (1 : Int32))) ks ρ σ1) ∧ (r1 = 0 → tn_CI m_X5_isWithin [.int a0, .int (10 : Int32), .int (14 : Int32)] ks ρ σ1 (fun r2 σ2 => ((r2 = 0 → K (some (.int (0 : Int32))) ks ρ σ2) ∧ (¬ r2 = 0 → K (some (.int (1 : Int32))) ks ρ σ2))))))) : tn_A Γ 0 [.int a0] [] 0 0 ks ρ σ := by
  refine tn_iload_n (pc := 0) hΓ d_X5_isAskedOfDay_0 rfl ?_
  refine tn_iconst (pc := 1) hΓ d_X5_isAskedOfDay_1 ic_0 ?_
  refine tn_iconst (pc := 2) hΓ d_X5_isAskedOfDay_2 ic_4 ?_
  refine tn_csI (As := [.int a0, .int (0 : Int32), .int (4 : Int32)]) (st := []) (pc := 3) hΓ d_X5_isAskedOfDay_3 mv_X5_isWithin st_X5_isWithin ml_5_125 ⟨⟨by decide, by decide⟩, by decide, by decide⟩ rfl rfl rfl (Nat.le_of_ble_eq_true rfl) rfl h (fun r1 σ1 h => ?_)
  refine tn_if_ne (tgt := 20) (pc := 6) hΓ d_X5_isAskedOfDay_6 (by decide) (fun hq => ?_) (fun hq => ?_)
  · have h := h.1 hq
    refine tn_iconst (pc := 20) hΓ d_X5_isAskedOfDay_20 ic_1 ?_
    refine tn_goto (tgt := 25) (pc := 21) hΓ d_X5_isAskedOfDay_21 (by decide) ?_
    exact tn_ret_z (pc := 25) hΓ hK d_X5_isAskedOfDay_25 rfl (by decide) (by decide) (Or.inr rfl) h
  · have h := h.2 hq
    refine tn_iload_n (pc := 9) hΓ d_X5_isAskedOfDay_9 rfl ?_
    refine tn_bipush (pc := 10) hΓ d_X5_isAskedOfDay_10 bp_10 ?_
    refine tn_bipush (pc := 12) hΓ d_X5_isAskedOfDay_12 bp_14 ?_
    refine tn_csI (As := [.int a0, .int (10 : Int32), .int (14 : Int32)]) (st := []) (pc := 14) hΓ d_X5_isAskedOfDay_14 mv_X5_isWithin st_X5_isWithin ml_5_125 ⟨⟨by decide, by decide⟩, by decide, by decide⟩ rfl rfl rfl (Nat.le_of_ble_eq_true rfl) rfl h (fun r2 σ2 h => ?_)
    refine tn_if_eq (tgt := 24) (pc := 17) hΓ d_X5_isAskedOfDay_17 (by decide) (fun hq => ?_) (fun hq => ?_)
    · have h := h.1 hq
      refine tn_iconst (pc := 24) hΓ d_X5_isAskedOfDay_24 ic_0 ?_
      exact tn_ret_z (pc := 25) hΓ hK d_X5_isAskedOfDay_25 rfl (by decide) (by decide) (Or.inl rfl) h
    · have h := h.2 hq
      refine tn_iconst (pc := 20) hΓ d_X5_isAskedOfDay_20 ic_1 ?_
      refine tn_goto (tgt := 25) (pc := 21) hΓ d_X5_isAskedOfDay_21 (by decide) ?_
      exact tn_ret_z (pc := 25) hΓ hK d_X5_isAskedOfDay_25 rfl (by decide) (by decide) (Or.inr rfl) h
theorem k_X5_hasParish_0 {Γ : tn_G} {ks : List (Nat × Nat)} {ρ : Nat → Nat → Nat} {σ : Nat → Nat → Int32} {K : Option Value → List (Nat × Nat) → (Nat → Nat → Nat) → (Nat → Nat → Int32) → Prop} (hG : tn_Gd ks ρ) (hΓ : tn_is Γ m_X5_hasParish) (hK : tn_rt Γ m_X5_hasParish K)  (h : (((σ 3 2) ≤ 0 → K (some (.int (0 : Int32))) ks ρ σ) ∧ (¬ (σ 3 2) ≤ 0 → K (some (.int (1 : Int32))) ks ρ σ))) : tn_A Γ 0 [.ref 2] [] 0 0 ks ρ σ := by
  refine tn_aload_n (pc := 0) hΓ d_X5_hasParish_0 rfl ?_
  refine tn_getRy (y := 3) (pc := 1) hΓ d_X5_hasParish_1 fl_5_12 rfl (gd_k hG (c := 2) rfl) (gd_r hG 2 0 3 rfl rfl) ?_
  refine tn_getI (pc := 4) hΓ d_X5_hasParish_4 fl_5_74 rfl (gp_k hG pb3) ?_
  refine tn_if_le (tgt := 14) (pc := 7) hΓ d_X5_hasParish_7 (by decide) (fun hq => ?_) (fun hq => ?_)
  · have h := h.1 hq
    refine tn_iconst (pc := 14) hΓ d_X5_hasParish_14 ic_0 ?_
    exact tn_ret_z (pc := 15) hΓ hK d_X5_hasParish_15 rfl (by decide) (by decide) (Or.inl rfl) h
  · have h := h.2 hq
    refine tn_iconst (pc := 10) hΓ d_X5_hasParish_10 ic_1 ?_
    refine tn_goto (tgt := 15) (pc := 11) hΓ d_X5_hasParish_11 (by decide) ?_
    exact tn_ret_z (pc := 15) hΓ hK d_X5_hasParish_15 rfl (by decide) (by decide) (Or.inr rfl) h
theorem k_X5_faulted_0 {Γ : tn_G} {ks : List (Nat × Nat)} {ρ : Nat → Nat → Nat} {σ : Nat → Nat → Int32} {K : Option Value → List (Nat × Nat) → (Nat → Nat → Nat) → (Nat → Nat → Int32) → Prop} (hG : tn_Gd ks ρ) (hΓ : tn_is Γ m_X5_faulted) (hK : tn_rt Γ m_X5_faulted K) (a0 : Int32) (h : (∀ σ1, σ1 = tn_u σ 2 9 a0 → K (some (.int ((-10 : Int32) - a0))) ks ρ σ1)) : tn_A Γ 0 [.ref 2, .int a0] [] 0 0 ks ρ σ := by
  refine tn_aload_n (pc := 0) hΓ d_X5_faulted_0 rfl ?_
  refine tn_iload_n (pc := 1) hΓ d_X5_faulted_1 rfl ?_
  refine tn_putI (pc := 2) hΓ d_X5_faulted_2 fl_5_47 fk_5_5_9 rfl (gd_k hG (c := 2) rfl)  ?_
  refine tn_tops (fun σ1 eσ1 => ?_)
  have h := h σ1 eσ1
  refine tn_bipush (pc := 5) hΓ d_X5_faulted_5 bp_m10 ?_
  refine tn_iload_n (pc := 7) hΓ d_X5_faulted_7 rfl ?_
  refine tn_isub (pc := 8) hΓ d_X5_faulted_8 ?_
  exact tn_ret_i (pc := 9) hΓ hK d_X5_faulted_9 rfl (by decide) (by decide) h
