-- X6_areSo X6_kinds X6_wrongs X6_steps X6_inLeastTerms X6_odds X6_sheet X6_lose X6_put X6_cell
theorem k_X6_areSo_0 {Γ : tn_G} {ks : List (Nat × Nat)} {ρ : Nat → Nat → Nat} {σ : Nat → Nat → Int32} {K : Option Value → List (Nat × Nat) → (Nat → Nat → Nat) → (Nat → Nat → Int32) → Prop} (hG : tn_Gd ks ρ) (hΓ : tn_is Γ m_X6_areSo) (hK : tn_rt Γ m_X6_areSo K)  (h : tn_CV m_X6_keep [.ref 39, .int (0 : Int32)] ks ρ σ (fun σ1 => tn_A Γ 9 [.ref 39, .int (1 : Int32), .int (0 : Int32), .null] [] 0 0 ks ρ σ1)) : tn_A Γ 0 [.ref 39, .null, .null, .null] [] 0 0 ks ρ σ := by
  refine tn_iconst (pc := 0) hΓ d_X6_areSo_0 ic_1 ?_
  refine tn_istore_n (loc' := [.ref 39, .int (1 : Int32), .null, .null]) (pc := 1) hΓ d_X6_areSo_1 (by decide) rfl rfl ?_
  refine tn_aload_n (pc := 2) hΓ d_X6_areSo_2 rfl ?_
  refine tn_iconst (pc := 3) hΓ d_X6_areSo_3 ic_0 ?_
  refine tn_cvV (As := [.int (0 : Int32)]) (st := []) (pc := 4) hΓ d_X6_areSo_4 mv_X6_keep im_X6_keep se_X6_keep ml_6_170 ⟨⟨by decide, by decide⟩, by decide, by decide⟩ rfl rfl rfl (by decide) ⟨_, rfl⟩ (gd_k hG (c := 39) rfl) (Nat.le_of_ble_eq_true rfl) rfl h (fun σ1 h => ?_)
  refine tn_iconst (pc := 7) hΓ d_X6_areSo_7 ic_0 ?_
  refine tn_istore_n (loc' := [.ref 39, .int (1 : Int32), .int (0 : Int32), .null]) (pc := 8) hΓ d_X6_areSo_8 (by decide) rfl rfl ?_
  exact h
theorem k_X6_areSo_9 {Γ : tn_G} {ks : List (Nat × Nat)} {ρ : Nat → Nat → Nat} {σ : Nat → Nat → Int32} {K : Option Value → List (Nat × Nat) → (Nat → Nat → Nat) → (Nat → Nat → Int32) → Prop} (hG : tn_Gd ks ρ) (hΓ : tn_is Γ m_X6_areSo) (hK : tn_rt Γ m_X6_areSo K) (y1 : Int32) (y2 : Int32) (h : (((σ 39 26) ≤ y2 → ((y1 = 0 ∨ y1 = 1) ∧ K (some (.int y1)) ks ρ σ)) ∧ (¬ (σ 39 26) ≤ y2 → ((y1 = 0 → ((y1 = 0 ∨ y1 = 1) ∧ K (some (.int y1)) ks ρ σ)) ∧ (¬ y1 = 0 → tn_A Γ 23 [.ref 39, .null, .int y2, .int (0 : Int32)] [] 0 0 ks ρ σ))))) : tn_A Γ 9 [.ref 39, .int y1, .int y2, .null] [] 0 0 ks ρ σ := by
  refine tn_iload_n (pc := 9) hΓ d_X6_areSo_9 rfl ?_
  refine tn_aload_n (pc := 10) hΓ d_X6_areSo_10 rfl ?_
  refine tn_getI (pc := 11) hΓ d_X6_areSo_11 fl_6_119 rfl (gd_k hG (c := 39) rfl) ?_
  refine tn_icmp_ge (tgt := 73) (pc := 14) hΓ d_X6_areSo_14 (by decide) (fun hq => ?_) (fun hq => ?_)
  · have h := h.1 hq
    refine tn_iload_n (pc := 73) hΓ d_X6_areSo_73 rfl ?_
    exact tn_ret_z (pc := 74) hΓ hK d_X6_areSo_74 rfl (by decide) (by decide) h.1 h.2
  · have h := h.2 hq
    refine tn_iload_n (pc := 17) hΓ d_X6_areSo_17 rfl ?_
    refine tn_if_eq (tgt := 73) (pc := 18) hΓ d_X6_areSo_18 (by decide) (fun hq => ?_) (fun hq => ?_)
    · have h := h.1 hq
      refine tn_iload_n (pc := 73) hΓ d_X6_areSo_73 rfl ?_
      exact tn_ret_z (pc := 74) hΓ hK d_X6_areSo_74 rfl (by decide) (by decide) h.1 h.2
    · have h := h.2 hq
      refine tn_iconst (pc := 21) hΓ d_X6_areSo_21 ic_0 ?_
      refine tn_istore_n (loc' := [.ref 39, .int y1, .int y2, .int (0 : Int32)]) (pc := 22) hΓ d_X6_areSo_22 (by decide) rfl rfl ?_
      refine tn_drop [true, false, true, true] (loc' := [.ref 39, .null, .int y2, .int (0 : Int32)]) rfl ?_
      exact h
theorem k_X6_areSo_23 {Γ : tn_G} {ks : List (Nat × Nat)} {ρ : Nat → Nat → Nat} {σ : Nat → Nat → Int32} {K : Option Value → List (Nat × Nat) → (Nat → Nat → Nat) → (Nat → Nat → Int32) → Prop} (hG : tn_Gd ks ρ) (hΓ : tn_is Γ m_X6_areSo) (hK : tn_rt Γ m_X6_areSo K) (y2 : Int32) (y3 : Int32) (h : (vp_in y2 8 ∧ (((σ 52 y2.toNatClampNeg) ≤ y3 → tn_CI m_X6_voiceNow [.ref 39] ks ρ σ (fun r1 σ1 => ((¬ r1 = (σ1 53 y2.toNatClampNeg) → tn_CV m_X6_putBack [.ref 39, .int (0 : Int32)] ks ρ σ1 (fun σ2 => (∀ x1 : Int32, x1 = y2 + (1 : Int32) → tn_A Γ 9 [.ref 39, .int (0 : Int32), .int x1, .null] [] 0 0 ks ρ σ2))) ∧ (r1 = (σ1 53 y2.toNatClampNeg) → tn_CV m_X6_putBack [.ref 39, .int (0 : Int32)] ks ρ σ1 (fun σ3 => (∀ x2 : Int32, x2 = y2 + (1 : Int32) → tn_A Γ 9 [.ref 39, .int (1 : Int32), .int x2, .null] [] 0 0 ks ρ σ3)))))) ∧ (¬ (σ 52 y2.toNatClampNeg) ≤ y3 → tn_CV m_X6_goesNight [.ref 39] ks ρ σ (fun σ4 => (∀ x3 : Int32, x3 = y3 + (1 : Int32) → tn_A Γ 23 [.ref 39, .null, .int y2, .int x3] [] 0 0 ks ρ σ4)))))) : tn_A Γ 23 [.ref 39, .null, .int y2, .int y3] [] 0 0 ks ρ σ := by
  refine tn_iload_n (pc := 23) hΓ d_X6_areSo_23 rfl ?_
  refine tn_aload_n (pc := 24) hΓ d_X6_areSo_24 rfl ?_
  refine tn_getRy (y := 52) (pc := 25) hΓ d_X6_areSo_25 fl_6_46 rfl (gd_k hG (c := 39) rfl) (gd_r hG 39 27 52 rfl rfl) ?_
  refine tn_iload_n (pc := 28) hΓ d_X6_areSo_28 rfl ?_
  obtain ⟨hi1, h⟩ := h
  refine tn_ald (pc := 29) hΓ d_X6_areSo_29 (gd_k hG (c := 52) rfl) hi1 ?_
  refine tn_icmp_ge (tgt := 43) (pc := 30) hΓ d_X6_areSo_30 (by decide) (fun hq => ?_) (fun hq => ?_)
  · have h := h.1 hq
    refine tn_aload_n (pc := 43) hΓ d_X6_areSo_43 rfl ?_
    refine tn_cvI (As := []) (st := []) (pc := 44) hΓ d_X6_areSo_44 mv_X6_voiceNow im_X6_voiceNow se_X6_voiceNow ml_6_151 ⟨⟨by decide, by decide⟩, by decide, by decide⟩ rfl rfl rfl (by decide) ⟨_, rfl⟩ (gd_k hG (c := 39) rfl) (Nat.le_of_ble_eq_true rfl) rfl h (fun r1 σ1 h => ?_)
    refine tn_aload_n (pc := 47) hΓ d_X6_areSo_47 rfl ?_
    refine tn_getRy (y := 53) (pc := 48) hΓ d_X6_areSo_48 fl_6_49 rfl (gd_k hG (c := 39) rfl) (gd_r hG 39 28 53 rfl rfl) ?_
    refine tn_iload_n (pc := 51) hΓ d_X6_areSo_51 rfl ?_
    refine tn_ald (pc := 52) hΓ d_X6_areSo_52 (gd_k hG (c := 53) rfl) hi1 ?_
    refine tn_icmp_ne (tgt := 60) (pc := 53) hΓ d_X6_areSo_53 (by decide) (fun hq => ?_) (fun hq => ?_)
    · have h := h.1 hq
      refine tn_iconst (pc := 60) hΓ d_X6_areSo_60 ic_0 ?_
      refine tn_istore_n (loc' := [.ref 39, .int (0 : Int32), .int y2, .int y3]) (pc := 61) hΓ d_X6_areSo_61 (by decide) rfl rfl ?_
      refine tn_aload_n (pc := 62) hΓ d_X6_areSo_62 rfl ?_
      refine tn_iconst (pc := 63) hΓ d_X6_areSo_63 ic_0 ?_
      refine tn_cvV (As := [.int (0 : Int32)]) (st := []) (pc := 64) hΓ d_X6_areSo_64 mv_X6_putBack im_X6_putBack se_X6_putBack ml_6_181 ⟨⟨by decide, by decide⟩, by decide, by decide⟩ rfl rfl rfl (by decide) ⟨_, rfl⟩ (gd_k hG (c := 39) rfl) (Nat.le_of_ble_eq_true rfl) rfl h (fun σ2 h => ?_)
      refine tn_iincw (loc' := fun v_ => [.ref 39, .int (0 : Int32), .int v_, .int y3]) (pc := 67) hΓ d_X6_areSo_67 rfl ic_1 (by decide) rfl (fun _ => rfl) (fun x1 ex1 => ?_)
      have h := h x1 ex1
      refine tn_goto (tgt := 9) (pc := 70) hΓ d_X6_areSo_70 (by decide) ?_
      refine tn_drop [true, true, true, false] (loc' := [.ref 39, .int (0 : Int32), .int x1, .null]) rfl ?_
      exact h
    · have h := h.2 hq
      refine tn_iconst (pc := 56) hΓ d_X6_areSo_56 ic_1 ?_
      refine tn_goto (tgt := 61) (pc := 57) hΓ d_X6_areSo_57 (by decide) ?_
      refine tn_istore_n (loc' := [.ref 39, .int (1 : Int32), .int y2, .int y3]) (pc := 61) hΓ d_X6_areSo_61 (by decide) rfl rfl ?_
      refine tn_aload_n (pc := 62) hΓ d_X6_areSo_62 rfl ?_
      refine tn_iconst (pc := 63) hΓ d_X6_areSo_63 ic_0 ?_
      refine tn_cvV (As := [.int (0 : Int32)]) (st := []) (pc := 64) hΓ d_X6_areSo_64 mv_X6_putBack im_X6_putBack se_X6_putBack ml_6_181 ⟨⟨by decide, by decide⟩, by decide, by decide⟩ rfl rfl rfl (by decide) ⟨_, rfl⟩ (gd_k hG (c := 39) rfl) (Nat.le_of_ble_eq_true rfl) rfl h (fun σ3 h => ?_)
      refine tn_iincw (loc' := fun v_ => [.ref 39, .int (1 : Int32), .int v_, .int y3]) (pc := 67) hΓ d_X6_areSo_67 rfl ic_1 (by decide) rfl (fun _ => rfl) (fun x2 ex2 => ?_)
      have h := h x2 ex2
      refine tn_goto (tgt := 9) (pc := 70) hΓ d_X6_areSo_70 (by decide) ?_
      refine tn_drop [true, true, true, false] (loc' := [.ref 39, .int (1 : Int32), .int x2, .null]) rfl ?_
      exact h
  · have h := h.2 hq
    refine tn_aload_n (pc := 33) hΓ d_X6_areSo_33 rfl ?_
    refine tn_cvV (As := []) (st := []) (pc := 34) hΓ d_X6_areSo_34 mv_X6_goesNight im_X6_goesNight se_X6_goesNight ml_6_164 ⟨⟨by decide, by decide⟩, by decide, by decide⟩ rfl rfl rfl (by decide) ⟨_, rfl⟩ (gd_k hG (c := 39) rfl) (Nat.le_of_ble_eq_true rfl) rfl h (fun σ4 h => ?_)
    refine tn_iincw (loc' := fun v_ => [.ref 39, .null, .int y2, .int v_]) (pc := 37) hΓ d_X6_areSo_37 rfl ic_1 (by decide) rfl (fun _ => rfl) (fun x3 ex3 => ?_)
    have h := h x3 ex3
    refine tn_goto (tgt := 23) (pc := 40) hΓ d_X6_areSo_40 (by decide) ?_
    exact h
theorem k_X6_kinds_0 {Γ : tn_G} {ks : List (Nat × Nat)} {ρ : Nat → Nat → Nat} {σ : Nat → Nat → Int32} {K : Option Value → List (Nat × Nat) → (Nat → Nat → Nat) → (Nat → Nat → Int32) → Prop} (hG : tn_Gd ks ρ) (hΓ : tn_is Γ m_X6_kinds) (hK : tn_rt Γ m_X6_kinds K) (a0 : Int32) (h : tn_CI m_X6_isHouse [.ref 39, .int a0] ks ρ σ (fun r1 σ1 => ((¬ r1 = 0 → (vp_in a0 5 ∧ (∀ x1 : Int32, x1 = (σ1 43 a0.toNatClampNeg) → tn_A Γ 22 [.ref 39, .int a0, .int x1, .int (0 : Int32), .int (0 : Int32)] [] 0 0 ks ρ σ1))) ∧ (r1 = 0 → K (some (.int (-1 : Int32))) ks ρ σ1)))) : tn_A Γ 0 [.ref 39, .int a0, .null, .null, .null] [] 0 0 ks ρ σ := by
  refine tn_aload_n (pc := 0) hΓ d_X6_kinds_0 rfl ?_
  refine tn_iload_n (pc := 1) hΓ d_X6_kinds_1 rfl ?_
  refine tn_cvI (As := [.int a0]) (st := []) (pc := 2) hΓ d_X6_kinds_2 mv_X6_isHouse im_X6_isHouse se_X6_isHouse ml_6_145 ⟨⟨by decide, by decide⟩, by decide, by decide⟩ rfl rfl rfl (by decide) ⟨_, rfl⟩ (gd_k hG (c := 39) rfl) (Nat.le_of_ble_eq_true rfl) rfl h (fun r1 σ1 h => ?_)
  refine tn_if_ne (tgt := 10) (pc := 5) hΓ d_X6_kinds_5 (by decide) (fun hq => ?_) (fun hq => ?_)
  · have h := h.1 hq
    refine tn_aload_n (pc := 10) hΓ d_X6_kinds_10 rfl ?_
    refine tn_getRy (y := 43) (pc := 11) hΓ d_X6_kinds_11 fl_6_19 rfl (gd_k hG (c := 39) rfl) (gd_r hG 39 13 43 rfl rfl) ?_
    refine tn_iload_n (pc := 14) hΓ d_X6_kinds_14 rfl ?_
    obtain ⟨hi1, h⟩ := h
    refine tn_ald (pc := 15) hΓ d_X6_kinds_15 (gd_k hG (c := 43) rfl) hi1 ?_
    refine tn_topi (fun x1 ex1 => ?_)
    have h := h x1 ex1
    refine tn_istore_n (loc' := [.ref 39, .int a0, .int x1, .null, .null]) (pc := 16) hΓ d_X6_kinds_16 (by decide) rfl rfl ?_
    refine tn_iconst (pc := 17) hΓ d_X6_kinds_17 ic_0 ?_
    refine tn_istore_n (loc' := [.ref 39, .int a0, .int x1, .int (0 : Int32), .null]) (pc := 18) hΓ d_X6_kinds_18 (by decide) rfl rfl ?_
    refine tn_iconst (pc := 19) hΓ d_X6_kinds_19 ic_0 ?_
    refine tn_istore (loc' := [.ref 39, .int a0, .int x1, .int (0 : Int32), .int (0 : Int32)]) (pc := 20) hΓ d_X6_kinds_20 (by decide) rfl rfl ?_
    exact h
  · have h := h.2 hq
    refine tn_iconst (pc := 8) hΓ d_X6_kinds_8 ic_m1 ?_
    exact tn_ret_i (pc := 9) hΓ hK d_X6_kinds_9 rfl (by decide) (by decide) h
theorem k_X6_kinds_22 {Γ : tn_G} {ks : List (Nat × Nat)} {ρ : Nat → Nat → Nat} {σ : Nat → Nat → Int32} {K : Option Value → List (Nat × Nat) → (Nat → Nat → Nat) → (Nat → Nat → Int32) → Prop} (hG : tn_Gd ks ρ) (hΓ : tn_is Γ m_X6_kinds) (hK : tn_rt Γ m_X6_kinds K) (y1 : Int32) (y2 : Int32) (y3 : Int32) (y4 : Int32) (h : (((3 : Int32) ≤ y4 → (vp_in y1 5 ∧ (∀ σ1, σ1 = tn_u σ 43 y1.toNatClampNeg y2 → K (some (.int y3)) ks ρ σ1))) ∧ (¬ (3 : Int32) ≤ y4 → (vp_in y1 5 ∧ (∀ σ2, σ2 = tn_u σ 43 y1.toNatClampNeg y4 → tn_CI m_X6_areSo [.ref 39] ks ρ σ2 (fun r1 σ3 => ((r1 = 0 → (∀ x1 : Int32, x1 = (y3 ||| (0 : Int32)) → (∀ x2 : Int32, x2 = y4 + (1 : Int32) → tn_A Γ 22 [.ref 39, .int y1, .int y2, .int x1, .int x2] [] 0 0 ks ρ σ3))) ∧ (¬ r1 = 0 → (∀ x3 : Int32, x3 = (y3 ||| ((1 : Int32) <<< (y4 &&& 31))) → (∀ x4 : Int32, x4 = y4 + (1 : Int32) → tn_A Γ 22 [.ref 39, .int y1, .int y2, .int x3, .int x4] [] 0 0 ks ρ σ3)))))))))) : tn_A Γ 22 [.ref 39, .int y1, .int y2, .int y3, .int y4] [] 0 0 ks ρ σ := by
  refine tn_iload (pc := 22) hΓ d_X6_kinds_22 rfl ?_
  refine tn_iconst (pc := 24) hΓ d_X6_kinds_24 ic_3 ?_
  refine tn_icmp_ge (tgt := 60) (pc := 25) hΓ d_X6_kinds_25 (by decide) (fun hq => ?_) (fun hq => ?_)
  · have h := h.1 hq
    refine tn_aload_n (pc := 60) hΓ d_X6_kinds_60 rfl ?_
    refine tn_getRy (y := 43) (pc := 61) hΓ d_X6_kinds_61 fl_6_19 rfl (gd_k hG (c := 39) rfl) (gd_r hG 39 13 43 rfl rfl) ?_
    refine tn_iload_n (pc := 64) hΓ d_X6_kinds_64 rfl ?_
    refine tn_iload_n (pc := 65) hΓ d_X6_kinds_65 rfl ?_
    obtain ⟨hi1, h⟩ := h
    refine tn_ast (pc := 66) hΓ d_X6_kinds_66 (gd_k hG (c := 43) rfl) hi1 ?_
    refine tn_tops (fun σ1 eσ1 => ?_)
    have h := h σ1 eσ1
    refine tn_iload_n (pc := 67) hΓ d_X6_kinds_67 rfl ?_
    exact tn_ret_i (pc := 68) hΓ hK d_X6_kinds_68 rfl (by decide) (by decide) h
  · have h := h.2 hq
    refine tn_aload_n (pc := 28) hΓ d_X6_kinds_28 rfl ?_
    refine tn_getRy (y := 43) (pc := 29) hΓ d_X6_kinds_29 fl_6_19 rfl (gd_k hG (c := 39) rfl) (gd_r hG 39 13 43 rfl rfl) ?_
    refine tn_iload_n (pc := 32) hΓ d_X6_kinds_32 rfl ?_
    refine tn_iload (pc := 33) hΓ d_X6_kinds_33 rfl ?_
    obtain ⟨hi2, h⟩ := h
    refine tn_ast (pc := 35) hΓ d_X6_kinds_35 (gd_k hG (c := 43) rfl) hi2 ?_
    refine tn_tops (fun σ2 eσ2 => ?_)
    have h := h σ2 eσ2
    refine tn_iload_n (pc := 36) hΓ d_X6_kinds_36 rfl ?_
    refine tn_aload_n (pc := 37) hΓ d_X6_kinds_37 rfl ?_
    refine tn_cvI (As := []) (st := [.int y3]) (pc := 38) hΓ d_X6_kinds_38 mv_X6_areSo im_X6_areSo se_X6_areSo ml_6_197 ⟨⟨by decide, by decide⟩, by decide, by decide⟩ rfl rfl rfl (by decide) ⟨_, rfl⟩ (gd_k hG (c := 39) rfl) (Nat.le_of_ble_eq_true rfl) rfl h (fun r1 σ3 h => ?_)
    refine tn_if_eq (tgt := 51) (pc := 41) hΓ d_X6_kinds_41 (by decide) (fun hq => ?_) (fun hq => ?_)
    · have h := h.1 hq
      refine tn_iconst (pc := 51) hΓ d_X6_kinds_51 ic_0 ?_
      refine tn_ior (pc := 52) hΓ d_X6_kinds_52 ?_
      refine tn_topi (fun x1 ex1 => ?_)
      have h := h x1 ex1
      refine tn_istore_n (loc' := [.ref 39, .int y1, .int y2, .int x1, .int y4]) (pc := 53) hΓ d_X6_kinds_53 (by decide) rfl rfl ?_
      refine tn_iincw (loc' := fun v_ => [.ref 39, .int y1, .int y2, .int x1, .int v_]) (pc := 54) hΓ d_X6_kinds_54 rfl ic_1 (by decide) rfl (fun _ => rfl) (fun x2 ex2 => ?_)
      have h := h x2 ex2
      refine tn_goto (tgt := 22) (pc := 57) hΓ d_X6_kinds_57 (by decide) ?_
      exact h
    · have h := h.2 hq
      refine tn_iconst (pc := 44) hΓ d_X6_kinds_44 ic_1 ?_
      refine tn_iload (pc := 45) hΓ d_X6_kinds_45 rfl ?_
      refine tn_ishl (pc := 47) hΓ d_X6_kinds_47 ?_
      refine tn_goto (tgt := 52) (pc := 48) hΓ d_X6_kinds_48 (by decide) ?_
      refine tn_ior (pc := 52) hΓ d_X6_kinds_52 ?_
      refine tn_topi (fun x3 ex3 => ?_)
      have h := h x3 ex3
      refine tn_istore_n (loc' := [.ref 39, .int y1, .int y2, .int x3, .int y4]) (pc := 53) hΓ d_X6_kinds_53 (by decide) rfl rfl ?_
      refine tn_iincw (loc' := fun v_ => [.ref 39, .int y1, .int y2, .int x3, .int v_]) (pc := 54) hΓ d_X6_kinds_54 rfl ic_1 (by decide) rfl (fun _ => rfl) (fun x4 ex4 => ?_)
      have h := h x4 ex4
      refine tn_goto (tgt := 22) (pc := 57) hΓ d_X6_kinds_57 (by decide) ?_
      exact h
theorem k_X6_wrongs_0 {Γ : tn_G} {ks : List (Nat × Nat)} {ρ : Nat → Nat → Nat} {σ : Nat → Nat → Int32} {K : Option Value → List (Nat × Nat) → (Nat → Nat → Nat) → (Nat → Nat → Int32) → Prop} (hG : tn_Gd ks ρ) (hΓ : tn_is Γ m_X6_wrongs) (hK : tn_rt Γ m_X6_wrongs K) (a0 : Int32) (h : tn_CI m_X6_isHouse [.ref 39, .int a0] ks ρ σ (fun r1 σ1 => ((¬ r1 = 0 → (vp_in a0 5 ∧ (∀ x1 : Int32, x1 = (σ1 44 a0.toNatClampNeg) → tn_A Γ 22 [.ref 39, .int a0, .int x1, .int (0 : Int32), .int (0 : Int32)] [] 0 0 ks ρ σ1))) ∧ (r1 = 0 → K (some (.int (-1 : Int32))) ks ρ σ1)))) : tn_A Γ 0 [.ref 39, .int a0, .null, .null, .null] [] 0 0 ks ρ σ := by
  refine tn_aload_n (pc := 0) hΓ d_X6_wrongs_0 rfl ?_
  refine tn_iload_n (pc := 1) hΓ d_X6_wrongs_1 rfl ?_
  refine tn_cvI (As := [.int a0]) (st := []) (pc := 2) hΓ d_X6_wrongs_2 mv_X6_isHouse im_X6_isHouse se_X6_isHouse ml_6_145 ⟨⟨by decide, by decide⟩, by decide, by decide⟩ rfl rfl rfl (by decide) ⟨_, rfl⟩ (gd_k hG (c := 39) rfl) (Nat.le_of_ble_eq_true rfl) rfl h (fun r1 σ1 h => ?_)
  refine tn_if_ne (tgt := 10) (pc := 5) hΓ d_X6_wrongs_5 (by decide) (fun hq => ?_) (fun hq => ?_)
  · have h := h.1 hq
    refine tn_aload_n (pc := 10) hΓ d_X6_wrongs_10 rfl ?_
    refine tn_getRy (y := 44) (pc := 11) hΓ d_X6_wrongs_11 fl_6_22 rfl (gd_k hG (c := 39) rfl) (gd_r hG 39 14 44 rfl rfl) ?_
    refine tn_iload_n (pc := 14) hΓ d_X6_wrongs_14 rfl ?_
    obtain ⟨hi1, h⟩ := h
    refine tn_ald (pc := 15) hΓ d_X6_wrongs_15 (gd_k hG (c := 44) rfl) hi1 ?_
    refine tn_topi (fun x1 ex1 => ?_)
    have h := h x1 ex1
    refine tn_istore_n (loc' := [.ref 39, .int a0, .int x1, .null, .null]) (pc := 16) hΓ d_X6_wrongs_16 (by decide) rfl rfl ?_
    refine tn_iconst (pc := 17) hΓ d_X6_wrongs_17 ic_0 ?_
    refine tn_istore_n (loc' := [.ref 39, .int a0, .int x1, .int (0 : Int32), .null]) (pc := 18) hΓ d_X6_wrongs_18 (by decide) rfl rfl ?_
    refine tn_iconst (pc := 19) hΓ d_X6_wrongs_19 ic_0 ?_
    refine tn_istore (loc' := [.ref 39, .int a0, .int x1, .int (0 : Int32), .int (0 : Int32)]) (pc := 20) hΓ d_X6_wrongs_20 (by decide) rfl rfl ?_
    exact h
  · have h := h.2 hq
    refine tn_iconst (pc := 8) hΓ d_X6_wrongs_8 ic_m1 ?_
    exact tn_ret_i (pc := 9) hΓ hK d_X6_wrongs_9 rfl (by decide) (by decide) h
theorem k_X6_wrongs_22 {Γ : tn_G} {ks : List (Nat × Nat)} {ρ : Nat → Nat → Nat} {σ : Nat → Nat → Int32} {K : Option Value → List (Nat × Nat) → (Nat → Nat → Nat) → (Nat → Nat → Int32) → Prop} (hG : tn_Gd ks ρ) (hΓ : tn_is Γ m_X6_wrongs) (hK : tn_rt Γ m_X6_wrongs K) (y1 : Int32) (y2 : Int32) (y3 : Int32) (y4 : Int32) (h : (((9 : Int32) < y4 → (vp_in y1 5 ∧ (∀ σ1, σ1 = tn_u σ 44 y1.toNatClampNeg y2 → K (some (.int y3)) ks ρ σ1))) ∧ (¬ (9 : Int32) < y4 → (vp_in y1 5 ∧ (∀ σ2, σ2 = tn_u σ 44 y1.toNatClampNeg y4 → tn_CI m_X6_areSo [.ref 39] ks ρ σ2 (fun r1 σ3 => ((r1 = 0 → (∀ x1 : Int32, x1 = (y3 ||| (0 : Int32)) → (∀ x2 : Int32, x2 = y4 + (1 : Int32) → tn_A Γ 22 [.ref 39, .int y1, .int y2, .int x1, .int x2] [] 0 0 ks ρ σ3))) ∧ (¬ r1 = 0 → (∀ x3 : Int32, x3 = (y3 ||| ((1 : Int32) <<< (y4 &&& 31))) → (∀ x4 : Int32, x4 = y4 + (1 : Int32) → tn_A Γ 22 [.ref 39, .int y1, .int y2, .int x3, .int x4] [] 0 0 ks ρ σ3)))))))))) : tn_A Γ 22 [.ref 39, .int y1, .int y2, .int y3, .int y4] [] 0 0 ks ρ σ := by
  refine tn_iload (pc := 22) hΓ d_X6_wrongs_22 rfl ?_
  refine tn_bipush (pc := 24) hΓ d_X6_wrongs_24 bp_9 ?_
  refine tn_icmp_gt (tgt := 61) (pc := 26) hΓ d_X6_wrongs_26 (by decide) (fun hq => ?_) (fun hq => ?_)
  · have h := h.1 hq
    refine tn_aload_n (pc := 61) hΓ d_X6_wrongs_61 rfl ?_
    refine tn_getRy (y := 44) (pc := 62) hΓ d_X6_wrongs_62 fl_6_22 rfl (gd_k hG (c := 39) rfl) (gd_r hG 39 14 44 rfl rfl) ?_
    refine tn_iload_n (pc := 65) hΓ d_X6_wrongs_65 rfl ?_
    refine tn_iload_n (pc := 66) hΓ d_X6_wrongs_66 rfl ?_
    obtain ⟨hi1, h⟩ := h
    refine tn_ast (pc := 67) hΓ d_X6_wrongs_67 (gd_k hG (c := 44) rfl) hi1 ?_
    refine tn_tops (fun σ1 eσ1 => ?_)
    have h := h σ1 eσ1
    refine tn_iload_n (pc := 68) hΓ d_X6_wrongs_68 rfl ?_
    exact tn_ret_i (pc := 69) hΓ hK d_X6_wrongs_69 rfl (by decide) (by decide) h
  · have h := h.2 hq
    refine tn_aload_n (pc := 29) hΓ d_X6_wrongs_29 rfl ?_
    refine tn_getRy (y := 44) (pc := 30) hΓ d_X6_wrongs_30 fl_6_22 rfl (gd_k hG (c := 39) rfl) (gd_r hG 39 14 44 rfl rfl) ?_
    refine tn_iload_n (pc := 33) hΓ d_X6_wrongs_33 rfl ?_
    refine tn_iload (pc := 34) hΓ d_X6_wrongs_34 rfl ?_
    obtain ⟨hi2, h⟩ := h
    refine tn_ast (pc := 36) hΓ d_X6_wrongs_36 (gd_k hG (c := 44) rfl) hi2 ?_
    refine tn_tops (fun σ2 eσ2 => ?_)
    have h := h σ2 eσ2
    refine tn_iload_n (pc := 37) hΓ d_X6_wrongs_37 rfl ?_
    refine tn_aload_n (pc := 38) hΓ d_X6_wrongs_38 rfl ?_
    refine tn_cvI (As := []) (st := [.int y3]) (pc := 39) hΓ d_X6_wrongs_39 mv_X6_areSo im_X6_areSo se_X6_areSo ml_6_197 ⟨⟨by decide, by decide⟩, by decide, by decide⟩ rfl rfl rfl (by decide) ⟨_, rfl⟩ (gd_k hG (c := 39) rfl) (Nat.le_of_ble_eq_true rfl) rfl h (fun r1 σ3 h => ?_)
    refine tn_if_eq (tgt := 52) (pc := 42) hΓ d_X6_wrongs_42 (by decide) (fun hq => ?_) (fun hq => ?_)
    · have h := h.1 hq
      refine tn_iconst (pc := 52) hΓ d_X6_wrongs_52 ic_0 ?_
      refine tn_ior (pc := 53) hΓ d_X6_wrongs_53 ?_
      refine tn_topi (fun x1 ex1 => ?_)
      have h := h x1 ex1
      refine tn_istore_n (loc' := [.ref 39, .int y1, .int y2, .int x1, .int y4]) (pc := 54) hΓ d_X6_wrongs_54 (by decide) rfl rfl ?_
      refine tn_iincw (loc' := fun v_ => [.ref 39, .int y1, .int y2, .int x1, .int v_]) (pc := 55) hΓ d_X6_wrongs_55 rfl ic_1 (by decide) rfl (fun _ => rfl) (fun x2 ex2 => ?_)
      have h := h x2 ex2
      refine tn_goto (tgt := 22) (pc := 58) hΓ d_X6_wrongs_58 (by decide) ?_
      exact h
    · have h := h.2 hq
      refine tn_iconst (pc := 45) hΓ d_X6_wrongs_45 ic_1 ?_
      refine tn_iload (pc := 46) hΓ d_X6_wrongs_46 rfl ?_
      refine tn_ishl (pc := 48) hΓ d_X6_wrongs_48 ?_
      refine tn_goto (tgt := 53) (pc := 49) hΓ d_X6_wrongs_49 (by decide) ?_
      refine tn_ior (pc := 53) hΓ d_X6_wrongs_53 ?_
      refine tn_topi (fun x3 ex3 => ?_)
      have h := h x3 ex3
      refine tn_istore_n (loc' := [.ref 39, .int y1, .int y2, .int x3, .int y4]) (pc := 54) hΓ d_X6_wrongs_54 (by decide) rfl rfl ?_
      refine tn_iincw (loc' := fun v_ => [.ref 39, .int y1, .int y2, .int x3, .int v_]) (pc := 55) hΓ d_X6_wrongs_55 rfl ic_1 (by decide) rfl (fun _ => rfl) (fun x4 ex4 => ?_)
      have h := h x4 ex4
      refine tn_goto (tgt := 22) (pc := 58) hΓ d_X6_wrongs_58 (by decide) ?_
      exact h
theorem k_X6_steps_0 {Γ : tn_G} {ks : List (Nat × Nat)} {ρ : Nat → Nat → Nat} {σ : Nat → Nat → Int32} {K : Option Value → List (Nat × Nat) → (Nat → Nat → Nat) → (Nat → Nat → Int32) → Prop} (hG : tn_Gd ks ρ) (hΓ : tn_is Γ m_X6_steps) (hK : tn_rt Γ m_X6_steps K)  (h : ((¬ (σ 39 5) = 0 → (∀ x1 : Int32, x1 = (σ 39 7) → tn_A Γ 19 [.ref 39, .int x1, .int (0 : Int32), .int (1 : Int32)] [] 0 0 ks ρ σ)) ∧ ((σ 39 5) = 0 → K (some (.int (-3 : Int32))) ks ρ σ))) : tn_A Γ 0 [.ref 39, .null, .null, .null] [] 0 0 ks ρ σ := by
  refine tn_aload_n (pc := 0) hΓ d_X6_steps_0 rfl ?_
  refine tn_getI (pc := 1) hΓ d_X6_steps_1 fl_6_62 rfl (gd_k hG (c := 39) rfl) ?_
  refine tn_if_ne (tgt := 10) (pc := 4) hΓ d_X6_steps_4 (by decide) (fun hq => ?_) (fun hq => ?_)
  · have h := h.1 hq
    refine tn_aload_n (pc := 10) hΓ d_X6_steps_10 rfl ?_
    refine tn_getI (pc := 11) hΓ d_X6_steps_11 fl_6_101 rfl (gd_k hG (c := 39) rfl) ?_
    refine tn_topi (fun x1 ex1 => ?_)
    have h := h x1 ex1
    refine tn_istore_n (loc' := [.ref 39, .int x1, .null, .null]) (pc := 14) hΓ d_X6_steps_14 (by decide) rfl rfl ?_
    refine tn_iconst (pc := 15) hΓ d_X6_steps_15 ic_0 ?_
    refine tn_istore_n (loc' := [.ref 39, .int x1, .int (0 : Int32), .null]) (pc := 16) hΓ d_X6_steps_16 (by decide) rfl rfl ?_
    refine tn_iconst (pc := 17) hΓ d_X6_steps_17 ic_1 ?_
    refine tn_istore_n (loc' := [.ref 39, .int x1, .int (0 : Int32), .int (1 : Int32)]) (pc := 18) hΓ d_X6_steps_18 (by decide) rfl rfl ?_
    exact h
  · have h := h.2 hq
    refine tn_bipush (pc := 7) hΓ d_X6_steps_7 bp_m3 ?_
    exact tn_ret_i (pc := 9) hΓ hK d_X6_steps_9 rfl (by decide) (by decide) h
theorem k_X6_steps_19 {Γ : tn_G} {ks : List (Nat × Nat)} {ρ : Nat → Nat → Nat} {σ : Nat → Nat → Int32} {K : Option Value → List (Nat × Nat) → (Nat → Nat → Nat) → (Nat → Nat → Int32) → Prop} (hG : tn_Gd ks ρ) (hΓ : tn_is Γ m_X6_steps) (hK : tn_rt Γ m_X6_steps K) (y1 : Int32) (y2 : Int32) (y3 : Int32) (h : (((4 : Int32) < y3 → (∀ σ1, σ1 = tn_u σ 39 7 y1 → K (some (.int y2)) ks ρ σ1)) ∧ (¬ (4 : Int32) < y3 → (∀ σ2, σ2 = tn_u σ 39 7 y3 → tn_CI m_X6_areSo [.ref 39] ks ρ σ2 (fun r1 σ3 => ((r1 = 0 → (∀ x1 : Int32, x1 = (y2 ||| (0 : Int32)) → (∀ x2 : Int32, x2 = y3 + (1 : Int32) → tn_A Γ 19 [.ref 39, .int y1, .int x1, .int x2] [] 0 0 ks ρ σ3))) ∧ (¬ r1 = 0 → (∀ x3 : Int32, x3 = (y2 ||| ((1 : Int32) <<< (y3 &&& 31))) → (∀ x4 : Int32, x4 = y3 + (1 : Int32) → tn_A Γ 19 [.ref 39, .int y1, .int x3, .int x4] [] 0 0 ks ρ σ3))))))))) : tn_A Γ 19 [.ref 39, .int y1, .int y2, .int y3] [] 0 0 ks ρ σ := by
  refine tn_iload_n (pc := 19) hΓ d_X6_steps_19 rfl ?_
  refine tn_iconst (pc := 20) hΓ d_X6_steps_20 ic_4 ?_
  refine tn_icmp_gt (tgt := 52) (pc := 21) hΓ d_X6_steps_21 (by decide) (fun hq => ?_) (fun hq => ?_)
  · have h := h.1 hq
    refine tn_aload_n (pc := 52) hΓ d_X6_steps_52 rfl ?_
    refine tn_iload_n (pc := 53) hΓ d_X6_steps_53 rfl ?_
    refine tn_putI (pc := 54) hΓ d_X6_steps_54 fl_6_101 fk_6_6_7 rfl (gd_k hG (c := 39) rfl)  ?_
    refine tn_tops (fun σ1 eσ1 => ?_)
    have h := h σ1 eσ1
    refine tn_iload_n (pc := 57) hΓ d_X6_steps_57 rfl ?_
    exact tn_ret_i (pc := 58) hΓ hK d_X6_steps_58 rfl (by decide) (by decide) h
  · have h := h.2 hq
    refine tn_aload_n (pc := 24) hΓ d_X6_steps_24 rfl ?_
    refine tn_iload_n (pc := 25) hΓ d_X6_steps_25 rfl ?_
    refine tn_putI (pc := 26) hΓ d_X6_steps_26 fl_6_101 fk_6_6_7 rfl (gd_k hG (c := 39) rfl)  ?_
    refine tn_tops (fun σ2 eσ2 => ?_)
    have h := h σ2 eσ2
    refine tn_iload_n (pc := 29) hΓ d_X6_steps_29 rfl ?_
    refine tn_aload_n (pc := 30) hΓ d_X6_steps_30 rfl ?_
    refine tn_cvI (As := []) (st := [.int y2]) (pc := 31) hΓ d_X6_steps_31 mv_X6_areSo im_X6_areSo se_X6_areSo ml_6_197 ⟨⟨by decide, by decide⟩, by decide, by decide⟩ rfl rfl rfl (by decide) ⟨_, rfl⟩ (gd_k hG (c := 39) rfl) (Nat.le_of_ble_eq_true rfl) rfl h (fun r1 σ3 h => ?_)
    refine tn_if_eq (tgt := 43) (pc := 34) hΓ d_X6_steps_34 (by decide) (fun hq => ?_) (fun hq => ?_)
    · have h := h.1 hq
      refine tn_iconst (pc := 43) hΓ d_X6_steps_43 ic_0 ?_
      refine tn_ior (pc := 44) hΓ d_X6_steps_44 ?_
      refine tn_topi (fun x1 ex1 => ?_)
      have h := h x1 ex1
      refine tn_istore_n (loc' := [.ref 39, .int y1, .int x1, .int y3]) (pc := 45) hΓ d_X6_steps_45 (by decide) rfl rfl ?_
      refine tn_iincw (loc' := fun v_ => [.ref 39, .int y1, .int x1, .int v_]) (pc := 46) hΓ d_X6_steps_46 rfl ic_1 (by decide) rfl (fun _ => rfl) (fun x2 ex2 => ?_)
      have h := h x2 ex2
      refine tn_goto (tgt := 19) (pc := 49) hΓ d_X6_steps_49 (by decide) ?_
      exact h
    · have h := h.2 hq
      refine tn_iconst (pc := 37) hΓ d_X6_steps_37 ic_1 ?_
      refine tn_iload_n (pc := 38) hΓ d_X6_steps_38 rfl ?_
      refine tn_ishl (pc := 39) hΓ d_X6_steps_39 ?_
      refine tn_goto (tgt := 44) (pc := 40) hΓ d_X6_steps_40 (by decide) ?_
      refine tn_ior (pc := 44) hΓ d_X6_steps_44 ?_
      refine tn_topi (fun x3 ex3 => ?_)
      have h := h x3 ex3
      refine tn_istore_n (loc' := [.ref 39, .int y1, .int x3, .int y3]) (pc := 45) hΓ d_X6_steps_45 (by decide) rfl rfl ?_
      refine tn_iincw (loc' := fun v_ => [.ref 39, .int y1, .int x3, .int v_]) (pc := 46) hΓ d_X6_steps_46 rfl ic_1 (by decide) rfl (fun _ => rfl) (fun x4 ex4 => ?_)
      have h := h x4 ex4
      refine tn_goto (tgt := 19) (pc := 49) hΓ d_X6_steps_49 (by decide) ?_
      exact h
theorem k_X6_inLeastTerms_0 {Γ : tn_G} {ks : List (Nat × Nat)} {ρ : Nat → Nat → Nat} {σ : Nat → Nat → Int32} {K : Option Value → List (Nat × Nat) → (Nat → Nat → Nat) → (Nat → Nat → Int32) → Prop} (hG : tn_Gd ks ρ) (hΓ : tn_is Γ m_X6_inLeastTerms) (hK : tn_rt Γ m_X6_inLeastTerms K) (a0 : Int64) (a1 : Int64) (a2 : Int32) (h : tn_A Γ 6 [.long a0, .null, .long a1, .null, .int a2, .long a0, .null, .long a1, .null, .null, .null] [] 0 0 ks ρ σ) : tn_A Γ 0 [.long a0, .null, .long a1, .null, .int a2, .null, .null, .null, .null, .null, .null] [] 0 0 ks ρ σ := by
  refine tn_lload_n (pc := 0) hΓ d_X6_inLeastTerms_0 rfl ?_
  refine tn_lstore (loc' := [.long a0, .null, .long a1, .null, .int a2, .long a0, .null, .null, .null, .null, .null]) (pc := 1) hΓ d_X6_inLeastTerms_1 (by decide) rfl rfl ?_
  refine tn_lload_n (pc := 3) hΓ d_X6_inLeastTerms_3 rfl ?_
  refine tn_lstore (loc' := [.long a0, .null, .long a1, .null, .int a2, .long a0, .null, .long a1, .null, .null, .null]) (pc := 4) hΓ d_X6_inLeastTerms_4 (by decide) rfl rfl ?_
  exact h
theorem k_X6_inLeastTerms_6 {Γ : tn_G} {ks : List (Nat × Nat)} {ρ : Nat → Nat → Nat} {σ : Nat → Nat → Int32} {K : Option Value → List (Nat × Nat) → (Nat → Nat → Nat) → (Nat → Nat → Int32) → Prop} (hG : tn_Gd ks ρ) (hΓ : tn_is Γ m_X6_inLeastTerms) (hK : tn_rt Γ m_X6_inLeastTerms K) (y0 : Int64) (y2 : Int64) (y4 : Int32) (y5 : Int64) (y7 : Int64) (h : (((lg_cmp y7 (0 : Int64)) = 0 → ((¬ y4 = 0 → (¬ y5 = 0 ∧ K (some (.long (y2 / y5))) ks ρ σ)) ∧ (y4 = 0 → (¬ y5 = 0 ∧ K (some (.long (y0 / y5))) ks ρ σ)))) ∧ (¬ (lg_cmp y7 (0 : Int64)) = 0 → (¬ y7 = 0 ∧ (∀ x1 : Int64, x1 = (y5 - y5 / y7 * y7) → tn_A Γ 6 [.long y0, .null, .long y2, .null, .int y4, .long y7, .null, .long x1, .null, .null, .null] [] 0 0 ks ρ σ))))) : tn_A Γ 6 [.long y0, .null, .long y2, .null, .int y4, .long y5, .null, .long y7, .null, .null, .null] [] 0 0 ks ρ σ := by
  refine tn_lload (pc := 6) hΓ d_X6_inLeastTerms_6 rfl ?_
  refine tn_lconst (pc := 8) hΓ d_X6_inLeastTerms_8 (v := 0) (by decide) ?_
  refine tn_lcmp (pc := 9) hΓ d_X6_inLeastTerms_9 ?_
  refine tn_if_eq (tgt := 31) (pc := 10) hΓ d_X6_inLeastTerms_10 (by decide) (fun hq => ?_) (fun hq => ?_)
  · have h := h.1 hq
    refine tn_iload (pc := 31) hΓ d_X6_inLeastTerms_31 rfl ?_
    refine tn_if_ne (tgt := 43) (pc := 33) hΓ d_X6_inLeastTerms_33 (by decide) (fun hq => ?_) (fun hq => ?_)
    · have h := h.1 hq
      refine tn_lload_n (pc := 43) hΓ d_X6_inLeastTerms_43 rfl ?_
      refine tn_lload (pc := 44) hΓ d_X6_inLeastTerms_44 rfl ?_
      obtain ⟨hq, h⟩ := h
      refine tn_ldiv (pc := 46) hΓ d_X6_inLeastTerms_46 hq ?_
      exact tn_ret_l (pc := 47) hΓ hK d_X6_inLeastTerms_47 rfl (by decide) (by decide) h
    · have h := h.2 hq
      refine tn_lload_n (pc := 36) hΓ d_X6_inLeastTerms_36 rfl ?_
      refine tn_lload (pc := 37) hΓ d_X6_inLeastTerms_37 rfl ?_
      obtain ⟨hq, h⟩ := h
      refine tn_ldiv (pc := 39) hΓ d_X6_inLeastTerms_39 hq ?_
      refine tn_goto (tgt := 47) (pc := 40) hΓ d_X6_inLeastTerms_40 (by decide) ?_
      exact tn_ret_l (pc := 47) hΓ hK d_X6_inLeastTerms_47 rfl (by decide) (by decide) h
  · have h := h.2 hq
    refine tn_lload (pc := 13) hΓ d_X6_inLeastTerms_13 rfl ?_
    refine tn_lload (pc := 15) hΓ d_X6_inLeastTerms_15 rfl ?_
    obtain ⟨hq, h⟩ := h
    refine tn_lrem (pc := 17) hΓ d_X6_inLeastTerms_17 hq ?_
    refine tn_topl (fun x1 ex1 => ?_)
    have h := h x1 ex1
    refine tn_lstore (loc' := [.long y0, .null, .long y2, .null, .int y4, .long y5, .null, .long y7, .null, .long x1, .null]) (pc := 18) hΓ d_X6_inLeastTerms_18 (by decide) rfl rfl ?_
    refine tn_lload (pc := 20) hΓ d_X6_inLeastTerms_20 rfl ?_
    refine tn_lstore (loc' := [.long y0, .null, .long y2, .null, .int y4, .long y7, .null, .long y7, .null, .long x1, .null]) (pc := 22) hΓ d_X6_inLeastTerms_22 (by decide) rfl rfl ?_
    refine tn_lload (pc := 24) hΓ d_X6_inLeastTerms_24 rfl ?_
    refine tn_lstore (loc' := [.long y0, .null, .long y2, .null, .int y4, .long y7, .null, .long x1, .null, .long x1, .null]) (pc := 26) hΓ d_X6_inLeastTerms_26 (by decide) rfl rfl ?_
    refine tn_goto (tgt := 6) (pc := 28) hΓ d_X6_inLeastTerms_28 (by decide) ?_
    refine tn_drop [true, false, true, false, true, true, false, true, false, false, false] (loc' := [.long y0, .null, .long y2, .null, .int y4, .long y7, .null, .long x1, .null, .null, .null]) rfl ?_
    exact h
theorem k_X6_odds_0 {Γ : tn_G} {ks : List (Nat × Nat)} {ρ : Nat → Nat → Nat} {σ : Nat → Nat → Int32} {K : Option Value → List (Nat × Nat) → (Nat → Nat → Nat) → (Nat → Nat → Int32) → Prop} (hG : tn_Gd ks ρ) (hΓ : tn_is Γ m_X6_odds) (hK : tn_rt Γ m_X6_odds K) (a0 : Int32) (a1 : Int32) (h : tn_CI m_X6_within [.int a0, .int (0 : Int32), .int (90 : Int32)] ks ρ σ (fun r1 σ1 => ((r1 = 0 → K (some (.long (-9223372036854775808 : Int64))) ks ρ σ1) ∧ (¬ r1 = 0 → tn_CI m_X6_within [.int a1, .int (0 : Int32), .int (1 : Int32)] ks ρ σ1 (fun r2 σ2 => ((r2 = 0 → K (some (.long (-9223372036854775808 : Int64))) ks ρ σ2) ∧ (¬ r2 = 0 → ((¬ (σ2 39 5) = 0 → tn_CI m_X6_whoRankle [.ref 39] ks ρ σ2 (fun r3 σ3 => tn_A Γ 44 [.ref 39, .int a0, .int a1, .int r3, .int (0 : Int32), .int (0 : Int32), .int (0 : Int32)] [] 0 0 ks ρ σ3)) ∧ ((σ2 39 5) = 0 → K (some (.long (-9223372036854775808 : Int64))) ks ρ σ2))))))))) : tn_A Γ 0 [.ref 39, .int a0, .int a1, .null, .null, .null, .null] [] 0 0 ks ρ σ := by
  refine tn_iload_n (pc := 0) hΓ d_X6_odds_0 rfl ?_
  refine tn_iconst (pc := 1) hΓ d_X6_odds_1 ic_0 ?_
  refine tn_bipush (pc := 2) hΓ d_X6_odds_2 bp_90 ?_
  refine tn_csI (As := [.int a0, .int (0 : Int32), .int (90 : Int32)]) (st := []) (pc := 4) hΓ d_X6_odds_4 mv_X6_within st_X6_within ml_6_58 ⟨⟨by decide, by decide⟩, by decide, by decide⟩ rfl rfl rfl (Nat.le_of_ble_eq_true rfl) rfl h (fun r1 σ1 h => ?_)
  refine tn_if_eq (tgt := 26) (pc := 7) hΓ d_X6_odds_7 (by decide) (fun hq => ?_) (fun hq => ?_)
  · have h := h.1 hq
    refine tn_ldc2 (pc := 26) hΓ kc_6_56 d_X6_odds_26 ?_
    exact tn_ret_l (pc := 29) hΓ hK d_X6_odds_29 rfl (by decide) (by decide) h
  · have h := h.2 hq
    refine tn_iload_n (pc := 10) hΓ d_X6_odds_10 rfl ?_
    refine tn_iconst (pc := 11) hΓ d_X6_odds_11 ic_0 ?_
    refine tn_iconst (pc := 12) hΓ d_X6_odds_12 ic_1 ?_
    refine tn_csI (As := [.int a1, .int (0 : Int32), .int (1 : Int32)]) (st := []) (pc := 13) hΓ d_X6_odds_13 mv_X6_within st_X6_within ml_6_58 ⟨⟨by decide, by decide⟩, by decide, by decide⟩ rfl rfl rfl (Nat.le_of_ble_eq_true rfl) rfl h (fun r2 σ2 h => ?_)
    refine tn_if_eq (tgt := 26) (pc := 16) hΓ d_X6_odds_16 (by decide) (fun hq => ?_) (fun hq => ?_)
    · have h := h.1 hq
      refine tn_ldc2 (pc := 26) hΓ kc_6_56 d_X6_odds_26 ?_
      exact tn_ret_l (pc := 29) hΓ hK d_X6_odds_29 rfl (by decide) (by decide) h
    · have h := h.2 hq
      refine tn_aload_n (pc := 19) hΓ d_X6_odds_19 rfl ?_
      refine tn_getI (pc := 20) hΓ d_X6_odds_20 fl_6_62 rfl (gd_k hG (c := 39) rfl) ?_
      refine tn_if_ne (tgt := 30) (pc := 23) hΓ d_X6_odds_23 (by decide) (fun hq => ?_) (fun hq => ?_)
      · have h := h.1 hq
        refine tn_aload_n (pc := 30) hΓ d_X6_odds_30 rfl ?_
        refine tn_cvI (As := []) (st := []) (pc := 31) hΓ d_X6_odds_31 mv_X6_whoRankle im_X6_whoRankle se_X6_whoRankle ml_6_158 ⟨⟨by decide, by decide⟩, by decide, by decide⟩ rfl rfl rfl (by decide) ⟨_, rfl⟩ (gd_k hG (c := 39) rfl) (Nat.le_of_ble_eq_true rfl) rfl h (fun r3 σ3 h => ?_)
        refine tn_istore_n (loc' := [.ref 39, .int a0, .int a1, .int r3, .null, .null, .null]) (pc := 34) hΓ d_X6_odds_34 (by decide) rfl rfl ?_
        refine tn_iconst (pc := 35) hΓ d_X6_odds_35 ic_0 ?_
        refine tn_istore (loc' := [.ref 39, .int a0, .int a1, .int r3, .int (0 : Int32), .null, .null]) (pc := 36) hΓ d_X6_odds_36 (by decide) rfl rfl ?_
        refine tn_iconst (pc := 38) hΓ d_X6_odds_38 ic_0 ?_
        refine tn_istore (loc' := [.ref 39, .int a0, .int a1, .int r3, .int (0 : Int32), .int (0 : Int32), .null]) (pc := 39) hΓ d_X6_odds_39 (by decide) rfl rfl ?_
        refine tn_iconst (pc := 41) hΓ d_X6_odds_41 ic_0 ?_
        refine tn_istore (loc' := [.ref 39, .int a0, .int a1, .int r3, .int (0 : Int32), .int (0 : Int32), .int (0 : Int32)]) (pc := 42) hΓ d_X6_odds_42 (by decide) rfl rfl ?_
        exact h
      · have h := h.2 hq
        refine tn_ldc2 (pc := 26) hΓ kc_6_56 d_X6_odds_26 ?_
        exact tn_ret_l (pc := 29) hΓ hK d_X6_odds_29 rfl (by decide) (by decide) h
theorem k_X6_odds_44 {Γ : tn_G} {ks : List (Nat × Nat)} {ρ : Nat → Nat → Nat} {σ : Nat → Nat → Int32} {K : Option Value → List (Nat × Nat) → (Nat → Nat → Nat) → (Nat → Nat → Int32) → Prop} (hG : tn_Gd ks ρ) (hΓ : tn_is Γ m_X6_odds) (hK : tn_rt Γ m_X6_odds K) (y1 : Int32) (y2 : Int32) (y3 : Int32) (y4 : Int32) (y5 : Int32) (y6 : Int32) (h : ((((1 : Int32) <<< ((σ 39 5) &&& 31)) ≤ y6 → tn_CL m_X6_inLeastTerms [.long y5.toInt64, .long y4.toInt64, .int y2] ks ρ σ (fun r1 σ1 => K (some (.long r1)) ks ρ σ1)) ∧ (¬ ((1 : Int32) <<< ((σ 39 5) &&& 31)) ≤ y6 → ((¬ (y6 &&& (y3 ^^^ (-1 : Int32))) = 0 → (∀ x1 : Int32, x1 = y6 + (1 : Int32) → tn_A Γ 44 [.ref 39, .int y1, .int y2, .int y3, .int y4, .int y5, .int x1] [] 0 0 ks ρ σ)) ∧ ((y6 &&& (y3 ^^^ (-1 : Int32))) = 0 → (∀ x2 : Int32, x2 = y4 + (1 : Int32) → tn_CI m_X6_weightOfSet [.ref 39, .int y6] ks ρ σ (fun r2 σ2 => ((r2 < y1 → (∀ x3 : Int32, x3 = (y5 + (0 : Int32)) → (∀ x4 : Int32, x4 = y6 + (1 : Int32) → tn_A Γ 44 [.ref 39, .int y1, .int y2, .int y3, .int x2, .int x3, .int x4] [] 0 0 ks ρ σ2))) ∧ (¬ r2 < y1 → (∀ x5 : Int32, x5 = (y5 + (1 : Int32)) → (∀ x6 : Int32, x6 = y6 + (1 : Int32) → tn_A Γ 44 [.ref 39, .int y1, .int y2, .int y3, .int x2, .int x5, .int x6] [] 0 0 ks ρ σ2))))))))))) : tn_A Γ 44 [.ref 39, .int y1, .int y2, .int y3, .int y4, .int y5, .int y6] [] 0 0 ks ρ σ := by
  refine tn_iload (pc := 44) hΓ d_X6_odds_44 rfl ?_
  refine tn_iconst (pc := 46) hΓ d_X6_odds_46 ic_1 ?_
  refine tn_aload_n (pc := 47) hΓ d_X6_odds_47 rfl ?_
  refine tn_getI (pc := 48) hΓ d_X6_odds_48 fl_6_62 rfl (gd_k hG (c := 39) rfl) ?_
  refine tn_ishl (pc := 51) hΓ d_X6_odds_51 ?_
  refine tn_icmp_ge (tgt := 93) (pc := 52) hΓ d_X6_odds_52 (by decide) (fun hq => ?_) (fun hq => ?_)
  · have h := h.1 hq
    refine tn_iload (pc := 93) hΓ d_X6_odds_93 rfl ?_
    refine tn_i2l (pc := 95) hΓ d_X6_odds_95 ?_
    refine tn_iload (pc := 96) hΓ d_X6_odds_96 rfl ?_
    refine tn_i2l (pc := 98) hΓ d_X6_odds_98 ?_
    refine tn_iload_n (pc := 99) hΓ d_X6_odds_99 rfl ?_
    refine tn_csL (As := [.long y5.toInt64, .long y4.toInt64, .int y2]) (st := []) (pc := 100) hΓ d_X6_odds_100 mv_X6_inLeastTerms st_X6_inLeastTerms ml_6_201 ⟨⟨by decide, by decide⟩, by decide, by decide⟩ rfl rfl rfl (Nat.le_of_ble_eq_true rfl) rfl h (fun r1 σ1 h => ?_)
    exact tn_ret_l (pc := 103) hΓ hK d_X6_odds_103 rfl (by decide) (by decide) h
  · have h := h.2 hq
    refine tn_iload (pc := 55) hΓ d_X6_odds_55 rfl ?_
    refine tn_iload_n (pc := 57) hΓ d_X6_odds_57 rfl ?_
    refine tn_iconst (pc := 58) hΓ d_X6_odds_58 ic_m1 ?_
    refine tn_ixor (pc := 59) hΓ d_X6_odds_59 ?_
    refine tn_iand (pc := 60) hΓ d_X6_odds_60 ?_
    refine tn_if_ne (tgt := 87) (pc := 61) hΓ d_X6_odds_61 (by decide) (fun hq => ?_) (fun hq => ?_)
    · have h := h.1 hq
      refine tn_iincw (loc' := fun v_ => [.ref 39, .int y1, .int y2, .int y3, .int y4, .int y5, .int v_]) (pc := 87) hΓ d_X6_odds_87 rfl ic_1 (by decide) rfl (fun _ => rfl) (fun x1 ex1 => ?_)
      have h := h x1 ex1
      refine tn_goto (tgt := 44) (pc := 90) hΓ d_X6_odds_90 (by decide) ?_
      exact h
    · have h := h.2 hq
      refine tn_iincw (loc' := fun v_ => [.ref 39, .int y1, .int y2, .int y3, .int v_, .int y5, .int y6]) (pc := 64) hΓ d_X6_odds_64 rfl ic_1 (by decide) rfl (fun _ => rfl) (fun x2 ex2 => ?_)
      have h := h x2 ex2
      refine tn_iload (pc := 67) hΓ d_X6_odds_67 rfl ?_
      refine tn_aload_n (pc := 69) hΓ d_X6_odds_69 rfl ?_
      refine tn_iload (pc := 70) hΓ d_X6_odds_70 rfl ?_
      refine tn_cvI (As := [.int y6]) (st := [.int y5]) (pc := 72) hΓ d_X6_odds_72 mv_X6_weightOfSet im_X6_weightOfSet se_X6_weightOfSet ml_6_190 ⟨⟨by decide, by decide⟩, by decide, by decide⟩ rfl rfl rfl (by decide) ⟨_, rfl⟩ (gd_k hG (c := 39) rfl) (Nat.le_of_ble_eq_true rfl) rfl h (fun r2 σ2 h => ?_)
      refine tn_iload_n (pc := 75) hΓ d_X6_odds_75 rfl ?_
      refine tn_icmp_lt (tgt := 83) (pc := 76) hΓ d_X6_odds_76 (by decide) (fun hq => ?_) (fun hq => ?_)
      · have h := h.1 hq
        refine tn_iconst (pc := 83) hΓ d_X6_odds_83 ic_0 ?_
        refine tn_iadd (pc := 84) hΓ d_X6_odds_84 ?_
        refine tn_topi (fun x3 ex3 => ?_)
        have h := h x3 ex3
        refine tn_istore (loc' := [.ref 39, .int y1, .int y2, .int y3, .int x2, .int x3, .int y6]) (pc := 85) hΓ d_X6_odds_85 (by decide) rfl rfl ?_
        refine tn_iincw (loc' := fun v_ => [.ref 39, .int y1, .int y2, .int y3, .int x2, .int x3, .int v_]) (pc := 87) hΓ d_X6_odds_87 rfl ic_1 (by decide) rfl (fun _ => rfl) (fun x4 ex4 => ?_)
        have h := h x4 ex4
        refine tn_goto (tgt := 44) (pc := 90) hΓ d_X6_odds_90 (by decide) ?_
        exact h
      · have h := h.2 hq
        refine tn_iconst (pc := 79) hΓ d_X6_odds_79 ic_1 ?_
        refine tn_goto (tgt := 84) (pc := 80) hΓ d_X6_odds_80 (by decide) ?_
        refine tn_iadd (pc := 84) hΓ d_X6_odds_84 ?_
        refine tn_topi (fun x5 ex5 => ?_)
        have h := h x5 ex5
        refine tn_istore (loc' := [.ref 39, .int y1, .int y2, .int y3, .int x2, .int x5, .int y6]) (pc := 85) hΓ d_X6_odds_85 (by decide) rfl rfl ?_
        refine tn_iincw (loc' := fun v_ => [.ref 39, .int y1, .int y2, .int y3, .int x2, .int x5, .int v_]) (pc := 87) hΓ d_X6_odds_87 rfl ic_1 (by decide) rfl (fun _ => rfl) (fun x6 ex6 => ?_)
        have h := h x6 ex6
        refine tn_goto (tgt := 44) (pc := 90) hΓ d_X6_odds_90 (by decide) ?_
        exact h
theorem k_X6_sheet_0 {Γ : tn_G} {ks : List (Nat × Nat)} {ρ : Nat → Nat → Nat} {σ : Nat → Nat → Int32} {K : Option Value → List (Nat × Nat) → (Nat → Nat → Nat) → (Nat → Nat → Int32) → Prop} (hG : tn_Gd ks ρ) (hΓ : tn_is Γ m_X6_sheet) (hK : tn_rt Γ m_X6_sheet K) (a0 : Int32) (a1 : Int32) (a2 : Int32) (h : (∀ σ1, σ1 = tn_u σ 39 0 (0 : Int32) → tn_CI m_X6_isSheet [.int a0] ks ρ σ1 (fun r1 σ2 => ((¬ r1 = 0 → tn_CI m_X6_isSort [.int a1] ks ρ σ2 (fun r2 σ3 => ((r2 = 0 → K (some (.int (-2 : Int32))) ks ρ σ3) ∧ (¬ r2 = 0 → ((a2 ≤ (60 : Int32) → ((0 ≤ a2 → (vp_in a0 4 ∧ (∀ σ4, σ4 = tn_u σ3 40 a0.toNatClampNeg a1 → (∀ σ5, σ5 = tn_u σ4 41 a0.toNatClampNeg a2 → tn_A Γ 57 [.ref 39, .int a0, .null, .null, .int (0 : Int32)] [] 0 0 ks ρ σ5)))) ∧ (¬ 0 ≤ a2 → tn_CI m_X6_fails [.ref 39, .int (4 : Int32)] ks ρ σ3 (fun r3 σ6 => K (some (.int r3)) ks ρ σ6)))) ∧ (¬ a2 ≤ (60 : Int32) → K (some (.int (-2 : Int32))) ks ρ σ3)))))) ∧ (r1 = 0 → K (some (.int (-1 : Int32))) ks ρ σ2))))) : tn_A Γ 0 [.ref 39, .int a0, .int a1, .int a2, .null] [] 0 0 ks ρ σ := by
  refine tn_aload_n (pc := 0) hΓ d_X6_sheet_0 rfl ?_
  refine tn_iconst (pc := 1) hΓ d_X6_sheet_1 ic_0 ?_
  refine tn_putI (pc := 2) hΓ d_X6_sheet_2 fl_6_52 fk_6_6_0 rfl (gd_k hG (c := 39) rfl)  ?_
  refine tn_tops (fun σ1 eσ1 => ?_)
  have h := h σ1 eσ1
  refine tn_iload_n (pc := 5) hΓ d_X6_sheet_5 rfl ?_
  refine tn_csI (As := [.int a0]) (st := []) (pc := 6) hΓ d_X6_sheet_6 mv_X6_isSheet st_X6_isSheet ml_6_71 ⟨⟨by decide, by decide⟩, by decide, by decide⟩ rfl rfl rfl (Nat.le_of_ble_eq_true rfl) rfl h (fun r1 σ2 h => ?_)
  refine tn_if_ne (tgt := 14) (pc := 9) hΓ d_X6_sheet_9 (by decide) (fun hq => ?_) (fun hq => ?_)
  · have h := h.1 hq
    refine tn_iload_n (pc := 14) hΓ d_X6_sheet_14 rfl ?_
    refine tn_csI (As := [.int a1]) (st := []) (pc := 15) hΓ d_X6_sheet_15 mv_X6_isSort st_X6_isSort ml_6_75 ⟨⟨by decide, by decide⟩, by decide, by decide⟩ rfl rfl rfl (Nat.le_of_ble_eq_true rfl) rfl h (fun r2 σ3 h => ?_)
    refine tn_if_eq (tgt := 27) (pc := 18) hΓ d_X6_sheet_18 (by decide) (fun hq => ?_) (fun hq => ?_)
    · have h := h.1 hq
      refine tn_bipush (pc := 27) hΓ d_X6_sheet_27 bp_m2 ?_
      exact tn_ret_i (pc := 29) hΓ hK d_X6_sheet_29 rfl (by decide) (by decide) h
    · have h := h.2 hq
      refine tn_iload_n (pc := 21) hΓ d_X6_sheet_21 rfl ?_
      refine tn_bipush (pc := 22) hΓ d_X6_sheet_22 bp_60 ?_
      refine tn_icmp_le (tgt := 30) (pc := 24) hΓ d_X6_sheet_24 (by decide) (fun hq => ?_) (fun hq => ?_)
      · have h := h.1 hq
        refine tn_iload_n (pc := 30) hΓ d_X6_sheet_30 rfl ?_
        refine tn_if_ge (tgt := 40) (pc := 31) hΓ d_X6_sheet_31 (by decide) (fun hq => ?_) (fun hq => ?_)
        · have h := h.1 hq
          refine tn_aload_n (pc := 40) hΓ d_X6_sheet_40 rfl ?_
          refine tn_getRy (y := 40) (pc := 41) hΓ d_X6_sheet_41 fl_6_9 rfl (gd_k hG (c := 39) rfl) (gd_r hG 39 2 40 rfl rfl) ?_
          refine tn_iload_n (pc := 44) hΓ d_X6_sheet_44 rfl ?_
          refine tn_iload_n (pc := 45) hΓ d_X6_sheet_45 rfl ?_
          obtain ⟨hi1, h⟩ := h
          refine tn_ast (pc := 46) hΓ d_X6_sheet_46 (gd_k hG (c := 40) rfl) hi1 ?_
          refine tn_tops (fun σ4 eσ4 => ?_)
          have h := h σ4 eσ4
          refine tn_aload_n (pc := 47) hΓ d_X6_sheet_47 rfl ?_
          refine tn_getRy (y := 41) (pc := 48) hΓ d_X6_sheet_48 fl_6_13 rfl (gd_k hG (c := 39) rfl) (gd_r hG 39 3 41 rfl rfl) ?_
          refine tn_iload_n (pc := 51) hΓ d_X6_sheet_51 rfl ?_
          refine tn_iload_n (pc := 52) hΓ d_X6_sheet_52 rfl ?_
          refine tn_ast (pc := 53) hΓ d_X6_sheet_53 (gd_k hG (c := 41) rfl) hi1 ?_
          refine tn_tops (fun σ5 eσ5 => ?_)
          have h := h σ5 eσ5
          refine tn_iconst (pc := 54) hΓ d_X6_sheet_54 ic_0 ?_
          refine tn_istore (loc' := [.ref 39, .int a0, .int a1, .int a2, .int (0 : Int32)]) (pc := 55) hΓ d_X6_sheet_55 (by decide) rfl rfl ?_
          refine tn_drop [true, true, false, false, true] (loc' := [.ref 39, .int a0, .null, .null, .int (0 : Int32)]) rfl ?_
          exact h
        · have h := h.2 hq
          refine tn_aload_n (pc := 34) hΓ d_X6_sheet_34 rfl ?_
          refine tn_iconst (pc := 35) hΓ d_X6_sheet_35 ic_4 ?_
          refine tn_cvI (As := [.int (4 : Int32)]) (st := []) (pc := 36) hΓ d_X6_sheet_36 mv_X6_fails im_X6_fails se_X6_fails ml_6_82 ⟨⟨by decide, by decide⟩, by decide, by decide⟩ rfl rfl rfl (by decide) ⟨_, rfl⟩ (gd_k hG (c := 39) rfl) (Nat.le_of_ble_eq_true rfl) rfl h (fun r3 σ6 h => ?_)
          exact tn_ret_i (pc := 39) hΓ hK d_X6_sheet_39 rfl (by decide) (by decide) h
      · have h := h.2 hq
        refine tn_bipush (pc := 27) hΓ d_X6_sheet_27 bp_m2 ?_
        exact tn_ret_i (pc := 29) hΓ hK d_X6_sheet_29 rfl (by decide) (by decide) h
  · have h := h.2 hq
    refine tn_iconst (pc := 12) hΓ d_X6_sheet_12 ic_m1 ?_
    exact tn_ret_i (pc := 13) hΓ hK d_X6_sheet_13 rfl (by decide) (by decide) h
theorem k_X6_sheet_57 {Γ : tn_G} {ks : List (Nat × Nat)} {ρ : Nat → Nat → Nat} {σ : Nat → Nat → Int32} {K : Option Value → List (Nat × Nat) → (Nat → Nat → Nat) → (Nat → Nat → Int32) → Prop} (hG : tn_Gd ks ρ) (hΓ : tn_is Γ m_X6_sheet) (hK : tn_rt Γ m_X6_sheet K) (y1 : Int32) (y4 : Int32) (h : (((60 : Int32) ≤ y4 → K (some (.int (1 : Int32))) ks ρ σ) ∧ (¬ (60 : Int32) ≤ y4 → (vp_in (((60 : Int32) * y1) + y4) 240 ∧ (∀ σ1, σ1 = tn_u σ 42 (((60 : Int32) * y1) + y4).toNatClampNeg (0 : Int32) → (∀ x1 : Int32, x1 = y4 + (1 : Int32) → tn_A Γ 57 [.ref 39, .int y1, .null, .null, .int x1] [] 0 0 ks ρ σ1)))))) : tn_A Γ 57 [.ref 39, .int y1, .null, .null, .int y4] [] 0 0 ks ρ σ := by
  refine tn_iload (pc := 57) hΓ d_X6_sheet_57 rfl ?_
  refine tn_bipush (pc := 59) hΓ d_X6_sheet_59 bp_60 ?_
  refine tn_icmp_ge (tgt := 83) (pc := 61) hΓ d_X6_sheet_61 (by decide) (fun hq => ?_) (fun hq => ?_)
  · have h := h.1 hq
    refine tn_iconst (pc := 83) hΓ d_X6_sheet_83 ic_1 ?_
    exact tn_ret_i (pc := 84) hΓ hK d_X6_sheet_84 rfl (by decide) (by decide) h
  · have h := h.2 hq
    refine tn_aload_n (pc := 64) hΓ d_X6_sheet_64 rfl ?_
    refine tn_getRy (y := 42) (pc := 65) hΓ d_X6_sheet_65 fl_6_16 rfl (gd_k hG (c := 39) rfl) (gd_r hG 39 4 42 rfl rfl) ?_
    refine tn_bipush (pc := 68) hΓ d_X6_sheet_68 bp_60 ?_
    refine tn_iload_n (pc := 70) hΓ d_X6_sheet_70 rfl ?_
    refine tn_imul (pc := 71) hΓ d_X6_sheet_71 ?_
    refine tn_iload (pc := 72) hΓ d_X6_sheet_72 rfl ?_
    refine tn_iadd (pc := 74) hΓ d_X6_sheet_74 ?_
    refine tn_iconst (pc := 75) hΓ d_X6_sheet_75 ic_0 ?_
    obtain ⟨hi1, h⟩ := h
    refine tn_ast (pc := 76) hΓ d_X6_sheet_76 (gd_k hG (c := 42) rfl) hi1 ?_
    refine tn_tops (fun σ1 eσ1 => ?_)
    have h := h σ1 eσ1
    refine tn_iincw (loc' := fun v_ => [.ref 39, .int y1, .null, .null, .int v_]) (pc := 77) hΓ d_X6_sheet_77 rfl ic_1 (by decide) rfl (fun _ => rfl) (fun x1 ex1 => ?_)
    have h := h x1 ex1
    refine tn_goto (tgt := 57) (pc := 80) hΓ d_X6_sheet_80 (by decide) ?_
    exact h
theorem k_X6_lose_0 {Γ : tn_G} {ks : List (Nat × Nat)} {ρ : Nat → Nat → Nat} {σ : Nat → Nat → Int32} {K : Option Value → List (Nat × Nat) → (Nat → Nat → Nat) → (Nat → Nat → Int32) → Prop} (hG : tn_Gd ks ρ) (hΓ : tn_is Γ m_X6_lose) (hK : tn_rt Γ m_X6_lose K) (a0 : Int32) (h : tn_CI m_X6_isSheet [.int a0] ks ρ σ (fun r1 σ1 => ((¬ r1 = 0 → (vp_in a0 4 ∧ ((¬ (σ1 40 a0.toNatClampNeg) = (-9 : Int32) → (∀ σ2, σ2 = tn_u σ1 40 a0.toNatClampNeg (-9 : Int32) → K (some (.int (1 : Int32))) ks ρ σ2)) ∧ ((σ1 40 a0.toNatClampNeg) = (-9 : Int32) → (∀ σ3, σ3 = tn_u σ1 40 a0.toNatClampNeg (-9 : Int32) → K (some (.int (0 : Int32))) ks ρ σ3))))) ∧ (r1 = 0 → K (some (.int (-1 : Int32))) ks ρ σ1)))) : tn_A Γ 0 [.ref 39, .int a0, .null] [] 0 0 ks ρ σ := by
  refine tn_iload_n (pc := 0) hΓ d_X6_lose_0 rfl ?_
  refine tn_csI (As := [.int a0]) (st := []) (pc := 1) hΓ d_X6_lose_1 mv_X6_isSheet st_X6_isSheet ml_6_71 ⟨⟨by decide, by decide⟩, by decide, by decide⟩ rfl rfl rfl (Nat.le_of_ble_eq_true rfl) rfl h (fun r1 σ1 h => ?_)
  refine tn_if_ne (tgt := 9) (pc := 4) hΓ d_X6_lose_4 (by decide) (fun hq => ?_) (fun hq => ?_)
  · have h := h.1 hq
    refine tn_aload_n (pc := 9) hΓ d_X6_lose_9 rfl ?_
    refine tn_getRy (y := 40) (pc := 10) hΓ d_X6_lose_10 fl_6_9 rfl (gd_k hG (c := 39) rfl) (gd_r hG 39 2 40 rfl rfl) ?_
    refine tn_iload_n (pc := 13) hΓ d_X6_lose_13 rfl ?_
    obtain ⟨hi1, h⟩ := h
    refine tn_ald (pc := 14) hΓ d_X6_lose_14 (gd_k hG (c := 40) rfl) hi1 ?_
    refine tn_bipush (pc := 15) hΓ d_X6_lose_15 bp_m9 ?_
    refine tn_icmp_ne (tgt := 24) (pc := 17) hΓ d_X6_lose_17 (by decide) (fun hq => ?_) (fun hq => ?_)
    · have h := h.1 hq
      refine tn_iconst (pc := 24) hΓ d_X6_lose_24 ic_1 ?_
      refine tn_istore_n (loc' := [.ref 39, .int a0, .int (1 : Int32)]) (pc := 25) hΓ d_X6_lose_25 (by decide) rfl rfl ?_
      refine tn_aload_n (pc := 26) hΓ d_X6_lose_26 rfl ?_
      refine tn_getRy (y := 40) (pc := 27) hΓ d_X6_lose_27 fl_6_9 rfl (gd_k hG (c := 39) rfl) (gd_r hG 39 2 40 rfl rfl) ?_
      refine tn_iload_n (pc := 30) hΓ d_X6_lose_30 rfl ?_
      refine tn_bipush (pc := 31) hΓ d_X6_lose_31 bp_m9 ?_
      refine tn_ast (pc := 33) hΓ d_X6_lose_33 (gd_k hG (c := 40) rfl) hi1 ?_
      refine tn_tops (fun σ2 eσ2 => ?_)
      have h := h σ2 eσ2
      refine tn_iload_n (pc := 34) hΓ d_X6_lose_34 rfl ?_
      exact tn_ret_i (pc := 35) hΓ hK d_X6_lose_35 rfl (by decide) (by decide) h
    · have h := h.2 hq
      refine tn_iconst (pc := 20) hΓ d_X6_lose_20 ic_0 ?_
      refine tn_goto (tgt := 25) (pc := 21) hΓ d_X6_lose_21 (by decide) ?_
      refine tn_istore_n (loc' := [.ref 39, .int a0, .int (0 : Int32)]) (pc := 25) hΓ d_X6_lose_25 (by decide) rfl rfl ?_
      refine tn_aload_n (pc := 26) hΓ d_X6_lose_26 rfl ?_
      refine tn_getRy (y := 40) (pc := 27) hΓ d_X6_lose_27 fl_6_9 rfl (gd_k hG (c := 39) rfl) (gd_r hG 39 2 40 rfl rfl) ?_
      refine tn_iload_n (pc := 30) hΓ d_X6_lose_30 rfl ?_
      refine tn_bipush (pc := 31) hΓ d_X6_lose_31 bp_m9 ?_
      refine tn_ast (pc := 33) hΓ d_X6_lose_33 (gd_k hG (c := 40) rfl) hi1 ?_
      refine tn_tops (fun σ3 eσ3 => ?_)
      have h := h σ3 eσ3
      refine tn_iload_n (pc := 34) hΓ d_X6_lose_34 rfl ?_
      exact tn_ret_i (pc := 35) hΓ hK d_X6_lose_35 rfl (by decide) (by decide) h
  · have h := h.2 hq
    refine tn_iconst (pc := 7) hΓ d_X6_lose_7 ic_m1 ?_
    exact tn_ret_i (pc := 8) hΓ hK d_X6_lose_8 rfl (by decide) (by decide) h
theorem k_X6_put_0 {Γ : tn_G} {ks : List (Nat × Nat)} {ρ : Nat → Nat → Nat} {σ : Nat → Nat → Int32} {K : Option Value → List (Nat × Nat) → (Nat → Nat → Nat) → (Nat → Nat → Int32) → Prop} (hG : tn_Gd ks ρ) (hΓ : tn_is Γ m_X6_put) (hK : tn_rt Γ m_X6_put K) (a0 : Int32) (a1 : Int32) (a2 : Int32) (h : (∀ σ1, σ1 = tn_u σ 39 0 (0 : Int32) → tn_CI m_X6_isSheet [.int a0] ks ρ σ1 (fun r1 σ2 => ((¬ r1 = 0 → (vp_in a0 4 ∧ ((¬ (σ2 40 a0.toNatClampNeg) = (-9 : Int32) → tn_CI m_X6_within [.int a1, .int (0 : Int32), .int ((σ2 41 a0.toNatClampNeg) - (1 : Int32))] ks ρ σ2 (fun r2 σ3 => ((¬ r2 = 0 → ((¬ (σ3 40 a0.toNatClampNeg) = 0 → ((¬ (σ3 40 a0.toNatClampNeg) = (1 : Int32) → (vp_in (((60 : Int32) * a0) + a1) 240 ∧ (∀ σ4, σ4 = tn_u σ3 42 (((60 : Int32) * a0) + a1).toNatClampNeg a2 → K (some (.int (1 : Int32))) ks ρ σ4))) ∧ ((σ3 40 a0.toNatClampNeg) = (1 : Int32) → (vp_in (((60 : Int32) * a0) + a1) 240 ∧ (∀ σ5, σ5 = tn_u σ3 42 (((60 : Int32) * a0) + a1).toNatClampNeg a2.toInt16.toInt32 → K (some (.int (1 : Int32))) ks ρ σ5))))) ∧ ((σ3 40 a0.toNatClampNeg) = 0 → (vp_in (((60 : Int32) * a0) + a1) 240 ∧ (∀ σ6, σ6 = tn_u σ3 42 (((60 : Int32) * a0) + a1).toNatClampNeg a2.toInt8.toInt32 → K (some (.int (1 : Int32))) ks ρ σ6))))) ∧ (r2 = 0 → tn_CI m_X6_fails [.ref 39, .int (3 : Int32)] ks ρ σ3 (fun r3 σ7 => K (some (.int r3)) ks ρ σ7))))) ∧ ((σ2 40 a0.toNatClampNeg) = (-9 : Int32) → tn_CI m_X6_fails [.ref 39, .int (1 : Int32)] ks ρ σ2 (fun r4 σ8 => K (some (.int r4)) ks ρ σ8))))) ∧ (r1 = 0 → K (some (.int (-1 : Int32))) ks ρ σ2))))) : tn_A Γ 0 [.ref 39, .int a0, .int a1, .int a2] [] 0 0 ks ρ σ := by
  refine tn_aload_n (pc := 0) hΓ d_X6_put_0 rfl ?_
  refine tn_iconst (pc := 1) hΓ d_X6_put_1 ic_0 ?_
  refine tn_putI (pc := 2) hΓ d_X6_put_2 fl_6_52 fk_6_6_0 rfl (gd_k hG (c := 39) rfl)  ?_
  refine tn_tops (fun σ1 eσ1 => ?_)
  have h := h σ1 eσ1
  refine tn_iload_n (pc := 5) hΓ d_X6_put_5 rfl ?_
  refine tn_csI (As := [.int a0]) (st := []) (pc := 6) hΓ d_X6_put_6 mv_X6_isSheet st_X6_isSheet ml_6_71 ⟨⟨by decide, by decide⟩, by decide, by decide⟩ rfl rfl rfl (Nat.le_of_ble_eq_true rfl) rfl h (fun r1 σ2 h => ?_)
  refine tn_if_ne (tgt := 14) (pc := 9) hΓ d_X6_put_9 (by decide) (fun hq => ?_) (fun hq => ?_)
  · have h := h.1 hq
    refine tn_aload_n (pc := 14) hΓ d_X6_put_14 rfl ?_
    refine tn_getRy (y := 40) (pc := 15) hΓ d_X6_put_15 fl_6_9 rfl (gd_k hG (c := 39) rfl) (gd_r hG 39 2 40 rfl rfl) ?_
    refine tn_iload_n (pc := 18) hΓ d_X6_put_18 rfl ?_
    obtain ⟨hi1, h⟩ := h
    refine tn_ald (pc := 19) hΓ d_X6_put_19 (gd_k hG (c := 40) rfl) hi1 ?_
    refine tn_bipush (pc := 20) hΓ d_X6_put_20 bp_m9 ?_
    refine tn_icmp_ne (tgt := 31) (pc := 22) hΓ d_X6_put_22 (by decide) (fun hq => ?_) (fun hq => ?_)
    · have h := h.1 hq
      refine tn_iload_n (pc := 31) hΓ d_X6_put_31 rfl ?_
      refine tn_iconst (pc := 32) hΓ d_X6_put_32 ic_0 ?_
      refine tn_aload_n (pc := 33) hΓ d_X6_put_33 rfl ?_
      refine tn_getRy (y := 41) (pc := 34) hΓ d_X6_put_34 fl_6_13 rfl (gd_k hG (c := 39) rfl) (gd_r hG 39 3 41 rfl rfl) ?_
      refine tn_iload_n (pc := 37) hΓ d_X6_put_37 rfl ?_
      refine tn_ald (pc := 38) hΓ d_X6_put_38 (gd_k hG (c := 41) rfl) hi1 ?_
      refine tn_iconst (pc := 39) hΓ d_X6_put_39 ic_1 ?_
      refine tn_isub (pc := 40) hΓ d_X6_put_40 ?_
      refine tn_csI (As := [.int a1, .int (0 : Int32), .int ((σ2 41 a0.toNatClampNeg) - (1 : Int32))]) (st := []) (pc := 41) hΓ d_X6_put_41 mv_X6_within st_X6_within ml_6_58 ⟨⟨by decide, by decide⟩, by decide, by decide⟩ rfl rfl rfl (Nat.le_of_ble_eq_true rfl) rfl h (fun r2 σ3 h => ?_)
      refine tn_if_ne (tgt := 53) (pc := 44) hΓ d_X6_put_44 (by decide) (fun hq => ?_) (fun hq => ?_)
      · have h := h.1 hq
        refine tn_aload_n (pc := 53) hΓ d_X6_put_53 rfl ?_
        refine tn_getRy (y := 42) (pc := 54) hΓ d_X6_put_54 fl_6_16 rfl (gd_k hG (c := 39) rfl) (gd_r hG 39 4 42 rfl rfl) ?_
        refine tn_bipush (pc := 57) hΓ d_X6_put_57 bp_60 ?_
        refine tn_iload_n (pc := 59) hΓ d_X6_put_59 rfl ?_
        refine tn_imul (pc := 60) hΓ d_X6_put_60 ?_
        refine tn_iload_n (pc := 61) hΓ d_X6_put_61 rfl ?_
        refine tn_iadd (pc := 62) hΓ d_X6_put_62 ?_
        refine tn_aload_n (pc := 63) hΓ d_X6_put_63 rfl ?_
        refine tn_getRy (y := 40) (pc := 64) hΓ d_X6_put_64 fl_6_9 rfl (gd_k hG (c := 39) rfl) (gd_r hG 39 2 40 rfl rfl) ?_
        refine tn_iload_n (pc := 67) hΓ d_X6_put_67 rfl ?_
        refine tn_ald (pc := 68) hΓ d_X6_put_68 (gd_k hG (c := 40) rfl) hi1 ?_
        refine tn_if_ne (tgt := 77) (pc := 69) hΓ d_X6_put_69 (by decide) (fun hq => ?_) (fun hq => ?_)
        · have h := h.1 hq
          refine tn_aload_n (pc := 77) hΓ d_X6_put_77 rfl ?_
          refine tn_getRy (y := 40) (pc := 78) hΓ d_X6_put_78 fl_6_9 rfl (gd_k hG (c := 39) rfl) (gd_r hG 39 2 40 rfl rfl) ?_
          refine tn_iload_n (pc := 81) hΓ d_X6_put_81 rfl ?_
          refine tn_ald (pc := 82) hΓ d_X6_put_82 (gd_k hG (c := 40) rfl) hi1 ?_
          refine tn_iconst (pc := 83) hΓ d_X6_put_83 ic_1 ?_
          refine tn_icmp_ne (tgt := 92) (pc := 84) hΓ d_X6_put_84 (by decide) (fun hq => ?_) (fun hq => ?_)
          · have h := h.1 hq
            refine tn_iload_n (pc := 92) hΓ d_X6_put_92 rfl ?_
            obtain ⟨hi2, h⟩ := h
            refine tn_ast (pc := 93) hΓ d_X6_put_93 (gd_k hG (c := 42) rfl) hi2 ?_
            refine tn_tops (fun σ4 eσ4 => ?_)
            have h := h σ4 eσ4
            refine tn_iconst (pc := 94) hΓ d_X6_put_94 ic_1 ?_
            exact tn_ret_i (pc := 95) hΓ hK d_X6_put_95 rfl (by decide) (by decide) h
          · have h := h.2 hq
            refine tn_iload_n (pc := 87) hΓ d_X6_put_87 rfl ?_
            refine tn_i2s (pc := 88) hΓ d_X6_put_88 ?_
            refine tn_goto (tgt := 93) (pc := 89) hΓ d_X6_put_89 (by decide) ?_
            obtain ⟨hi3, h⟩ := h
            refine tn_ast (pc := 93) hΓ d_X6_put_93 (gd_k hG (c := 42) rfl) hi3 ?_
            refine tn_tops (fun σ5 eσ5 => ?_)
            have h := h σ5 eσ5
            refine tn_iconst (pc := 94) hΓ d_X6_put_94 ic_1 ?_
            exact tn_ret_i (pc := 95) hΓ hK d_X6_put_95 rfl (by decide) (by decide) h
        · have h := h.2 hq
          refine tn_iload_n (pc := 72) hΓ d_X6_put_72 rfl ?_
          refine tn_i2b (pc := 73) hΓ d_X6_put_73 ?_
          refine tn_goto (tgt := 93) (pc := 74) hΓ d_X6_put_74 (by decide) ?_
          obtain ⟨hi4, h⟩ := h
          refine tn_ast (pc := 93) hΓ d_X6_put_93 (gd_k hG (c := 42) rfl) hi4 ?_
          refine tn_tops (fun σ6 eσ6 => ?_)
          have h := h σ6 eσ6
          refine tn_iconst (pc := 94) hΓ d_X6_put_94 ic_1 ?_
          exact tn_ret_i (pc := 95) hΓ hK d_X6_put_95 rfl (by decide) (by decide) h
      · have h := h.2 hq
        refine tn_aload_n (pc := 47) hΓ d_X6_put_47 rfl ?_
        refine tn_iconst (pc := 48) hΓ d_X6_put_48 ic_3 ?_
        refine tn_cvI (As := [.int (3 : Int32)]) (st := []) (pc := 49) hΓ d_X6_put_49 mv_X6_fails im_X6_fails se_X6_fails ml_6_82 ⟨⟨by decide, by decide⟩, by decide, by decide⟩ rfl rfl rfl (by decide) ⟨_, rfl⟩ (gd_k hG (c := 39) rfl) (Nat.le_of_ble_eq_true rfl) rfl h (fun r3 σ7 h => ?_)
        exact tn_ret_i (pc := 52) hΓ hK d_X6_put_52 rfl (by decide) (by decide) h
    · have h := h.2 hq
      refine tn_aload_n (pc := 25) hΓ d_X6_put_25 rfl ?_
      refine tn_iconst (pc := 26) hΓ d_X6_put_26 ic_1 ?_
      refine tn_cvI (As := [.int (1 : Int32)]) (st := []) (pc := 27) hΓ d_X6_put_27 mv_X6_fails im_X6_fails se_X6_fails ml_6_82 ⟨⟨by decide, by decide⟩, by decide, by decide⟩ rfl rfl rfl (by decide) ⟨_, rfl⟩ (gd_k hG (c := 39) rfl) (Nat.le_of_ble_eq_true rfl) rfl h (fun r4 σ8 h => ?_)
      exact tn_ret_i (pc := 30) hΓ hK d_X6_put_30 rfl (by decide) (by decide) h
  · have h := h.2 hq
    refine tn_iconst (pc := 12) hΓ d_X6_put_12 ic_m1 ?_
    exact tn_ret_i (pc := 13) hΓ hK d_X6_put_13 rfl (by decide) (by decide) h
theorem k_X6_cell_0 {Γ : tn_G} {ks : List (Nat × Nat)} {ρ : Nat → Nat → Nat} {σ : Nat → Nat → Int32} {K : Option Value → List (Nat × Nat) → (Nat → Nat → Nat) → (Nat → Nat → Int32) → Prop} (hG : tn_Gd ks ρ) (hΓ : tn_is Γ m_X6_cell) (hK : tn_rt Γ m_X6_cell K) (a0 : Int32) (a1 : Int32) (a2 : Int32) (h : (∀ σ1, σ1 = tn_u σ 39 0 (0 : Int32) → tn_CI m_X6_isSheet [.int a0] ks ρ σ1 (fun r1 σ2 => ((r1 = 0 → K (some (.long (-9223372036854775808 : Int64))) ks ρ σ2) ∧ (¬ r1 = 0 → tn_CI m_X6_isSort [.int a2] ks ρ σ2 (fun r2 σ3 => ((¬ r2 = 0 → (vp_in a0 4 ∧ (((σ3 40 a0.toNatClampNeg) = (-9 : Int32) → ((¬ (σ3 40 a0.toNatClampNeg) = (-9 : Int32) → tn_CI m_X6_within [.int a1, .int (0 : Int32), .int ((σ3 41 a0.toNatClampNeg) - (1 : Int32))] ks ρ σ3 (fun r3 σ4 => ((¬ r3 = 0 → (vp_in (((60 : Int32) * a0) + a1) 240 ∧ K (some (.long ((σ4 42 (((60 : Int32) * a0) + a1).toNatClampNeg).toInt64))) ks ρ σ4)) ∧ (r3 = 0 → tn_CL m_X6_lost [.ref 39, .int (3 : Int32)] ks ρ σ4 (fun r4 σ5 => K (some (.long r4)) ks ρ σ5))))) ∧ ((σ3 40 a0.toNatClampNeg) = (-9 : Int32) → tn_CL m_X6_lost [.ref 39, .int (1 : Int32)] ks ρ σ3 (fun r5 σ6 => K (some (.long r5)) ks ρ σ6)))) ∧ (¬ (σ3 40 a0.toNatClampNeg) = (-9 : Int32) → (((σ3 40 a0.toNatClampNeg) = a2 → ((¬ (σ3 40 a0.toNatClampNeg) = (-9 : Int32) → tn_CI m_X6_within [.int a1, .int (0 : Int32), .int ((σ3 41 a0.toNatClampNeg) - (1 : Int32))] ks ρ σ3 (fun r6 σ7 => ((¬ r6 = 0 → (vp_in (((60 : Int32) * a0) + a1) 240 ∧ K (some (.long ((σ7 42 (((60 : Int32) * a0) + a1).toNatClampNeg).toInt64))) ks ρ σ7)) ∧ (r6 = 0 → tn_CL m_X6_lost [.ref 39, .int (3 : Int32)] ks ρ σ7 (fun r7 σ8 => K (some (.long r7)) ks ρ σ8))))) ∧ ((σ3 40 a0.toNatClampNeg) = (-9 : Int32) → tn_CL m_X6_lost [.ref 39, .int (1 : Int32)] ks ρ σ3 (fun r8 σ9 => K (some (.long r8)) ks ρ σ9)))) ∧ (¬ (σ3 40 a0.toNatClampNeg) = a2 → tn_CL m_X6_lost [.ref 39, .int (2 : Int32)] ks ρ σ3 (fun r9 σ10 => K (some (.long r9)) ks ρ σ10))))))) ∧ (r2 = 0 → K (some (.long (-9223372036854775808 : Int64))) ks ρ σ3)))))))) : tn_A Γ 0 [.ref 39, .int a0, .int a1, .int a2] [] 0 0 ks ρ σ := by
  refine tn_aload_n (pc := 0) hΓ d_X6_cell_0 rfl ?_
  refine tn_iconst (pc := 1) hΓ d_X6_cell_1 ic_0 ?_
  refine tn_putI (pc := 2) hΓ d_X6_cell_2 fl_6_52 fk_6_6_0 rfl (gd_k hG (c := 39) rfl)  ?_
  refine tn_tops (fun σ1 eσ1 => ?_)
  have h := h σ1 eσ1
  refine tn_iload_n (pc := 5) hΓ d_X6_cell_5 rfl ?_
  refine tn_csI (As := [.int a0]) (st := []) (pc := 6) hΓ d_X6_cell_6 mv_X6_isSheet st_X6_isSheet ml_6_71 ⟨⟨by decide, by decide⟩, by decide, by decide⟩ rfl rfl rfl (Nat.le_of_ble_eq_true rfl) rfl h (fun r1 σ2 h => ?_)
  refine tn_if_eq (tgt := 19) (pc := 9) hΓ d_X6_cell_9 (by decide) (fun hq => ?_) (fun hq => ?_)
  · have h := h.1 hq
    refine tn_ldc2 (pc := 19) hΓ kc_6_56 d_X6_cell_19 ?_
    exact tn_ret_l (pc := 22) hΓ hK d_X6_cell_22 rfl (by decide) (by decide) h
  · have h := h.2 hq
    refine tn_iload_n (pc := 12) hΓ d_X6_cell_12 rfl ?_
    refine tn_csI (As := [.int a2]) (st := []) (pc := 13) hΓ d_X6_cell_13 mv_X6_isSort st_X6_isSort ml_6_75 ⟨⟨by decide, by decide⟩, by decide, by decide⟩ rfl rfl rfl (Nat.le_of_ble_eq_true rfl) rfl h (fun r2 σ3 h => ?_)
    refine tn_if_ne (tgt := 23) (pc := 16) hΓ d_X6_cell_16 (by decide) (fun hq => ?_) (fun hq => ?_)
    · have h := h.1 hq
      refine tn_aload_n (pc := 23) hΓ d_X6_cell_23 rfl ?_
      refine tn_getRy (y := 40) (pc := 24) hΓ d_X6_cell_24 fl_6_9 rfl (gd_k hG (c := 39) rfl) (gd_r hG 39 2 40 rfl rfl) ?_
      refine tn_iload_n (pc := 27) hΓ d_X6_cell_27 rfl ?_
      obtain ⟨hi1, h⟩ := h
      refine tn_ald (pc := 28) hΓ d_X6_cell_28 (gd_k hG (c := 40) rfl) hi1 ?_
      refine tn_bipush (pc := 29) hΓ d_X6_cell_29 bp_m9 ?_
      refine tn_icmp_eq (tgt := 50) (pc := 31) hΓ d_X6_cell_31 (by decide) (fun hq => ?_) (fun hq => ?_)
      · have h := h.1 hq
        refine tn_aload_n (pc := 50) hΓ d_X6_cell_50 rfl ?_
        refine tn_getRy (y := 40) (pc := 51) hΓ d_X6_cell_51 fl_6_9 rfl (gd_k hG (c := 39) rfl) (gd_r hG 39 2 40 rfl rfl) ?_
        refine tn_iload_n (pc := 54) hΓ d_X6_cell_54 rfl ?_
        refine tn_ald (pc := 55) hΓ d_X6_cell_55 (gd_k hG (c := 40) rfl) hi1 ?_
        refine tn_bipush (pc := 56) hΓ d_X6_cell_56 bp_m9 ?_
        refine tn_icmp_ne (tgt := 67) (pc := 58) hΓ d_X6_cell_58 (by decide) (fun hq => ?_) (fun hq => ?_)
        · have h := h.1 hq
          refine tn_iload_n (pc := 67) hΓ d_X6_cell_67 rfl ?_
          refine tn_iconst (pc := 68) hΓ d_X6_cell_68 ic_0 ?_
          refine tn_aload_n (pc := 69) hΓ d_X6_cell_69 rfl ?_
          refine tn_getRy (y := 41) (pc := 70) hΓ d_X6_cell_70 fl_6_13 rfl (gd_k hG (c := 39) rfl) (gd_r hG 39 3 41 rfl rfl) ?_
          refine tn_iload_n (pc := 73) hΓ d_X6_cell_73 rfl ?_
          refine tn_ald (pc := 74) hΓ d_X6_cell_74 (gd_k hG (c := 41) rfl) hi1 ?_
          refine tn_iconst (pc := 75) hΓ d_X6_cell_75 ic_1 ?_
          refine tn_isub (pc := 76) hΓ d_X6_cell_76 ?_
          refine tn_csI (As := [.int a1, .int (0 : Int32), .int ((σ3 41 a0.toNatClampNeg) - (1 : Int32))]) (st := []) (pc := 77) hΓ d_X6_cell_77 mv_X6_within st_X6_within ml_6_58 ⟨⟨by decide, by decide⟩, by decide, by decide⟩ rfl rfl rfl (Nat.le_of_ble_eq_true rfl) rfl h (fun r3 σ4 h => ?_)
          refine tn_if_ne (tgt := 89) (pc := 80) hΓ d_X6_cell_80 (by decide) (fun hq => ?_) (fun hq => ?_)
          · have h := h.1 hq
            refine tn_aload_n (pc := 89) hΓ d_X6_cell_89 rfl ?_
            refine tn_getRy (y := 42) (pc := 90) hΓ d_X6_cell_90 fl_6_16 rfl (gd_k hG (c := 39) rfl) (gd_r hG 39 4 42 rfl rfl) ?_
            refine tn_bipush (pc := 93) hΓ d_X6_cell_93 bp_60 ?_
            refine tn_iload_n (pc := 95) hΓ d_X6_cell_95 rfl ?_
            refine tn_imul (pc := 96) hΓ d_X6_cell_96 ?_
            refine tn_iload_n (pc := 97) hΓ d_X6_cell_97 rfl ?_
            refine tn_iadd (pc := 98) hΓ d_X6_cell_98 ?_
            obtain ⟨hi2, h⟩ := h
            refine tn_ald (pc := 99) hΓ d_X6_cell_99 (gd_k hG (c := 42) rfl) hi2 ?_
            refine tn_i2l (pc := 100) hΓ d_X6_cell_100 ?_
            exact tn_ret_l (pc := 101) hΓ hK d_X6_cell_101 rfl (by decide) (by decide) h
          · have h := h.2 hq
            refine tn_aload_n (pc := 83) hΓ d_X6_cell_83 rfl ?_
            refine tn_iconst (pc := 84) hΓ d_X6_cell_84 ic_3 ?_
            refine tn_cvL (As := [.int (3 : Int32)]) (st := []) (pc := 85) hΓ d_X6_cell_85 mv_X6_lost im_X6_lost se_X6_lost ml_6_205 ⟨⟨by decide, by decide⟩, by decide, by decide⟩ rfl rfl rfl (by decide) ⟨_, rfl⟩ (gd_k hG (c := 39) rfl) (Nat.le_of_ble_eq_true rfl) rfl h (fun r4 σ5 h => ?_)
            exact tn_ret_l (pc := 88) hΓ hK d_X6_cell_88 rfl (by decide) (by decide) h
        · have h := h.2 hq
          refine tn_aload_n (pc := 61) hΓ d_X6_cell_61 rfl ?_
          refine tn_iconst (pc := 62) hΓ d_X6_cell_62 ic_1 ?_
          refine tn_cvL (As := [.int (1 : Int32)]) (st := []) (pc := 63) hΓ d_X6_cell_63 mv_X6_lost im_X6_lost se_X6_lost ml_6_205 ⟨⟨by decide, by decide⟩, by decide, by decide⟩ rfl rfl rfl (by decide) ⟨_, rfl⟩ (gd_k hG (c := 39) rfl) (Nat.le_of_ble_eq_true rfl) rfl h (fun r5 σ6 h => ?_)
          exact tn_ret_l (pc := 66) hΓ hK d_X6_cell_66 rfl (by decide) (by decide) h
      · have h := h.2 hq
        refine tn_aload_n (pc := 34) hΓ d_X6_cell_34 rfl ?_
        refine tn_getRy (y := 40) (pc := 35) hΓ d_X6_cell_35 fl_6_9 rfl (gd_k hG (c := 39) rfl) (gd_r hG 39 2 40 rfl rfl) ?_
        refine tn_iload_n (pc := 38) hΓ d_X6_cell_38 rfl ?_
        refine tn_ald (pc := 39) hΓ d_X6_cell_39 (gd_k hG (c := 40) rfl) hi1 ?_
        refine tn_iload_n (pc := 40) hΓ d_X6_cell_40 rfl ?_
        refine tn_icmp_eq (tgt := 50) (pc := 41) hΓ d_X6_cell_41 (by decide) (fun hq => ?_) (fun hq => ?_)
        · have h := h.1 hq
          refine tn_aload_n (pc := 50) hΓ d_X6_cell_50 rfl ?_
          refine tn_getRy (y := 40) (pc := 51) hΓ d_X6_cell_51 fl_6_9 rfl (gd_k hG (c := 39) rfl) (gd_r hG 39 2 40 rfl rfl) ?_
          refine tn_iload_n (pc := 54) hΓ d_X6_cell_54 rfl ?_
          refine tn_ald (pc := 55) hΓ d_X6_cell_55 (gd_k hG (c := 40) rfl) hi1 ?_
          refine tn_bipush (pc := 56) hΓ d_X6_cell_56 bp_m9 ?_
          refine tn_icmp_ne (tgt := 67) (pc := 58) hΓ d_X6_cell_58 (by decide) (fun hq => ?_) (fun hq => ?_)
          · have h := h.1 hq
            refine tn_iload_n (pc := 67) hΓ d_X6_cell_67 rfl ?_
            refine tn_iconst (pc := 68) hΓ d_X6_cell_68 ic_0 ?_
            refine tn_aload_n (pc := 69) hΓ d_X6_cell_69 rfl ?_
            refine tn_getRy (y := 41) (pc := 70) hΓ d_X6_cell_70 fl_6_13 rfl (gd_k hG (c := 39) rfl) (gd_r hG 39 3 41 rfl rfl) ?_
            refine tn_iload_n (pc := 73) hΓ d_X6_cell_73 rfl ?_
            refine tn_ald (pc := 74) hΓ d_X6_cell_74 (gd_k hG (c := 41) rfl) hi1 ?_
            refine tn_iconst (pc := 75) hΓ d_X6_cell_75 ic_1 ?_
            refine tn_isub (pc := 76) hΓ d_X6_cell_76 ?_
            refine tn_csI (As := [.int a1, .int (0 : Int32), .int ((σ3 41 a0.toNatClampNeg) - (1 : Int32))]) (st := []) (pc := 77) hΓ d_X6_cell_77 mv_X6_within st_X6_within ml_6_58 ⟨⟨by decide, by decide⟩, by decide, by decide⟩ rfl rfl rfl (Nat.le_of_ble_eq_true rfl) rfl h (fun r6 σ7 h => ?_)
            refine tn_if_ne (tgt := 89) (pc := 80) hΓ d_X6_cell_80 (by decide) (fun hq => ?_) (fun hq => ?_)
            · have h := h.1 hq
              refine tn_aload_n (pc := 89) hΓ d_X6_cell_89 rfl ?_
              refine tn_getRy (y := 42) (pc := 90) hΓ d_X6_cell_90 fl_6_16 rfl (gd_k hG (c := 39) rfl) (gd_r hG 39 4 42 rfl rfl) ?_
              refine tn_bipush (pc := 93) hΓ d_X6_cell_93 bp_60 ?_
              refine tn_iload_n (pc := 95) hΓ d_X6_cell_95 rfl ?_
              refine tn_imul (pc := 96) hΓ d_X6_cell_96 ?_
              refine tn_iload_n (pc := 97) hΓ d_X6_cell_97 rfl ?_
              refine tn_iadd (pc := 98) hΓ d_X6_cell_98 ?_
              obtain ⟨hi3, h⟩ := h
              refine tn_ald (pc := 99) hΓ d_X6_cell_99 (gd_k hG (c := 42) rfl) hi3 ?_
              refine tn_i2l (pc := 100) hΓ d_X6_cell_100 ?_
              exact tn_ret_l (pc := 101) hΓ hK d_X6_cell_101 rfl (by decide) (by decide) h
            · have h := h.2 hq
              refine tn_aload_n (pc := 83) hΓ d_X6_cell_83 rfl ?_
              refine tn_iconst (pc := 84) hΓ d_X6_cell_84 ic_3 ?_
              refine tn_cvL (As := [.int (3 : Int32)]) (st := []) (pc := 85) hΓ d_X6_cell_85 mv_X6_lost im_X6_lost se_X6_lost ml_6_205 ⟨⟨by decide, by decide⟩, by decide, by decide⟩ rfl rfl rfl (by decide) ⟨_, rfl⟩ (gd_k hG (c := 39) rfl) (Nat.le_of_ble_eq_true rfl) rfl h (fun r7 σ8 h => ?_)
              exact tn_ret_l (pc := 88) hΓ hK d_X6_cell_88 rfl (by decide) (by decide) h
          · have h := h.2 hq
            refine tn_aload_n (pc := 61) hΓ d_X6_cell_61 rfl ?_
            refine tn_iconst (pc := 62) hΓ d_X6_cell_62 ic_1 ?_
            refine tn_cvL (As := [.int (1 : Int32)]) (st := []) (pc := 63) hΓ d_X6_cell_63 mv_X6_lost im_X6_lost se_X6_lost ml_6_205 ⟨⟨by decide, by decide⟩, by decide, by decide⟩ rfl rfl rfl (by decide) ⟨_, rfl⟩ (gd_k hG (c := 39) rfl) (Nat.le_of_ble_eq_true rfl) rfl h (fun r8 σ9 h => ?_)
            exact tn_ret_l (pc := 66) hΓ hK d_X6_cell_66 rfl (by decide) (by decide) h
        · have h := h.2 hq
          refine tn_aload_n (pc := 44) hΓ d_X6_cell_44 rfl ?_
          refine tn_iconst (pc := 45) hΓ d_X6_cell_45 ic_2 ?_
          refine tn_cvL (As := [.int (2 : Int32)]) (st := []) (pc := 46) hΓ d_X6_cell_46 mv_X6_lost im_X6_lost se_X6_lost ml_6_205 ⟨⟨by decide, by decide⟩, by decide, by decide⟩ rfl rfl rfl (by decide) ⟨_, rfl⟩ (gd_k hG (c := 39) rfl) (Nat.le_of_ble_eq_true rfl) rfl h (fun r9 σ10 h => ?_)
          exact tn_ret_l (pc := 49) hΓ hK d_X6_cell_49 rfl (by decide) (by decide) h
    · have h := h.2 hq
      refine tn_ldc2 (pc := 19) hΓ kc_6_56 d_X6_cell_19 ?_
      exact tn_ret_l (pc := 22) hΓ hK d_X6_cell_22 rfl (by decide) (by decide) h
