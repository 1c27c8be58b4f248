-- X5_firstFaultOfText, X5_parish: what the generator walks
theorem k_X5_firstFaultOfText_16 {Γ : tn_G} {ks : List (Nat × Nat)} {ρ : Nat → Nat → Nat} {σ : Nat → Nat → Int32} {K : Option Value → List (Nat × Nat) → (Nat → Nat → Nat) → (Nat → Nat → Int32) → Prop} (hG : tn_Gd ks ρ) (hΓ : tn_is Γ m_X5_firstFaultOfText) (hK : tn_rt Γ m_X5_firstFaultOfText K) (c1 : Nat) (hc1 : tn_Sb c1) (t : Nat) (hk : tn_kd ks t = some (4, 0)) (hr : ρ t 0 = 15) (y2 : Int32) (y3 : Int32) (y5 : Int32) (h : ((y3 ≤ y5 → tn_CI m_X4_mayEnd [.ref t] ks ρ σ (fun r1 σ1 => ((r1 = 0 → K (some (.int y3)) ks ρ σ1) ∧ (¬ r1 = 0 → K (some (.int (-9 : Int32))) ks ρ σ1)))) ∧ (¬ y3 ≤ y5 → (vp_in (y2 + y5) 60 ∧ tn_CI m_X4_takes [.ref t, .int (σ (c1 + 1) (y2 + y5).toNatClampNeg)] ks ρ σ (fun r2 σ2 => ((¬ r2 = 0 → (∀ x1 : Int32, x1 = y5 + (1 : Int32) → tn_A Γ 16 [.null, .ref c1, .int y2, .int y3, .ref t, .int x1] [] 1 4 ks ρ σ2)) ∧ (r2 = 0 → K (some (.int y5)) ks ρ σ2))))))) : tn_A Γ 16 [.null, .ref c1, .int y2, .int y3, .ref t, .int y5] [] 1 4 ks ρ σ := by
  refine tn_iload (pc := 16) hΓ d_X5_firstFaultOfText_16 rfl ?_
  refine tn_iload_n (pc := 18) hΓ d_X5_firstFaultOfText_18 rfl ?_
  refine tn_icmp_ge (tgt := 48) (pc := 19) hΓ d_X5_firstFaultOfText_19 (by decide) (fun hq => ?_) (fun hq => ?_)
  · have h := h.1 hq
    refine tn_aload (pc := 48) hΓ d_X5_firstFaultOfText_48 rfl ?_
    refine tn_cvI (As := []) (st := []) (pc := 50) hΓ d_X5_firstFaultOfText_50 mv_X4_mayEnd im_X4_mayEnd se_X4_mayEnd ml_5_254 ⟨⟨by decide, by decide⟩, by decide, by decide⟩ rfl rfl rfl (by decide) ⟨_, rfl⟩ hk (Nat.le_of_ble_eq_true rfl) rfl h (fun r1 σ1 h => ?_)
    refine tn_if_eq (tgt := 61) (pc := 53) hΓ d_X5_firstFaultOfText_53 (by decide) (fun hq => ?_) (fun hq => ?_)
    · have h := h.1 hq
      refine tn_iload_n (pc := 61) hΓ d_X5_firstFaultOfText_61 rfl ?_
      exact tn_ret_i (pc := 62) hΓ hK d_X5_firstFaultOfText_62 rfl (by decide) (by decide) h
    · have h := h.2 hq
      refine tn_bipush (pc := 56) hΓ d_X5_firstFaultOfText_56 bp_m9 ?_
      refine tn_goto (tgt := 62) (pc := 58) hΓ d_X5_firstFaultOfText_58 (by decide) ?_
      exact tn_ret_i (pc := 62) hΓ hK d_X5_firstFaultOfText_62 rfl (by decide) (by decide) h
  · have h := h.2 hq
    refine tn_aload (pc := 22) hΓ d_X5_firstFaultOfText_22 rfl ?_
    refine tn_aload_n (pc := 24) hΓ d_X5_firstFaultOfText_24 rfl ?_
    refine tn_getRy (y := c1 + 1) (pc := 25) hΓ d_X5_firstFaultOfText_25 fl_5_213 rfl (gs_k hG hc1) (gs_c hG hc1) ?_
    refine tn_iload_n (pc := 28) hΓ d_X5_firstFaultOfText_28 rfl ?_
    refine tn_iload (pc := 29) hΓ d_X5_firstFaultOfText_29 rfl ?_
    refine tn_iadd (pc := 31) hΓ d_X5_firstFaultOfText_31 ?_
    obtain ⟨hi1, h⟩ := h
    refine tn_ald (pc := 32) hΓ d_X5_firstFaultOfText_32 (gs_kc hG hc1) hi1 ?_
    refine tn_cvI (As := [.int (σ (c1 + 1) (y2 + y5).toNatClampNeg)]) (st := []) (pc := 33) hΓ d_X5_firstFaultOfText_33 mv_X4_takes im_X4_takes se_X4_takes ml_5_251 ⟨⟨by decide, by decide⟩, by decide, by decide⟩ rfl rfl rfl (by decide) ⟨_, rfl⟩ hk (Nat.le_of_ble_eq_true rfl) rfl h (fun r2 σ2 h => ?_)
    refine tn_if_ne (tgt := 42) (pc := 36) hΓ d_X5_firstFaultOfText_36 (by decide) (fun hq => ?_) (fun hq => ?_)
    · have h := h.1 hq
      refine tn_iincw (loc' := fun v_ => [.null, .ref c1, .int y2, .int y3, .ref t, .int v_]) (pc := 42) hΓ d_X5_firstFaultOfText_42 rfl ic_1 (by decide) rfl (fun _ => rfl) (fun x1 ex1 => ?_)
      have h := h x1 ex1
      refine tn_goto (tgt := 16) (pc := 45) hΓ d_X5_firstFaultOfText_45 (by decide) ?_
      exact h
    · have h := h.2 hq
      refine tn_iload (pc := 39) hΓ d_X5_firstFaultOfText_39 rfl ?_
      exact tn_ret_i (pc := 41) hΓ hK d_X5_firstFaultOfText_41 rfl (by decide) (by decide) h
theorem k_X5_parish_0 {Γ : tn_G} {ks : List (Nat × Nat)} {ρ : Nat → Nat → Nat} {σ : Nat → Nat → Int32} {K : Option Value → List (Nat × Nat) → (Nat → Nat → Nat) → (Nat → Nat → Int32) → Prop} (hG : tn_Gd ks ρ) (hΓ : tn_is Γ m_X5_parish) (hK : tn_rt Γ m_X5_parish K) (a0 : Int32) (a1 : Int32) (a2 : Int32) (a3 : Int32) (h : (∀ σ1, σ1 = tn_u σ 2 9 (0 : Int32) → tn_CI m_X5_isSheet [.int a0] ks ρ σ1 (fun r1 σ2 => ((¬ r1 = 0 → tn_CI m_X5_isLane [.int a1] ks ρ σ2 (fun r2 σ3 => ((¬ r2 = 0 → (vp_in a0 4 ∧ tn_CI m_X5_faultOfCells [.ref (31 + 2 * a0.toNatClampNeg), .int a1, .int a2, .int a3] ks ρ σ3 (fun r3 σ4 => ((r3 = 0 → tn_A Γ 61 [.ref 2, .null, .null, .null, .null, .null, .null, .null] [.int a3, .int a2, .ref (31 + 2 * a0.toNatClampNeg), .ref 2] 0 0 ks ρ σ4) ∧ (¬ r3 = 0 → tn_CI m_X5_faulted [.ref 2, .int r3] ks ρ σ4 (fun r4 σ5 => K (some (.int r4)) ks ρ σ5)))))) ∧ (r2 = 0 → K (some (.int (-2 : Int32))) ks ρ σ3)))) ∧ (r1 = 0 → K (some (.int (-1 : Int32))) ks ρ σ2))))) : tn_A Γ 0 [.ref 2, .int a0, .int a1, .int a2, .int a3, .null, .null, .null] [] 0 0 ks ρ σ := by
  refine tn_aload_n (pc := 0) hΓ d_X5_parish_0 rfl ?_
  refine tn_iconst (pc := 1) hΓ d_X5_parish_1 ic_0 ?_
  refine tn_putI (pc := 2) hΓ d_X5_parish_2 fl_5_47 fk_5_5_9 rfl (gd_k hG (c := 2) rfl)  ?_
  refine tn_tops (fun σ1 eσ1 => ?_)
  have h := h σ1 eσ1
  refine tn_iload_n (pc := 5) hΓ d_X5_parish_5 rfl ?_
  refine tn_csI (As := [.int a0]) (st := []) (pc := 6) hΓ d_X5_parish_6 mv_X5_isSheet st_X5_isSheet ml_5_51 ⟨⟨by decide, by decide⟩, by decide, by decide⟩ rfl rfl rfl (Nat.le_of_ble_eq_true rfl) rfl h (fun r1 σ2 h => ?_)
  refine tn_if_ne (tgt := 14) (pc := 9) hΓ d_X5_parish_9 (by decide) (fun hq => ?_) (fun hq => ?_)
  · have h := h.1 hq
    refine tn_iload_n (pc := 14) hΓ d_X5_parish_14 rfl ?_
    refine tn_csI (As := [.int a1]) (st := []) (pc := 15) hΓ d_X5_parish_15 mv_X5_isLane st_X5_isLane ml_5_55 ⟨⟨by decide, by decide⟩, by decide, by decide⟩ rfl rfl rfl (Nat.le_of_ble_eq_true rfl) rfl h (fun r2 σ3 h => ?_)
    refine tn_if_ne (tgt := 24) (pc := 18) hΓ d_X5_parish_18 (by decide) (fun hq => ?_) (fun hq => ?_)
    · have h := h.1 hq
      refine tn_aload_n (pc := 24) hΓ d_X5_parish_24 rfl ?_
      refine tn_getRy (y := 27) (pc := 25) hΓ d_X5_parish_25 fl_5_23 rfl (gd_k hG (c := 2) rfl) (gd_r hG 2 2 27 rfl rfl) ?_
      refine tn_iload_n (pc := 28) hΓ d_X5_parish_28 rfl ?_
      obtain ⟨hi1, h⟩ := h
      refine tn_aaldy (t := 2) (y := (31 + 2 * a0.toNatClampNeg)) (pc := 29) hΓ d_X5_parish_29 (by decide) (gd_k hG (c := 27) rfl) hi1 (gs_S hG hi1) ?_
      refine tn_astore (loc' := [.ref 2, .int a0, .int a1, .int a2, .int a3, .ref (31 + 2 * a0.toNatClampNeg), .null, .null]) (pc := 30) hΓ d_X5_parish_30 (by decide) rfl rfl ?_
      refine tn_aload (pc := 32) hΓ d_X5_parish_32 rfl ?_
      refine tn_iload_n (pc := 34) hΓ d_X5_parish_34 rfl ?_
      refine tn_iload_n (pc := 35) hΓ d_X5_parish_35 rfl ?_
      refine tn_iload (pc := 36) hΓ d_X5_parish_36 rfl ?_
      refine tn_csI (As := [.ref (31 + 2 * a0.toNatClampNeg), .int a1, .int a2, .int a3]) (st := []) (pc := 38) hΓ d_X5_parish_38 mv_X5_faultOfCells st_X5_faultOfCells ml_5_58 ⟨⟨by decide, by decide⟩, by decide, by decide⟩ rfl rfl rfl (Nat.le_of_ble_eq_true rfl) rfl h (fun r3 σ4 h => ?_)
      refine tn_istore (loc' := [.ref 2, .int a0, .int a1, .int a2, .int a3, .ref (31 + 2 * a0.toNatClampNeg), .int r3, .null]) (pc := 41) hΓ d_X5_parish_41 (by decide) rfl rfl ?_
      refine tn_iload (pc := 43) hΓ d_X5_parish_43 rfl ?_
      refine tn_if_eq (tgt := 55) (pc := 45) hΓ d_X5_parish_45 (by decide) (fun hq => ?_) (fun hq => ?_)
      · have h := h.1 hq
        refine tn_aload_n (pc := 55) hΓ d_X5_parish_55 rfl ?_
        refine tn_aload (pc := 56) hΓ d_X5_parish_56 rfl ?_
        refine tn_iload_n (pc := 58) hΓ d_X5_parish_58 rfl ?_
        refine tn_iload (pc := 59) hΓ d_X5_parish_59 rfl ?_
        refine tn_drop [true, false, false, false, false, false, false, false] (loc' := [.ref 2, .null, .null, .null, .null, .null, .null, .null]) rfl ?_
        exact h
      · have h := h.2 hq
        refine tn_aload_n (pc := 48) hΓ d_X5_parish_48 rfl ?_
        refine tn_iload (pc := 49) hΓ d_X5_parish_49 rfl ?_
        refine tn_cvI (As := [.int r3]) (st := []) (pc := 51) hΓ d_X5_parish_51 mv_X5_faulted im_X5_faulted se_X5_faulted ml_5_62 ⟨⟨by decide, by decide⟩, by decide, by decide⟩ rfl rfl rfl (by decide) ⟨_, rfl⟩ (gd_k hG (c := 2) rfl) (Nat.le_of_ble_eq_true rfl) rfl h (fun r4 σ5 h => ?_)
        exact tn_ret_i (pc := 54) hΓ hK d_X5_parish_54 rfl (by decide) (by decide) h
    · have h := h.2 hq
      refine tn_bipush (pc := 21) hΓ d_X5_parish_21 bp_m2 ?_
      exact tn_ret_i (pc := 23) hΓ hK d_X5_parish_23 rfl (by decide) (by decide) h
  · have h := h.2 hq
    refine tn_iconst (pc := 12) hΓ d_X5_parish_12 ic_m1 ?_
    exact tn_ret_i (pc := 13) hΓ hK d_X5_parish_13 rfl (by decide) (by decide) h
theorem k_X5_parish_64 {Γ : tn_G} {ks : List (Nat × Nat)} {ρ : Nat → Nat → Nat} {σ : Nat → Nat → Int32} {K : Option Value → List (Nat × Nat) → (Nat → Nat → Nat) → (Nat → Nat → Int32) → Prop} (hG : tn_Gd ks ρ) (hΓ : tn_is Γ m_X5_parish) (hK : tn_rt Γ m_X5_parish K) (w0 : Int32) (h : ((w0 = (-9 : Int32) → tn_CV m_X1_become [.ref 3, .ref 15] ks ρ σ (fun σ1 => (∀ σ2, σ2 = tn_u σ1 2 6 (0 : Int32) → (∀ σ3, σ3 = tn_u σ2 2 7 (0 : Int32) → K (some (.int (σ3 3 2))) ks ρ σ3)))) ∧ (¬ w0 = (-9 : Int32) → K (some (.int ((-100 : Int32) - w0))) ks ρ σ))) : tn_A Γ 64 [.ref 2, .null, .null, .null, .null, .null, .null, .null] [.int w0] 1 4 ks ρ σ := by
  refine tn_istore (loc' := [.ref 2, .null, .null, .null, .null, .null, .null, .int w0]) (pc := 64) hΓ d_X5_parish_64 (by decide) rfl rfl ?_
  refine tn_iload (pc := 66) hΓ d_X5_parish_66 rfl ?_
  refine tn_bipush (pc := 68) hΓ d_X5_parish_68 bp_m9 ?_
  refine tn_icmp_eq (tgt := 79) (pc := 70) hΓ d_X5_parish_70 (by decide) (fun hq => ?_) (fun hq => ?_)
  · have h := h.1 hq
    refine tn_aload_n (pc := 79) hΓ d_X5_parish_79 rfl ?_
    refine tn_getRy (y := 3) (pc := 80) hΓ d_X5_parish_80 fl_5_12 rfl (gd_k hG (c := 2) rfl) (gd_r hG 2 0 3 rfl rfl) ?_
    refine tn_aload_n (pc := 83) hΓ d_X5_parish_83 rfl ?_
    refine tn_getRy (y := 15) (pc := 84) hΓ d_X5_parish_84 fl_5_18 rfl (gd_k hG (c := 2) rfl) (gd_r hG 2 1 15 rfl rfl) ?_
    refine tn_cvV (As := [.ref 15]) (st := []) (pc := 87) hΓ d_X5_parish_87 mv_X1_become im_X1_become se_X1_become ml_5_70 ⟨⟨by decide, by decide⟩, by decide, by decide⟩ rfl rfl rfl (by decide) ⟨_, rfl⟩ (gp_k hG pb3) (Nat.le_of_ble_eq_true rfl) rfl h (fun σ1 h => ?_)
    refine tn_aload_n (pc := 90) hΓ d_X5_parish_90 rfl ?_
    refine tn_iconst (pc := 91) hΓ d_X5_parish_91 ic_0 ?_
    refine tn_putI (pc := 92) hΓ d_X5_parish_92 fl_5_37 fk_5_5_6 rfl (gd_k hG (c := 2) rfl)  ?_
    refine tn_tops (fun σ2 eσ2 => ?_)
    have h := h σ2 eσ2
    refine tn_aload_n (pc := 95) hΓ d_X5_parish_95 rfl ?_
    refine tn_iconst (pc := 96) hΓ d_X5_parish_96 ic_0 ?_
    refine tn_putI (pc := 97) hΓ d_X5_parish_97 fl_5_41 fk_5_5_7 rfl (gd_k hG (c := 2) rfl)  ?_
    refine tn_tops (fun σ3 eσ3 => ?_)
    have h := h σ3 eσ3
    refine tn_aload_n (pc := 100) hΓ d_X5_parish_100 rfl ?_
    refine tn_getRy (y := 3) (pc := 101) hΓ d_X5_parish_101 fl_5_12 rfl (gd_k hG (c := 2) rfl) (gd_r hG 2 0 3 rfl rfl) ?_
    refine tn_getI (pc := 104) hΓ d_X5_parish_104 fl_5_74 rfl (gp_k hG pb3) ?_
    exact tn_ret_i (pc := 107) hΓ hK d_X5_parish_107 rfl (by decide) (by decide) h
  · have h := h.2 hq
    refine tn_bipush (pc := 73) hΓ d_X5_parish_73 bp_m100 ?_
    refine tn_iload (pc := 75) hΓ d_X5_parish_75 rfl ?_
    refine tn_isub (pc := 77) hΓ d_X5_parish_77 ?_
    exact tn_ret_i (pc := 78) hΓ hK d_X5_parish_78 rfl (by decide) (by decide) h
/-! ===== a text: the reader made, the loop ===== -/
theorem gd_u {ks : List (Nat × Nat)} {ρ : Nat → Nat → Nat} (h : tn_Gd ks ρ) {t k y : Nat} (ht : 54 ≤ t) : tn_Gd ks (tn_ur ρ t k y) := ⟨h.1, fun c hc k' => by
  unfold tn_ur
  rw [if_neg (by omega)]
  exact h.2 c hc k'⟩
theorem gd_len {ks : List (Nat × Nat)} {ρ : Nat → Nat → Nat} (h : tn_Gd ks ρ) : 52 ≤ ks.length := by
  obtain ⟨⟨tl, e⟩, -⟩ := h
  rw [e, List.length_append, show tn_k0.length = 52 from rfl]
  omega
theorem gd_n {ks : List (Nat × Nat)} {ρ : Nat → Nat → Nat} (h : tn_Gd ks ρ) (x : Nat × Nat) : tn_Gd (ks ++ [x]) (tn_zr ρ (ks.length + 2)) := by
  have hl := gd_len h
  obtain ⟨⟨tl, e⟩, h2⟩ := h
  refine ⟨⟨tl ++ [x], by rw [e, List.append_assoc]⟩, fun c hc k => ?_⟩
  unfold tn_zr
  rw [if_neg (by omega)]
  exact h2 c hc k
theorem kd_n {ks : List (Nat × Nat)} {x : Nat × Nat} : tn_kd (ks ++ [x]) (ks.length + 2) = some x := by
  unfold tn_kd
  rw [if_neg (by omega), show ks.length + 2 - 2 = ks.length by omega]
  simp
section QW
variable {ks : List (Nat × Nat)} {ρ : Nat → Nat → Nat} {σ : Nat → Nat → Int32} {Γ : tn_G} {t : Nat}
theorem c4_init (hG : tn_Gd ks ρ) (hk : tn_kd ks t = some (4, 0)) (ht : 54 ≤ t) {K : Option Value → List (Nat × Nat) → (Nat → Nat → Nat) → (Nat → Nat → Int32) → Prop} (h : ∀ σ' : Nat → Nat → Int32, (∀ c, c ≠ t → c ≠ 15 → σ' c = σ c) → σ' t 1 = 0 → σ' 15 2 = 0 → σ' 15 3 = 0 → σ' 15 5 = 0 → K none ks (tn_ur ρ t 0 15) σ') : tn_Call m_X4_init [.ref t, .ref 15] ks ρ σ K := by
  have hG2 : tn_Gd ks (tn_ur ρ t 0 15) := gd_u hG ht
  refine tn_intro (by decide) (Nat.le_of_ble_eq_true rfl) (fun Γ hΓ hK => ?_)
  refine tn_aload_n (pc := 0) hΓ d_X4_init_0 rfl ?_
  refine tn_objInit (pc := 1) hΓ d_X4_init_1 (tn_wi 274 (by decide +kernel)) (tn_wi 99 (by decide +kernel)) (tn_wi 100 (by decide +kernel)) (by omega) (by decide) (by decide) ?_
  refine tn_aload_n (pc := 4) hΓ d_X4_init_4 rfl ?_
  refine tn_iconst (pc := 5) hΓ d_X4_init_5 ic_0 ?_
  refine tn_putI (pc := 6) hΓ d_X4_init_6 fl_4_11 fk_4_4_1 rfl hk ?_
  refine tn_tops (fun σ1 e1 => ?_)
  refine tn_aload_n (pc := 9) hΓ d_X4_init_9 rfl ?_
  refine tn_iconst (pc := 10) hΓ d_X4_init_10 ic_0 ?_
  refine tn_putI (pc := 11) hΓ d_X4_init_11 fl_4_15 fk_4_4_2 rfl hk ?_
  refine tn_tops (fun σ2 e2 => ?_)
  refine tn_aload_n (pc := 14) hΓ d_X4_init_14 rfl ?_
  refine tn_iconst (pc := 15) hΓ d_X4_init_15 ic_0 ?_
  refine tn_putI (pc := 16) hΓ d_X4_init_16 fl_4_18 fk_4_4_3 rfl hk ?_
  refine tn_tops (fun σ3 e3 => ?_)
  refine tn_aload_n (pc := 19) hΓ d_X4_init_19 rfl ?_
  refine tn_aload_n (pc := 20) hΓ d_X4_init_20 rfl ?_
  refine tn_putR (pc := 21) hΓ d_X4_init_21 fl_4_21 fk_4_4_0 rfl hk fo_4_21 rfl ?_
  refine tn_aload_n (pc := 24) hΓ d_X4_init_24 rfl ?_
  have hc : tn_CV m_X1_empty [.ref 15] ks (tn_ur ρ t 0 15) σ3 (fun σ' => K none ks (tn_ur ρ t 0 15) σ') := by
    refine tn_iV mv_X1_empty (Nat.le_of_ble_eq_true rfl) (fun Γ1 hΓ1 hK1 => k_X1_empty_0 hG2 hΓ1 hK1 15 pb15 ?_)
    intro σ4 e4 σ5 e5 σ6 e6 σ7 e7
    rw [tn_kv]
    refine h σ7 (fun c hct h15 => ?_) ?_ ?_ ?_ ?_
    · rw [e7, tn_u_w h15, e6, tn_u_w h15, e5, tn_u_w h15, e4, tn_u_w h15, e3, tn_u_w hct, e2, tn_u_w hct, e1, tn_u_w hct]
    · rw [e7, tn_u_n (by omega), e6, tn_u_n (by omega), e5, tn_u_n (by omega), e4, tn_u_n (by omega), e3, tn_u_n (by omega), e2, tn_u_n (by omega), e1, tn_u_s]
    · rw [e7, tn_u_n (by omega), e6, tn_u_n (by omega), e5, tn_u_n (by omega), e4, tn_u_s]
    · rw [e7, tn_u_n (by omega), e6, tn_u_n (by omega), e5, tn_u_s]
    · rw [e7, tn_u_s]
  refine tn_cvV (As := []) (st := []) (pc := 25) hΓ d_X4_init_25 mv_X1_empty im_X1_empty se_X1_empty ml_4_25 ⟨⟨by decide, by decide⟩, by decide, by decide⟩ rfl rfl rfl (by decide) ⟨_, rfl⟩ (gp_k hG2 pb15) (Nat.le_of_ble_eq_true rfl) rfl hc (fun σ' hh => ?_)
  exact tn_ret_v (pc := 28) hΓ hK d_X4_init_28 rfl (by decide) (by decide) hh
theorem l5_text (hG : tn_Gd ks ρ) {K : Option Value → List (Nat × Nat) → (Nat → Nat → Nat) → (Nat → Nat → Int32) → Prop} (hΓ : tn_is Γ m_X5_firstFaultOfText) (hK : tn_rt Γ m_X5_firstFaultOfText K) {c1 i n : Nat} (hcc : tn_Sb c1) (hk : tn_kd ks t = some (4, 0)) (hr : ρ t 0 = 15) (ht : 54 ≤ t) (hi : i + n ≤ 60) {f : Nat → Int32} {σ0 : Nat → Nat → Int32} (hf : ∀ x, x < n → σ0 (c1 + 1) (i + x) = f x) {T : Int32 × pp_T} (hfin : ∀ σ', tr_f t σ0 σ' → (T.1 = -9 → rc_P σ' 15 T.2) → K (some (.int T.1)) ks ρ σ') : ∀ m j d h s w R G (σ : Nat → Nat → Int32), j + m = n → tr σ t d h s w R G → tr_f t σ0 σ → tx f m j (d, h, s, w, R, G) = T → tn_A Γ 16 [.null, .ref c1, .int (nI i), .int (nI n), .ref t, .int (nI j)] [] 1 4 ks ρ σ := by
  intro m
  induction m with
  | zero =>
    intro j d h s w R G σ hj hT hF hx
    refine k_X5_firstFaultOfText_16 hG hΓ hK c1 hcc t hk hr _ _ _ ⟨fun _ => ?_, fun q => ?_⟩
    · refine tn_iI mv_X4_mayEnd (Nat.le_of_ble_eq_true rfl) (fun Γ1 hΓ1 hK1 => k_X4_mayEnd_0 hG hΓ1 hK1 t hk hr ?_)
      simp only [tn_ki]
      have e1 := hT.1
      have d8 := hT.2.1
      have l6 : σ t 1 = 6 ↔ d = 6 := by rw [e1, show (6 : Int32) = nI 6 by decide]; exact nI_eq (by omega) (by omega)
      have l8 : σ t 1 = 8 ↔ d = 8 := by rw [e1, show (8 : Int32) = nI 8 by decide]; exact nI_eq (by omega) (by omega)
      rw [l6, l8]
      have yes : (d = 6 ∨ d = 8) → K (some (.int (-9))) ks ρ σ := fun z => by
        have ex : T = (-9, mkD h s w R G) := by rw [← hx]; exact tx_end z
        have := hfin σ hF (fun _ => by rw [ex]; exact mkD_P (by omega) hT)
        rw [ex] at this
        exact this
      have no : ¬ d = 6 → ¬ d = 8 → K (some (.int (nI n))) ks ρ σ := fun z1 z2 => by
        have ex : T.1 = nI j := by rw [← hx]; exact tx_no z1 z2 (Or.inl rfl)
        have := hfin σ hF (fun z => by rw [ex] at z; exact absurd z (nI_ne9 (by omega)))
        rw [ex, show j = n by omega] at this
        exact this
      refine ⟨fun z => ⟨fun z2 => absurd z2 (by decide), fun _ => yes (Or.inl z)⟩, fun z => ⟨fun z2 => ⟨fun _ => no z z2, fun z3 => absurd trivial z3⟩, fun z2 => ⟨fun z3 => absurd z3 (by decide), fun _ => yes (Or.inr z2)⟩⟩⟩
    · rw [nI_leI (by omega) (by omega)] at q; omega
  | succ m ih =>
    intro j d h s w R G σ hj hT hF hx
    refine k_X5_firstFaultOfText_16 hG hΓ hK c1 hcc t hk hr _ _ _ ⟨fun q => ?_, fun _ => ?_⟩
    · rw [nI_leI (by omega) (by omega)] at q; omega
    · have hc1 : c1 + 1 < 39 ∧ 31 ≤ c1 := by unfold tn_Sb at hcc; omega
      rw [nI_add, nI_cl (by omega), hF (c1 + 1) (by omega) (by omega), hf j (by omega)]
      refine ⟨vp_in_nI (by omega) (by omega), q4_takes hG hk hr (by omega) hT (fun σ' f' z => ⟨fun z2 => absurd rfl z2, fun _ => ?_⟩) (fun σ' d' h' s' w' R' G' f' z hT' => ⟨fun _ x ex => ?_, fun z2 => absurd z2 (by decide)⟩)⟩
      · have ex : T.1 = nI j := by rw [← hx]; exact tx_no1 z
        have := hfin σ' (hF.tr f') (fun z => by rw [ex] at z; exact absurd z (nI_ne9 (by omega)))
        rw [ex] at this
        exact this
      · rw [nI_1] at ex; subst ex
        rw [tx_go z] at hx
        exact ih (j + 1) d' h' s' w' R' G' σ' (by omega) hT' (hF.tr f') hx
theorem c5_text (hG : tn_Gd ks ρ) {c1 i n : Nat} (hcc : tn_Sb c1) (hi : i + n ≤ 60) {f : Nat → Int32} (hf : ∀ x, x < n → σ (c1 + 1) (i + x) = f x) {R G : Nat → Int32} {K : Option Value → List (Nat × Nat) → (Nat → Nat → Nat) → (Nat → Nat → Int32) → Prop} (h : ∀ (ρ' : Nat → Nat → Nat) (σ' : Nat → Nat → Int32), tn_Gd (ks ++ [(4, 0)]) ρ' → (∀ c, c < 15 ∨ (27 ≤ c ∧ c < 54) → σ' c = σ c) → ((tx f n 0 (0, 0, 0, 0, R, G)).1 = -9 → rc_P σ' 15 (tx f n 0 (0, 0, 0, 0, R, G)).2) → K (some (.int (tx f n 0 (0, 0, 0, 0, R, G)).1)) (ks ++ [(4, 0)]) ρ' σ') : tn_Call m_X5_firstFaultOfText [.ref 2, .ref c1, .int (nI i), .int (nI n)] ks ρ σ K := by
  have hl := gd_len hG
  have hG1 := gd_n hG (4, 0)
  have hk : tn_kd (ks ++ [(4, 0)]) (ks.length + 2) = some (4, 0) := kd_n
  have hc1 : c1 + 1 < 39 ∧ 31 ≤ c1 := by unfold tn_Sb at hcc; omega
  refine tn_intro (by decide) (Nat.le_of_ble_eq_true rfl) (fun Γ hΓ hK => ?_)
  refine tn_new (pc := 0) hΓ (i := 4) (T := tn_T4) tn_ty4 d_X5_firstFaultOfText_0 (by decide) rfl tn_us4 tn_tk4 (tn_wi 269 (by decide +kernel)) (tn_wi 270 (by decide +kernel)) (tn_wi 89 (by decide +kernel)) (fun k hk => ?_) (by decide) (by decide) ?_
  · have : k = 0 ∨ k = 1 ∨ k = 2 ∨ k = 3 := by have : k < 4 := hk; omega
    rcases this with e | e | e | e <;> subst e <;> rfl
  refine tn_dupr (pc := 3) hΓ d_X5_firstFaultOfText_3 ?_
  refine tn_aload_n (pc := 4) hΓ d_X5_firstFaultOfText_4 rfl ?_
  refine tn_getRy (y := 15) (pc := 5) hΓ d_X5_firstFaultOfText_5 fl_5_18 rfl (gd_k hG1 (c := 2) rfl) (gd_r hG1 2 1 15 rfl rfl) ?_
  refine tn_ci (As := [.ref 15]) (st := [.ref (ks.length + 2)]) (x := ks.length + 2) (pc := 8) hΓ d_X5_firstFaultOfText_8 mv_X4_init im_X4_init rfl rfl ml_5_249 ⟨⟨by decide, by decide⟩, by decide, by decide⟩ rfl (by omega) (Nat.le_of_ble_eq_true rfl) (c4_init hG1 hk (by omega) (K := fun v ks' ρ' σ' => v = none ∧ ks' = ks ++ [(4, 0)] ∧ ρ' = tn_ur (tn_zr ρ (ks.length + 2)) (ks.length + 2) 0 15 ∧ (∀ c, c ≠ ks.length + 2 → c ≠ 15 → σ' c = tn_zs σ (ks.length + 2) c) ∧ σ' (ks.length + 2) 1 = 0 ∧ σ' 15 2 = 0 ∧ σ' 15 3 = 0 ∧ σ' 15 5 = 0) (fun σ' g1 g2 g3 g4 g5 => ⟨rfl, rfl, rfl, g1, g2, g3, g4, g5⟩)) (fun v ks' ρ' σ' hh => ?_)
  obtain ⟨rfl, rfl, rfl, g1, g2, g3, g4, g5⟩ := hh
  refine tn_astore (loc' := [.ref 2, .ref c1, .int (nI i), .int (nI n), .ref (ks.length + 2), .null]) (pc := 11) hΓ d_X5_firstFaultOfText_11 (by decide) rfl rfl ?_
  refine tn_iconst (pc := 13) hΓ d_X5_firstFaultOfText_13 ic_0 ?_
  refine tn_istore (loc' := [.ref 2, .ref c1, .int (nI i), .int (nI n), .ref (ks.length + 2), .int (0 : Int32)]) (pc := 14) hΓ d_X5_firstFaultOfText_14 (by decide) rfl rfl ?_
  refine tn_drop [false, true, true, true, true, true] (loc' := [.null, .ref c1, .int (nI i), .int (nI n), .ref (ks.length + 2), .int (0 : Int32)]) rfl ?_
  have zs : ∀ c, c < 54 → tn_zs σ (ks.length + 2) c = σ c := fun c hc => by
    funext k
    unfold tn_zs
    rw [if_neg (by omega)]
  have hG2 := gd_u hG1 (t := ks.length + 2) (k := 0) (y := 15) (by omega)
  have go := l5_text hG2 hΓ hK hcc hk (show tn_ur (tn_zr ρ (ks.length + 2)) (ks.length + 2) 0 15 (ks.length + 2) 0 = 15 by unfold tn_ur; rw [if_pos ⟨rfl, rfl⟩]) (by omega) hi (σ0 := σ') (f := f) (fun x hx => by rw [g1 (c1 + 1) (by omega) (by omega), zs _ (by omega)]; exact hf x hx) (T := tx f n 0 (0, 0, 0, 0, R, G)) (fun σ2 f2 p2 => h _ σ2 hG2 (fun c hc => by rw [f2 c (by omega) (by omega), g1 c (by omega) (by omega), zs c (by omega)]) p2) n 0 0 0 0 0 R G σ' (by omega) ⟨by rw [g2, nI_0], by omega, by omega, by omega, by rw [g3, nI_0], by rw [g4, nI_0], g5, fun z => by omega, fun z => by omega, fun z => by omega, fun _ => rfl, fun _ => by omega, fun i hi => by omega, fun i hi => by omega⟩ tr_f.rf rfl
  rw [nI_0] at go
  exact go
end QW
