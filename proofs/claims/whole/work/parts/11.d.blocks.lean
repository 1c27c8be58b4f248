-- X5_ofHouse X5_ofStone X5_sleep X5_own X5_lay X5_night X5_day X5_behind X5_quiet X5_fewest X5_claps X5_rests X5_reading X5_back
theorem k_X5_ofHouse_0 {Γ : tn_G} {ks : List (Nat × Nat)} {ρ : Nat → Nat → Nat} {σ : Nat → Nat → Int32} {K : Option Value → List (Nat × Nat) → (Nat → Nat → Nat) → (Nat → Nat → Int32) → Prop} (hG : tn_Gd ks ρ) (hΓ : tn_is Γ m_X5_ofHouse) (hK : tn_rt Γ m_X5_ofHouse K) (a0 : Int32) (a1 : Int32) (h : tn_CI m_X1_hasHouse [.ref 3, .int a0] ks ρ σ (fun r1 σ1 => ((¬ r1 = 0 → (vp_in a0 5 ∧ ((a1 = (0 : Int32) → K (some (.int (σ1 (3 + 3 + a0.toNatClampNeg) 0))) ks ρ σ1) ∧ (¬ a1 = (0 : Int32) → ((a1 = (1 : Int32) → K (some (.int (σ1 (3 + 3 + a0.toNatClampNeg) 1))) ks ρ σ1) ∧ (¬ a1 = (1 : Int32) → ((a1 = (2 : Int32) → K (some (.int (σ1 (3 + 3 + a0.toNatClampNeg) 2))) ks ρ σ1) ∧ (¬ a1 = (2 : Int32) → ((a1 = (3 : Int32) → tn_CI m_X0_weight [.ref (3 + 3 + a0.toNatClampNeg)] ks ρ σ1 (fun r2 σ2 => K (some (.int r2)) ks ρ σ2)) ∧ (¬ a1 = (3 : Int32) → ((a1 = (4 : Int32) → (((σ1 (3 + 3 + a0.toNatClampNeg) 4) = 0 → K (some (.int (0 : Int32))) ks ρ σ1) ∧ (¬ (σ1 (3 + 3 + a0.toNatClampNeg) 4) = 0 → K (some (.int (1 : Int32))) ks ρ σ1))) ∧ (¬ a1 = (4 : Int32) → ((a1 = (5 : Int32) → tn_CI m_X0_rankles [.ref (3 + 3 + a0.toNatClampNeg)] ks ρ σ1 (fun r3 σ3 => ((r3 = 0 → K (some (.int (0 : Int32))) ks ρ σ3) ∧ (¬ r3 = 0 → K (some (.int (1 : Int32))) ks ρ σ3)))) ∧ (¬ a1 = (5 : Int32) → ((a1 = (6 : Int32) → K (some (.int (σ1 (3 + 3 + a0.toNatClampNeg) 3))) ks ρ σ1) ∧ (¬ a1 = (6 : Int32) → K (some (.int (-2 : Int32))) ks ρ σ1)))))))))))))))) ∧ (r1 = 0 → K (some (.int (-1 : Int32))) ks ρ σ1)))) : tn_A Γ 0 [.ref 2, .int a0, .int a1, .null] [] 0 0 ks ρ σ := by
  refine tn_aload_n (pc := 0) hΓ d_X5_ofHouse_0 rfl ?_
  refine tn_getRy (y := 3) (pc := 1) hΓ d_X5_ofHouse_1 fl_5_12 rfl (gd_k hG (c := 2) rfl) (gd_r hG 2 0 3 rfl rfl) ?_
  refine tn_iload_n (pc := 4) hΓ d_X5_ofHouse_4 rfl ?_
  refine tn_cvI (As := [.int a0]) (st := []) (pc := 5) hΓ d_X5_ofHouse_5 mv_X1_hasHouse im_X1_hasHouse se_X1_hasHouse ml_5_77 ⟨⟨by decide, by decide⟩, by decide, by decide⟩ rfl rfl rfl (by decide) ⟨_, rfl⟩ (gp_k hG pb3) (Nat.le_of_ble_eq_true rfl) rfl h (fun r1 σ1 h => ?_)
  refine tn_if_ne (tgt := 13) (pc := 8) hΓ d_X5_ofHouse_8 (by decide) (fun hq => ?_) (fun hq => ?_)
  · have h := h.1 hq
    refine tn_aload_n (pc := 13) hΓ d_X5_ofHouse_13 rfl ?_
    refine tn_getRy (y := 3) (pc := 14) hΓ d_X5_ofHouse_14 fl_5_12 rfl (gd_k hG (c := 2) rfl) (gd_r hG 2 0 3 rfl rfl) ?_
    refine tn_getRy (y := 3 + 1) (pc := 17) hΓ d_X5_ofHouse_17 fl_5_80 rfl (gp_k hG pb3) (gp_h hG pb3) ?_
    refine tn_iload_n (pc := 20) hΓ d_X5_ofHouse_20 rfl ?_
    obtain ⟨hi1, h⟩ := h
    refine tn_aaldy (t := 0) (y := 3 + 3 + a0.toNatClampNeg) (pc := 21) hΓ d_X5_ofHouse_21 (by decide) (gp_kh hG pb3) hi1 (gp_H hG pb3 hi1) ?_
    refine tn_astore_n (loc' := [.ref 2, .int a0, .int a1, .ref (3 + 3 + a0.toNatClampNeg)]) (pc := 22) hΓ d_X5_ofHouse_22 (by decide) rfl rfl ?_
    refine tn_iload_n (pc := 23) hΓ d_X5_ofHouse_23 rfl ?_
    refine tn_byc (a1 = (0 : Int32)) (fun hq => ?_) (fun hq0 => ?_)
    · have h := h.1 hq
      refine tn_tblIn (off := 44) (tgt := 68) (pc := 24) hΓ d_X5_ofHouse_24 (by rw [hq] <;> decide) (by rw [hq] <;> decide) (by rw [hq] <;> rfl) (by decide) ?_
      refine tn_aload_n (pc := 68) hΓ d_X5_ofHouse_68 rfl ?_
      refine tn_getI (pc := 69) hΓ d_X5_ofHouse_69 fl_5_84 rfl (gp_kH hG pb3 (tn_inN hi1)) ?_
      exact tn_ret_i (pc := 72) hΓ hK d_X5_ofHouse_72 rfl (by decide) (by decide) h
    have h := h.2 hq0
    refine tn_byc (a1 = (1 : Int32)) (fun hq => ?_) (fun hq1 => ?_)
    · have h := h.1 hq
      refine tn_tblIn (off := 49) (tgt := 73) (pc := 24) hΓ d_X5_ofHouse_24 (by rw [hq] <;> decide) (by rw [hq] <;> decide) (by rw [hq] <;> rfl) (by decide) ?_
      refine tn_aload_n (pc := 73) hΓ d_X5_ofHouse_73 rfl ?_
      refine tn_getI (pc := 74) hΓ d_X5_ofHouse_74 fl_5_89 rfl (gp_kH hG pb3 (tn_inN hi1)) ?_
      exact tn_ret_i (pc := 77) hΓ hK d_X5_ofHouse_77 rfl (by decide) (by decide) h
    have h := h.2 hq1
    refine tn_byc (a1 = (2 : Int32)) (fun hq => ?_) (fun hq2 => ?_)
    · have h := h.1 hq
      refine tn_tblIn (off := 54) (tgt := 78) (pc := 24) hΓ d_X5_ofHouse_24 (by rw [hq] <;> decide) (by rw [hq] <;> decide) (by rw [hq] <;> rfl) (by decide) ?_
      refine tn_aload_n (pc := 78) hΓ d_X5_ofHouse_78 rfl ?_
      refine tn_getI (pc := 79) hΓ d_X5_ofHouse_79 fl_5_92 rfl (gp_kH hG pb3 (tn_inN hi1)) ?_
      exact tn_ret_i (pc := 82) hΓ hK d_X5_ofHouse_82 rfl (by decide) (by decide) h
    have h := h.2 hq2
    refine tn_byc (a1 = (3 : Int32)) (fun hq => ?_) (fun hq3 => ?_)
    · have h := h.1 hq
      refine tn_tblIn (off := 59) (tgt := 83) (pc := 24) hΓ d_X5_ofHouse_24 (by rw [hq] <;> decide) (by rw [hq] <;> decide) (by rw [hq] <;> rfl) (by decide) ?_
      refine tn_aload_n (pc := 83) hΓ d_X5_ofHouse_83 rfl ?_
      refine tn_cvI (As := []) (st := []) (pc := 84) hΓ d_X5_ofHouse_84 mv_X0_weight im_X0_weight se_X0_weight ml_5_95 ⟨⟨by decide, by decide⟩, by decide, by decide⟩ rfl rfl rfl (by decide) ⟨_, rfl⟩ (gp_kH hG pb3 (tn_inN hi1)) (Nat.le_of_ble_eq_true rfl) rfl h (fun r2 σ2 h => ?_)
      exact tn_ret_i (pc := 87) hΓ hK d_X5_ofHouse_87 rfl (by decide) (by decide) h
    have h := h.2 hq3
    refine tn_byc (a1 = (4 : Int32)) (fun hq => ?_) (fun hq4 => ?_)
    · have h := h.1 hq
      refine tn_tblIn (off := 64) (tgt := 88) (pc := 24) hΓ d_X5_ofHouse_24 (by rw [hq] <;> decide) (by rw [hq] <;> decide) (by rw [hq] <;> rfl) (by decide) ?_
      refine tn_aload_n (pc := 88) hΓ d_X5_ofHouse_88 rfl ?_
      refine tn_getI (pc := 89) hΓ d_X5_ofHouse_89 fl_5_99 rfl (gp_kH hG pb3 (tn_inN hi1)) ?_
      refine tn_if_eq (tgt := 99) (pc := 92) hΓ d_X5_ofHouse_92 (by decide) (fun hq => ?_) (fun hq => ?_)
      · have h := h.1 hq
        refine tn_iconst (pc := 99) hΓ d_X5_ofHouse_99 ic_0 ?_
        exact tn_ret_i (pc := 100) hΓ hK d_X5_ofHouse_100 rfl (by decide) (by decide) h
      · have h := h.2 hq
        refine tn_iconst (pc := 95) hΓ d_X5_ofHouse_95 ic_1 ?_
        refine tn_goto (tgt := 100) (pc := 96) hΓ d_X5_ofHouse_96 (by decide) ?_
        exact tn_ret_i (pc := 100) hΓ hK d_X5_ofHouse_100 rfl (by decide) (by decide) h
    have h := h.2 hq4
    refine tn_byc (a1 = (5 : Int32)) (fun hq => ?_) (fun hq5 => ?_)
    · have h := h.1 hq
      refine tn_tblIn (off := 77) (tgt := 101) (pc := 24) hΓ d_X5_ofHouse_24 (by rw [hq] <;> decide) (by rw [hq] <;> decide) (by rw [hq] <;> rfl) (by decide) ?_
      refine tn_aload_n (pc := 101) hΓ d_X5_ofHouse_101 rfl ?_
      refine tn_cvI (As := []) (st := []) (pc := 102) hΓ d_X5_ofHouse_102 mv_X0_rankles im_X0_rankles se_X0_rankles ml_5_103 ⟨⟨by decide, by decide⟩, by decide, by decide⟩ rfl rfl rfl (by decide) ⟨_, rfl⟩ (gp_kH hG pb3 (tn_inN hi1)) (Nat.le_of_ble_eq_true rfl) rfl h (fun r3 σ3 h => ?_)
      refine tn_if_eq (tgt := 112) (pc := 105) hΓ d_X5_ofHouse_105 (by decide) (fun hq => ?_) (fun hq => ?_)
      · have h := h.1 hq
        refine tn_iconst (pc := 112) hΓ d_X5_ofHouse_112 ic_0 ?_
        exact tn_ret_i (pc := 113) hΓ hK d_X5_ofHouse_113 rfl (by decide) (by decide) h
      · have h := h.2 hq
        refine tn_iconst (pc := 108) hΓ d_X5_ofHouse_108 ic_1 ?_
        refine tn_goto (tgt := 113) (pc := 109) hΓ d_X5_ofHouse_109 (by decide) ?_
        exact tn_ret_i (pc := 113) hΓ hK d_X5_ofHouse_113 rfl (by decide) (by decide) h
    have h := h.2 hq5
    refine tn_byc (a1 = (6 : Int32)) (fun hq => ?_) (fun hq6 => ?_)
    · have h := h.1 hq
      refine tn_tblIn (off := 90) (tgt := 114) (pc := 24) hΓ d_X5_ofHouse_24 (by rw [hq] <;> decide) (by rw [hq] <;> decide) (by rw [hq] <;> rfl) (by decide) ?_
      refine tn_aload_n (pc := 114) hΓ d_X5_ofHouse_114 rfl ?_
      refine tn_getI (pc := 115) hΓ d_X5_ofHouse_115 fl_5_107 rfl (gp_kH hG pb3 (tn_inN hi1)) ?_
      exact tn_ret_i (pc := 118) hΓ hK d_X5_ofHouse_118 rfl (by decide) (by decide) h
    have h := h.2 hq6
    refine tn_tblOut (tgt := 119) (pc := 24) hΓ d_X5_ofHouse_24 (tn_out_0_6 hq0 hq1 hq2 hq3 hq4 hq5 hq6) (by decide) ?_
    refine tn_bipush (pc := 119) hΓ d_X5_ofHouse_119 bp_m2 ?_
    exact tn_ret_i (pc := 121) hΓ hK d_X5_ofHouse_121 rfl (by decide) (by decide) h
  · have h := h.2 hq
    refine tn_iconst (pc := 11) hΓ d_X5_ofHouse_11 ic_m1 ?_
    exact tn_ret_i (pc := 12) hΓ hK d_X5_ofHouse_12 rfl (by decide) (by decide) h
theorem k_X5_ofStone_0 {Γ : tn_G} {ks : List (Nat × Nat)} {ρ : Nat → Nat → Nat} {σ : Nat → Nat → Int32} {K : Option Value → List (Nat × Nat) → (Nat → Nat → Nat) → (Nat → Nat → Int32) → Prop} (hG : tn_Gd ks ρ) (hΓ : tn_is Γ m_X5_ofStone) (hK : tn_rt Γ m_X5_ofStone K) (a0 : Int32) (a1 : Int32) (h : tn_CI m_X1_hasStone [.ref 3, .int a0] ks ρ σ (fun r1 σ1 => ((¬ r1 = 0 → (vp_in a0 4 ∧ ((a1 = (0 : Int32) → K (some (.int (σ1 (3 + 8 + a0.toNatClampNeg) 0))) ks ρ σ1) ∧ (¬ a1 = (0 : Int32) → ((a1 = (1 : Int32) → (((σ1 (3 + 8 + a0.toNatClampNeg) 1) = 0 → K (some (.int (0 : Int32))) ks ρ σ1) ∧ (¬ (σ1 (3 + 8 + a0.toNatClampNeg) 1) = 0 → K (some (.int (1 : Int32))) ks ρ σ1))) ∧ (¬ a1 = (1 : Int32) → K (some (.int (-2 : Int32))) ks ρ σ1)))))) ∧ (r1 = 0 → K (some (.int (-1 : Int32))) ks ρ σ1)))) : tn_A Γ 0 [.ref 2, .int a0, .int a1, .null] [] 0 0 ks ρ σ := by
  refine tn_aload_n (pc := 0) hΓ d_X5_ofStone_0 rfl ?_
  refine tn_getRy (y := 3) (pc := 1) hΓ d_X5_ofStone_1 fl_5_12 rfl (gd_k hG (c := 2) rfl) (gd_r hG 2 0 3 rfl rfl) ?_
  refine tn_iload_n (pc := 4) hΓ d_X5_ofStone_4 rfl ?_
  refine tn_cvI (As := [.int a0]) (st := []) (pc := 5) hΓ d_X5_ofStone_5 mv_X1_hasStone im_X1_hasStone se_X1_hasStone ml_5_110 ⟨⟨by decide, by decide⟩, by decide, by decide⟩ rfl rfl rfl (by decide) ⟨_, rfl⟩ (gp_k hG pb3) (Nat.le_of_ble_eq_true rfl) rfl h (fun r1 σ1 h => ?_)
  refine tn_if_ne (tgt := 13) (pc := 8) hΓ d_X5_ofStone_8 (by decide) (fun hq => ?_) (fun hq => ?_)
  · have h := h.1 hq
    refine tn_aload_n (pc := 13) hΓ d_X5_ofStone_13 rfl ?_
    refine tn_getRy (y := 3) (pc := 14) hΓ d_X5_ofStone_14 fl_5_12 rfl (gd_k hG (c := 2) rfl) (gd_r hG 2 0 3 rfl rfl) ?_
    refine tn_getRy (y := 3 + 2) (pc := 17) hΓ d_X5_ofStone_17 fl_5_113 rfl (gp_k hG pb3) (gp_s hG pb3) ?_
    refine tn_iload_n (pc := 20) hΓ d_X5_ofStone_20 rfl ?_
    obtain ⟨hi1, h⟩ := h
    refine tn_aaldy (t := 1) (y := 3 + 8 + a0.toNatClampNeg) (pc := 21) hΓ d_X5_ofStone_21 (by decide) (gp_ks hG pb3) hi1 (gp_S hG pb3 hi1) ?_
    refine tn_astore_n (loc' := [.ref 2, .int a0, .int a1, .ref (3 + 8 + a0.toNatClampNeg)]) (pc := 22) hΓ d_X5_ofStone_22 (by decide) rfl rfl ?_
    refine tn_iload_n (pc := 23) hΓ d_X5_ofStone_23 rfl ?_
    refine tn_byc (a1 = (0 : Int32)) (fun hq => ?_) (fun hq0 => ?_)
    · have h := h.1 hq
      refine tn_lookup (off := 28) (tgt := 52) (pc := 24) hΓ d_X5_ofStone_24 (by decide) (by rw [hq] <;> rfl) (by decide) ?_
      refine tn_aload_n (pc := 52) hΓ d_X5_ofStone_52 rfl ?_
      refine tn_getI (pc := 53) hΓ d_X5_ofStone_53 fl_5_117 rfl (gp_kS hG pb3 (tn_inN hi1)) ?_
      exact tn_ret_i (pc := 56) hΓ hK d_X5_ofStone_56 rfl (by decide) (by decide) h
    have h := h.2 hq0
    refine tn_byc (a1 = (1 : Int32)) (fun hq => ?_) (fun hq1 => ?_)
    · have h := h.1 hq
      refine tn_lookup (off := 33) (tgt := 57) (pc := 24) hΓ d_X5_ofStone_24 (by decide) (by rw [hq] <;> rfl) (by decide) ?_
      refine tn_aload_n (pc := 57) hΓ d_X5_ofStone_57 rfl ?_
      refine tn_getI (pc := 58) hΓ d_X5_ofStone_58 fl_5_122 rfl (gp_kS hG pb3 (tn_inN hi1)) ?_
      refine tn_if_eq (tgt := 68) (pc := 61) hΓ d_X5_ofStone_61 (by decide) (fun hq => ?_) (fun hq => ?_)
      · have h := h.1 hq
        refine tn_iconst (pc := 68) hΓ d_X5_ofStone_68 ic_0 ?_
        exact tn_ret_i (pc := 69) hΓ hK d_X5_ofStone_69 rfl (by decide) (by decide) h
      · have h := h.2 hq
        refine tn_iconst (pc := 64) hΓ d_X5_ofStone_64 ic_1 ?_
        refine tn_goto (tgt := 69) (pc := 65) hΓ d_X5_ofStone_65 (by decide) ?_
        exact tn_ret_i (pc := 69) hΓ hK d_X5_ofStone_69 rfl (by decide) (by decide) h
    have h := h.2 hq1
    refine tn_lookup (off := 46) (tgt := 70) (pc := 24) hΓ d_X5_ofStone_24 (by decide) (by rw [lv_osw hq0 (by decide), lv_osw hq1 (by decide)] <;> rfl) (by decide) ?_
    refine tn_bipush (pc := 70) hΓ d_X5_ofStone_70 bp_m2 ?_
    exact tn_ret_i (pc := 72) hΓ hK d_X5_ofStone_72 rfl (by decide) (by decide) h
  · have h := h.2 hq
    refine tn_iconst (pc := 11) hΓ d_X5_ofStone_11 ic_m1 ?_
    exact tn_ret_i (pc := 12) hΓ hK d_X5_ofStone_12 rfl (by decide) (by decide) h
theorem k_X5_sleep_0 {Γ : tn_G} {ks : List (Nat × Nat)} {ρ : Nat → Nat → Nat} {σ : Nat → Nat → Int32} {K : Option Value → List (Nat × Nat) → (Nat → Nat → Nat) → (Nat → Nat → Int32) → Prop} (hG : tn_Gd ks ρ) (hΓ : tn_is Γ m_X5_sleep) (hK : tn_rt Γ m_X5_sleep K) (a0 : Int32) (a1 : Int32) (h : tn_CI m_X1_hasHouse [.ref 3, .int a0] ks ρ σ (fun r1 σ1 => ((¬ r1 = 0 → tn_CI m_X5_isWithin [.int a1, .int (0 : Int32), .int (9 : Int32)] ks ρ σ1 (fun r2 σ2 => ((¬ r2 = 0 → (vp_in a0 5 ∧ (∀ x1 : Int32, x1 = (σ2 (3 + 3 + a0.toNatClampNeg) 2) → (∀ σ3, σ3 = tn_u σ2 (3 + 3 + a0.toNatClampNeg) 2 a1 → K (some (.int x1)) ks ρ σ3)))) ∧ (r2 = 0 → K (some (.int (-2 : Int32))) ks ρ σ2)))) ∧ (r1 = 0 → K (some (.int (-1 : Int32))) ks ρ σ1)))) : tn_A Γ 0 [.ref 2, .int a0, .int a1, .null, .null] [] 0 0 ks ρ σ := by
  refine tn_aload_n (pc := 0) hΓ d_X5_sleep_0 rfl ?_
  refine tn_getRy (y := 3) (pc := 1) hΓ d_X5_sleep_1 fl_5_12 rfl (gd_k hG (c := 2) rfl) (gd_r hG 2 0 3 rfl rfl) ?_
  refine tn_iload_n (pc := 4) hΓ d_X5_sleep_4 rfl ?_
  refine tn_cvI (As := [.int a0]) (st := []) (pc := 5) hΓ d_X5_sleep_5 mv_X1_hasHouse im_X1_hasHouse se_X1_hasHouse ml_5_77 ⟨⟨by decide, by decide⟩, by decide, by decide⟩ rfl rfl rfl (by decide) ⟨_, rfl⟩ (gp_k hG pb3) (Nat.le_of_ble_eq_true rfl) rfl h (fun r1 σ1 h => ?_)
  refine tn_if_ne (tgt := 13) (pc := 8) hΓ d_X5_sleep_8 (by decide) (fun hq => ?_) (fun hq => ?_)
  · have h := h.1 hq
    refine tn_iload_n (pc := 13) hΓ d_X5_sleep_13 rfl ?_
    refine tn_iconst (pc := 14) hΓ d_X5_sleep_14 ic_0 ?_
    refine tn_bipush (pc := 15) hΓ d_X5_sleep_15 bp_9 ?_
    refine tn_csI (As := [.int a1, .int (0 : Int32), .int (9 : Int32)]) (st := []) (pc := 17) hΓ d_X5_sleep_17 mv_X5_isWithin st_X5_isWithin ml_5_125 ⟨⟨by decide, by decide⟩, by decide, by decide⟩ rfl rfl rfl (Nat.le_of_ble_eq_true rfl) rfl h (fun r2 σ2 h => ?_)
    refine tn_if_ne (tgt := 26) (pc := 20) hΓ d_X5_sleep_20 (by decide) (fun hq => ?_) (fun hq => ?_)
    · have h := h.1 hq
      refine tn_aload_n (pc := 26) hΓ d_X5_sleep_26 rfl ?_
      refine tn_getRy (y := 3) (pc := 27) hΓ d_X5_sleep_27 fl_5_12 rfl (gd_k hG (c := 2) rfl) (gd_r hG 2 0 3 rfl rfl) ?_
      refine tn_getRy (y := 3 + 1) (pc := 30) hΓ d_X5_sleep_30 fl_5_80 rfl (gp_k hG pb3) (gp_h hG pb3) ?_
      refine tn_iload_n (pc := 33) hΓ d_X5_sleep_33 rfl ?_
      obtain ⟨hi1, h⟩ := h
      refine tn_aaldy (t := 0) (y := 3 + 3 + a0.toNatClampNeg) (pc := 34) hΓ d_X5_sleep_34 (by decide) (gp_kh hG pb3) hi1 (gp_H hG pb3 hi1) ?_
      refine tn_astore_n (loc' := [.ref 2, .int a0, .int a1, .ref (3 + 3 + a0.toNatClampNeg), .null]) (pc := 35) hΓ d_X5_sleep_35 (by decide) rfl rfl ?_
      refine tn_aload_n (pc := 36) hΓ d_X5_sleep_36 rfl ?_
      refine tn_getI (pc := 37) hΓ d_X5_sleep_37 fl_5_92 rfl (gp_kH hG pb3 (tn_inN hi1)) ?_
      refine tn_topi (fun x1 ex1 => ?_)
      have h := h x1 ex1
      refine tn_istore (loc' := [.ref 2, .int a0, .int a1, .ref (3 + 3 + a0.toNatClampNeg), .int x1]) (pc := 40) hΓ d_X5_sleep_40 (by decide) rfl rfl ?_
      refine tn_aload_n (pc := 42) hΓ d_X5_sleep_42 rfl ?_
      refine tn_iload_n (pc := 43) hΓ d_X5_sleep_43 rfl ?_
      refine tn_putI (pc := 44) hΓ d_X5_sleep_44 fl_5_92 fk_5_0_2 rfl (gp_kH hG pb3 (tn_inN hi1))  ?_
      refine tn_tops (fun σ3 eσ3 => ?_)
      have h := h σ3 eσ3
      refine tn_iload (pc := 47) hΓ d_X5_sleep_47 rfl ?_
      exact tn_ret_i (pc := 49) hΓ hK d_X5_sleep_49 rfl (by decide) (by decide) h
    · have h := h.2 hq
      refine tn_bipush (pc := 23) hΓ d_X5_sleep_23 bp_m2 ?_
      exact tn_ret_i (pc := 25) hΓ hK d_X5_sleep_25 rfl (by decide) (by decide) h
  · have h := h.2 hq
    refine tn_iconst (pc := 11) hΓ d_X5_sleep_11 ic_m1 ?_
    exact tn_ret_i (pc := 12) hΓ hK d_X5_sleep_12 rfl (by decide) (by decide) h
theorem k_X5_own_0 {Γ : tn_G} {ks : List (Nat × Nat)} {ρ : Nat → Nat → Nat} {σ : Nat → Nat → Int32} {K : Option Value → List (Nat × Nat) → (Nat → Nat → Nat) → (Nat → Nat → Int32) → Prop} (hG : tn_Gd ks ρ) (hΓ : tn_is Γ m_X5_own) (hK : tn_rt Γ m_X5_own K) (a0 : Int32) (h : tn_CI m_X1_hasHouse [.ref 3, .int a0] ks ρ σ (fun r1 σ1 => ((¬ r1 = 0 → (vp_in a0 5 ∧ tn_CI m_X0_ownUp [.ref (3 + 3 + a0.toNatClampNeg)] ks ρ σ1 (fun r2 σ2 => ((r2 = 0 → K (some (.int (0 : Int32))) ks ρ σ2) ∧ (¬ r2 = 0 → K (some (.int (1 : Int32))) ks ρ σ2))))) ∧ (r1 = 0 → K (some (.int (-1 : Int32))) ks ρ σ1)))) : tn_A Γ 0 [.ref 2, .int a0] [] 0 0 ks ρ σ := by
  refine tn_aload_n (pc := 0) hΓ d_X5_own_0 rfl ?_
  refine tn_getRy (y := 3) (pc := 1) hΓ d_X5_own_1 fl_5_12 rfl (gd_k hG (c := 2) rfl) (gd_r hG 2 0 3 rfl rfl) ?_
  refine tn_iload_n (pc := 4) hΓ d_X5_own_4 rfl ?_
  refine tn_cvI (As := [.int a0]) (st := []) (pc := 5) hΓ d_X5_own_5 mv_X1_hasHouse im_X1_hasHouse se_X1_hasHouse ml_5_77 ⟨⟨by decide, by decide⟩, by decide, by decide⟩ rfl rfl rfl (by decide) ⟨_, rfl⟩ (gp_k hG pb3) (Nat.le_of_ble_eq_true rfl) rfl h (fun r1 σ1 h => ?_)
  refine tn_if_ne (tgt := 13) (pc := 8) hΓ d_X5_own_8 (by decide) (fun hq => ?_) (fun hq => ?_)
  · have h := h.1 hq
    refine tn_aload_n (pc := 13) hΓ d_X5_own_13 rfl ?_
    refine tn_getRy (y := 3) (pc := 14) hΓ d_X5_own_14 fl_5_12 rfl (gd_k hG (c := 2) rfl) (gd_r hG 2 0 3 rfl rfl) ?_
    refine tn_getRy (y := 3 + 1) (pc := 17) hΓ d_X5_own_17 fl_5_80 rfl (gp_k hG pb3) (gp_h hG pb3) ?_
    refine tn_iload_n (pc := 20) hΓ d_X5_own_20 rfl ?_
    obtain ⟨hi1, h⟩ := h
    refine tn_aaldy (t := 0) (y := 3 + 3 + a0.toNatClampNeg) (pc := 21) hΓ d_X5_own_21 (by decide) (gp_kh hG pb3) hi1 (gp_H hG pb3 hi1) ?_
    refine tn_cvI (As := []) (st := []) (pc := 22) hΓ d_X5_own_22 mv_X0_ownUp im_X0_ownUp se_X0_ownUp ml_5_129 ⟨⟨by decide, by decide⟩, by decide, by decide⟩ rfl rfl rfl (by decide) ⟨_, rfl⟩ (gp_kH hG pb3 (tn_inN hi1)) (Nat.le_of_ble_eq_true rfl) rfl h (fun r2 σ2 h => ?_)
    refine tn_if_eq (tgt := 32) (pc := 25) hΓ d_X5_own_25 (by decide) (fun hq => ?_) (fun hq => ?_)
    · have h := h.1 hq
      refine tn_iconst (pc := 32) hΓ d_X5_own_32 ic_0 ?_
      exact tn_ret_i (pc := 33) hΓ hK d_X5_own_33 rfl (by decide) (by decide) h
    · have h := h.2 hq
      refine tn_iconst (pc := 28) hΓ d_X5_own_28 ic_1 ?_
      refine tn_goto (tgt := 33) (pc := 29) hΓ d_X5_own_29 (by decide) ?_
      exact tn_ret_i (pc := 33) hΓ hK d_X5_own_33 rfl (by decide) (by decide) h
  · have h := h.2 hq
    refine tn_iconst (pc := 11) hΓ d_X5_own_11 ic_m1 ?_
    exact tn_ret_i (pc := 12) hΓ hK d_X5_own_12 rfl (by decide) (by decide) h
theorem k_X5_lay_0 {Γ : tn_G} {ks : List (Nat × Nat)} {ρ : Nat → Nat → Nat} {σ : Nat → Nat → Int32} {K : Option Value → List (Nat × Nat) → (Nat → Nat → Nat) → (Nat → Nat → Int32) → Prop} (hG : tn_Gd ks ρ) (hΓ : tn_is Γ m_X5_lay) (hK : tn_rt Γ m_X5_lay K) (a0 : Int32) (h : tn_CI m_X1_hasStone [.ref 3, .int a0] ks ρ σ (fun r1 σ1 => ((¬ r1 = 0 → (vp_in a0 4 ∧ (((σ1 (3 + 8 + a0.toNatClampNeg) 1) = 0 → (∀ σ2, σ2 = tn_u σ1 (3 + 8 + a0.toNatClampNeg) 1 (1 : Int32) → tn_CI m_X1_voice [.ref 3] ks ρ σ2 (fun r2 σ3 => K (some (.int r2)) ks ρ σ3))) ∧ (¬ (σ1 (3 + 8 + a0.toNatClampNeg) 1) = 0 → K (some (.int (-3 : Int32))) ks ρ σ1)))) ∧ (r1 = 0 → K (some (.int (-1 : Int32))) ks ρ σ1)))) : tn_A Γ 0 [.ref 2, .int a0, .null] [] 0 0 ks ρ σ := by
  refine tn_aload_n (pc := 0) hΓ d_X5_lay_0 rfl ?_
  refine tn_getRy (y := 3) (pc := 1) hΓ d_X5_lay_1 fl_5_12 rfl (gd_k hG (c := 2) rfl) (gd_r hG 2 0 3 rfl rfl) ?_
  refine tn_iload_n (pc := 4) hΓ d_X5_lay_4 rfl ?_
  refine tn_cvI (As := [.int a0]) (st := []) (pc := 5) hΓ d_X5_lay_5 mv_X1_hasStone im_X1_hasStone se_X1_hasStone ml_5_110 ⟨⟨by decide, by decide⟩, by decide, by decide⟩ rfl rfl rfl (by decide) ⟨_, rfl⟩ (gp_k hG pb3) (Nat.le_of_ble_eq_true rfl) rfl h (fun r1 σ1 h => ?_)
  refine tn_if_ne (tgt := 13) (pc := 8) hΓ d_X5_lay_8 (by decide) (fun hq => ?_) (fun hq => ?_)
  · have h := h.1 hq
    refine tn_aload_n (pc := 13) hΓ d_X5_lay_13 rfl ?_
    refine tn_getRy (y := 3) (pc := 14) hΓ d_X5_lay_14 fl_5_12 rfl (gd_k hG (c := 2) rfl) (gd_r hG 2 0 3 rfl rfl) ?_
    refine tn_getRy (y := 3 + 2) (pc := 17) hΓ d_X5_lay_17 fl_5_113 rfl (gp_k hG pb3) (gp_s hG pb3) ?_
    refine tn_iload_n (pc := 20) hΓ d_X5_lay_20 rfl ?_
    obtain ⟨hi1, h⟩ := h
    refine tn_aaldy (t := 1) (y := 3 + 8 + a0.toNatClampNeg) (pc := 21) hΓ d_X5_lay_21 (by decide) (gp_ks hG pb3) hi1 (gp_S hG pb3 hi1) ?_
    refine tn_astore_n (loc' := [.ref 2, .int a0, .ref (3 + 8 + a0.toNatClampNeg)]) (pc := 22) hΓ d_X5_lay_22 (by decide) rfl rfl ?_
    refine tn_aload_n (pc := 23) hΓ d_X5_lay_23 rfl ?_
    refine tn_getI (pc := 24) hΓ d_X5_lay_24 fl_5_122 rfl (gp_kS hG pb3 (tn_inN hi1)) ?_
    refine tn_if_eq (tgt := 33) (pc := 27) hΓ d_X5_lay_27 (by decide) (fun hq => ?_) (fun hq => ?_)
    · have h := h.1 hq
      refine tn_aload_n (pc := 33) hΓ d_X5_lay_33 rfl ?_
      refine tn_iconst (pc := 34) hΓ d_X5_lay_34 ic_1 ?_
      refine tn_putZ (pc := 35) hΓ d_X5_lay_35 fl_5_122 fk_5_3_1 rfl (gp_kS hG pb3 (tn_inN hi1)) (Or.inr rfl) ?_
      refine tn_tops (fun σ2 eσ2 => ?_)
      have h := h σ2 eσ2
      refine tn_aload_n (pc := 38) hΓ d_X5_lay_38 rfl ?_
      refine tn_getRy (y := 3) (pc := 39) hΓ d_X5_lay_39 fl_5_12 rfl (gd_k hG (c := 2) rfl) (gd_r hG 2 0 3 rfl rfl) ?_
      refine tn_cvI (As := []) (st := []) (pc := 42) hΓ d_X5_lay_42 mv_X1_voice im_X1_voice se_X1_voice ml_5_132 ⟨⟨by decide, by decide⟩, by decide, by decide⟩ rfl rfl rfl (by decide) ⟨_, rfl⟩ (gp_k hG pb3) (Nat.le_of_ble_eq_true rfl) rfl h (fun r2 σ3 h => ?_)
      exact tn_ret_i (pc := 45) hΓ hK d_X5_lay_45 rfl (by decide) (by decide) h
    · have h := h.2 hq
      refine tn_bipush (pc := 30) hΓ d_X5_lay_30 bp_m3 ?_
      exact tn_ret_i (pc := 32) hΓ hK d_X5_lay_32 rfl (by decide) (by decide) h
  · have h := h.2 hq
    refine tn_iconst (pc := 11) hΓ d_X5_lay_11 ic_m1 ?_
    exact tn_ret_i (pc := 12) hΓ hK d_X5_lay_12 rfl (by decide) (by decide) h
theorem k_X5_night_0 {Γ : tn_G} {ks : List (Nat × Nat)} {ρ : Nat → Nat → Nat} {σ : Nat → Nat → Int32} {K : Option Value → List (Nat × Nat) → (Nat → Nat → Nat) → (Nat → Nat → Int32) → Prop} (hG : tn_Gd ks ρ) (hΓ : tn_is Γ m_X5_night) (hK : tn_rt Γ m_X5_night K) (a0 : Int32) (h : tn_CI m_X5_isWithin [.int a0, .int (1 : Int32), .int (60 : Int32)] ks ρ σ (fun r1 σ1 => ((¬ r1 = 0 → tn_CI m_X5_hasParish [.ref 2] ks ρ σ1 (fun r2 σ2 => ((¬ r2 = 0 → tn_CV m_X1_passNights [.ref 3, .int a0] ks ρ σ2 (fun σ3 => (∀ σ4, σ4 = tn_u σ3 2 7 ((σ3 2 7) + a0) → tn_CI m_X1_voice [.ref 3] ks ρ σ4 (fun r3 σ5 => K (some (.int r3)) ks ρ σ5)))) ∧ (r2 = 0 → K (some (.int (-3 : Int32))) ks ρ σ2)))) ∧ (r1 = 0 → K (some (.int (-2 : Int32))) ks ρ σ1)))) : tn_A Γ 0 [.ref 2, .int a0] [] 0 0 ks ρ σ := by
  refine tn_iload_n (pc := 0) hΓ d_X5_night_0 rfl ?_
  refine tn_iconst (pc := 1) hΓ d_X5_night_1 ic_1 ?_
  refine tn_bipush (pc := 2) hΓ d_X5_night_2 bp_60 ?_
  refine tn_csI (As := [.int a0, .int (1 : Int32), .int (60 : Int32)]) (st := []) (pc := 4) hΓ d_X5_night_4 mv_X5_isWithin st_X5_isWithin ml_5_125 ⟨⟨by decide, by decide⟩, by decide, by decide⟩ rfl rfl rfl (Nat.le_of_ble_eq_true rfl) rfl h (fun r1 σ1 h => ?_)
  refine tn_if_ne (tgt := 13) (pc := 7) hΓ d_X5_night_7 (by decide) (fun hq => ?_) (fun hq => ?_)
  · have h := h.1 hq
    refine tn_aload_n (pc := 13) hΓ d_X5_night_13 rfl ?_
    refine tn_cvI (As := []) (st := []) (pc := 14) hΓ d_X5_night_14 mv_X5_hasParish im_X5_hasParish se_X5_hasParish ml_5_135 ⟨⟨by decide, by decide⟩, by decide, by decide⟩ rfl rfl rfl (by decide) ⟨_, rfl⟩ (gd_k hG (c := 2) rfl) (Nat.le_of_ble_eq_true rfl) rfl h (fun r2 σ2 h => ?_)
    refine tn_if_ne (tgt := 23) (pc := 17) hΓ d_X5_night_17 (by decide) (fun hq => ?_) (fun hq => ?_)
    · have h := h.1 hq
      refine tn_aload_n (pc := 23) hΓ d_X5_night_23 rfl ?_
      refine tn_getRy (y := 3) (pc := 24) hΓ d_X5_night_24 fl_5_12 rfl (gd_k hG (c := 2) rfl) (gd_r hG 2 0 3 rfl rfl) ?_
      refine tn_iload_n (pc := 27) hΓ d_X5_night_27 rfl ?_
      refine tn_cvV (As := [.int a0]) (st := []) (pc := 28) hΓ d_X5_night_28 mv_X1_passNights im_X1_passNights se_X1_passNights ml_5_138 ⟨⟨by decide, by decide⟩, by decide, by decide⟩ rfl rfl rfl (by decide) ⟨_, rfl⟩ (gp_k hG pb3) (Nat.le_of_ble_eq_true rfl) rfl h (fun σ3 h => ?_)
      refine tn_aload_n (pc := 31) hΓ d_X5_night_31 rfl ?_
      refine tn_dupr (pc := 32) hΓ d_X5_night_32 ?_
      refine tn_getI (pc := 33) hΓ d_X5_night_33 fl_5_41 rfl (gd_k hG (c := 2) rfl) ?_
      refine tn_iload_n (pc := 36) hΓ d_X5_night_36 rfl ?_
      refine tn_iadd (pc := 37) hΓ d_X5_night_37 ?_
      refine tn_putI (pc := 38) hΓ d_X5_night_38 fl_5_41 fk_5_5_7 rfl (gd_k hG (c := 2) rfl)  ?_
      refine tn_tops (fun σ4 eσ4 => ?_)
      have h := h σ4 eσ4
      refine tn_aload_n (pc := 41) hΓ d_X5_night_41 rfl ?_
      refine tn_getRy (y := 3) (pc := 42) hΓ d_X5_night_42 fl_5_12 rfl (gd_k hG (c := 2) rfl) (gd_r hG 2 0 3 rfl rfl) ?_
      refine tn_cvI (As := []) (st := []) (pc := 45) hΓ d_X5_night_45 mv_X1_voice im_X1_voice se_X1_voice ml_5_132 ⟨⟨by decide, by decide⟩, by decide, by decide⟩ rfl rfl rfl (by decide) ⟨_, rfl⟩ (gp_k hG pb3) (Nat.le_of_ble_eq_true rfl) rfl h (fun r3 σ5 h => ?_)
      exact tn_ret_i (pc := 48) hΓ hK d_X5_night_48 rfl (by decide) (by decide) h
    · have h := h.2 hq
      refine tn_bipush (pc := 20) hΓ d_X5_night_20 bp_m3 ?_
      exact tn_ret_i (pc := 22) hΓ hK d_X5_night_22 rfl (by decide) (by decide) h
  · have h := h.2 hq
    refine tn_bipush (pc := 10) hΓ d_X5_night_10 bp_m2 ?_
    exact tn_ret_i (pc := 12) hΓ hK d_X5_night_12 rfl (by decide) (by decide) h
theorem k_X5_day_0 {Γ : tn_G} {ks : List (Nat × Nat)} {ρ : Nat → Nat → Nat} {σ : Nat → Nat → Int32} {K : Option Value → List (Nat × Nat) → (Nat → Nat → Nat) → (Nat → Nat → Int32) → Prop} (hG : tn_Gd ks ρ) (hΓ : tn_is Γ m_X5_day) (hK : tn_rt Γ m_X5_day K) (a0 : Int32) (a1 : Int32) (a2 : Int32) (a3 : Int32) (a4 : Int32) (h : (∀ σ1, σ1 = tn_u σ 2 9 (0 : Int32) → tn_CI m_X5_isSheet [.int a0] ks ρ σ1 (fun r1 σ2 => ((¬ r1 = 0 → tn_CI m_X5_isLane [.int a1] ks ρ σ2 (fun r2 σ3 => ((r2 = 0 → K (some (.int (-2 : Int32))) ks ρ σ3) ∧ (¬ r2 = 0 → tn_CI m_X5_isWithin [.int a3, .int (0 : Int32), .int (20 : Int32)] ks ρ σ3 (fun r3 σ4 => ((r3 = 0 → K (some (.int (-2 : Int32))) ks ρ σ4) ∧ (¬ r3 = 0 → tn_CI m_X5_isAskedOfDay [.int a4] ks ρ σ4 (fun r4 σ5 => ((¬ r4 = 0 → (vp_in a0 4 ∧ tn_CI m_X5_faultOfCells [.ref (31 + 2 * a0.toNatClampNeg), .int a1, .int a2, .int a3] ks ρ σ5 (fun r5 σ6 => ((r5 = 0 → tn_CI m_X5_hasParish [.ref 2] ks ρ σ6 (fun r6 σ7 => ((¬ r6 = 0 → tn_CI m_X5_areActs [.ref (31 + 2 * a0.toNatClampNeg), .int a2, .int a3] ks ρ σ7 (fun r7 σ8 => ((¬ r7 = 0 → tn_CI m_X5_firstWrongOfDay [.ref 2, .ref (31 + 2 * a0.toNatClampNeg), .int a2, .int a3] ks ρ σ8 (fun r8 σ9 => ((¬ a4 = (1 : Int32) → ((r8 = (-9 : Int32) → tn_CI m_X5_afterDay [.ref 2, .int a4] ks ρ σ9 (fun r9 σ10 => K (some (.int r9)) ks ρ σ10)) ∧ (¬ r8 = (-9 : Int32) → K (some (.int ((-100 : Int32) - r8))) ks ρ σ9))) ∧ (a4 = (1 : Int32) → K (some (.int r8)) ks ρ σ9)))) ∧ (r7 = 0 → K (some (.int (-2 : Int32))) ks ρ σ8)))) ∧ (r6 = 0 → K (some (.int (-3 : Int32))) ks ρ σ7)))) ∧ (¬ r5 = 0 → tn_CI m_X5_faulted [.ref 2, .int r5] ks ρ σ6 (fun r10 σ11 => K (some (.int r10)) ks ρ σ11)))))) ∧ (r4 = 0 → K (some (.int (-2 : Int32))) ks ρ σ5)))))))))) ∧ (r1 = 0 → K (some (.int (-1 : Int32))) ks ρ σ2))))) : tn_A Γ 0 [.ref 2, .int a0, .int a1, .int a2, .int a3, .int a4, .null, .null, .null] [] 0 0 ks ρ σ := by
  refine tn_aload_n (pc := 0) hΓ d_X5_day_0 rfl ?_
  refine tn_iconst (pc := 1) hΓ d_X5_day_1 ic_0 ?_
  refine tn_putI (pc := 2) hΓ d_X5_day_2 fl_5_47 fk_5_5_9 rfl (gd_k hG (c := 2) rfl)  ?_
  refine tn_tops (fun σ1 eσ1 => ?_)
  have h := h σ1 eσ1
  refine tn_iload_n (pc := 5) hΓ d_X5_day_5 rfl ?_
  refine tn_csI (As := [.int a0]) (st := []) (pc := 6) hΓ d_X5_day_6 mv_X5_isSheet st_X5_isSheet ml_5_51 ⟨⟨by decide, by decide⟩, by decide, by decide⟩ rfl rfl rfl (Nat.le_of_ble_eq_true rfl) rfl h (fun r1 σ2 h => ?_)
  refine tn_if_ne (tgt := 14) (pc := 9) hΓ d_X5_day_9 (by decide) (fun hq => ?_) (fun hq => ?_)
  · have h := h.1 hq
    refine tn_iload_n (pc := 14) hΓ d_X5_day_14 rfl ?_
    refine tn_csI (As := [.int a1]) (st := []) (pc := 15) hΓ d_X5_day_15 mv_X5_isLane st_X5_isLane ml_5_55 ⟨⟨by decide, by decide⟩, by decide, by decide⟩ rfl rfl rfl (Nat.le_of_ble_eq_true rfl) rfl h (fun r2 σ3 h => ?_)
    refine tn_if_eq (tgt := 40) (pc := 18) hΓ d_X5_day_18 (by decide) (fun hq => ?_) (fun hq => ?_)
    · have h := h.1 hq
      refine tn_bipush (pc := 40) hΓ d_X5_day_40 bp_m2 ?_
      exact tn_ret_i (pc := 42) hΓ hK d_X5_day_42 rfl (by decide) (by decide) h
    · have h := h.2 hq
      refine tn_iload (pc := 21) hΓ d_X5_day_21 rfl ?_
      refine tn_iconst (pc := 23) hΓ d_X5_day_23 ic_0 ?_
      refine tn_bipush (pc := 24) hΓ d_X5_day_24 bp_20 ?_
      refine tn_csI (As := [.int a3, .int (0 : Int32), .int (20 : Int32)]) (st := []) (pc := 26) hΓ d_X5_day_26 mv_X5_isWithin st_X5_isWithin ml_5_125 ⟨⟨by decide, by decide⟩, by decide, by decide⟩ rfl rfl rfl (Nat.le_of_ble_eq_true rfl) rfl h (fun r3 σ4 h => ?_)
      refine tn_if_eq (tgt := 40) (pc := 29) hΓ d_X5_day_29 (by decide) (fun hq => ?_) (fun hq => ?_)
      · have h := h.1 hq
        refine tn_bipush (pc := 40) hΓ d_X5_day_40 bp_m2 ?_
        exact tn_ret_i (pc := 42) hΓ hK d_X5_day_42 rfl (by decide) (by decide) h
      · have h := h.2 hq
        refine tn_iload (pc := 32) hΓ d_X5_day_32 rfl ?_
        refine tn_csI (As := [.int a4]) (st := []) (pc := 34) hΓ d_X5_day_34 mv_X5_isAskedOfDay st_X5_isAskedOfDay ml_5_142 ⟨⟨by decide, by decide⟩, by decide, by decide⟩ rfl rfl rfl (Nat.le_of_ble_eq_true rfl) rfl h (fun r4 σ5 h => ?_)
        refine tn_if_ne (tgt := 43) (pc := 37) hΓ d_X5_day_37 (by decide) (fun hq => ?_) (fun hq => ?_)
        · have h := h.1 hq
          refine tn_aload_n (pc := 43) hΓ d_X5_day_43 rfl ?_
          refine tn_getRy (y := 27) (pc := 44) hΓ d_X5_day_44 fl_5_23 rfl (gd_k hG (c := 2) rfl) (gd_r hG 2 2 27 rfl rfl) ?_
          refine tn_iload_n (pc := 47) hΓ d_X5_day_47 rfl ?_
          obtain ⟨hi1, h⟩ := h
          refine tn_aaldy (t := 2) (y := (31 + 2 * a0.toNatClampNeg)) (pc := 48) hΓ d_X5_day_48 (by decide) (gd_k hG (c := 27) rfl) hi1 (gs_S hG hi1) ?_
          refine tn_astore (loc' := [.ref 2, .int a0, .int a1, .int a2, .int a3, .int a4, .ref (31 + 2 * a0.toNatClampNeg), .null, .null]) (pc := 49) hΓ d_X5_day_49 (by decide) rfl rfl ?_
          refine tn_aload (pc := 51) hΓ d_X5_day_51 rfl ?_
          refine tn_iload_n (pc := 53) hΓ d_X5_day_53 rfl ?_
          refine tn_iload_n (pc := 54) hΓ d_X5_day_54 rfl ?_
          refine tn_iload (pc := 55) hΓ d_X5_day_55 rfl ?_
          refine tn_csI (As := [.ref (31 + 2 * a0.toNatClampNeg), .int a1, .int a2, .int a3]) (st := []) (pc := 57) hΓ d_X5_day_57 mv_X5_faultOfCells st_X5_faultOfCells ml_5_58 ⟨⟨by decide, by decide⟩, by decide, by decide⟩ rfl rfl rfl (Nat.le_of_ble_eq_true rfl) rfl h (fun r5 σ6 h => ?_)
          refine tn_istore (loc' := [.ref 2, .int a0, .int a1, .int a2, .int a3, .int a4, .ref (31 + 2 * a0.toNatClampNeg), .int r5, .null]) (pc := 60) hΓ d_X5_day_60 (by decide) rfl rfl ?_
          refine tn_iload (pc := 62) hΓ d_X5_day_62 rfl ?_
          refine tn_if_eq (tgt := 74) (pc := 64) hΓ d_X5_day_64 (by decide) (fun hq => ?_) (fun hq => ?_)
          · have h := h.1 hq
            refine tn_aload_n (pc := 74) hΓ d_X5_day_74 rfl ?_
            refine tn_cvI (As := []) (st := []) (pc := 75) hΓ d_X5_day_75 mv_X5_hasParish im_X5_hasParish se_X5_hasParish ml_5_135 ⟨⟨by decide, by decide⟩, by decide, by decide⟩ rfl rfl rfl (by decide) ⟨_, rfl⟩ (gd_k hG (c := 2) rfl) (Nat.le_of_ble_eq_true rfl) rfl h (fun r6 σ7 h => ?_)
            refine tn_if_ne (tgt := 84) (pc := 78) hΓ d_X5_day_78 (by decide) (fun hq => ?_) (fun hq => ?_)
            · have h := h.1 hq
              refine tn_aload (pc := 84) hΓ d_X5_day_84 rfl ?_
              refine tn_iload_n (pc := 86) hΓ d_X5_day_86 rfl ?_
              refine tn_iload (pc := 87) hΓ d_X5_day_87 rfl ?_
              refine tn_csI (As := [.ref (31 + 2 * a0.toNatClampNeg), .int a2, .int a3]) (st := []) (pc := 89) hΓ d_X5_day_89 mv_X5_areActs st_X5_areActs ml_5_145 ⟨⟨by decide, by decide⟩, by decide, by decide⟩ rfl rfl rfl (Nat.le_of_ble_eq_true rfl) rfl h (fun r7 σ8 h => ?_)
              refine tn_if_ne (tgt := 98) (pc := 92) hΓ d_X5_day_92 (by decide) (fun hq => ?_) (fun hq => ?_)
              · have h := h.1 hq
                refine tn_aload_n (pc := 98) hΓ d_X5_day_98 rfl ?_
                refine tn_aload (pc := 99) hΓ d_X5_day_99 rfl ?_
                refine tn_iload_n (pc := 101) hΓ d_X5_day_101 rfl ?_
                refine tn_iload (pc := 102) hΓ d_X5_day_102 rfl ?_
                refine tn_cvI (As := [.ref (31 + 2 * a0.toNatClampNeg), .int a2, .int a3]) (st := []) (pc := 104) hΓ d_X5_day_104 mv_X5_firstWrongOfDay im_X5_firstWrongOfDay se_X5_firstWrongOfDay ml_5_149 ⟨⟨by decide, by decide⟩, by decide, by decide⟩ rfl rfl rfl (by decide) ⟨_, rfl⟩ (gd_k hG (c := 2) rfl) (Nat.le_of_ble_eq_true rfl) rfl h (fun r8 σ9 h => ?_)
                refine tn_istore (loc' := [.ref 2, .int a0, .int a1, .int a2, .int a3, .int a4, .ref (31 + 2 * a0.toNatClampNeg), .int r5, .int r8]) (pc := 107) hΓ d_X5_day_107 (by decide) rfl rfl ?_
                refine tn_iload (pc := 109) hΓ d_X5_day_109 rfl ?_
                refine tn_iconst (pc := 111) hΓ d_X5_day_111 ic_1 ?_
                refine tn_icmp_ne (tgt := 118) (pc := 112) hΓ d_X5_day_112 (by decide) (fun hq => ?_) (fun hq => ?_)
                · have h := h.1 hq
                  refine tn_iload (pc := 118) hΓ d_X5_day_118 rfl ?_
                  refine tn_bipush (pc := 120) hΓ d_X5_day_120 bp_m9 ?_
                  refine tn_icmp_eq (tgt := 133) (pc := 122) hΓ d_X5_day_122 (by decide) (fun hq => ?_) (fun hq => ?_)
                  · have h := h.1 hq
                    refine tn_aload_n (pc := 133) hΓ d_X5_day_133 rfl ?_
                    refine tn_iload (pc := 134) hΓ d_X5_day_134 rfl ?_
                    refine tn_cvI (As := [.int a4]) (st := []) (pc := 136) hΓ d_X5_day_136 mv_X5_afterDay im_X5_afterDay se_X5_afterDay ml_5_152 ⟨⟨by decide, by decide⟩, by decide, by decide⟩ rfl rfl rfl (by decide) ⟨_, rfl⟩ (gd_k hG (c := 2) rfl) (Nat.le_of_ble_eq_true rfl) rfl h (fun r9 σ10 h => ?_)
                    exact tn_ret_i (pc := 139) hΓ hK d_X5_day_139 rfl (by decide) (by decide) h
                  · have h := h.2 hq
                    refine tn_bipush (pc := 125) hΓ d_X5_day_125 bp_m100 ?_
                    refine tn_iload (pc := 127) hΓ d_X5_day_127 rfl ?_
                    refine tn_isub (pc := 129) hΓ d_X5_day_129 ?_
                    refine tn_goto (tgt := 139) (pc := 130) hΓ d_X5_day_130 (by decide) ?_
                    exact tn_ret_i (pc := 139) hΓ hK d_X5_day_139 rfl (by decide) (by decide) h
                · have h := h.2 hq
                  refine tn_iload (pc := 115) hΓ d_X5_day_115 rfl ?_
                  exact tn_ret_i (pc := 117) hΓ hK d_X5_day_117 rfl (by decide) (by decide) h
              · have h := h.2 hq
                refine tn_bipush (pc := 95) hΓ d_X5_day_95 bp_m2 ?_
                exact tn_ret_i (pc := 97) hΓ hK d_X5_day_97 rfl (by decide) (by decide) h
            · have h := h.2 hq
              refine tn_bipush (pc := 81) hΓ d_X5_day_81 bp_m3 ?_
              exact tn_ret_i (pc := 83) hΓ hK d_X5_day_83 rfl (by decide) (by decide) h
          · have h := h.2 hq
            refine tn_aload_n (pc := 67) hΓ d_X5_day_67 rfl ?_
            refine tn_iload (pc := 68) hΓ d_X5_day_68 rfl ?_
            refine tn_cvI (As := [.int r5]) (st := []) (pc := 70) hΓ d_X5_day_70 mv_X5_faulted im_X5_faulted se_X5_faulted ml_5_62 ⟨⟨by decide, by decide⟩, by decide, by decide⟩ rfl rfl rfl (by decide) ⟨_, rfl⟩ (gd_k hG (c := 2) rfl) (Nat.le_of_ble_eq_true rfl) rfl h (fun r10 σ11 h => ?_)
            exact tn_ret_i (pc := 73) hΓ hK d_X5_day_73 rfl (by decide) (by decide) h
        · have h := h.2 hq
          refine tn_bipush (pc := 40) hΓ d_X5_day_40 bp_m2 ?_
          exact tn_ret_i (pc := 42) hΓ hK d_X5_day_42 rfl (by decide) (by decide) h
  · have h := h.2 hq
    refine tn_iconst (pc := 12) hΓ d_X5_day_12 ic_m1 ?_
    exact tn_ret_i (pc := 13) hΓ hK d_X5_day_13 rfl (by decide) (by decide) h
theorem k_X5_behind_0 {Γ : tn_G} {ks : List (Nat × Nat)} {ρ : Nat → Nat → Nat} {σ : Nat → Nat → Int32} {K : Option Value → List (Nat × Nat) → (Nat → Nat → Nat) → (Nat → Nat → Int32) → Prop} (hG : tn_Gd ks ρ) (hΓ : tn_is Γ m_X5_behind) (hK : tn_rt Γ m_X5_behind K) (a0 : Int32) (a1 : Int32) (h : tn_CI m_X5_isWithin [.int a0, .int (0 : Int32), .int (60 : Int32)] ks ρ σ (fun r1 σ1 => ((r1 = 0 → K (some (.int (-2 : Int32))) ks ρ σ1) ∧ (¬ r1 = 0 → tn_CI m_X5_isWithin [.int a1, .int (0 : Int32), .int (2 : Int32)] ks ρ σ1 (fun r2 σ2 => ((¬ r2 = 0 → tn_CI m_X5_hasParish [.ref 2] ks ρ σ2 (fun r3 σ3 => ((¬ r3 = 0 → tn_CV m_X1_become [.ref 15, .ref 3] ks ρ σ3 (fun σ4 => tn_CV m_X1_passNights [.ref 15, .int a0] ks ρ σ4 (fun σ5 => ((¬ a1 = 0 → ((¬ a1 = (1 : Int32) → tn_CI m_X1_hatsLost [.ref 15] ks ρ σ5 (fun r4 σ6 => tn_CI m_X1_hatsLost [.ref 3] ks ρ σ6 (fun r5 σ7 => K (some (.int (r4 - r5))) ks ρ σ7))) ∧ (a1 = (1 : Int32) → K (some (.int (σ5 15 5))) ks ρ σ5))) ∧ (a1 = 0 → tn_CI m_X1_voice [.ref 15] ks ρ σ5 (fun r6 σ8 => K (some (.int r6)) ks ρ σ8)))))) ∧ (r3 = 0 → K (some (.int (-3 : Int32))) ks ρ σ3)))) ∧ (r2 = 0 → K (some (.int (-2 : Int32))) ks ρ σ2))))))) : tn_A Γ 0 [.ref 2, .int a0, .int a1] [] 0 0 ks ρ σ := by
  refine tn_iload_n (pc := 0) hΓ d_X5_behind_0 rfl ?_
  refine tn_iconst (pc := 1) hΓ d_X5_behind_1 ic_0 ?_
  refine tn_bipush (pc := 2) hΓ d_X5_behind_2 bp_60 ?_
  refine tn_csI (As := [.int a0, .int (0 : Int32), .int (60 : Int32)]) (st := []) (pc := 4) hΓ d_X5_behind_4 mv_X5_isWithin st_X5_isWithin ml_5_125 ⟨⟨by decide, by decide⟩, by decide, by decide⟩ rfl rfl rfl (Nat.le_of_ble_eq_true rfl) rfl h (fun r1 σ1 h => ?_)
  refine tn_if_eq (tgt := 19) (pc := 7) hΓ d_X5_behind_7 (by decide) (fun hq => ?_) (fun hq => ?_)
  · have h := h.1 hq
    refine tn_bipush (pc := 19) hΓ d_X5_behind_19 bp_m2 ?_
    exact tn_ret_i (pc := 21) hΓ hK d_X5_behind_21 rfl (by decide) (by decide) h
  · have h := h.2 hq
    refine tn_iload_n (pc := 10) hΓ d_X5_behind_10 rfl ?_
    refine tn_iconst (pc := 11) hΓ d_X5_behind_11 ic_0 ?_
    refine tn_iconst (pc := 12) hΓ d_X5_behind_12 ic_2 ?_
    refine tn_csI (As := [.int a1, .int (0 : Int32), .int (2 : Int32)]) (st := []) (pc := 13) hΓ d_X5_behind_13 mv_X5_isWithin st_X5_isWithin ml_5_125 ⟨⟨by decide, by decide⟩, by decide, by decide⟩ rfl rfl rfl (Nat.le_of_ble_eq_true rfl) rfl h (fun r2 σ2 h => ?_)
    refine tn_if_ne (tgt := 22) (pc := 16) hΓ d_X5_behind_16 (by decide) (fun hq => ?_) (fun hq => ?_)
    · have h := h.1 hq
      refine tn_aload_n (pc := 22) hΓ d_X5_behind_22 rfl ?_
      refine tn_cvI (As := []) (st := []) (pc := 23) hΓ d_X5_behind_23 mv_X5_hasParish im_X5_hasParish se_X5_hasParish ml_5_135 ⟨⟨by decide, by decide⟩, by decide, by decide⟩ rfl rfl rfl (by decide) ⟨_, rfl⟩ (gd_k hG (c := 2) rfl) (Nat.le_of_ble_eq_true rfl) rfl h (fun r3 σ3 h => ?_)
      refine tn_if_ne (tgt := 32) (pc := 26) hΓ d_X5_behind_26 (by decide) (fun hq => ?_) (fun hq => ?_)
      · have h := h.1 hq
        refine tn_aload_n (pc := 32) hΓ d_X5_behind_32 rfl ?_
        refine tn_getRy (y := 15) (pc := 33) hΓ d_X5_behind_33 fl_5_18 rfl (gd_k hG (c := 2) rfl) (gd_r hG 2 1 15 rfl rfl) ?_
        refine tn_aload_n (pc := 36) hΓ d_X5_behind_36 rfl ?_
        refine tn_getRy (y := 3) (pc := 37) hΓ d_X5_behind_37 fl_5_12 rfl (gd_k hG (c := 2) rfl) (gd_r hG 2 0 3 rfl rfl) ?_
        refine tn_cvV (As := [.ref 3]) (st := []) (pc := 40) hΓ d_X5_behind_40 mv_X1_become im_X1_become se_X1_become ml_5_70 ⟨⟨by decide, by decide⟩, by decide, by decide⟩ rfl rfl rfl (by decide) ⟨_, rfl⟩ (gp_k hG pb15) (Nat.le_of_ble_eq_true rfl) rfl h (fun σ4 h => ?_)
        refine tn_aload_n (pc := 43) hΓ d_X5_behind_43 rfl ?_
        refine tn_getRy (y := 15) (pc := 44) hΓ d_X5_behind_44 fl_5_18 rfl (gd_k hG (c := 2) rfl) (gd_r hG 2 1 15 rfl rfl) ?_
        refine tn_iload_n (pc := 47) hΓ d_X5_behind_47 rfl ?_
        refine tn_cvV (As := [.int a0]) (st := []) (pc := 48) hΓ d_X5_behind_48 mv_X1_passNights im_X1_passNights se_X1_passNights ml_5_138 ⟨⟨by decide, by decide⟩, by decide, by decide⟩ rfl rfl rfl (by decide) ⟨_, rfl⟩ (gp_k hG pb15) (Nat.le_of_ble_eq_true rfl) rfl h (fun σ5 h => ?_)
        refine tn_iload_n (pc := 51) hΓ d_X5_behind_51 rfl ?_
        refine tn_if_ne (tgt := 63) (pc := 52) hΓ d_X5_behind_52 (by decide) (fun hq => ?_) (fun hq => ?_)
        · have h := h.1 hq
          refine tn_iload_n (pc := 63) hΓ d_X5_behind_63 rfl ?_
          refine tn_iconst (pc := 64) hΓ d_X5_behind_64 ic_1 ?_
          refine tn_icmp_ne (tgt := 78) (pc := 65) hΓ d_X5_behind_65 (by decide) (fun hq => ?_) (fun hq => ?_)
          · have h := h.1 hq
            refine tn_aload_n (pc := 78) hΓ d_X5_behind_78 rfl ?_
            refine tn_getRy (y := 15) (pc := 79) hΓ d_X5_behind_79 fl_5_18 rfl (gd_k hG (c := 2) rfl) (gd_r hG 2 1 15 rfl rfl) ?_
            refine tn_cvI (As := []) (st := []) (pc := 82) hΓ d_X5_behind_82 mv_X1_hatsLost im_X1_hatsLost se_X1_hatsLost ml_5_158 ⟨⟨by decide, by decide⟩, by decide, by decide⟩ rfl rfl rfl (by decide) ⟨_, rfl⟩ (gp_k hG pb15) (Nat.le_of_ble_eq_true rfl) rfl h (fun r4 σ6 h => ?_)
            refine tn_aload_n (pc := 85) hΓ d_X5_behind_85 rfl ?_
            refine tn_getRy (y := 3) (pc := 86) hΓ d_X5_behind_86 fl_5_12 rfl (gd_k hG (c := 2) rfl) (gd_r hG 2 0 3 rfl rfl) ?_
            refine tn_cvI (As := []) (st := [.int r4]) (pc := 89) hΓ d_X5_behind_89 mv_X1_hatsLost im_X1_hatsLost se_X1_hatsLost ml_5_158 ⟨⟨by decide, by decide⟩, by decide, by decide⟩ rfl rfl rfl (by decide) ⟨_, rfl⟩ (gp_k hG pb3) (Nat.le_of_ble_eq_true rfl) rfl h (fun r5 σ7 h => ?_)
            refine tn_isub (pc := 92) hΓ d_X5_behind_92 ?_
            exact tn_ret_i (pc := 93) hΓ hK d_X5_behind_93 rfl (by decide) (by decide) h
          · have h := h.2 hq
            refine tn_aload_n (pc := 68) hΓ d_X5_behind_68 rfl ?_
            refine tn_getRy (y := 15) (pc := 69) hΓ d_X5_behind_69 fl_5_18 rfl (gd_k hG (c := 2) rfl) (gd_r hG 2 1 15 rfl rfl) ?_
            refine tn_getI (pc := 72) hΓ d_X5_behind_72 fl_5_155 rfl (gp_k hG pb15) ?_
            refine tn_goto (tgt := 93) (pc := 75) hΓ d_X5_behind_75 (by decide) ?_
            exact tn_ret_i (pc := 93) hΓ hK d_X5_behind_93 rfl (by decide) (by decide) h
        · have h := h.2 hq
          refine tn_aload_n (pc := 55) hΓ d_X5_behind_55 rfl ?_
          refine tn_getRy (y := 15) (pc := 56) hΓ d_X5_behind_56 fl_5_18 rfl (gd_k hG (c := 2) rfl) (gd_r hG 2 1 15 rfl rfl) ?_
          refine tn_cvI (As := []) (st := []) (pc := 59) hΓ d_X5_behind_59 mv_X1_voice im_X1_voice se_X1_voice ml_5_132 ⟨⟨by decide, by decide⟩, by decide, by decide⟩ rfl rfl rfl (by decide) ⟨_, rfl⟩ (gp_k hG pb15) (Nat.le_of_ble_eq_true rfl) rfl h (fun r6 σ8 h => ?_)
          exact tn_ret_i (pc := 62) hΓ hK d_X5_behind_62 rfl (by decide) (by decide) h
      · have h := h.2 hq
        refine tn_bipush (pc := 29) hΓ d_X5_behind_29 bp_m3 ?_
        exact tn_ret_i (pc := 31) hΓ hK d_X5_behind_31 rfl (by decide) (by decide) h
    · have h := h.2 hq
      refine tn_bipush (pc := 19) hΓ d_X5_behind_19 bp_m2 ?_
      exact tn_ret_i (pc := 21) hΓ hK d_X5_behind_21 rfl (by decide) (by decide) h
theorem k_X5_quiet_0 {Γ : tn_G} {ks : List (Nat × Nat)} {ρ : Nat → Nat → Nat} {σ : Nat → Nat → Int32} {K : Option Value → List (Nat × Nat) → (Nat → Nat → Nat) → (Nat → Nat → Int32) → Prop} (hG : tn_Gd ks ρ) (hΓ : tn_is Γ m_X5_quiet) (hK : tn_rt Γ m_X5_quiet K)  (h : tn_CI m_X5_hasParish [.ref 2] ks ρ σ (fun r1 σ1 => ((¬ r1 = 0 → tn_CV m_X1_become [.ref 15, .ref 3] ks ρ σ1 (fun σ2 => tn_CI m_X1_nightsUntilQuiet [.ref 15, .int (60 : Int32)] ks ρ σ2 (fun r2 σ3 => K (some (.int r2)) ks ρ σ3))) ∧ (r1 = 0 → K (some (.int (-3 : Int32))) ks ρ σ1)))) : tn_A Γ 0 [.ref 2] [] 0 0 ks ρ σ := by
  refine tn_aload_n (pc := 0) hΓ d_X5_quiet_0 rfl ?_
  refine tn_cvI (As := []) (st := []) (pc := 1) hΓ d_X5_quiet_1 mv_X5_hasParish im_X5_hasParish se_X5_hasParish ml_5_135 ⟨⟨by decide, by decide⟩, by decide, by decide⟩ rfl rfl rfl (by decide) ⟨_, rfl⟩ (gd_k hG (c := 2) rfl) (Nat.le_of_ble_eq_true rfl) rfl h (fun r1 σ1 h => ?_)
  refine tn_if_ne (tgt := 10) (pc := 4) hΓ d_X5_quiet_4 (by decide) (fun hq => ?_) (fun hq => ?_)
  · have h := h.1 hq
    refine tn_aload_n (pc := 10) hΓ d_X5_quiet_10 rfl ?_
    refine tn_getRy (y := 15) (pc := 11) hΓ d_X5_quiet_11 fl_5_18 rfl (gd_k hG (c := 2) rfl) (gd_r hG 2 1 15 rfl rfl) ?_
    refine tn_aload_n (pc := 14) hΓ d_X5_quiet_14 rfl ?_
    refine tn_getRy (y := 3) (pc := 15) hΓ d_X5_quiet_15 fl_5_12 rfl (gd_k hG (c := 2) rfl) (gd_r hG 2 0 3 rfl rfl) ?_
    refine tn_cvV (As := [.ref 3]) (st := []) (pc := 18) hΓ d_X5_quiet_18 mv_X1_become im_X1_become se_X1_become ml_5_70 ⟨⟨by decide, by decide⟩, by decide, by decide⟩ rfl rfl rfl (by decide) ⟨_, rfl⟩ (gp_k hG pb15) (Nat.le_of_ble_eq_true rfl) rfl h (fun σ2 h => ?_)
    refine tn_aload_n (pc := 21) hΓ d_X5_quiet_21 rfl ?_
    refine tn_getRy (y := 15) (pc := 22) hΓ d_X5_quiet_22 fl_5_18 rfl (gd_k hG (c := 2) rfl) (gd_r hG 2 1 15 rfl rfl) ?_
    refine tn_bipush (pc := 25) hΓ d_X5_quiet_25 bp_60 ?_
    refine tn_cvI (As := [.int (60 : Int32)]) (st := []) (pc := 27) hΓ d_X5_quiet_27 mv_X1_nightsUntilQuiet im_X1_nightsUntilQuiet se_X1_nightsUntilQuiet ml_5_161 ⟨⟨by decide, by decide⟩, by decide, by decide⟩ rfl rfl rfl (by decide) ⟨_, rfl⟩ (gp_k hG pb15) (Nat.le_of_ble_eq_true rfl) rfl h (fun r2 σ3 h => ?_)
    exact tn_ret_i (pc := 30) hΓ hK d_X5_quiet_30 rfl (by decide) (by decide) h
  · have h := h.2 hq
    refine tn_bipush (pc := 7) hΓ d_X5_quiet_7 bp_m3 ?_
    exact tn_ret_i (pc := 9) hΓ hK d_X5_quiet_9 rfl (by decide) (by decide) h
theorem k_X5_fewest_0 {Γ : tn_G} {ks : List (Nat × Nat)} {ρ : Nat → Nat → Nat} {σ : Nat → Nat → Int32} {K : Option Value → List (Nat × Nat) → (Nat → Nat → Nat) → (Nat → Nat → Int32) → Prop} (hG : tn_Gd ks ρ) (hΓ : tn_is Γ m_X5_fewest) (hK : tn_rt Γ m_X5_fewest K) (a0 : Int32) (a1 : Int32) (h : tn_CI m_X5_isWithin [.int a0, .int (0 : Int32), .int (60 : Int32)] ks ρ σ (fun r1 σ1 => ((r1 = 0 → K (some (.int (-2 : Int32))) ks ρ σ1) ∧ (¬ r1 = 0 → tn_CI m_X5_isWithin [.int a1, .int (0 : Int32), .int (1 : Int32)] ks ρ σ1 (fun r2 σ2 => ((¬ r2 = 0 → tn_CI m_X5_hasParish [.ref 2] ks ρ σ2 (fun r3 σ3 => ((¬ r3 = 0 → tn_A Γ 42 [.ref 2, .int a0, .int a1, .int (-9 : Int32), .int (-9 : Int32), .int (0 : Int32), .null] [] 0 0 ks ρ σ3) ∧ (r3 = 0 → K (some (.int (-3 : Int32))) ks ρ σ3)))) ∧ (r2 = 0 → K (some (.int (-2 : Int32))) ks ρ σ2))))))) : tn_A Γ 0 [.ref 2, .int a0, .int a1, .null, .null, .null, .null] [] 0 0 ks ρ σ := by
  refine tn_iload_n (pc := 0) hΓ d_X5_fewest_0 rfl ?_
  refine tn_iconst (pc := 1) hΓ d_X5_fewest_1 ic_0 ?_
  refine tn_bipush (pc := 2) hΓ d_X5_fewest_2 bp_60 ?_
  refine tn_csI (As := [.int a0, .int (0 : Int32), .int (60 : Int32)]) (st := []) (pc := 4) hΓ d_X5_fewest_4 mv_X5_isWithin st_X5_isWithin ml_5_125 ⟨⟨by decide, by decide⟩, by decide, by decide⟩ rfl rfl rfl (Nat.le_of_ble_eq_true rfl) rfl h (fun r1 σ1 h => ?_)
  refine tn_if_eq (tgt := 19) (pc := 7) hΓ d_X5_fewest_7 (by decide) (fun hq => ?_) (fun hq => ?_)
  · have h := h.1 hq
    refine tn_bipush (pc := 19) hΓ d_X5_fewest_19 bp_m2 ?_
    exact tn_ret_i (pc := 21) hΓ hK d_X5_fewest_21 rfl (by decide) (by decide) h
  · have h := h.2 hq
    refine tn_iload_n (pc := 10) hΓ d_X5_fewest_10 rfl ?_
    refine tn_iconst (pc := 11) hΓ d_X5_fewest_11 ic_0 ?_
    refine tn_iconst (pc := 12) hΓ d_X5_fewest_12 ic_1 ?_
    refine tn_csI (As := [.int a1, .int (0 : Int32), .int (1 : Int32)]) (st := []) (pc := 13) hΓ d_X5_fewest_13 mv_X5_isWithin st_X5_isWithin ml_5_125 ⟨⟨by decide, by decide⟩, by decide, by decide⟩ rfl rfl rfl (Nat.le_of_ble_eq_true rfl) rfl h (fun r2 σ2 h => ?_)
    refine tn_if_ne (tgt := 22) (pc := 16) hΓ d_X5_fewest_16 (by decide) (fun hq => ?_) (fun hq => ?_)
    · have h := h.1 hq
      refine tn_aload_n (pc := 22) hΓ d_X5_fewest_22 rfl ?_
      refine tn_cvI (As := []) (st := []) (pc := 23) hΓ d_X5_fewest_23 mv_X5_hasParish im_X5_hasParish se_X5_hasParish ml_5_135 ⟨⟨by decide, by decide⟩, by decide, by decide⟩ rfl rfl rfl (by decide) ⟨_, rfl⟩ (gd_k hG (c := 2) rfl) (Nat.le_of_ble_eq_true rfl) rfl h (fun r3 σ3 h => ?_)
      refine tn_if_ne (tgt := 32) (pc := 26) hΓ d_X5_fewest_26 (by decide) (fun hq => ?_) (fun hq => ?_)
      · have h := h.1 hq
        refine tn_bipush (pc := 32) hΓ d_X5_fewest_32 bp_m9 ?_
        refine tn_istore_n (loc' := [.ref 2, .int a0, .int a1, .int (-9 : Int32), .null, .null, .null]) (pc := 34) hΓ d_X5_fewest_34 (by decide) rfl rfl ?_
        refine tn_bipush (pc := 35) hΓ d_X5_fewest_35 bp_m9 ?_
        refine tn_istore (loc' := [.ref 2, .int a0, .int a1, .int (-9 : Int32), .int (-9 : Int32), .null, .null]) (pc := 37) hΓ d_X5_fewest_37 (by decide) rfl rfl ?_
        refine tn_iconst (pc := 39) hΓ d_X5_fewest_39 ic_0 ?_
        refine tn_istore (loc' := [.ref 2, .int a0, .int a1, .int (-9 : Int32), .int (-9 : Int32), .int (0 : Int32), .null]) (pc := 40) hΓ d_X5_fewest_40 (by decide) rfl rfl ?_
        exact h
      · have h := h.2 hq
        refine tn_bipush (pc := 29) hΓ d_X5_fewest_29 bp_m3 ?_
        exact tn_ret_i (pc := 31) hΓ hK d_X5_fewest_31 rfl (by decide) (by decide) h
    · have h := h.2 hq
      refine tn_bipush (pc := 19) hΓ d_X5_fewest_19 bp_m2 ?_
      exact tn_ret_i (pc := 21) hΓ hK d_X5_fewest_21 rfl (by decide) (by decide) h
theorem k_X5_fewest_42 {Γ : tn_G} {ks : List (Nat × Nat)} {ρ : Nat → Nat → Nat} {σ : Nat → Nat → Int32} {K : Option Value → List (Nat × Nat) → (Nat → Nat → Nat) → (Nat → Nat → Int32) → Prop} (hG : tn_Gd ks ρ) (hΓ : tn_is Γ m_X5_fewest) (hK : tn_rt Γ m_X5_fewest K) (y1 : Int32) (y2 : Int32) (y3 : Int32) (y4 : Int32) (y5 : Int32) (h : tn_CI m_X1_setCount [.ref 3] ks ρ σ (fun r1 σ1 => ((r1 ≤ y5 → ((¬ y2 = 0 → K (some (.int y3)) ks ρ σ1) ∧ (y2 = 0 → K (some (.int y4)) ks ρ σ1))) ∧ (¬ r1 ≤ y5 → tn_CI m_J_bitCount [.int y5] ks ρ σ1 (fun r2 σ2 => ((y3 = (-9 : Int32) → tn_CI m_X1_doesSetRankle [.ref 3, .int y5] ks ρ σ2 (fun r3 σ3 => ((r3 = 0 → (∀ x1 : Int32, x1 = y5 + (1 : Int32) → tn_A Γ 42 [.ref 2, .int y1, .int y2, .int y3, .int y4, .int x1, .null] [] 0 0 ks ρ σ3)) ∧ (¬ r3 = 0 → tn_CI m_X5_isQuietIfOwned [.ref 2, .int y5, .int y1] ks ρ σ3 (fun r4 σ4 => ((r4 = 0 → (∀ x2 : Int32, x2 = y5 + (1 : Int32) → tn_A Γ 42 [.ref 2, .int y1, .int y2, .int y3, .int y4, .int x2, .null] [] 0 0 ks ρ σ4)) ∧ (¬ r4 = 0 → (∀ x3 : Int32, x3 = y5 + (1 : Int32) → tn_A Γ 42 [.ref 2, .int y1, .int y2, .int y5, .int r2, .int x3, .null] [] 0 0 ks ρ σ4)))))))) ∧ (¬ y3 = (-9 : Int32) → ((y4 ≤ r2 → (∀ x4 : Int32, x4 = y5 + (1 : Int32) → tn_A Γ 42 [.ref 2, .int y1, .int y2, .int y3, .int y4, .int x4, .null] [] 0 0 ks ρ σ2)) ∧ (¬ y4 ≤ r2 → tn_CI m_X1_doesSetRankle [.ref 3, .int y5] ks ρ σ2 (fun r5 σ5 => ((r5 = 0 → (∀ x5 : Int32, x5 = y5 + (1 : Int32) → tn_A Γ 42 [.ref 2, .int y1, .int y2, .int y3, .int y4, .int x5, .null] [] 0 0 ks ρ σ5)) ∧ (¬ r5 = 0 → tn_CI m_X5_isQuietIfOwned [.ref 2, .int y5, .int y1] ks ρ σ5 (fun r6 σ6 => ((r6 = 0 → (∀ x6 : Int32, x6 = y5 + (1 : Int32) → tn_A Γ 42 [.ref 2, .int y1, .int y2, .int y3, .int y4, .int x6, .null] [] 0 0 ks ρ σ6)) ∧ (¬ r6 = 0 → (∀ x7 : Int32, x7 = y5 + (1 : Int32) → tn_A Γ 42 [.ref 2, .int y1, .int y2, .int y5, .int r2, .int x7, .null] [] 0 0 ks ρ σ6)))))))))))))))) : tn_A Γ 42 [.ref 2, .int y1, .int y2, .int y3, .int y4, .int y5, .null] [] 0 0 ks ρ σ := by
  refine tn_iload (pc := 42) hΓ d_X5_fewest_42 rfl ?_
  refine tn_aload_n (pc := 44) hΓ d_X5_fewest_44 rfl ?_
  refine tn_getRy (y := 3) (pc := 45) hΓ d_X5_fewest_45 fl_5_12 rfl (gd_k hG (c := 2) rfl) (gd_r hG 2 0 3 rfl rfl) ?_
  refine tn_cvI (As := []) (st := [.int y5]) (pc := 48) hΓ d_X5_fewest_48 mv_X1_setCount im_X1_setCount se_X1_setCount ml_5_164 ⟨⟨by decide, by decide⟩, by decide, by decide⟩ rfl rfl rfl (by decide) ⟨_, rfl⟩ (gp_k hG pb3) (Nat.le_of_ble_eq_true rfl) rfl h (fun r1 σ1 h => ?_)
  refine tn_icmp_ge (tgt := 109) (pc := 51) hΓ d_X5_fewest_51 (by decide) (fun hq => ?_) (fun hq => ?_)
  · have h := h.1 hq
    refine tn_iload_n (pc := 109) hΓ d_X5_fewest_109 rfl ?_
    refine tn_if_ne (tgt := 118) (pc := 110) hΓ d_X5_fewest_110 (by decide) (fun hq => ?_) (fun hq => ?_)
    · have h := h.1 hq
      refine tn_iload_n (pc := 118) hΓ d_X5_fewest_118 rfl ?_
      exact tn_ret_i (pc := 119) hΓ hK d_X5_fewest_119 rfl (by decide) (by decide) h
    · have h := h.2 hq
      refine tn_iload (pc := 113) hΓ d_X5_fewest_113 rfl ?_
      refine tn_goto (tgt := 119) (pc := 115) hΓ d_X5_fewest_115 (by decide) ?_
      exact tn_ret_i (pc := 119) hΓ hK d_X5_fewest_119 rfl (by decide) (by decide) h
  · have h := h.2 hq
    refine tn_iload (pc := 54) hΓ d_X5_fewest_54 rfl ?_
    refine tn_csI (As := [.int y5]) (st := []) (pc := 56) hΓ d_X5_fewest_56 mv_J_bitCount st_J_bitCount ml_5_167 ⟨⟨by decide, by decide⟩, by decide, by decide⟩ rfl rfl rfl (Nat.le_of_ble_eq_true rfl) rfl h (fun r2 σ2 h => ?_)
    refine tn_istore (loc' := [.ref 2, .int y1, .int y2, .int y3, .int y4, .int y5, .int r2]) (pc := 59) hΓ d_X5_fewest_59 (by decide) rfl rfl ?_
    refine tn_iload_n (pc := 61) hΓ d_X5_fewest_61 rfl ?_
    refine tn_bipush (pc := 62) hΓ d_X5_fewest_62 bp_m9 ?_
    refine tn_icmp_eq (tgt := 74) (pc := 64) hΓ d_X5_fewest_64 (by decide) (fun hq => ?_) (fun hq => ?_)
    · have h := h.1 hq
      refine tn_aload_n (pc := 74) hΓ d_X5_fewest_74 rfl ?_
      refine tn_getRy (y := 3) (pc := 75) hΓ d_X5_fewest_75 fl_5_12 rfl (gd_k hG (c := 2) rfl) (gd_r hG 2 0 3 rfl rfl) ?_
      refine tn_iload (pc := 78) hΓ d_X5_fewest_78 rfl ?_
      refine tn_cvI (As := [.int y5]) (st := []) (pc := 80) hΓ d_X5_fewest_80 mv_X1_doesSetRankle im_X1_doesSetRankle se_X1_doesSetRankle ml_5_172 ⟨⟨by decide, by decide⟩, by decide, by decide⟩ rfl rfl rfl (by decide) ⟨_, rfl⟩ (gp_k hG pb3) (Nat.le_of_ble_eq_true rfl) rfl h (fun r3 σ3 h => ?_)
      refine tn_if_eq (tgt := 103) (pc := 83) hΓ d_X5_fewest_83 (by decide) (fun hq => ?_) (fun hq => ?_)
      · have h := h.1 hq
        refine tn_iincw (loc' := fun v_ => [.ref 2, .int y1, .int y2, .int y3, .int y4, .int v_, .int r2]) (pc := 103) hΓ d_X5_fewest_103 rfl ic_1 (by decide) rfl (fun _ => rfl) (fun x1 ex1 => ?_)
        have h := h x1 ex1
        refine tn_goto (tgt := 42) (pc := 106) hΓ d_X5_fewest_106 (by decide) ?_
        refine tn_drop [true, true, true, true, true, true, false] (loc' := [.ref 2, .int y1, .int y2, .int y3, .int y4, .int x1, .null]) rfl ?_
        exact h
      · have h := h.2 hq
        refine tn_aload_n (pc := 86) hΓ d_X5_fewest_86 rfl ?_
        refine tn_iload (pc := 87) hΓ d_X5_fewest_87 rfl ?_
        refine tn_iload_n (pc := 89) hΓ d_X5_fewest_89 rfl ?_
        refine tn_cvI (As := [.int y5, .int y1]) (st := []) (pc := 90) hΓ d_X5_fewest_90 mv_X5_isQuietIfOwned im_X5_isQuietIfOwned se_X5_isQuietIfOwned ml_5_175 ⟨⟨by decide, by decide⟩, by decide, by decide⟩ rfl rfl rfl (by decide) ⟨_, rfl⟩ (gd_k hG (c := 2) rfl) (Nat.le_of_ble_eq_true rfl) rfl h (fun r4 σ4 h => ?_)
        refine tn_if_eq (tgt := 103) (pc := 93) hΓ d_X5_fewest_93 (by decide) (fun hq => ?_) (fun hq => ?_)
        · have h := h.1 hq
          refine tn_iincw (loc' := fun v_ => [.ref 2, .int y1, .int y2, .int y3, .int y4, .int v_, .int r2]) (pc := 103) hΓ d_X5_fewest_103 rfl ic_1 (by decide) rfl (fun _ => rfl) (fun x2 ex2 => ?_)
          have h := h x2 ex2
          refine tn_goto (tgt := 42) (pc := 106) hΓ d_X5_fewest_106 (by decide) ?_
          refine tn_drop [true, true, true, true, true, true, false] (loc' := [.ref 2, .int y1, .int y2, .int y3, .int y4, .int x2, .null]) rfl ?_
          exact h
        · have h := h.2 hq
          refine tn_iload (pc := 96) hΓ d_X5_fewest_96 rfl ?_
          refine tn_istore_n (loc' := [.ref 2, .int y1, .int y2, .int y5, .int y4, .int y5, .int r2]) (pc := 98) hΓ d_X5_fewest_98 (by decide) rfl rfl ?_
          refine tn_iload (pc := 99) hΓ d_X5_fewest_99 rfl ?_
          refine tn_istore (loc' := [.ref 2, .int y1, .int y2, .int y5, .int r2, .int y5, .int r2]) (pc := 101) hΓ d_X5_fewest_101 (by decide) rfl rfl ?_
          refine tn_iincw (loc' := fun v_ => [.ref 2, .int y1, .int y2, .int y5, .int r2, .int v_, .int r2]) (pc := 103) hΓ d_X5_fewest_103 rfl ic_1 (by decide) rfl (fun _ => rfl) (fun x3 ex3 => ?_)
          have h := h x3 ex3
          refine tn_goto (tgt := 42) (pc := 106) hΓ d_X5_fewest_106 (by decide) ?_
          refine tn_drop [true, true, true, true, true, true, false] (loc' := [.ref 2, .int y1, .int y2, .int y5, .int r2, .int x3, .null]) rfl ?_
          exact h
    · have h := h.2 hq
      refine tn_iload (pc := 67) hΓ d_X5_fewest_67 rfl ?_
      refine tn_iload (pc := 69) hΓ d_X5_fewest_69 rfl ?_
      refine tn_icmp_ge (tgt := 103) (pc := 71) hΓ d_X5_fewest_71 (by decide) (fun hq => ?_) (fun hq => ?_)
      · have h := h.1 hq
        refine tn_iincw (loc' := fun v_ => [.ref 2, .int y1, .int y2, .int y3, .int y4, .int v_, .int r2]) (pc := 103) hΓ d_X5_fewest_103 rfl ic_1 (by decide) rfl (fun _ => rfl) (fun x4 ex4 => ?_)
        have h := h x4 ex4
        refine tn_goto (tgt := 42) (pc := 106) hΓ d_X5_fewest_106 (by decide) ?_
        refine tn_drop [true, true, true, true, true, true, false] (loc' := [.ref 2, .int y1, .int y2, .int y3, .int y4, .int x4, .null]) rfl ?_
        exact h
      · have h := h.2 hq
        refine tn_aload_n (pc := 74) hΓ d_X5_fewest_74 rfl ?_
        refine tn_getRy (y := 3) (pc := 75) hΓ d_X5_fewest_75 fl_5_12 rfl (gd_k hG (c := 2) rfl) (gd_r hG 2 0 3 rfl rfl) ?_
        refine tn_iload (pc := 78) hΓ d_X5_fewest_78 rfl ?_
        refine tn_cvI (As := [.int y5]) (st := []) (pc := 80) hΓ d_X5_fewest_80 mv_X1_doesSetRankle im_X1_doesSetRankle se_X1_doesSetRankle ml_5_172 ⟨⟨by decide, by decide⟩, by decide, by decide⟩ rfl rfl rfl (by decide) ⟨_, rfl⟩ (gp_k hG pb3) (Nat.le_of_ble_eq_true rfl) rfl h (fun r5 σ5 h => ?_)
        refine tn_if_eq (tgt := 103) (pc := 83) hΓ d_X5_fewest_83 (by decide) (fun hq => ?_) (fun hq => ?_)
        · have h := h.1 hq
          refine tn_iincw (loc' := fun v_ => [.ref 2, .int y1, .int y2, .int y3, .int y4, .int v_, .int r2]) (pc := 103) hΓ d_X5_fewest_103 rfl ic_1 (by decide) rfl (fun _ => rfl) (fun x5 ex5 => ?_)
          have h := h x5 ex5
          refine tn_goto (tgt := 42) (pc := 106) hΓ d_X5_fewest_106 (by decide) ?_
          refine tn_drop [true, true, true, true, true, true, false] (loc' := [.ref 2, .int y1, .int y2, .int y3, .int y4, .int x5, .null]) rfl ?_
          exact h
        · have h := h.2 hq
          refine tn_aload_n (pc := 86) hΓ d_X5_fewest_86 rfl ?_
          refine tn_iload (pc := 87) hΓ d_X5_fewest_87 rfl ?_
          refine tn_iload_n (pc := 89) hΓ d_X5_fewest_89 rfl ?_
          refine tn_cvI (As := [.int y5, .int y1]) (st := []) (pc := 90) hΓ d_X5_fewest_90 mv_X5_isQuietIfOwned im_X5_isQuietIfOwned se_X5_isQuietIfOwned ml_5_175 ⟨⟨by decide, by decide⟩, by decide, by decide⟩ rfl rfl rfl (by decide) ⟨_, rfl⟩ (gd_k hG (c := 2) rfl) (Nat.le_of_ble_eq_true rfl) rfl h (fun r6 σ6 h => ?_)
          refine tn_if_eq (tgt := 103) (pc := 93) hΓ d_X5_fewest_93 (by decide) (fun hq => ?_) (fun hq => ?_)
          · have h := h.1 hq
            refine tn_iincw (loc' := fun v_ => [.ref 2, .int y1, .int y2, .int y3, .int y4, .int v_, .int r2]) (pc := 103) hΓ d_X5_fewest_103 rfl ic_1 (by decide) rfl (fun _ => rfl) (fun x6 ex6 => ?_)
            have h := h x6 ex6
            refine tn_goto (tgt := 42) (pc := 106) hΓ d_X5_fewest_106 (by decide) ?_
            refine tn_drop [true, true, true, true, true, true, false] (loc' := [.ref 2, .int y1, .int y2, .int y3, .int y4, .int x6, .null]) rfl ?_
            exact h
          · have h := h.2 hq
            refine tn_iload (pc := 96) hΓ d_X5_fewest_96 rfl ?_
            refine tn_istore_n (loc' := [.ref 2, .int y1, .int y2, .int y5, .int y4, .int y5, .int r2]) (pc := 98) hΓ d_X5_fewest_98 (by decide) rfl rfl ?_
            refine tn_iload (pc := 99) hΓ d_X5_fewest_99 rfl ?_
            refine tn_istore (loc' := [.ref 2, .int y1, .int y2, .int y5, .int r2, .int y5, .int r2]) (pc := 101) hΓ d_X5_fewest_101 (by decide) rfl rfl ?_
            refine tn_iincw (loc' := fun v_ => [.ref 2, .int y1, .int y2, .int y5, .int r2, .int v_, .int r2]) (pc := 103) hΓ d_X5_fewest_103 rfl ic_1 (by decide) rfl (fun _ => rfl) (fun x7 ex7 => ?_)
            have h := h x7 ex7
            refine tn_goto (tgt := 42) (pc := 106) hΓ d_X5_fewest_106 (by decide) ?_
            refine tn_drop [true, true, true, true, true, true, false] (loc' := [.ref 2, .int y1, .int y2, .int y5, .int r2, .int x7, .null]) rfl ?_
            exact h
theorem k_X5_claps_0 {Γ : tn_G} {ks : List (Nat × Nat)} {ρ : Nat → Nat → Nat} {σ : Nat → Nat → Int32} {K : Option Value → List (Nat × Nat) → (Nat → Nat → Nat) → (Nat → Nat → Int32) → Prop} (hG : tn_Gd ks ρ) (hΓ : tn_is Γ m_X5_claps) (hK : tn_rt Γ m_X5_claps K) (a0 : Int32) (a1 : Int32) (h : tn_CI m_X5_isWithin [.int a0, .int (0 : Int32), .int (90 : Int32)] ks ρ σ (fun r1 σ1 => ((r1 = 0 → K (some (.int (-2 : Int32))) ks ρ σ1) ∧ (¬ r1 = 0 → tn_CI m_X5_isWithin [.int a1, .int (0 : Int32), .int (1 : Int32)] ks ρ σ1 (fun r2 σ2 => ((¬ r2 = 0 → tn_CI m_X5_hasParish [.ref 2] ks ρ σ2 (fun r3 σ3 => ((¬ r3 = 0 → tn_A Γ 41 [.ref 2, .int a0, .int a1, .int (-9 : Int32), .int (0 : Int32), .int (0 : Int32)] [] 0 0 ks ρ σ3) ∧ (r3 = 0 → K (some (.int (-3 : Int32))) ks ρ σ3)))) ∧ (r2 = 0 → K (some (.int (-2 : Int32))) ks ρ σ2))))))) : tn_A Γ 0 [.ref 2, .int a0, .int a1, .null, .null, .null] [] 0 0 ks ρ σ := by
  refine tn_iload_n (pc := 0) hΓ d_X5_claps_0 rfl ?_
  refine tn_iconst (pc := 1) hΓ d_X5_claps_1 ic_0 ?_
  refine tn_bipush (pc := 2) hΓ d_X5_claps_2 bp_90 ?_
  refine tn_csI (As := [.int a0, .int (0 : Int32), .int (90 : Int32)]) (st := []) (pc := 4) hΓ d_X5_claps_4 mv_X5_isWithin st_X5_isWithin ml_5_125 ⟨⟨by decide, by decide⟩, by decide, by decide⟩ rfl rfl rfl (Nat.le_of_ble_eq_true rfl) rfl h (fun r1 σ1 h => ?_)
  refine tn_if_eq (tgt := 19) (pc := 7) hΓ d_X5_claps_7 (by decide) (fun hq => ?_) (fun hq => ?_)
  · have h := h.1 hq
    refine tn_bipush (pc := 19) hΓ d_X5_claps_19 bp_m2 ?_
    exact tn_ret_i (pc := 21) hΓ hK d_X5_claps_21 rfl (by decide) (by decide) h
  · have h := h.2 hq
    refine tn_iload_n (pc := 10) hΓ d_X5_claps_10 rfl ?_
    refine tn_iconst (pc := 11) hΓ d_X5_claps_11 ic_0 ?_
    refine tn_iconst (pc := 12) hΓ d_X5_claps_12 ic_1 ?_
    refine tn_csI (As := [.int a1, .int (0 : Int32), .int (1 : Int32)]) (st := []) (pc := 13) hΓ d_X5_claps_13 mv_X5_isWithin st_X5_isWithin ml_5_125 ⟨⟨by decide, by decide⟩, by decide, by decide⟩ rfl rfl rfl (Nat.le_of_ble_eq_true rfl) rfl h (fun r2 σ2 h => ?_)
    refine tn_if_ne (tgt := 22) (pc := 16) hΓ d_X5_claps_16 (by decide) (fun hq => ?_) (fun hq => ?_)
    · have h := h.1 hq
      refine tn_aload_n (pc := 22) hΓ d_X5_claps_22 rfl ?_
      refine tn_cvI (As := []) (st := []) (pc := 23) hΓ d_X5_claps_23 mv_X5_hasParish im_X5_hasParish se_X5_hasParish ml_5_135 ⟨⟨by decide, by decide⟩, by decide, by decide⟩ rfl rfl rfl (by decide) ⟨_, rfl⟩ (gd_k hG (c := 2) rfl) (Nat.le_of_ble_eq_true rfl) rfl h (fun r3 σ3 h => ?_)
      refine tn_if_ne (tgt := 32) (pc := 26) hΓ d_X5_claps_26 (by decide) (fun hq => ?_) (fun hq => ?_)
      · have h := h.1 hq
        refine tn_bipush (pc := 32) hΓ d_X5_claps_32 bp_m9 ?_
        refine tn_istore_n (loc' := [.ref 2, .int a0, .int a1, .int (-9 : Int32), .null, .null]) (pc := 34) hΓ d_X5_claps_34 (by decide) rfl rfl ?_
        refine tn_iconst (pc := 35) hΓ d_X5_claps_35 ic_0 ?_
        refine tn_istore (loc' := [.ref 2, .int a0, .int a1, .int (-9 : Int32), .int (0 : Int32), .null]) (pc := 36) hΓ d_X5_claps_36 (by decide) rfl rfl ?_
        refine tn_iconst (pc := 38) hΓ d_X5_claps_38 ic_0 ?_
        refine tn_istore (loc' := [.ref 2, .int a0, .int a1, .int (-9 : Int32), .int (0 : Int32), .int (0 : Int32)]) (pc := 39) hΓ d_X5_claps_39 (by decide) rfl rfl ?_
        exact h
      · have h := h.2 hq
        refine tn_bipush (pc := 29) hΓ d_X5_claps_29 bp_m3 ?_
        exact tn_ret_i (pc := 31) hΓ hK d_X5_claps_31 rfl (by decide) (by decide) h
    · have h := h.2 hq
      refine tn_bipush (pc := 19) hΓ d_X5_claps_19 bp_m2 ?_
      exact tn_ret_i (pc := 21) hΓ hK d_X5_claps_21 rfl (by decide) (by decide) h
theorem k_X5_claps_41 {Γ : tn_G} {ks : List (Nat × Nat)} {ρ : Nat → Nat → Nat} {σ : Nat → Nat → Int32} {K : Option Value → List (Nat × Nat) → (Nat → Nat → Nat) → (Nat → Nat → Int32) → Prop} (hG : tn_Gd ks ρ) (hΓ : tn_is Γ m_X5_claps) (hK : tn_rt Γ m_X5_claps K) (y1 : Int32) (y2 : Int32) (y3 : Int32) (y4 : Int32) (y5 : Int32) (h : tn_CI m_X1_setCount [.ref 3] ks ρ σ (fun r1 σ1 => ((r1 ≤ y5 → ((¬ y2 = 0 → K (some (.int y3)) ks ρ σ1) ∧ (y2 = 0 → K (some (.int y4)) ks ρ σ1))) ∧ (¬ r1 ≤ y5 → tn_CI m_X1_doesSetRankle [.ref 3, .int y5] ks ρ σ1 (fun r2 σ2 => ((r2 = 0 → (∀ x1 : Int32, x1 = y5 + (1 : Int32) → tn_A Γ 41 [.ref 2, .int y1, .int y2, .int y3, .int y4, .int x1] [] 0 0 ks ρ σ2)) ∧ (¬ r2 = 0 → tn_CI m_X1_weightOfSet [.ref 3, .int y5] ks ρ σ2 (fun r3 σ3 => ((¬ r3 = y1 → (∀ x2 : Int32, x2 = y5 + (1 : Int32) → tn_A Γ 41 [.ref 2, .int y1, .int y2, .int y3, .int y4, .int x2] [] 0 0 ks ρ σ3)) ∧ (r3 = y1 → (∀ x3 : Int32, x3 = y4 + (1 : Int32) → ((¬ y3 = (-9 : Int32) → (∀ x4 : Int32, x4 = y5 + (1 : Int32) → tn_A Γ 41 [.ref 2, .int y1, .int y2, .int y3, .int x3, .int x4] [] 0 0 ks ρ σ3)) ∧ (y3 = (-9 : Int32) → (∀ x5 : Int32, x5 = y5 + (1 : Int32) → tn_A Γ 41 [.ref 2, .int y1, .int y2, .int y5, .int x3, .int x5] [] 0 0 ks ρ σ3)))))))))))))) : tn_A Γ 41 [.ref 2, .int y1, .int y2, .int y3, .int y4, .int y5] [] 0 0 ks ρ σ := by
  refine tn_iload (pc := 41) hΓ d_X5_claps_41 rfl ?_
  refine tn_aload_n (pc := 43) hΓ d_X5_claps_43 rfl ?_
  refine tn_getRy (y := 3) (pc := 44) hΓ d_X5_claps_44 fl_5_12 rfl (gd_k hG (c := 2) rfl) (gd_r hG 2 0 3 rfl rfl) ?_
  refine tn_cvI (As := []) (st := [.int y5]) (pc := 47) hΓ d_X5_claps_47 mv_X1_setCount im_X1_setCount se_X1_setCount ml_5_164 ⟨⟨by decide, by decide⟩, by decide, by decide⟩ rfl rfl rfl (by decide) ⟨_, rfl⟩ (gp_k hG pb3) (Nat.le_of_ble_eq_true rfl) rfl h (fun r1 σ1 h => ?_)
  refine tn_icmp_ge (tgt := 100) (pc := 50) hΓ d_X5_claps_50 (by decide) (fun hq => ?_) (fun hq => ?_)
  · have h := h.1 hq
    refine tn_iload_n (pc := 100) hΓ d_X5_claps_100 rfl ?_
    refine tn_if_ne (tgt := 109) (pc := 101) hΓ d_X5_claps_101 (by decide) (fun hq => ?_) (fun hq => ?_)
    · have h := h.1 hq
      refine tn_iload_n (pc := 109) hΓ d_X5_claps_109 rfl ?_
      exact tn_ret_i (pc := 110) hΓ hK d_X5_claps_110 rfl (by decide) (by decide) h
    · have h := h.2 hq
      refine tn_iload (pc := 104) hΓ d_X5_claps_104 rfl ?_
      refine tn_goto (tgt := 110) (pc := 106) hΓ d_X5_claps_106 (by decide) ?_
      exact tn_ret_i (pc := 110) hΓ hK d_X5_claps_110 rfl (by decide) (by decide) h
  · have h := h.2 hq
    refine tn_aload_n (pc := 53) hΓ d_X5_claps_53 rfl ?_
    refine tn_getRy (y := 3) (pc := 54) hΓ d_X5_claps_54 fl_5_12 rfl (gd_k hG (c := 2) rfl) (gd_r hG 2 0 3 rfl rfl) ?_
    refine tn_iload (pc := 57) hΓ d_X5_claps_57 rfl ?_
    refine tn_cvI (As := [.int y5]) (st := []) (pc := 59) hΓ d_X5_claps_59 mv_X1_doesSetRankle im_X1_doesSetRankle se_X1_doesSetRankle ml_5_172 ⟨⟨by decide, by decide⟩, by decide, by decide⟩ rfl rfl rfl (by decide) ⟨_, rfl⟩ (gp_k hG pb3) (Nat.le_of_ble_eq_true rfl) rfl h (fun r2 σ2 h => ?_)
    refine tn_if_eq (tgt := 94) (pc := 62) hΓ d_X5_claps_62 (by decide) (fun hq => ?_) (fun hq => ?_)
    · have h := h.1 hq
      refine tn_iincw (loc' := fun v_ => [.ref 2, .int y1, .int y2, .int y3, .int y4, .int v_]) (pc := 94) hΓ d_X5_claps_94 rfl ic_1 (by decide) rfl (fun _ => rfl) (fun x1 ex1 => ?_)
      have h := h x1 ex1
      refine tn_goto (tgt := 41) (pc := 97) hΓ d_X5_claps_97 (by decide) ?_
      exact h
    · have h := h.2 hq
      refine tn_aload_n (pc := 65) hΓ d_X5_claps_65 rfl ?_
      refine tn_getRy (y := 3) (pc := 66) hΓ d_X5_claps_66 fl_5_12 rfl (gd_k hG (c := 2) rfl) (gd_r hG 2 0 3 rfl rfl) ?_
      refine tn_iload (pc := 69) hΓ d_X5_claps_69 rfl ?_
      refine tn_cvI (As := [.int y5]) (st := []) (pc := 71) hΓ d_X5_claps_71 mv_X1_weightOfSet im_X1_weightOfSet se_X1_weightOfSet ml_5_179 ⟨⟨by decide, by decide⟩, by decide, by decide⟩ rfl rfl rfl (by decide) ⟨_, rfl⟩ (gp_k hG pb3) (Nat.le_of_ble_eq_true rfl) rfl h (fun r3 σ3 h => ?_)
      refine tn_iload_n (pc := 74) hΓ d_X5_claps_74 rfl ?_
      refine tn_icmp_ne (tgt := 94) (pc := 75) hΓ d_X5_claps_75 (by decide) (fun hq => ?_) (fun hq => ?_)
      · have h := h.1 hq
        refine tn_iincw (loc' := fun v_ => [.ref 2, .int y1, .int y2, .int y3, .int y4, .int v_]) (pc := 94) hΓ d_X5_claps_94 rfl ic_1 (by decide) rfl (fun _ => rfl) (fun x2 ex2 => ?_)
        have h := h x2 ex2
        refine tn_goto (tgt := 41) (pc := 97) hΓ d_X5_claps_97 (by decide) ?_
        exact h
      · have h := h.2 hq
        refine tn_iincw (loc' := fun v_ => [.ref 2, .int y1, .int y2, .int y3, .int v_, .int y5]) (pc := 78) hΓ d_X5_claps_78 rfl ic_1 (by decide) rfl (fun _ => rfl) (fun x3 ex3 => ?_)
        have h := h x3 ex3
        refine tn_iload_n (pc := 81) hΓ d_X5_claps_81 rfl ?_
        refine tn_bipush (pc := 82) hΓ d_X5_claps_82 bp_m9 ?_
        refine tn_icmp_ne (tgt := 92) (pc := 84) hΓ d_X5_claps_84 (by decide) (fun hq => ?_) (fun hq => ?_)
        · have h := h.1 hq
          refine tn_iload_n (pc := 92) hΓ d_X5_claps_92 rfl ?_
          refine tn_istore_n (loc' := [.ref 2, .int y1, .int y2, .int y3, .int x3, .int y5]) (pc := 93) hΓ d_X5_claps_93 (by decide) rfl rfl ?_
          refine tn_iincw (loc' := fun v_ => [.ref 2, .int y1, .int y2, .int y3, .int x3, .int v_]) (pc := 94) hΓ d_X5_claps_94 rfl ic_1 (by decide) rfl (fun _ => rfl) (fun x4 ex4 => ?_)
          have h := h x4 ex4
          refine tn_goto (tgt := 41) (pc := 97) hΓ d_X5_claps_97 (by decide) ?_
          exact h
        · have h := h.2 hq
          refine tn_iload (pc := 87) hΓ d_X5_claps_87 rfl ?_
          refine tn_goto (tgt := 93) (pc := 89) hΓ d_X5_claps_89 (by decide) ?_
          refine tn_istore_n (loc' := [.ref 2, .int y1, .int y2, .int y5, .int x3, .int y5]) (pc := 93) hΓ d_X5_claps_93 (by decide) rfl rfl ?_
          refine tn_iincw (loc' := fun v_ => [.ref 2, .int y1, .int y2, .int y5, .int x3, .int v_]) (pc := 94) hΓ d_X5_claps_94 rfl ic_1 (by decide) rfl (fun _ => rfl) (fun x5 ex5 => ?_)
          have h := h x5 ex5
          refine tn_goto (tgt := 41) (pc := 97) hΓ d_X5_claps_97 (by decide) ?_
          exact h
theorem k_X5_rests_0 {Γ : tn_G} {ks : List (Nat × Nat)} {ρ : Nat → Nat → Nat} {σ : Nat → Nat → Int32} {K : Option Value → List (Nat × Nat) → (Nat → Nat → Nat) → (Nat → Nat → Int32) → Prop} (hG : tn_Gd ks ρ) (hΓ : tn_is Γ m_X5_rests) (hK : tn_rt Γ m_X5_rests K) (a0 : Int32) (a1 : Int32) (h : tn_CI m_X1_hasHouse [.ref 3, .int a0] ks ρ σ (fun r1 σ1 => ((r1 = 0 → K (some (.int (-1 : Int32))) ks ρ σ1) ∧ (¬ r1 = 0 → tn_CI m_X1_hasHouse [.ref 3, .int a1] ks ρ σ1 (fun r2 σ2 => ((r2 = 0 → K (some (.int (-1 : Int32))) ks ρ σ2) ∧ (¬ r2 = 0 → ((¬ a0 = a1 → tn_A Γ 31 [.ref 2, .int a0, .int a1, .int (0 : Int32), .null] [] 0 0 ks ρ σ2) ∧ (a0 = a1 → K (some (.int (-1 : Int32))) ks ρ σ2))))))))) : tn_A Γ 0 [.ref 2, .int a0, .int a1, .null, .null] [] 0 0 ks ρ σ := by
  refine tn_aload_n (pc := 0) hΓ d_X5_rests_0 rfl ?_
  refine tn_getRy (y := 3) (pc := 1) hΓ d_X5_rests_1 fl_5_12 rfl (gd_k hG (c := 2) rfl) (gd_r hG 2 0 3 rfl rfl) ?_
  refine tn_iload_n (pc := 4) hΓ d_X5_rests_4 rfl ?_
  refine tn_cvI (As := [.int a0]) (st := []) (pc := 5) hΓ d_X5_rests_5 mv_X1_hasHouse im_X1_hasHouse se_X1_hasHouse ml_5_77 ⟨⟨by decide, by decide⟩, by decide, by decide⟩ rfl rfl rfl (by decide) ⟨_, rfl⟩ (gp_k hG pb3) (Nat.le_of_ble_eq_true rfl) rfl h (fun r1 σ1 h => ?_)
  refine tn_if_eq (tgt := 27) (pc := 8) hΓ d_X5_rests_8 (by decide) (fun hq => ?_) (fun hq => ?_)
  · have h := h.1 hq
    refine tn_iconst (pc := 27) hΓ d_X5_rests_27 ic_m1 ?_
    exact tn_ret_i (pc := 28) hΓ hK d_X5_rests_28 rfl (by decide) (by decide) h
  · have h := h.2 hq
    refine tn_aload_n (pc := 11) hΓ d_X5_rests_11 rfl ?_
    refine tn_getRy (y := 3) (pc := 12) hΓ d_X5_rests_12 fl_5_12 rfl (gd_k hG (c := 2) rfl) (gd_r hG 2 0 3 rfl rfl) ?_
    refine tn_iload_n (pc := 15) hΓ d_X5_rests_15 rfl ?_
    refine tn_cvI (As := [.int a1]) (st := []) (pc := 16) hΓ d_X5_rests_16 mv_X1_hasHouse im_X1_hasHouse se_X1_hasHouse ml_5_77 ⟨⟨by decide, by decide⟩, by decide, by decide⟩ rfl rfl rfl (by decide) ⟨_, rfl⟩ (gp_k hG pb3) (Nat.le_of_ble_eq_true rfl) rfl h (fun r2 σ2 h => ?_)
    refine tn_if_eq (tgt := 27) (pc := 19) hΓ d_X5_rests_19 (by decide) (fun hq => ?_) (fun hq => ?_)
    · have h := h.1 hq
      refine tn_iconst (pc := 27) hΓ d_X5_rests_27 ic_m1 ?_
      exact tn_ret_i (pc := 28) hΓ hK d_X5_rests_28 rfl (by decide) (by decide) h
    · have h := h.2 hq
      refine tn_iload_n (pc := 22) hΓ d_X5_rests_22 rfl ?_
      refine tn_iload_n (pc := 23) hΓ d_X5_rests_23 rfl ?_
      refine tn_icmp_ne (tgt := 29) (pc := 24) hΓ d_X5_rests_24 (by decide) (fun hq => ?_) (fun hq => ?_)
      · have h := h.1 hq
        refine tn_iconst (pc := 29) hΓ d_X5_rests_29 ic_0 ?_
        refine tn_istore_n (loc' := [.ref 2, .int a0, .int a1, .int (0 : Int32), .null]) (pc := 30) hΓ d_X5_rests_30 (by decide) rfl rfl ?_
        exact h
      · have h := h.2 hq
        refine tn_iconst (pc := 27) hΓ d_X5_rests_27 ic_m1 ?_
        exact tn_ret_i (pc := 28) hΓ hK d_X5_rests_28 rfl (by decide) (by decide) h
theorem k_X5_rests_31 {Γ : tn_G} {ks : List (Nat × Nat)} {ρ : Nat → Nat → Nat} {σ : Nat → Nat → Int32} {K : Option Value → List (Nat × Nat) → (Nat → Nat → Nat) → (Nat → Nat → Int32) → Prop} (hG : tn_Gd ks ρ) (hΓ : tn_is Γ m_X5_rests) (hK : tn_rt Γ m_X5_rests K) (y1 : Int32) (y2 : Int32) (y3 : Int32) (h : (((4 : Int32) ≤ y3 → tn_A Γ 60 [.ref 2, .int y1, .int y2, .int (0 : Int32), .int (0 : Int32)] [] 0 0 ks ρ σ) ∧ (¬ (4 : Int32) ≤ y3 → tn_CI m_X5_nightsIfChosen [.ref 2, .int y1, .int y2, .int y3] ks ρ σ (fun r1 σ1 => (vp_in y3 4 ∧ (∀ σ2, σ2 = tn_u σ1 30 y3.toNatClampNeg r1 → (∀ x1 : Int32, x1 = y3 + (1 : Int32) → tn_A Γ 31 [.ref 2, .int y1, .int y2, .int x1, .null] [] 0 0 ks ρ σ2))))))) : tn_A Γ 31 [.ref 2, .int y1, .int y2, .int y3, .null] [] 0 0 ks ρ σ := by
  refine tn_iload_n (pc := 31) hΓ d_X5_rests_31 rfl ?_
  refine tn_iconst (pc := 32) hΓ d_X5_rests_32 ic_4 ?_
  refine tn_icmp_ge (tgt := 55) (pc := 33) hΓ d_X5_rests_33 (by decide) (fun hq => ?_) (fun hq => ?_)
  · have h := h.1 hq
    refine tn_iconst (pc := 55) hΓ d_X5_rests_55 ic_0 ?_
    refine tn_istore_n (loc' := [.ref 2, .int y1, .int y2, .int (0 : Int32), .null]) (pc := 56) hΓ d_X5_rests_56 (by decide) rfl rfl ?_
    refine tn_iconst (pc := 57) hΓ d_X5_rests_57 ic_0 ?_
    refine tn_istore (loc' := [.ref 2, .int y1, .int y2, .int (0 : Int32), .int (0 : Int32)]) (pc := 58) hΓ d_X5_rests_58 (by decide) rfl rfl ?_
    exact h
  · have h := h.2 hq
    refine tn_aload_n (pc := 36) hΓ d_X5_rests_36 rfl ?_
    refine tn_getRy (y := 30) (pc := 37) hΓ d_X5_rests_37 fl_5_34 rfl (gd_k hG (c := 2) rfl) (gd_r hG 2 5 30 rfl rfl) ?_
    refine tn_iload_n (pc := 40) hΓ d_X5_rests_40 rfl ?_
    refine tn_aload_n (pc := 41) hΓ d_X5_rests_41 rfl ?_
    refine tn_iload_n (pc := 42) hΓ d_X5_rests_42 rfl ?_
    refine tn_iload_n (pc := 43) hΓ d_X5_rests_43 rfl ?_
    refine tn_iload_n (pc := 44) hΓ d_X5_rests_44 rfl ?_
    refine tn_cvI (As := [.int y1, .int y2, .int y3]) (st := [.int y3, .ref 30]) (pc := 45) hΓ d_X5_rests_45 mv_X5_nightsIfChosen im_X5_nightsIfChosen se_X5_nightsIfChosen ml_5_182 ⟨⟨by decide, by decide⟩, by decide, by decide⟩ rfl rfl rfl (by decide) ⟨_, rfl⟩ (gd_k hG (c := 2) rfl) (Nat.le_of_ble_eq_true rfl) rfl h (fun r1 σ1 h => ?_)
    obtain ⟨hi1, h⟩ := h
    refine tn_ast (pc := 48) hΓ d_X5_rests_48 (gd_k hG (c := 30) rfl) hi1 ?_
    refine tn_tops (fun σ2 eσ2 => ?_)
    have h := h σ2 eσ2
    refine tn_iincw (loc' := fun v_ => [.ref 2, .int y1, .int y2, .int v_, .null]) (pc := 49) hΓ d_X5_rests_49 rfl ic_1 (by decide) rfl (fun _ => rfl) (fun x1 ex1 => ?_)
    have h := h x1 ex1
    refine tn_goto (tgt := 31) (pc := 52) hΓ d_X5_rests_52 (by decide) ?_
    exact h
theorem k_X5_rests_60 {Γ : tn_G} {ks : List (Nat × Nat)} {ρ : Nat → Nat → Nat} {σ : Nat → Nat → Int32} {K : Option Value → List (Nat × Nat) → (Nat → Nat → Nat) → (Nat → Nat → Int32) → Prop} (hG : tn_Gd ks ρ) (hΓ : tn_is Γ m_X5_rests) (hK : tn_rt Γ m_X5_rests K) (y1 : Int32) (y2 : Int32) (y3 : Int32) (y4 : Int32) (h : (((4 : Int32) ≤ y4 → K (some (.int y3)) ks ρ σ) ∧ (¬ (4 : Int32) ≤ y4 → tn_CI m_X5_isContent [.ref 2, .int y1, .int (1 : Int32), .int y4] ks ρ σ (fun r1 σ1 => ((r1 = 0 → (∀ x1 : Int32, x1 = y4 + (1 : Int32) → tn_A Γ 60 [.ref 2, .int y1, .int y2, .int y3, .int x1] [] 0 0 ks ρ σ1)) ∧ (¬ r1 = 0 → tn_CI m_X5_isContent [.ref 2, .int y2, .int (2 : Int32), .int y4] ks ρ σ1 (fun r2 σ2 => ((r2 = 0 → (∀ x2 : Int32, x2 = y4 + (1 : Int32) → tn_A Γ 60 [.ref 2, .int y1, .int y2, .int y3, .int x2] [] 0 0 ks ρ σ2)) ∧ (¬ r2 = 0 → (∀ x3 : Int32, x3 = (y3 ||| ((1 : Int32) <<< (y4 &&& 31))) → (∀ x4 : Int32, x4 = y4 + (1 : Int32) → tn_A Γ 60 [.ref 2, .int y1, .int y2, .int x3, .int x4] [] 0 0 ks ρ σ2))))))))))) : tn_A Γ 60 [.ref 2, .int y1, .int y2, .int y3, .int y4] [] 0 0 ks ρ σ := by
  refine tn_iload (pc := 60) hΓ d_X5_rests_60 rfl ?_
  refine tn_iconst (pc := 62) hΓ d_X5_rests_62 ic_4 ?_
  refine tn_icmp_ge (tgt := 101) (pc := 63) hΓ d_X5_rests_63 (by decide) (fun hq => ?_) (fun hq => ?_)
  · have h := h.1 hq
    refine tn_iload_n (pc := 101) hΓ d_X5_rests_101 rfl ?_
    exact tn_ret_i (pc := 102) hΓ hK d_X5_rests_102 rfl (by decide) (by decide) h
  · have h := h.2 hq
    refine tn_aload_n (pc := 66) hΓ d_X5_rests_66 rfl ?_
    refine tn_iload_n (pc := 67) hΓ d_X5_rests_67 rfl ?_
    refine tn_iconst (pc := 68) hΓ d_X5_rests_68 ic_1 ?_
    refine tn_iload (pc := 69) hΓ d_X5_rests_69 rfl ?_
    refine tn_cvI (As := [.int y1, .int (1 : Int32), .int y4]) (st := []) (pc := 71) hΓ d_X5_rests_71 mv_X5_isContent im_X5_isContent se_X5_isContent ml_5_186 ⟨⟨by decide, by decide⟩, by decide, by decide⟩ rfl rfl rfl (by decide) ⟨_, rfl⟩ (gd_k hG (c := 2) rfl) (Nat.le_of_ble_eq_true rfl) rfl h (fun r1 σ1 h => ?_)
    refine tn_if_eq (tgt := 95) (pc := 74) hΓ d_X5_rests_74 (by decide) (fun hq => ?_) (fun hq => ?_)
    · have h := h.1 hq
      refine tn_iincw (loc' := fun v_ => [.ref 2, .int y1, .int y2, .int y3, .int v_]) (pc := 95) hΓ d_X5_rests_95 rfl ic_1 (by decide) rfl (fun _ => rfl) (fun x1 ex1 => ?_)
      have h := h x1 ex1
      refine tn_goto (tgt := 60) (pc := 98) hΓ d_X5_rests_98 (by decide) ?_
      exact h
    · have h := h.2 hq
      refine tn_aload_n (pc := 77) hΓ d_X5_rests_77 rfl ?_
      refine tn_iload_n (pc := 78) hΓ d_X5_rests_78 rfl ?_
      refine tn_iconst (pc := 79) hΓ d_X5_rests_79 ic_2 ?_
      refine tn_iload (pc := 80) hΓ d_X5_rests_80 rfl ?_
      refine tn_cvI (As := [.int y2, .int (2 : Int32), .int y4]) (st := []) (pc := 82) hΓ d_X5_rests_82 mv_X5_isContent im_X5_isContent se_X5_isContent ml_5_186 ⟨⟨by decide, by decide⟩, by decide, by decide⟩ rfl rfl rfl (by decide) ⟨_, rfl⟩ (gd_k hG (c := 2) rfl) (Nat.le_of_ble_eq_true rfl) rfl h (fun r2 σ2 h => ?_)
      refine tn_if_eq (tgt := 95) (pc := 85) hΓ d_X5_rests_85 (by decide) (fun hq => ?_) (fun hq => ?_)
      · have h := h.1 hq
        refine tn_iincw (loc' := fun v_ => [.ref 2, .int y1, .int y2, .int y3, .int v_]) (pc := 95) hΓ d_X5_rests_95 rfl ic_1 (by decide) rfl (fun _ => rfl) (fun x2 ex2 => ?_)
        have h := h x2 ex2
        refine tn_goto (tgt := 60) (pc := 98) hΓ d_X5_rests_98 (by decide) ?_
        exact h
      · have h := h.2 hq
        refine tn_iload_n (pc := 88) hΓ d_X5_rests_88 rfl ?_
        refine tn_iconst (pc := 89) hΓ d_X5_rests_89 ic_1 ?_
        refine tn_iload (pc := 90) hΓ d_X5_rests_90 rfl ?_
        refine tn_ishl (pc := 92) hΓ d_X5_rests_92 ?_
        refine tn_ior (pc := 93) hΓ d_X5_rests_93 ?_
        refine tn_topi (fun x3 ex3 => ?_)
        have h := h x3 ex3
        refine tn_istore_n (loc' := [.ref 2, .int y1, .int y2, .int x3, .int y4]) (pc := 94) hΓ d_X5_rests_94 (by decide) rfl rfl ?_
        refine tn_iincw (loc' := fun v_ => [.ref 2, .int y1, .int y2, .int x3, .int v_]) (pc := 95) hΓ d_X5_rests_95 rfl ic_1 (by decide) rfl (fun _ => rfl) (fun x4 ex4 => ?_)
        have h := h x4 ex4
        refine tn_goto (tgt := 60) (pc := 98) hΓ d_X5_rests_98 (by decide) ?_
        exact h
theorem k_X5_reading_0 {Γ : tn_G} {ks : List (Nat × Nat)} {ρ : Nat → Nat → Nat} {σ : Nat → Nat → Int32} {K : Option Value → List (Nat × Nat) → (Nat → Nat → Nat) → (Nat → Nat → Int32) → Prop} (hG : tn_Gd ks ρ) (hΓ : tn_is Γ m_X5_reading) (hK : tn_rt Γ m_X5_reading K) (a0 : Int32) (a1 : Int32) (h : tn_CI m_X5_hasParish [.ref 2] ks ρ σ (fun r1 σ1 => ((¬ r1 = 0 → tn_CI m_X5_isWithin [.int a0, .int (0 : Int32), .int (60 : Int32)] ks ρ σ1 (fun r2 σ2 => ((r2 = 0 → K (some (.int (-2 : Int32))) ks ρ σ2) ∧ (¬ r2 = 0 → tn_CI m_X5_isWithin [.int a1, .int (0 : Int32), .int (200 : Int32)] ks ρ σ2 (fun r3 σ3 => ((¬ r3 = 0 → (((σ3 2 6) < (8 : Int32) → (vp_in (σ3 2 6) 8 ∧ (∀ σ4, σ4 = tn_u σ3 28 (σ3 2 6).toNatClampNeg (if (18 : Int32) < a0 then (18 : Int32) else a0) → (vp_in (σ4 2 6) 8 ∧ (∀ σ5, σ5 = tn_u σ4 29 (σ4 2 6).toNatClampNeg a1 → (∀ σ6, σ6 = tn_u σ5 2 6 ((σ5 2 6) + (1 : Int32)) → K (some (.int ((σ6 2 6) - (1 : Int32)))) ks ρ σ6)))))) ∧ (¬ (σ3 2 6) < (8 : Int32) → K (some (.int (-4 : Int32))) ks ρ σ3))) ∧ (r3 = 0 → K (some (.int (-2 : Int32))) ks ρ σ3))))))) ∧ (r1 = 0 → K (some (.int (-3 : Int32))) ks ρ σ1)))) : tn_A Γ 0 [.ref 2, .int a0, .int a1] [] 0 0 ks ρ σ := by
  refine tn_aload_n (pc := 0) hΓ d_X5_reading_0 rfl ?_
  refine tn_cvI (As := []) (st := []) (pc := 1) hΓ d_X5_reading_1 mv_X5_hasParish im_X5_hasParish se_X5_hasParish ml_5_135 ⟨⟨by decide, by decide⟩, by decide, by decide⟩ rfl rfl rfl (by decide) ⟨_, rfl⟩ (gd_k hG (c := 2) rfl) (Nat.le_of_ble_eq_true rfl) rfl h (fun r1 σ1 h => ?_)
  refine tn_if_ne (tgt := 10) (pc := 4) hΓ d_X5_reading_4 (by decide) (fun hq => ?_) (fun hq => ?_)
  · have h := h.1 hq
    refine tn_iload_n (pc := 10) hΓ d_X5_reading_10 rfl ?_
    refine tn_iconst (pc := 11) hΓ d_X5_reading_11 ic_0 ?_
    refine tn_bipush (pc := 12) hΓ d_X5_reading_12 bp_60 ?_
    refine tn_csI (As := [.int a0, .int (0 : Int32), .int (60 : Int32)]) (st := []) (pc := 14) hΓ d_X5_reading_14 mv_X5_isWithin st_X5_isWithin ml_5_125 ⟨⟨by decide, by decide⟩, by decide, by decide⟩ rfl rfl rfl (Nat.le_of_ble_eq_true rfl) rfl h (fun r2 σ2 h => ?_)
    refine tn_if_eq (tgt := 31) (pc := 17) hΓ d_X5_reading_17 (by decide) (fun hq => ?_) (fun hq => ?_)
    · have h := h.1 hq
      refine tn_bipush (pc := 31) hΓ d_X5_reading_31 bp_m2 ?_
      exact tn_ret_i (pc := 33) hΓ hK d_X5_reading_33 rfl (by decide) (by decide) h
    · have h := h.2 hq
      refine tn_iload_n (pc := 20) hΓ d_X5_reading_20 rfl ?_
      refine tn_iconst (pc := 21) hΓ d_X5_reading_21 ic_0 ?_
      refine tn_sipush (pc := 22) hΓ d_X5_reading_22 sp_200 ?_
      refine tn_csI (As := [.int a1, .int (0 : Int32), .int (200 : Int32)]) (st := []) (pc := 25) hΓ d_X5_reading_25 mv_X5_isWithin st_X5_isWithin ml_5_125 ⟨⟨by decide, by decide⟩, by decide, by decide⟩ rfl rfl rfl (Nat.le_of_ble_eq_true rfl) rfl h (fun r3 σ3 h => ?_)
      refine tn_if_ne (tgt := 34) (pc := 28) hΓ d_X5_reading_28 (by decide) (fun hq => ?_) (fun hq => ?_)
      · have h := h.1 hq
        refine tn_aload_n (pc := 34) hΓ d_X5_reading_34 rfl ?_
        refine tn_getI (pc := 35) hΓ d_X5_reading_35 fl_5_37 rfl (gd_k hG (c := 2) rfl) ?_
        refine tn_bipush (pc := 38) hΓ d_X5_reading_38 bp_8 ?_
        refine tn_icmp_lt (tgt := 46) (pc := 40) hΓ d_X5_reading_40 (by decide) (fun hq => ?_) (fun hq => ?_)
        · have h := h.1 hq
          refine tn_aload_n (pc := 46) hΓ d_X5_reading_46 rfl ?_
          refine tn_getRy (y := 28) (pc := 47) hΓ d_X5_reading_47 fl_5_27 rfl (gd_k hG (c := 2) rfl) (gd_r hG 2 3 28 rfl rfl) ?_
          refine tn_aload_n (pc := 50) hΓ d_X5_reading_50 rfl ?_
          refine tn_getI (pc := 51) hΓ d_X5_reading_51 fl_5_37 rfl (gd_k hG (c := 2) rfl) ?_
          refine tn_iload_n (pc := 54) hΓ d_X5_reading_54 rfl ?_
          refine tn_bipush (pc := 55) hΓ d_X5_reading_55 bp_18 ?_
          refine tn_mmin (pc := 57) hΓ d_X5_reading_57 ⟨mm_5_189.1, by decide, Nat.le_of_ble_eq_true rfl, by decide, by decide⟩ ?_
          obtain ⟨hi1, h⟩ := h
          refine tn_ast (pc := 60) hΓ d_X5_reading_60 (gd_k hG (c := 28) rfl) hi1 ?_
          refine tn_tops (fun σ4 eσ4 => ?_)
          have h := h σ4 eσ4
          refine tn_aload_n (pc := 61) hΓ d_X5_reading_61 rfl ?_
          refine tn_getRy (y := 29) (pc := 62) hΓ d_X5_reading_62 fl_5_31 rfl (gd_k hG (c := 2) rfl) (gd_r hG 2 4 29 rfl rfl) ?_
          refine tn_aload_n (pc := 65) hΓ d_X5_reading_65 rfl ?_
          refine tn_getI (pc := 66) hΓ d_X5_reading_66 fl_5_37 rfl (gd_k hG (c := 2) rfl) ?_
          refine tn_iload_n (pc := 69) hΓ d_X5_reading_69 rfl ?_
          obtain ⟨hi2, h⟩ := h
          refine tn_ast (pc := 70) hΓ d_X5_reading_70 (gd_k hG (c := 29) rfl) hi2 ?_
          refine tn_tops (fun σ5 eσ5 => ?_)
          have h := h σ5 eσ5
          refine tn_aload_n (pc := 71) hΓ d_X5_reading_71 rfl ?_
          refine tn_dupr (pc := 72) hΓ d_X5_reading_72 ?_
          refine tn_getI (pc := 73) hΓ d_X5_reading_73 fl_5_37 rfl (gd_k hG (c := 2) rfl) ?_
          refine tn_iconst (pc := 76) hΓ d_X5_reading_76 ic_1 ?_
          refine tn_iadd (pc := 77) hΓ d_X5_reading_77 ?_
          refine tn_putI (pc := 78) hΓ d_X5_reading_78 fl_5_37 fk_5_5_6 rfl (gd_k hG (c := 2) rfl)  ?_
          refine tn_tops (fun σ6 eσ6 => ?_)
          have h := h σ6 eσ6
          refine tn_aload_n (pc := 81) hΓ d_X5_reading_81 rfl ?_
          refine tn_getI (pc := 82) hΓ d_X5_reading_82 fl_5_37 rfl (gd_k hG (c := 2) rfl) ?_
          refine tn_iconst (pc := 85) hΓ d_X5_reading_85 ic_1 ?_
          refine tn_isub (pc := 86) hΓ d_X5_reading_86 ?_
          exact tn_ret_i (pc := 87) hΓ hK d_X5_reading_87 rfl (by decide) (by decide) h
        · have h := h.2 hq
          refine tn_bipush (pc := 43) hΓ d_X5_reading_43 bp_m4 ?_
          exact tn_ret_i (pc := 45) hΓ hK d_X5_reading_45 rfl (by decide) (by decide) h
      · have h := h.2 hq
        refine tn_bipush (pc := 31) hΓ d_X5_reading_31 bp_m2 ?_
        exact tn_ret_i (pc := 33) hΓ hK d_X5_reading_33 rfl (by decide) (by decide) h
  · have h := h.2 hq
    refine tn_bipush (pc := 7) hΓ d_X5_reading_7 bp_m3 ?_
    exact tn_ret_i (pc := 9) hΓ hK d_X5_reading_9 rfl (by decide) (by decide) h
theorem k_X5_back_0 {Γ : tn_G} {ks : List (Nat × Nat)} {ρ : Nat → Nat → Nat} {σ : Nat → Nat → Int32} {K : Option Value → List (Nat × Nat) → (Nat → Nat → Nat) → (Nat → Nat → Int32) → Prop} (hG : tn_Gd ks ρ) (hΓ : tn_is Γ m_X5_back) (hK : tn_rt Γ m_X5_back K) (a0 : Int32) (h : tn_CI m_X5_isWithin [.int a0, .int (0 : Int32), .int (σ 2 6)] ks ρ σ (fun r1 σ1 => ((¬ r1 = 0 → (∀ σ2, σ2 = tn_u σ1 2 6 ((σ1 2 6) - a0) → K (some (.int (σ2 2 6))) ks ρ σ2)) ∧ (r1 = 0 → K (some (.int (-2 : Int32))) ks ρ σ1)))) : tn_A Γ 0 [.ref 2, .int a0] [] 0 0 ks ρ σ := by
  refine tn_iload_n (pc := 0) hΓ d_X5_back_0 rfl ?_
  refine tn_iconst (pc := 1) hΓ d_X5_back_1 ic_0 ?_
  refine tn_aload_n (pc := 2) hΓ d_X5_back_2 rfl ?_
  refine tn_getI (pc := 3) hΓ d_X5_back_3 fl_5_37 rfl (gd_k hG (c := 2) rfl) ?_
  refine tn_csI (As := [.int a0, .int (0 : Int32), .int (σ 2 6)]) (st := []) (pc := 6) hΓ d_X5_back_6 mv_X5_isWithin st_X5_isWithin ml_5_125 ⟨⟨by decide, by decide⟩, by decide, by decide⟩ rfl rfl rfl (Nat.le_of_ble_eq_true rfl) rfl h (fun r1 σ1 h => ?_)
  refine tn_if_ne (tgt := 15) (pc := 9) hΓ d_X5_back_9 (by decide) (fun hq => ?_) (fun hq => ?_)
  · have h := h.1 hq
    refine tn_aload_n (pc := 15) hΓ d_X5_back_15 rfl ?_
    refine tn_dupr (pc := 16) hΓ d_X5_back_16 ?_
    refine tn_getI (pc := 17) hΓ d_X5_back_17 fl_5_37 rfl (gd_k hG (c := 2) rfl) ?_
    refine tn_iload_n (pc := 20) hΓ d_X5_back_20 rfl ?_
    refine tn_isub (pc := 21) hΓ d_X5_back_21 ?_
    refine tn_putI (pc := 22) hΓ d_X5_back_22 fl_5_37 fk_5_5_6 rfl (gd_k hG (c := 2) rfl)  ?_
    refine tn_tops (fun σ2 eσ2 => ?_)
    have h := h σ2 eσ2
    refine tn_aload_n (pc := 25) hΓ d_X5_back_25 rfl ?_
    refine tn_getI (pc := 26) hΓ d_X5_back_26 fl_5_37 rfl (gd_k hG (c := 2) rfl) ?_
    exact tn_ret_i (pc := 29) hΓ hK d_X5_back_29 rfl (by decide) (by decide) h
  · have h := h.2 hq
    refine tn_bipush (pc := 12) hΓ d_X5_back_12 bp_m2 ?_
    exact tn_ret_i (pc := 14) hΓ hK d_X5_back_14 rfl (by decide) (by decide) h
