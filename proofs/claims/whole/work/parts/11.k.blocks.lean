-- X6_copy X6_begins X6_tell X6_knock X6_as X6_trace X6_fault X6_many
theorem k_X6_copy_0 {Γ : tn_G} {ks : List (Nat × Nat)} {ρ : Nat → Nat → Nat} {σ : Nat → Nat → Int32} {K : Option Value → List (Nat × Nat) → (Nat → Nat → Nat) → (Nat → Nat → Int32) → Prop} (hG : tn_Gd ks ρ) (hΓ : tn_is Γ m_X6_copy) (hK : tn_rt Γ m_X6_copy K) (a0 : Int32) (a1 : Int32) (a2 : Int32) (a3 : Int32) (a4 : Int32) (h : (∀ σ1, σ1 = tn_u σ 39 0 (0 : Int32) → tn_CI m_X6_isSheet [.int a0] ks ρ σ1 (fun r1 σ2 => ((r1 = 0 → K (some (.int (-1 : Int32))) ks ρ σ2) ∧ (¬ r1 = 0 → tn_CI m_X6_isSheet [.int a2] ks ρ σ2 (fun r2 σ3 => ((¬ r2 = 0 → (vp_in a0 4 ∧ (((σ3 40 a0.toNatClampNeg) = (-9 : Int32) → tn_CI m_X6_fails [.ref 39, .int (1 : Int32)] ks ρ σ3 (fun r3 σ4 => K (some (.int r3)) ks ρ σ4)) ∧ (¬ (σ3 40 a0.toNatClampNeg) = (-9 : Int32) → (vp_in a2 4 ∧ ((¬ (σ3 40 a2.toNatClampNeg) = (-9 : Int32) → (((σ3 40 a0.toNatClampNeg) = (σ3 40 a2.toNatClampNeg) → ((a1 < 0 → tn_A Γ 110 [.ref 39, .int a0, .int a1, .int a2, .int a3, .int a4, .null, .null, .null, .null] [.int (0 : Int32)] 0 0 ks ρ σ3) ∧ (¬ a1 < 0 → ((a3 < 0 → tn_A Γ 110 [.ref 39, .int a0, .int a1, .int a2, .int a3, .int a4, .null, .null, .null, .null] [.int (0 : Int32)] 0 0 ks ρ σ3) ∧ (¬ a3 < 0 → ((a4 < 0 → tn_A Γ 110 [.ref 39, .int a0, .int a1, .int a2, .int a3, .int a4, .null, .null, .null, .null] [.int (0 : Int32)] 0 0 ks ρ σ3) ∧ (¬ a4 < 0 → (((σ3 41 a0.toNatClampNeg) < a1 → tn_A Γ 110 [.ref 39, .int a0, .int a1, .int a2, .int a3, .int a4, .null, .null, .null, .null] [.int (0 : Int32)] 0 0 ks ρ σ3) ∧ (¬ (σ3 41 a0.toNatClampNeg) < a1 → (((σ3 41 a2.toNatClampNeg) < a3 → tn_A Γ 110 [.ref 39, .int a0, .int a1, .int a2, .int a3, .int a4, .null, .null, .null, .null] [.int (0 : Int32)] 0 0 ks ρ σ3) ∧ (¬ (σ3 41 a2.toNatClampNeg) < a3 → tn_A Γ 110 [.ref 39, .int a0, .int a1, .int a2, .int a3, .int a4, .null, .null, .null, .null] [.int (1 : Int32)] 0 0 ks ρ σ3))))))))))) ∧ (¬ (σ3 40 a0.toNatClampNeg) = (σ3 40 a2.toNatClampNeg) → tn_CI m_X6_fails [.ref 39, .int (2 : Int32)] ks ρ σ3 (fun r4 σ5 => K (some (.int r4)) ks ρ σ5)))) ∧ ((σ3 40 a2.toNatClampNeg) = (-9 : Int32) → tn_CI m_X6_fails [.ref 39, .int (1 : Int32)] ks ρ σ3 (fun r5 σ6 => K (some (.int r5)) ks ρ σ6)))))))) ∧ (r2 = 0 → K (some (.int (-1 : Int32))) ks ρ σ3)))))))) : tn_A Γ 0 [.ref 39, .int a0, .int a1, .int a2, .int a3, .int a4, .null, .null, .null, .null] [] 0 0 ks ρ σ := by
  refine tn_aload_n (pc := 0) hΓ d_X6_copy_0 rfl ?_
  refine tn_iconst (pc := 1) hΓ d_X6_copy_1 ic_0 ?_
  refine tn_putI (pc := 2) hΓ d_X6_copy_2 fl_6_52 fk_6_6_0 rfl (gd_k hG (c := 39) rfl)  ?_
  refine tn_tops (fun σ1 eσ1 => ?_)
  have h := h σ1 eσ1
  refine tn_iload_n (pc := 5) hΓ d_X6_copy_5 rfl ?_
  refine tn_csI (As := [.int a0]) (st := []) (pc := 6) hΓ d_X6_copy_6 mv_X6_isSheet st_X6_isSheet ml_6_71 ⟨⟨by decide, by decide⟩, by decide, by decide⟩ rfl rfl rfl (Nat.le_of_ble_eq_true rfl) rfl h (fun r1 σ2 h => ?_)
  refine tn_if_eq (tgt := 19) (pc := 9) hΓ d_X6_copy_9 (by decide) (fun hq => ?_) (fun hq => ?_)
  · have h := h.1 hq
    refine tn_iconst (pc := 19) hΓ d_X6_copy_19 ic_m1 ?_
    exact tn_ret_i (pc := 20) hΓ hK d_X6_copy_20 rfl (by decide) (by decide) h
  · have h := h.2 hq
    refine tn_iload_n (pc := 12) hΓ d_X6_copy_12 rfl ?_
    refine tn_csI (As := [.int a2]) (st := []) (pc := 13) hΓ d_X6_copy_13 mv_X6_isSheet st_X6_isSheet ml_6_71 ⟨⟨by decide, by decide⟩, by decide, by decide⟩ rfl rfl rfl (Nat.le_of_ble_eq_true rfl) rfl h (fun r2 σ3 h => ?_)
    refine tn_if_ne (tgt := 21) (pc := 16) hΓ d_X6_copy_16 (by decide) (fun hq => ?_) (fun hq => ?_)
    · have h := h.1 hq
      refine tn_aload_n (pc := 21) hΓ d_X6_copy_21 rfl ?_
      refine tn_getRy (y := 40) (pc := 22) hΓ d_X6_copy_22 fl_6_9 rfl (gd_k hG (c := 39) rfl) (gd_r hG 39 2 40 rfl rfl) ?_
      refine tn_iload_n (pc := 25) hΓ d_X6_copy_25 rfl ?_
      obtain ⟨hi1, h⟩ := h
      refine tn_ald (pc := 26) hΓ d_X6_copy_26 (gd_k hG (c := 40) rfl) hi1 ?_
      refine tn_bipush (pc := 27) hΓ d_X6_copy_27 bp_m9 ?_
      refine tn_icmp_eq (tgt := 43) (pc := 29) hΓ d_X6_copy_29 (by decide) (fun hq => ?_) (fun hq => ?_)
      · have h := h.1 hq
        refine tn_aload_n (pc := 43) hΓ d_X6_copy_43 rfl ?_
        refine tn_iconst (pc := 44) hΓ d_X6_copy_44 ic_1 ?_
        refine tn_cvI (As := [.int (1 : Int32)]) (st := []) (pc := 45) hΓ d_X6_copy_45 mv_X6_fails im_X6_fails se_X6_fails ml_6_82 ⟨⟨by decide, by decide⟩, by decide, by decide⟩ rfl rfl rfl (by decide) ⟨_, rfl⟩ (gd_k hG (c := 39) rfl) (Nat.le_of_ble_eq_true rfl) rfl h (fun r3 σ4 h => ?_)
        exact tn_ret_i (pc := 48) hΓ hK d_X6_copy_48 rfl (by decide) (by decide) h
      · have h := h.2 hq
        refine tn_aload_n (pc := 32) hΓ d_X6_copy_32 rfl ?_
        refine tn_getRy (y := 40) (pc := 33) hΓ d_X6_copy_33 fl_6_9 rfl (gd_k hG (c := 39) rfl) (gd_r hG 39 2 40 rfl rfl) ?_
        refine tn_iload_n (pc := 36) hΓ d_X6_copy_36 rfl ?_
        obtain ⟨hi2, h⟩ := h
        refine tn_ald (pc := 37) hΓ d_X6_copy_37 (gd_k hG (c := 40) rfl) hi2 ?_
        refine tn_bipush (pc := 38) hΓ d_X6_copy_38 bp_m9 ?_
        refine tn_icmp_ne (tgt := 49) (pc := 40) hΓ d_X6_copy_40 (by decide) (fun hq => ?_) (fun hq => ?_)
        · have h := h.1 hq
          refine tn_aload_n (pc := 49) hΓ d_X6_copy_49 rfl ?_
          refine tn_getRy (y := 40) (pc := 50) hΓ d_X6_copy_50 fl_6_9 rfl (gd_k hG (c := 39) rfl) (gd_r hG 39 2 40 rfl rfl) ?_
          refine tn_iload_n (pc := 53) hΓ d_X6_copy_53 rfl ?_
          refine tn_ald (pc := 54) hΓ d_X6_copy_54 (gd_k hG (c := 40) rfl) hi1 ?_
          refine tn_aload_n (pc := 55) hΓ d_X6_copy_55 rfl ?_
          refine tn_getRy (y := 40) (pc := 56) hΓ d_X6_copy_56 fl_6_9 rfl (gd_k hG (c := 39) rfl) (gd_r hG 39 2 40 rfl rfl) ?_
          refine tn_iload_n (pc := 59) hΓ d_X6_copy_59 rfl ?_
          refine tn_ald (pc := 60) hΓ d_X6_copy_60 (gd_k hG (c := 40) rfl) hi2 ?_
          refine tn_icmp_eq (tgt := 70) (pc := 61) hΓ d_X6_copy_61 (by decide) (fun hq => ?_) (fun hq => ?_)
          · have h := h.1 hq
            refine tn_iload_n (pc := 70) hΓ d_X6_copy_70 rfl ?_
            refine tn_if_lt (tgt := 109) (pc := 71) hΓ d_X6_copy_71 (by decide) (fun hq => ?_) (fun hq => ?_)
            · have h := h.1 hq
              refine tn_iconst (pc := 109) hΓ d_X6_copy_109 ic_0 ?_
              exact h
            · have h := h.2 hq
              refine tn_iload (pc := 74) hΓ d_X6_copy_74 rfl ?_
              refine tn_if_lt (tgt := 109) (pc := 76) hΓ d_X6_copy_76 (by decide) (fun hq => ?_) (fun hq => ?_)
              · have h := h.1 hq
                refine tn_iconst (pc := 109) hΓ d_X6_copy_109 ic_0 ?_
                exact h
              · have h := h.2 hq
                refine tn_iload (pc := 79) hΓ d_X6_copy_79 rfl ?_
                refine tn_if_lt (tgt := 109) (pc := 81) hΓ d_X6_copy_81 (by decide) (fun hq => ?_) (fun hq => ?_)
                · have h := h.1 hq
                  refine tn_iconst (pc := 109) hΓ d_X6_copy_109 ic_0 ?_
                  exact h
                · have h := h.2 hq
                  refine tn_iload_n (pc := 84) hΓ d_X6_copy_84 rfl ?_
                  refine tn_aload_n (pc := 85) hΓ d_X6_copy_85 rfl ?_
                  refine tn_getRy (y := 41) (pc := 86) hΓ d_X6_copy_86 fl_6_13 rfl (gd_k hG (c := 39) rfl) (gd_r hG 39 3 41 rfl rfl) ?_
                  refine tn_iload_n (pc := 89) hΓ d_X6_copy_89 rfl ?_
                  refine tn_ald (pc := 90) hΓ d_X6_copy_90 (gd_k hG (c := 41) rfl) hi1 ?_
                  refine tn_icmp_gt (tgt := 109) (pc := 91) hΓ d_X6_copy_91 (by decide) (fun hq => ?_) (fun hq => ?_)
                  · have h := h.1 hq
                    refine tn_iconst (pc := 109) hΓ d_X6_copy_109 ic_0 ?_
                    exact h
                  · have h := h.2 hq
                    refine tn_iload (pc := 94) hΓ d_X6_copy_94 rfl ?_
                    refine tn_aload_n (pc := 96) hΓ d_X6_copy_96 rfl ?_
                    refine tn_getRy (y := 41) (pc := 97) hΓ d_X6_copy_97 fl_6_13 rfl (gd_k hG (c := 39) rfl) (gd_r hG 39 3 41 rfl rfl) ?_
                    refine tn_iload_n (pc := 100) hΓ d_X6_copy_100 rfl ?_
                    refine tn_ald (pc := 101) hΓ d_X6_copy_101 (gd_k hG (c := 41) rfl) hi2 ?_
                    refine tn_icmp_gt (tgt := 109) (pc := 102) hΓ d_X6_copy_102 (by decide) (fun hq => ?_) (fun hq => ?_)
                    · have h := h.1 hq
                      refine tn_iconst (pc := 109) hΓ d_X6_copy_109 ic_0 ?_
                      exact h
                    · have h := h.2 hq
                      refine tn_iconst (pc := 105) hΓ d_X6_copy_105 ic_1 ?_
                      refine tn_goto (tgt := 110) (pc := 106) hΓ d_X6_copy_106 (by decide) ?_
                      exact h
          · have h := h.2 hq
            refine tn_aload_n (pc := 64) hΓ d_X6_copy_64 rfl ?_
            refine tn_iconst (pc := 65) hΓ d_X6_copy_65 ic_2 ?_
            refine tn_cvI (As := [.int (2 : Int32)]) (st := []) (pc := 66) hΓ d_X6_copy_66 mv_X6_fails im_X6_fails se_X6_fails ml_6_82 ⟨⟨by decide, by decide⟩, by decide, by decide⟩ rfl rfl rfl (by decide) ⟨_, rfl⟩ (gd_k hG (c := 39) rfl) (Nat.le_of_ble_eq_true rfl) rfl h (fun r4 σ5 h => ?_)
            exact tn_ret_i (pc := 69) hΓ hK d_X6_copy_69 rfl (by decide) (by decide) h
        · have h := h.2 hq
          refine tn_aload_n (pc := 43) hΓ d_X6_copy_43 rfl ?_
          refine tn_iconst (pc := 44) hΓ d_X6_copy_44 ic_1 ?_
          refine tn_cvI (As := [.int (1 : Int32)]) (st := []) (pc := 45) hΓ d_X6_copy_45 mv_X6_fails im_X6_fails se_X6_fails ml_6_82 ⟨⟨by decide, by decide⟩, by decide, by decide⟩ rfl rfl rfl (by decide) ⟨_, rfl⟩ (gd_k hG (c := 39) rfl) (Nat.le_of_ble_eq_true rfl) rfl h (fun r5 σ6 h => ?_)
          exact tn_ret_i (pc := 48) hΓ hK d_X6_copy_48 rfl (by decide) (by decide) h
    · have h := h.2 hq
      refine tn_iconst (pc := 19) hΓ d_X6_copy_19 ic_m1 ?_
      exact tn_ret_i (pc := 20) hΓ hK d_X6_copy_20 rfl (by decide) (by decide) h
theorem k_X6_copy_110 {Γ : tn_G} {ks : List (Nat × Nat)} {ρ : Nat → Nat → Nat} {σ : Nat → Nat → Int32} {K : Option Value → List (Nat × Nat) → (Nat → Nat → Nat) → (Nat → Nat → Int32) → Prop} (hG : tn_Gd ks ρ) (hΓ : tn_is Γ m_X6_copy) (hK : tn_rt Γ m_X6_copy K) (y1 : Int32) (y2 : Int32) (y3 : Int32) (y4 : Int32) (y5 : Int32) (w0 : Int32) (h : ((w0 = 0 → tn_CI m_X6_fails [.ref 39, .int (3 : Int32)] ks ρ σ (fun r1 σ1 => K (some (.int r1)) ks ρ σ1)) ∧ (¬ w0 = 0 → (vp_in y1 4 ∧ ((((σ 41 y1.toNatClampNeg) - y2) < y5 → tn_CI m_X6_fails [.ref 39, .int (3 : Int32)] ks ρ σ (fun r2 σ2 => K (some (.int r2)) ks ρ σ2)) ∧ (¬ ((σ 41 y1.toNatClampNeg) - y2) < y5 → (vp_in y3 4 ∧ ((y5 ≤ ((σ 41 y3.toNatClampNeg) - y4) → ((y4 ≤ y2 → tn_A Γ 161 [.ref 39, .int y1, .int y2, .int y3, .int y4, .int y5, .null, .null, .null, .null] [.int (0 : Int32)] 0 0 ks ρ σ) ∧ (¬ y4 ≤ y2 → tn_A Γ 161 [.ref 39, .int y1, .int y2, .int y3, .int y4, .int y5, .null, .null, .null, .null] [.int (1 : Int32)] 0 0 ks ρ σ))) ∧ (¬ y5 ≤ ((σ 41 y3.toNatClampNeg) - y4) → tn_CI m_X6_fails [.ref 39, .int (3 : Int32)] ks ρ σ (fun r3 σ3 => K (some (.int r3)) ks ρ σ3)))))))))) : tn_A Γ 110 [.ref 39, .int y1, .int y2, .int y3, .int y4, .int y5, .null, .null, .null, .null] [.int w0] 0 0 ks ρ σ := by
  refine tn_istore (loc' := [.ref 39, .int y1, .int y2, .int y3, .int y4, .int y5, .int w0, .null, .null, .null]) (pc := 110) hΓ d_X6_copy_110 (by decide) rfl rfl ?_
  refine tn_iload (pc := 112) hΓ d_X6_copy_112 rfl ?_
  refine tn_if_eq (tgt := 144) (pc := 114) hΓ d_X6_copy_114 (by decide) (fun hq => ?_) (fun hq => ?_)
  · have h := h.1 hq
    refine tn_aload_n (pc := 144) hΓ d_X6_copy_144 rfl ?_
    refine tn_iconst (pc := 145) hΓ d_X6_copy_145 ic_3 ?_
    refine tn_cvI (As := [.int (3 : Int32)]) (st := []) (pc := 146) hΓ d_X6_copy_146 mv_X6_fails im_X6_fails se_X6_fails ml_6_82 ⟨⟨by decide, by decide⟩, by decide, by decide⟩ rfl rfl rfl (by decide) ⟨_, rfl⟩ (gd_k hG (c := 39) rfl) (Nat.le_of_ble_eq_true rfl) rfl h (fun r1 σ1 h => ?_)
    exact tn_ret_i (pc := 149) hΓ hK d_X6_copy_149 rfl (by decide) (by decide) h
  · have h := h.2 hq
    refine tn_iload (pc := 117) hΓ d_X6_copy_117 rfl ?_
    refine tn_aload_n (pc := 119) hΓ d_X6_copy_119 rfl ?_
    refine tn_getRy (y := 41) (pc := 120) hΓ d_X6_copy_120 fl_6_13 rfl (gd_k hG (c := 39) rfl) (gd_r hG 39 3 41 rfl rfl) ?_
    refine tn_iload_n (pc := 123) hΓ d_X6_copy_123 rfl ?_
    obtain ⟨hi1, h⟩ := h
    refine tn_ald (pc := 124) hΓ d_X6_copy_124 (gd_k hG (c := 41) rfl) hi1 ?_
    refine tn_iload_n (pc := 125) hΓ d_X6_copy_125 rfl ?_
    refine tn_isub (pc := 126) hΓ d_X6_copy_126 ?_
    refine tn_icmp_gt (tgt := 144) (pc := 127) hΓ d_X6_copy_127 (by decide) (fun hq => ?_) (fun hq => ?_)
    · have h := h.1 hq
      refine tn_aload_n (pc := 144) hΓ d_X6_copy_144 rfl ?_
      refine tn_iconst (pc := 145) hΓ d_X6_copy_145 ic_3 ?_
      refine tn_cvI (As := [.int (3 : Int32)]) (st := []) (pc := 146) hΓ d_X6_copy_146 mv_X6_fails im_X6_fails se_X6_fails ml_6_82 ⟨⟨by decide, by decide⟩, by decide, by decide⟩ rfl rfl rfl (by decide) ⟨_, rfl⟩ (gd_k hG (c := 39) rfl) (Nat.le_of_ble_eq_true rfl) rfl h (fun r2 σ2 h => ?_)
      exact tn_ret_i (pc := 149) hΓ hK d_X6_copy_149 rfl (by decide) (by decide) h
    · have h := h.2 hq
      refine tn_iload (pc := 130) hΓ d_X6_copy_130 rfl ?_
      refine tn_aload_n (pc := 132) hΓ d_X6_copy_132 rfl ?_
      refine tn_getRy (y := 41) (pc := 133) hΓ d_X6_copy_133 fl_6_13 rfl (gd_k hG (c := 39) rfl) (gd_r hG 39 3 41 rfl rfl) ?_
      refine tn_iload_n (pc := 136) hΓ d_X6_copy_136 rfl ?_
      obtain ⟨hi2, h⟩ := h
      refine tn_ald (pc := 137) hΓ d_X6_copy_137 (gd_k hG (c := 41) rfl) hi2 ?_
      refine tn_iload (pc := 138) hΓ d_X6_copy_138 rfl ?_
      refine tn_isub (pc := 140) hΓ d_X6_copy_140 ?_
      refine tn_icmp_le (tgt := 150) (pc := 141) hΓ d_X6_copy_141 (by decide) (fun hq => ?_) (fun hq => ?_)
      · have h := h.1 hq
        refine tn_iload_n (pc := 150) hΓ d_X6_copy_150 rfl ?_
        refine tn_iload (pc := 151) hΓ d_X6_copy_151 rfl ?_
        refine tn_icmp_ge (tgt := 160) (pc := 153) hΓ d_X6_copy_153 (by decide) (fun hq => ?_) (fun hq => ?_)
        · have h := h.1 hq
          refine tn_iconst (pc := 160) hΓ d_X6_copy_160 ic_0 ?_
          refine tn_drop [true, true, true, true, true, true, false, false, false, false] (loc' := [.ref 39, .int y1, .int y2, .int y3, .int y4, .int y5, .null, .null, .null, .null]) rfl ?_
          exact h
        · have h := h.2 hq
          refine tn_iconst (pc := 156) hΓ d_X6_copy_156 ic_1 ?_
          refine tn_goto (tgt := 161) (pc := 157) hΓ d_X6_copy_157 (by decide) ?_
          refine tn_drop [true, true, true, true, true, true, false, false, false, false] (loc' := [.ref 39, .int y1, .int y2, .int y3, .int y4, .int y5, .null, .null, .null, .null]) rfl ?_
          exact h
      · have h := h.2 hq
        refine tn_aload_n (pc := 144) hΓ d_X6_copy_144 rfl ?_
        refine tn_iconst (pc := 145) hΓ d_X6_copy_145 ic_3 ?_
        refine tn_cvI (As := [.int (3 : Int32)]) (st := []) (pc := 146) hΓ d_X6_copy_146 mv_X6_fails im_X6_fails se_X6_fails ml_6_82 ⟨⟨by decide, by decide⟩, by decide, by decide⟩ rfl rfl rfl (by decide) ⟨_, rfl⟩ (gd_k hG (c := 39) rfl) (Nat.le_of_ble_eq_true rfl) rfl h (fun r3 σ3 h => ?_)
        exact tn_ret_i (pc := 149) hΓ hK d_X6_copy_149 rfl (by decide) (by decide) h
theorem k_X6_copy_161 {Γ : tn_G} {ks : List (Nat × Nat)} {ρ : Nat → Nat → Nat} {σ : Nat → Nat → Int32} {K : Option Value → List (Nat × Nat) → (Nat → Nat → Nat) → (Nat → Nat → Int32) → Prop} (hG : tn_Gd ks ρ) (hΓ : tn_is Γ m_X6_copy) (hK : tn_rt Γ m_X6_copy K) (y1 : Int32) (y2 : Int32) (y3 : Int32) (y4 : Int32) (y5 : Int32) (w0 : Int32) (h : tn_A Γ 166 [.ref 39, .int y1, .int y2, .int y3, .int y4, .int y5, .null, .int w0, .int (0 : Int32), .null] [] 0 0 ks ρ σ) : tn_A Γ 161 [.ref 39, .int y1, .int y2, .int y3, .int y4, .int y5, .null, .null, .null, .null] [.int w0] 0 0 ks ρ σ := by
  refine tn_istore (loc' := [.ref 39, .int y1, .int y2, .int y3, .int y4, .int y5, .null, .int w0, .null, .null]) (pc := 161) hΓ d_X6_copy_161 (by decide) rfl rfl ?_
  refine tn_iconst (pc := 163) hΓ d_X6_copy_163 ic_0 ?_
  refine tn_istore (loc' := [.ref 39, .int y1, .int y2, .int y3, .int y4, .int y5, .null, .int w0, .int (0 : Int32), .null]) (pc := 164) hΓ d_X6_copy_164 (by decide) rfl rfl ?_
  exact h
theorem k_X6_copy_166 {Γ : tn_G} {ks : List (Nat × Nat)} {ρ : Nat → Nat → Nat} {σ : Nat → Nat → Int32} {K : Option Value → List (Nat × Nat) → (Nat → Nat → Nat) → (Nat → Nat → Int32) → Prop} (hG : tn_Gd ks ρ) (hΓ : tn_is Γ m_X6_copy) (hK : tn_rt Γ m_X6_copy K) (y1 : Int32) (y2 : Int32) (y3 : Int32) (y4 : Int32) (y5 : Int32) (y7 : Int32) (y8 : Int32) (h : ((y5 ≤ y8 → K (some (.int y5)) ks ρ σ) ∧ (¬ y5 ≤ y8 → ((y7 = 0 → tn_A Γ 190 [.ref 39, .int y1, .int y2, .int y3, .int y4, .int y5, .null, .int y7, .int y8, .null] [.int y8] 0 0 ks ρ σ) ∧ (¬ y7 = 0 → tn_A Γ 190 [.ref 39, .int y1, .int y2, .int y3, .int y4, .int y5, .null, .int y7, .int y8, .null] [.int ((y5 - (1 : Int32)) - y8)] 0 0 ks ρ σ))))) : tn_A Γ 166 [.ref 39, .int y1, .int y2, .int y3, .int y4, .int y5, .null, .int y7, .int y8, .null] [] 0 0 ks ρ σ := by
  refine tn_iload (pc := 166) hΓ d_X6_copy_166 rfl ?_
  refine tn_iload (pc := 168) hΓ d_X6_copy_168 rfl ?_
  refine tn_icmp_ge (tgt := 227) (pc := 170) hΓ d_X6_copy_170 (by decide) (fun hq => ?_) (fun hq => ?_)
  · have h := h.1 hq
    refine tn_iload (pc := 227) hΓ d_X6_copy_227 rfl ?_
    exact tn_ret_i (pc := 229) hΓ hK d_X6_copy_229 rfl (by decide) (by decide) h
  · have h := h.2 hq
    refine tn_iload (pc := 173) hΓ d_X6_copy_173 rfl ?_
    refine tn_if_eq (tgt := 188) (pc := 175) hΓ d_X6_copy_175 (by decide) (fun hq => ?_) (fun hq => ?_)
    · have h := h.1 hq
      refine tn_iload (pc := 188) hΓ d_X6_copy_188 rfl ?_
      exact h
    · have h := h.2 hq
      refine tn_iload (pc := 178) hΓ d_X6_copy_178 rfl ?_
      refine tn_iconst (pc := 180) hΓ d_X6_copy_180 ic_1 ?_
      refine tn_isub (pc := 181) hΓ d_X6_copy_181 ?_
      refine tn_iload (pc := 182) hΓ d_X6_copy_182 rfl ?_
      refine tn_isub (pc := 184) hΓ d_X6_copy_184 ?_
      refine tn_goto (tgt := 190) (pc := 185) hΓ d_X6_copy_185 (by decide) ?_
      exact h
theorem k_X6_copy_190 {Γ : tn_G} {ks : List (Nat × Nat)} {ρ : Nat → Nat → Nat} {σ : Nat → Nat → Int32} {K : Option Value → List (Nat × Nat) → (Nat → Nat → Nat) → (Nat → Nat → Int32) → Prop} (hG : tn_Gd ks ρ) (hΓ : tn_is Γ m_X6_copy) (hK : tn_rt Γ m_X6_copy K) (y1 : Int32) (y2 : Int32) (y3 : Int32) (y4 : Int32) (y5 : Int32) (y7 : Int32) (y8 : Int32) (w0 : Int32) (h : (vp_in ((((60 : Int32) * y1) + y2) + w0) 240 ∧ (vp_in ((((60 : Int32) * y3) + y4) + w0) 240 ∧ (∀ σ1, σ1 = tn_u σ 42 ((((60 : Int32) * y3) + y4) + w0).toNatClampNeg (σ 42 ((((60 : Int32) * y1) + y2) + w0).toNatClampNeg) → (∀ x1 : Int32, x1 = y8 + (1 : Int32) → tn_A Γ 166 [.ref 39, .int y1, .int y2, .int y3, .int y4, .int y5, .null, .int y7, .int x1, .null] [] 0 0 ks ρ σ1))))) : tn_A Γ 190 [.ref 39, .int y1, .int y2, .int y3, .int y4, .int y5, .null, .int y7, .int y8, .null] [.int w0] 0 0 ks ρ σ := by
  refine tn_istore (loc' := [.ref 39, .int y1, .int y2, .int y3, .int y4, .int y5, .null, .int y7, .int y8, .int w0]) (pc := 190) hΓ d_X6_copy_190 (by decide) rfl rfl ?_
  refine tn_aload_n (pc := 192) hΓ d_X6_copy_192 rfl ?_
  refine tn_getRy (y := 42) (pc := 193) hΓ d_X6_copy_193 fl_6_16 rfl (gd_k hG (c := 39) rfl) (gd_r hG 39 4 42 rfl rfl) ?_
  refine tn_bipush (pc := 196) hΓ d_X6_copy_196 bp_60 ?_
  refine tn_iload_n (pc := 198) hΓ d_X6_copy_198 rfl ?_
  refine tn_imul (pc := 199) hΓ d_X6_copy_199 ?_
  refine tn_iload (pc := 200) hΓ d_X6_copy_200 rfl ?_
  refine tn_iadd (pc := 202) hΓ d_X6_copy_202 ?_
  refine tn_iload (pc := 203) hΓ d_X6_copy_203 rfl ?_
  refine tn_iadd (pc := 205) hΓ d_X6_copy_205 ?_
  refine tn_aload_n (pc := 206) hΓ d_X6_copy_206 rfl ?_
  refine tn_getRy (y := 42) (pc := 207) hΓ d_X6_copy_207 fl_6_16 rfl (gd_k hG (c := 39) rfl) (gd_r hG 39 4 42 rfl rfl) ?_
  refine tn_bipush (pc := 210) hΓ d_X6_copy_210 bp_60 ?_
  refine tn_iload_n (pc := 212) hΓ d_X6_copy_212 rfl ?_
  refine tn_imul (pc := 213) hΓ d_X6_copy_213 ?_
  refine tn_iload_n (pc := 214) hΓ d_X6_copy_214 rfl ?_
  refine tn_iadd (pc := 215) hΓ d_X6_copy_215 ?_
  refine tn_iload (pc := 216) hΓ d_X6_copy_216 rfl ?_
  refine tn_iadd (pc := 218) hΓ d_X6_copy_218 ?_
  obtain ⟨hi1, h⟩ := h
  refine tn_ald (pc := 219) hΓ d_X6_copy_219 (gd_k hG (c := 42) rfl) hi1 ?_
  obtain ⟨hi2, h⟩ := h
  refine tn_ast (pc := 220) hΓ d_X6_copy_220 (gd_k hG (c := 42) rfl) hi2 ?_
  refine tn_tops (fun σ1 eσ1 => ?_)
  have h := h σ1 eσ1
  refine tn_iincw (loc' := fun v_ => [.ref 39, .int y1, .int y2, .int y3, .int y4, .int y5, .null, .int y7, .int v_, .int w0]) (pc := 221) hΓ d_X6_copy_221 rfl ic_1 (by decide) rfl (fun _ => rfl) (fun x1 ex1 => ?_)
  have h := h x1 ex1
  refine tn_goto (tgt := 166) (pc := 224) hΓ d_X6_copy_224 (by decide) ?_
  refine tn_drop [true, true, true, true, true, true, false, true, true, false] (loc' := [.ref 39, .int y1, .int y2, .int y3, .int y4, .int y5, .null, .int y7, .int x1, .null]) rfl ?_
  exact h
theorem k_X6_begins_0 {Γ : tn_G} {ks : List (Nat × Nat)} {ρ : Nat → Nat → Nat} {σ : Nat → Nat → Int32} {K : Option Value → List (Nat × Nat) → (Nat → Nat → Nat) → (Nat → Nat → Int32) → Prop} (hG : tn_Gd ks ρ) (hΓ : tn_is Γ m_X6_begins) (hK : tn_rt Γ m_X6_begins K) (a0 : Int32) (h : (∀ σ1, σ1 = tn_u σ 39 1 (((31 : Int32) * (σ 39 1)) + a0) → K none ks ρ σ1)) : tn_A Γ 0 [.ref 39, .int a0] [] 0 0 ks ρ σ := by
  refine tn_aload_n (pc := 0) hΓ d_X6_begins_0 rfl ?_
  refine tn_bipush (pc := 1) hΓ d_X6_begins_1 bp_31 ?_
  refine tn_aload_n (pc := 3) hΓ d_X6_begins_3 rfl ?_
  refine tn_getI (pc := 4) hΓ d_X6_begins_4 fl_6_209 rfl (gd_k hG (c := 39) rfl) ?_
  refine tn_imul (pc := 7) hΓ d_X6_begins_7 ?_
  refine tn_iload_n (pc := 8) hΓ d_X6_begins_8 rfl ?_
  refine tn_iadd (pc := 9) hΓ d_X6_begins_9 ?_
  refine tn_putI (pc := 10) hΓ d_X6_begins_10 fl_6_209 fk_6_6_1 rfl (gd_k hG (c := 39) rfl)  ?_
  refine tn_tops (fun σ1 eσ1 => ?_)
  have h := h σ1 eσ1
  exact tn_ret_v (pc := 13) hΓ hK d_X6_begins_13 rfl (by decide) (by decide) h
theorem k_X6_tell_0 {Γ : tn_G} {ks : List (Nat × Nat)} {ρ : Nat → Nat → Nat} {σ : Nat → Nat → Int32} {K : Option Value → List (Nat × Nat) → (Nat → Nat → Nat) → (Nat → Nat → Int32) → Prop} (hG : tn_Gd ks ρ) (hΓ : tn_is Γ m_X6_tell) (hK : tn_rt Γ m_X6_tell K) (a0 : Int32) (h : tn_CI m_X6_isHouse [.ref 39, .int a0] ks ρ σ (fun r1 σ1 => ((¬ r1 = 0 → (vp_in a0 5 ∧ (∀ x1 : Int32, x1 = (σ1 44 a0.toNatClampNeg) → (((σ1 43 a0.toNatClampNeg) = (1 : Int32) → tn_CV m_X6_begins [.ref 39, .int (2 : Int32)] ks ρ σ1 (fun σ2 => tn_CV m_X6_begins [.ref 39, .int (1 : Int32)] ks ρ σ2 (fun σ3 => K (some (.int (x1 + (100 : Int32)))) ks ρ σ3))) ∧ (¬ (σ1 43 a0.toNatClampNeg) = (1 : Int32) → (((σ1 43 a0.toNatClampNeg) = (2 : Int32) → tn_CV m_X6_begins [.ref 39, .int (3 : Int32)] ks ρ σ1 (fun σ4 => tn_CV m_X6_begins [.ref 39, .int (2 : Int32)] ks ρ σ4 (fun σ5 => tn_CV m_X6_begins [.ref 39, .int (1 : Int32)] ks ρ σ5 (fun σ6 => tn_CV m_X6_begins [.ref 39, .int (1 : Int32)] ks ρ σ6 (fun σ7 => K (some (.int (((2 : Int32) * x1) + (100 : Int32)))) ks ρ σ7))))) ∧ (¬ (σ1 43 a0.toNatClampNeg) = (2 : Int32) → tn_CV m_X6_begins [.ref 39, .int (1 : Int32)] ks ρ σ1 (fun σ8 => K (some (.int x1)) ks ρ σ8)))))))) ∧ (r1 = 0 → K (some (.int (-1 : Int32))) ks ρ σ1)))) : tn_A Γ 0 [.ref 39, .int a0, .null] [] 0 0 ks ρ σ := by
  refine tn_aload_n (pc := 0) hΓ d_X6_tell_0 rfl ?_
  refine tn_iload_n (pc := 1) hΓ d_X6_tell_1 rfl ?_
  refine tn_cvI (As := [.int a0]) (st := []) (pc := 2) hΓ d_X6_tell_2 mv_X6_isHouse im_X6_isHouse se_X6_isHouse ml_6_145 ⟨⟨by decide, by decide⟩, by decide, by decide⟩ rfl rfl rfl (by decide) ⟨_, rfl⟩ (gd_k hG (c := 39) rfl) (Nat.le_of_ble_eq_true rfl) rfl h (fun r1 σ1 h => ?_)
  refine tn_if_ne (tgt := 10) (pc := 5) hΓ d_X6_tell_5 (by decide) (fun hq => ?_) (fun hq => ?_)
  · have h := h.1 hq
    refine tn_aload_n (pc := 10) hΓ d_X6_tell_10 rfl ?_
    refine tn_getRy (y := 44) (pc := 11) hΓ d_X6_tell_11 fl_6_22 rfl (gd_k hG (c := 39) rfl) (gd_r hG 39 14 44 rfl rfl) ?_
    refine tn_iload_n (pc := 14) hΓ d_X6_tell_14 rfl ?_
    obtain ⟨hi1, h⟩ := h
    refine tn_ald (pc := 15) hΓ d_X6_tell_15 (gd_k hG (c := 44) rfl) hi1 ?_
    refine tn_topi (fun x1 ex1 => ?_)
    have h := h x1 ex1
    refine tn_istore_n (loc' := [.ref 39, .int a0, .int x1]) (pc := 16) hΓ d_X6_tell_16 (by decide) rfl rfl ?_
    refine tn_aload_n (pc := 17) hΓ d_X6_tell_17 rfl ?_
    refine tn_getRy (y := 43) (pc := 18) hΓ d_X6_tell_18 fl_6_19 rfl (gd_k hG (c := 39) rfl) (gd_r hG 39 13 43 rfl rfl) ?_
    refine tn_iload_n (pc := 21) hΓ d_X6_tell_21 rfl ?_
    refine tn_ald (pc := 22) hΓ d_X6_tell_22 (gd_k hG (c := 43) rfl) hi1 ?_
    refine tn_byc ((σ1 43 a0.toNatClampNeg) = (1 : Int32)) (fun hq => ?_) (fun hq0 => ?_)
    · have h := h.1 hq
      refine tn_lookup (off := 25) (tgt := 48) (pc := 23) hΓ d_X6_tell_23 (by decide) (by rw [hq] <;> rfl) (by decide) ?_
      refine tn_aload_n (pc := 48) hΓ d_X6_tell_48 rfl ?_
      refine tn_iconst (pc := 49) hΓ d_X6_tell_49 ic_2 ?_
      refine tn_cvV (As := [.int (2 : Int32)]) (st := []) (pc := 50) hΓ d_X6_tell_50 mv_X6_begins im_X6_begins se_X6_begins ml_6_212 ⟨⟨by decide, by decide⟩, by decide, by decide⟩ rfl rfl rfl (by decide) ⟨_, rfl⟩ (gd_k hG (c := 39) rfl) (Nat.le_of_ble_eq_true rfl) rfl h (fun σ2 h => ?_)
      refine tn_aload_n (pc := 53) hΓ d_X6_tell_53 rfl ?_
      refine tn_iconst (pc := 54) hΓ d_X6_tell_54 ic_1 ?_
      refine tn_cvV (As := [.int (1 : Int32)]) (st := []) (pc := 55) hΓ d_X6_tell_55 mv_X6_begins im_X6_begins se_X6_begins ml_6_212 ⟨⟨by decide, by decide⟩, by decide, by decide⟩ rfl rfl rfl (by decide) ⟨_, rfl⟩ (gd_k hG (c := 39) rfl) (Nat.le_of_ble_eq_true rfl) rfl h (fun σ3 h => ?_)
      refine tn_iload_n (pc := 58) hΓ d_X6_tell_58 rfl ?_
      refine tn_bipush (pc := 59) hΓ d_X6_tell_59 bp_100 ?_
      refine tn_iadd (pc := 61) hΓ d_X6_tell_61 ?_
      exact tn_ret_i (pc := 62) hΓ hK d_X6_tell_62 rfl (by decide) (by decide) h
    have h := h.2 hq0
    refine tn_byc ((σ1 43 a0.toNatClampNeg) = (2 : Int32)) (fun hq => ?_) (fun hq1 => ?_)
    · have h := h.1 hq
      refine tn_lookup (off := 40) (tgt := 63) (pc := 23) hΓ d_X6_tell_23 (by decide) (by rw [hq] <;> rfl) (by decide) ?_
      refine tn_aload_n (pc := 63) hΓ d_X6_tell_63 rfl ?_
      refine tn_iconst (pc := 64) hΓ d_X6_tell_64 ic_3 ?_
      refine tn_cvV (As := [.int (3 : Int32)]) (st := []) (pc := 65) hΓ d_X6_tell_65 mv_X6_begins im_X6_begins se_X6_begins ml_6_212 ⟨⟨by decide, by decide⟩, by decide, by decide⟩ rfl rfl rfl (by decide) ⟨_, rfl⟩ (gd_k hG (c := 39) rfl) (Nat.le_of_ble_eq_true rfl) rfl h (fun σ4 h => ?_)
      refine tn_aload_n (pc := 68) hΓ d_X6_tell_68 rfl ?_
      refine tn_iconst (pc := 69) hΓ d_X6_tell_69 ic_2 ?_
      refine tn_cvV (As := [.int (2 : Int32)]) (st := []) (pc := 70) hΓ d_X6_tell_70 mv_X6_begins im_X6_begins se_X6_begins ml_6_212 ⟨⟨by decide, by decide⟩, by decide, by decide⟩ rfl rfl rfl (by decide) ⟨_, rfl⟩ (gd_k hG (c := 39) rfl) (Nat.le_of_ble_eq_true rfl) rfl h (fun σ5 h => ?_)
      refine tn_aload_n (pc := 73) hΓ d_X6_tell_73 rfl ?_
      refine tn_iconst (pc := 74) hΓ d_X6_tell_74 ic_1 ?_
      refine tn_cvV (As := [.int (1 : Int32)]) (st := []) (pc := 75) hΓ d_X6_tell_75 mv_X6_begins im_X6_begins se_X6_begins ml_6_212 ⟨⟨by decide, by decide⟩, by decide, by decide⟩ rfl rfl rfl (by decide) ⟨_, rfl⟩ (gd_k hG (c := 39) rfl) (Nat.le_of_ble_eq_true rfl) rfl h (fun σ6 h => ?_)
      refine tn_aload_n (pc := 78) hΓ d_X6_tell_78 rfl ?_
      refine tn_iconst (pc := 79) hΓ d_X6_tell_79 ic_1 ?_
      refine tn_cvV (As := [.int (1 : Int32)]) (st := []) (pc := 80) hΓ d_X6_tell_80 mv_X6_begins im_X6_begins se_X6_begins ml_6_212 ⟨⟨by decide, by decide⟩, by decide, by decide⟩ rfl rfl rfl (by decide) ⟨_, rfl⟩ (gd_k hG (c := 39) rfl) (Nat.le_of_ble_eq_true rfl) rfl h (fun σ7 h => ?_)
      refine tn_iconst (pc := 83) hΓ d_X6_tell_83 ic_2 ?_
      refine tn_iload_n (pc := 84) hΓ d_X6_tell_84 rfl ?_
      refine tn_imul (pc := 85) hΓ d_X6_tell_85 ?_
      refine tn_bipush (pc := 86) hΓ d_X6_tell_86 bp_100 ?_
      refine tn_iadd (pc := 88) hΓ d_X6_tell_88 ?_
      exact tn_ret_i (pc := 89) hΓ hK d_X6_tell_89 rfl (by decide) (by decide) h
    have h := h.2 hq1
    refine tn_lookup (off := 67) (tgt := 90) (pc := 23) hΓ d_X6_tell_23 (by decide) (by rw [lv_osw hq0 (by decide), lv_osw hq1 (by decide)] <;> rfl) (by decide) ?_
    refine tn_aload_n (pc := 90) hΓ d_X6_tell_90 rfl ?_
    refine tn_iconst (pc := 91) hΓ d_X6_tell_91 ic_1 ?_
    refine tn_cvV (As := [.int (1 : Int32)]) (st := []) (pc := 92) hΓ d_X6_tell_92 mv_X6_begins im_X6_begins se_X6_begins ml_6_212 ⟨⟨by decide, by decide⟩, by decide, by decide⟩ rfl rfl rfl (by decide) ⟨_, rfl⟩ (gd_k hG (c := 39) rfl) (Nat.le_of_ble_eq_true rfl) rfl h (fun σ8 h => ?_)
    refine tn_iload_n (pc := 95) hΓ d_X6_tell_95 rfl ?_
    exact tn_ret_i (pc := 96) hΓ hK d_X6_tell_96 rfl (by decide) (by decide) h
  · have h := h.2 hq
    refine tn_iconst (pc := 8) hΓ d_X6_tell_8 ic_m1 ?_
    exact tn_ret_i (pc := 9) hΓ hK d_X6_tell_9 rfl (by decide) (by decide) h
theorem k_X6_knock_0 {Γ : tn_G} {ks : List (Nat × Nat)} {ρ : Nat → Nat → Nat} {σ : Nat → Nat → Int32} {K : Option Value → List (Nat × Nat) → (Nat → Nat → Nat) → (Nat → Nat → Int32) → Prop} (hG : tn_Gd ks ρ) (hΓ : tn_is Γ m_X6_knock) (hK : tn_rt Γ m_X6_knock K) (a0 : Int32) (h : tn_CI m_X6_isHouse [.ref 39, .int a0] ks ρ σ (fun r1 σ1 => ((¬ r1 = 0 → (vp_in a0 5 ∧ ((¬ (σ1 43 a0.toNatClampNeg) = (2 : Int32) → tn_CV m_X6_begins [.ref 39, .int (4 : Int32)] ks ρ σ1 (fun σ2 => ((¬ (σ2 43 a0.toNatClampNeg) = (2 : Int32) → K (some (.int (σ2 45 a0.toNatClampNeg))) ks ρ σ2) ∧ ((σ2 43 a0.toNatClampNeg) = (2 : Int32) → K (some (.int (70 : Int32))) ks ρ σ2)))) ∧ ((σ1 43 a0.toNatClampNeg) = (2 : Int32) → tn_CV m_X6_begins [.ref 39, .int (5 : Int32)] ks ρ σ1 (fun σ3 => ((¬ (σ3 43 a0.toNatClampNeg) = (2 : Int32) → K (some (.int (σ3 45 a0.toNatClampNeg))) ks ρ σ3) ∧ ((σ3 43 a0.toNatClampNeg) = (2 : Int32) → K (some (.int (70 : Int32))) ks ρ σ3))))))) ∧ (r1 = 0 → K (some (.int (-1 : Int32))) ks ρ σ1)))) : tn_A Γ 0 [.ref 39, .int a0] [] 0 0 ks ρ σ := by
  refine tn_aload_n (pc := 0) hΓ d_X6_knock_0 rfl ?_
  refine tn_iload_n (pc := 1) hΓ d_X6_knock_1 rfl ?_
  refine tn_cvI (As := [.int a0]) (st := []) (pc := 2) hΓ d_X6_knock_2 mv_X6_isHouse im_X6_isHouse se_X6_isHouse ml_6_145 ⟨⟨by decide, by decide⟩, by decide, by decide⟩ rfl rfl rfl (by decide) ⟨_, rfl⟩ (gd_k hG (c := 39) rfl) (Nat.le_of_ble_eq_true rfl) rfl h (fun r1 σ1 h => ?_)
  refine tn_if_ne (tgt := 10) (pc := 5) hΓ d_X6_knock_5 (by decide) (fun hq => ?_) (fun hq => ?_)
  · have h := h.1 hq
    refine tn_aload_n (pc := 10) hΓ d_X6_knock_10 rfl ?_
    refine tn_aload_n (pc := 11) hΓ d_X6_knock_11 rfl ?_
    refine tn_getRy (y := 43) (pc := 12) hΓ d_X6_knock_12 fl_6_19 rfl (gd_k hG (c := 39) rfl) (gd_r hG 39 13 43 rfl rfl) ?_
    refine tn_iload_n (pc := 15) hΓ d_X6_knock_15 rfl ?_
    obtain ⟨hi1, h⟩ := h
    refine tn_ald (pc := 16) hΓ d_X6_knock_16 (gd_k hG (c := 43) rfl) hi1 ?_
    refine tn_iconst (pc := 17) hΓ d_X6_knock_17 ic_2 ?_
    refine tn_icmp_ne (tgt := 25) (pc := 18) hΓ d_X6_knock_18 (by decide) (fun hq => ?_) (fun hq => ?_)
    · have h := h.1 hq
      refine tn_iconst (pc := 25) hΓ d_X6_knock_25 ic_4 ?_
      refine tn_cvV (As := [.int (4 : Int32)]) (st := []) (pc := 26) hΓ d_X6_knock_26 mv_X6_begins im_X6_begins se_X6_begins ml_6_212 ⟨⟨by decide, by decide⟩, by decide, by decide⟩ rfl rfl rfl (by decide) ⟨_, rfl⟩ (gd_k hG (c := 39) rfl) (Nat.le_of_ble_eq_true rfl) rfl h (fun σ2 h => ?_)
      refine tn_aload_n (pc := 29) hΓ d_X6_knock_29 rfl ?_
      refine tn_getRy (y := 43) (pc := 30) hΓ d_X6_knock_30 fl_6_19 rfl (gd_k hG (c := 39) rfl) (gd_r hG 39 13 43 rfl rfl) ?_
      refine tn_iload_n (pc := 33) hΓ d_X6_knock_33 rfl ?_
      refine tn_ald (pc := 34) hΓ d_X6_knock_34 (gd_k hG (c := 43) rfl) hi1 ?_
      refine tn_iconst (pc := 35) hΓ d_X6_knock_35 ic_2 ?_
      refine tn_icmp_ne (tgt := 44) (pc := 36) hΓ d_X6_knock_36 (by decide) (fun hq => ?_) (fun hq => ?_)
      · have h := h.1 hq
        refine tn_aload_n (pc := 44) hΓ d_X6_knock_44 rfl ?_
        refine tn_getRy (y := 45) (pc := 45) hΓ d_X6_knock_45 fl_6_25 rfl (gd_k hG (c := 39) rfl) (gd_r hG 39 15 45 rfl rfl) ?_
        refine tn_iload_n (pc := 48) hΓ d_X6_knock_48 rfl ?_
        refine tn_ald (pc := 49) hΓ d_X6_knock_49 (gd_k hG (c := 45) rfl) hi1 ?_
        exact tn_ret_i (pc := 50) hΓ hK d_X6_knock_50 rfl (by decide) (by decide) h
      · have h := h.2 hq
        refine tn_bipush (pc := 39) hΓ d_X6_knock_39 bp_70 ?_
        refine tn_goto (tgt := 50) (pc := 41) hΓ d_X6_knock_41 (by decide) ?_
        exact tn_ret_i (pc := 50) hΓ hK d_X6_knock_50 rfl (by decide) (by decide) h
    · have h := h.2 hq
      refine tn_iconst (pc := 21) hΓ d_X6_knock_21 ic_5 ?_
      refine tn_goto (tgt := 26) (pc := 22) hΓ d_X6_knock_22 (by decide) ?_
      refine tn_cvV (As := [.int (5 : Int32)]) (st := []) (pc := 26) hΓ d_X6_knock_26 mv_X6_begins im_X6_begins se_X6_begins ml_6_212 ⟨⟨by decide, by decide⟩, by decide, by decide⟩ rfl rfl rfl (by decide) ⟨_, rfl⟩ (gd_k hG (c := 39) rfl) (Nat.le_of_ble_eq_true rfl) rfl h (fun σ3 h => ?_)
      refine tn_aload_n (pc := 29) hΓ d_X6_knock_29 rfl ?_
      refine tn_getRy (y := 43) (pc := 30) hΓ d_X6_knock_30 fl_6_19 rfl (gd_k hG (c := 39) rfl) (gd_r hG 39 13 43 rfl rfl) ?_
      refine tn_iload_n (pc := 33) hΓ d_X6_knock_33 rfl ?_
      refine tn_ald (pc := 34) hΓ d_X6_knock_34 (gd_k hG (c := 43) rfl) hi1 ?_
      refine tn_iconst (pc := 35) hΓ d_X6_knock_35 ic_2 ?_
      refine tn_icmp_ne (tgt := 44) (pc := 36) hΓ d_X6_knock_36 (by decide) (fun hq => ?_) (fun hq => ?_)
      · have h := h.1 hq
        refine tn_aload_n (pc := 44) hΓ d_X6_knock_44 rfl ?_
        refine tn_getRy (y := 45) (pc := 45) hΓ d_X6_knock_45 fl_6_25 rfl (gd_k hG (c := 39) rfl) (gd_r hG 39 15 45 rfl rfl) ?_
        refine tn_iload_n (pc := 48) hΓ d_X6_knock_48 rfl ?_
        refine tn_ald (pc := 49) hΓ d_X6_knock_49 (gd_k hG (c := 45) rfl) hi1 ?_
        exact tn_ret_i (pc := 50) hΓ hK d_X6_knock_50 rfl (by decide) (by decide) h
      · have h := h.2 hq
        refine tn_bipush (pc := 39) hΓ d_X6_knock_39 bp_70 ?_
        refine tn_goto (tgt := 50) (pc := 41) hΓ d_X6_knock_41 (by decide) ?_
        exact tn_ret_i (pc := 50) hΓ hK d_X6_knock_50 rfl (by decide) (by decide) h
  · have h := h.2 hq
    refine tn_iconst (pc := 8) hΓ d_X6_knock_8 ic_m1 ?_
    exact tn_ret_i (pc := 9) hΓ hK d_X6_knock_9 rfl (by decide) (by decide) h
theorem k_X6_as_0 {Γ : tn_G} {ks : List (Nat × Nat)} {ρ : Nat → Nat → Nat} {σ : Nat → Nat → Int32} {K : Option Value → List (Nat × Nat) → (Nat → Nat → Nat) → (Nat → Nat → Int32) → Prop} (hG : tn_Gd ks ρ) (hΓ : tn_is Γ m_X6_as) (hK : tn_rt Γ m_X6_as K) (a0 : Int32) (a1 : Int32) (h : (∀ σ1, σ1 = tn_u σ 39 0 (0 : Int32) → tn_CI m_X6_isHouse [.ref 39, .int a0] ks ρ σ1 (fun r1 σ2 => ((¬ r1 = 0 → tn_CI m_X6_within [.int a1, .int (0 : Int32), .int (2 : Int32)] ks ρ σ2 (fun r2 σ3 => ((¬ r2 = 0 → (vp_in a0 5 ∧ (((σ3 43 a0.toNatClampNeg) < a1 → tn_CI m_X6_fails [.ref 39, .int (2 : Int32)] ks ρ σ3 (fun r3 σ4 => K (some (.int r3)) ks ρ σ4)) ∧ (¬ (σ3 43 a0.toNatClampNeg) < a1 → K (some (.int (1 : Int32))) ks ρ σ3)))) ∧ (r2 = 0 → K (some (.int (-2 : Int32))) ks ρ σ3)))) ∧ (r1 = 0 → K (some (.int (-1 : Int32))) ks ρ σ2))))) : tn_A Γ 0 [.ref 39, .int a0, .int a1] [] 0 0 ks ρ σ := by
  refine tn_aload_n (pc := 0) hΓ d_X6_as_0 rfl ?_
  refine tn_iconst (pc := 1) hΓ d_X6_as_1 ic_0 ?_
  refine tn_putI (pc := 2) hΓ d_X6_as_2 fl_6_52 fk_6_6_0 rfl (gd_k hG (c := 39) rfl)  ?_
  refine tn_tops (fun σ1 eσ1 => ?_)
  have h := h σ1 eσ1
  refine tn_aload_n (pc := 5) hΓ d_X6_as_5 rfl ?_
  refine tn_iload_n (pc := 6) hΓ d_X6_as_6 rfl ?_
  refine tn_cvI (As := [.int a0]) (st := []) (pc := 7) hΓ d_X6_as_7 mv_X6_isHouse im_X6_isHouse se_X6_isHouse ml_6_145 ⟨⟨by decide, by decide⟩, by decide, by decide⟩ rfl rfl rfl (by decide) ⟨_, rfl⟩ (gd_k hG (c := 39) rfl) (Nat.le_of_ble_eq_true rfl) rfl h (fun r1 σ2 h => ?_)
  refine tn_if_ne (tgt := 15) (pc := 10) hΓ d_X6_as_10 (by decide) (fun hq => ?_) (fun hq => ?_)
  · have h := h.1 hq
    refine tn_iload_n (pc := 15) hΓ d_X6_as_15 rfl ?_
    refine tn_iconst (pc := 16) hΓ d_X6_as_16 ic_0 ?_
    refine tn_iconst (pc := 17) hΓ d_X6_as_17 ic_2 ?_
    refine tn_csI (As := [.int a1, .int (0 : Int32), .int (2 : Int32)]) (st := []) (pc := 18) hΓ d_X6_as_18 mv_X6_within st_X6_within ml_6_58 ⟨⟨by decide, by decide⟩, by decide, by decide⟩ rfl rfl rfl (Nat.le_of_ble_eq_true rfl) rfl h (fun r2 σ3 h => ?_)
    refine tn_if_ne (tgt := 27) (pc := 21) hΓ d_X6_as_21 (by decide) (fun hq => ?_) (fun hq => ?_)
    · have h := h.1 hq
      refine tn_aload_n (pc := 27) hΓ d_X6_as_27 rfl ?_
      refine tn_getRy (y := 43) (pc := 28) hΓ d_X6_as_28 fl_6_19 rfl (gd_k hG (c := 39) rfl) (gd_r hG 39 13 43 rfl rfl) ?_
      refine tn_iload_n (pc := 31) hΓ d_X6_as_31 rfl ?_
      obtain ⟨hi1, h⟩ := h
      refine tn_ald (pc := 32) hΓ d_X6_as_32 (gd_k hG (c := 43) rfl) hi1 ?_
      refine tn_iload_n (pc := 33) hΓ d_X6_as_33 rfl ?_
      refine tn_icmp_lt (tgt := 41) (pc := 34) hΓ d_X6_as_34 (by decide) (fun hq => ?_) (fun hq => ?_)
      · have h := h.1 hq
        refine tn_aload_n (pc := 41) hΓ d_X6_as_41 rfl ?_
        refine tn_iconst (pc := 42) hΓ d_X6_as_42 ic_2 ?_
        refine tn_cvI (As := [.int (2 : Int32)]) (st := []) (pc := 43) hΓ d_X6_as_43 mv_X6_fails im_X6_fails se_X6_fails ml_6_82 ⟨⟨by decide, by decide⟩, by decide, by decide⟩ rfl rfl rfl (by decide) ⟨_, rfl⟩ (gd_k hG (c := 39) rfl) (Nat.le_of_ble_eq_true rfl) rfl h (fun r3 σ4 h => ?_)
        exact tn_ret_i (pc := 46) hΓ hK d_X6_as_46 rfl (by decide) (by decide) h
      · have h := h.2 hq
        refine tn_iconst (pc := 37) hΓ d_X6_as_37 ic_1 ?_
        refine tn_goto (tgt := 46) (pc := 38) hΓ d_X6_as_38 (by decide) ?_
        exact tn_ret_i (pc := 46) hΓ hK d_X6_as_46 rfl (by decide) (by decide) h
    · have h := h.2 hq
      refine tn_bipush (pc := 24) hΓ d_X6_as_24 bp_m2 ?_
      exact tn_ret_i (pc := 26) hΓ hK d_X6_as_26 rfl (by decide) (by decide) h
  · have h := h.2 hq
    refine tn_iconst (pc := 13) hΓ d_X6_as_13 ic_m1 ?_
    exact tn_ret_i (pc := 14) hΓ hK d_X6_as_14 rfl (by decide) (by decide) h
theorem k_X6_trace_0 {Γ : tn_G} {ks : List (Nat × Nat)} {ρ : Nat → Nat → Nat} {σ : Nat → Nat → Int32} {K : Option Value → List (Nat × Nat) → (Nat → Nat → Nat) → (Nat → Nat → Int32) → Prop} (hG : tn_Gd ks ρ) (hΓ : tn_is Γ m_X6_trace) (hK : tn_rt Γ m_X6_trace K)  (h : K (some (.int (σ 39 1))) ks ρ σ) : tn_A Γ 0 [.ref 39] [] 0 0 ks ρ σ := by
  refine tn_aload_n (pc := 0) hΓ d_X6_trace_0 rfl ?_
  refine tn_getI (pc := 1) hΓ d_X6_trace_1 fl_6_209 rfl (gd_k hG (c := 39) rfl) ?_
  exact tn_ret_i (pc := 4) hΓ hK d_X6_trace_4 rfl (by decide) (by decide) h
theorem k_X6_fault_0 {Γ : tn_G} {ks : List (Nat × Nat)} {ρ : Nat → Nat → Nat} {σ : Nat → Nat → Int32} {K : Option Value → List (Nat × Nat) → (Nat → Nat → Nat) → (Nat → Nat → Int32) → Prop} (hG : tn_Gd ks ρ) (hΓ : tn_is Γ m_X6_fault) (hK : tn_rt Γ m_X6_fault K)  (h : K (some (.int (σ 39 0))) ks ρ σ) : tn_A Γ 0 [.ref 39] [] 0 0 ks ρ σ := by
  refine tn_aload_n (pc := 0) hΓ d_X6_fault_0 rfl ?_
  refine tn_getI (pc := 1) hΓ d_X6_fault_1 fl_6_52 rfl (gd_k hG (c := 39) rfl) ?_
  exact tn_ret_i (pc := 4) hΓ hK d_X6_fault_4 rfl (by decide) (by decide) h
theorem k_X6_many_0 {Γ : tn_G} {ks : List (Nat × Nat)} {ρ : Nat → Nat → Nat} {σ : Nat → Nat → Int32} {K : Option Value → List (Nat × Nat) → (Nat → Nat → Nat) → (Nat → Nat → Int32) → Prop} (hG : tn_Gd ks ρ) (hΓ : tn_is Γ m_X6_many) (hK : tn_rt Γ m_X6_many K) (a0 : Int32) (h : ((a0 = (0 : Int32) → K (some (.int (σ 39 5))) ks ρ σ) ∧ (¬ a0 = (0 : Int32) → ((a0 = (1 : Int32) → K (some (.int (σ 39 6))) ks ρ σ) ∧ (¬ a0 = (1 : Int32) → ((a0 = (2 : Int32) → K (some (.int (σ 39 9))) ks ρ σ) ∧ (¬ a0 = (2 : Int32) → ((a0 = (3 : Int32) → K (some (.int (σ 39 10))) ks ρ σ) ∧ (¬ a0 = (3 : Int32) → ((a0 = (4 : Int32) → K (some (.int (σ 39 26))) ks ρ σ) ∧ (¬ a0 = (4 : Int32) → ((a0 = (5 : Int32) → K (some (.int (σ 39 8))) ks ρ σ) ∧ (¬ a0 = (5 : Int32) → ((a0 = (6 : Int32) → tn_CI m_X6_voiceNow [.ref 39] ks ρ σ (fun r1 σ1 => K (some (.int r1)) ks ρ σ1)) ∧ (¬ a0 = (6 : Int32) → K (some (.int (-2 : Int32))) ks ρ σ))))))))))))))) : tn_A Γ 0 [.ref 39, .int a0] [] 0 0 ks ρ σ := by
  refine tn_iload_n (pc := 0) hΓ d_X6_many_0 rfl ?_
  refine tn_byc (a0 = (0 : Int32)) (fun hq => ?_) (fun hq0 => ?_)
  · have h := h.1 hq
    refine tn_tblIn (off := 43) (tgt := 44) (pc := 1) hΓ d_X6_many_1 (by rw [hq] <;> decide) (by rw [hq] <;> decide) (by rw [hq] <;> rfl) (by decide) ?_
    refine tn_aload_n (pc := 44) hΓ d_X6_many_44 rfl ?_
    refine tn_getI (pc := 45) hΓ d_X6_many_45 fl_6_62 rfl (gd_k hG (c := 39) rfl) ?_
    exact tn_ret_i (pc := 48) hΓ hK d_X6_many_48 rfl (by decide) (by decide) h
  have h := h.2 hq0
  refine tn_byc (a0 = (1 : Int32)) (fun hq => ?_) (fun hq1 => ?_)
  · have h := h.1 hq
    refine tn_tblIn (off := 48) (tgt := 49) (pc := 1) hΓ d_X6_many_1 (by rw [hq] <;> decide) (by rw [hq] <;> decide) (by rw [hq] <;> rfl) (by decide) ?_
    refine tn_aload_n (pc := 49) hΓ d_X6_many_49 rfl ?_
    refine tn_getI (pc := 50) hΓ d_X6_many_50 fl_6_65 rfl (gd_k hG (c := 39) rfl) ?_
    exact tn_ret_i (pc := 53) hΓ hK d_X6_many_53 rfl (by decide) (by decide) h
  have h := h.2 hq1
  refine tn_byc (a0 = (2 : Int32)) (fun hq => ?_) (fun hq2 => ?_)
  · have h := h.1 hq
    refine tn_tblIn (off := 53) (tgt := 54) (pc := 1) hΓ d_X6_many_1 (by rw [hq] <;> decide) (by rw [hq] <;> decide) (by rw [hq] <;> rfl) (by decide) ?_
    refine tn_aload_n (pc := 54) hΓ d_X6_many_54 rfl ?_
    refine tn_getI (pc := 55) hΓ d_X6_many_55 fl_6_113 rfl (gd_k hG (c := 39) rfl) ?_
    exact tn_ret_i (pc := 58) hΓ hK d_X6_many_58 rfl (by decide) (by decide) h
  have h := h.2 hq2
  refine tn_byc (a0 = (3 : Int32)) (fun hq => ?_) (fun hq3 => ?_)
  · have h := h.1 hq
    refine tn_tblIn (off := 58) (tgt := 59) (pc := 1) hΓ d_X6_many_1 (by rw [hq] <;> decide) (by rw [hq] <;> decide) (by rw [hq] <;> rfl) (by decide) ?_
    refine tn_aload_n (pc := 59) hΓ d_X6_many_59 rfl ?_
    refine tn_getI (pc := 60) hΓ d_X6_many_60 fl_6_116 rfl (gd_k hG (c := 39) rfl) ?_
    exact tn_ret_i (pc := 63) hΓ hK d_X6_many_63 rfl (by decide) (by decide) h
  have h := h.2 hq3
  refine tn_byc (a0 = (4 : Int32)) (fun hq => ?_) (fun hq4 => ?_)
  · have h := h.1 hq
    refine tn_tblIn (off := 63) (tgt := 64) (pc := 1) hΓ d_X6_many_1 (by rw [hq] <;> decide) (by rw [hq] <;> decide) (by rw [hq] <;> rfl) (by decide) ?_
    refine tn_aload_n (pc := 64) hΓ d_X6_many_64 rfl ?_
    refine tn_getI (pc := 65) hΓ d_X6_many_65 fl_6_119 rfl (gd_k hG (c := 39) rfl) ?_
    exact tn_ret_i (pc := 68) hΓ hK d_X6_many_68 rfl (by decide) (by decide) h
  have h := h.2 hq4
  refine tn_byc (a0 = (5 : Int32)) (fun hq => ?_) (fun hq5 => ?_)
  · have h := h.1 hq
    refine tn_tblIn (off := 68) (tgt := 69) (pc := 1) hΓ d_X6_many_1 (by rw [hq] <;> decide) (by rw [hq] <;> decide) (by rw [hq] <;> rfl) (by decide) ?_
    refine tn_aload_n (pc := 69) hΓ d_X6_many_69 rfl ?_
    refine tn_getI (pc := 70) hΓ d_X6_many_70 fl_6_110 rfl (gd_k hG (c := 39) rfl) ?_
    exact tn_ret_i (pc := 73) hΓ hK d_X6_many_73 rfl (by decide) (by decide) h
  have h := h.2 hq5
  refine tn_byc (a0 = (6 : Int32)) (fun hq => ?_) (fun hq6 => ?_)
  · have h := h.1 hq
    refine tn_tblIn (off := 73) (tgt := 74) (pc := 1) hΓ d_X6_many_1 (by rw [hq] <;> decide) (by rw [hq] <;> decide) (by rw [hq] <;> rfl) (by decide) ?_
    refine tn_aload_n (pc := 74) hΓ d_X6_many_74 rfl ?_
    refine tn_cvI (As := []) (st := []) (pc := 75) hΓ d_X6_many_75 mv_X6_voiceNow im_X6_voiceNow se_X6_voiceNow ml_6_151 ⟨⟨by decide, by decide⟩, by decide, by decide⟩ rfl rfl rfl (by decide) ⟨_, rfl⟩ (gd_k hG (c := 39) rfl) (Nat.le_of_ble_eq_true rfl) rfl h (fun r1 σ1 h => ?_)
    exact tn_ret_i (pc := 78) hΓ hK d_X6_many_78 rfl (by decide) (by decide) h
  have h := h.2 hq6
  refine tn_tblOut (tgt := 79) (pc := 1) hΓ d_X6_many_1 (tn_out_0_6 hq0 hq1 hq2 hq3 hq4 hq5 hq6) (by decide) ?_
  refine tn_bipush (pc := 79) hΓ d_X6_many_79 bp_m2 ?_
  exact tn_ret_i (pc := 81) hΓ hK d_X6_many_81 rfl (by decide) (by decide) h
