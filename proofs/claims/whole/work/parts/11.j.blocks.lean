-- X6_day X6_tellDay X6_behind X6_quietIn X6_quiet X6_fewest X6_weightOfSet X6_claps
theorem k_X6_day_0 {Γ : tn_G} {ks : List (Nat × Nat)} {ρ : Nat → Nat → Nat} {σ : Nat → Nat → Int32} {K : Option Value → List (Nat × Nat) → (Nat → Nat → Nat) → (Nat → Nat → Int32) → Prop} (hG : tn_Gd ks ρ) (hΓ : tn_is Γ m_X6_day) (hK : tn_rt Γ m_X6_day K) (a0 : Int32) (a1 : Int32) (a2 : Int32) (a3 : Int32) (a4 : Int32) (h : (∀ σ1, σ1 = tn_u σ 39 0 (0 : Int32) → tn_CI m_X6_isSheet [.int a0] ks ρ σ1 (fun r1 σ2 => ((¬ r1 = 0 → tn_CI m_X6_isSort [.int a1] ks ρ σ2 (fun r2 σ3 => ((r2 = 0 → K (some (.int (-2 : Int32))) ks ρ σ3) ∧ (¬ r2 = 0 → tn_CI m_X6_within [.int a3, .int (0 : Int32), .int (20 : Int32)] ks ρ σ3 (fun r3 σ4 => ((r3 = 0 → K (some (.int (-2 : Int32))) ks ρ σ4) ∧ (¬ r3 = 0 → tn_CI m_X6_within [.int a4, .int (0 : Int32), .int (4 : Int32)] ks ρ σ4 (fun r4 σ5 => ((¬ r4 = 0 → tn_CI m_X6_against [.ref 39, .int a0, .int a1, .int a2, .int a3] ks ρ σ5 (fun r5 σ6 => ((r5 = 0 → ((¬ (σ6 39 5) = 0 → (∀ x1 : Int32, x1 = (((60 : Int32) * a0) + a2) → tn_A Γ 101 [.ref 39, .null, .null, .null, .int a3, .int a4, .null, .int x1, .int (0 : Int32), .null, .null] [] 0 0 ks ρ σ6)) ∧ ((σ6 39 5) = 0 → K (some (.int (-3 : Int32))) ks ρ σ6))) ∧ (¬ r5 = 0 → tn_CI m_X6_fails [.ref 39, .int r5] ks ρ σ6 (fun r6 σ7 => K (some (.int r6)) ks ρ σ7))))) ∧ (r4 = 0 → tn_CI m_X6_within [.int a4, .int (10 : Int32), .int (14 : Int32)] ks ρ σ5 (fun r7 σ8 => ((¬ r7 = 0 → tn_CI m_X6_against [.ref 39, .int a0, .int a1, .int a2, .int a3] ks ρ σ8 (fun r8 σ9 => ((r8 = 0 → ((¬ (σ9 39 5) = 0 → (∀ x2 : Int32, x2 = (((60 : Int32) * a0) + a2) → tn_A Γ 101 [.ref 39, .null, .null, .null, .int a3, .int a4, .null, .int x2, .int (0 : Int32), .null, .null] [] 0 0 ks ρ σ9)) ∧ ((σ9 39 5) = 0 → K (some (.int (-3 : Int32))) ks ρ σ9))) ∧ (¬ r8 = 0 → tn_CI m_X6_fails [.ref 39, .int r8] ks ρ σ9 (fun r9 σ10 => K (some (.int r9)) ks ρ σ10))))) ∧ (r7 = 0 → K (some (.int (-2 : Int32))) ks ρ σ8))))))))))))) ∧ (r1 = 0 → K (some (.int (-1 : Int32))) ks ρ σ2))))) : tn_A Γ 0 [.ref 39, .int a0, .int a1, .int a2, .int a3, .int a4, .null, .null, .null, .null, .null] [] 0 0 ks ρ σ := by
  refine tn_aload_n (pc := 0) hΓ d_X6_day_0 rfl ?_
  refine tn_iconst (pc := 1) hΓ d_X6_day_1 ic_0 ?_
  refine tn_putI (pc := 2) hΓ d_X6_day_2 fl_6_52 fk_6_6_0 rfl (gd_k hG (c := 39) rfl)  ?_
  refine tn_tops (fun σ1 eσ1 => ?_)
  have h := h σ1 eσ1
  refine tn_iload_n (pc := 5) hΓ d_X6_day_5 rfl ?_
  refine tn_csI (As := [.int a0]) (st := []) (pc := 6) hΓ d_X6_day_6 mv_X6_isSheet st_X6_isSheet ml_6_71 ⟨⟨by decide, by decide⟩, by decide, by decide⟩ rfl rfl rfl (Nat.le_of_ble_eq_true rfl) rfl h (fun r1 σ2 h => ?_)
  refine tn_if_ne (tgt := 14) (pc := 9) hΓ d_X6_day_9 (by decide) (fun hq => ?_) (fun hq => ?_)
  · have h := h.1 hq
    refine tn_iload_n (pc := 14) hΓ d_X6_day_14 rfl ?_
    refine tn_csI (As := [.int a1]) (st := []) (pc := 15) hΓ d_X6_day_15 mv_X6_isSort st_X6_isSort ml_6_75 ⟨⟨by decide, by decide⟩, by decide, by decide⟩ rfl rfl rfl (Nat.le_of_ble_eq_true rfl) rfl h (fun r2 σ3 h => ?_)
    refine tn_if_eq (tgt := 54) (pc := 18) hΓ d_X6_day_18 (by decide) (fun hq => ?_) (fun hq => ?_)
    · have h := h.1 hq
      refine tn_bipush (pc := 54) hΓ d_X6_day_54 bp_m2 ?_
      exact tn_ret_i (pc := 56) hΓ hK d_X6_day_56 rfl (by decide) (by decide) h
    · have h := h.2 hq
      refine tn_iload (pc := 21) hΓ d_X6_day_21 rfl ?_
      refine tn_iconst (pc := 23) hΓ d_X6_day_23 ic_0 ?_
      refine tn_bipush (pc := 24) hΓ d_X6_day_24 bp_20 ?_
      refine tn_csI (As := [.int a3, .int (0 : Int32), .int (20 : Int32)]) (st := []) (pc := 26) hΓ d_X6_day_26 mv_X6_within st_X6_within ml_6_58 ⟨⟨by decide, by decide⟩, by decide, by decide⟩ rfl rfl rfl (Nat.le_of_ble_eq_true rfl) rfl h (fun r3 σ4 h => ?_)
      refine tn_if_eq (tgt := 54) (pc := 29) hΓ d_X6_day_29 (by decide) (fun hq => ?_) (fun hq => ?_)
      · have h := h.1 hq
        refine tn_bipush (pc := 54) hΓ d_X6_day_54 bp_m2 ?_
        exact tn_ret_i (pc := 56) hΓ hK d_X6_day_56 rfl (by decide) (by decide) h
      · have h := h.2 hq
        refine tn_iload (pc := 32) hΓ d_X6_day_32 rfl ?_
        refine tn_iconst (pc := 34) hΓ d_X6_day_34 ic_0 ?_
        refine tn_iconst (pc := 35) hΓ d_X6_day_35 ic_4 ?_
        refine tn_csI (As := [.int a4, .int (0 : Int32), .int (4 : Int32)]) (st := []) (pc := 36) hΓ d_X6_day_36 mv_X6_within st_X6_within ml_6_58 ⟨⟨by decide, by decide⟩, by decide, by decide⟩ rfl rfl rfl (Nat.le_of_ble_eq_true rfl) rfl h (fun r4 σ5 h => ?_)
        refine tn_if_ne (tgt := 57) (pc := 39) hΓ d_X6_day_39 (by decide) (fun hq => ?_) (fun hq => ?_)
        · have h := h.1 hq
          refine tn_aload_n (pc := 57) hΓ d_X6_day_57 rfl ?_
          refine tn_iload_n (pc := 58) hΓ d_X6_day_58 rfl ?_
          refine tn_iload_n (pc := 59) hΓ d_X6_day_59 rfl ?_
          refine tn_iload_n (pc := 60) hΓ d_X6_day_60 rfl ?_
          refine tn_iload (pc := 61) hΓ d_X6_day_61 rfl ?_
          refine tn_cvI (As := [.int a0, .int a1, .int a2, .int a3]) (st := []) (pc := 63) hΓ d_X6_day_63 mv_X6_against im_X6_against se_X6_against ml_6_78 ⟨⟨by decide, by decide⟩, by decide, by decide⟩ rfl rfl rfl (by decide) ⟨_, rfl⟩ (gd_k hG (c := 39) rfl) (Nat.le_of_ble_eq_true rfl) rfl h (fun r5 σ6 h => ?_)
          refine tn_istore (loc' := [.ref 39, .int a0, .int a1, .int a2, .int a3, .int a4, .int r5, .null, .null, .null, .null]) (pc := 66) hΓ d_X6_day_66 (by decide) rfl rfl ?_
          refine tn_iload (pc := 68) hΓ d_X6_day_68 rfl ?_
          refine tn_if_eq (tgt := 80) (pc := 70) hΓ d_X6_day_70 (by decide) (fun hq => ?_) (fun hq => ?_)
          · have h := h.1 hq
            refine tn_aload_n (pc := 80) hΓ d_X6_day_80 rfl ?_
            refine tn_getI (pc := 81) hΓ d_X6_day_81 fl_6_62 rfl (gd_k hG (c := 39) rfl) ?_
            refine tn_if_ne (tgt := 90) (pc := 84) hΓ d_X6_day_84 (by decide) (fun hq => ?_) (fun hq => ?_)
            · have h := h.1 hq
              refine tn_bipush (pc := 90) hΓ d_X6_day_90 bp_60 ?_
              refine tn_iload_n (pc := 92) hΓ d_X6_day_92 rfl ?_
              refine tn_imul (pc := 93) hΓ d_X6_day_93 ?_
              refine tn_iload_n (pc := 94) hΓ d_X6_day_94 rfl ?_
              refine tn_iadd (pc := 95) hΓ d_X6_day_95 ?_
              refine tn_topi (fun x1 ex1 => ?_)
              have h := h x1 ex1
              refine tn_istore (loc' := [.ref 39, .int a0, .int a1, .int a2, .int a3, .int a4, .int r5, .int x1, .null, .null, .null]) (pc := 96) hΓ d_X6_day_96 (by decide) rfl rfl ?_
              refine tn_iconst (pc := 98) hΓ d_X6_day_98 ic_0 ?_
              refine tn_istore (loc' := [.ref 39, .int a0, .int a1, .int a2, .int a3, .int a4, .int r5, .int x1, .int (0 : Int32), .null, .null]) (pc := 99) hΓ d_X6_day_99 (by decide) rfl rfl ?_
              refine tn_drop [true, false, false, false, true, true, false, true, true, false, false] (loc' := [.ref 39, .null, .null, .null, .int a3, .int a4, .null, .int x1, .int (0 : Int32), .null, .null]) rfl ?_
              exact h
            · have h := h.2 hq
              refine tn_bipush (pc := 87) hΓ d_X6_day_87 bp_m3 ?_
              exact tn_ret_i (pc := 89) hΓ hK d_X6_day_89 rfl (by decide) (by decide) h
          · have h := h.2 hq
            refine tn_aload_n (pc := 73) hΓ d_X6_day_73 rfl ?_
            refine tn_iload (pc := 74) hΓ d_X6_day_74 rfl ?_
            refine tn_cvI (As := [.int r5]) (st := []) (pc := 76) hΓ d_X6_day_76 mv_X6_fails im_X6_fails se_X6_fails ml_6_82 ⟨⟨by decide, by decide⟩, by decide, by decide⟩ rfl rfl rfl (by decide) ⟨_, rfl⟩ (gd_k hG (c := 39) rfl) (Nat.le_of_ble_eq_true rfl) rfl h (fun r6 σ7 h => ?_)
            exact tn_ret_i (pc := 79) hΓ hK d_X6_day_79 rfl (by decide) (by decide) h
        · have h := h.2 hq
          refine tn_iload (pc := 42) hΓ d_X6_day_42 rfl ?_
          refine tn_bipush (pc := 44) hΓ d_X6_day_44 bp_10 ?_
          refine tn_bipush (pc := 46) hΓ d_X6_day_46 bp_14 ?_
          refine tn_csI (As := [.int a4, .int (10 : Int32), .int (14 : Int32)]) (st := []) (pc := 48) hΓ d_X6_day_48 mv_X6_within st_X6_within ml_6_58 ⟨⟨by decide, by decide⟩, by decide, by decide⟩ rfl rfl rfl (Nat.le_of_ble_eq_true rfl) rfl h (fun r7 σ8 h => ?_)
          refine tn_if_ne (tgt := 57) (pc := 51) hΓ d_X6_day_51 (by decide) (fun hq => ?_) (fun hq => ?_)
          · have h := h.1 hq
            refine tn_aload_n (pc := 57) hΓ d_X6_day_57 rfl ?_
            refine tn_iload_n (pc := 58) hΓ d_X6_day_58 rfl ?_
            refine tn_iload_n (pc := 59) hΓ d_X6_day_59 rfl ?_
            refine tn_iload_n (pc := 60) hΓ d_X6_day_60 rfl ?_
            refine tn_iload (pc := 61) hΓ d_X6_day_61 rfl ?_
            refine tn_cvI (As := [.int a0, .int a1, .int a2, .int a3]) (st := []) (pc := 63) hΓ d_X6_day_63 mv_X6_against im_X6_against se_X6_against ml_6_78 ⟨⟨by decide, by decide⟩, by decide, by decide⟩ rfl rfl rfl (by decide) ⟨_, rfl⟩ (gd_k hG (c := 39) rfl) (Nat.le_of_ble_eq_true rfl) rfl h (fun r8 σ9 h => ?_)
            refine tn_istore (loc' := [.ref 39, .int a0, .int a1, .int a2, .int a3, .int a4, .int r8, .null, .null, .null, .null]) (pc := 66) hΓ d_X6_day_66 (by decide) rfl rfl ?_
            refine tn_iload (pc := 68) hΓ d_X6_day_68 rfl ?_
            refine tn_if_eq (tgt := 80) (pc := 70) hΓ d_X6_day_70 (by decide) (fun hq => ?_) (fun hq => ?_)
            · have h := h.1 hq
              refine tn_aload_n (pc := 80) hΓ d_X6_day_80 rfl ?_
              refine tn_getI (pc := 81) hΓ d_X6_day_81 fl_6_62 rfl (gd_k hG (c := 39) rfl) ?_
              refine tn_if_ne (tgt := 90) (pc := 84) hΓ d_X6_day_84 (by decide) (fun hq => ?_) (fun hq => ?_)
              · have h := h.1 hq
                refine tn_bipush (pc := 90) hΓ d_X6_day_90 bp_60 ?_
                refine tn_iload_n (pc := 92) hΓ d_X6_day_92 rfl ?_
                refine tn_imul (pc := 93) hΓ d_X6_day_93 ?_
                refine tn_iload_n (pc := 94) hΓ d_X6_day_94 rfl ?_
                refine tn_iadd (pc := 95) hΓ d_X6_day_95 ?_
                refine tn_topi (fun x2 ex2 => ?_)
                have h := h x2 ex2
                refine tn_istore (loc' := [.ref 39, .int a0, .int a1, .int a2, .int a3, .int a4, .int r8, .int x2, .null, .null, .null]) (pc := 96) hΓ d_X6_day_96 (by decide) rfl rfl ?_
                refine tn_iconst (pc := 98) hΓ d_X6_day_98 ic_0 ?_
                refine tn_istore (loc' := [.ref 39, .int a0, .int a1, .int a2, .int a3, .int a4, .int r8, .int x2, .int (0 : Int32), .null, .null]) (pc := 99) hΓ d_X6_day_99 (by decide) rfl rfl ?_
                refine tn_drop [true, false, false, false, true, true, false, true, true, false, false] (loc' := [.ref 39, .null, .null, .null, .int a3, .int a4, .null, .int x2, .int (0 : Int32), .null, .null]) rfl ?_
                exact h
              · have h := h.2 hq
                refine tn_bipush (pc := 87) hΓ d_X6_day_87 bp_m3 ?_
                exact tn_ret_i (pc := 89) hΓ hK d_X6_day_89 rfl (by decide) (by decide) h
            · have h := h.2 hq
              refine tn_aload_n (pc := 73) hΓ d_X6_day_73 rfl ?_
              refine tn_iload (pc := 74) hΓ d_X6_day_74 rfl ?_
              refine tn_cvI (As := [.int r8]) (st := []) (pc := 76) hΓ d_X6_day_76 mv_X6_fails im_X6_fails se_X6_fails ml_6_82 ⟨⟨by decide, by decide⟩, by decide, by decide⟩ rfl rfl rfl (by decide) ⟨_, rfl⟩ (gd_k hG (c := 39) rfl) (Nat.le_of_ble_eq_true rfl) rfl h (fun r9 σ10 h => ?_)
              exact tn_ret_i (pc := 79) hΓ hK d_X6_day_79 rfl (by decide) (by decide) h
          · have h := h.2 hq
            refine tn_bipush (pc := 54) hΓ d_X6_day_54 bp_m2 ?_
            exact tn_ret_i (pc := 56) hΓ hK d_X6_day_56 rfl (by decide) (by decide) h
  · have h := h.2 hq
    refine tn_iconst (pc := 12) hΓ d_X6_day_12 ic_m1 ?_
    exact tn_ret_i (pc := 13) hΓ hK d_X6_day_13 rfl (by decide) (by decide) h
theorem k_X6_day_101 {Γ : tn_G} {ks : List (Nat × Nat)} {ρ : Nat → Nat → Nat} {σ : Nat → Nat → Int32} {K : Option Value → List (Nat × Nat) → (Nat → Nat → Nat) → (Nat → Nat → Int32) → Prop} (hG : tn_Gd ks ρ) (hΓ : tn_is Γ m_X6_day) (hK : tn_rt Γ m_X6_day K) (y4 : Int32) (y5 : Int32) (y7 : Int32) (y8 : Int32) (h : ((y4 ≤ y8 → tn_CV m_X6_keep [.ref 39, .int (0 : Int32)] ks ρ σ (fun σ1 => (∀ x1 : Int32, x1 = (σ1 39 10) → tn_CI m_X6_goDay [.ref 39, .int y7, .int y4] ks ρ σ1 (fun r1 σ2 => tn_CI m_X6_tellDay [.ref 39, .int y5, .int x1] ks ρ σ2 (fun r2 σ3 => tn_CV m_X6_putBack [.ref 39, .int (0 : Int32)] ks ρ σ3 (fun σ4 => ((¬ y5 = (1 : Int32) → ((¬ r1 = (-9 : Int32) → K (some (.int ((-100 : Int32) - r1))) ks ρ σ4) ∧ (r1 = (-9 : Int32) → K (some (.int r2)) ks ρ σ4))) ∧ (y5 = (1 : Int32) → K (some (.int r1)) ks ρ σ4)))))))) ∧ (¬ y4 ≤ y8 → (vp_in (y7 + y8) 240 ∧ tn_CI m_X6_within [.int (σ 42 (y7 + y8).toNatClampNeg), .int (0 : Int32), .int (14 : Int32)] ks ρ σ (fun r3 σ5 => ((¬ r3 = 0 → (∀ x2 : Int32, x2 = y8 + (1 : Int32) → tn_A Γ 101 [.ref 39, .null, .null, .null, .int y4, .int y5, .null, .int y7, .int x2, .null, .null] [] 0 0 ks ρ σ5)) ∧ (r3 = 0 → K (some (.int (-2 : Int32))) ks ρ σ5))))))) : tn_A Γ 101 [.ref 39, .null, .null, .null, .int y4, .int y5, .null, .int y7, .int y8, .null, .null] [] 0 0 ks ρ σ := by
  refine tn_iload (pc := 101) hΓ d_X6_day_101 rfl ?_
  refine tn_iload (pc := 103) hΓ d_X6_day_103 rfl ?_
  refine tn_icmp_ge (tgt := 136) (pc := 105) hΓ d_X6_day_105 (by decide) (fun hq => ?_) (fun hq => ?_)
  · have h := h.1 hq
    refine tn_aload_n (pc := 136) hΓ d_X6_day_136 rfl ?_
    refine tn_iconst (pc := 137) hΓ d_X6_day_137 ic_0 ?_
    refine tn_cvV (As := [.int (0 : Int32)]) (st := []) (pc := 138) hΓ d_X6_day_138 mv_X6_keep im_X6_keep se_X6_keep ml_6_170 ⟨⟨by decide, by decide⟩, by decide, by decide⟩ rfl rfl rfl (by decide) ⟨_, rfl⟩ (gd_k hG (c := 39) rfl) (Nat.le_of_ble_eq_true rfl) rfl h (fun σ1 h => ?_)
    refine tn_aload_n (pc := 141) hΓ d_X6_day_141 rfl ?_
    refine tn_getI (pc := 142) hΓ d_X6_day_142 fl_6_116 rfl (gd_k hG (c := 39) rfl) ?_
    refine tn_topi (fun x1 ex1 => ?_)
    have h := h x1 ex1
    refine tn_istore (loc' := [.ref 39, .null, .null, .null, .int y4, .int y5, .null, .int y7, .int x1, .null, .null]) (pc := 145) hΓ d_X6_day_145 (by decide) rfl rfl ?_
    refine tn_aload_n (pc := 147) hΓ d_X6_day_147 rfl ?_
    refine tn_iload (pc := 148) hΓ d_X6_day_148 rfl ?_
    refine tn_iload (pc := 150) hΓ d_X6_day_150 rfl ?_
    refine tn_cvI (As := [.int y7, .int y4]) (st := []) (pc := 152) hΓ d_X6_day_152 mv_X6_goDay im_X6_goDay se_X6_goDay ml_6_174 ⟨⟨by decide, by decide⟩, by decide, by decide⟩ rfl rfl rfl (by decide) ⟨_, rfl⟩ (gd_k hG (c := 39) rfl) (Nat.le_of_ble_eq_true rfl) rfl h (fun r1 σ2 h => ?_)
    refine tn_istore (loc' := [.ref 39, .null, .null, .null, .int y4, .int y5, .null, .int y7, .int x1, .int r1, .null]) (pc := 155) hΓ d_X6_day_155 (by decide) rfl rfl ?_
    refine tn_aload_n (pc := 157) hΓ d_X6_day_157 rfl ?_
    refine tn_iload (pc := 158) hΓ d_X6_day_158 rfl ?_
    refine tn_iload (pc := 160) hΓ d_X6_day_160 rfl ?_
    refine tn_cvI (As := [.int y5, .int x1]) (st := []) (pc := 162) hΓ d_X6_day_162 mv_X6_tellDay im_X6_tellDay se_X6_tellDay ml_6_178 ⟨⟨by decide, by decide⟩, by decide, by decide⟩ rfl rfl rfl (by decide) ⟨_, rfl⟩ (gd_k hG (c := 39) rfl) (Nat.le_of_ble_eq_true rfl) rfl h (fun r2 σ3 h => ?_)
    refine tn_istore (loc' := [.ref 39, .null, .null, .null, .int y4, .int y5, .null, .int y7, .int x1, .int r1, .int r2]) (pc := 165) hΓ d_X6_day_165 (by decide) rfl rfl ?_
    refine tn_aload_n (pc := 167) hΓ d_X6_day_167 rfl ?_
    refine tn_iconst (pc := 168) hΓ d_X6_day_168 ic_0 ?_
    refine tn_cvV (As := [.int (0 : Int32)]) (st := []) (pc := 169) hΓ d_X6_day_169 mv_X6_putBack im_X6_putBack se_X6_putBack ml_6_181 ⟨⟨by decide, by decide⟩, by decide, by decide⟩ rfl rfl rfl (by decide) ⟨_, rfl⟩ (gd_k hG (c := 39) rfl) (Nat.le_of_ble_eq_true rfl) rfl h (fun σ4 h => ?_)
    refine tn_iload (pc := 172) hΓ d_X6_day_172 rfl ?_
    refine tn_iconst (pc := 174) hΓ d_X6_day_174 ic_1 ?_
    refine tn_icmp_ne (tgt := 183) (pc := 175) hΓ d_X6_day_175 (by decide) (fun hq => ?_) (fun hq => ?_)
    · have h := h.1 hq
      refine tn_iload (pc := 183) hΓ d_X6_day_183 rfl ?_
      refine tn_bipush (pc := 185) hΓ d_X6_day_185 bp_m9 ?_
      refine tn_icmp_ne (tgt := 195) (pc := 187) hΓ d_X6_day_187 (by decide) (fun hq => ?_) (fun hq => ?_)
      · have h := h.1 hq
        refine tn_bipush (pc := 195) hΓ d_X6_day_195 bp_m100 ?_
        refine tn_iload (pc := 197) hΓ d_X6_day_197 rfl ?_
        refine tn_isub (pc := 199) hΓ d_X6_day_199 ?_
        exact tn_ret_i (pc := 200) hΓ hK d_X6_day_200 rfl (by decide) (by decide) h
      · have h := h.2 hq
        refine tn_iload (pc := 190) hΓ d_X6_day_190 rfl ?_
        refine tn_goto (tgt := 200) (pc := 192) hΓ d_X6_day_192 (by decide) ?_
        exact tn_ret_i (pc := 200) hΓ hK d_X6_day_200 rfl (by decide) (by decide) h
    · have h := h.2 hq
      refine tn_iload (pc := 178) hΓ d_X6_day_178 rfl ?_
      refine tn_goto (tgt := 200) (pc := 180) hΓ d_X6_day_180 (by decide) ?_
      exact tn_ret_i (pc := 200) hΓ hK d_X6_day_200 rfl (by decide) (by decide) h
  · have h := h.2 hq
    refine tn_aload_n (pc := 108) hΓ d_X6_day_108 rfl ?_
    refine tn_getRy (y := 42) (pc := 109) hΓ d_X6_day_109 fl_6_16 rfl (gd_k hG (c := 39) rfl) (gd_r hG 39 4 42 rfl rfl) ?_
    refine tn_iload (pc := 112) hΓ d_X6_day_112 rfl ?_
    refine tn_iload (pc := 114) hΓ d_X6_day_114 rfl ?_
    refine tn_iadd (pc := 116) hΓ d_X6_day_116 ?_
    obtain ⟨hi1, h⟩ := h
    refine tn_ald (pc := 117) hΓ d_X6_day_117 (gd_k hG (c := 42) rfl) hi1 ?_
    refine tn_iconst (pc := 118) hΓ d_X6_day_118 ic_0 ?_
    refine tn_bipush (pc := 119) hΓ d_X6_day_119 bp_14 ?_
    refine tn_csI (As := [.int (σ 42 (y7 + y8).toNatClampNeg), .int (0 : Int32), .int (14 : Int32)]) (st := []) (pc := 121) hΓ d_X6_day_121 mv_X6_within st_X6_within ml_6_58 ⟨⟨by decide, by decide⟩, by decide, by decide⟩ rfl rfl rfl (Nat.le_of_ble_eq_true rfl) rfl h (fun r3 σ5 h => ?_)
    refine tn_if_ne (tgt := 130) (pc := 124) hΓ d_X6_day_124 (by decide) (fun hq => ?_) (fun hq => ?_)
    · have h := h.1 hq
      refine tn_iincw (loc' := fun v_ => [.ref 39, .null, .null, .null, .int y4, .int y5, .null, .int y7, .int v_, .null, .null]) (pc := 130) hΓ d_X6_day_130 rfl ic_1 (by decide) rfl (fun _ => rfl) (fun x2 ex2 => ?_)
      have h := h x2 ex2
      refine tn_goto (tgt := 101) (pc := 133) hΓ d_X6_day_133 (by decide) ?_
      exact h
    · have h := h.2 hq
      refine tn_bipush (pc := 127) hΓ d_X6_day_127 bp_m2 ?_
      exact tn_ret_i (pc := 129) hΓ hK d_X6_day_129 rfl (by decide) (by decide) h
theorem k_X6_tellDay_0 {Γ : tn_G} {ks : List (Nat × Nat)} {ρ : Nat → Nat → Nat} {σ : Nat → Nat → Int32} {K : Option Value → List (Nat × Nat) → (Nat → Nat → Nat) → (Nat → Nat → Int32) → Prop} (hG : tn_Gd ks ρ) (hΓ : tn_is Γ m_X6_tellDay) (hK : tn_rt Γ m_X6_tellDay K) (a0 : Int32) (a1 : Int32) (h : ((a0 < (10 : Int32) → ((a0 = (0 : Int32) → tn_CI m_X6_voiceNow [.ref 39] ks ρ σ (fun r1 σ1 => K (some (.int r1)) ks ρ σ1)) ∧ (¬ a0 = (0 : Int32) → ((a0 = (1 : Int32) → K (some (.int (σ 39 8))) ks ρ σ) ∧ (¬ a0 = (1 : Int32) → ((a0 = (2 : Int32) → K (some (.int ((σ 39 10) - a1))) ks ρ σ) ∧ (¬ a0 = (2 : Int32) → ((a0 = (3 : Int32) → tn_CI m_X6_whoRankle [.ref 39] ks ρ σ (fun r2 σ2 => K (some (.int r2)) ks ρ σ2)) ∧ (¬ a0 = (3 : Int32) → K (some (.int (σ 39 8))) ks ρ σ))))))))) ∧ (¬ a0 < (10 : Int32) → tn_CI m_X6_isHouse [.ref 39, .int (a0 - (10 : Int32))] ks ρ σ (fun r3 σ3 => ((r3 = 0 → K (some (.int (-9 : Int32))) ks ρ σ3) ∧ (¬ r3 = 0 → (vp_in (a0 - (10 : Int32)) 5 ∧ K (some (.int (σ3 45 (a0 - (10 : Int32)).toNatClampNeg))) ks ρ σ3))))))) : tn_A Γ 0 [.ref 39, .int a0, .int a1] [] 0 0 ks ρ σ := by
  refine tn_iload_n (pc := 0) hΓ d_X6_tellDay_0 rfl ?_
  refine tn_bipush (pc := 1) hΓ d_X6_tellDay_1 bp_10 ?_
  refine tn_icmp_lt (tgt := 32) (pc := 3) hΓ d_X6_tellDay_3 (by decide) (fun hq => ?_) (fun hq => ?_)
  · have h := h.1 hq
    refine tn_iload_n (pc := 32) hΓ d_X6_tellDay_32 rfl ?_
    refine tn_byc (a0 = (0 : Int32)) (fun hq => ?_) (fun hq0 => ?_)
    · have h := h.1 hq
      refine tn_tblIn (off := 31) (tgt := 64) (pc := 33) hΓ d_X6_tellDay_33 (by rw [hq] <;> decide) (by rw [hq] <;> decide) (by rw [hq] <;> rfl) (by decide) ?_
      refine tn_aload_n (pc := 64) hΓ d_X6_tellDay_64 rfl ?_
      refine tn_cvI (As := []) (st := []) (pc := 65) hΓ d_X6_tellDay_65 mv_X6_voiceNow im_X6_voiceNow se_X6_voiceNow ml_6_151 ⟨⟨by decide, by decide⟩, by decide, by decide⟩ rfl rfl rfl (by decide) ⟨_, rfl⟩ (gd_k hG (c := 39) rfl) (Nat.le_of_ble_eq_true rfl) rfl h (fun r1 σ1 h => ?_)
      exact tn_ret_i (pc := 68) hΓ hK d_X6_tellDay_68 rfl (by decide) (by decide) h
    have h := h.2 hq0
    refine tn_byc (a0 = (1 : Int32)) (fun hq => ?_) (fun hq1 => ?_)
    · have h := h.1 hq
      refine tn_tblIn (off := 48) (tgt := 81) (pc := 33) hΓ d_X6_tellDay_33 (by rw [hq] <;> decide) (by rw [hq] <;> decide) (by rw [hq] <;> rfl) (by decide) ?_
      refine tn_aload_n (pc := 81) hΓ d_X6_tellDay_81 rfl ?_
      refine tn_getI (pc := 82) hΓ d_X6_tellDay_82 fl_6_110 rfl (gd_k hG (c := 39) rfl) ?_
      exact tn_ret_i (pc := 85) hΓ hK d_X6_tellDay_85 rfl (by decide) (by decide) h
    have h := h.2 hq1
    refine tn_byc (a0 = (2 : Int32)) (fun hq => ?_) (fun hq2 => ?_)
    · have h := h.1 hq
      refine tn_tblIn (off := 36) (tgt := 69) (pc := 33) hΓ d_X6_tellDay_33 (by rw [hq] <;> decide) (by rw [hq] <;> decide) (by rw [hq] <;> rfl) (by decide) ?_
      refine tn_aload_n (pc := 69) hΓ d_X6_tellDay_69 rfl ?_
      refine tn_getI (pc := 70) hΓ d_X6_tellDay_70 fl_6_116 rfl (gd_k hG (c := 39) rfl) ?_
      refine tn_iload_n (pc := 73) hΓ d_X6_tellDay_73 rfl ?_
      refine tn_isub (pc := 74) hΓ d_X6_tellDay_74 ?_
      exact tn_ret_i (pc := 75) hΓ hK d_X6_tellDay_75 rfl (by decide) (by decide) h
    have h := h.2 hq2
    refine tn_byc (a0 = (3 : Int32)) (fun hq => ?_) (fun hq3 => ?_)
    · have h := h.1 hq
      refine tn_tblIn (off := 43) (tgt := 76) (pc := 33) hΓ d_X6_tellDay_33 (by rw [hq] <;> decide) (by rw [hq] <;> decide) (by rw [hq] <;> rfl) (by decide) ?_
      refine tn_aload_n (pc := 76) hΓ d_X6_tellDay_76 rfl ?_
      refine tn_cvI (As := []) (st := []) (pc := 77) hΓ d_X6_tellDay_77 mv_X6_whoRankle im_X6_whoRankle se_X6_whoRankle ml_6_158 ⟨⟨by decide, by decide⟩, by decide, by decide⟩ rfl rfl rfl (by decide) ⟨_, rfl⟩ (gd_k hG (c := 39) rfl) (Nat.le_of_ble_eq_true rfl) rfl h (fun r2 σ2 h => ?_)
      exact tn_ret_i (pc := 80) hΓ hK d_X6_tellDay_80 rfl (by decide) (by decide) h
    have h := h.2 hq3
    refine tn_tblOut (tgt := 81) (pc := 33) hΓ d_X6_tellDay_33 (tn_out_0_3 hq0 hq1 hq2 hq3) (by decide) ?_
    refine tn_aload_n (pc := 81) hΓ d_X6_tellDay_81 rfl ?_
    refine tn_getI (pc := 82) hΓ d_X6_tellDay_82 fl_6_110 rfl (gd_k hG (c := 39) rfl) ?_
    exact tn_ret_i (pc := 85) hΓ hK d_X6_tellDay_85 rfl (by decide) (by decide) h
  · have h := h.2 hq
    refine tn_aload_n (pc := 6) hΓ d_X6_tellDay_6 rfl ?_
    refine tn_iload_n (pc := 7) hΓ d_X6_tellDay_7 rfl ?_
    refine tn_bipush (pc := 8) hΓ d_X6_tellDay_8 bp_10 ?_
    refine tn_isub (pc := 10) hΓ d_X6_tellDay_10 ?_
    refine tn_cvI (As := [.int (a0 - (10 : Int32))]) (st := []) (pc := 11) hΓ d_X6_tellDay_11 mv_X6_isHouse im_X6_isHouse se_X6_isHouse ml_6_145 ⟨⟨by decide, by decide⟩, by decide, by decide⟩ rfl rfl rfl (by decide) ⟨_, rfl⟩ (gd_k hG (c := 39) rfl) (Nat.le_of_ble_eq_true rfl) rfl h (fun r3 σ3 h => ?_)
    refine tn_if_eq (tgt := 29) (pc := 14) hΓ d_X6_tellDay_14 (by decide) (fun hq => ?_) (fun hq => ?_)
    · have h := h.1 hq
      refine tn_bipush (pc := 29) hΓ d_X6_tellDay_29 bp_m9 ?_
      exact tn_ret_i (pc := 31) hΓ hK d_X6_tellDay_31 rfl (by decide) (by decide) h
    · have h := h.2 hq
      refine tn_aload_n (pc := 17) hΓ d_X6_tellDay_17 rfl ?_
      refine tn_getRy (y := 45) (pc := 18) hΓ d_X6_tellDay_18 fl_6_25 rfl (gd_k hG (c := 39) rfl) (gd_r hG 39 15 45 rfl rfl) ?_
      refine tn_iload_n (pc := 21) hΓ d_X6_tellDay_21 rfl ?_
      refine tn_bipush (pc := 22) hΓ d_X6_tellDay_22 bp_10 ?_
      refine tn_isub (pc := 24) hΓ d_X6_tellDay_24 ?_
      obtain ⟨hi1, h⟩ := h
      refine tn_ald (pc := 25) hΓ d_X6_tellDay_25 (gd_k hG (c := 45) rfl) hi1 ?_
      refine tn_goto (tgt := 31) (pc := 26) hΓ d_X6_tellDay_26 (by decide) ?_
      exact tn_ret_i (pc := 31) hΓ hK d_X6_tellDay_31 rfl (by decide) (by decide) h
theorem k_X6_behind_0 {Γ : tn_G} {ks : List (Nat × Nat)} {ρ : Nat → Nat → Nat} {σ : Nat → Nat → Int32} {K : Option Value → List (Nat × Nat) → (Nat → Nat → Nat) → (Nat → Nat → Int32) → Prop} (hG : tn_Gd ks ρ) (hΓ : tn_is Γ m_X6_behind) (hK : tn_rt Γ m_X6_behind K) (a0 : Int32) (a1 : Int32) (h : tn_CI m_X6_within [.int a0, .int (0 : Int32), .int (60 : Int32)] ks ρ σ (fun r1 σ1 => ((r1 = 0 → K (some (.int (-2 : Int32))) ks ρ σ1) ∧ (¬ r1 = 0 → tn_CI m_X6_within [.int a1, .int (0 : Int32), .int (2 : Int32)] ks ρ σ1 (fun r2 σ2 => ((¬ r2 = 0 → ((¬ (σ2 39 5) = 0 → tn_CV m_X6_keep [.ref 39, .int (0 : Int32)] ks ρ σ2 (fun σ3 => (∀ x1 : Int32, x1 = (σ3 39 10) → tn_A Γ 45 [.ref 39, .int a0, .int a1, .int x1, .int (0 : Int32)] [] 0 0 ks ρ σ3))) ∧ ((σ2 39 5) = 0 → K (some (.int (-3 : Int32))) ks ρ σ2))) ∧ (r2 = 0 → K (some (.int (-2 : Int32))) ks ρ σ2))))))) : tn_A Γ 0 [.ref 39, .int a0, .int a1, .null, .null] [] 0 0 ks ρ σ := by
  refine tn_iload_n (pc := 0) hΓ d_X6_behind_0 rfl ?_
  refine tn_iconst (pc := 1) hΓ d_X6_behind_1 ic_0 ?_
  refine tn_bipush (pc := 2) hΓ d_X6_behind_2 bp_60 ?_
  refine tn_csI (As := [.int a0, .int (0 : Int32), .int (60 : Int32)]) (st := []) (pc := 4) hΓ d_X6_behind_4 mv_X6_within st_X6_within ml_6_58 ⟨⟨by decide, by decide⟩, by decide, by decide⟩ rfl rfl rfl (Nat.le_of_ble_eq_true rfl) rfl h (fun r1 σ1 h => ?_)
  refine tn_if_eq (tgt := 19) (pc := 7) hΓ d_X6_behind_7 (by decide) (fun hq => ?_) (fun hq => ?_)
  · have h := h.1 hq
    refine tn_bipush (pc := 19) hΓ d_X6_behind_19 bp_m2 ?_
    exact tn_ret_i (pc := 21) hΓ hK d_X6_behind_21 rfl (by decide) (by decide) h
  · have h := h.2 hq
    refine tn_iload_n (pc := 10) hΓ d_X6_behind_10 rfl ?_
    refine tn_iconst (pc := 11) hΓ d_X6_behind_11 ic_0 ?_
    refine tn_iconst (pc := 12) hΓ d_X6_behind_12 ic_2 ?_
    refine tn_csI (As := [.int a1, .int (0 : Int32), .int (2 : Int32)]) (st := []) (pc := 13) hΓ d_X6_behind_13 mv_X6_within st_X6_within ml_6_58 ⟨⟨by decide, by decide⟩, by decide, by decide⟩ rfl rfl rfl (Nat.le_of_ble_eq_true rfl) rfl h (fun r2 σ2 h => ?_)
    refine tn_if_ne (tgt := 22) (pc := 16) hΓ d_X6_behind_16 (by decide) (fun hq => ?_) (fun hq => ?_)
    · have h := h.1 hq
      refine tn_aload_n (pc := 22) hΓ d_X6_behind_22 rfl ?_
      refine tn_getI (pc := 23) hΓ d_X6_behind_23 fl_6_62 rfl (gd_k hG (c := 39) rfl) ?_
      refine tn_if_ne (tgt := 32) (pc := 26) hΓ d_X6_behind_26 (by decide) (fun hq => ?_) (fun hq => ?_)
      · have h := h.1 hq
        refine tn_aload_n (pc := 32) hΓ d_X6_behind_32 rfl ?_
        refine tn_iconst (pc := 33) hΓ d_X6_behind_33 ic_0 ?_
        refine tn_cvV (As := [.int (0 : Int32)]) (st := []) (pc := 34) hΓ d_X6_behind_34 mv_X6_keep im_X6_keep se_X6_keep ml_6_170 ⟨⟨by decide, by decide⟩, by decide, by decide⟩ rfl rfl rfl (by decide) ⟨_, rfl⟩ (gd_k hG (c := 39) rfl) (Nat.le_of_ble_eq_true rfl) rfl h (fun σ3 h => ?_)
        refine tn_aload_n (pc := 37) hΓ d_X6_behind_37 rfl ?_
        refine tn_getI (pc := 38) hΓ d_X6_behind_38 fl_6_116 rfl (gd_k hG (c := 39) rfl) ?_
        refine tn_topi (fun x1 ex1 => ?_)
        have h := h x1 ex1
        refine tn_istore_n (loc' := [.ref 39, .int a0, .int a1, .int x1, .null]) (pc := 41) hΓ d_X6_behind_41 (by decide) rfl rfl ?_
        refine tn_iconst (pc := 42) hΓ d_X6_behind_42 ic_0 ?_
        refine tn_istore (loc' := [.ref 39, .int a0, .int a1, .int x1, .int (0 : Int32)]) (pc := 43) hΓ d_X6_behind_43 (by decide) rfl rfl ?_
        exact h
      · have h := h.2 hq
        refine tn_bipush (pc := 29) hΓ d_X6_behind_29 bp_m3 ?_
        exact tn_ret_i (pc := 31) hΓ hK d_X6_behind_31 rfl (by decide) (by decide) h
    · have h := h.2 hq
      refine tn_bipush (pc := 19) hΓ d_X6_behind_19 bp_m2 ?_
      exact tn_ret_i (pc := 21) hΓ hK d_X6_behind_21 rfl (by decide) (by decide) h
theorem k_X6_behind_45 {Γ : tn_G} {ks : List (Nat × Nat)} {ρ : Nat → Nat → Nat} {σ : Nat → Nat → Int32} {K : Option Value → List (Nat × Nat) → (Nat → Nat → Nat) → (Nat → Nat → Int32) → Prop} (hG : tn_Gd ks ρ) (hΓ : tn_is Γ m_X6_behind) (hK : tn_rt Γ m_X6_behind K) (y1 : Int32) (y2 : Int32) (y3 : Int32) (y4 : Int32) (h : ((y1 ≤ y4 → ((¬ y2 = 0 → ((¬ y2 = (1 : Int32) → (∀ x1 : Int32, x1 = ((σ 39 10) - y3) → tn_CV m_X6_putBack [.ref 39, .int (0 : Int32)] ks ρ σ (fun σ1 => K (some (.int x1)) ks ρ σ1))) ∧ (y2 = (1 : Int32) → (∀ x2 : Int32, x2 = (σ 39 8) → tn_CV m_X6_putBack [.ref 39, .int (0 : Int32)] ks ρ σ (fun σ2 => K (some (.int x2)) ks ρ σ2))))) ∧ (y2 = 0 → tn_CI m_X6_voiceNow [.ref 39] ks ρ σ (fun r1 σ3 => tn_CV m_X6_putBack [.ref 39, .int (0 : Int32)] ks ρ σ3 (fun σ4 => K (some (.int r1)) ks ρ σ4))))) ∧ (¬ y1 ≤ y4 → tn_CV m_X6_goesNight [.ref 39] ks ρ σ (fun σ5 => (∀ x3 : Int32, x3 = y4 + (1 : Int32) → tn_A Γ 45 [.ref 39, .int y1, .int y2, .int y3, .int x3] [] 0 0 ks ρ σ5))))) : tn_A Γ 45 [.ref 39, .int y1, .int y2, .int y3, .int y4] [] 0 0 ks ρ σ := by
  refine tn_iload (pc := 45) hΓ d_X6_behind_45 rfl ?_
  refine tn_iload_n (pc := 47) hΓ d_X6_behind_47 rfl ?_
  refine tn_icmp_ge (tgt := 61) (pc := 48) hΓ d_X6_behind_48 (by decide) (fun hq => ?_) (fun hq => ?_)
  · have h := h.1 hq
    refine tn_iload_n (pc := 61) hΓ d_X6_behind_61 rfl ?_
    refine tn_if_ne (tgt := 72) (pc := 62) hΓ d_X6_behind_62 (by decide) (fun hq => ?_) (fun hq => ?_)
    · have h := h.1 hq
      refine tn_iload_n (pc := 72) hΓ d_X6_behind_72 rfl ?_
      refine tn_iconst (pc := 73) hΓ d_X6_behind_73 ic_1 ?_
      refine tn_icmp_ne (tgt := 84) (pc := 74) hΓ d_X6_behind_74 (by decide) (fun hq => ?_) (fun hq => ?_)
      · have h := h.1 hq
        refine tn_aload_n (pc := 84) hΓ d_X6_behind_84 rfl ?_
        refine tn_getI (pc := 85) hΓ d_X6_behind_85 fl_6_116 rfl (gd_k hG (c := 39) rfl) ?_
        refine tn_iload_n (pc := 88) hΓ d_X6_behind_88 rfl ?_
        refine tn_isub (pc := 89) hΓ d_X6_behind_89 ?_
        refine tn_topi (fun x1 ex1 => ?_)
        have h := h x1 ex1
        refine tn_istore (loc' := [.ref 39, .int y1, .int y2, .int y3, .int x1]) (pc := 90) hΓ d_X6_behind_90 (by decide) rfl rfl ?_
        refine tn_aload_n (pc := 92) hΓ d_X6_behind_92 rfl ?_
        refine tn_iconst (pc := 93) hΓ d_X6_behind_93 ic_0 ?_
        refine tn_cvV (As := [.int (0 : Int32)]) (st := []) (pc := 94) hΓ d_X6_behind_94 mv_X6_putBack im_X6_putBack se_X6_putBack ml_6_181 ⟨⟨by decide, by decide⟩, by decide, by decide⟩ rfl rfl rfl (by decide) ⟨_, rfl⟩ (gd_k hG (c := 39) rfl) (Nat.le_of_ble_eq_true rfl) rfl h (fun σ1 h => ?_)
        refine tn_iload (pc := 97) hΓ d_X6_behind_97 rfl ?_
        exact tn_ret_i (pc := 99) hΓ hK d_X6_behind_99 rfl (by decide) (by decide) h
      · have h := h.2 hq
        refine tn_aload_n (pc := 77) hΓ d_X6_behind_77 rfl ?_
        refine tn_getI (pc := 78) hΓ d_X6_behind_78 fl_6_110 rfl (gd_k hG (c := 39) rfl) ?_
        refine tn_goto (tgt := 90) (pc := 81) hΓ d_X6_behind_81 (by decide) ?_
        refine tn_topi (fun x2 ex2 => ?_)
        have h := h x2 ex2
        refine tn_istore (loc' := [.ref 39, .int y1, .int y2, .int y3, .int x2]) (pc := 90) hΓ d_X6_behind_90 (by decide) rfl rfl ?_
        refine tn_aload_n (pc := 92) hΓ d_X6_behind_92 rfl ?_
        refine tn_iconst (pc := 93) hΓ d_X6_behind_93 ic_0 ?_
        refine tn_cvV (As := [.int (0 : Int32)]) (st := []) (pc := 94) hΓ d_X6_behind_94 mv_X6_putBack im_X6_putBack se_X6_putBack ml_6_181 ⟨⟨by decide, by decide⟩, by decide, by decide⟩ rfl rfl rfl (by decide) ⟨_, rfl⟩ (gd_k hG (c := 39) rfl) (Nat.le_of_ble_eq_true rfl) rfl h (fun σ2 h => ?_)
        refine tn_iload (pc := 97) hΓ d_X6_behind_97 rfl ?_
        exact tn_ret_i (pc := 99) hΓ hK d_X6_behind_99 rfl (by decide) (by decide) h
    · have h := h.2 hq
      refine tn_aload_n (pc := 65) hΓ d_X6_behind_65 rfl ?_
      refine tn_cvI (As := []) (st := []) (pc := 66) hΓ d_X6_behind_66 mv_X6_voiceNow im_X6_voiceNow se_X6_voiceNow ml_6_151 ⟨⟨by decide, by decide⟩, by decide, by decide⟩ rfl rfl rfl (by decide) ⟨_, rfl⟩ (gd_k hG (c := 39) rfl) (Nat.le_of_ble_eq_true rfl) rfl h (fun r1 σ3 h => ?_)
      refine tn_goto (tgt := 90) (pc := 69) hΓ d_X6_behind_69 (by decide) ?_
      refine tn_istore (loc' := [.ref 39, .int y1, .int y2, .int y3, .int r1]) (pc := 90) hΓ d_X6_behind_90 (by decide) rfl rfl ?_
      refine tn_aload_n (pc := 92) hΓ d_X6_behind_92 rfl ?_
      refine tn_iconst (pc := 93) hΓ d_X6_behind_93 ic_0 ?_
      refine tn_cvV (As := [.int (0 : Int32)]) (st := []) (pc := 94) hΓ d_X6_behind_94 mv_X6_putBack im_X6_putBack se_X6_putBack ml_6_181 ⟨⟨by decide, by decide⟩, by decide, by decide⟩ rfl rfl rfl (by decide) ⟨_, rfl⟩ (gd_k hG (c := 39) rfl) (Nat.le_of_ble_eq_true rfl) rfl h (fun σ4 h => ?_)
      refine tn_iload (pc := 97) hΓ d_X6_behind_97 rfl ?_
      exact tn_ret_i (pc := 99) hΓ hK d_X6_behind_99 rfl (by decide) (by decide) h
  · have h := h.2 hq
    refine tn_aload_n (pc := 51) hΓ d_X6_behind_51 rfl ?_
    refine tn_cvV (As := []) (st := []) (pc := 52) hΓ d_X6_behind_52 mv_X6_goesNight im_X6_goesNight se_X6_goesNight ml_6_164 ⟨⟨by decide, by decide⟩, by decide, by decide⟩ rfl rfl rfl (by decide) ⟨_, rfl⟩ (gd_k hG (c := 39) rfl) (Nat.le_of_ble_eq_true rfl) rfl h (fun σ5 h => ?_)
    refine tn_iincw (loc' := fun v_ => [.ref 39, .int y1, .int y2, .int y3, .int v_]) (pc := 55) hΓ d_X6_behind_55 rfl ic_1 (by decide) rfl (fun _ => rfl) (fun x3 ex3 => ?_)
    have h := h x3 ex3
    refine tn_goto (tgt := 45) (pc := 58) hΓ d_X6_behind_58 (by decide) ?_
    exact h
theorem k_X6_quietIn_0 {Γ : tn_G} {ks : List (Nat × Nat)} {ρ : Nat → Nat → Nat} {σ : Nat → Nat → Int32} {K : Option Value → List (Nat × Nat) → (Nat → Nat → Nat) → (Nat → Nat → Int32) → Prop} (hG : tn_Gd ks ρ) (hΓ : tn_is Γ m_X6_quietIn) (hK : tn_rt Γ m_X6_quietIn K) (a0 : Int32) (h : tn_CV m_X6_keep [.ref 39, .int (1 : Int32)] ks ρ σ (fun σ1 => tn_A Γ 7 [.ref 39, .int a0, .int (0 : Int32), .null] [] 0 0 ks ρ σ1)) : tn_A Γ 0 [.ref 39, .int a0, .null, .null] [] 0 0 ks ρ σ := by
  refine tn_aload_n (pc := 0) hΓ d_X6_quietIn_0 rfl ?_
  refine tn_iconst (pc := 1) hΓ d_X6_quietIn_1 ic_1 ?_
  refine tn_cvV (As := [.int (1 : Int32)]) (st := []) (pc := 2) hΓ d_X6_quietIn_2 mv_X6_keep im_X6_keep se_X6_keep ml_6_170 ⟨⟨by decide, by decide⟩, by decide, by decide⟩ rfl rfl rfl (by decide) ⟨_, rfl⟩ (gd_k hG (c := 39) rfl) (Nat.le_of_ble_eq_true rfl) rfl h (fun σ1 h => ?_)
  refine tn_iconst (pc := 5) hΓ d_X6_quietIn_5 ic_0 ?_
  refine tn_istore_n (loc' := [.ref 39, .int a0, .int (0 : Int32), .null]) (pc := 6) hΓ d_X6_quietIn_6 (by decide) rfl rfl ?_
  exact h
theorem k_X6_quietIn_7 {Γ : tn_G} {ks : List (Nat × Nat)} {ρ : Nat → Nat → Nat} {σ : Nat → Nat → Int32} {K : Option Value → List (Nat × Nat) → (Nat → Nat → Nat) → (Nat → Nat → Int32) → Prop} (hG : tn_Gd ks ρ) (hΓ : tn_is Γ m_X6_quietIn) (hK : tn_rt Γ m_X6_quietIn K) (y1 : Int32) (y2 : Int32) (h : tn_CI m_X6_voiceNow [.ref 39] ks ρ σ (fun r1 σ1 => ((r1 ≤ 0 → tn_CI m_X6_voiceNow [.ref 39] ks ρ σ1 (fun r2 σ2 => ((¬ r2 = 0 → tn_CV m_X6_putBack [.ref 39, .int (1 : Int32)] ks ρ σ2 (fun σ3 => K (some (.int (-9 : Int32))) ks ρ σ3)) ∧ (r2 = 0 → tn_CV m_X6_putBack [.ref 39, .int (1 : Int32)] ks ρ σ2 (fun σ4 => K (some (.int y2)) ks ρ σ4))))) ∧ (¬ r1 ≤ 0 → ((y1 ≤ y2 → tn_CI m_X6_voiceNow [.ref 39] ks ρ σ1 (fun r3 σ5 => ((¬ r3 = 0 → tn_CV m_X6_putBack [.ref 39, .int (1 : Int32)] ks ρ σ5 (fun σ6 => K (some (.int (-9 : Int32))) ks ρ σ6)) ∧ (r3 = 0 → tn_CV m_X6_putBack [.ref 39, .int (1 : Int32)] ks ρ σ5 (fun σ7 => K (some (.int y2)) ks ρ σ7))))) ∧ (¬ y1 ≤ y2 → tn_CV m_X6_goesNight [.ref 39] ks ρ σ1 (fun σ8 => (∀ x1 : Int32, x1 = y2 + (1 : Int32) → tn_A Γ 7 [.ref 39, .int y1, .int x1, .null] [] 0 0 ks ρ σ8)))))))) : tn_A Γ 7 [.ref 39, .int y1, .int y2, .null] [] 0 0 ks ρ σ := by
  refine tn_aload_n (pc := 7) hΓ d_X6_quietIn_7 rfl ?_
  refine tn_cvI (As := []) (st := []) (pc := 8) hΓ d_X6_quietIn_8 mv_X6_voiceNow im_X6_voiceNow se_X6_voiceNow ml_6_151 ⟨⟨by decide, by decide⟩, by decide, by decide⟩ rfl rfl rfl (by decide) ⟨_, rfl⟩ (gd_k hG (c := 39) rfl) (Nat.le_of_ble_eq_true rfl) rfl h (fun r1 σ1 h => ?_)
  refine tn_if_le (tgt := 29) (pc := 11) hΓ d_X6_quietIn_11 (by decide) (fun hq => ?_) (fun hq => ?_)
  · have h := h.1 hq
    refine tn_aload_n (pc := 29) hΓ d_X6_quietIn_29 rfl ?_
    refine tn_cvI (As := []) (st := []) (pc := 30) hΓ d_X6_quietIn_30 mv_X6_voiceNow im_X6_voiceNow se_X6_voiceNow ml_6_151 ⟨⟨by decide, by decide⟩, by decide, by decide⟩ rfl rfl rfl (by decide) ⟨_, rfl⟩ (gd_k hG (c := 39) rfl) (Nat.le_of_ble_eq_true rfl) rfl h (fun r2 σ2 h => ?_)
    refine tn_if_ne (tgt := 40) (pc := 33) hΓ d_X6_quietIn_33 (by decide) (fun hq => ?_) (fun hq => ?_)
    · have h := h.1 hq
      refine tn_bipush (pc := 40) hΓ d_X6_quietIn_40 bp_m9 ?_
      refine tn_istore_n (loc' := [.ref 39, .int y1, .int y2, .int (-9 : Int32)]) (pc := 42) hΓ d_X6_quietIn_42 (by decide) rfl rfl ?_
      refine tn_aload_n (pc := 43) hΓ d_X6_quietIn_43 rfl ?_
      refine tn_iconst (pc := 44) hΓ d_X6_quietIn_44 ic_1 ?_
      refine tn_cvV (As := [.int (1 : Int32)]) (st := []) (pc := 45) hΓ d_X6_quietIn_45 mv_X6_putBack im_X6_putBack se_X6_putBack ml_6_181 ⟨⟨by decide, by decide⟩, by decide, by decide⟩ rfl rfl rfl (by decide) ⟨_, rfl⟩ (gd_k hG (c := 39) rfl) (Nat.le_of_ble_eq_true rfl) rfl h (fun σ3 h => ?_)
      refine tn_iload_n (pc := 48) hΓ d_X6_quietIn_48 rfl ?_
      exact tn_ret_i (pc := 49) hΓ hK d_X6_quietIn_49 rfl (by decide) (by decide) h
    · have h := h.2 hq
      refine tn_iload_n (pc := 36) hΓ d_X6_quietIn_36 rfl ?_
      refine tn_goto (tgt := 42) (pc := 37) hΓ d_X6_quietIn_37 (by decide) ?_
      refine tn_istore_n (loc' := [.ref 39, .int y1, .int y2, .int y2]) (pc := 42) hΓ d_X6_quietIn_42 (by decide) rfl rfl ?_
      refine tn_aload_n (pc := 43) hΓ d_X6_quietIn_43 rfl ?_
      refine tn_iconst (pc := 44) hΓ d_X6_quietIn_44 ic_1 ?_
      refine tn_cvV (As := [.int (1 : Int32)]) (st := []) (pc := 45) hΓ d_X6_quietIn_45 mv_X6_putBack im_X6_putBack se_X6_putBack ml_6_181 ⟨⟨by decide, by decide⟩, by decide, by decide⟩ rfl rfl rfl (by decide) ⟨_, rfl⟩ (gd_k hG (c := 39) rfl) (Nat.le_of_ble_eq_true rfl) rfl h (fun σ4 h => ?_)
      refine tn_iload_n (pc := 48) hΓ d_X6_quietIn_48 rfl ?_
      exact tn_ret_i (pc := 49) hΓ hK d_X6_quietIn_49 rfl (by decide) (by decide) h
  · have h := h.2 hq
    refine tn_iload_n (pc := 14) hΓ d_X6_quietIn_14 rfl ?_
    refine tn_iload_n (pc := 15) hΓ d_X6_quietIn_15 rfl ?_
    refine tn_icmp_ge (tgt := 29) (pc := 16) hΓ d_X6_quietIn_16 (by decide) (fun hq => ?_) (fun hq => ?_)
    · have h := h.1 hq
      refine tn_aload_n (pc := 29) hΓ d_X6_quietIn_29 rfl ?_
      refine tn_cvI (As := []) (st := []) (pc := 30) hΓ d_X6_quietIn_30 mv_X6_voiceNow im_X6_voiceNow se_X6_voiceNow ml_6_151 ⟨⟨by decide, by decide⟩, by decide, by decide⟩ rfl rfl rfl (by decide) ⟨_, rfl⟩ (gd_k hG (c := 39) rfl) (Nat.le_of_ble_eq_true rfl) rfl h (fun r3 σ5 h => ?_)
      refine tn_if_ne (tgt := 40) (pc := 33) hΓ d_X6_quietIn_33 (by decide) (fun hq => ?_) (fun hq => ?_)
      · have h := h.1 hq
        refine tn_bipush (pc := 40) hΓ d_X6_quietIn_40 bp_m9 ?_
        refine tn_istore_n (loc' := [.ref 39, .int y1, .int y2, .int (-9 : Int32)]) (pc := 42) hΓ d_X6_quietIn_42 (by decide) rfl rfl ?_
        refine tn_aload_n (pc := 43) hΓ d_X6_quietIn_43 rfl ?_
        refine tn_iconst (pc := 44) hΓ d_X6_quietIn_44 ic_1 ?_
        refine tn_cvV (As := [.int (1 : Int32)]) (st := []) (pc := 45) hΓ d_X6_quietIn_45 mv_X6_putBack im_X6_putBack se_X6_putBack ml_6_181 ⟨⟨by decide, by decide⟩, by decide, by decide⟩ rfl rfl rfl (by decide) ⟨_, rfl⟩ (gd_k hG (c := 39) rfl) (Nat.le_of_ble_eq_true rfl) rfl h (fun σ6 h => ?_)
        refine tn_iload_n (pc := 48) hΓ d_X6_quietIn_48 rfl ?_
        exact tn_ret_i (pc := 49) hΓ hK d_X6_quietIn_49 rfl (by decide) (by decide) h
      · have h := h.2 hq
        refine tn_iload_n (pc := 36) hΓ d_X6_quietIn_36 rfl ?_
        refine tn_goto (tgt := 42) (pc := 37) hΓ d_X6_quietIn_37 (by decide) ?_
        refine tn_istore_n (loc' := [.ref 39, .int y1, .int y2, .int y2]) (pc := 42) hΓ d_X6_quietIn_42 (by decide) rfl rfl ?_
        refine tn_aload_n (pc := 43) hΓ d_X6_quietIn_43 rfl ?_
        refine tn_iconst (pc := 44) hΓ d_X6_quietIn_44 ic_1 ?_
        refine tn_cvV (As := [.int (1 : Int32)]) (st := []) (pc := 45) hΓ d_X6_quietIn_45 mv_X6_putBack im_X6_putBack se_X6_putBack ml_6_181 ⟨⟨by decide, by decide⟩, by decide, by decide⟩ rfl rfl rfl (by decide) ⟨_, rfl⟩ (gd_k hG (c := 39) rfl) (Nat.le_of_ble_eq_true rfl) rfl h (fun σ7 h => ?_)
        refine tn_iload_n (pc := 48) hΓ d_X6_quietIn_48 rfl ?_
        exact tn_ret_i (pc := 49) hΓ hK d_X6_quietIn_49 rfl (by decide) (by decide) h
    · have h := h.2 hq
      refine tn_aload_n (pc := 19) hΓ d_X6_quietIn_19 rfl ?_
      refine tn_cvV (As := []) (st := []) (pc := 20) hΓ d_X6_quietIn_20 mv_X6_goesNight im_X6_goesNight se_X6_goesNight ml_6_164 ⟨⟨by decide, by decide⟩, by decide, by decide⟩ rfl rfl rfl (by decide) ⟨_, rfl⟩ (gd_k hG (c := 39) rfl) (Nat.le_of_ble_eq_true rfl) rfl h (fun σ8 h => ?_)
      refine tn_iincw (loc' := fun v_ => [.ref 39, .int y1, .int v_, .null]) (pc := 23) hΓ d_X6_quietIn_23 rfl ic_1 (by decide) rfl (fun _ => rfl) (fun x1 ex1 => ?_)
      have h := h x1 ex1
      refine tn_goto (tgt := 7) (pc := 26) hΓ d_X6_quietIn_26 (by decide) ?_
      exact h
theorem k_X6_quiet_0 {Γ : tn_G} {ks : List (Nat × Nat)} {ρ : Nat → Nat → Nat} {σ : Nat → Nat → Int32} {K : Option Value → List (Nat × Nat) → (Nat → Nat → Nat) → (Nat → Nat → Int32) → Prop} (hG : tn_Gd ks ρ) (hΓ : tn_is Γ m_X6_quiet) (hK : tn_rt Γ m_X6_quiet K)  (h : ((¬ (σ 39 5) = 0 → tn_CI m_X6_quietIn [.ref 39, .int (60 : Int32)] ks ρ σ (fun r1 σ1 => K (some (.int r1)) ks ρ σ1)) ∧ ((σ 39 5) = 0 → K (some (.int (-3 : Int32))) ks ρ σ))) : tn_A Γ 0 [.ref 39] [] 0 0 ks ρ σ := by
  refine tn_aload_n (pc := 0) hΓ d_X6_quiet_0 rfl ?_
  refine tn_getI (pc := 1) hΓ d_X6_quiet_1 fl_6_62 rfl (gd_k hG (c := 39) rfl) ?_
  refine tn_if_ne (tgt := 12) (pc := 4) hΓ d_X6_quiet_4 (by decide) (fun hq => ?_) (fun hq => ?_)
  · have h := h.1 hq
    refine tn_aload_n (pc := 12) hΓ d_X6_quiet_12 rfl ?_
    refine tn_bipush (pc := 13) hΓ d_X6_quiet_13 bp_60 ?_
    refine tn_cvI (As := [.int (60 : Int32)]) (st := []) (pc := 15) hΓ d_X6_quiet_15 mv_X6_quietIn im_X6_quietIn se_X6_quietIn ml_6_184 ⟨⟨by decide, by decide⟩, by decide, by decide⟩ rfl rfl rfl (by decide) ⟨_, rfl⟩ (gd_k hG (c := 39) rfl) (Nat.le_of_ble_eq_true rfl) rfl h (fun r1 σ1 h => ?_)
    exact tn_ret_i (pc := 18) hΓ hK d_X6_quiet_18 rfl (by decide) (by decide) h
  · have h := h.2 hq
    refine tn_bipush (pc := 7) hΓ d_X6_quiet_7 bp_m3 ?_
    refine tn_goto (tgt := 18) (pc := 9) hΓ d_X6_quiet_9 (by decide) ?_
    exact tn_ret_i (pc := 18) hΓ hK d_X6_quiet_18 rfl (by decide) (by decide) h
theorem k_X6_fewest_0 {Γ : tn_G} {ks : List (Nat × Nat)} {ρ : Nat → Nat → Nat} {σ : Nat → Nat → Int32} {K : Option Value → List (Nat × Nat) → (Nat → Nat → Nat) → (Nat → Nat → Int32) → Prop} (hG : tn_Gd ks ρ) (hΓ : tn_is Γ m_X6_fewest) (hK : tn_rt Γ m_X6_fewest K) (a0 : Int32) (a1 : Int32) (h : tn_CI m_X6_within [.int a0, .int (0 : Int32), .int (60 : Int32)] ks ρ σ (fun r1 σ1 => ((r1 = 0 → K (some (.int (-2 : Int32))) ks ρ σ1) ∧ (¬ r1 = 0 → tn_CI m_X6_within [.int a1, .int (0 : Int32), .int (1 : Int32)] ks ρ σ1 (fun r2 σ2 => ((¬ r2 = 0 → ((¬ (σ2 39 5) = 0 → tn_CI m_X6_whoRankle [.ref 39] ks ρ σ2 (fun r3 σ3 => tn_CV m_X6_keep [.ref 39, .int (0 : Int32)] ks ρ σ3 (fun σ4 => tn_A Γ 49 [.ref 39, .int a0, .int a1, .int r3, .int (-9 : Int32), .int (0 : Int32), .null, .null] [] 0 0 ks ρ σ4))) ∧ ((σ2 39 5) = 0 → K (some (.int (-3 : Int32))) ks ρ σ2))) ∧ (r2 = 0 → K (some (.int (-2 : Int32))) ks ρ σ2))))))) : tn_A Γ 0 [.ref 39, .int a0, .int a1, .null, .null, .null, .null, .null] [] 0 0 ks ρ σ := by
  refine tn_iload_n (pc := 0) hΓ d_X6_fewest_0 rfl ?_
  refine tn_iconst (pc := 1) hΓ d_X6_fewest_1 ic_0 ?_
  refine tn_bipush (pc := 2) hΓ d_X6_fewest_2 bp_60 ?_
  refine tn_csI (As := [.int a0, .int (0 : Int32), .int (60 : Int32)]) (st := []) (pc := 4) hΓ d_X6_fewest_4 mv_X6_within st_X6_within ml_6_58 ⟨⟨by decide, by decide⟩, by decide, by decide⟩ rfl rfl rfl (Nat.le_of_ble_eq_true rfl) rfl h (fun r1 σ1 h => ?_)
  refine tn_if_eq (tgt := 19) (pc := 7) hΓ d_X6_fewest_7 (by decide) (fun hq => ?_) (fun hq => ?_)
  · have h := h.1 hq
    refine tn_bipush (pc := 19) hΓ d_X6_fewest_19 bp_m2 ?_
    exact tn_ret_i (pc := 21) hΓ hK d_X6_fewest_21 rfl (by decide) (by decide) h
  · have h := h.2 hq
    refine tn_iload_n (pc := 10) hΓ d_X6_fewest_10 rfl ?_
    refine tn_iconst (pc := 11) hΓ d_X6_fewest_11 ic_0 ?_
    refine tn_iconst (pc := 12) hΓ d_X6_fewest_12 ic_1 ?_
    refine tn_csI (As := [.int a1, .int (0 : Int32), .int (1 : Int32)]) (st := []) (pc := 13) hΓ d_X6_fewest_13 mv_X6_within st_X6_within ml_6_58 ⟨⟨by decide, by decide⟩, by decide, by decide⟩ rfl rfl rfl (Nat.le_of_ble_eq_true rfl) rfl h (fun r2 σ2 h => ?_)
    refine tn_if_ne (tgt := 22) (pc := 16) hΓ d_X6_fewest_16 (by decide) (fun hq => ?_) (fun hq => ?_)
    · have h := h.1 hq
      refine tn_aload_n (pc := 22) hΓ d_X6_fewest_22 rfl ?_
      refine tn_getI (pc := 23) hΓ d_X6_fewest_23 fl_6_62 rfl (gd_k hG (c := 39) rfl) ?_
      refine tn_if_ne (tgt := 32) (pc := 26) hΓ d_X6_fewest_26 (by decide) (fun hq => ?_) (fun hq => ?_)
      · have h := h.1 hq
        refine tn_aload_n (pc := 32) hΓ d_X6_fewest_32 rfl ?_
        refine tn_cvI (As := []) (st := []) (pc := 33) hΓ d_X6_fewest_33 mv_X6_whoRankle im_X6_whoRankle se_X6_whoRankle ml_6_158 ⟨⟨by decide, by decide⟩, by decide, by decide⟩ rfl rfl rfl (by decide) ⟨_, rfl⟩ (gd_k hG (c := 39) rfl) (Nat.le_of_ble_eq_true rfl) rfl h (fun r3 σ3 h => ?_)
        refine tn_istore_n (loc' := [.ref 39, .int a0, .int a1, .int r3, .null, .null, .null, .null]) (pc := 36) hΓ d_X6_fewest_36 (by decide) rfl rfl ?_
        refine tn_bipush (pc := 37) hΓ d_X6_fewest_37 bp_m9 ?_
        refine tn_istore (loc' := [.ref 39, .int a0, .int a1, .int r3, .int (-9 : Int32), .null, .null, .null]) (pc := 39) hΓ d_X6_fewest_39 (by decide) rfl rfl ?_
        refine tn_aload_n (pc := 41) hΓ d_X6_fewest_41 rfl ?_
        refine tn_iconst (pc := 42) hΓ d_X6_fewest_42 ic_0 ?_
        refine tn_cvV (As := [.int (0 : Int32)]) (st := []) (pc := 43) hΓ d_X6_fewest_43 mv_X6_keep im_X6_keep se_X6_keep ml_6_170 ⟨⟨by decide, by decide⟩, by decide, by decide⟩ rfl rfl rfl (by decide) ⟨_, rfl⟩ (gd_k hG (c := 39) rfl) (Nat.le_of_ble_eq_true rfl) rfl h (fun σ4 h => ?_)
        refine tn_iconst (pc := 46) hΓ d_X6_fewest_46 ic_0 ?_
        refine tn_istore (loc' := [.ref 39, .int a0, .int a1, .int r3, .int (-9 : Int32), .int (0 : Int32), .null, .null]) (pc := 47) hΓ d_X6_fewest_47 (by decide) rfl rfl ?_
        exact h
      · have h := h.2 hq
        refine tn_bipush (pc := 29) hΓ d_X6_fewest_29 bp_m3 ?_
        exact tn_ret_i (pc := 31) hΓ hK d_X6_fewest_31 rfl (by decide) (by decide) h
    · have h := h.2 hq
      refine tn_bipush (pc := 19) hΓ d_X6_fewest_19 bp_m2 ?_
      exact tn_ret_i (pc := 21) hΓ hK d_X6_fewest_21 rfl (by decide) (by decide) h
theorem k_X6_fewest_49 {Γ : tn_G} {ks : List (Nat × Nat)} {ρ : Nat → Nat → Nat} {σ : Nat → Nat → Int32} {K : Option Value → List (Nat × Nat) → (Nat → Nat → Nat) → (Nat → Nat → Int32) → Prop} (hG : tn_Gd ks ρ) (hΓ : tn_is Γ m_X6_fewest) (hK : tn_rt Γ m_X6_fewest K) (y1 : Int32) (y2 : Int32) (y3 : Int32) (y4 : Int32) (y5 : Int32) (h : ((((1 : Int32) <<< ((σ 39 5) &&& 31)) ≤ y5 → ((¬ y4 = (-9 : Int32) → ((¬ y2 = 0 → K (some (.int y4)) ks ρ σ) ∧ (y2 = 0 → tn_CI m_X6_size [.int y4] ks ρ σ (fun r1 σ1 => K (some (.int r1)) ks ρ σ1)))) ∧ (y4 = (-9 : Int32) → K (some (.int (-9 : Int32))) ks ρ σ))) ∧ (¬ ((1 : Int32) <<< ((σ 39 5) &&& 31)) ≤ y5 → ((y4 = (-9 : Int32) → ((¬ (y5 &&& (y3 ^^^ (-1 : Int32))) = 0 → (∀ x1 : Int32, x1 = y5 + (1 : Int32) → tn_A Γ 49 [.ref 39, .int y1, .int y2, .int y3, .int y4, .int x1, .null, .null] [] 0 0 ks ρ σ)) ∧ ((y5 &&& (y3 ^^^ (-1 : Int32))) = 0 → (((1 : Int32) = 0 → (∀ x2 : Int32, x2 = y5 + (1 : Int32) → tn_A Γ 49 [.ref 39, .int y1, .int y2, .int y3, .int y4, .int x2, .null, .null] [] 0 0 ks ρ σ)) ∧ (¬ (1 : Int32) = 0 → (∀ σ2, σ2 = tn_u σ 39 11 ((σ 39 11) ||| y5) → tn_CI m_X6_quietIn [.ref 39, .int y1] ks ρ σ2 (fun r2 σ3 => ((¬ r2 = (-9 : Int32) → tn_CV m_X6_putBack [.ref 39, .int (0 : Int32)] ks ρ σ3 (fun σ4 => (∀ x3 : Int32, x3 = y5 + (1 : Int32) → tn_A Γ 49 [.ref 39, .int y1, .int y2, .int y3, .int y5, .int x3, .null, .null] [] 0 0 ks ρ σ4))) ∧ (r2 = (-9 : Int32) → tn_CV m_X6_putBack [.ref 39, .int (0 : Int32)] ks ρ σ3 (fun σ5 => (∀ x4 : Int32, x4 = y5 + (1 : Int32) → tn_A Γ 49 [.ref 39, .int y1, .int y2, .int y3, .int y4, .int x4, .null, .null] [] 0 0 ks ρ σ5))))))))))) ∧ (¬ y4 = (-9 : Int32) → tn_CI m_X6_size [.int y5] ks ρ σ (fun r3 σ6 => tn_CI m_X6_size [.int y4] ks ρ σ6 (fun r4 σ7 => ((r4 ≤ r3 → ((¬ (y5 &&& (y3 ^^^ (-1 : Int32))) = 0 → (∀ x5 : Int32, x5 = y5 + (1 : Int32) → tn_A Γ 49 [.ref 39, .int y1, .int y2, .int y3, .int y4, .int x5, .null, .null] [] 0 0 ks ρ σ7)) ∧ ((y5 &&& (y3 ^^^ (-1 : Int32))) = 0 → (((0 : Int32) = 0 → (∀ x6 : Int32, x6 = y5 + (1 : Int32) → tn_A Γ 49 [.ref 39, .int y1, .int y2, .int y3, .int y4, .int x6, .null, .null] [] 0 0 ks ρ σ7)) ∧ (¬ (0 : Int32) = 0 → (∀ σ8, σ8 = tn_u σ7 39 11 ((σ7 39 11) ||| y5) → tn_CI m_X6_quietIn [.ref 39, .int y1] ks ρ σ8 (fun r5 σ9 => ((¬ r5 = (-9 : Int32) → tn_CV m_X6_putBack [.ref 39, .int (0 : Int32)] ks ρ σ9 (fun σ10 => (∀ x7 : Int32, x7 = y5 + (1 : Int32) → tn_A Γ 49 [.ref 39, .int y1, .int y2, .int y3, .int y5, .int x7, .null, .null] [] 0 0 ks ρ σ10))) ∧ (r5 = (-9 : Int32) → tn_CV m_X6_putBack [.ref 39, .int (0 : Int32)] ks ρ σ9 (fun σ11 => (∀ x8 : Int32, x8 = y5 + (1 : Int32) → tn_A Γ 49 [.ref 39, .int y1, .int y2, .int y3, .int y4, .int x8, .null, .null] [] 0 0 ks ρ σ11))))))))))) ∧ (¬ r4 ≤ r3 → ((¬ (y5 &&& (y3 ^^^ (-1 : Int32))) = 0 → (∀ x9 : Int32, x9 = y5 + (1 : Int32) → tn_A Γ 49 [.ref 39, .int y1, .int y2, .int y3, .int y4, .int x9, .null, .null] [] 0 0 ks ρ σ7)) ∧ ((y5 &&& (y3 ^^^ (-1 : Int32))) = 0 → (((1 : Int32) = 0 → (∀ x10 : Int32, x10 = y5 + (1 : Int32) → tn_A Γ 49 [.ref 39, .int y1, .int y2, .int y3, .int y4, .int x10, .null, .null] [] 0 0 ks ρ σ7)) ∧ (¬ (1 : Int32) = 0 → (∀ σ12, σ12 = tn_u σ7 39 11 ((σ7 39 11) ||| y5) → tn_CI m_X6_quietIn [.ref 39, .int y1] ks ρ σ12 (fun r6 σ13 => ((¬ r6 = (-9 : Int32) → tn_CV m_X6_putBack [.ref 39, .int (0 : Int32)] ks ρ σ13 (fun σ14 => (∀ x11 : Int32, x11 = y5 + (1 : Int32) → tn_A Γ 49 [.ref 39, .int y1, .int y2, .int y3, .int y5, .int x11, .null, .null] [] 0 0 ks ρ σ14))) ∧ (r6 = (-9 : Int32) → tn_CV m_X6_putBack [.ref 39, .int (0 : Int32)] ks ρ σ13 (fun σ15 => (∀ x12 : Int32, x12 = y5 + (1 : Int32) → tn_A Γ 49 [.ref 39, .int y1, .int y2, .int y3, .int y4, .int x12, .null, .null] [] 0 0 ks ρ σ15))))))))))))))))))) : tn_A Γ 49 [.ref 39, .int y1, .int y2, .int y3, .int y4, .int y5, .null, .null] [] 0 0 ks ρ σ := by
  refine tn_iload (pc := 49) hΓ d_X6_fewest_49 rfl ?_
  refine tn_iconst (pc := 51) hΓ d_X6_fewest_51 ic_1 ?_
  refine tn_aload_n (pc := 52) hΓ d_X6_fewest_52 rfl ?_
  refine tn_getI (pc := 53) hΓ d_X6_fewest_53 fl_6_62 rfl (gd_k hG (c := 39) rfl) ?_
  refine tn_ishl (pc := 56) hΓ d_X6_fewest_56 ?_
  refine tn_icmp_ge (tgt := 146) (pc := 57) hΓ d_X6_fewest_57 (by decide) (fun hq => ?_) (fun hq => ?_)
  · have h := h.1 hq
    refine tn_iload (pc := 146) hΓ d_X6_fewest_146 rfl ?_
    refine tn_bipush (pc := 148) hΓ d_X6_fewest_148 bp_m9 ?_
    refine tn_icmp_ne (tgt := 158) (pc := 150) hΓ d_X6_fewest_150 (by decide) (fun hq => ?_) (fun hq => ?_)
    · have h := h.1 hq
      refine tn_iload_n (pc := 158) hΓ d_X6_fewest_158 rfl ?_
      refine tn_if_ne (tgt := 170) (pc := 159) hΓ d_X6_fewest_159 (by decide) (fun hq => ?_) (fun hq => ?_)
      · have h := h.1 hq
        refine tn_iload (pc := 170) hΓ d_X6_fewest_170 rfl ?_
        exact tn_ret_i (pc := 172) hΓ hK d_X6_fewest_172 rfl (by decide) (by decide) h
      · have h := h.2 hq
        refine tn_iload (pc := 162) hΓ d_X6_fewest_162 rfl ?_
        refine tn_csI (As := [.int y4]) (st := []) (pc := 164) hΓ d_X6_fewest_164 mv_X6_size st_X6_size ml_6_187 ⟨⟨by decide, by decide⟩, by decide, by decide⟩ rfl rfl rfl (Nat.le_of_ble_eq_true rfl) rfl h (fun r1 σ1 h => ?_)
        refine tn_goto (tgt := 172) (pc := 167) hΓ d_X6_fewest_167 (by decide) ?_
        exact tn_ret_i (pc := 172) hΓ hK d_X6_fewest_172 rfl (by decide) (by decide) h
    · have h := h.2 hq
      refine tn_bipush (pc := 153) hΓ d_X6_fewest_153 bp_m9 ?_
      refine tn_goto (tgt := 172) (pc := 155) hΓ d_X6_fewest_155 (by decide) ?_
      exact tn_ret_i (pc := 172) hΓ hK d_X6_fewest_172 rfl (by decide) (by decide) h
  · have h := h.2 hq
    refine tn_iload (pc := 60) hΓ d_X6_fewest_60 rfl ?_
    refine tn_bipush (pc := 62) hΓ d_X6_fewest_62 bp_m9 ?_
    refine tn_icmp_eq (tgt := 80) (pc := 64) hΓ d_X6_fewest_64 (by decide) (fun hq => ?_) (fun hq => ?_)
    · have h := h.1 hq
      refine tn_iconst (pc := 80) hΓ d_X6_fewest_80 ic_1 ?_
      refine tn_goto (tgt := 85) (pc := 81) hΓ d_X6_fewest_81 (by decide) ?_
      refine tn_istore (loc' := [.ref 39, .int y1, .int y2, .int y3, .int y4, .int y5, .int (1 : Int32), .null]) (pc := 85) hΓ d_X6_fewest_85 (by decide) rfl rfl ?_
      refine tn_iload (pc := 87) hΓ d_X6_fewest_87 rfl ?_
      refine tn_iload_n (pc := 89) hΓ d_X6_fewest_89 rfl ?_
      refine tn_iconst (pc := 90) hΓ d_X6_fewest_90 ic_m1 ?_
      refine tn_ixor (pc := 91) hΓ d_X6_fewest_91 ?_
      refine tn_iand (pc := 92) hΓ d_X6_fewest_92 ?_
      refine tn_if_ne (tgt := 140) (pc := 93) hΓ d_X6_fewest_93 (by decide) (fun hq => ?_) (fun hq => ?_)
      · have h := h.1 hq
        refine tn_iincw (loc' := fun v_ => [.ref 39, .int y1, .int y2, .int y3, .int y4, .int v_, .int (1 : Int32), .null]) (pc := 140) hΓ d_X6_fewest_140 rfl ic_1 (by decide) rfl (fun _ => rfl) (fun x1 ex1 => ?_)
        have h := h x1 ex1
        refine tn_goto (tgt := 49) (pc := 143) hΓ d_X6_fewest_143 (by decide) ?_
        refine tn_drop [true, true, true, true, true, true, false, false] (loc' := [.ref 39, .int y1, .int y2, .int y3, .int y4, .int x1, .null, .null]) rfl ?_
        exact h
      · have h := h.2 hq
        refine tn_iload (pc := 96) hΓ d_X6_fewest_96 rfl ?_
        refine tn_if_eq (tgt := 140) (pc := 98) hΓ d_X6_fewest_98 (by decide) (fun hq => ?_) (fun hq => ?_)
        · have h := h.1 hq
          refine tn_iincw (loc' := fun v_ => [.ref 39, .int y1, .int y2, .int y3, .int y4, .int v_, .int (1 : Int32), .null]) (pc := 140) hΓ d_X6_fewest_140 rfl ic_1 (by decide) rfl (fun _ => rfl) (fun x2 ex2 => ?_)
          have h := h x2 ex2
          refine tn_goto (tgt := 49) (pc := 143) hΓ d_X6_fewest_143 (by decide) ?_
          refine tn_drop [true, true, true, true, true, true, false, false] (loc' := [.ref 39, .int y1, .int y2, .int y3, .int y4, .int x2, .null, .null]) rfl ?_
          exact h
        · have h := h.2 hq
          refine tn_aload_n (pc := 101) hΓ d_X6_fewest_101 rfl ?_
          refine tn_dupr (pc := 102) hΓ d_X6_fewest_102 ?_
          refine tn_getI (pc := 103) hΓ d_X6_fewest_103 fl_6_104 rfl (gd_k hG (c := 39) rfl) ?_
          refine tn_iload (pc := 106) hΓ d_X6_fewest_106 rfl ?_
          refine tn_ior (pc := 108) hΓ d_X6_fewest_108 ?_
          refine tn_putI (pc := 109) hΓ d_X6_fewest_109 fl_6_104 fk_6_6_11 rfl (gd_k hG (c := 39) rfl)  ?_
          refine tn_tops (fun σ2 eσ2 => ?_)
          have h := h σ2 eσ2
          refine tn_aload_n (pc := 112) hΓ d_X6_fewest_112 rfl ?_
          refine tn_iload_n (pc := 113) hΓ d_X6_fewest_113 rfl ?_
          refine tn_cvI (As := [.int y1]) (st := []) (pc := 114) hΓ d_X6_fewest_114 mv_X6_quietIn im_X6_quietIn se_X6_quietIn ml_6_184 ⟨⟨by decide, by decide⟩, by decide, by decide⟩ rfl rfl rfl (by decide) ⟨_, rfl⟩ (gd_k hG (c := 39) rfl) (Nat.le_of_ble_eq_true rfl) rfl h (fun r2 σ3 h => ?_)
          refine tn_istore (loc' := [.ref 39, .int y1, .int y2, .int y3, .int y4, .int y5, .int (1 : Int32), .int r2]) (pc := 117) hΓ d_X6_fewest_117 (by decide) rfl rfl ?_
          refine tn_iload (pc := 119) hΓ d_X6_fewest_119 rfl ?_
          refine tn_bipush (pc := 121) hΓ d_X6_fewest_121 bp_m9 ?_
          refine tn_icmp_ne (tgt := 131) (pc := 123) hΓ d_X6_fewest_123 (by decide) (fun hq => ?_) (fun hq => ?_)
          · have h := h.1 hq
            refine tn_iload (pc := 131) hΓ d_X6_fewest_131 rfl ?_
            refine tn_istore (loc' := [.ref 39, .int y1, .int y2, .int y3, .int y5, .int y5, .int (1 : Int32), .int r2]) (pc := 133) hΓ d_X6_fewest_133 (by decide) rfl rfl ?_
            refine tn_aload_n (pc := 135) hΓ d_X6_fewest_135 rfl ?_
            refine tn_iconst (pc := 136) hΓ d_X6_fewest_136 ic_0 ?_
            refine tn_cvV (As := [.int (0 : Int32)]) (st := []) (pc := 137) hΓ d_X6_fewest_137 mv_X6_putBack im_X6_putBack se_X6_putBack ml_6_181 ⟨⟨by decide, by decide⟩, by decide, by decide⟩ rfl rfl rfl (by decide) ⟨_, rfl⟩ (gd_k hG (c := 39) rfl) (Nat.le_of_ble_eq_true rfl) rfl h (fun σ4 h => ?_)
            refine tn_iincw (loc' := fun v_ => [.ref 39, .int y1, .int y2, .int y3, .int y5, .int v_, .int (1 : Int32), .int r2]) (pc := 140) hΓ d_X6_fewest_140 rfl ic_1 (by decide) rfl (fun _ => rfl) (fun x3 ex3 => ?_)
            have h := h x3 ex3
            refine tn_goto (tgt := 49) (pc := 143) hΓ d_X6_fewest_143 (by decide) ?_
            refine tn_drop [true, true, true, true, true, true, false, false] (loc' := [.ref 39, .int y1, .int y2, .int y3, .int y5, .int x3, .null, .null]) rfl ?_
            exact h
          · have h := h.2 hq
            refine tn_iload (pc := 126) hΓ d_X6_fewest_126 rfl ?_
            refine tn_goto (tgt := 133) (pc := 128) hΓ d_X6_fewest_128 (by decide) ?_
            refine tn_istore (loc' := [.ref 39, .int y1, .int y2, .int y3, .int y4, .int y5, .int (1 : Int32), .int r2]) (pc := 133) hΓ d_X6_fewest_133 (by decide) rfl rfl ?_
            refine tn_aload_n (pc := 135) hΓ d_X6_fewest_135 rfl ?_
            refine tn_iconst (pc := 136) hΓ d_X6_fewest_136 ic_0 ?_
            refine tn_cvV (As := [.int (0 : Int32)]) (st := []) (pc := 137) hΓ d_X6_fewest_137 mv_X6_putBack im_X6_putBack se_X6_putBack ml_6_181 ⟨⟨by decide, by decide⟩, by decide, by decide⟩ rfl rfl rfl (by decide) ⟨_, rfl⟩ (gd_k hG (c := 39) rfl) (Nat.le_of_ble_eq_true rfl) rfl h (fun σ5 h => ?_)
            refine tn_iincw (loc' := fun v_ => [.ref 39, .int y1, .int y2, .int y3, .int y4, .int v_, .int (1 : Int32), .int r2]) (pc := 140) hΓ d_X6_fewest_140 rfl ic_1 (by decide) rfl (fun _ => rfl) (fun x4 ex4 => ?_)
            have h := h x4 ex4
            refine tn_goto (tgt := 49) (pc := 143) hΓ d_X6_fewest_143 (by decide) ?_
            refine tn_drop [true, true, true, true, true, true, false, false] (loc' := [.ref 39, .int y1, .int y2, .int y3, .int y4, .int x4, .null, .null]) rfl ?_
            exact h
    · have h := h.2 hq
      refine tn_iload (pc := 67) hΓ d_X6_fewest_67 rfl ?_
      refine tn_csI (As := [.int y5]) (st := []) (pc := 69) hΓ d_X6_fewest_69 mv_X6_size st_X6_size ml_6_187 ⟨⟨by decide, by decide⟩, by decide, by decide⟩ rfl rfl rfl (Nat.le_of_ble_eq_true rfl) rfl h (fun r3 σ6 h => ?_)
      refine tn_iload (pc := 72) hΓ d_X6_fewest_72 rfl ?_
      refine tn_csI (As := [.int y4]) (st := [.int r3]) (pc := 74) hΓ d_X6_fewest_74 mv_X6_size st_X6_size ml_6_187 ⟨⟨by decide, by decide⟩, by decide, by decide⟩ rfl rfl rfl (Nat.le_of_ble_eq_true rfl) rfl h (fun r4 σ7 h => ?_)
      refine tn_icmp_ge (tgt := 84) (pc := 77) hΓ d_X6_fewest_77 (by decide) (fun hq => ?_) (fun hq => ?_)
      · have h := h.1 hq
        refine tn_iconst (pc := 84) hΓ d_X6_fewest_84 ic_0 ?_
        refine tn_istore (loc' := [.ref 39, .int y1, .int y2, .int y3, .int y4, .int y5, .int (0 : Int32), .null]) (pc := 85) hΓ d_X6_fewest_85 (by decide) rfl rfl ?_
        refine tn_iload (pc := 87) hΓ d_X6_fewest_87 rfl ?_
        refine tn_iload_n (pc := 89) hΓ d_X6_fewest_89 rfl ?_
        refine tn_iconst (pc := 90) hΓ d_X6_fewest_90 ic_m1 ?_
        refine tn_ixor (pc := 91) hΓ d_X6_fewest_91 ?_
        refine tn_iand (pc := 92) hΓ d_X6_fewest_92 ?_
        refine tn_if_ne (tgt := 140) (pc := 93) hΓ d_X6_fewest_93 (by decide) (fun hq => ?_) (fun hq => ?_)
        · have h := h.1 hq
          refine tn_iincw (loc' := fun v_ => [.ref 39, .int y1, .int y2, .int y3, .int y4, .int v_, .int (0 : Int32), .null]) (pc := 140) hΓ d_X6_fewest_140 rfl ic_1 (by decide) rfl (fun _ => rfl) (fun x5 ex5 => ?_)
          have h := h x5 ex5
          refine tn_goto (tgt := 49) (pc := 143) hΓ d_X6_fewest_143 (by decide) ?_
          refine tn_drop [true, true, true, true, true, true, false, false] (loc' := [.ref 39, .int y1, .int y2, .int y3, .int y4, .int x5, .null, .null]) rfl ?_
          exact h
        · have h := h.2 hq
          refine tn_iload (pc := 96) hΓ d_X6_fewest_96 rfl ?_
          refine tn_if_eq (tgt := 140) (pc := 98) hΓ d_X6_fewest_98 (by decide) (fun hq => ?_) (fun hq => ?_)
          · have h := h.1 hq
            refine tn_iincw (loc' := fun v_ => [.ref 39, .int y1, .int y2, .int y3, .int y4, .int v_, .int (0 : Int32), .null]) (pc := 140) hΓ d_X6_fewest_140 rfl ic_1 (by decide) rfl (fun _ => rfl) (fun x6 ex6 => ?_)
            have h := h x6 ex6
            refine tn_goto (tgt := 49) (pc := 143) hΓ d_X6_fewest_143 (by decide) ?_
            refine tn_drop [true, true, true, true, true, true, false, false] (loc' := [.ref 39, .int y1, .int y2, .int y3, .int y4, .int x6, .null, .null]) rfl ?_
            exact h
          · have h := h.2 hq
            refine tn_aload_n (pc := 101) hΓ d_X6_fewest_101 rfl ?_
            refine tn_dupr (pc := 102) hΓ d_X6_fewest_102 ?_
            refine tn_getI (pc := 103) hΓ d_X6_fewest_103 fl_6_104 rfl (gd_k hG (c := 39) rfl) ?_
            refine tn_iload (pc := 106) hΓ d_X6_fewest_106 rfl ?_
            refine tn_ior (pc := 108) hΓ d_X6_fewest_108 ?_
            refine tn_putI (pc := 109) hΓ d_X6_fewest_109 fl_6_104 fk_6_6_11 rfl (gd_k hG (c := 39) rfl)  ?_
            refine tn_tops (fun σ8 eσ8 => ?_)
            have h := h σ8 eσ8
            refine tn_aload_n (pc := 112) hΓ d_X6_fewest_112 rfl ?_
            refine tn_iload_n (pc := 113) hΓ d_X6_fewest_113 rfl ?_
            refine tn_cvI (As := [.int y1]) (st := []) (pc := 114) hΓ d_X6_fewest_114 mv_X6_quietIn im_X6_quietIn se_X6_quietIn ml_6_184 ⟨⟨by decide, by decide⟩, by decide, by decide⟩ rfl rfl rfl (by decide) ⟨_, rfl⟩ (gd_k hG (c := 39) rfl) (Nat.le_of_ble_eq_true rfl) rfl h (fun r5 σ9 h => ?_)
            refine tn_istore (loc' := [.ref 39, .int y1, .int y2, .int y3, .int y4, .int y5, .int (0 : Int32), .int r5]) (pc := 117) hΓ d_X6_fewest_117 (by decide) rfl rfl ?_
            refine tn_iload (pc := 119) hΓ d_X6_fewest_119 rfl ?_
            refine tn_bipush (pc := 121) hΓ d_X6_fewest_121 bp_m9 ?_
            refine tn_icmp_ne (tgt := 131) (pc := 123) hΓ d_X6_fewest_123 (by decide) (fun hq => ?_) (fun hq => ?_)
            · have h := h.1 hq
              refine tn_iload (pc := 131) hΓ d_X6_fewest_131 rfl ?_
              refine tn_istore (loc' := [.ref 39, .int y1, .int y2, .int y3, .int y5, .int y5, .int (0 : Int32), .int r5]) (pc := 133) hΓ d_X6_fewest_133 (by decide) rfl rfl ?_
              refine tn_aload_n (pc := 135) hΓ d_X6_fewest_135 rfl ?_
              refine tn_iconst (pc := 136) hΓ d_X6_fewest_136 ic_0 ?_
              refine tn_cvV (As := [.int (0 : Int32)]) (st := []) (pc := 137) hΓ d_X6_fewest_137 mv_X6_putBack im_X6_putBack se_X6_putBack ml_6_181 ⟨⟨by decide, by decide⟩, by decide, by decide⟩ rfl rfl rfl (by decide) ⟨_, rfl⟩ (gd_k hG (c := 39) rfl) (Nat.le_of_ble_eq_true rfl) rfl h (fun σ10 h => ?_)
              refine tn_iincw (loc' := fun v_ => [.ref 39, .int y1, .int y2, .int y3, .int y5, .int v_, .int (0 : Int32), .int r5]) (pc := 140) hΓ d_X6_fewest_140 rfl ic_1 (by decide) rfl (fun _ => rfl) (fun x7 ex7 => ?_)
              have h := h x7 ex7
              refine tn_goto (tgt := 49) (pc := 143) hΓ d_X6_fewest_143 (by decide) ?_
              refine tn_drop [true, true, true, true, true, true, false, false] (loc' := [.ref 39, .int y1, .int y2, .int y3, .int y5, .int x7, .null, .null]) rfl ?_
              exact h
            · have h := h.2 hq
              refine tn_iload (pc := 126) hΓ d_X6_fewest_126 rfl ?_
              refine tn_goto (tgt := 133) (pc := 128) hΓ d_X6_fewest_128 (by decide) ?_
              refine tn_istore (loc' := [.ref 39, .int y1, .int y2, .int y3, .int y4, .int y5, .int (0 : Int32), .int r5]) (pc := 133) hΓ d_X6_fewest_133 (by decide) rfl rfl ?_
              refine tn_aload_n (pc := 135) hΓ d_X6_fewest_135 rfl ?_
              refine tn_iconst (pc := 136) hΓ d_X6_fewest_136 ic_0 ?_
              refine tn_cvV (As := [.int (0 : Int32)]) (st := []) (pc := 137) hΓ d_X6_fewest_137 mv_X6_putBack im_X6_putBack se_X6_putBack ml_6_181 ⟨⟨by decide, by decide⟩, by decide, by decide⟩ rfl rfl rfl (by decide) ⟨_, rfl⟩ (gd_k hG (c := 39) rfl) (Nat.le_of_ble_eq_true rfl) rfl h (fun σ11 h => ?_)
              refine tn_iincw (loc' := fun v_ => [.ref 39, .int y1, .int y2, .int y3, .int y4, .int v_, .int (0 : Int32), .int r5]) (pc := 140) hΓ d_X6_fewest_140 rfl ic_1 (by decide) rfl (fun _ => rfl) (fun x8 ex8 => ?_)
              have h := h x8 ex8
              refine tn_goto (tgt := 49) (pc := 143) hΓ d_X6_fewest_143 (by decide) ?_
              refine tn_drop [true, true, true, true, true, true, false, false] (loc' := [.ref 39, .int y1, .int y2, .int y3, .int y4, .int x8, .null, .null]) rfl ?_
              exact h
      · have h := h.2 hq
        refine tn_iconst (pc := 80) hΓ d_X6_fewest_80 ic_1 ?_
        refine tn_goto (tgt := 85) (pc := 81) hΓ d_X6_fewest_81 (by decide) ?_
        refine tn_istore (loc' := [.ref 39, .int y1, .int y2, .int y3, .int y4, .int y5, .int (1 : Int32), .null]) (pc := 85) hΓ d_X6_fewest_85 (by decide) rfl rfl ?_
        refine tn_iload (pc := 87) hΓ d_X6_fewest_87 rfl ?_
        refine tn_iload_n (pc := 89) hΓ d_X6_fewest_89 rfl ?_
        refine tn_iconst (pc := 90) hΓ d_X6_fewest_90 ic_m1 ?_
        refine tn_ixor (pc := 91) hΓ d_X6_fewest_91 ?_
        refine tn_iand (pc := 92) hΓ d_X6_fewest_92 ?_
        refine tn_if_ne (tgt := 140) (pc := 93) hΓ d_X6_fewest_93 (by decide) (fun hq => ?_) (fun hq => ?_)
        · have h := h.1 hq
          refine tn_iincw (loc' := fun v_ => [.ref 39, .int y1, .int y2, .int y3, .int y4, .int v_, .int (1 : Int32), .null]) (pc := 140) hΓ d_X6_fewest_140 rfl ic_1 (by decide) rfl (fun _ => rfl) (fun x9 ex9 => ?_)
          have h := h x9 ex9
          refine tn_goto (tgt := 49) (pc := 143) hΓ d_X6_fewest_143 (by decide) ?_
          refine tn_drop [true, true, true, true, true, true, false, false] (loc' := [.ref 39, .int y1, .int y2, .int y3, .int y4, .int x9, .null, .null]) rfl ?_
          exact h
        · have h := h.2 hq
          refine tn_iload (pc := 96) hΓ d_X6_fewest_96 rfl ?_
          refine tn_if_eq (tgt := 140) (pc := 98) hΓ d_X6_fewest_98 (by decide) (fun hq => ?_) (fun hq => ?_)
          · have h := h.1 hq
            refine tn_iincw (loc' := fun v_ => [.ref 39, .int y1, .int y2, .int y3, .int y4, .int v_, .int (1 : Int32), .null]) (pc := 140) hΓ d_X6_fewest_140 rfl ic_1 (by decide) rfl (fun _ => rfl) (fun x10 ex10 => ?_)
            have h := h x10 ex10
            refine tn_goto (tgt := 49) (pc := 143) hΓ d_X6_fewest_143 (by decide) ?_
            refine tn_drop [true, true, true, true, true, true, false, false] (loc' := [.ref 39, .int y1, .int y2, .int y3, .int y4, .int x10, .null, .null]) rfl ?_
            exact h
          · have h := h.2 hq
            refine tn_aload_n (pc := 101) hΓ d_X6_fewest_101 rfl ?_
            refine tn_dupr (pc := 102) hΓ d_X6_fewest_102 ?_
            refine tn_getI (pc := 103) hΓ d_X6_fewest_103 fl_6_104 rfl (gd_k hG (c := 39) rfl) ?_
            refine tn_iload (pc := 106) hΓ d_X6_fewest_106 rfl ?_
            refine tn_ior (pc := 108) hΓ d_X6_fewest_108 ?_
            refine tn_putI (pc := 109) hΓ d_X6_fewest_109 fl_6_104 fk_6_6_11 rfl (gd_k hG (c := 39) rfl)  ?_
            refine tn_tops (fun σ12 eσ12 => ?_)
            have h := h σ12 eσ12
            refine tn_aload_n (pc := 112) hΓ d_X6_fewest_112 rfl ?_
            refine tn_iload_n (pc := 113) hΓ d_X6_fewest_113 rfl ?_
            refine tn_cvI (As := [.int y1]) (st := []) (pc := 114) hΓ d_X6_fewest_114 mv_X6_quietIn im_X6_quietIn se_X6_quietIn ml_6_184 ⟨⟨by decide, by decide⟩, by decide, by decide⟩ rfl rfl rfl (by decide) ⟨_, rfl⟩ (gd_k hG (c := 39) rfl) (Nat.le_of_ble_eq_true rfl) rfl h (fun r6 σ13 h => ?_)
            refine tn_istore (loc' := [.ref 39, .int y1, .int y2, .int y3, .int y4, .int y5, .int (1 : Int32), .int r6]) (pc := 117) hΓ d_X6_fewest_117 (by decide) rfl rfl ?_
            refine tn_iload (pc := 119) hΓ d_X6_fewest_119 rfl ?_
            refine tn_bipush (pc := 121) hΓ d_X6_fewest_121 bp_m9 ?_
            refine tn_icmp_ne (tgt := 131) (pc := 123) hΓ d_X6_fewest_123 (by decide) (fun hq => ?_) (fun hq => ?_)
            · have h := h.1 hq
              refine tn_iload (pc := 131) hΓ d_X6_fewest_131 rfl ?_
              refine tn_istore (loc' := [.ref 39, .int y1, .int y2, .int y3, .int y5, .int y5, .int (1 : Int32), .int r6]) (pc := 133) hΓ d_X6_fewest_133 (by decide) rfl rfl ?_
              refine tn_aload_n (pc := 135) hΓ d_X6_fewest_135 rfl ?_
              refine tn_iconst (pc := 136) hΓ d_X6_fewest_136 ic_0 ?_
              refine tn_cvV (As := [.int (0 : Int32)]) (st := []) (pc := 137) hΓ d_X6_fewest_137 mv_X6_putBack im_X6_putBack se_X6_putBack ml_6_181 ⟨⟨by decide, by decide⟩, by decide, by decide⟩ rfl rfl rfl (by decide) ⟨_, rfl⟩ (gd_k hG (c := 39) rfl) (Nat.le_of_ble_eq_true rfl) rfl h (fun σ14 h => ?_)
              refine tn_iincw (loc' := fun v_ => [.ref 39, .int y1, .int y2, .int y3, .int y5, .int v_, .int (1 : Int32), .int r6]) (pc := 140) hΓ d_X6_fewest_140 rfl ic_1 (by decide) rfl (fun _ => rfl) (fun x11 ex11 => ?_)
              have h := h x11 ex11
              refine tn_goto (tgt := 49) (pc := 143) hΓ d_X6_fewest_143 (by decide) ?_
              refine tn_drop [true, true, true, true, true, true, false, false] (loc' := [.ref 39, .int y1, .int y2, .int y3, .int y5, .int x11, .null, .null]) rfl ?_
              exact h
            · have h := h.2 hq
              refine tn_iload (pc := 126) hΓ d_X6_fewest_126 rfl ?_
              refine tn_goto (tgt := 133) (pc := 128) hΓ d_X6_fewest_128 (by decide) ?_
              refine tn_istore (loc' := [.ref 39, .int y1, .int y2, .int y3, .int y4, .int y5, .int (1 : Int32), .int r6]) (pc := 133) hΓ d_X6_fewest_133 (by decide) rfl rfl ?_
              refine tn_aload_n (pc := 135) hΓ d_X6_fewest_135 rfl ?_
              refine tn_iconst (pc := 136) hΓ d_X6_fewest_136 ic_0 ?_
              refine tn_cvV (As := [.int (0 : Int32)]) (st := []) (pc := 137) hΓ d_X6_fewest_137 mv_X6_putBack im_X6_putBack se_X6_putBack ml_6_181 ⟨⟨by decide, by decide⟩, by decide, by decide⟩ rfl rfl rfl (by decide) ⟨_, rfl⟩ (gd_k hG (c := 39) rfl) (Nat.le_of_ble_eq_true rfl) rfl h (fun σ15 h => ?_)
              refine tn_iincw (loc' := fun v_ => [.ref 39, .int y1, .int y2, .int y3, .int y4, .int v_, .int (1 : Int32), .int r6]) (pc := 140) hΓ d_X6_fewest_140 rfl ic_1 (by decide) rfl (fun _ => rfl) (fun x12 ex12 => ?_)
              have h := h x12 ex12
              refine tn_goto (tgt := 49) (pc := 143) hΓ d_X6_fewest_143 (by decide) ?_
              refine tn_drop [true, true, true, true, true, true, false, false] (loc' := [.ref 39, .int y1, .int y2, .int y3, .int y4, .int x12, .null, .null]) rfl ?_
              exact h
theorem k_X6_weightOfSet_0 {Γ : tn_G} {ks : List (Nat × Nat)} {ρ : Nat → Nat → Nat} {σ : Nat → Nat → Int32} {K : Option Value → List (Nat × Nat) → (Nat → Nat → Nat) → (Nat → Nat → Int32) → Prop} (hG : tn_Gd ks ρ) (hΓ : tn_is Γ m_X6_weightOfSet) (hK : tn_rt Γ m_X6_weightOfSet K) (a0 : Int32) (h : tn_A Γ 4 [.ref 39, .int a0, .int (0 : Int32), .int (0 : Int32)] [] 0 0 ks ρ σ) : tn_A Γ 0 [.ref 39, .int a0, .null, .null] [] 0 0 ks ρ σ := by
  refine tn_iconst (pc := 0) hΓ d_X6_weightOfSet_0 ic_0 ?_
  refine tn_istore_n (loc' := [.ref 39, .int a0, .int (0 : Int32), .null]) (pc := 1) hΓ d_X6_weightOfSet_1 (by decide) rfl rfl ?_
  refine tn_iconst (pc := 2) hΓ d_X6_weightOfSet_2 ic_0 ?_
  refine tn_istore_n (loc' := [.ref 39, .int a0, .int (0 : Int32), .int (0 : Int32)]) (pc := 3) hΓ d_X6_weightOfSet_3 (by decide) rfl rfl ?_
  exact h
theorem k_X6_weightOfSet_4 {Γ : tn_G} {ks : List (Nat × Nat)} {ρ : Nat → Nat → Nat} {σ : Nat → Nat → Int32} {K : Option Value → List (Nat × Nat) → (Nat → Nat → Nat) → (Nat → Nat → Int32) → Prop} (hG : tn_Gd ks ρ) (hΓ : tn_is Γ m_X6_weightOfSet) (hK : tn_rt Γ m_X6_weightOfSet K) (y1 : Int32) (y2 : Int32) (y3 : Int32) (h : (((σ 39 5) ≤ y3 → K (some (.int y2)) ks ρ σ) ∧ (¬ (σ 39 5) ≤ y3 → tn_CI m_X6_isOf [.int y1, .int y3] ks ρ σ (fun r1 σ1 => ((r1 = 0 → (∀ x1 : Int32, x1 = (y2 + (0 : Int32)) → (∀ x2 : Int32, x2 = y3 + (1 : Int32) → tn_A Γ 4 [.ref 39, .int y1, .int x1, .int x2] [] 0 0 ks ρ σ1))) ∧ (¬ r1 = 0 → tn_CI m_X6_weightOf [.ref 39, .int y3] ks ρ σ1 (fun r2 σ2 => (∀ x3 : Int32, x3 = (y2 + r2) → (∀ x4 : Int32, x4 = y3 + (1 : Int32) → tn_A Γ 4 [.ref 39, .int y1, .int x3, .int x4] [] 0 0 ks ρ σ2))))))))) : tn_A Γ 4 [.ref 39, .int y1, .int y2, .int y3] [] 0 0 ks ρ σ := by
  refine tn_iload_n (pc := 4) hΓ d_X6_weightOfSet_4 rfl ?_
  refine tn_aload_n (pc := 5) hΓ d_X6_weightOfSet_5 rfl ?_
  refine tn_getI (pc := 6) hΓ d_X6_weightOfSet_6 fl_6_62 rfl (gd_k hG (c := 39) rfl) ?_
  refine tn_icmp_ge (tgt := 38) (pc := 9) hΓ d_X6_weightOfSet_9 (by decide) (fun hq => ?_) (fun hq => ?_)
  · have h := h.1 hq
    refine tn_iload_n (pc := 38) hΓ d_X6_weightOfSet_38 rfl ?_
    exact tn_ret_i (pc := 39) hΓ hK d_X6_weightOfSet_39 rfl (by decide) (by decide) h
  · have h := h.2 hq
    refine tn_iload_n (pc := 12) hΓ d_X6_weightOfSet_12 rfl ?_
    refine tn_iload_n (pc := 13) hΓ d_X6_weightOfSet_13 rfl ?_
    refine tn_iload_n (pc := 14) hΓ d_X6_weightOfSet_14 rfl ?_
    refine tn_csI (As := [.int y1, .int y3]) (st := [.int y2]) (pc := 15) hΓ d_X6_weightOfSet_15 mv_X6_isOf st_X6_isOf ml_6_136 ⟨⟨by decide, by decide⟩, by decide, by decide⟩ rfl rfl rfl (Nat.le_of_ble_eq_true rfl) rfl h (fun r1 σ1 h => ?_)
    refine tn_if_eq (tgt := 29) (pc := 18) hΓ d_X6_weightOfSet_18 (by decide) (fun hq => ?_) (fun hq => ?_)
    · have h := h.1 hq
      refine tn_iconst (pc := 29) hΓ d_X6_weightOfSet_29 ic_0 ?_
      refine tn_iadd (pc := 30) hΓ d_X6_weightOfSet_30 ?_
      refine tn_topi (fun x1 ex1 => ?_)
      have h := h x1 ex1
      refine tn_istore_n (loc' := [.ref 39, .int y1, .int x1, .int y3]) (pc := 31) hΓ d_X6_weightOfSet_31 (by decide) rfl rfl ?_
      refine tn_iincw (loc' := fun v_ => [.ref 39, .int y1, .int x1, .int v_]) (pc := 32) hΓ d_X6_weightOfSet_32 rfl ic_1 (by decide) rfl (fun _ => rfl) (fun x2 ex2 => ?_)
      have h := h x2 ex2
      refine tn_goto (tgt := 4) (pc := 35) hΓ d_X6_weightOfSet_35 (by decide) ?_
      exact h
    · have h := h.2 hq
      refine tn_aload_n (pc := 21) hΓ d_X6_weightOfSet_21 rfl ?_
      refine tn_iload_n (pc := 22) hΓ d_X6_weightOfSet_22 rfl ?_
      refine tn_cvI (As := [.int y3]) (st := [.int y2]) (pc := 23) hΓ d_X6_weightOfSet_23 mv_X6_weightOf im_X6_weightOf se_X6_weightOf ml_6_139 ⟨⟨by decide, by decide⟩, by decide, by decide⟩ rfl rfl rfl (by decide) ⟨_, rfl⟩ (gd_k hG (c := 39) rfl) (Nat.le_of_ble_eq_true rfl) rfl h (fun r2 σ2 h => ?_)
      refine tn_goto (tgt := 30) (pc := 26) hΓ d_X6_weightOfSet_26 (by decide) ?_
      refine tn_iadd (pc := 30) hΓ d_X6_weightOfSet_30 ?_
      refine tn_topi (fun x3 ex3 => ?_)
      have h := h x3 ex3
      refine tn_istore_n (loc' := [.ref 39, .int y1, .int x3, .int y3]) (pc := 31) hΓ d_X6_weightOfSet_31 (by decide) rfl rfl ?_
      refine tn_iincw (loc' := fun v_ => [.ref 39, .int y1, .int x3, .int v_]) (pc := 32) hΓ d_X6_weightOfSet_32 rfl ic_1 (by decide) rfl (fun _ => rfl) (fun x4 ex4 => ?_)
      have h := h x4 ex4
      refine tn_goto (tgt := 4) (pc := 35) hΓ d_X6_weightOfSet_35 (by decide) ?_
      exact h
theorem k_X6_claps_0 {Γ : tn_G} {ks : List (Nat × Nat)} {ρ : Nat → Nat → Nat} {σ : Nat → Nat → Int32} {K : Option Value → List (Nat × Nat) → (Nat → Nat → Nat) → (Nat → Nat → Int32) → Prop} (hG : tn_Gd ks ρ) (hΓ : tn_is Γ m_X6_claps) (hK : tn_rt Γ m_X6_claps K) (a0 : Int32) (a1 : Int32) (h : tn_CI m_X6_within [.int a0, .int (0 : Int32), .int (90 : Int32)] ks ρ σ (fun r1 σ1 => ((r1 = 0 → K (some (.int (-2 : Int32))) ks ρ σ1) ∧ (¬ r1 = 0 → tn_CI m_X6_within [.int a1, .int (0 : Int32), .int (1 : Int32)] ks ρ σ1 (fun r2 σ2 => ((¬ r2 = 0 → ((¬ (σ2 39 5) = 0 → tn_CI m_X6_whoRankle [.ref 39] ks ρ σ2 (fun r3 σ3 => tn_A Γ 47 [.ref 39, .int a0, .int a1, .int r3, .int (0 : Int32), .int (-9 : Int32), .int (0 : Int32)] [] 0 0 ks ρ σ3)) ∧ ((σ2 39 5) = 0 → K (some (.int (-3 : Int32))) ks ρ σ2))) ∧ (r2 = 0 → K (some (.int (-2 : Int32))) ks ρ σ2))))))) : tn_A Γ 0 [.ref 39, .int a0, .int a1, .null, .null, .null, .null] [] 0 0 ks ρ σ := by
  refine tn_iload_n (pc := 0) hΓ d_X6_claps_0 rfl ?_
  refine tn_iconst (pc := 1) hΓ d_X6_claps_1 ic_0 ?_
  refine tn_bipush (pc := 2) hΓ d_X6_claps_2 bp_90 ?_
  refine tn_csI (As := [.int a0, .int (0 : Int32), .int (90 : Int32)]) (st := []) (pc := 4) hΓ d_X6_claps_4 mv_X6_within st_X6_within ml_6_58 ⟨⟨by decide, by decide⟩, by decide, by decide⟩ rfl rfl rfl (Nat.le_of_ble_eq_true rfl) rfl h (fun r1 σ1 h => ?_)
  refine tn_if_eq (tgt := 19) (pc := 7) hΓ d_X6_claps_7 (by decide) (fun hq => ?_) (fun hq => ?_)
  · have h := h.1 hq
    refine tn_bipush (pc := 19) hΓ d_X6_claps_19 bp_m2 ?_
    exact tn_ret_i (pc := 21) hΓ hK d_X6_claps_21 rfl (by decide) (by decide) h
  · have h := h.2 hq
    refine tn_iload_n (pc := 10) hΓ d_X6_claps_10 rfl ?_
    refine tn_iconst (pc := 11) hΓ d_X6_claps_11 ic_0 ?_
    refine tn_iconst (pc := 12) hΓ d_X6_claps_12 ic_1 ?_
    refine tn_csI (As := [.int a1, .int (0 : Int32), .int (1 : Int32)]) (st := []) (pc := 13) hΓ d_X6_claps_13 mv_X6_within st_X6_within ml_6_58 ⟨⟨by decide, by decide⟩, by decide, by decide⟩ rfl rfl rfl (Nat.le_of_ble_eq_true rfl) rfl h (fun r2 σ2 h => ?_)
    refine tn_if_ne (tgt := 22) (pc := 16) hΓ d_X6_claps_16 (by decide) (fun hq => ?_) (fun hq => ?_)
    · have h := h.1 hq
      refine tn_aload_n (pc := 22) hΓ d_X6_claps_22 rfl ?_
      refine tn_getI (pc := 23) hΓ d_X6_claps_23 fl_6_62 rfl (gd_k hG (c := 39) rfl) ?_
      refine tn_if_ne (tgt := 32) (pc := 26) hΓ d_X6_claps_26 (by decide) (fun hq => ?_) (fun hq => ?_)
      · have h := h.1 hq
        refine tn_aload_n (pc := 32) hΓ d_X6_claps_32 rfl ?_
        refine tn_cvI (As := []) (st := []) (pc := 33) hΓ d_X6_claps_33 mv_X6_whoRankle im_X6_whoRankle se_X6_whoRankle ml_6_158 ⟨⟨by decide, by decide⟩, by decide, by decide⟩ rfl rfl rfl (by decide) ⟨_, rfl⟩ (gd_k hG (c := 39) rfl) (Nat.le_of_ble_eq_true rfl) rfl h (fun r3 σ3 h => ?_)
        refine tn_istore_n (loc' := [.ref 39, .int a0, .int a1, .int r3, .null, .null, .null]) (pc := 36) hΓ d_X6_claps_36 (by decide) rfl rfl ?_
        refine tn_iconst (pc := 37) hΓ d_X6_claps_37 ic_0 ?_
        refine tn_istore (loc' := [.ref 39, .int a0, .int a1, .int r3, .int (0 : Int32), .null, .null]) (pc := 38) hΓ d_X6_claps_38 (by decide) rfl rfl ?_
        refine tn_bipush (pc := 40) hΓ d_X6_claps_40 bp_m9 ?_
        refine tn_istore (loc' := [.ref 39, .int a0, .int a1, .int r3, .int (0 : Int32), .int (-9 : Int32), .null]) (pc := 42) hΓ d_X6_claps_42 (by decide) rfl rfl ?_
        refine tn_iconst (pc := 44) hΓ d_X6_claps_44 ic_0 ?_
        refine tn_istore (loc' := [.ref 39, .int a0, .int a1, .int r3, .int (0 : Int32), .int (-9 : Int32), .int (0 : Int32)]) (pc := 45) hΓ d_X6_claps_45 (by decide) rfl rfl ?_
        exact h
      · have h := h.2 hq
        refine tn_bipush (pc := 29) hΓ d_X6_claps_29 bp_m3 ?_
        exact tn_ret_i (pc := 31) hΓ hK d_X6_claps_31 rfl (by decide) (by decide) h
    · have h := h.2 hq
      refine tn_bipush (pc := 19) hΓ d_X6_claps_19 bp_m2 ?_
      exact tn_ret_i (pc := 21) hΓ hK d_X6_claps_21 rfl (by decide) (by decide) h
theorem k_X6_claps_47 {Γ : tn_G} {ks : List (Nat × Nat)} {ρ : Nat → Nat → Nat} {σ : Nat → Nat → Int32} {K : Option Value → List (Nat × Nat) → (Nat → Nat → Nat) → (Nat → Nat → Int32) → Prop} (hG : tn_Gd ks ρ) (hΓ : tn_is Γ m_X6_claps) (hK : tn_rt Γ m_X6_claps K) (y1 : Int32) (y2 : Int32) (y3 : Int32) (y4 : Int32) (y5 : Int32) (y6 : Int32) (h : ((((1 : Int32) <<< ((σ 39 5) &&& 31)) ≤ y6 → ((¬ y2 = 0 → K (some (.int y5)) ks ρ σ) ∧ (y2 = 0 → K (some (.int y4)) ks ρ σ))) ∧ (¬ ((1 : Int32) <<< ((σ 39 5) &&& 31)) ≤ y6 → ((¬ (y6 &&& (y3 ^^^ (-1 : Int32))) = 0 → (∀ x1 : Int32, x1 = y6 + (1 : Int32) → tn_A Γ 47 [.ref 39, .int y1, .int y2, .int y3, .int y4, .int y5, .int x1] [] 0 0 ks ρ σ)) ∧ ((y6 &&& (y3 ^^^ (-1 : Int32))) = 0 → tn_CI m_X6_weightOfSet [.ref 39, .int y6] ks ρ σ (fun r1 σ1 => ((¬ r1 = y1 → (∀ x2 : Int32, x2 = y6 + (1 : Int32) → tn_A Γ 47 [.ref 39, .int y1, .int y2, .int y3, .int y4, .int y5, .int x2] [] 0 0 ks ρ σ1)) ∧ (r1 = y1 → (∀ x3 : Int32, x3 = y4 + (1 : Int32) → ((¬ y5 = (-9 : Int32) → (∀ x4 : Int32, x4 = y6 + (1 : Int32) → tn_A Γ 47 [.ref 39, .int y1, .int y2, .int y3, .int x3, .int y5, .int x4] [] 0 0 ks ρ σ1)) ∧ (y5 = (-9 : Int32) → (∀ x5 : Int32, x5 = y6 + (1 : Int32) → tn_A Γ 47 [.ref 39, .int y1, .int y2, .int y3, .int x3, .int y6, .int x5] [] 0 0 ks ρ σ1)))))))))))) : tn_A Γ 47 [.ref 39, .int y1, .int y2, .int y3, .int y4, .int y5, .int y6] [] 0 0 ks ρ σ := by
  refine tn_iload (pc := 47) hΓ d_X6_claps_47 rfl ?_
  refine tn_iconst (pc := 49) hΓ d_X6_claps_49 ic_1 ?_
  refine tn_aload_n (pc := 50) hΓ d_X6_claps_50 rfl ?_
  refine tn_getI (pc := 51) hΓ d_X6_claps_51 fl_6_62 rfl (gd_k hG (c := 39) rfl) ?_
  refine tn_ishl (pc := 54) hΓ d_X6_claps_54 ?_
  refine tn_icmp_ge (tgt := 102) (pc := 55) hΓ d_X6_claps_55 (by decide) (fun hq => ?_) (fun hq => ?_)
  · have h := h.1 hq
    refine tn_iload_n (pc := 102) hΓ d_X6_claps_102 rfl ?_
    refine tn_if_ne (tgt := 111) (pc := 103) hΓ d_X6_claps_103 (by decide) (fun hq => ?_) (fun hq => ?_)
    · have h := h.1 hq
      refine tn_iload (pc := 111) hΓ d_X6_claps_111 rfl ?_
      exact tn_ret_i (pc := 113) hΓ hK d_X6_claps_113 rfl (by decide) (by decide) h
    · have h := h.2 hq
      refine tn_iload (pc := 106) hΓ d_X6_claps_106 rfl ?_
      refine tn_goto (tgt := 113) (pc := 108) hΓ d_X6_claps_108 (by decide) ?_
      exact tn_ret_i (pc := 113) hΓ hK d_X6_claps_113 rfl (by decide) (by decide) h
  · have h := h.2 hq
    refine tn_iload (pc := 58) hΓ d_X6_claps_58 rfl ?_
    refine tn_iload_n (pc := 60) hΓ d_X6_claps_60 rfl ?_
    refine tn_iconst (pc := 61) hΓ d_X6_claps_61 ic_m1 ?_
    refine tn_ixor (pc := 62) hΓ d_X6_claps_62 ?_
    refine tn_iand (pc := 63) hΓ d_X6_claps_63 ?_
    refine tn_if_ne (tgt := 96) (pc := 64) hΓ d_X6_claps_64 (by decide) (fun hq => ?_) (fun hq => ?_)
    · have h := h.1 hq
      refine tn_iincw (loc' := fun v_ => [.ref 39, .int y1, .int y2, .int y3, .int y4, .int y5, .int v_]) (pc := 96) hΓ d_X6_claps_96 rfl ic_1 (by decide) rfl (fun _ => rfl) (fun x1 ex1 => ?_)
      have h := h x1 ex1
      refine tn_goto (tgt := 47) (pc := 99) hΓ d_X6_claps_99 (by decide) ?_
      exact h
    · have h := h.2 hq
      refine tn_aload_n (pc := 67) hΓ d_X6_claps_67 rfl ?_
      refine tn_iload (pc := 68) hΓ d_X6_claps_68 rfl ?_
      refine tn_cvI (As := [.int y6]) (st := []) (pc := 70) hΓ d_X6_claps_70 mv_X6_weightOfSet im_X6_weightOfSet se_X6_weightOfSet ml_6_190 ⟨⟨by decide, by decide⟩, by decide, by decide⟩ rfl rfl rfl (by decide) ⟨_, rfl⟩ (gd_k hG (c := 39) rfl) (Nat.le_of_ble_eq_true rfl) rfl h (fun r1 σ1 h => ?_)
      refine tn_iload_n (pc := 73) hΓ d_X6_claps_73 rfl ?_
      refine tn_icmp_ne (tgt := 96) (pc := 74) hΓ d_X6_claps_74 (by decide) (fun hq => ?_) (fun hq => ?_)
      · have h := h.1 hq
        refine tn_iincw (loc' := fun v_ => [.ref 39, .int y1, .int y2, .int y3, .int y4, .int y5, .int v_]) (pc := 96) hΓ d_X6_claps_96 rfl ic_1 (by decide) rfl (fun _ => rfl) (fun x2 ex2 => ?_)
        have h := h x2 ex2
        refine tn_goto (tgt := 47) (pc := 99) hΓ d_X6_claps_99 (by decide) ?_
        exact h
      · have h := h.2 hq
        refine tn_iincw (loc' := fun v_ => [.ref 39, .int y1, .int y2, .int y3, .int v_, .int y5, .int y6]) (pc := 77) hΓ d_X6_claps_77 rfl ic_1 (by decide) rfl (fun _ => rfl) (fun x3 ex3 => ?_)
        have h := h x3 ex3
        refine tn_iload (pc := 80) hΓ d_X6_claps_80 rfl ?_
        refine tn_bipush (pc := 82) hΓ d_X6_claps_82 bp_m9 ?_
        refine tn_icmp_ne (tgt := 92) (pc := 84) hΓ d_X6_claps_84 (by decide) (fun hq => ?_) (fun hq => ?_)
        · have h := h.1 hq
          refine tn_iload (pc := 92) hΓ d_X6_claps_92 rfl ?_
          refine tn_istore (loc' := [.ref 39, .int y1, .int y2, .int y3, .int x3, .int y5, .int y6]) (pc := 94) hΓ d_X6_claps_94 (by decide) rfl rfl ?_
          refine tn_iincw (loc' := fun v_ => [.ref 39, .int y1, .int y2, .int y3, .int x3, .int y5, .int v_]) (pc := 96) hΓ d_X6_claps_96 rfl ic_1 (by decide) rfl (fun _ => rfl) (fun x4 ex4 => ?_)
          have h := h x4 ex4
          refine tn_goto (tgt := 47) (pc := 99) hΓ d_X6_claps_99 (by decide) ?_
          exact h
        · have h := h.2 hq
          refine tn_iload (pc := 87) hΓ d_X6_claps_87 rfl ?_
          refine tn_goto (tgt := 94) (pc := 89) hΓ d_X6_claps_89 (by decide) ?_
          refine tn_istore (loc' := [.ref 39, .int y1, .int y2, .int y3, .int x3, .int y6, .int y6]) (pc := 94) hΓ d_X6_claps_94 (by decide) rfl rfl ?_
          refine tn_iincw (loc' := fun v_ => [.ref 39, .int y1, .int y2, .int y3, .int x3, .int y6, .int v_]) (pc := 96) hΓ d_X6_claps_96 rfl ic_1 (by decide) rfl (fun _ => rfl) (fun x5 ex5 => ?_)
          have h := h x5 ex5
          refine tn_goto (tgt := 47) (pc := 99) hΓ d_X6_claps_99 (by decide) ?_
          exact h
