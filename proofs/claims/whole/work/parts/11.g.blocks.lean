-- X6_parish X6_takeParish X6_readParish X6_readStonesAll X6_readHouse X6_weightOf X6_rankles X6_whoRankle X6_voiceNow X6_ofHouse X6_ofStone X6_sleep
theorem k_X6_parish_0 {Γ : tn_G} {ks : List (Nat × Nat)} {ρ : Nat → Nat → Nat} {σ : Nat → Nat → Int32} {K : Option Value → List (Nat × Nat) → (Nat → Nat → Nat) → (Nat → Nat → Int32) → Prop} (hG : tn_Gd ks ρ) (hΓ : tn_is Γ m_X6_parish) (hK : tn_rt Γ m_X6_parish K) (a0 : Int32) (a1 : Int32) (a2 : Int32) (a3 : Int32) (h : (∀ σ1, σ1 = tn_u σ 39 0 (0 : Int32) → tn_CI m_X6_isSheet [.int a0] ks ρ σ1 (fun r1 σ2 => ((¬ r1 = 0 → tn_CI m_X6_isSort [.int a1] ks ρ σ2 (fun r2 σ3 => ((¬ r2 = 0 → tn_CI m_X6_against [.ref 39, .int a0, .int a1, .int a2, .int a3] ks ρ σ3 (fun r3 σ4 => ((r3 = 0 → (∀ x1 : Int32, x1 = (((60 : Int32) * a0) + a2) → (∀ σ5, σ5 = tn_u σ4 39 18 x1 → tn_CI m_X6_readParish [.ref 39, .int (x1 + a3)] ks ρ σ5 (fun r4 σ6 => ((¬ r4 = 0 → tn_CV m_X6_takeParish [.ref 39] ks ρ σ6 (fun σ7 => K (some (.int (σ7 39 5))) ks ρ σ7)) ∧ (r4 = 0 → K (some (.int ((-100 : Int32) - ((σ6 39 18) - x1)))) ks ρ σ6)))))) ∧ (¬ r3 = 0 → tn_CI m_X6_fails [.ref 39, .int r3] ks ρ σ4 (fun r5 σ8 => K (some (.int r5)) ks ρ σ8))))) ∧ (r2 = 0 → K (some (.int (-2 : Int32))) ks ρ σ3)))) ∧ (r1 = 0 → K (some (.int (-1 : Int32))) ks ρ σ2))))) : tn_A Γ 0 [.ref 39, .int a0, .int a1, .int a2, .int a3, .null, .null] [] 0 0 ks ρ σ := by
  refine tn_aload_n (pc := 0) hΓ d_X6_parish_0 rfl ?_
  refine tn_iconst (pc := 1) hΓ d_X6_parish_1 ic_0 ?_
  refine tn_putI (pc := 2) hΓ d_X6_parish_2 fl_6_52 fk_6_6_0 rfl (gd_k hG (c := 39) rfl)  ?_
  refine tn_tops (fun σ1 eσ1 => ?_)
  have h := h σ1 eσ1
  refine tn_iload_n (pc := 5) hΓ d_X6_parish_5 rfl ?_
  refine tn_csI (As := [.int a0]) (st := []) (pc := 6) hΓ d_X6_parish_6 mv_X6_isSheet st_X6_isSheet ml_6_71 ⟨⟨by decide, by decide⟩, by decide, by decide⟩ rfl rfl rfl (Nat.le_of_ble_eq_true rfl) rfl h (fun r1 σ2 h => ?_)
  refine tn_if_ne (tgt := 14) (pc := 9) hΓ d_X6_parish_9 (by decide) (fun hq => ?_) (fun hq => ?_)
  · have h := h.1 hq
    refine tn_iload_n (pc := 14) hΓ d_X6_parish_14 rfl ?_
    refine tn_csI (As := [.int a1]) (st := []) (pc := 15) hΓ d_X6_parish_15 mv_X6_isSort st_X6_isSort ml_6_75 ⟨⟨by decide, by decide⟩, by decide, by decide⟩ rfl rfl rfl (Nat.le_of_ble_eq_true rfl) rfl h (fun r2 σ3 h => ?_)
    refine tn_if_ne (tgt := 24) (pc := 18) hΓ d_X6_parish_18 (by decide) (fun hq => ?_) (fun hq => ?_)
    · have h := h.1 hq
      refine tn_aload_n (pc := 24) hΓ d_X6_parish_24 rfl ?_
      refine tn_iload_n (pc := 25) hΓ d_X6_parish_25 rfl ?_
      refine tn_iload_n (pc := 26) hΓ d_X6_parish_26 rfl ?_
      refine tn_iload_n (pc := 27) hΓ d_X6_parish_27 rfl ?_
      refine tn_iload (pc := 28) hΓ d_X6_parish_28 rfl ?_
      refine tn_cvI (As := [.int a0, .int a1, .int a2, .int a3]) (st := []) (pc := 30) hΓ d_X6_parish_30 mv_X6_against im_X6_against se_X6_against ml_6_78 ⟨⟨by decide, by decide⟩, by decide, by decide⟩ rfl rfl rfl (by decide) ⟨_, rfl⟩ (gd_k hG (c := 39) rfl) (Nat.le_of_ble_eq_true rfl) rfl h (fun r3 σ4 h => ?_)
      refine tn_istore (loc' := [.ref 39, .int a0, .int a1, .int a2, .int a3, .int r3, .null]) (pc := 33) hΓ d_X6_parish_33 (by decide) rfl rfl ?_
      refine tn_iload (pc := 35) hΓ d_X6_parish_35 rfl ?_
      refine tn_if_eq (tgt := 47) (pc := 37) hΓ d_X6_parish_37 (by decide) (fun hq => ?_) (fun hq => ?_)
      · have h := h.1 hq
        refine tn_bipush (pc := 47) hΓ d_X6_parish_47 bp_60 ?_
        refine tn_iload_n (pc := 49) hΓ d_X6_parish_49 rfl ?_
        refine tn_imul (pc := 50) hΓ d_X6_parish_50 ?_
        refine tn_iload_n (pc := 51) hΓ d_X6_parish_51 rfl ?_
        refine tn_iadd (pc := 52) hΓ d_X6_parish_52 ?_
        refine tn_topi (fun x1 ex1 => ?_)
        have h := h x1 ex1
        refine tn_istore (loc' := [.ref 39, .int a0, .int a1, .int a2, .int a3, .int r3, .int x1]) (pc := 53) hΓ d_X6_parish_53 (by decide) rfl rfl ?_
        refine tn_aload_n (pc := 55) hΓ d_X6_parish_55 rfl ?_
        refine tn_iload (pc := 56) hΓ d_X6_parish_56 rfl ?_
        refine tn_putI (pc := 58) hΓ d_X6_parish_58 fl_6_68 fk_6_6_18 rfl (gd_k hG (c := 39) rfl)  ?_
        refine tn_tops (fun σ5 eσ5 => ?_)
        have h := h σ5 eσ5
        refine tn_aload_n (pc := 61) hΓ d_X6_parish_61 rfl ?_
        refine tn_iload (pc := 62) hΓ d_X6_parish_62 rfl ?_
        refine tn_iload (pc := 64) hΓ d_X6_parish_64 rfl ?_
        refine tn_iadd (pc := 66) hΓ d_X6_parish_66 ?_
        refine tn_cvI (As := [.int (x1 + a3)]) (st := []) (pc := 67) hΓ d_X6_parish_67 mv_X6_readParish im_X6_readParish se_X6_readParish ml_6_86 ⟨⟨by decide, by decide⟩, by decide, by decide⟩ rfl rfl rfl (by decide) ⟨_, rfl⟩ (gd_k hG (c := 39) rfl) (Nat.le_of_ble_eq_true rfl) rfl h (fun r4 σ6 h => ?_)
        refine tn_if_ne (tgt := 84) (pc := 70) hΓ d_X6_parish_70 (by decide) (fun hq => ?_) (fun hq => ?_)
        · have h := h.1 hq
          refine tn_aload_n (pc := 84) hΓ d_X6_parish_84 rfl ?_
          refine tn_cvV (As := []) (st := []) (pc := 85) hΓ d_X6_parish_85 mv_X6_takeParish im_X6_takeParish se_X6_takeParish ml_6_89 ⟨⟨by decide, by decide⟩, by decide, by decide⟩ rfl rfl rfl (by decide) ⟨_, rfl⟩ (gd_k hG (c := 39) rfl) (Nat.le_of_ble_eq_true rfl) rfl h (fun σ7 h => ?_)
          refine tn_aload_n (pc := 88) hΓ d_X6_parish_88 rfl ?_
          refine tn_getI (pc := 89) hΓ d_X6_parish_89 fl_6_62 rfl (gd_k hG (c := 39) rfl) ?_
          exact tn_ret_i (pc := 92) hΓ hK d_X6_parish_92 rfl (by decide) (by decide) h
        · have h := h.2 hq
          refine tn_bipush (pc := 73) hΓ d_X6_parish_73 bp_m100 ?_
          refine tn_aload_n (pc := 75) hΓ d_X6_parish_75 rfl ?_
          refine tn_getI (pc := 76) hΓ d_X6_parish_76 fl_6_68 rfl (gd_k hG (c := 39) rfl) ?_
          refine tn_iload (pc := 79) hΓ d_X6_parish_79 rfl ?_
          refine tn_isub (pc := 81) hΓ d_X6_parish_81 ?_
          refine tn_isub (pc := 82) hΓ d_X6_parish_82 ?_
          exact tn_ret_i (pc := 83) hΓ hK d_X6_parish_83 rfl (by decide) (by decide) h
      · have h := h.2 hq
        refine tn_aload_n (pc := 40) hΓ d_X6_parish_40 rfl ?_
        refine tn_iload (pc := 41) hΓ d_X6_parish_41 rfl ?_
        refine tn_cvI (As := [.int r3]) (st := []) (pc := 43) hΓ d_X6_parish_43 mv_X6_fails im_X6_fails se_X6_fails ml_6_82 ⟨⟨by decide, by decide⟩, by decide, by decide⟩ rfl rfl rfl (by decide) ⟨_, rfl⟩ (gd_k hG (c := 39) rfl) (Nat.le_of_ble_eq_true rfl) rfl h (fun r5 σ8 h => ?_)
        exact tn_ret_i (pc := 46) hΓ hK d_X6_parish_46 rfl (by decide) (by decide) h
    · have h := h.2 hq
      refine tn_bipush (pc := 21) hΓ d_X6_parish_21 bp_m2 ?_
      exact tn_ret_i (pc := 23) hΓ hK d_X6_parish_23 rfl (by decide) (by decide) h
  · have h := h.2 hq
    refine tn_iconst (pc := 12) hΓ d_X6_parish_12 ic_m1 ?_
    exact tn_ret_i (pc := 13) hΓ hK d_X6_parish_13 rfl (by decide) (by decide) h
theorem k_X6_takeParish_0 {Γ : tn_G} {ks : List (Nat × Nat)} {ρ : Nat → Nat → Nat} {σ : Nat → Nat → Int32} {K : Option Value → List (Nat × Nat) → (Nat → Nat → Nat) → (Nat → Nat → Int32) → Prop} (hG : tn_Gd ks ρ) (hΓ : tn_is Γ m_X6_takeParish) (hK : tn_rt Γ m_X6_takeParish K)  (h : (∀ σ1, σ1 = tn_u σ 39 5 (σ 39 19) → (∀ σ2, σ2 = tn_u σ1 39 6 (σ1 39 20) → (∀ σ3, σ3 = tn_u σ2 39 7 (σ2 39 21) → tn_A Γ 26 [.ref 39, .int (0 : Int32)] [] 0 0 ks ρ σ3)))) : tn_A Γ 0 [.ref 39, .null] [] 0 0 ks ρ σ := by
  refine tn_aload_n (pc := 0) hΓ d_X6_takeParish_0 rfl ?_
  refine tn_aload_n (pc := 1) hΓ d_X6_takeParish_1 rfl ?_
  refine tn_getI (pc := 2) hΓ d_X6_takeParish_2 fl_6_92 rfl (gd_k hG (c := 39) rfl) ?_
  refine tn_putI (pc := 5) hΓ d_X6_takeParish_5 fl_6_62 fk_6_6_5 rfl (gd_k hG (c := 39) rfl)  ?_
  refine tn_tops (fun σ1 eσ1 => ?_)
  have h := h σ1 eσ1
  refine tn_aload_n (pc := 8) hΓ d_X6_takeParish_8 rfl ?_
  refine tn_aload_n (pc := 9) hΓ d_X6_takeParish_9 rfl ?_
  refine tn_getI (pc := 10) hΓ d_X6_takeParish_10 fl_6_95 rfl (gd_k hG (c := 39) rfl) ?_
  refine tn_putI (pc := 13) hΓ d_X6_takeParish_13 fl_6_65 fk_6_6_6 rfl (gd_k hG (c := 39) rfl)  ?_
  refine tn_tops (fun σ2 eσ2 => ?_)
  have h := h σ2 eσ2
  refine tn_aload_n (pc := 16) hΓ d_X6_takeParish_16 rfl ?_
  refine tn_aload_n (pc := 17) hΓ d_X6_takeParish_17 rfl ?_
  refine tn_getI (pc := 18) hΓ d_X6_takeParish_18 fl_6_98 rfl (gd_k hG (c := 39) rfl) ?_
  refine tn_putI (pc := 21) hΓ d_X6_takeParish_21 fl_6_101 fk_6_6_7 rfl (gd_k hG (c := 39) rfl)  ?_
  refine tn_tops (fun σ3 eσ3 => ?_)
  have h := h σ3 eσ3
  refine tn_iconst (pc := 24) hΓ d_X6_takeParish_24 ic_0 ?_
  refine tn_istore_n (loc' := [.ref 39, .int (0 : Int32)]) (pc := 25) hΓ d_X6_takeParish_25 (by decide) rfl rfl ?_
  exact h
theorem k_X6_takeParish_26 {Γ : tn_G} {ks : List (Nat × Nat)} {ρ : Nat → Nat → Nat} {σ : Nat → Nat → Int32} {K : Option Value → List (Nat × Nat) → (Nat → Nat → Nat) → (Nat → Nat → Int32) → Prop} (hG : tn_Gd ks ρ) (hΓ : tn_is Γ m_X6_takeParish) (hK : tn_rt Γ m_X6_takeParish K) (y1 : Int32) (h : (((σ 39 5) ≤ y1 → tn_A Γ 95 [.ref 39, .int (0 : Int32)] [] 0 0 ks ρ σ) ∧ (¬ (σ 39 5) ≤ y1 → (vp_in ((3 : Int32) * y1) 15 ∧ (vp_in y1 5 ∧ (∀ σ1, σ1 = tn_u σ 43 y1.toNatClampNeg (σ 48 ((3 : Int32) * y1).toNatClampNeg) → (vp_in (((3 : Int32) * y1) + (1 : Int32)) 15 ∧ (∀ σ2, σ2 = tn_u σ1 44 y1.toNatClampNeg (σ1 48 (((3 : Int32) * y1) + (1 : Int32)).toNatClampNeg) → (vp_in (((3 : Int32) * y1) + (2 : Int32)) 15 ∧ (∀ σ3, σ3 = tn_u σ2 45 y1.toNatClampNeg (σ2 48 (((3 : Int32) * y1) + (2 : Int32)).toNatClampNeg) → (∀ σ4, σ4 = tn_u σ3 46 y1.toNatClampNeg (0 : Int32) → (∀ x1 : Int32, x1 = y1 + (1 : Int32) → tn_A Γ 26 [.ref 39, .int x1] [] 0 0 ks ρ σ4)))))))))))) : tn_A Γ 26 [.ref 39, .int y1] [] 0 0 ks ρ σ := by
  refine tn_iload_n (pc := 26) hΓ d_X6_takeParish_26 rfl ?_
  refine tn_aload_n (pc := 27) hΓ d_X6_takeParish_27 rfl ?_
  refine tn_getI (pc := 28) hΓ d_X6_takeParish_28 fl_6_62 rfl (gd_k hG (c := 39) rfl) ?_
  refine tn_icmp_ge (tgt := 93) (pc := 31) hΓ d_X6_takeParish_31 (by decide) (fun hq => ?_) (fun hq => ?_)
  · have h := h.1 hq
    refine tn_iconst (pc := 93) hΓ d_X6_takeParish_93 ic_0 ?_
    refine tn_istore_n (loc' := [.ref 39, .int (0 : Int32)]) (pc := 94) hΓ d_X6_takeParish_94 (by decide) rfl rfl ?_
    exact h
  · have h := h.2 hq
    refine tn_aload_n (pc := 34) hΓ d_X6_takeParish_34 rfl ?_
    refine tn_getRy (y := 43) (pc := 35) hΓ d_X6_takeParish_35 fl_6_19 rfl (gd_k hG (c := 39) rfl) (gd_r hG 39 13 43 rfl rfl) ?_
    refine tn_iload_n (pc := 38) hΓ d_X6_takeParish_38 rfl ?_
    refine tn_aload_n (pc := 39) hΓ d_X6_takeParish_39 rfl ?_
    refine tn_getRy (y := 48) (pc := 40) hΓ d_X6_takeParish_40 fl_6_34 rfl (gd_k hG (c := 39) rfl) (gd_r hG 39 22 48 rfl rfl) ?_
    refine tn_iconst (pc := 43) hΓ d_X6_takeParish_43 ic_3 ?_
    refine tn_iload_n (pc := 44) hΓ d_X6_takeParish_44 rfl ?_
    refine tn_imul (pc := 45) hΓ d_X6_takeParish_45 ?_
    obtain ⟨hi1, h⟩ := h
    refine tn_ald (pc := 46) hΓ d_X6_takeParish_46 (gd_k hG (c := 48) rfl) hi1 ?_
    obtain ⟨hi2, h⟩ := h
    refine tn_ast (pc := 47) hΓ d_X6_takeParish_47 (gd_k hG (c := 43) rfl) hi2 ?_
    refine tn_tops (fun σ1 eσ1 => ?_)
    have h := h σ1 eσ1
    refine tn_aload_n (pc := 48) hΓ d_X6_takeParish_48 rfl ?_
    refine tn_getRy (y := 44) (pc := 49) hΓ d_X6_takeParish_49 fl_6_22 rfl (gd_k hG (c := 39) rfl) (gd_r hG 39 14 44 rfl rfl) ?_
    refine tn_iload_n (pc := 52) hΓ d_X6_takeParish_52 rfl ?_
    refine tn_aload_n (pc := 53) hΓ d_X6_takeParish_53 rfl ?_
    refine tn_getRy (y := 48) (pc := 54) hΓ d_X6_takeParish_54 fl_6_34 rfl (gd_k hG (c := 39) rfl) (gd_r hG 39 22 48 rfl rfl) ?_
    refine tn_iconst (pc := 57) hΓ d_X6_takeParish_57 ic_3 ?_
    refine tn_iload_n (pc := 58) hΓ d_X6_takeParish_58 rfl ?_
    refine tn_imul (pc := 59) hΓ d_X6_takeParish_59 ?_
    refine tn_iconst (pc := 60) hΓ d_X6_takeParish_60 ic_1 ?_
    refine tn_iadd (pc := 61) hΓ d_X6_takeParish_61 ?_
    obtain ⟨hi3, h⟩ := h
    refine tn_ald (pc := 62) hΓ d_X6_takeParish_62 (gd_k hG (c := 48) rfl) hi3 ?_
    refine tn_ast (pc := 63) hΓ d_X6_takeParish_63 (gd_k hG (c := 44) rfl) hi2 ?_
    refine tn_tops (fun σ2 eσ2 => ?_)
    have h := h σ2 eσ2
    refine tn_aload_n (pc := 64) hΓ d_X6_takeParish_64 rfl ?_
    refine tn_getRy (y := 45) (pc := 65) hΓ d_X6_takeParish_65 fl_6_25 rfl (gd_k hG (c := 39) rfl) (gd_r hG 39 15 45 rfl rfl) ?_
    refine tn_iload_n (pc := 68) hΓ d_X6_takeParish_68 rfl ?_
    refine tn_aload_n (pc := 69) hΓ d_X6_takeParish_69 rfl ?_
    refine tn_getRy (y := 48) (pc := 70) hΓ d_X6_takeParish_70 fl_6_34 rfl (gd_k hG (c := 39) rfl) (gd_r hG 39 22 48 rfl rfl) ?_
    refine tn_iconst (pc := 73) hΓ d_X6_takeParish_73 ic_3 ?_
    refine tn_iload_n (pc := 74) hΓ d_X6_takeParish_74 rfl ?_
    refine tn_imul (pc := 75) hΓ d_X6_takeParish_75 ?_
    refine tn_iconst (pc := 76) hΓ d_X6_takeParish_76 ic_2 ?_
    refine tn_iadd (pc := 77) hΓ d_X6_takeParish_77 ?_
    obtain ⟨hi4, h⟩ := h
    refine tn_ald (pc := 78) hΓ d_X6_takeParish_78 (gd_k hG (c := 48) rfl) hi4 ?_
    refine tn_ast (pc := 79) hΓ d_X6_takeParish_79 (gd_k hG (c := 45) rfl) hi2 ?_
    refine tn_tops (fun σ3 eσ3 => ?_)
    have h := h σ3 eσ3
    refine tn_aload_n (pc := 80) hΓ d_X6_takeParish_80 rfl ?_
    refine tn_getRy (y := 46) (pc := 81) hΓ d_X6_takeParish_81 fl_6_28 rfl (gd_k hG (c := 39) rfl) (gd_r hG 39 16 46 rfl rfl) ?_
    refine tn_iload_n (pc := 84) hΓ d_X6_takeParish_84 rfl ?_
    refine tn_iconst (pc := 85) hΓ d_X6_takeParish_85 ic_0 ?_
    refine tn_ast (pc := 86) hΓ d_X6_takeParish_86 (gd_k hG (c := 46) rfl) hi2 ?_
    refine tn_tops (fun σ4 eσ4 => ?_)
    have h := h σ4 eσ4
    refine tn_iincw (loc' := fun v_ => [.ref 39, .int v_]) (pc := 87) hΓ d_X6_takeParish_87 rfl ic_1 (by decide) rfl (fun _ => rfl) (fun x1 ex1 => ?_)
    have h := h x1 ex1
    refine tn_goto (tgt := 26) (pc := 90) hΓ d_X6_takeParish_90 (by decide) ?_
    exact h
theorem k_X6_takeParish_95 {Γ : tn_G} {ks : List (Nat × Nat)} {ρ : Nat → Nat → Nat} {σ : Nat → Nat → Int32} {K : Option Value → List (Nat × Nat) → (Nat → Nat → Nat) → (Nat → Nat → Int32) → Prop} (hG : tn_Gd ks ρ) (hΓ : tn_is Γ m_X6_takeParish) (hK : tn_rt Γ m_X6_takeParish K) (y1 : Int32) (h : (((σ 39 6) ≤ y1 → (∀ σ1, σ1 = tn_u σ 39 11 (0 : Int32) → (∀ σ2, σ2 = tn_u σ1 39 12 (0 : Int32) → (∀ σ3, σ3 = tn_u σ2 39 8 (0 : Int32) → (∀ σ4, σ4 = tn_u σ3 39 9 (0 : Int32) → (∀ σ5, σ5 = tn_u σ4 39 10 (0 : Int32) → (∀ σ6, σ6 = tn_u σ5 39 26 (0 : Int32) → K none ks ρ σ6))))))) ∧ (¬ (σ 39 6) ≤ y1 → (vp_in y1 4 ∧ (∀ σ7, σ7 = tn_u σ 47 y1.toNatClampNeg (σ 49 y1.toNatClampNeg) → (∀ x1 : Int32, x1 = y1 + (1 : Int32) → tn_A Γ 95 [.ref 39, .int x1] [] 0 0 ks ρ σ7)))))) : tn_A Γ 95 [.ref 39, .int y1] [] 0 0 ks ρ σ := by
  refine tn_iload_n (pc := 95) hΓ d_X6_takeParish_95 rfl ?_
  refine tn_aload_n (pc := 96) hΓ d_X6_takeParish_96 rfl ?_
  refine tn_getI (pc := 97) hΓ d_X6_takeParish_97 fl_6_65 rfl (gd_k hG (c := 39) rfl) ?_
  refine tn_icmp_ge (tgt := 121) (pc := 100) hΓ d_X6_takeParish_100 (by decide) (fun hq => ?_) (fun hq => ?_)
  · have h := h.1 hq
    refine tn_aload_n (pc := 121) hΓ d_X6_takeParish_121 rfl ?_
    refine tn_iconst (pc := 122) hΓ d_X6_takeParish_122 ic_0 ?_
    refine tn_putI (pc := 123) hΓ d_X6_takeParish_123 fl_6_104 fk_6_6_11 rfl (gd_k hG (c := 39) rfl)  ?_
    refine tn_tops (fun σ1 eσ1 => ?_)
    have h := h σ1 eσ1
    refine tn_aload_n (pc := 126) hΓ d_X6_takeParish_126 rfl ?_
    refine tn_iconst (pc := 127) hΓ d_X6_takeParish_127 ic_0 ?_
    refine tn_putI (pc := 128) hΓ d_X6_takeParish_128 fl_6_107 fk_6_6_12 rfl (gd_k hG (c := 39) rfl)  ?_
    refine tn_tops (fun σ2 eσ2 => ?_)
    have h := h σ2 eσ2
    refine tn_aload_n (pc := 131) hΓ d_X6_takeParish_131 rfl ?_
    refine tn_iconst (pc := 132) hΓ d_X6_takeParish_132 ic_0 ?_
    refine tn_putI (pc := 133) hΓ d_X6_takeParish_133 fl_6_110 fk_6_6_8 rfl (gd_k hG (c := 39) rfl)  ?_
    refine tn_tops (fun σ3 eσ3 => ?_)
    have h := h σ3 eσ3
    refine tn_aload_n (pc := 136) hΓ d_X6_takeParish_136 rfl ?_
    refine tn_iconst (pc := 137) hΓ d_X6_takeParish_137 ic_0 ?_
    refine tn_putI (pc := 138) hΓ d_X6_takeParish_138 fl_6_113 fk_6_6_9 rfl (gd_k hG (c := 39) rfl)  ?_
    refine tn_tops (fun σ4 eσ4 => ?_)
    have h := h σ4 eσ4
    refine tn_aload_n (pc := 141) hΓ d_X6_takeParish_141 rfl ?_
    refine tn_iconst (pc := 142) hΓ d_X6_takeParish_142 ic_0 ?_
    refine tn_putI (pc := 143) hΓ d_X6_takeParish_143 fl_6_116 fk_6_6_10 rfl (gd_k hG (c := 39) rfl)  ?_
    refine tn_tops (fun σ5 eσ5 => ?_)
    have h := h σ5 eσ5
    refine tn_aload_n (pc := 146) hΓ d_X6_takeParish_146 rfl ?_
    refine tn_iconst (pc := 147) hΓ d_X6_takeParish_147 ic_0 ?_
    refine tn_putI (pc := 148) hΓ d_X6_takeParish_148 fl_6_119 fk_6_6_26 rfl (gd_k hG (c := 39) rfl)  ?_
    refine tn_tops (fun σ6 eσ6 => ?_)
    have h := h σ6 eσ6
    exact tn_ret_v (pc := 151) hΓ hK d_X6_takeParish_151 rfl (by decide) (by decide) h
  · have h := h.2 hq
    refine tn_aload_n (pc := 103) hΓ d_X6_takeParish_103 rfl ?_
    refine tn_getRy (y := 47) (pc := 104) hΓ d_X6_takeParish_104 fl_6_31 rfl (gd_k hG (c := 39) rfl) (gd_r hG 39 17 47 rfl rfl) ?_
    refine tn_iload_n (pc := 107) hΓ d_X6_takeParish_107 rfl ?_
    refine tn_aload_n (pc := 108) hΓ d_X6_takeParish_108 rfl ?_
    refine tn_getRy (y := 49) (pc := 109) hΓ d_X6_takeParish_109 fl_6_37 rfl (gd_k hG (c := 39) rfl) (gd_r hG 39 23 49 rfl rfl) ?_
    refine tn_iload_n (pc := 112) hΓ d_X6_takeParish_112 rfl ?_
    obtain ⟨hi1, h⟩ := h
    refine tn_ald (pc := 113) hΓ d_X6_takeParish_113 (gd_k hG (c := 49) rfl) hi1 ?_
    refine tn_ast (pc := 114) hΓ d_X6_takeParish_114 (gd_k hG (c := 47) rfl) hi1 ?_
    refine tn_tops (fun σ7 eσ7 => ?_)
    have h := h σ7 eσ7
    refine tn_iincw (loc' := fun v_ => [.ref 39, .int v_]) (pc := 115) hΓ d_X6_takeParish_115 rfl ic_1 (by decide) rfl (fun _ => rfl) (fun x1 ex1 => ?_)
    have h := h x1 ex1
    refine tn_goto (tgt := 95) (pc := 118) hΓ d_X6_takeParish_118 (by decide) ?_
    exact h
theorem k_X6_readParish_0 {Γ : tn_G} {ks : List (Nat × Nat)} {ρ : Nat → Nat → Nat} {σ : Nat → Nat → Int32} {K : Option Value → List (Nat × Nat) → (Nat → Nat → Nat) → (Nat → Nat → Int32) → Prop} (hG : tn_Gd ks ρ) (hΓ : tn_is Γ m_X6_readParish) (hK : tn_rt Γ m_X6_readParish K) (a0 : Int32) (h : (∀ σ1, σ1 = tn_u σ 39 19 (0 : Int32) → (∀ σ2, σ2 = tn_u σ1 39 20 (0 : Int32) → tn_CI m_X6_isSign [.ref 39, .int a0, .int (116 : Int32)] ks ρ σ2 (fun r1 σ3 => ((¬ r1 = 0 → tn_CI m_X6_digit [.ref 39, .int a0, .int (1 : Int32), .int (4 : Int32)] ks ρ σ3 (fun r2 σ4 => (∀ σ5, σ5 = tn_u σ4 39 21 r2 → ((¬ (σ5 39 21) = (-9 : Int32) → tn_A Γ 44 [.ref 39, .int a0] [] 0 0 ks ρ σ5) ∧ ((σ5 39 21) = (-9 : Int32) → K (some (.int (0 : Int32))) ks ρ σ5))))) ∧ (r1 = 0 → K (some (.int (0 : Int32))) ks ρ σ3)))))) : tn_A Γ 0 [.ref 39, .int a0] [] 0 0 ks ρ σ := by
  refine tn_aload_n (pc := 0) hΓ d_X6_readParish_0 rfl ?_
  refine tn_iconst (pc := 1) hΓ d_X6_readParish_1 ic_0 ?_
  refine tn_putI (pc := 2) hΓ d_X6_readParish_2 fl_6_92 fk_6_6_19 rfl (gd_k hG (c := 39) rfl)  ?_
  refine tn_tops (fun σ1 eσ1 => ?_)
  have h := h σ1 eσ1
  refine tn_aload_n (pc := 5) hΓ d_X6_readParish_5 rfl ?_
  refine tn_iconst (pc := 6) hΓ d_X6_readParish_6 ic_0 ?_
  refine tn_putI (pc := 7) hΓ d_X6_readParish_7 fl_6_95 fk_6_6_20 rfl (gd_k hG (c := 39) rfl)  ?_
  refine tn_tops (fun σ2 eσ2 => ?_)
  have h := h σ2 eσ2
  refine tn_aload_n (pc := 10) hΓ d_X6_readParish_10 rfl ?_
  refine tn_iload_n (pc := 11) hΓ d_X6_readParish_11 rfl ?_
  refine tn_bipush (pc := 12) hΓ d_X6_readParish_12 bp_116 ?_
  refine tn_cvI (As := [.int a0, .int (116 : Int32)]) (st := []) (pc := 14) hΓ d_X6_readParish_14 mv_X6_isSign im_X6_isSign se_X6_isSign ml_6_122 ⟨⟨by decide, by decide⟩, by decide, by decide⟩ rfl rfl rfl (by decide) ⟨_, rfl⟩ (gd_k hG (c := 39) rfl) (Nat.le_of_ble_eq_true rfl) rfl h (fun r1 σ3 h => ?_)
  refine tn_if_ne (tgt := 22) (pc := 17) hΓ d_X6_readParish_17 (by decide) (fun hq => ?_) (fun hq => ?_)
  · have h := h.1 hq
    refine tn_aload_n (pc := 22) hΓ d_X6_readParish_22 rfl ?_
    refine tn_aload_n (pc := 23) hΓ d_X6_readParish_23 rfl ?_
    refine tn_iload_n (pc := 24) hΓ d_X6_readParish_24 rfl ?_
    refine tn_iconst (pc := 25) hΓ d_X6_readParish_25 ic_1 ?_
    refine tn_iconst (pc := 26) hΓ d_X6_readParish_26 ic_4 ?_
    refine tn_cvI (As := [.int a0, .int (1 : Int32), .int (4 : Int32)]) (st := [.ref 39]) (pc := 27) hΓ d_X6_readParish_27 mv_X6_digit im_X6_digit se_X6_digit ml_6_126 ⟨⟨by decide, by decide⟩, by decide, by decide⟩ rfl rfl rfl (by decide) ⟨_, rfl⟩ (gd_k hG (c := 39) rfl) (Nat.le_of_ble_eq_true rfl) rfl h (fun r2 σ4 h => ?_)
    refine tn_putI (pc := 30) hΓ d_X6_readParish_30 fl_6_98 fk_6_6_21 rfl (gd_k hG (c := 39) rfl)  ?_
    refine tn_tops (fun σ5 eσ5 => ?_)
    have h := h σ5 eσ5
    refine tn_aload_n (pc := 33) hΓ d_X6_readParish_33 rfl ?_
    refine tn_getI (pc := 34) hΓ d_X6_readParish_34 fl_6_98 rfl (gd_k hG (c := 39) rfl) ?_
    refine tn_bipush (pc := 37) hΓ d_X6_readParish_37 bp_m9 ?_
    refine tn_icmp_ne (tgt := 44) (pc := 39) hΓ d_X6_readParish_39 (by decide) (fun hq => ?_) (fun hq => ?_)
    · have h := h.1 hq
      exact h
    · have h := h.2 hq
      refine tn_iconst (pc := 42) hΓ d_X6_readParish_42 ic_0 ?_
      exact tn_ret_z (pc := 43) hΓ hK d_X6_readParish_43 rfl (by decide) (by decide) (Or.inl rfl) h
  · have h := h.2 hq
    refine tn_iconst (pc := 20) hΓ d_X6_readParish_20 ic_0 ?_
    exact tn_ret_z (pc := 21) hΓ hK d_X6_readParish_21 rfl (by decide) (by decide) (Or.inl rfl) h
theorem k_X6_readParish_44 {Γ : tn_G} {ks : List (Nat × Nat)} {ρ : Nat → Nat → Nat} {σ : Nat → Nat → Int32} {K : Option Value → List (Nat × Nat) → (Nat → Nat → Nat) → (Nat → Nat → Int32) → Prop} (hG : tn_Gd ks ρ) (hΓ : tn_is Γ m_X6_readParish) (hK : tn_rt Γ m_X6_readParish K) (y1 : Int32) (h : (((σ 39 19) = 0 → tn_CI m_X6_isSign [.ref 39, .int y1, .int (59 : Int32)] ks ρ σ (fun r1 σ1 => ((r1 = 0 → K (some (.int (0 : Int32))) ks ρ σ1) ∧ (¬ r1 = 0 → tn_CI m_X6_readHouse [.ref 39, .int y1] ks ρ σ1 (fun r2 σ2 => ((¬ r2 = 0 → tn_A Γ 44 [.ref 39, .int y1] [] 0 0 ks ρ σ2) ∧ (r2 = 0 → K (some (.int (0 : Int32))) ks ρ σ2))))))) ∧ (¬ (σ 39 19) = 0 → (((5 : Int32) ≤ (σ 39 19) → (((σ 39 18) = y1 → K (some (.int (1 : Int32))) ks ρ σ) ∧ (¬ (σ 39 18) = y1 → tn_CI m_X6_readStonesAll [.ref 39, .int y1] ks ρ σ (fun r3 σ3 => ((r3 = 0 → K (some (.int (0 : Int32))) ks ρ σ3) ∧ (¬ r3 = 0 → K (some (.int (1 : Int32))) ks ρ σ3)))))) ∧ (¬ (5 : Int32) ≤ (σ 39 19) → ((y1 ≤ (σ 39 18) → (((σ 39 18) = y1 → K (some (.int (1 : Int32))) ks ρ σ) ∧ (¬ (σ 39 18) = y1 → tn_CI m_X6_readStonesAll [.ref 39, .int y1] ks ρ σ (fun r4 σ4 => ((r4 = 0 → K (some (.int (0 : Int32))) ks ρ σ4) ∧ (¬ r4 = 0 → K (some (.int (1 : Int32))) ks ρ σ4)))))) ∧ (¬ y1 ≤ (σ 39 18) → (vp_in (σ 39 18) 240 ∧ ((¬ (σ 42 (σ 39 18).toNatClampNeg) = (59 : Int32) → (((σ 39 18) = y1 → K (some (.int (1 : Int32))) ks ρ σ) ∧ (¬ (σ 39 18) = y1 → tn_CI m_X6_readStonesAll [.ref 39, .int y1] ks ρ σ (fun r5 σ5 => ((r5 = 0 → K (some (.int (0 : Int32))) ks ρ σ5) ∧ (¬ r5 = 0 → K (some (.int (1 : Int32))) ks ρ σ5)))))) ∧ ((σ 42 (σ 39 18).toNatClampNeg) = (59 : Int32) → tn_CI m_X6_isSign [.ref 39, .int y1, .int (59 : Int32)] ks ρ σ (fun r6 σ6 => ((r6 = 0 → K (some (.int (0 : Int32))) ks ρ σ6) ∧ (¬ r6 = 0 → tn_CI m_X6_readHouse [.ref 39, .int y1] ks ρ σ6 (fun r7 σ7 => ((¬ r7 = 0 → tn_A Γ 44 [.ref 39, .int y1] [] 0 0 ks ρ σ7) ∧ (r7 = 0 → K (some (.int (0 : Int32))) ks ρ σ7)))))))))))))))) : tn_A Γ 44 [.ref 39, .int y1] [] 0 0 ks ρ σ := by
  refine tn_aload_n (pc := 44) hΓ d_X6_readParish_44 rfl ?_
  refine tn_getI (pc := 45) hΓ d_X6_readParish_45 fl_6_92 rfl (gd_k hG (c := 39) rfl) ?_
  refine tn_if_eq (tgt := 81) (pc := 48) hΓ d_X6_readParish_48 (by decide) (fun hq => ?_) (fun hq => ?_)
  · have h := h.1 hq
    refine tn_aload_n (pc := 81) hΓ d_X6_readParish_81 rfl ?_
    refine tn_iload_n (pc := 82) hΓ d_X6_readParish_82 rfl ?_
    refine tn_bipush (pc := 83) hΓ d_X6_readParish_83 bp_59 ?_
    refine tn_cvI (As := [.int y1, .int (59 : Int32)]) (st := []) (pc := 85) hΓ d_X6_readParish_85 mv_X6_isSign im_X6_isSign se_X6_isSign ml_6_122 ⟨⟨by decide, by decide⟩, by decide, by decide⟩ rfl rfl rfl (by decide) ⟨_, rfl⟩ (gd_k hG (c := 39) rfl) (Nat.le_of_ble_eq_true rfl) rfl h (fun r1 σ1 h => ?_)
    refine tn_if_eq (tgt := 99) (pc := 88) hΓ d_X6_readParish_88 (by decide) (fun hq => ?_) (fun hq => ?_)
    · have h := h.1 hq
      refine tn_iconst (pc := 99) hΓ d_X6_readParish_99 ic_0 ?_
      exact tn_ret_z (pc := 100) hΓ hK d_X6_readParish_100 rfl (by decide) (by decide) (Or.inl rfl) h
    · have h := h.2 hq
      refine tn_aload_n (pc := 91) hΓ d_X6_readParish_91 rfl ?_
      refine tn_iload_n (pc := 92) hΓ d_X6_readParish_92 rfl ?_
      refine tn_cvI (As := [.int y1]) (st := []) (pc := 93) hΓ d_X6_readParish_93 mv_X6_readHouse im_X6_readHouse se_X6_readHouse ml_6_130 ⟨⟨by decide, by decide⟩, by decide, by decide⟩ rfl rfl rfl (by decide) ⟨_, rfl⟩ (gd_k hG (c := 39) rfl) (Nat.le_of_ble_eq_true rfl) rfl h (fun r2 σ2 h => ?_)
      refine tn_if_ne (tgt := 44) (pc := 96) hΓ d_X6_readParish_96 (by decide) (fun hq => ?_) (fun hq => ?_)
      · have h := h.1 hq
        exact h
      · have h := h.2 hq
        refine tn_iconst (pc := 99) hΓ d_X6_readParish_99 ic_0 ?_
        exact tn_ret_z (pc := 100) hΓ hK d_X6_readParish_100 rfl (by decide) (by decide) (Or.inl rfl) h
  · have h := h.2 hq
    refine tn_aload_n (pc := 51) hΓ d_X6_readParish_51 rfl ?_
    refine tn_getI (pc := 52) hΓ d_X6_readParish_52 fl_6_92 rfl (gd_k hG (c := 39) rfl) ?_
    refine tn_iconst (pc := 55) hΓ d_X6_readParish_55 ic_5 ?_
    refine tn_icmp_ge (tgt := 101) (pc := 56) hΓ d_X6_readParish_56 (by decide) (fun hq => ?_) (fun hq => ?_)
    · have h := h.1 hq
      refine tn_aload_n (pc := 101) hΓ d_X6_readParish_101 rfl ?_
      refine tn_getI (pc := 102) hΓ d_X6_readParish_102 fl_6_68 rfl (gd_k hG (c := 39) rfl) ?_
      refine tn_iload_n (pc := 105) hΓ d_X6_readParish_105 rfl ?_
      refine tn_icmp_eq (tgt := 117) (pc := 106) hΓ d_X6_readParish_106 (by decide) (fun hq => ?_) (fun hq => ?_)
      · have h := h.1 hq
        refine tn_iconst (pc := 117) hΓ d_X6_readParish_117 ic_1 ?_
        refine tn_goto (tgt := 122) (pc := 118) hΓ d_X6_readParish_118 (by decide) ?_
        exact tn_ret_z (pc := 122) hΓ hK d_X6_readParish_122 rfl (by decide) (by decide) (Or.inr rfl) h
      · have h := h.2 hq
        refine tn_aload_n (pc := 109) hΓ d_X6_readParish_109 rfl ?_
        refine tn_iload_n (pc := 110) hΓ d_X6_readParish_110 rfl ?_
        refine tn_cvI (As := [.int y1]) (st := []) (pc := 111) hΓ d_X6_readParish_111 mv_X6_readStonesAll im_X6_readStonesAll se_X6_readStonesAll ml_6_133 ⟨⟨by decide, by decide⟩, by decide, by decide⟩ rfl rfl rfl (by decide) ⟨_, rfl⟩ (gd_k hG (c := 39) rfl) (Nat.le_of_ble_eq_true rfl) rfl h (fun r3 σ3 h => ?_)
        refine tn_if_eq (tgt := 121) (pc := 114) hΓ d_X6_readParish_114 (by decide) (fun hq => ?_) (fun hq => ?_)
        · have h := h.1 hq
          refine tn_iconst (pc := 121) hΓ d_X6_readParish_121 ic_0 ?_
          exact tn_ret_z (pc := 122) hΓ hK d_X6_readParish_122 rfl (by decide) (by decide) (Or.inl rfl) h
        · have h := h.2 hq
          refine tn_iconst (pc := 117) hΓ d_X6_readParish_117 ic_1 ?_
          refine tn_goto (tgt := 122) (pc := 118) hΓ d_X6_readParish_118 (by decide) ?_
          exact tn_ret_z (pc := 122) hΓ hK d_X6_readParish_122 rfl (by decide) (by decide) (Or.inr rfl) h
    · have h := h.2 hq
      refine tn_aload_n (pc := 59) hΓ d_X6_readParish_59 rfl ?_
      refine tn_getI (pc := 60) hΓ d_X6_readParish_60 fl_6_68 rfl (gd_k hG (c := 39) rfl) ?_
      refine tn_iload_n (pc := 63) hΓ d_X6_readParish_63 rfl ?_
      refine tn_icmp_ge (tgt := 101) (pc := 64) hΓ d_X6_readParish_64 (by decide) (fun hq => ?_) (fun hq => ?_)
      · have h := h.1 hq
        refine tn_aload_n (pc := 101) hΓ d_X6_readParish_101 rfl ?_
        refine tn_getI (pc := 102) hΓ d_X6_readParish_102 fl_6_68 rfl (gd_k hG (c := 39) rfl) ?_
        refine tn_iload_n (pc := 105) hΓ d_X6_readParish_105 rfl ?_
        refine tn_icmp_eq (tgt := 117) (pc := 106) hΓ d_X6_readParish_106 (by decide) (fun hq => ?_) (fun hq => ?_)
        · have h := h.1 hq
          refine tn_iconst (pc := 117) hΓ d_X6_readParish_117 ic_1 ?_
          refine tn_goto (tgt := 122) (pc := 118) hΓ d_X6_readParish_118 (by decide) ?_
          exact tn_ret_z (pc := 122) hΓ hK d_X6_readParish_122 rfl (by decide) (by decide) (Or.inr rfl) h
        · have h := h.2 hq
          refine tn_aload_n (pc := 109) hΓ d_X6_readParish_109 rfl ?_
          refine tn_iload_n (pc := 110) hΓ d_X6_readParish_110 rfl ?_
          refine tn_cvI (As := [.int y1]) (st := []) (pc := 111) hΓ d_X6_readParish_111 mv_X6_readStonesAll im_X6_readStonesAll se_X6_readStonesAll ml_6_133 ⟨⟨by decide, by decide⟩, by decide, by decide⟩ rfl rfl rfl (by decide) ⟨_, rfl⟩ (gd_k hG (c := 39) rfl) (Nat.le_of_ble_eq_true rfl) rfl h (fun r4 σ4 h => ?_)
          refine tn_if_eq (tgt := 121) (pc := 114) hΓ d_X6_readParish_114 (by decide) (fun hq => ?_) (fun hq => ?_)
          · have h := h.1 hq
            refine tn_iconst (pc := 121) hΓ d_X6_readParish_121 ic_0 ?_
            exact tn_ret_z (pc := 122) hΓ hK d_X6_readParish_122 rfl (by decide) (by decide) (Or.inl rfl) h
          · have h := h.2 hq
            refine tn_iconst (pc := 117) hΓ d_X6_readParish_117 ic_1 ?_
            refine tn_goto (tgt := 122) (pc := 118) hΓ d_X6_readParish_118 (by decide) ?_
            exact tn_ret_z (pc := 122) hΓ hK d_X6_readParish_122 rfl (by decide) (by decide) (Or.inr rfl) h
      · have h := h.2 hq
        refine tn_aload_n (pc := 67) hΓ d_X6_readParish_67 rfl ?_
        refine tn_getRy (y := 42) (pc := 68) hΓ d_X6_readParish_68 fl_6_16 rfl (gd_k hG (c := 39) rfl) (gd_r hG 39 4 42 rfl rfl) ?_
        refine tn_aload_n (pc := 71) hΓ d_X6_readParish_71 rfl ?_
        refine tn_getI (pc := 72) hΓ d_X6_readParish_72 fl_6_68 rfl (gd_k hG (c := 39) rfl) ?_
        obtain ⟨hi1, h⟩ := h
        refine tn_ald (pc := 75) hΓ d_X6_readParish_75 (gd_k hG (c := 42) rfl) hi1 ?_
        refine tn_bipush (pc := 76) hΓ d_X6_readParish_76 bp_59 ?_
        refine tn_icmp_ne (tgt := 101) (pc := 78) hΓ d_X6_readParish_78 (by decide) (fun hq => ?_) (fun hq => ?_)
        · have h := h.1 hq
          refine tn_aload_n (pc := 101) hΓ d_X6_readParish_101 rfl ?_
          refine tn_getI (pc := 102) hΓ d_X6_readParish_102 fl_6_68 rfl (gd_k hG (c := 39) rfl) ?_
          refine tn_iload_n (pc := 105) hΓ d_X6_readParish_105 rfl ?_
          refine tn_icmp_eq (tgt := 117) (pc := 106) hΓ d_X6_readParish_106 (by decide) (fun hq => ?_) (fun hq => ?_)
          · have h := h.1 hq
            refine tn_iconst (pc := 117) hΓ d_X6_readParish_117 ic_1 ?_
            refine tn_goto (tgt := 122) (pc := 118) hΓ d_X6_readParish_118 (by decide) ?_
            exact tn_ret_z (pc := 122) hΓ hK d_X6_readParish_122 rfl (by decide) (by decide) (Or.inr rfl) h
          · have h := h.2 hq
            refine tn_aload_n (pc := 109) hΓ d_X6_readParish_109 rfl ?_
            refine tn_iload_n (pc := 110) hΓ d_X6_readParish_110 rfl ?_
            refine tn_cvI (As := [.int y1]) (st := []) (pc := 111) hΓ d_X6_readParish_111 mv_X6_readStonesAll im_X6_readStonesAll se_X6_readStonesAll ml_6_133 ⟨⟨by decide, by decide⟩, by decide, by decide⟩ rfl rfl rfl (by decide) ⟨_, rfl⟩ (gd_k hG (c := 39) rfl) (Nat.le_of_ble_eq_true rfl) rfl h (fun r5 σ5 h => ?_)
            refine tn_if_eq (tgt := 121) (pc := 114) hΓ d_X6_readParish_114 (by decide) (fun hq => ?_) (fun hq => ?_)
            · have h := h.1 hq
              refine tn_iconst (pc := 121) hΓ d_X6_readParish_121 ic_0 ?_
              exact tn_ret_z (pc := 122) hΓ hK d_X6_readParish_122 rfl (by decide) (by decide) (Or.inl rfl) h
            · have h := h.2 hq
              refine tn_iconst (pc := 117) hΓ d_X6_readParish_117 ic_1 ?_
              refine tn_goto (tgt := 122) (pc := 118) hΓ d_X6_readParish_118 (by decide) ?_
              exact tn_ret_z (pc := 122) hΓ hK d_X6_readParish_122 rfl (by decide) (by decide) (Or.inr rfl) h
        · have h := h.2 hq
          refine tn_aload_n (pc := 81) hΓ d_X6_readParish_81 rfl ?_
          refine tn_iload_n (pc := 82) hΓ d_X6_readParish_82 rfl ?_
          refine tn_bipush (pc := 83) hΓ d_X6_readParish_83 bp_59 ?_
          refine tn_cvI (As := [.int y1, .int (59 : Int32)]) (st := []) (pc := 85) hΓ d_X6_readParish_85 mv_X6_isSign im_X6_isSign se_X6_isSign ml_6_122 ⟨⟨by decide, by decide⟩, by decide, by decide⟩ rfl rfl rfl (by decide) ⟨_, rfl⟩ (gd_k hG (c := 39) rfl) (Nat.le_of_ble_eq_true rfl) rfl h (fun r6 σ6 h => ?_)
          refine tn_if_eq (tgt := 99) (pc := 88) hΓ d_X6_readParish_88 (by decide) (fun hq => ?_) (fun hq => ?_)
          · have h := h.1 hq
            refine tn_iconst (pc := 99) hΓ d_X6_readParish_99 ic_0 ?_
            exact tn_ret_z (pc := 100) hΓ hK d_X6_readParish_100 rfl (by decide) (by decide) (Or.inl rfl) h
          · have h := h.2 hq
            refine tn_aload_n (pc := 91) hΓ d_X6_readParish_91 rfl ?_
            refine tn_iload_n (pc := 92) hΓ d_X6_readParish_92 rfl ?_
            refine tn_cvI (As := [.int y1]) (st := []) (pc := 93) hΓ d_X6_readParish_93 mv_X6_readHouse im_X6_readHouse se_X6_readHouse ml_6_130 ⟨⟨by decide, by decide⟩, by decide, by decide⟩ rfl rfl rfl (by decide) ⟨_, rfl⟩ (gd_k hG (c := 39) rfl) (Nat.le_of_ble_eq_true rfl) rfl h (fun r7 σ7 h => ?_)
            refine tn_if_ne (tgt := 44) (pc := 96) hΓ d_X6_readParish_96 (by decide) (fun hq => ?_) (fun hq => ?_)
            · have h := h.1 hq
              exact h
            · have h := h.2 hq
              refine tn_iconst (pc := 99) hΓ d_X6_readParish_99 ic_0 ?_
              exact tn_ret_z (pc := 100) hΓ hK d_X6_readParish_100 rfl (by decide) (by decide) (Or.inl rfl) h
theorem k_X6_readStonesAll_0 {Γ : tn_G} {ks : List (Nat × Nat)} {ρ : Nat → Nat → Nat} {σ : Nat → Nat → Int32} {K : Option Value → List (Nat × Nat) → (Nat → Nat → Nat) → (Nat → Nat → Int32) → Prop} (hG : tn_Gd ks ρ) (hΓ : tn_is Γ m_X6_readStonesAll) (hK : tn_rt Γ m_X6_readStonesAll K) (a0 : Int32) (h : tn_CI m_X6_isSign [.ref 39, .int a0, .int (33 : Int32)] ks ρ σ (fun r1 σ1 => ((¬ r1 = 0 → tn_A Γ 12 [.ref 39, .int a0] [] 0 0 ks ρ σ1) ∧ (r1 = 0 → K (some (.int (0 : Int32))) ks ρ σ1)))) : tn_A Γ 0 [.ref 39, .int a0] [] 0 0 ks ρ σ := by
  refine tn_aload_n (pc := 0) hΓ d_X6_readStonesAll_0 rfl ?_
  refine tn_iload_n (pc := 1) hΓ d_X6_readStonesAll_1 rfl ?_
  refine tn_bipush (pc := 2) hΓ d_X6_readStonesAll_2 bp_33 ?_
  refine tn_cvI (As := [.int a0, .int (33 : Int32)]) (st := []) (pc := 4) hΓ d_X6_readStonesAll_4 mv_X6_isSign im_X6_isSign se_X6_isSign ml_6_122 ⟨⟨by decide, by decide⟩, by decide, by decide⟩ rfl rfl rfl (by decide) ⟨_, rfl⟩ (gd_k hG (c := 39) rfl) (Nat.le_of_ble_eq_true rfl) rfl h (fun r1 σ1 h => ?_)
  refine tn_if_ne (tgt := 12) (pc := 7) hΓ d_X6_readStonesAll_7 (by decide) (fun hq => ?_) (fun hq => ?_)
  · have h := h.1 hq
    exact h
  · have h := h.2 hq
    refine tn_iconst (pc := 10) hΓ d_X6_readStonesAll_10 ic_0 ?_
    exact tn_ret_z (pc := 11) hΓ hK d_X6_readStonesAll_11 rfl (by decide) (by decide) (Or.inl rfl) h
theorem k_X6_readStonesAll_12 {Γ : tn_G} {ks : List (Nat × Nat)} {ρ : Nat → Nat → Nat} {σ : Nat → Nat → Int32} {K : Option Value → List (Nat × Nat) → (Nat → Nat → Nat) → (Nat → Nat → Int32) → Prop} (hG : tn_Gd ks ρ) (hΓ : tn_is Γ m_X6_readStonesAll) (hK : tn_rt Γ m_X6_readStonesAll K) (y1 : Int32) (h : (((σ 39 20) = 0 → tn_CI m_X6_digit [.ref 39, .int y1, .int (1 : Int32), .int (9 : Int32)] ks ρ σ (fun r1 σ1 => (vp_in (σ 39 20) 4 ∧ (∀ σ2, σ2 = tn_u σ1 49 (σ 39 20).toNatClampNeg r1 → (vp_in (σ2 39 20) 4 ∧ ((¬ (σ2 49 (σ2 39 20).toNatClampNeg) = (-9 : Int32) → (∀ σ3, σ3 = tn_u σ2 39 20 ((σ2 39 20) + (1 : Int32)) → tn_A Γ 12 [.ref 39, .int y1] [] 0 0 ks ρ σ3)) ∧ ((σ2 49 (σ2 39 20).toNatClampNeg) = (-9 : Int32) → K (some (.int (0 : Int32))) ks ρ σ2))))))) ∧ (¬ (σ 39 20) = 0 → (((4 : Int32) ≤ (σ 39 20) → ((¬ (σ 39 18) = y1 → K (some (.int (0 : Int32))) ks ρ σ) ∧ ((σ 39 18) = y1 → K (some (.int (1 : Int32))) ks ρ σ))) ∧ (¬ (4 : Int32) ≤ (σ 39 20) → ((y1 ≤ (σ 39 18) → ((¬ (σ 39 18) = y1 → K (some (.int (0 : Int32))) ks ρ σ) ∧ ((σ 39 18) = y1 → K (some (.int (1 : Int32))) ks ρ σ))) ∧ (¬ y1 ≤ (σ 39 18) → tn_CI m_X6_digit [.ref 39, .int y1, .int (1 : Int32), .int (9 : Int32)] ks ρ σ (fun r2 σ4 => (vp_in (σ 39 20) 4 ∧ (∀ σ5, σ5 = tn_u σ4 49 (σ 39 20).toNatClampNeg r2 → (vp_in (σ5 39 20) 4 ∧ ((¬ (σ5 49 (σ5 39 20).toNatClampNeg) = (-9 : Int32) → (∀ σ6, σ6 = tn_u σ5 39 20 ((σ5 39 20) + (1 : Int32)) → tn_A Γ 12 [.ref 39, .int y1] [] 0 0 ks ρ σ6)) ∧ ((σ5 49 (σ5 39 20).toNatClampNeg) = (-9 : Int32) → K (some (.int (0 : Int32))) ks ρ σ5))))))))))))) : tn_A Γ 12 [.ref 39, .int y1] [] 0 0 ks ρ σ := by
  refine tn_aload_n (pc := 12) hΓ d_X6_readStonesAll_12 rfl ?_
  refine tn_getI (pc := 13) hΓ d_X6_readStonesAll_13 fl_6_95 rfl (gd_k hG (c := 39) rfl) ?_
  refine tn_if_eq (tgt := 35) (pc := 16) hΓ d_X6_readStonesAll_16 (by decide) (fun hq => ?_) (fun hq => ?_)
  · have h := h.1 hq
    refine tn_aload_n (pc := 35) hΓ d_X6_readStonesAll_35 rfl ?_
    refine tn_getRy (y := 49) (pc := 36) hΓ d_X6_readStonesAll_36 fl_6_37 rfl (gd_k hG (c := 39) rfl) (gd_r hG 39 23 49 rfl rfl) ?_
    refine tn_aload_n (pc := 39) hΓ d_X6_readStonesAll_39 rfl ?_
    refine tn_getI (pc := 40) hΓ d_X6_readStonesAll_40 fl_6_95 rfl (gd_k hG (c := 39) rfl) ?_
    refine tn_aload_n (pc := 43) hΓ d_X6_readStonesAll_43 rfl ?_
    refine tn_iload_n (pc := 44) hΓ d_X6_readStonesAll_44 rfl ?_
    refine tn_iconst (pc := 45) hΓ d_X6_readStonesAll_45 ic_1 ?_
    refine tn_bipush (pc := 46) hΓ d_X6_readStonesAll_46 bp_9 ?_
    refine tn_cvI (As := [.int y1, .int (1 : Int32), .int (9 : Int32)]) (st := [.int (σ 39 20), .ref 49]) (pc := 48) hΓ d_X6_readStonesAll_48 mv_X6_digit im_X6_digit se_X6_digit ml_6_126 ⟨⟨by decide, by decide⟩, by decide, by decide⟩ rfl rfl rfl (by decide) ⟨_, rfl⟩ (gd_k hG (c := 39) rfl) (Nat.le_of_ble_eq_true rfl) rfl h (fun r1 σ1 h => ?_)
    obtain ⟨hi1, h⟩ := h
    refine tn_ast (pc := 51) hΓ d_X6_readStonesAll_51 (gd_k hG (c := 49) rfl) hi1 ?_
    refine tn_tops (fun σ2 eσ2 => ?_)
    have h := h σ2 eσ2
    refine tn_aload_n (pc := 52) hΓ d_X6_readStonesAll_52 rfl ?_
    refine tn_getRy (y := 49) (pc := 53) hΓ d_X6_readStonesAll_53 fl_6_37 rfl (gd_k hG (c := 39) rfl) (gd_r hG 39 23 49 rfl rfl) ?_
    refine tn_aload_n (pc := 56) hΓ d_X6_readStonesAll_56 rfl ?_
    refine tn_getI (pc := 57) hΓ d_X6_readStonesAll_57 fl_6_95 rfl (gd_k hG (c := 39) rfl) ?_
    obtain ⟨hi2, h⟩ := h
    refine tn_ald (pc := 60) hΓ d_X6_readStonesAll_60 (gd_k hG (c := 49) rfl) hi2 ?_
    refine tn_bipush (pc := 61) hΓ d_X6_readStonesAll_61 bp_m9 ?_
    refine tn_icmp_ne (tgt := 68) (pc := 63) hΓ d_X6_readStonesAll_63 (by decide) (fun hq => ?_) (fun hq => ?_)
    · have h := h.1 hq
      refine tn_aload_n (pc := 68) hΓ d_X6_readStonesAll_68 rfl ?_
      refine tn_dupr (pc := 69) hΓ d_X6_readStonesAll_69 ?_
      refine tn_getI (pc := 70) hΓ d_X6_readStonesAll_70 fl_6_95 rfl (gd_k hG (c := 39) rfl) ?_
      refine tn_iconst (pc := 73) hΓ d_X6_readStonesAll_73 ic_1 ?_
      refine tn_iadd (pc := 74) hΓ d_X6_readStonesAll_74 ?_
      refine tn_putI (pc := 75) hΓ d_X6_readStonesAll_75 fl_6_95 fk_6_6_20 rfl (gd_k hG (c := 39) rfl)  ?_
      refine tn_tops (fun σ3 eσ3 => ?_)
      have h := h σ3 eσ3
      refine tn_goto (tgt := 12) (pc := 78) hΓ d_X6_readStonesAll_78 (by decide) ?_
      exact h
    · have h := h.2 hq
      refine tn_iconst (pc := 66) hΓ d_X6_readStonesAll_66 ic_0 ?_
      exact tn_ret_z (pc := 67) hΓ hK d_X6_readStonesAll_67 rfl (by decide) (by decide) (Or.inl rfl) h
  · have h := h.2 hq
    refine tn_aload_n (pc := 19) hΓ d_X6_readStonesAll_19 rfl ?_
    refine tn_getI (pc := 20) hΓ d_X6_readStonesAll_20 fl_6_95 rfl (gd_k hG (c := 39) rfl) ?_
    refine tn_iconst (pc := 23) hΓ d_X6_readStonesAll_23 ic_4 ?_
    refine tn_icmp_ge (tgt := 81) (pc := 24) hΓ d_X6_readStonesAll_24 (by decide) (fun hq => ?_) (fun hq => ?_)
    · have h := h.1 hq
      refine tn_aload_n (pc := 81) hΓ d_X6_readStonesAll_81 rfl ?_
      refine tn_getI (pc := 82) hΓ d_X6_readStonesAll_82 fl_6_68 rfl (gd_k hG (c := 39) rfl) ?_
      refine tn_iload_n (pc := 85) hΓ d_X6_readStonesAll_85 rfl ?_
      refine tn_icmp_ne (tgt := 93) (pc := 86) hΓ d_X6_readStonesAll_86 (by decide) (fun hq => ?_) (fun hq => ?_)
      · have h := h.1 hq
        refine tn_iconst (pc := 93) hΓ d_X6_readStonesAll_93 ic_0 ?_
        exact tn_ret_z (pc := 94) hΓ hK d_X6_readStonesAll_94 rfl (by decide) (by decide) (Or.inl rfl) h
      · have h := h.2 hq
        refine tn_iconst (pc := 89) hΓ d_X6_readStonesAll_89 ic_1 ?_
        refine tn_goto (tgt := 94) (pc := 90) hΓ d_X6_readStonesAll_90 (by decide) ?_
        exact tn_ret_z (pc := 94) hΓ hK d_X6_readStonesAll_94 rfl (by decide) (by decide) (Or.inr rfl) h
    · have h := h.2 hq
      refine tn_aload_n (pc := 27) hΓ d_X6_readStonesAll_27 rfl ?_
      refine tn_getI (pc := 28) hΓ d_X6_readStonesAll_28 fl_6_68 rfl (gd_k hG (c := 39) rfl) ?_
      refine tn_iload_n (pc := 31) hΓ d_X6_readStonesAll_31 rfl ?_
      refine tn_icmp_ge (tgt := 81) (pc := 32) hΓ d_X6_readStonesAll_32 (by decide) (fun hq => ?_) (fun hq => ?_)
      · have h := h.1 hq
        refine tn_aload_n (pc := 81) hΓ d_X6_readStonesAll_81 rfl ?_
        refine tn_getI (pc := 82) hΓ d_X6_readStonesAll_82 fl_6_68 rfl (gd_k hG (c := 39) rfl) ?_
        refine tn_iload_n (pc := 85) hΓ d_X6_readStonesAll_85 rfl ?_
        refine tn_icmp_ne (tgt := 93) (pc := 86) hΓ d_X6_readStonesAll_86 (by decide) (fun hq => ?_) (fun hq => ?_)
        · have h := h.1 hq
          refine tn_iconst (pc := 93) hΓ d_X6_readStonesAll_93 ic_0 ?_
          exact tn_ret_z (pc := 94) hΓ hK d_X6_readStonesAll_94 rfl (by decide) (by decide) (Or.inl rfl) h
        · have h := h.2 hq
          refine tn_iconst (pc := 89) hΓ d_X6_readStonesAll_89 ic_1 ?_
          refine tn_goto (tgt := 94) (pc := 90) hΓ d_X6_readStonesAll_90 (by decide) ?_
          exact tn_ret_z (pc := 94) hΓ hK d_X6_readStonesAll_94 rfl (by decide) (by decide) (Or.inr rfl) h
      · have h := h.2 hq
        refine tn_aload_n (pc := 35) hΓ d_X6_readStonesAll_35 rfl ?_
        refine tn_getRy (y := 49) (pc := 36) hΓ d_X6_readStonesAll_36 fl_6_37 rfl (gd_k hG (c := 39) rfl) (gd_r hG 39 23 49 rfl rfl) ?_
        refine tn_aload_n (pc := 39) hΓ d_X6_readStonesAll_39 rfl ?_
        refine tn_getI (pc := 40) hΓ d_X6_readStonesAll_40 fl_6_95 rfl (gd_k hG (c := 39) rfl) ?_
        refine tn_aload_n (pc := 43) hΓ d_X6_readStonesAll_43 rfl ?_
        refine tn_iload_n (pc := 44) hΓ d_X6_readStonesAll_44 rfl ?_
        refine tn_iconst (pc := 45) hΓ d_X6_readStonesAll_45 ic_1 ?_
        refine tn_bipush (pc := 46) hΓ d_X6_readStonesAll_46 bp_9 ?_
        refine tn_cvI (As := [.int y1, .int (1 : Int32), .int (9 : Int32)]) (st := [.int (σ 39 20), .ref 49]) (pc := 48) hΓ d_X6_readStonesAll_48 mv_X6_digit im_X6_digit se_X6_digit ml_6_126 ⟨⟨by decide, by decide⟩, by decide, by decide⟩ rfl rfl rfl (by decide) ⟨_, rfl⟩ (gd_k hG (c := 39) rfl) (Nat.le_of_ble_eq_true rfl) rfl h (fun r2 σ4 h => ?_)
        obtain ⟨hi3, h⟩ := h
        refine tn_ast (pc := 51) hΓ d_X6_readStonesAll_51 (gd_k hG (c := 49) rfl) hi3 ?_
        refine tn_tops (fun σ5 eσ5 => ?_)
        have h := h σ5 eσ5
        refine tn_aload_n (pc := 52) hΓ d_X6_readStonesAll_52 rfl ?_
        refine tn_getRy (y := 49) (pc := 53) hΓ d_X6_readStonesAll_53 fl_6_37 rfl (gd_k hG (c := 39) rfl) (gd_r hG 39 23 49 rfl rfl) ?_
        refine tn_aload_n (pc := 56) hΓ d_X6_readStonesAll_56 rfl ?_
        refine tn_getI (pc := 57) hΓ d_X6_readStonesAll_57 fl_6_95 rfl (gd_k hG (c := 39) rfl) ?_
        obtain ⟨hi4, h⟩ := h
        refine tn_ald (pc := 60) hΓ d_X6_readStonesAll_60 (gd_k hG (c := 49) rfl) hi4 ?_
        refine tn_bipush (pc := 61) hΓ d_X6_readStonesAll_61 bp_m9 ?_
        refine tn_icmp_ne (tgt := 68) (pc := 63) hΓ d_X6_readStonesAll_63 (by decide) (fun hq => ?_) (fun hq => ?_)
        · have h := h.1 hq
          refine tn_aload_n (pc := 68) hΓ d_X6_readStonesAll_68 rfl ?_
          refine tn_dupr (pc := 69) hΓ d_X6_readStonesAll_69 ?_
          refine tn_getI (pc := 70) hΓ d_X6_readStonesAll_70 fl_6_95 rfl (gd_k hG (c := 39) rfl) ?_
          refine tn_iconst (pc := 73) hΓ d_X6_readStonesAll_73 ic_1 ?_
          refine tn_iadd (pc := 74) hΓ d_X6_readStonesAll_74 ?_
          refine tn_putI (pc := 75) hΓ d_X6_readStonesAll_75 fl_6_95 fk_6_6_20 rfl (gd_k hG (c := 39) rfl)  ?_
          refine tn_tops (fun σ6 eσ6 => ?_)
          have h := h σ6 eσ6
          refine tn_goto (tgt := 12) (pc := 78) hΓ d_X6_readStonesAll_78 (by decide) ?_
          exact h
        · have h := h.2 hq
          refine tn_iconst (pc := 66) hΓ d_X6_readStonesAll_66 ic_0 ?_
          exact tn_ret_z (pc := 67) hΓ hK d_X6_readStonesAll_67 rfl (by decide) (by decide) (Or.inl rfl) h
theorem k_X6_readHouse_0 {Γ : tn_G} {ks : List (Nat × Nat)} {ρ : Nat → Nat → Nat} {σ : Nat → Nat → Int32} {K : Option Value → List (Nat × Nat) → (Nat → Nat → Nat) → (Nat → Nat → Int32) → Prop} (hG : tn_Gd ks ρ) (hΓ : tn_is Γ m_X6_readHouse) (hK : tn_rt Γ m_X6_readHouse K) (a0 : Int32) (h : ((a0 ≤ (σ 39 18) → tn_A Γ 21 [.ref 39, .int a0, .null, .null] [.int (0 : Int32)] 0 0 ks ρ σ) ∧ (¬ a0 ≤ (σ 39 18) → (vp_in (σ 39 18) 240 ∧ tn_A Γ 21 [.ref 39, .int a0, .null, .null] [.int (σ 42 (σ 39 18).toNatClampNeg)] 0 0 ks ρ σ)))) : tn_A Γ 0 [.ref 39, .int a0, .null, .null] [] 0 0 ks ρ σ := by
  refine tn_aload_n (pc := 0) hΓ d_X6_readHouse_0 rfl ?_
  refine tn_getI (pc := 1) hΓ d_X6_readHouse_1 fl_6_68 rfl (gd_k hG (c := 39) rfl) ?_
  refine tn_iload_n (pc := 4) hΓ d_X6_readHouse_4 rfl ?_
  refine tn_icmp_ge (tgt := 20) (pc := 5) hΓ d_X6_readHouse_5 (by decide) (fun hq => ?_) (fun hq => ?_)
  · have h := h.1 hq
    refine tn_iconst (pc := 20) hΓ d_X6_readHouse_20 ic_0 ?_
    exact h
  · have h := h.2 hq
    refine tn_aload_n (pc := 8) hΓ d_X6_readHouse_8 rfl ?_
    refine tn_getRy (y := 42) (pc := 9) hΓ d_X6_readHouse_9 fl_6_16 rfl (gd_k hG (c := 39) rfl) (gd_r hG 39 4 42 rfl rfl) ?_
    refine tn_aload_n (pc := 12) hΓ d_X6_readHouse_12 rfl ?_
    refine tn_getI (pc := 13) hΓ d_X6_readHouse_13 fl_6_68 rfl (gd_k hG (c := 39) rfl) ?_
    obtain ⟨hi1, h⟩ := h
    refine tn_ald (pc := 16) hΓ d_X6_readHouse_16 (gd_k hG (c := 42) rfl) hi1 ?_
    refine tn_goto (tgt := 21) (pc := 17) hΓ d_X6_readHouse_17 (by decide) ?_
    exact h
theorem k_X6_readHouse_21 {Γ : tn_G} {ks : List (Nat × Nat)} {ρ : Nat → Nat → Nat} {σ : Nat → Nat → Int32} {K : Option Value → List (Nat × Nat) → (Nat → Nat → Nat) → (Nat → Nat → Int32) → Prop} (hG : tn_Gd ks ρ) (hΓ : tn_is Γ m_X6_readHouse) (hK : tn_rt Γ m_X6_readHouse K) (y1 : Int32) (w0 : Int32) (h : (∀ x1 : Int32, x1 = ((3 : Int32) * (σ 39 19)) → ((¬ w0 = (112 : Int32) → ((¬ w0 = (98 : Int32) → ((¬ w0 = (100 : Int32) → tn_A Γ 66 [.ref 39, .int y1, .null, .int x1] [.int (-9 : Int32), .int x1, .ref 48] 0 0 ks ρ σ) ∧ (w0 = (100 : Int32) → tn_A Γ 66 [.ref 39, .int y1, .null, .int x1] [.int (2 : Int32), .int x1, .ref 48] 0 0 ks ρ σ))) ∧ (w0 = (98 : Int32) → tn_A Γ 66 [.ref 39, .int y1, .null, .int x1] [.int (1 : Int32), .int x1, .ref 48] 0 0 ks ρ σ))) ∧ (w0 = (112 : Int32) → tn_A Γ 66 [.ref 39, .int y1, .null, .int x1] [.int (0 : Int32), .int x1, .ref 48] 0 0 ks ρ σ)))) : tn_A Γ 21 [.ref 39, .int y1, .null, .null] [.int w0] 0 0 ks ρ σ := by
  refine tn_istore_n (loc' := [.ref 39, .int y1, .int w0, .null]) (pc := 21) hΓ d_X6_readHouse_21 (by decide) rfl rfl ?_
  refine tn_iconst (pc := 22) hΓ d_X6_readHouse_22 ic_3 ?_
  refine tn_aload_n (pc := 23) hΓ d_X6_readHouse_23 rfl ?_
  refine tn_getI (pc := 24) hΓ d_X6_readHouse_24 fl_6_92 rfl (gd_k hG (c := 39) rfl) ?_
  refine tn_imul (pc := 27) hΓ d_X6_readHouse_27 ?_
  refine tn_topi (fun x1 ex1 => ?_)
  have h := h x1 ex1
  refine tn_istore_n (loc' := [.ref 39, .int y1, .int w0, .int x1]) (pc := 28) hΓ d_X6_readHouse_28 (by decide) rfl rfl ?_
  refine tn_aload_n (pc := 29) hΓ d_X6_readHouse_29 rfl ?_
  refine tn_getRy (y := 48) (pc := 30) hΓ d_X6_readHouse_30 fl_6_34 rfl (gd_k hG (c := 39) rfl) (gd_r hG 39 22 48 rfl rfl) ?_
  refine tn_iload_n (pc := 33) hΓ d_X6_readHouse_33 rfl ?_
  refine tn_iload_n (pc := 34) hΓ d_X6_readHouse_34 rfl ?_
  refine tn_bipush (pc := 35) hΓ d_X6_readHouse_35 bp_112 ?_
  refine tn_icmp_ne (tgt := 44) (pc := 37) hΓ d_X6_readHouse_37 (by decide) (fun hq => ?_) (fun hq => ?_)
  · have h := h.1 hq
    refine tn_iload_n (pc := 44) hΓ d_X6_readHouse_44 rfl ?_
    refine tn_bipush (pc := 45) hΓ d_X6_readHouse_45 bp_98 ?_
    refine tn_icmp_ne (tgt := 54) (pc := 47) hΓ d_X6_readHouse_47 (by decide) (fun hq => ?_) (fun hq => ?_)
    · have h := h.1 hq
      refine tn_iload_n (pc := 54) hΓ d_X6_readHouse_54 rfl ?_
      refine tn_bipush (pc := 55) hΓ d_X6_readHouse_55 bp_100 ?_
      refine tn_icmp_ne (tgt := 64) (pc := 57) hΓ d_X6_readHouse_57 (by decide) (fun hq => ?_) (fun hq => ?_)
      · have h := h.1 hq
        refine tn_bipush (pc := 64) hΓ d_X6_readHouse_64 bp_m9 ?_
        refine tn_drop [true, true, false, true] (loc' := [.ref 39, .int y1, .null, .int x1]) rfl ?_
        exact h
      · have h := h.2 hq
        refine tn_iconst (pc := 60) hΓ d_X6_readHouse_60 ic_2 ?_
        refine tn_goto (tgt := 66) (pc := 61) hΓ d_X6_readHouse_61 (by decide) ?_
        refine tn_drop [true, true, false, true] (loc' := [.ref 39, .int y1, .null, .int x1]) rfl ?_
        exact h
    · have h := h.2 hq
      refine tn_iconst (pc := 50) hΓ d_X6_readHouse_50 ic_1 ?_
      refine tn_goto (tgt := 66) (pc := 51) hΓ d_X6_readHouse_51 (by decide) ?_
      refine tn_drop [true, true, false, true] (loc' := [.ref 39, .int y1, .null, .int x1]) rfl ?_
      exact h
  · have h := h.2 hq
    refine tn_iconst (pc := 40) hΓ d_X6_readHouse_40 ic_0 ?_
    refine tn_goto (tgt := 66) (pc := 41) hΓ d_X6_readHouse_41 (by decide) ?_
    refine tn_drop [true, true, false, true] (loc' := [.ref 39, .int y1, .null, .int x1]) rfl ?_
    exact h
theorem k_X6_readHouse_66 {Γ : tn_G} {ks : List (Nat × Nat)} {ρ : Nat → Nat → Nat} {σ : Nat → Nat → Int32} {K : Option Value → List (Nat × Nat) → (Nat → Nat → Nat) → (Nat → Nat → Int32) → Prop} (hG : tn_Gd ks ρ) (hΓ : tn_is Γ m_X6_readHouse) (hK : tn_rt Γ m_X6_readHouse K) (y1 : Int32) (y3 : Int32) (w0 : Int32) (w1 : Int32) (h : (vp_in w1 15 ∧ (∀ σ1, σ1 = tn_u σ 48 w1.toNatClampNeg w0 → (vp_in y3 15 ∧ ((¬ (σ1 48 y3.toNatClampNeg) = (-9 : Int32) → (∀ σ2, σ2 = tn_u σ1 39 18 ((σ1 39 18) + (1 : Int32)) → tn_CI m_X6_digit [.ref 39, .int y1, .int (0 : Int32), .int (9 : Int32)] ks ρ σ2 (fun r1 σ3 => (vp_in (y3 + (1 : Int32)) 15 ∧ (∀ σ4, σ4 = tn_u σ3 48 (y3 + (1 : Int32)).toNatClampNeg r1 → ((¬ (σ4 48 (y3 + (1 : Int32)).toNatClampNeg) = (-9 : Int32) → tn_CI m_X6_digit [.ref 39, .int y1, .int (0 : Int32), .int (9 : Int32)] ks ρ σ4 (fun r2 σ5 => (vp_in (y3 + (2 : Int32)) 15 ∧ (∀ σ6, σ6 = tn_u σ5 48 (y3 + (2 : Int32)).toNatClampNeg r2 → (∀ σ7, σ7 = tn_u σ6 39 19 ((σ6 39 19) + (1 : Int32)) → (((σ7 48 (y3 + (2 : Int32)).toNatClampNeg) = (-9 : Int32) → K (some (.int (0 : Int32))) ks ρ σ7) ∧ (¬ (σ7 48 (y3 + (2 : Int32)).toNatClampNeg) = (-9 : Int32) → K (some (.int (1 : Int32))) ks ρ σ7))))))) ∧ ((σ4 48 (y3 + (1 : Int32)).toNatClampNeg) = (-9 : Int32) → K (some (.int (0 : Int32))) ks ρ σ4))))))) ∧ ((σ1 48 y3.toNatClampNeg) = (-9 : Int32) → K (some (.int (0 : Int32))) ks ρ σ1)))))) : tn_A Γ 66 [.ref 39, .int y1, .null, .int y3] [.int w0, .int w1, .ref 48] 0 0 ks ρ σ := by
  obtain ⟨hi1, h⟩ := h
  refine tn_ast (pc := 66) hΓ d_X6_readHouse_66 (gd_k hG (c := 48) rfl) hi1 ?_
  refine tn_tops (fun σ1 eσ1 => ?_)
  have h := h σ1 eσ1
  refine tn_aload_n (pc := 67) hΓ d_X6_readHouse_67 rfl ?_
  refine tn_getRy (y := 48) (pc := 68) hΓ d_X6_readHouse_68 fl_6_34 rfl (gd_k hG (c := 39) rfl) (gd_r hG 39 22 48 rfl rfl) ?_
  refine tn_iload_n (pc := 71) hΓ d_X6_readHouse_71 rfl ?_
  obtain ⟨hi2, h⟩ := h
  refine tn_ald (pc := 72) hΓ d_X6_readHouse_72 (gd_k hG (c := 48) rfl) hi2 ?_
  refine tn_bipush (pc := 73) hΓ d_X6_readHouse_73 bp_m9 ?_
  refine tn_icmp_ne (tgt := 80) (pc := 75) hΓ d_X6_readHouse_75 (by decide) (fun hq => ?_) (fun hq => ?_)
  · have h := h.1 hq
    refine tn_aload_n (pc := 80) hΓ d_X6_readHouse_80 rfl ?_
    refine tn_dupr (pc := 81) hΓ d_X6_readHouse_81 ?_
    refine tn_getI (pc := 82) hΓ d_X6_readHouse_82 fl_6_68 rfl (gd_k hG (c := 39) rfl) ?_
    refine tn_iconst (pc := 85) hΓ d_X6_readHouse_85 ic_1 ?_
    refine tn_iadd (pc := 86) hΓ d_X6_readHouse_86 ?_
    refine tn_putI (pc := 87) hΓ d_X6_readHouse_87 fl_6_68 fk_6_6_18 rfl (gd_k hG (c := 39) rfl)  ?_
    refine tn_tops (fun σ2 eσ2 => ?_)
    have h := h σ2 eσ2
    refine tn_aload_n (pc := 90) hΓ d_X6_readHouse_90 rfl ?_
    refine tn_getRy (y := 48) (pc := 91) hΓ d_X6_readHouse_91 fl_6_34 rfl (gd_k hG (c := 39) rfl) (gd_r hG 39 22 48 rfl rfl) ?_
    refine tn_iload_n (pc := 94) hΓ d_X6_readHouse_94 rfl ?_
    refine tn_iconst (pc := 95) hΓ d_X6_readHouse_95 ic_1 ?_
    refine tn_iadd (pc := 96) hΓ d_X6_readHouse_96 ?_
    refine tn_aload_n (pc := 97) hΓ d_X6_readHouse_97 rfl ?_
    refine tn_iload_n (pc := 98) hΓ d_X6_readHouse_98 rfl ?_
    refine tn_iconst (pc := 99) hΓ d_X6_readHouse_99 ic_0 ?_
    refine tn_bipush (pc := 100) hΓ d_X6_readHouse_100 bp_9 ?_
    refine tn_cvI (As := [.int y1, .int (0 : Int32), .int (9 : Int32)]) (st := [.int (y3 + (1 : Int32)), .ref 48]) (pc := 102) hΓ d_X6_readHouse_102 mv_X6_digit im_X6_digit se_X6_digit ml_6_126 ⟨⟨by decide, by decide⟩, by decide, by decide⟩ rfl rfl rfl (by decide) ⟨_, rfl⟩ (gd_k hG (c := 39) rfl) (Nat.le_of_ble_eq_true rfl) rfl h (fun r1 σ3 h => ?_)
    obtain ⟨hi3, h⟩ := h
    refine tn_ast (pc := 105) hΓ d_X6_readHouse_105 (gd_k hG (c := 48) rfl) hi3 ?_
    refine tn_tops (fun σ4 eσ4 => ?_)
    have h := h σ4 eσ4
    refine tn_aload_n (pc := 106) hΓ d_X6_readHouse_106 rfl ?_
    refine tn_getRy (y := 48) (pc := 107) hΓ d_X6_readHouse_107 fl_6_34 rfl (gd_k hG (c := 39) rfl) (gd_r hG 39 22 48 rfl rfl) ?_
    refine tn_iload_n (pc := 110) hΓ d_X6_readHouse_110 rfl ?_
    refine tn_iconst (pc := 111) hΓ d_X6_readHouse_111 ic_1 ?_
    refine tn_iadd (pc := 112) hΓ d_X6_readHouse_112 ?_
    refine tn_ald (pc := 113) hΓ d_X6_readHouse_113 (gd_k hG (c := 48) rfl) hi3 ?_
    refine tn_bipush (pc := 114) hΓ d_X6_readHouse_114 bp_m9 ?_
    refine tn_icmp_ne (tgt := 121) (pc := 116) hΓ d_X6_readHouse_116 (by decide) (fun hq => ?_) (fun hq => ?_)
    · have h := h.1 hq
      refine tn_aload_n (pc := 121) hΓ d_X6_readHouse_121 rfl ?_
      refine tn_getRy (y := 48) (pc := 122) hΓ d_X6_readHouse_122 fl_6_34 rfl (gd_k hG (c := 39) rfl) (gd_r hG 39 22 48 rfl rfl) ?_
      refine tn_iload_n (pc := 125) hΓ d_X6_readHouse_125 rfl ?_
      refine tn_iconst (pc := 126) hΓ d_X6_readHouse_126 ic_2 ?_
      refine tn_iadd (pc := 127) hΓ d_X6_readHouse_127 ?_
      refine tn_aload_n (pc := 128) hΓ d_X6_readHouse_128 rfl ?_
      refine tn_iload_n (pc := 129) hΓ d_X6_readHouse_129 rfl ?_
      refine tn_iconst (pc := 130) hΓ d_X6_readHouse_130 ic_0 ?_
      refine tn_bipush (pc := 131) hΓ d_X6_readHouse_131 bp_9 ?_
      refine tn_cvI (As := [.int y1, .int (0 : Int32), .int (9 : Int32)]) (st := [.int (y3 + (2 : Int32)), .ref 48]) (pc := 133) hΓ d_X6_readHouse_133 mv_X6_digit im_X6_digit se_X6_digit ml_6_126 ⟨⟨by decide, by decide⟩, by decide, by decide⟩ rfl rfl rfl (by decide) ⟨_, rfl⟩ (gd_k hG (c := 39) rfl) (Nat.le_of_ble_eq_true rfl) rfl h (fun r2 σ5 h => ?_)
      obtain ⟨hi4, h⟩ := h
      refine tn_ast (pc := 136) hΓ d_X6_readHouse_136 (gd_k hG (c := 48) rfl) hi4 ?_
      refine tn_tops (fun σ6 eσ6 => ?_)
      have h := h σ6 eσ6
      refine tn_aload_n (pc := 137) hΓ d_X6_readHouse_137 rfl ?_
      refine tn_dupr (pc := 138) hΓ d_X6_readHouse_138 ?_
      refine tn_getI (pc := 139) hΓ d_X6_readHouse_139 fl_6_92 rfl (gd_k hG (c := 39) rfl) ?_
      refine tn_iconst (pc := 142) hΓ d_X6_readHouse_142 ic_1 ?_
      refine tn_iadd (pc := 143) hΓ d_X6_readHouse_143 ?_
      refine tn_putI (pc := 144) hΓ d_X6_readHouse_144 fl_6_92 fk_6_6_19 rfl (gd_k hG (c := 39) rfl)  ?_
      refine tn_tops (fun σ7 eσ7 => ?_)
      have h := h σ7 eσ7
      refine tn_aload_n (pc := 147) hΓ d_X6_readHouse_147 rfl ?_
      refine tn_getRy (y := 48) (pc := 148) hΓ d_X6_readHouse_148 fl_6_34 rfl (gd_k hG (c := 39) rfl) (gd_r hG 39 22 48 rfl rfl) ?_
      refine tn_iload_n (pc := 151) hΓ d_X6_readHouse_151 rfl ?_
      refine tn_iconst (pc := 152) hΓ d_X6_readHouse_152 ic_2 ?_
      refine tn_iadd (pc := 153) hΓ d_X6_readHouse_153 ?_
      refine tn_ald (pc := 154) hΓ d_X6_readHouse_154 (gd_k hG (c := 48) rfl) hi4 ?_
      refine tn_bipush (pc := 155) hΓ d_X6_readHouse_155 bp_m9 ?_
      refine tn_icmp_eq (tgt := 164) (pc := 157) hΓ d_X6_readHouse_157 (by decide) (fun hq => ?_) (fun hq => ?_)
      · have h := h.1 hq
        refine tn_iconst (pc := 164) hΓ d_X6_readHouse_164 ic_0 ?_
        exact tn_ret_z (pc := 165) hΓ hK d_X6_readHouse_165 rfl (by decide) (by decide) (Or.inl rfl) h
      · have h := h.2 hq
        refine tn_iconst (pc := 160) hΓ d_X6_readHouse_160 ic_1 ?_
        refine tn_goto (tgt := 165) (pc := 161) hΓ d_X6_readHouse_161 (by decide) ?_
        exact tn_ret_z (pc := 165) hΓ hK d_X6_readHouse_165 rfl (by decide) (by decide) (Or.inr rfl) h
    · have h := h.2 hq
      refine tn_iconst (pc := 119) hΓ d_X6_readHouse_119 ic_0 ?_
      exact tn_ret_z (pc := 120) hΓ hK d_X6_readHouse_120 rfl (by decide) (by decide) (Or.inl rfl) h
  · have h := h.2 hq
    refine tn_iconst (pc := 78) hΓ d_X6_readHouse_78 ic_0 ?_
    exact tn_ret_z (pc := 79) hΓ hK d_X6_readHouse_79 rfl (by decide) (by decide) (Or.inl rfl) h
theorem k_X6_weightOf_0 {Γ : tn_G} {ks : List (Nat × Nat)} {ρ : Nat → Nat → Nat} {σ : Nat → Nat → Int32} {K : Option Value → List (Nat × Nat) → (Nat → Nat → Nat) → (Nat → Nat → Int32) → Prop} (hG : tn_Gd ks ρ) (hΓ : tn_is Γ m_X6_weightOf) (hK : tn_rt Γ m_X6_weightOf K) (a0 : Int32) (h : (vp_in a0 5 ∧ ((¬ (σ 43 a0.toNatClampNeg) = 0 → ((¬ (σ 43 a0.toNatClampNeg) = (1 : Int32) → K (some (.int ((2 : Int32) * (σ 44 a0.toNatClampNeg)))) ks ρ σ) ∧ ((σ 43 a0.toNatClampNeg) = (1 : Int32) → K (some (.int ((σ 44 a0.toNatClampNeg) + (1 : Int32)))) ks ρ σ))) ∧ ((σ 43 a0.toNatClampNeg) = 0 → K (some (.int (σ 44 a0.toNatClampNeg))) ks ρ σ)))) : tn_A Γ 0 [.ref 39, .int a0] [] 0 0 ks ρ σ := by
  refine tn_aload_n (pc := 0) hΓ d_X6_weightOf_0 rfl ?_
  refine tn_getRy (y := 43) (pc := 1) hΓ d_X6_weightOf_1 fl_6_19 rfl (gd_k hG (c := 39) rfl) (gd_r hG 39 13 43 rfl rfl) ?_
  refine tn_iload_n (pc := 4) hΓ d_X6_weightOf_4 rfl ?_
  obtain ⟨hi1, h⟩ := h
  refine tn_ald (pc := 5) hΓ d_X6_weightOf_5 (gd_k hG (c := 43) rfl) hi1 ?_
  refine tn_if_ne (tgt := 18) (pc := 6) hΓ d_X6_weightOf_6 (by decide) (fun hq => ?_) (fun hq => ?_)
  · have h := h.1 hq
    refine tn_aload_n (pc := 18) hΓ d_X6_weightOf_18 rfl ?_
    refine tn_getRy (y := 43) (pc := 19) hΓ d_X6_weightOf_19 fl_6_19 rfl (gd_k hG (c := 39) rfl) (gd_r hG 39 13 43 rfl rfl) ?_
    refine tn_iload_n (pc := 22) hΓ d_X6_weightOf_22 rfl ?_
    refine tn_ald (pc := 23) hΓ d_X6_weightOf_23 (gd_k hG (c := 43) rfl) hi1 ?_
    refine tn_iconst (pc := 24) hΓ d_X6_weightOf_24 ic_1 ?_
    refine tn_icmp_ne (tgt := 39) (pc := 25) hΓ d_X6_weightOf_25 (by decide) (fun hq => ?_) (fun hq => ?_)
    · have h := h.1 hq
      refine tn_iconst (pc := 39) hΓ d_X6_weightOf_39 ic_2 ?_
      refine tn_aload_n (pc := 40) hΓ d_X6_weightOf_40 rfl ?_
      refine tn_getRy (y := 44) (pc := 41) hΓ d_X6_weightOf_41 fl_6_22 rfl (gd_k hG (c := 39) rfl) (gd_r hG 39 14 44 rfl rfl) ?_
      refine tn_iload_n (pc := 44) hΓ d_X6_weightOf_44 rfl ?_
      refine tn_ald (pc := 45) hΓ d_X6_weightOf_45 (gd_k hG (c := 44) rfl) hi1 ?_
      refine tn_imul (pc := 46) hΓ d_X6_weightOf_46 ?_
      exact tn_ret_i (pc := 47) hΓ hK d_X6_weightOf_47 rfl (by decide) (by decide) h
    · have h := h.2 hq
      refine tn_aload_n (pc := 28) hΓ d_X6_weightOf_28 rfl ?_
      refine tn_getRy (y := 44) (pc := 29) hΓ d_X6_weightOf_29 fl_6_22 rfl (gd_k hG (c := 39) rfl) (gd_r hG 39 14 44 rfl rfl) ?_
      refine tn_iload_n (pc := 32) hΓ d_X6_weightOf_32 rfl ?_
      refine tn_ald (pc := 33) hΓ d_X6_weightOf_33 (gd_k hG (c := 44) rfl) hi1 ?_
      refine tn_iconst (pc := 34) hΓ d_X6_weightOf_34 ic_1 ?_
      refine tn_iadd (pc := 35) hΓ d_X6_weightOf_35 ?_
      refine tn_goto (tgt := 47) (pc := 36) hΓ d_X6_weightOf_36 (by decide) ?_
      exact tn_ret_i (pc := 47) hΓ hK d_X6_weightOf_47 rfl (by decide) (by decide) h
  · have h := h.2 hq
    refine tn_aload_n (pc := 9) hΓ d_X6_weightOf_9 rfl ?_
    refine tn_getRy (y := 44) (pc := 10) hΓ d_X6_weightOf_10 fl_6_22 rfl (gd_k hG (c := 39) rfl) (gd_r hG 39 14 44 rfl rfl) ?_
    refine tn_iload_n (pc := 13) hΓ d_X6_weightOf_13 rfl ?_
    refine tn_ald (pc := 14) hΓ d_X6_weightOf_14 (gd_k hG (c := 44) rfl) hi1 ?_
    refine tn_goto (tgt := 47) (pc := 15) hΓ d_X6_weightOf_15 (by decide) ?_
    exact tn_ret_i (pc := 47) hΓ hK d_X6_weightOf_47 rfl (by decide) (by decide) h
theorem k_X6_rankles_0 {Γ : tn_G} {ks : List (Nat × Nat)} {ρ : Nat → Nat → Nat} {σ : Nat → Nat → Int32} {K : Option Value → List (Nat × Nat) → (Nat → Nat → Nat) → (Nat → Nat → Int32) → Prop} (hG : tn_Gd ks ρ) (hΓ : tn_is Γ m_X6_rankles) (hK : tn_rt Γ m_X6_rankles K) (a0 : Int32) (h : tn_CI m_X6_isOf [.int (σ 39 11), .int a0] ks ρ σ (fun r1 σ1 => ((¬ r1 = 0 → K (some (.int (0 : Int32))) ks ρ σ1) ∧ (r1 = 0 → tn_CI m_X6_weightOf [.ref 39, .int a0] ks ρ σ1 (fun r2 σ2 => ((r2 ≤ 0 → K (some (.int (0 : Int32))) ks ρ σ2) ∧ (¬ r2 ≤ 0 → K (some (.int (1 : Int32))) ks ρ σ2))))))) : tn_A Γ 0 [.ref 39, .int a0] [] 0 0 ks ρ σ := by
  refine tn_aload_n (pc := 0) hΓ d_X6_rankles_0 rfl ?_
  refine tn_getI (pc := 1) hΓ d_X6_rankles_1 fl_6_104 rfl (gd_k hG (c := 39) rfl) ?_
  refine tn_iload_n (pc := 4) hΓ d_X6_rankles_4 rfl ?_
  refine tn_csI (As := [.int (σ 39 11), .int a0]) (st := []) (pc := 5) hΓ d_X6_rankles_5 mv_X6_isOf st_X6_isOf ml_6_136 ⟨⟨by decide, by decide⟩, by decide, by decide⟩ rfl rfl rfl (Nat.le_of_ble_eq_true rfl) rfl h (fun r1 σ1 h => ?_)
  refine tn_if_ne (tgt := 23) (pc := 8) hΓ d_X6_rankles_8 (by decide) (fun hq => ?_) (fun hq => ?_)
  · have h := h.1 hq
    refine tn_iconst (pc := 23) hΓ d_X6_rankles_23 ic_0 ?_
    exact tn_ret_z (pc := 24) hΓ hK d_X6_rankles_24 rfl (by decide) (by decide) (Or.inl rfl) h
  · have h := h.2 hq
    refine tn_aload_n (pc := 11) hΓ d_X6_rankles_11 rfl ?_
    refine tn_iload_n (pc := 12) hΓ d_X6_rankles_12 rfl ?_
    refine tn_cvI (As := [.int a0]) (st := []) (pc := 13) hΓ d_X6_rankles_13 mv_X6_weightOf im_X6_weightOf se_X6_weightOf ml_6_139 ⟨⟨by decide, by decide⟩, by decide, by decide⟩ rfl rfl rfl (by decide) ⟨_, rfl⟩ (gd_k hG (c := 39) rfl) (Nat.le_of_ble_eq_true rfl) rfl h (fun r2 σ2 h => ?_)
    refine tn_if_le (tgt := 23) (pc := 16) hΓ d_X6_rankles_16 (by decide) (fun hq => ?_) (fun hq => ?_)
    · have h := h.1 hq
      refine tn_iconst (pc := 23) hΓ d_X6_rankles_23 ic_0 ?_
      exact tn_ret_z (pc := 24) hΓ hK d_X6_rankles_24 rfl (by decide) (by decide) (Or.inl rfl) h
    · have h := h.2 hq
      refine tn_iconst (pc := 19) hΓ d_X6_rankles_19 ic_1 ?_
      refine tn_goto (tgt := 24) (pc := 20) hΓ d_X6_rankles_20 (by decide) ?_
      exact tn_ret_z (pc := 24) hΓ hK d_X6_rankles_24 rfl (by decide) (by decide) (Or.inr rfl) h
theorem k_X6_whoRankle_0 {Γ : tn_G} {ks : List (Nat × Nat)} {ρ : Nat → Nat → Nat} {σ : Nat → Nat → Int32} {K : Option Value → List (Nat × Nat) → (Nat → Nat → Nat) → (Nat → Nat → Int32) → Prop} (hG : tn_Gd ks ρ) (hΓ : tn_is Γ m_X6_whoRankle) (hK : tn_rt Γ m_X6_whoRankle K)  (h : tn_A Γ 4 [.ref 39, .int (0 : Int32), .int (0 : Int32)] [] 0 0 ks ρ σ) : tn_A Γ 0 [.ref 39, .null, .null] [] 0 0 ks ρ σ := by
  refine tn_iconst (pc := 0) hΓ d_X6_whoRankle_0 ic_0 ?_
  refine tn_istore_n (loc' := [.ref 39, .int (0 : Int32), .null]) (pc := 1) hΓ d_X6_whoRankle_1 (by decide) rfl rfl ?_
  refine tn_iconst (pc := 2) hΓ d_X6_whoRankle_2 ic_0 ?_
  refine tn_istore_n (loc' := [.ref 39, .int (0 : Int32), .int (0 : Int32)]) (pc := 3) hΓ d_X6_whoRankle_3 (by decide) rfl rfl ?_
  exact h
theorem k_X6_whoRankle_4 {Γ : tn_G} {ks : List (Nat × Nat)} {ρ : Nat → Nat → Nat} {σ : Nat → Nat → Int32} {K : Option Value → List (Nat × Nat) → (Nat → Nat → Nat) → (Nat → Nat → Int32) → Prop} (hG : tn_Gd ks ρ) (hΓ : tn_is Γ m_X6_whoRankle) (hK : tn_rt Γ m_X6_whoRankle K) (y1 : Int32) (y2 : Int32) (h : (((σ 39 5) ≤ y2 → K (some (.int y1)) ks ρ σ) ∧ (¬ (σ 39 5) ≤ y2 → tn_CI m_X6_rankles [.ref 39, .int y2] ks ρ σ (fun r1 σ1 => ((r1 = 0 → (∀ x1 : Int32, x1 = (y1 ||| (0 : Int32)) → (∀ x2 : Int32, x2 = y2 + (1 : Int32) → tn_A Γ 4 [.ref 39, .int x1, .int x2] [] 0 0 ks ρ σ1))) ∧ (¬ r1 = 0 → (∀ x3 : Int32, x3 = (y1 ||| ((1 : Int32) <<< (y2 &&& 31))) → (∀ x4 : Int32, x4 = y2 + (1 : Int32) → tn_A Γ 4 [.ref 39, .int x3, .int x4] [] 0 0 ks ρ σ1)))))))) : tn_A Γ 4 [.ref 39, .int y1, .int y2] [] 0 0 ks ρ σ := by
  refine tn_iload_n (pc := 4) hΓ d_X6_whoRankle_4 rfl ?_
  refine tn_aload_n (pc := 5) hΓ d_X6_whoRankle_5 rfl ?_
  refine tn_getI (pc := 6) hΓ d_X6_whoRankle_6 fl_6_62 rfl (gd_k hG (c := 39) rfl) ?_
  refine tn_icmp_ge (tgt := 36) (pc := 9) hΓ d_X6_whoRankle_9 (by decide) (fun hq => ?_) (fun hq => ?_)
  · have h := h.1 hq
    refine tn_iload_n (pc := 36) hΓ d_X6_whoRankle_36 rfl ?_
    exact tn_ret_i (pc := 37) hΓ hK d_X6_whoRankle_37 rfl (by decide) (by decide) h
  · have h := h.2 hq
    refine tn_iload_n (pc := 12) hΓ d_X6_whoRankle_12 rfl ?_
    refine tn_aload_n (pc := 13) hΓ d_X6_whoRankle_13 rfl ?_
    refine tn_iload_n (pc := 14) hΓ d_X6_whoRankle_14 rfl ?_
    refine tn_cvI (As := [.int y2]) (st := [.int y1]) (pc := 15) hΓ d_X6_whoRankle_15 mv_X6_rankles im_X6_rankles se_X6_rankles ml_6_142 ⟨⟨by decide, by decide⟩, by decide, by decide⟩ rfl rfl rfl (by decide) ⟨_, rfl⟩ (gd_k hG (c := 39) rfl) (Nat.le_of_ble_eq_true rfl) rfl h (fun r1 σ1 h => ?_)
    refine tn_if_eq (tgt := 27) (pc := 18) hΓ d_X6_whoRankle_18 (by decide) (fun hq => ?_) (fun hq => ?_)
    · have h := h.1 hq
      refine tn_iconst (pc := 27) hΓ d_X6_whoRankle_27 ic_0 ?_
      refine tn_ior (pc := 28) hΓ d_X6_whoRankle_28 ?_
      refine tn_topi (fun x1 ex1 => ?_)
      have h := h x1 ex1
      refine tn_istore_n (loc' := [.ref 39, .int x1, .int y2]) (pc := 29) hΓ d_X6_whoRankle_29 (by decide) rfl rfl ?_
      refine tn_iincw (loc' := fun v_ => [.ref 39, .int x1, .int v_]) (pc := 30) hΓ d_X6_whoRankle_30 rfl ic_1 (by decide) rfl (fun _ => rfl) (fun x2 ex2 => ?_)
      have h := h x2 ex2
      refine tn_goto (tgt := 4) (pc := 33) hΓ d_X6_whoRankle_33 (by decide) ?_
      exact h
    · have h := h.2 hq
      refine tn_iconst (pc := 21) hΓ d_X6_whoRankle_21 ic_1 ?_
      refine tn_iload_n (pc := 22) hΓ d_X6_whoRankle_22 rfl ?_
      refine tn_ishl (pc := 23) hΓ d_X6_whoRankle_23 ?_
      refine tn_goto (tgt := 28) (pc := 24) hΓ d_X6_whoRankle_24 (by decide) ?_
      refine tn_ior (pc := 28) hΓ d_X6_whoRankle_28 ?_
      refine tn_topi (fun x3 ex3 => ?_)
      have h := h x3 ex3
      refine tn_istore_n (loc' := [.ref 39, .int x3, .int y2]) (pc := 29) hΓ d_X6_whoRankle_29 (by decide) rfl rfl ?_
      refine tn_iincw (loc' := fun v_ => [.ref 39, .int x3, .int v_]) (pc := 30) hΓ d_X6_whoRankle_30 rfl ic_1 (by decide) rfl (fun _ => rfl) (fun x4 ex4 => ?_)
      have h := h x4 ex4
      refine tn_goto (tgt := 4) (pc := 33) hΓ d_X6_whoRankle_33 (by decide) ?_
      exact h
theorem k_X6_voiceNow_0 {Γ : tn_G} {ks : List (Nat × Nat)} {ρ : Nat → Nat → Nat} {σ : Nat → Nat → Int32} {K : Option Value → List (Nat × Nat) → (Nat → Nat → Nat) → (Nat → Nat → Int32) → Prop} (hG : tn_Gd ks ρ) (hΓ : tn_is Γ m_X6_voiceNow) (hK : tn_rt Γ m_X6_voiceNow K)  (h : tn_A Γ 4 [.ref 39, .int (0 : Int32), .int (0 : Int32)] [] 0 0 ks ρ σ) : tn_A Γ 0 [.ref 39, .null, .null] [] 0 0 ks ρ σ := by
  refine tn_iconst (pc := 0) hΓ d_X6_voiceNow_0 ic_0 ?_
  refine tn_istore_n (loc' := [.ref 39, .int (0 : Int32), .null]) (pc := 1) hΓ d_X6_voiceNow_1 (by decide) rfl rfl ?_
  refine tn_iconst (pc := 2) hΓ d_X6_voiceNow_2 ic_0 ?_
  refine tn_istore_n (loc' := [.ref 39, .int (0 : Int32), .int (0 : Int32)]) (pc := 3) hΓ d_X6_voiceNow_3 (by decide) rfl rfl ?_
  exact h
theorem k_X6_voiceNow_4 {Γ : tn_G} {ks : List (Nat × Nat)} {ρ : Nat → Nat → Nat} {σ : Nat → Nat → Int32} {K : Option Value → List (Nat × Nat) → (Nat → Nat → Nat) → (Nat → Nat → Int32) → Prop} (hG : tn_Gd ks ρ) (hΓ : tn_is Γ m_X6_voiceNow) (hK : tn_rt Γ m_X6_voiceNow K) (y1 : Int32) (y2 : Int32) (h : (((σ 39 5) ≤ y2 → tn_A Γ 40 [.ref 39, .int y1, .int (0 : Int32)] [] 0 0 ks ρ σ) ∧ (¬ (σ 39 5) ≤ y2 → tn_CI m_X6_rankles [.ref 39, .int y2] ks ρ σ (fun r1 σ1 => ((r1 = 0 → (∀ x1 : Int32, x1 = (y1 + (0 : Int32)) → (∀ x2 : Int32, x2 = y2 + (1 : Int32) → tn_A Γ 4 [.ref 39, .int x1, .int x2] [] 0 0 ks ρ σ1))) ∧ (¬ r1 = 0 → tn_CI m_X6_weightOf [.ref 39, .int y2] ks ρ σ1 (fun r2 σ2 => (∀ x3 : Int32, x3 = (y1 + r2) → (∀ x4 : Int32, x4 = y2 + (1 : Int32) → tn_A Γ 4 [.ref 39, .int x3, .int x4] [] 0 0 ks ρ σ2))))))))) : tn_A Γ 4 [.ref 39, .int y1, .int y2] [] 0 0 ks ρ σ := by
  refine tn_iload_n (pc := 4) hΓ d_X6_voiceNow_4 rfl ?_
  refine tn_aload_n (pc := 5) hΓ d_X6_voiceNow_5 rfl ?_
  refine tn_getI (pc := 6) hΓ d_X6_voiceNow_6 fl_6_62 rfl (gd_k hG (c := 39) rfl) ?_
  refine tn_icmp_ge (tgt := 38) (pc := 9) hΓ d_X6_voiceNow_9 (by decide) (fun hq => ?_) (fun hq => ?_)
  · have h := h.1 hq
    refine tn_iconst (pc := 38) hΓ d_X6_voiceNow_38 ic_0 ?_
    refine tn_istore_n (loc' := [.ref 39, .int y1, .int (0 : Int32)]) (pc := 39) hΓ d_X6_voiceNow_39 (by decide) rfl rfl ?_
    exact h
  · have h := h.2 hq
    refine tn_iload_n (pc := 12) hΓ d_X6_voiceNow_12 rfl ?_
    refine tn_aload_n (pc := 13) hΓ d_X6_voiceNow_13 rfl ?_
    refine tn_iload_n (pc := 14) hΓ d_X6_voiceNow_14 rfl ?_
    refine tn_cvI (As := [.int y2]) (st := [.int y1]) (pc := 15) hΓ d_X6_voiceNow_15 mv_X6_rankles im_X6_rankles se_X6_rankles ml_6_142 ⟨⟨by decide, by decide⟩, by decide, by decide⟩ rfl rfl rfl (by decide) ⟨_, rfl⟩ (gd_k hG (c := 39) rfl) (Nat.le_of_ble_eq_true rfl) rfl h (fun r1 σ1 h => ?_)
    refine tn_if_eq (tgt := 29) (pc := 18) hΓ d_X6_voiceNow_18 (by decide) (fun hq => ?_) (fun hq => ?_)
    · have h := h.1 hq
      refine tn_iconst (pc := 29) hΓ d_X6_voiceNow_29 ic_0 ?_
      refine tn_iadd (pc := 30) hΓ d_X6_voiceNow_30 ?_
      refine tn_topi (fun x1 ex1 => ?_)
      have h := h x1 ex1
      refine tn_istore_n (loc' := [.ref 39, .int x1, .int y2]) (pc := 31) hΓ d_X6_voiceNow_31 (by decide) rfl rfl ?_
      refine tn_iincw (loc' := fun v_ => [.ref 39, .int x1, .int v_]) (pc := 32) hΓ d_X6_voiceNow_32 rfl ic_1 (by decide) rfl (fun _ => rfl) (fun x2 ex2 => ?_)
      have h := h x2 ex2
      refine tn_goto (tgt := 4) (pc := 35) hΓ d_X6_voiceNow_35 (by decide) ?_
      exact h
    · have h := h.2 hq
      refine tn_aload_n (pc := 21) hΓ d_X6_voiceNow_21 rfl ?_
      refine tn_iload_n (pc := 22) hΓ d_X6_voiceNow_22 rfl ?_
      refine tn_cvI (As := [.int y2]) (st := [.int y1]) (pc := 23) hΓ d_X6_voiceNow_23 mv_X6_weightOf im_X6_weightOf se_X6_weightOf ml_6_139 ⟨⟨by decide, by decide⟩, by decide, by decide⟩ rfl rfl rfl (by decide) ⟨_, rfl⟩ (gd_k hG (c := 39) rfl) (Nat.le_of_ble_eq_true rfl) rfl h (fun r2 σ2 h => ?_)
      refine tn_goto (tgt := 30) (pc := 26) hΓ d_X6_voiceNow_26 (by decide) ?_
      refine tn_iadd (pc := 30) hΓ d_X6_voiceNow_30 ?_
      refine tn_topi (fun x3 ex3 => ?_)
      have h := h x3 ex3
      refine tn_istore_n (loc' := [.ref 39, .int x3, .int y2]) (pc := 31) hΓ d_X6_voiceNow_31 (by decide) rfl rfl ?_
      refine tn_iincw (loc' := fun v_ => [.ref 39, .int x3, .int v_]) (pc := 32) hΓ d_X6_voiceNow_32 rfl ic_1 (by decide) rfl (fun _ => rfl) (fun x4 ex4 => ?_)
      have h := h x4 ex4
      refine tn_goto (tgt := 4) (pc := 35) hΓ d_X6_voiceNow_35 (by decide) ?_
      exact h
theorem k_X6_voiceNow_40 {Γ : tn_G} {ks : List (Nat × Nat)} {ρ : Nat → Nat → Nat} {σ : Nat → Nat → Int32} {K : Option Value → List (Nat × Nat) → (Nat → Nat → Nat) → (Nat → Nat → Int32) → Prop} (hG : tn_Gd ks ρ) (hΓ : tn_is Γ m_X6_voiceNow) (hK : tn_rt Γ m_X6_voiceNow K) (y1 : Int32) (y2 : Int32) (h : (((σ 39 6) ≤ y2 → K (some (.int y1)) ks ρ σ) ∧ (¬ (σ 39 6) ≤ y2 → tn_CI m_X6_isOf [.int (σ 39 12), .int y2] ks ρ σ (fun r1 σ1 => ((r1 = 0 → (vp_in y2 4 ∧ (∀ x1 : Int32, x1 = (y1 + (σ1 47 y2.toNatClampNeg)) → (∀ x2 : Int32, x2 = y2 + (1 : Int32) → tn_A Γ 40 [.ref 39, .int x1, .int x2] [] 0 0 ks ρ σ1)))) ∧ (¬ r1 = 0 → (∀ x3 : Int32, x3 = (y1 + (0 : Int32)) → (∀ x4 : Int32, x4 = y2 + (1 : Int32) → tn_A Γ 40 [.ref 39, .int x3, .int x4] [] 0 0 ks ρ σ1)))))))) : tn_A Γ 40 [.ref 39, .int y1, .int y2] [] 0 0 ks ρ σ := by
  refine tn_iload_n (pc := 40) hΓ d_X6_voiceNow_40 rfl ?_
  refine tn_aload_n (pc := 41) hΓ d_X6_voiceNow_41 rfl ?_
  refine tn_getI (pc := 42) hΓ d_X6_voiceNow_42 fl_6_65 rfl (gd_k hG (c := 39) rfl) ?_
  refine tn_icmp_ge (tgt := 78) (pc := 45) hΓ d_X6_voiceNow_45 (by decide) (fun hq => ?_) (fun hq => ?_)
  · have h := h.1 hq
    refine tn_iload_n (pc := 78) hΓ d_X6_voiceNow_78 rfl ?_
    exact tn_ret_i (pc := 79) hΓ hK d_X6_voiceNow_79 rfl (by decide) (by decide) h
  · have h := h.2 hq
    refine tn_iload_n (pc := 48) hΓ d_X6_voiceNow_48 rfl ?_
    refine tn_aload_n (pc := 49) hΓ d_X6_voiceNow_49 rfl ?_
    refine tn_getI (pc := 50) hΓ d_X6_voiceNow_50 fl_6_107 rfl (gd_k hG (c := 39) rfl) ?_
    refine tn_iload_n (pc := 53) hΓ d_X6_voiceNow_53 rfl ?_
    refine tn_csI (As := [.int (σ 39 12), .int y2]) (st := [.int y1]) (pc := 54) hΓ d_X6_voiceNow_54 mv_X6_isOf st_X6_isOf ml_6_136 ⟨⟨by decide, by decide⟩, by decide, by decide⟩ rfl rfl rfl (Nat.le_of_ble_eq_true rfl) rfl h (fun r1 σ1 h => ?_)
    refine tn_if_eq (tgt := 64) (pc := 57) hΓ d_X6_voiceNow_57 (by decide) (fun hq => ?_) (fun hq => ?_)
    · have h := h.1 hq
      refine tn_aload_n (pc := 64) hΓ d_X6_voiceNow_64 rfl ?_
      refine tn_getRy (y := 47) (pc := 65) hΓ d_X6_voiceNow_65 fl_6_31 rfl (gd_k hG (c := 39) rfl) (gd_r hG 39 17 47 rfl rfl) ?_
      refine tn_iload_n (pc := 68) hΓ d_X6_voiceNow_68 rfl ?_
      obtain ⟨hi1, h⟩ := h
      refine tn_ald (pc := 69) hΓ d_X6_voiceNow_69 (gd_k hG (c := 47) rfl) hi1 ?_
      refine tn_iadd (pc := 70) hΓ d_X6_voiceNow_70 ?_
      refine tn_topi (fun x1 ex1 => ?_)
      have h := h x1 ex1
      refine tn_istore_n (loc' := [.ref 39, .int x1, .int y2]) (pc := 71) hΓ d_X6_voiceNow_71 (by decide) rfl rfl ?_
      refine tn_iincw (loc' := fun v_ => [.ref 39, .int x1, .int v_]) (pc := 72) hΓ d_X6_voiceNow_72 rfl ic_1 (by decide) rfl (fun _ => rfl) (fun x2 ex2 => ?_)
      have h := h x2 ex2
      refine tn_goto (tgt := 40) (pc := 75) hΓ d_X6_voiceNow_75 (by decide) ?_
      exact h
    · have h := h.2 hq
      refine tn_iconst (pc := 60) hΓ d_X6_voiceNow_60 ic_0 ?_
      refine tn_goto (tgt := 70) (pc := 61) hΓ d_X6_voiceNow_61 (by decide) ?_
      refine tn_iadd (pc := 70) hΓ d_X6_voiceNow_70 ?_
      refine tn_topi (fun x3 ex3 => ?_)
      have h := h x3 ex3
      refine tn_istore_n (loc' := [.ref 39, .int x3, .int y2]) (pc := 71) hΓ d_X6_voiceNow_71 (by decide) rfl rfl ?_
      refine tn_iincw (loc' := fun v_ => [.ref 39, .int x3, .int v_]) (pc := 72) hΓ d_X6_voiceNow_72 rfl ic_1 (by decide) rfl (fun _ => rfl) (fun x4 ex4 => ?_)
      have h := h x4 ex4
      refine tn_goto (tgt := 40) (pc := 75) hΓ d_X6_voiceNow_75 (by decide) ?_
      exact h
theorem k_X6_ofHouse_0 {Γ : tn_G} {ks : List (Nat × Nat)} {ρ : Nat → Nat → Nat} {σ : Nat → Nat → Int32} {K : Option Value → List (Nat × Nat) → (Nat → Nat → Nat) → (Nat → Nat → Int32) → Prop} (hG : tn_Gd ks ρ) (hΓ : tn_is Γ m_X6_ofHouse) (hK : tn_rt Γ m_X6_ofHouse K) (a0 : Int32) (a1 : Int32) (h : tn_CI m_X6_isHouse [.ref 39, .int a0] ks ρ σ (fun r1 σ1 => ((¬ r1 = 0 → ((a1 = (0 : Int32) → (vp_in a0 5 ∧ K (some (.int (σ1 43 a0.toNatClampNeg))) ks ρ σ1)) ∧ (¬ a1 = (0 : Int32) → ((a1 = (1 : Int32) → (vp_in a0 5 ∧ K (some (.int (σ1 44 a0.toNatClampNeg))) ks ρ σ1)) ∧ (¬ a1 = (1 : Int32) → ((a1 = (2 : Int32) → (vp_in a0 5 ∧ K (some (.int (σ1 45 a0.toNatClampNeg))) ks ρ σ1)) ∧ (¬ a1 = (2 : Int32) → ((a1 = (3 : Int32) → tn_CI m_X6_weightOf [.ref 39, .int a0] ks ρ σ1 (fun r2 σ2 => K (some (.int r2)) ks ρ σ2)) ∧ (¬ a1 = (3 : Int32) → ((a1 = (4 : Int32) → K (some (.int (((σ1 39 11) >>> (a0 &&& 31)) &&& (1 : Int32)))) ks ρ σ1) ∧ (¬ a1 = (4 : Int32) → ((a1 = (5 : Int32) → tn_CI m_X6_rankles [.ref 39, .int a0] ks ρ σ1 (fun r3 σ3 => ((r3 = 0 → K (some (.int (0 : Int32))) ks ρ σ3) ∧ (¬ r3 = 0 → K (some (.int (1 : Int32))) ks ρ σ3)))) ∧ (¬ a1 = (5 : Int32) → ((a1 = (6 : Int32) → (vp_in a0 5 ∧ K (some (.int (σ1 46 a0.toNatClampNeg))) ks ρ σ1)) ∧ (¬ a1 = (6 : Int32) → K (some (.int (-2 : Int32))) ks ρ σ1))))))))))))))) ∧ (r1 = 0 → K (some (.int (-1 : Int32))) ks ρ σ1)))) : tn_A Γ 0 [.ref 39, .int a0, .int a1] [] 0 0 ks ρ σ := by
  refine tn_aload_n (pc := 0) hΓ d_X6_ofHouse_0 rfl ?_
  refine tn_iload_n (pc := 1) hΓ d_X6_ofHouse_1 rfl ?_
  refine tn_cvI (As := [.int a0]) (st := []) (pc := 2) hΓ d_X6_ofHouse_2 mv_X6_isHouse im_X6_isHouse se_X6_isHouse ml_6_145 ⟨⟨by decide, by decide⟩, by decide, by decide⟩ rfl rfl rfl (by decide) ⟨_, rfl⟩ (gd_k hG (c := 39) rfl) (Nat.le_of_ble_eq_true rfl) rfl h (fun r1 σ1 h => ?_)
  refine tn_if_ne (tgt := 10) (pc := 5) hΓ d_X6_ofHouse_5 (by decide) (fun hq => ?_) (fun hq => ?_)
  · have h := h.1 hq
    refine tn_iload_n (pc := 10) hΓ d_X6_ofHouse_10 rfl ?_
    refine tn_byc (a1 = (0 : Int32)) (fun hq => ?_) (fun hq0 => ?_)
    · have h := h.1 hq
      refine tn_tblIn (off := 41) (tgt := 52) (pc := 11) hΓ d_X6_ofHouse_11 (by rw [hq] <;> decide) (by rw [hq] <;> decide) (by rw [hq] <;> rfl) (by decide) ?_
      refine tn_aload_n (pc := 52) hΓ d_X6_ofHouse_52 rfl ?_
      refine tn_getRy (y := 43) (pc := 53) hΓ d_X6_ofHouse_53 fl_6_19 rfl (gd_k hG (c := 39) rfl) (gd_r hG 39 13 43 rfl rfl) ?_
      refine tn_iload_n (pc := 56) hΓ d_X6_ofHouse_56 rfl ?_
      obtain ⟨hi1, h⟩ := h
      refine tn_ald (pc := 57) hΓ d_X6_ofHouse_57 (gd_k hG (c := 43) rfl) hi1 ?_
      exact tn_ret_i (pc := 58) hΓ hK d_X6_ofHouse_58 rfl (by decide) (by decide) h
    have h := h.2 hq0
    refine tn_byc (a1 = (1 : Int32)) (fun hq => ?_) (fun hq1 => ?_)
    · have h := h.1 hq
      refine tn_tblIn (off := 48) (tgt := 59) (pc := 11) hΓ d_X6_ofHouse_11 (by rw [hq] <;> decide) (by rw [hq] <;> decide) (by rw [hq] <;> rfl) (by decide) ?_
      refine tn_aload_n (pc := 59) hΓ d_X6_ofHouse_59 rfl ?_
      refine tn_getRy (y := 44) (pc := 60) hΓ d_X6_ofHouse_60 fl_6_22 rfl (gd_k hG (c := 39) rfl) (gd_r hG 39 14 44 rfl rfl) ?_
      refine tn_iload_n (pc := 63) hΓ d_X6_ofHouse_63 rfl ?_
      obtain ⟨hi2, h⟩ := h
      refine tn_ald (pc := 64) hΓ d_X6_ofHouse_64 (gd_k hG (c := 44) rfl) hi2 ?_
      exact tn_ret_i (pc := 65) hΓ hK d_X6_ofHouse_65 rfl (by decide) (by decide) h
    have h := h.2 hq1
    refine tn_byc (a1 = (2 : Int32)) (fun hq => ?_) (fun hq2 => ?_)
    · have h := h.1 hq
      refine tn_tblIn (off := 55) (tgt := 66) (pc := 11) hΓ d_X6_ofHouse_11 (by rw [hq] <;> decide) (by rw [hq] <;> decide) (by rw [hq] <;> rfl) (by decide) ?_
      refine tn_aload_n (pc := 66) hΓ d_X6_ofHouse_66 rfl ?_
      refine tn_getRy (y := 45) (pc := 67) hΓ d_X6_ofHouse_67 fl_6_25 rfl (gd_k hG (c := 39) rfl) (gd_r hG 39 15 45 rfl rfl) ?_
      refine tn_iload_n (pc := 70) hΓ d_X6_ofHouse_70 rfl ?_
      obtain ⟨hi3, h⟩ := h
      refine tn_ald (pc := 71) hΓ d_X6_ofHouse_71 (gd_k hG (c := 45) rfl) hi3 ?_
      exact tn_ret_i (pc := 72) hΓ hK d_X6_ofHouse_72 rfl (by decide) (by decide) h
    have h := h.2 hq2
    refine tn_byc (a1 = (3 : Int32)) (fun hq => ?_) (fun hq3 => ?_)
    · have h := h.1 hq
      refine tn_tblIn (off := 62) (tgt := 73) (pc := 11) hΓ d_X6_ofHouse_11 (by rw [hq] <;> decide) (by rw [hq] <;> decide) (by rw [hq] <;> rfl) (by decide) ?_
      refine tn_aload_n (pc := 73) hΓ d_X6_ofHouse_73 rfl ?_
      refine tn_iload_n (pc := 74) hΓ d_X6_ofHouse_74 rfl ?_
      refine tn_cvI (As := [.int a0]) (st := []) (pc := 75) hΓ d_X6_ofHouse_75 mv_X6_weightOf im_X6_weightOf se_X6_weightOf ml_6_139 ⟨⟨by decide, by decide⟩, by decide, by decide⟩ rfl rfl rfl (by decide) ⟨_, rfl⟩ (gd_k hG (c := 39) rfl) (Nat.le_of_ble_eq_true rfl) rfl h (fun r2 σ2 h => ?_)
      exact tn_ret_i (pc := 78) hΓ hK d_X6_ofHouse_78 rfl (by decide) (by decide) h
    have h := h.2 hq3
    refine tn_byc (a1 = (4 : Int32)) (fun hq => ?_) (fun hq4 => ?_)
    · have h := h.1 hq
      refine tn_tblIn (off := 68) (tgt := 79) (pc := 11) hΓ d_X6_ofHouse_11 (by rw [hq] <;> decide) (by rw [hq] <;> decide) (by rw [hq] <;> rfl) (by decide) ?_
      refine tn_aload_n (pc := 79) hΓ d_X6_ofHouse_79 rfl ?_
      refine tn_getI (pc := 80) hΓ d_X6_ofHouse_80 fl_6_104 rfl (gd_k hG (c := 39) rfl) ?_
      refine tn_iload_n (pc := 83) hΓ d_X6_ofHouse_83 rfl ?_
      refine tn_ishr (pc := 84) hΓ d_X6_ofHouse_84 ?_
      refine tn_iconst (pc := 85) hΓ d_X6_ofHouse_85 ic_1 ?_
      refine tn_iand (pc := 86) hΓ d_X6_ofHouse_86 ?_
      exact tn_ret_i (pc := 87) hΓ hK d_X6_ofHouse_87 rfl (by decide) (by decide) h
    have h := h.2 hq4
    refine tn_byc (a1 = (5 : Int32)) (fun hq => ?_) (fun hq5 => ?_)
    · have h := h.1 hq
      refine tn_tblIn (off := 77) (tgt := 88) (pc := 11) hΓ d_X6_ofHouse_11 (by rw [hq] <;> decide) (by rw [hq] <;> decide) (by rw [hq] <;> rfl) (by decide) ?_
      refine tn_aload_n (pc := 88) hΓ d_X6_ofHouse_88 rfl ?_
      refine tn_iload_n (pc := 89) hΓ d_X6_ofHouse_89 rfl ?_
      refine tn_cvI (As := [.int a0]) (st := []) (pc := 90) hΓ d_X6_ofHouse_90 mv_X6_rankles im_X6_rankles se_X6_rankles ml_6_142 ⟨⟨by decide, by decide⟩, by decide, by decide⟩ rfl rfl rfl (by decide) ⟨_, rfl⟩ (gd_k hG (c := 39) rfl) (Nat.le_of_ble_eq_true rfl) rfl h (fun r3 σ3 h => ?_)
      refine tn_if_eq (tgt := 100) (pc := 93) hΓ d_X6_ofHouse_93 (by decide) (fun hq => ?_) (fun hq => ?_)
      · have h := h.1 hq
        refine tn_iconst (pc := 100) hΓ d_X6_ofHouse_100 ic_0 ?_
        exact tn_ret_i (pc := 101) hΓ hK d_X6_ofHouse_101 rfl (by decide) (by decide) h
      · have h := h.2 hq
        refine tn_iconst (pc := 96) hΓ d_X6_ofHouse_96 ic_1 ?_
        refine tn_goto (tgt := 101) (pc := 97) hΓ d_X6_ofHouse_97 (by decide) ?_
        exact tn_ret_i (pc := 101) hΓ hK d_X6_ofHouse_101 rfl (by decide) (by decide) h
    have h := h.2 hq5
    refine tn_byc (a1 = (6 : Int32)) (fun hq => ?_) (fun hq6 => ?_)
    · have h := h.1 hq
      refine tn_tblIn (off := 91) (tgt := 102) (pc := 11) hΓ d_X6_ofHouse_11 (by rw [hq] <;> decide) (by rw [hq] <;> decide) (by rw [hq] <;> rfl) (by decide) ?_
      refine tn_aload_n (pc := 102) hΓ d_X6_ofHouse_102 rfl ?_
      refine tn_getRy (y := 46) (pc := 103) hΓ d_X6_ofHouse_103 fl_6_28 rfl (gd_k hG (c := 39) rfl) (gd_r hG 39 16 46 rfl rfl) ?_
      refine tn_iload_n (pc := 106) hΓ d_X6_ofHouse_106 rfl ?_
      obtain ⟨hi4, h⟩ := h
      refine tn_ald (pc := 107) hΓ d_X6_ofHouse_107 (gd_k hG (c := 46) rfl) hi4 ?_
      exact tn_ret_i (pc := 108) hΓ hK d_X6_ofHouse_108 rfl (by decide) (by decide) h
    have h := h.2 hq6
    refine tn_tblOut (tgt := 109) (pc := 11) hΓ d_X6_ofHouse_11 (tn_out_0_6 hq0 hq1 hq2 hq3 hq4 hq5 hq6) (by decide) ?_
    refine tn_bipush (pc := 109) hΓ d_X6_ofHouse_109 bp_m2 ?_
    exact tn_ret_i (pc := 111) hΓ hK d_X6_ofHouse_111 rfl (by decide) (by decide) h
  · have h := h.2 hq
    refine tn_iconst (pc := 8) hΓ d_X6_ofHouse_8 ic_m1 ?_
    exact tn_ret_i (pc := 9) hΓ hK d_X6_ofHouse_9 rfl (by decide) (by decide) h
theorem k_X6_ofStone_0 {Γ : tn_G} {ks : List (Nat × Nat)} {ρ : Nat → Nat → Nat} {σ : Nat → Nat → Int32} {K : Option Value → List (Nat × Nat) → (Nat → Nat → Nat) → (Nat → Nat → Int32) → Prop} (hG : tn_Gd ks ρ) (hΓ : tn_is Γ m_X6_ofStone) (hK : tn_rt Γ m_X6_ofStone K) (a0 : Int32) (a1 : Int32) (h : tn_CI m_X6_isStone [.ref 39, .int a0] ks ρ σ (fun r1 σ1 => ((¬ r1 = 0 → ((¬ a1 = 0 → ((¬ a1 = (1 : Int32) → K (some (.int (-2 : Int32))) ks ρ σ1) ∧ (a1 = (1 : Int32) → K (some (.int (((σ1 39 12) >>> (a0 &&& 31)) &&& (1 : Int32)))) ks ρ σ1))) ∧ (a1 = 0 → (vp_in a0 4 ∧ K (some (.int (σ1 47 a0.toNatClampNeg))) ks ρ σ1)))) ∧ (r1 = 0 → K (some (.int (-1 : Int32))) ks ρ σ1)))) : tn_A Γ 0 [.ref 39, .int a0, .int a1] [] 0 0 ks ρ σ := by
  refine tn_aload_n (pc := 0) hΓ d_X6_ofStone_0 rfl ?_
  refine tn_iload_n (pc := 1) hΓ d_X6_ofStone_1 rfl ?_
  refine tn_cvI (As := [.int a0]) (st := []) (pc := 2) hΓ d_X6_ofStone_2 mv_X6_isStone im_X6_isStone se_X6_isStone ml_6_148 ⟨⟨by decide, by decide⟩, by decide, by decide⟩ rfl rfl rfl (by decide) ⟨_, rfl⟩ (gd_k hG (c := 39) rfl) (Nat.le_of_ble_eq_true rfl) rfl h (fun r1 σ1 h => ?_)
  refine tn_if_ne (tgt := 10) (pc := 5) hΓ d_X6_ofStone_5 (by decide) (fun hq => ?_) (fun hq => ?_)
  · have h := h.1 hq
    refine tn_iload_n (pc := 10) hΓ d_X6_ofStone_10 rfl ?_
    refine tn_if_ne (tgt := 23) (pc := 11) hΓ d_X6_ofStone_11 (by decide) (fun hq => ?_) (fun hq => ?_)
    · have h := h.1 hq
      refine tn_iload_n (pc := 23) hΓ d_X6_ofStone_23 rfl ?_
      refine tn_iconst (pc := 24) hΓ d_X6_ofStone_24 ic_1 ?_
      refine tn_icmp_ne (tgt := 39) (pc := 25) hΓ d_X6_ofStone_25 (by decide) (fun hq => ?_) (fun hq => ?_)
      · have h := h.1 hq
        refine tn_bipush (pc := 39) hΓ d_X6_ofStone_39 bp_m2 ?_
        exact tn_ret_i (pc := 41) hΓ hK d_X6_ofStone_41 rfl (by decide) (by decide) h
      · have h := h.2 hq
        refine tn_aload_n (pc := 28) hΓ d_X6_ofStone_28 rfl ?_
        refine tn_getI (pc := 29) hΓ d_X6_ofStone_29 fl_6_107 rfl (gd_k hG (c := 39) rfl) ?_
        refine tn_iload_n (pc := 32) hΓ d_X6_ofStone_32 rfl ?_
        refine tn_ishr (pc := 33) hΓ d_X6_ofStone_33 ?_
        refine tn_iconst (pc := 34) hΓ d_X6_ofStone_34 ic_1 ?_
        refine tn_iand (pc := 35) hΓ d_X6_ofStone_35 ?_
        refine tn_goto (tgt := 41) (pc := 36) hΓ d_X6_ofStone_36 (by decide) ?_
        exact tn_ret_i (pc := 41) hΓ hK d_X6_ofStone_41 rfl (by decide) (by decide) h
    · have h := h.2 hq
      refine tn_aload_n (pc := 14) hΓ d_X6_ofStone_14 rfl ?_
      refine tn_getRy (y := 47) (pc := 15) hΓ d_X6_ofStone_15 fl_6_31 rfl (gd_k hG (c := 39) rfl) (gd_r hG 39 17 47 rfl rfl) ?_
      refine tn_iload_n (pc := 18) hΓ d_X6_ofStone_18 rfl ?_
      obtain ⟨hi1, h⟩ := h
      refine tn_ald (pc := 19) hΓ d_X6_ofStone_19 (gd_k hG (c := 47) rfl) hi1 ?_
      refine tn_goto (tgt := 41) (pc := 20) hΓ d_X6_ofStone_20 (by decide) ?_
      exact tn_ret_i (pc := 41) hΓ hK d_X6_ofStone_41 rfl (by decide) (by decide) h
  · have h := h.2 hq
    refine tn_iconst (pc := 8) hΓ d_X6_ofStone_8 ic_m1 ?_
    exact tn_ret_i (pc := 9) hΓ hK d_X6_ofStone_9 rfl (by decide) (by decide) h
theorem k_X6_sleep_0 {Γ : tn_G} {ks : List (Nat × Nat)} {ρ : Nat → Nat → Nat} {σ : Nat → Nat → Int32} {K : Option Value → List (Nat × Nat) → (Nat → Nat → Nat) → (Nat → Nat → Int32) → Prop} (hG : tn_Gd ks ρ) (hΓ : tn_is Γ m_X6_sleep) (hK : tn_rt Γ m_X6_sleep K) (a0 : Int32) (a1 : Int32) (h : tn_CI m_X6_isHouse [.ref 39, .int a0] ks ρ σ (fun r1 σ1 => ((¬ r1 = 0 → tn_CI m_X6_within [.int a1, .int (0 : Int32), .int (9 : Int32)] ks ρ σ1 (fun r2 σ2 => ((¬ r2 = 0 → (vp_in a0 5 ∧ (∀ x1 : Int32, x1 = (σ2 45 a0.toNatClampNeg) → (∀ σ3, σ3 = tn_u σ2 45 a0.toNatClampNeg a1 → K (some (.int x1)) ks ρ σ3)))) ∧ (r2 = 0 → K (some (.int (-2 : Int32))) ks ρ σ2)))) ∧ (r1 = 0 → K (some (.int (-1 : Int32))) ks ρ σ1)))) : tn_A Γ 0 [.ref 39, .int a0, .int a1, .null] [] 0 0 ks ρ σ := by
  refine tn_aload_n (pc := 0) hΓ d_X6_sleep_0 rfl ?_
  refine tn_iload_n (pc := 1) hΓ d_X6_sleep_1 rfl ?_
  refine tn_cvI (As := [.int a0]) (st := []) (pc := 2) hΓ d_X6_sleep_2 mv_X6_isHouse im_X6_isHouse se_X6_isHouse ml_6_145 ⟨⟨by decide, by decide⟩, by decide, by decide⟩ rfl rfl rfl (by decide) ⟨_, rfl⟩ (gd_k hG (c := 39) rfl) (Nat.le_of_ble_eq_true rfl) rfl h (fun r1 σ1 h => ?_)
  refine tn_if_ne (tgt := 10) (pc := 5) hΓ d_X6_sleep_5 (by decide) (fun hq => ?_) (fun hq => ?_)
  · have h := h.1 hq
    refine tn_iload_n (pc := 10) hΓ d_X6_sleep_10 rfl ?_
    refine tn_iconst (pc := 11) hΓ d_X6_sleep_11 ic_0 ?_
    refine tn_bipush (pc := 12) hΓ d_X6_sleep_12 bp_9 ?_
    refine tn_csI (As := [.int a1, .int (0 : Int32), .int (9 : Int32)]) (st := []) (pc := 14) hΓ d_X6_sleep_14 mv_X6_within st_X6_within ml_6_58 ⟨⟨by decide, by decide⟩, by decide, by decide⟩ rfl rfl rfl (Nat.le_of_ble_eq_true rfl) rfl h (fun r2 σ2 h => ?_)
    refine tn_if_ne (tgt := 23) (pc := 17) hΓ d_X6_sleep_17 (by decide) (fun hq => ?_) (fun hq => ?_)
    · have h := h.1 hq
      refine tn_aload_n (pc := 23) hΓ d_X6_sleep_23 rfl ?_
      refine tn_getRy (y := 45) (pc := 24) hΓ d_X6_sleep_24 fl_6_25 rfl (gd_k hG (c := 39) rfl) (gd_r hG 39 15 45 rfl rfl) ?_
      refine tn_iload_n (pc := 27) hΓ d_X6_sleep_27 rfl ?_
      obtain ⟨hi1, h⟩ := h
      refine tn_ald (pc := 28) hΓ d_X6_sleep_28 (gd_k hG (c := 45) rfl) hi1 ?_
      refine tn_topi (fun x1 ex1 => ?_)
      have h := h x1 ex1
      refine tn_istore_n (loc' := [.ref 39, .int a0, .int a1, .int x1]) (pc := 29) hΓ d_X6_sleep_29 (by decide) rfl rfl ?_
      refine tn_aload_n (pc := 30) hΓ d_X6_sleep_30 rfl ?_
      refine tn_getRy (y := 45) (pc := 31) hΓ d_X6_sleep_31 fl_6_25 rfl (gd_k hG (c := 39) rfl) (gd_r hG 39 15 45 rfl rfl) ?_
      refine tn_iload_n (pc := 34) hΓ d_X6_sleep_34 rfl ?_
      refine tn_iload_n (pc := 35) hΓ d_X6_sleep_35 rfl ?_
      refine tn_ast (pc := 36) hΓ d_X6_sleep_36 (gd_k hG (c := 45) rfl) hi1 ?_
      refine tn_tops (fun σ3 eσ3 => ?_)
      have h := h σ3 eσ3
      refine tn_iload_n (pc := 37) hΓ d_X6_sleep_37 rfl ?_
      exact tn_ret_i (pc := 38) hΓ hK d_X6_sleep_38 rfl (by decide) (by decide) h
    · have h := h.2 hq
      refine tn_bipush (pc := 20) hΓ d_X6_sleep_20 bp_m2 ?_
      exact tn_ret_i (pc := 22) hΓ hK d_X6_sleep_22 rfl (by decide) (by decide) h
  · have h := h.2 hq
    refine tn_iconst (pc := 8) hΓ d_X6_sleep_8 ic_m1 ?_
    exact tn_ret_i (pc := 9) hΓ hK d_X6_sleep_9 rfl (by decide) (by decide) h
