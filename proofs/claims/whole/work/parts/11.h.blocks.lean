-- X6_owns X6_layGreatest X6_goesNight X6_own X6_lay X6_night X6_keep X6_putBack X6_does X6_goDay X6_day X6_tellDay
theorem k_X6_owns_0 {Γ : tn_G} {ks : List (Nat × Nat)} {ρ : Nat → Nat → Nat} {σ : Nat → Nat → Int32} {K : Option Value → List (Nat × Nat) → (Nat → Nat → Nat) → (Nat → Nat → Int32) → Prop} (hG : tn_Gd ks ρ) (hΓ : tn_is Γ m_X6_owns) (hK : tn_rt Γ m_X6_owns K) (a0 : Int32) (h : tn_CI m_X6_rankles [.ref 39, .int a0] ks ρ σ (fun r1 σ1 => ((r1 = 0 → (vp_in a0 5 ∧ (∀ σ2, σ2 = tn_u σ1 46 a0.toNatClampNeg ((σ1 46 a0.toNatClampNeg) + (1 : Int32)) → (∀ σ3, σ3 = tn_u σ2 39 10 ((σ2 39 10) + (1 : Int32)) → K (some (.int (0 : Int32))) ks ρ σ3)))) ∧ (¬ r1 = 0 → (∀ σ4, σ4 = tn_u σ1 39 11 ((σ1 39 11) ||| ((1 : Int32) <<< (a0 &&& 31))) → K (some (.int (1 : Int32))) ks ρ σ4))))) : tn_A Γ 0 [.ref 39, .int a0] [] 0 0 ks ρ σ := by
  refine tn_aload_n (pc := 0) hΓ d_X6_owns_0 rfl ?_
  refine tn_iload_n (pc := 1) hΓ d_X6_owns_1 rfl ?_
  refine tn_cvI (As := [.int a0]) (st := []) (pc := 2) hΓ d_X6_owns_2 mv_X6_rankles im_X6_rankles se_X6_rankles ml_6_142 ⟨⟨by decide, by decide⟩, by decide, by decide⟩ rfl rfl rfl (by decide) ⟨_, rfl⟩ (gd_k hG (c := 39) rfl) (Nat.le_of_ble_eq_true rfl) rfl h (fun r1 σ1 h => ?_)
  refine tn_if_eq (tgt := 22) (pc := 5) hΓ d_X6_owns_5 (by decide) (fun hq => ?_) (fun hq => ?_)
  · have h := h.1 hq
    refine tn_aload_n (pc := 22) hΓ d_X6_owns_22 rfl ?_
    refine tn_getRy (y := 46) (pc := 23) hΓ d_X6_owns_23 fl_6_28 rfl (gd_k hG (c := 39) rfl) (gd_r hG 39 16 46 rfl rfl) ?_
    refine tn_iload_n (pc := 26) hΓ d_X6_owns_26 rfl ?_
    refine tn_dup2 (pc := 27) hΓ d_X6_owns_27 ?_
    obtain ⟨hi1, h⟩ := h
    refine tn_ald (pc := 28) hΓ d_X6_owns_28 (gd_k hG (c := 46) rfl) hi1 ?_
    refine tn_iconst (pc := 29) hΓ d_X6_owns_29 ic_1 ?_
    refine tn_iadd (pc := 30) hΓ d_X6_owns_30 ?_
    refine tn_ast (pc := 31) hΓ d_X6_owns_31 (gd_k hG (c := 46) rfl) hi1 ?_
    refine tn_tops (fun σ2 eσ2 => ?_)
    have h := h σ2 eσ2
    refine tn_aload_n (pc := 32) hΓ d_X6_owns_32 rfl ?_
    refine tn_dupr (pc := 33) hΓ d_X6_owns_33 ?_
    refine tn_getI (pc := 34) hΓ d_X6_owns_34 fl_6_116 rfl (gd_k hG (c := 39) rfl) ?_
    refine tn_iconst (pc := 37) hΓ d_X6_owns_37 ic_1 ?_
    refine tn_iadd (pc := 38) hΓ d_X6_owns_38 ?_
    refine tn_putI (pc := 39) hΓ d_X6_owns_39 fl_6_116 fk_6_6_10 rfl (gd_k hG (c := 39) rfl)  ?_
    refine tn_tops (fun σ3 eσ3 => ?_)
    have h := h σ3 eσ3
    refine tn_iconst (pc := 42) hΓ d_X6_owns_42 ic_0 ?_
    exact tn_ret_z (pc := 43) hΓ hK d_X6_owns_43 rfl (by decide) (by decide) (Or.inl rfl) h
  · have h := h.2 hq
    refine tn_aload_n (pc := 8) hΓ d_X6_owns_8 rfl ?_
    refine tn_dupr (pc := 9) hΓ d_X6_owns_9 ?_
    refine tn_getI (pc := 10) hΓ d_X6_owns_10 fl_6_104 rfl (gd_k hG (c := 39) rfl) ?_
    refine tn_iconst (pc := 13) hΓ d_X6_owns_13 ic_1 ?_
    refine tn_iload_n (pc := 14) hΓ d_X6_owns_14 rfl ?_
    refine tn_ishl (pc := 15) hΓ d_X6_owns_15 ?_
    refine tn_ior (pc := 16) hΓ d_X6_owns_16 ?_
    refine tn_putI (pc := 17) hΓ d_X6_owns_17 fl_6_104 fk_6_6_11 rfl (gd_k hG (c := 39) rfl)  ?_
    refine tn_tops (fun σ4 eσ4 => ?_)
    have h := h σ4 eσ4
    refine tn_iconst (pc := 20) hΓ d_X6_owns_20 ic_1 ?_
    exact tn_ret_z (pc := 21) hΓ hK d_X6_owns_21 rfl (by decide) (by decide) (Or.inr rfl) h
theorem k_X6_layGreatest_0 {Γ : tn_G} {ks : List (Nat × Nat)} {ρ : Nat → Nat → Nat} {σ : Nat → Nat → Int32} {K : Option Value → List (Nat × Nat) → (Nat → Nat → Nat) → (Nat → Nat → Int32) → Prop} (hG : tn_Gd ks ρ) (hΓ : tn_is Γ m_X6_layGreatest) (hK : tn_rt Γ m_X6_layGreatest K)  (h : tn_A Γ 5 [.ref 39, .int (-9 : Int32), .int (0 : Int32)] [] 0 0 ks ρ σ) : tn_A Γ 0 [.ref 39, .null, .null] [] 0 0 ks ρ σ := by
  refine tn_bipush (pc := 0) hΓ d_X6_layGreatest_0 bp_m9 ?_
  refine tn_istore_n (loc' := [.ref 39, .int (-9 : Int32), .null]) (pc := 2) hΓ d_X6_layGreatest_2 (by decide) rfl rfl ?_
  refine tn_iconst (pc := 3) hΓ d_X6_layGreatest_3 ic_0 ?_
  refine tn_istore_n (loc' := [.ref 39, .int (-9 : Int32), .int (0 : Int32)]) (pc := 4) hΓ d_X6_layGreatest_4 (by decide) rfl rfl ?_
  exact h
theorem k_X6_layGreatest_5 {Γ : tn_G} {ks : List (Nat × Nat)} {ρ : Nat → Nat → Nat} {σ : Nat → Nat → Int32} {K : Option Value → List (Nat × Nat) → (Nat → Nat → Nat) → (Nat → Nat → Int32) → Prop} (hG : tn_Gd ks ρ) (hΓ : tn_is Γ m_X6_layGreatest) (hK : tn_rt Γ m_X6_layGreatest K) (y1 : Int32) (y2 : Int32) (h : (((σ 39 6) ≤ y2 → ((¬ y1 = (-9 : Int32) → (∀ σ1, σ1 = tn_u σ 39 12 ((σ 39 12) ||| ((1 : Int32) <<< (y1 &&& 31))) → K none ks ρ σ1)) ∧ (y1 = (-9 : Int32) → (∀ σ2, σ2 = tn_u σ 39 12 ((σ 39 12) ||| (0 : Int32)) → K none ks ρ σ2)))) ∧ (¬ (σ 39 6) ≤ y2 → tn_CI m_X6_isOf [.int (σ 39 12), .int y2] ks ρ σ (fun r1 σ3 => ((¬ r1 = 0 → (∀ x1 : Int32, x1 = y2 + (1 : Int32) → tn_A Γ 5 [.ref 39, .int y1, .int x1] [] 0 0 ks ρ σ3)) ∧ (r1 = 0 → ((y1 = (-9 : Int32) → (∀ x2 : Int32, x2 = y2 + (1 : Int32) → tn_A Γ 5 [.ref 39, .int y2, .int x2] [] 0 0 ks ρ σ3)) ∧ (¬ y1 = (-9 : Int32) → (vp_in y2 4 ∧ (vp_in y1 4 ∧ (((σ3 47 y2.toNatClampNeg) ≤ (σ3 47 y1.toNatClampNeg) → (∀ x3 : Int32, x3 = y2 + (1 : Int32) → tn_A Γ 5 [.ref 39, .int y1, .int x3] [] 0 0 ks ρ σ3)) ∧ (¬ (σ3 47 y2.toNatClampNeg) ≤ (σ3 47 y1.toNatClampNeg) → (∀ x4 : Int32, x4 = y2 + (1 : Int32) → tn_A Γ 5 [.ref 39, .int y2, .int x4] [] 0 0 ks ρ σ3))))))))))))) : tn_A Γ 5 [.ref 39, .int y1, .int y2] [] 0 0 ks ρ σ := by
  refine tn_iload_n (pc := 5) hΓ d_X6_layGreatest_5 rfl ?_
  refine tn_aload_n (pc := 6) hΓ d_X6_layGreatest_6 rfl ?_
  refine tn_getI (pc := 7) hΓ d_X6_layGreatest_7 fl_6_65 rfl (gd_k hG (c := 39) rfl) ?_
  refine tn_icmp_ge (tgt := 57) (pc := 10) hΓ d_X6_layGreatest_10 (by decide) (fun hq => ?_) (fun hq => ?_)
  · have h := h.1 hq
    refine tn_aload_n (pc := 57) hΓ d_X6_layGreatest_57 rfl ?_
    refine tn_dupr (pc := 58) hΓ d_X6_layGreatest_58 ?_
    refine tn_getI (pc := 59) hΓ d_X6_layGreatest_59 fl_6_107 rfl (gd_k hG (c := 39) rfl) ?_
    refine tn_iload_n (pc := 62) hΓ d_X6_layGreatest_62 rfl ?_
    refine tn_bipush (pc := 63) hΓ d_X6_layGreatest_63 bp_m9 ?_
    refine tn_icmp_ne (tgt := 72) (pc := 65) hΓ d_X6_layGreatest_65 (by decide) (fun hq => ?_) (fun hq => ?_)
    · have h := h.1 hq
      refine tn_iconst (pc := 72) hΓ d_X6_layGreatest_72 ic_1 ?_
      refine tn_iload_n (pc := 73) hΓ d_X6_layGreatest_73 rfl ?_
      refine tn_ishl (pc := 74) hΓ d_X6_layGreatest_74 ?_
      refine tn_ior (pc := 75) hΓ d_X6_layGreatest_75 ?_
      refine tn_putI (pc := 76) hΓ d_X6_layGreatest_76 fl_6_107 fk_6_6_12 rfl (gd_k hG (c := 39) rfl)  ?_
      refine tn_tops (fun σ1 eσ1 => ?_)
      have h := h σ1 eσ1
      exact tn_ret_v (pc := 79) hΓ hK d_X6_layGreatest_79 rfl (by decide) (by decide) h
    · have h := h.2 hq
      refine tn_iconst (pc := 68) hΓ d_X6_layGreatest_68 ic_0 ?_
      refine tn_goto (tgt := 75) (pc := 69) hΓ d_X6_layGreatest_69 (by decide) ?_
      refine tn_ior (pc := 75) hΓ d_X6_layGreatest_75 ?_
      refine tn_putI (pc := 76) hΓ d_X6_layGreatest_76 fl_6_107 fk_6_6_12 rfl (gd_k hG (c := 39) rfl)  ?_
      refine tn_tops (fun σ2 eσ2 => ?_)
      have h := h σ2 eσ2
      exact tn_ret_v (pc := 79) hΓ hK d_X6_layGreatest_79 rfl (by decide) (by decide) h
  · have h := h.2 hq
    refine tn_aload_n (pc := 13) hΓ d_X6_layGreatest_13 rfl ?_
    refine tn_getI (pc := 14) hΓ d_X6_layGreatest_14 fl_6_107 rfl (gd_k hG (c := 39) rfl) ?_
    refine tn_iload_n (pc := 17) hΓ d_X6_layGreatest_17 rfl ?_
    refine tn_csI (As := [.int (σ 39 12), .int y2]) (st := []) (pc := 18) hΓ d_X6_layGreatest_18 mv_X6_isOf st_X6_isOf ml_6_136 ⟨⟨by decide, by decide⟩, by decide, by decide⟩ rfl rfl rfl (Nat.le_of_ble_eq_true rfl) rfl h (fun r1 σ3 h => ?_)
    refine tn_if_ne (tgt := 49) (pc := 21) hΓ d_X6_layGreatest_21 (by decide) (fun hq => ?_) (fun hq => ?_)
    · have h := h.1 hq
      refine tn_iload_n (pc := 49) hΓ d_X6_layGreatest_49 rfl ?_
      refine tn_istore_n (loc' := [.ref 39, .int y1, .int y2]) (pc := 50) hΓ d_X6_layGreatest_50 (by decide) rfl rfl ?_
      refine tn_iincw (loc' := fun v_ => [.ref 39, .int y1, .int v_]) (pc := 51) hΓ d_X6_layGreatest_51 rfl ic_1 (by decide) rfl (fun _ => rfl) (fun x1 ex1 => ?_)
      have h := h x1 ex1
      refine tn_goto (tgt := 5) (pc := 54) hΓ d_X6_layGreatest_54 (by decide) ?_
      exact h
    · have h := h.2 hq
      refine tn_iload_n (pc := 24) hΓ d_X6_layGreatest_24 rfl ?_
      refine tn_bipush (pc := 25) hΓ d_X6_layGreatest_25 bp_m9 ?_
      refine tn_icmp_eq (tgt := 45) (pc := 27) hΓ d_X6_layGreatest_27 (by decide) (fun hq => ?_) (fun hq => ?_)
      · have h := h.1 hq
        refine tn_iload_n (pc := 45) hΓ d_X6_layGreatest_45 rfl ?_
        refine tn_goto (tgt := 50) (pc := 46) hΓ d_X6_layGreatest_46 (by decide) ?_
        refine tn_istore_n (loc' := [.ref 39, .int y2, .int y2]) (pc := 50) hΓ d_X6_layGreatest_50 (by decide) rfl rfl ?_
        refine tn_iincw (loc' := fun v_ => [.ref 39, .int y2, .int v_]) (pc := 51) hΓ d_X6_layGreatest_51 rfl ic_1 (by decide) rfl (fun _ => rfl) (fun x2 ex2 => ?_)
        have h := h x2 ex2
        refine tn_goto (tgt := 5) (pc := 54) hΓ d_X6_layGreatest_54 (by decide) ?_
        exact h
      · have h := h.2 hq
        refine tn_aload_n (pc := 30) hΓ d_X6_layGreatest_30 rfl ?_
        refine tn_getRy (y := 47) (pc := 31) hΓ d_X6_layGreatest_31 fl_6_31 rfl (gd_k hG (c := 39) rfl) (gd_r hG 39 17 47 rfl rfl) ?_
        refine tn_iload_n (pc := 34) hΓ d_X6_layGreatest_34 rfl ?_
        obtain ⟨hi1, h⟩ := h
        refine tn_ald (pc := 35) hΓ d_X6_layGreatest_35 (gd_k hG (c := 47) rfl) hi1 ?_
        refine tn_aload_n (pc := 36) hΓ d_X6_layGreatest_36 rfl ?_
        refine tn_getRy (y := 47) (pc := 37) hΓ d_X6_layGreatest_37 fl_6_31 rfl (gd_k hG (c := 39) rfl) (gd_r hG 39 17 47 rfl rfl) ?_
        refine tn_iload_n (pc := 40) hΓ d_X6_layGreatest_40 rfl ?_
        obtain ⟨hi2, h⟩ := h
        refine tn_ald (pc := 41) hΓ d_X6_layGreatest_41 (gd_k hG (c := 47) rfl) hi2 ?_
        refine tn_icmp_le (tgt := 49) (pc := 42) hΓ d_X6_layGreatest_42 (by decide) (fun hq => ?_) (fun hq => ?_)
        · have h := h.1 hq
          refine tn_iload_n (pc := 49) hΓ d_X6_layGreatest_49 rfl ?_
          refine tn_istore_n (loc' := [.ref 39, .int y1, .int y2]) (pc := 50) hΓ d_X6_layGreatest_50 (by decide) rfl rfl ?_
          refine tn_iincw (loc' := fun v_ => [.ref 39, .int y1, .int v_]) (pc := 51) hΓ d_X6_layGreatest_51 rfl ic_1 (by decide) rfl (fun _ => rfl) (fun x3 ex3 => ?_)
          have h := h x3 ex3
          refine tn_goto (tgt := 5) (pc := 54) hΓ d_X6_layGreatest_54 (by decide) ?_
          exact h
        · have h := h.2 hq
          refine tn_iload_n (pc := 45) hΓ d_X6_layGreatest_45 rfl ?_
          refine tn_goto (tgt := 50) (pc := 46) hΓ d_X6_layGreatest_46 (by decide) ?_
          refine tn_istore_n (loc' := [.ref 39, .int y2, .int y2]) (pc := 50) hΓ d_X6_layGreatest_50 (by decide) rfl rfl ?_
          refine tn_iincw (loc' := fun v_ => [.ref 39, .int y2, .int v_]) (pc := 51) hΓ d_X6_layGreatest_51 rfl ic_1 (by decide) rfl (fun _ => rfl) (fun x4 ex4 => ?_)
          have h := h x4 ex4
          refine tn_goto (tgt := 5) (pc := 54) hΓ d_X6_layGreatest_54 (by decide) ?_
          exact h
theorem k_X6_goesNight_0 {Γ : tn_G} {ks : List (Nat × Nat)} {ρ : Nat → Nat → Nat} {σ : Nat → Nat → Int32} {K : Option Value → List (Nat × Nat) → (Nat → Nat → Nat) → (Nat → Nat → Int32) → Prop} (hG : tn_Gd ks ρ) (hΓ : tn_is Γ m_X6_goesNight) (hK : tn_rt Γ m_X6_goesNight K)  (h : (∀ σ1, σ1 = tn_u σ 39 9 ((σ 39 9) + (1 : Int32)) → tn_CI m_X6_voiceNow [.ref 39] ks ρ σ1 (fun r1 σ2 => ((¬ r1 = 0 → tn_A Γ 20 [.ref 39, .int (0 : Int32)] [] 0 0 ks ρ σ2) ∧ (r1 = 0 → K none ks ρ σ2))))) : tn_A Γ 0 [.ref 39, .null] [] 0 0 ks ρ σ := by
  refine tn_aload_n (pc := 0) hΓ d_X6_goesNight_0 rfl ?_
  refine tn_dupr (pc := 1) hΓ d_X6_goesNight_1 ?_
  refine tn_getI (pc := 2) hΓ d_X6_goesNight_2 fl_6_113 rfl (gd_k hG (c := 39) rfl) ?_
  refine tn_iconst (pc := 5) hΓ d_X6_goesNight_5 ic_1 ?_
  refine tn_iadd (pc := 6) hΓ d_X6_goesNight_6 ?_
  refine tn_putI (pc := 7) hΓ d_X6_goesNight_7 fl_6_113 fk_6_6_9 rfl (gd_k hG (c := 39) rfl)  ?_
  refine tn_tops (fun σ1 eσ1 => ?_)
  have h := h σ1 eσ1
  refine tn_aload_n (pc := 10) hΓ d_X6_goesNight_10 rfl ?_
  refine tn_cvI (As := []) (st := []) (pc := 11) hΓ d_X6_goesNight_11 mv_X6_voiceNow im_X6_voiceNow se_X6_voiceNow ml_6_151 ⟨⟨by decide, by decide⟩, by decide, by decide⟩ rfl rfl rfl (by decide) ⟨_, rfl⟩ (gd_k hG (c := 39) rfl) (Nat.le_of_ble_eq_true rfl) rfl h (fun r1 σ2 h => ?_)
  refine tn_if_ne (tgt := 18) (pc := 14) hΓ d_X6_goesNight_14 (by decide) (fun hq => ?_) (fun hq => ?_)
  · have h := h.1 hq
    refine tn_iconst (pc := 18) hΓ d_X6_goesNight_18 ic_0 ?_
    refine tn_istore_n (loc' := [.ref 39, .int (0 : Int32)]) (pc := 19) hΓ d_X6_goesNight_19 (by decide) rfl rfl ?_
    exact h
  · have h := h.2 hq
    exact tn_ret_v (pc := 17) hΓ hK d_X6_goesNight_17 rfl (by decide) (by decide) h
theorem k_X6_goesNight_20 {Γ : tn_G} {ks : List (Nat × Nat)} {ρ : Nat → Nat → Nat} {σ : Nat → Nat → Int32} {K : Option Value → List (Nat × Nat) → (Nat → Nat → Nat) → (Nat → Nat → Int32) → Prop} (hG : tn_Gd ks ρ) (hΓ : tn_is Γ m_X6_goesNight) (hK : tn_rt Γ m_X6_goesNight K) (y1 : Int32) (h : (((σ 39 5) ≤ y1 → (vp_in (σ 39 8) 5 ∧ ((¬ (σ 45 (σ 39 8).toNatClampNeg) = 0 → tn_CI m_X6_whoRankle [.ref 39] ks ρ σ (fun r1 σ1 => ((¬ r1 = 0 → (¬ (σ1 39 5) = 0 ∧ (∀ σ2, σ2 = tn_u σ1 39 8 (((σ1 39 8) + (σ1 39 7)) - ((σ1 39 8) + (σ1 39 7)) / (σ1 39 5) * (σ1 39 5)) → K none ks ρ σ2))) ∧ (r1 = 0 → tn_CV m_X6_layGreatest [.ref 39] ks ρ σ1 (fun σ3 => (¬ (σ3 39 5) = 0 ∧ (∀ σ4, σ4 = tn_u σ3 39 8 (((σ3 39 8) + (σ3 39 7)) - ((σ3 39 8) + (σ3 39 7)) / (σ3 39 5) * (σ3 39 5)) → K none ks ρ σ4))))))) ∧ ((σ 45 (σ 39 8).toNatClampNeg) = 0 → tn_CI m_X6_owns [.ref 39, .int (σ 39 8)] ks ρ σ (fun r2 σ5 => tn_CI m_X6_whoRankle [.ref 39] ks ρ σ5 (fun r3 σ6 => ((¬ r3 = 0 → (¬ (σ6 39 5) = 0 ∧ (∀ σ7, σ7 = tn_u σ6 39 8 (((σ6 39 8) + (σ6 39 7)) - ((σ6 39 8) + (σ6 39 7)) / (σ6 39 5) * (σ6 39 5)) → K none ks ρ σ7))) ∧ (r3 = 0 → tn_CV m_X6_layGreatest [.ref 39] ks ρ σ6 (fun σ8 => (¬ (σ8 39 5) = 0 ∧ (∀ σ9, σ9 = tn_u σ8 39 8 (((σ8 39 8) + (σ8 39 7)) - ((σ8 39 8) + (σ8 39 7)) / (σ8 39 5) * (σ8 39 5)) → K none ks ρ σ9))))))))))) ∧ (¬ (σ 39 5) ≤ y1 → (vp_in y1 5 ∧ (((σ 45 y1.toNatClampNeg) ≤ 0 → (∀ σ10, σ10 = tn_u σ 45 y1.toNatClampNeg ((σ 45 y1.toNatClampNeg) - (0 : Int32)) → (∀ x1 : Int32, x1 = y1 + (1 : Int32) → tn_A Γ 20 [.ref 39, .int x1] [] 0 0 ks ρ σ10))) ∧ (¬ (σ 45 y1.toNatClampNeg) ≤ 0 → (∀ σ11, σ11 = tn_u σ 45 y1.toNatClampNeg ((σ 45 y1.toNatClampNeg) - (1 : Int32)) → (∀ x2 : Int32, x2 = y1 + (1 : Int32) → tn_A Γ 20 [.ref 39, .int x2] [] 0 0 ks ρ σ11)))))))) : tn_A Γ 20 [.ref 39, .int y1] [] 0 0 ks ρ σ := by
  refine tn_iload_n (pc := 20) hΓ d_X6_goesNight_20 rfl ?_
  refine tn_aload_n (pc := 21) hΓ d_X6_goesNight_21 rfl ?_
  refine tn_getI (pc := 22) hΓ d_X6_goesNight_22 fl_6_62 rfl (gd_k hG (c := 39) rfl) ?_
  refine tn_icmp_ge (tgt := 57) (pc := 25) hΓ d_X6_goesNight_25 (by decide) (fun hq => ?_) (fun hq => ?_)
  · have h := h.1 hq
    refine tn_aload_n (pc := 57) hΓ d_X6_goesNight_57 rfl ?_
    refine tn_getRy (y := 45) (pc := 58) hΓ d_X6_goesNight_58 fl_6_25 rfl (gd_k hG (c := 39) rfl) (gd_r hG 39 15 45 rfl rfl) ?_
    refine tn_aload_n (pc := 61) hΓ d_X6_goesNight_61 rfl ?_
    refine tn_getI (pc := 62) hΓ d_X6_goesNight_62 fl_6_110 rfl (gd_k hG (c := 39) rfl) ?_
    obtain ⟨hi1, h⟩ := h
    refine tn_ald (pc := 65) hΓ d_X6_goesNight_65 (gd_k hG (c := 45) rfl) hi1 ?_
    refine tn_if_ne (tgt := 78) (pc := 66) hΓ d_X6_goesNight_66 (by decide) (fun hq => ?_) (fun hq => ?_)
    · have h := h.1 hq
      refine tn_aload_n (pc := 78) hΓ d_X6_goesNight_78 rfl ?_
      refine tn_cvI (As := []) (st := []) (pc := 79) hΓ d_X6_goesNight_79 mv_X6_whoRankle im_X6_whoRankle se_X6_whoRankle ml_6_158 ⟨⟨by decide, by decide⟩, by decide, by decide⟩ rfl rfl rfl (by decide) ⟨_, rfl⟩ (gd_k hG (c := 39) rfl) (Nat.le_of_ble_eq_true rfl) rfl h (fun r1 σ1 h => ?_)
      refine tn_if_ne (tgt := 89) (pc := 82) hΓ d_X6_goesNight_82 (by decide) (fun hq => ?_) (fun hq => ?_)
      · have h := h.1 hq
        refine tn_aload_n (pc := 89) hΓ d_X6_goesNight_89 rfl ?_
        refine tn_aload_n (pc := 90) hΓ d_X6_goesNight_90 rfl ?_
        refine tn_getI (pc := 91) hΓ d_X6_goesNight_91 fl_6_110 rfl (gd_k hG (c := 39) rfl) ?_
        refine tn_aload_n (pc := 94) hΓ d_X6_goesNight_94 rfl ?_
        refine tn_getI (pc := 95) hΓ d_X6_goesNight_95 fl_6_101 rfl (gd_k hG (c := 39) rfl) ?_
        refine tn_iadd (pc := 98) hΓ d_X6_goesNight_98 ?_
        refine tn_aload_n (pc := 99) hΓ d_X6_goesNight_99 rfl ?_
        refine tn_getI (pc := 100) hΓ d_X6_goesNight_100 fl_6_62 rfl (gd_k hG (c := 39) rfl) ?_
        obtain ⟨hq, h⟩ := h
        refine tn_irem (pc := 103) hΓ d_X6_goesNight_103 hq ?_
        refine tn_putI (pc := 104) hΓ d_X6_goesNight_104 fl_6_110 fk_6_6_8 rfl (gd_k hG (c := 39) rfl)  ?_
        refine tn_tops (fun σ2 eσ2 => ?_)
        have h := h σ2 eσ2
        exact tn_ret_v (pc := 107) hΓ hK d_X6_goesNight_107 rfl (by decide) (by decide) h
      · have h := h.2 hq
        refine tn_aload_n (pc := 85) hΓ d_X6_goesNight_85 rfl ?_
        refine tn_cvV (As := []) (st := []) (pc := 86) hΓ d_X6_goesNight_86 mv_X6_layGreatest im_X6_layGreatest se_X6_layGreatest ml_6_161 ⟨⟨by decide, by decide⟩, by decide, by decide⟩ rfl rfl rfl (by decide) ⟨_, rfl⟩ (gd_k hG (c := 39) rfl) (Nat.le_of_ble_eq_true rfl) rfl h (fun σ3 h => ?_)
        refine tn_aload_n (pc := 89) hΓ d_X6_goesNight_89 rfl ?_
        refine tn_aload_n (pc := 90) hΓ d_X6_goesNight_90 rfl ?_
        refine tn_getI (pc := 91) hΓ d_X6_goesNight_91 fl_6_110 rfl (gd_k hG (c := 39) rfl) ?_
        refine tn_aload_n (pc := 94) hΓ d_X6_goesNight_94 rfl ?_
        refine tn_getI (pc := 95) hΓ d_X6_goesNight_95 fl_6_101 rfl (gd_k hG (c := 39) rfl) ?_
        refine tn_iadd (pc := 98) hΓ d_X6_goesNight_98 ?_
        refine tn_aload_n (pc := 99) hΓ d_X6_goesNight_99 rfl ?_
        refine tn_getI (pc := 100) hΓ d_X6_goesNight_100 fl_6_62 rfl (gd_k hG (c := 39) rfl) ?_
        obtain ⟨hq, h⟩ := h
        refine tn_irem (pc := 103) hΓ d_X6_goesNight_103 hq ?_
        refine tn_putI (pc := 104) hΓ d_X6_goesNight_104 fl_6_110 fk_6_6_8 rfl (gd_k hG (c := 39) rfl)  ?_
        refine tn_tops (fun σ4 eσ4 => ?_)
        have h := h σ4 eσ4
        exact tn_ret_v (pc := 107) hΓ hK d_X6_goesNight_107 rfl (by decide) (by decide) h
    · have h := h.2 hq
      refine tn_aload_n (pc := 69) hΓ d_X6_goesNight_69 rfl ?_
      refine tn_aload_n (pc := 70) hΓ d_X6_goesNight_70 rfl ?_
      refine tn_getI (pc := 71) hΓ d_X6_goesNight_71 fl_6_110 rfl (gd_k hG (c := 39) rfl) ?_
      refine tn_cvI (As := [.int (σ 39 8)]) (st := []) (pc := 74) hΓ d_X6_goesNight_74 mv_X6_owns im_X6_owns se_X6_owns ml_6_155 ⟨⟨by decide, by decide⟩, by decide, by decide⟩ rfl rfl rfl (by decide) ⟨_, rfl⟩ (gd_k hG (c := 39) rfl) (Nat.le_of_ble_eq_true rfl) rfl h (fun r2 σ5 h => ?_)
      refine tn_popi (pc := 77) hΓ d_X6_goesNight_77 ?_
      refine tn_aload_n (pc := 78) hΓ d_X6_goesNight_78 rfl ?_
      refine tn_cvI (As := []) (st := []) (pc := 79) hΓ d_X6_goesNight_79 mv_X6_whoRankle im_X6_whoRankle se_X6_whoRankle ml_6_158 ⟨⟨by decide, by decide⟩, by decide, by decide⟩ rfl rfl rfl (by decide) ⟨_, rfl⟩ (gd_k hG (c := 39) rfl) (Nat.le_of_ble_eq_true rfl) rfl h (fun r3 σ6 h => ?_)
      refine tn_if_ne (tgt := 89) (pc := 82) hΓ d_X6_goesNight_82 (by decide) (fun hq => ?_) (fun hq => ?_)
      · have h := h.1 hq
        refine tn_aload_n (pc := 89) hΓ d_X6_goesNight_89 rfl ?_
        refine tn_aload_n (pc := 90) hΓ d_X6_goesNight_90 rfl ?_
        refine tn_getI (pc := 91) hΓ d_X6_goesNight_91 fl_6_110 rfl (gd_k hG (c := 39) rfl) ?_
        refine tn_aload_n (pc := 94) hΓ d_X6_goesNight_94 rfl ?_
        refine tn_getI (pc := 95) hΓ d_X6_goesNight_95 fl_6_101 rfl (gd_k hG (c := 39) rfl) ?_
        refine tn_iadd (pc := 98) hΓ d_X6_goesNight_98 ?_
        refine tn_aload_n (pc := 99) hΓ d_X6_goesNight_99 rfl ?_
        refine tn_getI (pc := 100) hΓ d_X6_goesNight_100 fl_6_62 rfl (gd_k hG (c := 39) rfl) ?_
        obtain ⟨hq, h⟩ := h
        refine tn_irem (pc := 103) hΓ d_X6_goesNight_103 hq ?_
        refine tn_putI (pc := 104) hΓ d_X6_goesNight_104 fl_6_110 fk_6_6_8 rfl (gd_k hG (c := 39) rfl)  ?_
        refine tn_tops (fun σ7 eσ7 => ?_)
        have h := h σ7 eσ7
        exact tn_ret_v (pc := 107) hΓ hK d_X6_goesNight_107 rfl (by decide) (by decide) h
      · have h := h.2 hq
        refine tn_aload_n (pc := 85) hΓ d_X6_goesNight_85 rfl ?_
        refine tn_cvV (As := []) (st := []) (pc := 86) hΓ d_X6_goesNight_86 mv_X6_layGreatest im_X6_layGreatest se_X6_layGreatest ml_6_161 ⟨⟨by decide, by decide⟩, by decide, by decide⟩ rfl rfl rfl (by decide) ⟨_, rfl⟩ (gd_k hG (c := 39) rfl) (Nat.le_of_ble_eq_true rfl) rfl h (fun σ8 h => ?_)
        refine tn_aload_n (pc := 89) hΓ d_X6_goesNight_89 rfl ?_
        refine tn_aload_n (pc := 90) hΓ d_X6_goesNight_90 rfl ?_
        refine tn_getI (pc := 91) hΓ d_X6_goesNight_91 fl_6_110 rfl (gd_k hG (c := 39) rfl) ?_
        refine tn_aload_n (pc := 94) hΓ d_X6_goesNight_94 rfl ?_
        refine tn_getI (pc := 95) hΓ d_X6_goesNight_95 fl_6_101 rfl (gd_k hG (c := 39) rfl) ?_
        refine tn_iadd (pc := 98) hΓ d_X6_goesNight_98 ?_
        refine tn_aload_n (pc := 99) hΓ d_X6_goesNight_99 rfl ?_
        refine tn_getI (pc := 100) hΓ d_X6_goesNight_100 fl_6_62 rfl (gd_k hG (c := 39) rfl) ?_
        obtain ⟨hq, h⟩ := h
        refine tn_irem (pc := 103) hΓ d_X6_goesNight_103 hq ?_
        refine tn_putI (pc := 104) hΓ d_X6_goesNight_104 fl_6_110 fk_6_6_8 rfl (gd_k hG (c := 39) rfl)  ?_
        refine tn_tops (fun σ9 eσ9 => ?_)
        have h := h σ9 eσ9
        exact tn_ret_v (pc := 107) hΓ hK d_X6_goesNight_107 rfl (by decide) (by decide) h
  · have h := h.2 hq
    refine tn_aload_n (pc := 28) hΓ d_X6_goesNight_28 rfl ?_
    refine tn_getRy (y := 45) (pc := 29) hΓ d_X6_goesNight_29 fl_6_25 rfl (gd_k hG (c := 39) rfl) (gd_r hG 39 15 45 rfl rfl) ?_
    refine tn_iload_n (pc := 32) hΓ d_X6_goesNight_32 rfl ?_
    refine tn_dup2 (pc := 33) hΓ d_X6_goesNight_33 ?_
    obtain ⟨hi2, h⟩ := h
    refine tn_ald (pc := 34) hΓ d_X6_goesNight_34 (gd_k hG (c := 45) rfl) hi2 ?_
    refine tn_aload_n (pc := 35) hΓ d_X6_goesNight_35 rfl ?_
    refine tn_getRy (y := 45) (pc := 36) hΓ d_X6_goesNight_36 fl_6_25 rfl (gd_k hG (c := 39) rfl) (gd_r hG 39 15 45 rfl rfl) ?_
    refine tn_iload_n (pc := 39) hΓ d_X6_goesNight_39 rfl ?_
    refine tn_ald (pc := 40) hΓ d_X6_goesNight_40 (gd_k hG (c := 45) rfl) hi2 ?_
    refine tn_if_le (tgt := 48) (pc := 41) hΓ d_X6_goesNight_41 (by decide) (fun hq => ?_) (fun hq => ?_)
    · have h := h.1 hq
      refine tn_iconst (pc := 48) hΓ d_X6_goesNight_48 ic_0 ?_
      refine tn_isub (pc := 49) hΓ d_X6_goesNight_49 ?_
      refine tn_ast (pc := 50) hΓ d_X6_goesNight_50 (gd_k hG (c := 45) rfl) hi2 ?_
      refine tn_tops (fun σ10 eσ10 => ?_)
      have h := h σ10 eσ10
      refine tn_iincw (loc' := fun v_ => [.ref 39, .int v_]) (pc := 51) hΓ d_X6_goesNight_51 rfl ic_1 (by decide) rfl (fun _ => rfl) (fun x1 ex1 => ?_)
      have h := h x1 ex1
      refine tn_goto (tgt := 20) (pc := 54) hΓ d_X6_goesNight_54 (by decide) ?_
      exact h
    · have h := h.2 hq
      refine tn_iconst (pc := 44) hΓ d_X6_goesNight_44 ic_1 ?_
      refine tn_goto (tgt := 49) (pc := 45) hΓ d_X6_goesNight_45 (by decide) ?_
      refine tn_isub (pc := 49) hΓ d_X6_goesNight_49 ?_
      refine tn_ast (pc := 50) hΓ d_X6_goesNight_50 (gd_k hG (c := 45) rfl) hi2 ?_
      refine tn_tops (fun σ11 eσ11 => ?_)
      have h := h σ11 eσ11
      refine tn_iincw (loc' := fun v_ => [.ref 39, .int v_]) (pc := 51) hΓ d_X6_goesNight_51 rfl ic_1 (by decide) rfl (fun _ => rfl) (fun x2 ex2 => ?_)
      have h := h x2 ex2
      refine tn_goto (tgt := 20) (pc := 54) hΓ d_X6_goesNight_54 (by decide) ?_
      exact h
theorem k_X6_own_0 {Γ : tn_G} {ks : List (Nat × Nat)} {ρ : Nat → Nat → Nat} {σ : Nat → Nat → Int32} {K : Option Value → List (Nat × Nat) → (Nat → Nat → Nat) → (Nat → Nat → Int32) → Prop} (hG : tn_Gd ks ρ) (hΓ : tn_is Γ m_X6_own) (hK : tn_rt Γ m_X6_own K) (a0 : Int32) (h : tn_CI m_X6_isHouse [.ref 39, .int a0] ks ρ σ (fun r1 σ1 => ((¬ r1 = 0 → tn_CI m_X6_owns [.ref 39, .int a0] ks ρ σ1 (fun r2 σ2 => ((r2 = 0 → K (some (.int (0 : Int32))) ks ρ σ2) ∧ (¬ r2 = 0 → K (some (.int (1 : Int32))) ks ρ σ2)))) ∧ (r1 = 0 → K (some (.int (-1 : Int32))) ks ρ σ1)))) : tn_A Γ 0 [.ref 39, .int a0] [] 0 0 ks ρ σ := by
  refine tn_aload_n (pc := 0) hΓ d_X6_own_0 rfl ?_
  refine tn_iload_n (pc := 1) hΓ d_X6_own_1 rfl ?_
  refine tn_cvI (As := [.int a0]) (st := []) (pc := 2) hΓ d_X6_own_2 mv_X6_isHouse im_X6_isHouse se_X6_isHouse ml_6_145 ⟨⟨by decide, by decide⟩, by decide, by decide⟩ rfl rfl rfl (by decide) ⟨_, rfl⟩ (gd_k hG (c := 39) rfl) (Nat.le_of_ble_eq_true rfl) rfl h (fun r1 σ1 h => ?_)
  refine tn_if_ne (tgt := 10) (pc := 5) hΓ d_X6_own_5 (by decide) (fun hq => ?_) (fun hq => ?_)
  · have h := h.1 hq
    refine tn_aload_n (pc := 10) hΓ d_X6_own_10 rfl ?_
    refine tn_iload_n (pc := 11) hΓ d_X6_own_11 rfl ?_
    refine tn_cvI (As := [.int a0]) (st := []) (pc := 12) hΓ d_X6_own_12 mv_X6_owns im_X6_owns se_X6_owns ml_6_155 ⟨⟨by decide, by decide⟩, by decide, by decide⟩ rfl rfl rfl (by decide) ⟨_, rfl⟩ (gd_k hG (c := 39) rfl) (Nat.le_of_ble_eq_true rfl) rfl h (fun r2 σ2 h => ?_)
    refine tn_if_eq (tgt := 22) (pc := 15) hΓ d_X6_own_15 (by decide) (fun hq => ?_) (fun hq => ?_)
    · have h := h.1 hq
      refine tn_iconst (pc := 22) hΓ d_X6_own_22 ic_0 ?_
      exact tn_ret_i (pc := 23) hΓ hK d_X6_own_23 rfl (by decide) (by decide) h
    · have h := h.2 hq
      refine tn_iconst (pc := 18) hΓ d_X6_own_18 ic_1 ?_
      refine tn_goto (tgt := 23) (pc := 19) hΓ d_X6_own_19 (by decide) ?_
      exact tn_ret_i (pc := 23) hΓ hK d_X6_own_23 rfl (by decide) (by decide) h
  · have h := h.2 hq
    refine tn_iconst (pc := 8) hΓ d_X6_own_8 ic_m1 ?_
    exact tn_ret_i (pc := 9) hΓ hK d_X6_own_9 rfl (by decide) (by decide) h
theorem k_X6_lay_0 {Γ : tn_G} {ks : List (Nat × Nat)} {ρ : Nat → Nat → Nat} {σ : Nat → Nat → Int32} {K : Option Value → List (Nat × Nat) → (Nat → Nat → Nat) → (Nat → Nat → Int32) → Prop} (hG : tn_Gd ks ρ) (hΓ : tn_is Γ m_X6_lay) (hK : tn_rt Γ m_X6_lay K) (a0 : Int32) (h : tn_CI m_X6_isStone [.ref 39, .int a0] ks ρ σ (fun r1 σ1 => ((¬ r1 = 0 → tn_CI m_X6_isOf [.int (σ1 39 12), .int a0] ks ρ σ1 (fun r2 σ2 => ((r2 = 0 → (∀ σ3, σ3 = tn_u σ2 39 12 ((σ2 39 12) ||| ((1 : Int32) <<< (a0 &&& 31))) → tn_CI m_X6_voiceNow [.ref 39] ks ρ σ3 (fun r3 σ4 => K (some (.int r3)) ks ρ σ4))) ∧ (¬ r2 = 0 → K (some (.int (-3 : Int32))) ks ρ σ2)))) ∧ (r1 = 0 → K (some (.int (-1 : Int32))) ks ρ σ1)))) : tn_A Γ 0 [.ref 39, .int a0] [] 0 0 ks ρ σ := by
  refine tn_aload_n (pc := 0) hΓ d_X6_lay_0 rfl ?_
  refine tn_iload_n (pc := 1) hΓ d_X6_lay_1 rfl ?_
  refine tn_cvI (As := [.int a0]) (st := []) (pc := 2) hΓ d_X6_lay_2 mv_X6_isStone im_X6_isStone se_X6_isStone ml_6_148 ⟨⟨by decide, by decide⟩, by decide, by decide⟩ rfl rfl rfl (by decide) ⟨_, rfl⟩ (gd_k hG (c := 39) rfl) (Nat.le_of_ble_eq_true rfl) rfl h (fun r1 σ1 h => ?_)
  refine tn_if_ne (tgt := 10) (pc := 5) hΓ d_X6_lay_5 (by decide) (fun hq => ?_) (fun hq => ?_)
  · have h := h.1 hq
    refine tn_aload_n (pc := 10) hΓ d_X6_lay_10 rfl ?_
    refine tn_getI (pc := 11) hΓ d_X6_lay_11 fl_6_107 rfl (gd_k hG (c := 39) rfl) ?_
    refine tn_iload_n (pc := 14) hΓ d_X6_lay_14 rfl ?_
    refine tn_csI (As := [.int (σ1 39 12), .int a0]) (st := []) (pc := 15) hΓ d_X6_lay_15 mv_X6_isOf st_X6_isOf ml_6_136 ⟨⟨by decide, by decide⟩, by decide, by decide⟩ rfl rfl rfl (Nat.le_of_ble_eq_true rfl) rfl h (fun r2 σ2 h => ?_)
    refine tn_if_eq (tgt := 24) (pc := 18) hΓ d_X6_lay_18 (by decide) (fun hq => ?_) (fun hq => ?_)
    · have h := h.1 hq
      refine tn_aload_n (pc := 24) hΓ d_X6_lay_24 rfl ?_
      refine tn_dupr (pc := 25) hΓ d_X6_lay_25 ?_
      refine tn_getI (pc := 26) hΓ d_X6_lay_26 fl_6_107 rfl (gd_k hG (c := 39) rfl) ?_
      refine tn_iconst (pc := 29) hΓ d_X6_lay_29 ic_1 ?_
      refine tn_iload_n (pc := 30) hΓ d_X6_lay_30 rfl ?_
      refine tn_ishl (pc := 31) hΓ d_X6_lay_31 ?_
      refine tn_ior (pc := 32) hΓ d_X6_lay_32 ?_
      refine tn_putI (pc := 33) hΓ d_X6_lay_33 fl_6_107 fk_6_6_12 rfl (gd_k hG (c := 39) rfl)  ?_
      refine tn_tops (fun σ3 eσ3 => ?_)
      have h := h σ3 eσ3
      refine tn_aload_n (pc := 36) hΓ d_X6_lay_36 rfl ?_
      refine tn_cvI (As := []) (st := []) (pc := 37) hΓ d_X6_lay_37 mv_X6_voiceNow im_X6_voiceNow se_X6_voiceNow ml_6_151 ⟨⟨by decide, by decide⟩, by decide, by decide⟩ rfl rfl rfl (by decide) ⟨_, rfl⟩ (gd_k hG (c := 39) rfl) (Nat.le_of_ble_eq_true rfl) rfl h (fun r3 σ4 h => ?_)
      exact tn_ret_i (pc := 40) hΓ hK d_X6_lay_40 rfl (by decide) (by decide) h
    · have h := h.2 hq
      refine tn_bipush (pc := 21) hΓ d_X6_lay_21 bp_m3 ?_
      exact tn_ret_i (pc := 23) hΓ hK d_X6_lay_23 rfl (by decide) (by decide) h
  · have h := h.2 hq
    refine tn_iconst (pc := 8) hΓ d_X6_lay_8 ic_m1 ?_
    exact tn_ret_i (pc := 9) hΓ hK d_X6_lay_9 rfl (by decide) (by decide) h
theorem k_X6_night_0 {Γ : tn_G} {ks : List (Nat × Nat)} {ρ : Nat → Nat → Nat} {σ : Nat → Nat → Int32} {K : Option Value → List (Nat × Nat) → (Nat → Nat → Nat) → (Nat → Nat → Int32) → Prop} (hG : tn_Gd ks ρ) (hΓ : tn_is Γ m_X6_night) (hK : tn_rt Γ m_X6_night K) (a0 : Int32) (h : tn_CI m_X6_within [.int a0, .int (1 : Int32), .int (60 : Int32)] ks ρ σ (fun r1 σ1 => ((¬ r1 = 0 → ((¬ (σ1 39 5) = 0 → tn_A Γ 25 [.ref 39, .int a0, .int (0 : Int32)] [] 0 0 ks ρ σ1) ∧ ((σ1 39 5) = 0 → K (some (.int (-3 : Int32))) ks ρ σ1))) ∧ (r1 = 0 → K (some (.int (-2 : Int32))) ks ρ σ1)))) : tn_A Γ 0 [.ref 39, .int a0, .null] [] 0 0 ks ρ σ := by
  refine tn_iload_n (pc := 0) hΓ d_X6_night_0 rfl ?_
  refine tn_iconst (pc := 1) hΓ d_X6_night_1 ic_1 ?_
  refine tn_bipush (pc := 2) hΓ d_X6_night_2 bp_60 ?_
  refine tn_csI (As := [.int a0, .int (1 : Int32), .int (60 : Int32)]) (st := []) (pc := 4) hΓ d_X6_night_4 mv_X6_within st_X6_within ml_6_58 ⟨⟨by decide, by decide⟩, by decide, by decide⟩ rfl rfl rfl (Nat.le_of_ble_eq_true rfl) rfl h (fun r1 σ1 h => ?_)
  refine tn_if_ne (tgt := 13) (pc := 7) hΓ d_X6_night_7 (by decide) (fun hq => ?_) (fun hq => ?_)
  · have h := h.1 hq
    refine tn_aload_n (pc := 13) hΓ d_X6_night_13 rfl ?_
    refine tn_getI (pc := 14) hΓ d_X6_night_14 fl_6_62 rfl (gd_k hG (c := 39) rfl) ?_
    refine tn_if_ne (tgt := 23) (pc := 17) hΓ d_X6_night_17 (by decide) (fun hq => ?_) (fun hq => ?_)
    · have h := h.1 hq
      refine tn_iconst (pc := 23) hΓ d_X6_night_23 ic_0 ?_
      refine tn_istore_n (loc' := [.ref 39, .int a0, .int (0 : Int32)]) (pc := 24) hΓ d_X6_night_24 (by decide) rfl rfl ?_
      exact h
    · have h := h.2 hq
      refine tn_bipush (pc := 20) hΓ d_X6_night_20 bp_m3 ?_
      exact tn_ret_i (pc := 22) hΓ hK d_X6_night_22 rfl (by decide) (by decide) h
  · have h := h.2 hq
    refine tn_bipush (pc := 10) hΓ d_X6_night_10 bp_m2 ?_
    exact tn_ret_i (pc := 12) hΓ hK d_X6_night_12 rfl (by decide) (by decide) h
theorem k_X6_night_25 {Γ : tn_G} {ks : List (Nat × Nat)} {ρ : Nat → Nat → Nat} {σ : Nat → Nat → Int32} {K : Option Value → List (Nat × Nat) → (Nat → Nat → Nat) → (Nat → Nat → Int32) → Prop} (hG : tn_Gd ks ρ) (hΓ : tn_is Γ m_X6_night) (hK : tn_rt Γ m_X6_night K) (y1 : Int32) (y2 : Int32) (h : ((y1 ≤ y2 → tn_CI m_X6_voiceNow [.ref 39] ks ρ σ (fun r1 σ1 => K (some (.int r1)) ks ρ σ1)) ∧ (¬ y1 ≤ y2 → tn_CV m_X6_goesNight [.ref 39] ks ρ σ (fun σ2 => (∀ x1 : Int32, x1 = y2 + (1 : Int32) → tn_A Γ 25 [.ref 39, .int y1, .int x1] [] 0 0 ks ρ σ2))))) : tn_A Γ 25 [.ref 39, .int y1, .int y2] [] 0 0 ks ρ σ := by
  refine tn_iload_n (pc := 25) hΓ d_X6_night_25 rfl ?_
  refine tn_iload_n (pc := 26) hΓ d_X6_night_26 rfl ?_
  refine tn_icmp_ge (tgt := 40) (pc := 27) hΓ d_X6_night_27 (by decide) (fun hq => ?_) (fun hq => ?_)
  · have h := h.1 hq
    refine tn_aload_n (pc := 40) hΓ d_X6_night_40 rfl ?_
    refine tn_cvI (As := []) (st := []) (pc := 41) hΓ d_X6_night_41 mv_X6_voiceNow im_X6_voiceNow se_X6_voiceNow ml_6_151 ⟨⟨by decide, by decide⟩, by decide, by decide⟩ rfl rfl rfl (by decide) ⟨_, rfl⟩ (gd_k hG (c := 39) rfl) (Nat.le_of_ble_eq_true rfl) rfl h (fun r1 σ1 h => ?_)
    exact tn_ret_i (pc := 44) hΓ hK d_X6_night_44 rfl (by decide) (by decide) h
  · have h := h.2 hq
    refine tn_aload_n (pc := 30) hΓ d_X6_night_30 rfl ?_
    refine tn_cvV (As := []) (st := []) (pc := 31) hΓ d_X6_night_31 mv_X6_goesNight im_X6_goesNight se_X6_goesNight ml_6_164 ⟨⟨by decide, by decide⟩, by decide, by decide⟩ rfl rfl rfl (by decide) ⟨_, rfl⟩ (gd_k hG (c := 39) rfl) (Nat.le_of_ble_eq_true rfl) rfl h (fun σ2 h => ?_)
    refine tn_iincw (loc' := fun v_ => [.ref 39, .int y1, .int v_]) (pc := 34) hΓ d_X6_night_34 rfl ic_1 (by decide) rfl (fun _ => rfl) (fun x1 ex1 => ?_)
    have h := h x1 ex1
    refine tn_goto (tgt := 25) (pc := 37) hΓ d_X6_night_37 (by decide) ?_
    exact h
theorem k_X6_keep_0 {Γ : tn_G} {ks : List (Nat × Nat)} {ρ : Nat → Nat → Nat} {σ : Nat → Nat → Int32} {K : Option Value → List (Nat × Nat) → (Nat → Nat → Nat) → (Nat → Nat → Int32) → Prop} (hG : tn_Gd ks ρ) (hΓ : tn_is Γ m_X6_keep) (hK : tn_rt Γ m_X6_keep K) (a0 : Int32) (h : tn_A Γ 2 [.ref 39, .int a0, .int (0 : Int32)] [] 0 0 ks ρ σ) : tn_A Γ 0 [.ref 39, .int a0, .null] [] 0 0 ks ρ σ := by
  refine tn_iconst (pc := 0) hΓ d_X6_keep_0 ic_0 ?_
  refine tn_istore_n (loc' := [.ref 39, .int a0, .int (0 : Int32)]) (pc := 1) hΓ d_X6_keep_1 (by decide) rfl rfl ?_
  exact h
theorem k_X6_keep_2 {Γ : tn_G} {ks : List (Nat × Nat)} {ρ : Nat → Nat → Nat} {σ : Nat → Nat → Int32} {K : Option Value → List (Nat × Nat) → (Nat → Nat → Nat) → (Nat → Nat → Int32) → Prop} (hG : tn_Gd ks ρ) (hΓ : tn_is Γ m_X6_keep) (hK : tn_rt Γ m_X6_keep K) (y1 : Int32) (y2 : Int32) (h : (((5 : Int32) ≤ y2 → (vp_in (((15 : Int32) * y1) + (10 : Int32)) 30 ∧ (∀ σ1, σ1 = tn_u σ 50 (((15 : Int32) * y1) + (10 : Int32)).toNatClampNeg (σ 39 11) → (vp_in (((15 : Int32) * y1) + (11 : Int32)) 30 ∧ (∀ σ2, σ2 = tn_u σ1 50 (((15 : Int32) * y1) + (11 : Int32)).toNatClampNeg (σ1 39 12) → (vp_in (((15 : Int32) * y1) + (12 : Int32)) 30 ∧ (∀ σ3, σ3 = tn_u σ2 50 (((15 : Int32) * y1) + (12 : Int32)).toNatClampNeg (σ2 39 8) → (vp_in (((15 : Int32) * y1) + (13 : Int32)) 30 ∧ (∀ σ4, σ4 = tn_u σ3 50 (((15 : Int32) * y1) + (13 : Int32)).toNatClampNeg (σ3 39 9) → (vp_in (((15 : Int32) * y1) + (14 : Int32)) 30 ∧ (∀ σ5, σ5 = tn_u σ4 50 (((15 : Int32) * y1) + (14 : Int32)).toNatClampNeg (σ4 39 10) → K none ks ρ σ5))))))))))) ∧ (¬ (5 : Int32) ≤ y2 → (vp_in y2 5 ∧ (vp_in (((15 : Int32) * y1) + y2) 30 ∧ (∀ σ6, σ6 = tn_u σ 50 (((15 : Int32) * y1) + y2).toNatClampNeg (σ 45 y2.toNatClampNeg) → (vp_in ((((15 : Int32) * y1) + (5 : Int32)) + y2) 30 ∧ (∀ σ7, σ7 = tn_u σ6 50 ((((15 : Int32) * y1) + (5 : Int32)) + y2).toNatClampNeg (σ6 46 y2.toNatClampNeg) → (∀ x1 : Int32, x1 = y2 + (1 : Int32) → tn_A Γ 2 [.ref 39, .int y1, .int x1] [] 0 0 ks ρ σ7))))))))) : tn_A Γ 2 [.ref 39, .int y1, .int y2] [] 0 0 ks ρ σ := by
  refine tn_iload_n (pc := 2) hΓ d_X6_keep_2 rfl ?_
  refine tn_iconst (pc := 3) hΓ d_X6_keep_3 ic_5 ?_
  refine tn_icmp_ge (tgt := 49) (pc := 4) hΓ d_X6_keep_4 (by decide) (fun hq => ?_) (fun hq => ?_)
  · have h := h.1 hq
    refine tn_aload_n (pc := 49) hΓ d_X6_keep_49 rfl ?_
    refine tn_getRy (y := 50) (pc := 50) hΓ d_X6_keep_50 fl_6_40 rfl (gd_k hG (c := 39) rfl) (gd_r hG 39 24 50 rfl rfl) ?_
    refine tn_bipush (pc := 53) hΓ d_X6_keep_53 bp_15 ?_
    refine tn_iload_n (pc := 55) hΓ d_X6_keep_55 rfl ?_
    refine tn_imul (pc := 56) hΓ d_X6_keep_56 ?_
    refine tn_bipush (pc := 57) hΓ d_X6_keep_57 bp_10 ?_
    refine tn_iadd (pc := 59) hΓ d_X6_keep_59 ?_
    refine tn_aload_n (pc := 60) hΓ d_X6_keep_60 rfl ?_
    refine tn_getI (pc := 61) hΓ d_X6_keep_61 fl_6_104 rfl (gd_k hG (c := 39) rfl) ?_
    obtain ⟨hi1, h⟩ := h
    refine tn_ast (pc := 64) hΓ d_X6_keep_64 (gd_k hG (c := 50) rfl) hi1 ?_
    refine tn_tops (fun σ1 eσ1 => ?_)
    have h := h σ1 eσ1
    refine tn_aload_n (pc := 65) hΓ d_X6_keep_65 rfl ?_
    refine tn_getRy (y := 50) (pc := 66) hΓ d_X6_keep_66 fl_6_40 rfl (gd_k hG (c := 39) rfl) (gd_r hG 39 24 50 rfl rfl) ?_
    refine tn_bipush (pc := 69) hΓ d_X6_keep_69 bp_15 ?_
    refine tn_iload_n (pc := 71) hΓ d_X6_keep_71 rfl ?_
    refine tn_imul (pc := 72) hΓ d_X6_keep_72 ?_
    refine tn_bipush (pc := 73) hΓ d_X6_keep_73 bp_11 ?_
    refine tn_iadd (pc := 75) hΓ d_X6_keep_75 ?_
    refine tn_aload_n (pc := 76) hΓ d_X6_keep_76 rfl ?_
    refine tn_getI (pc := 77) hΓ d_X6_keep_77 fl_6_107 rfl (gd_k hG (c := 39) rfl) ?_
    obtain ⟨hi2, h⟩ := h
    refine tn_ast (pc := 80) hΓ d_X6_keep_80 (gd_k hG (c := 50) rfl) hi2 ?_
    refine tn_tops (fun σ2 eσ2 => ?_)
    have h := h σ2 eσ2
    refine tn_aload_n (pc := 81) hΓ d_X6_keep_81 rfl ?_
    refine tn_getRy (y := 50) (pc := 82) hΓ d_X6_keep_82 fl_6_40 rfl (gd_k hG (c := 39) rfl) (gd_r hG 39 24 50 rfl rfl) ?_
    refine tn_bipush (pc := 85) hΓ d_X6_keep_85 bp_15 ?_
    refine tn_iload_n (pc := 87) hΓ d_X6_keep_87 rfl ?_
    refine tn_imul (pc := 88) hΓ d_X6_keep_88 ?_
    refine tn_bipush (pc := 89) hΓ d_X6_keep_89 bp_12 ?_
    refine tn_iadd (pc := 91) hΓ d_X6_keep_91 ?_
    refine tn_aload_n (pc := 92) hΓ d_X6_keep_92 rfl ?_
    refine tn_getI (pc := 93) hΓ d_X6_keep_93 fl_6_110 rfl (gd_k hG (c := 39) rfl) ?_
    obtain ⟨hi3, h⟩ := h
    refine tn_ast (pc := 96) hΓ d_X6_keep_96 (gd_k hG (c := 50) rfl) hi3 ?_
    refine tn_tops (fun σ3 eσ3 => ?_)
    have h := h σ3 eσ3
    refine tn_aload_n (pc := 97) hΓ d_X6_keep_97 rfl ?_
    refine tn_getRy (y := 50) (pc := 98) hΓ d_X6_keep_98 fl_6_40 rfl (gd_k hG (c := 39) rfl) (gd_r hG 39 24 50 rfl rfl) ?_
    refine tn_bipush (pc := 101) hΓ d_X6_keep_101 bp_15 ?_
    refine tn_iload_n (pc := 103) hΓ d_X6_keep_103 rfl ?_
    refine tn_imul (pc := 104) hΓ d_X6_keep_104 ?_
    refine tn_bipush (pc := 105) hΓ d_X6_keep_105 bp_13 ?_
    refine tn_iadd (pc := 107) hΓ d_X6_keep_107 ?_
    refine tn_aload_n (pc := 108) hΓ d_X6_keep_108 rfl ?_
    refine tn_getI (pc := 109) hΓ d_X6_keep_109 fl_6_113 rfl (gd_k hG (c := 39) rfl) ?_
    obtain ⟨hi4, h⟩ := h
    refine tn_ast (pc := 112) hΓ d_X6_keep_112 (gd_k hG (c := 50) rfl) hi4 ?_
    refine tn_tops (fun σ4 eσ4 => ?_)
    have h := h σ4 eσ4
    refine tn_aload_n (pc := 113) hΓ d_X6_keep_113 rfl ?_
    refine tn_getRy (y := 50) (pc := 114) hΓ d_X6_keep_114 fl_6_40 rfl (gd_k hG (c := 39) rfl) (gd_r hG 39 24 50 rfl rfl) ?_
    refine tn_bipush (pc := 117) hΓ d_X6_keep_117 bp_15 ?_
    refine tn_iload_n (pc := 119) hΓ d_X6_keep_119 rfl ?_
    refine tn_imul (pc := 120) hΓ d_X6_keep_120 ?_
    refine tn_bipush (pc := 121) hΓ d_X6_keep_121 bp_14 ?_
    refine tn_iadd (pc := 123) hΓ d_X6_keep_123 ?_
    refine tn_aload_n (pc := 124) hΓ d_X6_keep_124 rfl ?_
    refine tn_getI (pc := 125) hΓ d_X6_keep_125 fl_6_116 rfl (gd_k hG (c := 39) rfl) ?_
    obtain ⟨hi5, h⟩ := h
    refine tn_ast (pc := 128) hΓ d_X6_keep_128 (gd_k hG (c := 50) rfl) hi5 ?_
    refine tn_tops (fun σ5 eσ5 => ?_)
    have h := h σ5 eσ5
    exact tn_ret_v (pc := 129) hΓ hK d_X6_keep_129 rfl (by decide) (by decide) h
  · have h := h.2 hq
    refine tn_aload_n (pc := 7) hΓ d_X6_keep_7 rfl ?_
    refine tn_getRy (y := 50) (pc := 8) hΓ d_X6_keep_8 fl_6_40 rfl (gd_k hG (c := 39) rfl) (gd_r hG 39 24 50 rfl rfl) ?_
    refine tn_bipush (pc := 11) hΓ d_X6_keep_11 bp_15 ?_
    refine tn_iload_n (pc := 13) hΓ d_X6_keep_13 rfl ?_
    refine tn_imul (pc := 14) hΓ d_X6_keep_14 ?_
    refine tn_iload_n (pc := 15) hΓ d_X6_keep_15 rfl ?_
    refine tn_iadd (pc := 16) hΓ d_X6_keep_16 ?_
    refine tn_aload_n (pc := 17) hΓ d_X6_keep_17 rfl ?_
    refine tn_getRy (y := 45) (pc := 18) hΓ d_X6_keep_18 fl_6_25 rfl (gd_k hG (c := 39) rfl) (gd_r hG 39 15 45 rfl rfl) ?_
    refine tn_iload_n (pc := 21) hΓ d_X6_keep_21 rfl ?_
    obtain ⟨hi6, h⟩ := h
    refine tn_ald (pc := 22) hΓ d_X6_keep_22 (gd_k hG (c := 45) rfl) hi6 ?_
    obtain ⟨hi7, h⟩ := h
    refine tn_ast (pc := 23) hΓ d_X6_keep_23 (gd_k hG (c := 50) rfl) hi7 ?_
    refine tn_tops (fun σ6 eσ6 => ?_)
    have h := h σ6 eσ6
    refine tn_aload_n (pc := 24) hΓ d_X6_keep_24 rfl ?_
    refine tn_getRy (y := 50) (pc := 25) hΓ d_X6_keep_25 fl_6_40 rfl (gd_k hG (c := 39) rfl) (gd_r hG 39 24 50 rfl rfl) ?_
    refine tn_bipush (pc := 28) hΓ d_X6_keep_28 bp_15 ?_
    refine tn_iload_n (pc := 30) hΓ d_X6_keep_30 rfl ?_
    refine tn_imul (pc := 31) hΓ d_X6_keep_31 ?_
    refine tn_iconst (pc := 32) hΓ d_X6_keep_32 ic_5 ?_
    refine tn_iadd (pc := 33) hΓ d_X6_keep_33 ?_
    refine tn_iload_n (pc := 34) hΓ d_X6_keep_34 rfl ?_
    refine tn_iadd (pc := 35) hΓ d_X6_keep_35 ?_
    refine tn_aload_n (pc := 36) hΓ d_X6_keep_36 rfl ?_
    refine tn_getRy (y := 46) (pc := 37) hΓ d_X6_keep_37 fl_6_28 rfl (gd_k hG (c := 39) rfl) (gd_r hG 39 16 46 rfl rfl) ?_
    refine tn_iload_n (pc := 40) hΓ d_X6_keep_40 rfl ?_
    refine tn_ald (pc := 41) hΓ d_X6_keep_41 (gd_k hG (c := 46) rfl) hi6 ?_
    obtain ⟨hi8, h⟩ := h
    refine tn_ast (pc := 42) hΓ d_X6_keep_42 (gd_k hG (c := 50) rfl) hi8 ?_
    refine tn_tops (fun σ7 eσ7 => ?_)
    have h := h σ7 eσ7
    refine tn_iincw (loc' := fun v_ => [.ref 39, .int y1, .int v_]) (pc := 43) hΓ d_X6_keep_43 rfl ic_1 (by decide) rfl (fun _ => rfl) (fun x1 ex1 => ?_)
    have h := h x1 ex1
    refine tn_goto (tgt := 2) (pc := 46) hΓ d_X6_keep_46 (by decide) ?_
    exact h
theorem k_X6_putBack_0 {Γ : tn_G} {ks : List (Nat × Nat)} {ρ : Nat → Nat → Nat} {σ : Nat → Nat → Int32} {K : Option Value → List (Nat × Nat) → (Nat → Nat → Nat) → (Nat → Nat → Int32) → Prop} (hG : tn_Gd ks ρ) (hΓ : tn_is Γ m_X6_putBack) (hK : tn_rt Γ m_X6_putBack K) (a0 : Int32) (h : tn_A Γ 2 [.ref 39, .int a0, .int (0 : Int32)] [] 0 0 ks ρ σ) : tn_A Γ 0 [.ref 39, .int a0, .null] [] 0 0 ks ρ σ := by
  refine tn_iconst (pc := 0) hΓ d_X6_putBack_0 ic_0 ?_
  refine tn_istore_n (loc' := [.ref 39, .int a0, .int (0 : Int32)]) (pc := 1) hΓ d_X6_putBack_1 (by decide) rfl rfl ?_
  exact h
theorem k_X6_putBack_2 {Γ : tn_G} {ks : List (Nat × Nat)} {ρ : Nat → Nat → Nat} {σ : Nat → Nat → Int32} {K : Option Value → List (Nat × Nat) → (Nat → Nat → Nat) → (Nat → Nat → Int32) → Prop} (hG : tn_Gd ks ρ) (hΓ : tn_is Γ m_X6_putBack) (hK : tn_rt Γ m_X6_putBack K) (y1 : Int32) (y2 : Int32) (h : (((5 : Int32) ≤ y2 → (vp_in (((15 : Int32) * y1) + (10 : Int32)) 30 ∧ (∀ σ1, σ1 = tn_u σ 39 11 (σ 50 (((15 : Int32) * y1) + (10 : Int32)).toNatClampNeg) → (vp_in (((15 : Int32) * y1) + (11 : Int32)) 30 ∧ (∀ σ2, σ2 = tn_u σ1 39 12 (σ1 50 (((15 : Int32) * y1) + (11 : Int32)).toNatClampNeg) → (vp_in (((15 : Int32) * y1) + (12 : Int32)) 30 ∧ (∀ σ3, σ3 = tn_u σ2 39 8 (σ2 50 (((15 : Int32) * y1) + (12 : Int32)).toNatClampNeg) → (vp_in (((15 : Int32) * y1) + (13 : Int32)) 30 ∧ (∀ σ4, σ4 = tn_u σ3 39 9 (σ3 50 (((15 : Int32) * y1) + (13 : Int32)).toNatClampNeg) → (vp_in (((15 : Int32) * y1) + (14 : Int32)) 30 ∧ (∀ σ5, σ5 = tn_u σ4 39 10 (σ4 50 (((15 : Int32) * y1) + (14 : Int32)).toNatClampNeg) → K none ks ρ σ5))))))))))) ∧ (¬ (5 : Int32) ≤ y2 → (vp_in (((15 : Int32) * y1) + y2) 30 ∧ (vp_in y2 5 ∧ (∀ σ6, σ6 = tn_u σ 45 y2.toNatClampNeg (σ 50 (((15 : Int32) * y1) + y2).toNatClampNeg) → (vp_in ((((15 : Int32) * y1) + (5 : Int32)) + y2) 30 ∧ (∀ σ7, σ7 = tn_u σ6 46 y2.toNatClampNeg (σ6 50 ((((15 : Int32) * y1) + (5 : Int32)) + y2).toNatClampNeg) → (∀ x1 : Int32, x1 = y2 + (1 : Int32) → tn_A Γ 2 [.ref 39, .int y1, .int x1] [] 0 0 ks ρ σ7))))))))) : tn_A Γ 2 [.ref 39, .int y1, .int y2] [] 0 0 ks ρ σ := by
  refine tn_iload_n (pc := 2) hΓ d_X6_putBack_2 rfl ?_
  refine tn_iconst (pc := 3) hΓ d_X6_putBack_3 ic_5 ?_
  refine tn_icmp_ge (tgt := 49) (pc := 4) hΓ d_X6_putBack_4 (by decide) (fun hq => ?_) (fun hq => ?_)
  · have h := h.1 hq
    refine tn_aload_n (pc := 49) hΓ d_X6_putBack_49 rfl ?_
    refine tn_aload_n (pc := 50) hΓ d_X6_putBack_50 rfl ?_
    refine tn_getRy (y := 50) (pc := 51) hΓ d_X6_putBack_51 fl_6_40 rfl (gd_k hG (c := 39) rfl) (gd_r hG 39 24 50 rfl rfl) ?_
    refine tn_bipush (pc := 54) hΓ d_X6_putBack_54 bp_15 ?_
    refine tn_iload_n (pc := 56) hΓ d_X6_putBack_56 rfl ?_
    refine tn_imul (pc := 57) hΓ d_X6_putBack_57 ?_
    refine tn_bipush (pc := 58) hΓ d_X6_putBack_58 bp_10 ?_
    refine tn_iadd (pc := 60) hΓ d_X6_putBack_60 ?_
    obtain ⟨hi1, h⟩ := h
    refine tn_ald (pc := 61) hΓ d_X6_putBack_61 (gd_k hG (c := 50) rfl) hi1 ?_
    refine tn_putI (pc := 62) hΓ d_X6_putBack_62 fl_6_104 fk_6_6_11 rfl (gd_k hG (c := 39) rfl)  ?_
    refine tn_tops (fun σ1 eσ1 => ?_)
    have h := h σ1 eσ1
    refine tn_aload_n (pc := 65) hΓ d_X6_putBack_65 rfl ?_
    refine tn_aload_n (pc := 66) hΓ d_X6_putBack_66 rfl ?_
    refine tn_getRy (y := 50) (pc := 67) hΓ d_X6_putBack_67 fl_6_40 rfl (gd_k hG (c := 39) rfl) (gd_r hG 39 24 50 rfl rfl) ?_
    refine tn_bipush (pc := 70) hΓ d_X6_putBack_70 bp_15 ?_
    refine tn_iload_n (pc := 72) hΓ d_X6_putBack_72 rfl ?_
    refine tn_imul (pc := 73) hΓ d_X6_putBack_73 ?_
    refine tn_bipush (pc := 74) hΓ d_X6_putBack_74 bp_11 ?_
    refine tn_iadd (pc := 76) hΓ d_X6_putBack_76 ?_
    obtain ⟨hi2, h⟩ := h
    refine tn_ald (pc := 77) hΓ d_X6_putBack_77 (gd_k hG (c := 50) rfl) hi2 ?_
    refine tn_putI (pc := 78) hΓ d_X6_putBack_78 fl_6_107 fk_6_6_12 rfl (gd_k hG (c := 39) rfl)  ?_
    refine tn_tops (fun σ2 eσ2 => ?_)
    have h := h σ2 eσ2
    refine tn_aload_n (pc := 81) hΓ d_X6_putBack_81 rfl ?_
    refine tn_aload_n (pc := 82) hΓ d_X6_putBack_82 rfl ?_
    refine tn_getRy (y := 50) (pc := 83) hΓ d_X6_putBack_83 fl_6_40 rfl (gd_k hG (c := 39) rfl) (gd_r hG 39 24 50 rfl rfl) ?_
    refine tn_bipush (pc := 86) hΓ d_X6_putBack_86 bp_15 ?_
    refine tn_iload_n (pc := 88) hΓ d_X6_putBack_88 rfl ?_
    refine tn_imul (pc := 89) hΓ d_X6_putBack_89 ?_
    refine tn_bipush (pc := 90) hΓ d_X6_putBack_90 bp_12 ?_
    refine tn_iadd (pc := 92) hΓ d_X6_putBack_92 ?_
    obtain ⟨hi3, h⟩ := h
    refine tn_ald (pc := 93) hΓ d_X6_putBack_93 (gd_k hG (c := 50) rfl) hi3 ?_
    refine tn_putI (pc := 94) hΓ d_X6_putBack_94 fl_6_110 fk_6_6_8 rfl (gd_k hG (c := 39) rfl)  ?_
    refine tn_tops (fun σ3 eσ3 => ?_)
    have h := h σ3 eσ3
    refine tn_aload_n (pc := 97) hΓ d_X6_putBack_97 rfl ?_
    refine tn_aload_n (pc := 98) hΓ d_X6_putBack_98 rfl ?_
    refine tn_getRy (y := 50) (pc := 99) hΓ d_X6_putBack_99 fl_6_40 rfl (gd_k hG (c := 39) rfl) (gd_r hG 39 24 50 rfl rfl) ?_
    refine tn_bipush (pc := 102) hΓ d_X6_putBack_102 bp_15 ?_
    refine tn_iload_n (pc := 104) hΓ d_X6_putBack_104 rfl ?_
    refine tn_imul (pc := 105) hΓ d_X6_putBack_105 ?_
    refine tn_bipush (pc := 106) hΓ d_X6_putBack_106 bp_13 ?_
    refine tn_iadd (pc := 108) hΓ d_X6_putBack_108 ?_
    obtain ⟨hi4, h⟩ := h
    refine tn_ald (pc := 109) hΓ d_X6_putBack_109 (gd_k hG (c := 50) rfl) hi4 ?_
    refine tn_putI (pc := 110) hΓ d_X6_putBack_110 fl_6_113 fk_6_6_9 rfl (gd_k hG (c := 39) rfl)  ?_
    refine tn_tops (fun σ4 eσ4 => ?_)
    have h := h σ4 eσ4
    refine tn_aload_n (pc := 113) hΓ d_X6_putBack_113 rfl ?_
    refine tn_aload_n (pc := 114) hΓ d_X6_putBack_114 rfl ?_
    refine tn_getRy (y := 50) (pc := 115) hΓ d_X6_putBack_115 fl_6_40 rfl (gd_k hG (c := 39) rfl) (gd_r hG 39 24 50 rfl rfl) ?_
    refine tn_bipush (pc := 118) hΓ d_X6_putBack_118 bp_15 ?_
    refine tn_iload_n (pc := 120) hΓ d_X6_putBack_120 rfl ?_
    refine tn_imul (pc := 121) hΓ d_X6_putBack_121 ?_
    refine tn_bipush (pc := 122) hΓ d_X6_putBack_122 bp_14 ?_
    refine tn_iadd (pc := 124) hΓ d_X6_putBack_124 ?_
    obtain ⟨hi5, h⟩ := h
    refine tn_ald (pc := 125) hΓ d_X6_putBack_125 (gd_k hG (c := 50) rfl) hi5 ?_
    refine tn_putI (pc := 126) hΓ d_X6_putBack_126 fl_6_116 fk_6_6_10 rfl (gd_k hG (c := 39) rfl)  ?_
    refine tn_tops (fun σ5 eσ5 => ?_)
    have h := h σ5 eσ5
    exact tn_ret_v (pc := 129) hΓ hK d_X6_putBack_129 rfl (by decide) (by decide) h
  · have h := h.2 hq
    refine tn_aload_n (pc := 7) hΓ d_X6_putBack_7 rfl ?_
    refine tn_getRy (y := 45) (pc := 8) hΓ d_X6_putBack_8 fl_6_25 rfl (gd_k hG (c := 39) rfl) (gd_r hG 39 15 45 rfl rfl) ?_
    refine tn_iload_n (pc := 11) hΓ d_X6_putBack_11 rfl ?_
    refine tn_aload_n (pc := 12) hΓ d_X6_putBack_12 rfl ?_
    refine tn_getRy (y := 50) (pc := 13) hΓ d_X6_putBack_13 fl_6_40 rfl (gd_k hG (c := 39) rfl) (gd_r hG 39 24 50 rfl rfl) ?_
    refine tn_bipush (pc := 16) hΓ d_X6_putBack_16 bp_15 ?_
    refine tn_iload_n (pc := 18) hΓ d_X6_putBack_18 rfl ?_
    refine tn_imul (pc := 19) hΓ d_X6_putBack_19 ?_
    refine tn_iload_n (pc := 20) hΓ d_X6_putBack_20 rfl ?_
    refine tn_iadd (pc := 21) hΓ d_X6_putBack_21 ?_
    obtain ⟨hi6, h⟩ := h
    refine tn_ald (pc := 22) hΓ d_X6_putBack_22 (gd_k hG (c := 50) rfl) hi6 ?_
    obtain ⟨hi7, h⟩ := h
    refine tn_ast (pc := 23) hΓ d_X6_putBack_23 (gd_k hG (c := 45) rfl) hi7 ?_
    refine tn_tops (fun σ6 eσ6 => ?_)
    have h := h σ6 eσ6
    refine tn_aload_n (pc := 24) hΓ d_X6_putBack_24 rfl ?_
    refine tn_getRy (y := 46) (pc := 25) hΓ d_X6_putBack_25 fl_6_28 rfl (gd_k hG (c := 39) rfl) (gd_r hG 39 16 46 rfl rfl) ?_
    refine tn_iload_n (pc := 28) hΓ d_X6_putBack_28 rfl ?_
    refine tn_aload_n (pc := 29) hΓ d_X6_putBack_29 rfl ?_
    refine tn_getRy (y := 50) (pc := 30) hΓ d_X6_putBack_30 fl_6_40 rfl (gd_k hG (c := 39) rfl) (gd_r hG 39 24 50 rfl rfl) ?_
    refine tn_bipush (pc := 33) hΓ d_X6_putBack_33 bp_15 ?_
    refine tn_iload_n (pc := 35) hΓ d_X6_putBack_35 rfl ?_
    refine tn_imul (pc := 36) hΓ d_X6_putBack_36 ?_
    refine tn_iconst (pc := 37) hΓ d_X6_putBack_37 ic_5 ?_
    refine tn_iadd (pc := 38) hΓ d_X6_putBack_38 ?_
    refine tn_iload_n (pc := 39) hΓ d_X6_putBack_39 rfl ?_
    refine tn_iadd (pc := 40) hΓ d_X6_putBack_40 ?_
    obtain ⟨hi8, h⟩ := h
    refine tn_ald (pc := 41) hΓ d_X6_putBack_41 (gd_k hG (c := 50) rfl) hi8 ?_
    refine tn_ast (pc := 42) hΓ d_X6_putBack_42 (gd_k hG (c := 46) rfl) hi7 ?_
    refine tn_tops (fun σ7 eσ7 => ?_)
    have h := h σ7 eσ7
    refine tn_iincw (loc' := fun v_ => [.ref 39, .int y1, .int v_]) (pc := 43) hΓ d_X6_putBack_43 rfl ic_1 (by decide) rfl (fun _ => rfl) (fun x1 ex1 => ?_)
    have h := h x1 ex1
    refine tn_goto (tgt := 2) (pc := 46) hΓ d_X6_putBack_46 (by decide) ?_
    exact h
theorem k_X6_does_0 {Γ : tn_G} {ks : List (Nat × Nat)} {ρ : Nat → Nat → Nat} {σ : Nat → Nat → Int32} {K : Option Value → List (Nat × Nat) → (Nat → Nat → Nat) → (Nat → Nat → Int32) → Prop} (hG : tn_Gd ks ρ) (hΓ : tn_is Γ m_X6_does) (hK : tn_rt Γ m_X6_does K) (a0 : Int32) (h : ((¬ a0 = (14 : Int32) → ((a0 < (10 : Int32) → (((5 : Int32) ≤ a0 → (∀ x1 : Int32, x1 = (a0 - (5 : Int32)) → tn_CI m_X6_isHouse [.ref 39, .int x1] ks ρ σ (fun r1 σ1 => ((¬ r1 = 0 → (((5 : Int32) ≤ a0 → (vp_in x1 5 ∧ (∀ σ2, σ2 = tn_u σ1 45 x1.toNatClampNeg (9 : Int32) → K (some (.int (1 : Int32))) ks ρ σ2))) ∧ (¬ (5 : Int32) ≤ a0 → tn_CI m_X6_owns [.ref 39, .int x1] ks ρ σ1 (fun r2 σ3 => K (some (.int (1 : Int32))) ks ρ σ3)))) ∧ (r1 = 0 → K (some (.int (0 : Int32))) ks ρ σ1))))) ∧ (¬ (5 : Int32) ≤ a0 → tn_CI m_X6_isHouse [.ref 39, .int a0] ks ρ σ (fun r3 σ4 => ((¬ r3 = 0 → (((5 : Int32) ≤ a0 → (vp_in a0 5 ∧ (∀ σ5, σ5 = tn_u σ4 45 a0.toNatClampNeg (9 : Int32) → K (some (.int (1 : Int32))) ks ρ σ5))) ∧ (¬ (5 : Int32) ≤ a0 → tn_CI m_X6_owns [.ref 39, .int a0] ks ρ σ4 (fun r4 σ6 => K (some (.int (1 : Int32))) ks ρ σ6)))) ∧ (r3 = 0 → K (some (.int (0 : Int32))) ks ρ σ4)))))) ∧ (¬ a0 < (10 : Int32) → (∀ x2 : Int32, x2 = (a0 - (10 : Int32)) → tn_CI m_X6_isStone [.ref 39, .int x2] ks ρ σ (fun r5 σ7 => ((r5 = 0 → K (some (.int (0 : Int32))) ks ρ σ7) ∧ (¬ r5 = 0 → tn_CI m_X6_isOf [.int (σ7 39 12), .int x2] ks ρ σ7 (fun r6 σ8 => ((r6 = 0 → (∀ σ9, σ9 = tn_u σ8 39 12 ((σ8 39 12) ||| ((1 : Int32) <<< (x2 &&& 31))) → K (some (.int (1 : Int32))) ks ρ σ9)) ∧ (¬ r6 = 0 → K (some (.int (0 : Int32))) ks ρ σ8)))))))))) ∧ (a0 = (14 : Int32) → tn_CV m_X6_goesNight [.ref 39] ks ρ σ (fun σ10 => K (some (.int (1 : Int32))) ks ρ σ10)))) : tn_A Γ 0 [.ref 39, .int a0, .null] [] 0 0 ks ρ σ := by
  refine tn_iload_n (pc := 0) hΓ d_X6_does_0 rfl ?_
  refine tn_bipush (pc := 1) hΓ d_X6_does_1 bp_14 ?_
  refine tn_icmp_ne (tgt := 12) (pc := 3) hΓ d_X6_does_3 (by decide) (fun hq => ?_) (fun hq => ?_)
  · have h := h.1 hq
    refine tn_iload_n (pc := 12) hΓ d_X6_does_12 rfl ?_
    refine tn_bipush (pc := 13) hΓ d_X6_does_13 bp_10 ?_
    refine tn_icmp_lt (tgt := 58) (pc := 15) hΓ d_X6_does_15 (by decide) (fun hq => ?_) (fun hq => ?_)
    · have h := h.1 hq
      refine tn_iload_n (pc := 58) hΓ d_X6_does_58 rfl ?_
      refine tn_iconst (pc := 59) hΓ d_X6_does_59 ic_5 ?_
      refine tn_icmp_ge (tgt := 67) (pc := 60) hΓ d_X6_does_60 (by decide) (fun hq => ?_) (fun hq => ?_)
      · have h := h.1 hq
        refine tn_iload_n (pc := 67) hΓ d_X6_does_67 rfl ?_
        refine tn_iconst (pc := 68) hΓ d_X6_does_68 ic_5 ?_
        refine tn_isub (pc := 69) hΓ d_X6_does_69 ?_
        refine tn_topi (fun x1 ex1 => ?_)
        have h := h x1 ex1
        refine tn_istore_n (loc' := [.ref 39, .int a0, .int x1]) (pc := 70) hΓ d_X6_does_70 (by decide) rfl rfl ?_
        refine tn_aload_n (pc := 71) hΓ d_X6_does_71 rfl ?_
        refine tn_iload_n (pc := 72) hΓ d_X6_does_72 rfl ?_
        refine tn_cvI (As := [.int x1]) (st := []) (pc := 73) hΓ d_X6_does_73 mv_X6_isHouse im_X6_isHouse se_X6_isHouse ml_6_145 ⟨⟨by decide, by decide⟩, by decide, by decide⟩ rfl rfl rfl (by decide) ⟨_, rfl⟩ (gd_k hG (c := 39) rfl) (Nat.le_of_ble_eq_true rfl) rfl h (fun r1 σ1 h => ?_)
        refine tn_if_ne (tgt := 81) (pc := 76) hΓ d_X6_does_76 (by decide) (fun hq => ?_) (fun hq => ?_)
        · have h := h.1 hq
          refine tn_iload_n (pc := 81) hΓ d_X6_does_81 rfl ?_
          refine tn_iconst (pc := 82) hΓ d_X6_does_82 ic_5 ?_
          refine tn_icmp_ge (tgt := 95) (pc := 83) hΓ d_X6_does_83 (by decide) (fun hq => ?_) (fun hq => ?_)
          · have h := h.1 hq
            refine tn_aload_n (pc := 95) hΓ d_X6_does_95 rfl ?_
            refine tn_getRy (y := 45) (pc := 96) hΓ d_X6_does_96 fl_6_25 rfl (gd_k hG (c := 39) rfl) (gd_r hG 39 15 45 rfl rfl) ?_
            refine tn_iload_n (pc := 99) hΓ d_X6_does_99 rfl ?_
            refine tn_bipush (pc := 100) hΓ d_X6_does_100 bp_9 ?_
            obtain ⟨hi1, h⟩ := h
            refine tn_ast (pc := 102) hΓ d_X6_does_102 (gd_k hG (c := 45) rfl) hi1 ?_
            refine tn_tops (fun σ2 eσ2 => ?_)
            have h := h σ2 eσ2
            refine tn_iconst (pc := 103) hΓ d_X6_does_103 ic_1 ?_
            exact tn_ret_z (pc := 104) hΓ hK d_X6_does_104 rfl (by decide) (by decide) (Or.inr rfl) h
          · have h := h.2 hq
            refine tn_aload_n (pc := 86) hΓ d_X6_does_86 rfl ?_
            refine tn_iload_n (pc := 87) hΓ d_X6_does_87 rfl ?_
            refine tn_cvI (As := [.int x1]) (st := []) (pc := 88) hΓ d_X6_does_88 mv_X6_owns im_X6_owns se_X6_owns ml_6_155 ⟨⟨by decide, by decide⟩, by decide, by decide⟩ rfl rfl rfl (by decide) ⟨_, rfl⟩ (gd_k hG (c := 39) rfl) (Nat.le_of_ble_eq_true rfl) rfl h (fun r2 σ3 h => ?_)
            refine tn_popi (pc := 91) hΓ d_X6_does_91 ?_
            refine tn_goto (tgt := 103) (pc := 92) hΓ d_X6_does_92 (by decide) ?_
            refine tn_iconst (pc := 103) hΓ d_X6_does_103 ic_1 ?_
            exact tn_ret_z (pc := 104) hΓ hK d_X6_does_104 rfl (by decide) (by decide) (Or.inr rfl) h
        · have h := h.2 hq
          refine tn_iconst (pc := 79) hΓ d_X6_does_79 ic_0 ?_
          exact tn_ret_z (pc := 80) hΓ hK d_X6_does_80 rfl (by decide) (by decide) (Or.inl rfl) h
      · have h := h.2 hq
        refine tn_iload_n (pc := 63) hΓ d_X6_does_63 rfl ?_
        refine tn_goto (tgt := 70) (pc := 64) hΓ d_X6_does_64 (by decide) ?_
        refine tn_istore_n (loc' := [.ref 39, .int a0, .int a0]) (pc := 70) hΓ d_X6_does_70 (by decide) rfl rfl ?_
        refine tn_aload_n (pc := 71) hΓ d_X6_does_71 rfl ?_
        refine tn_iload_n (pc := 72) hΓ d_X6_does_72 rfl ?_
        refine tn_cvI (As := [.int a0]) (st := []) (pc := 73) hΓ d_X6_does_73 mv_X6_isHouse im_X6_isHouse se_X6_isHouse ml_6_145 ⟨⟨by decide, by decide⟩, by decide, by decide⟩ rfl rfl rfl (by decide) ⟨_, rfl⟩ (gd_k hG (c := 39) rfl) (Nat.le_of_ble_eq_true rfl) rfl h (fun r3 σ4 h => ?_)
        refine tn_if_ne (tgt := 81) (pc := 76) hΓ d_X6_does_76 (by decide) (fun hq => ?_) (fun hq => ?_)
        · have h := h.1 hq
          refine tn_iload_n (pc := 81) hΓ d_X6_does_81 rfl ?_
          refine tn_iconst (pc := 82) hΓ d_X6_does_82 ic_5 ?_
          refine tn_icmp_ge (tgt := 95) (pc := 83) hΓ d_X6_does_83 (by decide) (fun hq => ?_) (fun hq => ?_)
          · have h := h.1 hq
            refine tn_aload_n (pc := 95) hΓ d_X6_does_95 rfl ?_
            refine tn_getRy (y := 45) (pc := 96) hΓ d_X6_does_96 fl_6_25 rfl (gd_k hG (c := 39) rfl) (gd_r hG 39 15 45 rfl rfl) ?_
            refine tn_iload_n (pc := 99) hΓ d_X6_does_99 rfl ?_
            refine tn_bipush (pc := 100) hΓ d_X6_does_100 bp_9 ?_
            obtain ⟨hi2, h⟩ := h
            refine tn_ast (pc := 102) hΓ d_X6_does_102 (gd_k hG (c := 45) rfl) hi2 ?_
            refine tn_tops (fun σ5 eσ5 => ?_)
            have h := h σ5 eσ5
            refine tn_iconst (pc := 103) hΓ d_X6_does_103 ic_1 ?_
            exact tn_ret_z (pc := 104) hΓ hK d_X6_does_104 rfl (by decide) (by decide) (Or.inr rfl) h
          · have h := h.2 hq
            refine tn_aload_n (pc := 86) hΓ d_X6_does_86 rfl ?_
            refine tn_iload_n (pc := 87) hΓ d_X6_does_87 rfl ?_
            refine tn_cvI (As := [.int a0]) (st := []) (pc := 88) hΓ d_X6_does_88 mv_X6_owns im_X6_owns se_X6_owns ml_6_155 ⟨⟨by decide, by decide⟩, by decide, by decide⟩ rfl rfl rfl (by decide) ⟨_, rfl⟩ (gd_k hG (c := 39) rfl) (Nat.le_of_ble_eq_true rfl) rfl h (fun r4 σ6 h => ?_)
            refine tn_popi (pc := 91) hΓ d_X6_does_91 ?_
            refine tn_goto (tgt := 103) (pc := 92) hΓ d_X6_does_92 (by decide) ?_
            refine tn_iconst (pc := 103) hΓ d_X6_does_103 ic_1 ?_
            exact tn_ret_z (pc := 104) hΓ hK d_X6_does_104 rfl (by decide) (by decide) (Or.inr rfl) h
        · have h := h.2 hq
          refine tn_iconst (pc := 79) hΓ d_X6_does_79 ic_0 ?_
          exact tn_ret_z (pc := 80) hΓ hK d_X6_does_80 rfl (by decide) (by decide) (Or.inl rfl) h
    · have h := h.2 hq
      refine tn_iload_n (pc := 18) hΓ d_X6_does_18 rfl ?_
      refine tn_bipush (pc := 19) hΓ d_X6_does_19 bp_10 ?_
      refine tn_isub (pc := 21) hΓ d_X6_does_21 ?_
      refine tn_topi (fun x2 ex2 => ?_)
      have h := h x2 ex2
      refine tn_istore_n (loc' := [.ref 39, .int a0, .int x2]) (pc := 22) hΓ d_X6_does_22 (by decide) rfl rfl ?_
      refine tn_aload_n (pc := 23) hΓ d_X6_does_23 rfl ?_
      refine tn_iload_n (pc := 24) hΓ d_X6_does_24 rfl ?_
      refine tn_cvI (As := [.int x2]) (st := []) (pc := 25) hΓ d_X6_does_25 mv_X6_isStone im_X6_isStone se_X6_isStone ml_6_148 ⟨⟨by decide, by decide⟩, by decide, by decide⟩ rfl rfl rfl (by decide) ⟨_, rfl⟩ (gd_k hG (c := 39) rfl) (Nat.le_of_ble_eq_true rfl) rfl h (fun r5 σ7 h => ?_)
      refine tn_if_eq (tgt := 42) (pc := 28) hΓ d_X6_does_28 (by decide) (fun hq => ?_) (fun hq => ?_)
      · have h := h.1 hq
        refine tn_iconst (pc := 42) hΓ d_X6_does_42 ic_0 ?_
        exact tn_ret_z (pc := 43) hΓ hK d_X6_does_43 rfl (by decide) (by decide) (Or.inl rfl) h
      · have h := h.2 hq
        refine tn_aload_n (pc := 31) hΓ d_X6_does_31 rfl ?_
        refine tn_getI (pc := 32) hΓ d_X6_does_32 fl_6_107 rfl (gd_k hG (c := 39) rfl) ?_
        refine tn_iload_n (pc := 35) hΓ d_X6_does_35 rfl ?_
        refine tn_csI (As := [.int (σ7 39 12), .int x2]) (st := []) (pc := 36) hΓ d_X6_does_36 mv_X6_isOf st_X6_isOf ml_6_136 ⟨⟨by decide, by decide⟩, by decide, by decide⟩ rfl rfl rfl (Nat.le_of_ble_eq_true rfl) rfl h (fun r6 σ8 h => ?_)
        refine tn_if_eq (tgt := 44) (pc := 39) hΓ d_X6_does_39 (by decide) (fun hq => ?_) (fun hq => ?_)
        · have h := h.1 hq
          refine tn_aload_n (pc := 44) hΓ d_X6_does_44 rfl ?_
          refine tn_dupr (pc := 45) hΓ d_X6_does_45 ?_
          refine tn_getI (pc := 46) hΓ d_X6_does_46 fl_6_107 rfl (gd_k hG (c := 39) rfl) ?_
          refine tn_iconst (pc := 49) hΓ d_X6_does_49 ic_1 ?_
          refine tn_iload_n (pc := 50) hΓ d_X6_does_50 rfl ?_
          refine tn_ishl (pc := 51) hΓ d_X6_does_51 ?_
          refine tn_ior (pc := 52) hΓ d_X6_does_52 ?_
          refine tn_putI (pc := 53) hΓ d_X6_does_53 fl_6_107 fk_6_6_12 rfl (gd_k hG (c := 39) rfl)  ?_
          refine tn_tops (fun σ9 eσ9 => ?_)
          have h := h σ9 eσ9
          refine tn_iconst (pc := 56) hΓ d_X6_does_56 ic_1 ?_
          exact tn_ret_z (pc := 57) hΓ hK d_X6_does_57 rfl (by decide) (by decide) (Or.inr rfl) h
        · have h := h.2 hq
          refine tn_iconst (pc := 42) hΓ d_X6_does_42 ic_0 ?_
          exact tn_ret_z (pc := 43) hΓ hK d_X6_does_43 rfl (by decide) (by decide) (Or.inl rfl) h
  · have h := h.2 hq
    refine tn_aload_n (pc := 6) hΓ d_X6_does_6 rfl ?_
    refine tn_cvV (As := []) (st := []) (pc := 7) hΓ d_X6_does_7 mv_X6_goesNight im_X6_goesNight se_X6_goesNight ml_6_164 ⟨⟨by decide, by decide⟩, by decide, by decide⟩ rfl rfl rfl (by decide) ⟨_, rfl⟩ (gd_k hG (c := 39) rfl) (Nat.le_of_ble_eq_true rfl) rfl h (fun σ10 h => ?_)
    refine tn_iconst (pc := 10) hΓ d_X6_does_10 ic_1 ?_
    exact tn_ret_z (pc := 11) hΓ hK d_X6_does_11 rfl (by decide) (by decide) (Or.inr rfl) h
theorem k_X6_goDay_0 {Γ : tn_G} {ks : List (Nat × Nat)} {ρ : Nat → Nat → Nat} {σ : Nat → Nat → Int32} {K : Option Value → List (Nat × Nat) → (Nat → Nat → Nat) → (Nat → Nat → Int32) → Prop} (hG : tn_Gd ks ρ) (hΓ : tn_is Γ m_X6_goDay) (hK : tn_rt Γ m_X6_goDay K) (a0 : Int32) (a1 : Int32) (h : tn_A Γ 2 [.ref 39, .int a0, .int a1, .int (0 : Int32)] [] 0 0 ks ρ σ) : tn_A Γ 0 [.ref 39, .int a0, .int a1, .null] [] 0 0 ks ρ σ := by
  refine tn_iconst (pc := 0) hΓ d_X6_goDay_0 ic_0 ?_
  refine tn_istore_n (loc' := [.ref 39, .int a0, .int a1, .int (0 : Int32)]) (pc := 1) hΓ d_X6_goDay_1 (by decide) rfl rfl ?_
  exact h
theorem k_X6_goDay_2 {Γ : tn_G} {ks : List (Nat × Nat)} {ρ : Nat → Nat → Nat} {σ : Nat → Nat → Int32} {K : Option Value → List (Nat × Nat) → (Nat → Nat → Nat) → (Nat → Nat → Int32) → Prop} (hG : tn_Gd ks ρ) (hΓ : tn_is Γ m_X6_goDay) (hK : tn_rt Γ m_X6_goDay K) (y1 : Int32) (y2 : Int32) (y3 : Int32) (h : ((y2 ≤ y3 → K (some (.int (-9 : Int32))) ks ρ σ) ∧ (¬ y2 ≤ y3 → (vp_in (y1 + y3) 240 ∧ tn_CI m_X6_does [.ref 39, .int (σ 42 (y1 + y3).toNatClampNeg)] ks ρ σ (fun r1 σ1 => ((¬ r1 = 0 → (∀ x1 : Int32, x1 = y3 + (1 : Int32) → tn_A Γ 2 [.ref 39, .int y1, .int y2, .int x1] [] 0 0 ks ρ σ1)) ∧ (r1 = 0 → K (some (.int y3)) ks ρ σ1))))))) : tn_A Γ 2 [.ref 39, .int y1, .int y2, .int y3] [] 0 0 ks ρ σ := by
  refine tn_iload_n (pc := 2) hΓ d_X6_goDay_2 rfl ?_
  refine tn_iload_n (pc := 3) hΓ d_X6_goDay_3 rfl ?_
  refine tn_icmp_ge (tgt := 30) (pc := 4) hΓ d_X6_goDay_4 (by decide) (fun hq => ?_) (fun hq => ?_)
  · have h := h.1 hq
    refine tn_bipush (pc := 30) hΓ d_X6_goDay_30 bp_m9 ?_
    exact tn_ret_i (pc := 32) hΓ hK d_X6_goDay_32 rfl (by decide) (by decide) h
  · have h := h.2 hq
    refine tn_aload_n (pc := 7) hΓ d_X6_goDay_7 rfl ?_
    refine tn_aload_n (pc := 8) hΓ d_X6_goDay_8 rfl ?_
    refine tn_getRy (y := 42) (pc := 9) hΓ d_X6_goDay_9 fl_6_16 rfl (gd_k hG (c := 39) rfl) (gd_r hG 39 4 42 rfl rfl) ?_
    refine tn_iload_n (pc := 12) hΓ d_X6_goDay_12 rfl ?_
    refine tn_iload_n (pc := 13) hΓ d_X6_goDay_13 rfl ?_
    refine tn_iadd (pc := 14) hΓ d_X6_goDay_14 ?_
    obtain ⟨hi1, h⟩ := h
    refine tn_ald (pc := 15) hΓ d_X6_goDay_15 (gd_k hG (c := 42) rfl) hi1 ?_
    refine tn_cvI (As := [.int (σ 42 (y1 + y3).toNatClampNeg)]) (st := []) (pc := 16) hΓ d_X6_goDay_16 mv_X6_does im_X6_does se_X6_does ml_6_167 ⟨⟨by decide, by decide⟩, by decide, by decide⟩ rfl rfl rfl (by decide) ⟨_, rfl⟩ (gd_k hG (c := 39) rfl) (Nat.le_of_ble_eq_true rfl) rfl h (fun r1 σ1 h => ?_)
    refine tn_if_ne (tgt := 24) (pc := 19) hΓ d_X6_goDay_19 (by decide) (fun hq => ?_) (fun hq => ?_)
    · have h := h.1 hq
      refine tn_iincw (loc' := fun v_ => [.ref 39, .int y1, .int y2, .int v_]) (pc := 24) hΓ d_X6_goDay_24 rfl ic_1 (by decide) rfl (fun _ => rfl) (fun x1 ex1 => ?_)
      have h := h x1 ex1
      refine tn_goto (tgt := 2) (pc := 27) hΓ d_X6_goDay_27 (by decide) ?_
      exact h
    · have h := h.2 hq
      refine tn_iload_n (pc := 22) hΓ d_X6_goDay_22 rfl ?_
      exact tn_ret_i (pc := 23) hΓ hK d_X6_goDay_23 rfl (by decide) (by decide) h
theorem k_X6_day_0 {Γ : tn_G} {ks : List (Nat × Nat)} {ρ : Nat → Nat → Nat} {σ : Nat → Nat → Int32} {K : Option Value → List (Nat × Nat) → (Nat → Nat → Nat) → (Nat → Nat → Int32) → Prop} (hG : tn_Gd ks ρ) (hΓ : tn_is Γ m_X6_day) (hK : tn_rt Γ m_X6_day K) (a0 : Int32) (a1 : Int32) (a2 : Int32) (a3 : Int32) (a4 : Int32) (h : (∀ σ1, σ1 = tn_u σ 39 0 (0 : Int32) → tn_CI m_X6_isSheet [.int a0] ks ρ σ1 (fun r1 σ2 => ((¬ r1 = 0 → tn_CI m_X6_isSort [.int a1] ks ρ σ2 (fun r2 σ3 => ((r2 = 0 → K (some (.int (-2 : Int32))) ks ρ σ3) ∧ (¬ r2 = 0 → tn_CI m_X6_within [.int a3, .int (0 : Int32), .int (20 : Int32)] ks ρ σ3 (fun r3 σ4 => ((r3 = 0 → K (some (.int (-2 : Int32))) ks ρ σ4) ∧ (¬ r3 = 0 → tn_CI m_X6_within [.int a4, .int (0 : Int32), .int (4 : Int32)] ks ρ σ4 (fun r4 σ5 => ((¬ r4 = 0 → tn_CI m_X6_against [.ref 39, .int a0, .int a1, .int a2, .int a3] ks ρ σ5 (fun r5 σ6 => ((r5 = 0 → ((¬ (σ6 39 5) = 0 → (∀ x1 : Int32, x1 = (((60 : Int32) * a0) + a2) → tn_A Γ 101 [.ref 39, .null, .null, .null, .int a3, .int a4, .null, .int x1, .int (0 : Int32), .null, .null] [] 0 0 ks ρ σ6)) ∧ ((σ6 39 5) = 0 → K (some (.int (-3 : Int32))) ks ρ σ6))) ∧ (¬ r5 = 0 → tn_CI m_X6_fails [.ref 39, .int r5] ks ρ σ6 (fun r6 σ7 => K (some (.int r6)) ks ρ σ7))))) ∧ (r4 = 0 → tn_CI m_X6_within [.int a4, .int (10 : Int32), .int (14 : Int32)] ks ρ σ5 (fun r7 σ8 => ((¬ r7 = 0 → tn_CI m_X6_against [.ref 39, .int a0, .int a1, .int a2, .int a3] ks ρ σ8 (fun r8 σ9 => ((r8 = 0 → ((¬ (σ9 39 5) = 0 → (∀ x2 : Int32, x2 = (((60 : Int32) * a0) + a2) → tn_A Γ 101 [.ref 39, .null, .null, .null, .int a3, .int a4, .null, .int x2, .int (0 : Int32), .null, .null] [] 0 0 ks ρ σ9)) ∧ ((σ9 39 5) = 0 → K (some (.int (-3 : Int32))) ks ρ σ9))) ∧ (¬ r8 = 0 → tn_CI m_X6_fails [.ref 39, .int r8] ks ρ σ9 (fun r9 σ10 => K (some (.int r9)) ks ρ σ10))))) ∧ (r7 = 0 → K (some (.int (-2 : Int32))) ks ρ σ8))))))))))))) ∧ (r1 = 0 → K (some (.int (-1 : Int32))) ks ρ σ2))))) : tn_A Γ 0 [.ref 39, .int a0, .int a1, .int a2, .int a3, .int a4, .null, .null, .null, .null, .null] [] 0 0 ks ρ σ := by
  refine tn_aload_n (pc := 0) hΓ d_X6_day_0 rfl ?_
  refine tn_iconst (pc := 1) hΓ d_X6_day_1 ic_0 ?_
  refine tn_putI (pc := 2) hΓ d_X6_day_2 fl_6_52 fk_6_6_0 rfl (gd_k hG (c := 39) rfl)  ?_
  refine tn_tops (fun σ1 eσ1 => ?_)
  have h := h σ1 eσ1
  refine tn_iload_n (pc := 5) hΓ d_X6_day_5 rfl ?_
  refine tn_csI (As := [.int a0]) (st := []) (pc := 6) hΓ d_X6_day_6 mv_X6_isSheet st_X6_isSheet ml_6_71 ⟨⟨by decide, by decide⟩, by decide, by decide⟩ rfl rfl rfl (Nat.le_of_ble_eq_true rfl) rfl h (fun r1 σ2 h => ?_)
  refine tn_if_ne (tgt := 14) (pc := 9) hΓ d_X6_day_9 (by decide) (fun hq => ?_) (fun hq => ?_)
  · have h := h.1 hq
    refine tn_iload_n (pc := 14) hΓ d_X6_day_14 rfl ?_
    refine tn_csI (As := [.int a1]) (st := []) (pc := 15) hΓ d_X6_day_15 mv_X6_isSort st_X6_isSort ml_6_75 ⟨⟨by decide, by decide⟩, by decide, by decide⟩ rfl rfl rfl (Nat.le_of_ble_eq_true rfl) rfl h (fun r2 σ3 h => ?_)
    refine tn_if_eq (tgt := 54) (pc := 18) hΓ d_X6_day_18 (by decide) (fun hq => ?_) (fun hq => ?_)
    · have h := h.1 hq
      refine tn_bipush (pc := 54) hΓ d_X6_day_54 bp_m2 ?_
      exact tn_ret_i (pc := 56) hΓ hK d_X6_day_56 rfl (by decide) (by decide) h
    · have h := h.2 hq
      refine tn_iload (pc := 21) hΓ d_X6_day_21 rfl ?_
      refine tn_iconst (pc := 23) hΓ d_X6_day_23 ic_0 ?_
      refine tn_bipush (pc := 24) hΓ d_X6_day_24 bp_20 ?_
      refine tn_csI (As := [.int a3, .int (0 : Int32), .int (20 : Int32)]) (st := []) (pc := 26) hΓ d_X6_day_26 mv_X6_within st_X6_within ml_6_58 ⟨⟨by decide, by decide⟩, by decide, by decide⟩ rfl rfl rfl (Nat.le_of_ble_eq_true rfl) rfl h (fun r3 σ4 h => ?_)
      refine tn_if_eq (tgt := 54) (pc := 29) hΓ d_X6_day_29 (by decide) (fun hq => ?_) (fun hq => ?_)
      · have h := h.1 hq
        refine tn_bipush (pc := 54) hΓ d_X6_day_54 bp_m2 ?_
        exact tn_ret_i (pc := 56) hΓ hK d_X6_day_56 rfl (by decide) (by decide) h
      · have h := h.2 hq
        refine tn_iload (pc := 32) hΓ d_X6_day_32 rfl ?_
        refine tn_iconst (pc := 34) hΓ d_X6_day_34 ic_0 ?_
        refine tn_iconst (pc := 35) hΓ d_X6_day_35 ic_4 ?_
        refine tn_csI (As := [.int a4, .int (0 : Int32), .int (4 : Int32)]) (st := []) (pc := 36) hΓ d_X6_day_36 mv_X6_within st_X6_within ml_6_58 ⟨⟨by decide, by decide⟩, by decide, by decide⟩ rfl rfl rfl (Nat.le_of_ble_eq_true rfl) rfl h (fun r4 σ5 h => ?_)
        refine tn_if_ne (tgt := 57) (pc := 39) hΓ d_X6_day_39 (by decide) (fun hq => ?_) (fun hq => ?_)
        · have h := h.1 hq
          refine tn_aload_n (pc := 57) hΓ d_X6_day_57 rfl ?_
          refine tn_iload_n (pc := 58) hΓ d_X6_day_58 rfl ?_
          refine tn_iload_n (pc := 59) hΓ d_X6_day_59 rfl ?_
          refine tn_iload_n (pc := 60) hΓ d_X6_day_60 rfl ?_
          refine tn_iload (pc := 61) hΓ d_X6_day_61 rfl ?_
          refine tn_cvI (As := [.int a0, .int a1, .int a2, .int a3]) (st := []) (pc := 63) hΓ d_X6_day_63 mv_X6_against im_X6_against se_X6_against ml_6_78 ⟨⟨by decide, by decide⟩, by decide, by decide⟩ rfl rfl rfl (by decide) ⟨_, rfl⟩ (gd_k hG (c := 39) rfl) (Nat.le_of_ble_eq_true rfl) rfl h (fun r5 σ6 h => ?_)
          refine tn_istore (loc' := [.ref 39, .int a0, .int a1, .int a2, .int a3, .int a4, .int r5, .null, .null, .null, .null]) (pc := 66) hΓ d_X6_day_66 (by decide) rfl rfl ?_
          refine tn_iload (pc := 68) hΓ d_X6_day_68 rfl ?_
          refine tn_if_eq (tgt := 80) (pc := 70) hΓ d_X6_day_70 (by decide) (fun hq => ?_) (fun hq => ?_)
          · have h := h.1 hq
            refine tn_aload_n (pc := 80) hΓ d_X6_day_80 rfl ?_
            refine tn_getI (pc := 81) hΓ d_X6_day_81 fl_6_62 rfl (gd_k hG (c := 39) rfl) ?_
            refine tn_if_ne (tgt := 90) (pc := 84) hΓ d_X6_day_84 (by decide) (fun hq => ?_) (fun hq => ?_)
            · have h := h.1 hq
              refine tn_bipush (pc := 90) hΓ d_X6_day_90 bp_60 ?_
              refine tn_iload_n (pc := 92) hΓ d_X6_day_92 rfl ?_
              refine tn_imul (pc := 93) hΓ d_X6_day_93 ?_
              refine tn_iload_n (pc := 94) hΓ d_X6_day_94 rfl ?_
              refine tn_iadd (pc := 95) hΓ d_X6_day_95 ?_
              refine tn_topi (fun x1 ex1 => ?_)
              have h := h x1 ex1
              refine tn_istore (loc' := [.ref 39, .int a0, .int a1, .int a2, .int a3, .int a4, .int r5, .int x1, .null, .null, .null]) (pc := 96) hΓ d_X6_day_96 (by decide) rfl rfl ?_
              refine tn_iconst (pc := 98) hΓ d_X6_day_98 ic_0 ?_
              refine tn_istore (loc' := [.ref 39, .int a0, .int a1, .int a2, .int a3, .int a4, .int r5, .int x1, .int (0 : Int32), .null, .null]) (pc := 99) hΓ d_X6_day_99 (by decide) rfl rfl ?_
              refine tn_drop [true, false, false, false, true, true, false, true, true, false, false] (loc' := [.ref 39, .null, .null, .null, .int a3, .int a4, .null, .int x1, .int (0 : Int32), .null, .null]) rfl ?_
              exact h
            · have h := h.2 hq
              refine tn_bipush (pc := 87) hΓ d_X6_day_87 bp_m3 ?_
              exact tn_ret_i (pc := 89) hΓ hK d_X6_day_89 rfl (by decide) (by decide) h
          · have h := h.2 hq
            refine tn_aload_n (pc := 73) hΓ d_X6_day_73 rfl ?_
            refine tn_iload (pc := 74) hΓ d_X6_day_74 rfl ?_
            refine tn_cvI (As := [.int r5]) (st := []) (pc := 76) hΓ d_X6_day_76 mv_X6_fails im_X6_fails se_X6_fails ml_6_82 ⟨⟨by decide, by decide⟩, by decide, by decide⟩ rfl rfl rfl (by decide) ⟨_, rfl⟩ (gd_k hG (c := 39) rfl) (Nat.le_of_ble_eq_true rfl) rfl h (fun r6 σ7 h => ?_)
            exact tn_ret_i (pc := 79) hΓ hK d_X6_day_79 rfl (by decide) (by decide) h
        · have h := h.2 hq
          refine tn_iload (pc := 42) hΓ d_X6_day_42 rfl ?_
          refine tn_bipush (pc := 44) hΓ d_X6_day_44 bp_10 ?_
          refine tn_bipush (pc := 46) hΓ d_X6_day_46 bp_14 ?_
          refine tn_csI (As := [.int a4, .int (10 : Int32), .int (14 : Int32)]) (st := []) (pc := 48) hΓ d_X6_day_48 mv_X6_within st_X6_within ml_6_58 ⟨⟨by decide, by decide⟩, by decide, by decide⟩ rfl rfl rfl (Nat.le_of_ble_eq_true rfl) rfl h (fun r7 σ8 h => ?_)
          refine tn_if_ne (tgt := 57) (pc := 51) hΓ d_X6_day_51 (by decide) (fun hq => ?_) (fun hq => ?_)
          · have h := h.1 hq
            refine tn_aload_n (pc := 57) hΓ d_X6_day_57 rfl ?_
            refine tn_iload_n (pc := 58) hΓ d_X6_day_58 rfl ?_
            refine tn_iload_n (pc := 59) hΓ d_X6_day_59 rfl ?_
            refine tn_iload_n (pc := 60) hΓ d_X6_day_60 rfl ?_
            refine tn_iload (pc := 61) hΓ d_X6_day_61 rfl ?_
            refine tn_cvI (As := [.int a0, .int a1, .int a2, .int a3]) (st := []) (pc := 63) hΓ d_X6_day_63 mv_X6_against im_X6_against se_X6_against ml_6_78 ⟨⟨by decide, by decide⟩, by decide, by decide⟩ rfl rfl rfl (by decide) ⟨_, rfl⟩ (gd_k hG (c := 39) rfl) (Nat.le_of_ble_eq_true rfl) rfl h (fun r8 σ9 h => ?_)
            refine tn_istore (loc' := [.ref 39, .int a0, .int a1, .int a2, .int a3, .int a4, .int r8, .null, .null, .null, .null]) (pc := 66) hΓ d_X6_day_66 (by decide) rfl rfl ?_
            refine tn_iload (pc := 68) hΓ d_X6_day_68 rfl ?_
            refine tn_if_eq (tgt := 80) (pc := 70) hΓ d_X6_day_70 (by decide) (fun hq => ?_) (fun hq => ?_)
            · have h := h.1 hq
              refine tn_aload_n (pc := 80) hΓ d_X6_day_80 rfl ?_
              refine tn_getI (pc := 81) hΓ d_X6_day_81 fl_6_62 rfl (gd_k hG (c := 39) rfl) ?_
              refine tn_if_ne (tgt := 90) (pc := 84) hΓ d_X6_day_84 (by decide) (fun hq => ?_) (fun hq => ?_)
              · have h := h.1 hq
                refine tn_bipush (pc := 90) hΓ d_X6_day_90 bp_60 ?_
                refine tn_iload_n (pc := 92) hΓ d_X6_day_92 rfl ?_
                refine tn_imul (pc := 93) hΓ d_X6_day_93 ?_
                refine tn_iload_n (pc := 94) hΓ d_X6_day_94 rfl ?_
                refine tn_iadd (pc := 95) hΓ d_X6_day_95 ?_
                refine tn_topi (fun x2 ex2 => ?_)
                have h := h x2 ex2
                refine tn_istore (loc' := [.ref 39, .int a0, .int a1, .int a2, .int a3, .int a4, .int r8, .int x2, .null, .null, .null]) (pc := 96) hΓ d_X6_day_96 (by decide) rfl rfl ?_
                refine tn_iconst (pc := 98) hΓ d_X6_day_98 ic_0 ?_
                refine tn_istore (loc' := [.ref 39, .int a0, .int a1, .int a2, .int a3, .int a4, .int r8, .int x2, .int (0 : Int32), .null, .null]) (pc := 99) hΓ d_X6_day_99 (by decide) rfl rfl ?_
                refine tn_drop [true, false, false, false, true, true, false, true, true, false, false] (loc' := [.ref 39, .null, .null, .null, .int a3, .int a4, .null, .int x2, .int (0 : Int32), .null, .null]) rfl ?_
                exact h
              · have h := h.2 hq
                refine tn_bipush (pc := 87) hΓ d_X6_day_87 bp_m3 ?_
                exact tn_ret_i (pc := 89) hΓ hK d_X6_day_89 rfl (by decide) (by decide) h
            · have h := h.2 hq
              refine tn_aload_n (pc := 73) hΓ d_X6_day_73 rfl ?_
              refine tn_iload (pc := 74) hΓ d_X6_day_74 rfl ?_
              refine tn_cvI (As := [.int r8]) (st := []) (pc := 76) hΓ d_X6_day_76 mv_X6_fails im_X6_fails se_X6_fails ml_6_82 ⟨⟨by decide, by decide⟩, by decide, by decide⟩ rfl rfl rfl (by decide) ⟨_, rfl⟩ (gd_k hG (c := 39) rfl) (Nat.le_of_ble_eq_true rfl) rfl h (fun r9 σ10 h => ?_)
              exact tn_ret_i (pc := 79) hΓ hK d_X6_day_79 rfl (by decide) (by decide) h
          · have h := h.2 hq
            refine tn_bipush (pc := 54) hΓ d_X6_day_54 bp_m2 ?_
            exact tn_ret_i (pc := 56) hΓ hK d_X6_day_56 rfl (by decide) (by decide) h
  · have h := h.2 hq
    refine tn_iconst (pc := 12) hΓ d_X6_day_12 ic_m1 ?_
    exact tn_ret_i (pc := 13) hΓ hK d_X6_day_13 rfl (by decide) (by decide) h
theorem k_X6_day_101 {Γ : tn_G} {ks : List (Nat × Nat)} {ρ : Nat → Nat → Nat} {σ : Nat → Nat → Int32} {K : Option Value → List (Nat × Nat) → (Nat → Nat → Nat) → (Nat → Nat → Int32) → Prop} (hG : tn_Gd ks ρ) (hΓ : tn_is Γ m_X6_day) (hK : tn_rt Γ m_X6_day K) (y4 : Int32) (y5 : Int32) (y7 : Int32) (y8 : Int32) (h : ((y4 ≤ y8 → tn_CV m_X6_keep [.ref 39, .int (0 : Int32)] ks ρ σ (fun σ1 => (∀ x1 : Int32, x1 = (σ1 39 10) → tn_CI m_X6_goDay [.ref 39, .int y7, .int y4] ks ρ σ1 (fun r1 σ2 => tn_CI m_X6_tellDay [.ref 39, .int y5, .int x1] ks ρ σ2 (fun r2 σ3 => tn_CV m_X6_putBack [.ref 39, .int (0 : Int32)] ks ρ σ3 (fun σ4 => ((¬ y5 = (1 : Int32) → ((¬ r1 = (-9 : Int32) → K (some (.int ((-100 : Int32) - r1))) ks ρ σ4) ∧ (r1 = (-9 : Int32) → K (some (.int r2)) ks ρ σ4))) ∧ (y5 = (1 : Int32) → K (some (.int r1)) ks ρ σ4)))))))) ∧ (¬ y4 ≤ y8 → (vp_in (y7 + y8) 240 ∧ tn_CI m_X6_within [.int (σ 42 (y7 + y8).toNatClampNeg), .int (0 : Int32), .int (14 : Int32)] ks ρ σ (fun r3 σ5 => ((¬ r3 = 0 → (∀ x2 : Int32, x2 = y8 + (1 : Int32) → tn_A Γ 101 [.ref 39, .null, .null, .null, .int y4, .int y5, .null, .int y7, .int x2, .null, .null] [] 0 0 ks ρ σ5)) ∧ (r3 = 0 → K (some (.int (-2 : Int32))) ks ρ σ5))))))) : tn_A Γ 101 [.ref 39, .null, .null, .null, .int y4, .int y5, .null, .int y7, .int y8, .null, .null] [] 0 0 ks ρ σ := by
  refine tn_iload (pc := 101) hΓ d_X6_day_101 rfl ?_
  refine tn_iload (pc := 103) hΓ d_X6_day_103 rfl ?_
  refine tn_icmp_ge (tgt := 136) (pc := 105) hΓ d_X6_day_105 (by decide) (fun hq => ?_) (fun hq => ?_)
  · have h := h.1 hq
    refine tn_aload_n (pc := 136) hΓ d_X6_day_136 rfl ?_
    refine tn_iconst (pc := 137) hΓ d_X6_day_137 ic_0 ?_
    refine tn_cvV (As := [.int (0 : Int32)]) (st := []) (pc := 138) hΓ d_X6_day_138 mv_X6_keep im_X6_keep se_X6_keep ml_6_170 ⟨⟨by decide, by decide⟩, by decide, by decide⟩ rfl rfl rfl (by decide) ⟨_, rfl⟩ (gd_k hG (c := 39) rfl) (Nat.le_of_ble_eq_true rfl) rfl h (fun σ1 h => ?_)
    refine tn_aload_n (pc := 141) hΓ d_X6_day_141 rfl ?_
    refine tn_getI (pc := 142) hΓ d_X6_day_142 fl_6_116 rfl (gd_k hG (c := 39) rfl) ?_
    refine tn_topi (fun x1 ex1 => ?_)
    have h := h x1 ex1
    refine tn_istore (loc' := [.ref 39, .null, .null, .null, .int y4, .int y5, .null, .int y7, .int x1, .null, .null]) (pc := 145) hΓ d_X6_day_145 (by decide) rfl rfl ?_
    refine tn_aload_n (pc := 147) hΓ d_X6_day_147 rfl ?_
    refine tn_iload (pc := 148) hΓ d_X6_day_148 rfl ?_
    refine tn_iload (pc := 150) hΓ d_X6_day_150 rfl ?_
    refine tn_cvI (As := [.int y7, .int y4]) (st := []) (pc := 152) hΓ d_X6_day_152 mv_X6_goDay im_X6_goDay se_X6_goDay ml_6_174 ⟨⟨by decide, by decide⟩, by decide, by decide⟩ rfl rfl rfl (by decide) ⟨_, rfl⟩ (gd_k hG (c := 39) rfl) (Nat.le_of_ble_eq_true rfl) rfl h (fun r1 σ2 h => ?_)
    refine tn_istore (loc' := [.ref 39, .null, .null, .null, .int y4, .int y5, .null, .int y7, .int x1, .int r1, .null]) (pc := 155) hΓ d_X6_day_155 (by decide) rfl rfl ?_
    refine tn_aload_n (pc := 157) hΓ d_X6_day_157 rfl ?_
    refine tn_iload (pc := 158) hΓ d_X6_day_158 rfl ?_
    refine tn_iload (pc := 160) hΓ d_X6_day_160 rfl ?_
    refine tn_cvI (As := [.int y5, .int x1]) (st := []) (pc := 162) hΓ d_X6_day_162 mv_X6_tellDay im_X6_tellDay se_X6_tellDay ml_6_178 ⟨⟨by decide, by decide⟩, by decide, by decide⟩ rfl rfl rfl (by decide) ⟨_, rfl⟩ (gd_k hG (c := 39) rfl) (Nat.le_of_ble_eq_true rfl) rfl h (fun r2 σ3 h => ?_)
    refine tn_istore (loc' := [.ref 39, .null, .null, .null, .int y4, .int y5, .null, .int y7, .int x1, .int r1, .int r2]) (pc := 165) hΓ d_X6_day_165 (by decide) rfl rfl ?_
    refine tn_aload_n (pc := 167) hΓ d_X6_day_167 rfl ?_
    refine tn_iconst (pc := 168) hΓ d_X6_day_168 ic_0 ?_
    refine tn_cvV (As := [.int (0 : Int32)]) (st := []) (pc := 169) hΓ d_X6_day_169 mv_X6_putBack im_X6_putBack se_X6_putBack ml_6_181 ⟨⟨by decide, by decide⟩, by decide, by decide⟩ rfl rfl rfl (by decide) ⟨_, rfl⟩ (gd_k hG (c := 39) rfl) (Nat.le_of_ble_eq_true rfl) rfl h (fun σ4 h => ?_)
    refine tn_iload (pc := 172) hΓ d_X6_day_172 rfl ?_
    refine tn_iconst (pc := 174) hΓ d_X6_day_174 ic_1 ?_
    refine tn_icmp_ne (tgt := 183) (pc := 175) hΓ d_X6_day_175 (by decide) (fun hq => ?_) (fun hq => ?_)
    · have h := h.1 hq
      refine tn_iload (pc := 183) hΓ d_X6_day_183 rfl ?_
      refine tn_bipush (pc := 185) hΓ d_X6_day_185 bp_m9 ?_
      refine tn_icmp_ne (tgt := 195) (pc := 187) hΓ d_X6_day_187 (by decide) (fun hq => ?_) (fun hq => ?_)
      · have h := h.1 hq
        refine tn_bipush (pc := 195) hΓ d_X6_day_195 bp_m100 ?_
        refine tn_iload (pc := 197) hΓ d_X6_day_197 rfl ?_
        refine tn_isub (pc := 199) hΓ d_X6_day_199 ?_
        exact tn_ret_i (pc := 200) hΓ hK d_X6_day_200 rfl (by decide) (by decide) h
      · have h := h.2 hq
        refine tn_iload (pc := 190) hΓ d_X6_day_190 rfl ?_
        refine tn_goto (tgt := 200) (pc := 192) hΓ d_X6_day_192 (by decide) ?_
        exact tn_ret_i (pc := 200) hΓ hK d_X6_day_200 rfl (by decide) (by decide) h
    · have h := h.2 hq
      refine tn_iload (pc := 178) hΓ d_X6_day_178 rfl ?_
      refine tn_goto (tgt := 200) (pc := 180) hΓ d_X6_day_180 (by decide) ?_
      exact tn_ret_i (pc := 200) hΓ hK d_X6_day_200 rfl (by decide) (by decide) h
  · have h := h.2 hq
    refine tn_aload_n (pc := 108) hΓ d_X6_day_108 rfl ?_
    refine tn_getRy (y := 42) (pc := 109) hΓ d_X6_day_109 fl_6_16 rfl (gd_k hG (c := 39) rfl) (gd_r hG 39 4 42 rfl rfl) ?_
    refine tn_iload (pc := 112) hΓ d_X6_day_112 rfl ?_
    refine tn_iload (pc := 114) hΓ d_X6_day_114 rfl ?_
    refine tn_iadd (pc := 116) hΓ d_X6_day_116 ?_
    obtain ⟨hi1, h⟩ := h
    refine tn_ald (pc := 117) hΓ d_X6_day_117 (gd_k hG (c := 42) rfl) hi1 ?_
    refine tn_iconst (pc := 118) hΓ d_X6_day_118 ic_0 ?_
    refine tn_bipush (pc := 119) hΓ d_X6_day_119 bp_14 ?_
    refine tn_csI (As := [.int (σ 42 (y7 + y8).toNatClampNeg), .int (0 : Int32), .int (14 : Int32)]) (st := []) (pc := 121) hΓ d_X6_day_121 mv_X6_within st_X6_within ml_6_58 ⟨⟨by decide, by decide⟩, by decide, by decide⟩ rfl rfl rfl (Nat.le_of_ble_eq_true rfl) rfl h (fun r3 σ5 h => ?_)
    refine tn_if_ne (tgt := 130) (pc := 124) hΓ d_X6_day_124 (by decide) (fun hq => ?_) (fun hq => ?_)
    · have h := h.1 hq
      refine tn_iincw (loc' := fun v_ => [.ref 39, .null, .null, .null, .int y4, .int y5, .null, .int y7, .int v_, .null, .null]) (pc := 130) hΓ d_X6_day_130 rfl ic_1 (by decide) rfl (fun _ => rfl) (fun x2 ex2 => ?_)
      have h := h x2 ex2
      refine tn_goto (tgt := 101) (pc := 133) hΓ d_X6_day_133 (by decide) ?_
      exact h
    · have h := h.2 hq
      refine tn_bipush (pc := 127) hΓ d_X6_day_127 bp_m2 ?_
      exact tn_ret_i (pc := 129) hΓ hK d_X6_day_129 rfl (by decide) (by decide) h
theorem k_X6_tellDay_0 {Γ : tn_G} {ks : List (Nat × Nat)} {ρ : Nat → Nat → Nat} {σ : Nat → Nat → Int32} {K : Option Value → List (Nat × Nat) → (Nat → Nat → Nat) → (Nat → Nat → Int32) → Prop} (hG : tn_Gd ks ρ) (hΓ : tn_is Γ m_X6_tellDay) (hK : tn_rt Γ m_X6_tellDay K) (a0 : Int32) (a1 : Int32) (h : ((a0 < (10 : Int32) → ((a0 = (0 : Int32) → tn_CI m_X6_voiceNow [.ref 39] ks ρ σ (fun r1 σ1 => K (some (.int r1)) ks ρ σ1)) ∧ (¬ a0 = (0 : Int32) → ((a0 = (1 : Int32) → K (some (.int (σ 39 8))) ks ρ σ) ∧ (¬ a0 = (1 : Int32) → ((a0 = (2 : Int32) → K (some (.int ((σ 39 10) - a1))) ks ρ σ) ∧ (¬ a0 = (2 : Int32) → ((a0 = (3 : Int32) → tn_CI m_X6_whoRankle [.ref 39] ks ρ σ (fun r2 σ2 => K (some (.int r2)) ks ρ σ2)) ∧ (¬ a0 = (3 : Int32) → K (some (.int (σ 39 8))) ks ρ σ))))))))) ∧ (¬ a0 < (10 : Int32) → tn_CI m_X6_isHouse [.ref 39, .int (a0 - (10 : Int32))] ks ρ σ (fun r3 σ3 => ((r3 = 0 → K (some (.int (-9 : Int32))) ks ρ σ3) ∧ (¬ r3 = 0 → (vp_in (a0 - (10 : Int32)) 5 ∧ K (some (.int (σ3 45 (a0 - (10 : Int32)).toNatClampNeg))) ks ρ σ3))))))) : tn_A Γ 0 [.ref 39, .int a0, .int a1] [] 0 0 ks ρ σ := by
  refine tn_iload_n (pc := 0) hΓ d_X6_tellDay_0 rfl ?_
  refine tn_bipush (pc := 1) hΓ d_X6_tellDay_1 bp_10 ?_
  refine tn_icmp_lt (tgt := 32) (pc := 3) hΓ d_X6_tellDay_3 (by decide) (fun hq => ?_) (fun hq => ?_)
  · have h := h.1 hq
    refine tn_iload_n (pc := 32) hΓ d_X6_tellDay_32 rfl ?_
    refine tn_byc (a0 = (0 : Int32)) (fun hq => ?_) (fun hq0 => ?_)
    · have h := h.1 hq
      refine tn_tblIn (off := 31) (tgt := 64) (pc := 33) hΓ d_X6_tellDay_33 (by rw [hq] <;> decide) (by rw [hq] <;> decide) (by rw [hq] <;> rfl) (by decide) ?_
      refine tn_aload_n (pc := 64) hΓ d_X6_tellDay_64 rfl ?_
      refine tn_cvI (As := []) (st := []) (pc := 65) hΓ d_X6_tellDay_65 mv_X6_voiceNow im_X6_voiceNow se_X6_voiceNow ml_6_151 ⟨⟨by decide, by decide⟩, by decide, by decide⟩ rfl rfl rfl (by decide) ⟨_, rfl⟩ (gd_k hG (c := 39) rfl) (Nat.le_of_ble_eq_true rfl) rfl h (fun r1 σ1 h => ?_)
      exact tn_ret_i (pc := 68) hΓ hK d_X6_tellDay_68 rfl (by decide) (by decide) h
    have h := h.2 hq0
    refine tn_byc (a0 = (1 : Int32)) (fun hq => ?_) (fun hq1 => ?_)
    · have h := h.1 hq
      refine tn_tblIn (off := 48) (tgt := 81) (pc := 33) hΓ d_X6_tellDay_33 (by rw [hq] <;> decide) (by rw [hq] <;> decide) (by rw [hq] <;> rfl) (by decide) ?_
      refine tn_aload_n (pc := 81) hΓ d_X6_tellDay_81 rfl ?_
      refine tn_getI (pc := 82) hΓ d_X6_tellDay_82 fl_6_110 rfl (gd_k hG (c := 39) rfl) ?_
      exact tn_ret_i (pc := 85) hΓ hK d_X6_tellDay_85 rfl (by decide) (by decide) h
    have h := h.2 hq1
    refine tn_byc (a0 = (2 : Int32)) (fun hq => ?_) (fun hq2 => ?_)
    · have h := h.1 hq
      refine tn_tblIn (off := 36) (tgt := 69) (pc := 33) hΓ d_X6_tellDay_33 (by rw [hq] <;> decide) (by rw [hq] <;> decide) (by rw [hq] <;> rfl) (by decide) ?_
      refine tn_aload_n (pc := 69) hΓ d_X6_tellDay_69 rfl ?_
      refine tn_getI (pc := 70) hΓ d_X6_tellDay_70 fl_6_116 rfl (gd_k hG (c := 39) rfl) ?_
      refine tn_iload_n (pc := 73) hΓ d_X6_tellDay_73 rfl ?_
      refine tn_isub (pc := 74) hΓ d_X6_tellDay_74 ?_
      exact tn_ret_i (pc := 75) hΓ hK d_X6_tellDay_75 rfl (by decide) (by decide) h
    have h := h.2 hq2
    refine tn_byc (a0 = (3 : Int32)) (fun hq => ?_) (fun hq3 => ?_)
    · have h := h.1 hq
      refine tn_tblIn (off := 43) (tgt := 76) (pc := 33) hΓ d_X6_tellDay_33 (by rw [hq] <;> decide) (by rw [hq] <;> decide) (by rw [hq] <;> rfl) (by decide) ?_
      refine tn_aload_n (pc := 76) hΓ d_X6_tellDay_76 rfl ?_
      refine tn_cvI (As := []) (st := []) (pc := 77) hΓ d_X6_tellDay_77 mv_X6_whoRankle im_X6_whoRankle se_X6_whoRankle ml_6_158 ⟨⟨by decide, by decide⟩, by decide, by decide⟩ rfl rfl rfl (by decide) ⟨_, rfl⟩ (gd_k hG (c := 39) rfl) (Nat.le_of_ble_eq_true rfl) rfl h (fun r2 σ2 h => ?_)
      exact tn_ret_i (pc := 80) hΓ hK d_X6_tellDay_80 rfl (by decide) (by decide) h
    have h := h.2 hq3
    refine tn_tblOut (tgt := 81) (pc := 33) hΓ d_X6_tellDay_33 (tn_out_0_3 hq0 hq1 hq2 hq3) (by decide) ?_
    refine tn_aload_n (pc := 81) hΓ d_X6_tellDay_81 rfl ?_
    refine tn_getI (pc := 82) hΓ d_X6_tellDay_82 fl_6_110 rfl (gd_k hG (c := 39) rfl) ?_
    exact tn_ret_i (pc := 85) hΓ hK d_X6_tellDay_85 rfl (by decide) (by decide) h
  · have h := h.2 hq
    refine tn_aload_n (pc := 6) hΓ d_X6_tellDay_6 rfl ?_
    refine tn_iload_n (pc := 7) hΓ d_X6_tellDay_7 rfl ?_
    refine tn_bipush (pc := 8) hΓ d_X6_tellDay_8 bp_10 ?_
    refine tn_isub (pc := 10) hΓ d_X6_tellDay_10 ?_
    refine tn_cvI (As := [.int (a0 - (10 : Int32))]) (st := []) (pc := 11) hΓ d_X6_tellDay_11 mv_X6_isHouse im_X6_isHouse se_X6_isHouse ml_6_145 ⟨⟨by decide, by decide⟩, by decide, by decide⟩ rfl rfl rfl (by decide) ⟨_, rfl⟩ (gd_k hG (c := 39) rfl) (Nat.le_of_ble_eq_true rfl) rfl h (fun r3 σ3 h => ?_)
    refine tn_if_eq (tgt := 29) (pc := 14) hΓ d_X6_tellDay_14 (by decide) (fun hq => ?_) (fun hq => ?_)
    · have h := h.1 hq
      refine tn_bipush (pc := 29) hΓ d_X6_tellDay_29 bp_m9 ?_
      exact tn_ret_i (pc := 31) hΓ hK d_X6_tellDay_31 rfl (by decide) (by decide) h
    · have h := h.2 hq
      refine tn_aload_n (pc := 17) hΓ d_X6_tellDay_17 rfl ?_
      refine tn_getRy (y := 45) (pc := 18) hΓ d_X6_tellDay_18 fl_6_25 rfl (gd_k hG (c := 39) rfl) (gd_r hG 39 15 45 rfl rfl) ?_
      refine tn_iload_n (pc := 21) hΓ d_X6_tellDay_21 rfl ?_
      refine tn_bipush (pc := 22) hΓ d_X6_tellDay_22 bp_10 ?_
      refine tn_isub (pc := 24) hΓ d_X6_tellDay_24 ?_
      obtain ⟨hi1, h⟩ := h
      refine tn_ald (pc := 25) hΓ d_X6_tellDay_25 (gd_k hG (c := 45) rfl) hi1 ?_
      refine tn_goto (tgt := 31) (pc := 26) hΓ d_X6_tellDay_26 (by decide) ?_
      exact tn_ret_i (pc := 31) hΓ hK d_X6_tellDay_31 rfl (by decide) (by decide) h
