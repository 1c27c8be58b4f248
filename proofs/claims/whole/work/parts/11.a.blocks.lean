-- X0_weight X0_rankles X0_ownUp X0_become X2_renew X2_hasCells X2_cutToLane X3_become
theorem k_X0_weight_0 {Γ : tn_G} {ks : List (Nat × Nat)} {ρ : Nat → Nat → Nat} {σ : Nat → Nat → Int32} {K : Option Value → List (Nat × Nat) → (Nat → Nat → Nat) → (Nat → Nat → Int32) → Prop} (hG : tn_Gd ks ρ) (hΓ : tn_is Γ m_X0_weight) (hK : tn_rt Γ m_X0_weight K) (c : Nat) (hk : tn_kd ks c = some (0, 0)) (h : (((σ c 0) = (1 : Int32) → K (some (.int ((σ c 1) + (1 : Int32)))) ks ρ σ) ∧ (¬ (σ c 0) = (1 : Int32) → (((σ c 0) = (2 : Int32) → K (some (.int ((2 : Int32) * (σ c 1)))) ks ρ σ) ∧ (¬ (σ c 0) = (2 : Int32) → K (some (.int (σ c 1))) ks ρ σ))))) : tn_A Γ 0 [.ref c] [] 0 0 ks ρ σ := by
  refine tn_aload_n (pc := 0) hΓ d_X0_weight_0 rfl ?_
  refine tn_getI (pc := 1) hΓ d_X0_weight_1 fl_0_9 rfl hk ?_
  refine tn_byc ((σ c 0) = (1 : Int32)) (fun hq => ?_) (fun hq0 => ?_)
  · have h := h.1 hq
    refine tn_lookup (off := 35) (tgt := 39) (pc := 4) hΓ d_X0_weight_4 (by decide) (by rw [hq] <;> rfl) (by decide) ?_
    refine tn_aload_n (pc := 39) hΓ d_X0_weight_39 rfl ?_
    refine tn_getI (pc := 40) hΓ d_X0_weight_40 fl_0_15 rfl hk ?_
    refine tn_iconst (pc := 43) hΓ d_X0_weight_43 ic_1 ?_
    refine tn_iadd (pc := 44) hΓ d_X0_weight_44 ?_
    exact tn_ret_i (pc := 45) hΓ hK d_X0_weight_45 rfl (by decide) (by decide) h
  have h := h.2 hq0
  refine tn_byc ((σ c 0) = (2 : Int32)) (fun hq => ?_) (fun hq1 => ?_)
  · have h := h.1 hq
    refine tn_lookup (off := 28) (tgt := 32) (pc := 4) hΓ d_X0_weight_4 (by decide) (by rw [hq] <;> rfl) (by decide) ?_
    refine tn_iconst (pc := 32) hΓ d_X0_weight_32 ic_2 ?_
    refine tn_aload_n (pc := 33) hΓ d_X0_weight_33 rfl ?_
    refine tn_getI (pc := 34) hΓ d_X0_weight_34 fl_0_15 rfl hk ?_
    refine tn_imul (pc := 37) hΓ d_X0_weight_37 ?_
    exact tn_ret_i (pc := 38) hΓ hK d_X0_weight_38 rfl (by decide) (by decide) h
  have h := h.2 hq1
  refine tn_lookup (off := 42) (tgt := 46) (pc := 4) hΓ d_X0_weight_4 (by decide) (by rw [lv_osw hq0 (by decide), lv_osw hq1 (by decide)] <;> rfl) (by decide) ?_
  refine tn_aload_n (pc := 46) hΓ d_X0_weight_46 rfl ?_
  refine tn_getI (pc := 47) hΓ d_X0_weight_47 fl_0_15 rfl hk ?_
  exact tn_ret_i (pc := 50) hΓ hK d_X0_weight_50 rfl (by decide) (by decide) h
theorem k_X0_rankles_0 {Γ : tn_G} {ks : List (Nat × Nat)} {ρ : Nat → Nat → Nat} {σ : Nat → Nat → Int32} {K : Option Value → List (Nat × Nat) → (Nat → Nat → Nat) → (Nat → Nat → Int32) → Prop} (hG : tn_Gd ks ρ) (hΓ : tn_is Γ m_X0_rankles) (hK : tn_rt Γ m_X0_rankles K) (c : Nat) (hk : tn_kd ks c = some (0, 0)) (h : ((¬ (σ c 4) = 0 → K (some (.int (0 : Int32))) ks ρ σ) ∧ ((σ c 4) = 0 → tn_CI m_X0_weight [.ref c] ks ρ σ (fun r1 σ1 => ((r1 ≤ 0 → K (some (.int (0 : Int32))) ks ρ σ1) ∧ (¬ r1 ≤ 0 → K (some (.int (1 : Int32))) ks ρ σ1)))))) : tn_A Γ 0 [.ref c] [] 0 0 ks ρ σ := by
  refine tn_aload_n (pc := 0) hΓ d_X0_rankles_0 rfl ?_
  refine tn_getI (pc := 1) hΓ d_X0_rankles_1 fl_0_24 rfl hk ?_
  refine tn_if_ne (tgt := 18) (pc := 4) hΓ d_X0_rankles_4 (by decide) (fun hq => ?_) (fun hq => ?_)
  · have h := h.1 hq
    refine tn_iconst (pc := 18) hΓ d_X0_rankles_18 ic_0 ?_
    exact tn_ret_z (pc := 19) hΓ hK d_X0_rankles_19 rfl (by decide) (by decide) (Or.inl rfl) h
  · have h := h.2 hq
    refine tn_aload_n (pc := 7) hΓ d_X0_rankles_7 rfl ?_
    refine tn_cvI (As := []) (st := []) (pc := 8) hΓ d_X0_rankles_8 mv_X0_weight im_X0_weight se_X0_weight ml_0_28 ⟨⟨by decide, by decide⟩, by decide, by decide⟩ rfl rfl rfl (by decide) ⟨_, rfl⟩ hk (Nat.le_of_ble_eq_true rfl) rfl h (fun r1 σ1 h => ?_)
    refine tn_if_le (tgt := 18) (pc := 11) hΓ d_X0_rankles_11 (by decide) (fun hq => ?_) (fun hq => ?_)
    · have h := h.1 hq
      refine tn_iconst (pc := 18) hΓ d_X0_rankles_18 ic_0 ?_
      exact tn_ret_z (pc := 19) hΓ hK d_X0_rankles_19 rfl (by decide) (by decide) (Or.inl rfl) h
    · have h := h.2 hq
      refine tn_iconst (pc := 14) hΓ d_X0_rankles_14 ic_1 ?_
      refine tn_goto (tgt := 19) (pc := 15) hΓ d_X0_rankles_15 (by decide) ?_
      exact tn_ret_z (pc := 19) hΓ hK d_X0_rankles_19 rfl (by decide) (by decide) (Or.inr rfl) h
theorem k_X0_ownUp_0 {Γ : tn_G} {ks : List (Nat × Nat)} {ρ : Nat → Nat → Nat} {σ : Nat → Nat → Int32} {K : Option Value → List (Nat × Nat) → (Nat → Nat → Nat) → (Nat → Nat → Int32) → Prop} (hG : tn_Gd ks ρ) (hΓ : tn_is Γ m_X0_ownUp) (hK : tn_rt Γ m_X0_ownUp K) (c : Nat) (hk : tn_kd ks c = some (0, 0)) (h : tn_CI m_X0_rankles [.ref c] ks ρ σ (fun r1 σ1 => ((¬ r1 = 0 → (∀ σ2, σ2 = tn_u σ1 c 4 (1 : Int32) → K (some (.int (1 : Int32))) ks ρ σ2)) ∧ (r1 = 0 → (∀ σ3, σ3 = tn_u σ1 c 3 ((σ1 c 3) + (1 : Int32)) → K (some (.int (0 : Int32))) ks ρ σ3))))) : tn_A Γ 0 [.ref c] [] 0 0 ks ρ σ := by
  refine tn_aload_n (pc := 0) hΓ d_X0_ownUp_0 rfl ?_
  refine tn_cvI (As := []) (st := []) (pc := 1) hΓ d_X0_ownUp_1 mv_X0_rankles im_X0_rankles se_X0_rankles ml_0_32 ⟨⟨by decide, by decide⟩, by decide, by decide⟩ rfl rfl rfl (by decide) ⟨_, rfl⟩ hk (Nat.le_of_ble_eq_true rfl) rfl h (fun r1 σ1 h => ?_)
  refine tn_if_ne (tgt := 19) (pc := 4) hΓ d_X0_ownUp_4 (by decide) (fun hq => ?_) (fun hq => ?_)
  · have h := h.1 hq
    refine tn_aload_n (pc := 19) hΓ d_X0_ownUp_19 rfl ?_
    refine tn_iconst (pc := 20) hΓ d_X0_ownUp_20 ic_1 ?_
    refine tn_putZ (pc := 21) hΓ d_X0_ownUp_21 fl_0_24 fk_0_0_4 rfl hk (Or.inr rfl) ?_
    refine tn_tops (fun σ2 eσ2 => ?_)
    have h := h σ2 eσ2
    refine tn_iconst (pc := 24) hΓ d_X0_ownUp_24 ic_1 ?_
    exact tn_ret_z (pc := 25) hΓ hK d_X0_ownUp_25 rfl (by decide) (by decide) (Or.inr rfl) h
  · have h := h.2 hq
    refine tn_aload_n (pc := 7) hΓ d_X0_ownUp_7 rfl ?_
    refine tn_dupr (pc := 8) hΓ d_X0_ownUp_8 ?_
    refine tn_getI (pc := 9) hΓ d_X0_ownUp_9 fl_0_21 rfl hk ?_
    refine tn_iconst (pc := 12) hΓ d_X0_ownUp_12 ic_1 ?_
    refine tn_iadd (pc := 13) hΓ d_X0_ownUp_13 ?_
    refine tn_putI (pc := 14) hΓ d_X0_ownUp_14 fl_0_21 fk_0_0_3 rfl hk  ?_
    refine tn_tops (fun σ3 eσ3 => ?_)
    have h := h σ3 eσ3
    refine tn_iconst (pc := 17) hΓ d_X0_ownUp_17 ic_0 ?_
    exact tn_ret_z (pc := 18) hΓ hK d_X0_ownUp_18 rfl (by decide) (by decide) (Or.inl rfl) h
theorem k_X0_become_0 {Γ : tn_G} {ks : List (Nat × Nat)} {ρ : Nat → Nat → Nat} {σ : Nat → Nat → Int32} {K : Option Value → List (Nat × Nat) → (Nat → Nat → Nat) → (Nat → Nat → Int32) → Prop} (hG : tn_Gd ks ρ) (hΓ : tn_is Γ m_X0_become) (hK : tn_rt Γ m_X0_become K) (c : Nat) (c1 : Nat) (hk : tn_kd ks c = some (0, 0)) (hk1 : tn_kd ks c1 = some (0, 0)) (h : (∀ σ1, σ1 = tn_u σ c 0 (σ c1 0) → (∀ σ2, σ2 = tn_u σ1 c 1 (σ1 c1 1) → (∀ σ3, σ3 = tn_u σ2 c 2 (σ2 c1 2) → (∀ σ4, σ4 = tn_u σ3 c 3 (σ3 c1 3) → (((σ4 c1 4) = 0 ∨ (σ4 c1 4) = 1) ∧ (∀ σ5, σ5 = tn_u σ4 c 4 (σ4 c1 4) → K none ks ρ σ5))))))) : tn_A Γ 0 [.ref c, .ref c1] [] 0 0 ks ρ σ := by
  refine tn_aload_n (pc := 0) hΓ d_X0_become_0 rfl ?_
  refine tn_aload_n (pc := 1) hΓ d_X0_become_1 rfl ?_
  refine tn_getI (pc := 2) hΓ d_X0_become_2 fl_0_9 rfl hk1 ?_
  refine tn_putI (pc := 5) hΓ d_X0_become_5 fl_0_9 fk_0_0_0 rfl hk  ?_
  refine tn_tops (fun σ1 eσ1 => ?_)
  have h := h σ1 eσ1
  refine tn_aload_n (pc := 8) hΓ d_X0_become_8 rfl ?_
  refine tn_aload_n (pc := 9) hΓ d_X0_become_9 rfl ?_
  refine tn_getI (pc := 10) hΓ d_X0_become_10 fl_0_15 rfl hk1 ?_
  refine tn_putI (pc := 13) hΓ d_X0_become_13 fl_0_15 fk_0_0_1 rfl hk  ?_
  refine tn_tops (fun σ2 eσ2 => ?_)
  have h := h σ2 eσ2
  refine tn_aload_n (pc := 16) hΓ d_X0_become_16 rfl ?_
  refine tn_aload_n (pc := 17) hΓ d_X0_become_17 rfl ?_
  refine tn_getI (pc := 18) hΓ d_X0_become_18 fl_0_18 rfl hk1 ?_
  refine tn_putI (pc := 21) hΓ d_X0_become_21 fl_0_18 fk_0_0_2 rfl hk  ?_
  refine tn_tops (fun σ3 eσ3 => ?_)
  have h := h σ3 eσ3
  refine tn_aload_n (pc := 24) hΓ d_X0_become_24 rfl ?_
  refine tn_aload_n (pc := 25) hΓ d_X0_become_25 rfl ?_
  refine tn_getI (pc := 26) hΓ d_X0_become_26 fl_0_21 rfl hk1 ?_
  refine tn_putI (pc := 29) hΓ d_X0_become_29 fl_0_21 fk_0_0_3 rfl hk  ?_
  refine tn_tops (fun σ4 eσ4 => ?_)
  have h := h σ4 eσ4
  refine tn_aload_n (pc := 32) hΓ d_X0_become_32 rfl ?_
  refine tn_aload_n (pc := 33) hΓ d_X0_become_33 rfl ?_
  refine tn_getI (pc := 34) hΓ d_X0_become_34 fl_0_24 rfl hk1 ?_
  obtain ⟨hz, h⟩ := h
  refine tn_putZ (pc := 37) hΓ d_X0_become_37 fl_0_24 fk_0_0_4 rfl hk hz ?_
  refine tn_tops (fun σ5 eσ5 => ?_)
  have h := h σ5 eσ5
  exact tn_ret_v (pc := 40) hΓ hK d_X0_become_40 rfl (by decide) (by decide) h
theorem k_X2_renew_0 {Γ : tn_G} {ks : List (Nat × Nat)} {ρ : Nat → Nat → Nat} {σ : Nat → Nat → Int32} {K : Option Value → List (Nat × Nat) → (Nat → Nat → Nat) → (Nat → Nat → Int32) → Prop} (hG : tn_Gd ks ρ) (hΓ : tn_is Γ m_X2_renew) (hK : tn_rt Γ m_X2_renew K) (c : Nat) (a0 : Int32) (a1 : Int32) (hc : tn_Sb c) (h : (∀ σ1, σ1 = tn_u σ c 1 (1 : Int32) → (∀ σ2, σ2 = tn_u σ1 c 2 a0 → (∀ σ3, σ3 = tn_u σ2 c 3 a1 → tn_A Γ 17 [.ref c, .null, .null, .int (0 : Int32)] [] 0 0 ks ρ σ3)))) : tn_A Γ 0 [.ref c, .int a0, .int a1, .null] [] 0 0 ks ρ σ := by
  refine tn_aload_n (pc := 0) hΓ d_X2_renew_0 rfl ?_
  refine tn_iconst (pc := 1) hΓ d_X2_renew_1 ic_1 ?_
  refine tn_putZ (pc := 2) hΓ d_X2_renew_2 fl_2_15 fk_2_2_1 rfl (gs_k hG hc) (Or.inr rfl) ?_
  refine tn_tops (fun σ1 eσ1 => ?_)
  have h := h σ1 eσ1
  refine tn_aload_n (pc := 5) hΓ d_X2_renew_5 rfl ?_
  refine tn_iload_n (pc := 6) hΓ d_X2_renew_6 rfl ?_
  refine tn_putI (pc := 7) hΓ d_X2_renew_7 fl_2_19 fk_2_2_2 rfl (gs_k hG hc)  ?_
  refine tn_tops (fun σ2 eσ2 => ?_)
  have h := h σ2 eσ2
  refine tn_aload_n (pc := 10) hΓ d_X2_renew_10 rfl ?_
  refine tn_iload_n (pc := 11) hΓ d_X2_renew_11 rfl ?_
  refine tn_putI (pc := 12) hΓ d_X2_renew_12 fl_2_23 fk_2_2_3 rfl (gs_k hG hc)  ?_
  refine tn_tops (fun σ3 eσ3 => ?_)
  have h := h σ3 eσ3
  refine tn_iconst (pc := 15) hΓ d_X2_renew_15 ic_0 ?_
  refine tn_istore_n (loc' := [.ref c, .int a0, .int a1, .int (0 : Int32)]) (pc := 16) hΓ d_X2_renew_16 (by decide) rfl rfl ?_
  refine tn_drop [true, false, false, true] (loc' := [.ref c, .null, .null, .int (0 : Int32)]) rfl ?_
  exact h
theorem k_X2_renew_17 {Γ : tn_G} {ks : List (Nat × Nat)} {ρ : Nat → Nat → Nat} {σ : Nat → Nat → Int32} {K : Option Value → List (Nat × Nat) → (Nat → Nat → Nat) → (Nat → Nat → Int32) → Prop} (hG : tn_Gd ks ρ) (hΓ : tn_is Γ m_X2_renew) (hK : tn_rt Γ m_X2_renew K) (c : Nat) (hc : tn_Sb c) (y3 : Int32) (h : (((60 : Int32) ≤ y3 → K none ks ρ σ) ∧ (¬ (60 : Int32) ≤ y3 → (vp_in y3 60 ∧ (∀ σ1, σ1 = tn_u σ (c + 1) y3.toNatClampNeg (0 : Int32) → (∀ x1 : Int32, x1 = y3 + (1 : Int32) → tn_A Γ 17 [.ref c, .null, .null, .int x1] [] 0 0 ks ρ σ1)))))) : tn_A Γ 17 [.ref c, .null, .null, .int y3] [] 0 0 ks ρ σ := by
  refine tn_iload_n (pc := 17) hΓ d_X2_renew_17 rfl ?_
  refine tn_bipush (pc := 18) hΓ d_X2_renew_18 bp_60 ?_
  refine tn_icmp_ge (tgt := 36) (pc := 20) hΓ d_X2_renew_20 (by decide) (fun hq => ?_) (fun hq => ?_)
  · have h := h.1 hq
    exact tn_ret_v (pc := 36) hΓ hK d_X2_renew_36 rfl (by decide) (by decide) h
  · have h := h.2 hq
    refine tn_aload_n (pc := 23) hΓ d_X2_renew_23 rfl ?_
    refine tn_getRy (y := c + 1) (pc := 24) hΓ d_X2_renew_24 fl_2_9 rfl (gs_k hG hc) (gs_c hG hc) ?_
    refine tn_iload_n (pc := 27) hΓ d_X2_renew_27 rfl ?_
    refine tn_iconst (pc := 28) hΓ d_X2_renew_28 ic_0 ?_
    obtain ⟨hi1, h⟩ := h
    refine tn_ast (pc := 29) hΓ d_X2_renew_29 (gs_kc hG hc) hi1 ?_
    refine tn_tops (fun σ1 eσ1 => ?_)
    have h := h σ1 eσ1
    refine tn_iincw (loc' := fun v_ => [.ref c, .null, .null, .int v_]) (pc := 30) hΓ d_X2_renew_30 rfl ic_1 (by decide) rfl (fun _ => rfl) (fun x1 ex1 => ?_)
    have h := h x1 ex1
    refine tn_goto (tgt := 17) (pc := 33) hΓ d_X2_renew_33 (by decide) ?_
    exact h
theorem k_X2_hasCells_0 {Γ : tn_G} {ks : List (Nat × Nat)} {ρ : Nat → Nat → Nat} {σ : Nat → Nat → Int32} {K : Option Value → List (Nat × Nat) → (Nat → Nat → Nat) → (Nat → Nat → Int32) → Prop} (hG : tn_Gd ks ρ) (hΓ : tn_is Γ m_X2_hasCells) (hK : tn_rt Γ m_X2_hasCells K) (c : Nat) (a0 : Int32) (a1 : Int32) (hc : tn_Sb c) (h : ((a0 < 0 → K (some (.int (0 : Int32))) ks ρ σ) ∧ (¬ a0 < 0 → (((σ c 3) < a0 → K (some (.int (0 : Int32))) ks ρ σ) ∧ (¬ (σ c 3) < a0 → ((a1 < 0 → K (some (.int (0 : Int32))) ks ρ σ) ∧ (¬ a1 < 0 → ((((σ c 3) - a0) < a1 → K (some (.int (0 : Int32))) ks ρ σ) ∧ (¬ ((σ c 3) - a0) < a1 → K (some (.int (1 : Int32))) ks ρ σ))))))))) : tn_A Γ 0 [.ref c, .int a0, .int a1] [] 0 0 ks ρ σ := by
  refine tn_iload_n (pc := 0) hΓ d_X2_hasCells_0 rfl ?_
  refine tn_if_lt (tgt := 30) (pc := 1) hΓ d_X2_hasCells_1 (by decide) (fun hq => ?_) (fun hq => ?_)
  · have h := h.1 hq
    refine tn_iconst (pc := 30) hΓ d_X2_hasCells_30 ic_0 ?_
    exact tn_ret_z (pc := 31) hΓ hK d_X2_hasCells_31 rfl (by decide) (by decide) (Or.inl rfl) h
  · have h := h.2 hq
    refine tn_iload_n (pc := 4) hΓ d_X2_hasCells_4 rfl ?_
    refine tn_aload_n (pc := 5) hΓ d_X2_hasCells_5 rfl ?_
    refine tn_getI (pc := 6) hΓ d_X2_hasCells_6 fl_2_23 rfl (gs_k hG hc) ?_
    refine tn_icmp_gt (tgt := 30) (pc := 9) hΓ d_X2_hasCells_9 (by decide) (fun hq => ?_) (fun hq => ?_)
    · have h := h.1 hq
      refine tn_iconst (pc := 30) hΓ d_X2_hasCells_30 ic_0 ?_
      exact tn_ret_z (pc := 31) hΓ hK d_X2_hasCells_31 rfl (by decide) (by decide) (Or.inl rfl) h
    · have h := h.2 hq
      refine tn_iload_n (pc := 12) hΓ d_X2_hasCells_12 rfl ?_
      refine tn_if_lt (tgt := 30) (pc := 13) hΓ d_X2_hasCells_13 (by decide) (fun hq => ?_) (fun hq => ?_)
      · have h := h.1 hq
        refine tn_iconst (pc := 30) hΓ d_X2_hasCells_30 ic_0 ?_
        exact tn_ret_z (pc := 31) hΓ hK d_X2_hasCells_31 rfl (by decide) (by decide) (Or.inl rfl) h
      · have h := h.2 hq
        refine tn_iload_n (pc := 16) hΓ d_X2_hasCells_16 rfl ?_
        refine tn_aload_n (pc := 17) hΓ d_X2_hasCells_17 rfl ?_
        refine tn_getI (pc := 18) hΓ d_X2_hasCells_18 fl_2_23 rfl (gs_k hG hc) ?_
        refine tn_iload_n (pc := 21) hΓ d_X2_hasCells_21 rfl ?_
        refine tn_isub (pc := 22) hΓ d_X2_hasCells_22 ?_
        refine tn_icmp_gt (tgt := 30) (pc := 23) hΓ d_X2_hasCells_23 (by decide) (fun hq => ?_) (fun hq => ?_)
        · have h := h.1 hq
          refine tn_iconst (pc := 30) hΓ d_X2_hasCells_30 ic_0 ?_
          exact tn_ret_z (pc := 31) hΓ hK d_X2_hasCells_31 rfl (by decide) (by decide) (Or.inl rfl) h
        · have h := h.2 hq
          refine tn_iconst (pc := 26) hΓ d_X2_hasCells_26 ic_1 ?_
          refine tn_goto (tgt := 31) (pc := 27) hΓ d_X2_hasCells_27 (by decide) ?_
          exact tn_ret_z (pc := 31) hΓ hK d_X2_hasCells_31 rfl (by decide) (by decide) (Or.inr rfl) h
theorem k_X2_cutToLane_0 {Γ : tn_G} {ks : List (Nat × Nat)} {ρ : Nat → Nat → Nat} {σ : Nat → Nat → Int32} {K : Option Value → List (Nat × Nat) → (Nat → Nat → Nat) → (Nat → Nat → Int32) → Prop} (hG : tn_Gd ks ρ) (hΓ : tn_is Γ m_X2_cutToLane) (hK : tn_rt Γ m_X2_cutToLane K) (c : Nat) (a0 : Int32) (hc : tn_Sb c) (h : ((¬ (σ c 2) = 0 → ((¬ (σ c 2) = (1 : Int32) → K (some (.int a0)) ks ρ σ) ∧ ((σ c 2) = (1 : Int32) → K (some (.int a0.toInt16.toInt32)) ks ρ σ))) ∧ ((σ c 2) = 0 → K (some (.int a0.toInt8.toInt32)) ks ρ σ))) : tn_A Γ 0 [.ref c, .int a0] [] 0 0 ks ρ σ := by
  refine tn_aload_n (pc := 0) hΓ d_X2_cutToLane_0 rfl ?_
  refine tn_getI (pc := 1) hΓ d_X2_cutToLane_1 fl_2_19 rfl (gs_k hG hc) ?_
  refine tn_if_ne (tgt := 10) (pc := 4) hΓ d_X2_cutToLane_4 (by decide) (fun hq => ?_) (fun hq => ?_)
  · have h := h.1 hq
    refine tn_aload_n (pc := 10) hΓ d_X2_cutToLane_10 rfl ?_
    refine tn_getI (pc := 11) hΓ d_X2_cutToLane_11 fl_2_19 rfl (gs_k hG hc) ?_
    refine tn_iconst (pc := 14) hΓ d_X2_cutToLane_14 ic_1 ?_
    refine tn_icmp_ne (tgt := 23) (pc := 15) hΓ d_X2_cutToLane_15 (by decide) (fun hq => ?_) (fun hq => ?_)
    · have h := h.1 hq
      refine tn_iload_n (pc := 23) hΓ d_X2_cutToLane_23 rfl ?_
      exact tn_ret_i (pc := 24) hΓ hK d_X2_cutToLane_24 rfl (by decide) (by decide) h
    · have h := h.2 hq
      refine tn_iload_n (pc := 18) hΓ d_X2_cutToLane_18 rfl ?_
      refine tn_i2s (pc := 19) hΓ d_X2_cutToLane_19 ?_
      refine tn_goto (tgt := 24) (pc := 20) hΓ d_X2_cutToLane_20 (by decide) ?_
      exact tn_ret_i (pc := 24) hΓ hK d_X2_cutToLane_24 rfl (by decide) (by decide) h
  · have h := h.2 hq
    refine tn_iload_n (pc := 7) hΓ d_X2_cutToLane_7 rfl ?_
    refine tn_i2b (pc := 8) hΓ d_X2_cutToLane_8 ?_
    exact tn_ret_i (pc := 9) hΓ hK d_X2_cutToLane_9 rfl (by decide) (by decide) h
theorem k_X3_become_0 {Γ : tn_G} {ks : List (Nat × Nat)} {ρ : Nat → Nat → Nat} {σ : Nat → Nat → Int32} {K : Option Value → List (Nat × Nat) → (Nat → Nat → Nat) → (Nat → Nat → Int32) → Prop} (hG : tn_Gd ks ρ) (hΓ : tn_is Γ m_X3_become) (hK : tn_rt Γ m_X3_become K) (c : Nat) (c1 : Nat) (hk : tn_kd ks c = some (3, 0)) (hk1 : tn_kd ks c1 = some (3, 0)) (h : (∀ σ1, σ1 = tn_u σ c 0 (σ c1 0) → (((σ1 c1 1) = 0 ∨ (σ1 c1 1) = 1) ∧ (∀ σ2, σ2 = tn_u σ1 c 1 (σ1 c1 1) → K none ks ρ σ2)))) : tn_A Γ 0 [.ref c, .ref c1] [] 0 0 ks ρ σ := by
  refine tn_aload_n (pc := 0) hΓ d_X3_become_0 rfl ?_
  refine tn_aload_n (pc := 1) hΓ d_X3_become_1 rfl ?_
  refine tn_getI (pc := 2) hΓ d_X3_become_2 fl_3_7 rfl hk1 ?_
  refine tn_putI (pc := 5) hΓ d_X3_become_5 fl_3_7 fk_3_3_0 rfl hk  ?_
  refine tn_tops (fun σ1 eσ1 => ?_)
  have h := h σ1 eσ1
  refine tn_aload_n (pc := 8) hΓ d_X3_become_8 rfl ?_
  refine tn_aload_n (pc := 9) hΓ d_X3_become_9 rfl ?_
  refine tn_getI (pc := 10) hΓ d_X3_become_10 fl_3_13 rfl hk1 ?_
  obtain ⟨hz, h⟩ := h
  refine tn_putZ (pc := 13) hΓ d_X3_become_13 fl_3_13 fk_3_3_1 rfl hk hz ?_
  refine tn_tops (fun σ2 eσ2 => ?_)
  have h := h σ2 eσ2
  exact tn_ret_v (pc := 16) hΓ hK d_X3_become_16 rfl (by decide) (by decide) h
