-- X5_faultOfCells X5_areActs X5_firstWrongOfDay X5_afterDay X5_isQuietIfOwned X5_nightsIfChosen X5_isContent X5_painOfChoice X5_doReadingsHoldOfTrial X5_lastNightRead X5_isVoiceAsRead X5_leaveInTrace X5_toldAsPlain X5_toldAsBrooding X5_toldAsDouble X5_knockedAsLent X5_knockedAsDouble X6_fails X6_lost X6_within X6_isSheet X6_isSort X6_against X6_isHouse X6_isStone X6_isOf X6_size X6_digit X6_isSign
theorem k_X5_faultOfCells_0 {Γ : tn_G} {ks : List (Nat × Nat)} {ρ : Nat → Nat → Nat} {σ : Nat → Nat → Int32} {K : Option Value → List (Nat × Nat) → (Nat → Nat → Nat) → (Nat → Nat → Int32) → Prop} (hG : tn_Gd ks ρ) (hΓ : tn_is Γ m_X5_faultOfCells) (hK : tn_rt Γ m_X5_faultOfCells K) (c1 : Nat) (a1 : Int32) (a2 : Int32) (a3 : Int32) (hc1 : tn_Sb c1) (h : ((¬ (σ c1 1) = 0 → (((σ c1 2) = a1 → ((0 ≤ a3 → tn_CI m_X2_hasCells [.ref c1, .int a2, .int a3] ks ρ σ (fun r1 σ1 => ((r1 = 0 → K (some (.int (3 : Int32))) ks ρ σ1) ∧ (¬ r1 = 0 → K (some (.int (0 : Int32))) ks ρ σ1)))) ∧ (¬ 0 ≤ a3 → K (some (.int (4 : Int32))) ks ρ σ))) ∧ (¬ (σ c1 2) = a1 → K (some (.int (2 : Int32))) ks ρ σ))) ∧ ((σ c1 1) = 0 → K (some (.int (1 : Int32))) ks ρ σ))) : tn_A Γ 0 [.ref c1, .int a1, .int a2, .int a3] [] 0 0 ks ρ σ := by
  refine tn_aload_n (pc := 0) hΓ d_X5_faultOfCells_0 rfl ?_
  refine tn_getI (pc := 1) hΓ d_X5_faultOfCells_1 fl_5_207 rfl (gs_k hG hc1) ?_
  refine tn_if_ne (tgt := 9) (pc := 4) hΓ d_X5_faultOfCells_4 (by decide) (fun hq => ?_) (fun hq => ?_)
  · have h := h.1 hq
    refine tn_aload_n (pc := 9) hΓ d_X5_faultOfCells_9 rfl ?_
    refine tn_getI (pc := 10) hΓ d_X5_faultOfCells_10 fl_5_219 rfl (gs_k hG hc1) ?_
    refine tn_iload_n (pc := 13) hΓ d_X5_faultOfCells_13 rfl ?_
    refine tn_icmp_eq (tgt := 19) (pc := 14) hΓ d_X5_faultOfCells_14 (by decide) (fun hq => ?_) (fun hq => ?_)
    · have h := h.1 hq
      refine tn_iload_n (pc := 19) hΓ d_X5_faultOfCells_19 rfl ?_
      refine tn_if_ge (tgt := 25) (pc := 20) hΓ d_X5_faultOfCells_20 (by decide) (fun hq => ?_) (fun hq => ?_)
      · have h := h.1 hq
        refine tn_aload_n (pc := 25) hΓ d_X5_faultOfCells_25 rfl ?_
        refine tn_iload_n (pc := 26) hΓ d_X5_faultOfCells_26 rfl ?_
        refine tn_iload_n (pc := 27) hΓ d_X5_faultOfCells_27 rfl ?_
        refine tn_cvI (As := [.int a2, .int a3]) (st := []) (pc := 28) hΓ d_X5_faultOfCells_28 mv_X2_hasCells im_X2_hasCells se_X2_hasCells ml_5_210 ⟨⟨by decide, by decide⟩, by decide, by decide⟩ rfl rfl rfl (by decide) ⟨_, rfl⟩ (gs_k hG hc1) (Nat.le_of_ble_eq_true rfl) rfl h (fun r1 σ1 h => ?_)
        refine tn_if_eq (tgt := 38) (pc := 31) hΓ d_X5_faultOfCells_31 (by decide) (fun hq => ?_) (fun hq => ?_)
        · have h := h.1 hq
          refine tn_iconst (pc := 38) hΓ d_X5_faultOfCells_38 ic_3 ?_
          exact tn_ret_i (pc := 39) hΓ hK d_X5_faultOfCells_39 rfl (by decide) (by decide) h
        · have h := h.2 hq
          refine tn_iconst (pc := 34) hΓ d_X5_faultOfCells_34 ic_0 ?_
          refine tn_goto (tgt := 39) (pc := 35) hΓ d_X5_faultOfCells_35 (by decide) ?_
          exact tn_ret_i (pc := 39) hΓ hK d_X5_faultOfCells_39 rfl (by decide) (by decide) h
      · have h := h.2 hq
        refine tn_iconst (pc := 23) hΓ d_X5_faultOfCells_23 ic_4 ?_
        exact tn_ret_i (pc := 24) hΓ hK d_X5_faultOfCells_24 rfl (by decide) (by decide) h
    · have h := h.2 hq
      refine tn_iconst (pc := 17) hΓ d_X5_faultOfCells_17 ic_2 ?_
      exact tn_ret_i (pc := 18) hΓ hK d_X5_faultOfCells_18 rfl (by decide) (by decide) h
  · have h := h.2 hq
    refine tn_iconst (pc := 7) hΓ d_X5_faultOfCells_7 ic_1 ?_
    exact tn_ret_i (pc := 8) hΓ hK d_X5_faultOfCells_8 rfl (by decide) (by decide) h
theorem k_X5_areActs_0 {Γ : tn_G} {ks : List (Nat × Nat)} {ρ : Nat → Nat → Nat} {σ : Nat → Nat → Int32} {K : Option Value → List (Nat × Nat) → (Nat → Nat → Nat) → (Nat → Nat → Int32) → Prop} (hG : tn_Gd ks ρ) (hΓ : tn_is Γ m_X5_areActs) (hK : tn_rt Γ m_X5_areActs K) (c1 : Nat) (a1 : Int32) (a2 : Int32) (hc1 : tn_Sb c1) (h : tn_A Γ 2 [.ref c1, .int a1, .int a2, .int (0 : Int32)] [] 0 0 ks ρ σ) : tn_A Γ 0 [.ref c1, .int a1, .int a2, .null] [] 0 0 ks ρ σ := by
  refine tn_iconst (pc := 0) hΓ d_X5_areActs_0 ic_0 ?_
  refine tn_istore_n (loc' := [.ref c1, .int a1, .int a2, .int (0 : Int32)]) (pc := 1) hΓ d_X5_areActs_1 (by decide) rfl rfl ?_
  exact h
theorem k_X5_areActs_2 {Γ : tn_G} {ks : List (Nat × Nat)} {ρ : Nat → Nat → Nat} {σ : Nat → Nat → Int32} {K : Option Value → List (Nat × Nat) → (Nat → Nat → Nat) → (Nat → Nat → Int32) → Prop} (hG : tn_Gd ks ρ) (hΓ : tn_is Γ m_X5_areActs) (hK : tn_rt Γ m_X5_areActs K) (c1 : Nat) (hc1 : tn_Sb c1) (y1 : Int32) (y2 : Int32) (y3 : Int32) (h : ((y2 ≤ y3 → K (some (.int (1 : Int32))) ks ρ σ) ∧ (¬ y2 ≤ y3 → (vp_in (y1 + y3) 60 ∧ tn_CI m_X5_isWithin [.int (σ (c1 + 1) (y1 + y3).toNatClampNeg), .int (0 : Int32), .int (14 : Int32)] ks ρ σ (fun r1 σ1 => ((¬ r1 = 0 → (∀ x1 : Int32, x1 = y3 + (1 : Int32) → tn_A Γ 2 [.ref c1, .int y1, .int y2, .int x1] [] 0 0 ks ρ σ1)) ∧ (r1 = 0 → K (some (.int (0 : Int32))) ks ρ σ1))))))) : tn_A Γ 2 [.ref c1, .int y1, .int y2, .int y3] [] 0 0 ks ρ σ := by
  refine tn_iload_n (pc := 2) hΓ d_X5_areActs_2 rfl ?_
  refine tn_iload_n (pc := 3) hΓ d_X5_areActs_3 rfl ?_
  refine tn_icmp_ge (tgt := 32) (pc := 4) hΓ d_X5_areActs_4 (by decide) (fun hq => ?_) (fun hq => ?_)
  · have h := h.1 hq
    refine tn_iconst (pc := 32) hΓ d_X5_areActs_32 ic_1 ?_
    exact tn_ret_z (pc := 33) hΓ hK d_X5_areActs_33 rfl (by decide) (by decide) (Or.inr rfl) h
  · have h := h.2 hq
    refine tn_aload_n (pc := 7) hΓ d_X5_areActs_7 rfl ?_
    refine tn_getRy (y := c1 + 1) (pc := 8) hΓ d_X5_areActs_8 fl_5_213 rfl (gs_k hG hc1) (gs_c hG hc1) ?_
    refine tn_iload_n (pc := 11) hΓ d_X5_areActs_11 rfl ?_
    refine tn_iload_n (pc := 12) hΓ d_X5_areActs_12 rfl ?_
    refine tn_iadd (pc := 13) hΓ d_X5_areActs_13 ?_
    obtain ⟨hi1, h⟩ := h
    refine tn_ald (pc := 14) hΓ d_X5_areActs_14 (gs_kc hG hc1) hi1 ?_
    refine tn_iconst (pc := 15) hΓ d_X5_areActs_15 ic_0 ?_
    refine tn_bipush (pc := 16) hΓ d_X5_areActs_16 bp_14 ?_
    refine tn_csI (As := [.int (σ (c1 + 1) (y1 + y3).toNatClampNeg), .int (0 : Int32), .int (14 : Int32)]) (st := []) (pc := 18) hΓ d_X5_areActs_18 mv_X5_isWithin st_X5_isWithin ml_5_125 ⟨⟨by decide, by decide⟩, by decide, by decide⟩ rfl rfl rfl (Nat.le_of_ble_eq_true rfl) rfl h (fun r1 σ1 h => ?_)
    refine tn_if_ne (tgt := 26) (pc := 21) hΓ d_X5_areActs_21 (by decide) (fun hq => ?_) (fun hq => ?_)
    · have h := h.1 hq
      refine tn_iincw (loc' := fun v_ => [.ref c1, .int y1, .int y2, .int v_]) (pc := 26) hΓ d_X5_areActs_26 rfl ic_1 (by decide) rfl (fun _ => rfl) (fun x1 ex1 => ?_)
      have h := h x1 ex1
      refine tn_goto (tgt := 2) (pc := 29) hΓ d_X5_areActs_29 (by decide) ?_
      exact h
    · have h := h.2 hq
      refine tn_iconst (pc := 24) hΓ d_X5_areActs_24 ic_0 ?_
      exact tn_ret_z (pc := 25) hΓ hK d_X5_areActs_25 rfl (by decide) (by decide) (Or.inl rfl) h
theorem k_X5_firstWrongOfDay_0 {Γ : tn_G} {ks : List (Nat × Nat)} {ρ : Nat → Nat → Nat} {σ : Nat → Nat → Int32} {K : Option Value → List (Nat × Nat) → (Nat → Nat → Nat) → (Nat → Nat → Int32) → Prop} (hG : tn_Gd ks ρ) (hΓ : tn_is Γ m_X5_firstWrongOfDay) (hK : tn_rt Γ m_X5_firstWrongOfDay K) (c1 : Nat) (a1 : Int32) (a2 : Int32) (hc1 : tn_Sb c1) (h : tn_CV m_X1_become [.ref 15, .ref 3] ks ρ σ (fun σ1 => tn_A Γ 14 [.ref 2, .ref c1, .int a1, .int a2, .int (0 : Int32)] [] 0 0 ks ρ σ1)) : tn_A Γ 0 [.ref 2, .ref c1, .int a1, .int a2, .null] [] 0 0 ks ρ σ := by
  refine tn_aload_n (pc := 0) hΓ d_X5_firstWrongOfDay_0 rfl ?_
  refine tn_getRy (y := 15) (pc := 1) hΓ d_X5_firstWrongOfDay_1 fl_5_18 rfl (gd_k hG (c := 2) rfl) (gd_r hG 2 1 15 rfl rfl) ?_
  refine tn_aload_n (pc := 4) hΓ d_X5_firstWrongOfDay_4 rfl ?_
  refine tn_getRy (y := 3) (pc := 5) hΓ d_X5_firstWrongOfDay_5 fl_5_12 rfl (gd_k hG (c := 2) rfl) (gd_r hG 2 0 3 rfl rfl) ?_
  refine tn_cvV (As := [.ref 3]) (st := []) (pc := 8) hΓ d_X5_firstWrongOfDay_8 mv_X1_become im_X1_become se_X1_become ml_5_70 ⟨⟨by decide, by decide⟩, by decide, by decide⟩ rfl rfl rfl (by decide) ⟨_, rfl⟩ (gp_k hG pb15) (Nat.le_of_ble_eq_true rfl) rfl h (fun σ1 h => ?_)
  refine tn_iconst (pc := 11) hΓ d_X5_firstWrongOfDay_11 ic_0 ?_
  refine tn_istore (loc' := [.ref 2, .ref c1, .int a1, .int a2, .int (0 : Int32)]) (pc := 12) hΓ d_X5_firstWrongOfDay_12 (by decide) rfl rfl ?_
  exact h
theorem k_X5_firstWrongOfDay_14 {Γ : tn_G} {ks : List (Nat × Nat)} {ρ : Nat → Nat → Nat} {σ : Nat → Nat → Int32} {K : Option Value → List (Nat × Nat) → (Nat → Nat → Nat) → (Nat → Nat → Int32) → Prop} (hG : tn_Gd ks ρ) (hΓ : tn_is Γ m_X5_firstWrongOfDay) (hK : tn_rt Γ m_X5_firstWrongOfDay K) (c1 : Nat) (hc1 : tn_Sb c1) (y2 : Int32) (y3 : Int32) (y4 : Int32) (h : ((y3 ≤ y4 → K (some (.int (-9 : Int32))) ks ρ σ) ∧ (¬ y3 ≤ y4 → (vp_in (y2 + y4) 60 ∧ tn_CI m_X1_acts [.ref 15, .int (σ (c1 + 1) (y2 + y4).toNatClampNeg)] ks ρ σ (fun r1 σ1 => ((¬ r1 = 0 → (∀ x1 : Int32, x1 = y4 + (1 : Int32) → tn_A Γ 14 [.ref 2, .ref c1, .int y2, .int y3, .int x1] [] 0 0 ks ρ σ1)) ∧ (r1 = 0 → K (some (.int y4)) ks ρ σ1))))))) : tn_A Γ 14 [.ref 2, .ref c1, .int y2, .int y3, .int y4] [] 0 0 ks ρ σ := by
  refine tn_iload (pc := 14) hΓ d_X5_firstWrongOfDay_14 rfl ?_
  refine tn_iload_n (pc := 16) hΓ d_X5_firstWrongOfDay_16 rfl ?_
  refine tn_icmp_ge (tgt := 48) (pc := 17) hΓ d_X5_firstWrongOfDay_17 (by decide) (fun hq => ?_) (fun hq => ?_)
  · have h := h.1 hq
    refine tn_bipush (pc := 48) hΓ d_X5_firstWrongOfDay_48 bp_m9 ?_
    exact tn_ret_i (pc := 50) hΓ hK d_X5_firstWrongOfDay_50 rfl (by decide) (by decide) h
  · have h := h.2 hq
    refine tn_aload_n (pc := 20) hΓ d_X5_firstWrongOfDay_20 rfl ?_
    refine tn_getRy (y := 15) (pc := 21) hΓ d_X5_firstWrongOfDay_21 fl_5_18 rfl (gd_k hG (c := 2) rfl) (gd_r hG 2 1 15 rfl rfl) ?_
    refine tn_aload_n (pc := 24) hΓ d_X5_firstWrongOfDay_24 rfl ?_
    refine tn_getRy (y := c1 + 1) (pc := 25) hΓ d_X5_firstWrongOfDay_25 fl_5_213 rfl (gs_k hG hc1) (gs_c hG hc1) ?_
    refine tn_iload_n (pc := 28) hΓ d_X5_firstWrongOfDay_28 rfl ?_
    refine tn_iload (pc := 29) hΓ d_X5_firstWrongOfDay_29 rfl ?_
    refine tn_iadd (pc := 31) hΓ d_X5_firstWrongOfDay_31 ?_
    obtain ⟨hi1, h⟩ := h
    refine tn_ald (pc := 32) hΓ d_X5_firstWrongOfDay_32 (gs_kc hG hc1) hi1 ?_
    refine tn_cvI (As := [.int (σ (c1 + 1) (y2 + y4).toNatClampNeg)]) (st := []) (pc := 33) hΓ d_X5_firstWrongOfDay_33 mv_X1_acts im_X1_acts se_X1_acts ml_5_257 ⟨⟨by decide, by decide⟩, by decide, by decide⟩ rfl rfl rfl (by decide) ⟨_, rfl⟩ (gp_k hG pb15) (Nat.le_of_ble_eq_true rfl) rfl h (fun r1 σ1 h => ?_)
    refine tn_if_ne (tgt := 42) (pc := 36) hΓ d_X5_firstWrongOfDay_36 (by decide) (fun hq => ?_) (fun hq => ?_)
    · have h := h.1 hq
      refine tn_iincw (loc' := fun v_ => [.ref 2, .ref c1, .int y2, .int y3, .int v_]) (pc := 42) hΓ d_X5_firstWrongOfDay_42 rfl ic_1 (by decide) rfl (fun _ => rfl) (fun x1 ex1 => ?_)
      have h := h x1 ex1
      refine tn_goto (tgt := 14) (pc := 45) hΓ d_X5_firstWrongOfDay_45 (by decide) ?_
      exact h
    · have h := h.2 hq
      refine tn_iload (pc := 39) hΓ d_X5_firstWrongOfDay_39 rfl ?_
      exact tn_ret_i (pc := 41) hΓ hK d_X5_firstWrongOfDay_41 rfl (by decide) (by decide) h
theorem k_X5_afterDay_0 {Γ : tn_G} {ks : List (Nat × Nat)} {ρ : Nat → Nat → Nat} {σ : Nat → Nat → Int32} {K : Option Value → List (Nat × Nat) → (Nat → Nat → Nat) → (Nat → Nat → Int32) → Prop} (hG : tn_Gd ks ρ) (hΓ : tn_is Γ m_X5_afterDay) (hK : tn_rt Γ m_X5_afterDay K) (a0 : Int32) (h : ((a0 = (0 : Int32) → tn_CI m_X1_voice [.ref 15] ks ρ σ (fun r1 σ1 => K (some (.int r1)) ks ρ σ1)) ∧ (¬ a0 = (0 : Int32) → ((a0 = (1 : Int32) → (∀ x1 : Int32, x1 = (a0 - (10 : Int32)) → tn_CI m_X1_hasHouse [.ref 15, .int x1] ks ρ σ (fun r2 σ2 => ((r2 = 0 → K (some (.int (-9 : Int32))) ks ρ σ2) ∧ (¬ r2 = 0 → (vp_in x1 5 ∧ K (some (.int (σ2 (15 + 3 + x1.toNatClampNeg) 2))) ks ρ σ2)))))) ∧ (¬ a0 = (1 : Int32) → ((a0 = (2 : Int32) → tn_CI m_X1_hatsLost [.ref 15] ks ρ σ (fun r3 σ3 => tn_CI m_X1_hatsLost [.ref 3] ks ρ σ3 (fun r4 σ4 => K (some (.int (r3 - r4))) ks ρ σ4))) ∧ (¬ a0 = (2 : Int32) → ((a0 = (3 : Int32) → tn_CI m_X1_ranklingSet [.ref 15] ks ρ σ (fun r5 σ5 => K (some (.int r5)) ks ρ σ5)) ∧ (¬ a0 = (3 : Int32) → ((a0 = (4 : Int32) → K (some (.int (σ 15 5))) ks ρ σ) ∧ (¬ a0 = (4 : Int32) → (∀ x2 : Int32, x2 = (a0 - (10 : Int32)) → tn_CI m_X1_hasHouse [.ref 15, .int x2] ks ρ σ (fun r6 σ6 => ((r6 = 0 → K (some (.int (-9 : Int32))) ks ρ σ6) ∧ (¬ r6 = 0 → (vp_in x2 5 ∧ K (some (.int (σ6 (15 + 3 + x2.toNatClampNeg) 2))) ks ρ σ6)))))))))))))))) : tn_A Γ 0 [.ref 2, .int a0, .null] [] 0 0 ks ρ σ := by
  refine tn_iload_n (pc := 0) hΓ d_X5_afterDay_0 rfl ?_
  refine tn_byc (a0 = (0 : Int32)) (fun hq => ?_) (fun hq0 => ?_)
  · have h := h.1 hq
    refine tn_tblIn (off := 35) (tgt := 36) (pc := 1) hΓ d_X5_afterDay_1 (by rw [hq] <;> decide) (by rw [hq] <;> decide) (by rw [hq] <;> rfl) (by decide) ?_
    refine tn_aload_n (pc := 36) hΓ d_X5_afterDay_36 rfl ?_
    refine tn_getRy (y := 15) (pc := 37) hΓ d_X5_afterDay_37 fl_5_18 rfl (gd_k hG (c := 2) rfl) (gd_r hG 2 1 15 rfl rfl) ?_
    refine tn_cvI (As := []) (st := []) (pc := 40) hΓ d_X5_afterDay_40 mv_X1_voice im_X1_voice se_X1_voice ml_5_132 ⟨⟨by decide, by decide⟩, by decide, by decide⟩ rfl rfl rfl (by decide) ⟨_, rfl⟩ (gp_k hG pb15) (Nat.le_of_ble_eq_true rfl) rfl h (fun r1 σ1 h => ?_)
    exact tn_ret_i (pc := 43) hΓ hK d_X5_afterDay_43 rfl (by decide) (by decide) h
  have h := h.2 hq0
  refine tn_byc (a0 = (1 : Int32)) (fun hq => ?_) (fun hq1 => ?_)
  · have h := h.1 hq
    refine tn_tblIn (off := 75) (tgt := 76) (pc := 1) hΓ d_X5_afterDay_1 (by rw [hq] <;> decide) (by rw [hq] <;> decide) (by rw [hq] <;> rfl) (by decide) ?_
    refine tn_iload_n (pc := 76) hΓ d_X5_afterDay_76 rfl ?_
    refine tn_bipush (pc := 77) hΓ d_X5_afterDay_77 bp_10 ?_
    refine tn_isub (pc := 79) hΓ d_X5_afterDay_79 ?_
    refine tn_topi (fun x1 ex1 => ?_)
    have h := h x1 ex1
    refine tn_istore_n (loc' := [.ref 2, .int a0, .int x1]) (pc := 80) hΓ d_X5_afterDay_80 (by decide) rfl rfl ?_
    refine tn_aload_n (pc := 81) hΓ d_X5_afterDay_81 rfl ?_
    refine tn_getRy (y := 15) (pc := 82) hΓ d_X5_afterDay_82 fl_5_18 rfl (gd_k hG (c := 2) rfl) (gd_r hG 2 1 15 rfl rfl) ?_
    refine tn_iload_n (pc := 85) hΓ d_X5_afterDay_85 rfl ?_
    refine tn_cvI (As := [.int x1]) (st := []) (pc := 86) hΓ d_X5_afterDay_86 mv_X1_hasHouse im_X1_hasHouse se_X1_hasHouse ml_5_77 ⟨⟨by decide, by decide⟩, by decide, by decide⟩ rfl rfl rfl (by decide) ⟨_, rfl⟩ (gp_k hG pb15) (Nat.le_of_ble_eq_true rfl) rfl h (fun r2 σ2 h => ?_)
    refine tn_if_eq (tgt := 107) (pc := 89) hΓ d_X5_afterDay_89 (by decide) (fun hq => ?_) (fun hq => ?_)
    · have h := h.1 hq
      refine tn_bipush (pc := 107) hΓ d_X5_afterDay_107 bp_m9 ?_
      exact tn_ret_i (pc := 109) hΓ hK d_X5_afterDay_109 rfl (by decide) (by decide) h
    · have h := h.2 hq
      refine tn_aload_n (pc := 92) hΓ d_X5_afterDay_92 rfl ?_
      refine tn_getRy (y := 15) (pc := 93) hΓ d_X5_afterDay_93 fl_5_18 rfl (gd_k hG (c := 2) rfl) (gd_r hG 2 1 15 rfl rfl) ?_
      refine tn_getRy (y := 15 + 1) (pc := 96) hΓ d_X5_afterDay_96 fl_5_80 rfl (gp_k hG pb15) (gp_h hG pb15) ?_
      refine tn_iload_n (pc := 99) hΓ d_X5_afterDay_99 rfl ?_
      obtain ⟨hi1, h⟩ := h
      refine tn_aaldy (t := 0) (y := 15 + 3 + x1.toNatClampNeg) (pc := 100) hΓ d_X5_afterDay_100 (by decide) (gp_kh hG pb15) hi1 (gp_H hG pb15 hi1) ?_
      refine tn_getI (pc := 101) hΓ d_X5_afterDay_101 fl_5_92 rfl (gp_kH hG pb15 (tn_inN hi1)) ?_
      refine tn_goto (tgt := 109) (pc := 104) hΓ d_X5_afterDay_104 (by decide) ?_
      exact tn_ret_i (pc := 109) hΓ hK d_X5_afterDay_109 rfl (by decide) (by decide) h
  have h := h.2 hq1
  refine tn_byc (a0 = (2 : Int32)) (fun hq => ?_) (fun hq2 => ?_)
  · have h := h.1 hq
    refine tn_tblIn (off := 43) (tgt := 44) (pc := 1) hΓ d_X5_afterDay_1 (by rw [hq] <;> decide) (by rw [hq] <;> decide) (by rw [hq] <;> rfl) (by decide) ?_
    refine tn_aload_n (pc := 44) hΓ d_X5_afterDay_44 rfl ?_
    refine tn_getRy (y := 15) (pc := 45) hΓ d_X5_afterDay_45 fl_5_18 rfl (gd_k hG (c := 2) rfl) (gd_r hG 2 1 15 rfl rfl) ?_
    refine tn_cvI (As := []) (st := []) (pc := 48) hΓ d_X5_afterDay_48 mv_X1_hatsLost im_X1_hatsLost se_X1_hatsLost ml_5_158 ⟨⟨by decide, by decide⟩, by decide, by decide⟩ rfl rfl rfl (by decide) ⟨_, rfl⟩ (gp_k hG pb15) (Nat.le_of_ble_eq_true rfl) rfl h (fun r3 σ3 h => ?_)
    refine tn_aload_n (pc := 51) hΓ d_X5_afterDay_51 rfl ?_
    refine tn_getRy (y := 3) (pc := 52) hΓ d_X5_afterDay_52 fl_5_12 rfl (gd_k hG (c := 2) rfl) (gd_r hG 2 0 3 rfl rfl) ?_
    refine tn_cvI (As := []) (st := [.int r3]) (pc := 55) hΓ d_X5_afterDay_55 mv_X1_hatsLost im_X1_hatsLost se_X1_hatsLost ml_5_158 ⟨⟨by decide, by decide⟩, by decide, by decide⟩ rfl rfl rfl (by decide) ⟨_, rfl⟩ (gp_k hG pb3) (Nat.le_of_ble_eq_true rfl) rfl h (fun r4 σ4 h => ?_)
    refine tn_isub (pc := 58) hΓ d_X5_afterDay_58 ?_
    exact tn_ret_i (pc := 59) hΓ hK d_X5_afterDay_59 rfl (by decide) (by decide) h
  have h := h.2 hq2
  refine tn_byc (a0 = (3 : Int32)) (fun hq => ?_) (fun hq3 => ?_)
  · have h := h.1 hq
    refine tn_tblIn (off := 59) (tgt := 60) (pc := 1) hΓ d_X5_afterDay_1 (by rw [hq] <;> decide) (by rw [hq] <;> decide) (by rw [hq] <;> rfl) (by decide) ?_
    refine tn_aload_n (pc := 60) hΓ d_X5_afterDay_60 rfl ?_
    refine tn_getRy (y := 15) (pc := 61) hΓ d_X5_afterDay_61 fl_5_18 rfl (gd_k hG (c := 2) rfl) (gd_r hG 2 1 15 rfl rfl) ?_
    refine tn_cvI (As := []) (st := []) (pc := 64) hΓ d_X5_afterDay_64 mv_X1_ranklingSet im_X1_ranklingSet se_X1_ranklingSet ml_5_260 ⟨⟨by decide, by decide⟩, by decide, by decide⟩ rfl rfl rfl (by decide) ⟨_, rfl⟩ (gp_k hG pb15) (Nat.le_of_ble_eq_true rfl) rfl h (fun r5 σ5 h => ?_)
    exact tn_ret_i (pc := 67) hΓ hK d_X5_afterDay_67 rfl (by decide) (by decide) h
  have h := h.2 hq3
  refine tn_byc (a0 = (4 : Int32)) (fun hq => ?_) (fun hq4 => ?_)
  · have h := h.1 hq
    refine tn_tblIn (off := 67) (tgt := 68) (pc := 1) hΓ d_X5_afterDay_1 (by rw [hq] <;> decide) (by rw [hq] <;> decide) (by rw [hq] <;> rfl) (by decide) ?_
    refine tn_aload_n (pc := 68) hΓ d_X5_afterDay_68 rfl ?_
    refine tn_getRy (y := 15) (pc := 69) hΓ d_X5_afterDay_69 fl_5_18 rfl (gd_k hG (c := 2) rfl) (gd_r hG 2 1 15 rfl rfl) ?_
    refine tn_getI (pc := 72) hΓ d_X5_afterDay_72 fl_5_155 rfl (gp_k hG pb15) ?_
    exact tn_ret_i (pc := 75) hΓ hK d_X5_afterDay_75 rfl (by decide) (by decide) h
  have h := h.2 hq4
  refine tn_tblOut (tgt := 76) (pc := 1) hΓ d_X5_afterDay_1 (tn_out_0_4 hq0 hq1 hq2 hq3 hq4) (by decide) ?_
  refine tn_iload_n (pc := 76) hΓ d_X5_afterDay_76 rfl ?_
  refine tn_bipush (pc := 77) hΓ d_X5_afterDay_77 bp_10 ?_
  refine tn_isub (pc := 79) hΓ d_X5_afterDay_79 ?_
  refine tn_topi (fun x2 ex2 => ?_)
  have h := h x2 ex2
  refine tn_istore_n (loc' := [.ref 2, .int a0, .int x2]) (pc := 80) hΓ d_X5_afterDay_80 (by decide) rfl rfl ?_
  refine tn_aload_n (pc := 81) hΓ d_X5_afterDay_81 rfl ?_
  refine tn_getRy (y := 15) (pc := 82) hΓ d_X5_afterDay_82 fl_5_18 rfl (gd_k hG (c := 2) rfl) (gd_r hG 2 1 15 rfl rfl) ?_
  refine tn_iload_n (pc := 85) hΓ d_X5_afterDay_85 rfl ?_
  refine tn_cvI (As := [.int x2]) (st := []) (pc := 86) hΓ d_X5_afterDay_86 mv_X1_hasHouse im_X1_hasHouse se_X1_hasHouse ml_5_77 ⟨⟨by decide, by decide⟩, by decide, by decide⟩ rfl rfl rfl (by decide) ⟨_, rfl⟩ (gp_k hG pb15) (Nat.le_of_ble_eq_true rfl) rfl h (fun r6 σ6 h => ?_)
  refine tn_if_eq (tgt := 107) (pc := 89) hΓ d_X5_afterDay_89 (by decide) (fun hq => ?_) (fun hq => ?_)
  · have h := h.1 hq
    refine tn_bipush (pc := 107) hΓ d_X5_afterDay_107 bp_m9 ?_
    exact tn_ret_i (pc := 109) hΓ hK d_X5_afterDay_109 rfl (by decide) (by decide) h
  · have h := h.2 hq
    refine tn_aload_n (pc := 92) hΓ d_X5_afterDay_92 rfl ?_
    refine tn_getRy (y := 15) (pc := 93) hΓ d_X5_afterDay_93 fl_5_18 rfl (gd_k hG (c := 2) rfl) (gd_r hG 2 1 15 rfl rfl) ?_
    refine tn_getRy (y := 15 + 1) (pc := 96) hΓ d_X5_afterDay_96 fl_5_80 rfl (gp_k hG pb15) (gp_h hG pb15) ?_
    refine tn_iload_n (pc := 99) hΓ d_X5_afterDay_99 rfl ?_
    obtain ⟨hi2, h⟩ := h
    refine tn_aaldy (t := 0) (y := 15 + 3 + x2.toNatClampNeg) (pc := 100) hΓ d_X5_afterDay_100 (by decide) (gp_kh hG pb15) hi2 (gp_H hG pb15 hi2) ?_
    refine tn_getI (pc := 101) hΓ d_X5_afterDay_101 fl_5_92 rfl (gp_kH hG pb15 (tn_inN hi2)) ?_
    refine tn_goto (tgt := 109) (pc := 104) hΓ d_X5_afterDay_104 (by decide) ?_
    exact tn_ret_i (pc := 109) hΓ hK d_X5_afterDay_109 rfl (by decide) (by decide) h
theorem k_X5_isQuietIfOwned_0 {Γ : tn_G} {ks : List (Nat × Nat)} {ρ : Nat → Nat → Nat} {σ : Nat → Nat → Int32} {K : Option Value → List (Nat × Nat) → (Nat → Nat → Nat) → (Nat → Nat → Int32) → Prop} (hG : tn_Gd ks ρ) (hΓ : tn_is Γ m_X5_isQuietIfOwned) (hK : tn_rt Γ m_X5_isQuietIfOwned K) (a0 : Int32) (a1 : Int32) (h : tn_CV m_X1_become [.ref 15, .ref 3] ks ρ σ (fun σ1 => tn_CV m_X1_ownUpAll [.ref 15, .int a0] ks ρ σ1 (fun σ2 => tn_CI m_X1_nightsUntilQuiet [.ref 15, .int a1] ks ρ σ2 (fun r1 σ3 => ((r1 = (-9 : Int32) → K (some (.int (0 : Int32))) ks ρ σ3) ∧ (¬ r1 = (-9 : Int32) → K (some (.int (1 : Int32))) ks ρ σ3)))))) : tn_A Γ 0 [.ref 2, .int a0, .int a1] [] 0 0 ks ρ σ := by
  refine tn_aload_n (pc := 0) hΓ d_X5_isQuietIfOwned_0 rfl ?_
  refine tn_getRy (y := 15) (pc := 1) hΓ d_X5_isQuietIfOwned_1 fl_5_18 rfl (gd_k hG (c := 2) rfl) (gd_r hG 2 1 15 rfl rfl) ?_
  refine tn_aload_n (pc := 4) hΓ d_X5_isQuietIfOwned_4 rfl ?_
  refine tn_getRy (y := 3) (pc := 5) hΓ d_X5_isQuietIfOwned_5 fl_5_12 rfl (gd_k hG (c := 2) rfl) (gd_r hG 2 0 3 rfl rfl) ?_
  refine tn_cvV (As := [.ref 3]) (st := []) (pc := 8) hΓ d_X5_isQuietIfOwned_8 mv_X1_become im_X1_become se_X1_become ml_5_70 ⟨⟨by decide, by decide⟩, by decide, by decide⟩ rfl rfl rfl (by decide) ⟨_, rfl⟩ (gp_k hG pb15) (Nat.le_of_ble_eq_true rfl) rfl h (fun σ1 h => ?_)
  refine tn_aload_n (pc := 11) hΓ d_X5_isQuietIfOwned_11 rfl ?_
  refine tn_getRy (y := 15) (pc := 12) hΓ d_X5_isQuietIfOwned_12 fl_5_18 rfl (gd_k hG (c := 2) rfl) (gd_r hG 2 1 15 rfl rfl) ?_
  refine tn_iload_n (pc := 15) hΓ d_X5_isQuietIfOwned_15 rfl ?_
  refine tn_cvV (As := [.int a0]) (st := []) (pc := 16) hΓ d_X5_isQuietIfOwned_16 mv_X1_ownUpAll im_X1_ownUpAll se_X1_ownUpAll ml_5_263 ⟨⟨by decide, by decide⟩, by decide, by decide⟩ rfl rfl rfl (by decide) ⟨_, rfl⟩ (gp_k hG pb15) (Nat.le_of_ble_eq_true rfl) rfl h (fun σ2 h => ?_)
  refine tn_aload_n (pc := 19) hΓ d_X5_isQuietIfOwned_19 rfl ?_
  refine tn_getRy (y := 15) (pc := 20) hΓ d_X5_isQuietIfOwned_20 fl_5_18 rfl (gd_k hG (c := 2) rfl) (gd_r hG 2 1 15 rfl rfl) ?_
  refine tn_iload_n (pc := 23) hΓ d_X5_isQuietIfOwned_23 rfl ?_
  refine tn_cvI (As := [.int a1]) (st := []) (pc := 24) hΓ d_X5_isQuietIfOwned_24 mv_X1_nightsUntilQuiet im_X1_nightsUntilQuiet se_X1_nightsUntilQuiet ml_5_161 ⟨⟨by decide, by decide⟩, by decide, by decide⟩ rfl rfl rfl (by decide) ⟨_, rfl⟩ (gp_k hG pb15) (Nat.le_of_ble_eq_true rfl) rfl h (fun r1 σ3 h => ?_)
  refine tn_bipush (pc := 27) hΓ d_X5_isQuietIfOwned_27 bp_m9 ?_
  refine tn_icmp_eq (tgt := 36) (pc := 29) hΓ d_X5_isQuietIfOwned_29 (by decide) (fun hq => ?_) (fun hq => ?_)
  · have h := h.1 hq
    refine tn_iconst (pc := 36) hΓ d_X5_isQuietIfOwned_36 ic_0 ?_
    exact tn_ret_z (pc := 37) hΓ hK d_X5_isQuietIfOwned_37 rfl (by decide) (by decide) (Or.inl rfl) h
  · have h := h.2 hq
    refine tn_iconst (pc := 32) hΓ d_X5_isQuietIfOwned_32 ic_1 ?_
    refine tn_goto (tgt := 37) (pc := 33) hΓ d_X5_isQuietIfOwned_33 (by decide) ?_
    exact tn_ret_z (pc := 37) hΓ hK d_X5_isQuietIfOwned_37 rfl (by decide) (by decide) (Or.inr rfl) h
theorem k_X5_nightsIfChosen_0 {Γ : tn_G} {ks : List (Nat × Nat)} {ρ : Nat → Nat → Nat} {σ : Nat → Nat → Int32} {K : Option Value → List (Nat × Nat) → (Nat → Nat → Nat) → (Nat → Nat → Int32) → Prop} (hG : tn_Gd ks ρ) (hΓ : tn_is Γ m_X5_nightsIfChosen) (hK : tn_rt Γ m_X5_nightsIfChosen K) (a0 : Int32) (a1 : Int32) (a2 : Int32) (h : tn_CV m_X1_become [.ref 15, .ref 3] ks ρ σ (fun σ1 => (((a2 &&& (1 : Int32)) = 0 → (((a2 &&& (2 : Int32)) = 0 → tn_CI m_X1_nightsUntilQuiet [.ref 15, .int (20 : Int32)] ks ρ σ1 (fun r1 σ2 => ((¬ r1 = (-9 : Int32) → K (some (.int r1)) ks ρ σ2) ∧ (r1 = (-9 : Int32) → K (some (.int (20 : Int32))) ks ρ σ2)))) ∧ (¬ (a2 &&& (2 : Int32)) = 0 → (vp_in a1 5 ∧ tn_CI m_X0_ownUp [.ref (15 + 3 + a1.toNatClampNeg)] ks ρ σ1 (fun r2 σ3 => tn_CI m_X1_nightsUntilQuiet [.ref 15, .int (20 : Int32)] ks ρ σ3 (fun r3 σ4 => ((¬ r3 = (-9 : Int32) → K (some (.int r3)) ks ρ σ4) ∧ (r3 = (-9 : Int32) → K (some (.int (20 : Int32))) ks ρ σ4)))))))) ∧ (¬ (a2 &&& (1 : Int32)) = 0 → (vp_in a0 5 ∧ tn_CI m_X0_ownUp [.ref (15 + 3 + a0.toNatClampNeg)] ks ρ σ1 (fun r4 σ5 => (((a2 &&& (2 : Int32)) = 0 → tn_CI m_X1_nightsUntilQuiet [.ref 15, .int (20 : Int32)] ks ρ σ5 (fun r5 σ6 => ((¬ r5 = (-9 : Int32) → K (some (.int r5)) ks ρ σ6) ∧ (r5 = (-9 : Int32) → K (some (.int (20 : Int32))) ks ρ σ6)))) ∧ (¬ (a2 &&& (2 : Int32)) = 0 → (vp_in a1 5 ∧ tn_CI m_X0_ownUp [.ref (15 + 3 + a1.toNatClampNeg)] ks ρ σ5 (fun r6 σ7 => tn_CI m_X1_nightsUntilQuiet [.ref 15, .int (20 : Int32)] ks ρ σ7 (fun r7 σ8 => ((¬ r7 = (-9 : Int32) → K (some (.int r7)) ks ρ σ8) ∧ (r7 = (-9 : Int32) → K (some (.int (20 : Int32))) ks ρ σ8))))))))))))) : tn_A Γ 0 [.ref 2, .int a0, .int a1, .int a2, .null] [] 0 0 ks ρ σ := by
  refine tn_aload_n (pc := 0) hΓ d_X5_nightsIfChosen_0 rfl ?_
  refine tn_getRy (y := 15) (pc := 1) hΓ d_X5_nightsIfChosen_1 fl_5_18 rfl (gd_k hG (c := 2) rfl) (gd_r hG 2 1 15 rfl rfl) ?_
  refine tn_aload_n (pc := 4) hΓ d_X5_nightsIfChosen_4 rfl ?_
  refine tn_getRy (y := 3) (pc := 5) hΓ d_X5_nightsIfChosen_5 fl_5_12 rfl (gd_k hG (c := 2) rfl) (gd_r hG 2 0 3 rfl rfl) ?_
  refine tn_cvV (As := [.ref 3]) (st := []) (pc := 8) hΓ d_X5_nightsIfChosen_8 mv_X1_become im_X1_become se_X1_become ml_5_70 ⟨⟨by decide, by decide⟩, by decide, by decide⟩ rfl rfl rfl (by decide) ⟨_, rfl⟩ (gp_k hG pb15) (Nat.le_of_ble_eq_true rfl) rfl h (fun σ1 h => ?_)
  refine tn_iload_n (pc := 11) hΓ d_X5_nightsIfChosen_11 rfl ?_
  refine tn_iconst (pc := 12) hΓ d_X5_nightsIfChosen_12 ic_1 ?_
  refine tn_iand (pc := 13) hΓ d_X5_nightsIfChosen_13 ?_
  refine tn_if_eq (tgt := 30) (pc := 14) hΓ d_X5_nightsIfChosen_14 (by decide) (fun hq => ?_) (fun hq => ?_)
  · have h := h.1 hq
    refine tn_iload_n (pc := 30) hΓ d_X5_nightsIfChosen_30 rfl ?_
    refine tn_iconst (pc := 31) hΓ d_X5_nightsIfChosen_31 ic_2 ?_
    refine tn_iand (pc := 32) hΓ d_X5_nightsIfChosen_32 ?_
    refine tn_if_eq (tgt := 49) (pc := 33) hΓ d_X5_nightsIfChosen_33 (by decide) (fun hq => ?_) (fun hq => ?_)
    · have h := h.1 hq
      refine tn_aload_n (pc := 49) hΓ d_X5_nightsIfChosen_49 rfl ?_
      refine tn_getRy (y := 15) (pc := 50) hΓ d_X5_nightsIfChosen_50 fl_5_18 rfl (gd_k hG (c := 2) rfl) (gd_r hG 2 1 15 rfl rfl) ?_
      refine tn_bipush (pc := 53) hΓ d_X5_nightsIfChosen_53 bp_20 ?_
      refine tn_cvI (As := [.int (20 : Int32)]) (st := []) (pc := 55) hΓ d_X5_nightsIfChosen_55 mv_X1_nightsUntilQuiet im_X1_nightsUntilQuiet se_X1_nightsUntilQuiet ml_5_161 ⟨⟨by decide, by decide⟩, by decide, by decide⟩ rfl rfl rfl (by decide) ⟨_, rfl⟩ (gp_k hG pb15) (Nat.le_of_ble_eq_true rfl) rfl h (fun r1 σ2 h => ?_)
      refine tn_istore (loc' := [.ref 2, .int a0, .int a1, .int a2, .int r1]) (pc := 58) hΓ d_X5_nightsIfChosen_58 (by decide) rfl rfl ?_
      refine tn_iload (pc := 60) hΓ d_X5_nightsIfChosen_60 rfl ?_
      refine tn_bipush (pc := 62) hΓ d_X5_nightsIfChosen_62 bp_m9 ?_
      refine tn_icmp_ne (tgt := 72) (pc := 64) hΓ d_X5_nightsIfChosen_64 (by decide) (fun hq => ?_) (fun hq => ?_)
      · have h := h.1 hq
        refine tn_iload (pc := 72) hΓ d_X5_nightsIfChosen_72 rfl ?_
        exact tn_ret_i (pc := 74) hΓ hK d_X5_nightsIfChosen_74 rfl (by decide) (by decide) h
      · have h := h.2 hq
        refine tn_bipush (pc := 67) hΓ d_X5_nightsIfChosen_67 bp_20 ?_
        refine tn_goto (tgt := 74) (pc := 69) hΓ d_X5_nightsIfChosen_69 (by decide) ?_
        exact tn_ret_i (pc := 74) hΓ hK d_X5_nightsIfChosen_74 rfl (by decide) (by decide) h
    · have h := h.2 hq
      refine tn_aload_n (pc := 36) hΓ d_X5_nightsIfChosen_36 rfl ?_
      refine tn_getRy (y := 15) (pc := 37) hΓ d_X5_nightsIfChosen_37 fl_5_18 rfl (gd_k hG (c := 2) rfl) (gd_r hG 2 1 15 rfl rfl) ?_
      refine tn_getRy (y := 15 + 1) (pc := 40) hΓ d_X5_nightsIfChosen_40 fl_5_80 rfl (gp_k hG pb15) (gp_h hG pb15) ?_
      refine tn_iload_n (pc := 43) hΓ d_X5_nightsIfChosen_43 rfl ?_
      obtain ⟨hi1, h⟩ := h
      refine tn_aaldy (t := 0) (y := 15 + 3 + a1.toNatClampNeg) (pc := 44) hΓ d_X5_nightsIfChosen_44 (by decide) (gp_kh hG pb15) hi1 (gp_H hG pb15 hi1) ?_
      refine tn_cvI (As := []) (st := []) (pc := 45) hΓ d_X5_nightsIfChosen_45 mv_X0_ownUp im_X0_ownUp se_X0_ownUp ml_5_129 ⟨⟨by decide, by decide⟩, by decide, by decide⟩ rfl rfl rfl (by decide) ⟨_, rfl⟩ (gp_kH hG pb15 (tn_inN hi1)) (Nat.le_of_ble_eq_true rfl) rfl h (fun r2 σ3 h => ?_)
      refine tn_popi (pc := 48) hΓ d_X5_nightsIfChosen_48 ?_
      refine tn_aload_n (pc := 49) hΓ d_X5_nightsIfChosen_49 rfl ?_
      refine tn_getRy (y := 15) (pc := 50) hΓ d_X5_nightsIfChosen_50 fl_5_18 rfl (gd_k hG (c := 2) rfl) (gd_r hG 2 1 15 rfl rfl) ?_
      refine tn_bipush (pc := 53) hΓ d_X5_nightsIfChosen_53 bp_20 ?_
      refine tn_cvI (As := [.int (20 : Int32)]) (st := []) (pc := 55) hΓ d_X5_nightsIfChosen_55 mv_X1_nightsUntilQuiet im_X1_nightsUntilQuiet se_X1_nightsUntilQuiet ml_5_161 ⟨⟨by decide, by decide⟩, by decide, by decide⟩ rfl rfl rfl (by decide) ⟨_, rfl⟩ (gp_k hG pb15) (Nat.le_of_ble_eq_true rfl) rfl h (fun r3 σ4 h => ?_)
      refine tn_istore (loc' := [.ref 2, .int a0, .int a1, .int a2, .int r3]) (pc := 58) hΓ d_X5_nightsIfChosen_58 (by decide) rfl rfl ?_
      refine tn_iload (pc := 60) hΓ d_X5_nightsIfChosen_60 rfl ?_
      refine tn_bipush (pc := 62) hΓ d_X5_nightsIfChosen_62 bp_m9 ?_
      refine tn_icmp_ne (tgt := 72) (pc := 64) hΓ d_X5_nightsIfChosen_64 (by decide) (fun hq => ?_) (fun hq => ?_)
      · have h := h.1 hq
        refine tn_iload (pc := 72) hΓ d_X5_nightsIfChosen_72 rfl ?_
        exact tn_ret_i (pc := 74) hΓ hK d_X5_nightsIfChosen_74 rfl (by decide) (by decide) h
      · have h := h.2 hq
        refine tn_bipush (pc := 67) hΓ d_X5_nightsIfChosen_67 bp_20 ?_
        refine tn_goto (tgt := 74) (pc := 69) hΓ d_X5_nightsIfChosen_69 (by decide) ?_
        exact tn_ret_i (pc := 74) hΓ hK d_X5_nightsIfChosen_74 rfl (by decide) (by decide) h
  · have h := h.2 hq
    refine tn_aload_n (pc := 17) hΓ d_X5_nightsIfChosen_17 rfl ?_
    refine tn_getRy (y := 15) (pc := 18) hΓ d_X5_nightsIfChosen_18 fl_5_18 rfl (gd_k hG (c := 2) rfl) (gd_r hG 2 1 15 rfl rfl) ?_
    refine tn_getRy (y := 15 + 1) (pc := 21) hΓ d_X5_nightsIfChosen_21 fl_5_80 rfl (gp_k hG pb15) (gp_h hG pb15) ?_
    refine tn_iload_n (pc := 24) hΓ d_X5_nightsIfChosen_24 rfl ?_
    obtain ⟨hi2, h⟩ := h
    refine tn_aaldy (t := 0) (y := 15 + 3 + a0.toNatClampNeg) (pc := 25) hΓ d_X5_nightsIfChosen_25 (by decide) (gp_kh hG pb15) hi2 (gp_H hG pb15 hi2) ?_
    refine tn_cvI (As := []) (st := []) (pc := 26) hΓ d_X5_nightsIfChosen_26 mv_X0_ownUp im_X0_ownUp se_X0_ownUp ml_5_129 ⟨⟨by decide, by decide⟩, by decide, by decide⟩ rfl rfl rfl (by decide) ⟨_, rfl⟩ (gp_kH hG pb15 (tn_inN hi2)) (Nat.le_of_ble_eq_true rfl) rfl h (fun r4 σ5 h => ?_)
    refine tn_popi (pc := 29) hΓ d_X5_nightsIfChosen_29 ?_
    refine tn_iload_n (pc := 30) hΓ d_X5_nightsIfChosen_30 rfl ?_
    refine tn_iconst (pc := 31) hΓ d_X5_nightsIfChosen_31 ic_2 ?_
    refine tn_iand (pc := 32) hΓ d_X5_nightsIfChosen_32 ?_
    refine tn_if_eq (tgt := 49) (pc := 33) hΓ d_X5_nightsIfChosen_33 (by decide) (fun hq => ?_) (fun hq => ?_)
    · have h := h.1 hq
      refine tn_aload_n (pc := 49) hΓ d_X5_nightsIfChosen_49 rfl ?_
      refine tn_getRy (y := 15) (pc := 50) hΓ d_X5_nightsIfChosen_50 fl_5_18 rfl (gd_k hG (c := 2) rfl) (gd_r hG 2 1 15 rfl rfl) ?_
      refine tn_bipush (pc := 53) hΓ d_X5_nightsIfChosen_53 bp_20 ?_
      refine tn_cvI (As := [.int (20 : Int32)]) (st := []) (pc := 55) hΓ d_X5_nightsIfChosen_55 mv_X1_nightsUntilQuiet im_X1_nightsUntilQuiet se_X1_nightsUntilQuiet ml_5_161 ⟨⟨by decide, by decide⟩, by decide, by decide⟩ rfl rfl rfl (by decide) ⟨_, rfl⟩ (gp_k hG pb15) (Nat.le_of_ble_eq_true rfl) rfl h (fun r5 σ6 h => ?_)
      refine tn_istore (loc' := [.ref 2, .int a0, .int a1, .int a2, .int r5]) (pc := 58) hΓ d_X5_nightsIfChosen_58 (by decide) rfl rfl ?_
      refine tn_iload (pc := 60) hΓ d_X5_nightsIfChosen_60 rfl ?_
      refine tn_bipush (pc := 62) hΓ d_X5_nightsIfChosen_62 bp_m9 ?_
      refine tn_icmp_ne (tgt := 72) (pc := 64) hΓ d_X5_nightsIfChosen_64 (by decide) (fun hq => ?_) (fun hq => ?_)
      · have h := h.1 hq
        refine tn_iload (pc := 72) hΓ d_X5_nightsIfChosen_72 rfl ?_
        exact tn_ret_i (pc := 74) hΓ hK d_X5_nightsIfChosen_74 rfl (by decide) (by decide) h
      · have h := h.2 hq
        refine tn_bipush (pc := 67) hΓ d_X5_nightsIfChosen_67 bp_20 ?_
        refine tn_goto (tgt := 74) (pc := 69) hΓ d_X5_nightsIfChosen_69 (by decide) ?_
        exact tn_ret_i (pc := 74) hΓ hK d_X5_nightsIfChosen_74 rfl (by decide) (by decide) h
    · have h := h.2 hq
      refine tn_aload_n (pc := 36) hΓ d_X5_nightsIfChosen_36 rfl ?_
      refine tn_getRy (y := 15) (pc := 37) hΓ d_X5_nightsIfChosen_37 fl_5_18 rfl (gd_k hG (c := 2) rfl) (gd_r hG 2 1 15 rfl rfl) ?_
      refine tn_getRy (y := 15 + 1) (pc := 40) hΓ d_X5_nightsIfChosen_40 fl_5_80 rfl (gp_k hG pb15) (gp_h hG pb15) ?_
      refine tn_iload_n (pc := 43) hΓ d_X5_nightsIfChosen_43 rfl ?_
      obtain ⟨hi3, h⟩ := h
      refine tn_aaldy (t := 0) (y := 15 + 3 + a1.toNatClampNeg) (pc := 44) hΓ d_X5_nightsIfChosen_44 (by decide) (gp_kh hG pb15) hi3 (gp_H hG pb15 hi3) ?_
      refine tn_cvI (As := []) (st := []) (pc := 45) hΓ d_X5_nightsIfChosen_45 mv_X0_ownUp im_X0_ownUp se_X0_ownUp ml_5_129 ⟨⟨by decide, by decide⟩, by decide, by decide⟩ rfl rfl rfl (by decide) ⟨_, rfl⟩ (gp_kH hG pb15 (tn_inN hi3)) (Nat.le_of_ble_eq_true rfl) rfl h (fun r6 σ7 h => ?_)
      refine tn_popi (pc := 48) hΓ d_X5_nightsIfChosen_48 ?_
      refine tn_aload_n (pc := 49) hΓ d_X5_nightsIfChosen_49 rfl ?_
      refine tn_getRy (y := 15) (pc := 50) hΓ d_X5_nightsIfChosen_50 fl_5_18 rfl (gd_k hG (c := 2) rfl) (gd_r hG 2 1 15 rfl rfl) ?_
      refine tn_bipush (pc := 53) hΓ d_X5_nightsIfChosen_53 bp_20 ?_
      refine tn_cvI (As := [.int (20 : Int32)]) (st := []) (pc := 55) hΓ d_X5_nightsIfChosen_55 mv_X1_nightsUntilQuiet im_X1_nightsUntilQuiet se_X1_nightsUntilQuiet ml_5_161 ⟨⟨by decide, by decide⟩, by decide, by decide⟩ rfl rfl rfl (by decide) ⟨_, rfl⟩ (gp_k hG pb15) (Nat.le_of_ble_eq_true rfl) rfl h (fun r7 σ8 h => ?_)
      refine tn_istore (loc' := [.ref 2, .int a0, .int a1, .int a2, .int r7]) (pc := 58) hΓ d_X5_nightsIfChosen_58 (by decide) rfl rfl ?_
      refine tn_iload (pc := 60) hΓ d_X5_nightsIfChosen_60 rfl ?_
      refine tn_bipush (pc := 62) hΓ d_X5_nightsIfChosen_62 bp_m9 ?_
      refine tn_icmp_ne (tgt := 72) (pc := 64) hΓ d_X5_nightsIfChosen_64 (by decide) (fun hq => ?_) (fun hq => ?_)
      · have h := h.1 hq
        refine tn_iload (pc := 72) hΓ d_X5_nightsIfChosen_72 rfl ?_
        exact tn_ret_i (pc := 74) hΓ hK d_X5_nightsIfChosen_74 rfl (by decide) (by decide) h
      · have h := h.2 hq
        refine tn_bipush (pc := 67) hΓ d_X5_nightsIfChosen_67 bp_20 ?_
        refine tn_goto (tgt := 74) (pc := 69) hΓ d_X5_nightsIfChosen_69 (by decide) ?_
        exact tn_ret_i (pc := 74) hΓ hK d_X5_nightsIfChosen_74 rfl (by decide) (by decide) h
theorem k_X5_isContent_0 {Γ : tn_G} {ks : List (Nat × Nat)} {ρ : Nat → Nat → Nat} {σ : Nat → Nat → Int32} {K : Option Value → List (Nat × Nat) → (Nat → Nat → Nat) → (Nat → Nat → Int32) → Prop} (hG : tn_Gd ks ρ) (hΓ : tn_is Γ m_X5_isContent) (hK : tn_rt Γ m_X5_isContent K) (a0 : Int32) (a1 : Int32) (a2 : Int32) (h : tn_CI m_X5_painOfChoice [.ref 2, .int a0, .int a1, .int a2] ks ρ σ (fun r1 σ1 => tn_CI m_X5_painOfChoice [.ref 2, .int a0, .int a1, .int (a2 ^^^ a1)] ks ρ σ1 (fun r2 σ2 => ((r2 < r1 → K (some (.int (0 : Int32))) ks ρ σ2) ∧ (¬ r2 < r1 → K (some (.int (1 : Int32))) ks ρ σ2))))) : tn_A Γ 0 [.ref 2, .int a0, .int a1, .int a2] [] 0 0 ks ρ σ := by
  refine tn_aload_n (pc := 0) hΓ d_X5_isContent_0 rfl ?_
  refine tn_iload_n (pc := 1) hΓ d_X5_isContent_1 rfl ?_
  refine tn_iload_n (pc := 2) hΓ d_X5_isContent_2 rfl ?_
  refine tn_iload_n (pc := 3) hΓ d_X5_isContent_3 rfl ?_
  refine tn_cvI (As := [.int a0, .int a1, .int a2]) (st := []) (pc := 4) hΓ d_X5_isContent_4 mv_X5_painOfChoice im_X5_painOfChoice se_X5_painOfChoice ml_5_266 ⟨⟨by decide, by decide⟩, by decide, by decide⟩ rfl rfl rfl (by decide) ⟨_, rfl⟩ (gd_k hG (c := 2) rfl) (Nat.le_of_ble_eq_true rfl) rfl h (fun r1 σ1 h => ?_)
  refine tn_aload_n (pc := 7) hΓ d_X5_isContent_7 rfl ?_
  refine tn_iload_n (pc := 8) hΓ d_X5_isContent_8 rfl ?_
  refine tn_iload_n (pc := 9) hΓ d_X5_isContent_9 rfl ?_
  refine tn_iload_n (pc := 10) hΓ d_X5_isContent_10 rfl ?_
  refine tn_iload_n (pc := 11) hΓ d_X5_isContent_11 rfl ?_
  refine tn_ixor (pc := 12) hΓ d_X5_isContent_12 ?_
  refine tn_cvI (As := [.int a0, .int a1, .int (a2 ^^^ a1)]) (st := [.int r1]) (pc := 13) hΓ d_X5_isContent_13 mv_X5_painOfChoice im_X5_painOfChoice se_X5_painOfChoice ml_5_266 ⟨⟨by decide, by decide⟩, by decide, by decide⟩ rfl rfl rfl (by decide) ⟨_, rfl⟩ (gd_k hG (c := 2) rfl) (Nat.le_of_ble_eq_true rfl) rfl h (fun r2 σ2 h => ?_)
  refine tn_icmp_gt (tgt := 23) (pc := 16) hΓ d_X5_isContent_16 (by decide) (fun hq => ?_) (fun hq => ?_)
  · have h := h.1 hq
    refine tn_iconst (pc := 23) hΓ d_X5_isContent_23 ic_0 ?_
    exact tn_ret_z (pc := 24) hΓ hK d_X5_isContent_24 rfl (by decide) (by decide) (Or.inl rfl) h
  · have h := h.2 hq
    refine tn_iconst (pc := 19) hΓ d_X5_isContent_19 ic_1 ?_
    refine tn_goto (tgt := 24) (pc := 20) hΓ d_X5_isContent_20 (by decide) ?_
    exact tn_ret_z (pc := 24) hΓ hK d_X5_isContent_24 rfl (by decide) (by decide) (Or.inr rfl) h
theorem k_X5_painOfChoice_0 {Γ : tn_G} {ks : List (Nat × Nat)} {ρ : Nat → Nat → Nat} {σ : Nat → Nat → Int32} {K : Option Value → List (Nat × Nat) → (Nat → Nat → Nat) → (Nat → Nat → Int32) → Prop} (hG : tn_Gd ks ρ) (hΓ : tn_is Γ m_X5_painOfChoice) (hK : tn_rt Γ m_X5_painOfChoice K) (a0 : Int32) (a1 : Int32) (a2 : Int32) (h : (vp_in a2 4 ∧ (∀ x1 : Int32, x1 = (σ 30 a2.toNatClampNeg) → ((¬ (a2 &&& a1) = 0 → (vp_in a0 5 ∧ tn_CI m_X0_rankles [.ref (3 + 3 + a0.toNatClampNeg)] ks ρ σ (fun r1 σ1 => ((r1 = 0 → K (some (.int (x1 + (6 : Int32)))) ks ρ σ1) ∧ (¬ r1 = 0 → tn_CI m_X0_weight [.ref (3 + 3 + a0.toNatClampNeg)] ks ρ σ1 (fun r2 σ2 => K (some (.int (x1 + r2))) ks ρ σ2)))))) ∧ ((a2 &&& a1) = 0 → K (some (.int x1)) ks ρ σ))))) : tn_A Γ 0 [.ref 2, .int a0, .int a1, .int a2, .null, .null] [] 0 0 ks ρ σ := by
  refine tn_aload_n (pc := 0) hΓ d_X5_painOfChoice_0 rfl ?_
  refine tn_getRy (y := 30) (pc := 1) hΓ d_X5_painOfChoice_1 fl_5_34 rfl (gd_k hG (c := 2) rfl) (gd_r hG 2 5 30 rfl rfl) ?_
  refine tn_iload_n (pc := 4) hΓ d_X5_painOfChoice_4 rfl ?_
  obtain ⟨hi1, h⟩ := h
  refine tn_ald (pc := 5) hΓ d_X5_painOfChoice_5 (gd_k hG (c := 30) rfl) hi1 ?_
  refine tn_topi (fun x1 ex1 => ?_)
  have h := h x1 ex1
  refine tn_istore (loc' := [.ref 2, .int a0, .int a1, .int a2, .int x1, .null]) (pc := 6) hΓ d_X5_painOfChoice_6 (by decide) rfl rfl ?_
  refine tn_iload_n (pc := 8) hΓ d_X5_painOfChoice_8 rfl ?_
  refine tn_iload_n (pc := 9) hΓ d_X5_painOfChoice_9 rfl ?_
  refine tn_iand (pc := 10) hΓ d_X5_painOfChoice_10 ?_
  refine tn_if_ne (tgt := 17) (pc := 11) hΓ d_X5_painOfChoice_11 (by decide) (fun hq => ?_) (fun hq => ?_)
  · have h := h.1 hq
    refine tn_aload_n (pc := 17) hΓ d_X5_painOfChoice_17 rfl ?_
    refine tn_getRy (y := 3) (pc := 18) hΓ d_X5_painOfChoice_18 fl_5_12 rfl (gd_k hG (c := 2) rfl) (gd_r hG 2 0 3 rfl rfl) ?_
    refine tn_getRy (y := 3 + 1) (pc := 21) hΓ d_X5_painOfChoice_21 fl_5_80 rfl (gp_k hG pb3) (gp_h hG pb3) ?_
    refine tn_iload_n (pc := 24) hΓ d_X5_painOfChoice_24 rfl ?_
    obtain ⟨hi2, h⟩ := h
    refine tn_aaldy (t := 0) (y := 3 + 3 + a0.toNatClampNeg) (pc := 25) hΓ d_X5_painOfChoice_25 (by decide) (gp_kh hG pb3) hi2 (gp_H hG pb3 hi2) ?_
    refine tn_astore (loc' := [.ref 2, .int a0, .int a1, .int a2, .int x1, .ref (3 + 3 + a0.toNatClampNeg)]) (pc := 26) hΓ d_X5_painOfChoice_26 (by decide) rfl rfl ?_
    refine tn_iload (pc := 28) hΓ d_X5_painOfChoice_28 rfl ?_
    refine tn_aload (pc := 30) hΓ d_X5_painOfChoice_30 rfl ?_
    refine tn_cvI (As := []) (st := [.int x1]) (pc := 32) hΓ d_X5_painOfChoice_32 mv_X0_rankles im_X0_rankles se_X0_rankles ml_5_103 ⟨⟨by decide, by decide⟩, by decide, by decide⟩ rfl rfl rfl (by decide) ⟨_, rfl⟩ (gp_kH hG pb3 (tn_inN hi2)) (Nat.le_of_ble_eq_true rfl) rfl h (fun r1 σ1 h => ?_)
    refine tn_if_eq (tgt := 46) (pc := 35) hΓ d_X5_painOfChoice_35 (by decide) (fun hq => ?_) (fun hq => ?_)
    · have h := h.1 hq
      refine tn_bipush (pc := 46) hΓ d_X5_painOfChoice_46 bp_6 ?_
      refine tn_iadd (pc := 48) hΓ d_X5_painOfChoice_48 ?_
      exact tn_ret_i (pc := 49) hΓ hK d_X5_painOfChoice_49 rfl (by decide) (by decide) h
    · have h := h.2 hq
      refine tn_aload (pc := 38) hΓ d_X5_painOfChoice_38 rfl ?_
      refine tn_cvI (As := []) (st := [.int x1]) (pc := 40) hΓ d_X5_painOfChoice_40 mv_X0_weight im_X0_weight se_X0_weight ml_5_95 ⟨⟨by decide, by decide⟩, by decide, by decide⟩ rfl rfl rfl (by decide) ⟨_, rfl⟩ (gp_kH hG pb3 (tn_inN hi2)) (Nat.le_of_ble_eq_true rfl) rfl h (fun r2 σ2 h => ?_)
      refine tn_goto (tgt := 48) (pc := 43) hΓ d_X5_painOfChoice_43 (by decide) ?_
      refine tn_iadd (pc := 48) hΓ d_X5_painOfChoice_48 ?_
      exact tn_ret_i (pc := 49) hΓ hK d_X5_painOfChoice_49 rfl (by decide) (by decide) h
  · have h := h.2 hq
    refine tn_iload (pc := 14) hΓ d_X5_painOfChoice_14 rfl ?_
    exact tn_ret_i (pc := 16) hΓ hK d_X5_painOfChoice_16 rfl (by decide) (by decide) h
theorem k_X5_doReadingsHoldOfTrial_0 {Γ : tn_G} {ks : List (Nat × Nat)} {ρ : Nat → Nat → Nat} {σ : Nat → Nat → Int32} {K : Option Value → List (Nat × Nat) → (Nat → Nat → Nat) → (Nat → Nat → Int32) → Prop} (hG : tn_Gd ks ρ) (hΓ : tn_is Γ m_X5_doReadingsHoldOfTrial) (hK : tn_rt Γ m_X5_doReadingsHoldOfTrial K)  (h : tn_CI m_X5_lastNightRead [.ref 2] ks ρ σ (fun r1 σ1 => tn_A Γ 7 [.ref 2, .int r1, .int (0 : Int32)] [] 0 0 ks ρ σ1)) : tn_A Γ 0 [.ref 2, .null, .null] [] 0 0 ks ρ σ := by
  refine tn_aload_n (pc := 0) hΓ d_X5_doReadingsHoldOfTrial_0 rfl ?_
  refine tn_cvI (As := []) (st := []) (pc := 1) hΓ d_X5_doReadingsHoldOfTrial_1 mv_X5_lastNightRead im_X5_lastNightRead se_X5_lastNightRead ml_5_269 ⟨⟨by decide, by decide⟩, by decide, by decide⟩ rfl rfl rfl (by decide) ⟨_, rfl⟩ (gd_k hG (c := 2) rfl) (Nat.le_of_ble_eq_true rfl) rfl h (fun r1 σ1 h => ?_)
  refine tn_istore_n (loc' := [.ref 2, .int r1, .null]) (pc := 4) hΓ d_X5_doReadingsHoldOfTrial_4 (by decide) rfl rfl ?_
  refine tn_iconst (pc := 5) hΓ d_X5_doReadingsHoldOfTrial_5 ic_0 ?_
  refine tn_istore_n (loc' := [.ref 2, .int r1, .int (0 : Int32)]) (pc := 6) hΓ d_X5_doReadingsHoldOfTrial_6 (by decide) rfl rfl ?_
  exact h
theorem k_X5_doReadingsHoldOfTrial_7 {Γ : tn_G} {ks : List (Nat × Nat)} {ρ : Nat → Nat → Nat} {σ : Nat → Nat → Int32} {K : Option Value → List (Nat × Nat) → (Nat → Nat → Nat) → (Nat → Nat → Int32) → Prop} (hG : tn_Gd ks ρ) (hΓ : tn_is Γ m_X5_doReadingsHoldOfTrial) (hK : tn_rt Γ m_X5_doReadingsHoldOfTrial K) (y1 : Int32) (y2 : Int32) (h : ((y1 < y2 → K (some (.int (1 : Int32))) ks ρ σ) ∧ (¬ y1 < y2 → tn_CI m_X1_voice [.ref 15] ks ρ σ (fun r1 σ1 => tn_CI m_X5_isVoiceAsRead [.ref 2, .int y2, .int r1] ks ρ σ1 (fun r2 σ2 => ((¬ r2 = 0 → tn_CV m_X1_passNight [.ref 15] ks ρ σ2 (fun σ3 => (∀ x1 : Int32, x1 = y2 + (1 : Int32) → tn_A Γ 7 [.ref 2, .int y1, .int x1] [] 0 0 ks ρ σ3))) ∧ (r2 = 0 → K (some (.int (0 : Int32))) ks ρ σ2))))))) : tn_A Γ 7 [.ref 2, .int y1, .int y2] [] 0 0 ks ρ σ := by
  refine tn_iload_n (pc := 7) hΓ d_X5_doReadingsHoldOfTrial_7 rfl ?_
  refine tn_iload_n (pc := 8) hΓ d_X5_doReadingsHoldOfTrial_8 rfl ?_
  refine tn_icmp_gt (tgt := 42) (pc := 9) hΓ d_X5_doReadingsHoldOfTrial_9 (by decide) (fun hq => ?_) (fun hq => ?_)
  · have h := h.1 hq
    refine tn_iconst (pc := 42) hΓ d_X5_doReadingsHoldOfTrial_42 ic_1 ?_
    exact tn_ret_z (pc := 43) hΓ hK d_X5_doReadingsHoldOfTrial_43 rfl (by decide) (by decide) (Or.inr rfl) h
  · have h := h.2 hq
    refine tn_aload_n (pc := 12) hΓ d_X5_doReadingsHoldOfTrial_12 rfl ?_
    refine tn_iload_n (pc := 13) hΓ d_X5_doReadingsHoldOfTrial_13 rfl ?_
    refine tn_aload_n (pc := 14) hΓ d_X5_doReadingsHoldOfTrial_14 rfl ?_
    refine tn_getRy (y := 15) (pc := 15) hΓ d_X5_doReadingsHoldOfTrial_15 fl_5_18 rfl (gd_k hG (c := 2) rfl) (gd_r hG 2 1 15 rfl rfl) ?_
    refine tn_cvI (As := []) (st := [.int y2, .ref 2]) (pc := 18) hΓ d_X5_doReadingsHoldOfTrial_18 mv_X1_voice im_X1_voice se_X1_voice ml_5_132 ⟨⟨by decide, by decide⟩, by decide, by decide⟩ rfl rfl rfl (by decide) ⟨_, rfl⟩ (gp_k hG pb15) (Nat.le_of_ble_eq_true rfl) rfl h (fun r1 σ1 h => ?_)
    refine tn_cvI (As := [.int y2, .int r1]) (st := []) (pc := 21) hΓ d_X5_doReadingsHoldOfTrial_21 mv_X5_isVoiceAsRead im_X5_isVoiceAsRead se_X5_isVoiceAsRead ml_5_272 ⟨⟨by decide, by decide⟩, by decide, by decide⟩ rfl rfl rfl (by decide) ⟨_, rfl⟩ (gd_k hG (c := 2) rfl) (Nat.le_of_ble_eq_true rfl) rfl h (fun r2 σ2 h => ?_)
    refine tn_if_ne (tgt := 29) (pc := 24) hΓ d_X5_doReadingsHoldOfTrial_24 (by decide) (fun hq => ?_) (fun hq => ?_)
    · have h := h.1 hq
      refine tn_aload_n (pc := 29) hΓ d_X5_doReadingsHoldOfTrial_29 rfl ?_
      refine tn_getRy (y := 15) (pc := 30) hΓ d_X5_doReadingsHoldOfTrial_30 fl_5_18 rfl (gd_k hG (c := 2) rfl) (gd_r hG 2 1 15 rfl rfl) ?_
      refine tn_cvV (As := []) (st := []) (pc := 33) hΓ d_X5_doReadingsHoldOfTrial_33 mv_X1_passNight im_X1_passNight se_X1_passNight ml_5_275 ⟨⟨by decide, by decide⟩, by decide, by decide⟩ rfl rfl rfl (by decide) ⟨_, rfl⟩ (gp_k hG pb15) (Nat.le_of_ble_eq_true rfl) rfl h (fun σ3 h => ?_)
      refine tn_iincw (loc' := fun v_ => [.ref 2, .int y1, .int v_]) (pc := 36) hΓ d_X5_doReadingsHoldOfTrial_36 rfl ic_1 (by decide) rfl (fun _ => rfl) (fun x1 ex1 => ?_)
      have h := h x1 ex1
      refine tn_goto (tgt := 7) (pc := 39) hΓ d_X5_doReadingsHoldOfTrial_39 (by decide) ?_
      exact h
    · have h := h.2 hq
      refine tn_iconst (pc := 27) hΓ d_X5_doReadingsHoldOfTrial_27 ic_0 ?_
      exact tn_ret_z (pc := 28) hΓ hK d_X5_doReadingsHoldOfTrial_28 rfl (by decide) (by decide) (Or.inl rfl) h
theorem k_X5_lastNightRead_0 {Γ : tn_G} {ks : List (Nat × Nat)} {ρ : Nat → Nat → Nat} {σ : Nat → Nat → Int32} {K : Option Value → List (Nat × Nat) → (Nat → Nat → Nat) → (Nat → Nat → Int32) → Prop} (hG : tn_Gd ks ρ) (hΓ : tn_is Γ m_X5_lastNightRead) (hK : tn_rt Γ m_X5_lastNightRead K)  (h : tn_A Γ 5 [.ref 2, .int (-9 : Int32), .int (0 : Int32)] [] 0 0 ks ρ σ) : tn_A Γ 0 [.ref 2, .null, .null] [] 0 0 ks ρ σ := by
  refine tn_bipush (pc := 0) hΓ d_X5_lastNightRead_0 bp_m9 ?_
  refine tn_istore_n (loc' := [.ref 2, .int (-9 : Int32), .null]) (pc := 2) hΓ d_X5_lastNightRead_2 (by decide) rfl rfl ?_
  refine tn_iconst (pc := 3) hΓ d_X5_lastNightRead_3 ic_0 ?_
  refine tn_istore_n (loc' := [.ref 2, .int (-9 : Int32), .int (0 : Int32)]) (pc := 4) hΓ d_X5_lastNightRead_4 (by decide) rfl rfl ?_
  exact h
theorem k_X5_lastNightRead_5 {Γ : tn_G} {ks : List (Nat × Nat)} {ρ : Nat → Nat → Nat} {σ : Nat → Nat → Int32} {K : Option Value → List (Nat × Nat) → (Nat → Nat → Nat) → (Nat → Nat → Int32) → Prop} (hG : tn_Gd ks ρ) (hΓ : tn_is Γ m_X5_lastNightRead) (hK : tn_rt Γ m_X5_lastNightRead K) (y1 : Int32) (y2 : Int32) (h : (((σ 2 6) ≤ y2 → K (some (.int y1)) ks ρ σ) ∧ (¬ (σ 2 6) ≤ y2 → (vp_in y2 8 ∧ (∀ x1 : Int32, x1 = (if y1 < (σ 28 y2.toNatClampNeg) then (σ 28 y2.toNatClampNeg) else y1) → (∀ x2 : Int32, x2 = y2 + (1 : Int32) → tn_A Γ 5 [.ref 2, .int x1, .int x2] [] 0 0 ks ρ σ)))))) : tn_A Γ 5 [.ref 2, .int y1, .int y2] [] 0 0 ks ρ σ := by
  refine tn_iload_n (pc := 5) hΓ d_X5_lastNightRead_5 rfl ?_
  refine tn_aload_n (pc := 6) hΓ d_X5_lastNightRead_6 rfl ?_
  refine tn_getI (pc := 7) hΓ d_X5_lastNightRead_7 fl_5_37 rfl (gd_k hG (c := 2) rfl) ?_
  refine tn_icmp_ge (tgt := 30) (pc := 10) hΓ d_X5_lastNightRead_10 (by decide) (fun hq => ?_) (fun hq => ?_)
  · have h := h.1 hq
    refine tn_iload_n (pc := 30) hΓ d_X5_lastNightRead_30 rfl ?_
    exact tn_ret_i (pc := 31) hΓ hK d_X5_lastNightRead_31 rfl (by decide) (by decide) h
  · have h := h.2 hq
    refine tn_iload_n (pc := 13) hΓ d_X5_lastNightRead_13 rfl ?_
    refine tn_aload_n (pc := 14) hΓ d_X5_lastNightRead_14 rfl ?_
    refine tn_getRy (y := 28) (pc := 15) hΓ d_X5_lastNightRead_15 fl_5_27 rfl (gd_k hG (c := 2) rfl) (gd_r hG 2 3 28 rfl rfl) ?_
    refine tn_iload_n (pc := 18) hΓ d_X5_lastNightRead_18 rfl ?_
    obtain ⟨hi1, h⟩ := h
    refine tn_ald (pc := 19) hΓ d_X5_lastNightRead_19 (gd_k hG (c := 28) rfl) hi1 ?_
    refine tn_mmax (pc := 20) hΓ d_X5_lastNightRead_20 ⟨mm_5_278.1, by decide, Nat.le_of_ble_eq_true rfl, by decide, by decide⟩ ?_
    refine tn_topi (fun x1 ex1 => ?_)
    have h := h x1 ex1
    refine tn_istore_n (loc' := [.ref 2, .int x1, .int y2]) (pc := 23) hΓ d_X5_lastNightRead_23 (by decide) rfl rfl ?_
    refine tn_iincw (loc' := fun v_ => [.ref 2, .int x1, .int v_]) (pc := 24) hΓ d_X5_lastNightRead_24 rfl ic_1 (by decide) rfl (fun _ => rfl) (fun x2 ex2 => ?_)
    have h := h x2 ex2
    refine tn_goto (tgt := 5) (pc := 27) hΓ d_X5_lastNightRead_27 (by decide) ?_
    exact h
theorem k_X5_isVoiceAsRead_0 {Γ : tn_G} {ks : List (Nat × Nat)} {ρ : Nat → Nat → Nat} {σ : Nat → Nat → Int32} {K : Option Value → List (Nat × Nat) → (Nat → Nat → Nat) → (Nat → Nat → Int32) → Prop} (hG : tn_Gd ks ρ) (hΓ : tn_is Γ m_X5_isVoiceAsRead) (hK : tn_rt Γ m_X5_isVoiceAsRead K) (a0 : Int32) (a1 : Int32) (h : tn_A Γ 2 [.ref 2, .int a0, .int a1, .int (0 : Int32)] [] 0 0 ks ρ σ) : tn_A Γ 0 [.ref 2, .int a0, .int a1, .null] [] 0 0 ks ρ σ := by
  refine tn_iconst (pc := 0) hΓ d_X5_isVoiceAsRead_0 ic_0 ?_
  refine tn_istore_n (loc' := [.ref 2, .int a0, .int a1, .int (0 : Int32)]) (pc := 1) hΓ d_X5_isVoiceAsRead_1 (by decide) rfl rfl ?_
  exact h
theorem k_X5_isVoiceAsRead_2 {Γ : tn_G} {ks : List (Nat × Nat)} {ρ : Nat → Nat → Nat} {σ : Nat → Nat → Int32} {K : Option Value → List (Nat × Nat) → (Nat → Nat → Nat) → (Nat → Nat → Int32) → Prop} (hG : tn_Gd ks ρ) (hΓ : tn_is Γ m_X5_isVoiceAsRead) (hK : tn_rt Γ m_X5_isVoiceAsRead K) (y1 : Int32) (y2 : Int32) (y3 : Int32) (h : (((σ 2 6) ≤ y3 → K (some (.int (1 : Int32))) ks ρ σ) ∧ (¬ (σ 2 6) ≤ y3 → (vp_in y3 8 ∧ ((¬ (σ 28 y3.toNatClampNeg) = y1 → (∀ x1 : Int32, x1 = y3 + (1 : Int32) → tn_A Γ 2 [.ref 2, .int y1, .int y2, .int x1] [] 0 0 ks ρ σ)) ∧ ((σ 28 y3.toNatClampNeg) = y1 → (((σ 29 y3.toNatClampNeg) = y2 → (∀ x2 : Int32, x2 = y3 + (1 : Int32) → tn_A Γ 2 [.ref 2, .int y1, .int y2, .int x2] [] 0 0 ks ρ σ)) ∧ (¬ (σ 29 y3.toNatClampNeg) = y2 → K (some (.int (0 : Int32))) ks ρ σ)))))))) : tn_A Γ 2 [.ref 2, .int y1, .int y2, .int y3] [] 0 0 ks ρ σ := by
  refine tn_iload_n (pc := 2) hΓ d_X5_isVoiceAsRead_2 rfl ?_
  refine tn_aload_n (pc := 3) hΓ d_X5_isVoiceAsRead_3 rfl ?_
  refine tn_getI (pc := 4) hΓ d_X5_isVoiceAsRead_4 fl_5_37 rfl (gd_k hG (c := 2) rfl) ?_
  refine tn_icmp_ge (tgt := 38) (pc := 7) hΓ d_X5_isVoiceAsRead_7 (by decide) (fun hq => ?_) (fun hq => ?_)
  · have h := h.1 hq
    refine tn_iconst (pc := 38) hΓ d_X5_isVoiceAsRead_38 ic_1 ?_
    exact tn_ret_z (pc := 39) hΓ hK d_X5_isVoiceAsRead_39 rfl (by decide) (by decide) (Or.inr rfl) h
  · have h := h.2 hq
    refine tn_aload_n (pc := 10) hΓ d_X5_isVoiceAsRead_10 rfl ?_
    refine tn_getRy (y := 28) (pc := 11) hΓ d_X5_isVoiceAsRead_11 fl_5_27 rfl (gd_k hG (c := 2) rfl) (gd_r hG 2 3 28 rfl rfl) ?_
    refine tn_iload_n (pc := 14) hΓ d_X5_isVoiceAsRead_14 rfl ?_
    obtain ⟨hi1, h⟩ := h
    refine tn_ald (pc := 15) hΓ d_X5_isVoiceAsRead_15 (gd_k hG (c := 28) rfl) hi1 ?_
    refine tn_iload_n (pc := 16) hΓ d_X5_isVoiceAsRead_16 rfl ?_
    refine tn_icmp_ne (tgt := 32) (pc := 17) hΓ d_X5_isVoiceAsRead_17 (by decide) (fun hq => ?_) (fun hq => ?_)
    · have h := h.1 hq
      refine tn_iincw (loc' := fun v_ => [.ref 2, .int y1, .int y2, .int v_]) (pc := 32) hΓ d_X5_isVoiceAsRead_32 rfl ic_1 (by decide) rfl (fun _ => rfl) (fun x1 ex1 => ?_)
      have h := h x1 ex1
      refine tn_goto (tgt := 2) (pc := 35) hΓ d_X5_isVoiceAsRead_35 (by decide) ?_
      exact h
    · have h := h.2 hq
      refine tn_aload_n (pc := 20) hΓ d_X5_isVoiceAsRead_20 rfl ?_
      refine tn_getRy (y := 29) (pc := 21) hΓ d_X5_isVoiceAsRead_21 fl_5_31 rfl (gd_k hG (c := 2) rfl) (gd_r hG 2 4 29 rfl rfl) ?_
      refine tn_iload_n (pc := 24) hΓ d_X5_isVoiceAsRead_24 rfl ?_
      refine tn_ald (pc := 25) hΓ d_X5_isVoiceAsRead_25 (gd_k hG (c := 29) rfl) hi1 ?_
      refine tn_iload_n (pc := 26) hΓ d_X5_isVoiceAsRead_26 rfl ?_
      refine tn_icmp_eq (tgt := 32) (pc := 27) hΓ d_X5_isVoiceAsRead_27 (by decide) (fun hq => ?_) (fun hq => ?_)
      · have h := h.1 hq
        refine tn_iincw (loc' := fun v_ => [.ref 2, .int y1, .int y2, .int v_]) (pc := 32) hΓ d_X5_isVoiceAsRead_32 rfl ic_1 (by decide) rfl (fun _ => rfl) (fun x2 ex2 => ?_)
        have h := h x2 ex2
        refine tn_goto (tgt := 2) (pc := 35) hΓ d_X5_isVoiceAsRead_35 (by decide) ?_
        exact h
      · have h := h.2 hq
        refine tn_iconst (pc := 30) hΓ d_X5_isVoiceAsRead_30 ic_0 ?_
        exact tn_ret_z (pc := 31) hΓ hK d_X5_isVoiceAsRead_31 rfl (by decide) (by decide) (Or.inl rfl) h
theorem k_X5_leaveInTrace_0 {Γ : tn_G} {ks : List (Nat × Nat)} {ρ : Nat → Nat → Nat} {σ : Nat → Nat → Int32} {K : Option Value → List (Nat × Nat) → (Nat → Nat → Nat) → (Nat → Nat → Int32) → Prop} (hG : tn_Gd ks ρ) (hΓ : tn_is Γ m_X5_leaveInTrace) (hK : tn_rt Γ m_X5_leaveInTrace K) (a0 : Int32) (h : (∀ σ1, σ1 = tn_u σ 2 8 (((31 : Int32) * (σ 2 8)) + a0) → K none ks ρ σ1)) : tn_A Γ 0 [.ref 2, .int a0] [] 0 0 ks ρ σ := by
  refine tn_aload_n (pc := 0) hΓ d_X5_leaveInTrace_0 rfl ?_
  refine tn_bipush (pc := 1) hΓ d_X5_leaveInTrace_1 bp_31 ?_
  refine tn_aload_n (pc := 3) hΓ d_X5_leaveInTrace_3 rfl ?_
  refine tn_getI (pc := 4) hΓ d_X5_leaveInTrace_4 fl_5_44 rfl (gd_k hG (c := 2) rfl) ?_
  refine tn_imul (pc := 7) hΓ d_X5_leaveInTrace_7 ?_
  refine tn_iload_n (pc := 8) hΓ d_X5_leaveInTrace_8 rfl ?_
  refine tn_iadd (pc := 9) hΓ d_X5_leaveInTrace_9 ?_
  refine tn_putI (pc := 10) hΓ d_X5_leaveInTrace_10 fl_5_44 fk_5_5_8 rfl (gd_k hG (c := 2) rfl)  ?_
  refine tn_tops (fun σ1 eσ1 => ?_)
  have h := h σ1 eσ1
  exact tn_ret_v (pc := 13) hΓ hK d_X5_leaveInTrace_13 rfl (by decide) (by decide) h
theorem k_X5_toldAsPlain_0 {Γ : tn_G} {ks : List (Nat × Nat)} {ρ : Nat → Nat → Nat} {σ : Nat → Nat → Int32} {K : Option Value → List (Nat × Nat) → (Nat → Nat → Nat) → (Nat → Nat → Int32) → Prop} (hG : tn_Gd ks ρ) (hΓ : tn_is Γ m_X5_toldAsPlain) (hK : tn_rt Γ m_X5_toldAsPlain K) (c1 : Nat) (hk1 : tn_kd ks c1 = some (0, 0)) (h : tn_CV m_X5_leaveInTrace [.ref 2, .int (1 : Int32)] ks ρ σ (fun σ1 => K (some (.int (σ1 c1 1))) ks ρ σ1)) : tn_A Γ 0 [.ref 2, .ref c1] [] 0 0 ks ρ σ := by
  refine tn_aload_n (pc := 0) hΓ d_X5_toldAsPlain_0 rfl ?_
  refine tn_iconst (pc := 1) hΓ d_X5_toldAsPlain_1 ic_1 ?_
  refine tn_cvV (As := [.int (1 : Int32)]) (st := []) (pc := 2) hΓ d_X5_toldAsPlain_2 mv_X5_leaveInTrace im_X5_leaveInTrace se_X5_leaveInTrace ml_5_281 ⟨⟨by decide, by decide⟩, by decide, by decide⟩ rfl rfl rfl (by decide) ⟨_, rfl⟩ (gd_k hG (c := 2) rfl) (Nat.le_of_ble_eq_true rfl) rfl h (fun σ1 h => ?_)
  refine tn_aload_n (pc := 5) hΓ d_X5_toldAsPlain_5 rfl ?_
  refine tn_getI (pc := 6) hΓ d_X5_toldAsPlain_6 fl_5_89 rfl hk1 ?_
  exact tn_ret_i (pc := 9) hΓ hK d_X5_toldAsPlain_9 rfl (by decide) (by decide) h
theorem k_X5_toldAsBrooding_0 {Γ : tn_G} {ks : List (Nat × Nat)} {ρ : Nat → Nat → Nat} {σ : Nat → Nat → Int32} {K : Option Value → List (Nat × Nat) → (Nat → Nat → Nat) → (Nat → Nat → Int32) → Prop} (hG : tn_Gd ks ρ) (hΓ : tn_is Γ m_X5_toldAsBrooding) (hK : tn_rt Γ m_X5_toldAsBrooding K) (c1 : Nat) (hk1 : tn_kd ks c1 = some (0, 0)) (h : tn_CV m_X5_leaveInTrace [.ref 2, .int (2 : Int32)] ks ρ σ (fun σ1 => tn_CI m_X5_toldAsPlain [.ref 2, .ref c1] ks ρ σ1 (fun r1 σ2 => K (some (.int (r1 + (100 : Int32)))) ks ρ σ2))) : tn_A Γ 0 [.ref 2, .ref c1] [] 0 0 ks ρ σ := by
  refine tn_aload_n (pc := 0) hΓ d_X5_toldAsBrooding_0 rfl ?_
  refine tn_iconst (pc := 1) hΓ d_X5_toldAsBrooding_1 ic_2 ?_
  refine tn_cvV (As := [.int (2 : Int32)]) (st := []) (pc := 2) hΓ d_X5_toldAsBrooding_2 mv_X5_leaveInTrace im_X5_leaveInTrace se_X5_leaveInTrace ml_5_281 ⟨⟨by decide, by decide⟩, by decide, by decide⟩ rfl rfl rfl (by decide) ⟨_, rfl⟩ (gd_k hG (c := 2) rfl) (Nat.le_of_ble_eq_true rfl) rfl h (fun σ1 h => ?_)
  refine tn_aload_n (pc := 5) hΓ d_X5_toldAsBrooding_5 rfl ?_
  refine tn_aload_n (pc := 6) hΓ d_X5_toldAsBrooding_6 rfl ?_
  refine tn_cvI (As := [.ref c1]) (st := []) (pc := 7) hΓ d_X5_toldAsBrooding_7 mv_X5_toldAsPlain im_X5_toldAsPlain se_X5_toldAsPlain ml_5_235 ⟨⟨by decide, by decide⟩, by decide, by decide⟩ rfl rfl rfl (by decide) ⟨_, rfl⟩ (gd_k hG (c := 2) rfl) (Nat.le_of_ble_eq_true rfl) rfl h (fun r1 σ2 h => ?_)
  refine tn_bipush (pc := 10) hΓ d_X5_toldAsBrooding_10 bp_100 ?_
  refine tn_iadd (pc := 12) hΓ d_X5_toldAsBrooding_12 ?_
  exact tn_ret_i (pc := 13) hΓ hK d_X5_toldAsBrooding_13 rfl (by decide) (by decide) h
theorem k_X5_toldAsDouble_0 {Γ : tn_G} {ks : List (Nat × Nat)} {ρ : Nat → Nat → Nat} {σ : Nat → Nat → Int32} {K : Option Value → List (Nat × Nat) → (Nat → Nat → Nat) → (Nat → Nat → Int32) → Prop} (hG : tn_Gd ks ρ) (hΓ : tn_is Γ m_X5_toldAsDouble) (hK : tn_rt Γ m_X5_toldAsDouble K) (c1 : Nat) (hk1 : tn_kd ks c1 = some (0, 0)) (h : tn_CV m_X5_leaveInTrace [.ref 2, .int (3 : Int32)] ks ρ σ (fun σ1 => tn_CI m_X5_toldAsBrooding [.ref 2, .ref c1] ks ρ σ1 (fun r1 σ2 => tn_CI m_X5_toldAsPlain [.ref 2, .ref c1] ks ρ σ2 (fun r2 σ3 => K (some (.int (r1 + r2))) ks ρ σ3)))) : tn_A Γ 0 [.ref 2, .ref c1, .null] [] 0 0 ks ρ σ := by
  refine tn_aload_n (pc := 0) hΓ d_X5_toldAsDouble_0 rfl ?_
  refine tn_iconst (pc := 1) hΓ d_X5_toldAsDouble_1 ic_3 ?_
  refine tn_cvV (As := [.int (3 : Int32)]) (st := []) (pc := 2) hΓ d_X5_toldAsDouble_2 mv_X5_leaveInTrace im_X5_leaveInTrace se_X5_leaveInTrace ml_5_281 ⟨⟨by decide, by decide⟩, by decide, by decide⟩ rfl rfl rfl (by decide) ⟨_, rfl⟩ (gd_k hG (c := 2) rfl) (Nat.le_of_ble_eq_true rfl) rfl h (fun σ1 h => ?_)
  refine tn_aload_n (pc := 5) hΓ d_X5_toldAsDouble_5 rfl ?_
  refine tn_aload_n (pc := 6) hΓ d_X5_toldAsDouble_6 rfl ?_
  refine tn_cvI (As := [.ref c1]) (st := []) (pc := 7) hΓ d_X5_toldAsDouble_7 mv_X5_toldAsBrooding im_X5_toldAsBrooding se_X5_toldAsBrooding ml_5_232 ⟨⟨by decide, by decide⟩, by decide, by decide⟩ rfl rfl rfl (by decide) ⟨_, rfl⟩ (gd_k hG (c := 2) rfl) (Nat.le_of_ble_eq_true rfl) rfl h (fun r1 σ2 h => ?_)
  refine tn_istore_n (loc' := [.ref 2, .ref c1, .int r1]) (pc := 10) hΓ d_X5_toldAsDouble_10 (by decide) rfl rfl ?_
  refine tn_iload_n (pc := 11) hΓ d_X5_toldAsDouble_11 rfl ?_
  refine tn_aload_n (pc := 12) hΓ d_X5_toldAsDouble_12 rfl ?_
  refine tn_aload_n (pc := 13) hΓ d_X5_toldAsDouble_13 rfl ?_
  refine tn_cvI (As := [.ref c1]) (st := [.int r1]) (pc := 14) hΓ d_X5_toldAsDouble_14 mv_X5_toldAsPlain im_X5_toldAsPlain se_X5_toldAsPlain ml_5_235 ⟨⟨by decide, by decide⟩, by decide, by decide⟩ rfl rfl rfl (by decide) ⟨_, rfl⟩ (gd_k hG (c := 2) rfl) (Nat.le_of_ble_eq_true rfl) rfl h (fun r2 σ3 h => ?_)
  refine tn_iadd (pc := 17) hΓ d_X5_toldAsDouble_17 ?_
  exact tn_ret_i (pc := 18) hΓ hK d_X5_toldAsDouble_18 rfl (by decide) (by decide) h
theorem k_X5_knockedAsLent_0 {Γ : tn_G} {ks : List (Nat × Nat)} {ρ : Nat → Nat → Nat} {σ : Nat → Nat → Int32} {K : Option Value → List (Nat × Nat) → (Nat → Nat → Nat) → (Nat → Nat → Int32) → Prop} (hG : tn_Gd ks ρ) (hΓ : tn_is Γ m_X5_knockedAsLent) (hK : tn_rt Γ m_X5_knockedAsLent K) (c1 : Nat) (hk1 : tn_kd ks c1 = some (0, 0)) (h : tn_CV m_X5_leaveInTrace [.ref 2, .int (4 : Int32)] ks ρ σ (fun σ1 => K (some (.int (σ1 c1 2))) ks ρ σ1)) : tn_A Γ 0 [.ref 2, .ref c1] [] 0 0 ks ρ σ := by
  refine tn_aload_n (pc := 0) hΓ d_X5_knockedAsLent_0 rfl ?_
  refine tn_iconst (pc := 1) hΓ d_X5_knockedAsLent_1 ic_4 ?_
  refine tn_cvV (As := [.int (4 : Int32)]) (st := []) (pc := 2) hΓ d_X5_knockedAsLent_2 mv_X5_leaveInTrace im_X5_leaveInTrace se_X5_leaveInTrace ml_5_281 ⟨⟨by decide, by decide⟩, by decide, by decide⟩ rfl rfl rfl (by decide) ⟨_, rfl⟩ (gd_k hG (c := 2) rfl) (Nat.le_of_ble_eq_true rfl) rfl h (fun σ1 h => ?_)
  refine tn_aload_n (pc := 5) hΓ d_X5_knockedAsLent_5 rfl ?_
  refine tn_getI (pc := 6) hΓ d_X5_knockedAsLent_6 fl_5_92 rfl hk1 ?_
  exact tn_ret_i (pc := 9) hΓ hK d_X5_knockedAsLent_9 rfl (by decide) (by decide) h
theorem k_X5_knockedAsDouble_0 {Γ : tn_G} {ks : List (Nat × Nat)} {ρ : Nat → Nat → Nat} {σ : Nat → Nat → Int32} {K : Option Value → List (Nat × Nat) → (Nat → Nat → Nat) → (Nat → Nat → Int32) → Prop} (hG : tn_Gd ks ρ) (hΓ : tn_is Γ m_X5_knockedAsDouble) (hK : tn_rt Γ m_X5_knockedAsDouble K)  (h : tn_CV m_X5_leaveInTrace [.ref 2, .int (5 : Int32)] ks ρ σ (fun σ1 => K (some (.int (70 : Int32))) ks ρ σ1)) : tn_A Γ 0 [.ref 2] [] 0 0 ks ρ σ := by
  refine tn_aload_n (pc := 0) hΓ d_X5_knockedAsDouble_0 rfl ?_
  refine tn_iconst (pc := 1) hΓ d_X5_knockedAsDouble_1 ic_5 ?_
  refine tn_cvV (As := [.int (5 : Int32)]) (st := []) (pc := 2) hΓ d_X5_knockedAsDouble_2 mv_X5_leaveInTrace im_X5_leaveInTrace se_X5_leaveInTrace ml_5_281 ⟨⟨by decide, by decide⟩, by decide, by decide⟩ rfl rfl rfl (by decide) ⟨_, rfl⟩ (gd_k hG (c := 2) rfl) (Nat.le_of_ble_eq_true rfl) rfl h (fun σ1 h => ?_)
  refine tn_bipush (pc := 5) hΓ d_X5_knockedAsDouble_5 bp_70 ?_
  exact tn_ret_i (pc := 7) hΓ hK d_X5_knockedAsDouble_7 rfl (by decide) (by decide) h
theorem k_X6_fails_0 {Γ : tn_G} {ks : List (Nat × Nat)} {ρ : Nat → Nat → Nat} {σ : Nat → Nat → Int32} {K : Option Value → List (Nat × Nat) → (Nat → Nat → Nat) → (Nat → Nat → Int32) → Prop} (hG : tn_Gd ks ρ) (hΓ : tn_is Γ m_X6_fails) (hK : tn_rt Γ m_X6_fails K) (a0 : Int32) (h : (∀ σ1, σ1 = tn_u σ 39 0 a0 → K (some (.int ((-10 : Int32) - a0))) ks ρ σ1)) : tn_A Γ 0 [.ref 39, .int a0] [] 0 0 ks ρ σ := by
  refine tn_aload_n (pc := 0) hΓ d_X6_fails_0 rfl ?_
  refine tn_iload_n (pc := 1) hΓ d_X6_fails_1 rfl ?_
  refine tn_putI (pc := 2) hΓ d_X6_fails_2 fl_6_52 fk_6_6_0 rfl (gd_k hG (c := 39) rfl)  ?_
  refine tn_tops (fun σ1 eσ1 => ?_)
  have h := h σ1 eσ1
  refine tn_bipush (pc := 5) hΓ d_X6_fails_5 bp_m10 ?_
  refine tn_iload_n (pc := 7) hΓ d_X6_fails_7 rfl ?_
  refine tn_isub (pc := 8) hΓ d_X6_fails_8 ?_
  exact tn_ret_i (pc := 9) hΓ hK d_X6_fails_9 rfl (by decide) (by decide) h
theorem k_X6_lost_0 {Γ : tn_G} {ks : List (Nat × Nat)} {ρ : Nat → Nat → Nat} {σ : Nat → Nat → Int32} {K : Option Value → List (Nat × Nat) → (Nat → Nat → Nat) → (Nat → Nat → Int32) → Prop} (hG : tn_Gd ks ρ) (hΓ : tn_is Γ m_X6_lost) (hK : tn_rt Γ m_X6_lost K) (a0 : Int32) (h : (∀ σ1, σ1 = tn_u σ 39 0 a0 → K (some (.long (-9223372036854775808 : Int64))) ks ρ σ1)) : tn_A Γ 0 [.ref 39, .int a0] [] 0 0 ks ρ σ := by
  refine tn_aload_n (pc := 0) hΓ d_X6_lost_0 rfl ?_
  refine tn_iload_n (pc := 1) hΓ d_X6_lost_1 rfl ?_
  refine tn_putI (pc := 2) hΓ d_X6_lost_2 fl_6_52 fk_6_6_0 rfl (gd_k hG (c := 39) rfl)  ?_
  refine tn_tops (fun σ1 eσ1 => ?_)
  have h := h σ1 eσ1
  refine tn_ldc2 (pc := 5) hΓ kc_6_56 d_X6_lost_5 ?_
  exact tn_ret_l (pc := 8) hΓ hK d_X6_lost_8 rfl (by decide) (by decide) h
theorem k_X6_within_0 {Γ : tn_G} {ks : List (Nat × Nat)} {ρ : Nat → Nat → Nat} {σ : Nat → Nat → Int32} {K : Option Value → List (Nat × Nat) → (Nat → Nat → Nat) → (Nat → Nat → Int32) → Prop} (hG : tn_Gd ks ρ) (hΓ : tn_is Γ m_X6_within) (hK : tn_rt Γ m_X6_within K) (a0 : Int32) (a1 : Int32) (a2 : Int32) (h : ((a0 < a1 → K (some (.int (0 : Int32))) ks ρ σ) ∧ (¬ a0 < a1 → ((a2 < a0 → K (some (.int (0 : Int32))) ks ρ σ) ∧ (¬ a2 < a0 → K (some (.int (1 : Int32))) ks ρ σ))))) : tn_A Γ 0 [.int a0, .int a1, .int a2] [] 0 0 ks ρ σ := by
  refine tn_iload_n (pc := 0) hΓ d_X6_within_0 rfl ?_
  refine tn_iload_n (pc := 1) hΓ d_X6_within_1 rfl ?_
  refine tn_icmp_lt (tgt := 14) (pc := 2) hΓ d_X6_within_2 (by decide) (fun hq => ?_) (fun hq => ?_)
  · have h := h.1 hq
    refine tn_iconst (pc := 14) hΓ d_X6_within_14 ic_0 ?_
    exact tn_ret_z (pc := 15) hΓ hK d_X6_within_15 rfl (by decide) (by decide) (Or.inl rfl) h
  · have h := h.2 hq
    refine tn_iload_n (pc := 5) hΓ d_X6_within_5 rfl ?_
    refine tn_iload_n (pc := 6) hΓ d_X6_within_6 rfl ?_
    refine tn_icmp_gt (tgt := 14) (pc := 7) hΓ d_X6_within_7 (by decide) (fun hq => ?_) (fun hq => ?_)
    · have h := h.1 hq
      refine tn_iconst (pc := 14) hΓ d_X6_within_14 ic_0 ?_
      exact tn_ret_z (pc := 15) hΓ hK d_X6_within_15 rfl (by decide) (by decide) (Or.inl rfl) h
    · have h := h.2 hq
      refine tn_iconst (pc := 10) hΓ d_X6_within_10 ic_1 ?_
      refine tn_goto (tgt := 15) (pc := 11) hΓ d_X6_within_11 (by decide) ?_
      exact tn_ret_z (pc := 15) hΓ hK d_X6_within_15 rfl (by decide) (by decide) (Or.inr rfl) h
theorem k_X6_isSheet_0 {Γ : tn_G} {ks : List (Nat × Nat)} {ρ : Nat → Nat → Nat} {σ : Nat → Nat → Int32} {K : Option Value → List (Nat × Nat) → (Nat → Nat → Nat) → (Nat → Nat → Int32) → Prop} (hG : tn_Gd ks ρ) (hΓ : tn_is Γ m_X6_isSheet) (hK : tn_rt Γ m_X6_isSheet K) (a0 : Int32) (h : tn_CI m_X6_within [.int a0, .int (0 : Int32), .int (3 : Int32)] ks ρ σ (fun r1 σ1 => ((r1 = 0 ∨ r1 = 1) ∧ K (some (.int r1)) ks ρ σ1))) : tn_A Γ 0 [.int a0] [] 0 0 ks ρ σ := by
  refine tn_iload_n (pc := 0) hΓ d_X6_isSheet_0 rfl ?_
  refine tn_iconst (pc := 1) hΓ d_X6_isSheet_1 ic_0 ?_
  refine tn_iconst (pc := 2) hΓ d_X6_isSheet_2 ic_3 ?_
  refine tn_csI (As := [.int a0, .int (0 : Int32), .int (3 : Int32)]) (st := []) (pc := 3) hΓ d_X6_isSheet_3 mv_X6_within st_X6_within ml_6_58 ⟨⟨by decide, by decide⟩, by decide, by decide⟩ rfl rfl rfl (Nat.le_of_ble_eq_true rfl) rfl h (fun r1 σ1 h => ?_)
  exact tn_ret_z (pc := 6) hΓ hK d_X6_isSheet_6 rfl (by decide) (by decide) h.1 h.2
theorem k_X6_isSort_0 {Γ : tn_G} {ks : List (Nat × Nat)} {ρ : Nat → Nat → Nat} {σ : Nat → Nat → Int32} {K : Option Value → List (Nat × Nat) → (Nat → Nat → Nat) → (Nat → Nat → Int32) → Prop} (hG : tn_Gd ks ρ) (hΓ : tn_is Γ m_X6_isSort) (hK : tn_rt Γ m_X6_isSort K) (a0 : Int32) (h : tn_CI m_X6_within [.int a0, .int (0 : Int32), .int (2 : Int32)] ks ρ σ (fun r1 σ1 => ((r1 = 0 ∨ r1 = 1) ∧ K (some (.int r1)) ks ρ σ1))) : tn_A Γ 0 [.int a0] [] 0 0 ks ρ σ := by
  refine tn_iload_n (pc := 0) hΓ d_X6_isSort_0 rfl ?_
  refine tn_iconst (pc := 1) hΓ d_X6_isSort_1 ic_0 ?_
  refine tn_iconst (pc := 2) hΓ d_X6_isSort_2 ic_2 ?_
  refine tn_csI (As := [.int a0, .int (0 : Int32), .int (2 : Int32)]) (st := []) (pc := 3) hΓ d_X6_isSort_3 mv_X6_within st_X6_within ml_6_58 ⟨⟨by decide, by decide⟩, by decide, by decide⟩ rfl rfl rfl (Nat.le_of_ble_eq_true rfl) rfl h (fun r1 σ1 h => ?_)
  exact tn_ret_z (pc := 6) hΓ hK d_X6_isSort_6 rfl (by decide) (by decide) h.1 h.2
theorem k_X6_against_0 {Γ : tn_G} {ks : List (Nat × Nat)} {ρ : Nat → Nat → Nat} {σ : Nat → Nat → Int32} {K : Option Value → List (Nat × Nat) → (Nat → Nat → Nat) → (Nat → Nat → Int32) → Prop} (hG : tn_Gd ks ρ) (hΓ : tn_is Γ m_X6_against) (hK : tn_rt Γ m_X6_against K) (a0 : Int32) (a1 : Int32) (a2 : Int32) (a3 : Int32) (h : (vp_in a0 4 ∧ (((σ 40 a0.toNatClampNeg) = (-9 : Int32) → ((¬ (σ 40 a0.toNatClampNeg) = (-9 : Int32) → ((0 ≤ a3 → ((a2 < 0 → K (some (.int (3 : Int32))) ks ρ σ) ∧ (¬ a2 < 0 → (((σ 41 a0.toNatClampNeg) < a2 → K (some (.int (3 : Int32))) ks ρ σ) ∧ (¬ (σ 41 a0.toNatClampNeg) < a2 → ((a3 ≤ ((σ 41 a0.toNatClampNeg) - a2) → K (some (.int (0 : Int32))) ks ρ σ) ∧ (¬ a3 ≤ ((σ 41 a0.toNatClampNeg) - a2) → K (some (.int (3 : Int32))) ks ρ σ))))))) ∧ (¬ 0 ≤ a3 → K (some (.int (4 : Int32))) ks ρ σ))) ∧ ((σ 40 a0.toNatClampNeg) = (-9 : Int32) → K (some (.int (1 : Int32))) ks ρ σ))) ∧ (¬ (σ 40 a0.toNatClampNeg) = (-9 : Int32) → (((σ 40 a0.toNatClampNeg) = a1 → ((¬ (σ 40 a0.toNatClampNeg) = (-9 : Int32) → ((0 ≤ a3 → ((a2 < 0 → K (some (.int (3 : Int32))) ks ρ σ) ∧ (¬ a2 < 0 → (((σ 41 a0.toNatClampNeg) < a2 → K (some (.int (3 : Int32))) ks ρ σ) ∧ (¬ (σ 41 a0.toNatClampNeg) < a2 → ((a3 ≤ ((σ 41 a0.toNatClampNeg) - a2) → K (some (.int (0 : Int32))) ks ρ σ) ∧ (¬ a3 ≤ ((σ 41 a0.toNatClampNeg) - a2) → K (some (.int (3 : Int32))) ks ρ σ))))))) ∧ (¬ 0 ≤ a3 → K (some (.int (4 : Int32))) ks ρ σ))) ∧ ((σ 40 a0.toNatClampNeg) = (-9 : Int32) → K (some (.int (1 : Int32))) ks ρ σ))) ∧ (¬ (σ 40 a0.toNatClampNeg) = a1 → K (some (.int (2 : Int32))) ks ρ σ)))))) : tn_A Γ 0 [.ref 39, .int a0, .int a1, .int a2, .int a3] [] 0 0 ks ρ σ := by
  refine tn_aload_n (pc := 0) hΓ d_X6_against_0 rfl ?_
  refine tn_getRy (y := 40) (pc := 1) hΓ d_X6_against_1 fl_6_9 rfl (gd_k hG (c := 39) rfl) (gd_r hG 39 2 40 rfl rfl) ?_
  refine tn_iload_n (pc := 4) hΓ d_X6_against_4 rfl ?_
  obtain ⟨hi1, h⟩ := h
  refine tn_ald (pc := 5) hΓ d_X6_against_5 (gd_k hG (c := 40) rfl) hi1 ?_
  refine tn_bipush (pc := 6) hΓ d_X6_against_6 bp_m9 ?_
  refine tn_icmp_eq (tgt := 23) (pc := 8) hΓ d_X6_against_8 (by decide) (fun hq => ?_) (fun hq => ?_)
  · have h := h.1 hq
    refine tn_aload_n (pc := 23) hΓ d_X6_against_23 rfl ?_
    refine tn_getRy (y := 40) (pc := 24) hΓ d_X6_against_24 fl_6_9 rfl (gd_k hG (c := 39) rfl) (gd_r hG 39 2 40 rfl rfl) ?_
    refine tn_iload_n (pc := 27) hΓ d_X6_against_27 rfl ?_
    refine tn_ald (pc := 28) hΓ d_X6_against_28 (gd_k hG (c := 40) rfl) hi1 ?_
    refine tn_bipush (pc := 29) hΓ d_X6_against_29 bp_m9 ?_
    refine tn_icmp_ne (tgt := 36) (pc := 31) hΓ d_X6_against_31 (by decide) (fun hq => ?_) (fun hq => ?_)
    · have h := h.1 hq
      refine tn_iload (pc := 36) hΓ d_X6_against_36 rfl ?_
      refine tn_if_ge (tgt := 43) (pc := 38) hΓ d_X6_against_38 (by decide) (fun hq => ?_) (fun hq => ?_)
      · have h := h.1 hq
        refine tn_iload_n (pc := 43) hΓ d_X6_against_43 rfl ?_
        refine tn_if_lt (tgt := 70) (pc := 44) hΓ d_X6_against_44 (by decide) (fun hq => ?_) (fun hq => ?_)
        · have h := h.1 hq
          refine tn_iconst (pc := 70) hΓ d_X6_against_70 ic_3 ?_
          refine tn_goto (tgt := 75) (pc := 71) hΓ d_X6_against_71 (by decide) ?_
          exact tn_ret_i (pc := 75) hΓ hK d_X6_against_75 rfl (by decide) (by decide) h
        · have h := h.2 hq
          refine tn_iload_n (pc := 47) hΓ d_X6_against_47 rfl ?_
          refine tn_aload_n (pc := 48) hΓ d_X6_against_48 rfl ?_
          refine tn_getRy (y := 41) (pc := 49) hΓ d_X6_against_49 fl_6_13 rfl (gd_k hG (c := 39) rfl) (gd_r hG 39 3 41 rfl rfl) ?_
          refine tn_iload_n (pc := 52) hΓ d_X6_against_52 rfl ?_
          refine tn_ald (pc := 53) hΓ d_X6_against_53 (gd_k hG (c := 41) rfl) hi1 ?_
          refine tn_icmp_gt (tgt := 70) (pc := 54) hΓ d_X6_against_54 (by decide) (fun hq => ?_) (fun hq => ?_)
          · have h := h.1 hq
            refine tn_iconst (pc := 70) hΓ d_X6_against_70 ic_3 ?_
            refine tn_goto (tgt := 75) (pc := 71) hΓ d_X6_against_71 (by decide) ?_
            exact tn_ret_i (pc := 75) hΓ hK d_X6_against_75 rfl (by decide) (by decide) h
          · have h := h.2 hq
            refine tn_iload (pc := 57) hΓ d_X6_against_57 rfl ?_
            refine tn_aload_n (pc := 59) hΓ d_X6_against_59 rfl ?_
            refine tn_getRy (y := 41) (pc := 60) hΓ d_X6_against_60 fl_6_13 rfl (gd_k hG (c := 39) rfl) (gd_r hG 39 3 41 rfl rfl) ?_
            refine tn_iload_n (pc := 63) hΓ d_X6_against_63 rfl ?_
            refine tn_ald (pc := 64) hΓ d_X6_against_64 (gd_k hG (c := 41) rfl) hi1 ?_
            refine tn_iload_n (pc := 65) hΓ d_X6_against_65 rfl ?_
            refine tn_isub (pc := 66) hΓ d_X6_against_66 ?_
            refine tn_icmp_le (tgt := 74) (pc := 67) hΓ d_X6_against_67 (by decide) (fun hq => ?_) (fun hq => ?_)
            · have h := h.1 hq
              refine tn_iconst (pc := 74) hΓ d_X6_against_74 ic_0 ?_
              exact tn_ret_i (pc := 75) hΓ hK d_X6_against_75 rfl (by decide) (by decide) h
            · have h := h.2 hq
              refine tn_iconst (pc := 70) hΓ d_X6_against_70 ic_3 ?_
              refine tn_goto (tgt := 75) (pc := 71) hΓ d_X6_against_71 (by decide) ?_
              exact tn_ret_i (pc := 75) hΓ hK d_X6_against_75 rfl (by decide) (by decide) h
      · have h := h.2 hq
        refine tn_iconst (pc := 41) hΓ d_X6_against_41 ic_4 ?_
        exact tn_ret_i (pc := 42) hΓ hK d_X6_against_42 rfl (by decide) (by decide) h
    · have h := h.2 hq
      refine tn_iconst (pc := 34) hΓ d_X6_against_34 ic_1 ?_
      exact tn_ret_i (pc := 35) hΓ hK d_X6_against_35 rfl (by decide) (by decide) h
  · have h := h.2 hq
    refine tn_aload_n (pc := 11) hΓ d_X6_against_11 rfl ?_
    refine tn_getRy (y := 40) (pc := 12) hΓ d_X6_against_12 fl_6_9 rfl (gd_k hG (c := 39) rfl) (gd_r hG 39 2 40 rfl rfl) ?_
    refine tn_iload_n (pc := 15) hΓ d_X6_against_15 rfl ?_
    refine tn_ald (pc := 16) hΓ d_X6_against_16 (gd_k hG (c := 40) rfl) hi1 ?_
    refine tn_iload_n (pc := 17) hΓ d_X6_against_17 rfl ?_
    refine tn_icmp_eq (tgt := 23) (pc := 18) hΓ d_X6_against_18 (by decide) (fun hq => ?_) (fun hq => ?_)
    · have h := h.1 hq
      refine tn_aload_n (pc := 23) hΓ d_X6_against_23 rfl ?_
      refine tn_getRy (y := 40) (pc := 24) hΓ d_X6_against_24 fl_6_9 rfl (gd_k hG (c := 39) rfl) (gd_r hG 39 2 40 rfl rfl) ?_
      refine tn_iload_n (pc := 27) hΓ d_X6_against_27 rfl ?_
      refine tn_ald (pc := 28) hΓ d_X6_against_28 (gd_k hG (c := 40) rfl) hi1 ?_
      refine tn_bipush (pc := 29) hΓ d_X6_against_29 bp_m9 ?_
      refine tn_icmp_ne (tgt := 36) (pc := 31) hΓ d_X6_against_31 (by decide) (fun hq => ?_) (fun hq => ?_)
      · have h := h.1 hq
        refine tn_iload (pc := 36) hΓ d_X6_against_36 rfl ?_
        refine tn_if_ge (tgt := 43) (pc := 38) hΓ d_X6_against_38 (by decide) (fun hq => ?_) (fun hq => ?_)
        · have h := h.1 hq
          refine tn_iload_n (pc := 43) hΓ d_X6_against_43 rfl ?_
          refine tn_if_lt (tgt := 70) (pc := 44) hΓ d_X6_against_44 (by decide) (fun hq => ?_) (fun hq => ?_)
          · have h := h.1 hq
            refine tn_iconst (pc := 70) hΓ d_X6_against_70 ic_3 ?_
            refine tn_goto (tgt := 75) (pc := 71) hΓ d_X6_against_71 (by decide) ?_
            exact tn_ret_i (pc := 75) hΓ hK d_X6_against_75 rfl (by decide) (by decide) h
          · have h := h.2 hq
            refine tn_iload_n (pc := 47) hΓ d_X6_against_47 rfl ?_
            refine tn_aload_n (pc := 48) hΓ d_X6_against_48 rfl ?_
            refine tn_getRy (y := 41) (pc := 49) hΓ d_X6_against_49 fl_6_13 rfl (gd_k hG (c := 39) rfl) (gd_r hG 39 3 41 rfl rfl) ?_
            refine tn_iload_n (pc := 52) hΓ d_X6_against_52 rfl ?_
            refine tn_ald (pc := 53) hΓ d_X6_against_53 (gd_k hG (c := 41) rfl) hi1 ?_
            refine tn_icmp_gt (tgt := 70) (pc := 54) hΓ d_X6_against_54 (by decide) (fun hq => ?_) (fun hq => ?_)
            · have h := h.1 hq
              refine tn_iconst (pc := 70) hΓ d_X6_against_70 ic_3 ?_
              refine tn_goto (tgt := 75) (pc := 71) hΓ d_X6_against_71 (by decide) ?_
              exact tn_ret_i (pc := 75) hΓ hK d_X6_against_75 rfl (by decide) (by decide) h
            · have h := h.2 hq
              refine tn_iload (pc := 57) hΓ d_X6_against_57 rfl ?_
              refine tn_aload_n (pc := 59) hΓ d_X6_against_59 rfl ?_
              refine tn_getRy (y := 41) (pc := 60) hΓ d_X6_against_60 fl_6_13 rfl (gd_k hG (c := 39) rfl) (gd_r hG 39 3 41 rfl rfl) ?_
              refine tn_iload_n (pc := 63) hΓ d_X6_against_63 rfl ?_
              refine tn_ald (pc := 64) hΓ d_X6_against_64 (gd_k hG (c := 41) rfl) hi1 ?_
              refine tn_iload_n (pc := 65) hΓ d_X6_against_65 rfl ?_
              refine tn_isub (pc := 66) hΓ d_X6_against_66 ?_
              refine tn_icmp_le (tgt := 74) (pc := 67) hΓ d_X6_against_67 (by decide) (fun hq => ?_) (fun hq => ?_)
              · have h := h.1 hq
                refine tn_iconst (pc := 74) hΓ d_X6_against_74 ic_0 ?_
                exact tn_ret_i (pc := 75) hΓ hK d_X6_against_75 rfl (by decide) (by decide) h
              · have h := h.2 hq
                refine tn_iconst (pc := 70) hΓ d_X6_against_70 ic_3 ?_
                refine tn_goto (tgt := 75) (pc := 71) hΓ d_X6_against_71 (by decide) ?_
                exact tn_ret_i (pc := 75) hΓ hK d_X6_against_75 rfl (by decide) (by decide) h
        · have h := h.2 hq
          refine tn_iconst (pc := 41) hΓ d_X6_against_41 ic_4 ?_
          exact tn_ret_i (pc := 42) hΓ hK d_X6_against_42 rfl (by decide) (by decide) h
      · have h := h.2 hq
        refine tn_iconst (pc := 34) hΓ d_X6_against_34 ic_1 ?_
        exact tn_ret_i (pc := 35) hΓ hK d_X6_against_35 rfl (by decide) (by decide) h
    · have h := h.2 hq
      refine tn_iconst (pc := 21) hΓ d_X6_against_21 ic_2 ?_
      exact tn_ret_i (pc := 22) hΓ hK d_X6_against_22 rfl (by decide) (by decide) h
theorem k_X6_isHouse_0 {Γ : tn_G} {ks : List (Nat × Nat)} {ρ : Nat → Nat → Nat} {σ : Nat → Nat → Int32} {K : Option Value → List (Nat × Nat) → (Nat → Nat → Nat) → (Nat → Nat → Int32) → Prop} (hG : tn_Gd ks ρ) (hΓ : tn_is Γ m_X6_isHouse) (hK : tn_rt Γ m_X6_isHouse K) (a0 : Int32) (h : ((a0 < 0 → K (some (.int (0 : Int32))) ks ρ σ) ∧ (¬ a0 < 0 → (((σ 39 5) ≤ a0 → K (some (.int (0 : Int32))) ks ρ σ) ∧ (¬ (σ 39 5) ≤ a0 → K (some (.int (1 : Int32))) ks ρ σ))))) : tn_A Γ 0 [.ref 39, .int a0] [] 0 0 ks ρ σ := by
  refine tn_iload_n (pc := 0) hΓ d_X6_isHouse_0 rfl ?_
  refine tn_if_lt (tgt := 16) (pc := 1) hΓ d_X6_isHouse_1 (by decide) (fun hq => ?_) (fun hq => ?_)
  · have h := h.1 hq
    refine tn_iconst (pc := 16) hΓ d_X6_isHouse_16 ic_0 ?_
    exact tn_ret_z (pc := 17) hΓ hK d_X6_isHouse_17 rfl (by decide) (by decide) (Or.inl rfl) h
  · have h := h.2 hq
    refine tn_iload_n (pc := 4) hΓ d_X6_isHouse_4 rfl ?_
    refine tn_aload_n (pc := 5) hΓ d_X6_isHouse_5 rfl ?_
    refine tn_getI (pc := 6) hΓ d_X6_isHouse_6 fl_6_62 rfl (gd_k hG (c := 39) rfl) ?_
    refine tn_icmp_ge (tgt := 16) (pc := 9) hΓ d_X6_isHouse_9 (by decide) (fun hq => ?_) (fun hq => ?_)
    · have h := h.1 hq
      refine tn_iconst (pc := 16) hΓ d_X6_isHouse_16 ic_0 ?_
      exact tn_ret_z (pc := 17) hΓ hK d_X6_isHouse_17 rfl (by decide) (by decide) (Or.inl rfl) h
    · have h := h.2 hq
      refine tn_iconst (pc := 12) hΓ d_X6_isHouse_12 ic_1 ?_
      refine tn_goto (tgt := 17) (pc := 13) hΓ d_X6_isHouse_13 (by decide) ?_
      exact tn_ret_z (pc := 17) hΓ hK d_X6_isHouse_17 rfl (by decide) (by decide) (Or.inr rfl) h
theorem k_X6_isStone_0 {Γ : tn_G} {ks : List (Nat × Nat)} {ρ : Nat → Nat → Nat} {σ : Nat → Nat → Int32} {K : Option Value → List (Nat × Nat) → (Nat → Nat → Nat) → (Nat → Nat → Int32) → Prop} (hG : tn_Gd ks ρ) (hΓ : tn_is Γ m_X6_isStone) (hK : tn_rt Γ m_X6_isStone K) (a0 : Int32) (h : ((a0 < 0 → K (some (.int (0 : Int32))) ks ρ σ) ∧ (¬ a0 < 0 → (((σ 39 6) ≤ a0 → K (some (.int (0 : Int32))) ks ρ σ) ∧ (¬ (σ 39 6) ≤ a0 → K (some (.int (1 : Int32))) ks ρ σ))))) : tn_A Γ 0 [.ref 39, .int a0] [] 0 0 ks ρ σ := by
  refine tn_iload_n (pc := 0) hΓ d_X6_isStone_0 rfl ?_
  refine tn_if_lt (tgt := 16) (pc := 1) hΓ d_X6_isStone_1 (by decide) (fun hq => ?_) (fun hq => ?_)
  · have h := h.1 hq
    refine tn_iconst (pc := 16) hΓ d_X6_isStone_16 ic_0 ?_
    exact tn_ret_z (pc := 17) hΓ hK d_X6_isStone_17 rfl (by decide) (by decide) (Or.inl rfl) h
  · have h := h.2 hq
    refine tn_iload_n (pc := 4) hΓ d_X6_isStone_4 rfl ?_
    refine tn_aload_n (pc := 5) hΓ d_X6_isStone_5 rfl ?_
    refine tn_getI (pc := 6) hΓ d_X6_isStone_6 fl_6_65 rfl (gd_k hG (c := 39) rfl) ?_
    refine tn_icmp_ge (tgt := 16) (pc := 9) hΓ d_X6_isStone_9 (by decide) (fun hq => ?_) (fun hq => ?_)
    · have h := h.1 hq
      refine tn_iconst (pc := 16) hΓ d_X6_isStone_16 ic_0 ?_
      exact tn_ret_z (pc := 17) hΓ hK d_X6_isStone_17 rfl (by decide) (by decide) (Or.inl rfl) h
    · have h := h.2 hq
      refine tn_iconst (pc := 12) hΓ d_X6_isStone_12 ic_1 ?_
      refine tn_goto (tgt := 17) (pc := 13) hΓ d_X6_isStone_13 (by decide) ?_
      exact tn_ret_z (pc := 17) hΓ hK d_X6_isStone_17 rfl (by decide) (by decide) (Or.inr rfl) h
theorem k_X6_isOf_0 {Γ : tn_G} {ks : List (Nat × Nat)} {ρ : Nat → Nat → Nat} {σ : Nat → Nat → Int32} {K : Option Value → List (Nat × Nat) → (Nat → Nat → Nat) → (Nat → Nat → Int32) → Prop} (hG : tn_Gd ks ρ) (hΓ : tn_is Γ m_X6_isOf) (hK : tn_rt Γ m_X6_isOf K) (a0 : Int32) (a1 : Int32) (h : ((¬ ((a0 >>> (a1 &&& 31)) &&& (1 : Int32)) = (1 : Int32) → K (some (.int (0 : Int32))) ks ρ σ) ∧ (((a0 >>> (a1 &&& 31)) &&& (1 : Int32)) = (1 : Int32) → K (some (.int (1 : Int32))) ks ρ σ))) : tn_A Γ 0 [.int a0, .int a1] [] 0 0 ks ρ σ := by
  refine tn_iload_n (pc := 0) hΓ d_X6_isOf_0 rfl ?_
  refine tn_iload_n (pc := 1) hΓ d_X6_isOf_1 rfl ?_
  refine tn_ishr (pc := 2) hΓ d_X6_isOf_2 ?_
  refine tn_iconst (pc := 3) hΓ d_X6_isOf_3 ic_1 ?_
  refine tn_iand (pc := 4) hΓ d_X6_isOf_4 ?_
  refine tn_iconst (pc := 5) hΓ d_X6_isOf_5 ic_1 ?_
  refine tn_icmp_ne (tgt := 13) (pc := 6) hΓ d_X6_isOf_6 (by decide) (fun hq => ?_) (fun hq => ?_)
  · have h := h.1 hq
    refine tn_iconst (pc := 13) hΓ d_X6_isOf_13 ic_0 ?_
    exact tn_ret_z (pc := 14) hΓ hK d_X6_isOf_14 rfl (by decide) (by decide) (Or.inl rfl) h
  · have h := h.2 hq
    refine tn_iconst (pc := 9) hΓ d_X6_isOf_9 ic_1 ?_
    refine tn_goto (tgt := 14) (pc := 10) hΓ d_X6_isOf_10 (by decide) ?_
    exact tn_ret_z (pc := 14) hΓ hK d_X6_isOf_14 rfl (by decide) (by decide) (Or.inr rfl) h
theorem k_X6_size_0 {Γ : tn_G} {ks : List (Nat × Nat)} {ρ : Nat → Nat → Nat} {σ : Nat → Nat → Int32} {K : Option Value → List (Nat × Nat) → (Nat → Nat → Nat) → (Nat → Nat → Int32) → Prop} (hG : tn_Gd ks ρ) (hΓ : tn_is Γ m_X6_size) (hK : tn_rt Γ m_X6_size K) (a0 : Int32) (h : tn_A Γ 4 [.null, .int (0 : Int32), .int a0] [] 0 0 ks ρ σ) : tn_A Γ 0 [.int a0, .null, .null] [] 0 0 ks ρ σ := by
  refine tn_iconst (pc := 0) hΓ d_X6_size_0 ic_0 ?_
  refine tn_istore_n (loc' := [.int a0, .int (0 : Int32), .null]) (pc := 1) hΓ d_X6_size_1 (by decide) rfl rfl ?_
  refine tn_iload_n (pc := 2) hΓ d_X6_size_2 rfl ?_
  refine tn_istore_n (loc' := [.int a0, .int (0 : Int32), .int a0]) (pc := 3) hΓ d_X6_size_3 (by decide) rfl rfl ?_
  refine tn_drop [false, true, true] (loc' := [.null, .int (0 : Int32), .int a0]) rfl ?_
  exact h
theorem k_X6_size_4 {Γ : tn_G} {ks : List (Nat × Nat)} {ρ : Nat → Nat → Nat} {σ : Nat → Nat → Int32} {K : Option Value → List (Nat × Nat) → (Nat → Nat → Nat) → (Nat → Nat → Int32) → Prop} (hG : tn_Gd ks ρ) (hΓ : tn_is Γ m_X6_size) (hK : tn_rt Γ m_X6_size K) (y1 : Int32) (y2 : Int32) (h : ((y2 ≤ 0 → K (some (.int y1)) ks ρ σ) ∧ (¬ y2 ≤ 0 → (∀ x1 : Int32, x1 = (y1 + (y2 &&& (1 : Int32))) → (∀ x2 : Int32, x2 = (y2 >>> ((1 : Int32) &&& 31)) → tn_A Γ 4 [.null, .int x1, .int x2] [] 0 0 ks ρ σ))))) : tn_A Γ 4 [.null, .int y1, .int y2] [] 0 0 ks ρ σ := by
  refine tn_iload_n (pc := 4) hΓ d_X6_size_4 rfl ?_
  refine tn_if_le (tgt := 21) (pc := 5) hΓ d_X6_size_5 (by decide) (fun hq => ?_) (fun hq => ?_)
  · have h := h.1 hq
    refine tn_iload_n (pc := 21) hΓ d_X6_size_21 rfl ?_
    exact tn_ret_i (pc := 22) hΓ hK d_X6_size_22 rfl (by decide) (by decide) h
  · have h := h.2 hq
    refine tn_iload_n (pc := 8) hΓ d_X6_size_8 rfl ?_
    refine tn_iload_n (pc := 9) hΓ d_X6_size_9 rfl ?_
    refine tn_iconst (pc := 10) hΓ d_X6_size_10 ic_1 ?_
    refine tn_iand (pc := 11) hΓ d_X6_size_11 ?_
    refine tn_iadd (pc := 12) hΓ d_X6_size_12 ?_
    refine tn_topi (fun x1 ex1 => ?_)
    have h := h x1 ex1
    refine tn_istore_n (loc' := [.null, .int x1, .int y2]) (pc := 13) hΓ d_X6_size_13 (by decide) rfl rfl ?_
    refine tn_iload_n (pc := 14) hΓ d_X6_size_14 rfl ?_
    refine tn_iconst (pc := 15) hΓ d_X6_size_15 ic_1 ?_
    refine tn_ishr (pc := 16) hΓ d_X6_size_16 ?_
    refine tn_topi (fun x2 ex2 => ?_)
    have h := h x2 ex2
    refine tn_istore_n (loc' := [.null, .int x1, .int x2]) (pc := 17) hΓ d_X6_size_17 (by decide) rfl rfl ?_
    refine tn_goto (tgt := 4) (pc := 18) hΓ d_X6_size_18 (by decide) ?_
    exact h
theorem k_X6_digit_0 {Γ : tn_G} {ks : List (Nat × Nat)} {ρ : Nat → Nat → Nat} {σ : Nat → Nat → Int32} {K : Option Value → List (Nat × Nat) → (Nat → Nat → Nat) → (Nat → Nat → Int32) → Prop} (hG : tn_Gd ks ρ) (hΓ : tn_is Γ m_X6_digit) (hK : tn_rt Γ m_X6_digit K) (a0 : Int32) (a1 : Int32) (a2 : Int32) (h : ((a0 ≤ (σ 39 18) → K (some (.int (-9 : Int32))) ks ρ σ) ∧ (¬ a0 ≤ (σ 39 18) → (vp_in (σ 39 18) 240 ∧ tn_CI m_X6_within [.int (σ 42 (σ 39 18).toNatClampNeg), .int ((48 : Int32) + a1), .int ((48 : Int32) + a2)] ks ρ σ (fun r1 σ1 => ((¬ r1 = 0 → (∀ σ2, σ2 = tn_u σ1 39 18 ((σ1 39 18) + (1 : Int32)) → (vp_in ((σ2 39 18) - (1 : Int32)) 240 ∧ K (some (.int ((σ2 42 ((σ2 39 18) - (1 : Int32)).toNatClampNeg) - (48 : Int32)))) ks ρ σ2))) ∧ (r1 = 0 → K (some (.int (-9 : Int32))) ks ρ σ1))))))) : tn_A Γ 0 [.ref 39, .int a0, .int a1, .int a2] [] 0 0 ks ρ σ := by
  refine tn_aload_n (pc := 0) hΓ d_X6_digit_0 rfl ?_
  refine tn_getI (pc := 1) hΓ d_X6_digit_1 fl_6_68 rfl (gd_k hG (c := 39) rfl) ?_
  refine tn_iload_n (pc := 4) hΓ d_X6_digit_4 rfl ?_
  refine tn_icmp_ge (tgt := 31) (pc := 5) hΓ d_X6_digit_5 (by decide) (fun hq => ?_) (fun hq => ?_)
  · have h := h.1 hq
    refine tn_bipush (pc := 31) hΓ d_X6_digit_31 bp_m9 ?_
    exact tn_ret_i (pc := 33) hΓ hK d_X6_digit_33 rfl (by decide) (by decide) h
  · have h := h.2 hq
    refine tn_aload_n (pc := 8) hΓ d_X6_digit_8 rfl ?_
    refine tn_getRy (y := 42) (pc := 9) hΓ d_X6_digit_9 fl_6_16 rfl (gd_k hG (c := 39) rfl) (gd_r hG 39 4 42 rfl rfl) ?_
    refine tn_aload_n (pc := 12) hΓ d_X6_digit_12 rfl ?_
    refine tn_getI (pc := 13) hΓ d_X6_digit_13 fl_6_68 rfl (gd_k hG (c := 39) rfl) ?_
    obtain ⟨hi1, h⟩ := h
    refine tn_ald (pc := 16) hΓ d_X6_digit_16 (gd_k hG (c := 42) rfl) hi1 ?_
    refine tn_bipush (pc := 17) hΓ d_X6_digit_17 bp_48 ?_
    refine tn_iload_n (pc := 19) hΓ d_X6_digit_19 rfl ?_
    refine tn_iadd (pc := 20) hΓ d_X6_digit_20 ?_
    refine tn_bipush (pc := 21) hΓ d_X6_digit_21 bp_48 ?_
    refine tn_iload_n (pc := 23) hΓ d_X6_digit_23 rfl ?_
    refine tn_iadd (pc := 24) hΓ d_X6_digit_24 ?_
    refine tn_csI (As := [.int (σ 42 (σ 39 18).toNatClampNeg), .int ((48 : Int32) + a1), .int ((48 : Int32) + a2)]) (st := []) (pc := 25) hΓ d_X6_digit_25 mv_X6_within st_X6_within ml_6_58 ⟨⟨by decide, by decide⟩, by decide, by decide⟩ rfl rfl rfl (Nat.le_of_ble_eq_true rfl) rfl h (fun r1 σ1 h => ?_)
    refine tn_if_ne (tgt := 34) (pc := 28) hΓ d_X6_digit_28 (by decide) (fun hq => ?_) (fun hq => ?_)
    · have h := h.1 hq
      refine tn_aload_n (pc := 34) hΓ d_X6_digit_34 rfl ?_
      refine tn_dupr (pc := 35) hΓ d_X6_digit_35 ?_
      refine tn_getI (pc := 36) hΓ d_X6_digit_36 fl_6_68 rfl (gd_k hG (c := 39) rfl) ?_
      refine tn_iconst (pc := 39) hΓ d_X6_digit_39 ic_1 ?_
      refine tn_iadd (pc := 40) hΓ d_X6_digit_40 ?_
      refine tn_putI (pc := 41) hΓ d_X6_digit_41 fl_6_68 fk_6_6_18 rfl (gd_k hG (c := 39) rfl)  ?_
      refine tn_tops (fun σ2 eσ2 => ?_)
      have h := h σ2 eσ2
      refine tn_aload_n (pc := 44) hΓ d_X6_digit_44 rfl ?_
      refine tn_getRy (y := 42) (pc := 45) hΓ d_X6_digit_45 fl_6_16 rfl (gd_k hG (c := 39) rfl) (gd_r hG 39 4 42 rfl rfl) ?_
      refine tn_aload_n (pc := 48) hΓ d_X6_digit_48 rfl ?_
      refine tn_getI (pc := 49) hΓ d_X6_digit_49 fl_6_68 rfl (gd_k hG (c := 39) rfl) ?_
      refine tn_iconst (pc := 52) hΓ d_X6_digit_52 ic_1 ?_
      refine tn_isub (pc := 53) hΓ d_X6_digit_53 ?_
      obtain ⟨hi2, h⟩ := h
      refine tn_ald (pc := 54) hΓ d_X6_digit_54 (gd_k hG (c := 42) rfl) hi2 ?_
      refine tn_bipush (pc := 55) hΓ d_X6_digit_55 bp_48 ?_
      refine tn_isub (pc := 57) hΓ d_X6_digit_57 ?_
      exact tn_ret_i (pc := 58) hΓ hK d_X6_digit_58 rfl (by decide) (by decide) h
    · have h := h.2 hq
      refine tn_bipush (pc := 31) hΓ d_X6_digit_31 bp_m9 ?_
      exact tn_ret_i (pc := 33) hΓ hK d_X6_digit_33 rfl (by decide) (by decide) h
theorem k_X6_isSign_0 {Γ : tn_G} {ks : List (Nat × Nat)} {ρ : Nat → Nat → Nat} {σ : Nat → Nat → Int32} {K : Option Value → List (Nat × Nat) → (Nat → Nat → Nat) → (Nat → Nat → Int32) → Prop} (hG : tn_Gd ks ρ) (hΓ : tn_is Γ m_X6_isSign) (hK : tn_rt Γ m_X6_isSign K) (a0 : Int32) (a1 : Int32) (h : ((a0 ≤ (σ 39 18) → K (some (.int (0 : Int32))) ks ρ σ) ∧ (¬ a0 ≤ (σ 39 18) → (vp_in (σ 39 18) 240 ∧ (((σ 42 (σ 39 18).toNatClampNeg) = a1 → (∀ σ1, σ1 = tn_u σ 39 18 ((σ 39 18) + (1 : Int32)) → K (some (.int (1 : Int32))) ks ρ σ1)) ∧ (¬ (σ 42 (σ 39 18).toNatClampNeg) = a1 → K (some (.int (0 : Int32))) ks ρ σ)))))) : tn_A Γ 0 [.ref 39, .int a0, .int a1] [] 0 0 ks ρ σ := by
  refine tn_aload_n (pc := 0) hΓ d_X6_isSign_0 rfl ?_
  refine tn_getI (pc := 1) hΓ d_X6_isSign_1 fl_6_68 rfl (gd_k hG (c := 39) rfl) ?_
  refine tn_iload_n (pc := 4) hΓ d_X6_isSign_4 rfl ?_
  refine tn_icmp_ge (tgt := 21) (pc := 5) hΓ d_X6_isSign_5 (by decide) (fun hq => ?_) (fun hq => ?_)
  · have h := h.1 hq
    refine tn_iconst (pc := 21) hΓ d_X6_isSign_21 ic_0 ?_
    exact tn_ret_z (pc := 22) hΓ hK d_X6_isSign_22 rfl (by decide) (by decide) (Or.inl rfl) h
  · have h := h.2 hq
    refine tn_aload_n (pc := 8) hΓ d_X6_isSign_8 rfl ?_
    refine tn_getRy (y := 42) (pc := 9) hΓ d_X6_isSign_9 fl_6_16 rfl (gd_k hG (c := 39) rfl) (gd_r hG 39 4 42 rfl rfl) ?_
    refine tn_aload_n (pc := 12) hΓ d_X6_isSign_12 rfl ?_
    refine tn_getI (pc := 13) hΓ d_X6_isSign_13 fl_6_68 rfl (gd_k hG (c := 39) rfl) ?_
    obtain ⟨hi1, h⟩ := h
    refine tn_ald (pc := 16) hΓ d_X6_isSign_16 (gd_k hG (c := 42) rfl) hi1 ?_
    refine tn_iload_n (pc := 17) hΓ d_X6_isSign_17 rfl ?_
    refine tn_icmp_eq (tgt := 23) (pc := 18) hΓ d_X6_isSign_18 (by decide) (fun hq => ?_) (fun hq => ?_)
    · have h := h.1 hq
      refine tn_aload_n (pc := 23) hΓ d_X6_isSign_23 rfl ?_
      refine tn_dupr (pc := 24) hΓ d_X6_isSign_24 ?_
      refine tn_getI (pc := 25) hΓ d_X6_isSign_25 fl_6_68 rfl (gd_k hG (c := 39) rfl) ?_
      refine tn_iconst (pc := 28) hΓ d_X6_isSign_28 ic_1 ?_
      refine tn_iadd (pc := 29) hΓ d_X6_isSign_29 ?_
      refine tn_putI (pc := 30) hΓ d_X6_isSign_30 fl_6_68 fk_6_6_18 rfl (gd_k hG (c := 39) rfl)  ?_
      refine tn_tops (fun σ1 eσ1 => ?_)
      have h := h σ1 eσ1
      refine tn_iconst (pc := 33) hΓ d_X6_isSign_33 ic_1 ?_
      exact tn_ret_z (pc := 34) hΓ hK d_X6_isSign_34 rfl (by decide) (by decide) (Or.inr rfl) h
    · have h := h.2 hq
      refine tn_iconst (pc := 21) hΓ d_X6_isSign_21 ic_0 ?_
      exact tn_ret_z (pc := 22) hΓ hK d_X6_isSign_22 rfl (by decide) (by decide) (Or.inl rfl) h
