-- X6_many
theorem k_X6_many_0 {Γ : tn_G} {ks : List (Nat × Nat)} {ρ : Nat → Nat → Nat} {σ : Nat → Nat → Int32} {K : Option Value → List (Nat × Nat) → (Nat → Nat → Nat) → (Nat → Nat → Int32) → Prop} (hG : tn_Gd ks ρ) (hΓ : tn_is Γ m_X6_many) (hK : tn_rt Γ m_X6_many K) (a0 : Int32) (h : ((a0 = (0 : Int32) → K (some (.int (σ 39 5))) ks ρ σ) ∧ (¬ a0 = (0 : Int32) → ((a0 = (1 : Int32) → K (some (.int (σ 39 6))) ks ρ σ) ∧ (¬ a0 = (1 : Int32) → ((a0 = (2 : Int32) → K (some (.int (σ 39 9))) ks ρ σ) ∧ (¬ a0 = (2 : Int32) → ((a0 = (3 : Int32) → K (some (.int (σ 39 10))) ks ρ σ) ∧ (¬ a0 = (3 : Int32) → ((a0 = (4 : Int32) → K (some (.int (σ 39 26))) ks ρ σ) ∧ (¬ a0 = (4 : Int32) → ((a0 = (5 : Int32) → K (some (.int (σ 39 8))) ks ρ σ) ∧ (¬ a0 = (5 : Int32) → ((a0 = (6 : Int32) → tn_CI m_X6_voiceNow [.ref 39] ks ρ σ (fun r1 σ1 => K (some (.int r1)) ks ρ σ1)) ∧ (¬ a0 = (6 : Int32) → K (some (.int (-2 : Int32))) ks ρ σ))))))))))))))) : tn_A Γ 0 [.ref 39, .int a0] [] 0 0 ks ρ σ := by
  refine tn_iload_n (pc := 0) hΓ d_X6_many_0 rfl ?_
  refine tn_byc (a0 = (0 : Int32)) (fun hq => ?_) (fun hq0 => ?_)
  · have h := h.1 hq
    refine tn_tblIn (off := 43) (tgt := 44) (pc := 1) hΓ d_X6_many_1 (by rw [hq] <;> decide) (by rw [hq] <;> decide) (by rw [hq] <;> rfl) (by decide) ?_
    refine tn_aload_n (pc := 44) hΓ d_X6_many_44 rfl ?_
    refine tn_getI (pc := 45) hΓ d_X6_many_45 fl_6_62 rfl (gd_k hG (c := 39) rfl) ?_
    exact tn_ret_i (pc := 48) hΓ hK d_X6_many_48 rfl (by decide) (by decide) h
  have h := h.2 hq0
  refine tn_byc (a0 = (1 : Int32)) (fun hq => ?_) (fun hq1 => ?_)
  · have h := h.1 hq
    refine tn_tblIn (off := 48) (tgt := 49) (pc := 1) hΓ d_X6_many_1 (by rw [hq] <;> decide) (by rw [hq] <;> decide) (by rw [hq] <;> rfl) (by decide) ?_
    refine tn_aload_n (pc := 49) hΓ d_X6_many_49 rfl ?_
    refine tn_getI (pc := 50) hΓ d_X6_many_50 fl_6_65 rfl (gd_k hG (c := 39) rfl) ?_
    exact tn_ret_i (pc := 53) hΓ hK d_X6_many_53 rfl (by decide) (by decide) h
  have h := h.2 hq1
  refine tn_byc (a0 = (2 : Int32)) (fun hq => ?_) (fun hq2 => ?_)
  · have h := h.1 hq
    refine tn_tblIn (off := 53) (tgt := 54) (pc := 1) hΓ d_X6_many_1 (by rw [hq] <;> decide) (by rw [hq] <;> decide) (by rw [hq] <;> rfl) (by decide) ?_
    refine tn_aload_n (pc := 54) hΓ d_X6_many_54 rfl ?_
    refine tn_getI (pc := 55) hΓ d_X6_many_55 fl_6_113 rfl (gd_k hG (c := 39) rfl) ?_
    exact tn_ret_i (pc := 58) hΓ hK d_X6_many_58 rfl (by decide) (by decide) h
  have h := h.2 hq2
  refine tn_byc (a0 = (3 : Int32)) (fun hq => ?_) (fun hq3 => ?_)
  · have h := h.1 hq
    refine tn_tblIn (off := 58) (tgt := 59) (pc := 1) hΓ d_X6_many_1 (by rw [hq] <;> decide) (by rw [hq] <;> decide) (by rw [hq] <;> rfl) (by decide) ?_
    refine tn_aload_n (pc := 59) hΓ d_X6_many_59 rfl ?_
    refine tn_getI (pc := 60) hΓ d_X6_many_60 fl_6_116 rfl (gd_k hG (c := 39) rfl) ?_
    exact tn_ret_i (pc := 63) hΓ hK d_X6_many_63 rfl (by decide) (by decide) h
  have h := h.2 hq3
  refine tn_byc (a0 = (4 : Int32)) (fun hq => ?_) (fun hq4 => ?_)
  · have h := h.1 hq
    refine tn_tblIn (off := 63) (tgt := 64) (pc := 1) hΓ d_X6_many_1 (by rw [hq] <;> decide) (by rw [hq] <;> decide) (by rw [hq] <;> rfl) (by decide) ?_
    refine tn_aload_n (pc := 64) hΓ d_X6_many_64 rfl ?_
    refine tn_getI (pc := 65) hΓ d_X6_many_65 fl_6_119 rfl (gd_k hG (c := 39) rfl) ?_
    exact tn_ret_i (pc := 68) hΓ hK d_X6_many_68 rfl (by decide) (by decide) h
  have h := h.2 hq4
  refine tn_byc (a0 = (5 : Int32)) (fun hq => ?_) (fun hq5 => ?_)
  · have h := h.1 hq
    refine tn_tblIn (off := 68) (tgt := 69) (pc := 1) hΓ d_X6_many_1 (by rw [hq] <;> decide) (by rw [hq] <;> decide) (by rw [hq] <;> rfl) (by decide) ?_
    refine tn_aload_n (pc := 69) hΓ d_X6_many_69 rfl ?_
    refine tn_getI (pc := 70) hΓ d_X6_many_70 fl_6_110 rfl (gd_k hG (c := 39) rfl) ?_
    exact tn_ret_i (pc := 73) hΓ hK d_X6_many_73 rfl (by decide) (by decide) h
  have h := h.2 hq5
  refine tn_byc (a0 = (6 : Int32)) (fun hq => ?_) (fun hq6 => ?_)
  · have h := h.1 hq
    refine tn_tblIn (off := 73) (tgt := 74) (pc := 1) hΓ d_X6_many_1 (by rw [hq] <;> decide) (by rw [hq] <;> decide) (by rw [hq] <;> rfl) (by decide) ?_
    refine tn_aload_n (pc := 74) hΓ d_X6_many_74 rfl ?_
    refine tn_cvI (As := []) (st := []) (pc := 75) hΓ d_X6_many_75 mv_X6_voiceNow im_X6_voiceNow se_X6_voiceNow ml_6_151 ⟨⟨by decide, by decide⟩, by decide, by decide⟩ rfl rfl rfl (by decide) ⟨_, rfl⟩ (gd_k hG (c := 39) rfl) (Nat.le_of_ble_eq_true rfl) rfl h (fun r1 σ1 h => ?_)
    exact tn_ret_i (pc := 78) hΓ hK d_X6_many_78 rfl (by decide) (by decide) h
  have h := h.2 hq6
  refine tn_tblOut (tgt := 79) (pc := 1) hΓ d_X6_many_1 (tn_out_0_6 hq0 hq1 hq2 hq3 hq4 hq5 hq6) (by decide) ?_
  refine tn_bipush (pc := 79) hΓ d_X6_many_79 bp_m2 ?_
  exact tn_ret_i (pc := 81) hΓ hK d_X6_many_81 rfl (by decide) (by decide) h
