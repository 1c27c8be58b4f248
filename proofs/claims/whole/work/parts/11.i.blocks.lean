-- X6_behind X6_quietIn X6_quiet X6_fewest X6_weightOfSet X6_claps X6_findPains X6_rests X6_reading X6_back
theorem k_X6_behind_0 {Γ : tn_G} {ks : List (Nat × Nat)} {ρ : Nat → Nat → Nat} {σ : Nat → Nat → Int32} {K : Option Value → List (Nat × Nat) → (Nat → Nat → Nat) → (Nat → Nat → Int32) → Prop} (hG : tn_Gd ks ρ) (hΓ : tn_is Γ m_X6_behind) (hK : tn_rt Γ m_X6_behind K) (a0 : Int32) (a1 : Int32) (h : tn_CI m_X6_within [.int a0, .int (0 : Int32), .int (60 : Int32)] ks ρ σ (fun r1 σ1 => ((r1 = 0 → K (some (.int (-2 : Int32))) ks ρ σ1) ∧ (¬ r1 = 0 → tn_CI m_X6_within [.int a1, .int (0 : Int32), .int (2 : Int32)] ks ρ σ1 (fun r2 σ2 => ((¬ r2 = 0 → ((¬ (σ2 39 5) = 0 → tn_CV m_X6_keep [.ref 39, .int (0 : Int32)] ks ρ σ2 (fun σ3 => (∀ x1 : Int32, x1 = (σ3 39 10) → tn_A Γ 45 [.ref 39, .int a0, .int a1, .int x1, .int (0 : Int32)] [] 0 0 ks ρ σ3))) ∧ ((σ2 39 5) = 0 → K (some (.int (-3 : Int32))) ks ρ σ2))) ∧ (r2 = 0 → K (some (.int (-2 : Int32))) ks ρ σ2))))))) : tn_A Γ 0 [.ref 39, .int a0, .int a1, .null, .null] [] 0 0 ks ρ σ := by
  refine tn_iload_n (pc := 0) hΓ d_X6_behind_0 rfl ?_
  refine tn_iconst (pc := 1) hΓ d_X6_behind_1 ic_0 ?_
  refine tn_bipush (pc := 2) hΓ d_X6_behind_2 bp_60 ?_
  refine tn_csI (As := [.int a0, .int (0 : Int32), .int (60 : Int32)]) (st := []) (pc := 4) hΓ d_X6_behind_4 mv_X6_within st_X6_within ml_6_58 ⟨⟨by decide, by decide⟩, by decide, by decide⟩ rfl rfl rfl (Nat.le_of_ble_eq_true rfl) rfl h (fun r1 σ1 h => ?_)
  refine tn_if_eq (tgt := 19) (pc := 7) hΓ d_X6_behind_7 (by decide) (fun hq => ?_) (fun hq => ?_)
  · have h := h.1 hq
    refine tn_bipush (pc := 19) hΓ d_X6_behind_19 bp_m2 ?_
    exact tn_ret_i (pc := 21) hΓ hK d_X6_behind_21 rfl (by decide) (by decide) h
  · have h := h.2 hq
    refine tn_iload_n (pc := 10) hΓ d_X6_behind_10 rfl ?_
    refine tn_iconst (pc := 11) hΓ d_X6_behind_11 ic_0 ?_
    refine tn_iconst (pc := 12) hΓ d_X6_behind_12 ic_2 ?_
    refine tn_csI (As := [.int a1, .int (0 : Int32), .int (2 : Int32)]) (st := []) (pc := 13) hΓ d_X6_behind_13 mv_X6_within st_X6_within ml_6_58 ⟨⟨by decide, by decide⟩, by decide, by decide⟩ rfl rfl rfl (Nat.le_of_ble_eq_true rfl) rfl h (fun r2 σ2 h => ?_)
    refine tn_if_ne (tgt := 22) (pc := 16) hΓ d_X6_behind_16 (by decide) (fun hq => ?_) (fun hq => ?_)
    · have h := h.1 hq
      refine tn_aload_n (pc := 22) hΓ d_X6_behind_22 rfl ?_
      refine tn_getI (pc := 23) hΓ d_X6_behind_23 fl_6_62 rfl (gd_k hG (c := 39) rfl) ?_
      refine tn_if_ne (tgt := 32) (pc := 26) hΓ d_X6_behind_26 (by decide) (fun hq => ?_) (fun hq => ?_)
      · have h := h.1 hq
        refine tn_aload_n (pc := 32) hΓ d_X6_behind_32 rfl ?_
        refine tn_iconst (pc := 33) hΓ d_X6_behind_33 ic_0 ?_
        refine tn_cvV (As := [.int (0 : Int32)]) (st := []) (pc := 34) hΓ d_X6_behind_34 mv_X6_keep im_X6_keep se_X6_keep ml_6_170 ⟨⟨by decide, by decide⟩, by decide, by decide⟩ rfl rfl rfl (by decide) ⟨_, rfl⟩ (gd_k hG (c := 39) rfl) (Nat.le_of_ble_eq_true rfl) rfl h (fun σ3 h => ?_)
        refine tn_aload_n (pc := 37) hΓ d_X6_behind_37 rfl ?_
        refine tn_getI (pc := 38) hΓ d_X6_behind_38 fl_6_116 rfl (gd_k hG (c := 39) rfl) ?_
        refine tn_topi (fun x1 ex1 => ?_)
        have h := h x1 ex1
        refine tn_istore_n (loc' := [.ref 39, .int a0, .int a1, .int x1, .null]) (pc := 41) hΓ d_X6_behind_41 (by decide) rfl rfl ?_
        refine tn_iconst (pc := 42) hΓ d_X6_behind_42 ic_0 ?_
        refine tn_istore (loc' := [.ref 39, .int a0, .int a1, .int x1, .int (0 : Int32)]) (pc := 43) hΓ d_X6_behind_43 (by decide) rfl rfl ?_
        exact h
      · have h := h.2 hq
        refine tn_bipush (pc := 29) hΓ d_X6_behind_29 bp_m3 ?_
        exact tn_ret_i (pc := 31) hΓ hK d_X6_behind_31 rfl (by decide) (by decide) h
    · have h := h.2 hq
      refine tn_bipush (pc := 19) hΓ d_X6_behind_19 bp_m2 ?_
      exact tn_ret_i (pc := 21) hΓ hK d_X6_behind_21 rfl (by decide) (by decide) h
theorem k_X6_behind_45 {Γ : tn_G} {ks : List (Nat × Nat)} {ρ : Nat → Nat → Nat} {σ : Nat → Nat → Int32} {K : Option Value → List (Nat × Nat) → (Nat → Nat → Nat) → (Nat → Nat → Int32) → Prop} (hG : tn_Gd ks ρ) (hΓ : tn_is Γ m_X6_behind) (hK : tn_rt Γ m_X6_behind K) (y1 : Int32) (y2 : Int32) (y3 : Int32) (y4 : Int32) (h : ((y1 ≤ y4 → ((¬ y2 = 0 → ((¬ y2 = (1 : Int32) → (∀ x1 : Int32, x1 = ((σ 39 10) - y3) → tn_CV m_X6_putBack [.ref 39, .int (0 : Int32)] ks ρ σ (fun σ1 => K (some (.int x1)) ks ρ σ1))) ∧ (y2 = (1 : Int32) → (∀ x2 : Int32, x2 = (σ 39 8) → tn_CV m_X6_putBack [.ref 39, .int (0 : Int32)] ks ρ σ (fun σ2 => K (some (.int x2)) ks ρ σ2))))) ∧ (y2 = 0 → tn_CI m_X6_voiceNow [.ref 39] ks ρ σ (fun r1 σ3 => tn_CV m_X6_putBack [.ref 39, .int (0 : Int32)] ks ρ σ3 (fun σ4 => K (some (.int r1)) ks ρ σ4))))) ∧ (¬ y1 ≤ y4 → tn_CV m_X6_goesNight [.ref 39] ks ρ σ (fun σ5 => (∀ x3 : Int32, x3 = y4 + (1 : Int32) → tn_A Γ 45 [.ref 39, .int y1, .int y2, .int y3, .int x3] [] 0 0 ks ρ σ5))))) : tn_A Γ 45 [.ref 39, .int y1, .int y2, .int y3, .int y4] [] 0 0 ks ρ σ := by
  refine tn_iload (pc := 45) hΓ d_X6_behind_45 rfl ?_
  refine tn_iload_n (pc := 47) hΓ d_X6_behind_47 rfl ?_
  refine tn_icmp_ge (tgt := 61) (pc := 48) hΓ d_X6_behind_48 (by decide) (fun hq => ?_) (fun hq => ?_)
  · have h := h.1 hq
    refine tn_iload_n (pc := 61) hΓ d_X6_behind_61 rfl ?_
    refine tn_if_ne (tgt := 72) (pc := 62) hΓ d_X6_behind_62 (by decide) (fun hq => ?_) (fun hq => ?_)
    · have h := h.1 hq
      refine tn_iload_n (pc := 72) hΓ d_X6_behind_72 rfl ?_
      refine tn_iconst (pc := 73) hΓ d_X6_behind_73 ic_1 ?_
      refine tn_icmp_ne (tgt := 84) (pc := 74) hΓ d_X6_behind_74 (by decide) (fun hq => ?_) (fun hq => ?_)
      · have h := h.1 hq
        refine tn_aload_n (pc := 84) hΓ d_X6_behind_84 rfl ?_
        refine tn_getI (pc := 85) hΓ d_X6_behind_85 fl_6_116 rfl (gd_k hG (c := 39) rfl) ?_
        refine tn_iload_n (pc := 88) hΓ d_X6_behind_88 rfl ?_
        refine tn_isub (pc := 89) hΓ d_X6_behind_89 ?_
        refine tn_topi (fun x1 ex1 => ?_)
        have h := h x1 ex1
        refine tn_istore (loc' := [.ref 39, .int y1, .int y2, .int y3, .int x1]) (pc := 90) hΓ d_X6_behind_90 (by decide) rfl rfl ?_
        refine tn_aload_n (pc := 92) hΓ d_X6_behind_92 rfl ?_
        refine tn_iconst (pc := 93) hΓ d_X6_behind_93 ic_0 ?_
        refine tn_cvV (As := [.int (0 : Int32)]) (st := []) (pc := 94) hΓ d_X6_behind_94 mv_X6_putBack im_X6_putBack se_X6_putBack ml_6_181 ⟨⟨by decide, by decide⟩, by decide, by decide⟩ rfl rfl rfl (by decide) ⟨_, rfl⟩ (gd_k hG (c := 39) rfl) (Nat.le_of_ble_eq_true rfl) rfl h (fun σ1 h => ?_)
        refine tn_iload (pc := 97) hΓ d_X6_behind_97 rfl ?_
        exact tn_ret_i (pc := 99) hΓ hK d_X6_behind_99 rfl (by decide) (by decide) h
      · have h := h.2 hq
        refine tn_aload_n (pc := 77) hΓ d_X6_behind_77 rfl ?_
        refine tn_getI (pc := 78) hΓ d_X6_behind_78 fl_6_110 rfl (gd_k hG (c := 39) rfl) ?_
        refine tn_goto (tgt := 90) (pc := 81) hΓ d_X6_behind_81 (by decide) ?_
        refine tn_topi (fun x2 ex2 => ?_)
        have h := h x2 ex2
        refine tn_istore (loc' := [.ref 39, .int y1, .int y2, .int y3, .int x2]) (pc := 90) hΓ d_X6_behind_90 (by decide) rfl rfl ?_
        refine tn_aload_n (pc := 92) hΓ d_X6_behind_92 rfl ?_
        refine tn_iconst (pc := 93) hΓ d_X6_behind_93 ic_0 ?_
        refine tn_cvV (As := [.int (0 : Int32)]) (st := []) (pc := 94) hΓ d_X6_behind_94 mv_X6_putBack im_X6_putBack se_X6_putBack ml_6_181 ⟨⟨by decide, by decide⟩, by decide, by decide⟩ rfl rfl rfl (by decide) ⟨_, rfl⟩ (gd_k hG (c := 39) rfl) (Nat.le_of_ble_eq_true rfl) rfl h (fun σ2 h => ?_)
        refine tn_iload (pc := 97) hΓ d_X6_behind_97 rfl ?_
        exact tn_ret_i (pc := 99) hΓ hK d_X6_behind_99 rfl (by decide) (by decide) h
    · have h := h.2 hq
      refine tn_aload_n (pc := 65) hΓ d_X6_behind_65 rfl ?_
      refine tn_cvI (As := []) (st := []) (pc := 66) hΓ d_X6_behind_66 mv_X6_voiceNow im_X6_voiceNow se_X6_voiceNow ml_6_151 ⟨⟨by decide, by decide⟩, by decide, by decide⟩ rfl rfl rfl (by decide) ⟨_, rfl⟩ (gd_k hG (c := 39) rfl) (Nat.le_of_ble_eq_true rfl) rfl h (fun r1 σ3 h => ?_)
      refine tn_goto (tgt := 90) (pc := 69) hΓ d_X6_behind_69 (by decide) ?_
      refine tn_istore (loc' := [.ref 39, .int y1, .int y2, .int y3, .int r1]) (pc := 90) hΓ d_X6_behind_90 (by decide) rfl rfl ?_
      refine tn_aload_n (pc := 92) hΓ d_X6_behind_92 rfl ?_
      refine tn_iconst (pc := 93) hΓ d_X6_behind_93 ic_0 ?_
      refine tn_cvV (As := [.int (0 : Int32)]) (st := []) (pc := 94) hΓ d_X6_behind_94 mv_X6_putBack im_X6_putBack se_X6_putBack ml_6_181 ⟨⟨by decide, by decide⟩, by decide, by decide⟩ rfl rfl rfl (by decide) ⟨_, rfl⟩ (gd_k hG (c := 39) rfl) (Nat.le_of_ble_eq_true rfl) rfl h (fun σ4 h => ?_)
      refine tn_iload (pc := 97) hΓ d_X6_behind_97 rfl ?_
      exact tn_ret_i (pc := 99) hΓ hK d_X6_behind_99 rfl (by decide) (by decide) h
  · have h := h.2 hq
    refine tn_aload_n (pc := 51) hΓ d_X6_behind_51 rfl ?_
    refine tn_cvV (As := []) (st := []) (pc := 52) hΓ d_X6_behind_52 mv_X6_goesNight im_X6_goesNight se_X6_goesNight ml_6_164 ⟨⟨by decide, by decide⟩, by decide, by decide⟩ rfl rfl rfl (by decide) ⟨_, rfl⟩ (gd_k hG (c := 39) rfl) (Nat.le_of_ble_eq_true rfl) rfl h (fun σ5 h => ?_)
    refine tn_iincw (loc' := fun v_ => [.ref 39, .int y1, .int y2, .int y3, .int v_]) (pc := 55) hΓ d_X6_behind_55 rfl ic_1 (by decide) rfl (fun _ => rfl) (fun x3 ex3 => ?_)
    have h := h x3 ex3
    refine tn_goto (tgt := 45) (pc := 58) hΓ d_X6_behind_58 (by decide) ?_
    exact h
theorem k_X6_quietIn_0 {Γ : tn_G} {ks : List (Nat × Nat)} {ρ : Nat → Nat → Nat} {σ : Nat → Nat → Int32} {K : Option Value → List (Nat × Nat) → (Nat → Nat → Nat) → (Nat → Nat → Int32) → Prop} (hG : tn_Gd ks ρ) (hΓ : tn_is Γ m_X6_quietIn) (hK : tn_rt Γ m_X6_quietIn K) (a0 : Int32) (h : tn_CV m_X6_keep [.ref 39, .int (1 : Int32)] ks ρ σ (fun σ1 => tn_A Γ 7 [.ref 39, .int a0, .int (0 : Int32), .null] [] 0 0 ks ρ σ1)) : tn_A Γ 0 [.ref 39, .int a0, .null, .null] [] 0 0 ks ρ σ := by
  refine tn_aload_n (pc := 0) hΓ d_X6_quietIn_0 rfl ?_
  refine tn_iconst (pc := 1) hΓ d_X6_quietIn_1 ic_1 ?_
  refine tn_cvV (As := [.int (1 : Int32)]) (st := []) (pc := 2) hΓ d_X6_quietIn_2 mv_X6_keep im_X6_keep se_X6_keep ml_6_170 ⟨⟨by decide, by decide⟩, by decide, by decide⟩ rfl rfl rfl (by decide) ⟨_, rfl⟩ (gd_k hG (c := 39) rfl) (Nat.le_of_ble_eq_true rfl) rfl h (fun σ1 h => ?_)
  refine tn_iconst (pc := 5) hΓ d_X6_quietIn_5 ic_0 ?_
  refine tn_istore_n (loc' := [.ref 39, .int a0, .int (0 : Int32), .null]) (pc := 6) hΓ d_X6_quietIn_6 (by decide) rfl rfl ?_
  exact h
theorem k_X6_quietIn_7 {Γ : tn_G} {ks : List (Nat × Nat)} {ρ : Nat → Nat → Nat} {σ : Nat → Nat → Int32} {K : Option Value → List (Nat × Nat) → (Nat → Nat → Nat) → (Nat → Nat → Int32) → Prop} (hG : tn_Gd ks ρ) (hΓ : tn_is Γ m_X6_quietIn) (hK : tn_rt Γ m_X6_quietIn K) (y1 : Int32) (y2 : Int32) (h : tn_CI m_X6_voiceNow [.ref 39] ks ρ σ (fun r1 σ1 => ((r1 ≤ 0 → tn_CI m_X6_voiceNow [.ref 39] ks ρ σ1 (fun r2 σ2 => ((¬ r2 = 0 → tn_CV m_X6_putBack [.ref 39, .int (1 : Int32)] ks ρ σ2 (fun σ3 => K (some (.int (-9 : Int32))) ks ρ σ3)) ∧ (r2 = 0 → tn_CV m_X6_putBack [.ref 39, .int (1 : Int32)] ks ρ σ2 (fun σ4 => K (some (.int y2)) ks ρ σ4))))) ∧ (¬ r1 ≤ 0 → ((y1 ≤ y2 → tn_CI m_X6_voiceNow [.ref 39] ks ρ σ1 (fun r3 σ5 => ((¬ r3 = 0 → tn_CV m_X6_putBack [.ref 39, .int (1 : Int32)] ks ρ σ5 (fun σ6 => K (some (.int (-9 : Int32))) ks ρ σ6)) ∧ (r3 = 0 → tn_CV m_X6_putBack [.ref 39, .int (1 : Int32)] ks ρ σ5 (fun σ7 => K (some (.int y2)) ks ρ σ7))))) ∧ (¬ y1 ≤ y2 → tn_CV m_X6_goesNight [.ref 39] ks ρ σ1 (fun σ8 => (∀ x1 : Int32, x1 = y2 + (1 : Int32) → tn_A Γ 7 [.ref 39, .int y1, .int x1, .null] [] 0 0 ks ρ σ8)))))))) : tn_A Γ 7 [.ref 39, .int y1, .int y2, .null] [] 0 0 ks ρ σ := by
  refine tn_aload_n (pc := 7) hΓ d_X6_quietIn_7 rfl ?_
  refine tn_cvI (As := []) (st := []) (pc := 8) hΓ d_X6_quietIn_8 mv_X6_voiceNow im_X6_voiceNow se_X6_voiceNow ml_6_151 ⟨⟨by decide, by decide⟩, by decide, by decide⟩ rfl rfl rfl (by decide) ⟨_, rfl⟩ (gd_k hG (c := 39) rfl) (Nat.le_of_ble_eq_true rfl) rfl h (fun r1 σ1 h => ?_)
  refine tn_if_le (tgt := 29) (pc := 11) hΓ d_X6_quietIn_11 (by decide) (fun hq => ?_) (fun hq => ?_)
  · have h := h.1 hq
    refine tn_aload_n (pc := 29) hΓ d_X6_quietIn_29 rfl ?_
    refine tn_cvI (As := []) (st := []) (pc := 30) hΓ d_X6_quietIn_30 mv_X6_voiceNow im_X6_voiceNow se_X6_voiceNow ml_6_151 ⟨⟨by decide, by decide⟩, by decide, by decide⟩ rfl rfl rfl (by decide) ⟨_, rfl⟩ (gd_k hG (c := 39) rfl) (Nat.le_of_ble_eq_true rfl) rfl h (fun r2 σ2 h => ?_)
    refine tn_if_ne (tgt := 40) (pc := 33) hΓ d_X6_quietIn_33 (by decide) (fun hq => ?_) (fun hq => ?_)
    · have h := h.1 hq
      refine tn_bipush (pc := 40) hΓ d_X6_quietIn_40 bp_m9 ?_
      refine tn_istore_n (loc' := [.ref 39, .int y1, .int y2, .int (-9 : Int32)]) (pc := 42) hΓ d_X6_quietIn_42 (by decide) rfl rfl ?_
      refine tn_aload_n (pc := 43) hΓ d_X6_quietIn_43 rfl ?_
      refine tn_iconst (pc := 44) hΓ d_X6_quietIn_44 ic_1 ?_
      refine tn_cvV (As := [.int (1 : Int32)]) (st := []) (pc := 45) hΓ d_X6_quietIn_45 mv_X6_putBack im_X6_putBack se_X6_putBack ml_6_181 ⟨⟨by decide, by decide⟩, by decide, by decide⟩ rfl rfl rfl (by decide) ⟨_, rfl⟩ (gd_k hG (c := 39) rfl) (Nat.le_of_ble_eq_true rfl) rfl h (fun σ3 h => ?_)
      refine tn_iload_n (pc := 48) hΓ d_X6_quietIn_48 rfl ?_
      exact tn_ret_i (pc := 49) hΓ hK d_X6_quietIn_49 rfl (by decide) (by decide) h
    · have h := h.2 hq
      refine tn_iload_n (pc := 36) hΓ d_X6_quietIn_36 rfl ?_
      refine tn_goto (tgt := 42) (pc := 37) hΓ d_X6_quietIn_37 (by decide) ?_
      refine tn_istore_n (loc' := [.ref 39, .int y1, .int y2, .int y2]) (pc := 42) hΓ d_X6_quietIn_42 (by decide) rfl rfl ?_
      refine tn_aload_n (pc := 43) hΓ d_X6_quietIn_43 rfl ?_
      refine tn_iconst (pc := 44) hΓ d_X6_quietIn_44 ic_1 ?_
      refine tn_cvV (As := [.int (1 : Int32)]) (st := []) (pc := 45) hΓ d_X6_quietIn_45 mv_X6_putBack im_X6_putBack se_X6_putBack ml_6_181 ⟨⟨by decide, by decide⟩, by decide, by decide⟩ rfl rfl rfl (by decide) ⟨_, rfl⟩ (gd_k hG (c := 39) rfl) (Nat.le_of_ble_eq_true rfl) rfl h (fun σ4 h => ?_)
      refine tn_iload_n (pc := 48) hΓ d_X6_quietIn_48 rfl ?_
      exact tn_ret_i (pc := 49) hΓ hK d_X6_quietIn_49 rfl (by decide) (by decide) h
  · have h := h.2 hq
    refine tn_iload_n (pc := 14) hΓ d_X6_quietIn_14 rfl ?_
    refine tn_iload_n (pc := 15) hΓ d_X6_quietIn_15 rfl ?_
    refine tn_icmp_ge (tgt := 29) (pc := 16) hΓ d_X6_quietIn_16 (by decide) (fun hq => ?_) (fun hq => ?_)
    · have h := h.1 hq
      refine tn_aload_n (pc := 29) hΓ d_X6_quietIn_29 rfl ?_
      refine tn_cvI (As := []) (st := []) (pc := 30) hΓ d_X6_quietIn_30 mv_X6_voiceNow im_X6_voiceNow se_X6_voiceNow ml_6_151 ⟨⟨by decide, by decide⟩, by decide, by decide⟩ rfl rfl rfl (by decide) ⟨_, rfl⟩ (gd_k hG (c := 39) rfl) (Nat.le_of_ble_eq_true rfl) rfl h (fun r3 σ5 h => ?_)
      refine tn_if_ne (tgt := 40) (pc := 33) hΓ d_X6_quietIn_33 (by decide) (fun hq => ?_) (fun hq => ?_)
      · have h := h.1 hq
        refine tn_bipush (pc := 40) hΓ d_X6_quietIn_40 bp_m9 ?_
        refine tn_istore_n (loc' := [.ref 39, .int y1, .int y2, .int (-9 : Int32)]) (pc := 42) hΓ d_X6_quietIn_42 (by decide) rfl rfl ?_
        refine tn_aload_n (pc := 43) hΓ d_X6_quietIn_43 rfl ?_
        refine tn_iconst (pc := 44) hΓ d_X6_quietIn_44 ic_1 ?_
        refine tn_cvV (As := [.int (1 : Int32)]) (st := []) (pc := 45) hΓ d_X6_quietIn_45 mv_X6_putBack im_X6_putBack se_X6_putBack ml_6_181 ⟨⟨by decide, by decide⟩, by decide, by decide⟩ rfl rfl rfl (by decide) ⟨_, rfl⟩ (gd_k hG (c := 39) rfl) (Nat.le_of_ble_eq_true rfl) rfl h (fun σ6 h => ?_)
        refine tn_iload_n (pc := 48) hΓ d_X6_quietIn_48 rfl ?_
        exact tn_ret_i (pc := 49) hΓ hK d_X6_quietIn_49 rfl (by decide) (by decide) h
      · have h := h.2 hq
        refine tn_iload_n (pc := 36) hΓ d_X6_quietIn_36 rfl ?_
        refine tn_goto (tgt := 42) (pc := 37) hΓ d_X6_quietIn_37 (by decide) ?_
        refine tn_istore_n (loc' := [.ref 39, .int y1, .int y2, .int y2]) (pc := 42) hΓ d_X6_quietIn_42 (by decide) rfl rfl ?_
        refine tn_aload_n (pc := 43) hΓ d_X6_quietIn_43 rfl ?_
        refine tn_iconst (pc := 44) hΓ d_X6_quietIn_44 ic_1 ?_
        refine tn_cvV (As := [.int (1 : Int32)]) (st := []) (pc := 45) hΓ d_X6_quietIn_45 mv_X6_putBack im_X6_putBack se_X6_putBack ml_6_181 ⟨⟨by decide, by decide⟩, by decide, by decide⟩ rfl rfl rfl (by decide) ⟨_, rfl⟩ (gd_k hG (c := 39) rfl) (Nat.le_of_ble_eq_true rfl) rfl h (fun σ7 h => ?_)
        refine tn_iload_n (pc := 48) hΓ d_X6_quietIn_48 rfl ?_
        exact tn_ret_i (pc := 49) hΓ hK d_X6_quietIn_49 rfl (by decide) (by decide) h
    · have h := h.2 hq
      refine tn_aload_n (pc := 19) hΓ d_X6_quietIn_19 rfl ?_
      refine tn_cvV (As := []) (st := []) (pc := 20) hΓ d_X6_quietIn_20 mv_X6_goesNight im_X6_goesNight se_X6_goesNight ml_6_164 ⟨⟨by decide, by decide⟩, by decide, by decide⟩ rfl rfl rfl (by decide) ⟨_, rfl⟩ (gd_k hG (c := 39) rfl) (Nat.le_of_ble_eq_true rfl) rfl h (fun σ8 h => ?_)
      refine tn_iincw (loc' := fun v_ => [.ref 39, .int y1, .int v_, .null]) (pc := 23) hΓ d_X6_quietIn_23 rfl ic_1 (by decide) rfl (fun _ => rfl) (fun x1 ex1 => ?_)
      have h := h x1 ex1
      refine tn_goto (tgt := 7) (pc := 26) hΓ d_X6_quietIn_26 (by decide) ?_
      exact h
theorem k_X6_quiet_0 {Γ : tn_G} {ks : List (Nat × Nat)} {ρ : Nat → Nat → Nat} {σ : Nat → Nat → Int32} {K : Option Value → List (Nat × Nat) → (Nat → Nat → Nat) → (Nat → Nat → Int32) → Prop} (hG : tn_Gd ks ρ) (hΓ : tn_is Γ m_X6_quiet) (hK : tn_rt Γ m_X6_quiet K)  (h : ((¬ (σ 39 5) = 0 → tn_CI m_X6_quietIn [.ref 39, .int (60 : Int32)] ks ρ σ (fun r1 σ1 => K (some (.int r1)) ks ρ σ1)) ∧ ((σ 39 5) = 0 → K (some (.int (-3 : Int32))) ks ρ σ))) : tn_A Γ 0 [.ref 39] [] 0 0 ks ρ σ := by
  refine tn_aload_n (pc := 0) hΓ d_X6_quiet_0 rfl ?_
  refine tn_getI (pc := 1) hΓ d_X6_quiet_1 fl_6_62 rfl (gd_k hG (c := 39) rfl) ?_
  refine tn_if_ne (tgt := 12) (pc := 4) hΓ d_X6_quiet_4 (by decide) (fun hq => ?_) (fun hq => ?_)
  · have h := h.1 hq
    refine tn_aload_n (pc := 12) hΓ d_X6_quiet_12 rfl ?_
    refine tn_bipush (pc := 13) hΓ d_X6_quiet_13 bp_60 ?_
    refine tn_cvI (As := [.int (60 : Int32)]) (st := []) (pc := 15) hΓ d_X6_quiet_15 mv_X6_quietIn im_X6_quietIn se_X6_quietIn ml_6_184 ⟨⟨by decide, by decide⟩, by decide, by decide⟩ rfl rfl rfl (by decide) ⟨_, rfl⟩ (gd_k hG (c := 39) rfl) (Nat.le_of_ble_eq_true rfl) rfl h (fun r1 σ1 h => ?_)
    exact tn_ret_i (pc := 18) hΓ hK d_X6_quiet_18 rfl (by decide) (by decide) h
  · have h := h.2 hq
    refine tn_bipush (pc := 7) hΓ d_X6_quiet_7 bp_m3 ?_
    refine tn_goto (tgt := 18) (pc := 9) hΓ d_X6_quiet_9 (by decide) ?_
    exact tn_ret_i (pc := 18) hΓ hK d_X6_quiet_18 rfl (by decide) (by decide) h
theorem k_X6_fewest_0 {Γ : tn_G} {ks : List (Nat × Nat)} {ρ : Nat → Nat → Nat} {σ : Nat → Nat → Int32} {K : Option Value → List (Nat × Nat) → (Nat → Nat → Nat) → (Nat → Nat → Int32) → Prop} (hG : tn_Gd ks ρ) (hΓ : tn_is Γ m_X6_fewest) (hK : tn_rt Γ m_X6_fewest K) (a0 : Int32) (a1 : Int32) (h : tn_CI m_X6_within [.int a0, .int (0 : Int32), .int (60 : Int32)] ks ρ σ (fun r1 σ1 => ((r1 = 0 → K (some (.int (-2 : Int32))) ks ρ σ1) ∧ (¬ r1 = 0 → tn_CI m_X6_within [.int a1, .int (0 : Int32), .int (1 : Int32)] ks ρ σ1 (fun r2 σ2 => ((¬ r2 = 0 → ((¬ (σ2 39 5) = 0 → tn_CI m_X6_whoRankle [.ref 39] ks ρ σ2 (fun r3 σ3 => tn_CV m_X6_keep [.ref 39, .int (0 : Int32)] ks ρ σ3 (fun σ4 => tn_A Γ 49 [.ref 39, .int a0, .int a1, .int r3, .int (-9 : Int32), .int (0 : Int32), .null, .null] [] 0 0 ks ρ σ4))) ∧ ((σ2 39 5) = 0 → K (some (.int (-3 : Int32))) ks ρ σ2))) ∧ (r2 = 0 → K (some (.int (-2 : Int32))) ks ρ σ2))))))) : tn_A Γ 0 [.ref 39, .int a0, .int a1, .null, .null, .null, .null, .null] [] 0 0 ks ρ σ := by
  refine tn_iload_n (pc := 0) hΓ d_X6_fewest_0 rfl ?_
  refine tn_iconst (pc := 1) hΓ d_X6_fewest_1 ic_0 ?_
  refine tn_bipush (pc := 2) hΓ d_X6_fewest_2 bp_60 ?_
  refine tn_csI (As := [.int a0, .int (0 : Int32), .int (60 : Int32)]) (st := []) (pc := 4) hΓ d_X6_fewest_4 mv_X6_within st_X6_within ml_6_58 ⟨⟨by decide, by decide⟩, by decide, by decide⟩ rfl rfl rfl (Nat.le_of_ble_eq_true rfl) rfl h (fun r1 σ1 h => ?_)
  refine tn_if_eq (tgt := 19) (pc := 7) hΓ d_X6_fewest_7 (by decide) (fun hq => ?_) (fun hq => ?_)
  · have h := h.1 hq
    refine tn_bipush (pc := 19) hΓ d_X6_fewest_19 bp_m2 ?_
    exact tn_ret_i (pc := 21) hΓ hK d_X6_fewest_21 rfl (by decide) (by decide) h
  · have h := h.2 hq
    refine tn_iload_n (pc := 10) hΓ d_X6_fewest_10 rfl ?_
    refine tn_iconst (pc := 11) hΓ d_X6_fewest_11 ic_0 ?_
    refine tn_iconst (pc := 12) hΓ d_X6_fewest_12 ic_1 ?_
    refine tn_csI (As := [.int a1, .int (0 : Int32), .int (1 : Int32)]) (st := []) (pc := 13) hΓ d_X6_fewest_13 mv_X6_within st_X6_within ml_6_58 ⟨⟨by decide, by decide⟩, by decide, by decide⟩ rfl rfl rfl (Nat.le_of_ble_eq_true rfl) rfl h (fun r2 σ2 h => ?_)
    refine tn_if_ne (tgt := 22) (pc := 16) hΓ d_X6_fewest_16 (by decide) (fun hq => ?_) (fun hq => ?_)
    · have h := h.1 hq
      refine tn_aload_n (pc := 22) hΓ d_X6_fewest_22 rfl ?_
      refine tn_getI (pc := 23) hΓ d_X6_fewest_23 fl_6_62 rfl (gd_k hG (c := 39) rfl) ?_
      refine tn_if_ne (tgt := 32) (pc := 26) hΓ d_X6_fewest_26 (by decide) (fun hq => ?_) (fun hq => ?_)
      · have h := h.1 hq
        refine tn_aload_n (pc := 32) hΓ d_X6_fewest_32 rfl ?_
        refine tn_cvI (As := []) (st := []) (pc := 33) hΓ d_X6_fewest_33 mv_X6_whoRankle im_X6_whoRankle se_X6_whoRankle ml_6_158 ⟨⟨by decide, by decide⟩, by decide, by decide⟩ rfl rfl rfl (by decide) ⟨_, rfl⟩ (gd_k hG (c := 39) rfl) (Nat.le_of_ble_eq_true rfl) rfl h (fun r3 σ3 h => ?_)
        refine tn_istore_n (loc' := [.ref 39, .int a0, .int a1, .int r3, .null, .null, .null, .null]) (pc := 36) hΓ d_X6_fewest_36 (by decide) rfl rfl ?_
        refine tn_bipush (pc := 37) hΓ d_X6_fewest_37 bp_m9 ?_
        refine tn_istore (loc' := [.ref 39, .int a0, .int a1, .int r3, .int (-9 : Int32), .null, .null, .null]) (pc := 39) hΓ d_X6_fewest_39 (by decide) rfl rfl ?_
        refine tn_aload_n (pc := 41) hΓ d_X6_fewest_41 rfl ?_
        refine tn_iconst (pc := 42) hΓ d_X6_fewest_42 ic_0 ?_
        refine tn_cvV (As := [.int (0 : Int32)]) (st := []) (pc := 43) hΓ d_X6_fewest_43 mv_X6_keep im_X6_keep se_X6_keep ml_6_170 ⟨⟨by decide, by decide⟩, by decide, by decide⟩ rfl rfl rfl (by decide) ⟨_, rfl⟩ (gd_k hG (c := 39) rfl) (Nat.le_of_ble_eq_true rfl) rfl h (fun σ4 h => ?_)
        refine tn_iconst (pc := 46) hΓ d_X6_fewest_46 ic_0 ?_
        refine tn_istore (loc' := [.ref 39, .int a0, .int a1, .int r3, .int (-9 : Int32), .int (0 : Int32), .null, .null]) (pc := 47) hΓ d_X6_fewest_47 (by decide) rfl rfl ?_
        exact h
      · have h := h.2 hq
        refine tn_bipush (pc := 29) hΓ d_X6_fewest_29 bp_m3 ?_
        exact tn_ret_i (pc := 31) hΓ hK d_X6_fewest_31 rfl (by decide) (by decide) h
    · have h := h.2 hq
      refine tn_bipush (pc := 19) hΓ d_X6_fewest_19 bp_m2 ?_
      exact tn_ret_i (pc := 21) hΓ hK d_X6_fewest_21 rfl (by decide) (by decide) h
theorem k_X6_fewest_49 {Γ : tn_G} {ks : List (Nat × Nat)} {ρ : Nat → Nat → Nat} {σ : Nat → Nat → Int32} {K : Option Value → List (Nat × Nat) → (Nat → Nat → Nat) → (Nat → Nat → Int32) → Prop} (hG : tn_Gd ks ρ) (hΓ : tn_is Γ m_X6_fewest) (hK : tn_rt Γ m_X6_fewest K) (y1 : Int32) (y2 : Int32) (y3 : Int32) (y4 : Int32) (y5 : Int32) (h : ((((1 : Int32) <<< ((σ 39 5) &&& 31)) ≤ y5 → ((¬ y4 = (-9 : Int32) → ((¬ y2 = 0 → K (some (.int y4)) ks ρ σ) ∧ (y2 = 0 → tn_CI m_X6_size [.int y4] ks ρ σ (fun r1 σ1 => K (some (.int r1)) ks ρ σ1)))) ∧ (y4 = (-9 : Int32) → K (some (.int (-9 : Int32))) ks ρ σ))) ∧ (¬ ((1 : Int32) <<< ((σ 39 5) &&& 31)) ≤ y5 → ((y4 = (-9 : Int32) → tn_A Γ 85 [.ref 39, .int y1, .int y2, .int y3, .int y4, .int y5, .null, .null] [.int (1 : Int32)] 0 0 ks ρ σ) ∧ (¬ y4 = (-9 : Int32) → tn_CI m_X6_size [.int y5] ks ρ σ (fun r2 σ2 => tn_CI m_X6_size [.int y4] ks ρ σ2 (fun r3 σ3 => ((r3 ≤ r2 → tn_A Γ 85 [.ref 39, .int y1, .int y2, .int y3, .int y4, .int y5, .null, .null] [.int (0 : Int32)] 0 0 ks ρ σ3) ∧ (¬ r3 ≤ r2 → tn_A Γ 85 [.ref 39, .int y1, .int y2, .int y3, .int y4, .int y5, .null, .null] [.int (1 : Int32)] 0 0 ks ρ σ3))))))))) : tn_A Γ 49 [.ref 39, .int y1, .int y2, .int y3, .int y4, .int y5, .null, .null] [] 0 0 ks ρ σ := by
  refine tn_iload (pc := 49) hΓ d_X6_fewest_49 rfl ?_
  refine tn_iconst (pc := 51) hΓ d_X6_fewest_51 ic_1 ?_
  refine tn_aload_n (pc := 52) hΓ d_X6_fewest_52 rfl ?_
  refine tn_getI (pc := 53) hΓ d_X6_fewest_53 fl_6_62 rfl (gd_k hG (c := 39) rfl) ?_
  refine tn_ishl (pc := 56) hΓ d_X6_fewest_56 ?_
  refine tn_icmp_ge (tgt := 146) (pc := 57) hΓ d_X6_fewest_57 (by decide) (fun hq => ?_) (fun hq => ?_)
  · have h := h.1 hq
    refine tn_iload (pc := 146) hΓ d_X6_fewest_146 rfl ?_
    refine tn_bipush (pc := 148) hΓ d_X6_fewest_148 bp_m9 ?_
    refine tn_icmp_ne (tgt := 158) (pc := 150) hΓ d_X6_fewest_150 (by decide) (fun hq => ?_) (fun hq => ?_)
    · have h := h.1 hq
      refine tn_iload_n (pc := 158) hΓ d_X6_fewest_158 rfl ?_
      refine tn_if_ne (tgt := 170) (pc := 159) hΓ d_X6_fewest_159 (by decide) (fun hq => ?_) (fun hq => ?_)
      · have h := h.1 hq
        refine tn_iload (pc := 170) hΓ d_X6_fewest_170 rfl ?_
        exact tn_ret_i (pc := 172) hΓ hK d_X6_fewest_172 rfl (by decide) (by decide) h
      · have h := h.2 hq
        refine tn_iload (pc := 162) hΓ d_X6_fewest_162 rfl ?_
        refine tn_csI (As := [.int y4]) (st := []) (pc := 164) hΓ d_X6_fewest_164 mv_X6_size st_X6_size ml_6_187 ⟨⟨by decide, by decide⟩, by decide, by decide⟩ rfl rfl rfl (Nat.le_of_ble_eq_true rfl) rfl h (fun r1 σ1 h => ?_)
        refine tn_goto (tgt := 172) (pc := 167) hΓ d_X6_fewest_167 (by decide) ?_
        exact tn_ret_i (pc := 172) hΓ hK d_X6_fewest_172 rfl (by decide) (by decide) h
    · have h := h.2 hq
      refine tn_bipush (pc := 153) hΓ d_X6_fewest_153 bp_m9 ?_
      refine tn_goto (tgt := 172) (pc := 155) hΓ d_X6_fewest_155 (by decide) ?_
      exact tn_ret_i (pc := 172) hΓ hK d_X6_fewest_172 rfl (by decide) (by decide) h
  · have h := h.2 hq
    refine tn_iload (pc := 60) hΓ d_X6_fewest_60 rfl ?_
    refine tn_bipush (pc := 62) hΓ d_X6_fewest_62 bp_m9 ?_
    refine tn_icmp_eq (tgt := 80) (pc := 64) hΓ d_X6_fewest_64 (by decide) (fun hq => ?_) (fun hq => ?_)
    · have h := h.1 hq
      refine tn_iconst (pc := 80) hΓ d_X6_fewest_80 ic_1 ?_
      refine tn_goto (tgt := 85) (pc := 81) hΓ d_X6_fewest_81 (by decide) ?_
      exact h
    · have h := h.2 hq
      refine tn_iload (pc := 67) hΓ d_X6_fewest_67 rfl ?_
      refine tn_csI (As := [.int y5]) (st := []) (pc := 69) hΓ d_X6_fewest_69 mv_X6_size st_X6_size ml_6_187 ⟨⟨by decide, by decide⟩, by decide, by decide⟩ rfl rfl rfl (Nat.le_of_ble_eq_true rfl) rfl h (fun r2 σ2 h => ?_)
      refine tn_iload (pc := 72) hΓ d_X6_fewest_72 rfl ?_
      refine tn_csI (As := [.int y4]) (st := [.int r2]) (pc := 74) hΓ d_X6_fewest_74 mv_X6_size st_X6_size ml_6_187 ⟨⟨by decide, by decide⟩, by decide, by decide⟩ rfl rfl rfl (Nat.le_of_ble_eq_true rfl) rfl h (fun r3 σ3 h => ?_)
      refine tn_icmp_ge (tgt := 84) (pc := 77) hΓ d_X6_fewest_77 (by decide) (fun hq => ?_) (fun hq => ?_)
      · have h := h.1 hq
        refine tn_iconst (pc := 84) hΓ d_X6_fewest_84 ic_0 ?_
        exact h
      · have h := h.2 hq
        refine tn_iconst (pc := 80) hΓ d_X6_fewest_80 ic_1 ?_
        refine tn_goto (tgt := 85) (pc := 81) hΓ d_X6_fewest_81 (by decide) ?_
        exact h
theorem k_X6_fewest_85 {Γ : tn_G} {ks : List (Nat × Nat)} {ρ : Nat → Nat → Nat} {σ : Nat → Nat → Int32} {K : Option Value → List (Nat × Nat) → (Nat → Nat → Nat) → (Nat → Nat → Int32) → Prop} (hG : tn_Gd ks ρ) (hΓ : tn_is Γ m_X6_fewest) (hK : tn_rt Γ m_X6_fewest K) (y1 : Int32) (y2 : Int32) (y3 : Int32) (y4 : Int32) (y5 : Int32) (w0 : Int32) (h : ((¬ (y5 &&& (y3 ^^^ (-1 : Int32))) = 0 → (∀ x1 : Int32, x1 = y5 + (1 : Int32) → tn_A Γ 49 [.ref 39, .int y1, .int y2, .int y3, .int y4, .int x1, .null, .null] [] 0 0 ks ρ σ)) ∧ ((y5 &&& (y3 ^^^ (-1 : Int32))) = 0 → ((w0 = 0 → (∀ x2 : Int32, x2 = y5 + (1 : Int32) → tn_A Γ 49 [.ref 39, .int y1, .int y2, .int y3, .int y4, .int x2, .null, .null] [] 0 0 ks ρ σ)) ∧ (¬ w0 = 0 → (∀ σ1, σ1 = tn_u σ 39 11 ((σ 39 11) ||| y5) → tn_CI m_X6_quietIn [.ref 39, .int y1] ks ρ σ1 (fun r1 σ2 => ((¬ r1 = (-9 : Int32) → tn_A Γ 133 [.ref 39, .int y1, .int y2, .int y3, .null, .int y5, .null, .null] [.int y5] 0 0 ks ρ σ2) ∧ (r1 = (-9 : Int32) → tn_A Γ 133 [.ref 39, .int y1, .int y2, .int y3, .null, .int y5, .null, .null] [.int y4] 0 0 ks ρ σ2))))))))) : tn_A Γ 85 [.ref 39, .int y1, .int y2, .int y3, .int y4, .int y5, .null, .null] [.int w0] 0 0 ks ρ σ := by
  refine tn_istore (loc' := [.ref 39, .int y1, .int y2, .int y3, .int y4, .int y5, .int w0, .null]) (pc := 85) hΓ d_X6_fewest_85 (by decide) rfl rfl ?_
  refine tn_iload (pc := 87) hΓ d_X6_fewest_87 rfl ?_
  refine tn_iload_n (pc := 89) hΓ d_X6_fewest_89 rfl ?_
  refine tn_iconst (pc := 90) hΓ d_X6_fewest_90 ic_m1 ?_
  refine tn_ixor (pc := 91) hΓ d_X6_fewest_91 ?_
  refine tn_iand (pc := 92) hΓ d_X6_fewest_92 ?_
  refine tn_if_ne (tgt := 140) (pc := 93) hΓ d_X6_fewest_93 (by decide) (fun hq => ?_) (fun hq => ?_)
  · have h := h.1 hq
    refine tn_iincw (loc' := fun v_ => [.ref 39, .int y1, .int y2, .int y3, .int y4, .int v_, .int w0, .null]) (pc := 140) hΓ d_X6_fewest_140 rfl ic_1 (by decide) rfl (fun _ => rfl) (fun x1 ex1 => ?_)
    have h := h x1 ex1
    refine tn_goto (tgt := 49) (pc := 143) hΓ d_X6_fewest_143 (by decide) ?_
    refine tn_drop [true, true, true, true, true, true, false, false] (loc' := [.ref 39, .int y1, .int y2, .int y3, .int y4, .int x1, .null, .null]) rfl ?_
    exact h
  · have h := h.2 hq
    refine tn_iload (pc := 96) hΓ d_X6_fewest_96 rfl ?_
    refine tn_if_eq (tgt := 140) (pc := 98) hΓ d_X6_fewest_98 (by decide) (fun hq => ?_) (fun hq => ?_)
    · have h := h.1 hq
      refine tn_iincw (loc' := fun v_ => [.ref 39, .int y1, .int y2, .int y3, .int y4, .int v_, .int w0, .null]) (pc := 140) hΓ d_X6_fewest_140 rfl ic_1 (by decide) rfl (fun _ => rfl) (fun x2 ex2 => ?_)
      have h := h x2 ex2
      refine tn_goto (tgt := 49) (pc := 143) hΓ d_X6_fewest_143 (by decide) ?_
      refine tn_drop [true, true, true, true, true, true, false, false] (loc' := [.ref 39, .int y1, .int y2, .int y3, .int y4, .int x2, .null, .null]) rfl ?_
      exact h
    · have h := h.2 hq
      refine tn_aload_n (pc := 101) hΓ d_X6_fewest_101 rfl ?_
      refine tn_dupr (pc := 102) hΓ d_X6_fewest_102 ?_
      refine tn_getI (pc := 103) hΓ d_X6_fewest_103 fl_6_104 rfl (gd_k hG (c := 39) rfl) ?_
      refine tn_iload (pc := 106) hΓ d_X6_fewest_106 rfl ?_
      refine tn_ior (pc := 108) hΓ d_X6_fewest_108 ?_
      refine tn_putI (pc := 109) hΓ d_X6_fewest_109 fl_6_104 fk_6_6_11 rfl (gd_k hG (c := 39) rfl)  ?_
      refine tn_tops (fun σ1 eσ1 => ?_)
      have h := h σ1 eσ1
      refine tn_aload_n (pc := 112) hΓ d_X6_fewest_112 rfl ?_
      refine tn_iload_n (pc := 113) hΓ d_X6_fewest_113 rfl ?_
      refine tn_cvI (As := [.int y1]) (st := []) (pc := 114) hΓ d_X6_fewest_114 mv_X6_quietIn im_X6_quietIn se_X6_quietIn ml_6_184 ⟨⟨by decide, by decide⟩, by decide, by decide⟩ rfl rfl rfl (by decide) ⟨_, rfl⟩ (gd_k hG (c := 39) rfl) (Nat.le_of_ble_eq_true rfl) rfl h (fun r1 σ2 h => ?_)
      refine tn_istore (loc' := [.ref 39, .int y1, .int y2, .int y3, .int y4, .int y5, .int w0, .int r1]) (pc := 117) hΓ d_X6_fewest_117 (by decide) rfl rfl ?_
      refine tn_iload (pc := 119) hΓ d_X6_fewest_119 rfl ?_
      refine tn_bipush (pc := 121) hΓ d_X6_fewest_121 bp_m9 ?_
      refine tn_icmp_ne (tgt := 131) (pc := 123) hΓ d_X6_fewest_123 (by decide) (fun hq => ?_) (fun hq => ?_)
      · have h := h.1 hq
        refine tn_iload (pc := 131) hΓ d_X6_fewest_131 rfl ?_
        refine tn_drop [true, true, true, true, false, true, false, false] (loc' := [.ref 39, .int y1, .int y2, .int y3, .null, .int y5, .null, .null]) rfl ?_
        exact h
      · have h := h.2 hq
        refine tn_iload (pc := 126) hΓ d_X6_fewest_126 rfl ?_
        refine tn_goto (tgt := 133) (pc := 128) hΓ d_X6_fewest_128 (by decide) ?_
        refine tn_drop [true, true, true, true, false, true, false, false] (loc' := [.ref 39, .int y1, .int y2, .int y3, .null, .int y5, .null, .null]) rfl ?_
        exact h
theorem k_X6_fewest_133 {Γ : tn_G} {ks : List (Nat × Nat)} {ρ : Nat → Nat → Nat} {σ : Nat → Nat → Int32} {K : Option Value → List (Nat × Nat) → (Nat → Nat → Nat) → (Nat → Nat → Int32) → Prop} (hG : tn_Gd ks ρ) (hΓ : tn_is Γ m_X6_fewest) (hK : tn_rt Γ m_X6_fewest K) (y1 : Int32) (y2 : Int32) (y3 : Int32) (y5 : Int32) (w0 : Int32) (h : tn_CV m_X6_putBack [.ref 39, .int (0 : Int32)] ks ρ σ (fun σ1 => (∀ x1 : Int32, x1 = y5 + (1 : Int32) → tn_A Γ 49 [.ref 39, .int y1, .int y2, .int y3, .int w0, .int x1, .null, .null] [] 0 0 ks ρ σ1))) : tn_A Γ 133 [.ref 39, .int y1, .int y2, .int y3, .null, .int y5, .null, .null] [.int w0] 0 0 ks ρ σ := by
  refine tn_istore (loc' := [.ref 39, .int y1, .int y2, .int y3, .int w0, .int y5, .null, .null]) (pc := 133) hΓ d_X6_fewest_133 (by decide) rfl rfl ?_
  refine tn_aload_n (pc := 135) hΓ d_X6_fewest_135 rfl ?_
  refine tn_iconst (pc := 136) hΓ d_X6_fewest_136 ic_0 ?_
  refine tn_cvV (As := [.int (0 : Int32)]) (st := []) (pc := 137) hΓ d_X6_fewest_137 mv_X6_putBack im_X6_putBack se_X6_putBack ml_6_181 ⟨⟨by decide, by decide⟩, by decide, by decide⟩ rfl rfl rfl (by decide) ⟨_, rfl⟩ (gd_k hG (c := 39) rfl) (Nat.le_of_ble_eq_true rfl) rfl h (fun σ1 h => ?_)
  refine tn_iincw (loc' := fun v_ => [.ref 39, .int y1, .int y2, .int y3, .int w0, .int v_, .null, .null]) (pc := 140) hΓ d_X6_fewest_140 rfl ic_1 (by decide) rfl (fun _ => rfl) (fun x1 ex1 => ?_)
  have h := h x1 ex1
  refine tn_goto (tgt := 49) (pc := 143) hΓ d_X6_fewest_143 (by decide) ?_
  exact h
theorem k_X6_weightOfSet_0 {Γ : tn_G} {ks : List (Nat × Nat)} {ρ : Nat → Nat → Nat} {σ : Nat → Nat → Int32} {K : Option Value → List (Nat × Nat) → (Nat → Nat → Nat) → (Nat → Nat → Int32) → Prop} (hG : tn_Gd ks ρ) (hΓ : tn_is Γ m_X6_weightOfSet) (hK : tn_rt Γ m_X6_weightOfSet K) (a0 : Int32) (h : tn_A Γ 4 [.ref 39, .int a0, .int (0 : Int32), .int (0 : Int32)] [] 0 0 ks ρ σ) : tn_A Γ 0 [.ref 39, .int a0, .null, .null] [] 0 0 ks ρ σ := by
  refine tn_iconst (pc := 0) hΓ d_X6_weightOfSet_0 ic_0 ?_
  refine tn_istore_n (loc' := [.ref 39, .int a0, .int (0 : Int32), .null]) (pc := 1) hΓ d_X6_weightOfSet_1 (by decide) rfl rfl ?_
  refine tn_iconst (pc := 2) hΓ d_X6_weightOfSet_2 ic_0 ?_
  refine tn_istore_n (loc' := [.ref 39, .int a0, .int (0 : Int32), .int (0 : Int32)]) (pc := 3) hΓ d_X6_weightOfSet_3 (by decide) rfl rfl ?_
  exact h
theorem k_X6_weightOfSet_4 {Γ : tn_G} {ks : List (Nat × Nat)} {ρ : Nat → Nat → Nat} {σ : Nat → Nat → Int32} {K : Option Value → List (Nat × Nat) → (Nat → Nat → Nat) → (Nat → Nat → Int32) → Prop} (hG : tn_Gd ks ρ) (hΓ : tn_is Γ m_X6_weightOfSet) (hK : tn_rt Γ m_X6_weightOfSet K) (y1 : Int32) (y2 : Int32) (y3 : Int32) (h : (((σ 39 5) ≤ y3 → K (some (.int y2)) ks ρ σ) ∧ (¬ (σ 39 5) ≤ y3 → tn_CI m_X6_isOf [.int y1, .int y3] ks ρ σ (fun r1 σ1 => ((r1 = 0 → (∀ x1 : Int32, x1 = (y2 + (0 : Int32)) → (∀ x2 : Int32, x2 = y3 + (1 : Int32) → tn_A Γ 4 [.ref 39, .int y1, .int x1, .int x2] [] 0 0 ks ρ σ1))) ∧ (¬ r1 = 0 → tn_CI m_X6_weightOf [.ref 39, .int y3] ks ρ σ1 (fun r2 σ2 => (∀ x3 : Int32, x3 = (y2 + r2) → (∀ x4 : Int32, x4 = y3 + (1 : Int32) → tn_A Γ 4 [.ref 39, .int y1, .int x3, .int x4] [] 0 0 ks ρ σ2))))))))) : tn_A Γ 4 [.ref 39, .int y1, .int y2, .int y3] [] 0 0 ks ρ σ := by
  refine tn_iload_n (pc := 4) hΓ d_X6_weightOfSet_4 rfl ?_
  refine tn_aload_n (pc := 5) hΓ d_X6_weightOfSet_5 rfl ?_
  refine tn_getI (pc := 6) hΓ d_X6_weightOfSet_6 fl_6_62 rfl (gd_k hG (c := 39) rfl) ?_
  refine tn_icmp_ge (tgt := 38) (pc := 9) hΓ d_X6_weightOfSet_9 (by decide) (fun hq => ?_) (fun hq => ?_)
  · have h := h.1 hq
    refine tn_iload_n (pc := 38) hΓ d_X6_weightOfSet_38 rfl ?_
    exact tn_ret_i (pc := 39) hΓ hK d_X6_weightOfSet_39 rfl (by decide) (by decide) h
  · have h := h.2 hq
    refine tn_iload_n (pc := 12) hΓ d_X6_weightOfSet_12 rfl ?_
    refine tn_iload_n (pc := 13) hΓ d_X6_weightOfSet_13 rfl ?_
    refine tn_iload_n (pc := 14) hΓ d_X6_weightOfSet_14 rfl ?_
    refine tn_csI (As := [.int y1, .int y3]) (st := [.int y2]) (pc := 15) hΓ d_X6_weightOfSet_15 mv_X6_isOf st_X6_isOf ml_6_136 ⟨⟨by decide, by decide⟩, by decide, by decide⟩ rfl rfl rfl (Nat.le_of_ble_eq_true rfl) rfl h (fun r1 σ1 h => ?_)
    refine tn_if_eq (tgt := 29) (pc := 18) hΓ d_X6_weightOfSet_18 (by decide) (fun hq => ?_) (fun hq => ?_)
    · have h := h.1 hq
      refine tn_iconst (pc := 29) hΓ d_X6_weightOfSet_29 ic_0 ?_
      refine tn_iadd (pc := 30) hΓ d_X6_weightOfSet_30 ?_
      refine tn_topi (fun x1 ex1 => ?_)
      have h := h x1 ex1
      refine tn_istore_n (loc' := [.ref 39, .int y1, .int x1, .int y3]) (pc := 31) hΓ d_X6_weightOfSet_31 (by decide) rfl rfl ?_
      refine tn_iincw (loc' := fun v_ => [.ref 39, .int y1, .int x1, .int v_]) (pc := 32) hΓ d_X6_weightOfSet_32 rfl ic_1 (by decide) rfl (fun _ => rfl) (fun x2 ex2 => ?_)
      have h := h x2 ex2
      refine tn_goto (tgt := 4) (pc := 35) hΓ d_X6_weightOfSet_35 (by decide) ?_
      exact h
    · have h := h.2 hq
      refine tn_aload_n (pc := 21) hΓ d_X6_weightOfSet_21 rfl ?_
      refine tn_iload_n (pc := 22) hΓ d_X6_weightOfSet_22 rfl ?_
      refine tn_cvI (As := [.int y3]) (st := [.int y2]) (pc := 23) hΓ d_X6_weightOfSet_23 mv_X6_weightOf im_X6_weightOf se_X6_weightOf ml_6_139 ⟨⟨by decide, by decide⟩, by decide, by decide⟩ rfl rfl rfl (by decide) ⟨_, rfl⟩ (gd_k hG (c := 39) rfl) (Nat.le_of_ble_eq_true rfl) rfl h (fun r2 σ2 h => ?_)
      refine tn_goto (tgt := 30) (pc := 26) hΓ d_X6_weightOfSet_26 (by decide) ?_
      refine tn_iadd (pc := 30) hΓ d_X6_weightOfSet_30 ?_
      refine tn_topi (fun x3 ex3 => ?_)
      have h := h x3 ex3
      refine tn_istore_n (loc' := [.ref 39, .int y1, .int x3, .int y3]) (pc := 31) hΓ d_X6_weightOfSet_31 (by decide) rfl rfl ?_
      refine tn_iincw (loc' := fun v_ => [.ref 39, .int y1, .int x3, .int v_]) (pc := 32) hΓ d_X6_weightOfSet_32 rfl ic_1 (by decide) rfl (fun _ => rfl) (fun x4 ex4 => ?_)
      have h := h x4 ex4
      refine tn_goto (tgt := 4) (pc := 35) hΓ d_X6_weightOfSet_35 (by decide) ?_
      exact h
theorem k_X6_claps_0 {Γ : tn_G} {ks : List (Nat × Nat)} {ρ : Nat → Nat → Nat} {σ : Nat → Nat → Int32} {K : Option Value → List (Nat × Nat) → (Nat → Nat → Nat) → (Nat → Nat → Int32) → Prop} (hG : tn_Gd ks ρ) (hΓ : tn_is Γ m_X6_claps) (hK : tn_rt Γ m_X6_claps K) (a0 : Int32) (a1 : Int32) (h : tn_CI m_X6_within [.int a0, .int (0 : Int32), .int (90 : Int32)] ks ρ σ (fun r1 σ1 => ((r1 = 0 → K (some (.int (-2 : Int32))) ks ρ σ1) ∧ (¬ r1 = 0 → tn_CI m_X6_within [.int a1, .int (0 : Int32), .int (1 : Int32)] ks ρ σ1 (fun r2 σ2 => ((¬ r2 = 0 → ((¬ (σ2 39 5) = 0 → tn_CI m_X6_whoRankle [.ref 39] ks ρ σ2 (fun r3 σ3 => tn_A Γ 47 [.ref 39, .int a0, .int a1, .int r3, .int (0 : Int32), .int (-9 : Int32), .int (0 : Int32)] [] 0 0 ks ρ σ3)) ∧ ((σ2 39 5) = 0 → K (some (.int (-3 : Int32))) ks ρ σ2))) ∧ (r2 = 0 → K (some (.int (-2 : Int32))) ks ρ σ2))))))) : tn_A Γ 0 [.ref 39, .int a0, .int a1, .null, .null, .null, .null] [] 0 0 ks ρ σ := by
  refine tn_iload_n (pc := 0) hΓ d_X6_claps_0 rfl ?_
  refine tn_iconst (pc := 1) hΓ d_X6_claps_1 ic_0 ?_
  refine tn_bipush (pc := 2) hΓ d_X6_claps_2 bp_90 ?_
  refine tn_csI (As := [.int a0, .int (0 : Int32), .int (90 : Int32)]) (st := []) (pc := 4) hΓ d_X6_claps_4 mv_X6_within st_X6_within ml_6_58 ⟨⟨by decide, by decide⟩, by decide, by decide⟩ rfl rfl rfl (Nat.le_of_ble_eq_true rfl) rfl h (fun r1 σ1 h => ?_)
  refine tn_if_eq (tgt := 19) (pc := 7) hΓ d_X6_claps_7 (by decide) (fun hq => ?_) (fun hq => ?_)
  · have h := h.1 hq
    refine tn_bipush (pc := 19) hΓ d_X6_claps_19 bp_m2 ?_
    exact tn_ret_i (pc := 21) hΓ hK d_X6_claps_21 rfl (by decide) (by decide) h
  · have h := h.2 hq
    refine tn_iload_n (pc := 10) hΓ d_X6_claps_10 rfl ?_
    refine tn_iconst (pc := 11) hΓ d_X6_claps_11 ic_0 ?_
    refine tn_iconst (pc := 12) hΓ d_X6_claps_12 ic_1 ?_
    refine tn_csI (As := [.int a1, .int (0 : Int32), .int (1 : Int32)]) (st := []) (pc := 13) hΓ d_X6_claps_13 mv_X6_within st_X6_within ml_6_58 ⟨⟨by decide, by decide⟩, by decide, by decide⟩ rfl rfl rfl (Nat.le_of_ble_eq_true rfl) rfl h (fun r2 σ2 h => ?_)
    refine tn_if_ne (tgt := 22) (pc := 16) hΓ d_X6_claps_16 (by decide) (fun hq => ?_) (fun hq => ?_)
    · have h := h.1 hq
      refine tn_aload_n (pc := 22) hΓ d_X6_claps_22 rfl ?_
      refine tn_getI (pc := 23) hΓ d_X6_claps_23 fl_6_62 rfl (gd_k hG (c := 39) rfl) ?_
      refine tn_if_ne (tgt := 32) (pc := 26) hΓ d_X6_claps_26 (by decide) (fun hq => ?_) (fun hq => ?_)
      · have h := h.1 hq
        refine tn_aload_n (pc := 32) hΓ d_X6_claps_32 rfl ?_
        refine tn_cvI (As := []) (st := []) (pc := 33) hΓ d_X6_claps_33 mv_X6_whoRankle im_X6_whoRankle se_X6_whoRankle ml_6_158 ⟨⟨by decide, by decide⟩, by decide, by decide⟩ rfl rfl rfl (by decide) ⟨_, rfl⟩ (gd_k hG (c := 39) rfl) (Nat.le_of_ble_eq_true rfl) rfl h (fun r3 σ3 h => ?_)
        refine tn_istore_n (loc' := [.ref 39, .int a0, .int a1, .int r3, .null, .null, .null]) (pc := 36) hΓ d_X6_claps_36 (by decide) rfl rfl ?_
        refine tn_iconst (pc := 37) hΓ d_X6_claps_37 ic_0 ?_
        refine tn_istore (loc' := [.ref 39, .int a0, .int a1, .int r3, .int (0 : Int32), .null, .null]) (pc := 38) hΓ d_X6_claps_38 (by decide) rfl rfl ?_
        refine tn_bipush (pc := 40) hΓ d_X6_claps_40 bp_m9 ?_
        refine tn_istore (loc' := [.ref 39, .int a0, .int a1, .int r3, .int (0 : Int32), .int (-9 : Int32), .null]) (pc := 42) hΓ d_X6_claps_42 (by decide) rfl rfl ?_
        refine tn_iconst (pc := 44) hΓ d_X6_claps_44 ic_0 ?_
        refine tn_istore (loc' := [.ref 39, .int a0, .int a1, .int r3, .int (0 : Int32), .int (-9 : Int32), .int (0 : Int32)]) (pc := 45) hΓ d_X6_claps_45 (by decide) rfl rfl ?_
        exact h
      · have h := h.2 hq
        refine tn_bipush (pc := 29) hΓ d_X6_claps_29 bp_m3 ?_
        exact tn_ret_i (pc := 31) hΓ hK d_X6_claps_31 rfl (by decide) (by decide) h
    · have h := h.2 hq
      refine tn_bipush (pc := 19) hΓ d_X6_claps_19 bp_m2 ?_
      exact tn_ret_i (pc := 21) hΓ hK d_X6_claps_21 rfl (by decide) (by decide) h
theorem k_X6_claps_47 {Γ : tn_G} {ks : List (Nat × Nat)} {ρ : Nat → Nat → Nat} {σ : Nat → Nat → Int32} {K : Option Value → List (Nat × Nat) → (Nat → Nat → Nat) → (Nat → Nat → Int32) → Prop} (hG : tn_Gd ks ρ) (hΓ : tn_is Γ m_X6_claps) (hK : tn_rt Γ m_X6_claps K) (y1 : Int32) (y2 : Int32) (y3 : Int32) (y4 : Int32) (y5 : Int32) (y6 : Int32) (h : ((((1 : Int32) <<< ((σ 39 5) &&& 31)) ≤ y6 → ((¬ y2 = 0 → K (some (.int y5)) ks ρ σ) ∧ (y2 = 0 → K (some (.int y4)) ks ρ σ))) ∧ (¬ ((1 : Int32) <<< ((σ 39 5) &&& 31)) ≤ y6 → ((¬ (y6 &&& (y3 ^^^ (-1 : Int32))) = 0 → (∀ x1 : Int32, x1 = y6 + (1 : Int32) → tn_A Γ 47 [.ref 39, .int y1, .int y2, .int y3, .int y4, .int y5, .int x1] [] 0 0 ks ρ σ)) ∧ ((y6 &&& (y3 ^^^ (-1 : Int32))) = 0 → tn_CI m_X6_weightOfSet [.ref 39, .int y6] ks ρ σ (fun r1 σ1 => ((¬ r1 = y1 → (∀ x2 : Int32, x2 = y6 + (1 : Int32) → tn_A Γ 47 [.ref 39, .int y1, .int y2, .int y3, .int y4, .int y5, .int x2] [] 0 0 ks ρ σ1)) ∧ (r1 = y1 → (∀ x3 : Int32, x3 = y4 + (1 : Int32) → ((¬ y5 = (-9 : Int32) → (∀ x4 : Int32, x4 = y6 + (1 : Int32) → tn_A Γ 47 [.ref 39, .int y1, .int y2, .int y3, .int x3, .int y5, .int x4] [] 0 0 ks ρ σ1)) ∧ (y5 = (-9 : Int32) → (∀ x5 : Int32, x5 = y6 + (1 : Int32) → tn_A Γ 47 [.ref 39, .int y1, .int y2, .int y3, .int x3, .int y6, .int x5] [] 0 0 ks ρ σ1)))))))))))) : tn_A Γ 47 [.ref 39, .int y1, .int y2, .int y3, .int y4, .int y5, .int y6] [] 0 0 ks ρ σ := by
  refine tn_iload (pc := 47) hΓ d_X6_claps_47 rfl ?_
  refine tn_iconst (pc := 49) hΓ d_X6_claps_49 ic_1 ?_
  refine tn_aload_n (pc := 50) hΓ d_X6_claps_50 rfl ?_
  refine tn_getI (pc := 51) hΓ d_X6_claps_51 fl_6_62 rfl (gd_k hG (c := 39) rfl) ?_
  refine tn_ishl (pc := 54) hΓ d_X6_claps_54 ?_
  refine tn_icmp_ge (tgt := 102) (pc := 55) hΓ d_X6_claps_55 (by decide) (fun hq => ?_) (fun hq => ?_)
  · have h := h.1 hq
    refine tn_iload_n (pc := 102) hΓ d_X6_claps_102 rfl ?_
    refine tn_if_ne (tgt := 111) (pc := 103) hΓ d_X6_claps_103 (by decide) (fun hq => ?_) (fun hq => ?_)
    · have h := h.1 hq
      refine tn_iload (pc := 111) hΓ d_X6_claps_111 rfl ?_
      exact tn_ret_i (pc := 113) hΓ hK d_X6_claps_113 rfl (by decide) (by decide) h
    · have h := h.2 hq
      refine tn_iload (pc := 106) hΓ d_X6_claps_106 rfl ?_
      refine tn_goto (tgt := 113) (pc := 108) hΓ d_X6_claps_108 (by decide) ?_
      exact tn_ret_i (pc := 113) hΓ hK d_X6_claps_113 rfl (by decide) (by decide) h
  · have h := h.2 hq
    refine tn_iload (pc := 58) hΓ d_X6_claps_58 rfl ?_
    refine tn_iload_n (pc := 60) hΓ d_X6_claps_60 rfl ?_
    refine tn_iconst (pc := 61) hΓ d_X6_claps_61 ic_m1 ?_
    refine tn_ixor (pc := 62) hΓ d_X6_claps_62 ?_
    refine tn_iand (pc := 63) hΓ d_X6_claps_63 ?_
    refine tn_if_ne (tgt := 96) (pc := 64) hΓ d_X6_claps_64 (by decide) (fun hq => ?_) (fun hq => ?_)
    · have h := h.1 hq
      refine tn_iincw (loc' := fun v_ => [.ref 39, .int y1, .int y2, .int y3, .int y4, .int y5, .int v_]) (pc := 96) hΓ d_X6_claps_96 rfl ic_1 (by decide) rfl (fun _ => rfl) (fun x1 ex1 => ?_)
      have h := h x1 ex1
      refine tn_goto (tgt := 47) (pc := 99) hΓ d_X6_claps_99 (by decide) ?_
      exact h
    · have h := h.2 hq
      refine tn_aload_n (pc := 67) hΓ d_X6_claps_67 rfl ?_
      refine tn_iload (pc := 68) hΓ d_X6_claps_68 rfl ?_
      refine tn_cvI (As := [.int y6]) (st := []) (pc := 70) hΓ d_X6_claps_70 mv_X6_weightOfSet im_X6_weightOfSet se_X6_weightOfSet ml_6_190 ⟨⟨by decide, by decide⟩, by decide, by decide⟩ rfl rfl rfl (by decide) ⟨_, rfl⟩ (gd_k hG (c := 39) rfl) (Nat.le_of_ble_eq_true rfl) rfl h (fun r1 σ1 h => ?_)
      refine tn_iload_n (pc := 73) hΓ d_X6_claps_73 rfl ?_
      refine tn_icmp_ne (tgt := 96) (pc := 74) hΓ d_X6_claps_74 (by decide) (fun hq => ?_) (fun hq => ?_)
      · have h := h.1 hq
        refine tn_iincw (loc' := fun v_ => [.ref 39, .int y1, .int y2, .int y3, .int y4, .int y5, .int v_]) (pc := 96) hΓ d_X6_claps_96 rfl ic_1 (by decide) rfl (fun _ => rfl) (fun x2 ex2 => ?_)
        have h := h x2 ex2
        refine tn_goto (tgt := 47) (pc := 99) hΓ d_X6_claps_99 (by decide) ?_
        exact h
      · have h := h.2 hq
        refine tn_iincw (loc' := fun v_ => [.ref 39, .int y1, .int y2, .int y3, .int v_, .int y5, .int y6]) (pc := 77) hΓ d_X6_claps_77 rfl ic_1 (by decide) rfl (fun _ => rfl) (fun x3 ex3 => ?_)
        have h := h x3 ex3
        refine tn_iload (pc := 80) hΓ d_X6_claps_80 rfl ?_
        refine tn_bipush (pc := 82) hΓ d_X6_claps_82 bp_m9 ?_
        refine tn_icmp_ne (tgt := 92) (pc := 84) hΓ d_X6_claps_84 (by decide) (fun hq => ?_) (fun hq => ?_)
        · have h := h.1 hq
          refine tn_iload (pc := 92) hΓ d_X6_claps_92 rfl ?_
          refine tn_istore (loc' := [.ref 39, .int y1, .int y2, .int y3, .int x3, .int y5, .int y6]) (pc := 94) hΓ d_X6_claps_94 (by decide) rfl rfl ?_
          refine tn_iincw (loc' := fun v_ => [.ref 39, .int y1, .int y2, .int y3, .int x3, .int y5, .int v_]) (pc := 96) hΓ d_X6_claps_96 rfl ic_1 (by decide) rfl (fun _ => rfl) (fun x4 ex4 => ?_)
          have h := h x4 ex4
          refine tn_goto (tgt := 47) (pc := 99) hΓ d_X6_claps_99 (by decide) ?_
          exact h
        · have h := h.2 hq
          refine tn_iload (pc := 87) hΓ d_X6_claps_87 rfl ?_
          refine tn_goto (tgt := 94) (pc := 89) hΓ d_X6_claps_89 (by decide) ?_
          refine tn_istore (loc' := [.ref 39, .int y1, .int y2, .int y3, .int x3, .int y6, .int y6]) (pc := 94) hΓ d_X6_claps_94 (by decide) rfl rfl ?_
          refine tn_iincw (loc' := fun v_ => [.ref 39, .int y1, .int y2, .int y3, .int x3, .int y6, .int v_]) (pc := 96) hΓ d_X6_claps_96 rfl ic_1 (by decide) rfl (fun _ => rfl) (fun x5 ex5 => ?_)
          have h := h x5 ex5
          refine tn_goto (tgt := 47) (pc := 99) hΓ d_X6_claps_99 (by decide) ?_
          exact h
theorem k_X6_findPains_0 {Γ : tn_G} {ks : List (Nat × Nat)} {ρ : Nat → Nat → Nat} {σ : Nat → Nat → Int32} {K : Option Value → List (Nat × Nat) → (Nat → Nat → Nat) → (Nat → Nat → Int32) → Prop} (hG : tn_Gd ks ρ) (hΓ : tn_is Γ m_X6_findPains) (hK : tn_rt Γ m_X6_findPains K) (a0 : Int32) (a1 : Int32) (h : tn_CV m_X6_keep [.ref 39, .int (0 : Int32)] ks ρ σ (fun σ1 => tn_A Γ 7 [.ref 39, .int a0, .int a1, .int (0 : Int32), .null, .null, .null] [] 0 0 ks ρ σ1)) : tn_A Γ 0 [.ref 39, .int a0, .int a1, .null, .null, .null, .null] [] 0 0 ks ρ σ := by
  refine tn_aload_n (pc := 0) hΓ d_X6_findPains_0 rfl ?_
  refine tn_iconst (pc := 1) hΓ d_X6_findPains_1 ic_0 ?_
  refine tn_cvV (As := [.int (0 : Int32)]) (st := []) (pc := 2) hΓ d_X6_findPains_2 mv_X6_keep im_X6_keep se_X6_keep ml_6_170 ⟨⟨by decide, by decide⟩, by decide, by decide⟩ rfl rfl rfl (by decide) ⟨_, rfl⟩ (gd_k hG (c := 39) rfl) (Nat.le_of_ble_eq_true rfl) rfl h (fun σ1 h => ?_)
  refine tn_iconst (pc := 5) hΓ d_X6_findPains_5 ic_0 ?_
  refine tn_istore_n (loc' := [.ref 39, .int a0, .int a1, .int (0 : Int32), .null, .null, .null]) (pc := 6) hΓ d_X6_findPains_6 (by decide) rfl rfl ?_
  exact h
theorem k_X6_findPains_7 {Γ : tn_G} {ks : List (Nat × Nat)} {ρ : Nat → Nat → Nat} {σ : Nat → Nat → Int32} {K : Option Value → List (Nat × Nat) → (Nat → Nat → Nat) → (Nat → Nat → Int32) → Prop} (hG : tn_Gd ks ρ) (hΓ : tn_is Γ m_X6_findPains) (hK : tn_rt Γ m_X6_findPains K) (y1 : Int32) (y2 : Int32) (y3 : Int32) (h : (((4 : Int32) ≤ y3 → K none ks ρ σ) ∧ (¬ (4 : Int32) ≤ y3 → tn_CI m_X6_isOf [.int y3, .int (0 : Int32)] ks ρ σ (fun r1 σ1 => ((r1 = 0 → tn_A Γ 52 [.ref 39, .int y1, .int y2, .int y3, .int (0 : Int32), .int (0 : Int32), .null] [] 0 0 ks ρ σ1) ∧ (¬ r1 = 0 → tn_CI m_X6_rankles [.ref 39, .int y1] ks ρ σ1 (fun r2 σ2 => ((r2 = 0 → tn_CI m_X6_owns [.ref 39, .int y1] ks ρ σ2 (fun r3 σ3 => tn_A Γ 52 [.ref 39, .int y1, .int y2, .int y3, .int (6 : Int32), .int (0 : Int32), .null] [] 0 0 ks ρ σ3)) ∧ (¬ r2 = 0 → tn_CI m_X6_weightOf [.ref 39, .int y1] ks ρ σ2 (fun r4 σ4 => tn_CI m_X6_owns [.ref 39, .int y1] ks ρ σ4 (fun r5 σ5 => tn_A Γ 52 [.ref 39, .int y1, .int y2, .int y3, .int r4, .int (0 : Int32), .null] [] 0 0 ks ρ σ5))))))))))) : tn_A Γ 7 [.ref 39, .int y1, .int y2, .int y3, .null, .null, .null] [] 0 0 ks ρ σ := by
  refine tn_iload_n (pc := 7) hΓ d_X6_findPains_7 rfl ?_
  refine tn_iconst (pc := 8) hΓ d_X6_findPains_8 ic_4 ?_
  refine tn_icmp_ge (tgt := 149) (pc := 9) hΓ d_X6_findPains_9 (by decide) (fun hq => ?_) (fun hq => ?_)
  · have h := h.1 hq
    exact tn_ret_v (pc := 149) hΓ hK d_X6_findPains_149 rfl (by decide) (by decide) h
  · have h := h.2 hq
    refine tn_iconst (pc := 12) hΓ d_X6_findPains_12 ic_0 ?_
    refine tn_istore (loc' := [.ref 39, .int y1, .int y2, .int y3, .int (0 : Int32), .null, .null]) (pc := 13) hΓ d_X6_findPains_13 (by decide) rfl rfl ?_
    refine tn_iconst (pc := 15) hΓ d_X6_findPains_15 ic_0 ?_
    refine tn_istore (loc' := [.ref 39, .int y1, .int y2, .int y3, .int (0 : Int32), .int (0 : Int32), .null]) (pc := 16) hΓ d_X6_findPains_16 (by decide) rfl rfl ?_
    refine tn_iload_n (pc := 18) hΓ d_X6_findPains_18 rfl ?_
    refine tn_iconst (pc := 19) hΓ d_X6_findPains_19 ic_0 ?_
    refine tn_csI (As := [.int y3, .int (0 : Int32)]) (st := []) (pc := 20) hΓ d_X6_findPains_20 mv_X6_isOf st_X6_isOf ml_6_136 ⟨⟨by decide, by decide⟩, by decide, by decide⟩ rfl rfl rfl (Nat.le_of_ble_eq_true rfl) rfl h (fun r1 σ1 h => ?_)
    refine tn_if_eq (tgt := 52) (pc := 23) hΓ d_X6_findPains_23 (by decide) (fun hq => ?_) (fun hq => ?_)
    · have h := h.1 hq
      exact h
    · have h := h.2 hq
      refine tn_aload_n (pc := 26) hΓ d_X6_findPains_26 rfl ?_
      refine tn_iload_n (pc := 27) hΓ d_X6_findPains_27 rfl ?_
      refine tn_cvI (As := [.int y1]) (st := []) (pc := 28) hΓ d_X6_findPains_28 mv_X6_rankles im_X6_rankles se_X6_rankles ml_6_142 ⟨⟨by decide, by decide⟩, by decide, by decide⟩ rfl rfl rfl (by decide) ⟨_, rfl⟩ (gd_k hG (c := 39) rfl) (Nat.le_of_ble_eq_true rfl) rfl h (fun r2 σ2 h => ?_)
      refine tn_if_eq (tgt := 42) (pc := 31) hΓ d_X6_findPains_31 (by decide) (fun hq => ?_) (fun hq => ?_)
      · have h := h.1 hq
        refine tn_bipush (pc := 42) hΓ d_X6_findPains_42 bp_6 ?_
        refine tn_istore (loc' := [.ref 39, .int y1, .int y2, .int y3, .int (6 : Int32), .int (0 : Int32), .null]) (pc := 44) hΓ d_X6_findPains_44 (by decide) rfl rfl ?_
        refine tn_aload_n (pc := 46) hΓ d_X6_findPains_46 rfl ?_
        refine tn_iload_n (pc := 47) hΓ d_X6_findPains_47 rfl ?_
        refine tn_cvI (As := [.int y1]) (st := []) (pc := 48) hΓ d_X6_findPains_48 mv_X6_owns im_X6_owns se_X6_owns ml_6_155 ⟨⟨by decide, by decide⟩, by decide, by decide⟩ rfl rfl rfl (by decide) ⟨_, rfl⟩ (gd_k hG (c := 39) rfl) (Nat.le_of_ble_eq_true rfl) rfl h (fun r3 σ3 h => ?_)
        refine tn_popi (pc := 51) hΓ d_X6_findPains_51 ?_
        exact h
      · have h := h.2 hq
        refine tn_aload_n (pc := 34) hΓ d_X6_findPains_34 rfl ?_
        refine tn_iload_n (pc := 35) hΓ d_X6_findPains_35 rfl ?_
        refine tn_cvI (As := [.int y1]) (st := []) (pc := 36) hΓ d_X6_findPains_36 mv_X6_weightOf im_X6_weightOf se_X6_weightOf ml_6_139 ⟨⟨by decide, by decide⟩, by decide, by decide⟩ rfl rfl rfl (by decide) ⟨_, rfl⟩ (gd_k hG (c := 39) rfl) (Nat.le_of_ble_eq_true rfl) rfl h (fun r4 σ4 h => ?_)
        refine tn_goto (tgt := 44) (pc := 39) hΓ d_X6_findPains_39 (by decide) ?_
        refine tn_istore (loc' := [.ref 39, .int y1, .int y2, .int y3, .int r4, .int (0 : Int32), .null]) (pc := 44) hΓ d_X6_findPains_44 (by decide) rfl rfl ?_
        refine tn_aload_n (pc := 46) hΓ d_X6_findPains_46 rfl ?_
        refine tn_iload_n (pc := 47) hΓ d_X6_findPains_47 rfl ?_
        refine tn_cvI (As := [.int y1]) (st := []) (pc := 48) hΓ d_X6_findPains_48 mv_X6_owns im_X6_owns se_X6_owns ml_6_155 ⟨⟨by decide, by decide⟩, by decide, by decide⟩ rfl rfl rfl (by decide) ⟨_, rfl⟩ (gd_k hG (c := 39) rfl) (Nat.le_of_ble_eq_true rfl) rfl h (fun r5 σ5 h => ?_)
        refine tn_popi (pc := 51) hΓ d_X6_findPains_51 ?_
        exact h
theorem k_X6_findPains_52 {Γ : tn_G} {ks : List (Nat × Nat)} {ρ : Nat → Nat → Nat} {σ : Nat → Nat → Int32} {K : Option Value → List (Nat × Nat) → (Nat → Nat → Nat) → (Nat → Nat → Int32) → Prop} (hG : tn_Gd ks ρ) (hΓ : tn_is Γ m_X6_findPains) (hK : tn_rt Γ m_X6_findPains K) (y1 : Int32) (y2 : Int32) (y3 : Int32) (y4 : Int32) (y5 : Int32) (h : tn_CI m_X6_isOf [.int y3, .int (1 : Int32)] ks ρ σ (fun r1 σ1 => ((r1 = 0 → tn_A Γ 86 [.ref 39, .int y1, .int y2, .int y3, .int y4, .int y5, .null] [] 0 0 ks ρ σ1) ∧ (¬ r1 = 0 → tn_CI m_X6_rankles [.ref 39, .int y2] ks ρ σ1 (fun r2 σ2 => ((r2 = 0 → tn_CI m_X6_owns [.ref 39, .int y2] ks ρ σ2 (fun r3 σ3 => tn_A Γ 86 [.ref 39, .int y1, .int y2, .int y3, .int y4, .int (6 : Int32), .null] [] 0 0 ks ρ σ3)) ∧ (¬ r2 = 0 → tn_CI m_X6_weightOf [.ref 39, .int y2] ks ρ σ2 (fun r4 σ4 => tn_CI m_X6_owns [.ref 39, .int y2] ks ρ σ4 (fun r5 σ5 => tn_A Γ 86 [.ref 39, .int y1, .int y2, .int y3, .int y4, .int r4, .null] [] 0 0 ks ρ σ5))))))))) : tn_A Γ 52 [.ref 39, .int y1, .int y2, .int y3, .int y4, .int y5, .null] [] 0 0 ks ρ σ := by
  refine tn_iload_n (pc := 52) hΓ d_X6_findPains_52 rfl ?_
  refine tn_iconst (pc := 53) hΓ d_X6_findPains_53 ic_1 ?_
  refine tn_csI (As := [.int y3, .int (1 : Int32)]) (st := []) (pc := 54) hΓ d_X6_findPains_54 mv_X6_isOf st_X6_isOf ml_6_136 ⟨⟨by decide, by decide⟩, by decide, by decide⟩ rfl rfl rfl (Nat.le_of_ble_eq_true rfl) rfl h (fun r1 σ1 h => ?_)
  refine tn_if_eq (tgt := 86) (pc := 57) hΓ d_X6_findPains_57 (by decide) (fun hq => ?_) (fun hq => ?_)
  · have h := h.1 hq
    exact h
  · have h := h.2 hq
    refine tn_aload_n (pc := 60) hΓ d_X6_findPains_60 rfl ?_
    refine tn_iload_n (pc := 61) hΓ d_X6_findPains_61 rfl ?_
    refine tn_cvI (As := [.int y2]) (st := []) (pc := 62) hΓ d_X6_findPains_62 mv_X6_rankles im_X6_rankles se_X6_rankles ml_6_142 ⟨⟨by decide, by decide⟩, by decide, by decide⟩ rfl rfl rfl (by decide) ⟨_, rfl⟩ (gd_k hG (c := 39) rfl) (Nat.le_of_ble_eq_true rfl) rfl h (fun r2 σ2 h => ?_)
    refine tn_if_eq (tgt := 76) (pc := 65) hΓ d_X6_findPains_65 (by decide) (fun hq => ?_) (fun hq => ?_)
    · have h := h.1 hq
      refine tn_bipush (pc := 76) hΓ d_X6_findPains_76 bp_6 ?_
      refine tn_istore (loc' := [.ref 39, .int y1, .int y2, .int y3, .int y4, .int (6 : Int32), .null]) (pc := 78) hΓ d_X6_findPains_78 (by decide) rfl rfl ?_
      refine tn_aload_n (pc := 80) hΓ d_X6_findPains_80 rfl ?_
      refine tn_iload_n (pc := 81) hΓ d_X6_findPains_81 rfl ?_
      refine tn_cvI (As := [.int y2]) (st := []) (pc := 82) hΓ d_X6_findPains_82 mv_X6_owns im_X6_owns se_X6_owns ml_6_155 ⟨⟨by decide, by decide⟩, by decide, by decide⟩ rfl rfl rfl (by decide) ⟨_, rfl⟩ (gd_k hG (c := 39) rfl) (Nat.le_of_ble_eq_true rfl) rfl h (fun r3 σ3 h => ?_)
      refine tn_popi (pc := 85) hΓ d_X6_findPains_85 ?_
      exact h
    · have h := h.2 hq
      refine tn_aload_n (pc := 68) hΓ d_X6_findPains_68 rfl ?_
      refine tn_iload_n (pc := 69) hΓ d_X6_findPains_69 rfl ?_
      refine tn_cvI (As := [.int y2]) (st := []) (pc := 70) hΓ d_X6_findPains_70 mv_X6_weightOf im_X6_weightOf se_X6_weightOf ml_6_139 ⟨⟨by decide, by decide⟩, by decide, by decide⟩ rfl rfl rfl (by decide) ⟨_, rfl⟩ (gd_k hG (c := 39) rfl) (Nat.le_of_ble_eq_true rfl) rfl h (fun r4 σ4 h => ?_)
      refine tn_goto (tgt := 78) (pc := 73) hΓ d_X6_findPains_73 (by decide) ?_
      refine tn_istore (loc' := [.ref 39, .int y1, .int y2, .int y3, .int y4, .int r4, .null]) (pc := 78) hΓ d_X6_findPains_78 (by decide) rfl rfl ?_
      refine tn_aload_n (pc := 80) hΓ d_X6_findPains_80 rfl ?_
      refine tn_iload_n (pc := 81) hΓ d_X6_findPains_81 rfl ?_
      refine tn_cvI (As := [.int y2]) (st := []) (pc := 82) hΓ d_X6_findPains_82 mv_X6_owns im_X6_owns se_X6_owns ml_6_155 ⟨⟨by decide, by decide⟩, by decide, by decide⟩ rfl rfl rfl (by decide) ⟨_, rfl⟩ (gd_k hG (c := 39) rfl) (Nat.le_of_ble_eq_true rfl) rfl h (fun r5 σ5 h => ?_)
      refine tn_popi (pc := 85) hΓ d_X6_findPains_85 ?_
      exact h
theorem k_X6_findPains_86 {Γ : tn_G} {ks : List (Nat × Nat)} {ρ : Nat → Nat → Nat} {σ : Nat → Nat → Int32} {K : Option Value → List (Nat × Nat) → (Nat → Nat → Nat) → (Nat → Nat → Int32) → Prop} (hG : tn_Gd ks ρ) (hΓ : tn_is Γ m_X6_findPains) (hK : tn_rt Γ m_X6_findPains K) (y1 : Int32) (y2 : Int32) (y3 : Int32) (y4 : Int32) (y5 : Int32) (h : tn_CI m_X6_quietIn [.ref 39, .int (20 : Int32)] ks ρ σ (fun r1 σ1 => ((¬ r1 = (-9 : Int32) → tn_A Γ 108 [.ref 39, .int y1, .int y2, .int y3, .int y4, .int y5, .null] [.int r1] 0 0 ks ρ σ1) ∧ (r1 = (-9 : Int32) → tn_A Γ 108 [.ref 39, .int y1, .int y2, .int y3, .int y4, .int y5, .null] [.int (20 : Int32)] 0 0 ks ρ σ1)))) : tn_A Γ 86 [.ref 39, .int y1, .int y2, .int y3, .int y4, .int y5, .null] [] 0 0 ks ρ σ := by
  refine tn_aload_n (pc := 86) hΓ d_X6_findPains_86 rfl ?_
  refine tn_bipush (pc := 87) hΓ d_X6_findPains_87 bp_20 ?_
  refine tn_cvI (As := [.int (20 : Int32)]) (st := []) (pc := 89) hΓ d_X6_findPains_89 mv_X6_quietIn im_X6_quietIn se_X6_quietIn ml_6_184 ⟨⟨by decide, by decide⟩, by decide, by decide⟩ rfl rfl rfl (by decide) ⟨_, rfl⟩ (gd_k hG (c := 39) rfl) (Nat.le_of_ble_eq_true rfl) rfl h (fun r1 σ1 h => ?_)
  refine tn_istore (loc' := [.ref 39, .int y1, .int y2, .int y3, .int y4, .int y5, .int r1]) (pc := 92) hΓ d_X6_findPains_92 (by decide) rfl rfl ?_
  refine tn_iload (pc := 94) hΓ d_X6_findPains_94 rfl ?_
  refine tn_bipush (pc := 96) hΓ d_X6_findPains_96 bp_m9 ?_
  refine tn_icmp_ne (tgt := 106) (pc := 98) hΓ d_X6_findPains_98 (by decide) (fun hq => ?_) (fun hq => ?_)
  · have h := h.1 hq
    refine tn_iload (pc := 106) hΓ d_X6_findPains_106 rfl ?_
    refine tn_drop [true, true, true, true, true, true, false] (loc' := [.ref 39, .int y1, .int y2, .int y3, .int y4, .int y5, .null]) rfl ?_
    exact h
  · have h := h.2 hq
    refine tn_bipush (pc := 101) hΓ d_X6_findPains_101 bp_20 ?_
    refine tn_goto (tgt := 108) (pc := 103) hΓ d_X6_findPains_103 (by decide) ?_
    refine tn_drop [true, true, true, true, true, true, false] (loc' := [.ref 39, .int y1, .int y2, .int y3, .int y4, .int y5, .null]) rfl ?_
    exact h
theorem k_X6_findPains_108 {Γ : tn_G} {ks : List (Nat × Nat)} {ρ : Nat → Nat → Nat} {σ : Nat → Nat → Int32} {K : Option Value → List (Nat × Nat) → (Nat → Nat → Nat) → (Nat → Nat → Int32) → Prop} (hG : tn_Gd ks ρ) (hΓ : tn_is Γ m_X6_findPains) (hK : tn_rt Γ m_X6_findPains K) (y1 : Int32) (y2 : Int32) (y3 : Int32) (y4 : Int32) (y5 : Int32) (w0 : Int32) (h : (vp_in ((2 : Int32) * y3) 8 ∧ (∀ σ1, σ1 = tn_u σ 51 ((2 : Int32) * y3).toNatClampNeg (y4 + w0) → (vp_in (((2 : Int32) * y3) + (1 : Int32)) 8 ∧ (∀ σ2, σ2 = tn_u σ1 51 (((2 : Int32) * y3) + (1 : Int32)).toNatClampNeg (y5 + w0) → tn_CV m_X6_putBack [.ref 39, .int (0 : Int32)] ks ρ σ2 (fun σ3 => (∀ x1 : Int32, x1 = y3 + (1 : Int32) → tn_A Γ 7 [.ref 39, .int y1, .int y2, .int x1, .null, .null, .null] [] 0 0 ks ρ σ3))))))) : tn_A Γ 108 [.ref 39, .int y1, .int y2, .int y3, .int y4, .int y5, .null] [.int w0] 0 0 ks ρ σ := by
  refine tn_istore (loc' := [.ref 39, .int y1, .int y2, .int y3, .int y4, .int y5, .int w0]) (pc := 108) hΓ d_X6_findPains_108 (by decide) rfl rfl ?_
  refine tn_aload_n (pc := 110) hΓ d_X6_findPains_110 rfl ?_
  refine tn_getRy (y := 51) (pc := 111) hΓ d_X6_findPains_111 fl_6_43 rfl (gd_k hG (c := 39) rfl) (gd_r hG 39 25 51 rfl rfl) ?_
  refine tn_iconst (pc := 114) hΓ d_X6_findPains_114 ic_2 ?_
  refine tn_iload_n (pc := 115) hΓ d_X6_findPains_115 rfl ?_
  refine tn_imul (pc := 116) hΓ d_X6_findPains_116 ?_
  refine tn_iload (pc := 117) hΓ d_X6_findPains_117 rfl ?_
  refine tn_iload (pc := 119) hΓ d_X6_findPains_119 rfl ?_
  refine tn_iadd (pc := 121) hΓ d_X6_findPains_121 ?_
  obtain ⟨hi1, h⟩ := h
  refine tn_ast (pc := 122) hΓ d_X6_findPains_122 (gd_k hG (c := 51) rfl) hi1 ?_
  refine tn_tops (fun σ1 eσ1 => ?_)
  have h := h σ1 eσ1
  refine tn_aload_n (pc := 123) hΓ d_X6_findPains_123 rfl ?_
  refine tn_getRy (y := 51) (pc := 124) hΓ d_X6_findPains_124 fl_6_43 rfl (gd_k hG (c := 39) rfl) (gd_r hG 39 25 51 rfl rfl) ?_
  refine tn_iconst (pc := 127) hΓ d_X6_findPains_127 ic_2 ?_
  refine tn_iload_n (pc := 128) hΓ d_X6_findPains_128 rfl ?_
  refine tn_imul (pc := 129) hΓ d_X6_findPains_129 ?_
  refine tn_iconst (pc := 130) hΓ d_X6_findPains_130 ic_1 ?_
  refine tn_iadd (pc := 131) hΓ d_X6_findPains_131 ?_
  refine tn_iload (pc := 132) hΓ d_X6_findPains_132 rfl ?_
  refine tn_iload (pc := 134) hΓ d_X6_findPains_134 rfl ?_
  refine tn_iadd (pc := 136) hΓ d_X6_findPains_136 ?_
  obtain ⟨hi2, h⟩ := h
  refine tn_ast (pc := 137) hΓ d_X6_findPains_137 (gd_k hG (c := 51) rfl) hi2 ?_
  refine tn_tops (fun σ2 eσ2 => ?_)
  have h := h σ2 eσ2
  refine tn_aload_n (pc := 138) hΓ d_X6_findPains_138 rfl ?_
  refine tn_iconst (pc := 139) hΓ d_X6_findPains_139 ic_0 ?_
  refine tn_cvV (As := [.int (0 : Int32)]) (st := []) (pc := 140) hΓ d_X6_findPains_140 mv_X6_putBack im_X6_putBack se_X6_putBack ml_6_181 ⟨⟨by decide, by decide⟩, by decide, by decide⟩ rfl rfl rfl (by decide) ⟨_, rfl⟩ (gd_k hG (c := 39) rfl) (Nat.le_of_ble_eq_true rfl) rfl h (fun σ3 h => ?_)
  refine tn_iincw (loc' := fun v_ => [.ref 39, .int y1, .int y2, .int v_, .int y4, .int y5, .int w0]) (pc := 143) hΓ d_X6_findPains_143 rfl ic_1 (by decide) rfl (fun _ => rfl) (fun x1 ex1 => ?_)
  have h := h x1 ex1
  refine tn_goto (tgt := 7) (pc := 146) hΓ d_X6_findPains_146 (by decide) ?_
  refine tn_drop [true, true, true, true, false, false, false] (loc' := [.ref 39, .int y1, .int y2, .int x1, .null, .null, .null]) rfl ?_
  exact h
theorem k_X6_rests_0 {Γ : tn_G} {ks : List (Nat × Nat)} {ρ : Nat → Nat → Nat} {σ : Nat → Nat → Int32} {K : Option Value → List (Nat × Nat) → (Nat → Nat → Nat) → (Nat → Nat → Int32) → Prop} (hG : tn_Gd ks ρ) (hΓ : tn_is Γ m_X6_rests) (hK : tn_rt Γ m_X6_rests K) (a0 : Int32) (a1 : Int32) (h : tn_CI m_X6_isHouse [.ref 39, .int a0] ks ρ σ (fun r1 σ1 => ((r1 = 0 → K (some (.int (-1 : Int32))) ks ρ σ1) ∧ (¬ r1 = 0 → tn_CI m_X6_isHouse [.ref 39, .int a1] ks ρ σ1 (fun r2 σ2 => ((r2 = 0 → K (some (.int (-1 : Int32))) ks ρ σ2) ∧ (¬ r2 = 0 → ((¬ a0 = a1 → tn_CV m_X6_findPains [.ref 39, .int a0, .int a1] ks ρ σ2 (fun σ3 => tn_A Γ 34 [.ref 39, .null, .null, .int (0 : Int32), .int (0 : Int32), .null] [] 0 0 ks ρ σ3)) ∧ (a0 = a1 → K (some (.int (-1 : Int32))) ks ρ σ2))))))))) : tn_A Γ 0 [.ref 39, .int a0, .int a1, .null, .null, .null] [] 0 0 ks ρ σ := by
  refine tn_aload_n (pc := 0) hΓ d_X6_rests_0 rfl ?_
  refine tn_iload_n (pc := 1) hΓ d_X6_rests_1 rfl ?_
  refine tn_cvI (As := [.int a0]) (st := []) (pc := 2) hΓ d_X6_rests_2 mv_X6_isHouse im_X6_isHouse se_X6_isHouse ml_6_145 ⟨⟨by decide, by decide⟩, by decide, by decide⟩ rfl rfl rfl (by decide) ⟨_, rfl⟩ (gd_k hG (c := 39) rfl) (Nat.le_of_ble_eq_true rfl) rfl h (fun r1 σ1 h => ?_)
  refine tn_if_eq (tgt := 21) (pc := 5) hΓ d_X6_rests_5 (by decide) (fun hq => ?_) (fun hq => ?_)
  · have h := h.1 hq
    refine tn_iconst (pc := 21) hΓ d_X6_rests_21 ic_m1 ?_
    exact tn_ret_i (pc := 22) hΓ hK d_X6_rests_22 rfl (by decide) (by decide) h
  · have h := h.2 hq
    refine tn_aload_n (pc := 8) hΓ d_X6_rests_8 rfl ?_
    refine tn_iload_n (pc := 9) hΓ d_X6_rests_9 rfl ?_
    refine tn_cvI (As := [.int a1]) (st := []) (pc := 10) hΓ d_X6_rests_10 mv_X6_isHouse im_X6_isHouse se_X6_isHouse ml_6_145 ⟨⟨by decide, by decide⟩, by decide, by decide⟩ rfl rfl rfl (by decide) ⟨_, rfl⟩ (gd_k hG (c := 39) rfl) (Nat.le_of_ble_eq_true rfl) rfl h (fun r2 σ2 h => ?_)
    refine tn_if_eq (tgt := 21) (pc := 13) hΓ d_X6_rests_13 (by decide) (fun hq => ?_) (fun hq => ?_)
    · have h := h.1 hq
      refine tn_iconst (pc := 21) hΓ d_X6_rests_21 ic_m1 ?_
      exact tn_ret_i (pc := 22) hΓ hK d_X6_rests_22 rfl (by decide) (by decide) h
    · have h := h.2 hq
      refine tn_iload_n (pc := 16) hΓ d_X6_rests_16 rfl ?_
      refine tn_iload_n (pc := 17) hΓ d_X6_rests_17 rfl ?_
      refine tn_icmp_ne (tgt := 23) (pc := 18) hΓ d_X6_rests_18 (by decide) (fun hq => ?_) (fun hq => ?_)
      · have h := h.1 hq
        refine tn_aload_n (pc := 23) hΓ d_X6_rests_23 rfl ?_
        refine tn_iload_n (pc := 24) hΓ d_X6_rests_24 rfl ?_
        refine tn_iload_n (pc := 25) hΓ d_X6_rests_25 rfl ?_
        refine tn_cvV (As := [.int a0, .int a1]) (st := []) (pc := 26) hΓ d_X6_rests_26 mv_X6_findPains im_X6_findPains se_X6_findPains ml_6_193 ⟨⟨by decide, by decide⟩, by decide, by decide⟩ rfl rfl rfl (by decide) ⟨_, rfl⟩ (gd_k hG (c := 39) rfl) (Nat.le_of_ble_eq_true rfl) rfl h (fun σ3 h => ?_)
        refine tn_iconst (pc := 29) hΓ d_X6_rests_29 ic_0 ?_
        refine tn_istore_n (loc' := [.ref 39, .int a0, .int a1, .int (0 : Int32), .null, .null]) (pc := 30) hΓ d_X6_rests_30 (by decide) rfl rfl ?_
        refine tn_iconst (pc := 31) hΓ d_X6_rests_31 ic_0 ?_
        refine tn_istore (loc' := [.ref 39, .int a0, .int a1, .int (0 : Int32), .int (0 : Int32), .null]) (pc := 32) hΓ d_X6_rests_32 (by decide) rfl rfl ?_
        refine tn_drop [true, false, false, true, true, false] (loc' := [.ref 39, .null, .null, .int (0 : Int32), .int (0 : Int32), .null]) rfl ?_
        exact h
      · have h := h.2 hq
        refine tn_iconst (pc := 21) hΓ d_X6_rests_21 ic_m1 ?_
        exact tn_ret_i (pc := 22) hΓ hK d_X6_rests_22 rfl (by decide) (by decide) h
theorem k_X6_rests_34 {Γ : tn_G} {ks : List (Nat × Nat)} {ρ : Nat → Nat → Nat} {σ : Nat → Nat → Int32} {K : Option Value → List (Nat × Nat) → (Nat → Nat → Nat) → (Nat → Nat → Int32) → Prop} (hG : tn_Gd ks ρ) (hΓ : tn_is Γ m_X6_rests) (hK : tn_rt Γ m_X6_rests K) (y3 : Int32) (y4 : Int32) (h : (((4 : Int32) ≤ y4 → K (some (.int y3)) ks ρ σ) ∧ (¬ (4 : Int32) ≤ y4 → (vp_in ((2 : Int32) * y4) 8 ∧ (vp_in ((2 : Int32) * (y4 ^^^ (1 : Int32))) 8 ∧ (((σ 51 ((2 : Int32) * (y4 ^^^ (1 : Int32))).toNatClampNeg) < (σ 51 ((2 : Int32) * y4).toNatClampNeg) → tn_A Γ 95 [.ref 39, .null, .null, .int y3, .int y4, .null] [.int (0 : Int32)] 0 0 ks ρ σ) ∧ (¬ (σ 51 ((2 : Int32) * (y4 ^^^ (1 : Int32))).toNatClampNeg) < (σ 51 ((2 : Int32) * y4).toNatClampNeg) → (vp_in (((2 : Int32) * y4) + (1 : Int32)) 8 ∧ (vp_in (((2 : Int32) * (y4 ^^^ (2 : Int32))) + (1 : Int32)) 8 ∧ (((σ 51 (((2 : Int32) * (y4 ^^^ (2 : Int32))) + (1 : Int32)).toNatClampNeg) < (σ 51 (((2 : Int32) * y4) + (1 : Int32)).toNatClampNeg) → tn_A Γ 95 [.ref 39, .null, .null, .int y3, .int y4, .null] [.int (0 : Int32)] 0 0 ks ρ σ) ∧ (¬ (σ 51 (((2 : Int32) * (y4 ^^^ (2 : Int32))) + (1 : Int32)).toNatClampNeg) < (σ 51 (((2 : Int32) * y4) + (1 : Int32)).toNatClampNeg) → tn_A Γ 95 [.ref 39, .null, .null, .int y3, .int y4, .null] [.int (1 : Int32)] 0 0 ks ρ σ))))))))))) : tn_A Γ 34 [.ref 39, .null, .null, .int y3, .int y4, .null] [] 0 0 ks ρ σ := by
  refine tn_iload (pc := 34) hΓ d_X6_rests_34 rfl ?_
  refine tn_iconst (pc := 36) hΓ d_X6_rests_36 ic_4 ?_
  refine tn_icmp_ge (tgt := 119) (pc := 37) hΓ d_X6_rests_37 (by decide) (fun hq => ?_) (fun hq => ?_)
  · have h := h.1 hq
    refine tn_iload_n (pc := 119) hΓ d_X6_rests_119 rfl ?_
    exact tn_ret_i (pc := 120) hΓ hK d_X6_rests_120 rfl (by decide) (by decide) h
  · have h := h.2 hq
    refine tn_aload_n (pc := 40) hΓ d_X6_rests_40 rfl ?_
    refine tn_getRy (y := 51) (pc := 41) hΓ d_X6_rests_41 fl_6_43 rfl (gd_k hG (c := 39) rfl) (gd_r hG 39 25 51 rfl rfl) ?_
    refine tn_iconst (pc := 44) hΓ d_X6_rests_44 ic_2 ?_
    refine tn_iload (pc := 45) hΓ d_X6_rests_45 rfl ?_
    refine tn_imul (pc := 47) hΓ d_X6_rests_47 ?_
    obtain ⟨hi1, h⟩ := h
    refine tn_ald (pc := 48) hΓ d_X6_rests_48 (gd_k hG (c := 51) rfl) hi1 ?_
    refine tn_aload_n (pc := 49) hΓ d_X6_rests_49 rfl ?_
    refine tn_getRy (y := 51) (pc := 50) hΓ d_X6_rests_50 fl_6_43 rfl (gd_k hG (c := 39) rfl) (gd_r hG 39 25 51 rfl rfl) ?_
    refine tn_iconst (pc := 53) hΓ d_X6_rests_53 ic_2 ?_
    refine tn_iload (pc := 54) hΓ d_X6_rests_54 rfl ?_
    refine tn_iconst (pc := 56) hΓ d_X6_rests_56 ic_1 ?_
    refine tn_ixor (pc := 57) hΓ d_X6_rests_57 ?_
    refine tn_imul (pc := 58) hΓ d_X6_rests_58 ?_
    obtain ⟨hi2, h⟩ := h
    refine tn_ald (pc := 59) hΓ d_X6_rests_59 (gd_k hG (c := 51) rfl) hi2 ?_
    refine tn_icmp_gt (tgt := 94) (pc := 60) hΓ d_X6_rests_60 (by decide) (fun hq => ?_) (fun hq => ?_)
    · have h := h.1 hq
      refine tn_iconst (pc := 94) hΓ d_X6_rests_94 ic_0 ?_
      exact h
    · have h := h.2 hq
      refine tn_aload_n (pc := 63) hΓ d_X6_rests_63 rfl ?_
      refine tn_getRy (y := 51) (pc := 64) hΓ d_X6_rests_64 fl_6_43 rfl (gd_k hG (c := 39) rfl) (gd_r hG 39 25 51 rfl rfl) ?_
      refine tn_iconst (pc := 67) hΓ d_X6_rests_67 ic_2 ?_
      refine tn_iload (pc := 68) hΓ d_X6_rests_68 rfl ?_
      refine tn_imul (pc := 70) hΓ d_X6_rests_70 ?_
      refine tn_iconst (pc := 71) hΓ d_X6_rests_71 ic_1 ?_
      refine tn_iadd (pc := 72) hΓ d_X6_rests_72 ?_
      obtain ⟨hi3, h⟩ := h
      refine tn_ald (pc := 73) hΓ d_X6_rests_73 (gd_k hG (c := 51) rfl) hi3 ?_
      refine tn_aload_n (pc := 74) hΓ d_X6_rests_74 rfl ?_
      refine tn_getRy (y := 51) (pc := 75) hΓ d_X6_rests_75 fl_6_43 rfl (gd_k hG (c := 39) rfl) (gd_r hG 39 25 51 rfl rfl) ?_
      refine tn_iconst (pc := 78) hΓ d_X6_rests_78 ic_2 ?_
      refine tn_iload (pc := 79) hΓ d_X6_rests_79 rfl ?_
      refine tn_iconst (pc := 81) hΓ d_X6_rests_81 ic_2 ?_
      refine tn_ixor (pc := 82) hΓ d_X6_rests_82 ?_
      refine tn_imul (pc := 83) hΓ d_X6_rests_83 ?_
      refine tn_iconst (pc := 84) hΓ d_X6_rests_84 ic_1 ?_
      refine tn_iadd (pc := 85) hΓ d_X6_rests_85 ?_
      obtain ⟨hi4, h⟩ := h
      refine tn_ald (pc := 86) hΓ d_X6_rests_86 (gd_k hG (c := 51) rfl) hi4 ?_
      refine tn_icmp_gt (tgt := 94) (pc := 87) hΓ d_X6_rests_87 (by decide) (fun hq => ?_) (fun hq => ?_)
      · have h := h.1 hq
        refine tn_iconst (pc := 94) hΓ d_X6_rests_94 ic_0 ?_
        exact h
      · have h := h.2 hq
        refine tn_iconst (pc := 90) hΓ d_X6_rests_90 ic_1 ?_
        refine tn_goto (tgt := 95) (pc := 91) hΓ d_X6_rests_91 (by decide) ?_
        exact h
theorem k_X6_rests_95 {Γ : tn_G} {ks : List (Nat × Nat)} {ρ : Nat → Nat → Nat} {σ : Nat → Nat → Int32} {K : Option Value → List (Nat × Nat) → (Nat → Nat → Nat) → (Nat → Nat → Int32) → Prop} (hG : tn_Gd ks ρ) (hΓ : tn_is Γ m_X6_rests) (hK : tn_rt Γ m_X6_rests K) (y3 : Int32) (y4 : Int32) (w0 : Int32) (h : ((w0 = 0 → (∀ x1 : Int32, x1 = (y3 ||| (0 : Int32)) → (∀ x2 : Int32, x2 = y4 + (1 : Int32) → tn_A Γ 34 [.ref 39, .null, .null, .int x1, .int x2, .null] [] 0 0 ks ρ σ))) ∧ (¬ w0 = 0 → (∀ x3 : Int32, x3 = (y3 ||| ((1 : Int32) <<< (y4 &&& 31))) → (∀ x4 : Int32, x4 = y4 + (1 : Int32) → tn_A Γ 34 [.ref 39, .null, .null, .int x3, .int x4, .null] [] 0 0 ks ρ σ))))) : tn_A Γ 95 [.ref 39, .null, .null, .int y3, .int y4, .null] [.int w0] 0 0 ks ρ σ := by
  refine tn_istore (loc' := [.ref 39, .null, .null, .int y3, .int y4, .int w0]) (pc := 95) hΓ d_X6_rests_95 (by decide) rfl rfl ?_
  refine tn_iload_n (pc := 97) hΓ d_X6_rests_97 rfl ?_
  refine tn_iload (pc := 98) hΓ d_X6_rests_98 rfl ?_
  refine tn_if_eq (tgt := 110) (pc := 100) hΓ d_X6_rests_100 (by decide) (fun hq => ?_) (fun hq => ?_)
  · have h := h.1 hq
    refine tn_iconst (pc := 110) hΓ d_X6_rests_110 ic_0 ?_
    refine tn_ior (pc := 111) hΓ d_X6_rests_111 ?_
    refine tn_topi (fun x1 ex1 => ?_)
    have h := h x1 ex1
    refine tn_istore_n (loc' := [.ref 39, .null, .null, .int x1, .int y4, .int w0]) (pc := 112) hΓ d_X6_rests_112 (by decide) rfl rfl ?_
    refine tn_iincw (loc' := fun v_ => [.ref 39, .null, .null, .int x1, .int v_, .int w0]) (pc := 113) hΓ d_X6_rests_113 rfl ic_1 (by decide) rfl (fun _ => rfl) (fun x2 ex2 => ?_)
    have h := h x2 ex2
    refine tn_goto (tgt := 34) (pc := 116) hΓ d_X6_rests_116 (by decide) ?_
    refine tn_drop [true, false, false, true, true, false] (loc' := [.ref 39, .null, .null, .int x1, .int x2, .null]) rfl ?_
    exact h
  · have h := h.2 hq
    refine tn_iconst (pc := 103) hΓ d_X6_rests_103 ic_1 ?_
    refine tn_iload (pc := 104) hΓ d_X6_rests_104 rfl ?_
    refine tn_ishl (pc := 106) hΓ d_X6_rests_106 ?_
    refine tn_goto (tgt := 111) (pc := 107) hΓ d_X6_rests_107 (by decide) ?_
    refine tn_ior (pc := 111) hΓ d_X6_rests_111 ?_
    refine tn_topi (fun x3 ex3 => ?_)
    have h := h x3 ex3
    refine tn_istore_n (loc' := [.ref 39, .null, .null, .int x3, .int y4, .int w0]) (pc := 112) hΓ d_X6_rests_112 (by decide) rfl rfl ?_
    refine tn_iincw (loc' := fun v_ => [.ref 39, .null, .null, .int x3, .int v_, .int w0]) (pc := 113) hΓ d_X6_rests_113 rfl ic_1 (by decide) rfl (fun _ => rfl) (fun x4 ex4 => ?_)
    have h := h x4 ex4
    refine tn_goto (tgt := 34) (pc := 116) hΓ d_X6_rests_116 (by decide) ?_
    refine tn_drop [true, false, false, true, true, false] (loc' := [.ref 39, .null, .null, .int x3, .int x4, .null]) rfl ?_
    exact h
theorem k_X6_reading_0 {Γ : tn_G} {ks : List (Nat × Nat)} {ρ : Nat → Nat → Nat} {σ : Nat → Nat → Int32} {K : Option Value → List (Nat × Nat) → (Nat → Nat → Nat) → (Nat → Nat → Int32) → Prop} (hG : tn_Gd ks ρ) (hΓ : tn_is Γ m_X6_reading) (hK : tn_rt Γ m_X6_reading K) (a0 : Int32) (a1 : Int32) (h : ((¬ (σ 39 5) = 0 → tn_CI m_X6_within [.int a0, .int (0 : Int32), .int (60 : Int32)] ks ρ σ (fun r1 σ1 => ((r1 = 0 → K (some (.int (-2 : Int32))) ks ρ σ1) ∧ (¬ r1 = 0 → tn_CI m_X6_within [.int a1, .int (0 : Int32), .int (200 : Int32)] ks ρ σ1 (fun r2 σ2 => ((¬ r2 = 0 → ((¬ (σ2 39 26) = (8 : Int32) → (vp_in (σ2 39 26) 8 ∧ (∀ σ3, σ3 = tn_u σ2 52 (σ2 39 26).toNatClampNeg a0 → (vp_in (σ3 39 26) 8 ∧ (∀ σ4, σ4 = tn_u σ3 53 (σ3 39 26).toNatClampNeg a1 → (∀ σ5, σ5 = tn_u σ4 39 26 ((σ4 39 26) + (1 : Int32)) → K (some (.int ((σ5 39 26) - (1 : Int32)))) ks ρ σ5)))))) ∧ ((σ2 39 26) = (8 : Int32) → K (some (.int (-4 : Int32))) ks ρ σ2))) ∧ (r2 = 0 → K (some (.int (-2 : Int32))) ks ρ σ2))))))) ∧ ((σ 39 5) = 0 → K (some (.int (-3 : Int32))) ks ρ σ))) : tn_A Γ 0 [.ref 39, .int a0, .int a1] [] 0 0 ks ρ σ := by
  refine tn_aload_n (pc := 0) hΓ d_X6_reading_0 rfl ?_
  refine tn_getI (pc := 1) hΓ d_X6_reading_1 fl_6_62 rfl (gd_k hG (c := 39) rfl) ?_
  refine tn_if_ne (tgt := 10) (pc := 4) hΓ d_X6_reading_4 (by decide) (fun hq => ?_) (fun hq => ?_)
  · have h := h.1 hq
    refine tn_iload_n (pc := 10) hΓ d_X6_reading_10 rfl ?_
    refine tn_iconst (pc := 11) hΓ d_X6_reading_11 ic_0 ?_
    refine tn_bipush (pc := 12) hΓ d_X6_reading_12 bp_60 ?_
    refine tn_csI (As := [.int a0, .int (0 : Int32), .int (60 : Int32)]) (st := []) (pc := 14) hΓ d_X6_reading_14 mv_X6_within st_X6_within ml_6_58 ⟨⟨by decide, by decide⟩, by decide, by decide⟩ rfl rfl rfl (Nat.le_of_ble_eq_true rfl) rfl h (fun r1 σ1 h => ?_)
    refine tn_if_eq (tgt := 31) (pc := 17) hΓ d_X6_reading_17 (by decide) (fun hq => ?_) (fun hq => ?_)
    · have h := h.1 hq
      refine tn_bipush (pc := 31) hΓ d_X6_reading_31 bp_m2 ?_
      exact tn_ret_i (pc := 33) hΓ hK d_X6_reading_33 rfl (by decide) (by decide) h
    · have h := h.2 hq
      refine tn_iload_n (pc := 20) hΓ d_X6_reading_20 rfl ?_
      refine tn_iconst (pc := 21) hΓ d_X6_reading_21 ic_0 ?_
      refine tn_sipush (pc := 22) hΓ d_X6_reading_22 sp_200 ?_
      refine tn_csI (As := [.int a1, .int (0 : Int32), .int (200 : Int32)]) (st := []) (pc := 25) hΓ d_X6_reading_25 mv_X6_within st_X6_within ml_6_58 ⟨⟨by decide, by decide⟩, by decide, by decide⟩ rfl rfl rfl (Nat.le_of_ble_eq_true rfl) rfl h (fun r2 σ2 h => ?_)
      refine tn_if_ne (tgt := 34) (pc := 28) hΓ d_X6_reading_28 (by decide) (fun hq => ?_) (fun hq => ?_)
      · have h := h.1 hq
        refine tn_aload_n (pc := 34) hΓ d_X6_reading_34 rfl ?_
        refine tn_getI (pc := 35) hΓ d_X6_reading_35 fl_6_119 rfl (gd_k hG (c := 39) rfl) ?_
        refine tn_bipush (pc := 38) hΓ d_X6_reading_38 bp_8 ?_
        refine tn_icmp_ne (tgt := 46) (pc := 40) hΓ d_X6_reading_40 (by decide) (fun hq => ?_) (fun hq => ?_)
        · have h := h.1 hq
          refine tn_aload_n (pc := 46) hΓ d_X6_reading_46 rfl ?_
          refine tn_getRy (y := 52) (pc := 47) hΓ d_X6_reading_47 fl_6_46 rfl (gd_k hG (c := 39) rfl) (gd_r hG 39 27 52 rfl rfl) ?_
          refine tn_aload_n (pc := 50) hΓ d_X6_reading_50 rfl ?_
          refine tn_getI (pc := 51) hΓ d_X6_reading_51 fl_6_119 rfl (gd_k hG (c := 39) rfl) ?_
          refine tn_iload_n (pc := 54) hΓ d_X6_reading_54 rfl ?_
          obtain ⟨hi1, h⟩ := h
          refine tn_ast (pc := 55) hΓ d_X6_reading_55 (gd_k hG (c := 52) rfl) hi1 ?_
          refine tn_tops (fun σ3 eσ3 => ?_)
          have h := h σ3 eσ3
          refine tn_aload_n (pc := 56) hΓ d_X6_reading_56 rfl ?_
          refine tn_getRy (y := 53) (pc := 57) hΓ d_X6_reading_57 fl_6_49 rfl (gd_k hG (c := 39) rfl) (gd_r hG 39 28 53 rfl rfl) ?_
          refine tn_aload_n (pc := 60) hΓ d_X6_reading_60 rfl ?_
          refine tn_getI (pc := 61) hΓ d_X6_reading_61 fl_6_119 rfl (gd_k hG (c := 39) rfl) ?_
          refine tn_iload_n (pc := 64) hΓ d_X6_reading_64 rfl ?_
          obtain ⟨hi2, h⟩ := h
          refine tn_ast (pc := 65) hΓ d_X6_reading_65 (gd_k hG (c := 53) rfl) hi2 ?_
          refine tn_tops (fun σ4 eσ4 => ?_)
          have h := h σ4 eσ4
          refine tn_aload_n (pc := 66) hΓ d_X6_reading_66 rfl ?_
          refine tn_dupr (pc := 67) hΓ d_X6_reading_67 ?_
          refine tn_getI (pc := 68) hΓ d_X6_reading_68 fl_6_119 rfl (gd_k hG (c := 39) rfl) ?_
          refine tn_iconst (pc := 71) hΓ d_X6_reading_71 ic_1 ?_
          refine tn_iadd (pc := 72) hΓ d_X6_reading_72 ?_
          refine tn_putI (pc := 73) hΓ d_X6_reading_73 fl_6_119 fk_6_6_26 rfl (gd_k hG (c := 39) rfl)  ?_
          refine tn_tops (fun σ5 eσ5 => ?_)
          have h := h σ5 eσ5
          refine tn_aload_n (pc := 76) hΓ d_X6_reading_76 rfl ?_
          refine tn_getI (pc := 77) hΓ d_X6_reading_77 fl_6_119 rfl (gd_k hG (c := 39) rfl) ?_
          refine tn_iconst (pc := 80) hΓ d_X6_reading_80 ic_1 ?_
          refine tn_isub (pc := 81) hΓ d_X6_reading_81 ?_
          exact tn_ret_i (pc := 82) hΓ hK d_X6_reading_82 rfl (by decide) (by decide) h
        · have h := h.2 hq
          refine tn_bipush (pc := 43) hΓ d_X6_reading_43 bp_m4 ?_
          exact tn_ret_i (pc := 45) hΓ hK d_X6_reading_45 rfl (by decide) (by decide) h
      · have h := h.2 hq
        refine tn_bipush (pc := 31) hΓ d_X6_reading_31 bp_m2 ?_
        exact tn_ret_i (pc := 33) hΓ hK d_X6_reading_33 rfl (by decide) (by decide) h
  · have h := h.2 hq
    refine tn_bipush (pc := 7) hΓ d_X6_reading_7 bp_m3 ?_
    exact tn_ret_i (pc := 9) hΓ hK d_X6_reading_9 rfl (by decide) (by decide) h
theorem k_X6_back_0 {Γ : tn_G} {ks : List (Nat × Nat)} {ρ : Nat → Nat → Nat} {σ : Nat → Nat → Int32} {K : Option Value → List (Nat × Nat) → (Nat → Nat → Nat) → (Nat → Nat → Int32) → Prop} (hG : tn_Gd ks ρ) (hΓ : tn_is Γ m_X6_back) (hK : tn_rt Γ m_X6_back K) (a0 : Int32) (h : tn_CI m_X6_within [.int a0, .int (0 : Int32), .int (σ 39 26)] ks ρ σ (fun r1 σ1 => ((¬ r1 = 0 → (∀ σ2, σ2 = tn_u σ1 39 26 ((σ1 39 26) - a0) → K (some (.int (σ2 39 26))) ks ρ σ2)) ∧ (r1 = 0 → K (some (.int (-2 : Int32))) ks ρ σ1)))) : tn_A Γ 0 [.ref 39, .int a0] [] 0 0 ks ρ σ := by
  refine tn_iload_n (pc := 0) hΓ d_X6_back_0 rfl ?_
  refine tn_iconst (pc := 1) hΓ d_X6_back_1 ic_0 ?_
  refine tn_aload_n (pc := 2) hΓ d_X6_back_2 rfl ?_
  refine tn_getI (pc := 3) hΓ d_X6_back_3 fl_6_119 rfl (gd_k hG (c := 39) rfl) ?_
  refine tn_csI (As := [.int a0, .int (0 : Int32), .int (σ 39 26)]) (st := []) (pc := 6) hΓ d_X6_back_6 mv_X6_within st_X6_within ml_6_58 ⟨⟨by decide, by decide⟩, by decide, by decide⟩ rfl rfl rfl (Nat.le_of_ble_eq_true rfl) rfl h (fun r1 σ1 h => ?_)
  refine tn_if_ne (tgt := 15) (pc := 9) hΓ d_X6_back_9 (by decide) (fun hq => ?_) (fun hq => ?_)
  · have h := h.1 hq
    refine tn_aload_n (pc := 15) hΓ d_X6_back_15 rfl ?_
    refine tn_dupr (pc := 16) hΓ d_X6_back_16 ?_
    refine tn_getI (pc := 17) hΓ d_X6_back_17 fl_6_119 rfl (gd_k hG (c := 39) rfl) ?_
    refine tn_iload_n (pc := 20) hΓ d_X6_back_20 rfl ?_
    refine tn_isub (pc := 21) hΓ d_X6_back_21 ?_
    refine tn_putI (pc := 22) hΓ d_X6_back_22 fl_6_119 fk_6_6_26 rfl (gd_k hG (c := 39) rfl)  ?_
    refine tn_tops (fun σ2 eσ2 => ?_)
    have h := h σ2 eσ2
    refine tn_aload_n (pc := 25) hΓ d_X6_back_25 rfl ?_
    refine tn_getI (pc := 26) hΓ d_X6_back_26 fl_6_119 rfl (gd_k hG (c := 39) rfl) ?_
    exact tn_ret_i (pc := 29) hΓ hK d_X6_back_29 rfl (by decide) (by decide) h
  · have h := h.2 hq
    refine tn_bipush (pc := 12) hΓ d_X6_back_12 bp_m2 ?_
    exact tn_ret_i (pc := 14) hΓ hK d_X6_back_14 rfl (by decide) (by decide) h
