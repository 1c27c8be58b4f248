-- X4_mayEnd X4_takes X4_goesOn X4_kindOfLetter X4_takesSleep X4_takesAfterHouse X4_takesStone J6_bitCount_0f7a4
theorem k_X4_mayEnd_0 {Γ : tn_G} {ks : List (Nat × Nat)} {ρ : Nat → Nat → Nat} {σ : Nat → Nat → Int32} {K : Option Value → List (Nat × Nat) → (Nat → Nat → Nat) → (Nat → Nat → Int32) → Prop} (hG : tn_Gd ks ρ) (hΓ : tn_is Γ m_X4_mayEnd) (hK : tn_rt Γ m_X4_mayEnd K) (t : Nat) (hk : tn_kd ks t = some (4, 0)) (hr : ρ t 0 = 15) (h : (((σ t 1) = (6 : Int32) → K (some (.int (1 : Int32))) ks ρ σ) ∧ (¬ (σ t 1) = (6 : Int32) → ((¬ (σ t 1) = (8 : Int32) → K (some (.int (0 : Int32))) ks ρ σ) ∧ ((σ t 1) = (8 : Int32) → K (some (.int (1 : Int32))) ks ρ σ))))) : tn_A Γ 0 [.ref t] [] 0 0 ks ρ σ := by
  refine tn_aload_n (pc := 0) hΓ d_X4_mayEnd_0 rfl ?_
  refine tn_getI (pc := 1) hΓ d_X4_mayEnd_1 fl_4_11 rfl hk ?_
  refine tn_bipush (pc := 4) hΓ d_X4_mayEnd_4 bp_6 ?_
  refine tn_icmp_eq (tgt := 18) (pc := 6) hΓ d_X4_mayEnd_6 (by decide) (fun hq => ?_) (fun hq => ?_)
  · have h := h.1 hq
    refine tn_iconst (pc := 18) hΓ d_X4_mayEnd_18 ic_1 ?_
    refine tn_goto (tgt := 23) (pc := 19) hΓ d_X4_mayEnd_19 (by decide) ?_
    exact tn_ret_z (pc := 23) hΓ hK d_X4_mayEnd_23 rfl (by decide) (by decide) (Or.inr rfl) h
  · have h := h.2 hq
    refine tn_aload_n (pc := 9) hΓ d_X4_mayEnd_9 rfl ?_
    refine tn_getI (pc := 10) hΓ d_X4_mayEnd_10 fl_4_11 rfl hk ?_
    refine tn_bipush (pc := 13) hΓ d_X4_mayEnd_13 bp_8 ?_
    refine tn_icmp_ne (tgt := 22) (pc := 15) hΓ d_X4_mayEnd_15 (by decide) (fun hq => ?_) (fun hq => ?_)
    · have h := h.1 hq
      refine tn_iconst (pc := 22) hΓ d_X4_mayEnd_22 ic_0 ?_
      exact tn_ret_z (pc := 23) hΓ hK d_X4_mayEnd_23 rfl (by decide) (by decide) (Or.inl rfl) h
    · have h := h.2 hq
      refine tn_iconst (pc := 18) hΓ d_X4_mayEnd_18 ic_1 ?_
      refine tn_goto (tgt := 23) (pc := 19) hΓ d_X4_mayEnd_19 (by decide) ?_
      exact tn_ret_z (pc := 23) hΓ hK d_X4_mayEnd_23 rfl (by decide) (by decide) (Or.inr rfl) h
theorem k_X4_takes_0 {Γ : tn_G} {ks : List (Nat × Nat)} {ρ : Nat → Nat → Nat} {σ : Nat → Nat → Int32} {K : Option Value → List (Nat × Nat) → (Nat → Nat → Nat) → (Nat → Nat → Int32) → Prop} (hG : tn_Gd ks ρ) (hΓ : tn_is Γ m_X4_takes) (hK : tn_rt Γ m_X4_takes K) (t : Nat) (a0 : Int32) (hk : tn_kd ks t = some (4, 0)) (hr : ρ t 0 = 15) (h : (((σ t 1) = (0 : Int32) → ((¬ a0 = (116 : Int32) → tn_CI m_X4_goesOn [.ref t, .int (0 : Int32), .int (1 : Int32)] ks ρ σ (fun r1 σ1 => ((r1 = 0 ∨ r1 = 1) ∧ K (some (.int r1)) ks ρ σ1))) ∧ (a0 = (116 : Int32) → tn_CI m_X4_goesOn [.ref t, .int (1 : Int32), .int (1 : Int32)] ks ρ σ (fun r2 σ2 => ((r2 = 0 ∨ r2 = 1) ∧ K (some (.int r2)) ks ρ σ2))))) ∧ (¬ (σ t 1) = (0 : Int32) → (((σ t 1) = (1 : Int32) → (∀ σ3, σ3 = tn_u σ 15 4 (a0 - (48 : Int32)) → tn_CI m_X5_isWithin [.int a0, .int (49 : Int32), .int (52 : Int32)] ks ρ σ3 (fun r3 σ4 => tn_CI m_X4_goesOn [.ref t, .int r3, .int (2 : Int32)] ks ρ σ4 (fun r4 σ5 => ((r4 = 0 ∨ r4 = 1) ∧ K (some (.int r4)) ks ρ σ5))))) ∧ (¬ (σ t 1) = (1 : Int32) → (((σ t 1) = (2 : Int32) → ((¬ a0 = (59 : Int32) → tn_CI m_X4_goesOn [.ref t, .int (0 : Int32), .int (3 : Int32)] ks ρ σ (fun r5 σ6 => ((r5 = 0 ∨ r5 = 1) ∧ K (some (.int r5)) ks ρ σ6))) ∧ (a0 = (59 : Int32) → tn_CI m_X4_goesOn [.ref t, .int (1 : Int32), .int (3 : Int32)] ks ρ σ (fun r6 σ7 => ((r6 = 0 ∨ r6 = 1) ∧ K (some (.int r6)) ks ρ σ7))))) ∧ (¬ (σ t 1) = (2 : Int32) → (((σ t 1) = (3 : Int32) → tn_CI m_X4_kindOfLetter [.int a0] ks ρ σ (fun r7 σ8 => (∀ σ9, σ9 = tn_u σ8 t 2 r7 → (((σ9 t 2) = (-9 : Int32) → tn_CI m_X4_goesOn [.ref t, .int (0 : Int32), .int (4 : Int32)] ks ρ σ9 (fun r8 σ10 => ((r8 = 0 ∨ r8 = 1) ∧ K (some (.int r8)) ks ρ σ10))) ∧ (¬ (σ9 t 2) = (-9 : Int32) → tn_CI m_X4_goesOn [.ref t, .int (1 : Int32), .int (4 : Int32)] ks ρ σ9 (fun r9 σ11 => ((r9 = 0 ∨ r9 = 1) ∧ K (some (.int r9)) ks ρ σ11))))))) ∧ (¬ (σ t 1) = (3 : Int32) → (((σ t 1) = (4 : Int32) → (∀ σ12, σ12 = tn_u σ t 3 (a0 - (48 : Int32)) → tn_CI m_X5_isWithin [.int a0, .int (48 : Int32), .int (57 : Int32)] ks ρ σ12 (fun r10 σ13 => tn_CI m_X4_goesOn [.ref t, .int r10, .int (5 : Int32)] ks ρ σ13 (fun r11 σ14 => ((r11 = 0 ∨ r11 = 1) ∧ K (some (.int r11)) ks ρ σ14))))) ∧ (¬ (σ t 1) = (4 : Int32) → (((σ t 1) = (5 : Int32) → tn_CI m_X4_takesSleep [.ref t, .int a0] ks ρ σ (fun r12 σ15 => ((r12 = 0 ∨ r12 = 1) ∧ K (some (.int r12)) ks ρ σ15))) ∧ (¬ (σ t 1) = (5 : Int32) → (((σ t 1) = (6 : Int32) → tn_CI m_X4_takesAfterHouse [.ref t, .int a0] ks ρ σ (fun r13 σ16 => ((r13 = 0 ∨ r13 = 1) ∧ K (some (.int r13)) ks ρ σ16))) ∧ (¬ (σ t 1) = (6 : Int32) → tn_CI m_X4_takesStone [.ref t, .int a0] ks ρ σ (fun r14 σ17 => ((r14 = 0 ∨ r14 = 1) ∧ K (some (.int r14)) ks ρ σ17))))))))))))))))) : tn_A Γ 0 [.ref t, .int a0] [] 0 0 ks ρ σ := by
  refine tn_aload_n (pc := 0) hΓ d_X4_takes_0 rfl ?_
  refine tn_getI (pc := 1) hΓ d_X4_takes_1 fl_4_11 rfl hk ?_
  refine tn_byc ((σ t 1) = (0 : Int32)) (fun hq => ?_) (fun hq0 => ?_)
  · have h := h.1 hq
    refine tn_tblIn (off := 44) (tgt := 48) (pc := 4) hΓ d_X4_takes_4 (by rw [hq] <;> decide) (by rw [hq] <;> decide) (by rw [hq] <;> rfl) (by decide) ?_
    refine tn_aload_n (pc := 48) hΓ d_X4_takes_48 rfl ?_
    refine tn_iload_n (pc := 49) hΓ d_X4_takes_49 rfl ?_
    refine tn_bipush (pc := 50) hΓ d_X4_takes_50 bp_116 ?_
    refine tn_icmp_ne (tgt := 59) (pc := 52) hΓ d_X4_takes_52 (by decide) (fun hq => ?_) (fun hq => ?_)
    · have h := h.1 hq
      refine tn_iconst (pc := 59) hΓ d_X4_takes_59 ic_0 ?_
      refine tn_iconst (pc := 60) hΓ d_X4_takes_60 ic_1 ?_
      refine tn_cvI (As := [.int (0 : Int32), .int (1 : Int32)]) (st := []) (pc := 61) hΓ d_X4_takes_61 mv_X4_goesOn im_X4_goesOn se_X4_goesOn ml_4_30 ⟨⟨by decide, by decide⟩, by decide, by decide⟩ rfl rfl rfl (by decide) ⟨_, rfl⟩ hk (Nat.le_of_ble_eq_true rfl) rfl h (fun r1 σ1 h => ?_)
      exact tn_ret_z (pc := 64) hΓ hK d_X4_takes_64 rfl (by decide) (by decide) h.1 h.2
    · have h := h.2 hq
      refine tn_iconst (pc := 55) hΓ d_X4_takes_55 ic_1 ?_
      refine tn_goto (tgt := 60) (pc := 56) hΓ d_X4_takes_56 (by decide) ?_
      refine tn_iconst (pc := 60) hΓ d_X4_takes_60 ic_1 ?_
      refine tn_cvI (As := [.int (1 : Int32), .int (1 : Int32)]) (st := []) (pc := 61) hΓ d_X4_takes_61 mv_X4_goesOn im_X4_goesOn se_X4_goesOn ml_4_30 ⟨⟨by decide, by decide⟩, by decide, by decide⟩ rfl rfl rfl (by decide) ⟨_, rfl⟩ hk (Nat.le_of_ble_eq_true rfl) rfl h (fun r2 σ2 h => ?_)
      exact tn_ret_z (pc := 64) hΓ hK d_X4_takes_64 rfl (by decide) (by decide) h.1 h.2
  have h := h.2 hq0
  refine tn_byc ((σ t 1) = (1 : Int32)) (fun hq => ?_) (fun hq1 => ?_)
  · have h := h.1 hq
    refine tn_tblIn (off := 61) (tgt := 65) (pc := 4) hΓ d_X4_takes_4 (by rw [hq] <;> decide) (by rw [hq] <;> decide) (by rw [hq] <;> rfl) (by decide) ?_
    refine tn_aload_n (pc := 65) hΓ d_X4_takes_65 rfl ?_
    refine tn_getRy (y := 15) (pc := 66) hΓ d_X4_takes_66 fl_4_21 rfl hk hr ?_
    refine tn_iload_n (pc := 69) hΓ d_X4_takes_69 rfl ?_
    refine tn_bipush (pc := 70) hΓ d_X4_takes_70 bp_48 ?_
    refine tn_isub (pc := 72) hΓ d_X4_takes_72 ?_
    refine tn_putI (pc := 73) hΓ d_X4_takes_73 fl_4_34 fk_4_1_4 rfl (gp_k hG pb15)  ?_
    refine tn_tops (fun σ3 eσ3 => ?_)
    have h := h σ3 eσ3
    refine tn_aload_n (pc := 76) hΓ d_X4_takes_76 rfl ?_
    refine tn_iload_n (pc := 77) hΓ d_X4_takes_77 rfl ?_
    refine tn_bipush (pc := 78) hΓ d_X4_takes_78 bp_49 ?_
    refine tn_bipush (pc := 80) hΓ d_X4_takes_80 bp_52 ?_
    refine tn_csI (As := [.int a0, .int (49 : Int32), .int (52 : Int32)]) (st := [.ref t]) (pc := 82) hΓ d_X4_takes_82 mv_X5_isWithin st_X5_isWithin ml_4_37 ⟨⟨by decide, by decide⟩, by decide, by decide⟩ rfl rfl rfl (Nat.le_of_ble_eq_true rfl) rfl h (fun r3 σ4 h => ?_)
    refine tn_iconst (pc := 85) hΓ d_X4_takes_85 ic_2 ?_
    refine tn_cvI (As := [.int r3, .int (2 : Int32)]) (st := []) (pc := 86) hΓ d_X4_takes_86 mv_X4_goesOn im_X4_goesOn se_X4_goesOn ml_4_30 ⟨⟨by decide, by decide⟩, by decide, by decide⟩ rfl rfl rfl (by decide) ⟨_, rfl⟩ hk (Nat.le_of_ble_eq_true rfl) rfl h (fun r4 σ5 h => ?_)
    exact tn_ret_z (pc := 89) hΓ hK d_X4_takes_89 rfl (by decide) (by decide) h.1 h.2
  have h := h.2 hq1
  refine tn_byc ((σ t 1) = (2 : Int32)) (fun hq => ?_) (fun hq2 => ?_)
  · have h := h.1 hq
    refine tn_tblIn (off := 86) (tgt := 90) (pc := 4) hΓ d_X4_takes_4 (by rw [hq] <;> decide) (by rw [hq] <;> decide) (by rw [hq] <;> rfl) (by decide) ?_
    refine tn_aload_n (pc := 90) hΓ d_X4_takes_90 rfl ?_
    refine tn_iload_n (pc := 91) hΓ d_X4_takes_91 rfl ?_
    refine tn_bipush (pc := 92) hΓ d_X4_takes_92 bp_59 ?_
    refine tn_icmp_ne (tgt := 101) (pc := 94) hΓ d_X4_takes_94 (by decide) (fun hq => ?_) (fun hq => ?_)
    · have h := h.1 hq
      refine tn_iconst (pc := 101) hΓ d_X4_takes_101 ic_0 ?_
      refine tn_iconst (pc := 102) hΓ d_X4_takes_102 ic_3 ?_
      refine tn_cvI (As := [.int (0 : Int32), .int (3 : Int32)]) (st := []) (pc := 103) hΓ d_X4_takes_103 mv_X4_goesOn im_X4_goesOn se_X4_goesOn ml_4_30 ⟨⟨by decide, by decide⟩, by decide, by decide⟩ rfl rfl rfl (by decide) ⟨_, rfl⟩ hk (Nat.le_of_ble_eq_true rfl) rfl h (fun r5 σ6 h => ?_)
      exact tn_ret_z (pc := 106) hΓ hK d_X4_takes_106 rfl (by decide) (by decide) h.1 h.2
    · have h := h.2 hq
      refine tn_iconst (pc := 97) hΓ d_X4_takes_97 ic_1 ?_
      refine tn_goto (tgt := 102) (pc := 98) hΓ d_X4_takes_98 (by decide) ?_
      refine tn_iconst (pc := 102) hΓ d_X4_takes_102 ic_3 ?_
      refine tn_cvI (As := [.int (1 : Int32), .int (3 : Int32)]) (st := []) (pc := 103) hΓ d_X4_takes_103 mv_X4_goesOn im_X4_goesOn se_X4_goesOn ml_4_30 ⟨⟨by decide, by decide⟩, by decide, by decide⟩ rfl rfl rfl (by decide) ⟨_, rfl⟩ hk (Nat.le_of_ble_eq_true rfl) rfl h (fun r6 σ7 h => ?_)
      exact tn_ret_z (pc := 106) hΓ hK d_X4_takes_106 rfl (by decide) (by decide) h.1 h.2
  have h := h.2 hq2
  refine tn_byc ((σ t 1) = (3 : Int32)) (fun hq => ?_) (fun hq3 => ?_)
  · have h := h.1 hq
    refine tn_tblIn (off := 103) (tgt := 107) (pc := 4) hΓ d_X4_takes_4 (by rw [hq] <;> decide) (by rw [hq] <;> decide) (by rw [hq] <;> rfl) (by decide) ?_
    refine tn_aload_n (pc := 107) hΓ d_X4_takes_107 rfl ?_
    refine tn_iload_n (pc := 108) hΓ d_X4_takes_108 rfl ?_
    refine tn_csI (As := [.int a0]) (st := [.ref t]) (pc := 109) hΓ d_X4_takes_109 mv_X4_kindOfLetter st_X4_kindOfLetter ml_4_41 ⟨⟨by decide, by decide⟩, by decide, by decide⟩ rfl rfl rfl (Nat.le_of_ble_eq_true rfl) rfl h (fun r7 σ8 h => ?_)
    refine tn_putI (pc := 112) hΓ d_X4_takes_112 fl_4_15 fk_4_4_2 rfl hk  ?_
    refine tn_tops (fun σ9 eσ9 => ?_)
    have h := h σ9 eσ9
    refine tn_aload_n (pc := 115) hΓ d_X4_takes_115 rfl ?_
    refine tn_aload_n (pc := 116) hΓ d_X4_takes_116 rfl ?_
    refine tn_getI (pc := 117) hΓ d_X4_takes_117 fl_4_15 rfl hk ?_
    refine tn_bipush (pc := 120) hΓ d_X4_takes_120 bp_m9 ?_
    refine tn_icmp_eq (tgt := 129) (pc := 122) hΓ d_X4_takes_122 (by decide) (fun hq => ?_) (fun hq => ?_)
    · have h := h.1 hq
      refine tn_iconst (pc := 129) hΓ d_X4_takes_129 ic_0 ?_
      refine tn_iconst (pc := 130) hΓ d_X4_takes_130 ic_4 ?_
      refine tn_cvI (As := [.int (0 : Int32), .int (4 : Int32)]) (st := []) (pc := 131) hΓ d_X4_takes_131 mv_X4_goesOn im_X4_goesOn se_X4_goesOn ml_4_30 ⟨⟨by decide, by decide⟩, by decide, by decide⟩ rfl rfl rfl (by decide) ⟨_, rfl⟩ hk (Nat.le_of_ble_eq_true rfl) rfl h (fun r8 σ10 h => ?_)
      exact tn_ret_z (pc := 134) hΓ hK d_X4_takes_134 rfl (by decide) (by decide) h.1 h.2
    · have h := h.2 hq
      refine tn_iconst (pc := 125) hΓ d_X4_takes_125 ic_1 ?_
      refine tn_goto (tgt := 130) (pc := 126) hΓ d_X4_takes_126 (by decide) ?_
      refine tn_iconst (pc := 130) hΓ d_X4_takes_130 ic_4 ?_
      refine tn_cvI (As := [.int (1 : Int32), .int (4 : Int32)]) (st := []) (pc := 131) hΓ d_X4_takes_131 mv_X4_goesOn im_X4_goesOn se_X4_goesOn ml_4_30 ⟨⟨by decide, by decide⟩, by decide, by decide⟩ rfl rfl rfl (by decide) ⟨_, rfl⟩ hk (Nat.le_of_ble_eq_true rfl) rfl h (fun r9 σ11 h => ?_)
      exact tn_ret_z (pc := 134) hΓ hK d_X4_takes_134 rfl (by decide) (by decide) h.1 h.2
  have h := h.2 hq3
  refine tn_byc ((σ t 1) = (4 : Int32)) (fun hq => ?_) (fun hq4 => ?_)
  · have h := h.1 hq
    refine tn_tblIn (off := 131) (tgt := 135) (pc := 4) hΓ d_X4_takes_4 (by rw [hq] <;> decide) (by rw [hq] <;> decide) (by rw [hq] <;> rfl) (by decide) ?_
    refine tn_aload_n (pc := 135) hΓ d_X4_takes_135 rfl ?_
    refine tn_iload_n (pc := 136) hΓ d_X4_takes_136 rfl ?_
    refine tn_bipush (pc := 137) hΓ d_X4_takes_137 bp_48 ?_
    refine tn_isub (pc := 139) hΓ d_X4_takes_139 ?_
    refine tn_putI (pc := 140) hΓ d_X4_takes_140 fl_4_18 fk_4_4_3 rfl hk  ?_
    refine tn_tops (fun σ12 eσ12 => ?_)
    have h := h σ12 eσ12
    refine tn_aload_n (pc := 143) hΓ d_X4_takes_143 rfl ?_
    refine tn_iload_n (pc := 144) hΓ d_X4_takes_144 rfl ?_
    refine tn_bipush (pc := 145) hΓ d_X4_takes_145 bp_48 ?_
    refine tn_bipush (pc := 147) hΓ d_X4_takes_147 bp_57 ?_
    refine tn_csI (As := [.int a0, .int (48 : Int32), .int (57 : Int32)]) (st := [.ref t]) (pc := 149) hΓ d_X4_takes_149 mv_X5_isWithin st_X5_isWithin ml_4_37 ⟨⟨by decide, by decide⟩, by decide, by decide⟩ rfl rfl rfl (Nat.le_of_ble_eq_true rfl) rfl h (fun r10 σ13 h => ?_)
    refine tn_iconst (pc := 152) hΓ d_X4_takes_152 ic_5 ?_
    refine tn_cvI (As := [.int r10, .int (5 : Int32)]) (st := []) (pc := 153) hΓ d_X4_takes_153 mv_X4_goesOn im_X4_goesOn se_X4_goesOn ml_4_30 ⟨⟨by decide, by decide⟩, by decide, by decide⟩ rfl rfl rfl (by decide) ⟨_, rfl⟩ hk (Nat.le_of_ble_eq_true rfl) rfl h (fun r11 σ14 h => ?_)
    exact tn_ret_z (pc := 156) hΓ hK d_X4_takes_156 rfl (by decide) (by decide) h.1 h.2
  have h := h.2 hq4
  refine tn_byc ((σ t 1) = (5 : Int32)) (fun hq => ?_) (fun hq5 => ?_)
  · have h := h.1 hq
    refine tn_tblIn (off := 153) (tgt := 157) (pc := 4) hΓ d_X4_takes_4 (by rw [hq] <;> decide) (by rw [hq] <;> decide) (by rw [hq] <;> rfl) (by decide) ?_
    refine tn_aload_n (pc := 157) hΓ d_X4_takes_157 rfl ?_
    refine tn_iload_n (pc := 158) hΓ d_X4_takes_158 rfl ?_
    refine tn_cvI (As := [.int a0]) (st := []) (pc := 159) hΓ d_X4_takes_159 mv_X4_takesSleep im_X4_takesSleep se_X4_takesSleep ml_4_45 ⟨⟨by decide, by decide⟩, by decide, by decide⟩ rfl rfl rfl (by decide) ⟨_, rfl⟩ hk (Nat.le_of_ble_eq_true rfl) rfl h (fun r12 σ15 h => ?_)
    exact tn_ret_z (pc := 162) hΓ hK d_X4_takes_162 rfl (by decide) (by decide) h.1 h.2
  have h := h.2 hq5
  refine tn_byc ((σ t 1) = (6 : Int32)) (fun hq => ?_) (fun hq6 => ?_)
  · have h := h.1 hq
    refine tn_tblIn (off := 159) (tgt := 163) (pc := 4) hΓ d_X4_takes_4 (by rw [hq] <;> decide) (by rw [hq] <;> decide) (by rw [hq] <;> rfl) (by decide) ?_
    refine tn_aload_n (pc := 163) hΓ d_X4_takes_163 rfl ?_
    refine tn_iload_n (pc := 164) hΓ d_X4_takes_164 rfl ?_
    refine tn_cvI (As := [.int a0]) (st := []) (pc := 165) hΓ d_X4_takes_165 mv_X4_takesAfterHouse im_X4_takesAfterHouse se_X4_takesAfterHouse ml_4_49 ⟨⟨by decide, by decide⟩, by decide, by decide⟩ rfl rfl rfl (by decide) ⟨_, rfl⟩ hk (Nat.le_of_ble_eq_true rfl) rfl h (fun r13 σ16 h => ?_)
    exact tn_ret_z (pc := 168) hΓ hK d_X4_takes_168 rfl (by decide) (by decide) h.1 h.2
  have h := h.2 hq6
  refine tn_tblOut (tgt := 169) (pc := 4) hΓ d_X4_takes_4 (tn_out_0_6 hq0 hq1 hq2 hq3 hq4 hq5 hq6) (by decide) ?_
  refine tn_aload_n (pc := 169) hΓ d_X4_takes_169 rfl ?_
  refine tn_iload_n (pc := 170) hΓ d_X4_takes_170 rfl ?_
  refine tn_cvI (As := [.int a0]) (st := []) (pc := 171) hΓ d_X4_takes_171 mv_X4_takesStone im_X4_takesStone se_X4_takesStone ml_4_52 ⟨⟨by decide, by decide⟩, by decide, by decide⟩ rfl rfl rfl (by decide) ⟨_, rfl⟩ hk (Nat.le_of_ble_eq_true rfl) rfl h (fun r14 σ17 h => ?_)
  exact tn_ret_z (pc := 174) hΓ hK d_X4_takes_174 rfl (by decide) (by decide) h.1 h.2
theorem k_X4_goesOn_0 {Γ : tn_G} {ks : List (Nat × Nat)} {ρ : Nat → Nat → Nat} {σ : Nat → Nat → Int32} {K : Option Value → List (Nat × Nat) → (Nat → Nat → Nat) → (Nat → Nat → Int32) → Prop} (hG : tn_Gd ks ρ) (hΓ : tn_is Γ m_X4_goesOn) (hK : tn_rt Γ m_X4_goesOn K) (t : Nat) (a0 : Int32) (a1 : Int32) (hk : tn_kd ks t = some (4, 0)) (hr : ρ t 0 = 15) (h : ((a0 = 0 → (∀ σ1, σ1 = tn_u σ t 1 (σ t 1) → ((a0 = 0 ∨ a0 = 1) ∧ K (some (.int a0)) ks ρ σ1))) ∧ (¬ a0 = 0 → (∀ σ2, σ2 = tn_u σ t 1 a1 → ((a0 = 0 ∨ a0 = 1) ∧ K (some (.int a0)) ks ρ σ2))))) : tn_A Γ 0 [.ref t, .int a0, .int a1] [] 0 0 ks ρ σ := by
  refine tn_aload_n (pc := 0) hΓ d_X4_goesOn_0 rfl ?_
  refine tn_iload_n (pc := 1) hΓ d_X4_goesOn_1 rfl ?_
  refine tn_if_eq (tgt := 9) (pc := 2) hΓ d_X4_goesOn_2 (by decide) (fun hq => ?_) (fun hq => ?_)
  · have h := h.1 hq
    refine tn_aload_n (pc := 9) hΓ d_X4_goesOn_9 rfl ?_
    refine tn_getI (pc := 10) hΓ d_X4_goesOn_10 fl_4_11 rfl hk ?_
    refine tn_putI (pc := 13) hΓ d_X4_goesOn_13 fl_4_11 fk_4_4_1 rfl hk  ?_
    refine tn_tops (fun σ1 eσ1 => ?_)
    have h := h σ1 eσ1
    refine tn_iload_n (pc := 16) hΓ d_X4_goesOn_16 rfl ?_
    exact tn_ret_z (pc := 17) hΓ hK d_X4_goesOn_17 rfl (by decide) (by decide) h.1 h.2
  · have h := h.2 hq
    refine tn_iload_n (pc := 5) hΓ d_X4_goesOn_5 rfl ?_
    refine tn_goto (tgt := 13) (pc := 6) hΓ d_X4_goesOn_6 (by decide) ?_
    refine tn_putI (pc := 13) hΓ d_X4_goesOn_13 fl_4_11 fk_4_4_1 rfl hk  ?_
    refine tn_tops (fun σ2 eσ2 => ?_)
    have h := h σ2 eσ2
    refine tn_iload_n (pc := 16) hΓ d_X4_goesOn_16 rfl ?_
    exact tn_ret_z (pc := 17) hΓ hK d_X4_goesOn_17 rfl (by decide) (by decide) h.1 h.2
theorem k_X4_kindOfLetter_0 {Γ : tn_G} {ks : List (Nat × Nat)} {ρ : Nat → Nat → Nat} {σ : Nat → Nat → Int32} {K : Option Value → List (Nat × Nat) → (Nat → Nat → Nat) → (Nat → Nat → Int32) → Prop} (hG : tn_Gd ks ρ) (hΓ : tn_is Γ m_X4_kindOfLetter) (hK : tn_rt Γ m_X4_kindOfLetter K) (a0 : Int32) (h : ((a0 = (98 : Int32) → K (some (.int (1 : Int32))) ks ρ σ) ∧ (¬ a0 = (98 : Int32) → ((a0 = (100 : Int32) → K (some (.int (2 : Int32))) ks ρ σ) ∧ (¬ a0 = (100 : Int32) → ((a0 = (112 : Int32) → K (some (.int (0 : Int32))) ks ρ σ) ∧ (¬ a0 = (112 : Int32) → K (some (.int (-9 : Int32))) ks ρ σ))))))) : tn_A Γ 0 [.int a0] [] 0 0 ks ρ σ := by
  refine tn_iload_n (pc := 0) hΓ d_X4_kindOfLetter_0 rfl ?_
  refine tn_byc (a0 = (98 : Int32)) (fun hq => ?_) (fun hq0 => ?_)
  · have h := h.1 hq
    refine tn_lookup (off := 37) (tgt := 38) (pc := 1) hΓ d_X4_kindOfLetter_1 (by decide) (by rw [hq] <;> rfl) (by decide) ?_
    refine tn_iconst (pc := 38) hΓ d_X4_kindOfLetter_38 ic_1 ?_
    exact tn_ret_i (pc := 39) hΓ hK d_X4_kindOfLetter_39 rfl (by decide) (by decide) h
  have h := h.2 hq0
  refine tn_byc (a0 = (100 : Int32)) (fun hq => ?_) (fun hq1 => ?_)
  · have h := h.1 hq
    refine tn_lookup (off := 39) (tgt := 40) (pc := 1) hΓ d_X4_kindOfLetter_1 (by decide) (by rw [hq] <;> rfl) (by decide) ?_
    refine tn_iconst (pc := 40) hΓ d_X4_kindOfLetter_40 ic_2 ?_
    exact tn_ret_i (pc := 41) hΓ hK d_X4_kindOfLetter_41 rfl (by decide) (by decide) h
  have h := h.2 hq1
  refine tn_byc (a0 = (112 : Int32)) (fun hq => ?_) (fun hq2 => ?_)
  · have h := h.1 hq
    refine tn_lookup (off := 35) (tgt := 36) (pc := 1) hΓ d_X4_kindOfLetter_1 (by decide) (by rw [hq] <;> rfl) (by decide) ?_
    refine tn_iconst (pc := 36) hΓ d_X4_kindOfLetter_36 ic_0 ?_
    exact tn_ret_i (pc := 37) hΓ hK d_X4_kindOfLetter_37 rfl (by decide) (by decide) h
  have h := h.2 hq2
  refine tn_lookup (off := 41) (tgt := 42) (pc := 1) hΓ d_X4_kindOfLetter_1 (by decide) (by rw [lv_osw hq0 (by decide), lv_osw hq1 (by decide), lv_osw hq2 (by decide)] <;> rfl) (by decide) ?_
  refine tn_bipush (pc := 42) hΓ d_X4_kindOfLetter_42 bp_m9 ?_
  exact tn_ret_i (pc := 44) hΓ hK d_X4_kindOfLetter_44 rfl (by decide) (by decide) h
theorem k_X4_takesSleep_0 {Γ : tn_G} {ks : List (Nat × Nat)} {ρ : Nat → Nat → Nat} {σ : Nat → Nat → Int32} {K : Option Value → List (Nat × Nat) → (Nat → Nat → Nat) → (Nat → Nat → Int32) → Prop} (hG : tn_Gd ks ρ) (hΓ : tn_is Γ m_X4_takesSleep) (hK : tn_rt Γ m_X4_takesSleep K) (t : Nat) (a0 : Int32) (hk : tn_kd ks t = some (4, 0)) (hr : ρ t 0 = 15) (h : tn_CI m_X5_isWithin [.int a0, .int (48 : Int32), .int (57 : Int32)] ks ρ σ (fun r1 σ1 => ((¬ r1 = 0 → tn_CV m_X1_addHouse [.ref 15, .int (σ1 t 2), .int (σ1 t 3), .int (a0 - (48 : Int32))] ks ρ σ1 (fun σ2 => tn_CI m_X4_goesOn [.ref t, .int (1 : Int32), .int (6 : Int32)] ks ρ σ2 (fun r2 σ3 => ((r2 = 0 ∨ r2 = 1) ∧ K (some (.int r2)) ks ρ σ3)))) ∧ (r1 = 0 → K (some (.int (0 : Int32))) ks ρ σ1)))) : tn_A Γ 0 [.ref t, .int a0] [] 0 0 ks ρ σ := by
  refine tn_iload_n (pc := 0) hΓ d_X4_takesSleep_0 rfl ?_
  refine tn_bipush (pc := 1) hΓ d_X4_takesSleep_1 bp_48 ?_
  refine tn_bipush (pc := 3) hΓ d_X4_takesSleep_3 bp_57 ?_
  refine tn_csI (As := [.int a0, .int (48 : Int32), .int (57 : Int32)]) (st := []) (pc := 5) hΓ d_X4_takesSleep_5 mv_X5_isWithin st_X5_isWithin ml_4_37 ⟨⟨by decide, by decide⟩, by decide, by decide⟩ rfl rfl rfl (Nat.le_of_ble_eq_true rfl) rfl h (fun r1 σ1 h => ?_)
  refine tn_if_ne (tgt := 13) (pc := 8) hΓ d_X4_takesSleep_8 (by decide) (fun hq => ?_) (fun hq => ?_)
  · have h := h.1 hq
    refine tn_aload_n (pc := 13) hΓ d_X4_takesSleep_13 rfl ?_
    refine tn_getRy (y := 15) (pc := 14) hΓ d_X4_takesSleep_14 fl_4_21 rfl hk hr ?_
    refine tn_aload_n (pc := 17) hΓ d_X4_takesSleep_17 rfl ?_
    refine tn_getI (pc := 18) hΓ d_X4_takesSleep_18 fl_4_15 rfl hk ?_
    refine tn_aload_n (pc := 21) hΓ d_X4_takesSleep_21 rfl ?_
    refine tn_getI (pc := 22) hΓ d_X4_takesSleep_22 fl_4_18 rfl hk ?_
    refine tn_iload_n (pc := 25) hΓ d_X4_takesSleep_25 rfl ?_
    refine tn_bipush (pc := 26) hΓ d_X4_takesSleep_26 bp_48 ?_
    refine tn_isub (pc := 28) hΓ d_X4_takesSleep_28 ?_
    refine tn_cvV (As := [.int (σ1 t 2), .int (σ1 t 3), .int (a0 - (48 : Int32))]) (st := []) (pc := 29) hΓ d_X4_takesSleep_29 mv_X1_addHouse im_X1_addHouse se_X1_addHouse ml_4_55 ⟨⟨by decide, by decide⟩, by decide, by decide⟩ rfl rfl rfl (by decide) ⟨_, rfl⟩ (gp_k hG pb15) (Nat.le_of_ble_eq_true rfl) rfl h (fun σ2 h => ?_)
    refine tn_aload_n (pc := 32) hΓ d_X4_takesSleep_32 rfl ?_
    refine tn_iconst (pc := 33) hΓ d_X4_takesSleep_33 ic_1 ?_
    refine tn_bipush (pc := 34) hΓ d_X4_takesSleep_34 bp_6 ?_
    refine tn_cvI (As := [.int (1 : Int32), .int (6 : Int32)]) (st := []) (pc := 36) hΓ d_X4_takesSleep_36 mv_X4_goesOn im_X4_goesOn se_X4_goesOn ml_4_30 ⟨⟨by decide, by decide⟩, by decide, by decide⟩ rfl rfl rfl (by decide) ⟨_, rfl⟩ hk (Nat.le_of_ble_eq_true rfl) rfl h (fun r2 σ3 h => ?_)
    exact tn_ret_z (pc := 39) hΓ hK d_X4_takesSleep_39 rfl (by decide) (by decide) h.1 h.2
  · have h := h.2 hq
    refine tn_iconst (pc := 11) hΓ d_X4_takesSleep_11 ic_0 ?_
    exact tn_ret_z (pc := 12) hΓ hK d_X4_takesSleep_12 rfl (by decide) (by decide) (Or.inl rfl) h
theorem k_X4_takesAfterHouse_0 {Γ : tn_G} {ks : List (Nat × Nat)} {ρ : Nat → Nat → Nat} {σ : Nat → Nat → Int32} {K : Option Value → List (Nat × Nat) → (Nat → Nat → Nat) → (Nat → Nat → Int32) → Prop} (hG : tn_Gd ks ρ) (hΓ : tn_is Γ m_X4_takesAfterHouse) (hK : tn_rt Γ m_X4_takesAfterHouse K) (t : Nat) (a0 : Int32) (hk : tn_kd ks t = some (4, 0)) (hr : ρ t 0 = 15) (h : ((¬ a0 = (33 : Int32) → ((¬ a0 = (59 : Int32) → tn_CI m_X4_goesOn [.ref t, .int (0 : Int32), .int (3 : Int32)] ks ρ σ (fun r1 σ1 => ((r1 = 0 ∨ r1 = 1) ∧ K (some (.int r1)) ks ρ σ1))) ∧ (a0 = (59 : Int32) → (((5 : Int32) ≤ (σ 15 2) → tn_CI m_X4_goesOn [.ref t, .int (0 : Int32), .int (3 : Int32)] ks ρ σ (fun r2 σ2 => ((r2 = 0 ∨ r2 = 1) ∧ K (some (.int r2)) ks ρ σ2))) ∧ (¬ (5 : Int32) ≤ (σ 15 2) → tn_CI m_X4_goesOn [.ref t, .int (1 : Int32), .int (3 : Int32)] ks ρ σ (fun r3 σ3 => ((r3 = 0 ∨ r3 = 1) ∧ K (some (.int r3)) ks ρ σ3))))))) ∧ (a0 = (33 : Int32) → tn_CI m_X4_goesOn [.ref t, .int (1 : Int32), .int (7 : Int32)] ks ρ σ (fun r4 σ4 => ((r4 = 0 ∨ r4 = 1) ∧ K (some (.int r4)) ks ρ σ4))))) : tn_A Γ 0 [.ref t, .int a0] [] 0 0 ks ρ σ := by
  refine tn_iload_n (pc := 0) hΓ d_X4_takesAfterHouse_0 rfl ?_
  refine tn_bipush (pc := 1) hΓ d_X4_takesAfterHouse_1 bp_33 ?_
  refine tn_icmp_ne (tgt := 14) (pc := 3) hΓ d_X4_takesAfterHouse_3 (by decide) (fun hq => ?_) (fun hq => ?_)
  · have h := h.1 hq
    refine tn_aload_n (pc := 14) hΓ d_X4_takesAfterHouse_14 rfl ?_
    refine tn_iload_n (pc := 15) hΓ d_X4_takesAfterHouse_15 rfl ?_
    refine tn_bipush (pc := 16) hΓ d_X4_takesAfterHouse_16 bp_59 ?_
    refine tn_icmp_ne (tgt := 36) (pc := 18) hΓ d_X4_takesAfterHouse_18 (by decide) (fun hq => ?_) (fun hq => ?_)
    · have h := h.1 hq
      refine tn_iconst (pc := 36) hΓ d_X4_takesAfterHouse_36 ic_0 ?_
      refine tn_iconst (pc := 37) hΓ d_X4_takesAfterHouse_37 ic_3 ?_
      refine tn_cvI (As := [.int (0 : Int32), .int (3 : Int32)]) (st := []) (pc := 38) hΓ d_X4_takesAfterHouse_38 mv_X4_goesOn im_X4_goesOn se_X4_goesOn ml_4_30 ⟨⟨by decide, by decide⟩, by decide, by decide⟩ rfl rfl rfl (by decide) ⟨_, rfl⟩ hk (Nat.le_of_ble_eq_true rfl) rfl h (fun r1 σ1 h => ?_)
      exact tn_ret_z (pc := 41) hΓ hK d_X4_takesAfterHouse_41 rfl (by decide) (by decide) h.1 h.2
    · have h := h.2 hq
      refine tn_aload_n (pc := 21) hΓ d_X4_takesAfterHouse_21 rfl ?_
      refine tn_getRy (y := 15) (pc := 22) hΓ d_X4_takesAfterHouse_22 fl_4_21 rfl hk hr ?_
      refine tn_getI (pc := 25) hΓ d_X4_takesAfterHouse_25 fl_4_59 rfl (gp_k hG pb15) ?_
      refine tn_iconst (pc := 28) hΓ d_X4_takesAfterHouse_28 ic_5 ?_
      refine tn_icmp_ge (tgt := 36) (pc := 29) hΓ d_X4_takesAfterHouse_29 (by decide) (fun hq => ?_) (fun hq => ?_)
      · have h := h.1 hq
        refine tn_iconst (pc := 36) hΓ d_X4_takesAfterHouse_36 ic_0 ?_
        refine tn_iconst (pc := 37) hΓ d_X4_takesAfterHouse_37 ic_3 ?_
        refine tn_cvI (As := [.int (0 : Int32), .int (3 : Int32)]) (st := []) (pc := 38) hΓ d_X4_takesAfterHouse_38 mv_X4_goesOn im_X4_goesOn se_X4_goesOn ml_4_30 ⟨⟨by decide, by decide⟩, by decide, by decide⟩ rfl rfl rfl (by decide) ⟨_, rfl⟩ hk (Nat.le_of_ble_eq_true rfl) rfl h (fun r2 σ2 h => ?_)
        exact tn_ret_z (pc := 41) hΓ hK d_X4_takesAfterHouse_41 rfl (by decide) (by decide) h.1 h.2
      · have h := h.2 hq
        refine tn_iconst (pc := 32) hΓ d_X4_takesAfterHouse_32 ic_1 ?_
        refine tn_goto (tgt := 37) (pc := 33) hΓ d_X4_takesAfterHouse_33 (by decide) ?_
        refine tn_iconst (pc := 37) hΓ d_X4_takesAfterHouse_37 ic_3 ?_
        refine tn_cvI (As := [.int (1 : Int32), .int (3 : Int32)]) (st := []) (pc := 38) hΓ d_X4_takesAfterHouse_38 mv_X4_goesOn im_X4_goesOn se_X4_goesOn ml_4_30 ⟨⟨by decide, by decide⟩, by decide, by decide⟩ rfl rfl rfl (by decide) ⟨_, rfl⟩ hk (Nat.le_of_ble_eq_true rfl) rfl h (fun r3 σ3 h => ?_)
        exact tn_ret_z (pc := 41) hΓ hK d_X4_takesAfterHouse_41 rfl (by decide) (by decide) h.1 h.2
  · have h := h.2 hq
    refine tn_aload_n (pc := 6) hΓ d_X4_takesAfterHouse_6 rfl ?_
    refine tn_iconst (pc := 7) hΓ d_X4_takesAfterHouse_7 ic_1 ?_
    refine tn_bipush (pc := 8) hΓ d_X4_takesAfterHouse_8 bp_7 ?_
    refine tn_cvI (As := [.int (1 : Int32), .int (7 : Int32)]) (st := []) (pc := 10) hΓ d_X4_takesAfterHouse_10 mv_X4_goesOn im_X4_goesOn se_X4_goesOn ml_4_30 ⟨⟨by decide, by decide⟩, by decide, by decide⟩ rfl rfl rfl (by decide) ⟨_, rfl⟩ hk (Nat.le_of_ble_eq_true rfl) rfl h (fun r4 σ4 h => ?_)
    exact tn_ret_z (pc := 13) hΓ hK d_X4_takesAfterHouse_13 rfl (by decide) (by decide) h.1 h.2
theorem k_X4_takesStone_0 {Γ : tn_G} {ks : List (Nat × Nat)} {ρ : Nat → Nat → Nat} {σ : Nat → Nat → Int32} {K : Option Value → List (Nat × Nat) → (Nat → Nat → Nat) → (Nat → Nat → Int32) → Prop} (hG : tn_Gd ks ρ) (hΓ : tn_is Γ m_X4_takesStone) (hK : tn_rt Γ m_X4_takesStone K) (t : Nat) (a0 : Int32) (hk : tn_kd ks t = some (4, 0)) (hr : ρ t 0 = 15) (h : tn_CI m_X5_isWithin [.int a0, .int (49 : Int32), .int (57 : Int32)] ks ρ σ (fun r1 σ1 => ((r1 = 0 → K (some (.int (0 : Int32))) ks ρ σ1) ∧ (¬ r1 = 0 → (((σ1 15 3) < (4 : Int32) → tn_CV m_X1_addStone [.ref 15, .int (a0 - (48 : Int32))] ks ρ σ1 (fun σ2 => tn_CI m_X4_goesOn [.ref t, .int (1 : Int32), .int (8 : Int32)] ks ρ σ2 (fun r2 σ3 => ((r2 = 0 ∨ r2 = 1) ∧ K (some (.int r2)) ks ρ σ3)))) ∧ (¬ (σ1 15 3) < (4 : Int32) → K (some (.int (0 : Int32))) ks ρ σ1)))))) : tn_A Γ 0 [.ref t, .int a0] [] 0 0 ks ρ σ := by
  refine tn_iload_n (pc := 0) hΓ d_X4_takesStone_0 rfl ?_
  refine tn_bipush (pc := 1) hΓ d_X4_takesStone_1 bp_49 ?_
  refine tn_bipush (pc := 3) hΓ d_X4_takesStone_3 bp_57 ?_
  refine tn_csI (As := [.int a0, .int (49 : Int32), .int (57 : Int32)]) (st := []) (pc := 5) hΓ d_X4_takesStone_5 mv_X5_isWithin st_X5_isWithin ml_4_37 ⟨⟨by decide, by decide⟩, by decide, by decide⟩ rfl rfl rfl (Nat.le_of_ble_eq_true rfl) rfl h (fun r1 σ1 h => ?_)
  refine tn_if_eq (tgt := 22) (pc := 8) hΓ d_X4_takesStone_8 (by decide) (fun hq => ?_) (fun hq => ?_)
  · have h := h.1 hq
    refine tn_iconst (pc := 22) hΓ d_X4_takesStone_22 ic_0 ?_
    exact tn_ret_z (pc := 23) hΓ hK d_X4_takesStone_23 rfl (by decide) (by decide) (Or.inl rfl) h
  · have h := h.2 hq
    refine tn_aload_n (pc := 11) hΓ d_X4_takesStone_11 rfl ?_
    refine tn_getRy (y := 15) (pc := 12) hΓ d_X4_takesStone_12 fl_4_21 rfl hk hr ?_
    refine tn_getI (pc := 15) hΓ d_X4_takesStone_15 fl_4_62 rfl (gp_k hG pb15) ?_
    refine tn_iconst (pc := 18) hΓ d_X4_takesStone_18 ic_4 ?_
    refine tn_icmp_lt (tgt := 24) (pc := 19) hΓ d_X4_takesStone_19 (by decide) (fun hq => ?_) (fun hq => ?_)
    · have h := h.1 hq
      refine tn_aload_n (pc := 24) hΓ d_X4_takesStone_24 rfl ?_
      refine tn_getRy (y := 15) (pc := 25) hΓ d_X4_takesStone_25 fl_4_21 rfl hk hr ?_
      refine tn_iload_n (pc := 28) hΓ d_X4_takesStone_28 rfl ?_
      refine tn_bipush (pc := 29) hΓ d_X4_takesStone_29 bp_48 ?_
      refine tn_isub (pc := 31) hΓ d_X4_takesStone_31 ?_
      refine tn_cvV (As := [.int (a0 - (48 : Int32))]) (st := []) (pc := 32) hΓ d_X4_takesStone_32 mv_X1_addStone im_X1_addStone se_X1_addStone ml_4_65 ⟨⟨by decide, by decide⟩, by decide, by decide⟩ rfl rfl rfl (by decide) ⟨_, rfl⟩ (gp_k hG pb15) (Nat.le_of_ble_eq_true rfl) rfl h (fun σ2 h => ?_)
      refine tn_aload_n (pc := 35) hΓ d_X4_takesStone_35 rfl ?_
      refine tn_iconst (pc := 36) hΓ d_X4_takesStone_36 ic_1 ?_
      refine tn_bipush (pc := 37) hΓ d_X4_takesStone_37 bp_8 ?_
      refine tn_cvI (As := [.int (1 : Int32), .int (8 : Int32)]) (st := []) (pc := 39) hΓ d_X4_takesStone_39 mv_X4_goesOn im_X4_goesOn se_X4_goesOn ml_4_30 ⟨⟨by decide, by decide⟩, by decide, by decide⟩ rfl rfl rfl (by decide) ⟨_, rfl⟩ hk (Nat.le_of_ble_eq_true rfl) rfl h (fun r2 σ3 h => ?_)
      exact tn_ret_z (pc := 42) hΓ hK d_X4_takesStone_42 rfl (by decide) (by decide) h.1 h.2
    · have h := h.2 hq
      refine tn_iconst (pc := 22) hΓ d_X4_takesStone_22 ic_0 ?_
      exact tn_ret_z (pc := 23) hΓ hK d_X4_takesStone_23 rfl (by decide) (by decide) (Or.inl rfl) h
theorem k_J_bitCount_0 {Γ : tn_G} {ks : List (Nat × Nat)} {ρ : Nat → Nat → Nat} {σ : Nat → Nat → Int32} {K : Option Value → List (Nat × Nat) → (Nat → Nat → Nat) → (Nat → Nat → Int32) → Prop} (hG : tn_Gd ks ρ) (hΓ : tn_is Γ m_J_bitCount) (hK : tn_rt Γ m_J_bitCount K) (a0 : Int32) (h : (∀ x1 : Int32, x1 = (a0 - (((a0.toUInt32 >>> ((1 : Int32).toUInt32 &&& Int32.toUInt32 31)).toInt32) &&& (1431655765 : Int32))) → (∀ x2 : Int32, x2 = ((x1 &&& (858993459 : Int32)) + (((x1.toUInt32 >>> ((2 : Int32).toUInt32 &&& Int32.toUInt32 31)).toInt32) &&& (858993459 : Int32))) → (∀ x3 : Int32, x3 = ((x2 + ((x2.toUInt32 >>> ((4 : Int32).toUInt32 &&& Int32.toUInt32 31)).toInt32)) &&& (252645135 : Int32)) → (∀ x4 : Int32, x4 = (x3 + ((x3.toUInt32 >>> ((8 : Int32).toUInt32 &&& Int32.toUInt32 31)).toInt32)) → (∀ x5 : Int32, x5 = (x4 + ((x4.toUInt32 >>> ((16 : Int32).toUInt32 &&& Int32.toUInt32 31)).toInt32)) → K (some (.int (x5 &&& (63 : Int32)))) ks ρ σ)))))) : tn_A Γ 0 [.int a0] [] 0 0 ks ρ σ := by
  refine tn_iload_n (pc := 0) hΓ d_J_bitCount_0 rfl ?_
  refine tn_iload_n (pc := 1) hΓ d_J_bitCount_1 rfl ?_
  refine tn_iconst (pc := 2) hΓ d_J_bitCount_2 ic_1 ?_
  refine tn_iushr (pc := 3) hΓ d_J_bitCount_3 ?_
  refine tn_ldcw (pc := 4) hΓ kc_8_265 d_J_bitCount_4 ?_
  refine tn_iand (pc := 7) hΓ d_J_bitCount_7 ?_
  refine tn_isub (pc := 8) hΓ d_J_bitCount_8 ?_
  refine tn_topi (fun x1 ex1 => ?_)
  have h := h x1 ex1
  refine tn_istore_n (loc' := [.int x1]) (pc := 9) hΓ d_J_bitCount_9 (by decide) rfl rfl ?_
  refine tn_iload_n (pc := 10) hΓ d_J_bitCount_10 rfl ?_
  refine tn_ldcw (pc := 11) hΓ kc_8_266 d_J_bitCount_11 ?_
  refine tn_iand (pc := 14) hΓ d_J_bitCount_14 ?_
  refine tn_iload_n (pc := 15) hΓ d_J_bitCount_15 rfl ?_
  refine tn_iconst (pc := 16) hΓ d_J_bitCount_16 ic_2 ?_
  refine tn_iushr (pc := 17) hΓ d_J_bitCount_17 ?_
  refine tn_ldcw (pc := 18) hΓ kc_8_266 d_J_bitCount_18 ?_
  refine tn_iand (pc := 21) hΓ d_J_bitCount_21 ?_
  refine tn_iadd (pc := 22) hΓ d_J_bitCount_22 ?_
  refine tn_topi (fun x2 ex2 => ?_)
  have h := h x2 ex2
  refine tn_istore_n (loc' := [.int x2]) (pc := 23) hΓ d_J_bitCount_23 (by decide) rfl rfl ?_
  refine tn_iload_n (pc := 24) hΓ d_J_bitCount_24 rfl ?_
  refine tn_iload_n (pc := 25) hΓ d_J_bitCount_25 rfl ?_
  refine tn_iconst (pc := 26) hΓ d_J_bitCount_26 ic_4 ?_
  refine tn_iushr (pc := 27) hΓ d_J_bitCount_27 ?_
  refine tn_iadd (pc := 28) hΓ d_J_bitCount_28 ?_
  refine tn_ldcw (pc := 29) hΓ kc_8_267 d_J_bitCount_29 ?_
  refine tn_iand (pc := 32) hΓ d_J_bitCount_32 ?_
  refine tn_topi (fun x3 ex3 => ?_)
  have h := h x3 ex3
  refine tn_istore_n (loc' := [.int x3]) (pc := 33) hΓ d_J_bitCount_33 (by decide) rfl rfl ?_
  refine tn_iload_n (pc := 34) hΓ d_J_bitCount_34 rfl ?_
  refine tn_iload_n (pc := 35) hΓ d_J_bitCount_35 rfl ?_
  refine tn_bipush (pc := 36) hΓ d_J_bitCount_36 bp_8 ?_
  refine tn_iushr (pc := 38) hΓ d_J_bitCount_38 ?_
  refine tn_iadd (pc := 39) hΓ d_J_bitCount_39 ?_
  refine tn_topi (fun x4 ex4 => ?_)
  have h := h x4 ex4
  refine tn_istore_n (loc' := [.int x4]) (pc := 40) hΓ d_J_bitCount_40 (by decide) rfl rfl ?_
  refine tn_iload_n (pc := 41) hΓ d_J_bitCount_41 rfl ?_
  refine tn_iload_n (pc := 42) hΓ d_J_bitCount_42 rfl ?_
  refine tn_bipush (pc := 43) hΓ d_J_bitCount_43 bp_16 ?_
  refine tn_iushr (pc := 45) hΓ d_J_bitCount_45 ?_
  refine tn_iadd (pc := 46) hΓ d_J_bitCount_46 ?_
  refine tn_topi (fun x5 ex5 => ?_)
  have h := h x5 ex5
  refine tn_istore_n (loc' := [.int x5]) (pc := 47) hΓ d_J_bitCount_47 (by decide) rfl rfl ?_
  refine tn_iload_n (pc := 48) hΓ d_J_bitCount_48 rfl ?_
  refine tn_bipush (pc := 49) hΓ d_J_bitCount_49 bp_63 ?_
  refine tn_iand (pc := 51) hΓ d_J_bitCount_51 ?_
  exact tn_ret_i (pc := 52) hΓ hK d_J_bitCount_52 rfl (by decide) (by decide) h
