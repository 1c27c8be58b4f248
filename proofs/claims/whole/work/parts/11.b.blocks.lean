-- X1_hasHouse X1_hasStone X1_empty X1_addHouse X1_addStone X1_become X1_voice X1_hatsLost X1_ranklingSet X1_setCount X1_doesSetRankle X1_weightOfSet X1_ownUpAll X1_passNight X1_passNights X1_loseSleep X1_layHeaviestStone X1_nightsUntilQuiet X1_acts X1_ownsAsAct X1_sleepsAsAct X1_isLaidAsAct
theorem k_X1_hasHouse_0 {Γ : tn_G} {ks : List (Nat × Nat)} {ρ : Nat → Nat → Nat} {σ : Nat → Nat → Int32} {K : Option Value → List (Nat × Nat) → (Nat → Nat → Nat) → (Nat → Nat → Int32) → Prop} (hG : tn_Gd ks ρ) (hΓ : tn_is Γ m_X1_hasHouse) (hK : tn_rt Γ m_X1_hasHouse K) (b : Nat) (a0 : Int32) (hb : tn_Pb b) (h : ((a0 < 0 → K (some (.int (0 : Int32))) ks ρ σ) ∧ (¬ a0 < 0 → (((σ b 2) ≤ a0 → K (some (.int (0 : Int32))) ks ρ σ) ∧ (¬ (σ b 2) ≤ a0 → K (some (.int (1 : Int32))) ks ρ σ))))) : tn_A Γ 0 [.ref b, .int a0] [] 0 0 ks ρ σ := by
  refine tn_iload_n (pc := 0) hΓ d_X1_hasHouse_0 rfl ?_
  refine tn_if_lt (tgt := 16) (pc := 1) hΓ d_X1_hasHouse_1 (by decide) (fun hq => ?_) (fun hq => ?_)
  · have h := h.1 hq
    refine tn_iconst (pc := 16) hΓ d_X1_hasHouse_16 ic_0 ?_
    exact tn_ret_z (pc := 17) hΓ hK d_X1_hasHouse_17 rfl (by decide) (by decide) (Or.inl rfl) h
  · have h := h.2 hq
    refine tn_iload_n (pc := 4) hΓ d_X1_hasHouse_4 rfl ?_
    refine tn_aload_n (pc := 5) hΓ d_X1_hasHouse_5 rfl ?_
    refine tn_getI (pc := 6) hΓ d_X1_hasHouse_6 fl_1_23 rfl (gp_k hG hb) ?_
    refine tn_icmp_ge (tgt := 16) (pc := 9) hΓ d_X1_hasHouse_9 (by decide) (fun hq => ?_) (fun hq => ?_)
    · have h := h.1 hq
      refine tn_iconst (pc := 16) hΓ d_X1_hasHouse_16 ic_0 ?_
      exact tn_ret_z (pc := 17) hΓ hK d_X1_hasHouse_17 rfl (by decide) (by decide) (Or.inl rfl) h
    · have h := h.2 hq
      refine tn_iconst (pc := 12) hΓ d_X1_hasHouse_12 ic_1 ?_
      refine tn_goto (tgt := 17) (pc := 13) hΓ d_X1_hasHouse_13 (by decide) ?_
      exact tn_ret_z (pc := 17) hΓ hK d_X1_hasHouse_17 rfl (by decide) (by decide) (Or.inr rfl) h
theorem k_X1_hasStone_0 {Γ : tn_G} {ks : List (Nat × Nat)} {ρ : Nat → Nat → Nat} {σ : Nat → Nat → Int32} {K : Option Value → List (Nat × Nat) → (Nat → Nat → Nat) → (Nat → Nat → Int32) → Prop} (hG : tn_Gd ks ρ) (hΓ : tn_is Γ m_X1_hasStone) (hK : tn_rt Γ m_X1_hasStone K) (b : Nat) (a0 : Int32) (hb : tn_Pb b) (h : ((a0 < 0 → K (some (.int (0 : Int32))) ks ρ σ) ∧ (¬ a0 < 0 → (((σ b 3) ≤ a0 → K (some (.int (0 : Int32))) ks ρ σ) ∧ (¬ (σ b 3) ≤ a0 → K (some (.int (1 : Int32))) ks ρ σ))))) : tn_A Γ 0 [.ref b, .int a0] [] 0 0 ks ρ σ := by
  refine tn_iload_n (pc := 0) hΓ d_X1_hasStone_0 rfl ?_
  refine tn_if_lt (tgt := 16) (pc := 1) hΓ d_X1_hasStone_1 (by decide) (fun hq => ?_) (fun hq => ?_)
  · have h := h.1 hq
    refine tn_iconst (pc := 16) hΓ d_X1_hasStone_16 ic_0 ?_
    exact tn_ret_z (pc := 17) hΓ hK d_X1_hasStone_17 rfl (by decide) (by decide) (Or.inl rfl) h
  · have h := h.2 hq
    refine tn_iload_n (pc := 4) hΓ d_X1_hasStone_4 rfl ?_
    refine tn_aload_n (pc := 5) hΓ d_X1_hasStone_5 rfl ?_
    refine tn_getI (pc := 6) hΓ d_X1_hasStone_6 fl_1_27 rfl (gp_k hG hb) ?_
    refine tn_icmp_ge (tgt := 16) (pc := 9) hΓ d_X1_hasStone_9 (by decide) (fun hq => ?_) (fun hq => ?_)
    · have h := h.1 hq
      refine tn_iconst (pc := 16) hΓ d_X1_hasStone_16 ic_0 ?_
      exact tn_ret_z (pc := 17) hΓ hK d_X1_hasStone_17 rfl (by decide) (by decide) (Or.inl rfl) h
    · have h := h.2 hq
      refine tn_iconst (pc := 12) hΓ d_X1_hasStone_12 ic_1 ?_
      refine tn_goto (tgt := 17) (pc := 13) hΓ d_X1_hasStone_13 (by decide) ?_
      exact tn_ret_z (pc := 17) hΓ hK d_X1_hasStone_17 rfl (by decide) (by decide) (Or.inr rfl) h
theorem k_X1_empty_0 {Γ : tn_G} {ks : List (Nat × Nat)} {ρ : Nat → Nat → Nat} {σ : Nat → Nat → Int32} {K : Option Value → List (Nat × Nat) → (Nat → Nat → Nat) → (Nat → Nat → Int32) → Prop} (hG : tn_Gd ks ρ) (hΓ : tn_is Γ m_X1_empty) (hK : tn_rt Γ m_X1_empty K) (b : Nat) (hb : tn_Pb b) (h : (∀ σ1, σ1 = tn_u σ b 2 (0 : Int32) → (∀ σ2, σ2 = tn_u σ1 b 3 (0 : Int32) → (∀ σ3, σ3 = tn_u σ2 b 4 (0 : Int32) → (∀ σ4, σ4 = tn_u σ3 b 5 (0 : Int32) → K none ks ρ σ4))))) : tn_A Γ 0 [.ref b] [] 0 0 ks ρ σ := by
  refine tn_aload_n (pc := 0) hΓ d_X1_empty_0 rfl ?_
  refine tn_iconst (pc := 1) hΓ d_X1_empty_1 ic_0 ?_
  refine tn_putI (pc := 2) hΓ d_X1_empty_2 fl_1_23 fk_1_1_2 rfl (gp_k hG hb)  ?_
  refine tn_tops (fun σ1 eσ1 => ?_)
  have h := h σ1 eσ1
  refine tn_aload_n (pc := 5) hΓ d_X1_empty_5 rfl ?_
  refine tn_iconst (pc := 6) hΓ d_X1_empty_6 ic_0 ?_
  refine tn_putI (pc := 7) hΓ d_X1_empty_7 fl_1_27 fk_1_1_3 rfl (gp_k hG hb)  ?_
  refine tn_tops (fun σ2 eσ2 => ?_)
  have h := h σ2 eσ2
  refine tn_aload_n (pc := 10) hΓ d_X1_empty_10 rfl ?_
  refine tn_iconst (pc := 11) hΓ d_X1_empty_11 ic_0 ?_
  refine tn_putI (pc := 12) hΓ d_X1_empty_12 fl_1_30 fk_1_1_4 rfl (gp_k hG hb)  ?_
  refine tn_tops (fun σ3 eσ3 => ?_)
  have h := h σ3 eσ3
  refine tn_aload_n (pc := 15) hΓ d_X1_empty_15 rfl ?_
  refine tn_iconst (pc := 16) hΓ d_X1_empty_16 ic_0 ?_
  refine tn_putI (pc := 17) hΓ d_X1_empty_17 fl_1_33 fk_1_1_5 rfl (gp_k hG hb)  ?_
  refine tn_tops (fun σ4 eσ4 => ?_)
  have h := h σ4 eσ4
  exact tn_ret_v (pc := 20) hΓ hK d_X1_empty_20 rfl (by decide) (by decide) h
theorem k_X1_addHouse_0 {Γ : tn_G} {ks : List (Nat × Nat)} {ρ : Nat → Nat → Nat} {σ : Nat → Nat → Int32} {K : Option Value → List (Nat × Nat) → (Nat → Nat → Nat) → (Nat → Nat → Int32) → Prop} (hG : tn_Gd ks ρ) (hΓ : tn_is Γ m_X1_addHouse) (hK : tn_rt Γ m_X1_addHouse K) (b : Nat) (a0 : Int32) (a1 : Int32) (a2 : Int32) (hb : tn_Pb b) (h : (((σ b 2) < (5 : Int32) → (vp_in (σ b 2) 5 ∧ (∀ σ1, σ1 = tn_u σ (b + 3 + (σ b 2).toNatClampNeg) 0 a0 → (∀ σ2, σ2 = tn_u σ1 (b + 3 + (σ b 2).toNatClampNeg) 1 a1 → (∀ σ3, σ3 = tn_u σ2 (b + 3 + (σ b 2).toNatClampNeg) 2 a2 → (∀ σ4, σ4 = tn_u σ3 (b + 3 + (σ b 2).toNatClampNeg) 3 (0 : Int32) → (∀ σ5, σ5 = tn_u σ4 (b + 3 + (σ b 2).toNatClampNeg) 4 (0 : Int32) → (∀ σ6, σ6 = tn_u σ5 b 2 ((σ5 b 2) + (1 : Int32)) → K none ks ρ σ6)))))))) ∧ (¬ (σ b 2) < (5 : Int32) → K none ks ρ σ))) : tn_A Γ 0 [.ref b, .int a0, .int a1, .int a2, .null] [] 0 0 ks ρ σ := by
  refine tn_aload_n (pc := 0) hΓ d_X1_addHouse_0 rfl ?_
  refine tn_getI (pc := 1) hΓ d_X1_addHouse_1 fl_1_23 rfl (gp_k hG hb) ?_
  refine tn_iconst (pc := 4) hΓ d_X1_addHouse_4 ic_5 ?_
  refine tn_icmp_lt (tgt := 9) (pc := 5) hΓ d_X1_addHouse_5 (by decide) (fun hq => ?_) (fun hq => ?_)
  · have h := h.1 hq
    refine tn_aload_n (pc := 9) hΓ d_X1_addHouse_9 rfl ?_
    refine tn_getRy (y := b + 1) (pc := 10) hΓ d_X1_addHouse_10 fl_1_13 rfl (gp_k hG hb) (gp_h hG hb) ?_
    refine tn_aload_n (pc := 13) hΓ d_X1_addHouse_13 rfl ?_
    refine tn_getI (pc := 14) hΓ d_X1_addHouse_14 fl_1_23 rfl (gp_k hG hb) ?_
    obtain ⟨hi1, h⟩ := h
    refine tn_aaldy (t := 0) (y := b + 3 + (σ b 2).toNatClampNeg) (pc := 17) hΓ d_X1_addHouse_17 (by decide) (gp_kh hG hb) hi1 (gp_H hG hb hi1) ?_
    refine tn_astore (loc' := [.ref b, .int a0, .int a1, .int a2, .ref (b + 3 + (σ b 2).toNatClampNeg)]) (pc := 18) hΓ d_X1_addHouse_18 (by decide) rfl rfl ?_
    refine tn_aload (pc := 20) hΓ d_X1_addHouse_20 rfl ?_
    refine tn_iload_n (pc := 22) hΓ d_X1_addHouse_22 rfl ?_
    refine tn_putI (pc := 23) hΓ d_X1_addHouse_23 fl_1_38 fk_1_0_0 rfl (gp_kH hG hb (tn_inN hi1))  ?_
    refine tn_tops (fun σ1 eσ1 => ?_)
    have h := h σ1 eσ1
    refine tn_aload (pc := 26) hΓ d_X1_addHouse_26 rfl ?_
    refine tn_iload_n (pc := 28) hΓ d_X1_addHouse_28 rfl ?_
    refine tn_putI (pc := 29) hΓ d_X1_addHouse_29 fl_1_41 fk_1_0_1 rfl (gp_kH hG hb (tn_inN hi1))  ?_
    refine tn_tops (fun σ2 eσ2 => ?_)
    have h := h σ2 eσ2
    refine tn_aload (pc := 32) hΓ d_X1_addHouse_32 rfl ?_
    refine tn_iload_n (pc := 34) hΓ d_X1_addHouse_34 rfl ?_
    refine tn_putI (pc := 35) hΓ d_X1_addHouse_35 fl_1_44 fk_1_0_2 rfl (gp_kH hG hb (tn_inN hi1))  ?_
    refine tn_tops (fun σ3 eσ3 => ?_)
    have h := h σ3 eσ3
    refine tn_aload (pc := 38) hΓ d_X1_addHouse_38 rfl ?_
    refine tn_iconst (pc := 40) hΓ d_X1_addHouse_40 ic_0 ?_
    refine tn_putI (pc := 41) hΓ d_X1_addHouse_41 fl_1_47 fk_1_0_3 rfl (gp_kH hG hb (tn_inN hi1))  ?_
    refine tn_tops (fun σ4 eσ4 => ?_)
    have h := h σ4 eσ4
    refine tn_aload (pc := 44) hΓ d_X1_addHouse_44 rfl ?_
    refine tn_iconst (pc := 46) hΓ d_X1_addHouse_46 ic_0 ?_
    refine tn_putZ (pc := 47) hΓ d_X1_addHouse_47 fl_1_50 fk_1_0_4 rfl (gp_kH hG hb (tn_inN hi1)) (Or.inl rfl) ?_
    refine tn_tops (fun σ5 eσ5 => ?_)
    have h := h σ5 eσ5
    refine tn_aload_n (pc := 50) hΓ d_X1_addHouse_50 rfl ?_
    refine tn_dupr (pc := 51) hΓ d_X1_addHouse_51 ?_
    refine tn_getI (pc := 52) hΓ d_X1_addHouse_52 fl_1_23 rfl (gp_k hG hb) ?_
    refine tn_iconst (pc := 55) hΓ d_X1_addHouse_55 ic_1 ?_
    refine tn_iadd (pc := 56) hΓ d_X1_addHouse_56 ?_
    refine tn_putI (pc := 57) hΓ d_X1_addHouse_57 fl_1_23 fk_1_1_2 rfl (gp_k hG hb)  ?_
    refine tn_tops (fun σ6 eσ6 => ?_)
    have h := h σ6 eσ6
    exact tn_ret_v (pc := 60) hΓ hK d_X1_addHouse_60 rfl (by decide) (by decide) h
  · have h := h.2 hq
    exact tn_ret_v (pc := 8) hΓ hK d_X1_addHouse_8 rfl (by decide) (by decide) h
theorem k_X1_addStone_0 {Γ : tn_G} {ks : List (Nat × Nat)} {ρ : Nat → Nat → Nat} {σ : Nat → Nat → Int32} {K : Option Value → List (Nat × Nat) → (Nat → Nat → Nat) → (Nat → Nat → Int32) → Prop} (hG : tn_Gd ks ρ) (hΓ : tn_is Γ m_X1_addStone) (hK : tn_rt Γ m_X1_addStone K) (b : Nat) (a0 : Int32) (hb : tn_Pb b) (h : (((σ b 3) < (4 : Int32) → (vp_in (σ b 3) 4 ∧ (∀ σ1, σ1 = tn_u σ (b + 8 + (σ b 3).toNatClampNeg) 0 a0 → (vp_in (σ1 b 3) 4 ∧ (∀ σ2, σ2 = tn_u σ1 (b + 8 + (σ1 b 3).toNatClampNeg) 1 (0 : Int32) → (∀ σ3, σ3 = tn_u σ2 b 3 ((σ2 b 3) + (1 : Int32)) → K none ks ρ σ3)))))) ∧ (¬ (σ b 3) < (4 : Int32) → K none ks ρ σ))) : tn_A Γ 0 [.ref b, .int a0] [] 0 0 ks ρ σ := by
  refine tn_aload_n (pc := 0) hΓ d_X1_addStone_0 rfl ?_
  refine tn_getI (pc := 1) hΓ d_X1_addStone_1 fl_1_27 rfl (gp_k hG hb) ?_
  refine tn_iconst (pc := 4) hΓ d_X1_addStone_4 ic_4 ?_
  refine tn_icmp_lt (tgt := 9) (pc := 5) hΓ d_X1_addStone_5 (by decide) (fun hq => ?_) (fun hq => ?_)
  · have h := h.1 hq
    refine tn_aload_n (pc := 9) hΓ d_X1_addStone_9 rfl ?_
    refine tn_getRy (y := b + 2) (pc := 10) hΓ d_X1_addStone_10 fl_1_19 rfl (gp_k hG hb) (gp_s hG hb) ?_
    refine tn_aload_n (pc := 13) hΓ d_X1_addStone_13 rfl ?_
    refine tn_getI (pc := 14) hΓ d_X1_addStone_14 fl_1_27 rfl (gp_k hG hb) ?_
    obtain ⟨hi1, h⟩ := h
    refine tn_aaldy (t := 1) (y := b + 8 + (σ b 3).toNatClampNeg) (pc := 17) hΓ d_X1_addStone_17 (by decide) (gp_ks hG hb) hi1 (gp_S hG hb hi1) ?_
    refine tn_iload_n (pc := 18) hΓ d_X1_addStone_18 rfl ?_
    refine tn_putI (pc := 19) hΓ d_X1_addStone_19 fl_1_54 fk_1_3_0 rfl (gp_kS hG hb (tn_inN hi1))  ?_
    refine tn_tops (fun σ1 eσ1 => ?_)
    have h := h σ1 eσ1
    refine tn_aload_n (pc := 22) hΓ d_X1_addStone_22 rfl ?_
    refine tn_getRy (y := b + 2) (pc := 23) hΓ d_X1_addStone_23 fl_1_19 rfl (gp_k hG hb) (gp_s hG hb) ?_
    refine tn_aload_n (pc := 26) hΓ d_X1_addStone_26 rfl ?_
    refine tn_getI (pc := 27) hΓ d_X1_addStone_27 fl_1_27 rfl (gp_k hG hb) ?_
    obtain ⟨hi2, h⟩ := h
    refine tn_aaldy (t := 1) (y := b + 8 + (σ1 b 3).toNatClampNeg) (pc := 30) hΓ d_X1_addStone_30 (by decide) (gp_ks hG hb) hi2 (gp_S hG hb hi2) ?_
    refine tn_iconst (pc := 31) hΓ d_X1_addStone_31 ic_0 ?_
    refine tn_putZ (pc := 32) hΓ d_X1_addStone_32 fl_1_57 fk_1_3_1 rfl (gp_kS hG hb (tn_inN hi2)) (Or.inl rfl) ?_
    refine tn_tops (fun σ2 eσ2 => ?_)
    have h := h σ2 eσ2
    refine tn_aload_n (pc := 35) hΓ d_X1_addStone_35 rfl ?_
    refine tn_dupr (pc := 36) hΓ d_X1_addStone_36 ?_
    refine tn_getI (pc := 37) hΓ d_X1_addStone_37 fl_1_27 rfl (gp_k hG hb) ?_
    refine tn_iconst (pc := 40) hΓ d_X1_addStone_40 ic_1 ?_
    refine tn_iadd (pc := 41) hΓ d_X1_addStone_41 ?_
    refine tn_putI (pc := 42) hΓ d_X1_addStone_42 fl_1_27 fk_1_1_3 rfl (gp_k hG hb)  ?_
    refine tn_tops (fun σ3 eσ3 => ?_)
    have h := h σ3 eσ3
    exact tn_ret_v (pc := 45) hΓ hK d_X1_addStone_45 rfl (by decide) (by decide) h
  · have h := h.2 hq
    exact tn_ret_v (pc := 8) hΓ hK d_X1_addStone_8 rfl (by decide) (by decide) h
theorem k_X1_become_0 {Γ : tn_G} {ks : List (Nat × Nat)} {ρ : Nat → Nat → Nat} {σ : Nat → Nat → Int32} {K : Option Value → List (Nat × Nat) → (Nat → Nat → Nat) → (Nat → Nat → Int32) → Prop} (hG : tn_Gd ks ρ) (hΓ : tn_is Γ m_X1_become) (hK : tn_rt Γ m_X1_become K) (b : Nat) (b1 : Nat) (hb : tn_Pb b) (hb1 : tn_Pb b1) (h : (∀ σ1, σ1 = tn_u σ b 2 (σ b1 2) → (∀ σ2, σ2 = tn_u σ1 b 3 (σ1 b1 3) → (∀ σ3, σ3 = tn_u σ2 b 4 (σ2 b1 4) → (∀ σ4, σ4 = tn_u σ3 b 5 (σ3 b1 5) → tn_A Γ 34 [.ref b, .ref b1, .int (0 : Int32)] [] 0 0 ks ρ σ4))))) : tn_A Γ 0 [.ref b, .ref b1, .null] [] 0 0 ks ρ σ := by
  refine tn_aload_n (pc := 0) hΓ d_X1_become_0 rfl ?_
  refine tn_aload_n (pc := 1) hΓ d_X1_become_1 rfl ?_
  refine tn_getI (pc := 2) hΓ d_X1_become_2 fl_1_23 rfl (gp_k hG hb1) ?_
  refine tn_putI (pc := 5) hΓ d_X1_become_5 fl_1_23 fk_1_1_2 rfl (gp_k hG hb)  ?_
  refine tn_tops (fun σ1 eσ1 => ?_)
  have h := h σ1 eσ1
  refine tn_aload_n (pc := 8) hΓ d_X1_become_8 rfl ?_
  refine tn_aload_n (pc := 9) hΓ d_X1_become_9 rfl ?_
  refine tn_getI (pc := 10) hΓ d_X1_become_10 fl_1_27 rfl (gp_k hG hb1) ?_
  refine tn_putI (pc := 13) hΓ d_X1_become_13 fl_1_27 fk_1_1_3 rfl (gp_k hG hb)  ?_
  refine tn_tops (fun σ2 eσ2 => ?_)
  have h := h σ2 eσ2
  refine tn_aload_n (pc := 16) hΓ d_X1_become_16 rfl ?_
  refine tn_aload_n (pc := 17) hΓ d_X1_become_17 rfl ?_
  refine tn_getI (pc := 18) hΓ d_X1_become_18 fl_1_30 rfl (gp_k hG hb1) ?_
  refine tn_putI (pc := 21) hΓ d_X1_become_21 fl_1_30 fk_1_1_4 rfl (gp_k hG hb)  ?_
  refine tn_tops (fun σ3 eσ3 => ?_)
  have h := h σ3 eσ3
  refine tn_aload_n (pc := 24) hΓ d_X1_become_24 rfl ?_
  refine tn_aload_n (pc := 25) hΓ d_X1_become_25 rfl ?_
  refine tn_getI (pc := 26) hΓ d_X1_become_26 fl_1_33 rfl (gp_k hG hb1) ?_
  refine tn_putI (pc := 29) hΓ d_X1_become_29 fl_1_33 fk_1_1_5 rfl (gp_k hG hb)  ?_
  refine tn_tops (fun σ4 eσ4 => ?_)
  have h := h σ4 eσ4
  refine tn_iconst (pc := 32) hΓ d_X1_become_32 ic_0 ?_
  refine tn_istore_n (loc' := [.ref b, .ref b1, .int (0 : Int32)]) (pc := 33) hΓ d_X1_become_33 (by decide) rfl rfl ?_
  exact h
theorem k_X1_become_34 {Γ : tn_G} {ks : List (Nat × Nat)} {ρ : Nat → Nat → Nat} {σ : Nat → Nat → Int32} {K : Option Value → List (Nat × Nat) → (Nat → Nat → Nat) → (Nat → Nat → Int32) → Prop} (hG : tn_Gd ks ρ) (hΓ : tn_is Γ m_X1_become) (hK : tn_rt Γ m_X1_become K) (b : Nat) (b1 : Nat) (hb : tn_Pb b) (hb1 : tn_Pb b1) (y2 : Int32) (h : (((σ b 2) ≤ y2 → tn_A Γ 65 [.ref b, .ref b1, .int (0 : Int32)] [] 0 0 ks ρ σ) ∧ (¬ (σ b 2) ≤ y2 → (vp_in y2 5 ∧ tn_CV m_X0_become [.ref (b + 3 + y2.toNatClampNeg), .ref (b1 + 3 + y2.toNatClampNeg)] ks ρ σ (fun σ1 => (∀ x1 : Int32, x1 = y2 + (1 : Int32) → tn_A Γ 34 [.ref b, .ref b1, .int x1] [] 0 0 ks ρ σ1)))))) : tn_A Γ 34 [.ref b, .ref b1, .int y2] [] 0 0 ks ρ σ := by
  refine tn_iload_n (pc := 34) hΓ d_X1_become_34 rfl ?_
  refine tn_aload_n (pc := 35) hΓ d_X1_become_35 rfl ?_
  refine tn_getI (pc := 36) hΓ d_X1_become_36 fl_1_23 rfl (gp_k hG hb) ?_
  refine tn_icmp_ge (tgt := 63) (pc := 39) hΓ d_X1_become_39 (by decide) (fun hq => ?_) (fun hq => ?_)
  · have h := h.1 hq
    refine tn_iconst (pc := 63) hΓ d_X1_become_63 ic_0 ?_
    refine tn_istore_n (loc' := [.ref b, .ref b1, .int (0 : Int32)]) (pc := 64) hΓ d_X1_become_64 (by decide) rfl rfl ?_
    exact h
  · have h := h.2 hq
    refine tn_aload_n (pc := 42) hΓ d_X1_become_42 rfl ?_
    refine tn_getRy (y := b + 1) (pc := 43) hΓ d_X1_become_43 fl_1_13 rfl (gp_k hG hb) (gp_h hG hb) ?_
    refine tn_iload_n (pc := 46) hΓ d_X1_become_46 rfl ?_
    obtain ⟨hi1, h⟩ := h
    refine tn_aaldy (t := 0) (y := b + 3 + y2.toNatClampNeg) (pc := 47) hΓ d_X1_become_47 (by decide) (gp_kh hG hb) hi1 (gp_H hG hb hi1) ?_
    refine tn_aload_n (pc := 48) hΓ d_X1_become_48 rfl ?_
    refine tn_getRy (y := b1 + 1) (pc := 49) hΓ d_X1_become_49 fl_1_13 rfl (gp_k hG hb1) (gp_h hG hb1) ?_
    refine tn_iload_n (pc := 52) hΓ d_X1_become_52 rfl ?_
    refine tn_aaldy (t := 0) (y := b1 + 3 + y2.toNatClampNeg) (pc := 53) hΓ d_X1_become_53 (by decide) (gp_kh hG hb1) hi1 (gp_H hG hb1 hi1) ?_
    refine tn_cvV (As := [.ref (b1 + 3 + y2.toNatClampNeg)]) (st := []) (pc := 54) hΓ d_X1_become_54 mv_X0_become im_X0_become se_X0_become ml_1_60 ⟨⟨by decide, by decide⟩, by decide, by decide⟩ rfl rfl rfl (by decide) ⟨_, rfl⟩ (gp_kH hG hb (tn_inN hi1)) (Nat.le_of_ble_eq_true rfl) rfl h (fun σ1 h => ?_)
    refine tn_iincw (loc' := fun v_ => [.ref b, .ref b1, .int v_]) (pc := 57) hΓ d_X1_become_57 rfl ic_1 (by decide) rfl (fun _ => rfl) (fun x1 ex1 => ?_)
    have h := h x1 ex1
    refine tn_goto (tgt := 34) (pc := 60) hΓ d_X1_become_60 (by decide) ?_
    exact h
theorem k_X1_become_65 {Γ : tn_G} {ks : List (Nat × Nat)} {ρ : Nat → Nat → Nat} {σ : Nat → Nat → Int32} {K : Option Value → List (Nat × Nat) → (Nat → Nat → Nat) → (Nat → Nat → Int32) → Prop} (hG : tn_Gd ks ρ) (hΓ : tn_is Γ m_X1_become) (hK : tn_rt Γ m_X1_become K) (b : Nat) (b1 : Nat) (hb : tn_Pb b) (hb1 : tn_Pb b1) (y2 : Int32) (h : (((σ b 3) ≤ y2 → K none ks ρ σ) ∧ (¬ (σ b 3) ≤ y2 → (vp_in y2 4 ∧ tn_CV m_X3_become [.ref (b + 8 + y2.toNatClampNeg), .ref (b1 + 8 + y2.toNatClampNeg)] ks ρ σ (fun σ1 => (∀ x1 : Int32, x1 = y2 + (1 : Int32) → tn_A Γ 65 [.ref b, .ref b1, .int x1] [] 0 0 ks ρ σ1)))))) : tn_A Γ 65 [.ref b, .ref b1, .int y2] [] 0 0 ks ρ σ := by
  refine tn_iload_n (pc := 65) hΓ d_X1_become_65 rfl ?_
  refine tn_aload_n (pc := 66) hΓ d_X1_become_66 rfl ?_
  refine tn_getI (pc := 67) hΓ d_X1_become_67 fl_1_27 rfl (gp_k hG hb) ?_
  refine tn_icmp_ge (tgt := 94) (pc := 70) hΓ d_X1_become_70 (by decide) (fun hq => ?_) (fun hq => ?_)
  · have h := h.1 hq
    exact tn_ret_v (pc := 94) hΓ hK d_X1_become_94 rfl (by decide) (by decide) h
  · have h := h.2 hq
    refine tn_aload_n (pc := 73) hΓ d_X1_become_73 rfl ?_
    refine tn_getRy (y := b + 2) (pc := 74) hΓ d_X1_become_74 fl_1_19 rfl (gp_k hG hb) (gp_s hG hb) ?_
    refine tn_iload_n (pc := 77) hΓ d_X1_become_77 rfl ?_
    obtain ⟨hi1, h⟩ := h
    refine tn_aaldy (t := 1) (y := b + 8 + y2.toNatClampNeg) (pc := 78) hΓ d_X1_become_78 (by decide) (gp_ks hG hb) hi1 (gp_S hG hb hi1) ?_
    refine tn_aload_n (pc := 79) hΓ d_X1_become_79 rfl ?_
    refine tn_getRy (y := b1 + 2) (pc := 80) hΓ d_X1_become_80 fl_1_19 rfl (gp_k hG hb1) (gp_s hG hb1) ?_
    refine tn_iload_n (pc := 83) hΓ d_X1_become_83 rfl ?_
    refine tn_aaldy (t := 1) (y := b1 + 8 + y2.toNatClampNeg) (pc := 84) hΓ d_X1_become_84 (by decide) (gp_ks hG hb1) hi1 (gp_S hG hb1 hi1) ?_
    refine tn_cvV (As := [.ref (b1 + 8 + y2.toNatClampNeg)]) (st := []) (pc := 85) hΓ d_X1_become_85 mv_X3_become im_X3_become se_X3_become ml_1_64 ⟨⟨by decide, by decide⟩, by decide, by decide⟩ rfl rfl rfl (by decide) ⟨_, rfl⟩ (gp_kS hG hb (tn_inN hi1)) (Nat.le_of_ble_eq_true rfl) rfl h (fun σ1 h => ?_)
    refine tn_iincw (loc' := fun v_ => [.ref b, .ref b1, .int v_]) (pc := 88) hΓ d_X1_become_88 rfl ic_1 (by decide) rfl (fun _ => rfl) (fun x1 ex1 => ?_)
    have h := h x1 ex1
    refine tn_goto (tgt := 65) (pc := 91) hΓ d_X1_become_91 (by decide) ?_
    exact h
theorem k_X1_voice_0 {Γ : tn_G} {ks : List (Nat × Nat)} {ρ : Nat → Nat → Nat} {σ : Nat → Nat → Int32} {K : Option Value → List (Nat × Nat) → (Nat → Nat → Nat) → (Nat → Nat → Int32) → Prop} (hG : tn_Gd ks ρ) (hΓ : tn_is Γ m_X1_voice) (hK : tn_rt Γ m_X1_voice K) (b : Nat) (hb : tn_Pb b) (h : tn_A Γ 4 [.ref b, .int (0 : Int32), .int (0 : Int32)] [] 0 0 ks ρ σ) : tn_A Γ 0 [.ref b, .null, .null] [] 0 0 ks ρ σ := by
  refine tn_iconst (pc := 0) hΓ d_X1_voice_0 ic_0 ?_
  refine tn_istore_n (loc' := [.ref b, .int (0 : Int32), .null]) (pc := 1) hΓ d_X1_voice_1 (by decide) rfl rfl ?_
  refine tn_iconst (pc := 2) hΓ d_X1_voice_2 ic_0 ?_
  refine tn_istore_n (loc' := [.ref b, .int (0 : Int32), .int (0 : Int32)]) (pc := 3) hΓ d_X1_voice_3 (by decide) rfl rfl ?_
  exact h
theorem k_X1_voice_4 {Γ : tn_G} {ks : List (Nat × Nat)} {ρ : Nat → Nat → Nat} {σ : Nat → Nat → Int32} {K : Option Value → List (Nat × Nat) → (Nat → Nat → Nat) → (Nat → Nat → Int32) → Prop} (hG : tn_Gd ks ρ) (hΓ : tn_is Γ m_X1_voice) (hK : tn_rt Γ m_X1_voice K) (b : Nat) (hb : tn_Pb b) (y1 : Int32) (y2 : Int32) (h : (((σ b 2) ≤ y2 → tn_A Γ 48 [.ref b, .int y1, .int (0 : Int32)] [] 0 0 ks ρ σ) ∧ (¬ (σ b 2) ≤ y2 → (vp_in y2 5 ∧ tn_CI m_X0_rankles [.ref (b + 3 + y2.toNatClampNeg)] ks ρ σ (fun r1 σ1 => ((r1 = 0 → (∀ x1 : Int32, x1 = (y1 + (0 : Int32)) → (∀ x2 : Int32, x2 = y2 + (1 : Int32) → tn_A Γ 4 [.ref b, .int x1, .int x2] [] 0 0 ks ρ σ1))) ∧ (¬ r1 = 0 → tn_CI m_X0_weight [.ref (b + 3 + y2.toNatClampNeg)] ks ρ σ1 (fun r2 σ2 => (∀ x3 : Int32, x3 = (y1 + r2) → (∀ x4 : Int32, x4 = y2 + (1 : Int32) → tn_A Γ 4 [.ref b, .int x3, .int x4] [] 0 0 ks ρ σ2)))))))))) : tn_A Γ 4 [.ref b, .int y1, .int y2] [] 0 0 ks ρ σ := by
  refine tn_iload_n (pc := 4) hΓ d_X1_voice_4 rfl ?_
  refine tn_aload_n (pc := 5) hΓ d_X1_voice_5 rfl ?_
  refine tn_getI (pc := 6) hΓ d_X1_voice_6 fl_1_23 rfl (gp_k hG hb) ?_
  refine tn_icmp_ge (tgt := 46) (pc := 9) hΓ d_X1_voice_9 (by decide) (fun hq => ?_) (fun hq => ?_)
  · have h := h.1 hq
    refine tn_iconst (pc := 46) hΓ d_X1_voice_46 ic_0 ?_
    refine tn_istore_n (loc' := [.ref b, .int y1, .int (0 : Int32)]) (pc := 47) hΓ d_X1_voice_47 (by decide) rfl rfl ?_
    exact h
  · have h := h.2 hq
    refine tn_iload_n (pc := 12) hΓ d_X1_voice_12 rfl ?_
    refine tn_aload_n (pc := 13) hΓ d_X1_voice_13 rfl ?_
    refine tn_getRy (y := b + 1) (pc := 14) hΓ d_X1_voice_14 fl_1_13 rfl (gp_k hG hb) (gp_h hG hb) ?_
    refine tn_iload_n (pc := 17) hΓ d_X1_voice_17 rfl ?_
    obtain ⟨hi1, h⟩ := h
    refine tn_aaldy (t := 0) (y := b + 3 + y2.toNatClampNeg) (pc := 18) hΓ d_X1_voice_18 (by decide) (gp_kh hG hb) hi1 (gp_H hG hb hi1) ?_
    refine tn_cvI (As := []) (st := [.int y1]) (pc := 19) hΓ d_X1_voice_19 mv_X0_rankles im_X0_rankles se_X0_rankles ml_1_67 ⟨⟨by decide, by decide⟩, by decide, by decide⟩ rfl rfl rfl (by decide) ⟨_, rfl⟩ (gp_kH hG hb (tn_inN hi1)) (Nat.le_of_ble_eq_true rfl) rfl h (fun r1 σ1 h => ?_)
    refine tn_if_eq (tgt := 37) (pc := 22) hΓ d_X1_voice_22 (by decide) (fun hq => ?_) (fun hq => ?_)
    · have h := h.1 hq
      refine tn_iconst (pc := 37) hΓ d_X1_voice_37 ic_0 ?_
      refine tn_iadd (pc := 38) hΓ d_X1_voice_38 ?_
      refine tn_topi (fun x1 ex1 => ?_)
      have h := h x1 ex1
      refine tn_istore_n (loc' := [.ref b, .int x1, .int y2]) (pc := 39) hΓ d_X1_voice_39 (by decide) rfl rfl ?_
      refine tn_iincw (loc' := fun v_ => [.ref b, .int x1, .int v_]) (pc := 40) hΓ d_X1_voice_40 rfl ic_1 (by decide) rfl (fun _ => rfl) (fun x2 ex2 => ?_)
      have h := h x2 ex2
      refine tn_goto (tgt := 4) (pc := 43) hΓ d_X1_voice_43 (by decide) ?_
      exact h
    · have h := h.2 hq
      refine tn_aload_n (pc := 25) hΓ d_X1_voice_25 rfl ?_
      refine tn_getRy (y := b + 1) (pc := 26) hΓ d_X1_voice_26 fl_1_13 rfl (gp_k hG hb) (gp_h hG hb) ?_
      refine tn_iload_n (pc := 29) hΓ d_X1_voice_29 rfl ?_
      refine tn_aaldy (t := 0) (y := b + 3 + y2.toNatClampNeg) (pc := 30) hΓ d_X1_voice_30 (by decide) (gp_kh hG hb) hi1 (gp_H hG hb hi1) ?_
      refine tn_cvI (As := []) (st := [.int y1]) (pc := 31) hΓ d_X1_voice_31 mv_X0_weight im_X0_weight se_X0_weight ml_1_71 ⟨⟨by decide, by decide⟩, by decide, by decide⟩ rfl rfl rfl (by decide) ⟨_, rfl⟩ (gp_kH hG hb (tn_inN hi1)) (Nat.le_of_ble_eq_true rfl) rfl h (fun r2 σ2 h => ?_)
      refine tn_goto (tgt := 38) (pc := 34) hΓ d_X1_voice_34 (by decide) ?_
      refine tn_iadd (pc := 38) hΓ d_X1_voice_38 ?_
      refine tn_topi (fun x3 ex3 => ?_)
      have h := h x3 ex3
      refine tn_istore_n (loc' := [.ref b, .int x3, .int y2]) (pc := 39) hΓ d_X1_voice_39 (by decide) rfl rfl ?_
      refine tn_iincw (loc' := fun v_ => [.ref b, .int x3, .int v_]) (pc := 40) hΓ d_X1_voice_40 rfl ic_1 (by decide) rfl (fun _ => rfl) (fun x4 ex4 => ?_)
      have h := h x4 ex4
      refine tn_goto (tgt := 4) (pc := 43) hΓ d_X1_voice_43 (by decide) ?_
      exact h
theorem k_X1_voice_48 {Γ : tn_G} {ks : List (Nat × Nat)} {ρ : Nat → Nat → Nat} {σ : Nat → Nat → Int32} {K : Option Value → List (Nat × Nat) → (Nat → Nat → Nat) → (Nat → Nat → Int32) → Prop} (hG : tn_Gd ks ρ) (hΓ : tn_is Γ m_X1_voice) (hK : tn_rt Γ m_X1_voice K) (b : Nat) (hb : tn_Pb b) (y1 : Int32) (y2 : Int32) (h : (((σ b 3) ≤ y2 → K (some (.int y1)) ks ρ σ) ∧ (¬ (σ b 3) ≤ y2 → (vp_in y2 4 ∧ (((σ (b + 8 + y2.toNatClampNeg) 1) = 0 → (∀ x1 : Int32, x1 = (y1 + (σ (b + 8 + y2.toNatClampNeg) 0)) → (∀ x2 : Int32, x2 = y2 + (1 : Int32) → tn_A Γ 48 [.ref b, .int x1, .int x2] [] 0 0 ks ρ σ))) ∧ (¬ (σ (b + 8 + y2.toNatClampNeg) 1) = 0 → (∀ x3 : Int32, x3 = (y1 + (0 : Int32)) → (∀ x4 : Int32, x4 = y2 + (1 : Int32) → tn_A Γ 48 [.ref b, .int x3, .int x4] [] 0 0 ks ρ σ)))))))) : tn_A Γ 48 [.ref b, .int y1, .int y2] [] 0 0 ks ρ σ := by
  refine tn_iload_n (pc := 48) hΓ d_X1_voice_48 rfl ?_
  refine tn_aload_n (pc := 49) hΓ d_X1_voice_49 rfl ?_
  refine tn_getI (pc := 50) hΓ d_X1_voice_50 fl_1_27 rfl (gp_k hG hb) ?_
  refine tn_icmp_ge (tgt := 90) (pc := 53) hΓ d_X1_voice_53 (by decide) (fun hq => ?_) (fun hq => ?_)
  · have h := h.1 hq
    refine tn_iload_n (pc := 90) hΓ d_X1_voice_90 rfl ?_
    exact tn_ret_i (pc := 91) hΓ hK d_X1_voice_91 rfl (by decide) (by decide) h
  · have h := h.2 hq
    refine tn_iload_n (pc := 56) hΓ d_X1_voice_56 rfl ?_
    refine tn_aload_n (pc := 57) hΓ d_X1_voice_57 rfl ?_
    refine tn_getRy (y := b + 2) (pc := 58) hΓ d_X1_voice_58 fl_1_19 rfl (gp_k hG hb) (gp_s hG hb) ?_
    refine tn_iload_n (pc := 61) hΓ d_X1_voice_61 rfl ?_
    obtain ⟨hi1, h⟩ := h
    refine tn_aaldy (t := 1) (y := b + 8 + y2.toNatClampNeg) (pc := 62) hΓ d_X1_voice_62 (by decide) (gp_ks hG hb) hi1 (gp_S hG hb hi1) ?_
    refine tn_getI (pc := 63) hΓ d_X1_voice_63 fl_1_57 rfl (gp_kS hG hb (tn_inN hi1)) ?_
    refine tn_if_eq (tgt := 73) (pc := 66) hΓ d_X1_voice_66 (by decide) (fun hq => ?_) (fun hq => ?_)
    · have h := h.1 hq
      refine tn_aload_n (pc := 73) hΓ d_X1_voice_73 rfl ?_
      refine tn_getRy (y := b + 2) (pc := 74) hΓ d_X1_voice_74 fl_1_19 rfl (gp_k hG hb) (gp_s hG hb) ?_
      refine tn_iload_n (pc := 77) hΓ d_X1_voice_77 rfl ?_
      refine tn_aaldy (t := 1) (y := b + 8 + y2.toNatClampNeg) (pc := 78) hΓ d_X1_voice_78 (by decide) (gp_ks hG hb) hi1 (gp_S hG hb hi1) ?_
      refine tn_getI (pc := 79) hΓ d_X1_voice_79 fl_1_54 rfl (gp_kS hG hb (tn_inN hi1)) ?_
      refine tn_iadd (pc := 82) hΓ d_X1_voice_82 ?_
      refine tn_topi (fun x1 ex1 => ?_)
      have h := h x1 ex1
      refine tn_istore_n (loc' := [.ref b, .int x1, .int y2]) (pc := 83) hΓ d_X1_voice_83 (by decide) rfl rfl ?_
      refine tn_iincw (loc' := fun v_ => [.ref b, .int x1, .int v_]) (pc := 84) hΓ d_X1_voice_84 rfl ic_1 (by decide) rfl (fun _ => rfl) (fun x2 ex2 => ?_)
      have h := h x2 ex2
      refine tn_goto (tgt := 48) (pc := 87) hΓ d_X1_voice_87 (by decide) ?_
      exact h
    · have h := h.2 hq
      refine tn_iconst (pc := 69) hΓ d_X1_voice_69 ic_0 ?_
      refine tn_goto (tgt := 82) (pc := 70) hΓ d_X1_voice_70 (by decide) ?_
      refine tn_iadd (pc := 82) hΓ d_X1_voice_82 ?_
      refine tn_topi (fun x3 ex3 => ?_)
      have h := h x3 ex3
      refine tn_istore_n (loc' := [.ref b, .int x3, .int y2]) (pc := 83) hΓ d_X1_voice_83 (by decide) rfl rfl ?_
      refine tn_iincw (loc' := fun v_ => [.ref b, .int x3, .int v_]) (pc := 84) hΓ d_X1_voice_84 rfl ic_1 (by decide) rfl (fun _ => rfl) (fun x4 ex4 => ?_)
      have h := h x4 ex4
      refine tn_goto (tgt := 48) (pc := 87) hΓ d_X1_voice_87 (by decide) ?_
      exact h
theorem k_X1_hatsLost_0 {Γ : tn_G} {ks : List (Nat × Nat)} {ρ : Nat → Nat → Nat} {σ : Nat → Nat → Int32} {K : Option Value → List (Nat × Nat) → (Nat → Nat → Nat) → (Nat → Nat → Int32) → Prop} (hG : tn_Gd ks ρ) (hΓ : tn_is Γ m_X1_hatsLost) (hK : tn_rt Γ m_X1_hatsLost K) (b : Nat) (hb : tn_Pb b) (h : tn_A Γ 4 [.ref b, .int (0 : Int32), .int (0 : Int32)] [] 0 0 ks ρ σ) : tn_A Γ 0 [.ref b, .null, .null] [] 0 0 ks ρ σ := by
  refine tn_iconst (pc := 0) hΓ d_X1_hatsLost_0 ic_0 ?_
  refine tn_istore_n (loc' := [.ref b, .int (0 : Int32), .null]) (pc := 1) hΓ d_X1_hatsLost_1 (by decide) rfl rfl ?_
  refine tn_iconst (pc := 2) hΓ d_X1_hatsLost_2 ic_0 ?_
  refine tn_istore_n (loc' := [.ref b, .int (0 : Int32), .int (0 : Int32)]) (pc := 3) hΓ d_X1_hatsLost_3 (by decide) rfl rfl ?_
  exact h
theorem k_X1_hatsLost_4 {Γ : tn_G} {ks : List (Nat × Nat)} {ρ : Nat → Nat → Nat} {σ : Nat → Nat → Int32} {K : Option Value → List (Nat × Nat) → (Nat → Nat → Nat) → (Nat → Nat → Int32) → Prop} (hG : tn_Gd ks ρ) (hΓ : tn_is Γ m_X1_hatsLost) (hK : tn_rt Γ m_X1_hatsLost K) (b : Nat) (hb : tn_Pb b) (y1 : Int32) (y2 : Int32) (h : (((σ b 2) ≤ y2 → K (some (.int y1)) ks ρ σ) ∧ (¬ (σ b 2) ≤ y2 → (vp_in y2 5 ∧ (∀ x1 : Int32, x1 = (y1 + (σ (b + 3 + y2.toNatClampNeg) 3)) → (∀ x2 : Int32, x2 = y2 + (1 : Int32) → tn_A Γ 4 [.ref b, .int x1, .int x2] [] 0 0 ks ρ σ)))))) : tn_A Γ 4 [.ref b, .int y1, .int y2] [] 0 0 ks ρ σ := by
  refine tn_iload_n (pc := 4) hΓ d_X1_hatsLost_4 rfl ?_
  refine tn_aload_n (pc := 5) hΓ d_X1_hatsLost_5 rfl ?_
  refine tn_getI (pc := 6) hΓ d_X1_hatsLost_6 fl_1_23 rfl (gp_k hG hb) ?_
  refine tn_icmp_ge (tgt := 30) (pc := 9) hΓ d_X1_hatsLost_9 (by decide) (fun hq => ?_) (fun hq => ?_)
  · have h := h.1 hq
    refine tn_iload_n (pc := 30) hΓ d_X1_hatsLost_30 rfl ?_
    exact tn_ret_i (pc := 31) hΓ hK d_X1_hatsLost_31 rfl (by decide) (by decide) h
  · have h := h.2 hq
    refine tn_iload_n (pc := 12) hΓ d_X1_hatsLost_12 rfl ?_
    refine tn_aload_n (pc := 13) hΓ d_X1_hatsLost_13 rfl ?_
    refine tn_getRy (y := b + 1) (pc := 14) hΓ d_X1_hatsLost_14 fl_1_13 rfl (gp_k hG hb) (gp_h hG hb) ?_
    refine tn_iload_n (pc := 17) hΓ d_X1_hatsLost_17 rfl ?_
    obtain ⟨hi1, h⟩ := h
    refine tn_aaldy (t := 0) (y := b + 3 + y2.toNatClampNeg) (pc := 18) hΓ d_X1_hatsLost_18 (by decide) (gp_kh hG hb) hi1 (gp_H hG hb hi1) ?_
    refine tn_getI (pc := 19) hΓ d_X1_hatsLost_19 fl_1_47 rfl (gp_kH hG hb (tn_inN hi1)) ?_
    refine tn_iadd (pc := 22) hΓ d_X1_hatsLost_22 ?_
    refine tn_topi (fun x1 ex1 => ?_)
    have h := h x1 ex1
    refine tn_istore_n (loc' := [.ref b, .int x1, .int y2]) (pc := 23) hΓ d_X1_hatsLost_23 (by decide) rfl rfl ?_
    refine tn_iincw (loc' := fun v_ => [.ref b, .int x1, .int v_]) (pc := 24) hΓ d_X1_hatsLost_24 rfl ic_1 (by decide) rfl (fun _ => rfl) (fun x2 ex2 => ?_)
    have h := h x2 ex2
    refine tn_goto (tgt := 4) (pc := 27) hΓ d_X1_hatsLost_27 (by decide) ?_
    exact h
theorem k_X1_ranklingSet_0 {Γ : tn_G} {ks : List (Nat × Nat)} {ρ : Nat → Nat → Nat} {σ : Nat → Nat → Int32} {K : Option Value → List (Nat × Nat) → (Nat → Nat → Nat) → (Nat → Nat → Int32) → Prop} (hG : tn_Gd ks ρ) (hΓ : tn_is Γ m_X1_ranklingSet) (hK : tn_rt Γ m_X1_ranklingSet K) (b : Nat) (hb : tn_Pb b) (h : tn_A Γ 4 [.ref b, .int (0 : Int32), .int (0 : Int32)] [] 0 0 ks ρ σ) : tn_A Γ 0 [.ref b, .null, .null] [] 0 0 ks ρ σ := by
  refine tn_iconst (pc := 0) hΓ d_X1_ranklingSet_0 ic_0 ?_
  refine tn_istore_n (loc' := [.ref b, .int (0 : Int32), .null]) (pc := 1) hΓ d_X1_ranklingSet_1 (by decide) rfl rfl ?_
  refine tn_iconst (pc := 2) hΓ d_X1_ranklingSet_2 ic_0 ?_
  refine tn_istore_n (loc' := [.ref b, .int (0 : Int32), .int (0 : Int32)]) (pc := 3) hΓ d_X1_ranklingSet_3 (by decide) rfl rfl ?_
  exact h
theorem k_X1_ranklingSet_4 {Γ : tn_G} {ks : List (Nat × Nat)} {ρ : Nat → Nat → Nat} {σ : Nat → Nat → Int32} {K : Option Value → List (Nat × Nat) → (Nat → Nat → Nat) → (Nat → Nat → Int32) → Prop} (hG : tn_Gd ks ρ) (hΓ : tn_is Γ m_X1_ranklingSet) (hK : tn_rt Γ m_X1_ranklingSet K) (b : Nat) (hb : tn_Pb b) (y1 : Int32) (y2 : Int32) (h : (((σ b 2) ≤ y2 → K (some (.int y1)) ks ρ σ) ∧ (¬ (σ b 2) ≤ y2 → (vp_in y2 5 ∧ tn_CI m_X0_rankles [.ref (b + 3 + y2.toNatClampNeg)] ks ρ σ (fun r1 σ1 => ((r1 = 0 → (∀ x1 : Int32, x1 = y2 + (1 : Int32) → tn_A Γ 4 [.ref b, .int y1, .int x1] [] 0 0 ks ρ σ1)) ∧ (¬ r1 = 0 → (∀ x2 : Int32, x2 = (y1 ||| ((1 : Int32) <<< (y2 &&& 31))) → (∀ x3 : Int32, x3 = y2 + (1 : Int32) → tn_A Γ 4 [.ref b, .int x2, .int x3] [] 0 0 ks ρ σ1))))))))) : tn_A Γ 4 [.ref b, .int y1, .int y2] [] 0 0 ks ρ σ := by
  refine tn_iload_n (pc := 4) hΓ d_X1_ranklingSet_4 rfl ?_
  refine tn_aload_n (pc := 5) hΓ d_X1_ranklingSet_5 rfl ?_
  refine tn_getI (pc := 6) hΓ d_X1_ranklingSet_6 fl_1_23 rfl (gp_k hG hb) ?_
  refine tn_icmp_ge (tgt := 36) (pc := 9) hΓ d_X1_ranklingSet_9 (by decide) (fun hq => ?_) (fun hq => ?_)
  · have h := h.1 hq
    refine tn_iload_n (pc := 36) hΓ d_X1_ranklingSet_36 rfl ?_
    exact tn_ret_i (pc := 37) hΓ hK d_X1_ranklingSet_37 rfl (by decide) (by decide) h
  · have h := h.2 hq
    refine tn_aload_n (pc := 12) hΓ d_X1_ranklingSet_12 rfl ?_
    refine tn_getRy (y := b + 1) (pc := 13) hΓ d_X1_ranklingSet_13 fl_1_13 rfl (gp_k hG hb) (gp_h hG hb) ?_
    refine tn_iload_n (pc := 16) hΓ d_X1_ranklingSet_16 rfl ?_
    obtain ⟨hi1, h⟩ := h
    refine tn_aaldy (t := 0) (y := b + 3 + y2.toNatClampNeg) (pc := 17) hΓ d_X1_ranklingSet_17 (by decide) (gp_kh hG hb) hi1 (gp_H hG hb hi1) ?_
    refine tn_cvI (As := []) (st := []) (pc := 18) hΓ d_X1_ranklingSet_18 mv_X0_rankles im_X0_rankles se_X0_rankles ml_1_67 ⟨⟨by decide, by decide⟩, by decide, by decide⟩ rfl rfl rfl (by decide) ⟨_, rfl⟩ (gp_kH hG hb (tn_inN hi1)) (Nat.le_of_ble_eq_true rfl) rfl h (fun r1 σ1 h => ?_)
    refine tn_if_eq (tgt := 30) (pc := 21) hΓ d_X1_ranklingSet_21 (by decide) (fun hq => ?_) (fun hq => ?_)
    · have h := h.1 hq
      refine tn_iincw (loc' := fun v_ => [.ref b, .int y1, .int v_]) (pc := 30) hΓ d_X1_ranklingSet_30 rfl ic_1 (by decide) rfl (fun _ => rfl) (fun x1 ex1 => ?_)
      have h := h x1 ex1
      refine tn_goto (tgt := 4) (pc := 33) hΓ d_X1_ranklingSet_33 (by decide) ?_
      exact h
    · have h := h.2 hq
      refine tn_iload_n (pc := 24) hΓ d_X1_ranklingSet_24 rfl ?_
      refine tn_iconst (pc := 25) hΓ d_X1_ranklingSet_25 ic_1 ?_
      refine tn_iload_n (pc := 26) hΓ d_X1_ranklingSet_26 rfl ?_
      refine tn_ishl (pc := 27) hΓ d_X1_ranklingSet_27 ?_
      refine tn_ior (pc := 28) hΓ d_X1_ranklingSet_28 ?_
      refine tn_topi (fun x2 ex2 => ?_)
      have h := h x2 ex2
      refine tn_istore_n (loc' := [.ref b, .int x2, .int y2]) (pc := 29) hΓ d_X1_ranklingSet_29 (by decide) rfl rfl ?_
      refine tn_iincw (loc' := fun v_ => [.ref b, .int x2, .int v_]) (pc := 30) hΓ d_X1_ranklingSet_30 rfl ic_1 (by decide) rfl (fun _ => rfl) (fun x3 ex3 => ?_)
      have h := h x3 ex3
      refine tn_goto (tgt := 4) (pc := 33) hΓ d_X1_ranklingSet_33 (by decide) ?_
      exact h
theorem k_X1_setCount_0 {Γ : tn_G} {ks : List (Nat × Nat)} {ρ : Nat → Nat → Nat} {σ : Nat → Nat → Int32} {K : Option Value → List (Nat × Nat) → (Nat → Nat → Nat) → (Nat → Nat → Int32) → Prop} (hG : tn_Gd ks ρ) (hΓ : tn_is Γ m_X1_setCount) (hK : tn_rt Γ m_X1_setCount K) (b : Nat) (hb : tn_Pb b) (h : K (some (.int ((1 : Int32) <<< ((σ b 2) &&& 31)))) ks ρ σ) : tn_A Γ 0 [.ref b] [] 0 0 ks ρ σ := by
  refine tn_iconst (pc := 0) hΓ d_X1_setCount_0 ic_1 ?_
  refine tn_aload_n (pc := 1) hΓ d_X1_setCount_1 rfl ?_
  refine tn_getI (pc := 2) hΓ d_X1_setCount_2 fl_1_23 rfl (gp_k hG hb) ?_
  refine tn_ishl (pc := 5) hΓ d_X1_setCount_5 ?_
  exact tn_ret_i (pc := 6) hΓ hK d_X1_setCount_6 rfl (by decide) (by decide) h
theorem k_X1_doesSetRankle_0 {Γ : tn_G} {ks : List (Nat × Nat)} {ρ : Nat → Nat → Nat} {σ : Nat → Nat → Int32} {K : Option Value → List (Nat × Nat) → (Nat → Nat → Nat) → (Nat → Nat → Int32) → Prop} (hG : tn_Gd ks ρ) (hΓ : tn_is Γ m_X1_doesSetRankle) (hK : tn_rt Γ m_X1_doesSetRankle K) (b : Nat) (a0 : Int32) (hb : tn_Pb b) (h : tn_CI m_X1_ranklingSet [.ref b] ks ρ σ (fun r1 σ1 => ((¬ (a0 &&& (r1 ^^^ (-1 : Int32))) = 0 → K (some (.int (0 : Int32))) ks ρ σ1) ∧ ((a0 &&& (r1 ^^^ (-1 : Int32))) = 0 → K (some (.int (1 : Int32))) ks ρ σ1)))) : tn_A Γ 0 [.ref b, .int a0] [] 0 0 ks ρ σ := by
  refine tn_iload_n (pc := 0) hΓ d_X1_doesSetRankle_0 rfl ?_
  refine tn_aload_n (pc := 1) hΓ d_X1_doesSetRankle_1 rfl ?_
  refine tn_cvI (As := []) (st := [.int a0]) (pc := 2) hΓ d_X1_doesSetRankle_2 mv_X1_ranklingSet im_X1_ranklingSet se_X1_ranklingSet ml_1_75 ⟨⟨by decide, by decide⟩, by decide, by decide⟩ rfl rfl rfl (by decide) ⟨_, rfl⟩ (gp_k hG hb) (Nat.le_of_ble_eq_true rfl) rfl h (fun r1 σ1 h => ?_)
  refine tn_iconst (pc := 5) hΓ d_X1_doesSetRankle_5 ic_m1 ?_
  refine tn_ixor (pc := 6) hΓ d_X1_doesSetRankle_6 ?_
  refine tn_iand (pc := 7) hΓ d_X1_doesSetRankle_7 ?_
  refine tn_if_ne (tgt := 15) (pc := 8) hΓ d_X1_doesSetRankle_8 (by decide) (fun hq => ?_) (fun hq => ?_)
  · have h := h.1 hq
    refine tn_iconst (pc := 15) hΓ d_X1_doesSetRankle_15 ic_0 ?_
    exact tn_ret_z (pc := 16) hΓ hK d_X1_doesSetRankle_16 rfl (by decide) (by decide) (Or.inl rfl) h
  · have h := h.2 hq
    refine tn_iconst (pc := 11) hΓ d_X1_doesSetRankle_11 ic_1 ?_
    refine tn_goto (tgt := 16) (pc := 12) hΓ d_X1_doesSetRankle_12 (by decide) ?_
    exact tn_ret_z (pc := 16) hΓ hK d_X1_doesSetRankle_16 rfl (by decide) (by decide) (Or.inr rfl) h
theorem k_X1_weightOfSet_0 {Γ : tn_G} {ks : List (Nat × Nat)} {ρ : Nat → Nat → Nat} {σ : Nat → Nat → Int32} {K : Option Value → List (Nat × Nat) → (Nat → Nat → Nat) → (Nat → Nat → Int32) → Prop} (hG : tn_Gd ks ρ) (hΓ : tn_is Γ m_X1_weightOfSet) (hK : tn_rt Γ m_X1_weightOfSet K) (b : Nat) (a0 : Int32) (hb : tn_Pb b) (h : tn_A Γ 4 [.ref b, .int a0, .int (0 : Int32), .int (0 : Int32)] [] 0 0 ks ρ σ) : tn_A Γ 0 [.ref b, .int a0, .null, .null] [] 0 0 ks ρ σ := by
  refine tn_iconst (pc := 0) hΓ d_X1_weightOfSet_0 ic_0 ?_
  refine tn_istore_n (loc' := [.ref b, .int a0, .int (0 : Int32), .null]) (pc := 1) hΓ d_X1_weightOfSet_1 (by decide) rfl rfl ?_
  refine tn_iconst (pc := 2) hΓ d_X1_weightOfSet_2 ic_0 ?_
  refine tn_istore_n (loc' := [.ref b, .int a0, .int (0 : Int32), .int (0 : Int32)]) (pc := 3) hΓ d_X1_weightOfSet_3 (by decide) rfl rfl ?_
  exact h
theorem k_X1_weightOfSet_4 {Γ : tn_G} {ks : List (Nat × Nat)} {ρ : Nat → Nat → Nat} {σ : Nat → Nat → Int32} {K : Option Value → List (Nat × Nat) → (Nat → Nat → Nat) → (Nat → Nat → Int32) → Prop} (hG : tn_Gd ks ρ) (hΓ : tn_is Γ m_X1_weightOfSet) (hK : tn_rt Γ m_X1_weightOfSet K) (b : Nat) (hb : tn_Pb b) (y1 : Int32) (y2 : Int32) (y3 : Int32) (h : (((σ b 2) ≤ y3 → K (some (.int y2)) ks ρ σ) ∧ (¬ (σ b 2) ≤ y3 → ((((y1 >>> (y3 &&& 31)) &&& (1 : Int32)) = 0 → (∀ x1 : Int32, x1 = (y2 + (0 : Int32)) → (∀ x2 : Int32, x2 = y3 + (1 : Int32) → tn_A Γ 4 [.ref b, .int y1, .int x1, .int x2] [] 0 0 ks ρ σ))) ∧ (¬ ((y1 >>> (y3 &&& 31)) &&& (1 : Int32)) = 0 → (vp_in y3 5 ∧ tn_CI m_X0_weight [.ref (b + 3 + y3.toNatClampNeg)] ks ρ σ (fun r1 σ1 => (∀ x3 : Int32, x3 = (y2 + r1) → (∀ x4 : Int32, x4 = y3 + (1 : Int32) → tn_A Γ 4 [.ref b, .int y1, .int x3, .int x4] [] 0 0 ks ρ σ1))))))))) : tn_A Γ 4 [.ref b, .int y1, .int y2, .int y3] [] 0 0 ks ρ σ := by
  refine tn_iload_n (pc := 4) hΓ d_X1_weightOfSet_4 rfl ?_
  refine tn_aload_n (pc := 5) hΓ d_X1_weightOfSet_5 rfl ?_
  refine tn_getI (pc := 6) hΓ d_X1_weightOfSet_6 fl_1_23 rfl (gp_k hG hb) ?_
  refine tn_icmp_ge (tgt := 42) (pc := 9) hΓ d_X1_weightOfSet_9 (by decide) (fun hq => ?_) (fun hq => ?_)
  · have h := h.1 hq
    refine tn_iload_n (pc := 42) hΓ d_X1_weightOfSet_42 rfl ?_
    exact tn_ret_i (pc := 43) hΓ hK d_X1_weightOfSet_43 rfl (by decide) (by decide) h
  · have h := h.2 hq
    refine tn_iload_n (pc := 12) hΓ d_X1_weightOfSet_12 rfl ?_
    refine tn_iload_n (pc := 13) hΓ d_X1_weightOfSet_13 rfl ?_
    refine tn_iload_n (pc := 14) hΓ d_X1_weightOfSet_14 rfl ?_
    refine tn_ishr (pc := 15) hΓ d_X1_weightOfSet_15 ?_
    refine tn_iconst (pc := 16) hΓ d_X1_weightOfSet_16 ic_1 ?_
    refine tn_iand (pc := 17) hΓ d_X1_weightOfSet_17 ?_
    refine tn_if_eq (tgt := 33) (pc := 18) hΓ d_X1_weightOfSet_18 (by decide) (fun hq => ?_) (fun hq => ?_)
    · have h := h.1 hq
      refine tn_iconst (pc := 33) hΓ d_X1_weightOfSet_33 ic_0 ?_
      refine tn_iadd (pc := 34) hΓ d_X1_weightOfSet_34 ?_
      refine tn_topi (fun x1 ex1 => ?_)
      have h := h x1 ex1
      refine tn_istore_n (loc' := [.ref b, .int y1, .int x1, .int y3]) (pc := 35) hΓ d_X1_weightOfSet_35 (by decide) rfl rfl ?_
      refine tn_iincw (loc' := fun v_ => [.ref b, .int y1, .int x1, .int v_]) (pc := 36) hΓ d_X1_weightOfSet_36 rfl ic_1 (by decide) rfl (fun _ => rfl) (fun x2 ex2 => ?_)
      have h := h x2 ex2
      refine tn_goto (tgt := 4) (pc := 39) hΓ d_X1_weightOfSet_39 (by decide) ?_
      exact h
    · have h := h.2 hq
      refine tn_aload_n (pc := 21) hΓ d_X1_weightOfSet_21 rfl ?_
      refine tn_getRy (y := b + 1) (pc := 22) hΓ d_X1_weightOfSet_22 fl_1_13 rfl (gp_k hG hb) (gp_h hG hb) ?_
      refine tn_iload_n (pc := 25) hΓ d_X1_weightOfSet_25 rfl ?_
      obtain ⟨hi1, h⟩ := h
      refine tn_aaldy (t := 0) (y := b + 3 + y3.toNatClampNeg) (pc := 26) hΓ d_X1_weightOfSet_26 (by decide) (gp_kh hG hb) hi1 (gp_H hG hb hi1) ?_
      refine tn_cvI (As := []) (st := [.int y2]) (pc := 27) hΓ d_X1_weightOfSet_27 mv_X0_weight im_X0_weight se_X0_weight ml_1_71 ⟨⟨by decide, by decide⟩, by decide, by decide⟩ rfl rfl rfl (by decide) ⟨_, rfl⟩ (gp_kH hG hb (tn_inN hi1)) (Nat.le_of_ble_eq_true rfl) rfl h (fun r1 σ1 h => ?_)
      refine tn_goto (tgt := 34) (pc := 30) hΓ d_X1_weightOfSet_30 (by decide) ?_
      refine tn_iadd (pc := 34) hΓ d_X1_weightOfSet_34 ?_
      refine tn_topi (fun x3 ex3 => ?_)
      have h := h x3 ex3
      refine tn_istore_n (loc' := [.ref b, .int y1, .int x3, .int y3]) (pc := 35) hΓ d_X1_weightOfSet_35 (by decide) rfl rfl ?_
      refine tn_iincw (loc' := fun v_ => [.ref b, .int y1, .int x3, .int v_]) (pc := 36) hΓ d_X1_weightOfSet_36 rfl ic_1 (by decide) rfl (fun _ => rfl) (fun x4 ex4 => ?_)
      have h := h x4 ex4
      refine tn_goto (tgt := 4) (pc := 39) hΓ d_X1_weightOfSet_39 (by decide) ?_
      exact h
theorem k_X1_ownUpAll_0 {Γ : tn_G} {ks : List (Nat × Nat)} {ρ : Nat → Nat → Nat} {σ : Nat → Nat → Int32} {K : Option Value → List (Nat × Nat) → (Nat → Nat → Nat) → (Nat → Nat → Int32) → Prop} (hG : tn_Gd ks ρ) (hΓ : tn_is Γ m_X1_ownUpAll) (hK : tn_rt Γ m_X1_ownUpAll K) (b : Nat) (a0 : Int32) (hb : tn_Pb b) (h : tn_A Γ 2 [.ref b, .int a0, .int (0 : Int32)] [] 0 0 ks ρ σ) : tn_A Γ 0 [.ref b, .int a0, .null] [] 0 0 ks ρ σ := by
  refine tn_iconst (pc := 0) hΓ d_X1_ownUpAll_0 ic_0 ?_
  refine tn_istore_n (loc' := [.ref b, .int a0, .int (0 : Int32)]) (pc := 1) hΓ d_X1_ownUpAll_1 (by decide) rfl rfl ?_
  exact h
theorem k_X1_ownUpAll_2 {Γ : tn_G} {ks : List (Nat × Nat)} {ρ : Nat → Nat → Nat} {σ : Nat → Nat → Int32} {K : Option Value → List (Nat × Nat) → (Nat → Nat → Nat) → (Nat → Nat → Int32) → Prop} (hG : tn_Gd ks ρ) (hΓ : tn_is Γ m_X1_ownUpAll) (hK : tn_rt Γ m_X1_ownUpAll K) (b : Nat) (hb : tn_Pb b) (y1 : Int32) (y2 : Int32) (h : (((σ b 2) ≤ y2 → K none ks ρ σ) ∧ (¬ (σ b 2) ≤ y2 → ((((y1 >>> (y2 &&& 31)) &&& (1 : Int32)) = 0 → (∀ x1 : Int32, x1 = y2 + (1 : Int32) → tn_A Γ 2 [.ref b, .int y1, .int x1] [] 0 0 ks ρ σ)) ∧ (¬ ((y1 >>> (y2 &&& 31)) &&& (1 : Int32)) = 0 → (vp_in y2 5 ∧ tn_CI m_X0_ownUp [.ref (b + 3 + y2.toNatClampNeg)] ks ρ σ (fun r1 σ1 => (∀ x2 : Int32, x2 = y2 + (1 : Int32) → tn_A Γ 2 [.ref b, .int y1, .int x2] [] 0 0 ks ρ σ1)))))))) : tn_A Γ 2 [.ref b, .int y1, .int y2] [] 0 0 ks ρ σ := by
  refine tn_iload_n (pc := 2) hΓ d_X1_ownUpAll_2 rfl ?_
  refine tn_aload_n (pc := 3) hΓ d_X1_ownUpAll_3 rfl ?_
  refine tn_getI (pc := 4) hΓ d_X1_ownUpAll_4 fl_1_23 rfl (gp_k hG hb) ?_
  refine tn_icmp_ge (tgt := 34) (pc := 7) hΓ d_X1_ownUpAll_7 (by decide) (fun hq => ?_) (fun hq => ?_)
  · have h := h.1 hq
    exact tn_ret_v (pc := 34) hΓ hK d_X1_ownUpAll_34 rfl (by decide) (by decide) h
  · have h := h.2 hq
    refine tn_iload_n (pc := 10) hΓ d_X1_ownUpAll_10 rfl ?_
    refine tn_iload_n (pc := 11) hΓ d_X1_ownUpAll_11 rfl ?_
    refine tn_ishr (pc := 12) hΓ d_X1_ownUpAll_12 ?_
    refine tn_iconst (pc := 13) hΓ d_X1_ownUpAll_13 ic_1 ?_
    refine tn_iand (pc := 14) hΓ d_X1_ownUpAll_14 ?_
    refine tn_if_eq (tgt := 28) (pc := 15) hΓ d_X1_ownUpAll_15 (by decide) (fun hq => ?_) (fun hq => ?_)
    · have h := h.1 hq
      refine tn_iincw (loc' := fun v_ => [.ref b, .int y1, .int v_]) (pc := 28) hΓ d_X1_ownUpAll_28 rfl ic_1 (by decide) rfl (fun _ => rfl) (fun x1 ex1 => ?_)
      have h := h x1 ex1
      refine tn_goto (tgt := 2) (pc := 31) hΓ d_X1_ownUpAll_31 (by decide) ?_
      exact h
    · have h := h.2 hq
      refine tn_aload_n (pc := 18) hΓ d_X1_ownUpAll_18 rfl ?_
      refine tn_getRy (y := b + 1) (pc := 19) hΓ d_X1_ownUpAll_19 fl_1_13 rfl (gp_k hG hb) (gp_h hG hb) ?_
      refine tn_iload_n (pc := 22) hΓ d_X1_ownUpAll_22 rfl ?_
      obtain ⟨hi1, h⟩ := h
      refine tn_aaldy (t := 0) (y := b + 3 + y2.toNatClampNeg) (pc := 23) hΓ d_X1_ownUpAll_23 (by decide) (gp_kh hG hb) hi1 (gp_H hG hb hi1) ?_
      refine tn_cvI (As := []) (st := []) (pc := 24) hΓ d_X1_ownUpAll_24 mv_X0_ownUp im_X0_ownUp se_X0_ownUp ml_1_78 ⟨⟨by decide, by decide⟩, by decide, by decide⟩ rfl rfl rfl (by decide) ⟨_, rfl⟩ (gp_kH hG hb (tn_inN hi1)) (Nat.le_of_ble_eq_true rfl) rfl h (fun r1 σ1 h => ?_)
      refine tn_popi (pc := 27) hΓ d_X1_ownUpAll_27 ?_
      refine tn_iincw (loc' := fun v_ => [.ref b, .int y1, .int v_]) (pc := 28) hΓ d_X1_ownUpAll_28 rfl ic_1 (by decide) rfl (fun _ => rfl) (fun x2 ex2 => ?_)
      have h := h x2 ex2
      refine tn_goto (tgt := 2) (pc := 31) hΓ d_X1_ownUpAll_31 (by decide) ?_
      exact h
theorem k_X1_passNight_0 {Γ : tn_G} {ks : List (Nat × Nat)} {ρ : Nat → Nat → Nat} {σ : Nat → Nat → Int32} {K : Option Value → List (Nat × Nat) → (Nat → Nat → Nat) → (Nat → Nat → Int32) → Prop} (hG : tn_Gd ks ρ) (hΓ : tn_is Γ m_X1_passNight) (hK : tn_rt Γ m_X1_passNight K) (b : Nat) (hb : tn_Pb b) (h : tn_CI m_X1_voice [.ref b] ks ρ σ (fun r1 σ1 => ((r1 = 0 → K none ks ρ σ1) ∧ (¬ r1 = 0 → tn_CI m_X1_hasHouse [.ref b, .int (σ1 b 5)] ks ρ σ1 (fun r2 σ2 => ((¬ r2 = 0 → tn_CV m_X1_loseSleep [.ref b] ks ρ σ2 (fun σ3 => (vp_in (σ3 b 5) 5 ∧ ((¬ (σ3 (b + 3 + (σ3 b 5).toNatClampNeg) 2) = 0 → tn_CI m_X1_ranklingSet [.ref b] ks ρ σ3 (fun r3 σ4 => ((¬ r3 = 0 → (¬ (σ4 b 2) = 0 ∧ (∀ σ5, σ5 = tn_u σ4 b 5 (((σ4 b 5) + (σ4 b 4)) - ((σ4 b 5) + (σ4 b 4)) / (σ4 b 2) * (σ4 b 2)) → K none ks ρ σ5))) ∧ (r3 = 0 → tn_CV m_X1_layHeaviestStone [.ref b] ks ρ σ4 (fun σ6 => (¬ (σ6 b 2) = 0 ∧ (∀ σ7, σ7 = tn_u σ6 b 5 (((σ6 b 5) + (σ6 b 4)) - ((σ6 b 5) + (σ6 b 4)) / (σ6 b 2) * (σ6 b 2)) → K none ks ρ σ7))))))) ∧ ((σ3 (b + 3 + (σ3 b 5).toNatClampNeg) 2) = 0 → tn_CI m_X0_ownUp [.ref (b + 3 + (σ3 b 5).toNatClampNeg)] ks ρ σ3 (fun r4 σ8 => tn_CI m_X1_ranklingSet [.ref b] ks ρ σ8 (fun r5 σ9 => ((¬ r5 = 0 → (¬ (σ9 b 2) = 0 ∧ (∀ σ10, σ10 = tn_u σ9 b 5 (((σ9 b 5) + (σ9 b 4)) - ((σ9 b 5) + (σ9 b 4)) / (σ9 b 2) * (σ9 b 2)) → K none ks ρ σ10))) ∧ (r5 = 0 → tn_CV m_X1_layHeaviestStone [.ref b] ks ρ σ9 (fun σ11 => (¬ (σ11 b 2) = 0 ∧ (∀ σ12, σ12 = tn_u σ11 b 5 (((σ11 b 5) + (σ11 b 4)) - ((σ11 b 5) + (σ11 b 4)) / (σ11 b 2) * (σ11 b 2)) → K none ks ρ σ12)))))))))))) ∧ (r2 = 0 → K none ks ρ σ2))))))) : tn_A Γ 0 [.ref b] [] 0 0 ks ρ σ := by
  refine tn_aload_n (pc := 0) hΓ d_X1_passNight_0 rfl ?_
  refine tn_cvI (As := []) (st := []) (pc := 1) hΓ d_X1_passNight_1 mv_X1_voice im_X1_voice se_X1_voice ml_1_81 ⟨⟨by decide, by decide⟩, by decide, by decide⟩ rfl rfl rfl (by decide) ⟨_, rfl⟩ (gp_k hG hb) (Nat.le_of_ble_eq_true rfl) rfl h (fun r1 σ1 h => ?_)
  refine tn_if_eq (tgt := 18) (pc := 4) hΓ d_X1_passNight_4 (by decide) (fun hq => ?_) (fun hq => ?_)
  · have h := h.1 hq
    exact tn_ret_v (pc := 18) hΓ hK d_X1_passNight_18 rfl (by decide) (by decide) h
  · have h := h.2 hq
    refine tn_aload_n (pc := 7) hΓ d_X1_passNight_7 rfl ?_
    refine tn_aload_n (pc := 8) hΓ d_X1_passNight_8 rfl ?_
    refine tn_getI (pc := 9) hΓ d_X1_passNight_9 fl_1_33 rfl (gp_k hG hb) ?_
    refine tn_cvI (As := [.int (σ1 b 5)]) (st := []) (pc := 12) hΓ d_X1_passNight_12 mv_X1_hasHouse im_X1_hasHouse se_X1_hasHouse ml_1_84 ⟨⟨by decide, by decide⟩, by decide, by decide⟩ rfl rfl rfl (by decide) ⟨_, rfl⟩ (gp_k hG hb) (Nat.le_of_ble_eq_true rfl) rfl h (fun r2 σ2 h => ?_)
    refine tn_if_ne (tgt := 19) (pc := 15) hΓ d_X1_passNight_15 (by decide) (fun hq => ?_) (fun hq => ?_)
    · have h := h.1 hq
      refine tn_aload_n (pc := 19) hΓ d_X1_passNight_19 rfl ?_
      refine tn_cvV (As := []) (st := []) (pc := 20) hΓ d_X1_passNight_20 mv_X1_loseSleep im_X1_loseSleep se_X1_loseSleep ml_1_88 ⟨⟨by decide, by decide⟩, by decide, by decide⟩ rfl rfl rfl (by decide) ⟨_, rfl⟩ (gp_k hG hb) (Nat.le_of_ble_eq_true rfl) rfl h (fun σ3 h => ?_)
      refine tn_aload_n (pc := 23) hΓ d_X1_passNight_23 rfl ?_
      refine tn_getRy (y := b + 1) (pc := 24) hΓ d_X1_passNight_24 fl_1_13 rfl (gp_k hG hb) (gp_h hG hb) ?_
      refine tn_aload_n (pc := 27) hΓ d_X1_passNight_27 rfl ?_
      refine tn_getI (pc := 28) hΓ d_X1_passNight_28 fl_1_33 rfl (gp_k hG hb) ?_
      obtain ⟨hi1, h⟩ := h
      refine tn_aaldy (t := 0) (y := b + 3 + (σ3 b 5).toNatClampNeg) (pc := 31) hΓ d_X1_passNight_31 (by decide) (gp_kh hG hb) hi1 (gp_H hG hb hi1) ?_
      refine tn_getI (pc := 32) hΓ d_X1_passNight_32 fl_1_44 rfl (gp_kH hG hb (tn_inN hi1)) ?_
      refine tn_if_ne (tgt := 51) (pc := 35) hΓ d_X1_passNight_35 (by decide) (fun hq => ?_) (fun hq => ?_)
      · have h := h.1 hq
        refine tn_aload_n (pc := 51) hΓ d_X1_passNight_51 rfl ?_
        refine tn_cvI (As := []) (st := []) (pc := 52) hΓ d_X1_passNight_52 mv_X1_ranklingSet im_X1_ranklingSet se_X1_ranklingSet ml_1_75 ⟨⟨by decide, by decide⟩, by decide, by decide⟩ rfl rfl rfl (by decide) ⟨_, rfl⟩ (gp_k hG hb) (Nat.le_of_ble_eq_true rfl) rfl h (fun r3 σ4 h => ?_)
        refine tn_if_ne (tgt := 62) (pc := 55) hΓ d_X1_passNight_55 (by decide) (fun hq => ?_) (fun hq => ?_)
        · have h := h.1 hq
          refine tn_aload_n (pc := 62) hΓ d_X1_passNight_62 rfl ?_
          refine tn_aload_n (pc := 63) hΓ d_X1_passNight_63 rfl ?_
          refine tn_getI (pc := 64) hΓ d_X1_passNight_64 fl_1_33 rfl (gp_k hG hb) ?_
          refine tn_aload_n (pc := 67) hΓ d_X1_passNight_67 rfl ?_
          refine tn_getI (pc := 68) hΓ d_X1_passNight_68 fl_1_30 rfl (gp_k hG hb) ?_
          refine tn_iadd (pc := 71) hΓ d_X1_passNight_71 ?_
          refine tn_aload_n (pc := 72) hΓ d_X1_passNight_72 rfl ?_
          refine tn_getI (pc := 73) hΓ d_X1_passNight_73 fl_1_23 rfl (gp_k hG hb) ?_
          obtain ⟨hq, h⟩ := h
          refine tn_irem (pc := 76) hΓ d_X1_passNight_76 hq ?_
          refine tn_putI (pc := 77) hΓ d_X1_passNight_77 fl_1_33 fk_1_1_5 rfl (gp_k hG hb)  ?_
          refine tn_tops (fun σ5 eσ5 => ?_)
          have h := h σ5 eσ5
          exact tn_ret_v (pc := 80) hΓ hK d_X1_passNight_80 rfl (by decide) (by decide) h
        · have h := h.2 hq
          refine tn_aload_n (pc := 58) hΓ d_X1_passNight_58 rfl ?_
          refine tn_cvV (As := []) (st := []) (pc := 59) hΓ d_X1_passNight_59 mv_X1_layHeaviestStone im_X1_layHeaviestStone se_X1_layHeaviestStone ml_1_91 ⟨⟨by decide, by decide⟩, by decide, by decide⟩ rfl rfl rfl (by decide) ⟨_, rfl⟩ (gp_k hG hb) (Nat.le_of_ble_eq_true rfl) rfl h (fun σ6 h => ?_)
          refine tn_aload_n (pc := 62) hΓ d_X1_passNight_62 rfl ?_
          refine tn_aload_n (pc := 63) hΓ d_X1_passNight_63 rfl ?_
          refine tn_getI (pc := 64) hΓ d_X1_passNight_64 fl_1_33 rfl (gp_k hG hb) ?_
          refine tn_aload_n (pc := 67) hΓ d_X1_passNight_67 rfl ?_
          refine tn_getI (pc := 68) hΓ d_X1_passNight_68 fl_1_30 rfl (gp_k hG hb) ?_
          refine tn_iadd (pc := 71) hΓ d_X1_passNight_71 ?_
          refine tn_aload_n (pc := 72) hΓ d_X1_passNight_72 rfl ?_
          refine tn_getI (pc := 73) hΓ d_X1_passNight_73 fl_1_23 rfl (gp_k hG hb) ?_
          obtain ⟨hq, h⟩ := h
          refine tn_irem (pc := 76) hΓ d_X1_passNight_76 hq ?_
          refine tn_putI (pc := 77) hΓ d_X1_passNight_77 fl_1_33 fk_1_1_5 rfl (gp_k hG hb)  ?_
          refine tn_tops (fun σ7 eσ7 => ?_)
          have h := h σ7 eσ7
          exact tn_ret_v (pc := 80) hΓ hK d_X1_passNight_80 rfl (by decide) (by decide) h
      · have h := h.2 hq
        refine tn_aload_n (pc := 38) hΓ d_X1_passNight_38 rfl ?_
        refine tn_getRy (y := b + 1) (pc := 39) hΓ d_X1_passNight_39 fl_1_13 rfl (gp_k hG hb) (gp_h hG hb) ?_
        refine tn_aload_n (pc := 42) hΓ d_X1_passNight_42 rfl ?_
        refine tn_getI (pc := 43) hΓ d_X1_passNight_43 fl_1_33 rfl (gp_k hG hb) ?_
        refine tn_aaldy (t := 0) (y := b + 3 + (σ3 b 5).toNatClampNeg) (pc := 46) hΓ d_X1_passNight_46 (by decide) (gp_kh hG hb) hi1 (gp_H hG hb hi1) ?_
        refine tn_cvI (As := []) (st := []) (pc := 47) hΓ d_X1_passNight_47 mv_X0_ownUp im_X0_ownUp se_X0_ownUp ml_1_78 ⟨⟨by decide, by decide⟩, by decide, by decide⟩ rfl rfl rfl (by decide) ⟨_, rfl⟩ (gp_kH hG hb (tn_inN hi1)) (Nat.le_of_ble_eq_true rfl) rfl h (fun r4 σ8 h => ?_)
        refine tn_popi (pc := 50) hΓ d_X1_passNight_50 ?_
        refine tn_aload_n (pc := 51) hΓ d_X1_passNight_51 rfl ?_
        refine tn_cvI (As := []) (st := []) (pc := 52) hΓ d_X1_passNight_52 mv_X1_ranklingSet im_X1_ranklingSet se_X1_ranklingSet ml_1_75 ⟨⟨by decide, by decide⟩, by decide, by decide⟩ rfl rfl rfl (by decide) ⟨_, rfl⟩ (gp_k hG hb) (Nat.le_of_ble_eq_true rfl) rfl h (fun r5 σ9 h => ?_)
        refine tn_if_ne (tgt := 62) (pc := 55) hΓ d_X1_passNight_55 (by decide) (fun hq => ?_) (fun hq => ?_)
        · have h := h.1 hq
          refine tn_aload_n (pc := 62) hΓ d_X1_passNight_62 rfl ?_
          refine tn_aload_n (pc := 63) hΓ d_X1_passNight_63 rfl ?_
          refine tn_getI (pc := 64) hΓ d_X1_passNight_64 fl_1_33 rfl (gp_k hG hb) ?_
          refine tn_aload_n (pc := 67) hΓ d_X1_passNight_67 rfl ?_
          refine tn_getI (pc := 68) hΓ d_X1_passNight_68 fl_1_30 rfl (gp_k hG hb) ?_
          refine tn_iadd (pc := 71) hΓ d_X1_passNight_71 ?_
          refine tn_aload_n (pc := 72) hΓ d_X1_passNight_72 rfl ?_
          refine tn_getI (pc := 73) hΓ d_X1_passNight_73 fl_1_23 rfl (gp_k hG hb) ?_
          obtain ⟨hq, h⟩ := h
          refine tn_irem (pc := 76) hΓ d_X1_passNight_76 hq ?_
          refine tn_putI (pc := 77) hΓ d_X1_passNight_77 fl_1_33 fk_1_1_5 rfl (gp_k hG hb)  ?_
          refine tn_tops (fun σ10 eσ10 => ?_)
          have h := h σ10 eσ10
          exact tn_ret_v (pc := 80) hΓ hK d_X1_passNight_80 rfl (by decide) (by decide) h
        · have h := h.2 hq
          refine tn_aload_n (pc := 58) hΓ d_X1_passNight_58 rfl ?_
          refine tn_cvV (As := []) (st := []) (pc := 59) hΓ d_X1_passNight_59 mv_X1_layHeaviestStone im_X1_layHeaviestStone se_X1_layHeaviestStone ml_1_91 ⟨⟨by decide, by decide⟩, by decide, by decide⟩ rfl rfl rfl (by decide) ⟨_, rfl⟩ (gp_k hG hb) (Nat.le_of_ble_eq_true rfl) rfl h (fun σ11 h => ?_)
          refine tn_aload_n (pc := 62) hΓ d_X1_passNight_62 rfl ?_
          refine tn_aload_n (pc := 63) hΓ d_X1_passNight_63 rfl ?_
          refine tn_getI (pc := 64) hΓ d_X1_passNight_64 fl_1_33 rfl (gp_k hG hb) ?_
          refine tn_aload_n (pc := 67) hΓ d_X1_passNight_67 rfl ?_
          refine tn_getI (pc := 68) hΓ d_X1_passNight_68 fl_1_30 rfl (gp_k hG hb) ?_
          refine tn_iadd (pc := 71) hΓ d_X1_passNight_71 ?_
          refine tn_aload_n (pc := 72) hΓ d_X1_passNight_72 rfl ?_
          refine tn_getI (pc := 73) hΓ d_X1_passNight_73 fl_1_23 rfl (gp_k hG hb) ?_
          obtain ⟨hq, h⟩ := h
          refine tn_irem (pc := 76) hΓ d_X1_passNight_76 hq ?_
          refine tn_putI (pc := 77) hΓ d_X1_passNight_77 fl_1_33 fk_1_1_5 rfl (gp_k hG hb)  ?_
          refine tn_tops (fun σ12 eσ12 => ?_)
          have h := h σ12 eσ12
          exact tn_ret_v (pc := 80) hΓ hK d_X1_passNight_80 rfl (by decide) (by decide) h
    · have h := h.2 hq
      exact tn_ret_v (pc := 18) hΓ hK d_X1_passNight_18 rfl (by decide) (by decide) h
theorem k_X1_passNights_0 {Γ : tn_G} {ks : List (Nat × Nat)} {ρ : Nat → Nat → Nat} {σ : Nat → Nat → Int32} {K : Option Value → List (Nat × Nat) → (Nat → Nat → Nat) → (Nat → Nat → Int32) → Prop} (hG : tn_Gd ks ρ) (hΓ : tn_is Γ m_X1_passNights) (hK : tn_rt Γ m_X1_passNights K) (b : Nat) (a0 : Int32) (hb : tn_Pb b) (h : tn_A Γ 2 [.ref b, .int a0, .int (0 : Int32)] [] 0 0 ks ρ σ) : tn_A Γ 0 [.ref b, .int a0, .null] [] 0 0 ks ρ σ := by
  refine tn_iconst (pc := 0) hΓ d_X1_passNights_0 ic_0 ?_
  refine tn_istore_n (loc' := [.ref b, .int a0, .int (0 : Int32)]) (pc := 1) hΓ d_X1_passNights_1 (by decide) rfl rfl ?_
  exact h
theorem k_X1_passNights_2 {Γ : tn_G} {ks : List (Nat × Nat)} {ρ : Nat → Nat → Nat} {σ : Nat → Nat → Int32} {K : Option Value → List (Nat × Nat) → (Nat → Nat → Nat) → (Nat → Nat → Int32) → Prop} (hG : tn_Gd ks ρ) (hΓ : tn_is Γ m_X1_passNights) (hK : tn_rt Γ m_X1_passNights K) (b : Nat) (hb : tn_Pb b) (y1 : Int32) (y2 : Int32) (h : ((y1 ≤ y2 → K none ks ρ σ) ∧ (¬ y1 ≤ y2 → tn_CV m_X1_passNight [.ref b] ks ρ σ (fun σ1 => (∀ x1 : Int32, x1 = y2 + (1 : Int32) → tn_A Γ 2 [.ref b, .int y1, .int x1] [] 0 0 ks ρ σ1))))) : tn_A Γ 2 [.ref b, .int y1, .int y2] [] 0 0 ks ρ σ := by
  refine tn_iload_n (pc := 2) hΓ d_X1_passNights_2 rfl ?_
  refine tn_iload_n (pc := 3) hΓ d_X1_passNights_3 rfl ?_
  refine tn_icmp_ge (tgt := 17) (pc := 4) hΓ d_X1_passNights_4 (by decide) (fun hq => ?_) (fun hq => ?_)
  · have h := h.1 hq
    exact tn_ret_v (pc := 17) hΓ hK d_X1_passNights_17 rfl (by decide) (by decide) h
  · have h := h.2 hq
    refine tn_aload_n (pc := 7) hΓ d_X1_passNights_7 rfl ?_
    refine tn_cvV (As := []) (st := []) (pc := 8) hΓ d_X1_passNights_8 mv_X1_passNight im_X1_passNight se_X1_passNight ml_1_94 ⟨⟨by decide, by decide⟩, by decide, by decide⟩ rfl rfl rfl (by decide) ⟨_, rfl⟩ (gp_k hG hb) (Nat.le_of_ble_eq_true rfl) rfl h (fun σ1 h => ?_)
    refine tn_iincw (loc' := fun v_ => [.ref b, .int y1, .int v_]) (pc := 11) hΓ d_X1_passNights_11 rfl ic_1 (by decide) rfl (fun _ => rfl) (fun x1 ex1 => ?_)
    have h := h x1 ex1
    refine tn_goto (tgt := 2) (pc := 14) hΓ d_X1_passNights_14 (by decide) ?_
    exact h
theorem k_X1_loseSleep_0 {Γ : tn_G} {ks : List (Nat × Nat)} {ρ : Nat → Nat → Nat} {σ : Nat → Nat → Int32} {K : Option Value → List (Nat × Nat) → (Nat → Nat → Nat) → (Nat → Nat → Int32) → Prop} (hG : tn_Gd ks ρ) (hΓ : tn_is Γ m_X1_loseSleep) (hK : tn_rt Γ m_X1_loseSleep K) (b : Nat) (hb : tn_Pb b) (h : tn_A Γ 2 [.ref b, .int (0 : Int32)] [] 0 0 ks ρ σ) : tn_A Γ 0 [.ref b, .null] [] 0 0 ks ρ σ := by
  refine tn_iconst (pc := 0) hΓ d_X1_loseSleep_0 ic_0 ?_
  refine tn_istore_n (loc' := [.ref b, .int (0 : Int32)]) (pc := 1) hΓ d_X1_loseSleep_1 (by decide) rfl rfl ?_
  exact h
theorem k_X1_loseSleep_2 {Γ : tn_G} {ks : List (Nat × Nat)} {ρ : Nat → Nat → Nat} {σ : Nat → Nat → Int32} {K : Option Value → List (Nat × Nat) → (Nat → Nat → Nat) → (Nat → Nat → Int32) → Prop} (hG : tn_Gd ks ρ) (hΓ : tn_is Γ m_X1_loseSleep) (hK : tn_rt Γ m_X1_loseSleep K) (b : Nat) (hb : tn_Pb b) (y1 : Int32) (h : (((σ b 2) ≤ y1 → K none ks ρ σ) ∧ (¬ (σ b 2) ≤ y1 → (vp_in y1 5 ∧ (((σ (b + 3 + y1.toNatClampNeg) 2) ≤ 0 → (∀ x1 : Int32, x1 = y1 + (1 : Int32) → tn_A Γ 2 [.ref b, .int x1] [] 0 0 ks ρ σ)) ∧ (¬ (σ (b + 3 + y1.toNatClampNeg) 2) ≤ 0 → (∀ σ1, σ1 = tn_u σ (b + 3 + y1.toNatClampNeg) 2 ((σ (b + 3 + y1.toNatClampNeg) 2) - (1 : Int32)) → (∀ x2 : Int32, x2 = y1 + (1 : Int32) → tn_A Γ 2 [.ref b, .int x2] [] 0 0 ks ρ σ1)))))))) : tn_A Γ 2 [.ref b, .int y1] [] 0 0 ks ρ σ := by
  refine tn_iload_n (pc := 2) hΓ d_X1_loseSleep_2 rfl ?_
  refine tn_aload_n (pc := 3) hΓ d_X1_loseSleep_3 rfl ?_
  refine tn_getI (pc := 4) hΓ d_X1_loseSleep_4 fl_1_23 rfl (gp_k hG hb) ?_
  refine tn_icmp_ge (tgt := 43) (pc := 7) hΓ d_X1_loseSleep_7 (by decide) (fun hq => ?_) (fun hq => ?_)
  · have h := h.1 hq
    exact tn_ret_v (pc := 43) hΓ hK d_X1_loseSleep_43 rfl (by decide) (by decide) h
  · have h := h.2 hq
    refine tn_aload_n (pc := 10) hΓ d_X1_loseSleep_10 rfl ?_
    refine tn_getRy (y := b + 1) (pc := 11) hΓ d_X1_loseSleep_11 fl_1_13 rfl (gp_k hG hb) (gp_h hG hb) ?_
    refine tn_iload_n (pc := 14) hΓ d_X1_loseSleep_14 rfl ?_
    obtain ⟨hi1, h⟩ := h
    refine tn_aaldy (t := 0) (y := b + 3 + y1.toNatClampNeg) (pc := 15) hΓ d_X1_loseSleep_15 (by decide) (gp_kh hG hb) hi1 (gp_H hG hb hi1) ?_
    refine tn_getI (pc := 16) hΓ d_X1_loseSleep_16 fl_1_44 rfl (gp_kH hG hb (tn_inN hi1)) ?_
    refine tn_if_le (tgt := 37) (pc := 19) hΓ d_X1_loseSleep_19 (by decide) (fun hq => ?_) (fun hq => ?_)
    · have h := h.1 hq
      refine tn_iincw (loc' := fun v_ => [.ref b, .int v_]) (pc := 37) hΓ d_X1_loseSleep_37 rfl ic_1 (by decide) rfl (fun _ => rfl) (fun x1 ex1 => ?_)
      have h := h x1 ex1
      refine tn_goto (tgt := 2) (pc := 40) hΓ d_X1_loseSleep_40 (by decide) ?_
      exact h
    · have h := h.2 hq
      refine tn_aload_n (pc := 22) hΓ d_X1_loseSleep_22 rfl ?_
      refine tn_getRy (y := b + 1) (pc := 23) hΓ d_X1_loseSleep_23 fl_1_13 rfl (gp_k hG hb) (gp_h hG hb) ?_
      refine tn_iload_n (pc := 26) hΓ d_X1_loseSleep_26 rfl ?_
      refine tn_aaldy (t := 0) (y := b + 3 + y1.toNatClampNeg) (pc := 27) hΓ d_X1_loseSleep_27 (by decide) (gp_kh hG hb) hi1 (gp_H hG hb hi1) ?_
      refine tn_dupr (pc := 28) hΓ d_X1_loseSleep_28 ?_
      refine tn_getI (pc := 29) hΓ d_X1_loseSleep_29 fl_1_44 rfl (gp_kH hG hb (tn_inN hi1)) ?_
      refine tn_iconst (pc := 32) hΓ d_X1_loseSleep_32 ic_1 ?_
      refine tn_isub (pc := 33) hΓ d_X1_loseSleep_33 ?_
      refine tn_putI (pc := 34) hΓ d_X1_loseSleep_34 fl_1_44 fk_1_0_2 rfl (gp_kH hG hb (tn_inN hi1))  ?_
      refine tn_tops (fun σ1 eσ1 => ?_)
      have h := h σ1 eσ1
      refine tn_iincw (loc' := fun v_ => [.ref b, .int v_]) (pc := 37) hΓ d_X1_loseSleep_37 rfl ic_1 (by decide) rfl (fun _ => rfl) (fun x2 ex2 => ?_)
      have h := h x2 ex2
      refine tn_goto (tgt := 2) (pc := 40) hΓ d_X1_loseSleep_40 (by decide) ?_
      exact h
theorem k_X1_layHeaviestStone_0 {Γ : tn_G} {ks : List (Nat × Nat)} {ρ : Nat → Nat → Nat} {σ : Nat → Nat → Int32} {K : Option Value → List (Nat × Nat) → (Nat → Nat → Nat) → (Nat → Nat → Int32) → Prop} (hG : tn_Gd ks ρ) (hΓ : tn_is Γ m_X1_layHeaviestStone) (hK : tn_rt Γ m_X1_layHeaviestStone K) (b : Nat) (hb : tn_Pb b) (h : tn_A Γ 7 [.ref b, .int (-9 : Int32), .int (0 : Int32), .int (0 : Int32)] [] 0 0 ks ρ σ) : tn_A Γ 0 [.ref b, .null, .null, .null] [] 0 0 ks ρ σ := by
  refine tn_bipush (pc := 0) hΓ d_X1_layHeaviestStone_0 bp_m9 ?_
  refine tn_istore_n (loc' := [.ref b, .int (-9 : Int32), .null, .null]) (pc := 2) hΓ d_X1_layHeaviestStone_2 (by decide) rfl rfl ?_
  refine tn_iconst (pc := 3) hΓ d_X1_layHeaviestStone_3 ic_0 ?_
  refine tn_istore_n (loc' := [.ref b, .int (-9 : Int32), .int (0 : Int32), .null]) (pc := 4) hΓ d_X1_layHeaviestStone_4 (by decide) rfl rfl ?_
  refine tn_iconst (pc := 5) hΓ d_X1_layHeaviestStone_5 ic_0 ?_
  refine tn_istore_n (loc' := [.ref b, .int (-9 : Int32), .int (0 : Int32), .int (0 : Int32)]) (pc := 6) hΓ d_X1_layHeaviestStone_6 (by decide) rfl rfl ?_
  exact h
theorem k_X1_layHeaviestStone_7 {Γ : tn_G} {ks : List (Nat × Nat)} {ρ : Nat → Nat → Nat} {σ : Nat → Nat → Int32} {K : Option Value → List (Nat × Nat) → (Nat → Nat → Nat) → (Nat → Nat → Int32) → Prop} (hG : tn_Gd ks ρ) (hΓ : tn_is Γ m_X1_layHeaviestStone) (hK : tn_rt Γ m_X1_layHeaviestStone K) (b : Nat) (hb : tn_Pb b) (y1 : Int32) (y2 : Int32) (y3 : Int32) (h : (((σ b 3) ≤ y3 → tn_CI m_X1_hasStone [.ref b, .int y1] ks ρ σ (fun r1 σ1 => ((r1 = 0 → K none ks ρ σ1) ∧ (¬ r1 = 0 → (vp_in y1 4 ∧ (∀ σ2, σ2 = tn_u σ1 (b + 8 + y1.toNatClampNeg) 1 (1 : Int32) → K none ks ρ σ2)))))) ∧ (¬ (σ b 3) ≤ y3 → (vp_in y3 4 ∧ ((¬ (σ (b + 8 + y3.toNatClampNeg) 1) = 0 → (∀ x1 : Int32, x1 = y3 + (1 : Int32) → tn_A Γ 7 [.ref b, .int y1, .int y2, .int x1] [] 0 0 ks ρ σ)) ∧ ((σ (b + 8 + y3.toNatClampNeg) 1) = 0 → (((σ (b + 8 + y3.toNatClampNeg) 0) ≤ y2 → (∀ x2 : Int32, x2 = y3 + (1 : Int32) → tn_A Γ 7 [.ref b, .int y1, .int y2, .int x2] [] 0 0 ks ρ σ)) ∧ (¬ (σ (b + 8 + y3.toNatClampNeg) 0) ≤ y2 → (∀ x3 : Int32, x3 = (σ (b + 8 + y3.toNatClampNeg) 0) → (∀ x4 : Int32, x4 = y3 + (1 : Int32) → tn_A Γ 7 [.ref b, .int y3, .int x3, .int x4] [] 0 0 ks ρ σ)))))))))) : tn_A Γ 7 [.ref b, .int y1, .int y2, .int y3] [] 0 0 ks ρ σ := by
  refine tn_iload_n (pc := 7) hΓ d_X1_layHeaviestStone_7 rfl ?_
  refine tn_aload_n (pc := 8) hΓ d_X1_layHeaviestStone_8 rfl ?_
  refine tn_getI (pc := 9) hΓ d_X1_layHeaviestStone_9 fl_1_27 rfl (gp_k hG hb) ?_
  refine tn_icmp_ge (tgt := 58) (pc := 12) hΓ d_X1_layHeaviestStone_12 (by decide) (fun hq => ?_) (fun hq => ?_)
  · have h := h.1 hq
    refine tn_aload_n (pc := 58) hΓ d_X1_layHeaviestStone_58 rfl ?_
    refine tn_iload_n (pc := 59) hΓ d_X1_layHeaviestStone_59 rfl ?_
    refine tn_cvI (As := [.int y1]) (st := []) (pc := 60) hΓ d_X1_layHeaviestStone_60 mv_X1_hasStone im_X1_hasStone se_X1_hasStone ml_1_97 ⟨⟨by decide, by decide⟩, by decide, by decide⟩ rfl rfl rfl (by decide) ⟨_, rfl⟩ (gp_k hG hb) (Nat.le_of_ble_eq_true rfl) rfl h (fun r1 σ1 h => ?_)
    refine tn_if_eq (tgt := 76) (pc := 63) hΓ d_X1_layHeaviestStone_63 (by decide) (fun hq => ?_) (fun hq => ?_)
    · have h := h.1 hq
      exact tn_ret_v (pc := 76) hΓ hK d_X1_layHeaviestStone_76 rfl (by decide) (by decide) h
    · have h := h.2 hq
      refine tn_aload_n (pc := 66) hΓ d_X1_layHeaviestStone_66 rfl ?_
      refine tn_getRy (y := b + 2) (pc := 67) hΓ d_X1_layHeaviestStone_67 fl_1_19 rfl (gp_k hG hb) (gp_s hG hb) ?_
      refine tn_iload_n (pc := 70) hΓ d_X1_layHeaviestStone_70 rfl ?_
      obtain ⟨hi1, h⟩ := h
      refine tn_aaldy (t := 1) (y := b + 8 + y1.toNatClampNeg) (pc := 71) hΓ d_X1_layHeaviestStone_71 (by decide) (gp_ks hG hb) hi1 (gp_S hG hb hi1) ?_
      refine tn_iconst (pc := 72) hΓ d_X1_layHeaviestStone_72 ic_1 ?_
      refine tn_putZ (pc := 73) hΓ d_X1_layHeaviestStone_73 fl_1_57 fk_1_3_1 rfl (gp_kS hG hb (tn_inN hi1)) (Or.inr rfl) ?_
      refine tn_tops (fun σ2 eσ2 => ?_)
      have h := h σ2 eσ2
      exact tn_ret_v (pc := 76) hΓ hK d_X1_layHeaviestStone_76 rfl (by decide) (by decide) h
  · have h := h.2 hq
    refine tn_aload_n (pc := 15) hΓ d_X1_layHeaviestStone_15 rfl ?_
    refine tn_getRy (y := b + 2) (pc := 16) hΓ d_X1_layHeaviestStone_16 fl_1_19 rfl (gp_k hG hb) (gp_s hG hb) ?_
    refine tn_iload_n (pc := 19) hΓ d_X1_layHeaviestStone_19 rfl ?_
    obtain ⟨hi2, h⟩ := h
    refine tn_aaldy (t := 1) (y := b + 8 + y3.toNatClampNeg) (pc := 20) hΓ d_X1_layHeaviestStone_20 (by decide) (gp_ks hG hb) hi2 (gp_S hG hb hi2) ?_
    refine tn_getI (pc := 21) hΓ d_X1_layHeaviestStone_21 fl_1_57 rfl (gp_kS hG hb (tn_inN hi2)) ?_
    refine tn_if_ne (tgt := 52) (pc := 24) hΓ d_X1_layHeaviestStone_24 (by decide) (fun hq => ?_) (fun hq => ?_)
    · have h := h.1 hq
      refine tn_iincw (loc' := fun v_ => [.ref b, .int y1, .int y2, .int v_]) (pc := 52) hΓ d_X1_layHeaviestStone_52 rfl ic_1 (by decide) rfl (fun _ => rfl) (fun x1 ex1 => ?_)
      have h := h x1 ex1
      refine tn_goto (tgt := 7) (pc := 55) hΓ d_X1_layHeaviestStone_55 (by decide) ?_
      exact h
    · have h := h.2 hq
      refine tn_aload_n (pc := 27) hΓ d_X1_layHeaviestStone_27 rfl ?_
      refine tn_getRy (y := b + 2) (pc := 28) hΓ d_X1_layHeaviestStone_28 fl_1_19 rfl (gp_k hG hb) (gp_s hG hb) ?_
      refine tn_iload_n (pc := 31) hΓ d_X1_layHeaviestStone_31 rfl ?_
      refine tn_aaldy (t := 1) (y := b + 8 + y3.toNatClampNeg) (pc := 32) hΓ d_X1_layHeaviestStone_32 (by decide) (gp_ks hG hb) hi2 (gp_S hG hb hi2) ?_
      refine tn_getI (pc := 33) hΓ d_X1_layHeaviestStone_33 fl_1_54 rfl (gp_kS hG hb (tn_inN hi2)) ?_
      refine tn_iload_n (pc := 36) hΓ d_X1_layHeaviestStone_36 rfl ?_
      refine tn_icmp_le (tgt := 52) (pc := 37) hΓ d_X1_layHeaviestStone_37 (by decide) (fun hq => ?_) (fun hq => ?_)
      · have h := h.1 hq
        refine tn_iincw (loc' := fun v_ => [.ref b, .int y1, .int y2, .int v_]) (pc := 52) hΓ d_X1_layHeaviestStone_52 rfl ic_1 (by decide) rfl (fun _ => rfl) (fun x2 ex2 => ?_)
        have h := h x2 ex2
        refine tn_goto (tgt := 7) (pc := 55) hΓ d_X1_layHeaviestStone_55 (by decide) ?_
        exact h
      · have h := h.2 hq
        refine tn_iload_n (pc := 40) hΓ d_X1_layHeaviestStone_40 rfl ?_
        refine tn_istore_n (loc' := [.ref b, .int y3, .int y2, .int y3]) (pc := 41) hΓ d_X1_layHeaviestStone_41 (by decide) rfl rfl ?_
        refine tn_aload_n (pc := 42) hΓ d_X1_layHeaviestStone_42 rfl ?_
        refine tn_getRy (y := b + 2) (pc := 43) hΓ d_X1_layHeaviestStone_43 fl_1_19 rfl (gp_k hG hb) (gp_s hG hb) ?_
        refine tn_iload_n (pc := 46) hΓ d_X1_layHeaviestStone_46 rfl ?_
        refine tn_aaldy (t := 1) (y := b + 8 + y3.toNatClampNeg) (pc := 47) hΓ d_X1_layHeaviestStone_47 (by decide) (gp_ks hG hb) hi2 (gp_S hG hb hi2) ?_
        refine tn_getI (pc := 48) hΓ d_X1_layHeaviestStone_48 fl_1_54 rfl (gp_kS hG hb (tn_inN hi2)) ?_
        refine tn_topi (fun x3 ex3 => ?_)
        have h := h x3 ex3
        refine tn_istore_n (loc' := [.ref b, .int y3, .int x3, .int y3]) (pc := 51) hΓ d_X1_layHeaviestStone_51 (by decide) rfl rfl ?_
        refine tn_iincw (loc' := fun v_ => [.ref b, .int y3, .int x3, .int v_]) (pc := 52) hΓ d_X1_layHeaviestStone_52 rfl ic_1 (by decide) rfl (fun _ => rfl) (fun x4 ex4 => ?_)
        have h := h x4 ex4
        refine tn_goto (tgt := 7) (pc := 55) hΓ d_X1_layHeaviestStone_55 (by decide) ?_
        exact h
theorem k_X1_nightsUntilQuiet_0 {Γ : tn_G} {ks : List (Nat × Nat)} {ρ : Nat → Nat → Nat} {σ : Nat → Nat → Int32} {K : Option Value → List (Nat × Nat) → (Nat → Nat → Nat) → (Nat → Nat → Int32) → Prop} (hG : tn_Gd ks ρ) (hΓ : tn_is Γ m_X1_nightsUntilQuiet) (hK : tn_rt Γ m_X1_nightsUntilQuiet K) (b : Nat) (a0 : Int32) (hb : tn_Pb b) (h : (∀ x1 : Int32, x1 = (if (18 : Int32) < a0 then (18 : Int32) else a0) → tn_A Γ 9 [.ref b, .null, .int x1, .int (0 : Int32)] [] 0 0 ks ρ σ)) : tn_A Γ 0 [.ref b, .int a0, .null, .null] [] 0 0 ks ρ σ := by
  refine tn_iload_n (pc := 0) hΓ d_X1_nightsUntilQuiet_0 rfl ?_
  refine tn_bipush (pc := 1) hΓ d_X1_nightsUntilQuiet_1 bp_18 ?_
  refine tn_mmin (pc := 3) hΓ d_X1_nightsUntilQuiet_3 ⟨mm_1_100.1, by decide, Nat.le_of_ble_eq_true rfl, by decide, by decide⟩ ?_
  refine tn_topi (fun x1 ex1 => ?_)
  have h := h x1 ex1
  refine tn_istore_n (loc' := [.ref b, .int a0, .int x1, .null]) (pc := 6) hΓ d_X1_nightsUntilQuiet_6 (by decide) rfl rfl ?_
  refine tn_iconst (pc := 7) hΓ d_X1_nightsUntilQuiet_7 ic_0 ?_
  refine tn_istore_n (loc' := [.ref b, .int a0, .int x1, .int (0 : Int32)]) (pc := 8) hΓ d_X1_nightsUntilQuiet_8 (by decide) rfl rfl ?_
  refine tn_drop [true, false, true, true] (loc' := [.ref b, .null, .int x1, .int (0 : Int32)]) rfl ?_
  exact h
theorem k_X1_nightsUntilQuiet_9 {Γ : tn_G} {ks : List (Nat × Nat)} {ρ : Nat → Nat → Nat} {σ : Nat → Nat → Int32} {K : Option Value → List (Nat × Nat) → (Nat → Nat → Nat) → (Nat → Nat → Int32) → Prop} (hG : tn_Gd ks ρ) (hΓ : tn_is Γ m_X1_nightsUntilQuiet) (hK : tn_rt Γ m_X1_nightsUntilQuiet K) (b : Nat) (hb : tn_Pb b) (y2 : Int32) (y3 : Int32) (h : ((y2 < y3 → K (some (.int (-9 : Int32))) ks ρ σ) ∧ (¬ y2 < y3 → tn_CI m_X1_voice [.ref b] ks ρ σ (fun r1 σ1 => ((¬ r1 = 0 → tn_CV m_X1_passNight [.ref b] ks ρ σ1 (fun σ2 => (∀ x1 : Int32, x1 = y3 + (1 : Int32) → tn_A Γ 9 [.ref b, .null, .int y2, .int x1] [] 0 0 ks ρ σ2))) ∧ (r1 = 0 → K (some (.int y3)) ks ρ σ1)))))) : tn_A Γ 9 [.ref b, .null, .int y2, .int y3] [] 0 0 ks ρ σ := by
  refine tn_iload_n (pc := 9) hΓ d_X1_nightsUntilQuiet_9 rfl ?_
  refine tn_iload_n (pc := 10) hΓ d_X1_nightsUntilQuiet_10 rfl ?_
  refine tn_icmp_gt (tgt := 33) (pc := 11) hΓ d_X1_nightsUntilQuiet_11 (by decide) (fun hq => ?_) (fun hq => ?_)
  · have h := h.1 hq
    refine tn_bipush (pc := 33) hΓ d_X1_nightsUntilQuiet_33 bp_m9 ?_
    exact tn_ret_i (pc := 35) hΓ hK d_X1_nightsUntilQuiet_35 rfl (by decide) (by decide) h
  · have h := h.2 hq
    refine tn_aload_n (pc := 14) hΓ d_X1_nightsUntilQuiet_14 rfl ?_
    refine tn_cvI (As := []) (st := []) (pc := 15) hΓ d_X1_nightsUntilQuiet_15 mv_X1_voice im_X1_voice se_X1_voice ml_1_81 ⟨⟨by decide, by decide⟩, by decide, by decide⟩ rfl rfl rfl (by decide) ⟨_, rfl⟩ (gp_k hG hb) (Nat.le_of_ble_eq_true rfl) rfl h (fun r1 σ1 h => ?_)
    refine tn_if_ne (tgt := 23) (pc := 18) hΓ d_X1_nightsUntilQuiet_18 (by decide) (fun hq => ?_) (fun hq => ?_)
    · have h := h.1 hq
      refine tn_aload_n (pc := 23) hΓ d_X1_nightsUntilQuiet_23 rfl ?_
      refine tn_cvV (As := []) (st := []) (pc := 24) hΓ d_X1_nightsUntilQuiet_24 mv_X1_passNight im_X1_passNight se_X1_passNight ml_1_94 ⟨⟨by decide, by decide⟩, by decide, by decide⟩ rfl rfl rfl (by decide) ⟨_, rfl⟩ (gp_k hG hb) (Nat.le_of_ble_eq_true rfl) rfl h (fun σ2 h => ?_)
      refine tn_iincw (loc' := fun v_ => [.ref b, .null, .int y2, .int v_]) (pc := 27) hΓ d_X1_nightsUntilQuiet_27 rfl ic_1 (by decide) rfl (fun _ => rfl) (fun x1 ex1 => ?_)
      have h := h x1 ex1
      refine tn_goto (tgt := 9) (pc := 30) hΓ d_X1_nightsUntilQuiet_30 (by decide) ?_
      exact h
    · have h := h.2 hq
      refine tn_iload_n (pc := 21) hΓ d_X1_nightsUntilQuiet_21 rfl ?_
      exact tn_ret_i (pc := 22) hΓ hK d_X1_nightsUntilQuiet_22 rfl (by decide) (by decide) h
theorem k_X1_acts_0 {Γ : tn_G} {ks : List (Nat × Nat)} {ρ : Nat → Nat → Nat} {σ : Nat → Nat → Int32} {K : Option Value → List (Nat × Nat) → (Nat → Nat → Nat) → (Nat → Nat → Int32) → Prop} (hG : tn_Gd ks ρ) (hΓ : tn_is Γ m_X1_acts) (hK : tn_rt Γ m_X1_acts K) (b : Nat) (a0 : Int32) (hb : tn_Pb b) (h : (((5 : Int32) ≤ a0 → (((10 : Int32) ≤ a0 → (((14 : Int32) ≤ a0 → tn_CV m_X1_passNight [.ref b] ks ρ σ (fun σ1 => K (some (.int (1 : Int32))) ks ρ σ1)) ∧ (¬ (14 : Int32) ≤ a0 → tn_CI m_X1_isLaidAsAct [.ref b, .int (a0 - (10 : Int32))] ks ρ σ (fun r1 σ2 => ((r1 = 0 ∨ r1 = 1) ∧ K (some (.int r1)) ks ρ σ2))))) ∧ (¬ (10 : Int32) ≤ a0 → tn_CI m_X1_sleepsAsAct [.ref b, .int (a0 - (5 : Int32))] ks ρ σ (fun r2 σ3 => ((r2 = 0 ∨ r2 = 1) ∧ K (some (.int r2)) ks ρ σ3))))) ∧ (¬ (5 : Int32) ≤ a0 → tn_CI m_X1_ownsAsAct [.ref b, .int a0] ks ρ σ (fun r3 σ4 => ((r3 = 0 ∨ r3 = 1) ∧ K (some (.int r3)) ks ρ σ4))))) : tn_A Γ 0 [.ref b, .int a0] [] 0 0 ks ρ σ := by
  refine tn_iload_n (pc := 0) hΓ d_X1_acts_0 rfl ?_
  refine tn_iconst (pc := 1) hΓ d_X1_acts_1 ic_5 ?_
  refine tn_icmp_ge (tgt := 11) (pc := 2) hΓ d_X1_acts_2 (by decide) (fun hq => ?_) (fun hq => ?_)
  · have h := h.1 hq
    refine tn_iload_n (pc := 11) hΓ d_X1_acts_11 rfl ?_
    refine tn_bipush (pc := 12) hΓ d_X1_acts_12 bp_10 ?_
    refine tn_icmp_ge (tgt := 25) (pc := 14) hΓ d_X1_acts_14 (by decide) (fun hq => ?_) (fun hq => ?_)
    · have h := h.1 hq
      refine tn_iload_n (pc := 25) hΓ d_X1_acts_25 rfl ?_
      refine tn_bipush (pc := 26) hΓ d_X1_acts_26 bp_14 ?_
      refine tn_icmp_ge (tgt := 40) (pc := 28) hΓ d_X1_acts_28 (by decide) (fun hq => ?_) (fun hq => ?_)
      · have h := h.1 hq
        refine tn_aload_n (pc := 40) hΓ d_X1_acts_40 rfl ?_
        refine tn_cvV (As := []) (st := []) (pc := 41) hΓ d_X1_acts_41 mv_X1_passNight im_X1_passNight se_X1_passNight ml_1_94 ⟨⟨by decide, by decide⟩, by decide, by decide⟩ rfl rfl rfl (by decide) ⟨_, rfl⟩ (gp_k hG hb) (Nat.le_of_ble_eq_true rfl) rfl h (fun σ1 h => ?_)
        refine tn_iconst (pc := 44) hΓ d_X1_acts_44 ic_1 ?_
        exact tn_ret_z (pc := 45) hΓ hK d_X1_acts_45 rfl (by decide) (by decide) (Or.inr rfl) h
      · have h := h.2 hq
        refine tn_aload_n (pc := 31) hΓ d_X1_acts_31 rfl ?_
        refine tn_iload_n (pc := 32) hΓ d_X1_acts_32 rfl ?_
        refine tn_bipush (pc := 33) hΓ d_X1_acts_33 bp_10 ?_
        refine tn_isub (pc := 35) hΓ d_X1_acts_35 ?_
        refine tn_cvI (As := [.int (a0 - (10 : Int32))]) (st := []) (pc := 36) hΓ d_X1_acts_36 mv_X1_isLaidAsAct im_X1_isLaidAsAct se_X1_isLaidAsAct ml_1_112 ⟨⟨by decide, by decide⟩, by decide, by decide⟩ rfl rfl rfl (by decide) ⟨_, rfl⟩ (gp_k hG hb) (Nat.le_of_ble_eq_true rfl) rfl h (fun r1 σ2 h => ?_)
        exact tn_ret_z (pc := 39) hΓ hK d_X1_acts_39 rfl (by decide) (by decide) h.1 h.2
    · have h := h.2 hq
      refine tn_aload_n (pc := 17) hΓ d_X1_acts_17 rfl ?_
      refine tn_iload_n (pc := 18) hΓ d_X1_acts_18 rfl ?_
      refine tn_iconst (pc := 19) hΓ d_X1_acts_19 ic_5 ?_
      refine tn_isub (pc := 20) hΓ d_X1_acts_20 ?_
      refine tn_cvI (As := [.int (a0 - (5 : Int32))]) (st := []) (pc := 21) hΓ d_X1_acts_21 mv_X1_sleepsAsAct im_X1_sleepsAsAct se_X1_sleepsAsAct ml_1_109 ⟨⟨by decide, by decide⟩, by decide, by decide⟩ rfl rfl rfl (by decide) ⟨_, rfl⟩ (gp_k hG hb) (Nat.le_of_ble_eq_true rfl) rfl h (fun r2 σ3 h => ?_)
      exact tn_ret_z (pc := 24) hΓ hK d_X1_acts_24 rfl (by decide) (by decide) h.1 h.2
  · have h := h.2 hq
    refine tn_aload_n (pc := 5) hΓ d_X1_acts_5 rfl ?_
    refine tn_iload_n (pc := 6) hΓ d_X1_acts_6 rfl ?_
    refine tn_cvI (As := [.int a0]) (st := []) (pc := 7) hΓ d_X1_acts_7 mv_X1_ownsAsAct im_X1_ownsAsAct se_X1_ownsAsAct ml_1_106 ⟨⟨by decide, by decide⟩, by decide, by decide⟩ rfl rfl rfl (by decide) ⟨_, rfl⟩ (gp_k hG hb) (Nat.le_of_ble_eq_true rfl) rfl h (fun r3 σ4 h => ?_)
    exact tn_ret_z (pc := 10) hΓ hK d_X1_acts_10 rfl (by decide) (by decide) h.1 h.2
theorem k_X1_ownsAsAct_0 {Γ : tn_G} {ks : List (Nat × Nat)} {ρ : Nat → Nat → Nat} {σ : Nat → Nat → Int32} {K : Option Value → List (Nat × Nat) → (Nat → Nat → Nat) → (Nat → Nat → Int32) → Prop} (hG : tn_Gd ks ρ) (hΓ : tn_is Γ m_X1_ownsAsAct) (hK : tn_rt Γ m_X1_ownsAsAct K) (b : Nat) (a0 : Int32) (hb : tn_Pb b) (h : tn_CI m_X1_hasHouse [.ref b, .int a0] ks ρ σ (fun r1 σ1 => ((¬ r1 = 0 → (vp_in a0 5 ∧ tn_CI m_X0_ownUp [.ref (b + 3 + a0.toNatClampNeg)] ks ρ σ1 (fun r2 σ2 => K (some (.int (1 : Int32))) ks ρ σ2))) ∧ (r1 = 0 → K (some (.int (0 : Int32))) ks ρ σ1)))) : tn_A Γ 0 [.ref b, .int a0] [] 0 0 ks ρ σ := by
  refine tn_aload_n (pc := 0) hΓ d_X1_ownsAsAct_0 rfl ?_
  refine tn_iload_n (pc := 1) hΓ d_X1_ownsAsAct_1 rfl ?_
  refine tn_cvI (As := [.int a0]) (st := []) (pc := 2) hΓ d_X1_ownsAsAct_2 mv_X1_hasHouse im_X1_hasHouse se_X1_hasHouse ml_1_84 ⟨⟨by decide, by decide⟩, by decide, by decide⟩ rfl rfl rfl (by decide) ⟨_, rfl⟩ (gp_k hG hb) (Nat.le_of_ble_eq_true rfl) rfl h (fun r1 σ1 h => ?_)
  refine tn_if_ne (tgt := 10) (pc := 5) hΓ d_X1_ownsAsAct_5 (by decide) (fun hq => ?_) (fun hq => ?_)
  · have h := h.1 hq
    refine tn_aload_n (pc := 10) hΓ d_X1_ownsAsAct_10 rfl ?_
    refine tn_getRy (y := b + 1) (pc := 11) hΓ d_X1_ownsAsAct_11 fl_1_13 rfl (gp_k hG hb) (gp_h hG hb) ?_
    refine tn_iload_n (pc := 14) hΓ d_X1_ownsAsAct_14 rfl ?_
    obtain ⟨hi1, h⟩ := h
    refine tn_aaldy (t := 0) (y := b + 3 + a0.toNatClampNeg) (pc := 15) hΓ d_X1_ownsAsAct_15 (by decide) (gp_kh hG hb) hi1 (gp_H hG hb hi1) ?_
    refine tn_cvI (As := []) (st := []) (pc := 16) hΓ d_X1_ownsAsAct_16 mv_X0_ownUp im_X0_ownUp se_X0_ownUp ml_1_78 ⟨⟨by decide, by decide⟩, by decide, by decide⟩ rfl rfl rfl (by decide) ⟨_, rfl⟩ (gp_kH hG hb (tn_inN hi1)) (Nat.le_of_ble_eq_true rfl) rfl h (fun r2 σ2 h => ?_)
    refine tn_popi (pc := 19) hΓ d_X1_ownsAsAct_19 ?_
    refine tn_iconst (pc := 20) hΓ d_X1_ownsAsAct_20 ic_1 ?_
    exact tn_ret_z (pc := 21) hΓ hK d_X1_ownsAsAct_21 rfl (by decide) (by decide) (Or.inr rfl) h
  · have h := h.2 hq
    refine tn_iconst (pc := 8) hΓ d_X1_ownsAsAct_8 ic_0 ?_
    exact tn_ret_z (pc := 9) hΓ hK d_X1_ownsAsAct_9 rfl (by decide) (by decide) (Or.inl rfl) h
theorem k_X1_sleepsAsAct_0 {Γ : tn_G} {ks : List (Nat × Nat)} {ρ : Nat → Nat → Nat} {σ : Nat → Nat → Int32} {K : Option Value → List (Nat × Nat) → (Nat → Nat → Nat) → (Nat → Nat → Int32) → Prop} (hG : tn_Gd ks ρ) (hΓ : tn_is Γ m_X1_sleepsAsAct) (hK : tn_rt Γ m_X1_sleepsAsAct K) (b : Nat) (a0 : Int32) (hb : tn_Pb b) (h : tn_CI m_X1_hasHouse [.ref b, .int a0] ks ρ σ (fun r1 σ1 => ((¬ r1 = 0 → (vp_in a0 5 ∧ (∀ σ2, σ2 = tn_u σ1 (b + 3 + a0.toNatClampNeg) 2 (9 : Int32) → K (some (.int (1 : Int32))) ks ρ σ2))) ∧ (r1 = 0 → K (some (.int (0 : Int32))) ks ρ σ1)))) : tn_A Γ 0 [.ref b, .int a0] [] 0 0 ks ρ σ := by
  refine tn_aload_n (pc := 0) hΓ d_X1_sleepsAsAct_0 rfl ?_
  refine tn_iload_n (pc := 1) hΓ d_X1_sleepsAsAct_1 rfl ?_
  refine tn_cvI (As := [.int a0]) (st := []) (pc := 2) hΓ d_X1_sleepsAsAct_2 mv_X1_hasHouse im_X1_hasHouse se_X1_hasHouse ml_1_84 ⟨⟨by decide, by decide⟩, by decide, by decide⟩ rfl rfl rfl (by decide) ⟨_, rfl⟩ (gp_k hG hb) (Nat.le_of_ble_eq_true rfl) rfl h (fun r1 σ1 h => ?_)
  refine tn_if_ne (tgt := 10) (pc := 5) hΓ d_X1_sleepsAsAct_5 (by decide) (fun hq => ?_) (fun hq => ?_)
  · have h := h.1 hq
    refine tn_aload_n (pc := 10) hΓ d_X1_sleepsAsAct_10 rfl ?_
    refine tn_getRy (y := b + 1) (pc := 11) hΓ d_X1_sleepsAsAct_11 fl_1_13 rfl (gp_k hG hb) (gp_h hG hb) ?_
    refine tn_iload_n (pc := 14) hΓ d_X1_sleepsAsAct_14 rfl ?_
    obtain ⟨hi1, h⟩ := h
    refine tn_aaldy (t := 0) (y := b + 3 + a0.toNatClampNeg) (pc := 15) hΓ d_X1_sleepsAsAct_15 (by decide) (gp_kh hG hb) hi1 (gp_H hG hb hi1) ?_
    refine tn_bipush (pc := 16) hΓ d_X1_sleepsAsAct_16 bp_9 ?_
    refine tn_putI (pc := 18) hΓ d_X1_sleepsAsAct_18 fl_1_44 fk_1_0_2 rfl (gp_kH hG hb (tn_inN hi1))  ?_
    refine tn_tops (fun σ2 eσ2 => ?_)
    have h := h σ2 eσ2
    refine tn_iconst (pc := 21) hΓ d_X1_sleepsAsAct_21 ic_1 ?_
    exact tn_ret_z (pc := 22) hΓ hK d_X1_sleepsAsAct_22 rfl (by decide) (by decide) (Or.inr rfl) h
  · have h := h.2 hq
    refine tn_iconst (pc := 8) hΓ d_X1_sleepsAsAct_8 ic_0 ?_
    exact tn_ret_z (pc := 9) hΓ hK d_X1_sleepsAsAct_9 rfl (by decide) (by decide) (Or.inl rfl) h
theorem k_X1_isLaidAsAct_0 {Γ : tn_G} {ks : List (Nat × Nat)} {ρ : Nat → Nat → Nat} {σ : Nat → Nat → Int32} {K : Option Value → List (Nat × Nat) → (Nat → Nat → Nat) → (Nat → Nat → Int32) → Prop} (hG : tn_Gd ks ρ) (hΓ : tn_is Γ m_X1_isLaidAsAct) (hK : tn_rt Γ m_X1_isLaidAsAct K) (b : Nat) (a0 : Int32) (hb : tn_Pb b) (h : tn_CI m_X1_hasStone [.ref b, .int a0] ks ρ σ (fun r1 σ1 => ((r1 = 0 → K (some (.int (0 : Int32))) ks ρ σ1) ∧ (¬ r1 = 0 → (vp_in a0 4 ∧ (((σ1 (b + 8 + a0.toNatClampNeg) 1) = 0 → (∀ σ2, σ2 = tn_u σ1 (b + 8 + a0.toNatClampNeg) 1 (1 : Int32) → K (some (.int (1 : Int32))) ks ρ σ2)) ∧ (¬ (σ1 (b + 8 + a0.toNatClampNeg) 1) = 0 → K (some (.int (0 : Int32))) ks ρ σ1))))))) : tn_A Γ 0 [.ref b, .int a0] [] 0 0 ks ρ σ := by
  refine tn_aload_n (pc := 0) hΓ d_X1_isLaidAsAct_0 rfl ?_
  refine tn_iload_n (pc := 1) hΓ d_X1_isLaidAsAct_1 rfl ?_
  refine tn_cvI (As := [.int a0]) (st := []) (pc := 2) hΓ d_X1_isLaidAsAct_2 mv_X1_hasStone im_X1_hasStone se_X1_hasStone ml_1_97 ⟨⟨by decide, by decide⟩, by decide, by decide⟩ rfl rfl rfl (by decide) ⟨_, rfl⟩ (gp_k hG hb) (Nat.le_of_ble_eq_true rfl) rfl h (fun r1 σ1 h => ?_)
  refine tn_if_eq (tgt := 20) (pc := 5) hΓ d_X1_isLaidAsAct_5 (by decide) (fun hq => ?_) (fun hq => ?_)
  · have h := h.1 hq
    refine tn_iconst (pc := 20) hΓ d_X1_isLaidAsAct_20 ic_0 ?_
    exact tn_ret_z (pc := 21) hΓ hK d_X1_isLaidAsAct_21 rfl (by decide) (by decide) (Or.inl rfl) h
  · have h := h.2 hq
    refine tn_aload_n (pc := 8) hΓ d_X1_isLaidAsAct_8 rfl ?_
    refine tn_getRy (y := b + 2) (pc := 9) hΓ d_X1_isLaidAsAct_9 fl_1_19 rfl (gp_k hG hb) (gp_s hG hb) ?_
    refine tn_iload_n (pc := 12) hΓ d_X1_isLaidAsAct_12 rfl ?_
    obtain ⟨hi1, h⟩ := h
    refine tn_aaldy (t := 1) (y := b + 8 + a0.toNatClampNeg) (pc := 13) hΓ d_X1_isLaidAsAct_13 (by decide) (gp_ks hG hb) hi1 (gp_S hG hb hi1) ?_
    refine tn_getI (pc := 14) hΓ d_X1_isLaidAsAct_14 fl_1_57 rfl (gp_kS hG hb (tn_inN hi1)) ?_
    refine tn_if_eq (tgt := 22) (pc := 17) hΓ d_X1_isLaidAsAct_17 (by decide) (fun hq => ?_) (fun hq => ?_)
    · have h := h.1 hq
      refine tn_aload_n (pc := 22) hΓ d_X1_isLaidAsAct_22 rfl ?_
      refine tn_getRy (y := b + 2) (pc := 23) hΓ d_X1_isLaidAsAct_23 fl_1_19 rfl (gp_k hG hb) (gp_s hG hb) ?_
      refine tn_iload_n (pc := 26) hΓ d_X1_isLaidAsAct_26 rfl ?_
      refine tn_aaldy (t := 1) (y := b + 8 + a0.toNatClampNeg) (pc := 27) hΓ d_X1_isLaidAsAct_27 (by decide) (gp_ks hG hb) hi1 (gp_S hG hb hi1) ?_
      refine tn_iconst (pc := 28) hΓ d_X1_isLaidAsAct_28 ic_1 ?_
      refine tn_putZ (pc := 29) hΓ d_X1_isLaidAsAct_29 fl_1_57 fk_1_3_1 rfl (gp_kS hG hb (tn_inN hi1)) (Or.inr rfl) ?_
      refine tn_tops (fun σ2 eσ2 => ?_)
      have h := h σ2 eσ2
      refine tn_iconst (pc := 32) hΓ d_X1_isLaidAsAct_32 ic_1 ?_
      exact tn_ret_z (pc := 33) hΓ hK d_X1_isLaidAsAct_33 rfl (by decide) (by decide) (Or.inr rfl) h
    · have h := h.2 hq
      refine tn_iconst (pc := 20) hΓ d_X1_isLaidAsAct_20 ic_0 ?_
      exact tn_ret_z (pc := 21) hΓ hK d_X1_isLaidAsAct_21 rfl (by decide) (by decide) (Or.inl rfl) h
