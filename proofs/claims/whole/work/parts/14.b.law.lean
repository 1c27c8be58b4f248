/-! ===== calls: sleep, own, lay, night, behind, quiet ===== -/
theorem iw_nI {x : Int32} {a b : Int32} {n m : Nat} (ha : a = nI n) (hb : b = nI m) (hm : m < 1000) (hn : n ≤ m) (h : iw x a b = true) : ∃ j, n ≤ j ∧ j ≤ m ∧ x = nI j := by
  unfold iw at h
  simp only [Bool.and_eq_true, decide_eq_true_eq] at h
  obtain ⟨h1, h2⟩ := h
  rw [ha] at h1
  rw [hb] at h2
  obtain ⟨j, hj, rfl⟩ := nI_of (x := x) (fun q => by
    rw [Int32.lt_iff_toInt_lt] at q
    rw [Int32.le_iff_toInt_le, nI_toInt (by omega)] at h1
    simp at q
    omega)
  exact ⟨j, (nI_leI (by omega) hj).mp h1, (nI_leI hj (by omega)).mp h2, rfl⟩
section QL2
variable {ks : List (Nat × Nat)} {ρ : Nat → Nat → Nat} {σ : Nat → Nat → Int32} {Γ : tn_G} {P : pp_T}
theorem pp_w.sl (hw : pp_w P) {n w : Nat} (hn : n < 5) (h9 : w ≤ 9) : pp_w (tn_u P (3 + n) 2 (nI w)) := by
  have h5 := hw.2.1
  have h4 := hw.2.2.2.1
  refine hw.of (funext fun k => tn_u_n (Or.inl (by omega))) (fun j hj => ?_) (fun j hj => ?_)
  · obtain ⟨a1, a2, a3, a4⟩ := hw.2.2.2.2.1 j hj
    rw [tn_u_n (k' := 0) (Or.inr (by decide)), tn_u_n (k' := 1) (Or.inr (by decide)), tn_u_n (k' := 4) (Or.inr (by decide))]
    refine ⟨a1, a2, ?_, a4⟩
    rw [tn_u_eq]
    split
    · exact ⟨w, h9, rfl⟩
    · exact a3
  · rw [tn_u_n (k' := 0) (Or.inr (by decide)), tn_u_n (k' := 1) (Or.inr (by decide))]
    exact hw.2.2.2.2.2.1 j hj
theorem op_sleep (hG : tn_Gd ks ρ) (hL : ro_L σ) {a b : Int32} {K : Int32 → Int32 → (Nat → Nat → Int32) → Prop} (h : ∀ r σ', ro_L σ' → K r r σ') : tn_CI m_X5_sleep [.ref 2, .int a, .int b] ks ρ σ (fun r1 σ1 => tn_CI m_X6_sleep [.ref 39, .int a, .int b] ks ρ σ1 (fun r2 σ2 => K r1 r2 σ2)) := by
  obtain ⟨P, hw, hc, hm, ho⟩ := id hL
  have h5 := hw.2.1
  refine tn_iI mv_X5_sleep (Nat.le_of_ble_eq_true rfl) (fun Γ hΓ hK => k_X5_sleep_0 hG hΓ hK a b ?_)
  simp only [tn_ki]
  refine q_hasHouse hG pb3 ?_
  rw [hc.1 2 (by omega) (by omega)]
  refine bn (fun q => q5_within hG (bn (fun q2 => ?_) (fun q2 => ?_))) (fun q => ?_)
  · have q' := q
    rw [hw.1] at q'
    obtain ⟨j, hj, rfl⟩ := ib_nI (by omega) q'
    obtain ⟨w, -, hw9, rfl⟩ := iw_nI (n := 0) (m := 9) nI_0.symm (by decide) (by omega) (by omega) q2
    have hv : vp_in (nI j) 5 := vp_in_nI (by omega) (by omega)
    rw [nI_cl (by omega), hc.2.1 j hj 2 (by decide)]
    refine ⟨hv, fun x ex σ3 e3 => ?_⟩
    subst ex
    have c3 : rc_P σ3 3 (tn_u P (3 + j) 2 (nI w)) := by rw [e3, show 3 + 3 + j = 3 + (3 + j) by omega]; exact hc.u (Or.inl (by omega))
    have f3 : rc_F 3 σ σ3 := by rw [e3]; exact rc_F.u (by omega) (by omega)
    have m3 : rm_P σ3 P := rm_two hm f3
    refine tn_iI mv_X6_sleep (Nat.le_of_ble_eq_true rfl) (fun Γ hΓ hK => k_X6_sleep_0 hG hΓ hK _ _ ?_)
    simp only [tn_ki]
    refine q6_isHouse hG ?_
    rw [m3.1, q]
    refine ⟨fun _ => q6_within hG ?_, fun z => absurd z (by decide)⟩
    rw [q2]
    refine ⟨fun _ => ⟨hv, fun x ex σ4 e4 => ?_⟩, fun z => absurd z (by decide)⟩
    rw [nI_cl (by omega), (m3.2.2.2.2.2.1 j hj).2.2.1] at ex
    rw [nI_cl (by omega)] at e4
    subst ex
    refine h _ _ (ro_two ho (hw.sl (by omega) hw9) c3 f3 (by rw [e4]; exact rm_sleep m3 hw hj) (by rw [e4]; exact rm_F.u (Or.inr (Or.inl ⟨rfl, by omega⟩))) (by rw [e4, tn_u_n (Or.inl (by decide))]))
  · refine tn_iI mv_X6_sleep (Nat.le_of_ble_eq_true rfl) (fun Γ hΓ hK => k_X6_sleep_0 hG hΓ hK _ _ ?_)
    simp only [tn_ki]
    refine q6_isHouse hG ?_
    rw [hm.1, q]
    refine ⟨fun _ => q6_within hG ?_, fun z => absurd z (by decide)⟩
    rw [q2]
    exact ⟨fun z => absurd rfl z, fun _ => h _ _ hL⟩
  · refine tn_iI mv_X6_sleep (Nat.le_of_ble_eq_true rfl) (fun Γ hΓ hK => k_X6_sleep_0 hG hΓ hK _ _ ?_)
    simp only [tn_ki]
    refine q6_isHouse hG ?_
    rw [hm.1, q]
    exact ⟨fun z => absurd rfl z, fun _ => h _ _ hL⟩
theorem op_own (hG : tn_Gd ks ρ) (hL : ro_L σ) {a : Int32} {K : Int32 → Int32 → (Nat → Nat → Int32) → Prop} (h : ∀ r σ', ro_L σ' → K r r σ') : tn_CI m_X5_own [.ref 2, .int a] ks ρ σ (fun r1 σ1 => tn_CI m_X6_own [.ref 39, .int a] ks ρ σ1 (fun r2 σ2 => K r1 r2 σ2)) := by
  obtain ⟨P, hw, hc, hm, ho⟩ := id hL
  have h5 := hw.2.1
  refine tn_iI mv_X5_own (Nat.le_of_ble_eq_true rfl) (fun Γ hΓ hK => k_X5_own_0 hG hΓ hK a ?_)
  simp only [tn_ki]
  refine q_hasHouse hG pb3 ?_
  rw [hc.1 2 (by omega) (by omega)]
  refine bn (fun q => ?_) (fun q => ?_)
  · have q' := q
    rw [hw.1] at q'
    obtain ⟨j, hj, rfl⟩ := ib_nI (by omega) q'
    rw [nI_cl (by omega)]
    refine ⟨vp_in_nI (by omega) (by omega), q_ownUp hG (gp_kH hG pb3 (by omega)) ?_⟩
    rw [hR_rk hc hj]
    have c3 := rc_own hc hj
    have f3 : rc_F 3 σ (hw_own σ (3 + 3 + j)) := rF_own (by omega)
    have m3 : rm_P (hw_own σ (3 + 3 + j)) P := rm_two hm f3
    have key : tn_CI m_X6_own [.ref 39, .int (nI j)] ks ρ (hw_own σ (3 + 3 + j)) (fun r2 σ2 => K (if pp_rk P j = true then 1 else 0) r2 σ2) := by
      refine tn_iI mv_X6_own (Nat.le_of_ble_eq_true rfl) (fun Γ hΓ hK => k_X6_own_0 hG hΓ hK _ ?_)
      simp only [tn_ki]
      refine q6_isHouse hG ?_
      rw [m3.1, q]
      refine ⟨fun _ => q6_owns hG m3 hw hj (fun σ4 r4 f4 k4 => ?_), fun z => absurd z (by decide)⟩
      have hh := h (if pp_rk P j = true then 1 else 0) _ (ro_two ho (hw.own j) c3 f3 r4 f4 k4)
      refine bz (fun z => ?_) (fun z => ?_)
      · rw [z] at hh ⊢; exact hh
      · rw [z] at hh ⊢; exact hh
    refine bz (fun z => ?_) (fun z => ?_)
    · rw [z] at key; exact key
    · rw [z] at key; exact key
  · refine tn_iI mv_X6_own (Nat.le_of_ble_eq_true rfl) (fun Γ hΓ hK => k_X6_own_0 hG hΓ hK _ ?_)
    simp only [tn_ki]
    refine q6_isHouse hG ?_
    rw [hm.1, q]
    exact ⟨fun z => absurd rfl z, fun _ => h _ _ hL⟩
theorem pp_w.la (hw : pp_w P) {q : Nat} : pp_w (tn_u P (8 + q) 1 1) := by
  have h5 := hw.2.1
  have h4 := hw.2.2.2.1
  refine hw.of (funext fun k => tn_u_n (Or.inl (by omega))) (fun j hj => ?_) (fun j hj => ?_)
  · rw [show tn_u P (8 + q) 1 1 (3 + j) = P (3 + j) from funext fun k => tn_u_n (Or.inl (by omega))]
    exact hw.2.2.2.2.1 j hj
  · obtain ⟨a1, a2⟩ := hw.2.2.2.2.2.1 j hj
    rw [tn_u_n (k' := 0) (Or.inr (by decide)), tn_u_eq]
    refine ⟨a1, ?_⟩
    split
    · exact Or.inr rfl
    · exact a2
theorem op_lay (hG : tn_Gd ks ρ) (hL : ro_L σ) {a : Int32} {K : Int32 → Int32 → (Nat → Nat → Int32) → Prop} (h : ∀ r σ', ro_L σ' → K r r σ') : tn_CI m_X5_lay [.ref 2, .int a] ks ρ σ (fun r1 σ1 => tn_CI m_X6_lay [.ref 39, .int a] ks ρ σ1 (fun r2 σ2 => K r1 r2 σ2)) := by
  obtain ⟨P, hw, hc, hm, ho⟩ := id hL
  have h4 := hw.2.2.2.1
  refine tn_iI mv_X5_lay (Nat.le_of_ble_eq_true rfl) (fun Γ hΓ hK => k_X5_lay_0 hG hΓ hK a ?_)
  simp only [tn_ki]
  refine q_hasStone hG pb3 ?_
  rw [hc.1 3 (by omega) (by omega)]
  refine bn (fun q => ?_) (fun q => ?_)
  · have q' := q
    rw [hw.2.2.1] at q'
    obtain ⟨j, hj, rfl⟩ := ib_nI (by omega) q'
    rw [nI_cl (by omega), hc.2.2 j hj 1 (by decide)]
    refine ⟨vp_in_nI (by omega) (by omega), fun z σ2 e2 => ?_, fun z => ?_⟩
    · have c3 : rc_P σ2 3 (tn_u P (8 + j) 1 1) := by rw [e2, show 3 + 8 + j = 3 + (8 + j) by omega]; exact hc.u (Or.inl (by omega))
      have f3 : rc_F 3 σ σ2 := by rw [e2]; exact rc_F.u (by omega) (by omega)
      have m3 : rm_P σ2 P := rm_two hm f3
      have hw' : pp_w (tn_u P (8 + j) 1 1) := hw.la
      refine q_voice hG pb3 c3 hw' ?_
      refine tn_iI mv_X6_lay (Nat.le_of_ble_eq_true rfl) (fun Γ hΓ hK => k_X6_lay_0 hG hΓ hK _ ?_)
      simp only [tn_ki]
      refine q6_isStone hG ?_
      rw [m3.2.1, q]
      refine ⟨fun _ => q6_isOf hG (by omega) ?_, fun z => absurd z (by decide)⟩
      rw [(m3.2.2.2.2.2.2 j hj).2]
      refine ⟨fun _ σ4 e4 => ?_, fun z2 => absurd z z2⟩
      have m4 : rm_P σ4 (tn_u P (8 + j) 1 1) := by rw [e4]; exact rm_lay m3 hw hj
      refine q6_voiceNow hG m4 hw' ?_
      exact h _ _ (ro_two ho hw' c3 f3 m4 (by rw [e4]; exact rm_F.u (Or.inl ⟨rfl, by decide, by decide⟩)) (by rw [e4, tn_u_n (Or.inr (by decide))]))
    · refine tn_iI mv_X6_lay (Nat.le_of_ble_eq_true rfl) (fun Γ hΓ hK => k_X6_lay_0 hG hΓ hK _ ?_)
      simp only [tn_ki]
      refine q6_isStone hG ?_
      rw [hm.2.1, q]
      refine ⟨fun _ => q6_isOf hG (by omega) ?_, fun z => absurd z (by decide)⟩
      rw [(hm.2.2.2.2.2.2 j hj).2]
      exact ⟨fun z2 => absurd z2 z, fun _ => h _ _ hL⟩
  · refine tn_iI mv_X6_lay (Nat.le_of_ble_eq_true rfl) (fun Γ hΓ hK => k_X6_lay_0 hG hΓ hK _ ?_)
    simp only [tn_ki]
    refine q6_isStone hG ?_
    rw [hm.2.1, q]
    exact ⟨fun z => absurd rfl z, fun _ => h _ _ hL⟩
theorem l6_night {K : Option Value → List (Nat × Nat) → (Nat → Nat → Nat) → (Nat → Nat → Int32) → Prop} (hG : tn_Gd ks ρ) (hΓ : tn_is Γ m_X6_night) (hK : tn_rt Γ m_X6_night K) (hw : pp_w P) (h0 : 0 < pp_n P) {σ0 : Nat → Nat → Int32} {N : Nat} (hN : N ≤ 100) (h : ∀ σ', rm_P σ' (pp_pns P N) → rm_F σ0 σ' → σ' 39 9 = σ0 39 9 + nI N → K (some (.int (pp_vo (pp_pns P N)))) ks ρ σ') : ∀ m n σ, n + m = N → rm_P σ (pp_pns P n) → rm_F σ0 σ → σ 39 9 = σ0 39 9 + nI n → tn_A Γ 25 [.ref 39, .int (nI N), .int (nI n)] [] 0 0 ks ρ σ := by
  intro m
  induction m with
  | zero =>
    intro n σ hn hR hF h9
    have e : n = N := by omega
    subst e
    refine k_X6_night_25 hG hΓ hK _ _ ⟨fun _ => q6_voiceNow hG hR (hw.pns h0 _) (h σ hR hF h9), fun q => ?_⟩
    rw [nI_end (by omega) (by omega)] at q; omega
  | succ m ih =>
    intro n σ hn hR hF h9
    refine k_X6_night_25 hG hΓ hK _ _ ⟨fun q => ?_, fun _ => ?_⟩
    · rw [nI_end (by omega) (by omega)] at q; omega
    · refine q6_goesNight hG hR (hw.pns h0 n) (by rw [pp_pns_n]; exact h0) (fun σ1 r1 f1 k1 y ey => ?_)
      rw [nI_1] at ey; subst ey
      refine ih (n + 1) σ1 (by omega) r1 (hF.tr f1) ?_
      rw [k1, h9, ← nI_1, Int32.add_assoc]
theorem op_night (hG : tn_Gd ks ρ) (hL : ro_L σ) {a : Int32} {K : Int32 → Int32 → (Nat → Nat → Int32) → Prop} (h : ∀ r σ', ro_L σ' → K r r σ') : tn_CI m_X5_night [.ref 2, .int a] ks ρ σ (fun r1 σ1 => tn_CI m_X6_night [.ref 39, .int a] ks ρ σ1 (fun r2 σ2 => K r1 r2 σ2)) := by
  obtain ⟨P, hw, hc, hm, ho⟩ := id hL
  refine tn_iI mv_X5_night (Nat.le_of_ble_eq_true rfl) (fun Γ hΓ hK => k_X5_night_0 hG hΓ hK a ?_)
  simp only [tn_ki]
  refine q5_within hG (bn (fun q => q5_hasParish hG hc hw (bn (fun q2 => ?_) (fun q2 => ?_))) (fun q => ?_))
  · have h0 : 0 < pp_n P := of_decide_eq_true q2
    obtain ⟨N, hN1, hN2, rfl⟩ := iw_nI (n := 1) (m := 60) (by decide) (by decide) (by omega) (by omega) q
    refine q_passNights hG pb3 hc hw h0 (by omega) (fun σ3 c3 f3 σ4 e4 => ?_)
    have hwN := hw.pns h0 N
    have c4 : rc_P σ4 3 (pp_pns P N) := c3.fr hwN (fun c h1 h2 => by rw [e4]; exact funext fun k => tn_u_n (Or.inl (by omega)))
    have m4 : rm_P σ4 P := (rm_two hm f3).r (fun c hc => by rw [e4]; exact funext fun k => tn_u_n (Or.inl (by omega)))
    refine q_voice hG pb3 c4 hwN ?_
    refine tn_iI mv_X6_night (Nat.le_of_ble_eq_true rfl) (fun Γ hΓ hK => k_X6_night_0 hG hΓ hK _ ?_)
    simp only [tn_ki]
    refine q6_within hG ?_
    rw [q]
    refine ⟨fun _ => ⟨fun _ => ?_, fun z => absurd ((rm_n0 m4 hw).mp z) (by omega)⟩, fun z => absurd z (by decide)⟩
    refine l6_night hG hΓ hK hw h0 (by omega) (fun σ5 m5 f5 k5 => ?_) N 0 σ4 (by omega) m4 rm_F.rf (by rw [nI_0, Int32.add_zero])
    rw [tn_ki]
    refine h _ _ ⟨pp_pns P N, hwN, c4.fr hwN (fun c h1 h2 => f5.1 c (by omega) (by omega) (by omega)), m5, ?_⟩
    obtain ⟨a1, a2, a3, a4, a5⟩ := ho
    have r4 : ∀ c, ro_r c → c ≠ 2 → σ5 c = σ c := fun c hr hne => by
      unfold ro_r at hr
      rw [f5.1 c (by omega) (by omega) (by omega), e4, show tn_u σ3 2 7 (σ3 2 7 + nI N) c = σ3 c from funext fun k => tn_u_n (Or.inl (by omega)), f3 c (by omega)]
    have r2 : ∀ k, k ≠ 7 → σ5 2 k = σ 2 k := fun k hk => by
      rw [f5.1 2 (by omega) (by omega) (by omega), e4, tn_u_n (Or.inr hk), f3 2 (by omega)]
    have r39 : ∀ k, k < 8 ∨ 12 < k → σ5 39 k = σ 39 k := fun k hk => by
      rw [f5.2.1 k hk, e4, tn_u_n (Or.inl (by decide)), f3 39 (by omega)]
    refine ⟨?_, ?_, ?_, ?_, ?_⟩
    · intro k hk
      rw [r4 40 (by unfold ro_r; omega) (by omega), r4 41 (by unfold ro_r; omega) (by omega), r4 42 (by unfold ro_r; omega) (by omega), r4 (31 + 2 * k) (by unfold ro_r; omega) (by omega), r4 (31 + 2 * k + 1) (by unfold ro_r; omega) (by omega)]
      exact a1 k hk
    · unfold ro_R
      rw [r39 26 (by omega), r2 6 (by omega), r4 28 (by unfold ro_r; omega) (by omega), r4 29 (by unfold ro_r; omega) (by omega), r4 52 (by unfold ro_r; omega) (by omega), r4 53 (by unfold ro_r; omega) (by omega)]
      exact a2
    · rw [k5, f5.1 2 (by omega) (by omega) (by omega), e4, tn_u_s, tn_u_n (Or.inl (by decide)), f3 2 (by omega), f3 39 (by omega), a3]
    · rw [r2 8 (by omega), r39 1 (by omega)]; exact a4
    · rw [r2 9 (by omega), r39 0 (by omega)]; exact a5
  · refine tn_iI mv_X6_night (Nat.le_of_ble_eq_true rfl) (fun Γ hΓ hK => k_X6_night_0 hG hΓ hK _ ?_)
    simp only [tn_ki]
    refine q6_within hG ?_
    rw [q]
    have q3 := of_decide_eq_false q2
    exact ⟨fun _ => ⟨fun z => absurd ((rm_n0 hm hw).mpr (by omega)) z, fun _ => h _ _ hL⟩, fun z => absurd z (by decide)⟩
  · refine tn_iI mv_X6_night (Nat.le_of_ble_eq_true rfl) (fun Γ hΓ hK => k_X6_night_0 hG hΓ hK _ ?_)
    simp only [tn_ki]
    refine q6_within hG ?_
    rw [q]
    exact ⟨fun z => absurd rfl z, fun _ => h _ _ hL⟩
theorem op_quiet (hG : tn_Gd ks ρ) (hL : ro_L σ) {K : Int32 → Int32 → (Nat → Nat → Int32) → Prop} (h : ∀ r σ', ro_L σ' → K r r σ') : tn_CI m_X5_quiet [.ref 2] ks ρ σ (fun r1 σ1 => tn_CI m_X6_quiet [.ref 39] ks ρ σ1 (fun r2 σ2 => K r1 r2 σ2)) := by
  obtain ⟨P, hw, hc, hm, ho⟩ := id hL
  refine tn_iI mv_X5_quiet (Nat.le_of_ble_eq_true rfl) (fun Γ hΓ hK => k_X5_quiet_0 hG hΓ hK ?_)
  simp only [tn_ki]
  refine q5_hasParish hG hc hw (bn (fun q2 => ?_) (fun q2 => ?_))
  · have h0 : 0 < pp_n P := of_decide_eq_true q2
    refine q_become hG pb15 pb3 (by decide) hc hw (fun σ1 c1 f1 => ?_)
    rw [show (60 : Int32) = nI 60 from by decide]
    refine q_nightsUntilQuiet hG pb15 c1 hw h0 (by omega) (fun σ2 f2 => ?_)
    have fc : ro_c σ σ2 := (f1.tr f2).c
    have m2 := hm.cc fc
    refine tn_iI mv_X6_quiet (Nat.le_of_ble_eq_true rfl) (fun Γ hΓ hK => k_X6_quiet_0 hG hΓ hK ?_)
    simp only [tn_ki]
    refine ⟨fun _ => q6_quietIn hG m2 hw h0 (N := 60) (by decide) (by omega) (fun σ3 s3 => ?_), fun z => absurd ((rm_n0 m2 hw).mp z) (by omega)⟩
    rw [← q_18 hw h0 60]
    exact h _ _ ⟨P, hw, (hc.cc hw fc).cm hw s3.m, m2.cm s3.m, (ho.cc fc).cm s3.m⟩
  · have q3 := of_decide_eq_false q2
    refine tn_iI mv_X6_quiet (Nat.le_of_ble_eq_true rfl) (fun Γ hΓ hK => k_X6_quiet_0 hG hΓ hK ?_)
    simp only [tn_ki]
    exact ⟨fun z => absurd ((rm_n0 hm hw).mpr (by omega)) z, fun _ => h _ _ hL⟩
/-- what behind answers -/
def f_behind (P : pp_T) (N : Nat) (b : Int32) : Int32 := if b = 0 then pp_vo (pp_pns P N) else if b = 1 then pp_pns P N 0 5 else pp_hs (pp_pns P N) - pp_hs P
theorem l6_behind {K : Option Value → List (Nat × Nat) → (Nat → Nat → Nat) → (Nat → Nat → Int32) → Prop} (hG : tn_Gd ks ρ) (hΓ : tn_is Γ m_X6_behind) (hK : tn_rt Γ m_X6_behind K) (hw : pp_w P) (h0 : 0 < pp_n P) {τ : Nat → Nat → Int32} (hk : mk_K (τ 50) 0 τ) {b : Int32} {N : Nat} (hN : N ≤ 100) (h : K (some (.int (f_behind P N b))) ks ρ τ) : ∀ m n σ, n + m = N → rm_P σ (pp_pns P n) → rm_F τ σ → tn_A Γ 45 [.ref 39, .int (nI N), .int b, .int (pp_hs P), .int (nI n)] [] 0 0 ks ρ σ := by
  intro m
  induction m with
  | zero =>
    intro n σ hn hR hF
    have e : n = N := by omega
    subst e
    refine k_X6_behind_45 hG hΓ hK _ _ _ _ ⟨fun _ => ⟨fun q0 => ⟨fun q1 x ex => ?_, fun q1 x ex => ?_⟩, fun q0 => ?_⟩, fun q => ?_⟩
    · subst ex
      refine q6_putBack hG nI_0.symm (by omega) hk hF ?_
      unfold f_behind at h
      rw [if_neg q0, if_neg q1] at h
      rw [hR.2.2.2.2.1]; exact h
    · subst ex
      refine q6_putBack hG nI_0.symm (by omega) hk hF ?_
      unfold f_behind at h
      rw [if_neg q0, if_pos q1] at h
      rw [hR.2.2.2.1]; exact h
    · refine q6_voiceNow hG hR (hw.pns h0 _) (q6_putBack hG nI_0.symm (by omega) hk hF ?_)
      unfold f_behind at h
      rw [if_pos q0] at h; exact h
    · rw [nI_end (by omega) (by omega)] at q; omega
  | succ m ih =>
    intro n σ hn hR hF
    refine k_X6_behind_45 hG hΓ hK _ _ _ _ ⟨fun q => ?_, fun _ => ?_⟩
    · rw [nI_end (by omega) (by omega)] at q; omega
    · refine q6_goesNight hG hR (hw.pns h0 n) (by rw [pp_pns_n]; exact h0) (fun σ1 r1 f1 k1 y ey => ?_)
      rw [nI_1] at ey; subst ey
      exact ih (n + 1) σ1 (by omega) r1 (hF.tr f1)
theorem op_behind (hG : tn_Gd ks ρ) (hL : ro_L σ) {a b : Int32} {K : Int32 → Int32 → (Nat → Nat → Int32) → Prop} (h : ∀ r σ', ro_L σ' → K r r σ') : tn_CI m_X5_behind [.ref 2, .int a, .int b] ks ρ σ (fun r1 σ1 => tn_CI m_X6_behind [.ref 39, .int a, .int b] ks ρ σ1 (fun r2 σ2 => K r1 r2 σ2)) := by
  obtain ⟨P, hw, hc, hm, ho⟩ := id hL
  refine tn_iI mv_X5_behind (Nat.le_of_ble_eq_true rfl) (fun Γ hΓ hK => k_X5_behind_0 hG hΓ hK a b ?_)
  simp only [tn_ki]
  refine q5_within hG (bz (fun q => ?_) (fun q => q5_within hG (bn (fun q1 => q5_hasParish hG hc hw (bn (fun q2 => ?_) (fun q2 => ?_))) (fun q1 => ?_))))
  · refine tn_iI mv_X6_behind (Nat.le_of_ble_eq_true rfl) (fun Γ hΓ hK => k_X6_behind_0 hG hΓ hK _ _ ?_)
    simp only [tn_ki]
    refine q6_within hG ?_
    rw [q]
    exact ⟨fun _ => h _ _ hL, fun z => absurd rfl z⟩
  · have h0 : 0 < pp_n P := of_decide_eq_true q2
    obtain ⟨N, hN1, hN2, rfl⟩ := iw_nI (n := 0) (m := 60) nI_0.symm (by decide) (by omega) (by omega) q
    have hwN := hw.pns h0 N
    refine q_become hG pb15 pb3 (by decide) hc hw (fun σ1 c1 f1 => ?_)
    refine q_passNights hG pb15 c1 hw h0 (by omega) (fun σ2 c2 f2 => ?_)
    have fc : ro_c σ σ2 := (f1.tr f2).c
    have m2 := hm.cc fc
    have key : tn_CI m_X6_behind [.ref 39, .int (nI N), .int b] ks ρ σ2 (fun r2 σ2 => K (f_behind P N b) r2 σ2) := by
      refine tn_iI mv_X6_behind (Nat.le_of_ble_eq_true rfl) (fun Γ hΓ hK => k_X6_behind_0 hG hΓ hK _ _ ?_)
      refine q6_within hG ?_
      rw [q]
      refine ⟨fun z => absurd z (by decide), fun _ => q6_within hG ?_⟩
      rw [q1]
      refine ⟨fun _ => ⟨fun _ => ?_, fun z => absurd ((rm_n0 m2 hw).mp z) (by omega)⟩, fun z => absurd z (by decide)⟩
      refine q6_keep hG nI_0.symm (by omega) (fun σ3 k3 g3 g4 x ex => ?_)
      have m3 : rm_P σ3 P := m2.c (fun c h1 _ => g3 c h1)
      rw [m3.2.2.2.2.1] at ex
      subst ex
      have s3 : ro_m σ2 σ3 := fun c h1 _ => g3 c h1
      refine l6_behind hG hΓ hK hw h0 k3 (by omega) ?_ N 0 σ3 (by omega) m3 rm_F.rf
      rw [tn_ki]
      exact h _ _ ⟨P, hw, (hc.cc hw fc).cm hw s3, m3, (ho.cc fc).cm s3⟩
    unfold f_behind at key
    refine ⟨fun z0 => ⟨fun z1 => ?_, fun z1 => ?_⟩, fun z0 => ?_⟩
    · rw [if_neg z0, if_neg z1] at key
      exact q_hatsLost hG pb15 c2 hwN (q_hatsLost hG pb3 (hc.cc hw fc) hw key)
    · rw [if_neg z0, if_pos z1] at key
      rw [c2.1 5 (by omega) (by omega)]; exact key
    · rw [if_pos z0] at key
      exact q_voice hG pb15 c2 hwN key
  · have q3 := of_decide_eq_false q2
    refine tn_iI mv_X6_behind (Nat.le_of_ble_eq_true rfl) (fun Γ hΓ hK => k_X6_behind_0 hG hΓ hK _ _ ?_)
    simp only [tn_ki]
    refine q6_within hG ?_
    rw [q]
    refine ⟨fun z => absurd z (by decide), fun _ => q6_within hG ?_⟩
    rw [q1]
    exact ⟨fun _ => ⟨fun z => absurd ((rm_n0 hm hw).mpr (by omega)) z, fun _ => h _ _ hL⟩, fun z => absurd z (by decide)⟩
  · refine tn_iI mv_X6_behind (Nat.le_of_ble_eq_true rfl) (fun Γ hΓ hK => k_X6_behind_0 hG hΓ hK _ _ ?_)
    simp only [tn_ki]
    refine q6_within hG ?_
    rw [q]
    refine ⟨fun z => absurd z (by decide), fun _ => q6_within hG ?_⟩
    rw [q1]
    exact ⟨fun z => absurd rfl z, fun _ => h _ _ hL⟩
end QL2
