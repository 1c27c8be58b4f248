/-! ===== calls: put, cell, copy ===== -/
theorem iw_3 {a : Int32} (q : iw a 0 3 = true) : ∃ k, k < 4 ∧ a = nI k := by
  obtain ⟨k, -, hk, e⟩ := iw_nI (n := 0) (m := 3) nI_0.symm (by decide) (by omega) (by omega) q
  exact ⟨k, by omega, e⟩
theorem iw_3' {k : Nat} (hk : k < 4) : iw (nI k) 0 3 = true := by
  have : k = 0 ∨ k = 1 ∨ k = 2 ∨ k = 3 := by omega
  rcases this with e | e | e | e <;> subst e <;> decide
section QL5
variable {ks : List (Nat × Nat)} {ρ : Nat → Nat → Nat} {σ : Nat → Nat → Int32} {Γ : tn_G} {P : pp_T}
theorem ro_1.f {k : Nat} (h : ro_1 σ k) {x : Int32} : ro_1 (tn_u σ 39 0 x) k := h.c (tn_u_n (by omega)) (tn_u_n (by omega)) (tn_u_n (by omega)) (tn_u_n (by omega)) (tn_u_n (by omega)) (fun _ _ => tn_u_n (by omega)) (fun _ _ => tn_u_n (by omega))
theorem ro_1.g {k : Nat} (h : ro_1 σ k) {x : Int32} : ro_1 (tn_u σ 2 9 x) k := h.c (tn_u_n (by omega)) (tn_u_n (by omega)) (tn_u_n (by omega)) (tn_u_n (by omega)) (tn_u_n (by omega)) (fun _ _ => tn_u_n (by omega)) (fun _ _ => tn_u_n (by omega))
theorem m6_put (hG : tn_Gd ks ρ) {a0 a1 a2 : Int32} {K : Int32 → (Nat → Nat → Int32) → Prop} (hs : ∀ k, k < 4 → ∃ n, n ≤ 60 ∧ σ 41 k = nI n)
    (h0 : iw a0 0 3 = false → K (-1) (tn_u σ 39 0 0))
    (h1 : ∀ k, k < 4 → a0 = nI k → σ 40 k = -9 → K (-10 - 1) (tn_u (tn_u σ 39 0 0) 39 0 1))
    (h2 : ∀ k, k < 4 → a0 = nI k → ¬ σ 40 k = -9 → hc (σ 41 k) a1 1 = false → K (-10 - 3) (tn_u (tn_u σ 39 0 0) 39 0 3))
    (h3 : ∀ k, k < 4 → a0 = nI k → ¬ σ 40 k = -9 → hc (σ 41 k) a1 1 = true → ∀ j, j < 60 → a1 = nI j → K 1 (tn_u (tn_u σ 39 0 0) 42 (60 * k + j) (cutv (σ 40 k) a2))) : tn_CI m_X6_put [.ref 39, .int a0, .int a1, .int a2] ks ρ σ K := by
  refine tn_iI mv_X6_put (Nat.le_of_ble_eq_true rfl) (fun Γ hΓ hK => k_X6_put_0 hG hΓ hK a0 a1 a2 ?_)
  simp only [tn_ki]
  intro σ1 e1
  refine q6_isSheet hG (bn (fun q => ?_) (fun q => by rw [e1]; exact h0 q))
  obtain ⟨k, hk, rfl⟩ := iw_3 q
  rw [nI_cl (by omega)]
  have e40 : σ1 40 k = σ 40 k := by rw [e1]; exact tn_u_n (by omega)
  have e41 : σ1 41 k = σ 41 k := by rw [e1]; exact tn_u_n (by omega)
  rw [e40, e41]
  obtain ⟨n, hn, en⟩ := hs k hk
  have ho := hc_one hn (i := a1)
  rw [← en] at ho
  refine ⟨vp_in_nI (by omega) (by omega), fun q2 => q6_within hG (bn (fun q3 => ?_) (fun q3 => q6_fails hG (by rw [e1]; exact h2 k hk rfl q2 (ho.trans q3)))), fun q2 => q6_fails hG (by rw [e1]; exact h1 k hk rfl q2)⟩
  have q4 := ho.trans q3
  have q5 := q4
  rw [en] at q5
  obtain ⟨j, p, hjp, ej, ep⟩ := hc_nI hn q5
  have p1 : p = 1 := ((nI_eq (by omega) (by omega)).mp ((show nI 1 = (1 : Int32) by decide).trans ep)).symm
  subst p1
  subst ej
  have e : (60 : Int32) * nI k + nI j = nI (60 * k + j) := by rw [show (60 : Int32) = nI 60 by decide, pk_mul, nI_add]
  rw [e40, e, nI_cl (by omega)]
  have h3' := h3 k hk rfl q2 q4 j (by omega) rfl
  rw [← e1] at h3'
  unfold cutv at h3'
  refine ⟨fun r1 => ⟨fun r2 => ⟨vp_in_nI (by omega) (by omega), fun σ2 e2 => ?_⟩, fun r2 => ⟨vp_in_nI (by omega) (by omega), fun σ2 e2 => ?_⟩⟩, fun r1 => ⟨vp_in_nI (by omega) (by omega), fun σ2 e2 => ?_⟩⟩
  · rw [if_neg r1, if_neg r2] at h3'; rw [e2]; exact h3'
  · rw [if_neg r1, if_pos r2] at h3'; rw [e2]; exact h3'
  · rw [if_pos r1] at h3'; rw [e2]; exact h3'
theorem op_put (hG : tn_Gd ks ρ) (hL : ro_L σ) {a b c : Int32} {K : Int32 → Int32 → (Nat → Nat → Int32) → Prop} (h : ∀ r σ', ro_L σ' → K r r σ') : tn_CI m_X5_put [.ref 2, .int a, .int b, .int c] ks ρ σ (fun r1 σ1 => tn_CI m_X6_put [.ref 39, .int a, .int b, .int c] ks ρ σ1 (fun r2 σ2 => K r1 r2 σ2)) := by
  have hs : ∀ (σ' : Nat → Nat → Int32), (∀ k, k < 4 → σ' 41 k = σ 41 k) → ∀ k, k < 4 → ∃ n, n ≤ 60 ∧ σ' 41 k = nI n := fun σ' e k hk => by
    obtain ⟨n, hn, en, _⟩ := (hL.s hk).2.1
    exact ⟨n, hn, (e k hk).trans en⟩
  refine tn_iI mv_X5_put (Nat.le_of_ble_eq_true rfl) (fun Γ hΓ hK => k_X5_put_0 hG hΓ hK a b c ?_)
  simp only [tn_ki]
  intro σ1 e1
  refine q5_isSheet hG (bn (fun q => ?_) (fun q => ?_))
  · have q' := q
    obtain ⟨k, hk, rfl⟩ := iw_3 q
    have o := hL.s hk
    have o1 : ro_1 σ1 k := by rw [e1]; exact o.g
    have e40 : σ1 40 k = σ 40 k := by rw [e1]; exact tn_u_n (by omega)
    have e41 : σ1 41 k = σ 41 k := by rw [e1]; exact tn_u_n (by omega)
    rw [nI_cl (by omega), o1.z, e40]
    refine ⟨vp_in_nI (by omega) (by omega), fun q2 => q2_hasCells hG (gs_b hk) ?_, fun q2 => q5_faulted hG ?_⟩
    · obtain ⟨n, hn, en, en3⟩ := o1.2.1
      rw [en3]
      refine bn (fun q3 => q2_cut hG (gs_b hk) ?_) (fun q3 => q5_faulted hG ?_)
      · rw [o1.l (by rw [e40]; exact q2), e40]
        obtain ⟨j, p, hjp, ej, ep⟩ := hc_nI hn q3
        have p1 : p = 1 := ((nI_eq (by omega) (by omega)).mp ((show nI 1 = (1 : Int32) by decide).trans ep)).symm
        subst p1
        subst ej
        rw [nI_cl (by omega)]
        refine ⟨vp_in_nI (by omega) (by omega), fun σ2 e2 => ?_⟩
        have f40 : σ2 40 k = σ 40 k := by rw [e2, tn_u_n (by omega)]; exact e40
        have f41 : ∀ k, σ2 41 k = σ 41 k := fun k => by rw [e2, tn_u_n (by omega), e1]; exact tn_u_n (by omega)
        refine m6_put hG (hs _ (fun k _ => f41 k)) (fun z => iw_F q' z) (fun k' hk' ek z => ?_) (fun k' hk' ek _ z => ?_) (fun k' hk' ek _ _ j' hj' ej => ?_)
        · have : k' = k := ((nI_eq (by omega) (by omega)).mp ek).symm
          subst this
          exact absurd (f40.symm.trans z) q2
        · have : k' = k := ((nI_eq (by omega) (by omega)).mp ek).symm
          subst this
          rw [f41, ← e41, en] at z
          exact iw_F q3 z
        · have : k' = k := ((nI_eq (by omega) (by omega)).mp ek).symm
          subst this
          have : j' = j := ((nI_eq (by omega) (by omega)).mp ej).symm
          subst this
          rw [f40, e2, e1]
          refine h _ _ (ro_sh hL (fun c j z1 z2 z3 z4 => ?_) (fun m hm => ?_) ?_)
          · rw [tn_u_n (by omega), tn_u_n (by omega), tn_u_n (by omega), tn_u_n (by omega)]
          · by_cases e : m = k'
            · subst e
              unfold ro_1
              have w2 : ∀ c' j, ¬ (c' = 42 ∧ j = 60 * m + j') → ¬ (c' = 39 ∧ j = 0) → ¬ (c' = 31 + 2 * m + 1 ∧ j = j') → ¬ (c' = 2 ∧ j = 9) → tn_u (tn_u (tn_u (tn_u σ 2 9 0) (31 + 2 * m + 1) j' (cutv (σ 40 m) c)) 39 0 0) 42 (60 * m + j') (cutv (σ 40 m) c) c' j = σ c' j := fun c' j z1 z2 z3 z4 => by rw [tn_u_n (by omega), tn_u_n (by omega), tn_u_n (by omega), tn_u_n (by omega)]
              rw [w2 40 m (by omega) (by omega) (by omega) (by omega), w2 41 m (by omega) (by omega) (by omega) (by omega), w2 (31 + 2 * m) 1 (by omega) (by omega) (by omega) (by omega), w2 (31 + 2 * m) 2 (by omega) (by omega) (by omega) (by omega), w2 (31 + 2 * m) 3 (by omega) (by omega) (by omega) (by omega)]
              refine ⟨o.1, o.2.1, fun i hi => ?_⟩
              by_cases z : i = j'
              · subst z
                rw [tn_u_s, tn_u_n (by omega), tn_u_n (by omega), tn_u_s]
              · rw [w2 _ _ (by omega) (by omega) (by omega) (by omega), w2 _ _ (by omega) (by omega) (by omega) (by omega)]
                exact o.2.2 i hi
            · have w2 : ∀ c' j, ¬ (c' = 42 ∧ j = 60 * k' + j') → ¬ (c' = 39 ∧ j = 0) → ¬ (c' = 31 + 2 * k' + 1 ∧ j = j') → ¬ (c' = 2 ∧ j = 9) → tn_u (tn_u (tn_u (tn_u σ 2 9 0) (31 + 2 * k' + 1) j' (cutv (σ 40 k') c)) 39 0 0) 42 (60 * k' + j') (cutv (σ 40 k') c) c' j = σ c' j := fun c' j z1 z2 z3 z4 => by rw [tn_u_n (by omega), tn_u_n (by omega), tn_u_n (by omega), tn_u_n (by omega)]
              exact (hL.s hm).c (w2 _ _ (by omega) (by omega) (by omega) (by omega)) (w2 _ _ (by omega) (by omega) (by omega) (by omega)) (w2 _ _ (by omega) (by omega) (by omega) (by omega)) (w2 _ _ (by omega) (by omega) (by omega) (by omega)) (w2 _ _ (by omega) (by omega) (by omega) (by omega)) (fun i hi => w2 _ _ (by omega) (by omega) (by omega) (by omega)) (fun i hi => w2 _ _ (by omega) (by omega) (by omega) (by omega))
          · rw [tn_u_n (by omega), tn_u_n (by omega), tn_u_n (by omega), tn_u_s, tn_u_n (by omega), tn_u_s]
      · refine m6_put hG (hs _ (fun k _ => by rw [e1, tn_u_n (by omega), tn_u_n (by omega)])) (fun z => iw_F q' z) (fun k' hk' ek z => ?_) (fun k' hk' ek _ z => ?_) (fun k' hk' ek _ z => ?_)
        · have : k' = k := ((nI_eq (by omega) (by omega)).mp ek).symm
          subst this
          rw [tn_u_n (by omega), e40] at z
          exact absurd z q2
        · rw [e1]
          exact h _ _ (ro_ff hL rfl)
        · have : k' = k := ((nI_eq (by omega) (by omega)).mp ek).symm
          subst this
          rw [tn_u_n (by omega), en] at z
          exact iw_F z q3
    · refine m6_put hG (hs _ (fun k _ => by rw [e1, tn_u_n (by omega), tn_u_n (by omega)])) (fun z => iw_F q' z) (fun k' hk' ek z => ?_) (fun k' hk' ek z => ?_) (fun k' hk' ek z => ?_)
      · rw [e1]
        exact h _ _ (ro_ff hL rfl)
      · have : k' = k := ((nI_eq (by omega) (by omega)).mp ek).symm
        subst this
        rw [tn_u_n (by omega), e40] at z
        exact absurd q2 z
      · have : k' = k := ((nI_eq (by omega) (by omega)).mp ek).symm
        subst this
        rw [tn_u_n (by omega), e40] at z
        exact absurd q2 z
  · rw [e1]
    exact m6_put hG (hs _ (fun k _ => by rw [tn_u_n (by omega)])) (fun _ => h _ _ (ro_f0 hL)) (fun k hk e => by rw [e] at q; exact iw_F (iw_3' hk) q) (fun k hk e => by rw [e] at q; exact iw_F (iw_3' hk) q) (fun k hk e => by rw [e] at q; exact iw_F (iw_3' hk) q)
/-! cell -/
theorem f_ag0 {k : Nat} {s i n : Int32} (h : f_ag σ k s i n = 0) : ¬ σ 40 k = -9 ∧ σ 40 k = s ∧ 0 ≤ n ∧ hc (σ 41 k) i n = true := by
  unfold f_ag at h
  by_cases q1 : σ 40 k = -9
  · rw [if_pos q1] at h; exact absurd h (by decide)
  · rw [if_neg q1] at h
    by_cases q2 : σ 40 k = s
    · rw [if_pos q2] at h
      by_cases q3 : 0 ≤ n
      · rw [if_pos q3] at h
        by_cases q4 : hc (σ 41 k) i n = true
        · exact ⟨q1, q2, q3, q4⟩
        · rw [if_neg q4] at h; exact absurd h (by decide)
      · rw [if_neg q3] at h; exact absurd h (by decide)
    · rw [if_neg q2] at h; exact absurd h (by decide)
theorem f_agc {σ' : Nat → Nat → Int32} {k : Nat} {s i n : Int32} (e1 : σ' 40 k = σ 40 k) (e2 : σ' 41 k = σ 41 k) : f_ag σ' k s i n = f_ag σ k s i n := by unfold f_ag; rw [e1, e2]
theorem m6_cell (hG : tn_Gd ks ρ) {a0 a1 a2 : Int32} {K : Int64 → (Nat → Nat → Int32) → Prop} (hs : ∀ k, k < 4 → ∃ n, n ≤ 60 ∧ σ 41 k = nI n)
    (h0 : iw a0 0 3 = false ∨ iw a2 0 2 = false → K (-9223372036854775808) (tn_u σ 39 0 0))
    (h1 : ∀ k, k < 4 → a0 = nI k → iw a2 0 2 = true → ¬ f_ag σ k a2 a1 1 = 0 → K (-9223372036854775808) (tn_u (tn_u σ 39 0 0) 39 0 (f_ag σ k a2 a1 1)))
    (h3 : ∀ k, k < 4 → a0 = nI k → iw a2 0 2 = true → f_ag σ k a2 a1 1 = 0 → ∀ j, j < 60 → a1 = nI j → K (σ 42 (60 * k + j)).toInt64 (tn_u σ 39 0 0)) : tn_CL m_X6_cell [.ref 39, .int a0, .int a1, .int a2] ks ρ σ K := by
  refine tn_iL mv_X6_cell (Nat.le_of_ble_eq_true rfl) (fun Γ hΓ hK => k_X6_cell_0 hG hΓ hK a0 a1 a2 ?_)
  simp only [tn_kl]
  intro σ1 e1
  refine q6_isSheet hG (bz (fun q => by rw [e1]; exact h0 (Or.inl q)) (fun q => q6_isSort hG (bn (fun q2 => ?_) (fun q2 => by rw [e1]; exact h0 (Or.inr q2)))))
  obtain ⟨k, hk, rfl⟩ := iw_3 q
  rw [nI_cl (by omega)]
  have e40 : σ1 40 k = σ 40 k := by rw [e1]; exact tn_u_n (by omega)
  have e41 : σ1 41 k = σ 41 k := by rw [e1]; exact tn_u_n (by omega)
  rw [e40, e41]
  obtain ⟨n, hn, en⟩ := hs k hk
  have ho := hc_one hn (i := a1)
  rw [← en] at ho
  have h1' := h1 k hk rfl q2
  have h3' := h3 k hk rfl q2
  rw [← e1] at h1' h3'
  unfold f_ag at h1' h3'
  refine ⟨vp_in_nI (by omega) (by omega), fun q3 => ⟨fun q4 => absurd q3 q4, fun _ => q6_lost hG ?_⟩, fun q3 => ⟨fun q4 => ⟨fun _ => q6_within hG (bn (fun q5 => ?_) (fun q5 => q6_lost hG ?_)), fun q5 => absurd q5 q3⟩, fun q4 => q6_lost hG ?_⟩⟩
  · rw [if_pos q3] at h1'; exact h1' (by decide)
  · have q6 := ho.trans q5
    rw [if_neg q3, if_pos q4, if_pos (by decide), if_pos q6] at h3'
    have q7 := q6
    rw [en] at q7
    obtain ⟨j, p, hjp, ej, ep⟩ := hc_nI hn q7
    have p1 : p = 1 := ((nI_eq (by omega) (by omega)).mp ((show nI 1 = (1 : Int32) by decide).trans ep)).symm
    subst p1
    subst ej
    have e : (60 : Int32) * nI k + nI j = nI (60 * k + j) := by rw [show (60 : Int32) = nI 60 by decide, pk_mul, nI_add]
    rw [e, nI_cl (by omega)]
    have := h3' rfl j (by omega) rfl
    rw [show σ1 42 (60 * k + j) = σ 42 (60 * k + j) by rw [e1]; exact tn_u_n (by omega)]
    exact ⟨vp_in_nI (by omega) (by omega), this⟩
  · rw [if_neg q3, if_pos q4, if_pos (by decide), if_neg (by rw [ho, q5]; decide)] at h1'; exact h1' (by decide)
  · rw [if_neg q3, if_neg q4] at h1'; exact h1' (by decide)
theorem op_cell (hG : tn_Gd ks ρ) (hL : ro_L σ) {a b c : Int32} {K : Int64 → Int64 → (Nat → Nat → Int32) → Prop} (h : ∀ r σ', ro_L σ' → K r r σ') : tn_CL m_X5_cell [.ref 2, .int a, .int b, .int c] ks ρ σ (fun r1 σ1 => tn_CL m_X6_cell [.ref 39, .int a, .int b, .int c] ks ρ σ1 (fun r2 σ2 => K r1 r2 σ2)) := by
  have hs : ∀ (σ' : Nat → Nat → Int32), (∀ k, k < 4 → σ' 41 k = σ 41 k) → ∀ k, k < 4 → ∃ n, n ≤ 60 ∧ σ' 41 k = nI n := fun σ' e k hk => by
    obtain ⟨n, hn, en, _⟩ := (hL.s hk).2.1
    exact ⟨n, hn, (e k hk).trans en⟩
  have x3 : ∀ k, k < 4 → iw (nI k) 0 3 = false → False := fun k hk z => iw_F (iw_3' hk) z
  refine tn_iL mv_X5_cell (Nat.le_of_ble_eq_true rfl) (fun Γ hΓ hK => k_X5_cell_0 hG hΓ hK a b c ?_)
  simp only [tn_kl]
  intro σ1 e1
  have h41 : ∀ k, k < 4 → σ1 41 k = σ 41 k := fun k _ => by rw [e1]; exact tn_u_n (by omega)
  have h40 : ∀ k, k < 4 → σ1 40 k = σ 40 k := fun k _ => by rw [e1]; exact tn_u_n (by omega)
  refine q5_isSheet hG (bz (fun q => ?_) (fun q => q5_isLane hG (bn (fun q2 => ?_) (fun q2 => ?_))))
  · rw [e1]
    exact m6_cell hG (hs _ (fun k _ => by rw [tn_u_n (by omega)])) (fun _ => h _ _ (ro_f0 hL)) (fun k hk e => by rw [e] at q; exact (x3 k hk q).elim) (fun k hk e => by rw [e] at q; exact (x3 k hk q).elim)
  · obtain ⟨k, hk, rfl⟩ := iw_3 q
    have o1 : ro_1 σ1 k := by rw [e1]; exact (hL.s hk).g
    rw [nI_cl (by omega)]
    refine ⟨vp_in_nI (by omega) (by omega), q5_foc hG hk o1 ⟨fun q3 => ?_, fun q3 σ2 e2 => ?_⟩⟩
    · obtain ⟨g1, g2, g3, g4⟩ := f_ag0 q3
      obtain ⟨n, hn, en, _⟩ := o1.2.1
      rw [en] at g4
      obtain ⟨j, p, hjp, ej, ep⟩ := hc_nI hn g4
      have p1 : p = 1 := ((nI_eq (by omega) (by omega)).mp ((show nI 1 = (1 : Int32) by decide).trans ep)).symm
      subst p1
      subst ej
      rw [nI_cl (by omega), o1.2.2 j (by omega)]
      refine ⟨vp_in_nI (by omega) (by omega), m6_cell hG (hs _ h41) (fun z => ?_) (fun k' hk' ek _ z => ?_) (fun k' hk' ek _ _ j' hj' ej => ?_)⟩
      · rcases z with z | z
        · exact (x3 k hk z).elim
        · exact iw_F q2 z
      · have : k' = k := ((nI_eq (by omega) (by omega)).mp ek).symm
        subst this
        exact absurd q3 z
      · have : k' = k := ((nI_eq (by omega) (by omega)).mp ek).symm
        subst this
        have : j' = j := ((nI_eq (by omega) (by omega)).mp ej).symm
        subst this
        have := h (σ1 42 (60 * k' + j')).toInt64 _ (ro_f0 hL)
        rw [← e1] at this
        exact this
    · refine m6_cell hG (hs _ (fun k hk => by rw [e2, tn_u_n (by omega)]; exact h41 k hk)) (fun z => ?_) (fun k' hk' ek _ z => ?_) (fun k' hk' ek _ z => ?_)
      · rcases z with z | z
        · exact (x3 k hk z).elim
        · exact iw_F q2 z
      · have : k' = k := ((nI_eq (by omega) (by omega)).mp ek).symm
        subst this
        have ef : f_ag σ2 k' c b 1 = f_ag σ1 k' c b 1 := f_agc (by rw [e2]; exact tn_u_n (by omega)) (by rw [e2]; exact tn_u_n (by omega))
        rw [ef, e2, e1]
        exact h _ _ (ro_ff hL rfl)
      · have : k' = k := ((nI_eq (by omega) (by omega)).mp ek).symm
        subst this
        have ef : f_ag σ2 k' c b 1 = f_ag σ1 k' c b 1 := f_agc (by rw [e2]; exact tn_u_n (by omega)) (by rw [e2]; exact tn_u_n (by omega))
        rw [ef] at z
        exact absurd z q3
  · rw [e1]
    exact m6_cell hG (hs _ (fun k _ => by rw [tn_u_n (by omega)])) (fun _ => h _ _ (ro_f0 hL)) (fun k hk e z => iw_F z q2) (fun k hk e z => iw_F z q2)
end QL5
