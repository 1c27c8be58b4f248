/-! ===== call: parish, the class's and the model's ===== -/
section QZ
variable {ks : List (Nat × Nat)} {ρ : Nat → Nat → Nat} {σ : Nat → Nat → Int32} {Γ : tn_G} {P : pp_T}
theorem op_parish (hG : tn_Gd ks ρ) (hL : ro_L σ) {a0 a1 a2 a3 : Int32} {K : Int32 → Int32 → List (Nat × Nat) → (Nat → Nat → Nat) → (Nat → Nat → Int32) → Prop} (h : ∀ r ks' ρ' σ', tn_Gd ks' ρ' → ro_L σ' → K r r ks' ρ' σ') : tn_Call m_X5_parish [.ref 2, .int a0, .int a1, .int a2, .int a3] ks ρ σ (fun v ks' ρ' σ1 => ∃ r1, v = some (.int r1) ∧ tn_Gd ks' ρ' ∧ tn_CI m_X6_parish [.ref 39, .int a0, .int a1, .int a2, .int a3] ks' ρ' σ1 (fun r2 σ2 => K r1 r2 ks' ρ' σ2)) := by
  obtain ⟨P, hw, hc, hm, ho⟩ := id hL
  have hs : ∀ (σ' : Nat → Nat → Int32), (∀ k, k < 4 → σ' 41 k = σ 41 k) → ∀ k, k < 4 → ∃ n, n ≤ 60 ∧ σ' 41 k = nI n := fun σ' e k hk => by
    obtain ⟨n, hn, en, _⟩ := (hL.s hk).2.1
    exact ⟨n, hn, (e k hk).trans en⟩
  have x3 : ∀ k, k < 4 → iw (nI k) 0 3 = false → False := fun k hk z => iw_F (iw_3' hk) z
  have x4 : ∀ k k' : Nat, k < 1000 → k' < 1000 → nI k = nI k' → k' = k := fun k k' h1 h2 e => ((nI_eq (by omega) (by omega)).mp e).symm
  refine tn_intro (by decide) (Nat.le_of_ble_eq_true rfl) (fun Γ hΓ hK => k_X5_parish_0 hG hΓ hK a0 a1 a2 a3 ?_)
  intro σ1 e1
  have u1 : ∀ c x, ¬ (c = 2 ∧ x = 9) → σ1 c x = σ c x := fun c x z => by rw [e1]; exact tn_u_n (by omega)
  have hs1 : ∀ k, k < 4 → ∃ n, n ≤ 60 ∧ σ1 41 k = nI n := hs _ (fun k _ => u1 _ _ (by omega))
  have f0 : ro_L (tn_u σ1 39 0 0) := by rw [e1]; exact ro_f0 hL
  refine q5_isSheet hG (bn (fun q => ?_) (fun q => ⟨_, rfl, hG, m6_parish hG hs1 (fun _ => h _ _ _ _ hG f0) (fun z => iw_F z q) (fun k hk e => by rw [e] at q; exact (x3 k hk q).elim) (fun k hk e => by rw [e] at q; exact (x3 k hk q).elim) (fun k hk e => by rw [e] at q; exact (x3 k hk q).elim)⟩))
  refine q5_isLane hG (bn (fun q2 => ?_) (fun q2 => ⟨_, rfl, hG, m6_parish hG hs1 (fun z => iw_F q z) (fun _ _ => h _ _ _ _ hG f0) (fun k hk e z => iw_F z q2) (fun k hk e z => iw_F z q2) (fun k hk e z => iw_F z q2)⟩))
  obtain ⟨k, hk, rfl⟩ := iw_3 q
  have o1 : ro_1 σ1 k := by rw [e1]; exact (hL.s hk).g
  rw [nI_cl (by omega)]
  refine ⟨vp_in_nI (by omega) (by omega), q5_foc hG hk o1 ⟨fun q5 => ?_, fun q5 => q5_faulted hG ⟨_, rfl, hG, ?_⟩⟩⟩
  · obtain ⟨g1, g2, g3, g4⟩ := f_ag0 q5
    obtain ⟨n0, hn0, en0⟩ := hs1 k hk
    rw [en0] at g4
    obtain ⟨i, n, hin, ei, en⟩ := hc_nI hn0 g4
    subst ei
    subst en
    have hf : ∀ x, x < n → σ1 (31 + 2 * k + 1) (i + x) = (fun x => σ 42 (60 * k + i + x)) x := fun x hx => by
      rw [o1.2.2 (i + x) (by omega), u1 _ _ (by omega)]
      show σ 42 (60 * k + (i + x)) = σ 42 (60 * k + i + x)
      rw [show 60 * k + (i + x) = 60 * k + i + x by omega]
    refine tn_cv (As := [.ref (31 + 2 * k), .int (nI i), .int (nI n)]) (st := []) (x := 2) (pc := 61) hΓ d_X5_parish_61 mv_X5_firstFaultOfText im_X5_firstFaultOfText se_X5_firstFaultOfText ml_5_66 ⟨⟨by decide, by decide⟩, by decide, by decide⟩ rfl (i := 5) (by decide) ⟨_, rfl⟩ (gd_k hG (c := 2) rfl) (Nat.le_of_ble_eq_true rfl) (c5_text hG (gs_b hk) (by omega) hf (R := σ 48) (G := σ 49) (K := fun v ks' ρ' σ' => v = some (.int (tx (fun x => σ 42 (60 * k + i + x)) n 0 (0, 0, 0, 0, σ 48, σ 49)).1) ∧ tn_Gd ks' ρ' ∧ (∀ c, c < 15 ∨ (27 ≤ c ∧ c < 54) → σ' c = σ1 c) ∧ ((tx (fun x => σ 42 (60 * k + i + x)) n 0 (0, 0, 0, 0, σ 48, σ 49)).1 = -9 → rc_P σ' 15 (tx (fun x => σ 42 (60 * k + i + x)) n 0 (0, 0, 0, 0, σ 48, σ 49)).2)) (fun ρ' σ' p1 p2 p3 => ⟨rfl, p1, p2, p3⟩)) (fun v ks' ρ' σ' hh => ?_)
    obtain ⟨rfl, hG', p2, p3⟩ := hh
    have tw := tx_w (f := fun x => σ 42 (60 * k + i + x)) n 0 0 0 0 0 (σ 48) (σ 49) (by omega) ⟨by omega, by omega, by omega, fun z => by omega, fun _ => by omega, fun z => by omega, fun i hi => by omega, fun z => by omega, fun z => by omega, fun i hi => by omega⟩
    generalize hTT : tx (fun x => σ 42 (60 * k + i + x)) n 0 (0, 0, 0, 0, σ 48, σ 49) = T at p3 tw
    have v1 : ∀ c x, (c < 15 ∨ (27 ≤ c ∧ c < 54)) → ¬ (c = 2 ∧ x = 9) → σ' c x = σ c x := fun c x z1 z2 => by rw [p2 c z1, u1 c x z2]
    refine k_X5_parish_64 hG' hΓ hK _ ⟨fun z => ?_, fun z => ?_⟩
    · have hRT := p3 z
      have hwT := tw z
      refine q_become hG' pb3 pb15 (by decide) hRT hwT (fun σ2 c2 f2 σ3 e3 σ4 e4 => ?_)
      have o4 : ∀ c x, ¬ (c = 2 ∧ (x = 6 ∨ x = 7)) → σ4 c x = σ2 c x := fun c x zz => by rw [e4, tn_u_n (by omega), e3, tn_u_n (by omega)]
      have v4 : ∀ c x, (c < 3 ∨ (27 ≤ c ∧ c < 54)) → ¬ (c = 2 ∧ (x = 6 ∨ x = 7 ∨ x = 9)) → σ4 c x = σ c x := fun c x z1 z2 => by rw [o4 c x (by omega), f2 c (by omega), v1 c x (by omega) (by omega)]
      have r48 : σ4 48 = σ 48 := funext fun x => v4 48 x (by omega) (by omega)
      have r49 : σ4 49 = σ 49 := funext fun x => v4 49 x (by omega) (by omega)
      have r42 : (fun x => σ4 42 (60 * k + i + x)) = fun x => σ 42 (60 * k + i + x) := funext fun x => v4 42 _ (by omega) (by omega)
      have e32 : σ4 3 2 = T.2 0 2 := by rw [o4 3 2 (by omega)]; exact c2.1 2 (by omega) (by omega)
      rw [e32]
      have hfa : ∀ k', k' < 4 → f_ag σ4 k' a1 (nI i) (nI n) = f_ag σ1 k' a1 (nI i) (nI n) := fun k' hk' => f_agc (by rw [v4 40 k' (by omega) (by omega), u1 40 k' (by omega)]) (by rw [v4 41 k' (by omega) (by omega), u1 41 k' (by omega)])
      refine ⟨_, rfl, hG', m6_parish hG' (hs _ (fun k _ => v4 41 k (by omega) (by omega))) (fun zz => (x3 k hk zz).elim) (fun _ zz => iw_F q2 zz) (fun k' hk' e _ zz => ?_) (fun k' hk' e _ zz i' n' hin' ei en j' hj1 hj2 => ?_) (fun k' hk' e _ zz i' n' hin' ei en P' hP σ5 m5 g1 g2 g3 g4 g5 => ?_)⟩
      · rw [x4 k k' (by omega) (by omega) e, hfa k hk] at zz
        exact absurd q5 zz
      · rw [x4 k k' (by omega) (by omega) e, x4 i i' (by omega) (by omega) ei, x4 n n' (by omega) (by omega) en, r48, r49, r42, hTT, z] at hj1
        have hn' := x4 n n' (by omega) (by omega) en
        exact absurd hj1.symm (nI_ne9 (by omega))
      · rw [x4 k k' (by omega) (by omega) e, x4 i i' (by omega) (by omega) ei, x4 n n' (by omega) (by omega) en, r48, r49, r42, hTT] at hP
        have eP : T.2 = P' := by rw [hP]
        rw [eP] at hwT c2 ⊢
        refine h _ _ _ _ hG' ⟨P', hwT, ?_, m5, ?_, ?_, ?_, ?_, ?_⟩
        · refine c2.fr hwT (fun c h1 h2 => funext fun x => ?_)
          rw [g1 c x (by omega) (by omega), o4 c x (by omega)]
        · intro m hm4
          have o := hL.s hm4
          have w5 : ∀ c x, 31 ≤ c → c ≤ 42 → c ≠ 39 → σ5 c x = σ c x := fun c x z1 z2 z3 => by rw [g1 c x z3 (by omega), v4 c x (by omega) (by omega)]
          exact o.c (w5 _ _ (by omega) (by omega) (by omega)) (w5 _ _ (by omega) (by omega) (by omega)) (w5 _ _ (by omega) (by omega) (by omega)) (w5 _ _ (by omega) (by omega) (by omega)) (w5 _ _ (by omega) (by omega) (by omega)) (fun _ _ => w5 _ _ (by omega) (by omega) (by omega)) (fun _ _ => w5 _ _ (by omega) (by omega) (by omega))
        · refine ⟨0, by omega, by rw [g5, nI_0], ?_, fun y hy => by omega⟩
          rw [g1 2 6 (by omega) (by omega), e4, tn_u_n (by omega), e3, tn_u_s, nI_0]
        · rw [g4, g1 2 7 (by omega) (by omega), e4, tn_u_s]
        · rw [g2, g1 2 8 (by omega) (by omega), v4 2 8 (by omega) (by omega), v4 39 1 (by omega) (by omega)]
          exact ho.2.2.2.1
        · rw [g3, g1 2 9 (by omega) (by omega), o4 2 9 (by omega), f2 2 (by omega), p2 2 (by omega), e1, tn_u_s]
    · have r48 : σ' 48 = σ 48 := funext fun x => v1 48 x (by omega) (by omega)
      have r49 : σ' 49 = σ 49 := funext fun x => v1 49 x (by omega) (by omega)
      have r42 : (fun x => σ' 42 (60 * k + i + x)) = fun x => σ 42 (60 * k + i + x) := funext fun x => v1 42 _ (by omega) (by omega)
      have hfa : ∀ k', k' < 4 → f_ag σ' k' a1 (nI i) (nI n) = f_ag σ1 k' a1 (nI i) (nI n) := fun k' hk' => f_agc (by rw [v1 40 k' (by omega) (by omega), u1 40 k' (by omega)]) (by rw [v1 41 k' (by omega) (by omega), u1 41 k' (by omega)])
      refine ⟨_, rfl, hG', m6_parish hG' (hs _ (fun k _ => v1 41 k (by omega) (by omega))) (fun zz => (x3 k hk zz).elim) (fun _ zz => iw_F q2 zz) (fun k' hk' e _ zz => ?_) (fun k' hk' e _ zz i' n' hin' ei en j' hj1 hj2 σ5 g1 g2 => ?_) (fun k' hk' e _ zz i' n' hin' ei en P' hP => ?_)⟩
      · rw [x4 k k' (by omega) (by omega) e, hfa k hk] at zz
        exact absurd q5 zz
      · rw [x4 k k' (by omega) (by omega) e, x4 i i' (by omega) (by omega) ei, x4 n n' (by omega) (by omega) en, r48, r49, r42, hTT] at hj1
        rw [hj1]
        refine h _ _ _ _ hG' (ro_pf hL (fun c x z1 z2 z3 z4 z5 z6 => ?_) ?_)
        · rw [g1 c x z3 z4 (by omega), v1 c x (by omega) (by omega)]
        · rw [g2, g1 2 9 (by omega) (by omega) (by omega), p2 2 (by omega), e1, tn_u_s]
      · rw [x4 k k' (by omega) (by omega) e, x4 i i' (by omega) (by omega) ei, x4 n n' (by omega) (by omega) en, r48, r49, r42, hTT] at hP
        exact absurd (by rw [hP]) z
  · have ef : ∀ y : Int32, f_ag (tn_u σ1 2 9 y) k a1 a2 a3 = f_ag σ1 k a1 a2 a3 := fun y => f_agc (tn_u_n (by omega)) (tn_u_n (by omega))
    have no : ∀ {A : Prop} (y : Int32) (k' : Nat), k' < 4 → nI k = nI k' → f_ag (tn_u σ1 2 9 y) k' a1 a2 a3 = 0 → A := fun y k' hk' e z => by
      rw [x4 k k' (by omega) (by omega) e, ef] at z
      exact absurd z q5
    refine m6_parish hG (hs _ (fun k _ => by rw [tn_u_n (by omega), u1 _ _ (by omega)])) (fun z => (x3 k hk z).elim) (fun _ z => iw_F q2 z) (fun k' hk' e _ z => ?_) (fun k' hk' e _ z => no _ k' hk' e z) (fun k' hk' e _ z => no _ k' hk' e z)
    rw [x4 k k' (by omega) (by omega) e, ef, e1]
    exact h _ _ _ _ hG (ro_ff hL rfl)
end QZ
