/-! ===== call: fewest ===== -/
def szr : Nat → Nat → Nat
  | 0, _ => 0
  | f + 1, q => q % 2 + szr f (q / 2)
def sz (q : Nat) : Nat := szr 5 q
theorem szr_0 : ∀ f, szr f 0 = 0
  | 0 => rfl
  | f + 1 => by unfold szr; rw [szr_0 f]
theorem szr_le : ∀ f q, szr f q ≤ f
  | 0, _ => Nat.le_refl _
  | f + 1, q => by
    unfold szr
    have := szr_le f (q / 2)
    omega
def fb (b : Nat) : Int32 := if b = 0 then -9 else nI (b - 1)
def fbc (b : Nat) : Int32 := if b = 0 then -9 else nI (sz (b - 1))
def f_fw (a : Int32) (b : Nat) : Int32 := if a = 0 then fbc b else fb b
theorem fb_9 {b : Nat} (h : b < 1000) : fb b = -9 ↔ b = 0 := by
  unfold fb
  by_cases e : b = 0
  · rw [if_pos e]; simp [e]
  · rw [if_neg e]
    exact ⟨fun z => absurd z (nI_ne9 (by omega)), fun z => absurd z e⟩
/-- is it quiet in N nights, if the set is owned -/
def fwq (P : pp_T) (N s : Nat) : Bool := decide (¬ pp_q (pp_ownA P (nI s) (pp_n P)) 0 (N + 1) = -9)
def pp_fw (P : pp_T) (N s b : Nat) : Nat → Nat
  | 0 => b
  | m + 1 => pp_fw P N (s + 1) (if (b = 0 ∨ sz s < sz (b - 1)) ∧ pp_dr P (nI s) = true ∧ fwq P N s = true then s + 1 else b) m
theorem hsN_3 {P P' : pp_T} : ∀ n, (∀ h, h < n → P' (3 + h) 3 = P (3 + h) 3) → pp_hsN P' n = pp_hsN P n
  | 0, _ => rfl
  | n + 1, e => by
    unfold pp_hsN
    rw [hsN_3 n (fun h hh => e h (by omega)), e n (by omega)]
theorem oA_r {P : pp_T} (h5 : pp_n P ≤ 5) {x : Int32} (hd : pp_dr P x = true) : ∀ n, n ≤ pp_n P → ∀ i k, pp_ownA P x n i k = if 3 ≤ i ∧ i < 3 + n ∧ ¬ bi x (i - 3) = 0 ∧ k = 4 then 1 else P i k
  | 0, _, i, k => by
    rw [if_neg (by omega)]; rfl
  | n + 1, hn, i, k => by
    have ih := oA_r h5 hd n (by omega)
    rw [pp_ownA]
    by_cases q : bi x n = 0
    · rw [if_pos q, ih i k]
      by_cases c : 3 ≤ i ∧ i < 3 + n ∧ ¬ bi x (i - 3) = 0 ∧ k = 4
      · rw [if_pos c, if_pos ⟨c.1, by omega, c.2.2⟩]
      · rw [if_neg c, if_neg]
        rintro ⟨c1, c2, c3, c4⟩
        by_cases e : i = 3 + n
        · subst e
          rw [show 3 + n - 3 = n by omega] at c3
          exact c3 q
        · exact c ⟨c1, by omega, c3, c4⟩
    · rw [if_neg q]
      have hr := (dr_rk h5 hd (k := n) (by omega) q).2
      have hr' : pp_rk (pp_ownA P x n) n = true := by
        unfold pp_rk
        rw [show pp_ownA P x n (3 + n) = P (3 + n) from funext fun k => by rw [ih, if_neg (by omega)]]
        exact hr
      unfold pp_own
      rw [if_pos hr', tn_u_eq, ih i k]
      by_cases c : i = 3 + n ∧ k = 4
      · rw [if_pos c, if_pos]
        refine ⟨by omega, by omega, ?_, c.2⟩
        rw [c.1, show 3 + n - 3 = n by omega]
        exact q
      · rw [if_neg c]
        by_cases c2 : 3 ≤ i ∧ i < 3 + n ∧ ¬ bi x (i - 3) = 0 ∧ k = 4
        · rw [if_pos c2, if_pos ⟨c2.1, by omega, c2.2.2⟩]
        · rw [if_neg c2, if_neg]
          rintro ⟨c1, c3, c4, c5⟩
          by_cases e : i = 3 + n
          · exact c ⟨e, c5⟩
          · exact c2 ⟨c1, by omega, c4, c5⟩
theorem mk_K.k0 {f f' : Nat → Int32} {τ : Nat → Nat → Int32} (h : mk_K f 0 τ) (e : ∀ k, k < 15 → f' k = f k) : mk_K f' 0 τ := by
  obtain ⟨h1, h2, h3, h4, h5, h6⟩ := h
  refine ⟨fun x hx => ?_, ?_, ?_, ?_, ?_, ?_⟩
  · rw [e _ (by omega), e _ (by omega)]; exact h1 x hx
  · rw [e _ (by omega)]; exact h2
  · rw [e _ (by omega)]; exact h3
  · rw [e _ (by omega)]; exact h4
  · rw [e _ (by omega)]; exact h5
  · rw [e _ (by omega)]; exact h6
section QF
variable {ks : List (Nat × Nat)} {ρ : Nat → Nat → Nat} {σ : Nat → Nat → Int32} {Γ : tn_G} {P : pp_T}
theorem rm_ownA (hR : rm_P σ P) (hw : pp_w P) {x : Int32} (hd : pp_dr P x = true) : rm_P (tn_u σ 39 11 (σ 39 11 ||| x)) (pp_ownA P x (pp_n P)) := by
  have h5 := hw.2.1
  have h4 := hw.2.2.2.1
  have r := oA_r h5 hd (pp_n P) (Nat.le_refl _)
  obtain ⟨a1, a2, a3, a4, a5, a6, a7⟩ := hR
  have en : pp_n (pp_ownA P x (pp_n P)) = pp_n P := pp_n0 (pp_ownA_0 _)
  have em : pp_m (pp_ownA P x (pp_n P)) = pp_m P := by unfold pp_m; rw [pp_ownA_0]
  have eh : pp_hs (pp_ownA P x (pp_n P)) = pp_hs P := by
    unfold pp_hs
    rw [en]
    exact hsN_3 _ (fun h hh => by rw [r, if_neg (by omega)])
  unfold rm_P
  rw [en, em, eh, pp_ownA_0, tn_u_n (k' := 5) (Or.inr (by decide)), tn_u_n (k' := 6) (Or.inr (by decide)), tn_u_n (k' := 7) (Or.inr (by decide)), tn_u_n (k' := 8) (Or.inr (by decide)), tn_u_n (k' := 10) (Or.inr (by decide)), tn_u_n (k' := 12) (Or.inr (by decide)), tn_u_s]
  refine ⟨a1, a2, a3, a4, a5, fun h hh => ?_, fun s hs => ?_⟩
  · obtain ⟨b1, b2, b3, b4, b5⟩ := a6 h hh
    rw [tn_u_n (Or.inl (by decide)), tn_u_n (Or.inl (by decide)), tn_u_n (Or.inl (by decide)), tn_u_n (Or.inl (by decide)), bi_or _ _ (by omega), r _ 0, r _ 1, r _ 2, r _ 3, r _ 4, if_neg (by omega), if_neg (by omega), if_neg (by omega), if_neg (by omega)]
    refine ⟨b1, b2, b3, b4, ?_⟩
    by_cases q : bi x h = 0
    · rw [if_pos q, if_neg]
      · exact b5
      · rintro ⟨_, _, c, _⟩
        rw [show 3 + h - 3 = h by omega] at c
        exact c q
    · rw [if_neg q, if_pos]
      refine ⟨by omega, by omega, ?_, rfl⟩
      rw [show 3 + h - 3 = h by omega]
      exact q
  · rw [tn_u_n (Or.inl (by decide)), r _ 0, r _ 1, if_neg (by omega), if_neg (by omega)]
    exact a7 s hs
theorem l6_size (hG : tn_Gd ks ρ) {K : Option Value → List (Nat × Nat) → (Nat → Nat → Nat) → (Nat → Nat → Int32) → Prop} (hΓ : tn_is Γ m_X6_size) (hK : tn_rt Γ m_X6_size K) : ∀ f q a, q < 2 ^ f → q < 1000 → K (some (.int (nI (a + szr f q)))) ks ρ σ → tn_A Γ 4 [.null, .int (nI a), .int (nI q)] [] 0 0 ks ρ σ := by
  intro f
  induction f with
  | zero =>
    intro q a hq hq2 h
    have q0 : q = 0 := by have : q < 1 := hq; omega
    subst q0
    refine k_X6_size_4 hG hΓ hK _ _ ⟨fun _ => h, fun z => ?_⟩
    rw [nI_0] at z
    exact absurd (by decide) z
  | succ f ih =>
    intro q a hq hq2 h
    refine k_X6_size_4 hG hΓ hK _ _ ⟨fun z => ?_, fun z x ex y ey => ?_⟩
    · have q0 : q = 0 := by
        rw [← nI_0, nI_leI (by omega) (by omega)] at z; omega
      subst q0
      rw [szr_0] at h
      exact h
    · rw [pk_andN (by omega) 1 (by decide), nI_add] at ex
      rw [pk_shrN (by omega) _ 1 (by decide)] at ey
      subst ex
      subst ey
      have h2 : 2 ^ (f + 1) = 2 * 2 ^ f := by rw [Nat.pow_succ]; omega
      refine ih (q / 2 ^ 1) (a + q % 2 ^ 1) (by omega) (by omega) ?_
      unfold szr at h
      rw [show (2 : Nat) ^ 1 = 2 from rfl, Nat.add_assoc]
      exact h
theorem q6_size (hG : tn_Gd ks ρ) {s : Nat} (hs : s < 32) {K : Int32 → (Nat → Nat → Int32) → Prop} (h : K (nI (sz s)) σ) : tn_CI m_X6_size [.int (nI s)] ks ρ σ K := by
  refine tn_iI mv_X6_size (Nat.le_of_ble_eq_true rfl) (fun Γ hΓ hK => k_X6_size_0 hG hΓ hK _ ?_)
  rw [← nI_0]
  refine l6_size hG hΓ hK 5 s 0 (by omega) (by omega) ?_
  rw [tn_ki, Nat.zero_add]
  exact h
def bcf (a0 : Int32) : Int32 :=
  let x1 := a0 - ((a0.toUInt32 >>> ((1 : Int32).toUInt32 &&& Int32.toUInt32 31)).toInt32 &&& (1431655765 : Int32))
  let x2 := (x1 &&& (858993459 : Int32)) + ((x1.toUInt32 >>> ((2 : Int32).toUInt32 &&& Int32.toUInt32 31)).toInt32 &&& (858993459 : Int32))
  let x3 := (x2 + (x2.toUInt32 >>> ((4 : Int32).toUInt32 &&& Int32.toUInt32 31)).toInt32) &&& (252645135 : Int32)
  let x4 := x3 + (x3.toUInt32 >>> ((8 : Int32).toUInt32 &&& Int32.toUInt32 31)).toInt32
  let x5 := x4 + (x4.toUInt32 >>> ((16 : Int32).toUInt32 &&& Int32.toUInt32 31)).toInt32
  x5 &&& (63 : Int32)
theorem bcf_sz : ∀ s : Nat, s < 32 → bcf (nI s) = nI (sz s) := by decide +kernel
theorem qJ_bitCount (hG : tn_Gd ks ρ) {s : Nat} (hs : s < 32) {K : Int32 → (Nat → Nat → Int32) → Prop} (h : K (nI (sz s)) σ) : tn_CI m_J_bitCount [.int (nI s)] ks ρ σ K := by
  refine tn_iI mv_J_bitCount (Nat.le_of_ble_eq_true rfl) (fun Γ hΓ hK => k_J_bitCount_0 hG hΓ hK _ ?_)
  intro x1 e1 x2 e2 x3 e3 x4 e4 x5 e5
  rw [tn_ki]
  have e : x5 &&& (63 : Int32) = bcf (nI s) := by
    unfold bcf
    rw [e5, e4, e3, e2, e1]
  rw [e, bcf_sz s hs]
  exact h
theorem q5_isQuiet (hG : tn_Gd ks ρ) (hR : rc_P σ 3 P) (hw : pp_w P) (h0 : 0 < pp_n P) {s N : Nat} (hN : N ≤ 100) {K : Int32 → (Nat → Nat → Int32) → Prop} (h : ∀ σ', rc_F 15 σ σ' → K (if fwq P N s = true then 1 else 0) σ') : tn_CI m_X5_isQuietIfOwned [.ref 2, .int (nI s), .int (nI N)] ks ρ σ K := by
  refine tn_iI mv_X5_isQuietIfOwned (Nat.le_of_ble_eq_true rfl) (fun Γ hΓ hK => k_X5_isQuietIfOwned_0 hG hΓ hK _ _ ?_)
  have en : pp_n (pp_ownA P (nI s) (pp_n P)) = pp_n P := pp_n0 (pp_ownA_0 _)
  refine q_become hG pb15 pb3 (by decide) hR hw (fun σ1 c1 f1 => ?_)
  refine q_ownUpAll hG pb15 c1 hw (fun σ2 c2 f2 => ?_)
  refine q_nightsUntilQuiet hG pb15 c2 (hw.ownA _) (by rw [en]; exact h0) hN (fun σ3 f3 => ?_)
  rw [q_18 (hw.ownA _) (by rw [en]; exact h0) N, tn_ki, tn_ki]
  have h' := h σ3 ((f1.tr f2).tr f3)
  unfold fwq at h'
  refine ⟨fun q => ?_, fun q => ?_⟩
  · simpa [q] using h'
  · simpa [q] using h'
theorem l5_fewest (hG : tn_Gd ks ρ) {K : Option Value → List (Nat × Nat) → (Nat → Nat → Nat) → (Nat → Nat → Int32) → Prop} (hΓ : tn_is Γ m_X5_fewest) (hK : tn_rt Γ m_X5_fewest K) (hw : pp_w P) (h0 : 0 < pp_n P) {N : Nat} (hN : N ≤ 100) {a : Int32} {σ0 : Nat → Nat → Int32} : ∀ m s b (σ : Nat → Nat → Int32), s + m = 2 ^ pp_n P → b ≤ 32 → rc_P σ 3 P → rc_F 15 σ0 σ → (∀ σ', rc_F 15 σ0 σ' → K (some (.int (f_fw a (pp_fw P N s b m)))) ks ρ σ') → tn_A Γ 42 [.ref 2, .int (nI N), .int a, .int (fb b), .int (fbc b), .int (nI s), .null] [] 0 0 ks ρ σ := by
  intro m
  have h32 := p2_le hw.2.1
  induction m with
  | zero =>
    intro s b σ hs hb hR hF h
    refine k_X5_fewest_42 hG hΓ hK _ _ _ _ _ (q_setCount hG pb3 hR ?_)
    rw [hw.1, sc_nI hw.2.1]
    have h' := h σ hF
    unfold f_fw at h'
    refine ⟨fun _ => ⟨fun q => ?_, fun q => ?_⟩, fun q => ?_⟩
    · rw [if_neg q] at h'; exact h'
    · rw [if_pos q] at h'; exact h'
    · rw [nI_leI (by omega) (by omega)] at q; omega
  | succ m ih =>
    intro s b σ hs hb hR hF h
    refine k_X5_fewest_42 hG hΓ hK _ _ _ _ _ (q_setCount hG pb3 hR ?_)
    rw [hw.1, sc_nI hw.2.1, fb_9 (by omega)]
    unfold pp_fw at h
    have skip : ¬ ((b = 0 ∨ sz s < sz (b - 1)) ∧ pp_dr P (nI s) = true ∧ fwq P N s = true) → ∀ (σ1 : Nat → Nat → Int32), rc_F 15 σ σ1 → ∀ x : Int32, x = nI s + 1 → tn_A Γ 42 [.ref 2, .int (nI N), .int a, .int (fb b), .int (fbc b), .int x, .null] [] 0 0 ks ρ σ1 := by
      intro q σ1 f1 x ex
      rw [nI_1] at ex; subst ex
      rw [if_neg q] at h
      exact ih (s + 1) b σ1 (by omega) hb (hR.cc hw f1.c) (hF.tr f1) h
    have take : ((b = 0 ∨ sz s < sz (b - 1)) ∧ pp_dr P (nI s) = true ∧ fwq P N s = true) → ∀ (σ1 : Nat → Nat → Int32), rc_F 15 σ σ1 → ∀ x : Int32, x = nI s + 1 → tn_A Γ 42 [.ref 2, .int (nI N), .int a, .int (nI s), .int (nI (sz s)), .int x, .null] [] 0 0 ks ρ σ1 := by
      intro q σ1 f1 x ex
      rw [nI_1] at ex; subst ex
      rw [if_pos q] at h
      have := ih (s + 1) (s + 1) σ1 (by omega) (by omega) (hR.cc hw f1.c) (hF.tr f1) h
      unfold fb fbc at this
      rw [if_neg (by omega), if_neg (by omega), show s + 1 - 1 = s by omega] at this
      exact this
    refine ⟨fun q => ?_, fun _ => qJ_bitCount hG (by omega) ⟨fun q => ?_, fun q => ?_⟩⟩
    · rw [nI_leI (by omega) (by omega)] at q; omega
    · refine q_doesSetRankle hG pb3 hR hw (bz (fun q2 => skip (fun z => by rw [q2] at z; exact absurd z.2.1 (by decide)) σ rc_F.rf) (fun q2 => q5_isQuiet hG hR hw h0 hN (fun σ1 f1 => bz (fun q3 => skip (fun z => by rw [q3] at z; exact absurd z.2.2 (by decide)) σ1 f1) (fun q3 => take ⟨Or.inl q, q2, q3⟩ σ1 f1))))
    · have eb : fbc b = nI (sz (b - 1)) := by unfold fbc; rw [if_neg q]
      have b1 := szr_le 5 s
      have b2 := szr_le 5 (b - 1)
      have lt : fbc b ≤ nI (sz s) ↔ sz (b - 1) ≤ sz s := by rw [eb]; exact nI_leI (by unfold sz; omega) (by unfold sz; omega)
      rw [lt]
      refine ⟨fun q2 => skip (fun z => by rcases z.1 with z | z; exact q z; omega) σ rc_F.rf, fun q2 => q_doesSetRankle hG pb3 hR hw (bz (fun q3 => skip (fun z => by rw [q3] at z; exact absurd z.2.1 (by decide)) σ rc_F.rf) (fun q3 => q5_isQuiet hG hR hw h0 hN (fun σ1 f1 => bz (fun q4 => skip (fun z => by rw [q4] at z; exact absurd z.2.2 (by decide)) σ1 f1) (fun q4 => take ⟨Or.inr (by omega), q3, q4⟩ σ1 f1))))⟩
theorem l6_fewest (hG : tn_Gd ks ρ) {K : Option Value → List (Nat × Nat) → (Nat → Nat → Nat) → (Nat → Nat → Int32) → Prop} (hΓ : tn_is Γ m_X6_fewest) (hK : tn_rt Γ m_X6_fewest K) (hw : pp_w P) (h0 : 0 < pp_n P) {N : Nat} (hN : N ≤ 100) {a : Int32} {σ0 : Nat → Nat → Int32} (hR0 : rm_P σ0 P) : ∀ m s b (σ : Nat → Nat → Int32), s + m = 2 ^ pp_n P → b ≤ 32 → (∀ c, c ≠ 50 → σ c = σ0 c) → mk_K (σ 50) 0 σ → (∀ σ', (∀ c, c ≠ 50 → σ' c = σ0 c) → K (some (.int (f_fw a (pp_fw P N s b m)))) ks ρ σ') → tn_A Γ 49 [.ref 39, .int (nI N), .int a, .int (pp_rs P), .int (fb b), .int (nI s), .null, .null] [] 0 0 ks ρ σ := by
  intro m
  have h32 := p2_le hw.2.1
  induction m with
  | zero =>
    intro s b σ hs hb hF hk h
    have hR : rm_P σ P := hR0.c (fun c z _ => hF c z)
    refine k_X6_fewest_49 hG hΓ hK _ _ _ _ _ ?_
    rw [hR.1, hw.1, sc_nI hw.2.1, fb_9 (by omega)]
    have h' := h σ hF
    unfold f_fw at h'
    refine ⟨fun _ => ⟨fun z => ⟨fun q => ?_, fun q => ?_⟩, fun z => ?_⟩, fun q => ?_⟩
    · rw [if_neg q] at h'; exact h'
    · rw [if_pos q] at h'
      have e1 : fb b = nI (b - 1) := by unfold fb; rw [if_neg z]
      have e2 : fbc b = nI (sz (b - 1)) := by unfold fbc; rw [if_neg z]
      have h'' : K (some (.int (fbc b))) ks ρ σ := h'
      rw [e2] at h''
      rw [e1]
      exact q6_size hG (by omega) h''
    · have h2 : K (some (.int (if a = 0 then fbc b else fb b))) ks ρ σ := h'
      have e : (if a = 0 then fbc b else fb b) = -9 := by
        unfold fbc fb
        rw [if_pos z, if_pos z]
        split <;> rfl
      rw [e] at h2
      exact h2
    · rw [nI_leI (by omega) (by omega)] at q; omega
  | succ m ih =>
    intro s b σ hs hb hF hk h
    have hR : rm_P σ P := hR0.c (fun c z _ => hF c z)
    unfold pp_fw at h
    have skip : ¬ ((b = 0 ∨ sz s < sz (b - 1)) ∧ pp_dr P (nI s) = true ∧ fwq P N s = true) → ∀ (σ1 : Nat → Nat → Int32), (∀ c, c ≠ 50 → σ1 c = σ0 c) → mk_K (σ1 50) 0 σ1 → ∀ x : Int32, x = nI s + 1 → tn_A Γ 49 [.ref 39, .int (nI N), .int a, .int (pp_rs P), .int (fb b), .int x, .null, .null] [] 0 0 ks ρ σ1 := by
      intro q σ1 f1 k1 x ex
      rw [nI_1] at ex; subst ex
      rw [if_neg q] at h
      exact ih (s + 1) b σ1 (by omega) hb f1 k1 h
    have take : ((b = 0 ∨ sz s < sz (b - 1)) ∧ pp_dr P (nI s) = true ∧ fwq P N s = true) → ∀ (σ1 : Nat → Nat → Int32), (∀ c, c ≠ 50 → σ1 c = σ0 c) → mk_K (σ1 50) 0 σ1 → ∀ x : Int32, x = nI s + 1 → tn_A Γ 49 [.ref 39, .int (nI N), .int a, .int (pp_rs P), .int (nI s), .int x, .null, .null] [] 0 0 ks ρ σ1 := by
      intro q σ1 f1 k1 x ex
      rw [nI_1] at ex; subst ex
      rw [if_pos q] at h
      have := ih (s + 1) (s + 1) σ1 (by omega) (by omega) f1 k1 h
      unfold fb at this
      rw [if_neg (by omega), show s + 1 - 1 = s by omega] at this
      exact this
    have mid : ∀ w : Bool, w = decide (b = 0 ∨ sz s < sz (b - 1)) → tn_A Γ 85 [.ref 39, .int (nI N), .int a, .int (pp_rs P), .int (fb b), .int (nI s), .null, .null] [.int (if w = true then 1 else 0)] 0 0 ks ρ σ := by
      intro w ew
      refine k_X6_fewest_85 hG hΓ hK _ _ _ _ _ _ ?_
      rw [dr_iff]
      refine ⟨fun q => skip (fun z => q z.2.1) σ hF hk, fun q => bz (fun q2 => skip (fun z => ?_) σ hF hk) (fun q2 σ1 e1 => ?_)⟩
      · rw [q2] at ew
        exact of_decide_eq_false ew.symm z.1
      · have hl : b = 0 ∨ sz s < sz (b - 1) := by rw [q2] at ew; exact of_decide_eq_true ew.symm
        have m1 : rm_P σ1 (pp_ownA P (nI s) (pp_n P)) := by rw [e1]; exact rm_ownA hR hw q
        have en : pp_n (pp_ownA P (nI s) (pp_n P)) = pp_n P := pp_n0 (pp_ownA_0 _)
        refine q6_quietIn hG m1 (hw.ownA _) (by rw [en]; exact h0) rfl hN (fun σ2 g2 => ?_)
        have back : ∀ y : Int32, (∀ (σ1 : Nat → Nat → Int32), (∀ c, c ≠ 50 → σ1 c = σ0 c) → mk_K (σ1 50) 0 σ1 → ∀ x : Int32, x = nI s + 1 → tn_A Γ 49 [.ref 39, .int (nI N), .int a, .int (pp_rs P), .int y, .int x, .null, .null] [] 0 0 ks ρ σ1) → tn_A Γ 133 [.ref 39, .int (nI N), .int a, .int (pp_rs P), .null, .int (nI s), .null, .null] [.int y] 0 0 ks ρ σ2 := by
          intro y hy
          refine k_X6_fewest_133 hG hΓ hK _ _ _ _ _ ?_
          have t50 : ∀ c, c ≠ 50 → (fun c => if c = 50 then σ2 50 else σ c) c = σ c := fun c hc => if_neg hc
          have k2 : mk_K ((fun c => if c = 50 then σ2 50 else σ c) 50) 0 (fun c => if c = 50 then σ2 50 else σ c) := by
            refine (hk.c (t50 45 (by omega)) (t50 46 (by omega)) (t50 39 (by omega))).k0 (fun x hx => ?_)
            show (if 50 = 50 then σ2 50 else σ 50) x = _
            rw [if_pos rfl, g2.2 x (by omega), e1]
            exact tn_u_n (Or.inl (by omega))
          refine q6_putBack hG nI_0.symm (by omega) (τ := fun c => if c = 50 then σ2 50 else σ c) k2 ?_ (hy _ (fun c hc => (t50 c hc).trans (hF c hc)) k2)
          have u1 : rm_F σ σ1 := by rw [e1]; exact rm_F.u (by omega)
          refine ⟨fun c h1 h2 h3 => ?_, fun k hk => ?_, fun k hk => ?_⟩
          · by_cases e : c = 50
            · subst e; rfl
            · rw [t50 c e, g2.1 c e, u1.1 c h1 h2 h3]
          · rw [t50 39 (by omega), g2.1 39 (by omega)]; exact u1.2.1 k hk
          · rw [t50 45 (by omega), t50 46 (by omega), g2.1 45 (by omega), g2.1 46 (by omega)]; exact u1.2.2 k hk
        refine ⟨fun q3 => back _ (take ⟨hl, q, decide_eq_true q3⟩), fun q3 => back _ (skip (fun z => ?_))⟩
        have := z.2.2
        unfold fwq at this
        exact of_decide_eq_true this q3
    refine k_X6_fewest_49 hG hΓ hK _ _ _ _ _ ?_
    rw [hR.1, hw.1, sc_nI hw.2.1, fb_9 (by omega)]
    refine ⟨fun q => ?_, fun _ => ⟨fun q => ?_, fun q => ?_⟩⟩
    · rw [nI_leI (by omega) (by omega)] at q; omega
    · exact mid true (by rw [decide_eq_true (Or.inl q)])
    · have e1 : fb b = nI (b - 1) := by unfold fb; rw [if_neg q]
      have b1 := szr_le 5 s
      have b2 := szr_le 5 (b - 1)
      refine q6_size hG (by omega) ?_
      rw [e1] at mid ⊢
      refine q6_size hG (by omega) ?_
      rw [nI_leI (by unfold sz; omega) (by unfold sz; omega)]
      refine ⟨fun q2 => ?_, fun q2 => ?_⟩
      · exact mid false (by rw [decide_eq_false]; rintro (z | z); exact q z; omega)
      · exact mid true (by rw [decide_eq_true]; exact Or.inr (by omega))
theorem op_fewest (hG : tn_Gd ks ρ) (hL : ro_L σ) {a b : Int32} {K : Int32 → Int32 → (Nat → Nat → Int32) → Prop} (h : ∀ r σ', ro_L σ' → K r r σ') : tn_CI m_X5_fewest [.ref 2, .int a, .int b] ks ρ σ (fun r1 σ1 => tn_CI m_X6_fewest [.ref 39, .int a, .int b] ks ρ σ1 (fun r2 σ2 => K r1 r2 σ2)) := by
  obtain ⟨P, hw, hc, hm, ho⟩ := id hL
  refine tn_iI mv_X5_fewest (Nat.le_of_ble_eq_true rfl) (fun Γ hΓ hK => k_X5_fewest_0 hG hΓ hK a b ?_)
  refine q5_within hG (bz (fun q => ?_) (fun q => q5_within hG (bn (fun q1 => q5_hasParish hG hc hw (bn (fun q2 => ?_) (fun q2 => ?_))) (fun q1 => ?_))))
  · simp only [tn_ki]
    refine tn_iI mv_X6_fewest (Nat.le_of_ble_eq_true rfl) (fun Γ hΓ hK => k_X6_fewest_0 hG hΓ hK _ _ ?_)
    simp only [tn_ki]
    refine q6_within hG ?_
    rw [q]
    exact ⟨fun _ => h _ _ hL, fun z => absurd rfl z⟩
  · have h0 : 0 < pp_n P := of_decide_eq_true q2
    have q' := q
    obtain ⟨N, hN1, hN2, rfl⟩ := iw_nI (n := 0) (m := 60) nI_0.symm (by decide) (by omega) (by omega) q
    have go : tn_A Γ 42 [.ref 2, .int (nI N), .int b, .int (fb 0), .int (fbc 0), .int (nI 0), .null] [] 0 0 ks ρ σ := by
      refine l5_fewest hG hΓ hK hw h0 (by omega) (σ0 := σ) (2 ^ pp_n P) 0 0 σ (by omega) (by omega) hc rc_F.rf (fun σ1 f1 => ?_)
      rw [tn_ki]
      have fc := f1.c
      have m1 := hm.cc fc
      refine tn_iI mv_X6_fewest (Nat.le_of_ble_eq_true rfl) (fun Γ hΓ hK => k_X6_fewest_0 hG hΓ hK _ _ ?_)
      refine q6_within hG ?_
      rw [q']
      refine ⟨fun z => absurd z (by decide), fun _ => q6_within hG ?_⟩
      rw [q1]
      refine ⟨fun _ => ⟨fun _ => q6_whoRankle hG m1 hw (q6_keep hG nI_0.symm (by omega) (fun σ2 k2 g2 g3 => ?_)), fun z => absurd ((rm_n0 m1 hw).mp z) (by omega)⟩, fun z => absurd z (by decide)⟩
      have go2 : tn_A Γ 49 [.ref 39, .int (nI N), .int b, .int (pp_rs P), .int (fb 0), .int (nI 0), .null, .null] [] 0 0 ks ρ σ2 := by
        refine l6_fewest hG hΓ hK hw h0 (by omega) m1 (2 ^ pp_n P) 0 0 σ2 (by omega) (by omega) g2 k2 (fun σ3 g => ?_)
        rw [tn_ki]
        have fm : ro_m σ1 σ3 := fun c z _ => g c z
        exact h _ _ ⟨P, hw, (hc.cc hw fc).cm hw fm, m1.cm fm, (ho.cc fc).cm fm⟩
      rw [nI_0] at go2
      exact go2
    rw [nI_0] at go
    exact go
  · have q3 := of_decide_eq_false q2
    simp only [tn_ki]
    refine tn_iI mv_X6_fewest (Nat.le_of_ble_eq_true rfl) (fun Γ hΓ hK => k_X6_fewest_0 hG hΓ hK _ _ ?_)
    simp only [tn_ki]
    refine q6_within hG ?_
    rw [q]
    refine ⟨fun z => absurd z (by decide), fun _ => q6_within hG ?_⟩
    rw [q1]
    exact ⟨fun _ => ⟨fun z => absurd ((rm_n0 hm hw).mpr (by omega)) z, fun _ => h _ _ hL⟩, fun z => absurd z (by decide)⟩
  · simp only [tn_ki]
    refine tn_iI mv_X6_fewest (Nat.le_of_ble_eq_true rfl) (fun Γ hΓ hK => k_X6_fewest_0 hG hΓ hK _ _ ?_)
    simp only [tn_ki]
    refine q6_within hG ?_
    rw [q]
    refine ⟨fun z => absurd z (by decide), fun _ => q6_within hG ?_⟩
    rw [q1]
    exact ⟨fun z => absurd rfl z, fun _ => h _ _ hL⟩
end QF
