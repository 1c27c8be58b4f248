/-! ===== calls on sheets ===== -/
def hc (L i m : Int32) : Bool := decide (0 ≤ i) && decide (i ≤ L) && decide (0 ≤ m) && decide (m ≤ L - i)
theorem hc_nI {n : Nat} (hn : n ≤ 60) {i m : Int32} (h : hc (nI n) i m = true) : ∃ j q, j + q ≤ n ∧ i = nI j ∧ m = nI q := by
  unfold hc at h
  simp only [Bool.and_eq_true, decide_eq_true_eq] at h
  obtain ⟨⟨⟨a, b⟩, c⟩, d⟩ := h
  obtain ⟨j, -, hj, rfl⟩ := iw_nI (n := 0) (m := n) (x := i) nI_0.symm rfl (by omega) (by omega) (by unfold iw; simp [a, b])
  rw [pk_sub hj] at d
  obtain ⟨q, -, hq, rfl⟩ := iw_nI (n := 0) (m := n - j) (x := m) nI_0.symm rfl (by omega) (by omega) (by unfold iw; simp [c, d])
  exact ⟨j, q, by omega, rfl, rfl⟩
theorem hc_of {n j q : Nat} (hn : n ≤ 60) (h : j + q ≤ n) : hc (nI n) (nI j) (nI q) = true := by
  unfold hc
  rw [pk_sub (by omega)]
  simp only [Bool.and_eq_true, decide_eq_true_eq]
  exact ⟨⟨⟨nI_pos' (by omega), nI_le (by omega) (by omega)⟩, nI_pos' (by omega)⟩, nI_le (by omega) (by omega)⟩
theorem hc_one {n : Nat} (hn : n ≤ 60) {i : Int32} : hc (nI n) i 1 = iw i 0 (nI n - 1) := by
  have o1 : (1 : Int32) = nI 1 := by decide
  rw [Bool.eq_iff_iff]
  constructor
  · intro h
    obtain ⟨j, q, hjq, rfl, e⟩ := hc_nI hn h
    have e1 : q = 1 := ((nI_eq (by omega) (by omega)).mp (o1.symm.trans e)).symm
    subst e1
    rw [o1, pk_sub (by omega)]
    unfold iw
    simp only [Bool.and_eq_true, decide_eq_true_eq]
    exact ⟨nI_pos' (by omega), nI_le (by omega) (by omega)⟩
  · intro h
    by_cases z : n = 0
    · subst z
      unfold iw at h
      simp only [Bool.and_eq_true, decide_eq_true_eq] at h
      have : (0 : Int32) ≤ nI 0 - 1 := Int32.le_trans h.1 h.2
      exact absurd this (by decide)
    · rw [o1, pk_sub (by omega)] at h
      obtain ⟨j, -, hj, rfl⟩ := iw_nI (n := 0) (m := n - 1) nI_0.symm rfl (by omega) (by omega) h
      rw [o1]
      exact hc_of hn (by omega)
def ro_1 (σ : Nat → Nat → Int32) (k : Nat) : Prop := ((σ 40 k = -9 ∧ σ (31 + 2 * k) 1 = 0) ∨ ((σ 40 k = 0 ∨ σ 40 k = 1 ∨ σ 40 k = 2) ∧ σ (31 + 2 * k) 1 = 1 ∧ σ (31 + 2 * k) 2 = σ 40 k)) ∧ (∃ n, n ≤ 60 ∧ σ 41 k = nI n ∧ σ (31 + 2 * k) 3 = nI n) ∧ ∀ i, i < 60 → σ (31 + 2 * k + 1) i = σ 42 (60 * k + i)
section RL4
variable {σ σ' σ1 σ2 : Nat → Nat → Int32} {P P' : pp_T} {k : Nat}
theorem ro_1.c (h : ro_1 σ k) (e40 : σ' 40 k = σ 40 k) (e41 : σ' 41 k = σ 41 k) (e1 : σ' (31 + 2 * k) 1 = σ (31 + 2 * k) 1) (e2 : σ' (31 + 2 * k) 2 = σ (31 + 2 * k) 2) (e3 : σ' (31 + 2 * k) 3 = σ (31 + 2 * k) 3) (ec : ∀ i, i < 60 → σ' (31 + 2 * k + 1) i = σ (31 + 2 * k + 1) i) (e42 : ∀ i, i < 60 → σ' 42 (60 * k + i) = σ 42 (60 * k + i)) : ro_1 σ' k := by
  unfold ro_1
  rw [e40, e41, e1, e2, e3]
  exact ⟨h.1, h.2.1, fun i hi => by rw [ec i hi, e42 i hi]; exact h.2.2 i hi⟩
theorem ro_1.z (h : ro_1 σ k) : σ (31 + 2 * k) 1 = 0 ↔ σ 40 k = -9 := by
  rcases h.1 with ⟨a, b⟩ | ⟨a, b, c⟩
  · rw [a, b]; simp
  · rw [b]
    rcases a with a | a | a <;> rw [a] <;> decide
theorem ro_1.l (h : ro_1 σ k) (hn : ¬ σ 40 k = -9) : σ (31 + 2 * k) 2 = σ 40 k := by
  rcases h.1 with ⟨a, b⟩ | ⟨a, b, c⟩
  · exact absurd a hn
  · exact c
theorem ro_sh (hL : ro_L σ) (ha : ∀ c k, ¬ (c = 2 ∧ k = 9) → ¬ (c = 39 ∧ k = 0) → ¬ (31 ≤ c ∧ c ≤ 38) → ¬ (40 ≤ c ∧ c ≤ 42) → σ2 c k = σ c k) (hs : ∀ k, k < 4 → ro_1 σ2 k) (h9 : σ2 2 9 = σ2 39 0) : ro_L σ2 := by
  obtain ⟨P, hw, hc, hm, ho⟩ := hL
  have rw_ : ∀ c, c ≠ 2 → c ≠ 39 → ¬ (31 ≤ c ∧ c ≤ 38) → ¬ (40 ≤ c ∧ c ≤ 42) → σ2 c = σ c := fun c h1 h2 h3 h4 => funext fun k => ha c k (by omega) (by omega) h3 h4
  have r39 : ∀ k, 1 ≤ k → σ2 39 k = σ 39 k := fun k hk => ha 39 k (by omega) (by omega) (by omega) (by omega)
  have r2 : ∀ k, k < 9 → σ2 2 k = σ 2 k := fun k hk => ha 2 k (by omega) (by omega) (by omega) (by omega)
  refine ⟨P, hw, hc.fr hw (fun c h1 h2 => rw_ c (by omega) (by omega) (by omega) (by omega)), ?_, ?_⟩
  · unfold rm_P
    rw [r39 5 (by omega), r39 6 (by omega), r39 7 (by omega), r39 8 (by omega), r39 10 (by omega), r39 11 (by omega), r39 12 (by omega), rw_ 43 (by omega) (by omega) (by omega) (by omega), rw_ 44 (by omega) (by omega) (by omega) (by omega), rw_ 45 (by omega) (by omega) (by omega) (by omega), rw_ 46 (by omega) (by omega) (by omega) (by omega), rw_ 47 (by omega) (by omega) (by omega) (by omega)]
    exact hm
  · obtain ⟨a1, a2, a3, a4, a5⟩ := ho
    refine ⟨hs, ?_, ?_, ?_, h9⟩
    · unfold ro_R
      rw [r39 26 (by omega), r2 6 (by omega), rw_ 28 (by omega) (by omega) (by omega) (by omega), rw_ 29 (by omega) (by omega) (by omega) (by omega), rw_ 52 (by omega) (by omega) (by omega) (by omega), rw_ 53 (by omega) (by omega) (by omega) (by omega)]
      exact a2
    · rw [r2 7 (by omega), r39 9 (by omega)]; exact a3
    · rw [r2 8 (by omega), r39 1 (by omega)]; exact a4
theorem ro_L.s (hL : ro_L σ) {k : Nat} (hk : k < 4) : ro_1 σ k := by
  obtain ⟨P, hw, hc, hm, ho⟩ := hL
  exact ho.1 k hk
end RL4
/-- what the machine has against taking cells, by the model's cells -/
def f_ag (σ : Nat → Nat → Int32) (k : Nat) (s i n : Int32) : Int32 := if σ 40 k = -9 then 1 else if σ 40 k = s then (if 0 ≤ n then (if hc (σ 41 k) i n = true then 0 else 3) else 4) else 2
def cutv (s v : Int32) : Int32 := if s = 0 then v.toInt8.toInt32 else if s = 1 then v.toInt16.toInt32 else v
section QL4
variable {ks : List (Nat × Nat)} {ρ : Nat → Nat → Nat} {σ : Nat → Nat → Int32} {Γ : tn_G} {P : pp_T}
theorem q2_hasCells (hG : tn_Gd ks ρ) {c : Nat} (hcc : tn_Sb c) {i m : Int32} {K : Int32 → (Nat → Nat → Int32) → Prop} (h : K (if hc (σ c 3) i m = true then 1 else 0) σ) : tn_CI m_X2_hasCells [.ref c, .int i, .int m] ks ρ σ K := by
  refine tn_iI mv_X2_hasCells (Nat.le_of_ble_eq_true rfl) (fun Γ hΓ hK => k_X2_hasCells_0 hG hΓ hK c i m hcc ?_)
  simp only [tn_ki]
  unfold hc at h
  refine ⟨fun q => ?_, fun q => ⟨fun q2 => ?_, fun q2 => ⟨fun q3 => ?_, fun q3 => ⟨fun q4 => ?_, fun q4 => ?_⟩⟩⟩⟩
  · simpa [Int32.not_le.mpr q] using h
  · simpa [Int32.not_le.mpr q2] using h
  · simpa [Int32.not_le.mpr q3] using h
  · simpa [Int32.not_le.mpr q4] using h
  · simpa [Int32.not_lt.mp q, Int32.not_lt.mp q2, Int32.not_lt.mp q3, Int32.not_lt.mp q4] using h
theorem q2_cut (hG : tn_Gd ks ρ) {c : Nat} (hcc : tn_Sb c) {v : Int32} {K : Int32 → (Nat → Nat → Int32) → Prop} (h : K (cutv (σ c 2) v) σ) : tn_CI m_X2_cutToLane [.ref c, .int v] ks ρ σ K := by
  refine tn_iI mv_X2_cutToLane (Nat.le_of_ble_eq_true rfl) (fun Γ hΓ hK => k_X2_cutToLane_0 hG hΓ hK c v hcc ?_)
  simp only [tn_ki]
  unfold cutv at h
  refine ⟨fun q => ⟨fun q2 => ?_, fun q2 => ?_⟩, fun q => ?_⟩
  · rw [if_neg q, if_neg q2] at h; exact h
  · rw [if_neg q, if_pos q2] at h; exact h
  · rw [if_pos q] at h; exact h
theorem lp_renew (hG : tn_Gd ks ρ) {K : Option Value → List (Nat × Nat) → (Nat → Nat → Nat) → (Nat → Nat → Int32) → Prop} (hΓ : tn_is Γ m_X2_renew) (hK : tn_rt Γ m_X2_renew K) {c : Nat} (hcc : tn_Sb c) : ∀ d i (σ : Nat → Nat → Int32), i + d = 60 → (∀ σ' : Nat → Nat → Int32, (∀ c' k, ¬ (c' = c + 1) → σ' c' k = σ c' k) → (∀ k, k < i → σ' (c + 1) k = σ (c + 1) k) → (∀ k, i ≤ k → k < 60 → σ' (c + 1) k = 0) → K none ks ρ σ') → tn_A Γ 17 [.ref c, .null, .null, .int (nI i)] [] 0 0 ks ρ σ := by
  intro d
  have s60 : (60 : Int32) = nI 60 := by decide
  induction d with
  | zero =>
    intro i σ hi h
    refine k_X2_renew_17 hG hΓ hK c hcc _ ⟨fun _ => h σ (fun _ _ _ => rfl) (fun _ _ => rfl) (fun k h1 h2 => by omega), fun q => ?_⟩
    rw [s60, nI_leI (by omega) (by omega)] at q; omega
  | succ d ih =>
    intro i σ hi h
    refine k_X2_renew_17 hG hΓ hK c hcc _ ⟨fun q => ?_, fun _ => ⟨vp_in_nI (by omega) (by omega), fun σ1 e1 x ex => ?_⟩⟩
    · rw [s60, nI_leI (by omega) (by omega)] at q; omega
    · rw [nI_1] at ex; subst ex
      rw [nI_cl (by omega)] at e1
      refine ih (i + 1) σ1 (by omega) (fun σ' g1 g2 g3 => h σ' (fun c' k q => ?_) (fun k q => ?_) (fun k q q2 => ?_))
      · rw [g1 c' k q, e1, tn_u_n (Or.inl q)]
      · rw [g2 k (by omega), e1, tn_u_n (Or.inr (by omega))]
      · by_cases z : k = i
        · subst z
          rw [g2 k (by omega), e1, tn_u_s]
        · exact g3 k (by omega) q2
theorem q2_renew (hG : tn_Gd ks ρ) {c : Nat} (hcc : tn_Sb c) {l n : Int32} {K : (Nat → Nat → Int32) → Prop} (h : ∀ σ' : Nat → Nat → Int32, (∀ c' k, c' ≠ c → c' ≠ c + 1 → σ' c' k = σ c' k) → σ' c 1 = 1 → σ' c 2 = l → σ' c 3 = n → (∀ k, k < 60 → σ' (c + 1) k = 0) → K σ') : tn_CV m_X2_renew [.ref c, .int l, .int n] ks ρ σ K := by
  refine tn_iV mv_X2_renew (Nat.le_of_ble_eq_true rfl) (fun Γ hΓ hK => k_X2_renew_0 hG hΓ hK c l n hcc ?_)
  intro σ1 e1 σ2 e2 σ3 e3
  rw [← nI_0]
  refine lp_renew hG hΓ hK hcc 60 0 σ3 (by omega) (fun σ' g1 _ g3 => ?_)
  rw [tn_kv]
  refine h σ' (fun c' k q1 q2 => ?_) ?_ ?_ ?_ (fun k hk => g3 k (by omega) hk)
  · rw [g1 c' k q2, e3, tn_u_n (Or.inl q1), e2, tn_u_n (Or.inl q1), e1, tn_u_n (Or.inl q1)]
  · rw [g1 c 1 (by omega), e3, tn_u_n (Or.inr (by omega)), e2, tn_u_n (Or.inr (by omega)), e1, tn_u_s]
  · rw [g1 c 2 (by omega), e3, tn_u_n (Or.inr (by omega)), e2, tn_u_s]
  · rw [g1 c 3 (by omega), e3, tn_u_s]
theorem q5_foc (hG : tn_Gd ks ρ) {k : Nat} (hk : k < 4) (h1 : ro_1 σ k) {s i n : Int32} {K : Int32 → (Nat → Nat → Int32) → Prop} (h : K (f_ag σ k s i n) σ) : tn_CI m_X5_faultOfCells [.ref (31 + 2 * k), .int s, .int i, .int n] ks ρ σ K := by
  refine tn_iI mv_X5_faultOfCells (Nat.le_of_ble_eq_true rfl) (fun Γ hΓ hK => k_X5_faultOfCells_0 hG hΓ hK _ s i n (gs_b hk) ?_)
  simp only [tn_ki]
  rw [h1.z]
  unfold f_ag at h
  refine ⟨fun q => ?_, fun q => ?_⟩
  · rw [h1.l q]
    rw [if_neg q] at h
    refine ⟨fun q2 => ⟨fun q3 => ?_, fun q3 => ?_⟩, fun q2 => ?_⟩
    · rw [if_pos q2, if_pos q3] at h
      refine q2_hasCells hG (gs_b hk) ?_
      obtain ⟨n', hn, e1, e3⟩ := h1.2.1
      rw [e3]
      rw [e1] at h
      refine bz (fun q4 => ?_) (fun q4 => ?_)
      · rw [q4] at h; exact h
      · rw [q4] at h; exact h
    · rw [if_pos q2, if_neg q3] at h; exact h
    · rw [if_neg q2] at h; exact h
  · rw [if_pos q] at h; exact h
theorem q6_against (hG : tn_Gd ks ρ) {k : Nat} (hk : k < 4) {s i n : Int32} {K : Int32 → (Nat → Nat → Int32) → Prop} (h : K (f_ag σ k s i n) σ) : tn_CI m_X6_against [.ref 39, .int (nI k), .int s, .int i, .int n] ks ρ σ K := by
  refine tn_iI mv_X6_against (Nat.le_of_ble_eq_true rfl) (fun Γ hΓ hK => k_X6_against_0 hG hΓ hK _ s i n ?_)
  simp only [tn_ki]
  rw [nI_cl (by omega)]
  unfold f_ag at h
  refine ⟨vp_in_nI (by omega) (by omega), fun q => ⟨fun q2 => absurd q q2, fun _ => ?_⟩, fun q => ⟨fun q2 => ⟨fun _ => ⟨fun q3 => ?_, fun q3 => ?_⟩, fun q3 => absurd q3 q⟩, fun q2 => ?_⟩⟩
  · rw [if_pos q] at h; exact h
  · rw [if_neg q, if_pos q2, if_pos q3] at h
    unfold hc at h
    refine ⟨fun r1 => ?_, fun r1 => ⟨fun r2 => ?_, fun r2 => ⟨fun r3 => ?_, fun r3 => ?_⟩⟩⟩
    · simpa [Int32.not_le.mpr r1] using h
    · simpa [Int32.not_le.mpr r2] using h
    · simpa [Int32.not_lt.mp r1, Int32.not_lt.mp r2, q3, r3] using h
    · simpa [r3] using h
  · rw [if_neg q, if_pos q2, if_neg q3] at h; exact h
  · rw [if_neg q, if_neg q2] at h; exact h
/-! sheet -/
theorem lp_6sheet (hG : tn_Gd ks ρ) {K : Option Value → List (Nat × Nat) → (Nat → Nat → Nat) → (Nat → Nat → Int32) → Prop} (hΓ : tn_is Γ m_X6_sheet) (hK : tn_rt Γ m_X6_sheet K) {k : Nat} (hk : k < 4) : ∀ d i (σ : Nat → Nat → Int32), i + d = 60 → (∀ σ' : Nat → Nat → Int32, (∀ c' j, ¬ (c' = 42 ∧ 60 * k + i ≤ j ∧ j < 60 * k + 60) → σ' c' j = σ c' j) → (∀ j, i ≤ j → j < 60 → σ' 42 (60 * k + j) = 0) → K (some (.int 1)) ks ρ σ') → tn_A Γ 57 [.ref 39, .int (nI k), .null, .null, .int (nI i)] [] 0 0 ks ρ σ := by
  intro d
  have s60 : (60 : Int32) = nI 60 := by decide
  induction d with
  | zero =>
    intro i σ hi h
    refine k_X6_sheet_57 hG hΓ hK _ _ ⟨fun _ => h σ (fun _ _ _ => rfl) (fun j h1 h2 => by omega), fun q => ?_⟩
    rw [s60, nI_leI (by omega) (by omega)] at q; omega
  | succ d ih =>
    intro i σ hi h
    have e : (60 : Int32) * nI k + nI i = nI (60 * k + i) := by rw [s60, pk_mul, nI_add]
    refine k_X6_sheet_57 hG hΓ hK _ _ ⟨fun q => ?_, fun _ => ?_⟩
    · rw [s60, nI_leI (by omega) (by omega)] at q; omega
    · rw [e, nI_cl (by omega)]
      refine ⟨vp_in_nI (by omega) (by omega), fun σ1 e1 x ex => ?_⟩
      rw [nI_1] at ex; subst ex
      refine ih (i + 1) σ1 (by omega) (fun σ' g1 g2 => h σ' (fun c' j q => ?_) (fun j q q2 => ?_))
      · rw [g1 c' j (by omega), e1, tn_u_n (by omega)]
      · by_cases z : j = i
        · subst z
          rw [g1 42 _ (by omega), e1, tn_u_s]
        · exact g2 j (by omega) q2
theorem m6_sheet (hG : tn_Gd ks ρ) {a0 a1 a2 : Int32} {K : Int32 → (Nat → Nat → Int32) → Prop}
    (h0 : iw a0 0 3 = false → K (-1) (tn_u σ 39 0 0))
    (h1 : iw a0 0 3 = true → (iw a1 0 2 = false ∨ ¬ a2 ≤ 60) → K (-2) (tn_u σ 39 0 0))
    (h2 : iw a0 0 3 = true → iw a1 0 2 = true → a2 ≤ 60 → ¬ 0 ≤ a2 → K (-10 - 4) (tn_u (tn_u σ 39 0 0) 39 0 4))
    (h3 : ∀ k, k < 4 → a0 = nI k → iw a1 0 2 = true → a2 ≤ 60 → 0 ≤ a2 → ∀ σ' : Nat → Nat → Int32, (∀ c j, ¬ (c = 39 ∧ j = 0) → ¬ (c = 40 ∧ j = k) → ¬ (c = 41 ∧ j = k) → ¬ (c = 42 ∧ 60 * k ≤ j ∧ j < 60 * k + 60) → σ' c j = σ c j) → σ' 39 0 = 0 → σ' 40 k = a1 → σ' 41 k = a2 → (∀ j, j < 60 → σ' 42 (60 * k + j) = 0) → K 1 σ') : tn_CI m_X6_sheet [.ref 39, .int a0, .int a1, .int a2] ks ρ σ K := by
  refine tn_iI mv_X6_sheet (Nat.le_of_ble_eq_true rfl) (fun Γ hΓ hK => k_X6_sheet_0 hG hΓ hK a0 a1 a2 ?_)
  simp only [tn_ki]
  intro σ1 e1
  subst e1
  refine q6_isSheet hG (bn (fun q => q6_isSort hG (bz (fun q2 => h1 q (Or.inl q2)) (fun q2 => ⟨fun q3 => ⟨fun q4 => ?_, fun q4 => q6_fails hG (h2 q q2 q3 q4)⟩, fun q3 => h1 q (Or.inr q3)⟩))) h0)
  obtain ⟨k, -, hk, rfl⟩ := iw_nI (n := 0) (m := 3) nI_0.symm (by decide) (by omega) (by omega) q
  rw [nI_cl (by omega), ← nI_0]
  refine ⟨vp_in_nI (by omega) (by omega), fun σ2 e2 σ3 e3 => lp_6sheet hG hΓ hK (by omega) 60 0 σ3 (by omega) (fun σ' g1 g2 => ?_)⟩
  simp only [tn_ki]
  refine h3 k (by omega) rfl q2 q3 q4 σ' (fun c j z1 z2 z3 z4 => ?_) ?_ ?_ ?_ (fun j hj => g2 j (by omega) hj)
  · rw [g1 c j (by omega), e3, tn_u_n (by omega), e2, tn_u_n (by omega), tn_u_n (by omega)]
  · rw [g1 39 0 (by omega), e3, tn_u_n (by omega), e2, tn_u_n (by omega), nI_0, tn_u_s]
  · rw [g1 40 k (by omega), e3, tn_u_n (by omega), e2, tn_u_s]
  · rw [g1 41 k (by omega), e3, tn_u_s]
theorem iw_F {b : Bool} {A : Prop} (h1 : b = true) (h2 : b = false) : A := by rw [h1] at h2; exact absurd h2 (by decide)
theorem op_sheet (hG : tn_Gd ks ρ) (hL : ro_L σ) {a b c : Int32} {K : Int32 → Int32 → (Nat → Nat → Int32) → Prop} (h : ∀ r σ', ro_L σ' → K r r σ') : tn_CI m_X5_sheet [.ref 2, .int a, .int b, .int c] ks ρ σ (fun r1 σ1 => tn_CI m_X6_sheet [.ref 39, .int a, .int b, .int c] ks ρ σ1 (fun r2 σ2 => K r1 r2 σ2)) := by
  refine tn_iI mv_X5_sheet (Nat.le_of_ble_eq_true rfl) (fun Γ hΓ hK => k_X5_sheet_0 hG hΓ hK a b c ?_)
  simp only [tn_ki]
  intro σ1 e1
  subst e1
  refine q5_isSheet hG (bn (fun q => q5_isLane hG (bz (fun q2 => ?_) (fun q2 => ⟨fun q3 => ⟨fun q4 => ?_, fun q4 => q5_faulted hG ?_⟩, fun q3 => ?_⟩))) (fun q => ?_))
  · exact m6_sheet hG (fun z => iw_F q z) (fun _ _ => h _ _ (ro_f0 hL)) (fun _ z => iw_F z q2) (fun _ _ _ z => iw_F z q2)
  · have q' := q
    obtain ⟨k, -, hk, rfl⟩ := iw_nI (n := 0) (m := 3) nI_0.symm (by decide) (by omega) (by omega) q
    rw [nI_cl (by omega)]
    refine ⟨vp_in_nI (by omega) (by omega), q2_renew hG (gs_b (by omega)) (fun σ2 g1 g2 g3 g4 g5 => ?_)⟩
    refine m6_sheet hG (fun z => iw_F q' z) (fun _ z => ?_) (fun _ _ _ z => absurd q4 z) (fun k' hk' ek _ _ _ σ3 f1 f2 f3 f4 f5 => ?_)
    · rcases z with z | z
      · exact iw_F q2 z
      · exact absurd q3 z
    · have ek' : k' = k := ((nI_eq (by omega) (by omega)).mp ek).symm
      subst ek'
      obtain ⟨s, -, hs, es⟩ := iw_nI (n := 0) (m := 2) nI_0.symm (by decide) (by omega) (by omega) q2
      obtain ⟨n, -, hn, en⟩ := iw_nI (x := c) (n := 0) (m := 60) nI_0.symm (by decide : (60 : Int32) = nI 60) (by omega) (by omega) (by unfold iw; simp [q3, q4])
      refine h _ _ (ro_sh hL (fun c j z1 z2 z3 z4 => ?_) (fun m hm => ?_) ?_)
      · rw [f1 c j z2 (by omega) (by omega) (by omega), g1 c j (by omega) (by omega), tn_u_n (by omega)]
      · by_cases e : m = k'
        · subst e
          have u1 : ∀ j, σ3 (31 + 2 * m) j = σ2 (31 + 2 * m) j := fun j => f1 _ _ (by omega) (by omega) (by omega) (by omega)
          unfold ro_1
          rw [u1, u1, u1, g2, g3, g4, f3, f4]
          refine ⟨Or.inr ⟨?_, rfl, rfl⟩, ⟨n, hn, en, en⟩, fun i hi => ?_⟩
          · rw [es]
            have : s = 0 ∨ s = 1 ∨ s = 2 := by omega
            rcases this with e | e | e <;> subst e <;> decide
          · rw [f5 i hi, f1 _ _ (by omega) (by omega) (by omega) (by omega), g5 i hi]
        · have u1 : ∀ c j, 31 ≤ c → c ≤ 42 → c ≠ 39 → ¬ (c = 40 ∧ j = k') → ¬ (c = 41 ∧ j = k') → ¬ (c = 42 ∧ 60 * k' ≤ j ∧ j < 60 * k' + 60) → c ≠ 31 + 2 * k' → c ≠ 31 + 2 * k' + 1 → σ3 c j = σ c j := fun c j z1 z2 z3 z4 z5 z6 z7 z8 => by
            rw [f1 c j (by omega) z4 z5 z6, g1 c j z7 z8, tn_u_n (by omega)]
          refine (hL.s hm).c (u1 _ _ (by omega) (by omega) (by omega) (by omega) (by omega) (by omega) (by omega) (by omega)) (u1 _ _ (by omega) (by omega) (by omega) (by omega) (by omega) (by omega) (by omega) (by omega)) (u1 _ _ (by omega) (by omega) (by omega) (by omega) (by omega) (by omega) (by omega) (by omega)) (u1 _ _ (by omega) (by omega) (by omega) (by omega) (by omega) (by omega) (by omega) (by omega)) (u1 _ _ (by omega) (by omega) (by omega) (by omega) (by omega) (by omega) (by omega) (by omega)) (fun i hi => u1 _ _ (by omega) (by omega) (by omega) (by omega) (by omega) (by omega) (by omega) (by omega)) (fun i hi => u1 _ _ (by omega) (by omega) (by omega) (by omega) (by omega) (by omega) (by omega) (by omega))
      · rw [f2, f1 2 9 (by omega) (by omega) (by omega) (by omega), g1 2 9 (by omega) (by omega), tn_u_s]
  · exact m6_sheet hG (fun z => iw_F q z) (fun _ z => by rcases z with z | z; exact iw_F q2 z; exact absurd q3 z) (fun _ _ _ _ => h _ _ (ro_ff hL rfl)) (fun _ _ _ _ _ z => absurd z q4)
  · exact m6_sheet hG (fun z => iw_F q z) (fun _ _ => h _ _ (ro_f0 hL)) (fun _ _ z => absurd z q3) (fun _ _ _ _ z => absurd z q3)
  · exact m6_sheet hG (fun _ => h _ _ (ro_f0 hL)) (fun z => iw_F z q) (fun z => iw_F z q) (fun k hk e => by rw [e] at q; exact absurd q (by
      have : k = 0 ∨ k = 1 ∨ k = 2 ∨ k = 3 := by omega
      rcases this with e | e | e | e <;> subst e <;> decide))
/-! lose -/
theorem op_lose (hG : tn_Gd ks ρ) (hL : ro_L σ) {a : Int32} {K : Int32 → Int32 → (Nat → Nat → Int32) → Prop} (h : ∀ r σ', ro_L σ' → K r r σ') : tn_CI m_X5_lose [.ref 2, .int a] ks ρ σ (fun r1 σ1 => tn_CI m_X6_lose [.ref 39, .int a] ks ρ σ1 (fun r2 σ2 => K r1 r2 σ2)) := by
  refine tn_iI mv_X5_lose (Nat.le_of_ble_eq_true rfl) (fun Γ hΓ hK => k_X5_lose_0 hG hΓ hK a ?_)
  simp only [tn_ki]
  refine q5_isSheet hG (bn (fun q => ?_) (fun q => ?_))
  · have q' := q
    obtain ⟨k, -, hk, rfl⟩ := iw_nI (n := 0) (m := 3) nI_0.symm (by decide) (by omega) (by omega) q
    rw [nI_cl (by omega), (hL.s (by omega)).z]
    have fin : ro_L (tn_u (tn_u σ (31 + 2 * k) 1 0) 40 k (-9)) := by
      refine ro_sh hL (fun c j z1 z2 z3 z4 => ?_) (fun m hm => ?_) ?_
      · rw [tn_u_n (by omega), tn_u_n (by omega)]
      · by_cases e : m = k
        · subst e
          have o := hL.s hm
          unfold ro_1
          rw [tn_u_s, tn_u_n (c' := 31 + 2 * m) (Or.inl (by omega)), tn_u_s]
          refine ⟨Or.inl ⟨rfl, rfl⟩, ?_, fun i hi => ?_⟩
          · rw [tn_u_n (by omega), tn_u_n (by omega), tn_u_n (by omega), tn_u_n (by omega)]
            exact o.2.1
          · rw [tn_u_n (by omega), tn_u_n (by omega), tn_u_n (by omega), tn_u_n (by omega)]
            exact o.2.2 i hi
        · have u1 : ∀ c j, ¬ (c = 31 + 2 * k) → ¬ (c = 40 ∧ j = k) → tn_u (tn_u σ (31 + 2 * k) 1 0) 40 k (-9) c j = σ c j := fun c j z1 z2 => by rw [tn_u_n (by omega), tn_u_n (by omega)]
          exact (hL.s hm).c (u1 _ _ (by omega) (by omega)) (u1 _ _ (by omega) (by omega)) (u1 _ _ (by omega) (by omega)) (u1 _ _ (by omega) (by omega)) (u1 _ _ (by omega) (by omega)) (fun i hi => u1 _ _ (by omega) (by omega)) (fun i hi => u1 _ _ (by omega) (by omega))
      · obtain ⟨P, _, _, _, ho⟩ := hL
        rw [tn_u_n (by omega), tn_u_n (by omega), tn_u_n (by omega), tn_u_n (by omega)]
        exact ho.2.2.2.2
    have e40 : tn_u σ (31 + 2 * k) 1 0 40 k = σ 40 k := tn_u_n (by omega)
    refine ⟨vp_in_nI (by omega) (by omega), fun z σ1 e1 => ?_, fun z σ1 e1 => ?_⟩
    · subst e1
      refine tn_iI mv_X6_lose (Nat.le_of_ble_eq_true rfl) (fun Γ hΓ hK => k_X6_lose_0 hG hΓ hK _ ?_)
      simp only [tn_ki]
      refine q6_isSheet hG ?_
      rw [q', nI_cl (by omega), e40]
      exact ⟨fun _ => ⟨vp_in_nI (by omega) (by omega), fun z2 => absurd z z2, fun _ σ2 e2 => by rw [e2]; exact h _ _ fin⟩, fun z => absurd z (by decide)⟩
    · subst e1
      refine tn_iI mv_X6_lose (Nat.le_of_ble_eq_true rfl) (fun Γ hΓ hK => k_X6_lose_0 hG hΓ hK _ ?_)
      simp only [tn_ki]
      refine q6_isSheet hG ?_
      rw [q', nI_cl (by omega), e40]
      exact ⟨fun _ => ⟨vp_in_nI (by omega) (by omega), fun _ σ2 e2 => by rw [e2]; exact h _ _ fin, fun z2 => absurd z2 z⟩, fun z => absurd z (by decide)⟩
  · refine tn_iI mv_X6_lose (Nat.le_of_ble_eq_true rfl) (fun Γ hΓ hK => k_X6_lose_0 hG hΓ hK _ ?_)
    simp only [tn_ki]
    refine q6_isSheet hG ?_
    rw [q]
    exact ⟨fun z => absurd rfl z, fun _ => h _ _ hL⟩
end QL4
