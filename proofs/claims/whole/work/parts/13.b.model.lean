/-! ===== the model's cells: its picture, its contracts ===== -/
/-- the model's cells hold the picture -/
def rm_P (σ : Nat → Nat → Int32) (P : pp_T) : Prop := σ 39 5 = P 0 2 ∧ σ 39 6 = P 0 3 ∧ σ 39 7 = P 0 4 ∧ σ 39 8 = P 0 5 ∧ σ 39 10 = pp_hs P ∧
  (∀ h, h < pp_n P → σ 43 h = P (3 + h) 0 ∧ σ 44 h = P (3 + h) 1 ∧ σ 45 h = P (3 + h) 2 ∧ σ 46 h = P (3 + h) 3 ∧ bi (σ 39 11) h = P (3 + h) 4) ∧ (∀ s, s < pp_m P → σ 47 s = P (8 + s) 0 ∧ bi (σ 39 12) s = P (8 + s) 1)
/-- what a night may change in the model -/
def rm_F (σ σ' : Nat → Nat → Int32) : Prop := (∀ c, c ≠ 39 → c ≠ 45 → c ≠ 46 → σ' c = σ c) ∧ (∀ k, k < 8 ∨ 12 < k → σ' 39 k = σ 39 k) ∧ (∀ k, 5 ≤ k → σ' 45 k = σ 45 k ∧ σ' 46 k = σ 46 k)
theorem rm_F.rf {σ : Nat → Nat → Int32} : rm_F σ σ := ⟨fun _ _ _ _ => rfl, fun _ _ => rfl, fun _ _ => ⟨rfl, rfl⟩⟩
theorem rm_F.tr {σ σ1 σ2 : Nat → Nat → Int32} (h1 : rm_F σ σ1) (h2 : rm_F σ1 σ2) : rm_F σ σ2 :=
  ⟨fun c a b d => (h2.1 c a b d).trans (h1.1 c a b d), fun k hk => (h2.2.1 k hk).trans (h1.2.1 k hk), fun k hk => ⟨(h2.2.2 k hk).1.trans (h1.2.2 k hk).1, (h2.2.2 k hk).2.trans (h1.2.2 k hk).2⟩⟩
theorem rm_F.u {σ : Nat → Nat → Int32} {c k : Nat} {x : Int32} (h : (c = 39 ∧ 8 ≤ k ∧ k ≤ 12) ∨ (c = 45 ∧ k < 5) ∨ (c = 46 ∧ k < 5)) : rm_F σ (tn_u σ c k x) :=
  ⟨fun c' a b d => funext fun k' => tn_u_n (Or.inl (by omega)), fun k' hk => tn_u_n (by omega), fun k' hk => ⟨tn_u_n (by omega), tn_u_n (by omega)⟩⟩
theorem m39 {ks : List (Nat × Nat)} {ρ : Nat → Nat → Nat} (hG : tn_Gd ks ρ) : tn_kd ks 39 = some (6, 0) := gd_k hG rfl
/-- within, as a bool -/
def iw (x a b : Int32) : Bool := decide (a ≤ x) && decide (x ≤ b)
section QM
variable {ks : List (Nat × Nat)} {ρ : Nat → Nat → Nat} {σ : Nat → Nat → Int32} {Γ : tn_G} {K : Option Value → List (Nat × Nat) → (Nat → Nat → Nat) → (Nat → Nat → Int32) → Prop} {P : pp_T}
theorem q6_within (hG : tn_Gd ks ρ) {x a b : Int32} {K : Int32 → (Nat → Nat → Int32) → Prop} (h : K (if iw x a b = true then 1 else 0) σ) : tn_CI m_X6_within [.int x, .int a, .int b] ks ρ σ K := by
  refine tn_iI mv_X6_within (Nat.le_of_ble_eq_true rfl) (fun Γ hΓ hK => k_X6_within_0 hG hΓ hK x a b ?_)
  simp only [tn_ki]
  unfold iw at h
  refine ⟨fun q => ?_, fun q => ⟨fun q2 => ?_, fun q2 => ?_⟩⟩
  · simpa [Int32.not_le.mpr q] using h
  · simpa [Int32.not_lt.mp q, Int32.not_le.mpr q2] using h
  · simpa [Int32.not_lt.mp q, Int32.not_lt.mp q2] using h
theorem q6_isSheet (hG : tn_Gd ks ρ) {x : Int32} {K : Int32 → (Nat → Nat → Int32) → Prop} (h : K (if iw x 0 3 = true then 1 else 0) σ) : tn_CI m_X6_isSheet [.int x] ks ρ σ K := by
  refine tn_iI mv_X6_isSheet (Nat.le_of_ble_eq_true rfl) (fun Γ hΓ hK => k_X6_isSheet_0 hG hΓ hK x ?_)
  simp only [tn_ki]
  exact q6_within hG ⟨b01, h⟩
theorem q6_isSort (hG : tn_Gd ks ρ) {x : Int32} {K : Int32 → (Nat → Nat → Int32) → Prop} (h : K (if iw x 0 2 = true then 1 else 0) σ) : tn_CI m_X6_isSort [.int x] ks ρ σ K := by
  refine tn_iI mv_X6_isSort (Nat.le_of_ble_eq_true rfl) (fun Γ hΓ hK => k_X6_isSort_0 hG hΓ hK x ?_)
  simp only [tn_ki]
  exact q6_within hG ⟨b01, h⟩
theorem q6_isHouse (hG : tn_Gd ks ρ) {x : Int32} {K : Int32 → (Nat → Nat → Int32) → Prop} (h : K (if ib x (σ 39 5) = true then 1 else 0) σ) : tn_CI m_X6_isHouse [.ref 39, .int x] ks ρ σ K := by
  refine tn_iI mv_X6_isHouse (Nat.le_of_ble_eq_true rfl) (fun Γ hΓ hK => k_X6_isHouse_0 hG hΓ hK x ?_)
  simp only [tn_ki]
  unfold ib at h
  refine ⟨fun q => ?_, fun q => ⟨fun q2 => ?_, fun q2 => ?_⟩⟩
  · simpa [Int32.not_le.mpr q] using h
  · simpa [Int32.not_lt.mp q, Int32.not_lt.mpr q2] using h
  · simpa [Int32.not_lt.mp q, Int32.not_le.mp q2] using h
theorem q6_isStone (hG : tn_Gd ks ρ) {x : Int32} {K : Int32 → (Nat → Nat → Int32) → Prop} (h : K (if ib x (σ 39 6) = true then 1 else 0) σ) : tn_CI m_X6_isStone [.ref 39, .int x] ks ρ σ K := by
  refine tn_iI mv_X6_isStone (Nat.le_of_ble_eq_true rfl) (fun Γ hΓ hK => k_X6_isStone_0 hG hΓ hK x ?_)
  simp only [tn_ki]
  unfold ib at h
  refine ⟨fun q => ?_, fun q => ⟨fun q2 => ?_, fun q2 => ?_⟩⟩
  · simpa [Int32.not_le.mpr q] using h
  · simpa [Int32.not_lt.mp q, Int32.not_lt.mpr q2] using h
  · simpa [Int32.not_lt.mp q, Int32.not_le.mp q2] using h
theorem q6_isOf (hG : tn_Gd ks ρ) {x : Int32} {k : Nat} (hk : k < 5) {K : Int32 → (Nat → Nat → Int32) → Prop} (h : K (bi x k) σ) : tn_CI m_X6_isOf [.int x, .int (nI k)] ks ρ σ K := by
  refine tn_iI mv_X6_isOf (Nat.le_of_ble_eq_true rfl) (fun Γ hΓ hK => k_X6_isOf_0 hG hΓ hK x (nI k) ?_)
  simp only [tn_ki]
  refine ⟨fun q => ?_, fun q => ?_⟩
  · have q' : ¬ bi x k = 1 := q
    rcases bi_01 x hk with e | e
    · rw [e] at h; exact h
    · exact absurd e q'
  · have q' : bi x k = 1 := q
    rw [q'] at h; exact h
theorem q6_weightOf (hG : tn_Gd ks ρ) (hR : rm_P σ P) (hw : pp_w P) {n : Nat} (hn : n < pp_n P) {K : Int32 → (Nat → Nat → Int32) → Prop} (h : K (pp_wt P n) σ) : tn_CI m_X6_weightOf [.ref 39, .int (nI n)] ks ρ σ K := by
  have h5 := hw.2.1
  obtain ⟨e0, e1, -⟩ := hR.2.2.2.2.2.1 n hn
  refine tn_iI mv_X6_weightOf (Nat.le_of_ble_eq_true rfl) (fun Γ hΓ hK => k_X6_weightOf_0 hG hΓ hK (nI n) ⟨vp_in_nI (by omega) (by omega), ?_⟩)
  simp only [tn_ki]
  rw [nI_cl (by omega), e0, e1]
  unfold pp_wt hw_wt at h
  have a1 := (hw.2.2.2.2.1 n hn).1
  refine ⟨fun q => ⟨fun q2 => ?_, fun q2 => ?_⟩, fun q => ?_⟩
  · rcases a1 with a | a | a
    · exact absurd a q
    · exact absurd a q2
    · rw [if_neg q2, if_pos a] at h; exact h
  · rw [if_pos q2] at h; exact h
  · rw [if_neg (by rw [q]; decide), if_neg (by rw [q]; decide)] at h; exact h
theorem q6_rankles (hG : tn_Gd ks ρ) (hR : rm_P σ P) (hw : pp_w P) {n : Nat} (hn : n < pp_n P) {K : Int32 → (Nat → Nat → Int32) → Prop} (h : K (if pp_rk P n = true then 1 else 0) σ) : tn_CI m_X6_rankles [.ref 39, .int (nI n)] ks ρ σ K := by
  have h5 := hw.2.1
  obtain ⟨-, -, -, -, e4⟩ := hR.2.2.2.2.2.1 n hn
  refine tn_iI mv_X6_rankles (Nat.le_of_ble_eq_true rfl) (fun Γ hΓ hK => k_X6_rankles_0 hG hΓ hK (nI n) ?_)
  simp only [tn_ki]
  refine q6_isOf hG (by omega) ?_
  rw [e4]
  unfold pp_rk hw_rk at h
  refine ⟨fun q => ?_, fun q => q6_weightOf hG hR hw hn ⟨fun q2 => ?_, fun q2 => ?_⟩⟩
  · simpa [q] using h
  · have q2' : hw_wt (P (3 + n)) ≤ 0 := q2
    simpa [q, Int32.not_lt.mpr q2'] using h
  · have q2' : 0 < hw_wt (P (3 + n)) := Int32.not_le.mp q2
    simpa [q, q2'] using h
theorem l6_rs (hG : tn_Gd ks ρ) (hΓ : tn_is Γ m_X6_whoRankle) (hK : tn_rt Γ m_X6_whoRankle K) (hR : rm_P σ P) (hw : pp_w P) (h : K (some (.int (pp_rs P))) ks ρ σ) : ∀ m n, n + m = pp_n P → tn_A Γ 4 [.ref 39, .int (pp_rsN P n), .int (nI n)] [] 0 0 ks ρ σ := by
  intro m
  have h2 : σ 39 5 = nI (pp_n P) := hR.1.trans hw.1
  have h5 := hw.2.1
  induction m with
  | zero =>
    intro n hn
    refine k_X6_whoRankle_4 hG hΓ hK _ _ ⟨fun _ => ?_, fun q => ?_⟩
    · rw [show n = pp_n P by omega]; exact h
    · rw [h2, nI_end (by omega) (by omega)] at q; omega
  | succ m ih =>
    intro n hn
    refine k_X6_whoRankle_4 hG hΓ hK _ _ ⟨fun q => ?_, fun _ => ?_⟩
    · rw [h2, nI_end (by omega) (by omega)] at q; omega
    · have ih1 := ih (n + 1) (by omega)
      refine q6_rankles hG hR hw (by omega) (bz (fun q x ex y ey => ?_) (fun q x ex y ey => ?_))
      · rw [nI_1] at ey; subst ey
        rw [Int32.or_zero] at ex; subst ex
        simpa [pp_rsN, q] using ih1
      · subst ex; rw [nI_1] at ey; subst ey
        simpa [pp_rsN, q] using ih1
theorem q6_whoRankle (hG : tn_Gd ks ρ) (hR : rm_P σ P) (hw : pp_w P) {K : Int32 → (Nat → Nat → Int32) → Prop} (h : K (pp_rs P) σ) : tn_CI m_X6_whoRankle [.ref 39] ks ρ σ K := by
  refine tn_iI mv_X6_whoRankle (Nat.le_of_ble_eq_true rfl) (fun Γ hΓ hK => k_X6_whoRankle_0 hG hΓ hK ?_)
  exact l6_rs hG hΓ hK hR hw (by rw [tn_ki]; exact h) (pp_n P) 0 (by omega)
theorem l6_voS (hG : tn_Gd ks ρ) (hΓ : tn_is Γ m_X6_voiceNow) (hK : tn_rt Γ m_X6_voiceNow K) (hR : rm_P σ P) (hw : pp_w P) {a : Int32} (h : K (some (.int (pp_voS P a (pp_m P)))) ks ρ σ) : ∀ m n, n + m = pp_m P → tn_A Γ 40 [.ref 39, .int (pp_voS P a n), .int (nI n)] [] 0 0 ks ρ σ := by
  intro m
  have h2 : σ 39 6 = nI (pp_m P) := hR.2.1.trans hw.2.2.1
  have h5 := hw.2.2.2.1
  induction m with
  | zero =>
    intro n hn
    refine k_X6_voiceNow_40 hG hΓ hK _ _ ⟨fun _ => ?_, fun q => ?_⟩
    · rw [show n = pp_m P by omega]; exact h
    · rw [h2, nI_end (by omega) (by omega)] at q; omega
  | succ m ih =>
    intro n hn
    obtain ⟨e0, e1⟩ := hR.2.2.2.2.2.2 n (by omega)
    have ih1 := ih (n + 1) (by omega)
    refine k_X6_voiceNow_40 hG hΓ hK _ _ ⟨fun q => ?_, fun _ => ?_⟩
    · rw [h2, nI_end (by omega) (by omega)] at q; omega
    · refine q6_isOf hG (by omega) ?_
      rw [e1, nI_cl (by omega), e0]
      refine ⟨fun q => ⟨vp_in_nI (by omega) (by omega), fun x ex y ey => ?_⟩, fun q x ex y ey => ?_⟩
      · subst ex; rw [nI_1] at ey; subst ey
        simpa [pp_voS, q] using ih1
      · subst ex; rw [nI_1] at ey; subst ey
        simpa [pp_voS, q] using ih1
theorem l6_voH (hG : tn_Gd ks ρ) (hΓ : tn_is Γ m_X6_voiceNow) (hK : tn_rt Γ m_X6_voiceNow K) (hR : rm_P σ P) (hw : pp_w P) (h : K (some (.int (pp_vo P))) ks ρ σ) : ∀ m n, n + m = pp_n P → tn_A Γ 4 [.ref 39, .int (pp_voH P n), .int (nI n)] [] 0 0 ks ρ σ := by
  intro m
  have h2 : σ 39 5 = nI (pp_n P) := hR.1.trans hw.1
  have h5 := hw.2.1
  induction m with
  | zero =>
    intro n hn
    refine k_X6_voiceNow_4 hG hΓ hK _ _ ⟨fun _ => ?_, fun q => ?_⟩
    · rw [show n = pp_n P by omega]
      exact l6_voS hG hΓ hK hR hw h (pp_m P) 0 (by omega)
    · rw [h2, nI_end (by omega) (by omega)] at q; omega
  | succ m ih =>
    intro n hn
    have ih1 := ih (n + 1) (by omega)
    refine k_X6_voiceNow_4 hG hΓ hK _ _ ⟨fun q => ?_, fun _ => ?_⟩
    · rw [h2, nI_end (by omega) (by omega)] at q; omega
    · refine q6_rankles hG hR hw (by omega) (bz (fun q x ex y ey => ?_) (fun q => q6_weightOf hG hR hw (by omega) (fun x ex y ey => ?_)))
      · subst ex; rw [nI_1] at ey; subst ey
        simpa [pp_voH, q] using ih1
      · subst ex; rw [nI_1] at ey; subst ey
        simpa [pp_voH, q] using ih1
theorem q6_voiceNow (hG : tn_Gd ks ρ) (hR : rm_P σ P) (hw : pp_w P) {K : Int32 → (Nat → Nat → Int32) → Prop} (h : K (pp_vo P) σ) : tn_CI m_X6_voiceNow [.ref 39] ks ρ σ K := by
  refine tn_iI mv_X6_voiceNow (Nat.le_of_ble_eq_true rfl) (fun Γ hΓ hK => k_X6_voiceNow_0 hG hΓ hK ?_)
  exact l6_voH hG hΓ hK hR hw (by rw [tn_ki]; exact h) (pp_n P) 0 (by omega)
theorem l6_ws (hG : tn_Gd ks ρ) (hΓ : tn_is Γ m_X6_weightOfSet) (hK : tn_rt Γ m_X6_weightOfSet K) (hR : rm_P σ P) (hw : pp_w P) {x : Int32} (h : K (some (.int (pp_ws P x))) ks ρ σ) : ∀ m n, n + m = pp_n P → tn_A Γ 4 [.ref 39, .int x, .int (pp_wsN P x n), .int (nI n)] [] 0 0 ks ρ σ := by
  intro m
  have h2 : σ 39 5 = nI (pp_n P) := hR.1.trans hw.1
  have h5 := hw.2.1
  induction m with
  | zero =>
    intro n hn
    refine k_X6_weightOfSet_4 hG hΓ hK _ _ _ ⟨fun _ => ?_, fun q => ?_⟩
    · rw [show n = pp_n P by omega]; exact h
    · rw [h2, nI_end (by omega) (by omega)] at q; omega
  | succ m ih =>
    intro n hn
    have ih1 := ih (n + 1) (by omega)
    refine k_X6_weightOfSet_4 hG hΓ hK _ _ _ ⟨fun q => ?_, fun _ => ?_⟩
    · rw [h2, nI_end (by omega) (by omega)] at q; omega
    · refine q6_isOf hG (by omega) ⟨fun q u eu y ey => ?_, fun q => q6_weightOf hG hR hw (by omega) (fun u eu y ey => ?_)⟩
      · subst eu; rw [nI_1] at ey; subst ey
        simpa [pp_wsN, q] using ih1
      · subst eu; rw [nI_1] at ey; subst ey
        simpa [pp_wsN, q] using ih1
theorem q6_weightOfSet (hG : tn_Gd ks ρ) (hR : rm_P σ P) (hw : pp_w P) {x : Int32} {K : Int32 → (Nat → Nat → Int32) → Prop} (h : K (pp_ws P x) σ) : tn_CI m_X6_weightOfSet [.ref 39, .int x] ks ρ σ K := by
  refine tn_iI mv_X6_weightOfSet (Nat.le_of_ble_eq_true rfl) (fun Γ hΓ hK => k_X6_weightOfSet_0 hG hΓ hK x ?_)
  exact l6_ws hG hΓ hK hR hw (by rw [tn_ki]; exact h) (pp_n P) 0 (by omega)
/-! hats -/
theorem hsN_c {P P' : pp_T} : ∀ n, (∀ h, h < n → P' (3 + h) 3 = P (3 + h) 3) → pp_hsN P' n = pp_hsN P n
  | 0, _ => rfl
  | n + 1, h => by rw [pp_hsN, pp_hsN, hsN_c n (fun j hj => h j (by omega)), h n (by omega)]
theorem hsN_add {P P' : pp_T} {j : Nat} (hj : P' (3 + j) 3 = P (3 + j) 3 + 1) (ho : ∀ h, h ≠ j → P' (3 + h) 3 = P (3 + h) 3) : ∀ n, j < n → pp_hsN P' n = pp_hsN P n + 1
  | 0, h => by omega
  | n + 1, h => by
    rw [pp_hsN, pp_hsN]
    by_cases e : j = n
    · subst e
      rw [hsN_c j (fun q hq => ho q (by omega)), hj, Int32.add_assoc]
    · rw [hsN_add hj ho n (by omega), ho n (fun q => e q.symm), Int32.add_assoc, Int32.add_assoc, Int32.add_comm 1]
theorem rm_own (hR : rm_P σ P) (hw : pp_w P) {n : Nat} (hn : n < pp_n P) : rm_P (if pp_rk P n = true then tn_u σ 39 11 (σ 39 11 ||| (1 <<< (nI n &&& 31))) else tn_u (tn_u σ 46 n (σ 46 n + 1)) 39 10 (σ 39 10 + 1)) (pp_own P n) := by
  have h5 := hw.2.1
  have h4 := hw.2.2.2.1
  obtain ⟨a1, a2, a3, a4, a5, a6, a7⟩ := hR
  have en : pp_n (pp_own P n) = pp_n P := pp_own_n
  have em : pp_m (pp_own P n) = pp_m P := pp_own_m
  unfold rm_P
  rw [en, em, pp_own_0]
  by_cases q : pp_rk P n = true
  · rw [if_pos q]
    have e1 : pp_own P n = tn_u P (3 + n) 4 1 := by unfold pp_own; rw [if_pos q]
    have e2 : pp_hs (pp_own P n) = pp_hs P := by
      unfold pp_hs
      rw [en, e1]
      exact hsN_c _ (fun h hh => tn_u_n (Or.inr (by decide)))
    refine ⟨a1, a2, a3, a4, by rw [e2]; exact a5, fun h hh => ?_, fun s hs => ?_⟩
    · obtain ⟨b1, b2, b3, b4, b5⟩ := a6 h hh
      rw [e1]
      refine ⟨?_, ?_, ?_, ?_, ?_⟩
      · rw [tn_u_n (Or.inl (by decide)), tn_u_n (Or.inr (by decide))]; exact b1
      · rw [tn_u_n (Or.inl (by decide)), tn_u_n (Or.inr (by decide))]; exact b2
      · rw [tn_u_n (Or.inl (by decide)), tn_u_n (Or.inr (by decide))]; exact b3
      · rw [tn_u_n (Or.inl (by decide)), tn_u_n (Or.inr (by decide))]; exact b4
      · rw [tn_u_s, bi_set _ (by omega) (by omega), tn_u_eq]
        by_cases e : h = n
        · subst e; simp
        · rw [if_neg e, if_neg (by omega)]; exact b5
    · rw [e1, tn_u_n (Or.inl (by decide)), tn_u_n (Or.inl (by omega)), tn_u_n (Or.inr (by decide)), tn_u_n (Or.inl (by omega))]
      exact a7 s hs
  · rw [if_neg q]
    have e1 : pp_own P n = tn_u P (3 + n) 3 (P (3 + n) 3 + 1) := by unfold pp_own; rw [if_neg q]
    have e2 : pp_hs (pp_own P n) = pp_hs P + 1 := by
      unfold pp_hs
      rw [en]
      refine hsN_add (j := n) (by rw [e1, tn_u_s]) (fun h hh => ?_) _ hn
      rw [e1, tn_u_n (Or.inl (by omega))]
    refine ⟨a1, a2, a3, a4, by rw [e2, tn_u_s, a5], fun h hh => ?_, fun s hs => ?_⟩
    · obtain ⟨b1, b2, b3, b4, b5⟩ := a6 h hh
      rw [e1]
      refine ⟨?_, ?_, ?_, ?_, ?_⟩
      · rw [tn_u_n (Or.inl (by decide)), tn_u_n (Or.inl (by decide)), tn_u_n (Or.inr (by decide))]; exact b1
      · rw [tn_u_n (Or.inl (by decide)), tn_u_n (Or.inl (by decide)), tn_u_n (Or.inr (by decide))]; exact b2
      · rw [tn_u_n (Or.inl (by decide)), tn_u_n (Or.inl (by decide)), tn_u_n (Or.inr (by decide))]; exact b3
      · rw [tn_u_n (Or.inl (by decide)), tn_u_eq, tn_u_eq]
        by_cases e : h = n
        · subst e; rw [if_pos ⟨rfl, rfl⟩, if_pos ⟨rfl, rfl⟩, b4]
        · rw [if_neg (by omega), if_neg (by omega)]; exact b4
      · rw [tn_u_n (Or.inr (by decide)), tn_u_n (Or.inl (by decide)), tn_u_n (Or.inr (by decide))]; exact b5
    · have f1 : (tn_u (tn_u σ 46 n (σ 46 n + 1)) 39 10 (σ 39 10 + 1)) 47 s = σ 47 s := by rw [tn_u_n (Or.inl (by decide)), tn_u_n (Or.inl (by decide))]
      have f2 : (tn_u (tn_u σ 46 n (σ 46 n + 1)) 39 10 (σ 39 10 + 1)) 39 12 = σ 39 12 := by rw [tn_u_n (Or.inr (by decide)), tn_u_n (Or.inl (by decide))]
      rw [f1, f2, e1, tn_u_n (Or.inl (by omega)), tn_u_n (Or.inl (by omega))]
      exact a7 s hs
theorem q6_owns (hG : tn_Gd ks ρ) (hR : rm_P σ P) (hw : pp_w P) {n : Nat} (hn : n < pp_n P) {K : Int32 → (Nat → Nat → Int32) → Prop} (h : ∀ σ', rm_P σ' (pp_own P n) → rm_F σ σ' → σ' 39 9 = σ 39 9 → K (if pp_rk P n = true then 1 else 0) σ') : tn_CI m_X6_owns [.ref 39, .int (nI n)] ks ρ σ K := by
  have h5 := hw.2.1
  have ho := rm_own hR hw hn
  refine tn_iI mv_X6_owns (Nat.le_of_ble_eq_true rfl) (fun Γ hΓ hK => k_X6_owns_0 hG hΓ hK (nI n) ?_)
  simp only [tn_ki]
  refine q6_rankles hG hR hw hn (bz (fun q => ⟨vp_in_nI (by omega) (by omega), fun σ2 e2 σ3 e3 => ?_⟩) (fun q σ4 e4 => ?_))
  · rw [if_neg (by rw [q]; decide)] at ho
    rw [nI_cl (by omega)] at e2
    rw [q] at h
    subst e2
    rw [tn_u_n (Or.inl (by decide))] at e3
    subst e3
    refine h _ ho ((rm_F.u (Or.inr (Or.inr ⟨rfl, by omega⟩))).tr (rm_F.u (Or.inl ⟨rfl, by decide, by decide⟩))) ?_
    rw [tn_u_n (Or.inr (by decide)), tn_u_n (Or.inl (by decide))]
  · rw [if_pos q] at ho
    rw [q] at h
    subst e4
    exact h _ ho (rm_F.u (Or.inl ⟨rfl, by decide, by decide⟩)) (tn_u_n (Or.inr (by decide)))
end QM
