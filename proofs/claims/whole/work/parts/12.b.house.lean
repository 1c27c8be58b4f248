/-! ===== contracts: houses, stones, sheets, a parish that is read ===== -/
theorem bz {b : Bool} {A B : Prop} (hA : b = false → A) (hB : b = true → B) : ((if b = true then (1 : Int32) else 0) = 0 → A) ∧ (¬ (if b = true then (1 : Int32) else 0) = 0 → B) := by
  cases b
  · exact ⟨fun _ => hA rfl, fun q => absurd rfl q⟩
  · exact ⟨fun q => absurd q (by decide), fun _ => hB rfl⟩
theorem bn {b : Bool} {A B : Prop} (hB : b = true → B) (hA : b = false → A) : (¬ (if b = true then (1 : Int32) else 0) = 0 → B) ∧ ((if b = true then (1 : Int32) else 0) = 0 → A) := ⟨(bz hA hB).2, (bz hA hB).1⟩
theorem b01 {b : Bool} : (if b = true then (1 : Int32) else 0) = 0 ∨ (if b = true then (1 : Int32) else 0) = 1 := by cases b <;> decide
/-- is x a number from 0 on below m -/
def ib (x m : Int32) : Bool := decide (0 ≤ x) && decide (x < m)
theorem ib_nI {x : Int32} {n : Nat} (hn : n < 2 ^ 31) (h : ib x (nI n) = true) : ∃ j, j < n ∧ x = nI j := by
  unfold ib at h
  simp only [Bool.and_eq_true, decide_eq_true_eq] at h
  obtain ⟨h1, h2⟩ := h
  obtain ⟨j, hj, rfl⟩ := nI_of (x := x) (fun q => by rw [Int32.lt_iff_toInt_lt] at q; rw [Int32.le_iff_toInt_le] at h1; simp at h1 q; omega)
  exact ⟨j, (nI_ltI hj hn).mp h2, rfl⟩
theorem ib_of {j n : Nat} (hn : n < 2 ^ 31) (h : j < n) : ib (nI j) (nI n) = true := by
  unfold ib
  simp only [Bool.and_eq_true, decide_eq_true_eq]
  exact ⟨nI_pos' (by omega), (nI_ltI (by omega) hn).mpr h⟩
theorem i_nlt {a b : Int32} : (¬ a < b) ↔ b ≤ a := Int32.not_lt
theorem i_nle {a b : Int32} : (¬ a ≤ b) ↔ b < a := Int32.not_le
section QH
variable {ks : List (Nat × Nat)} {ρ : Nat → Nat → Nat} {σ : Nat → Nat → Int32}
theorem q_weight (hG : tn_Gd ks ρ) {c : Nat} (hk : tn_kd ks c = some (0, 0)) {K : Int32 → (Nat → Nat → Int32) → Prop} (h : K (hw_wt (σ c)) σ) : tn_CI m_X0_weight [.ref c] ks ρ σ K := by
  refine tn_iI mv_X0_weight (Nat.le_of_ble_eq_true rfl) (fun Γ hΓ hK => k_X0_weight_0 hG hΓ hK c hk ?_)
  simp only [tn_ki]
  unfold hw_wt at h
  refine ⟨fun q => ?_, fun q => ⟨fun q2 => ?_, fun q2 => ?_⟩⟩
  · rw [if_pos q] at h; exact h
  · rw [if_neg q, if_pos q2] at h; exact h
  · rw [if_neg q, if_neg q2] at h; exact h
theorem q_rankles (hG : tn_Gd ks ρ) {c : Nat} (hk : tn_kd ks c = some (0, 0)) {K : Int32 → (Nat → Nat → Int32) → Prop} (h : K (if hw_rk (σ c) = true then 1 else 0) σ) : tn_CI m_X0_rankles [.ref c] ks ρ σ K := by
  refine tn_iI mv_X0_rankles (Nat.le_of_ble_eq_true rfl) (fun Γ hΓ hK => k_X0_rankles_0 hG hΓ hK c hk ?_)
  simp only [tn_ki]
  unfold hw_rk at h
  refine ⟨fun q => ?_, fun q => q_weight hG hk ⟨fun q2 => ?_, fun q2 => ?_⟩⟩
  · simpa [q] using h
  · simpa [q, Int32.not_lt.mpr q2] using h
  · simpa [q, Int32.not_le.mp q2] using h
/-- a house's row behind its owning -/
def hw_own (σ : Nat → Nat → Int32) (c : Nat) : Nat → Nat → Int32 := if hw_rk (σ c) = true then tn_u σ c 4 1 else tn_u σ c 3 (σ c 3 + 1)
theorem q_ownUp (hG : tn_Gd ks ρ) {c : Nat} (hk : tn_kd ks c = some (0, 0)) {K : Int32 → (Nat → Nat → Int32) → Prop} (h : K (if hw_rk (σ c) = true then 1 else 0) (hw_own σ c)) : tn_CI m_X0_ownUp [.ref c] ks ρ σ K := by
  refine tn_iI mv_X0_ownUp (Nat.le_of_ble_eq_true rfl) (fun Γ hΓ hK => k_X0_ownUp_0 hG hΓ hK c hk ?_)
  simp only [tn_ki]
  unfold hw_own at h
  refine q_rankles hG hk (bn (fun q σ2 e => ?_) (fun q σ2 e => ?_))
  · rw [q] at h; subst e; simpa using h
  · rw [q] at h; subst e; simpa using h
theorem q_becomeH (hG : tn_Gd ks ρ) {c c1 : Nat} (hk : tn_kd ks c = some (0, 0)) (hk1 : tn_kd ks c1 = some (0, 0)) (hne : c1 ≠ c) (h01 : σ c1 4 = 0 ∨ σ c1 4 = 1) {K : (Nat → Nat → Int32) → Prop} (h : ∀ σ' : Nat → Nat → Int32, (∀ k, k < 5 → σ' c k = σ c1 k) → (∀ c', c' ≠ c → σ' c' = σ c') → K σ') : tn_CV m_X0_become [.ref c, .ref c1] ks ρ σ K := by
  refine tn_iV mv_X0_become (Nat.le_of_ble_eq_true rfl) (fun Γ hΓ hK => k_X0_become_0 hG hΓ hK c c1 hk hk1 ?_)
  simp only [tn_kv]
  intro σ1 e1 σ2 e2 σ3 e3 σ4 e4
  have hc : ∀ k, σ4 c1 k = σ c1 k := fun k => by rw [e4, tn_u_n (Or.inl hne), e3, tn_u_n (Or.inl hne), e2, tn_u_n (Or.inl hne), e1, tn_u_n (Or.inl hne)]
  refine ⟨by rw [hc]; exact h01, fun σ5 e5 => h σ5 (fun k hk => ?_) (fun c' hc' => funext fun k => ?_)⟩
  · have h3 : ∀ k, σ3 c1 k = σ c1 k := fun k => by rw [e3, tn_u_n (Or.inl hne), e2, tn_u_n (Or.inl hne), e1, tn_u_n (Or.inl hne)]
    have h2 : ∀ k, σ2 c1 k = σ c1 k := fun k => by rw [e2, tn_u_n (Or.inl hne), e1, tn_u_n (Or.inl hne)]
    have h1 : ∀ k, σ1 c1 k = σ c1 k := fun k => by rw [e1, tn_u_n (Or.inl hne)]
    have hz : k = 0 ∨ k = 1 ∨ k = 2 ∨ k = 3 ∨ k = 4 := by omega
    rw [e5, hc, e4, h3, e3, h2, e2, h1, e1]
    rcases hz with rfl | rfl | rfl | rfl | rfl <;> simp [tn_u]
  · rw [e5, tn_u_n (Or.inl hc'), e4, tn_u_n (Or.inl hc'), e3, tn_u_n (Or.inl hc'), e2, tn_u_n (Or.inl hc'), e1, tn_u_n (Or.inl hc')]
theorem q_becomeS (hG : tn_Gd ks ρ) {c c1 : Nat} (hk : tn_kd ks c = some (3, 0)) (hk1 : tn_kd ks c1 = some (3, 0)) (hne : c1 ≠ c) (h01 : σ c1 1 = 0 ∨ σ c1 1 = 1) {K : (Nat → Nat → Int32) → Prop} (h : ∀ σ' : Nat → Nat → Int32, (∀ k, k < 2 → σ' c k = σ c1 k) → (∀ c', c' ≠ c → σ' c' = σ c') → K σ') : tn_CV m_X3_become [.ref c, .ref c1] ks ρ σ K := by
  refine tn_iV mv_X3_become (Nat.le_of_ble_eq_true rfl) (fun Γ hΓ hK => k_X3_become_0 hG hΓ hK c c1 hk hk1 ?_)
  simp only [tn_kv]
  intro σ1 e1
  have hc : ∀ k, σ1 c1 k = σ c1 k := fun k => by rw [e1, tn_u_n (Or.inl hne)]
  refine ⟨by rw [hc]; exact h01, fun σ5 e5 => h σ5 (fun k hk => ?_) (fun c' hc' => funext fun k => ?_)⟩
  · have hz : k = 0 ∨ k = 1 := by omega
    rw [e5, hc, e1]
    rcases hz with rfl | rfl <;> simp [tn_u]
  · rw [e5, tn_u_n (Or.inl hc'), e1, tn_u_n (Or.inl hc')]
theorem q_hasHouse (hG : tn_Gd ks ρ) {b : Nat} (hb : tn_Pb b) {a : Int32} {K : Int32 → (Nat → Nat → Int32) → Prop} (h : K (if ib a (σ b 2) = true then 1 else 0) σ) : tn_CI m_X1_hasHouse [.ref b, .int a] ks ρ σ K := by
  refine tn_iI mv_X1_hasHouse (Nat.le_of_ble_eq_true rfl) (fun Γ hΓ hK => k_X1_hasHouse_0 hG hΓ hK b a hb ?_)
  simp only [tn_ki]
  unfold ib at h
  refine ⟨fun q => ?_, fun q => ⟨fun q2 => ?_, fun q2 => ?_⟩⟩
  · simpa [Int32.not_le.mpr q] using h
  · simpa [Int32.not_lt.mp q, Int32.not_lt.mpr q2] using h
  · simpa [Int32.not_lt.mp q, Int32.not_le.mp q2] using h
theorem q_hasStone (hG : tn_Gd ks ρ) {b : Nat} (hb : tn_Pb b) {a : Int32} {K : Int32 → (Nat → Nat → Int32) → Prop} (h : K (if ib a (σ b 3) = true then 1 else 0) σ) : tn_CI m_X1_hasStone [.ref b, .int a] ks ρ σ K := by
  refine tn_iI mv_X1_hasStone (Nat.le_of_ble_eq_true rfl) (fun Γ hΓ hK => k_X1_hasStone_0 hG hΓ hK b a hb ?_)
  simp only [tn_ki]
  unfold ib at h
  refine ⟨fun q => ?_, fun q => ⟨fun q2 => ?_, fun q2 => ?_⟩⟩
  · simpa [Int32.not_le.mpr q] using h
  · simpa [Int32.not_lt.mp q, Int32.not_lt.mpr q2] using h
  · simpa [Int32.not_lt.mp q, Int32.not_le.mp q2] using h
theorem nI_c5 {h n : Nat} (h1 : h < n) (h2 : n ≤ 1000) : vp_in (nI h) n ∧ (nI h).toNatClampNeg = h := ⟨vp_in_nI h1 (by omega), nI_clamp (by omega)⟩
theorem nI_cl {h : Nat} (h1 : h < 1000) : (nI h).toNatClampNeg = h := nI_clamp (by omega)
variable {Γ : tn_G} {K : Option Value → List (Nat × Nat) → (Nat → Nat → Nat) → (Nat → Nat → Int32) → Prop} {b : Nat} {P : pp_T}
/-- a loop's counter against a small number -/
theorem nI_end {h n : Nat} (h1 : h ≤ n) (h2 : n ≤ 1000) : (nI n ≤ nI h) ↔ h = n := by
  rw [nI_leI (by omega) (by omega)]
  omega
theorem l_hats (hG : tn_Gd ks ρ) (hΓ : tn_is Γ m_X1_hatsLost) (hK : tn_rt Γ m_X1_hatsLost K) (hb : tn_Pb b) (hR : rc_P σ b P) (hw : pp_w P) (h : K (some (.int (pp_hs P))) ks ρ σ) : ∀ m n, n + m = pp_n P → tn_A Γ 4 [.ref b, .int (pp_hsN P n), .int (nI n)] [] 0 0 ks ρ σ := by
  intro m
  have h2 : σ b 2 = nI (pp_n P) := (hR.1 2 (by omega) (by omega)).trans hw.1
  have h5 := hw.2.1
  induction m with
  | zero =>
    intro n hn
    refine k_X1_hatsLost_4 hG hΓ hK b hb _ _ ⟨fun _ => ?_, fun q => ?_⟩
    · rw [show n = pp_n P by omega]; exact h
    · rw [h2, nI_end (by omega) (by omega)] at q; omega
  | succ m ih =>
    intro n hn
    refine k_X1_hatsLost_4 hG hΓ hK b hb _ _ ⟨fun q => ?_, fun _ => ⟨vp_in_nI (by omega) (by omega), fun x ex y ey => ?_⟩⟩
    · rw [h2, nI_end (by omega) (by omega)] at q; omega
    · rw [nI_cl (by omega), hR.2.1 n (by omega) 3 (by omega)] at ex
      subst ex
      rw [nI_1] at ey
      subst ey
      exact ih (n + 1) (by omega)
theorem q_hatsLost (hG : tn_Gd ks ρ) (hb : tn_Pb b) (hR : rc_P σ b P) (hw : pp_w P) {K : Int32 → (Nat → Nat → Int32) → Prop} (h : K (pp_hs P) σ) : tn_CI m_X1_hatsLost [.ref b] ks ρ σ K := by
  refine tn_iI mv_X1_hatsLost (Nat.le_of_ble_eq_true rfl) (fun Γ hΓ hK => k_X1_hatsLost_0 hG hΓ hK b hb ?_)
  exact l_hats hG hΓ hK hb hR hw (by rw [tn_ki]; exact h) (pp_n P) 0 (by omega)
theorem hR_rk (hR : rc_P σ b P) {n : Nat} (hn : n < pp_n P) : hw_rk (σ (b + 3 + n)) = pp_rk P n := hw_rk_c (hR.2.1 n hn)
theorem hR_wt (hR : rc_P σ b P) {n : Nat} (hn : n < pp_n P) : hw_wt (σ (b + 3 + n)) = pp_wt P n := hw_wt_c (hR.2.1 n hn)
theorem l_voS (hG : tn_Gd ks ρ) (hΓ : tn_is Γ m_X1_voice) (hK : tn_rt Γ m_X1_voice K) (hb : tn_Pb b) (hR : rc_P σ b P) (hw : pp_w P) {a : Int32} (h : K (some (.int (pp_voS P a (pp_m P)))) ks ρ σ) : ∀ m n, n + m = pp_m P → tn_A Γ 48 [.ref b, .int (pp_voS P a n), .int (nI n)] [] 0 0 ks ρ σ := by
  intro m
  have h2 : σ b 3 = nI (pp_m P) := (hR.1 3 (by omega) (by omega)).trans hw.2.2.1
  have h5 := hw.2.2.2.1
  induction m with
  | zero =>
    intro n hn
    refine k_X1_voice_48 hG hΓ hK b hb _ _ ⟨fun _ => ?_, fun q => ?_⟩
    · rw [show n = pp_m P by omega]; exact h
    · rw [h2, nI_end (by omega) (by omega)] at q; omega
  | succ m ih =>
    intro n hn
    have e0 := hR.2.2 n (by omega) 0 (by omega)
    have e1 := hR.2.2 n (by omega) 1 (by omega)
    refine k_X1_voice_48 hG hΓ hK b hb _ _ ⟨fun q => ?_, fun _ => ⟨vp_in_nI (by omega) (by omega), ?_⟩⟩
    · rw [h2, nI_end (by omega) (by omega)] at q; omega
    · rw [nI_cl (by omega), e0, e1]
      have ih1 := ih (n + 1) (by omega)
      refine ⟨fun q x ex y ey => ?_, fun q x ex y ey => ?_⟩
      · subst ex; rw [nI_1] at ey; subst ey
        simpa [pp_voS, q] using ih1
      · subst ex; rw [nI_1] at ey; subst ey
        simpa [pp_voS, q] using ih1
theorem l_voH (hG : tn_Gd ks ρ) (hΓ : tn_is Γ m_X1_voice) (hK : tn_rt Γ m_X1_voice K) (hb : tn_Pb b) (hR : rc_P σ b P) (hw : pp_w P) (h : K (some (.int (pp_vo P))) ks ρ σ) : ∀ m n, n + m = pp_n P → tn_A Γ 4 [.ref b, .int (pp_voH P n), .int (nI n)] [] 0 0 ks ρ σ := by
  intro m
  have h2 : σ b 2 = nI (pp_n P) := (hR.1 2 (by omega) (by omega)).trans hw.1
  have h5 := hw.2.1
  induction m with
  | zero =>
    intro n hn
    refine k_X1_voice_4 hG hΓ hK b hb _ _ ⟨fun _ => ?_, fun q => ?_⟩
    · rw [show n = pp_n P by omega]
      exact l_voS hG hΓ hK hb hR hw h (pp_m P) 0 (by omega)
    · rw [h2, nI_end (by omega) (by omega)] at q; omega
  | succ m ih =>
    intro n hn
    refine k_X1_voice_4 hG hΓ hK b hb _ _ ⟨fun q => ?_, fun _ => ⟨vp_in_nI (by omega) (by omega), ?_⟩⟩
    · rw [h2, nI_end (by omega) (by omega)] at q; omega
    · have hk := gp_kH hG hb (j := n) (by omega)
      have ih1 := ih (n + 1) (by omega)
      rw [nI_cl (by omega)]
      refine q_rankles hG hk ?_
      rw [hR_rk hR (by omega)]
      refine bz (fun q x ex y ey => ?_) (fun q => q_weight hG hk (fun x ex y ey => ?_))
      · subst ex; rw [nI_1] at ey; subst ey
        simpa [pp_voH, q] using ih1
      · rw [hR_wt hR (by omega)] at ex
        subst ex; rw [nI_1] at ey; subst ey
        simpa [pp_voH, q] using ih1
theorem q_voice (hG : tn_Gd ks ρ) (hb : tn_Pb b) (hR : rc_P σ b P) (hw : pp_w P) {K : Int32 → (Nat → Nat → Int32) → Prop} (h : K (pp_vo P) σ) : tn_CI m_X1_voice [.ref b] ks ρ σ K := by
  refine tn_iI mv_X1_voice (Nat.le_of_ble_eq_true rfl) (fun Γ hΓ hK => k_X1_voice_0 hG hΓ hK b hb ?_)
  exact l_voH hG hΓ hK hb hR hw (by rw [tn_ki]; exact h) (pp_n P) 0 (by omega)
theorem l_rs (hG : tn_Gd ks ρ) (hΓ : tn_is Γ m_X1_ranklingSet) (hK : tn_rt Γ m_X1_ranklingSet K) (hb : tn_Pb b) (hR : rc_P σ b P) (hw : pp_w P) (h : K (some (.int (pp_rs P))) ks ρ σ) : ∀ m n, n + m = pp_n P → tn_A Γ 4 [.ref b, .int (pp_rsN P n), .int (nI n)] [] 0 0 ks ρ σ := by
  intro m
  have h2 : σ b 2 = nI (pp_n P) := (hR.1 2 (by omega) (by omega)).trans hw.1
  have h5 := hw.2.1
  induction m with
  | zero =>
    intro n hn
    refine k_X1_ranklingSet_4 hG hΓ hK b hb _ _ ⟨fun _ => ?_, fun q => ?_⟩
    · rw [show n = pp_n P by omega]; exact h
    · rw [h2, nI_end (by omega) (by omega)] at q; omega
  | succ m ih =>
    intro n hn
    refine k_X1_ranklingSet_4 hG hΓ hK b hb _ _ ⟨fun q => ?_, fun _ => ⟨vp_in_nI (by omega) (by omega), ?_⟩⟩
    · rw [h2, nI_end (by omega) (by omega)] at q; omega
    · have hk := gp_kH hG hb (j := n) (by omega)
      have ih1 := ih (n + 1) (by omega)
      rw [nI_cl (by omega)]
      refine q_rankles hG hk ?_
      rw [hR_rk hR (by omega)]
      refine bz (fun q y ey => ?_) (fun q x ex y ey => ?_)
      · rw [nI_1] at ey; subst ey
        simpa [pp_rsN, q] using ih1
      · subst ex; rw [nI_1] at ey; subst ey
        simpa [pp_rsN, q] using ih1
theorem q_ranklingSet (hG : tn_Gd ks ρ) (hb : tn_Pb b) (hR : rc_P σ b P) (hw : pp_w P) {K : Int32 → (Nat → Nat → Int32) → Prop} (h : K (pp_rs P) σ) : tn_CI m_X1_ranklingSet [.ref b] ks ρ σ K := by
  refine tn_iI mv_X1_ranklingSet (Nat.le_of_ble_eq_true rfl) (fun Γ hΓ hK => k_X1_ranklingSet_0 hG hΓ hK b hb ?_)
  exact l_rs hG hΓ hK hb hR hw (by rw [tn_ki]; exact h) (pp_n P) 0 (by omega)
theorem q_setCount (hG : tn_Gd ks ρ) (hb : tn_Pb b) (hR : rc_P σ b P) {K : Int32 → (Nat → Nat → Int32) → Prop} (h : K (1 <<< (P 0 2 &&& 31)) σ) : tn_CI m_X1_setCount [.ref b] ks ρ σ K := by
  refine tn_iI mv_X1_setCount (Nat.le_of_ble_eq_true rfl) (fun Γ hΓ hK => k_X1_setCount_0 hG hΓ hK b hb ?_)
  simp only [tn_ki]
  rw [hR.1 2 (by omega) (by omega)]
  exact h
/-- does each of the set rankle -/
def pp_dr (P : pp_T) (x : Int32) : Bool := (x &&& (pp_rs P ^^^ (-1))) == 0
theorem q_doesSetRankle (hG : tn_Gd ks ρ) (hb : tn_Pb b) (hR : rc_P σ b P) (hw : pp_w P) {x : Int32} {K : Int32 → (Nat → Nat → Int32) → Prop} (h : K (if pp_dr P x = true then 1 else 0) σ) : tn_CI m_X1_doesSetRankle [.ref b, .int x] ks ρ σ K := by
  refine tn_iI mv_X1_doesSetRankle (Nat.le_of_ble_eq_true rfl) (fun Γ hΓ hK => k_X1_doesSetRankle_0 hG hΓ hK b x hb ?_)
  simp only [tn_ki]
  refine q_ranklingSet hG hb hR hw ?_
  unfold pp_dr at h
  refine ⟨fun q => ?_, fun q => ?_⟩
  · rw [show ((x &&& (pp_rs P ^^^ (-1))) == 0) = false from beq_false_of_ne q] at h; exact h
  · rw [show ((x &&& (pp_rs P ^^^ (-1))) == 0) = true from beq_iff_eq.mpr q] at h; exact h
theorem l_ws (hG : tn_Gd ks ρ) (hΓ : tn_is Γ m_X1_weightOfSet) (hK : tn_rt Γ m_X1_weightOfSet K) (hb : tn_Pb b) (hR : rc_P σ b P) (hw : pp_w P) {x : Int32} (h : K (some (.int (pp_ws P x))) ks ρ σ) : ∀ m n, n + m = pp_n P → tn_A Γ 4 [.ref b, .int x, .int (pp_wsN P x n), .int (nI n)] [] 0 0 ks ρ σ := by
  intro m
  have h2 : σ b 2 = nI (pp_n P) := (hR.1 2 (by omega) (by omega)).trans hw.1
  have h5 := hw.2.1
  induction m with
  | zero =>
    intro n hn
    refine k_X1_weightOfSet_4 hG hΓ hK b hb _ _ _ ⟨fun _ => ?_, fun q => ?_⟩
    · rw [show n = pp_n P by omega]; exact h
    · rw [h2, nI_end (by omega) (by omega)] at q; omega
  | succ m ih =>
    intro n hn
    have ih1 := ih (n + 1) (by omega)
    refine k_X1_weightOfSet_4 hG hΓ hK b hb _ _ _ ⟨fun q => ?_, fun _ => ⟨fun q u eu y ey => ?_, fun q => ⟨vp_in_nI (by omega) (by omega), ?_⟩⟩⟩
    · rw [h2, nI_end (by omega) (by omega)] at q; omega
    · subst eu; rw [nI_1] at ey; subst ey
      have q' : bi x n = 0 := q
      simpa [pp_wsN, q'] using ih1
    · have hk := gp_kH hG hb (j := n) (by omega)
      have q' : ¬ bi x n = 0 := q
      rw [nI_cl (by omega)]
      refine q_weight hG hk (fun u eu y ey => ?_)
      rw [hR_wt hR (by omega)] at eu
      subst eu; rw [nI_1] at ey; subst ey
      simpa [pp_wsN, q'] using ih1
theorem q_weightOfSet (hG : tn_Gd ks ρ) (hb : tn_Pb b) (hR : rc_P σ b P) (hw : pp_w P) {x : Int32} {K : Int32 → (Nat → Nat → Int32) → Prop} (h : K (pp_ws P x) σ) : tn_CI m_X1_weightOfSet [.ref b, .int x] ks ρ σ K := by
  refine tn_iI mv_X1_weightOfSet (Nat.le_of_ble_eq_true rfl) (fun Γ hΓ hK => k_X1_weightOfSet_0 hG hΓ hK b x hb ?_)
  exact l_ws hG hΓ hK hb hR hw (by rw [tn_ki]; exact h) (pp_n P) 0 (by omega)
end QH
