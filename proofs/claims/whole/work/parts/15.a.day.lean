/-! ===== call: day ===== -/
theorem pp_act_n {P : pp_T} {a : Int32} : pp_n (pp_act P a).2 = pp_n P := by
  unfold pp_act
  by_cases q1 : (5 : Int32) ≤ a
  · rw [if_pos q1]
    by_cases q2 : (10 : Int32) ≤ a
    · rw [if_pos q2]
      by_cases q3 : (14 : Int32) ≤ a
      · rw [if_pos q3]; exact pp_pn_n
      · rw [if_neg q3]
        by_cases q4 : ib (a - 10) (P 0 3) = true ∧ P (8 + (a - 10).toNatClampNeg) 1 = 0
        · rw [if_pos q4]; exact pp_n0 (funext fun k => tn_u_n (Or.inl (by omega)))
        · rw [if_neg q4]
    · rw [if_neg q2]
      by_cases q4 : ib (a - 5) (P 0 2) = true
      · rw [if_pos q4]; exact pp_n0 (funext fun k => tn_u_n (Or.inl (by omega)))
      · rw [if_neg q4]
  · rw [if_neg q1]
    by_cases q4 : ib a (P 0 2) = true
    · rw [if_pos q4]; exact pp_own_n
    · rw [if_neg q4]
theorem pp_w.act {P : pp_T} (hw : pp_w P) (h0 : 0 < pp_n P) {a : Int32} : pp_w (pp_act P a).2 := by
  have h5 := hw.2.1
  unfold pp_act
  by_cases q1 : (5 : Int32) ≤ a
  · rw [if_pos q1]
    by_cases q2 : (10 : Int32) ≤ a
    · rw [if_pos q2]
      by_cases q3 : (14 : Int32) ≤ a
      · rw [if_pos q3]; exact hw.pn h0
      · rw [if_neg q3]
        by_cases q4 : ib (a - 10) (P 0 3) = true ∧ P (8 + (a - 10).toNatClampNeg) 1 = 0
        · rw [if_pos q4]; exact hw.la
        · rw [if_neg q4]; exact hw
    · rw [if_neg q2]
      by_cases q4 : ib (a - 5) (P 0 2) = true
      · rw [if_pos q4]
        rw [hw.1] at q4
        obtain ⟨j, hj, e⟩ := ib_nI (by omega) q4
        rw [e, nI_cl (by omega)]
        exact hw.sl (w := 9) (by omega) (by omega)
      · rw [if_neg q4]; exact hw
  · rw [if_neg q1]
    by_cases q4 : ib a (P 0 2) = true
    · rw [if_pos q4]; exact hw.own _
    · rw [if_neg q4]; exact hw
def pp_day (f : Nat → Int32) (P : pp_T) (j : Nat) : Nat → Int32 × pp_T
  | 0 => (-9, P)
  | m + 1 => if (pp_act P (f j)).1 = true then pp_day f (pp_act P (f j)).2 (j + 1) m else (nI j, (pp_act P (f j)).2)
def pp_ao (f : Nat → Int32) (j : Nat) : Nat → Bool
  | 0 => true
  | m + 1 => iw (f j) 0 14 && pp_ao f (j + 1) m
theorem pp_ao_le {f : Nat → Int32} : ∀ m j, pp_ao f j m = true → ∀ x, j ≤ x → x < j + m → f x ≤ 14
  | 0, j, _, x, h1, h2 => by omega
  | m + 1, j, h, x, h1, h2 => by
    unfold pp_ao at h
    rw [Bool.and_eq_true] at h
    by_cases e : x = j
    · subst e
      have := h.1
      unfold iw at this
      simp only [Bool.and_eq_true, decide_eq_true_eq] at this
      exact this.2
    · exact pp_ao_le m (j + 1) h.2 x (by omega) (by omega)
theorem pp_day_w {f : Nat → Int32} : ∀ m j (P : pp_T), pp_w P → 0 < pp_n P → pp_w (pp_day f P j m).2 ∧ pp_n (pp_day f P j m).2 = pp_n P
  | 0, j, P, hw, h0 => ⟨hw, rfl⟩
  | m + 1, j, P, hw, h0 => by
    unfold pp_day
    by_cases e : (pp_act P (f j)).1 = true
    · rw [if_pos e]
      have := pp_day_w (f := f) m (j + 1) (pp_act P (f j)).2 (hw.act h0) (by rw [pp_act_n]; exact h0)
      exact ⟨this.1, this.2.trans pp_act_n⟩
    · rw [if_neg e]
      exact ⟨hw.act h0, pp_act_n⟩
/-- what is told of a day -/
def f_after (P P' : pp_T) (a : Int32) : Int32 := if a = 0 then pp_vo P' else if a = 2 then pp_hs P' - pp_hs P else if a = 3 then pp_rs P' else if a = 4 then P' 0 5 else if ib (a - 10) (P' 0 2) = true then P' (3 + (a - 10).toNatClampNeg) 2 else -9
section QD
variable {ks : List (Nat × Nat)} {ρ : Nat → Nat → Nat} {σ : Nat → Nat → Int32} {Γ : tn_G} {P : pp_T}
theorem l5_areActs (hG : tn_Gd ks ρ) {K : Option Value → List (Nat × Nat) → (Nat → Nat → Nat) → (Nat → Nat → Int32) → Prop} (hΓ : tn_is Γ m_X5_areActs) (hK : tn_rt Γ m_X5_areActs K) {c i n : Nat} (hcc : tn_Sb c) (hi : i + n ≤ 60) {f : Nat → Int32} (hf : ∀ x, x < n → σ (c + 1) (i + x) = f x) : ∀ m j, j + m = n → K (some (.int (if pp_ao f j m = true then 1 else 0))) ks ρ σ → tn_A Γ 2 [.ref c, .int (nI i), .int (nI n), .int (nI j)] [] 0 0 ks ρ σ := by
  intro m
  induction m with
  | zero =>
    intro j hj h
    refine k_X5_areActs_2 hG hΓ hK c hcc _ _ _ ⟨fun _ => h, fun q => ?_⟩
    rw [nI_leI (by omega) (by omega)] at q; omega
  | succ m ih =>
    intro j hj h
    refine k_X5_areActs_2 hG hΓ hK c hcc _ _ _ ⟨fun q => ?_, fun _ => ?_⟩
    · rw [nI_leI (by omega) (by omega)] at q; omega
    · rw [nI_add, nI_cl (by omega), hf j (by omega)]
      unfold pp_ao at h
      refine ⟨vp_in_nI (by omega) (by omega), q5_within hG (bn (fun q x ex => ?_) (fun q => ?_))⟩
      · rw [nI_1] at ex; subst ex
        rw [q, Bool.true_and] at h
        exact ih (j + 1) (by omega) h
      · rw [q, Bool.false_and] at h
        exact h
theorem q5_areActs (hG : tn_Gd ks ρ) {c i n : Nat} (hcc : tn_Sb c) (hi : i + n ≤ 60) {f : Nat → Int32} (hf : ∀ x, x < n → σ (c + 1) (i + x) = f x) {K : Int32 → (Nat → Nat → Int32) → Prop} (h : K (if pp_ao f 0 n = true then 1 else 0) σ) : tn_CI m_X5_areActs [.ref c, .int (nI i), .int (nI n)] ks ρ σ K := by
  refine tn_iI mv_X5_areActs (Nat.le_of_ble_eq_true rfl) (fun Γ hΓ hK => k_X5_areActs_0 hG hΓ hK c _ _ hcc ?_)
  rw [← nI_0]
  refine l5_areActs hG hΓ hK hcc hi hf n 0 (by omega) ?_
  rw [tn_ki]
  exact h
theorem l5_fwd (hG : tn_Gd ks ρ) {K : Option Value → List (Nat × Nat) → (Nat → Nat → Nat) → (Nat → Nat → Int32) → Prop} (hΓ : tn_is Γ m_X5_firstWrongOfDay) (hK : tn_rt Γ m_X5_firstWrongOfDay K) {c i n : Nat} (hcc : tn_Sb c) (hi : i + n ≤ 60) {f : Nat → Int32} {σ0 : Nat → Nat → Int32} (hf : ∀ x, x < n → σ0 (c + 1) (i + x) = f x) : ∀ m j (P : pp_T) (σ : Nat → Nat → Int32), j + m = n → rc_P σ 15 P → pp_w P → 0 < pp_n P → rc_F 15 σ0 σ → (∀ σ', rc_P σ' 15 (pp_day f P j m).2 → rc_F 15 σ0 σ' → K (some (.int (pp_day f P j m).1)) ks ρ σ') → tn_A Γ 14 [.ref 2, .ref c, .int (nI i), .int (nI n), .int (nI j)] [] 0 0 ks ρ σ := by
  intro m
  induction m with
  | zero =>
    intro j P σ hj hR hw h0 hF h
    refine k_X5_firstWrongOfDay_14 hG hΓ hK c hcc _ _ _ ⟨fun _ => h σ hR hF, fun q => ?_⟩
    rw [nI_leI (by omega) (by omega)] at q; omega
  | succ m ih =>
    intro j P σ hj hR hw h0 hF h
    refine k_X5_firstWrongOfDay_14 hG hΓ hK c hcc _ _ _ ⟨fun q => ?_, fun _ => ?_⟩
    · rw [nI_leI (by omega) (by omega)] at q; omega
    · have ec : σ (c + 1) (i + j) = f j := by
        rw [hF (c + 1) (by unfold tn_Sb at hcc; omega)]
        exact hf j (by omega)
      rw [nI_add, nI_cl (by omega), ec]
      unfold pp_day at h
      refine ⟨vp_in_nI (by omega) (by omega), q_acts hG pb15 hR hw h0 (fun σ1 r1 f1 => bn (fun q x ex => ?_) (fun q => ?_))⟩
      · rw [nI_1] at ex; subst ex
        rw [if_pos q] at h
        exact ih (j + 1) _ σ1 (by omega) r1 (hw.act h0) (by rw [pp_act_n]; exact h0) (hF.tr f1) h
      · rw [if_neg (by rw [q]; decide)] at h
        exact h σ1 r1 (hF.tr f1)
theorem q5_fwd (hG : tn_Gd ks ρ) {c i n : Nat} (hcc : tn_Sb c) (hi : i + n ≤ 60) {f : Nat → Int32} (hf : ∀ x, x < n → σ (c + 1) (i + x) = f x) (hR : rc_P σ 3 P) (hw : pp_w P) (h0 : 0 < pp_n P) {K : Int32 → (Nat → Nat → Int32) → Prop} (h : ∀ σ', rc_P σ' 15 (pp_day f P 0 n).2 → rc_F 15 σ σ' → K (pp_day f P 0 n).1 σ') : tn_CI m_X5_firstWrongOfDay [.ref 2, .ref c, .int (nI i), .int (nI n)] ks ρ σ K := by
  refine tn_iI mv_X5_firstWrongOfDay (Nat.le_of_ble_eq_true rfl) (fun Γ hΓ hK => k_X5_firstWrongOfDay_0 hG hΓ hK c _ _ hcc ?_)
  rw [← nI_0]
  refine q_become hG pb15 pb3 (by decide) hR hw (fun σ1 c1 f1 => ?_)
  refine l5_fwd hG hΓ hK hcc hi hf n 0 P σ1 (by omega) c1 hw h0 f1 (fun σ' g1 g2 => ?_)
  rw [tn_ki]
  exact h σ' g1 g2
theorem q5_after (hG : tn_Gd ks ρ) {P' : pp_T} (hR' : rc_P σ 15 P') (hw' : pp_w P') (hR : rc_P σ 3 P) (hw : pp_w P) {a : Int32} (ha : a ≠ 1) {K : Int32 → (Nat → Nat → Int32) → Prop} (h : K (f_after P P' a) σ) : tn_CI m_X5_afterDay [.ref 2, .int a] ks ρ σ K := by
  have h5 := hw'.2.1
  refine tn_iI mv_X5_afterDay (Nat.le_of_ble_eq_true rfl) (fun Γ hΓ hK => k_X5_afterDay_0 hG hΓ hK a ?_)
  simp only [tn_ki]
  unfold f_after at h
  refine ⟨fun q => ?_, fun q0 => ⟨fun q => absurd q ha, fun _ => ⟨fun q => ?_, fun q2 => ⟨fun q => ?_, fun q3 => ⟨fun q => ?_, fun q4 x ex => ?_⟩⟩⟩⟩⟩
  · rw [if_pos q] at h; exact q_voice hG pb15 hR' hw' h
  · rw [if_neg q0, if_pos q] at h; exact q_hatsLost hG pb15 hR' hw' (q_hatsLost hG pb3 hR hw h)
  · rw [if_neg q0, if_neg q2, if_pos q] at h; exact q_ranklingSet hG pb15 hR' hw' h
  · rw [if_neg q0, if_neg q2, if_neg q3, if_pos q] at h; rw [hR'.1 5 (by omega) (by omega)]; exact h
  · rw [if_neg q0, if_neg q2, if_neg q3, if_neg q4, ← ex] at h
    refine q_hasHouse hG pb15 ?_
    rw [hR'.1 2 (by omega) (by omega)]
    refine bz (fun q => ?_) (fun q => ?_)
    · rw [q] at h; exact h
    · rw [if_pos q] at h
      rw [hw'.1] at q
      obtain ⟨j, hj, rfl⟩ := ib_nI (by omega) q
      rw [nI_cl (by omega)] at h ⊢
      rw [hR'.2.1 j hj 2 (by omega)]
      exact ⟨vp_in_nI (by omega) (by omega), h⟩
theorem l6_goDay (hG : tn_Gd ks ρ) {K : Option Value → List (Nat × Nat) → (Nat → Nat → Nat) → (Nat → Nat → Int32) → Prop} (hΓ : tn_is Γ m_X6_goDay) (hK : tn_rt Γ m_X6_goDay K) {i n : Nat} (hi : i + n ≤ 240) {f : Nat → Int32} {σ0 : Nat → Nat → Int32} (hf : ∀ x, x < n → σ0 42 (i + x) = f x) (hl : ∀ x, x < n → f x ≤ 14) : ∀ m j (P : pp_T) (σ : Nat → Nat → Int32), j + m = n → rm_P σ P → pp_w P → 0 < pp_n P → rm_F σ0 σ → (∀ σ', rm_P σ' (pp_day f P j m).2 → rm_F σ0 σ' → K (some (.int (pp_day f P j m).1)) ks ρ σ') → tn_A Γ 2 [.ref 39, .int (nI i), .int (nI n), .int (nI j)] [] 0 0 ks ρ σ := by
  intro m
  induction m with
  | zero =>
    intro j P σ hj hR hw h0 hF h
    refine k_X6_goDay_2 hG hΓ hK _ _ _ ⟨fun _ => h σ hR hF, fun q => ?_⟩
    rw [nI_leI (by omega) (by omega)] at q; omega
  | succ m ih =>
    intro j P σ hj hR hw h0 hF h
    refine k_X6_goDay_2 hG hΓ hK _ _ _ ⟨fun q => ?_, fun _ => ?_⟩
    · rw [nI_leI (by omega) (by omega)] at q; omega
    · have ec : σ 42 (i + j) = f j := by
        rw [hF.1 42 (by omega) (by omega) (by omega)]
        exact hf j (by omega)
      rw [nI_add, nI_cl (by omega), ec]
      unfold pp_day at h
      refine ⟨vp_in_nI (by omega) (by omega), q6_does hG hR hw h0 (hl j (by omega)) (fun σ1 r1 f1 => bn (fun q x ex => ?_) (fun q => ?_))⟩
      · rw [nI_1] at ex; subst ex
        rw [if_pos q] at h
        exact ih (j + 1) _ σ1 (by omega) r1 (hw.act h0) (by rw [pp_act_n]; exact h0) (hF.tr f1) h
      · rw [if_neg (by rw [q]; decide)] at h
        exact h σ1 r1 (hF.tr f1)
theorem q6_goDay (hG : tn_Gd ks ρ) {i n : Nat} (hi : i + n ≤ 240) {f : Nat → Int32} (hf : ∀ x, x < n → σ 42 (i + x) = f x) (hl : ∀ x, x < n → f x ≤ 14) (hR : rm_P σ P) (hw : pp_w P) (h0 : 0 < pp_n P) {K : Int32 → (Nat → Nat → Int32) → Prop} (h : ∀ σ', rm_P σ' (pp_day f P 0 n).2 → rm_F σ σ' → K (pp_day f P 0 n).1 σ') : tn_CI m_X6_goDay [.ref 39, .int (nI i), .int (nI n)] ks ρ σ K := by
  refine tn_iI mv_X6_goDay (Nat.le_of_ble_eq_true rfl) (fun Γ hΓ hK => k_X6_goDay_0 hG hΓ hK _ _ ?_)
  rw [← nI_0]
  refine l6_goDay hG hΓ hK hi hf hl n 0 P σ (by omega) hR hw h0 rm_F.rf (fun σ' g1 g2 => ?_)
  rw [tn_ki]
  exact h σ' g1 g2
theorem asked {a : Int32} (h : (iw a 0 4 || iw a 10 14) = true) : ∃ j, (j ≤ 4 ∨ (10 ≤ j ∧ j ≤ 14)) ∧ a = nI j := by
  rw [Bool.or_eq_true] at h
  rcases h with h | h
  · obtain ⟨j, h1, h2, e⟩ := iw_nI (n := 0) (m := 4) nI_0.symm (by decide) (by omega) (by omega) h
    exact ⟨j, by omega, e⟩
  · obtain ⟨j, h1, h2, e⟩ := iw_nI (n := 10) (m := 14) (by decide) (by decide) (by omega) (by omega) h
    exact ⟨j, by omega, e⟩
theorem q6_tell (hG : tn_Gd ks ρ) {P' : pp_T} (hR' : rm_P σ P') (hw' : pp_w P') {a : Int32} (ha : (iw a 0 4 || iw a 10 14) = true) {K : Int32 → (Nat → Nat → Int32) → Prop} (h : K (if a = 1 then P' 0 5 else f_after P P' a) σ) : tn_CI m_X6_tellDay [.ref 39, .int a, .int (pp_hs P)] ks ρ σ K := by
  have h5 := hw'.2.1
  obtain ⟨j, hj, e⟩ := asked ha
  have la : a = 0 ↔ j = 0 := by rw [e, ← nI_0]; exact nI_eq (by omega) (by omega)
  have l1 : a = 1 ↔ j = 1 := by rw [e, show (1 : Int32) = nI 1 by decide]; exact nI_eq (by omega) (by omega)
  have l2 : a = 2 ↔ j = 2 := by rw [e, show (2 : Int32) = nI 2 by decide]; exact nI_eq (by omega) (by omega)
  have l3 : a = 3 ↔ j = 3 := by rw [e, show (3 : Int32) = nI 3 by decide]; exact nI_eq (by omega) (by omega)
  have l4 : a = 4 ↔ j = 4 := by rw [e, show (4 : Int32) = nI 4 by decide]; exact nI_eq (by omega) (by omega)
  have l10 : a < 10 ↔ j < 10 := by rw [e, show (10 : Int32) = nI 10 by decide]; exact nI_ltI (by omega) (by omega)
  refine tn_iI mv_X6_tellDay (Nat.le_of_ble_eq_true rfl) (fun Γ hΓ hK => k_X6_tellDay_0 hG hΓ hK a _ ?_)
  simp only [tn_ki]
  unfold f_after at h
  refine ⟨fun q => ⟨fun q0 => ?_, fun q0 => ⟨fun q1 => ?_, fun q1 => ⟨fun q2 => ?_, fun q2 => ⟨fun q3 => ?_, fun q3 => ?_⟩⟩⟩⟩, fun q => ?_⟩
  · rw [if_neg (fun z => by have := l1.mp z; have := la.mp q0; omega), if_pos q0] at h
    exact q6_voiceNow hG hR' hw' h
  · rw [if_pos q1] at h
    rw [hR'.2.2.2.1]; exact h
  · rw [if_neg q1, if_neg q0, if_pos q2] at h
    rw [hR'.2.2.2.2.1]; exact h
  · rw [if_neg q1, if_neg q0, if_neg q2, if_pos q3] at h
    exact q6_whoRankle hG hR' hw' h
  · rw [if_neg q1, if_neg q0, if_neg q2, if_neg q3, if_pos (l4.mpr (by have := l10.mp q; have a0 : ¬ j = 0 := fun z => q0 (la.mpr z); have a1 : ¬ j = 1 := fun z => q1 (l1.mpr z); have a2 : ¬ j = 2 := fun z => q2 (l2.mpr z); have a3 : ¬ j = 3 := fun z => q3 (l3.mpr z); omega))] at h
    rw [hR'.2.2.2.1]; exact h
  · have jq : ¬ j < 10 := fun z => q (l10.mpr z)
    rw [if_neg (fun z => by have := l1.mp z; omega), if_neg (fun z => by have := la.mp z; omega), if_neg (fun z => by have := l2.mp z; omega), if_neg (fun z => by have := l3.mp z; omega), if_neg (fun z => by have := l4.mp z; omega)] at h
    refine q6_isHouse hG ?_
    rw [hR'.1]
    refine bz (fun z => ?_) (fun z => ?_)
    · rw [z] at h; exact h
    · rw [if_pos z] at h
      rw [hw'.1] at z
      obtain ⟨y, hy, ey⟩ := ib_nI (by omega) z
      rw [ey, nI_cl (by omega)] at h ⊢
      rw [(hR'.2.2.2.2.2.1 y hy).2.2.1]
      exact ⟨vp_in_nI (by omega) (by omega), h⟩
def f_day (P : pp_T) (f : Nat → Int32) (n : Nat) (a : Int32) : Int32 := if a = 1 then (pp_day f P 0 n).1 else if (pp_day f P 0 n).1 = -9 then f_after P (pp_day f P 0 n).2 a else -100 - (pp_day f P 0 n).1
theorem l6_day (hG : tn_Gd ks ρ) {K : Option Value → List (Nat × Nat) → (Nat → Nat → Nat) → (Nat → Nat → Int32) → Prop} (hΓ : tn_is Γ m_X6_day) (hK : tn_rt Γ m_X6_day K) {i n : Nat} {a : Int32} (ha : (iw a 0 4 || iw a 10 14) = true) (hi : i + n ≤ 240) {f : Nat → Int32} (hf : ∀ x, x < n → σ 42 (i + x) = f x) (hR : rm_P σ P) (hw : pp_w P) (h0 : 0 < pp_n P) (h1 : pp_ao f 0 n = false → K (some (.int (-2))) ks ρ σ) (h2 : pp_ao f 0 n = true → ∀ σ', (∀ c, c ≠ 50 → σ' c = σ c) → K (some (.int (f_day P f n a))) ks ρ σ') : ∀ m j, j + m = n → pp_ao f 0 n = pp_ao f j m → tn_A Γ 101 [.ref 39, .null, .null, .null, .int (nI n), .int a, .null, .int (nI i), .int (nI j), .null, .null] [] 0 0 ks ρ σ := by
  intro m
  induction m with
  | zero =>
    intro j hj ho
    refine k_X6_day_101 hG hΓ hK _ _ _ _ ⟨fun _ => ?_, fun q => ?_⟩
    · have ho' : pp_ao f 0 n = true := by rw [ho]; rfl
      have hl : ∀ x, x < n → f x ≤ 14 := fun x hx => pp_ao_le n 0 ho' x (by omega) (by omega)
      refine q6_keep hG nI_0.symm (by omega) (fun σ1 k1 g1 g2 x ex => ?_)
      have m1 : rm_P σ1 P := hR.c (fun c z _ => g1 c z)
      rw [m1.2.2.2.2.1] at ex
      subst ex
      have hw' := pp_day_w (f := f) n 0 P hw h0
      refine q6_goDay hG hi (fun x hx => by rw [g1 42 (by omega)]; exact hf x hx) hl m1 hw h0 (fun σ2 m2 f2 => ?_)
      refine q6_tell hG m2 hw'.1 ha ?_
      refine q6_putBack hG nI_0.symm (by omega) k1 f2 ?_
      have h3 := h2 ho' σ1 g1
      unfold f_day at h3
      refine ⟨fun z => ⟨fun z2 => ?_, fun z2 => ?_⟩, fun z => ?_⟩
      · rw [if_neg z, if_neg z2] at h3; exact h3
      · rw [if_neg z, if_pos z2] at h3; rw [if_neg z]; exact h3
      · rw [if_pos z] at h3; exact h3
    · rw [nI_leI (by omega) (by omega)] at q; omega
  | succ m ih =>
    intro j hj ho
    refine k_X6_day_101 hG hΓ hK _ _ _ _ ⟨fun q => ?_, fun _ => ?_⟩
    · rw [nI_leI (by omega) (by omega)] at q; omega
    · rw [nI_add, nI_cl (by omega), hf j (by omega)]
      have ho2 : pp_ao f 0 n = (iw (f j) 0 14 && pp_ao f (j + 1) m) := ho
      refine ⟨vp_in_nI (by omega) (by omega), q6_within hG (bn (fun q x ex => ?_) (fun q => ?_))⟩
      · rw [nI_1] at ex; subst ex
        rw [q, Bool.true_and] at ho2
        exact ih (j + 1) (by omega) ho2
      · rw [q, Bool.false_and] at ho2
        exact h1 ho2
theorem m6_day (hG : tn_Gd ks ρ) (hR : rm_P σ P) (hw : pp_w P) {a0 a1 a2 a3 a4 : Int32} {K : Int32 → (Nat → Nat → Int32) → Prop} (hs : ∀ k, k < 4 → ∃ n, n ≤ 60 ∧ σ 41 k = nI n)
    (h0 : iw a0 0 3 = false → K (-1) (tn_u σ 39 0 0))
    (h1 : iw a0 0 3 = true → (iw a1 0 2 = false ∨ iw a3 0 20 = false ∨ (iw a4 0 4 || iw a4 10 14) = false) → K (-2) (tn_u σ 39 0 0))
    (h2 : ∀ k, k < 4 → a0 = nI k → iw a1 0 2 = true → iw a3 0 20 = true → (iw a4 0 4 || iw a4 10 14) = true → ¬ f_ag σ k a1 a2 a3 = 0 → K (-10 - f_ag σ k a1 a2 a3) (tn_u (tn_u σ 39 0 0) 39 0 (f_ag σ k a1 a2 a3)))
    (h3 : ∀ k, k < 4 → a0 = nI k → iw a1 0 2 = true → iw a3 0 20 = true → (iw a4 0 4 || iw a4 10 14) = true → f_ag σ k a1 a2 a3 = 0 → pp_n P = 0 → K (-3) (tn_u σ 39 0 0))
    (h4 : ∀ k, k < 4 → a0 = nI k → iw a1 0 2 = true → iw a3 0 20 = true → (iw a4 0 4 || iw a4 10 14) = true → f_ag σ k a1 a2 a3 = 0 → 0 < pp_n P → ∀ i n, i + n ≤ 60 → a2 = nI i → a3 = nI n → pp_ao (fun x => σ 42 (60 * k + i + x)) 0 n = false → K (-2) (tn_u σ 39 0 0))
    (h5 : ∀ k, k < 4 → a0 = nI k → iw a1 0 2 = true → iw a3 0 20 = true → (iw a4 0 4 || iw a4 10 14) = true → f_ag σ k a1 a2 a3 = 0 → 0 < pp_n P → ∀ i n, i + n ≤ 60 → a2 = nI i → a3 = nI n → pp_ao (fun x => σ 42 (60 * k + i + x)) 0 n = true → ∀ σ' : Nat → Nat → Int32, (∀ c, c ≠ 50 → σ' c = tn_u σ 39 0 0 c) → K (f_day P (fun x => σ 42 (60 * k + i + x)) n a4) σ') : tn_CI m_X6_day [.ref 39, .int a0, .int a1, .int a2, .int a3, .int a4] ks ρ σ K := by
  refine tn_iI mv_X6_day (Nat.le_of_ble_eq_true rfl) (fun Γ hΓ hK => k_X6_day_0 hG hΓ hK a0 a1 a2 a3 a4 ?_)
  simp only [tn_ki]
  intro σ1 e1
  refine q6_isSheet hG (bn (fun q => q6_isSort hG (bz (fun q2 => by rw [e1]; exact h1 q (Or.inl q2)) (fun q2 => q6_within hG (bz (fun q3 => by rw [e1]; exact h1 q (Or.inr (Or.inl q3))) (fun q3 => ?_))))) (fun q => by rw [e1]; exact h0 q))
  have q' := q
  obtain ⟨k, hk, rfl⟩ := iw_3 q
  have e40 : σ1 40 k = σ 40 k := by rw [e1]; exact tn_u_n (by omega)
  have e41 : σ1 41 k = σ 41 k := by rw [e1]; exact tn_u_n (by omega)
  have m1 : rm_P σ1 P := by rw [e1]; exact rm_390 hR
  have go : (iw a4 0 4 || iw a4 10 14) = true → tn_CI m_X6_against [.ref 39, .int (nI k), .int a1, .int a2, .int a3] ks ρ σ1 (fun r5 σ6 => ((r5 = 0 → ((¬ (σ6 39 5) = 0 → (∀ x1 : Int32, x1 = (((60 : Int32) * nI k) + a2) → tn_A Γ 101 [.ref 39, .null, .null, .null, .int a3, .int a4, .null, .int x1, .int (0 : Int32), .null, .null] [] 0 0 ks ρ σ6)) ∧ ((σ6 39 5) = 0 → K (-3 : Int32) σ6))) ∧ (¬ r5 = 0 → tn_CI m_X6_fails [.ref 39, .int r5] ks ρ σ6 (fun r6 σ7 => K r6 σ7)))) := by
    intro qa
    refine q6_against hG hk ?_
    rw [f_agc e40 e41]
    refine ⟨fun z => ⟨fun z2 x ex => ?_, fun z2 => ?_⟩, fun z => q6_fails hG (by rw [e1]; exact h2 k hk rfl q2 q3 qa z)⟩
    · have hp : 0 < pp_n P := Nat.pos_of_ne_zero (fun e => z2 ((rm_n0 m1 hw).mpr e))
      obtain ⟨g1, g2, g3, g4⟩ := f_ag0 z
      obtain ⟨n0, hn0, en0⟩ := hs k hk
      rw [en0] at g4
      obtain ⟨i, n, hin, ei, en⟩ := hc_nI hn0 g4
      subst ei
      subst en
      have ex' : x = nI (60 * k + i) := by rw [ex, show (60 : Int32) = nI 60 by decide, pk_mul, nI_add]
      subst ex'
      rw [← nI_0]
      refine l6_day hG hΓ hK qa (by omega) (f := fun x => σ 42 (60 * k + i + x)) (fun x hx => by rw [e1]; exact tn_u_n (by omega)) m1 hw hp (fun z3 => ?_) (fun z3 σ' g => ?_) n 0 (by omega) rfl
      · rw [tn_ki, e1]
        exact h4 k hk rfl q2 q3 qa z hp i n (by omega) rfl rfl z3
      · rw [tn_ki]
        exact h5 k hk rfl q2 q3 qa z hp i n (by omega) rfl rfl z3 σ' (fun c hc => by rw [g c hc, e1])
    · rw [e1]
      exact h3 k hk rfl q2 q3 qa z ((rm_n0 m1 hw).mp z2)
  refine q6_within hG (bn (fun q4 => go (by rw [q4]; rfl)) (fun q4 => q6_within hG (bn (fun q5 => go (by rw [q4, q5]; rfl)) (fun q5 => ?_))))
  rw [e1]
  exact h1 q' (Or.inr (Or.inr (by rw [q4, q5]; rfl)))
theorem op_day (hG : tn_Gd ks ρ) (hL : ro_L σ) {a0 a1 a2 a3 a4 : Int32} {K : Int32 → Int32 → (Nat → Nat → Int32) → Prop} (h : ∀ r σ', ro_L σ' → K r r σ') : tn_CI m_X5_day [.ref 2, .int a0, .int a1, .int a2, .int a3, .int a4] ks ρ σ (fun r1 σ1 => tn_CI m_X6_day [.ref 39, .int a0, .int a1, .int a2, .int a3, .int a4] ks ρ σ1 (fun r2 σ2 => K r1 r2 σ2)) := by
  obtain ⟨P, hw, hc, hm, ho⟩ := id hL
  have hs : ∀ (σ' : Nat → Nat → Int32), (∀ k, k < 4 → σ' 41 k = σ 41 k) → ∀ k, k < 4 → ∃ n, n ≤ 60 ∧ σ' 41 k = nI n := fun σ' e k hk => by
    obtain ⟨n, hn, en, _⟩ := (hL.s hk).2.1
    exact ⟨n, hn, (e k hk).trans en⟩
  have x3 : ∀ k, k < 4 → iw (nI k) 0 3 = false → False := fun k hk z => iw_F (iw_3' hk) z
  have x4 : ∀ k k' : Nat, k < 1000 → k' < 1000 → nI k = nI k' → k' = k := fun k k' h1 h2 e => ((nI_eq (by omega) (by omega)).mp e).symm
  refine tn_iI mv_X5_day (Nat.le_of_ble_eq_true rfl) (fun Γ hΓ hK => k_X5_day_0 hG hΓ hK a0 a1 a2 a3 a4 ?_)
  simp only [tn_ki]
  intro σ1 e1
  have u1 : ∀ c x, ¬ (c = 2 ∧ x = 9) → σ1 c x = σ c x := fun c x z => by rw [e1]; exact tn_u_n (by omega)
  have hs1 : ∀ k, k < 4 → ∃ n, n ≤ 60 ∧ σ1 41 k = nI n := hs _ (fun k _ => u1 _ _ (by omega))
  have m1 : rm_P σ1 P := by rw [e1]; exact rm_29 hm
  have c1 : rc_P σ1 3 P := by rw [e1]; exact rc_29 hc hw
  have f0 : ro_L (tn_u σ1 39 0 0) := by rw [e1]; exact ro_f0 hL
  refine q5_isSheet hG (bn (fun q => ?_) (fun q => m6_day hG m1 hw hs1 (fun _ => h _ _ f0) (fun z => iw_F z q) (fun k hk e => by rw [e] at q; exact (x3 k hk q).elim) (fun k hk e => by rw [e] at q; exact (x3 k hk q).elim) (fun k hk e => by rw [e] at q; exact (x3 k hk q).elim) (fun k hk e => by rw [e] at q; exact (x3 k hk q).elim)))
  refine q5_isLane hG (bz (fun q2 => m6_day hG m1 hw hs1 (fun z => iw_F q z) (fun _ _ => h _ _ f0) (fun k hk e z => iw_F z q2) (fun k hk e z => iw_F z q2) (fun k hk e z => iw_F z q2) (fun k hk e z => iw_F z q2)) (fun q2 => ?_))
  refine q5_within hG (bz (fun q3 => m6_day hG m1 hw hs1 (fun z => iw_F q z) (fun _ _ => h _ _ f0) (fun k hk e _ z => iw_F z q3) (fun k hk e _ z => iw_F z q3) (fun k hk e _ z => iw_F z q3) (fun k hk e _ z => iw_F z q3)) (fun q3 => ?_))
  refine q5_isAskedOfDay hG (bn (fun q4 => ?_) (fun q4 => m6_day hG m1 hw hs1 (fun z => iw_F q z) (fun _ _ => h _ _ f0) (fun k hk e _ _ z => iw_F z q4) (fun k hk e _ _ z => iw_F z q4) (fun k hk e _ _ z => iw_F z q4) (fun k hk e _ _ z => iw_F z q4)))
  have q' := q
  obtain ⟨k, hk, rfl⟩ := iw_3 q
  have o1 : ro_1 σ1 k := by rw [e1]; exact (hL.s hk).g
  rw [nI_cl (by omega)]
  have bad : ∀ {A : Prop}, (iw a1 0 2 = false ∨ iw a3 0 20 = false ∨ (iw a4 0 4 || iw a4 10 14) = false) → A := fun z => by
    rcases z with z | z | z
    · exact iw_F q2 z
    · exact iw_F q3 z
    · exact iw_F q4 z
  refine ⟨vp_in_nI (by omega) (by omega), q5_foc hG hk o1 ⟨fun q5 => ?_, fun q5 => q5_faulted hG ?_⟩⟩
  · obtain ⟨g1, g2, g3, g4⟩ := f_ag0 q5
    obtain ⟨n0, hn0, en0⟩ := hs1 k hk
    rw [en0] at g4
    obtain ⟨i, n, hin, ei, en⟩ := hc_nI hn0 g4
    subst ei
    subst en
    refine q5_hasParish hG c1 hw (bn (fun q6 => ?_) (fun q6 => ?_))
    · have h0 : 0 < pp_n P := of_decide_eq_true q6
      have hf : ∀ x, x < n → σ1 (31 + 2 * k + 1) (i + x) = σ 42 (60 * k + i + x) := fun x hx => by
        rw [o1.2.2 (i + x) (by omega), u1 _ _ (by omega), show 60 * k + (i + x) = 60 * k + i + x by omega]
      refine q5_areActs hG (gs_b hk) (by omega) hf (bn (fun q7 => ?_) (fun q7 => ?_))
      · have hw' := pp_day_w (f := fun x => σ 42 (60 * k + i + x)) n 0 P hw h0
        refine q5_fwd hG (gs_b hk) (by omega) hf c1 hw h0 (fun σ2 r2 f2 => ?_)
        have fc := f2.c
        have m2 := m1.cc fc
        have c2 := c1.cc hw fc
        have u2 : ∀ x, σ2 42 x = σ 42 x := fun x => by rw [fc 42 (by omega) (by omega), u1 _ _ (by omega)]
        have u41 : ∀ k, k < 4 → σ2 41 k = σ 41 k := fun k _ => by rw [fc 41 (by omega) (by omega), u1 _ _ (by omega)]
        have u40 : ∀ k, k < 4 → σ2 40 k = σ 40 k := fun k _ => by rw [fc 40 (by omega) (by omega), u1 _ _ (by omega)]
        have ea : ∀ k', k' < 4 → nI k = nI k' → f_ag σ2 k' a1 (nI i) (nI n) = 0 := fun k' hk' e => by
          rw [x4 k k' (by omega) (by omega) e, f_agc (σ := σ1) (by rw [u40 k hk, u1 _ _ (by omega)]) (by rw [u41 k hk, u1 _ _ (by omega)])]
          exact q5
        have key : tn_CI m_X6_day [.ref 39, .int (nI k), .int a1, .int (nI i), .int (nI n), .int a4] ks ρ σ2 (fun r2 σ3 => K (f_day P (fun x => σ 42 (60 * k + i + x)) n a4) r2 σ3) := by
          refine m6_day hG m2 hw (hs _ u41) (fun z => (x3 k hk z).elim) (fun _ z => bad z) (fun k' hk' e _ _ _ z => absurd (ea k' hk' e) z) (fun k' hk' e _ _ _ _ z => absurd z (by omega)) (fun k' hk' e _ _ _ _ _ i' n' hin' ei en z => ?_) (fun k' hk' e _ _ _ _ _ i' n' hin' ei en z σ3 g => ?_)
          · rw [x4 k k' (by omega) (by omega) e, x4 i i' (by omega) (by omega) ei, x4 n n' (by omega) (by omega) en] at z
            simp only [u2] at z
            exact iw_F q7 z
          · rw [x4 k k' (by omega) (by omega) e, x4 i i' (by omega) (by omega) ei, x4 n n' (by omega) (by omega) en]
            simp only [u2]
            refine h _ _ ?_
            have g' : ∀ c, c ≠ 50 → c ≠ 39 → σ3 c = σ2 c := fun c hc h39 => by rw [g c hc]; exact funext fun x => tn_u_n (Or.inl h39)
            have g9 : ∀ x, x ≠ 0 → σ3 39 x = σ2 39 x := fun x hx => by rw [g 39 (by omega)]; exact tn_u_n (Or.inr hx)
            have lc : ro_c σ1 σ2 := fc
            have L2 : ro_L (tn_u σ2 39 0 0) := by
              have q0 : tn_u σ2 39 0 0 = fun c => if c = 39 then tn_u σ1 39 0 0 39 else σ2 c := by
                funext c x
                by_cases e : c = 39
                · subst e
                  simp only [if_true]
                  rw [tn_u_eq, tn_u_eq, fc 39 (by omega) (by omega)]
                · simp only [if_neg e]
                  exact tn_u_n (Or.inl e)
              obtain ⟨P1, hw1, hc1, hm1, ho1⟩ := f0
              have fcc : ro_c (tn_u σ1 39 0 0) (tn_u σ2 39 0 0) := fun c z1 z2 => by
                funext x
                rw [tn_u_eq, tn_u_eq, fc c z1 z2]
              exact ⟨P1, hw1, hc1.cc hw1 fcc, hm1.cc fcc, ho1.cc fcc⟩
            obtain ⟨P1, hw1, hc1, hm1, ho1⟩ := L2
            have fm : ro_m (tn_u σ2 39 0 0) σ3 := fun c z1 _ => g c z1
            exact ⟨P1, hw1, hc1.cm hw1 fm, hm1.cm fm, ho1.cm fm⟩
        unfold f_day at key
        refine ⟨fun z => ⟨fun z2 => ?_, fun z2 => ?_⟩, fun z => ?_⟩
        · rw [if_neg z, if_pos z2] at key
          exact q5_after hG r2 hw'.1 c2 hw z key
        · rw [if_neg z, if_neg z2] at key; exact key
        · rw [if_pos z] at key; exact key
      · refine m6_day hG m1 hw hs1 (fun z => (x3 k hk z).elim) (fun _ z => bad z) (fun k' hk' e _ _ _ z => ?_) (fun k' hk' e _ _ _ _ z => absurd z (by omega)) (fun k' hk' e _ _ _ _ _ i' n' hin' ei en z => h _ _ f0) (fun k' hk' e _ _ _ _ _ i' n' hin' ei en z => ?_)
        · rw [x4 k k' (by omega) (by omega) e] at z
          exact absurd q5 z
        · rw [x4 k k' (by omega) (by omega) e, x4 i i' (by omega) (by omega) ei, x4 n n' (by omega) (by omega) en] at z
          have u42 : ∀ x, σ1 42 x = σ 42 x := fun x => u1 42 x (by omega)
          simp only [u42] at z
          exact iw_F z q7
    · have h0 : pp_n P = 0 := by have := of_decide_eq_false q6; omega
      refine m6_day hG m1 hw hs1 (fun z => (x3 k hk z).elim) (fun _ z => bad z) (fun k' hk' e _ _ _ z => ?_) (fun k' hk' e _ _ _ _ _ => h _ _ f0) (fun k' hk' e _ _ _ _ z => absurd z (by omega)) (fun k' hk' e _ _ _ _ z => absurd z (by omega))
      rw [x4 k k' (by omega) (by omega) e] at z
      exact absurd q5 z
  · have ef : ∀ y : Int32, f_ag (tn_u σ1 2 9 y) k a1 a2 a3 = f_ag σ1 k a1 a2 a3 := fun y => f_agc (tn_u_n (by omega)) (tn_u_n (by omega))
    have no : ∀ {A : Prop} (y : Int32) (k' : Nat), k' < 4 → nI k = nI k' → f_ag (tn_u σ1 2 9 y) k' a1 a2 a3 = 0 → A := fun y k' hk' e z => by
      rw [x4 k k' (by omega) (by omega) e, ef] at z
      exact absurd z q5
    refine m6_day hG (rm_29 m1) hw (hs _ (fun k _ => by rw [tn_u_n (by omega), u1 _ _ (by omega)])) (fun z => (x3 k hk z).elim) (fun _ z => bad z) (fun k' hk' e _ _ _ z => ?_) (fun k' hk' e _ _ _ z => no _ k' hk' e z) (fun k' hk' e _ _ _ z => no _ k' hk' e z) (fun k' hk' e _ _ _ z => no _ k' hk' e z)
    rw [x4 k k' (by omega) (by omega) e, ef, e1]
    exact h _ _ (ro_ff hL rfl)
end QD
