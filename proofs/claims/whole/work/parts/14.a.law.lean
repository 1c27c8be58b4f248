/-! ===== the relation between the class's cells and the model's; the calls, one by one ===== -/
def ro_S (σ : Nat → Nat → Int32) : Prop := ∀ k, k < 4 → ((σ 40 k = -9 ∧ σ (31 + 2 * k) 1 = 0) ∨ ((σ 40 k = 0 ∨ σ 40 k = 1 ∨ σ 40 k = 2) ∧ σ (31 + 2 * k) 1 = 1 ∧ σ (31 + 2 * k) 2 = σ 40 k)) ∧ (∃ n, n ≤ 60 ∧ σ 41 k = nI n ∧ σ (31 + 2 * k) 3 = nI n) ∧ ∀ i, i < 60 → σ (31 + 2 * k + 1) i = σ 42 (60 * k + i)
def ro_R (σ : Nat → Nat → Int32) : Prop := ∃ n, n ≤ 8 ∧ σ 39 26 = nI n ∧ σ 2 6 = nI n ∧ ∀ q, q < n → (∃ t, t ≤ 60 ∧ σ 52 q = nI t ∧ σ 28 q = nI (min 18 t)) ∧ σ 53 q = σ 29 q
def ro_A (σ : Nat → Nat → Int32) : Prop := ro_S σ ∧ ro_R σ ∧ σ 2 7 = σ 39 9 ∧ σ 2 8 = σ 39 1 ∧ σ 2 9 = σ 39 0
def ro_L (σ : Nat → Nat → Int32) : Prop := ∃ P, pp_w P ∧ rc_P σ 3 P ∧ rm_P σ P ∧ ro_A σ
/-- the rows on which the rest of the relation rests -/
def ro_r (c : Nat) : Prop := c = 2 ∨ c = 28 ∨ c = 29 ∨ (31 ≤ c ∧ c ≤ 38) ∨ (40 ≤ c ∧ c ≤ 42) ∨ c = 52 ∨ c = 53
theorem ro_A.c {σ σ' : Nat → Nat → Int32} (h : ro_A σ) (h1 : ∀ c, ro_r c → σ' c = σ c) (h2 : ∀ k, k = 0 ∨ k = 1 ∨ k = 9 ∨ k = 26 → σ' 39 k = σ 39 k) : ro_A σ' := by
  obtain ⟨a1, a2, a3, a4, a5⟩ := h
  unfold ro_A ro_S ro_R
  rw [h1 2 (by unfold ro_r; omega), h1 28 (by unfold ro_r; omega), h1 29 (by unfold ro_r; omega), h1 40 (by unfold ro_r; omega), h1 41 (by unfold ro_r; omega), h1 42 (by unfold ro_r; omega), h1 52 (by unfold ro_r; omega), h1 53 (by unfold ro_r; omega), h2 0 (by omega), h2 1 (by omega), h2 9 (by omega), h2 26 (by omega)]
  refine ⟨fun k hk => ?_, a2, a3, a4, a5⟩
  rw [h1 (31 + 2 * k) (by unfold ro_r; omega), h1 (31 + 2 * k + 1) (by unfold ro_r; omega)]
  exact a1 k hk
def ro_c (σ σ' : Nat → Nat → Int32) : Prop := ∀ c, c < 15 ∨ 27 ≤ c → c ≠ 30 → σ' c = σ c
def ro_m (σ σ' : Nat → Nat → Int32) : Prop := ∀ c, c ≠ 50 → c ≠ 51 → σ' c = σ c
theorem ro_c.rf {σ : Nat → Nat → Int32} : ro_c σ σ := fun _ _ _ => rfl
theorem ro_m.rf {σ : Nat → Nat → Int32} : ro_m σ σ := fun _ _ _ => rfl
theorem ro_c.tr {σ σ1 σ2 : Nat → Nat → Int32} (h1 : ro_c σ σ1) (h2 : ro_c σ1 σ2) : ro_c σ σ2 := fun c a b => (h2 c a b).trans (h1 c a b)
theorem ro_m.tr {σ σ1 σ2 : Nat → Nat → Int32} (h1 : ro_m σ σ1) (h2 : ro_m σ1 σ2) : ro_m σ σ2 := fun c a b => (h2 c a b).trans (h1 c a b)
theorem rc_F.c {σ σ' : Nat → Nat → Int32} (h : rc_F 15 σ σ') : ro_c σ σ' := fun c a _ => h c (by omega)
theorem mk_S.m {σ σ' : Nat → Nat → Int32} {pl : Nat} (h : mk_S σ σ' pl) : ro_m σ σ' := fun c a _ => h.1 c a
section RL
variable {σ σ' σ1 σ2 : Nat → Nat → Int32} {P P' : pp_T}
theorem rc_P.cc (h : rc_P σ 3 P) (hw : pp_w P) (hf : ro_c σ σ') : rc_P σ' 3 P := h.fr hw (fun c h1 h2 => hf c (by omega) (by omega))
theorem rc_P.cm (h : rc_P σ 3 P) (hw : pp_w P) (hf : ro_m σ σ') : rc_P σ' 3 P := h.fr hw (fun c h1 h2 => hf c (by omega) (by omega))
theorem rm_P.r (h : rm_P σ P) (hc : ∀ c, c = 39 ∨ (43 ≤ c ∧ c ≤ 47) → σ' c = σ c) : rm_P σ' P := by
  unfold rm_P
  rw [hc 39 (by decide), hc 43 (by decide), hc 44 (by decide), hc 45 (by decide), hc 46 (by decide), hc 47 (by decide)]
  exact h
theorem rm_P.cc (h : rm_P σ P) (hf : ro_c σ σ') : rm_P σ' P := h.r (fun c hc => hf c (by omega) (by omega))
theorem rm_P.cm (h : rm_P σ P) (hf : ro_m σ σ') : rm_P σ' P := h.r (fun c hc => hf c (by omega) (by omega))
theorem ro_A.cc (h : ro_A σ) (hf : ro_c σ σ') : ro_A σ' := h.c (fun c hc => hf c (by unfold ro_r at hc; omega) (by unfold ro_r at hc; omega)) (fun k _ => by rw [hf 39 (by omega) (by omega)])
theorem ro_A.cm (h : ro_A σ) (hf : ro_m σ σ') : ro_A σ' := h.c (fun c hc => hf c (by unfold ro_r at hc; omega) (by unfold ro_r at hc; omega)) (fun k _ => by rw [hf 39 (by omega) (by omega)])
/-- behind a call that changes the parish alone: in the class, then in the model -/
theorem ro_two (ho : ro_A σ) (hw' : pp_w P') (c1 : rc_P σ1 3 P') (f1 : rc_F 3 σ σ1) (m2 : rm_P σ2 P') (f2 : rm_F σ1 σ2) (h9 : σ2 39 9 = σ1 39 9) : ro_L σ2 := by
  refine ⟨P', hw', c1.fr hw' (fun c h1 h2 => f2.1 c (by omega) (by omega) (by omega)), m2, ho.c (fun c hc => ?_) (fun k hk => ?_)⟩
  · unfold ro_r at hc
    rw [f2.1 c (by omega) (by omega) (by omega), f1 c (by omega)]
  · have e : σ1 39 = σ 39 := f1 39 (by omega)
    by_cases q : k = 9
    · subst q; rw [h9, e]
    · rw [f2.2.1 k (by omega), e]
theorem rm_two (hm : rm_P σ P) (f1 : rc_F 3 σ σ1) : rm_P σ1 P := hm.r (fun c hc => f1 c (by omega))
theorem rm_n0 (hm : rm_P σ P) (hw : pp_w P) : σ 39 5 = 0 ↔ pp_n P = 0 := by
  have := hw.2.1
  rw [hm.1, hw.1, show (0 : Int32) = nI 0 from nI_0.symm, nI_eq (by omega) (by omega)]
end RL
section QL
variable {ks : List (Nat × Nat)} {ρ : Nat → Nat → Nat} {σ : Nat → Nat → Int32} {Γ : tn_G} {P : pp_T}
theorem q5_within (hG : tn_Gd ks ρ) {x a b : Int32} {K : Int32 → (Nat → Nat → Int32) → Prop} (h : K (if iw x a b = true then 1 else 0) σ) : tn_CI m_X5_isWithin [.int x, .int a, .int b] ks ρ σ K := by
  refine tn_iI mv_X5_isWithin (Nat.le_of_ble_eq_true rfl) (fun Γ hΓ hK => k_X5_isWithin_0 hG hΓ hK x a b ?_)
  simp only [tn_ki]
  unfold iw at h
  refine ⟨fun q => ?_, fun q => ⟨fun q2 => ?_, fun q2 => ?_⟩⟩
  · simpa [Int32.not_le.mpr q] using h
  · simpa [Int32.not_lt.mp q, Int32.not_le.mpr q2] using h
  · simpa [Int32.not_lt.mp q, Int32.not_lt.mp q2] using h
theorem q5_isSheet (hG : tn_Gd ks ρ) {x : Int32} {K : Int32 → (Nat → Nat → Int32) → Prop} (h : K (if iw x 0 3 = true then 1 else 0) σ) : tn_CI m_X5_isSheet [.int x] ks ρ σ K := by
  refine tn_iI mv_X5_isSheet (Nat.le_of_ble_eq_true rfl) (fun Γ hΓ hK => k_X5_isSheet_0 hG hΓ hK x ?_)
  simp only [tn_ki]
  exact q5_within hG ⟨b01, h⟩
theorem q5_isLane (hG : tn_Gd ks ρ) {x : Int32} {K : Int32 → (Nat → Nat → Int32) → Prop} (h : K (if iw x 0 2 = true then 1 else 0) σ) : tn_CI m_X5_isLane [.int x] ks ρ σ K := by
  refine tn_iI mv_X5_isLane (Nat.le_of_ble_eq_true rfl) (fun Γ hΓ hK => k_X5_isLane_0 hG hΓ hK x ?_)
  simp only [tn_ki]
  exact q5_within hG ⟨b01, h⟩
theorem q5_isAskedOfDay (hG : tn_Gd ks ρ) {x : Int32} {K : Int32 → (Nat → Nat → Int32) → Prop} (h : K (if (iw x 0 4 || iw x 10 14) = true then 1 else 0) σ) : tn_CI m_X5_isAskedOfDay [.int x] ks ρ σ K := by
  refine tn_iI mv_X5_isAskedOfDay (Nat.le_of_ble_eq_true rfl) (fun Γ hΓ hK => k_X5_isAskedOfDay_0 hG hΓ hK x ?_)
  simp only [tn_ki]
  refine q5_within hG (bn (fun q => ?_) (fun q => q5_within hG (bz (fun q2 => ?_) (fun q2 => ?_))))
  · simpa [q] using h
  · simpa [q, q2] using h
  · simpa [q, q2] using h
theorem q5_hasParish (hG : tn_Gd ks ρ) (hR : rc_P σ 3 P) (hw : pp_w P) {K : Int32 → (Nat → Nat → Int32) → Prop} (h : K (if decide (0 < pp_n P) = true then 1 else 0) σ) : tn_CI m_X5_hasParish [.ref 2] ks ρ σ K := by
  have h5 := hw.2.1
  have e : σ 3 2 = nI (pp_n P) := (hR.1 2 (by omega) (by omega)).trans hw.1
  refine tn_iI mv_X5_hasParish (Nat.le_of_ble_eq_true rfl) (fun Γ hΓ hK => k_X5_hasParish_0 hG hΓ hK ?_)
  simp only [tn_ki]
  rw [e, show (0 : Int32) = nI 0 from nI_0.symm, nI_leI (by omega) (by omega)]
  refine ⟨fun q => ?_, fun q => ?_⟩
  · simpa [show ¬ 0 < pp_n P by omega, nI_0] using h
  · simpa [show 0 < pp_n P by omega] using h
theorem q5_faulted (hG : tn_Gd ks ρ) {x : Int32} {K : Int32 → (Nat → Nat → Int32) → Prop} (h : K (-10 - x) (tn_u σ 2 9 x)) : tn_CI m_X5_faulted [.ref 2, .int x] ks ρ σ K := by
  refine tn_iI mv_X5_faulted (Nat.le_of_ble_eq_true rfl) (fun Γ hΓ hK => k_X5_faulted_0 hG hΓ hK x ?_)
  simp only [tn_ki]
  intro σ1 e1
  subst e1
  exact h
theorem q6_fails (hG : tn_Gd ks ρ) {x : Int32} {K : Int32 → (Nat → Nat → Int32) → Prop} (h : K (-10 - x) (tn_u σ 39 0 x)) : tn_CI m_X6_fails [.ref 39, .int x] ks ρ σ K := by
  refine tn_iI mv_X6_fails (Nat.le_of_ble_eq_true rfl) (fun Γ hΓ hK => k_X6_fails_0 hG hΓ hK x ?_)
  simp only [tn_ki]
  intro σ1 e1
  subst e1
  exact h
theorem q6_lost (hG : tn_Gd ks ρ) {x : Int32} {K : Int64 → (Nat → Nat → Int32) → Prop} (h : K (-9223372036854775808) (tn_u σ 39 0 x)) : tn_CL m_X6_lost [.ref 39, .int x] ks ρ σ K := by
  refine tn_iL mv_X6_lost (Nat.le_of_ble_eq_true rfl) (fun Γ hΓ hK => k_X6_lost_0 hG hΓ hK x ?_)
  simp only [tn_kl]
  intro σ1 e1
  subst e1
  exact h
/-! trace, fault, many, ofHouse, ofStone -/
theorem op_trace (hG : tn_Gd ks ρ) (hL : ro_L σ) {K : Int32 → Int32 → (Nat → Nat → Int32) → Prop} (h : ∀ r σ', ro_L σ' → K r r σ') : tn_CI m_X5_trace [.ref 2] ks ρ σ (fun r1 σ1 => tn_CI m_X6_trace [.ref 39] ks ρ σ1 (fun r2 σ2 => K r1 r2 σ2)) := by
  obtain ⟨P, hw, hc, hm, ho⟩ := id hL
  refine tn_iI mv_X5_trace (Nat.le_of_ble_eq_true rfl) (fun Γ hΓ hK => k_X5_trace_0 hG hΓ hK ?_)
  simp only [tn_ki]
  refine tn_iI mv_X6_trace (Nat.le_of_ble_eq_true rfl) (fun Γ hΓ hK => k_X6_trace_0 hG hΓ hK ?_)
  simp only [tn_ki]
  rw [ho.2.2.2.1]
  exact h _ _ hL
theorem op_fault (hG : tn_Gd ks ρ) (hL : ro_L σ) {K : Int32 → Int32 → (Nat → Nat → Int32) → Prop} (h : ∀ r σ', ro_L σ' → K r r σ') : tn_CI m_X5_fault [.ref 2] ks ρ σ (fun r1 σ1 => tn_CI m_X6_fault [.ref 39] ks ρ σ1 (fun r2 σ2 => K r1 r2 σ2)) := by
  obtain ⟨P, hw, hc, hm, ho⟩ := id hL
  refine tn_iI mv_X5_fault (Nat.le_of_ble_eq_true rfl) (fun Γ hΓ hK => k_X5_fault_0 hG hΓ hK ?_)
  simp only [tn_ki]
  refine tn_iI mv_X6_fault (Nat.le_of_ble_eq_true rfl) (fun Γ hΓ hK => k_X6_fault_0 hG hΓ hK ?_)
  simp only [tn_ki]
  rw [ho.2.2.2.2]
  exact h _ _ hL
/-- what many answers -/
def f_many (σ : Nat → Nat → Int32) (P : pp_T) (a : Int32) : Int32 := if a = 0 then P 0 2 else if a = 1 then P 0 3 else if a = 2 then σ 39 9 else if a = 3 then pp_hs P else if a = 4 then σ 39 26 else if a = 5 then P 0 5 else if a = 6 then pp_vo P else -2
theorem op_many (hG : tn_Gd ks ρ) (hL : ro_L σ) {a : Int32} {K : Int32 → Int32 → (Nat → Nat → Int32) → Prop} (h : ∀ r σ', ro_L σ' → K r r σ') : tn_CI m_X5_many [.ref 2, .int a] ks ρ σ (fun r1 σ1 => tn_CI m_X6_many [.ref 39, .int a] ks ρ σ1 (fun r2 σ2 => K r1 r2 σ2)) := by
  obtain ⟨P, hw, hc, hm, ho⟩ := id hL
  have key : tn_CI m_X6_many [.ref 39, .int a] ks ρ σ (fun r2 σ2 => K (f_many σ P a) r2 σ2) := by
    refine tn_iI mv_X6_many (Nat.le_of_ble_eq_true rfl) (fun Γ hΓ hK => k_X6_many_0 hG hΓ hK a ?_)
    simp only [tn_ki]
    have h := h (f_many σ P a) σ hL
    unfold f_many at h ⊢
    refine ⟨fun q => ?_, fun q0 => ⟨fun q => ?_, fun q1 => ⟨fun q => ?_, fun q2 => ⟨fun q => ?_, fun q3 => ⟨fun q => ?_, fun q4 => ⟨fun q => ?_, fun q5 => ⟨fun q => ?_, fun q6 => ?_⟩⟩⟩⟩⟩⟩⟩
    · rw [if_pos q] at h ⊢; rw [hm.1]; exact h
    · rw [if_neg q0, if_pos q] at h ⊢; rw [hm.2.1]; exact h
    · rw [if_neg q0, if_neg q1, if_pos q] at h ⊢; exact h
    · rw [if_neg q0, if_neg q1, if_neg q2, if_pos q] at h ⊢; rw [hm.2.2.2.2.1]; exact h
    · rw [if_neg q0, if_neg q1, if_neg q2, if_neg q3, if_pos q] at h ⊢; exact h
    · rw [if_neg q0, if_neg q1, if_neg q2, if_neg q3, if_neg q4, if_pos q] at h ⊢; rw [hm.2.2.2.1]; exact h
    · rw [if_neg q0, if_neg q1, if_neg q2, if_neg q3, if_neg q4, if_neg q5, if_pos q] at h ⊢
      exact q6_voiceNow hG hm hw h
    · rw [if_neg q0, if_neg q1, if_neg q2, if_neg q3, if_neg q4, if_neg q5, if_neg q6] at h ⊢; exact h
  refine tn_iI mv_X5_many (Nat.le_of_ble_eq_true rfl) (fun Γ hΓ hK => k_X5_many_0 hG hΓ hK a ?_)
  simp only [tn_ki]
  obtain ⟨n, hn, e26, e6, -⟩ := ho.2.1
  unfold f_many at key
  refine ⟨fun q => ?_, fun q0 => ⟨fun q => ?_, fun q1 => ⟨fun q => ?_, fun q2 => ⟨fun q => ?_, fun q3 => ⟨fun q => ?_, fun q4 => ⟨fun q => ?_, fun q5 => ⟨fun q => ?_, fun q6 => ?_⟩⟩⟩⟩⟩⟩⟩
  · rw [if_pos q] at key; rw [hc.1 2 (by omega) (by omega)]; exact key
  · rw [if_neg q0, if_pos q] at key; rw [hc.1 3 (by omega) (by omega)]; exact key
  · rw [if_neg q0, if_neg q1, if_pos q] at key; rw [ho.2.2.1]; exact key
  · rw [if_neg q0, if_neg q1, if_neg q2, if_pos q] at key; exact q_hatsLost hG pb3 hc hw key
  · rw [if_neg q0, if_neg q1, if_neg q2, if_neg q3, if_pos q] at key; rw [e6, ← e26]; exact key
  · rw [if_neg q0, if_neg q1, if_neg q2, if_neg q3, if_neg q4, if_pos q] at key; rw [hc.1 5 (by omega) (by omega)]; exact key
  · rw [if_neg q0, if_neg q1, if_neg q2, if_neg q3, if_neg q4, if_neg q5, if_pos q] at key; exact q_voice hG pb3 hc hw key
  · rw [if_neg q0, if_neg q1, if_neg q2, if_neg q3, if_neg q4, if_neg q5, if_neg q6] at key; exact key
def f_ofHouse (P : pp_T) (a b : Int32) : Int32 := if ib a (P 0 2) = true then (if b = 0 then P (3 + a.toNatClampNeg) 0 else if b = 1 then P (3 + a.toNatClampNeg) 1 else if b = 2 then P (3 + a.toNatClampNeg) 2 else if b = 3 then pp_wt P a.toNatClampNeg else if b = 4 then P (3 + a.toNatClampNeg) 4 else if b = 5 then (if pp_rk P a.toNatClampNeg = true then 1 else 0) else if b = 6 then P (3 + a.toNatClampNeg) 3 else -2) else -1
theorem m6_ofHouse (hG : tn_Gd ks ρ) (hm : rm_P σ P) (hw : pp_w P) {a b : Int32} {K : Int32 → (Nat → Nat → Int32) → Prop} (h : K (f_ofHouse P a b) σ) : tn_CI m_X6_ofHouse [.ref 39, .int a, .int b] ks ρ σ K := by
  have h5 := hw.2.1
  refine tn_iI mv_X6_ofHouse (Nat.le_of_ble_eq_true rfl) (fun Γ hΓ hK => k_X6_ofHouse_0 hG hΓ hK a b ?_)
  simp only [tn_ki]
  refine q6_isHouse hG ?_
  rw [hm.1]
  unfold f_ofHouse at h
  refine bn (fun q => ?_) (fun q => ?_)
  · rw [if_pos q] at h
    rw [hw.1] at q
    obtain ⟨j, hj, rfl⟩ := ib_nI (by omega) q
    have hv : vp_in (nI j) 5 := vp_in_nI (by omega) (by omega)
    obtain ⟨e0, e1, e2, e3, e4⟩ := hm.2.2.2.2.2.1 j hj
    rw [nI_cl (by omega)] at h ⊢
    refine ⟨fun q => ⟨hv, ?_⟩, fun q0 => ⟨fun q => ⟨hv, ?_⟩, fun q1 => ⟨fun q => ⟨hv, ?_⟩, fun q2 => ⟨fun q => ?_, fun q3 => ⟨fun q => ?_, fun q4 => ⟨fun q => ?_, fun q5 => ⟨fun q => ⟨hv, ?_⟩, fun q6 => ?_⟩⟩⟩⟩⟩⟩⟩
    · rw [if_pos q] at h; rw [e0]; exact h
    · rw [if_neg q0, if_pos q] at h; rw [e1]; exact h
    · rw [if_neg q0, if_neg q1, if_pos q] at h; rw [e2]; exact h
    · rw [if_neg q0, if_neg q1, if_neg q2, if_pos q] at h; exact q6_weightOf hG hm hw hj h
    · rw [if_neg q0, if_neg q1, if_neg q2, if_neg q3, if_pos q] at h
      have e4' : ((σ 39 11) >>> (nI j &&& 31)) &&& (1 : Int32) = P (3 + j) 4 := e4
      rw [e4']; exact h
    · rw [if_neg q0, if_neg q1, if_neg q2, if_neg q3, if_neg q4, if_pos q] at h
      refine q6_rankles hG hm hw hj (bz (fun q => ?_) (fun q => ?_))
      · rw [q] at h; exact h
      · rw [q] at h; exact h
    · rw [if_neg q0, if_neg q1, if_neg q2, if_neg q3, if_neg q4, if_neg q5, if_pos q] at h; rw [e3]; exact h
    · rw [if_neg q0, if_neg q1, if_neg q2, if_neg q3, if_neg q4, if_neg q5, if_neg q6] at h; exact h
  · rw [if_neg (by rw [q]; decide)] at h; exact h
theorem c5_ofHouse (hG : tn_Gd ks ρ) (hc : rc_P σ 3 P) (hw : pp_w P) {a b : Int32} {K : Int32 → (Nat → Nat → Int32) → Prop} (h : K (f_ofHouse P a b) σ) : tn_CI m_X5_ofHouse [.ref 2, .int a, .int b] ks ρ σ K := by
  have h5 := hw.2.1
  refine tn_iI mv_X5_ofHouse (Nat.le_of_ble_eq_true rfl) (fun Γ hΓ hK => k_X5_ofHouse_0 hG hΓ hK a b ?_)
  simp only [tn_ki]
  refine q_hasHouse hG pb3 ?_
  rw [hc.1 2 (by omega) (by omega)]
  unfold f_ofHouse at h
  refine bn (fun q => ?_) (fun q => ?_)
  · rw [if_pos q] at h
    rw [hw.1] at q
    obtain ⟨j, hj, rfl⟩ := ib_nI (by omega) q
    have hv : vp_in (nI j) 5 := vp_in_nI (by omega) (by omega)
    have e := hc.2.1 j hj
    rw [nI_cl (by omega)] at h ⊢
    rw [e 0 (by decide), e 1 (by decide), e 2 (by decide), e 3 (by decide), e 4 (by decide)]
    refine ⟨hv, fun q => ?_, fun q0 => ⟨fun q => ?_, fun q1 => ⟨fun q => ?_, fun q2 => ⟨fun q => ?_, fun q3 => ⟨fun q => ?_, fun q4 => ⟨fun q => ?_, fun q5 => ⟨fun q => ?_, fun q6 => ?_⟩⟩⟩⟩⟩⟩⟩
    · rw [if_pos q] at h; exact h
    · rw [if_neg q0, if_pos q] at h; exact h
    · rw [if_neg q0, if_neg q1, if_pos q] at h; exact h
    · rw [if_neg q0, if_neg q1, if_neg q2, if_pos q] at h
      refine q_weight hG (gp_kH hG pb3 (by omega)) ?_
      rw [hR_wt hc hj]; exact h
    · rw [if_neg q0, if_neg q1, if_neg q2, if_neg q3, if_pos q] at h
      refine ⟨fun z => ?_, fun z => ?_⟩
      · rw [z] at h; exact h
      · rcases (hw.2.2.2.2.1 j hj).2.2.2 with w | w
        · exact absurd w z
        · rw [w] at h; exact h
    · rw [if_neg q0, if_neg q1, if_neg q2, if_neg q3, if_neg q4, if_pos q] at h
      refine q_rankles hG (gp_kH hG pb3 (by omega)) ?_
      rw [hR_rk hc hj]
      refine bz (fun q => ?_) (fun q => ?_)
      · rw [q] at h; exact h
      · rw [q] at h; exact h
    · rw [if_neg q0, if_neg q1, if_neg q2, if_neg q3, if_neg q4, if_neg q5, if_pos q] at h; exact h
    · rw [if_neg q0, if_neg q1, if_neg q2, if_neg q3, if_neg q4, if_neg q5, if_neg q6] at h; exact h
  · rw [if_neg (by rw [q]; decide)] at h; exact h
theorem op_ofHouse (hG : tn_Gd ks ρ) (hL : ro_L σ) {a b : Int32} {K : Int32 → Int32 → (Nat → Nat → Int32) → Prop} (h : ∀ r σ', ro_L σ' → K r r σ') : tn_CI m_X5_ofHouse [.ref 2, .int a, .int b] ks ρ σ (fun r1 σ1 => tn_CI m_X6_ofHouse [.ref 39, .int a, .int b] ks ρ σ1 (fun r2 σ2 => K r1 r2 σ2)) := by
  obtain ⟨P, hw, hc, hm, ho⟩ := id hL
  exact c5_ofHouse hG hc hw (m6_ofHouse hG hm hw (h _ _ hL))
def f_ofStone (P : pp_T) (a b : Int32) : Int32 := if ib a (P 0 3) = true then (if b = 0 then P (8 + a.toNatClampNeg) 0 else if b = 1 then P (8 + a.toNatClampNeg) 1 else -2) else -1
theorem op_ofStone (hG : tn_Gd ks ρ) (hL : ro_L σ) {a b : Int32} {K : Int32 → Int32 → (Nat → Nat → Int32) → Prop} (h : ∀ r σ', ro_L σ' → K r r σ') : tn_CI m_X5_ofStone [.ref 2, .int a, .int b] ks ρ σ (fun r1 σ1 => tn_CI m_X6_ofStone [.ref 39, .int a, .int b] ks ρ σ1 (fun r2 σ2 => K r1 r2 σ2)) := by
  obtain ⟨P, hw, hc, hm, ho⟩ := id hL
  have h4 := hw.2.2.2.1
  have key : tn_CI m_X6_ofStone [.ref 39, .int a, .int b] ks ρ σ (fun r2 σ2 => K (f_ofStone P a b) r2 σ2) := by
    refine tn_iI mv_X6_ofStone (Nat.le_of_ble_eq_true rfl) (fun Γ hΓ hK => k_X6_ofStone_0 hG hΓ hK a b ?_)
    simp only [tn_ki]
    refine q6_isStone hG ?_
    rw [hm.2.1]
    have h := h (f_ofStone P a b) σ hL
    unfold f_ofStone at h ⊢
    refine bn (fun q => ?_) (fun q => ?_)
    · rw [if_pos q] at h ⊢
      rw [hw.2.2.1] at q
      obtain ⟨j, hj, rfl⟩ := ib_nI (by omega) q
      obtain ⟨e0, e1⟩ := hm.2.2.2.2.2.2 j hj
      rw [nI_cl (by omega)] at h ⊢
      refine ⟨fun q0 => ⟨fun q1 => ?_, fun q1 => ?_⟩, fun q0 => ⟨vp_in_nI (by omega) (by omega), ?_⟩⟩
      · rw [if_neg q0, if_neg q1] at h ⊢; exact h
      · rw [if_neg q0, if_pos q1] at h ⊢
        have e1' : ((σ 39 12) >>> (nI j &&& 31)) &&& (1 : Int32) = P (8 + j) 1 := e1
        rw [e1']; exact h
      · rw [if_pos q0] at h ⊢; rw [e0]; exact h
    · rw [if_neg (by rw [q]; decide)] at h ⊢; exact h
  refine tn_iI mv_X5_ofStone (Nat.le_of_ble_eq_true rfl) (fun Γ hΓ hK => k_X5_ofStone_0 hG hΓ hK a b ?_)
  simp only [tn_ki]
  refine q_hasStone hG pb3 ?_
  rw [hc.1 3 (by omega) (by omega)]
  unfold f_ofStone at key
  refine bn (fun q => ?_) (fun q => ?_)
  · rw [if_pos q] at key
    rw [hw.2.2.1] at q
    obtain ⟨j, hj, rfl⟩ := ib_nI (by omega) q
    have e := hc.2.2 j hj
    rw [nI_cl (by omega)] at key ⊢
    rw [e 0 (by decide), e 1 (by decide)]
    refine ⟨vp_in_nI (by omega) (by omega), fun q0 => ?_, fun q0 => ⟨fun q1 => ⟨fun z => ?_, fun z => ?_⟩, fun q1 => ?_⟩⟩
    · rw [if_pos q0] at key; exact key
    · rw [if_neg q0, if_pos q1, z] at key; exact key
    · rw [if_neg q0, if_pos q1] at key
      rcases (hw.2.2.2.2.2.1 j hj).2 with w | w
      · exact absurd w z
      · rw [w] at key; exact key
    · rw [if_neg q0, if_neg q1] at key; exact key
  · rw [if_neg (by rw [q]; decide)] at key; exact key
end QL
