/-! ===== calls: tell, knock, as, reading, back ===== -/
section RL3
variable {σ σ' σ1 σ2 : Nat → Nat → Int32} {P P' : pp_T}
/-- behind a call that changes trace and fault alone -/
theorem ro_fl (hL : ro_L σ) (ha : ∀ c k, ¬ (c = 2 ∧ (k = 8 ∨ k = 9)) → ¬ (c = 39 ∧ (k = 0 ∨ k = 1)) → σ2 c k = σ c k) (h8 : σ2 2 8 = σ2 39 1) (h9 : σ2 2 9 = σ2 39 0) : ro_L σ2 := by
  obtain ⟨P, hw, hc, hm, ho⟩ := hL
  have rw_ : ∀ c, c ≠ 2 → c ≠ 39 → σ2 c = σ c := fun c h1 h2 => funext fun k => ha c k (by omega) (by omega)
  have r39 : ∀ k, 2 ≤ k → σ2 39 k = σ 39 k := fun k hk => ha 39 k (by omega) (by omega)
  have r2 : ∀ k, k < 8 → σ2 2 k = σ 2 k := fun k hk => ha 2 k (by omega) (by omega)
  refine ⟨P, hw, hc.fr hw (fun c h1 h2 => rw_ c (by omega) (by omega)), ?_, ?_⟩
  · unfold rm_P
    rw [r39 5 (by omega), r39 6 (by omega), r39 7 (by omega), r39 8 (by omega), r39 10 (by omega), r39 11 (by omega), r39 12 (by omega), rw_ 43 (by omega) (by omega), rw_ 44 (by omega) (by omega), rw_ 45 (by omega) (by omega), rw_ 46 (by omega) (by omega), rw_ 47 (by omega) (by omega)]
    exact hm
  · obtain ⟨a1, a2, a3, a4, a5⟩ := ho
    refine ⟨?_, ?_, ?_, h8, h9⟩
    · intro k hk
      rw [rw_ 40 (by omega) (by omega), rw_ 41 (by omega) (by omega), rw_ 42 (by omega) (by omega), rw_ (31 + 2 * k) (by omega) (by omega), rw_ (31 + 2 * k + 1) (by omega) (by omega)]
      exact a1 k hk
    · unfold ro_R
      rw [r39 26 (by omega), r2 6 (by omega), rw_ 28 (by omega) (by omega), rw_ 29 (by omega) (by omega), rw_ 52 (by omega) (by omega), rw_ 53 (by omega) (by omega)]
      exact a2
    · rw [r2 7 (by omega), r39 9 (by omega)]; exact a3
end RL3
section QL3
variable {ks : List (Nat × Nat)} {ρ : Nat → Nat → Nat} {σ : Nat → Nat → Int32} {Γ : tn_G} {P : pp_T}
/-- the trace in the class, in the model -/
def tc (σ : Nat → Nat → Int32) (b : Int32) : Nat → Nat → Int32 := tn_u σ 2 8 (31 * σ 2 8 + b)
def tm (σ : Nat → Nat → Int32) (b : Int32) : Nat → Nat → Int32 := tn_u σ 39 1 (31 * σ 39 1 + b)
theorem q5_leave (hG : tn_Gd ks ρ) {x : Int32} {K : (Nat → Nat → Int32) → Prop} (h : K (tc σ x)) : tn_CV m_X5_leaveInTrace [.ref 2, .int x] ks ρ σ K := by
  refine tn_iV mv_X5_leaveInTrace (Nat.le_of_ble_eq_true rfl) (fun Γ hΓ hK => k_X5_leaveInTrace_0 hG hΓ hK x ?_)
  simp only [tn_kv]
  intro σ1 e1
  subst e1
  exact h
theorem q6_begins (hG : tn_Gd ks ρ) {x : Int32} {K : (Nat → Nat → Int32) → Prop} (h : K (tm σ x)) : tn_CV m_X6_begins [.ref 39, .int x] ks ρ σ K := by
  refine tn_iV mv_X6_begins (Nat.le_of_ble_eq_true rfl) (fun Γ hΓ hK => k_X6_begins_0 hG hΓ hK x ?_)
  simp only [tn_kv]
  intro σ1 e1
  subst e1
  exact h
theorem q5_plain (hG : tn_Gd ks ρ) {c : Nat} (hk : tn_kd ks c = some (0, 0)) (h2 : c ≠ 2) {K : Int32 → (Nat → Nat → Int32) → Prop} (h : K (σ c 1) (tc σ 1)) : tn_CI m_X5_toldAsPlain [.ref 2, .ref c] ks ρ σ K := by
  refine tn_iI mv_X5_toldAsPlain (Nat.le_of_ble_eq_true rfl) (fun Γ hΓ hK => k_X5_toldAsPlain_0 hG hΓ hK c hk ?_)
  simp only [tn_ki]
  refine q5_leave hG ?_
  rw [show tc σ 1 c 1 = σ c 1 from tn_u_n (Or.inl h2)]
  exact h
theorem q5_brood (hG : tn_Gd ks ρ) {c : Nat} (hk : tn_kd ks c = some (0, 0)) (h2 : c ≠ 2) {K : Int32 → (Nat → Nat → Int32) → Prop} (h : K (σ c 1 + 100) (tc (tc σ 2) 1)) : tn_CI m_X5_toldAsBrooding [.ref 2, .ref c] ks ρ σ K := by
  refine tn_iI mv_X5_toldAsBrooding (Nat.le_of_ble_eq_true rfl) (fun Γ hΓ hK => k_X5_toldAsBrooding_0 hG hΓ hK c hk ?_)
  simp only [tn_ki]
  refine q5_leave hG (q5_plain hG hk h2 ?_)
  rw [show tc σ 2 c 1 = σ c 1 from tn_u_n (Or.inl h2)]
  exact h
theorem q5_double (hG : tn_Gd ks ρ) {c : Nat} (hk : tn_kd ks c = some (0, 0)) (h2 : c ≠ 2) {K : Int32 → (Nat → Nat → Int32) → Prop} (h : K (σ c 1 + 100 + σ c 1) (tc (tc (tc (tc σ 3) 2) 1) 1)) : tn_CI m_X5_toldAsDouble [.ref 2, .ref c] ks ρ σ K := by
  refine tn_iI mv_X5_toldAsDouble (Nat.le_of_ble_eq_true rfl) (fun Γ hΓ hK => k_X5_toldAsDouble_0 hG hΓ hK c hk ?_)
  simp only [tn_ki]
  refine q5_leave hG (q5_brood hG hk h2 (q5_plain hG hk h2 ?_))
  rw [show tc σ 3 c 1 = σ c 1 from tn_u_n (Or.inl h2), show tc (tc (tc σ 3) 2) 1 c 1 = σ c 1 from (tn_u_n (Or.inl h2)).trans ((tn_u_n (Or.inl h2)).trans (tn_u_n (Or.inl h2)))]
  exact h
theorem tc_o {b : Int32} {c k : Nat} (h : ¬ (c = 2 ∧ k = 8)) : tc σ b c k = σ c k := tn_u_n (by omega)
theorem tm_o {b : Int32} {c k : Nat} (h : ¬ (c = 39 ∧ k = 1)) : tm σ b c k = σ c k := tn_u_n (by omega)
theorem tc_s {b : Int32} : tc σ b 2 8 = 31 * σ 2 8 + b := tn_u_s
theorem tm_s {b : Int32} : tm σ b 39 1 = 31 * σ 39 1 + b := tn_u_s
/-- a row of bodies -/
def tcs (σ : Nat → Nat → Int32) : List Int32 → Nat → Nat → Int32
  | [] => σ
  | b :: l => tcs (tc σ b) l
def tms (σ : Nat → Nat → Int32) : List Int32 → Nat → Nat → Int32
  | [] => σ
  | b :: l => tms (tm σ b) l
def tv (x : Int32) : List Int32 → Int32
  | [] => x
  | b :: l => tv (31 * x + b) l
theorem tcs_o {c k : Nat} (h : ¬ (c = 2 ∧ k = 8)) : ∀ (l : List Int32) (σ : Nat → Nat → Int32), tcs σ l c k = σ c k
  | [], _ => rfl
  | b :: l, σ => (tcs_o h l (tc σ b)).trans (tc_o h)
theorem tms_o {c k : Nat} (h : ¬ (c = 39 ∧ k = 1)) : ∀ (l : List Int32) (σ : Nat → Nat → Int32), tms σ l c k = σ c k
  | [], _ => rfl
  | b :: l, σ => (tms_o h l (tm σ b)).trans (tm_o h)
theorem tcs_s : ∀ (l : List Int32) (σ : Nat → Nat → Int32), tcs σ l 2 8 = tv (σ 2 8) l
  | [], _ => rfl
  | b :: l, σ => by rw [tcs, tcs_s l (tc σ b), tc_s, tv]
theorem tms_s : ∀ (l : List Int32) (σ : Nat → Nat → Int32), tms σ l 39 1 = tv (σ 39 1) l
  | [], _ => rfl
  | b :: l, σ => by rw [tms, tms_s l (tm σ b), tm_s, tv]
theorem ro_tr (hL : ro_L σ) (l : List Int32) : ro_L (tms (tcs σ l) l) := by
  obtain ⟨P, hw, hc, hm, ho⟩ := id hL
  refine ro_fl hL (fun c k h1 h2 => ?_) ?_ ?_
  · rw [tms_o (by omega), tcs_o (by omega)]
  · rw [tms_s, tms_o (by omega), tcs_s, tcs_o (by omega), ho.2.2.2.1]
  · rw [tms_o (by omega), tms_o (by omega), tcs_o (by omega), tcs_o (by omega)]; exact ho.2.2.2.2
theorem rm_tcs (hm : rm_P σ P) (l : List Int32) : rm_P (tcs σ l) P := hm.r (fun c hc => funext fun k => tcs_o (by omega) l σ)
theorem op_tell (hG : tn_Gd ks ρ) (hL : ro_L σ) {a : Int32} {K : Int32 → Int32 → (Nat → Nat → Int32) → Prop} (h : ∀ r σ', ro_L σ' → K r r σ') : tn_CI m_X5_tell [.ref 2, .int a] ks ρ σ (fun r1 σ1 => tn_CI m_X6_tell [.ref 39, .int a] ks ρ σ1 (fun r2 σ2 => K r1 r2 σ2)) := by
  obtain ⟨P, hw, hc, hm, ho⟩ := id hL
  have h5 := hw.2.1
  refine tn_iI mv_X5_tell (Nat.le_of_ble_eq_true rfl) (fun Γ hΓ hK => k_X5_tell_0 hG hΓ hK a ?_)
  simp only [tn_ki]
  refine q_hasHouse hG pb3 ?_
  rw [hc.1 2 (by omega) (by omega)]
  refine bn (fun q => ?_) (fun q => ?_)
  · have q' := q
    rw [hw.1] at q'
    obtain ⟨j, hj, rfl⟩ := ib_nI (by omega) q'
    have hv : vp_in (nI j) 5 := vp_in_nI (by omega) (by omega)
    rw [nI_cl (by omega), hc.2.1 j hj 0 (by decide)]
    have e1 := hc.2.1 j hj 1 (by decide)
    have hk := gp_kH hG pb3 (j := j) (by omega)
    refine ⟨hv, fun z => ?_, fun z => ⟨fun z2 => ?_, fun z2 => ?_⟩⟩
    · refine q5_brood hG hk (by omega) ?_
      show tn_CI m_X6_tell [.ref 39, .int (nI j)] ks ρ (tcs σ [2, 1]) (fun r2 σ2 => K _ r2 σ2)
      have m1 := rm_tcs hm [2, 1]
      obtain ⟨b0, b1, -⟩ := m1.2.2.2.2.2.1 j hj
      refine tn_iI mv_X6_tell (Nat.le_of_ble_eq_true rfl) (fun Γ hΓ hK => k_X6_tell_0 hG hΓ hK _ ?_)
      simp only [tn_ki]
      refine q6_isHouse hG ?_
      rw [m1.1, q]
      refine ⟨fun _ => ⟨hv, fun x ex => ?_⟩, fun z => absurd z (by decide)⟩
      rw [nI_cl (by omega)] at ex ⊢
      rw [b1] at ex
      rw [b0]
      refine ⟨fun _ => q6_begins hG (q6_begins hG ?_), fun z3 => absurd z z3⟩
      rw [e1, ex]
      exact h _ _ (ro_tr hL [2, 1])
    · refine q5_double hG hk (by omega) ?_
      show tn_CI m_X6_tell [.ref 39, .int (nI j)] ks ρ (tcs σ [3, 2, 1, 1]) (fun r2 σ2 => K _ r2 σ2)
      have m1 := rm_tcs hm [3, 2, 1, 1]
      obtain ⟨b0, b1, -⟩ := m1.2.2.2.2.2.1 j hj
      refine tn_iI mv_X6_tell (Nat.le_of_ble_eq_true rfl) (fun Γ hΓ hK => k_X6_tell_0 hG hΓ hK _ ?_)
      simp only [tn_ki]
      refine q6_isHouse hG ?_
      rw [m1.1, q]
      refine ⟨fun _ => ⟨hv, fun x ex => ?_⟩, fun z => absurd z (by decide)⟩
      rw [nI_cl (by omega)] at ex ⊢
      rw [b1] at ex
      rw [b0]
      refine ⟨fun z3 => absurd z3 z, fun _ => ⟨fun _ => q6_begins hG (q6_begins hG (q6_begins hG (q6_begins hG ?_))), fun z3 => absurd z2 z3⟩⟩
      obtain ⟨w, hw9, ew⟩ := (hw.2.2.2.2.1 j hj).2.1
      have e3 : σ (3 + 3 + j) 1 + 100 + σ (3 + 3 + j) 1 = 2 * x + 100 := by
        rw [e1, ex, ew, show (100 : Int32) = nI 100 from by decide, show (2 : Int32) = nI 2 from by decide, nI_add, nI_add, pk_mul, nI_add]
        congr 1
        omega
      rw [e3]
      exact h _ _ (ro_tr hL [3, 2, 1, 1])
    · refine q5_plain hG hk (by omega) ?_
      show tn_CI m_X6_tell [.ref 39, .int (nI j)] ks ρ (tcs σ [1]) (fun r2 σ2 => K _ r2 σ2)
      have m1 := rm_tcs hm [1]
      obtain ⟨b0, b1, -⟩ := m1.2.2.2.2.2.1 j hj
      refine tn_iI mv_X6_tell (Nat.le_of_ble_eq_true rfl) (fun Γ hΓ hK => k_X6_tell_0 hG hΓ hK _ ?_)
      simp only [tn_ki]
      refine q6_isHouse hG ?_
      rw [m1.1, q]
      refine ⟨fun _ => ⟨hv, fun x ex => ?_⟩, fun z => absurd z (by decide)⟩
      rw [nI_cl (by omega)] at ex ⊢
      rw [b1] at ex
      rw [b0]
      refine ⟨fun z3 => absurd z3 z, fun _ => ⟨fun z3 => absurd z3 z2, fun _ => q6_begins hG ?_⟩⟩
      rw [e1, ex]
      exact h _ _ (ro_tr hL [1])
  · refine tn_iI mv_X6_tell (Nat.le_of_ble_eq_true rfl) (fun Γ hΓ hK => k_X6_tell_0 hG hΓ hK _ ?_)
    simp only [tn_ki]
    refine q6_isHouse hG ?_
    rw [hm.1, q]
    exact ⟨fun z => absurd rfl z, fun _ => h _ _ hL⟩
theorem op_knock (hG : tn_Gd ks ρ) (hL : ro_L σ) {a : Int32} {K : Int32 → Int32 → (Nat → Nat → Int32) → Prop} (h : ∀ r σ', ro_L σ' → K r r σ') : tn_CI m_X5_knock [.ref 2, .int a] ks ρ σ (fun r1 σ1 => tn_CI m_X6_knock [.ref 39, .int a] ks ρ σ1 (fun r2 σ2 => K r1 r2 σ2)) := by
  obtain ⟨P, hw, hc, hm, ho⟩ := id hL
  have h5 := hw.2.1
  refine tn_iI mv_X5_knock (Nat.le_of_ble_eq_true rfl) (fun Γ hΓ hK => k_X5_knock_0 hG hΓ hK a ?_)
  simp only [tn_ki]
  refine q_hasHouse hG pb3 ?_
  rw [hc.1 2 (by omega) (by omega)]
  refine bn (fun q => ?_) (fun q => ?_)
  · have q' := q
    rw [hw.1] at q'
    obtain ⟨j, hj, rfl⟩ := ib_nI (by omega) q'
    have hv : vp_in (nI j) 5 := vp_in_nI (by omega) (by omega)
    rw [nI_cl (by omega), hc.2.1 j hj 0 (by decide)]
    have e2 := hc.2.1 j hj 2 (by decide)
    have hk := gp_kH hG pb3 (j := j) (by omega)
    refine ⟨hv, fun z => ?_, fun z => ?_⟩
    · refine tn_iI mv_X5_knockedAsLent (Nat.le_of_ble_eq_true rfl) (fun Γ hΓ hK => k_X5_knockedAsLent_0 hG hΓ hK _ hk ?_)
      simp only [tn_ki]
      refine q5_leave hG ?_
      rw [show tc σ 4 (3 + 3 + j) 2 = σ (3 + 3 + j) 2 from tc_o (by omega), e2]
      show tn_CI m_X6_knock [.ref 39, .int (nI j)] ks ρ (tcs σ [4]) (fun r2 σ2 => K _ r2 σ2)
      have m1 := rm_tcs hm [4]
      refine tn_iI mv_X6_knock (Nat.le_of_ble_eq_true rfl) (fun Γ hΓ hK => k_X6_knock_0 hG hΓ hK _ ?_)
      simp only [tn_ki]
      refine q6_isHouse hG ?_
      rw [m1.1, q]
      refine ⟨fun _ => ⟨hv, ?_⟩, fun z => absurd z (by decide)⟩
      rw [nI_cl (by omega), (m1.2.2.2.2.2.1 j hj).1]
      refine ⟨fun _ => q6_begins hG ?_, fun z3 => absurd z3 z⟩
      have f0 : tm (tcs σ [4]) 4 43 j = P (3 + j) 0 := (tm_o (by omega)).trans (m1.2.2.2.2.2.1 j hj).1
      have f2 : tm (tcs σ [4]) 4 45 j = P (3 + j) 2 := (tm_o (by omega)).trans (m1.2.2.2.2.2.1 j hj).2.2.1
      rw [f0, f2]
      exact ⟨fun _ => h _ _ (ro_tr hL [4]), fun z3 => absurd z3 z⟩
    · refine tn_iI mv_X5_knockedAsDouble (Nat.le_of_ble_eq_true rfl) (fun Γ hΓ hK => k_X5_knockedAsDouble_0 hG hΓ hK ?_)
      simp only [tn_ki]
      refine q5_leave hG ?_
      show tn_CI m_X6_knock [.ref 39, .int (nI j)] ks ρ (tcs σ [5]) (fun r2 σ2 => K _ r2 σ2)
      have m1 := rm_tcs hm [5]
      refine tn_iI mv_X6_knock (Nat.le_of_ble_eq_true rfl) (fun Γ hΓ hK => k_X6_knock_0 hG hΓ hK _ ?_)
      simp only [tn_ki]
      refine q6_isHouse hG ?_
      rw [m1.1, q]
      refine ⟨fun _ => ⟨hv, ?_⟩, fun z => absurd z (by decide)⟩
      rw [nI_cl (by omega), (m1.2.2.2.2.2.1 j hj).1]
      refine ⟨fun z3 => absurd z z3, fun _ => q6_begins hG ?_⟩
      have f0 : tm (tcs σ [5]) 5 43 j = P (3 + j) 0 := (tm_o (by omega)).trans (m1.2.2.2.2.2.1 j hj).1
      rw [f0]
      exact ⟨fun z3 => absurd z z3, fun _ => h _ _ (ro_tr hL [5])⟩
  · refine tn_iI mv_X6_knock (Nat.le_of_ble_eq_true rfl) (fun Γ hΓ hK => k_X6_knock_0 hG hΓ hK _ ?_)
    simp only [tn_ki]
    refine q6_isHouse hG ?_
    rw [hm.1, q]
    exact ⟨fun z => absurd rfl z, fun _ => h _ _ hL⟩
/-! faults -/
/-- the fault in the class, then in the model -/
theorem ro_ff (hL : ro_L σ) {x y z w : Int32} (e : y = w) : ro_L (tn_u (tn_u (tn_u (tn_u σ 2 9 x) 2 9 y) 39 0 z) 39 0 w) := by
  obtain ⟨P, hw, hc, hm, ho⟩ := id hL
  refine ro_fl hL (fun c k h1 h2 => ?_) ?_ ?_
  · rw [tn_u_n (by omega), tn_u_n (by omega), tn_u_n (by omega), tn_u_n (by omega)]
  · rw [tn_u_n (Or.inl (by decide)), tn_u_n (Or.inl (by decide)), tn_u_n (Or.inr (by decide)), tn_u_n (Or.inr (by decide)), tn_u_n (Or.inr (by decide)), tn_u_n (Or.inr (by decide)), tn_u_n (Or.inl (by decide)), tn_u_n (Or.inl (by decide))]
    exact ho.2.2.2.1
  · rw [tn_u_s, tn_u_n (Or.inl (by decide)), tn_u_n (Or.inl (by decide)), tn_u_s]; exact e
theorem ro_f0 (hL : ro_L σ) : ro_L (tn_u (tn_u σ 2 9 0) 39 0 0) := by
  have := ro_ff hL (x := 0) (y := 0) (z := 0) (w := 0) rfl
  have e1 : tn_u (tn_u σ 2 9 0) 2 9 0 = tn_u σ 2 9 0 := by funext c k; simp only [tn_u_eq]; split <;> rfl
  rw [e1] at this
  have e2 : tn_u (tn_u (tn_u σ 2 9 0) 39 0 0) 39 0 0 = tn_u (tn_u σ 2 9 0) 39 0 0 := by funext c k; simp only [tn_u_eq]; split <;> rfl
  rw [e2] at this
  exact this
theorem rm_29 (hm : rm_P σ P) {x : Int32} : rm_P (tn_u σ 2 9 x) P := hm.r (fun c hc => funext fun k => tn_u_n (Or.inl (by omega)))
theorem rm_390 (hm : rm_P σ P) {x : Int32} : rm_P (tn_u σ 39 0 x) P := by
  unfold rm_P
  rw [tn_u_n (k' := 5) (Or.inr (by decide)), tn_u_n (k' := 6) (Or.inr (by decide)), tn_u_n (k' := 7) (Or.inr (by decide)), tn_u_n (k' := 8) (Or.inr (by decide)), tn_u_n (k' := 10) (Or.inr (by decide)), tn_u_n (k' := 11) (Or.inr (by decide)), tn_u_n (k' := 12) (Or.inr (by decide))]
  obtain ⟨a1, a2, a3, a4, a5, a6, a7⟩ := hm
  exact ⟨a1, a2, a3, a4, a5, fun h hh => by rw [tn_u_n (Or.inl (by decide)), tn_u_n (Or.inl (by decide)), tn_u_n (Or.inl (by decide)), tn_u_n (Or.inl (by decide))]; exact a6 h hh, fun s hs => by rw [tn_u_n (Or.inl (by decide))]; exact a7 s hs⟩
theorem rc_29 (hc : rc_P σ 3 P) (hw : pp_w P) {x : Int32} : rc_P (tn_u σ 2 9 x) 3 P := hc.fr hw (fun c h1 h2 => funext fun k => tn_u_n (Or.inl (by omega)))
theorem op_as (hG : tn_Gd ks ρ) (hL : ro_L σ) {a b : Int32} {K : Int32 → Int32 → (Nat → Nat → Int32) → Prop} (h : ∀ r σ', ro_L σ' → K r r σ') : tn_CI m_X5_as [.ref 2, .int a, .int b] ks ρ σ (fun r1 σ1 => tn_CI m_X6_as [.ref 39, .int a, .int b] ks ρ σ1 (fun r2 σ2 => K r1 r2 σ2)) := by
  obtain ⟨P, hw, hc, hm, ho⟩ := id hL
  have h5 := hw.2.1
  refine tn_iI mv_X5_as (Nat.le_of_ble_eq_true rfl) (fun Γ hΓ hK => k_X5_as_0 hG hΓ hK a b ?_)
  simp only [tn_ki]
  intro σ1 e1
  have c1 : rc_P σ1 3 P := by rw [e1]; exact rc_29 hc hw
  have m1 : rm_P σ1 P := by rw [e1]; exact rm_29 hm
  refine q_hasHouse hG pb3 ?_
  rw [c1.1 2 (by omega) (by omega)]
  refine bn (fun q => q5_within hG (bn (fun q2 => ?_) (fun q2 => ?_))) (fun q => ?_)
  · have q' := q
    rw [hw.1] at q'
    obtain ⟨j, hj, rfl⟩ := ib_nI (by omega) q'
    have hv : vp_in (nI j) 5 := vp_in_nI (by omega) (by omega)
    rw [nI_cl (by omega), c1.2.1 j hj 0 (by decide)]
    refine ⟨hv, fun z => q5_faulted hG ?_, fun z => ?_⟩
    · refine tn_iI mv_X6_as (Nat.le_of_ble_eq_true rfl) (fun Γ hΓ hK => k_X6_as_0 hG hΓ hK _ _ ?_)
      simp only [tn_ki]
      intro σ2 e2
      have m2 : rm_P σ2 P := by rw [e2]; exact rm_390 (rm_29 m1)
      refine q6_isHouse hG ?_
      rw [m2.1, q]
      refine ⟨fun _ => q6_within hG ?_, fun z => absurd z (by decide)⟩
      rw [q2]
      refine ⟨fun _ => ⟨hv, ?_⟩, fun z => absurd z (by decide)⟩
      rw [nI_cl (by omega), (m2.2.2.2.2.2.1 j hj).1]
      refine ⟨fun _ => q6_fails hG ?_, fun z3 => absurd z z3⟩
      rw [e2, e1]
      exact h _ _ (ro_ff hL rfl)
    · refine tn_iI mv_X6_as (Nat.le_of_ble_eq_true rfl) (fun Γ hΓ hK => k_X6_as_0 hG hΓ hK _ _ ?_)
      simp only [tn_ki]
      intro σ2 e2
      have m2 : rm_P σ2 P := by rw [e2]; exact rm_390 m1
      refine q6_isHouse hG ?_
      rw [m2.1, q]
      refine ⟨fun _ => q6_within hG ?_, fun z => absurd z (by decide)⟩
      rw [q2]
      refine ⟨fun _ => ⟨hv, ?_⟩, fun z => absurd z (by decide)⟩
      rw [nI_cl (by omega), (m2.2.2.2.2.2.1 j hj).1]
      refine ⟨fun z3 => absurd z3 z, fun _ => ?_⟩
      rw [e2, e1]
      exact h _ _ (ro_f0 hL)
  · refine tn_iI mv_X6_as (Nat.le_of_ble_eq_true rfl) (fun Γ hΓ hK => k_X6_as_0 hG hΓ hK _ _ ?_)
    simp only [tn_ki]
    intro σ2 e2
    have m2 : rm_P σ2 P := by rw [e2]; exact rm_390 m1
    refine q6_isHouse hG ?_
    rw [m2.1, q]
    refine ⟨fun _ => q6_within hG ?_, fun z => absurd z (by decide)⟩
    rw [q2]
    refine ⟨fun z => absurd rfl z, fun _ => ?_⟩
    rw [e2, e1]
    exact h _ _ (ro_f0 hL)
  · refine tn_iI mv_X6_as (Nat.le_of_ble_eq_true rfl) (fun Γ hΓ hK => k_X6_as_0 hG hΓ hK _ _ ?_)
    simp only [tn_ki]
    intro σ2 e2
    have m2 : rm_P σ2 P := by rw [e2]; exact rm_390 m1
    refine q6_isHouse hG ?_
    rw [m2.1, q]
    refine ⟨fun z => absurd rfl z, fun _ => ?_⟩
    rw [e2, e1]
    exact h _ _ (ro_f0 hL)
/-! readings -/
theorem ro_rd {σ2 : Nat → Nat → Int32} (hL : ro_L σ) (ha : ∀ c k, ¬ (c = 2 ∧ k = 6) → ¬ (c = 39 ∧ k = 26) → c ≠ 28 → c ≠ 29 → c ≠ 52 → c ≠ 53 → σ2 c k = σ c k) (hr : ro_R σ2) : ro_L σ2 := by
  obtain ⟨P, hw, hc, hm, ho⟩ := hL
  have rw_ : ∀ c, c ≠ 2 → c ≠ 39 → c ≠ 28 → c ≠ 29 → c ≠ 52 → c ≠ 53 → σ2 c = σ c := fun c h1 h2 h3 h4 h5 h6 => funext fun k => ha c k (by omega) (by omega) h3 h4 h5 h6
  have r39 : ∀ k, k ≠ 26 → σ2 39 k = σ 39 k := fun k hk => ha 39 k (by omega) (by omega) (by omega) (by omega) (by omega) (by omega)
  have r2 : ∀ k, k ≠ 6 → σ2 2 k = σ 2 k := fun k hk => ha 2 k (by omega) (by omega) (by omega) (by omega) (by omega) (by omega)
  refine ⟨P, hw, hc.fr hw (fun c h1 h2 => rw_ c (by omega) (by omega) (by omega) (by omega) (by omega) (by omega)), ?_, ?_⟩
  · unfold rm_P
    rw [r39 5 (by omega), r39 6 (by omega), r39 7 (by omega), r39 8 (by omega), r39 10 (by omega), r39 11 (by omega), r39 12 (by omega), rw_ 43 (by omega) (by omega) (by omega) (by omega) (by omega) (by omega), rw_ 44 (by omega) (by omega) (by omega) (by omega) (by omega) (by omega), rw_ 45 (by omega) (by omega) (by omega) (by omega) (by omega) (by omega), rw_ 46 (by omega) (by omega) (by omega) (by omega) (by omega) (by omega), rw_ 47 (by omega) (by omega) (by omega) (by omega) (by omega) (by omega)]
    exact hm
  · obtain ⟨a1, a2, a3, a4, a5⟩ := ho
    refine ⟨?_, hr, ?_, ?_, ?_⟩
    · intro k hk
      rw [rw_ 40 (by omega) (by omega) (by omega) (by omega) (by omega) (by omega), rw_ 41 (by omega) (by omega) (by omega) (by omega) (by omega) (by omega), rw_ 42 (by omega) (by omega) (by omega) (by omega) (by omega) (by omega), rw_ (31 + 2 * k) (by omega) (by omega) (by omega) (by omega) (by omega) (by omega), rw_ (31 + 2 * k + 1) (by omega) (by omega) (by omega) (by omega) (by omega) (by omega)]
      exact a1 k hk
    · rw [r2 7 (by omega), r39 9 (by omega)]; exact a3
    · rw [r2 8 (by omega), r39 1 (by omega)]; exact a4
    · rw [r2 9 (by omega), r39 0 (by omega)]; exact a5
theorem op_back (hG : tn_Gd ks ρ) (hL : ro_L σ) {a : Int32} {K : Int32 → Int32 → (Nat → Nat → Int32) → Prop} (h : ∀ r σ', ro_L σ' → K r r σ') : tn_CI m_X5_back [.ref 2, .int a] ks ρ σ (fun r1 σ1 => tn_CI m_X6_back [.ref 39, .int a] ks ρ σ1 (fun r2 σ2 => K r1 r2 σ2)) := by
  obtain ⟨P, hw, hc, hm, ho⟩ := id hL
  obtain ⟨n, hn, e26, e6, hq⟩ := ho.2.1
  refine tn_iI mv_X5_back (Nat.le_of_ble_eq_true rfl) (fun Γ hΓ hK => k_X5_back_0 hG hΓ hK a ?_)
  simp only [tn_ki]
  rw [e6]
  refine q5_within hG (bn (fun q σ2 e2 => ?_) (fun q => ?_))
  · obtain ⟨j, -, hj, rfl⟩ := iw_nI (n := 0) (m := n) nI_0.symm rfl (by omega) (by omega) q
    refine tn_iI mv_X6_back (Nat.le_of_ble_eq_true rfl) (fun Γ hΓ hK => k_X6_back_0 hG hΓ hK _ ?_)
    simp only [tn_ki]
    rw [e6, pk_sub hj] at e2
    have f26 : σ2 39 26 = nI n := by rw [e2, tn_u_n (Or.inl (by decide))]; exact e26
    rw [f26]
    refine q6_within hG ?_
    rw [q]
    refine ⟨fun _ σ3 e3 => ?_, fun z => absurd z (by decide)⟩
    rw [f26, pk_sub hj] at e3
    have g1 : σ2 2 6 = nI (n - j) := by rw [e2, tn_u_s]
    have g2 : σ3 39 26 = nI (n - j) := by rw [e3, tn_u_s]
    rw [g1, g2]
    have ho3 : ∀ c k, ¬ (c = 2 ∧ k = 6) → ¬ (c = 39 ∧ k = 26) → σ3 c k = σ c k := fun c k h1 h2 => by rw [e3, tn_u_n (by omega), e2, tn_u_n (by omega)]
    refine h _ _ (ro_rd hL (fun c k h1 h2 _ _ _ _ => ho3 c k h1 h2) ⟨n - j, by omega, g2, ?_, fun q hq' => ?_⟩)
    · rw [e3, tn_u_n (Or.inl (by decide))]; exact g1
    · rw [ho3 52 q (by omega) (by omega), ho3 28 q (by omega) (by omega), ho3 53 q (by omega) (by omega), ho3 29 q (by omega) (by omega)]
      exact hq q (by omega)
  · refine tn_iI mv_X6_back (Nat.le_of_ble_eq_true rfl) (fun Γ hΓ hK => k_X6_back_0 hG hΓ hK _ ?_)
    simp only [tn_ki]
    rw [e26]
    refine q6_within hG ?_
    rw [q]
    exact ⟨fun z => absurd rfl z, fun _ => h _ _ hL⟩
theorem op_reading (hG : tn_Gd ks ρ) (hL : ro_L σ) {a b : Int32} {K : Int32 → Int32 → (Nat → Nat → Int32) → Prop} (h : ∀ r σ', ro_L σ' → K r r σ') : tn_CI m_X5_reading [.ref 2, .int a, .int b] ks ρ σ (fun r1 σ1 => tn_CI m_X6_reading [.ref 39, .int a, .int b] ks ρ σ1 (fun r2 σ2 => K r1 r2 σ2)) := by
  obtain ⟨P, hw, hc, hm, ho⟩ := id hL
  obtain ⟨n, hn, e26, e6, hq⟩ := ho.2.1
  refine tn_iI mv_X5_reading (Nat.le_of_ble_eq_true rfl) (fun Γ hΓ hK => k_X5_reading_0 hG hΓ hK a b ?_)
  simp only [tn_ki]
  refine q5_hasParish hG hc hw (bn (fun q0 => q5_within hG (bz (fun q1 => ?_) (fun q1 => q5_within hG (bn (fun q2 => ?_) (fun q2 => ?_))))) (fun q0 => ?_))
  · have h0 : 0 < pp_n P := of_decide_eq_true q0
    refine tn_iI mv_X6_reading (Nat.le_of_ble_eq_true rfl) (fun Γ hΓ hK => k_X6_reading_0 hG hΓ hK _ _ ?_)
    simp only [tn_ki]
    refine ⟨fun _ => q6_within hG ?_, fun z => absurd ((rm_n0 hm hw).mp z) (by omega)⟩
    rw [q1]
    exact ⟨fun _ => h _ _ hL, fun z => absurd rfl z⟩
  · have h0 : 0 < pp_n P := of_decide_eq_true q0
    obtain ⟨t, -, ht, rfl⟩ := iw_nI (n := 0) (m := 60) nI_0.symm (by decide) (by omega) (by omega) q1
    rw [e6, show (8 : Int32) = nI 8 from by decide, nI_ltI (by omega) (by omega)]
    refine ⟨fun q3 => ⟨vp_in_nI (by omega) (by omega), fun σ4 e4 => ?_⟩, fun q3 => ?_⟩
    · have f6 : σ4 2 6 = nI n := by rw [e4, tn_u_n (Or.inl (by decide))]; exact e6
      rw [f6]
      refine ⟨vp_in_nI (by omega) (by omega), fun σ5 e5 σ6 e6' => ?_⟩
      have f6' : σ5 2 6 = nI n := by rw [e5, tn_u_n (Or.inl (by decide))]; exact f6
      rw [f6', nI_1] at e6'
      have f7 : σ6 2 6 = nI (n + 1) := by rw [e6', tn_u_s]
      rw [f7]
      rw [nI_cl (by omega)] at e4 e5
      have hA : ∀ c k, ¬ (c = 2 ∧ k = 6) → c ≠ 28 → c ≠ 29 → σ6 c k = σ c k := fun c k h1 h2 h3 => by rw [e6', tn_u_n (by omega), e5, tn_u_n (by omega), e4, tn_u_n (by omega)]
      have m6 : rm_P σ6 P := hm.r (fun c hc => funext fun k => hA c k (by omega) (by omega) (by omega))
      refine tn_iI mv_X6_reading (Nat.le_of_ble_eq_true rfl) (fun Γ hΓ hK => k_X6_reading_0 hG hΓ hK _ _ ?_)
      simp only [tn_ki]
      refine ⟨fun _ => q6_within hG ?_, fun z => absurd ((rm_n0 m6 hw).mp z) (by omega)⟩
      rw [q1]
      refine ⟨fun z => absurd z (by decide), fun _ => q6_within hG ?_⟩
      rw [q2]
      have f26 : σ6 39 26 = nI n := (hA 39 26 (by omega) (by omega) (by omega)).trans e26
      rw [f26]
      refine ⟨fun _ => ⟨fun _ => ⟨vp_in_nI (by omega) (by omega), fun σ7 e7 => ?_⟩, fun z => ?_⟩, fun z => absurd z (by decide)⟩
      · have g26 : σ7 39 26 = nI n := by rw [e7, tn_u_n (Or.inl (by decide))]; exact f26
        rw [g26]
        refine ⟨vp_in_nI (by omega) (by omega), fun σ8 e8 σ9 e9 => ?_⟩
        have g26' : σ8 39 26 = nI n := by rw [e8, tn_u_n (Or.inl (by decide))]; exact g26
        rw [g26', nI_1] at e9
        have g9 : σ9 39 26 = nI (n + 1) := by rw [e9, tn_u_s]
        rw [g9]
        rw [nI_cl (by omega)] at e7 e8
        have hB : ∀ c k, ¬ (c = 39 ∧ k = 26) → c ≠ 52 → c ≠ 53 → σ9 c k = σ6 c k := fun c k h1 h2 h3 => by rw [e9, tn_u_n (by omega), e8, tn_u_n (by omega), e7, tn_u_n (by omega)]
        refine h _ _ (ro_rd hL (fun c k h1 h2 h3 h4 h5 h6 => (hB c k h2 h5 h6).trans (hA c k h1 h3 h4)) ⟨n + 1, by omega, g9, ?_, fun q hq' => ?_⟩)
        · rw [hB 2 6 (by omega) (by omega) (by omega)]; exact f7
        · have a52 : ∀ k, σ9 52 k = if k = n then nI t else σ 52 k := fun k => by
            rw [e9, tn_u_n (Or.inl (by decide)), e8, tn_u_n (Or.inl (by decide)), e7, tn_u_eq, hA 52 k (by omega) (by omega) (by omega)]
            by_cases e : k = n
            · rw [if_pos ⟨rfl, e⟩, if_pos e]
            · rw [if_neg (fun z => e z.2), if_neg e]
          have a53 : ∀ k, σ9 53 k = if k = n then b else σ 53 k := fun k => by
            rw [e9, tn_u_n (Or.inl (by decide)), e8, tn_u_eq, e7, tn_u_n (Or.inl (by decide)), hA 53 k (by omega) (by omega) (by omega)]
            by_cases e : k = n
            · rw [if_pos ⟨rfl, e⟩, if_pos e]
            · rw [if_neg (fun z => e z.2), if_neg e]
          have a28 : ∀ k, σ9 28 k = if k = n then (if (18 : Int32) < nI t then (18 : Int32) else nI t) else σ 28 k := fun k => by
            rw [hB 28 k (by omega) (by omega) (by omega), e6', tn_u_n (Or.inl (by decide)), e5, tn_u_n (Or.inl (by decide)), e4, tn_u_eq]
            by_cases e : k = n
            · rw [if_pos ⟨rfl, e⟩, if_pos e]
            · rw [if_neg (fun z => e z.2), if_neg e]
          have a29 : ∀ k, σ9 29 k = if k = n then b else σ 29 k := fun k => by
            rw [hB 29 k (by omega) (by omega) (by omega), e6', tn_u_n (Or.inl (by decide)), e5, tn_u_eq, e4, tn_u_n (Or.inl (by decide))]
            by_cases e : k = n
            · rw [if_pos ⟨rfl, e⟩, if_pos e]
            · rw [if_neg (fun z => e z.2), if_neg e]
          rw [a52, a53, a28, a29]
          by_cases e : q = n
          · subst e
            rw [if_pos rfl, if_pos rfl, if_pos rfl, if_pos rfl]
            refine ⟨⟨t, ht, rfl, ?_⟩, rfl⟩
            rw [show (18 : Int32) = nI 18 from by decide]
            by_cases h : 18 < t
            · rw [if_pos ((nI_ltI (by omega) (by omega)).mpr h), Nat.min_eq_left (by omega)]
            · rw [if_neg (fun q => h ((nI_ltI (by omega) (by omega)).mp q)), Nat.min_eq_right (by omega)]
          · rw [if_neg e, if_neg e, if_neg e, if_neg e]
            exact hq q (by omega)
      · exfalso
        rw [show (8 : Int32) = nI 8 from by decide, nI_eq (by omega) (by omega)] at z
        omega
    · have en : n = 8 := by omega
      subst en
      refine tn_iI mv_X6_reading (Nat.le_of_ble_eq_true rfl) (fun Γ hΓ hK => k_X6_reading_0 hG hΓ hK _ _ ?_)
      simp only [tn_ki]
      refine ⟨fun _ => q6_within hG ?_, fun z => absurd ((rm_n0 hm hw).mp z) (by omega)⟩
      rw [q1]
      refine ⟨fun z => absurd z (by decide), fun _ => q6_within hG ?_⟩
      rw [q2, e26]
      exact ⟨fun _ => ⟨fun z => absurd (by decide) z, fun _ => h _ _ hL⟩, fun z => absurd z (by decide)⟩
  · have h0 : 0 < pp_n P := of_decide_eq_true q0
    refine tn_iI mv_X6_reading (Nat.le_of_ble_eq_true rfl) (fun Γ hΓ hK => k_X6_reading_0 hG hΓ hK _ _ ?_)
    simp only [tn_ki]
    refine ⟨fun _ => q6_within hG ?_, fun z => absurd ((rm_n0 hm hw).mp z) (by omega)⟩
    rw [q1]
    refine ⟨fun z => absurd z (by decide), fun _ => q6_within hG ?_⟩
    rw [q2]
    exact ⟨fun z => absurd rfl z, fun _ => h _ _ hL⟩
  · have q3 := of_decide_eq_false q0
    refine tn_iI mv_X6_reading (Nat.le_of_ble_eq_true rfl) (fun Γ hΓ hK => k_X6_reading_0 hG hΓ hK _ _ ?_)
    simp only [tn_ki]
    exact ⟨fun z => absurd ((rm_n0 hm hw).mpr (by omega)) z, fun _ => h _ _ hL⟩
end QL3
