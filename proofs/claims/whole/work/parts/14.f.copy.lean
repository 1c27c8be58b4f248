/-! ===== call: copy ===== -/
section QL6
variable {ks : List (Nat × Nat)} {ρ : Nat → Nat → Nat} {σ : Nat → Nat → Int32} {Γ : tn_G} {P : pp_T}
/-- which cells are copied behind q turns -/
def cp_d (ah : Bool) (n q c : Nat) : Prop := c < n ∧ (if ah = true then n - q ≤ c else c < q)
theorem lp_6copy (hG : tn_Gd ks ρ) {K : Option Value → List (Nat × Nat) → (Nat → Nat → Nat) → (Nat → Nat → Int32) → Prop} (hΓ : tn_is Γ m_X6_copy) (hK : tn_rt Γ m_X6_copy K) {k o i j n : Nat} {ah : Bool} (hk : k < 4) (ho : o < 4) (hi : i + n ≤ 60) (hj : j + n ≤ 60) (hah : ah = decide (i < j)) {σ0 : Nat → Nat → Int32} (h : ∀ σ' : Nat → Nat → Int32, (∀ c x, ¬ (c = 42 ∧ 60 * o + j ≤ x ∧ x < 60 * o + j + n) → σ' c x = σ0 c x) → (∀ c, c < n → σ' 42 (60 * o + j + c) = σ0 42 (60 * k + i + c)) → K (some (.int (nI n))) ks ρ σ') : ∀ d q (σ : Nat → Nat → Int32), q + d = n → (∀ c x, ¬ (c = 42 ∧ ∃ y, cp_d ah n q y ∧ x = 60 * o + j + y) → σ c x = σ0 c x) → (∀ c, cp_d ah n q c → σ 42 (60 * o + j + c) = σ0 42 (60 * k + i + c)) → tn_A Γ 166 [.ref 39, .int (nI k), .int (nI i), .int (nI o), .int (nI j), .int (nI n), .null, .int (if ah = true then 1 else 0), .int (nI q), .null] [] 0 0 ks ρ σ := by
  intro d
  have s60 : (60 : Int32) = nI 60 := by decide
  induction d with
  | zero =>
    intro q σ hq h1 h2
    refine k_X6_copy_166 hG hΓ hK _ _ _ _ _ _ _ ⟨fun _ => h σ (fun c x z => h1 c x (fun ⟨z1, y, z2, z3⟩ => z ⟨z1, by omega, by have := z2.1; omega⟩)) (fun c hc => h2 c ⟨hc, ?_⟩), fun z => ?_⟩
    · by_cases e : ah = true
      · rw [if_pos e]; omega
      · rw [if_neg e]; omega
    · rw [nI_leI (by omega) (by omega)] at z; omega
  | succ d ih =>
    intro q σ hq h1 h2
    have key : ∀ w : Nat, w < n → (if ah = true then w = n - 1 - q else w = q) → tn_A Γ 190 [.ref 39, .int (nI k), .int (nI i), .int (nI o), .int (nI j), .int (nI n), .null, .int (if ah = true then 1 else 0), .int (nI q), .null] [.int (nI w)] 0 0 ks ρ σ := by
      intro w hw ew
      have eS : (60 : Int32) * nI k + nI i + nI w = nI (60 * k + i + w) := by rw [s60, pk_mul, nI_add, nI_add]
      have eD : (60 : Int32) * nI o + nI j + nI w = nI (60 * o + j + w) := by rw [s60, pk_mul, nI_add, nI_add]
      have cp1 : ∀ y, cp_d ah n (q + 1) y ↔ cp_d ah n q y ∨ y = w := by
        intro y
        unfold cp_d
        by_cases e : ah = true
        · rw [if_pos e, if_pos e]; rw [if_pos e] at ew; omega
        · rw [if_neg e, if_neg e]; rw [if_neg e] at ew; omega
      have fresh : σ 42 (60 * k + i + w) = σ0 42 (60 * k + i + w) := by
        refine h1 _ _ (fun ⟨_, y, z2, z3⟩ => ?_)
        unfold cp_d at z2
        have y1 := z2.1
        have : k = o := by omega
        subst this
        by_cases e : ah = true
        · rw [if_pos e] at z2 ew
          rw [hah] at e
          have := of_decide_eq_true e
          omega
        · rw [if_neg e] at z2 ew
          rw [hah] at e
          have : ¬ i < j := fun z => e (decide_eq_true z)
          omega
      refine k_X6_copy_190 hG hΓ hK _ _ _ _ _ _ _ _ ?_
      rw [eS, eD, nI_cl (by omega), nI_cl (by omega)]
      refine ⟨vp_in_nI (by omega) (by omega), vp_in_nI (by omega) (by omega), fun σ1 e1 x ex => ?_⟩
      rw [nI_1] at ex; subst ex
      refine ih (q + 1) σ1 (by omega) (fun c x z => ?_) (fun c hc => ?_)
      · rw [e1, tn_u_n, h1]
        · rintro ⟨z1, y, z2, z3⟩
          exact z ⟨z1, y, (cp1 y).mpr (Or.inl z2), z3⟩
        · by_cases e : c = 42
          · right
            rintro e2
            exact z ⟨e, w, (cp1 w).mpr (Or.inr rfl), e2⟩
          · exact Or.inl e
      · by_cases e : c = w
        · subst e
          rw [e1, tn_u_s, fresh]
        · rcases (cp1 c).mp hc with z | z
          · rw [e1, tn_u_n (by omega)]
            exact h2 c z
          · exact absurd z e
    refine k_X6_copy_166 hG hΓ hK _ _ _ _ _ _ _ ⟨fun z => ?_, fun _ => ?_⟩
    · rw [nI_leI (by omega) (by omega)] at z; omega
    · by_cases e : ah = true
      · rw [if_pos e] at key ⊢
        refine ⟨fun z => absurd z (by decide), fun _ => ?_⟩
        have em : (nI n - (1 : Int32)) - nI q = nI (n - 1 - q) := by rw [show (1 : Int32) = nI 1 by decide, pk_sub (by omega), pk_sub (by omega)]
        rw [em]
        exact key (n - 1 - q) (by omega) (by rw [if_pos e])
      · rw [if_neg e] at key ⊢
        refine ⟨fun _ => ?_, fun z => absurd rfl z⟩
        exact key q (by omega) (by rw [if_neg e])
theorem m6_copy (hG : tn_Gd ks ρ) {a0 a1 a2 a3 a4 : Int32} {K : Int32 → (Nat → Nat → Int32) → Prop} (hs : ∀ k, k < 4 → ∃ n, n ≤ 60 ∧ σ 41 k = nI n)
    (h0 : iw a0 0 3 = false ∨ iw a2 0 3 = false → K (-1) (tn_u σ 39 0 0))
    (h1 : ∀ k o, k < 4 → o < 4 → a0 = nI k → a2 = nI o → (σ 40 k = -9 ∨ σ 40 o = -9) → K (-10 - 1) (tn_u (tn_u σ 39 0 0) 39 0 1))
    (h2 : ∀ k o, k < 4 → o < 4 → a0 = nI k → a2 = nI o → ¬ σ 40 k = -9 → ¬ σ 40 o = -9 → ¬ σ 40 k = σ 40 o → K (-10 - 2) (tn_u (tn_u σ 39 0 0) 39 0 2))
    (h3 : ∀ k o, k < 4 → o < 4 → a0 = nI k → a2 = nI o → ¬ σ 40 k = -9 → ¬ σ 40 o = -9 → σ 40 k = σ 40 o → (hc (σ 41 k) a1 a4 = false ∨ hc (σ 41 o) a3 a4 = false) → K (-10 - 3) (tn_u (tn_u σ 39 0 0) 39 0 3))
    (h4 : ∀ k o, k < 4 → o < 4 → a0 = nI k → a2 = nI o → ¬ σ 40 k = -9 → ¬ σ 40 o = -9 → σ 40 k = σ 40 o → hc (σ 41 k) a1 a4 = true → hc (σ 41 o) a3 a4 = true → ∀ i j n, i + n ≤ 60 → j + n ≤ 60 → a1 = nI i → a3 = nI j → a4 = nI n → ∀ σ' : Nat → Nat → Int32, (∀ c x, ¬ (c = 39 ∧ x = 0) → ¬ (c = 42 ∧ 60 * o + j ≤ x ∧ x < 60 * o + j + n) → σ' c x = σ c x) → σ' 39 0 = 0 → (∀ c, c < n → σ' 42 (60 * o + j + c) = σ 42 (60 * k + i + c)) → K (nI n) σ') : tn_CI m_X6_copy [.ref 39, .int a0, .int a1, .int a2, .int a3, .int a4] ks ρ σ K := by
  refine tn_iI mv_X6_copy (Nat.le_of_ble_eq_true rfl) (fun Γ hΓ hK => k_X6_copy_0 hG hΓ hK a0 a1 a2 a3 a4 ?_)
  simp only [tn_ki]
  intro σ1 e1
  refine q6_isSheet hG (bz (fun q => by rw [e1]; exact h0 (Or.inl q)) (fun q => q6_isSheet hG (bn (fun q2 => ?_) (fun q2 => by rw [e1]; exact h0 (Or.inr q2)))))
  obtain ⟨k, hk, rfl⟩ := iw_3 q
  obtain ⟨o, ho, rfl⟩ := iw_3 q2
  rw [nI_cl (by omega), nI_cl (by omega)]
  have e40 : ∀ m, σ1 40 m = σ 40 m := fun m => by rw [e1]; exact tn_u_n (by omega)
  have e41 : ∀ m, σ1 41 m = σ 41 m := fun m => by rw [e1]; exact tn_u_n (by omega)
  rw [e40, e40, e41, e41]
  refine ⟨vp_in_nI (by omega) (by omega), fun q3 => q6_fails hG (by rw [e1]; exact h1 k o hk ho rfl rfl (Or.inl q3)), fun q3 => ⟨vp_in_nI (by omega) (by omega), fun q4 => ⟨fun q5 => ?_, fun q5 => q6_fails hG (by rw [e1]; exact h2 k o hk ho rfl rfl q3 q4 q5)⟩, fun q4 => q6_fails hG (by rw [e1]; exact h1 k o hk ho rfl rfl (Or.inr q4))⟩⟩
  have bad : (hc (σ 41 k) a1 a4 = false ∨ hc (σ 41 o) a3 a4 = false) → K (-10 - 3) (tn_u σ1 39 0 3) := fun z => by rw [e1]; exact h3 k o hk ho rfl rfl q3 q4 q5 z
  have bad0 : (hc (σ 41 k) a1 a4 = false ∨ hc (σ 41 o) a3 a4 = false) → tn_A Γ 110 [.ref 39, .int (nI k), .int a1, .int (nI o), .int a3, .int a4, .null, .null, .null, .null] [.int (0 : Int32)] 0 0 ks ρ σ1 := fun z => by
    refine k_X6_copy_110 hG hΓ hK _ _ _ _ _ _ ⟨fun _ => q6_fails hG ?_, fun z => absurd rfl z⟩
    rw [tn_ki]
    exact bad z
  unfold hc at bad bad0
  refine ⟨fun r1 => bad0 ?_, fun r1 => ⟨fun r2 => bad0 ?_, fun r2 => ⟨fun r3 => bad0 ?_, fun r3 => ⟨fun r4 => bad0 ?_, fun r4 => ⟨fun r5 => bad0 ?_, fun r5 => ?_⟩⟩⟩⟩⟩
  · left; simp [Int32.not_le.mpr r1]
  · right; simp [Int32.not_le.mpr r2]
  · left; simp [Int32.not_le.mpr r3]
  · left; simp [Int32.not_le.mpr r4]
  · right; simp [Int32.not_le.mpr r5]
  · refine k_X6_copy_110 hG hΓ hK _ _ _ _ _ _ ⟨fun z => absurd z (by decide), fun _ => ?_⟩
    rw [nI_cl (by omega), nI_cl (by omega), e41, e41]
    simp only [tn_ki]
    refine ⟨vp_in_nI (by omega) (by omega), fun r6 => q6_fails hG (bad ?_), fun r6 => ⟨vp_in_nI (by omega) (by omega), fun r7 => ?_, fun r7 => q6_fails hG (bad ?_)⟩⟩
    · left; simp [Int32.not_le.mpr r6]
    · have c1 : hc (σ 41 k) a1 a4 = true := by
        unfold hc
        simp [Int32.not_lt.mp r1, Int32.not_lt.mp r3, Int32.not_lt.mp r4, Int32.not_lt.mp r6]
      have c2 : hc (σ 41 o) a3 a4 = true := by
        unfold hc
        simp [Int32.not_lt.mp r2, Int32.not_lt.mp r3, Int32.not_lt.mp r5, r7]
      obtain ⟨n1, hn1, en1⟩ := hs k hk
      obtain ⟨n2, hn2, en2⟩ := hs o ho
      have d1 := c1
      have d2 := c2
      rw [en1] at d1
      rw [en2] at d2
      obtain ⟨i, n, hin, ei, en⟩ := hc_nI hn1 d1
      obtain ⟨j, n', hjn, ej, en'⟩ := hc_nI hn2 d2
      have : n' = n := (nI_eq (by omega) (by omega)).mp (en'.symm.trans en)
      subst this
      subst ei
      subst ej
      subst en
      have go : ∀ ah : Bool, ah = decide (i < j) → tn_A Γ 161 [.ref 39, .int (nI k), .int (nI i), .int (nI o), .int (nI j), .int (nI n'), .null, .null, .null, .null] [.int (if ah = true then 1 else 0)] 0 0 ks ρ σ1 := by
        intro ah hah
        refine k_X6_copy_161 hG hΓ hK _ _ _ _ _ _ ?_
        rw [← nI_0]
        have nc : ∀ y, ¬ cp_d ah n' 0 y := fun y z => by
          unfold cp_d at z
          by_cases e : ah = true
          · rw [if_pos e] at z; omega
          · rw [if_neg e] at z; omega
        have z0 : (if ah = true then (1 : Int32) else nI 0) = if ah = true then 1 else 0 := by rw [nI_0]
        rw [z0]
        refine lp_6copy hG hΓ hK hk ho (by omega) (by omega) hah (σ0 := σ1) (fun σ' g1 g2 => ?_) n' 0 σ1 (by omega) (fun _ _ _ => rfl) (fun c z => absurd z (nc c))
        rw [tn_ki]
        refine h4 k o hk ho rfl rfl q3 q4 q5 c1 c2 i j n' (by omega) (by omega) rfl rfl rfl σ' (fun c x z1 z2 => ?_) ?_ (fun c hc => ?_)
        · rw [g1 c x z2, e1, tn_u_n (by omega)]
        · rw [g1 39 0 (by omega), e1, tn_u_s]
        · rw [g2 c hc, e1, tn_u_n (by omega)]
      rw [nI_leI (by omega) (by omega)]
      refine ⟨fun z => ?_, fun z => ?_⟩
      · have := go false (by simp; omega)
        exact this
      · have := go true (by simp; omega)
        exact this
    · right; simp [r7]
theorem op_copy (hG : tn_Gd ks ρ) (hL : ro_L σ) {a0 a1 a2 a3 a4 : Int32} {K : Int32 → Int32 → (Nat → Nat → Int32) → Prop} (h : ∀ r σ', ro_L σ' → K r r σ') : tn_CI m_X5_copy [.ref 2, .int a0, .int a1, .int a2, .int a3, .int a4] ks ρ σ (fun r1 σ1 => tn_CI m_X6_copy [.ref 39, .int a0, .int a1, .int a2, .int a3, .int a4] ks ρ σ1 (fun r2 σ2 => K r1 r2 σ2)) := by
  have hs : ∀ (σ' : Nat → Nat → Int32), (∀ k, k < 4 → σ' 41 k = σ 41 k) → ∀ k, k < 4 → ∃ n, n ≤ 60 ∧ σ' 41 k = nI n := fun σ' e k hk => by
    obtain ⟨n, hn, en, _⟩ := (hL.s hk).2.1
    exact ⟨n, hn, (e k hk).trans en⟩
  have x3 : ∀ k, k < 4 → iw (nI k) 0 3 = false → False := fun k hk z => iw_F (iw_3' hk) z
  have x4 : ∀ k k' : Nat, k < 4 → k' < 4 → nI k = nI k' → k' = k := fun k k' h1 h2 e => ((nI_eq (by omega) (by omega)).mp e).symm
  refine tn_iI mv_X5_copy (Nat.le_of_ble_eq_true rfl) (fun Γ hΓ hK => k_X5_copy_0 hG hΓ hK a0 a1 a2 a3 a4 ?_)
  simp only [tn_ki]
  intro σ1 e1
  have u1 : ∀ c x, ¬ (c = 2 ∧ x = 9) → σ1 c x = σ c x := fun c x z => by rw [e1]; exact tn_u_n (by omega)
  refine q5_isSheet hG (bz (fun q => ?_) (fun q => q5_isSheet hG (bn (fun q2 => ?_) (fun q2 => ?_))))
  · rw [e1]
    exact m6_copy hG (hs _ (fun k _ => by rw [tn_u_n (by omega)])) (fun _ => h _ _ (ro_f0 hL)) (fun k o hk ho e => by rw [e] at q; exact (x3 k hk q).elim) (fun k o hk ho e => by rw [e] at q; exact (x3 k hk q).elim) (fun k o hk ho e => by rw [e] at q; exact (x3 k hk q).elim) (fun k o hk ho e => by rw [e] at q; exact (x3 k hk q).elim)
  · obtain ⟨k, hk, rfl⟩ := iw_3 q
    obtain ⟨o, ho, rfl⟩ := iw_3 q2
    have ok : ro_1 σ1 k := by rw [e1]; exact (hL.s hk).g
    have oo : ro_1 σ1 o := by rw [e1]; exact (hL.s ho).g
    rw [nI_cl (by omega), nI_cl (by omega), ok.z, oo.z]
    have n0 : ∀ {A : Prop}, (iw (nI k) 0 3 = false ∨ iw (nI o) 0 3 = false) → A := fun z => by
      rcases z with z | z
      · exact (x3 k hk z).elim
      · exact (x3 o ho z).elim
    have uf : ∀ (y : Int32) c x, ¬ (c = 2 ∧ x = 9) → tn_u σ1 2 9 y c x = σ c x := fun y c x z => by rw [tn_u_n (by omega), u1 c x z]
    have hsf : ∀ y : Int32, ∀ k, k < 4 → ∃ n, n ≤ 60 ∧ tn_u σ1 2 9 y 41 k = nI n := fun y => hs _ (fun k _ => uf y 41 k (by omega))
    have c1 : σ1 40 k = σ 40 k := u1 _ _ (by omega)
    have c2 : σ1 40 o = σ 40 o := u1 _ _ (by omega)
    rw [c1, c2]
    refine ⟨vp_in_nI (by omega) (by omega), vp_in_nI (by omega) (by omega), fun q3 => q5_faulted hG ?_, fun q3 => ⟨fun q4 => ⟨fun q5 => ?_, fun q5 => q5_faulted hG ?_⟩, fun q4 => q5_faulted hG ?_⟩⟩
    · refine m6_copy hG (hsf _) n0 (fun k' o' _ _ _ _ _ => by rw [e1]; exact h _ _ (ro_ff hL rfl)) (fun k' o' hk' ho' ek eo z => ?_) (fun k' o' hk' ho' ek eo z => ?_) (fun k' o' hk' ho' ek eo z => ?_) <;> (rw [uf _ _ _ (by omega), x4 k k' hk hk' ek] at z; exact absurd q3 z)
    · rw [ok.l (by rw [c1]; exact q3), oo.l (by rw [c2]; exact q4), c1, c2] at q5
      obtain ⟨n1, hn1, en1, en1'⟩ := ok.2.1
      obtain ⟨n2, hn2, en2, en2'⟩ := oo.2.1
      have l1 : σ1 (31 + 2 * k) 3 = σ 41 k := by rw [en1', ← en1, u1 _ _ (by omega)]
      have l2 : σ1 (31 + 2 * o) 3 = σ 41 o := by rw [en2', ← en2, u1 _ _ (by omega)]
      refine q2_hasCells hG (gs_b hk) ?_
      rw [l1]
      refine bz (fun q6 => q5_faulted hG ?_) (fun q6 => q2_hasCells hG (gs_b ho) ?_)
      · refine m6_copy hG (hsf _) n0 (fun k' o' hk' ho' ek eo z => ?_) (fun k' o' hk' ho' ek eo _ _ z => ?_) (fun k' o' _ _ _ _ _ _ _ _ => by rw [e1]; exact h _ _ (ro_ff hL rfl)) (fun k' o' hk' ho' ek eo _ _ _ z => ?_)
        · rw [uf _ _ _ (by omega), uf _ _ _ (by omega), x4 k k' hk hk' ek, x4 o o' ho ho' eo] at z
          rcases z with z | z
          · exact absurd z q3
          · exact absurd z q4
        · rw [uf _ _ _ (by omega), uf _ _ _ (by omega), x4 k k' hk hk' ek, x4 o o' ho ho' eo] at z
          exact absurd q5 z
        · rw [uf _ _ _ (by omega), x4 k k' hk hk' ek] at z
          exact iw_F z q6
      · rw [l2]
        refine bn (fun q7 => ?_) (fun q7 => q5_faulted hG ?_)
        · have d1 := q6
          have d2 := q7
          rw [← u1 41 k (by omega), en1] at d1
          rw [← u1 41 o (by omega), en2] at d2
          obtain ⟨i, n, hin, ei, en⟩ := hc_nI hn1 d1
          obtain ⟨j, n', hjn, ej, en'⟩ := hc_nI hn2 d2
          have : n' = n := (nI_eq (by omega) (by omega)).mp (en'.symm.trans en)
          subst this
          subst ei
          subst ej
          subst en
          rw [nI_cl (by omega), nI_cl (by omega), nI_cl (by omega)]
          refine ⟨nI_pos (by omega), nI_pos (by omega), nI_pos (by omega), by omega, by omega, fun σ2 e2 => ?_⟩
          have u2 : ∀ c x, c ≠ 31 + 2 * o + 1 → ¬ (c = 2 ∧ x = 9) → σ2 c x = σ c x := fun c x z z2 => by
            rw [e2]
            simp only [if_neg z]
            exact u1 c x z2
          have u3 : ∀ x, σ2 (31 + 2 * o + 1) x = va_cpy (σ1 (31 + 2 * k + 1)) (σ1 (31 + 2 * o + 1)) i j n' x := fun x => by
            rw [e2]
            simp only [if_true]
          refine m6_copy hG (hs _ (fun k _ => u2 _ _ (by omega) (by omega))) n0 (fun k' o' hk' ho' ek eo z => ?_) (fun k' o' hk' ho' ek eo _ _ z => ?_) (fun k' o' hk' ho' ek eo _ _ _ z => ?_) (fun k' o' hk' ho' ek eo _ _ _ _ _ i' j' n1' hi' hj' ei ej en σ3 f1 f2 f3 => ?_)
          · rw [u2 _ _ (by omega) (by omega), u2 _ _ (by omega) (by omega), x4 k k' hk hk' ek, x4 o o' ho ho' eo] at z
            rcases z with z | z
            · exact absurd z q3
            · exact absurd z q4
          · rw [u2 _ _ (by omega) (by omega), u2 _ _ (by omega) (by omega), x4 k k' hk hk' ek, x4 o o' ho ho' eo] at z
            exact absurd q5 z
          · rw [u2 _ _ (by omega) (by omega), u2 _ _ (by omega) (by omega), x4 k k' hk hk' ek, x4 o o' ho ho' eo] at z
            rcases z with z | z
            · exact iw_F q6 z
            · exact iw_F q7 z
          · have g1 := x4 k k' hk hk' ek
            have g2 := x4 o o' ho ho' eo
            have g3 : i' = i := ((nI_eq (by omega) (by omega)).mp ei).symm
            have g4 : j' = j := ((nI_eq (by omega) (by omega)).mp ej).symm
            have g5 : n1' = n' := ((nI_eq (by omega) (by omega)).mp en).symm
            subst g1; subst g2; subst g3; subst g4; subst g5
            refine h _ _ (ro_sh hL (fun c x z1 z2 z3 z4 => ?_) (fun m hm => ?_) ?_)
            · rw [f1 c x z2 (by omega), u2 c x (by omega) z1]
            · have v : ∀ c x, c ≠ 31 + 2 * o' + 1 → 31 ≤ c → c ≤ 42 → c ≠ 39 → ¬ (c = 42 ∧ 60 * o' + j' ≤ x ∧ x < 60 * o' + j' + n1') → σ3 c x = σ c x := fun c x z1 z2 z3 z4 z5 => by rw [f1 c x (by omega) z5, u2 c x z1 (by omega)]
              by_cases e : m = o'
              · subst e
                have om := hL.s hm
                unfold ro_1
                rw [v 40 m (by omega) (by omega) (by omega) (by omega) (by omega), v 41 m (by omega) (by omega) (by omega) (by omega) (by omega), v (31 + 2 * m) 1 (by omega) (by omega) (by omega) (by omega) (by omega), v (31 + 2 * m) 2 (by omega) (by omega) (by omega) (by omega) (by omega), v (31 + 2 * m) 3 (by omega) (by omega) (by omega) (by omega) (by omega)]
                refine ⟨om.1, om.2.1, fun x hx => ?_⟩
                rw [f1 (31 + 2 * m + 1) x (by omega) (by omega), u3]
                by_cases r : j' ≤ x ∧ x < j' + n1'
                · rw [pk_cpy_in r.1 r.2, u1 _ _ (by omega), (hL.s hk').2.2 _ (by omega)]
                  have e3 : 60 * m + x = 60 * m + j' + (x - j') := by omega
                  rw [e3, f3 (x - j') (by omega), u2 _ _ (by omega) (by omega)]
                  rw [show 60 * k' + (i' + (x - j')) = 60 * k' + i' + (x - j') by omega]
                · rw [pk_cpy_out (by omega), u1 _ _ (by omega), om.2.2 x hx, v _ _ (by omega) (by omega) (by omega) (by omega) (by omega)]
              · exact (hL.s hm).c (v _ _ (by omega) (by omega) (by omega) (by omega) (by omega)) (v _ _ (by omega) (by omega) (by omega) (by omega) (by omega)) (v _ _ (by omega) (by omega) (by omega) (by omega) (by omega)) (v _ _ (by omega) (by omega) (by omega) (by omega) (by omega)) (v _ _ (by omega) (by omega) (by omega) (by omega) (by omega)) (fun x hx => v _ _ (by omega) (by omega) (by omega) (by omega) (by omega)) (fun x hx => v _ _ (by omega) (by omega) (by omega) (by omega) (by omega))
            · rw [f2, f1 2 9 (by omega) (by omega), e2]
              simp only [if_neg (show ¬ (2 = 31 + 2 * o' + 1) by omega)]
              rw [e1, tn_u_s]
        · refine m6_copy hG (hsf _) n0 (fun k' o' hk' ho' ek eo z => ?_) (fun k' o' hk' ho' ek eo _ _ z => ?_) (fun k' o' _ _ _ _ _ _ _ _ => by rw [e1]; exact h _ _ (ro_ff hL rfl)) (fun k' o' hk' ho' ek eo _ _ _ _ z => ?_)
          · rw [uf _ _ _ (by omega), uf _ _ _ (by omega), x4 k k' hk hk' ek, x4 o o' ho ho' eo] at z
            rcases z with z | z
            · exact absurd z q3
            · exact absurd z q4
          · rw [uf _ _ _ (by omega), uf _ _ _ (by omega), x4 k k' hk hk' ek, x4 o o' ho ho' eo] at z
            exact absurd q5 z
          · rw [uf _ _ _ (by omega), x4 o o' ho ho' eo] at z
            exact iw_F z q7
    · rw [ok.l (by rw [c1]; exact q3), oo.l (by rw [c2]; exact q4), c1, c2] at q5
      refine m6_copy hG (hsf _) n0 (fun k' o' hk' ho' ek eo z => ?_) (fun k' o' _ _ _ _ _ _ _ => by rw [e1]; exact h _ _ (ro_ff hL rfl)) (fun k' o' hk' ho' ek eo _ _ z => ?_) (fun k' o' hk' ho' ek eo _ _ z => ?_)
      · rw [uf _ _ _ (by omega), uf _ _ _ (by omega), x4 k k' hk hk' ek, x4 o o' ho ho' eo] at z
        rcases z with z | z
        · exact absurd z q3
        · exact absurd z q4
      · rw [uf _ _ _ (by omega), uf _ _ _ (by omega), x4 k k' hk hk' ek, x4 o o' ho ho' eo] at z
        exact absurd z q5
      · rw [uf _ _ _ (by omega), uf _ _ _ (by omega), x4 k k' hk hk' ek, x4 o o' ho ho' eo] at z
        exact absurd z q5
    · refine m6_copy hG (hsf _) n0 (fun k' o' _ _ _ _ _ => by rw [e1]; exact h _ _ (ro_ff hL rfl)) (fun k' o' hk' ho' ek eo _ z => ?_) (fun k' o' hk' ho' ek eo _ z => ?_) (fun k' o' hk' ho' ek eo _ z => ?_) <;> (rw [uf _ _ _ (by omega), x4 o o' ho ho' eo] at z; exact absurd q4 z)
  · rw [e1]
    exact m6_copy hG (hs _ (fun k _ => by rw [tn_u_n (by omega)])) (fun _ => h _ _ (ro_f0 hL)) (fun k o hk ho _ e => by rw [e] at q2; exact (x3 o ho q2).elim) (fun k o hk ho _ e => by rw [e] at q2; exact (x3 o ho q2).elim) (fun k o hk ho _ e => by rw [e] at q2; exact (x3 o ho q2).elim) (fun k o hk ho _ e => by rw [e] at q2; exact (x3 o ho q2).elim)
end QL6
