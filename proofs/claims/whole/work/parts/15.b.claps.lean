/-! ===== calls: claps, odds ===== -/
theorem sc_nI {n : Nat} (hn : n ≤ 5) : (1 : Int32) <<< (nI n &&& 31) = nI (2 ^ n) := by
  have : n = 0 ∨ n = 1 ∨ n = 2 ∨ n = 3 ∨ n = 4 ∨ n = 5 := by omega
  rcases this with e | e | e | e | e | e <;> subst e <;> decide
theorem p2_le {n : Nat} (hn : n ≤ 5) : 2 ^ n ≤ 32 := by
  have : n = 0 ∨ n = 1 ∨ n = 2 ∨ n = 3 ∨ n = 4 ∨ n = 5 := by omega
  rcases this with e | e | e | e | e | e <;> subst e <;> decide
def pp_cl (P : pp_T) (v : Int32) (s : Nat) (l c : Int32) : Nat → Int32 × Int32
  | 0 => (l, c)
  | m + 1 => if pp_dr P (nI s) = true ∧ pp_ws P (nI s) = v then pp_cl P v (s + 1) (if l = -9 then nI s else l) (c + 1) m else pp_cl P v (s + 1) l c m
def pp_od (P : pp_T) (v : Int32) (s u l : Nat) : Nat → Nat × Nat
  | 0 => (u, l)
  | m + 1 => if pp_dr P (nI s) = true then pp_od P v (s + 1) (if pp_ws P (nI s) < v then u else u + 1) (l + 1) m else pp_od P v (s + 1) u l m
theorem dr_iff {P : pp_T} {x : Int32} : x &&& (pp_rs P ^^^ (-1)) = 0 ↔ pp_dr P x = true := by
  unfold pp_dr
  rw [beq_iff_eq]
def f_cl (a : Int32) (p : Int32 × Int32) : Int32 := if a = 0 then p.2 else p.1
section QC
variable {ks : List (Nat × Nat)} {ρ : Nat → Nat → Nat} {σ : Nat → Nat → Int32} {Γ : tn_G} {P : pp_T}
theorem l5_claps (hG : tn_Gd ks ρ) {K : Option Value → List (Nat × Nat) → (Nat → Nat → Nat) → (Nat → Nat → Int32) → Prop} (hΓ : tn_is Γ m_X5_claps) (hK : tn_rt Γ m_X5_claps K) (hR : rc_P σ 3 P) (hw : pp_w P) {v a : Int32} : ∀ m s l c, s + m = 2 ^ pp_n P → K (some (.int (f_cl a (pp_cl P v s l c m)))) ks ρ σ → tn_A Γ 41 [.ref 2, .int v, .int a, .int l, .int c, .int (nI s)] [] 0 0 ks ρ σ := by
  intro m
  have h32 := p2_le hw.2.1
  induction m with
  | zero =>
    intro s l c hs h
    refine k_X5_claps_41 hG hΓ hK _ _ _ _ _ (q_setCount hG pb3 hR ?_)
    rw [hw.1, sc_nI hw.2.1]
    unfold f_cl at h
    refine ⟨fun _ => ⟨fun q => ?_, fun q => ?_⟩, fun q => ?_⟩
    · rw [if_neg q] at h; exact h
    · rw [if_pos q] at h; exact h
    · rw [nI_leI (by omega) (by omega)] at q; omega
  | succ m ih =>
    intro s l c hs h
    refine k_X5_claps_41 hG hΓ hK _ _ _ _ _ (q_setCount hG pb3 hR ?_)
    rw [hw.1, sc_nI hw.2.1]
    refine ⟨fun q => ?_, fun _ => q_doesSetRankle hG pb3 hR hw (bz (fun q x ex => ?_) (fun q => q_weightOfSet hG pb3 hR hw ⟨fun q2 x ex => ?_, fun q2 y ey => ⟨fun q3 x ex => ?_, fun q3 x ex => ?_⟩⟩))⟩
    · rw [nI_leI (by omega) (by omega)] at q; omega
    · rw [nI_1] at ex; subst ex
      unfold pp_cl at h
      rw [if_neg (fun z => by rw [q] at z; exact absurd z.1 (by decide))] at h
      exact ih (s + 1) l c (by omega) h
    · rw [nI_1] at ex; subst ex
      unfold pp_cl at h
      rw [if_neg (fun z => q2 z.2)] at h
      exact ih (s + 1) l c (by omega) h
    · rw [nI_1] at ex; subst ex
      unfold pp_cl at h
      rw [if_pos ⟨q, q2⟩, if_neg q3] at h
      subst ey
      exact ih (s + 1) l _ (by omega) h
    · rw [nI_1] at ex; subst ex
      unfold pp_cl at h
      rw [if_pos ⟨q, q2⟩, if_pos q3] at h
      subst ey
      exact ih (s + 1) _ _ (by omega) h
theorem l6_claps (hG : tn_Gd ks ρ) {K : Option Value → List (Nat × Nat) → (Nat → Nat → Nat) → (Nat → Nat → Int32) → Prop} (hΓ : tn_is Γ m_X6_claps) (hK : tn_rt Γ m_X6_claps K) (hR : rm_P σ P) (hw : pp_w P) {v a : Int32} : ∀ m s l c, s + m = 2 ^ pp_n P → K (some (.int (f_cl a (pp_cl P v s l c m)))) ks ρ σ → tn_A Γ 47 [.ref 39, .int v, .int a, .int (pp_rs P), .int c, .int l, .int (nI s)] [] 0 0 ks ρ σ := by
  intro m
  have h32 := p2_le hw.2.1
  induction m with
  | zero =>
    intro s l c hs h
    refine k_X6_claps_47 hG hΓ hK _ _ _ _ _ _ ?_
    rw [hR.1, hw.1, sc_nI hw.2.1]
    unfold f_cl at h
    refine ⟨fun _ => ⟨fun q => ?_, fun q => ?_⟩, fun q => ?_⟩
    · rw [if_neg q] at h; exact h
    · rw [if_pos q] at h; exact h
    · rw [nI_leI (by omega) (by omega)] at q; omega
  | succ m ih =>
    intro s l c hs h
    refine k_X6_claps_47 hG hΓ hK _ _ _ _ _ _ ?_
    rw [hR.1, hw.1, sc_nI hw.2.1, dr_iff]
    refine ⟨fun q => ?_, fun _ => ⟨fun q x ex => ?_, fun q => q6_weightOfSet hG hR hw ⟨fun q2 x ex => ?_, fun q2 y ey => ⟨fun q3 x ex => ?_, fun q3 x ex => ?_⟩⟩⟩⟩
    · rw [nI_leI (by omega) (by omega)] at q; omega
    · rw [nI_1] at ex; subst ex
      unfold pp_cl at h
      rw [if_neg (fun z => q z.1)] at h
      exact ih (s + 1) l c (by omega) h
    · rw [nI_1] at ex; subst ex
      unfold pp_cl at h
      rw [if_neg (fun z => q2 z.2)] at h
      exact ih (s + 1) l c (by omega) h
    · rw [nI_1] at ex; subst ex
      unfold pp_cl at h
      rw [if_pos ⟨q, q2⟩, if_neg q3] at h
      subst ey
      exact ih (s + 1) l _ (by omega) h
    · rw [nI_1] at ex; subst ex
      unfold pp_cl at h
      rw [if_pos ⟨q, q2⟩, if_pos q3] at h
      subst ey
      exact ih (s + 1) _ _ (by omega) h
theorem op_claps (hG : tn_Gd ks ρ) (hL : ro_L σ) {a b : Int32} {K : Int32 → Int32 → (Nat → Nat → Int32) → Prop} (h : ∀ r σ', ro_L σ' → K r r σ') : tn_CI m_X5_claps [.ref 2, .int a, .int b] ks ρ σ (fun r1 σ1 => tn_CI m_X6_claps [.ref 39, .int a, .int b] ks ρ σ1 (fun r2 σ2 => K r1 r2 σ2)) := by
  obtain ⟨P, hw, hc, hm, ho⟩ := id hL
  refine tn_iI mv_X5_claps (Nat.le_of_ble_eq_true rfl) (fun Γ hΓ hK => k_X5_claps_0 hG hΓ hK a b ?_)
  refine q5_within hG (bz (fun q => ?_) (fun q => q5_within hG (bn (fun q1 => q5_hasParish hG hc hw (bn (fun q2 => ?_) (fun q2 => ?_))) (fun q1 => ?_))))
  · simp only [tn_ki]
    refine tn_iI mv_X6_claps (Nat.le_of_ble_eq_true rfl) (fun Γ hΓ hK => k_X6_claps_0 hG hΓ hK _ _ ?_)
    simp only [tn_ki]
    refine q6_within hG ?_
    rw [q]
    exact ⟨fun _ => h _ _ hL, fun z => absurd rfl z⟩
  · have h0 : 0 < pp_n P := of_decide_eq_true q2
    have z0 : (0 : Int32) = nI 0 := nI_0.symm
    have go : tn_A Γ 41 [.ref 2, .int a, .int b, .int (-9 : Int32), .int (0 : Int32), .int (nI 0)] [] 0 0 ks ρ σ := by
      refine l5_claps hG hΓ hK hc hw (2 ^ pp_n P) 0 (-9) 0 (by omega) ?_
      rw [tn_ki]
      refine tn_iI mv_X6_claps (Nat.le_of_ble_eq_true rfl) (fun Γ hΓ hK => k_X6_claps_0 hG hΓ hK _ _ ?_)
      refine q6_within hG ?_
      rw [q]
      refine ⟨fun z => absurd z (by decide), fun _ => q6_within hG ?_⟩
      rw [q1]
      refine ⟨fun _ => ⟨fun _ => q6_whoRankle hG hm hw ?_, fun z => absurd ((rm_n0 hm hw).mp z) (by omega)⟩, fun z => absurd z (by decide)⟩
      have go2 : tn_A Γ 47 [.ref 39, .int a, .int b, .int (pp_rs P), .int (0 : Int32), .int (-9 : Int32), .int (nI 0)] [] 0 0 ks ρ σ := by
        refine l6_claps hG hΓ hK hm hw (2 ^ pp_n P) 0 (-9) 0 (by omega) ?_
        rw [tn_ki]
        exact h _ _ hL
      rw [nI_0] at go2
      exact go2
    rw [nI_0] at go
    exact go
  · have q3 := of_decide_eq_false q2
    simp only [tn_ki]
    refine tn_iI mv_X6_claps (Nat.le_of_ble_eq_true rfl) (fun Γ hΓ hK => k_X6_claps_0 hG hΓ hK _ _ ?_)
    simp only [tn_ki]
    refine q6_within hG ?_
    rw [q]
    refine ⟨fun z => absurd z (by decide), fun _ => q6_within hG ?_⟩
    rw [q1]
    exact ⟨fun _ => ⟨fun z => absurd ((rm_n0 hm hw).mpr (by omega)) z, fun _ => h _ _ hL⟩, fun z => absurd z (by decide)⟩
  · simp only [tn_ki]
    refine tn_iI mv_X6_claps (Nat.le_of_ble_eq_true rfl) (fun Γ hΓ hK => k_X6_claps_0 hG hΓ hK _ _ ?_)
    simp only [tn_ki]
    refine q6_within hG ?_
    rw [q]
    refine ⟨fun z => absurd z (by decide), fun _ => q6_within hG ?_⟩
    rw [q1]
    exact ⟨fun z => absurd rfl z, fun _ => h _ _ hL⟩
/-! odds -/
theorem od_rs {P : pp_T} : ∀ n, n ≤ 5 → ∃ j, j < 2 ^ n ∧ pp_rsN P n = nI j
  | 0, _ => ⟨0, by decide, nI_0.symm⟩
  | n + 1, hn => by
    obtain ⟨j, hj, e⟩ := od_rs n (by omega)
    have tb : ∀ n : Nat, n < 5 → ∀ j : Nat, j < 32 → j < 2 ^ n → nI j ||| ((1 : Int32) <<< (nI n &&& 31)) = nI (j + 2 ^ n) := by decide +kernel
    have h2 : 2 ^ (n + 1) = 2 * 2 ^ n := by rw [Nat.pow_succ]; omega
    have h32 := p2_le (n := n) (by omega)
    unfold pp_rsN
    by_cases q : pp_rk P n = true
    · rw [if_pos q, e]
      exact ⟨j + 2 ^ n, by omega, tb n (by omega) j (by omega) hj⟩
    · rw [if_neg q]
      exact ⟨j, by omega, e⟩
/-- how many sets, by numbers alone -/
def od_c (j s l : Nat) : Nat → Nat
  | 0 => l
  | m + 1 => if nI s &&& (nI j ^^^ (-1)) = 0 then od_c j (s + 1) (l + 1) m else od_c j (s + 1) l m
theorem od_cp : ∀ n : Nat, n < 6 → ∀ j : Nat, j < 32 → j < 2 ^ n → od_c j 0 0 (2 ^ n) = 1 ∨ od_c j 0 0 (2 ^ n) = 2 ∨ od_c j 0 0 (2 ^ n) = 4 ∨ od_c j 0 0 (2 ^ n) = 8 ∨ od_c j 0 0 (2 ^ n) = 16 ∨ od_c j 0 0 (2 ^ n) = 32 := by decide +kernel
theorem od_l {P : pp_T} {v : Int32} {j : Nat} (e : pp_rs P = nI j) : ∀ m s u l, (pp_od P v s u l m).2 = od_c j s l m
  | 0, s, u, l => rfl
  | m + 1, s, u, l => by
    unfold pp_od od_c
    have d := dr_iff (P := P) (x := nI s)
    rw [e] at d
    by_cases q : nI s &&& (nI j ^^^ (-1)) = 0
    · rw [if_pos (d.mp q), if_pos q]; exact od_l e m _ _ _
    · rw [if_neg (fun z => q (d.mpr z)), if_neg q]; exact od_l e m _ _ _
theorem od_u {P : pp_T} {v : Int32} : ∀ m s u l, u ≤ l → (pp_od P v s u l m).1 ≤ (pp_od P v s u l m).2 ∧ (pp_od P v s u l m).2 ≤ l + m
  | 0, s, u, l, h => ⟨h, Nat.le_refl _⟩
  | m + 1, s, u, l, h => by
    unfold pp_od
    by_cases q : pp_dr P (nI s) = true
    · rw [if_pos q]
      have := od_u (P := P) (v := v) m (s + 1) (if pp_ws P (nI s) < v then u else u + 1) (l + 1) (by split <;> omega)
      exact ⟨this.1, by omega⟩
    · rw [if_neg q]
      have := od_u (P := P) (v := v) m (s + 1) u l h
      exact ⟨this.1, by omega⟩
/-- halving -/
def od_h (u l : Nat) : Nat → Nat × Nat
  | 0 => (u, l)
  | r + 1 => if u % 2 = 0 then od_h (u / 2) (l / 2) r else (u, l)
theorem od_g : ∀ r : Nat, r < 6 → ∀ u : Nat, u < 33 → u ≤ 2 ^ r → (od_h u (2 ^ r) r).1 = u / Nat.gcd u (2 ^ r) ∧ (od_h u (2 ^ r) r).2 = 2 ^ r / Nat.gcd u (2 ^ r) := by decide +kernel
theorem l5_half (hG : tn_Gd ks ρ) {K : Option Value → List (Nat × Nat) → (Nat → Nat → Nat) → (Nat → Nat → Int32) → Prop} (hΓ : tn_is Γ m_X5_odds) (hK : tn_rt Γ m_X5_odds K) {a : Int32} : ∀ r u, r ≤ 5 → u ≤ 32 → K (some (.long (if a = 0 then lN (od_h u (2 ^ r) r).1 else lN (od_h u (2 ^ r) r).2))) ks ρ σ → tn_A Γ 92 [.null, .null, .int a, .int (nI u), .int (nI (2 ^ r)), .null] [] 0 0 ks ρ σ := by
  intro r
  have o2 : (2 : Int32) = nI 2 := by decide
  induction r with
  | zero =>
    intro u hr hu h
    refine k_X5_odds_92 hG hΓ hK _ _ _ ?_
    rw [show (1 : Int32) = nI 1 by decide, nI_leI (by decide) (by decide), nI_l (by decide), nI_l (by omega)]
    refine ⟨fun _ => ⟨fun q => ?_, fun q => ?_⟩, fun q => absurd (by decide) q⟩
    · rw [if_neg q] at h; exact h
    · rw [if_pos q] at h; exact h
  | succ r ih =>
    intro u hr hu h
    have h32 := p2_le (n := r + 1) (by omega)
    have h2 : 2 ^ (r + 1) = 2 * 2 ^ r := by rw [Nat.pow_succ]; omega
    have hp : 0 < 2 ^ r := Nat.pow_pos (by omega)
    refine k_X5_odds_92 hG hΓ hK _ _ _ ?_
    rw [show (1 : Int32) = nI 1 by decide, nI_leI (by omega) (by omega), nI_l (by omega), nI_l (by omega), o2, pk_rem (by omega) (by omega) (by omega), pk_div (by omega) (by omega) (by omega), pk_div (by omega) (by omega) (by omega), show (0 : Int32) = nI 0 from nI_0.symm, nI_eq (a := u % 2) (by omega) (by omega)]
    rw [show (0 : Int32) = nI 0 from nI_0.symm] at h
    unfold od_h at h
    refine ⟨fun q => by omega, fun _ => ⟨fun q => ⟨fun q2 => ?_, fun q2 => ?_⟩, fun q x ex y ey => ?_⟩⟩
    · rw [if_neg q2, if_neg q] at h; exact h
    · rw [if_pos q2, if_neg q] at h; exact h
    · rw [if_pos q] at h
      have ey' : y = nI (2 ^ r) := by rw [ey, h2]; congr 1; omega
      rw [show 2 ^ (r + 1) / 2 = 2 ^ r by omega, nI_0] at h
      subst ex
      subst ey'
      exact ih (u / 2) (by omega) (by omega) h
theorem l6_gcd (hG : tn_Gd ks ρ) {K : Option Value → List (Nat × Nat) → (Nat → Nat → Nat) → (Nat → Nat → Int32) → Prop} (hΓ : tn_is Γ m_X6_inLeastTerms) (hK : tn_rt Γ m_X6_inLeastTerms K) {a : Int32} {u l : Nat} (hu : u ≤ 32) (hl : l ≤ 32) (hl0 : 0 < l) (h : K (some (.long (if a = 0 then lN (u / Nat.gcd u l) else lN (l / Nat.gcd u l)))) ks ρ σ) : ∀ m x y, y ≤ m → x ≤ 32 → y ≤ 32 → Nat.gcd x y = Nat.gcd u l → tn_A Γ 6 [.long (lN u), .null, .long (lN l), .null, .int a, .long (lN x), .null, .long (lN y), .null, .null, .null] [] 0 0 ks ρ σ := by
  intro m
  have z0 : (0 : Int64) = lN 0 := by decide
  have cm : ∀ y, y ≤ 32 → (lg_cmp (lN y) (0 : Int64) = 0 ↔ y = 0) := by decide +kernel
  have gp : 0 < Nat.gcd u l := Nat.gcd_pos_of_pos_right _ hl0
  have g32 : Nat.gcd u l ≤ l := Nat.gcd_le_right _ hl0
  have fin : ∀ x, Nat.gcd x 0 = Nat.gcd u l → tn_A Γ 6 [.long (lN u), .null, .long (lN l), .null, .int a, .long (lN x), .null, .long (lN 0), .null, .null, .null] [] 0 0 ks ρ σ := by
    intro x e
    rw [Nat.gcd_zero_right] at e
    subst e
    refine k_X6_inLeastTerms_6 hG hΓ hK _ _ _ _ _ ⟨fun _ => ?_, fun q => absurd ((cm 0 (by omega)).mpr rfl) q⟩
    rw [z0, pk_lEQ (by omega) (by omega), pk_lDiv (by omega) gp (by omega), pk_lDiv (by omega) gp (by omega)]
    refine ⟨fun q => ⟨by omega, ?_⟩, fun q => ⟨by omega, ?_⟩⟩
    · rw [if_neg q] at h; exact h
    · rw [if_pos q] at h; exact h
  induction m with
  | zero =>
    intro x y hy hx hy2 e
    have y0 : y = 0 := Nat.le_zero.mp hy
    subst y0
    exact fin x e
  | succ m ih =>
    intro x y hy hx hy2 e
    by_cases y0 : y = 0
    · subst y0; exact fin x e
    · refine k_X6_inLeastTerms_6 hG hΓ hK _ _ _ _ _ ⟨fun q => absurd ((cm y hy2).mp q) y0, fun _ => ?_⟩
      rw [z0, pk_lEQ (by omega) (by omega), pk_lRem (by omega) (by omega) (by omega)]
      refine ⟨y0, fun z ez => ?_⟩
      subst ez
      have := Nat.mod_lt x (show y > 0 by omega)
      refine ih y (x % y) (by omega) hy2 (by omega) ?_
      rw [← e, Nat.gcd_comm x y, Nat.gcd_rec y x, Nat.gcd_comm]
def f_od (a : Int32) (p : Nat × Nat) : Int64 := if a = 0 then lN (p.1 / Nat.gcd p.1 p.2) else lN (p.2 / Nat.gcd p.1 p.2)
theorem l5_odds (hG : tn_Gd ks ρ) {K : Option Value → List (Nat × Nat) → (Nat → Nat → Nat) → (Nat → Nat → Int32) → Prop} (hΓ : tn_is Γ m_X5_odds) (hK : tn_rt Γ m_X5_odds K) (hR : rc_P σ 3 P) (hw : pp_w P) {v a : Int32} : ∀ m s u l, s + m = 2 ^ pp_n P → u ≤ s → l ≤ s → (∀ r, r ≤ 5 → (pp_od P v s u l m).2 = 2 ^ r → tn_A Γ 92 [.null, .null, .int a, .int (nI (pp_od P v s u l m).1), .int (nI (2 ^ r)), .null] [] 0 0 ks ρ σ) → (∃ r, r ≤ 5 ∧ (pp_od P v s u l m).2 = 2 ^ r) → tn_A Γ 38 [.ref 2, .int v, .int a, .int (nI u), .int (nI l), .int (nI s)] [] 0 0 ks ρ σ := by
  intro m
  have h32 := p2_le hw.2.1
  induction m with
  | zero =>
    intro s u l hs hu hl h hx
    refine k_X5_odds_38 hG hΓ hK _ _ _ _ _ (q_setCount hG pb3 hR ?_)
    rw [hw.1, sc_nI hw.2.1]
    refine ⟨fun _ => ?_, fun q => ?_⟩
    · obtain ⟨r, hr, e⟩ := hx
      have h' := h r hr e
      have e' : l = 2 ^ r := e
      rw [e']
      exact h'
    · rw [nI_leI (by omega) (by omega)] at q; omega
  | succ m ih =>
    intro s u l hs hu hl h hx
    refine k_X5_odds_38 hG hΓ hK _ _ _ _ _ (q_setCount hG pb3 hR ?_)
    rw [hw.1, sc_nI hw.2.1]
    unfold pp_od at h hx
    refine ⟨fun q => ?_, fun _ => q_doesSetRankle hG pb3 hR hw (bz (fun q x ex => ?_) (fun q y ey => q_weightOfSet hG pb3 hR hw ⟨fun q2 x ex w ew => ?_, fun q2 x ex w ew => ?_⟩))⟩
    · rw [nI_leI (by omega) (by omega)] at q; omega
    · rw [nI_1] at ex; subst ex
      rw [if_neg (by rw [q]; decide)] at h hx
      exact ih (s + 1) u l (by omega) (by omega) (by omega) h hx
    · rw [nI_1] at ew ey; subst ew; subst ey
      rw [if_pos q, if_pos q2] at h hx
      rw [Int32.add_zero] at ex
      subst ex
      exact ih (s + 1) u (l + 1) (by omega) (by omega) (by omega) h hx
    · rw [nI_1] at ew ey ex; subst ew; subst ey; subst ex
      rw [if_pos q, if_neg q2] at h hx
      exact ih (s + 1) (u + 1) (l + 1) (by omega) (by omega) (by omega) h hx
theorem l6_odds (hG : tn_Gd ks ρ) {K : Option Value → List (Nat × Nat) → (Nat → Nat → Nat) → (Nat → Nat → Int32) → Prop} (hΓ : tn_is Γ m_X6_odds) (hK : tn_rt Γ m_X6_odds K) (hR : rm_P σ P) (hw : pp_w P) {v a : Int32} : ∀ m s u l, s + m = 2 ^ pp_n P → u ≤ s → l ≤ s → tn_CL m_X6_inLeastTerms [.long (lN (pp_od P v s u l m).1), .long (lN (pp_od P v s u l m).2), .int a] ks ρ σ (fun r1 σ1 => K (some (.long r1)) ks ρ σ1) → tn_A Γ 44 [.ref 39, .int v, .int a, .int (pp_rs P), .int (nI l), .int (nI u), .int (nI s)] [] 0 0 ks ρ σ := by
  intro m
  have h32 := p2_le hw.2.1
  induction m with
  | zero =>
    intro s u l hs hu hl h
    refine k_X6_odds_44 hG hΓ hK _ _ _ _ _ _ ?_
    rw [hR.1, hw.1, sc_nI hw.2.1]
    refine ⟨fun _ => ?_, fun q => ?_⟩
    · rw [nI_l (by omega), nI_l (by omega)]; exact h
    · rw [nI_leI (by omega) (by omega)] at q; omega
  | succ m ih =>
    intro s u l hs hu hl h
    refine k_X6_odds_44 hG hΓ hK _ _ _ _ _ _ ?_
    rw [hR.1, hw.1, sc_nI hw.2.1, dr_iff]
    unfold pp_od at h
    refine ⟨fun q => ?_, fun _ => ⟨fun q x ex => ?_, fun q y ey => q6_weightOfSet hG hR hw ⟨fun q2 x ex w ew => ?_, fun q2 x ex w ew => ?_⟩⟩⟩
    · rw [nI_leI (by omega) (by omega)] at q; omega
    · rw [nI_1] at ex; subst ex
      rw [if_neg q] at h
      exact ih (s + 1) u l (by omega) (by omega) (by omega) h
    · rw [nI_1] at ew ey; subst ew; subst ey
      rw [if_pos q, if_pos q2] at h
      rw [Int32.add_zero] at ex
      subst ex
      exact ih (s + 1) u (l + 1) (by omega) (by omega) (by omega) h
    · rw [nI_1] at ew ey ex; subst ew; subst ey; subst ex
      rw [if_pos q, if_neg q2] at h
      exact ih (s + 1) (u + 1) (l + 1) (by omega) (by omega) (by omega) h
theorem op_odds (hG : tn_Gd ks ρ) (hL : ro_L σ) {a b : Int32} {K : Int64 → Int64 → (Nat → Nat → Int32) → Prop} (h : ∀ r σ', ro_L σ' → K r r σ') : tn_CL m_X5_odds [.ref 2, .int a, .int b] ks ρ σ (fun r1 σ1 => tn_CL m_X6_odds [.ref 39, .int a, .int b] ks ρ σ1 (fun r2 σ2 => K r1 r2 σ2)) := by
  obtain ⟨P, hw, hc, hm, ho⟩ := id hL
  refine tn_iL mv_X5_odds (Nat.le_of_ble_eq_true rfl) (fun Γ hΓ hK => k_X5_odds_0 hG hΓ hK a b ?_)
  refine q5_within hG (bz (fun q => ?_) (fun q => q5_within hG (bz (fun q1 => ?_) (fun q1 => q5_hasParish hG hc hw (bn (fun q2 => ?_) (fun q2 => ?_))))))
  · simp only [tn_kl]
    refine tn_iL mv_X6_odds (Nat.le_of_ble_eq_true rfl) (fun Γ hΓ hK => k_X6_odds_0 hG hΓ hK _ _ ?_)
    simp only [tn_kl]
    refine q6_within hG ?_
    rw [q]
    exact ⟨fun _ => h _ _ hL, fun z => absurd rfl z⟩
  · simp only [tn_kl]
    refine tn_iL mv_X6_odds (Nat.le_of_ble_eq_true rfl) (fun Γ hΓ hK => k_X6_odds_0 hG hΓ hK _ _ ?_)
    simp only [tn_kl]
    refine q6_within hG ?_
    rw [q]
    refine ⟨fun z => absurd z (by decide), fun _ => q6_within hG ?_⟩
    rw [q1]
    exact ⟨fun _ => h _ _ hL, fun z => absurd rfl z⟩
  · have h0 : 0 < pp_n P := of_decide_eq_true q2
    have h32 := p2_le hw.2.1
    obtain ⟨j, hj, ej⟩ := od_rs (P := P) (pp_n P) hw.2.1
    have el := od_l (P := P) (v := a) (j := j) ej (2 ^ pp_n P) 0 0 0
    have hu := od_u (P := P) (v := a) (2 ^ pp_n P) 0 0 0 (by omega)
    have hr : ∃ r, r ≤ 5 ∧ (pp_od P a 0 0 0 (2 ^ pp_n P)).2 = 2 ^ r := by
      rw [el]
      rcases od_cp (pp_n P) (by have := hw.2.1; omega) j (by omega) hj with e | e | e | e | e | e
      · exact ⟨0, by omega, e⟩
      · exact ⟨1, by omega, e⟩
      · exact ⟨2, by omega, e⟩
      · exact ⟨3, by omega, e⟩
      · exact ⟨4, by omega, e⟩
      · exact ⟨5, by omega, e⟩
    have go : tn_A Γ 38 [.ref 2, .int a, .int b, .int (nI 0), .int (nI 0), .int (nI 0)] [] 0 0 ks ρ σ := by
      refine l5_odds hG hΓ hK hc hw (2 ^ pp_n P) 0 0 0 (by omega) (by omega) (by omega) (fun r hr5 e => ?_) hr
      have hg := od_g r (by omega) (pp_od P a 0 0 0 (2 ^ pp_n P)).1 (by omega) (by omega)
      refine l5_half hG hΓ hK r _ hr5 (by omega) ?_
      rw [hg.1, hg.2, ← e, tn_kl]
      refine tn_iL mv_X6_odds (Nat.le_of_ble_eq_true rfl) (fun Γ hΓ hK => k_X6_odds_0 hG hΓ hK _ _ ?_)
      refine q6_within hG ?_
      rw [q]
      refine ⟨fun z => absurd z (by decide), fun _ => q6_within hG ?_⟩
      rw [q1]
      refine ⟨fun z => absurd z (by decide), fun _ => ⟨fun _ => q6_whoRankle hG hm hw ?_, fun z => absurd ((rm_n0 hm hw).mp z) (by omega)⟩⟩
      have go2 : tn_A Γ 44 [.ref 39, .int a, .int b, .int (pp_rs P), .int (nI 0), .int (nI 0), .int (nI 0)] [] 0 0 ks ρ σ := by
        refine l6_odds hG hΓ hK hm hw (2 ^ pp_n P) 0 0 0 (by omega) (by omega) (by omega) ?_
        refine tn_iL mv_X6_inLeastTerms (Nat.le_of_ble_eq_true rfl) (fun Γ hΓ hK => k_X6_inLeastTerms_0 hG hΓ hK _ _ _ ?_)
        have hp : 0 < 2 ^ r := Nat.pow_pos (by omega)
        refine l6_gcd hG hΓ hK (by omega) (by omega) (by omega) ?_ _ _ _ (Nat.le_refl _) (by omega) (by omega) rfl
        rw [tn_kl, tn_kl]
        exact h _ _ hL
      rw [nI_0] at go2
      exact go2
    rw [nI_0] at go
    exact go
  · have q3 := of_decide_eq_false q2
    simp only [tn_kl]
    refine tn_iL mv_X6_odds (Nat.le_of_ble_eq_true rfl) (fun Γ hΓ hK => k_X6_odds_0 hG hΓ hK _ _ ?_)
    simp only [tn_kl]
    refine q6_within hG ?_
    rw [q]
    refine ⟨fun z => absurd z (by decide), fun _ => q6_within hG ?_⟩
    rw [q1]
    exact ⟨fun z => absurd z (by decide), fun _ => ⟨fun z => absurd ((rm_n0 hm hw).mpr (by omega)) z, fun _ => h _ _ hL⟩⟩
end QC
