/-! ===== a text: the model's reading ===== -/
section PX
variable {f : Nat → Int32} {m j d h s : Nat} {w : Int32} {R G : Nat → Int32}
theorem tx_no (h6 : d ≠ 6) (h8 : d ≠ 8) (hc : m = 0 ∨ (stp d h s w R G (f j)).1 = false) : (tx f m j (d, h, s, w, R, G)).1 = nI j := by
  cases m with
  | zero =>
    unfold tx
    rw [if_neg (by intro z; rcases z with z | z; exact h6 z; exact h8 z)]
  | succ m =>
    rcases hc with hc | hc
    · exact absurd hc (by omega)
    · unfold tx
      rw [if_neg (by show ¬ (stp d h s w R G (f j)).1 = true; rw [hc]; decide)]
theorem tx_no1 (hc : (stp d h s w R G (f j)).1 = false) : (tx f (m + 1) j (d, h, s, w, R, G)).1 = nI j := by
  unfold tx
  rw [if_neg (by show ¬ (stp d h s w R G (f j)).1 = true; rw [hc]; decide)]
theorem tx_go {S : tx_T} (hc : stp d h s w R G (f j) = (true, S)) : tx f (m + 1) j (d, h, s, w, R, G) = tx f m (j + 1) S := by
  rw [tx]
  show (if (stp d h s w R G (f j)).1 = true then tx f m (j + 1) (stp d h s w R G (f j)).2 else _) = _
  rw [hc, if_pos rfl]
theorem tx_end (hd : d = 6 ∨ d = 8) : tx f 0 j (d, h, s, w, R, G) = (-9, mkD h s w R G) := by
  rw [tx]
  exact if_pos hd
end PX
def mr (F : Nat) (σ : Nat → Nat → Int32) (j h s : Nat) (w : Int32) (R G : Nat → Int32) : Prop := σ 39 18 = nI (F + j) ∧ σ 39 19 = nI h ∧ σ 39 20 = nI s ∧ σ 39 21 = w ∧ σ 48 = R ∧ σ 49 = G ∧ h ≤ 5 ∧ s ≤ 4
def mr_f (σ σ' : Nat → Nat → Int32) : Prop := ∀ c k, c ≠ 48 → c ≠ 49 → ¬ (c = 39 ∧ 18 ≤ k ∧ k ≤ 21) → σ' c k = σ c k
theorem mr_f.rf {σ : Nat → Nat → Int32} : mr_f σ σ := fun _ _ _ _ _ => rfl
theorem mr_f.tr {σ σ1 σ2 : Nat → Nat → Int32} (h1 : mr_f σ σ1) (h2 : mr_f σ1 σ2) : mr_f σ σ2 := fun c k a b e => (h2 c k a b e).trans (h1 c k a b e)
theorem mr_f.u {σ : Nat → Nat → Int32} {c k : Nat} {x : Int32} (h : c = 48 ∨ c = 49 ∨ (c = 39 ∧ 18 ≤ k ∧ k ≤ 21)) : mr_f σ (tn_u σ c k x) := fun c' k' a b e => tn_u_n (by omega)
theorem mr_f.v {σ σ' : Nat → Nat → Int32} {c k : Nat} {x : Int32} (e : σ' = tn_u σ c k x) (h : c = 48 ∨ c = 49 ∨ (c = 39 ∧ 18 ≤ k ∧ k ≤ 21)) : mr_f σ σ' := by
  subst e
  exact mr_f.u h
theorem tn_u_r {σ : Nat → Nat → Int32} {c k : Nat} {x : Int32} : tn_u σ c k x c = upd (σ c) k x := by
  funext j
  by_cases e : j = k
  · subst e; rw [tn_u_s, pk_us]
  · rw [tn_u_n (Or.inr e), pk_un e]
theorem tn_u_w {σ : Nat → Nat → Int32} {c k c' : Nat} {x : Int32} (h : c' ≠ c) : tn_u σ c k x c' = σ c' := funext fun j => tn_u_n (Or.inl h)
theorem dg {c : Int32} {a : Nat} (ha : a ≤ 9) (h : iw c (nI (48 + a)) 57 = true) : ∃ q, a ≤ q ∧ q ≤ 9 ∧ c - 48 = nI q := by
  obtain ⟨j, h1, h2, e⟩ := iw_nI (n := 48 + a) (m := 57) rfl (by decide) (by omega) (by omega) h
  refine ⟨j - 48, by omega, by omega, ?_⟩
  rw [e, show (48 : Int32) = nI 48 by decide, pk_sub (by omega)]
theorem dg0 {c : Int32} (h : iw c 48 57 = true) : ∃ q, q ≤ 9 ∧ c - 48 = nI q := by
  obtain ⟨q, _, h2, e⟩ := dg (a := 0) (by omega) (by rw [show nI (48 + 0) = (48 : Int32) by decide]; exact h)
  exact ⟨q, h2, e⟩
theorem dg1 {c : Int32} (h : iw c 49 57 = true) : ∃ q, 1 ≤ q ∧ q ≤ 9 ∧ c - 48 = nI q := dg (a := 1) (by omega) (by rw [show nI (48 + 1) = (49 : Int32) by decide]; exact h)
theorem dg4 {c : Int32} (h : iw c 49 52 = true) : ∃ q, 1 ≤ q ∧ q ≤ 4 ∧ c - 48 = nI q := by
  obtain ⟨j, h1, h2, e⟩ := iw_nI (n := 49) (m := 52) (by decide) (by decide) (by omega) (by omega) h
  refine ⟨j - 48, by omega, by omega, ?_⟩
  rw [e, show (48 : Int32) = nI 48 by decide, pk_sub (by omega)]
theorem kol_3 {c : Int32} (h : ¬ kol c = -9) : kol c = 0 ∨ kol c = 1 ∨ kol c = 2 := by
  unfold kol at h ⊢
  by_cases q1 : c = 98
  · rw [if_pos q1]; simp
  · rw [if_neg q1] at h ⊢
    by_cases q2 : c = 100
    · rw [if_pos q2]; simp
    · rw [if_neg q2] at h ⊢
      by_cases q3 : c = 112
      · rw [if_pos q3]; simp
      · rw [if_neg q3] at h
        exact absurd rfl h
section QU
variable {ks : List (Nat × Nat)} {ρ : Nat → Nat → Nat} {σ : Nat → Nat → Int32} {Γ : tn_G} {f : Nat → Int32} {F n j m h s : Nat} {w : Int32} {R G : Nat → Int32} {T : Int32 × pp_T}
theorem q6_sign (hG : tn_Gd ks ρ) (hFn : F + n ≤ 240) (hj : j ≤ n) (hf : ∀ x, x < n → σ 42 (F + x) = f x) (ha : σ 39 18 = nI (F + j)) {c : Int32} {K : Int32 → (Nat → Nat → Int32) → Prop} (h0 : (j = n ∨ j < n ∧ ¬ f j = c) → K 0 σ) (h1 : j < n → f j = c → K 1 (tn_u σ 39 18 (nI (F + (j + 1))))) : tn_CI m_X6_isSign [.ref 39, .int (nI (F + n)), .int c] ks ρ σ K := by
  refine tn_iI mv_X6_isSign (Nat.le_of_ble_eq_true rfl) (fun Γ hΓ hK => k_X6_isSign_0 hG hΓ hK _ c ?_)
  simp only [tn_ki]
  rw [ha, nI_leI (by omega) (by omega), nI_cl (by omega), nI_1]
  refine ⟨fun z => h0 (by omega), fun z => ⟨vp_in_nI (by omega) (by omega), ?_⟩⟩
  rw [hf j (by omega)]
  exact ⟨fun z2 σ1 e1 => by rw [e1]; exact h1 (by omega) z2, fun z2 => h0 (Or.inr ⟨by omega, z2⟩)⟩
theorem q6_digit (hG : tn_Gd ks ρ) (hFn : F + n ≤ 240) (hj : j ≤ n) (hf : ∀ x, x < n → σ 42 (F + x) = f x) (ha : σ 39 18 = nI (F + j)) {a b a' b' : Int32} (ea : 48 + a = a') (eb : 48 + b = b') {K : Int32 → (Nat → Nat → Int32) → Prop} (h0 : (j = n ∨ j < n ∧ iw (f j) a' b' = false) → K (-9) σ) (h1 : j < n → iw (f j) a' b' = true → K (f j - 48) (tn_u σ 39 18 (nI (F + (j + 1))))) : tn_CI m_X6_digit [.ref 39, .int (nI (F + n)), .int a, .int b] ks ρ σ K := by
  refine tn_iI mv_X6_digit (Nat.le_of_ble_eq_true rfl) (fun Γ hΓ hK => k_X6_digit_0 hG hΓ hK _ a b ?_)
  simp only [tn_ki]
  rw [ha, nI_leI (by omega) (by omega), nI_cl (by omega), ea, eb]
  refine ⟨fun z => h0 (by omega), fun z => ⟨vp_in_nI (by omega) (by omega), ?_⟩⟩
  rw [hf j (by omega)]
  refine q6_within hG (bn (fun q σ2 e2 => ?_) (fun q => h0 (Or.inr ⟨by omega, q⟩)))
  rw [ha, nI_1] at e2
  have e18 : σ2 39 18 - 1 = nI (F + j) := by rw [e2, tn_u_s, show (1 : Int32) = nI 1 by decide, pk_sub (by omega)]; congr 1
  rw [e18, nI_cl (by omega)]
  refine ⟨vp_in_nI (by omega) (by omega), ?_⟩
  rw [show σ2 42 (F + j) = f j by rw [e2, tn_u_n (by omega)]; exact hf j (by omega), e2]
  exact h1 (by omega) q
theorem kol_e (c : Int32) {A : Int32 → Prop} (h : A (kol c)) : (¬ c = 112 → ((¬ c = 98 → ((¬ c = 100 → A (-9)) ∧ (c = 100 → A 2))) ∧ (c = 98 → A 1))) ∧ (c = 112 → A 0) := by
  unfold kol at h
  refine ⟨fun z => ⟨fun z2 => ⟨fun z3 => ?_, fun z3 => ?_⟩, fun z2 => ?_⟩, fun z => ?_⟩
  · rw [if_neg z2, if_neg z3, if_neg z] at h; exact h
  · rw [if_neg z2, if_pos z3] at h; exact h
  · rw [if_pos z2] at h; exact h
  · rw [if_neg (by rw [z]; decide), if_neg (by rw [z]; decide), if_pos z] at h; exact h
theorem q6_house (hG : tn_Gd ks ρ) (hFn : F + n ≤ 240) (hjm : j + m = n) (hf : ∀ x, x < n → σ 42 (F + x) = f x) (hM : mr F σ j h s w R G) (h5 : h < 5) (hT : tx f m j (3, h, s, w, R, G) = T) {K : Int32 → (Nat → Nat → Int32) → Prop} (hF : ∀ σ' j', mr_f σ σ' → σ' 39 18 = nI (F + j') → j' ≤ n → T.1 = nI j' → K 0 σ') (hS : ∀ σ' m' R', mr_f σ σ' → mr F σ' (j + 3) (h + 1) s w R' G → j + 3 + m' = n → tx f m' (j + 3) (6, h + 1, s, w, R', G) = T → K 1 σ') : tn_CI m_X6_readHouse [.ref 39, .int (nI (F + n))] ks ρ σ K := by
  obtain ⟨a18, a19, a20, a21, a48, a49, _, hs4⟩ := id hM
  refine tn_iI mv_X6_readHouse (Nat.le_of_ble_eq_true rfl) (fun Γ hΓ hK => k_X6_readHouse_0 hG hΓ hK _ ?_)
  rw [a18, nI_leI (by omega) (by omega), nI_cl (by omega)]
  -- behind the letter
  have s21 : ∀ c : Int32, (kol c = -9 → T.1 = nI j) → (¬ kol c = -9 → j < n ∧ f j = c) → tn_A Γ 21 [.ref 39, .int (nI (F + n)), .null, .null] [.int c] 0 0 ks ρ σ := by
    intro c hc1 hc2
    refine k_X6_readHouse_21 hG hΓ hK _ _ (fun x ex => ?_)
    have ex' : x = nI (3 * h) := by rw [ex, a19, show (3 : Int32) = nI 3 by decide, pk_mul]
    subst ex'
    refine kol_e c (A := fun y => tn_A Γ 66 [.ref 39, .int (nI (F + n)), .null, .int (nI (3 * h))] [.int y, .int (nI (3 * h)), .ref 48] 0 0 ks ρ σ) ?_
    refine k_X6_readHouse_66 hG hΓ hK _ _ _ _ ?_
    rw [nI_cl (by omega)]
    refine ⟨vp_in_nI (by omega) (by omega), fun σ1 e1 => ⟨vp_in_nI (by omega) (by omega), ?_⟩⟩
    simp only [tn_ki]
    have f1 : mr_f σ σ1 := by rw [e1]; exact mr_f.u (Or.inl rfl)
    have r1 : σ1 48 (3 * h) = kol c := by rw [e1, tn_u_s]
    have b18 : σ1 39 18 = nI (F + j) := by rw [e1, tn_u_n (by omega)]; exact a18
    rw [r1, b18, nI_1]
    refine ⟨fun z σ2 e2 => ?_, fun z => hF σ1 j f1 b18 (by omega) (hc1 z)⟩
    obtain ⟨hjn, hfj⟩ := hc2 z
    obtain ⟨m1, rfl⟩ : ∃ m1, m = m1 + 1 := ⟨m - 1, by omega⟩
    have g1 : stp 3 h s w R G (f j) = (true, 4, h, s, w, upd R (3 * h) (kol c), G) := by
      rw [hfj]
      show (!decide (kol c = -9), 4, h, s, w, upd R (3 * h) (kol c), G) = _
      rw [decide_eq_false z]; rfl
    rw [tx_go g1] at hT
    have f2 : mr_f σ σ2 := f1.tr (mr_f.v e2 (by omega))
    have w48 : σ2 48 = upd R (3 * h) (kol c) := by rw [e2, tn_u_w (by decide), e1, tn_u_r, a48]
    have w18 : σ2 39 18 = nI (F + (j + 1)) := by rw [e2, tn_u_s]; rfl
    have o2 : ∀ k, k ≠ 18 → σ2 39 k = σ 39 k := fun k hk => by rw [e2, tn_u_n (Or.inr hk), e1, tn_u_n (by omega)]
    have c49 : σ2 49 = G := by rw [e2, tn_u_w (by decide), e1, tn_u_w (by decide)]; exact a49
    have hf2 : ∀ x, x < n → σ2 42 (F + x) = f x := fun x hx => by rw [f2 42 _ (by omega) (by omega) (by omega)]; exact hf x hx
    have t1 : nI (3 * h) + (1 : Int32) = nI (3 * h + 1) := nI_1 _
    have t2 : nI (3 * h) + (2 : Int32) = nI (3 * h + 2) := by rw [show (2 : Int32) = nI 2 by decide, nI_add]
    rw [t1, t2, nI_cl (by omega), nI_cl (by omega)]
    refine q6_digit hG hFn (j := j + 1) (by omega) hf2 w18 (a' := 48) (b' := 57) (by decide) (by decide) (fun q => ?_) (fun hlt q => ?_)
    · refine ⟨vp_in_nI (by omega) (by omega), fun σ3 e3 => ⟨fun z2 => absurd (by rw [e3, tn_u_s]) z2, fun _ => hF σ3 (j + 1) (f2.tr (mr_f.v e3 (Or.inl rfl))) (by rw [e3, tn_u_n (by omega)]; exact w18) (by omega) ?_⟩⟩
      rw [← hT]
      refine tx_no (by decide) (by decide) ?_
      rcases q with q | q
      · left; omega
      · right; exact q.2
    · obtain ⟨m2, rfl⟩ : ∃ m2, m1 = m2 + 1 := ⟨m1 - 1, by omega⟩
      have g2 : stp 4 h s w (upd R (3 * h) (kol c)) G (f (j + 1)) = (true, 5, h, s, w, upd (upd R (3 * h) (kol c)) (3 * h + 1) (f (j + 1) - 48), G) := by
        show (iw (f (j + 1)) 48 57, 5, h, s, w, upd (upd R (3 * h) (kol c)) (3 * h + 1) (f (j + 1) - 48), G) = _
        rw [q]
      rw [tx_go g2] at hT
      refine ⟨vp_in_nI (by omega) (by omega), fun σ4 e4 => ?_⟩
      obtain ⟨u, hu, eu⟩ := dg0 q
      have r4 : σ4 48 (3 * h + 1) = f (j + 1) - 48 := by rw [e4, tn_u_s]
      rw [r4, eu]
      refine ⟨fun _ => ?_, fun z2 => absurd z2 (nI_ne9 (by omega))⟩
      have f4 : mr_f σ σ4 := (f2.tr (mr_f.u (c := 39) (k := 18) (x := nI (F + (j + 1 + 1))) (by omega))).tr (mr_f.v e4 (Or.inl rfl))
      have w48' : σ4 48 = upd (upd R (3 * h) (kol c)) (3 * h + 1) (f (j + 1) - 48) := by rw [e4, tn_u_r, tn_u_w (by decide), w48]
      have w18' : σ4 39 18 = nI (F + (j + 1 + 1)) := by rw [e4, tn_u_n (by omega), tn_u_s]
      have o4 : ∀ k, k ≠ 18 → σ4 39 k = σ 39 k := fun k hk => by rw [e4, tn_u_n (by omega), tn_u_n (Or.inr hk), o2 k hk]
      have c49' : σ4 49 = G := by rw [e4, tn_u_w (by decide), tn_u_w (by decide)]; exact c49
      have hf4 : ∀ x, x < n → σ4 42 (F + x) = f x := fun x hx => by rw [f4 42 _ (by omega) (by omega) (by omega)]; exact hf x hx
      refine q6_digit hG hFn (j := j + 1 + 1) (by omega) hf4 w18' (a' := 48) (b' := 57) (by decide) (by decide) (fun q2 => ?_) (fun hlt2 q2 => ?_)
      · refine ⟨vp_in_nI (by omega) (by omega), fun σ5 e5 σ6 e6 => ⟨fun _ => hF σ6 (j + 1 + 1) ((f4.tr (mr_f.v e5 (Or.inl rfl))).tr (mr_f.v e6 (by omega))) (by rw [e6, tn_u_n (by omega), e5, tn_u_n (by omega)]; exact w18') (by omega) ?_, fun z2 => absurd (by rw [e6, tn_u_n (by omega), e5, tn_u_s]) z2⟩⟩
        rw [← hT]
        refine tx_no (by decide) (by decide) ?_
        rcases q2 with q2 | q2
        · left; omega
        · right; exact q2.2
      · obtain ⟨m3, rfl⟩ : ∃ m3, m2 = m3 + 1 := ⟨m2 - 1, by omega⟩
        have g3 : stp 5 h s w (upd (upd R (3 * h) (kol c)) (3 * h + 1) (f (j + 1) - 48)) G (f (j + 1 + 1)) = (true, 6, h + 1, s, w, upd (upd (upd R (3 * h) (kol c)) (3 * h + 1) (f (j + 1) - 48)) (3 * h + 2) (f (j + 1 + 1) - 48), G) := by
          show (iw (f (j + 1 + 1)) 48 57, 6, h + 1, s, w, upd (upd (upd R (3 * h) (kol c)) (3 * h + 1) (f (j + 1) - 48)) (3 * h + 2) (f (j + 1 + 1) - 48), G) = _
          rw [q2]
        rw [tx_go g3] at hT
        refine ⟨vp_in_nI (by omega) (by omega), fun σ5 e5 σ6 e6 => ?_⟩
        obtain ⟨u2, hu2, eu2⟩ := dg0 q2
        have r6 : σ6 48 (3 * h + 2) = f (j + 1 + 1) - 48 := by rw [e6, tn_u_n (by omega), e5, tn_u_s]
        rw [r6, eu2]
        refine ⟨fun z2 => absurd z2 (nI_ne9 (by omega)), fun _ => hS σ6 m3 _ (((f4.tr (mr_f.u (c := 39) (k := 18) (x := nI (F + (j + 1 + 1 + 1))) (by omega))).tr (mr_f.v e5 (Or.inl rfl))).tr (mr_f.v e6 (by omega))) ?_ (by omega) hT⟩
        have o5 : ∀ k, k ≠ 18 → σ5 39 k = σ 39 k := fun k hk => by rw [e5, tn_u_n (by omega), tn_u_n (Or.inr hk), o4 k hk]
        refine ⟨?_, ?_, ?_, ?_, ?_, ?_, by omega, hs4⟩
        · rw [e6, tn_u_n (by omega), e5, tn_u_n (by omega), tn_u_s]
        · rw [e6, tn_u_s, o5 19 (by omega), a19, nI_1]
        · rw [e6, tn_u_n (by omega), o5 20 (by omega)]; exact a20
        · rw [e6, tn_u_n (by omega), o5 21 (by omega)]; exact a21
        · rw [e6, tn_u_w (by decide), e5, tn_u_r, tn_u_w (by decide), w48']
        · rw [e6, tn_u_w (by decide), e5, tn_u_w (by decide), tn_u_w (by decide)]; exact c49'
  refine ⟨fun z => ?_, fun z => ⟨vp_in_nI (by omega) (by omega), ?_⟩⟩
  · have hm0 : m = 0 := by omega
    refine s21 0 (fun _ => ?_) (fun z2 => absurd (by decide) z2)
    rw [← hT]
    exact tx_no (by decide) (by decide) (Or.inl hm0)
  · rw [hf j (by omega)]
    refine s21 (f j) (fun z2 => ?_) (fun _ => ⟨by omega, rfl⟩)
    rw [← hT]
    refine tx_no (by decide) (by decide) (Or.inr ?_)
    show (!decide (kol (f j) = -9)) = false
    rw [decide_eq_true z2]; rfl
theorem l6_stones (hG : tn_Gd ks ρ) {K : Option Value → List (Nat × Nat) → (Nat → Nat → Nat) → (Nat → Nat → Int32) → Prop} (hΓ : tn_is Γ m_X6_readStonesAll) (hK : tn_rt Γ m_X6_readStonesAll K) (hFn : F + n ≤ 240) {σ0 : Nat → Nat → Int32} (hf0 : ∀ x, x < n → σ0 42 (F + x) = f x) (hF : ∀ σ' j', mr_f σ0 σ' → σ' 39 18 = nI (F + j') → j' ≤ n → T.1 = nI j' → K (some (.int 0)) ks ρ σ') (hS : ∀ σ' s' G', mr_f σ0 σ' → mr F σ' n h s' w R G' → T = (-9, mkD h s' w R G') → K (some (.int 1)) ks ρ σ') : ∀ q s j m G (σ : Nat → Nat → Int32), s + q = 4 → j + m = n → mr_f σ0 σ → mr F σ j h s w R G → tx f m j (if s = 0 then 7 else 8, h, s, w, R, G) = T → tn_A Γ 12 [.ref 39, .int (nI (F + n))] [] 0 0 ks ρ σ := by
  intro q
  induction q with
  | zero =>
    intro s j m G σ hs hjm hf hM hT
    obtain ⟨a18, a19, a20, a21, a48, a49, h5, hs4⟩ := id hM
    rw [if_neg (by omega)] at hT
    refine k_X6_readStonesAll_12 hG hΓ hK _ ⟨fun z => ?_, fun _ => ⟨fun _ => ⟨fun z => ?_, fun z => ?_⟩, fun z => ?_⟩⟩
    · rw [a20, ← nI_0, nI_eq (by omega) (by omega)] at z; omega
    · rw [a18, nI_eq (by omega) (by omega)] at z
      refine hF σ j hf a18 (by omega) ?_
      obtain ⟨m1, rfl⟩ : ∃ m1, m = m1 + 1 := ⟨m - 1, by omega⟩
      rw [← hT]
      refine tx_no1 ?_
      show (iw (f j) 49 57 && decide (s < 4)) = false
      rw [decide_eq_false (by omega), Bool.and_false]
    · rw [a18, nI_eq (by omega) (by omega)] at z
      have hm0 : m = 0 := by omega
      have hjn : j = n := by omega
      subst hm0
      rw [hjn] at hM
      refine hS σ s G hf hM ?_
      rw [← hT]
      exact tx_end (Or.inr rfl)
    · rw [a20, show (4 : Int32) = nI 4 by decide, nI_leI (by omega) (by omega)] at z; omega
  | succ q ih =>
    intro s j m G σ hs hjm hf hM hT
    obtain ⟨a18, a19, a20, a21, a48, a49, h5, hs4⟩ := id hM
    have hf1 : ∀ x, x < n → σ 42 (F + x) = f x := fun x hx => by rw [hf 42 _ (by omega) (by omega) (by omega)]; exact hf0 x hx
    have dgt : (s = 0 ∨ j < n) → tn_CI m_X6_digit [.ref 39, .int (nI (F + n)), .int (1 : Int32), .int (9 : Int32)] ks ρ σ (fun r1 σ1 => (vp_in (σ 39 20) 4 ∧ (∀ σ2, σ2 = tn_u σ1 49 (σ 39 20).toNatClampNeg r1 → (vp_in (σ2 39 20) 4 ∧ ((¬ (σ2 49 (σ2 39 20).toNatClampNeg) = (-9 : Int32) → (∀ σ3, σ3 = tn_u σ2 39 20 ((σ2 39 20) + (1 : Int32)) → tn_A Γ 12 [.ref 39, .int (nI (F + n))] [] 0 0 ks ρ σ3)) ∧ ((σ2 49 (σ2 39 20).toNatClampNeg) = (-9 : Int32) → K (some (.int (0 : Int32))) ks ρ σ2)))))) := by
      intro hsj
      rw [a20, nI_cl (by omega)]
      refine q6_digit hG hFn (by omega) hf1 a18 (a' := 49) (b' := 57) (by decide) (by decide) (fun z => ⟨vp_in_nI (by omega) (by omega), fun σ2 e2 => ?_⟩) (fun hlt z => ⟨vp_in_nI (by omega) (by omega), fun σ2 e2 => ?_⟩)
      · have b20 : σ2 39 20 = nI s := by rw [e2, tn_u_n (by omega)]; exact a20
        rw [b20, nI_cl (by omega)]
        refine ⟨vp_in_nI (by omega) (by omega), fun z2 => absurd (by rw [e2, tn_u_s]) z2, fun _ => hF σ2 j (hf.tr (mr_f.v e2 (Or.inr (Or.inl rfl)))) (by rw [e2, tn_u_n (by omega)]; exact a18) (by omega) ?_⟩
        rw [← hT]
        by_cases s0 : s = 0
        · rw [if_pos s0]
          refine tx_no (by decide) (by decide) ?_
          rcases z with z | z
          · left; omega
          · right
            show (iw (f j) 49 57 && decide (s < 4)) = false
            rw [z.2, Bool.false_and]
        · rw [if_neg s0]
          have hjn : j < n := by omega
          obtain ⟨m1, rfl⟩ : ∃ m1, m = m1 + 1 := ⟨m - 1, by omega⟩
          refine tx_no1 ?_
          show (iw (f j) 49 57 && decide (s < 4)) = false
          rcases z with z | z
          · omega
          · rw [z.2, Bool.false_and]
      · have b20 : σ2 39 20 = nI s := by rw [e2, tn_u_n (by omega), tn_u_n (by omega)]; exact a20
        have b49 : σ2 49 s = f j - 48 := by rw [e2, tn_u_s]
        rw [b20, nI_cl (by omega), b49]
        obtain ⟨u, hu1, hu2, eu⟩ := dg1 z
        refine ⟨vp_in_nI (by omega) (by omega), fun _ σ3 e3 => ?_, fun z2 => absurd (eu.symm.trans z2) (nI_ne9 (by omega))⟩
        obtain ⟨m1, rfl⟩ : ∃ m1, m = m1 + 1 := ⟨m - 1, by omega⟩
        have g : stp (if s = 0 then 7 else 8) h s w R G (f j) = (true, 8, h, s + 1, w, R, upd G s (f j - 48)) := by
          have g7 : stp 7 h s w R G (f j) = (iw (f j) 49 57 && decide (s < 4), 8, h, s + 1, w, R, upd G s (f j - 48)) := rfl
          have g8 : stp 8 h s w R G (f j) = (iw (f j) 49 57 && decide (s < 4), 8, h, s + 1, w, R, upd G s (f j - 48)) := rfl
          by_cases s0 : s = 0
          · rw [if_pos s0, g7, z, decide_eq_true (by omega)]; rfl
          · rw [if_neg s0, g8, z, decide_eq_true (by omega)]; rfl
        rw [tx_go g] at hT
        refine ih (s + 1) (j + 1) m1 (upd G s (f j - 48)) σ3 (by omega) (by omega) (((hf.tr (mr_f.u (c := 39) (k := 18) (x := nI (F + (j + 1))) (by omega))).tr (mr_f.v e2 (Or.inr (Or.inl rfl)))).tr (mr_f.v e3 (by omega))) ?_ (by rw [if_neg (by omega)]; exact hT)
        have o2 : ∀ k, k ≠ 18 → σ2 39 k = σ 39 k := fun k hk => by rw [e2, tn_u_n (by omega), tn_u_n (Or.inr hk)]
        refine ⟨?_, ?_, ?_, ?_, ?_, ?_, h5, by omega⟩
        · rw [e3, tn_u_n (by omega), e2, tn_u_n (by omega), tn_u_s]
        · rw [e3, tn_u_n (by omega), o2 19 (by omega)]; exact a19
        · rw [e3, tn_u_s, nI_1]
        · rw [e3, tn_u_n (by omega), o2 21 (by omega)]; exact a21
        · rw [e3, tn_u_w (by decide), e2, tn_u_w (by decide), tn_u_w (by decide)]; exact a48
        · rw [e3, tn_u_w (by decide), e2, tn_u_r, tn_u_w (by decide), a49]
    refine k_X6_readStonesAll_12 hG hΓ hK _ ⟨fun z => ?_, fun z0 => ⟨fun z => ?_, fun _ => ⟨fun z => ?_, fun z => ?_⟩⟩⟩
    · rw [a20, ← nI_0, nI_eq (by omega) (by omega)] at z
      exact dgt (Or.inl z)
    · rw [a20, show (4 : Int32) = nI 4 by decide, nI_leI (by omega) (by omega)] at z; omega
    · rw [a20, ← nI_0, nI_eq (by omega) (by omega)] at z0
      rw [a18, nI_leI (by omega) (by omega)] at z
      have hjn : j = n := by omega
      have hm0 : m = 0 := by omega
      refine ⟨fun z2 => absurd (by rw [a18, hjn]) z2, fun _ => ?_⟩
      subst hm0
      rw [hjn] at hM
      refine hS σ s G hf hM ?_
      rw [← hT, if_neg z0]
      exact tx_end (Or.inr rfl)
    · rw [a18, nI_leI (by omega) (by omega)] at z
      exact dgt (Or.inr (by omega))
end QU
