/-! ===== a text: the model's parish, read and taken ===== -/
section QV
variable {ks : List (Nat × Nat)} {ρ : Nat → Nat → Nat} {σ : Nat → Nat → Int32} {Γ : tn_G} {f : Nat → Int32} {F n j m h s : Nat} {w : Int32} {R G : Nat → Int32} {T : Int32 × pp_T}
theorem q6_stones (hG : tn_Gd ks ρ) (hFn : F + n ≤ 240) (hf : ∀ x, x < n → σ 42 (F + x) = f x) (hjm : j + (m + 1) = n) (hM : mr F σ j h 0 w R G) (hc : h = 5 ∨ ¬ f j = 59) (hT : tx f (m + 1) j (6, h, 0, w, R, G) = T) {K : Int32 → (Nat → Nat → Int32) → Prop} (hF : ∀ σ' j', mr_f σ σ' → σ' 39 18 = nI (F + j') → j' ≤ n → T.1 = nI j' → K 0 σ') (hS : ∀ σ' s' G', mr_f σ σ' → mr F σ' n h s' w R G' → T = (-9, mkD h s' w R G') → K 1 σ') : tn_CI m_X6_readStonesAll [.ref 39, .int (nI (F + n))] ks ρ σ K := by
  obtain ⟨a18, a19, a20, a21, a48, a49, h5, hs4⟩ := id hM
  refine tn_iI mv_X6_readStonesAll (Nat.le_of_ble_eq_true rfl) (fun Γ hΓ hK => k_X6_readStonesAll_0 hG hΓ hK _ ?_)
  have g6 : stp 6 h 0 w R G (f j) = (decide (f j = 33) || (decide (f j = 59) && decide (h < 5)), if f j = 33 then 7 else 3, h, 0, w, R, G) := rfl
  refine q6_sign hG hFn (by omega) hf a18 (fun z => ⟨fun z2 => absurd rfl z2, fun _ => ?_⟩) (fun _ z => ⟨fun _ => ?_, fun z2 => absurd z2 (by decide)⟩)
  · rw [tn_ki]
    refine hF σ j mr_f.rf a18 (by omega) ?_
    have z33 : ¬ f j = 33 := by
      rcases z with z | z
      · omega
      · exact z.2
    rw [← hT]
    refine tx_no1 ?_
    rw [g6]
    show (decide (f j = 33) || (decide (f j = 59) && decide (h < 5))) = false
    rw [decide_eq_false z33]
    rcases hc with hc | hc
    · rw [decide_eq_false (show ¬ h < 5 by omega)]; simp
    · rw [decide_eq_false hc]; rfl
  · have g : stp 6 h 0 w R G (f j) = (true, 7, h, 0, w, R, G) := by
      rw [g6, decide_eq_true z, if_pos z]; rfl
    rw [tx_go g] at hT
    refine l6_stones hG hΓ hK hFn (σ0 := σ) hf (fun σ' j' q1 q2 q3 q4 => by rw [tn_ki]; exact hF σ' j' q1 q2 q3 q4) (fun σ' s' G' q1 q2 q3 => by rw [tn_ki]; exact hS σ' s' G' q1 q2 q3) 4 0 (j + 1) m G _ (by omega) (by omega) (mr_f.u (by omega)) ?_ (by rw [if_pos rfl]; exact hT)
    refine ⟨by rw [tn_u_s], by rw [tn_u_n (by omega)]; exact a19, by rw [tn_u_n (by omega)]; exact a20, by rw [tn_u_n (by omega)]; exact a21, by rw [tn_u_w (by decide)]; exact a48, by rw [tn_u_w (by decide)]; exact a49, h5, hs4⟩
theorem l6_read (hG : tn_Gd ks ρ) {K : Option Value → List (Nat × Nat) → (Nat → Nat → Nat) → (Nat → Nat → Int32) → Prop} (hΓ : tn_is Γ m_X6_readParish) (hK : tn_rt Γ m_X6_readParish K) (hFn : F + n ≤ 240) {σ0 : Nat → Nat → Int32} (hf0 : ∀ x, x < n → σ0 42 (F + x) = f x) (hF : ∀ σ' j', mr_f σ0 σ' → σ' 39 18 = nI (F + j') → j' ≤ n → T.1 = nI j' → K (some (.int 0)) ks ρ σ') (hS : ∀ σ' h' s' R' G', mr_f σ0 σ' → mr F σ' n h' s' w R' G' → T = (-9, mkD h' s' w R' G') → K (some (.int 1)) ks ρ σ') : ∀ q h j m R (σ : Nat → Nat → Int32), h + q = 5 → j + m = n → mr_f σ0 σ → mr F σ j h 0 w R G → tx f m j (if h = 0 then 2 else 6, h, 0, w, R, G) = T → tn_A Γ 44 [.ref 39, .int (nI (F + n))] [] 0 0 ks ρ σ := by
  intro q
  induction q with
  | zero =>
    intro h j m R σ hq hjm hf hM hT
    obtain ⟨a18, a19, a20, a21, a48, a49, h5, hs4⟩ := id hM
    have hf1 : ∀ x, x < n → σ 42 (F + x) = f x := fun x hx => by rw [hf 42 _ (by omega) (by omega) (by omega)]; exact hf0 x hx
    rw [if_neg (by omega)] at hT
    refine k_X6_readParish_44 hG hΓ hK _ ⟨fun z => ?_, fun _ => ⟨fun _ => ⟨fun z => ?_, fun z => ?_⟩, fun z => ?_⟩⟩
    · rw [a19, ← nI_0, nI_eq (by omega) (by omega)] at z; omega
    · rw [a18, nI_eq (by omega) (by omega)] at z
      have hm0 : m = 0 := by omega
      have hjn : j = n := by omega
      subst hm0
      rw [hjn] at hM
      refine hS σ h 0 R G hf hM ?_
      rw [← hT]
      exact tx_end (Or.inl rfl)
    · rw [a18, nI_eq (by omega) (by omega)] at z
      obtain ⟨m1, rfl⟩ : ∃ m1, m = m1 + 1 := ⟨m - 1, by omega⟩
      exact q6_stones hG hFn hf1 hjm hM (Or.inl (by omega)) hT (fun σ' j' q1 q2 q3 q4 => ⟨fun _ => hF σ' j' (hf.tr q1) q2 q3 q4, fun z => absurd rfl z⟩) (fun σ' s' G' q1 q2 q3 => ⟨fun z => absurd z (by decide), fun _ => hS σ' h s' R G' (hf.tr q1) q2 q3⟩)
    · rw [a19, show (5 : Int32) = nI 5 by decide, nI_leI (by omega) (by omega)] at z; omega
  | succ q ih =>
    intro h j m R σ hq hjm hf hM hT
    obtain ⟨a18, a19, a20, a21, a48, a49, h5, hs4⟩ := id hM
    have hf1 : ∀ x, x < n → σ 42 (F + x) = f x := fun x hx => by rw [hf 42 _ (by omega) (by omega) (by omega)]; exact hf0 x hx
    -- behind the sign of a house
    have house : ∀ m1, j + (m1 + 1) = n → tx f m1 (j + 1) (3, h, 0, w, R, G) = T → tn_CI m_X6_readHouse [.ref 39, .int (nI (F + n))] ks ρ (tn_u σ 39 18 (nI (F + (j + 1)))) (fun r2 σ2 => ((¬ r2 = 0 → tn_A Γ 44 [.ref 39, .int (nI (F + n))] [] 0 0 ks ρ σ2) ∧ (r2 = 0 → K (some (.int (0 : Int32))) ks ρ σ2))) := by
      intro m1 hjm1 hT1
      have f1 : mr_f σ (tn_u σ 39 18 (nI (F + (j + 1)))) := mr_f.u (by omega)
      refine q6_house hG hFn (j := j + 1) (m := m1) (by omega) (fun x hx => by rw [tn_u_n (by omega)]; exact hf1 x hx) ⟨by rw [tn_u_s], by rw [tn_u_n (by omega)]; exact a19, by rw [tn_u_n (by omega)]; exact a20, by rw [tn_u_n (by omega)]; exact a21, by rw [tn_u_w (by decide)]; exact a48, by rw [tn_u_w (by decide)]; exact a49, h5, hs4⟩ (by omega) hT1 (fun σ' j' q1 q2 q3 q4 => ⟨fun z => absurd rfl z, fun _ => hF σ' j' ((hf.tr f1).tr q1) q2 q3 q4⟩) (fun σ' m' R' q1 q2 q3 q4 => ⟨fun _ => ?_, fun z => absurd z (by decide)⟩)
      exact ih (h + 1) (j + 1 + 3) m' R' σ' (by omega) (by omega) ((hf.tr f1).tr q1) q2 (by rw [if_neg (by omega)]; exact q4)
    refine k_X6_readParish_44 hG hΓ hK _ ⟨fun z => ?_, fun z0 => ⟨fun z => ?_, fun _ => ⟨fun z => ?_, fun z => ?_⟩⟩⟩
    · rw [a19, ← nI_0, nI_eq (by omega) (by omega)] at z
      rw [if_pos z] at hT
      refine q6_sign hG hFn (by omega) hf1 a18 (fun z2 => ⟨fun _ => hF σ j hf a18 (by omega) ?_, fun z3 => absurd rfl z3⟩) (fun hlt z2 => ⟨fun z3 => absurd z3 (by decide), fun _ => ?_⟩)
      · rw [← hT]
        refine tx_no (by decide) (by decide) ?_
        rcases z2 with z2 | z2
        · left; omega
        · right
          show decide (f j = 59) = false
          exact decide_eq_false z2.2
      · obtain ⟨m1, rfl⟩ : ∃ m1, m = m1 + 1 := ⟨m - 1, by omega⟩
        have g : stp 2 h 0 w R G (f j) = (true, 3, h, 0, w, R, G) := by
          show (decide (f j = 59), 3, h, 0, w, R, G) = _
          rw [decide_eq_true z2]
        rw [tx_go g] at hT
        exact house m1 hjm hT
    · rw [a19, show (5 : Int32) = nI 5 by decide, nI_leI (by omega) (by omega)] at z; omega
    · rw [a19, ← nI_0, nI_eq (by omega) (by omega)] at z0
      rw [a18, nI_leI (by omega) (by omega)] at z
      rw [if_neg z0] at hT
      have hm0 : m = 0 := by omega
      have hjn : j = n := by omega
      subst hm0
      rw [hjn] at hM
      refine ⟨fun _ => hS σ h 0 R G hf hM ?_, fun z2 => absurd (by rw [a18, hjn]) z2⟩
      rw [← hT]
      exact tx_end (Or.inl rfl)
    · rw [a19, ← nI_0, nI_eq (by omega) (by omega)] at z0
      rw [a18, nI_leI (by omega) (by omega)] at z
      rw [if_neg z0] at hT
      obtain ⟨m1, rfl⟩ : ∃ m1, m = m1 + 1 := ⟨m - 1, by omega⟩
      rw [a18, nI_cl (by omega), hf1 j (by omega)]
      refine ⟨vp_in_nI (by omega) (by omega), fun z2 => ⟨fun z3 => ?_, fun _ => ?_⟩, fun z2 => ?_⟩
      · rw [nI_eq (by omega) (by omega)] at z3; omega
      · exact q6_stones hG hFn hf1 hjm hM (Or.inr z2) hT (fun σ' j' q1 q2 q3 q4 => ⟨fun _ => hF σ' j' (hf.tr q1) q2 q3 q4, fun z => absurd rfl z⟩) (fun σ' s' G' q1 q2 q3 => ⟨fun z => absurd z (by decide), fun _ => hS σ' h s' R G' (hf.tr q1) q2 q3⟩)
      · have g : stp 6 h 0 w R G (f j) = (true, 3, h, 0, w, R, G) := by
          have g6 : stp 6 h 0 w R G (f j) = (decide (f j = 33) || (decide (f j = 59) && decide (h < 5)), if f j = 33 then 7 else 3, h, 0, w, R, G) := rfl
          rw [g6, decide_eq_true z2, decide_eq_true (show h < 5 by omega), if_neg (by rw [z2]; decide)]; simp
        rw [tx_go g] at hT
        exact q6_sign hG hFn (by omega) hf1 a18 (fun z3 => by rcases z3 with z3 | z3; omega; exact absurd z2 z3.2) (fun _ _ => ⟨fun z3 => absurd z3 (by decide), fun _ => house m1 hjm hT⟩)
theorem q6_read (hG : tn_Gd ks ρ) (hFn : F + n ≤ 240) (hf : ∀ x, x < n → σ 42 (F + x) = f x) (a18 : σ 39 18 = nI F) (hT : tx f n 0 (0, 0, 0, 0, σ 48, σ 49) = T) {K : Int32 → (Nat → Nat → Int32) → Prop} (hF : ∀ σ' j', mr_f σ σ' → σ' 39 18 = nI (F + j') → j' ≤ n → T.1 = nI j' → K 0 σ') (hS : ∀ σ' h' s' w' R' G', mr_f σ σ' → mr F σ' n h' s' w' R' G' → T = (-9, mkD h' s' w' R' G') → K 1 σ') : tn_CI m_X6_readParish [.ref 39, .int (nI (F + n))] ks ρ σ K := by
  refine tn_iI mv_X6_readParish (Nat.le_of_ble_eq_true rfl) (fun Γ hΓ hK => k_X6_readParish_0 hG hΓ hK _ ?_)
  intro σ1 e1 σ2 e2
  have f2 : mr_f σ σ2 := (mr_f.v e1 (by omega)).tr (mr_f.v e2 (by omega))
  have b18 : σ2 39 18 = nI (F + 0) := by rw [e2, tn_u_n (by omega), e1, tn_u_n (by omega)]; exact a18
  have hf2 : ∀ x, x < n → σ2 42 (F + x) = f x := fun x hx => by rw [f2 42 _ (by omega) (by omega) (by omega)]; exact hf x hx
  refine q6_sign hG hFn (j := 0) (by omega) hf2 b18 (fun z => ⟨fun z2 => absurd rfl z2, fun _ => ?_⟩) (fun hlt z => ⟨fun _ => ?_, fun z2 => absurd z2 (by decide)⟩)
  · rw [tn_ki]
    refine hF σ2 0 f2 b18 (by omega) ?_
    rw [← hT]
    refine tx_no (by decide) (by decide) ?_
    rcases z with z | z
    · left; omega
    · right
      show decide (f 0 = 116) = false
      exact decide_eq_false z.2
  · obtain ⟨n1, en1⟩ : ∃ n1, n = n1 + 1 := ⟨n - 1, by omega⟩
    have g : stp 0 0 0 0 (σ 48) (σ 49) (f 0) = (true, 1, 0, 0, 0, σ 48, σ 49) := by
      show (decide (f 0 = 116), 1, 0, 0, (0 : Int32), σ 48, σ 49) = _
      rw [decide_eq_true z]
    have hT1 : tx f n1 (0 + 1) (1, 0, 0, 0, σ 48, σ 49) = T := by rw [← hT, en1, tx_go g]
    have f3 : mr_f σ (tn_u σ2 39 18 (nI (F + (0 + 1)))) := f2.tr (mr_f.u (by omega))
    refine q6_digit hG hFn (f := f) (j := 0 + 1) (by omega) (fun x hx => by rw [tn_u_n (by omega)]; exact hf2 x hx) tn_u_s (a' := 49) (b' := 52) (by decide) (by decide) (fun z2 σ4 e4 => ?_) (fun hlt2 z2 σ4 e4 => ?_)
    · refine ⟨fun z3 => absurd (by rw [e4, tn_u_s]) z3, fun _ => ?_⟩
      rw [tn_ki]
      refine hF σ4 (0 + 1) (f3.tr (mr_f.v e4 (by omega))) (by rw [e4, tn_u_n (by omega), tn_u_s]) (by omega) ?_
      rw [← hT1]
      refine tx_no (by decide) (by decide) ?_
      rcases z2 with z2 | z2
      · left; omega
      · right; exact z2.2
    · have r4 : σ4 39 21 = f (0 + 1) - 48 := by rw [e4, tn_u_s]
      obtain ⟨u, hu1, hu2, eu⟩ := dg4 z2
      rw [r4]
      refine ⟨fun _ => ?_, fun z3 => absurd (eu.symm.trans z3) (nI_ne9 (by omega))⟩
      obtain ⟨n2, en2⟩ : ∃ n2, n1 = n2 + 1 := ⟨n1 - 1, by omega⟩
      have g1 : stp 1 0 0 0 (σ 48) (σ 49) (f (0 + 1)) = (true, 2, 0, 0, f (0 + 1) - 48, σ 48, σ 49) := by
        show (iw (f (0 + 1)) 49 52, 2, 0, 0, f (0 + 1) - 48, σ 48, σ 49) = _
        rw [z2]
      rw [en2, tx_go g1] at hT1
      have f4 : mr_f σ σ4 := (f3.tr (mr_f.u (c := 39) (k := 18) (x := nI (F + (0 + 1 + 1))) (by omega))).tr (mr_f.v e4 (by omega))
      refine l6_read hG hΓ hK hFn (σ0 := σ) hf (fun σ' j' q1 q2 q3 q4 => by rw [tn_ki]; exact hF σ' j' q1 q2 q3 q4) (fun σ' h' s' R' G' q1 q2 q3 => by rw [tn_ki]; exact hS σ' h' s' _ R' G' q1 q2 q3) 5 0 (0 + 1 + 1) n2 (σ 48) σ4 (by omega) (by omega) f4 ?_ (by rw [if_pos rfl]; exact hT1)
      refine ⟨by rw [e4, tn_u_n (by omega), tn_u_s], ?_, ?_, r4, ?_, ?_, by omega, by omega⟩
      · rw [e4, tn_u_n (by omega), tn_u_n (by omega), tn_u_n (by omega), e2, tn_u_n (by omega), e1, tn_u_s, nI_0]
      · rw [e4, tn_u_n (by omega), tn_u_n (by omega), tn_u_n (by omega), e2, tn_u_s, nI_0]
      · rw [e4, tn_u_w (by decide), tn_u_w (by decide), tn_u_w (by decide), e2, tn_u_w (by decide), e1, tn_u_w (by decide)]
      · rw [e4, tn_u_w (by decide), tn_u_w (by decide), tn_u_w (by decide), e2, tn_u_w (by decide), e1, tn_u_w (by decide)]
/-! the parish taken -/
def tk_f (σ σ' : Nat → Nat → Int32) : Prop := (∀ c k, c ≠ 39 → ¬ (43 ≤ c ∧ c ≤ 47) → σ' c k = σ c k) ∧ ∀ k, (k = 0 ∨ k = 1 ∨ (18 ≤ k ∧ k ≤ 21)) → σ' 39 k = σ 39 k
theorem l6_take2 (hG : tn_Gd ks ρ) {K : Option Value → List (Nat × Nat) → (Nat → Nat → Nat) → (Nat → Nat → Int32) → Prop} (hΓ : tn_is Γ m_X6_takeParish) (hK : tn_rt Γ m_X6_takeParish K) (hs4 : s ≤ 4) {σ0 : Nat → Nat → Int32} (h6 : σ0 39 6 = nI s) (h : ∀ σ' : Nat → Nat → Int32, (∀ c k, ¬ (c = 39 ∧ (8 ≤ k ∧ k ≤ 12 ∨ k = 26)) → c ≠ 47 → σ' c k = σ0 c k) → σ' 39 11 = 0 → σ' 39 12 = 0 → σ' 39 8 = 0 → σ' 39 9 = 0 → σ' 39 10 = 0 → σ' 39 26 = 0 → (∀ i, i < s → σ' 47 i = σ0 49 i) → K none ks ρ σ') : ∀ m i (σ : Nat → Nat → Int32), i + m = s → (∀ c k, c ≠ 47 → σ c k = σ0 c k) → (∀ y, y < i → σ 47 y = σ0 49 y) → tn_A Γ 95 [.ref 39, .int (nI i)] [] 0 0 ks ρ σ := by
  intro m
  induction m with
  | zero =>
    intro i σ hi hf h47
    refine k_X6_takeParish_95 hG hΓ hK _ ⟨fun _ σ1 e1 σ2 e2 σ3 e3 σ4 e4 σ5 e5 σ6 e6 => ?_, fun z => ?_⟩
    · refine h σ6 (fun c k z1 z2 => ?_) ?_ ?_ ?_ ?_ ?_ ?_ (fun y hy => ?_)
      · rw [e6, tn_u_n (by omega), e5, tn_u_n (by omega), e4, tn_u_n (by omega), e3, tn_u_n (by omega), e2, tn_u_n (by omega), e1, tn_u_n (by omega), hf c k z2]
      · rw [e6, tn_u_n (by omega), e5, tn_u_n (by omega), e4, tn_u_n (by omega), e3, tn_u_n (by omega), e2, tn_u_n (by omega), e1, tn_u_s]
      · rw [e6, tn_u_n (by omega), e5, tn_u_n (by omega), e4, tn_u_n (by omega), e3, tn_u_n (by omega), e2, tn_u_s]
      · rw [e6, tn_u_n (by omega), e5, tn_u_n (by omega), e4, tn_u_n (by omega), e3, tn_u_s]
      · rw [e6, tn_u_n (by omega), e5, tn_u_n (by omega), e4, tn_u_s]
      · rw [e6, tn_u_n (by omega), e5, tn_u_s]
      · rw [e6, tn_u_s]
      · rw [e6, tn_u_n (by omega), e5, tn_u_n (by omega), e4, tn_u_n (by omega), e3, tn_u_n (by omega), e2, tn_u_n (by omega), e1, tn_u_n (by omega)]
        exact h47 y (by omega)
    · rw [hf 39 6 (by omega), h6, nI_leI (by omega) (by omega)] at z; omega
  | succ m ih =>
    intro i σ hi hf h47
    refine k_X6_takeParish_95 hG hΓ hK _ ⟨fun z => ?_, fun _ => ?_⟩
    · rw [hf 39 6 (by omega), h6, nI_leI (by omega) (by omega)] at z; omega
    · rw [nI_cl (by omega)]
      refine ⟨vp_in_nI (by omega) (by omega), fun σ1 e1 x ex => ?_⟩
      rw [nI_1] at ex; subst ex
      refine ih (i + 1) σ1 (by omega) (fun c k hc => by rw [e1, tn_u_n (Or.inl hc)]; exact hf c k hc) (fun y hy => ?_)
      by_cases e : y = i
      · subst e; rw [e1, tn_u_s]; exact hf 49 y (by omega)
      · rw [e1, tn_u_n (Or.inr e)]; exact h47 y (by omega)
theorem l6_take1 (hG : tn_Gd ks ρ) {K : Option Value → List (Nat × Nat) → (Nat → Nat → Nat) → (Nat → Nat → Int32) → Prop} (hΓ : tn_is Γ m_X6_takeParish) (hK : tn_rt Γ m_X6_takeParish K) (h5 : h ≤ 5) {σ0 : Nat → Nat → Int32} (h39 : σ0 39 5 = nI h) (hh : ∀ σ' : Nat → Nat → Int32, (∀ c k, ¬ (43 ≤ c ∧ c ≤ 46) → σ' c k = σ0 c k) → (∀ i, i < h → σ' 43 i = σ0 48 (3 * i) ∧ σ' 44 i = σ0 48 (3 * i + 1) ∧ σ' 45 i = σ0 48 (3 * i + 2) ∧ σ' 46 i = 0) → tn_A Γ 95 [.ref 39, .int (0 : Int32)] [] 0 0 ks ρ σ') : ∀ m i (σ : Nat → Nat → Int32), i + m = h → (∀ c k, ¬ (43 ≤ c ∧ c ≤ 46) → σ c k = σ0 c k) → (∀ y, y < i → σ 43 y = σ0 48 (3 * y) ∧ σ 44 y = σ0 48 (3 * y + 1) ∧ σ 45 y = σ0 48 (3 * y + 2) ∧ σ 46 y = 0) → tn_A Γ 26 [.ref 39, .int (nI i)] [] 0 0 ks ρ σ := by
  intro m
  induction m with
  | zero =>
    intro i σ hi hf hd
    refine k_X6_takeParish_26 hG hΓ hK _ ⟨fun _ => hh σ hf (fun y hy => hd y (by omega)), fun z => ?_⟩
    rw [hf 39 5 (by omega), h39, nI_leI (by omega) (by omega)] at z; omega
  | succ m ih =>
    intro i σ hi hf hd
    have t3 : (3 : Int32) * nI i = nI (3 * i) := by rw [show (3 : Int32) = nI 3 by decide, pk_mul]
    have t1 : nI (3 * i) + (1 : Int32) = nI (3 * i + 1) := nI_1 _
    have t2 : nI (3 * i) + (2 : Int32) = nI (3 * i + 2) := by rw [show (2 : Int32) = nI 2 by decide, nI_add]
    refine k_X6_takeParish_26 hG hΓ hK _ ⟨fun z => ?_, fun _ => ?_⟩
    · rw [hf 39 5 (by omega), h39, nI_leI (by omega) (by omega)] at z; omega
    · rw [t3, t1, t2, nI_cl (by omega), nI_cl (by omega), nI_cl (by omega), nI_cl (by omega)]
      refine ⟨vp_in_nI (by omega) (by omega), vp_in_nI (by omega) (by omega), fun σ1 e1 => ⟨vp_in_nI (by omega) (by omega), fun σ2 e2 => ⟨vp_in_nI (by omega) (by omega), fun σ3 e3 σ4 e4 x ex => ?_⟩⟩⟩
      rw [nI_1] at ex; subst ex
      have o : ∀ c k, ¬ (43 ≤ c ∧ c ≤ 46) → σ4 c k = σ c k := fun c k hc => by rw [e4, tn_u_n (by omega), e3, tn_u_n (by omega), e2, tn_u_n (by omega), e1, tn_u_n (by omega)]
      have p1 : ∀ k, σ1 48 k = σ0 48 k := fun k => by rw [e1, tn_u_n (by omega)]; exact hf 48 k (by omega)
      have p2 : ∀ k, σ2 48 k = σ0 48 k := fun k => by rw [e2, tn_u_n (by omega)]; exact p1 k
      refine ih (i + 1) σ4 (by omega) (fun c k hc => (o c k hc).trans (hf c k hc)) (fun y hy => ?_)
      by_cases e : y = i
      · subst e
        refine ⟨?_, ?_, ?_, ?_⟩
        · rw [e4, tn_u_n (by omega), e3, tn_u_n (by omega), e2, tn_u_n (by omega), e1, tn_u_s]; exact hf 48 _ (by omega)
        · rw [e4, tn_u_n (by omega), e3, tn_u_n (by omega), e2, tn_u_s]; exact p1 _
        · rw [e4, tn_u_n (by omega), e3, tn_u_s]; exact p2 _
        · rw [e4, tn_u_s]
      · rw [e4, tn_u_n (by omega), tn_u_n (by omega), tn_u_n (by omega), tn_u_n (by omega), e3, tn_u_n (by omega), tn_u_n (by omega), tn_u_n (by omega), tn_u_n (by omega), e2, tn_u_n (by omega), tn_u_n (by omega), tn_u_n (by omega), tn_u_n (by omega), e1, tn_u_n (by omega), tn_u_n (by omega), tn_u_n (by omega), tn_u_n (by omega)]
        exact hd y (by omega)
theorem hsN_0 {P : pp_T} : ∀ q, (∀ i, i < q → P (3 + i) 3 = 0) → pp_hsN P q = 0
  | 0, _ => rfl
  | q + 1, e => by
    unfold pp_hsN
    rw [hsN_0 q (fun i hi => e i (by omega)), e q (by omega)]
    decide
theorem q6_take (hG : tn_Gd ks ρ) (hM : mr F σ j h s w R G) {K : (Nat → Nat → Int32) → Prop} (hh : ∀ σ', rm_P σ' (mkD h s w R G) → tk_f σ σ' → σ' 39 9 = 0 → σ' 39 26 = 0 → K σ') : tn_CV m_X6_takeParish [.ref 39] ks ρ σ K := by
  obtain ⟨a18, a19, a20, a21, a48, a49, h5, hs4⟩ := id hM
  refine tn_iV mv_X6_takeParish (Nat.le_of_ble_eq_true rfl) (fun Γ hΓ hK => k_X6_takeParish_0 hG hΓ hK ?_)
  intro σ1 e1 σ2 e2 σ3 e3
  have o3 : ∀ c k, ¬ (c = 39 ∧ (k = 5 ∨ k = 6 ∨ k = 7)) → σ3 c k = σ c k := fun c k z => by rw [e3, tn_u_n (by omega), e2, tn_u_n (by omega), e1, tn_u_n (by omega)]
  have b5 : σ3 39 5 = nI h := by rw [e3, tn_u_n (by omega), e2, tn_u_n (by omega), e1, tn_u_s]; exact a19
  have b6 : σ3 39 6 = nI s := by rw [e3, tn_u_n (by omega), e2, tn_u_s, e1, tn_u_n (by omega)]; exact a20
  have b7 : σ3 39 7 = w := by rw [e3, tn_u_s, e2, tn_u_n (by omega), e1, tn_u_n (by omega)]; exact a21
  rw [← nI_0]
  refine l6_take1 hG hΓ hK h5 b5 (fun σ4 f4 d4 => ?_) h 0 σ3 (by omega) (fun _ _ _ => rfl) (fun y hy => by omega)
  have c6 : σ4 39 6 = nI s := (f4 39 6 (by omega)).trans b6
  rw [← nI_0]
  refine l6_take2 hG hΓ hK hs4 c6 (fun σ5 f5 g11 g12 g8 g9 g10 g26 g47 => ?_) s 0 σ4 (by omega) (fun _ _ _ => rfl) (fun y hy => by omega)
  rw [tn_kv]
  have en : pp_n (mkD h s w R G) = h := by
    unfold pp_n mkD
    rw [if_pos rfl, if_pos rfl, nI_cl (by omega)]
  have em : pp_m (mkD h s w R G) = s := by
    unfold pp_m mkD
    rw [if_pos rfl, if_neg (by decide), if_pos rfl, nI_cl (by omega)]
  have r3 : ∀ i, i < 5 → ∀ k, mkD h s w R G (3 + i) k = if k = 0 then R (3 * i) else if k = 1 then R (3 * i + 1) else if k = 2 then R (3 * i + 2) else 0 := fun i hi k => by
    unfold mkD
    rw [if_neg (by omega), if_pos (by omega), show 3 + i - 3 = i by omega]
  have eh : pp_hs (mkD h s w R G) = 0 := by
    unfold pp_hs
    rw [en]
    exact hsN_0 h (fun i hi => by rw [r3 i (by omega)]; rfl)
  refine hh σ5 ?_ ⟨fun c k z1 z2 => ?_, fun k hk => ?_⟩ g9 g26
  · unfold rm_P
    rw [en, em, eh, g8, g10, g11, g12]
    refine ⟨?_, ?_, ?_, rfl, rfl, fun i hi => ?_, fun i hi => ?_⟩
    · rw [f5 39 5 (by omega) (by omega), f4 39 5 (by omega), b5]; rfl
    · rw [f5 39 6 (by omega) (by omega), c6]; rfl
    · rw [f5 39 7 (by omega) (by omega), f4 39 7 (by omega), b7]; rfl
    · obtain ⟨q0, q1, q2, q3⟩ := d4 i hi
      rw [f5 43 i (by omega) (by omega), f5 44 i (by omega) (by omega), f5 45 i (by omega) (by omega), f5 46 i (by omega) (by omega), q0, q1, q2, q3, r3 i (by omega), r3 i (by omega), r3 i (by omega), r3 i (by omega), r3 i (by omega), o3 48 _ (by omega), o3 48 _ (by omega), o3 48 _ (by omega), a48]
      exact ⟨rfl, rfl, rfl, rfl, bi_0 (by omega)⟩
    · rw [g47 i hi, f4 49 i (by omega), o3 49 i (by omega), a49]
      have r8 : ∀ k, mkD h s w R G (8 + i) k = if k = 0 then G i else 0 := fun k => by
        unfold mkD
        rw [if_neg (by omega), if_neg (by omega), show 8 + i - 8 = i by omega]
      rw [r8, r8]
      exact ⟨rfl, bi_0 (by omega)⟩
  · rw [f5 c k (by omega) (by omega), f4 c k (by omega), o3 c k (by omega)]
  · rw [f5 39 k (by omega) (by omega), f4 39 k (by omega), o3 39 k (by omega)]
end QV
