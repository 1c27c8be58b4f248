/-! ===== call: parish ===== -/
def tx_i (d h s : Nat) (w : Int32) (R G : Nat → Int32) : Prop := h ≤ 5 ∧ s ≤ 4 ∧ d ≤ 8 ∧ (2 ≤ d → ∃ q, 1 ≤ q ∧ q ≤ 4 ∧ w = nI q) ∧ (d ≤ 5 → h < 5) ∧ (6 ≤ d → 1 ≤ h) ∧ (∀ i, i < h → (R (3 * i) = 0 ∨ R (3 * i) = 1 ∨ R (3 * i) = 2) ∧ (∃ q, q ≤ 9 ∧ R (3 * i + 1) = nI q) ∧ (∃ q, q ≤ 9 ∧ R (3 * i + 2) = nI q)) ∧ (4 ≤ d → d ≤ 5 → R (3 * h) = 0 ∨ R (3 * h) = 1 ∨ R (3 * h) = 2) ∧ (d = 5 → ∃ q, q ≤ 9 ∧ R (3 * h + 1) = nI q) ∧ (∀ i, i < s → ∃ q, 1 ≤ q ∧ q ≤ 9 ∧ G i = nI q)
section PY
variable {f : Nat → Int32} {d h s : Nat} {w : Int32} {R G : Nat → Int32}
theorem mkD_w (hi : tx_i d h s w R G) (hd : 6 ≤ d) : pp_w (mkD h s w R G) := by
  obtain ⟨h5, s4, d8, hw, _, h1, hh, _, _, hs⟩ := hi
  have en : pp_n (mkD h s w R G) = h := by
    unfold pp_n mkD
    rw [if_pos rfl, if_pos rfl, nI_cl (by omega)]
  have em : pp_m (mkD h s w R G) = s := by
    unfold pp_m mkD
    rw [if_pos rfl, if_neg (by decide), if_pos rfl, nI_cl (by omega)]
  have e5 : mkD h s w R G 0 5 = 0 := rfl
  have eg : pp_g (mkD h s w R G) = 0 := by
    unfold pp_g
    rw [e5]; rfl
  have r3 : ∀ i, i < 5 → ∀ k, mkD h s w R G (3 + i) k = if k = 0 then R (3 * i) else if k = 1 then R (3 * i + 1) else if k = 2 then R (3 * i + 2) else 0 := fun i hi k => by
    unfold mkD
    rw [if_neg (by omega), if_pos (by omega), show 3 + i - 3 = i by omega]
  have r8 : ∀ i k, mkD h s w R G (8 + i) k = if k = 0 then G i else 0 := fun i k => by
    unfold mkD
    rw [if_neg (by omega), if_neg (by omega), show 8 + i - 8 = i by omega]
  have h0 := h1 hd
  unfold pp_w
  rw [en, em, eg]
  refine ⟨rfl, h5, rfl, s4, fun i hi => ?_, fun i hi => ?_, fun _ => ⟨by rw [e5, nI_0], by omega, hw (by omega)⟩, fun z => by omega⟩
  · rw [r3 i (by omega), r3 i (by omega), r3 i (by omega), r3 i (by omega)]
    obtain ⟨a, b, c⟩ := hh i hi
    exact ⟨a, b, c, Or.inl rfl⟩
  · rw [r8, r8]
    exact ⟨hs i hi, Or.inl rfl⟩
theorem tx_s {c : Int32} {d' h' s' : Nat} {w' : Int32} {R' G' : Nat → Int32} (hi : tx_i d h s w R G) (e : stp d h s w R G c = (true, d', h', s', w', R', G')) : tx_i d' h' s' w' R' G' := by
  obtain ⟨h5, s4, d8, hw, hl, h1, hh, hk, hr, hs⟩ := hi
  have up : ∀ q x, 3 * h ≤ q → ∀ i, i < h → (upd R q x (3 * i) = 0 ∨ upd R q x (3 * i) = 1 ∨ upd R q x (3 * i) = 2) ∧ (∃ q', q' ≤ 9 ∧ upd R q x (3 * i + 1) = nI q') ∧ (∃ q', q' ≤ 9 ∧ upd R q x (3 * i + 2) = nI q') := fun q x hq i hi => by
    rw [pk_un (by omega), pk_un (by omega), pk_un (by omega)]
    exact hh i hi
  unfold stp at e
  by_cases q0 : d = 0
  · rw [if_pos q0] at e
    simp only [Prod.mk.injEq] at e
    obtain ⟨-, rfl, rfl, rfl, rfl, rfl, rfl⟩ := e
    exact ⟨h5, s4, by omega, fun z => by omega, fun _ => hl (by omega), fun z => by omega, hh, fun z => by omega, fun z => by omega, hs⟩
  · rw [if_neg q0] at e
    by_cases q1 : d = 1
    · rw [if_pos q1] at e
      simp only [Prod.mk.injEq] at e
      obtain ⟨z, rfl, rfl, rfl, rfl, rfl, rfl⟩ := e
      obtain ⟨u, u1, u2, u3⟩ := dg4 z
      exact ⟨h5, s4, by omega, fun _ => ⟨u, u1, u2, u3⟩, fun _ => hl (by omega), fun z => by omega, hh, fun z => by omega, fun z => by omega, hs⟩
    · rw [if_neg q1] at e
      by_cases q2 : d = 2
      · rw [if_pos q2] at e
        simp only [Prod.mk.injEq] at e
        obtain ⟨-, rfl, rfl, rfl, rfl, rfl, rfl⟩ := e
        exact ⟨h5, s4, by omega, fun _ => hw (by omega), fun _ => hl (by omega), fun z => by omega, hh, fun z => by omega, fun z => by omega, hs⟩
      · rw [if_neg q2] at e
        by_cases q3 : d = 3
        · rw [if_pos q3] at e
          simp only [Prod.mk.injEq] at e
          obtain ⟨z, rfl, rfl, rfl, rfl, rfl, rfl⟩ := e
          have z' : ¬ kol c = -9 := by simpa using z
          refine ⟨h5, s4, by omega, fun _ => hw (by omega), fun _ => hl (by omega), fun z => by omega, up _ _ (by omega), fun _ _ => ?_, fun z => by omega, hs⟩
          rw [pk_us]
          exact kol_3 z'
        · rw [if_neg q3] at e
          by_cases q4 : d = 4
          · rw [if_pos q4] at e
            simp only [Prod.mk.injEq] at e
            obtain ⟨z, rfl, rfl, rfl, rfl, rfl, rfl⟩ := e
            refine ⟨h5, s4, by omega, fun _ => hw (by omega), fun _ => hl (by omega), fun z => by omega, up _ _ (by omega), fun _ _ => ?_, fun _ => ?_, hs⟩
            · rw [pk_un (by omega)]; exact hk (by omega) (by omega)
            · rw [pk_us]; exact dg0 z
          · rw [if_neg q4] at e
            by_cases q5 : d = 5
            · rw [if_pos q5] at e
              simp only [Prod.mk.injEq] at e
              obtain ⟨z, rfl, rfl, rfl, rfl, rfl, rfl⟩ := e
              have hlt := hl (by omega)
              refine ⟨by omega, s4, by omega, fun _ => hw (by omega), fun z => by omega, fun _ => by omega, fun i hi => ?_, fun z => by omega, fun z => by omega, hs⟩
              by_cases ei : i = h
              · subst ei
                rw [pk_us, pk_un (by omega), pk_un (by omega)]
                exact ⟨hk (by omega) (by omega), hr q5, dg0 z⟩
              · exact up _ _ (by omega) i (by omega)
            · rw [if_neg q5] at e
              by_cases q6 : d = 6
              · rw [if_pos q6] at e
                simp only [Prod.mk.injEq] at e
                obtain ⟨z, ed, rfl, rfl, rfl, rfl, rfl⟩ := e
                by_cases c33 : c = 33
                · rw [if_pos c33] at ed
                  subst ed
                  exact ⟨h5, s4, by omega, fun _ => hw (by omega), fun z => by omega, fun _ => h1 (by omega), hh, fun z => by omega, fun z => by omega, hs⟩
                · rw [if_neg c33] at ed
                  subst ed
                  have hlt : h < 5 := by
                    rw [decide_eq_false c33, Bool.false_or, Bool.and_eq_true] at z
                    exact of_decide_eq_true z.2
                  exact ⟨h5, s4, by omega, fun _ => hw (by omega), fun _ => hlt, fun z => by omega, hh, fun z => by omega, fun z => by omega, hs⟩
              · rw [if_neg q6] at e
                simp only [Prod.mk.injEq] at e
                obtain ⟨z, rfl, rfl, rfl, rfl, rfl, rfl⟩ := e
                rw [Bool.and_eq_true] at z
                have hlt : s < 4 := of_decide_eq_true z.2
                refine ⟨h5, by omega, by omega, fun _ => hw (by omega), fun z => by omega, fun _ => h1 (by omega), hh, fun z => by omega, fun z => by omega, fun i hi => ?_⟩
                by_cases ei : i = s
                · subst ei
                  rw [pk_us]
                  exact dg1 z.1
                · rw [pk_un ei]
                  exact hs i (by omega)
theorem tx_w : ∀ m j d h s (w : Int32) (R G : Nat → Int32), j + m ≤ 60 → tx_i d h s w R G → (tx f m j (d, h, s, w, R, G)).1 = -9 → pp_w (tx f m j (d, h, s, w, R, G)).2
  | 0, j, d, h, s, w, R, G, hj, hi, e => by
    by_cases z : d = 6 ∨ d = 8
    · rw [tx_end z]
      exact mkD_w hi (by omega)
    · rw [tx_no (fun q => z (Or.inl q)) (fun q => z (Or.inr q)) (Or.inl rfl)] at e
      exact absurd e (nI_ne9 (by omega))
  | m + 1, j, d, h, s, w, R, G, hj, hi, e => by
    cases hst : stp d h s w R G (f j) with
    | mk b S =>
      cases b with
      | false =>
        rw [tx_no1 (by rw [hst])] at e
        exact absurd e (nI_ne9 (by omega))
      | true =>
        obtain ⟨d', h', s', w', R', G'⟩ := S
        rw [tx_go hst] at e ⊢
        exact tx_w m (j + 1) d' h' s' w' R' G' (by omega) (tx_s hi hst) e
end PY
section QX
variable {ks : List (Nat × Nat)} {ρ : Nat → Nat → Nat} {σ : Nat → Nat → Int32} {Γ : tn_G} {P : pp_T}
theorem m6_parish (hG : tn_Gd ks ρ) {a0 a1 a2 a3 : Int32} {K : Int32 → (Nat → Nat → Int32) → Prop} (hs : ∀ k, k < 4 → ∃ n, n ≤ 60 ∧ σ 41 k = nI n)
    (h0 : iw a0 0 3 = false → K (-1) (tn_u σ 39 0 0))
    (h1 : iw a0 0 3 = true → iw a1 0 2 = false → K (-2) (tn_u σ 39 0 0))
    (h2 : ∀ k, k < 4 → a0 = nI k → iw a1 0 2 = true → ¬ f_ag σ k a1 a2 a3 = 0 → K (-10 - f_ag σ k a1 a2 a3) (tn_u (tn_u σ 39 0 0) 39 0 (f_ag σ k a1 a2 a3)))
    (h3 : ∀ k, k < 4 → a0 = nI k → iw a1 0 2 = true → f_ag σ k a1 a2 a3 = 0 → ∀ i n, i + n ≤ 60 → a2 = nI i → a3 = nI n → ∀ j', (tx (fun x => σ 42 (60 * k + i + x)) n 0 (0, 0, 0, 0, σ 48, σ 49)).1 = nI j' → j' ≤ n → ∀ σ' : Nat → Nat → Int32, (∀ c k, c ≠ 48 → c ≠ 49 → ¬ (c = 39 ∧ (k = 0 ∨ 18 ≤ k ∧ k ≤ 21)) → σ' c k = σ c k) → σ' 39 0 = 0 → K (-100 - nI j') σ')
    (h4 : ∀ k, k < 4 → a0 = nI k → iw a1 0 2 = true → f_ag σ k a1 a2 a3 = 0 → ∀ i n, i + n ≤ 60 → a2 = nI i → a3 = nI n → ∀ P, tx (fun x => σ 42 (60 * k + i + x)) n 0 (0, 0, 0, 0, σ 48, σ 49) = (-9, P) → ∀ σ' : Nat → Nat → Int32, rm_P σ' P → (∀ c k, c ≠ 39 → ¬ (43 ≤ c ∧ c ≤ 49) → σ' c k = σ c k) → σ' 39 1 = σ 39 1 → σ' 39 0 = 0 → σ' 39 9 = 0 → σ' 39 26 = 0 → K (P 0 2) σ') : tn_CI m_X6_parish [.ref 39, .int a0, .int a1, .int a2, .int a3] ks ρ σ K := by
  refine tn_iI mv_X6_parish (Nat.le_of_ble_eq_true rfl) (fun Γ hΓ hK => k_X6_parish_0 hG hΓ hK a0 a1 a2 a3 ?_)
  simp only [tn_ki]
  intro σ1 e1
  refine q6_isSheet hG (bn (fun q => q6_isSort hG (bn (fun q2 => ?_) (fun q2 => by rw [e1]; exact h1 q q2))) (fun q => by rw [e1]; exact h0 q))
  obtain ⟨k, hk, rfl⟩ := iw_3 q
  have o1 : ∀ c x, ¬ (c = 39 ∧ x = 0) → σ1 c x = σ c x := fun c x z => by rw [e1]; exact tn_u_n (by omega)
  refine q6_against hG hk ?_
  rw [f_agc (o1 40 k (by omega)) (o1 41 k (by omega))]
  refine ⟨fun z x ex σ2 e2 => ?_, fun z => q6_fails hG (by rw [e1]; exact h2 k hk rfl q2 z)⟩
  obtain ⟨g1, g2, g3, g4⟩ := f_ag0 z
  obtain ⟨n0, hn0, en0⟩ := hs k hk
  rw [en0] at g4
  obtain ⟨i, n, hin, ei, en⟩ := hc_nI hn0 g4
  subst ei
  subst en
  have ex' : x = nI (60 * k + i) := by rw [ex, show (60 : Int32) = nI 60 by decide, pk_mul, nI_add]
  subst ex'
  rw [nI_add]
  have o2 : ∀ c x, ¬ (c = 39 ∧ (x = 0 ∨ x = 18)) → σ2 c x = σ c x := fun c x z => by rw [e2, tn_u_n (by omega), o1 c x (by omega)]
  have w48 : σ2 48 = σ 48 := funext fun x => o2 48 x (by omega)
  have w49 : σ2 49 = σ 49 := funext fun x => o2 49 x (by omega)
  have z20 : σ2 39 0 = 0 := by rw [e2, tn_u_n (by omega), e1, tn_u_s]
  refine q6_read hG (F := 60 * k + i) (n := n) (f := fun x => σ 42 (60 * k + i + x)) (by omega) (fun x hx => o2 42 _ (by omega)) (by rw [e2, tn_u_s]) (by rw [w48, w49]) (fun σ' j' f' e' hj' hT => ⟨fun z2 => absurd rfl z2, fun _ => ?_⟩) (fun σ' h' s' w' R' G' f' hM hT => ⟨fun _ => ?_, fun z2 => absurd z2 (by decide)⟩)
  · rw [e', pk_sub (by omega), show 60 * k + i + j' - (60 * k + i) = j' by omega]
    refine h3 k hk rfl q2 z i n (by omega) rfl rfl j' hT hj' σ' (fun c x z1 z2 z3 => ?_) ?_
    · rw [f' c x z1 z2 (by omega), o2 c x (by omega)]
    · rw [f' 39 0 (by omega) (by omega) (by omega)]; exact z20
  · refine q6_take hG hM (fun σ3 m3 t3 g9 g26 => ?_)
    rw [m3.1]
    refine h4 k hk rfl q2 z i n (by omega) rfl rfl _ hT σ3 m3 (fun c x z1 z2 => ?_) ?_ ?_ g9 g26
    · rw [t3.1 c x z1 (by omega), f' c x (by omega) (by omega) (by omega), o2 c x (by omega)]
    · rw [t3.2 1 (by omega), f' 39 1 (by omega) (by omega) (by omega), o2 39 1 (by omega)]
    · rw [t3.2 0 (by omega), f' 39 0 (by omega) (by omega) (by omega)]; exact z20
theorem ro_pf {σ2 : Nat → Nat → Int32} (hL : ro_L σ) (ha : ∀ c k, c < 15 ∨ 27 ≤ c → c < 54 → c ≠ 48 → c ≠ 49 → ¬ (c = 2 ∧ k = 9) → ¬ (c = 39 ∧ (k = 0 ∨ 18 ≤ k ∧ k ≤ 21)) → σ2 c k = σ c k) (h9 : σ2 2 9 = σ2 39 0) : ro_L σ2 := by
  obtain ⟨P, hw, hc, hm, ho⟩ := hL
  have rw_ : ∀ c, c < 15 ∨ 27 ≤ c → c < 54 → c ≠ 48 → c ≠ 49 → c ≠ 2 → c ≠ 39 → σ2 c = σ c := fun c h1 h2 h3 h4 h5 h6 => funext fun k => ha c k h1 h2 h3 h4 (by omega) (by omega)
  have r39 : ∀ k, ¬ (k = 0 ∨ 18 ≤ k ∧ k ≤ 21) → σ2 39 k = σ 39 k := fun k hk => ha 39 k (by omega) (by omega) (by omega) (by omega) (by omega) (by omega)
  have r2 : ∀ k, k < 9 → σ2 2 k = σ 2 k := fun k hk => ha 2 k (by omega) (by omega) (by omega) (by omega) (by omega) (by omega)
  refine ⟨P, hw, hc.fr hw (fun c h1 h2 => rw_ c (by omega) (by omega) (by omega) (by omega) (by omega) (by omega)), ?_, ?_⟩
  · unfold rm_P
    rw [r39 5 (by omega), r39 6 (by omega), r39 7 (by omega), r39 8 (by omega), r39 10 (by omega), r39 11 (by omega), r39 12 (by omega), rw_ 43 (by omega) (by omega) (by omega) (by omega) (by omega) (by omega), rw_ 44 (by omega) (by omega) (by omega) (by omega) (by omega) (by omega), rw_ 45 (by omega) (by omega) (by omega) (by omega) (by omega) (by omega), rw_ 46 (by omega) (by omega) (by omega) (by omega) (by omega) (by omega), rw_ 47 (by omega) (by omega) (by omega) (by omega) (by omega) (by omega)]
    exact hm
  · obtain ⟨a1, a2, a3, a4, a5⟩ := ho
    refine ⟨fun k hk => ?_, ?_, ?_, ?_, h9⟩
    · rw [rw_ 40 (by omega) (by omega) (by omega) (by omega) (by omega) (by omega), rw_ 41 (by omega) (by omega) (by omega) (by omega) (by omega) (by omega), rw_ 42 (by omega) (by omega) (by omega) (by omega) (by omega) (by omega), rw_ (31 + 2 * k) (by omega) (by omega) (by omega) (by omega) (by omega) (by omega), rw_ (31 + 2 * k + 1) (by omega) (by omega) (by omega) (by omega) (by omega) (by omega)]
      exact a1 k hk
    · unfold ro_R
      rw [r39 26 (by omega), r2 6 (by omega), rw_ 28 (by omega) (by omega) (by omega) (by omega) (by omega) (by omega), rw_ 29 (by omega) (by omega) (by omega) (by omega) (by omega) (by omega), rw_ 52 (by omega) (by omega) (by omega) (by omega) (by omega) (by omega), rw_ 53 (by omega) (by omega) (by omega) (by omega) (by omega) (by omega)]
      exact a2
    · rw [r2 7 (by omega), r39 9 (by omega)]; exact a3
    · rw [r2 8 (by omega), r39 1 (by omega)]; exact a4
end QX
