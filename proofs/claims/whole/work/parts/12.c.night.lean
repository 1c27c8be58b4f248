/-! ===== a parish that changes ===== -/
theorem pp_w.of {P P' : pp_T} (hw : pp_w P) (h0 : P' 0 = P 0) (hh : ∀ h, h < pp_n P → (P' (3 + h) 0 = 0 ∨ P' (3 + h) 0 = 1 ∨ P' (3 + h) 0 = 2) ∧ (∃ w, w ≤ 9 ∧ P' (3 + h) 1 = nI w) ∧ (∃ w, w ≤ 9 ∧ P' (3 + h) 2 = nI w) ∧ (P' (3 + h) 4 = 0 ∨ P' (3 + h) 4 = 1)) (hs : ∀ s, s < pp_m P → (∃ w, 1 ≤ w ∧ w ≤ 9 ∧ P' (8 + s) 0 = nI w) ∧ (P' (8 + s) 1 = 0 ∨ P' (8 + s) 1 = 1)) : pp_w P' := by
  have e1 : pp_n P' = pp_n P := by unfold pp_n; rw [h0]
  have e2 : pp_m P' = pp_m P := by unfold pp_m; rw [h0]
  have e3 : pp_g P' = pp_g P := by unfold pp_g; rw [h0]
  obtain ⟨w1, w2, w3, w4, w5, w6, w7, w8⟩ := hw
  unfold pp_w
  rw [e1, e2, e3, h0]
  exact ⟨w1, w2, w3, w4, hh, hs, w7, w8⟩
theorem pp_own_0 {P : pp_T} {h : Nat} : pp_own P h 0 = P 0 := by
  unfold pp_own
  split <;> exact funext fun k => tn_u_n (Or.inl (by omega))
theorem pp_own_n {P : pp_T} {h : Nat} : pp_n (pp_own P h) = pp_n P := by unfold pp_n; rw [pp_own_0]
theorem pp_own_m {P : pp_T} {h : Nat} : pp_m (pp_own P h) = pp_m P := by unfold pp_m; rw [pp_own_0]
theorem pp_own_ne {P : pp_T} {h i : Nat} (hi : i ≠ 3 + h) : pp_own P h i = P i := by
  unfold pp_own
  split <;> exact funext fun k => tn_u_n (Or.inl hi)
theorem pp_own_k {P : pp_T} {h k : Nat} (hk : k ≠ 3) (hk4 : k ≠ 4) : pp_own P h (3 + h) k = P (3 + h) k := by
  unfold pp_own
  split <;> exact tn_u_n (Or.inr (by omega))
theorem pp_w.own {P : pp_T} (hw : pp_w P) (h : Nat) : pp_w (pp_own P h) := by
  obtain ⟨w1, w2, w3, w4, w5, w6, w7, w8⟩ := id hw
  refine hw.of pp_own_0 (fun j hj => ?_) (fun j hj => ?_)
  · obtain ⟨a1, a2, a3, a4⟩ := w5 j hj
    by_cases e : j = h
    · subst e
      rw [pp_own_k (by decide) (by decide), pp_own_k (by decide) (by decide), pp_own_k (by decide) (by decide)]
      refine ⟨a1, a2, a3, ?_⟩
      unfold pp_own
      split
      · right; simp [tn_u]
      · rw [tn_u_n (Or.inr (by decide))]; exact a4
    · rw [pp_own_ne (by omega)]; exact ⟨a1, a2, a3, a4⟩
  · by_cases e : 8 + j = 3 + h
    · obtain ⟨a1, a2⟩ := w6 j hj
      rw [e, pp_own_k (by decide) (by decide), pp_own_k (by decide) (by decide), ← e]
      exact ⟨a1, a2⟩
    · rw [pp_own_ne e]; exact w6 j hj
theorem pp_los_0 {P : pp_T} {n : Nat} : pp_los P n 0 = P 0 := funext fun k => by unfold pp_los; rw [if_neg (by omega)]
theorem pp_los_z {P : pp_T} : pp_los P 0 = P := funext fun i => funext fun k => by unfold pp_los; rw [if_neg (by omega)]
theorem pp_los_k {P : pp_T} {n i k : Nat} (h : k ≠ 2) : pp_los P n i k = P i k := by unfold pp_los; rw [if_neg (by omega)]
theorem pp_los_s {P : pp_T} {n i : Nat} (h : 3 + n ≤ i) : pp_los P n i = P i := funext fun k => by unfold pp_los; rw [if_neg (by omega)]
theorem pp_los_succ {P : pp_T} {n : Nat} : pp_los P (n + 1) = if 0 < P (3 + n) 2 then tn_u (pp_los P n) (3 + n) 2 (P (3 + n) 2 - 1) else pp_los P n := by
  funext i k
  by_cases hq : 0 < P (3 + n) 2
  · rw [if_pos hq, tn_u_eq]
    by_cases hc : i = 3 + n ∧ k = 2
    · obtain ⟨rfl, rfl⟩ := hc
      rw [if_pos ⟨rfl, rfl⟩]
      unfold pp_los
      rw [if_pos ⟨by omega, by omega, rfl, hq⟩]
    · rw [if_neg hc]
      unfold pp_los
      by_cases h2 : 3 ≤ i ∧ i < 3 + n ∧ k = 2 ∧ 0 < P i k
      · rw [if_pos h2, if_pos ⟨h2.1, by omega, h2.2.2⟩]
      · rw [if_neg h2, if_neg (fun h3 => h2 ⟨h3.1, by omega, h3.2.2⟩)]
  · rw [if_neg hq]
    unfold pp_los
    by_cases h2 : 3 ≤ i ∧ i < 3 + n ∧ k = 2 ∧ 0 < P i k
    · rw [if_pos h2, if_pos ⟨h2.1, by omega, h2.2.2⟩]
    · rw [if_neg h2, if_neg (fun h3 => ?_)]
      by_cases e : i = 3 + n
      · obtain ⟨_, _, rfl, h5⟩ := h3
        subst e
        exact hq h5
      · exact h2 ⟨h3.1, by omega, h3.2.2⟩
theorem nI_pos_iff {w : Nat} (h : w < 1000) : 0 < nI w ↔ 0 < w := by
  rw [show (0 : Int32) = nI 0 from nI_0.symm, nI_ltI (by omega) (by omega)]
theorem pp_w.los {P : pp_T} (hw : pp_w P) (n : Nat) (hn : n ≤ 5) : pp_w (pp_los P n) := by
  obtain ⟨w1, w2, w3, w4, w5, w6, w7, w8⟩ := id hw
  refine hw.of pp_los_0 (fun j hj => ?_) (fun j hj => ?_)
  · obtain ⟨a1, a2, ⟨w, hw9, hw2⟩, a4⟩ := w5 j hj
    rw [pp_los_k (k := 0) (by decide), pp_los_k (k := 1) (by decide), pp_los_k (k := 4) (by decide)]
    refine ⟨a1, a2, ?_, a4⟩
    unfold pp_los
    split
    · rename_i hq
      rw [hw2] at hq ⊢
      have h0 := (nI_pos_iff (by omega)).mp hq.2.2.2
      refine ⟨w - 1, by omega, ?_⟩
      have := nI_pred (w - 1)
      rw [show w - 1 + 1 = w by omega] at this
      exact this
    · exact ⟨w, hw9, hw2⟩
  · rw [pp_los_k (by decide), pp_los_k (by decide)]
    exact w6 j hj
theorem pp_hv_lt (P : pp_T) : ∀ s, (pp_hv P s).1 ≤ s
  | 0 => Nat.le_refl 0
  | s + 1 => by
    have := pp_hv_lt P s
    unfold pp_hv
    split
    · exact Nat.le_refl _
    · omega
theorem pp_lay_0 {P : pp_T} : pp_lay P 0 = P 0 := by
  unfold pp_lay
  split
  · rfl
  · exact funext fun k => tn_u_n (Or.inl (by omega))
theorem pp_lay_h {P : pp_T} {h : Nat} (hh : h < 5) : pp_lay P (3 + h) = P (3 + h) := by
  unfold pp_lay
  split
  · rfl
  · exact funext fun k => tn_u_n (Or.inl (by omega))
theorem pp_w.lay {P : pp_T} (hw : pp_w P) : pp_w (pp_lay P) := by
  obtain ⟨w1, w2, w3, w4, w5, w6, w7, w8⟩ := id hw
  refine hw.of pp_lay_0 (fun j hj => ?_) (fun j hj => ?_)
  · rw [pp_lay_h (by omega)]; exact w5 j hj
  · obtain ⟨a1, a2⟩ := w6 j hj
    unfold pp_lay
    split
    · exact ⟨a1, a2⟩
    · rw [tn_u_n (Or.inr (by decide))]
      refine ⟨a1, ?_⟩
      rw [tn_u_eq]
      split
      · right; rfl
      · exact a2
theorem pp_w.p1 {P : pp_T} (hw : pp_w P) : pp_w (pp_p1 P) := hw.los _ hw.2.1
theorem pp_w.p2 {P : pp_T} (hw : pp_w P) : pp_w (pp_p2 P) := by
  unfold pp_p2
  split
  · exact hw.p1.own _
  · exact hw.p1
theorem pp_w.p3 {P : pp_T} (hw : pp_w P) : pp_w (pp_p3 P) := by
  unfold pp_p3
  split
  · exact hw.p2.lay
  · exact hw.p2
theorem pp_p1_0 {P : pp_T} : pp_p1 P 0 = P 0 := pp_los_0
theorem pp_p2_0 {P : pp_T} : pp_p2 P 0 = P 0 := by
  unfold pp_p2
  split
  · rw [pp_own_0, pp_p1_0]
  · exact pp_p1_0
theorem pp_p3_0 {P : pp_T} : pp_p3 P 0 = P 0 := by
  unfold pp_p3
  split
  · rw [pp_lay_0, pp_p2_0]
  · exact pp_p2_0
theorem pp_hang_n {P : pp_T} : pp_n (pp_hang P) = pp_n P := pp_n_u (Or.inr (by decide))
theorem pp_hang_m {P : pp_T} : pp_m (pp_hang P) = pp_m P := pp_m_u (Or.inr (by decide))
theorem pp_hang_i {P : pp_T} {i : Nat} (hi : i ≠ 0) : pp_hang P i = P i := funext fun k => tn_u_n (Or.inl hi)
theorem pp_hang_g {P : pp_T} (hw : pp_w P) (h0 : 0 < pp_n P) : ∃ w, P 0 4 = nI w ∧ 1 ≤ w ∧ w ≤ 4 ∧ pp_hang P 0 5 = nI ((pp_g P + w) % pp_n P) ∧ pp_g (pp_hang P) = (pp_g P + w) % pp_n P := by
  obtain ⟨w1, w2, w3, w4, w5, w6, w7, w8⟩ := hw
  obtain ⟨a1, a2, w, hw1, hw2, a3⟩ := w7 h0
  have e : pp_hang P 0 5 = nI ((pp_g P + w) % pp_n P) := by
    unfold pp_hang
    rw [tn_u_s, a1, a3, w1, nI_add, pk_rem (by omega) h0 (by omega)]
  refine ⟨w, a3, hw1, hw2, e, ?_⟩
  have hl := Nat.mod_lt (pp_g P + w) h0
  unfold pp_g at e hl ⊢
  rw [e, nI_clamp (by omega)]
theorem pp_w.hang {P : pp_T} (hw : pp_w P) (h0 : 0 < pp_n P) : pp_w (pp_hang P) := by
  obtain ⟨w, hw1, hw2, hw3, e1, e2⟩ := pp_hang_g hw h0
  obtain ⟨w1, w2, w3, w4, w5, w6, w7, w8⟩ := hw
  have hc : ∀ k, k ≠ 5 → pp_hang P 0 k = P 0 k := fun k hk => tn_u_n (Or.inr hk)
  unfold pp_w
  rw [pp_hang_n, pp_hang_m, e2, e1, hc 2 (by decide), hc 3 (by decide), hc 4 (by decide)]
  refine ⟨w1, w2, w3, w4, fun h hh => ?_, fun s hs => ?_, fun _ => ⟨rfl, Nat.mod_lt _ h0, w, hw2, hw3, hw1⟩, fun q => by omega⟩
  · rw [pp_hang_i (by omega)]; exact w5 h hh
  · rw [pp_hang_i (by omega)]; exact w6 s hs
theorem pp_n0 {P P' : pp_T} (h : P' 0 = P 0) : pp_n P' = pp_n P := by unfold pp_n; rw [h]
theorem pp_m0 {P P' : pp_T} (h : P' 0 = P 0) : pp_m P' = pp_m P := by unfold pp_m; rw [h]
theorem pp_g0 {P P' : pp_T} (h : P' 0 = P 0) : pp_g P' = pp_g P := by unfold pp_g; rw [h]
theorem pp_pn_n {P : pp_T} : pp_n (pp_pn P) = pp_n P := by
  unfold pp_pn
  split
  · rfl
  · rw [pp_hang_n, pp_n0 pp_p3_0]
theorem pp_pn_m {P : pp_T} : pp_m (pp_pn P) = pp_m P := by
  unfold pp_pn
  split
  · rfl
  · rw [pp_hang_m, pp_m0 pp_p3_0]
theorem pp_w.pn {P : pp_T} (hw : pp_w P) (h0 : 0 < pp_n P) : pp_w (pp_pn P) := by
  unfold pp_pn
  split
  · exact hw
  · exact hw.p3.hang (by rw [pp_n0 pp_p3_0]; exact h0)
theorem pp_pns_n {P : pp_T} : ∀ t, pp_n (pp_pns P t) = pp_n P
  | 0 => rfl
  | t + 1 => by rw [pp_pns, pp_pn_n, pp_pns_n t]
theorem pp_w.pns {P : pp_T} (hw : pp_w P) (h0 : 0 < pp_n P) : ∀ t, pp_w (pp_pns P t)
  | 0 => hw
  | t + 1 => (hw.pns h0 t).pn (by rw [pp_pns_n]; exact h0)
section QN
variable {ks : List (Nat × Nat)} {ρ : Nat → Nat → Nat} {σ : Nat → Nat → Int32} {Γ : tn_G} {K : Option Value → List (Nat × Nat) → (Nat → Nat → Nat) → (Nat → Nat → Int32) → Prop} {b b1 : Nat} {P : pp_T}
def rc_Q (σ : Nat → Nat → Int32) (b : Nat) (P : pp_T) (n m : Nat) : Prop := (∀ k, 2 ≤ k → k < 6 → σ b k = P 0 k) ∧ (∀ h, h < n → ∀ k, k < 5 → σ (b + 3 + h) k = P (3 + h) k) ∧ (∀ s, s < m → ∀ k, k < 2 → σ (b + 8 + s) k = P (8 + s) k)
theorem l_beS (hG : tn_Gd ks ρ) (hΓ : tn_is Γ m_X1_become) (hK : tn_rt Γ m_X1_become K) (hb : tn_Pb b) (hb1 : tn_Pb b1) (hne : b ≠ b1) (hw : pp_w P) {σ0 : Nat → Nat → Int32} (hR : rc_P σ0 b1 P) (h : ∀ σ', rc_P σ' b P → rc_F b σ0 σ' → K none ks ρ σ') : ∀ m n σ, n + m = pp_m P → rc_Q σ b P (pp_n P) n → rc_F b σ0 σ → tn_A Γ 65 [.ref b, .ref b1, .int (nI n)] [] 0 0 ks ρ σ := by
  intro m
  have h5 := hw.2.2.2.1
  have h4 := hw.2.1
  have hap := pb_ap hb hb1 hne
  induction m with
  | zero =>
    intro n σ hn hQ hF
    refine k_X1_become_65 hG hΓ hK b b1 hb hb1 _ ⟨fun _ => ?_, fun q => ?_⟩
    · refine h σ ⟨hQ.1, hQ.2.1, ?_⟩ hF
      rw [show pp_m P = n by omega]; exact hQ.2.2
    · rw [hQ.1 3 (by omega) (by omega), hw.2.2.1, nI_end (by omega) (by omega)] at q; omega
  | succ m ih =>
    intro n σ hn hQ hF
    refine k_X1_become_65 hG hΓ hK b b1 hb hb1 _ ⟨fun q => ?_, fun _ => ⟨vp_in_nI (by omega) (by omega), ?_⟩⟩
    · rw [hQ.1 3 (by omega) (by omega), hw.2.2.1, nI_end (by omega) (by omega)] at q; omega
    · rw [nI_cl (by omega)]
      have e1 : σ (b1 + 8 + n) = σ0 (b1 + 8 + n) := hF _ (by omega)
      refine q_becomeS hG (gp_kS hG hb (by omega)) (gp_kS hG hb1 (by omega)) (by omega) ?_ (fun σ1 g1 g2 y ey => ?_)
      · rw [e1, hR.2.2 n (by omega) 1 (by omega)]
        exact (hw.2.2.2.2.2.1 n (by omega)).2
      · rw [nI_1] at ey; subst ey
        refine ih (n + 1) σ1 (by omega) ⟨fun k h1 h2 => ?_, fun j hj k hk => ?_, fun j hj k hk => ?_⟩ (fun c hc => ?_)
        · rw [g2 b (by omega)]; exact hQ.1 k h1 h2
        · rw [g2 _ (by omega)]; exact hQ.2.1 j hj k hk
        · by_cases e : j = n
          · subst e
            rw [g1 k hk, e1]; exact hR.2.2 j (by omega) k hk
          · rw [g2 _ (by omega)]; exact hQ.2.2 j (by omega) k hk
        · rw [g2 c (by omega)]; exact hF c hc
theorem l_beH (hG : tn_Gd ks ρ) (hΓ : tn_is Γ m_X1_become) (hK : tn_rt Γ m_X1_become K) (hb : tn_Pb b) (hb1 : tn_Pb b1) (hne : b ≠ b1) (hw : pp_w P) {σ0 : Nat → Nat → Int32} (hR : rc_P σ0 b1 P) (h : ∀ σ', rc_P σ' b P → rc_F b σ0 σ' → K none ks ρ σ') : ∀ m n σ, n + m = pp_n P → rc_Q σ b P n 0 → rc_F b σ0 σ → tn_A Γ 34 [.ref b, .ref b1, .int (nI n)] [] 0 0 ks ρ σ := by
  intro m
  have h5 := hw.2.2.2.1
  have h4 := hw.2.1
  have hap := pb_ap hb hb1 hne
  induction m with
  | zero =>
    intro n σ hn hQ hF
    refine k_X1_become_34 hG hΓ hK b b1 hb hb1 _ ⟨fun _ => ?_, fun q => ?_⟩
    · rw [show n = pp_n P by omega] at hQ
      exact l_beS hG hΓ hK hb hb1 hne hw hR h (pp_m P) 0 σ (by omega) hQ hF
    · rw [hQ.1 2 (by omega) (by omega), hw.1, nI_end (by omega) (by omega)] at q; omega
  | succ m ih =>
    intro n σ hn hQ hF
    refine k_X1_become_34 hG hΓ hK b b1 hb hb1 _ ⟨fun q => ?_, fun _ => ⟨vp_in_nI (by omega) (by omega), ?_⟩⟩
    · rw [hQ.1 2 (by omega) (by omega), hw.1, nI_end (by omega) (by omega)] at q; omega
    · rw [nI_cl (by omega)]
      have e1 : σ (b1 + 3 + n) = σ0 (b1 + 3 + n) := hF _ (by omega)
      refine q_becomeH hG (gp_kH hG hb (by omega)) (gp_kH hG hb1 (by omega)) (by omega) ?_ (fun σ1 g1 g2 y ey => ?_)
      · rw [e1, hR.2.1 n (by omega) 4 (by omega)]
        exact (hw.2.2.2.2.1 n (by omega)).2.2.2
      · rw [nI_1] at ey; subst ey
        refine ih (n + 1) σ1 (by omega) ⟨fun k h1 h2 => ?_, fun j hj k hk => ?_, fun j hj k hk => by omega⟩ (fun c hc => ?_)
        · rw [g2 b (by omega)]; exact hQ.1 k h1 h2
        · by_cases e : j = n
          · subst e
            rw [g1 k hk, e1]; exact hR.2.1 j (by omega) k hk
          · rw [g2 _ (by omega)]; exact hQ.2.1 j (by omega) k hk
        · rw [g2 c (by omega)]; exact hF c hc
theorem q_become (hG : tn_Gd ks ρ) (hb : tn_Pb b) (hb1 : tn_Pb b1) (hne : b ≠ b1) (hR : rc_P σ b1 P) (hw : pp_w P) {K : (Nat → Nat → Int32) → Prop} (h : ∀ σ', rc_P σ' b P → rc_F b σ σ' → K σ') : tn_CV m_X1_become [.ref b, .ref b1] ks ρ σ K := by
  have hap := pb_ap hb hb1 hne
  refine tn_iV mv_X1_become (Nat.le_of_ble_eq_true rfl) (fun Γ hΓ hK => k_X1_become_0 hG hΓ hK b b1 hb hb1 ?_)
  intro σ1 e1 σ2 e2 σ3 e3 σ4 e4
  have hF : rc_F b σ σ4 := by
    rw [e4, e3, e2, e1]
    exact (((rc_F.u (by omega) (by omega)).tr (rc_F.u (by omega) (by omega))).tr (rc_F.u (by omega) (by omega))).tr (rc_F.u (by omega) (by omega))
  refine l_beH hG hΓ hK hb hb1 hne hw hR (fun σ' g1 g2 => by rw [tn_kv]; exact h σ' g1 g2) (pp_n P) 0 σ4 (by omega) ⟨fun k h1 h2 => ?_, fun j hj => by omega, fun j hj => by omega⟩ hF
  have hb1' : b1 ≠ b := fun e => hne e.symm
  have hk : k = 2 ∨ k = 3 ∨ k = 4 ∨ k = 5 := by omega
  have f1 : ∀ k, σ1 b1 k = σ b1 k := fun k => by rw [e1, tn_u_n (Or.inl hb1')]
  have f2 : ∀ k, σ2 b1 k = σ b1 k := fun k => by rw [e2, tn_u_n (Or.inl hb1'), f1]
  have f3 : ∀ k, σ3 b1 k = σ b1 k := fun k => by rw [e3, tn_u_n (Or.inl hb1'), f2]
  rw [← hR.1 k h1 h2, e4, f3, e3, f2, e2, f1, e1]
  rcases hk with rfl | rfl | rfl | rfl <;> simp [tn_u]
/-! owning, in the parish -/
theorem rc_own (hR : rc_P σ b P) {n : Nat} (hn : n < pp_n P) : rc_P (hw_own σ (b + 3 + n)) b (pp_own P n) := by
  unfold hw_own pp_own
  rw [hR_rk hR hn]
  have e : b + 3 + n = b + (3 + n) := by omega
  split
  · rw [e]; exact hR.u (Or.inl (by omega))
  · rw [hR.2.1 n hn 3 (by decide), e]; exact hR.u (Or.inl (by omega))
theorem rF_own {n : Nat} (hn : n < 5) : rc_F b σ (hw_own σ (b + 3 + n)) := by
  unfold hw_own
  split <;> exact rc_F.u (by omega) (by omega)
theorem l_los (hG : tn_Gd ks ρ) (hΓ : tn_is Γ m_X1_loseSleep) (hK : tn_rt Γ m_X1_loseSleep K) (hb : tn_Pb b) (hw : pp_w P) {σ0 : Nat → Nat → Int32} (h : ∀ σ', rc_P σ' b (pp_los P (pp_n P)) → rc_F b σ0 σ' → K none ks ρ σ') : ∀ m n σ, n + m = pp_n P → rc_P σ b (pp_los P n) → rc_F b σ0 σ → tn_A Γ 2 [.ref b, .int (nI n)] [] 0 0 ks ρ σ := by
  intro m
  have h4 := hw.2.1
  induction m with
  | zero =>
    intro n σ hn hR hF
    have h2 : σ b 2 = nI (pp_n P) := by rw [hR.1 2 (by omega) (by omega), pp_los_0]; exact hw.1
    refine k_X1_loseSleep_2 hG hΓ hK b hb _ ⟨fun _ => ?_, fun q => ?_⟩
    · rw [show n = pp_n P by omega] at hR
      exact h σ hR hF
    · rw [h2, nI_end (by omega) (by omega)] at q; omega
  | succ m ih =>
    intro n σ hn hR hF
    have h2 : σ b 2 = nI (pp_n P) := by rw [hR.1 2 (by omega) (by omega), pp_los_0]; exact hw.1
    have hnn : pp_n (pp_los P n) = pp_n P := pp_n0 pp_los_0
    have e2 : σ (b + 3 + n) 2 = P (3 + n) 2 := by rw [hR.2.1 n (by omega) 2 (by omega), pp_los_s (by omega)]
    have es := pp_los_succ (P := P) (n := n)
    refine k_X1_loseSleep_2 hG hΓ hK b hb _ ⟨fun q => ?_, fun _ => ⟨vp_in_nI (by omega) (by omega), ?_⟩⟩
    · rw [h2, nI_end (by omega) (by omega)] at q; omega
    · rw [nI_cl (by omega), e2]
      refine ⟨fun q y ey => ?_, fun q σ1 e1 y ey => ?_⟩
      · rw [nI_1] at ey; subst ey
        rw [if_neg (Int32.not_lt.mpr q)] at es
        exact ih (n + 1) σ (by omega) (by rw [es]; exact hR) hF
      · rw [nI_1] at ey; subst ey
        rw [if_pos (Int32.not_le.mp q)] at es
        have e : b + 3 + n = b + (3 + n) := by omega
        refine ih (n + 1) σ1 (by omega) ?_ (hF.tr ?_)
        · rw [es, e1, e]; exact hR.u (Or.inl (by omega))
        · rw [e1]; exact rc_F.u (by omega) (by omega)
theorem q_loseSleep (hG : tn_Gd ks ρ) (hb : tn_Pb b) (hR : rc_P σ b P) (hw : pp_w P) {K : (Nat → Nat → Int32) → Prop} (h : ∀ σ', rc_P σ' b (pp_los P (pp_n P)) → rc_F b σ σ' → K σ') : tn_CV m_X1_loseSleep [.ref b] ks ρ σ K := by
  refine tn_iV mv_X1_loseSleep (Nat.le_of_ble_eq_true rfl) (fun Γ hΓ hK => k_X1_loseSleep_0 hG hΓ hK b hb ?_)
  exact l_los hG hΓ hK hb hw (fun σ' g1 g2 => by rw [tn_kv]; exact h σ' g1 g2) (pp_n P) 0 σ (by omega) (by rw [pp_los_z]; exact hR) rc_F.rf
/-- how the loop holds the heaviest stone's number -/
def pp_hi (q : Nat) : Int32 := if q = 0 then (-9) else nI (q - 1)
theorem l_lay (hG : tn_Gd ks ρ) (hΓ : tn_is Γ m_X1_layHeaviestStone) (hK : tn_rt Γ m_X1_layHeaviestStone K) (hb : tn_Pb b) (hR : rc_P σ b P) (hw : pp_w P) (h : ∀ σ', rc_P σ' b (pp_lay P) → rc_F b σ σ' → K none ks ρ σ') : ∀ m n, n + m = pp_m P → tn_A Γ 7 [.ref b, .int (pp_hi (pp_hv P n).1), .int (pp_hv P n).2, .int (nI n)] [] 0 0 ks ρ σ := by
  intro m
  have h4 := hw.2.2.2.1
  have h2 : σ b 3 = nI (pp_m P) := (hR.1 3 (by omega) (by omega)).trans hw.2.2.1
  induction m with
  | zero =>
    intro n hn
    refine k_X1_layHeaviestStone_7 hG hΓ hK b hb _ _ _ ⟨fun _ => ?_, fun q => ?_⟩
    · rw [show n = pp_m P by omega]
      have hlt := pp_hv_lt P (pp_m P)
      refine q_hasStone hG hb ?_
      rw [h2]
      by_cases e : (pp_hv P (pp_m P)).1 = 0
      · have e1 : ib (pp_hi (pp_hv P (pp_m P)).1) (nI (pp_m P)) = false := by
          rw [e]
          unfold ib pp_hi
          rw [if_pos rfl]
          simp
        rw [e1]
        refine ⟨fun _ => h σ ?_ rc_F.rf, fun q => absurd rfl q⟩
        unfold pp_lay
        rw [if_pos e]; exact hR
      · have e1 : ib (pp_hi (pp_hv P (pp_m P)).1) (nI (pp_m P)) = true := by
          unfold pp_hi
          rw [if_neg e]
          exact ib_of (by omega) (by omega)
        rw [e1]
        refine ⟨fun q => absurd q (by decide), fun _ => ?_⟩
        unfold pp_hi
        rw [if_neg e]
        refine ⟨vp_in_nI (by omega) (by omega), fun σ2 e2 => h σ2 ?_ ?_⟩
        · rw [e2, nI_cl (by omega)]
          unfold pp_lay
          rw [if_neg e, show b + 8 + ((pp_hv P (pp_m P)).1 - 1) = b + (8 + ((pp_hv P (pp_m P)).1 - 1)) by omega]
          exact hR.u (Or.inl (by omega))
        · rw [e2, nI_cl (by omega)]
          exact rc_F.u (by omega) (by omega)
    · rw [h2, nI_end (by omega) (by omega)] at q; omega
  | succ m ih =>
    intro n hn
    have ih1 := ih (n + 1) (by omega)
    have e0 := hR.2.2 n (by omega) 0 (by omega)
    have e1 := hR.2.2 n (by omega) 1 (by omega)
    refine k_X1_layHeaviestStone_7 hG hΓ hK b hb _ _ _ ⟨fun q => ?_, fun _ => ⟨vp_in_nI (by omega) (by omega), ?_⟩⟩
    · rw [h2, nI_end (by omega) (by omega)] at q; omega
    · rw [nI_cl (by omega), e0, e1]
      refine ⟨fun q y ey => ?_, fun q => ⟨fun q2 y ey => ?_, fun q2 x ex y ey => ?_⟩⟩
      · rw [nI_1] at ey; subst ey
        have e3 : pp_hv P (n + 1) = pp_hv P n := by rw [pp_hv, if_neg (fun z => q z.1)]
        rw [e3] at ih1; exact ih1
      · rw [nI_1] at ey; subst ey
        have e3 : pp_hv P (n + 1) = pp_hv P n := by rw [pp_hv, if_neg (fun z => Int32.not_lt.mpr q2 z.2)]
        rw [e3] at ih1; exact ih1
      · rw [nI_1] at ey; subst ey; subst ex
        have e3 : pp_hv P (n + 1) = (n + 1, P (8 + n) 0) := by rw [pp_hv, if_pos ⟨q, Int32.not_le.mp q2⟩]
        rw [e3] at ih1
        exact ih1
theorem q_layHeaviestStone (hG : tn_Gd ks ρ) (hb : tn_Pb b) (hR : rc_P σ b P) (hw : pp_w P) {K : (Nat → Nat → Int32) → Prop} (h : ∀ σ', rc_P σ' b (pp_lay P) → rc_F b σ σ' → K σ') : tn_CV m_X1_layHeaviestStone [.ref b] ks ρ σ K := by
  refine tn_iV mv_X1_layHeaviestStone (Nat.le_of_ble_eq_true rfl) (fun Γ hΓ hK => k_X1_layHeaviestStone_0 hG hΓ hK b hb ?_)
  exact l_lay hG hΓ hK hb hR hw (fun σ' g1 g2 => by rw [tn_kv]; exact h σ' g1 g2) (pp_m P) 0 (by omega)
end QN
