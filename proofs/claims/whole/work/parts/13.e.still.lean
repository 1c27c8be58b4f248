/-! ===== behind eighteen nights nothing changes how loud it is ===== -/
section ST
variable {P : pp_T}
theorem pns_add (P : pp_T) : ∀ a b, pp_pns P (a + b) = pp_pns (pp_pns P a) b
  | a, 0 => rfl
  | a, b + 1 => by rw [← Nat.add_assoc, pp_pns, pns_add P a b, pp_pns]
/-- no stone and no house's weight changes otherwise -/
theorem pn_q (h : pp_vo P = 0) : pp_pn P = P := by unfold pp_pn; rw [if_pos h]
theorem pns_q : ∀ a t, pp_vo (pp_pns P a) = 0 → pp_vo (pp_pns P (a + t)) = 0
  | a, 0, h => h
  | a, t + 1, h => by
    rw [← Nat.add_assoc, pp_pns, pn_q (pns_q a t h)]
    exact pns_q a t h
theorem own_k2 {h i : Nat} : pp_own P h i 2 = P i 2 := by
  unfold pp_own
  split <;> exact tn_u_n (Or.inr (by decide))
theorem lay_k2 {i : Nat} (hi : i < 8) {k : Nat} : pp_lay P i k = P i k := by
  unfold pp_lay
  split
  · rfl
  · exact tn_u_n (Or.inl (by omega))
theorem p3_h {h : Nat} (hh : h < 5) {k : Nat} : pp_p3 P (3 + h) k = pp_p2 P (3 + h) k := by
  unfold pp_p3
  split
  · exact lay_k2 (by omega)
  · rfl
theorem p2_k2 {i : Nat} : pp_p2 P i 2 = pp_p1 P i 2 := by
  unfold pp_p2
  split
  · exact own_k2
  · rfl
theorem pn_e (hv : ¬ pp_vo P = 0) : pp_pn P = pp_hang (pp_p3 P) := by unfold pp_pn; rw [if_neg hv]
theorem pn_h (hv : ¬ pp_vo P = 0) {h : Nat} (hh : h < 5) {k : Nat} : pp_pn P (3 + h) k = pp_p2 P (3 + h) k := by
  rw [pn_e hv, pp_hang_i (by omega), p3_h hh]
/-- sleep goes down -/
theorem pn_sleep (hv : ¬ pp_vo P = 0) {h : Nat} (hh : h < pp_n P) (h5 : h < 5) {w : Nat} (hw : w ≤ 9) (e : P (3 + h) 2 = nI w) : pp_pn P (3 + h) 2 = nI (w - 1) := by
  rw [pn_h hv h5, p2_k2]
  unfold pp_p1 pp_los
  by_cases q : 0 < w
  · rw [if_pos ⟨by omega, by omega, rfl, by rw [e]; exact (nI_pos_iff (by omega)).mpr q⟩, e]
    have := nI_pred (w - 1)
    rw [show w - 1 + 1 = w by omega] at this
    exact this
  · rw [if_neg (fun z => q ((nI_pos_iff (by omega)).mp (by rw [← e]; exact z.2.2.2))), e, show w - 1 = w by omega]
theorem rk_row {r r' : Nat → Int32} (h0 : r' 0 = r 0) (h1 : r' 1 = r 1) (h4 : r' 4 = r 4) : hw_rk r' = hw_rk r := by
  unfold hw_rk hw_wt
  rw [h0, h1, h4]
theorem wt_row {r r' : Nat → Int32} (h0 : r' 0 = r 0) (h1 : r' 1 = r 1) : hw_wt r' = hw_wt r := by
  unfold hw_wt
  rw [h0, h1]
theorem rk_p1 {h : Nat} : pp_rk (pp_p1 P) h = pp_rk P h := rk_row (pp_los_k (by decide)) (pp_los_k (by decide)) (pp_los_k (by decide))
theorem rk_own_s {h : Nat} : pp_rk (pp_own P h) h = false := by
  unfold pp_own
  by_cases q : pp_rk P h = true
  · rw [if_pos q]
    unfold pp_rk hw_rk
    rw [tn_u_s]
    rfl
  · rw [if_neg q]
    have e : pp_rk (tn_u P (3 + h) 3 (P (3 + h) 3 + 1)) h = pp_rk P h := rk_row (tn_u_n (Or.inr (by decide))) (tn_u_n (Or.inr (by decide))) (tn_u_n (Or.inr (by decide)))
    rw [e]
    exact Bool.eq_false_iff.mpr q
theorem rk_own_n {h j : Nat} (hj : j ≠ h) : pp_rk (pp_own P h) j = pp_rk P j := by
  unfold pp_rk
  rw [pp_own_ne (by omega)]
theorem rk_p2 {h : Nat} : pp_rk (pp_p2 P) h = if h = pp_g P ∧ pp_p1 P (3 + pp_g P) 2 = 0 then false else pp_rk P h := by
  unfold pp_p2
  by_cases q : pp_p1 P (3 + pp_g P) 2 = 0
  · rw [if_pos q]
    by_cases e : h = pp_g P
    · subst e
      rw [if_pos ⟨rfl, q⟩]
      exact rk_own_s
    · rw [if_neg (fun z => e z.1), rk_own_n e, rk_p1]
  · rw [if_neg q, if_neg (fun z => q z.2), rk_p1]
theorem rk_pn (hv : ¬ pp_vo P = 0) {h : Nat} (h5 : h < 5) : pp_rk (pp_pn P) h = pp_rk (pp_p2 P) h := rk_row (pn_h hv h5) (pn_h hv h5) (pn_h hv h5)
theorem wt_p2 {h : Nat} : pp_wt (pp_p2 P) h = pp_wt P h := by
  unfold pp_p2
  split
  · have e1 : pp_wt (pp_own (pp_p1 P) (pp_g P)) h = pp_wt (pp_p1 P) h := by
      by_cases e : h = pp_g P
      · subst e; exact wt_row (pp_own_k (by decide) (by decide)) (pp_own_k (by decide) (by decide))
      · unfold pp_wt; rw [pp_own_ne (by omega)]
    rw [e1]
    exact wt_row (pp_los_k (by decide)) (pp_los_k (by decide))
  · exact wt_row (pp_los_k (by decide)) (pp_los_k (by decide))
theorem wt_pn {h : Nat} (h5 : h < 5) : pp_wt (pp_pn P) h = pp_wt P h := by
  by_cases hv : pp_vo P = 0
  · rw [pn_q hv]
  · rw [← wt_p2 (P := P)]
    exact wt_row (pn_h hv h5) (pn_h hv h5)
theorem rs_0 (h5 : pp_n P ≤ 5) : pp_rs P = 0 ↔ ∀ h, h < pp_n P → pp_rk P h = false := by
  refine ⟨fun e h hh => ?_, fun hz => ?_⟩
  · have h1 := bi_rsN P (k := h) (by omega) (pp_n P) h5
    rw [show pp_rsN P (pp_n P) = pp_rs P from rfl, e, bi_0 (by omega)] at h1
    cases q : pp_rk P h with
    | false => rfl
    | true => rw [if_pos ⟨hh, q⟩] at h1; exact absurd h1 (by decide)
  · have : ∀ n, n ≤ pp_n P → pp_rsN P n = 0 := by
      intro n
      induction n with
      | zero => intro _; rfl
      | succ n ih =>
        intro hn
        rw [pp_rsN, if_neg (by rw [hz n (by omega)]; decide)]
        exact ih (by omega)
    exact this _ (Nat.le_refl _)
theorem voH_c {P' : pp_T} : ∀ n, (∀ h, h < n → pp_rk P' h = pp_rk P h) → (∀ h, h < n → pp_wt P' h = pp_wt P h) → pp_voH P' n = pp_voH P n
  | 0, _, _ => rfl
  | n + 1, h1, h2 => by rw [pp_voH, pp_voH, voH_c n (fun h hh => h1 h (by omega)) (fun h hh => h2 h (by omega)), h1 n (by omega), h2 n (by omega)]
theorem voH_0 : ∀ n, (∀ h, h < n → pp_rk P h = false) → pp_voH P n = 0
  | 0, _ => rfl
  | n + 1, h1 => by rw [pp_voH, voH_0 n (fun h hh => h1 h (by omega)), if_neg (by rw [h1 n (by omega)]; decide), Int32.add_zero]
theorem voS_c {P' : pp_T} {a : Int32} : ∀ n, (∀ s, s < n → P' (8 + s) 0 = P (8 + s) 0 ∧ P' (8 + s) 1 = P (8 + s) 1) → pp_voS P' a n = pp_voS P a n
  | 0, _ => rfl
  | n + 1, h1 => by rw [pp_voS, pp_voS, voS_c n (fun h hh => h1 h (by omega)), (h1 n (by omega)).1, (h1 n (by omega)).2]
theorem voS_0 {a : Int32} : ∀ n, (∀ s, s < n → ¬ P (8 + s) 1 = 0) → pp_voS P a n = a
  | 0, _ => rfl
  | n + 1, h1 => by rw [pp_voS, voS_0 n (fun h hh => h1 h (by omega)), if_neg (h1 n (by omega)), Int32.add_zero]
/-- how many stones aren't laid -/
def un (P : pp_T) : Nat → Nat
  | 0 => 0
  | s + 1 => un P s + (if P (8 + s) 1 = 0 then 1 else 0)
theorem un_le : ∀ n, un P n ≤ n
  | 0 => Nat.le_refl 0
  | n + 1 => by
    have := un_le n
    rw [un]
    split <;> omega
theorem un_0 : ∀ n, un P n = 0 → ∀ s, s < n → ¬ P (8 + s) 1 = 0
  | 0, _, s, hs => by omega
  | n + 1, h, s, hs => by
    rw [un] at h
    by_cases q : P (8 + n) 1 = 0
    · rw [if_pos q] at h; omega
    · rw [if_neg q] at h
      by_cases e : s = n
      · subst e; exact q
      · exact un_0 n (by omega) s (by omega)
theorem un_c {P' : pp_T} : ∀ n, (∀ s, s < n → P' (8 + s) 1 = P (8 + s) 1) → un P' n = un P n
  | 0, _ => rfl
  | n + 1, h => by rw [un, un, un_c n (fun s hs => h s (by omega)), h n (by omega)]
theorem un_lay {q : Nat} (hq : P (8 + q) 1 = 0) : ∀ n, q < n → un (tn_u P (8 + q) 1 1) n + 1 = un P n
  | 0, h => by omega
  | n + 1, h => by
    rw [un, un]
    by_cases e : q = n
    · subst e
      rw [tn_u_s, if_pos hq, if_neg (by decide), un_c (P := P) (P' := tn_u P (8 + q) 1 1) q (fun s hs => tn_u_n (Or.inl (by omega)))]
    · have := un_lay hq n (by omega)
      rw [tn_u_n (Or.inl (by omega))]
      omega
theorem hv_un (hw : pp_w P) : ∀ n, n ≤ pp_m P → ((pp_hv P n).1 = 0 → un P n = 0) ∧ ((pp_hv P n).1 ≠ 0 → P (8 + ((pp_hv P n).1 - 1)) 1 = 0)
  | 0, _ => ⟨fun _ => rfl, fun h => absurd rfl h⟩
  | n + 1, hn => by
    obtain ⟨i1, i2⟩ := hv_un hw n (by omega)
    obtain ⟨s0, s1⟩ := hv_snd hw n (by omega)
    obtain ⟨⟨w, hw1, hw2, hwe⟩, -⟩ := hw.2.2.2.2.2.1 n (by omega)
    rw [pp_hv]
    by_cases q : P (8 + n) 1 = 0 ∧ (pp_hv P n).2 < P (8 + n) 0
    · rw [if_pos q]
      exact ⟨fun h => by simp at h, fun _ => by simpa using q.1⟩
    · rw [if_neg q]
      refine ⟨fun h => ?_, i2⟩
      rw [un, i1 h, if_neg (fun z => q ⟨z, ?_⟩)]
      rw [s0 h, hwe]
      exact (nI_pos_iff (by omega)).mpr (by omega)
theorem lay_un (hw : pp_w P) : un (pp_lay P) (pp_m P) = un P (pp_m P) - 1 := by
  obtain ⟨i1, i2⟩ := hv_un hw (pp_m P) (Nat.le_refl _)
  have hlt := pp_hv_lt P (pp_m P)
  unfold pp_lay
  by_cases e : (pp_hv P (pp_m P)).1 = 0
  · rw [if_pos e, i1 e]
  · rw [if_neg e]
    have := un_lay (i2 e) (pp_m P) (by omega)
    omega
theorem own_s {h s : Nat} (hs : 3 + h < 8) {k : Nat} : pp_own P h (8 + s) k = P (8 + s) k := by rw [pp_own_ne (by omega)]
theorem p2_s (hw : pp_w P) (h0 : 0 < pp_n P) {s k : Nat} : pp_p2 P (8 + s) k = P (8 + s) k := by
  have h5 := hw.2.1
  obtain ⟨-, g2, -⟩ := hw.2.2.2.2.2.2.1 h0
  unfold pp_p2
  split
  · rw [own_s (by omega)]
    unfold pp_p1
    rw [pp_los_s (by omega)]
  · unfold pp_p1
    rw [pp_los_s (by omega)]
end ST
section SV
variable {P : pp_T}
/-- what stands while it isn't quiet -/
theorem still_a (hw : pp_w P) (h0 : 0 < pp_n P) {t : Nat} (hv : ∀ j, j ≤ t → ¬ pp_vo (pp_pns P j) = 0) :
    ∀ j, j ≤ t + 1 → (∀ h, h < pp_n P → ∃ w, w + min j 9 ≤ 9 ∧ pp_pns P j (3 + h) 2 = nI w) ∧ (∀ h, h < pp_n P → ∀ i, i ≤ j → pp_rk (pp_pns P j) h = true → pp_rk (pp_pns P i) h = true) ∧ (∀ h, h < pp_n P → pp_wt (pp_pns P j) h = pp_wt P h) := by
  have h5 := hw.2.1
  intro j
  induction j with
  | zero =>
    intro _
    refine ⟨fun h hh => ?_, fun h hh i hi q => ?_, fun _ _ => rfl⟩
    · obtain ⟨w, h1, h2⟩ := (hw.2.2.2.2.1 h hh).2.2.1
      exact ⟨w, by simpa using h1, h2⟩
    · rw [show i = 0 by omega]; exact q
  | succ j ih =>
    intro hj
    obtain ⟨i1, i2, i3⟩ := ih (by omega)
    have hvj := hv j (by omega)
    have hnj : pp_n (pp_pns P j) = pp_n P := pp_pns_n j
    refine ⟨fun h hh => ?_, fun h hh i hi q => ?_, fun h hh => ?_⟩
    · obtain ⟨w, h1, h2⟩ := i1 h hh
      exact ⟨w - 1, by omega, pn_sleep hvj (by omega) (by omega) (by omega) h2⟩
    · by_cases e : i = j + 1
      · subst e; exact q
      · refine i2 h hh i (by omega) ?_
        rw [pp_pns, rk_pn hvj (by omega), rk_p2] at q
        split at q
        · cases q
        · exact q
    · rw [pp_pns, wt_pn (by omega)]
      exact i3 h hh
theorem g_step (hw : pp_w P) (h0 : 0 < pp_n P) {w : Nat} (hw4 : P 0 4 = nI w) (hwl : w ≤ 4) {t : Nat} (hv : ∀ j, j ≤ t → ¬ pp_vo (pp_pns P j) = 0) : ∀ j, j ≤ t + 1 → pp_pns P j 0 4 = nI w ∧ pp_g (pp_pns P j) = (pp_g P + j * w) % pp_n P := by
  intro j
  have h5 := hw.2.1
  obtain ⟨-, g2, -⟩ := hw.2.2.2.2.2.2.1 h0
  induction j with
  | zero =>
    intro _
    refine ⟨hw4, ?_⟩
    rw [Nat.zero_mul, Nat.add_zero, Nat.mod_eq_of_lt g2]
    rfl
  | succ j ih =>
    intro hj
    obtain ⟨i1, i2⟩ := ih (by omega)
    have hvj := hv j (by omega)
    have hwj := hw.pns h0 j
    have hnj : pp_n (pp_pns P j) = pp_n P := pp_pns_n j
    have hn3 : pp_n (pp_p3 (pp_pns P j)) = pp_n P := (pp_n0 pp_p3_0).trans hnj
    obtain ⟨v, e1, e2, e3, e4, e5⟩ := pp_hang_g hwj.p3 (by rw [hn3]; exact h0)
    rw [pp_pns, pn_e hvj]
    rw [pp_p3_0, i1] at e1
    have ev : v = w := ((nI_eq (by omega) (by omega)).mp e1).symm
    subst ev
    refine ⟨?_, ?_⟩
    · have : pp_hang (pp_p3 (pp_pns P j)) 0 4 = pp_p3 (pp_pns P j) 0 4 := tn_u_n (Or.inr (by decide))
      rw [this, pp_p3_0]; exact i1
    · rw [e5, hn3, pp_g0 pp_p3_0, i2, Nat.mod_add_mod, Nat.succ_mul, Nat.add_assoc]
theorem still_1 (hw : pp_w P) (h0 : 0 < pp_n P) {t : Nat} (ht : 18 ≤ t) : pp_vo (pp_pns P (t + 1)) = pp_vo (pp_pns P t) := by
  have h5 := hw.2.1
  have h4 := hw.2.2.2.1
  by_cases hq : pp_vo (pp_pns P t) = 0
  · rw [pp_pns, pn_q hq]
  have hv : ∀ j, j ≤ t → ¬ pp_vo (pp_pns P j) = 0 := fun j hj q => hq (by
    have := pns_q j (t - j) q
    rw [show j + (t - j) = t by omega] at this
    exact this)
  obtain ⟨-, g2, w, hw1, hw2, hw4⟩ := hw.2.2.2.2.2.2.1 h0
  have hA := still_a hw h0 hv
  have hGs := g_step hw h0 hw4 hw2 hv
  have hN : ∀ j, pp_n (pp_pns P j) = pp_n P := fun j => pp_pns_n j
  have hgl : ∀ j, j ≤ t + 1 → pp_g (pp_pns P j) < pp_n P := fun j hj => by rw [(hGs j hj).2]; exact Nat.mod_lt _ h0
  -- behind the eighth night who is hung over owns
  have own8 : ∀ j, 8 ≤ j → j ≤ t → pp_rk (pp_pns P (j + 1)) (pp_g (pp_pns P j)) = false := by
    intro j h8 hj
    have hg := hgl j (by omega)
    obtain ⟨v, h1, h2⟩ := (hA j (by omega)).1 _ hg
    have h3 := pn_sleep (hv j hj) (by rw [hN]; exact hg) (by omega) (by omega) h2
    rw [pn_h (hv j hj) (by omega), p2_k2, show v - 1 = 0 by omega, nI_0] at h3
    rw [pp_pns, rk_pn (hv j hj) (by omega), rk_p2, if_pos ⟨rfl, h3⟩]
  -- from the fourteenth on no house changes
  have rk14 : ∀ j, 14 ≤ j → j ≤ t → ∀ h, h < pp_n P → pp_rk (pp_pns P (j + 1)) h = pp_rk (pp_pns P j) h := by
    intro j h14 hj h hh
    rw [pp_pns, rk_pn (hv j hj) (by omega), rk_p2]
    split
    · rename_i z
      have e : pp_g (pp_pns P (j - pp_n P)) = pp_g (pp_pns P j) := by
        rw [(hGs _ (by omega)).2, (hGs j (by omega)).2]
        have : pp_g P + j * w = pp_g P + (j - pp_n P) * w + pp_n P * w := by
          rw [Nat.add_assoc, ← Nat.add_mul, show j - pp_n P + pp_n P = j by omega]
        rw [this, Nat.add_mul_mod_self_left]
      have h1 := own8 (j - pp_n P) (by omega) (by omega)
      rw [e, ← z.1] at h1
      cases q : pp_rk (pp_pns P j) h with
      | false => rfl
      | true =>
        have := (hA j (by omega)).2.1 h hh (j - pp_n P + 1) (by omega) q
        rw [h1] at this
        cases this
    · rfl
  have rkc : ∀ d, 14 + d ≤ t + 1 → ∀ h, h < pp_n P → pp_rk (pp_pns P (14 + d)) h = pp_rk (pp_pns P 14) h := by
    intro d
    induction d with
    | zero => intro _ h hh; rfl
    | succ d ih =>
      intro hd h hh
      have := rk14 (14 + d) (by omega) (by omega) h hh
      rw [show 14 + (d + 1) = 14 + d + 1 by omega, this]
      exact ih (by omega) h hh
  have voHc : pp_voH (pp_pns P (t + 1)) (pp_n P) = pp_voH (pp_pns P t) (pp_n P) :=
    voH_c _ (fun h hh => rk14 t (by omega) (Nat.le_refl _) h hh) (fun h hh => ((hA (t + 1) (by omega)).2.2 h hh).trans ((hA t (by omega)).2.2 h hh).symm)
  have hM : ∀ j, pp_m (pp_pns P j) = pp_m P := by
    intro j
    induction j with
    | zero => rfl
    | succ j ih => rw [pp_pns, pp_pn_m, ih]
  by_cases hz : ∀ h, h < pp_n P → pp_rk (pp_pns P 14) h = false
  · exfalso
    have stp : ∀ j, 14 ≤ j → j ≤ t → un (pp_pns P (j + 1)) (pp_m P) = un (pp_pns P j) (pp_m P) - 1 := by
      intro j h14 hj
      have hwj := hw.pns h0 j
      have hr : pp_rs (pp_p2 (pp_pns P j)) = 0 := by
        rw [rs_0 (by rw [pp_n0 pp_p2_0, hN]; exact h5)]
        intro h hh
        rw [pp_n0 pp_p2_0, hN] at hh
        rw [← rk_pn (hv j hj) (by omega)]
        have := rkc (j + 1 - 14) (by omega) h hh
        rw [show 14 + (j + 1 - 14) = j + 1 by omega] at this
        exact this.trans (hz h hh)
      have e3 : pp_p3 (pp_pns P j) = pp_lay (pp_p2 (pp_pns P j)) := by unfold pp_p3; rw [if_pos hr]
      rw [pp_pns, pn_e (hv j hj), un_c (P := pp_p3 (pp_pns P j)) (P' := pp_hang (pp_p3 (pp_pns P j))) _ (fun s hs => by rw [pp_hang_i (by omega)]), e3]
      have hl := lay_un hwj.p2
      rw [pp_m0 pp_p2_0, hM] at hl
      rw [hl, un_c (P := pp_pns P j) (P' := pp_p2 (pp_pns P j)) _ (fun s hs => p2_s hwj (by rw [hN]; exact h0))]
    have u14 := un_le (P := pp_pns P 14) (pp_m P)
    have u15 : un (pp_pns P 15) (pp_m P) = un (pp_pns P 14) (pp_m P) - 1 := stp 14 (by omega) (by omega)
    have u16 : un (pp_pns P 16) (pp_m P) = un (pp_pns P 15) (pp_m P) - 1 := stp 15 (by omega) (by omega)
    have u17 : un (pp_pns P 17) (pp_m P) = un (pp_pns P 16) (pp_m P) - 1 := stp 16 (by omega) (by omega)
    have u18 : un (pp_pns P 18) (pp_m P) = un (pp_pns P 17) (pp_m P) - 1 := stp 17 (by omega) (by omega)
    have hu : un (pp_pns P 18) (pp_m P) = 0 := by omega
    refine hv 18 (by omega) ?_
    unfold pp_vo
    rw [hN, hM, voH_0 _ (fun h hh => (rkc 4 (by omega) h hh).trans (hz h hh)), voS_0 _ (un_0 _ hu)]
  · have hr : ¬ pp_rs (pp_p2 (pp_pns P t)) = 0 := by
      intro hr
      rw [rs_0 (by rw [pp_n0 pp_p2_0, hN]; exact h5)] at hr
      apply hz
      intro h hh
      have h1 := hr h (by rw [pp_n0 pp_p2_0, hN]; exact hh)
      rw [← rk_pn (hv t (Nat.le_refl _)) (by omega)] at h1
      have := rkc (t + 1 - 14) (by omega) h hh
      rw [show 14 + (t + 1 - 14) = t + 1 by omega] at this
      rw [← this]
      exact h1
    have e3 : pp_p3 (pp_pns P t) = pp_p2 (pp_pns P t) := by unfold pp_p3; rw [if_neg hr]
    have hwt := hw.pns h0 t
    have es : ∀ s k, pp_pns P (t + 1) (8 + s) k = pp_pns P t (8 + s) k := by
      intro s k
      rw [pp_pns, pn_e (hv t (Nat.le_refl _)), pp_hang_i (by omega), e3]
      exact p2_s hwt (by rw [hN]; exact h0)
    unfold pp_vo
    rw [hN, hN, hM, hM, voHc]
    exact voS_c _ (fun s hs => ⟨es s 0, es s 1⟩)
theorem still (hw : pp_w P) (h0 : 0 < pp_n P) : ∀ d, pp_vo (pp_pns P (18 + d)) = pp_vo (pp_pns P 18)
  | 0 => rfl
  | d + 1 => (still_1 hw h0 (t := 18 + d) (by omega)).trans (still hw h0 d)
theorem still_min (hw : pp_w P) (h0 : 0 < pp_n P) (t : Nat) : pp_vo (pp_pns P (min 18 t)) = pp_vo (pp_pns P t) := by
  by_cases h : 18 ≤ t
  · rw [Nat.min_eq_left h]
    have := still hw h0 (t - 18)
    rw [show 18 + (t - 18) = t by omega] at this
    exact this.symm
  · rw [Nat.min_eq_right (by omega)]
theorem q_no : ∀ m t, (∀ j, t ≤ j → j < t + m → ¬ pp_vo (pp_pns P j) = 0) → pp_q P t m = -9
  | 0, _, _ => rfl
  | m + 1, t, h => by rw [pp_q, if_neg (h t (Nat.le_refl _) (by omega))]; exact q_no m (t + 1) (fun j h1 h2 => h j (by omega) (by omega))
theorem q_yes {j : Nat} (hj : pp_vo (pp_pns P j) = 0) : ∀ m t, t ≤ j → j < t + m → (∀ i, t ≤ i → i < j → ¬ pp_vo (pp_pns P i) = 0) → pp_q P t m = nI j
  | 0, t, h1, h2, _ => by omega
  | m + 1, t, h1, h2, h3 => by
    rw [pp_q]
    by_cases e : t = j
    · subst e; rw [if_pos hj]
    · rw [if_neg (h3 t (Nat.le_refl _) (by omega))]
      exact q_yes hj m (t + 1) (by omega) (by omega) (fun i h4 h5 => h3 i (by omega) h5)
/-- looking at eighteen nights is enough -/
theorem q_18 (hw : pp_w P) (h0 : 0 < pp_n P) (N : Nat) : pp_q P 0 (min 18 N + 1) = pp_q P 0 (N + 1) := by
  by_cases hN : N ≤ 18
  · rw [Nat.min_eq_right hN]
  · rw [Nat.min_eq_left (by omega)]
    by_cases hx : ∃ j, j ≤ 18 ∧ pp_vo (pp_pns P j) = 0
    · obtain ⟨j, ⟨hj, hv⟩, hl⟩ := pk_least (fun j => j ≤ 18 ∧ pp_vo (pp_pns P j) = 0) hx
      have hl' : ∀ i, 0 ≤ i → i < j → ¬ pp_vo (pp_pns P i) = 0 := fun i _ h2 q => hl i h2 ⟨by omega, q⟩
      rw [q_yes hv (18 + 1) 0 (by omega) (by omega) hl', q_yes hv (N + 1) 0 (by omega) (by omega) hl']
    · have h1 : ∀ j, j ≤ 18 → ¬ pp_vo (pp_pns P j) = 0 := fun j hj q => hx ⟨j, hj, q⟩
      have h2 : ∀ j, ¬ pp_vo (pp_pns P j) = 0 := by
        intro j
        rw [← still_min hw h0 j]
        exact h1 _ (Nat.min_le_left _ _)
      rw [q_no (18 + 1) 0 (fun j _ _ => h2 j), q_no (N + 1) 0 (fun j _ _ => h2 j)]
end SV
