/-! ===== calls: kinds, wrongs, steps ===== -/
def rdB (Q : pp_T) (n : Nat) (t : Nat → Nat) (v : Nat → Int32) : Bool := decide (∀ q, q < n → pp_vo (pp_pns Q (t q)) = v q)
def rd5 (σ : Nat → Nat → Int32) (n : Nat) (t : Nat → Nat) (v : Nat → Int32) : Prop := n ≤ 8 ∧ σ 2 6 = nI n ∧ ∀ r, r < n → σ 28 r = nI (min 18 (t r)) ∧ σ 29 r = v r
def rd6 (σ : Nat → Nat → Int32) (n : Nat) (t : Nat → Nat) (v : Nat → Int32) : Prop := n ≤ 8 ∧ σ 39 26 = nI n ∧ ∀ r, r < n → t r ≤ 60 ∧ σ 52 r = nI (t r) ∧ σ 53 r = v r
def pp_kf (f : Nat → Bool) (v : Nat) (s : Int32) : Nat → Int32
  | 0 => s
  | m + 1 => pp_kf f (v + 1) (if f v = true then s ||| ((1 : Int32) <<< (nI v &&& 31)) else s) m
theorem rd_of {σ : Nat → Nat → Int32} (h : ro_R σ) : ∃ n t v, rd5 σ n t v ∧ rd6 σ n t v := by
  obtain ⟨n, hn, e26, e6, hq⟩ := h
  refine ⟨n, fun q => (σ 52 q).toNatClampNeg, fun q => σ 53 q, ⟨hn, e6, fun r hr => ?_⟩, ⟨hn, e26, fun r hr => ?_⟩⟩
  · obtain ⟨⟨t, ht, e1, e2⟩, e3⟩ := hq r hr
    refine ⟨?_, e3.symm⟩
    show σ 28 r = nI (min 18 (σ 52 r).toNatClampNeg)
    rw [e1, nI_cl (by omega)]
    exact e2
  · obtain ⟨⟨t, ht, e1, e2⟩, e3⟩ := hq r hr
    refine ⟨?_, ?_, rfl⟩
    · show (σ 52 r).toNatClampNeg ≤ 60
      rw [e1, nI_cl (by omega)]
      exact ht
    · show σ 52 r = nI (σ 52 r).toNatClampNeg
      rw [e1, nI_cl (by omega)]
theorem rd5.c {σ σ' : Nat → Nat → Int32} {n : Nat} {t : Nat → Nat} {v : Nat → Int32} (h : rd5 σ n t v) (e2 : σ' 2 = σ 2) (e28 : σ' 28 = σ 28) (e29 : σ' 29 = σ 29) : rd5 σ' n t v := by
  unfold rd5
  rw [e2, e28, e29]
  exact h
theorem rd6.c {σ σ' : Nat → Nat → Int32} {n : Nat} {t : Nat → Nat} {v : Nat → Int32} (h : rd6 σ n t v) (e2 : σ' 39 26 = σ 39 26) (e28 : σ' 52 = σ 52) (e29 : σ' 53 = σ 53) : rd6 σ' n t v := by
  unfold rd6
  rw [e2, e28, e29]
  exact h
section QS
variable {ks : List (Nat × Nat)} {ρ : Nat → Nat → Nat} {σ : Nat → Nat → Int32} {Γ : tn_G} {P Q : pp_T} {n : Nat} {t : Nat → Nat} {v : Nat → Int32}
theorem l5_iv (hG : tn_Gd ks ρ) {K : Option Value → List (Nat × Nat) → (Nat → Nat → Nat) → (Nat → Nat → Int32) → Prop} (hΓ : tn_is Γ m_X5_isVoiceAsRead) (hK : tn_rt Γ m_X5_isVoiceAsRead K) (hn : n ≤ 8) (h6 : σ 2 6 = nI n) {T x : Int32} (hy : (∀ r, r < n → σ 28 r = T → σ 29 r = x) → K (some (.int 1)) ks ρ σ) (hz : ¬ (∀ r, r < n → σ 28 r = T → σ 29 r = x) → K (some (.int 0)) ks ρ σ) : ∀ m r, r + m = n → (∀ j, j < r → σ 28 j = T → σ 29 j = x) → tn_A Γ 2 [.ref 2, .int T, .int x, .int (nI r)] [] 0 0 ks ρ σ := by
  intro m
  induction m with
  | zero =>
    intro r hr hj
    refine k_X5_isVoiceAsRead_2 hG hΓ hK _ _ _ ⟨fun _ => hy (fun j h1 => hj j (by omega)), fun z => ?_⟩
    rw [h6, nI_leI (by omega) (by omega)] at z; omega
  | succ m ih =>
    intro r hr hj
    refine k_X5_isVoiceAsRead_2 hG hΓ hK _ _ _ ⟨fun z => ?_, fun _ => ?_⟩
    · rw [h6, nI_leI (by omega) (by omega)] at z; omega
    · rw [nI_cl (by omega)]
      refine ⟨vp_in_nI (by omega) (by omega), fun z w ew => ?_, fun z => ⟨fun z2 w ew => ?_, fun z2 => hz (fun all => z2 (all r (by omega) z))⟩⟩
      · rw [nI_1] at ew; subst ew
        refine ih (r + 1) (by omega) (fun j h1 h2 => ?_)
        by_cases e : j = r
        · subst e; exact absurd h2 z
        · exact hj j (by omega) h2
      · rw [nI_1] at ew; subst ew
        refine ih (r + 1) (by omega) (fun j h1 h2 => ?_)
        by_cases e : j = r
        · subst e; exact z2
        · exact hj j (by omega) h2
theorem q5_iv (hG : tn_Gd ks ρ) (hn : n ≤ 8) (h6 : σ 2 6 = nI n) {T x : Int32} {K : Int32 → (Nat → Nat → Int32) → Prop} (hy : (∀ r, r < n → σ 28 r = T → σ 29 r = x) → K 1 σ) (hz : ¬ (∀ r, r < n → σ 28 r = T → σ 29 r = x) → K 0 σ) : tn_CI m_X5_isVoiceAsRead [.ref 2, .int T, .int x] ks ρ σ K := by
  refine tn_iI mv_X5_isVoiceAsRead (Nat.le_of_ble_eq_true rfl) (fun Γ hΓ hK => k_X5_isVoiceAsRead_0 hG hΓ hK _ _ ?_)
  rw [← nI_0]
  exact l5_iv hG hΓ hK hn h6 (T := T) (x := x) (fun z => by rw [tn_ki]; exact hy z) (fun z => by rw [tn_ki]; exact hz z) n 0 (by omega) (fun j hj => by omega)
theorem l5_last (hG : tn_Gd ks ρ) {K : Option Value → List (Nat × Nat) → (Nat → Nat → Nat) → (Nat → Nat → Int32) → Prop} (hΓ : tn_is Γ m_X5_lastNightRead) (hK : tn_rt Γ m_X5_lastNightRead K) (h5 : rd5 σ n t v) (h : ∀ L : Int32, (L = -9 ∨ ∃ j, j ≤ 18 ∧ L = nI j) → (∀ r, r < n → σ 28 r ≤ L) → K (some (.int L)) ks ρ σ) : ∀ m r (L : Int32), r + m = n → (L = -9 ∨ ∃ j, j ≤ 18 ∧ L = nI j) → (∀ j, j < r → σ 28 j ≤ L) → tn_A Γ 5 [.ref 2, .int L, .int (nI r)] [] 0 0 ks ρ σ := by
  intro m
  obtain ⟨hn, h6, hr28⟩ := h5
  induction m with
  | zero =>
    intro r L hr hL hj
    refine k_X5_lastNightRead_5 hG hΓ hK _ _ ⟨fun _ => h L hL (fun j h1 => hj j (by omega)), fun z => ?_⟩
    rw [h6, nI_leI (by omega) (by omega)] at z; omega
  | succ m ih =>
    intro r L hr hL hj
    refine k_X5_lastNightRead_5 hG hΓ hK _ _ ⟨fun z => ?_, fun _ => ?_⟩
    · rw [h6, nI_leI (by omega) (by omega)] at z; omega
    · rw [nI_cl (by omega)]
      refine ⟨vp_in_nI (by omega) (by omega), fun w ew y ey => ?_⟩
      rw [nI_1] at ey; subst ey
      by_cases e : L < σ 28 r
      · rw [if_pos e] at ew
        subst ew
        refine ih (r + 1) _ (by omega) (Or.inr ⟨min 18 (t r), by omega, (hr28 r (by omega)).1⟩) (fun j h1 => ?_)
        by_cases e' : j = r
        · subst e'; exact Int32.le_refl _
        · exact Int32.le_trans (hj j (by omega)) (Int32.le_of_lt e)
      · rw [if_neg e] at ew
        rw [ew]
        refine ih (r + 1) _ (by omega) hL (fun j h1 => ?_)
        by_cases e' : j = r
        · subst e'; exact Int32.not_lt.mp e
        · exact hj j (by omega)
theorem l5_dr (hG : tn_Gd ks ρ) {K : Option Value → List (Nat × Nat) → (Nat → Nat → Nat) → (Nat → Nat → Int32) → Prop} (hΓ : tn_is Γ m_X5_doReadingsHoldOfTrial) (hK : tn_rt Γ m_X5_doReadingsHoldOfTrial K) (hw : pp_w Q) (h0 : 0 < pp_n Q) {σ0 : Nat → Nat → Int32} (h5 : rd5 σ0 n t v) {j : Nat} (hj : j ≤ 18) (hall : ∀ r, r < n → σ0 28 r ≤ nI j) (h : ∀ σ', rc_F 15 σ0 σ' → K (some (.int (if rdB Q n t v = true then 1 else 0))) ks ρ σ') : ∀ m d (σ : Nat → Nat → Int32), d + m = j + 1 → rc_P σ 15 (pp_pns Q d) → rc_F 15 σ0 σ → (∀ r, r < n → min 18 (t r) < d → pp_vo (pp_pns Q (t r)) = v r) → tn_A Γ 7 [.ref 2, .int (nI j), .int (nI d)] [] 0 0 ks ρ σ := by
  intro m
  obtain ⟨hn, h6, hr28⟩ := id h5
  induction m with
  | zero =>
    intro d σ hd hR hF hi
    refine k_X5_doReadingsHoldOfTrial_7 hG hΓ hK _ _ ⟨fun _ => ?_, fun z => ?_⟩
    · have hB : rdB Q n t v = true := by
        unfold rdB
        refine decide_eq_true (fun r hr => hi r hr ?_)
        have := hall r hr
        rw [(hr28 r hr).1, nI_leI (by omega) (by omega)] at this
        omega
      have h' := h σ hF
      rw [if_pos hB] at h'
      exact h'
    · rw [nI_ltI (by omega) (by omega)] at z; omega
  | succ m ih =>
    intro d σ hd hR hF hi
    have hwd := hw.pns h0 d
    have s5 : rd5 σ n t v := h5.c (hF 2 (by omega)) (hF 28 (by omega)) (hF 29 (by omega))
    obtain ⟨_, g6, g28⟩ := s5
    refine k_X5_doReadingsHoldOfTrial_7 hG hΓ hK _ _ ⟨fun z => ?_, fun _ => ?_⟩
    · rw [nI_ltI (by omega) (by omega)] at z; omega
    · refine q_voice hG pb15 hR hwd (q5_iv hG hn g6 (fun all => ⟨fun _ => ?_, fun z => absurd z (by decide)⟩) (fun all => ⟨fun z => absurd rfl z, fun _ => ?_⟩))
      · refine q_passNight hG pb15 hR hwd (by rw [pp_pns_n]; exact h0) (fun σ1 r1 f1 w ew => ?_)
        rw [nI_1] at ew; subst ew
        refine ih (d + 1) σ1 (by omega) r1 (hF.tr f1) (fun r hr hlt => ?_)
        by_cases e : min 18 (t r) = d
        · have := all r hr (by rw [(g28 r hr).1, e])
          rw [(g28 r hr).2] at this
          rw [this, ← still_min hw h0 (t r), e]
        · exact hi r hr (by omega)
      · have hB : rdB Q n t v = false := by
          unfold rdB
          refine decide_eq_false (fun al => all (fun r hr e => ?_))
          rw [(g28 r hr).1] at e
          have e' : min 18 (t r) = d := (nI_eq (by omega) (by omega)).mp e
          rw [(g28 r hr).2, ← al r hr, ← still_min hw h0 (t r), e']
        have h' := h σ hF
        rw [hB] at h'
        exact h'
theorem q5_dr (hG : tn_Gd ks ρ) (hR : rc_P σ 15 Q) (hw : pp_w Q) (h0 : 0 < pp_n Q) (h5 : rd5 σ n t v) {K : Int32 → (Nat → Nat → Int32) → Prop} (h : ∀ σ', rc_F 15 σ σ' → K (if rdB Q n t v = true then 1 else 0) σ') : tn_CI m_X5_doReadingsHoldOfTrial [.ref 2] ks ρ σ K := by
  refine tn_iI mv_X5_doReadingsHoldOfTrial (Nat.le_of_ble_eq_true rfl) (fun Γ hΓ hK => k_X5_doReadingsHoldOfTrial_0 hG hΓ hK ?_)
  refine tn_iI mv_X5_lastNightRead (Nat.le_of_ble_eq_true rfl) (fun Γ1 hΓ1 hK1 => k_X5_lastNightRead_0 hG hΓ1 hK1 ?_)
  rw [← nI_0]
  refine l5_last hG hΓ1 hK1 h5 (fun L hL hall => ?_) n 0 (-9) (by omega) (Or.inl rfl) (fun j hj => by omega)
  · rw [tn_ki]
    rcases hL with hL | ⟨j, hj, hL⟩
    · subst hL
      refine k_X5_doReadingsHoldOfTrial_7 hG hΓ hK _ _ ⟨fun _ => ?_, fun z => absurd (by decide) z⟩
      have hB : rdB Q n t v = true := by
        unfold rdB
        refine decide_eq_true (fun r hr => ?_)
        have := hall r hr
        rw [(h5.2.2 r hr).1] at this
        have z : (0 : Int32) ≤ -9 := Int32.le_trans (nI_pos' (n := min 18 (t r)) (by omega)) this
        exact absurd z (by decide)
      have h' := h σ rc_F.rf
      rw [if_pos hB] at h'
      rw [tn_ki]
      exact h'
    · subst hL
      exact l5_dr hG hΓ hK hw h0 h5 hj hall (fun σ' f => by rw [tn_ki]; exact h σ' f) (j + 1) 0 σ (by omega) hR rc_F.rf (fun r hr z => by omega)
theorem l6_so2 (hG : tn_Gd ks ρ) {K : Option Value → List (Nat × Nat) → (Nat → Nat → Nat) → (Nat → Nat → Int32) → Prop} (hΓ : tn_is Γ m_X6_areSo) (hK : tn_rt Γ m_X6_areSo K) (hw : pp_w Q) (h0 : 0 < pp_n Q) {τ : Nat → Nat → Int32} (h6 : rd6 τ n t v) (hk : mk_K (τ 50) 0 τ) {q : Nat} (hq : q < n) (h : tn_A Γ 9 [.ref 39, .int (if pp_vo (pp_pns Q (t q)) = v q then 1 else 0), .int (nI (q + 1)), .null] [] 0 0 ks ρ τ) : ∀ m d (σ : Nat → Nat → Int32), d + m = t q → rm_P σ (pp_pns Q d) → rm_F τ σ → tn_A Γ 23 [.ref 39, .null, .int (nI q), .int (nI d)] [] 0 0 ks ρ σ := by
  intro m
  obtain ⟨hn, h26, hr⟩ := id h6
  obtain ⟨ht, e52, e53⟩ := hr q hq
  induction m with
  | zero =>
    intro d σ hd hR hF
    have hd' : d = t q := by omega
    have s52 : σ 52 q = nI (t q) := by rw [hF.1 52 (by omega) (by omega) (by omega)]; exact e52
    have s53 : σ 53 q = v q := by rw [hF.1 53 (by omega) (by omega) (by omega)]; exact e53
    refine k_X6_areSo_23 hG hΓ hK _ _ ?_
    rw [nI_cl (by omega), s52]
    refine ⟨vp_in_nI (by omega) (by omega), fun _ => q6_voiceNow hG hR (hw.pns h0 d) ?_, fun z => ?_⟩
    · rw [s53, hd']
      refine ⟨fun z => q6_putBack hG nI_0.symm (by omega) hk hF (fun w ew => ?_), fun z => q6_putBack hG nI_0.symm (by omega) hk hF (fun w ew => ?_)⟩
      · rw [nI_1] at ew; subst ew
        rw [if_neg z] at h
        exact h
      · rw [nI_1] at ew; subst ew
        rw [if_pos z] at h
        exact h
    · rw [nI_leI (by omega) (by omega)] at z; omega
  | succ m ih =>
    intro d σ hd hR hF
    have s52 : σ 52 q = nI (t q) := by rw [hF.1 52 (by omega) (by omega) (by omega)]; exact e52
    refine k_X6_areSo_23 hG hΓ hK _ _ ?_
    rw [nI_cl (by omega), s52]
    refine ⟨vp_in_nI (by omega) (by omega), fun z => ?_, fun _ => q6_goesNight hG hR (hw.pns h0 d) (by rw [pp_pns_n]; exact h0) (fun σ1 m1 f1 _ w ew => ?_)⟩
    · rw [nI_leI (by omega) (by omega)] at z; omega
    · rw [nI_1] at ew; subst ew
      exact ih (d + 1) σ1 (by omega) m1 (hF.tr f1)
theorem l6_so (hG : tn_Gd ks ρ) {K : Option Value → List (Nat × Nat) → (Nat → Nat → Nat) → (Nat → Nat → Int32) → Prop} (hΓ : tn_is Γ m_X6_areSo) (hK : tn_rt Γ m_X6_areSo K) (hR : rm_P σ Q) (hw : pp_w Q) (h0 : 0 < pp_n Q) (h6 : rd6 σ n t v) (hk : mk_K (σ 50) 0 σ) (h : K (some (.int (if rdB Q n t v = true then 1 else 0))) ks ρ σ) : ∀ m q, q + m = n → (∀ r, r < q → pp_vo (pp_pns Q (t r)) = v r) → tn_A Γ 9 [.ref 39, .int (1 : Int32), .int (nI q), .null] [] 0 0 ks ρ σ := by
  intro m
  obtain ⟨hn, h26, hr⟩ := id h6
  induction m with
  | zero =>
    intro q hq hi
    refine k_X6_areSo_9 hG hΓ hK _ _ ⟨fun _ => ⟨Or.inr rfl, ?_⟩, fun z => ?_⟩
    · have hB : rdB Q n t v = true := by
        unfold rdB
        exact decide_eq_true (fun r hr => hi r (by omega))
      rw [if_pos hB] at h
      exact h
    · rw [h26, nI_leI (by omega) (by omega)] at z; omega
  | succ m ih =>
    intro q hq hi
    refine k_X6_areSo_9 hG hΓ hK _ _ ⟨fun z => ?_, fun _ => ⟨fun z => absurd z (by decide), fun _ => ?_⟩⟩
    · rw [h26, nI_leI (by omega) (by omega)] at z; omega
    · have go : tn_A Γ 23 [.ref 39, .null, .int (nI q), .int (nI 0)] [] 0 0 ks ρ σ := by
        refine l6_so2 hG hΓ hK hw h0 h6 hk (by omega) ?_ (t q) 0 σ (by omega) hR rm_F.rf
        by_cases e : pp_vo (pp_pns Q (t q)) = v q
        · rw [if_pos e]
          refine ih (q + 1) (by omega) (fun r hr => ?_)
          by_cases e' : r = q
          · subst e'; exact e
          · exact hi r (by omega)
        · rw [if_neg e]
          have hB : rdB Q n t v = false := by
            unfold rdB
            exact decide_eq_false (fun al => e (al q (by omega)))
          rw [hB] at h
          exact k_X6_areSo_9 hG hΓ hK _ _ ⟨fun _ => ⟨Or.inl rfl, h⟩, fun _ => ⟨fun _ => ⟨Or.inl rfl, h⟩, fun z => absurd rfl z⟩⟩
      rw [nI_0] at go
      exact go
theorem q6_so (hG : tn_Gd ks ρ) (hR : rm_P σ Q) (hw : pp_w Q) (h0 : 0 < pp_n Q) (h6 : rd6 σ n t v) {K : Int32 → (Nat → Nat → Int32) → Prop} (h : ∀ σ' : Nat → Nat → Int32, (∀ c, c ≠ 50 → σ' c = σ c) → K (if rdB Q n t v = true then 1 else 0) σ') : tn_CI m_X6_areSo [.ref 39] ks ρ σ K := by
  refine tn_iI mv_X6_areSo (Nat.le_of_ble_eq_true rfl) (fun Γ hΓ hK => k_X6_areSo_0 hG hΓ hK (q6_keep hG nI_0.symm (by omega) (fun σ1 k1 g1 g2 => ?_)))
  rw [← nI_0]
  exact l6_so hG hΓ hK (hR.c (fun c z _ => g1 c z)) hw h0 (h6.c (by rw [g1 39 (by omega)]) (g1 52 (by omega)) (g1 53 (by omega))) k1 (by rw [tn_ki]; exact h σ1 g1) n 0 (by omega) (fun r hr => by omega)
theorem pp_hs_e {P P' : pp_T} (e2 : P' 0 2 = P 0 2) (e3 : ∀ h, P' (3 + h) 3 = P (3 + h) 3) : pp_hs P' = pp_hs P := by
  have en : pp_n P' = pp_n P := by unfold pp_n; rw [e2]
  unfold pp_hs
  rw [en]
  exact hsN_3 _ (fun h _ => e3 h)
theorem pp_w.kd (hw : pp_w P) {x w : Nat} (hx5 : x < 5) (hx9 : w ≤ 2) : pp_w (tn_u P (3 + x) 0 (nI w)) := by
  have h5 := hw.2.1
  have h4 := hw.2.2.2.1
  refine hw.of (funext fun k => tn_u_n (Or.inl (by omega))) (fun j hj => ?_) (fun j hj => ?_)
  · obtain ⟨a1, a2, a3, a4⟩ := hw.2.2.2.2.1 j hj
    have a3' : ∃ u, u ≤ 9 ∧ tn_u P (3 + x) 0 (nI w) (3 + j) 2 = nI u := by rw [tn_u_n (Or.inr (by decide))]; exact a3
    have a4' : tn_u P (3 + x) 0 (nI w) (3 + j) 4 = 0 ∨ tn_u P (3 + x) 0 (nI w) (3 + j) 4 = 1 := by rw [tn_u_n (Or.inr (by decide))]; exact a4
    refine ⟨?_, ?_, a3', a4'⟩
    · by_cases e : j = x
      · subst e
        rw [tn_u_s]
        have : w = 0 ∨ w = 1 ∨ w = 2 := by omega
        rcases this with e | e | e <;> subst e <;> decide
      · rw [tn_u_n (by omega)]; exact a1
    · rw [tn_u_n (Or.inr (by decide))]; exact a2
  · by_cases e : 8 + j = 3 + x
    · obtain ⟨a1, a2⟩ := hw.2.2.2.2.2.1 j hj
      exfalso
      omega
    · rw [tn_u_n (Or.inl e), tn_u_n (Or.inl e)]
      exact hw.2.2.2.2.2.1 j hj
theorem rm_kd (hR : rm_P σ P) (hw : pp_w P) {x : Nat} (hx : x < 5) {w : Int32} : rm_P (tn_u σ 43 x w) (tn_u P (3 + x) 0 w) := by
  have h4 := hw.2.2.2.1
  obtain ⟨a1, a2, a3, a4, a5, a6, a7⟩ := hR
  have e0 : (tn_u P (3 + x) 0 w) 0 = P 0 := funext fun k => tn_u_n (Or.inl (by omega))
  have en : pp_n (tn_u P (3 + x) 0 w) = pp_n P := pp_n0 e0
  have em : pp_m (tn_u P (3 + x) 0 w) = pp_m P := by unfold pp_m; rw [e0]
  have eh : pp_hs (tn_u P (3 + x) 0 w) = pp_hs P := pp_hs_e (by rw [e0]) (fun h => tn_u_n (Or.inr (by decide)))
  unfold rm_P
  rw [en, em, eh, e0, show tn_u σ 43 x w 39 = σ 39 from funext fun k => tn_u_n (Or.inl (by decide)), show tn_u σ 43 x w 45 = σ 45 from funext fun k => tn_u_n (Or.inl (by decide)), show tn_u σ 43 x w 46 = σ 46 from funext fun k => tn_u_n (Or.inl (by decide)), show tn_u σ 43 x w 47 = σ 47 from funext fun k => tn_u_n (Or.inl (by decide))]
  refine ⟨a1, a2, a3, a4, a5, fun h hh => ?_, fun s hs => ?_⟩
  · obtain ⟨b1, b2, b3, b4, b5⟩ := a6 h hh
    rw [tn_u_n (c' := 3 + h) (k' := 2) (Or.inr (by decide)), tn_u_n (c' := 3 + h) (k' := 3) (Or.inr (by decide)), tn_u_n (c' := 3 + h) (k' := 4) (Or.inr (by decide)), tn_u_n (c' := 3 + h) (k' := 1) (Or.inr (by decide)), tn_u_n (c' := 44) (Or.inl (by decide))]
    have ef : tn_u σ 43 x w 43 h = tn_u P (3 + x) 0 w (3 + h) 0 := by
      by_cases e : h = x
      · subst e; rw [tn_u_s, tn_u_s]
      · rw [tn_u_n (by omega), tn_u_n (by omega)]; exact b1
    exact ⟨ef, b2, b3, b4, b5⟩
  · rw [tn_u_n (c' := 8 + s) (Or.inl (by omega)), tn_u_n (c' := 8 + s) (Or.inl (by omega))]
    exact a7 s hs
theorem pp_w.wr (hw : pp_w P) {x w : Nat} (hx5 : x < 5) (hx9 : w ≤ 9) : pp_w (tn_u P (3 + x) 1 (nI w)) := by
  have h5 := hw.2.1
  have h4 := hw.2.2.2.1
  refine hw.of (funext fun k => tn_u_n (Or.inl (by omega))) (fun j hj => ?_) (fun j hj => ?_)
  · obtain ⟨a1, a2, a3, a4⟩ := hw.2.2.2.2.1 j hj
    have a3' : ∃ u, u ≤ 9 ∧ tn_u P (3 + x) 1 (nI w) (3 + j) 2 = nI u := by rw [tn_u_n (Or.inr (by decide))]; exact a3
    have a4' : tn_u P (3 + x) 1 (nI w) (3 + j) 4 = 0 ∨ tn_u P (3 + x) 1 (nI w) (3 + j) 4 = 1 := by rw [tn_u_n (Or.inr (by decide))]; exact a4
    refine ⟨?_, ?_, a3', a4'⟩
    · rw [tn_u_n (Or.inr (by decide))]; exact a1
    · by_cases e : j = x
      · subst e
        exact ⟨w, hx9, by rw [tn_u_s]⟩
      · rw [tn_u_n (by omega)]; exact a2
  · by_cases e : 8 + j = 3 + x
    · obtain ⟨a1, a2⟩ := hw.2.2.2.2.2.1 j hj
      exfalso
      omega
    · rw [tn_u_n (Or.inl e), tn_u_n (Or.inl e)]
      exact hw.2.2.2.2.2.1 j hj
theorem rm_wr (hR : rm_P σ P) (hw : pp_w P) {x : Nat} (hx : x < 5) {w : Int32} : rm_P (tn_u σ 44 x w) (tn_u P (3 + x) 1 w) := by
  have h4 := hw.2.2.2.1
  obtain ⟨a1, a2, a3, a4, a5, a6, a7⟩ := hR
  have e0 : (tn_u P (3 + x) 1 w) 0 = P 0 := funext fun k => tn_u_n (Or.inl (by omega))
  have en : pp_n (tn_u P (3 + x) 1 w) = pp_n P := pp_n0 e0
  have em : pp_m (tn_u P (3 + x) 1 w) = pp_m P := by unfold pp_m; rw [e0]
  have eh : pp_hs (tn_u P (3 + x) 1 w) = pp_hs P := pp_hs_e (by rw [e0]) (fun h => tn_u_n (Or.inr (by decide)))
  unfold rm_P
  rw [en, em, eh, e0, show tn_u σ 44 x w 39 = σ 39 from funext fun k => tn_u_n (Or.inl (by decide)), show tn_u σ 44 x w 45 = σ 45 from funext fun k => tn_u_n (Or.inl (by decide)), show tn_u σ 44 x w 46 = σ 46 from funext fun k => tn_u_n (Or.inl (by decide)), show tn_u σ 44 x w 47 = σ 47 from funext fun k => tn_u_n (Or.inl (by decide))]
  refine ⟨a1, a2, a3, a4, a5, fun h hh => ?_, fun s hs => ?_⟩
  · obtain ⟨b1, b2, b3, b4, b5⟩ := a6 h hh
    rw [tn_u_n (c' := 3 + h) (k' := 2) (Or.inr (by decide)), tn_u_n (c' := 3 + h) (k' := 3) (Or.inr (by decide)), tn_u_n (c' := 3 + h) (k' := 4) (Or.inr (by decide)), tn_u_n (c' := 3 + h) (k' := 0) (Or.inr (by decide)), tn_u_n (c' := 43) (Or.inl (by decide))]
    have ef : tn_u σ 44 x w 44 h = tn_u P (3 + x) 1 w (3 + h) 1 := by
      by_cases e : h = x
      · subst e; rw [tn_u_s, tn_u_s]
      · rw [tn_u_n (by omega), tn_u_n (by omega)]; exact b2
    exact ⟨b1, ef, b3, b4, b5⟩
  · rw [tn_u_n (c' := 8 + s) (Or.inl (by omega)), tn_u_n (c' := 8 + s) (Or.inl (by omega))]
    exact a7 s hs
theorem pp_w.st (hw : pp_w P) {w : Nat} (h1 : 1 ≤ w) (h4' : w ≤ 4) : pp_w (tn_u P 0 4 (nI w)) := by
  obtain ⟨a1, a2, a3, a4, a5, a6, a7, a8⟩ := hw
  have e2 : tn_u P 0 4 (nI w) 0 2 = P 0 2 := tn_u_n (Or.inr (by decide))
  have e3 : tn_u P 0 4 (nI w) 0 3 = P 0 3 := tn_u_n (Or.inr (by decide))
  have e5 : tn_u P 0 4 (nI w) 0 5 = P 0 5 := tn_u_n (Or.inr (by decide))
  have en : pp_n (tn_u P 0 4 (nI w)) = pp_n P := by unfold pp_n; rw [e2]
  have em : pp_m (tn_u P 0 4 (nI w)) = pp_m P := by unfold pp_m; rw [e3]
  have eg : pp_g (tn_u P 0 4 (nI w)) = pp_g P := by unfold pp_g; rw [e5]
  unfold pp_w
  rw [en, em, eg, e2, e3, e5, tn_u_s]
  refine ⟨a1, a2, a3, a4, fun h hh => ?_, fun s hs => ?_, fun h0 => ⟨(a7 h0).1, (a7 h0).2.1, w, h1, h4', rfl⟩, a8⟩
  · rw [show tn_u P 0 4 (nI w) (3 + h) = P (3 + h) from funext fun k => tn_u_n (Or.inl (by omega))]
    exact a5 h hh
  · rw [show tn_u P 0 4 (nI w) (8 + s) = P (8 + s) from funext fun k => tn_u_n (Or.inl (by omega))]
    exact a6 s hs
theorem rm_st (hR : rm_P σ P) {w : Int32} : rm_P (tn_u σ 39 7 w) (tn_u P 0 4 w) := by
  obtain ⟨a1, a2, a3, a4, a5, a6, a7⟩ := hR
  have e2 : tn_u P 0 4 w 0 2 = P 0 2 := tn_u_n (Or.inr (by decide))
  have e3 : tn_u P 0 4 w 0 3 = P 0 3 := tn_u_n (Or.inr (by decide))
  have e5 : tn_u P 0 4 w 0 5 = P 0 5 := tn_u_n (Or.inr (by decide))
  have en : pp_n (tn_u P 0 4 w) = pp_n P := by unfold pp_n; rw [e2]
  have em : pp_m (tn_u P 0 4 w) = pp_m P := by unfold pp_m; rw [e3]
  have eh : pp_hs (tn_u P 0 4 w) = pp_hs P := pp_hs_e e2 (fun h => tn_u_n (Or.inl (by omega)))
  unfold rm_P
  rw [en, em, eh, e2, e3, e5, tn_u_s, tn_u_s, tn_u_n (k' := 5) (Or.inr (by decide)), tn_u_n (k' := 6) (Or.inr (by decide)), tn_u_n (k' := 8) (Or.inr (by decide)), tn_u_n (k' := 10) (Or.inr (by decide)), tn_u_n (k' := 11) (Or.inr (by decide)), tn_u_n (k' := 12) (Or.inr (by decide))]
  refine ⟨a1, a2, rfl, a4, a5, fun h hh => ?_, fun s hs => ?_⟩
  · rw [show tn_u P 0 4 w (3 + h) = P (3 + h) from funext fun k => tn_u_n (Or.inl (by omega)), show tn_u σ 39 7 w 43 = σ 43 from funext fun k => tn_u_n (Or.inl (by decide)), show tn_u σ 39 7 w 44 = σ 44 from funext fun k => tn_u_n (Or.inl (by decide)), show tn_u σ 39 7 w 45 = σ 45 from funext fun k => tn_u_n (Or.inl (by decide)), show tn_u σ 39 7 w 46 = σ 46 from funext fun k => tn_u_n (Or.inl (by decide))]
    exact a6 h hh
  · rw [show tn_u P 0 4 w (8 + s) = P (8 + s) from funext fun k => tn_u_n (Or.inl (by omega)), show tn_u σ 39 7 w 47 = σ 47 from funext fun k => tn_u_n (Or.inl (by decide))]
    exact a7 s hs
theorem l5_kinds (hG : tn_Gd ks ρ) {K : Option Value → List (Nat × Nat) → (Nat → Nat → Nat) → (Nat → Nat → Int32) → Prop} (hΓ : tn_is Γ m_X5_kinds) (hK : tn_rt Γ m_X5_kinds K) (hw : pp_w P) (h0 : 0 < pp_n P) {x : Nat} (hx : x < pp_n P) {σ0 : Nat → Nat → Int32} (h5 : rd5 σ0 n t v) : ∀ m w s (σ : Nat → Nat → Int32), 0 ≤ w → w + m = 3 → rc_P σ 3 P → rc_F 15 σ0 σ → (∀ σ', rc_F 15 σ0 σ' → K (some (.int (pp_kf (fun w => rdB (tn_u P (3 + x) 0 (nI w)) n t v) w s m))) ks ρ σ') → tn_A Γ 17 [.ref 2, .int (nI x), .int s, .int (nI w)] [] 0 0 ks ρ σ := by
  intro m
  have hn5 := hw.2.1
  have sl : (2 : Int32) = nI 2 := by decide
  induction m with
  | zero =>
    intro w s σ hlo hm hR hF h
    refine k_X5_kinds_17 hG hΓ hK _ _ _ ⟨fun _ => h σ hF, fun z => ?_⟩
    rw [sl, nI_ltI (by omega) (by omega)] at z; omega
  | succ m ih =>
    intro w s σ hlo hm hR hF h
    unfold pp_kf at h
    have hQ : pp_w (tn_u P (3 + x) 0 (nI w)) := hw.kd (by omega) (by omega)
    have hQn : pp_n (tn_u P (3 + x) 0 (nI w)) = pp_n P := by unfold pp_n; rw [tn_u_n (Or.inl (by omega))]
    refine k_X5_kinds_17 hG hΓ hK _ _ _ ⟨fun z => ?_, fun _ => q_become hG pb15 pb3 (by decide) hR hw (fun σ1 c1 f1 => ⟨vp_in_nI (by omega) (by omega), fun σ2 e2 => ?_⟩)⟩
    · rw [sl, nI_ltI (by omega) (by omega)] at z; omega
    · have eb : 15 + (3 + x) = (15 + (3 + x)) := rfl
      rw [nI_cl (by omega), show 15 + 3 + x = 15 + (3 + x) by omega] at e2
      have c2 : rc_P σ2 15 (tn_u P (3 + x) 0 (nI w)) := by rw [e2]; exact c1.u (i := (3 + x)) (Or.inl (by omega))
      have f2 : rc_F 15 σ1 σ2 := by rw [e2]; exact rc_F.u (by omega) (by omega)
      have f02 : rc_F 15 σ0 σ2 := (hF.tr f1).tr f2
      refine q5_dr hG c2 hQ (by rw [hQn]; exact h0) (h5.c (f02 2 (by omega)) (f02 28 (by omega)) (f02 29 (by omega))) (fun σ3 f3 => bz (fun z y ey => ?_) (fun z y ey u eu => ?_))
      · rw [nI_1] at ey; subst ey
        rw [if_neg (show ¬ (fun w => rdB (tn_u P (3 + x) 0 (nI w)) n t v) w = true by show ¬ rdB _ n t v = true; rw [z]; decide)] at h
        exact ih (w + 1) s σ3 (by omega) (by omega) (((hR.cc hw f1.c).cc hw f2.c).cc hw f3.c) (f02.tr f3) h
      · rw [nI_1] at eu; subst eu
        rw [if_pos (show (fun w => rdB (tn_u P (3 + x) 0 (nI w)) n t v) w = true from z)] at h
        subst ey
        exact ih (w + 1) _ σ3 (by omega) (by omega) (((hR.cc hw f1.c).cc hw f2.c).cc hw f3.c) (f02.tr f3) h
theorem l6_kinds (hG : tn_Gd ks ρ) {K : Option Value → List (Nat × Nat) → (Nat → Nat → Nat) → (Nat → Nat → Int32) → Prop} (hΓ : tn_is Γ m_X6_kinds) (hK : tn_rt Γ m_X6_kinds K) (hw : pp_w P) (h0 : 0 < pp_n P) {x : Nat} (hx : x < pp_n P) {σ0 : Nat → Nat → Int32} (hR0 : rm_P σ0 P) (h6 : rd6 σ0 n t v) : ∀ m w s (σ : Nat → Nat → Int32), 0 ≤ w → w + m = 3 → (∀ c k, c ≠ 50 → ¬ (c = 43 ∧ k = x) → σ c k = σ0 c k) → (∀ σ', (∀ c, c ≠ 50 → σ' c = σ0 c) → K (some (.int (pp_kf (fun w => rdB (tn_u P (3 + x) 0 (nI w)) n t v) w s m))) ks ρ σ') → tn_A Γ 22 [.ref 39, .int (nI x), .int (σ0 43 x), .int s, .int (nI w)] [] 0 0 ks ρ σ := by
  intro m
  have hn5 := hw.2.1
  have sl : (3 : Int32) = nI 3 := by decide
  induction m with
  | zero =>
    intro w s σ hlo hm hF h
    refine k_X6_kinds_22 hG hΓ hK _ _ _ _ ⟨fun _ => ⟨vp_in_nI (by omega) (by omega), fun σ1 e1 => ?_⟩, fun z => ?_⟩
    · rw [nI_cl (by omega)] at e1
      refine h σ1 (fun c hc => funext fun k => ?_)
      by_cases e : c = 43 ∧ k = x
      · rw [e1, e.1, e.2, tn_u_s]
      · rw [e1, tn_u_n (by omega), hF c k hc e]
    · rw [sl, nI_leI (by omega) (by omega)] at z; omega
  | succ m ih =>
    intro w s σ hlo hm hF h
    unfold pp_kf at h
    have hQ : pp_w (tn_u P (3 + x) 0 (nI w)) := hw.kd (by omega) (by omega)
    have hQn : pp_n (tn_u P (3 + x) 0 (nI w)) = pp_n P := by unfold pp_n; rw [tn_u_n (Or.inl (by omega))]
    refine k_X6_kinds_22 hG hΓ hK _ _ _ _ ⟨fun z => ?_, fun _ => ⟨vp_in_nI (by omega) (by omega), fun σ2 e2 => ?_⟩⟩
    · rw [sl, nI_leI (by omega) (by omega)] at z; omega
    · rw [nI_cl (by omega)] at e2
      have eq2 : ∀ c, c ≠ 50 → σ2 c = tn_u σ0 43 x (nI w) c := fun c hc => funext fun k => by
        by_cases e : c = 43 ∧ k = x
        · rw [e2, e.1, e.2, tn_u_s, tn_u_s]
        · rw [e2, tn_u_n (by omega), tn_u_n (by omega), hF c k hc e]
      have m2 : rm_P σ2 (tn_u P (3 + x) 0 (nI w)) := (rm_kd hR0 hw (by omega)).r (fun c hc => eq2 c (by omega))
      have r2 : rd6 σ2 n t v := h6.c (by rw [eq2 39 (by omega)]; exact tn_u_n (by omega)) (by rw [eq2 52 (by omega)]; exact funext fun k => tn_u_n (by omega)) (by rw [eq2 53 (by omega)]; exact funext fun k => tn_u_n (by omega))
      refine q6_so hG m2 hQ (by rw [hQn]; exact h0) r2 (fun σ3 g3 => ?_)
      have hF3 : ∀ c k, c ≠ 50 → ¬ (c = 43 ∧ k = x) → σ3 c k = σ0 c k := fun c k hc e => by rw [g3 c hc, eq2 c hc, tn_u_n (by omega)]
      refine bz (fun z y ey u eu => ?_) (fun z y ey u eu => ?_)
      · rw [nI_1] at eu; subst eu
        rw [if_neg (show ¬ (fun w => rdB (tn_u P (3 + x) 0 (nI w)) n t v) w = true by show ¬ rdB _ n t v = true; rw [z]; decide)] at h
        rw [ey, Int32.or_zero]
        exact ih (w + 1) s σ3 (by omega) (by omega) hF3 h
      · rw [nI_1] at eu; subst eu
        rw [if_pos (show (fun w => rdB (tn_u P (3 + x) 0 (nI w)) n t v) w = true from z)] at h
        rw [ey]
        exact ih (w + 1) _ σ3 (by omega) (by omega) hF3 h
theorem op_kinds (hG : tn_Gd ks ρ) (hL : ro_L σ) {a : Int32} {K : Int32 → Int32 → (Nat → Nat → Int32) → Prop} (h : ∀ r σ', ro_L σ' → K r r σ') : tn_CI m_X5_kinds [.ref 2, .int a] ks ρ σ (fun r1 σ1 => tn_CI m_X6_kinds [.ref 39, .int a] ks ρ σ1 (fun r2 σ2 => K r1 r2 σ2)) := by
  obtain ⟨P, hw, hc, hm, ho⟩ := id hL
  have hn5 := hw.2.1
  obtain ⟨n, t, v, r5, r6⟩ := rd_of ho.2.1
  refine tn_iI mv_X5_kinds (Nat.le_of_ble_eq_true rfl) (fun Γ hΓ hK => k_X5_kinds_0 hG hΓ hK a (q_hasHouse hG pb3 ?_))
  rw [hc.1 2 (by omega) (by omega)]
  refine bn (fun q => ?_) (fun q => ?_)
  · have p1 := q
    rw [hw.1] at p1
    obtain ⟨x, hx, rfl⟩ := ib_nI (by omega) p1
    rw [← nI_0]
    refine l5_kinds hG hΓ hK hw (by omega) hx r5 3 0 (nI 0) σ (by omega) (by omega) hc rc_F.rf (fun σ1 f1 => ?_)
    · rw [tn_ki]
      have fc := f1.c
      have m1 := hm.cc fc
      refine tn_iI mv_X6_kinds (Nat.le_of_ble_eq_true rfl) (fun Γ hΓ hK => k_X6_kinds_0 hG hΓ hK _ (q6_isHouse hG ?_))
      rw [m1.1, q]
      refine ⟨fun _ => ⟨vp_in_nI (by omega) (by omega), fun y ey => ?_⟩, fun z => absurd z (by decide)⟩
      rw [nI_cl (by omega)] at ey
      subst ey
      rw [← nI_0]
      refine l6_kinds hG hΓ hK hw (by omega) hx m1 (r6.c (by rw [fc 39 (by omega) (by omega)]) (fc 52 (by omega) (by omega)) (fc 53 (by omega) (by omega))) 3 0 (nI 0) σ1 (by omega) (by omega) (fun _ _ _ _ => rfl) (fun σ3 g => ?_)
      · rw [tn_ki]
        have fm : ro_m σ1 σ3 := fun c z _ => g c z
        exact h _ _ ⟨P, hw, (hc.cc hw fc).cm hw fm, m1.cm fm, (ho.cc fc).cm fm⟩
  · rw [tn_ki]
    refine tn_iI mv_X6_kinds (Nat.le_of_ble_eq_true rfl) (fun Γ hΓ hK => k_X6_kinds_0 hG hΓ hK _ (q6_isHouse hG ?_))
    rw [hm.1, q]
    exact ⟨fun z => absurd rfl z, fun _ => by rw [tn_ki]; exact h _ _ hL⟩
theorem l5_wrongs (hG : tn_Gd ks ρ) {K : Option Value → List (Nat × Nat) → (Nat → Nat → Nat) → (Nat → Nat → Int32) → Prop} (hΓ : tn_is Γ m_X5_wrongs) (hK : tn_rt Γ m_X5_wrongs K) (hw : pp_w P) (h0 : 0 < pp_n P) {x : Nat} (hx : x < pp_n P) {σ0 : Nat → Nat → Int32} (h5 : rd5 σ0 n t v) : ∀ m w s (σ : Nat → Nat → Int32), 0 ≤ w → w + m = 10 → rc_P σ 3 P → rc_F 15 σ0 σ → (∀ σ', rc_F 15 σ0 σ' → K (some (.int (pp_kf (fun w => rdB (tn_u P (3 + x) 1 (nI w)) n t v) w s m))) ks ρ σ') → tn_A Γ 17 [.ref 2, .int (nI x), .int s, .int (nI w)] [] 0 0 ks ρ σ := by
  intro m
  have hn5 := hw.2.1
  have sl : (9 : Int32) = nI 9 := by decide
  induction m with
  | zero =>
    intro w s σ hlo hm hR hF h
    refine k_X5_wrongs_17 hG hΓ hK _ _ _ ⟨fun _ => h σ hF, fun z => ?_⟩
    rw [sl, nI_ltI (by omega) (by omega)] at z; omega
  | succ m ih =>
    intro w s σ hlo hm hR hF h
    unfold pp_kf at h
    have hQ : pp_w (tn_u P (3 + x) 1 (nI w)) := hw.wr (by omega) (by omega)
    have hQn : pp_n (tn_u P (3 + x) 1 (nI w)) = pp_n P := by unfold pp_n; rw [tn_u_n (Or.inl (by omega))]
    refine k_X5_wrongs_17 hG hΓ hK _ _ _ ⟨fun z => ?_, fun _ => q_become hG pb15 pb3 (by decide) hR hw (fun σ1 c1 f1 => ⟨vp_in_nI (by omega) (by omega), fun σ2 e2 => ?_⟩)⟩
    · rw [sl, nI_ltI (by omega) (by omega)] at z; omega
    · have eb : 15 + (3 + x) = (15 + (3 + x)) := rfl
      rw [nI_cl (by omega), show 15 + 3 + x = 15 + (3 + x) by omega] at e2
      have c2 : rc_P σ2 15 (tn_u P (3 + x) 1 (nI w)) := by rw [e2]; exact c1.u (i := (3 + x)) (Or.inl (by omega))
      have f2 : rc_F 15 σ1 σ2 := by rw [e2]; exact rc_F.u (by omega) (by omega)
      have f02 : rc_F 15 σ0 σ2 := (hF.tr f1).tr f2
      refine q5_dr hG c2 hQ (by rw [hQn]; exact h0) (h5.c (f02 2 (by omega)) (f02 28 (by omega)) (f02 29 (by omega))) (fun σ3 f3 => bz (fun z y ey => ?_) (fun z y ey u eu => ?_))
      · rw [nI_1] at ey; subst ey
        rw [if_neg (show ¬ (fun w => rdB (tn_u P (3 + x) 1 (nI w)) n t v) w = true by show ¬ rdB _ n t v = true; rw [z]; decide)] at h
        exact ih (w + 1) s σ3 (by omega) (by omega) (((hR.cc hw f1.c).cc hw f2.c).cc hw f3.c) (f02.tr f3) h
      · rw [nI_1] at eu; subst eu
        rw [if_pos (show (fun w => rdB (tn_u P (3 + x) 1 (nI w)) n t v) w = true from z)] at h
        subst ey
        exact ih (w + 1) _ σ3 (by omega) (by omega) (((hR.cc hw f1.c).cc hw f2.c).cc hw f3.c) (f02.tr f3) h
theorem l6_wrongs (hG : tn_Gd ks ρ) {K : Option Value → List (Nat × Nat) → (Nat → Nat → Nat) → (Nat → Nat → Int32) → Prop} (hΓ : tn_is Γ m_X6_wrongs) (hK : tn_rt Γ m_X6_wrongs K) (hw : pp_w P) (h0 : 0 < pp_n P) {x : Nat} (hx : x < pp_n P) {σ0 : Nat → Nat → Int32} (hR0 : rm_P σ0 P) (h6 : rd6 σ0 n t v) : ∀ m w s (σ : Nat → Nat → Int32), 0 ≤ w → w + m = 10 → (∀ c k, c ≠ 50 → ¬ (c = 44 ∧ k = x) → σ c k = σ0 c k) → (∀ σ', (∀ c, c ≠ 50 → σ' c = σ0 c) → K (some (.int (pp_kf (fun w => rdB (tn_u P (3 + x) 1 (nI w)) n t v) w s m))) ks ρ σ') → tn_A Γ 22 [.ref 39, .int (nI x), .int (σ0 44 x), .int s, .int (nI w)] [] 0 0 ks ρ σ := by
  intro m
  have hn5 := hw.2.1
  have sl : (9 : Int32) = nI 9 := by decide
  induction m with
  | zero =>
    intro w s σ hlo hm hF h
    refine k_X6_wrongs_22 hG hΓ hK _ _ _ _ ⟨fun _ => ⟨vp_in_nI (by omega) (by omega), fun σ1 e1 => ?_⟩, fun z => ?_⟩
    · rw [nI_cl (by omega)] at e1
      refine h σ1 (fun c hc => funext fun k => ?_)
      by_cases e : c = 44 ∧ k = x
      · rw [e1, e.1, e.2, tn_u_s]
      · rw [e1, tn_u_n (by omega), hF c k hc e]
    · rw [sl, nI_ltI (by omega) (by omega)] at z; omega
  | succ m ih =>
    intro w s σ hlo hm hF h
    unfold pp_kf at h
    have hQ : pp_w (tn_u P (3 + x) 1 (nI w)) := hw.wr (by omega) (by omega)
    have hQn : pp_n (tn_u P (3 + x) 1 (nI w)) = pp_n P := by unfold pp_n; rw [tn_u_n (Or.inl (by omega))]
    refine k_X6_wrongs_22 hG hΓ hK _ _ _ _ ⟨fun z => ?_, fun _ => ⟨vp_in_nI (by omega) (by omega), fun σ2 e2 => ?_⟩⟩
    · rw [sl, nI_ltI (by omega) (by omega)] at z; omega
    · rw [nI_cl (by omega)] at e2
      have eq2 : ∀ c, c ≠ 50 → σ2 c = tn_u σ0 44 x (nI w) c := fun c hc => funext fun k => by
        by_cases e : c = 44 ∧ k = x
        · rw [e2, e.1, e.2, tn_u_s, tn_u_s]
        · rw [e2, tn_u_n (by omega), tn_u_n (by omega), hF c k hc e]
      have m2 : rm_P σ2 (tn_u P (3 + x) 1 (nI w)) := (rm_wr hR0 hw (by omega)).r (fun c hc => eq2 c (by omega))
      have r2 : rd6 σ2 n t v := h6.c (by rw [eq2 39 (by omega)]; exact tn_u_n (by omega)) (by rw [eq2 52 (by omega)]; exact funext fun k => tn_u_n (by omega)) (by rw [eq2 53 (by omega)]; exact funext fun k => tn_u_n (by omega))
      refine q6_so hG m2 hQ (by rw [hQn]; exact h0) r2 (fun σ3 g3 => ?_)
      have hF3 : ∀ c k, c ≠ 50 → ¬ (c = 44 ∧ k = x) → σ3 c k = σ0 c k := fun c k hc e => by rw [g3 c hc, eq2 c hc, tn_u_n (by omega)]
      refine bz (fun z y ey u eu => ?_) (fun z y ey u eu => ?_)
      · rw [nI_1] at eu; subst eu
        rw [if_neg (show ¬ (fun w => rdB (tn_u P (3 + x) 1 (nI w)) n t v) w = true by show ¬ rdB _ n t v = true; rw [z]; decide)] at h
        rw [ey, Int32.or_zero]
        exact ih (w + 1) s σ3 (by omega) (by omega) hF3 h
      · rw [nI_1] at eu; subst eu
        rw [if_pos (show (fun w => rdB (tn_u P (3 + x) 1 (nI w)) n t v) w = true from z)] at h
        rw [ey]
        exact ih (w + 1) _ σ3 (by omega) (by omega) hF3 h
theorem op_wrongs (hG : tn_Gd ks ρ) (hL : ro_L σ) {a : Int32} {K : Int32 → Int32 → (Nat → Nat → Int32) → Prop} (h : ∀ r σ', ro_L σ' → K r r σ') : tn_CI m_X5_wrongs [.ref 2, .int a] ks ρ σ (fun r1 σ1 => tn_CI m_X6_wrongs [.ref 39, .int a] ks ρ σ1 (fun r2 σ2 => K r1 r2 σ2)) := by
  obtain ⟨P, hw, hc, hm, ho⟩ := id hL
  have hn5 := hw.2.1
  obtain ⟨n, t, v, r5, r6⟩ := rd_of ho.2.1
  refine tn_iI mv_X5_wrongs (Nat.le_of_ble_eq_true rfl) (fun Γ hΓ hK => k_X5_wrongs_0 hG hΓ hK a (q_hasHouse hG pb3 ?_))
  rw [hc.1 2 (by omega) (by omega)]
  refine bn (fun q => ?_) (fun q => ?_)
  · have p1 := q
    rw [hw.1] at p1
    obtain ⟨x, hx, rfl⟩ := ib_nI (by omega) p1
    rw [← nI_0]
    refine l5_wrongs hG hΓ hK hw (by omega) hx r5 10 0 (nI 0) σ (by omega) (by omega) hc rc_F.rf (fun σ1 f1 => ?_)
    · rw [tn_ki]
      have fc := f1.c
      have m1 := hm.cc fc
      refine tn_iI mv_X6_wrongs (Nat.le_of_ble_eq_true rfl) (fun Γ hΓ hK => k_X6_wrongs_0 hG hΓ hK _ (q6_isHouse hG ?_))
      rw [m1.1, q]
      refine ⟨fun _ => ⟨vp_in_nI (by omega) (by omega), fun y ey => ?_⟩, fun z => absurd z (by decide)⟩
      rw [nI_cl (by omega)] at ey
      subst ey
      rw [← nI_0]
      refine l6_wrongs hG hΓ hK hw (by omega) hx m1 (r6.c (by rw [fc 39 (by omega) (by omega)]) (fc 52 (by omega) (by omega)) (fc 53 (by omega) (by omega))) 10 0 (nI 0) σ1 (by omega) (by omega) (fun _ _ _ _ => rfl) (fun σ3 g => ?_)
      · rw [tn_ki]
        have fm : ro_m σ1 σ3 := fun c z _ => g c z
        exact h _ _ ⟨P, hw, (hc.cc hw fc).cm hw fm, m1.cm fm, (ho.cc fc).cm fm⟩
  · rw [tn_ki]
    refine tn_iI mv_X6_wrongs (Nat.le_of_ble_eq_true rfl) (fun Γ hΓ hK => k_X6_wrongs_0 hG hΓ hK _ (q6_isHouse hG ?_))
    rw [hm.1, q]
    exact ⟨fun z => absurd rfl z, fun _ => by rw [tn_ki]; exact h _ _ hL⟩
theorem l5_steps (hG : tn_Gd ks ρ) {K : Option Value → List (Nat × Nat) → (Nat → Nat → Nat) → (Nat → Nat → Int32) → Prop} (hΓ : tn_is Γ m_X5_steps) (hK : tn_rt Γ m_X5_steps K) (hw : pp_w P) (h0 : 0 < pp_n P) {σ0 : Nat → Nat → Int32} (h5 : rd5 σ0 n t v) : ∀ m w s (σ : Nat → Nat → Int32), 1 ≤ w → w + m = 5 → rc_P σ 3 P → rc_F 15 σ0 σ → (∀ σ', rc_F 15 σ0 σ' → K (some (.int (pp_kf (fun w => rdB (tn_u P 0 4 (nI w)) n t v) w s m))) ks ρ σ') → tn_A Γ 14 [.ref 2, .int s, .int (nI w)] [] 0 0 ks ρ σ := by
  intro m
  have hn5 := hw.2.1
  have sl : (4 : Int32) = nI 4 := by decide
  induction m with
  | zero =>
    intro w s σ hlo hm hR hF h
    refine k_X5_steps_14 hG hΓ hK _ _ ⟨fun _ => h σ hF, fun z => ?_⟩
    rw [sl, nI_ltI (by omega) (by omega)] at z; omega
  | succ m ih =>
    intro w s σ hlo hm hR hF h
    unfold pp_kf at h
    have hQ : pp_w (tn_u P 0 4 (nI w)) := hw.st (by omega) (by omega)
    have hQn : pp_n (tn_u P 0 4 (nI w)) = pp_n P := by unfold pp_n; rw [tn_u_n (Or.inr (by decide))]
    refine k_X5_steps_14 hG hΓ hK _ _ ⟨fun z => ?_, fun _ => q_become hG pb15 pb3 (by decide) hR hw (fun σ1 c1 f1 => fun σ2 e2 => ?_)⟩
    · rw [sl, nI_ltI (by omega) (by omega)] at z; omega
    · have eb : 15 + 0 = 15 := rfl
      have c2 : rc_P σ2 15 (tn_u P 0 4 (nI w)) := by rw [e2]; exact c1.u (i := 0) (Or.inr ⟨by decide, by decide⟩)
      have f2 : rc_F 15 σ1 σ2 := by rw [e2]; exact rc_F.u (by omega) (by omega)
      have f02 : rc_F 15 σ0 σ2 := (hF.tr f1).tr f2
      refine q5_dr hG c2 hQ (by rw [hQn]; exact h0) (h5.c (f02 2 (by omega)) (f02 28 (by omega)) (f02 29 (by omega))) (fun σ3 f3 => bz (fun z y ey => ?_) (fun z y ey u eu => ?_))
      · rw [nI_1] at ey; subst ey
        rw [if_neg (show ¬ (fun w => rdB (tn_u P 0 4 (nI w)) n t v) w = true by show ¬ rdB _ n t v = true; rw [z]; decide)] at h
        exact ih (w + 1) s σ3 (by omega) (by omega) (((hR.cc hw f1.c).cc hw f2.c).cc hw f3.c) (f02.tr f3) h
      · rw [nI_1] at eu; subst eu
        rw [if_pos (show (fun w => rdB (tn_u P 0 4 (nI w)) n t v) w = true from z)] at h
        subst ey
        exact ih (w + 1) _ σ3 (by omega) (by omega) (((hR.cc hw f1.c).cc hw f2.c).cc hw f3.c) (f02.tr f3) h
theorem l6_steps (hG : tn_Gd ks ρ) {K : Option Value → List (Nat × Nat) → (Nat → Nat → Nat) → (Nat → Nat → Int32) → Prop} (hΓ : tn_is Γ m_X6_steps) (hK : tn_rt Γ m_X6_steps K) (hw : pp_w P) (h0 : 0 < pp_n P) {σ0 : Nat → Nat → Int32} (hR0 : rm_P σ0 P) (h6 : rd6 σ0 n t v) : ∀ m w s (σ : Nat → Nat → Int32), 1 ≤ w → w + m = 5 → (∀ c k, c ≠ 50 → ¬ (c = 39 ∧ k = 7) → σ c k = σ0 c k) → (∀ σ', (∀ c, c ≠ 50 → σ' c = σ0 c) → K (some (.int (pp_kf (fun w => rdB (tn_u P 0 4 (nI w)) n t v) w s m))) ks ρ σ') → tn_A Γ 19 [.ref 39, .int (σ0 39 7), .int s, .int (nI w)] [] 0 0 ks ρ σ := by
  intro m
  have hn5 := hw.2.1
  have sl : (4 : Int32) = nI 4 := by decide
  induction m with
  | zero =>
    intro w s σ hlo hm hF h
    refine k_X6_steps_19 hG hΓ hK _ _ _ ⟨fun _ => fun σ1 e1 => ?_, fun z => ?_⟩
    · skip
      refine h σ1 (fun c hc => funext fun k => ?_)
      by_cases e : c = 39 ∧ k = 7
      · rw [e1, e.1, e.2, tn_u_s]
      · rw [e1, tn_u_n (by omega), hF c k hc e]
    · rw [sl, nI_ltI (by omega) (by omega)] at z; omega
  | succ m ih =>
    intro w s σ hlo hm hF h
    unfold pp_kf at h
    have hQ : pp_w (tn_u P 0 4 (nI w)) := hw.st (by omega) (by omega)
    have hQn : pp_n (tn_u P 0 4 (nI w)) = pp_n P := by unfold pp_n; rw [tn_u_n (Or.inr (by decide))]
    refine k_X6_steps_19 hG hΓ hK _ _ _ ⟨fun z => ?_, fun _ => fun σ2 e2 => ?_⟩
    · rw [sl, nI_ltI (by omega) (by omega)] at z; omega
    · skip
      have eq2 : ∀ c, c ≠ 50 → σ2 c = tn_u σ0 39 7 (nI w) c := fun c hc => funext fun k => by
        by_cases e : c = 39 ∧ k = 7
        · rw [e2, e.1, e.2, tn_u_s, tn_u_s]
        · rw [e2, tn_u_n (by omega), tn_u_n (by omega), hF c k hc e]
      have m2 : rm_P σ2 (tn_u P 0 4 (nI w)) := (rm_st hR0).r (fun c hc => eq2 c (by omega))
      have r2 : rd6 σ2 n t v := h6.c (by rw [eq2 39 (by omega)]; exact tn_u_n (by omega)) (by rw [eq2 52 (by omega)]; exact funext fun k => tn_u_n (by omega)) (by rw [eq2 53 (by omega)]; exact funext fun k => tn_u_n (by omega))
      refine q6_so hG m2 hQ (by rw [hQn]; exact h0) r2 (fun σ3 g3 => ?_)
      have hF3 : ∀ c k, c ≠ 50 → ¬ (c = 39 ∧ k = 7) → σ3 c k = σ0 c k := fun c k hc e => by rw [g3 c hc, eq2 c hc, tn_u_n (by omega)]
      refine bz (fun z y ey u eu => ?_) (fun z y ey u eu => ?_)
      · rw [nI_1] at eu; subst eu
        rw [if_neg (show ¬ (fun w => rdB (tn_u P 0 4 (nI w)) n t v) w = true by show ¬ rdB _ n t v = true; rw [z]; decide)] at h
        rw [ey, Int32.or_zero]
        exact ih (w + 1) s σ3 (by omega) (by omega) hF3 h
      · rw [nI_1] at eu; subst eu
        rw [if_pos (show (fun w => rdB (tn_u P 0 4 (nI w)) n t v) w = true from z)] at h
        rw [ey]
        exact ih (w + 1) _ σ3 (by omega) (by omega) hF3 h
theorem op_steps (hG : tn_Gd ks ρ) (hL : ro_L σ) {K : Int32 → Int32 → (Nat → Nat → Int32) → Prop} (h : ∀ r σ', ro_L σ' → K r r σ') : tn_CI m_X5_steps [.ref 2] ks ρ σ (fun r1 σ1 => tn_CI m_X6_steps [.ref 39] ks ρ σ1 (fun r2 σ2 => K r1 r2 σ2)) := by
  obtain ⟨P, hw, hc, hm, ho⟩ := id hL
  have hn5 := hw.2.1
  obtain ⟨n, t, v, r5, r6⟩ := rd_of ho.2.1
  refine tn_iI mv_X5_steps (Nat.le_of_ble_eq_true rfl) (fun Γ hΓ hK => k_X5_steps_0 hG hΓ hK (q5_hasParish hG hc hw (bn (fun q => ?_) (fun q => ?_))))
  · have h0 : 0 < pp_n P := of_decide_eq_true q
    rw [show (1 : Int32) = nI 1 by decide]
    refine l5_steps hG hΓ hK hw h0 r5 4 1 0 σ (by omega) (by omega) hc rc_F.rf (fun σ1 f1 => ?_)
    · rw [tn_ki]
      have fc := f1.c
      have m1 := hm.cc fc
      refine tn_iI mv_X6_steps (Nat.le_of_ble_eq_true rfl) (fun Γ hΓ hK => k_X6_steps_0 hG hΓ hK ⟨fun _ y ey => ?_, fun z => absurd ((rm_n0 m1 hw).mp z) (by omega)⟩)
      subst ey
      rw [show (1 : Int32) = nI 1 by decide]
      refine l6_steps hG hΓ hK hw h0 m1 (r6.c (by rw [fc 39 (by omega) (by omega)]) (fc 52 (by omega) (by omega)) (fc 53 (by omega) (by omega))) 4 1 0 σ1 (by omega) (by omega) (fun _ _ _ _ => rfl) (fun σ3 g => ?_)
      · rw [tn_ki]
        have fm : ro_m σ1 σ3 := fun c z _ => g c z
        exact h _ _ ⟨P, hw, (hc.cc hw fc).cm hw fm, m1.cm fm, (ho.cc fc).cm fm⟩
  · have q3 := of_decide_eq_false q
    rw [tn_ki]
    exact tn_iI mv_X6_steps (Nat.le_of_ble_eq_true rfl) (fun Γ hΓ hK => k_X6_steps_0 hG hΓ hK ⟨fun z => absurd ((rm_n0 hm hw).mpr (by omega)) z, fun _ => by rw [tn_ki]; exact h _ _ hL⟩)
end QS
