/-! ===== the model's nights; what it keeps and puts back ===== -/
theorem nI_ne9 {q : Nat} (h : q < 1000) : ¬ nI q = (-9 : Int32) := by
  intro e
  have h1 := congrArg Int32.toInt e
  rw [nI_toInt (by omega)] at h1
  have h2 : (-9 : Int32).toInt = -9 := by decide
  omega
theorem hv_snd {P : pp_T} (hw : pp_w P) : ∀ s, s ≤ pp_m P → ((pp_hv P s).1 = 0 → (pp_hv P s).2 = 0) ∧ ((pp_hv P s).1 ≠ 0 → (pp_hv P s).2 = P (8 + ((pp_hv P s).1 - 1)) 0)
  | 0, _ => ⟨fun _ => rfl, fun h => absurd rfl h⟩
  | s + 1, hs => by
    have ih := hv_snd hw s (by omega)
    rw [pp_hv]
    split
    · exact ⟨fun h => by simp at h, fun _ => by simp⟩
    · exact ih
theorem hs_0 {P P' : pp_T} (h0 : P' 0 = P 0) (h : ∀ i, 3 ≤ i → i < 8 → P' i 3 = P i 3) (hn : pp_n P ≤ 5) : pp_hs P' = pp_hs P := by
  unfold pp_hs
  rw [pp_n0 h0]
  exact hsN_c _ (fun j hj => h _ (by omega) (by omega))
section QM2
variable {ks : List (Nat × Nat)} {ρ : Nat → Nat → Nat} {σ : Nat → Nat → Int32} {Γ : tn_G} {K : Option Value → List (Nat × Nat) → (Nat → Nat → Nat) → (Nat → Nat → Int32) → Prop} {P : pp_T}
theorem rm_lay (hR : rm_P σ P) (hw : pp_w P) {q : Nat} (hq : q < pp_m P) : rm_P (tn_u σ 39 12 (σ 39 12 ||| (1 <<< (nI q &&& 31)))) (tn_u P (8 + q) 1 1) := by
  have h5 := hw.2.1
  have h4 := hw.2.2.2.1
  obtain ⟨a1, a2, a3, a4, a5, a6, a7⟩ := hR
  have e0 : (tn_u P (8 + q) 1 1) 0 = P 0 := funext fun k => tn_u_n (Or.inl (by omega))
  have en := pp_n0 e0
  have em := pp_m0 e0
  have eh : pp_hs (tn_u P (8 + q) 1 1) = pp_hs P := hs_0 e0 (fun i h1 h2 => tn_u_n (Or.inl (by omega))) h5
  unfold rm_P
  rw [en, em, e0, eh, tn_u_n (c' := 39) (k' := 5) (Or.inr (by decide)), tn_u_n (c' := 39) (k' := 6) (Or.inr (by decide)), tn_u_n (c' := 39) (k' := 7) (Or.inr (by decide)), tn_u_n (c' := 39) (k' := 8) (Or.inr (by decide)), tn_u_n (c' := 39) (k' := 10) (Or.inr (by decide)), tn_u_n (c' := 39) (k' := 11) (Or.inr (by decide)), tn_u_s]
  refine ⟨a1, a2, a3, a4, a5, fun h hh => ?_, fun s hs => ?_⟩
  · have f : ∀ k, (tn_u P (8 + q) 1 1) (3 + h) k = P (3 + h) k := fun k => tn_u_n (Or.inl (by omega))
    rw [f, f, f, f, f, tn_u_n (c' := 43) (Or.inl (by decide)), tn_u_n (c' := 44) (Or.inl (by decide)), tn_u_n (c' := 45) (Or.inl (by decide)), tn_u_n (c' := 46) (Or.inl (by decide))]
    exact a6 h hh
  · rw [tn_u_n (c' := 47) (Or.inl (by decide)), tn_u_n (k' := 0) (Or.inr (by decide)), bi_set _ (by omega) (by omega)]
    refine ⟨(a7 s hs).1, ?_⟩
    rw [tn_u_eq]
    by_cases e : s = q
    · subst e; simp
    · rw [if_neg e, if_neg (by omega)]; exact (a7 s hs).2
theorem l6_lay (hG : tn_Gd ks ρ) (hΓ : tn_is Γ m_X6_layGreatest) (hK : tn_rt Γ m_X6_layGreatest K) (hR : rm_P σ P) (hw : pp_w P) (h : ∀ σ', rm_P σ' (pp_lay P) → rm_F σ σ' → σ' 39 9 = σ 39 9 → K none ks ρ σ') : ∀ m n, n + m = pp_m P → tn_A Γ 5 [.ref 39, .int (pp_hi (pp_hv P n).1), .int (nI n)] [] 0 0 ks ρ σ := by
  intro m
  have h4 := hw.2.2.2.1
  have h2 : σ 39 6 = nI (pp_m P) := hR.2.1.trans hw.2.2.1
  induction m with
  | zero =>
    intro n hn
    have hlt := pp_hv_lt P (pp_m P)
    refine k_X6_layGreatest_5 hG hΓ hK _ _ ⟨fun _ => ?_, fun q => ?_⟩
    · rw [show n = pp_m P by omega]
      by_cases e : (pp_hv P (pp_m P)).1 = 0
      · have e1 : pp_hi (pp_hv P (pp_m P)).1 = -9 := by unfold pp_hi; rw [if_pos e]
        have e2 : pp_lay P = P := by unfold pp_lay; rw [if_pos e]
        rw [e2] at h
        refine ⟨fun q => absurd e1 q, fun _ σ2 e3 => ?_⟩
        rw [Int32.or_zero] at e3
        have e4 : σ2 = σ := by
          rw [e3]
          funext c k
          rw [tn_u_eq]
          split
          · rename_i z; rw [z.1, z.2]
          · rfl
        rw [e4]
        exact h σ hR rm_F.rf rfl
      · have e1 : pp_hi (pp_hv P (pp_m P)).1 = nI ((pp_hv P (pp_m P)).1 - 1) := by unfold pp_hi; rw [if_neg e]
        have e2 : pp_lay P = tn_u P (8 + ((pp_hv P (pp_m P)).1 - 1)) 1 1 := by unfold pp_lay; rw [if_neg e]
        rw [e2] at h
        rw [e1]
        refine ⟨fun q σ1 e3 => ?_, fun q => absurd q (nI_ne9 (by omega))⟩
        subst e3
        exact h _ (rm_lay hR hw (by omega)) (rm_F.u (Or.inl ⟨rfl, by decide, by decide⟩)) (tn_u_n (Or.inr (by decide)))
    · rw [h2, nI_end (by omega) (by omega)] at q; omega
  | succ m ih =>
    intro n hn
    have ih1 := ih (n + 1) (by omega)
    obtain ⟨e0, e1⟩ := hR.2.2.2.2.2.2 n (by omega)
    have hlt := pp_hv_lt P n
    obtain ⟨s0, s1⟩ := hv_snd hw n (by omega)
    obtain ⟨⟨w, hw1, hw2, hwe⟩, -⟩ := hw.2.2.2.2.2.1 n (by omega)
    refine k_X6_layGreatest_5 hG hΓ hK _ _ ⟨fun q => ?_, fun _ => ?_⟩
    · rw [h2, nI_end (by omega) (by omega)] at q; omega
    · refine q6_isOf hG (by omega) ?_
      rw [e1, nI_cl (by omega), e0]
      refine ⟨fun q y ey => ?_, fun q => ?_⟩
      · rw [nI_1] at ey; subst ey
        have e3 : pp_hv P (n + 1) = pp_hv P n := by rw [pp_hv, if_neg (fun z => q z.1)]
        rw [e3] at ih1; exact ih1
      · by_cases e : (pp_hv P n).1 = 0
        · have e2 : pp_hi (pp_hv P n).1 = -9 := by unfold pp_hi; rw [if_pos e]
          have hq2 : (pp_hv P n).2 < P (8 + n) 0 := by
            rw [s0 e, hwe]
            exact (nI_pos_iff (by omega)).mpr (by omega)
          have e3 : pp_hv P (n + 1) = (n + 1, P (8 + n) 0) := by rw [pp_hv, if_pos ⟨q, hq2⟩]
          rw [e3] at ih1
          refine ⟨fun _ y ey => ?_, fun q2 => absurd e2 q2⟩
          rw [nI_1] at ey; subst ey
          exact ih1
        · have e2 : pp_hi (pp_hv P n).1 = nI ((pp_hv P n).1 - 1) := by unfold pp_hi; rw [if_neg e]
          rw [e2]
          refine ⟨fun q2 => absurd q2 (nI_ne9 (by omega)), fun _ => ⟨vp_in_nI (by omega) (by omega), vp_in_nI (by omega) (by omega), ?_⟩⟩
          rw [nI_cl (by omega), (hR.2.2.2.2.2.2 ((pp_hv P n).1 - 1) (by omega)).1, ← s1 e]
          refine ⟨fun q2 y ey => ?_, fun q2 y ey => ?_⟩
          · rw [nI_1] at ey; subst ey
            have e3 : pp_hv P (n + 1) = pp_hv P n := by rw [pp_hv, if_neg (fun z => Int32.not_lt.mpr q2 z.2)]
            rw [e3, e2] at ih1; exact ih1
          · rw [nI_1] at ey; subst ey
            have e3 : pp_hv P (n + 1) = (n + 1, P (8 + n) 0) := by rw [pp_hv, if_pos ⟨q, Int32.not_le.mp q2⟩]
            rw [e3] at ih1
            exact ih1
theorem q6_layGreatest (hG : tn_Gd ks ρ) (hR : rm_P σ P) (hw : pp_w P) {K : (Nat → Nat → Int32) → Prop} (h : ∀ σ', rm_P σ' (pp_lay P) → rm_F σ σ' → σ' 39 9 = σ 39 9 → K σ') : tn_CV m_X6_layGreatest [.ref 39] ks ρ σ K := by
  refine tn_iV mv_X6_layGreatest (Nat.le_of_ble_eq_true rfl) (fun Γ hΓ hK => k_X6_layGreatest_0 hG hΓ hK ?_)
  exact l6_lay hG hΓ hK hR hw (fun σ' g1 g2 g3 => by rw [tn_kv]; exact h σ' g1 g2 g3) (pp_m P) 0 (by omega)
theorem rm_nights (hR : rm_P σ P) {x : Int32} : rm_P (tn_u σ 39 9 x) P := by
  obtain ⟨a1, a2, a3, a4, a5, a6, a7⟩ := hR
  unfold rm_P
  rw [tn_u_n (k' := 5) (Or.inr (by decide)), tn_u_n (k' := 6) (Or.inr (by decide)), tn_u_n (k' := 7) (Or.inr (by decide)), tn_u_n (k' := 8) (Or.inr (by decide)), tn_u_n (k' := 10) (Or.inr (by decide)), tn_u_n (k' := 11) (Or.inr (by decide)), tn_u_n (k' := 12) (Or.inr (by decide))]
  exact ⟨a1, a2, a3, a4, a5, fun h hh => by rw [tn_u_n (Or.inl (by decide)), tn_u_n (Or.inl (by decide)), tn_u_n (Or.inl (by decide)), tn_u_n (Or.inl (by decide))]; exact a6 h hh, fun s hs => by rw [tn_u_n (Or.inl (by decide))]; exact a7 s hs⟩
theorem rm_hang (hR : rm_P σ P) : rm_P (tn_u σ 39 8 ((σ 39 8 + σ 39 7) - (σ 39 8 + σ 39 7) / σ 39 5 * σ 39 5)) (pp_hang P) := by
  obtain ⟨a1, a2, a3, a4, a5, a6, a7⟩ := hR
  have eh : pp_hs (pp_hang P) = pp_hs P := by
    unfold pp_hs
    rw [pp_hang_n]
    exact hsN_c _ (fun j hj => by rw [pp_hang_i (by omega)])
  unfold rm_P
  rw [pp_hang_n, pp_hang_m, eh, tn_u_n (k' := 5) (Or.inr (by decide)), tn_u_n (k' := 6) (Or.inr (by decide)), tn_u_n (k' := 7) (Or.inr (by decide)), tn_u_n (k' := 10) (Or.inr (by decide)), tn_u_n (k' := 11) (Or.inr (by decide)), tn_u_n (k' := 12) (Or.inr (by decide)), tn_u_s]
  refine ⟨?_, ?_, ?_, ?_, a5, fun h hh => ?_, fun s hs => ?_⟩
  · rw [a1]; exact (tn_u_n (Or.inr (by decide))).symm
  · rw [a2]; exact (tn_u_n (Or.inr (by decide))).symm
  · rw [a3]; exact (tn_u_n (Or.inr (by decide))).symm
  · rw [a4, a3, a1]
    unfold pp_hang
    rw [tn_u_s]
  · rw [pp_hang_i (by omega), tn_u_n (Or.inl (by decide)), tn_u_n (Or.inl (by decide)), tn_u_n (Or.inl (by decide)), tn_u_n (Or.inl (by decide))]; exact a6 h hh
  · rw [pp_hang_i (by omega), tn_u_n (Or.inl (by decide))]; exact a7 s hs
theorem rm_sleep (hR : rm_P σ P) (hw : pp_w P) {n : Nat} (hn : n < pp_n P) {x : Int32} : rm_P (tn_u σ 45 n x) (tn_u P (3 + n) 2 x) := by
  have h5 := hw.2.1
  have h4 := hw.2.2.2.1
  obtain ⟨a1, a2, a3, a4, a5, a6, a7⟩ := hR
  have e0 : (tn_u P (3 + n) 2 x) 0 = P 0 := funext fun k => tn_u_n (Or.inl (by omega))
  have eh : pp_hs (tn_u P (3 + n) 2 x) = pp_hs P := hs_0 e0 (fun i h1 h2 => tn_u_n (Or.inr (by decide))) h5
  unfold rm_P
  rw [pp_n0 e0, pp_m0 e0, e0, eh, tn_u_n (k' := 5) (Or.inl (by decide)), tn_u_n (k' := 6) (Or.inl (by decide)), tn_u_n (c' := 39) (k' := 7) (Or.inl (by decide)), tn_u_n (c' := 39) (k' := 8) (Or.inl (by decide)), tn_u_n (c' := 39) (k' := 10) (Or.inl (by decide)), tn_u_n (c' := 39) (k' := 11) (Or.inl (by decide)), tn_u_n (c' := 39) (k' := 12) (Or.inl (by decide))]
  refine ⟨a1, a2, a3, a4, a5, fun h hh => ?_, fun s hs => ?_⟩
  · obtain ⟨b1, b2, b3, b4, b5⟩ := a6 h hh
    rw [tn_u_n (c' := 43) (Or.inl (by decide)), tn_u_n (c' := 44) (Or.inl (by decide)), tn_u_n (c' := 46) (Or.inl (by decide)), tn_u_n (k' := 0) (Or.inr (by decide)), tn_u_n (k' := 1) (Or.inr (by decide)), tn_u_n (k' := 3) (Or.inr (by decide)), tn_u_n (k' := 4) (Or.inr (by decide))]
    refine ⟨b1, b2, ?_, b4, b5⟩
    rw [tn_u_eq, tn_u_eq]
    by_cases e : h = n
    · subst e; simp
    · rw [if_neg (by omega), if_neg (by omega)]; exact b3
  · rw [tn_u_n (c' := 47) (Or.inl (by decide)), tn_u_n (k' := 0) (Or.inr (by decide)), tn_u_n (k' := 1) (Or.inr (by decide))]
    exact a7 s hs
theorem l6_gn (hG : tn_Gd ks ρ) (hΓ : tn_is Γ m_X6_goesNight) (hK : tn_rt Γ m_X6_goesNight K) (hw : pp_w P) (h0 : 0 < pp_n P) (hv : ¬ pp_vo P = 0) {σ0 : Nat → Nat → Int32} (h : ∀ σ', rm_P σ' (pp_pn P) → rm_F σ0 σ' → σ' 39 9 = σ0 39 9 → K none ks ρ σ') : ∀ m n σ, n + m = pp_n P → rm_P σ (pp_los P n) → rm_F σ0 σ → σ 39 9 = σ0 39 9 → tn_A Γ 20 [.ref 39, .int (nI n)] [] 0 0 ks ρ σ := by
  intro m
  have h5 := hw.2.1
  have hpn : pp_pn P = pp_hang (pp_p3 P) := by unfold pp_pn; rw [if_neg hv]
  obtain ⟨g1, g2, -⟩ := hw.2.2.2.2.2.2.1 h0
  induction m with
  | zero =>
    intro n σ hn hR hF h9
    have h2 : σ 39 5 = nI (pp_n P) := by rw [hR.1, pp_los_0]; exact hw.1
    refine k_X6_goesNight_20 hG hΓ hK _ ⟨fun _ => ?_, fun q => ?_⟩
    · rw [show n = pp_n P by omega] at hR
      have r1 : rm_P σ (pp_p1 P) := hR
      have e8 : σ 39 8 = nI (pp_g P) := by rw [r1.2.2.2.1, pp_p1_0]; exact g1
      have hn1 : pp_n (pp_p1 P) = pp_n P := pp_n0 pp_p1_0
      rw [e8, nI_cl (by omega), (r1.2.2.2.2.2.1 (pp_g P) (by omega)).2.2.1]
      refine ⟨vp_in_nI (by omega) (by omega), ?_⟩
      have fin : ∀ σ2, rm_P σ2 (pp_p2 P) → rm_F σ0 σ2 → σ2 39 9 = σ0 39 9 → tn_CI m_X6_whoRankle [.ref 39] ks ρ σ2 (fun r1 σ1 => ((¬ r1 = 0 → (¬ (σ1 39 5) = 0 ∧ (∀ σ2, σ2 = tn_u σ1 39 8 (((σ1 39 8) + (σ1 39 7)) - ((σ1 39 8) + (σ1 39 7)) / (σ1 39 5) * (σ1 39 5)) → K none ks ρ σ2))) ∧ (r1 = 0 → tn_CV m_X6_layGreatest [.ref 39] ks ρ σ1 (fun σ3 => (¬ (σ3 39 5) = 0 ∧ (∀ σ4, σ4 = tn_u σ3 39 8 (((σ3 39 8) + (σ3 39 7)) - ((σ3 39 8) + (σ3 39 7)) / (σ3 39 5) * (σ3 39 5)) → K none ks ρ σ4)))))) := by
        intro σ2 r2 f2 k2
        refine q6_whoRankle hG r2 hw.p2 ⟨fun q3 => ?_, fun q3 => ?_⟩
        · have e3 : pp_p3 P = pp_p2 P := by unfold pp_p3; rw [if_neg q3]
          refine ⟨?_, fun σ5 e5 => h σ5 ?_ (f2.tr ?_) ?_⟩
          · rw [r2.1, pp_p2_0, hw.1]; exact nI_nz h0 (by omega)
          · rw [hpn, e3, e5]; exact rm_hang r2
          · rw [e5]; exact rm_F.u (Or.inl ⟨rfl, by decide, by decide⟩)
          · rw [e5, tn_u_n (Or.inr (by decide))]; exact k2
        · have e3 : pp_p3 P = pp_lay (pp_p2 P) := by unfold pp_p3; rw [if_pos q3]
          refine q6_layGreatest hG r2 hw.p2 (fun σ6 r6 f6 k6 => ⟨?_, fun σ7 e7 => h σ7 ?_ ((f2.tr f6).tr ?_) ?_⟩)
          · rw [r6.1, pp_lay_0, pp_p2_0, hw.1]; exact nI_nz h0 (by omega)
          · rw [hpn, e3, e7]; exact rm_hang r6
          · rw [e7]; exact rm_F.u (Or.inl ⟨rfl, by decide, by decide⟩)
          · rw [e7, tn_u_n (Or.inr (by decide)), k6]; exact k2
      refine ⟨fun q2 => fin σ ?_ hF h9, fun q2 => ?_⟩
      · unfold pp_p2; rw [if_neg q2]; exact r1
      · refine q6_owns hG r1 hw.p1 (by omega) (fun σ2 r2 f2 k2 => fin σ2 ?_ (hF.tr f2) (k2.trans h9))
        unfold pp_p2
        rw [if_pos q2]
        exact r2
    · rw [h2, nI_end (by omega) (by omega)] at q; omega
  | succ m ih =>
    intro n σ hn hR hF h9
    have h2 : σ 39 5 = nI (pp_n P) := by rw [hR.1, pp_los_0]; exact hw.1
    have hnn : pp_n (pp_los P n) = pp_n P := pp_n0 pp_los_0
    have e2 : σ 45 n = P (3 + n) 2 := by rw [(hR.2.2.2.2.2.1 n (by omega)).2.2.1, pp_los_s (by omega)]
    have es := pp_los_succ (P := P) (n := n)
    refine k_X6_goesNight_20 hG hΓ hK _ ⟨fun q => ?_, fun _ => ⟨vp_in_nI (by omega) (by omega), ?_⟩⟩
    · rw [h2, nI_end (by omega) (by omega)] at q; omega
    · rw [nI_cl (by omega), e2]
      refine ⟨fun q σ1 e1 y ey => ?_, fun q σ1 e1 y ey => ?_⟩
      · rw [nI_1] at ey; subst ey
        rw [if_neg (Int32.not_lt.mpr q)] at es
        have e3 : σ1 = σ := by
          rw [e1, Int32.sub_zero, ← e2]
          funext c k
          rw [tn_u_eq]
          split
          · rename_i z; rw [z.1, z.2]
          · rfl
        rw [e3]
        exact ih (n + 1) σ (by omega) (by rw [es]; exact hR) hF h9
      · rw [nI_1] at ey; subst ey
        rw [if_pos (Int32.not_le.mp q)] at es
        refine ih (n + 1) σ1 (by omega) ?_ (hF.tr ?_) ?_
        · rw [es, e1]; exact rm_sleep hR (hw.los n (by omega)) (by omega)
        · rw [e1]; exact rm_F.u (Or.inr (Or.inl ⟨rfl, by omega⟩))
        · rw [e1, tn_u_n (Or.inl (by decide))]; exact h9
theorem q6_goesNight (hG : tn_Gd ks ρ) (hR : rm_P σ P) (hw : pp_w P) (h0 : 0 < pp_n P) {K : (Nat → Nat → Int32) → Prop} (h : ∀ σ', rm_P σ' (pp_pn P) → rm_F σ σ' → σ' 39 9 = σ 39 9 + 1 → K σ') : tn_CV m_X6_goesNight [.ref 39] ks ρ σ K := by
  refine tn_iV mv_X6_goesNight (Nat.le_of_ble_eq_true rfl) (fun Γ hΓ hK => k_X6_goesNight_0 hG hΓ hK ?_)
  intro σ1 e1
  have r1 : rm_P σ1 P := by rw [e1]; exact rm_nights hR
  have f1 : rm_F σ σ1 := by rw [e1]; exact rm_F.u (Or.inl ⟨rfl, by decide, by decide⟩)
  have k1 : σ1 39 9 = σ 39 9 + 1 := by rw [e1, tn_u_s]
  refine q6_voiceNow hG r1 hw ⟨fun q => ?_, fun q => ?_⟩
  · exact l6_gn hG hΓ hK hw h0 q (fun σ' g1 g2 g3 => by rw [tn_kv]; exact h σ' g1 (f1.tr g2) (g3.trans k1)) (pp_n P) 0 σ1 (by omega) (by rw [pp_los_z]; exact r1) rm_F.rf rfl
  · rw [tn_kv]
    refine h σ1 ?_ f1 k1
    unfold pp_pn
    rw [if_pos q]; exact r1
end QM2
