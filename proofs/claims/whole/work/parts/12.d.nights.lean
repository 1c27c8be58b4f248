/-! ===== nights, acts, texts of a parish ===== -/
section QP
variable {ks : List (Nat × Nat)} {ρ : Nat → Nat → Nat} {σ : Nat → Nat → Int32} {Γ : tn_G} {K : Option Value → List (Nat × Nat) → (Nat → Nat → Nat) → (Nat → Nat → Int32) → Prop} {b b1 : Nat} {P : pp_T}
theorem rc_hang (hR : rc_P σ b P) : rc_P (tn_u σ b 5 ((σ b 5 + σ b 4) - (σ b 5 + σ b 4) / σ b 2 * σ b 2)) b (pp_hang P) := by
  rw [hR.1 5 (by omega) (by omega), hR.1 4 (by omega) (by omega), hR.1 2 (by omega) (by omega)]
  exact hR.u (i := 0) (Or.inr ⟨by decide, by decide⟩)
theorem nI_nz {n : Nat} (h : 0 < n) (h2 : n ≤ 1000) : ¬ nI n = 0 := nI_ne0 h (by omega)
theorem q_passNight (hG : tn_Gd ks ρ) (hb : tn_Pb b) (hR : rc_P σ b P) (hw : pp_w P) (h0 : 0 < pp_n P) {K : (Nat → Nat → Int32) → Prop} (h : ∀ σ', rc_P σ' b (pp_pn P) → rc_F b σ σ' → K σ') : tn_CV m_X1_passNight [.ref b] ks ρ σ K := by
  refine tn_iV mv_X1_passNight (Nat.le_of_ble_eq_true rfl) (fun Γ hΓ hK => k_X1_passNight_0 hG hΓ hK b hb ?_)
  simp only [tn_kv]
  have h5 := hw.2.1
  obtain ⟨a1, a2, -⟩ := hw.2.2.2.2.2.2.1 h0
  refine q_voice hG hb hR hw ⟨fun q => ?_, fun q => ?_⟩
  · refine h σ ?_ rc_F.rf
    unfold pp_pn
    rw [if_pos q]; exact hR
  · have hpn : pp_pn P = pp_hang (pp_p3 P) := by unfold pp_pn; rw [if_neg q]
    refine q_hasHouse hG hb ?_
    have e1 : ib (σ b 5) (σ b 2) = true := by
      rw [hR.1 5 (by omega) (by omega), hR.1 2 (by omega) (by omega), a1, hw.1]
      exact ib_of (by omega) a2
    rw [e1]
    refine ⟨fun _ => ?_, fun q => absurd q (by decide)⟩
    refine q_loseSleep hG hb hR hw (fun σ1 r1 f1 => ?_)
    have r1 : rc_P σ1 b (pp_p1 P) := r1
    have e5 : σ1 b 5 = nI (pp_g P) := by rw [r1.1 5 (by omega) (by omega), pp_p1_0]; exact a1
    rw [e5, nI_cl (by omega)]
    refine ⟨vp_in_nI (by omega) (by omega), ?_⟩
    have hn1 : pp_n (pp_p1 P) = pp_n P := pp_n0 pp_p1_0
    rw [r1.2.1 (pp_g P) (by omega) 2 (by omega)]
    have fin : ∀ σ2, rc_P σ2 b (pp_p2 P) → rc_F b σ σ2 → tn_CI m_X1_ranklingSet [.ref b] ks ρ σ2 (fun r3 σ4 => ((¬ r3 = 0 → (¬ (σ4 b 2) = 0 ∧ (∀ σ5, σ5 = tn_u σ4 b 5 (((σ4 b 5) + (σ4 b 4)) - ((σ4 b 5) + (σ4 b 4)) / (σ4 b 2) * (σ4 b 2)) → K σ5))) ∧ (r3 = 0 → tn_CV m_X1_layHeaviestStone [.ref b] ks ρ σ4 (fun σ6 => (¬ (σ6 b 2) = 0 ∧ (∀ σ7, σ7 = tn_u σ6 b 5 (((σ6 b 5) + (σ6 b 4)) - ((σ6 b 5) + (σ6 b 4)) / (σ6 b 2) * (σ6 b 2)) → K σ7)))))) := by
      intro σ2 r2 f2
      refine q_ranklingSet hG hb r2 hw.p2 ⟨fun q3 => ?_, fun q3 => ?_⟩
      · have e3 : pp_p3 P = pp_p2 P := by unfold pp_p3; rw [if_neg q3]
        refine ⟨?_, fun σ5 e5 => h σ5 ?_ (f2.tr ?_)⟩
        · rw [r2.1 2 (by omega) (by omega), pp_p2_0, hw.1]; exact nI_nz h0 (by omega)
        · rw [hpn, e3, e5]; exact rc_hang r2
        · rw [e5]; exact rc_F.u (by omega) (by omega)
      · have e3 : pp_p3 P = pp_lay (pp_p2 P) := by unfold pp_p3; rw [if_pos q3]
        refine q_layHeaviestStone hG hb r2 hw.p2 (fun σ6 r6 f6 => ⟨?_, fun σ7 e7 => h σ7 ?_ ((f2.tr f6).tr ?_)⟩)
        · rw [r6.1 2 (by omega) (by omega), pp_lay_0, pp_p2_0, hw.1]; exact nI_nz h0 (by omega)
        · rw [hpn, e3, e7]; exact rc_hang r6
        · rw [e7]; exact rc_F.u (by omega) (by omega)
    refine ⟨fun q2 => fin σ1 ?_ f1, fun q2 => ?_⟩
    · unfold pp_p2; rw [if_neg q2]; exact r1
    · refine q_ownUp hG (gp_kH hG hb (by omega)) (fin _ ?_ (f1.tr (rF_own (by omega))))
      unfold pp_p2
      rw [if_pos q2]
      exact rc_own r1 (by omega)
theorem l_pns (hG : tn_Gd ks ρ) (hΓ : tn_is Γ m_X1_passNights) (hK : tn_rt Γ m_X1_passNights K) (hb : tn_Pb b) (hw : pp_w P) (h0 : 0 < pp_n P) {σ0 : Nat → Nat → Int32} {N : Nat} (hN : N ≤ 1000) (h : ∀ σ', rc_P σ' b (pp_pns P N) → rc_F b σ0 σ' → K none ks ρ σ') : ∀ m n σ, n + m = N → rc_P σ b (pp_pns P n) → rc_F b σ0 σ → tn_A Γ 2 [.ref b, .int (nI N), .int (nI n)] [] 0 0 ks ρ σ := by
  intro m
  induction m with
  | zero =>
    intro n σ hn hR hF
    refine k_X1_passNights_2 hG hΓ hK b hb _ _ ⟨fun _ => ?_, fun q => ?_⟩
    · rw [show n = N by omega] at hR; exact h σ hR hF
    · rw [nI_end (by omega) (by omega)] at q; omega
  | succ m ih =>
    intro n σ hn hR hF
    refine k_X1_passNights_2 hG hΓ hK b hb _ _ ⟨fun q => ?_, fun _ => ?_⟩
    · rw [nI_end (by omega) (by omega)] at q; omega
    · refine q_passNight hG hb hR (hw.pns h0 n) (by rw [pp_pns_n]; exact h0) (fun σ1 r1 f1 y ey => ?_)
      rw [nI_1] at ey; subst ey
      exact ih (n + 1) σ1 (by omega) r1 (hF.tr f1)
theorem q_passNights (hG : tn_Gd ks ρ) (hb : tn_Pb b) (hR : rc_P σ b P) (hw : pp_w P) (h0 : 0 < pp_n P) {N : Nat} (hN : N ≤ 1000) {K : (Nat → Nat → Int32) → Prop} (h : ∀ σ', rc_P σ' b (pp_pns P N) → rc_F b σ σ' → K σ') : tn_CV m_X1_passNights [.ref b, .int (nI N)] ks ρ σ K := by
  refine tn_iV mv_X1_passNights (Nat.le_of_ble_eq_true rfl) (fun Γ hΓ hK => k_X1_passNights_0 hG hΓ hK b (nI N) hb ?_)
  exact l_pns hG hΓ hK hb hw h0 hN (fun σ' g1 g2 => by rw [tn_kv]; exact h σ' g1 g2) N 0 σ (by omega) hR rc_F.rf
/-- in how many nights it is quiet, from the t-th on, looking at so many more -/
def pp_q (P : pp_T) (t : Nat) : Nat → Int32
  | 0 => -9
  | m + 1 => if pp_vo (pp_pns P t) = 0 then nI t else pp_q P (t + 1) m
theorem l_nuq (hG : tn_Gd ks ρ) (hΓ : tn_is Γ m_X1_nightsUntilQuiet) (hK : tn_rt Γ m_X1_nightsUntilQuiet K) (hb : tn_Pb b) (hw : pp_w P) (h0 : 0 < pp_n P) {σ0 : Nat → Nat → Int32} {N : Nat} (hN : N ≤ 100) : ∀ m n σ, n + m = N + 1 → rc_P σ b (pp_pns P n) → rc_F b σ0 σ → (∀ σ', rc_F b σ0 σ' → K (some (.int (pp_q P n m))) ks ρ σ') → tn_A Γ 9 [.ref b, .null, .int (nI N), .int (nI n)] [] 0 0 ks ρ σ := by
  intro m
  induction m with
  | zero =>
    intro n σ hn hR hF h
    refine k_X1_nightsUntilQuiet_9 hG hΓ hK b hb _ _ ⟨fun _ => h σ hF, fun q => ?_⟩
    rw [nI_ltI (by omega) (by omega)] at q; omega
  | succ m ih =>
    intro n σ hn hR hF h
    have hwn := hw.pns h0 n
    refine k_X1_nightsUntilQuiet_9 hG hΓ hK b hb _ _ ⟨fun q => ?_, fun _ => ?_⟩
    · rw [nI_ltI (by omega) (by omega)] at q; omega
    · refine q_voice hG hb hR hwn ⟨fun q => ?_, fun q => ?_⟩
      · refine q_passNight hG hb hR hwn (by rw [pp_pns_n]; exact h0) (fun σ1 r1 f1 y ey => ?_)
        rw [nI_1] at ey; subst ey
        refine ih (n + 1) σ1 (by omega) r1 (hF.tr f1) (fun σ' hF' => ?_)
        have := h σ' hF'
        rw [pp_q, if_neg q] at this
        exact this
      · have := h σ hF
        rw [pp_q, if_pos q] at this
        exact this
theorem q_nightsUntilQuiet (hG : tn_Gd ks ρ) (hb : tn_Pb b) (hR : rc_P σ b P) (hw : pp_w P) (h0 : 0 < pp_n P) {N : Nat} (hN : N ≤ 100) {K : Int32 → (Nat → Nat → Int32) → Prop} (h : ∀ σ', rc_F b σ σ' → K (pp_q P 0 (min 18 N + 1)) σ') : tn_CI m_X1_nightsUntilQuiet [.ref b, .int (nI N)] ks ρ σ K := by
  refine tn_iI mv_X1_nightsUntilQuiet (Nat.le_of_ble_eq_true rfl) (fun Γ hΓ hK => k_X1_nightsUntilQuiet_0 hG hΓ hK b (nI N) hb ?_)
  intro x ex
  have e : x = nI (min 18 N) := by
    rw [ex, show (18 : Int32) = nI 18 from by decide]
    by_cases h : 18 < N
    · rw [if_pos ((nI_ltI (by omega) (by omega)).mpr h), Nat.min_eq_left (by omega)]
    · rw [if_neg (fun q => h ((nI_ltI (by omega) (by omega)).mp q)), Nat.min_eq_right (by omega)]
  subst e
  exact l_nuq hG hΓ hK hb hw h0 (by omega) (min 18 N + 1) 0 σ (by omega) hR rc_F.rf (fun σ' g => by rw [tn_ki]; exact h σ' g)
/-! acts of a day -/
/-- an act: can it be, and the picture behind it -/
def pp_act (P : pp_T) (a : Int32) : Bool × pp_T :=
  if (5 : Int32) ≤ a then (if (10 : Int32) ≤ a then (if (14 : Int32) ≤ a then (true, pp_pn P) else
    (if ib (a - 10) (P 0 3) = true ∧ P (8 + (a - 10).toNatClampNeg) 1 = 0 then (true, tn_u P (8 + (a - 10).toNatClampNeg) 1 1) else (false, P)))
    else (if ib (a - 5) (P 0 2) = true then (true, tn_u P (3 + (a - 5).toNatClampNeg) 2 9) else (false, P)))
  else (if ib a (P 0 2) = true then (true, pp_own P a.toNatClampNeg) else (false, P))
theorem q_ownsAsAct (hG : tn_Gd ks ρ) (hb : tn_Pb b) (hR : rc_P σ b P) (hw : pp_w P) {a : Int32} {K : Int32 → (Nat → Nat → Int32) → Prop} (h : ∀ σ', rc_P σ' b (if ib a (P 0 2) = true then pp_own P a.toNatClampNeg else P) → rc_F b σ σ' → K (if ib a (P 0 2) = true then 1 else 0) σ') : tn_CI m_X1_ownsAsAct [.ref b, .int a] ks ρ σ K := by
  have h5 := hw.2.1
  refine tn_iI mv_X1_ownsAsAct (Nat.le_of_ble_eq_true rfl) (fun Γ hΓ hK => k_X1_ownsAsAct_0 hG hΓ hK b a hb ?_)
  simp only [tn_ki]
  refine q_hasHouse hG hb ?_
  rw [hR.1 2 (by omega) (by omega)]
  refine bn (fun q => ?_) (fun q => ?_)
  · have q' := q
    rw [hw.1] at q'
    obtain ⟨j, hj, rfl⟩ := ib_nI (by omega) q'
    rw [q] at h
    rw [nI_cl (by omega)] at h ⊢
    exact ⟨vp_in_nI (by omega) (by omega), q_ownUp hG (gp_kH hG hb (by omega)) (h _ (rc_own hR hj) (rF_own (by omega)))⟩
  · rw [q] at h
    exact h σ hR rc_F.rf
theorem q_sleepsAsAct (hG : tn_Gd ks ρ) (hb : tn_Pb b) (hR : rc_P σ b P) (hw : pp_w P) {a : Int32} {K : Int32 → (Nat → Nat → Int32) → Prop} (h : ∀ σ', rc_P σ' b (if ib a (P 0 2) = true then tn_u P (3 + a.toNatClampNeg) 2 9 else P) → rc_F b σ σ' → K (if ib a (P 0 2) = true then 1 else 0) σ') : tn_CI m_X1_sleepsAsAct [.ref b, .int a] ks ρ σ K := by
  have h5 := hw.2.1
  refine tn_iI mv_X1_sleepsAsAct (Nat.le_of_ble_eq_true rfl) (fun Γ hΓ hK => k_X1_sleepsAsAct_0 hG hΓ hK b a hb ?_)
  simp only [tn_ki]
  refine q_hasHouse hG hb ?_
  rw [hR.1 2 (by omega) (by omega)]
  refine bn (fun q => ?_) (fun q => ?_)
  · have q' := q
    rw [hw.1] at q'
    obtain ⟨j, hj, rfl⟩ := ib_nI (by omega) q'
    rw [q] at h
    rw [nI_cl (by omega)] at h ⊢
    refine ⟨vp_in_nI (by omega) (by omega), fun σ2 e2 => h σ2 ?_ ?_⟩
    · rw [e2, if_pos rfl, show b + 3 + j = b + (3 + j) by omega]; exact hR.u (Or.inl (by omega))
    · rw [e2]; exact rc_F.u (by omega) (by omega)
  · rw [q] at h
    exact h σ hR rc_F.rf
theorem q_isLaidAsAct (hG : tn_Gd ks ρ) (hb : tn_Pb b) (hR : rc_P σ b P) (hw : pp_w P) {a : Int32} {K : Int32 → (Nat → Nat → Int32) → Prop} (h1 : ib a (P 0 3) = true ∧ P (8 + a.toNatClampNeg) 1 = 0 → ∀ σ', rc_P σ' b (tn_u P (8 + a.toNatClampNeg) 1 1) → rc_F b σ σ' → K 1 σ') (h2 : ¬ (ib a (P 0 3) = true ∧ P (8 + a.toNatClampNeg) 1 = 0) → K 0 σ) : tn_CI m_X1_isLaidAsAct [.ref b, .int a] ks ρ σ K := by
  have h5 := hw.2.2.2.1
  refine tn_iI mv_X1_isLaidAsAct (Nat.le_of_ble_eq_true rfl) (fun Γ hΓ hK => k_X1_isLaidAsAct_0 hG hΓ hK b a hb ?_)
  simp only [tn_ki]
  refine q_hasStone hG hb ?_
  rw [hR.1 3 (by omega) (by omega)]
  refine bz (fun q => ?_) (fun q => ?_)
  · exact h2 (fun z => by rw [q] at z; cases z.1)
  · have q' := q
    rw [hw.2.2.1] at q'
    obtain ⟨j, hj, rfl⟩ := ib_nI (by omega) q'
    rw [q] at h1 h2
    rw [nI_cl (by omega)] at h1 h2 ⊢
    rw [hR.2.2 j hj 1 (by omega)]
    refine ⟨vp_in_nI (by omega) (by omega), fun q3 σ2 e2 => h1 ⟨rfl, q3⟩ σ2 ?_ ?_, fun q3 => h2 (fun z => q3 z.2)⟩
    · rw [e2, show b + 8 + j = b + (8 + j) by omega]; exact hR.u (Or.inl (by omega))
    · rw [e2]; exact rc_F.u (by omega) (by omega)
theorem q_acts (hG : tn_Gd ks ρ) (hb : tn_Pb b) (hR : rc_P σ b P) (hw : pp_w P) (h0 : 0 < pp_n P) {a : Int32} {K : Int32 → (Nat → Nat → Int32) → Prop} (h : ∀ σ', rc_P σ' b (pp_act P a).2 → rc_F b σ σ' → K (if (pp_act P a).1 = true then 1 else 0) σ') : tn_CI m_X1_acts [.ref b, .int a] ks ρ σ K := by
  refine tn_iI mv_X1_acts (Nat.le_of_ble_eq_true rfl) (fun Γ hΓ hK => k_X1_acts_0 hG hΓ hK b a hb ?_)
  simp only [tn_ki]
  unfold pp_act at h
  refine ⟨fun q5 => ⟨fun q10 => ⟨fun q14 => ?_, fun q14 => ?_⟩, fun q10 => ?_⟩, fun q5 => ?_⟩
  · rw [if_pos q5, if_pos q10, if_pos q14] at h
    exact q_passNight hG hb hR hw h0 (fun σ' r f => h σ' r f)
  · rw [if_pos q5, if_pos q10, if_neg q14] at h
    refine q_isLaidAsAct hG hb hR hw (fun q σ' r f => ?_) (fun q => ?_)
    · rw [if_pos q] at h
      exact ⟨Or.inr rfl, h σ' r f⟩
    · rw [if_neg q] at h
      exact ⟨Or.inl rfl, h σ hR rc_F.rf⟩
  · rw [if_pos q5, if_neg q10] at h
    refine q_sleepsAsAct hG hb hR hw (fun σ' r f => ?_)
    by_cases q : ib (a - 5) (P 0 2) = true
    · rw [if_pos q] at h r ⊢
      exact ⟨Or.inr rfl, h σ' r f⟩
    · rw [if_neg q] at h r ⊢
      exact ⟨Or.inl rfl, h σ' r f⟩
  · rw [if_neg q5] at h
    refine q_ownsAsAct hG hb hR hw (fun σ' r f => ?_)
    by_cases q : ib a (P 0 2) = true
    · rw [if_pos q] at h r ⊢
      exact ⟨Or.inr rfl, h σ' r f⟩
    · rw [if_neg q] at h r ⊢
      exact ⟨Or.inl rfl, h σ' r f⟩
theorem pp_ownA_0 {x : Int32} : ∀ n, pp_ownA P x n 0 = P 0
  | 0 => rfl
  | n + 1 => by
    rw [pp_ownA]
    split
    · exact pp_ownA_0 n
    · rw [pp_own_0]; exact pp_ownA_0 n
theorem pp_w.ownA (hw : pp_w P) {x : Int32} : ∀ n, pp_w (pp_ownA P x n)
  | 0 => hw
  | n + 1 => by
    rw [pp_ownA]
    split
    · exact hw.ownA n
    · exact (hw.ownA n).own n
theorem l_ownA (hG : tn_Gd ks ρ) (hΓ : tn_is Γ m_X1_ownUpAll) (hK : tn_rt Γ m_X1_ownUpAll K) (hb : tn_Pb b) (hw : pp_w P) {x : Int32} {σ0 : Nat → Nat → Int32} (h : ∀ σ', rc_P σ' b (pp_ownA P x (pp_n P)) → rc_F b σ0 σ' → K none ks ρ σ') : ∀ m n σ, n + m = pp_n P → rc_P σ b (pp_ownA P x n) → rc_F b σ0 σ → tn_A Γ 2 [.ref b, .int x, .int (nI n)] [] 0 0 ks ρ σ := by
  intro m
  have h4 := hw.2.1
  induction m with
  | zero =>
    intro n σ hn hR hF
    have h2 : σ b 2 = nI (pp_n P) := by rw [hR.1 2 (by omega) (by omega), pp_ownA_0]; exact hw.1
    refine k_X1_ownUpAll_2 hG hΓ hK b hb _ _ ⟨fun _ => ?_, fun q => ?_⟩
    · rw [show n = pp_n P by omega] at hR
      exact h σ hR hF
    · rw [h2, nI_end (by omega) (by omega)] at q; omega
  | succ m ih =>
    intro n σ hn hR hF
    have h2 : σ b 2 = nI (pp_n P) := by rw [hR.1 2 (by omega) (by omega), pp_ownA_0]; exact hw.1
    have hnn : pp_n (pp_ownA P x n) = pp_n P := pp_n0 (pp_ownA_0 n)
    refine k_X1_ownUpAll_2 hG hΓ hK b hb _ _ ⟨fun q => ?_, fun _ => ⟨fun q y ey => ?_, fun q => ⟨vp_in_nI (by omega) (by omega), ?_⟩⟩⟩
    · rw [h2, nI_end (by omega) (by omega)] at q; omega
    · have q' : bi x n = 0 := q
      rw [nI_1] at ey; subst ey
      exact ih (n + 1) σ (by omega) (by rw [pp_ownA, if_pos q']; exact hR) hF
    · have q' : ¬ bi x n = 0 := q
      rw [nI_cl (by omega)]
      refine q_ownUp hG (gp_kH hG hb (by omega)) (fun y ey => ?_)
      rw [nI_1] at ey; subst ey
      exact ih (n + 1) _ (by omega) (by rw [pp_ownA, if_neg q']; exact rc_own hR (by omega)) (hF.tr (rF_own (by omega)))
theorem q_ownUpAll (hG : tn_Gd ks ρ) (hb : tn_Pb b) (hR : rc_P σ b P) (hw : pp_w P) {x : Int32} {K : (Nat → Nat → Int32) → Prop} (h : ∀ σ', rc_P σ' b (pp_ownA P x (pp_n P)) → rc_F b σ σ' → K σ') : tn_CV m_X1_ownUpAll [.ref b, .int x] ks ρ σ K := by
  refine tn_iV mv_X1_ownUpAll (Nat.le_of_ble_eq_true rfl) (fun Γ hΓ hK => k_X1_ownUpAll_0 hG hΓ hK b x hb ?_)
  exact l_ownA hG hΓ hK hb hw (fun σ' g1 g2 => by rw [tn_kv]; exact h σ' g1 g2) (pp_n P) 0 σ (by omega) hR rc_F.rf
end QP
