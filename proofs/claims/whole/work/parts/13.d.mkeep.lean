/-! ===== the model keeps and puts back ===== -/
/-- the kept row's place pl holds what τ is -/
def mk_K (f : Nat → Int32) (pl : Nat) (τ : Nat → Nat → Int32) : Prop := (∀ h, h < 5 → f (15 * pl + h) = τ 45 h ∧ f (15 * pl + 5 + h) = τ 46 h) ∧ f (15 * pl + 10) = τ 39 11 ∧ f (15 * pl + 11) = τ 39 12 ∧ f (15 * pl + 12) = τ 39 8 ∧ f (15 * pl + 13) = τ 39 9 ∧ f (15 * pl + 14) = τ 39 10
theorem mk_K.c {f : Nat → Int32} {pl : Nat} {τ τ' : Nat → Nat → Int32} (h : mk_K f pl τ) (h1 : τ' 45 = τ 45) (h2 : τ' 46 = τ 46) (h3 : τ' 39 = τ 39) : mk_K f pl τ' := by
  unfold mk_K
  rw [h1, h2, h3]
  exact h
section QM3
variable {ks : List (Nat × Nat)} {ρ : Nat → Nat → Nat} {σ : Nat → Nat → Int32} {Γ : tn_G} {K : Option Value → List (Nat × Nat) → (Nat → Nat → Nat) → (Nat → Nat → Int32) → Prop} {P : pp_T}
theorem n15 {pl : Nat} {x : Int32} (hx : x = nI pl) (q : Nat) : (15 : Int32) * x + nI q = nI (15 * pl + q) := by
  rw [hx, show (15 : Int32) = nI 15 from by decide, pk_mul, nI_add]
theorem n15l {pl : Nat} {x y : Int32} (hx : x = nI pl) {q : Nat} (hy : y = nI q) : (15 : Int32) * x + y = nI (15 * pl + q) := by
  rw [hy]; exact n15 hx q
theorem l6_keep (hG : tn_Gd ks ρ) (hΓ : tn_is Γ m_X6_keep) (hK : tn_rt Γ m_X6_keep K) {pl : Nat} {x : Int32} (hx : x = nI pl) (hpl : pl ≤ 1) {σ0 : Nat → Nat → Int32} (h : ∀ σ', mk_K (σ' 50) pl σ0 → (∀ c, c ≠ 50 → σ' c = σ0 c) → (∀ k, k < 15 * pl ∨ 15 * pl + 15 ≤ k → σ' 50 k = σ0 50 k) → K none ks ρ σ') : ∀ m n σ, n + m = 5 → (∀ j, j < n → σ 50 (15 * pl + j) = σ0 45 j ∧ σ 50 (15 * pl + 5 + j) = σ0 46 j) → (∀ c, c ≠ 50 → σ c = σ0 c) → (∀ k, k < 15 * pl ∨ 15 * pl + 15 ≤ k → σ 50 k = σ0 50 k) → tn_A Γ 2 [.ref 39, .int x, .int (nI n)] [] 0 0 ks ρ σ := by
  intro m
  have e5 : (5 : Int32) = nI 5 := by decide
  induction m with
  | zero =>
    intro n σ hn hj hc hk
    refine k_X6_keep_2 hG hΓ hK _ _ ⟨fun _ => ?_, fun q => ?_⟩
    · have i10 := n15l hx (show (10 : Int32) = nI 10 from by decide)
      have i11 := n15l hx (show (11 : Int32) = nI 11 from by decide)
      have i12 := n15l hx (show (12 : Int32) = nI 12 from by decide)
      have i13 := n15l hx (show (13 : Int32) = nI 13 from by decide)
      have i14 := n15l hx (show (14 : Int32) = nI 14 from by decide)
      rw [i10, i11, i12, i13, i14, nI_cl (by omega), nI_cl (by omega), nI_cl (by omega), nI_cl (by omega), nI_cl (by omega)]
      refine ⟨vp_in_nI (by omega) (by omega), fun σ1 e1 => ⟨vp_in_nI (by omega) (by omega), fun σ2 e2 => ⟨vp_in_nI (by omega) (by omega), fun σ3 e3 => ⟨vp_in_nI (by omega) (by omega), fun σ4 e4 => ⟨vp_in_nI (by omega) (by omega), fun σ5 e5 => ?_⟩⟩⟩⟩⟩
      have c1 : ∀ c, c ≠ 50 → σ1 c = σ c := fun c hc => by rw [e1]; exact funext fun k => tn_u_n (Or.inl hc)
      have c2 : ∀ c, c ≠ 50 → σ2 c = σ c := fun c hc => by rw [e2]; exact (funext fun k => tn_u_n (Or.inl hc)).trans (c1 c hc)
      have c3 : ∀ c, c ≠ 50 → σ3 c = σ c := fun c hc => by rw [e3]; exact (funext fun k => tn_u_n (Or.inl hc)).trans (c2 c hc)
      have c4 : ∀ c, c ≠ 50 → σ4 c = σ c := fun c hc => by rw [e4]; exact (funext fun k => tn_u_n (Or.inl hc)).trans (c3 c hc)
      have c5 : ∀ c, c ≠ 50 → σ5 c = σ c := fun c hc => by rw [e5]; exact (funext fun k => tn_u_n (Or.inl hc)).trans (c4 c hc)
      rw [c4 39 (by decide), hc 39 (by decide)] at e5
      rw [c3 39 (by decide), hc 39 (by decide)] at e4
      rw [c2 39 (by decide), hc 39 (by decide)] at e3
      rw [c1 39 (by decide), hc 39 (by decide)] at e2
      rw [hc 39 (by decide)] at e1
      have hn5 : n = 5 := by omega
      refine h σ5 ⟨fun j hj5 => ?_, ?_, ?_, ?_, ?_, ?_⟩ (fun c hc' => (c5 c hc').trans (hc c hc')) (fun k hk' => ?_)
      · obtain ⟨b1, b2⟩ := hj j (by omega)
        rw [e5, e4, e3, e2, e1]
        simp only [tn_u_eq]
        refine ⟨?_, ?_⟩
        · rw [if_neg (by omega), if_neg (by omega), if_neg (by omega), if_neg (by omega), if_neg (by omega)]; exact b1
        · rw [if_neg (by omega), if_neg (by omega), if_neg (by omega), if_neg (by omega), if_neg (by omega)]; exact b2
      · rw [e5, e4, e3, e2, e1]; simp [tn_u_eq]
      · rw [e5, e4, e3, e2]; simp [tn_u_eq]
      · rw [e5, e4, e3]; simp [tn_u_eq]
      · rw [e5, e4]; simp [tn_u_eq]
      · rw [e5]; simp [tn_u_eq]
      · rw [e5, e4, e3, e2, e1]
        simp only [tn_u_eq]
        rw [if_neg (by omega), if_neg (by omega), if_neg (by omega), if_neg (by omega), if_neg (by omega)]; exact hk k hk'
    · rw [e5, nI_end (by omega) (by omega)] at q; omega
  | succ m ih =>
    intro n σ hn hj hc hk
    have i0 := n15 hx n
    have i5 : (15 : Int32) * x + 5 + nI n = nI (15 * pl + 5 + n) := by rw [n15l hx e5, nI_add]
    refine k_X6_keep_2 hG hΓ hK _ _ ⟨fun q => ?_, fun _ => ?_⟩
    · rw [e5, nI_end (by omega) (by omega)] at q; omega
    · rw [i0, i5, nI_cl (by omega), nI_cl (by omega), nI_cl (by omega)]
      refine ⟨vp_in_nI (by omega) (by omega), vp_in_nI (by omega) (by omega), fun σ1 e1 => ⟨vp_in_nI (by omega) (by omega), fun σ2 e2 y ey => ?_⟩⟩
      rw [nI_1] at ey; subst ey
      have c1 : ∀ c, c ≠ 50 → σ1 c = σ c := fun c hc => by rw [e1]; exact funext fun k => tn_u_n (Or.inl hc)
      have c2 : ∀ c, c ≠ 50 → σ2 c = σ c := fun c hc => by rw [e2]; exact (funext fun k => tn_u_n (Or.inl hc)).trans (c1 c hc)
      rw [c1 46 (by decide), hc 46 (by decide)] at e2
      rw [hc 45 (by decide)] at e1
      refine ih (n + 1) σ2 (by omega) (fun j hj' => ?_) (fun c hc' => (c2 c hc').trans (hc c hc')) (fun k hk' => ?_)
      · rw [e2, e1]
        simp only [tn_u_eq]
        by_cases e : j = n
        · subst e
          refine ⟨?_, ?_⟩
          · rw [if_neg (by omega), if_pos (by simp)]
          · rw [if_pos (by simp)]
        · obtain ⟨b1, b2⟩ := hj j (by omega)
          refine ⟨?_, ?_⟩
          · rw [if_neg (by omega), if_neg (by omega)]; exact b1
          · rw [if_neg (by omega), if_neg (by omega)]; exact b2
      · rw [e2, e1]
        simp only [tn_u_eq]
        rw [if_neg (by omega), if_neg (by omega)]; exact hk k hk'
theorem q6_keep (hG : tn_Gd ks ρ) {pl : Nat} {x : Int32} (hx : x = nI pl) (hpl : pl ≤ 1) {K : (Nat → Nat → Int32) → Prop} (h : ∀ σ', mk_K (σ' 50) pl σ' → (∀ c, c ≠ 50 → σ' c = σ c) → (∀ k, k < 15 * pl ∨ 15 * pl + 15 ≤ k → σ' 50 k = σ 50 k) → K σ') : tn_CV m_X6_keep [.ref 39, .int x] ks ρ σ K := by
  refine tn_iV mv_X6_keep (Nat.le_of_ble_eq_true rfl) (fun Γ hΓ hK => k_X6_keep_0 hG hΓ hK x ?_)
  exact l6_keep hG hΓ hK hx hpl (fun σ' g1 g2 g3 => by rw [tn_kv]; exact h σ' (g1.c (g2 45 (by decide)) (g2 46 (by decide)) (g2 39 (by decide))) g2 g3) 5 0 σ (by omega) (fun j hj => by omega) (fun _ _ => rfl) (fun _ _ => rfl)
theorem l6_back (hG : tn_Gd ks ρ) (hΓ : tn_is Γ m_X6_putBack) (hK : tn_rt Γ m_X6_putBack K) {pl : Nat} {x : Int32} (hx : x = nI pl) (hpl : pl ≤ 1) {τ : Nat → Nat → Int32} (hk : mk_K (τ 50) pl τ) (h : K none ks ρ τ) : ∀ m n σ, n + m = 5 → rm_F τ σ → (∀ j, j < n → σ 45 j = τ 45 j ∧ σ 46 j = τ 46 j) → tn_A Γ 2 [.ref 39, .int x, .int (nI n)] [] 0 0 ks ρ σ := by
  intro m
  have e5 : (5 : Int32) = nI 5 := by decide
  obtain ⟨k0, k10, k11, k12, k13, k14⟩ := hk
  induction m with
  | zero =>
    intro n σ hn hF hj
    have h50 : σ 50 = τ 50 := hF.1 50 (by decide) (by decide) (by decide)
    refine k_X6_putBack_2 hG hΓ hK _ _ ⟨fun _ => ?_, fun q => ?_⟩
    · have i10 := n15l hx (show (10 : Int32) = nI 10 from by decide)
      have i11 := n15l hx (show (11 : Int32) = nI 11 from by decide)
      have i12 := n15l hx (show (12 : Int32) = nI 12 from by decide)
      have i13 := n15l hx (show (13 : Int32) = nI 13 from by decide)
      have i14 := n15l hx (show (14 : Int32) = nI 14 from by decide)
      rw [i10, i11, i12, i13, i14, nI_cl (by omega), nI_cl (by omega), nI_cl (by omega), nI_cl (by omega), nI_cl (by omega)]
      refine ⟨vp_in_nI (by omega) (by omega), fun σ1 e1 => ⟨vp_in_nI (by omega) (by omega), fun σ2 e2 => ⟨vp_in_nI (by omega) (by omega), fun σ3 e3 => ⟨vp_in_nI (by omega) (by omega), fun σ4 e4 => ⟨vp_in_nI (by omega) (by omega), fun σ5 e5 => ?_⟩⟩⟩⟩⟩
      have c1 : ∀ c, c ≠ 39 → σ1 c = σ c := fun c hc => by rw [e1]; exact funext fun k => tn_u_n (Or.inl hc)
      have c2 : ∀ c, c ≠ 39 → σ2 c = σ c := fun c hc => by rw [e2]; exact (funext fun k => tn_u_n (Or.inl hc)).trans (c1 c hc)
      have c3 : ∀ c, c ≠ 39 → σ3 c = σ c := fun c hc => by rw [e3]; exact (funext fun k => tn_u_n (Or.inl hc)).trans (c2 c hc)
      have c4 : ∀ c, c ≠ 39 → σ4 c = σ c := fun c hc => by rw [e4]; exact (funext fun k => tn_u_n (Or.inl hc)).trans (c3 c hc)
      have c5 : ∀ c, c ≠ 39 → σ5 c = σ c := fun c hc => by rw [e5]; exact (funext fun k => tn_u_n (Or.inl hc)).trans (c4 c hc)
      rw [c4 50 (by decide), h50, k14] at e5
      rw [c3 50 (by decide), h50, k13] at e4
      rw [c2 50 (by decide), h50, k12] at e3
      rw [c1 50 (by decide), h50, k11] at e2
      rw [h50, k10] at e1
      have hfin : σ5 = τ := by
        funext c k
        by_cases hc : c = 39
        · subst hc
          by_cases hk8 : k < 8 ∨ 12 < k
          · rw [e5, tn_u_n (Or.inr (by omega)), e4, tn_u_n (Or.inr (by omega)), e3, tn_u_n (Or.inr (by omega)), e2, tn_u_n (Or.inr (by omega)), e1, tn_u_n (Or.inr (by omega))]
            exact hF.2.1 k hk8
          · have hz : k = 8 ∨ k = 9 ∨ k = 10 ∨ k = 11 ∨ k = 12 := by omega
            rw [e5, e4, e3, e2, e1]
            rcases hz with rfl | rfl | rfl | rfl | rfl <;> simp [tn_u_eq]
        · rw [c5 c hc]
          by_cases h45 : c = 45
          · subst h45
            by_cases h5k : 5 ≤ k
            · exact (hF.2.2 k h5k).1
            · exact (hj k (by omega)).1
          · by_cases h46 : c = 46
            · subst h46
              by_cases h5k : 5 ≤ k
              · exact (hF.2.2 k h5k).2
              · exact (hj k (by omega)).2
            · exact congrFun (hF.1 c hc h45 h46) k
      rw [hfin]
      exact h
    · rw [e5, nI_end (by omega) (by omega)] at q; omega
  | succ m ih =>
    intro n σ hn hF hj
    have h50 : σ 50 = τ 50 := hF.1 50 (by decide) (by decide) (by decide)
    have i0 := n15 hx n
    have i5 : (15 : Int32) * x + 5 + nI n = nI (15 * pl + 5 + n) := by rw [n15l hx e5, nI_add]
    obtain ⟨b1, b2⟩ := k0 n (by omega)
    refine k_X6_putBack_2 hG hΓ hK _ _ ⟨fun q => ?_, fun _ => ?_⟩
    · rw [e5, nI_end (by omega) (by omega)] at q; omega
    · rw [i0, i5, nI_cl (by omega), nI_cl (by omega), nI_cl (by omega)]
      refine ⟨vp_in_nI (by omega) (by omega), vp_in_nI (by omega) (by omega), fun σ1 e1 => ⟨vp_in_nI (by omega) (by omega), fun σ2 e2 y ey => ?_⟩⟩
      rw [nI_1] at ey; subst ey
      rw [h50, b1] at e1
      have h51 : σ1 50 = τ 50 := by rw [e1]; exact (funext fun k => tn_u_n (Or.inl (by decide))).trans h50
      rw [h51, b2] at e2
      refine ih (n + 1) σ2 (by omega) (hF.tr ?_) (fun j hj' => ?_)
      · rw [e2, e1]
        exact (rm_F.u (Or.inr (Or.inl ⟨rfl, by omega⟩))).tr (rm_F.u (Or.inr (Or.inr ⟨rfl, by omega⟩)))
      · rw [e2, e1]
        simp only [tn_u_eq]
        by_cases e : j = n
        · subst e; simp
        · obtain ⟨d1, d2⟩ := hj j (by omega)
          refine ⟨?_, ?_⟩
          · rw [if_neg (by omega), if_neg (by omega)]; exact d1
          · rw [if_neg (by omega), if_neg (by omega)]; exact d2
theorem q6_putBack (hG : tn_Gd ks ρ) {pl : Nat} {x : Int32} (hx : x = nI pl) (hpl : pl ≤ 1) {τ : Nat → Nat → Int32} (hk : mk_K (τ 50) pl τ) (hF : rm_F τ σ) {K : (Nat → Nat → Int32) → Prop} (h : K τ) : tn_CV m_X6_putBack [.ref 39, .int x] ks ρ σ K := by
  refine tn_iV mv_X6_putBack (Nat.le_of_ble_eq_true rfl) (fun Γ hΓ hK => k_X6_putBack_0 hG hΓ hK x ?_)
  exact l6_back hG hΓ hK hx hpl hk (by rw [tn_kv]; exact h) 5 0 σ (by omega) hF (fun j hj => by omega)
/-- only the kept row's place 1 differs -/
def mk_S (σ σ' : Nat → Nat → Int32) (pl : Nat) : Prop := (∀ c, c ≠ 50 → σ' c = σ c) ∧ ∀ k, k < 15 * pl ∨ 15 * pl + 15 ≤ k → σ' 50 k = σ 50 k
theorem rm_P.c {σ' : Nat → Nat → Int32} (h : rm_P σ P) (hc : ∀ c, c ≠ 50 → c ≠ 51 → σ' c = σ c) : rm_P σ' P := by
  unfold rm_P
  rw [hc 39 (by decide) (by decide), hc 43 (by decide) (by decide), hc 44 (by decide) (by decide), hc 45 (by decide) (by decide), hc 46 (by decide) (by decide), hc 47 (by decide) (by decide)]
  exact h
theorem l6_quiet (hG : tn_Gd ks ρ) (hΓ : tn_is Γ m_X6_quietIn) (hK : tn_rt Γ m_X6_quietIn K) (hw : pp_w P) (h0 : 0 < pp_n P) {τ : Nat → Nat → Int32} (hk : mk_K (τ 50) 1 τ) {N : Nat} (hN : N ≤ 100) : ∀ m n σ, n + m = N → rm_P σ (pp_pns P n) → rm_F τ σ → K (some (.int (pp_q P n (m + 1)))) ks ρ τ → tn_A Γ 7 [.ref 39, .int (nI N), .int (nI n), .null] [] 0 0 ks ρ σ := by
  intro m
  have e1 : (1 : Int32) = nI 1 := by decide
  induction m with
  | zero =>
    intro n σ hn hR hF h
    have hwn := hw.pns h0 n
    refine k_X6_quietIn_7 hG hΓ hK _ _ ?_
    refine q6_voiceNow hG hR hwn ⟨fun q => ?_, fun q => ⟨fun _ => ?_, fun q2 => ?_⟩⟩
    · rw [vo_le0 hwn] at q
      refine q6_voiceNow hG hR hwn ⟨fun q2 => absurd q q2, fun _ => q6_putBack hG e1 (by omega) hk hF ?_⟩
      rw [pp_q, if_pos q] at h; exact h
    · rw [vo_le0 hwn] at q
      refine q6_voiceNow hG hR hwn ⟨fun _ => q6_putBack hG e1 (by omega) hk hF ?_, fun q2 => absurd q2 q⟩
      rw [pp_q, if_neg q] at h; exact h
    · rw [nI_end (by omega) (by omega)] at q2; omega
  | succ m ih =>
    intro n σ hn hR hF h
    have hwn := hw.pns h0 n
    refine k_X6_quietIn_7 hG hΓ hK _ _ ?_
    refine q6_voiceNow hG hR hwn ⟨fun q => ?_, fun q => ⟨fun q2 => ?_, fun _ => ?_⟩⟩
    · rw [vo_le0 hwn] at q
      refine q6_voiceNow hG hR hwn ⟨fun q2 => absurd q q2, fun _ => q6_putBack hG e1 (by omega) hk hF ?_⟩
      rw [pp_q, if_pos q] at h; exact h
    · rw [nI_end (by omega) (by omega)] at q2; omega
    · rw [vo_le0 hwn] at q
      refine q6_goesNight hG hR hwn (by rw [pp_pns_n]; exact h0) (fun σ1 r1 f1 _ y ey => ?_)
      rw [nI_1] at ey; subst ey
      refine ih (n + 1) σ1 (by omega) r1 (hF.tr f1) ?_
      rw [pp_q, if_neg q] at h; exact h
theorem q6_quietIn (hG : tn_Gd ks ρ) (hR : rm_P σ P) (hw : pp_w P) (h0 : 0 < pp_n P) {N : Nat} {x : Int32} (hx : x = nI N) (hN : N ≤ 100) {K : Int32 → (Nat → Nat → Int32) → Prop} (h : ∀ σ', mk_S σ σ' 1 → K (pp_q P 0 (N + 1)) σ') : tn_CI m_X6_quietIn [.ref 39, .int x] ks ρ σ K := by
  subst hx
  refine tn_iI mv_X6_quietIn (Nat.le_of_ble_eq_true rfl) (fun Γ hΓ hK => k_X6_quietIn_0 hG hΓ hK (nI N) ?_)
  refine q6_keep hG (show (1 : Int32) = nI 1 from by decide) (by omega) (fun σ1 g1 g2 g3 => ?_)
  exact l6_quiet hG hΓ hK hw h0 g1 hN N 0 σ1 (by omega) (hR.c (fun c h1 _ => g2 c h1)) rm_F.rf (by rw [tn_ki]; exact h σ1 ⟨g2, g3⟩)
/-! acts -/
theorem q6_does (hG : tn_Gd ks ρ) (hR : rm_P σ P) (hw : pp_w P) (h0 : 0 < pp_n P) {a : Int32} (ha : a ≤ 14) {K : Int32 → (Nat → Nat → Int32) → Prop} (h : ∀ σ', rm_P σ' (pp_act P a).2 → rm_F σ σ' → K (if (pp_act P a).1 = true then 1 else 0) σ') : tn_CI m_X6_does [.ref 39, .int a] ks ρ σ K := by
  have h5 := hw.2.1
  have h4 := hw.2.2.2.1
  refine tn_iI mv_X6_does (Nat.le_of_ble_eq_true rfl) (fun Γ hΓ hK => k_X6_does_0 hG hΓ hK a ?_)
  simp only [tn_ki]
  unfold pp_act at h
  refine ⟨fun q14 => ⟨fun q10 => ⟨fun q5 x ex => ?_, fun q5 => ?_⟩, fun q10 x ex => ?_⟩, fun q14 => ?_⟩
  · subst ex
    rw [if_pos q5, if_neg (Int32.not_le.mpr q10)] at h
    refine q6_isHouse hG ?_
    rw [hR.1]
    refine bn (fun q => ⟨fun _ => ?_, fun z => absurd q5 z⟩) (fun q => ?_)
    · rw [if_pos q] at h
      rw [hw.1] at q
      obtain ⟨j, hj, ej⟩ := ib_nI (by omega) q
      rw [ej, nI_cl (by omega)] at h ⊢
      refine ⟨vp_in_nI (by omega) (by omega), fun σ2 e2 => h σ2 ?_ ?_⟩
      · rw [e2]; exact rm_sleep hR hw hj
      · rw [e2]; exact rm_F.u (Or.inr (Or.inl ⟨rfl, by omega⟩))
    · rw [if_neg (by rw [q]; decide)] at h
      exact h σ hR rm_F.rf
  · rw [if_neg q5] at h
    refine q6_isHouse hG ?_
    rw [hR.1]
    refine bn (fun q => ⟨fun z => absurd z q5, fun _ => ?_⟩) (fun q => ?_)
    · rw [if_pos q] at h
      rw [hw.1] at q
      obtain ⟨j, hj, ej⟩ := ib_nI (by omega) q
      rw [ej, nI_cl (by omega)] at h
      rw [ej]
      exact q6_owns hG hR hw hj (fun σ2 r2 f2 _ => h σ2 r2 f2)
    · rw [if_neg (by rw [q]; decide)] at h
      exact h σ hR rm_F.rf
  · subst ex
    have q10' : (10 : Int32) ≤ a := Int32.not_lt.mp q10
    have q5' : (5 : Int32) ≤ a := Int32.le_trans (by decide) q10'
    have q14' : ¬ (14 : Int32) ≤ a := fun z => q14 (Int32.le_antisymm ha z)
    rw [if_pos q5', if_pos q10', if_neg q14'] at h
    refine q6_isStone hG ?_
    rw [hR.2.1]
    refine bz (fun q => ?_) (fun q => ?_)
    · rw [if_neg (fun z => by rw [q] at z; cases z.1)] at h
      exact h σ hR rm_F.rf
    · rw [q] at h
      rw [hw.2.2.1] at q
      obtain ⟨j, hj, ej⟩ := ib_nI (by omega) q
      rw [ej, nI_cl (by omega)] at h
      rw [ej]
      refine q6_isOf hG (by omega) ?_
      rw [(hR.2.2.2.2.2.2 j hj).2]
      refine ⟨fun q2 σ9 e9 => ?_, fun q2 => ?_⟩
      · rw [if_pos ⟨rfl, q2⟩] at h
        subst e9
        exact h _ (rm_lay hR hw hj) (rm_F.u (Or.inl ⟨rfl, by decide, by decide⟩))
      · rw [if_neg (fun z => q2 z.2)] at h
        exact h σ hR rm_F.rf
  · subst q14
    rw [if_pos (by decide), if_pos (by decide), if_pos (by decide)] at h
    exact q6_goesNight hG hR hw h0 (fun σ1 r1 f1 _ => h σ1 r1 f1)
end QM3
