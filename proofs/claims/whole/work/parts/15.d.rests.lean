/-! ===== call: rests ===== -/
def sh (P : pp_T) (h : Nat) : Int32 := if pp_rk P h = true then pp_wt P h else 6
def pr1 (P : pp_T) (x q : Nat) : pp_T := if q % 2 = 0 then P else pp_own P x
def pr2 (P : pp_T) (x y q : Nat) : pp_T := if q / 2 = 0 then pr1 P x q else pp_own (pr1 P x q) y
def rn (P : pp_T) (x y q : Nat) : Int32 := if pp_q (pr2 P x y q) 0 21 = -9 then 20 else pp_q (pr2 P x y q) 0 21
def pa (P : pp_T) (x y q : Nat) : Int32 := (if q % 2 = 0 then 0 else sh P x) + rn P x y q
def pb_ (P : pp_T) (x y q : Nat) : Int32 := (if q / 2 = 0 then 0 else sh P y) + rn P x y q
def x1_ (q : Nat) : Nat := if q % 2 = 0 then q + 1 else q - 1
def x2_ (q : Nat) : Nat := if q / 2 = 0 then q + 2 else q - 2
theorem x1_e : ∀ q : Nat, q < 4 → nI q ^^^ (1 : Int32) = nI (x1_ q) ∧ x1_ q < 4 := by decide
theorem x2_e : ∀ q : Nat, q < 4 → nI q ^^^ (2 : Int32) = nI (x2_ q) ∧ x2_ q < 4 := by decide
theorem qa_1 : ∀ q : Nat, q < 4 → (nI q &&& (1 : Int32) = 0 ↔ q % 2 = 0) := by decide
theorem qa_2 : ∀ q : Nat, q < 4 → (nI q &&& (2 : Int32) = 0 ↔ q / 2 = 0) := by decide
theorem qb_0 : ∀ q : Nat, q < 4 → (bi (nI q) 0 = 0 ↔ q % 2 = 0) := by decide
theorem qb_1 : ∀ q : Nat, q < 4 → (bi (nI q) 1 = 0 ↔ q / 2 = 0) := by decide
def rct (P : pp_T) (x y q : Nat) : Bool := !decide (pa P x y (x1_ q) < pa P x y q) && !decide (pb_ P x y (x2_ q) < pb_ P x y q)
def pp_rt (P : pp_T) (x y q : Nat) (s : Int32) : Nat → Int32
  | 0 => s
  | m + 1 => pp_rt P x y (q + 1) (if rct P x y q = true then s ||| ((1 : Int32) <<< (nI q &&& 31)) else s) m
section PR
variable {P : pp_T} {x y q : Nat}
theorem pr1_n : pp_n (pr1 P x q) = pp_n P := by
  unfold pr1
  split
  · rfl
  · exact pp_own_n
theorem pr2_n : pp_n (pr2 P x y q) = pp_n P := by
  unfold pr2
  split
  · exact pr1_n
  · exact pp_own_n.trans pr1_n
theorem pr1_w (hw : pp_w P) : pp_w (pr1 P x q) := by
  unfold pr1
  split
  · exact hw
  · exact hw.own _
theorem pr2_w (hw : pp_w P) : pp_w (pr2 P x y q) := by
  unfold pr2
  split
  · exact pr1_w hw
  · exact (pr1_w hw).own _
theorem own_row {P : pp_T} {x y : Nat} (hne : x ≠ y) : pp_own P x (3 + y) = P (3 + y) := by
  unfold pp_own
  split
  · exact funext fun k => tn_u_n (Or.inl (by omega))
  · exact funext fun k => tn_u_n (Or.inl (by omega))
theorem pr1_sh (hne : x ≠ y) : pp_rk (pr1 P x q) y = pp_rk P y ∧ pp_wt (pr1 P x q) y = pp_wt P y := by
  unfold pr1
  split
  · exact ⟨rfl, rfl⟩
  · unfold pp_rk pp_wt
    rw [own_row hne]
    exact ⟨rfl, rfl⟩
end PR
section QR
variable {ks : List (Nat × Nat)} {ρ : Nat → Nat → Nat} {σ : Nat → Nat → Int32} {Γ : tn_G} {P : pp_T} {x y : Nat}
theorem q5_nights (hG : tn_Gd ks ρ) (hR : rc_P σ 3 P) (hw : pp_w P) (hx : x < pp_n P) (hy : y < pp_n P) {q : Nat} (hq : q < 4) {K : Int32 → (Nat → Nat → Int32) → Prop} (h : ∀ σ', rc_F 15 σ σ' → K (rn P x y q) σ') : tn_CI m_X5_nightsIfChosen [.ref 2, .int (nI x), .int (nI y), .int (nI q)] ks ρ σ K := by
  have h5 := hw.2.1
  refine tn_iI mv_X5_nightsIfChosen (Nat.le_of_ble_eq_true rfl) (fun Γ hΓ hK => k_X5_nightsIfChosen_0 hG hΓ hK _ _ _ ?_)
  simp only [tn_ki]
  rw [qa_1 q hq, qa_2 q hq, nI_cl (by omega), nI_cl (by omega)]
  refine q_become hG pb15 pb3 (by decide) hR hw (fun σ1 c1 f1 => ?_)
  have fin : ∀ σ2 : Nat → Nat → Int32, rc_P σ2 15 (pr2 P x y q) → rc_F 15 σ σ2 → tn_CI m_X1_nightsUntilQuiet [.ref 15, .int (20 : Int32)] ks ρ σ2 (fun r1 σ2 => ((¬ r1 = (-9 : Int32) → K r1 σ2) ∧ (r1 = (-9 : Int32) → K (20 : Int32) σ2))) := by
    intro σ2 c2 f2
    rw [show (20 : Int32) = nI 20 by decide]
    refine q_nightsUntilQuiet hG pb15 c2 (pr2_w hw) (by rw [pr2_n]; omega) (by omega) (fun σ3 f3 => ?_)
    rw [q_18 (pr2_w hw) (by rw [pr2_n]; omega) 20, ← show (20 : Int32) = nI 20 by decide]
    have h' := h σ3 (f2.tr f3)
    unfold rn at h'
    refine ⟨fun z => ?_, fun z => ?_⟩
    · rw [if_neg z] at h'; exact h'
    · rw [if_pos z] at h'; exact h'
  unfold pr2 pr1 at fin
  refine ⟨fun z1 => ⟨fun z2 => ?_, fun z2 => ?_⟩, fun z1 => ?_⟩
  · rw [if_pos z2, if_pos z1] at fin
    exact fin σ1 c1 f1
  · rw [if_neg z2, if_pos z1] at fin
    exact ⟨vp_in_nI (by omega) (by omega), q_ownUp hG (gp_kH hG pb15 (by omega)) (fin _ (rc_own c1 hy) (f1.tr (rF_own (by omega))))⟩
  · refine ⟨vp_in_nI (by omega) (by omega), q_ownUp hG (gp_kH hG pb15 (by omega)) ⟨fun z2 => ?_, fun z2 => ?_⟩⟩
    · rw [if_pos z2, if_neg z1] at fin
      exact fin _ (rc_own c1 hx) (f1.tr (rF_own (by omega)))
    · rw [if_neg z2, if_neg z1] at fin
      exact ⟨vp_in_nI (by omega) (by omega), q_ownUp hG (gp_kH hG pb15 (by omega)) (fin _ (rc_own (rc_own c1 hx) (by rw [pp_own_n]; exact hy)) ((f1.tr (rF_own (by omega))).tr (rF_own (by omega))))⟩
theorem q5_pain (hG : tn_Gd ks ρ) (hR : rc_P σ 3 P) (hw : pp_w P) {h1 : Nat} (hx : h1 < pp_n P) {q : Nat} (hq : q < 4) {bt : Int32} {c : Prop} (hc : nI q &&& bt = 0 ↔ c) {e : Int32} (he : σ 30 q = e) {K : Int32 → (Nat → Nat → Int32) → Prop} (hK1 : c → K e σ) (hK2 : ¬ c → K (e + sh P h1) σ) : tn_CI m_X5_painOfChoice [.ref 2, .int (nI h1), .int bt, .int (nI q)] ks ρ σ K := by
  have h5 := hw.2.1
  refine tn_iI mv_X5_painOfChoice (Nat.le_of_ble_eq_true rfl) (fun Γ hΓ hK => k_X5_painOfChoice_0 hG hΓ hK _ _ _ ?_)
  simp only [tn_ki]
  rw [hc, nI_cl (by omega), nI_cl (by omega), he]
  refine ⟨vp_in_nI (by omega) (by omega), fun w ew => ⟨fun z => ⟨vp_in_nI (by omega) (by omega), ?_⟩, fun z => by rw [ew]; exact hK1 z⟩⟩
  have h2 := hK2 z
  unfold sh at h2
  subst ew
  refine q_rankles hG (gp_kH hG pb3 (by omega)) ?_
  rw [hR_rk hR hx]
  refine bz (fun r => ?_) (fun r => q_weight hG (gp_kH hG pb3 (by omega)) ?_)
  · rw [if_neg (by rw [r]; decide)] at h2; exact h2
  · rw [hR_wt hR hx]
    rw [if_pos r] at h2; exact h2
theorem q5_content (hG : tn_Gd ks ρ) (hR : rc_P σ 3 P) (hw : pp_w P) {h1 : Nat} (hx : h1 < pp_n P) {q q2 : Nat} (hq : q < 4) (hq2 : q2 < 4) {bt : Int32} (hxx : nI q ^^^ bt = nI q2) {f : Nat → Int32} {c : Nat → Prop} (hc1 : nI q &&& bt = 0 ↔ c q) (hc2 : nI q2 &&& bt = 0 ↔ c q2) (he : ∀ j, j < 4 → (c j → f j = σ 30 j) ∧ (¬ c j → f j = σ 30 j + sh P h1)) {K : Int32 → (Nat → Nat → Int32) → Prop} (h : K (if (!decide (f q2 < f q)) = true then 1 else 0) σ) : tn_CI m_X5_isContent [.ref 2, .int (nI h1), .int bt, .int (nI q)] ks ρ σ K := by
  refine tn_iI mv_X5_isContent (Nat.le_of_ble_eq_true rfl) (fun Γ hΓ hK => k_X5_isContent_0 hG hΓ hK _ _ _ ?_)
  simp only [tn_ki]
  rw [hxx]
  have fin : (f q2 < f q → K 0 σ) ∧ (¬ f q2 < f q → K 1 σ) := by
    refine ⟨fun z => ?_, fun z => ?_⟩
    · simpa [z] using h
    · simpa [z] using h
  have g1 := he q hq
  have g2 := he q2 hq2
  have st2 : ∀ w : Int32, w = f q → tn_CI m_X5_painOfChoice [.ref 2, .int (nI h1), .int bt, .int (nI q2)] ks ρ σ (fun r2 σ2 => ((r2 < w → K 0 σ2) ∧ (¬ r2 < w → K 1 σ2))) := by
    intro w ew
    subst ew
    refine q5_pain hG hR hw hx hq2 hc2 rfl (fun z => ?_) (fun z => ?_)
    · rw [← g2.1 z]; exact fin
    · rw [← g2.2 z]; exact fin
  refine q5_pain hG hR hw hx hq hc1 rfl (fun z => st2 _ (g1.1 z).symm) (fun z => st2 _ (g1.2 z).symm)
theorem l5_rests2 (hG : tn_Gd ks ρ) {K : Option Value → List (Nat × Nat) → (Nat → Nat → Nat) → (Nat → Nat → Int32) → Prop} (hΓ : tn_is Γ m_X5_rests) (hK : tn_rt Γ m_X5_rests K) (hR : rc_P σ 3 P) (hw : pp_w P) (hx : x < pp_n P) (hy : y < pp_n P) (h30 : ∀ j, j < 4 → σ 30 j = rn P x y j) : ∀ m q s, q + m = 4 → K (some (.int (pp_rt P x y q s m))) ks ρ σ → tn_A Γ 60 [.ref 2, .int (nI x), .int (nI y), .int s, .int (nI q)] [] 0 0 ks ρ σ := by
  intro m
  have s4 : (4 : Int32) = nI 4 := by decide
  have fa : ∀ j, j < 4 → (j % 2 = 0 → pa P x y j = σ 30 j) ∧ (¬ j % 2 = 0 → pa P x y j = σ 30 j + sh P x) := fun j hj => by
    unfold pa
    rw [h30 j hj]
    refine ⟨fun z => by rw [if_pos z, Int32.zero_add], fun z => by rw [if_neg z, Int32.add_comm]⟩
  have fb' : ∀ j, j < 4 → (j / 2 = 0 → pb_ P x y j = σ 30 j) ∧ (¬ j / 2 = 0 → pb_ P x y j = σ 30 j + sh P y) := fun j hj => by
    unfold pb_
    rw [h30 j hj]
    refine ⟨fun z => by rw [if_pos z, Int32.zero_add], fun z => by rw [if_neg z, Int32.add_comm]⟩
  induction m with
  | zero =>
    intro q s hq h
    refine k_X5_rests_60 hG hΓ hK _ _ _ _ ⟨fun _ => h, fun z => ?_⟩
    rw [s4, nI_leI (by omega) (by omega)] at z; omega
  | succ m ih =>
    intro q s hq h
    unfold pp_rt at h
    refine k_X5_rests_60 hG hΓ hK _ _ _ _ ⟨fun z => ?_, fun _ => ?_⟩
    · rw [s4, nI_leI (by omega) (by omega)] at z; omega
    · have e1 := x1_e q (by omega)
      have e2 := x2_e q (by omega)
      refine q5_content hG hR hw hx (by omega) e1.2 e1.1 (f := pa P x y) (c := fun j => j % 2 = 0) (qa_1 q (by omega)) (qa_1 _ e1.2) fa (bz (fun z w ew => ?_) (fun z => q5_content hG hR hw hy (by omega) e2.2 e2.1 (f := pb_ P x y) (c := fun j => j / 2 = 0) (qa_2 q (by omega)) (qa_2 _ e2.2) fb' (bz (fun z2 w ew => ?_) (fun z2 w ew v ev => ?_))))
      · rw [nI_1] at ew; subst ew
        have : rct P x y q = false := by unfold rct; rw [z]; rfl
        rw [this] at h
        exact ih (q + 1) s (by omega) h
      · rw [nI_1] at ew; subst ew
        have : rct P x y q = false := by unfold rct; rw [z, z2]; rfl
        rw [this] at h
        exact ih (q + 1) s (by omega) h
      · rw [nI_1] at ev; subst ev
        have : rct P x y q = true := by unfold rct; rw [z, z2]; rfl
        rw [if_pos this] at h
        subst ew
        exact ih (q + 1) _ (by omega) h
theorem l5_rests1 (hG : tn_Gd ks ρ) {K : Option Value → List (Nat × Nat) → (Nat → Nat → Nat) → (Nat → Nat → Int32) → Prop} (hΓ : tn_is Γ m_X5_rests) (hK : tn_rt Γ m_X5_rests K) (hw : pp_w P) (hx : x < pp_n P) (hy : y < pp_n P) {σ0 : Nat → Nat → Int32} (h : ∀ σ', ro_c σ0 σ' → K (some (.int (pp_rt P x y 0 0 4))) ks ρ σ') : ∀ m q (σ : Nat → Nat → Int32), q + m = 4 → rc_P σ 3 P → ro_c σ0 σ → (∀ j, j < q → σ 30 j = rn P x y j) → tn_A Γ 31 [.ref 2, .int (nI x), .int (nI y), .int (nI q), .null] [] 0 0 ks ρ σ := by
  intro m
  have s4 : (4 : Int32) = nI 4 := by decide
  induction m with
  | zero =>
    intro q σ hq hR hF h30
    refine k_X5_rests_31 hG hΓ hK _ _ _ ⟨fun _ => ?_, fun z => ?_⟩
    · have go := l5_rests2 hG hΓ hK hR hw hx hy (fun j hj => h30 j (by omega)) 4 0 0 (by omega) (h σ hF)
      rw [nI_0] at go
      exact go
    · rw [s4, nI_leI (by omega) (by omega)] at z; omega
  | succ m ih =>
    intro q σ hq hR hF h30
    refine k_X5_rests_31 hG hΓ hK _ _ _ ⟨fun z => ?_, fun _ => ?_⟩
    · rw [s4, nI_leI (by omega) (by omega)] at z; omega
    · refine q5_nights hG hR hw hx hy (by omega) (fun σ1 f1 => ⟨vp_in_nI (by omega) (by omega), fun σ2 e2 w ew => ?_⟩)
      rw [nI_1] at ew; subst ew
      rw [nI_cl (by omega)] at e2
      have fc : ro_c σ1 σ2 := fun c z1 z2 => by rw [e2]; exact funext fun k => tn_u_n (Or.inl z2)
      refine ih (q + 1) σ2 (by omega) ((hR.cc hw f1.c).cc hw fc) ((hF.tr f1.c).tr fc) (fun j hj => ?_)
      by_cases e : j = q
      · subst e; rw [e2, tn_u_s]
      · rw [e2, tn_u_n (Or.inr e), f1 30 (by omega)]
        exact h30 j (by omega)
theorem q6_isOf0 (hG : tn_Gd ks ρ) {w : Int32} {K : Int32 → (Nat → Nat → Int32) → Prop} (h : K (bi w 0) σ) : tn_CI m_X6_isOf [.int w, .int (0 : Int32)] ks ρ σ K := by
  have := q6_isOf hG (x := w) (k := 0) (by omega) h
  rw [nI_0] at this
  exact this
theorem q6_isOf1 (hG : tn_Gd ks ρ) {w : Int32} {K : Int32 → (Nat → Nat → Int32) → Prop} (h : K (bi w 1) σ) : tn_CI m_X6_isOf [.int w, .int (1 : Int32)] ks ρ σ K := by
  have := q6_isOf hG (x := w) (k := 1) (by omega) h
  rw [show nI 1 = (1 : Int32) by decide] at this
  exact this
theorem l6_pains (hG : tn_Gd ks ρ) {K : Option Value → List (Nat × Nat) → (Nat → Nat → Nat) → (Nat → Nat → Int32) → Prop} (hΓ : tn_is Γ m_X6_findPains) (hK : tn_rt Γ m_X6_findPains K) (hw : pp_w P) (hx : x < pp_n P) (hy : y < pp_n P) (hne : x ≠ y) {σ0 : Nat → Nat → Int32} (hR0 : rm_P σ0 P) (h : ∀ σ' : Nat → Nat → Int32, ro_m σ0 σ' → (∀ j, j < 4 → σ' 51 (2 * j) = pa P x y j ∧ σ' 51 (2 * j + 1) = pb_ P x y j) → K none ks ρ σ') : ∀ m q (σ : Nat → Nat → Int32), q + m = 4 → ro_m σ0 σ → mk_K (σ 50) 0 σ → (∀ j, j < q → σ 51 (2 * j) = pa P x y j ∧ σ 51 (2 * j + 1) = pb_ P x y j) → tn_A Γ 7 [.ref 39, .int (nI x), .int (nI y), .int (nI q), .null, .null, .null] [] 0 0 ks ρ σ := by
  intro m
  have s4 : (4 : Int32) = nI 4 := by decide
  have h5 := hw.2.1
  induction m with
  | zero =>
    intro q σ hq hF hk h51
    refine k_X6_findPains_7 hG hΓ hK _ _ _ ⟨fun _ => h σ hF (fun j hj => h51 j (by omega)), fun z => ?_⟩
    rw [s4, nI_leI (by omega) (by omega)] at z; omega
  | succ m ih =>
    intro q σ hq hF hk h51
    have hR : rm_P σ P := hR0.cm hF
    -- the end of a turn
    have s108 : ∀ σ1 : Nat → Nat → Int32, (∀ c, c ≠ 50 → c ≠ 39 → c ≠ 45 → c ≠ 46 → σ1 c = σ c) → (∀ k, k < 15 → σ1 50 k = σ 50 k) → (∀ k, k < 8 ∨ 12 < k → σ1 39 k = σ 39 k) → (∀ k, 5 ≤ k → σ1 45 k = σ 45 k ∧ σ1 46 k = σ 46 k) → tn_A Γ 108 [.ref 39, .int (nI x), .int (nI y), .int (nI q), .int (if q % 2 = 0 then 0 else sh P x), .int (if q / 2 = 0 then 0 else sh P y), .null] [.int (rn P x y q)] 0 0 ks ρ σ1 := by
      intro σ1 g1 g2 g3 g4
      refine k_X6_findPains_108 hG hΓ hK _ _ _ _ _ _ ?_
      have t2 : (2 : Int32) * nI q = nI (2 * q) := by rw [show (2 : Int32) = nI 2 by decide, pk_mul]
      rw [t2, nI_1, nI_cl (by omega), nI_cl (by omega)]
      refine ⟨vp_in_nI (by omega) (by omega), fun σ2 e2 => ⟨vp_in_nI (by omega) (by omega), fun σ3 e3 => ?_⟩⟩
      have t : ∀ c, c ≠ 50 → c ≠ 51 → (fun c => if c = 50 then σ3 50 else if c = 51 then σ3 51 else σ c) c = σ c := fun c h1 h2 => by
        show (if c = 50 then σ3 50 else if c = 51 then σ3 51 else σ c) = σ c
        rw [if_neg h1, if_neg h2]
      have t50 : (fun c => if c = 50 then σ3 50 else if c = 51 then σ3 51 else σ c) 50 = σ3 50 := if_pos rfl
      have t51 : (fun c => if c = 50 then σ3 50 else if c = 51 then σ3 51 else σ c) 51 = σ3 51 := rfl
      have o3 : ∀ c, c ≠ 51 → σ3 c = σ1 c := fun c hc => by rw [e3, e2]; exact funext fun k => by rw [tn_u_n (Or.inl hc), tn_u_n (Or.inl hc)]
      have k2 : mk_K ((fun c => if c = 50 then σ3 50 else if c = 51 then σ3 51 else σ c) 50) 0 (fun c => if c = 50 then σ3 50 else if c = 51 then σ3 51 else σ c) := by
        refine (hk.c (t 45 (by omega) (by omega)) (t 46 (by omega) (by omega)) (t 39 (by omega) (by omega))).k0 (fun w hw => ?_)
        show (if 50 = 50 then σ3 50 else if 50 = 51 then σ3 51 else σ 50) w = _
        rw [if_pos rfl, o3 50 (by omega)]
        exact g2 w hw
      refine q6_putBack hG nI_0.symm (by omega) (τ := fun c => if c = 50 then σ3 50 else if c = 51 then σ3 51 else σ c) k2 ?_ ?_
      · refine ⟨fun c h1 h2 h3 => ?_, fun k hk => ?_, fun k hk => ?_⟩
        · by_cases e : c = 50
          · subst e; exact t50.symm
          · by_cases e' : c = 51
            · subst e'; exact t51.symm
            · rw [t c e e', o3 c e', g1 c e h1 h2 h3]
        · rw [t 39 (by omega) (by omega), o3 39 (by omega)]; exact g3 k hk
        · rw [t 45 (by omega) (by omega), t 46 (by omega) (by omega), o3 45 (by omega), o3 46 (by omega)]; exact g4 k hk
      · intro w ew
        rw [nI_1] at ew; subst ew
        refine ih (q + 1) _ (by omega) (hF.tr (fun c h1 h2 => t c h1 h2)) k2 (fun j hj => ?_)
        show (if 51 = 50 then σ3 50 else if 51 = 51 then σ3 51 else σ 51) (2 * j) = _ ∧ (if 51 = 50 then σ3 50 else if 51 = 51 then σ3 51 else σ 51) (2 * j + 1) = _
        rw [if_neg (show ¬ ((51 : Nat) = 50) by omega), if_pos rfl]
        by_cases e : j = q
        · subst e
          rw [e3, tn_u_s, tn_u_n (Or.inr (by omega)), e2, tn_u_s]
          exact ⟨rfl, rfl⟩
        · rw [e3, tn_u_n (Or.inr (by omega)), tn_u_n (Or.inr (by omega)), e2, tn_u_n (Or.inr (by omega)), tn_u_n (Or.inr (by omega)), g1 51 (by omega) (by omega) (by omega) (by omega)]
          exact h51 j (by omega)
    have s86 : ∀ σ1 : Nat → Nat → Int32, rm_P σ1 (pr2 P x y q) → rm_F σ σ1 → tn_A Γ 86 [.ref 39, .int (nI x), .int (nI y), .int (nI q), .int (if q % 2 = 0 then 0 else sh P x), .int (if q / 2 = 0 then 0 else sh P y), .null] [] 0 0 ks ρ σ1 := by
      intro σ1 m1 f1
      refine k_X6_findPains_86 hG hΓ hK _ _ _ _ _ (q6_quietIn hG m1 (pr2_w hw) (by rw [pr2_n]; omega) (N := 20) (by decide) (by omega) (fun σ2 g2 => ?_))
      have go := s108 σ2 (fun c h1 h2 h3 h4 => by rw [g2.1 c h1, f1.1 c h2 h3 h4]) (fun k hk => by rw [g2.2 k (by omega), f1.1 50 (by omega) (by omega) (by omega)]) (fun k hk => by rw [g2.1 39 (by omega)]; exact f1.2.1 k hk) (fun k hk => by rw [g2.1 45 (by omega), g2.1 46 (by omega)]; exact f1.2.2 k hk)
      unfold rn at go
      refine ⟨fun z => ?_, fun z => ?_⟩
      · rw [if_neg z] at go; exact go
      · rw [if_pos z] at go; exact go
    have s52 : ∀ σ1 : Nat → Nat → Int32, rm_P σ1 (pr1 P x q) → rm_F σ σ1 → tn_A Γ 52 [.ref 39, .int (nI x), .int (nI y), .int (nI q), .int (if q % 2 = 0 then 0 else sh P x), .int (0 : Int32), .null] [] 0 0 ks ρ σ1 := by
      intro σ1 m1 f1
      refine k_X6_findPains_52 hG hΓ hK _ _ _ _ _ (q6_isOf1 hG ?_)
      rw [qb_1 q (by omega)]
      have es := pr1_sh (P := P) (q := q) hne
      have hy' : y < pp_n (pr1 P x q) := by rw [pr1_n]; exact hy
      unfold pr2 at s86
      refine ⟨fun z => ?_, fun z => ?_⟩
      · rw [if_pos z, if_pos z] at s86
        exact s86 σ1 m1 f1
      · rw [if_neg z, if_neg z] at s86
        unfold sh at s86
        refine q6_rankles hG m1 (pr1_w hw) hy' ?_
        rw [es.1]
        refine bz (fun r => q6_owns hG m1 (pr1_w hw) hy' (fun σ2 m2 f2 _ => ?_)) (fun r => q6_weightOf hG m1 (pr1_w hw) hy' (q6_owns hG m1 (pr1_w hw) hy' (fun σ2 m2 f2 _ => ?_)))
        · rw [if_neg (c := pp_rk P y = true) (by rw [r]; decide)] at s86
          exact s86 σ2 m2 (f1.tr f2)
        · rw [if_pos (c := pp_rk P y = true) r] at s86
          rw [es.2]
          exact s86 σ2 m2 (f1.tr f2)
    refine k_X6_findPains_7 hG hΓ hK _ _ _ ⟨fun z => ?_, fun _ => q6_isOf0 hG ?_⟩
    · rw [s4, nI_leI (by omega) (by omega)] at z; omega
    · rw [qb_0 q (by omega)]
      unfold pr1 at s52
      refine ⟨fun z => ?_, fun z => ?_⟩
      · rw [if_pos z, if_pos z] at s52
        exact s52 σ hR rm_F.rf
      · rw [if_neg z, if_neg z] at s52
        unfold sh at s52
        refine q6_rankles hG hR hw hx (bz (fun r => q6_owns hG hR hw hx (fun σ2 m2 f2 _ => ?_)) (fun r => q6_weightOf hG hR hw hx (q6_owns hG hR hw hx (fun σ2 m2 f2 _ => ?_))))
        · rw [if_neg (c := pp_rk P x = true) (by rw [r]; decide)] at s52
          exact s52 σ2 m2 f2
        · rw [if_pos (c := pp_rk P x = true) r] at s52
          exact s52 σ2 m2 f2
theorem l6_rests (hG : tn_Gd ks ρ) {K : Option Value → List (Nat × Nat) → (Nat → Nat → Nat) → (Nat → Nat → Int32) → Prop} (hΓ : tn_is Γ m_X6_rests) (hK : tn_rt Γ m_X6_rests K) (h51 : ∀ j, j < 4 → σ 51 (2 * j) = pa P x y j ∧ σ 51 (2 * j + 1) = pb_ P x y j) : ∀ m q s, q + m = 4 → K (some (.int (pp_rt P x y q s m))) ks ρ σ → tn_A Γ 34 [.ref 39, .null, .null, .int s, .int (nI q), .null] [] 0 0 ks ρ σ := by
  intro m
  have s4 : (4 : Int32) = nI 4 := by decide
  induction m with
  | zero =>
    intro q s hq h
    refine k_X6_rests_34 hG hΓ hK _ _ ⟨fun _ => h, fun z => ?_⟩
    rw [s4, nI_leI (by omega) (by omega)] at z; omega
  | succ m ih =>
    intro q s hq h
    unfold pp_rt at h
    have e1 := x1_e q (by omega)
    have e2 := x2_e q (by omega)
    have t2 : ∀ q : Nat, (2 : Int32) * nI q = nI (2 * q) := fun q => by rw [show (2 : Int32) = nI 2 by decide, pk_mul]
    have no : rct P x y q = false → tn_A Γ 95 [.ref 39, .null, .null, .int s, .int (nI q), .null] [.int (0 : Int32)] 0 0 ks ρ σ := by
      intro z
      rw [z] at h
      refine k_X6_rests_95 hG hΓ hK _ _ _ ⟨fun _ w ew v ev => ?_, fun z => absurd rfl z⟩
      rw [nI_1] at ev; subst ev
      rw [Int32.or_zero] at ew
      rw [ew]
      exact ih (q + 1) s (by omega) h
    have yes : rct P x y q = true → tn_A Γ 95 [.ref 39, .null, .null, .int s, .int (nI q), .null] [.int (1 : Int32)] 0 0 ks ρ σ := by
      intro z
      rw [if_pos z] at h
      refine k_X6_rests_95 hG hΓ hK _ _ _ ⟨fun z => absurd z (by decide), fun _ w ew v ev => ?_⟩
      rw [nI_1] at ev; subst ev
      subst ew
      exact ih (q + 1) _ (by omega) h
    refine k_X6_rests_34 hG hΓ hK _ _ ⟨fun z => ?_, fun _ => ?_⟩
    · rw [s4, nI_leI (by omega) (by omega)] at z; omega
    · rw [e1.1, e2.1, t2, t2, t2, nI_1, nI_1, nI_cl (by omega), nI_cl (by omega), nI_cl (by omega), nI_cl (by omega), (h51 q (by omega)).1, (h51 q (by omega)).2, (h51 _ e1.2).1, (h51 _ e2.2).2]
      refine ⟨vp_in_nI (by omega) (by omega), vp_in_nI (by omega) (by omega), fun z => no ?_, fun z => ⟨vp_in_nI (by omega) (by omega), vp_in_nI (by omega) (by omega), fun z2 => no ?_, fun z2 => yes ?_⟩⟩
      · unfold rct; simp [z]
      · unfold rct; simp [z2]
      · unfold rct; rw [decide_eq_false z, decide_eq_false z2]; rfl
theorem op_rests (hG : tn_Gd ks ρ) (hL : ro_L σ) {a b : Int32} {K : Int32 → Int32 → (Nat → Nat → Int32) → Prop} (h : ∀ r σ', ro_L σ' → K r r σ') : tn_CI m_X5_rests [.ref 2, .int a, .int b] ks ρ σ (fun r1 σ1 => tn_CI m_X6_rests [.ref 39, .int a, .int b] ks ρ σ1 (fun r2 σ2 => K r1 r2 σ2)) := by
  obtain ⟨P, hw, hc, hm, ho⟩ := id hL
  have h5 := hw.2.1
  have cn : σ 3 2 = P 0 2 := hc.1 2 (by omega) (by omega)
  refine tn_iI mv_X5_rests (Nat.le_of_ble_eq_true rfl) (fun Γ hΓ hK => k_X5_rests_0 hG hΓ hK a b (q_hasHouse hG pb3 ?_))
  rw [cn]
  refine bz (fun q => ?_) (fun q => q_hasHouse hG pb3 ?_)
  · rw [tn_ki]
    refine tn_iI mv_X6_rests (Nat.le_of_ble_eq_true rfl) (fun Γ hΓ hK => k_X6_rests_0 hG hΓ hK _ _ (q6_isHouse hG ?_))
    rw [hm.1, q]
    exact ⟨fun _ => by rw [tn_ki]; exact h _ _ hL, fun z => absurd rfl z⟩
  · rw [cn]
    refine bz (fun q1 => ?_) (fun q1 => ⟨fun q2 => ?_, fun q2 => ?_⟩)
    · rw [tn_ki]
      refine tn_iI mv_X6_rests (Nat.le_of_ble_eq_true rfl) (fun Γ hΓ hK => k_X6_rests_0 hG hΓ hK _ _ (q6_isHouse hG ?_))
      rw [hm.1, q]
      refine ⟨fun z => absurd z (by decide), fun _ => q6_isHouse hG ?_⟩
      rw [hm.1, q1]
      exact ⟨fun _ => by rw [tn_ki]; exact h _ _ hL, fun z => absurd rfl z⟩
    · have p1 := q
      have p2 := q1
      rw [hw.1] at p1 p2
      obtain ⟨x, hx, rfl⟩ := ib_nI (by omega) p1
      obtain ⟨y, hy, rfl⟩ := ib_nI (by omega) p2
      have hne : x ≠ y := fun e => q2 (by rw [e])
      have go : tn_A Γ 31 [.ref 2, .int (nI x), .int (nI y), .int (nI 0), .null] [] 0 0 ks ρ σ := by
        refine l5_rests1 hG hΓ hK hw hx hy (σ0 := σ) (fun σ1 fc => ?_) 4 0 σ (by omega) hc ro_c.rf (fun j hj => by omega)
        rw [tn_ki]
        have m1 := hm.cc fc
        refine tn_iI mv_X6_rests (Nat.le_of_ble_eq_true rfl) (fun Γ hΓ hK => k_X6_rests_0 hG hΓ hK _ _ (q6_isHouse hG ?_))
        rw [m1.1, q]
        refine ⟨fun z => absurd z (by decide), fun _ => q6_isHouse hG ?_⟩
        rw [m1.1, q1]
        refine ⟨fun z => absurd z (by decide), fun _ => ⟨fun _ => ?_, fun z => absurd z q2⟩⟩
        refine tn_iV mv_X6_findPains (Nat.le_of_ble_eq_true rfl) (fun Γ1 hΓ1 hK1 => k_X6_findPains_0 hG hΓ1 hK1 _ _ (q6_keep hG nI_0.symm (by omega) (fun σ2 k2 g2 g3 => ?_)))
        have go1 : tn_A Γ1 7 [.ref 39, .int (nI x), .int (nI y), .int (nI 0), .null, .null, .null] [] 0 0 ks ρ σ2 := by
          refine l6_pains hG hΓ1 hK1 hw hx hy hne m1 (fun σ3 f3 h51 => ?_) 4 0 σ2 (by omega) (fun c z _ => g2 c z) k2 (fun j hj => by omega)
          rw [tn_kv]
          have go2 : tn_A Γ 34 [.ref 39, .null, .null, .int (0 : Int32), .int (nI 0), .null] [] 0 0 ks ρ σ3 := by
            refine l6_rests hG hΓ hK h51 4 0 0 (by omega) ?_
            rw [tn_ki]
            exact h _ _ ⟨P, hw, (hc.cc hw fc).cm hw f3, m1.cm f3, (ho.cc fc).cm f3⟩
          rw [nI_0] at go2
          exact go2
        rw [nI_0] at go1
        exact go1
      rw [nI_0] at go
      exact go
    · rw [tn_ki]
      refine tn_iI mv_X6_rests (Nat.le_of_ble_eq_true rfl) (fun Γ hΓ hK => k_X6_rests_0 hG hΓ hK _ _ (q6_isHouse hG ?_))
      rw [hm.1, q]
      refine ⟨fun z => absurd z (by decide), fun _ => q6_isHouse hG ?_⟩
      rw [hm.1, q1]
      exact ⟨fun z => absurd z (by decide), fun _ => ⟨fun z => absurd q2 z, fun _ => by rw [tn_ki]; exact h _ _ hL⟩⟩
end QR
