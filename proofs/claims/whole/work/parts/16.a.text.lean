/-! ===== a text: the machine by numbers, and the class's reader ===== -/
def kol (c : Int32) : Int32 := if c = 98 then 1 else if c = 100 then 2 else if c = 112 then 0 else -9
abbrev tx_T : Type := Nat × Nat × Nat × Int32 × (Nat → Int32) × (Nat → Int32)
/-- one code: does a text go on with it, and what is due then -/
def stp (d h s : Nat) (w : Int32) (R G : Nat → Int32) (c : Int32) : Bool × tx_T :=
  if d = 0 then (decide (c = 116), 1, h, s, w, R, G)
  else if d = 1 then (iw c 49 52, 2, h, s, c - 48, R, G)
  else if d = 2 then (decide (c = 59), 3, h, s, w, R, G)
  else if d = 3 then (!decide (kol c = -9), 4, h, s, w, upd R (3 * h) (kol c), G)
  else if d = 4 then (iw c 48 57, 5, h, s, w, upd R (3 * h + 1) (c - 48), G)
  else if d = 5 then (iw c 48 57, 6, h + 1, s, w, upd R (3 * h + 2) (c - 48), G)
  else if d = 6 then (decide (c = 33) || (decide (c = 59) && decide (h < 5)), if c = 33 then 7 else 3, h, s, w, R, G)
  else (iw c 49 57 && decide (s < 4), 8, h, s + 1, w, R, upd G s (c - 48))
/-- the picture that a read text tells -/
def mkD (h s : Nat) (w : Int32) (R G : Nat → Int32) : pp_T := fun i k =>
  if i = 0 then (if k = 2 then nI h else if k = 3 then nI s else if k = 4 then w else 0)
  else if i < 8 then (if k = 0 then R (3 * (i - 3)) else if k = 1 then R (3 * (i - 3) + 1) else if k = 2 then R (3 * (i - 3) + 2) else 0)
  else (if k = 0 then G (i - 8) else 0)
def tx (f : Nat → Int32) : Nat → Nat → tx_T → Int32 × pp_T
  | 0, j, S => if S.1 = 6 ∨ S.1 = 8 then (-9, mkD S.2.1 S.2.2.1 S.2.2.2.1 S.2.2.2.2.1 S.2.2.2.2.2) else (nI j, mkD S.2.1 S.2.2.1 S.2.2.2.1 S.2.2.2.2.1 S.2.2.2.2.2)
  | m + 1, j, S => if (stp S.1 S.2.1 S.2.2.1 S.2.2.2.1 S.2.2.2.2.1 S.2.2.2.2.2 (f j)).1 = true then tx f m (j + 1) (stp S.1 S.2.1 S.2.2.1 S.2.2.2.1 S.2.2.2.2.1 S.2.2.2.2.2 (f j)).2 else (nI j, mkD S.2.1 S.2.2.1 S.2.2.2.1 S.2.2.2.2.1 S.2.2.2.2.2)
def tr_h (σ : Nat → Nat → Int32) (h : Nat) (R : Nat → Int32) : Prop := ∀ i, i < h → σ (18 + i) 0 = R (3 * i) ∧ σ (18 + i) 1 = R (3 * i + 1) ∧ σ (18 + i) 2 = R (3 * i + 2) ∧ σ (18 + i) 3 = 0 ∧ σ (18 + i) 4 = 0
def tr_s (σ : Nat → Nat → Int32) (s : Nat) (G : Nat → Int32) : Prop := ∀ i, i < s → σ (23 + i) 0 = G i ∧ σ (23 + i) 1 = 0
/-- the reader's cell and the draft hold the machine's state -/
def tr (σ : Nat → Nat → Int32) (t d h s : Nat) (w : Int32) (R G : Nat → Int32) : Prop := σ t 1 = nI d ∧ d ≤ 8 ∧ h ≤ 5 ∧ s ≤ 4 ∧ σ 15 2 = nI h ∧ σ 15 3 = nI s ∧ σ 15 5 = 0 ∧ (2 ≤ d → σ 15 4 = w) ∧ (4 ≤ d → d ≤ 5 → σ t 2 = R (3 * h)) ∧ (d = 5 → σ t 3 = R (3 * h + 1)) ∧ (d ≤ 2 → h = 0) ∧ (d ≤ 5 → h < 5) ∧ tr_h σ h R ∧ tr_s σ s G
def tr_f (t : Nat) (σ σ' : Nat → Nat → Int32) : Prop := ∀ c, c < 15 ∨ 27 ≤ c → c ≠ t → σ' c = σ c
theorem tr_f.rf {t : Nat} {σ : Nat → Nat → Int32} : tr_f t σ σ := fun _ _ _ => rfl
theorem tr_f.tr {t : Nat} {σ σ1 σ2 : Nat → Nat → Int32} (h1 : tr_f t σ σ1) (h2 : tr_f t σ1 σ2) : tr_f t σ σ2 := fun c a b => (h2 c a b).trans (h1 c a b)
theorem tr_f.u {t : Nat} {σ : Nat → Nat → Int32} {c k : Nat} {x : Int32} (h : c = t ∨ (15 ≤ c ∧ c < 27)) : tr_f t σ (tn_u σ c k x) := fun c' h1 h2 => funext fun k' => tn_u_n (Or.inl (by omega))
theorem mkD_P {σ : Nat → Nat → Int32} {t d h s : Nat} {w : Int32} {R G : Nat → Int32} (hd : 2 ≤ d) (ht : tr σ t d h s w R G) : rc_P σ 15 (mkD h s w R G) := by
  obtain ⟨e1, d8, h5, s4, e2, e3, e5, e4, _, _, _, _, hh, hs⟩ := ht
  have en : pp_n (mkD h s w R G) = h := by
    unfold pp_n mkD
    rw [if_pos rfl, if_pos rfl, nI_cl (by omega)]
  have em : pp_m (mkD h s w R G) = s := by
    unfold pp_m mkD
    rw [if_pos rfl, if_neg (by decide), if_pos rfl, nI_cl (by omega)]
  refine ⟨fun k h1 h2 => ?_, fun i hi k hk => ?_, fun i hi k hk => ?_⟩
  · unfold mkD
    rw [if_pos rfl]
    have : k = 2 ∨ k = 3 ∨ k = 4 ∨ k = 5 := by omega
    rcases this with e | e | e | e <;> subst e
    · rw [if_pos rfl]; exact e2
    · rw [if_neg (by decide), if_pos rfl]; exact e3
    · rw [if_neg (by decide), if_neg (by decide), if_pos rfl]; exact e4 hd
    · rw [if_neg (by decide), if_neg (by decide), if_neg (by decide)]; exact e5
  · rw [en] at hi
    obtain ⟨a0, a1, a2, a3, a4⟩ := hh i hi
    unfold mkD
    rw [if_neg (by omega), if_pos (by omega), show 3 + i - 3 = i by omega, show 15 + 3 + i = 18 + i by omega]
    have : k = 0 ∨ k = 1 ∨ k = 2 ∨ k = 3 ∨ k = 4 := by omega
    rcases this with e | e | e | e | e <;> subst e
    · rw [if_pos rfl]; exact a0
    · rw [if_neg (by decide), if_pos rfl]; exact a1
    · rw [if_neg (by decide), if_neg (by decide), if_pos rfl]; exact a2
    · rw [if_neg (by decide), if_neg (by decide), if_neg (by decide)]; exact a3
    · rw [if_neg (by decide), if_neg (by decide), if_neg (by decide)]; exact a4
  · rw [em] at hi
    obtain ⟨a0, a1⟩ := hs i hi
    unfold mkD
    rw [if_neg (by omega), if_neg (by omega), show 8 + i - 8 = i by omega, show 15 + 8 + i = 23 + i by omega]
    have : k = 0 ∨ k = 1 := by omega
    rcases this with e | e <;> subst e
    · rw [if_pos rfl]; exact a0
    · rw [if_neg (by decide)]; exact a1
section QT
variable {ks : List (Nat × Nat)} {ρ : Nat → Nat → Nat} {σ : Nat → Nat → Int32} {Γ : tn_G} {t : Nat}
theorem q4_go (hG : tn_Gd ks ρ) (hk : tn_kd ks t = some (4, 0)) (hr : ρ t 0 = 15) {b : Bool} {x : Int32} {K : Int32 → (Nat → Nat → Int32) → Prop} (h : ∀ σ', tr_f t σ σ' → (b = true → σ' = tn_u σ t 1 x) → K (if b = true then 1 else 0) σ') : tn_CI m_X4_goesOn [.ref t, .int (if b = true then 1 else 0), .int x] ks ρ σ K := by
  refine tn_iI mv_X4_goesOn (Nat.le_of_ble_eq_true rfl) (fun Γ hΓ hK => k_X4_goesOn_0 hG hΓ hK t _ _ hk hr ?_)
  simp only [tn_ki]
  refine bz (fun q σ1 e1 => ⟨b01, h σ1 ?_ (fun z => by rw [q] at z; exact absurd z (by decide))⟩) (fun q σ1 e1 => ⟨b01, h σ1 ?_ (fun _ => e1)⟩)
  · rw [e1]; exact tr_f.u (Or.inl rfl)
  · rw [e1]; exact tr_f.u (Or.inl rfl)
theorem q4_go0 (hG : tn_Gd ks ρ) (hk : tn_kd ks t = some (4, 0)) (hr : ρ t 0 = 15) {x : Int32} {K : Int32 → (Nat → Nat → Int32) → Prop} (h : ∀ σ', tr_f t σ σ' → K 0 σ') : tn_CI m_X4_goesOn [.ref t, .int (0 : Int32), .int x] ks ρ σ K := q4_go hG hk hr (b := false) (fun σ' f _ => h σ' f)
theorem q4_go1 (hG : tn_Gd ks ρ) (hk : tn_kd ks t = some (4, 0)) (hr : ρ t 0 = 15) {x : Int32} {K : Int32 → (Nat → Nat → Int32) → Prop} (h : K 1 (tn_u σ t 1 x)) : tn_CI m_X4_goesOn [.ref t, .int (1 : Int32), .int x] ks ρ σ K := q4_go hG hk hr (b := true) (fun σ' _ e => by rw [e rfl]; exact h)
theorem q4_kol (hG : tn_Gd ks ρ) {c : Int32} {K : Int32 → (Nat → Nat → Int32) → Prop} (h : K (kol c) σ) : tn_CI m_X4_kindOfLetter [.int c] ks ρ σ K := by
  refine tn_iI mv_X4_kindOfLetter (Nat.le_of_ble_eq_true rfl) (fun Γ hΓ hK => k_X4_kindOfLetter_0 hG hΓ hK c ?_)
  simp only [tn_ki]
  unfold kol at h
  refine ⟨fun q => ?_, fun q => ⟨fun q2 => ?_, fun q2 => ⟨fun q3 => ?_, fun q3 => ?_⟩⟩⟩
  · rw [if_pos q] at h; exact h
  · rw [if_neg q, if_pos q2] at h; exact h
  · rw [if_neg q, if_neg q2, if_pos q3] at h; exact h
  · rw [if_neg q, if_neg q2, if_neg q3] at h; exact h
theorem tr_h.c {σ' : Nat → Nat → Int32} {h : Nat} {R : Nat → Int32} (a : tr_h σ h R) (h5 : h ≤ 5) (e : ∀ i, i < 5 → σ' (18 + i) = σ (18 + i)) : tr_h σ' h R := fun i hi => by rw [e i (by omega)]; exact a i hi
theorem tr_s.c {σ' : Nat → Nat → Int32} {s : Nat} {G : Nat → Int32} (a : tr_s σ s G) (h4 : s ≤ 4) (e : ∀ i, i < 4 → σ' (23 + i) = σ (23 + i)) : tr_s σ' s G := fun i hi => by rw [e i (by omega)]; exact a i hi
theorem tr_h.u {h : Nat} {R : Nat → Int32} {x : Int32} {q : Nat} (a : tr_h σ h R) (hq : 3 * h ≤ q) : tr_h σ h (upd R q x) := fun i hi => by
  rw [pk_un (by omega), pk_un (by omega), pk_un (by omega)]; exact a i hi
theorem q4_takes (hG : tn_Gd ks ρ) (hk : tn_kd ks t = some (4, 0)) (hr : ρ t 0 = 15) (ht : 27 ≤ t) {d h s : Nat} {w : Int32} {R G : Nat → Int32} (hT : tr σ t d h s w R G) {c : Int32} {K : Int32 → (Nat → Nat → Int32) → Prop} (hK0 : ∀ σ', tr_f t σ σ' → (stp d h s w R G c).1 = false → K 0 σ') (hK1 : ∀ σ' d' h' s' w' R' G', tr_f t σ σ' → stp d h s w R G c = (true, d', h', s', w', R', G') → tr σ' t d' h' s' w' R' G' → K 1 σ') : tn_CI m_X4_takes [.ref t, .int c] ks ρ σ K := by
  obtain ⟨e1, d8, h5, s4, e2, e3, e5, e4, ek, ew, eh0, eh5, hh, hs⟩ := id hT
  refine tn_iI mv_X4_takes (Nat.le_of_ble_eq_true rfl) (fun Γ hΓ hK => k_X4_takes_0 hG hΓ hK t c hk hr ?_)
  simp only [tn_ki]
  have L : ∀ q : Nat, q ≤ 8 → ∀ {x : Int32}, x = nI q → (σ t 1 = x ↔ d = q) := fun q hq x ex => by rw [e1, ex]; exact nI_eq (by omega) (by omega)
  rw [L 0 (by omega) nI_0.symm, L 1 (by omega) (by decide), L 2 (by omega) (by decide), L 3 (by omega) (by decide), L 4 (by omega) (by decide), L 5 (by omega) (by decide), L 6 (by omega) (by decide)]
  -- a state that differs in the reader's cell alone
  have hu : ∀ (y : Int32) k, ∀ σ1 : Nat → Nat → Int32, (∀ i, i < 5 → σ1 (18 + i) = σ (18 + i)) → ∀ i, i < 5 → tn_u σ1 t k y (18 + i) = σ (18 + i) := fun y k σ1 g i hi => (funext fun z => tn_u_n (Or.inl (by omega))).trans (g i hi)
  have su : ∀ (y : Int32) k, ∀ σ1 : Nat → Nat → Int32, (∀ i, i < 4 → σ1 (23 + i) = σ (23 + i)) → ∀ i, i < 4 → tn_u σ1 t k y (23 + i) = σ (23 + i) := fun y k σ1 g i hi => (funext fun z => tn_u_n (Or.inl (by omega))).trans (g i hi)
  have g0h : ∀ i, i < 5 → σ (18 + i) = σ (18 + i) := fun _ _ => rfl
  have g0s : ∀ i, i < 4 → σ (23 + i) = σ (23 + i) := fun _ _ => rfl
  unfold stp at hK0 hK1
  refine ⟨fun q => ⟨fun z => ?_, fun z => ?_⟩, fun q0 => ⟨fun q σ1 g1 => ?_, fun q1 => ⟨fun q => ⟨fun z => ?_, fun z => ?_⟩, fun q2 => ⟨fun q => ?_, fun q3 => ⟨fun q σ1 g1 => ?_, fun q4 => ⟨fun q => ?_, fun q5 => ⟨fun q => ?_, fun q6 => ?_⟩⟩⟩⟩⟩⟩⟩
  · rw [if_pos q] at hK0
    exact q4_go0 hG hk hr (fun σ' f => ⟨Or.inl rfl, hK0 σ' f (decide_eq_false z)⟩)
  · rw [if_pos q] at hK1
    refine q4_go1 hG hk hr ⟨Or.inr rfl, hK1 _ 1 h s w R G (tr_f.u (Or.inl rfl)) (by rw [decide_eq_true z]) ?_⟩
    refine ⟨by rw [tn_u_s]; decide, by omega, h5, s4, by rw [tn_u_n (by omega)]; exact e2, by rw [tn_u_n (by omega)]; exact e3, by rw [tn_u_n (by omega)]; exact e5, fun z => by omega, fun z => by omega, fun z => by omega, fun _ => eh0 (by omega), fun _ => eh5 (by omega), hh.c h5 (hu _ _ σ g0h), hs.c s4 (su _ _ σ g0s)⟩
  · rw [if_neg q0, if_pos q] at hK0 hK1
    refine q5_within hG (q4_go hG hk hr (fun σ2 f2 e2' => ?_))
    by_cases z : iw c 49 52 = true
    · rw [if_pos z]
      have es := e2' z
      have ff : tr_f t σ σ2 := tr_f.tr (by rw [g1]; exact tr_f.u (Or.inr (by omega))) f2
      refine ⟨Or.inr rfl, hK1 σ2 2 h s (c - 48) R G ff (by rw [z]) ?_⟩
      have gh : ∀ i, i < 5 → σ1 (18 + i) = σ (18 + i) := fun i hi => by rw [g1]; exact funext fun k => tn_u_n (Or.inl (by omega))
      have gs : ∀ i, i < 4 → σ1 (23 + i) = σ (23 + i) := fun i hi => by rw [g1]; exact funext fun k => tn_u_n (Or.inl (by omega))
      rw [es]
      refine ⟨by rw [tn_u_s]; decide, by omega, h5, s4, by rw [tn_u_n (by omega), g1, tn_u_n (by omega)]; exact e2, by rw [tn_u_n (by omega), g1, tn_u_n (by omega)]; exact e3, by rw [tn_u_n (by omega), g1, tn_u_n (by omega)]; exact e5, fun _ => by rw [tn_u_n (by omega), g1, tn_u_s], fun z => by omega, fun z => by omega, fun _ => eh0 (by omega), fun _ => eh5 (by omega), hh.c h5 (hu _ _ σ1 gh), hs.c s4 (su _ _ σ1 gs)⟩
    · rw [if_neg z]
      exact ⟨Or.inl rfl, hK0 σ2 (tr_f.tr (by rw [g1]; exact tr_f.u (Or.inr (by omega))) f2) (by simpa using z)⟩
  · rw [if_neg q0, if_neg q1, if_pos q] at hK0
    exact q4_go0 hG hk hr (fun σ' f => ⟨Or.inl rfl, hK0 σ' f (decide_eq_false z)⟩)
  · rw [if_neg q0, if_neg q1, if_pos q] at hK1
    refine q4_go1 hG hk hr ⟨Or.inr rfl, hK1 _ 3 h s w R G (tr_f.u (Or.inl rfl)) (by rw [decide_eq_true z]) ?_⟩
    refine ⟨by rw [tn_u_s]; decide, by omega, h5, s4, by rw [tn_u_n (by omega)]; exact e2, by rw [tn_u_n (by omega)]; exact e3, by rw [tn_u_n (by omega)]; exact e5, fun _ => by rw [tn_u_n (by omega)]; exact e4 (by omega), fun z => by omega, fun z => by omega, fun z => by omega, fun _ => eh5 (by omega), hh.c h5 (hu _ _ σ g0h), hs.c s4 (su _ _ σ g0s)⟩
  · rw [if_neg q0, if_neg q1, if_neg q2, if_pos q] at hK0 hK1
    refine q4_kol hG (fun σ1 g1 => ?_)
    rw [show σ1 t 2 = kol c by rw [g1, tn_u_s]]
    refine ⟨fun z => q4_go0 hG hk hr (fun σ' f => ⟨Or.inl rfl, hK0 σ' (tr_f.tr (by rw [g1]; exact tr_f.u (Or.inl rfl)) f) (by simp [z])⟩), fun z => q4_go1 hG hk hr ⟨Or.inr rfl, hK1 _ 4 h s w (upd R (3 * h) (kol c)) G (tr_f.tr (by rw [g1]; exact tr_f.u (Or.inl rfl)) (tr_f.u (Or.inl rfl))) (by simp [z]) ?_⟩⟩
    have gh : ∀ i, i < 5 → σ1 (18 + i) = σ (18 + i) := fun i hi => by rw [g1]; exact funext fun k => tn_u_n (Or.inl (by omega))
    have gs : ∀ i, i < 4 → σ1 (23 + i) = σ (23 + i) := fun i hi => by rw [g1]; exact funext fun k => tn_u_n (Or.inl (by omega))
    refine ⟨by rw [tn_u_s]; decide, by omega, h5, s4, by rw [tn_u_n (by omega), g1, tn_u_n (by omega)]; exact e2, by rw [tn_u_n (by omega), g1, tn_u_n (by omega)]; exact e3, by rw [tn_u_n (by omega), g1, tn_u_n (by omega)]; exact e5, fun _ => by rw [tn_u_n (by omega), g1, tn_u_n (by omega)]; exact e4 (by omega), fun _ _ => by rw [tn_u_n (Or.inr (by decide)), g1, tn_u_s, pk_us], fun z => by omega, fun z => by omega, fun _ => eh5 (by omega), (hh.u (by omega)).c h5 (hu _ _ σ1 gh), hs.c s4 (su _ _ σ1 gs)⟩
  · rw [if_neg q0, if_neg q1, if_neg q2, if_neg q3, if_pos q] at hK0 hK1
    refine q5_within hG (q4_go hG hk hr (fun σ2 f2 e2' => ?_))
    have f1 : tr_f t σ σ1 := by rw [g1]; exact tr_f.u (Or.inl rfl)
    by_cases z : iw c 48 57 = true
    · rw [if_pos z]
      have es := e2' z
      refine ⟨Or.inr rfl, hK1 σ2 5 h s w (upd R (3 * h + 1) (c - 48)) G (f1.tr f2) (by rw [z]) ?_⟩
      have gh : ∀ i, i < 5 → σ1 (18 + i) = σ (18 + i) := fun i hi => by rw [g1]; exact funext fun k => tn_u_n (Or.inl (by omega))
      have gs : ∀ i, i < 4 → σ1 (23 + i) = σ (23 + i) := fun i hi => by rw [g1]; exact funext fun k => tn_u_n (Or.inl (by omega))
      rw [es]
      refine ⟨by rw [tn_u_s]; decide, by omega, h5, s4, by rw [tn_u_n (by omega), g1, tn_u_n (by omega)]; exact e2, by rw [tn_u_n (by omega), g1, tn_u_n (by omega)]; exact e3, by rw [tn_u_n (by omega), g1, tn_u_n (by omega)]; exact e5, fun _ => by rw [tn_u_n (by omega), g1, tn_u_n (by omega)]; exact e4 (by omega), fun _ _ => by rw [tn_u_n (Or.inr (by decide)), g1, tn_u_n (Or.inr (by decide)), pk_un (by omega)]; exact ek (by omega) (by omega), fun _ => by rw [tn_u_n (Or.inr (by decide)), g1, tn_u_s, pk_us], fun z => by omega, fun _ => eh5 (by omega), (hh.u (by omega)).c h5 (hu _ _ σ1 gh), hs.c s4 (su _ _ σ1 gs)⟩
    · rw [if_neg z]
      exact ⟨Or.inl rfl, hK0 σ2 (f1.tr f2) (by simpa using z)⟩
  · rw [if_neg q0, if_neg q1, if_neg q2, if_neg q3, if_neg q4, if_pos q] at hK0 hK1
    have hlt : h < 5 := eh5 (by omega)
    refine tn_iI mv_X4_takesSleep (Nat.le_of_ble_eq_true rfl) (fun Γ1 hΓ1 hK1' => k_X4_takesSleep_0 hG hΓ1 hK1' t c hk hr ?_)
    simp only [tn_ki]
    refine q5_within hG (bn (fun z => ?_) (fun z => ⟨Or.inl trivial, hK0 σ tr_f.rf z⟩))
    refine tn_iV mv_X1_addHouse (Nat.le_of_ble_eq_true rfl) (fun Γ2 hΓ2 hK2 => k_X1_addHouse_0 hG hΓ2 hK2 15 _ _ _ pb15 ?_)
    simp only [tn_kv]
    rw [e2, nI_cl (by omega)]
    refine ⟨fun _ => ⟨vp_in_nI (by omega) (by omega), fun σ1 g1 σ2 g2 σ3 g3 σ4 g4 σ5 g5 σ6 g6 => q4_go1 hG hk hr ⟨Or.inr rfl, Or.inr rfl, hK1 _ 6 (h + 1) s w (upd R (3 * h + 2) (c - 48)) G ?_ (by rw [z]) ?_⟩⟩, fun z2 => ?_⟩
    · have j1 : tr_f t σ σ1 := by rw [g1]; exact tr_f.u (Or.inr (by omega))
      have j2 : tr_f t σ1 σ2 := by rw [g2]; exact tr_f.u (Or.inr (by omega))
      have j3 : tr_f t σ2 σ3 := by rw [g3]; exact tr_f.u (Or.inr (by omega))
      have j4 : tr_f t σ3 σ4 := by rw [g4]; exact tr_f.u (Or.inr (by omega))
      have j5 : tr_f t σ4 σ5 := by rw [g5]; exact tr_f.u (Or.inr (by omega))
      have j6 : tr_f t σ5 σ6 := by rw [g6]; exact tr_f.u (Or.inr (by omega))
      exact (((((j1.tr j2).tr j3).tr j4).tr j5).tr j6).tr (tr_f.u (Or.inl rfl))
    · have o5 : ∀ a b, a ≠ 15 + 3 + h → σ5 a b = σ a b := fun a b za => by rw [g5, tn_u_n (Or.inl za), g4, tn_u_n (Or.inl za), g3, tn_u_n (Or.inl za), g2, tn_u_n (Or.inl za), g1, tn_u_n (Or.inl za)]
      have o6 : ∀ a b, a ≠ 15 + 3 + h → ¬ (a = 15 ∧ b = 2) → σ6 a b = σ a b := fun a b za zb => by rw [g6, tn_u_n (by omega), o5 a b za]
      have oo : ∀ a b, a ≠ 15 + 3 + h → ¬ (a = 15 ∧ b = 2) → a ≠ t → tn_u σ6 t 1 6 a b = σ a b := fun a b za zb zc => by rw [tn_u_n (Or.inl zc), o6 a b za zb]
      refine ⟨by rw [tn_u_s]; decide, by omega, by omega, s4, ?_, by rw [oo _ _ (by omega) (by omega) (by omega)]; exact e3, by rw [oo _ _ (by omega) (by omega) (by omega)]; exact e5, fun _ => by rw [oo _ _ (by omega) (by omega) (by omega)]; exact e4 (by omega), fun z => by omega, fun z => by omega, fun z => by omega, fun z => by omega, fun i hi => ?_, hs.c s4 (fun i hi => funext fun k => oo _ _ (by omega) (by omega) (by omega))⟩
      · rw [tn_u_n (by omega), g6, tn_u_s, o5 15 2 (by omega), e2, nI_1]
      · by_cases e : i = h
        · subst e
          have r : ∀ k, tn_u σ6 t 1 6 (18 + i) k = σ5 (15 + 3 + i) k := fun k => by rw [tn_u_n (by omega), g6, tn_u_n (by omega), show 18 + i = 15 + 3 + i by omega]
          rw [r, r, r, r, r]
          have f0 : σ5 (15 + 3 + i) 4 = 0 := by rw [g5, tn_u_s]
          have f1 : σ5 (15 + 3 + i) 3 = 0 := by rw [g5, tn_u_n (Or.inr (by decide)), g4, tn_u_s]
          have f2 : σ5 (15 + 3 + i) 2 = c - 48 := by rw [g5, tn_u_n (Or.inr (by decide)), g4, tn_u_n (Or.inr (by decide)), g3, tn_u_s]
          have f3 : σ5 (15 + 3 + i) 1 = σ t 3 := by rw [g5, tn_u_n (Or.inr (by decide)), g4, tn_u_n (Or.inr (by decide)), g3, tn_u_n (Or.inr (by decide)), g2, tn_u_s]
          have f4 : σ5 (15 + 3 + i) 0 = σ t 2 := by rw [g5, tn_u_n (Or.inr (by decide)), g4, tn_u_n (Or.inr (by decide)), g3, tn_u_n (Or.inr (by decide)), g2, tn_u_n (Or.inr (by decide)), g1, tn_u_s]
          rw [f0, f1, f2, f3, f4, pk_us, pk_un (by omega), pk_un (by omega)]
          exact ⟨ek (by omega) (by omega), ew (by omega), rfl, rfl, rfl⟩
        · rw [oo _ _ (by omega) (by omega) (by omega), oo _ _ (by omega) (by omega) (by omega), oo _ _ (by omega) (by omega) (by omega), oo _ _ (by omega) (by omega) (by omega), oo _ _ (by omega) (by omega) (by omega), pk_un (by omega), pk_un (by omega), pk_un (by omega)]
          exact hh i (by omega)
    · rw [show (5 : Int32) = nI 5 by decide, nI_ltI (by omega) (by omega)] at z2; omega
  · rw [if_neg q0, if_neg q1, if_neg q2, if_neg q3, if_neg q4, if_neg q5, if_pos q] at hK0 hK1
    refine tn_iI mv_X4_takesAfterHouse (Nat.le_of_ble_eq_true rfl) (fun Γ1 hΓ1 hK1' => k_X4_takesAfterHouse_0 hG hΓ1 hK1' t c hk hr ?_)
    simp only [tn_ki]
    rw [e2, show (5 : Int32) = nI 5 by decide, nI_leI (by omega) (by omega)]
    have ok : ∀ d', d' ≤ 8 → (d' = 3 ∧ h < 5 ∨ d' = 7) → tr (tn_u σ t 1 (nI d')) t d' h s w R G := fun d' hd' hc => by
      refine ⟨by rw [tn_u_s], hd', h5, s4, by rw [tn_u_n (by omega)]; exact e2, by rw [tn_u_n (by omega)]; exact e3, by rw [tn_u_n (by omega)]; exact e5, fun _ => by rw [tn_u_n (by omega)]; exact e4 (by omega), fun z => by omega, fun z => by omega, fun z => by omega, fun z => by omega, hh.c h5 (hu _ _ σ g0h), hs.c s4 (su _ _ σ g0s)⟩
    have ok3 : h < 5 → tr (tn_u σ t 1 3) t 3 h s w R G := fun z => ok 3 (by omega) (by omega)
    have ok7 : tr (tn_u σ t 1 7) t 7 h s w R G := ok 7 (by omega) (by omega)
    refine ⟨fun z => ⟨fun z2 => q4_go0 hG hk hr (fun σ' f => ⟨Or.inl rfl, Or.inl rfl, hK0 σ' f (by simp [z, z2])⟩), fun z2 => ⟨fun z3 => q4_go0 hG hk hr (fun σ' f => ⟨Or.inl rfl, Or.inl rfl, hK0 σ' f ?_⟩), fun z3 => q4_go1 hG hk hr ⟨Or.inr rfl, Or.inr rfl, hK1 _ 3 h s w R G (tr_f.u (Or.inl rfl)) ?_ (ok3 (by omega))⟩⟩⟩, fun z => q4_go1 hG hk hr ⟨Or.inr rfl, Or.inr rfl, hK1 _ 7 h s w R G (tr_f.u (Or.inl rfl)) (by simp [z]) ok7⟩⟩
    · rw [decide_eq_false z, decide_eq_false (show ¬ h < 5 by omega)]; simp
    · rw [decide_eq_true z2, decide_eq_true (show h < 5 by omega), if_neg z]; simp
  · rw [if_neg q0, if_neg q1, if_neg q2, if_neg q3, if_neg q4, if_neg q5, if_neg q6] at hK0 hK1
    refine tn_iI mv_X4_takesStone (Nat.le_of_ble_eq_true rfl) (fun Γ1 hΓ1 hK1' => k_X4_takesStone_0 hG hΓ1 hK1' t c hk hr ?_)
    simp only [tn_ki]
    refine q5_within hG (bz (fun z => ⟨Or.inl trivial, hK0 σ tr_f.rf (by rw [z]; rfl)⟩) (fun z => ?_))
    rw [e3, show (4 : Int32) = nI 4 by decide, nI_ltI (by omega) (by omega)]
    refine ⟨fun z2 => ?_, fun z2 => ⟨Or.inl trivial, hK0 σ tr_f.rf (by rw [z, decide_eq_false z2]; rfl)⟩⟩
    refine tn_iV mv_X1_addStone (Nat.le_of_ble_eq_true rfl) (fun Γ2 hΓ2 hK2 => k_X1_addStone_0 hG hΓ2 hK2 15 _ pb15 ?_)
    simp only [tn_kv]
    rw [e3, nI_cl (by omega), show (4 : Int32) = nI 4 by decide, nI_ltI (by omega) (by omega)]
    refine ⟨fun _ => ⟨vp_in_nI (by omega) (by omega), fun σ1 g1 => ?_⟩, fun z3 => absurd z2 z3⟩
    have s3 : σ1 15 3 = nI s := by rw [g1, tn_u_n (by omega)]; exact e3
    rw [s3, nI_cl (by omega)]
    refine ⟨vp_in_nI (by omega) (by omega), fun σ2 g2 σ3 g3 => q4_go1 hG hk hr ⟨Or.inr rfl, Or.inr rfl, hK1 _ 8 h (s + 1) w R (upd G s (c - 48)) ?_ (by rw [z, decide_eq_true z2]; rfl) ?_⟩⟩
    · have j1 : tr_f t σ σ1 := by rw [g1]; exact tr_f.u (Or.inr (by omega))
      have j2 : tr_f t σ1 σ2 := by rw [g2]; exact tr_f.u (Or.inr (by omega))
      have j3 : tr_f t σ2 σ3 := by rw [g3]; exact tr_f.u (Or.inr (by omega))
      exact ((j1.tr j2).tr j3).tr (tr_f.u (Or.inl rfl))
    · have o2 : ∀ a b, a ≠ 15 + 8 + s → σ2 a b = σ a b := fun a b za => by rw [g2, tn_u_n (Or.inl za), g1, tn_u_n (Or.inl za)]
      have oo : ∀ a b, a ≠ 15 + 8 + s → ¬ (a = 15 ∧ b = 3) → a ≠ t → tn_u σ3 t 1 8 a b = σ a b := fun a b za zb zc => by rw [tn_u_n (Or.inl zc), g3, tn_u_n (by omega), o2 a b za]
      refine ⟨by rw [tn_u_s]; decide, by omega, h5, by omega, by rw [oo _ _ (by omega) (by omega) (by omega)]; exact e2, ?_, by rw [oo _ _ (by omega) (by omega) (by omega)]; exact e5, fun _ => by rw [oo _ _ (by omega) (by omega) (by omega)]; exact e4 (by omega), fun z => by omega, fun z => by omega, fun z => by omega, fun z => by omega, hh.c h5 (fun i hi => funext fun k => oo _ _ (by omega) (by omega) (by omega)), fun i hi => ?_⟩
      · rw [tn_u_n (by omega), g3, tn_u_s, o2 15 3 (by omega), e3, nI_1]
      · by_cases e : i = s
        · subst e
          have r : ∀ k, tn_u σ3 t 1 8 (23 + i) k = σ2 (15 + 8 + i) k := fun k => by rw [tn_u_n (by omega), g3, tn_u_n (by omega), show 23 + i = 15 + 8 + i by omega]
          rw [r, r, pk_us]
          refine ⟨?_, by rw [g2, tn_u_s]⟩
          rw [g2, tn_u_n (Or.inr (by decide)), g1, tn_u_s]
        · rw [oo _ _ (by omega) (by omega) (by omega), oo _ _ (by omega) (by omega) (by omega), pk_un (by omega)]
          exact hs i (by omega)
end QT
