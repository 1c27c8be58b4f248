/-! ===== what a contract's end says, by the kind of its answer ===== -/
def tn_KI (ks : List (Nat × Nat)) (ρ : Nat → Nat → Nat) (K : Int32 → (Nat → Nat → Int32) → Prop) : Option Value → List (Nat × Nat) → (Nat → Nat → Nat) → (Nat → Nat → Int32) → Prop := fun v ks' ρ' σ' => ks' = ks ∧ ρ' = ρ ∧ ∃ r, v = some (.int r) ∧ K r σ'
def tn_KL (ks : List (Nat × Nat)) (ρ : Nat → Nat → Nat) (K : Int64 → (Nat → Nat → Int32) → Prop) : Option Value → List (Nat × Nat) → (Nat → Nat → Nat) → (Nat → Nat → Int32) → Prop := fun v ks' ρ' σ' => ks' = ks ∧ ρ' = ρ ∧ ∃ r, v = some (.long r) ∧ K r σ'
def tn_KV (ks : List (Nat × Nat)) (ρ : Nat → Nat → Nat) (K : (Nat → Nat → Int32) → Prop) : Option Value → List (Nat × Nat) → (Nat → Nat → Nat) → (Nat → Nat → Int32) → Prop := fun v ks' ρ' σ' => ks' = ks ∧ ρ' = ρ ∧ v = none ∧ K σ'
section QK
variable {ks : List (Nat × Nat)} {ρ : Nat → Nat → Nat} {σ : Nat → Nat → Int32} {z : tn_M} {As : List Value}
theorem tn_ki {K : Int32 → (Nat → Nat → Int32) → Prop} {r : Int32} : tn_KI ks ρ K (some (.int r)) ks ρ σ = K r σ := propext ⟨fun ⟨_, _, q, e, h⟩ => by cases e; exact h, fun h => ⟨rfl, rfl, r, rfl, h⟩⟩
theorem tn_kl {K : Int64 → (Nat → Nat → Int32) → Prop} {r : Int64} : tn_KL ks ρ K (some (.long r)) ks ρ σ = K r σ := propext ⟨fun ⟨_, _, q, e, h⟩ => by cases e; exact h, fun h => ⟨rfl, rfl, r, rfl, h⟩⟩
theorem tn_kv {K : (Nat → Nat → Int32) → Prop} : tn_KV ks ρ K none ks ρ σ = K σ := propext ⟨fun ⟨_, _, _, h⟩ => h, fun h => ⟨rfl, rfl, rfl, h⟩⟩
theorem tn_iI {K : Int32 → (Nat → Nat → Int32) → Prop} {n : Nat} (hm : tn_MV z n) (hlen : (As.flatMap (fun v => if v.category = 2 then [v, .null] else [v])).length ≤ z.2.2.1) (body : ∀ Γ : tn_G, tn_is Γ z → tn_rt Γ z (tn_KI ks ρ K) → tn_A Γ 0 (tn_ini As z.2.2.1) [] 0 0 ks ρ σ) : tn_CI z As ks ρ σ K := tn_intro hm.2.2.2 hlen body
theorem tn_iL {K : Int64 → (Nat → Nat → Int32) → Prop} {n : Nat} (hm : tn_MV z n) (hlen : (As.flatMap (fun v => if v.category = 2 then [v, .null] else [v])).length ≤ z.2.2.1) (body : ∀ Γ : tn_G, tn_is Γ z → tn_rt Γ z (tn_KL ks ρ K) → tn_A Γ 0 (tn_ini As z.2.2.1) [] 0 0 ks ρ σ) : tn_CL z As ks ρ σ K := tn_intro hm.2.2.2 hlen body
theorem tn_iV {K : (Nat → Nat → Int32) → Prop} {n : Nat} (hm : tn_MV z n) (hlen : (As.flatMap (fun v => if v.category = 2 then [v, .null] else [v])).length ≤ z.2.2.1) (body : ∀ Γ : tn_G, tn_is Γ z → tn_rt Γ z (tn_KV ks ρ K) → tn_A Γ 0 (tn_ini As z.2.2.1) [] 0 0 ks ρ σ) : tn_CV z As ks ρ σ K := tn_intro hm.2.2.2 hlen body
end QK
/-! ===== pure pictures ===== -/
/-- a house's row: kind, wrong, sleep, hats, owned -/
def hw_wt (r : Nat → Int32) : Int32 := if r 0 = 1 then r 1 + 1 else if r 0 = 2 then 2 * r 1 else r 1
def hw_rk (r : Nat → Int32) : Bool := (r 4 == 0) && decide (0 < hw_wt r)
theorem hw_wt_c {r r' : Nat → Int32} (h : ∀ k, k < 5 → r k = r' k) : hw_wt r = hw_wt r' := by
  unfold hw_wt
  rw [h 0 (by decide), h 1 (by decide)]
theorem hw_rk_c {r r' : Nat → Int32} (h : ∀ k, k < 5 → r k = r' k) : hw_rk r = hw_rk r' := by
  unfold hw_rk
  rw [hw_wt_c h, h 4 (by decide)]
/-- a parish's picture: row 0 its own fields, 3 .. 7 houses, 8 .. 11 stones -/
abbrev pp_T : Type := Nat → Nat → Int32
def pp_n (P : pp_T) : Nat := (P 0 2).toNatClampNeg
def pp_m (P : pp_T) : Nat := (P 0 3).toNatClampNeg
def pp_g (P : pp_T) : Nat := (P 0 5).toNatClampNeg
def pp_wt (P : pp_T) (h : Nat) : Int32 := hw_wt (P (3 + h))
def pp_rk (P : pp_T) (h : Nat) : Bool := hw_rk (P (3 + h))
def pp_voH (P : pp_T) : Nat → Int32
  | 0 => 0
  | h + 1 => pp_voH P h + (if pp_rk P h = true then pp_wt P h else 0)
def pp_voS (P : pp_T) (a : Int32) : Nat → Int32
  | 0 => a
  | s + 1 => pp_voS P a s + (if P (8 + s) 1 = 0 then P (8 + s) 0 else 0)
def pp_vo (P : pp_T) : Int32 := pp_voS P (pp_voH P (pp_n P)) (pp_m P)
def pp_hsN (P : pp_T) : Nat → Int32
  | 0 => 0
  | h + 1 => pp_hsN P h + P (3 + h) 3
def pp_hs (P : pp_T) : Int32 := pp_hsN P (pp_n P)
def pp_rsN (P : pp_T) : Nat → Int32
  | 0 => 0
  | h + 1 => if pp_rk P h = true then pp_rsN P h ||| (1 <<< (nI h &&& 31)) else pp_rsN P h
def pp_rs (P : pp_T) : Int32 := pp_rsN P (pp_n P)
/-- is the house k of the set x -/
def bi (x : Int32) (k : Nat) : Int32 := (x >>> (nI k &&& 31)) &&& 1
def pp_wsN (P : pp_T) (x : Int32) : Nat → Int32
  | 0 => 0
  | h + 1 => pp_wsN P x h + (if bi x h = 0 then 0 else pp_wt P h)
def pp_ws (P : pp_T) (x : Int32) : Int32 := pp_wsN P x (pp_n P)
def pp_own (P : pp_T) (h : Nat) : pp_T := if pp_rk P h = true then tn_u P (3 + h) 4 1 else tn_u P (3 + h) 3 (P (3 + h) 3 + 1)
def pp_ownA (P : pp_T) (x : Int32) : Nat → pp_T
  | 0 => P
  | h + 1 => if bi x h = 0 then pp_ownA P x h else pp_own (pp_ownA P x h) h
def pp_los (P : pp_T) (n : Nat) : pp_T := fun i k => if 3 ≤ i ∧ i < 3 + n ∧ k = 2 ∧ 0 < P i k then P i k - 1 else P i k
/-- the heaviest stone that isn't laid: its number and one, how much it hides -/
def pp_hv (P : pp_T) : Nat → Nat × Int32
  | 0 => (0, 0)
  | s + 1 => if P (8 + s) 1 = 0 ∧ (pp_hv P s).2 < P (8 + s) 0 then (s + 1, P (8 + s) 0) else pp_hv P s
def pp_lay (P : pp_T) : pp_T := if (pp_hv P (pp_m P)).1 = 0 then P else tn_u P (8 + ((pp_hv P (pp_m P)).1 - 1)) 1 1
def pp_hang (P : pp_T) : pp_T := tn_u P 0 5 ((P 0 5 + P 0 4) - (P 0 5 + P 0 4) / P 0 2 * P 0 2)
def pp_p1 (P : pp_T) : pp_T := pp_los P (pp_n P)
def pp_p2 (P : pp_T) : pp_T := if pp_p1 P (3 + pp_g P) 2 = 0 then pp_own (pp_p1 P) (pp_g P) else pp_p1 P
def pp_p3 (P : pp_T) : pp_T := if pp_rs (pp_p2 P) = 0 then pp_lay (pp_p2 P) else pp_p2 P
/-- a night -/
def pp_pn (P : pp_T) : pp_T := if pp_vo P = 0 then P else pp_hang (pp_p3 P)
def pp_pns (P : pp_T) : Nat → pp_T
  | 0 => P
  | t + 1 => pp_pn (pp_pns P t)
/-- sound pictures -/
def pp_w (P : pp_T) : Prop := P 0 2 = nI (pp_n P) ∧ pp_n P ≤ 5 ∧ P 0 3 = nI (pp_m P) ∧ pp_m P ≤ 4 ∧
  (∀ h, h < pp_n P → (P (3 + h) 0 = 0 ∨ P (3 + h) 0 = 1 ∨ P (3 + h) 0 = 2) ∧ (∃ w, w ≤ 9 ∧ P (3 + h) 1 = nI w) ∧ (∃ w, w ≤ 9 ∧ P (3 + h) 2 = nI w) ∧ (P (3 + h) 4 = 0 ∨ P (3 + h) 4 = 1)) ∧
  (∀ s, s < pp_m P → (∃ w, 1 ≤ w ∧ w ≤ 9 ∧ P (8 + s) 0 = nI w) ∧ (P (8 + s) 1 = 0 ∨ P (8 + s) 1 = 1)) ∧
  (0 < pp_n P → P 0 5 = nI (pp_g P) ∧ pp_g P < pp_n P ∧ ∃ w, 1 ≤ w ∧ w ≤ 4 ∧ P 0 4 = nI w) ∧ (pp_n P = 0 → P 0 5 = 0 ∧ pp_m P = 0)
/-- the class's cells hold the picture -/
def rc_P (σ : Nat → Nat → Int32) (b : Nat) (P : pp_T) : Prop := (∀ k, 2 ≤ k → k < 6 → σ b k = P 0 k) ∧ (∀ h, h < pp_n P → ∀ k, k < 5 → σ (b + 3 + h) k = P (3 + h) k) ∧ (∀ s, s < pp_m P → ∀ k, k < 2 → σ (b + 8 + s) k = P (8 + s) k)
/-- all but the parish's own rows stays -/
def rc_F (b : Nat) (σ σ' : Nat → Nat → Int32) : Prop := ∀ c, c < b ∨ b + 12 ≤ c → σ' c = σ c
theorem rc_F.rf {b : Nat} {σ : Nat → Nat → Int32} : rc_F b σ σ := fun _ _ => rfl
theorem rc_F.tr {b : Nat} {σ σ1 σ2 : Nat → Nat → Int32} (h1 : rc_F b σ σ1) (h2 : rc_F b σ1 σ2) : rc_F b σ σ2 := fun c h => (h2 c h).trans (h1 c h)
theorem rc_F.u {b : Nat} {σ : Nat → Nat → Int32} {c k : Nat} {x : Int32} (h1 : b ≤ c) (h2 : c < b + 12) : rc_F b σ (tn_u σ c k x) := fun c' h => funext fun k' => tn_u_n (Or.inl (by omega))
theorem pp_n_u {P : pp_T} {i k : Nat} {x : Int32} (h : i ≠ 0 ∨ k ≠ 2) : pp_n (tn_u P i k x) = pp_n P := by
  unfold pp_n
  rw [tn_u_n (by omega)]
theorem pp_m_u {P : pp_T} {i k : Nat} {x : Int32} (h : i ≠ 0 ∨ k ≠ 3) : pp_m (tn_u P i k x) = pp_m P := by
  unfold pp_m
  rw [tn_u_n (by omega)]
theorem pp_g_u {P : pp_T} {i k : Nat} {x : Int32} (h : i ≠ 0 ∨ k ≠ 5) : pp_g (tn_u P i k x) = pp_g P := by
  unfold pp_g
  rw [tn_u_n (by omega)]
theorem tn_u_eq (σ : Nat → Nat → Int32) (c k : Nat) (x : Int32) (c' k' : Nat) : tn_u σ c k x c' k' = if c' = c ∧ k' = k then x else σ c' k' := rfl
/-- a write in the cells is a write in the picture -/
theorem rc_P.u {σ : Nat → Nat → Int32} {b : Nat} {P : pp_T} {i k : Nat} {x : Int32} (h : rc_P σ b P) (h1 : i ≠ 0 ∨ (k ≠ 2 ∧ k ≠ 3)) : rc_P (tn_u σ (b + i) k x) b (tn_u P i k x) := by
  have hn : pp_n (tn_u P i k x) = pp_n P := pp_n_u (by omega)
  have hm : pp_m (tn_u P i k x) = pp_m P := pp_m_u (by omega)
  refine ⟨fun k' h2 h3 => ?_, fun j hj k' h2 => ?_, fun j hj k' h2 => ?_⟩
  · rw [tn_u_eq, tn_u_eq]
    have := h.1 k' h2 h3
    by_cases hc : 0 = i ∧ k' = k
    · rw [if_pos hc, if_pos (by omega)]
    · rw [if_neg hc, if_neg (by omega)]; exact this
  · rw [hn] at hj
    rw [tn_u_eq, tn_u_eq]
    have := h.2.1 j hj k' h2
    by_cases hc : 3 + j = i ∧ k' = k
    · rw [if_pos hc, if_pos (by omega)]
    · rw [if_neg hc, if_neg (by omega)]; exact this
  · rw [hm] at hj
    rw [tn_u_eq, tn_u_eq]
    have := h.2.2 j hj k' h2
    by_cases hc : 8 + j = i ∧ k' = k
    · rw [if_pos hc, if_pos (by omega)]
    · rw [if_neg hc, if_neg (by omega)]; exact this
theorem rc_P.fr {σ σ' : Nat → Nat → Int32} {b : Nat} {P : pp_T} (h : rc_P σ b P) (hw : pp_w P) (hf : ∀ c, b ≤ c → c < b + 12 → σ' c = σ c) : rc_P σ' b P := by
  obtain ⟨-, w1, -, w2, -⟩ := hw
  refine ⟨fun k h2 h3 => ?_, fun j hj k h2 => ?_, fun j hj k h2 => ?_⟩
  · rw [hf b (by omega) (by omega)]; exact h.1 k h2 h3
  · rw [hf _ (by omega) (by omega)]; exact h.2.1 j hj k h2
  · rw [hf _ (by omega) (by omega)]; exact h.2.2 j hj k h2
theorem pb_ap {b b1 : Nat} (h : tn_Pb b) (h1 : tn_Pb b1) (hne : b ≠ b1) : b + 12 ≤ b1 ∨ b1 + 12 ≤ b := by
  unfold tn_Pb at h h1
  omega
theorem rc_P.ot {σ σ' : Nat → Nat → Int32} {b b1 : Nat} {P : pp_T} (h : rc_P σ b1 P) (hw : pp_w P) (hb : tn_Pb b) (hb1 : tn_Pb b1) (hne : b ≠ b1) (hf : rc_F b σ σ') : rc_P σ' b1 P :=
  h.fr hw (fun c h1 h2 => hf c (by have := pb_ap hb hb1 hne; omega))
