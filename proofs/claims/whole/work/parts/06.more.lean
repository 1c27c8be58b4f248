/-! ===== more rules: arraycopy, the script, names for numbers and stores ===== -/
section TM
variable {Γ : tn_G} {z : tn_M} {pc : Nat} {loc st : List Value} {ca sl : Nat} {ks : List (Nat × Nat)} {ρ : Nat → Nat → Nat} {σ : Nat → Nat → Int32}
theorem tn_topi {x : Int32} (k : ∀ y : Int32, y = x → tn_A Γ pc loc (.int y :: st) ca sl ks ρ σ) : tn_A Γ pc loc (.int x :: st) ca sl ks ρ σ := k x rfl
theorem tn_topl {x : Int64} (k : ∀ y : Int64, y = x → tn_A Γ pc loc (.long y :: st) ca sl ks ρ σ) : tn_A Γ pc loc (.long x :: st) ca sl ks ρ σ := k x rfl
theorem tn_tops (k : ∀ τ : Nat → Nat → Int32, τ = σ → tn_A Γ pc loc st ca sl ks ρ τ) : tn_A Γ pc loc st ca sl ks ρ σ := k σ rfl
def tn_dr (loc : List Value) (mask : List Bool) : List Value := List.zipWith (fun v b => if b = true then v else .null) loc mask
theorem tn_drop (mask : List Bool) {loc' : List Value} (hl : tn_dr loc mask = loc') (k : tn_A Γ pc loc' st ca sl ks ρ σ) : tn_A Γ pc loc st ca sl ks ρ σ := by
  subst hl
  have key : ∀ (i : Nat) (v : Value), (tn_dr loc mask)[i]? = some v → v = .null ∨ loc[i]? = some v := by
    intro i v h
    unfold tn_dr at h
    rw [List.getElem?_zipWith] at h
    cases h1 : loc[i]? with
    | none => rw [h1] at h; simp at h
    | some a =>
      cases h2 : mask[i]? with
      | none => rw [h1, h2] at h; simp at h
      | some b =>
        rw [h1, h2] at h
        cases b with
        | false => left; simpa using h.symm
        | true => right; simpa using h
  obtain ⟨⟨p, l, e, R, s, m, args, below, meth, c, Q⟩, D, cA, A, H0, g0, n0⟩ := Γ
  intro g H locs ls hP hS hl ho1 ho2 hg hn
  refine k g H locs ls hP hS ⟨hl.1, hl.2.1, fun i v hi hne => ?_⟩ (fun v hv => ?_) ho2 hg hn
  · rcases key i v hi with h | h
    · exact absurd h hne
    · exact hl.2.2 i v h hne
  · obtain ⟨i, hi⟩ := List.getElem?_of_mem hv
    rcases key i v hi with h | h
    · rw [h]; trivial
    · exact ho1 v (List.mem_of_getElem? h)
theorem tn_iincw (hΓ : tn_is Γ z) {i : Nat} {n : Int} {x w : Int32} {loc' : Int32 → List Value} (hd : decode z.2.1 pc = .ok (.iinc i n, 3)) (hi : loc[i]? = some (.int x)) (hw : Int32.ofInt n = w) (hn' : i < z.2.2.1) (hp : tn_np loc i = true) (hl' : ∀ v, loc.set i (.int v) = loc' v) (k : ∀ v : Int32, v = x + w → tn_A Γ (pc + 3) (loc' v) st ca sl ks ρ σ) : tn_A Γ pc loc st ca sl ks ρ σ :=
  tn_iinc hΓ hd hi (by rw [hw]) hn' hp (hl' (x + w)) (k _ rfl)
theorem tn_getRy (hΓ : tn_is Γ z) {x idx i k n y : Nat} (hd : decode z.2.1 pc = .ok (.getfield idx, 3)) (hf : tn_FL z.1.cls idx i k) (hr : tn_isR i k = true) (hk : tn_kd ks x = some (i, n)) (hy : ρ x k = y) (kk : tn_A Γ (pc + 3) loc (.ref y :: st) ca sl ks ρ σ) : tn_A Γ pc loc (.ref x :: st) ca sl ks ρ σ := tn_getR hΓ hd hf hr hk (by rw [hy]; exact kk)
theorem tn_aaldy (hΓ : tn_is Γ z) {x n t y : Nat} {i : Int32} (hd : decode z.2.1 pc = .ok (.aaload, 1)) (ht : t < 3) (hk : tn_kd ks x = some (t + 8, n)) (hin : vp_in i n) (hy : ρ x i.toNatClampNeg = y) (kk : tn_A Γ (pc + 1) loc (.ref y :: st) ca sl ks ρ σ) : tn_A Γ pc loc (.int i :: .ref x :: st) ca sl ks ρ σ := tn_aald hΓ hd ht hk hin (by rw [hy]; exact kk)
def tn_cx (i : Nat) (C : String) : Prop := ∃ T, tn_cl[i]? = some (C, T, tn_N i)
/-- a call that makes nothing -/
def tn_Cr (y : tn_M) (As : List Value) (ks : List (Nat × Nat)) (ρ : Nat → Nat → Nat) (σ : Nat → Nat → Int32) (K : Option Value → (Nat → Nat → Int32) → Prop) : Prop := tn_Call y As ks ρ σ (fun v ks' ρ' σ' => ks' = ks ∧ ρ' = ρ ∧ K v σ')
def tn_CI (y : tn_M) (As : List Value) (ks : List (Nat × Nat)) (ρ : Nat → Nat → Nat) (σ : Nat → Nat → Int32) (K : Int32 → (Nat → Nat → Int32) → Prop) : Prop := tn_Cr y As ks ρ σ (fun v σ' => ∃ r, v = some (.int r) ∧ K r σ')
def tn_CL (y : tn_M) (As : List Value) (ks : List (Nat × Nat)) (ρ : Nat → Nat → Nat) (σ : Nat → Nat → Int32) (K : Int64 → (Nat → Nat → Int32) → Prop) : Prop := tn_Cr y As ks ρ σ (fun v σ' => ∃ r, v = some (.long r) ∧ K r σ')
def tn_CV (y : tn_M) (As : List Value) (ks : List (Nat × Nat)) (ρ : Nat → Nat → Nat) (σ : Nat → Nat → Int32) (K : (Nat → Nat → Int32) → Prop) : Prop := tn_Cr y As ks ρ σ (fun v σ' => v = none ∧ K σ')
variable {y : tn_M} {As : List Value}
theorem tn_cvI (hΓ : tn_is Γ z) {idx n x i n' : Nat} (hd : decode z.2.1 pc = .ok (.invokevirtual idx, 3)) (hy : tn_MV y n) (hin : Cond.instanceMethod y.1 ∈ tn_tbl) (hse : Cond.selects y.1.cls y.1 y.1 ∈ tn_tbl) (hlk0 : tn_ML z.1.cls idx y.1) (hrm : tn_RM z y ca sl) (hc0 : y.2.2.2.2.cells = 0) (hs0 : y.2.2.2.2.slots = 0) (hlen : As.length = n) (hi7 : i < 7) (hci : tn_cx i y.1.cls) (hk : tn_kd ks x = some (i, n')) (h8 : (st.map fun v => v.category).sum ≤ 8) {st0 : List Value} (hst0 : As.reverse ++ .ref x :: st = st0) {K : Int32 → (Nat → Nat → Int32) → Prop} (h : tn_CI y (.ref x :: As) ks ρ σ K) (kk : ∀ (r : Int32) (σ' : Nat → Nat → Int32), K r σ' → tn_A Γ (pc + 3) loc (.int r :: st) ca sl ks ρ σ') : tn_A Γ pc loc st0 ca sl ks ρ σ := by
  subst hst0
  refine tn_cv hΓ hd hy hin hse hlk0 hrm hlen hi7 hci hk h8 h (fun v ks' ρ' σ' hq => ?_)
  obtain ⟨rfl, rfl, r, rfl, hq⟩ := hq
  rw [hc0, hs0]
  exact kk r σ' hq
theorem tn_cvL (hΓ : tn_is Γ z) {idx n x i n' : Nat} (hd : decode z.2.1 pc = .ok (.invokevirtual idx, 3)) (hy : tn_MV y n) (hin : Cond.instanceMethod y.1 ∈ tn_tbl) (hse : Cond.selects y.1.cls y.1 y.1 ∈ tn_tbl) (hlk0 : tn_ML z.1.cls idx y.1) (hrm : tn_RM z y ca sl) (hc0 : y.2.2.2.2.cells = 0) (hs0 : y.2.2.2.2.slots = 0) (hlen : As.length = n) (hi7 : i < 7) (hci : tn_cx i y.1.cls) (hk : tn_kd ks x = some (i, n')) (h8 : (st.map fun v => v.category).sum ≤ 8) {st0 : List Value} (hst0 : As.reverse ++ .ref x :: st = st0) {K : Int64 → (Nat → Nat → Int32) → Prop} (h : tn_CL y (.ref x :: As) ks ρ σ K) (kk : ∀ (r : Int64) (σ' : Nat → Nat → Int32), K r σ' → tn_A Γ (pc + 3) loc (.long r :: st) ca sl ks ρ σ') : tn_A Γ pc loc st0 ca sl ks ρ σ := by
  subst hst0
  refine tn_cv hΓ hd hy hin hse hlk0 hrm hlen hi7 hci hk h8 h (fun v ks' ρ' σ' hq => ?_)
  obtain ⟨rfl, rfl, r, rfl, hq⟩ := hq
  rw [hc0, hs0]
  exact kk r σ' hq
theorem tn_cvV (hΓ : tn_is Γ z) {idx n x i n' : Nat} (hd : decode z.2.1 pc = .ok (.invokevirtual idx, 3)) (hy : tn_MV y n) (hin : Cond.instanceMethod y.1 ∈ tn_tbl) (hse : Cond.selects y.1.cls y.1 y.1 ∈ tn_tbl) (hlk0 : tn_ML z.1.cls idx y.1) (hrm : tn_RM z y ca sl) (hc0 : y.2.2.2.2.cells = 0) (hs0 : y.2.2.2.2.slots = 0) (hlen : As.length = n) (hi7 : i < 7) (hci : tn_cx i y.1.cls) (hk : tn_kd ks x = some (i, n')) (h8 : (st.map fun v => v.category).sum ≤ 8) {st0 : List Value} (hst0 : As.reverse ++ .ref x :: st = st0) {K : (Nat → Nat → Int32) → Prop} (h : tn_CV y (.ref x :: As) ks ρ σ K) (kk : ∀ (σ' : Nat → Nat → Int32), K σ' → tn_A Γ (pc + 3) loc st ca sl ks ρ σ') : tn_A Γ pc loc st0 ca sl ks ρ σ := by
  subst hst0
  refine tn_cv hΓ hd hy hin hse hlk0 hrm hlen hi7 hci hk h8 h (fun v ks' ρ' σ' hq => ?_)
  obtain ⟨rfl, rfl, rfl, hq⟩ := hq
  rw [hc0, hs0]
  exact kk σ' hq
theorem tn_csI (hΓ : tn_is Γ z) {idx n : Nat} (hd : decode z.2.1 pc = .ok (.invokestatic idx, 3)) (hy : tn_MV y n) (hst : Cond.static y.1 ∈ tn_tbl) (hlk0 : tn_ML z.1.cls idx y.1) (hrm : tn_RM z y ca sl) (hc0 : y.2.2.2.2.cells = 0) (hs0 : y.2.2.2.2.slots = 0) (hlen : As.length = n) (h8 : (st.map fun v => v.category).sum ≤ 8) {st0 : List Value} (hst0 : As.reverse ++ st = st0) {K : Int32 → (Nat → Nat → Int32) → Prop} (h : tn_CI y As ks ρ σ K) (kk : ∀ (r : Int32) (σ' : Nat → Nat → Int32), K r σ' → tn_A Γ (pc + 3) loc (.int r :: st) ca sl ks ρ σ') : tn_A Γ pc loc st0 ca sl ks ρ σ := by
  subst hst0
  refine tn_cs hΓ hd hy hst hlk0 hrm hlen h8 h (fun v ks' ρ' σ' hq => ?_)
  obtain ⟨rfl, rfl, r, rfl, hq⟩ := hq
  rw [hc0, hs0]
  exact kk r σ' hq
theorem tn_csL (hΓ : tn_is Γ z) {idx n : Nat} (hd : decode z.2.1 pc = .ok (.invokestatic idx, 3)) (hy : tn_MV y n) (hst : Cond.static y.1 ∈ tn_tbl) (hlk0 : tn_ML z.1.cls idx y.1) (hrm : tn_RM z y ca sl) (hc0 : y.2.2.2.2.cells = 0) (hs0 : y.2.2.2.2.slots = 0) (hlen : As.length = n) (h8 : (st.map fun v => v.category).sum ≤ 8) {st0 : List Value} (hst0 : As.reverse ++ st = st0) {K : Int64 → (Nat → Nat → Int32) → Prop} (h : tn_CL y As ks ρ σ K) (kk : ∀ (r : Int64) (σ' : Nat → Nat → Int32), K r σ' → tn_A Γ (pc + 3) loc (.long r :: st) ca sl ks ρ σ') : tn_A Γ pc loc st0 ca sl ks ρ σ := by
  subst hst0
  refine tn_cs hΓ hd hy hst hlk0 hrm hlen h8 h (fun v ks' ρ' σ' hq => ?_)
  obtain ⟨rfl, rfl, r, rfl, hq⟩ := hq
  rw [hc0, hs0]
  exact kk r σ' hq
/-- System.arraycopy of ints -/
theorem tn_acopy (hΓ : tn_is Γ z) {idx x y n0 n1 : Nat} {sp dp n : Int32} (hd : decode z.2.1 pc = .ok (.invokestatic idx, 3)) (hlink : Cond.methodLink z.1.cls idx arraycopyName ∈ tn_tbl) (hnat : Cond.native arraycopyName ∈ tn_tbl) (hstat : Cond.static arraycopyName ∈ tn_tbl) (hini : Cond.initialized "java/lang/System" ∈ tn_tbl) (hfr : 1 ≤ z.2.2.2.2.frames) (hlo : (st.map fun v => v.category).sum + (nativeFrameWords "java/lang/System" "arraycopy" 5 + 11) ≤ z.2.2.2.2.locals)
    (hkx : tn_kd ks x = some (7, n0)) (hky : tn_kd ks y = some (7, n1)) (h1 : ¬ sp < 0) (h2 : ¬ dp < 0) (h3 : ¬ n < 0) (h4 : sp.toNatClampNeg + n.toNatClampNeg ≤ n0) (h5 : dp.toNatClampNeg + n.toNatClampNeg ≤ n1)
    (kk : tn_A Γ (pc + 3) loc st ca sl ks ρ (fun c' => if c' = y then va_cpy (σ x) (σ y) sp.toNatClampNeg dp.toNatClampNeg n.toNatClampNeg else σ c')) : tn_A Γ pc loc (.int n :: .int dp :: .ref y :: .int sp :: .ref x :: st) ca sl ks ρ σ := by
  obtain ⟨⟨p, l, e, R, s, m, args, below, meth, c, Q⟩, D, cA, A, H0, g0, n0'⟩ := Γ
  obtain ⟨hx, hb, hml, hown, hts, hK, hR, hrt, hlk, hnm, hA⟩ := hΓ
  intro g H locs ls hP hS hl ho1 ho2 hg hn
  have hx2 := (tn_kd2 hkx).1
  have hy2 := (tn_kd2 hky).1
  have hex := tn_at (cA := cA) (g := g) (ρ := ρ) (σ := σ) hkx
  have hex : (tn_C cA g ks ρ σ)[x - 2]? = some (g x, .inl (cA 0, n0, .inl (σ x))) := by rw [hex]; simp [tn_e]
  have hey := tn_at (cA := cA) (g := g) (ρ := ρ) (σ := σ) hky
  have hey : (tn_C cA g ks ρ σ)[y - 2]? = some (g y, .inl (cA 0, n1, .inl (σ y))) := by rw [hey]; simp [tn_e]
  have hset := tn_C_setA (cA := cA) (g := g) (ρ := ρ) (σ := σ) (f := va_cpy (σ x) (σ y) sp.toNatClampNeg dp.toNatClampNeg n.toNatClampNeg) hky
  show W p l e R s m args below meth c H locs ca sl Q (F0 m pc ls (.int n :: .int dp :: va_rf (tn_gr g y) :: .int sp :: va_rf (tn_gr g x) :: st.map (tn_v g)))
  rw [tn_gr2 (c := x) (by omega), tn_gr2 (c := y) (by omega)]
  refine va_copyi (ty := .int) hx hb hl.1.symm hown (hts _ hlink) (hts _ hnat) (hts _ hstat) (hts _ hini) hK.1 hP.1 hP.2.1 hS (x - 2) (y - 2) 0 0 hex hey rfl rfl rfl h1 h2 h3 h4 h5 (fun i hi => rfl) (by rw [hR]; exact hfr) (by rw [tn_cats, hR]; exact hlo) hd (fun H1 locs1 q1 q2 q3 => ?_)
  rw [hset] at q1 q2
  exact kk g H1 locs1 ls ⟨q1, q2, hP.2.2⟩ q3 hl ho1 ho2.tl.tl.tl.tl.tl hg hn
/-- the law's own script, by the code 1 -/
def tn_sc (Γ : tn_G) (b L : Nat) (xs : Nat → Int32) : Prop := match Γ with
  | ⟨⟨_, _, _, _, s, _, _, _, _, _, _⟩, _, _, A, H0, g0, _⟩ => va_X b L xs s H0 ∧ b < H0.size ∧ ¬ A b ∧ g0 1 = b
theorem tn_sld (hΓ : tn_is Γ z) {b L : Nat} {xs : Nat → Int32} (hX : tn_sc Γ b L xs) {i : Int32} (hd : decode z.2.1 pc = .ok (.iaload, 1)) (hin : vp_in i L) (kk : tn_A Γ (pc + 1) loc (.int (xs i.toNatClampNeg) :: st) ca sl ks ρ σ) : tn_A Γ pc loc (.int i :: .ref 1 :: st) ca sl ks ρ σ := by
  obtain ⟨⟨p, l, e, R, s, m, args, below, meth, c, Q⟩, D, cA, A, H0, g0, n0⟩ := Γ
  obtain ⟨hx, hb, hml, hown, hts, hK, hR, hrt, hlk, hnm, hA⟩ := hΓ
  obtain ⟨hX, hbl, hbA, hg0⟩ := hX
  intro g H locs ls hP hS hl ho1 ho2 hg hn
  have h1 := kk g H locs ls hP hS hl ho1 (tn_okL.cons trivial ho2.tl.tl) hg hn
  have h2 : tn_gr g 1 = some b := by rw [tn_gr2 (by omega), hg 1 (by omega), hg0]
  show W p l e R s m args below meth c H locs ca sl Q (F0 m pc ls (.int i :: va_rf (tn_gr g 1) :: st.map (tn_v g)))
  rw [h2]
  exact va_sld hx hb hX hbl hbA hS hin hd h1
theorem tn_slen (hΓ : tn_is Γ z) {b L : Nat} {xs : Nat → Int32} (hX : tn_sc Γ b L xs) (hd : decode z.2.1 pc = .ok (.arraylength, 1)) (kk : tn_A Γ (pc + 1) loc (.int (nI L) :: st) ca sl ks ρ σ) : tn_A Γ pc loc (.ref 1 :: st) ca sl ks ρ σ := by
  obtain ⟨⟨p, l, e, R, s, m, args, below, meth, c, Q⟩, D, cA, A, H0, g0, n0⟩ := Γ
  obtain ⟨hx, hb, hml, hown, hts, hK, hR, hrt, hlk, hnm, hA⟩ := hΓ
  obtain ⟨hX, hbl, hbA, hg0⟩ := hX
  intro g H locs ls hP hS hl ho1 ho2 hg hn
  have h1 := kk g H locs ls hP hS hl ho1 (tn_okL.cons trivial ho2.tl) hg hn
  have h2 : tn_gr g 1 = some b := by rw [tn_gr2 (by omega), hg 1 (by omega), hg0]
  show W p l e R s m args below meth c H locs ca sl Q (F0 m pc ls (va_rf (tn_gr g 1) :: st.map (tn_v g)))
  rw [h2]
  exact va_slen hx hb hX hbl hbA hS hd h1
end TM
/-! ===== the cells of a run: the class's, the model's ===== -/
def tn_k0 : List (Nat × Nat) := [(5, 0), (1, 0), (8, 5), (9, 4), (0, 0), (0, 0), (0, 0), (0, 0), (0, 0), (3, 0), (3, 0), (3, 0), (3, 0), (1, 0), (8, 5), (9, 4), (0, 0), (0, 0), (0, 0), (0, 0), (0, 0), (3, 0), (3, 0), (3, 0), (3, 0), (10, 4), (7, 8), (7, 8), (7, 4), (2, 0), (7, 60), (2, 0), (7, 60), (2, 0), (7, 60), (2, 0), (7, 60),
  (6, 0), (7, 4), (7, 4), (7, 240), (7, 5), (7, 5), (7, 5), (7, 5), (7, 4), (7, 15), (7, 4), (7, 30), (7, 8), (7, 8), (7, 8)]
def tn_r00 : List (List Nat) := [[], [], [3, 15, 27, 28, 29, 30], [4, 5], [6, 7, 8, 9, 10], [11, 12, 13, 14], [], [], [], [], [], [], [], [], [], [16, 17], [18, 19, 20, 21, 22], [23, 24, 25, 26], [], [], [], [], [], [], [], [], [], [31, 33, 35, 37], [], [], [], [32], [], [34], [], [36], [], [38], [],
  [0, 0, 40, 41, 42, 0, 0, 0, 0, 0, 0, 0, 0, 43, 44, 45, 46, 47, 0, 0, 0, 0, 48, 49, 50, 51, 0, 52, 53]]
def tn_r0 (c k : Nat) : Nat := (tn_r00.getD c []).getD k 0
def tn_Gd (ks : List (Nat × Nat)) (ρ : Nat → Nat → Nat) : Prop := (∃ tl, ks = tn_k0 ++ tl) ∧ ∀ c, c < 54 → ∀ k, ρ c k = tn_r0 c k
theorem gd_k {ks : List (Nat × Nat)} {ρ : Nat → Nat → Nat} (h : tn_Gd ks ρ) {c : Nat} {kk : Nat × Nat} (hc : tn_kd tn_k0 c = some kk) : tn_kd ks c = some kk := by
  obtain ⟨⟨tl, rfl⟩, -⟩ := h
  obtain ⟨h1, h2, -⟩ := tn_kd2 hc
  unfold tn_kd
  rw [if_neg (by omega), List.getElem?_append_left (List.getElem?_eq_some_iff.mp h2).1]
  exact h2
theorem gd_r {ks : List (Nat × Nat)} {ρ : Nat → Nat → Nat} (h : tn_Gd ks ρ) (c k y : Nat) (h1 : Nat.blt c 54 = true) (h2 : tn_r0 c k = y) : ρ c k = y := by
  rw [h.2 c (Nat.le_of_ble_eq_true h1) k]
  exact h2
/-- a parish: now, or the trial -/
def tn_Pb (b : Nat) : Prop := b = 3 ∨ b = 15
theorem gp_k {ks : List (Nat × Nat)} {ρ : Nat → Nat → Nat} (h : tn_Gd ks ρ) {b : Nat} (hb : tn_Pb b) : tn_kd ks b = some (1, 0) := by
  rcases hb with rfl | rfl <;> exact gd_k h rfl
theorem gp_h {ks : List (Nat × Nat)} {ρ : Nat → Nat → Nat} (h : tn_Gd ks ρ) {b : Nat} (hb : tn_Pb b) : ρ b 0 = b + 1 := by
  rcases hb with rfl | rfl <;> exact gd_r h _ _ _ rfl rfl
theorem gp_s {ks : List (Nat × Nat)} {ρ : Nat → Nat → Nat} (h : tn_Gd ks ρ) {b : Nat} (hb : tn_Pb b) : ρ b 1 = b + 2 := by
  rcases hb with rfl | rfl <;> exact gd_r h _ _ _ rfl rfl
theorem gp_kh {ks : List (Nat × Nat)} {ρ : Nat → Nat → Nat} (h : tn_Gd ks ρ) {b : Nat} (hb : tn_Pb b) : tn_kd ks (b + 1) = some (0 + 8, 5) := by
  rcases hb with rfl | rfl <;> exact gd_k h rfl
theorem gp_ks {ks : List (Nat × Nat)} {ρ : Nat → Nat → Nat} (h : tn_Gd ks ρ) {b : Nat} (hb : tn_Pb b) : tn_kd ks (b + 2) = some (1 + 8, 4) := by
  rcases hb with rfl | rfl <;> exact gd_k h rfl
theorem tn_inN {i : Int32} {n : Nat} (h : vp_in i n) : i.toNatClampNeg < n := Nat.not_le.mp fun q => h (Or.inr q)
theorem gp_H {ks : List (Nat × Nat)} {ρ : Nat → Nat → Nat} (h : tn_Gd ks ρ) {b : Nat} (hb : tn_Pb b) {i : Int32} (hi : vp_in i 5) : ρ (b + 1) i.toNatClampNeg = b + 3 + i.toNatClampNeg := by
  have h1 := tn_inN hi
  generalize i.toNatClampNeg = j at h1 ⊢
  have h2 : j = 0 ∨ j = 1 ∨ j = 2 ∨ j = 3 ∨ j = 4 := by omega
  rcases hb with rfl | rfl <;> rcases h2 with rfl | rfl | rfl | rfl | rfl <;> exact gd_r h _ _ _ rfl rfl
theorem gp_kH {ks : List (Nat × Nat)} {ρ : Nat → Nat → Nat} (h : tn_Gd ks ρ) {b : Nat} (hb : tn_Pb b) {j : Nat} (h1 : j < 5) : tn_kd ks (b + 3 + j) = some (0, 0) := by
  have h2 : j = 0 ∨ j = 1 ∨ j = 2 ∨ j = 3 ∨ j = 4 := by omega
  rcases hb with rfl | rfl <;> rcases h2 with rfl | rfl | rfl | rfl | rfl <;> exact gd_k h rfl
theorem gp_S {ks : List (Nat × Nat)} {ρ : Nat → Nat → Nat} (h : tn_Gd ks ρ) {b : Nat} (hb : tn_Pb b) {i : Int32} (hi : vp_in i 4) : ρ (b + 2) i.toNatClampNeg = b + 8 + i.toNatClampNeg := by
  have h1 := tn_inN hi
  generalize i.toNatClampNeg = j at h1 ⊢
  have h2 : j = 0 ∨ j = 1 ∨ j = 2 ∨ j = 3 := by omega
  rcases hb with rfl | rfl <;> rcases h2 with rfl | rfl | rfl | rfl <;> exact gd_r h _ _ _ rfl rfl
theorem gp_kS {ks : List (Nat × Nat)} {ρ : Nat → Nat → Nat} (h : tn_Gd ks ρ) {b : Nat} (hb : tn_Pb b) {j : Nat} (h1 : j < 4) : tn_kd ks (b + 8 + j) = some (3, 0) := by
  have h2 : j = 0 ∨ j = 1 ∨ j = 2 ∨ j = 3 := by omega
  rcases hb with rfl | rfl <;> rcases h2 with rfl | rfl | rfl | rfl <;> exact gd_k h rfl
/-- a sheet -/
def tn_Sb (c : Nat) : Prop := c = 31 ∨ c = 33 ∨ c = 35 ∨ c = 37
theorem gs_k {ks : List (Nat × Nat)} {ρ : Nat → Nat → Nat} (h : tn_Gd ks ρ) {c : Nat} (hc : tn_Sb c) : tn_kd ks c = some (2, 0) := by
  rcases hc with rfl | rfl | rfl | rfl <;> exact gd_k h rfl
theorem gs_c {ks : List (Nat × Nat)} {ρ : Nat → Nat → Nat} (h : tn_Gd ks ρ) {c : Nat} (hc : tn_Sb c) : ρ c 0 = c + 1 := by
  rcases hc with rfl | rfl | rfl | rfl <;> exact gd_r h _ _ _ rfl rfl
theorem gs_kc {ks : List (Nat × Nat)} {ρ : Nat → Nat → Nat} (h : tn_Gd ks ρ) {c : Nat} (hc : tn_Sb c) : tn_kd ks (c + 1) = some (7, 60) := by
  rcases hc with rfl | rfl | rfl | rfl <;> exact gd_k h rfl
theorem gs_S {ks : List (Nat × Nat)} {ρ : Nat → Nat → Nat} (h : tn_Gd ks ρ) {i : Int32} (hi : vp_in i 4) : ρ 27 i.toNatClampNeg = 31 + 2 * i.toNatClampNeg := by
  have h1 := tn_inN hi
  generalize i.toNatClampNeg = j at h1 ⊢
  have h2 : j = 0 ∨ j = 1 ∨ j = 2 ∨ j = 3 := by omega
  rcases h2 with rfl | rfl | rfl | rfl <;> exact gd_r h _ _ _ rfl rfl
theorem gs_b {j : Nat} (hi : j < 4) : tn_Sb (31 + 2 * j) := by
  unfold tn_Sb
  omega
