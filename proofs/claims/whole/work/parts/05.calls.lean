/-! ===== making cells, calls, returns ===== -/
section TC
variable {Γ : tn_G} {z : tn_M} {pc : Nat} {loc st : List Value} {ca sl : Nat} {ks : List (Nat × Nat)} {ρ : Nat → Nat → Nat} {σ : Nat → Nat → Int32}
theorem tn_ug_c {g : Nat → Nat} {n q : Nat} : ∀ c, c < n + 2 → tn_ug g (n + 2) q c = g c := fun c h => if_neg (by omega)
theorem tn_zr_c {ρ : Nat → Nat → Nat} {n m : Nat} (h : ∀ c k, ρ c k < n + 2) : ∀ c k, tn_zr ρ m c k < n + 1 + 2 := by
  intro c k
  unfold tn_zr
  split
  · omega
  · have := h c k
    omega
theorem tn_new (hΓ : tn_is Γ z) {idx i : Nat} {C : String} {T : u_T} (ty : Nat → FieldType) (hd : decode z.2.1 pc = .ok (.new idx, 3)) (hi : i < 7) (hc : tn_cl[i]? = some (C, T, tn_N i)) (hus : ∀ w ∈ u_ws C T (tn_N i), w ∈ tn_tbl) (hty : ∀ k, k < tn_N i → parseFieldDescriptor (T k).2.2.1 = some (ty k))
    (hcl : Cond.classLink z.1.cls idx C ∈ tn_tbl) (hins : Cond.instantiable C (tn_N i) ∈ tn_tbl) (hini : Cond.initialized C ∈ tn_tbl) (hdf : ∀ k, k < tn_N i → defaultValue (ty k) = if tn_isR i k = true then Value.null else .int 0) (hca : ca + 1 ≤ z.2.2.2.2.cells) (hsl : sl + tn_N i ≤ z.2.2.2.2.slots)
    (kk : tn_A Γ (pc + 3) loc (.ref (ks.length + 2) :: st) (ca + 1) (sl + tn_N i) (ks ++ [(i, 0)]) (tn_zr ρ (ks.length + 2)) (tn_zs σ (ks.length + 2))) : tn_A Γ pc loc st ca sl ks ρ σ := by
  obtain ⟨⟨p, l, e, R, s, m, args, below, meth, c, Q⟩, D, cA, A, H0, g0, n0⟩ := Γ
  obtain ⟨hx, hb, hml, hown, hts, hK, hR, hrt, hlk, hnm, hA⟩ := hΓ
  intro g H locs ls hP hS hl ho1 ho2 hg hn
  refine va_new (D := D) (ci := i) (fs := tn_fs i g (fun _ _ => 0) (fun _ _ => 0) 0) hx hb hts hus ty hty hown (hts _ hcl) (hts _ hins) (hts _ hini) hK.1 hP.1 hP.2.1 hS hA hc ?_ (by rw [hR]; exact hca) (by rw [hR]; exact hsl) hd (fun q H1 h1 h2 h3 => ?_)
  · intro j hj
    rw [hdf j hj]
    have h5 := tn_fsN (i := i) (g := g) (ρ := fun _ _ => 0) (σ := fun _ _ => 0) (c := 0) hj
    unfold vp_V
    rw [List.getD_eq_getElem?_getD, h5]
    cases tn_isR i j <;> rfl
  · have e1 := tn_C_new (cA := cA) (g := g) (σ := σ) (q := q) (kk := (i, 0)) hP.2.2
    have e2 : tn_e cA (tn_ug g (ks.length + 2) q) (fun _ _ => 0) (fun _ _ => 0) (ks.length + 2) (i, 0) = .inr (i, tn_fs i g (fun _ _ => 0) (fun _ _ => 0) 0) := by
      simp only [tn_e, hi, if_true]
      rw [tn_fs_congr (g' := g) (ρ' := fun _ _ => 0) (σ' := fun _ _ => 0) (c' := 0) (fun k => by simp [tn_gr]) (fun k => rfl)]
    rw [e2] at e1
    rw [← e1] at h1 h2
    have hug := tn_ug_c (g := g) (n := ks.length) (q := q)
    have h9 := kk (tn_ug g (ks.length + 2) q) H1 locs ls ⟨h1, h2, by rw [List.length_append]; exact tn_zr_c hP.2.2⟩ h3 (tn_L.congr hug ho1 hl) (ho1.mono (by simp)) (tn_okL.cons (v := .ref (ks.length + 2)) (show _ < _ by simp) (ho2.mono (by simp))) (fun x hx => by rw [hug x (by omega)]; exact hg x hx) (by simp; omega)
    have h10 : (Value.ref (ks.length + 2) :: st).map (tn_v (tn_ug g (ks.length + 2) q)) = .ref q :: st.map (tn_v g) := by
      rw [List.map_cons, tn_map_congr hug ho2]
      simp [tn_v, tn_gr, tn_ug, va_rf]
    rw [h10] at h9
    exact h9
theorem tn_newa (hΓ : tn_is Γ z) {n : Int32} {N : Nat} (hd : decode z.2.1 pc = .ok (.newarray .int, 2)) (ha : Cond.arrayClass .int ∈ tn_tbl) (hn0 : ¬ n < 0) (hN : n.toNatClampNeg = N) (hsm : N ≤ 1000) (hca : ca + 1 ≤ z.2.2.2.2.cells) (hsl : sl + N ≤ z.2.2.2.2.slots)
    (kk : tn_A Γ (pc + 2) loc (.ref (ks.length + 2) :: st) (ca + 1) (sl + N) (ks ++ [(7, N)]) (tn_zr ρ (ks.length + 2)) (tn_zs σ (ks.length + 2))) : tn_A Γ pc loc (.int n :: st) ca sl ks ρ σ := by
  obtain ⟨⟨p, l, e, R, s, m, args, below, meth, c, Q⟩, D, cA, A, H0, g0, n0⟩ := Γ
  obtain ⟨hx, hb, hml, hown, hts, hK, hR, hrt, hlk, hnm, hA⟩ := hΓ
  intro g H locs ls hP hS hl ho1 ho2 hg hn
  refine va_newa (D := D) (atype := .int) (a0 := (N, .inl (fun _ => 0))) hx hb (hts _ ha) rfl hK.1 hP.1 hP.2.1 hS hA (fun _ => rfl) hn0 hN (by show N * 4 ≤ _; omega) (by rw [hR]; exact hca) (by rw [hR]; exact hsl) hd (fun q cA' H1 h0 h1 h2 h3 => ?_)
  have hcc : cA' = cA 0 := by
    have q1 := (h0.2 4 (cA', .int) rfl).2
    have q2 := (h0.2 0 (cA 0, .int) rfl).2
    exact Option.some.inj (q1.symm.trans q2)
  subst hcc
  have e1 := tn_C_new (cA := cA) (g := g) (σ := σ) (q := q) (kk := (7, N)) hP.2.2
  have e2 : tn_e cA (tn_ug g (ks.length + 2) q) (fun _ _ => 0) (fun _ _ => 0) (ks.length + 2) (7, N) = .inl (cA 0, N, .inl (fun _ => 0)) := by simp [tn_e]
  rw [e2] at e1
  rw [← e1] at h1 h2
  have hug := tn_ug_c (g := g) (n := ks.length) (q := q)
  have h9 := kk (tn_ug g (ks.length + 2) q) H1 locs ls ⟨h1, h2, by rw [List.length_append]; exact tn_zr_c hP.2.2⟩ h3 (tn_L.congr hug ho1 hl) (ho1.mono (by simp)) (tn_okL.cons (v := .ref (ks.length + 2)) (show _ < _ by simp) (ho2.tl.mono (by simp))) (fun x hx => by rw [hug x (by omega)]; exact hg x hx) (by simp; omega)
  have h10 : (Value.ref (ks.length + 2) :: st).map (tn_v (tn_ug g (ks.length + 2) q)) = .ref q :: st.map (tn_v g) := by
    rw [List.map_cons, tn_map_congr hug ho2.tl]
    simp [tn_v, tn_gr, tn_ug, va_rf]
  rw [h10] at h9
  exact h9
theorem tn_anew (hΓ : tn_is Γ z) {n : Int32} {N t idx : Nat} {C : String} (hd : decode z.2.1 pc = .ok (.anewarray idx, 3)) (hcl : Cond.classLink z.1.cls idx C ∈ tn_tbl) (ht : (t = 0 ∧ C = "ThunderOwned$House") ∨ (t = 1 ∧ C = "ThunderOwned$Stone") ∨ (t = 2 ∧ C = "ThunderOwned$Sheet")) (hn0 : ¬ n < 0) (hN : n.toNatClampNeg = N) (hsm : N ≤ 1000) (hca : ca + 1 ≤ z.2.2.2.2.cells) (hsl : sl + N ≤ z.2.2.2.2.slots)
    (kk : tn_A Γ (pc + 3) loc (.ref (ks.length + 2) :: st) (ca + 1) (sl + N) (ks ++ [(t + 8, N)]) (tn_zr ρ (ks.length + 2)) (tn_zs σ (ks.length + 2))) : tn_A Γ pc loc (.int n :: st) ca sl ks ρ σ := by
  obtain ⟨⟨p, l, e, R, s, m, args, below, meth, c, Q⟩, D, cA, A, H0, g0, n0⟩ := Γ
  obtain ⟨hx, hb, hml, hown, hts, hK, hR, hrt, hlk, hnm, hA⟩ := hΓ
  intro g H locs ls hP hS hl ho1 ho2 hg hn
  have hAO : va_AO C s := by
    rcases ht with ⟨-, rfl⟩ | ⟨-, rfl⟩ | ⟨-, rfl⟩
    · exact hK.2.2.1
    · exact hK.2.2.2.1
    · exact hK.2.2.2.2
  refine va_newq (D := D) hx hb hown (hts _ hcl) hAO hK.1 hP.1 hP.2.1 hS hA hn0 hN (by omega) (by rw [hR]; exact hca) (by rw [hR]; exact hsl) hd (fun q cA' H1 h0 h1 h2 h3 => ?_)
  have hcc : cA' = cA (t + 1) := by
    rcases ht with ⟨rfl, rfl⟩ | ⟨rfl, rfl⟩ | ⟨rfl, rfl⟩
    · obtain ⟨_, _, _, _, _, q1⟩ := (h0.2 4 _ rfl).2
      obtain ⟨_, _, _, _, _, q2⟩ := (h0.2 1 _ rfl).2
      exact Option.some.inj (q1.symm.trans q2)
    · obtain ⟨_, _, _, _, _, q1⟩ := (h0.2 4 _ rfl).2
      obtain ⟨_, _, _, _, _, q2⟩ := (h0.2 2 _ rfl).2
      exact Option.some.inj (q1.symm.trans q2)
    · obtain ⟨_, _, _, _, _, q1⟩ := (h0.2 4 _ rfl).2
      obtain ⟨_, _, _, _, _, q2⟩ := (h0.2 3 _ rfl).2
      exact Option.some.inj (q1.symm.trans q2)
  subst hcc
  have e1 := tn_C_new (cA := cA) (g := g) (σ := σ) (q := q) (kk := (t + 8, N)) hP.2.2
  have e2 : tn_e cA (tn_ug g (ks.length + 2) q) (fun _ _ => 0) (fun _ _ => 0) (ks.length + 2) (t + 8, N) = .inl (cA (t + 1), N, .inr (.inr (.inr (.inr (fun _ => none))))) := by
    unfold tn_e
    rw [if_neg (by omega), if_neg (by omega)]
    rfl
  rw [e2] at e1
  rw [← e1] at h1 h2
  have hug := tn_ug_c (g := g) (n := ks.length) (q := q)
  have h9 := kk (tn_ug g (ks.length + 2) q) H1 locs ls ⟨h1, h2, by rw [List.length_append]; exact tn_zr_c hP.2.2⟩ h3 (tn_L.congr hug ho1 hl) (ho1.mono (by simp)) (tn_okL.cons (v := .ref (ks.length + 2)) (show _ < _ by simp) (ho2.tl.mono (by simp))) (fun x hx => by rw [hug x (by omega)]; exact hg x hx) (by simp; omega)
  have h10 : (Value.ref (ks.length + 2) :: st).map (tn_v (tn_ug g (ks.length + 2) q)) = .ref q :: st.map (tn_v g) := by
    rw [List.map_cons, tn_map_congr hug ho2.tl]
    simp [tn_v, tn_gr, tn_ug, va_rf]
  rw [h10] at h9
  exact h9
theorem tn_cats {st : List Value} {g : Nat → Nat} : ((st.map (tn_v g)).map fun v => v.category) = st.map fun v => v.category := by
  rw [List.map_map]
  apply List.map_congr_left
  intro v _
  cases v with
  | ref c => show (va_rf (tn_gr g c)).category = 1; cases tn_gr g c <;> rfl
  | _ => rfl
theorem tn_objInit (hΓ : tn_is Γ z) {idx x : Nat} (hd : decode z.2.1 pc = .ok (.invokespecial idx, 3)) (hlink : Cond.methodLink z.1.cls idx Lib.objectInit ∈ tn_tbl) (hinst : Cond.instanceMethod Lib.objectInit ∈ tn_tbl) (hcode : Cond.code Lib.objectInit ⟨#[0xb1]⟩ 1 none ∈ tn_tbl) (hx0 : 0 < x) (hfr : 1 ≤ z.2.2.2.2.frames) (hlo : (st.map fun v => v.category).sum + 12 ≤ z.2.2.2.2.locals)
    (kk : tn_A Γ (pc + 3) loc st ca sl ks ρ σ) : tn_A Γ pc loc (.ref x :: st) ca sl ks ρ σ := by
  obtain ⟨⟨p, l, e, R, s, m, args, below, meth, c, Q⟩, D, cA, A, H0, g0, n0⟩ := Γ
  obtain ⟨hx, hb, hml, hown, hts, hK, hR, hrt, hlk, hnm, hA⟩ := hΓ
  intro g H locs ls hP hS hl ho1 ho2 hg hn
  have h1 := kk g H locs ls hP hS hl ho1 ho2.tl hg hn
  show W p l e R s m args below meth c H locs ca sl Q (F0 m pc ls (va_rf (tn_gr g x) :: st.map (tn_v g)))
  rw [tn_gr2 hx0]
  refine W.objInit hx hb hown (hts _ hlink) (hts _ hinst) (hts _ hcode) rfl hl.1 rfl hd (by rw [hR]; exact hfr) ?_ h1
  show 2 * 0 + _ + 12 ≤ _
  rw [tn_cats, hR]
  omega
/-! calls -/
/-- what a callee's own words say; n: how many parameters -/
def tn_MV (y : tn_M) (n : Nat) : Prop := Cond.code y.1 y.2.1 y.2.2.1 y.2.2.2.1 ∈ tn_tbl ∧ Cond.initialized y.1.cls ∈ tn_tbl ∧ (y.1.cls ≠ "java/lang/invoke/MethodHandle" ∧ y.1.cls ≠ "java/lang/invoke/VarHandle" ∧ (parseMethodDescriptor y.1.desc).map (fun d => d.parameters.length) = some n) ∧ plainName y.1.cls = true
def tn_ML (own : String) (idx : Nat) (y : MethodName) : Prop := Cond.methodLink own idx y ∈ tn_tbl ∨ ∃ host, Cond.methodLinkNest own idx y host ∈ tn_nst
def tn_RM (z y : tn_M) (ca sl : Nat) : Prop := (y.2.2.2.2.frames + 1 ≤ z.2.2.2.2.frames ∧ 8 + (y.2.2.1 + 11) + y.2.2.2.2.locals ≤ z.2.2.2.2.locals) ∧ ca + y.2.2.2.2.cells ≤ z.2.2.2.2.cells ∧ sl + y.2.2.2.2.slots ≤ z.2.2.2.2.slots
theorem tn_gin (z : tn_M) {y : tn_M} {n : Nat} (hy : tn_MV y n) : GoodIn (tn_tbl) (tn_ws y) := by
  intro w hw
  have hw : w ∈ tn_tbl := by
    rcases List.mem_cons.mp hw with h | h
    · rw [h]; exact hy.1
    · exact h
  exact ⟨hw, good_of_word (List.mem_filter.mp hw).2⟩
theorem tn_blind {D : va_G} {cA : Nat → ClassId} {g : Nat → Nat} {sz : Nat} {As : List Value} : FrameBlind (va_Pc (As.map (tn_v g)) (fun U => U.heap.size = sz ∧ tn_P D cA (fun _ => True) g ks ρ σ U.heap ∧ tn_K D cA U)) :=
  fun a U g mk q => ⟨q.1, q.2.1, q.2.2.1, q.2.2.2.call⟩
theorem tn_P.any {D : va_G} {cA : Nat → ClassId} {A : Nat → Prop} {g : Nat → Nat} {H : Heap} (h : tn_P D cA A g ks ρ σ H) : tn_P D cA (fun _ => True) g ks ρ σ H := ⟨h.1, h.2.1.weaken (fun _ _ _ _ => trivial), h.2.2⟩
/-- behind a call -/
theorem tn_after {p : Program} {l : Launch} {e : Env} {R : Room} {s : State} {m : MethodId} {args : Array Value} {below : List Frame} {meth : Method} {c : Code} {Q : State → Prop} {D : va_G} {cA : Nat → ClassId} {A : Nat → Prop} {H0 : Heap} {g0 : Nat → Nat} {n0 : Nat} {mc ms : Nat} {g : Nat → Nat} {H : Heap} {locs : List Loc} {ls : Array Slot} {st0 : List Value} {a : Array Value}
    {K : Option Value → List (Nat × Nat) → (Nat → Nat → Nat) → (Nat → Nat → Int32) → Prop} (hA : ∀ q, H0.size ≤ q → A q) (hP : tn_P D cA A g ks ρ σ H) (hS : va_S A H0 H locs) (hl : tn_L g loc ls c.maxLocals) (ho1 : tn_okL ks.length loc) (ho2 : tn_okL ks.length st) (hg : ∀ q, q < n0 + 2 → g q = g0 q) (hn : n0 ≤ ks.length)
    (hr : va_Run p l e R s m args below meth c H locs ca sl mc ms (F0 m pc ls st0) (st.map (tn_v g)) (tn_Qc D cA (va_A (tn_C cA g ks ρ σ) H.size) g ks.length K a) (va_A (tn_C cA g ks ρ σ) H.size))
    (kk : ∀ (v : Option Value) (ks' : List (Nat × Nat)) (ρ' : Nat → Nat → Nat) (σ' : Nat → Nat → Int32), K v ks' ρ' σ' → tn_A ((p, l, e, R, s, m, args, below, meth, c, Q), D, cA, A, H0, g0, n0) (pc + 3) loc (v.toList ++ st) (ca + mc) (sl + ms) ks' ρ' σ') :
    W p l e R s m args below meth c H locs ca sl Q (F0 m pc ls st0) := by
  have hF : ∀ q, va_A (tn_C cA g ks ρ σ) H.size q → A q := by
    intro q h
    rcases h with ⟨k, x, h⟩ | h
    · exact hP.2.1.2 k _ h
    · exact hA q (Nat.le_trans hS.1 h)
  intro T hT X
  obtain ⟨v, st₀, t, T', L, h0, X', hL, e1, e2, ⟨⟨v', g', ks', ρ', σ', hv, hnr, hq, hg', hn', hP'⟩, hz, hk⟩, stp⟩ := hr T hT X
  cases hv
  rw [h0] at hz hk
  have hS' : va_S A H0 T'.heap (locs ++ L) := ⟨Nat.le_trans hS.1 (by rw [e1]; exact hz), fun q h1 h2 => by rw [e1, hk q (Nat.lt_of_lt_of_le h1 hS.1) (fun z => h2 (hF q z))]; exact hS.2.1 q h1 h2, fun q hq => by
      rcases List.mem_append.mp hq with h | h
      · exact hS.2.2 q h
      · exact hF _ (hL q h)⟩
  have hP2 : tn_P D cA A g' ks' ρ' σ' T'.heap := by
    rw [e1]
    exact ⟨hP'.1, hP'.2.1.weaken (fun _ _ _ h => hF _ h), hP'.2.2⟩
  have hvok : tn_okL ks'.length (v.toList ++ st) := by
    intro w hw
    rcases List.mem_append.mp hw with h | h
    · cases v with
      | none => cases h
      | some u =>
        have : w = u := by simpa using h
        subst this
        cases w with
        | ref q => exact absurd rfl (hnr q)
        | _ => trivial
    · exact (ho2 w h).mono hn'
  have h9 := kk v ks' ρ' σ' hq g' T'.heap (locs ++ L) ls hP2 hS' (tn_L.congr hg' ho1 hl) (ho1.mono hn') hvok (fun q hq => by rw [hg' q (by omega)]; exact hg q hq) (Nat.le_trans hn hn')
  have h10 : (v.toList ++ st).map (tn_v g') = v.toList ++ st.map (tn_v g) := by
    rw [List.map_append, tn_map_congr hg' ho2]
    congr 1
    cases v with
    | none => rfl
    | some u =>
      cases u with
      | ref q => exact absurd rfl (hnr q)
      | _ => rfl
  rw [h10] at h9
  obtain ⟨t2, a1, b1⟩ := h9 T' rfl X'
  exact ⟨t2, stp t2 a1, b1⟩
variable {y : tn_M} {As : List Value} {K : Option Value → List (Nat × Nat) → (Nat → Nat → Nat) → (Nat → Nat → Int32) → Prop}
theorem tn_cB {R : Room} {s : State} {args : Array Value} {n idx : Nat} {own : String} (hts : ∀ w ∈ tn_tbl, w.before args s = true) (hR : R = z.2.2.2.2) (hy : tn_MV y n) (hl : Cond.methodLink own idx y.1 ∈ tn_tbl) (hrm : tn_RM z y ca sl) : CallB R s args own idx y.1 y.2.1 y.2.2.1 y.2.2.2.1 (tn_ws y) y.2.2.2.2 y.2.2.2.2.cells y.2.2.2.2.slots n :=
  callB_of n hts (tn_gin z hy) rfl rfl rfl (hts _ hy.2.1) (hts _ hl) hy.2.2.1 (by rw [hR]; exact hrm.1)
theorem tn_cN {R : Room} {s : State} {args : Array Value} {n idx : Nat} {own host : String} {D : va_G} {cA : Nat → ClassId} (hts : ∀ w ∈ tn_tbl, w.before args s = true) (hK : tn_K D cA s) (hR : R = z.2.2.2.2) (hy : tn_MV y n) (hl : Cond.methodLinkNest own idx y.1 host ∈ tn_nst) (hrm : tn_RM z y ca sl) : va_CN R s args own idx y.1 host y.2.1 y.2.2.1 y.2.2.2.1 (tn_ws y) y.2.2.2.2 y.2.2.2.2.cells y.2.2.2.2.slots n :=
  va_cnB n hts (tn_gin z hy) rfl rfl rfl (hK.2.1 _ hl) (hts _ hy.2.1) hy.2.2.1 (by rw [hR]; exact hrm.1)
theorem tn_rmf {R : Room} (hR : R = z.2.2.2.2) (hrm : tn_RM z y ca sl) : ca + y.2.2.2.2.cells ≤ R.cells ∧ sl + y.2.2.2.2.slots ≤ R.slots := by rw [hR]; exact hrm.2
theorem tn_W8 {m : MethodId} {ls : Array Slot} {g : Nat → Nat} {rest : List Value} (h : (st.map fun v => v.category).sum ≤ 8) : 2 * (F0 m pc ls rest).monitorRoom + ((st.map (tn_v g)).map fun v => v.category).sum ≤ 8 := by
  rw [tn_cats]
  show 2 * 0 + _ ≤ 8
  omega
/-- invokevirtual -/
theorem tn_cv (hΓ : tn_is Γ z) {idx n x i n' : Nat} (hd : decode z.2.1 pc = .ok (.invokevirtual idx, 3)) (hy : tn_MV y n) (hin : Cond.instanceMethod y.1 ∈ tn_tbl) (hse : Cond.selects y.1.cls y.1 y.1 ∈ tn_tbl) (hlk0 : tn_ML z.1.cls idx y.1) (hrm : tn_RM z y ca sl) (hlen : As.length = n) (hi7 : i < 7) (hci : ∃ T, tn_cl[i]? = some (y.1.cls, T, tn_N i)) (hk : tn_kd ks x = some (i, n')) (h8 : (st.map fun v => v.category).sum ≤ 8)
    (h : tn_Call y (.ref x :: As) ks ρ σ K) (kk : ∀ (v : Option Value) (ks' : List (Nat × Nat)) (ρ' : Nat → Nat → Nat) (σ' : Nat → Nat → Int32), K v ks' ρ' σ' → tn_A Γ (pc + 3) loc (v.toList ++ st) (ca + y.2.2.2.2.cells) (sl + y.2.2.2.2.slots) ks' ρ' σ') : tn_A Γ pc loc (As.reverse ++ .ref x :: st) ca sl ks ρ σ := by
  obtain ⟨⟨p, l, e, R, s, m, args, below, meth, c, Q⟩, D, cA, A, H0, g0, n0⟩ := Γ
  obtain ⟨hx, hb, hml, hown, hts, hK, hR, hrt, hlk, hnm, hA⟩ := hΓ
  intro g H locs ls hP hS hl ho1 ho2 hg hn
  obtain ⟨T, hci⟩ := hci
  have hx2 := (tn_kd2 hk).1
  have he := tn_at (cA := cA) (g := g) (ρ := ρ) (σ := σ) hk
  have he : (tn_C cA g ks ρ σ)[x - 2]? = some (g x, .inr (i, tn_fs i g ρ σ x)) := by rw [he]; simp [tn_e, hi7]
  have hoA : tn_okL ks.length (.ref x :: As) := by
    intro w hw
    rcases List.mem_cons.mp hw with h1 | h1
    · exact ho2 w (by simp [h1])
    · exact ho2 w (by simp [h1])
  have hoS : tn_okL ks.length st := fun w hw => ho2 w (by simp [hw])
  have hM := h l D cA g H.size hoA
  have hav : (Value.ref x :: As).map (tn_v g) = .ref (g x) :: As.map (tn_v g) := by
    rw [List.map_cons]
    show va_rf (tn_gr g x) :: _ = _
    rw [tn_gr2 (by omega)]
    rfl
  have hstk : (As.reverse ++ .ref x :: st).map (tn_v g) = (As.map (tn_v g)).reverse ++ .ref (g x) :: st.map (tn_v g) := by
    rw [List.map_append, List.map_reverse, List.map_cons]
    show _ ++ va_rf (tn_gr g x) :: _ = _
    rw [tn_gr2 (by omega)]
    rfl
  have hpre : PreV s H y.1.cls (g x) (va_Pc ((Value.ref x :: As).map (tn_v g)) (fun U => U.heap.size = H.size ∧ tn_P D cA (fun _ => True) g ks ρ σ U.heap ∧ tn_K D cA U)) (As.map (tn_v g)) :=
    ⟨tn_blind, va_recv hK.1 hP.1 hci he, fun U hU hW => ⟨by rw [hav], by rw [hU], by rw [hU]; exact hP.any, hK.warm hW⟩⟩
  rcases hlk0 with h1 | ⟨host, h1⟩
  · have hrun := va_runV (e := e) (R := R) (below := below) (meth := meth) (locs := locs) (cells := ca) (slots := sl) (g := F0 m pc ls ((As.reverse ++ .ref x :: st).map (tn_v g))) (rest := st.map (tn_v g)) ⟨hx, hb, hml, hown, hts⟩ hM ⟨tn_cB hts hR hy h1 hrm, hts _ hin, hts _ hse⟩ hpre rfl (by simp [hlen]) (hl.1.trans hml) hstk (tn_W8 h8) hd (tn_rmf hR hrm)
    exact tn_after hA hP hS hl ho1 hoS hg hn hrun kk
  · have hrun := va_runVN (e := e) (R := R) (below := below) (meth := meth) (locs := locs) (cells := ca) (slots := sl) (g := F0 m pc ls ((As.reverse ++ .ref x :: st).map (tn_v g))) (rest := st.map (tn_v g)) ⟨hx, hb, hml, hown, hts⟩ hM ⟨tn_cN hts hK hR hy h1 hrm, hts _ hin, hts _ hse⟩ hpre rfl (by simp [hlen]) (hl.1.trans hml) hstk (tn_W8 h8) hd (tn_rmf hR hrm)
    exact tn_after hA hP hS hl ho1 hoS hg hn hrun kk
/-- invokestatic -/
theorem tn_cs (hΓ : tn_is Γ z) {idx n : Nat} (hd : decode z.2.1 pc = .ok (.invokestatic idx, 3)) (hy : tn_MV y n) (hst : Cond.static y.1 ∈ tn_tbl) (hlk0 : tn_ML z.1.cls idx y.1) (hrm : tn_RM z y ca sl) (hlen : As.length = n) (h8 : (st.map fun v => v.category).sum ≤ 8)
    (h : tn_Call y As ks ρ σ K) (kk : ∀ (v : Option Value) (ks' : List (Nat × Nat)) (ρ' : Nat → Nat → Nat) (σ' : Nat → Nat → Int32), K v ks' ρ' σ' → tn_A Γ (pc + 3) loc (v.toList ++ st) (ca + y.2.2.2.2.cells) (sl + y.2.2.2.2.slots) ks' ρ' σ') : tn_A Γ pc loc (As.reverse ++ st) ca sl ks ρ σ := by
  obtain ⟨⟨p, l, e, R, s, m, args, below, meth, c, Q⟩, D, cA, A, H0, g0, n0⟩ := Γ
  obtain ⟨hx, hb, hml, hown, hts, hK, hR, hrt, hlk, hnm, hA⟩ := hΓ
  intro g H locs ls hP hS hl ho1 ho2 hg hn
  have hoA : tn_okL ks.length As := fun w hw => ho2 w (by simp [hw])
  have hoS : tn_okL ks.length st := fun w hw => ho2 w (by simp [hw])
  have hM := h l D cA g H.size hoA
  have hstk : (As.reverse ++ st).map (tn_v g) = (As.map (tn_v g)).reverse ++ st.map (tn_v g) := by
    rw [List.map_append, List.map_reverse]
  have hpre : PreS s H (va_Pc (As.map (tn_v g)) (fun U => U.heap.size = H.size ∧ tn_P D cA (fun _ => True) g ks ρ σ U.heap ∧ tn_K D cA U)) (As.map (tn_v g)) :=
    ⟨tn_blind, fun U hU hW => ⟨rfl, by rw [hU], by rw [hU]; exact hP.any, hK.warm hW⟩⟩
  rcases hlk0 with h1 | ⟨host, h1⟩
  · have hrun := va_runS (e := e) (R := R) (below := below) (meth := meth) (locs := locs) (cells := ca) (slots := sl) (g := F0 m pc ls ((As.reverse ++ st).map (tn_v g))) (rest := st.map (tn_v g)) ⟨hx, hb, hml, hown, hts⟩ hM ⟨tn_cB hts hR hy h1 hrm, hts _ hst⟩ hpre rfl (by simp [hlen]) (hl.1.trans hml) hstk (tn_W8 h8) hd (tn_rmf hR hrm)
    exact tn_after hA hP hS hl ho1 hoS hg hn hrun kk
  · have hrun := va_runSN (e := e) (R := R) (below := below) (meth := meth) (locs := locs) (cells := ca) (slots := sl) (g := F0 m pc ls ((As.reverse ++ st).map (tn_v g))) (rest := st.map (tn_v g)) ⟨hx, hb, hml, hown, hts⟩ hM ⟨tn_cN hts hK hR hy h1 hrm, hts _ hst, trivial⟩ hpre rfl (by simp [hlen]) (hl.1.trans hml) hstk (tn_W8 h8) hd (tn_rmf hR hrm)
    exact tn_after hA hP hS hl ho1 hoS hg hn hrun kk
/-- invokespecial of a constructor -/
theorem tn_ci (hΓ : tn_is Γ z) {idx n x : Nat} (hd : decode z.2.1 pc = .ok (.invokespecial idx, 3)) (hy : tn_MV y n) (hin : Cond.instanceMethod y.1 ∈ tn_tbl) (hnm0 : y.1.name = "<init>") (hret : y.2.2.2.1 = none) (hlk0 : tn_ML z.1.cls idx y.1) (hrm : tn_RM z y ca sl) (hlen : As.length = n) (hx0 : 0 < x) (h8 : (st.map fun v => v.category).sum ≤ 8)
    (h : tn_Call y (.ref x :: As) ks ρ σ K) (kk : ∀ (v : Option Value) (ks' : List (Nat × Nat)) (ρ' : Nat → Nat → Nat) (σ' : Nat → Nat → Int32), K v ks' ρ' σ' → tn_A Γ (pc + 3) loc (v.toList ++ st) (ca + y.2.2.2.2.cells) (sl + y.2.2.2.2.slots) ks' ρ' σ') : tn_A Γ pc loc (As.reverse ++ .ref x :: st) ca sl ks ρ σ := by
  obtain ⟨⟨p, l, e, R, s, m, args, below, meth, c, Q⟩, D, cA, A, H0, g0, n0⟩ := Γ
  obtain ⟨hx, hb, hml, hown, hts, hK, hR, hrt, hlk, hnm, hA⟩ := hΓ
  intro g H locs ls hP hS hl ho1 ho2 hg hn
  have hoA : tn_okL ks.length (.ref x :: As) := by
    intro w hw
    rcases List.mem_cons.mp hw with h1 | h1
    · exact ho2 w (by simp [h1])
    · exact ho2 w (by simp [h1])
  have hoS : tn_okL ks.length st := fun w hw => ho2 w (by simp [hw])
  have hM := h l D cA g H.size hoA
  have hav : (Value.ref x :: As).map (tn_v g) = .ref (g x) :: As.map (tn_v g) := by
    rw [List.map_cons]
    show va_rf (tn_gr g x) :: _ = _
    rw [tn_gr2 hx0]
    rfl
  have hstk : (As.reverse ++ .ref x :: st).map (tn_v g) = (As.map (tn_v g)).reverse ++ .ref (g x) :: st.map (tn_v g) := by
    rw [List.map_append, List.map_reverse, List.map_cons]
    show _ ++ va_rf (tn_gr g x) :: _ = _
    rw [tn_gr2 hx0]
    rfl
  have hpre : PreS s H (va_Pc ((Value.ref x :: As).map (tn_v g)) (fun U => U.heap.size = H.size ∧ tn_P D cA (fun _ => True) g ks ρ σ U.heap ∧ tn_K D cA U)) (.ref (g x) :: As.map (tn_v g)) :=
    ⟨tn_blind, fun U hU hW => ⟨by rw [hav], by rw [hU], by rw [hU]; exact hP.any, hK.warm hW⟩⟩
  rcases hlk0 with h1 | ⟨host, h1⟩
  · have hB := tn_cB (ca := ca) (sl := sl) hts hR hy h1 hrm
    rw [hret] at hB
    have hrun := va_runI (e := e) (R := R) (below := below) (meth := meth) (locs := locs) (cells := ca) (slots := sl) (g := F0 m pc ls ((As.reverse ++ .ref x :: st).map (tn_v g))) (rest := st.map (tn_v g)) ⟨hx, hb, hml, hown, hts⟩ hM ⟨hB, hnm0, hts _ hin⟩ hpre rfl (by simp [hlen]) (hl.1.trans hml) hstk (tn_W8 h8) hd (tn_rmf hR hrm)
    exact tn_after hA hP hS hl ho1 hoS hg hn hrun kk
  · have hB := tn_cN (ca := ca) (sl := sl) hts hK hR hy h1 hrm
    rw [hret] at hB
    have hrun := va_runIN (e := e) (R := R) (below := below) (meth := meth) (locs := locs) (cells := ca) (slots := sl) (g := F0 m pc ls ((As.reverse ++ .ref x :: st).map (tn_v g))) (rest := st.map (tn_v g)) ⟨hx, hb, hml, hown, hts⟩ hM ⟨hB, hnm0, hts _ hin⟩ hpre rfl (by simp [hlen]) (hl.1.trans hml) hstk (tn_W8 h8) hd (tn_rmf hR hrm)
    exact tn_after hA hP hS hl ho1 hoS hg hn hrun kk
/-! returns -/
theorem tn_ret_i (hΓ : tn_is Γ z) (hK : tn_rt Γ z K) {x : Int32} (hd : decode z.2.1 pc = .ok (.ireturn, 1)) (hr : z.2.2.2.1 = some .int) (h1 : ca ≤ z.2.2.2.2.cells) (h2 : sl ≤ z.2.2.2.2.slots) (h : K (some (.int x)) ks ρ σ) : tn_A Γ pc loc [.int x] ca sl ks ρ σ := by
  obtain ⟨⟨p, l, e, R, s, m, args, below, meth, c, Q⟩, D, cA, A, H0, g0, n0⟩ := Γ
  obtain ⟨hx, hb, hml, hown, hts, hKK, hR, hrt, hlk, hnm, hA⟩ := hΓ
  obtain ⟨hH, hQ⟩ := hK
  subst hQ
  subst hH
  intro g H locs ls hP hS hl ho1 ho2 hg hn
  refine W.widen h1 h2 ?_
  exact W.iret hx hb (hrt.trans hr) (fun t ht hW => ⟨⟨some (.int x), g, ks, ρ, σ, rfl, (fun c q => by cases q), h, hg, hn, by rw [ht]; exact hP⟩, hS.F ht⟩) hS.2.2 hd
theorem tn_ret_z (hΓ : tn_is Γ z) (hK : tn_rt Γ z K) {x : Int32} (hd : decode z.2.1 pc = .ok (.ireturn, 1)) (hr : z.2.2.2.1 = some .boolean) (h1 : ca ≤ z.2.2.2.2.cells) (h2 : sl ≤ z.2.2.2.2.slots) (hx01 : x = 0 ∨ x = 1) (h : K (some (.int x)) ks ρ σ) : tn_A Γ pc loc [.int x] ca sl ks ρ σ := by
  obtain ⟨⟨p, l, e, R, s, m, args, below, meth, c, Q⟩, D, cA, A, H0, g0, n0⟩ := Γ
  obtain ⟨hx, hb, hml, hown, hts, hKK, hR, hrt, hlk, hnm, hA⟩ := hΓ
  obtain ⟨hH, hQ⟩ := hK
  subst hQ
  subst hH
  intro g H locs ls hP hS hl ho1 ho2 hg hn
  refine W.widen h1 h2 ?_
  exact W.zret hx hb (hrt.trans hr) (by rcases hx01 with rfl | rfl <;> rfl) (fun t ht hW => ⟨⟨some (.int x), g, ks, ρ, σ, rfl, (fun c q => by cases q), h, hg, hn, by rw [ht]; exact hP⟩, hS.F ht⟩) hS.2.2 hd
theorem tn_ret_l (hΓ : tn_is Γ z) (hK : tn_rt Γ z K) {x : Int64} (hd : decode z.2.1 pc = .ok (.lreturn, 1)) (hr : z.2.2.2.1 = some .long) (h1 : ca ≤ z.2.2.2.2.cells) (h2 : sl ≤ z.2.2.2.2.slots) (h : K (some (.long x)) ks ρ σ) : tn_A Γ pc loc [.long x] ca sl ks ρ σ := by
  obtain ⟨⟨p, l, e, R, s, m, args, below, meth, c, Q⟩, D, cA, A, H0, g0, n0⟩ := Γ
  obtain ⟨hx, hb, hml, hown, hts, hKK, hR, hrt, hlk, hnm, hA⟩ := hΓ
  obtain ⟨hH, hQ⟩ := hK
  subst hQ
  subst hH
  intro g H locs ls hP hS hl ho1 ho2 hg hn
  refine W.widen h1 h2 ?_
  exact W.lret hx hb (hrt.trans hr) (fun t ht hW => ⟨⟨some (.long x), g, ks, ρ, σ, rfl, (fun c q => by cases q), h, hg, hn, by rw [ht]; exact hP⟩, hS.F ht⟩) hS.2.2 hd
theorem tn_ret_v (hΓ : tn_is Γ z) (hK : tn_rt Γ z K) (hd : decode z.2.1 pc = .ok (.return_, 1)) (hr : z.2.2.2.1 = none) (h1 : ca ≤ z.2.2.2.2.cells) (h2 : sl ≤ z.2.2.2.2.slots) (h : K none ks ρ σ) : tn_A Γ pc loc [] ca sl ks ρ σ := by
  obtain ⟨⟨p, l, e, R, s, m, args, below, meth, c, Q⟩, D, cA, A, H0, g0, n0⟩ := Γ
  obtain ⟨hx, hb, hml, hown, hts, hKK, hR, hrt, hlk, hnm, hA⟩ := hΓ
  obtain ⟨hH, hQ⟩ := hK
  subst hQ
  subst hH
  intro g H locs ls hP hS hl ho1 ho2 hg hn
  refine W.widen h1 h2 ?_
  exact W.vret hx hb (hrt.trans hr) (fun t ht hW => ⟨⟨none, g, ks, ρ, σ, rfl, (fun c q => by cases q), h, hg, hn, by rw [ht]; exact hP⟩, hS.F ht⟩) hS.2.2 hd
/-! a contract out of a walk -/
def tn_ini (As : List Value) (nL : Nat) : List Value := let l := As.flatMap (fun v => if v.category = 2 then [v, .null] else [v]); l ++ List.replicate (nL - l.length) .null
theorem tn_v_cat {g : Nat → Nat} {v : Value} : (tn_v g v).category = v.category := by
  cases v with
  | ref c => show (va_rf (tn_gr g c)).category = 1; cases tn_gr g c <;> rfl
  | _ => rfl
theorem tn_ini_mem {g : Nat → Nat} : ∀ (As : List Value) (i j : Nat) (v : Value), (As.flatMap (fun v => if v.category = 2 then [v, .null] else [v]))[i]? = some v → v ≠ .null → (i + j, tn_v g v) ∈ lv_args j (As.map (tn_v g))
  | [], i, j, v, h, hn => by simp at h
  | a :: As, i, j, v, h, hn => by
    rw [List.map_cons, lv_args, tn_v_cat]
    by_cases hc : a.category = 2
    · rw [if_pos hc]
      rw [List.flatMap_cons, if_pos hc] at h
      match i, h with
      | 0, h =>
        have : a = v := by simpa using h
        subst this
        rw [Nat.zero_add]
        exact List.mem_cons_self
      | 1, h =>
        have : Value.null = v := by simpa using h
        exact absurd this.symm hn
      | i + 2, h =>
        have h1 : (As.flatMap (fun v => if v.category = 2 then [v, Value.null] else [v]))[i]? = some v := by simpa using h
        have h2 := tn_ini_mem (g := g) As i (j + 2) v h1 hn
        rw [show i + 2 + j = i + (j + 2) by omega]
        exact List.mem_cons_of_mem _ h2
    · rw [if_neg hc]
      rw [List.flatMap_cons, if_neg hc] at h
      match i, h with
      | 0, h =>
        have : a = v := by simpa using h
        subst this
        rw [Nat.zero_add]
        exact List.mem_cons_self
      | i + 1, h =>
        have h1 : (As.flatMap (fun v => if v.category = 2 then [v, Value.null] else [v]))[i]? = some v := by simpa using h
        have h2 := tn_ini_mem (g := g) As i (j + 1) v h1 hn
        rw [show i + 1 + j = i + (j + 1) by omega]
        exact List.mem_cons_of_mem _ h2
theorem tn_sl_len {g : Nat → Nat} : ∀ As : List Value, (lg_sl (As.map (tn_v g))).length = (As.flatMap (fun v => if v.category = 2 then [v, .null] else [v])).length
  | [] => rfl
  | a :: As => by
    have ih := tn_sl_len (g := g) As
    unfold lg_sl at ih ⊢
    rw [List.map_cons, List.flatMap_cons, List.flatMap_cons, List.length_append, List.length_append, ih, tn_v_cat]
    congr 1
    split <;> rfl
theorem tn_intro (hpl : plainName z.1.cls = true) (hlen : (As.flatMap (fun v => if v.category = 2 then [v, .null] else [v])).length ≤ z.2.2.1) (body : ∀ Γ : tn_G, tn_is Γ z → tn_rt Γ z K → tn_A Γ 0 (tn_ini As z.2.2.1) [] 0 0 ks ρ σ) : tn_Call z As ks ρ σ K := by
  intro l D cA g sz hoA
  refine Met.ofW (cc := z.2.1) (maxL := z.2.2.1) (ret := z.2.2.2.1) hpl rfl ?_
  intro p e s m args below meth c s₁ B hml hv
  obtain ⟨rfl, hsz, hP, hKK⟩ := hv
  have hts := atoms_spec (ws := tn_ws z) B.pre
  subst hsz
  have hD := hP.2.1.self (sz := s.heap.size)
  have hb := body ((p, l, e, z.2.2.2.2, s, m, (As.map (tn_v g)).toArray, below, meth, c, MQ below (tn_Qc D cA (va_A (tn_C cA g ks ρ σ) s.heap.size) g ks.length K) (As.map (tn_v g)).toArray s z.2.2.2.2.cells z.2.2.2.2.slots (va_A (tn_C cA g ks ρ σ) s.heap.size)), D, cA, va_A (tn_C cA g ks ρ σ) s.heap.size, s.heap, g, ks.length)
    ⟨B.exec, B.bytes, hml, findClass_of_methodNamed B.named, fun w hw => hts w (List.mem_cons_of_mem _ hw), hKK, rfl, B.returns, B.notSynchronized, fun _ => (name_of_methodNamed B.named B.method).1, fun q h => Or.inr h⟩ ⟨rfl, rfl⟩
  rw [lg_entry_eq]
  have hle := tn_sl_len (g := g) As
  have hl := lv_entry (As.map (tn_v g)) (n := z.2.2.1) (by rw [hle]; exact hlen)
  refine hb g s.heap [] _ ⟨hP.1, hD, hP.2.2⟩ va_S.rf ?_ ?_ (fun v hv => by cases hv) (fun _ _ => rfl) (Nat.le_refl _)
  · rw [hml]
    refine ⟨hl.1, hl.2.1, fun i v hi hn => ?_⟩
    unfold tn_ini at hi
    simp only at hi
    by_cases hil : i < (As.flatMap (fun v => if v.category = 2 then [v, .null] else [v])).length
    · rw [List.getElem?_append_left hil] at hi
      exact hl.2.2 _ (tn_ini_mem As i 0 v hi hn)
    · rw [List.getElem?_append_right (by omega)] at hi
      exact absurd (List.eq_of_mem_replicate (List.mem_of_getElem? hi)) hn
  · intro v hv
    unfold tn_ini at hv
    simp only at hv
    rcases List.mem_append.mp hv with h | h
    · obtain ⟨w, hw, hv2⟩ := List.mem_flatMap.mp h
      split at hv2
      · rcases List.mem_cons.mp hv2 with h2 | h2
        · rw [h2]; exact hoA w hw
        · rw [List.mem_singleton.mp h2]; trivial
      · rw [List.mem_singleton.mp hv2]; exact hoA w hw
    · rw [List.eq_of_mem_replicate h]; trivial
end TC
