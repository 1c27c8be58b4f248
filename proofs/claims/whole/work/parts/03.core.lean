/-! ===== the abstract world: cells by codes (0 null, 1 the script, n + 2 the n-th cell), ints and references apart ===== -/
/-- a method: name, code, locals, what it returns, room -/
abbrev tn_M : Type := MethodName × ByteArray × Nat × Option FieldType × Room
/-- what a walk stands in -/
abbrev tn_G : Type := (Program × Launch × Env × Room × State × MethodId × Array Value × List Frame × Method × Code × (State → Prop)) × va_G × (Nat → ClassId) × (Nat → Prop) × Heap × (Nat → Nat) × Nat
def tn_gr (g : Nat → Nat) (c : Nat) : Option Nat := if c = 0 then none else some (g c)
def tn_v (g : Nat → Nat) (v : Value) : Value := match v with
  | .ref c => va_rf (tn_gr g c)
  | .int x => .int x
  | .long x => .long x
  | w => w
def tn_ok (n : Nat) (v : Value) : Prop := match v with
  | .ref c => c < n + 2
  | _ => True
def tn_fs (i : Nat) (g : Nat → Nat) (ρ : Nat → Nat → Nat) (σ : Nat → Nat → Int32) (c : Nat) : List Value := (List.range (tn_N i)).map (fun j => if tn_isR i j = true then va_rf (tn_gr g (ρ c j)) else .int (σ c j))
def tn_e (cA : Nat → ClassId) (g : Nat → Nat) (ρ : Nat → Nat → Nat) (σ : Nat → Nat → Int32) (c : Nat) (k : Nat × Nat) : va_E :=
  if k.1 < 7 then .inr (k.1, tn_fs k.1 g ρ σ c) else if k.1 = 7 then .inl (cA 0, k.2, .inl (σ c)) else .inl (cA (k.1 - 7), k.2, .inr (.inr (.inr (.inr (fun j => tn_gr g (ρ c j))))))
def tn_c (cA : Nat → ClassId) (g : Nat → Nat) (ρ : Nat → Nat → Nat) (σ : Nat → Nat → Int32) (i : Nat) (k : Nat × Nat) : Nat × va_E := (g (i + 2), tn_e cA g ρ σ (i + 2) k)
def tn_C (cA : Nat → ClassId) (g : Nat → Nat) (ks : List (Nat × Nat)) (ρ : Nat → Nat → Nat) (σ : Nat → Nat → Int32) : va_W := ks.mapIdx (tn_c cA g ρ σ)
def tn_kd (ks : List (Nat × Nat)) (c : Nat) : Option (Nat × Nat) := if c < 2 then none else ks[c - 2]?
abbrev tn_tys (cA : Nat → ClassId) : List (ClassId × FieldType) := [(cA 0, .int), (cA 1, .object "ThunderOwned$House"), (cA 2, .object "ThunderOwned$Stone"), (cA 3, .object "ThunderOwned$Sheet")]
/-- what the tables say, carried along -/
def tn_K (D : va_G) (cA : Nat → ClassId) (U : State) : Prop := va_K D tn_cl (tn_tys cA) U ∧ (∀ w ∈ tn_nst, va_Nw w U) ∧ va_AO "ThunderOwned$House" U ∧ va_AO "ThunderOwned$Stone" U ∧ va_AO "ThunderOwned$Sheet" U
def tn_P (D : va_G) (cA : Nat → ClassId) (A : Nat → Prop) (g : Nat → Nat) (ks : List (Nat × Nat)) (ρ : Nat → Nat → Nat) (σ : Nat → Nat → Int32) (H : Heap) : Prop :=
  va_P D tn_cl (tn_C cA g ks ρ σ) H ∧ va_D A (tn_C cA g ks ρ σ) ∧ ∀ c k, ρ c k < ks.length + 2
def tn_L (g : Nat → Nat) (loc : List Value) (ls : Array Slot) (nL : Nat) : Prop := ls.size = nL ∧ lv_wf ls ∧ ∀ (i : Nat) (v : Value), loc[i]? = some v → v ≠ .null → ls[i]? = some (.val (tn_v g v))
def tn_okL (n : Nat) (l : List Value) : Prop := ∀ v ∈ l, tn_ok n v
/-- THE JUDGEMENT: from every heap that holds the cells, the machine at pc comes to its end -/
def tn_A (Γ : tn_G) (pc : Nat) (loc st : List Value) (ca sl : Nat) (ks : List (Nat × Nat)) (ρ : Nat → Nat → Nat) (σ : Nat → Nat → Int32) : Prop :=
  match Γ with
  | ⟨⟨p, l, e, R, s, m, args, below, meth, c, Q⟩, D, cA, A, H0, g0, n0⟩ => ∀ (g : Nat → Nat) (H : Heap) (locs : List Loc) (ls : Array Slot), tn_P D cA A g ks ρ σ H → va_S A H0 H locs → tn_L g loc ls c.maxLocals → tn_okL ks.length loc → tn_okL ks.length st → (∀ q, q < n0 + 2 → g q = g0 q) → n0 ≤ ks.length →
    W p l e R s m args below meth c H locs ca sl Q (F0 m pc ls (st.map (tn_v g)))
/-- what holds in the body of the method z -/
def tn_is (Γ : tn_G) (z : tn_M) : Prop := match Γ with
  | ⟨⟨p, l, e, R, s, m, args, below, meth, c, Q⟩, D, cA, A, H0, g0, n0⟩ => p.tables.exec = Jvm.exec ∧ c.code = z.2.1 ∧ c.maxLocals = z.2.2.1 ∧ s.vm.findClass z.1.cls = some m.cls ∧ (∀ w ∈ tn_tbl, w.before args s = true) ∧ tn_K D cA s ∧ R = z.2.2.2.2 ∧ meth.sig.returnType = z.2.2.2.1 ∧ meth.locks = false ∧ (z.1.name = "<init>" → meth.name = z.1.name) ∧ (∀ q, H0.size ≤ q → A q)
def tn_Qc (D : va_G) (cA : Nat → ClassId) (A : Nat → Prop) (g : Nat → Nat) (n : Nat) (K : Option Value → List (Nat × Nat) → (Nat → Nat → Nat) → (Nat → Nat → Int32) → Prop) : Array Value → State → Outcome → State → Prop := fun _ st oc t =>
  (∃ (v : Option Value) (g' : Nat → Nat) (ks' : List (Nat × Nat)) (ρ' : Nat → Nat → Nat) (σ' : Nat → Nat → Int32), oc = .returned v ∧ (∀ c : Nat, v ≠ some (.ref c)) ∧ K v ks' ρ' σ' ∧ (∀ c, c < n + 2 → g' c = g c) ∧ n ≤ ks'.length ∧ tn_P D cA A g' ks' ρ' σ' t.heap) ∧ va_F A st t
def tn_rt (Γ : tn_G) (z : tn_M) (K : Option Value → List (Nat × Nat) → (Nat → Nat → Nat) → (Nat → Nat → Int32) → Prop) : Prop := match Γ with
  | ⟨⟨_, _, _, _, s, _, args, below, _, _, Q⟩, D, cA, A, H0, g0, n0⟩ => H0 = s.heap ∧ Q = MQ below (tn_Qc D cA A g0 n0 K) args s z.2.2.2.2.cells z.2.2.2.2.slots A
def tn_ws (z : tn_M) : List Cond := .code z.1 z.2.1 z.2.2.1 z.2.2.2.1 :: tn_tbl
/-- A CONTRACT: from a world of the cells ks, ρ, σ the method z comes back with K -/
def tn_Call (z : tn_M) (As : List Value) (ks : List (Nat × Nat)) (ρ : Nat → Nat → Nat) (σ : Nat → Nat → Int32) (K : Option Value → List (Nat × Nat) → (Nat → Nat → Nat) → (Nat → Nat → Int32) → Prop) : Prop :=
  ∀ (l : Launch) (D : va_G) (cA : Nat → ClassId) (g : Nat → Nat) (sz : Nat), tn_okL ks.length As → Met l z.1 (tn_ws z) z.2.2.2.2 (va_Pc (As.map (tn_v g)) (fun U => U.heap.size = sz ∧ tn_P D cA (fun _ => True) g ks ρ σ U.heap ∧ tn_K D cA U)) (tn_Qc D cA (va_A (tn_C cA g ks ρ σ) sz) g ks.length K) z.2.2.2.2.cells z.2.2.2.2.slots (va_A (tn_C cA g ks ρ σ) sz)
def tn_u (σ : Nat → Nat → Int32) (c k : Nat) (x : Int32) : Nat → Nat → Int32 := fun c' k' => if c' = c ∧ k' = k then x else σ c' k'
def tn_ur (ρ : Nat → Nat → Nat) (c k : Nat) (x : Nat) : Nat → Nat → Nat := fun c' k' => if c' = c ∧ k' = k then x else ρ c' k'
def tn_zs (σ : Nat → Nat → Int32) (n : Nat) : Nat → Nat → Int32 := fun c k => if c = n then 0 else σ c k
def tn_zr (ρ : Nat → Nat → Nat) (n : Nat) : Nat → Nat → Nat := fun c k => if c = n then 0 else ρ c k
def tn_ug (g : Nat → Nat) (n q : Nat) : Nat → Nat := fun c => if c = n then q else g c
/-! ===== lists ===== -/
theorem tn_kd2 {ks : List (Nat × Nat)} {c : Nat} {k : Nat × Nat} (h : tn_kd ks c = some k) : 2 ≤ c ∧ ks[c - 2]? = some k ∧ c < ks.length + 2 := by
  unfold tn_kd at h
  split at h
  · cases h
  · have := (List.getElem?_eq_some_iff.mp h).1
    exact ⟨by omega, h, by omega⟩
theorem tn_at {cA : Nat → ClassId} {g : Nat → Nat} {ks : List (Nat × Nat)} {ρ : Nat → Nat → Nat} {σ : Nat → Nat → Int32} {c : Nat} {k : Nat × Nat} (h : tn_kd ks c = some k) : (tn_C cA g ks ρ σ)[c - 2]? = some (g c, tn_e cA g ρ σ c k) := by
  obtain ⟨h1, h2, -⟩ := tn_kd2 h
  have e : c - 2 + 2 = c := by omega
  rw [tn_C, List.getElem?_mapIdx, h2]
  simp [tn_c, e]
theorem tn_gr2 {g : Nat → Nat} {c : Nat} (h : 0 < c) : tn_gr g c = some (g c) := if_neg (by omega)
theorem tn_setC {f f' : Nat → Nat × Nat → Nat × va_E} {ks : List (Nat × Nat)} {j : Nat} {v : Nat × va_E} {kk : Nat × Nat} (hj : ks[j]? = some kk) (hv : f' j kk = v) (h : ∀ i q, i ≠ j → f' i q = f i q) : (ks.mapIdx f).set j v = ks.mapIdx f' := by
  apply List.ext_getElem?
  intro i
  rw [List.getElem?_set, List.getElem?_mapIdx, List.getElem?_mapIdx]
  by_cases hi : j = i
  · subst hi
    have hl : j < ks.length := (List.getElem?_eq_some_iff.mp hj).1
    rw [if_pos rfl, if_pos (by simpa using hl), hj]
    simp [hv]
  · rw [if_neg hi]
    cases hk : ks[i]? with
    | none => rfl
    | some q => simp [h i q (fun e => hi e.symm)]
theorem tn_fsN {i : Nat} {g : Nat → Nat} {ρ : Nat → Nat → Nat} {σ : Nat → Nat → Int32} {c k : Nat} (hk : k < tn_N i) : (tn_fs i g ρ σ c)[k]? = some (if tn_isR i k = true then va_rf (tn_gr g (ρ c k)) else .int (σ c k)) := by
  simp [tn_fs, hk]
theorem tn_fsL {i : Nat} {g : Nat → Nat} {ρ : Nat → Nat → Nat} {σ : Nat → Nat → Int32} {c : Nat} : (tn_fs i g ρ σ c).length = tn_N i := by simp [tn_fs]
theorem tn_u_s {σ : Nat → Nat → Int32} {c k : Nat} {x : Int32} : tn_u σ c k x c k = x := by simp [tn_u]
theorem tn_u_n {σ : Nat → Nat → Int32} {c k c' k' : Nat} {x : Int32} (h : c' ≠ c ∨ k' ≠ k) : tn_u σ c k x c' k' = σ c' k' := by
  unfold tn_u
  rw [if_neg]
  intro q
  rcases h with h | h
  · exact h q.1
  · exact h q.2
theorem tn_fs_set {i : Nat} {g : Nat → Nat} {ρ : Nat → Nat → Nat} {σ : Nat → Nat → Int32} {c k : Nat} {x : Int32} (hr : tn_isR i k = false) : (tn_fs i g ρ σ c).set k (.int x) = tn_fs i g ρ (tn_u σ c k x) c := by
  apply List.ext_getElem?
  intro j
  rw [List.getElem?_set, tn_fsL]
  by_cases hj : k = j
  · subst hj
    rw [if_pos rfl]
    by_cases hk : k < tn_N i
    · rw [if_pos hk, tn_fsN hk, hr, tn_u_s]
      rfl
    · rw [if_neg hk, List.getElem?_eq_none (by rw [tn_fsL]; omega)]
  · rw [if_neg hj]
    by_cases hk : j < tn_N i
    · rw [tn_fsN hk, tn_fsN hk, tn_u_n (Or.inr (fun e => hj e.symm))]
    · rw [List.getElem?_eq_none (by rw [tn_fsL]; omega), List.getElem?_eq_none (by rw [tn_fsL]; omega)]
theorem tn_fs_setR {i : Nat} {g : Nat → Nat} {ρ : Nat → Nat → Nat} {σ : Nat → Nat → Int32} {c k x : Nat} (hr : tn_isR i k = true) : (tn_fs i g ρ σ c).set k (va_rf (tn_gr g x)) = tn_fs i g (tn_ur ρ c k x) σ c := by
  apply List.ext_getElem?
  intro j
  rw [List.getElem?_set, tn_fsL]
  by_cases hj : k = j
  · subst hj
    rw [if_pos rfl]
    by_cases hk : k < tn_N i
    · rw [if_pos hk, tn_fsN hk, hr]
      simp [tn_ur]
    · rw [if_neg hk, List.getElem?_eq_none (by rw [tn_fsL]; omega)]
  · rw [if_neg hj]
    by_cases hk : j < tn_N i
    · rw [tn_fsN hk, tn_fsN hk]
      simp [tn_ur, show ¬ j = k from fun e => hj e.symm]
    · rw [List.getElem?_eq_none (by rw [tn_fsL]; omega), List.getElem?_eq_none (by rw [tn_fsL]; omega)]
theorem tn_fs_congr {i : Nat} {g g' : Nat → Nat} {ρ ρ' : Nat → Nat → Nat} {σ σ' : Nat → Nat → Int32} {c c' : Nat} (h1 : ∀ k, tn_gr g (ρ c k) = tn_gr g' (ρ' c' k)) (h2 : ∀ k, σ c k = σ' c' k) : tn_fs i g ρ σ c = tn_fs i g' ρ' σ' c' := by
  unfold tn_fs
  congr 1
  funext j
  rw [h1, h2]
theorem tn_e_congr {cA : Nat → ClassId} {g g' : Nat → Nat} {ρ ρ' : Nat → Nat → Nat} {σ σ' : Nat → Nat → Int32} {c c' : Nat} {k : Nat × Nat} (h1 : ∀ k, tn_gr g (ρ c k) = tn_gr g' (ρ' c' k)) (h2 : ∀ k, σ c k = σ' c' k) : tn_e cA g ρ σ c k = tn_e cA g' ρ' σ' c' k := by
  unfold tn_e
  rw [tn_fs_congr h1 h2, show σ c = σ' c' from funext h2, show (fun j => tn_gr g (ρ c j)) = (fun j => tn_gr g' (ρ' c' j)) from funext h1]
/-- an int slot written -/
theorem tn_C_set {cA : Nat → ClassId} {g : Nat → Nat} {ks : List (Nat × Nat)} {ρ : Nat → Nat → Nat} {σ : Nat → Nat → Int32} {c i n k : Nat} {x : Int32} (hk : tn_kd ks c = some (i, n)) (hi : i < 7) (hr : tn_isR i k = false) :
    (tn_C cA g ks ρ σ).set (c - 2) (g c, .inr (i, (tn_fs i g ρ σ c).set k (.int x))) = tn_C cA g ks ρ (tn_u σ c k x) := by
  obtain ⟨h1, h2, -⟩ := tn_kd2 hk
  have e : c - 2 + 2 = c := by omega
  refine tn_setC h2 ?_ (fun j q hj => ?_)
  · simp only [tn_c, e, tn_e, hi, if_true]
    rw [tn_fs_set hr]
  · unfold tn_c
    rw [tn_e_congr (fun k => rfl) (fun k' => tn_u_n (Or.inl (by omega)))]
theorem tn_C_setR {cA : Nat → ClassId} {g : Nat → Nat} {ks : List (Nat × Nat)} {ρ : Nat → Nat → Nat} {σ : Nat → Nat → Int32} {c i n k x : Nat} (hk : tn_kd ks c = some (i, n)) (hi : i < 7) (hr : tn_isR i k = true) :
    (tn_C cA g ks ρ σ).set (c - 2) (g c, .inr (i, (tn_fs i g ρ σ c).set k (va_rf (tn_gr g x)))) = tn_C cA g ks (tn_ur ρ c k x) σ := by
  obtain ⟨h1, h2, -⟩ := tn_kd2 hk
  have e : c - 2 + 2 = c := by omega
  refine tn_setC h2 ?_ (fun j q hj => ?_)
  · simp only [tn_c, e, tn_e, hi, if_true]
    rw [tn_fs_setR hr]
  · unfold tn_c
    rw [tn_e_congr (fun k' => by unfold tn_ur; rw [if_neg (by omega)]) (fun k' => rfl)]
/-- an int array's place written -/
theorem tn_C_setA {cA : Nat → ClassId} {g : Nat → Nat} {ks : List (Nat × Nat)} {ρ : Nat → Nat → Nat} {σ : Nat → Nat → Int32} {c n : Nat} {f : Nat → Int32} (hk : tn_kd ks c = some (7, n)) :
    (tn_C cA g ks ρ σ).set (c - 2) (g c, .inl (cA 0, n, .inl f)) = tn_C cA g ks ρ (fun c' => if c' = c then f else σ c') := by
  obtain ⟨h1, h2, -⟩ := tn_kd2 hk
  have e : c - 2 + 2 = c := by omega
  refine tn_setC h2 ?_ (fun j q hj => ?_)
  · simp [tn_c, e, tn_e]
  · unfold tn_c
    rw [tn_e_congr (fun k => rfl) (fun k' => by rw [if_neg (by omega)])]
theorem tn_u_f {σ : Nat → Nat → Int32} {c k : Nat} {x : Int32} : (fun c' => if c' = c then upd (σ c) k x else σ c') = tn_u σ c k x := by
  funext c' k'
  unfold tn_u
  by_cases h : c' = c
  · subst h
    rw [if_pos rfl]
    by_cases h2 : k' = k
    · subst h2
      simp [upd]
    · simp [upd, h2]
  · rw [if_neg h, if_neg (fun q => h q.1)]
theorem tn_C_setQ {cA : Nat → ClassId} {g : Nat → Nat} {ks : List (Nat × Nat)} {ρ : Nat → Nat → Nat} {σ : Nat → Nat → Int32} {c t n k x : Nat} (hk : tn_kd ks c = some (t + 8, n)) (hx : 0 < x) :
    (tn_C cA g ks ρ σ).set (c - 2) (g c, .inl (cA (t + 1), n, .inr (.inr (.inr (.inr (va_up (fun j => tn_gr g (ρ c j)) k (some (g x)))))))) = tn_C cA g ks (tn_ur ρ c k x) σ := by
  obtain ⟨h1, h2, -⟩ := tn_kd2 hk
  have e : c - 2 + 2 = c := by omega
  refine tn_setC h2 ?_ (fun j q hj => ?_)
  · simp only [tn_c, e, tn_e]
    rw [if_neg (by omega), if_neg (by omega)]
    have e2 : t + 8 - 7 = t + 1 := by omega
    have e3 : (fun j => tn_gr g (tn_ur ρ c k x c j)) = va_up (fun j => tn_gr g (ρ c j)) k (some (g x)) := by
      funext j
      unfold tn_ur va_up
      by_cases hj : j = k
      · rw [if_pos ⟨rfl, hj⟩, if_pos hj, tn_gr2 hx]
      · rw [if_neg (fun q => hj q.2), if_neg hj]
    rw [e2, e3]
  · unfold tn_c
    rw [tn_e_congr (fun k' => by unfold tn_ur; rw [if_neg (by omega)]) (fun k' => rfl)]
/-- a new cell -/
theorem tn_C_new {cA : Nat → ClassId} {g : Nat → Nat} {ks : List (Nat × Nat)} {ρ : Nat → Nat → Nat} {σ : Nat → Nat → Int32} {q : Nat} {kk : Nat × Nat} (hc : ∀ c k, ρ c k < ks.length + 2) :
    tn_C cA (tn_ug g (ks.length + 2) q) (ks ++ [kk]) (tn_zr ρ (ks.length + 2)) (tn_zs σ (ks.length + 2)) = tn_C cA g ks ρ σ ++ [(q, tn_e cA (tn_ug g (ks.length + 2) q) (fun _ _ => 0) (fun _ _ => 0) (ks.length + 2) kk)] := by
  unfold tn_C
  rw [List.mapIdx_concat]
  congr 1
  · apply List.ext_getElem?
    intro i
    rw [List.getElem?_mapIdx, List.getElem?_mapIdx]
    cases hk : ks[i]? with
    | none => rfl
    | some z =>
      have hl : i < ks.length := (List.getElem?_eq_some_iff.mp hk).1
      simp only [Option.map_some, tn_c]
      rw [tn_e_congr (g' := g) (ρ' := ρ) (σ' := σ) (c' := i + 2) (fun k => ?_) (fun k => ?_)]
      · unfold tn_ug
        rw [if_neg (by omega)]
      · have h := hc (i + 2) k
        unfold tn_gr tn_zr tn_ug
        rw [if_neg (show ¬ i + 2 = ks.length + 2 by omega)]
        split
        · rfl
        · rw [if_neg (by omega)]
      · unfold tn_zs
        rw [if_neg (by omega)]
  · simp only [tn_c]
    rw [tn_e_congr (g' := tn_ug g (ks.length + 2) q) (ρ' := fun _ _ => 0) (σ' := fun _ _ => 0) (c' := ks.length + 2) (fun k => by simp [tn_zr]) (fun k => by simp [tn_zs])]
    simp [tn_ug]
/-! ===== locals ===== -/
def tn_prs (g : Nat → Nat) (loc : List Value) : List (Nat × Value) := (List.range loc.length).filterMap (fun j => (loc[j]?).bind (fun v => if v = .null then none else some (j, tn_v g v)))
theorem tn_L.has {g : Nat → Nat} {loc : List Value} {ls : Array Slot} {nL : Nat} (h : tn_L g loc ls nL) : lv_has ls nL (tn_prs g loc) := by
  refine ⟨h.1, h.2.1, fun q hq => ?_⟩
  obtain ⟨j, -, hj⟩ := List.mem_filterMap.mp hq
  cases hv : loc[j]? with
  | none => rw [hv] at hj; cases hj
  | some v =>
    rw [hv] at hj
    simp only [Option.bind_some] at hj
    split at hj
    · cases hj
    · rename_i hne
      cases hj
      exact h.2.2 j v hv hne
theorem tn_prs_mem {g : Nat → Nat} {loc : List Value} {j : Nat} {v : Value} (h : loc[j]? = some v) (hn : v ≠ .null) : (j, tn_v g v) ∈ tn_prs g loc := by
  refine List.mem_filterMap.mpr ⟨j, List.mem_range.mpr (List.getElem?_eq_some_iff.mp h).1, ?_⟩
  rw [h]
  simp [hn]
/-- the place before isn't a long's -/
def tn_np (loc : List Value) (i : Nat) : Bool := match i with
  | 0 => true
  | j + 1 => match loc[j]? with
    | some (.long _) => false
    | some (.double _) => false
    | _ => true
theorem tn_npc {g : Nat → Nat} {loc : List Value} {i j : Nat} {v : Value} (h : tn_np loc i = true) (hj : loc[j]? = some v) (e : j + 1 = i) : (tn_v g v).category ≠ 2 := by
  subst e
  unfold tn_np at h
  simp only [hj] at h
  cases v with
  | ref c =>
    show (va_rf (tn_gr g c)).category ≠ 2
    cases tn_gr g c <;> simp [va_rf, Value.category]
  | _ => first | (cases h; done) | simp [tn_v, Value.category]
theorem tn_L.set1 {g : Nat → Nat} {loc : List Value} {ls' : Array Slot} {nL i : Nat} {v : Value} (hp : tn_np loc i = true) (h : lv_has ls' nL ((i, tn_v g v) :: (tn_prs g loc).filter (fun q => !(q.1 == i) && !(q.1 + 1 == i && q.2.category == 2)))) : tn_L g (loc.set i v) ls' nL := by
  refine ⟨h.1, h.2.1, fun j w hj hn => ?_⟩
  rw [List.getElem?_set] at hj
  by_cases e : i = j
  · subst e
    rw [if_pos rfl] at hj
    split at hj
    · cases hj
      exact h.2.2 _ List.mem_cons_self
    · cases hj
  · rw [if_neg e] at hj
    refine h.2.2 (j, tn_v g w) (List.mem_cons_of_mem _ (List.mem_filter.mpr ⟨tn_prs_mem hj hn, ?_⟩))
    have h1 : (j == i) = false := by simp [show ¬ j = i from fun q => e q.symm]
    by_cases h2 : j + 1 = i
    · have h3 := tn_npc (g := g) hp hj h2
      simp [h1, h3]
    · simp [h1, h2]
theorem tn_L.set2 {g : Nat → Nat} {loc : List Value} {ls' : Array Slot} {nL i : Nat} {v : Value} (hp : tn_np loc i = true) (h : lv_has ls' nL ((i, tn_v g v) :: (tn_prs g loc).filter (fun q => !(q.1 == i) && (!(q.1 == i + 1) && !(q.1 + 1 == i && q.2.category == 2))))) : tn_L g ((loc.set i v).set (i + 1) .null) ls' nL := by
  refine ⟨h.1, h.2.1, fun j w hj hn => ?_⟩
  rw [List.getElem?_set] at hj
  by_cases e1 : i + 1 = j
  · rw [if_pos e1] at hj
    split at hj
    · cases hj
      exact absurd rfl hn
    · cases hj
  rw [if_neg e1, List.getElem?_set] at hj
  by_cases e : i = j
  · subst e
    rw [if_pos rfl] at hj
    split at hj
    · cases hj
      exact h.2.2 _ List.mem_cons_self
    · cases hj
  · rw [if_neg e] at hj
    refine h.2.2 (j, tn_v g w) (List.mem_cons_of_mem _ (List.mem_filter.mpr ⟨tn_prs_mem hj hn, ?_⟩))
    have h1 : (j == i) = false := by simp [show ¬ j = i from fun q => e q.symm]
    have h0 : (j == i + 1) = false := by simp [show ¬ j = i + 1 from fun q => e1 q.symm]
    by_cases h2 : j + 1 = i
    · have h3 := tn_npc (g := g) hp hj h2
      simp [h1, h0, h3]
    · simp [h1, h0, h2]
theorem tn_okL.set {n : Nat} {loc : List Value} {i : Nat} {v : Value} (h : tn_okL n loc) (hv : tn_ok n v) : tn_okL n (loc.set i v) := by
  intro w hw
  rcases List.mem_or_eq_of_mem_set hw with h1 | h1
  · exact h w h1
  · rw [h1]; exact hv
theorem tn_okL.cons {n : Nat} {st : List Value} {v : Value} (hv : tn_ok n v) (h : tn_okL n st) : tn_okL n (v :: st) := fun w hw => (List.mem_cons.mp hw).elim (fun e => e ▸ hv) (h w)
theorem tn_okL.tl {n : Nat} {st : List Value} {v : Value} (h : tn_okL n (v :: st)) : tn_okL n st := fun w hw => h w (List.mem_cons_of_mem _ hw)
theorem tn_okL.hd {n : Nat} {st : List Value} {v : Value} (h : tn_okL n (v :: st)) : tn_ok n v := h v List.mem_cons_self
theorem tn_ok.mono {n n' : Nat} {v : Value} (hn : n ≤ n') (h : tn_ok n v) : tn_ok n' v := by
  cases v with
  | ref c => exact Nat.lt_of_lt_of_le (show c < n + 2 from h) (Nat.add_le_add_right hn 2)
  | _ => trivial
theorem tn_okL.mono {n n' : Nat} {st : List Value} (hn : n ≤ n') (h : tn_okL n st) : tn_okL n' st := fun w hw => (h w hw).mono hn
theorem tn_v_congr {g g' : Nat → Nat} {n : Nat} (h : ∀ c, c < n + 2 → g' c = g c) {v : Value} (hv : tn_ok n v) : tn_v g' v = tn_v g v := by
  cases v with
  | ref c =>
    show va_rf (tn_gr g' c) = va_rf (tn_gr g c)
    unfold tn_gr
    rw [h c hv]
  | _ => rfl
theorem tn_map_congr {g g' : Nat → Nat} {n : Nat} (h : ∀ c, c < n + 2 → g' c = g c) {st : List Value} (hv : tn_okL n st) : st.map (tn_v g') = st.map (tn_v g) := List.map_congr_left (fun v hq => tn_v_congr h (hv v hq))
theorem tn_L.congr {g g' : Nat → Nat} {n : Nat} (h : ∀ c, c < n + 2 → g' c = g c) {loc : List Value} {ls : Array Slot} {nL : Nat} (hv : tn_okL n loc) (hl : tn_L g loc ls nL) : tn_L g' loc ls nL :=
  ⟨hl.1, hl.2.1, fun i v hi hn => by rw [tn_v_congr h (hv v (List.mem_of_getElem? hi))]; exact hl.2.2 i v hi hn⟩
/-! ===== the tables move along ===== -/
theorem tn_K.warm {D : va_G} {cA : Nat → ClassId} {s U : State} (hW : s.WarmedH U.vm) (h : tn_K D cA s) : tn_K D cA U := by
  obtain ⟨h1, h2, h3, h4, h5⟩ := h
  refine ⟨va_K.moved hW.alike h1, fun w hw => ?_, h3.moved hW.alike, h4.moved hW.alike, h5.moved hW.alike⟩
  have hz := h2 w hw
  have hn : tn_isN w = true := (List.mem_filter.mp hw).2
  cases w <;> first | (cases hn; done) | exact va_Nw.warmF hW hz | exact va_Nw.warmM hW hz
theorem tn_K.call {D : va_G} {cA : Nat → ClassId} {U : State} {g : JFrame} {mk : MethodId} {a : Array Value} (h : tn_K D cA U) : tn_K D cA (U.calling g mk a) := by
  obtain ⟨h1, h2, h3, h4, h5⟩ := h
  refine ⟨va_K.moved (u := U) (U := U.calling g mk a) (Vm.Alike.refl U.vm) h1, fun w hw => ?_, h3.moved (u := U) (U := U.calling g mk a) (Vm.Alike.refl U.vm), h4.moved (u := U) (U := U.calling g mk a) (Vm.Alike.refl U.vm), h5.moved (u := U) (U := U.calling g mk a) (Vm.Alike.refl U.vm)⟩
  have hz := h2 w hw
  have hn : tn_isN w = true := (List.mem_filter.mp hw).2
  cases w <;> first | (cases hn; done) | exact va_Nw.same (U := U.calling g mk a) rfl rfl hz
