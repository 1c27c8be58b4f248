/-! ===== the rules: an instruction each ===== -/
section TR
variable {Γ : tn_G} {z : tn_M} {pc : Nat} {loc st : List Value} {ca sl : Nat} {ks : List (Nat × Nat)} {ρ : Nat → Nat → Nat} {σ : Nat → Nat → Int32}

theorem tn_iconst (hΓ : tn_is Γ z) {n : Int} {v : Int32} (hd : decode z.2.1 pc = .ok (.iconst n, 1)) (hv : Int32.ofInt n = v) (k : tn_A Γ (pc + 1) loc (.int v :: st) ca sl ks ρ σ) : tn_A Γ (pc) loc (st) ca sl ks ρ σ := by
  obtain ⟨⟨p, l, e, R, s, m, args, below, meth, c, Q⟩, D, cA, A, H0, g0, n0⟩ := Γ
  obtain ⟨hx, hb, hml, hown, hts, hK, hR, hrt, hlk, hnm, hA⟩ := hΓ
  intro g H locs ls hP hS hl ho1 ho2 hg hn
  exact lv_iconst hx hb hd hv (k g H locs ls hP hS hl ho1 (tn_okL.cons trivial ho2) hg hn)
theorem tn_bipush (hΓ : tn_is Γ z) {n : Int} {v : Int32} (hd : decode z.2.1 pc = .ok (.bipush n, 2)) (hv : (Int8.ofInt n).toInt32 = v) (k : tn_A Γ (pc + 2) loc (.int v :: st) ca sl ks ρ σ) : tn_A Γ (pc) loc (st) ca sl ks ρ σ := by
  obtain ⟨⟨p, l, e, R, s, m, args, below, meth, c, Q⟩, D, cA, A, H0, g0, n0⟩ := Γ
  obtain ⟨hx, hb, hml, hown, hts, hK, hR, hrt, hlk, hnm, hA⟩ := hΓ
  intro g H locs ls hP hS hl ho1 ho2 hg hn
  exact lv_bipush hx hb hd hv (k g H locs ls hP hS hl ho1 (tn_okL.cons trivial ho2) hg hn)
theorem tn_sipush (hΓ : tn_is Γ z) {n : Int} {v : Int32} (hd : decode z.2.1 pc = .ok (.sipush n, 3)) (hv : (Int16.ofInt n).toInt32 = v) (k : tn_A Γ (pc + 3) loc (.int v :: st) ca sl ks ρ σ) : tn_A Γ (pc) loc (st) ca sl ks ρ σ := by
  obtain ⟨⟨p, l, e, R, s, m, args, below, meth, c, Q⟩, D, cA, A, H0, g0, n0⟩ := Γ
  obtain ⟨hx, hb, hml, hown, hts, hK, hR, hrt, hlk, hnm, hA⟩ := hΓ
  intro g H locs ls hP hS hl ho1 ho2 hg hn
  exact lv_sipush hx hb hd hv (k g H locs ls hP hS hl ho1 (tn_okL.cons trivial ho2) hg hn)
theorem tn_lconst (hΓ : tn_is Γ z) {n : Fin 2} {v : Int64} (hd : decode z.2.1 pc = .ok (.lconst n, 1)) (hv : Int64.ofNat (n : Nat) = v) (k : tn_A Γ (pc + 1) loc (.long v :: st) ca sl ks ρ σ) : tn_A Γ (pc) loc (st) ca sl ks ρ σ := by
  obtain ⟨⟨p, l, e, R, s, m, args, below, meth, c, Q⟩, D, cA, A, H0, g0, n0⟩ := Γ
  obtain ⟨hx, hb, hml, hown, hts, hK, hR, hrt, hlk, hnm, hA⟩ := hΓ
  intro g H locs ls hP hS hl ho1 ho2 hg hn
  exact lv_lconst hx hb hd hv (k g H locs ls hP hS hl ho1 (tn_okL.cons trivial ho2) hg hn)
theorem tn_ldcw (hΓ : tn_is Γ z) {i : Nat} {v : Int32} (hc : Cond.constant z.1.cls i v ∈ tn_tbl) (hd : decode z.2.1 pc = .ok (.ldc_w i, 3)) (k : tn_A Γ (pc + 3) loc (.int v :: st) ca sl ks ρ σ) : tn_A Γ (pc) loc (st) ca sl ks ρ σ := by
  obtain ⟨⟨p, l, e, R, s, m, args, below, meth, c, Q⟩, D, cA, A, H0, g0, n0⟩ := Γ
  obtain ⟨hx, hb, hml, hown, hts, hK, hR, hrt, hlk, hnm, hA⟩ := hΓ
  intro g H locs ls hP hS hl ho1 ho2 hg hn
  exact lv_ldcw hx hb hown (hts _ hc) hd (k g H locs ls hP hS hl ho1 (tn_okL.cons trivial ho2) hg hn)
theorem tn_ldc2 (hΓ : tn_is Γ z) {i : Nat} {v : Int64} (hc : Cond.constantLong z.1.cls i v ∈ tn_tbl) (hd : decode z.2.1 pc = .ok (.ldc2_w i, 3)) (k : tn_A Γ (pc + 3) loc (.long v :: st) ca sl ks ρ σ) : tn_A Γ (pc) loc (st) ca sl ks ρ σ := by
  obtain ⟨⟨p, l, e, R, s, m, args, below, meth, c, Q⟩, D, cA, A, H0, g0, n0⟩ := Γ
  obtain ⟨hx, hb, hml, hown, hts, hK, hR, hrt, hlk, hnm, hA⟩ := hΓ
  intro g H locs ls hP hS hl ho1 ho2 hg hn
  exact lv_ldc2 hx hb hown (hts _ hc) hd (k g H locs ls hP hS hl ho1 (tn_okL.cons trivial ho2) hg hn)
theorem tn_iload_n (hΓ : tn_is Γ z) {n : Fin 4} {x : Int32} (hd : decode z.2.1 pc = .ok (.iload_n n, 1)) (hi : loc[(n : Nat)]? = some (.int x)) (k : tn_A Γ (pc + 1) loc (.int x :: st) ca sl ks ρ σ) : tn_A Γ (pc) loc (st) ca sl ks ρ σ := by
  obtain ⟨⟨p, l, e, R, s, m, args, below, meth, c, Q⟩, D, cA, A, H0, g0, n0⟩ := Γ
  obtain ⟨hx, hb, hml, hown, hts, hK, hR, hrt, hlk, hnm, hA⟩ := hΓ
  intro g H locs ls hP hS hl ho1 ho2 hg hn
  exact lv_iload_n hx hb hd rfl (hl.2.2 _ _ hi (fun q => by cases q)) (k g H locs ls hP hS hl ho1 (tn_okL.cons trivial ho2) hg hn)
theorem tn_iload (hΓ : tn_is Γ z) {n : Nat} {x : Int32} (hd : decode z.2.1 pc = .ok (.iload n, 2)) (hi : loc[n]? = some (.int x)) (k : tn_A Γ (pc + 2) loc (.int x :: st) ca sl ks ρ σ) : tn_A Γ (pc) loc (st) ca sl ks ρ σ := by
  obtain ⟨⟨p, l, e, R, s, m, args, below, meth, c, Q⟩, D, cA, A, H0, g0, n0⟩ := Γ
  obtain ⟨hx, hb, hml, hown, hts, hK, hR, hrt, hlk, hnm, hA⟩ := hΓ
  intro g H locs ls hP hS hl ho1 ho2 hg hn
  exact lv_iload hx hb hd (hl.2.2 _ _ hi (fun q => by cases q)) (k g H locs ls hP hS hl ho1 (tn_okL.cons trivial ho2) hg hn)
theorem tn_lload_n (hΓ : tn_is Γ z) {n : Fin 4} {x : Int64} (hd : decode z.2.1 pc = .ok (.lload_n n, 1)) (hi : loc[(n : Nat)]? = some (.long x)) (k : tn_A Γ (pc + 1) loc (.long x :: st) ca sl ks ρ σ) : tn_A Γ (pc) loc (st) ca sl ks ρ σ := by
  obtain ⟨⟨p, l, e, R, s, m, args, below, meth, c, Q⟩, D, cA, A, H0, g0, n0⟩ := Γ
  obtain ⟨hx, hb, hml, hown, hts, hK, hR, hrt, hlk, hnm, hA⟩ := hΓ
  intro g H locs ls hP hS hl ho1 ho2 hg hn
  exact lv_lload_n hx hb hd rfl (hl.2.2 _ _ hi (fun q => by cases q)) (k g H locs ls hP hS hl ho1 (tn_okL.cons trivial ho2) hg hn)
theorem tn_lload (hΓ : tn_is Γ z) {n : Nat} {x : Int64} (hd : decode z.2.1 pc = .ok (.lload n, 2)) (hi : loc[n]? = some (.long x)) (k : tn_A Γ (pc + 2) loc (.long x :: st) ca sl ks ρ σ) : tn_A Γ (pc) loc (st) ca sl ks ρ σ := by
  obtain ⟨⟨p, l, e, R, s, m, args, below, meth, c, Q⟩, D, cA, A, H0, g0, n0⟩ := Γ
  obtain ⟨hx, hb, hml, hown, hts, hK, hR, hrt, hlk, hnm, hA⟩ := hΓ
  intro g H locs ls hP hS hl ho1 ho2 hg hn
  exact lv_lload hx hb hd (hl.2.2 _ _ hi (fun q => by cases q)) (k g H locs ls hP hS hl ho1 (tn_okL.cons trivial ho2) hg hn)
theorem tn_aload_n (hΓ : tn_is Γ z) {n : Fin 4} {x : Nat} (hd : decode z.2.1 pc = .ok (.aload_n n, 1)) (hi : loc[(n : Nat)]? = some (.ref x)) (k : tn_A Γ (pc + 1) loc (.ref x :: st) ca sl ks ρ σ) : tn_A Γ (pc) loc (st) ca sl ks ρ σ := by
  obtain ⟨⟨p, l, e, R, s, m, args, below, meth, c, Q⟩, D, cA, A, H0, g0, n0⟩ := Γ
  obtain ⟨hx, hb, hml, hown, hts, hK, hR, hrt, hlk, hnm, hA⟩ := hΓ
  intro g H locs ls hP hS hl ho1 ho2 hg hn
  have h1 := k g H locs ls hP hS hl ho1 (tn_okL.cons (ho1 _ (List.mem_of_getElem? hi)) ho2) hg hn
  have h2 : ls[(n : Nat)]? = some (.val (va_rf (tn_gr g x))) := hl.2.2 _ _ hi (fun q => by cases q)
  have h3 : W p l e R s m args below meth c H locs ca sl Q (F0 m (pc + 1) ls (va_rf (tn_gr g x) :: st.map (tn_v g))) := h1
  cases hq : tn_gr g x with
  | none => rw [hq] at h2 h3; exact lv_aload_nN hx hb hd rfl h2 h3
  | some y => rw [hq] at h2 h3; exact lv_aload_n hx hb hd rfl h2 h3
theorem tn_aload (hΓ : tn_is Γ z) {n : Nat} {x : Nat} (hd : decode z.2.1 pc = .ok (.aload n, 2)) (hi : loc[n]? = some (.ref x)) (k : tn_A Γ (pc + 2) loc (.ref x :: st) ca sl ks ρ σ) : tn_A Γ (pc) loc (st) ca sl ks ρ σ := by
  obtain ⟨⟨p, l, e, R, s, m, args, below, meth, c, Q⟩, D, cA, A, H0, g0, n0⟩ := Γ
  obtain ⟨hx, hb, hml, hown, hts, hK, hR, hrt, hlk, hnm, hA⟩ := hΓ
  intro g H locs ls hP hS hl ho1 ho2 hg hn
  have h1 := k g H locs ls hP hS hl ho1 (tn_okL.cons (ho1 _ (List.mem_of_getElem? hi)) ho2) hg hn
  have h2 : ls[n]? = some (.val (va_rf (tn_gr g x))) := hl.2.2 _ _ hi (fun q => by cases q)
  have h3 : W p l e R s m args below meth c H locs ca sl Q (F0 m (pc + 2) ls (va_rf (tn_gr g x) :: st.map (tn_v g))) := h1
  cases hq : tn_gr g x with
  | none => rw [hq] at h2 h3; exact lv_aloadN hx hb hd h2 h3
  | some y => rw [hq] at h2 h3; exact lv_aload hx hb hd h2 h3
theorem tn_istore_n (hΓ : tn_is Γ z) {n : Fin 4} {x : Int32} {loc' : List Value} (hd : decode z.2.1 pc = .ok (.istore_n n, 1)) (hi : (n : Nat) < z.2.2.1) (hp : tn_np loc (n : Nat) = true) (hl' : loc.set (n : Nat) (.int x) = loc') (k : tn_A Γ (pc + 1) loc' (st) ca sl ks ρ σ) : tn_A Γ (pc) loc (.int x :: st) ca sl ks ρ σ := by
  subst hl'
  obtain ⟨⟨p, l, e, R, s, m, args, below, meth, c, Q⟩, D, cA, A, H0, g0, n0⟩ := Γ
  obtain ⟨hx, hb, hml, hown, hts, hK, hR, hrt, hlk, hnm, hA⟩ := hΓ
  intro g H locs ls hP hS hl ho1 ho2 hg hn
  refine lv_istore_n hx hb hd rfl hl.has (by rw [hml]; exact hi) rfl (fun ls' h' => ?_)
  exact k g H locs ls' hP hS (tn_L.set1 (v := .int x) hp h') (ho1.set trivial) ho2.tl hg hn
theorem tn_istore (hΓ : tn_is Γ z) {n : Nat} {x : Int32} {loc' : List Value} (hd : decode z.2.1 pc = .ok (.istore n, 2)) (hi : n < z.2.2.1) (hp : tn_np loc n = true) (hl' : loc.set n (.int x) = loc') (k : tn_A Γ (pc + 2) loc' (st) ca sl ks ρ σ) : tn_A Γ (pc) loc (.int x :: st) ca sl ks ρ σ := by
  subst hl'
  obtain ⟨⟨p, l, e, R, s, m, args, below, meth, c, Q⟩, D, cA, A, H0, g0, n0⟩ := Γ
  obtain ⟨hx, hb, hml, hown, hts, hK, hR, hrt, hlk, hnm, hA⟩ := hΓ
  intro g H locs ls hP hS hl ho1 ho2 hg hn
  refine lv_istore hx hb hd hl.has (by rw [hml]; exact hi) rfl (fun ls' h' => ?_)
  exact k g H locs ls' hP hS (tn_L.set1 (v := .int x) hp h') (ho1.set trivial) ho2.tl hg hn
theorem tn_lstore_n (hΓ : tn_is Γ z) {n : Fin 4} {x : Int64} {loc' : List Value} (hd : decode z.2.1 pc = .ok (.lstore_n n, 1)) (hi : (n : Nat) + 1 < z.2.2.1) (hp : tn_np loc (n : Nat) = true) (hl' : (loc.set (n : Nat) (.long x)).set ((n : Nat) + 1) .null = loc') (k : tn_A Γ (pc + 1) loc' (st) ca sl ks ρ σ) : tn_A Γ (pc) loc (.long x :: st) ca sl ks ρ σ := by
  subst hl'
  obtain ⟨⟨p, l, e, R, s, m, args, below, meth, c, Q⟩, D, cA, A, H0, g0, n0⟩ := Γ
  obtain ⟨hx, hb, hml, hown, hts, hK, hR, hrt, hlk, hnm, hA⟩ := hΓ
  intro g H locs ls hP hS hl ho1 ho2 hg hn
  refine lv_lstore_n hx hb hd rfl hl.has (by rw [hml]; exact hi) rfl (fun ls' h' => ?_)
  exact k g H locs ls' hP hS (tn_L.set2 (v := .long x) hp h') ((ho1.set (v := .long x) trivial).set (v := .null) trivial) ho2.tl hg hn
theorem tn_lstore (hΓ : tn_is Γ z) {n : Nat} {x : Int64} {loc' : List Value} (hd : decode z.2.1 pc = .ok (.lstore n, 2)) (hi : n + 1 < z.2.2.1) (hp : tn_np loc n = true) (hl' : (loc.set n (.long x)).set (n + 1) .null = loc') (k : tn_A Γ (pc + 2) loc' (st) ca sl ks ρ σ) : tn_A Γ (pc) loc (.long x :: st) ca sl ks ρ σ := by
  subst hl'
  obtain ⟨⟨p, l, e, R, s, m, args, below, meth, c, Q⟩, D, cA, A, H0, g0, n0⟩ := Γ
  obtain ⟨hx, hb, hml, hown, hts, hK, hR, hrt, hlk, hnm, hA⟩ := hΓ
  intro g H locs ls hP hS hl ho1 ho2 hg hn
  refine lv_lstore hx hb hd hl.has (by rw [hml]; exact hi) rfl (fun ls' h' => ?_)
  exact k g H locs ls' hP hS (tn_L.set2 (v := .long x) hp h') ((ho1.set (v := .long x) trivial).set (v := .null) trivial) ho2.tl hg hn
theorem tn_astore_n (hΓ : tn_is Γ z) {n : Fin 4} {x : Nat} {loc' : List Value} (hd : decode z.2.1 pc = .ok (.astore_n n, 1)) (hi : (n : Nat) < z.2.2.1) (hp : tn_np loc (n : Nat) = true) (hl' : loc.set (n : Nat) (.ref x) = loc') (k : tn_A Γ (pc + 1) loc' (st) ca sl ks ρ σ) : tn_A Γ (pc) loc (.ref x :: st) ca sl ks ρ σ := by
  subst hl'
  obtain ⟨⟨p, l, e, R, s, m, args, below, meth, c, Q⟩, D, cA, A, H0, g0, n0⟩ := Γ
  obtain ⟨hx, hb, hml, hown, hts, hK, hR, hrt, hlk, hnm, hA⟩ := hΓ
  intro g H locs ls hP hS hl ho1 ho2 hg hn
  have h3 : ∀ ls' : Array Slot, lv_has ls' c.maxLocals (((n : Nat), va_rf (tn_gr g x)) :: (tn_prs g loc).filter (fun q => !(q.1 == (n : Nat)) && !(q.1 + 1 == (n : Nat) && q.2.category == 2))) → W p l e R s m args below meth c H locs ca sl Q (F0 m (pc + 1) ls' (st.map (tn_v g))) :=
    fun ls' h' => k g H locs ls' hP hS (tn_L.set1 (v := .ref x) hp h') (ho1.set (v := .ref x) ho2.hd) ho2.tl hg hn
  show W p l e R s m args below meth c H locs ca sl Q (F0 m pc ls (va_rf (tn_gr g x) :: st.map (tn_v g)))
  cases hq : tn_gr g x with
  | none => rw [hq] at h3; exact lv_astore_nN hx hb hd rfl hl.has (by rw [hml]; exact hi) rfl h3
  | some y => rw [hq] at h3; exact lv_astore_n hx hb hd rfl hl.has (by rw [hml]; exact hi) rfl h3
theorem tn_astore (hΓ : tn_is Γ z) {n : Nat} {x : Nat} {loc' : List Value} (hd : decode z.2.1 pc = .ok (.astore n, 2)) (hi : n < z.2.2.1) (hp : tn_np loc n = true) (hl' : loc.set n (.ref x) = loc') (k : tn_A Γ (pc + 2) loc' (st) ca sl ks ρ σ) : tn_A Γ (pc) loc (.ref x :: st) ca sl ks ρ σ := by
  subst hl'
  obtain ⟨⟨p, l, e, R, s, m, args, below, meth, c, Q⟩, D, cA, A, H0, g0, n0⟩ := Γ
  obtain ⟨hx, hb, hml, hown, hts, hK, hR, hrt, hlk, hnm, hA⟩ := hΓ
  intro g H locs ls hP hS hl ho1 ho2 hg hn
  have h3 : ∀ ls' : Array Slot, lv_has ls' c.maxLocals ((n, va_rf (tn_gr g x)) :: (tn_prs g loc).filter (fun q => !(q.1 == n) && !(q.1 + 1 == n && q.2.category == 2))) → W p l e R s m args below meth c H locs ca sl Q (F0 m (pc + 2) ls' (st.map (tn_v g))) :=
    fun ls' h' => k g H locs ls' hP hS (tn_L.set1 (v := .ref x) hp h') (ho1.set (v := .ref x) ho2.hd) ho2.tl hg hn
  show W p l e R s m args below meth c H locs ca sl Q (F0 m pc ls (va_rf (tn_gr g x) :: st.map (tn_v g)))
  cases hq : tn_gr g x with
  | none => rw [hq] at h3; exact lv_astoreN hx hb hd hl.has (by rw [hml]; exact hi) rfl h3
  | some y => rw [hq] at h3; exact lv_astore hx hb hd hl.has (by rw [hml]; exact hi) rfl h3
theorem tn_iinc (hΓ : tn_is Γ z) {i : Nat} {n : Int} {x v : Int32} {loc' : List Value} (hd : decode z.2.1 pc = .ok (.iinc i n, 3)) (hi : loc[i]? = some (.int x)) (hv : x + Int32.ofInt n = v) (hn' : i < z.2.2.1) (hp : tn_np loc i = true) (hl' : loc.set i (.int v) = loc') (k : tn_A Γ (pc + 3) loc' (st) ca sl ks ρ σ) : tn_A Γ (pc) loc (st) ca sl ks ρ σ := by
  subst hl'
  obtain ⟨⟨p, l, e, R, s, m, args, below, meth, c, Q⟩, D, cA, A, H0, g0, n0⟩ := Γ
  obtain ⟨hx, hb, hml, hown, hts, hK, hR, hrt, hlk, hnm, hA⟩ := hΓ
  intro g H locs ls hP hS hl ho1 ho2 hg hn
  obtain ⟨j, hj⟩ := List.getElem?_of_mem (tn_prs_mem (g := g) hi (fun q => by cases q))
  refine lv_iinc (k := j) (v := v) hx hb hd hl.has hj hv (by rw [hml]; exact hn') rfl (fun ls' h' => ?_)
  exact k g H locs ls' hP hS (tn_L.set1 (v := .int v) hp h') (ho1.set trivial) ho2 hg hn
theorem tn_iadd (hΓ : tn_is Γ z) {x y : Int32} (hd : decode z.2.1 pc = .ok (.iadd, 1)) (k : tn_A Γ (pc + 1) loc (.int (x + y) :: st) ca sl ks ρ σ) : tn_A Γ (pc) loc (.int y :: .int x :: st) ca sl ks ρ σ := by
  obtain ⟨⟨p, l, e, R, s, m, args, below, meth, c, Q⟩, D, cA, A, H0, g0, n0⟩ := Γ
  obtain ⟨hx, hb, hml, hown, hts, hK, hR, hrt, hlk, hnm, hA⟩ := hΓ
  intro g H locs ls hP hS hl ho1 ho2 hg hn
  exact lv_iadd hx hb hd (k g H locs ls hP hS hl ho1 (tn_okL.cons trivial ho2.tl.tl) hg hn)
theorem tn_isub (hΓ : tn_is Γ z) {x y : Int32} (hd : decode z.2.1 pc = .ok (.isub, 1)) (k : tn_A Γ (pc + 1) loc (.int (x - y) :: st) ca sl ks ρ σ) : tn_A Γ (pc) loc (.int y :: .int x :: st) ca sl ks ρ σ := by
  obtain ⟨⟨p, l, e, R, s, m, args, below, meth, c, Q⟩, D, cA, A, H0, g0, n0⟩ := Γ
  obtain ⟨hx, hb, hml, hown, hts, hK, hR, hrt, hlk, hnm, hA⟩ := hΓ
  intro g H locs ls hP hS hl ho1 ho2 hg hn
  exact lv_isub hx hb hd (k g H locs ls hP hS hl ho1 (tn_okL.cons trivial ho2.tl.tl) hg hn)
theorem tn_imul (hΓ : tn_is Γ z) {x y : Int32} (hd : decode z.2.1 pc = .ok (.imul, 1)) (k : tn_A Γ (pc + 1) loc (.int (x * y) :: st) ca sl ks ρ σ) : tn_A Γ (pc) loc (.int y :: .int x :: st) ca sl ks ρ σ := by
  obtain ⟨⟨p, l, e, R, s, m, args, below, meth, c, Q⟩, D, cA, A, H0, g0, n0⟩ := Γ
  obtain ⟨hx, hb, hml, hown, hts, hK, hR, hrt, hlk, hnm, hA⟩ := hΓ
  intro g H locs ls hP hS hl ho1 ho2 hg hn
  exact lv_imul hx hb hd (k g H locs ls hP hS hl ho1 (tn_okL.cons trivial ho2.tl.tl) hg hn)
theorem tn_iand (hΓ : tn_is Γ z) {x y : Int32} (hd : decode z.2.1 pc = .ok (.iand, 1)) (k : tn_A Γ (pc + 1) loc (.int (x &&& y) :: st) ca sl ks ρ σ) : tn_A Γ (pc) loc (.int y :: .int x :: st) ca sl ks ρ σ := by
  obtain ⟨⟨p, l, e, R, s, m, args, below, meth, c, Q⟩, D, cA, A, H0, g0, n0⟩ := Γ
  obtain ⟨hx, hb, hml, hown, hts, hK, hR, hrt, hlk, hnm, hA⟩ := hΓ
  intro g H locs ls hP hS hl ho1 ho2 hg hn
  exact lv_iand hx hb hd (k g H locs ls hP hS hl ho1 (tn_okL.cons trivial ho2.tl.tl) hg hn)
theorem tn_ior (hΓ : tn_is Γ z) {x y : Int32} (hd : decode z.2.1 pc = .ok (.ior, 1)) (k : tn_A Γ (pc + 1) loc (.int (x ||| y) :: st) ca sl ks ρ σ) : tn_A Γ (pc) loc (.int y :: .int x :: st) ca sl ks ρ σ := by
  obtain ⟨⟨p, l, e, R, s, m, args, below, meth, c, Q⟩, D, cA, A, H0, g0, n0⟩ := Γ
  obtain ⟨hx, hb, hml, hown, hts, hK, hR, hrt, hlk, hnm, hA⟩ := hΓ
  intro g H locs ls hP hS hl ho1 ho2 hg hn
  exact lv_ior hx hb hd (k g H locs ls hP hS hl ho1 (tn_okL.cons trivial ho2.tl.tl) hg hn)
theorem tn_ixor (hΓ : tn_is Γ z) {x y : Int32} (hd : decode z.2.1 pc = .ok (.ixor, 1)) (k : tn_A Γ (pc + 1) loc (.int (x ^^^ y) :: st) ca sl ks ρ σ) : tn_A Γ (pc) loc (.int y :: .int x :: st) ca sl ks ρ σ := by
  obtain ⟨⟨p, l, e, R, s, m, args, below, meth, c, Q⟩, D, cA, A, H0, g0, n0⟩ := Γ
  obtain ⟨hx, hb, hml, hown, hts, hK, hR, hrt, hlk, hnm, hA⟩ := hΓ
  intro g H locs ls hP hS hl ho1 ho2 hg hn
  exact lv_ixor hx hb hd (k g H locs ls hP hS hl ho1 (tn_okL.cons trivial ho2.tl.tl) hg hn)
theorem tn_ishl (hΓ : tn_is Γ z) {x y : Int32} (hd : decode z.2.1 pc = .ok (.ishl, 1)) (k : tn_A Γ (pc + 1) loc (.int (x <<< (y &&& 31)) :: st) ca sl ks ρ σ) : tn_A Γ (pc) loc (.int y :: .int x :: st) ca sl ks ρ σ := by
  obtain ⟨⟨p, l, e, R, s, m, args, below, meth, c, Q⟩, D, cA, A, H0, g0, n0⟩ := Γ
  obtain ⟨hx, hb, hml, hown, hts, hK, hR, hrt, hlk, hnm, hA⟩ := hΓ
  intro g H locs ls hP hS hl ho1 ho2 hg hn
  exact lv_ishl hx hb hd (k g H locs ls hP hS hl ho1 (tn_okL.cons trivial ho2.tl.tl) hg hn)
theorem tn_ishr (hΓ : tn_is Γ z) {x y : Int32} (hd : decode z.2.1 pc = .ok (.ishr, 1)) (k : tn_A Γ (pc + 1) loc (.int (x >>> (y &&& 31)) :: st) ca sl ks ρ σ) : tn_A Γ (pc) loc (.int y :: .int x :: st) ca sl ks ρ σ := by
  obtain ⟨⟨p, l, e, R, s, m, args, below, meth, c, Q⟩, D, cA, A, H0, g0, n0⟩ := Γ
  obtain ⟨hx, hb, hml, hown, hts, hK, hR, hrt, hlk, hnm, hA⟩ := hΓ
  intro g H locs ls hP hS hl ho1 ho2 hg hn
  exact lv_ishr hx hb hd (k g H locs ls hP hS hl ho1 (tn_okL.cons trivial ho2.tl.tl) hg hn)
theorem tn_iushr (hΓ : tn_is Γ z) {x y : Int32} (hd : decode z.2.1 pc = .ok (.iushr, 1)) (k : tn_A Γ (pc + 1) loc (.int (x.toUInt32 >>> (y.toUInt32 &&& Int32.toUInt32 31)).toInt32 :: st) ca sl ks ρ σ) : tn_A Γ (pc) loc (.int y :: .int x :: st) ca sl ks ρ σ := by
  obtain ⟨⟨p, l, e, R, s, m, args, below, meth, c, Q⟩, D, cA, A, H0, g0, n0⟩ := Γ
  obtain ⟨hx, hb, hml, hown, hts, hK, hR, hrt, hlk, hnm, hA⟩ := hΓ
  intro g H locs ls hP hS hl ho1 ho2 hg hn
  exact lv_iushr hx hb hd rfl (k g H locs ls hP hS hl ho1 (tn_okL.cons trivial ho2.tl.tl) hg hn)
theorem tn_idiv (hΓ : tn_is Γ z) {x y : Int32} (hd : decode z.2.1 pc = .ok (.idiv, 1)) (hy : ¬ y = 0) (k : tn_A Γ (pc + 1) loc (.int (x / y) :: st) ca sl ks ρ σ) : tn_A Γ (pc) loc (.int y :: .int x :: st) ca sl ks ρ σ := by
  obtain ⟨⟨p, l, e, R, s, m, args, below, meth, c, Q⟩, D, cA, A, H0, g0, n0⟩ := Γ
  obtain ⟨hx, hb, hml, hown, hts, hK, hR, hrt, hlk, hnm, hA⟩ := hΓ
  intro g H locs ls hP hS hl ho1 ho2 hg hn
  exact lv_idiv hx hb hd hy (k g H locs ls hP hS hl ho1 (tn_okL.cons trivial ho2.tl.tl) hg hn)
theorem tn_irem (hΓ : tn_is Γ z) {x y : Int32} (hd : decode z.2.1 pc = .ok (.irem, 1)) (hy : ¬ y = 0) (k : tn_A Γ (pc + 1) loc (.int (x - x / y * y) :: st) ca sl ks ρ σ) : tn_A Γ (pc) loc (.int y :: .int x :: st) ca sl ks ρ σ := by
  obtain ⟨⟨p, l, e, R, s, m, args, below, meth, c, Q⟩, D, cA, A, H0, g0, n0⟩ := Γ
  obtain ⟨hx, hb, hml, hown, hts, hK, hR, hrt, hlk, hnm, hA⟩ := hΓ
  intro g H locs ls hP hS hl ho1 ho2 hg hn
  exact lv_irem hx hb hd hy (k g H locs ls hP hS hl ho1 (tn_okL.cons trivial ho2.tl.tl) hg hn)
theorem tn_ldiv (hΓ : tn_is Γ z) {x y : Int64} (hd : decode z.2.1 pc = .ok (.ldiv, 1)) (hy : ¬ y = 0) (k : tn_A Γ (pc + 1) loc (.long (x / y) :: st) ca sl ks ρ σ) : tn_A Γ (pc) loc (.long y :: .long x :: st) ca sl ks ρ σ := by
  obtain ⟨⟨p, l, e, R, s, m, args, below, meth, c, Q⟩, D, cA, A, H0, g0, n0⟩ := Γ
  obtain ⟨hx, hb, hml, hown, hts, hK, hR, hrt, hlk, hnm, hA⟩ := hΓ
  intro g H locs ls hP hS hl ho1 ho2 hg hn
  exact lv_ldiv hx hb hd hy (k g H locs ls hP hS hl ho1 (tn_okL.cons trivial ho2.tl.tl) hg hn)
theorem tn_lrem (hΓ : tn_is Γ z) {x y : Int64} (hd : decode z.2.1 pc = .ok (.lrem, 1)) (hy : ¬ y = 0) (k : tn_A Γ (pc + 1) loc (.long (x - x / y * y) :: st) ca sl ks ρ σ) : tn_A Γ (pc) loc (.long y :: .long x :: st) ca sl ks ρ σ := by
  obtain ⟨⟨p, l, e, R, s, m, args, below, meth, c, Q⟩, D, cA, A, H0, g0, n0⟩ := Γ
  obtain ⟨hx, hb, hml, hown, hts, hK, hR, hrt, hlk, hnm, hA⟩ := hΓ
  intro g H locs ls hP hS hl ho1 ho2 hg hn
  exact lv_lrem hx hb hd hy (k g H locs ls hP hS hl ho1 (tn_okL.cons trivial ho2.tl.tl) hg hn)
theorem tn_lcmp (hΓ : tn_is Γ z) {x y : Int64} (hd : decode z.2.1 pc = .ok (.lcmp, 1)) (k : tn_A Γ (pc + 1) loc (.int (lg_cmp x y) :: st) ca sl ks ρ σ) : tn_A Γ (pc) loc (.long y :: .long x :: st) ca sl ks ρ σ := by
  obtain ⟨⟨p, l, e, R, s, m, args, below, meth, c, Q⟩, D, cA, A, H0, g0, n0⟩ := Γ
  obtain ⟨hx, hb, hml, hown, hts, hK, hR, hrt, hlk, hnm, hA⟩ := hΓ
  intro g H locs ls hP hS hl ho1 ho2 hg hn
  exact W.lcmp hx hb hd (k g H locs ls hP hS hl ho1 (tn_okL.cons trivial ho2.tl.tl) hg hn)
theorem tn_i2b (hΓ : tn_is Γ z) {x : Int32} (hd : decode z.2.1 pc = .ok (.i2b, 1)) (k : tn_A Γ (pc + 1) loc (.int (x.toInt8.toInt32) :: st) ca sl ks ρ σ) : tn_A Γ (pc) loc (.int x :: st) ca sl ks ρ σ := by
  obtain ⟨⟨p, l, e, R, s, m, args, below, meth, c, Q⟩, D, cA, A, H0, g0, n0⟩ := Γ
  obtain ⟨hx, hb, hml, hown, hts, hK, hR, hrt, hlk, hnm, hA⟩ := hΓ
  intro g H locs ls hP hS hl ho1 ho2 hg hn
  exact lv_i2b hx hb hd rfl (k g H locs ls hP hS hl ho1 (tn_okL.cons trivial ho2.tl) hg hn)
theorem tn_i2s (hΓ : tn_is Γ z) {x : Int32} (hd : decode z.2.1 pc = .ok (.i2s, 1)) (k : tn_A Γ (pc + 1) loc (.int (x.toInt16.toInt32) :: st) ca sl ks ρ σ) : tn_A Γ (pc) loc (.int x :: st) ca sl ks ρ σ := by
  obtain ⟨⟨p, l, e, R, s, m, args, below, meth, c, Q⟩, D, cA, A, H0, g0, n0⟩ := Γ
  obtain ⟨hx, hb, hml, hown, hts, hK, hR, hrt, hlk, hnm, hA⟩ := hΓ
  intro g H locs ls hP hS hl ho1 ho2 hg hn
  exact lv_i2s hx hb hd rfl (k g H locs ls hP hS hl ho1 (tn_okL.cons trivial ho2.tl) hg hn)
theorem tn_i2l (hΓ : tn_is Γ z) {x : Int32} (hd : decode z.2.1 pc = .ok (.i2l, 1)) (k : tn_A Γ (pc + 1) loc (.long (x.toInt64) :: st) ca sl ks ρ σ) : tn_A Γ (pc) loc (.int x :: st) ca sl ks ρ σ := by
  obtain ⟨⟨p, l, e, R, s, m, args, below, meth, c, Q⟩, D, cA, A, H0, g0, n0⟩ := Γ
  obtain ⟨hx, hb, hml, hown, hts, hK, hR, hrt, hlk, hnm, hA⟩ := hΓ
  intro g H locs ls hP hS hl ho1 ho2 hg hn
  exact lv_i2l hx hb hd rfl (k g H locs ls hP hS hl ho1 (tn_okL.cons trivial ho2.tl) hg hn)
theorem tn_if_eq (hΓ : tn_is Γ z) {x : Int32} {off : Int} {tgt : Nat} (hd : decode z.2.1 pc = .ok (.ifCond .eq off, 3)) (ht : (pc : Int) + off = (tgt : Int)) (k1 : x = 0 → tn_A Γ (tgt) loc (st) ca sl ks ρ σ) (k2 : ¬ x = 0 → tn_A Γ (pc + 3) loc (st) ca sl ks ρ σ) : tn_A Γ (pc) loc (.int x :: st) ca sl ks ρ σ := by
  obtain ⟨⟨p, l, e, R, s, m, args, below, meth, c, Q⟩, D, cA, A, H0, g0, n0⟩ := Γ
  obtain ⟨hx, hb, hml, hown, hts, hK, hR, hrt, hlk, hnm, hA⟩ := hΓ
  intro g H locs ls hP hS hl ho1 ho2 hg hn
  exact lv_if_eq hx hb hd ht (fun q => k1 q g H locs ls hP hS hl ho1 ho2.tl hg hn) (fun q => k2 q g H locs ls hP hS hl ho1 ho2.tl hg hn)
theorem tn_icmp_eq (hΓ : tn_is Γ z) {x y : Int32} {off : Int} {tgt : Nat} (hd : decode z.2.1 pc = .ok (.if_icmp .eq off, 3)) (ht : (pc : Int) + off = (tgt : Int)) (k1 : x = y → tn_A Γ (tgt) loc (st) ca sl ks ρ σ) (k2 : ¬ x = y → tn_A Γ (pc + 3) loc (st) ca sl ks ρ σ) : tn_A Γ (pc) loc (.int y :: .int x :: st) ca sl ks ρ σ := by
  obtain ⟨⟨p, l, e, R, s, m, args, below, meth, c, Q⟩, D, cA, A, H0, g0, n0⟩ := Γ
  obtain ⟨hx, hb, hml, hown, hts, hK, hR, hrt, hlk, hnm, hA⟩ := hΓ
  intro g H locs ls hP hS hl ho1 ho2 hg hn
  exact lv_icmp_eq hx hb hd ht (fun q => k1 q g H locs ls hP hS hl ho1 ho2.tl.tl hg hn) (fun q => k2 q g H locs ls hP hS hl ho1 ho2.tl.tl hg hn)
theorem tn_if_ne (hΓ : tn_is Γ z) {x : Int32} {off : Int} {tgt : Nat} (hd : decode z.2.1 pc = .ok (.ifCond .ne off, 3)) (ht : (pc : Int) + off = (tgt : Int)) (k1 : ¬ x = 0 → tn_A Γ (tgt) loc (st) ca sl ks ρ σ) (k2 : x = 0 → tn_A Γ (pc + 3) loc (st) ca sl ks ρ σ) : tn_A Γ (pc) loc (.int x :: st) ca sl ks ρ σ := by
  obtain ⟨⟨p, l, e, R, s, m, args, below, meth, c, Q⟩, D, cA, A, H0, g0, n0⟩ := Γ
  obtain ⟨hx, hb, hml, hown, hts, hK, hR, hrt, hlk, hnm, hA⟩ := hΓ
  intro g H locs ls hP hS hl ho1 ho2 hg hn
  exact lv_if_ne hx hb hd ht (fun q => k1 q g H locs ls hP hS hl ho1 ho2.tl hg hn) (fun q => k2 q g H locs ls hP hS hl ho1 ho2.tl hg hn)
theorem tn_icmp_ne (hΓ : tn_is Γ z) {x y : Int32} {off : Int} {tgt : Nat} (hd : decode z.2.1 pc = .ok (.if_icmp .ne off, 3)) (ht : (pc : Int) + off = (tgt : Int)) (k1 : ¬ x = y → tn_A Γ (tgt) loc (st) ca sl ks ρ σ) (k2 : x = y → tn_A Γ (pc + 3) loc (st) ca sl ks ρ σ) : tn_A Γ (pc) loc (.int y :: .int x :: st) ca sl ks ρ σ := by
  obtain ⟨⟨p, l, e, R, s, m, args, below, meth, c, Q⟩, D, cA, A, H0, g0, n0⟩ := Γ
  obtain ⟨hx, hb, hml, hown, hts, hK, hR, hrt, hlk, hnm, hA⟩ := hΓ
  intro g H locs ls hP hS hl ho1 ho2 hg hn
  exact lv_icmp_ne hx hb hd ht (fun q => k1 q g H locs ls hP hS hl ho1 ho2.tl.tl hg hn) (fun q => k2 q g H locs ls hP hS hl ho1 ho2.tl.tl hg hn)
theorem tn_if_lt (hΓ : tn_is Γ z) {x : Int32} {off : Int} {tgt : Nat} (hd : decode z.2.1 pc = .ok (.ifCond .lt off, 3)) (ht : (pc : Int) + off = (tgt : Int)) (k1 : x < 0 → tn_A Γ (tgt) loc (st) ca sl ks ρ σ) (k2 : ¬ x < 0 → tn_A Γ (pc + 3) loc (st) ca sl ks ρ σ) : tn_A Γ (pc) loc (.int x :: st) ca sl ks ρ σ := by
  obtain ⟨⟨p, l, e, R, s, m, args, below, meth, c, Q⟩, D, cA, A, H0, g0, n0⟩ := Γ
  obtain ⟨hx, hb, hml, hown, hts, hK, hR, hrt, hlk, hnm, hA⟩ := hΓ
  intro g H locs ls hP hS hl ho1 ho2 hg hn
  exact lv_if_lt hx hb hd ht (fun q => k1 q g H locs ls hP hS hl ho1 ho2.tl hg hn) (fun q => k2 q g H locs ls hP hS hl ho1 ho2.tl hg hn)
theorem tn_icmp_lt (hΓ : tn_is Γ z) {x y : Int32} {off : Int} {tgt : Nat} (hd : decode z.2.1 pc = .ok (.if_icmp .lt off, 3)) (ht : (pc : Int) + off = (tgt : Int)) (k1 : x < y → tn_A Γ (tgt) loc (st) ca sl ks ρ σ) (k2 : ¬ x < y → tn_A Γ (pc + 3) loc (st) ca sl ks ρ σ) : tn_A Γ (pc) loc (.int y :: .int x :: st) ca sl ks ρ σ := by
  obtain ⟨⟨p, l, e, R, s, m, args, below, meth, c, Q⟩, D, cA, A, H0, g0, n0⟩ := Γ
  obtain ⟨hx, hb, hml, hown, hts, hK, hR, hrt, hlk, hnm, hA⟩ := hΓ
  intro g H locs ls hP hS hl ho1 ho2 hg hn
  exact lv_icmp_lt hx hb hd ht (fun q => k1 q g H locs ls hP hS hl ho1 ho2.tl.tl hg hn) (fun q => k2 q g H locs ls hP hS hl ho1 ho2.tl.tl hg hn)
theorem tn_if_ge (hΓ : tn_is Γ z) {x : Int32} {off : Int} {tgt : Nat} (hd : decode z.2.1 pc = .ok (.ifCond .ge off, 3)) (ht : (pc : Int) + off = (tgt : Int)) (k1 : 0 ≤ x → tn_A Γ (tgt) loc (st) ca sl ks ρ σ) (k2 : ¬ 0 ≤ x → tn_A Γ (pc + 3) loc (st) ca sl ks ρ σ) : tn_A Γ (pc) loc (.int x :: st) ca sl ks ρ σ := by
  obtain ⟨⟨p, l, e, R, s, m, args, below, meth, c, Q⟩, D, cA, A, H0, g0, n0⟩ := Γ
  obtain ⟨hx, hb, hml, hown, hts, hK, hR, hrt, hlk, hnm, hA⟩ := hΓ
  intro g H locs ls hP hS hl ho1 ho2 hg hn
  exact lv_if_ge hx hb hd ht (fun q => k1 q g H locs ls hP hS hl ho1 ho2.tl hg hn) (fun q => k2 q g H locs ls hP hS hl ho1 ho2.tl hg hn)
theorem tn_icmp_ge (hΓ : tn_is Γ z) {x y : Int32} {off : Int} {tgt : Nat} (hd : decode z.2.1 pc = .ok (.if_icmp .ge off, 3)) (ht : (pc : Int) + off = (tgt : Int)) (k1 : y ≤ x → tn_A Γ (tgt) loc (st) ca sl ks ρ σ) (k2 : ¬ y ≤ x → tn_A Γ (pc + 3) loc (st) ca sl ks ρ σ) : tn_A Γ (pc) loc (.int y :: .int x :: st) ca sl ks ρ σ := by
  obtain ⟨⟨p, l, e, R, s, m, args, below, meth, c, Q⟩, D, cA, A, H0, g0, n0⟩ := Γ
  obtain ⟨hx, hb, hml, hown, hts, hK, hR, hrt, hlk, hnm, hA⟩ := hΓ
  intro g H locs ls hP hS hl ho1 ho2 hg hn
  exact lv_icmp_ge hx hb hd ht (fun q => k1 q g H locs ls hP hS hl ho1 ho2.tl.tl hg hn) (fun q => k2 q g H locs ls hP hS hl ho1 ho2.tl.tl hg hn)
theorem tn_if_gt (hΓ : tn_is Γ z) {x : Int32} {off : Int} {tgt : Nat} (hd : decode z.2.1 pc = .ok (.ifCond .gt off, 3)) (ht : (pc : Int) + off = (tgt : Int)) (k1 : 0 < x → tn_A Γ (tgt) loc (st) ca sl ks ρ σ) (k2 : ¬ 0 < x → tn_A Γ (pc + 3) loc (st) ca sl ks ρ σ) : tn_A Γ (pc) loc (.int x :: st) ca sl ks ρ σ := by
  obtain ⟨⟨p, l, e, R, s, m, args, below, meth, c, Q⟩, D, cA, A, H0, g0, n0⟩ := Γ
  obtain ⟨hx, hb, hml, hown, hts, hK, hR, hrt, hlk, hnm, hA⟩ := hΓ
  intro g H locs ls hP hS hl ho1 ho2 hg hn
  exact lv_if_gt hx hb hd ht (fun q => k1 q g H locs ls hP hS hl ho1 ho2.tl hg hn) (fun q => k2 q g H locs ls hP hS hl ho1 ho2.tl hg hn)
theorem tn_icmp_gt (hΓ : tn_is Γ z) {x y : Int32} {off : Int} {tgt : Nat} (hd : decode z.2.1 pc = .ok (.if_icmp .gt off, 3)) (ht : (pc : Int) + off = (tgt : Int)) (k1 : y < x → tn_A Γ (tgt) loc (st) ca sl ks ρ σ) (k2 : ¬ y < x → tn_A Γ (pc + 3) loc (st) ca sl ks ρ σ) : tn_A Γ (pc) loc (.int y :: .int x :: st) ca sl ks ρ σ := by
  obtain ⟨⟨p, l, e, R, s, m, args, below, meth, c, Q⟩, D, cA, A, H0, g0, n0⟩ := Γ
  obtain ⟨hx, hb, hml, hown, hts, hK, hR, hrt, hlk, hnm, hA⟩ := hΓ
  intro g H locs ls hP hS hl ho1 ho2 hg hn
  exact lv_icmp_gt hx hb hd ht (fun q => k1 q g H locs ls hP hS hl ho1 ho2.tl.tl hg hn) (fun q => k2 q g H locs ls hP hS hl ho1 ho2.tl.tl hg hn)
theorem tn_if_le (hΓ : tn_is Γ z) {x : Int32} {off : Int} {tgt : Nat} (hd : decode z.2.1 pc = .ok (.ifCond .le off, 3)) (ht : (pc : Int) + off = (tgt : Int)) (k1 : x ≤ 0 → tn_A Γ (tgt) loc (st) ca sl ks ρ σ) (k2 : ¬ x ≤ 0 → tn_A Γ (pc + 3) loc (st) ca sl ks ρ σ) : tn_A Γ (pc) loc (.int x :: st) ca sl ks ρ σ := by
  obtain ⟨⟨p, l, e, R, s, m, args, below, meth, c, Q⟩, D, cA, A, H0, g0, n0⟩ := Γ
  obtain ⟨hx, hb, hml, hown, hts, hK, hR, hrt, hlk, hnm, hA⟩ := hΓ
  intro g H locs ls hP hS hl ho1 ho2 hg hn
  exact lv_if_le hx hb hd ht (fun q => k1 q g H locs ls hP hS hl ho1 ho2.tl hg hn) (fun q => k2 q g H locs ls hP hS hl ho1 ho2.tl hg hn)
theorem tn_icmp_le (hΓ : tn_is Γ z) {x y : Int32} {off : Int} {tgt : Nat} (hd : decode z.2.1 pc = .ok (.if_icmp .le off, 3)) (ht : (pc : Int) + off = (tgt : Int)) (k1 : x ≤ y → tn_A Γ (tgt) loc (st) ca sl ks ρ σ) (k2 : ¬ x ≤ y → tn_A Γ (pc + 3) loc (st) ca sl ks ρ σ) : tn_A Γ (pc) loc (.int y :: .int x :: st) ca sl ks ρ σ := by
  obtain ⟨⟨p, l, e, R, s, m, args, below, meth, c, Q⟩, D, cA, A, H0, g0, n0⟩ := Γ
  obtain ⟨hx, hb, hml, hown, hts, hK, hR, hrt, hlk, hnm, hA⟩ := hΓ
  intro g H locs ls hP hS hl ho1 ho2 hg hn
  exact lv_icmp_le hx hb hd ht (fun q => k1 q g H locs ls hP hS hl ho1 ho2.tl.tl hg hn) (fun q => k2 q g H locs ls hP hS hl ho1 ho2.tl.tl hg hn)
theorem tn_goto (hΓ : tn_is Γ z) {off : Int} {tgt : Nat} (hd : decode z.2.1 pc = .ok (.goto off, 3)) (ht : (pc : Int) + off = (tgt : Int)) (k : tn_A Γ (tgt) loc (st) ca sl ks ρ σ) : tn_A Γ (pc) loc (st) ca sl ks ρ σ := by
  obtain ⟨⟨p, l, e, R, s, m, args, below, meth, c, Q⟩, D, cA, A, H0, g0, n0⟩ := Γ
  obtain ⟨hx, hb, hml, hown, hts, hK, hR, hrt, hlk, hnm, hA⟩ := hΓ
  intro g H locs ls hP hS hl ho1 ho2 hg hn
  exact lv_goto hx hb hd ht (k g H locs ls hP hS hl ho1 ho2 hg hn)
theorem tn_dupi (hΓ : tn_is Γ z) {x : Int32} (hd : decode z.2.1 pc = .ok (.dup, 1)) (k : tn_A Γ (pc + 1) loc (.int x :: .int x :: st) ca sl ks ρ σ) : tn_A Γ (pc) loc (.int x :: st) ca sl ks ρ σ := by
  obtain ⟨⟨p, l, e, R, s, m, args, below, meth, c, Q⟩, D, cA, A, H0, g0, n0⟩ := Γ
  obtain ⟨hx, hb, hml, hown, hts, hK, hR, hrt, hlk, hnm, hA⟩ := hΓ
  intro g H locs ls hP hS hl ho1 ho2 hg hn
  exact lv_dup hx hb hd rfl (k g H locs ls hP hS hl ho1 (tn_okL.cons ho2.hd ho2) hg hn)
theorem tn_dupr (hΓ : tn_is Γ z) {x : Nat} (hd : decode z.2.1 pc = .ok (.dup, 1)) (k : tn_A Γ (pc + 1) loc (.ref x :: .ref x :: st) ca sl ks ρ σ) : tn_A Γ (pc) loc (.ref x :: st) ca sl ks ρ σ := by
  obtain ⟨⟨p, l, e, R, s, m, args, below, meth, c, Q⟩, D, cA, A, H0, g0, n0⟩ := Γ
  obtain ⟨hx, hb, hml, hown, hts, hK, hR, hrt, hlk, hnm, hA⟩ := hΓ
  intro g H locs ls hP hS hl ho1 ho2 hg hn
  exact lv_dup hx hb hd (by cases h : tn_gr g x <;> simp [tn_v, h, va_rf, Value.category]) (k g H locs ls hP hS hl ho1 (tn_okL.cons ho2.hd ho2) hg hn)
theorem tn_popi (hΓ : tn_is Γ z) {x : Int32} (hd : decode z.2.1 pc = .ok (.pop, 1)) (k : tn_A Γ (pc + 1) loc (st) ca sl ks ρ σ) : tn_A Γ (pc) loc (.int x :: st) ca sl ks ρ σ := by
  obtain ⟨⟨p, l, e, R, s, m, args, below, meth, c, Q⟩, D, cA, A, H0, g0, n0⟩ := Γ
  obtain ⟨hx, hb, hml, hown, hts, hK, hR, hrt, hlk, hnm, hA⟩ := hΓ
  intro g H locs ls hP hS hl ho1 ho2 hg hn
  exact lv_pop hx hb hd rfl (k g H locs ls hP hS hl ho1 ho2.tl hg hn)
theorem tn_dup2 (hΓ : tn_is Γ z) {x : Int32} {y : Nat} (hd : decode z.2.1 pc = .ok (.dup2, 1)) (k : tn_A Γ (pc + 1) loc (.int x :: .ref y :: .int x :: .ref y :: st) ca sl ks ρ σ) : tn_A Γ (pc) loc (.int x :: .ref y :: st) ca sl ks ρ σ := by
  obtain ⟨⟨p, l, e, R, s, m, args, below, meth, c, Q⟩, D, cA, A, H0, g0, n0⟩ := Γ
  obtain ⟨hx, hb, hml, hown, hts, hK, hR, hrt, hlk, hnm, hA⟩ := hΓ
  intro g H locs ls hP hS hl ho1 ho2 hg hn
  exact lv_dup2_11 hx hb hd rfl (by cases h : tn_gr g y <;> simp [tn_v, h, va_rf, Value.category]) (k g H locs ls hP hS hl ho1 (tn_okL.cons ho2.hd (tn_okL.cons ho2.tl.hd ho2)) hg hn)
theorem tn_tblOut (hΓ : tn_is Γ z) {dflt lo hi : Int} {offs : Array Int} {len : Nat} {x : Int32} {tgt : Nat} (hd : decode z.2.1 pc = .ok (.tableswitch dflt lo hi offs, len)) (h : x.toInt < lo ∨ hi < x.toInt) (ht : (pc : Int) + dflt = (tgt : Int)) (k : tn_A Γ (tgt) loc (st) ca sl ks ρ σ) : tn_A Γ (pc) loc (.int x :: st) ca sl ks ρ σ := by
  obtain ⟨⟨p, l, e, R, s, m, args, below, meth, c, Q⟩, D, cA, A, H0, g0, n0⟩ := Γ
  obtain ⟨hx, hb, hml, hown, hts, hK, hR, hrt, hlk, hnm, hA⟩ := hΓ
  intro g H locs ls hP hS hl ho1 ho2 hg hn
  exact lv_tableOut hx hb hd h ht (k g H locs ls hP hS hl ho1 ho2.tl hg hn)
theorem tn_tblIn (hΓ : tn_is Γ z) {dflt lo hi : Int} {offs : Array Int} {len : Nat} {x : Int32} {off : Int} {tgt : Nat} (hd : decode z.2.1 pc = .ok (.tableswitch dflt lo hi offs, len)) (h1 : ¬ x.toInt < lo) (h2 : ¬ hi < x.toInt) (ho : offs[(x.toInt - lo).toNat]? = some off) (ht : (pc : Int) + off = (tgt : Int)) (k : tn_A Γ (tgt) loc (st) ca sl ks ρ σ) : tn_A Γ (pc) loc (.int x :: st) ca sl ks ρ σ := by
  obtain ⟨⟨p, l, e, R, s, m, args, below, meth, c, Q⟩, D, cA, A, H0, g0, n0⟩ := Γ
  obtain ⟨hx, hb, hml, hown, hts, hK, hR, hrt, hlk, hnm, hA⟩ := hΓ
  intro g H locs ls hP hS hl ho1 ho2 hg hn
  exact lv_tableIn hx hb hd h1 h2 ho ht (k g H locs ls hP hS hl ho1 ho2.tl hg hn)
theorem tn_lookup (hΓ : tn_is Γ z) {dflt : Int} {ps : Array (Int × Int)} {len : Nat} {x : Int32} {off : Int} {tgt : Nat} (hd : decode z.2.1 pc = .ok (.lookupswitch dflt ps, len)) (hp : (ps.toList.zip (ps.toList.drop 1)).all (fun (a, next) => a.1 < next.1) = true) (ho : Op.lookupswitch.offset ps.toList dflt x.toInt = off) (ht : (pc : Int) + off = (tgt : Int)) (k : tn_A Γ (tgt) loc (st) ca sl ks ρ σ) : tn_A Γ (pc) loc (.int x :: st) ca sl ks ρ σ := by
  obtain ⟨⟨p, l, e, R, s, m, args, below, meth, c, Q⟩, D, cA, A, H0, g0, n0⟩ := Γ
  obtain ⟨hx, hb, hml, hown, hts, hK, hR, hrt, hlk, hnm, hA⟩ := hΓ
  intro g H locs ls hP hS hl ho1 ho2 hg hn
  exact lv_lookup hx hb hd hp ho ht (k g H locs ls hP hS hl ho1 ho2.tl hg hn)
/-- a field's link: own class, pool index; class, place -/
def tn_FL (own : String) (idx i k : Nat) : Prop := ∃ (C : String) (T : u_T) (ty : Nat → FieldType), i < 7 ∧ tn_cl[i]? = some (C, T, tn_N i) ∧ k < tn_N i ∧ (∀ w ∈ u_ws C T (tn_N i), w ∈ tn_tbl) ∧ (∀ k, k < tn_N i → parseFieldDescriptor (T k).2.2.1 = some (ty k)) ∧ (∀ a, a < tn_N i → ∀ b, b < tn_N i → a ≠ b → (T a).2.1 ≠ (T b).2.1) ∧ (T k).1 = C ∧ (Cond.fieldLink own idx C (T k).2.1 (T k).2.2.1 ∈ tn_tbl ∨ ∃ host, Cond.fieldLinkNest own idx C (T k).2.1 (T k).2.2.1 host ∈ tn_nst)
/-- the field's kind: 0 int, 1 boolean, 2 a final reference of this own class -/
def tn_FK (own : String) (i k q : Nat) : Prop := ∃ (C : String) (T : u_T), tn_cl[i]? = some (C, T, tn_N i) ∧ match q with
  | 0 => parseFieldDescriptor (T k).2.2.1 = some .int ∧ (T k).2.2.2 = false
  | 1 => parseFieldDescriptor (T k).2.2.1 = some .boolean ∧ (T k).2.2.2 = false
  | _ => (T k).2.2.2 = true ∧ (T k).1 = own ∧ ((∃ r, parseFieldDescriptor (T k).2.2.1 = some (.object r)) ∨ (∃ r, parseFieldDescriptor (T k).2.2.1 = some (.array r)))
theorem tn_getI (hΓ : tn_is Γ z) {x idx i k n : Nat} (hd : decode z.2.1 pc = .ok (.getfield idx, 3)) (hf : tn_FL z.1.cls idx i k) (hr : tn_isR i k = false) (hk : tn_kd ks x = some (i, n)) (kk : tn_A Γ (pc + 3) loc (.int (σ x k) :: st) ca sl ks ρ σ) : tn_A Γ (pc) loc (.ref x :: st) ca sl ks ρ σ := by
  obtain ⟨⟨p, l, e, R, s, m, args, below, meth, c, Q⟩, D, cA, A, H0, g0, n0⟩ := Γ
  obtain ⟨hx, hb, hml, hown, hts, hK, hR, hrt, hlk, hnm, hA⟩ := hΓ
  intro g H locs ls hP hS hl ho1 ho2 hg hn
  obtain ⟨C, T, ty, hi, hc, hkN, hus, hty, hnm2, hdecl, hlink⟩ := hf
  have he := tn_at (cA := cA) (g := g) (ρ := ρ) (σ := σ) hk
  have he : (tn_C cA g ks ρ σ)[x - 2]? = some (g x, .inr (i, tn_fs i g ρ σ x)) := by rw [he]; simp [tn_e, hi]
  have hv : (tn_fs i g ρ σ x)[k]? = some (.int (σ x k)) := by rw [tn_fsN hkN, hr]; rfl
  have hx2 := (tn_kd2 hk).1
  have h1 := kk g H locs ls hP hS hl ho1 (tn_okL.cons trivial ho2.tl) hg hn
  show W p l e R s m args below meth c H locs ca sl Q (F0 m pc ls (va_rf (tn_gr g x) :: st.map (tn_v g)))
  rw [tn_gr2 (by omega)]
  rcases hlink with hlink | ⟨host, hlink⟩
  · exact va_get (D := D) (ci := i) hx hb hts hus hown hK.1 hP.1 (x - 2) he hc k hkN (hts _ hlink) (fun q h => by rw [hdecl] at h; exact h) hv hd h1
  · exact va_getN (D := D) (ci := i) hx hb hts hus hown hK.1 hP.1 (x - 2) he hc k hkN (va_Nw.use rfl (hK.2.1 _ hlink)) (fun q h => by rw [hdecl] at h; exact h) hv hd h1
theorem tn_getR (hΓ : tn_is Γ z) {x idx i k n : Nat} (hd : decode z.2.1 pc = .ok (.getfield idx, 3)) (hf : tn_FL z.1.cls idx i k) (hr : tn_isR i k = true) (hk : tn_kd ks x = some (i, n)) (kk : tn_A Γ (pc + 3) loc (.ref (ρ x k) :: st) ca sl ks ρ σ) : tn_A Γ (pc) loc (.ref x :: st) ca sl ks ρ σ := by
  obtain ⟨⟨p, l, e, R, s, m, args, below, meth, c, Q⟩, D, cA, A, H0, g0, n0⟩ := Γ
  obtain ⟨hx, hb, hml, hown, hts, hK, hR, hrt, hlk, hnm, hA⟩ := hΓ
  intro g H locs ls hP hS hl ho1 ho2 hg hn
  obtain ⟨C, T, ty, hi, hc, hkN, hus, hty, hnm2, hdecl, hlink⟩ := hf
  have he := tn_at (cA := cA) (g := g) (ρ := ρ) (σ := σ) hk
  have he : (tn_C cA g ks ρ σ)[x - 2]? = some (g x, .inr (i, tn_fs i g ρ σ x)) := by rw [he]; simp [tn_e, hi]
  have hv : (tn_fs i g ρ σ x)[k]? = some (va_rf (tn_gr g (ρ x k))) := by rw [tn_fsN hkN, hr]; rfl
  have hx2 := (tn_kd2 hk).1
  have h1 := kk g H locs ls hP hS hl ho1 (tn_okL.cons (v := .ref (ρ x k)) (hP.2.2 x k) ho2.tl) hg hn
  show W p l e R s m args below meth c H locs ca sl Q (F0 m pc ls (va_rf (tn_gr g x) :: st.map (tn_v g)))
  rw [tn_gr2 (by omega)]
  rcases hlink with hlink | ⟨host, hlink⟩
  · exact va_get (D := D) (ci := i) hx hb hts hus hown hK.1 hP.1 (x - 2) he hc k hkN (hts _ hlink) (fun q h => by rw [hdecl] at h; exact h) hv hd h1
  · exact va_getN (D := D) (ci := i) hx hb hts hus hown hK.1 hP.1 (x - 2) he hc k hkN (va_Nw.use rfl (hK.2.1 _ hlink)) (fun q h => by rw [hdecl] at h; exact h) hv hd h1
theorem tn_putI (hΓ : tn_is Γ z) {x idx i k n : Nat} {y : Int32} (hd : decode z.2.1 pc = .ok (.putfield idx, 3)) (hf : tn_FL z.1.cls idx i k) (hq : tn_FK z.1.cls i k 0) (hr : tn_isR i k = false) (hk : tn_kd ks x = some (i, n)) (kk : tn_A Γ (pc + 3) loc (st) ca sl ks ρ (tn_u σ x k y)) : tn_A Γ (pc) loc (.int y :: .ref x :: st) ca sl ks ρ σ := by
  obtain ⟨⟨p, l, e, R, s, m, args, below, meth, c, Q⟩, D, cA, A, H0, g0, n0⟩ := Γ
  obtain ⟨hx, hb, hml, hown, hts, hK, hR, hrt, hlk, hnm, hA⟩ := hΓ
  intro g H locs ls hP hS hl ho1 ho2 hg hn
  obtain ⟨C, T, ty, hi, hc, hkN, hus, hty, hnm2, hdecl, hlink⟩ := hf
  obtain ⟨C', T', hc', hq1, hq2⟩ := hq
  cases hc.symm.trans hc'
  have he := tn_at (cA := cA) (g := g) (ρ := ρ) (σ := σ) hk
  have he : (tn_C cA g ks ρ σ)[x - 2]? = some (g x, .inr (i, tn_fs i g ρ σ x)) := by rw [he]; simp [tn_e, hi]
  have hx2 := (tn_kd2 hk).1
  have hset := tn_C_set (cA := cA) (g := g) (ρ := ρ) (σ := σ) (k := k) (x := y) hk hi hr
  show W p l e R s m args below meth c H locs ca sl Q (F0 m pc ls (.int y :: va_rf (tn_gr g x) :: st.map (tn_v g)))
  rw [tn_gr2 (by omega)]
  rcases hlink with hlink | ⟨host, hlink⟩
  · refine va_put (D := D) (ci := i) (ty := .int) hx hb hts hus ty hty hnm2 hown hK.1 hP.1 hP.2.1 hS (x - 2) he hc k hkN (hts _ hlink) (fun q h => by rw [hdecl] at h; exact h) hq2 hq1 rfl rfl (by rw [tn_fsL]; exact hkN) hd (fun H1 locs1 h1 h2 h3 => ?_)
    rw [hset] at h1 h2
    exact kk g H1 locs1 ls ⟨h1, h2, hP.2.2⟩ h3 hl ho1 ho2.tl.tl hg hn
  · refine va_putN (D := D) (ci := i) (ty := .int) hx hb hts hus ty hty hnm2 hown hK.1 hP.1 hP.2.1 hS (x - 2) he hc k hkN (va_Nw.use rfl (hK.2.1 _ hlink)) (fun q h => by rw [hdecl] at h; exact h) hq2 hq1 rfl rfl (by rw [tn_fsL]; exact hkN) hd (fun H1 locs1 h1 h2 h3 => ?_)
    rw [hset] at h1 h2
    exact kk g H1 locs1 ls ⟨h1, h2, hP.2.2⟩ h3 hl ho1 ho2.tl.tl hg hn
theorem tn_putZ (hΓ : tn_is Γ z) {x idx i k n : Nat} {y : Int32} (hd : decode z.2.1 pc = .ok (.putfield idx, 3)) (hf : tn_FL z.1.cls idx i k) (hq : tn_FK z.1.cls i k 1) (hr : tn_isR i k = false) (hk : tn_kd ks x = some (i, n)) (hy : y = 0 ∨ y = 1) (kk : tn_A Γ (pc + 3) loc (st) ca sl ks ρ (tn_u σ x k y)) : tn_A Γ (pc) loc (.int y :: .ref x :: st) ca sl ks ρ σ := by
  obtain ⟨⟨p, l, e, R, s, m, args, below, meth, c, Q⟩, D, cA, A, H0, g0, n0⟩ := Γ
  obtain ⟨hx, hb, hml, hown, hts, hK, hR, hrt, hlk, hnm, hA⟩ := hΓ
  intro g H locs ls hP hS hl ho1 ho2 hg hn
  obtain ⟨C, T, ty, hi, hc, hkN, hus, hty, hnm2, hdecl, hlink⟩ := hf
  obtain ⟨C', T', hc', hq1, hq2⟩ := hq
  cases hc.symm.trans hc'
  have he := tn_at (cA := cA) (g := g) (ρ := ρ) (σ := σ) hk
  have he : (tn_C cA g ks ρ σ)[x - 2]? = some (g x, .inr (i, tn_fs i g ρ σ x)) := by rw [he]; simp [tn_e, hi]
  have hx2 := (tn_kd2 hk).1
  have hset := tn_C_set (cA := cA) (g := g) (ρ := ρ) (σ := σ) (k := k) (x := y) hk hi hr
  show W p l e R s m args below meth c H locs ca sl Q (F0 m pc ls (.int y :: va_rf (tn_gr g x) :: st.map (tn_v g)))
  rw [tn_gr2 (by omega)]
  rcases hlink with hlink | ⟨host, hlink⟩
  · refine va_put (D := D) (ci := i) (ty := .boolean) hx hb hts hus ty hty hnm2 hown hK.1 hP.1 hP.2.1 hS (x - 2) he hc k hkN (hts _ hlink) (fun q h => by rw [hdecl] at h; exact h) hq2 hq1 (by rcases hy with rfl | rfl <;> rfl) (by rcases hy with rfl | rfl <;> rfl) (by rw [tn_fsL]; exact hkN) hd (fun H1 locs1 h1 h2 h3 => ?_)
    rw [hset] at h1 h2
    exact kk g H1 locs1 ls ⟨h1, h2, hP.2.2⟩ h3 hl ho1 ho2.tl.tl hg hn
  · refine va_putN (D := D) (ci := i) (ty := .boolean) hx hb hts hus ty hty hnm2 hown hK.1 hP.1 hP.2.1 hS (x - 2) he hc k hkN (va_Nw.use rfl (hK.2.1 _ hlink)) (fun q h => by rw [hdecl] at h; exact h) hq2 hq1 (by rcases hy with rfl | rfl <;> rfl) (by rcases hy with rfl | rfl <;> rfl) (by rw [tn_fsL]; exact hkN) hd (fun H1 locs1 h1 h2 h3 => ?_)
    rw [hset] at h1 h2
    exact kk g H1 locs1 ls ⟨h1, h2, hP.2.2⟩ h3 hl ho1 ho2.tl.tl hg hn
theorem tn_putR (hΓ : tn_is Γ z) {x idx i k n : Nat} {y : Nat} (hd : decode z.2.1 pc = .ok (.putfield idx, 3)) (hf : tn_FL z.1.cls idx i k) (hq : tn_FK z.1.cls i k 2) (hr : tn_isR i k = true) (hk : tn_kd ks x = some (i, n)) (hl0 : ∀ (C : String) (T : u_T), tn_cl[i]? = some (C, T, tn_N i) → Cond.fieldLink z.1.cls idx C (T k).2.1 (T k).2.2.1 ∈ tn_tbl) (hin : z.1.name = "<init>") (kk : tn_A Γ (pc + 3) loc (st) ca sl ks (tn_ur ρ x k y) σ) : tn_A Γ (pc) loc (.ref y :: .ref x :: st) ca sl ks ρ σ := by
  obtain ⟨⟨p, l, e, R, s, m, args, below, meth, c, Q⟩, D, cA, A, H0, g0, n0⟩ := Γ
  obtain ⟨hx, hb, hml, hown, hts, hK, hR, hrt, hlk, hnm, hA⟩ := hΓ
  intro g H locs ls hP hS hl ho1 ho2 hg hn
  obtain ⟨C, T, ty, hi, hc, hkN, hus, hty, hnm2, hdecl, hlink⟩ := hf
  obtain ⟨C', T', hc', hq1, hq2, hq3⟩ := hq
  cases hc.symm.trans hc'
  have he := tn_at (cA := cA) (g := g) (ρ := ρ) (σ := σ) hk
  have he : (tn_C cA g ks ρ σ)[x - 2]? = some (g x, .inr (i, tn_fs i g ρ σ x)) := by rw [he]; simp [tn_e, hi]
  have hx2 := (tn_kd2 hk).1
  have hset := tn_C_setR (cA := cA) (g := g) (ρ := ρ) (σ := σ) (k := k) (x := y) hk hi hr
  have hyb : y < ks.length + 2 := ho2.hd
  show W p l e R s m args below meth c H locs ca sl Q (F0 m pc ls (va_rf (tn_gr g y) :: va_rf (tn_gr g x) :: st.map (tn_v g)))
  rw [tn_gr2 (g := g) (c := x) (by omega)]
  have hin2 : meth.name = "<init>" := (hnm hin).trans hin
  have hl0 := hl0 _ _ hc
  have go : ∀ ty0 : FieldType, parseFieldDescriptor (T k).2.2.1 = some ty0 → narrow ty0 (va_rf (tn_gr g y)) = va_rf (tn_gr g y) → fits ty0 (va_rf (tn_gr g y)) = true → W p l e R s m args below meth c H locs ca sl Q (F0 m pc ls (va_rf (tn_gr g y) :: .ref (g x) :: st.map (tn_v g))) := by
    intro ty0 h1 h2 h3
    refine va_putF (D := D) (ci := i) (ty := ty0) hx hb hts hus ty hty hnm2 hown hK.1 hP.1 hP.2.1 hS (x - 2) he hc k hkN (hts _ hl0) (fun q h => by rw [hdecl] at h; exact h) hq1 hin2 hq2 h1 h2 h3 (by rw [tn_fsL]; exact hkN) hd (fun H1 locs1 h1 h2 h3 => ?_)
    rw [hset] at h1 h2
    refine kk g H1 locs1 ls ⟨h1, h2, fun c' k' => ?_⟩ h3 hl ho1 ho2.tl.tl hg hn
    unfold tn_ur
    split
    · exact hyb
    · exact hP.2.2 c' k'
  rcases hq3 with ⟨r, h⟩ | ⟨r, h⟩
  · exact go _ h (by cases tn_gr g y <;> rfl) (by cases tn_gr g y <;> rfl)
  · exact go _ h (by cases tn_gr g y <;> rfl) (by cases tn_gr g y <;> rfl)
theorem tn_ald (hΓ : tn_is Γ z) {x n : Nat} {i : Int32} (hd : decode z.2.1 pc = .ok (.iaload, 1)) (hk : tn_kd ks x = some (7, n)) (hin : vp_in i n) (kk : tn_A Γ (pc + 1) loc (.int (σ x i.toNatClampNeg) :: st) ca sl ks ρ σ) : tn_A Γ (pc) loc (.int i :: .ref x :: st) ca sl ks ρ σ := by
  obtain ⟨⟨p, l, e, R, s, m, args, below, meth, c, Q⟩, D, cA, A, H0, g0, n0⟩ := Γ
  obtain ⟨hx, hb, hml, hown, hts, hK, hR, hrt, hlk, hnm, hA⟩ := hΓ
  intro g H locs ls hP hS hl ho1 ho2 hg hn
  have he := tn_at (cA := cA) (g := g) (ρ := ρ) (σ := σ) hk
  have he : (tn_C cA g ks ρ σ)[x - 2]? = some (g x, .inl (cA 0, n, .inl (σ x))) := by rw [he]; simp [tn_e]
  have hx2 := (tn_kd2 hk).1
  have h1 := kk g H locs ls hP hS hl ho1 (tn_okL.cons trivial ho2.tl.tl) hg hn
  show W p l e R s m args below meth c H locs ca sl Q (F0 m pc ls (.int i :: va_rf (tn_gr g x) :: st.map (tn_v g)))
  rw [tn_gr2 (by omega)]
  exact va_iald hx hb hK.1 hP.1 (x - 2) 0 he rfl hin hd h1
theorem tn_ast (hΓ : tn_is Γ z) {x n : Nat} {i y : Int32} (hd : decode z.2.1 pc = .ok (.iastore, 1)) (hk : tn_kd ks x = some (7, n)) (hin : vp_in i n) (kk : tn_A Γ (pc + 1) loc (st) ca sl ks ρ (tn_u σ x i.toNatClampNeg y)) : tn_A Γ (pc) loc (.int y :: .int i :: .ref x :: st) ca sl ks ρ σ := by
  obtain ⟨⟨p, l, e, R, s, m, args, below, meth, c, Q⟩, D, cA, A, H0, g0, n0⟩ := Γ
  obtain ⟨hx, hb, hml, hown, hts, hK, hR, hrt, hlk, hnm, hA⟩ := hΓ
  intro g H locs ls hP hS hl ho1 ho2 hg hn
  have he := tn_at (cA := cA) (g := g) (ρ := ρ) (σ := σ) hk
  have he : (tn_C cA g ks ρ σ)[x - 2]? = some (g x, .inl (cA 0, n, .inl (σ x))) := by rw [he]; simp [tn_e]
  have hx2 := (tn_kd2 hk).1
  have hset := tn_C_setA (cA := cA) (g := g) (ρ := ρ) (σ := σ) (f := upd (σ x) i.toNatClampNeg y) hk
  rw [tn_u_f] at hset
  show W p l e R s m args below meth c H locs ca sl Q (F0 m pc ls (.int y :: .int i :: va_rf (tn_gr g x) :: st.map (tn_v g)))
  rw [tn_gr2 (by omega)]
  refine va_iast hx hb hK.1 hP.1 hP.2.1 hS (x - 2) 0 he rfl hin hd (fun H1 locs1 h1 h2 h3 => ?_)
  rw [hset] at h1 h2
  exact kk g H1 locs1 ls ⟨h1, h2, hP.2.2⟩ h3 hl ho1 ho2.tl.tl.tl hg hn
theorem tn_aald (hΓ : tn_is Γ z) {x n t : Nat} {i : Int32} (hd : decode z.2.1 pc = .ok (.aaload, 1)) (ht : t < 3) (hk : tn_kd ks x = some (t + 8, n)) (hin : vp_in i n) (kk : tn_A Γ (pc + 1) loc (.ref (ρ x i.toNatClampNeg) :: st) ca sl ks ρ σ) : tn_A Γ (pc) loc (.int i :: .ref x :: st) ca sl ks ρ σ := by
  obtain ⟨⟨p, l, e, R, s, m, args, below, meth, c, Q⟩, D, cA, A, H0, g0, n0⟩ := Γ
  obtain ⟨hx, hb, hml, hown, hts, hK, hR, hrt, hlk, hnm, hA⟩ := hΓ
  intro g H locs ls hP hS hl ho1 ho2 hg hn
  have he := tn_at (cA := cA) (g := g) (ρ := ρ) (σ := σ) hk
  have he : (tn_C cA g ks ρ σ)[x - 2]? = some (g x, .inl (cA (t + 1), n, .inr (.inr (.inr (.inr (fun j => tn_gr g (ρ x j))))))) := by
    rw [he]
    unfold tn_e
    rw [if_neg (by omega), if_neg (by omega)]
    rfl
  have hx2 := (tn_kd2 hk).1
  have h1 := kk g H locs ls hP hS hl ho1 (tn_okL.cons (v := .ref (ρ x i.toNatClampNeg)) (hP.2.2 x _) ho2.tl.tl) hg hn
  show W p l e R s m args below meth c H locs ca sl Q (F0 m pc ls (.int i :: va_rf (tn_gr g x) :: st.map (tn_v g)))
  rw [tn_gr2 (by omega)]
  have h3 : t = 0 ∨ t = 1 ∨ t = 2 := by omega
  rcases h3 with rfl | rfl | rfl
  · exact va_aldq hx hb hK.1 hP.1 (x - 2) 1 he rfl hin hd h1
  · exact va_aldq hx hb hK.1 hP.1 (x - 2) 2 he rfl hin hd h1
  · exact va_aldq hx hb hK.1 hP.1 (x - 2) 3 he rfl hin hd h1
theorem tn_aast (hΓ : tn_is Γ z) {x n t y i0 n0' : Nat} {i : Int32} (hd : decode z.2.1 pc = .ok (.aastore, 1)) (ht : (t = 0 ∧ i0 = 0) ∨ (t = 1 ∧ i0 = 3) ∨ (t = 2 ∧ i0 = 2)) (hk : tn_kd ks x = some (t + 8, n)) (hin : vp_in i n) (hy : tn_kd ks y = some (i0, n0')) (kk : tn_A Γ (pc + 1) loc (st) ca sl ks (tn_ur ρ x i.toNatClampNeg y) σ) : tn_A Γ (pc) loc (.ref y :: .int i :: .ref x :: st) ca sl ks ρ σ := by
  obtain ⟨⟨p, l, e, R, s, m, args, below, meth, c, Q⟩, D, cA, A, H0, g0, n0⟩ := Γ
  obtain ⟨hx, hb, hml, hown, hts, hK, hR, hrt, hlk, hnm, hA⟩ := hΓ
  intro g H locs ls hP hS hl ho1 ho2 hg hn
  have he := tn_at (cA := cA) (g := g) (ρ := ρ) (σ := σ) hk
  have hi0 : i0 < 7 := by omega
  have he : (tn_C cA g ks ρ σ)[x - 2]? = some (g x, .inl (cA (t + 1), n, .inr (.inr (.inr (.inr (fun j => tn_gr g (ρ x j))))))) := by
    rw [he]
    unfold tn_e
    rw [if_neg (by omega), if_neg (by omega)]
    rfl
  have he2 := tn_at (cA := cA) (g := g) (ρ := ρ) (σ := σ) hy
  have he2 : (tn_C cA g ks ρ σ)[y - 2]? = some (g y, .inr (i0, tn_fs i0 g ρ σ y)) := by rw [he2]; simp [tn_e, hi0]
  have hx2 := (tn_kd2 hk).1
  have hy2 := (tn_kd2 hy).1
  have hyb := (tn_kd2 hy).2.2
  have hset := tn_C_setQ (cA := cA) (g := g) (ρ := ρ) (σ := σ) (k := i.toNatClampNeg) (x := y) hk (by omega)
  have fin : ∀ (H1 : Heap) (locs1 : List Loc), va_P D tn_cl ((tn_C cA g ks ρ σ).set (x - 2) (g x, .inl (cA (t + 1), n, .inr (.inr (.inr (.inr (va_up (fun j => tn_gr g (ρ x j)) i.toNatClampNeg (some (g y))))))))) H1 → va_D A ((tn_C cA g ks ρ σ).set (x - 2) (g x, .inl (cA (t + 1), n, .inr (.inr (.inr (.inr (va_up (fun j => tn_gr g (ρ x j)) i.toNatClampNeg (some (g y))))))))) → va_S A H0 H1 locs1 → W p l e R s m args below meth c H1 locs1 ca sl Q (F0 m (pc + 1) ls (st.map (tn_v g))) := by
    intro H1 locs1 h1 h2 h3
    rw [hset] at h1 h2
    refine kk g H1 locs1 ls ⟨h1, h2, fun c' k' => ?_⟩ h3 hl ho1 ho2.tl.tl.tl hg hn
    unfold tn_ur
    split
    · exact hyb
    · exact hP.2.2 c' k'
  show W p l e R s m args below meth c H locs ca sl Q (F0 m pc ls (va_rf (tn_gr g y) :: .int i :: va_rf (tn_gr g x) :: st.map (tn_v g)))
  rw [tn_gr2 (c := x) (by omega), tn_gr2 (c := y) (by omega)]
  rcases ht with ⟨rfl, rfl⟩ | ⟨rfl, rfl⟩ | ⟨rfl, rfl⟩
  · exact va_astq (r := ("ThunderOwned$House", tn_T0, 5)) hx hb hK.1 hP.1 hP.2.1 hS (x - 2) 1 (y - 2) 0 he rfl he2 rfl hin hd fin
  · exact va_astq (r := ("ThunderOwned$Stone", tn_T3, 2)) hx hb hK.1 hP.1 hP.2.1 hS (x - 2) 2 (y - 2) 3 he rfl he2 rfl hin hd fin
  · exact va_astq (r := ("ThunderOwned$Sheet", tn_T2, 4)) hx hb hK.1 hP.1 hP.2.1 hS (x - 2) 3 (y - 2) 2 he rfl he2 rfl hin hd fin
end TR
