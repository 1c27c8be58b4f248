theorem tn_byc {Γ : tn_G} {pc : Nat} {loc st : List Value} {ca sl : Nat} {ks : List (Nat × Nat)} {ρ : Nat → Nat → Nat} {σ : Nat → Nat → Int32} (c : Prop) (k1 : c → tn_A Γ pc loc st ca sl ks ρ σ) (k2 : ¬ c → tn_A Γ pc loc st ca sl ks ρ σ) : tn_A Γ pc loc st ca sl ks ρ σ := (Classical.em c).elim k1 k2
theorem pb3 : tn_Pb 3 := Or.inl rfl
theorem pb15 : tn_Pb 15 := Or.inr rfl
theorem mm_code_max : Cond.code Lib.Math.max.name Lib.Math.max.code 2 (some .int) ∈ tn_tbl := tn_wi 547 (by decide +kernel)
theorem mm_code_min : Cond.code Lib.Math.min.name Lib.Math.min.code 2 (some .int) ∈ tn_tbl := tn_wi 473 (by decide +kernel)
theorem mm_st_max : Cond.static Lib.Math.max.name ∈ tn_tbl := tn_wi 546 (by decide +kernel)
theorem mm_st_min : Cond.static Lib.Math.min.name ∈ tn_tbl := tn_wi 472 (by decide +kernel)
theorem mm_ini : Cond.initialized "java/lang/Math" ∈ tn_tbl := tn_wi 90 (by decide +kernel)
theorem tn_mmax {Γ : tn_G} {z : tn_M} {pc : Nat} {loc st : List Value} {ca sl : Nat} {ks : List (Nat × Nat)} {ρ : Nat → Nat → Nat} {σ : Nat → Nat → Int32} (hΓ : tn_is Γ z) {idx : Nat} {x y : Int32} (hd : decode z.2.1 pc = .ok (.invokestatic idx, 3)) (hm : Cond.methodLink z.1.cls idx Lib.Math.max.name ∈ tn_tbl ∧ 1 ≤ z.2.2.2.2.frames ∧ (st.map fun v => v.category).sum + 13 ≤ z.2.2.2.2.locals ∧ ca ≤ z.2.2.2.2.cells ∧ sl ≤ z.2.2.2.2.slots)
    (kk : tn_A Γ (pc + 3) loc (.int (if x < y then y else x) :: st) ca sl ks ρ σ) : tn_A Γ pc loc (.int y :: .int x :: st) ca sl ks ρ σ := by
  obtain ⟨⟨p, l, e, R, s, m, args, below, meth, c, Q⟩, D, cA, A, H0, g0, n0⟩ := Γ
  obtain ⟨hx, hb, hml, hown, hts, hK, hR, hrt, hlk, hnm, hA⟩ := hΓ
  intro g H locs ls hP hS hl ho1 ho2 hg hn
  have h1 := kk g H locs ls hP hS hl ho1 (tn_okL.cons trivial ho2.tl.tl) hg hn
  exact va_mmax hx hb hl.1.symm hown (hts _ hm.1) (hts _ mm_st_max) (hts _ mm_ini) (hts _ mm_code_max) (by rw [hR]; exact hm.2.1) (by rw [tn_cats, hR]; exact hm.2.2.1) (by rw [hR]; exact hm.2.2.2.1) (by rw [hR]; exact hm.2.2.2.2) hd h1
theorem tn_mmin {Γ : tn_G} {z : tn_M} {pc : Nat} {loc st : List Value} {ca sl : Nat} {ks : List (Nat × Nat)} {ρ : Nat → Nat → Nat} {σ : Nat → Nat → Int32} (hΓ : tn_is Γ z) {idx : Nat} {x y : Int32} (hd : decode z.2.1 pc = .ok (.invokestatic idx, 3)) (hm : Cond.methodLink z.1.cls idx Lib.Math.min.name ∈ tn_tbl ∧ 1 ≤ z.2.2.2.2.frames ∧ (st.map fun v => v.category).sum + 13 ≤ z.2.2.2.2.locals ∧ ca ≤ z.2.2.2.2.cells ∧ sl ≤ z.2.2.2.2.slots)
    (kk : tn_A Γ (pc + 3) loc (.int (if y < x then y else x) :: st) ca sl ks ρ σ) : tn_A Γ pc loc (.int y :: .int x :: st) ca sl ks ρ σ := by
  obtain ⟨⟨p, l, e, R, s, m, args, below, meth, c, Q⟩, D, cA, A, H0, g0, n0⟩ := Γ
  obtain ⟨hx, hb, hml, hown, hts, hK, hR, hrt, hlk, hnm, hA⟩ := hΓ
  intro g H locs ls hP hS hl ho1 ho2 hg hn
  have h1 := kk g H locs ls hP hS hl ho1 (tn_okL.cons trivial ho2.tl.tl) hg hn
  exact va_mmin hx hb hl.1.symm hown (hts _ hm.1) (hts _ mm_st_min) (hts _ mm_ini) (hts _ mm_code_min) (by rw [hR]; exact hm.2.1) (by rw [tn_cats, hR]; exact hm.2.2.1) (by rw [hR]; exact hm.2.2.2.1) (by rw [hR]; exact hm.2.2.2.2) hd h1
theorem mm_1_100 : Cond.methodLink m_X1_nightsUntilQuiet.1.cls 100 Lib.Math.min.name ∈ tn_tbl ∧ 1 ≤ m_X1_nightsUntilQuiet.2.2.2.2.frames ∧ (([] : List Value).map fun v => v.category).sum + 13 ≤ m_X1_nightsUntilQuiet.2.2.2.2.locals ∧ 0 ≤ m_X1_nightsUntilQuiet.2.2.2.2.cells ∧ 0 ≤ m_X1_nightsUntilQuiet.2.2.2.2.slots := ⟨tn_wi 471 (by decide +kernel), by decide, by decide, by decide, by decide⟩
theorem mm_5_189 : Cond.methodLink m_X5_reading.1.cls 189 Lib.Math.min.name ∈ tn_tbl ∧ 1 ≤ m_X5_reading.2.2.2.2.frames ∧ (([] : List Value).map fun v => v.category).sum + 13 ≤ m_X5_reading.2.2.2.2.locals ∧ 0 ≤ m_X5_reading.2.2.2.2.cells ∧ 0 ≤ m_X5_reading.2.2.2.2.slots := ⟨tn_wi 528 (by decide +kernel), by decide, by decide, by decide, by decide⟩
theorem ac_link : Cond.methodLink "ThunderOwned" 222 arraycopyName ∈ tn_tbl := tn_wi 594 (by decide +kernel)
theorem ac_nat : Cond.native arraycopyName ∈ tn_tbl := tn_wi 596 (by decide +kernel)
theorem ac_stat : Cond.static arraycopyName ∈ tn_tbl := tn_wi 595 (by decide +kernel)
theorem ac_ini : Cond.initialized "java/lang/System" ∈ tn_tbl := tn_wi 92 (by decide +kernel)
theorem mm_5_278 : Cond.methodLink m_X5_lastNightRead.1.cls 278 Lib.Math.max.name ∈ tn_tbl ∧ 1 ≤ m_X5_lastNightRead.2.2.2.2.frames ∧ (([] : List Value).map fun v => v.category).sum + 13 ≤ m_X5_lastNightRead.2.2.2.2.locals ∧ 0 ≤ m_X5_lastNightRead.2.2.2.2.cells ∧ 0 ≤ m_X5_lastNightRead.2.2.2.2.slots := ⟨tn_wi 545 (by decide +kernel), by decide, by decide, by decide, by decide⟩
theorem tn_out_0_3 {x : Int32} (h0 : ¬ x = (0 : Int32)) (h1 : ¬ x = (1 : Int32)) (h2 : ¬ x = (2 : Int32)) (h3 : ¬ x = (3 : Int32)) : x.toInt < 0 ∨ 3 < x.toInt := by
  refine Classical.byContradiction fun hc => ?_
  have hz : x.toInt = 0 ∨ x.toInt = 1 ∨ x.toInt = 2 ∨ x.toInt = 3 := by omega
  rcases hz with q | q | q | q
  · exact h0 (Int32.toInt_inj.mp (by rw [q]; rfl))
  · exact h1 (Int32.toInt_inj.mp (by rw [q]; rfl))
  · exact h2 (Int32.toInt_inj.mp (by rw [q]; rfl))
  · exact h3 (Int32.toInt_inj.mp (by rw [q]; rfl))
theorem tn_out_0_4 {x : Int32} (h0 : ¬ x = (0 : Int32)) (h1 : ¬ x = (1 : Int32)) (h2 : ¬ x = (2 : Int32)) (h3 : ¬ x = (3 : Int32)) (h4 : ¬ x = (4 : Int32)) : x.toInt < 0 ∨ 4 < x.toInt := by
  refine Classical.byContradiction fun hc => ?_
  have hz : x.toInt = 0 ∨ x.toInt = 1 ∨ x.toInt = 2 ∨ x.toInt = 3 ∨ x.toInt = 4 := by omega
  rcases hz with q | q | q | q | q
  · exact h0 (Int32.toInt_inj.mp (by rw [q]; rfl))
  · exact h1 (Int32.toInt_inj.mp (by rw [q]; rfl))
  · exact h2 (Int32.toInt_inj.mp (by rw [q]; rfl))
  · exact h3 (Int32.toInt_inj.mp (by rw [q]; rfl))
  · exact h4 (Int32.toInt_inj.mp (by rw [q]; rfl))
theorem tn_out_0_6 {x : Int32} (h0 : ¬ x = (0 : Int32)) (h1 : ¬ x = (1 : Int32)) (h2 : ¬ x = (2 : Int32)) (h3 : ¬ x = (3 : Int32)) (h4 : ¬ x = (4 : Int32)) (h5 : ¬ x = (5 : Int32)) (h6 : ¬ x = (6 : Int32)) : x.toInt < 0 ∨ 6 < x.toInt := by
  refine Classical.byContradiction fun hc => ?_
  have hz : x.toInt = 0 ∨ x.toInt = 1 ∨ x.toInt = 2 ∨ x.toInt = 3 ∨ x.toInt = 4 ∨ x.toInt = 5 ∨ x.toInt = 6 := by omega
  rcases hz with q | q | q | q | q | q | q
  · exact h0 (Int32.toInt_inj.mp (by rw [q]; rfl))
  · exact h1 (Int32.toInt_inj.mp (by rw [q]; rfl))
  · exact h2 (Int32.toInt_inj.mp (by rw [q]; rfl))
  · exact h3 (Int32.toInt_inj.mp (by rw [q]; rfl))
  · exact h4 (Int32.toInt_inj.mp (by rw [q]; rfl))
  · exact h5 (Int32.toInt_inj.mp (by rw [q]; rfl))
  · exact h6 (Int32.toInt_inj.mp (by rw [q]; rfl))
theorem tn_out_0_29 {x : Int32} (h0 : ¬ x = (0 : Int32)) (h1 : ¬ x = (1 : Int32)) (h2 : ¬ x = (2 : Int32)) (h3 : ¬ x = (3 : Int32)) (h4 : ¬ x = (4 : Int32)) (h5 : ¬ x = (5 : Int32)) (h6 : ¬ x = (6 : Int32)) (h7 : ¬ x = (7 : Int32)) (h8 : ¬ x = (8 : Int32)) (h9 : ¬ x = (9 : Int32)) (h10 : ¬ x = (10 : Int32)) (h11 : ¬ x = (11 : Int32)) (h12 : ¬ x = (12 : Int32)) (h13 : ¬ x = (13 : Int32)) (h14 : ¬ x = (14 : Int32)) (h15 : ¬ x = (15 : Int32)) (h16 : ¬ x = (16 : Int32)) (h17 : ¬ x = (17 : Int32)) (h18 : ¬ x = (18 : Int32)) (h19 : ¬ x = (19 : Int32)) (h20 : ¬ x = (20 : Int32)) (h21 : ¬ x = (21 : Int32)) (h22 : ¬ x = (22 : Int32)) (h23 : ¬ x = (23 : Int32)) (h24 : ¬ x = (24 : Int32)) (h25 : ¬ x = (25 : Int32)) (h26 : ¬ x = (26 : Int32)) (h27 : ¬ x = (27 : Int32)) (h28 : ¬ x = (28 : Int32)) (h29 : ¬ x = (29 : Int32)) : x.toInt < 0 ∨ 29 < x.toInt := by
  refine Classical.byContradiction fun hc => ?_
  have hz : x.toInt = 0 ∨ x.toInt = 1 ∨ x.toInt = 2 ∨ x.toInt = 3 ∨ x.toInt = 4 ∨ x.toInt = 5 ∨ x.toInt = 6 ∨ x.toInt = 7 ∨ x.toInt = 8 ∨ x.toInt = 9 ∨ x.toInt = 10 ∨ x.toInt = 11 ∨ x.toInt = 12 ∨ x.toInt = 13 ∨ x.toInt = 14 ∨ x.toInt = 15 ∨ x.toInt = 16 ∨ x.toInt = 17 ∨ x.toInt = 18 ∨ x.toInt = 19 ∨ x.toInt = 20 ∨ x.toInt = 21 ∨ x.toInt = 22 ∨ x.toInt = 23 ∨ x.toInt = 24 ∨ x.toInt = 25 ∨ x.toInt = 26 ∨ x.toInt = 27 ∨ x.toInt = 28 ∨ x.toInt = 29 := by omega
  rcases hz with q | q | q | q | q | q | q | q | q | q | q | q | q | q | q | q | q | q | q | q | q | q | q | q | q | q | q | q | q | q
  · exact h0 (Int32.toInt_inj.mp (by rw [q]; rfl))
  · exact h1 (Int32.toInt_inj.mp (by rw [q]; rfl))
  · exact h2 (Int32.toInt_inj.mp (by rw [q]; rfl))
  · exact h3 (Int32.toInt_inj.mp (by rw [q]; rfl))
  · exact h4 (Int32.toInt_inj.mp (by rw [q]; rfl))
  · exact h5 (Int32.toInt_inj.mp (by rw [q]; rfl))
  · exact h6 (Int32.toInt_inj.mp (by rw [q]; rfl))
  · exact h7 (Int32.toInt_inj.mp (by rw [q]; rfl))
  · exact h8 (Int32.toInt_inj.mp (by rw [q]; rfl))
  · exact h9 (Int32.toInt_inj.mp (by rw [q]; rfl))
  · exact h10 (Int32.toInt_inj.mp (by rw [q]; rfl))
  · exact h11 (Int32.toInt_inj.mp (by rw [q]; rfl))
  · exact h12 (Int32.toInt_inj.mp (by rw [q]; rfl))
  · exact h13 (Int32.toInt_inj.mp (by rw [q]; rfl))
  · exact h14 (Int32.toInt_inj.mp (by rw [q]; rfl))
  · exact h15 (Int32.toInt_inj.mp (by rw [q]; rfl))
  · exact h16 (Int32.toInt_inj.mp (by rw [q]; rfl))
  · exact h17 (Int32.toInt_inj.mp (by rw [q]; rfl))
  · exact h18 (Int32.toInt_inj.mp (by rw [q]; rfl))
  · exact h19 (Int32.toInt_inj.mp (by rw [q]; rfl))
  · exact h20 (Int32.toInt_inj.mp (by rw [q]; rfl))
  · exact h21 (Int32.toInt_inj.mp (by rw [q]; rfl))
  · exact h22 (Int32.toInt_inj.mp (by rw [q]; rfl))
  · exact h23 (Int32.toInt_inj.mp (by rw [q]; rfl))
  · exact h24 (Int32.toInt_inj.mp (by rw [q]; rfl))
  · exact h25 (Int32.toInt_inj.mp (by rw [q]; rfl))
  · exact h26 (Int32.toInt_inj.mp (by rw [q]; rfl))
  · exact h27 (Int32.toInt_inj.mp (by rw [q]; rfl))
  · exact h28 (Int32.toInt_inj.mp (by rw [q]; rfl))
  · exact h29 (Int32.toInt_inj.mp (by rw [q]; rfl))
