/-! ===== the law: its loop, its entry ===== -/
theorem lw_b (x : Int32) (k : Nat) (hk : k < 30) (z : Int32) (hz : z = nI k) (h : x = z) : ¬ x.toInt < 0 ∧ ¬ (29 : Int) < x.toInt := by
  rw [h, hz, nI_toInt (by omega)]
  omega
section LW
variable {Γ : tn_G} {b L : Nat} {xs : Nat → Int32}
theorem lw_loop (hΓ : tn_is Γ m_L_law) (hX : tn_sc Γ b L xs) (hL3 : L ≤ 3072) (hend : ∀ (loc : List Value) (ca sl : Nat) (ks : List (Nat × Nat)) (ρ : Nat → Nat → Nat) (σ : Nat → Nat → Int32), ca ≤ 600000 → sl ≤ 7302250 → tn_A Γ 1097 loc [.int 1] ca sl ks ρ σ) : ∀ (m i ca sl : Nat) (ks : List (Nat × Nat)) (ρ : Nat → Nat → Nat) (σ : Nat → Nat → Int32), L + 6 - i ≤ m → i ≤ L + 6 → ca ≤ 100 + i → sl ≤ 5000 + 4 * i → tn_Gd ks ρ → ro_L σ → tn_A Γ 18 [.ref 1, .ref 2, .ref 39, .int (nI i)] [] ca sl ks ρ σ := by
  intro m
  induction m with
  | zero =>
    intro i ca sl ks ρ σ hm hi hca hsl hG hL
    have h6 : (6 : Int32) = nI 6 := by decide
    refine tn_iload_n (pc := 18) hΓ d_L_law_18 rfl ?_
    refine tn_aload_n (pc := 19) hΓ d_L_law_19 rfl ?_
    refine tn_slen (pc := 20) hΓ hX d_L_law_20 ?_
    refine tn_bipush (pc := 21) hΓ d_L_law_21 bp_6 ?_
    refine tn_isub (pc := 23) hΓ d_L_law_23 ?_
    refine tn_icmp_gt (tgt := 1096) (pc := 24) hΓ d_L_law_24 (by decide) (fun _ => ?_) (fun z => ?_)
    · refine tn_iconst (pc := 1096) hΓ d_L_law_1096 ic_1 ?_
      exact hend _ _ _ _ _ _ (by omega) (by omega)
    · exfalso
      rw [Int32.lt_iff_toInt_lt, h6, pk_sub_toInt (by omega) (by omega), nI_toInt (by omega)] at z
      omega
  | succ m ih =>
    intro i ca sl ks ρ σ hm hi hca hsl hG hL
    have h6 : (6 : Int32) = nI 6 := by decide
    refine tn_iload_n (pc := 18) hΓ d_L_law_18 rfl ?_
    refine tn_aload_n (pc := 19) hΓ d_L_law_19 rfl ?_
    refine tn_slen (pc := 20) hΓ hX d_L_law_20 ?_
    refine tn_bipush (pc := 21) hΓ d_L_law_21 bp_6 ?_
    refine tn_isub (pc := 23) hΓ d_L_law_23 ?_
    refine tn_icmp_gt (tgt := 1096) (pc := 24) hΓ d_L_law_24 (by decide) (fun _ => ?_) (fun z => ?_)
    · refine tn_iconst (pc := 1096) hΓ d_L_law_1096 ic_1 ?_
      exact hend _ _ _ _ _ _ (by omega) (by omega)
    · rw [Int32.lt_iff_toInt_lt, h6, pk_sub_toInt (by omega) (by omega), nI_toInt (by omega)] at z
      have hi6 : i + 6 ≤ L := by omega
      have hv : ∀ (k : Nat) (x : Int32), k ≤ 5 → x = nI k → vp_in (nI i + x) L := fun k x hk ex => by
        rw [ex, nI_add]
        exact vp_in_nI (by omega) (by omega)
      have back : ∀ (ca' sl' : Nat) (ks' : List (Nat × Nat)) (ρ' : Nat → Nat → Nat) (σ' : Nat → Nat → Int32), ca' ≤ ca + 1 → sl' ≤ sl + 4 → tn_Gd ks' ρ' → ro_L σ' → tn_A Γ 1090 [.ref 1, .ref 2, .ref 39, .int (nI i)] [] ca' sl' ks' ρ' σ' := by
        intro ca' sl' ks' ρ' σ' q1 q2 q3 q4
        refine tn_iincw (loc' := fun v_ => [.ref 1, .ref 2, .ref 39, .int v_]) (pc := 1090) hΓ d_L_law_1090 rfl ic_6 (by decide) rfl (fun _ => rfl) (fun v ev => ?_)
        rw [h6, nI_add] at ev
        subst ev
        refine tn_goto (tgt := 18) (pc := 1093) hΓ d_L_law_1093 (by decide) ?_
        exact ih (i + 6) ca' sl' ks' ρ' σ' (by omega) (by omega) (by omega) (by omega) q3 q4
      refine tn_aload_n (pc := 27) hΓ d_L_law_27 rfl ?_
      refine tn_iload_n (pc := 28) hΓ d_L_law_28 rfl ?_
      refine tn_sld (pc := 29) hΓ hX d_L_law_29 (vp_in_nI (by omega) (by omega)) ?_
      refine tn_bipush (pc := 30) hΓ d_L_law_30 bp_31 ?_
      refine tn_iand (pc := 32) hΓ d_L_law_32 ?_
      refine tn_topi (fun y ey => ?_)
      refine tn_byc (y = (0 : Int32)) (fun hq => ?_) (fun hq0 => ?_)
      · refine tn_tblIn (off := 135) (tgt := 168) (pc := 33) hΓ d_L_law_33 (by rw [hq] <;> decide) (by rw [hq] <;> decide) (by rw [hq] <;> rfl) (by decide) ?_
        exact lw_c0 hG hL hΓ hX hv (by omega) (by omega) back
      refine tn_byc (y = (1 : Int32)) (fun hq => ?_) (fun hq1 => ?_)
      · refine tn_tblIn (off := 188) (tgt := 221) (pc := 33) hΓ d_L_law_33 (by rw [hq] <;> decide) (by rw [hq] <;> decide) (by rw [hq] <;> rfl) (by decide) ?_
        exact lw_c1 hG hL hΓ hX hv (by omega) (by omega) back
      refine tn_byc (y = (2 : Int32)) (fun hq => ?_) (fun hq2 => ?_)
      · refine tn_tblIn (off := 221) (tgt := 254) (pc := 33) hΓ d_L_law_33 (by rw [hq] <;> decide) (by rw [hq] <;> decide) (by rw [hq] <;> rfl) (by decide) ?_
        exact lw_c2 hG hL hΓ hX hv (by omega) (by omega) back
      refine tn_byc (y = (3 : Int32)) (fun hq => ?_) (fun hq3 => ?_)
      · refine tn_tblIn (off := 254) (tgt := 287) (pc := 33) hΓ d_L_law_33 (by rw [hq] <;> decide) (by rw [hq] <;> decide) (by rw [hq] <;> rfl) (by decide) ?_
        exact lw_c3 hG hL hΓ hX hv (by omega) (by omega) back
      refine tn_byc (y = (4 : Int32)) (fun hq => ?_) (fun hq4 => ?_)
      · refine tn_tblIn (off := 287) (tgt := 320) (pc := 33) hΓ d_L_law_33 (by rw [hq] <;> decide) (by rw [hq] <;> decide) (by rw [hq] <;> rfl) (by decide) ?_
        exact lw_c4 hG hL hΓ hX hv (by omega) (by omega) back
      refine tn_byc (y = (5 : Int32)) (fun hq => ?_) (fun hq5 => ?_)
      · refine tn_tblIn (off := 310) (tgt := 343) (pc := 33) hΓ d_L_law_33 (by rw [hq] <;> decide) (by rw [hq] <;> decide) (by rw [hq] <;> rfl) (by decide) ?_
        exact lw_c5 hG hL hΓ hX hv (by omega) (by omega) back
      refine tn_byc (y = (6 : Int32)) (fun hq => ?_) (fun hq6 => ?_)
      · refine tn_tblIn (off := 333) (tgt := 366) (pc := 33) hΓ d_L_law_33 (by rw [hq] <;> decide) (by rw [hq] <;> decide) (by rw [hq] <;> rfl) (by decide) ?_
        exact lw_c6 hG hL hΓ hX hv (by omega) (by omega) back
      refine tn_byc (y = (7 : Int32)) (fun hq => ?_) (fun hq7 => ?_)
      · refine tn_tblIn (off := 356) (tgt := 389) (pc := 33) hΓ d_L_law_33 (by rw [hq] <;> decide) (by rw [hq] <;> decide) (by rw [hq] <;> rfl) (by decide) ?_
        exact lw_c7 hG hL hΓ hX hv (by omega) (by omega) back
      refine tn_byc (y = (8 : Int32)) (fun hq => ?_) (fun hq8 => ?_)
      · refine tn_tblIn (off := 419) (tgt := 452) (pc := 33) hΓ d_L_law_33 (by rw [hq] <;> decide) (by rw [hq] <;> decide) (by rw [hq] <;> rfl) (by decide) ?_
        exact lw_c8 hG hL hΓ hX hv (by omega) (by omega) back
      refine tn_byc (y = (9 : Int32)) (fun hq => ?_) (fun hq9 => ?_)
      · refine tn_tblIn (off := 452) (tgt := 485) (pc := 33) hΓ d_L_law_33 (by rw [hq] <;> decide) (by rw [hq] <;> decide) (by rw [hq] <;> rfl) (by decide) ?_
        exact lw_c9 hG hL hΓ hX hv (by omega) (by omega) back
      refine tn_byc (y = (10 : Int32)) (fun hq => ?_) (fun hq10 => ?_)
      · refine tn_tblIn (off := 465) (tgt := 498) (pc := 33) hΓ d_L_law_33 (by rw [hq] <;> decide) (by rw [hq] <;> decide) (by rw [hq] <;> rfl) (by decide) ?_
        exact lw_c10 hG hL hΓ hX hv (by omega) (by omega) back
      refine tn_byc (y = (11 : Int32)) (fun hq => ?_) (fun hq11 => ?_)
      · refine tn_tblIn (off := 498) (tgt := 531) (pc := 33) hΓ d_L_law_33 (by rw [hq] <;> decide) (by rw [hq] <;> decide) (by rw [hq] <;> rfl) (by decide) ?_
        exact lw_c11 hG hL hΓ hX hv (by omega) (by omega) back
      refine tn_byc (y = (12 : Int32)) (fun hq => ?_) (fun hq12 => ?_)
      · refine tn_tblIn (off := 531) (tgt := 564) (pc := 33) hΓ d_L_law_33 (by rw [hq] <;> decide) (by rw [hq] <;> decide) (by rw [hq] <;> rfl) (by decide) ?_
        exact lw_c12 hG hL hΓ hX hv (by omega) (by omega) back
      refine tn_byc (y = (13 : Int32)) (fun hq => ?_) (fun hq13 => ?_)
      · refine tn_tblIn (off := 564) (tgt := 597) (pc := 33) hΓ d_L_law_33 (by rw [hq] <;> decide) (by rw [hq] <;> decide) (by rw [hq] <;> rfl) (by decide) ?_
        exact lw_c13 hG hL hΓ hX hv (by omega) (by omega) back
      refine tn_byc (y = (14 : Int32)) (fun hq => ?_) (fun hq14 => ?_)
      · refine tn_tblIn (off := 597) (tgt := 630) (pc := 33) hΓ d_L_law_33 (by rw [hq] <;> decide) (by rw [hq] <;> decide) (by rw [hq] <;> rfl) (by decide) ?_
        exact lw_c14 hG hL hΓ hX hv (by omega) (by omega) back
      refine tn_byc (y = (15 : Int32)) (fun hq => ?_) (fun hq15 => ?_)
      · refine tn_tblIn (off := 620) (tgt := 653) (pc := 33) hΓ d_L_law_33 (by rw [hq] <;> decide) (by rw [hq] <;> decide) (by rw [hq] <;> rfl) (by decide) ?_
        exact lw_c15 hG hL hΓ hX hv (by omega) (by omega) back
      refine tn_byc (y = (16 : Int32)) (fun hq => ?_) (fun hq16 => ?_)
      · refine tn_tblIn (off := 643) (tgt := 676) (pc := 33) hΓ d_L_law_33 (by rw [hq] <;> decide) (by rw [hq] <;> decide) (by rw [hq] <;> rfl) (by decide) ?_
        exact lw_c16 hG hL hΓ hX hv (by omega) (by omega) back
      refine tn_byc (y = (17 : Int32)) (fun hq => ?_) (fun hq17 => ?_)
      · refine tn_tblIn (off := 666) (tgt := 699) (pc := 33) hΓ d_L_law_33 (by rw [hq] <;> decide) (by rw [hq] <;> decide) (by rw [hq] <;> rfl) (by decide) ?_
        exact lw_c17 hG hL hΓ hX hv (by omega) (by omega) back
      refine tn_byc (y = (18 : Int32)) (fun hq => ?_) (fun hq18 => ?_)
      · refine tn_tblIn (off := 679) (tgt := 712) (pc := 33) hΓ d_L_law_33 (by rw [hq] <;> decide) (by rw [hq] <;> decide) (by rw [hq] <;> rfl) (by decide) ?_
        exact lw_c18 hG hL hΓ hX hv (by omega) (by omega) back
      refine tn_byc (y = (19 : Int32)) (fun hq => ?_) (fun hq19 => ?_)
      · refine tn_tblIn (off := 713) (tgt := 746) (pc := 33) hΓ d_L_law_33 (by rw [hq] <;> decide) (by rw [hq] <;> decide) (by rw [hq] <;> rfl) (by decide) ?_
        exact lw_c19 hG hL hΓ hX hv (by omega) (by omega) back
      refine tn_byc (y = (20 : Int32)) (fun hq => ?_) (fun hq20 => ?_)
      · refine tn_tblIn (off := 756) (tgt := 789) (pc := 33) hΓ d_L_law_33 (by rw [hq] <;> decide) (by rw [hq] <;> decide) (by rw [hq] <;> rfl) (by decide) ?_
        exact lw_c20 hG hL hΓ hX hv (by omega) (by omega) back
      refine tn_byc (y = (21 : Int32)) (fun hq => ?_) (fun hq21 => ?_)
      · refine tn_tblIn (off := 779) (tgt := 812) (pc := 33) hΓ d_L_law_33 (by rw [hq] <;> decide) (by rw [hq] <;> decide) (by rw [hq] <;> rfl) (by decide) ?_
        exact lw_c21 hG hL hΓ hX hv (by omega) (by omega) back
      refine tn_byc (y = (22 : Int32)) (fun hq => ?_) (fun hq22 => ?_)
      · refine tn_tblIn (off := 822) (tgt := 855) (pc := 33) hΓ d_L_law_33 (by rw [hq] <;> decide) (by rw [hq] <;> decide) (by rw [hq] <;> rfl) (by decide) ?_
        exact lw_c22 hG hL hΓ hX hv (by omega) (by omega) back
      refine tn_byc (y = (23 : Int32)) (fun hq => ?_) (fun hq23 => ?_)
      · refine tn_tblIn (off := 866) (tgt := 899) (pc := 33) hΓ d_L_law_33 (by rw [hq] <;> decide) (by rw [hq] <;> decide) (by rw [hq] <;> rfl) (by decide) ?_
        exact lw_c23 hG hL hΓ hX hv (by omega) (by omega) back
      refine tn_byc (y = (24 : Int32)) (fun hq => ?_) (fun hq24 => ?_)
      · refine tn_tblIn (off := 929) (tgt := 962) (pc := 33) hΓ d_L_law_33 (by rw [hq] <;> decide) (by rw [hq] <;> decide) (by rw [hq] <;> rfl) (by decide) ?_
        exact lw_c24 hG hL hΓ hX hv (by omega) (by omega) back
      refine tn_byc (y = (25 : Int32)) (fun hq => ?_) (fun hq25 => ?_)
      · refine tn_tblIn (off := 952) (tgt := 985) (pc := 33) hΓ d_L_law_33 (by rw [hq] <;> decide) (by rw [hq] <;> decide) (by rw [hq] <;> rfl) (by decide) ?_
        exact lw_c25 hG hL hΓ hX hv (by omega) (by omega) back
      refine tn_byc (y = (26 : Int32)) (fun hq => ?_) (fun hq26 => ?_)
      · refine tn_tblIn (off := 975) (tgt := 1008) (pc := 33) hΓ d_L_law_33 (by rw [hq] <;> decide) (by rw [hq] <;> decide) (by rw [hq] <;> rfl) (by decide) ?_
        exact lw_c26 hG hL hΓ hX hv (by omega) (by omega) back
      refine tn_byc (y = (27 : Int32)) (fun hq => ?_) (fun hq27 => ?_)
      · refine tn_tblIn (off := 1008) (tgt := 1041) (pc := 33) hΓ d_L_law_33 (by rw [hq] <;> decide) (by rw [hq] <;> decide) (by rw [hq] <;> rfl) (by decide) ?_
        exact lw_c27 hG hL hΓ hX hv (by omega) (by omega) back
      refine tn_byc (y = (28 : Int32)) (fun hq => ?_) (fun hq28 => ?_)
      · refine tn_tblIn (off := 1021) (tgt := 1054) (pc := 33) hΓ d_L_law_33 (by rw [hq] <;> decide) (by rw [hq] <;> decide) (by rw [hq] <;> rfl) (by decide) ?_
        exact lw_c28 hG hL hΓ hX hv (by omega) (by omega) back
      refine tn_byc (y = (29 : Int32)) (fun hq => ?_) (fun hq29 => ?_)
      · refine tn_tblIn (off := 1034) (tgt := 1067) (pc := 33) hΓ d_L_law_33 (by rw [hq] <;> decide) (by rw [hq] <;> decide) (by rw [hq] <;> rfl) (by decide) ?_
        exact lw_c29 hG hL hΓ hX hv (by omega) (by omega) back
      refine tn_tblOut (tgt := 1090) (pc := 33) hΓ d_L_law_33 (tn_out_0_29 hq0 hq1 hq2 hq3 hq4 hq5 hq6 hq7 hq8 hq9 hq10 hq11 hq12 hq13 hq14 hq15 hq16 hq17 hq18 hq19 hq20 hq21 hq22 hq23 hq24 hq25 hq26 hq27 hq28 hq29) (by decide) ?_
      exact back ca sl ks ρ σ (by omega) (by omega) hG hL
theorem lw_enter (hΓ : tn_is Γ m_L_law) (h : ∀ ca sl : Nat, ca ≤ 100 → sl ≤ 5000 → tn_A Γ 18 [.ref 1, .ref 2, .ref 39, .int (nI 0)] [] ca sl tn_k0 (tn_rL tn_L3) (tsj 4)) : tn_A Γ 0 [.ref 1, .null, .null, .null] [] 0 0 [] (tn_rL [[], []]) (tsj 0) := by
  refine tn_new (pc := 0) hΓ (i := 5) (T := tn_T5) tn_ty5 d_L_law_0 (by decide) rfl tn_us5 tn_tk5 (tn_wi 93 (by decide +kernel)) (tn_wi 94 (by decide +kernel)) (tn_wi 83 (by decide +kernel)) df_5 (by decide) (by decide) ?_
  refine tn_cvt (st' := [.ref 2]) (ca' := 1) (sl' := 10) (ks' := [(5, 0)]) (ρ' := (tn_rL [[], [], [0, 0, 0, 0, 0, 0]])) (σ' := tsj 0) rfl rfl rfl rfl (rl_z (m := 6) rfl rfl) (tsj_z (by decide)) ?_
  refine tn_dupr (pc := 3) hΓ d_L_law_3 ?_
  refine tn_ci (As := []) (st := [.ref 2]) (x := 2) (y := m_X5_init) (pc := 4) hΓ d_L_law_4 mv_X5_init im_X5_init rfl rfl ml_7_9 ⟨⟨by decide, by decide⟩, by decide, by decide⟩ rfl (by decide) (Nat.le_of_ble_eq_true rfl) (c5_init (K := fun v ks' ρ' σ' => v = none ∧ ks' = [(5, 0), (1, 0), (8, 5), (9, 4), (0, 0), (0, 0), (0, 0), (0, 0), (0, 0), (3, 0), (3, 0), (3, 0), (3, 0), (1, 0), (8, 5), (9, 4), (0, 0), (0, 0), (0, 0), (0, 0), (0, 0), (3, 0), (3, 0), (3, 0), (3, 0), (10, 4), (7, 8), (7, 8), (7, 4), (2, 0), (7, 60), (2, 0), (7, 60), (2, 0), (7, 60), (2, 0), (7, 60)] ∧ ρ' = (tn_rL [[], [], [3, 15, 27, 28, 29, 30], [4, 5], [6, 7, 8, 9, 10], [11, 12, 13, 14], [], [], [], [], [], [], [], [], [], [16, 17], [18, 19, 20, 21, 22], [23, 24, 25, 26], [], [], [], [], [], [], [], [], [], [31, 33, 35, 37], [], [], [], [32], [], [34], [], [36], [], [38], []]) ∧ σ' = tsj 0) ⟨rfl, rfl, rfl, rfl⟩) (fun v ks' ρ' σ' hh => ?_)
  obtain ⟨rfl, rfl, rfl, rfl⟩ := hh
  refine tn_cvt (st' := [.ref 2]) (ca' := 37) (sl' := 386) (ks' := [(5, 0), (1, 0), (8, 5), (9, 4), (0, 0), (0, 0), (0, 0), (0, 0), (0, 0), (3, 0), (3, 0), (3, 0), (3, 0), (1, 0), (8, 5), (9, 4), (0, 0), (0, 0), (0, 0), (0, 0), (0, 0), (3, 0), (3, 0), (3, 0), (3, 0), (10, 4), (7, 8), (7, 8), (7, 4), (2, 0), (7, 60), (2, 0), (7, 60), (2, 0), (7, 60), (2, 0), (7, 60)]) (ρ' := (tn_rL [[], [], [3, 15, 27, 28, 29, 30], [4, 5], [6, 7, 8, 9, 10], [11, 12, 13, 14], [], [], [], [], [], [], [], [], [], [16, 17], [18, 19, 20, 21, 22], [23, 24, 25, 26], [], [], [], [], [], [], [], [], [], [31, 33, 35, 37], [], [], [], [32], [], [34], [], [36], [], [38], []])) (σ' := tsj 0) rfl rfl rfl rfl rfl rfl ?_
  refine tn_astore_n (loc' := [.ref 1, .ref 2, .null, .null]) (pc := 7) hΓ d_L_law_7 (by decide) rfl rfl ?_
  refine tn_new (pc := 8) hΓ (i := 6) (T := tn_T6) tn_ty6 d_L_law_8 (by decide) rfl tn_us6 tn_tk6 (tn_wi 645 (by decide +kernel)) (tn_wi 646 (by decide +kernel)) (tn_wi 88 (by decide +kernel)) df_6 (by decide) (by decide) ?_
  refine tn_cvt (st' := [.ref 39]) (ca' := 38) (sl' := 415) (ks' := [(5, 0), (1, 0), (8, 5), (9, 4), (0, 0), (0, 0), (0, 0), (0, 0), (0, 0), (3, 0), (3, 0), (3, 0), (3, 0), (1, 0), (8, 5), (9, 4), (0, 0), (0, 0), (0, 0), (0, 0), (0, 0), (3, 0), (3, 0), (3, 0), (3, 0), (10, 4), (7, 8), (7, 8), (7, 4), (2, 0), (7, 60), (2, 0), (7, 60), (2, 0), (7, 60), (2, 0), (7, 60), (6, 0)]) (ρ' := (tn_rL [[], [], [3, 15, 27, 28, 29, 30], [4, 5], [6, 7, 8, 9, 10], [11, 12, 13, 14], [], [], [], [], [], [], [], [], [], [16, 17], [18, 19, 20, 21, 22], [23, 24, 25, 26], [], [], [], [], [], [], [], [], [], [31, 33, 35, 37], [], [], [], [32], [], [34], [], [36], [], [38], [], [0, 0, 0, 0, 0, 0, 0, 0, 0, 0, 0, 0, 0, 0, 0, 0, 0, 0, 0, 0, 0, 0, 0, 0, 0, 0, 0, 0, 0]])) (σ' := tsj 0) rfl rfl rfl rfl (rl_z (m := 29) rfl rfl) (tsj_z (by decide)) ?_
  refine tn_dupr (pc := 11) hΓ d_L_law_11 ?_
  refine tn_ci (As := []) (st := [.ref 39]) (x := 39) (y := m_X6_init) (pc := 12) hΓ d_L_law_12 mv_X6_init im_X6_init rfl rfl ml_7_12 ⟨⟨by decide, by decide⟩, by decide, by decide⟩ rfl (by decide) (Nat.le_of_ble_eq_true rfl) (c6_init (K := fun v ks' ρ' σ' => v = none ∧ ks' = [(5, 0), (1, 0), (8, 5), (9, 4), (0, 0), (0, 0), (0, 0), (0, 0), (0, 0), (3, 0), (3, 0), (3, 0), (3, 0), (1, 0), (8, 5), (9, 4), (0, 0), (0, 0), (0, 0), (0, 0), (0, 0), (3, 0), (3, 0), (3, 0), (3, 0), (10, 4), (7, 8), (7, 8), (7, 4), (2, 0), (7, 60), (2, 0), (7, 60), (2, 0), (7, 60), (2, 0), (7, 60), (6, 0), (7, 4), (7, 4), (7, 240), (7, 5), (7, 5), (7, 5), (7, 5), (7, 4), (7, 15), (7, 4), (7, 30), (7, 8), (7, 8), (7, 8)] ∧ ρ' = (tn_rL [[], [], [3, 15, 27, 28, 29, 30], [4, 5], [6, 7, 8, 9, 10], [11, 12, 13, 14], [], [], [], [], [], [], [], [], [], [16, 17], [18, 19, 20, 21, 22], [23, 24, 25, 26], [], [], [], [], [], [], [], [], [], [31, 33, 35, 37], [], [], [], [32], [], [34], [], [36], [], [38], [], [0, 0, 40, 41, 42, 0, 0, 0, 0, 0, 0, 0, 0, 43, 44, 45, 46, 47, 0, 0, 0, 0, 48, 49, 50, 51, 0, 52, 53], [], [], [], [], [], [], [], [], [], [], [], [], [], []]) ∧ σ' = tsj 4) ⟨rfl, rfl, rfl, rfl⟩) (fun v ks' ρ' σ' hh => ?_)
  obtain ⟨rfl, rfl, rfl, rfl⟩ := hh
  refine tn_cvt (st' := [.ref 39]) (ca' := 52) (sl' := 760) (ks' := [(5, 0), (1, 0), (8, 5), (9, 4), (0, 0), (0, 0), (0, 0), (0, 0), (0, 0), (3, 0), (3, 0), (3, 0), (3, 0), (1, 0), (8, 5), (9, 4), (0, 0), (0, 0), (0, 0), (0, 0), (0, 0), (3, 0), (3, 0), (3, 0), (3, 0), (10, 4), (7, 8), (7, 8), (7, 4), (2, 0), (7, 60), (2, 0), (7, 60), (2, 0), (7, 60), (2, 0), (7, 60), (6, 0), (7, 4), (7, 4), (7, 240), (7, 5), (7, 5), (7, 5), (7, 5), (7, 4), (7, 15), (7, 4), (7, 30), (7, 8), (7, 8), (7, 8)]) (ρ' := (tn_rL [[], [], [3, 15, 27, 28, 29, 30], [4, 5], [6, 7, 8, 9, 10], [11, 12, 13, 14], [], [], [], [], [], [], [], [], [], [16, 17], [18, 19, 20, 21, 22], [23, 24, 25, 26], [], [], [], [], [], [], [], [], [], [31, 33, 35, 37], [], [], [], [32], [], [34], [], [36], [], [38], [], [0, 0, 40, 41, 42, 0, 0, 0, 0, 0, 0, 0, 0, 43, 44, 45, 46, 47, 0, 0, 0, 0, 48, 49, 50, 51, 0, 52, 53], [], [], [], [], [], [], [], [], [], [], [], [], [], []])) (σ' := tsj 4) rfl rfl rfl rfl rfl rfl ?_
  refine tn_astore_n (loc' := [.ref 1, .ref 2, .ref 39, .null]) (pc := 15) hΓ d_L_law_15 (by decide) rfl rfl ?_
  refine tn_iconst (pc := 16) hΓ d_L_law_16 ic_0 ?_
  refine tn_istore_n (loc' := [.ref 1, .ref 2, .ref 39, .int (0 : Int32)]) (pc := 17) hΓ d_L_law_17 (by decide) rfl rfl ?_
  have go := h 52 760 (by decide) (by decide)
  rw [nI_0] at go
  exact go
end LW
