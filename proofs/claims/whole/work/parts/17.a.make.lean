/-! ===== the constructors ===== -/
def tn_rL (L : List (List Nat)) (c k : Nat) : Nat := (L.getD c []).getD k 0
def tsj (j c k : Nat) : Int32 := if c = 40 ∧ k < j then -9 else 0
theorem tsj_z {j n : Nat} (h : n ≠ 40 ∨ j = 0) : tn_zs (tsj j) n = tsj j := by
  funext c k
  unfold tn_zs
  by_cases e : c = n
  · rw [if_pos e]
    unfold tsj
    rw [if_neg (by omega)]
  · rw [if_neg e]
theorem tsj_0 {j c k : Nat} (h : c ≠ 40) : tn_u (tsj j) c k 0 = tsj j := by
  funext c' k'
  rw [tn_u_eq]
  by_cases e : c' = c ∧ k' = k
  · rw [if_pos e]
    unfold tsj
    rw [if_neg (by omega)]
  · rw [if_neg e]
theorem tsj_u {j k : Nat} (h : k = j) : tn_u (tsj j) 40 k (-9) = tsj (j + 1) := by
  subst h
  funext c' k'
  rw [tn_u_eq]
  unfold tsj
  by_cases e : c' = 40 ∧ k' = k
  · rw [if_pos e, if_pos (by omega)]
  · rw [if_neg e]
    by_cases e2 : c' = 40 ∧ k' < k
    · rw [if_pos e2, if_pos (by omega)]
    · rw [if_neg e2, if_neg (by omega)]
theorem rl_z {L L' : List (List Nat)} {m n : Nat} (h : L' = L ++ [List.replicate m 0]) (hn : n = L.length) : tn_zr (tn_rL L) n = tn_rL L' := by
  subst h
  subst hn
  funext c k
  unfold tn_zr tn_rL
  by_cases e : c = L.length
  · rw [if_pos e, e]
    simp [List.getD_eq_getElem?_getD, List.getElem?_replicate]
    split <;> rfl
  · rw [if_neg e]
    have hh : (L ++ [List.replicate m 0])[c]? = L[c]? := by
      by_cases e2 : c < L.length
      · rw [List.getElem?_append_left e2]
      · rw [List.getElem?_eq_none (by rw [List.length_append]; simp; omega), List.getElem?_eq_none (by omega)]
    have h3 : (L ++ [List.replicate m 0]).getD c [] = L.getD c [] := by
      rw [List.getD_eq_getElem?_getD, List.getD_eq_getElem?_getD, hh]
    rw [h3]
theorem rl_u {L L' : List (List Nat)} {c k k0 y : Nat} (hk : k = k0) (hc : c < L.length ∧ k0 < (L.getD c []).length) (h : L.set c ((L.getD c []).set k0 y) = L') : tn_ur (tn_rL L) c k y = tn_rL L' := by
  subst hk
  subst h
  funext c' k'
  unfold tn_ur tn_rL
  by_cases e : c' = c
  · subst e
    rw [List.getD_eq_getElem?_getD (l := L.set _ _), List.getElem?_set_self hc.1]
    show _ = ((L.getD c' []).set k y).getD k' 0
    by_cases e2 : k' = k
    · subst e2
      rw [if_pos ⟨rfl, rfl⟩, List.getD_eq_getElem?_getD, List.getElem?_set_self hc.2]; rfl
    · rw [if_neg (by omega), List.getD_eq_getElem?_getD (l := (L.getD c' []).set k y), List.getElem?_set_ne (by omega), ← List.getD_eq_getElem?_getD]
  · rw [if_neg (by omega), List.getD_eq_getElem?_getD (l := L.set _ _), List.getElem?_set_ne (by omega), ← List.getD_eq_getElem?_getD]
theorem tn_cvt {Γ : tn_G} {pc : Nat} {loc st st' : List Value} {ca ca' sl sl' : Nat} {ks ks' : List (Nat × Nat)} {ρ ρ' : Nat → Nat → Nat} {σ σ' : Nat → Nat → Int32} (h1 : st = st') (h2 : ca = ca') (h3 : sl = sl') (h4 : ks = ks') (h5 : ρ = ρ') (h6 : σ = σ') (k : tn_A Γ pc loc st' ca' sl' ks' ρ' σ') : tn_A Γ pc loc st ca sl ks ρ σ := by
  subst h1 h2 h3 h4 h5 h6
  exact k
theorem df_0 : ∀ k, k < tn_N 0 → defaultValue (tn_ty0 k) = if tn_isR 0 k = true then Value.null else .int 0 := fun k hk => by
  have h : k = 0 ∨ k = 1 ∨ k = 2 ∨ k = 3 ∨ k = 4 := by have h0 : k < 5 := hk; omega
  rcases h with e | e | e | e | e <;> subst e <;> rfl
theorem df_1 : ∀ k, k < tn_N 1 → defaultValue (tn_ty1 k) = if tn_isR 1 k = true then Value.null else .int 0 := fun k hk => by
  have h : k = 0 ∨ k = 1 ∨ k = 2 ∨ k = 3 ∨ k = 4 ∨ k = 5 := by have h0 : k < 6 := hk; omega
  rcases h with e | e | e | e | e | e <;> subst e <;> rfl
theorem df_2 : ∀ k, k < tn_N 2 → defaultValue (tn_ty2 k) = if tn_isR 2 k = true then Value.null else .int 0 := fun k hk => by
  have h : k = 0 ∨ k = 1 ∨ k = 2 ∨ k = 3 := by have h0 : k < 4 := hk; omega
  rcases h with e | e | e | e <;> subst e <;> rfl
theorem df_3 : ∀ k, k < tn_N 3 → defaultValue (tn_ty3 k) = if tn_isR 3 k = true then Value.null else .int 0 := fun k hk => by
  have h : k = 0 ∨ k = 1 := by have h0 : k < 2 := hk; omega
  rcases h with e | e <;> subst e <;> rfl
theorem df_5 : ∀ k, k < tn_N 5 → defaultValue (tn_ty5 k) = if tn_isR 5 k = true then Value.null else .int 0 := fun k hk => by
  have h : k = 0 ∨ k = 1 ∨ k = 2 ∨ k = 3 ∨ k = 4 ∨ k = 5 ∨ k = 6 ∨ k = 7 ∨ k = 8 ∨ k = 9 := by have h0 : k < 10 := hk; omega
  rcases h with e | e | e | e | e | e | e | e | e | e <;> subst e <;> rfl
theorem df_6 : ∀ k, k < tn_N 6 → defaultValue (tn_ty6 k) = if tn_isR 6 k = true then Value.null else .int 0 := fun k hk => by
  have h : k = 0 ∨ k = 1 ∨ k = 2 ∨ k = 3 ∨ k = 4 ∨ k = 5 ∨ k = 6 ∨ k = 7 ∨ k = 8 ∨ k = 9 ∨ k = 10 ∨ k = 11 ∨ k = 12 ∨ k = 13 ∨ k = 14 ∨ k = 15 ∨ k = 16 ∨ k = 17 ∨ k = 18 ∨ k = 19 ∨ k = 20 ∨ k = 21 ∨ k = 22 ∨ k = 23 ∨ k = 24 ∨ k = 25 ∨ k = 26 ∨ k = 27 ∨ k = 28 := by have h0 : k < 29 := hk; omega
  rcases h with e | e | e | e | e | e | e | e | e | e | e | e | e | e | e | e | e | e | e | e | e | e | e | e | e | e | e | e | e <;> subst e <;> rfl
theorem c0_init {ks : List (Nat × Nat)} {ρ : Nat → Nat → Nat} {c j : Nat} {K : Option Value → List (Nat × Nat) → (Nat → Nat → Nat) → (Nat → Nat → Int32) → Prop} (hself : tn_kd ks c = some (0, 0)) (hne : c ≠ 40) (h : K none ks ρ (tsj j)) : tn_Call m_X0_init [.ref c] ks ρ (tsj j) K := by
  refine tn_intro (by decide) (Nat.le_of_ble_eq_true rfl) (fun Γ hΓ hK => ?_)
  refine tn_aload_n (pc := 0) hΓ d_X0_init_0 rfl ?_
  refine tn_objInit (pc := 1) hΓ d_X0_init_1 (tn_wi 115 (by decide +kernel)) (tn_wi 99 (by decide +kernel)) (tn_wi 100 (by decide +kernel)) (by have := (tn_kd2 hself).1; omega) (by decide) (by decide) ?_
  refine tn_aload_n (pc := 4) hΓ d_X0_init_4 rfl ?_
  refine tn_iconst (pc := 5) hΓ d_X0_init_5 ic_0 ?_
  refine tn_putI (pc := 6) hΓ d_X0_init_6 fl_0_9 fk_0_0_0 rfl hself  ?_
  rw [tsj_0 hne]
  refine tn_aload_n (pc := 9) hΓ d_X0_init_9 rfl ?_
  refine tn_iconst (pc := 10) hΓ d_X0_init_10 ic_0 ?_
  refine tn_putI (pc := 11) hΓ d_X0_init_11 fl_0_15 fk_0_0_1 rfl hself  ?_
  rw [tsj_0 hne]
  refine tn_aload_n (pc := 14) hΓ d_X0_init_14 rfl ?_
  refine tn_iconst (pc := 15) hΓ d_X0_init_15 ic_0 ?_
  refine tn_putI (pc := 16) hΓ d_X0_init_16 fl_0_18 fk_0_0_2 rfl hself  ?_
  rw [tsj_0 hne]
  refine tn_aload_n (pc := 19) hΓ d_X0_init_19 rfl ?_
  refine tn_iconst (pc := 20) hΓ d_X0_init_20 ic_0 ?_
  refine tn_putI (pc := 21) hΓ d_X0_init_21 fl_0_21 fk_0_0_3 rfl hself  ?_
  rw [tsj_0 hne]
  refine tn_aload_n (pc := 24) hΓ d_X0_init_24 rfl ?_
  refine tn_iconst (pc := 25) hΓ d_X0_init_25 ic_0 ?_
  refine tn_putZ (pc := 26) hΓ d_X0_init_26 fl_0_24 fk_0_0_4 rfl hself (Or.inl rfl) ?_
  rw [tsj_0 hne]
  exact tn_ret_v (pc := 29) hΓ hK d_X0_init_29 rfl (by decide) (by decide) h
theorem c3_init {ks : List (Nat × Nat)} {ρ : Nat → Nat → Nat} {c j : Nat} {K : Option Value → List (Nat × Nat) → (Nat → Nat → Nat) → (Nat → Nat → Int32) → Prop} (hself : tn_kd ks c = some (3, 0)) (hne : c ≠ 40) (h : K none ks ρ (tsj j)) : tn_Call m_X3_init [.ref c] ks ρ (tsj j) K := by
  refine tn_intro (by decide) (Nat.le_of_ble_eq_true rfl) (fun Γ hΓ hK => ?_)
  refine tn_aload_n (pc := 0) hΓ d_X3_init_0 rfl ?_
  refine tn_objInit (pc := 1) hΓ d_X3_init_1 (tn_wi 146 (by decide +kernel)) (tn_wi 99 (by decide +kernel)) (tn_wi 100 (by decide +kernel)) (by have := (tn_kd2 hself).1; omega) (by decide) (by decide) ?_
  refine tn_aload_n (pc := 4) hΓ d_X3_init_4 rfl ?_
  refine tn_iconst (pc := 5) hΓ d_X3_init_5 ic_0 ?_
  refine tn_putI (pc := 6) hΓ d_X3_init_6 fl_3_7 fk_3_3_0 rfl hself  ?_
  rw [tsj_0 hne]
  refine tn_aload_n (pc := 9) hΓ d_X3_init_9 rfl ?_
  refine tn_iconst (pc := 10) hΓ d_X3_init_10 ic_0 ?_
  refine tn_putZ (pc := 11) hΓ d_X3_init_11 fl_3_13 fk_3_3_1 rfl hself (Or.inl rfl) ?_
  rw [tsj_0 hne]
  exact tn_ret_v (pc := 14) hΓ hK d_X3_init_14 rfl (by decide) (by decide) h
theorem c_X1_init_3 {K : Option Value → List (Nat × Nat) → (Nat → Nat → Nat) → (Nat → Nat → Int32) → Prop} (h : K none [(5, 0), (1, 0), (8, 5), (9, 4), (0, 0), (0, 0), (0, 0), (0, 0), (0, 0), (3, 0), (3, 0), (3, 0), (3, 0)] (tn_rL [[], [], [0, 0, 0, 0, 0, 0], [4, 5], [6, 7, 8, 9, 10], [11, 12, 13, 14], [], [], [], [], [], [], [], [], []]) (tsj 0)) : tn_Call m_X1_init [.ref 3] [(5, 0), (1, 0)] (tn_rL [[], [], [0, 0, 0, 0, 0, 0], [0, 0]]) (tsj 0) K := by
  refine tn_intro (by decide) (Nat.le_of_ble_eq_true rfl) (fun Γ hΓ hK => ?_)
  refine tn_aload_n (pc := 0) hΓ d_X1_init_0 rfl ?_
  refine tn_objInit (pc := 1) hΓ d_X1_init_1 (tn_wi 106 (by decide +kernel)) (tn_wi 99 (by decide +kernel)) (tn_wi 100 (by decide +kernel)) (by decide) (by decide) (by decide) ?_
  refine tn_aload_n (pc := 4) hΓ d_X1_init_4 rfl ?_
  refine tn_iconst (pc := 5) hΓ d_X1_init_5 ic_5 ?_
  refine tn_anew (C := "ThunderOwned$House") (N := 5) (t := 0) (pc := 6) hΓ d_X1_init_6 (tn_wi 107 (by decide +kernel)) (by decide) (by decide) (by decide) (by decide) (by decide) (by decide) ?_
  refine tn_cvt (st' := [.ref 4, .ref 3]) (ca' := 1) (sl' := 5) (ks' := [(5, 0), (1, 0), (8, 5)]) (ρ' := (tn_rL [[], [], [0, 0, 0, 0, 0, 0], [0, 0], [0, 0, 0, 0, 0]])) (σ' := tsj 0) rfl rfl rfl rfl (rl_z (m := 5) rfl rfl) (tsj_z (by decide)) ?_
  refine tn_putR (pc := 9) hΓ d_X1_init_9 fl_1_13 fk_1_1_0 rfl rfl fo_1_13 rfl ?_
  refine tn_cvt (st' := []) (ca' := 1) (sl' := 5) (ks' := [(5, 0), (1, 0), (8, 5)]) (ρ' := (tn_rL [[], [], [0, 0, 0, 0, 0, 0], [4, 0], [0, 0, 0, 0, 0]])) (σ' := tsj 0) rfl rfl rfl rfl (rl_u (k0 := 0) rfl (by decide) rfl) rfl ?_
  refine tn_aload_n (pc := 12) hΓ d_X1_init_12 rfl ?_
  refine tn_iconst (pc := 13) hΓ d_X1_init_13 ic_4 ?_
  refine tn_anew (C := "ThunderOwned$Stone") (N := 4) (t := 1) (pc := 14) hΓ d_X1_init_14 (tn_wi 109 (by decide +kernel)) (by decide) (by decide) (by decide) (by decide) (by decide) (by decide) ?_
  refine tn_cvt (st' := [.ref 5, .ref 3]) (ca' := 2) (sl' := 9) (ks' := [(5, 0), (1, 0), (8, 5), (9, 4)]) (ρ' := (tn_rL [[], [], [0, 0, 0, 0, 0, 0], [4, 0], [0, 0, 0, 0, 0], [0, 0, 0, 0]])) (σ' := tsj 0) rfl rfl rfl rfl (rl_z (m := 4) rfl rfl) (tsj_z (by decide)) ?_
  refine tn_putR (pc := 17) hΓ d_X1_init_17 fl_1_19 fk_1_1_1 rfl rfl fo_1_19 rfl ?_
  refine tn_cvt (st' := []) (ca' := 2) (sl' := 9) (ks' := [(5, 0), (1, 0), (8, 5), (9, 4)]) (ρ' := (tn_rL [[], [], [0, 0, 0, 0, 0, 0], [4, 5], [0, 0, 0, 0, 0], [0, 0, 0, 0]])) (σ' := tsj 0) rfl rfl rfl rfl (rl_u (k0 := 1) rfl (by decide) rfl) rfl ?_
  refine tn_aload_n (pc := 20) hΓ d_X1_init_20 rfl ?_
  refine tn_iconst (pc := 21) hΓ d_X1_init_21 ic_0 ?_
  refine tn_putI (pc := 22) hΓ d_X1_init_22 fl_1_23 fk_1_1_2 rfl rfl  ?_
  refine tn_cvt (st' := []) (ca' := 2) (sl' := 9) (ks' := [(5, 0), (1, 0), (8, 5), (9, 4)]) (ρ' := (tn_rL [[], [], [0, 0, 0, 0, 0, 0], [4, 5], [0, 0, 0, 0, 0], [0, 0, 0, 0]])) (σ' := tsj 0) rfl rfl rfl rfl rfl (tsj_0 (by decide)) ?_
  refine tn_aload_n (pc := 25) hΓ d_X1_init_25 rfl ?_
  refine tn_iconst (pc := 26) hΓ d_X1_init_26 ic_0 ?_
  refine tn_putI (pc := 27) hΓ d_X1_init_27 fl_1_27 fk_1_1_3 rfl rfl  ?_
  refine tn_cvt (st' := []) (ca' := 2) (sl' := 9) (ks' := [(5, 0), (1, 0), (8, 5), (9, 4)]) (ρ' := (tn_rL [[], [], [0, 0, 0, 0, 0, 0], [4, 5], [0, 0, 0, 0, 0], [0, 0, 0, 0]])) (σ' := tsj 0) rfl rfl rfl rfl rfl (tsj_0 (by decide)) ?_
  refine tn_aload_n (pc := 30) hΓ d_X1_init_30 rfl ?_
  refine tn_iconst (pc := 31) hΓ d_X1_init_31 ic_0 ?_
  refine tn_putI (pc := 32) hΓ d_X1_init_32 fl_1_30 fk_1_1_4 rfl rfl  ?_
  refine tn_cvt (st' := []) (ca' := 2) (sl' := 9) (ks' := [(5, 0), (1, 0), (8, 5), (9, 4)]) (ρ' := (tn_rL [[], [], [0, 0, 0, 0, 0, 0], [4, 5], [0, 0, 0, 0, 0], [0, 0, 0, 0]])) (σ' := tsj 0) rfl rfl rfl rfl rfl (tsj_0 (by decide)) ?_
  refine tn_aload_n (pc := 35) hΓ d_X1_init_35 rfl ?_
  refine tn_iconst (pc := 36) hΓ d_X1_init_36 ic_0 ?_
  refine tn_putI (pc := 37) hΓ d_X1_init_37 fl_1_33 fk_1_1_5 rfl rfl  ?_
  refine tn_cvt (st' := []) (ca' := 2) (sl' := 9) (ks' := [(5, 0), (1, 0), (8, 5), (9, 4)]) (ρ' := (tn_rL [[], [], [0, 0, 0, 0, 0, 0], [4, 5], [0, 0, 0, 0, 0], [0, 0, 0, 0]])) (σ' := tsj 0) rfl rfl rfl rfl rfl (tsj_0 (by decide)) ?_
  refine tn_iconst (pc := 40) hΓ d_X1_init_40 ic_0 ?_
  refine tn_istore_n (loc' := [.ref 3, .int (0 : Int32)]) (pc := 41) hΓ d_X1_init_41 (by decide) rfl rfl ?_
  refine tn_iload_n (pc := 42) hΓ d_X1_init_42 rfl ?_
  refine tn_iconst (pc := 43) hΓ d_X1_init_43 ic_5 ?_
  refine tn_icmp_ge (tgt := 66) (pc := 44) hΓ d_X1_init_44 (by decide) (fun hq => absurd hq (by decide)) (fun _ => ?_)
  refine tn_aload_n (pc := 47) hΓ d_X1_init_47 rfl ?_
  refine tn_getRy (y := 4) (pc := 48) hΓ d_X1_init_48 fl_1_13 rfl rfl rfl ?_
  refine tn_iload_n (pc := 51) hΓ d_X1_init_51 rfl ?_
  refine tn_new (pc := 52) hΓ (i := 0) (T := tn_T0) tn_ty0 d_X1_init_52 (by decide) rfl tn_us0 tn_tk0 (tn_wi 107 (by decide +kernel)) (tn_wi 111 (by decide +kernel)) (tn_wi 85 (by decide +kernel)) df_0 (by decide) (by decide) ?_
  refine tn_cvt (st' := [.ref 6, .int (0 : Int32), .ref 4]) (ca' := 3) (sl' := 14) (ks' := [(5, 0), (1, 0), (8, 5), (9, 4), (0, 0)]) (ρ' := (tn_rL [[], [], [0, 0, 0, 0, 0, 0], [4, 5], [0, 0, 0, 0, 0], [0, 0, 0, 0], []])) (σ' := tsj 0) rfl rfl rfl rfl (rl_z (m := 0) rfl rfl) (tsj_z (by decide)) ?_
  refine tn_dupr (pc := 55) hΓ d_X1_init_55 ?_
  refine tn_ci (As := []) (st := [.ref 6, .int (0 : Int32), .ref 4]) (x := 6) (y := m_X0_init) (pc := 56) hΓ d_X1_init_56 mv_X0_init im_X0_init rfl rfl ml_1_36 ⟨⟨by decide, by decide⟩, by decide, by decide⟩ rfl (by decide) (Nat.le_of_ble_eq_true rfl) (c0_init rfl (by decide) (K := fun v ks' ρ' σ' => v = none ∧ ks' = [(5, 0), (1, 0), (8, 5), (9, 4), (0, 0)] ∧ ρ' = (tn_rL [[], [], [0, 0, 0, 0, 0, 0], [4, 5], [0, 0, 0, 0, 0], [0, 0, 0, 0], []]) ∧ σ' = tsj 0) ⟨rfl, rfl, rfl, rfl⟩) (fun v ks' ρ' σ' hh => ?_)
  obtain ⟨rfl, rfl, rfl, rfl⟩ := hh
  refine tn_cvt (st' := [.ref 6, .int (0 : Int32), .ref 4]) (ca' := 3) (sl' := 14) (ks' := [(5, 0), (1, 0), (8, 5), (9, 4), (0, 0)]) (ρ' := (tn_rL [[], [], [0, 0, 0, 0, 0, 0], [4, 5], [0, 0, 0, 0, 0], [0, 0, 0, 0], []])) (σ' := tsj 0) rfl rfl rfl rfl rfl rfl ?_
  refine tn_aast (t := 0) (n := 5) (i0 := 0) (n0' := 0) (pc := 59) hΓ d_X1_init_59 (by decide) rfl (by unfold vp_in; decide) rfl ?_
  refine tn_cvt (st' := []) (ca' := 3) (sl' := 14) (ks' := [(5, 0), (1, 0), (8, 5), (9, 4), (0, 0)]) (ρ' := (tn_rL [[], [], [0, 0, 0, 0, 0, 0], [4, 5], [6, 0, 0, 0, 0], [0, 0, 0, 0], []])) (σ' := tsj 0) rfl rfl rfl rfl (rl_u (k0 := 0) (by decide) (by decide) rfl) rfl ?_
  refine tn_iincw (loc' := fun v_ => [.ref 3, .int v_]) (pc := 60) hΓ d_X1_init_60 rfl ic_1 (by decide) rfl (fun _ => rfl) (fun v ev => ?_)
  rw [show (0 : Int32) + 1 = (1 : Int32) by decide] at ev
  subst ev
  refine tn_goto (tgt := 42) (pc := 63) hΓ d_X1_init_63 (by decide) ?_
  refine tn_iload_n (pc := 42) hΓ d_X1_init_42 rfl ?_
  refine tn_iconst (pc := 43) hΓ d_X1_init_43 ic_5 ?_
  refine tn_icmp_ge (tgt := 66) (pc := 44) hΓ d_X1_init_44 (by decide) (fun hq => absurd hq (by decide)) (fun _ => ?_)
  refine tn_aload_n (pc := 47) hΓ d_X1_init_47 rfl ?_
  refine tn_getRy (y := 4) (pc := 48) hΓ d_X1_init_48 fl_1_13 rfl rfl rfl ?_
  refine tn_iload_n (pc := 51) hΓ d_X1_init_51 rfl ?_
  refine tn_new (pc := 52) hΓ (i := 0) (T := tn_T0) tn_ty0 d_X1_init_52 (by decide) rfl tn_us0 tn_tk0 (tn_wi 107 (by decide +kernel)) (tn_wi 111 (by decide +kernel)) (tn_wi 85 (by decide +kernel)) df_0 (by decide) (by decide) ?_
  refine tn_cvt (st' := [.ref 7, .int (1 : Int32), .ref 4]) (ca' := 4) (sl' := 19) (ks' := [(5, 0), (1, 0), (8, 5), (9, 4), (0, 0), (0, 0)]) (ρ' := (tn_rL [[], [], [0, 0, 0, 0, 0, 0], [4, 5], [6, 0, 0, 0, 0], [0, 0, 0, 0], [], []])) (σ' := tsj 0) rfl rfl rfl rfl (rl_z (m := 0) rfl rfl) (tsj_z (by decide)) ?_
  refine tn_dupr (pc := 55) hΓ d_X1_init_55 ?_
  refine tn_ci (As := []) (st := [.ref 7, .int (1 : Int32), .ref 4]) (x := 7) (y := m_X0_init) (pc := 56) hΓ d_X1_init_56 mv_X0_init im_X0_init rfl rfl ml_1_36 ⟨⟨by decide, by decide⟩, by decide, by decide⟩ rfl (by decide) (Nat.le_of_ble_eq_true rfl) (c0_init rfl (by decide) (K := fun v ks' ρ' σ' => v = none ∧ ks' = [(5, 0), (1, 0), (8, 5), (9, 4), (0, 0), (0, 0)] ∧ ρ' = (tn_rL [[], [], [0, 0, 0, 0, 0, 0], [4, 5], [6, 0, 0, 0, 0], [0, 0, 0, 0], [], []]) ∧ σ' = tsj 0) ⟨rfl, rfl, rfl, rfl⟩) (fun v ks' ρ' σ' hh => ?_)
  obtain ⟨rfl, rfl, rfl, rfl⟩ := hh
  refine tn_cvt (st' := [.ref 7, .int (1 : Int32), .ref 4]) (ca' := 4) (sl' := 19) (ks' := [(5, 0), (1, 0), (8, 5), (9, 4), (0, 0), (0, 0)]) (ρ' := (tn_rL [[], [], [0, 0, 0, 0, 0, 0], [4, 5], [6, 0, 0, 0, 0], [0, 0, 0, 0], [], []])) (σ' := tsj 0) rfl rfl rfl rfl rfl rfl ?_
  refine tn_aast (t := 0) (n := 5) (i0 := 0) (n0' := 0) (pc := 59) hΓ d_X1_init_59 (by decide) rfl (by unfold vp_in; decide) rfl ?_
  refine tn_cvt (st' := []) (ca' := 4) (sl' := 19) (ks' := [(5, 0), (1, 0), (8, 5), (9, 4), (0, 0), (0, 0)]) (ρ' := (tn_rL [[], [], [0, 0, 0, 0, 0, 0], [4, 5], [6, 7, 0, 0, 0], [0, 0, 0, 0], [], []])) (σ' := tsj 0) rfl rfl rfl rfl (rl_u (k0 := 1) (by decide) (by decide) rfl) rfl ?_
  refine tn_iincw (loc' := fun v_ => [.ref 3, .int v_]) (pc := 60) hΓ d_X1_init_60 rfl ic_1 (by decide) rfl (fun _ => rfl) (fun v ev => ?_)
  rw [show (1 : Int32) + 1 = (2 : Int32) by decide] at ev
  subst ev
  refine tn_goto (tgt := 42) (pc := 63) hΓ d_X1_init_63 (by decide) ?_
  refine tn_iload_n (pc := 42) hΓ d_X1_init_42 rfl ?_
  refine tn_iconst (pc := 43) hΓ d_X1_init_43 ic_5 ?_
  refine tn_icmp_ge (tgt := 66) (pc := 44) hΓ d_X1_init_44 (by decide) (fun hq => absurd hq (by decide)) (fun _ => ?_)
  refine tn_aload_n (pc := 47) hΓ d_X1_init_47 rfl ?_
  refine tn_getRy (y := 4) (pc := 48) hΓ d_X1_init_48 fl_1_13 rfl rfl rfl ?_
  refine tn_iload_n (pc := 51) hΓ d_X1_init_51 rfl ?_
  refine tn_new (pc := 52) hΓ (i := 0) (T := tn_T0) tn_ty0 d_X1_init_52 (by decide) rfl tn_us0 tn_tk0 (tn_wi 107 (by decide +kernel)) (tn_wi 111 (by decide +kernel)) (tn_wi 85 (by decide +kernel)) df_0 (by decide) (by decide) ?_
  refine tn_cvt (st' := [.ref 8, .int (2 : Int32), .ref 4]) (ca' := 5) (sl' := 24) (ks' := [(5, 0), (1, 0), (8, 5), (9, 4), (0, 0), (0, 0), (0, 0)]) (ρ' := (tn_rL [[], [], [0, 0, 0, 0, 0, 0], [4, 5], [6, 7, 0, 0, 0], [0, 0, 0, 0], [], [], []])) (σ' := tsj 0) rfl rfl rfl rfl (rl_z (m := 0) rfl rfl) (tsj_z (by decide)) ?_
  refine tn_dupr (pc := 55) hΓ d_X1_init_55 ?_
  refine tn_ci (As := []) (st := [.ref 8, .int (2 : Int32), .ref 4]) (x := 8) (y := m_X0_init) (pc := 56) hΓ d_X1_init_56 mv_X0_init im_X0_init rfl rfl ml_1_36 ⟨⟨by decide, by decide⟩, by decide, by decide⟩ rfl (by decide) (Nat.le_of_ble_eq_true rfl) (c0_init rfl (by decide) (K := fun v ks' ρ' σ' => v = none ∧ ks' = [(5, 0), (1, 0), (8, 5), (9, 4), (0, 0), (0, 0), (0, 0)] ∧ ρ' = (tn_rL [[], [], [0, 0, 0, 0, 0, 0], [4, 5], [6, 7, 0, 0, 0], [0, 0, 0, 0], [], [], []]) ∧ σ' = tsj 0) ⟨rfl, rfl, rfl, rfl⟩) (fun v ks' ρ' σ' hh => ?_)
  obtain ⟨rfl, rfl, rfl, rfl⟩ := hh
  refine tn_cvt (st' := [.ref 8, .int (2 : Int32), .ref 4]) (ca' := 5) (sl' := 24) (ks' := [(5, 0), (1, 0), (8, 5), (9, 4), (0, 0), (0, 0), (0, 0)]) (ρ' := (tn_rL [[], [], [0, 0, 0, 0, 0, 0], [4, 5], [6, 7, 0, 0, 0], [0, 0, 0, 0], [], [], []])) (σ' := tsj 0) rfl rfl rfl rfl rfl rfl ?_
  refine tn_aast (t := 0) (n := 5) (i0 := 0) (n0' := 0) (pc := 59) hΓ d_X1_init_59 (by decide) rfl (by unfold vp_in; decide) rfl ?_
  refine tn_cvt (st' := []) (ca' := 5) (sl' := 24) (ks' := [(5, 0), (1, 0), (8, 5), (9, 4), (0, 0), (0, 0), (0, 0)]) (ρ' := (tn_rL [[], [], [0, 0, 0, 0, 0, 0], [4, 5], [6, 7, 8, 0, 0], [0, 0, 0, 0], [], [], []])) (σ' := tsj 0) rfl rfl rfl rfl (rl_u (k0 := 2) (by decide) (by decide) rfl) rfl ?_
  refine tn_iincw (loc' := fun v_ => [.ref 3, .int v_]) (pc := 60) hΓ d_X1_init_60 rfl ic_1 (by decide) rfl (fun _ => rfl) (fun v ev => ?_)
  rw [show (2 : Int32) + 1 = (3 : Int32) by decide] at ev
  subst ev
  refine tn_goto (tgt := 42) (pc := 63) hΓ d_X1_init_63 (by decide) ?_
  refine tn_iload_n (pc := 42) hΓ d_X1_init_42 rfl ?_
  refine tn_iconst (pc := 43) hΓ d_X1_init_43 ic_5 ?_
  refine tn_icmp_ge (tgt := 66) (pc := 44) hΓ d_X1_init_44 (by decide) (fun hq => absurd hq (by decide)) (fun _ => ?_)
  refine tn_aload_n (pc := 47) hΓ d_X1_init_47 rfl ?_
  refine tn_getRy (y := 4) (pc := 48) hΓ d_X1_init_48 fl_1_13 rfl rfl rfl ?_
  refine tn_iload_n (pc := 51) hΓ d_X1_init_51 rfl ?_
  refine tn_new (pc := 52) hΓ (i := 0) (T := tn_T0) tn_ty0 d_X1_init_52 (by decide) rfl tn_us0 tn_tk0 (tn_wi 107 (by decide +kernel)) (tn_wi 111 (by decide +kernel)) (tn_wi 85 (by decide +kernel)) df_0 (by decide) (by decide) ?_
  refine tn_cvt (st' := [.ref 9, .int (3 : Int32), .ref 4]) (ca' := 6) (sl' := 29) (ks' := [(5, 0), (1, 0), (8, 5), (9, 4), (0, 0), (0, 0), (0, 0), (0, 0)]) (ρ' := (tn_rL [[], [], [0, 0, 0, 0, 0, 0], [4, 5], [6, 7, 8, 0, 0], [0, 0, 0, 0], [], [], [], []])) (σ' := tsj 0) rfl rfl rfl rfl (rl_z (m := 0) rfl rfl) (tsj_z (by decide)) ?_
  refine tn_dupr (pc := 55) hΓ d_X1_init_55 ?_
  refine tn_ci (As := []) (st := [.ref 9, .int (3 : Int32), .ref 4]) (x := 9) (y := m_X0_init) (pc := 56) hΓ d_X1_init_56 mv_X0_init im_X0_init rfl rfl ml_1_36 ⟨⟨by decide, by decide⟩, by decide, by decide⟩ rfl (by decide) (Nat.le_of_ble_eq_true rfl) (c0_init rfl (by decide) (K := fun v ks' ρ' σ' => v = none ∧ ks' = [(5, 0), (1, 0), (8, 5), (9, 4), (0, 0), (0, 0), (0, 0), (0, 0)] ∧ ρ' = (tn_rL [[], [], [0, 0, 0, 0, 0, 0], [4, 5], [6, 7, 8, 0, 0], [0, 0, 0, 0], [], [], [], []]) ∧ σ' = tsj 0) ⟨rfl, rfl, rfl, rfl⟩) (fun v ks' ρ' σ' hh => ?_)
  obtain ⟨rfl, rfl, rfl, rfl⟩ := hh
  refine tn_cvt (st' := [.ref 9, .int (3 : Int32), .ref 4]) (ca' := 6) (sl' := 29) (ks' := [(5, 0), (1, 0), (8, 5), (9, 4), (0, 0), (0, 0), (0, 0), (0, 0)]) (ρ' := (tn_rL [[], [], [0, 0, 0, 0, 0, 0], [4, 5], [6, 7, 8, 0, 0], [0, 0, 0, 0], [], [], [], []])) (σ' := tsj 0) rfl rfl rfl rfl rfl rfl ?_
  refine tn_aast (t := 0) (n := 5) (i0 := 0) (n0' := 0) (pc := 59) hΓ d_X1_init_59 (by decide) rfl (by unfold vp_in; decide) rfl ?_
  refine tn_cvt (st' := []) (ca' := 6) (sl' := 29) (ks' := [(5, 0), (1, 0), (8, 5), (9, 4), (0, 0), (0, 0), (0, 0), (0, 0)]) (ρ' := (tn_rL [[], [], [0, 0, 0, 0, 0, 0], [4, 5], [6, 7, 8, 9, 0], [0, 0, 0, 0], [], [], [], []])) (σ' := tsj 0) rfl rfl rfl rfl (rl_u (k0 := 3) (by decide) (by decide) rfl) rfl ?_
  refine tn_iincw (loc' := fun v_ => [.ref 3, .int v_]) (pc := 60) hΓ d_X1_init_60 rfl ic_1 (by decide) rfl (fun _ => rfl) (fun v ev => ?_)
  rw [show (3 : Int32) + 1 = (4 : Int32) by decide] at ev
  subst ev
  refine tn_goto (tgt := 42) (pc := 63) hΓ d_X1_init_63 (by decide) ?_
  refine tn_iload_n (pc := 42) hΓ d_X1_init_42 rfl ?_
  refine tn_iconst (pc := 43) hΓ d_X1_init_43 ic_5 ?_
  refine tn_icmp_ge (tgt := 66) (pc := 44) hΓ d_X1_init_44 (by decide) (fun hq => absurd hq (by decide)) (fun _ => ?_)
  refine tn_aload_n (pc := 47) hΓ d_X1_init_47 rfl ?_
  refine tn_getRy (y := 4) (pc := 48) hΓ d_X1_init_48 fl_1_13 rfl rfl rfl ?_
  refine tn_iload_n (pc := 51) hΓ d_X1_init_51 rfl ?_
  refine tn_new (pc := 52) hΓ (i := 0) (T := tn_T0) tn_ty0 d_X1_init_52 (by decide) rfl tn_us0 tn_tk0 (tn_wi 107 (by decide +kernel)) (tn_wi 111 (by decide +kernel)) (tn_wi 85 (by decide +kernel)) df_0 (by decide) (by decide) ?_
  refine tn_cvt (st' := [.ref 10, .int (4 : Int32), .ref 4]) (ca' := 7) (sl' := 34) (ks' := [(5, 0), (1, 0), (8, 5), (9, 4), (0, 0), (0, 0), (0, 0), (0, 0), (0, 0)]) (ρ' := (tn_rL [[], [], [0, 0, 0, 0, 0, 0], [4, 5], [6, 7, 8, 9, 0], [0, 0, 0, 0], [], [], [], [], []])) (σ' := tsj 0) rfl rfl rfl rfl (rl_z (m := 0) rfl rfl) (tsj_z (by decide)) ?_
  refine tn_dupr (pc := 55) hΓ d_X1_init_55 ?_
  refine tn_ci (As := []) (st := [.ref 10, .int (4 : Int32), .ref 4]) (x := 10) (y := m_X0_init) (pc := 56) hΓ d_X1_init_56 mv_X0_init im_X0_init rfl rfl ml_1_36 ⟨⟨by decide, by decide⟩, by decide, by decide⟩ rfl (by decide) (Nat.le_of_ble_eq_true rfl) (c0_init rfl (by decide) (K := fun v ks' ρ' σ' => v = none ∧ ks' = [(5, 0), (1, 0), (8, 5), (9, 4), (0, 0), (0, 0), (0, 0), (0, 0), (0, 0)] ∧ ρ' = (tn_rL [[], [], [0, 0, 0, 0, 0, 0], [4, 5], [6, 7, 8, 9, 0], [0, 0, 0, 0], [], [], [], [], []]) ∧ σ' = tsj 0) ⟨rfl, rfl, rfl, rfl⟩) (fun v ks' ρ' σ' hh => ?_)
  obtain ⟨rfl, rfl, rfl, rfl⟩ := hh
  refine tn_cvt (st' := [.ref 10, .int (4 : Int32), .ref 4]) (ca' := 7) (sl' := 34) (ks' := [(5, 0), (1, 0), (8, 5), (9, 4), (0, 0), (0, 0), (0, 0), (0, 0), (0, 0)]) (ρ' := (tn_rL [[], [], [0, 0, 0, 0, 0, 0], [4, 5], [6, 7, 8, 9, 0], [0, 0, 0, 0], [], [], [], [], []])) (σ' := tsj 0) rfl rfl rfl rfl rfl rfl ?_
  refine tn_aast (t := 0) (n := 5) (i0 := 0) (n0' := 0) (pc := 59) hΓ d_X1_init_59 (by decide) rfl (by unfold vp_in; decide) rfl ?_
  refine tn_cvt (st' := []) (ca' := 7) (sl' := 34) (ks' := [(5, 0), (1, 0), (8, 5), (9, 4), (0, 0), (0, 0), (0, 0), (0, 0), (0, 0)]) (ρ' := (tn_rL [[], [], [0, 0, 0, 0, 0, 0], [4, 5], [6, 7, 8, 9, 10], [0, 0, 0, 0], [], [], [], [], []])) (σ' := tsj 0) rfl rfl rfl rfl (rl_u (k0 := 4) (by decide) (by decide) rfl) rfl ?_
  refine tn_iincw (loc' := fun v_ => [.ref 3, .int v_]) (pc := 60) hΓ d_X1_init_60 rfl ic_1 (by decide) rfl (fun _ => rfl) (fun v ev => ?_)
  rw [show (4 : Int32) + 1 = (5 : Int32) by decide] at ev
  subst ev
  refine tn_goto (tgt := 42) (pc := 63) hΓ d_X1_init_63 (by decide) ?_
  refine tn_iload_n (pc := 42) hΓ d_X1_init_42 rfl ?_
  refine tn_iconst (pc := 43) hΓ d_X1_init_43 ic_5 ?_
  refine tn_icmp_ge (tgt := 66) (pc := 44) hΓ d_X1_init_44 (by decide) (fun _ => ?_) (fun hq => absurd (by decide) hq)
  refine tn_iconst (pc := 66) hΓ d_X1_init_66 ic_0 ?_
  refine tn_istore_n (loc' := [.ref 3, .int (0 : Int32)]) (pc := 67) hΓ d_X1_init_67 (by decide) rfl rfl ?_
  refine tn_iload_n (pc := 68) hΓ d_X1_init_68 rfl ?_
  refine tn_iconst (pc := 69) hΓ d_X1_init_69 ic_4 ?_
  refine tn_icmp_ge (tgt := 92) (pc := 70) hΓ d_X1_init_70 (by decide) (fun hq => absurd hq (by decide)) (fun _ => ?_)
  refine tn_aload_n (pc := 73) hΓ d_X1_init_73 rfl ?_
  refine tn_getRy (y := 5) (pc := 74) hΓ d_X1_init_74 fl_1_19 rfl rfl rfl ?_
  refine tn_iload_n (pc := 77) hΓ d_X1_init_77 rfl ?_
  refine tn_new (pc := 78) hΓ (i := 3) (T := tn_T3) tn_ty3 d_X1_init_78 (by decide) rfl tn_us3 tn_tk3 (tn_wi 109 (by decide +kernel)) (tn_wi 142 (by decide +kernel)) (tn_wi 86 (by decide +kernel)) df_3 (by decide) (by decide) ?_
  refine tn_cvt (st' := [.ref 11, .int (0 : Int32), .ref 5]) (ca' := 8) (sl' := 36) (ks' := [(5, 0), (1, 0), (8, 5), (9, 4), (0, 0), (0, 0), (0, 0), (0, 0), (0, 0), (3, 0)]) (ρ' := (tn_rL [[], [], [0, 0, 0, 0, 0, 0], [4, 5], [6, 7, 8, 9, 10], [0, 0, 0, 0], [], [], [], [], [], []])) (σ' := tsj 0) rfl rfl rfl rfl (rl_z (m := 0) rfl rfl) (tsj_z (by decide)) ?_
  refine tn_dupr (pc := 81) hΓ d_X1_init_81 ?_
  refine tn_ci (As := []) (st := [.ref 11, .int (0 : Int32), .ref 5]) (x := 11) (y := m_X3_init) (pc := 82) hΓ d_X1_init_82 mv_X3_init im_X3_init rfl rfl ml_1_37 ⟨⟨by decide, by decide⟩, by decide, by decide⟩ rfl (by decide) (Nat.le_of_ble_eq_true rfl) (c3_init rfl (by decide) (K := fun v ks' ρ' σ' => v = none ∧ ks' = [(5, 0), (1, 0), (8, 5), (9, 4), (0, 0), (0, 0), (0, 0), (0, 0), (0, 0), (3, 0)] ∧ ρ' = (tn_rL [[], [], [0, 0, 0, 0, 0, 0], [4, 5], [6, 7, 8, 9, 10], [0, 0, 0, 0], [], [], [], [], [], []]) ∧ σ' = tsj 0) ⟨rfl, rfl, rfl, rfl⟩) (fun v ks' ρ' σ' hh => ?_)
  obtain ⟨rfl, rfl, rfl, rfl⟩ := hh
  refine tn_cvt (st' := [.ref 11, .int (0 : Int32), .ref 5]) (ca' := 8) (sl' := 36) (ks' := [(5, 0), (1, 0), (8, 5), (9, 4), (0, 0), (0, 0), (0, 0), (0, 0), (0, 0), (3, 0)]) (ρ' := (tn_rL [[], [], [0, 0, 0, 0, 0, 0], [4, 5], [6, 7, 8, 9, 10], [0, 0, 0, 0], [], [], [], [], [], []])) (σ' := tsj 0) rfl rfl rfl rfl rfl rfl ?_
  refine tn_aast (t := 1) (n := 4) (i0 := 3) (n0' := 0) (pc := 85) hΓ d_X1_init_85 (by decide) rfl (by unfold vp_in; decide) rfl ?_
  refine tn_cvt (st' := []) (ca' := 8) (sl' := 36) (ks' := [(5, 0), (1, 0), (8, 5), (9, 4), (0, 0), (0, 0), (0, 0), (0, 0), (0, 0), (3, 0)]) (ρ' := (tn_rL [[], [], [0, 0, 0, 0, 0, 0], [4, 5], [6, 7, 8, 9, 10], [11, 0, 0, 0], [], [], [], [], [], []])) (σ' := tsj 0) rfl rfl rfl rfl (rl_u (k0 := 0) (by decide) (by decide) rfl) rfl ?_
  refine tn_iincw (loc' := fun v_ => [.ref 3, .int v_]) (pc := 86) hΓ d_X1_init_86 rfl ic_1 (by decide) rfl (fun _ => rfl) (fun v ev => ?_)
  rw [show (0 : Int32) + 1 = (1 : Int32) by decide] at ev
  subst ev
  refine tn_goto (tgt := 68) (pc := 89) hΓ d_X1_init_89 (by decide) ?_
  refine tn_iload_n (pc := 68) hΓ d_X1_init_68 rfl ?_
  refine tn_iconst (pc := 69) hΓ d_X1_init_69 ic_4 ?_
  refine tn_icmp_ge (tgt := 92) (pc := 70) hΓ d_X1_init_70 (by decide) (fun hq => absurd hq (by decide)) (fun _ => ?_)
  refine tn_aload_n (pc := 73) hΓ d_X1_init_73 rfl ?_
  refine tn_getRy (y := 5) (pc := 74) hΓ d_X1_init_74 fl_1_19 rfl rfl rfl ?_
  refine tn_iload_n (pc := 77) hΓ d_X1_init_77 rfl ?_
  refine tn_new (pc := 78) hΓ (i := 3) (T := tn_T3) tn_ty3 d_X1_init_78 (by decide) rfl tn_us3 tn_tk3 (tn_wi 109 (by decide +kernel)) (tn_wi 142 (by decide +kernel)) (tn_wi 86 (by decide +kernel)) df_3 (by decide) (by decide) ?_
  refine tn_cvt (st' := [.ref 12, .int (1 : Int32), .ref 5]) (ca' := 9) (sl' := 38) (ks' := [(5, 0), (1, 0), (8, 5), (9, 4), (0, 0), (0, 0), (0, 0), (0, 0), (0, 0), (3, 0), (3, 0)]) (ρ' := (tn_rL [[], [], [0, 0, 0, 0, 0, 0], [4, 5], [6, 7, 8, 9, 10], [11, 0, 0, 0], [], [], [], [], [], [], []])) (σ' := tsj 0) rfl rfl rfl rfl (rl_z (m := 0) rfl rfl) (tsj_z (by decide)) ?_
  refine tn_dupr (pc := 81) hΓ d_X1_init_81 ?_
  refine tn_ci (As := []) (st := [.ref 12, .int (1 : Int32), .ref 5]) (x := 12) (y := m_X3_init) (pc := 82) hΓ d_X1_init_82 mv_X3_init im_X3_init rfl rfl ml_1_37 ⟨⟨by decide, by decide⟩, by decide, by decide⟩ rfl (by decide) (Nat.le_of_ble_eq_true rfl) (c3_init rfl (by decide) (K := fun v ks' ρ' σ' => v = none ∧ ks' = [(5, 0), (1, 0), (8, 5), (9, 4), (0, 0), (0, 0), (0, 0), (0, 0), (0, 0), (3, 0), (3, 0)] ∧ ρ' = (tn_rL [[], [], [0, 0, 0, 0, 0, 0], [4, 5], [6, 7, 8, 9, 10], [11, 0, 0, 0], [], [], [], [], [], [], []]) ∧ σ' = tsj 0) ⟨rfl, rfl, rfl, rfl⟩) (fun v ks' ρ' σ' hh => ?_)
  obtain ⟨rfl, rfl, rfl, rfl⟩ := hh
  refine tn_cvt (st' := [.ref 12, .int (1 : Int32), .ref 5]) (ca' := 9) (sl' := 38) (ks' := [(5, 0), (1, 0), (8, 5), (9, 4), (0, 0), (0, 0), (0, 0), (0, 0), (0, 0), (3, 0), (3, 0)]) (ρ' := (tn_rL [[], [], [0, 0, 0, 0, 0, 0], [4, 5], [6, 7, 8, 9, 10], [11, 0, 0, 0], [], [], [], [], [], [], []])) (σ' := tsj 0) rfl rfl rfl rfl rfl rfl ?_
  refine tn_aast (t := 1) (n := 4) (i0 := 3) (n0' := 0) (pc := 85) hΓ d_X1_init_85 (by decide) rfl (by unfold vp_in; decide) rfl ?_
  refine tn_cvt (st' := []) (ca' := 9) (sl' := 38) (ks' := [(5, 0), (1, 0), (8, 5), (9, 4), (0, 0), (0, 0), (0, 0), (0, 0), (0, 0), (3, 0), (3, 0)]) (ρ' := (tn_rL [[], [], [0, 0, 0, 0, 0, 0], [4, 5], [6, 7, 8, 9, 10], [11, 12, 0, 0], [], [], [], [], [], [], []])) (σ' := tsj 0) rfl rfl rfl rfl (rl_u (k0 := 1) (by decide) (by decide) rfl) rfl ?_
  refine tn_iincw (loc' := fun v_ => [.ref 3, .int v_]) (pc := 86) hΓ d_X1_init_86 rfl ic_1 (by decide) rfl (fun _ => rfl) (fun v ev => ?_)
  rw [show (1 : Int32) + 1 = (2 : Int32) by decide] at ev
  subst ev
  refine tn_goto (tgt := 68) (pc := 89) hΓ d_X1_init_89 (by decide) ?_
  refine tn_iload_n (pc := 68) hΓ d_X1_init_68 rfl ?_
  refine tn_iconst (pc := 69) hΓ d_X1_init_69 ic_4 ?_
  refine tn_icmp_ge (tgt := 92) (pc := 70) hΓ d_X1_init_70 (by decide) (fun hq => absurd hq (by decide)) (fun _ => ?_)
  refine tn_aload_n (pc := 73) hΓ d_X1_init_73 rfl ?_
  refine tn_getRy (y := 5) (pc := 74) hΓ d_X1_init_74 fl_1_19 rfl rfl rfl ?_
  refine tn_iload_n (pc := 77) hΓ d_X1_init_77 rfl ?_
  refine tn_new (pc := 78) hΓ (i := 3) (T := tn_T3) tn_ty3 d_X1_init_78 (by decide) rfl tn_us3 tn_tk3 (tn_wi 109 (by decide +kernel)) (tn_wi 142 (by decide +kernel)) (tn_wi 86 (by decide +kernel)) df_3 (by decide) (by decide) ?_
  refine tn_cvt (st' := [.ref 13, .int (2 : Int32), .ref 5]) (ca' := 10) (sl' := 40) (ks' := [(5, 0), (1, 0), (8, 5), (9, 4), (0, 0), (0, 0), (0, 0), (0, 0), (0, 0), (3, 0), (3, 0), (3, 0)]) (ρ' := (tn_rL [[], [], [0, 0, 0, 0, 0, 0], [4, 5], [6, 7, 8, 9, 10], [11, 12, 0, 0], [], [], [], [], [], [], [], []])) (σ' := tsj 0) rfl rfl rfl rfl (rl_z (m := 0) rfl rfl) (tsj_z (by decide)) ?_
  refine tn_dupr (pc := 81) hΓ d_X1_init_81 ?_
  refine tn_ci (As := []) (st := [.ref 13, .int (2 : Int32), .ref 5]) (x := 13) (y := m_X3_init) (pc := 82) hΓ d_X1_init_82 mv_X3_init im_X3_init rfl rfl ml_1_37 ⟨⟨by decide, by decide⟩, by decide, by decide⟩ rfl (by decide) (Nat.le_of_ble_eq_true rfl) (c3_init rfl (by decide) (K := fun v ks' ρ' σ' => v = none ∧ ks' = [(5, 0), (1, 0), (8, 5), (9, 4), (0, 0), (0, 0), (0, 0), (0, 0), (0, 0), (3, 0), (3, 0), (3, 0)] ∧ ρ' = (tn_rL [[], [], [0, 0, 0, 0, 0, 0], [4, 5], [6, 7, 8, 9, 10], [11, 12, 0, 0], [], [], [], [], [], [], [], []]) ∧ σ' = tsj 0) ⟨rfl, rfl, rfl, rfl⟩) (fun v ks' ρ' σ' hh => ?_)
  obtain ⟨rfl, rfl, rfl, rfl⟩ := hh
  refine tn_cvt (st' := [.ref 13, .int (2 : Int32), .ref 5]) (ca' := 10) (sl' := 40) (ks' := [(5, 0), (1, 0), (8, 5), (9, 4), (0, 0), (0, 0), (0, 0), (0, 0), (0, 0), (3, 0), (3, 0), (3, 0)]) (ρ' := (tn_rL [[], [], [0, 0, 0, 0, 0, 0], [4, 5], [6, 7, 8, 9, 10], [11, 12, 0, 0], [], [], [], [], [], [], [], []])) (σ' := tsj 0) rfl rfl rfl rfl rfl rfl ?_
  refine tn_aast (t := 1) (n := 4) (i0 := 3) (n0' := 0) (pc := 85) hΓ d_X1_init_85 (by decide) rfl (by unfold vp_in; decide) rfl ?_
  refine tn_cvt (st' := []) (ca' := 10) (sl' := 40) (ks' := [(5, 0), (1, 0), (8, 5), (9, 4), (0, 0), (0, 0), (0, 0), (0, 0), (0, 0), (3, 0), (3, 0), (3, 0)]) (ρ' := (tn_rL [[], [], [0, 0, 0, 0, 0, 0], [4, 5], [6, 7, 8, 9, 10], [11, 12, 13, 0], [], [], [], [], [], [], [], []])) (σ' := tsj 0) rfl rfl rfl rfl (rl_u (k0 := 2) (by decide) (by decide) rfl) rfl ?_
  refine tn_iincw (loc' := fun v_ => [.ref 3, .int v_]) (pc := 86) hΓ d_X1_init_86 rfl ic_1 (by decide) rfl (fun _ => rfl) (fun v ev => ?_)
  rw [show (2 : Int32) + 1 = (3 : Int32) by decide] at ev
  subst ev
  refine tn_goto (tgt := 68) (pc := 89) hΓ d_X1_init_89 (by decide) ?_
  refine tn_iload_n (pc := 68) hΓ d_X1_init_68 rfl ?_
  refine tn_iconst (pc := 69) hΓ d_X1_init_69 ic_4 ?_
  refine tn_icmp_ge (tgt := 92) (pc := 70) hΓ d_X1_init_70 (by decide) (fun hq => absurd hq (by decide)) (fun _ => ?_)
  refine tn_aload_n (pc := 73) hΓ d_X1_init_73 rfl ?_
  refine tn_getRy (y := 5) (pc := 74) hΓ d_X1_init_74 fl_1_19 rfl rfl rfl ?_
  refine tn_iload_n (pc := 77) hΓ d_X1_init_77 rfl ?_
  refine tn_new (pc := 78) hΓ (i := 3) (T := tn_T3) tn_ty3 d_X1_init_78 (by decide) rfl tn_us3 tn_tk3 (tn_wi 109 (by decide +kernel)) (tn_wi 142 (by decide +kernel)) (tn_wi 86 (by decide +kernel)) df_3 (by decide) (by decide) ?_
  refine tn_cvt (st' := [.ref 14, .int (3 : Int32), .ref 5]) (ca' := 11) (sl' := 42) (ks' := [(5, 0), (1, 0), (8, 5), (9, 4), (0, 0), (0, 0), (0, 0), (0, 0), (0, 0), (3, 0), (3, 0), (3, 0), (3, 0)]) (ρ' := (tn_rL [[], [], [0, 0, 0, 0, 0, 0], [4, 5], [6, 7, 8, 9, 10], [11, 12, 13, 0], [], [], [], [], [], [], [], [], []])) (σ' := tsj 0) rfl rfl rfl rfl (rl_z (m := 0) rfl rfl) (tsj_z (by decide)) ?_
  refine tn_dupr (pc := 81) hΓ d_X1_init_81 ?_
  refine tn_ci (As := []) (st := [.ref 14, .int (3 : Int32), .ref 5]) (x := 14) (y := m_X3_init) (pc := 82) hΓ d_X1_init_82 mv_X3_init im_X3_init rfl rfl ml_1_37 ⟨⟨by decide, by decide⟩, by decide, by decide⟩ rfl (by decide) (Nat.le_of_ble_eq_true rfl) (c3_init rfl (by decide) (K := fun v ks' ρ' σ' => v = none ∧ ks' = [(5, 0), (1, 0), (8, 5), (9, 4), (0, 0), (0, 0), (0, 0), (0, 0), (0, 0), (3, 0), (3, 0), (3, 0), (3, 0)] ∧ ρ' = (tn_rL [[], [], [0, 0, 0, 0, 0, 0], [4, 5], [6, 7, 8, 9, 10], [11, 12, 13, 0], [], [], [], [], [], [], [], [], []]) ∧ σ' = tsj 0) ⟨rfl, rfl, rfl, rfl⟩) (fun v ks' ρ' σ' hh => ?_)
  obtain ⟨rfl, rfl, rfl, rfl⟩ := hh
  refine tn_cvt (st' := [.ref 14, .int (3 : Int32), .ref 5]) (ca' := 11) (sl' := 42) (ks' := [(5, 0), (1, 0), (8, 5), (9, 4), (0, 0), (0, 0), (0, 0), (0, 0), (0, 0), (3, 0), (3, 0), (3, 0), (3, 0)]) (ρ' := (tn_rL [[], [], [0, 0, 0, 0, 0, 0], [4, 5], [6, 7, 8, 9, 10], [11, 12, 13, 0], [], [], [], [], [], [], [], [], []])) (σ' := tsj 0) rfl rfl rfl rfl rfl rfl ?_
  refine tn_aast (t := 1) (n := 4) (i0 := 3) (n0' := 0) (pc := 85) hΓ d_X1_init_85 (by decide) rfl (by unfold vp_in; decide) rfl ?_
  refine tn_cvt (st' := []) (ca' := 11) (sl' := 42) (ks' := [(5, 0), (1, 0), (8, 5), (9, 4), (0, 0), (0, 0), (0, 0), (0, 0), (0, 0), (3, 0), (3, 0), (3, 0), (3, 0)]) (ρ' := (tn_rL [[], [], [0, 0, 0, 0, 0, 0], [4, 5], [6, 7, 8, 9, 10], [11, 12, 13, 14], [], [], [], [], [], [], [], [], []])) (σ' := tsj 0) rfl rfl rfl rfl (rl_u (k0 := 3) (by decide) (by decide) rfl) rfl ?_
  refine tn_iincw (loc' := fun v_ => [.ref 3, .int v_]) (pc := 86) hΓ d_X1_init_86 rfl ic_1 (by decide) rfl (fun _ => rfl) (fun v ev => ?_)
  rw [show (3 : Int32) + 1 = (4 : Int32) by decide] at ev
  subst ev
  refine tn_goto (tgt := 68) (pc := 89) hΓ d_X1_init_89 (by decide) ?_
  refine tn_iload_n (pc := 68) hΓ d_X1_init_68 rfl ?_
  refine tn_iconst (pc := 69) hΓ d_X1_init_69 ic_4 ?_
  refine tn_icmp_ge (tgt := 92) (pc := 70) hΓ d_X1_init_70 (by decide) (fun _ => ?_) (fun hq => absurd (by decide) hq)
  exact tn_ret_v (pc := 92) hΓ hK d_X1_init_92 rfl (by decide) (by decide) h
theorem c_X1_init_15 {K : Option Value → List (Nat × Nat) → (Nat → Nat → Nat) → (Nat → Nat → Int32) → Prop} (h : K none [(5, 0), (1, 0), (8, 5), (9, 4), (0, 0), (0, 0), (0, 0), (0, 0), (0, 0), (3, 0), (3, 0), (3, 0), (3, 0), (1, 0), (8, 5), (9, 4), (0, 0), (0, 0), (0, 0), (0, 0), (0, 0), (3, 0), (3, 0), (3, 0), (3, 0)] (tn_rL [[], [], [3, 0, 0, 0, 0, 0], [4, 5], [6, 7, 8, 9, 10], [11, 12, 13, 14], [], [], [], [], [], [], [], [], [], [16, 17], [18, 19, 20, 21, 22], [23, 24, 25, 26], [], [], [], [], [], [], [], [], []]) (tsj 0)) : tn_Call m_X1_init [.ref 15] [(5, 0), (1, 0), (8, 5), (9, 4), (0, 0), (0, 0), (0, 0), (0, 0), (0, 0), (3, 0), (3, 0), (3, 0), (3, 0), (1, 0)] (tn_rL [[], [], [3, 0, 0, 0, 0, 0], [4, 5], [6, 7, 8, 9, 10], [11, 12, 13, 14], [], [], [], [], [], [], [], [], [], [0, 0]]) (tsj 0) K := by
  refine tn_intro (by decide) (Nat.le_of_ble_eq_true rfl) (fun Γ hΓ hK => ?_)
  refine tn_aload_n (pc := 0) hΓ d_X1_init_0 rfl ?_
  refine tn_objInit (pc := 1) hΓ d_X1_init_1 (tn_wi 106 (by decide +kernel)) (tn_wi 99 (by decide +kernel)) (tn_wi 100 (by decide +kernel)) (by decide) (by decide) (by decide) ?_
  refine tn_aload_n (pc := 4) hΓ d_X1_init_4 rfl ?_
  refine tn_iconst (pc := 5) hΓ d_X1_init_5 ic_5 ?_
  refine tn_anew (C := "ThunderOwned$House") (N := 5) (t := 0) (pc := 6) hΓ d_X1_init_6 (tn_wi 107 (by decide +kernel)) (by decide) (by decide) (by decide) (by decide) (by decide) (by decide) ?_
  refine tn_cvt (st' := [.ref 16, .ref 15]) (ca' := 1) (sl' := 5) (ks' := [(5, 0), (1, 0), (8, 5), (9, 4), (0, 0), (0, 0), (0, 0), (0, 0), (0, 0), (3, 0), (3, 0), (3, 0), (3, 0), (1, 0), (8, 5)]) (ρ' := (tn_rL [[], [], [3, 0, 0, 0, 0, 0], [4, 5], [6, 7, 8, 9, 10], [11, 12, 13, 14], [], [], [], [], [], [], [], [], [], [0, 0], [0, 0, 0, 0, 0]])) (σ' := tsj 0) rfl rfl rfl rfl (rl_z (m := 5) rfl rfl) (tsj_z (by decide)) ?_
  refine tn_putR (pc := 9) hΓ d_X1_init_9 fl_1_13 fk_1_1_0 rfl rfl fo_1_13 rfl ?_
  refine tn_cvt (st' := []) (ca' := 1) (sl' := 5) (ks' := [(5, 0), (1, 0), (8, 5), (9, 4), (0, 0), (0, 0), (0, 0), (0, 0), (0, 0), (3, 0), (3, 0), (3, 0), (3, 0), (1, 0), (8, 5)]) (ρ' := (tn_rL [[], [], [3, 0, 0, 0, 0, 0], [4, 5], [6, 7, 8, 9, 10], [11, 12, 13, 14], [], [], [], [], [], [], [], [], [], [16, 0], [0, 0, 0, 0, 0]])) (σ' := tsj 0) rfl rfl rfl rfl (rl_u (k0 := 0) rfl (by decide) rfl) rfl ?_
  refine tn_aload_n (pc := 12) hΓ d_X1_init_12 rfl ?_
  refine tn_iconst (pc := 13) hΓ d_X1_init_13 ic_4 ?_
  refine tn_anew (C := "ThunderOwned$Stone") (N := 4) (t := 1) (pc := 14) hΓ d_X1_init_14 (tn_wi 109 (by decide +kernel)) (by decide) (by decide) (by decide) (by decide) (by decide) (by decide) ?_
  refine tn_cvt (st' := [.ref 17, .ref 15]) (ca' := 2) (sl' := 9) (ks' := [(5, 0), (1, 0), (8, 5), (9, 4), (0, 0), (0, 0), (0, 0), (0, 0), (0, 0), (3, 0), (3, 0), (3, 0), (3, 0), (1, 0), (8, 5), (9, 4)]) (ρ' := (tn_rL [[], [], [3, 0, 0, 0, 0, 0], [4, 5], [6, 7, 8, 9, 10], [11, 12, 13, 14], [], [], [], [], [], [], [], [], [], [16, 0], [0, 0, 0, 0, 0], [0, 0, 0, 0]])) (σ' := tsj 0) rfl rfl rfl rfl (rl_z (m := 4) rfl rfl) (tsj_z (by decide)) ?_
  refine tn_putR (pc := 17) hΓ d_X1_init_17 fl_1_19 fk_1_1_1 rfl rfl fo_1_19 rfl ?_
  refine tn_cvt (st' := []) (ca' := 2) (sl' := 9) (ks' := [(5, 0), (1, 0), (8, 5), (9, 4), (0, 0), (0, 0), (0, 0), (0, 0), (0, 0), (3, 0), (3, 0), (3, 0), (3, 0), (1, 0), (8, 5), (9, 4)]) (ρ' := (tn_rL [[], [], [3, 0, 0, 0, 0, 0], [4, 5], [6, 7, 8, 9, 10], [11, 12, 13, 14], [], [], [], [], [], [], [], [], [], [16, 17], [0, 0, 0, 0, 0], [0, 0, 0, 0]])) (σ' := tsj 0) rfl rfl rfl rfl (rl_u (k0 := 1) rfl (by decide) rfl) rfl ?_
  refine tn_aload_n (pc := 20) hΓ d_X1_init_20 rfl ?_
  refine tn_iconst (pc := 21) hΓ d_X1_init_21 ic_0 ?_
  refine tn_putI (pc := 22) hΓ d_X1_init_22 fl_1_23 fk_1_1_2 rfl rfl  ?_
  refine tn_cvt (st' := []) (ca' := 2) (sl' := 9) (ks' := [(5, 0), (1, 0), (8, 5), (9, 4), (0, 0), (0, 0), (0, 0), (0, 0), (0, 0), (3, 0), (3, 0), (3, 0), (3, 0), (1, 0), (8, 5), (9, 4)]) (ρ' := (tn_rL [[], [], [3, 0, 0, 0, 0, 0], [4, 5], [6, 7, 8, 9, 10], [11, 12, 13, 14], [], [], [], [], [], [], [], [], [], [16, 17], [0, 0, 0, 0, 0], [0, 0, 0, 0]])) (σ' := tsj 0) rfl rfl rfl rfl rfl (tsj_0 (by decide)) ?_
  refine tn_aload_n (pc := 25) hΓ d_X1_init_25 rfl ?_
  refine tn_iconst (pc := 26) hΓ d_X1_init_26 ic_0 ?_
  refine tn_putI (pc := 27) hΓ d_X1_init_27 fl_1_27 fk_1_1_3 rfl rfl  ?_
  refine tn_cvt (st' := []) (ca' := 2) (sl' := 9) (ks' := [(5, 0), (1, 0), (8, 5), (9, 4), (0, 0), (0, 0), (0, 0), (0, 0), (0, 0), (3, 0), (3, 0), (3, 0), (3, 0), (1, 0), (8, 5), (9, 4)]) (ρ' := (tn_rL [[], [], [3, 0, 0, 0, 0, 0], [4, 5], [6, 7, 8, 9, 10], [11, 12, 13, 14], [], [], [], [], [], [], [], [], [], [16, 17], [0, 0, 0, 0, 0], [0, 0, 0, 0]])) (σ' := tsj 0) rfl rfl rfl rfl rfl (tsj_0 (by decide)) ?_
  refine tn_aload_n (pc := 30) hΓ d_X1_init_30 rfl ?_
  refine tn_iconst (pc := 31) hΓ d_X1_init_31 ic_0 ?_
  refine tn_putI (pc := 32) hΓ d_X1_init_32 fl_1_30 fk_1_1_4 rfl rfl  ?_
  refine tn_cvt (st' := []) (ca' := 2) (sl' := 9) (ks' := [(5, 0), (1, 0), (8, 5), (9, 4), (0, 0), (0, 0), (0, 0), (0, 0), (0, 0), (3, 0), (3, 0), (3, 0), (3, 0), (1, 0), (8, 5), (9, 4)]) (ρ' := (tn_rL [[], [], [3, 0, 0, 0, 0, 0], [4, 5], [6, 7, 8, 9, 10], [11, 12, 13, 14], [], [], [], [], [], [], [], [], [], [16, 17], [0, 0, 0, 0, 0], [0, 0, 0, 0]])) (σ' := tsj 0) rfl rfl rfl rfl rfl (tsj_0 (by decide)) ?_
  refine tn_aload_n (pc := 35) hΓ d_X1_init_35 rfl ?_
  refine tn_iconst (pc := 36) hΓ d_X1_init_36 ic_0 ?_
  refine tn_putI (pc := 37) hΓ d_X1_init_37 fl_1_33 fk_1_1_5 rfl rfl  ?_
  refine tn_cvt (st' := []) (ca' := 2) (sl' := 9) (ks' := [(5, 0), (1, 0), (8, 5), (9, 4), (0, 0), (0, 0), (0, 0), (0, 0), (0, 0), (3, 0), (3, 0), (3, 0), (3, 0), (1, 0), (8, 5), (9, 4)]) (ρ' := (tn_rL [[], [], [3, 0, 0, 0, 0, 0], [4, 5], [6, 7, 8, 9, 10], [11, 12, 13, 14], [], [], [], [], [], [], [], [], [], [16, 17], [0, 0, 0, 0, 0], [0, 0, 0, 0]])) (σ' := tsj 0) rfl rfl rfl rfl rfl (tsj_0 (by decide)) ?_
  refine tn_iconst (pc := 40) hΓ d_X1_init_40 ic_0 ?_
  refine tn_istore_n (loc' := [.ref 15, .int (0 : Int32)]) (pc := 41) hΓ d_X1_init_41 (by decide) rfl rfl ?_
  refine tn_iload_n (pc := 42) hΓ d_X1_init_42 rfl ?_
  refine tn_iconst (pc := 43) hΓ d_X1_init_43 ic_5 ?_
  refine tn_icmp_ge (tgt := 66) (pc := 44) hΓ d_X1_init_44 (by decide) (fun hq => absurd hq (by decide)) (fun _ => ?_)
  refine tn_aload_n (pc := 47) hΓ d_X1_init_47 rfl ?_
  refine tn_getRy (y := 16) (pc := 48) hΓ d_X1_init_48 fl_1_13 rfl rfl rfl ?_
  refine tn_iload_n (pc := 51) hΓ d_X1_init_51 rfl ?_
  refine tn_new (pc := 52) hΓ (i := 0) (T := tn_T0) tn_ty0 d_X1_init_52 (by decide) rfl tn_us0 tn_tk0 (tn_wi 107 (by decide +kernel)) (tn_wi 111 (by decide +kernel)) (tn_wi 85 (by decide +kernel)) df_0 (by decide) (by decide) ?_
  refine tn_cvt (st' := [.ref 18, .int (0 : Int32), .ref 16]) (ca' := 3) (sl' := 14) (ks' := [(5, 0), (1, 0), (8, 5), (9, 4), (0, 0), (0, 0), (0, 0), (0, 0), (0, 0), (3, 0), (3, 0), (3, 0), (3, 0), (1, 0), (8, 5), (9, 4), (0, 0)]) (ρ' := (tn_rL [[], [], [3, 0, 0, 0, 0, 0], [4, 5], [6, 7, 8, 9, 10], [11, 12, 13, 14], [], [], [], [], [], [], [], [], [], [16, 17], [0, 0, 0, 0, 0], [0, 0, 0, 0], []])) (σ' := tsj 0) rfl rfl rfl rfl (rl_z (m := 0) rfl rfl) (tsj_z (by decide)) ?_
  refine tn_dupr (pc := 55) hΓ d_X1_init_55 ?_
  refine tn_ci (As := []) (st := [.ref 18, .int (0 : Int32), .ref 16]) (x := 18) (y := m_X0_init) (pc := 56) hΓ d_X1_init_56 mv_X0_init im_X0_init rfl rfl ml_1_36 ⟨⟨by decide, by decide⟩, by decide, by decide⟩ rfl (by decide) (Nat.le_of_ble_eq_true rfl) (c0_init rfl (by decide) (K := fun v ks' ρ' σ' => v = none ∧ ks' = [(5, 0), (1, 0), (8, 5), (9, 4), (0, 0), (0, 0), (0, 0), (0, 0), (0, 0), (3, 0), (3, 0), (3, 0), (3, 0), (1, 0), (8, 5), (9, 4), (0, 0)] ∧ ρ' = (tn_rL [[], [], [3, 0, 0, 0, 0, 0], [4, 5], [6, 7, 8, 9, 10], [11, 12, 13, 14], [], [], [], [], [], [], [], [], [], [16, 17], [0, 0, 0, 0, 0], [0, 0, 0, 0], []]) ∧ σ' = tsj 0) ⟨rfl, rfl, rfl, rfl⟩) (fun v ks' ρ' σ' hh => ?_)
  obtain ⟨rfl, rfl, rfl, rfl⟩ := hh
  refine tn_cvt (st' := [.ref 18, .int (0 : Int32), .ref 16]) (ca' := 3) (sl' := 14) (ks' := [(5, 0), (1, 0), (8, 5), (9, 4), (0, 0), (0, 0), (0, 0), (0, 0), (0, 0), (3, 0), (3, 0), (3, 0), (3, 0), (1, 0), (8, 5), (9, 4), (0, 0)]) (ρ' := (tn_rL [[], [], [3, 0, 0, 0, 0, 0], [4, 5], [6, 7, 8, 9, 10], [11, 12, 13, 14], [], [], [], [], [], [], [], [], [], [16, 17], [0, 0, 0, 0, 0], [0, 0, 0, 0], []])) (σ' := tsj 0) rfl rfl rfl rfl rfl rfl ?_
  refine tn_aast (t := 0) (n := 5) (i0 := 0) (n0' := 0) (pc := 59) hΓ d_X1_init_59 (by decide) rfl (by unfold vp_in; decide) rfl ?_
  refine tn_cvt (st' := []) (ca' := 3) (sl' := 14) (ks' := [(5, 0), (1, 0), (8, 5), (9, 4), (0, 0), (0, 0), (0, 0), (0, 0), (0, 0), (3, 0), (3, 0), (3, 0), (3, 0), (1, 0), (8, 5), (9, 4), (0, 0)]) (ρ' := (tn_rL [[], [], [3, 0, 0, 0, 0, 0], [4, 5], [6, 7, 8, 9, 10], [11, 12, 13, 14], [], [], [], [], [], [], [], [], [], [16, 17], [18, 0, 0, 0, 0], [0, 0, 0, 0], []])) (σ' := tsj 0) rfl rfl rfl rfl (rl_u (k0 := 0) (by decide) (by decide) rfl) rfl ?_
  refine tn_iincw (loc' := fun v_ => [.ref 15, .int v_]) (pc := 60) hΓ d_X1_init_60 rfl ic_1 (by decide) rfl (fun _ => rfl) (fun v ev => ?_)
  rw [show (0 : Int32) + 1 = (1 : Int32) by decide] at ev
  subst ev
  refine tn_goto (tgt := 42) (pc := 63) hΓ d_X1_init_63 (by decide) ?_
  refine tn_iload_n (pc := 42) hΓ d_X1_init_42 rfl ?_
  refine tn_iconst (pc := 43) hΓ d_X1_init_43 ic_5 ?_
  refine tn_icmp_ge (tgt := 66) (pc := 44) hΓ d_X1_init_44 (by decide) (fun hq => absurd hq (by decide)) (fun _ => ?_)
  refine tn_aload_n (pc := 47) hΓ d_X1_init_47 rfl ?_
  refine tn_getRy (y := 16) (pc := 48) hΓ d_X1_init_48 fl_1_13 rfl rfl rfl ?_
  refine tn_iload_n (pc := 51) hΓ d_X1_init_51 rfl ?_
  refine tn_new (pc := 52) hΓ (i := 0) (T := tn_T0) tn_ty0 d_X1_init_52 (by decide) rfl tn_us0 tn_tk0 (tn_wi 107 (by decide +kernel)) (tn_wi 111 (by decide +kernel)) (tn_wi 85 (by decide +kernel)) df_0 (by decide) (by decide) ?_
  refine tn_cvt (st' := [.ref 19, .int (1 : Int32), .ref 16]) (ca' := 4) (sl' := 19) (ks' := [(5, 0), (1, 0), (8, 5), (9, 4), (0, 0), (0, 0), (0, 0), (0, 0), (0, 0), (3, 0), (3, 0), (3, 0), (3, 0), (1, 0), (8, 5), (9, 4), (0, 0), (0, 0)]) (ρ' := (tn_rL [[], [], [3, 0, 0, 0, 0, 0], [4, 5], [6, 7, 8, 9, 10], [11, 12, 13, 14], [], [], [], [], [], [], [], [], [], [16, 17], [18, 0, 0, 0, 0], [0, 0, 0, 0], [], []])) (σ' := tsj 0) rfl rfl rfl rfl (rl_z (m := 0) rfl rfl) (tsj_z (by decide)) ?_
  refine tn_dupr (pc := 55) hΓ d_X1_init_55 ?_
  refine tn_ci (As := []) (st := [.ref 19, .int (1 : Int32), .ref 16]) (x := 19) (y := m_X0_init) (pc := 56) hΓ d_X1_init_56 mv_X0_init im_X0_init rfl rfl ml_1_36 ⟨⟨by decide, by decide⟩, by decide, by decide⟩ rfl (by decide) (Nat.le_of_ble_eq_true rfl) (c0_init rfl (by decide) (K := fun v ks' ρ' σ' => v = none ∧ ks' = [(5, 0), (1, 0), (8, 5), (9, 4), (0, 0), (0, 0), (0, 0), (0, 0), (0, 0), (3, 0), (3, 0), (3, 0), (3, 0), (1, 0), (8, 5), (9, 4), (0, 0), (0, 0)] ∧ ρ' = (tn_rL [[], [], [3, 0, 0, 0, 0, 0], [4, 5], [6, 7, 8, 9, 10], [11, 12, 13, 14], [], [], [], [], [], [], [], [], [], [16, 17], [18, 0, 0, 0, 0], [0, 0, 0, 0], [], []]) ∧ σ' = tsj 0) ⟨rfl, rfl, rfl, rfl⟩) (fun v ks' ρ' σ' hh => ?_)
  obtain ⟨rfl, rfl, rfl, rfl⟩ := hh
  refine tn_cvt (st' := [.ref 19, .int (1 : Int32), .ref 16]) (ca' := 4) (sl' := 19) (ks' := [(5, 0), (1, 0), (8, 5), (9, 4), (0, 0), (0, 0), (0, 0), (0, 0), (0, 0), (3, 0), (3, 0), (3, 0), (3, 0), (1, 0), (8, 5), (9, 4), (0, 0), (0, 0)]) (ρ' := (tn_rL [[], [], [3, 0, 0, 0, 0, 0], [4, 5], [6, 7, 8, 9, 10], [11, 12, 13, 14], [], [], [], [], [], [], [], [], [], [16, 17], [18, 0, 0, 0, 0], [0, 0, 0, 0], [], []])) (σ' := tsj 0) rfl rfl rfl rfl rfl rfl ?_
  refine tn_aast (t := 0) (n := 5) (i0 := 0) (n0' := 0) (pc := 59) hΓ d_X1_init_59 (by decide) rfl (by unfold vp_in; decide) rfl ?_
  refine tn_cvt (st' := []) (ca' := 4) (sl' := 19) (ks' := [(5, 0), (1, 0), (8, 5), (9, 4), (0, 0), (0, 0), (0, 0), (0, 0), (0, 0), (3, 0), (3, 0), (3, 0), (3, 0), (1, 0), (8, 5), (9, 4), (0, 0), (0, 0)]) (ρ' := (tn_rL [[], [], [3, 0, 0, 0, 0, 0], [4, 5], [6, 7, 8, 9, 10], [11, 12, 13, 14], [], [], [], [], [], [], [], [], [], [16, 17], [18, 19, 0, 0, 0], [0, 0, 0, 0], [], []])) (σ' := tsj 0) rfl rfl rfl rfl (rl_u (k0 := 1) (by decide) (by decide) rfl) rfl ?_
  refine tn_iincw (loc' := fun v_ => [.ref 15, .int v_]) (pc := 60) hΓ d_X1_init_60 rfl ic_1 (by decide) rfl (fun _ => rfl) (fun v ev => ?_)
  rw [show (1 : Int32) + 1 = (2 : Int32) by decide] at ev
  subst ev
  refine tn_goto (tgt := 42) (pc := 63) hΓ d_X1_init_63 (by decide) ?_
  refine tn_iload_n (pc := 42) hΓ d_X1_init_42 rfl ?_
  refine tn_iconst (pc := 43) hΓ d_X1_init_43 ic_5 ?_
  refine tn_icmp_ge (tgt := 66) (pc := 44) hΓ d_X1_init_44 (by decide) (fun hq => absurd hq (by decide)) (fun _ => ?_)
  refine tn_aload_n (pc := 47) hΓ d_X1_init_47 rfl ?_
  refine tn_getRy (y := 16) (pc := 48) hΓ d_X1_init_48 fl_1_13 rfl rfl rfl ?_
  refine tn_iload_n (pc := 51) hΓ d_X1_init_51 rfl ?_
  refine tn_new (pc := 52) hΓ (i := 0) (T := tn_T0) tn_ty0 d_X1_init_52 (by decide) rfl tn_us0 tn_tk0 (tn_wi 107 (by decide +kernel)) (tn_wi 111 (by decide +kernel)) (tn_wi 85 (by decide +kernel)) df_0 (by decide) (by decide) ?_
  refine tn_cvt (st' := [.ref 20, .int (2 : Int32), .ref 16]) (ca' := 5) (sl' := 24) (ks' := [(5, 0), (1, 0), (8, 5), (9, 4), (0, 0), (0, 0), (0, 0), (0, 0), (0, 0), (3, 0), (3, 0), (3, 0), (3, 0), (1, 0), (8, 5), (9, 4), (0, 0), (0, 0), (0, 0)]) (ρ' := (tn_rL [[], [], [3, 0, 0, 0, 0, 0], [4, 5], [6, 7, 8, 9, 10], [11, 12, 13, 14], [], [], [], [], [], [], [], [], [], [16, 17], [18, 19, 0, 0, 0], [0, 0, 0, 0], [], [], []])) (σ' := tsj 0) rfl rfl rfl rfl (rl_z (m := 0) rfl rfl) (tsj_z (by decide)) ?_
  refine tn_dupr (pc := 55) hΓ d_X1_init_55 ?_
  refine tn_ci (As := []) (st := [.ref 20, .int (2 : Int32), .ref 16]) (x := 20) (y := m_X0_init) (pc := 56) hΓ d_X1_init_56 mv_X0_init im_X0_init rfl rfl ml_1_36 ⟨⟨by decide, by decide⟩, by decide, by decide⟩ rfl (by decide) (Nat.le_of_ble_eq_true rfl) (c0_init rfl (by decide) (K := fun v ks' ρ' σ' => v = none ∧ ks' = [(5, 0), (1, 0), (8, 5), (9, 4), (0, 0), (0, 0), (0, 0), (0, 0), (0, 0), (3, 0), (3, 0), (3, 0), (3, 0), (1, 0), (8, 5), (9, 4), (0, 0), (0, 0), (0, 0)] ∧ ρ' = (tn_rL [[], [], [3, 0, 0, 0, 0, 0], [4, 5], [6, 7, 8, 9, 10], [11, 12, 13, 14], [], [], [], [], [], [], [], [], [], [16, 17], [18, 19, 0, 0, 0], [0, 0, 0, 0], [], [], []]) ∧ σ' = tsj 0) ⟨rfl, rfl, rfl, rfl⟩) (fun v ks' ρ' σ' hh => ?_)
  obtain ⟨rfl, rfl, rfl, rfl⟩ := hh
  refine tn_cvt (st' := [.ref 20, .int (2 : Int32), .ref 16]) (ca' := 5) (sl' := 24) (ks' := [(5, 0), (1, 0), (8, 5), (9, 4), (0, 0), (0, 0), (0, 0), (0, 0), (0, 0), (3, 0), (3, 0), (3, 0), (3, 0), (1, 0), (8, 5), (9, 4), (0, 0), (0, 0), (0, 0)]) (ρ' := (tn_rL [[], [], [3, 0, 0, 0, 0, 0], [4, 5], [6, 7, 8, 9, 10], [11, 12, 13, 14], [], [], [], [], [], [], [], [], [], [16, 17], [18, 19, 0, 0, 0], [0, 0, 0, 0], [], [], []])) (σ' := tsj 0) rfl rfl rfl rfl rfl rfl ?_
  refine tn_aast (t := 0) (n := 5) (i0 := 0) (n0' := 0) (pc := 59) hΓ d_X1_init_59 (by decide) rfl (by unfold vp_in; decide) rfl ?_
  refine tn_cvt (st' := []) (ca' := 5) (sl' := 24) (ks' := [(5, 0), (1, 0), (8, 5), (9, 4), (0, 0), (0, 0), (0, 0), (0, 0), (0, 0), (3, 0), (3, 0), (3, 0), (3, 0), (1, 0), (8, 5), (9, 4), (0, 0), (0, 0), (0, 0)]) (ρ' := (tn_rL [[], [], [3, 0, 0, 0, 0, 0], [4, 5], [6, 7, 8, 9, 10], [11, 12, 13, 14], [], [], [], [], [], [], [], [], [], [16, 17], [18, 19, 20, 0, 0], [0, 0, 0, 0], [], [], []])) (σ' := tsj 0) rfl rfl rfl rfl (rl_u (k0 := 2) (by decide) (by decide) rfl) rfl ?_
  refine tn_iincw (loc' := fun v_ => [.ref 15, .int v_]) (pc := 60) hΓ d_X1_init_60 rfl ic_1 (by decide) rfl (fun _ => rfl) (fun v ev => ?_)
  rw [show (2 : Int32) + 1 = (3 : Int32) by decide] at ev
  subst ev
  refine tn_goto (tgt := 42) (pc := 63) hΓ d_X1_init_63 (by decide) ?_
  refine tn_iload_n (pc := 42) hΓ d_X1_init_42 rfl ?_
  refine tn_iconst (pc := 43) hΓ d_X1_init_43 ic_5 ?_
  refine tn_icmp_ge (tgt := 66) (pc := 44) hΓ d_X1_init_44 (by decide) (fun hq => absurd hq (by decide)) (fun _ => ?_)
  refine tn_aload_n (pc := 47) hΓ d_X1_init_47 rfl ?_
  refine tn_getRy (y := 16) (pc := 48) hΓ d_X1_init_48 fl_1_13 rfl rfl rfl ?_
  refine tn_iload_n (pc := 51) hΓ d_X1_init_51 rfl ?_
  refine tn_new (pc := 52) hΓ (i := 0) (T := tn_T0) tn_ty0 d_X1_init_52 (by decide) rfl tn_us0 tn_tk0 (tn_wi 107 (by decide +kernel)) (tn_wi 111 (by decide +kernel)) (tn_wi 85 (by decide +kernel)) df_0 (by decide) (by decide) ?_
  refine tn_cvt (st' := [.ref 21, .int (3 : Int32), .ref 16]) (ca' := 6) (sl' := 29) (ks' := [(5, 0), (1, 0), (8, 5), (9, 4), (0, 0), (0, 0), (0, 0), (0, 0), (0, 0), (3, 0), (3, 0), (3, 0), (3, 0), (1, 0), (8, 5), (9, 4), (0, 0), (0, 0), (0, 0), (0, 0)]) (ρ' := (tn_rL [[], [], [3, 0, 0, 0, 0, 0], [4, 5], [6, 7, 8, 9, 10], [11, 12, 13, 14], [], [], [], [], [], [], [], [], [], [16, 17], [18, 19, 20, 0, 0], [0, 0, 0, 0], [], [], [], []])) (σ' := tsj 0) rfl rfl rfl rfl (rl_z (m := 0) rfl rfl) (tsj_z (by decide)) ?_
  refine tn_dupr (pc := 55) hΓ d_X1_init_55 ?_
  refine tn_ci (As := []) (st := [.ref 21, .int (3 : Int32), .ref 16]) (x := 21) (y := m_X0_init) (pc := 56) hΓ d_X1_init_56 mv_X0_init im_X0_init rfl rfl ml_1_36 ⟨⟨by decide, by decide⟩, by decide, by decide⟩ rfl (by decide) (Nat.le_of_ble_eq_true rfl) (c0_init rfl (by decide) (K := fun v ks' ρ' σ' => v = none ∧ ks' = [(5, 0), (1, 0), (8, 5), (9, 4), (0, 0), (0, 0), (0, 0), (0, 0), (0, 0), (3, 0), (3, 0), (3, 0), (3, 0), (1, 0), (8, 5), (9, 4), (0, 0), (0, 0), (0, 0), (0, 0)] ∧ ρ' = (tn_rL [[], [], [3, 0, 0, 0, 0, 0], [4, 5], [6, 7, 8, 9, 10], [11, 12, 13, 14], [], [], [], [], [], [], [], [], [], [16, 17], [18, 19, 20, 0, 0], [0, 0, 0, 0], [], [], [], []]) ∧ σ' = tsj 0) ⟨rfl, rfl, rfl, rfl⟩) (fun v ks' ρ' σ' hh => ?_)
  obtain ⟨rfl, rfl, rfl, rfl⟩ := hh
  refine tn_cvt (st' := [.ref 21, .int (3 : Int32), .ref 16]) (ca' := 6) (sl' := 29) (ks' := [(5, 0), (1, 0), (8, 5), (9, 4), (0, 0), (0, 0), (0, 0), (0, 0), (0, 0), (3, 0), (3, 0), (3, 0), (3, 0), (1, 0), (8, 5), (9, 4), (0, 0), (0, 0), (0, 0), (0, 0)]) (ρ' := (tn_rL [[], [], [3, 0, 0, 0, 0, 0], [4, 5], [6, 7, 8, 9, 10], [11, 12, 13, 14], [], [], [], [], [], [], [], [], [], [16, 17], [18, 19, 20, 0, 0], [0, 0, 0, 0], [], [], [], []])) (σ' := tsj 0) rfl rfl rfl rfl rfl rfl ?_
  refine tn_aast (t := 0) (n := 5) (i0 := 0) (n0' := 0) (pc := 59) hΓ d_X1_init_59 (by decide) rfl (by unfold vp_in; decide) rfl ?_
  refine tn_cvt (st' := []) (ca' := 6) (sl' := 29) (ks' := [(5, 0), (1, 0), (8, 5), (9, 4), (0, 0), (0, 0), (0, 0), (0, 0), (0, 0), (3, 0), (3, 0), (3, 0), (3, 0), (1, 0), (8, 5), (9, 4), (0, 0), (0, 0), (0, 0), (0, 0)]) (ρ' := (tn_rL [[], [], [3, 0, 0, 0, 0, 0], [4, 5], [6, 7, 8, 9, 10], [11, 12, 13, 14], [], [], [], [], [], [], [], [], [], [16, 17], [18, 19, 20, 21, 0], [0, 0, 0, 0], [], [], [], []])) (σ' := tsj 0) rfl rfl rfl rfl (rl_u (k0 := 3) (by decide) (by decide) rfl) rfl ?_
  refine tn_iincw (loc' := fun v_ => [.ref 15, .int v_]) (pc := 60) hΓ d_X1_init_60 rfl ic_1 (by decide) rfl (fun _ => rfl) (fun v ev => ?_)
  rw [show (3 : Int32) + 1 = (4 : Int32) by decide] at ev
  subst ev
  refine tn_goto (tgt := 42) (pc := 63) hΓ d_X1_init_63 (by decide) ?_
  refine tn_iload_n (pc := 42) hΓ d_X1_init_42 rfl ?_
  refine tn_iconst (pc := 43) hΓ d_X1_init_43 ic_5 ?_
  refine tn_icmp_ge (tgt := 66) (pc := 44) hΓ d_X1_init_44 (by decide) (fun hq => absurd hq (by decide)) (fun _ => ?_)
  refine tn_aload_n (pc := 47) hΓ d_X1_init_47 rfl ?_
  refine tn_getRy (y := 16) (pc := 48) hΓ d_X1_init_48 fl_1_13 rfl rfl rfl ?_
  refine tn_iload_n (pc := 51) hΓ d_X1_init_51 rfl ?_
  refine tn_new (pc := 52) hΓ (i := 0) (T := tn_T0) tn_ty0 d_X1_init_52 (by decide) rfl tn_us0 tn_tk0 (tn_wi 107 (by decide +kernel)) (tn_wi 111 (by decide +kernel)) (tn_wi 85 (by decide +kernel)) df_0 (by decide) (by decide) ?_
  refine tn_cvt (st' := [.ref 22, .int (4 : Int32), .ref 16]) (ca' := 7) (sl' := 34) (ks' := [(5, 0), (1, 0), (8, 5), (9, 4), (0, 0), (0, 0), (0, 0), (0, 0), (0, 0), (3, 0), (3, 0), (3, 0), (3, 0), (1, 0), (8, 5), (9, 4), (0, 0), (0, 0), (0, 0), (0, 0), (0, 0)]) (ρ' := (tn_rL [[], [], [3, 0, 0, 0, 0, 0], [4, 5], [6, 7, 8, 9, 10], [11, 12, 13, 14], [], [], [], [], [], [], [], [], [], [16, 17], [18, 19, 20, 21, 0], [0, 0, 0, 0], [], [], [], [], []])) (σ' := tsj 0) rfl rfl rfl rfl (rl_z (m := 0) rfl rfl) (tsj_z (by decide)) ?_
  refine tn_dupr (pc := 55) hΓ d_X1_init_55 ?_
  refine tn_ci (As := []) (st := [.ref 22, .int (4 : Int32), .ref 16]) (x := 22) (y := m_X0_init) (pc := 56) hΓ d_X1_init_56 mv_X0_init im_X0_init rfl rfl ml_1_36 ⟨⟨by decide, by decide⟩, by decide, by decide⟩ rfl (by decide) (Nat.le_of_ble_eq_true rfl) (c0_init rfl (by decide) (K := fun v ks' ρ' σ' => v = none ∧ ks' = [(5, 0), (1, 0), (8, 5), (9, 4), (0, 0), (0, 0), (0, 0), (0, 0), (0, 0), (3, 0), (3, 0), (3, 0), (3, 0), (1, 0), (8, 5), (9, 4), (0, 0), (0, 0), (0, 0), (0, 0), (0, 0)] ∧ ρ' = (tn_rL [[], [], [3, 0, 0, 0, 0, 0], [4, 5], [6, 7, 8, 9, 10], [11, 12, 13, 14], [], [], [], [], [], [], [], [], [], [16, 17], [18, 19, 20, 21, 0], [0, 0, 0, 0], [], [], [], [], []]) ∧ σ' = tsj 0) ⟨rfl, rfl, rfl, rfl⟩) (fun v ks' ρ' σ' hh => ?_)
  obtain ⟨rfl, rfl, rfl, rfl⟩ := hh
  refine tn_cvt (st' := [.ref 22, .int (4 : Int32), .ref 16]) (ca' := 7) (sl' := 34) (ks' := [(5, 0), (1, 0), (8, 5), (9, 4), (0, 0), (0, 0), (0, 0), (0, 0), (0, 0), (3, 0), (3, 0), (3, 0), (3, 0), (1, 0), (8, 5), (9, 4), (0, 0), (0, 0), (0, 0), (0, 0), (0, 0)]) (ρ' := (tn_rL [[], [], [3, 0, 0, 0, 0, 0], [4, 5], [6, 7, 8, 9, 10], [11, 12, 13, 14], [], [], [], [], [], [], [], [], [], [16, 17], [18, 19, 20, 21, 0], [0, 0, 0, 0], [], [], [], [], []])) (σ' := tsj 0) rfl rfl rfl rfl rfl rfl ?_
  refine tn_aast (t := 0) (n := 5) (i0 := 0) (n0' := 0) (pc := 59) hΓ d_X1_init_59 (by decide) rfl (by unfold vp_in; decide) rfl ?_
  refine tn_cvt (st' := []) (ca' := 7) (sl' := 34) (ks' := [(5, 0), (1, 0), (8, 5), (9, 4), (0, 0), (0, 0), (0, 0), (0, 0), (0, 0), (3, 0), (3, 0), (3, 0), (3, 0), (1, 0), (8, 5), (9, 4), (0, 0), (0, 0), (0, 0), (0, 0), (0, 0)]) (ρ' := (tn_rL [[], [], [3, 0, 0, 0, 0, 0], [4, 5], [6, 7, 8, 9, 10], [11, 12, 13, 14], [], [], [], [], [], [], [], [], [], [16, 17], [18, 19, 20, 21, 22], [0, 0, 0, 0], [], [], [], [], []])) (σ' := tsj 0) rfl rfl rfl rfl (rl_u (k0 := 4) (by decide) (by decide) rfl) rfl ?_
  refine tn_iincw (loc' := fun v_ => [.ref 15, .int v_]) (pc := 60) hΓ d_X1_init_60 rfl ic_1 (by decide) rfl (fun _ => rfl) (fun v ev => ?_)
  rw [show (4 : Int32) + 1 = (5 : Int32) by decide] at ev
  subst ev
  refine tn_goto (tgt := 42) (pc := 63) hΓ d_X1_init_63 (by decide) ?_
  refine tn_iload_n (pc := 42) hΓ d_X1_init_42 rfl ?_
  refine tn_iconst (pc := 43) hΓ d_X1_init_43 ic_5 ?_
  refine tn_icmp_ge (tgt := 66) (pc := 44) hΓ d_X1_init_44 (by decide) (fun _ => ?_) (fun hq => absurd (by decide) hq)
  refine tn_iconst (pc := 66) hΓ d_X1_init_66 ic_0 ?_
  refine tn_istore_n (loc' := [.ref 15, .int (0 : Int32)]) (pc := 67) hΓ d_X1_init_67 (by decide) rfl rfl ?_
  refine tn_iload_n (pc := 68) hΓ d_X1_init_68 rfl ?_
  refine tn_iconst (pc := 69) hΓ d_X1_init_69 ic_4 ?_
  refine tn_icmp_ge (tgt := 92) (pc := 70) hΓ d_X1_init_70 (by decide) (fun hq => absurd hq (by decide)) (fun _ => ?_)
  refine tn_aload_n (pc := 73) hΓ d_X1_init_73 rfl ?_
  refine tn_getRy (y := 17) (pc := 74) hΓ d_X1_init_74 fl_1_19 rfl rfl rfl ?_
  refine tn_iload_n (pc := 77) hΓ d_X1_init_77 rfl ?_
  refine tn_new (pc := 78) hΓ (i := 3) (T := tn_T3) tn_ty3 d_X1_init_78 (by decide) rfl tn_us3 tn_tk3 (tn_wi 109 (by decide +kernel)) (tn_wi 142 (by decide +kernel)) (tn_wi 86 (by decide +kernel)) df_3 (by decide) (by decide) ?_
  refine tn_cvt (st' := [.ref 23, .int (0 : Int32), .ref 17]) (ca' := 8) (sl' := 36) (ks' := [(5, 0), (1, 0), (8, 5), (9, 4), (0, 0), (0, 0), (0, 0), (0, 0), (0, 0), (3, 0), (3, 0), (3, 0), (3, 0), (1, 0), (8, 5), (9, 4), (0, 0), (0, 0), (0, 0), (0, 0), (0, 0), (3, 0)]) (ρ' := (tn_rL [[], [], [3, 0, 0, 0, 0, 0], [4, 5], [6, 7, 8, 9, 10], [11, 12, 13, 14], [], [], [], [], [], [], [], [], [], [16, 17], [18, 19, 20, 21, 22], [0, 0, 0, 0], [], [], [], [], [], []])) (σ' := tsj 0) rfl rfl rfl rfl (rl_z (m := 0) rfl rfl) (tsj_z (by decide)) ?_
  refine tn_dupr (pc := 81) hΓ d_X1_init_81 ?_
  refine tn_ci (As := []) (st := [.ref 23, .int (0 : Int32), .ref 17]) (x := 23) (y := m_X3_init) (pc := 82) hΓ d_X1_init_82 mv_X3_init im_X3_init rfl rfl ml_1_37 ⟨⟨by decide, by decide⟩, by decide, by decide⟩ rfl (by decide) (Nat.le_of_ble_eq_true rfl) (c3_init rfl (by decide) (K := fun v ks' ρ' σ' => v = none ∧ ks' = [(5, 0), (1, 0), (8, 5), (9, 4), (0, 0), (0, 0), (0, 0), (0, 0), (0, 0), (3, 0), (3, 0), (3, 0), (3, 0), (1, 0), (8, 5), (9, 4), (0, 0), (0, 0), (0, 0), (0, 0), (0, 0), (3, 0)] ∧ ρ' = (tn_rL [[], [], [3, 0, 0, 0, 0, 0], [4, 5], [6, 7, 8, 9, 10], [11, 12, 13, 14], [], [], [], [], [], [], [], [], [], [16, 17], [18, 19, 20, 21, 22], [0, 0, 0, 0], [], [], [], [], [], []]) ∧ σ' = tsj 0) ⟨rfl, rfl, rfl, rfl⟩) (fun v ks' ρ' σ' hh => ?_)
  obtain ⟨rfl, rfl, rfl, rfl⟩ := hh
  refine tn_cvt (st' := [.ref 23, .int (0 : Int32), .ref 17]) (ca' := 8) (sl' := 36) (ks' := [(5, 0), (1, 0), (8, 5), (9, 4), (0, 0), (0, 0), (0, 0), (0, 0), (0, 0), (3, 0), (3, 0), (3, 0), (3, 0), (1, 0), (8, 5), (9, 4), (0, 0), (0, 0), (0, 0), (0, 0), (0, 0), (3, 0)]) (ρ' := (tn_rL [[], [], [3, 0, 0, 0, 0, 0], [4, 5], [6, 7, 8, 9, 10], [11, 12, 13, 14], [], [], [], [], [], [], [], [], [], [16, 17], [18, 19, 20, 21, 22], [0, 0, 0, 0], [], [], [], [], [], []])) (σ' := tsj 0) rfl rfl rfl rfl rfl rfl ?_
  refine tn_aast (t := 1) (n := 4) (i0 := 3) (n0' := 0) (pc := 85) hΓ d_X1_init_85 (by decide) rfl (by unfold vp_in; decide) rfl ?_
  refine tn_cvt (st' := []) (ca' := 8) (sl' := 36) (ks' := [(5, 0), (1, 0), (8, 5), (9, 4), (0, 0), (0, 0), (0, 0), (0, 0), (0, 0), (3, 0), (3, 0), (3, 0), (3, 0), (1, 0), (8, 5), (9, 4), (0, 0), (0, 0), (0, 0), (0, 0), (0, 0), (3, 0)]) (ρ' := (tn_rL [[], [], [3, 0, 0, 0, 0, 0], [4, 5], [6, 7, 8, 9, 10], [11, 12, 13, 14], [], [], [], [], [], [], [], [], [], [16, 17], [18, 19, 20, 21, 22], [23, 0, 0, 0], [], [], [], [], [], []])) (σ' := tsj 0) rfl rfl rfl rfl (rl_u (k0 := 0) (by decide) (by decide) rfl) rfl ?_
  refine tn_iincw (loc' := fun v_ => [.ref 15, .int v_]) (pc := 86) hΓ d_X1_init_86 rfl ic_1 (by decide) rfl (fun _ => rfl) (fun v ev => ?_)
  rw [show (0 : Int32) + 1 = (1 : Int32) by decide] at ev
  subst ev
  refine tn_goto (tgt := 68) (pc := 89) hΓ d_X1_init_89 (by decide) ?_
  refine tn_iload_n (pc := 68) hΓ d_X1_init_68 rfl ?_
  refine tn_iconst (pc := 69) hΓ d_X1_init_69 ic_4 ?_
  refine tn_icmp_ge (tgt := 92) (pc := 70) hΓ d_X1_init_70 (by decide) (fun hq => absurd hq (by decide)) (fun _ => ?_)
  refine tn_aload_n (pc := 73) hΓ d_X1_init_73 rfl ?_
  refine tn_getRy (y := 17) (pc := 74) hΓ d_X1_init_74 fl_1_19 rfl rfl rfl ?_
  refine tn_iload_n (pc := 77) hΓ d_X1_init_77 rfl ?_
  refine tn_new (pc := 78) hΓ (i := 3) (T := tn_T3) tn_ty3 d_X1_init_78 (by decide) rfl tn_us3 tn_tk3 (tn_wi 109 (by decide +kernel)) (tn_wi 142 (by decide +kernel)) (tn_wi 86 (by decide +kernel)) df_3 (by decide) (by decide) ?_
  refine tn_cvt (st' := [.ref 24, .int (1 : Int32), .ref 17]) (ca' := 9) (sl' := 38) (ks' := [(5, 0), (1, 0), (8, 5), (9, 4), (0, 0), (0, 0), (0, 0), (0, 0), (0, 0), (3, 0), (3, 0), (3, 0), (3, 0), (1, 0), (8, 5), (9, 4), (0, 0), (0, 0), (0, 0), (0, 0), (0, 0), (3, 0), (3, 0)]) (ρ' := (tn_rL [[], [], [3, 0, 0, 0, 0, 0], [4, 5], [6, 7, 8, 9, 10], [11, 12, 13, 14], [], [], [], [], [], [], [], [], [], [16, 17], [18, 19, 20, 21, 22], [23, 0, 0, 0], [], [], [], [], [], [], []])) (σ' := tsj 0) rfl rfl rfl rfl (rl_z (m := 0) rfl rfl) (tsj_z (by decide)) ?_
  refine tn_dupr (pc := 81) hΓ d_X1_init_81 ?_
  refine tn_ci (As := []) (st := [.ref 24, .int (1 : Int32), .ref 17]) (x := 24) (y := m_X3_init) (pc := 82) hΓ d_X1_init_82 mv_X3_init im_X3_init rfl rfl ml_1_37 ⟨⟨by decide, by decide⟩, by decide, by decide⟩ rfl (by decide) (Nat.le_of_ble_eq_true rfl) (c3_init rfl (by decide) (K := fun v ks' ρ' σ' => v = none ∧ ks' = [(5, 0), (1, 0), (8, 5), (9, 4), (0, 0), (0, 0), (0, 0), (0, 0), (0, 0), (3, 0), (3, 0), (3, 0), (3, 0), (1, 0), (8, 5), (9, 4), (0, 0), (0, 0), (0, 0), (0, 0), (0, 0), (3, 0), (3, 0)] ∧ ρ' = (tn_rL [[], [], [3, 0, 0, 0, 0, 0], [4, 5], [6, 7, 8, 9, 10], [11, 12, 13, 14], [], [], [], [], [], [], [], [], [], [16, 17], [18, 19, 20, 21, 22], [23, 0, 0, 0], [], [], [], [], [], [], []]) ∧ σ' = tsj 0) ⟨rfl, rfl, rfl, rfl⟩) (fun v ks' ρ' σ' hh => ?_)
  obtain ⟨rfl, rfl, rfl, rfl⟩ := hh
  refine tn_cvt (st' := [.ref 24, .int (1 : Int32), .ref 17]) (ca' := 9) (sl' := 38) (ks' := [(5, 0), (1, 0), (8, 5), (9, 4), (0, 0), (0, 0), (0, 0), (0, 0), (0, 0), (3, 0), (3, 0), (3, 0), (3, 0), (1, 0), (8, 5), (9, 4), (0, 0), (0, 0), (0, 0), (0, 0), (0, 0), (3, 0), (3, 0)]) (ρ' := (tn_rL [[], [], [3, 0, 0, 0, 0, 0], [4, 5], [6, 7, 8, 9, 10], [11, 12, 13, 14], [], [], [], [], [], [], [], [], [], [16, 17], [18, 19, 20, 21, 22], [23, 0, 0, 0], [], [], [], [], [], [], []])) (σ' := tsj 0) rfl rfl rfl rfl rfl rfl ?_
  refine tn_aast (t := 1) (n := 4) (i0 := 3) (n0' := 0) (pc := 85) hΓ d_X1_init_85 (by decide) rfl (by unfold vp_in; decide) rfl ?_
  refine tn_cvt (st' := []) (ca' := 9) (sl' := 38) (ks' := [(5, 0), (1, 0), (8, 5), (9, 4), (0, 0), (0, 0), (0, 0), (0, 0), (0, 0), (3, 0), (3, 0), (3, 0), (3, 0), (1, 0), (8, 5), (9, 4), (0, 0), (0, 0), (0, 0), (0, 0), (0, 0), (3, 0), (3, 0)]) (ρ' := (tn_rL [[], [], [3, 0, 0, 0, 0, 0], [4, 5], [6, 7, 8, 9, 10], [11, 12, 13, 14], [], [], [], [], [], [], [], [], [], [16, 17], [18, 19, 20, 21, 22], [23, 24, 0, 0], [], [], [], [], [], [], []])) (σ' := tsj 0) rfl rfl rfl rfl (rl_u (k0 := 1) (by decide) (by decide) rfl) rfl ?_
  refine tn_iincw (loc' := fun v_ => [.ref 15, .int v_]) (pc := 86) hΓ d_X1_init_86 rfl ic_1 (by decide) rfl (fun _ => rfl) (fun v ev => ?_)
  rw [show (1 : Int32) + 1 = (2 : Int32) by decide] at ev
  subst ev
  refine tn_goto (tgt := 68) (pc := 89) hΓ d_X1_init_89 (by decide) ?_
  refine tn_iload_n (pc := 68) hΓ d_X1_init_68 rfl ?_
  refine tn_iconst (pc := 69) hΓ d_X1_init_69 ic_4 ?_
  refine tn_icmp_ge (tgt := 92) (pc := 70) hΓ d_X1_init_70 (by decide) (fun hq => absurd hq (by decide)) (fun _ => ?_)
  refine tn_aload_n (pc := 73) hΓ d_X1_init_73 rfl ?_
  refine tn_getRy (y := 17) (pc := 74) hΓ d_X1_init_74 fl_1_19 rfl rfl rfl ?_
  refine tn_iload_n (pc := 77) hΓ d_X1_init_77 rfl ?_
  refine tn_new (pc := 78) hΓ (i := 3) (T := tn_T3) tn_ty3 d_X1_init_78 (by decide) rfl tn_us3 tn_tk3 (tn_wi 109 (by decide +kernel)) (tn_wi 142 (by decide +kernel)) (tn_wi 86 (by decide +kernel)) df_3 (by decide) (by decide) ?_
  refine tn_cvt (st' := [.ref 25, .int (2 : Int32), .ref 17]) (ca' := 10) (sl' := 40) (ks' := [(5, 0), (1, 0), (8, 5), (9, 4), (0, 0), (0, 0), (0, 0), (0, 0), (0, 0), (3, 0), (3, 0), (3, 0), (3, 0), (1, 0), (8, 5), (9, 4), (0, 0), (0, 0), (0, 0), (0, 0), (0, 0), (3, 0), (3, 0), (3, 0)]) (ρ' := (tn_rL [[], [], [3, 0, 0, 0, 0, 0], [4, 5], [6, 7, 8, 9, 10], [11, 12, 13, 14], [], [], [], [], [], [], [], [], [], [16, 17], [18, 19, 20, 21, 22], [23, 24, 0, 0], [], [], [], [], [], [], [], []])) (σ' := tsj 0) rfl rfl rfl rfl (rl_z (m := 0) rfl rfl) (tsj_z (by decide)) ?_
  refine tn_dupr (pc := 81) hΓ d_X1_init_81 ?_
  refine tn_ci (As := []) (st := [.ref 25, .int (2 : Int32), .ref 17]) (x := 25) (y := m_X3_init) (pc := 82) hΓ d_X1_init_82 mv_X3_init im_X3_init rfl rfl ml_1_37 ⟨⟨by decide, by decide⟩, by decide, by decide⟩ rfl (by decide) (Nat.le_of_ble_eq_true rfl) (c3_init rfl (by decide) (K := fun v ks' ρ' σ' => v = none ∧ ks' = [(5, 0), (1, 0), (8, 5), (9, 4), (0, 0), (0, 0), (0, 0), (0, 0), (0, 0), (3, 0), (3, 0), (3, 0), (3, 0), (1, 0), (8, 5), (9, 4), (0, 0), (0, 0), (0, 0), (0, 0), (0, 0), (3, 0), (3, 0), (3, 0)] ∧ ρ' = (tn_rL [[], [], [3, 0, 0, 0, 0, 0], [4, 5], [6, 7, 8, 9, 10], [11, 12, 13, 14], [], [], [], [], [], [], [], [], [], [16, 17], [18, 19, 20, 21, 22], [23, 24, 0, 0], [], [], [], [], [], [], [], []]) ∧ σ' = tsj 0) ⟨rfl, rfl, rfl, rfl⟩) (fun v ks' ρ' σ' hh => ?_)
  obtain ⟨rfl, rfl, rfl, rfl⟩ := hh
  refine tn_cvt (st' := [.ref 25, .int (2 : Int32), .ref 17]) (ca' := 10) (sl' := 40) (ks' := [(5, 0), (1, 0), (8, 5), (9, 4), (0, 0), (0, 0), (0, 0), (0, 0), (0, 0), (3, 0), (3, 0), (3, 0), (3, 0), (1, 0), (8, 5), (9, 4), (0, 0), (0, 0), (0, 0), (0, 0), (0, 0), (3, 0), (3, 0), (3, 0)]) (ρ' := (tn_rL [[], [], [3, 0, 0, 0, 0, 0], [4, 5], [6, 7, 8, 9, 10], [11, 12, 13, 14], [], [], [], [], [], [], [], [], [], [16, 17], [18, 19, 20, 21, 22], [23, 24, 0, 0], [], [], [], [], [], [], [], []])) (σ' := tsj 0) rfl rfl rfl rfl rfl rfl ?_
  refine tn_aast (t := 1) (n := 4) (i0 := 3) (n0' := 0) (pc := 85) hΓ d_X1_init_85 (by decide) rfl (by unfold vp_in; decide) rfl ?_
  refine tn_cvt (st' := []) (ca' := 10) (sl' := 40) (ks' := [(5, 0), (1, 0), (8, 5), (9, 4), (0, 0), (0, 0), (0, 0), (0, 0), (0, 0), (3, 0), (3, 0), (3, 0), (3, 0), (1, 0), (8, 5), (9, 4), (0, 0), (0, 0), (0, 0), (0, 0), (0, 0), (3, 0), (3, 0), (3, 0)]) (ρ' := (tn_rL [[], [], [3, 0, 0, 0, 0, 0], [4, 5], [6, 7, 8, 9, 10], [11, 12, 13, 14], [], [], [], [], [], [], [], [], [], [16, 17], [18, 19, 20, 21, 22], [23, 24, 25, 0], [], [], [], [], [], [], [], []])) (σ' := tsj 0) rfl rfl rfl rfl (rl_u (k0 := 2) (by decide) (by decide) rfl) rfl ?_
  refine tn_iincw (loc' := fun v_ => [.ref 15, .int v_]) (pc := 86) hΓ d_X1_init_86 rfl ic_1 (by decide) rfl (fun _ => rfl) (fun v ev => ?_)
  rw [show (2 : Int32) + 1 = (3 : Int32) by decide] at ev
  subst ev
  refine tn_goto (tgt := 68) (pc := 89) hΓ d_X1_init_89 (by decide) ?_
  refine tn_iload_n (pc := 68) hΓ d_X1_init_68 rfl ?_
  refine tn_iconst (pc := 69) hΓ d_X1_init_69 ic_4 ?_
  refine tn_icmp_ge (tgt := 92) (pc := 70) hΓ d_X1_init_70 (by decide) (fun hq => absurd hq (by decide)) (fun _ => ?_)
  refine tn_aload_n (pc := 73) hΓ d_X1_init_73 rfl ?_
  refine tn_getRy (y := 17) (pc := 74) hΓ d_X1_init_74 fl_1_19 rfl rfl rfl ?_
  refine tn_iload_n (pc := 77) hΓ d_X1_init_77 rfl ?_
  refine tn_new (pc := 78) hΓ (i := 3) (T := tn_T3) tn_ty3 d_X1_init_78 (by decide) rfl tn_us3 tn_tk3 (tn_wi 109 (by decide +kernel)) (tn_wi 142 (by decide +kernel)) (tn_wi 86 (by decide +kernel)) df_3 (by decide) (by decide) ?_
  refine tn_cvt (st' := [.ref 26, .int (3 : Int32), .ref 17]) (ca' := 11) (sl' := 42) (ks' := [(5, 0), (1, 0), (8, 5), (9, 4), (0, 0), (0, 0), (0, 0), (0, 0), (0, 0), (3, 0), (3, 0), (3, 0), (3, 0), (1, 0), (8, 5), (9, 4), (0, 0), (0, 0), (0, 0), (0, 0), (0, 0), (3, 0), (3, 0), (3, 0), (3, 0)]) (ρ' := (tn_rL [[], [], [3, 0, 0, 0, 0, 0], [4, 5], [6, 7, 8, 9, 10], [11, 12, 13, 14], [], [], [], [], [], [], [], [], [], [16, 17], [18, 19, 20, 21, 22], [23, 24, 25, 0], [], [], [], [], [], [], [], [], []])) (σ' := tsj 0) rfl rfl rfl rfl (rl_z (m := 0) rfl rfl) (tsj_z (by decide)) ?_
  refine tn_dupr (pc := 81) hΓ d_X1_init_81 ?_
  refine tn_ci (As := []) (st := [.ref 26, .int (3 : Int32), .ref 17]) (x := 26) (y := m_X3_init) (pc := 82) hΓ d_X1_init_82 mv_X3_init im_X3_init rfl rfl ml_1_37 ⟨⟨by decide, by decide⟩, by decide, by decide⟩ rfl (by decide) (Nat.le_of_ble_eq_true rfl) (c3_init rfl (by decide) (K := fun v ks' ρ' σ' => v = none ∧ ks' = [(5, 0), (1, 0), (8, 5), (9, 4), (0, 0), (0, 0), (0, 0), (0, 0), (0, 0), (3, 0), (3, 0), (3, 0), (3, 0), (1, 0), (8, 5), (9, 4), (0, 0), (0, 0), (0, 0), (0, 0), (0, 0), (3, 0), (3, 0), (3, 0), (3, 0)] ∧ ρ' = (tn_rL [[], [], [3, 0, 0, 0, 0, 0], [4, 5], [6, 7, 8, 9, 10], [11, 12, 13, 14], [], [], [], [], [], [], [], [], [], [16, 17], [18, 19, 20, 21, 22], [23, 24, 25, 0], [], [], [], [], [], [], [], [], []]) ∧ σ' = tsj 0) ⟨rfl, rfl, rfl, rfl⟩) (fun v ks' ρ' σ' hh => ?_)
  obtain ⟨rfl, rfl, rfl, rfl⟩ := hh
  refine tn_cvt (st' := [.ref 26, .int (3 : Int32), .ref 17]) (ca' := 11) (sl' := 42) (ks' := [(5, 0), (1, 0), (8, 5), (9, 4), (0, 0), (0, 0), (0, 0), (0, 0), (0, 0), (3, 0), (3, 0), (3, 0), (3, 0), (1, 0), (8, 5), (9, 4), (0, 0), (0, 0), (0, 0), (0, 0), (0, 0), (3, 0), (3, 0), (3, 0), (3, 0)]) (ρ' := (tn_rL [[], [], [3, 0, 0, 0, 0, 0], [4, 5], [6, 7, 8, 9, 10], [11, 12, 13, 14], [], [], [], [], [], [], [], [], [], [16, 17], [18, 19, 20, 21, 22], [23, 24, 25, 0], [], [], [], [], [], [], [], [], []])) (σ' := tsj 0) rfl rfl rfl rfl rfl rfl ?_
  refine tn_aast (t := 1) (n := 4) (i0 := 3) (n0' := 0) (pc := 85) hΓ d_X1_init_85 (by decide) rfl (by unfold vp_in; decide) rfl ?_
  refine tn_cvt (st' := []) (ca' := 11) (sl' := 42) (ks' := [(5, 0), (1, 0), (8, 5), (9, 4), (0, 0), (0, 0), (0, 0), (0, 0), (0, 0), (3, 0), (3, 0), (3, 0), (3, 0), (1, 0), (8, 5), (9, 4), (0, 0), (0, 0), (0, 0), (0, 0), (0, 0), (3, 0), (3, 0), (3, 0), (3, 0)]) (ρ' := (tn_rL [[], [], [3, 0, 0, 0, 0, 0], [4, 5], [6, 7, 8, 9, 10], [11, 12, 13, 14], [], [], [], [], [], [], [], [], [], [16, 17], [18, 19, 20, 21, 22], [23, 24, 25, 26], [], [], [], [], [], [], [], [], []])) (σ' := tsj 0) rfl rfl rfl rfl (rl_u (k0 := 3) (by decide) (by decide) rfl) rfl ?_
  refine tn_iincw (loc' := fun v_ => [.ref 15, .int v_]) (pc := 86) hΓ d_X1_init_86 rfl ic_1 (by decide) rfl (fun _ => rfl) (fun v ev => ?_)
  rw [show (3 : Int32) + 1 = (4 : Int32) by decide] at ev
  subst ev
  refine tn_goto (tgt := 68) (pc := 89) hΓ d_X1_init_89 (by decide) ?_
  refine tn_iload_n (pc := 68) hΓ d_X1_init_68 rfl ?_
  refine tn_iconst (pc := 69) hΓ d_X1_init_69 ic_4 ?_
  refine tn_icmp_ge (tgt := 92) (pc := 70) hΓ d_X1_init_70 (by decide) (fun _ => ?_) (fun hq => absurd (by decide) hq)
  exact tn_ret_v (pc := 92) hΓ hK d_X1_init_92 rfl (by decide) (by decide) h
theorem c_X2_init_31 {K : Option Value → List (Nat × Nat) → (Nat → Nat → Nat) → (Nat → Nat → Int32) → Prop} (h : K none [(5, 0), (1, 0), (8, 5), (9, 4), (0, 0), (0, 0), (0, 0), (0, 0), (0, 0), (3, 0), (3, 0), (3, 0), (3, 0), (1, 0), (8, 5), (9, 4), (0, 0), (0, 0), (0, 0), (0, 0), (0, 0), (3, 0), (3, 0), (3, 0), (3, 0), (10, 4), (7, 8), (7, 8), (7, 4), (2, 0), (7, 60)] (tn_rL [[], [], [3, 15, 27, 28, 29, 30], [4, 5], [6, 7, 8, 9, 10], [11, 12, 13, 14], [], [], [], [], [], [], [], [], [], [16, 17], [18, 19, 20, 21, 22], [23, 24, 25, 26], [], [], [], [], [], [], [], [], [], [0, 0, 0, 0], [], [], [], [32], []]) (tsj 0)) : tn_Call m_X2_init [.ref 31] [(5, 0), (1, 0), (8, 5), (9, 4), (0, 0), (0, 0), (0, 0), (0, 0), (0, 0), (3, 0), (3, 0), (3, 0), (3, 0), (1, 0), (8, 5), (9, 4), (0, 0), (0, 0), (0, 0), (0, 0), (0, 0), (3, 0), (3, 0), (3, 0), (3, 0), (10, 4), (7, 8), (7, 8), (7, 4), (2, 0)] (tn_rL [[], [], [3, 15, 27, 28, 29, 30], [4, 5], [6, 7, 8, 9, 10], [11, 12, 13, 14], [], [], [], [], [], [], [], [], [], [16, 17], [18, 19, 20, 21, 22], [23, 24, 25, 26], [], [], [], [], [], [], [], [], [], [0, 0, 0, 0], [], [], [], [0]]) (tsj 0) K := by
  refine tn_intro (by decide) (Nat.le_of_ble_eq_true rfl) (fun Γ hΓ hK => ?_)
  refine tn_aload_n (pc := 0) hΓ d_X2_init_0 rfl ?_
  refine tn_objInit (pc := 1) hΓ d_X2_init_1 (tn_wi 192 (by decide +kernel)) (tn_wi 99 (by decide +kernel)) (tn_wi 100 (by decide +kernel)) (by decide) (by decide) (by decide) ?_
  refine tn_aload_n (pc := 4) hΓ d_X2_init_4 rfl ?_
  refine tn_bipush (pc := 5) hΓ d_X2_init_5 bp_60 ?_
  refine tn_newa (N := 60) (pc := 7) hΓ d_X2_init_7 (tn_wi 209 (by decide +kernel)) (by decide) (by decide) (by decide) (by decide) (by decide) ?_
  refine tn_cvt (st' := [.ref 32, .ref 31]) (ca' := 1) (sl' := 60) (ks' := [(5, 0), (1, 0), (8, 5), (9, 4), (0, 0), (0, 0), (0, 0), (0, 0), (0, 0), (3, 0), (3, 0), (3, 0), (3, 0), (1, 0), (8, 5), (9, 4), (0, 0), (0, 0), (0, 0), (0, 0), (0, 0), (3, 0), (3, 0), (3, 0), (3, 0), (10, 4), (7, 8), (7, 8), (7, 4), (2, 0), (7, 60)]) (ρ' := (tn_rL [[], [], [3, 15, 27, 28, 29, 30], [4, 5], [6, 7, 8, 9, 10], [11, 12, 13, 14], [], [], [], [], [], [], [], [], [], [16, 17], [18, 19, 20, 21, 22], [23, 24, 25, 26], [], [], [], [], [], [], [], [], [], [0, 0, 0, 0], [], [], [], [0], []])) (σ' := tsj 0) rfl rfl rfl rfl (rl_z (m := 0) rfl rfl) (tsj_z (by decide)) ?_
  refine tn_putR (pc := 9) hΓ d_X2_init_9 fl_2_9 fk_2_2_0 rfl rfl fo_2_9 rfl ?_
  refine tn_cvt (st' := []) (ca' := 1) (sl' := 60) (ks' := [(5, 0), (1, 0), (8, 5), (9, 4), (0, 0), (0, 0), (0, 0), (0, 0), (0, 0), (3, 0), (3, 0), (3, 0), (3, 0), (1, 0), (8, 5), (9, 4), (0, 0), (0, 0), (0, 0), (0, 0), (0, 0), (3, 0), (3, 0), (3, 0), (3, 0), (10, 4), (7, 8), (7, 8), (7, 4), (2, 0), (7, 60)]) (ρ' := (tn_rL [[], [], [3, 15, 27, 28, 29, 30], [4, 5], [6, 7, 8, 9, 10], [11, 12, 13, 14], [], [], [], [], [], [], [], [], [], [16, 17], [18, 19, 20, 21, 22], [23, 24, 25, 26], [], [], [], [], [], [], [], [], [], [0, 0, 0, 0], [], [], [], [32], []])) (σ' := tsj 0) rfl rfl rfl rfl (rl_u (k0 := 0) rfl (by decide) rfl) rfl ?_
  refine tn_aload_n (pc := 12) hΓ d_X2_init_12 rfl ?_
  refine tn_iconst (pc := 13) hΓ d_X2_init_13 ic_0 ?_
  refine tn_putZ (pc := 14) hΓ d_X2_init_14 fl_2_15 fk_2_2_1 rfl rfl (Or.inl rfl) ?_
  refine tn_cvt (st' := []) (ca' := 1) (sl' := 60) (ks' := [(5, 0), (1, 0), (8, 5), (9, 4), (0, 0), (0, 0), (0, 0), (0, 0), (0, 0), (3, 0), (3, 0), (3, 0), (3, 0), (1, 0), (8, 5), (9, 4), (0, 0), (0, 0), (0, 0), (0, 0), (0, 0), (3, 0), (3, 0), (3, 0), (3, 0), (10, 4), (7, 8), (7, 8), (7, 4), (2, 0), (7, 60)]) (ρ' := (tn_rL [[], [], [3, 15, 27, 28, 29, 30], [4, 5], [6, 7, 8, 9, 10], [11, 12, 13, 14], [], [], [], [], [], [], [], [], [], [16, 17], [18, 19, 20, 21, 22], [23, 24, 25, 26], [], [], [], [], [], [], [], [], [], [0, 0, 0, 0], [], [], [], [32], []])) (σ' := tsj 0) rfl rfl rfl rfl rfl (tsj_0 (by decide)) ?_
  refine tn_aload_n (pc := 17) hΓ d_X2_init_17 rfl ?_
  refine tn_iconst (pc := 18) hΓ d_X2_init_18 ic_0 ?_
  refine tn_putI (pc := 19) hΓ d_X2_init_19 fl_2_19 fk_2_2_2 rfl rfl  ?_
  refine tn_cvt (st' := []) (ca' := 1) (sl' := 60) (ks' := [(5, 0), (1, 0), (8, 5), (9, 4), (0, 0), (0, 0), (0, 0), (0, 0), (0, 0), (3, 0), (3, 0), (3, 0), (3, 0), (1, 0), (8, 5), (9, 4), (0, 0), (0, 0), (0, 0), (0, 0), (0, 0), (3, 0), (3, 0), (3, 0), (3, 0), (10, 4), (7, 8), (7, 8), (7, 4), (2, 0), (7, 60)]) (ρ' := (tn_rL [[], [], [3, 15, 27, 28, 29, 30], [4, 5], [6, 7, 8, 9, 10], [11, 12, 13, 14], [], [], [], [], [], [], [], [], [], [16, 17], [18, 19, 20, 21, 22], [23, 24, 25, 26], [], [], [], [], [], [], [], [], [], [0, 0, 0, 0], [], [], [], [32], []])) (σ' := tsj 0) rfl rfl rfl rfl rfl (tsj_0 (by decide)) ?_
  refine tn_aload_n (pc := 22) hΓ d_X2_init_22 rfl ?_
  refine tn_iconst (pc := 23) hΓ d_X2_init_23 ic_0 ?_
  refine tn_putI (pc := 24) hΓ d_X2_init_24 fl_2_23 fk_2_2_3 rfl rfl  ?_
  refine tn_cvt (st' := []) (ca' := 1) (sl' := 60) (ks' := [(5, 0), (1, 0), (8, 5), (9, 4), (0, 0), (0, 0), (0, 0), (0, 0), (0, 0), (3, 0), (3, 0), (3, 0), (3, 0), (1, 0), (8, 5), (9, 4), (0, 0), (0, 0), (0, 0), (0, 0), (0, 0), (3, 0), (3, 0), (3, 0), (3, 0), (10, 4), (7, 8), (7, 8), (7, 4), (2, 0), (7, 60)]) (ρ' := (tn_rL [[], [], [3, 15, 27, 28, 29, 30], [4, 5], [6, 7, 8, 9, 10], [11, 12, 13, 14], [], [], [], [], [], [], [], [], [], [16, 17], [18, 19, 20, 21, 22], [23, 24, 25, 26], [], [], [], [], [], [], [], [], [], [0, 0, 0, 0], [], [], [], [32], []])) (σ' := tsj 0) rfl rfl rfl rfl rfl (tsj_0 (by decide)) ?_
  exact tn_ret_v (pc := 27) hΓ hK d_X2_init_27 rfl (by decide) (by decide) h
theorem c_X2_init_33 {K : Option Value → List (Nat × Nat) → (Nat → Nat → Nat) → (Nat → Nat → Int32) → Prop} (h : K none [(5, 0), (1, 0), (8, 5), (9, 4), (0, 0), (0, 0), (0, 0), (0, 0), (0, 0), (3, 0), (3, 0), (3, 0), (3, 0), (1, 0), (8, 5), (9, 4), (0, 0), (0, 0), (0, 0), (0, 0), (0, 0), (3, 0), (3, 0), (3, 0), (3, 0), (10, 4), (7, 8), (7, 8), (7, 4), (2, 0), (7, 60), (2, 0), (7, 60)] (tn_rL [[], [], [3, 15, 27, 28, 29, 30], [4, 5], [6, 7, 8, 9, 10], [11, 12, 13, 14], [], [], [], [], [], [], [], [], [], [16, 17], [18, 19, 20, 21, 22], [23, 24, 25, 26], [], [], [], [], [], [], [], [], [], [31, 0, 0, 0], [], [], [], [32], [], [34], []]) (tsj 0)) : tn_Call m_X2_init [.ref 33] [(5, 0), (1, 0), (8, 5), (9, 4), (0, 0), (0, 0), (0, 0), (0, 0), (0, 0), (3, 0), (3, 0), (3, 0), (3, 0), (1, 0), (8, 5), (9, 4), (0, 0), (0, 0), (0, 0), (0, 0), (0, 0), (3, 0), (3, 0), (3, 0), (3, 0), (10, 4), (7, 8), (7, 8), (7, 4), (2, 0), (7, 60), (2, 0)] (tn_rL [[], [], [3, 15, 27, 28, 29, 30], [4, 5], [6, 7, 8, 9, 10], [11, 12, 13, 14], [], [], [], [], [], [], [], [], [], [16, 17], [18, 19, 20, 21, 22], [23, 24, 25, 26], [], [], [], [], [], [], [], [], [], [31, 0, 0, 0], [], [], [], [32], [], [0]]) (tsj 0) K := by
  refine tn_intro (by decide) (Nat.le_of_ble_eq_true rfl) (fun Γ hΓ hK => ?_)
  refine tn_aload_n (pc := 0) hΓ d_X2_init_0 rfl ?_
  refine tn_objInit (pc := 1) hΓ d_X2_init_1 (tn_wi 192 (by decide +kernel)) (tn_wi 99 (by decide +kernel)) (tn_wi 100 (by decide +kernel)) (by decide) (by decide) (by decide) ?_
  refine tn_aload_n (pc := 4) hΓ d_X2_init_4 rfl ?_
  refine tn_bipush (pc := 5) hΓ d_X2_init_5 bp_60 ?_
  refine tn_newa (N := 60) (pc := 7) hΓ d_X2_init_7 (tn_wi 209 (by decide +kernel)) (by decide) (by decide) (by decide) (by decide) (by decide) ?_
  refine tn_cvt (st' := [.ref 34, .ref 33]) (ca' := 1) (sl' := 60) (ks' := [(5, 0), (1, 0), (8, 5), (9, 4), (0, 0), (0, 0), (0, 0), (0, 0), (0, 0), (3, 0), (3, 0), (3, 0), (3, 0), (1, 0), (8, 5), (9, 4), (0, 0), (0, 0), (0, 0), (0, 0), (0, 0), (3, 0), (3, 0), (3, 0), (3, 0), (10, 4), (7, 8), (7, 8), (7, 4), (2, 0), (7, 60), (2, 0), (7, 60)]) (ρ' := (tn_rL [[], [], [3, 15, 27, 28, 29, 30], [4, 5], [6, 7, 8, 9, 10], [11, 12, 13, 14], [], [], [], [], [], [], [], [], [], [16, 17], [18, 19, 20, 21, 22], [23, 24, 25, 26], [], [], [], [], [], [], [], [], [], [31, 0, 0, 0], [], [], [], [32], [], [0], []])) (σ' := tsj 0) rfl rfl rfl rfl (rl_z (m := 0) rfl rfl) (tsj_z (by decide)) ?_
  refine tn_putR (pc := 9) hΓ d_X2_init_9 fl_2_9 fk_2_2_0 rfl rfl fo_2_9 rfl ?_
  refine tn_cvt (st' := []) (ca' := 1) (sl' := 60) (ks' := [(5, 0), (1, 0), (8, 5), (9, 4), (0, 0), (0, 0), (0, 0), (0, 0), (0, 0), (3, 0), (3, 0), (3, 0), (3, 0), (1, 0), (8, 5), (9, 4), (0, 0), (0, 0), (0, 0), (0, 0), (0, 0), (3, 0), (3, 0), (3, 0), (3, 0), (10, 4), (7, 8), (7, 8), (7, 4), (2, 0), (7, 60), (2, 0), (7, 60)]) (ρ' := (tn_rL [[], [], [3, 15, 27, 28, 29, 30], [4, 5], [6, 7, 8, 9, 10], [11, 12, 13, 14], [], [], [], [], [], [], [], [], [], [16, 17], [18, 19, 20, 21, 22], [23, 24, 25, 26], [], [], [], [], [], [], [], [], [], [31, 0, 0, 0], [], [], [], [32], [], [34], []])) (σ' := tsj 0) rfl rfl rfl rfl (rl_u (k0 := 0) rfl (by decide) rfl) rfl ?_
  refine tn_aload_n (pc := 12) hΓ d_X2_init_12 rfl ?_
  refine tn_iconst (pc := 13) hΓ d_X2_init_13 ic_0 ?_
  refine tn_putZ (pc := 14) hΓ d_X2_init_14 fl_2_15 fk_2_2_1 rfl rfl (Or.inl rfl) ?_
  refine tn_cvt (st' := []) (ca' := 1) (sl' := 60) (ks' := [(5, 0), (1, 0), (8, 5), (9, 4), (0, 0), (0, 0), (0, 0), (0, 0), (0, 0), (3, 0), (3, 0), (3, 0), (3, 0), (1, 0), (8, 5), (9, 4), (0, 0), (0, 0), (0, 0), (0, 0), (0, 0), (3, 0), (3, 0), (3, 0), (3, 0), (10, 4), (7, 8), (7, 8), (7, 4), (2, 0), (7, 60), (2, 0), (7, 60)]) (ρ' := (tn_rL [[], [], [3, 15, 27, 28, 29, 30], [4, 5], [6, 7, 8, 9, 10], [11, 12, 13, 14], [], [], [], [], [], [], [], [], [], [16, 17], [18, 19, 20, 21, 22], [23, 24, 25, 26], [], [], [], [], [], [], [], [], [], [31, 0, 0, 0], [], [], [], [32], [], [34], []])) (σ' := tsj 0) rfl rfl rfl rfl rfl (tsj_0 (by decide)) ?_
  refine tn_aload_n (pc := 17) hΓ d_X2_init_17 rfl ?_
  refine tn_iconst (pc := 18) hΓ d_X2_init_18 ic_0 ?_
  refine tn_putI (pc := 19) hΓ d_X2_init_19 fl_2_19 fk_2_2_2 rfl rfl  ?_
  refine tn_cvt (st' := []) (ca' := 1) (sl' := 60) (ks' := [(5, 0), (1, 0), (8, 5), (9, 4), (0, 0), (0, 0), (0, 0), (0, 0), (0, 0), (3, 0), (3, 0), (3, 0), (3, 0), (1, 0), (8, 5), (9, 4), (0, 0), (0, 0), (0, 0), (0, 0), (0, 0), (3, 0), (3, 0), (3, 0), (3, 0), (10, 4), (7, 8), (7, 8), (7, 4), (2, 0), (7, 60), (2, 0), (7, 60)]) (ρ' := (tn_rL [[], [], [3, 15, 27, 28, 29, 30], [4, 5], [6, 7, 8, 9, 10], [11, 12, 13, 14], [], [], [], [], [], [], [], [], [], [16, 17], [18, 19, 20, 21, 22], [23, 24, 25, 26], [], [], [], [], [], [], [], [], [], [31, 0, 0, 0], [], [], [], [32], [], [34], []])) (σ' := tsj 0) rfl rfl rfl rfl rfl (tsj_0 (by decide)) ?_
  refine tn_aload_n (pc := 22) hΓ d_X2_init_22 rfl ?_
  refine tn_iconst (pc := 23) hΓ d_X2_init_23 ic_0 ?_
  refine tn_putI (pc := 24) hΓ d_X2_init_24 fl_2_23 fk_2_2_3 rfl rfl  ?_
  refine tn_cvt (st' := []) (ca' := 1) (sl' := 60) (ks' := [(5, 0), (1, 0), (8, 5), (9, 4), (0, 0), (0, 0), (0, 0), (0, 0), (0, 0), (3, 0), (3, 0), (3, 0), (3, 0), (1, 0), (8, 5), (9, 4), (0, 0), (0, 0), (0, 0), (0, 0), (0, 0), (3, 0), (3, 0), (3, 0), (3, 0), (10, 4), (7, 8), (7, 8), (7, 4), (2, 0), (7, 60), (2, 0), (7, 60)]) (ρ' := (tn_rL [[], [], [3, 15, 27, 28, 29, 30], [4, 5], [6, 7, 8, 9, 10], [11, 12, 13, 14], [], [], [], [], [], [], [], [], [], [16, 17], [18, 19, 20, 21, 22], [23, 24, 25, 26], [], [], [], [], [], [], [], [], [], [31, 0, 0, 0], [], [], [], [32], [], [34], []])) (σ' := tsj 0) rfl rfl rfl rfl rfl (tsj_0 (by decide)) ?_
  exact tn_ret_v (pc := 27) hΓ hK d_X2_init_27 rfl (by decide) (by decide) h
theorem c_X2_init_35 {K : Option Value → List (Nat × Nat) → (Nat → Nat → Nat) → (Nat → Nat → Int32) → Prop} (h : K none [(5, 0), (1, 0), (8, 5), (9, 4), (0, 0), (0, 0), (0, 0), (0, 0), (0, 0), (3, 0), (3, 0), (3, 0), (3, 0), (1, 0), (8, 5), (9, 4), (0, 0), (0, 0), (0, 0), (0, 0), (0, 0), (3, 0), (3, 0), (3, 0), (3, 0), (10, 4), (7, 8), (7, 8), (7, 4), (2, 0), (7, 60), (2, 0), (7, 60), (2, 0), (7, 60)] (tn_rL [[], [], [3, 15, 27, 28, 29, 30], [4, 5], [6, 7, 8, 9, 10], [11, 12, 13, 14], [], [], [], [], [], [], [], [], [], [16, 17], [18, 19, 20, 21, 22], [23, 24, 25, 26], [], [], [], [], [], [], [], [], [], [31, 33, 0, 0], [], [], [], [32], [], [34], [], [36], []]) (tsj 0)) : tn_Call m_X2_init [.ref 35] [(5, 0), (1, 0), (8, 5), (9, 4), (0, 0), (0, 0), (0, 0), (0, 0), (0, 0), (3, 0), (3, 0), (3, 0), (3, 0), (1, 0), (8, 5), (9, 4), (0, 0), (0, 0), (0, 0), (0, 0), (0, 0), (3, 0), (3, 0), (3, 0), (3, 0), (10, 4), (7, 8), (7, 8), (7, 4), (2, 0), (7, 60), (2, 0), (7, 60), (2, 0)] (tn_rL [[], [], [3, 15, 27, 28, 29, 30], [4, 5], [6, 7, 8, 9, 10], [11, 12, 13, 14], [], [], [], [], [], [], [], [], [], [16, 17], [18, 19, 20, 21, 22], [23, 24, 25, 26], [], [], [], [], [], [], [], [], [], [31, 33, 0, 0], [], [], [], [32], [], [34], [], [0]]) (tsj 0) K := by
  refine tn_intro (by decide) (Nat.le_of_ble_eq_true rfl) (fun Γ hΓ hK => ?_)
  refine tn_aload_n (pc := 0) hΓ d_X2_init_0 rfl ?_
  refine tn_objInit (pc := 1) hΓ d_X2_init_1 (tn_wi 192 (by decide +kernel)) (tn_wi 99 (by decide +kernel)) (tn_wi 100 (by decide +kernel)) (by decide) (by decide) (by decide) ?_
  refine tn_aload_n (pc := 4) hΓ d_X2_init_4 rfl ?_
  refine tn_bipush (pc := 5) hΓ d_X2_init_5 bp_60 ?_
  refine tn_newa (N := 60) (pc := 7) hΓ d_X2_init_7 (tn_wi 209 (by decide +kernel)) (by decide) (by decide) (by decide) (by decide) (by decide) ?_
  refine tn_cvt (st' := [.ref 36, .ref 35]) (ca' := 1) (sl' := 60) (ks' := [(5, 0), (1, 0), (8, 5), (9, 4), (0, 0), (0, 0), (0, 0), (0, 0), (0, 0), (3, 0), (3, 0), (3, 0), (3, 0), (1, 0), (8, 5), (9, 4), (0, 0), (0, 0), (0, 0), (0, 0), (0, 0), (3, 0), (3, 0), (3, 0), (3, 0), (10, 4), (7, 8), (7, 8), (7, 4), (2, 0), (7, 60), (2, 0), (7, 60), (2, 0), (7, 60)]) (ρ' := (tn_rL [[], [], [3, 15, 27, 28, 29, 30], [4, 5], [6, 7, 8, 9, 10], [11, 12, 13, 14], [], [], [], [], [], [], [], [], [], [16, 17], [18, 19, 20, 21, 22], [23, 24, 25, 26], [], [], [], [], [], [], [], [], [], [31, 33, 0, 0], [], [], [], [32], [], [34], [], [0], []])) (σ' := tsj 0) rfl rfl rfl rfl (rl_z (m := 0) rfl rfl) (tsj_z (by decide)) ?_
  refine tn_putR (pc := 9) hΓ d_X2_init_9 fl_2_9 fk_2_2_0 rfl rfl fo_2_9 rfl ?_
  refine tn_cvt (st' := []) (ca' := 1) (sl' := 60) (ks' := [(5, 0), (1, 0), (8, 5), (9, 4), (0, 0), (0, 0), (0, 0), (0, 0), (0, 0), (3, 0), (3, 0), (3, 0), (3, 0), (1, 0), (8, 5), (9, 4), (0, 0), (0, 0), (0, 0), (0, 0), (0, 0), (3, 0), (3, 0), (3, 0), (3, 0), (10, 4), (7, 8), (7, 8), (7, 4), (2, 0), (7, 60), (2, 0), (7, 60), (2, 0), (7, 60)]) (ρ' := (tn_rL [[], [], [3, 15, 27, 28, 29, 30], [4, 5], [6, 7, 8, 9, 10], [11, 12, 13, 14], [], [], [], [], [], [], [], [], [], [16, 17], [18, 19, 20, 21, 22], [23, 24, 25, 26], [], [], [], [], [], [], [], [], [], [31, 33, 0, 0], [], [], [], [32], [], [34], [], [36], []])) (σ' := tsj 0) rfl rfl rfl rfl (rl_u (k0 := 0) rfl (by decide) rfl) rfl ?_
  refine tn_aload_n (pc := 12) hΓ d_X2_init_12 rfl ?_
  refine tn_iconst (pc := 13) hΓ d_X2_init_13 ic_0 ?_
  refine tn_putZ (pc := 14) hΓ d_X2_init_14 fl_2_15 fk_2_2_1 rfl rfl (Or.inl rfl) ?_
  refine tn_cvt (st' := []) (ca' := 1) (sl' := 60) (ks' := [(5, 0), (1, 0), (8, 5), (9, 4), (0, 0), (0, 0), (0, 0), (0, 0), (0, 0), (3, 0), (3, 0), (3, 0), (3, 0), (1, 0), (8, 5), (9, 4), (0, 0), (0, 0), (0, 0), (0, 0), (0, 0), (3, 0), (3, 0), (3, 0), (3, 0), (10, 4), (7, 8), (7, 8), (7, 4), (2, 0), (7, 60), (2, 0), (7, 60), (2, 0), (7, 60)]) (ρ' := (tn_rL [[], [], [3, 15, 27, 28, 29, 30], [4, 5], [6, 7, 8, 9, 10], [11, 12, 13, 14], [], [], [], [], [], [], [], [], [], [16, 17], [18, 19, 20, 21, 22], [23, 24, 25, 26], [], [], [], [], [], [], [], [], [], [31, 33, 0, 0], [], [], [], [32], [], [34], [], [36], []])) (σ' := tsj 0) rfl rfl rfl rfl rfl (tsj_0 (by decide)) ?_
  refine tn_aload_n (pc := 17) hΓ d_X2_init_17 rfl ?_
  refine tn_iconst (pc := 18) hΓ d_X2_init_18 ic_0 ?_
  refine tn_putI (pc := 19) hΓ d_X2_init_19 fl_2_19 fk_2_2_2 rfl rfl  ?_
  refine tn_cvt (st' := []) (ca' := 1) (sl' := 60) (ks' := [(5, 0), (1, 0), (8, 5), (9, 4), (0, 0), (0, 0), (0, 0), (0, 0), (0, 0), (3, 0), (3, 0), (3, 0), (3, 0), (1, 0), (8, 5), (9, 4), (0, 0), (0, 0), (0, 0), (0, 0), (0, 0), (3, 0), (3, 0), (3, 0), (3, 0), (10, 4), (7, 8), (7, 8), (7, 4), (2, 0), (7, 60), (2, 0), (7, 60), (2, 0), (7, 60)]) (ρ' := (tn_rL [[], [], [3, 15, 27, 28, 29, 30], [4, 5], [6, 7, 8, 9, 10], [11, 12, 13, 14], [], [], [], [], [], [], [], [], [], [16, 17], [18, 19, 20, 21, 22], [23, 24, 25, 26], [], [], [], [], [], [], [], [], [], [31, 33, 0, 0], [], [], [], [32], [], [34], [], [36], []])) (σ' := tsj 0) rfl rfl rfl rfl rfl (tsj_0 (by decide)) ?_
  refine tn_aload_n (pc := 22) hΓ d_X2_init_22 rfl ?_
  refine tn_iconst (pc := 23) hΓ d_X2_init_23 ic_0 ?_
  refine tn_putI (pc := 24) hΓ d_X2_init_24 fl_2_23 fk_2_2_3 rfl rfl  ?_
  refine tn_cvt (st' := []) (ca' := 1) (sl' := 60) (ks' := [(5, 0), (1, 0), (8, 5), (9, 4), (0, 0), (0, 0), (0, 0), (0, 0), (0, 0), (3, 0), (3, 0), (3, 0), (3, 0), (1, 0), (8, 5), (9, 4), (0, 0), (0, 0), (0, 0), (0, 0), (0, 0), (3, 0), (3, 0), (3, 0), (3, 0), (10, 4), (7, 8), (7, 8), (7, 4), (2, 0), (7, 60), (2, 0), (7, 60), (2, 0), (7, 60)]) (ρ' := (tn_rL [[], [], [3, 15, 27, 28, 29, 30], [4, 5], [6, 7, 8, 9, 10], [11, 12, 13, 14], [], [], [], [], [], [], [], [], [], [16, 17], [18, 19, 20, 21, 22], [23, 24, 25, 26], [], [], [], [], [], [], [], [], [], [31, 33, 0, 0], [], [], [], [32], [], [34], [], [36], []])) (σ' := tsj 0) rfl rfl rfl rfl rfl (tsj_0 (by decide)) ?_
  exact tn_ret_v (pc := 27) hΓ hK d_X2_init_27 rfl (by decide) (by decide) h
theorem c_X2_init_37 {K : Option Value → List (Nat × Nat) → (Nat → Nat → Nat) → (Nat → Nat → Int32) → Prop} (h : K none [(5, 0), (1, 0), (8, 5), (9, 4), (0, 0), (0, 0), (0, 0), (0, 0), (0, 0), (3, 0), (3, 0), (3, 0), (3, 0), (1, 0), (8, 5), (9, 4), (0, 0), (0, 0), (0, 0), (0, 0), (0, 0), (3, 0), (3, 0), (3, 0), (3, 0), (10, 4), (7, 8), (7, 8), (7, 4), (2, 0), (7, 60), (2, 0), (7, 60), (2, 0), (7, 60), (2, 0), (7, 60)] (tn_rL [[], [], [3, 15, 27, 28, 29, 30], [4, 5], [6, 7, 8, 9, 10], [11, 12, 13, 14], [], [], [], [], [], [], [], [], [], [16, 17], [18, 19, 20, 21, 22], [23, 24, 25, 26], [], [], [], [], [], [], [], [], [], [31, 33, 35, 0], [], [], [], [32], [], [34], [], [36], [], [38], []]) (tsj 0)) : tn_Call m_X2_init [.ref 37] [(5, 0), (1, 0), (8, 5), (9, 4), (0, 0), (0, 0), (0, 0), (0, 0), (0, 0), (3, 0), (3, 0), (3, 0), (3, 0), (1, 0), (8, 5), (9, 4), (0, 0), (0, 0), (0, 0), (0, 0), (0, 0), (3, 0), (3, 0), (3, 0), (3, 0), (10, 4), (7, 8), (7, 8), (7, 4), (2, 0), (7, 60), (2, 0), (7, 60), (2, 0), (7, 60), (2, 0)] (tn_rL [[], [], [3, 15, 27, 28, 29, 30], [4, 5], [6, 7, 8, 9, 10], [11, 12, 13, 14], [], [], [], [], [], [], [], [], [], [16, 17], [18, 19, 20, 21, 22], [23, 24, 25, 26], [], [], [], [], [], [], [], [], [], [31, 33, 35, 0], [], [], [], [32], [], [34], [], [36], [], [0]]) (tsj 0) K := by
  refine tn_intro (by decide) (Nat.le_of_ble_eq_true rfl) (fun Γ hΓ hK => ?_)
  refine tn_aload_n (pc := 0) hΓ d_X2_init_0 rfl ?_
  refine tn_objInit (pc := 1) hΓ d_X2_init_1 (tn_wi 192 (by decide +kernel)) (tn_wi 99 (by decide +kernel)) (tn_wi 100 (by decide +kernel)) (by decide) (by decide) (by decide) ?_
  refine tn_aload_n (pc := 4) hΓ d_X2_init_4 rfl ?_
  refine tn_bipush (pc := 5) hΓ d_X2_init_5 bp_60 ?_
  refine tn_newa (N := 60) (pc := 7) hΓ d_X2_init_7 (tn_wi 209 (by decide +kernel)) (by decide) (by decide) (by decide) (by decide) (by decide) ?_
  refine tn_cvt (st' := [.ref 38, .ref 37]) (ca' := 1) (sl' := 60) (ks' := [(5, 0), (1, 0), (8, 5), (9, 4), (0, 0), (0, 0), (0, 0), (0, 0), (0, 0), (3, 0), (3, 0), (3, 0), (3, 0), (1, 0), (8, 5), (9, 4), (0, 0), (0, 0), (0, 0), (0, 0), (0, 0), (3, 0), (3, 0), (3, 0), (3, 0), (10, 4), (7, 8), (7, 8), (7, 4), (2, 0), (7, 60), (2, 0), (7, 60), (2, 0), (7, 60), (2, 0), (7, 60)]) (ρ' := (tn_rL [[], [], [3, 15, 27, 28, 29, 30], [4, 5], [6, 7, 8, 9, 10], [11, 12, 13, 14], [], [], [], [], [], [], [], [], [], [16, 17], [18, 19, 20, 21, 22], [23, 24, 25, 26], [], [], [], [], [], [], [], [], [], [31, 33, 35, 0], [], [], [], [32], [], [34], [], [36], [], [0], []])) (σ' := tsj 0) rfl rfl rfl rfl (rl_z (m := 0) rfl rfl) (tsj_z (by decide)) ?_
  refine tn_putR (pc := 9) hΓ d_X2_init_9 fl_2_9 fk_2_2_0 rfl rfl fo_2_9 rfl ?_
  refine tn_cvt (st' := []) (ca' := 1) (sl' := 60) (ks' := [(5, 0), (1, 0), (8, 5), (9, 4), (0, 0), (0, 0), (0, 0), (0, 0), (0, 0), (3, 0), (3, 0), (3, 0), (3, 0), (1, 0), (8, 5), (9, 4), (0, 0), (0, 0), (0, 0), (0, 0), (0, 0), (3, 0), (3, 0), (3, 0), (3, 0), (10, 4), (7, 8), (7, 8), (7, 4), (2, 0), (7, 60), (2, 0), (7, 60), (2, 0), (7, 60), (2, 0), (7, 60)]) (ρ' := (tn_rL [[], [], [3, 15, 27, 28, 29, 30], [4, 5], [6, 7, 8, 9, 10], [11, 12, 13, 14], [], [], [], [], [], [], [], [], [], [16, 17], [18, 19, 20, 21, 22], [23, 24, 25, 26], [], [], [], [], [], [], [], [], [], [31, 33, 35, 0], [], [], [], [32], [], [34], [], [36], [], [38], []])) (σ' := tsj 0) rfl rfl rfl rfl (rl_u (k0 := 0) rfl (by decide) rfl) rfl ?_
  refine tn_aload_n (pc := 12) hΓ d_X2_init_12 rfl ?_
  refine tn_iconst (pc := 13) hΓ d_X2_init_13 ic_0 ?_
  refine tn_putZ (pc := 14) hΓ d_X2_init_14 fl_2_15 fk_2_2_1 rfl rfl (Or.inl rfl) ?_
  refine tn_cvt (st' := []) (ca' := 1) (sl' := 60) (ks' := [(5, 0), (1, 0), (8, 5), (9, 4), (0, 0), (0, 0), (0, 0), (0, 0), (0, 0), (3, 0), (3, 0), (3, 0), (3, 0), (1, 0), (8, 5), (9, 4), (0, 0), (0, 0), (0, 0), (0, 0), (0, 0), (3, 0), (3, 0), (3, 0), (3, 0), (10, 4), (7, 8), (7, 8), (7, 4), (2, 0), (7, 60), (2, 0), (7, 60), (2, 0), (7, 60), (2, 0), (7, 60)]) (ρ' := (tn_rL [[], [], [3, 15, 27, 28, 29, 30], [4, 5], [6, 7, 8, 9, 10], [11, 12, 13, 14], [], [], [], [], [], [], [], [], [], [16, 17], [18, 19, 20, 21, 22], [23, 24, 25, 26], [], [], [], [], [], [], [], [], [], [31, 33, 35, 0], [], [], [], [32], [], [34], [], [36], [], [38], []])) (σ' := tsj 0) rfl rfl rfl rfl rfl (tsj_0 (by decide)) ?_
  refine tn_aload_n (pc := 17) hΓ d_X2_init_17 rfl ?_
  refine tn_iconst (pc := 18) hΓ d_X2_init_18 ic_0 ?_
  refine tn_putI (pc := 19) hΓ d_X2_init_19 fl_2_19 fk_2_2_2 rfl rfl  ?_
  refine tn_cvt (st' := []) (ca' := 1) (sl' := 60) (ks' := [(5, 0), (1, 0), (8, 5), (9, 4), (0, 0), (0, 0), (0, 0), (0, 0), (0, 0), (3, 0), (3, 0), (3, 0), (3, 0), (1, 0), (8, 5), (9, 4), (0, 0), (0, 0), (0, 0), (0, 0), (0, 0), (3, 0), (3, 0), (3, 0), (3, 0), (10, 4), (7, 8), (7, 8), (7, 4), (2, 0), (7, 60), (2, 0), (7, 60), (2, 0), (7, 60), (2, 0), (7, 60)]) (ρ' := (tn_rL [[], [], [3, 15, 27, 28, 29, 30], [4, 5], [6, 7, 8, 9, 10], [11, 12, 13, 14], [], [], [], [], [], [], [], [], [], [16, 17], [18, 19, 20, 21, 22], [23, 24, 25, 26], [], [], [], [], [], [], [], [], [], [31, 33, 35, 0], [], [], [], [32], [], [34], [], [36], [], [38], []])) (σ' := tsj 0) rfl rfl rfl rfl rfl (tsj_0 (by decide)) ?_
  refine tn_aload_n (pc := 22) hΓ d_X2_init_22 rfl ?_
  refine tn_iconst (pc := 23) hΓ d_X2_init_23 ic_0 ?_
  refine tn_putI (pc := 24) hΓ d_X2_init_24 fl_2_23 fk_2_2_3 rfl rfl  ?_
  refine tn_cvt (st' := []) (ca' := 1) (sl' := 60) (ks' := [(5, 0), (1, 0), (8, 5), (9, 4), (0, 0), (0, 0), (0, 0), (0, 0), (0, 0), (3, 0), (3, 0), (3, 0), (3, 0), (1, 0), (8, 5), (9, 4), (0, 0), (0, 0), (0, 0), (0, 0), (0, 0), (3, 0), (3, 0), (3, 0), (3, 0), (10, 4), (7, 8), (7, 8), (7, 4), (2, 0), (7, 60), (2, 0), (7, 60), (2, 0), (7, 60), (2, 0), (7, 60)]) (ρ' := (tn_rL [[], [], [3, 15, 27, 28, 29, 30], [4, 5], [6, 7, 8, 9, 10], [11, 12, 13, 14], [], [], [], [], [], [], [], [], [], [16, 17], [18, 19, 20, 21, 22], [23, 24, 25, 26], [], [], [], [], [], [], [], [], [], [31, 33, 35, 0], [], [], [], [32], [], [34], [], [36], [], [38], []])) (σ' := tsj 0) rfl rfl rfl rfl rfl (tsj_0 (by decide)) ?_
  exact tn_ret_v (pc := 27) hΓ hK d_X2_init_27 rfl (by decide) (by decide) h
theorem c5_init {K : Option Value → List (Nat × Nat) → (Nat → Nat → Nat) → (Nat → Nat → Int32) → Prop} (h : K none [(5, 0), (1, 0), (8, 5), (9, 4), (0, 0), (0, 0), (0, 0), (0, 0), (0, 0), (3, 0), (3, 0), (3, 0), (3, 0), (1, 0), (8, 5), (9, 4), (0, 0), (0, 0), (0, 0), (0, 0), (0, 0), (3, 0), (3, 0), (3, 0), (3, 0), (10, 4), (7, 8), (7, 8), (7, 4), (2, 0), (7, 60), (2, 0), (7, 60), (2, 0), (7, 60), (2, 0), (7, 60)] (tn_rL [[], [], [3, 15, 27, 28, 29, 30], [4, 5], [6, 7, 8, 9, 10], [11, 12, 13, 14], [], [], [], [], [], [], [], [], [], [16, 17], [18, 19, 20, 21, 22], [23, 24, 25, 26], [], [], [], [], [], [], [], [], [], [31, 33, 35, 37], [], [], [], [32], [], [34], [], [36], [], [38], []]) (tsj 0)) : tn_Call m_X5_init [.ref 2] [(5, 0)] (tn_rL [[], [], [0, 0, 0, 0, 0, 0]]) (tsj 0) K := by
  refine tn_intro (by decide) (Nat.le_of_ble_eq_true rfl) (fun Γ hΓ hK => ?_)
  refine tn_aload_n (pc := 0) hΓ d_X5_init_0 rfl ?_
  refine tn_objInit (pc := 1) hΓ d_X5_init_1 (tn_wi 98 (by decide +kernel)) (tn_wi 99 (by decide +kernel)) (tn_wi 100 (by decide +kernel)) (by decide) (by decide) (by decide) ?_
  refine tn_aload_n (pc := 4) hΓ d_X5_init_4 rfl ?_
  refine tn_new (pc := 5) hΓ (i := 1) (T := tn_T1) tn_ty1 d_X5_init_5 (by decide) rfl tn_us1 tn_tk1 (tn_wi 101 (by decide +kernel)) (tn_wi 102 (by decide +kernel)) (tn_wi 84 (by decide +kernel)) df_1 (by decide) (by decide) ?_
  refine tn_cvt (st' := [.ref 3, .ref 2]) (ca' := 1) (sl' := 6) (ks' := [(5, 0), (1, 0)]) (ρ' := (tn_rL [[], [], [0, 0, 0, 0, 0, 0], [0, 0]])) (σ' := tsj 0) rfl rfl rfl rfl (rl_z (m := 2) rfl rfl) (tsj_z (by decide)) ?_
  refine tn_dupr (pc := 8) hΓ d_X5_init_8 ?_
  refine tn_ci (As := []) (st := [.ref 3, .ref 2]) (x := 3) (y := m_X1_init) (pc := 9) hΓ d_X5_init_9 mv_X1_init im_X1_init rfl rfl ml_5_11 ⟨⟨by decide, by decide⟩, by decide, by decide⟩ rfl (by decide) (Nat.le_of_ble_eq_true rfl) (c_X1_init_3 (K := fun v ks' ρ' σ' => v = none ∧ ks' = [(5, 0), (1, 0), (8, 5), (9, 4), (0, 0), (0, 0), (0, 0), (0, 0), (0, 0), (3, 0), (3, 0), (3, 0), (3, 0)] ∧ ρ' = (tn_rL [[], [], [0, 0, 0, 0, 0, 0], [4, 5], [6, 7, 8, 9, 10], [11, 12, 13, 14], [], [], [], [], [], [], [], [], []]) ∧ σ' = tsj 0) ⟨rfl, rfl, rfl, rfl⟩) (fun v ks' ρ' σ' hh => ?_)
  obtain ⟨rfl, rfl, rfl, rfl⟩ := hh
  refine tn_cvt (st' := [.ref 3, .ref 2]) (ca' := 12) (sl' := 48) (ks' := [(5, 0), (1, 0), (8, 5), (9, 4), (0, 0), (0, 0), (0, 0), (0, 0), (0, 0), (3, 0), (3, 0), (3, 0), (3, 0)]) (ρ' := (tn_rL [[], [], [0, 0, 0, 0, 0, 0], [4, 5], [6, 7, 8, 9, 10], [11, 12, 13, 14], [], [], [], [], [], [], [], [], []])) (σ' := tsj 0) rfl rfl rfl rfl rfl rfl ?_
  refine tn_putR (pc := 12) hΓ d_X5_init_12 fl_5_12 fk_5_5_0 rfl rfl fo_5_12 rfl ?_
  refine tn_cvt (st' := []) (ca' := 12) (sl' := 48) (ks' := [(5, 0), (1, 0), (8, 5), (9, 4), (0, 0), (0, 0), (0, 0), (0, 0), (0, 0), (3, 0), (3, 0), (3, 0), (3, 0)]) (ρ' := (tn_rL [[], [], [3, 0, 0, 0, 0, 0], [4, 5], [6, 7, 8, 9, 10], [11, 12, 13, 14], [], [], [], [], [], [], [], [], []])) (σ' := tsj 0) rfl rfl rfl rfl (rl_u (k0 := 0) rfl (by decide) rfl) rfl ?_
  refine tn_aload_n (pc := 15) hΓ d_X5_init_15 rfl ?_
  refine tn_new (pc := 16) hΓ (i := 1) (T := tn_T1) tn_ty1 d_X5_init_16 (by decide) rfl tn_us1 tn_tk1 (tn_wi 101 (by decide +kernel)) (tn_wi 102 (by decide +kernel)) (tn_wi 84 (by decide +kernel)) df_1 (by decide) (by decide) ?_
  refine tn_cvt (st' := [.ref 15, .ref 2]) (ca' := 13) (sl' := 54) (ks' := [(5, 0), (1, 0), (8, 5), (9, 4), (0, 0), (0, 0), (0, 0), (0, 0), (0, 0), (3, 0), (3, 0), (3, 0), (3, 0), (1, 0)]) (ρ' := (tn_rL [[], [], [3, 0, 0, 0, 0, 0], [4, 5], [6, 7, 8, 9, 10], [11, 12, 13, 14], [], [], [], [], [], [], [], [], [], [0, 0]])) (σ' := tsj 0) rfl rfl rfl rfl (rl_z (m := 2) rfl rfl) (tsj_z (by decide)) ?_
  refine tn_dupr (pc := 19) hΓ d_X5_init_19 ?_
  refine tn_ci (As := []) (st := [.ref 15, .ref 2]) (x := 15) (y := m_X1_init) (pc := 20) hΓ d_X5_init_20 mv_X1_init im_X1_init rfl rfl ml_5_11 ⟨⟨by decide, by decide⟩, by decide, by decide⟩ rfl (by decide) (Nat.le_of_ble_eq_true rfl) (c_X1_init_15 (K := fun v ks' ρ' σ' => v = none ∧ ks' = [(5, 0), (1, 0), (8, 5), (9, 4), (0, 0), (0, 0), (0, 0), (0, 0), (0, 0), (3, 0), (3, 0), (3, 0), (3, 0), (1, 0), (8, 5), (9, 4), (0, 0), (0, 0), (0, 0), (0, 0), (0, 0), (3, 0), (3, 0), (3, 0), (3, 0)] ∧ ρ' = (tn_rL [[], [], [3, 0, 0, 0, 0, 0], [4, 5], [6, 7, 8, 9, 10], [11, 12, 13, 14], [], [], [], [], [], [], [], [], [], [16, 17], [18, 19, 20, 21, 22], [23, 24, 25, 26], [], [], [], [], [], [], [], [], []]) ∧ σ' = tsj 0) ⟨rfl, rfl, rfl, rfl⟩) (fun v ks' ρ' σ' hh => ?_)
  obtain ⟨rfl, rfl, rfl, rfl⟩ := hh
  refine tn_cvt (st' := [.ref 15, .ref 2]) (ca' := 24) (sl' := 96) (ks' := [(5, 0), (1, 0), (8, 5), (9, 4), (0, 0), (0, 0), (0, 0), (0, 0), (0, 0), (3, 0), (3, 0), (3, 0), (3, 0), (1, 0), (8, 5), (9, 4), (0, 0), (0, 0), (0, 0), (0, 0), (0, 0), (3, 0), (3, 0), (3, 0), (3, 0)]) (ρ' := (tn_rL [[], [], [3, 0, 0, 0, 0, 0], [4, 5], [6, 7, 8, 9, 10], [11, 12, 13, 14], [], [], [], [], [], [], [], [], [], [16, 17], [18, 19, 20, 21, 22], [23, 24, 25, 26], [], [], [], [], [], [], [], [], []])) (σ' := tsj 0) rfl rfl rfl rfl rfl rfl ?_
  refine tn_putR (pc := 23) hΓ d_X5_init_23 fl_5_18 fk_5_5_1 rfl rfl fo_5_18 rfl ?_
  refine tn_cvt (st' := []) (ca' := 24) (sl' := 96) (ks' := [(5, 0), (1, 0), (8, 5), (9, 4), (0, 0), (0, 0), (0, 0), (0, 0), (0, 0), (3, 0), (3, 0), (3, 0), (3, 0), (1, 0), (8, 5), (9, 4), (0, 0), (0, 0), (0, 0), (0, 0), (0, 0), (3, 0), (3, 0), (3, 0), (3, 0)]) (ρ' := (tn_rL [[], [], [3, 15, 0, 0, 0, 0], [4, 5], [6, 7, 8, 9, 10], [11, 12, 13, 14], [], [], [], [], [], [], [], [], [], [16, 17], [18, 19, 20, 21, 22], [23, 24, 25, 26], [], [], [], [], [], [], [], [], []])) (σ' := tsj 0) rfl rfl rfl rfl (rl_u (k0 := 1) rfl (by decide) rfl) rfl ?_
  refine tn_aload_n (pc := 26) hΓ d_X5_init_26 rfl ?_
  refine tn_iconst (pc := 27) hΓ d_X5_init_27 ic_4 ?_
  refine tn_anew (C := "ThunderOwned$Sheet") (N := 4) (t := 2) (pc := 28) hΓ d_X5_init_28 (tn_wi 186 (by decide +kernel)) (by decide) (by decide) (by decide) (by decide) (by decide) (by decide) ?_
  refine tn_cvt (st' := [.ref 27, .ref 2]) (ca' := 25) (sl' := 100) (ks' := [(5, 0), (1, 0), (8, 5), (9, 4), (0, 0), (0, 0), (0, 0), (0, 0), (0, 0), (3, 0), (3, 0), (3, 0), (3, 0), (1, 0), (8, 5), (9, 4), (0, 0), (0, 0), (0, 0), (0, 0), (0, 0), (3, 0), (3, 0), (3, 0), (3, 0), (10, 4)]) (ρ' := (tn_rL [[], [], [3, 15, 0, 0, 0, 0], [4, 5], [6, 7, 8, 9, 10], [11, 12, 13, 14], [], [], [], [], [], [], [], [], [], [16, 17], [18, 19, 20, 21, 22], [23, 24, 25, 26], [], [], [], [], [], [], [], [], [], [0, 0, 0, 0]])) (σ' := tsj 0) rfl rfl rfl rfl (rl_z (m := 4) rfl rfl) (tsj_z (by decide)) ?_
  refine tn_putR (pc := 31) hΓ d_X5_init_31 fl_5_23 fk_5_5_2 rfl rfl fo_5_23 rfl ?_
  refine tn_cvt (st' := []) (ca' := 25) (sl' := 100) (ks' := [(5, 0), (1, 0), (8, 5), (9, 4), (0, 0), (0, 0), (0, 0), (0, 0), (0, 0), (3, 0), (3, 0), (3, 0), (3, 0), (1, 0), (8, 5), (9, 4), (0, 0), (0, 0), (0, 0), (0, 0), (0, 0), (3, 0), (3, 0), (3, 0), (3, 0), (10, 4)]) (ρ' := (tn_rL [[], [], [3, 15, 27, 0, 0, 0], [4, 5], [6, 7, 8, 9, 10], [11, 12, 13, 14], [], [], [], [], [], [], [], [], [], [16, 17], [18, 19, 20, 21, 22], [23, 24, 25, 26], [], [], [], [], [], [], [], [], [], [0, 0, 0, 0]])) (σ' := tsj 0) rfl rfl rfl rfl (rl_u (k0 := 2) rfl (by decide) rfl) rfl ?_
  refine tn_aload_n (pc := 34) hΓ d_X5_init_34 rfl ?_
  refine tn_bipush (pc := 35) hΓ d_X5_init_35 bp_8 ?_
  refine tn_newa (N := 8) (pc := 37) hΓ d_X5_init_37 (tn_wi 209 (by decide +kernel)) (by decide) (by decide) (by decide) (by decide) (by decide) ?_
  refine tn_cvt (st' := [.ref 28, .ref 2]) (ca' := 26) (sl' := 108) (ks' := [(5, 0), (1, 0), (8, 5), (9, 4), (0, 0), (0, 0), (0, 0), (0, 0), (0, 0), (3, 0), (3, 0), (3, 0), (3, 0), (1, 0), (8, 5), (9, 4), (0, 0), (0, 0), (0, 0), (0, 0), (0, 0), (3, 0), (3, 0), (3, 0), (3, 0), (10, 4), (7, 8)]) (ρ' := (tn_rL [[], [], [3, 15, 27, 0, 0, 0], [4, 5], [6, 7, 8, 9, 10], [11, 12, 13, 14], [], [], [], [], [], [], [], [], [], [16, 17], [18, 19, 20, 21, 22], [23, 24, 25, 26], [], [], [], [], [], [], [], [], [], [0, 0, 0, 0], []])) (σ' := tsj 0) rfl rfl rfl rfl (rl_z (m := 0) rfl rfl) (tsj_z (by decide)) ?_
  refine tn_putR (pc := 39) hΓ d_X5_init_39 fl_5_27 fk_5_5_3 rfl rfl fo_5_27 rfl ?_
  refine tn_cvt (st' := []) (ca' := 26) (sl' := 108) (ks' := [(5, 0), (1, 0), (8, 5), (9, 4), (0, 0), (0, 0), (0, 0), (0, 0), (0, 0), (3, 0), (3, 0), (3, 0), (3, 0), (1, 0), (8, 5), (9, 4), (0, 0), (0, 0), (0, 0), (0, 0), (0, 0), (3, 0), (3, 0), (3, 0), (3, 0), (10, 4), (7, 8)]) (ρ' := (tn_rL [[], [], [3, 15, 27, 28, 0, 0], [4, 5], [6, 7, 8, 9, 10], [11, 12, 13, 14], [], [], [], [], [], [], [], [], [], [16, 17], [18, 19, 20, 21, 22], [23, 24, 25, 26], [], [], [], [], [], [], [], [], [], [0, 0, 0, 0], []])) (σ' := tsj 0) rfl rfl rfl rfl (rl_u (k0 := 3) rfl (by decide) rfl) rfl ?_
  refine tn_aload_n (pc := 42) hΓ d_X5_init_42 rfl ?_
  refine tn_bipush (pc := 43) hΓ d_X5_init_43 bp_8 ?_
  refine tn_newa (N := 8) (pc := 45) hΓ d_X5_init_45 (tn_wi 209 (by decide +kernel)) (by decide) (by decide) (by decide) (by decide) (by decide) ?_
  refine tn_cvt (st' := [.ref 29, .ref 2]) (ca' := 27) (sl' := 116) (ks' := [(5, 0), (1, 0), (8, 5), (9, 4), (0, 0), (0, 0), (0, 0), (0, 0), (0, 0), (3, 0), (3, 0), (3, 0), (3, 0), (1, 0), (8, 5), (9, 4), (0, 0), (0, 0), (0, 0), (0, 0), (0, 0), (3, 0), (3, 0), (3, 0), (3, 0), (10, 4), (7, 8), (7, 8)]) (ρ' := (tn_rL [[], [], [3, 15, 27, 28, 0, 0], [4, 5], [6, 7, 8, 9, 10], [11, 12, 13, 14], [], [], [], [], [], [], [], [], [], [16, 17], [18, 19, 20, 21, 22], [23, 24, 25, 26], [], [], [], [], [], [], [], [], [], [0, 0, 0, 0], [], []])) (σ' := tsj 0) rfl rfl rfl rfl (rl_z (m := 0) rfl rfl) (tsj_z (by decide)) ?_
  refine tn_putR (pc := 47) hΓ d_X5_init_47 fl_5_31 fk_5_5_4 rfl rfl fo_5_31 rfl ?_
  refine tn_cvt (st' := []) (ca' := 27) (sl' := 116) (ks' := [(5, 0), (1, 0), (8, 5), (9, 4), (0, 0), (0, 0), (0, 0), (0, 0), (0, 0), (3, 0), (3, 0), (3, 0), (3, 0), (1, 0), (8, 5), (9, 4), (0, 0), (0, 0), (0, 0), (0, 0), (0, 0), (3, 0), (3, 0), (3, 0), (3, 0), (10, 4), (7, 8), (7, 8)]) (ρ' := (tn_rL [[], [], [3, 15, 27, 28, 29, 0], [4, 5], [6, 7, 8, 9, 10], [11, 12, 13, 14], [], [], [], [], [], [], [], [], [], [16, 17], [18, 19, 20, 21, 22], [23, 24, 25, 26], [], [], [], [], [], [], [], [], [], [0, 0, 0, 0], [], []])) (σ' := tsj 0) rfl rfl rfl rfl (rl_u (k0 := 4) rfl (by decide) rfl) rfl ?_
  refine tn_aload_n (pc := 50) hΓ d_X5_init_50 rfl ?_
  refine tn_iconst (pc := 51) hΓ d_X5_init_51 ic_4 ?_
  refine tn_newa (N := 4) (pc := 52) hΓ d_X5_init_52 (tn_wi 209 (by decide +kernel)) (by decide) (by decide) (by decide) (by decide) (by decide) ?_
  refine tn_cvt (st' := [.ref 30, .ref 2]) (ca' := 28) (sl' := 120) (ks' := [(5, 0), (1, 0), (8, 5), (9, 4), (0, 0), (0, 0), (0, 0), (0, 0), (0, 0), (3, 0), (3, 0), (3, 0), (3, 0), (1, 0), (8, 5), (9, 4), (0, 0), (0, 0), (0, 0), (0, 0), (0, 0), (3, 0), (3, 0), (3, 0), (3, 0), (10, 4), (7, 8), (7, 8), (7, 4)]) (ρ' := (tn_rL [[], [], [3, 15, 27, 28, 29, 0], [4, 5], [6, 7, 8, 9, 10], [11, 12, 13, 14], [], [], [], [], [], [], [], [], [], [16, 17], [18, 19, 20, 21, 22], [23, 24, 25, 26], [], [], [], [], [], [], [], [], [], [0, 0, 0, 0], [], [], []])) (σ' := tsj 0) rfl rfl rfl rfl (rl_z (m := 0) rfl rfl) (tsj_z (by decide)) ?_
  refine tn_putR (pc := 54) hΓ d_X5_init_54 fl_5_34 fk_5_5_5 rfl rfl fo_5_34 rfl ?_
  refine tn_cvt (st' := []) (ca' := 28) (sl' := 120) (ks' := [(5, 0), (1, 0), (8, 5), (9, 4), (0, 0), (0, 0), (0, 0), (0, 0), (0, 0), (3, 0), (3, 0), (3, 0), (3, 0), (1, 0), (8, 5), (9, 4), (0, 0), (0, 0), (0, 0), (0, 0), (0, 0), (3, 0), (3, 0), (3, 0), (3, 0), (10, 4), (7, 8), (7, 8), (7, 4)]) (ρ' := (tn_rL [[], [], [3, 15, 27, 28, 29, 30], [4, 5], [6, 7, 8, 9, 10], [11, 12, 13, 14], [], [], [], [], [], [], [], [], [], [16, 17], [18, 19, 20, 21, 22], [23, 24, 25, 26], [], [], [], [], [], [], [], [], [], [0, 0, 0, 0], [], [], []])) (σ' := tsj 0) rfl rfl rfl rfl (rl_u (k0 := 5) rfl (by decide) rfl) rfl ?_
  refine tn_aload_n (pc := 57) hΓ d_X5_init_57 rfl ?_
  refine tn_iconst (pc := 58) hΓ d_X5_init_58 ic_0 ?_
  refine tn_putI (pc := 59) hΓ d_X5_init_59 fl_5_37 fk_5_5_6 rfl rfl  ?_
  refine tn_cvt (st' := []) (ca' := 28) (sl' := 120) (ks' := [(5, 0), (1, 0), (8, 5), (9, 4), (0, 0), (0, 0), (0, 0), (0, 0), (0, 0), (3, 0), (3, 0), (3, 0), (3, 0), (1, 0), (8, 5), (9, 4), (0, 0), (0, 0), (0, 0), (0, 0), (0, 0), (3, 0), (3, 0), (3, 0), (3, 0), (10, 4), (7, 8), (7, 8), (7, 4)]) (ρ' := (tn_rL [[], [], [3, 15, 27, 28, 29, 30], [4, 5], [6, 7, 8, 9, 10], [11, 12, 13, 14], [], [], [], [], [], [], [], [], [], [16, 17], [18, 19, 20, 21, 22], [23, 24, 25, 26], [], [], [], [], [], [], [], [], [], [0, 0, 0, 0], [], [], []])) (σ' := tsj 0) rfl rfl rfl rfl rfl (tsj_0 (by decide)) ?_
  refine tn_aload_n (pc := 62) hΓ d_X5_init_62 rfl ?_
  refine tn_iconst (pc := 63) hΓ d_X5_init_63 ic_0 ?_
  refine tn_putI (pc := 64) hΓ d_X5_init_64 fl_5_41 fk_5_5_7 rfl rfl  ?_
  refine tn_cvt (st' := []) (ca' := 28) (sl' := 120) (ks' := [(5, 0), (1, 0), (8, 5), (9, 4), (0, 0), (0, 0), (0, 0), (0, 0), (0, 0), (3, 0), (3, 0), (3, 0), (3, 0), (1, 0), (8, 5), (9, 4), (0, 0), (0, 0), (0, 0), (0, 0), (0, 0), (3, 0), (3, 0), (3, 0), (3, 0), (10, 4), (7, 8), (7, 8), (7, 4)]) (ρ' := (tn_rL [[], [], [3, 15, 27, 28, 29, 30], [4, 5], [6, 7, 8, 9, 10], [11, 12, 13, 14], [], [], [], [], [], [], [], [], [], [16, 17], [18, 19, 20, 21, 22], [23, 24, 25, 26], [], [], [], [], [], [], [], [], [], [0, 0, 0, 0], [], [], []])) (σ' := tsj 0) rfl rfl rfl rfl rfl (tsj_0 (by decide)) ?_
  refine tn_aload_n (pc := 67) hΓ d_X5_init_67 rfl ?_
  refine tn_iconst (pc := 68) hΓ d_X5_init_68 ic_0 ?_
  refine tn_putI (pc := 69) hΓ d_X5_init_69 fl_5_44 fk_5_5_8 rfl rfl  ?_
  refine tn_cvt (st' := []) (ca' := 28) (sl' := 120) (ks' := [(5, 0), (1, 0), (8, 5), (9, 4), (0, 0), (0, 0), (0, 0), (0, 0), (0, 0), (3, 0), (3, 0), (3, 0), (3, 0), (1, 0), (8, 5), (9, 4), (0, 0), (0, 0), (0, 0), (0, 0), (0, 0), (3, 0), (3, 0), (3, 0), (3, 0), (10, 4), (7, 8), (7, 8), (7, 4)]) (ρ' := (tn_rL [[], [], [3, 15, 27, 28, 29, 30], [4, 5], [6, 7, 8, 9, 10], [11, 12, 13, 14], [], [], [], [], [], [], [], [], [], [16, 17], [18, 19, 20, 21, 22], [23, 24, 25, 26], [], [], [], [], [], [], [], [], [], [0, 0, 0, 0], [], [], []])) (σ' := tsj 0) rfl rfl rfl rfl rfl (tsj_0 (by decide)) ?_
  refine tn_aload_n (pc := 72) hΓ d_X5_init_72 rfl ?_
  refine tn_iconst (pc := 73) hΓ d_X5_init_73 ic_0 ?_
  refine tn_putI (pc := 74) hΓ d_X5_init_74 fl_5_47 fk_5_5_9 rfl rfl  ?_
  refine tn_cvt (st' := []) (ca' := 28) (sl' := 120) (ks' := [(5, 0), (1, 0), (8, 5), (9, 4), (0, 0), (0, 0), (0, 0), (0, 0), (0, 0), (3, 0), (3, 0), (3, 0), (3, 0), (1, 0), (8, 5), (9, 4), (0, 0), (0, 0), (0, 0), (0, 0), (0, 0), (3, 0), (3, 0), (3, 0), (3, 0), (10, 4), (7, 8), (7, 8), (7, 4)]) (ρ' := (tn_rL [[], [], [3, 15, 27, 28, 29, 30], [4, 5], [6, 7, 8, 9, 10], [11, 12, 13, 14], [], [], [], [], [], [], [], [], [], [16, 17], [18, 19, 20, 21, 22], [23, 24, 25, 26], [], [], [], [], [], [], [], [], [], [0, 0, 0, 0], [], [], []])) (σ' := tsj 0) rfl rfl rfl rfl rfl (tsj_0 (by decide)) ?_
  refine tn_iconst (pc := 77) hΓ d_X5_init_77 ic_0 ?_
  refine tn_istore_n (loc' := [.ref 2, .int (0 : Int32)]) (pc := 78) hΓ d_X5_init_78 (by decide) rfl rfl ?_
  refine tn_iload_n (pc := 79) hΓ d_X5_init_79 rfl ?_
  refine tn_iconst (pc := 80) hΓ d_X5_init_80 ic_4 ?_
  refine tn_icmp_ge (tgt := 103) (pc := 81) hΓ d_X5_init_81 (by decide) (fun hq => absurd hq (by decide)) (fun _ => ?_)
  refine tn_aload_n (pc := 84) hΓ d_X5_init_84 rfl ?_
  refine tn_getRy (y := 27) (pc := 85) hΓ d_X5_init_85 fl_5_23 rfl rfl rfl ?_
  refine tn_iload_n (pc := 88) hΓ d_X5_init_88 rfl ?_
  refine tn_new (pc := 89) hΓ (i := 2) (T := tn_T2) tn_ty2 d_X5_init_89 (by decide) rfl tn_us2 tn_tk2 (tn_wi 186 (by decide +kernel)) (tn_wi 188 (by decide +kernel)) (tn_wi 87 (by decide +kernel)) df_2 (by decide) (by decide) ?_
  refine tn_cvt (st' := [.ref 31, .int (0 : Int32), .ref 27]) (ca' := 29) (sl' := 124) (ks' := [(5, 0), (1, 0), (8, 5), (9, 4), (0, 0), (0, 0), (0, 0), (0, 0), (0, 0), (3, 0), (3, 0), (3, 0), (3, 0), (1, 0), (8, 5), (9, 4), (0, 0), (0, 0), (0, 0), (0, 0), (0, 0), (3, 0), (3, 0), (3, 0), (3, 0), (10, 4), (7, 8), (7, 8), (7, 4), (2, 0)]) (ρ' := (tn_rL [[], [], [3, 15, 27, 28, 29, 30], [4, 5], [6, 7, 8, 9, 10], [11, 12, 13, 14], [], [], [], [], [], [], [], [], [], [16, 17], [18, 19, 20, 21, 22], [23, 24, 25, 26], [], [], [], [], [], [], [], [], [], [0, 0, 0, 0], [], [], [], [0]])) (σ' := tsj 0) rfl rfl rfl rfl (rl_z (m := 1) rfl rfl) (tsj_z (by decide)) ?_
  refine tn_dupr (pc := 92) hΓ d_X5_init_92 ?_
  refine tn_ci (As := []) (st := [.ref 31, .int (0 : Int32), .ref 27]) (x := 31) (y := m_X2_init) (pc := 93) hΓ d_X5_init_93 mv_X2_init im_X2_init rfl rfl ml_5_50 ⟨⟨by decide, by decide⟩, by decide, by decide⟩ rfl (by decide) (Nat.le_of_ble_eq_true rfl) (c_X2_init_31 (K := fun v ks' ρ' σ' => v = none ∧ ks' = [(5, 0), (1, 0), (8, 5), (9, 4), (0, 0), (0, 0), (0, 0), (0, 0), (0, 0), (3, 0), (3, 0), (3, 0), (3, 0), (1, 0), (8, 5), (9, 4), (0, 0), (0, 0), (0, 0), (0, 0), (0, 0), (3, 0), (3, 0), (3, 0), (3, 0), (10, 4), (7, 8), (7, 8), (7, 4), (2, 0), (7, 60)] ∧ ρ' = (tn_rL [[], [], [3, 15, 27, 28, 29, 30], [4, 5], [6, 7, 8, 9, 10], [11, 12, 13, 14], [], [], [], [], [], [], [], [], [], [16, 17], [18, 19, 20, 21, 22], [23, 24, 25, 26], [], [], [], [], [], [], [], [], [], [0, 0, 0, 0], [], [], [], [32], []]) ∧ σ' = tsj 0) ⟨rfl, rfl, rfl, rfl⟩) (fun v ks' ρ' σ' hh => ?_)
  obtain ⟨rfl, rfl, rfl, rfl⟩ := hh
  refine tn_cvt (st' := [.ref 31, .int (0 : Int32), .ref 27]) (ca' := 30) (sl' := 184) (ks' := [(5, 0), (1, 0), (8, 5), (9, 4), (0, 0), (0, 0), (0, 0), (0, 0), (0, 0), (3, 0), (3, 0), (3, 0), (3, 0), (1, 0), (8, 5), (9, 4), (0, 0), (0, 0), (0, 0), (0, 0), (0, 0), (3, 0), (3, 0), (3, 0), (3, 0), (10, 4), (7, 8), (7, 8), (7, 4), (2, 0), (7, 60)]) (ρ' := (tn_rL [[], [], [3, 15, 27, 28, 29, 30], [4, 5], [6, 7, 8, 9, 10], [11, 12, 13, 14], [], [], [], [], [], [], [], [], [], [16, 17], [18, 19, 20, 21, 22], [23, 24, 25, 26], [], [], [], [], [], [], [], [], [], [0, 0, 0, 0], [], [], [], [32], []])) (σ' := tsj 0) rfl rfl rfl rfl rfl rfl ?_
  refine tn_aast (t := 2) (n := 4) (i0 := 2) (n0' := 0) (pc := 96) hΓ d_X5_init_96 (by decide) rfl (by unfold vp_in; decide) rfl ?_
  refine tn_cvt (st' := []) (ca' := 30) (sl' := 184) (ks' := [(5, 0), (1, 0), (8, 5), (9, 4), (0, 0), (0, 0), (0, 0), (0, 0), (0, 0), (3, 0), (3, 0), (3, 0), (3, 0), (1, 0), (8, 5), (9, 4), (0, 0), (0, 0), (0, 0), (0, 0), (0, 0), (3, 0), (3, 0), (3, 0), (3, 0), (10, 4), (7, 8), (7, 8), (7, 4), (2, 0), (7, 60)]) (ρ' := (tn_rL [[], [], [3, 15, 27, 28, 29, 30], [4, 5], [6, 7, 8, 9, 10], [11, 12, 13, 14], [], [], [], [], [], [], [], [], [], [16, 17], [18, 19, 20, 21, 22], [23, 24, 25, 26], [], [], [], [], [], [], [], [], [], [31, 0, 0, 0], [], [], [], [32], []])) (σ' := tsj 0) rfl rfl rfl rfl (rl_u (k0 := 0) (by decide) (by decide) rfl) rfl ?_
  refine tn_iincw (loc' := fun v_ => [.ref 2, .int v_]) (pc := 97) hΓ d_X5_init_97 rfl ic_1 (by decide) rfl (fun _ => rfl) (fun v ev => ?_)
  rw [show (0 : Int32) + 1 = (1 : Int32) by decide] at ev
  subst ev
  refine tn_goto (tgt := 79) (pc := 100) hΓ d_X5_init_100 (by decide) ?_
  refine tn_iload_n (pc := 79) hΓ d_X5_init_79 rfl ?_
  refine tn_iconst (pc := 80) hΓ d_X5_init_80 ic_4 ?_
  refine tn_icmp_ge (tgt := 103) (pc := 81) hΓ d_X5_init_81 (by decide) (fun hq => absurd hq (by decide)) (fun _ => ?_)
  refine tn_aload_n (pc := 84) hΓ d_X5_init_84 rfl ?_
  refine tn_getRy (y := 27) (pc := 85) hΓ d_X5_init_85 fl_5_23 rfl rfl rfl ?_
  refine tn_iload_n (pc := 88) hΓ d_X5_init_88 rfl ?_
  refine tn_new (pc := 89) hΓ (i := 2) (T := tn_T2) tn_ty2 d_X5_init_89 (by decide) rfl tn_us2 tn_tk2 (tn_wi 186 (by decide +kernel)) (tn_wi 188 (by decide +kernel)) (tn_wi 87 (by decide +kernel)) df_2 (by decide) (by decide) ?_
  refine tn_cvt (st' := [.ref 33, .int (1 : Int32), .ref 27]) (ca' := 31) (sl' := 188) (ks' := [(5, 0), (1, 0), (8, 5), (9, 4), (0, 0), (0, 0), (0, 0), (0, 0), (0, 0), (3, 0), (3, 0), (3, 0), (3, 0), (1, 0), (8, 5), (9, 4), (0, 0), (0, 0), (0, 0), (0, 0), (0, 0), (3, 0), (3, 0), (3, 0), (3, 0), (10, 4), (7, 8), (7, 8), (7, 4), (2, 0), (7, 60), (2, 0)]) (ρ' := (tn_rL [[], [], [3, 15, 27, 28, 29, 30], [4, 5], [6, 7, 8, 9, 10], [11, 12, 13, 14], [], [], [], [], [], [], [], [], [], [16, 17], [18, 19, 20, 21, 22], [23, 24, 25, 26], [], [], [], [], [], [], [], [], [], [31, 0, 0, 0], [], [], [], [32], [], [0]])) (σ' := tsj 0) rfl rfl rfl rfl (rl_z (m := 1) rfl rfl) (tsj_z (by decide)) ?_
  refine tn_dupr (pc := 92) hΓ d_X5_init_92 ?_
  refine tn_ci (As := []) (st := [.ref 33, .int (1 : Int32), .ref 27]) (x := 33) (y := m_X2_init) (pc := 93) hΓ d_X5_init_93 mv_X2_init im_X2_init rfl rfl ml_5_50 ⟨⟨by decide, by decide⟩, by decide, by decide⟩ rfl (by decide) (Nat.le_of_ble_eq_true rfl) (c_X2_init_33 (K := fun v ks' ρ' σ' => v = none ∧ ks' = [(5, 0), (1, 0), (8, 5), (9, 4), (0, 0), (0, 0), (0, 0), (0, 0), (0, 0), (3, 0), (3, 0), (3, 0), (3, 0), (1, 0), (8, 5), (9, 4), (0, 0), (0, 0), (0, 0), (0, 0), (0, 0), (3, 0), (3, 0), (3, 0), (3, 0), (10, 4), (7, 8), (7, 8), (7, 4), (2, 0), (7, 60), (2, 0), (7, 60)] ∧ ρ' = (tn_rL [[], [], [3, 15, 27, 28, 29, 30], [4, 5], [6, 7, 8, 9, 10], [11, 12, 13, 14], [], [], [], [], [], [], [], [], [], [16, 17], [18, 19, 20, 21, 22], [23, 24, 25, 26], [], [], [], [], [], [], [], [], [], [31, 0, 0, 0], [], [], [], [32], [], [34], []]) ∧ σ' = tsj 0) ⟨rfl, rfl, rfl, rfl⟩) (fun v ks' ρ' σ' hh => ?_)
  obtain ⟨rfl, rfl, rfl, rfl⟩ := hh
  refine tn_cvt (st' := [.ref 33, .int (1 : Int32), .ref 27]) (ca' := 32) (sl' := 248) (ks' := [(5, 0), (1, 0), (8, 5), (9, 4), (0, 0), (0, 0), (0, 0), (0, 0), (0, 0), (3, 0), (3, 0), (3, 0), (3, 0), (1, 0), (8, 5), (9, 4), (0, 0), (0, 0), (0, 0), (0, 0), (0, 0), (3, 0), (3, 0), (3, 0), (3, 0), (10, 4), (7, 8), (7, 8), (7, 4), (2, 0), (7, 60), (2, 0), (7, 60)]) (ρ' := (tn_rL [[], [], [3, 15, 27, 28, 29, 30], [4, 5], [6, 7, 8, 9, 10], [11, 12, 13, 14], [], [], [], [], [], [], [], [], [], [16, 17], [18, 19, 20, 21, 22], [23, 24, 25, 26], [], [], [], [], [], [], [], [], [], [31, 0, 0, 0], [], [], [], [32], [], [34], []])) (σ' := tsj 0) rfl rfl rfl rfl rfl rfl ?_
  refine tn_aast (t := 2) (n := 4) (i0 := 2) (n0' := 0) (pc := 96) hΓ d_X5_init_96 (by decide) rfl (by unfold vp_in; decide) rfl ?_
  refine tn_cvt (st' := []) (ca' := 32) (sl' := 248) (ks' := [(5, 0), (1, 0), (8, 5), (9, 4), (0, 0), (0, 0), (0, 0), (0, 0), (0, 0), (3, 0), (3, 0), (3, 0), (3, 0), (1, 0), (8, 5), (9, 4), (0, 0), (0, 0), (0, 0), (0, 0), (0, 0), (3, 0), (3, 0), (3, 0), (3, 0), (10, 4), (7, 8), (7, 8), (7, 4), (2, 0), (7, 60), (2, 0), (7, 60)]) (ρ' := (tn_rL [[], [], [3, 15, 27, 28, 29, 30], [4, 5], [6, 7, 8, 9, 10], [11, 12, 13, 14], [], [], [], [], [], [], [], [], [], [16, 17], [18, 19, 20, 21, 22], [23, 24, 25, 26], [], [], [], [], [], [], [], [], [], [31, 33, 0, 0], [], [], [], [32], [], [34], []])) (σ' := tsj 0) rfl rfl rfl rfl (rl_u (k0 := 1) (by decide) (by decide) rfl) rfl ?_
  refine tn_iincw (loc' := fun v_ => [.ref 2, .int v_]) (pc := 97) hΓ d_X5_init_97 rfl ic_1 (by decide) rfl (fun _ => rfl) (fun v ev => ?_)
  rw [show (1 : Int32) + 1 = (2 : Int32) by decide] at ev
  subst ev
  refine tn_goto (tgt := 79) (pc := 100) hΓ d_X5_init_100 (by decide) ?_
  refine tn_iload_n (pc := 79) hΓ d_X5_init_79 rfl ?_
  refine tn_iconst (pc := 80) hΓ d_X5_init_80 ic_4 ?_
  refine tn_icmp_ge (tgt := 103) (pc := 81) hΓ d_X5_init_81 (by decide) (fun hq => absurd hq (by decide)) (fun _ => ?_)
  refine tn_aload_n (pc := 84) hΓ d_X5_init_84 rfl ?_
  refine tn_getRy (y := 27) (pc := 85) hΓ d_X5_init_85 fl_5_23 rfl rfl rfl ?_
  refine tn_iload_n (pc := 88) hΓ d_X5_init_88 rfl ?_
  refine tn_new (pc := 89) hΓ (i := 2) (T := tn_T2) tn_ty2 d_X5_init_89 (by decide) rfl tn_us2 tn_tk2 (tn_wi 186 (by decide +kernel)) (tn_wi 188 (by decide +kernel)) (tn_wi 87 (by decide +kernel)) df_2 (by decide) (by decide) ?_
  refine tn_cvt (st' := [.ref 35, .int (2 : Int32), .ref 27]) (ca' := 33) (sl' := 252) (ks' := [(5, 0), (1, 0), (8, 5), (9, 4), (0, 0), (0, 0), (0, 0), (0, 0), (0, 0), (3, 0), (3, 0), (3, 0), (3, 0), (1, 0), (8, 5), (9, 4), (0, 0), (0, 0), (0, 0), (0, 0), (0, 0), (3, 0), (3, 0), (3, 0), (3, 0), (10, 4), (7, 8), (7, 8), (7, 4), (2, 0), (7, 60), (2, 0), (7, 60), (2, 0)]) (ρ' := (tn_rL [[], [], [3, 15, 27, 28, 29, 30], [4, 5], [6, 7, 8, 9, 10], [11, 12, 13, 14], [], [], [], [], [], [], [], [], [], [16, 17], [18, 19, 20, 21, 22], [23, 24, 25, 26], [], [], [], [], [], [], [], [], [], [31, 33, 0, 0], [], [], [], [32], [], [34], [], [0]])) (σ' := tsj 0) rfl rfl rfl rfl (rl_z (m := 1) rfl rfl) (tsj_z (by decide)) ?_
  refine tn_dupr (pc := 92) hΓ d_X5_init_92 ?_
  refine tn_ci (As := []) (st := [.ref 35, .int (2 : Int32), .ref 27]) (x := 35) (y := m_X2_init) (pc := 93) hΓ d_X5_init_93 mv_X2_init im_X2_init rfl rfl ml_5_50 ⟨⟨by decide, by decide⟩, by decide, by decide⟩ rfl (by decide) (Nat.le_of_ble_eq_true rfl) (c_X2_init_35 (K := fun v ks' ρ' σ' => v = none ∧ ks' = [(5, 0), (1, 0), (8, 5), (9, 4), (0, 0), (0, 0), (0, 0), (0, 0), (0, 0), (3, 0), (3, 0), (3, 0), (3, 0), (1, 0), (8, 5), (9, 4), (0, 0), (0, 0), (0, 0), (0, 0), (0, 0), (3, 0), (3, 0), (3, 0), (3, 0), (10, 4), (7, 8), (7, 8), (7, 4), (2, 0), (7, 60), (2, 0), (7, 60), (2, 0), (7, 60)] ∧ ρ' = (tn_rL [[], [], [3, 15, 27, 28, 29, 30], [4, 5], [6, 7, 8, 9, 10], [11, 12, 13, 14], [], [], [], [], [], [], [], [], [], [16, 17], [18, 19, 20, 21, 22], [23, 24, 25, 26], [], [], [], [], [], [], [], [], [], [31, 33, 0, 0], [], [], [], [32], [], [34], [], [36], []]) ∧ σ' = tsj 0) ⟨rfl, rfl, rfl, rfl⟩) (fun v ks' ρ' σ' hh => ?_)
  obtain ⟨rfl, rfl, rfl, rfl⟩ := hh
  refine tn_cvt (st' := [.ref 35, .int (2 : Int32), .ref 27]) (ca' := 34) (sl' := 312) (ks' := [(5, 0), (1, 0), (8, 5), (9, 4), (0, 0), (0, 0), (0, 0), (0, 0), (0, 0), (3, 0), (3, 0), (3, 0), (3, 0), (1, 0), (8, 5), (9, 4), (0, 0), (0, 0), (0, 0), (0, 0), (0, 0), (3, 0), (3, 0), (3, 0), (3, 0), (10, 4), (7, 8), (7, 8), (7, 4), (2, 0), (7, 60), (2, 0), (7, 60), (2, 0), (7, 60)]) (ρ' := (tn_rL [[], [], [3, 15, 27, 28, 29, 30], [4, 5], [6, 7, 8, 9, 10], [11, 12, 13, 14], [], [], [], [], [], [], [], [], [], [16, 17], [18, 19, 20, 21, 22], [23, 24, 25, 26], [], [], [], [], [], [], [], [], [], [31, 33, 0, 0], [], [], [], [32], [], [34], [], [36], []])) (σ' := tsj 0) rfl rfl rfl rfl rfl rfl ?_
  refine tn_aast (t := 2) (n := 4) (i0 := 2) (n0' := 0) (pc := 96) hΓ d_X5_init_96 (by decide) rfl (by unfold vp_in; decide) rfl ?_
  refine tn_cvt (st' := []) (ca' := 34) (sl' := 312) (ks' := [(5, 0), (1, 0), (8, 5), (9, 4), (0, 0), (0, 0), (0, 0), (0, 0), (0, 0), (3, 0), (3, 0), (3, 0), (3, 0), (1, 0), (8, 5), (9, 4), (0, 0), (0, 0), (0, 0), (0, 0), (0, 0), (3, 0), (3, 0), (3, 0), (3, 0), (10, 4), (7, 8), (7, 8), (7, 4), (2, 0), (7, 60), (2, 0), (7, 60), (2, 0), (7, 60)]) (ρ' := (tn_rL [[], [], [3, 15, 27, 28, 29, 30], [4, 5], [6, 7, 8, 9, 10], [11, 12, 13, 14], [], [], [], [], [], [], [], [], [], [16, 17], [18, 19, 20, 21, 22], [23, 24, 25, 26], [], [], [], [], [], [], [], [], [], [31, 33, 35, 0], [], [], [], [32], [], [34], [], [36], []])) (σ' := tsj 0) rfl rfl rfl rfl (rl_u (k0 := 2) (by decide) (by decide) rfl) rfl ?_
  refine tn_iincw (loc' := fun v_ => [.ref 2, .int v_]) (pc := 97) hΓ d_X5_init_97 rfl ic_1 (by decide) rfl (fun _ => rfl) (fun v ev => ?_)
  rw [show (2 : Int32) + 1 = (3 : Int32) by decide] at ev
  subst ev
  refine tn_goto (tgt := 79) (pc := 100) hΓ d_X5_init_100 (by decide) ?_
  refine tn_iload_n (pc := 79) hΓ d_X5_init_79 rfl ?_
  refine tn_iconst (pc := 80) hΓ d_X5_init_80 ic_4 ?_
  refine tn_icmp_ge (tgt := 103) (pc := 81) hΓ d_X5_init_81 (by decide) (fun hq => absurd hq (by decide)) (fun _ => ?_)
  refine tn_aload_n (pc := 84) hΓ d_X5_init_84 rfl ?_
  refine tn_getRy (y := 27) (pc := 85) hΓ d_X5_init_85 fl_5_23 rfl rfl rfl ?_
  refine tn_iload_n (pc := 88) hΓ d_X5_init_88 rfl ?_
  refine tn_new (pc := 89) hΓ (i := 2) (T := tn_T2) tn_ty2 d_X5_init_89 (by decide) rfl tn_us2 tn_tk2 (tn_wi 186 (by decide +kernel)) (tn_wi 188 (by decide +kernel)) (tn_wi 87 (by decide +kernel)) df_2 (by decide) (by decide) ?_
  refine tn_cvt (st' := [.ref 37, .int (3 : Int32), .ref 27]) (ca' := 35) (sl' := 316) (ks' := [(5, 0), (1, 0), (8, 5), (9, 4), (0, 0), (0, 0), (0, 0), (0, 0), (0, 0), (3, 0), (3, 0), (3, 0), (3, 0), (1, 0), (8, 5), (9, 4), (0, 0), (0, 0), (0, 0), (0, 0), (0, 0), (3, 0), (3, 0), (3, 0), (3, 0), (10, 4), (7, 8), (7, 8), (7, 4), (2, 0), (7, 60), (2, 0), (7, 60), (2, 0), (7, 60), (2, 0)]) (ρ' := (tn_rL [[], [], [3, 15, 27, 28, 29, 30], [4, 5], [6, 7, 8, 9, 10], [11, 12, 13, 14], [], [], [], [], [], [], [], [], [], [16, 17], [18, 19, 20, 21, 22], [23, 24, 25, 26], [], [], [], [], [], [], [], [], [], [31, 33, 35, 0], [], [], [], [32], [], [34], [], [36], [], [0]])) (σ' := tsj 0) rfl rfl rfl rfl (rl_z (m := 1) rfl rfl) (tsj_z (by decide)) ?_
  refine tn_dupr (pc := 92) hΓ d_X5_init_92 ?_
  refine tn_ci (As := []) (st := [.ref 37, .int (3 : Int32), .ref 27]) (x := 37) (y := m_X2_init) (pc := 93) hΓ d_X5_init_93 mv_X2_init im_X2_init rfl rfl ml_5_50 ⟨⟨by decide, by decide⟩, by decide, by decide⟩ rfl (by decide) (Nat.le_of_ble_eq_true rfl) (c_X2_init_37 (K := fun v ks' ρ' σ' => v = none ∧ ks' = [(5, 0), (1, 0), (8, 5), (9, 4), (0, 0), (0, 0), (0, 0), (0, 0), (0, 0), (3, 0), (3, 0), (3, 0), (3, 0), (1, 0), (8, 5), (9, 4), (0, 0), (0, 0), (0, 0), (0, 0), (0, 0), (3, 0), (3, 0), (3, 0), (3, 0), (10, 4), (7, 8), (7, 8), (7, 4), (2, 0), (7, 60), (2, 0), (7, 60), (2, 0), (7, 60), (2, 0), (7, 60)] ∧ ρ' = (tn_rL [[], [], [3, 15, 27, 28, 29, 30], [4, 5], [6, 7, 8, 9, 10], [11, 12, 13, 14], [], [], [], [], [], [], [], [], [], [16, 17], [18, 19, 20, 21, 22], [23, 24, 25, 26], [], [], [], [], [], [], [], [], [], [31, 33, 35, 0], [], [], [], [32], [], [34], [], [36], [], [38], []]) ∧ σ' = tsj 0) ⟨rfl, rfl, rfl, rfl⟩) (fun v ks' ρ' σ' hh => ?_)
  obtain ⟨rfl, rfl, rfl, rfl⟩ := hh
  refine tn_cvt (st' := [.ref 37, .int (3 : Int32), .ref 27]) (ca' := 36) (sl' := 376) (ks' := [(5, 0), (1, 0), (8, 5), (9, 4), (0, 0), (0, 0), (0, 0), (0, 0), (0, 0), (3, 0), (3, 0), (3, 0), (3, 0), (1, 0), (8, 5), (9, 4), (0, 0), (0, 0), (0, 0), (0, 0), (0, 0), (3, 0), (3, 0), (3, 0), (3, 0), (10, 4), (7, 8), (7, 8), (7, 4), (2, 0), (7, 60), (2, 0), (7, 60), (2, 0), (7, 60), (2, 0), (7, 60)]) (ρ' := (tn_rL [[], [], [3, 15, 27, 28, 29, 30], [4, 5], [6, 7, 8, 9, 10], [11, 12, 13, 14], [], [], [], [], [], [], [], [], [], [16, 17], [18, 19, 20, 21, 22], [23, 24, 25, 26], [], [], [], [], [], [], [], [], [], [31, 33, 35, 0], [], [], [], [32], [], [34], [], [36], [], [38], []])) (σ' := tsj 0) rfl rfl rfl rfl rfl rfl ?_
  refine tn_aast (t := 2) (n := 4) (i0 := 2) (n0' := 0) (pc := 96) hΓ d_X5_init_96 (by decide) rfl (by unfold vp_in; decide) rfl ?_
  refine tn_cvt (st' := []) (ca' := 36) (sl' := 376) (ks' := [(5, 0), (1, 0), (8, 5), (9, 4), (0, 0), (0, 0), (0, 0), (0, 0), (0, 0), (3, 0), (3, 0), (3, 0), (3, 0), (1, 0), (8, 5), (9, 4), (0, 0), (0, 0), (0, 0), (0, 0), (0, 0), (3, 0), (3, 0), (3, 0), (3, 0), (10, 4), (7, 8), (7, 8), (7, 4), (2, 0), (7, 60), (2, 0), (7, 60), (2, 0), (7, 60), (2, 0), (7, 60)]) (ρ' := (tn_rL [[], [], [3, 15, 27, 28, 29, 30], [4, 5], [6, 7, 8, 9, 10], [11, 12, 13, 14], [], [], [], [], [], [], [], [], [], [16, 17], [18, 19, 20, 21, 22], [23, 24, 25, 26], [], [], [], [], [], [], [], [], [], [31, 33, 35, 37], [], [], [], [32], [], [34], [], [36], [], [38], []])) (σ' := tsj 0) rfl rfl rfl rfl (rl_u (k0 := 3) (by decide) (by decide) rfl) rfl ?_
  refine tn_iincw (loc' := fun v_ => [.ref 2, .int v_]) (pc := 97) hΓ d_X5_init_97 rfl ic_1 (by decide) rfl (fun _ => rfl) (fun v ev => ?_)
  rw [show (3 : Int32) + 1 = (4 : Int32) by decide] at ev
  subst ev
  refine tn_goto (tgt := 79) (pc := 100) hΓ d_X5_init_100 (by decide) ?_
  refine tn_iload_n (pc := 79) hΓ d_X5_init_79 rfl ?_
  refine tn_iconst (pc := 80) hΓ d_X5_init_80 ic_4 ?_
  refine tn_icmp_ge (tgt := 103) (pc := 81) hΓ d_X5_init_81 (by decide) (fun _ => ?_) (fun hq => absurd (by decide) hq)
  exact tn_ret_v (pc := 103) hΓ hK d_X5_init_103 rfl (by decide) (by decide) h
theorem c6_init {K : Option Value → List (Nat × Nat) → (Nat → Nat → Nat) → (Nat → Nat → Int32) → Prop} (h : K none [(5, 0), (1, 0), (8, 5), (9, 4), (0, 0), (0, 0), (0, 0), (0, 0), (0, 0), (3, 0), (3, 0), (3, 0), (3, 0), (1, 0), (8, 5), (9, 4), (0, 0), (0, 0), (0, 0), (0, 0), (0, 0), (3, 0), (3, 0), (3, 0), (3, 0), (10, 4), (7, 8), (7, 8), (7, 4), (2, 0), (7, 60), (2, 0), (7, 60), (2, 0), (7, 60), (2, 0), (7, 60), (6, 0), (7, 4), (7, 4), (7, 240), (7, 5), (7, 5), (7, 5), (7, 5), (7, 4), (7, 15), (7, 4), (7, 30), (7, 8), (7, 8), (7, 8)] (tn_rL [[], [], [3, 15, 27, 28, 29, 30], [4, 5], [6, 7, 8, 9, 10], [11, 12, 13, 14], [], [], [], [], [], [], [], [], [], [16, 17], [18, 19, 20, 21, 22], [23, 24, 25, 26], [], [], [], [], [], [], [], [], [], [31, 33, 35, 37], [], [], [], [32], [], [34], [], [36], [], [38], [], [0, 0, 40, 41, 42, 0, 0, 0, 0, 0, 0, 0, 0, 43, 44, 45, 46, 47, 0, 0, 0, 0, 48, 49, 50, 51, 0, 52, 53], [], [], [], [], [], [], [], [], [], [], [], [], [], []]) (tsj 4)) : tn_Call m_X6_init [.ref 39] [(5, 0), (1, 0), (8, 5), (9, 4), (0, 0), (0, 0), (0, 0), (0, 0), (0, 0), (3, 0), (3, 0), (3, 0), (3, 0), (1, 0), (8, 5), (9, 4), (0, 0), (0, 0), (0, 0), (0, 0), (0, 0), (3, 0), (3, 0), (3, 0), (3, 0), (10, 4), (7, 8), (7, 8), (7, 4), (2, 0), (7, 60), (2, 0), (7, 60), (2, 0), (7, 60), (2, 0), (7, 60), (6, 0)] (tn_rL [[], [], [3, 15, 27, 28, 29, 30], [4, 5], [6, 7, 8, 9, 10], [11, 12, 13, 14], [], [], [], [], [], [], [], [], [], [16, 17], [18, 19, 20, 21, 22], [23, 24, 25, 26], [], [], [], [], [], [], [], [], [], [31, 33, 35, 37], [], [], [], [32], [], [34], [], [36], [], [38], [], [0, 0, 0, 0, 0, 0, 0, 0, 0, 0, 0, 0, 0, 0, 0, 0, 0, 0, 0, 0, 0, 0, 0, 0, 0, 0, 0, 0, 0]]) (tsj 0) K := by
  refine tn_intro (by decide) (Nat.le_of_ble_eq_true rfl) (fun Γ hΓ hK => ?_)
  refine tn_aload_n (pc := 0) hΓ d_X6_init_0 rfl ?_
  refine tn_objInit (pc := 1) hΓ d_X6_init_1 (tn_wi 650 (by decide +kernel)) (tn_wi 99 (by decide +kernel)) (tn_wi 100 (by decide +kernel)) (by decide) (by decide) (by decide) ?_
  refine tn_aload_n (pc := 4) hΓ d_X6_init_4 rfl ?_
  refine tn_iconst (pc := 5) hΓ d_X6_init_5 ic_4 ?_
  refine tn_newa (N := 4) (pc := 6) hΓ d_X6_init_6 (tn_wi 209 (by decide +kernel)) (by decide) (by decide) (by decide) (by decide) (by decide) ?_
  refine tn_cvt (st' := [.ref 40, .ref 39]) (ca' := 1) (sl' := 4) (ks' := [(5, 0), (1, 0), (8, 5), (9, 4), (0, 0), (0, 0), (0, 0), (0, 0), (0, 0), (3, 0), (3, 0), (3, 0), (3, 0), (1, 0), (8, 5), (9, 4), (0, 0), (0, 0), (0, 0), (0, 0), (0, 0), (3, 0), (3, 0), (3, 0), (3, 0), (10, 4), (7, 8), (7, 8), (7, 4), (2, 0), (7, 60), (2, 0), (7, 60), (2, 0), (7, 60), (2, 0), (7, 60), (6, 0), (7, 4)]) (ρ' := (tn_rL [[], [], [3, 15, 27, 28, 29, 30], [4, 5], [6, 7, 8, 9, 10], [11, 12, 13, 14], [], [], [], [], [], [], [], [], [], [16, 17], [18, 19, 20, 21, 22], [23, 24, 25, 26], [], [], [], [], [], [], [], [], [], [31, 33, 35, 37], [], [], [], [32], [], [34], [], [36], [], [38], [], [0, 0, 0, 0, 0, 0, 0, 0, 0, 0, 0, 0, 0, 0, 0, 0, 0, 0, 0, 0, 0, 0, 0, 0, 0, 0, 0, 0, 0], []])) (σ' := tsj 0) rfl rfl rfl rfl (rl_z (m := 0) rfl rfl) (tsj_z (by decide)) ?_
  refine tn_dupr (pc := 8) hΓ d_X6_init_8 ?_
  refine tn_iconst (pc := 9) hΓ d_X6_init_9 ic_0 ?_
  refine tn_bipush (pc := 10) hΓ d_X6_init_10 bp_m9 ?_
  refine tn_ast (n := 4) (pc := 12) hΓ d_X6_init_12 rfl (by unfold vp_in; decide) ?_
  refine tn_cvt (st' := [.ref 40, .ref 39]) (ca' := 1) (sl' := 4) (ks' := [(5, 0), (1, 0), (8, 5), (9, 4), (0, 0), (0, 0), (0, 0), (0, 0), (0, 0), (3, 0), (3, 0), (3, 0), (3, 0), (1, 0), (8, 5), (9, 4), (0, 0), (0, 0), (0, 0), (0, 0), (0, 0), (3, 0), (3, 0), (3, 0), (3, 0), (10, 4), (7, 8), (7, 8), (7, 4), (2, 0), (7, 60), (2, 0), (7, 60), (2, 0), (7, 60), (2, 0), (7, 60), (6, 0), (7, 4)]) (ρ' := (tn_rL [[], [], [3, 15, 27, 28, 29, 30], [4, 5], [6, 7, 8, 9, 10], [11, 12, 13, 14], [], [], [], [], [], [], [], [], [], [16, 17], [18, 19, 20, 21, 22], [23, 24, 25, 26], [], [], [], [], [], [], [], [], [], [31, 33, 35, 37], [], [], [], [32], [], [34], [], [36], [], [38], [], [0, 0, 0, 0, 0, 0, 0, 0, 0, 0, 0, 0, 0, 0, 0, 0, 0, 0, 0, 0, 0, 0, 0, 0, 0, 0, 0, 0, 0], []])) (σ' := tsj 1) rfl rfl rfl rfl rfl (tsj_u (by decide)) ?_
  refine tn_dupr (pc := 13) hΓ d_X6_init_13 ?_
  refine tn_iconst (pc := 14) hΓ d_X6_init_14 ic_1 ?_
  refine tn_bipush (pc := 15) hΓ d_X6_init_15 bp_m9 ?_
  refine tn_ast (n := 4) (pc := 17) hΓ d_X6_init_17 rfl (by unfold vp_in; decide) ?_
  refine tn_cvt (st' := [.ref 40, .ref 39]) (ca' := 1) (sl' := 4) (ks' := [(5, 0), (1, 0), (8, 5), (9, 4), (0, 0), (0, 0), (0, 0), (0, 0), (0, 0), (3, 0), (3, 0), (3, 0), (3, 0), (1, 0), (8, 5), (9, 4), (0, 0), (0, 0), (0, 0), (0, 0), (0, 0), (3, 0), (3, 0), (3, 0), (3, 0), (10, 4), (7, 8), (7, 8), (7, 4), (2, 0), (7, 60), (2, 0), (7, 60), (2, 0), (7, 60), (2, 0), (7, 60), (6, 0), (7, 4)]) (ρ' := (tn_rL [[], [], [3, 15, 27, 28, 29, 30], [4, 5], [6, 7, 8, 9, 10], [11, 12, 13, 14], [], [], [], [], [], [], [], [], [], [16, 17], [18, 19, 20, 21, 22], [23, 24, 25, 26], [], [], [], [], [], [], [], [], [], [31, 33, 35, 37], [], [], [], [32], [], [34], [], [36], [], [38], [], [0, 0, 0, 0, 0, 0, 0, 0, 0, 0, 0, 0, 0, 0, 0, 0, 0, 0, 0, 0, 0, 0, 0, 0, 0, 0, 0, 0, 0], []])) (σ' := tsj 2) rfl rfl rfl rfl rfl (tsj_u (by decide)) ?_
  refine tn_dupr (pc := 18) hΓ d_X6_init_18 ?_
  refine tn_iconst (pc := 19) hΓ d_X6_init_19 ic_2 ?_
  refine tn_bipush (pc := 20) hΓ d_X6_init_20 bp_m9 ?_
  refine tn_ast (n := 4) (pc := 22) hΓ d_X6_init_22 rfl (by unfold vp_in; decide) ?_
  refine tn_cvt (st' := [.ref 40, .ref 39]) (ca' := 1) (sl' := 4) (ks' := [(5, 0), (1, 0), (8, 5), (9, 4), (0, 0), (0, 0), (0, 0), (0, 0), (0, 0), (3, 0), (3, 0), (3, 0), (3, 0), (1, 0), (8, 5), (9, 4), (0, 0), (0, 0), (0, 0), (0, 0), (0, 0), (3, 0), (3, 0), (3, 0), (3, 0), (10, 4), (7, 8), (7, 8), (7, 4), (2, 0), (7, 60), (2, 0), (7, 60), (2, 0), (7, 60), (2, 0), (7, 60), (6, 0), (7, 4)]) (ρ' := (tn_rL [[], [], [3, 15, 27, 28, 29, 30], [4, 5], [6, 7, 8, 9, 10], [11, 12, 13, 14], [], [], [], [], [], [], [], [], [], [16, 17], [18, 19, 20, 21, 22], [23, 24, 25, 26], [], [], [], [], [], [], [], [], [], [31, 33, 35, 37], [], [], [], [32], [], [34], [], [36], [], [38], [], [0, 0, 0, 0, 0, 0, 0, 0, 0, 0, 0, 0, 0, 0, 0, 0, 0, 0, 0, 0, 0, 0, 0, 0, 0, 0, 0, 0, 0], []])) (σ' := tsj 3) rfl rfl rfl rfl rfl (tsj_u (by decide)) ?_
  refine tn_dupr (pc := 23) hΓ d_X6_init_23 ?_
  refine tn_iconst (pc := 24) hΓ d_X6_init_24 ic_3 ?_
  refine tn_bipush (pc := 25) hΓ d_X6_init_25 bp_m9 ?_
  refine tn_ast (n := 4) (pc := 27) hΓ d_X6_init_27 rfl (by unfold vp_in; decide) ?_
  refine tn_cvt (st' := [.ref 40, .ref 39]) (ca' := 1) (sl' := 4) (ks' := [(5, 0), (1, 0), (8, 5), (9, 4), (0, 0), (0, 0), (0, 0), (0, 0), (0, 0), (3, 0), (3, 0), (3, 0), (3, 0), (1, 0), (8, 5), (9, 4), (0, 0), (0, 0), (0, 0), (0, 0), (0, 0), (3, 0), (3, 0), (3, 0), (3, 0), (10, 4), (7, 8), (7, 8), (7, 4), (2, 0), (7, 60), (2, 0), (7, 60), (2, 0), (7, 60), (2, 0), (7, 60), (6, 0), (7, 4)]) (ρ' := (tn_rL [[], [], [3, 15, 27, 28, 29, 30], [4, 5], [6, 7, 8, 9, 10], [11, 12, 13, 14], [], [], [], [], [], [], [], [], [], [16, 17], [18, 19, 20, 21, 22], [23, 24, 25, 26], [], [], [], [], [], [], [], [], [], [31, 33, 35, 37], [], [], [], [32], [], [34], [], [36], [], [38], [], [0, 0, 0, 0, 0, 0, 0, 0, 0, 0, 0, 0, 0, 0, 0, 0, 0, 0, 0, 0, 0, 0, 0, 0, 0, 0, 0, 0, 0], []])) (σ' := tsj 4) rfl rfl rfl rfl rfl (tsj_u (by decide)) ?_
  refine tn_putR (pc := 28) hΓ d_X6_init_28 fl_6_9 fk_6_6_2 rfl rfl fo_6_9 rfl ?_
  refine tn_cvt (st' := []) (ca' := 1) (sl' := 4) (ks' := [(5, 0), (1, 0), (8, 5), (9, 4), (0, 0), (0, 0), (0, 0), (0, 0), (0, 0), (3, 0), (3, 0), (3, 0), (3, 0), (1, 0), (8, 5), (9, 4), (0, 0), (0, 0), (0, 0), (0, 0), (0, 0), (3, 0), (3, 0), (3, 0), (3, 0), (10, 4), (7, 8), (7, 8), (7, 4), (2, 0), (7, 60), (2, 0), (7, 60), (2, 0), (7, 60), (2, 0), (7, 60), (6, 0), (7, 4)]) (ρ' := (tn_rL [[], [], [3, 15, 27, 28, 29, 30], [4, 5], [6, 7, 8, 9, 10], [11, 12, 13, 14], [], [], [], [], [], [], [], [], [], [16, 17], [18, 19, 20, 21, 22], [23, 24, 25, 26], [], [], [], [], [], [], [], [], [], [31, 33, 35, 37], [], [], [], [32], [], [34], [], [36], [], [38], [], [0, 0, 40, 0, 0, 0, 0, 0, 0, 0, 0, 0, 0, 0, 0, 0, 0, 0, 0, 0, 0, 0, 0, 0, 0, 0, 0, 0, 0], []])) (σ' := tsj 4) rfl rfl rfl rfl (rl_u (k0 := 2) rfl (by decide) rfl) rfl ?_
  refine tn_aload_n (pc := 31) hΓ d_X6_init_31 rfl ?_
  refine tn_iconst (pc := 32) hΓ d_X6_init_32 ic_4 ?_
  refine tn_newa (N := 4) (pc := 33) hΓ d_X6_init_33 (tn_wi 209 (by decide +kernel)) (by decide) (by decide) (by decide) (by decide) (by decide) ?_
  refine tn_cvt (st' := [.ref 41, .ref 39]) (ca' := 2) (sl' := 8) (ks' := [(5, 0), (1, 0), (8, 5), (9, 4), (0, 0), (0, 0), (0, 0), (0, 0), (0, 0), (3, 0), (3, 0), (3, 0), (3, 0), (1, 0), (8, 5), (9, 4), (0, 0), (0, 0), (0, 0), (0, 0), (0, 0), (3, 0), (3, 0), (3, 0), (3, 0), (10, 4), (7, 8), (7, 8), (7, 4), (2, 0), (7, 60), (2, 0), (7, 60), (2, 0), (7, 60), (2, 0), (7, 60), (6, 0), (7, 4), (7, 4)]) (ρ' := (tn_rL [[], [], [3, 15, 27, 28, 29, 30], [4, 5], [6, 7, 8, 9, 10], [11, 12, 13, 14], [], [], [], [], [], [], [], [], [], [16, 17], [18, 19, 20, 21, 22], [23, 24, 25, 26], [], [], [], [], [], [], [], [], [], [31, 33, 35, 37], [], [], [], [32], [], [34], [], [36], [], [38], [], [0, 0, 40, 0, 0, 0, 0, 0, 0, 0, 0, 0, 0, 0, 0, 0, 0, 0, 0, 0, 0, 0, 0, 0, 0, 0, 0, 0, 0], [], []])) (σ' := tsj 4) rfl rfl rfl rfl (rl_z (m := 0) rfl rfl) (tsj_z (by decide)) ?_
  refine tn_putR (pc := 35) hΓ d_X6_init_35 fl_6_13 fk_6_6_3 rfl rfl fo_6_13 rfl ?_
  refine tn_cvt (st' := []) (ca' := 2) (sl' := 8) (ks' := [(5, 0), (1, 0), (8, 5), (9, 4), (0, 0), (0, 0), (0, 0), (0, 0), (0, 0), (3, 0), (3, 0), (3, 0), (3, 0), (1, 0), (8, 5), (9, 4), (0, 0), (0, 0), (0, 0), (0, 0), (0, 0), (3, 0), (3, 0), (3, 0), (3, 0), (10, 4), (7, 8), (7, 8), (7, 4), (2, 0), (7, 60), (2, 0), (7, 60), (2, 0), (7, 60), (2, 0), (7, 60), (6, 0), (7, 4), (7, 4)]) (ρ' := (tn_rL [[], [], [3, 15, 27, 28, 29, 30], [4, 5], [6, 7, 8, 9, 10], [11, 12, 13, 14], [], [], [], [], [], [], [], [], [], [16, 17], [18, 19, 20, 21, 22], [23, 24, 25, 26], [], [], [], [], [], [], [], [], [], [31, 33, 35, 37], [], [], [], [32], [], [34], [], [36], [], [38], [], [0, 0, 40, 41, 0, 0, 0, 0, 0, 0, 0, 0, 0, 0, 0, 0, 0, 0, 0, 0, 0, 0, 0, 0, 0, 0, 0, 0, 0], [], []])) (σ' := tsj 4) rfl rfl rfl rfl (rl_u (k0 := 3) rfl (by decide) rfl) rfl ?_
  refine tn_aload_n (pc := 38) hΓ d_X6_init_38 rfl ?_
  refine tn_sipush (pc := 39) hΓ d_X6_init_39 sp_240 ?_
  refine tn_newa (N := 240) (pc := 42) hΓ d_X6_init_42 (tn_wi 209 (by decide +kernel)) (by decide) (by decide) (by decide) (by decide) (by decide) ?_
  refine tn_cvt (st' := [.ref 42, .ref 39]) (ca' := 3) (sl' := 248) (ks' := [(5, 0), (1, 0), (8, 5), (9, 4), (0, 0), (0, 0), (0, 0), (0, 0), (0, 0), (3, 0), (3, 0), (3, 0), (3, 0), (1, 0), (8, 5), (9, 4), (0, 0), (0, 0), (0, 0), (0, 0), (0, 0), (3, 0), (3, 0), (3, 0), (3, 0), (10, 4), (7, 8), (7, 8), (7, 4), (2, 0), (7, 60), (2, 0), (7, 60), (2, 0), (7, 60), (2, 0), (7, 60), (6, 0), (7, 4), (7, 4), (7, 240)]) (ρ' := (tn_rL [[], [], [3, 15, 27, 28, 29, 30], [4, 5], [6, 7, 8, 9, 10], [11, 12, 13, 14], [], [], [], [], [], [], [], [], [], [16, 17], [18, 19, 20, 21, 22], [23, 24, 25, 26], [], [], [], [], [], [], [], [], [], [31, 33, 35, 37], [], [], [], [32], [], [34], [], [36], [], [38], [], [0, 0, 40, 41, 0, 0, 0, 0, 0, 0, 0, 0, 0, 0, 0, 0, 0, 0, 0, 0, 0, 0, 0, 0, 0, 0, 0, 0, 0], [], [], []])) (σ' := tsj 4) rfl rfl rfl rfl (rl_z (m := 0) rfl rfl) (tsj_z (by decide)) ?_
  refine tn_putR (pc := 44) hΓ d_X6_init_44 fl_6_16 fk_6_6_4 rfl rfl fo_6_16 rfl ?_
  refine tn_cvt (st' := []) (ca' := 3) (sl' := 248) (ks' := [(5, 0), (1, 0), (8, 5), (9, 4), (0, 0), (0, 0), (0, 0), (0, 0), (0, 0), (3, 0), (3, 0), (3, 0), (3, 0), (1, 0), (8, 5), (9, 4), (0, 0), (0, 0), (0, 0), (0, 0), (0, 0), (3, 0), (3, 0), (3, 0), (3, 0), (10, 4), (7, 8), (7, 8), (7, 4), (2, 0), (7, 60), (2, 0), (7, 60), (2, 0), (7, 60), (2, 0), (7, 60), (6, 0), (7, 4), (7, 4), (7, 240)]) (ρ' := (tn_rL [[], [], [3, 15, 27, 28, 29, 30], [4, 5], [6, 7, 8, 9, 10], [11, 12, 13, 14], [], [], [], [], [], [], [], [], [], [16, 17], [18, 19, 20, 21, 22], [23, 24, 25, 26], [], [], [], [], [], [], [], [], [], [31, 33, 35, 37], [], [], [], [32], [], [34], [], [36], [], [38], [], [0, 0, 40, 41, 42, 0, 0, 0, 0, 0, 0, 0, 0, 0, 0, 0, 0, 0, 0, 0, 0, 0, 0, 0, 0, 0, 0, 0, 0], [], [], []])) (σ' := tsj 4) rfl rfl rfl rfl (rl_u (k0 := 4) rfl (by decide) rfl) rfl ?_
  refine tn_aload_n (pc := 47) hΓ d_X6_init_47 rfl ?_
  refine tn_iconst (pc := 48) hΓ d_X6_init_48 ic_5 ?_
  refine tn_newa (N := 5) (pc := 49) hΓ d_X6_init_49 (tn_wi 209 (by decide +kernel)) (by decide) (by decide) (by decide) (by decide) (by decide) ?_
  refine tn_cvt (st' := [.ref 43, .ref 39]) (ca' := 4) (sl' := 253) (ks' := [(5, 0), (1, 0), (8, 5), (9, 4), (0, 0), (0, 0), (0, 0), (0, 0), (0, 0), (3, 0), (3, 0), (3, 0), (3, 0), (1, 0), (8, 5), (9, 4), (0, 0), (0, 0), (0, 0), (0, 0), (0, 0), (3, 0), (3, 0), (3, 0), (3, 0), (10, 4), (7, 8), (7, 8), (7, 4), (2, 0), (7, 60), (2, 0), (7, 60), (2, 0), (7, 60), (2, 0), (7, 60), (6, 0), (7, 4), (7, 4), (7, 240), (7, 5)]) (ρ' := (tn_rL [[], [], [3, 15, 27, 28, 29, 30], [4, 5], [6, 7, 8, 9, 10], [11, 12, 13, 14], [], [], [], [], [], [], [], [], [], [16, 17], [18, 19, 20, 21, 22], [23, 24, 25, 26], [], [], [], [], [], [], [], [], [], [31, 33, 35, 37], [], [], [], [32], [], [34], [], [36], [], [38], [], [0, 0, 40, 41, 42, 0, 0, 0, 0, 0, 0, 0, 0, 0, 0, 0, 0, 0, 0, 0, 0, 0, 0, 0, 0, 0, 0, 0, 0], [], [], [], []])) (σ' := tsj 4) rfl rfl rfl rfl (rl_z (m := 0) rfl rfl) (tsj_z (by decide)) ?_
  refine tn_putR (pc := 51) hΓ d_X6_init_51 fl_6_19 fk_6_6_13 rfl rfl fo_6_19 rfl ?_
  refine tn_cvt (st' := []) (ca' := 4) (sl' := 253) (ks' := [(5, 0), (1, 0), (8, 5), (9, 4), (0, 0), (0, 0), (0, 0), (0, 0), (0, 0), (3, 0), (3, 0), (3, 0), (3, 0), (1, 0), (8, 5), (9, 4), (0, 0), (0, 0), (0, 0), (0, 0), (0, 0), (3, 0), (3, 0), (3, 0), (3, 0), (10, 4), (7, 8), (7, 8), (7, 4), (2, 0), (7, 60), (2, 0), (7, 60), (2, 0), (7, 60), (2, 0), (7, 60), (6, 0), (7, 4), (7, 4), (7, 240), (7, 5)]) (ρ' := (tn_rL [[], [], [3, 15, 27, 28, 29, 30], [4, 5], [6, 7, 8, 9, 10], [11, 12, 13, 14], [], [], [], [], [], [], [], [], [], [16, 17], [18, 19, 20, 21, 22], [23, 24, 25, 26], [], [], [], [], [], [], [], [], [], [31, 33, 35, 37], [], [], [], [32], [], [34], [], [36], [], [38], [], [0, 0, 40, 41, 42, 0, 0, 0, 0, 0, 0, 0, 0, 43, 0, 0, 0, 0, 0, 0, 0, 0, 0, 0, 0, 0, 0, 0, 0], [], [], [], []])) (σ' := tsj 4) rfl rfl rfl rfl (rl_u (k0 := 13) rfl (by decide) rfl) rfl ?_
  refine tn_aload_n (pc := 54) hΓ d_X6_init_54 rfl ?_
  refine tn_iconst (pc := 55) hΓ d_X6_init_55 ic_5 ?_
  refine tn_newa (N := 5) (pc := 56) hΓ d_X6_init_56 (tn_wi 209 (by decide +kernel)) (by decide) (by decide) (by decide) (by decide) (by decide) ?_
  refine tn_cvt (st' := [.ref 44, .ref 39]) (ca' := 5) (sl' := 258) (ks' := [(5, 0), (1, 0), (8, 5), (9, 4), (0, 0), (0, 0), (0, 0), (0, 0), (0, 0), (3, 0), (3, 0), (3, 0), (3, 0), (1, 0), (8, 5), (9, 4), (0, 0), (0, 0), (0, 0), (0, 0), (0, 0), (3, 0), (3, 0), (3, 0), (3, 0), (10, 4), (7, 8), (7, 8), (7, 4), (2, 0), (7, 60), (2, 0), (7, 60), (2, 0), (7, 60), (2, 0), (7, 60), (6, 0), (7, 4), (7, 4), (7, 240), (7, 5), (7, 5)]) (ρ' := (tn_rL [[], [], [3, 15, 27, 28, 29, 30], [4, 5], [6, 7, 8, 9, 10], [11, 12, 13, 14], [], [], [], [], [], [], [], [], [], [16, 17], [18, 19, 20, 21, 22], [23, 24, 25, 26], [], [], [], [], [], [], [], [], [], [31, 33, 35, 37], [], [], [], [32], [], [34], [], [36], [], [38], [], [0, 0, 40, 41, 42, 0, 0, 0, 0, 0, 0, 0, 0, 43, 0, 0, 0, 0, 0, 0, 0, 0, 0, 0, 0, 0, 0, 0, 0], [], [], [], [], []])) (σ' := tsj 4) rfl rfl rfl rfl (rl_z (m := 0) rfl rfl) (tsj_z (by decide)) ?_
  refine tn_putR (pc := 58) hΓ d_X6_init_58 fl_6_22 fk_6_6_14 rfl rfl fo_6_22 rfl ?_
  refine tn_cvt (st' := []) (ca' := 5) (sl' := 258) (ks' := [(5, 0), (1, 0), (8, 5), (9, 4), (0, 0), (0, 0), (0, 0), (0, 0), (0, 0), (3, 0), (3, 0), (3, 0), (3, 0), (1, 0), (8, 5), (9, 4), (0, 0), (0, 0), (0, 0), (0, 0), (0, 0), (3, 0), (3, 0), (3, 0), (3, 0), (10, 4), (7, 8), (7, 8), (7, 4), (2, 0), (7, 60), (2, 0), (7, 60), (2, 0), (7, 60), (2, 0), (7, 60), (6, 0), (7, 4), (7, 4), (7, 240), (7, 5), (7, 5)]) (ρ' := (tn_rL [[], [], [3, 15, 27, 28, 29, 30], [4, 5], [6, 7, 8, 9, 10], [11, 12, 13, 14], [], [], [], [], [], [], [], [], [], [16, 17], [18, 19, 20, 21, 22], [23, 24, 25, 26], [], [], [], [], [], [], [], [], [], [31, 33, 35, 37], [], [], [], [32], [], [34], [], [36], [], [38], [], [0, 0, 40, 41, 42, 0, 0, 0, 0, 0, 0, 0, 0, 43, 44, 0, 0, 0, 0, 0, 0, 0, 0, 0, 0, 0, 0, 0, 0], [], [], [], [], []])) (σ' := tsj 4) rfl rfl rfl rfl (rl_u (k0 := 14) rfl (by decide) rfl) rfl ?_
  refine tn_aload_n (pc := 61) hΓ d_X6_init_61 rfl ?_
  refine tn_iconst (pc := 62) hΓ d_X6_init_62 ic_5 ?_
  refine tn_newa (N := 5) (pc := 63) hΓ d_X6_init_63 (tn_wi 209 (by decide +kernel)) (by decide) (by decide) (by decide) (by decide) (by decide) ?_
  refine tn_cvt (st' := [.ref 45, .ref 39]) (ca' := 6) (sl' := 263) (ks' := [(5, 0), (1, 0), (8, 5), (9, 4), (0, 0), (0, 0), (0, 0), (0, 0), (0, 0), (3, 0), (3, 0), (3, 0), (3, 0), (1, 0), (8, 5), (9, 4), (0, 0), (0, 0), (0, 0), (0, 0), (0, 0), (3, 0), (3, 0), (3, 0), (3, 0), (10, 4), (7, 8), (7, 8), (7, 4), (2, 0), (7, 60), (2, 0), (7, 60), (2, 0), (7, 60), (2, 0), (7, 60), (6, 0), (7, 4), (7, 4), (7, 240), (7, 5), (7, 5), (7, 5)]) (ρ' := (tn_rL [[], [], [3, 15, 27, 28, 29, 30], [4, 5], [6, 7, 8, 9, 10], [11, 12, 13, 14], [], [], [], [], [], [], [], [], [], [16, 17], [18, 19, 20, 21, 22], [23, 24, 25, 26], [], [], [], [], [], [], [], [], [], [31, 33, 35, 37], [], [], [], [32], [], [34], [], [36], [], [38], [], [0, 0, 40, 41, 42, 0, 0, 0, 0, 0, 0, 0, 0, 43, 44, 0, 0, 0, 0, 0, 0, 0, 0, 0, 0, 0, 0, 0, 0], [], [], [], [], [], []])) (σ' := tsj 4) rfl rfl rfl rfl (rl_z (m := 0) rfl rfl) (tsj_z (by decide)) ?_
  refine tn_putR (pc := 65) hΓ d_X6_init_65 fl_6_25 fk_6_6_15 rfl rfl fo_6_25 rfl ?_
  refine tn_cvt (st' := []) (ca' := 6) (sl' := 263) (ks' := [(5, 0), (1, 0), (8, 5), (9, 4), (0, 0), (0, 0), (0, 0), (0, 0), (0, 0), (3, 0), (3, 0), (3, 0), (3, 0), (1, 0), (8, 5), (9, 4), (0, 0), (0, 0), (0, 0), (0, 0), (0, 0), (3, 0), (3, 0), (3, 0), (3, 0), (10, 4), (7, 8), (7, 8), (7, 4), (2, 0), (7, 60), (2, 0), (7, 60), (2, 0), (7, 60), (2, 0), (7, 60), (6, 0), (7, 4), (7, 4), (7, 240), (7, 5), (7, 5), (7, 5)]) (ρ' := (tn_rL [[], [], [3, 15, 27, 28, 29, 30], [4, 5], [6, 7, 8, 9, 10], [11, 12, 13, 14], [], [], [], [], [], [], [], [], [], [16, 17], [18, 19, 20, 21, 22], [23, 24, 25, 26], [], [], [], [], [], [], [], [], [], [31, 33, 35, 37], [], [], [], [32], [], [34], [], [36], [], [38], [], [0, 0, 40, 41, 42, 0, 0, 0, 0, 0, 0, 0, 0, 43, 44, 45, 0, 0, 0, 0, 0, 0, 0, 0, 0, 0, 0, 0, 0], [], [], [], [], [], []])) (σ' := tsj 4) rfl rfl rfl rfl (rl_u (k0 := 15) rfl (by decide) rfl) rfl ?_
  refine tn_aload_n (pc := 68) hΓ d_X6_init_68 rfl ?_
  refine tn_iconst (pc := 69) hΓ d_X6_init_69 ic_5 ?_
  refine tn_newa (N := 5) (pc := 70) hΓ d_X6_init_70 (tn_wi 209 (by decide +kernel)) (by decide) (by decide) (by decide) (by decide) (by decide) ?_
  refine tn_cvt (st' := [.ref 46, .ref 39]) (ca' := 7) (sl' := 268) (ks' := [(5, 0), (1, 0), (8, 5), (9, 4), (0, 0), (0, 0), (0, 0), (0, 0), (0, 0), (3, 0), (3, 0), (3, 0), (3, 0), (1, 0), (8, 5), (9, 4), (0, 0), (0, 0), (0, 0), (0, 0), (0, 0), (3, 0), (3, 0), (3, 0), (3, 0), (10, 4), (7, 8), (7, 8), (7, 4), (2, 0), (7, 60), (2, 0), (7, 60), (2, 0), (7, 60), (2, 0), (7, 60), (6, 0), (7, 4), (7, 4), (7, 240), (7, 5), (7, 5), (7, 5), (7, 5)]) (ρ' := (tn_rL [[], [], [3, 15, 27, 28, 29, 30], [4, 5], [6, 7, 8, 9, 10], [11, 12, 13, 14], [], [], [], [], [], [], [], [], [], [16, 17], [18, 19, 20, 21, 22], [23, 24, 25, 26], [], [], [], [], [], [], [], [], [], [31, 33, 35, 37], [], [], [], [32], [], [34], [], [36], [], [38], [], [0, 0, 40, 41, 42, 0, 0, 0, 0, 0, 0, 0, 0, 43, 44, 45, 0, 0, 0, 0, 0, 0, 0, 0, 0, 0, 0, 0, 0], [], [], [], [], [], [], []])) (σ' := tsj 4) rfl rfl rfl rfl (rl_z (m := 0) rfl rfl) (tsj_z (by decide)) ?_
  refine tn_putR (pc := 72) hΓ d_X6_init_72 fl_6_28 fk_6_6_16 rfl rfl fo_6_28 rfl ?_
  refine tn_cvt (st' := []) (ca' := 7) (sl' := 268) (ks' := [(5, 0), (1, 0), (8, 5), (9, 4), (0, 0), (0, 0), (0, 0), (0, 0), (0, 0), (3, 0), (3, 0), (3, 0), (3, 0), (1, 0), (8, 5), (9, 4), (0, 0), (0, 0), (0, 0), (0, 0), (0, 0), (3, 0), (3, 0), (3, 0), (3, 0), (10, 4), (7, 8), (7, 8), (7, 4), (2, 0), (7, 60), (2, 0), (7, 60), (2, 0), (7, 60), (2, 0), (7, 60), (6, 0), (7, 4), (7, 4), (7, 240), (7, 5), (7, 5), (7, 5), (7, 5)]) (ρ' := (tn_rL [[], [], [3, 15, 27, 28, 29, 30], [4, 5], [6, 7, 8, 9, 10], [11, 12, 13, 14], [], [], [], [], [], [], [], [], [], [16, 17], [18, 19, 20, 21, 22], [23, 24, 25, 26], [], [], [], [], [], [], [], [], [], [31, 33, 35, 37], [], [], [], [32], [], [34], [], [36], [], [38], [], [0, 0, 40, 41, 42, 0, 0, 0, 0, 0, 0, 0, 0, 43, 44, 45, 46, 0, 0, 0, 0, 0, 0, 0, 0, 0, 0, 0, 0], [], [], [], [], [], [], []])) (σ' := tsj 4) rfl rfl rfl rfl (rl_u (k0 := 16) rfl (by decide) rfl) rfl ?_
  refine tn_aload_n (pc := 75) hΓ d_X6_init_75 rfl ?_
  refine tn_iconst (pc := 76) hΓ d_X6_init_76 ic_4 ?_
  refine tn_newa (N := 4) (pc := 77) hΓ d_X6_init_77 (tn_wi 209 (by decide +kernel)) (by decide) (by decide) (by decide) (by decide) (by decide) ?_
  refine tn_cvt (st' := [.ref 47, .ref 39]) (ca' := 8) (sl' := 272) (ks' := [(5, 0), (1, 0), (8, 5), (9, 4), (0, 0), (0, 0), (0, 0), (0, 0), (0, 0), (3, 0), (3, 0), (3, 0), (3, 0), (1, 0), (8, 5), (9, 4), (0, 0), (0, 0), (0, 0), (0, 0), (0, 0), (3, 0), (3, 0), (3, 0), (3, 0), (10, 4), (7, 8), (7, 8), (7, 4), (2, 0), (7, 60), (2, 0), (7, 60), (2, 0), (7, 60), (2, 0), (7, 60), (6, 0), (7, 4), (7, 4), (7, 240), (7, 5), (7, 5), (7, 5), (7, 5), (7, 4)]) (ρ' := (tn_rL [[], [], [3, 15, 27, 28, 29, 30], [4, 5], [6, 7, 8, 9, 10], [11, 12, 13, 14], [], [], [], [], [], [], [], [], [], [16, 17], [18, 19, 20, 21, 22], [23, 24, 25, 26], [], [], [], [], [], [], [], [], [], [31, 33, 35, 37], [], [], [], [32], [], [34], [], [36], [], [38], [], [0, 0, 40, 41, 42, 0, 0, 0, 0, 0, 0, 0, 0, 43, 44, 45, 46, 0, 0, 0, 0, 0, 0, 0, 0, 0, 0, 0, 0], [], [], [], [], [], [], [], []])) (σ' := tsj 4) rfl rfl rfl rfl (rl_z (m := 0) rfl rfl) (tsj_z (by decide)) ?_
  refine tn_putR (pc := 79) hΓ d_X6_init_79 fl_6_31 fk_6_6_17 rfl rfl fo_6_31 rfl ?_
  refine tn_cvt (st' := []) (ca' := 8) (sl' := 272) (ks' := [(5, 0), (1, 0), (8, 5), (9, 4), (0, 0), (0, 0), (0, 0), (0, 0), (0, 0), (3, 0), (3, 0), (3, 0), (3, 0), (1, 0), (8, 5), (9, 4), (0, 0), (0, 0), (0, 0), (0, 0), (0, 0), (3, 0), (3, 0), (3, 0), (3, 0), (10, 4), (7, 8), (7, 8), (7, 4), (2, 0), (7, 60), (2, 0), (7, 60), (2, 0), (7, 60), (2, 0), (7, 60), (6, 0), (7, 4), (7, 4), (7, 240), (7, 5), (7, 5), (7, 5), (7, 5), (7, 4)]) (ρ' := (tn_rL [[], [], [3, 15, 27, 28, 29, 30], [4, 5], [6, 7, 8, 9, 10], [11, 12, 13, 14], [], [], [], [], [], [], [], [], [], [16, 17], [18, 19, 20, 21, 22], [23, 24, 25, 26], [], [], [], [], [], [], [], [], [], [31, 33, 35, 37], [], [], [], [32], [], [34], [], [36], [], [38], [], [0, 0, 40, 41, 42, 0, 0, 0, 0, 0, 0, 0, 0, 43, 44, 45, 46, 47, 0, 0, 0, 0, 0, 0, 0, 0, 0, 0, 0], [], [], [], [], [], [], [], []])) (σ' := tsj 4) rfl rfl rfl rfl (rl_u (k0 := 17) rfl (by decide) rfl) rfl ?_
  refine tn_aload_n (pc := 82) hΓ d_X6_init_82 rfl ?_
  refine tn_bipush (pc := 83) hΓ d_X6_init_83 bp_15 ?_
  refine tn_newa (N := 15) (pc := 85) hΓ d_X6_init_85 (tn_wi 209 (by decide +kernel)) (by decide) (by decide) (by decide) (by decide) (by decide) ?_
  refine tn_cvt (st' := [.ref 48, .ref 39]) (ca' := 9) (sl' := 287) (ks' := [(5, 0), (1, 0), (8, 5), (9, 4), (0, 0), (0, 0), (0, 0), (0, 0), (0, 0), (3, 0), (3, 0), (3, 0), (3, 0), (1, 0), (8, 5), (9, 4), (0, 0), (0, 0), (0, 0), (0, 0), (0, 0), (3, 0), (3, 0), (3, 0), (3, 0), (10, 4), (7, 8), (7, 8), (7, 4), (2, 0), (7, 60), (2, 0), (7, 60), (2, 0), (7, 60), (2, 0), (7, 60), (6, 0), (7, 4), (7, 4), (7, 240), (7, 5), (7, 5), (7, 5), (7, 5), (7, 4), (7, 15)]) (ρ' := (tn_rL [[], [], [3, 15, 27, 28, 29, 30], [4, 5], [6, 7, 8, 9, 10], [11, 12, 13, 14], [], [], [], [], [], [], [], [], [], [16, 17], [18, 19, 20, 21, 22], [23, 24, 25, 26], [], [], [], [], [], [], [], [], [], [31, 33, 35, 37], [], [], [], [32], [], [34], [], [36], [], [38], [], [0, 0, 40, 41, 42, 0, 0, 0, 0, 0, 0, 0, 0, 43, 44, 45, 46, 47, 0, 0, 0, 0, 0, 0, 0, 0, 0, 0, 0], [], [], [], [], [], [], [], [], []])) (σ' := tsj 4) rfl rfl rfl rfl (rl_z (m := 0) rfl rfl) (tsj_z (by decide)) ?_
  refine tn_putR (pc := 87) hΓ d_X6_init_87 fl_6_34 fk_6_6_22 rfl rfl fo_6_34 rfl ?_
  refine tn_cvt (st' := []) (ca' := 9) (sl' := 287) (ks' := [(5, 0), (1, 0), (8, 5), (9, 4), (0, 0), (0, 0), (0, 0), (0, 0), (0, 0), (3, 0), (3, 0), (3, 0), (3, 0), (1, 0), (8, 5), (9, 4), (0, 0), (0, 0), (0, 0), (0, 0), (0, 0), (3, 0), (3, 0), (3, 0), (3, 0), (10, 4), (7, 8), (7, 8), (7, 4), (2, 0), (7, 60), (2, 0), (7, 60), (2, 0), (7, 60), (2, 0), (7, 60), (6, 0), (7, 4), (7, 4), (7, 240), (7, 5), (7, 5), (7, 5), (7, 5), (7, 4), (7, 15)]) (ρ' := (tn_rL [[], [], [3, 15, 27, 28, 29, 30], [4, 5], [6, 7, 8, 9, 10], [11, 12, 13, 14], [], [], [], [], [], [], [], [], [], [16, 17], [18, 19, 20, 21, 22], [23, 24, 25, 26], [], [], [], [], [], [], [], [], [], [31, 33, 35, 37], [], [], [], [32], [], [34], [], [36], [], [38], [], [0, 0, 40, 41, 42, 0, 0, 0, 0, 0, 0, 0, 0, 43, 44, 45, 46, 47, 0, 0, 0, 0, 48, 0, 0, 0, 0, 0, 0], [], [], [], [], [], [], [], [], []])) (σ' := tsj 4) rfl rfl rfl rfl (rl_u (k0 := 22) rfl (by decide) rfl) rfl ?_
  refine tn_aload_n (pc := 90) hΓ d_X6_init_90 rfl ?_
  refine tn_iconst (pc := 91) hΓ d_X6_init_91 ic_4 ?_
  refine tn_newa (N := 4) (pc := 92) hΓ d_X6_init_92 (tn_wi 209 (by decide +kernel)) (by decide) (by decide) (by decide) (by decide) (by decide) ?_
  refine tn_cvt (st' := [.ref 49, .ref 39]) (ca' := 10) (sl' := 291) (ks' := [(5, 0), (1, 0), (8, 5), (9, 4), (0, 0), (0, 0), (0, 0), (0, 0), (0, 0), (3, 0), (3, 0), (3, 0), (3, 0), (1, 0), (8, 5), (9, 4), (0, 0), (0, 0), (0, 0), (0, 0), (0, 0), (3, 0), (3, 0), (3, 0), (3, 0), (10, 4), (7, 8), (7, 8), (7, 4), (2, 0), (7, 60), (2, 0), (7, 60), (2, 0), (7, 60), (2, 0), (7, 60), (6, 0), (7, 4), (7, 4), (7, 240), (7, 5), (7, 5), (7, 5), (7, 5), (7, 4), (7, 15), (7, 4)]) (ρ' := (tn_rL [[], [], [3, 15, 27, 28, 29, 30], [4, 5], [6, 7, 8, 9, 10], [11, 12, 13, 14], [], [], [], [], [], [], [], [], [], [16, 17], [18, 19, 20, 21, 22], [23, 24, 25, 26], [], [], [], [], [], [], [], [], [], [31, 33, 35, 37], [], [], [], [32], [], [34], [], [36], [], [38], [], [0, 0, 40, 41, 42, 0, 0, 0, 0, 0, 0, 0, 0, 43, 44, 45, 46, 47, 0, 0, 0, 0, 48, 0, 0, 0, 0, 0, 0], [], [], [], [], [], [], [], [], [], []])) (σ' := tsj 4) rfl rfl rfl rfl (rl_z (m := 0) rfl rfl) (tsj_z (by decide)) ?_
  refine tn_putR (pc := 94) hΓ d_X6_init_94 fl_6_37 fk_6_6_23 rfl rfl fo_6_37 rfl ?_
  refine tn_cvt (st' := []) (ca' := 10) (sl' := 291) (ks' := [(5, 0), (1, 0), (8, 5), (9, 4), (0, 0), (0, 0), (0, 0), (0, 0), (0, 0), (3, 0), (3, 0), (3, 0), (3, 0), (1, 0), (8, 5), (9, 4), (0, 0), (0, 0), (0, 0), (0, 0), (0, 0), (3, 0), (3, 0), (3, 0), (3, 0), (10, 4), (7, 8), (7, 8), (7, 4), (2, 0), (7, 60), (2, 0), (7, 60), (2, 0), (7, 60), (2, 0), (7, 60), (6, 0), (7, 4), (7, 4), (7, 240), (7, 5), (7, 5), (7, 5), (7, 5), (7, 4), (7, 15), (7, 4)]) (ρ' := (tn_rL [[], [], [3, 15, 27, 28, 29, 30], [4, 5], [6, 7, 8, 9, 10], [11, 12, 13, 14], [], [], [], [], [], [], [], [], [], [16, 17], [18, 19, 20, 21, 22], [23, 24, 25, 26], [], [], [], [], [], [], [], [], [], [31, 33, 35, 37], [], [], [], [32], [], [34], [], [36], [], [38], [], [0, 0, 40, 41, 42, 0, 0, 0, 0, 0, 0, 0, 0, 43, 44, 45, 46, 47, 0, 0, 0, 0, 48, 49, 0, 0, 0, 0, 0], [], [], [], [], [], [], [], [], [], []])) (σ' := tsj 4) rfl rfl rfl rfl (rl_u (k0 := 23) rfl (by decide) rfl) rfl ?_
  refine tn_aload_n (pc := 97) hΓ d_X6_init_97 rfl ?_
  refine tn_bipush (pc := 98) hΓ d_X6_init_98 bp_30 ?_
  refine tn_newa (N := 30) (pc := 100) hΓ d_X6_init_100 (tn_wi 209 (by decide +kernel)) (by decide) (by decide) (by decide) (by decide) (by decide) ?_
  refine tn_cvt (st' := [.ref 50, .ref 39]) (ca' := 11) (sl' := 321) (ks' := [(5, 0), (1, 0), (8, 5), (9, 4), (0, 0), (0, 0), (0, 0), (0, 0), (0, 0), (3, 0), (3, 0), (3, 0), (3, 0), (1, 0), (8, 5), (9, 4), (0, 0), (0, 0), (0, 0), (0, 0), (0, 0), (3, 0), (3, 0), (3, 0), (3, 0), (10, 4), (7, 8), (7, 8), (7, 4), (2, 0), (7, 60), (2, 0), (7, 60), (2, 0), (7, 60), (2, 0), (7, 60), (6, 0), (7, 4), (7, 4), (7, 240), (7, 5), (7, 5), (7, 5), (7, 5), (7, 4), (7, 15), (7, 4), (7, 30)]) (ρ' := (tn_rL [[], [], [3, 15, 27, 28, 29, 30], [4, 5], [6, 7, 8, 9, 10], [11, 12, 13, 14], [], [], [], [], [], [], [], [], [], [16, 17], [18, 19, 20, 21, 22], [23, 24, 25, 26], [], [], [], [], [], [], [], [], [], [31, 33, 35, 37], [], [], [], [32], [], [34], [], [36], [], [38], [], [0, 0, 40, 41, 42, 0, 0, 0, 0, 0, 0, 0, 0, 43, 44, 45, 46, 47, 0, 0, 0, 0, 48, 49, 0, 0, 0, 0, 0], [], [], [], [], [], [], [], [], [], [], []])) (σ' := tsj 4) rfl rfl rfl rfl (rl_z (m := 0) rfl rfl) (tsj_z (by decide)) ?_
  refine tn_putR (pc := 102) hΓ d_X6_init_102 fl_6_40 fk_6_6_24 rfl rfl fo_6_40 rfl ?_
  refine tn_cvt (st' := []) (ca' := 11) (sl' := 321) (ks' := [(5, 0), (1, 0), (8, 5), (9, 4), (0, 0), (0, 0), (0, 0), (0, 0), (0, 0), (3, 0), (3, 0), (3, 0), (3, 0), (1, 0), (8, 5), (9, 4), (0, 0), (0, 0), (0, 0), (0, 0), (0, 0), (3, 0), (3, 0), (3, 0), (3, 0), (10, 4), (7, 8), (7, 8), (7, 4), (2, 0), (7, 60), (2, 0), (7, 60), (2, 0), (7, 60), (2, 0), (7, 60), (6, 0), (7, 4), (7, 4), (7, 240), (7, 5), (7, 5), (7, 5), (7, 5), (7, 4), (7, 15), (7, 4), (7, 30)]) (ρ' := (tn_rL [[], [], [3, 15, 27, 28, 29, 30], [4, 5], [6, 7, 8, 9, 10], [11, 12, 13, 14], [], [], [], [], [], [], [], [], [], [16, 17], [18, 19, 20, 21, 22], [23, 24, 25, 26], [], [], [], [], [], [], [], [], [], [31, 33, 35, 37], [], [], [], [32], [], [34], [], [36], [], [38], [], [0, 0, 40, 41, 42, 0, 0, 0, 0, 0, 0, 0, 0, 43, 44, 45, 46, 47, 0, 0, 0, 0, 48, 49, 50, 0, 0, 0, 0], [], [], [], [], [], [], [], [], [], [], []])) (σ' := tsj 4) rfl rfl rfl rfl (rl_u (k0 := 24) rfl (by decide) rfl) rfl ?_
  refine tn_aload_n (pc := 105) hΓ d_X6_init_105 rfl ?_
  refine tn_bipush (pc := 106) hΓ d_X6_init_106 bp_8 ?_
  refine tn_newa (N := 8) (pc := 108) hΓ d_X6_init_108 (tn_wi 209 (by decide +kernel)) (by decide) (by decide) (by decide) (by decide) (by decide) ?_
  refine tn_cvt (st' := [.ref 51, .ref 39]) (ca' := 12) (sl' := 329) (ks' := [(5, 0), (1, 0), (8, 5), (9, 4), (0, 0), (0, 0), (0, 0), (0, 0), (0, 0), (3, 0), (3, 0), (3, 0), (3, 0), (1, 0), (8, 5), (9, 4), (0, 0), (0, 0), (0, 0), (0, 0), (0, 0), (3, 0), (3, 0), (3, 0), (3, 0), (10, 4), (7, 8), (7, 8), (7, 4), (2, 0), (7, 60), (2, 0), (7, 60), (2, 0), (7, 60), (2, 0), (7, 60), (6, 0), (7, 4), (7, 4), (7, 240), (7, 5), (7, 5), (7, 5), (7, 5), (7, 4), (7, 15), (7, 4), (7, 30), (7, 8)]) (ρ' := (tn_rL [[], [], [3, 15, 27, 28, 29, 30], [4, 5], [6, 7, 8, 9, 10], [11, 12, 13, 14], [], [], [], [], [], [], [], [], [], [16, 17], [18, 19, 20, 21, 22], [23, 24, 25, 26], [], [], [], [], [], [], [], [], [], [31, 33, 35, 37], [], [], [], [32], [], [34], [], [36], [], [38], [], [0, 0, 40, 41, 42, 0, 0, 0, 0, 0, 0, 0, 0, 43, 44, 45, 46, 47, 0, 0, 0, 0, 48, 49, 50, 0, 0, 0, 0], [], [], [], [], [], [], [], [], [], [], [], []])) (σ' := tsj 4) rfl rfl rfl rfl (rl_z (m := 0) rfl rfl) (tsj_z (by decide)) ?_
  refine tn_putR (pc := 110) hΓ d_X6_init_110 fl_6_43 fk_6_6_25 rfl rfl fo_6_43 rfl ?_
  refine tn_cvt (st' := []) (ca' := 12) (sl' := 329) (ks' := [(5, 0), (1, 0), (8, 5), (9, 4), (0, 0), (0, 0), (0, 0), (0, 0), (0, 0), (3, 0), (3, 0), (3, 0), (3, 0), (1, 0), (8, 5), (9, 4), (0, 0), (0, 0), (0, 0), (0, 0), (0, 0), (3, 0), (3, 0), (3, 0), (3, 0), (10, 4), (7, 8), (7, 8), (7, 4), (2, 0), (7, 60), (2, 0), (7, 60), (2, 0), (7, 60), (2, 0), (7, 60), (6, 0), (7, 4), (7, 4), (7, 240), (7, 5), (7, 5), (7, 5), (7, 5), (7, 4), (7, 15), (7, 4), (7, 30), (7, 8)]) (ρ' := (tn_rL [[], [], [3, 15, 27, 28, 29, 30], [4, 5], [6, 7, 8, 9, 10], [11, 12, 13, 14], [], [], [], [], [], [], [], [], [], [16, 17], [18, 19, 20, 21, 22], [23, 24, 25, 26], [], [], [], [], [], [], [], [], [], [31, 33, 35, 37], [], [], [], [32], [], [34], [], [36], [], [38], [], [0, 0, 40, 41, 42, 0, 0, 0, 0, 0, 0, 0, 0, 43, 44, 45, 46, 47, 0, 0, 0, 0, 48, 49, 50, 51, 0, 0, 0], [], [], [], [], [], [], [], [], [], [], [], []])) (σ' := tsj 4) rfl rfl rfl rfl (rl_u (k0 := 25) rfl (by decide) rfl) rfl ?_
  refine tn_aload_n (pc := 113) hΓ d_X6_init_113 rfl ?_
  refine tn_bipush (pc := 114) hΓ d_X6_init_114 bp_8 ?_
  refine tn_newa (N := 8) (pc := 116) hΓ d_X6_init_116 (tn_wi 209 (by decide +kernel)) (by decide) (by decide) (by decide) (by decide) (by decide) ?_
  refine tn_cvt (st' := [.ref 52, .ref 39]) (ca' := 13) (sl' := 337) (ks' := [(5, 0), (1, 0), (8, 5), (9, 4), (0, 0), (0, 0), (0, 0), (0, 0), (0, 0), (3, 0), (3, 0), (3, 0), (3, 0), (1, 0), (8, 5), (9, 4), (0, 0), (0, 0), (0, 0), (0, 0), (0, 0), (3, 0), (3, 0), (3, 0), (3, 0), (10, 4), (7, 8), (7, 8), (7, 4), (2, 0), (7, 60), (2, 0), (7, 60), (2, 0), (7, 60), (2, 0), (7, 60), (6, 0), (7, 4), (7, 4), (7, 240), (7, 5), (7, 5), (7, 5), (7, 5), (7, 4), (7, 15), (7, 4), (7, 30), (7, 8), (7, 8)]) (ρ' := (tn_rL [[], [], [3, 15, 27, 28, 29, 30], [4, 5], [6, 7, 8, 9, 10], [11, 12, 13, 14], [], [], [], [], [], [], [], [], [], [16, 17], [18, 19, 20, 21, 22], [23, 24, 25, 26], [], [], [], [], [], [], [], [], [], [31, 33, 35, 37], [], [], [], [32], [], [34], [], [36], [], [38], [], [0, 0, 40, 41, 42, 0, 0, 0, 0, 0, 0, 0, 0, 43, 44, 45, 46, 47, 0, 0, 0, 0, 48, 49, 50, 51, 0, 0, 0], [], [], [], [], [], [], [], [], [], [], [], [], []])) (σ' := tsj 4) rfl rfl rfl rfl (rl_z (m := 0) rfl rfl) (tsj_z (by decide)) ?_
  refine tn_putR (pc := 118) hΓ d_X6_init_118 fl_6_46 fk_6_6_27 rfl rfl fo_6_46 rfl ?_
  refine tn_cvt (st' := []) (ca' := 13) (sl' := 337) (ks' := [(5, 0), (1, 0), (8, 5), (9, 4), (0, 0), (0, 0), (0, 0), (0, 0), (0, 0), (3, 0), (3, 0), (3, 0), (3, 0), (1, 0), (8, 5), (9, 4), (0, 0), (0, 0), (0, 0), (0, 0), (0, 0), (3, 0), (3, 0), (3, 0), (3, 0), (10, 4), (7, 8), (7, 8), (7, 4), (2, 0), (7, 60), (2, 0), (7, 60), (2, 0), (7, 60), (2, 0), (7, 60), (6, 0), (7, 4), (7, 4), (7, 240), (7, 5), (7, 5), (7, 5), (7, 5), (7, 4), (7, 15), (7, 4), (7, 30), (7, 8), (7, 8)]) (ρ' := (tn_rL [[], [], [3, 15, 27, 28, 29, 30], [4, 5], [6, 7, 8, 9, 10], [11, 12, 13, 14], [], [], [], [], [], [], [], [], [], [16, 17], [18, 19, 20, 21, 22], [23, 24, 25, 26], [], [], [], [], [], [], [], [], [], [31, 33, 35, 37], [], [], [], [32], [], [34], [], [36], [], [38], [], [0, 0, 40, 41, 42, 0, 0, 0, 0, 0, 0, 0, 0, 43, 44, 45, 46, 47, 0, 0, 0, 0, 48, 49, 50, 51, 0, 52, 0], [], [], [], [], [], [], [], [], [], [], [], [], []])) (σ' := tsj 4) rfl rfl rfl rfl (rl_u (k0 := 27) rfl (by decide) rfl) rfl ?_
  refine tn_aload_n (pc := 121) hΓ d_X6_init_121 rfl ?_
  refine tn_bipush (pc := 122) hΓ d_X6_init_122 bp_8 ?_
  refine tn_newa (N := 8) (pc := 124) hΓ d_X6_init_124 (tn_wi 209 (by decide +kernel)) (by decide) (by decide) (by decide) (by decide) (by decide) ?_
  refine tn_cvt (st' := [.ref 53, .ref 39]) (ca' := 14) (sl' := 345) (ks' := [(5, 0), (1, 0), (8, 5), (9, 4), (0, 0), (0, 0), (0, 0), (0, 0), (0, 0), (3, 0), (3, 0), (3, 0), (3, 0), (1, 0), (8, 5), (9, 4), (0, 0), (0, 0), (0, 0), (0, 0), (0, 0), (3, 0), (3, 0), (3, 0), (3, 0), (10, 4), (7, 8), (7, 8), (7, 4), (2, 0), (7, 60), (2, 0), (7, 60), (2, 0), (7, 60), (2, 0), (7, 60), (6, 0), (7, 4), (7, 4), (7, 240), (7, 5), (7, 5), (7, 5), (7, 5), (7, 4), (7, 15), (7, 4), (7, 30), (7, 8), (7, 8), (7, 8)]) (ρ' := (tn_rL [[], [], [3, 15, 27, 28, 29, 30], [4, 5], [6, 7, 8, 9, 10], [11, 12, 13, 14], [], [], [], [], [], [], [], [], [], [16, 17], [18, 19, 20, 21, 22], [23, 24, 25, 26], [], [], [], [], [], [], [], [], [], [31, 33, 35, 37], [], [], [], [32], [], [34], [], [36], [], [38], [], [0, 0, 40, 41, 42, 0, 0, 0, 0, 0, 0, 0, 0, 43, 44, 45, 46, 47, 0, 0, 0, 0, 48, 49, 50, 51, 0, 52, 0], [], [], [], [], [], [], [], [], [], [], [], [], [], []])) (σ' := tsj 4) rfl rfl rfl rfl (rl_z (m := 0) rfl rfl) (tsj_z (by decide)) ?_
  refine tn_putR (pc := 126) hΓ d_X6_init_126 fl_6_49 fk_6_6_28 rfl rfl fo_6_49 rfl ?_
  refine tn_cvt (st' := []) (ca' := 14) (sl' := 345) (ks' := [(5, 0), (1, 0), (8, 5), (9, 4), (0, 0), (0, 0), (0, 0), (0, 0), (0, 0), (3, 0), (3, 0), (3, 0), (3, 0), (1, 0), (8, 5), (9, 4), (0, 0), (0, 0), (0, 0), (0, 0), (0, 0), (3, 0), (3, 0), (3, 0), (3, 0), (10, 4), (7, 8), (7, 8), (7, 4), (2, 0), (7, 60), (2, 0), (7, 60), (2, 0), (7, 60), (2, 0), (7, 60), (6, 0), (7, 4), (7, 4), (7, 240), (7, 5), (7, 5), (7, 5), (7, 5), (7, 4), (7, 15), (7, 4), (7, 30), (7, 8), (7, 8), (7, 8)]) (ρ' := (tn_rL [[], [], [3, 15, 27, 28, 29, 30], [4, 5], [6, 7, 8, 9, 10], [11, 12, 13, 14], [], [], [], [], [], [], [], [], [], [16, 17], [18, 19, 20, 21, 22], [23, 24, 25, 26], [], [], [], [], [], [], [], [], [], [31, 33, 35, 37], [], [], [], [32], [], [34], [], [36], [], [38], [], [0, 0, 40, 41, 42, 0, 0, 0, 0, 0, 0, 0, 0, 43, 44, 45, 46, 47, 0, 0, 0, 0, 48, 49, 50, 51, 0, 52, 53], [], [], [], [], [], [], [], [], [], [], [], [], [], []])) (σ' := tsj 4) rfl rfl rfl rfl (rl_u (k0 := 28) rfl (by decide) rfl) rfl ?_
  exact tn_ret_v (pc := 129) hΓ hK d_X6_init_129 rfl (by decide) (by decide) h
