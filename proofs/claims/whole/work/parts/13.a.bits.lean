/-! ===== bits of small sets; how loud it can be ===== -/
theorem b5 {k : Nat} (h : k < 5) : k = 0 ∨ k = 1 ∨ k = 2 ∨ k = 3 ∨ k = 4 := by omega
theorem bi_bit (x : Int32) {k : Nat} (hk : k < 5) : bi x k = if x.toBitVec.getLsbD k = true then 1 else 0 := by
  have key : (bi x k).toBitVec = if x.toBitVec.getLsbD k = true then 1#32 else 0#32 := by
    unfold bi
    rw [Int32.toBitVec_and, Int32.toBitVec_shiftRight]
    have h1 : ((nI k &&& 31).toBitVec.smod 32) = BitVec.ofNat 32 k := by
      rcases b5 hk with rfl | rfl | rfl | rfl | rfl <;> decide
    rw [h1]
    apply BitVec.eq_of_getLsbD_eq
    intro i hi
    by_cases h0 : i = 0
    · subst h0
      rcases b5 hk with rfl | rfl | rfl | rfl | rfl <;> (split <;> rename_i q <;> simp_all [BitVec.getLsbD_sshiftRight, BitVec.sshiftRight', BitVec.getElem_sshiftRight])
    · have h2 : (Int32.toBitVec 1).getLsbD i = false := by
        show (1#32).getLsbD i = false
        simp [BitVec.getLsbD_one, h0]
      rw [BitVec.getLsbD_and, h2, Bool.and_false]
      split
      · simp [BitVec.getLsbD_one, h0]
      · simp
  split at key
  · rename_i q; rw [if_pos q]; exact Int32.toBitVec_inj.mp key
  · rename_i q; rw [if_neg q]; exact Int32.toBitVec_inj.mp key
theorem bi_01 (x : Int32) {k : Nat} (hk : k < 5) : bi x k = 0 ∨ bi x k = 1 := by
  rw [bi_bit x hk]
  split
  · exact Or.inr rfl
  · exact Or.inl rfl
theorem gl_sh {h k : Nat} (hh : h < 5) (hk : k < 5) : ((1 : Int32) <<< (nI h &&& 31)).toBitVec.getLsbD k = decide (k = h) := by
  rcases b5 hh with rfl | rfl | rfl | rfl | rfl <;> rcases b5 hk with rfl | rfl | rfl | rfl | rfl <;> decide
theorem bi_or (x y : Int32) {k : Nat} (hk : k < 5) : bi (x ||| y) k = if bi y k = 0 then bi x k else 1 := by
  rw [bi_bit _ hk, bi_bit x hk, bi_bit y hk, Int32.toBitVec_or, BitVec.getLsbD_or]
  cases x.toBitVec.getLsbD k <;> cases y.toBitVec.getLsbD k <;> decide
theorem bi_sh {h k : Nat} (hh : h < 5) (hk : k < 5) : bi ((1 : Int32) <<< (nI h &&& 31)) k = if k = h then 1 else 0 := by
  rw [bi_bit _ hk, gl_sh hh hk]
  by_cases e : k = h <;> simp [e]
theorem bi_set (x : Int32) {h k : Nat} (hh : h < 5) (hk : k < 5) : bi (x ||| ((1 : Int32) <<< (nI h &&& 31))) k = if k = h then 1 else bi x k := by
  rw [bi_or _ _ hk, bi_sh hh hk]
  by_cases e : k = h
  · simp [e]
  · simp [e]
theorem bi_0 {k : Nat} (hk : k < 5) : bi 0 k = 0 := by
  rcases b5 hk with rfl | rfl | rfl | rfl | rfl <;> decide
/-- the rankling set's bits -/
theorem bi_rsN (P : pp_T) {k : Nat} (hk : k < 5) : ∀ n, n ≤ 5 → bi (pp_rsN P n) k = if k < n ∧ pp_rk P k = true then 1 else 0
  | 0, _ => by rw [pp_rsN, bi_0 hk, if_neg (by omega)]
  | n + 1, hn => by
    have ih := bi_rsN P hk n (by omega)
    rw [pp_rsN]
    by_cases q : pp_rk P n = true
    · rw [if_pos q, bi_set _ (by omega) hk, ih]
      by_cases e : k = n
      · subst e
        rw [if_pos rfl, if_pos ⟨by omega, q⟩]
      · rw [if_neg e]
        by_cases h2 : k < n ∧ pp_rk P k = true
        · rw [if_pos h2, if_pos ⟨by omega, h2.2⟩]
        · rw [if_neg h2, if_neg (fun z => h2 ⟨by omega, z.2⟩)]
    · rw [if_neg q, ih]
      by_cases h2 : k < n ∧ pp_rk P k = true
      · rw [if_pos h2, if_pos ⟨by omega, h2.2⟩]
      · rw [if_neg h2, if_neg (fun z => h2 ⟨?_, z.2⟩)]
        by_cases e : k = n
        · subst e; exact absurd z.2 q
        · omega
/-- a set of which each rankles: its bits -/
theorem dr_rk {P : pp_T} (hn : pp_n P ≤ 5) {x : Int32} (h : pp_dr P x = true) {k : Nat} (hk : k < 5) (hb : ¬ bi x k = 0) : k < pp_n P ∧ pp_rk P k = true := by
  unfold pp_dr at h
  have h1 : (x &&& (pp_rs P ^^^ (-1))) = 0 := beq_iff_eq.mp h
  have h2 := bi_rsN P hk (pp_n P) hn
  have h3 : (x &&& (pp_rs P ^^^ (-1))).toBitVec.getLsbD k = false := by rw [h1]; show (0#32).getLsbD k = false; simp
  rw [Int32.toBitVec_and, Int32.toBitVec_xor, BitVec.getLsbD_and, BitVec.getLsbD_xor] at h3
  have h4 : (Int32.toBitVec (-1)).getLsbD k = true := by
    rcases b5 hk with rfl | rfl | rfl | rfl | rfl <;> decide
  rw [h4] at h3
  rw [bi_bit x hk] at hb
  have h5 : x.toBitVec.getLsbD k = true := by
    cases q : x.toBitVec.getLsbD k with
    | true => rfl
    | false => rw [q] at hb; exact absurd rfl hb
  rw [h5] at h3
  have h6 : (pp_rs P).toBitVec.getLsbD k = true := by
    cases q : (pp_rs P).toBitVec.getLsbD k with
    | true => rfl
    | false => rw [q] at h3; cases h3
  have h7 := bi_bit (pp_rs P) hk
  rw [h6, if_pos rfl] at h7
  rw [show pp_rsN P (pp_n P) = pp_rs P from rfl, h7] at h2
  by_cases q : k < pp_n P ∧ pp_rk P k = true
  · exact q
  · rw [if_neg q] at h2; exact absurd h2 (by decide)
/-! how loud it can be -/
theorem wt_nI {P : pp_T} (hw : pp_w P) {h : Nat} (hh : h < pp_n P) : ∃ w, w ≤ 18 ∧ pp_wt P h = nI w := by
  obtain ⟨a1, ⟨w, hw9, e1⟩, -, -⟩ := hw.2.2.2.2.1 h hh
  unfold pp_wt hw_wt
  rw [e1]
  by_cases q1 : P (3 + h) 0 = 1
  · rw [if_pos q1]; exact ⟨w + 1, by omega, nI_1 w⟩
  · rw [if_neg q1]
    by_cases q2 : P (3 + h) 0 = 2
    · rw [if_pos q2]; exact ⟨2 * w, by omega, by rw [show (2 : Int32) = nI 2 from by decide, pk_mul]⟩
    · rw [if_neg q2]; exact ⟨w, by omega, rfl⟩
theorem voH_nI {P : pp_T} (hw : pp_w P) : ∀ n, n ≤ pp_n P → ∃ w, w ≤ 18 * n ∧ pp_voH P n = nI w
  | 0, _ => ⟨0, by omega, nI_0.symm⟩
  | n + 1, hn => by
    obtain ⟨w, h1, e1⟩ := voH_nI hw n (by omega)
    obtain ⟨v, h2, e2⟩ := wt_nI hw (h := n) (by omega)
    rw [pp_voH, e1, e2]
    split
    · exact ⟨w + v, by omega, nI_add w v⟩
    · exact ⟨w, by omega, by rw [show (0 : Int32) = nI 0 from nI_0.symm, nI_add]; rfl⟩
theorem voS_nI {P : pp_T} (hw : pp_w P) {a : Int32} {a0 : Nat} (ha : a = nI a0) : ∀ n, n ≤ pp_m P → ∃ w, w ≤ a0 + 9 * n ∧ pp_voS P a n = nI w
  | 0, _ => ⟨a0, by omega, ha⟩
  | n + 1, hn => by
    obtain ⟨w, h1, e1⟩ := voS_nI hw ha n (by omega)
    obtain ⟨⟨v, h2, h3, e2⟩, -⟩ := hw.2.2.2.2.2.1 n (by omega)
    rw [pp_voS, e1, e2]
    split
    · exact ⟨w + v, by omega, nI_add w v⟩
    · exact ⟨w, by omega, by rw [show (0 : Int32) = nI 0 from nI_0.symm, nI_add]; rfl⟩
theorem vo_nI {P : pp_T} (hw : pp_w P) : ∃ w, w ≤ 126 ∧ pp_vo P = nI w := by
  obtain ⟨a, h1, e1⟩ := voH_nI hw (pp_n P) (Nat.le_refl _)
  obtain ⟨w, h2, e2⟩ := voS_nI hw e1 (pp_m P) (Nat.le_refl _)
  have := hw.2.1
  have := hw.2.2.2.1
  exact ⟨w, by omega, e2⟩
theorem vo_le0 {P : pp_T} (hw : pp_w P) : pp_vo P ≤ 0 ↔ pp_vo P = 0 := by
  obtain ⟨w, h1, e⟩ := vo_nI hw
  rw [e, show (0 : Int32) = nI 0 from nI_0.symm, nI_leI (by omega) (by omega), nI_eq (by omega) (by omega)]
  omega
