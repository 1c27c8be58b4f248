/-! ===== the made world ===== -/
def tn_L3 : List (List Nat) := [[], [], [3, 15, 27, 28, 29, 30], [4, 5], [6, 7, 8, 9, 10], [11, 12, 13, 14], [], [], [], [], [], [], [], [], [], [16, 17], [18, 19, 20, 21, 22], [23, 24, 25, 26], [], [], [], [], [], [], [], [], [], [31, 33, 35, 37], [], [], [], [32], [], [34], [], [36], [], [38], [], [0, 0, 40, 41, 42, 0, 0, 0, 0, 0, 0, 0, 0, 43, 44, 45, 46, 47, 0, 0, 0, 0, 48, 49, 50, 51, 0, 52, 53], [], [], [], [], [], [], [], [], [], [], [], [], [], []]
theorem gd_first : tn_Gd tn_k0 (tn_rL tn_L3) := by
  refine ⟨⟨[], by rw [List.append_nil]⟩, fun c hc k => ?_⟩
  have h : ∀ c, c < 54 → tn_L3.getD c [] = tn_r00.getD c [] := by decide +kernel
  unfold tn_rL tn_r0
  rw [h c hc]
theorem ro_first : ro_L (tsj 4) := by
  have z : ∀ c k, c ≠ 40 → tsj 4 c k = 0 := fun c k hc => by unfold tsj; rw [if_neg (by omega)]
  have n0 : pp_n (fun _ _ => 0) = 0 := by unfold pp_n; decide
  have m0 : pp_m (fun _ _ => 0) = 0 := by unfold pp_m; decide
  refine ⟨fun _ _ => 0, ?_, ?_, ?_, ?_, ?_, ?_, ?_, ?_⟩
  · unfold pp_w
    rw [n0, m0]
    exact ⟨nI_0.symm, by omega, nI_0.symm, by omega, fun h hh => by omega, fun s hs => by omega, fun h => by omega, fun _ => ⟨rfl, rfl⟩⟩
  · unfold rc_P
    rw [n0, m0]
    exact ⟨fun k h1 h2 => z 3 k (by omega), fun h hh => by omega, fun s hs => by omega⟩
  · unfold rm_P
    rw [n0, m0, z 39 5 (by omega), z 39 6 (by omega), z 39 7 (by omega), z 39 8 (by omega), z 39 10 (by omega)]
    refine ⟨rfl, rfl, rfl, rfl, ?_, fun h hh => by omega, fun s hs => by omega⟩
    unfold pp_hs
    rw [n0]
    rfl
  · intro k hk
    refine ⟨Or.inl ⟨?_, z _ _ (by omega)⟩, ⟨0, by omega, ?_, ?_⟩, fun i hi => ?_⟩
    · unfold tsj; rw [if_pos ⟨rfl, hk⟩]
    · rw [z _ _ (by omega), nI_0]
    · rw [z _ _ (by omega), nI_0]
    · rw [z _ _ (by omega), z _ _ (by omega)]
  · exact ⟨0, by omega, by rw [z _ _ (by omega), nI_0], by rw [z _ _ (by omega), nI_0], fun q hq => by omega⟩
  · rw [z _ _ (by omega), z _ _ (by omega)]
  · rw [z _ _ (by omega), z _ _ (by omega)]
  · rw [z _ _ (by omega), z _ _ (by omega)]
