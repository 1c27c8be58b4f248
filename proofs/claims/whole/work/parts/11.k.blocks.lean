-- X6_findPains
theorem k_X6_findPains_0 {Γ : tn_G} {ks : List (Nat × Nat)} {ρ : Nat → Nat → Nat} {σ : Nat → Nat → Int32} {K : Option Value → List (Nat × Nat) → (Nat → Nat → Nat) → (Nat → Nat → Int32) → Prop} (hG : tn_Gd ks ρ) (hΓ : tn_is Γ m_X6_findPains) (hK : tn_rt Γ m_X6_findPains K) (a0 : Int32) (a1 : Int32) (h : tn_CV m_X6_keep [.ref 39, .int (0 : Int32)] ks ρ σ (fun σ1 => tn_A Γ 7 [.ref 39, .int a0, .int a1, .int (0 : Int32), .null, .null, .null] [] 0 0 ks ρ σ1)) : tn_A Γ 0 [.ref 39, .int a0, .int a1, .null, .null, .null, .null] [] 0 0 ks ρ σ := by
  refine tn_aload_n (pc := 0) hΓ d_X6_findPains_0 rfl ?_
  refine tn_iconst (pc := 1) hΓ d_X6_findPains_1 ic_0 ?_
  refine tn_cvV (As := [.int (0 : Int32)]) (st := []) (pc := 2) hΓ d_X6_findPains_2 mv_X6_keep im_X6_keep se_X6_keep ml_6_170 ⟨⟨by decide, by decide⟩, by decide, by decide⟩ rfl rfl rfl (by decide) ⟨_, rfl⟩ (gd_k hG (c := 39) rfl) (Nat.le_of_ble_eq_true rfl) rfl h (fun σ1 h => ?_)
  refine tn_iconst (pc := 5) hΓ d_X6_findPains_5 ic_0 ?_
  refine tn_istore_n (loc' := [.ref 39, .int a0, .int a1, .int (0 : Int32), .null, .null, .null]) (pc := 6) hΓ d_X6_findPains_6 (by decide) rfl rfl ?_
  exact h
theorem k_X6_findPains_7 {Γ : tn_G} {ks : List (Nat × Nat)} {ρ : Nat → Nat → Nat} {σ : Nat → Nat → Int32} {K : Option Value → List (Nat × Nat) → (Nat → Nat → Nat) → (Nat → Nat → Int32) → Prop} (hG : tn_Gd ks ρ) (hΓ : tn_is Γ m_X6_findPains) (hK : tn_rt Γ m_X6_findPains K) (y1 : Int32) (y2 : Int32) (y3 : Int32) (h : (((4 : Int32) ≤ y3 → K none ks ρ σ) ∧ (¬ (4 : Int32) ≤ y3 → tn_CI m_X6_isOf [.int y3, .int (0 : Int32)] ks ρ σ (fun r1 σ1 => ((r1 = 0 → tn_CI m_X6_isOf [.int y3, .int (1 : Int32)] ks ρ σ1 (fun r2 σ2 => ((r2 = 0 → tn_CI m_X6_quietIn [.ref 39, .int (20 : Int32)] ks ρ σ2 (fun r3 σ3 => ((¬ r3 = (-9 : Int32) → (vp_in ((2 : Int32) * y3) 8 ∧ (∀ σ4, σ4 = tn_u σ3 51 ((2 : Int32) * y3).toNatClampNeg ((0 : Int32) + r3) → (vp_in (((2 : Int32) * y3) + (1 : Int32)) 8 ∧ (∀ σ5, σ5 = tn_u σ4 51 (((2 : Int32) * y3) + (1 : Int32)).toNatClampNeg ((0 : Int32) + r3) → tn_CV m_X6_putBack [.ref 39, .int (0 : Int32)] ks ρ σ5 (fun σ6 => (∀ x1 : Int32, x1 = y3 + (1 : Int32) → tn_A Γ 7 [.ref 39, .int y1, .int y2, .int x1, .null, .null, .null] [] 0 0 ks ρ σ6))))))) ∧ (r3 = (-9 : Int32) → (vp_in ((2 : Int32) * y3) 8 ∧ (∀ σ7, σ7 = tn_u σ3 51 ((2 : Int32) * y3).toNatClampNeg ((0 : Int32) + (20 : Int32)) → (vp_in (((2 : Int32) * y3) + (1 : Int32)) 8 ∧ (∀ σ8, σ8 = tn_u σ7 51 (((2 : Int32) * y3) + (1 : Int32)).toNatClampNeg ((0 : Int32) + (20 : Int32)) → tn_CV m_X6_putBack [.ref 39, .int (0 : Int32)] ks ρ σ8 (fun σ9 => (∀ x2 : Int32, x2 = y3 + (1 : Int32) → tn_A Γ 7 [.ref 39, .int y1, .int y2, .int x2, .null, .null, .null] [] 0 0 ks ρ σ9)))))))))) ∧ (¬ r2 = 0 → tn_CI m_X6_rankles [.ref 39, .int y2] ks ρ σ2 (fun r4 σ10 => ((r4 = 0 → tn_CI m_X6_owns [.ref 39, .int y2] ks ρ σ10 (fun r5 σ11 => tn_CI m_X6_quietIn [.ref 39, .int (20 : Int32)] ks ρ σ11 (fun r6 σ12 => ((¬ r6 = (-9 : Int32) → (vp_in ((2 : Int32) * y3) 8 ∧ (∀ σ13, σ13 = tn_u σ12 51 ((2 : Int32) * y3).toNatClampNeg ((0 : Int32) + r6) → (vp_in (((2 : Int32) * y3) + (1 : Int32)) 8 ∧ (∀ σ14, σ14 = tn_u σ13 51 (((2 : Int32) * y3) + (1 : Int32)).toNatClampNeg ((6 : Int32) + r6) → tn_CV m_X6_putBack [.ref 39, .int (0 : Int32)] ks ρ σ14 (fun σ15 => (∀ x3 : Int32, x3 = y3 + (1 : Int32) → tn_A Γ 7 [.ref 39, .int y1, .int y2, .int x3, .null, .null, .null] [] 0 0 ks ρ σ15))))))) ∧ (r6 = (-9 : Int32) → (vp_in ((2 : Int32) * y3) 8 ∧ (∀ σ16, σ16 = tn_u σ12 51 ((2 : Int32) * y3).toNatClampNeg ((0 : Int32) + (20 : Int32)) → (vp_in (((2 : Int32) * y3) + (1 : Int32)) 8 ∧ (∀ σ17, σ17 = tn_u σ16 51 (((2 : Int32) * y3) + (1 : Int32)).toNatClampNeg ((6 : Int32) + (20 : Int32)) → tn_CV m_X6_putBack [.ref 39, .int (0 : Int32)] ks ρ σ17 (fun σ18 => (∀ x4 : Int32, x4 = y3 + (1 : Int32) → tn_A Γ 7 [.ref 39, .int y1, .int y2, .int x4, .null, .null, .null] [] 0 0 ks ρ σ18))))))))))) ∧ (¬ r4 = 0 → tn_CI m_X6_weightOf [.ref 39, .int y2] ks ρ σ10 (fun r7 σ19 => tn_CI m_X6_owns [.ref 39, .int y2] ks ρ σ19 (fun r8 σ20 => tn_CI m_X6_quietIn [.ref 39, .int (20 : Int32)] ks ρ σ20 (fun r9 σ21 => ((¬ r9 = (-9 : Int32) → (vp_in ((2 : Int32) * y3) 8 ∧ (∀ σ22, σ22 = tn_u σ21 51 ((2 : Int32) * y3).toNatClampNeg ((0 : Int32) + r9) → (vp_in (((2 : Int32) * y3) + (1 : Int32)) 8 ∧ (∀ σ23, σ23 = tn_u σ22 51 (((2 : Int32) * y3) + (1 : Int32)).toNatClampNeg (r7 + r9) → tn_CV m_X6_putBack [.ref 39, .int (0 : Int32)] ks ρ σ23 (fun σ24 => (∀ x5 : Int32, x5 = y3 + (1 : Int32) → tn_A Γ 7 [.ref 39, .int y1, .int y2, .int x5, .null, .null, .null] [] 0 0 ks ρ σ24))))))) ∧ (r9 = (-9 : Int32) → (vp_in ((2 : Int32) * y3) 8 ∧ (∀ σ25, σ25 = tn_u σ21 51 ((2 : Int32) * y3).toNatClampNeg ((0 : Int32) + (20 : Int32)) → (vp_in (((2 : Int32) * y3) + (1 : Int32)) 8 ∧ (∀ σ26, σ26 = tn_u σ25 51 (((2 : Int32) * y3) + (1 : Int32)).toNatClampNeg (r7 + (20 : Int32)) → tn_CV m_X6_putBack [.ref 39, .int (0 : Int32)] ks ρ σ26 (fun σ27 => (∀ x6 : Int32, x6 = y3 + (1 : Int32) → tn_A Γ 7 [.ref 39, .int y1, .int y2, .int x6, .null, .null, .null] [] 0 0 ks ρ σ27)))))))))))))))))) ∧ (¬ r1 = 0 → tn_CI m_X6_rankles [.ref 39, .int y1] ks ρ σ1 (fun r10 σ28 => ((r10 = 0 → tn_CI m_X6_owns [.ref 39, .int y1] ks ρ σ28 (fun r11 σ29 => tn_CI m_X6_isOf [.int y3, .int (1 : Int32)] ks ρ σ29 (fun r12 σ30 => ((r12 = 0 → tn_CI m_X6_quietIn [.ref 39, .int (20 : Int32)] ks ρ σ30 (fun r13 σ31 => ((¬ r13 = (-9 : Int32) → (vp_in ((2 : Int32) * y3) 8 ∧ (∀ σ32, σ32 = tn_u σ31 51 ((2 : Int32) * y3).toNatClampNeg ((6 : Int32) + r13) → (vp_in (((2 : Int32) * y3) + (1 : Int32)) 8 ∧ (∀ σ33, σ33 = tn_u σ32 51 (((2 : Int32) * y3) + (1 : Int32)).toNatClampNeg ((0 : Int32) + r13) → tn_CV m_X6_putBack [.ref 39, .int (0 : Int32)] ks ρ σ33 (fun σ34 => (∀ x7 : Int32, x7 = y3 + (1 : Int32) → tn_A Γ 7 [.ref 39, .int y1, .int y2, .int x7, .null, .null, .null] [] 0 0 ks ρ σ34))))))) ∧ (r13 = (-9 : Int32) → (vp_in ((2 : Int32) * y3) 8 ∧ (∀ σ35, σ35 = tn_u σ31 51 ((2 : Int32) * y3).toNatClampNeg ((6 : Int32) + (20 : Int32)) → (vp_in (((2 : Int32) * y3) + (1 : Int32)) 8 ∧ (∀ σ36, σ36 = tn_u σ35 51 (((2 : Int32) * y3) + (1 : Int32)).toNatClampNeg ((0 : Int32) + (20 : Int32)) → tn_CV m_X6_putBack [.ref 39, .int (0 : Int32)] ks ρ σ36 (fun σ37 => (∀ x8 : Int32, x8 = y3 + (1 : Int32) → tn_A Γ 7 [.ref 39, .int y1, .int y2, .int x8, .null, .null, .null] [] 0 0 ks ρ σ37)))))))))) ∧ (¬ r12 = 0 → tn_CI m_X6_rankles [.ref 39, .int y2] ks ρ σ30 (fun r14 σ38 => ((r14 = 0 → tn_CI m_X6_owns [.ref 39, .int y2] ks ρ σ38 (fun r15 σ39 => tn_CI m_X6_quietIn [.ref 39, .int (20 : Int32)] ks ρ σ39 (fun r16 σ40 => ((¬ r16 = (-9 : Int32) → (vp_in ((2 : Int32) * y3) 8 ∧ (∀ σ41, σ41 = tn_u σ40 51 ((2 : Int32) * y3).toNatClampNeg ((6 : Int32) + r16) → (vp_in (((2 : Int32) * y3) + (1 : Int32)) 8 ∧ (∀ σ42, σ42 = tn_u σ41 51 (((2 : Int32) * y3) + (1 : Int32)).toNatClampNeg ((6 : Int32) + r16) → tn_CV m_X6_putBack [.ref 39, .int (0 : Int32)] ks ρ σ42 (fun σ43 => (∀ x9 : Int32, x9 = y3 + (1 : Int32) → tn_A Γ 7 [.ref 39, .int y1, .int y2, .int x9, .null, .null, .null] [] 0 0 ks ρ σ43))))))) ∧ (r16 = (-9 : Int32) → (vp_in ((2 : Int32) * y3) 8 ∧ (∀ σ44, σ44 = tn_u σ40 51 ((2 : Int32) * y3).toNatClampNeg ((6 : Int32) + (20 : Int32)) → (vp_in (((2 : Int32) * y3) + (1 : Int32)) 8 ∧ (∀ σ45, σ45 = tn_u σ44 51 (((2 : Int32) * y3) + (1 : Int32)).toNatClampNeg ((6 : Int32) + (20 : Int32)) → tn_CV m_X6_putBack [.ref 39, .int (0 : Int32)] ks ρ σ45 (fun σ46 => (∀ x10 : Int32, x10 = y3 + (1 : Int32) → tn_A Γ 7 [.ref 39, .int y1, .int y2, .int x10, .null, .null, .null] [] 0 0 ks ρ σ46))))))))))) ∧ (¬ r14 = 0 → tn_CI m_X6_weightOf [.ref 39, .int y2] ks ρ σ38 (fun r17 σ47 => tn_CI m_X6_owns [.ref 39, .int y2] ks ρ σ47 (fun r18 σ48 => tn_CI m_X6_quietIn [.ref 39, .int (20 : Int32)] ks ρ σ48 (fun r19 σ49 => ((¬ r19 = (-9 : Int32) → (vp_in ((2 : Int32) * y3) 8 ∧ (∀ σ50, σ50 = tn_u σ49 51 ((2 : Int32) * y3).toNatClampNeg ((6 : Int32) + r19) → (vp_in (((2 : Int32) * y3) + (1 : Int32)) 8 ∧ (∀ σ51, σ51 = tn_u σ50 51 (((2 : Int32) * y3) + (1 : Int32)).toNatClampNeg (r17 + r19) → tn_CV m_X6_putBack [.ref 39, .int (0 : Int32)] ks ρ σ51 (fun σ52 => (∀ x11 : Int32, x11 = y3 + (1 : Int32) → tn_A Γ 7 [.ref 39, .int y1, .int y2, .int x11, .null, .null, .null] [] 0 0 ks ρ σ52))))))) ∧ (r19 = (-9 : Int32) → (vp_in ((2 : Int32) * y3) 8 ∧ (∀ σ53, σ53 = tn_u σ49 51 ((2 : Int32) * y3).toNatClampNeg ((6 : Int32) + (20 : Int32)) → (vp_in (((2 : Int32) * y3) + (1 : Int32)) 8 ∧ (∀ σ54, σ54 = tn_u σ53 51 (((2 : Int32) * y3) + (1 : Int32)).toNatClampNeg (r17 + (20 : Int32)) → tn_CV m_X6_putBack [.ref 39, .int (0 : Int32)] ks ρ σ54 (fun σ55 => (∀ x12 : Int32, x12 = y3 + (1 : Int32) → tn_A Γ 7 [.ref 39, .int y1, .int y2, .int x12, .null, .null, .null] [] 0 0 ks ρ σ55))))))))))))))))))) ∧ (¬ r10 = 0 → tn_CI m_X6_weightOf [.ref 39, .int y1] ks ρ σ28 (fun r20 σ56 => tn_CI m_X6_owns [.ref 39, .int y1] ks ρ σ56 (fun r21 σ57 => tn_CI m_X6_isOf [.int y3, .int (1 : Int32)] ks ρ σ57 (fun r22 σ58 => ((r22 = 0 → tn_CI m_X6_quietIn [.ref 39, .int (20 : Int32)] ks ρ σ58 (fun r23 σ59 => ((¬ r23 = (-9 : Int32) → (vp_in ((2 : Int32) * y3) 8 ∧ (∀ σ60, σ60 = tn_u σ59 51 ((2 : Int32) * y3).toNatClampNeg (r20 + r23) → (vp_in (((2 : Int32) * y3) + (1 : Int32)) 8 ∧ (∀ σ61, σ61 = tn_u σ60 51 (((2 : Int32) * y3) + (1 : Int32)).toNatClampNeg ((0 : Int32) + r23) → tn_CV m_X6_putBack [.ref 39, .int (0 : Int32)] ks ρ σ61 (fun σ62 => (∀ x13 : Int32, x13 = y3 + (1 : Int32) → tn_A Γ 7 [.ref 39, .int y1, .int y2, .int x13, .null, .null, .null] [] 0 0 ks ρ σ62))))))) ∧ (r23 = (-9 : Int32) → (vp_in ((2 : Int32) * y3) 8 ∧ (∀ σ63, σ63 = tn_u σ59 51 ((2 : Int32) * y3).toNatClampNeg (r20 + (20 : Int32)) → (vp_in (((2 : Int32) * y3) + (1 : Int32)) 8 ∧ (∀ σ64, σ64 = tn_u σ63 51 (((2 : Int32) * y3) + (1 : Int32)).toNatClampNeg ((0 : Int32) + (20 : Int32)) → tn_CV m_X6_putBack [.ref 39, .int (0 : Int32)] ks ρ σ64 (fun σ65 => (∀ x14 : Int32, x14 = y3 + (1 : Int32) → tn_A Γ 7 [.ref 39, .int y1, .int y2, .int x14, .null, .null, .null] [] 0 0 ks ρ σ65)))))))))) ∧ (¬ r22 = 0 → tn_CI m_X6_rankles [.ref 39, .int y2] ks ρ σ58 (fun r24 σ66 => ((r24 = 0 → tn_CI m_X6_owns [.ref 39, .int y2] ks ρ σ66 (fun r25 σ67 => tn_CI m_X6_quietIn [.ref 39, .int (20 : Int32)] ks ρ σ67 (fun r26 σ68 => ((¬ r26 = (-9 : Int32) → (vp_in ((2 : Int32) * y3) 8 ∧ (∀ σ69, σ69 = tn_u σ68 51 ((2 : Int32) * y3).toNatClampNeg (r20 + r26) → (vp_in (((2 : Int32) * y3) + (1 : Int32)) 8 ∧ (∀ σ70, σ70 = tn_u σ69 51 (((2 : Int32) * y3) + (1 : Int32)).toNatClampNeg ((6 : Int32) + r26) → tn_CV m_X6_putBack [.ref 39, .int (0 : Int32)] ks ρ σ70 (fun σ71 => (∀ x15 : Int32, x15 = y3 + (1 : Int32) → tn_A Γ 7 [.ref 39, .int y1, .int y2, .int x15, .null, .null, .null] [] 0 0 ks ρ σ71))))))) ∧ (r26 = (-9 : Int32) → (vp_in ((2 : Int32) * y3) 8 ∧ (∀ σ72, σ72 = tn_u σ68 51 ((2 : Int32) * y3).toNatClampNeg (r20 + (20 : Int32)) → (vp_in (((2 : Int32) * y3) + (1 : Int32)) 8 ∧ (∀ σ73, σ73 = tn_u σ72 51 (((2 : Int32) * y3) + (1 : Int32)).toNatClampNeg ((6 : Int32) + (20 : Int32)) → tn_CV m_X6_putBack [.ref 39, .int (0 : Int32)] ks ρ σ73 (fun σ74 => (∀ x16 : Int32, x16 = y3 + (1 : Int32) → tn_A Γ 7 [.ref 39, .int y1, .int y2, .int x16, .null, .null, .null] [] 0 0 ks ρ σ74))))))))))) ∧ (¬ r24 = 0 → tn_CI m_X6_weightOf [.ref 39, .int y2] ks ρ σ66 (fun r27 σ75 => tn_CI m_X6_owns [.ref 39, .int y2] ks ρ σ75 (fun r28 σ76 => tn_CI m_X6_quietIn [.ref 39, .int (20 : Int32)] ks ρ σ76 (fun r29 σ77 => ((¬ r29 = (-9 : Int32) → (vp_in ((2 : Int32) * y3) 8 ∧ (∀ σ78, σ78 = tn_u σ77 51 ((2 : Int32) * y3).toNatClampNeg (r20 + r29) → (vp_in (((2 : Int32) * y3) + (1 : Int32)) 8 ∧ (∀ σ79, σ79 = tn_u σ78 51 (((2 : Int32) * y3) + (1 : Int32)).toNatClampNeg (r27 + r29) → tn_CV m_X6_putBack [.ref 39, .int (0 : Int32)] ks ρ σ79 (fun σ80 => (∀ x17 : Int32, x17 = y3 + (1 : Int32) → tn_A Γ 7 [.ref 39, .int y1, .int y2, .int x17, .null, .null, .null] [] 0 0 ks ρ σ80))))))) ∧ (r29 = (-9 : Int32) → (vp_in ((2 : Int32) * y3) 8 ∧ (∀ σ81, σ81 = tn_u σ77 51 ((2 : Int32) * y3).toNatClampNeg (r20 + (20 : Int32)) → (vp_in (((2 : Int32) * y3) + (1 : Int32)) 8 ∧ (∀ σ82, σ82 = tn_u σ81 51 (((2 : Int32) * y3) + (1 : Int32)).toNatClampNeg (r27 + (20 : Int32)) → tn_CV m_X6_putBack [.ref 39, .int (0 : Int32)] ks ρ σ82 (fun σ83 => (∀ x18 : Int32, x18 = y3 + (1 : Int32) → tn_A Γ 7 [.ref 39, .int y1, .int y2, .int x18, .null, .null, .null] [] 0 0 ks ρ σ83)))))))))))))))))))))))))))) : tn_A Γ 7 [.ref 39, .int y1, .int y2, .int y3, .null, .null, .null] [] 0 0 ks ρ σ := by
  refine tn_iload_n (pc := 7) hΓ d_X6_findPains_7 rfl ?_
  refine tn_iconst (pc := 8) hΓ d_X6_findPains_8 ic_4 ?_
  refine tn_icmp_ge (tgt := 149) (pc := 9) hΓ d_X6_findPains_9 (by decide) (fun hq => ?_) (fun hq => ?_)
  · have h := h.1 hq
    exact tn_ret_v (pc := 149) hΓ hK d_X6_findPains_149 rfl (by decide) (by decide) h
  · have h := h.2 hq
    refine tn_iconst (pc := 12) hΓ d_X6_findPains_12 ic_0 ?_
    refine tn_istore (loc' := [.ref 39, .int y1, .int y2, .int y3, .int (0 : Int32), .null, .null]) (pc := 13) hΓ d_X6_findPains_13 (by decide) rfl rfl ?_
    refine tn_iconst (pc := 15) hΓ d_X6_findPains_15 ic_0 ?_
    refine tn_istore (loc' := [.ref 39, .int y1, .int y2, .int y3, .int (0 : Int32), .int (0 : Int32), .null]) (pc := 16) hΓ d_X6_findPains_16 (by decide) rfl rfl ?_
    refine tn_iload_n (pc := 18) hΓ d_X6_findPains_18 rfl ?_
    refine tn_iconst (pc := 19) hΓ d_X6_findPains_19 ic_0 ?_
    refine tn_csI (As := [.int y3, .int (0 : Int32)]) (st := []) (pc := 20) hΓ d_X6_findPains_20 mv_X6_isOf st_X6_isOf ml_6_136 ⟨⟨by decide, by decide⟩, by decide, by decide⟩ rfl rfl rfl (Nat.le_of_ble_eq_true rfl) rfl h (fun r1 σ1 h => ?_)
    refine tn_if_eq (tgt := 52) (pc := 23) hΓ d_X6_findPains_23 (by decide) (fun hq => ?_) (fun hq => ?_)
    · have h := h.1 hq
      refine tn_iload_n (pc := 52) hΓ d_X6_findPains_52 rfl ?_
      refine tn_iconst (pc := 53) hΓ d_X6_findPains_53 ic_1 ?_
      refine tn_csI (As := [.int y3, .int (1 : Int32)]) (st := []) (pc := 54) hΓ d_X6_findPains_54 mv_X6_isOf st_X6_isOf ml_6_136 ⟨⟨by decide, by decide⟩, by decide, by decide⟩ rfl rfl rfl (Nat.le_of_ble_eq_true rfl) rfl h (fun r2 σ2 h => ?_)
      refine tn_if_eq (tgt := 86) (pc := 57) hΓ d_X6_findPains_57 (by decide) (fun hq => ?_) (fun hq => ?_)
      · have h := h.1 hq
        refine tn_aload_n (pc := 86) hΓ d_X6_findPains_86 rfl ?_
        refine tn_bipush (pc := 87) hΓ d_X6_findPains_87 bp_20 ?_
        refine tn_cvI (As := [.int (20 : Int32)]) (st := []) (pc := 89) hΓ d_X6_findPains_89 mv_X6_quietIn im_X6_quietIn se_X6_quietIn ml_6_184 ⟨⟨by decide, by decide⟩, by decide, by decide⟩ rfl rfl rfl (by decide) ⟨_, rfl⟩ (gd_k hG (c := 39) rfl) (Nat.le_of_ble_eq_true rfl) rfl h (fun r3 σ3 h => ?_)
        refine tn_istore (loc' := [.ref 39, .int y1, .int y2, .int y3, .int (0 : Int32), .int (0 : Int32), .int r3]) (pc := 92) hΓ d_X6_findPains_92 (by decide) rfl rfl ?_
        refine tn_iload (pc := 94) hΓ d_X6_findPains_94 rfl ?_
        refine tn_bipush (pc := 96) hΓ d_X6_findPains_96 bp_m9 ?_
        refine tn_icmp_ne (tgt := 106) (pc := 98) hΓ d_X6_findPains_98 (by decide) (fun hq => ?_) (fun hq => ?_)
        · have h := h.1 hq
          refine tn_iload (pc := 106) hΓ d_X6_findPains_106 rfl ?_
          refine tn_istore (loc' := [.ref 39, .int y1, .int y2, .int y3, .int (0 : Int32), .int (0 : Int32), .int r3]) (pc := 108) hΓ d_X6_findPains_108 (by decide) rfl rfl ?_
          refine tn_aload_n (pc := 110) hΓ d_X6_findPains_110 rfl ?_
          refine tn_getRy (y := 51) (pc := 111) hΓ d_X6_findPains_111 fl_6_43 rfl (gd_k hG (c := 39) rfl) (gd_r hG 39 25 51 rfl rfl) ?_
          refine tn_iconst (pc := 114) hΓ d_X6_findPains_114 ic_2 ?_
          refine tn_iload_n (pc := 115) hΓ d_X6_findPains_115 rfl ?_
          refine tn_imul (pc := 116) hΓ d_X6_findPains_116 ?_
          refine tn_iload (pc := 117) hΓ d_X6_findPains_117 rfl ?_
          refine tn_iload (pc := 119) hΓ d_X6_findPains_119 rfl ?_
          refine tn_iadd (pc := 121) hΓ d_X6_findPains_121 ?_
          obtain ⟨hi1, h⟩ := h
          refine tn_ast (pc := 122) hΓ d_X6_findPains_122 (gd_k hG (c := 51) rfl) hi1 ?_
          refine tn_tops (fun σ4 eσ4 => ?_)
          have h := h σ4 eσ4
          refine tn_aload_n (pc := 123) hΓ d_X6_findPains_123 rfl ?_
          refine tn_getRy (y := 51) (pc := 124) hΓ d_X6_findPains_124 fl_6_43 rfl (gd_k hG (c := 39) rfl) (gd_r hG 39 25 51 rfl rfl) ?_
          refine tn_iconst (pc := 127) hΓ d_X6_findPains_127 ic_2 ?_
          refine tn_iload_n (pc := 128) hΓ d_X6_findPains_128 rfl ?_
          refine tn_imul (pc := 129) hΓ d_X6_findPains_129 ?_
          refine tn_iconst (pc := 130) hΓ d_X6_findPains_130 ic_1 ?_
          refine tn_iadd (pc := 131) hΓ d_X6_findPains_131 ?_
          refine tn_iload (pc := 132) hΓ d_X6_findPains_132 rfl ?_
          refine tn_iload (pc := 134) hΓ d_X6_findPains_134 rfl ?_
          refine tn_iadd (pc := 136) hΓ d_X6_findPains_136 ?_
          obtain ⟨hi2, h⟩ := h
          refine tn_ast (pc := 137) hΓ d_X6_findPains_137 (gd_k hG (c := 51) rfl) hi2 ?_
          refine tn_tops (fun σ5 eσ5 => ?_)
          have h := h σ5 eσ5
          refine tn_aload_n (pc := 138) hΓ d_X6_findPains_138 rfl ?_
          refine tn_iconst (pc := 139) hΓ d_X6_findPains_139 ic_0 ?_
          refine tn_cvV (As := [.int (0 : Int32)]) (st := []) (pc := 140) hΓ d_X6_findPains_140 mv_X6_putBack im_X6_putBack se_X6_putBack ml_6_181 ⟨⟨by decide, by decide⟩, by decide, by decide⟩ rfl rfl rfl (by decide) ⟨_, rfl⟩ (gd_k hG (c := 39) rfl) (Nat.le_of_ble_eq_true rfl) rfl h (fun σ6 h => ?_)
          refine tn_iincw (loc' := fun v_ => [.ref 39, .int y1, .int y2, .int v_, .int (0 : Int32), .int (0 : Int32), .int r3]) (pc := 143) hΓ d_X6_findPains_143 rfl ic_1 (by decide) rfl (fun _ => rfl) (fun x1 ex1 => ?_)
          have h := h x1 ex1
          refine tn_goto (tgt := 7) (pc := 146) hΓ d_X6_findPains_146 (by decide) ?_
          refine tn_drop [true, true, true, true, false, false, false] (loc' := [.ref 39, .int y1, .int y2, .int x1, .null, .null, .null]) rfl ?_
          exact h
        · have h := h.2 hq
          refine tn_bipush (pc := 101) hΓ d_X6_findPains_101 bp_20 ?_
          refine tn_goto (tgt := 108) (pc := 103) hΓ d_X6_findPains_103 (by decide) ?_
          refine tn_istore (loc' := [.ref 39, .int y1, .int y2, .int y3, .int (0 : Int32), .int (0 : Int32), .int (20 : Int32)]) (pc := 108) hΓ d_X6_findPains_108 (by decide) rfl rfl ?_
          refine tn_aload_n (pc := 110) hΓ d_X6_findPains_110 rfl ?_
          refine tn_getRy (y := 51) (pc := 111) hΓ d_X6_findPains_111 fl_6_43 rfl (gd_k hG (c := 39) rfl) (gd_r hG 39 25 51 rfl rfl) ?_
          refine tn_iconst (pc := 114) hΓ d_X6_findPains_114 ic_2 ?_
          refine tn_iload_n (pc := 115) hΓ d_X6_findPains_115 rfl ?_
          refine tn_imul (pc := 116) hΓ d_X6_findPains_116 ?_
          refine tn_iload (pc := 117) hΓ d_X6_findPains_117 rfl ?_
          refine tn_iload (pc := 119) hΓ d_X6_findPains_119 rfl ?_
          refine tn_iadd (pc := 121) hΓ d_X6_findPains_121 ?_
          obtain ⟨hi3, h⟩ := h
          refine tn_ast (pc := 122) hΓ d_X6_findPains_122 (gd_k hG (c := 51) rfl) hi3 ?_
          refine tn_tops (fun σ7 eσ7 => ?_)
          have h := h σ7 eσ7
          refine tn_aload_n (pc := 123) hΓ d_X6_findPains_123 rfl ?_
          refine tn_getRy (y := 51) (pc := 124) hΓ d_X6_findPains_124 fl_6_43 rfl (gd_k hG (c := 39) rfl) (gd_r hG 39 25 51 rfl rfl) ?_
          refine tn_iconst (pc := 127) hΓ d_X6_findPains_127 ic_2 ?_
          refine tn_iload_n (pc := 128) hΓ d_X6_findPains_128 rfl ?_
          refine tn_imul (pc := 129) hΓ d_X6_findPains_129 ?_
          refine tn_iconst (pc := 130) hΓ d_X6_findPains_130 ic_1 ?_
          refine tn_iadd (pc := 131) hΓ d_X6_findPains_131 ?_
          refine tn_iload (pc := 132) hΓ d_X6_findPains_132 rfl ?_
          refine tn_iload (pc := 134) hΓ d_X6_findPains_134 rfl ?_
          refine tn_iadd (pc := 136) hΓ d_X6_findPains_136 ?_
          obtain ⟨hi4, h⟩ := h
          refine tn_ast (pc := 137) hΓ d_X6_findPains_137 (gd_k hG (c := 51) rfl) hi4 ?_
          refine tn_tops (fun σ8 eσ8 => ?_)
          have h := h σ8 eσ8
          refine tn_aload_n (pc := 138) hΓ d_X6_findPains_138 rfl ?_
          refine tn_iconst (pc := 139) hΓ d_X6_findPains_139 ic_0 ?_
          refine tn_cvV (As := [.int (0 : Int32)]) (st := []) (pc := 140) hΓ d_X6_findPains_140 mv_X6_putBack im_X6_putBack se_X6_putBack ml_6_181 ⟨⟨by decide, by decide⟩, by decide, by decide⟩ rfl rfl rfl (by decide) ⟨_, rfl⟩ (gd_k hG (c := 39) rfl) (Nat.le_of_ble_eq_true rfl) rfl h (fun σ9 h => ?_)
          refine tn_iincw (loc' := fun v_ => [.ref 39, .int y1, .int y2, .int v_, .int (0 : Int32), .int (0 : Int32), .int (20 : Int32)]) (pc := 143) hΓ d_X6_findPains_143 rfl ic_1 (by decide) rfl (fun _ => rfl) (fun x2 ex2 => ?_)
          have h := h x2 ex2
          refine tn_goto (tgt := 7) (pc := 146) hΓ d_X6_findPains_146 (by decide) ?_
          refine tn_drop [true, true, true, true, false, false, false] (loc' := [.ref 39, .int y1, .int y2, .int x2, .null, .null, .null]) rfl ?_
          exact h
      · have h := h.2 hq
        refine tn_aload_n (pc := 60) hΓ d_X6_findPains_60 rfl ?_
        refine tn_iload_n (pc := 61) hΓ d_X6_findPains_61 rfl ?_
        refine tn_cvI (As := [.int y2]) (st := []) (pc := 62) hΓ d_X6_findPains_62 mv_X6_rankles im_X6_rankles se_X6_rankles ml_6_142 ⟨⟨by decide, by decide⟩, by decide, by decide⟩ rfl rfl rfl (by decide) ⟨_, rfl⟩ (gd_k hG (c := 39) rfl) (Nat.le_of_ble_eq_true rfl) rfl h (fun r4 σ10 h => ?_)
        refine tn_if_eq (tgt := 76) (pc := 65) hΓ d_X6_findPains_65 (by decide) (fun hq => ?_) (fun hq => ?_)
        · have h := h.1 hq
          refine tn_bipush (pc := 76) hΓ d_X6_findPains_76 bp_6 ?_
          refine tn_istore (loc' := [.ref 39, .int y1, .int y2, .int y3, .int (0 : Int32), .int (6 : Int32), .null]) (pc := 78) hΓ d_X6_findPains_78 (by decide) rfl rfl ?_
          refine tn_aload_n (pc := 80) hΓ d_X6_findPains_80 rfl ?_
          refine tn_iload_n (pc := 81) hΓ d_X6_findPains_81 rfl ?_
          refine tn_cvI (As := [.int y2]) (st := []) (pc := 82) hΓ d_X6_findPains_82 mv_X6_owns im_X6_owns se_X6_owns ml_6_155 ⟨⟨by decide, by decide⟩, by decide, by decide⟩ rfl rfl rfl (by decide) ⟨_, rfl⟩ (gd_k hG (c := 39) rfl) (Nat.le_of_ble_eq_true rfl) rfl h (fun r5 σ11 h => ?_)
          refine tn_popi (pc := 85) hΓ d_X6_findPains_85 ?_
          refine tn_aload_n (pc := 86) hΓ d_X6_findPains_86 rfl ?_
          refine tn_bipush (pc := 87) hΓ d_X6_findPains_87 bp_20 ?_
          refine tn_cvI (As := [.int (20 : Int32)]) (st := []) (pc := 89) hΓ d_X6_findPains_89 mv_X6_quietIn im_X6_quietIn se_X6_quietIn ml_6_184 ⟨⟨by decide, by decide⟩, by decide, by decide⟩ rfl rfl rfl (by decide) ⟨_, rfl⟩ (gd_k hG (c := 39) rfl) (Nat.le_of_ble_eq_true rfl) rfl h (fun r6 σ12 h => ?_)
          refine tn_istore (loc' := [.ref 39, .int y1, .int y2, .int y3, .int (0 : Int32), .int (6 : Int32), .int r6]) (pc := 92) hΓ d_X6_findPains_92 (by decide) rfl rfl ?_
          refine tn_iload (pc := 94) hΓ d_X6_findPains_94 rfl ?_
          refine tn_bipush (pc := 96) hΓ d_X6_findPains_96 bp_m9 ?_
          refine tn_icmp_ne (tgt := 106) (pc := 98) hΓ d_X6_findPains_98 (by decide) (fun hq => ?_) (fun hq => ?_)
          · have h := h.1 hq
            refine tn_iload (pc := 106) hΓ d_X6_findPains_106 rfl ?_
            refine tn_istore (loc' := [.ref 39, .int y1, .int y2, .int y3, .int (0 : Int32), .int (6 : Int32), .int r6]) (pc := 108) hΓ d_X6_findPains_108 (by decide) rfl rfl ?_
            refine tn_aload_n (pc := 110) hΓ d_X6_findPains_110 rfl ?_
            refine tn_getRy (y := 51) (pc := 111) hΓ d_X6_findPains_111 fl_6_43 rfl (gd_k hG (c := 39) rfl) (gd_r hG 39 25 51 rfl rfl) ?_
            refine tn_iconst (pc := 114) hΓ d_X6_findPains_114 ic_2 ?_
            refine tn_iload_n (pc := 115) hΓ d_X6_findPains_115 rfl ?_
            refine tn_imul (pc := 116) hΓ d_X6_findPains_116 ?_
            refine tn_iload (pc := 117) hΓ d_X6_findPains_117 rfl ?_
            refine tn_iload (pc := 119) hΓ d_X6_findPains_119 rfl ?_
            refine tn_iadd (pc := 121) hΓ d_X6_findPains_121 ?_
            obtain ⟨hi5, h⟩ := h
            refine tn_ast (pc := 122) hΓ d_X6_findPains_122 (gd_k hG (c := 51) rfl) hi5 ?_
            refine tn_tops (fun σ13 eσ13 => ?_)
            have h := h σ13 eσ13
            refine tn_aload_n (pc := 123) hΓ d_X6_findPains_123 rfl ?_
            refine tn_getRy (y := 51) (pc := 124) hΓ d_X6_findPains_124 fl_6_43 rfl (gd_k hG (c := 39) rfl) (gd_r hG 39 25 51 rfl rfl) ?_
            refine tn_iconst (pc := 127) hΓ d_X6_findPains_127 ic_2 ?_
            refine tn_iload_n (pc := 128) hΓ d_X6_findPains_128 rfl ?_
            refine tn_imul (pc := 129) hΓ d_X6_findPains_129 ?_
            refine tn_iconst (pc := 130) hΓ d_X6_findPains_130 ic_1 ?_
            refine tn_iadd (pc := 131) hΓ d_X6_findPains_131 ?_
            refine tn_iload (pc := 132) hΓ d_X6_findPains_132 rfl ?_
            refine tn_iload (pc := 134) hΓ d_X6_findPains_134 rfl ?_
            refine tn_iadd (pc := 136) hΓ d_X6_findPains_136 ?_
            obtain ⟨hi6, h⟩ := h
            refine tn_ast (pc := 137) hΓ d_X6_findPains_137 (gd_k hG (c := 51) rfl) hi6 ?_
            refine tn_tops (fun σ14 eσ14 => ?_)
            have h := h σ14 eσ14
            refine tn_aload_n (pc := 138) hΓ d_X6_findPains_138 rfl ?_
            refine tn_iconst (pc := 139) hΓ d_X6_findPains_139 ic_0 ?_
            refine tn_cvV (As := [.int (0 : Int32)]) (st := []) (pc := 140) hΓ d_X6_findPains_140 mv_X6_putBack im_X6_putBack se_X6_putBack ml_6_181 ⟨⟨by decide, by decide⟩, by decide, by decide⟩ rfl rfl rfl (by decide) ⟨_, rfl⟩ (gd_k hG (c := 39) rfl) (Nat.le_of_ble_eq_true rfl) rfl h (fun σ15 h => ?_)
            refine tn_iincw (loc' := fun v_ => [.ref 39, .int y1, .int y2, .int v_, .int (0 : Int32), .int (6 : Int32), .int r6]) (pc := 143) hΓ d_X6_findPains_143 rfl ic_1 (by decide) rfl (fun _ => rfl) (fun x3 ex3 => ?_)
            have h := h x3 ex3
            refine tn_goto (tgt := 7) (pc := 146) hΓ d_X6_findPains_146 (by decide) ?_
            refine tn_drop [true, true, true, true, false, false, false] (loc' := [.ref 39, .int y1, .int y2, .int x3, .null, .null, .null]) rfl ?_
            exact h
          · have h := h.2 hq
            refine tn_bipush (pc := 101) hΓ d_X6_findPains_101 bp_20 ?_
            refine tn_goto (tgt := 108) (pc := 103) hΓ d_X6_findPains_103 (by decide) ?_
            refine tn_istore (loc' := [.ref 39, .int y1, .int y2, .int y3, .int (0 : Int32), .int (6 : Int32), .int (20 : Int32)]) (pc := 108) hΓ d_X6_findPains_108 (by decide) rfl rfl ?_
            refine tn_aload_n (pc := 110) hΓ d_X6_findPains_110 rfl ?_
            refine tn_getRy (y := 51) (pc := 111) hΓ d_X6_findPains_111 fl_6_43 rfl (gd_k hG (c := 39) rfl) (gd_r hG 39 25 51 rfl rfl) ?_
            refine tn_iconst (pc := 114) hΓ d_X6_findPains_114 ic_2 ?_
            refine tn_iload_n (pc := 115) hΓ d_X6_findPains_115 rfl ?_
            refine tn_imul (pc := 116) hΓ d_X6_findPains_116 ?_
            refine tn_iload (pc := 117) hΓ d_X6_findPains_117 rfl ?_
            refine tn_iload (pc := 119) hΓ d_X6_findPains_119 rfl ?_
            refine tn_iadd (pc := 121) hΓ d_X6_findPains_121 ?_
            obtain ⟨hi7, h⟩ := h
            refine tn_ast (pc := 122) hΓ d_X6_findPains_122 (gd_k hG (c := 51) rfl) hi7 ?_
            refine tn_tops (fun σ16 eσ16 => ?_)
            have h := h σ16 eσ16
            refine tn_aload_n (pc := 123) hΓ d_X6_findPains_123 rfl ?_
            refine tn_getRy (y := 51) (pc := 124) hΓ d_X6_findPains_124 fl_6_43 rfl (gd_k hG (c := 39) rfl) (gd_r hG 39 25 51 rfl rfl) ?_
            refine tn_iconst (pc := 127) hΓ d_X6_findPains_127 ic_2 ?_
            refine tn_iload_n (pc := 128) hΓ d_X6_findPains_128 rfl ?_
            refine tn_imul (pc := 129) hΓ d_X6_findPains_129 ?_
            refine tn_iconst (pc := 130) hΓ d_X6_findPains_130 ic_1 ?_
            refine tn_iadd (pc := 131) hΓ d_X6_findPains_131 ?_
            refine tn_iload (pc := 132) hΓ d_X6_findPains_132 rfl ?_
            refine tn_iload (pc := 134) hΓ d_X6_findPains_134 rfl ?_
            refine tn_iadd (pc := 136) hΓ d_X6_findPains_136 ?_
            obtain ⟨hi8, h⟩ := h
            refine tn_ast (pc := 137) hΓ d_X6_findPains_137 (gd_k hG (c := 51) rfl) hi8 ?_
            refine tn_tops (fun σ17 eσ17 => ?_)
            have h := h σ17 eσ17
            refine tn_aload_n (pc := 138) hΓ d_X6_findPains_138 rfl ?_
            refine tn_iconst (pc := 139) hΓ d_X6_findPains_139 ic_0 ?_
            refine tn_cvV (As := [.int (0 : Int32)]) (st := []) (pc := 140) hΓ d_X6_findPains_140 mv_X6_putBack im_X6_putBack se_X6_putBack ml_6_181 ⟨⟨by decide, by decide⟩, by decide, by decide⟩ rfl rfl rfl (by decide) ⟨_, rfl⟩ (gd_k hG (c := 39) rfl) (Nat.le_of_ble_eq_true rfl) rfl h (fun σ18 h => ?_)
            refine tn_iincw (loc' := fun v_ => [.ref 39, .int y1, .int y2, .int v_, .int (0 : Int32), .int (6 : Int32), .int (20 : Int32)]) (pc := 143) hΓ d_X6_findPains_143 rfl ic_1 (by decide) rfl (fun _ => rfl) (fun x4 ex4 => ?_)
            have h := h x4 ex4
            refine tn_goto (tgt := 7) (pc := 146) hΓ d_X6_findPains_146 (by decide) ?_
            refine tn_drop [true, true, true, true, false, false, false] (loc' := [.ref 39, .int y1, .int y2, .int x4, .null, .null, .null]) rfl ?_
            exact h
        · have h := h.2 hq
          refine tn_aload_n (pc := 68) hΓ d_X6_findPains_68 rfl ?_
          refine tn_iload_n (pc := 69) hΓ d_X6_findPains_69 rfl ?_
          refine tn_cvI (As := [.int y2]) (st := []) (pc := 70) hΓ d_X6_findPains_70 mv_X6_weightOf im_X6_weightOf se_X6_weightOf ml_6_139 ⟨⟨by decide, by decide⟩, by decide, by decide⟩ rfl rfl rfl (by decide) ⟨_, rfl⟩ (gd_k hG (c := 39) rfl) (Nat.le_of_ble_eq_true rfl) rfl h (fun r7 σ19 h => ?_)
          refine tn_goto (tgt := 78) (pc := 73) hΓ d_X6_findPains_73 (by decide) ?_
          refine tn_istore (loc' := [.ref 39, .int y1, .int y2, .int y3, .int (0 : Int32), .int r7, .null]) (pc := 78) hΓ d_X6_findPains_78 (by decide) rfl rfl ?_
          refine tn_aload_n (pc := 80) hΓ d_X6_findPains_80 rfl ?_
          refine tn_iload_n (pc := 81) hΓ d_X6_findPains_81 rfl ?_
          refine tn_cvI (As := [.int y2]) (st := []) (pc := 82) hΓ d_X6_findPains_82 mv_X6_owns im_X6_owns se_X6_owns ml_6_155 ⟨⟨by decide, by decide⟩, by decide, by decide⟩ rfl rfl rfl (by decide) ⟨_, rfl⟩ (gd_k hG (c := 39) rfl) (Nat.le_of_ble_eq_true rfl) rfl h (fun r8 σ20 h => ?_)
          refine tn_popi (pc := 85) hΓ d_X6_findPains_85 ?_
          refine tn_aload_n (pc := 86) hΓ d_X6_findPains_86 rfl ?_
          refine tn_bipush (pc := 87) hΓ d_X6_findPains_87 bp_20 ?_
          refine tn_cvI (As := [.int (20 : Int32)]) (st := []) (pc := 89) hΓ d_X6_findPains_89 mv_X6_quietIn im_X6_quietIn se_X6_quietIn ml_6_184 ⟨⟨by decide, by decide⟩, by decide, by decide⟩ rfl rfl rfl (by decide) ⟨_, rfl⟩ (gd_k hG (c := 39) rfl) (Nat.le_of_ble_eq_true rfl) rfl h (fun r9 σ21 h => ?_)
          refine tn_istore (loc' := [.ref 39, .int y1, .int y2, .int y3, .int (0 : Int32), .int r7, .int r9]) (pc := 92) hΓ d_X6_findPains_92 (by decide) rfl rfl ?_
          refine tn_iload (pc := 94) hΓ d_X6_findPains_94 rfl ?_
          refine tn_bipush (pc := 96) hΓ d_X6_findPains_96 bp_m9 ?_
          refine tn_icmp_ne (tgt := 106) (pc := 98) hΓ d_X6_findPains_98 (by decide) (fun hq => ?_) (fun hq => ?_)
          · have h := h.1 hq
            refine tn_iload (pc := 106) hΓ d_X6_findPains_106 rfl ?_
            refine tn_istore (loc' := [.ref 39, .int y1, .int y2, .int y3, .int (0 : Int32), .int r7, .int r9]) (pc := 108) hΓ d_X6_findPains_108 (by decide) rfl rfl ?_
            refine tn_aload_n (pc := 110) hΓ d_X6_findPains_110 rfl ?_
            refine tn_getRy (y := 51) (pc := 111) hΓ d_X6_findPains_111 fl_6_43 rfl (gd_k hG (c := 39) rfl) (gd_r hG 39 25 51 rfl rfl) ?_
            refine tn_iconst (pc := 114) hΓ d_X6_findPains_114 ic_2 ?_
            refine tn_iload_n (pc := 115) hΓ d_X6_findPains_115 rfl ?_
            refine tn_imul (pc := 116) hΓ d_X6_findPains_116 ?_
            refine tn_iload (pc := 117) hΓ d_X6_findPains_117 rfl ?_
            refine tn_iload (pc := 119) hΓ d_X6_findPains_119 rfl ?_
            refine tn_iadd (pc := 121) hΓ d_X6_findPains_121 ?_
            obtain ⟨hi9, h⟩ := h
            refine tn_ast (pc := 122) hΓ d_X6_findPains_122 (gd_k hG (c := 51) rfl) hi9 ?_
            refine tn_tops (fun σ22 eσ22 => ?_)
            have h := h σ22 eσ22
            refine tn_aload_n (pc := 123) hΓ d_X6_findPains_123 rfl ?_
            refine tn_getRy (y := 51) (pc := 124) hΓ d_X6_findPains_124 fl_6_43 rfl (gd_k hG (c := 39) rfl) (gd_r hG 39 25 51 rfl rfl) ?_
            refine tn_iconst (pc := 127) hΓ d_X6_findPains_127 ic_2 ?_
            refine tn_iload_n (pc := 128) hΓ d_X6_findPains_128 rfl ?_
            refine tn_imul (pc := 129) hΓ d_X6_findPains_129 ?_
            refine tn_iconst (pc := 130) hΓ d_X6_findPains_130 ic_1 ?_
            refine tn_iadd (pc := 131) hΓ d_X6_findPains_131 ?_
            refine tn_iload (pc := 132) hΓ d_X6_findPains_132 rfl ?_
            refine tn_iload (pc := 134) hΓ d_X6_findPains_134 rfl ?_
            refine tn_iadd (pc := 136) hΓ d_X6_findPains_136 ?_
            obtain ⟨hi10, h⟩ := h
            refine tn_ast (pc := 137) hΓ d_X6_findPains_137 (gd_k hG (c := 51) rfl) hi10 ?_
            refine tn_tops (fun σ23 eσ23 => ?_)
            have h := h σ23 eσ23
            refine tn_aload_n (pc := 138) hΓ d_X6_findPains_138 rfl ?_
            refine tn_iconst (pc := 139) hΓ d_X6_findPains_139 ic_0 ?_
            refine tn_cvV (As := [.int (0 : Int32)]) (st := []) (pc := 140) hΓ d_X6_findPains_140 mv_X6_putBack im_X6_putBack se_X6_putBack ml_6_181 ⟨⟨by decide, by decide⟩, by decide, by decide⟩ rfl rfl rfl (by decide) ⟨_, rfl⟩ (gd_k hG (c := 39) rfl) (Nat.le_of_ble_eq_true rfl) rfl h (fun σ24 h => ?_)
            refine tn_iincw (loc' := fun v_ => [.ref 39, .int y1, .int y2, .int v_, .int (0 : Int32), .int r7, .int r9]) (pc := 143) hΓ d_X6_findPains_143 rfl ic_1 (by decide) rfl (fun _ => rfl) (fun x5 ex5 => ?_)
            have h := h x5 ex5
            refine tn_goto (tgt := 7) (pc := 146) hΓ d_X6_findPains_146 (by decide) ?_
            refine tn_drop [true, true, true, true, false, false, false] (loc' := [.ref 39, .int y1, .int y2, .int x5, .null, .null, .null]) rfl ?_
            exact h
          · have h := h.2 hq
            refine tn_bipush (pc := 101) hΓ d_X6_findPains_101 bp_20 ?_
            refine tn_goto (tgt := 108) (pc := 103) hΓ d_X6_findPains_103 (by decide) ?_
            refine tn_istore (loc' := [.ref 39, .int y1, .int y2, .int y3, .int (0 : Int32), .int r7, .int (20 : Int32)]) (pc := 108) hΓ d_X6_findPains_108 (by decide) rfl rfl ?_
            refine tn_aload_n (pc := 110) hΓ d_X6_findPains_110 rfl ?_
            refine tn_getRy (y := 51) (pc := 111) hΓ d_X6_findPains_111 fl_6_43 rfl (gd_k hG (c := 39) rfl) (gd_r hG 39 25 51 rfl rfl) ?_
            refine tn_iconst (pc := 114) hΓ d_X6_findPains_114 ic_2 ?_
            refine tn_iload_n (pc := 115) hΓ d_X6_findPains_115 rfl ?_
            refine tn_imul (pc := 116) hΓ d_X6_findPains_116 ?_
            refine tn_iload (pc := 117) hΓ d_X6_findPains_117 rfl ?_
            refine tn_iload (pc := 119) hΓ d_X6_findPains_119 rfl ?_
            refine tn_iadd (pc := 121) hΓ d_X6_findPains_121 ?_
            obtain ⟨hi11, h⟩ := h
            refine tn_ast (pc := 122) hΓ d_X6_findPains_122 (gd_k hG (c := 51) rfl) hi11 ?_
            refine tn_tops (fun σ25 eσ25 => ?_)
            have h := h σ25 eσ25
            refine tn_aload_n (pc := 123) hΓ d_X6_findPains_123 rfl ?_
            refine tn_getRy (y := 51) (pc := 124) hΓ d_X6_findPains_124 fl_6_43 rfl (gd_k hG (c := 39) rfl) (gd_r hG 39 25 51 rfl rfl) ?_
            refine tn_iconst (pc := 127) hΓ d_X6_findPains_127 ic_2 ?_
            refine tn_iload_n (pc := 128) hΓ d_X6_findPains_128 rfl ?_
            refine tn_imul (pc := 129) hΓ d_X6_findPains_129 ?_
            refine tn_iconst (pc := 130) hΓ d_X6_findPains_130 ic_1 ?_
            refine tn_iadd (pc := 131) hΓ d_X6_findPains_131 ?_
            refine tn_iload (pc := 132) hΓ d_X6_findPains_132 rfl ?_
            refine tn_iload (pc := 134) hΓ d_X6_findPains_134 rfl ?_
            refine tn_iadd (pc := 136) hΓ d_X6_findPains_136 ?_
            obtain ⟨hi12, h⟩ := h
            refine tn_ast (pc := 137) hΓ d_X6_findPains_137 (gd_k hG (c := 51) rfl) hi12 ?_
            refine tn_tops (fun σ26 eσ26 => ?_)
            have h := h σ26 eσ26
            refine tn_aload_n (pc := 138) hΓ d_X6_findPains_138 rfl ?_
            refine tn_iconst (pc := 139) hΓ d_X6_findPains_139 ic_0 ?_
            refine tn_cvV (As := [.int (0 : Int32)]) (st := []) (pc := 140) hΓ d_X6_findPains_140 mv_X6_putBack im_X6_putBack se_X6_putBack ml_6_181 ⟨⟨by decide, by decide⟩, by decide, by decide⟩ rfl rfl rfl (by decide) ⟨_, rfl⟩ (gd_k hG (c := 39) rfl) (Nat.le_of_ble_eq_true rfl) rfl h (fun σ27 h => ?_)
            refine tn_iincw (loc' := fun v_ => [.ref 39, .int y1, .int y2, .int v_, .int (0 : Int32), .int r7, .int (20 : Int32)]) (pc := 143) hΓ d_X6_findPains_143 rfl ic_1 (by decide) rfl (fun _ => rfl) (fun x6 ex6 => ?_)
            have h := h x6 ex6
            refine tn_goto (tgt := 7) (pc := 146) hΓ d_X6_findPains_146 (by decide) ?_
            refine tn_drop [true, true, true, true, false, false, false] (loc' := [.ref 39, .int y1, .int y2, .int x6, .null, .null, .null]) rfl ?_
            exact h
    · have h := h.2 hq
      refine tn_aload_n (pc := 26) hΓ d_X6_findPains_26 rfl ?_
      refine tn_iload_n (pc := 27) hΓ d_X6_findPains_27 rfl ?_
      refine tn_cvI (As := [.int y1]) (st := []) (pc := 28) hΓ d_X6_findPains_28 mv_X6_rankles im_X6_rankles se_X6_rankles ml_6_142 ⟨⟨by decide, by decide⟩, by decide, by decide⟩ rfl rfl rfl (by decide) ⟨_, rfl⟩ (gd_k hG (c := 39) rfl) (Nat.le_of_ble_eq_true rfl) rfl h (fun r10 σ28 h => ?_)
      refine tn_if_eq (tgt := 42) (pc := 31) hΓ d_X6_findPains_31 (by decide) (fun hq => ?_) (fun hq => ?_)
      · have h := h.1 hq
        refine tn_bipush (pc := 42) hΓ d_X6_findPains_42 bp_6 ?_
        refine tn_istore (loc' := [.ref 39, .int y1, .int y2, .int y3, .int (6 : Int32), .int (0 : Int32), .null]) (pc := 44) hΓ d_X6_findPains_44 (by decide) rfl rfl ?_
        refine tn_aload_n (pc := 46) hΓ d_X6_findPains_46 rfl ?_
        refine tn_iload_n (pc := 47) hΓ d_X6_findPains_47 rfl ?_
        refine tn_cvI (As := [.int y1]) (st := []) (pc := 48) hΓ d_X6_findPains_48 mv_X6_owns im_X6_owns se_X6_owns ml_6_155 ⟨⟨by decide, by decide⟩, by decide, by decide⟩ rfl rfl rfl (by decide) ⟨_, rfl⟩ (gd_k hG (c := 39) rfl) (Nat.le_of_ble_eq_true rfl) rfl h (fun r11 σ29 h => ?_)
        refine tn_popi (pc := 51) hΓ d_X6_findPains_51 ?_
        refine tn_iload_n (pc := 52) hΓ d_X6_findPains_52 rfl ?_
        refine tn_iconst (pc := 53) hΓ d_X6_findPains_53 ic_1 ?_
        refine tn_csI (As := [.int y3, .int (1 : Int32)]) (st := []) (pc := 54) hΓ d_X6_findPains_54 mv_X6_isOf st_X6_isOf ml_6_136 ⟨⟨by decide, by decide⟩, by decide, by decide⟩ rfl rfl rfl (Nat.le_of_ble_eq_true rfl) rfl h (fun r12 σ30 h => ?_)
        refine tn_if_eq (tgt := 86) (pc := 57) hΓ d_X6_findPains_57 (by decide) (fun hq => ?_) (fun hq => ?_)
        · have h := h.1 hq
          refine tn_aload_n (pc := 86) hΓ d_X6_findPains_86 rfl ?_
          refine tn_bipush (pc := 87) hΓ d_X6_findPains_87 bp_20 ?_
          refine tn_cvI (As := [.int (20 : Int32)]) (st := []) (pc := 89) hΓ d_X6_findPains_89 mv_X6_quietIn im_X6_quietIn se_X6_quietIn ml_6_184 ⟨⟨by decide, by decide⟩, by decide, by decide⟩ rfl rfl rfl (by decide) ⟨_, rfl⟩ (gd_k hG (c := 39) rfl) (Nat.le_of_ble_eq_true rfl) rfl h (fun r13 σ31 h => ?_)
          refine tn_istore (loc' := [.ref 39, .int y1, .int y2, .int y3, .int (6 : Int32), .int (0 : Int32), .int r13]) (pc := 92) hΓ d_X6_findPains_92 (by decide) rfl rfl ?_
          refine tn_iload (pc := 94) hΓ d_X6_findPains_94 rfl ?_
          refine tn_bipush (pc := 96) hΓ d_X6_findPains_96 bp_m9 ?_
          refine tn_icmp_ne (tgt := 106) (pc := 98) hΓ d_X6_findPains_98 (by decide) (fun hq => ?_) (fun hq => ?_)
          · have h := h.1 hq
            refine tn_iload (pc := 106) hΓ d_X6_findPains_106 rfl ?_
            refine tn_istore (loc' := [.ref 39, .int y1, .int y2, .int y3, .int (6 : Int32), .int (0 : Int32), .int r13]) (pc := 108) hΓ d_X6_findPains_108 (by decide) rfl rfl ?_
            refine tn_aload_n (pc := 110) hΓ d_X6_findPains_110 rfl ?_
            refine tn_getRy (y := 51) (pc := 111) hΓ d_X6_findPains_111 fl_6_43 rfl (gd_k hG (c := 39) rfl) (gd_r hG 39 25 51 rfl rfl) ?_
            refine tn_iconst (pc := 114) hΓ d_X6_findPains_114 ic_2 ?_
            refine tn_iload_n (pc := 115) hΓ d_X6_findPains_115 rfl ?_
            refine tn_imul (pc := 116) hΓ d_X6_findPains_116 ?_
            refine tn_iload (pc := 117) hΓ d_X6_findPains_117 rfl ?_
            refine tn_iload (pc := 119) hΓ d_X6_findPains_119 rfl ?_
            refine tn_iadd (pc := 121) hΓ d_X6_findPains_121 ?_
            obtain ⟨hi13, h⟩ := h
            refine tn_ast (pc := 122) hΓ d_X6_findPains_122 (gd_k hG (c := 51) rfl) hi13 ?_
            refine tn_tops (fun σ32 eσ32 => ?_)
            have h := h σ32 eσ32
            refine tn_aload_n (pc := 123) hΓ d_X6_findPains_123 rfl ?_
            refine tn_getRy (y := 51) (pc := 124) hΓ d_X6_findPains_124 fl_6_43 rfl (gd_k hG (c := 39) rfl) (gd_r hG 39 25 51 rfl rfl) ?_
            refine tn_iconst (pc := 127) hΓ d_X6_findPains_127 ic_2 ?_
            refine tn_iload_n (pc := 128) hΓ d_X6_findPains_128 rfl ?_
            refine tn_imul (pc := 129) hΓ d_X6_findPains_129 ?_
            refine tn_iconst (pc := 130) hΓ d_X6_findPains_130 ic_1 ?_
            refine tn_iadd (pc := 131) hΓ d_X6_findPains_131 ?_
            refine tn_iload (pc := 132) hΓ d_X6_findPains_132 rfl ?_
            refine tn_iload (pc := 134) hΓ d_X6_findPains_134 rfl ?_
            refine tn_iadd (pc := 136) hΓ d_X6_findPains_136 ?_
            obtain ⟨hi14, h⟩ := h
            refine tn_ast (pc := 137) hΓ d_X6_findPains_137 (gd_k hG (c := 51) rfl) hi14 ?_
            refine tn_tops (fun σ33 eσ33 => ?_)
            have h := h σ33 eσ33
            refine tn_aload_n (pc := 138) hΓ d_X6_findPains_138 rfl ?_
            refine tn_iconst (pc := 139) hΓ d_X6_findPains_139 ic_0 ?_
            refine tn_cvV (As := [.int (0 : Int32)]) (st := []) (pc := 140) hΓ d_X6_findPains_140 mv_X6_putBack im_X6_putBack se_X6_putBack ml_6_181 ⟨⟨by decide, by decide⟩, by decide, by decide⟩ rfl rfl rfl (by decide) ⟨_, rfl⟩ (gd_k hG (c := 39) rfl) (Nat.le_of_ble_eq_true rfl) rfl h (fun σ34 h => ?_)
            refine tn_iincw (loc' := fun v_ => [.ref 39, .int y1, .int y2, .int v_, .int (6 : Int32), .int (0 : Int32), .int r13]) (pc := 143) hΓ d_X6_findPains_143 rfl ic_1 (by decide) rfl (fun _ => rfl) (fun x7 ex7 => ?_)
            have h := h x7 ex7
            refine tn_goto (tgt := 7) (pc := 146) hΓ d_X6_findPains_146 (by decide) ?_
            refine tn_drop [true, true, true, true, false, false, false] (loc' := [.ref 39, .int y1, .int y2, .int x7, .null, .null, .null]) rfl ?_
            exact h
          · have h := h.2 hq
            refine tn_bipush (pc := 101) hΓ d_X6_findPains_101 bp_20 ?_
            refine tn_goto (tgt := 108) (pc := 103) hΓ d_X6_findPains_103 (by decide) ?_
            refine tn_istore (loc' := [.ref 39, .int y1, .int y2, .int y3, .int (6 : Int32), .int (0 : Int32), .int (20 : Int32)]) (pc := 108) hΓ d_X6_findPains_108 (by decide) rfl rfl ?_
            refine tn_aload_n (pc := 110) hΓ d_X6_findPains_110 rfl ?_
            refine tn_getRy (y := 51) (pc := 111) hΓ d_X6_findPains_111 fl_6_43 rfl (gd_k hG (c := 39) rfl) (gd_r hG 39 25 51 rfl rfl) ?_
            refine tn_iconst (pc := 114) hΓ d_X6_findPains_114 ic_2 ?_
            refine tn_iload_n (pc := 115) hΓ d_X6_findPains_115 rfl ?_
            refine tn_imul (pc := 116) hΓ d_X6_findPains_116 ?_
            refine tn_iload (pc := 117) hΓ d_X6_findPains_117 rfl ?_
            refine tn_iload (pc := 119) hΓ d_X6_findPains_119 rfl ?_
            refine tn_iadd (pc := 121) hΓ d_X6_findPains_121 ?_
            obtain ⟨hi15, h⟩ := h
            refine tn_ast (pc := 122) hΓ d_X6_findPains_122 (gd_k hG (c := 51) rfl) hi15 ?_
            refine tn_tops (fun σ35 eσ35 => ?_)
            have h := h σ35 eσ35
            refine tn_aload_n (pc := 123) hΓ d_X6_findPains_123 rfl ?_
            refine tn_getRy (y := 51) (pc := 124) hΓ d_X6_findPains_124 fl_6_43 rfl (gd_k hG (c := 39) rfl) (gd_r hG 39 25 51 rfl rfl) ?_
            refine tn_iconst (pc := 127) hΓ d_X6_findPains_127 ic_2 ?_
            refine tn_iload_n (pc := 128) hΓ d_X6_findPains_128 rfl ?_
            refine tn_imul (pc := 129) hΓ d_X6_findPains_129 ?_
            refine tn_iconst (pc := 130) hΓ d_X6_findPains_130 ic_1 ?_
            refine tn_iadd (pc := 131) hΓ d_X6_findPains_131 ?_
            refine tn_iload (pc := 132) hΓ d_X6_findPains_132 rfl ?_
            refine tn_iload (pc := 134) hΓ d_X6_findPains_134 rfl ?_
            refine tn_iadd (pc := 136) hΓ d_X6_findPains_136 ?_
            obtain ⟨hi16, h⟩ := h
            refine tn_ast (pc := 137) hΓ d_X6_findPains_137 (gd_k hG (c := 51) rfl) hi16 ?_
            refine tn_tops (fun σ36 eσ36 => ?_)
            have h := h σ36 eσ36
            refine tn_aload_n (pc := 138) hΓ d_X6_findPains_138 rfl ?_
            refine tn_iconst (pc := 139) hΓ d_X6_findPains_139 ic_0 ?_
            refine tn_cvV (As := [.int (0 : Int32)]) (st := []) (pc := 140) hΓ d_X6_findPains_140 mv_X6_putBack im_X6_putBack se_X6_putBack ml_6_181 ⟨⟨by decide, by decide⟩, by decide, by decide⟩ rfl rfl rfl (by decide) ⟨_, rfl⟩ (gd_k hG (c := 39) rfl) (Nat.le_of_ble_eq_true rfl) rfl h (fun σ37 h => ?_)
            refine tn_iincw (loc' := fun v_ => [.ref 39, .int y1, .int y2, .int v_, .int (6 : Int32), .int (0 : Int32), .int (20 : Int32)]) (pc := 143) hΓ d_X6_findPains_143 rfl ic_1 (by decide) rfl (fun _ => rfl) (fun x8 ex8 => ?_)
            have h := h x8 ex8
            refine tn_goto (tgt := 7) (pc := 146) hΓ d_X6_findPains_146 (by decide) ?_
            refine tn_drop [true, true, true, true, false, false, false] (loc' := [.ref 39, .int y1, .int y2, .int x8, .null, .null, .null]) rfl ?_
            exact h
        · have h := h.2 hq
          refine tn_aload_n (pc := 60) hΓ d_X6_findPains_60 rfl ?_
          refine tn_iload_n (pc := 61) hΓ d_X6_findPains_61 rfl ?_
          refine tn_cvI (As := [.int y2]) (st := []) (pc := 62) hΓ d_X6_findPains_62 mv_X6_rankles im_X6_rankles se_X6_rankles ml_6_142 ⟨⟨by decide, by decide⟩, by decide, by decide⟩ rfl rfl rfl (by decide) ⟨_, rfl⟩ (gd_k hG (c := 39) rfl) (Nat.le_of_ble_eq_true rfl) rfl h (fun r14 σ38 h => ?_)
          refine tn_if_eq (tgt := 76) (pc := 65) hΓ d_X6_findPains_65 (by decide) (fun hq => ?_) (fun hq => ?_)
          · have h := h.1 hq
            refine tn_bipush (pc := 76) hΓ d_X6_findPains_76 bp_6 ?_
            refine tn_istore (loc' := [.ref 39, .int y1, .int y2, .int y3, .int (6 : Int32), .int (6 : Int32), .null]) (pc := 78) hΓ d_X6_findPains_78 (by decide) rfl rfl ?_
            refine tn_aload_n (pc := 80) hΓ d_X6_findPains_80 rfl ?_
            refine tn_iload_n (pc := 81) hΓ d_X6_findPains_81 rfl ?_
            refine tn_cvI (As := [.int y2]) (st := []) (pc := 82) hΓ d_X6_findPains_82 mv_X6_owns im_X6_owns se_X6_owns ml_6_155 ⟨⟨by decide, by decide⟩, by decide, by decide⟩ rfl rfl rfl (by decide) ⟨_, rfl⟩ (gd_k hG (c := 39) rfl) (Nat.le_of_ble_eq_true rfl) rfl h (fun r15 σ39 h => ?_)
            refine tn_popi (pc := 85) hΓ d_X6_findPains_85 ?_
            refine tn_aload_n (pc := 86) hΓ d_X6_findPains_86 rfl ?_
            refine tn_bipush (pc := 87) hΓ d_X6_findPains_87 bp_20 ?_
            refine tn_cvI (As := [.int (20 : Int32)]) (st := []) (pc := 89) hΓ d_X6_findPains_89 mv_X6_quietIn im_X6_quietIn se_X6_quietIn ml_6_184 ⟨⟨by decide, by decide⟩, by decide, by decide⟩ rfl rfl rfl (by decide) ⟨_, rfl⟩ (gd_k hG (c := 39) rfl) (Nat.le_of_ble_eq_true rfl) rfl h (fun r16 σ40 h => ?_)
            refine tn_istore (loc' := [.ref 39, .int y1, .int y2, .int y3, .int (6 : Int32), .int (6 : Int32), .int r16]) (pc := 92) hΓ d_X6_findPains_92 (by decide) rfl rfl ?_
            refine tn_iload (pc := 94) hΓ d_X6_findPains_94 rfl ?_
            refine tn_bipush (pc := 96) hΓ d_X6_findPains_96 bp_m9 ?_
            refine tn_icmp_ne (tgt := 106) (pc := 98) hΓ d_X6_findPains_98 (by decide) (fun hq => ?_) (fun hq => ?_)
            · have h := h.1 hq
              refine tn_iload (pc := 106) hΓ d_X6_findPains_106 rfl ?_
              refine tn_istore (loc' := [.ref 39, .int y1, .int y2, .int y3, .int (6 : Int32), .int (6 : Int32), .int r16]) (pc := 108) hΓ d_X6_findPains_108 (by decide) rfl rfl ?_
              refine tn_aload_n (pc := 110) hΓ d_X6_findPains_110 rfl ?_
              refine tn_getRy (y := 51) (pc := 111) hΓ d_X6_findPains_111 fl_6_43 rfl (gd_k hG (c := 39) rfl) (gd_r hG 39 25 51 rfl rfl) ?_
              refine tn_iconst (pc := 114) hΓ d_X6_findPains_114 ic_2 ?_
              refine tn_iload_n (pc := 115) hΓ d_X6_findPains_115 rfl ?_
              refine tn_imul (pc := 116) hΓ d_X6_findPains_116 ?_
              refine tn_iload (pc := 117) hΓ d_X6_findPains_117 rfl ?_
              refine tn_iload (pc := 119) hΓ d_X6_findPains_119 rfl ?_
              refine tn_iadd (pc := 121) hΓ d_X6_findPains_121 ?_
              obtain ⟨hi17, h⟩ := h
              refine tn_ast (pc := 122) hΓ d_X6_findPains_122 (gd_k hG (c := 51) rfl) hi17 ?_
              refine tn_tops (fun σ41 eσ41 => ?_)
              have h := h σ41 eσ41
              refine tn_aload_n (pc := 123) hΓ d_X6_findPains_123 rfl ?_
              refine tn_getRy (y := 51) (pc := 124) hΓ d_X6_findPains_124 fl_6_43 rfl (gd_k hG (c := 39) rfl) (gd_r hG 39 25 51 rfl rfl) ?_
              refine tn_iconst (pc := 127) hΓ d_X6_findPains_127 ic_2 ?_
              refine tn_iload_n (pc := 128) hΓ d_X6_findPains_128 rfl ?_
              refine tn_imul (pc := 129) hΓ d_X6_findPains_129 ?_
              refine tn_iconst (pc := 130) hΓ d_X6_findPains_130 ic_1 ?_
              refine tn_iadd (pc := 131) hΓ d_X6_findPains_131 ?_
              refine tn_iload (pc := 132) hΓ d_X6_findPains_132 rfl ?_
              refine tn_iload (pc := 134) hΓ d_X6_findPains_134 rfl ?_
              refine tn_iadd (pc := 136) hΓ d_X6_findPains_136 ?_
              obtain ⟨hi18, h⟩ := h
              refine tn_ast (pc := 137) hΓ d_X6_findPains_137 (gd_k hG (c := 51) rfl) hi18 ?_
              refine tn_tops (fun σ42 eσ42 => ?_)
              have h := h σ42 eσ42
              refine tn_aload_n (pc := 138) hΓ d_X6_findPains_138 rfl ?_
              refine tn_iconst (pc := 139) hΓ d_X6_findPains_139 ic_0 ?_
              refine tn_cvV (As := [.int (0 : Int32)]) (st := []) (pc := 140) hΓ d_X6_findPains_140 mv_X6_putBack im_X6_putBack se_X6_putBack ml_6_181 ⟨⟨by decide, by decide⟩, by decide, by decide⟩ rfl rfl rfl (by decide) ⟨_, rfl⟩ (gd_k hG (c := 39) rfl) (Nat.le_of_ble_eq_true rfl) rfl h (fun σ43 h => ?_)
              refine tn_iincw (loc' := fun v_ => [.ref 39, .int y1, .int y2, .int v_, .int (6 : Int32), .int (6 : Int32), .int r16]) (pc := 143) hΓ d_X6_findPains_143 rfl ic_1 (by decide) rfl (fun _ => rfl) (fun x9 ex9 => ?_)
              have h := h x9 ex9
              refine tn_goto (tgt := 7) (pc := 146) hΓ d_X6_findPains_146 (by decide) ?_
              refine tn_drop [true, true, true, true, false, false, false] (loc' := [.ref 39, .int y1, .int y2, .int x9, .null, .null, .null]) rfl ?_
              exact h
            · have h := h.2 hq
              refine tn_bipush (pc := 101) hΓ d_X6_findPains_101 bp_20 ?_
              refine tn_goto (tgt := 108) (pc := 103) hΓ d_X6_findPains_103 (by decide) ?_
              refine tn_istore (loc' := [.ref 39, .int y1, .int y2, .int y3, .int (6 : Int32), .int (6 : Int32), .int (20 : Int32)]) (pc := 108) hΓ d_X6_findPains_108 (by decide) rfl rfl ?_
              refine tn_aload_n (pc := 110) hΓ d_X6_findPains_110 rfl ?_
              refine tn_getRy (y := 51) (pc := 111) hΓ d_X6_findPains_111 fl_6_43 rfl (gd_k hG (c := 39) rfl) (gd_r hG 39 25 51 rfl rfl) ?_
              refine tn_iconst (pc := 114) hΓ d_X6_findPains_114 ic_2 ?_
              refine tn_iload_n (pc := 115) hΓ d_X6_findPains_115 rfl ?_
              refine tn_imul (pc := 116) hΓ d_X6_findPains_116 ?_
              refine tn_iload (pc := 117) hΓ d_X6_findPains_117 rfl ?_
              refine tn_iload (pc := 119) hΓ d_X6_findPains_119 rfl ?_
              refine tn_iadd (pc := 121) hΓ d_X6_findPains_121 ?_
              obtain ⟨hi19, h⟩ := h
              refine tn_ast (pc := 122) hΓ d_X6_findPains_122 (gd_k hG (c := 51) rfl) hi19 ?_
              refine tn_tops (fun σ44 eσ44 => ?_)
              have h := h σ44 eσ44
              refine tn_aload_n (pc := 123) hΓ d_X6_findPains_123 rfl ?_
              refine tn_getRy (y := 51) (pc := 124) hΓ d_X6_findPains_124 fl_6_43 rfl (gd_k hG (c := 39) rfl) (gd_r hG 39 25 51 rfl rfl) ?_
              refine tn_iconst (pc := 127) hΓ d_X6_findPains_127 ic_2 ?_
              refine tn_iload_n (pc := 128) hΓ d_X6_findPains_128 rfl ?_
              refine tn_imul (pc := 129) hΓ d_X6_findPains_129 ?_
              refine tn_iconst (pc := 130) hΓ d_X6_findPains_130 ic_1 ?_
              refine tn_iadd (pc := 131) hΓ d_X6_findPains_131 ?_
              refine tn_iload (pc := 132) hΓ d_X6_findPains_132 rfl ?_
              refine tn_iload (pc := 134) hΓ d_X6_findPains_134 rfl ?_
              refine tn_iadd (pc := 136) hΓ d_X6_findPains_136 ?_
              obtain ⟨hi20, h⟩ := h
              refine tn_ast (pc := 137) hΓ d_X6_findPains_137 (gd_k hG (c := 51) rfl) hi20 ?_
              refine tn_tops (fun σ45 eσ45 => ?_)
              have h := h σ45 eσ45
              refine tn_aload_n (pc := 138) hΓ d_X6_findPains_138 rfl ?_
              refine tn_iconst (pc := 139) hΓ d_X6_findPains_139 ic_0 ?_
              refine tn_cvV (As := [.int (0 : Int32)]) (st := []) (pc := 140) hΓ d_X6_findPains_140 mv_X6_putBack im_X6_putBack se_X6_putBack ml_6_181 ⟨⟨by decide, by decide⟩, by decide, by decide⟩ rfl rfl rfl (by decide) ⟨_, rfl⟩ (gd_k hG (c := 39) rfl) (Nat.le_of_ble_eq_true rfl) rfl h (fun σ46 h => ?_)
              refine tn_iincw (loc' := fun v_ => [.ref 39, .int y1, .int y2, .int v_, .int (6 : Int32), .int (6 : Int32), .int (20 : Int32)]) (pc := 143) hΓ d_X6_findPains_143 rfl ic_1 (by decide) rfl (fun _ => rfl) (fun x10 ex10 => ?_)
              have h := h x10 ex10
              refine tn_goto (tgt := 7) (pc := 146) hΓ d_X6_findPains_146 (by decide) ?_
              refine tn_drop [true, true, true, true, false, false, false] (loc' := [.ref 39, .int y1, .int y2, .int x10, .null, .null, .null]) rfl ?_
              exact h
          · have h := h.2 hq
            refine tn_aload_n (pc := 68) hΓ d_X6_findPains_68 rfl ?_
            refine tn_iload_n (pc := 69) hΓ d_X6_findPains_69 rfl ?_
            refine tn_cvI (As := [.int y2]) (st := []) (pc := 70) hΓ d_X6_findPains_70 mv_X6_weightOf im_X6_weightOf se_X6_weightOf ml_6_139 ⟨⟨by decide, by decide⟩, by decide, by decide⟩ rfl rfl rfl (by decide) ⟨_, rfl⟩ (gd_k hG (c := 39) rfl) (Nat.le_of_ble_eq_true rfl) rfl h (fun r17 σ47 h => ?_)
            refine tn_goto (tgt := 78) (pc := 73) hΓ d_X6_findPains_73 (by decide) ?_
            refine tn_istore (loc' := [.ref 39, .int y1, .int y2, .int y3, .int (6 : Int32), .int r17, .null]) (pc := 78) hΓ d_X6_findPains_78 (by decide) rfl rfl ?_
            refine tn_aload_n (pc := 80) hΓ d_X6_findPains_80 rfl ?_
            refine tn_iload_n (pc := 81) hΓ d_X6_findPains_81 rfl ?_
            refine tn_cvI (As := [.int y2]) (st := []) (pc := 82) hΓ d_X6_findPains_82 mv_X6_owns im_X6_owns se_X6_owns ml_6_155 ⟨⟨by decide, by decide⟩, by decide, by decide⟩ rfl rfl rfl (by decide) ⟨_, rfl⟩ (gd_k hG (c := 39) rfl) (Nat.le_of_ble_eq_true rfl) rfl h (fun r18 σ48 h => ?_)
            refine tn_popi (pc := 85) hΓ d_X6_findPains_85 ?_
            refine tn_aload_n (pc := 86) hΓ d_X6_findPains_86 rfl ?_
            refine tn_bipush (pc := 87) hΓ d_X6_findPains_87 bp_20 ?_
            refine tn_cvI (As := [.int (20 : Int32)]) (st := []) (pc := 89) hΓ d_X6_findPains_89 mv_X6_quietIn im_X6_quietIn se_X6_quietIn ml_6_184 ⟨⟨by decide, by decide⟩, by decide, by decide⟩ rfl rfl rfl (by decide) ⟨_, rfl⟩ (gd_k hG (c := 39) rfl) (Nat.le_of_ble_eq_true rfl) rfl h (fun r19 σ49 h => ?_)
            refine tn_istore (loc' := [.ref 39, .int y1, .int y2, .int y3, .int (6 : Int32), .int r17, .int r19]) (pc := 92) hΓ d_X6_findPains_92 (by decide) rfl rfl ?_
            refine tn_iload (pc := 94) hΓ d_X6_findPains_94 rfl ?_
            refine tn_bipush (pc := 96) hΓ d_X6_findPains_96 bp_m9 ?_
            refine tn_icmp_ne (tgt := 106) (pc := 98) hΓ d_X6_findPains_98 (by decide) (fun hq => ?_) (fun hq => ?_)
            · have h := h.1 hq
              refine tn_iload (pc := 106) hΓ d_X6_findPains_106 rfl ?_
              refine tn_istore (loc' := [.ref 39, .int y1, .int y2, .int y3, .int (6 : Int32), .int r17, .int r19]) (pc := 108) hΓ d_X6_findPains_108 (by decide) rfl rfl ?_
              refine tn_aload_n (pc := 110) hΓ d_X6_findPains_110 rfl ?_
              refine tn_getRy (y := 51) (pc := 111) hΓ d_X6_findPains_111 fl_6_43 rfl (gd_k hG (c := 39) rfl) (gd_r hG 39 25 51 rfl rfl) ?_
              refine tn_iconst (pc := 114) hΓ d_X6_findPains_114 ic_2 ?_
              refine tn_iload_n (pc := 115) hΓ d_X6_findPains_115 rfl ?_
              refine tn_imul (pc := 116) hΓ d_X6_findPains_116 ?_
              refine tn_iload (pc := 117) hΓ d_X6_findPains_117 rfl ?_
              refine tn_iload (pc := 119) hΓ d_X6_findPains_119 rfl ?_
              refine tn_iadd (pc := 121) hΓ d_X6_findPains_121 ?_
              obtain ⟨hi21, h⟩ := h
              refine tn_ast (pc := 122) hΓ d_X6_findPains_122 (gd_k hG (c := 51) rfl) hi21 ?_
              refine tn_tops (fun σ50 eσ50 => ?_)
              have h := h σ50 eσ50
              refine tn_aload_n (pc := 123) hΓ d_X6_findPains_123 rfl ?_
              refine tn_getRy (y := 51) (pc := 124) hΓ d_X6_findPains_124 fl_6_43 rfl (gd_k hG (c := 39) rfl) (gd_r hG 39 25 51 rfl rfl) ?_
              refine tn_iconst (pc := 127) hΓ d_X6_findPains_127 ic_2 ?_
              refine tn_iload_n (pc := 128) hΓ d_X6_findPains_128 rfl ?_
              refine tn_imul (pc := 129) hΓ d_X6_findPains_129 ?_
              refine tn_iconst (pc := 130) hΓ d_X6_findPains_130 ic_1 ?_
              refine tn_iadd (pc := 131) hΓ d_X6_findPains_131 ?_
              refine tn_iload (pc := 132) hΓ d_X6_findPains_132 rfl ?_
              refine tn_iload (pc := 134) hΓ d_X6_findPains_134 rfl ?_
              refine tn_iadd (pc := 136) hΓ d_X6_findPains_136 ?_
              obtain ⟨hi22, h⟩ := h
              refine tn_ast (pc := 137) hΓ d_X6_findPains_137 (gd_k hG (c := 51) rfl) hi22 ?_
              refine tn_tops (fun σ51 eσ51 => ?_)
              have h := h σ51 eσ51
              refine tn_aload_n (pc := 138) hΓ d_X6_findPains_138 rfl ?_
              refine tn_iconst (pc := 139) hΓ d_X6_findPains_139 ic_0 ?_
              refine tn_cvV (As := [.int (0 : Int32)]) (st := []) (pc := 140) hΓ d_X6_findPains_140 mv_X6_putBack im_X6_putBack se_X6_putBack ml_6_181 ⟨⟨by decide, by decide⟩, by decide, by decide⟩ rfl rfl rfl (by decide) ⟨_, rfl⟩ (gd_k hG (c := 39) rfl) (Nat.le_of_ble_eq_true rfl) rfl h (fun σ52 h => ?_)
              refine tn_iincw (loc' := fun v_ => [.ref 39, .int y1, .int y2, .int v_, .int (6 : Int32), .int r17, .int r19]) (pc := 143) hΓ d_X6_findPains_143 rfl ic_1 (by decide) rfl (fun _ => rfl) (fun x11 ex11 => ?_)
              have h := h x11 ex11
              refine tn_goto (tgt := 7) (pc := 146) hΓ d_X6_findPains_146 (by decide) ?_
              refine tn_drop [true, true, true, true, false, false, false] (loc' := [.ref 39, .int y1, .int y2, .int x11, .null, .null, .null]) rfl ?_
              exact h
            · have h := h.2 hq
              refine tn_bipush (pc := 101) hΓ d_X6_findPains_101 bp_20 ?_
              refine tn_goto (tgt := 108) (pc := 103) hΓ d_X6_findPains_103 (by decide) ?_
              refine tn_istore (loc' := [.ref 39, .int y1, .int y2, .int y3, .int (6 : Int32), .int r17, .int (20 : Int32)]) (pc := 108) hΓ d_X6_findPains_108 (by decide) rfl rfl ?_
              refine tn_aload_n (pc := 110) hΓ d_X6_findPains_110 rfl ?_
              refine tn_getRy (y := 51) (pc := 111) hΓ d_X6_findPains_111 fl_6_43 rfl (gd_k hG (c := 39) rfl) (gd_r hG 39 25 51 rfl rfl) ?_
              refine tn_iconst (pc := 114) hΓ d_X6_findPains_114 ic_2 ?_
              refine tn_iload_n (pc := 115) hΓ d_X6_findPains_115 rfl ?_
              refine tn_imul (pc := 116) hΓ d_X6_findPains_116 ?_
              refine tn_iload (pc := 117) hΓ d_X6_findPains_117 rfl ?_
              refine tn_iload (pc := 119) hΓ d_X6_findPains_119 rfl ?_
              refine tn_iadd (pc := 121) hΓ d_X6_findPains_121 ?_
              obtain ⟨hi23, h⟩ := h
              refine tn_ast (pc := 122) hΓ d_X6_findPains_122 (gd_k hG (c := 51) rfl) hi23 ?_
              refine tn_tops (fun σ53 eσ53 => ?_)
              have h := h σ53 eσ53
              refine tn_aload_n (pc := 123) hΓ d_X6_findPains_123 rfl ?_
              refine tn_getRy (y := 51) (pc := 124) hΓ d_X6_findPains_124 fl_6_43 rfl (gd_k hG (c := 39) rfl) (gd_r hG 39 25 51 rfl rfl) ?_
              refine tn_iconst (pc := 127) hΓ d_X6_findPains_127 ic_2 ?_
              refine tn_iload_n (pc := 128) hΓ d_X6_findPains_128 rfl ?_
              refine tn_imul (pc := 129) hΓ d_X6_findPains_129 ?_
              refine tn_iconst (pc := 130) hΓ d_X6_findPains_130 ic_1 ?_
              refine tn_iadd (pc := 131) hΓ d_X6_findPains_131 ?_
              refine tn_iload (pc := 132) hΓ d_X6_findPains_132 rfl ?_
              refine tn_iload (pc := 134) hΓ d_X6_findPains_134 rfl ?_
              refine tn_iadd (pc := 136) hΓ d_X6_findPains_136 ?_
              obtain ⟨hi24, h⟩ := h
              refine tn_ast (pc := 137) hΓ d_X6_findPains_137 (gd_k hG (c := 51) rfl) hi24 ?_
              refine tn_tops (fun σ54 eσ54 => ?_)
              have h := h σ54 eσ54
              refine tn_aload_n (pc := 138) hΓ d_X6_findPains_138 rfl ?_
              refine tn_iconst (pc := 139) hΓ d_X6_findPains_139 ic_0 ?_
              refine tn_cvV (As := [.int (0 : Int32)]) (st := []) (pc := 140) hΓ d_X6_findPains_140 mv_X6_putBack im_X6_putBack se_X6_putBack ml_6_181 ⟨⟨by decide, by decide⟩, by decide, by decide⟩ rfl rfl rfl (by decide) ⟨_, rfl⟩ (gd_k hG (c := 39) rfl) (Nat.le_of_ble_eq_true rfl) rfl h (fun σ55 h => ?_)
              refine tn_iincw (loc' := fun v_ => [.ref 39, .int y1, .int y2, .int v_, .int (6 : Int32), .int r17, .int (20 : Int32)]) (pc := 143) hΓ d_X6_findPains_143 rfl ic_1 (by decide) rfl (fun _ => rfl) (fun x12 ex12 => ?_)
              have h := h x12 ex12
              refine tn_goto (tgt := 7) (pc := 146) hΓ d_X6_findPains_146 (by decide) ?_
              refine tn_drop [true, true, true, true, false, false, false] (loc' := [.ref 39, .int y1, .int y2, .int x12, .null, .null, .null]) rfl ?_
              exact h
      · have h := h.2 hq
        refine tn_aload_n (pc := 34) hΓ d_X6_findPains_34 rfl ?_
        refine tn_iload_n (pc := 35) hΓ d_X6_findPains_35 rfl ?_
        refine tn_cvI (As := [.int y1]) (st := []) (pc := 36) hΓ d_X6_findPains_36 mv_X6_weightOf im_X6_weightOf se_X6_weightOf ml_6_139 ⟨⟨by decide, by decide⟩, by decide, by decide⟩ rfl rfl rfl (by decide) ⟨_, rfl⟩ (gd_k hG (c := 39) rfl) (Nat.le_of_ble_eq_true rfl) rfl h (fun r20 σ56 h => ?_)
        refine tn_goto (tgt := 44) (pc := 39) hΓ d_X6_findPains_39 (by decide) ?_
        refine tn_istore (loc' := [.ref 39, .int y1, .int y2, .int y3, .int r20, .int (0 : Int32), .null]) (pc := 44) hΓ d_X6_findPains_44 (by decide) rfl rfl ?_
        refine tn_aload_n (pc := 46) hΓ d_X6_findPains_46 rfl ?_
        refine tn_iload_n (pc := 47) hΓ d_X6_findPains_47 rfl ?_
        refine tn_cvI (As := [.int y1]) (st := []) (pc := 48) hΓ d_X6_findPains_48 mv_X6_owns im_X6_owns se_X6_owns ml_6_155 ⟨⟨by decide, by decide⟩, by decide, by decide⟩ rfl rfl rfl (by decide) ⟨_, rfl⟩ (gd_k hG (c := 39) rfl) (Nat.le_of_ble_eq_true rfl) rfl h (fun r21 σ57 h => ?_)
        refine tn_popi (pc := 51) hΓ d_X6_findPains_51 ?_
        refine tn_iload_n (pc := 52) hΓ d_X6_findPains_52 rfl ?_
        refine tn_iconst (pc := 53) hΓ d_X6_findPains_53 ic_1 ?_
        refine tn_csI (As := [.int y3, .int (1 : Int32)]) (st := []) (pc := 54) hΓ d_X6_findPains_54 mv_X6_isOf st_X6_isOf ml_6_136 ⟨⟨by decide, by decide⟩, by decide, by decide⟩ rfl rfl rfl (Nat.le_of_ble_eq_true rfl) rfl h (fun r22 σ58 h => ?_)
        refine tn_if_eq (tgt := 86) (pc := 57) hΓ d_X6_findPains_57 (by decide) (fun hq => ?_) (fun hq => ?_)
        · have h := h.1 hq
          refine tn_aload_n (pc := 86) hΓ d_X6_findPains_86 rfl ?_
          refine tn_bipush (pc := 87) hΓ d_X6_findPains_87 bp_20 ?_
          refine tn_cvI (As := [.int (20 : Int32)]) (st := []) (pc := 89) hΓ d_X6_findPains_89 mv_X6_quietIn im_X6_quietIn se_X6_quietIn ml_6_184 ⟨⟨by decide, by decide⟩, by decide, by decide⟩ rfl rfl rfl (by decide) ⟨_, rfl⟩ (gd_k hG (c := 39) rfl) (Nat.le_of_ble_eq_true rfl) rfl h (fun r23 σ59 h => ?_)
          refine tn_istore (loc' := [.ref 39, .int y1, .int y2, .int y3, .int r20, .int (0 : Int32), .int r23]) (pc := 92) hΓ d_X6_findPains_92 (by decide) rfl rfl ?_
          refine tn_iload (pc := 94) hΓ d_X6_findPains_94 rfl ?_
          refine tn_bipush (pc := 96) hΓ d_X6_findPains_96 bp_m9 ?_
          refine tn_icmp_ne (tgt := 106) (pc := 98) hΓ d_X6_findPains_98 (by decide) (fun hq => ?_) (fun hq => ?_)
          · have h := h.1 hq
            refine tn_iload (pc := 106) hΓ d_X6_findPains_106 rfl ?_
            refine tn_istore (loc' := [.ref 39, .int y1, .int y2, .int y3, .int r20, .int (0 : Int32), .int r23]) (pc := 108) hΓ d_X6_findPains_108 (by decide) rfl rfl ?_
            refine tn_aload_n (pc := 110) hΓ d_X6_findPains_110 rfl ?_
            refine tn_getRy (y := 51) (pc := 111) hΓ d_X6_findPains_111 fl_6_43 rfl (gd_k hG (c := 39) rfl) (gd_r hG 39 25 51 rfl rfl) ?_
            refine tn_iconst (pc := 114) hΓ d_X6_findPains_114 ic_2 ?_
            refine tn_iload_n (pc := 115) hΓ d_X6_findPains_115 rfl ?_
            refine tn_imul (pc := 116) hΓ d_X6_findPains_116 ?_
            refine tn_iload (pc := 117) hΓ d_X6_findPains_117 rfl ?_
            refine tn_iload (pc := 119) hΓ d_X6_findPains_119 rfl ?_
            refine tn_iadd (pc := 121) hΓ d_X6_findPains_121 ?_
            obtain ⟨hi25, h⟩ := h
            refine tn_ast (pc := 122) hΓ d_X6_findPains_122 (gd_k hG (c := 51) rfl) hi25 ?_
            refine tn_tops (fun σ60 eσ60 => ?_)
            have h := h σ60 eσ60
            refine tn_aload_n (pc := 123) hΓ d_X6_findPains_123 rfl ?_
            refine tn_getRy (y := 51) (pc := 124) hΓ d_X6_findPains_124 fl_6_43 rfl (gd_k hG (c := 39) rfl) (gd_r hG 39 25 51 rfl rfl) ?_
            refine tn_iconst (pc := 127) hΓ d_X6_findPains_127 ic_2 ?_
            refine tn_iload_n (pc := 128) hΓ d_X6_findPains_128 rfl ?_
            refine tn_imul (pc := 129) hΓ d_X6_findPains_129 ?_
            refine tn_iconst (pc := 130) hΓ d_X6_findPains_130 ic_1 ?_
            refine tn_iadd (pc := 131) hΓ d_X6_findPains_131 ?_
            refine tn_iload (pc := 132) hΓ d_X6_findPains_132 rfl ?_
            refine tn_iload (pc := 134) hΓ d_X6_findPains_134 rfl ?_
            refine tn_iadd (pc := 136) hΓ d_X6_findPains_136 ?_
            obtain ⟨hi26, h⟩ := h
            refine tn_ast (pc := 137) hΓ d_X6_findPains_137 (gd_k hG (c := 51) rfl) hi26 ?_
            refine tn_tops (fun σ61 eσ61 => ?_)
            have h := h σ61 eσ61
            refine tn_aload_n (pc := 138) hΓ d_X6_findPains_138 rfl ?_
            refine tn_iconst (pc := 139) hΓ d_X6_findPains_139 ic_0 ?_
            refine tn_cvV (As := [.int (0 : Int32)]) (st := []) (pc := 140) hΓ d_X6_findPains_140 mv_X6_putBack im_X6_putBack se_X6_putBack ml_6_181 ⟨⟨by decide, by decide⟩, by decide, by decide⟩ rfl rfl rfl (by decide) ⟨_, rfl⟩ (gd_k hG (c := 39) rfl) (Nat.le_of_ble_eq_true rfl) rfl h (fun σ62 h => ?_)
            refine tn_iincw (loc' := fun v_ => [.ref 39, .int y1, .int y2, .int v_, .int r20, .int (0 : Int32), .int r23]) (pc := 143) hΓ d_X6_findPains_143 rfl ic_1 (by decide) rfl (fun _ => rfl) (fun x13 ex13 => ?_)
            have h := h x13 ex13
            refine tn_goto (tgt := 7) (pc := 146) hΓ d_X6_findPains_146 (by decide) ?_
            refine tn_drop [true, true, true, true, false, false, false] (loc' := [.ref 39, .int y1, .int y2, .int x13, .null, .null, .null]) rfl ?_
            exact h
          · have h := h.2 hq
            refine tn_bipush (pc := 101) hΓ d_X6_findPains_101 bp_20 ?_
            refine tn_goto (tgt := 108) (pc := 103) hΓ d_X6_findPains_103 (by decide) ?_
            refine tn_istore (loc' := [.ref 39, .int y1, .int y2, .int y3, .int r20, .int (0 : Int32), .int (20 : Int32)]) (pc := 108) hΓ d_X6_findPains_108 (by decide) rfl rfl ?_
            refine tn_aload_n (pc := 110) hΓ d_X6_findPains_110 rfl ?_
            refine tn_getRy (y := 51) (pc := 111) hΓ d_X6_findPains_111 fl_6_43 rfl (gd_k hG (c := 39) rfl) (gd_r hG 39 25 51 rfl rfl) ?_
            refine tn_iconst (pc := 114) hΓ d_X6_findPains_114 ic_2 ?_
            refine tn_iload_n (pc := 115) hΓ d_X6_findPains_115 rfl ?_
            refine tn_imul (pc := 116) hΓ d_X6_findPains_116 ?_
            refine tn_iload (pc := 117) hΓ d_X6_findPains_117 rfl ?_
            refine tn_iload (pc := 119) hΓ d_X6_findPains_119 rfl ?_
            refine tn_iadd (pc := 121) hΓ d_X6_findPains_121 ?_
            obtain ⟨hi27, h⟩ := h
            refine tn_ast (pc := 122) hΓ d_X6_findPains_122 (gd_k hG (c := 51) rfl) hi27 ?_
            refine tn_tops (fun σ63 eσ63 => ?_)
            have h := h σ63 eσ63
            refine tn_aload_n (pc := 123) hΓ d_X6_findPains_123 rfl ?_
            refine tn_getRy (y := 51) (pc := 124) hΓ d_X6_findPains_124 fl_6_43 rfl (gd_k hG (c := 39) rfl) (gd_r hG 39 25 51 rfl rfl) ?_
            refine tn_iconst (pc := 127) hΓ d_X6_findPains_127 ic_2 ?_
            refine tn_iload_n (pc := 128) hΓ d_X6_findPains_128 rfl ?_
            refine tn_imul (pc := 129) hΓ d_X6_findPains_129 ?_
            refine tn_iconst (pc := 130) hΓ d_X6_findPains_130 ic_1 ?_
            refine tn_iadd (pc := 131) hΓ d_X6_findPains_131 ?_
            refine tn_iload (pc := 132) hΓ d_X6_findPains_132 rfl ?_
            refine tn_iload (pc := 134) hΓ d_X6_findPains_134 rfl ?_
            refine tn_iadd (pc := 136) hΓ d_X6_findPains_136 ?_
            obtain ⟨hi28, h⟩ := h
            refine tn_ast (pc := 137) hΓ d_X6_findPains_137 (gd_k hG (c := 51) rfl) hi28 ?_
            refine tn_tops (fun σ64 eσ64 => ?_)
            have h := h σ64 eσ64
            refine tn_aload_n (pc := 138) hΓ d_X6_findPains_138 rfl ?_
            refine tn_iconst (pc := 139) hΓ d_X6_findPains_139 ic_0 ?_
            refine tn_cvV (As := [.int (0 : Int32)]) (st := []) (pc := 140) hΓ d_X6_findPains_140 mv_X6_putBack im_X6_putBack se_X6_putBack ml_6_181 ⟨⟨by decide, by decide⟩, by decide, by decide⟩ rfl rfl rfl (by decide) ⟨_, rfl⟩ (gd_k hG (c := 39) rfl) (Nat.le_of_ble_eq_true rfl) rfl h (fun σ65 h => ?_)
            refine tn_iincw (loc' := fun v_ => [.ref 39, .int y1, .int y2, .int v_, .int r20, .int (0 : Int32), .int (20 : Int32)]) (pc := 143) hΓ d_X6_findPains_143 rfl ic_1 (by decide) rfl (fun _ => rfl) (fun x14 ex14 => ?_)
            have h := h x14 ex14
            refine tn_goto (tgt := 7) (pc := 146) hΓ d_X6_findPains_146 (by decide) ?_
            refine tn_drop [true, true, true, true, false, false, false] (loc' := [.ref 39, .int y1, .int y2, .int x14, .null, .null, .null]) rfl ?_
            exact h
        · have h := h.2 hq
          refine tn_aload_n (pc := 60) hΓ d_X6_findPains_60 rfl ?_
          refine tn_iload_n (pc := 61) hΓ d_X6_findPains_61 rfl ?_
          refine tn_cvI (As := [.int y2]) (st := []) (pc := 62) hΓ d_X6_findPains_62 mv_X6_rankles im_X6_rankles se_X6_rankles ml_6_142 ⟨⟨by decide, by decide⟩, by decide, by decide⟩ rfl rfl rfl (by decide) ⟨_, rfl⟩ (gd_k hG (c := 39) rfl) (Nat.le_of_ble_eq_true rfl) rfl h (fun r24 σ66 h => ?_)
          refine tn_if_eq (tgt := 76) (pc := 65) hΓ d_X6_findPains_65 (by decide) (fun hq => ?_) (fun hq => ?_)
          · have h := h.1 hq
            refine tn_bipush (pc := 76) hΓ d_X6_findPains_76 bp_6 ?_
            refine tn_istore (loc' := [.ref 39, .int y1, .int y2, .int y3, .int r20, .int (6 : Int32), .null]) (pc := 78) hΓ d_X6_findPains_78 (by decide) rfl rfl ?_
            refine tn_aload_n (pc := 80) hΓ d_X6_findPains_80 rfl ?_
            refine tn_iload_n (pc := 81) hΓ d_X6_findPains_81 rfl ?_
            refine tn_cvI (As := [.int y2]) (st := []) (pc := 82) hΓ d_X6_findPains_82 mv_X6_owns im_X6_owns se_X6_owns ml_6_155 ⟨⟨by decide, by decide⟩, by decide, by decide⟩ rfl rfl rfl (by decide) ⟨_, rfl⟩ (gd_k hG (c := 39) rfl) (Nat.le_of_ble_eq_true rfl) rfl h (fun r25 σ67 h => ?_)
            refine tn_popi (pc := 85) hΓ d_X6_findPains_85 ?_
            refine tn_aload_n (pc := 86) hΓ d_X6_findPains_86 rfl ?_
            refine tn_bipush (pc := 87) hΓ d_X6_findPains_87 bp_20 ?_
            refine tn_cvI (As := [.int (20 : Int32)]) (st := []) (pc := 89) hΓ d_X6_findPains_89 mv_X6_quietIn im_X6_quietIn se_X6_quietIn ml_6_184 ⟨⟨by decide, by decide⟩, by decide, by decide⟩ rfl rfl rfl (by decide) ⟨_, rfl⟩ (gd_k hG (c := 39) rfl) (Nat.le_of_ble_eq_true rfl) rfl h (fun r26 σ68 h => ?_)
            refine tn_istore (loc' := [.ref 39, .int y1, .int y2, .int y3, .int r20, .int (6 : Int32), .int r26]) (pc := 92) hΓ d_X6_findPains_92 (by decide) rfl rfl ?_
            refine tn_iload (pc := 94) hΓ d_X6_findPains_94 rfl ?_
            refine tn_bipush (pc := 96) hΓ d_X6_findPains_96 bp_m9 ?_
            refine tn_icmp_ne (tgt := 106) (pc := 98) hΓ d_X6_findPains_98 (by decide) (fun hq => ?_) (fun hq => ?_)
            · have h := h.1 hq
              refine tn_iload (pc := 106) hΓ d_X6_findPains_106 rfl ?_
              refine tn_istore (loc' := [.ref 39, .int y1, .int y2, .int y3, .int r20, .int (6 : Int32), .int r26]) (pc := 108) hΓ d_X6_findPains_108 (by decide) rfl rfl ?_
              refine tn_aload_n (pc := 110) hΓ d_X6_findPains_110 rfl ?_
              refine tn_getRy (y := 51) (pc := 111) hΓ d_X6_findPains_111 fl_6_43 rfl (gd_k hG (c := 39) rfl) (gd_r hG 39 25 51 rfl rfl) ?_
              refine tn_iconst (pc := 114) hΓ d_X6_findPains_114 ic_2 ?_
              refine tn_iload_n (pc := 115) hΓ d_X6_findPains_115 rfl ?_
              refine tn_imul (pc := 116) hΓ d_X6_findPains_116 ?_
              refine tn_iload (pc := 117) hΓ d_X6_findPains_117 rfl ?_
              refine tn_iload (pc := 119) hΓ d_X6_findPains_119 rfl ?_
              refine tn_iadd (pc := 121) hΓ d_X6_findPains_121 ?_
              obtain ⟨hi29, h⟩ := h
              refine tn_ast (pc := 122) hΓ d_X6_findPains_122 (gd_k hG (c := 51) rfl) hi29 ?_
              refine tn_tops (fun σ69 eσ69 => ?_)
              have h := h σ69 eσ69
              refine tn_aload_n (pc := 123) hΓ d_X6_findPains_123 rfl ?_
              refine tn_getRy (y := 51) (pc := 124) hΓ d_X6_findPains_124 fl_6_43 rfl (gd_k hG (c := 39) rfl) (gd_r hG 39 25 51 rfl rfl) ?_
              refine tn_iconst (pc := 127) hΓ d_X6_findPains_127 ic_2 ?_
              refine tn_iload_n (pc := 128) hΓ d_X6_findPains_128 rfl ?_
              refine tn_imul (pc := 129) hΓ d_X6_findPains_129 ?_
              refine tn_iconst (pc := 130) hΓ d_X6_findPains_130 ic_1 ?_
              refine tn_iadd (pc := 131) hΓ d_X6_findPains_131 ?_
              refine tn_iload (pc := 132) hΓ d_X6_findPains_132 rfl ?_
              refine tn_iload (pc := 134) hΓ d_X6_findPains_134 rfl ?_
              refine tn_iadd (pc := 136) hΓ d_X6_findPains_136 ?_
              obtain ⟨hi30, h⟩ := h
              refine tn_ast (pc := 137) hΓ d_X6_findPains_137 (gd_k hG (c := 51) rfl) hi30 ?_
              refine tn_tops (fun σ70 eσ70 => ?_)
              have h := h σ70 eσ70
              refine tn_aload_n (pc := 138) hΓ d_X6_findPains_138 rfl ?_
              refine tn_iconst (pc := 139) hΓ d_X6_findPains_139 ic_0 ?_
              refine tn_cvV (As := [.int (0 : Int32)]) (st := []) (pc := 140) hΓ d_X6_findPains_140 mv_X6_putBack im_X6_putBack se_X6_putBack ml_6_181 ⟨⟨by decide, by decide⟩, by decide, by decide⟩ rfl rfl rfl (by decide) ⟨_, rfl⟩ (gd_k hG (c := 39) rfl) (Nat.le_of_ble_eq_true rfl) rfl h (fun σ71 h => ?_)
              refine tn_iincw (loc' := fun v_ => [.ref 39, .int y1, .int y2, .int v_, .int r20, .int (6 : Int32), .int r26]) (pc := 143) hΓ d_X6_findPains_143 rfl ic_1 (by decide) rfl (fun _ => rfl) (fun x15 ex15 => ?_)
              have h := h x15 ex15
              refine tn_goto (tgt := 7) (pc := 146) hΓ d_X6_findPains_146 (by decide) ?_
              refine tn_drop [true, true, true, true, false, false, false] (loc' := [.ref 39, .int y1, .int y2, .int x15, .null, .null, .null]) rfl ?_
              exact h
            · have h := h.2 hq
              refine tn_bipush (pc := 101) hΓ d_X6_findPains_101 bp_20 ?_
              refine tn_goto (tgt := 108) (pc := 103) hΓ d_X6_findPains_103 (by decide) ?_
              refine tn_istore (loc' := [.ref 39, .int y1, .int y2, .int y3, .int r20, .int (6 : Int32), .int (20 : Int32)]) (pc := 108) hΓ d_X6_findPains_108 (by decide) rfl rfl ?_
              refine tn_aload_n (pc := 110) hΓ d_X6_findPains_110 rfl ?_
              refine tn_getRy (y := 51) (pc := 111) hΓ d_X6_findPains_111 fl_6_43 rfl (gd_k hG (c := 39) rfl) (gd_r hG 39 25 51 rfl rfl) ?_
              refine tn_iconst (pc := 114) hΓ d_X6_findPains_114 ic_2 ?_
              refine tn_iload_n (pc := 115) hΓ d_X6_findPains_115 rfl ?_
              refine tn_imul (pc := 116) hΓ d_X6_findPains_116 ?_
              refine tn_iload (pc := 117) hΓ d_X6_findPains_117 rfl ?_
              refine tn_iload (pc := 119) hΓ d_X6_findPains_119 rfl ?_
              refine tn_iadd (pc := 121) hΓ d_X6_findPains_121 ?_
              obtain ⟨hi31, h⟩ := h
              refine tn_ast (pc := 122) hΓ d_X6_findPains_122 (gd_k hG (c := 51) rfl) hi31 ?_
              refine tn_tops (fun σ72 eσ72 => ?_)
              have h := h σ72 eσ72
              refine tn_aload_n (pc := 123) hΓ d_X6_findPains_123 rfl ?_
              refine tn_getRy (y := 51) (pc := 124) hΓ d_X6_findPains_124 fl_6_43 rfl (gd_k hG (c := 39) rfl) (gd_r hG 39 25 51 rfl rfl) ?_
              refine tn_iconst (pc := 127) hΓ d_X6_findPains_127 ic_2 ?_
              refine tn_iload_n (pc := 128) hΓ d_X6_findPains_128 rfl ?_
              refine tn_imul (pc := 129) hΓ d_X6_findPains_129 ?_
              refine tn_iconst (pc := 130) hΓ d_X6_findPains_130 ic_1 ?_
              refine tn_iadd (pc := 131) hΓ d_X6_findPains_131 ?_
              refine tn_iload (pc := 132) hΓ d_X6_findPains_132 rfl ?_
              refine tn_iload (pc := 134) hΓ d_X6_findPains_134 rfl ?_
              refine tn_iadd (pc := 136) hΓ d_X6_findPains_136 ?_
              obtain ⟨hi32, h⟩ := h
              refine tn_ast (pc := 137) hΓ d_X6_findPains_137 (gd_k hG (c := 51) rfl) hi32 ?_
              refine tn_tops (fun σ73 eσ73 => ?_)
              have h := h σ73 eσ73
              refine tn_aload_n (pc := 138) hΓ d_X6_findPains_138 rfl ?_
              refine tn_iconst (pc := 139) hΓ d_X6_findPains_139 ic_0 ?_
              refine tn_cvV (As := [.int (0 : Int32)]) (st := []) (pc := 140) hΓ d_X6_findPains_140 mv_X6_putBack im_X6_putBack se_X6_putBack ml_6_181 ⟨⟨by decide, by decide⟩, by decide, by decide⟩ rfl rfl rfl (by decide) ⟨_, rfl⟩ (gd_k hG (c := 39) rfl) (Nat.le_of_ble_eq_true rfl) rfl h (fun σ74 h => ?_)
              refine tn_iincw (loc' := fun v_ => [.ref 39, .int y1, .int y2, .int v_, .int r20, .int (6 : Int32), .int (20 : Int32)]) (pc := 143) hΓ d_X6_findPains_143 rfl ic_1 (by decide) rfl (fun _ => rfl) (fun x16 ex16 => ?_)
              have h := h x16 ex16
              refine tn_goto (tgt := 7) (pc := 146) hΓ d_X6_findPains_146 (by decide) ?_
              refine tn_drop [true, true, true, true, false, false, false] (loc' := [.ref 39, .int y1, .int y2, .int x16, .null, .null, .null]) rfl ?_
              exact h
          · have h := h.2 hq
            refine tn_aload_n (pc := 68) hΓ d_X6_findPains_68 rfl ?_
            refine tn_iload_n (pc := 69) hΓ d_X6_findPains_69 rfl ?_
            refine tn_cvI (As := [.int y2]) (st := []) (pc := 70) hΓ d_X6_findPains_70 mv_X6_weightOf im_X6_weightOf se_X6_weightOf ml_6_139 ⟨⟨by decide, by decide⟩, by decide, by decide⟩ rfl rfl rfl (by decide) ⟨_, rfl⟩ (gd_k hG (c := 39) rfl) (Nat.le_of_ble_eq_true rfl) rfl h (fun r27 σ75 h => ?_)
            refine tn_goto (tgt := 78) (pc := 73) hΓ d_X6_findPains_73 (by decide) ?_
            refine tn_istore (loc' := [.ref 39, .int y1, .int y2, .int y3, .int r20, .int r27, .null]) (pc := 78) hΓ d_X6_findPains_78 (by decide) rfl rfl ?_
            refine tn_aload_n (pc := 80) hΓ d_X6_findPains_80 rfl ?_
            refine tn_iload_n (pc := 81) hΓ d_X6_findPains_81 rfl ?_
            refine tn_cvI (As := [.int y2]) (st := []) (pc := 82) hΓ d_X6_findPains_82 mv_X6_owns im_X6_owns se_X6_owns ml_6_155 ⟨⟨by decide, by decide⟩, by decide, by decide⟩ rfl rfl rfl (by decide) ⟨_, rfl⟩ (gd_k hG (c := 39) rfl) (Nat.le_of_ble_eq_true rfl) rfl h (fun r28 σ76 h => ?_)
            refine tn_popi (pc := 85) hΓ d_X6_findPains_85 ?_
            refine tn_aload_n (pc := 86) hΓ d_X6_findPains_86 rfl ?_
            refine tn_bipush (pc := 87) hΓ d_X6_findPains_87 bp_20 ?_
            refine tn_cvI (As := [.int (20 : Int32)]) (st := []) (pc := 89) hΓ d_X6_findPains_89 mv_X6_quietIn im_X6_quietIn se_X6_quietIn ml_6_184 ⟨⟨by decide, by decide⟩, by decide, by decide⟩ rfl rfl rfl (by decide) ⟨_, rfl⟩ (gd_k hG (c := 39) rfl) (Nat.le_of_ble_eq_true rfl) rfl h (fun r29 σ77 h => ?_)
            refine tn_istore (loc' := [.ref 39, .int y1, .int y2, .int y3, .int r20, .int r27, .int r29]) (pc := 92) hΓ d_X6_findPains_92 (by decide) rfl rfl ?_
            refine tn_iload (pc := 94) hΓ d_X6_findPains_94 rfl ?_
            refine tn_bipush (pc := 96) hΓ d_X6_findPains_96 bp_m9 ?_
            refine tn_icmp_ne (tgt := 106) (pc := 98) hΓ d_X6_findPains_98 (by decide) (fun hq => ?_) (fun hq => ?_)
            · have h := h.1 hq
              refine tn_iload (pc := 106) hΓ d_X6_findPains_106 rfl ?_
              refine tn_istore (loc' := [.ref 39, .int y1, .int y2, .int y3, .int r20, .int r27, .int r29]) (pc := 108) hΓ d_X6_findPains_108 (by decide) rfl rfl ?_
              refine tn_aload_n (pc := 110) hΓ d_X6_findPains_110 rfl ?_
              refine tn_getRy (y := 51) (pc := 111) hΓ d_X6_findPains_111 fl_6_43 rfl (gd_k hG (c := 39) rfl) (gd_r hG 39 25 51 rfl rfl) ?_
              refine tn_iconst (pc := 114) hΓ d_X6_findPains_114 ic_2 ?_
              refine tn_iload_n (pc := 115) hΓ d_X6_findPains_115 rfl ?_
              refine tn_imul (pc := 116) hΓ d_X6_findPains_116 ?_
              refine tn_iload (pc := 117) hΓ d_X6_findPains_117 rfl ?_
              refine tn_iload (pc := 119) hΓ d_X6_findPains_119 rfl ?_
              refine tn_iadd (pc := 121) hΓ d_X6_findPains_121 ?_
              obtain ⟨hi33, h⟩ := h
              refine tn_ast (pc := 122) hΓ d_X6_findPains_122 (gd_k hG (c := 51) rfl) hi33 ?_
              refine tn_tops (fun σ78 eσ78 => ?_)
              have h := h σ78 eσ78
              refine tn_aload_n (pc := 123) hΓ d_X6_findPains_123 rfl ?_
              refine tn_getRy (y := 51) (pc := 124) hΓ d_X6_findPains_124 fl_6_43 rfl (gd_k hG (c := 39) rfl) (gd_r hG 39 25 51 rfl rfl) ?_
              refine tn_iconst (pc := 127) hΓ d_X6_findPains_127 ic_2 ?_
              refine tn_iload_n (pc := 128) hΓ d_X6_findPains_128 rfl ?_
              refine tn_imul (pc := 129) hΓ d_X6_findPains_129 ?_
              refine tn_iconst (pc := 130) hΓ d_X6_findPains_130 ic_1 ?_
              refine tn_iadd (pc := 131) hΓ d_X6_findPains_131 ?_
              refine tn_iload (pc := 132) hΓ d_X6_findPains_132 rfl ?_
              refine tn_iload (pc := 134) hΓ d_X6_findPains_134 rfl ?_
              refine tn_iadd (pc := 136) hΓ d_X6_findPains_136 ?_
              obtain ⟨hi34, h⟩ := h
              refine tn_ast (pc := 137) hΓ d_X6_findPains_137 (gd_k hG (c := 51) rfl) hi34 ?_
              refine tn_tops (fun σ79 eσ79 => ?_)
              have h := h σ79 eσ79
              refine tn_aload_n (pc := 138) hΓ d_X6_findPains_138 rfl ?_
              refine tn_iconst (pc := 139) hΓ d_X6_findPains_139 ic_0 ?_
              refine tn_cvV (As := [.int (0 : Int32)]) (st := []) (pc := 140) hΓ d_X6_findPains_140 mv_X6_putBack im_X6_putBack se_X6_putBack ml_6_181 ⟨⟨by decide, by decide⟩, by decide, by decide⟩ rfl rfl rfl (by decide) ⟨_, rfl⟩ (gd_k hG (c := 39) rfl) (Nat.le_of_ble_eq_true rfl) rfl h (fun σ80 h => ?_)
              refine tn_iincw (loc' := fun v_ => [.ref 39, .int y1, .int y2, .int v_, .int r20, .int r27, .int r29]) (pc := 143) hΓ d_X6_findPains_143 rfl ic_1 (by decide) rfl (fun _ => rfl) (fun x17 ex17 => ?_)
              have h := h x17 ex17
              refine tn_goto (tgt := 7) (pc := 146) hΓ d_X6_findPains_146 (by decide) ?_
              refine tn_drop [true, true, true, true, false, false, false] (loc' := [.ref 39, .int y1, .int y2, .int x17, .null, .null, .null]) rfl ?_
              exact h
            · have h := h.2 hq
              refine tn_bipush (pc := 101) hΓ d_X6_findPains_101 bp_20 ?_
              refine tn_goto (tgt := 108) (pc := 103) hΓ d_X6_findPains_103 (by decide) ?_
              refine tn_istore (loc' := [.ref 39, .int y1, .int y2, .int y3, .int r20, .int r27, .int (20 : Int32)]) (pc := 108) hΓ d_X6_findPains_108 (by decide) rfl rfl ?_
              refine tn_aload_n (pc := 110) hΓ d_X6_findPains_110 rfl ?_
              refine tn_getRy (y := 51) (pc := 111) hΓ d_X6_findPains_111 fl_6_43 rfl (gd_k hG (c := 39) rfl) (gd_r hG 39 25 51 rfl rfl) ?_
              refine tn_iconst (pc := 114) hΓ d_X6_findPains_114 ic_2 ?_
              refine tn_iload_n (pc := 115) hΓ d_X6_findPains_115 rfl ?_
              refine tn_imul (pc := 116) hΓ d_X6_findPains_116 ?_
              refine tn_iload (pc := 117) hΓ d_X6_findPains_117 rfl ?_
              refine tn_iload (pc := 119) hΓ d_X6_findPains_119 rfl ?_
              refine tn_iadd (pc := 121) hΓ d_X6_findPains_121 ?_
              obtain ⟨hi35, h⟩ := h
              refine tn_ast (pc := 122) hΓ d_X6_findPains_122 (gd_k hG (c := 51) rfl) hi35 ?_
              refine tn_tops (fun σ81 eσ81 => ?_)
              have h := h σ81 eσ81
              refine tn_aload_n (pc := 123) hΓ d_X6_findPains_123 rfl ?_
              refine tn_getRy (y := 51) (pc := 124) hΓ d_X6_findPains_124 fl_6_43 rfl (gd_k hG (c := 39) rfl) (gd_r hG 39 25 51 rfl rfl) ?_
              refine tn_iconst (pc := 127) hΓ d_X6_findPains_127 ic_2 ?_
              refine tn_iload_n (pc := 128) hΓ d_X6_findPains_128 rfl ?_
              refine tn_imul (pc := 129) hΓ d_X6_findPains_129 ?_
              refine tn_iconst (pc := 130) hΓ d_X6_findPains_130 ic_1 ?_
              refine tn_iadd (pc := 131) hΓ d_X6_findPains_131 ?_
              refine tn_iload (pc := 132) hΓ d_X6_findPains_132 rfl ?_
              refine tn_iload (pc := 134) hΓ d_X6_findPains_134 rfl ?_
              refine tn_iadd (pc := 136) hΓ d_X6_findPains_136 ?_
              obtain ⟨hi36, h⟩ := h
              refine tn_ast (pc := 137) hΓ d_X6_findPains_137 (gd_k hG (c := 51) rfl) hi36 ?_
              refine tn_tops (fun σ82 eσ82 => ?_)
              have h := h σ82 eσ82
              refine tn_aload_n (pc := 138) hΓ d_X6_findPains_138 rfl ?_
              refine tn_iconst (pc := 139) hΓ d_X6_findPains_139 ic_0 ?_
              refine tn_cvV (As := [.int (0 : Int32)]) (st := []) (pc := 140) hΓ d_X6_findPains_140 mv_X6_putBack im_X6_putBack se_X6_putBack ml_6_181 ⟨⟨by decide, by decide⟩, by decide, by decide⟩ rfl rfl rfl (by decide) ⟨_, rfl⟩ (gd_k hG (c := 39) rfl) (Nat.le_of_ble_eq_true rfl) rfl h (fun σ83 h => ?_)
              refine tn_iincw (loc' := fun v_ => [.ref 39, .int y1, .int y2, .int v_, .int r20, .int r27, .int (20 : Int32)]) (pc := 143) hΓ d_X6_findPains_143 rfl ic_1 (by decide) rfl (fun _ => rfl) (fun x18 ex18 => ?_)
              have h := h x18 ex18
              refine tn_goto (tgt := 7) (pc := 146) hΓ d_X6_findPains_146 (by decide) ?_
              refine tn_drop [true, true, true, true, false, false, false] (loc' := [.ref 39, .int y1, .int y2, .int x18, .null, .null, .null]) rfl ?_
              exact h
