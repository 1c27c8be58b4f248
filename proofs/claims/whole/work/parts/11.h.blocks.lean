-- X6_readHouse X6_weightOf X6_rankles X6_whoRankle X6_voiceNow
theorem k_X6_readHouse_0 {Γ : tn_G} {ks : List (Nat × Nat)} {ρ : Nat → Nat → Nat} {σ : Nat → Nat → Int32} {K : Option Value → List (Nat × Nat) → (Nat → Nat → Nat) → (Nat → Nat → Int32) → Prop} (hG : tn_Gd ks ρ) (hΓ : tn_is Γ m_X6_readHouse) (hK : tn_rt Γ m_X6_readHouse K) (a0 : Int32) (h : ((a0 ≤ (σ 39 18) → (∀ x1 : Int32, x1 = ((3 : Int32) * (σ 39 19)) → ((¬ (0 : Int32) = (112 : Int32) → ((¬ (0 : Int32) = (98 : Int32) → ((¬ (0 : Int32) = (100 : Int32) → (vp_in x1 15 ∧ (∀ σ1, σ1 = tn_u σ 48 x1.toNatClampNeg (-9 : Int32) → ((¬ (σ1 48 x1.toNatClampNeg) = (-9 : Int32) → (∀ σ2, σ2 = tn_u σ1 39 18 ((σ1 39 18) + (1 : Int32)) → tn_CI m_X6_digit [.ref 39, .int a0, .int (0 : Int32), .int (9 : Int32)] ks ρ σ2 (fun r1 σ3 => (vp_in (x1 + (1 : Int32)) 15 ∧ (∀ σ4, σ4 = tn_u σ3 48 (x1 + (1 : Int32)).toNatClampNeg r1 → ((¬ (σ4 48 (x1 + (1 : Int32)).toNatClampNeg) = (-9 : Int32) → tn_CI m_X6_digit [.ref 39, .int a0, .int (0 : Int32), .int (9 : Int32)] ks ρ σ4 (fun r2 σ5 => (vp_in (x1 + (2 : Int32)) 15 ∧ (∀ σ6, σ6 = tn_u σ5 48 (x1 + (2 : Int32)).toNatClampNeg r2 → (∀ σ7, σ7 = tn_u σ6 39 19 ((σ6 39 19) + (1 : Int32)) → (((σ7 48 (x1 + (2 : Int32)).toNatClampNeg) = (-9 : Int32) → K (some (.int (0 : Int32))) ks ρ σ7) ∧ (¬ (σ7 48 (x1 + (2 : Int32)).toNatClampNeg) = (-9 : Int32) → K (some (.int (1 : Int32))) ks ρ σ7))))))) ∧ ((σ4 48 (x1 + (1 : Int32)).toNatClampNeg) = (-9 : Int32) → K (some (.int (0 : Int32))) ks ρ σ4))))))) ∧ ((σ1 48 x1.toNatClampNeg) = (-9 : Int32) → K (some (.int (0 : Int32))) ks ρ σ1))))) ∧ ((0 : Int32) = (100 : Int32) → (vp_in x1 15 ∧ (∀ σ8, σ8 = tn_u σ 48 x1.toNatClampNeg (2 : Int32) → ((¬ (σ8 48 x1.toNatClampNeg) = (-9 : Int32) → (∀ σ9, σ9 = tn_u σ8 39 18 ((σ8 39 18) + (1 : Int32)) → tn_CI m_X6_digit [.ref 39, .int a0, .int (0 : Int32), .int (9 : Int32)] ks ρ σ9 (fun r3 σ10 => (vp_in (x1 + (1 : Int32)) 15 ∧ (∀ σ11, σ11 = tn_u σ10 48 (x1 + (1 : Int32)).toNatClampNeg r3 → ((¬ (σ11 48 (x1 + (1 : Int32)).toNatClampNeg) = (-9 : Int32) → tn_CI m_X6_digit [.ref 39, .int a0, .int (0 : Int32), .int (9 : Int32)] ks ρ σ11 (fun r4 σ12 => (vp_in (x1 + (2 : Int32)) 15 ∧ (∀ σ13, σ13 = tn_u σ12 48 (x1 + (2 : Int32)).toNatClampNeg r4 → (∀ σ14, σ14 = tn_u σ13 39 19 ((σ13 39 19) + (1 : Int32)) → (((σ14 48 (x1 + (2 : Int32)).toNatClampNeg) = (-9 : Int32) → K (some (.int (0 : Int32))) ks ρ σ14) ∧ (¬ (σ14 48 (x1 + (2 : Int32)).toNatClampNeg) = (-9 : Int32) → K (some (.int (1 : Int32))) ks ρ σ14))))))) ∧ ((σ11 48 (x1 + (1 : Int32)).toNatClampNeg) = (-9 : Int32) → K (some (.int (0 : Int32))) ks ρ σ11))))))) ∧ ((σ8 48 x1.toNatClampNeg) = (-9 : Int32) → K (some (.int (0 : Int32))) ks ρ σ8))))))) ∧ ((0 : Int32) = (98 : Int32) → (vp_in x1 15 ∧ (∀ σ15, σ15 = tn_u σ 48 x1.toNatClampNeg (1 : Int32) → ((¬ (σ15 48 x1.toNatClampNeg) = (-9 : Int32) → (∀ σ16, σ16 = tn_u σ15 39 18 ((σ15 39 18) + (1 : Int32)) → tn_CI m_X6_digit [.ref 39, .int a0, .int (0 : Int32), .int (9 : Int32)] ks ρ σ16 (fun r5 σ17 => (vp_in (x1 + (1 : Int32)) 15 ∧ (∀ σ18, σ18 = tn_u σ17 48 (x1 + (1 : Int32)).toNatClampNeg r5 → ((¬ (σ18 48 (x1 + (1 : Int32)).toNatClampNeg) = (-9 : Int32) → tn_CI m_X6_digit [.ref 39, .int a0, .int (0 : Int32), .int (9 : Int32)] ks ρ σ18 (fun r6 σ19 => (vp_in (x1 + (2 : Int32)) 15 ∧ (∀ σ20, σ20 = tn_u σ19 48 (x1 + (2 : Int32)).toNatClampNeg r6 → (∀ σ21, σ21 = tn_u σ20 39 19 ((σ20 39 19) + (1 : Int32)) → (((σ21 48 (x1 + (2 : Int32)).toNatClampNeg) = (-9 : Int32) → K (some (.int (0 : Int32))) ks ρ σ21) ∧ (¬ (σ21 48 (x1 + (2 : Int32)).toNatClampNeg) = (-9 : Int32) → K (some (.int (1 : Int32))) ks ρ σ21))))))) ∧ ((σ18 48 (x1 + (1 : Int32)).toNatClampNeg) = (-9 : Int32) → K (some (.int (0 : Int32))) ks ρ σ18))))))) ∧ ((σ15 48 x1.toNatClampNeg) = (-9 : Int32) → K (some (.int (0 : Int32))) ks ρ σ15))))))) ∧ ((0 : Int32) = (112 : Int32) → (vp_in x1 15 ∧ (∀ σ22, σ22 = tn_u σ 48 x1.toNatClampNeg (0 : Int32) → ((¬ (σ22 48 x1.toNatClampNeg) = (-9 : Int32) → (∀ σ23, σ23 = tn_u σ22 39 18 ((σ22 39 18) + (1 : Int32)) → tn_CI m_X6_digit [.ref 39, .int a0, .int (0 : Int32), .int (9 : Int32)] ks ρ σ23 (fun r7 σ24 => (vp_in (x1 + (1 : Int32)) 15 ∧ (∀ σ25, σ25 = tn_u σ24 48 (x1 + (1 : Int32)).toNatClampNeg r7 → ((¬ (σ25 48 (x1 + (1 : Int32)).toNatClampNeg) = (-9 : Int32) → tn_CI m_X6_digit [.ref 39, .int a0, .int (0 : Int32), .int (9 : Int32)] ks ρ σ25 (fun r8 σ26 => (vp_in (x1 + (2 : Int32)) 15 ∧ (∀ σ27, σ27 = tn_u σ26 48 (x1 + (2 : Int32)).toNatClampNeg r8 → (∀ σ28, σ28 = tn_u σ27 39 19 ((σ27 39 19) + (1 : Int32)) → (((σ28 48 (x1 + (2 : Int32)).toNatClampNeg) = (-9 : Int32) → K (some (.int (0 : Int32))) ks ρ σ28) ∧ (¬ (σ28 48 (x1 + (2 : Int32)).toNatClampNeg) = (-9 : Int32) → K (some (.int (1 : Int32))) ks ρ σ28))))))) ∧ ((σ25 48 (x1 + (1 : Int32)).toNatClampNeg) = (-9 : Int32) → K (some (.int (0 : Int32))) ks ρ σ25))))))) ∧ ((σ22 48 x1.toNatClampNeg) = (-9 : Int32) → K (some (.int (0 : Int32))) ks ρ σ22)))))))) ∧ (¬ a0 ≤ (σ 39 18) → (vp_in (σ 39 18) 240 ∧ (∀ x2 : Int32, x2 = (σ 42 (σ 39 18).toNatClampNeg) → (∀ x3 : Int32, x3 = ((3 : Int32) * (σ 39 19)) → ((¬ x2 = (112 : Int32) → ((¬ x2 = (98 : Int32) → ((¬ x2 = (100 : Int32) → (vp_in x3 15 ∧ (∀ σ29, σ29 = tn_u σ 48 x3.toNatClampNeg (-9 : Int32) → ((¬ (σ29 48 x3.toNatClampNeg) = (-9 : Int32) → (∀ σ30, σ30 = tn_u σ29 39 18 ((σ29 39 18) + (1 : Int32)) → tn_CI m_X6_digit [.ref 39, .int a0, .int (0 : Int32), .int (9 : Int32)] ks ρ σ30 (fun r9 σ31 => (vp_in (x3 + (1 : Int32)) 15 ∧ (∀ σ32, σ32 = tn_u σ31 48 (x3 + (1 : Int32)).toNatClampNeg r9 → ((¬ (σ32 48 (x3 + (1 : Int32)).toNatClampNeg) = (-9 : Int32) → tn_CI m_X6_digit [.ref 39, .int a0, .int (0 : Int32), .int (9 : Int32)] ks ρ σ32 (fun r10 σ33 => (vp_in (x3 + (2 : Int32)) 15 ∧ (∀ σ34, σ34 = tn_u σ33 48 (x3 + (2 : Int32)).toNatClampNeg r10 → (∀ σ35, σ35 = tn_u σ34 39 19 ((σ34 39 19) + (1 : Int32)) → (((σ35 48 (x3 + (2 : Int32)).toNatClampNeg) = (-9 : Int32) → K (some (.int (0 : Int32))) ks ρ σ35) ∧ (¬ (σ35 48 (x3 + (2 : Int32)).toNatClampNeg) = (-9 : Int32) → K (some (.int (1 : Int32))) ks ρ σ35))))))) ∧ ((σ32 48 (x3 + (1 : Int32)).toNatClampNeg) = (-9 : Int32) → K (some (.int (0 : Int32))) ks ρ σ32))))))) ∧ ((σ29 48 x3.toNatClampNeg) = (-9 : Int32) → K (some (.int (0 : Int32))) ks ρ σ29))))) ∧ (x2 = (100 : Int32) → (vp_in x3 15 ∧ (∀ σ36, σ36 = tn_u σ 48 x3.toNatClampNeg (2 : Int32) → ((¬ (σ36 48 x3.toNatClampNeg) = (-9 : Int32) → (∀ σ37, σ37 = tn_u σ36 39 18 ((σ36 39 18) + (1 : Int32)) → tn_CI m_X6_digit [.ref 39, .int a0, .int (0 : Int32), .int (9 : Int32)] ks ρ σ37 (fun r11 σ38 => (vp_in (x3 + (1 : Int32)) 15 ∧ (∀ σ39, σ39 = tn_u σ38 48 (x3 + (1 : Int32)).toNatClampNeg r11 → ((¬ (σ39 48 (x3 + (1 : Int32)).toNatClampNeg) = (-9 : Int32) → tn_CI m_X6_digit [.ref 39, .int a0, .int (0 : Int32), .int (9 : Int32)] ks ρ σ39 (fun r12 σ40 => (vp_in (x3 + (2 : Int32)) 15 ∧ (∀ σ41, σ41 = tn_u σ40 48 (x3 + (2 : Int32)).toNatClampNeg r12 → (∀ σ42, σ42 = tn_u σ41 39 19 ((σ41 39 19) + (1 : Int32)) → (((σ42 48 (x3 + (2 : Int32)).toNatClampNeg) = (-9 : Int32) → K (some (.int (0 : Int32))) ks ρ σ42) ∧ (¬ (σ42 48 (x3 + (2 : Int32)).toNatClampNeg) = (-9 : Int32) → K (some (.int (1 : Int32))) ks ρ σ42))))))) ∧ ((σ39 48 (x3 + (1 : Int32)).toNatClampNeg) = (-9 : Int32) → K (some (.int (0 : Int32))) ks ρ σ39))))))) ∧ ((σ36 48 x3.toNatClampNeg) = (-9 : Int32) → K (some (.int (0 : Int32))) ks ρ σ36))))))) ∧ (x2 = (98 : Int32) → (vp_in x3 15 ∧ (∀ σ43, σ43 = tn_u σ 48 x3.toNatClampNeg (1 : Int32) → ((¬ (σ43 48 x3.toNatClampNeg) = (-9 : Int32) → (∀ σ44, σ44 = tn_u σ43 39 18 ((σ43 39 18) + (1 : Int32)) → tn_CI m_X6_digit [.ref 39, .int a0, .int (0 : Int32), .int (9 : Int32)] ks ρ σ44 (fun r13 σ45 => (vp_in (x3 + (1 : Int32)) 15 ∧ (∀ σ46, σ46 = tn_u σ45 48 (x3 + (1 : Int32)).toNatClampNeg r13 → ((¬ (σ46 48 (x3 + (1 : Int32)).toNatClampNeg) = (-9 : Int32) → tn_CI m_X6_digit [.ref 39, .int a0, .int (0 : Int32), .int (9 : Int32)] ks ρ σ46 (fun r14 σ47 => (vp_in (x3 + (2 : Int32)) 15 ∧ (∀ σ48, σ48 = tn_u σ47 48 (x3 + (2 : Int32)).toNatClampNeg r14 → (∀ σ49, σ49 = tn_u σ48 39 19 ((σ48 39 19) + (1 : Int32)) → (((σ49 48 (x3 + (2 : Int32)).toNatClampNeg) = (-9 : Int32) → K (some (.int (0 : Int32))) ks ρ σ49) ∧ (¬ (σ49 48 (x3 + (2 : Int32)).toNatClampNeg) = (-9 : Int32) → K (some (.int (1 : Int32))) ks ρ σ49))))))) ∧ ((σ46 48 (x3 + (1 : Int32)).toNatClampNeg) = (-9 : Int32) → K (some (.int (0 : Int32))) ks ρ σ46))))))) ∧ ((σ43 48 x3.toNatClampNeg) = (-9 : Int32) → K (some (.int (0 : Int32))) ks ρ σ43))))))) ∧ (x2 = (112 : Int32) → (vp_in x3 15 ∧ (∀ σ50, σ50 = tn_u σ 48 x3.toNatClampNeg (0 : Int32) → ((¬ (σ50 48 x3.toNatClampNeg) = (-9 : Int32) → (∀ σ51, σ51 = tn_u σ50 39 18 ((σ50 39 18) + (1 : Int32)) → tn_CI m_X6_digit [.ref 39, .int a0, .int (0 : Int32), .int (9 : Int32)] ks ρ σ51 (fun r15 σ52 => (vp_in (x3 + (1 : Int32)) 15 ∧ (∀ σ53, σ53 = tn_u σ52 48 (x3 + (1 : Int32)).toNatClampNeg r15 → ((¬ (σ53 48 (x3 + (1 : Int32)).toNatClampNeg) = (-9 : Int32) → tn_CI m_X6_digit [.ref 39, .int a0, .int (0 : Int32), .int (9 : Int32)] ks ρ σ53 (fun r16 σ54 => (vp_in (x3 + (2 : Int32)) 15 ∧ (∀ σ55, σ55 = tn_u σ54 48 (x3 + (2 : Int32)).toNatClampNeg r16 → (∀ σ56, σ56 = tn_u σ55 39 19 ((σ55 39 19) + (1 : Int32)) → (((σ56 48 (x3 + (2 : Int32)).toNatClampNeg) = (-9 : Int32) → K (some (.int (0 : Int32))) ks ρ σ56) ∧ (¬ (σ56 48 (x3 + (2 : Int32)).toNatClampNeg) = (-9 : Int32) → K (some (.int (1 : Int32))) ks ρ σ56))))))) ∧ ((σ53 48 (x3 + (1 : Int32)).toNatClampNeg) = (-9 : Int32) → K (some (.int (0 : Int32))) ks ρ σ53))))))) ∧ ((σ50 48 x3.toNatClampNeg) = (-9 : Int32) → K (some (.int (0 : Int32))) ks ρ σ50)))))))))))) : tn_A Γ 0 [.ref 39, .int a0, .null, .null] [] 0 0 ks ρ σ := by
  refine tn_aload_n (pc := 0) hΓ d_X6_readHouse_0 rfl ?_
  refine tn_getI (pc := 1) hΓ d_X6_readHouse_1 fl_6_68 rfl (gd_k hG (c := 39) rfl) ?_
  refine tn_iload_n (pc := 4) hΓ d_X6_readHouse_4 rfl ?_
  refine tn_icmp_ge (tgt := 20) (pc := 5) hΓ d_X6_readHouse_5 (by decide) (fun hq => ?_) (fun hq => ?_)
  · have h := h.1 hq
    refine tn_iconst (pc := 20) hΓ d_X6_readHouse_20 ic_0 ?_
    refine tn_istore_n (loc' := [.ref 39, .int a0, .int (0 : Int32), .null]) (pc := 21) hΓ d_X6_readHouse_21 (by decide) rfl rfl ?_
    refine tn_iconst (pc := 22) hΓ d_X6_readHouse_22 ic_3 ?_
    refine tn_aload_n (pc := 23) hΓ d_X6_readHouse_23 rfl ?_
    refine tn_getI (pc := 24) hΓ d_X6_readHouse_24 fl_6_92 rfl (gd_k hG (c := 39) rfl) ?_
    refine tn_imul (pc := 27) hΓ d_X6_readHouse_27 ?_
    refine tn_topi (fun x1 ex1 => ?_)
    have h := h x1 ex1
    refine tn_istore_n (loc' := [.ref 39, .int a0, .int (0 : Int32), .int x1]) (pc := 28) hΓ d_X6_readHouse_28 (by decide) rfl rfl ?_
    refine tn_aload_n (pc := 29) hΓ d_X6_readHouse_29 rfl ?_
    refine tn_getRy (y := 48) (pc := 30) hΓ d_X6_readHouse_30 fl_6_34 rfl (gd_k hG (c := 39) rfl) (gd_r hG 39 22 48 rfl rfl) ?_
    refine tn_iload_n (pc := 33) hΓ d_X6_readHouse_33 rfl ?_
    refine tn_iload_n (pc := 34) hΓ d_X6_readHouse_34 rfl ?_
    refine tn_bipush (pc := 35) hΓ d_X6_readHouse_35 bp_112 ?_
    refine tn_icmp_ne (tgt := 44) (pc := 37) hΓ d_X6_readHouse_37 (by decide) (fun hq => ?_) (fun hq => ?_)
    · have h := h.1 hq
      refine tn_iload_n (pc := 44) hΓ d_X6_readHouse_44 rfl ?_
      refine tn_bipush (pc := 45) hΓ d_X6_readHouse_45 bp_98 ?_
      refine tn_icmp_ne (tgt := 54) (pc := 47) hΓ d_X6_readHouse_47 (by decide) (fun hq => ?_) (fun hq => ?_)
      · have h := h.1 hq
        refine tn_iload_n (pc := 54) hΓ d_X6_readHouse_54 rfl ?_
        refine tn_bipush (pc := 55) hΓ d_X6_readHouse_55 bp_100 ?_
        refine tn_icmp_ne (tgt := 64) (pc := 57) hΓ d_X6_readHouse_57 (by decide) (fun hq => ?_) (fun hq => ?_)
        · have h := h.1 hq
          refine tn_bipush (pc := 64) hΓ d_X6_readHouse_64 bp_m9 ?_
          obtain ⟨hi1, h⟩ := h
          refine tn_ast (pc := 66) hΓ d_X6_readHouse_66 (gd_k hG (c := 48) rfl) hi1 ?_
          refine tn_tops (fun σ1 eσ1 => ?_)
          have h := h σ1 eσ1
          refine tn_aload_n (pc := 67) hΓ d_X6_readHouse_67 rfl ?_
          refine tn_getRy (y := 48) (pc := 68) hΓ d_X6_readHouse_68 fl_6_34 rfl (gd_k hG (c := 39) rfl) (gd_r hG 39 22 48 rfl rfl) ?_
          refine tn_iload_n (pc := 71) hΓ d_X6_readHouse_71 rfl ?_
          refine tn_ald (pc := 72) hΓ d_X6_readHouse_72 (gd_k hG (c := 48) rfl) hi1 ?_
          refine tn_bipush (pc := 73) hΓ d_X6_readHouse_73 bp_m9 ?_
          refine tn_icmp_ne (tgt := 80) (pc := 75) hΓ d_X6_readHouse_75 (by decide) (fun hq => ?_) (fun hq => ?_)
          · have h := h.1 hq
            refine tn_aload_n (pc := 80) hΓ d_X6_readHouse_80 rfl ?_
            refine tn_dupr (pc := 81) hΓ d_X6_readHouse_81 ?_
            refine tn_getI (pc := 82) hΓ d_X6_readHouse_82 fl_6_68 rfl (gd_k hG (c := 39) rfl) ?_
            refine tn_iconst (pc := 85) hΓ d_X6_readHouse_85 ic_1 ?_
            refine tn_iadd (pc := 86) hΓ d_X6_readHouse_86 ?_
            refine tn_putI (pc := 87) hΓ d_X6_readHouse_87 fl_6_68 fk_6_6_18 rfl (gd_k hG (c := 39) rfl)  ?_
            refine tn_tops (fun σ2 eσ2 => ?_)
            have h := h σ2 eσ2
            refine tn_aload_n (pc := 90) hΓ d_X6_readHouse_90 rfl ?_
            refine tn_getRy (y := 48) (pc := 91) hΓ d_X6_readHouse_91 fl_6_34 rfl (gd_k hG (c := 39) rfl) (gd_r hG 39 22 48 rfl rfl) ?_
            refine tn_iload_n (pc := 94) hΓ d_X6_readHouse_94 rfl ?_
            refine tn_iconst (pc := 95) hΓ d_X6_readHouse_95 ic_1 ?_
            refine tn_iadd (pc := 96) hΓ d_X6_readHouse_96 ?_
            refine tn_aload_n (pc := 97) hΓ d_X6_readHouse_97 rfl ?_
            refine tn_iload_n (pc := 98) hΓ d_X6_readHouse_98 rfl ?_
            refine tn_iconst (pc := 99) hΓ d_X6_readHouse_99 ic_0 ?_
            refine tn_bipush (pc := 100) hΓ d_X6_readHouse_100 bp_9 ?_
            refine tn_cvI (As := [.int a0, .int (0 : Int32), .int (9 : Int32)]) (st := [.int (x1 + (1 : Int32)), .ref 48]) (pc := 102) hΓ d_X6_readHouse_102 mv_X6_digit im_X6_digit se_X6_digit ml_6_126 ⟨⟨by decide, by decide⟩, by decide, by decide⟩ rfl rfl rfl (by decide) ⟨_, rfl⟩ (gd_k hG (c := 39) rfl) (Nat.le_of_ble_eq_true rfl) rfl h (fun r1 σ3 h => ?_)
            obtain ⟨hi2, h⟩ := h
            refine tn_ast (pc := 105) hΓ d_X6_readHouse_105 (gd_k hG (c := 48) rfl) hi2 ?_
            refine tn_tops (fun σ4 eσ4 => ?_)
            have h := h σ4 eσ4
            refine tn_aload_n (pc := 106) hΓ d_X6_readHouse_106 rfl ?_
            refine tn_getRy (y := 48) (pc := 107) hΓ d_X6_readHouse_107 fl_6_34 rfl (gd_k hG (c := 39) rfl) (gd_r hG 39 22 48 rfl rfl) ?_
            refine tn_iload_n (pc := 110) hΓ d_X6_readHouse_110 rfl ?_
            refine tn_iconst (pc := 111) hΓ d_X6_readHouse_111 ic_1 ?_
            refine tn_iadd (pc := 112) hΓ d_X6_readHouse_112 ?_
            refine tn_ald (pc := 113) hΓ d_X6_readHouse_113 (gd_k hG (c := 48) rfl) hi2 ?_
            refine tn_bipush (pc := 114) hΓ d_X6_readHouse_114 bp_m9 ?_
            refine tn_icmp_ne (tgt := 121) (pc := 116) hΓ d_X6_readHouse_116 (by decide) (fun hq => ?_) (fun hq => ?_)
            · have h := h.1 hq
              refine tn_aload_n (pc := 121) hΓ d_X6_readHouse_121 rfl ?_
              refine tn_getRy (y := 48) (pc := 122) hΓ d_X6_readHouse_122 fl_6_34 rfl (gd_k hG (c := 39) rfl) (gd_r hG 39 22 48 rfl rfl) ?_
              refine tn_iload_n (pc := 125) hΓ d_X6_readHouse_125 rfl ?_
              refine tn_iconst (pc := 126) hΓ d_X6_readHouse_126 ic_2 ?_
              refine tn_iadd (pc := 127) hΓ d_X6_readHouse_127 ?_
              refine tn_aload_n (pc := 128) hΓ d_X6_readHouse_128 rfl ?_
              refine tn_iload_n (pc := 129) hΓ d_X6_readHouse_129 rfl ?_
              refine tn_iconst (pc := 130) hΓ d_X6_readHouse_130 ic_0 ?_
              refine tn_bipush (pc := 131) hΓ d_X6_readHouse_131 bp_9 ?_
              refine tn_cvI (As := [.int a0, .int (0 : Int32), .int (9 : Int32)]) (st := [.int (x1 + (2 : Int32)), .ref 48]) (pc := 133) hΓ d_X6_readHouse_133 mv_X6_digit im_X6_digit se_X6_digit ml_6_126 ⟨⟨by decide, by decide⟩, by decide, by decide⟩ rfl rfl rfl (by decide) ⟨_, rfl⟩ (gd_k hG (c := 39) rfl) (Nat.le_of_ble_eq_true rfl) rfl h (fun r2 σ5 h => ?_)
              obtain ⟨hi3, h⟩ := h
              refine tn_ast (pc := 136) hΓ d_X6_readHouse_136 (gd_k hG (c := 48) rfl) hi3 ?_
              refine tn_tops (fun σ6 eσ6 => ?_)
              have h := h σ6 eσ6
              refine tn_aload_n (pc := 137) hΓ d_X6_readHouse_137 rfl ?_
              refine tn_dupr (pc := 138) hΓ d_X6_readHouse_138 ?_
              refine tn_getI (pc := 139) hΓ d_X6_readHouse_139 fl_6_92 rfl (gd_k hG (c := 39) rfl) ?_
              refine tn_iconst (pc := 142) hΓ d_X6_readHouse_142 ic_1 ?_
              refine tn_iadd (pc := 143) hΓ d_X6_readHouse_143 ?_
              refine tn_putI (pc := 144) hΓ d_X6_readHouse_144 fl_6_92 fk_6_6_19 rfl (gd_k hG (c := 39) rfl)  ?_
              refine tn_tops (fun σ7 eσ7 => ?_)
              have h := h σ7 eσ7
              refine tn_aload_n (pc := 147) hΓ d_X6_readHouse_147 rfl ?_
              refine tn_getRy (y := 48) (pc := 148) hΓ d_X6_readHouse_148 fl_6_34 rfl (gd_k hG (c := 39) rfl) (gd_r hG 39 22 48 rfl rfl) ?_
              refine tn_iload_n (pc := 151) hΓ d_X6_readHouse_151 rfl ?_
              refine tn_iconst (pc := 152) hΓ d_X6_readHouse_152 ic_2 ?_
              refine tn_iadd (pc := 153) hΓ d_X6_readHouse_153 ?_
              refine tn_ald (pc := 154) hΓ d_X6_readHouse_154 (gd_k hG (c := 48) rfl) hi3 ?_
              refine tn_bipush (pc := 155) hΓ d_X6_readHouse_155 bp_m9 ?_
              refine tn_icmp_eq (tgt := 164) (pc := 157) hΓ d_X6_readHouse_157 (by decide) (fun hq => ?_) (fun hq => ?_)
              · have h := h.1 hq
                refine tn_iconst (pc := 164) hΓ d_X6_readHouse_164 ic_0 ?_
                exact tn_ret_z (pc := 165) hΓ hK d_X6_readHouse_165 rfl (by decide) (by decide) (Or.inl rfl) h
              · have h := h.2 hq
                refine tn_iconst (pc := 160) hΓ d_X6_readHouse_160 ic_1 ?_
                refine tn_goto (tgt := 165) (pc := 161) hΓ d_X6_readHouse_161 (by decide) ?_
                exact tn_ret_z (pc := 165) hΓ hK d_X6_readHouse_165 rfl (by decide) (by decide) (Or.inr rfl) h
            · have h := h.2 hq
              refine tn_iconst (pc := 119) hΓ d_X6_readHouse_119 ic_0 ?_
              exact tn_ret_z (pc := 120) hΓ hK d_X6_readHouse_120 rfl (by decide) (by decide) (Or.inl rfl) h
          · have h := h.2 hq
            refine tn_iconst (pc := 78) hΓ d_X6_readHouse_78 ic_0 ?_
            exact tn_ret_z (pc := 79) hΓ hK d_X6_readHouse_79 rfl (by decide) (by decide) (Or.inl rfl) h
        · have h := h.2 hq
          refine tn_iconst (pc := 60) hΓ d_X6_readHouse_60 ic_2 ?_
          refine tn_goto (tgt := 66) (pc := 61) hΓ d_X6_readHouse_61 (by decide) ?_
          obtain ⟨hi4, h⟩ := h
          refine tn_ast (pc := 66) hΓ d_X6_readHouse_66 (gd_k hG (c := 48) rfl) hi4 ?_
          refine tn_tops (fun σ8 eσ8 => ?_)
          have h := h σ8 eσ8
          refine tn_aload_n (pc := 67) hΓ d_X6_readHouse_67 rfl ?_
          refine tn_getRy (y := 48) (pc := 68) hΓ d_X6_readHouse_68 fl_6_34 rfl (gd_k hG (c := 39) rfl) (gd_r hG 39 22 48 rfl rfl) ?_
          refine tn_iload_n (pc := 71) hΓ d_X6_readHouse_71 rfl ?_
          refine tn_ald (pc := 72) hΓ d_X6_readHouse_72 (gd_k hG (c := 48) rfl) hi4 ?_
          refine tn_bipush (pc := 73) hΓ d_X6_readHouse_73 bp_m9 ?_
          refine tn_icmp_ne (tgt := 80) (pc := 75) hΓ d_X6_readHouse_75 (by decide) (fun hq => ?_) (fun hq => ?_)
          · have h := h.1 hq
            refine tn_aload_n (pc := 80) hΓ d_X6_readHouse_80 rfl ?_
            refine tn_dupr (pc := 81) hΓ d_X6_readHouse_81 ?_
            refine tn_getI (pc := 82) hΓ d_X6_readHouse_82 fl_6_68 rfl (gd_k hG (c := 39) rfl) ?_
            refine tn_iconst (pc := 85) hΓ d_X6_readHouse_85 ic_1 ?_
            refine tn_iadd (pc := 86) hΓ d_X6_readHouse_86 ?_
            refine tn_putI (pc := 87) hΓ d_X6_readHouse_87 fl_6_68 fk_6_6_18 rfl (gd_k hG (c := 39) rfl)  ?_
            refine tn_tops (fun σ9 eσ9 => ?_)
            have h := h σ9 eσ9
            refine tn_aload_n (pc := 90) hΓ d_X6_readHouse_90 rfl ?_
            refine tn_getRy (y := 48) (pc := 91) hΓ d_X6_readHouse_91 fl_6_34 rfl (gd_k hG (c := 39) rfl) (gd_r hG 39 22 48 rfl rfl) ?_
            refine tn_iload_n (pc := 94) hΓ d_X6_readHouse_94 rfl ?_
            refine tn_iconst (pc := 95) hΓ d_X6_readHouse_95 ic_1 ?_
            refine tn_iadd (pc := 96) hΓ d_X6_readHouse_96 ?_
            refine tn_aload_n (pc := 97) hΓ d_X6_readHouse_97 rfl ?_
            refine tn_iload_n (pc := 98) hΓ d_X6_readHouse_98 rfl ?_
            refine tn_iconst (pc := 99) hΓ d_X6_readHouse_99 ic_0 ?_
            refine tn_bipush (pc := 100) hΓ d_X6_readHouse_100 bp_9 ?_
            refine tn_cvI (As := [.int a0, .int (0 : Int32), .int (9 : Int32)]) (st := [.int (x1 + (1 : Int32)), .ref 48]) (pc := 102) hΓ d_X6_readHouse_102 mv_X6_digit im_X6_digit se_X6_digit ml_6_126 ⟨⟨by decide, by decide⟩, by decide, by decide⟩ rfl rfl rfl (by decide) ⟨_, rfl⟩ (gd_k hG (c := 39) rfl) (Nat.le_of_ble_eq_true rfl) rfl h (fun r3 σ10 h => ?_)
            obtain ⟨hi5, h⟩ := h
            refine tn_ast (pc := 105) hΓ d_X6_readHouse_105 (gd_k hG (c := 48) rfl) hi5 ?_
            refine tn_tops (fun σ11 eσ11 => ?_)
            have h := h σ11 eσ11
            refine tn_aload_n (pc := 106) hΓ d_X6_readHouse_106 rfl ?_
            refine tn_getRy (y := 48) (pc := 107) hΓ d_X6_readHouse_107 fl_6_34 rfl (gd_k hG (c := 39) rfl) (gd_r hG 39 22 48 rfl rfl) ?_
            refine tn_iload_n (pc := 110) hΓ d_X6_readHouse_110 rfl ?_
            refine tn_iconst (pc := 111) hΓ d_X6_readHouse_111 ic_1 ?_
            refine tn_iadd (pc := 112) hΓ d_X6_readHouse_112 ?_
            refine tn_ald (pc := 113) hΓ d_X6_readHouse_113 (gd_k hG (c := 48) rfl) hi5 ?_
            refine tn_bipush (pc := 114) hΓ d_X6_readHouse_114 bp_m9 ?_
            refine tn_icmp_ne (tgt := 121) (pc := 116) hΓ d_X6_readHouse_116 (by decide) (fun hq => ?_) (fun hq => ?_)
            · have h := h.1 hq
              refine tn_aload_n (pc := 121) hΓ d_X6_readHouse_121 rfl ?_
              refine tn_getRy (y := 48) (pc := 122) hΓ d_X6_readHouse_122 fl_6_34 rfl (gd_k hG (c := 39) rfl) (gd_r hG 39 22 48 rfl rfl) ?_
              refine tn_iload_n (pc := 125) hΓ d_X6_readHouse_125 rfl ?_
              refine tn_iconst (pc := 126) hΓ d_X6_readHouse_126 ic_2 ?_
              refine tn_iadd (pc := 127) hΓ d_X6_readHouse_127 ?_
              refine tn_aload_n (pc := 128) hΓ d_X6_readHouse_128 rfl ?_
              refine tn_iload_n (pc := 129) hΓ d_X6_readHouse_129 rfl ?_
              refine tn_iconst (pc := 130) hΓ d_X6_readHouse_130 ic_0 ?_
              refine tn_bipush (pc := 131) hΓ d_X6_readHouse_131 bp_9 ?_
              refine tn_cvI (As := [.int a0, .int (0 : Int32), .int (9 : Int32)]) (st := [.int (x1 + (2 : Int32)), .ref 48]) (pc := 133) hΓ d_X6_readHouse_133 mv_X6_digit im_X6_digit se_X6_digit ml_6_126 ⟨⟨by decide, by decide⟩, by decide, by decide⟩ rfl rfl rfl (by decide) ⟨_, rfl⟩ (gd_k hG (c := 39) rfl) (Nat.le_of_ble_eq_true rfl) rfl h (fun r4 σ12 h => ?_)
              obtain ⟨hi6, h⟩ := h
              refine tn_ast (pc := 136) hΓ d_X6_readHouse_136 (gd_k hG (c := 48) rfl) hi6 ?_
              refine tn_tops (fun σ13 eσ13 => ?_)
              have h := h σ13 eσ13
              refine tn_aload_n (pc := 137) hΓ d_X6_readHouse_137 rfl ?_
              refine tn_dupr (pc := 138) hΓ d_X6_readHouse_138 ?_
              refine tn_getI (pc := 139) hΓ d_X6_readHouse_139 fl_6_92 rfl (gd_k hG (c := 39) rfl) ?_
              refine tn_iconst (pc := 142) hΓ d_X6_readHouse_142 ic_1 ?_
              refine tn_iadd (pc := 143) hΓ d_X6_readHouse_143 ?_
              refine tn_putI (pc := 144) hΓ d_X6_readHouse_144 fl_6_92 fk_6_6_19 rfl (gd_k hG (c := 39) rfl)  ?_
              refine tn_tops (fun σ14 eσ14 => ?_)
              have h := h σ14 eσ14
              refine tn_aload_n (pc := 147) hΓ d_X6_readHouse_147 rfl ?_
              refine tn_getRy (y := 48) (pc := 148) hΓ d_X6_readHouse_148 fl_6_34 rfl (gd_k hG (c := 39) rfl) (gd_r hG 39 22 48 rfl rfl) ?_
              refine tn_iload_n (pc := 151) hΓ d_X6_readHouse_151 rfl ?_
              refine tn_iconst (pc := 152) hΓ d_X6_readHouse_152 ic_2 ?_
              refine tn_iadd (pc := 153) hΓ d_X6_readHouse_153 ?_
              refine tn_ald (pc := 154) hΓ d_X6_readHouse_154 (gd_k hG (c := 48) rfl) hi6 ?_
              refine tn_bipush (pc := 155) hΓ d_X6_readHouse_155 bp_m9 ?_
              refine tn_icmp_eq (tgt := 164) (pc := 157) hΓ d_X6_readHouse_157 (by decide) (fun hq => ?_) (fun hq => ?_)
              · have h := h.1 hq
                refine tn_iconst (pc := 164) hΓ d_X6_readHouse_164 ic_0 ?_
                exact tn_ret_z (pc := 165) hΓ hK d_X6_readHouse_165 rfl (by decide) (by decide) (Or.inl rfl) h
              · have h := h.2 hq
                refine tn_iconst (pc := 160) hΓ d_X6_readHouse_160 ic_1 ?_
                refine tn_goto (tgt := 165) (pc := 161) hΓ d_X6_readHouse_161 (by decide) ?_
                exact tn_ret_z (pc := 165) hΓ hK d_X6_readHouse_165 rfl (by decide) (by decide) (Or.inr rfl) h
            · have h := h.2 hq
              refine tn_iconst (pc := 119) hΓ d_X6_readHouse_119 ic_0 ?_
              exact tn_ret_z (pc := 120) hΓ hK d_X6_readHouse_120 rfl (by decide) (by decide) (Or.inl rfl) h
          · have h := h.2 hq
            refine tn_iconst (pc := 78) hΓ d_X6_readHouse_78 ic_0 ?_
            exact tn_ret_z (pc := 79) hΓ hK d_X6_readHouse_79 rfl (by decide) (by decide) (Or.inl rfl) h
      · have h := h.2 hq
        refine tn_iconst (pc := 50) hΓ d_X6_readHouse_50 ic_1 ?_
        refine tn_goto (tgt := 66) (pc := 51) hΓ d_X6_readHouse_51 (by decide) ?_
        obtain ⟨hi7, h⟩ := h
        refine tn_ast (pc := 66) hΓ d_X6_readHouse_66 (gd_k hG (c := 48) rfl) hi7 ?_
        refine tn_tops (fun σ15 eσ15 => ?_)
        have h := h σ15 eσ15
        refine tn_aload_n (pc := 67) hΓ d_X6_readHouse_67 rfl ?_
        refine tn_getRy (y := 48) (pc := 68) hΓ d_X6_readHouse_68 fl_6_34 rfl (gd_k hG (c := 39) rfl) (gd_r hG 39 22 48 rfl rfl) ?_
        refine tn_iload_n (pc := 71) hΓ d_X6_readHouse_71 rfl ?_
        refine tn_ald (pc := 72) hΓ d_X6_readHouse_72 (gd_k hG (c := 48) rfl) hi7 ?_
        refine tn_bipush (pc := 73) hΓ d_X6_readHouse_73 bp_m9 ?_
        refine tn_icmp_ne (tgt := 80) (pc := 75) hΓ d_X6_readHouse_75 (by decide) (fun hq => ?_) (fun hq => ?_)
        · have h := h.1 hq
          refine tn_aload_n (pc := 80) hΓ d_X6_readHouse_80 rfl ?_
          refine tn_dupr (pc := 81) hΓ d_X6_readHouse_81 ?_
          refine tn_getI (pc := 82) hΓ d_X6_readHouse_82 fl_6_68 rfl (gd_k hG (c := 39) rfl) ?_
          refine tn_iconst (pc := 85) hΓ d_X6_readHouse_85 ic_1 ?_
          refine tn_iadd (pc := 86) hΓ d_X6_readHouse_86 ?_
          refine tn_putI (pc := 87) hΓ d_X6_readHouse_87 fl_6_68 fk_6_6_18 rfl (gd_k hG (c := 39) rfl)  ?_
          refine tn_tops (fun σ16 eσ16 => ?_)
          have h := h σ16 eσ16
          refine tn_aload_n (pc := 90) hΓ d_X6_readHouse_90 rfl ?_
          refine tn_getRy (y := 48) (pc := 91) hΓ d_X6_readHouse_91 fl_6_34 rfl (gd_k hG (c := 39) rfl) (gd_r hG 39 22 48 rfl rfl) ?_
          refine tn_iload_n (pc := 94) hΓ d_X6_readHouse_94 rfl ?_
          refine tn_iconst (pc := 95) hΓ d_X6_readHouse_95 ic_1 ?_
          refine tn_iadd (pc := 96) hΓ d_X6_readHouse_96 ?_
          refine tn_aload_n (pc := 97) hΓ d_X6_readHouse_97 rfl ?_
          refine tn_iload_n (pc := 98) hΓ d_X6_readHouse_98 rfl ?_
          refine tn_iconst (pc := 99) hΓ d_X6_readHouse_99 ic_0 ?_
          refine tn_bipush (pc := 100) hΓ d_X6_readHouse_100 bp_9 ?_
          refine tn_cvI (As := [.int a0, .int (0 : Int32), .int (9 : Int32)]) (st := [.int (x1 + (1 : Int32)), .ref 48]) (pc := 102) hΓ d_X6_readHouse_102 mv_X6_digit im_X6_digit se_X6_digit ml_6_126 ⟨⟨by decide, by decide⟩, by decide, by decide⟩ rfl rfl rfl (by decide) ⟨_, rfl⟩ (gd_k hG (c := 39) rfl) (Nat.le_of_ble_eq_true rfl) rfl h (fun r5 σ17 h => ?_)
          obtain ⟨hi8, h⟩ := h
          refine tn_ast (pc := 105) hΓ d_X6_readHouse_105 (gd_k hG (c := 48) rfl) hi8 ?_
          refine tn_tops (fun σ18 eσ18 => ?_)
          have h := h σ18 eσ18
          refine tn_aload_n (pc := 106) hΓ d_X6_readHouse_106 rfl ?_
          refine tn_getRy (y := 48) (pc := 107) hΓ d_X6_readHouse_107 fl_6_34 rfl (gd_k hG (c := 39) rfl) (gd_r hG 39 22 48 rfl rfl) ?_
          refine tn_iload_n (pc := 110) hΓ d_X6_readHouse_110 rfl ?_
          refine tn_iconst (pc := 111) hΓ d_X6_readHouse_111 ic_1 ?_
          refine tn_iadd (pc := 112) hΓ d_X6_readHouse_112 ?_
          refine tn_ald (pc := 113) hΓ d_X6_readHouse_113 (gd_k hG (c := 48) rfl) hi8 ?_
          refine tn_bipush (pc := 114) hΓ d_X6_readHouse_114 bp_m9 ?_
          refine tn_icmp_ne (tgt := 121) (pc := 116) hΓ d_X6_readHouse_116 (by decide) (fun hq => ?_) (fun hq => ?_)
          · have h := h.1 hq
            refine tn_aload_n (pc := 121) hΓ d_X6_readHouse_121 rfl ?_
            refine tn_getRy (y := 48) (pc := 122) hΓ d_X6_readHouse_122 fl_6_34 rfl (gd_k hG (c := 39) rfl) (gd_r hG 39 22 48 rfl rfl) ?_
            refine tn_iload_n (pc := 125) hΓ d_X6_readHouse_125 rfl ?_
            refine tn_iconst (pc := 126) hΓ d_X6_readHouse_126 ic_2 ?_
            refine tn_iadd (pc := 127) hΓ d_X6_readHouse_127 ?_
            refine tn_aload_n (pc := 128) hΓ d_X6_readHouse_128 rfl ?_
            refine tn_iload_n (pc := 129) hΓ d_X6_readHouse_129 rfl ?_
            refine tn_iconst (pc := 130) hΓ d_X6_readHouse_130 ic_0 ?_
            refine tn_bipush (pc := 131) hΓ d_X6_readHouse_131 bp_9 ?_
            refine tn_cvI (As := [.int a0, .int (0 : Int32), .int (9 : Int32)]) (st := [.int (x1 + (2 : Int32)), .ref 48]) (pc := 133) hΓ d_X6_readHouse_133 mv_X6_digit im_X6_digit se_X6_digit ml_6_126 ⟨⟨by decide, by decide⟩, by decide, by decide⟩ rfl rfl rfl (by decide) ⟨_, rfl⟩ (gd_k hG (c := 39) rfl) (Nat.le_of_ble_eq_true rfl) rfl h (fun r6 σ19 h => ?_)
            obtain ⟨hi9, h⟩ := h
            refine tn_ast (pc := 136) hΓ d_X6_readHouse_136 (gd_k hG (c := 48) rfl) hi9 ?_
            refine tn_tops (fun σ20 eσ20 => ?_)
            have h := h σ20 eσ20
            refine tn_aload_n (pc := 137) hΓ d_X6_readHouse_137 rfl ?_
            refine tn_dupr (pc := 138) hΓ d_X6_readHouse_138 ?_
            refine tn_getI (pc := 139) hΓ d_X6_readHouse_139 fl_6_92 rfl (gd_k hG (c := 39) rfl) ?_
            refine tn_iconst (pc := 142) hΓ d_X6_readHouse_142 ic_1 ?_
            refine tn_iadd (pc := 143) hΓ d_X6_readHouse_143 ?_
            refine tn_putI (pc := 144) hΓ d_X6_readHouse_144 fl_6_92 fk_6_6_19 rfl (gd_k hG (c := 39) rfl)  ?_
            refine tn_tops (fun σ21 eσ21 => ?_)
            have h := h σ21 eσ21
            refine tn_aload_n (pc := 147) hΓ d_X6_readHouse_147 rfl ?_
            refine tn_getRy (y := 48) (pc := 148) hΓ d_X6_readHouse_148 fl_6_34 rfl (gd_k hG (c := 39) rfl) (gd_r hG 39 22 48 rfl rfl) ?_
            refine tn_iload_n (pc := 151) hΓ d_X6_readHouse_151 rfl ?_
            refine tn_iconst (pc := 152) hΓ d_X6_readHouse_152 ic_2 ?_
            refine tn_iadd (pc := 153) hΓ d_X6_readHouse_153 ?_
            refine tn_ald (pc := 154) hΓ d_X6_readHouse_154 (gd_k hG (c := 48) rfl) hi9 ?_
            refine tn_bipush (pc := 155) hΓ d_X6_readHouse_155 bp_m9 ?_
            refine tn_icmp_eq (tgt := 164) (pc := 157) hΓ d_X6_readHouse_157 (by decide) (fun hq => ?_) (fun hq => ?_)
            · have h := h.1 hq
              refine tn_iconst (pc := 164) hΓ d_X6_readHouse_164 ic_0 ?_
              exact tn_ret_z (pc := 165) hΓ hK d_X6_readHouse_165 rfl (by decide) (by decide) (Or.inl rfl) h
            · have h := h.2 hq
              refine tn_iconst (pc := 160) hΓ d_X6_readHouse_160 ic_1 ?_
              refine tn_goto (tgt := 165) (pc := 161) hΓ d_X6_readHouse_161 (by decide) ?_
              exact tn_ret_z (pc := 165) hΓ hK d_X6_readHouse_165 rfl (by decide) (by decide) (Or.inr rfl) h
          · have h := h.2 hq
            refine tn_iconst (pc := 119) hΓ d_X6_readHouse_119 ic_0 ?_
            exact tn_ret_z (pc := 120) hΓ hK d_X6_readHouse_120 rfl (by decide) (by decide) (Or.inl rfl) h
        · have h := h.2 hq
          refine tn_iconst (pc := 78) hΓ d_X6_readHouse_78 ic_0 ?_
          exact tn_ret_z (pc := 79) hΓ hK d_X6_readHouse_79 rfl (by decide) (by decide) (Or.inl rfl) h
    · have h := h.2 hq
      refine tn_iconst (pc := 40) hΓ d_X6_readHouse_40 ic_0 ?_
      refine tn_goto (tgt := 66) (pc := 41) hΓ d_X6_readHouse_41 (by decide) ?_
      obtain ⟨hi10, h⟩ := h
      refine tn_ast (pc := 66) hΓ d_X6_readHouse_66 (gd_k hG (c := 48) rfl) hi10 ?_
      refine tn_tops (fun σ22 eσ22 => ?_)
      have h := h σ22 eσ22
      refine tn_aload_n (pc := 67) hΓ d_X6_readHouse_67 rfl ?_
      refine tn_getRy (y := 48) (pc := 68) hΓ d_X6_readHouse_68 fl_6_34 rfl (gd_k hG (c := 39) rfl) (gd_r hG 39 22 48 rfl rfl) ?_
      refine tn_iload_n (pc := 71) hΓ d_X6_readHouse_71 rfl ?_
      refine tn_ald (pc := 72) hΓ d_X6_readHouse_72 (gd_k hG (c := 48) rfl) hi10 ?_
      refine tn_bipush (pc := 73) hΓ d_X6_readHouse_73 bp_m9 ?_
      refine tn_icmp_ne (tgt := 80) (pc := 75) hΓ d_X6_readHouse_75 (by decide) (fun hq => ?_) (fun hq => ?_)
      · have h := h.1 hq
        refine tn_aload_n (pc := 80) hΓ d_X6_readHouse_80 rfl ?_
        refine tn_dupr (pc := 81) hΓ d_X6_readHouse_81 ?_
        refine tn_getI (pc := 82) hΓ d_X6_readHouse_82 fl_6_68 rfl (gd_k hG (c := 39) rfl) ?_
        refine tn_iconst (pc := 85) hΓ d_X6_readHouse_85 ic_1 ?_
        refine tn_iadd (pc := 86) hΓ d_X6_readHouse_86 ?_
        refine tn_putI (pc := 87) hΓ d_X6_readHouse_87 fl_6_68 fk_6_6_18 rfl (gd_k hG (c := 39) rfl)  ?_
        refine tn_tops (fun σ23 eσ23 => ?_)
        have h := h σ23 eσ23
        refine tn_aload_n (pc := 90) hΓ d_X6_readHouse_90 rfl ?_
        refine tn_getRy (y := 48) (pc := 91) hΓ d_X6_readHouse_91 fl_6_34 rfl (gd_k hG (c := 39) rfl) (gd_r hG 39 22 48 rfl rfl) ?_
        refine tn_iload_n (pc := 94) hΓ d_X6_readHouse_94 rfl ?_
        refine tn_iconst (pc := 95) hΓ d_X6_readHouse_95 ic_1 ?_
        refine tn_iadd (pc := 96) hΓ d_X6_readHouse_96 ?_
        refine tn_aload_n (pc := 97) hΓ d_X6_readHouse_97 rfl ?_
        refine tn_iload_n (pc := 98) hΓ d_X6_readHouse_98 rfl ?_
        refine tn_iconst (pc := 99) hΓ d_X6_readHouse_99 ic_0 ?_
        refine tn_bipush (pc := 100) hΓ d_X6_readHouse_100 bp_9 ?_
        refine tn_cvI (As := [.int a0, .int (0 : Int32), .int (9 : Int32)]) (st := [.int (x1 + (1 : Int32)), .ref 48]) (pc := 102) hΓ d_X6_readHouse_102 mv_X6_digit im_X6_digit se_X6_digit ml_6_126 ⟨⟨by decide, by decide⟩, by decide, by decide⟩ rfl rfl rfl (by decide) ⟨_, rfl⟩ (gd_k hG (c := 39) rfl) (Nat.le_of_ble_eq_true rfl) rfl h (fun r7 σ24 h => ?_)
        obtain ⟨hi11, h⟩ := h
        refine tn_ast (pc := 105) hΓ d_X6_readHouse_105 (gd_k hG (c := 48) rfl) hi11 ?_
        refine tn_tops (fun σ25 eσ25 => ?_)
        have h := h σ25 eσ25
        refine tn_aload_n (pc := 106) hΓ d_X6_readHouse_106 rfl ?_
        refine tn_getRy (y := 48) (pc := 107) hΓ d_X6_readHouse_107 fl_6_34 rfl (gd_k hG (c := 39) rfl) (gd_r hG 39 22 48 rfl rfl) ?_
        refine tn_iload_n (pc := 110) hΓ d_X6_readHouse_110 rfl ?_
        refine tn_iconst (pc := 111) hΓ d_X6_readHouse_111 ic_1 ?_
        refine tn_iadd (pc := 112) hΓ d_X6_readHouse_112 ?_
        refine tn_ald (pc := 113) hΓ d_X6_readHouse_113 (gd_k hG (c := 48) rfl) hi11 ?_
        refine tn_bipush (pc := 114) hΓ d_X6_readHouse_114 bp_m9 ?_
        refine tn_icmp_ne (tgt := 121) (pc := 116) hΓ d_X6_readHouse_116 (by decide) (fun hq => ?_) (fun hq => ?_)
        · have h := h.1 hq
          refine tn_aload_n (pc := 121) hΓ d_X6_readHouse_121 rfl ?_
          refine tn_getRy (y := 48) (pc := 122) hΓ d_X6_readHouse_122 fl_6_34 rfl (gd_k hG (c := 39) rfl) (gd_r hG 39 22 48 rfl rfl) ?_
          refine tn_iload_n (pc := 125) hΓ d_X6_readHouse_125 rfl ?_
          refine tn_iconst (pc := 126) hΓ d_X6_readHouse_126 ic_2 ?_
          refine tn_iadd (pc := 127) hΓ d_X6_readHouse_127 ?_
          refine tn_aload_n (pc := 128) hΓ d_X6_readHouse_128 rfl ?_
          refine tn_iload_n (pc := 129) hΓ d_X6_readHouse_129 rfl ?_
          refine tn_iconst (pc := 130) hΓ d_X6_readHouse_130 ic_0 ?_
          refine tn_bipush (pc := 131) hΓ d_X6_readHouse_131 bp_9 ?_
          refine tn_cvI (As := [.int a0, .int (0 : Int32), .int (9 : Int32)]) (st := [.int (x1 + (2 : Int32)), .ref 48]) (pc := 133) hΓ d_X6_readHouse_133 mv_X6_digit im_X6_digit se_X6_digit ml_6_126 ⟨⟨by decide, by decide⟩, by decide, by decide⟩ rfl rfl rfl (by decide) ⟨_, rfl⟩ (gd_k hG (c := 39) rfl) (Nat.le_of_ble_eq_true rfl) rfl h (fun r8 σ26 h => ?_)
          obtain ⟨hi12, h⟩ := h
          refine tn_ast (pc := 136) hΓ d_X6_readHouse_136 (gd_k hG (c := 48) rfl) hi12 ?_
          refine tn_tops (fun σ27 eσ27 => ?_)
          have h := h σ27 eσ27
          refine tn_aload_n (pc := 137) hΓ d_X6_readHouse_137 rfl ?_
          refine tn_dupr (pc := 138) hΓ d_X6_readHouse_138 ?_
          refine tn_getI (pc := 139) hΓ d_X6_readHouse_139 fl_6_92 rfl (gd_k hG (c := 39) rfl) ?_
          refine tn_iconst (pc := 142) hΓ d_X6_readHouse_142 ic_1 ?_
          refine tn_iadd (pc := 143) hΓ d_X6_readHouse_143 ?_
          refine tn_putI (pc := 144) hΓ d_X6_readHouse_144 fl_6_92 fk_6_6_19 rfl (gd_k hG (c := 39) rfl)  ?_
          refine tn_tops (fun σ28 eσ28 => ?_)
          have h := h σ28 eσ28
          refine tn_aload_n (pc := 147) hΓ d_X6_readHouse_147 rfl ?_
          refine tn_getRy (y := 48) (pc := 148) hΓ d_X6_readHouse_148 fl_6_34 rfl (gd_k hG (c := 39) rfl) (gd_r hG 39 22 48 rfl rfl) ?_
          refine tn_iload_n (pc := 151) hΓ d_X6_readHouse_151 rfl ?_
          refine tn_iconst (pc := 152) hΓ d_X6_readHouse_152 ic_2 ?_
          refine tn_iadd (pc := 153) hΓ d_X6_readHouse_153 ?_
          refine tn_ald (pc := 154) hΓ d_X6_readHouse_154 (gd_k hG (c := 48) rfl) hi12 ?_
          refine tn_bipush (pc := 155) hΓ d_X6_readHouse_155 bp_m9 ?_
          refine tn_icmp_eq (tgt := 164) (pc := 157) hΓ d_X6_readHouse_157 (by decide) (fun hq => ?_) (fun hq => ?_)
          · have h := h.1 hq
            refine tn_iconst (pc := 164) hΓ d_X6_readHouse_164 ic_0 ?_
            exact tn_ret_z (pc := 165) hΓ hK d_X6_readHouse_165 rfl (by decide) (by decide) (Or.inl rfl) h
          · have h := h.2 hq
            refine tn_iconst (pc := 160) hΓ d_X6_readHouse_160 ic_1 ?_
            refine tn_goto (tgt := 165) (pc := 161) hΓ d_X6_readHouse_161 (by decide) ?_
            exact tn_ret_z (pc := 165) hΓ hK d_X6_readHouse_165 rfl (by decide) (by decide) (Or.inr rfl) h
        · have h := h.2 hq
          refine tn_iconst (pc := 119) hΓ d_X6_readHouse_119 ic_0 ?_
          exact tn_ret_z (pc := 120) hΓ hK d_X6_readHouse_120 rfl (by decide) (by decide) (Or.inl rfl) h
      · have h := h.2 hq
        refine tn_iconst (pc := 78) hΓ d_X6_readHouse_78 ic_0 ?_
        exact tn_ret_z (pc := 79) hΓ hK d_X6_readHouse_79 rfl (by decide) (by decide) (Or.inl rfl) h
  · have h := h.2 hq
    refine tn_aload_n (pc := 8) hΓ d_X6_readHouse_8 rfl ?_
    refine tn_getRy (y := 42) (pc := 9) hΓ d_X6_readHouse_9 fl_6_16 rfl (gd_k hG (c := 39) rfl) (gd_r hG 39 4 42 rfl rfl) ?_
    refine tn_aload_n (pc := 12) hΓ d_X6_readHouse_12 rfl ?_
    refine tn_getI (pc := 13) hΓ d_X6_readHouse_13 fl_6_68 rfl (gd_k hG (c := 39) rfl) ?_
    obtain ⟨hi13, h⟩ := h
    refine tn_ald (pc := 16) hΓ d_X6_readHouse_16 (gd_k hG (c := 42) rfl) hi13 ?_
    refine tn_goto (tgt := 21) (pc := 17) hΓ d_X6_readHouse_17 (by decide) ?_
    refine tn_topi (fun x2 ex2 => ?_)
    have h := h x2 ex2
    refine tn_istore_n (loc' := [.ref 39, .int a0, .int x2, .null]) (pc := 21) hΓ d_X6_readHouse_21 (by decide) rfl rfl ?_
    refine tn_iconst (pc := 22) hΓ d_X6_readHouse_22 ic_3 ?_
    refine tn_aload_n (pc := 23) hΓ d_X6_readHouse_23 rfl ?_
    refine tn_getI (pc := 24) hΓ d_X6_readHouse_24 fl_6_92 rfl (gd_k hG (c := 39) rfl) ?_
    refine tn_imul (pc := 27) hΓ d_X6_readHouse_27 ?_
    refine tn_topi (fun x3 ex3 => ?_)
    have h := h x3 ex3
    refine tn_istore_n (loc' := [.ref 39, .int a0, .int x2, .int x3]) (pc := 28) hΓ d_X6_readHouse_28 (by decide) rfl rfl ?_
    refine tn_aload_n (pc := 29) hΓ d_X6_readHouse_29 rfl ?_
    refine tn_getRy (y := 48) (pc := 30) hΓ d_X6_readHouse_30 fl_6_34 rfl (gd_k hG (c := 39) rfl) (gd_r hG 39 22 48 rfl rfl) ?_
    refine tn_iload_n (pc := 33) hΓ d_X6_readHouse_33 rfl ?_
    refine tn_iload_n (pc := 34) hΓ d_X6_readHouse_34 rfl ?_
    refine tn_bipush (pc := 35) hΓ d_X6_readHouse_35 bp_112 ?_
    refine tn_icmp_ne (tgt := 44) (pc := 37) hΓ d_X6_readHouse_37 (by decide) (fun hq => ?_) (fun hq => ?_)
    · have h := h.1 hq
      refine tn_iload_n (pc := 44) hΓ d_X6_readHouse_44 rfl ?_
      refine tn_bipush (pc := 45) hΓ d_X6_readHouse_45 bp_98 ?_
      refine tn_icmp_ne (tgt := 54) (pc := 47) hΓ d_X6_readHouse_47 (by decide) (fun hq => ?_) (fun hq => ?_)
      · have h := h.1 hq
        refine tn_iload_n (pc := 54) hΓ d_X6_readHouse_54 rfl ?_
        refine tn_bipush (pc := 55) hΓ d_X6_readHouse_55 bp_100 ?_
        refine tn_icmp_ne (tgt := 64) (pc := 57) hΓ d_X6_readHouse_57 (by decide) (fun hq => ?_) (fun hq => ?_)
        · have h := h.1 hq
          refine tn_bipush (pc := 64) hΓ d_X6_readHouse_64 bp_m9 ?_
          obtain ⟨hi14, h⟩ := h
          refine tn_ast (pc := 66) hΓ d_X6_readHouse_66 (gd_k hG (c := 48) rfl) hi14 ?_
          refine tn_tops (fun σ29 eσ29 => ?_)
          have h := h σ29 eσ29
          refine tn_aload_n (pc := 67) hΓ d_X6_readHouse_67 rfl ?_
          refine tn_getRy (y := 48) (pc := 68) hΓ d_X6_readHouse_68 fl_6_34 rfl (gd_k hG (c := 39) rfl) (gd_r hG 39 22 48 rfl rfl) ?_
          refine tn_iload_n (pc := 71) hΓ d_X6_readHouse_71 rfl ?_
          refine tn_ald (pc := 72) hΓ d_X6_readHouse_72 (gd_k hG (c := 48) rfl) hi14 ?_
          refine tn_bipush (pc := 73) hΓ d_X6_readHouse_73 bp_m9 ?_
          refine tn_icmp_ne (tgt := 80) (pc := 75) hΓ d_X6_readHouse_75 (by decide) (fun hq => ?_) (fun hq => ?_)
          · have h := h.1 hq
            refine tn_aload_n (pc := 80) hΓ d_X6_readHouse_80 rfl ?_
            refine tn_dupr (pc := 81) hΓ d_X6_readHouse_81 ?_
            refine tn_getI (pc := 82) hΓ d_X6_readHouse_82 fl_6_68 rfl (gd_k hG (c := 39) rfl) ?_
            refine tn_iconst (pc := 85) hΓ d_X6_readHouse_85 ic_1 ?_
            refine tn_iadd (pc := 86) hΓ d_X6_readHouse_86 ?_
            refine tn_putI (pc := 87) hΓ d_X6_readHouse_87 fl_6_68 fk_6_6_18 rfl (gd_k hG (c := 39) rfl)  ?_
            refine tn_tops (fun σ30 eσ30 => ?_)
            have h := h σ30 eσ30
            refine tn_aload_n (pc := 90) hΓ d_X6_readHouse_90 rfl ?_
            refine tn_getRy (y := 48) (pc := 91) hΓ d_X6_readHouse_91 fl_6_34 rfl (gd_k hG (c := 39) rfl) (gd_r hG 39 22 48 rfl rfl) ?_
            refine tn_iload_n (pc := 94) hΓ d_X6_readHouse_94 rfl ?_
            refine tn_iconst (pc := 95) hΓ d_X6_readHouse_95 ic_1 ?_
            refine tn_iadd (pc := 96) hΓ d_X6_readHouse_96 ?_
            refine tn_aload_n (pc := 97) hΓ d_X6_readHouse_97 rfl ?_
            refine tn_iload_n (pc := 98) hΓ d_X6_readHouse_98 rfl ?_
            refine tn_iconst (pc := 99) hΓ d_X6_readHouse_99 ic_0 ?_
            refine tn_bipush (pc := 100) hΓ d_X6_readHouse_100 bp_9 ?_
            refine tn_cvI (As := [.int a0, .int (0 : Int32), .int (9 : Int32)]) (st := [.int (x3 + (1 : Int32)), .ref 48]) (pc := 102) hΓ d_X6_readHouse_102 mv_X6_digit im_X6_digit se_X6_digit ml_6_126 ⟨⟨by decide, by decide⟩, by decide, by decide⟩ rfl rfl rfl (by decide) ⟨_, rfl⟩ (gd_k hG (c := 39) rfl) (Nat.le_of_ble_eq_true rfl) rfl h (fun r9 σ31 h => ?_)
            obtain ⟨hi15, h⟩ := h
            refine tn_ast (pc := 105) hΓ d_X6_readHouse_105 (gd_k hG (c := 48) rfl) hi15 ?_
            refine tn_tops (fun σ32 eσ32 => ?_)
            have h := h σ32 eσ32
            refine tn_aload_n (pc := 106) hΓ d_X6_readHouse_106 rfl ?_
            refine tn_getRy (y := 48) (pc := 107) hΓ d_X6_readHouse_107 fl_6_34 rfl (gd_k hG (c := 39) rfl) (gd_r hG 39 22 48 rfl rfl) ?_
            refine tn_iload_n (pc := 110) hΓ d_X6_readHouse_110 rfl ?_
            refine tn_iconst (pc := 111) hΓ d_X6_readHouse_111 ic_1 ?_
            refine tn_iadd (pc := 112) hΓ d_X6_readHouse_112 ?_
            refine tn_ald (pc := 113) hΓ d_X6_readHouse_113 (gd_k hG (c := 48) rfl) hi15 ?_
            refine tn_bipush (pc := 114) hΓ d_X6_readHouse_114 bp_m9 ?_
            refine tn_icmp_ne (tgt := 121) (pc := 116) hΓ d_X6_readHouse_116 (by decide) (fun hq => ?_) (fun hq => ?_)
            · have h := h.1 hq
              refine tn_aload_n (pc := 121) hΓ d_X6_readHouse_121 rfl ?_
              refine tn_getRy (y := 48) (pc := 122) hΓ d_X6_readHouse_122 fl_6_34 rfl (gd_k hG (c := 39) rfl) (gd_r hG 39 22 48 rfl rfl) ?_
              refine tn_iload_n (pc := 125) hΓ d_X6_readHouse_125 rfl ?_
              refine tn_iconst (pc := 126) hΓ d_X6_readHouse_126 ic_2 ?_
              refine tn_iadd (pc := 127) hΓ d_X6_readHouse_127 ?_
              refine tn_aload_n (pc := 128) hΓ d_X6_readHouse_128 rfl ?_
              refine tn_iload_n (pc := 129) hΓ d_X6_readHouse_129 rfl ?_
              refine tn_iconst (pc := 130) hΓ d_X6_readHouse_130 ic_0 ?_
              refine tn_bipush (pc := 131) hΓ d_X6_readHouse_131 bp_9 ?_
              refine tn_cvI (As := [.int a0, .int (0 : Int32), .int (9 : Int32)]) (st := [.int (x3 + (2 : Int32)), .ref 48]) (pc := 133) hΓ d_X6_readHouse_133 mv_X6_digit im_X6_digit se_X6_digit ml_6_126 ⟨⟨by decide, by decide⟩, by decide, by decide⟩ rfl rfl rfl (by decide) ⟨_, rfl⟩ (gd_k hG (c := 39) rfl) (Nat.le_of_ble_eq_true rfl) rfl h (fun r10 σ33 h => ?_)
              obtain ⟨hi16, h⟩ := h
              refine tn_ast (pc := 136) hΓ d_X6_readHouse_136 (gd_k hG (c := 48) rfl) hi16 ?_
              refine tn_tops (fun σ34 eσ34 => ?_)
              have h := h σ34 eσ34
              refine tn_aload_n (pc := 137) hΓ d_X6_readHouse_137 rfl ?_
              refine tn_dupr (pc := 138) hΓ d_X6_readHouse_138 ?_
              refine tn_getI (pc := 139) hΓ d_X6_readHouse_139 fl_6_92 rfl (gd_k hG (c := 39) rfl) ?_
              refine tn_iconst (pc := 142) hΓ d_X6_readHouse_142 ic_1 ?_
              refine tn_iadd (pc := 143) hΓ d_X6_readHouse_143 ?_
              refine tn_putI (pc := 144) hΓ d_X6_readHouse_144 fl_6_92 fk_6_6_19 rfl (gd_k hG (c := 39) rfl)  ?_
              refine tn_tops (fun σ35 eσ35 => ?_)
              have h := h σ35 eσ35
              refine tn_aload_n (pc := 147) hΓ d_X6_readHouse_147 rfl ?_
              refine tn_getRy (y := 48) (pc := 148) hΓ d_X6_readHouse_148 fl_6_34 rfl (gd_k hG (c := 39) rfl) (gd_r hG 39 22 48 rfl rfl) ?_
              refine tn_iload_n (pc := 151) hΓ d_X6_readHouse_151 rfl ?_
              refine tn_iconst (pc := 152) hΓ d_X6_readHouse_152 ic_2 ?_
              refine tn_iadd (pc := 153) hΓ d_X6_readHouse_153 ?_
              refine tn_ald (pc := 154) hΓ d_X6_readHouse_154 (gd_k hG (c := 48) rfl) hi16 ?_
              refine tn_bipush (pc := 155) hΓ d_X6_readHouse_155 bp_m9 ?_
              refine tn_icmp_eq (tgt := 164) (pc := 157) hΓ d_X6_readHouse_157 (by decide) (fun hq => ?_) (fun hq => ?_)
              · have h := h.1 hq
                refine tn_iconst (pc := 164) hΓ d_X6_readHouse_164 ic_0 ?_
                exact tn_ret_z (pc := 165) hΓ hK d_X6_readHouse_165 rfl (by decide) (by decide) (Or.inl rfl) h
              · have h := h.2 hq
                refine tn_iconst (pc := 160) hΓ d_X6_readHouse_160 ic_1 ?_
                refine tn_goto (tgt := 165) (pc := 161) hΓ d_X6_readHouse_161 (by decide) ?_
                exact tn_ret_z (pc := 165) hΓ hK d_X6_readHouse_165 rfl (by decide) (by decide) (Or.inr rfl) h
            · have h := h.2 hq
              refine tn_iconst (pc := 119) hΓ d_X6_readHouse_119 ic_0 ?_
              exact tn_ret_z (pc := 120) hΓ hK d_X6_readHouse_120 rfl (by decide) (by decide) (Or.inl rfl) h
          · have h := h.2 hq
            refine tn_iconst (pc := 78) hΓ d_X6_readHouse_78 ic_0 ?_
            exact tn_ret_z (pc := 79) hΓ hK d_X6_readHouse_79 rfl (by decide) (by decide) (Or.inl rfl) h
        · have h := h.2 hq
          refine tn_iconst (pc := 60) hΓ d_X6_readHouse_60 ic_2 ?_
          refine tn_goto (tgt := 66) (pc := 61) hΓ d_X6_readHouse_61 (by decide) ?_
          obtain ⟨hi17, h⟩ := h
          refine tn_ast (pc := 66) hΓ d_X6_readHouse_66 (gd_k hG (c := 48) rfl) hi17 ?_
          refine tn_tops (fun σ36 eσ36 => ?_)
          have h := h σ36 eσ36
          refine tn_aload_n (pc := 67) hΓ d_X6_readHouse_67 rfl ?_
          refine tn_getRy (y := 48) (pc := 68) hΓ d_X6_readHouse_68 fl_6_34 rfl (gd_k hG (c := 39) rfl) (gd_r hG 39 22 48 rfl rfl) ?_
          refine tn_iload_n (pc := 71) hΓ d_X6_readHouse_71 rfl ?_
          refine tn_ald (pc := 72) hΓ d_X6_readHouse_72 (gd_k hG (c := 48) rfl) hi17 ?_
          refine tn_bipush (pc := 73) hΓ d_X6_readHouse_73 bp_m9 ?_
          refine tn_icmp_ne (tgt := 80) (pc := 75) hΓ d_X6_readHouse_75 (by decide) (fun hq => ?_) (fun hq => ?_)
          · have h := h.1 hq
            refine tn_aload_n (pc := 80) hΓ d_X6_readHouse_80 rfl ?_
            refine tn_dupr (pc := 81) hΓ d_X6_readHouse_81 ?_
            refine tn_getI (pc := 82) hΓ d_X6_readHouse_82 fl_6_68 rfl (gd_k hG (c := 39) rfl) ?_
            refine tn_iconst (pc := 85) hΓ d_X6_readHouse_85 ic_1 ?_
            refine tn_iadd (pc := 86) hΓ d_X6_readHouse_86 ?_
            refine tn_putI (pc := 87) hΓ d_X6_readHouse_87 fl_6_68 fk_6_6_18 rfl (gd_k hG (c := 39) rfl)  ?_
            refine tn_tops (fun σ37 eσ37 => ?_)
            have h := h σ37 eσ37
            refine tn_aload_n (pc := 90) hΓ d_X6_readHouse_90 rfl ?_
            refine tn_getRy (y := 48) (pc := 91) hΓ d_X6_readHouse_91 fl_6_34 rfl (gd_k hG (c := 39) rfl) (gd_r hG 39 22 48 rfl rfl) ?_
            refine tn_iload_n (pc := 94) hΓ d_X6_readHouse_94 rfl ?_
            refine tn_iconst (pc := 95) hΓ d_X6_readHouse_95 ic_1 ?_
            refine tn_iadd (pc := 96) hΓ d_X6_readHouse_96 ?_
            refine tn_aload_n (pc := 97) hΓ d_X6_readHouse_97 rfl ?_
            refine tn_iload_n (pc := 98) hΓ d_X6_readHouse_98 rfl ?_
            refine tn_iconst (pc := 99) hΓ d_X6_readHouse_99 ic_0 ?_
            refine tn_bipush (pc := 100) hΓ d_X6_readHouse_100 bp_9 ?_
            refine tn_cvI (As := [.int a0, .int (0 : Int32), .int (9 : Int32)]) (st := [.int (x3 + (1 : Int32)), .ref 48]) (pc := 102) hΓ d_X6_readHouse_102 mv_X6_digit im_X6_digit se_X6_digit ml_6_126 ⟨⟨by decide, by decide⟩, by decide, by decide⟩ rfl rfl rfl (by decide) ⟨_, rfl⟩ (gd_k hG (c := 39) rfl) (Nat.le_of_ble_eq_true rfl) rfl h (fun r11 σ38 h => ?_)
            obtain ⟨hi18, h⟩ := h
            refine tn_ast (pc := 105) hΓ d_X6_readHouse_105 (gd_k hG (c := 48) rfl) hi18 ?_
            refine tn_tops (fun σ39 eσ39 => ?_)
            have h := h σ39 eσ39
            refine tn_aload_n (pc := 106) hΓ d_X6_readHouse_106 rfl ?_
            refine tn_getRy (y := 48) (pc := 107) hΓ d_X6_readHouse_107 fl_6_34 rfl (gd_k hG (c := 39) rfl) (gd_r hG 39 22 48 rfl rfl) ?_
            refine tn_iload_n (pc := 110) hΓ d_X6_readHouse_110 rfl ?_
            refine tn_iconst (pc := 111) hΓ d_X6_readHouse_111 ic_1 ?_
            refine tn_iadd (pc := 112) hΓ d_X6_readHouse_112 ?_
            refine tn_ald (pc := 113) hΓ d_X6_readHouse_113 (gd_k hG (c := 48) rfl) hi18 ?_
            refine tn_bipush (pc := 114) hΓ d_X6_readHouse_114 bp_m9 ?_
            refine tn_icmp_ne (tgt := 121) (pc := 116) hΓ d_X6_readHouse_116 (by decide) (fun hq => ?_) (fun hq => ?_)
            · have h := h.1 hq
              refine tn_aload_n (pc := 121) hΓ d_X6_readHouse_121 rfl ?_
              refine tn_getRy (y := 48) (pc := 122) hΓ d_X6_readHouse_122 fl_6_34 rfl (gd_k hG (c := 39) rfl) (gd_r hG 39 22 48 rfl rfl) ?_
              refine tn_iload_n (pc := 125) hΓ d_X6_readHouse_125 rfl ?_
              refine tn_iconst (pc := 126) hΓ d_X6_readHouse_126 ic_2 ?_
              refine tn_iadd (pc := 127) hΓ d_X6_readHouse_127 ?_
              refine tn_aload_n (pc := 128) hΓ d_X6_readHouse_128 rfl ?_
              refine tn_iload_n (pc := 129) hΓ d_X6_readHouse_129 rfl ?_
              refine tn_iconst (pc := 130) hΓ d_X6_readHouse_130 ic_0 ?_
              refine tn_bipush (pc := 131) hΓ d_X6_readHouse_131 bp_9 ?_
              refine tn_cvI (As := [.int a0, .int (0 : Int32), .int (9 : Int32)]) (st := [.int (x3 + (2 : Int32)), .ref 48]) (pc := 133) hΓ d_X6_readHouse_133 mv_X6_digit im_X6_digit se_X6_digit ml_6_126 ⟨⟨by decide, by decide⟩, by decide, by decide⟩ rfl rfl rfl (by decide) ⟨_, rfl⟩ (gd_k hG (c := 39) rfl) (Nat.le_of_ble_eq_true rfl) rfl h (fun r12 σ40 h => ?_)
              obtain ⟨hi19, h⟩ := h
              refine tn_ast (pc := 136) hΓ d_X6_readHouse_136 (gd_k hG (c := 48) rfl) hi19 ?_
              refine tn_tops (fun σ41 eσ41 => ?_)
              have h := h σ41 eσ41
              refine tn_aload_n (pc := 137) hΓ d_X6_readHouse_137 rfl ?_
              refine tn_dupr (pc := 138) hΓ d_X6_readHouse_138 ?_
              refine tn_getI (pc := 139) hΓ d_X6_readHouse_139 fl_6_92 rfl (gd_k hG (c := 39) rfl) ?_
              refine tn_iconst (pc := 142) hΓ d_X6_readHouse_142 ic_1 ?_
              refine tn_iadd (pc := 143) hΓ d_X6_readHouse_143 ?_
              refine tn_putI (pc := 144) hΓ d_X6_readHouse_144 fl_6_92 fk_6_6_19 rfl (gd_k hG (c := 39) rfl)  ?_
              refine tn_tops (fun σ42 eσ42 => ?_)
              have h := h σ42 eσ42
              refine tn_aload_n (pc := 147) hΓ d_X6_readHouse_147 rfl ?_
              refine tn_getRy (y := 48) (pc := 148) hΓ d_X6_readHouse_148 fl_6_34 rfl (gd_k hG (c := 39) rfl) (gd_r hG 39 22 48 rfl rfl) ?_
              refine tn_iload_n (pc := 151) hΓ d_X6_readHouse_151 rfl ?_
              refine tn_iconst (pc := 152) hΓ d_X6_readHouse_152 ic_2 ?_
              refine tn_iadd (pc := 153) hΓ d_X6_readHouse_153 ?_
              refine tn_ald (pc := 154) hΓ d_X6_readHouse_154 (gd_k hG (c := 48) rfl) hi19 ?_
              refine tn_bipush (pc := 155) hΓ d_X6_readHouse_155 bp_m9 ?_
              refine tn_icmp_eq (tgt := 164) (pc := 157) hΓ d_X6_readHouse_157 (by decide) (fun hq => ?_) (fun hq => ?_)
              · have h := h.1 hq
                refine tn_iconst (pc := 164) hΓ d_X6_readHouse_164 ic_0 ?_
                exact tn_ret_z (pc := 165) hΓ hK d_X6_readHouse_165 rfl (by decide) (by decide) (Or.inl rfl) h
              · have h := h.2 hq
                refine tn_iconst (pc := 160) hΓ d_X6_readHouse_160 ic_1 ?_
                refine tn_goto (tgt := 165) (pc := 161) hΓ d_X6_readHouse_161 (by decide) ?_
                exact tn_ret_z (pc := 165) hΓ hK d_X6_readHouse_165 rfl (by decide) (by decide) (Or.inr rfl) h
            · have h := h.2 hq
              refine tn_iconst (pc := 119) hΓ d_X6_readHouse_119 ic_0 ?_
              exact tn_ret_z (pc := 120) hΓ hK d_X6_readHouse_120 rfl (by decide) (by decide) (Or.inl rfl) h
          · have h := h.2 hq
            refine tn_iconst (pc := 78) hΓ d_X6_readHouse_78 ic_0 ?_
            exact tn_ret_z (pc := 79) hΓ hK d_X6_readHouse_79 rfl (by decide) (by decide) (Or.inl rfl) h
      · have h := h.2 hq
        refine tn_iconst (pc := 50) hΓ d_X6_readHouse_50 ic_1 ?_
        refine tn_goto (tgt := 66) (pc := 51) hΓ d_X6_readHouse_51 (by decide) ?_
        obtain ⟨hi20, h⟩ := h
        refine tn_ast (pc := 66) hΓ d_X6_readHouse_66 (gd_k hG (c := 48) rfl) hi20 ?_
        refine tn_tops (fun σ43 eσ43 => ?_)
        have h := h σ43 eσ43
        refine tn_aload_n (pc := 67) hΓ d_X6_readHouse_67 rfl ?_
        refine tn_getRy (y := 48) (pc := 68) hΓ d_X6_readHouse_68 fl_6_34 rfl (gd_k hG (c := 39) rfl) (gd_r hG 39 22 48 rfl rfl) ?_
        refine tn_iload_n (pc := 71) hΓ d_X6_readHouse_71 rfl ?_
        refine tn_ald (pc := 72) hΓ d_X6_readHouse_72 (gd_k hG (c := 48) rfl) hi20 ?_
        refine tn_bipush (pc := 73) hΓ d_X6_readHouse_73 bp_m9 ?_
        refine tn_icmp_ne (tgt := 80) (pc := 75) hΓ d_X6_readHouse_75 (by decide) (fun hq => ?_) (fun hq => ?_)
        · have h := h.1 hq
          refine tn_aload_n (pc := 80) hΓ d_X6_readHouse_80 rfl ?_
          refine tn_dupr (pc := 81) hΓ d_X6_readHouse_81 ?_
          refine tn_getI (pc := 82) hΓ d_X6_readHouse_82 fl_6_68 rfl (gd_k hG (c := 39) rfl) ?_
          refine tn_iconst (pc := 85) hΓ d_X6_readHouse_85 ic_1 ?_
          refine tn_iadd (pc := 86) hΓ d_X6_readHouse_86 ?_
          refine tn_putI (pc := 87) hΓ d_X6_readHouse_87 fl_6_68 fk_6_6_18 rfl (gd_k hG (c := 39) rfl)  ?_
          refine tn_tops (fun σ44 eσ44 => ?_)
          have h := h σ44 eσ44
          refine tn_aload_n (pc := 90) hΓ d_X6_readHouse_90 rfl ?_
          refine tn_getRy (y := 48) (pc := 91) hΓ d_X6_readHouse_91 fl_6_34 rfl (gd_k hG (c := 39) rfl) (gd_r hG 39 22 48 rfl rfl) ?_
          refine tn_iload_n (pc := 94) hΓ d_X6_readHouse_94 rfl ?_
          refine tn_iconst (pc := 95) hΓ d_X6_readHouse_95 ic_1 ?_
          refine tn_iadd (pc := 96) hΓ d_X6_readHouse_96 ?_
          refine tn_aload_n (pc := 97) hΓ d_X6_readHouse_97 rfl ?_
          refine tn_iload_n (pc := 98) hΓ d_X6_readHouse_98 rfl ?_
          refine tn_iconst (pc := 99) hΓ d_X6_readHouse_99 ic_0 ?_
          refine tn_bipush (pc := 100) hΓ d_X6_readHouse_100 bp_9 ?_
          refine tn_cvI (As := [.int a0, .int (0 : Int32), .int (9 : Int32)]) (st := [.int (x3 + (1 : Int32)), .ref 48]) (pc := 102) hΓ d_X6_readHouse_102 mv_X6_digit im_X6_digit se_X6_digit ml_6_126 ⟨⟨by decide, by decide⟩, by decide, by decide⟩ rfl rfl rfl (by decide) ⟨_, rfl⟩ (gd_k hG (c := 39) rfl) (Nat.le_of_ble_eq_true rfl) rfl h (fun r13 σ45 h => ?_)
          obtain ⟨hi21, h⟩ := h
          refine tn_ast (pc := 105) hΓ d_X6_readHouse_105 (gd_k hG (c := 48) rfl) hi21 ?_
          refine tn_tops (fun σ46 eσ46 => ?_)
          have h := h σ46 eσ46
          refine tn_aload_n (pc := 106) hΓ d_X6_readHouse_106 rfl ?_
          refine tn_getRy (y := 48) (pc := 107) hΓ d_X6_readHouse_107 fl_6_34 rfl (gd_k hG (c := 39) rfl) (gd_r hG 39 22 48 rfl rfl) ?_
          refine tn_iload_n (pc := 110) hΓ d_X6_readHouse_110 rfl ?_
          refine tn_iconst (pc := 111) hΓ d_X6_readHouse_111 ic_1 ?_
          refine tn_iadd (pc := 112) hΓ d_X6_readHouse_112 ?_
          refine tn_ald (pc := 113) hΓ d_X6_readHouse_113 (gd_k hG (c := 48) rfl) hi21 ?_
          refine tn_bipush (pc := 114) hΓ d_X6_readHouse_114 bp_m9 ?_
          refine tn_icmp_ne (tgt := 121) (pc := 116) hΓ d_X6_readHouse_116 (by decide) (fun hq => ?_) (fun hq => ?_)
          · have h := h.1 hq
            refine tn_aload_n (pc := 121) hΓ d_X6_readHouse_121 rfl ?_
            refine tn_getRy (y := 48) (pc := 122) hΓ d_X6_readHouse_122 fl_6_34 rfl (gd_k hG (c := 39) rfl) (gd_r hG 39 22 48 rfl rfl) ?_
            refine tn_iload_n (pc := 125) hΓ d_X6_readHouse_125 rfl ?_
            refine tn_iconst (pc := 126) hΓ d_X6_readHouse_126 ic_2 ?_
            refine tn_iadd (pc := 127) hΓ d_X6_readHouse_127 ?_
            refine tn_aload_n (pc := 128) hΓ d_X6_readHouse_128 rfl ?_
            refine tn_iload_n (pc := 129) hΓ d_X6_readHouse_129 rfl ?_
            refine tn_iconst (pc := 130) hΓ d_X6_readHouse_130 ic_0 ?_
            refine tn_bipush (pc := 131) hΓ d_X6_readHouse_131 bp_9 ?_
            refine tn_cvI (As := [.int a0, .int (0 : Int32), .int (9 : Int32)]) (st := [.int (x3 + (2 : Int32)), .ref 48]) (pc := 133) hΓ d_X6_readHouse_133 mv_X6_digit im_X6_digit se_X6_digit ml_6_126 ⟨⟨by decide, by decide⟩, by decide, by decide⟩ rfl rfl rfl (by decide) ⟨_, rfl⟩ (gd_k hG (c := 39) rfl) (Nat.le_of_ble_eq_true rfl) rfl h (fun r14 σ47 h => ?_)
            obtain ⟨hi22, h⟩ := h
            refine tn_ast (pc := 136) hΓ d_X6_readHouse_136 (gd_k hG (c := 48) rfl) hi22 ?_
            refine tn_tops (fun σ48 eσ48 => ?_)
            have h := h σ48 eσ48
            refine tn_aload_n (pc := 137) hΓ d_X6_readHouse_137 rfl ?_
            refine tn_dupr (pc := 138) hΓ d_X6_readHouse_138 ?_
            refine tn_getI (pc := 139) hΓ d_X6_readHouse_139 fl_6_92 rfl (gd_k hG (c := 39) rfl) ?_
            refine tn_iconst (pc := 142) hΓ d_X6_readHouse_142 ic_1 ?_
            refine tn_iadd (pc := 143) hΓ d_X6_readHouse_143 ?_
            refine tn_putI (pc := 144) hΓ d_X6_readHouse_144 fl_6_92 fk_6_6_19 rfl (gd_k hG (c := 39) rfl)  ?_
            refine tn_tops (fun σ49 eσ49 => ?_)
            have h := h σ49 eσ49
            refine tn_aload_n (pc := 147) hΓ d_X6_readHouse_147 rfl ?_
            refine tn_getRy (y := 48) (pc := 148) hΓ d_X6_readHouse_148 fl_6_34 rfl (gd_k hG (c := 39) rfl) (gd_r hG 39 22 48 rfl rfl) ?_
            refine tn_iload_n (pc := 151) hΓ d_X6_readHouse_151 rfl ?_
            refine tn_iconst (pc := 152) hΓ d_X6_readHouse_152 ic_2 ?_
            refine tn_iadd (pc := 153) hΓ d_X6_readHouse_153 ?_
            refine tn_ald (pc := 154) hΓ d_X6_readHouse_154 (gd_k hG (c := 48) rfl) hi22 ?_
            refine tn_bipush (pc := 155) hΓ d_X6_readHouse_155 bp_m9 ?_
            refine tn_icmp_eq (tgt := 164) (pc := 157) hΓ d_X6_readHouse_157 (by decide) (fun hq => ?_) (fun hq => ?_)
            · have h := h.1 hq
              refine tn_iconst (pc := 164) hΓ d_X6_readHouse_164 ic_0 ?_
              exact tn_ret_z (pc := 165) hΓ hK d_X6_readHouse_165 rfl (by decide) (by decide) (Or.inl rfl) h
            · have h := h.2 hq
              refine tn_iconst (pc := 160) hΓ d_X6_readHouse_160 ic_1 ?_
              refine tn_goto (tgt := 165) (pc := 161) hΓ d_X6_readHouse_161 (by decide) ?_
              exact tn_ret_z (pc := 165) hΓ hK d_X6_readHouse_165 rfl (by decide) (by decide) (Or.inr rfl) h
          · have h := h.2 hq
            refine tn_iconst (pc := 119) hΓ d_X6_readHouse_119 ic_0 ?_
            exact tn_ret_z (pc := 120) hΓ hK d_X6_readHouse_120 rfl (by decide) (by decide) (Or.inl rfl) h
        · have h := h.2 hq
          refine tn_iconst (pc := 78) hΓ d_X6_readHouse_78 ic_0 ?_
          exact tn_ret_z (pc := 79) hΓ hK d_X6_readHouse_79 rfl (by decide) (by decide) (Or.inl rfl) h
    · have h := h.2 hq
      refine tn_iconst (pc := 40) hΓ d_X6_readHouse_40 ic_0 ?_
      refine tn_goto (tgt := 66) (pc := 41) hΓ d_X6_readHouse_41 (by decide) ?_
      obtain ⟨hi23, h⟩ := h
      refine tn_ast (pc := 66) hΓ d_X6_readHouse_66 (gd_k hG (c := 48) rfl) hi23 ?_
      refine tn_tops (fun σ50 eσ50 => ?_)
      have h := h σ50 eσ50
      refine tn_aload_n (pc := 67) hΓ d_X6_readHouse_67 rfl ?_
      refine tn_getRy (y := 48) (pc := 68) hΓ d_X6_readHouse_68 fl_6_34 rfl (gd_k hG (c := 39) rfl) (gd_r hG 39 22 48 rfl rfl) ?_
      refine tn_iload_n (pc := 71) hΓ d_X6_readHouse_71 rfl ?_
      refine tn_ald (pc := 72) hΓ d_X6_readHouse_72 (gd_k hG (c := 48) rfl) hi23 ?_
      refine tn_bipush (pc := 73) hΓ d_X6_readHouse_73 bp_m9 ?_
      refine tn_icmp_ne (tgt := 80) (pc := 75) hΓ d_X6_readHouse_75 (by decide) (fun hq => ?_) (fun hq => ?_)
      · have h := h.1 hq
        refine tn_aload_n (pc := 80) hΓ d_X6_readHouse_80 rfl ?_
        refine tn_dupr (pc := 81) hΓ d_X6_readHouse_81 ?_
        refine tn_getI (pc := 82) hΓ d_X6_readHouse_82 fl_6_68 rfl (gd_k hG (c := 39) rfl) ?_
        refine tn_iconst (pc := 85) hΓ d_X6_readHouse_85 ic_1 ?_
        refine tn_iadd (pc := 86) hΓ d_X6_readHouse_86 ?_
        refine tn_putI (pc := 87) hΓ d_X6_readHouse_87 fl_6_68 fk_6_6_18 rfl (gd_k hG (c := 39) rfl)  ?_
        refine tn_tops (fun σ51 eσ51 => ?_)
        have h := h σ51 eσ51
        refine tn_aload_n (pc := 90) hΓ d_X6_readHouse_90 rfl ?_
        refine tn_getRy (y := 48) (pc := 91) hΓ d_X6_readHouse_91 fl_6_34 rfl (gd_k hG (c := 39) rfl) (gd_r hG 39 22 48 rfl rfl) ?_
        refine tn_iload_n (pc := 94) hΓ d_X6_readHouse_94 rfl ?_
        refine tn_iconst (pc := 95) hΓ d_X6_readHouse_95 ic_1 ?_
        refine tn_iadd (pc := 96) hΓ d_X6_readHouse_96 ?_
        refine tn_aload_n (pc := 97) hΓ d_X6_readHouse_97 rfl ?_
        refine tn_iload_n (pc := 98) hΓ d_X6_readHouse_98 rfl ?_
        refine tn_iconst (pc := 99) hΓ d_X6_readHouse_99 ic_0 ?_
        refine tn_bipush (pc := 100) hΓ d_X6_readHouse_100 bp_9 ?_
        refine tn_cvI (As := [.int a0, .int (0 : Int32), .int (9 : Int32)]) (st := [.int (x3 + (1 : Int32)), .ref 48]) (pc := 102) hΓ d_X6_readHouse_102 mv_X6_digit im_X6_digit se_X6_digit ml_6_126 ⟨⟨by decide, by decide⟩, by decide, by decide⟩ rfl rfl rfl (by decide) ⟨_, rfl⟩ (gd_k hG (c := 39) rfl) (Nat.le_of_ble_eq_true rfl) rfl h (fun r15 σ52 h => ?_)
        obtain ⟨hi24, h⟩ := h
        refine tn_ast (pc := 105) hΓ d_X6_readHouse_105 (gd_k hG (c := 48) rfl) hi24 ?_
        refine tn_tops (fun σ53 eσ53 => ?_)
        have h := h σ53 eσ53
        refine tn_aload_n (pc := 106) hΓ d_X6_readHouse_106 rfl ?_
        refine tn_getRy (y := 48) (pc := 107) hΓ d_X6_readHouse_107 fl_6_34 rfl (gd_k hG (c := 39) rfl) (gd_r hG 39 22 48 rfl rfl) ?_
        refine tn_iload_n (pc := 110) hΓ d_X6_readHouse_110 rfl ?_
        refine tn_iconst (pc := 111) hΓ d_X6_readHouse_111 ic_1 ?_
        refine tn_iadd (pc := 112) hΓ d_X6_readHouse_112 ?_
        refine tn_ald (pc := 113) hΓ d_X6_readHouse_113 (gd_k hG (c := 48) rfl) hi24 ?_
        refine tn_bipush (pc := 114) hΓ d_X6_readHouse_114 bp_m9 ?_
        refine tn_icmp_ne (tgt := 121) (pc := 116) hΓ d_X6_readHouse_116 (by decide) (fun hq => ?_) (fun hq => ?_)
        · have h := h.1 hq
          refine tn_aload_n (pc := 121) hΓ d_X6_readHouse_121 rfl ?_
          refine tn_getRy (y := 48) (pc := 122) hΓ d_X6_readHouse_122 fl_6_34 rfl (gd_k hG (c := 39) rfl) (gd_r hG 39 22 48 rfl rfl) ?_
          refine tn_iload_n (pc := 125) hΓ d_X6_readHouse_125 rfl ?_
          refine tn_iconst (pc := 126) hΓ d_X6_readHouse_126 ic_2 ?_
          refine tn_iadd (pc := 127) hΓ d_X6_readHouse_127 ?_
          refine tn_aload_n (pc := 128) hΓ d_X6_readHouse_128 rfl ?_
          refine tn_iload_n (pc := 129) hΓ d_X6_readHouse_129 rfl ?_
          refine tn_iconst (pc := 130) hΓ d_X6_readHouse_130 ic_0 ?_
          refine tn_bipush (pc := 131) hΓ d_X6_readHouse_131 bp_9 ?_
          refine tn_cvI (As := [.int a0, .int (0 : Int32), .int (9 : Int32)]) (st := [.int (x3 + (2 : Int32)), .ref 48]) (pc := 133) hΓ d_X6_readHouse_133 mv_X6_digit im_X6_digit se_X6_digit ml_6_126 ⟨⟨by decide, by decide⟩, by decide, by decide⟩ rfl rfl rfl (by decide) ⟨_, rfl⟩ (gd_k hG (c := 39) rfl) (Nat.le_of_ble_eq_true rfl) rfl h (fun r16 σ54 h => ?_)
          obtain ⟨hi25, h⟩ := h
          refine tn_ast (pc := 136) hΓ d_X6_readHouse_136 (gd_k hG (c := 48) rfl) hi25 ?_
          refine tn_tops (fun σ55 eσ55 => ?_)
          have h := h σ55 eσ55
          refine tn_aload_n (pc := 137) hΓ d_X6_readHouse_137 rfl ?_
          refine tn_dupr (pc := 138) hΓ d_X6_readHouse_138 ?_
          refine tn_getI (pc := 139) hΓ d_X6_readHouse_139 fl_6_92 rfl (gd_k hG (c := 39) rfl) ?_
          refine tn_iconst (pc := 142) hΓ d_X6_readHouse_142 ic_1 ?_
          refine tn_iadd (pc := 143) hΓ d_X6_readHouse_143 ?_
          refine tn_putI (pc := 144) hΓ d_X6_readHouse_144 fl_6_92 fk_6_6_19 rfl (gd_k hG (c := 39) rfl)  ?_
          refine tn_tops (fun σ56 eσ56 => ?_)
          have h := h σ56 eσ56
          refine tn_aload_n (pc := 147) hΓ d_X6_readHouse_147 rfl ?_
          refine tn_getRy (y := 48) (pc := 148) hΓ d_X6_readHouse_148 fl_6_34 rfl (gd_k hG (c := 39) rfl) (gd_r hG 39 22 48 rfl rfl) ?_
          refine tn_iload_n (pc := 151) hΓ d_X6_readHouse_151 rfl ?_
          refine tn_iconst (pc := 152) hΓ d_X6_readHouse_152 ic_2 ?_
          refine tn_iadd (pc := 153) hΓ d_X6_readHouse_153 ?_
          refine tn_ald (pc := 154) hΓ d_X6_readHouse_154 (gd_k hG (c := 48) rfl) hi25 ?_
          refine tn_bipush (pc := 155) hΓ d_X6_readHouse_155 bp_m9 ?_
          refine tn_icmp_eq (tgt := 164) (pc := 157) hΓ d_X6_readHouse_157 (by decide) (fun hq => ?_) (fun hq => ?_)
          · have h := h.1 hq
            refine tn_iconst (pc := 164) hΓ d_X6_readHouse_164 ic_0 ?_
            exact tn_ret_z (pc := 165) hΓ hK d_X6_readHouse_165 rfl (by decide) (by decide) (Or.inl rfl) h
          · have h := h.2 hq
            refine tn_iconst (pc := 160) hΓ d_X6_readHouse_160 ic_1 ?_
            refine tn_goto (tgt := 165) (pc := 161) hΓ d_X6_readHouse_161 (by decide) ?_
            exact tn_ret_z (pc := 165) hΓ hK d_X6_readHouse_165 rfl (by decide) (by decide) (Or.inr rfl) h
        · have h := h.2 hq
          refine tn_iconst (pc := 119) hΓ d_X6_readHouse_119 ic_0 ?_
          exact tn_ret_z (pc := 120) hΓ hK d_X6_readHouse_120 rfl (by decide) (by decide) (Or.inl rfl) h
      · have h := h.2 hq
        refine tn_iconst (pc := 78) hΓ d_X6_readHouse_78 ic_0 ?_
        exact tn_ret_z (pc := 79) hΓ hK d_X6_readHouse_79 rfl (by decide) (by decide) (Or.inl rfl) h
theorem k_X6_weightOf_0 {Γ : tn_G} {ks : List (Nat × Nat)} {ρ : Nat → Nat → Nat} {σ : Nat → Nat → Int32} {K : Option Value → List (Nat × Nat) → (Nat → Nat → Nat) → (Nat → Nat → Int32) → Prop} (hG : tn_Gd ks ρ) (hΓ : tn_is Γ m_X6_weightOf) (hK : tn_rt Γ m_X6_weightOf K) (a0 : Int32) (h : (vp_in a0 5 ∧ ((¬ (σ 43 a0.toNatClampNeg) = 0 → ((¬ (σ 43 a0.toNatClampNeg) = (1 : Int32) → K (some (.int ((2 : Int32) * (σ 44 a0.toNatClampNeg)))) ks ρ σ) ∧ ((σ 43 a0.toNatClampNeg) = (1 : Int32) → K (some (.int ((σ 44 a0.toNatClampNeg) + (1 : Int32)))) ks ρ σ))) ∧ ((σ 43 a0.toNatClampNeg) = 0 → K (some (.int (σ 44 a0.toNatClampNeg))) ks ρ σ)))) : tn_A Γ 0 [.ref 39, .int a0] [] 0 0 ks ρ σ := by
  refine tn_aload_n (pc := 0) hΓ d_X6_weightOf_0 rfl ?_
  refine tn_getRy (y := 43) (pc := 1) hΓ d_X6_weightOf_1 fl_6_19 rfl (gd_k hG (c := 39) rfl) (gd_r hG 39 13 43 rfl rfl) ?_
  refine tn_iload_n (pc := 4) hΓ d_X6_weightOf_4 rfl ?_
  obtain ⟨hi1, h⟩ := h
  refine tn_ald (pc := 5) hΓ d_X6_weightOf_5 (gd_k hG (c := 43) rfl) hi1 ?_
  refine tn_if_ne (tgt := 18) (pc := 6) hΓ d_X6_weightOf_6 (by decide) (fun hq => ?_) (fun hq => ?_)
  · have h := h.1 hq
    refine tn_aload_n (pc := 18) hΓ d_X6_weightOf_18 rfl ?_
    refine tn_getRy (y := 43) (pc := 19) hΓ d_X6_weightOf_19 fl_6_19 rfl (gd_k hG (c := 39) rfl) (gd_r hG 39 13 43 rfl rfl) ?_
    refine tn_iload_n (pc := 22) hΓ d_X6_weightOf_22 rfl ?_
    refine tn_ald (pc := 23) hΓ d_X6_weightOf_23 (gd_k hG (c := 43) rfl) hi1 ?_
    refine tn_iconst (pc := 24) hΓ d_X6_weightOf_24 ic_1 ?_
    refine tn_icmp_ne (tgt := 39) (pc := 25) hΓ d_X6_weightOf_25 (by decide) (fun hq => ?_) (fun hq => ?_)
    · have h := h.1 hq
      refine tn_iconst (pc := 39) hΓ d_X6_weightOf_39 ic_2 ?_
      refine tn_aload_n (pc := 40) hΓ d_X6_weightOf_40 rfl ?_
      refine tn_getRy (y := 44) (pc := 41) hΓ d_X6_weightOf_41 fl_6_22 rfl (gd_k hG (c := 39) rfl) (gd_r hG 39 14 44 rfl rfl) ?_
      refine tn_iload_n (pc := 44) hΓ d_X6_weightOf_44 rfl ?_
      refine tn_ald (pc := 45) hΓ d_X6_weightOf_45 (gd_k hG (c := 44) rfl) hi1 ?_
      refine tn_imul (pc := 46) hΓ d_X6_weightOf_46 ?_
      exact tn_ret_i (pc := 47) hΓ hK d_X6_weightOf_47 rfl (by decide) (by decide) h
    · have h := h.2 hq
      refine tn_aload_n (pc := 28) hΓ d_X6_weightOf_28 rfl ?_
      refine tn_getRy (y := 44) (pc := 29) hΓ d_X6_weightOf_29 fl_6_22 rfl (gd_k hG (c := 39) rfl) (gd_r hG 39 14 44 rfl rfl) ?_
      refine tn_iload_n (pc := 32) hΓ d_X6_weightOf_32 rfl ?_
      refine tn_ald (pc := 33) hΓ d_X6_weightOf_33 (gd_k hG (c := 44) rfl) hi1 ?_
      refine tn_iconst (pc := 34) hΓ d_X6_weightOf_34 ic_1 ?_
      refine tn_iadd (pc := 35) hΓ d_X6_weightOf_35 ?_
      refine tn_goto (tgt := 47) (pc := 36) hΓ d_X6_weightOf_36 (by decide) ?_
      exact tn_ret_i (pc := 47) hΓ hK d_X6_weightOf_47 rfl (by decide) (by decide) h
  · have h := h.2 hq
    refine tn_aload_n (pc := 9) hΓ d_X6_weightOf_9 rfl ?_
    refine tn_getRy (y := 44) (pc := 10) hΓ d_X6_weightOf_10 fl_6_22 rfl (gd_k hG (c := 39) rfl) (gd_r hG 39 14 44 rfl rfl) ?_
    refine tn_iload_n (pc := 13) hΓ d_X6_weightOf_13 rfl ?_
    refine tn_ald (pc := 14) hΓ d_X6_weightOf_14 (gd_k hG (c := 44) rfl) hi1 ?_
    refine tn_goto (tgt := 47) (pc := 15) hΓ d_X6_weightOf_15 (by decide) ?_
    exact tn_ret_i (pc := 47) hΓ hK d_X6_weightOf_47 rfl (by decide) (by decide) h
theorem k_X6_rankles_0 {Γ : tn_G} {ks : List (Nat × Nat)} {ρ : Nat → Nat → Nat} {σ : Nat → Nat → Int32} {K : Option Value → List (Nat × Nat) → (Nat → Nat → Nat) → (Nat → Nat → Int32) → Prop} (hG : tn_Gd ks ρ) (hΓ : tn_is Γ m_X6_rankles) (hK : tn_rt Γ m_X6_rankles K) (a0 : Int32) (h : tn_CI m_X6_isOf [.int (σ 39 11), .int a0] ks ρ σ (fun r1 σ1 => ((¬ r1 = 0 → K (some (.int (0 : Int32))) ks ρ σ1) ∧ (r1 = 0 → tn_CI m_X6_weightOf [.ref 39, .int a0] ks ρ σ1 (fun r2 σ2 => ((r2 ≤ 0 → K (some (.int (0 : Int32))) ks ρ σ2) ∧ (¬ r2 ≤ 0 → K (some (.int (1 : Int32))) ks ρ σ2))))))) : tn_A Γ 0 [.ref 39, .int a0] [] 0 0 ks ρ σ := by
  refine tn_aload_n (pc := 0) hΓ d_X6_rankles_0 rfl ?_
  refine tn_getI (pc := 1) hΓ d_X6_rankles_1 fl_6_104 rfl (gd_k hG (c := 39) rfl) ?_
  refine tn_iload_n (pc := 4) hΓ d_X6_rankles_4 rfl ?_
  refine tn_csI (As := [.int (σ 39 11), .int a0]) (st := []) (pc := 5) hΓ d_X6_rankles_5 mv_X6_isOf st_X6_isOf ml_6_136 ⟨⟨by decide, by decide⟩, by decide, by decide⟩ rfl rfl rfl (Nat.le_of_ble_eq_true rfl) rfl h (fun r1 σ1 h => ?_)
  refine tn_if_ne (tgt := 23) (pc := 8) hΓ d_X6_rankles_8 (by decide) (fun hq => ?_) (fun hq => ?_)
  · have h := h.1 hq
    refine tn_iconst (pc := 23) hΓ d_X6_rankles_23 ic_0 ?_
    exact tn_ret_z (pc := 24) hΓ hK d_X6_rankles_24 rfl (by decide) (by decide) (Or.inl rfl) h
  · have h := h.2 hq
    refine tn_aload_n (pc := 11) hΓ d_X6_rankles_11 rfl ?_
    refine tn_iload_n (pc := 12) hΓ d_X6_rankles_12 rfl ?_
    refine tn_cvI (As := [.int a0]) (st := []) (pc := 13) hΓ d_X6_rankles_13 mv_X6_weightOf im_X6_weightOf se_X6_weightOf ml_6_139 ⟨⟨by decide, by decide⟩, by decide, by decide⟩ rfl rfl rfl (by decide) ⟨_, rfl⟩ (gd_k hG (c := 39) rfl) (Nat.le_of_ble_eq_true rfl) rfl h (fun r2 σ2 h => ?_)
    refine tn_if_le (tgt := 23) (pc := 16) hΓ d_X6_rankles_16 (by decide) (fun hq => ?_) (fun hq => ?_)
    · have h := h.1 hq
      refine tn_iconst (pc := 23) hΓ d_X6_rankles_23 ic_0 ?_
      exact tn_ret_z (pc := 24) hΓ hK d_X6_rankles_24 rfl (by decide) (by decide) (Or.inl rfl) h
    · have h := h.2 hq
      refine tn_iconst (pc := 19) hΓ d_X6_rankles_19 ic_1 ?_
      refine tn_goto (tgt := 24) (pc := 20) hΓ d_X6_rankles_20 (by decide) ?_
      exact tn_ret_z (pc := 24) hΓ hK d_X6_rankles_24 rfl (by decide) (by decide) (Or.inr rfl) h
theorem k_X6_whoRankle_0 {Γ : tn_G} {ks : List (Nat × Nat)} {ρ : Nat → Nat → Nat} {σ : Nat → Nat → Int32} {K : Option Value → List (Nat × Nat) → (Nat → Nat → Nat) → (Nat → Nat → Int32) → Prop} (hG : tn_Gd ks ρ) (hΓ : tn_is Γ m_X6_whoRankle) (hK : tn_rt Γ m_X6_whoRankle K)  (h : tn_A Γ 4 [.ref 39, .int (0 : Int32), .int (0 : Int32)] [] 0 0 ks ρ σ) : tn_A Γ 0 [.ref 39, .null, .null] [] 0 0 ks ρ σ := by
  refine tn_iconst (pc := 0) hΓ d_X6_whoRankle_0 ic_0 ?_
  refine tn_istore_n (loc' := [.ref 39, .int (0 : Int32), .null]) (pc := 1) hΓ d_X6_whoRankle_1 (by decide) rfl rfl ?_
  refine tn_iconst (pc := 2) hΓ d_X6_whoRankle_2 ic_0 ?_
  refine tn_istore_n (loc' := [.ref 39, .int (0 : Int32), .int (0 : Int32)]) (pc := 3) hΓ d_X6_whoRankle_3 (by decide) rfl rfl ?_
  exact h
theorem k_X6_whoRankle_4 {Γ : tn_G} {ks : List (Nat × Nat)} {ρ : Nat → Nat → Nat} {σ : Nat → Nat → Int32} {K : Option Value → List (Nat × Nat) → (Nat → Nat → Nat) → (Nat → Nat → Int32) → Prop} (hG : tn_Gd ks ρ) (hΓ : tn_is Γ m_X6_whoRankle) (hK : tn_rt Γ m_X6_whoRankle K) (y1 : Int32) (y2 : Int32) (h : (((σ 39 5) ≤ y2 → K (some (.int y1)) ks ρ σ) ∧ (¬ (σ 39 5) ≤ y2 → tn_CI m_X6_rankles [.ref 39, .int y2] ks ρ σ (fun r1 σ1 => ((r1 = 0 → (∀ x1 : Int32, x1 = (y1 ||| (0 : Int32)) → (∀ x2 : Int32, x2 = y2 + (1 : Int32) → tn_A Γ 4 [.ref 39, .int x1, .int x2] [] 0 0 ks ρ σ1))) ∧ (¬ r1 = 0 → (∀ x3 : Int32, x3 = (y1 ||| ((1 : Int32) <<< (y2 &&& 31))) → (∀ x4 : Int32, x4 = y2 + (1 : Int32) → tn_A Γ 4 [.ref 39, .int x3, .int x4] [] 0 0 ks ρ σ1)))))))) : tn_A Γ 4 [.ref 39, .int y1, .int y2] [] 0 0 ks ρ σ := by
  refine tn_iload_n (pc := 4) hΓ d_X6_whoRankle_4 rfl ?_
  refine tn_aload_n (pc := 5) hΓ d_X6_whoRankle_5 rfl ?_
  refine tn_getI (pc := 6) hΓ d_X6_whoRankle_6 fl_6_62 rfl (gd_k hG (c := 39) rfl) ?_
  refine tn_icmp_ge (tgt := 36) (pc := 9) hΓ d_X6_whoRankle_9 (by decide) (fun hq => ?_) (fun hq => ?_)
  · have h := h.1 hq
    refine tn_iload_n (pc := 36) hΓ d_X6_whoRankle_36 rfl ?_
    exact tn_ret_i (pc := 37) hΓ hK d_X6_whoRankle_37 rfl (by decide) (by decide) h
  · have h := h.2 hq
    refine tn_iload_n (pc := 12) hΓ d_X6_whoRankle_12 rfl ?_
    refine tn_aload_n (pc := 13) hΓ d_X6_whoRankle_13 rfl ?_
    refine tn_iload_n (pc := 14) hΓ d_X6_whoRankle_14 rfl ?_
    refine tn_cvI (As := [.int y2]) (st := [.int y1]) (pc := 15) hΓ d_X6_whoRankle_15 mv_X6_rankles im_X6_rankles se_X6_rankles ml_6_142 ⟨⟨by decide, by decide⟩, by decide, by decide⟩ rfl rfl rfl (by decide) ⟨_, rfl⟩ (gd_k hG (c := 39) rfl) (Nat.le_of_ble_eq_true rfl) rfl h (fun r1 σ1 h => ?_)
    refine tn_if_eq (tgt := 27) (pc := 18) hΓ d_X6_whoRankle_18 (by decide) (fun hq => ?_) (fun hq => ?_)
    · have h := h.1 hq
      refine tn_iconst (pc := 27) hΓ d_X6_whoRankle_27 ic_0 ?_
      refine tn_ior (pc := 28) hΓ d_X6_whoRankle_28 ?_
      refine tn_topi (fun x1 ex1 => ?_)
      have h := h x1 ex1
      refine tn_istore_n (loc' := [.ref 39, .int x1, .int y2]) (pc := 29) hΓ d_X6_whoRankle_29 (by decide) rfl rfl ?_
      refine tn_iincw (loc' := fun v_ => [.ref 39, .int x1, .int v_]) (pc := 30) hΓ d_X6_whoRankle_30 rfl ic_1 (by decide) rfl (fun _ => rfl) (fun x2 ex2 => ?_)
      have h := h x2 ex2
      refine tn_goto (tgt := 4) (pc := 33) hΓ d_X6_whoRankle_33 (by decide) ?_
      exact h
    · have h := h.2 hq
      refine tn_iconst (pc := 21) hΓ d_X6_whoRankle_21 ic_1 ?_
      refine tn_iload_n (pc := 22) hΓ d_X6_whoRankle_22 rfl ?_
      refine tn_ishl (pc := 23) hΓ d_X6_whoRankle_23 ?_
      refine tn_goto (tgt := 28) (pc := 24) hΓ d_X6_whoRankle_24 (by decide) ?_
      refine tn_ior (pc := 28) hΓ d_X6_whoRankle_28 ?_
      refine tn_topi (fun x3 ex3 => ?_)
      have h := h x3 ex3
      refine tn_istore_n (loc' := [.ref 39, .int x3, .int y2]) (pc := 29) hΓ d_X6_whoRankle_29 (by decide) rfl rfl ?_
      refine tn_iincw (loc' := fun v_ => [.ref 39, .int x3, .int v_]) (pc := 30) hΓ d_X6_whoRankle_30 rfl ic_1 (by decide) rfl (fun _ => rfl) (fun x4 ex4 => ?_)
      have h := h x4 ex4
      refine tn_goto (tgt := 4) (pc := 33) hΓ d_X6_whoRankle_33 (by decide) ?_
      exact h
theorem k_X6_voiceNow_0 {Γ : tn_G} {ks : List (Nat × Nat)} {ρ : Nat → Nat → Nat} {σ : Nat → Nat → Int32} {K : Option Value → List (Nat × Nat) → (Nat → Nat → Nat) → (Nat → Nat → Int32) → Prop} (hG : tn_Gd ks ρ) (hΓ : tn_is Γ m_X6_voiceNow) (hK : tn_rt Γ m_X6_voiceNow K)  (h : tn_A Γ 4 [.ref 39, .int (0 : Int32), .int (0 : Int32)] [] 0 0 ks ρ σ) : tn_A Γ 0 [.ref 39, .null, .null] [] 0 0 ks ρ σ := by
  refine tn_iconst (pc := 0) hΓ d_X6_voiceNow_0 ic_0 ?_
  refine tn_istore_n (loc' := [.ref 39, .int (0 : Int32), .null]) (pc := 1) hΓ d_X6_voiceNow_1 (by decide) rfl rfl ?_
  refine tn_iconst (pc := 2) hΓ d_X6_voiceNow_2 ic_0 ?_
  refine tn_istore_n (loc' := [.ref 39, .int (0 : Int32), .int (0 : Int32)]) (pc := 3) hΓ d_X6_voiceNow_3 (by decide) rfl rfl ?_
  exact h
theorem k_X6_voiceNow_4 {Γ : tn_G} {ks : List (Nat × Nat)} {ρ : Nat → Nat → Nat} {σ : Nat → Nat → Int32} {K : Option Value → List (Nat × Nat) → (Nat → Nat → Nat) → (Nat → Nat → Int32) → Prop} (hG : tn_Gd ks ρ) (hΓ : tn_is Γ m_X6_voiceNow) (hK : tn_rt Γ m_X6_voiceNow K) (y1 : Int32) (y2 : Int32) (h : (((σ 39 5) ≤ y2 → tn_A Γ 40 [.ref 39, .int y1, .int (0 : Int32)] [] 0 0 ks ρ σ) ∧ (¬ (σ 39 5) ≤ y2 → tn_CI m_X6_rankles [.ref 39, .int y2] ks ρ σ (fun r1 σ1 => ((r1 = 0 → (∀ x1 : Int32, x1 = (y1 + (0 : Int32)) → (∀ x2 : Int32, x2 = y2 + (1 : Int32) → tn_A Γ 4 [.ref 39, .int x1, .int x2] [] 0 0 ks ρ σ1))) ∧ (¬ r1 = 0 → tn_CI m_X6_weightOf [.ref 39, .int y2] ks ρ σ1 (fun r2 σ2 => (∀ x3 : Int32, x3 = (y1 + r2) → (∀ x4 : Int32, x4 = y2 + (1 : Int32) → tn_A Γ 4 [.ref 39, .int x3, .int x4] [] 0 0 ks ρ σ2))))))))) : tn_A Γ 4 [.ref 39, .int y1, .int y2] [] 0 0 ks ρ σ := by
  refine tn_iload_n (pc := 4) hΓ d_X6_voiceNow_4 rfl ?_
  refine tn_aload_n (pc := 5) hΓ d_X6_voiceNow_5 rfl ?_
  refine tn_getI (pc := 6) hΓ d_X6_voiceNow_6 fl_6_62 rfl (gd_k hG (c := 39) rfl) ?_
  refine tn_icmp_ge (tgt := 38) (pc := 9) hΓ d_X6_voiceNow_9 (by decide) (fun hq => ?_) (fun hq => ?_)
  · have h := h.1 hq
    refine tn_iconst (pc := 38) hΓ d_X6_voiceNow_38 ic_0 ?_
    refine tn_istore_n (loc' := [.ref 39, .int y1, .int (0 : Int32)]) (pc := 39) hΓ d_X6_voiceNow_39 (by decide) rfl rfl ?_
    exact h
  · have h := h.2 hq
    refine tn_iload_n (pc := 12) hΓ d_X6_voiceNow_12 rfl ?_
    refine tn_aload_n (pc := 13) hΓ d_X6_voiceNow_13 rfl ?_
    refine tn_iload_n (pc := 14) hΓ d_X6_voiceNow_14 rfl ?_
    refine tn_cvI (As := [.int y2]) (st := [.int y1]) (pc := 15) hΓ d_X6_voiceNow_15 mv_X6_rankles im_X6_rankles se_X6_rankles ml_6_142 ⟨⟨by decide, by decide⟩, by decide, by decide⟩ rfl rfl rfl (by decide) ⟨_, rfl⟩ (gd_k hG (c := 39) rfl) (Nat.le_of_ble_eq_true rfl) rfl h (fun r1 σ1 h => ?_)
    refine tn_if_eq (tgt := 29) (pc := 18) hΓ d_X6_voiceNow_18 (by decide) (fun hq => ?_) (fun hq => ?_)
    · have h := h.1 hq
      refine tn_iconst (pc := 29) hΓ d_X6_voiceNow_29 ic_0 ?_
      refine tn_iadd (pc := 30) hΓ d_X6_voiceNow_30 ?_
      refine tn_topi (fun x1 ex1 => ?_)
      have h := h x1 ex1
      refine tn_istore_n (loc' := [.ref 39, .int x1, .int y2]) (pc := 31) hΓ d_X6_voiceNow_31 (by decide) rfl rfl ?_
      refine tn_iincw (loc' := fun v_ => [.ref 39, .int x1, .int v_]) (pc := 32) hΓ d_X6_voiceNow_32 rfl ic_1 (by decide) rfl (fun _ => rfl) (fun x2 ex2 => ?_)
      have h := h x2 ex2
      refine tn_goto (tgt := 4) (pc := 35) hΓ d_X6_voiceNow_35 (by decide) ?_
      exact h
    · have h := h.2 hq
      refine tn_aload_n (pc := 21) hΓ d_X6_voiceNow_21 rfl ?_
      refine tn_iload_n (pc := 22) hΓ d_X6_voiceNow_22 rfl ?_
      refine tn_cvI (As := [.int y2]) (st := [.int y1]) (pc := 23) hΓ d_X6_voiceNow_23 mv_X6_weightOf im_X6_weightOf se_X6_weightOf ml_6_139 ⟨⟨by decide, by decide⟩, by decide, by decide⟩ rfl rfl rfl (by decide) ⟨_, rfl⟩ (gd_k hG (c := 39) rfl) (Nat.le_of_ble_eq_true rfl) rfl h (fun r2 σ2 h => ?_)
      refine tn_goto (tgt := 30) (pc := 26) hΓ d_X6_voiceNow_26 (by decide) ?_
      refine tn_iadd (pc := 30) hΓ d_X6_voiceNow_30 ?_
      refine tn_topi (fun x3 ex3 => ?_)
      have h := h x3 ex3
      refine tn_istore_n (loc' := [.ref 39, .int x3, .int y2]) (pc := 31) hΓ d_X6_voiceNow_31 (by decide) rfl rfl ?_
      refine tn_iincw (loc' := fun v_ => [.ref 39, .int x3, .int v_]) (pc := 32) hΓ d_X6_voiceNow_32 rfl ic_1 (by decide) rfl (fun _ => rfl) (fun x4 ex4 => ?_)
      have h := h x4 ex4
      refine tn_goto (tgt := 4) (pc := 35) hΓ d_X6_voiceNow_35 (by decide) ?_
      exact h
theorem k_X6_voiceNow_40 {Γ : tn_G} {ks : List (Nat × Nat)} {ρ : Nat → Nat → Nat} {σ : Nat → Nat → Int32} {K : Option Value → List (Nat × Nat) → (Nat → Nat → Nat) → (Nat → Nat → Int32) → Prop} (hG : tn_Gd ks ρ) (hΓ : tn_is Γ m_X6_voiceNow) (hK : tn_rt Γ m_X6_voiceNow K) (y1 : Int32) (y2 : Int32) (h : (((σ 39 6) ≤ y2 → K (some (.int y1)) ks ρ σ) ∧ (¬ (σ 39 6) ≤ y2 → tn_CI m_X6_isOf [.int (σ 39 12), .int y2] ks ρ σ (fun r1 σ1 => ((r1 = 0 → (vp_in y2 4 ∧ (∀ x1 : Int32, x1 = (y1 + (σ1 47 y2.toNatClampNeg)) → (∀ x2 : Int32, x2 = y2 + (1 : Int32) → tn_A Γ 40 [.ref 39, .int x1, .int x2] [] 0 0 ks ρ σ1)))) ∧ (¬ r1 = 0 → (∀ x3 : Int32, x3 = (y1 + (0 : Int32)) → (∀ x4 : Int32, x4 = y2 + (1 : Int32) → tn_A Γ 40 [.ref 39, .int x3, .int x4] [] 0 0 ks ρ σ1)))))))) : tn_A Γ 40 [.ref 39, .int y1, .int y2] [] 0 0 ks ρ σ := by
  refine tn_iload_n (pc := 40) hΓ d_X6_voiceNow_40 rfl ?_
  refine tn_aload_n (pc := 41) hΓ d_X6_voiceNow_41 rfl ?_
  refine tn_getI (pc := 42) hΓ d_X6_voiceNow_42 fl_6_65 rfl (gd_k hG (c := 39) rfl) ?_
  refine tn_icmp_ge (tgt := 78) (pc := 45) hΓ d_X6_voiceNow_45 (by decide) (fun hq => ?_) (fun hq => ?_)
  · have h := h.1 hq
    refine tn_iload_n (pc := 78) hΓ d_X6_voiceNow_78 rfl ?_
    exact tn_ret_i (pc := 79) hΓ hK d_X6_voiceNow_79 rfl (by decide) (by decide) h
  · have h := h.2 hq
    refine tn_iload_n (pc := 48) hΓ d_X6_voiceNow_48 rfl ?_
    refine tn_aload_n (pc := 49) hΓ d_X6_voiceNow_49 rfl ?_
    refine tn_getI (pc := 50) hΓ d_X6_voiceNow_50 fl_6_107 rfl (gd_k hG (c := 39) rfl) ?_
    refine tn_iload_n (pc := 53) hΓ d_X6_voiceNow_53 rfl ?_
    refine tn_csI (As := [.int (σ 39 12), .int y2]) (st := [.int y1]) (pc := 54) hΓ d_X6_voiceNow_54 mv_X6_isOf st_X6_isOf ml_6_136 ⟨⟨by decide, by decide⟩, by decide, by decide⟩ rfl rfl rfl (Nat.le_of_ble_eq_true rfl) rfl h (fun r1 σ1 h => ?_)
    refine tn_if_eq (tgt := 64) (pc := 57) hΓ d_X6_voiceNow_57 (by decide) (fun hq => ?_) (fun hq => ?_)
    · have h := h.1 hq
      refine tn_aload_n (pc := 64) hΓ d_X6_voiceNow_64 rfl ?_
      refine tn_getRy (y := 47) (pc := 65) hΓ d_X6_voiceNow_65 fl_6_31 rfl (gd_k hG (c := 39) rfl) (gd_r hG 39 17 47 rfl rfl) ?_
      refine tn_iload_n (pc := 68) hΓ d_X6_voiceNow_68 rfl ?_
      obtain ⟨hi1, h⟩ := h
      refine tn_ald (pc := 69) hΓ d_X6_voiceNow_69 (gd_k hG (c := 47) rfl) hi1 ?_
      refine tn_iadd (pc := 70) hΓ d_X6_voiceNow_70 ?_
      refine tn_topi (fun x1 ex1 => ?_)
      have h := h x1 ex1
      refine tn_istore_n (loc' := [.ref 39, .int x1, .int y2]) (pc := 71) hΓ d_X6_voiceNow_71 (by decide) rfl rfl ?_
      refine tn_iincw (loc' := fun v_ => [.ref 39, .int x1, .int v_]) (pc := 72) hΓ d_X6_voiceNow_72 rfl ic_1 (by decide) rfl (fun _ => rfl) (fun x2 ex2 => ?_)
      have h := h x2 ex2
      refine tn_goto (tgt := 40) (pc := 75) hΓ d_X6_voiceNow_75 (by decide) ?_
      exact h
    · have h := h.2 hq
      refine tn_iconst (pc := 60) hΓ d_X6_voiceNow_60 ic_0 ?_
      refine tn_goto (tgt := 70) (pc := 61) hΓ d_X6_voiceNow_61 (by decide) ?_
      refine tn_iadd (pc := 70) hΓ d_X6_voiceNow_70 ?_
      refine tn_topi (fun x3 ex3 => ?_)
      have h := h x3 ex3
      refine tn_istore_n (loc' := [.ref 39, .int x3, .int y2]) (pc := 71) hΓ d_X6_voiceNow_71 (by decide) rfl rfl ?_
      refine tn_iincw (loc' := fun v_ => [.ref 39, .int x3, .int v_]) (pc := 72) hΓ d_X6_voiceNow_72 rfl ic_1 (by decide) rfl (fun _ => rfl) (fun x4 ex4 => ?_)
      have h := h x4 ex4
      refine tn_goto (tgt := 40) (pc := 75) hΓ d_X6_voiceNow_75 (by decide) ?_
      exact h
