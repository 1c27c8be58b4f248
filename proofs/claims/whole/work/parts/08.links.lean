theorem fl_0_9 : tn_FL "ThunderOwned$House" 9 0 0 := ⟨_, tn_T0, tn_ty0, by decide, rfl, by decide, tn_us0, tn_tk0, tn_nm0, rfl, Or.inl (tn_wi 116 (by decide +kernel))⟩
theorem fk_0_0_0 : tn_FK "ThunderOwned$House" 0 0 0 := ⟨_, tn_T0, rfl, by decide +kernel, rfl⟩
theorem fl_0_15 : tn_FL "ThunderOwned$House" 15 0 1 := ⟨_, tn_T0, tn_ty0, by decide, rfl, by decide, tn_us0, tn_tk0, tn_nm0, rfl, Or.inl (tn_wi 119 (by decide +kernel))⟩
theorem fk_0_0_1 : tn_FK "ThunderOwned$House" 0 1 0 := ⟨_, tn_T0, rfl, by decide +kernel, rfl⟩
theorem fl_0_18 : tn_FL "ThunderOwned$House" 18 0 2 := ⟨_, tn_T0, tn_ty0, by decide, rfl, by decide, tn_us0, tn_tk0, tn_nm0, rfl, Or.inl (tn_wi 122 (by decide +kernel))⟩
theorem fk_0_0_2 : tn_FK "ThunderOwned$House" 0 2 0 := ⟨_, tn_T0, rfl, by decide +kernel, rfl⟩
theorem fl_0_21 : tn_FL "ThunderOwned$House" 21 0 3 := ⟨_, tn_T0, tn_ty0, by decide, rfl, by decide, tn_us0, tn_tk0, tn_nm0, rfl, Or.inl (tn_wi 125 (by decide +kernel))⟩
theorem fk_0_0_3 : tn_FK "ThunderOwned$House" 0 3 0 := ⟨_, tn_T0, rfl, by decide +kernel, rfl⟩
theorem fl_0_24 : tn_FL "ThunderOwned$House" 24 0 4 := ⟨_, tn_T0, tn_ty0, by decide, rfl, by decide, tn_us0, tn_tk0, tn_nm0, rfl, Or.inl (tn_wi 128 (by decide +kernel))⟩
theorem fk_0_0_4 : tn_FK "ThunderOwned$House" 0 4 1 := ⟨_, tn_T0, rfl, by decide +kernel, rfl⟩
theorem ml_0_28 : tn_ML "ThunderOwned$House" 28 m_X0_weight.1 := Or.inl (tn_wi 356 (by decide +kernel))
theorem ml_0_32 : tn_ML "ThunderOwned$House" 32 m_X0_rankles.1 := Or.inl (tn_wi 377 (by decide +kernel))
theorem ml_1_36 : tn_ML "ThunderOwned$Parish" 36 m_X0_init.1 := Or.inr ⟨"ThunderOwned", tn_wni 112 (by decide +kernel)⟩
theorem ml_1_37 : tn_ML "ThunderOwned$Parish" 37 m_X3_init.1 := Or.inr ⟨"ThunderOwned", tn_wni 143 (by decide +kernel)⟩
theorem fl_1_13 : tn_FL "ThunderOwned$Parish" 13 1 0 := ⟨_, tn_T1, tn_ty1, by decide, rfl, by decide, tn_us1, tn_tk1, tn_nm1, rfl, Or.inl (tn_wi 158 (by decide +kernel))⟩
theorem fk_1_1_0 : tn_FK "ThunderOwned$Parish" 1 0 2 := ⟨_, tn_T1, rfl, rfl, rfl, Or.inr ⟨.object "ThunderOwned$House", by decide +kernel⟩⟩
theorem fo_1_13 : ∀ (C : String) (T : u_T), tn_cl[1]? = some (C, T, tn_N 1) → Cond.fieldLink "ThunderOwned$Parish" 13 C (T 0).2.1 (T 0).2.2.1 ∈ tn_tbl := by
  intro C T h
  cases h
  exact tn_wi 158 (by decide +kernel)
theorem fl_1_19 : tn_FL "ThunderOwned$Parish" 19 1 1 := ⟨_, tn_T1, tn_ty1, by decide, rfl, by decide, tn_us1, tn_tk1, tn_nm1, rfl, Or.inl (tn_wi 160 (by decide +kernel))⟩
theorem fk_1_1_1 : tn_FK "ThunderOwned$Parish" 1 1 2 := ⟨_, tn_T1, rfl, rfl, rfl, Or.inr ⟨.object "ThunderOwned$Stone", by decide +kernel⟩⟩
theorem fo_1_19 : ∀ (C : String) (T : u_T), tn_cl[1]? = some (C, T, tn_N 1) → Cond.fieldLink "ThunderOwned$Parish" 19 C (T 1).2.1 (T 1).2.2.1 ∈ tn_tbl := by
  intro C T h
  cases h
  exact tn_wi 160 (by decide +kernel)
theorem fl_1_23 : tn_FL "ThunderOwned$Parish" 23 1 2 := ⟨_, tn_T1, tn_ty1, by decide, rfl, by decide, tn_us1, tn_tk1, tn_nm1, rfl, Or.inl (tn_wi 162 (by decide +kernel))⟩
theorem fk_1_1_2 : tn_FK "ThunderOwned$Parish" 1 2 0 := ⟨_, tn_T1, rfl, by decide +kernel, rfl⟩
theorem fl_1_27 : tn_FL "ThunderOwned$Parish" 27 1 3 := ⟨_, tn_T1, tn_ty1, by decide, rfl, by decide, tn_us1, tn_tk1, tn_nm1, rfl, Or.inl (tn_wi 165 (by decide +kernel))⟩
theorem fk_1_1_3 : tn_FK "ThunderOwned$Parish" 1 3 0 := ⟨_, tn_T1, rfl, by decide +kernel, rfl⟩
theorem fl_1_30 : tn_FL "ThunderOwned$Parish" 30 1 4 := ⟨_, tn_T1, tn_ty1, by decide, rfl, by decide, tn_us1, tn_tk1, tn_nm1, rfl, Or.inl (tn_wi 168 (by decide +kernel))⟩
theorem fk_1_1_4 : tn_FK "ThunderOwned$Parish" 1 4 0 := ⟨_, tn_T1, rfl, by decide +kernel, rfl⟩
theorem fl_1_33 : tn_FL "ThunderOwned$Parish" 33 1 5 := ⟨_, tn_T1, tn_ty1, by decide, rfl, by decide, tn_us1, tn_tk1, tn_nm1, rfl, Or.inl (tn_wi 171 (by decide +kernel))⟩
theorem fk_1_1_5 : tn_FK "ThunderOwned$Parish" 1 5 0 := ⟨_, tn_T1, rfl, by decide +kernel, rfl⟩
theorem fl_1_38 : tn_FL "ThunderOwned$Parish" 38 0 0 := ⟨_, tn_T0, tn_ty0, by decide, rfl, by decide, tn_us0, tn_tk0, tn_nm0, rfl, Or.inr ⟨"ThunderOwned", tn_wni 118 (by decide +kernel)⟩⟩
theorem fk_1_0_0 : tn_FK "ThunderOwned$Parish" 0 0 0 := ⟨_, tn_T0, rfl, by decide +kernel, rfl⟩
theorem fl_1_41 : tn_FL "ThunderOwned$Parish" 41 0 1 := ⟨_, tn_T0, tn_ty0, by decide, rfl, by decide, tn_us0, tn_tk0, tn_nm0, rfl, Or.inr ⟨"ThunderOwned", tn_wni 121 (by decide +kernel)⟩⟩
theorem fk_1_0_1 : tn_FK "ThunderOwned$Parish" 0 1 0 := ⟨_, tn_T0, rfl, by decide +kernel, rfl⟩
theorem fl_1_44 : tn_FL "ThunderOwned$Parish" 44 0 2 := ⟨_, tn_T0, tn_ty0, by decide, rfl, by decide, tn_us0, tn_tk0, tn_nm0, rfl, Or.inr ⟨"ThunderOwned", tn_wni 124 (by decide +kernel)⟩⟩
theorem fk_1_0_2 : tn_FK "ThunderOwned$Parish" 0 2 0 := ⟨_, tn_T0, rfl, by decide +kernel, rfl⟩
theorem fl_1_47 : tn_FL "ThunderOwned$Parish" 47 0 3 := ⟨_, tn_T0, tn_ty0, by decide, rfl, by decide, tn_us0, tn_tk0, tn_nm0, rfl, Or.inr ⟨"ThunderOwned", tn_wni 127 (by decide +kernel)⟩⟩
theorem fk_1_0_3 : tn_FK "ThunderOwned$Parish" 0 3 0 := ⟨_, tn_T0, rfl, by decide +kernel, rfl⟩
theorem fl_1_50 : tn_FL "ThunderOwned$Parish" 50 0 4 := ⟨_, tn_T0, tn_ty0, by decide, rfl, by decide, tn_us0, tn_tk0, tn_nm0, rfl, Or.inr ⟨"ThunderOwned", tn_wni 130 (by decide +kernel)⟩⟩
theorem fk_1_0_4 : tn_FK "ThunderOwned$Parish" 0 4 1 := ⟨_, tn_T0, rfl, by decide +kernel, rfl⟩
theorem fl_1_54 : tn_FL "ThunderOwned$Parish" 54 3 0 := ⟨_, tn_T3, tn_ty3, by decide, rfl, by decide, tn_us3, tn_tk3, tn_nm3, rfl, Or.inr ⟨"ThunderOwned", tn_wni 149 (by decide +kernel)⟩⟩
theorem fk_1_3_0 : tn_FK "ThunderOwned$Parish" 3 0 0 := ⟨_, tn_T3, rfl, by decide +kernel, rfl⟩
theorem fl_1_57 : tn_FL "ThunderOwned$Parish" 57 3 1 := ⟨_, tn_T3, tn_ty3, by decide, rfl, by decide, tn_us3, tn_tk3, tn_nm3, rfl, Or.inr ⟨"ThunderOwned", tn_wni 152 (by decide +kernel)⟩⟩
theorem fk_1_3_1 : tn_FK "ThunderOwned$Parish" 3 1 1 := ⟨_, tn_T3, rfl, by decide +kernel, rfl⟩
theorem ml_1_60 : tn_ML "ThunderOwned$Parish" 60 m_X0_become.1 := Or.inr ⟨"ThunderOwned", tn_wni 332 (by decide +kernel)⟩
theorem ml_1_64 : tn_ML "ThunderOwned$Parish" 64 m_X3_become.1 := Or.inr ⟨"ThunderOwned", tn_wni 336 (by decide +kernel)⟩
theorem ml_1_67 : tn_ML "ThunderOwned$Parish" 67 m_X0_rankles.1 := Or.inr ⟨"ThunderOwned", tn_wni 386 (by decide +kernel)⟩
theorem ml_1_71 : tn_ML "ThunderOwned$Parish" 71 m_X0_weight.1 := Or.inr ⟨"ThunderOwned", tn_wni 387 (by decide +kernel)⟩
theorem ml_1_75 : tn_ML "ThunderOwned$Parish" 75 m_X1_ranklingSet.1 := Or.inl (tn_wi 411 (by decide +kernel))
theorem ml_1_78 : tn_ML "ThunderOwned$Parish" 78 m_X0_ownUp.1 := Or.inr ⟨"ThunderOwned", tn_wni 410 (by decide +kernel)⟩
theorem ml_1_81 : tn_ML "ThunderOwned$Parish" 81 m_X1_voice.1 := Or.inl (tn_wi 404 (by decide +kernel))
theorem ml_1_84 : tn_ML "ThunderOwned$Parish" 84 m_X1_hasHouse.1 := Or.inl (tn_wi 405 (by decide +kernel))
theorem ml_1_88 : tn_ML "ThunderOwned$Parish" 88 m_X1_loseSleep.1 := Or.inl (tn_wi 406 (by decide +kernel))
theorem ml_1_91 : tn_ML "ThunderOwned$Parish" 91 m_X1_layHeaviestStone.1 := Or.inl (tn_wi 415 (by decide +kernel))
theorem ml_1_94 : tn_ML "ThunderOwned$Parish" 94 m_X1_passNight.1 := Or.inl (tn_wi 400 (by decide +kernel))
theorem ml_1_97 : tn_ML "ThunderOwned$Parish" 97 m_X1_hasStone.1 := Or.inl (tn_wi 419 (by decide +kernel))
theorem ml_1_100 : tn_ML "ThunderOwned$Parish" 100 m_J_min.1 := Or.inl (tn_wi 471 (by decide +kernel))
theorem ml_1_106 : tn_ML "ThunderOwned$Parish" 106 m_X1_ownsAsAct.1 := Or.inl (tn_wi 438 (by decide +kernel))
theorem ml_1_109 : tn_ML "ThunderOwned$Parish" 109 m_X1_sleepsAsAct.1 := Or.inl (tn_wi 442 (by decide +kernel))
theorem ml_1_112 : tn_ML "ThunderOwned$Parish" 112 m_X1_isLaidAsAct.1 := Or.inl (tn_wi 446 (by decide +kernel))
theorem fl_2_9 : tn_FL "ThunderOwned$Sheet" 9 2 0 := ⟨_, tn_T2, tn_ty2, by decide, rfl, by decide, tn_us2, tn_tk2, tn_nm2, rfl, Or.inl (tn_wi 193 (by decide +kernel))⟩
theorem fk_2_2_0 : tn_FK "ThunderOwned$Sheet" 2 0 2 := ⟨_, tn_T2, rfl, rfl, rfl, Or.inr ⟨.int, by decide +kernel⟩⟩
theorem fo_2_9 : ∀ (C : String) (T : u_T), tn_cl[2]? = some (C, T, tn_N 2) → Cond.fieldLink "ThunderOwned$Sheet" 9 C (T 0).2.1 (T 0).2.2.1 ∈ tn_tbl := by
  intro C T h
  cases h
  exact tn_wi 193 (by decide +kernel)
theorem fl_2_15 : tn_FL "ThunderOwned$Sheet" 15 2 1 := ⟨_, tn_T2, tn_ty2, by decide, rfl, by decide, tn_us2, tn_tk2, tn_nm2, rfl, Or.inl (tn_wi 195 (by decide +kernel))⟩
theorem fk_2_2_1 : tn_FK "ThunderOwned$Sheet" 2 1 1 := ⟨_, tn_T2, rfl, by decide +kernel, rfl⟩
theorem fl_2_19 : tn_FL "ThunderOwned$Sheet" 19 2 2 := ⟨_, tn_T2, tn_ty2, by decide, rfl, by decide, tn_us2, tn_tk2, tn_nm2, rfl, Or.inl (tn_wi 197 (by decide +kernel))⟩
theorem fk_2_2_2 : tn_FK "ThunderOwned$Sheet" 2 2 0 := ⟨_, tn_T2, rfl, by decide +kernel, rfl⟩
theorem fl_2_23 : tn_FL "ThunderOwned$Sheet" 23 2 3 := ⟨_, tn_T2, tn_ty2, by decide, rfl, by decide, tn_us2, tn_tk2, tn_nm2, rfl, Or.inl (tn_wi 199 (by decide +kernel))⟩
theorem fk_2_2_3 : tn_FK "ThunderOwned$Sheet" 2 3 0 := ⟨_, tn_T2, rfl, by decide +kernel, rfl⟩
theorem fl_3_7 : tn_FL "ThunderOwned$Stone" 7 3 0 := ⟨_, tn_T3, tn_ty3, by decide, rfl, by decide, tn_us3, tn_tk3, tn_nm3, rfl, Or.inl (tn_wi 147 (by decide +kernel))⟩
theorem fk_3_3_0 : tn_FK "ThunderOwned$Stone" 3 0 0 := ⟨_, tn_T3, rfl, by decide +kernel, rfl⟩
theorem fl_3_13 : tn_FL "ThunderOwned$Stone" 13 3 1 := ⟨_, tn_T3, tn_ty3, by decide, rfl, by decide, tn_us3, tn_tk3, tn_nm3, rfl, Or.inl (tn_wi 150 (by decide +kernel))⟩
theorem fk_3_3_1 : tn_FK "ThunderOwned$Stone" 3 1 1 := ⟨_, tn_T3, rfl, by decide +kernel, rfl⟩
theorem ml_4_25 : tn_ML "ThunderOwned$TextReader" 25 m_X1_empty.1 := Or.inr ⟨"ThunderOwned", tn_wni 275 (by decide +kernel)⟩
theorem fl_4_11 : tn_FL "ThunderOwned$TextReader" 11 4 1 := ⟨_, tn_T4, tn_ty4, by decide, rfl, by decide, tn_us4, tn_tk4, tn_nm4, rfl, Or.inl (tn_wi 280 (by decide +kernel))⟩
theorem fk_4_4_1 : tn_FK "ThunderOwned$TextReader" 4 1 0 := ⟨_, tn_T4, rfl, by decide +kernel, rfl⟩
theorem fl_4_15 : tn_FL "ThunderOwned$TextReader" 15 4 2 := ⟨_, tn_T4, tn_ty4, by decide, rfl, by decide, tn_us4, tn_tk4, tn_nm4, rfl, Or.inl (tn_wi 281 (by decide +kernel))⟩
theorem fk_4_4_2 : tn_FK "ThunderOwned$TextReader" 4 2 0 := ⟨_, tn_T4, rfl, by decide +kernel, rfl⟩
theorem fl_4_18 : tn_FL "ThunderOwned$TextReader" 18 4 3 := ⟨_, tn_T4, tn_ty4, by decide, rfl, by decide, tn_us4, tn_tk4, tn_nm4, rfl, Or.inl (tn_wi 282 (by decide +kernel))⟩
theorem fk_4_4_3 : tn_FK "ThunderOwned$TextReader" 4 3 0 := ⟨_, tn_T4, rfl, by decide +kernel, rfl⟩
theorem fl_4_21 : tn_FL "ThunderOwned$TextReader" 21 4 0 := ⟨_, tn_T4, tn_ty4, by decide, rfl, by decide, tn_us4, tn_tk4, tn_nm4, rfl, Or.inl (tn_wi 279 (by decide +kernel))⟩
theorem fk_4_4_0 : tn_FK "ThunderOwned$TextReader" 4 0 2 := ⟨_, tn_T4, rfl, rfl, rfl, Or.inl ⟨"ThunderOwned$Parish", by decide +kernel⟩⟩
theorem fo_4_21 : ∀ (C : String) (T : u_T), tn_cl[4]? = some (C, T, tn_N 4) → Cond.fieldLink "ThunderOwned$TextReader" 21 C (T 0).2.1 (T 0).2.2.1 ∈ tn_tbl := by
  intro C T h
  cases h
  exact tn_wi 279 (by decide +kernel)
theorem ml_4_30 : tn_ML "ThunderOwned$TextReader" 30 m_X4_goesOn.1 := Or.inl (tn_wi 296 (by decide +kernel))
theorem ml_4_37 : tn_ML "ThunderOwned$TextReader" 37 m_X5_isWithin.1 := Or.inr ⟨"ThunderOwned", tn_wni 300 (by decide +kernel)⟩
theorem ml_4_41 : tn_ML "ThunderOwned$TextReader" 41 m_X4_kindOfLetter.1 := Or.inl (tn_wi 301 (by decide +kernel))
theorem ml_4_45 : tn_ML "ThunderOwned$TextReader" 45 m_X4_takesSleep.1 := Or.inl (tn_wi 304 (by decide +kernel))
theorem ml_4_49 : tn_ML "ThunderOwned$TextReader" 49 m_X4_takesAfterHouse.1 := Or.inl (tn_wi 312 (by decide +kernel))
theorem ml_4_52 : tn_ML "ThunderOwned$TextReader" 52 m_X4_takesStone.1 := Or.inl (tn_wi 316 (by decide +kernel))
theorem fl_4_34 : tn_FL "ThunderOwned$TextReader" 34 1 4 := ⟨_, tn_T1, tn_ty1, by decide, rfl, by decide, tn_us1, tn_tk1, tn_nm1, rfl, Or.inr ⟨"ThunderOwned", tn_wni 169 (by decide +kernel)⟩⟩
theorem fk_4_1_4 : tn_FK "ThunderOwned$TextReader" 1 4 0 := ⟨_, tn_T1, rfl, by decide +kernel, rfl⟩
theorem ml_4_55 : tn_ML "ThunderOwned$TextReader" 55 m_X1_addHouse.1 := Or.inr ⟨"ThunderOwned", tn_wni 308 (by decide +kernel)⟩
theorem fl_4_59 : tn_FL "ThunderOwned$TextReader" 59 1 2 := ⟨_, tn_T1, tn_ty1, by decide, rfl, by decide, tn_us1, tn_tk1, tn_nm1, rfl, Or.inr ⟨"ThunderOwned", tn_wni 164 (by decide +kernel)⟩⟩
theorem ml_4_65 : tn_ML "ThunderOwned$TextReader" 65 m_X1_addStone.1 := Or.inr ⟨"ThunderOwned", tn_wni 320 (by decide +kernel)⟩
theorem fl_4_62 : tn_FL "ThunderOwned$TextReader" 62 1 3 := ⟨_, tn_T1, tn_ty1, by decide, rfl, by decide, tn_us1, tn_tk1, tn_nm1, rfl, Or.inr ⟨"ThunderOwned", tn_wni 166 (by decide +kernel)⟩⟩
theorem ml_5_11 : tn_ML "ThunderOwned" 11 m_X1_init.1 := Or.inr ⟨"ThunderOwned", tn_wni 103 (by decide +kernel)⟩
theorem ml_5_50 : tn_ML "ThunderOwned" 50 m_X2_init.1 := Or.inr ⟨"ThunderOwned", tn_wni 189 (by decide +kernel)⟩
theorem fl_5_12 : tn_FL "ThunderOwned" 12 5 0 := ⟨_, tn_T5, tn_ty5, by decide, rfl, by decide, tn_us5, tn_tk5, tn_nm5, rfl, Or.inl (tn_wi 210 (by decide +kernel))⟩
theorem fk_5_5_0 : tn_FK "ThunderOwned" 5 0 2 := ⟨_, tn_T5, rfl, rfl, rfl, Or.inl ⟨"ThunderOwned$Parish", by decide +kernel⟩⟩
theorem fo_5_12 : ∀ (C : String) (T : u_T), tn_cl[5]? = some (C, T, tn_N 5) → Cond.fieldLink "ThunderOwned" 12 C (T 0).2.1 (T 0).2.2.1 ∈ tn_tbl := by
  intro C T h
  cases h
  exact tn_wi 210 (by decide +kernel)
theorem fl_5_18 : tn_FL "ThunderOwned" 18 5 1 := ⟨_, tn_T5, tn_ty5, by decide, rfl, by decide, tn_us5, tn_tk5, tn_nm5, rfl, Or.inl (tn_wi 211 (by decide +kernel))⟩
theorem fk_5_5_1 : tn_FK "ThunderOwned" 5 1 2 := ⟨_, tn_T5, rfl, rfl, rfl, Or.inl ⟨"ThunderOwned$Parish", by decide +kernel⟩⟩
theorem fo_5_18 : ∀ (C : String) (T : u_T), tn_cl[5]? = some (C, T, tn_N 5) → Cond.fieldLink "ThunderOwned" 18 C (T 1).2.1 (T 1).2.2.1 ∈ tn_tbl := by
  intro C T h
  cases h
  exact tn_wi 211 (by decide +kernel)
theorem fl_5_23 : tn_FL "ThunderOwned" 23 5 2 := ⟨_, tn_T5, tn_ty5, by decide, rfl, by decide, tn_us5, tn_tk5, tn_nm5, rfl, Or.inl (tn_wi 212 (by decide +kernel))⟩
theorem fk_5_5_2 : tn_FK "ThunderOwned" 5 2 2 := ⟨_, tn_T5, rfl, rfl, rfl, Or.inr ⟨.object "ThunderOwned$Sheet", by decide +kernel⟩⟩
theorem fo_5_23 : ∀ (C : String) (T : u_T), tn_cl[5]? = some (C, T, tn_N 5) → Cond.fieldLink "ThunderOwned" 23 C (T 2).2.1 (T 2).2.2.1 ∈ tn_tbl := by
  intro C T h
  cases h
  exact tn_wi 212 (by decide +kernel)
theorem fl_5_27 : tn_FL "ThunderOwned" 27 5 3 := ⟨_, tn_T5, tn_ty5, by decide, rfl, by decide, tn_us5, tn_tk5, tn_nm5, rfl, Or.inl (tn_wi 213 (by decide +kernel))⟩
theorem fk_5_5_3 : tn_FK "ThunderOwned" 5 3 2 := ⟨_, tn_T5, rfl, rfl, rfl, Or.inr ⟨.int, by decide +kernel⟩⟩
theorem fo_5_27 : ∀ (C : String) (T : u_T), tn_cl[5]? = some (C, T, tn_N 5) → Cond.fieldLink "ThunderOwned" 27 C (T 3).2.1 (T 3).2.2.1 ∈ tn_tbl := by
  intro C T h
  cases h
  exact tn_wi 213 (by decide +kernel)
theorem fl_5_31 : tn_FL "ThunderOwned" 31 5 4 := ⟨_, tn_T5, tn_ty5, by decide, rfl, by decide, tn_us5, tn_tk5, tn_nm5, rfl, Or.inl (tn_wi 214 (by decide +kernel))⟩
theorem fk_5_5_4 : tn_FK "ThunderOwned" 5 4 2 := ⟨_, tn_T5, rfl, rfl, rfl, Or.inr ⟨.int, by decide +kernel⟩⟩
theorem fo_5_31 : ∀ (C : String) (T : u_T), tn_cl[5]? = some (C, T, tn_N 5) → Cond.fieldLink "ThunderOwned" 31 C (T 4).2.1 (T 4).2.2.1 ∈ tn_tbl := by
  intro C T h
  cases h
  exact tn_wi 214 (by decide +kernel)
theorem fl_5_34 : tn_FL "ThunderOwned" 34 5 5 := ⟨_, tn_T5, tn_ty5, by decide, rfl, by decide, tn_us5, tn_tk5, tn_nm5, rfl, Or.inl (tn_wi 215 (by decide +kernel))⟩
theorem fk_5_5_5 : tn_FK "ThunderOwned" 5 5 2 := ⟨_, tn_T5, rfl, rfl, rfl, Or.inr ⟨.int, by decide +kernel⟩⟩
theorem fo_5_34 : ∀ (C : String) (T : u_T), tn_cl[5]? = some (C, T, tn_N 5) → Cond.fieldLink "ThunderOwned" 34 C (T 5).2.1 (T 5).2.2.1 ∈ tn_tbl := by
  intro C T h
  cases h
  exact tn_wi 215 (by decide +kernel)
theorem fl_5_37 : tn_FL "ThunderOwned" 37 5 6 := ⟨_, tn_T5, tn_ty5, by decide, rfl, by decide, tn_us5, tn_tk5, tn_nm5, rfl, Or.inl (tn_wi 216 (by decide +kernel))⟩
theorem fk_5_5_6 : tn_FK "ThunderOwned" 5 6 0 := ⟨_, tn_T5, rfl, by decide +kernel, rfl⟩
theorem fl_5_41 : tn_FL "ThunderOwned" 41 5 7 := ⟨_, tn_T5, tn_ty5, by decide, rfl, by decide, tn_us5, tn_tk5, tn_nm5, rfl, Or.inl (tn_wi 217 (by decide +kernel))⟩
theorem fk_5_5_7 : tn_FK "ThunderOwned" 5 7 0 := ⟨_, tn_T5, rfl, by decide +kernel, rfl⟩
theorem fl_5_44 : tn_FL "ThunderOwned" 44 5 8 := ⟨_, tn_T5, tn_ty5, by decide, rfl, by decide, tn_us5, tn_tk5, tn_nm5, rfl, Or.inl (tn_wi 218 (by decide +kernel))⟩
theorem fk_5_5_8 : tn_FK "ThunderOwned" 5 8 0 := ⟨_, tn_T5, rfl, by decide +kernel, rfl⟩
theorem fl_5_47 : tn_FL "ThunderOwned" 47 5 9 := ⟨_, tn_T5, tn_ty5, by decide, rfl, by decide, tn_us5, tn_tk5, tn_nm5, rfl, Or.inl (tn_wi 219 (by decide +kernel))⟩
theorem fk_5_5_9 : tn_FK "ThunderOwned" 5 9 0 := ⟨_, tn_T5, rfl, by decide +kernel, rfl⟩
theorem ml_5_51 : tn_ML "ThunderOwned" 51 m_X5_isSheet.1 := Or.inl (tn_wi 245 (by decide +kernel))
theorem ml_5_55 : tn_ML "ThunderOwned" 55 m_X5_isLane.1 := Or.inl (tn_wi 251 (by decide +kernel))
theorem ml_5_58 : tn_ML "ThunderOwned" 58 m_X5_faultOfCells.1 := Or.inl (tn_wi 254 (by decide +kernel))
theorem ml_5_62 : tn_ML "ThunderOwned" 62 m_X5_faulted.1 := Or.inl (tn_wi 261 (by decide +kernel))
theorem ml_5_66 : tn_ML "ThunderOwned" 66 m_X5_firstFaultOfText.1 := Or.inl (tn_wi 265 (by decide +kernel))
theorem ml_5_70 : tn_ML "ThunderOwned" 70 m_X1_become.1 := Or.inr ⟨"ThunderOwned", tn_wni 328 (by decide +kernel)⟩
theorem fl_5_74 : tn_FL "ThunderOwned" 74 1 2 := ⟨_, tn_T1, tn_ty1, by decide, rfl, by decide, tn_us1, tn_tk1, tn_nm1, rfl, Or.inr ⟨"ThunderOwned", tn_wni 163 (by decide +kernel)⟩⟩
theorem ml_5_77 : tn_ML "ThunderOwned" 77 m_X1_hasHouse.1 := Or.inr ⟨"ThunderOwned", tn_wni 344 (by decide +kernel)⟩
theorem ml_5_95 : tn_ML "ThunderOwned" 95 m_X0_weight.1 := Or.inr ⟨"ThunderOwned", tn_wni 348 (by decide +kernel)⟩
theorem ml_5_103 : tn_ML "ThunderOwned" 103 m_X0_rankles.1 := Or.inr ⟨"ThunderOwned", tn_wni 352 (by decide +kernel)⟩
theorem fl_5_80 : tn_FL "ThunderOwned" 80 1 0 := ⟨_, tn_T1, tn_ty1, by decide, rfl, by decide, tn_us1, tn_tk1, tn_nm1, rfl, Or.inr ⟨"ThunderOwned", tn_wni 159 (by decide +kernel)⟩⟩
theorem fl_5_84 : tn_FL "ThunderOwned" 84 0 0 := ⟨_, tn_T0, tn_ty0, by decide, rfl, by decide, tn_us0, tn_tk0, tn_nm0, rfl, Or.inr ⟨"ThunderOwned", tn_wni 117 (by decide +kernel)⟩⟩
theorem fl_5_89 : tn_FL "ThunderOwned" 89 0 1 := ⟨_, tn_T0, tn_ty0, by decide, rfl, by decide, tn_us0, tn_tk0, tn_nm0, rfl, Or.inr ⟨"ThunderOwned", tn_wni 120 (by decide +kernel)⟩⟩
theorem fl_5_92 : tn_FL "ThunderOwned" 92 0 2 := ⟨_, tn_T0, tn_ty0, by decide, rfl, by decide, tn_us0, tn_tk0, tn_nm0, rfl, Or.inr ⟨"ThunderOwned", tn_wni 123 (by decide +kernel)⟩⟩
theorem fl_5_99 : tn_FL "ThunderOwned" 99 0 4 := ⟨_, tn_T0, tn_ty0, by decide, rfl, by decide, tn_us0, tn_tk0, tn_nm0, rfl, Or.inr ⟨"ThunderOwned", tn_wni 129 (by decide +kernel)⟩⟩
theorem fl_5_107 : tn_FL "ThunderOwned" 107 0 3 := ⟨_, tn_T0, tn_ty0, by decide, rfl, by decide, tn_us0, tn_tk0, tn_nm0, rfl, Or.inr ⟨"ThunderOwned", tn_wni 126 (by decide +kernel)⟩⟩
theorem ml_5_110 : tn_ML "ThunderOwned" 110 m_X1_hasStone.1 := Or.inr ⟨"ThunderOwned", tn_wni 361 (by decide +kernel)⟩
theorem fl_5_113 : tn_FL "ThunderOwned" 113 1 1 := ⟨_, tn_T1, tn_ty1, by decide, rfl, by decide, tn_us1, tn_tk1, tn_nm1, rfl, Or.inr ⟨"ThunderOwned", tn_wni 161 (by decide +kernel)⟩⟩
theorem fl_5_117 : tn_FL "ThunderOwned" 117 3 0 := ⟨_, tn_T3, tn_ty3, by decide, rfl, by decide, tn_us3, tn_tk3, tn_nm3, rfl, Or.inr ⟨"ThunderOwned", tn_wni 148 (by decide +kernel)⟩⟩
theorem fl_5_122 : tn_FL "ThunderOwned" 122 3 1 := ⟨_, tn_T3, tn_ty3, by decide, rfl, by decide, tn_us3, tn_tk3, tn_nm3, rfl, Or.inr ⟨"ThunderOwned", tn_wni 151 (by decide +kernel)⟩⟩
theorem ml_5_125 : tn_ML "ThunderOwned" 125 m_X5_isWithin.1 := Or.inl (tn_wi 248 (by decide +kernel))
theorem fk_5_0_2 : tn_FK "ThunderOwned" 0 2 0 := ⟨_, tn_T0, rfl, by decide +kernel, rfl⟩
theorem ml_5_129 : tn_ML "ThunderOwned" 129 m_X0_ownUp.1 := Or.inr ⟨"ThunderOwned", tn_wni 373 (by decide +kernel)⟩
theorem ml_5_132 : tn_ML "ThunderOwned" 132 m_X1_voice.1 := Or.inr ⟨"ThunderOwned", tn_wni 382 (by decide +kernel)⟩
theorem fk_5_3_1 : tn_FK "ThunderOwned" 3 1 1 := ⟨_, tn_T3, rfl, by decide +kernel, rfl⟩
theorem ml_5_135 : tn_ML "ThunderOwned" 135 m_X5_hasParish.1 := Or.inl (tn_wi 392 (by decide +kernel))
theorem ml_5_138 : tn_ML "ThunderOwned" 138 m_X1_passNights.1 := Or.inr ⟨"ThunderOwned", tn_wni 396 (by decide +kernel)⟩
theorem ml_5_142 : tn_ML "ThunderOwned" 142 m_X5_isAskedOfDay.1 := Or.inl (tn_wi 424 (by decide +kernel))
theorem ml_5_145 : tn_ML "ThunderOwned" 145 m_X5_areActs.1 := Or.inl (tn_wi 427 (by decide +kernel))
theorem ml_5_149 : tn_ML "ThunderOwned" 149 m_X5_firstWrongOfDay.1 := Or.inl (tn_wi 430 (by decide +kernel))
theorem ml_5_152 : tn_ML "ThunderOwned" 152 m_X5_afterDay.1 := Or.inl (tn_wi 450 (by decide +kernel))
theorem ml_5_158 : tn_ML "ThunderOwned" 158 m_X1_hatsLost.1 := Or.inr ⟨"ThunderOwned", tn_wni 454 (by decide +kernel)⟩
theorem fl_5_155 : tn_FL "ThunderOwned" 155 1 5 := ⟨_, tn_T1, tn_ty1, by decide, rfl, by decide, tn_us1, tn_tk1, tn_nm1, rfl, Or.inr ⟨"ThunderOwned", tn_wni 172 (by decide +kernel)⟩⟩
theorem ml_5_161 : tn_ML "ThunderOwned" 161 m_X1_nightsUntilQuiet.1 := Or.inr ⟨"ThunderOwned", tn_wni 467 (by decide +kernel)⟩
theorem ml_5_164 : tn_ML "ThunderOwned" 164 m_X1_setCount.1 := Or.inr ⟨"ThunderOwned", tn_wni 478 (by decide +kernel)⟩
theorem ml_5_167 : tn_ML "ThunderOwned" 167 m_J_bitCount.1 := Or.inl (tn_wi 482 (by decide +kernel))
theorem ml_5_172 : tn_ML "ThunderOwned" 172 m_X1_doesSetRankle.1 := Or.inr ⟨"ThunderOwned", tn_wni 488 (by decide +kernel)⟩
theorem ml_5_175 : tn_ML "ThunderOwned" 175 m_X5_isQuietIfOwned.1 := Or.inl (tn_wi 492 (by decide +kernel))
theorem ml_5_179 : tn_ML "ThunderOwned" 179 m_X1_weightOfSet.1 := Or.inr ⟨"ThunderOwned", tn_wni 504 (by decide +kernel)⟩
theorem ml_5_182 : tn_ML "ThunderOwned" 182 m_X5_nightsIfChosen.1 := Or.inl (tn_wi 512 (by decide +kernel))
theorem ml_5_186 : tn_ML "ThunderOwned" 186 m_X5_isContent.1 := Or.inl (tn_wi 516 (by decide +kernel))
theorem ml_5_189 : tn_ML "ThunderOwned" 189 m_J_min.1 := Or.inl (tn_wi 528 (by decide +kernel))
theorem ml_5_195 : tn_ML "ThunderOwned" 195 m_X5_doReadingsHoldOfTrial.1 := Or.inl (tn_wi 537 (by decide +kernel))
theorem fk_5_0_0 : tn_FK "ThunderOwned" 0 0 0 := ⟨_, tn_T0, rfl, by decide +kernel, rfl⟩
theorem fk_5_0_1 : tn_FK "ThunderOwned" 0 1 0 := ⟨_, tn_T0, rfl, by decide +kernel, rfl⟩
theorem fl_5_198 : tn_FL "ThunderOwned" 198 1 4 := ⟨_, tn_T1, tn_ty1, by decide, rfl, by decide, tn_us1, tn_tk1, tn_nm1, rfl, Or.inr ⟨"ThunderOwned", tn_wni 170 (by decide +kernel)⟩⟩
theorem fk_5_1_4 : tn_FK "ThunderOwned" 1 4 0 := ⟨_, tn_T1, rfl, by decide +kernel, rfl⟩
theorem ml_5_203 : tn_ML "ThunderOwned" 203 m_X2_renew.1 := Or.inr ⟨"ThunderOwned", tn_wni 570 (by decide +kernel)⟩
theorem fl_5_207 : tn_FL "ThunderOwned" 207 2 1 := ⟨_, tn_T2, tn_ty2, by decide, rfl, by decide, tn_us2, tn_tk2, tn_nm2, rfl, Or.inr ⟨"ThunderOwned", tn_wni 196 (by decide +kernel)⟩⟩
theorem fk_5_2_1 : tn_FK "ThunderOwned" 2 1 1 := ⟨_, tn_T2, rfl, by decide +kernel, rfl⟩
theorem ml_5_210 : tn_ML "ThunderOwned" 210 m_X2_hasCells.1 := Or.inr ⟨"ThunderOwned", tn_wni 257 (by decide +kernel)⟩
theorem ml_5_216 : tn_ML "ThunderOwned" 216 m_X2_cutToLane.1 := Or.inr ⟨"ThunderOwned", tn_wni 582 (by decide +kernel)⟩
theorem fl_5_213 : tn_FL "ThunderOwned" 213 2 0 := ⟨_, tn_T2, tn_ty2, by decide, rfl, by decide, tn_us2, tn_tk2, tn_nm2, rfl, Or.inr ⟨"ThunderOwned", tn_wni 194 (by decide +kernel)⟩⟩
theorem fl_5_219 : tn_FL "ThunderOwned" 219 2 2 := ⟨_, tn_T2, tn_ty2, by decide, rfl, by decide, tn_us2, tn_tk2, tn_nm2, rfl, Or.inr ⟨"ThunderOwned", tn_wni 198 (by decide +kernel)⟩⟩
theorem ml_5_228 : tn_ML "ThunderOwned" 228 m_X5_toldAsDouble.1 := Or.inl (tn_wi 601 (by decide +kernel))
theorem ml_5_232 : tn_ML "ThunderOwned" 232 m_X5_toldAsBrooding.1 := Or.inl (tn_wi 609 (by decide +kernel))
theorem ml_5_235 : tn_ML "ThunderOwned" 235 m_X5_toldAsPlain.1 := Or.inl (tn_wi 613 (by decide +kernel))
theorem ml_5_238 : tn_ML "ThunderOwned" 238 m_X5_knockedAsDouble.1 := Or.inl (tn_wi 621 (by decide +kernel))
theorem ml_5_241 : tn_ML "ThunderOwned" 241 m_X5_knockedAsLent.1 := Or.inl (tn_wi 625 (by decide +kernel))
theorem fl_5_244 : tn_FL "ThunderOwned" 244 1 3 := ⟨_, tn_T1, tn_ty1, by decide, rfl, by decide, tn_us1, tn_tk1, tn_nm1, rfl, Or.inr ⟨"ThunderOwned", tn_wni 167 (by decide +kernel)⟩⟩
theorem ml_5_249 : tn_ML "ThunderOwned" 249 m_X4_init.1 := Or.inr ⟨"ThunderOwned", tn_wni 271 (by decide +kernel)⟩
theorem ml_5_251 : tn_ML "ThunderOwned" 251 m_X4_takes.1 := Or.inr ⟨"ThunderOwned", tn_wni 292 (by decide +kernel)⟩
theorem ml_5_254 : tn_ML "ThunderOwned" 254 m_X4_mayEnd.1 := Or.inr ⟨"ThunderOwned", tn_wni 324 (by decide +kernel)⟩
theorem ml_5_257 : tn_ML "ThunderOwned" 257 m_X1_acts.1 := Or.inr ⟨"ThunderOwned", tn_wni 434 (by decide +kernel)⟩
theorem ml_5_260 : tn_ML "ThunderOwned" 260 m_X1_ranklingSet.1 := Or.inr ⟨"ThunderOwned", tn_wni 458 (by decide +kernel)⟩
theorem ml_5_263 : tn_ML "ThunderOwned" 263 m_X1_ownUpAll.1 := Or.inr ⟨"ThunderOwned", tn_wni 496 (by decide +kernel)⟩
theorem ml_5_266 : tn_ML "ThunderOwned" 266 m_X5_painOfChoice.1 := Or.inl (tn_wi 520 (by decide +kernel))
theorem ml_5_269 : tn_ML "ThunderOwned" 269 m_X5_lastNightRead.1 := Or.inl (tn_wi 541 (by decide +kernel))
theorem ml_5_272 : tn_ML "ThunderOwned" 272 m_X5_isVoiceAsRead.1 := Or.inl (tn_wi 548 (by decide +kernel))
theorem ml_5_275 : tn_ML "ThunderOwned" 275 m_X1_passNight.1 := Or.inr ⟨"ThunderOwned", tn_wni 552 (by decide +kernel)⟩
theorem ml_5_278 : tn_ML "ThunderOwned" 278 m_J_max.1 := Or.inl (tn_wi 545 (by decide +kernel))
theorem ml_5_281 : tn_ML "ThunderOwned" 281 m_X5_leaveInTrace.1 := Or.inl (tn_wi 605 (by decide +kernel))
theorem fl_6_9 : tn_FL "ThunderOwnedModel" 9 6 2 := ⟨_, tn_T6, tn_ty6, by decide, rfl, by decide, tn_us6, tn_tk6, tn_nm6, rfl, Or.inl (tn_wi 653 (by decide +kernel))⟩
theorem fk_6_6_2 : tn_FK "ThunderOwnedModel" 6 2 2 := ⟨_, tn_T6, rfl, rfl, rfl, Or.inr ⟨.int, by decide +kernel⟩⟩
theorem fo_6_9 : ∀ (C : String) (T : u_T), tn_cl[6]? = some (C, T, tn_N 6) → Cond.fieldLink "ThunderOwnedModel" 9 C (T 2).2.1 (T 2).2.2.1 ∈ tn_tbl := by
  intro C T h
  cases h
  exact tn_wi 653 (by decide +kernel)
theorem fl_6_13 : tn_FL "ThunderOwnedModel" 13 6 3 := ⟨_, tn_T6, tn_ty6, by decide, rfl, by decide, tn_us6, tn_tk6, tn_nm6, rfl, Or.inl (tn_wi 654 (by decide +kernel))⟩
theorem fk_6_6_3 : tn_FK "ThunderOwnedModel" 6 3 2 := ⟨_, tn_T6, rfl, rfl, rfl, Or.inr ⟨.int, by decide +kernel⟩⟩
theorem fo_6_13 : ∀ (C : String) (T : u_T), tn_cl[6]? = some (C, T, tn_N 6) → Cond.fieldLink "ThunderOwnedModel" 13 C (T 3).2.1 (T 3).2.2.1 ∈ tn_tbl := by
  intro C T h
  cases h
  exact tn_wi 654 (by decide +kernel)
theorem fl_6_16 : tn_FL "ThunderOwnedModel" 16 6 4 := ⟨_, tn_T6, tn_ty6, by decide, rfl, by decide, tn_us6, tn_tk6, tn_nm6, rfl, Or.inl (tn_wi 655 (by decide +kernel))⟩
theorem fk_6_6_4 : tn_FK "ThunderOwnedModel" 6 4 2 := ⟨_, tn_T6, rfl, rfl, rfl, Or.inr ⟨.int, by decide +kernel⟩⟩
theorem fo_6_16 : ∀ (C : String) (T : u_T), tn_cl[6]? = some (C, T, tn_N 6) → Cond.fieldLink "ThunderOwnedModel" 16 C (T 4).2.1 (T 4).2.2.1 ∈ tn_tbl := by
  intro C T h
  cases h
  exact tn_wi 655 (by decide +kernel)
theorem fl_6_19 : tn_FL "ThunderOwnedModel" 19 6 13 := ⟨_, tn_T6, tn_ty6, by decide, rfl, by decide, tn_us6, tn_tk6, tn_nm6, rfl, Or.inl (tn_wi 664 (by decide +kernel))⟩
theorem fk_6_6_13 : tn_FK "ThunderOwnedModel" 6 13 2 := ⟨_, tn_T6, rfl, rfl, rfl, Or.inr ⟨.int, by decide +kernel⟩⟩
theorem fo_6_19 : ∀ (C : String) (T : u_T), tn_cl[6]? = some (C, T, tn_N 6) → Cond.fieldLink "ThunderOwnedModel" 19 C (T 13).2.1 (T 13).2.2.1 ∈ tn_tbl := by
  intro C T h
  cases h
  exact tn_wi 664 (by decide +kernel)
theorem fl_6_22 : tn_FL "ThunderOwnedModel" 22 6 14 := ⟨_, tn_T6, tn_ty6, by decide, rfl, by decide, tn_us6, tn_tk6, tn_nm6, rfl, Or.inl (tn_wi 665 (by decide +kernel))⟩
theorem fk_6_6_14 : tn_FK "ThunderOwnedModel" 6 14 2 := ⟨_, tn_T6, rfl, rfl, rfl, Or.inr ⟨.int, by decide +kernel⟩⟩
theorem fo_6_22 : ∀ (C : String) (T : u_T), tn_cl[6]? = some (C, T, tn_N 6) → Cond.fieldLink "ThunderOwnedModel" 22 C (T 14).2.1 (T 14).2.2.1 ∈ tn_tbl := by
  intro C T h
  cases h
  exact tn_wi 665 (by decide +kernel)
theorem fl_6_25 : tn_FL "ThunderOwnedModel" 25 6 15 := ⟨_, tn_T6, tn_ty6, by decide, rfl, by decide, tn_us6, tn_tk6, tn_nm6, rfl, Or.inl (tn_wi 666 (by decide +kernel))⟩
theorem fk_6_6_15 : tn_FK "ThunderOwnedModel" 6 15 2 := ⟨_, tn_T6, rfl, rfl, rfl, Or.inr ⟨.int, by decide +kernel⟩⟩
theorem fo_6_25 : ∀ (C : String) (T : u_T), tn_cl[6]? = some (C, T, tn_N 6) → Cond.fieldLink "ThunderOwnedModel" 25 C (T 15).2.1 (T 15).2.2.1 ∈ tn_tbl := by
  intro C T h
  cases h
  exact tn_wi 666 (by decide +kernel)
theorem fl_6_28 : tn_FL "ThunderOwnedModel" 28 6 16 := ⟨_, tn_T6, tn_ty6, by decide, rfl, by decide, tn_us6, tn_tk6, tn_nm6, rfl, Or.inl (tn_wi 667 (by decide +kernel))⟩
theorem fk_6_6_16 : tn_FK "ThunderOwnedModel" 6 16 2 := ⟨_, tn_T6, rfl, rfl, rfl, Or.inr ⟨.int, by decide +kernel⟩⟩
theorem fo_6_28 : ∀ (C : String) (T : u_T), tn_cl[6]? = some (C, T, tn_N 6) → Cond.fieldLink "ThunderOwnedModel" 28 C (T 16).2.1 (T 16).2.2.1 ∈ tn_tbl := by
  intro C T h
  cases h
  exact tn_wi 667 (by decide +kernel)
theorem fl_6_31 : tn_FL "ThunderOwnedModel" 31 6 17 := ⟨_, tn_T6, tn_ty6, by decide, rfl, by decide, tn_us6, tn_tk6, tn_nm6, rfl, Or.inl (tn_wi 668 (by decide +kernel))⟩
theorem fk_6_6_17 : tn_FK "ThunderOwnedModel" 6 17 2 := ⟨_, tn_T6, rfl, rfl, rfl, Or.inr ⟨.int, by decide +kernel⟩⟩
theorem fo_6_31 : ∀ (C : String) (T : u_T), tn_cl[6]? = some (C, T, tn_N 6) → Cond.fieldLink "ThunderOwnedModel" 31 C (T 17).2.1 (T 17).2.2.1 ∈ tn_tbl := by
  intro C T h
  cases h
  exact tn_wi 668 (by decide +kernel)
theorem fl_6_34 : tn_FL "ThunderOwnedModel" 34 6 22 := ⟨_, tn_T6, tn_ty6, by decide, rfl, by decide, tn_us6, tn_tk6, tn_nm6, rfl, Or.inl (tn_wi 673 (by decide +kernel))⟩
theorem fk_6_6_22 : tn_FK "ThunderOwnedModel" 6 22 2 := ⟨_, tn_T6, rfl, rfl, rfl, Or.inr ⟨.int, by decide +kernel⟩⟩
theorem fo_6_34 : ∀ (C : String) (T : u_T), tn_cl[6]? = some (C, T, tn_N 6) → Cond.fieldLink "ThunderOwnedModel" 34 C (T 22).2.1 (T 22).2.2.1 ∈ tn_tbl := by
  intro C T h
  cases h
  exact tn_wi 673 (by decide +kernel)
theorem fl_6_37 : tn_FL "ThunderOwnedModel" 37 6 23 := ⟨_, tn_T6, tn_ty6, by decide, rfl, by decide, tn_us6, tn_tk6, tn_nm6, rfl, Or.inl (tn_wi 674 (by decide +kernel))⟩
theorem fk_6_6_23 : tn_FK "ThunderOwnedModel" 6 23 2 := ⟨_, tn_T6, rfl, rfl, rfl, Or.inr ⟨.int, by decide +kernel⟩⟩
theorem fo_6_37 : ∀ (C : String) (T : u_T), tn_cl[6]? = some (C, T, tn_N 6) → Cond.fieldLink "ThunderOwnedModel" 37 C (T 23).2.1 (T 23).2.2.1 ∈ tn_tbl := by
  intro C T h
  cases h
  exact tn_wi 674 (by decide +kernel)
theorem fl_6_40 : tn_FL "ThunderOwnedModel" 40 6 24 := ⟨_, tn_T6, tn_ty6, by decide, rfl, by decide, tn_us6, tn_tk6, tn_nm6, rfl, Or.inl (tn_wi 675 (by decide +kernel))⟩
theorem fk_6_6_24 : tn_FK "ThunderOwnedModel" 6 24 2 := ⟨_, tn_T6, rfl, rfl, rfl, Or.inr ⟨.int, by decide +kernel⟩⟩
theorem fo_6_40 : ∀ (C : String) (T : u_T), tn_cl[6]? = some (C, T, tn_N 6) → Cond.fieldLink "ThunderOwnedModel" 40 C (T 24).2.1 (T 24).2.2.1 ∈ tn_tbl := by
  intro C T h
  cases h
  exact tn_wi 675 (by decide +kernel)
theorem fl_6_43 : tn_FL "ThunderOwnedModel" 43 6 25 := ⟨_, tn_T6, tn_ty6, by decide, rfl, by decide, tn_us6, tn_tk6, tn_nm6, rfl, Or.inl (tn_wi 676 (by decide +kernel))⟩
theorem fk_6_6_25 : tn_FK "ThunderOwnedModel" 6 25 2 := ⟨_, tn_T6, rfl, rfl, rfl, Or.inr ⟨.int, by decide +kernel⟩⟩
theorem fo_6_43 : ∀ (C : String) (T : u_T), tn_cl[6]? = some (C, T, tn_N 6) → Cond.fieldLink "ThunderOwnedModel" 43 C (T 25).2.1 (T 25).2.2.1 ∈ tn_tbl := by
  intro C T h
  cases h
  exact tn_wi 676 (by decide +kernel)
theorem fl_6_46 : tn_FL "ThunderOwnedModel" 46 6 27 := ⟨_, tn_T6, tn_ty6, by decide, rfl, by decide, tn_us6, tn_tk6, tn_nm6, rfl, Or.inl (tn_wi 678 (by decide +kernel))⟩
theorem fk_6_6_27 : tn_FK "ThunderOwnedModel" 6 27 2 := ⟨_, tn_T6, rfl, rfl, rfl, Or.inr ⟨.int, by decide +kernel⟩⟩
theorem fo_6_46 : ∀ (C : String) (T : u_T), tn_cl[6]? = some (C, T, tn_N 6) → Cond.fieldLink "ThunderOwnedModel" 46 C (T 27).2.1 (T 27).2.2.1 ∈ tn_tbl := by
  intro C T h
  cases h
  exact tn_wi 678 (by decide +kernel)
theorem fl_6_49 : tn_FL "ThunderOwnedModel" 49 6 28 := ⟨_, tn_T6, tn_ty6, by decide, rfl, by decide, tn_us6, tn_tk6, tn_nm6, rfl, Or.inl (tn_wi 679 (by decide +kernel))⟩
theorem fk_6_6_28 : tn_FK "ThunderOwnedModel" 6 28 2 := ⟨_, tn_T6, rfl, rfl, rfl, Or.inr ⟨.int, by decide +kernel⟩⟩
theorem fo_6_49 : ∀ (C : String) (T : u_T), tn_cl[6]? = some (C, T, tn_N 6) → Cond.fieldLink "ThunderOwnedModel" 49 C (T 28).2.1 (T 28).2.2.1 ∈ tn_tbl := by
  intro C T h
  cases h
  exact tn_wi 679 (by decide +kernel)
theorem fl_6_52 : tn_FL "ThunderOwnedModel" 52 6 0 := ⟨_, tn_T6, tn_ty6, by decide, rfl, by decide, tn_us6, tn_tk6, tn_nm6, rfl, Or.inl (tn_wi 651 (by decide +kernel))⟩
theorem fk_6_6_0 : tn_FK "ThunderOwnedModel" 6 0 0 := ⟨_, tn_T6, rfl, by decide +kernel, rfl⟩
theorem ml_6_58 : tn_ML "ThunderOwnedModel" 58 m_X6_within.1 := Or.inl (tn_wi 746 (by decide +kernel))
theorem fl_6_62 : tn_FL "ThunderOwnedModel" 62 6 5 := ⟨_, tn_T6, tn_ty6, by decide, rfl, by decide, tn_us6, tn_tk6, tn_nm6, rfl, Or.inl (tn_wi 656 (by decide +kernel))⟩
theorem fl_6_65 : tn_FL "ThunderOwnedModel" 65 6 6 := ⟨_, tn_T6, tn_ty6, by decide, rfl, by decide, tn_us6, tn_tk6, tn_nm6, rfl, Or.inl (tn_wi 657 (by decide +kernel))⟩
theorem fl_6_68 : tn_FL "ThunderOwnedModel" 68 6 18 := ⟨_, tn_T6, tn_ty6, by decide, rfl, by decide, tn_us6, tn_tk6, tn_nm6, rfl, Or.inl (tn_wi 669 (by decide +kernel))⟩
theorem fk_6_6_18 : tn_FK "ThunderOwnedModel" 6 18 0 := ⟨_, tn_T6, rfl, by decide +kernel, rfl⟩
theorem ml_6_71 : tn_ML "ThunderOwnedModel" 71 m_X6_isSheet.1 := Or.inl (tn_wi 743 (by decide +kernel))
theorem ml_6_75 : tn_ML "ThunderOwnedModel" 75 m_X6_isSort.1 := Or.inl (tn_wi 749 (by decide +kernel))
theorem ml_6_78 : tn_ML "ThunderOwnedModel" 78 m_X6_against.1 := Or.inl (tn_wi 752 (by decide +kernel))
theorem ml_6_82 : tn_ML "ThunderOwnedModel" 82 m_X6_fails.1 := Or.inl (tn_wi 756 (by decide +kernel))
theorem ml_6_86 : tn_ML "ThunderOwnedModel" 86 m_X6_readParish.1 := Or.inl (tn_wi 760 (by decide +kernel))
theorem ml_6_89 : tn_ML "ThunderOwnedModel" 89 m_X6_takeParish.1 := Or.inl (tn_wi 780 (by decide +kernel))
theorem fl_6_92 : tn_FL "ThunderOwnedModel" 92 6 19 := ⟨_, tn_T6, tn_ty6, by decide, rfl, by decide, tn_us6, tn_tk6, tn_nm6, rfl, Or.inl (tn_wi 670 (by decide +kernel))⟩
theorem fk_6_6_5 : tn_FK "ThunderOwnedModel" 6 5 0 := ⟨_, tn_T6, rfl, by decide +kernel, rfl⟩
theorem fl_6_95 : tn_FL "ThunderOwnedModel" 95 6 20 := ⟨_, tn_T6, tn_ty6, by decide, rfl, by decide, tn_us6, tn_tk6, tn_nm6, rfl, Or.inl (tn_wi 671 (by decide +kernel))⟩
theorem fk_6_6_6 : tn_FK "ThunderOwnedModel" 6 6 0 := ⟨_, tn_T6, rfl, by decide +kernel, rfl⟩
theorem fl_6_98 : tn_FL "ThunderOwnedModel" 98 6 21 := ⟨_, tn_T6, tn_ty6, by decide, rfl, by decide, tn_us6, tn_tk6, tn_nm6, rfl, Or.inl (tn_wi 672 (by decide +kernel))⟩
theorem fl_6_101 : tn_FL "ThunderOwnedModel" 101 6 7 := ⟨_, tn_T6, tn_ty6, by decide, rfl, by decide, tn_us6, tn_tk6, tn_nm6, rfl, Or.inl (tn_wi 658 (by decide +kernel))⟩
theorem fk_6_6_7 : tn_FK "ThunderOwnedModel" 6 7 0 := ⟨_, tn_T6, rfl, by decide +kernel, rfl⟩
theorem fl_6_104 : tn_FL "ThunderOwnedModel" 104 6 11 := ⟨_, tn_T6, tn_ty6, by decide, rfl, by decide, tn_us6, tn_tk6, tn_nm6, rfl, Or.inl (tn_wi 662 (by decide +kernel))⟩
theorem fk_6_6_11 : tn_FK "ThunderOwnedModel" 6 11 0 := ⟨_, tn_T6, rfl, by decide +kernel, rfl⟩
theorem fl_6_107 : tn_FL "ThunderOwnedModel" 107 6 12 := ⟨_, tn_T6, tn_ty6, by decide, rfl, by decide, tn_us6, tn_tk6, tn_nm6, rfl, Or.inl (tn_wi 663 (by decide +kernel))⟩
theorem fk_6_6_12 : tn_FK "ThunderOwnedModel" 6 12 0 := ⟨_, tn_T6, rfl, by decide +kernel, rfl⟩
theorem fl_6_110 : tn_FL "ThunderOwnedModel" 110 6 8 := ⟨_, tn_T6, tn_ty6, by decide, rfl, by decide, tn_us6, tn_tk6, tn_nm6, rfl, Or.inl (tn_wi 659 (by decide +kernel))⟩
theorem fk_6_6_8 : tn_FK "ThunderOwnedModel" 6 8 0 := ⟨_, tn_T6, rfl, by decide +kernel, rfl⟩
theorem fl_6_113 : tn_FL "ThunderOwnedModel" 113 6 9 := ⟨_, tn_T6, tn_ty6, by decide, rfl, by decide, tn_us6, tn_tk6, tn_nm6, rfl, Or.inl (tn_wi 660 (by decide +kernel))⟩
theorem fk_6_6_9 : tn_FK "ThunderOwnedModel" 6 9 0 := ⟨_, tn_T6, rfl, by decide +kernel, rfl⟩
theorem fl_6_116 : tn_FL "ThunderOwnedModel" 116 6 10 := ⟨_, tn_T6, tn_ty6, by decide, rfl, by decide, tn_us6, tn_tk6, tn_nm6, rfl, Or.inl (tn_wi 661 (by decide +kernel))⟩
theorem fk_6_6_10 : tn_FK "ThunderOwnedModel" 6 10 0 := ⟨_, tn_T6, rfl, by decide +kernel, rfl⟩
theorem fl_6_119 : tn_FL "ThunderOwnedModel" 119 6 26 := ⟨_, tn_T6, tn_ty6, by decide, rfl, by decide, tn_us6, tn_tk6, tn_nm6, rfl, Or.inl (tn_wi 677 (by decide +kernel))⟩
theorem fk_6_6_26 : tn_FK "ThunderOwnedModel" 6 26 0 := ⟨_, tn_T6, rfl, by decide +kernel, rfl⟩
theorem ml_6_122 : tn_ML "ThunderOwnedModel" 122 m_X6_isSign.1 := Or.inl (tn_wi 764 (by decide +kernel))
theorem ml_6_126 : tn_ML "ThunderOwnedModel" 126 m_X6_digit.1 := Or.inl (tn_wi 768 (by decide +kernel))
theorem ml_6_130 : tn_ML "ThunderOwnedModel" 130 m_X6_readHouse.1 := Or.inl (tn_wi 772 (by decide +kernel))
theorem ml_6_133 : tn_ML "ThunderOwnedModel" 133 m_X6_readStonesAll.1 := Or.inl (tn_wi 776 (by decide +kernel))
theorem fk_6_6_19 : tn_FK "ThunderOwnedModel" 6 19 0 := ⟨_, tn_T6, rfl, by decide +kernel, rfl⟩
theorem fk_6_6_20 : tn_FK "ThunderOwnedModel" 6 20 0 := ⟨_, tn_T6, rfl, by decide +kernel, rfl⟩
theorem fk_6_6_21 : tn_FK "ThunderOwnedModel" 6 21 0 := ⟨_, tn_T6, rfl, by decide +kernel, rfl⟩
theorem ml_6_136 : tn_ML "ThunderOwnedModel" 136 m_X6_isOf.1 := Or.inl (tn_wi 800 (by decide +kernel))
theorem ml_6_139 : tn_ML "ThunderOwnedModel" 139 m_X6_weightOf.1 := Or.inl (tn_wi 792 (by decide +kernel))
theorem ml_6_142 : tn_ML "ThunderOwnedModel" 142 m_X6_rankles.1 := Or.inl (tn_wi 796 (by decide +kernel))
theorem ml_6_145 : tn_ML "ThunderOwnedModel" 145 m_X6_isHouse.1 := Or.inl (tn_wi 788 (by decide +kernel))
theorem ml_6_148 : tn_ML "ThunderOwnedModel" 148 m_X6_isStone.1 := Or.inl (tn_wi 807 (by decide +kernel))
theorem ml_6_151 : tn_ML "ThunderOwnedModel" 151 m_X6_voiceNow.1 := Or.inl (tn_wi 827 (by decide +kernel))
theorem ml_6_155 : tn_ML "ThunderOwnedModel" 155 m_X6_owns.1 := Or.inl (tn_wi 819 (by decide +kernel))
theorem ml_6_158 : tn_ML "ThunderOwnedModel" 158 m_X6_whoRankle.1 := Or.inl (tn_wi 839 (by decide +kernel))
theorem ml_6_161 : tn_ML "ThunderOwnedModel" 161 m_X6_layGreatest.1 := Or.inl (tn_wi 843 (by decide +kernel))
theorem ml_6_164 : tn_ML "ThunderOwnedModel" 164 m_X6_goesNight.1 := Or.inl (tn_wi 835 (by decide +kernel))
theorem ml_6_167 : tn_ML "ThunderOwnedModel" 167 m_X6_does.1 := Or.inl (tn_wi 859 (by decide +kernel))
theorem ml_6_170 : tn_ML "ThunderOwnedModel" 170 m_X6_keep.1 := Or.inl (tn_wi 851 (by decide +kernel))
theorem ml_6_174 : tn_ML "ThunderOwnedModel" 174 m_X6_goDay.1 := Or.inl (tn_wi 855 (by decide +kernel))
theorem ml_6_178 : tn_ML "ThunderOwnedModel" 178 m_X6_tellDay.1 := Or.inl (tn_wi 863 (by decide +kernel))
theorem ml_6_181 : tn_ML "ThunderOwnedModel" 181 m_X6_putBack.1 := Or.inl (tn_wi 867 (by decide +kernel))
theorem ml_6_184 : tn_ML "ThunderOwnedModel" 184 m_X6_quietIn.1 := Or.inl (tn_wi 879 (by decide +kernel))
theorem ml_6_187 : tn_ML "ThunderOwnedModel" 187 m_X6_size.1 := Or.inl (tn_wi 887 (by decide +kernel))
theorem ml_6_190 : tn_ML "ThunderOwnedModel" 190 m_X6_weightOfSet.1 := Or.inl (tn_wi 894 (by decide +kernel))
theorem ml_6_193 : tn_ML "ThunderOwnedModel" 193 m_X6_findPains.1 := Or.inl (tn_wi 902 (by decide +kernel))
theorem ml_6_197 : tn_ML "ThunderOwnedModel" 197 m_X6_areSo.1 := Or.inl (tn_wi 918 (by decide +kernel))
theorem ml_6_201 : tn_ML "ThunderOwnedModel" 201 m_X6_inLeastTerms.1 := Or.inl (tn_wi 935 (by decide +kernel))
theorem ml_6_205 : tn_ML "ThunderOwnedModel" 205 m_X6_lost.1 := Or.inl (tn_wi 954 (by decide +kernel))
theorem fl_6_209 : tn_FL "ThunderOwnedModel" 209 6 1 := ⟨_, tn_T6, tn_ty6, by decide, rfl, by decide, tn_us6, tn_tk6, tn_nm6, rfl, Or.inl (tn_wi 652 (by decide +kernel))⟩
theorem fk_6_6_1 : tn_FK "ThunderOwnedModel" 6 1 0 := ⟨_, tn_T6, rfl, by decide +kernel, rfl⟩
theorem ml_6_212 : tn_ML "ThunderOwnedModel" 212 m_X6_begins.1 := Or.inl (tn_wi 966 (by decide +kernel))
theorem ml_7_9 : tn_ML "ThunderOwnedLaw" 9 m_X5_init.1 := Or.inl (tn_wi 95 (by decide +kernel))
theorem ml_7_12 : tn_ML "ThunderOwnedLaw" 12 m_X6_init.1 := Or.inl (tn_wi 647 (by decide +kernel))
theorem ml_7_13 : tn_ML "ThunderOwnedLaw" 13 m_X5_parish.1 := Or.inl (tn_wi 241 (by decide +kernel))
theorem ml_7_17 : tn_ML "ThunderOwnedLaw" 17 m_X6_parish.1 := Or.inl (tn_wi 739 (by decide +kernel))
theorem ml_7_18 : tn_ML "ThunderOwnedLaw" 18 m_X5_ofHouse.1 := Or.inl (tn_wi 340 (by decide +kernel))
theorem ml_7_22 : tn_ML "ThunderOwnedLaw" 22 m_X6_ofHouse.1 := Or.inl (tn_wi 784 (by decide +kernel))
theorem ml_7_23 : tn_ML "ThunderOwnedLaw" 23 m_X5_ofStone.1 := Or.inl (tn_wi 357 (by decide +kernel))
theorem ml_7_26 : tn_ML "ThunderOwnedLaw" 26 m_X6_ofStone.1 := Or.inl (tn_wi 803 (by decide +kernel))
theorem ml_7_27 : tn_ML "ThunderOwnedLaw" 27 m_X5_sleep.1 := Or.inl (tn_wi 365 (by decide +kernel))
theorem ml_7_30 : tn_ML "ThunderOwnedLaw" 30 m_X6_sleep.1 := Or.inl (tn_wi 811 (by decide +kernel))
theorem ml_7_31 : tn_ML "ThunderOwnedLaw" 31 m_X5_own.1 := Or.inl (tn_wi 369 (by decide +kernel))
theorem ml_7_35 : tn_ML "ThunderOwnedLaw" 35 m_X6_own.1 := Or.inl (tn_wi 815 (by decide +kernel))
theorem ml_7_36 : tn_ML "ThunderOwnedLaw" 36 m_X5_lay.1 := Or.inl (tn_wi 378 (by decide +kernel))
theorem ml_7_39 : tn_ML "ThunderOwnedLaw" 39 m_X6_lay.1 := Or.inl (tn_wi 823 (by decide +kernel))
theorem ml_7_40 : tn_ML "ThunderOwnedLaw" 40 m_X5_night.1 := Or.inl (tn_wi 388 (by decide +kernel))
theorem ml_7_43 : tn_ML "ThunderOwnedLaw" 43 m_X6_night.1 := Or.inl (tn_wi 831 (by decide +kernel))
theorem ml_7_44 : tn_ML "ThunderOwnedLaw" 44 m_X5_day.1 := Or.inl (tn_wi 420 (by decide +kernel))
theorem ml_7_48 : tn_ML "ThunderOwnedLaw" 48 m_X6_day.1 := Or.inl (tn_wi 847 (by decide +kernel))
theorem ml_7_49 : tn_ML "ThunderOwnedLaw" 49 m_X5_behind.1 := Or.inl (tn_wi 459 (by decide +kernel))
theorem ml_7_52 : tn_ML "ThunderOwnedLaw" 52 m_X6_behind.1 := Or.inl (tn_wi 871 (by decide +kernel))
theorem ml_7_53 : tn_ML "ThunderOwnedLaw" 53 m_X5_quiet.1 := Or.inl (tn_wi 463 (by decide +kernel))
theorem ml_7_57 : tn_ML "ThunderOwnedLaw" 57 m_X6_quiet.1 := Or.inl (tn_wi 875 (by decide +kernel))
theorem ml_7_58 : tn_ML "ThunderOwnedLaw" 58 m_X5_fewest.1 := Or.inl (tn_wi 474 (by decide +kernel))
theorem ml_7_61 : tn_ML "ThunderOwnedLaw" 61 m_X6_fewest.1 := Or.inl (tn_wi 883 (by decide +kernel))
theorem ml_7_62 : tn_ML "ThunderOwnedLaw" 62 m_X5_claps.1 := Or.inl (tn_wi 500 (by decide +kernel))
theorem ml_7_65 : tn_ML "ThunderOwnedLaw" 65 m_X6_claps.1 := Or.inl (tn_wi 890 (by decide +kernel))
theorem ml_7_66 : tn_ML "ThunderOwnedLaw" 66 m_X5_rests.1 := Or.inl (tn_wi 508 (by decide +kernel))
theorem ml_7_69 : tn_ML "ThunderOwnedLaw" 69 m_X6_rests.1 := Or.inl (tn_wi 898 (by decide +kernel))
theorem ml_7_70 : tn_ML "ThunderOwnedLaw" 70 m_X5_reading.1 := Or.inl (tn_wi 524 (by decide +kernel))
theorem ml_7_73 : tn_ML "ThunderOwnedLaw" 73 m_X6_reading.1 := Or.inl (tn_wi 906 (by decide +kernel))
theorem ml_7_74 : tn_ML "ThunderOwnedLaw" 74 m_X5_back.1 := Or.inl (tn_wi 529 (by decide +kernel))
theorem ml_7_77 : tn_ML "ThunderOwnedLaw" 77 m_X6_back.1 := Or.inl (tn_wi 910 (by decide +kernel))
theorem ml_7_78 : tn_ML "ThunderOwnedLaw" 78 m_X5_kinds.1 := Or.inl (tn_wi 533 (by decide +kernel))
theorem ml_7_81 : tn_ML "ThunderOwnedLaw" 81 m_X6_kinds.1 := Or.inl (tn_wi 914 (by decide +kernel))
theorem ml_7_82 : tn_ML "ThunderOwnedLaw" 82 m_X5_wrongs.1 := Or.inl (tn_wi 553 (by decide +kernel))
theorem ml_7_85 : tn_ML "ThunderOwnedLaw" 85 m_X6_wrongs.1 := Or.inl (tn_wi 922 (by decide +kernel))
theorem ml_7_86 : tn_ML "ThunderOwnedLaw" 86 m_X5_steps.1 := Or.inl (tn_wi 557 (by decide +kernel))
theorem ml_7_89 : tn_ML "ThunderOwnedLaw" 89 m_X6_steps.1 := Or.inl (tn_wi 926 (by decide +kernel))
theorem ml_7_90 : tn_ML "ThunderOwnedLaw" 90 m_X5_odds.1 := Or.inl (tn_wi 561 (by decide +kernel))
theorem ml_7_94 : tn_ML "ThunderOwnedLaw" 94 m_X6_odds.1 := Or.inl (tn_wi 930 (by decide +kernel))
theorem ml_7_95 : tn_ML "ThunderOwnedLaw" 95 m_X5_sheet.1 := Or.inl (tn_wi 566 (by decide +kernel))
theorem ml_7_99 : tn_ML "ThunderOwnedLaw" 99 m_X6_sheet.1 := Or.inl (tn_wi 938 (by decide +kernel))
theorem ml_7_100 : tn_ML "ThunderOwnedLaw" 100 m_X5_lose.1 := Or.inl (tn_wi 574 (by decide +kernel))
theorem ml_7_103 : tn_ML "ThunderOwnedLaw" 103 m_X6_lose.1 := Or.inl (tn_wi 942 (by decide +kernel))
theorem ml_7_104 : tn_ML "ThunderOwnedLaw" 104 m_X5_put.1 := Or.inl (tn_wi 578 (by decide +kernel))
theorem ml_7_107 : tn_ML "ThunderOwnedLaw" 107 m_X6_put.1 := Or.inl (tn_wi 946 (by decide +kernel))
theorem ml_7_108 : tn_ML "ThunderOwnedLaw" 108 m_X5_cell.1 := Or.inl (tn_wi 586 (by decide +kernel))
theorem ml_7_112 : tn_ML "ThunderOwnedLaw" 112 m_X6_cell.1 := Or.inl (tn_wi 950 (by decide +kernel))
theorem ml_7_113 : tn_ML "ThunderOwnedLaw" 113 m_X5_copy.1 := Or.inl (tn_wi 590 (by decide +kernel))
theorem ml_7_116 : tn_ML "ThunderOwnedLaw" 116 m_X6_copy.1 := Or.inl (tn_wi 958 (by decide +kernel))
theorem ml_7_117 : tn_ML "ThunderOwnedLaw" 117 m_X5_tell.1 := Or.inl (tn_wi 597 (by decide +kernel))
theorem ml_7_120 : tn_ML "ThunderOwnedLaw" 120 m_X6_tell.1 := Or.inl (tn_wi 962 (by decide +kernel))
theorem ml_7_121 : tn_ML "ThunderOwnedLaw" 121 m_X5_knock.1 := Or.inl (tn_wi 617 (by decide +kernel))
theorem ml_7_124 : tn_ML "ThunderOwnedLaw" 124 m_X6_knock.1 := Or.inl (tn_wi 970 (by decide +kernel))
theorem ml_7_125 : tn_ML "ThunderOwnedLaw" 125 m_X5_as.1 := Or.inl (tn_wi 629 (by decide +kernel))
theorem ml_7_128 : tn_ML "ThunderOwnedLaw" 128 m_X6_as.1 := Or.inl (tn_wi 974 (by decide +kernel))
theorem ml_7_129 : tn_ML "ThunderOwnedLaw" 129 m_X5_trace.1 := Or.inl (tn_wi 633 (by decide +kernel))
theorem ml_7_132 : tn_ML "ThunderOwnedLaw" 132 m_X6_trace.1 := Or.inl (tn_wi 978 (by decide +kernel))
theorem ml_7_133 : tn_ML "ThunderOwnedLaw" 133 m_X5_fault.1 := Or.inl (tn_wi 637 (by decide +kernel))
theorem ml_7_136 : tn_ML "ThunderOwnedLaw" 136 m_X6_fault.1 := Or.inl (tn_wi 982 (by decide +kernel))
theorem ml_7_137 : tn_ML "ThunderOwnedLaw" 137 m_X5_many.1 := Or.inl (tn_wi 641 (by decide +kernel))
theorem ml_7_140 : tn_ML "ThunderOwnedLaw" 140 m_X6_many.1 := Or.inl (tn_wi 986 (by decide +kernel))
theorem ic_m1 : Int32.ofInt (-1) = (-1 : Int32) := by decide
theorem ic_0 : Int32.ofInt (0) = (0 : Int32) := by decide
theorem ic_1 : Int32.ofInt (1) = (1 : Int32) := by decide
theorem ic_2 : Int32.ofInt (2) = (2 : Int32) := by decide
theorem ic_3 : Int32.ofInt (3) = (3 : Int32) := by decide
theorem ic_4 : Int32.ofInt (4) = (4 : Int32) := by decide
theorem ic_5 : Int32.ofInt (5) = (5 : Int32) := by decide
theorem ic_6 : Int32.ofInt (6) = (6 : Int32) := by decide
theorem bp_m100 : (Int8.ofInt (-100)).toInt32 = (-100 : Int32) := by decide
theorem bp_m10 : (Int8.ofInt (-10)).toInt32 = (-10 : Int32) := by decide
theorem bp_m9 : (Int8.ofInt (-9)).toInt32 = (-9 : Int32) := by decide
theorem bp_m4 : (Int8.ofInt (-4)).toInt32 = (-4 : Int32) := by decide
theorem bp_m3 : (Int8.ofInt (-3)).toInt32 = (-3 : Int32) := by decide
theorem bp_m2 : (Int8.ofInt (-2)).toInt32 = (-2 : Int32) := by decide
theorem bp_6 : (Int8.ofInt (6)).toInt32 = (6 : Int32) := by decide
theorem bp_7 : (Int8.ofInt (7)).toInt32 = (7 : Int32) := by decide
theorem bp_8 : (Int8.ofInt (8)).toInt32 = (8 : Int32) := by decide
theorem bp_9 : (Int8.ofInt (9)).toInt32 = (9 : Int32) := by decide
theorem bp_10 : (Int8.ofInt (10)).toInt32 = (10 : Int32) := by decide
theorem bp_11 : (Int8.ofInt (11)).toInt32 = (11 : Int32) := by decide
theorem bp_12 : (Int8.ofInt (12)).toInt32 = (12 : Int32) := by decide
theorem bp_13 : (Int8.ofInt (13)).toInt32 = (13 : Int32) := by decide
theorem bp_14 : (Int8.ofInt (14)).toInt32 = (14 : Int32) := by decide
theorem bp_15 : (Int8.ofInt (15)).toInt32 = (15 : Int32) := by decide
theorem bp_16 : (Int8.ofInt (16)).toInt32 = (16 : Int32) := by decide
theorem bp_18 : (Int8.ofInt (18)).toInt32 = (18 : Int32) := by decide
theorem bp_20 : (Int8.ofInt (20)).toInt32 = (20 : Int32) := by decide
theorem bp_30 : (Int8.ofInt (30)).toInt32 = (30 : Int32) := by decide
theorem bp_31 : (Int8.ofInt (31)).toInt32 = (31 : Int32) := by decide
theorem bp_33 : (Int8.ofInt (33)).toInt32 = (33 : Int32) := by decide
theorem bp_48 : (Int8.ofInt (48)).toInt32 = (48 : Int32) := by decide
theorem bp_49 : (Int8.ofInt (49)).toInt32 = (49 : Int32) := by decide
theorem bp_52 : (Int8.ofInt (52)).toInt32 = (52 : Int32) := by decide
theorem bp_57 : (Int8.ofInt (57)).toInt32 = (57 : Int32) := by decide
theorem bp_59 : (Int8.ofInt (59)).toInt32 = (59 : Int32) := by decide
theorem bp_60 : (Int8.ofInt (60)).toInt32 = (60 : Int32) := by decide
theorem bp_63 : (Int8.ofInt (63)).toInt32 = (63 : Int32) := by decide
theorem bp_70 : (Int8.ofInt (70)).toInt32 = (70 : Int32) := by decide
theorem bp_90 : (Int8.ofInt (90)).toInt32 = (90 : Int32) := by decide
theorem bp_98 : (Int8.ofInt (98)).toInt32 = (98 : Int32) := by decide
theorem bp_100 : (Int8.ofInt (100)).toInt32 = (100 : Int32) := by decide
theorem bp_112 : (Int8.ofInt (112)).toInt32 = (112 : Int32) := by decide
theorem bp_116 : (Int8.ofInt (116)).toInt32 = (116 : Int32) := by decide
theorem sp_200 : (Int16.ofInt (200)).toInt32 = (200 : Int32) := by decide
theorem sp_240 : (Int16.ofInt (240)).toInt32 = (240 : Int32) := by decide
theorem kc_8_265 : Cond.constant "java/lang/Integer" 265 (1431655765 : Int32) ∈ tn_tbl := tn_wi 485 (by decide +kernel)
theorem kc_8_266 : Cond.constant "java/lang/Integer" 266 (858993459 : Int32) ∈ tn_tbl := tn_wi 486 (by decide +kernel)
theorem kc_8_267 : Cond.constant "java/lang/Integer" 267 (252645135 : Int32) ∈ tn_tbl := tn_wi 487 (by decide +kernel)
theorem kc_5_201 : Cond.constantLong "ThunderOwned" 201 (-9223372036854775808 : Int64) ∈ tn_tbl := tn_wi 565 (by decide +kernel)
theorem kc_6_56 : Cond.constantLong "ThunderOwnedModel" 56 (-9223372036854775808 : Int64) ∈ tn_tbl := tn_wi 934 (by decide +kernel)
