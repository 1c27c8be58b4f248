def m_X0_init : tn_M := (⟨"ThunderOwned$House", "<init>", "()V"⟩, prog_2_method_1_code, 1, none, { frames := 1, cells := 0, slots := 0, locals := 20 })
def m_X0_weight : tn_M := (⟨"ThunderOwned$House", "weight", "()I"⟩, prog_2_method_2_code, 1, some .int, { frames := 0, cells := 0, slots := 0, locals := 0 })
def m_X0_rankles : tn_M := (⟨"ThunderOwned$House", "rankles", "()Z"⟩, prog_2_method_3_code, 1, some .boolean, { frames := 1, cells := 0, slots := 0, locals := 20 })
def m_X0_ownUp : tn_M := (⟨"ThunderOwned$House", "ownUp", "()Z"⟩, prog_2_method_4_code, 1, some .boolean, { frames := 2, cells := 0, slots := 0, locals := 40 })
def m_X0_become : tn_M := (⟨"ThunderOwned$House", "become", "(LThunderOwned$House;)V"⟩, prog_2_method_5_code, 2, none, { frames := 0, cells := 0, slots := 0, locals := 0 })
def m_X1_init : tn_M := (⟨"ThunderOwned$Parish", "<init>", "()V"⟩, prog_3_method_1_code, 2, none, { frames := 2, cells := 11, slots := 42, locals := 40 })
def m_X1_hasHouse : tn_M := (⟨"ThunderOwned$Parish", "hasHouse", "(I)Z"⟩, prog_3_method_2_code, 2, some .boolean, { frames := 0, cells := 0, slots := 0, locals := 0 })
def m_X1_hasStone : tn_M := (⟨"ThunderOwned$Parish", "hasStone", "(I)Z"⟩, prog_3_method_3_code, 2, some .boolean, { frames := 0, cells := 0, slots := 0, locals := 0 })
def m_X1_empty : tn_M := (⟨"ThunderOwned$Parish", "empty", "()V"⟩, prog_3_method_4_code, 1, none, { frames := 0, cells := 0, slots := 0, locals := 0 })
def m_X1_addHouse : tn_M := (⟨"ThunderOwned$Parish", "addHouse", "(III)V"⟩, prog_3_method_5_code, 5, none, { frames := 0, cells := 0, slots := 0, locals := 0 })
def m_X1_addStone : tn_M := (⟨"ThunderOwned$Parish", "addStone", "(I)V"⟩, prog_3_method_6_code, 2, none, { frames := 0, cells := 0, slots := 0, locals := 0 })
def m_X1_become : tn_M := (⟨"ThunderOwned$Parish", "become", "(LThunderOwned$Parish;)V"⟩, prog_3_method_7_code, 3, none, { frames := 1, cells := 0, slots := 0, locals := 21 })
def m_X1_voice : tn_M := (⟨"ThunderOwned$Parish", "voice", "()I"⟩, prog_3_method_8_code, 3, some .int, { frames := 2, cells := 0, slots := 0, locals := 40 })
def m_X1_hatsLost : tn_M := (⟨"ThunderOwned$Parish", "hatsLost", "()I"⟩, prog_3_method_9_code, 3, some .int, { frames := 0, cells := 0, slots := 0, locals := 0 })
def m_X1_ranklingSet : tn_M := (⟨"ThunderOwned$Parish", "ranklingSet", "()I"⟩, prog_3_method_10_code, 3, some .int, { frames := 2, cells := 0, slots := 0, locals := 40 })
def m_X1_setCount : tn_M := (⟨"ThunderOwned$Parish", "setCount", "()I"⟩, prog_3_method_11_code, 1, some .int, { frames := 0, cells := 0, slots := 0, locals := 0 })
def m_X1_doesSetRankle : tn_M := (⟨"ThunderOwned$Parish", "doesSetRankle", "(I)Z"⟩, prog_3_method_12_code, 2, some .boolean, { frames := 3, cells := 0, slots := 0, locals := 62 })
def m_X1_weightOfSet : tn_M := (⟨"ThunderOwned$Parish", "weightOfSet", "(I)I"⟩, prog_3_method_13_code, 4, some .int, { frames := 1, cells := 0, slots := 0, locals := 20 })
def m_X1_ownUpAll : tn_M := (⟨"ThunderOwned$Parish", "ownUpAll", "(I)V"⟩, prog_3_method_14_code, 3, none, { frames := 3, cells := 0, slots := 0, locals := 60 })
def m_X1_passNight : tn_M := (⟨"ThunderOwned$Parish", "passNight", "()V"⟩, prog_3_method_15_code, 1, none, { frames := 3, cells := 0, slots := 0, locals := 62 })
def m_X1_passNights : tn_M := (⟨"ThunderOwned$Parish", "passNights", "(I)V"⟩, prog_3_method_16_code, 3, none, { frames := 4, cells := 0, slots := 0, locals := 82 })
def m_X1_loseSleep : tn_M := (⟨"ThunderOwned$Parish", "loseSleep", "()V"⟩, prog_3_method_17_code, 2, none, { frames := 0, cells := 0, slots := 0, locals := 0 })
def m_X1_layHeaviestStone : tn_M := (⟨"ThunderOwned$Parish", "layHeaviestStone", "()V"⟩, prog_3_method_18_code, 4, none, { frames := 1, cells := 0, slots := 0, locals := 21 })
def m_X1_nightsUntilQuiet : tn_M := (⟨"ThunderOwned$Parish", "nightsUntilQuiet", "(I)I"⟩, prog_3_method_19_code, 4, some .int, { frames := 4, cells := 0, slots := 0, locals := 82 })
def m_X1_acts : tn_M := (⟨"ThunderOwned$Parish", "acts", "(I)Z"⟩, prog_3_method_20_code, 2, some .boolean, { frames := 4, cells := 0, slots := 0, locals := 82 })
def m_X1_ownsAsAct : tn_M := (⟨"ThunderOwned$Parish", "ownsAsAct", "(I)Z"⟩, prog_3_method_21_code, 2, some .boolean, { frames := 3, cells := 0, slots := 0, locals := 60 })
def m_X1_sleepsAsAct : tn_M := (⟨"ThunderOwned$Parish", "sleepsAsAct", "(I)Z"⟩, prog_3_method_22_code, 2, some .boolean, { frames := 1, cells := 0, slots := 0, locals := 21 })
def m_X1_isLaidAsAct : tn_M := (⟨"ThunderOwned$Parish", "isLaidAsAct", "(I)Z"⟩, prog_3_method_23_code, 2, some .boolean, { frames := 1, cells := 0, slots := 0, locals := 21 })
def m_X2_init : tn_M := (⟨"ThunderOwned$Sheet", "<init>", "()V"⟩, prog_4_method_1_code, 1, none, { frames := 1, cells := 1, slots := 60, locals := 20 })
def m_X2_renew : tn_M := (⟨"ThunderOwned$Sheet", "renew", "(II)V"⟩, prog_4_method_2_code, 4, none, { frames := 0, cells := 0, slots := 0, locals := 0 })
def m_X2_hasCells : tn_M := (⟨"ThunderOwned$Sheet", "hasCells", "(II)Z"⟩, prog_4_method_3_code, 3, some .boolean, { frames := 0, cells := 0, slots := 0, locals := 0 })
def m_X2_cutToLane : tn_M := (⟨"ThunderOwned$Sheet", "cutToLane", "(I)I"⟩, prog_4_method_4_code, 2, some .int, { frames := 0, cells := 0, slots := 0, locals := 0 })
def m_X3_init : tn_M := (⟨"ThunderOwned$Stone", "<init>", "()V"⟩, prog_5_method_1_code, 1, none, { frames := 1, cells := 0, slots := 0, locals := 20 })
def m_X3_become : tn_M := (⟨"ThunderOwned$Stone", "become", "(LThunderOwned$Stone;)V"⟩, prog_5_method_2_code, 2, none, { frames := 0, cells := 0, slots := 0, locals := 0 })
def m_X4_init : tn_M := (⟨"ThunderOwned$TextReader", "<init>", "(LThunderOwned$Parish;)V"⟩, prog_6_method_1_code, 2, none, { frames := 1, cells := 0, slots := 0, locals := 20 })
def m_X4_mayEnd : tn_M := (⟨"ThunderOwned$TextReader", "mayEnd", "()Z"⟩, prog_6_method_2_code, 1, some .boolean, { frames := 0, cells := 0, slots := 0, locals := 0 })
def m_X4_takes : tn_M := (⟨"ThunderOwned$TextReader", "takes", "(I)Z"⟩, prog_6_method_3_code, 2, some .boolean, { frames := 2, cells := 0, slots := 0, locals := 45 })
def m_X4_goesOn : tn_M := (⟨"ThunderOwned$TextReader", "goesOn", "(ZI)Z"⟩, prog_6_method_4_code, 3, some .boolean, { frames := 0, cells := 0, slots := 0, locals := 0 })
def m_X4_kindOfLetter : tn_M := (⟨"ThunderOwned$TextReader", "kindOfLetter", "(I)I"⟩, prog_6_method_5_code, 1, some .int, { frames := 0, cells := 0, slots := 0, locals := 0 })
def m_X4_takesSleep : tn_M := (⟨"ThunderOwned$TextReader", "takesSleep", "(I)Z"⟩, prog_6_method_6_code, 2, some .boolean, { frames := 1, cells := 0, slots := 0, locals := 24 })
def m_X4_takesAfterHouse : tn_M := (⟨"ThunderOwned$TextReader", "takesAfterHouse", "(I)Z"⟩, prog_6_method_7_code, 2, some .boolean, { frames := 1, cells := 0, slots := 0, locals := 22 })
def m_X4_takesStone : tn_M := (⟨"ThunderOwned$TextReader", "takesStone", "(I)Z"⟩, prog_6_method_8_code, 2, some .boolean, { frames := 1, cells := 0, slots := 0, locals := 22 })
def m_X5_init : tn_M := (⟨"ThunderOwned", "<init>", "()V"⟩, prog_1_method_1_code, 2, none, { frames := 3, cells := 36, slots := 376, locals := 61 })
def m_X5_parish : tn_M := (⟨"ThunderOwned", "parish", "(IIII)I"⟩, prog_1_method_2_code, 8, some .int, { frames := 4, cells := 1, slots := 4, locals := 91 })
def m_X5_ofHouse : tn_M := (⟨"ThunderOwned", "ofHouse", "(II)I"⟩, prog_1_method_3_code, 4, some .int, { frames := 2, cells := 0, slots := 0, locals := 40 })
def m_X5_ofStone : tn_M := (⟨"ThunderOwned", "ofStone", "(II)I"⟩, prog_1_method_4_code, 4, some .int, { frames := 1, cells := 0, slots := 0, locals := 21 })
def m_X5_sleep : tn_M := (⟨"ThunderOwned", "sleep", "(II)I"⟩, prog_1_method_5_code, 5, some .int, { frames := 1, cells := 0, slots := 0, locals := 22 })
def m_X5_own : tn_M := (⟨"ThunderOwned", "own", "(I)I"⟩, prog_1_method_6_code, 2, some .int, { frames := 3, cells := 0, slots := 0, locals := 60 })
def m_X5_lay : tn_M := (⟨"ThunderOwned", "lay", "(I)I"⟩, prog_1_method_7_code, 3, some .int, { frames := 3, cells := 0, slots := 0, locals := 62 })
def m_X5_night : tn_M := (⟨"ThunderOwned", "night", "(I)I"⟩, prog_1_method_8_code, 2, some .int, { frames := 5, cells := 0, slots := 0, locals := 104 })
def m_X5_day : tn_M := (⟨"ThunderOwned", "day", "(IIIII)I"⟩, prog_1_method_9_code, 9, some .int, { frames := 6, cells := 0, slots := 0, locals := 127 })
def m_X5_behind : tn_M := (⟨"ThunderOwned", "behind", "(II)I"⟩, prog_1_method_10_code, 3, some .int, { frames := 5, cells := 0, slots := 0, locals := 104 })
def m_X5_quiet : tn_M := (⟨"ThunderOwned", "quiet", "()I"⟩, prog_1_method_11_code, 1, some .int, { frames := 5, cells := 0, slots := 0, locals := 105 })
def m_X5_fewest : tn_M := (⟨"ThunderOwned", "fewest", "(II)I"⟩, prog_1_method_12_code, 7, some .int, { frames := 6, cells := 0, slots := 0, locals := 127 })
def m_X5_claps : tn_M := (⟨"ThunderOwned", "claps", "(II)I"⟩, prog_1_method_13_code, 6, some .int, { frames := 4, cells := 0, slots := 0, locals := 83 })
def m_X5_rests : tn_M := (⟨"ThunderOwned", "rests", "(II)I"⟩, prog_1_method_14_code, 5, some .int, { frames := 6, cells := 0, slots := 0, locals := 129 })
def m_X5_reading : tn_M := (⟨"ThunderOwned", "reading", "(II)I"⟩, prog_1_method_15_code, 3, some .int, { frames := 1, cells := 0, slots := 0, locals := 22 })
def m_X5_back : tn_M := (⟨"ThunderOwned", "back", "(I)I"⟩, prog_1_method_16_code, 2, some .int, { frames := 1, cells := 0, slots := 0, locals := 22 })
def m_X5_kinds : tn_M := (⟨"ThunderOwned", "kinds", "(I)I"⟩, prog_1_method_17_code, 4, some .int, { frames := 5, cells := 0, slots := 0, locals := 104 })
def m_X5_wrongs : tn_M := (⟨"ThunderOwned", "wrongs", "(I)I"⟩, prog_1_method_18_code, 4, some .int, { frames := 5, cells := 0, slots := 0, locals := 104 })
def m_X5_steps : tn_M := (⟨"ThunderOwned", "steps", "()I"⟩, prog_1_method_19_code, 3, some .int, { frames := 5, cells := 0, slots := 0, locals := 104 })
def m_X5_odds : tn_M := (⟨"ThunderOwned", "odds", "(II)J"⟩, prog_1_method_20_code, 6, some .long, { frames := 4, cells := 0, slots := 0, locals := 83 })
def m_X5_sheet : tn_M := (⟨"ThunderOwned", "sheet", "(III)I"⟩, prog_1_method_21_code, 4, some .int, { frames := 2, cells := 0, slots := 0, locals := 42 })
def m_X5_lose : tn_M := (⟨"ThunderOwned", "lose", "(I)I"⟩, prog_1_method_22_code, 3, some .int, { frames := 2, cells := 0, slots := 0, locals := 42 })
def m_X5_put : tn_M := (⟨"ThunderOwned", "put", "(III)I"⟩, prog_1_method_23_code, 5, some .int, { frames := 2, cells := 0, slots := 0, locals := 42 })
def m_X5_cell : tn_M := (⟨"ThunderOwned", "cell", "(III)J"⟩, prog_1_method_24_code, 6, some .long, { frames := 2, cells := 0, slots := 0, locals := 45 })
def m_X5_copy : tn_M := (⟨"ThunderOwned", "copy", "(IIIII)I"⟩, prog_1_method_25_code, 8, some .int, { frames := 2, cells := 0, slots := 0, locals := 42 })
def m_X5_tell : tn_M := (⟨"ThunderOwned", "tell", "(I)I"⟩, prog_1_method_26_code, 3, some .int, { frames := 4, cells := 0, slots := 0, locals := 85 })
def m_X5_knock : tn_M := (⟨"ThunderOwned", "knock", "(I)I"⟩, prog_1_method_27_code, 3, some .int, { frames := 2, cells := 0, slots := 0, locals := 42 })
def m_X5_as : tn_M := (⟨"ThunderOwned", "as", "(II)I"⟩, prog_1_method_28_code, 3, some .int, { frames := 1, cells := 0, slots := 0, locals := 22 })
def m_X5_trace : tn_M := (⟨"ThunderOwned", "trace", "()I"⟩, prog_1_method_29_code, 1, some .int, { frames := 0, cells := 0, slots := 0, locals := 0 })
def m_X5_fault : tn_M := (⟨"ThunderOwned", "fault", "()I"⟩, prog_1_method_30_code, 1, some .int, { frames := 0, cells := 0, slots := 0, locals := 0 })
def m_X5_many : tn_M := (⟨"ThunderOwned", "many", "(I)I"⟩, prog_1_method_31_code, 2, some .int, { frames := 3, cells := 0, slots := 0, locals := 62 })
def m_X5_isWithin : tn_M := (⟨"ThunderOwned", "isWithin", "(III)Z"⟩, prog_1_method_32_code, 3, some .boolean, { frames := 0, cells := 0, slots := 0, locals := 0 })
def m_X5_isSheet : tn_M := (⟨"ThunderOwned", "isSheet", "(I)Z"⟩, prog_1_method_33_code, 1, some .boolean, { frames := 1, cells := 0, slots := 0, locals := 22 })
def m_X5_isLane : tn_M := (⟨"ThunderOwned", "isLane", "(I)Z"⟩, prog_1_method_34_code, 1, some .boolean, { frames := 1, cells := 0, slots := 0, locals := 22 })
def m_X5_isAskedOfDay : tn_M := (⟨"ThunderOwned", "isAskedOfDay", "(I)Z"⟩, prog_1_method_35_code, 1, some .boolean, { frames := 1, cells := 0, slots := 0, locals := 22 })
def m_X5_hasParish : tn_M := (⟨"ThunderOwned", "hasParish", "()Z"⟩, prog_1_method_36_code, 1, some .boolean, { frames := 0, cells := 0, slots := 0, locals := 0 })
def m_X5_faulted : tn_M := (⟨"ThunderOwned", "faulted", "(I)I"⟩, prog_1_method_37_code, 2, some .int, { frames := 0, cells := 0, slots := 0, locals := 0 })
def m_X5_faultOfCells : tn_M := (⟨"ThunderOwned", "faultOfCells", "(LThunderOwned$Sheet;III)I"⟩, prog_1_method_38_code, 4, some .int, { frames := 1, cells := 0, slots := 0, locals := 22 })
def m_X5_firstFaultOfText : tn_M := (⟨"ThunderOwned", "firstFaultOfText", "(LThunderOwned$Sheet;II)I"⟩, prog_1_method_39_code, 6, some .int, { frames := 3, cells := 1, slots := 4, locals := 66 })
def m_X5_areActs : tn_M := (⟨"ThunderOwned", "areActs", "(LThunderOwned$Sheet;II)Z"⟩, prog_1_method_40_code, 4, some .boolean, { frames := 1, cells := 0, slots := 0, locals := 22 })
def m_X5_firstWrongOfDay : tn_M := (⟨"ThunderOwned", "firstWrongOfDay", "(LThunderOwned$Sheet;II)I"⟩, prog_1_method_41_code, 5, some .int, { frames := 5, cells := 0, slots := 0, locals := 103 })
def m_X5_afterDay : tn_M := (⟨"ThunderOwned", "afterDay", "(I)I"⟩, prog_1_method_42_code, 3, some .int, { frames := 3, cells := 0, slots := 0, locals := 62 })
def m_X5_isQuietIfOwned : tn_M := (⟨"ThunderOwned", "isQuietIfOwned", "(II)Z"⟩, prog_1_method_43_code, 3, some .boolean, { frames := 5, cells := 0, slots := 0, locals := 105 })
def m_X5_nightsIfChosen : tn_M := (⟨"ThunderOwned", "nightsIfChosen", "(III)I"⟩, prog_1_method_44_code, 5, some .int, { frames := 5, cells := 0, slots := 0, locals := 105 })
def m_X5_isContent : tn_M := (⟨"ThunderOwned", "isContent", "(III)Z"⟩, prog_1_method_45_code, 4, some .boolean, { frames := 3, cells := 0, slots := 0, locals := 65 })
def m_X5_painOfChoice : tn_M := (⟨"ThunderOwned", "painOfChoice", "(III)I"⟩, prog_1_method_46_code, 6, some .int, { frames := 2, cells := 0, slots := 0, locals := 40 })
def m_X5_doReadingsHoldOfTrial : tn_M := (⟨"ThunderOwned", "doReadingsHoldOfTrial", "()Z"⟩, prog_1_method_47_code, 3, some .boolean, { frames := 4, cells := 0, slots := 0, locals := 82 })
def m_X5_lastNightRead : tn_M := (⟨"ThunderOwned", "lastNightRead", "()I"⟩, prog_1_method_48_code, 3, some .int, { frames := 1, cells := 0, slots := 0, locals := 21 })
def m_X5_isVoiceAsRead : tn_M := (⟨"ThunderOwned", "isVoiceAsRead", "(II)Z"⟩, prog_1_method_49_code, 4, some .boolean, { frames := 0, cells := 0, slots := 0, locals := 0 })
def m_X5_leaveInTrace : tn_M := (⟨"ThunderOwned", "leaveInTrace", "(I)V"⟩, prog_1_method_50_code, 2, none, { frames := 0, cells := 0, slots := 0, locals := 0 })
def m_X5_toldAsPlain : tn_M := (⟨"ThunderOwned", "toldAsPlain", "(LThunderOwned$House;)I"⟩, prog_1_method_51_code, 2, some .int, { frames := 1, cells := 0, slots := 0, locals := 21 })
def m_X5_toldAsBrooding : tn_M := (⟨"ThunderOwned", "toldAsBrooding", "(LThunderOwned$House;)I"⟩, prog_1_method_52_code, 2, some .int, { frames := 2, cells := 0, slots := 0, locals := 42 })
def m_X5_toldAsDouble : tn_M := (⟨"ThunderOwned", "toldAsDouble", "(LThunderOwned$House;)I"⟩, prog_1_method_53_code, 3, some .int, { frames := 3, cells := 0, slots := 0, locals := 63 })
def m_X5_knockedAsLent : tn_M := (⟨"ThunderOwned", "knockedAsLent", "(LThunderOwned$House;)I"⟩, prog_1_method_54_code, 2, some .int, { frames := 1, cells := 0, slots := 0, locals := 21 })
def m_X5_knockedAsDouble : tn_M := (⟨"ThunderOwned", "knockedAsDouble", "()I"⟩, prog_1_method_55_code, 1, some .int, { frames := 1, cells := 0, slots := 0, locals := 21 })
def m_X6_init : tn_M := (⟨"ThunderOwnedModel", "<init>", "()V"⟩, prog_8_method_1_code, 1, none, { frames := 1, cells := 14, slots := 345, locals := 20 })
def m_X6_fails : tn_M := (⟨"ThunderOwnedModel", "fails", "(I)I"⟩, prog_8_method_3_code, 2, some .int, { frames := 0, cells := 0, slots := 0, locals := 0 })
def m_X6_lost : tn_M := (⟨"ThunderOwnedModel", "lost", "(I)J"⟩, prog_8_method_4_code, 2, some .long, { frames := 0, cells := 0, slots := 0, locals := 0 })
def m_X6_within : tn_M := (⟨"ThunderOwnedModel", "within", "(III)Z"⟩, prog_8_method_5_code, 3, some .boolean, { frames := 0, cells := 0, slots := 0, locals := 0 })
def m_X6_isSheet : tn_M := (⟨"ThunderOwnedModel", "isSheet", "(I)Z"⟩, prog_8_method_6_code, 1, some .boolean, { frames := 1, cells := 0, slots := 0, locals := 22 })
def m_X6_isSort : tn_M := (⟨"ThunderOwnedModel", "isSort", "(I)Z"⟩, prog_8_method_7_code, 1, some .boolean, { frames := 1, cells := 0, slots := 0, locals := 22 })
def m_X6_against : tn_M := (⟨"ThunderOwnedModel", "against", "(IIII)I"⟩, prog_8_method_8_code, 5, some .int, { frames := 0, cells := 0, slots := 0, locals := 0 })
def m_X6_isHouse : tn_M := (⟨"ThunderOwnedModel", "isHouse", "(I)Z"⟩, prog_8_method_9_code, 2, some .boolean, { frames := 0, cells := 0, slots := 0, locals := 0 })
def m_X6_isStone : tn_M := (⟨"ThunderOwnedModel", "isStone", "(I)Z"⟩, prog_8_method_10_code, 2, some .boolean, { frames := 0, cells := 0, slots := 0, locals := 0 })
def m_X6_isOf : tn_M := (⟨"ThunderOwnedModel", "isOf", "(II)Z"⟩, prog_8_method_11_code, 2, some .boolean, { frames := 0, cells := 0, slots := 0, locals := 0 })
def m_X6_size : tn_M := (⟨"ThunderOwnedModel", "size", "(I)I"⟩, prog_8_method_12_code, 3, some .int, { frames := 0, cells := 0, slots := 0, locals := 0 })
def m_X6_digit : tn_M := (⟨"ThunderOwnedModel", "digit", "(III)I"⟩, prog_8_method_13_code, 4, some .int, { frames := 1, cells := 0, slots := 0, locals := 22 })
def m_X6_isSign : tn_M := (⟨"ThunderOwnedModel", "isSign", "(II)Z"⟩, prog_8_method_14_code, 3, some .boolean, { frames := 0, cells := 0, slots := 0, locals := 0 })
def m_X6_parish : tn_M := (⟨"ThunderOwnedModel", "parish", "(IIII)I"⟩, prog_8_method_15_code, 7, some .int, { frames := 4, cells := 0, slots := 0, locals := 89 })
def m_X6_takeParish : tn_M := (⟨"ThunderOwnedModel", "takeParish", "()V"⟩, prog_8_method_16_code, 2, none, { frames := 0, cells := 0, slots := 0, locals := 0 })
def m_X6_readParish : tn_M := (⟨"ThunderOwnedModel", "readParish", "(I)Z"⟩, prog_8_method_17_code, 2, some .boolean, { frames := 3, cells := 0, slots := 0, locals := 68 })
def m_X6_readStonesAll : tn_M := (⟨"ThunderOwnedModel", "readStonesAll", "(I)Z"⟩, prog_8_method_18_code, 2, some .boolean, { frames := 2, cells := 0, slots := 0, locals := 45 })
def m_X6_readHouse : tn_M := (⟨"ThunderOwnedModel", "readHouse", "(I)Z"⟩, prog_8_method_19_code, 4, some .boolean, { frames := 2, cells := 0, slots := 0, locals := 45 })
def m_X6_weightOf : tn_M := (⟨"ThunderOwnedModel", "weightOf", "(I)I"⟩, prog_8_method_20_code, 2, some .int, { frames := 0, cells := 0, slots := 0, locals := 0 })
def m_X6_rankles : tn_M := (⟨"ThunderOwnedModel", "rankles", "(I)Z"⟩, prog_8_method_21_code, 2, some .boolean, { frames := 1, cells := 0, slots := 0, locals := 21 })
def m_X6_whoRankle : tn_M := (⟨"ThunderOwnedModel", "whoRankle", "()I"⟩, prog_8_method_22_code, 3, some .int, { frames := 2, cells := 0, slots := 0, locals := 42 })
def m_X6_voiceNow : tn_M := (⟨"ThunderOwnedModel", "voiceNow", "()I"⟩, prog_8_method_23_code, 3, some .int, { frames := 2, cells := 0, slots := 0, locals := 42 })
def m_X6_ofHouse : tn_M := (⟨"ThunderOwnedModel", "ofHouse", "(II)I"⟩, prog_8_method_24_code, 3, some .int, { frames := 2, cells := 0, slots := 0, locals := 42 })
def m_X6_ofStone : tn_M := (⟨"ThunderOwnedModel", "ofStone", "(II)I"⟩, prog_8_method_25_code, 3, some .int, { frames := 1, cells := 0, slots := 0, locals := 21 })
def m_X6_sleep : tn_M := (⟨"ThunderOwnedModel", "sleep", "(II)I"⟩, prog_8_method_26_code, 4, some .int, { frames := 1, cells := 0, slots := 0, locals := 22 })
def m_X6_owns : tn_M := (⟨"ThunderOwnedModel", "owns", "(I)Z"⟩, prog_8_method_27_code, 2, some .boolean, { frames := 2, cells := 0, slots := 0, locals := 42 })
def m_X6_layGreatest : tn_M := (⟨"ThunderOwnedModel", "layGreatest", "()V"⟩, prog_8_method_28_code, 3, none, { frames := 1, cells := 0, slots := 0, locals := 21 })
def m_X6_goesNight : tn_M := (⟨"ThunderOwnedModel", "goesNight", "()V"⟩, prog_8_method_29_code, 2, none, { frames := 3, cells := 0, slots := 0, locals := 64 })
def m_X6_own : tn_M := (⟨"ThunderOwnedModel", "own", "(I)I"⟩, prog_8_method_30_code, 2, some .int, { frames := 3, cells := 0, slots := 0, locals := 63 })
def m_X6_lay : tn_M := (⟨"ThunderOwnedModel", "lay", "(I)I"⟩, prog_8_method_31_code, 2, some .int, { frames := 3, cells := 0, slots := 0, locals := 64 })
def m_X6_night : tn_M := (⟨"ThunderOwnedModel", "night", "(I)I"⟩, prog_8_method_32_code, 3, some .int, { frames := 4, cells := 0, slots := 0, locals := 85 })
def m_X6_keep : tn_M := (⟨"ThunderOwnedModel", "keep", "(I)V"⟩, prog_8_method_33_code, 3, none, { frames := 0, cells := 0, slots := 0, locals := 0 })
def m_X6_putBack : tn_M := (⟨"ThunderOwnedModel", "putBack", "(I)V"⟩, prog_8_method_34_code, 3, none, { frames := 0, cells := 0, slots := 0, locals := 0 })
def m_X6_does : tn_M := (⟨"ThunderOwnedModel", "does", "(I)Z"⟩, prog_8_method_35_code, 3, some .boolean, { frames := 4, cells := 0, slots := 0, locals := 85 })
def m_X6_goDay : tn_M := (⟨"ThunderOwnedModel", "goDay", "(II)I"⟩, prog_8_method_36_code, 4, some .int, { frames := 5, cells := 0, slots := 0, locals := 107 })
def m_X6_day : tn_M := (⟨"ThunderOwnedModel", "day", "(IIIII)I"⟩, prog_8_method_37_code, 11, some .int, { frames := 6, cells := 0, slots := 0, locals := 130 })
def m_X6_tellDay : tn_M := (⟨"ThunderOwnedModel", "tellDay", "(II)I"⟩, prog_8_method_38_code, 3, some .int, { frames := 3, cells := 0, slots := 0, locals := 64 })
def m_X6_behind : tn_M := (⟨"ThunderOwnedModel", "behind", "(II)I"⟩, prog_8_method_39_code, 5, some .int, { frames := 4, cells := 0, slots := 0, locals := 85 })
def m_X6_quietIn : tn_M := (⟨"ThunderOwnedModel", "quietIn", "(I)I"⟩, prog_8_method_40_code, 4, some .int, { frames := 4, cells := 0, slots := 0, locals := 85 })
def m_X6_quiet : tn_M := (⟨"ThunderOwnedModel", "quiet", "()I"⟩, prog_8_method_41_code, 1, some .int, { frames := 5, cells := 0, slots := 0, locals := 108 })
def m_X6_fewest : tn_M := (⟨"ThunderOwnedModel", "fewest", "(II)I"⟩, prog_8_method_42_code, 8, some .int, { frames := 5, cells := 0, slots := 0, locals := 108 })
def m_X6_weightOfSet : tn_M := (⟨"ThunderOwnedModel", "weightOfSet", "(I)I"⟩, prog_8_method_43_code, 4, some .int, { frames := 1, cells := 0, slots := 0, locals := 21 })
def m_X6_claps : tn_M := (⟨"ThunderOwnedModel", "claps", "(II)I"⟩, prog_8_method_44_code, 7, some .int, { frames := 3, cells := 0, slots := 0, locals := 64 })
def m_X6_findPains : tn_M := (⟨"ThunderOwnedModel", "findPains", "(II)V"⟩, prog_8_method_45_code, 7, none, { frames := 5, cells := 0, slots := 0, locals := 108 })
def m_X6_rests : tn_M := (⟨"ThunderOwnedModel", "rests", "(II)I"⟩, prog_8_method_46_code, 6, some .int, { frames := 6, cells := 0, slots := 0, locals := 134 })
def m_X6_reading : tn_M := (⟨"ThunderOwnedModel", "reading", "(II)I"⟩, prog_8_method_47_code, 3, some .int, { frames := 1, cells := 0, slots := 0, locals := 22 })
def m_X6_back : tn_M := (⟨"ThunderOwnedModel", "back", "(I)I"⟩, prog_8_method_48_code, 2, some .int, { frames := 1, cells := 0, slots := 0, locals := 22 })
def m_X6_areSo : tn_M := (⟨"ThunderOwnedModel", "areSo", "()Z"⟩, prog_8_method_49_code, 4, some .boolean, { frames := 4, cells := 0, slots := 0, locals := 85 })
def m_X6_kinds : tn_M := (⟨"ThunderOwnedModel", "kinds", "(I)I"⟩, prog_8_method_50_code, 5, some .int, { frames := 5, cells := 0, slots := 0, locals := 108 })
def m_X6_wrongs : tn_M := (⟨"ThunderOwnedModel", "wrongs", "(I)I"⟩, prog_8_method_51_code, 5, some .int, { frames := 5, cells := 0, slots := 0, locals := 108 })
def m_X6_steps : tn_M := (⟨"ThunderOwnedModel", "steps", "()I"⟩, prog_8_method_52_code, 4, some .int, { frames := 5, cells := 0, slots := 0, locals := 108 })
def m_X6_inLeastTerms : tn_M := (⟨"ThunderOwnedModel", "inLeastTerms", "(JJI)J"⟩, prog_8_method_53_code, 11, some .long, { frames := 0, cells := 0, slots := 0, locals := 0 })
def m_X6_odds : tn_M := (⟨"ThunderOwnedModel", "odds", "(II)J"⟩, prog_8_method_54_code, 7, some .long, { frames := 3, cells := 0, slots := 0, locals := 64 })
def m_X6_sheet : tn_M := (⟨"ThunderOwnedModel", "sheet", "(III)I"⟩, prog_8_method_55_code, 5, some .int, { frames := 2, cells := 0, slots := 0, locals := 42 })
def m_X6_lose : tn_M := (⟨"ThunderOwnedModel", "lose", "(I)I"⟩, prog_8_method_56_code, 3, some .int, { frames := 2, cells := 0, slots := 0, locals := 42 })
def m_X6_put : tn_M := (⟨"ThunderOwnedModel", "put", "(III)I"⟩, prog_8_method_57_code, 4, some .int, { frames := 2, cells := 0, slots := 0, locals := 42 })
def m_X6_cell : tn_M := (⟨"ThunderOwnedModel", "cell", "(III)J"⟩, prog_8_method_58_code, 4, some .long, { frames := 2, cells := 0, slots := 0, locals := 42 })
def m_X6_copy : tn_M := (⟨"ThunderOwnedModel", "copy", "(IIIII)I"⟩, prog_8_method_59_code, 10, some .int, { frames := 2, cells := 0, slots := 0, locals := 42 })
def m_X6_begins : tn_M := (⟨"ThunderOwnedModel", "begins", "(I)V"⟩, prog_8_method_60_code, 2, none, { frames := 0, cells := 0, slots := 0, locals := 0 })
def m_X6_tell : tn_M := (⟨"ThunderOwnedModel", "tell", "(I)I"⟩, prog_8_method_61_code, 3, some .int, { frames := 1, cells := 0, slots := 0, locals := 21 })
def m_X6_knock : tn_M := (⟨"ThunderOwnedModel", "knock", "(I)I"⟩, prog_8_method_62_code, 2, some .int, { frames := 1, cells := 0, slots := 0, locals := 21 })
def m_X6_as : tn_M := (⟨"ThunderOwnedModel", "as", "(II)I"⟩, prog_8_method_63_code, 3, some .int, { frames := 1, cells := 0, slots := 0, locals := 22 })
def m_X6_trace : tn_M := (⟨"ThunderOwnedModel", "trace", "()I"⟩, prog_8_method_64_code, 1, some .int, { frames := 0, cells := 0, slots := 0, locals := 0 })
def m_X6_fault : tn_M := (⟨"ThunderOwnedModel", "fault", "()I"⟩, prog_8_method_65_code, 1, some .int, { frames := 0, cells := 0, slots := 0, locals := 0 })
def m_X6_many : tn_M := (⟨"ThunderOwnedModel", "many", "(I)I"⟩, prog_8_method_66_code, 2, some .int, { frames := 3, cells := 0, slots := 0, locals := 64 })
def m_J_bitCount : tn_M := (⟨"java/lang/Integer", "bitCount", "(I)I"⟩, prog_9_method_49_code, 1, some .int, { frames := 0, cells := 0, slots := 0, locals := 0 })
def m_J_max : tn_M := (⟨"java/lang/Math", "max", "(II)I"⟩, prog_10_method_65_code, 2, some .int, { frames := 0, cells := 0, slots := 0, locals := 0 })
def m_J_min : tn_M := (⟨"java/lang/Math", "min", "(II)I"⟩, prog_10_method_69_code, 2, some .int, { frames := 0, cells := 0, slots := 0, locals := 0 })
def m_L_law : tn_M := (⟨"ThunderOwnedLaw", "law", "([I)Z"⟩, code, 4, some .boolean, { frames := 9, cells := 600000, slots := 7302250, locals := 322 })
theorem tn_wi (i : Nat) {w : Cond} (h : lw_tbl[i]? = some w ∧ goodWord w = true) : w ∈ tn_tbl := tn_w i h.1 h.2
theorem tn_wni (i : Nat) {w : Cond} (h : lw_tbl[i]? = some w ∧ tn_isN w = true) : w ∈ tn_nst := tn_wn i h.1 h.2
theorem mv_X0_init : tn_MV m_X0_init 0 := ⟨tn_wi 114 (by decide +kernel), tn_wi 85 (by decide +kernel), by decide +kernel, by decide +kernel⟩
theorem im_X0_init : Cond.instanceMethod m_X0_init.1 ∈ tn_tbl := tn_wi 113 (by decide +kernel)
theorem mv_X0_weight : tn_MV m_X0_weight 0 := ⟨tn_wi 351 (by decide +kernel), tn_wi 85 (by decide +kernel), by decide +kernel, by decide +kernel⟩
theorem im_X0_weight : Cond.instanceMethod m_X0_weight.1 ∈ tn_tbl := tn_wi 350 (by decide +kernel)
theorem se_X0_weight : Cond.selects m_X0_weight.1.cls m_X0_weight.1 m_X0_weight.1 ∈ tn_tbl := tn_wi 16 (by decide +kernel)
theorem mv_X0_rankles : tn_MV m_X0_rankles 0 := ⟨tn_wi 355 (by decide +kernel), tn_wi 85 (by decide +kernel), by decide +kernel, by decide +kernel⟩
theorem im_X0_rankles : Cond.instanceMethod m_X0_rankles.1 ∈ tn_tbl := tn_wi 354 (by decide +kernel)
theorem se_X0_rankles : Cond.selects m_X0_rankles.1.cls m_X0_rankles.1 m_X0_rankles.1 ∈ tn_tbl := tn_wi 17 (by decide +kernel)
theorem mv_X0_ownUp : tn_MV m_X0_ownUp 0 := ⟨tn_wi 376 (by decide +kernel), tn_wi 85 (by decide +kernel), by decide +kernel, by decide +kernel⟩
theorem im_X0_ownUp : Cond.instanceMethod m_X0_ownUp.1 ∈ tn_tbl := tn_wi 375 (by decide +kernel)
theorem se_X0_ownUp : Cond.selects m_X0_ownUp.1.cls m_X0_ownUp.1 m_X0_ownUp.1 ∈ tn_tbl := tn_wi 19 (by decide +kernel)
theorem mv_X0_become : tn_MV m_X0_become 1 := ⟨tn_wi 335 (by decide +kernel), tn_wi 85 (by decide +kernel), by decide +kernel, by decide +kernel⟩
theorem im_X0_become : Cond.instanceMethod m_X0_become.1 ∈ tn_tbl := tn_wi 334 (by decide +kernel)
theorem se_X0_become : Cond.selects m_X0_become.1.cls m_X0_become.1 m_X0_become.1 ∈ tn_tbl := tn_wi 13 (by decide +kernel)
theorem mv_X1_init : tn_MV m_X1_init 0 := ⟨tn_wi 105 (by decide +kernel), tn_wi 84 (by decide +kernel), by decide +kernel, by decide +kernel⟩
theorem im_X1_init : Cond.instanceMethod m_X1_init.1 ∈ tn_tbl := tn_wi 104 (by decide +kernel)
theorem mv_X1_hasHouse : tn_MV m_X1_hasHouse 1 := ⟨tn_wi 347 (by decide +kernel), tn_wi 84 (by decide +kernel), by decide +kernel, by decide +kernel⟩
theorem im_X1_hasHouse : Cond.instanceMethod m_X1_hasHouse.1 ∈ tn_tbl := tn_wi 346 (by decide +kernel)
theorem se_X1_hasHouse : Cond.selects m_X1_hasHouse.1.cls m_X1_hasHouse.1 m_X1_hasHouse.1 ∈ tn_tbl := tn_wi 15 (by decide +kernel)
theorem mv_X1_hasStone : tn_MV m_X1_hasStone 1 := ⟨tn_wi 364 (by decide +kernel), tn_wi 84 (by decide +kernel), by decide +kernel, by decide +kernel⟩
theorem im_X1_hasStone : Cond.instanceMethod m_X1_hasStone.1 ∈ tn_tbl := tn_wi 363 (by decide +kernel)
theorem se_X1_hasStone : Cond.selects m_X1_hasStone.1.cls m_X1_hasStone.1 m_X1_hasStone.1 ∈ tn_tbl := tn_wi 18 (by decide +kernel)
theorem mv_X1_empty : tn_MV m_X1_empty 0 := ⟨tn_wi 278 (by decide +kernel), tn_wi 84 (by decide +kernel), by decide +kernel, by decide +kernel⟩
theorem im_X1_empty : Cond.instanceMethod m_X1_empty.1 ∈ tn_tbl := tn_wi 277 (by decide +kernel)
theorem se_X1_empty : Cond.selects m_X1_empty.1.cls m_X1_empty.1 m_X1_empty.1 ∈ tn_tbl := tn_wi 3 (by decide +kernel)
theorem mv_X1_addHouse : tn_MV m_X1_addHouse 3 := ⟨tn_wi 311 (by decide +kernel), tn_wi 84 (by decide +kernel), by decide +kernel, by decide +kernel⟩
theorem im_X1_addHouse : Cond.instanceMethod m_X1_addHouse.1 ∈ tn_tbl := tn_wi 310 (by decide +kernel)
theorem se_X1_addHouse : Cond.selects m_X1_addHouse.1.cls m_X1_addHouse.1 m_X1_addHouse.1 ∈ tn_tbl := tn_wi 7 (by decide +kernel)
theorem mv_X1_addStone : tn_MV m_X1_addStone 1 := ⟨tn_wi 323 (by decide +kernel), tn_wi 84 (by decide +kernel), by decide +kernel, by decide +kernel⟩
theorem im_X1_addStone : Cond.instanceMethod m_X1_addStone.1 ∈ tn_tbl := tn_wi 322 (by decide +kernel)
theorem se_X1_addStone : Cond.selects m_X1_addStone.1.cls m_X1_addStone.1 m_X1_addStone.1 ∈ tn_tbl := tn_wi 10 (by decide +kernel)
theorem mv_X1_become : tn_MV m_X1_become 1 := ⟨tn_wi 331 (by decide +kernel), tn_wi 84 (by decide +kernel), by decide +kernel, by decide +kernel⟩
theorem im_X1_become : Cond.instanceMethod m_X1_become.1 ∈ tn_tbl := tn_wi 330 (by decide +kernel)
theorem se_X1_become : Cond.selects m_X1_become.1.cls m_X1_become.1 m_X1_become.1 ∈ tn_tbl := tn_wi 12 (by decide +kernel)
theorem mv_X1_voice : tn_MV m_X1_voice 0 := ⟨tn_wi 385 (by decide +kernel), tn_wi 84 (by decide +kernel), by decide +kernel, by decide +kernel⟩
theorem im_X1_voice : Cond.instanceMethod m_X1_voice.1 ∈ tn_tbl := tn_wi 384 (by decide +kernel)
theorem se_X1_voice : Cond.selects m_X1_voice.1.cls m_X1_voice.1 m_X1_voice.1 ∈ tn_tbl := tn_wi 20 (by decide +kernel)
theorem mv_X1_hatsLost : tn_MV m_X1_hatsLost 0 := ⟨tn_wi 457 (by decide +kernel), tn_wi 84 (by decide +kernel), by decide +kernel, by decide +kernel⟩
theorem im_X1_hatsLost : Cond.instanceMethod m_X1_hatsLost.1 ∈ tn_tbl := tn_wi 456 (by decide +kernel)
theorem se_X1_hatsLost : Cond.selects m_X1_hatsLost.1.cls m_X1_hatsLost.1 m_X1_hatsLost.1 ∈ tn_tbl := tn_wi 33 (by decide +kernel)
theorem mv_X1_ranklingSet : tn_MV m_X1_ranklingSet 0 := ⟨tn_wi 414 (by decide +kernel), tn_wi 84 (by decide +kernel), by decide +kernel, by decide +kernel⟩
theorem im_X1_ranklingSet : Cond.instanceMethod m_X1_ranklingSet.1 ∈ tn_tbl := tn_wi 413 (by decide +kernel)
theorem se_X1_ranklingSet : Cond.selects m_X1_ranklingSet.1.cls m_X1_ranklingSet.1 m_X1_ranklingSet.1 ∈ tn_tbl := tn_wi 25 (by decide +kernel)
theorem mv_X1_setCount : tn_MV m_X1_setCount 0 := ⟨tn_wi 481 (by decide +kernel), tn_wi 84 (by decide +kernel), by decide +kernel, by decide +kernel⟩
theorem im_X1_setCount : Cond.instanceMethod m_X1_setCount.1 ∈ tn_tbl := tn_wi 480 (by decide +kernel)
theorem se_X1_setCount : Cond.selects m_X1_setCount.1.cls m_X1_setCount.1 m_X1_setCount.1 ∈ tn_tbl := tn_wi 35 (by decide +kernel)
theorem mv_X1_doesSetRankle : tn_MV m_X1_doesSetRankle 1 := ⟨tn_wi 491 (by decide +kernel), tn_wi 84 (by decide +kernel), by decide +kernel, by decide +kernel⟩
theorem im_X1_doesSetRankle : Cond.instanceMethod m_X1_doesSetRankle.1 ∈ tn_tbl := tn_wi 490 (by decide +kernel)
theorem se_X1_doesSetRankle : Cond.selects m_X1_doesSetRankle.1.cls m_X1_doesSetRankle.1 m_X1_doesSetRankle.1 ∈ tn_tbl := tn_wi 36 (by decide +kernel)
theorem mv_X1_weightOfSet : tn_MV m_X1_weightOfSet 1 := ⟨tn_wi 507 (by decide +kernel), tn_wi 84 (by decide +kernel), by decide +kernel, by decide +kernel⟩
theorem im_X1_weightOfSet : Cond.instanceMethod m_X1_weightOfSet.1 ∈ tn_tbl := tn_wi 506 (by decide +kernel)
theorem se_X1_weightOfSet : Cond.selects m_X1_weightOfSet.1.cls m_X1_weightOfSet.1 m_X1_weightOfSet.1 ∈ tn_tbl := tn_wi 39 (by decide +kernel)
theorem mv_X1_ownUpAll : tn_MV m_X1_ownUpAll 1 := ⟨tn_wi 499 (by decide +kernel), tn_wi 84 (by decide +kernel), by decide +kernel, by decide +kernel⟩
theorem im_X1_ownUpAll : Cond.instanceMethod m_X1_ownUpAll.1 ∈ tn_tbl := tn_wi 498 (by decide +kernel)
theorem se_X1_ownUpAll : Cond.selects m_X1_ownUpAll.1.cls m_X1_ownUpAll.1 m_X1_ownUpAll.1 ∈ tn_tbl := tn_wi 38 (by decide +kernel)
theorem mv_X1_passNight : tn_MV m_X1_passNight 0 := ⟨tn_wi 403 (by decide +kernel), tn_wi 84 (by decide +kernel), by decide +kernel, by decide +kernel⟩
theorem im_X1_passNight : Cond.instanceMethod m_X1_passNight.1 ∈ tn_tbl := tn_wi 402 (by decide +kernel)
theorem se_X1_passNight : Cond.selects m_X1_passNight.1.cls m_X1_passNight.1 m_X1_passNight.1 ∈ tn_tbl := tn_wi 23 (by decide +kernel)
theorem mv_X1_passNights : tn_MV m_X1_passNights 1 := ⟨tn_wi 399 (by decide +kernel), tn_wi 84 (by decide +kernel), by decide +kernel, by decide +kernel⟩
theorem im_X1_passNights : Cond.instanceMethod m_X1_passNights.1 ∈ tn_tbl := tn_wi 398 (by decide +kernel)
theorem se_X1_passNights : Cond.selects m_X1_passNights.1.cls m_X1_passNights.1 m_X1_passNights.1 ∈ tn_tbl := tn_wi 22 (by decide +kernel)
theorem mv_X1_loseSleep : tn_MV m_X1_loseSleep 0 := ⟨tn_wi 409 (by decide +kernel), tn_wi 84 (by decide +kernel), by decide +kernel, by decide +kernel⟩
theorem im_X1_loseSleep : Cond.instanceMethod m_X1_loseSleep.1 ∈ tn_tbl := tn_wi 408 (by decide +kernel)
theorem se_X1_loseSleep : Cond.selects m_X1_loseSleep.1.cls m_X1_loseSleep.1 m_X1_loseSleep.1 ∈ tn_tbl := tn_wi 24 (by decide +kernel)
theorem mv_X1_layHeaviestStone : tn_MV m_X1_layHeaviestStone 0 := ⟨tn_wi 418 (by decide +kernel), tn_wi 84 (by decide +kernel), by decide +kernel, by decide +kernel⟩
theorem im_X1_layHeaviestStone : Cond.instanceMethod m_X1_layHeaviestStone.1 ∈ tn_tbl := tn_wi 417 (by decide +kernel)
theorem se_X1_layHeaviestStone : Cond.selects m_X1_layHeaviestStone.1.cls m_X1_layHeaviestStone.1 m_X1_layHeaviestStone.1 ∈ tn_tbl := tn_wi 26 (by decide +kernel)
theorem mv_X1_nightsUntilQuiet : tn_MV m_X1_nightsUntilQuiet 1 := ⟨tn_wi 470 (by decide +kernel), tn_wi 84 (by decide +kernel), by decide +kernel, by decide +kernel⟩
theorem im_X1_nightsUntilQuiet : Cond.instanceMethod m_X1_nightsUntilQuiet.1 ∈ tn_tbl := tn_wi 469 (by decide +kernel)
theorem se_X1_nightsUntilQuiet : Cond.selects m_X1_nightsUntilQuiet.1.cls m_X1_nightsUntilQuiet.1 m_X1_nightsUntilQuiet.1 ∈ tn_tbl := tn_wi 34 (by decide +kernel)
theorem mv_X1_acts : tn_MV m_X1_acts 1 := ⟨tn_wi 437 (by decide +kernel), tn_wi 84 (by decide +kernel), by decide +kernel, by decide +kernel⟩
theorem im_X1_acts : Cond.instanceMethod m_X1_acts.1 ∈ tn_tbl := tn_wi 436 (by decide +kernel)
theorem se_X1_acts : Cond.selects m_X1_acts.1.cls m_X1_acts.1 m_X1_acts.1 ∈ tn_tbl := tn_wi 28 (by decide +kernel)
theorem mv_X1_ownsAsAct : tn_MV m_X1_ownsAsAct 1 := ⟨tn_wi 441 (by decide +kernel), tn_wi 84 (by decide +kernel), by decide +kernel, by decide +kernel⟩
theorem im_X1_ownsAsAct : Cond.instanceMethod m_X1_ownsAsAct.1 ∈ tn_tbl := tn_wi 440 (by decide +kernel)
theorem se_X1_ownsAsAct : Cond.selects m_X1_ownsAsAct.1.cls m_X1_ownsAsAct.1 m_X1_ownsAsAct.1 ∈ tn_tbl := tn_wi 29 (by decide +kernel)
theorem mv_X1_sleepsAsAct : tn_MV m_X1_sleepsAsAct 1 := ⟨tn_wi 445 (by decide +kernel), tn_wi 84 (by decide +kernel), by decide +kernel, by decide +kernel⟩
theorem im_X1_sleepsAsAct : Cond.instanceMethod m_X1_sleepsAsAct.1 ∈ tn_tbl := tn_wi 444 (by decide +kernel)
theorem se_X1_sleepsAsAct : Cond.selects m_X1_sleepsAsAct.1.cls m_X1_sleepsAsAct.1 m_X1_sleepsAsAct.1 ∈ tn_tbl := tn_wi 30 (by decide +kernel)
theorem mv_X1_isLaidAsAct : tn_MV m_X1_isLaidAsAct 1 := ⟨tn_wi 449 (by decide +kernel), tn_wi 84 (by decide +kernel), by decide +kernel, by decide +kernel⟩
theorem im_X1_isLaidAsAct : Cond.instanceMethod m_X1_isLaidAsAct.1 ∈ tn_tbl := tn_wi 448 (by decide +kernel)
theorem se_X1_isLaidAsAct : Cond.selects m_X1_isLaidAsAct.1.cls m_X1_isLaidAsAct.1 m_X1_isLaidAsAct.1 ∈ tn_tbl := tn_wi 31 (by decide +kernel)
theorem mv_X2_init : tn_MV m_X2_init 0 := ⟨tn_wi 191 (by decide +kernel), tn_wi 87 (by decide +kernel), by decide +kernel, by decide +kernel⟩
theorem im_X2_init : Cond.instanceMethod m_X2_init.1 ∈ tn_tbl := tn_wi 190 (by decide +kernel)
theorem mv_X2_renew : tn_MV m_X2_renew 2 := ⟨tn_wi 573 (by decide +kernel), tn_wi 87 (by decide +kernel), by decide +kernel, by decide +kernel⟩
theorem im_X2_renew : Cond.instanceMethod m_X2_renew.1 ∈ tn_tbl := tn_wi 572 (by decide +kernel)
theorem se_X2_renew : Cond.selects m_X2_renew.1.cls m_X2_renew.1 m_X2_renew.1 ∈ tn_tbl := tn_wi 46 (by decide +kernel)
theorem mv_X2_hasCells : tn_MV m_X2_hasCells 2 := ⟨tn_wi 260 (by decide +kernel), tn_wi 87 (by decide +kernel), by decide +kernel, by decide +kernel⟩
theorem im_X2_hasCells : Cond.instanceMethod m_X2_hasCells.1 ∈ tn_tbl := tn_wi 259 (by decide +kernel)
theorem se_X2_hasCells : Cond.selects m_X2_hasCells.1.cls m_X2_hasCells.1 m_X2_hasCells.1 ∈ tn_tbl := tn_wi 0 (by decide +kernel)
theorem mv_X2_cutToLane : tn_MV m_X2_cutToLane 1 := ⟨tn_wi 585 (by decide +kernel), tn_wi 87 (by decide +kernel), by decide +kernel, by decide +kernel⟩
theorem im_X2_cutToLane : Cond.instanceMethod m_X2_cutToLane.1 ∈ tn_tbl := tn_wi 584 (by decide +kernel)
theorem se_X2_cutToLane : Cond.selects m_X2_cutToLane.1.cls m_X2_cutToLane.1 m_X2_cutToLane.1 ∈ tn_tbl := tn_wi 47 (by decide +kernel)
theorem mv_X3_init : tn_MV m_X3_init 0 := ⟨tn_wi 145 (by decide +kernel), tn_wi 86 (by decide +kernel), by decide +kernel, by decide +kernel⟩
theorem im_X3_init : Cond.instanceMethod m_X3_init.1 ∈ tn_tbl := tn_wi 144 (by decide +kernel)
theorem mv_X3_become : tn_MV m_X3_become 1 := ⟨tn_wi 339 (by decide +kernel), tn_wi 86 (by decide +kernel), by decide +kernel, by decide +kernel⟩
theorem im_X3_become : Cond.instanceMethod m_X3_become.1 ∈ tn_tbl := tn_wi 338 (by decide +kernel)
theorem se_X3_become : Cond.selects m_X3_become.1.cls m_X3_become.1 m_X3_become.1 ∈ tn_tbl := tn_wi 14 (by decide +kernel)
theorem mv_X4_init : tn_MV m_X4_init 1 := ⟨tn_wi 273 (by decide +kernel), tn_wi 89 (by decide +kernel), by decide +kernel, by decide +kernel⟩
theorem im_X4_init : Cond.instanceMethod m_X4_init.1 ∈ tn_tbl := tn_wi 272 (by decide +kernel)
theorem mv_X4_mayEnd : tn_MV m_X4_mayEnd 0 := ⟨tn_wi 327 (by decide +kernel), tn_wi 89 (by decide +kernel), by decide +kernel, by decide +kernel⟩
theorem im_X4_mayEnd : Cond.instanceMethod m_X4_mayEnd.1 ∈ tn_tbl := tn_wi 326 (by decide +kernel)
theorem se_X4_mayEnd : Cond.selects m_X4_mayEnd.1.cls m_X4_mayEnd.1 m_X4_mayEnd.1 ∈ tn_tbl := tn_wi 11 (by decide +kernel)
theorem mv_X4_takes : tn_MV m_X4_takes 1 := ⟨tn_wi 295 (by decide +kernel), tn_wi 89 (by decide +kernel), by decide +kernel, by decide +kernel⟩
theorem im_X4_takes : Cond.instanceMethod m_X4_takes.1 ∈ tn_tbl := tn_wi 294 (by decide +kernel)
theorem se_X4_takes : Cond.selects m_X4_takes.1.cls m_X4_takes.1 m_X4_takes.1 ∈ tn_tbl := tn_wi 4 (by decide +kernel)
theorem mv_X4_goesOn : tn_MV m_X4_goesOn 2 := ⟨tn_wi 299 (by decide +kernel), tn_wi 89 (by decide +kernel), by decide +kernel, by decide +kernel⟩
theorem im_X4_goesOn : Cond.instanceMethod m_X4_goesOn.1 ∈ tn_tbl := tn_wi 298 (by decide +kernel)
theorem se_X4_goesOn : Cond.selects m_X4_goesOn.1.cls m_X4_goesOn.1 m_X4_goesOn.1 ∈ tn_tbl := tn_wi 5 (by decide +kernel)
theorem mv_X4_kindOfLetter : tn_MV m_X4_kindOfLetter 1 := ⟨tn_wi 303 (by decide +kernel), tn_wi 89 (by decide +kernel), by decide +kernel, by decide +kernel⟩
theorem st_X4_kindOfLetter : Cond.static m_X4_kindOfLetter.1 ∈ tn_tbl := tn_wi 302 (by decide +kernel)
theorem mv_X4_takesSleep : tn_MV m_X4_takesSleep 1 := ⟨tn_wi 307 (by decide +kernel), tn_wi 89 (by decide +kernel), by decide +kernel, by decide +kernel⟩
theorem im_X4_takesSleep : Cond.instanceMethod m_X4_takesSleep.1 ∈ tn_tbl := tn_wi 306 (by decide +kernel)
theorem se_X4_takesSleep : Cond.selects m_X4_takesSleep.1.cls m_X4_takesSleep.1 m_X4_takesSleep.1 ∈ tn_tbl := tn_wi 6 (by decide +kernel)
theorem mv_X4_takesAfterHouse : tn_MV m_X4_takesAfterHouse 1 := ⟨tn_wi 315 (by decide +kernel), tn_wi 89 (by decide +kernel), by decide +kernel, by decide +kernel⟩
theorem im_X4_takesAfterHouse : Cond.instanceMethod m_X4_takesAfterHouse.1 ∈ tn_tbl := tn_wi 314 (by decide +kernel)
theorem se_X4_takesAfterHouse : Cond.selects m_X4_takesAfterHouse.1.cls m_X4_takesAfterHouse.1 m_X4_takesAfterHouse.1 ∈ tn_tbl := tn_wi 8 (by decide +kernel)
theorem mv_X4_takesStone : tn_MV m_X4_takesStone 1 := ⟨tn_wi 319 (by decide +kernel), tn_wi 89 (by decide +kernel), by decide +kernel, by decide +kernel⟩
theorem im_X4_takesStone : Cond.instanceMethod m_X4_takesStone.1 ∈ tn_tbl := tn_wi 318 (by decide +kernel)
theorem se_X4_takesStone : Cond.selects m_X4_takesStone.1.cls m_X4_takesStone.1 m_X4_takesStone.1 ∈ tn_tbl := tn_wi 9 (by decide +kernel)
theorem mv_X5_init : tn_MV m_X5_init 0 := ⟨tn_wi 97 (by decide +kernel), tn_wi 83 (by decide +kernel), by decide +kernel, by decide +kernel⟩
theorem im_X5_init : Cond.instanceMethod m_X5_init.1 ∈ tn_tbl := tn_wi 96 (by decide +kernel)
theorem mv_X5_parish : tn_MV m_X5_parish 4 := ⟨tn_wi 244 (by decide +kernel), tn_wi 83 (by decide +kernel), by decide +kernel, by decide +kernel⟩
theorem im_X5_parish : Cond.instanceMethod m_X5_parish.1 ∈ tn_tbl := tn_wi 242 (by decide +kernel)
theorem se_X5_parish : Cond.selects m_X5_parish.1.cls m_X5_parish.1 m_X5_parish.1 ∈ tn_tbl := tn_wi 243 (by decide +kernel)
theorem mv_X5_ofHouse : tn_MV m_X5_ofHouse 2 := ⟨tn_wi 343 (by decide +kernel), tn_wi 83 (by decide +kernel), by decide +kernel, by decide +kernel⟩
theorem im_X5_ofHouse : Cond.instanceMethod m_X5_ofHouse.1 ∈ tn_tbl := tn_wi 341 (by decide +kernel)
theorem se_X5_ofHouse : Cond.selects m_X5_ofHouse.1.cls m_X5_ofHouse.1 m_X5_ofHouse.1 ∈ tn_tbl := tn_wi 342 (by decide +kernel)
theorem mv_X5_ofStone : tn_MV m_X5_ofStone 2 := ⟨tn_wi 360 (by decide +kernel), tn_wi 83 (by decide +kernel), by decide +kernel, by decide +kernel⟩
theorem im_X5_ofStone : Cond.instanceMethod m_X5_ofStone.1 ∈ tn_tbl := tn_wi 358 (by decide +kernel)
theorem se_X5_ofStone : Cond.selects m_X5_ofStone.1.cls m_X5_ofStone.1 m_X5_ofStone.1 ∈ tn_tbl := tn_wi 359 (by decide +kernel)
theorem mv_X5_sleep : tn_MV m_X5_sleep 2 := ⟨tn_wi 368 (by decide +kernel), tn_wi 83 (by decide +kernel), by decide +kernel, by decide +kernel⟩
theorem im_X5_sleep : Cond.instanceMethod m_X5_sleep.1 ∈ tn_tbl := tn_wi 366 (by decide +kernel)
theorem se_X5_sleep : Cond.selects m_X5_sleep.1.cls m_X5_sleep.1 m_X5_sleep.1 ∈ tn_tbl := tn_wi 367 (by decide +kernel)
theorem mv_X5_own : tn_MV m_X5_own 1 := ⟨tn_wi 372 (by decide +kernel), tn_wi 83 (by decide +kernel), by decide +kernel, by decide +kernel⟩
theorem im_X5_own : Cond.instanceMethod m_X5_own.1 ∈ tn_tbl := tn_wi 370 (by decide +kernel)
theorem se_X5_own : Cond.selects m_X5_own.1.cls m_X5_own.1 m_X5_own.1 ∈ tn_tbl := tn_wi 371 (by decide +kernel)
theorem mv_X5_lay : tn_MV m_X5_lay 1 := ⟨tn_wi 381 (by decide +kernel), tn_wi 83 (by decide +kernel), by decide +kernel, by decide +kernel⟩
theorem im_X5_lay : Cond.instanceMethod m_X5_lay.1 ∈ tn_tbl := tn_wi 379 (by decide +kernel)
theorem se_X5_lay : Cond.selects m_X5_lay.1.cls m_X5_lay.1 m_X5_lay.1 ∈ tn_tbl := tn_wi 380 (by decide +kernel)
theorem mv_X5_night : tn_MV m_X5_night 1 := ⟨tn_wi 391 (by decide +kernel), tn_wi 83 (by decide +kernel), by decide +kernel, by decide +kernel⟩
theorem im_X5_night : Cond.instanceMethod m_X5_night.1 ∈ tn_tbl := tn_wi 389 (by decide +kernel)
theorem se_X5_night : Cond.selects m_X5_night.1.cls m_X5_night.1 m_X5_night.1 ∈ tn_tbl := tn_wi 390 (by decide +kernel)
theorem mv_X5_day : tn_MV m_X5_day 5 := ⟨tn_wi 423 (by decide +kernel), tn_wi 83 (by decide +kernel), by decide +kernel, by decide +kernel⟩
theorem im_X5_day : Cond.instanceMethod m_X5_day.1 ∈ tn_tbl := tn_wi 421 (by decide +kernel)
theorem se_X5_day : Cond.selects m_X5_day.1.cls m_X5_day.1 m_X5_day.1 ∈ tn_tbl := tn_wi 422 (by decide +kernel)
theorem mv_X5_behind : tn_MV m_X5_behind 2 := ⟨tn_wi 462 (by decide +kernel), tn_wi 83 (by decide +kernel), by decide +kernel, by decide +kernel⟩
theorem im_X5_behind : Cond.instanceMethod m_X5_behind.1 ∈ tn_tbl := tn_wi 460 (by decide +kernel)
theorem se_X5_behind : Cond.selects m_X5_behind.1.cls m_X5_behind.1 m_X5_behind.1 ∈ tn_tbl := tn_wi 461 (by decide +kernel)
theorem mv_X5_quiet : tn_MV m_X5_quiet 0 := ⟨tn_wi 466 (by decide +kernel), tn_wi 83 (by decide +kernel), by decide +kernel, by decide +kernel⟩
theorem im_X5_quiet : Cond.instanceMethod m_X5_quiet.1 ∈ tn_tbl := tn_wi 464 (by decide +kernel)
theorem se_X5_quiet : Cond.selects m_X5_quiet.1.cls m_X5_quiet.1 m_X5_quiet.1 ∈ tn_tbl := tn_wi 465 (by decide +kernel)
theorem mv_X5_fewest : tn_MV m_X5_fewest 2 := ⟨tn_wi 477 (by decide +kernel), tn_wi 83 (by decide +kernel), by decide +kernel, by decide +kernel⟩
theorem im_X5_fewest : Cond.instanceMethod m_X5_fewest.1 ∈ tn_tbl := tn_wi 475 (by decide +kernel)
theorem se_X5_fewest : Cond.selects m_X5_fewest.1.cls m_X5_fewest.1 m_X5_fewest.1 ∈ tn_tbl := tn_wi 476 (by decide +kernel)
theorem mv_X5_claps : tn_MV m_X5_claps 2 := ⟨tn_wi 503 (by decide +kernel), tn_wi 83 (by decide +kernel), by decide +kernel, by decide +kernel⟩
theorem im_X5_claps : Cond.instanceMethod m_X5_claps.1 ∈ tn_tbl := tn_wi 501 (by decide +kernel)
theorem se_X5_claps : Cond.selects m_X5_claps.1.cls m_X5_claps.1 m_X5_claps.1 ∈ tn_tbl := tn_wi 502 (by decide +kernel)
theorem mv_X5_rests : tn_MV m_X5_rests 2 := ⟨tn_wi 511 (by decide +kernel), tn_wi 83 (by decide +kernel), by decide +kernel, by decide +kernel⟩
theorem im_X5_rests : Cond.instanceMethod m_X5_rests.1 ∈ tn_tbl := tn_wi 509 (by decide +kernel)
theorem se_X5_rests : Cond.selects m_X5_rests.1.cls m_X5_rests.1 m_X5_rests.1 ∈ tn_tbl := tn_wi 510 (by decide +kernel)
theorem mv_X5_reading : tn_MV m_X5_reading 2 := ⟨tn_wi 527 (by decide +kernel), tn_wi 83 (by decide +kernel), by decide +kernel, by decide +kernel⟩
theorem im_X5_reading : Cond.instanceMethod m_X5_reading.1 ∈ tn_tbl := tn_wi 525 (by decide +kernel)
theorem se_X5_reading : Cond.selects m_X5_reading.1.cls m_X5_reading.1 m_X5_reading.1 ∈ tn_tbl := tn_wi 526 (by decide +kernel)
theorem mv_X5_back : tn_MV m_X5_back 1 := ⟨tn_wi 532 (by decide +kernel), tn_wi 83 (by decide +kernel), by decide +kernel, by decide +kernel⟩
theorem im_X5_back : Cond.instanceMethod m_X5_back.1 ∈ tn_tbl := tn_wi 530 (by decide +kernel)
theorem se_X5_back : Cond.selects m_X5_back.1.cls m_X5_back.1 m_X5_back.1 ∈ tn_tbl := tn_wi 531 (by decide +kernel)
theorem mv_X5_kinds : tn_MV m_X5_kinds 1 := ⟨tn_wi 536 (by decide +kernel), tn_wi 83 (by decide +kernel), by decide +kernel, by decide +kernel⟩
theorem im_X5_kinds : Cond.instanceMethod m_X5_kinds.1 ∈ tn_tbl := tn_wi 534 (by decide +kernel)
theorem se_X5_kinds : Cond.selects m_X5_kinds.1.cls m_X5_kinds.1 m_X5_kinds.1 ∈ tn_tbl := tn_wi 535 (by decide +kernel)
theorem mv_X5_wrongs : tn_MV m_X5_wrongs 1 := ⟨tn_wi 556 (by decide +kernel), tn_wi 83 (by decide +kernel), by decide +kernel, by decide +kernel⟩
theorem im_X5_wrongs : Cond.instanceMethod m_X5_wrongs.1 ∈ tn_tbl := tn_wi 554 (by decide +kernel)
theorem se_X5_wrongs : Cond.selects m_X5_wrongs.1.cls m_X5_wrongs.1 m_X5_wrongs.1 ∈ tn_tbl := tn_wi 555 (by decide +kernel)
theorem mv_X5_steps : tn_MV m_X5_steps 0 := ⟨tn_wi 560 (by decide +kernel), tn_wi 83 (by decide +kernel), by decide +kernel, by decide +kernel⟩
theorem im_X5_steps : Cond.instanceMethod m_X5_steps.1 ∈ tn_tbl := tn_wi 558 (by decide +kernel)
theorem se_X5_steps : Cond.selects m_X5_steps.1.cls m_X5_steps.1 m_X5_steps.1 ∈ tn_tbl := tn_wi 559 (by decide +kernel)
theorem mv_X5_odds : tn_MV m_X5_odds 2 := ⟨tn_wi 564 (by decide +kernel), tn_wi 83 (by decide +kernel), by decide +kernel, by decide +kernel⟩
theorem im_X5_odds : Cond.instanceMethod m_X5_odds.1 ∈ tn_tbl := tn_wi 562 (by decide +kernel)
theorem se_X5_odds : Cond.selects m_X5_odds.1.cls m_X5_odds.1 m_X5_odds.1 ∈ tn_tbl := tn_wi 563 (by decide +kernel)
theorem mv_X5_sheet : tn_MV m_X5_sheet 3 := ⟨tn_wi 569 (by decide +kernel), tn_wi 83 (by decide +kernel), by decide +kernel, by decide +kernel⟩
theorem im_X5_sheet : Cond.instanceMethod m_X5_sheet.1 ∈ tn_tbl := tn_wi 567 (by decide +kernel)
theorem se_X5_sheet : Cond.selects m_X5_sheet.1.cls m_X5_sheet.1 m_X5_sheet.1 ∈ tn_tbl := tn_wi 568 (by decide +kernel)
theorem mv_X5_lose : tn_MV m_X5_lose 1 := ⟨tn_wi 577 (by decide +kernel), tn_wi 83 (by decide +kernel), by decide +kernel, by decide +kernel⟩
theorem im_X5_lose : Cond.instanceMethod m_X5_lose.1 ∈ tn_tbl := tn_wi 575 (by decide +kernel)
theorem se_X5_lose : Cond.selects m_X5_lose.1.cls m_X5_lose.1 m_X5_lose.1 ∈ tn_tbl := tn_wi 576 (by decide +kernel)
theorem mv_X5_put : tn_MV m_X5_put 3 := ⟨tn_wi 581 (by decide +kernel), tn_wi 83 (by decide +kernel), by decide +kernel, by decide +kernel⟩
theorem im_X5_put : Cond.instanceMethod m_X5_put.1 ∈ tn_tbl := tn_wi 579 (by decide +kernel)
theorem se_X5_put : Cond.selects m_X5_put.1.cls m_X5_put.1 m_X5_put.1 ∈ tn_tbl := tn_wi 580 (by decide +kernel)
theorem mv_X5_cell : tn_MV m_X5_cell 3 := ⟨tn_wi 589 (by decide +kernel), tn_wi 83 (by decide +kernel), by decide +kernel, by decide +kernel⟩
theorem im_X5_cell : Cond.instanceMethod m_X5_cell.1 ∈ tn_tbl := tn_wi 587 (by decide +kernel)
theorem se_X5_cell : Cond.selects m_X5_cell.1.cls m_X5_cell.1 m_X5_cell.1 ∈ tn_tbl := tn_wi 588 (by decide +kernel)
theorem mv_X5_copy : tn_MV m_X5_copy 5 := ⟨tn_wi 593 (by decide +kernel), tn_wi 83 (by decide +kernel), by decide +kernel, by decide +kernel⟩
theorem im_X5_copy : Cond.instanceMethod m_X5_copy.1 ∈ tn_tbl := tn_wi 591 (by decide +kernel)
theorem se_X5_copy : Cond.selects m_X5_copy.1.cls m_X5_copy.1 m_X5_copy.1 ∈ tn_tbl := tn_wi 592 (by decide +kernel)
theorem mv_X5_tell : tn_MV m_X5_tell 1 := ⟨tn_wi 600 (by decide +kernel), tn_wi 83 (by decide +kernel), by decide +kernel, by decide +kernel⟩
theorem im_X5_tell : Cond.instanceMethod m_X5_tell.1 ∈ tn_tbl := tn_wi 598 (by decide +kernel)
theorem se_X5_tell : Cond.selects m_X5_tell.1.cls m_X5_tell.1 m_X5_tell.1 ∈ tn_tbl := tn_wi 599 (by decide +kernel)
theorem mv_X5_knock : tn_MV m_X5_knock 1 := ⟨tn_wi 620 (by decide +kernel), tn_wi 83 (by decide +kernel), by decide +kernel, by decide +kernel⟩
theorem im_X5_knock : Cond.instanceMethod m_X5_knock.1 ∈ tn_tbl := tn_wi 618 (by decide +kernel)
theorem se_X5_knock : Cond.selects m_X5_knock.1.cls m_X5_knock.1 m_X5_knock.1 ∈ tn_tbl := tn_wi 619 (by decide +kernel)
theorem mv_X5_as : tn_MV m_X5_as 2 := ⟨tn_wi 632 (by decide +kernel), tn_wi 83 (by decide +kernel), by decide +kernel, by decide +kernel⟩
theorem im_X5_as : Cond.instanceMethod m_X5_as.1 ∈ tn_tbl := tn_wi 630 (by decide +kernel)
theorem se_X5_as : Cond.selects m_X5_as.1.cls m_X5_as.1 m_X5_as.1 ∈ tn_tbl := tn_wi 631 (by decide +kernel)
theorem mv_X5_trace : tn_MV m_X5_trace 0 := ⟨tn_wi 636 (by decide +kernel), tn_wi 83 (by decide +kernel), by decide +kernel, by decide +kernel⟩
theorem im_X5_trace : Cond.instanceMethod m_X5_trace.1 ∈ tn_tbl := tn_wi 634 (by decide +kernel)
theorem se_X5_trace : Cond.selects m_X5_trace.1.cls m_X5_trace.1 m_X5_trace.1 ∈ tn_tbl := tn_wi 635 (by decide +kernel)
theorem mv_X5_fault : tn_MV m_X5_fault 0 := ⟨tn_wi 640 (by decide +kernel), tn_wi 83 (by decide +kernel), by decide +kernel, by decide +kernel⟩
theorem im_X5_fault : Cond.instanceMethod m_X5_fault.1 ∈ tn_tbl := tn_wi 638 (by decide +kernel)
theorem se_X5_fault : Cond.selects m_X5_fault.1.cls m_X5_fault.1 m_X5_fault.1 ∈ tn_tbl := tn_wi 639 (by decide +kernel)
theorem mv_X5_many : tn_MV m_X5_many 1 := ⟨tn_wi 644 (by decide +kernel), tn_wi 83 (by decide +kernel), by decide +kernel, by decide +kernel⟩
theorem im_X5_many : Cond.instanceMethod m_X5_many.1 ∈ tn_tbl := tn_wi 642 (by decide +kernel)
theorem se_X5_many : Cond.selects m_X5_many.1.cls m_X5_many.1 m_X5_many.1 ∈ tn_tbl := tn_wi 643 (by decide +kernel)
theorem mv_X5_isWithin : tn_MV m_X5_isWithin 3 := ⟨tn_wi 250 (by decide +kernel), tn_wi 83 (by decide +kernel), by decide +kernel, by decide +kernel⟩
theorem st_X5_isWithin : Cond.static m_X5_isWithin.1 ∈ tn_tbl := tn_wi 249 (by decide +kernel)
theorem mv_X5_isSheet : tn_MV m_X5_isSheet 1 := ⟨tn_wi 247 (by decide +kernel), tn_wi 83 (by decide +kernel), by decide +kernel, by decide +kernel⟩
theorem st_X5_isSheet : Cond.static m_X5_isSheet.1 ∈ tn_tbl := tn_wi 246 (by decide +kernel)
theorem mv_X5_isLane : tn_MV m_X5_isLane 1 := ⟨tn_wi 253 (by decide +kernel), tn_wi 83 (by decide +kernel), by decide +kernel, by decide +kernel⟩
theorem st_X5_isLane : Cond.static m_X5_isLane.1 ∈ tn_tbl := tn_wi 252 (by decide +kernel)
theorem mv_X5_isAskedOfDay : tn_MV m_X5_isAskedOfDay 1 := ⟨tn_wi 426 (by decide +kernel), tn_wi 83 (by decide +kernel), by decide +kernel, by decide +kernel⟩
theorem st_X5_isAskedOfDay : Cond.static m_X5_isAskedOfDay.1 ∈ tn_tbl := tn_wi 425 (by decide +kernel)
theorem mv_X5_hasParish : tn_MV m_X5_hasParish 0 := ⟨tn_wi 395 (by decide +kernel), tn_wi 83 (by decide +kernel), by decide +kernel, by decide +kernel⟩
theorem im_X5_hasParish : Cond.instanceMethod m_X5_hasParish.1 ∈ tn_tbl := tn_wi 394 (by decide +kernel)
theorem se_X5_hasParish : Cond.selects m_X5_hasParish.1.cls m_X5_hasParish.1 m_X5_hasParish.1 ∈ tn_tbl := tn_wi 21 (by decide +kernel)
theorem mv_X5_faulted : tn_MV m_X5_faulted 1 := ⟨tn_wi 264 (by decide +kernel), tn_wi 83 (by decide +kernel), by decide +kernel, by decide +kernel⟩
theorem im_X5_faulted : Cond.instanceMethod m_X5_faulted.1 ∈ tn_tbl := tn_wi 263 (by decide +kernel)
theorem se_X5_faulted : Cond.selects m_X5_faulted.1.cls m_X5_faulted.1 m_X5_faulted.1 ∈ tn_tbl := tn_wi 1 (by decide +kernel)
theorem mv_X5_faultOfCells : tn_MV m_X5_faultOfCells 4 := ⟨tn_wi 256 (by decide +kernel), tn_wi 83 (by decide +kernel), by decide +kernel, by decide +kernel⟩
theorem st_X5_faultOfCells : Cond.static m_X5_faultOfCells.1 ∈ tn_tbl := tn_wi 255 (by decide +kernel)
theorem mv_X5_firstFaultOfText : tn_MV m_X5_firstFaultOfText 3 := ⟨tn_wi 268 (by decide +kernel), tn_wi 83 (by decide +kernel), by decide +kernel, by decide +kernel⟩
theorem im_X5_firstFaultOfText : Cond.instanceMethod m_X5_firstFaultOfText.1 ∈ tn_tbl := tn_wi 267 (by decide +kernel)
theorem se_X5_firstFaultOfText : Cond.selects m_X5_firstFaultOfText.1.cls m_X5_firstFaultOfText.1 m_X5_firstFaultOfText.1 ∈ tn_tbl := tn_wi 2 (by decide +kernel)
theorem mv_X5_areActs : tn_MV m_X5_areActs 3 := ⟨tn_wi 429 (by decide +kernel), tn_wi 83 (by decide +kernel), by decide +kernel, by decide +kernel⟩
theorem st_X5_areActs : Cond.static m_X5_areActs.1 ∈ tn_tbl := tn_wi 428 (by decide +kernel)
theorem mv_X5_firstWrongOfDay : tn_MV m_X5_firstWrongOfDay 3 := ⟨tn_wi 433 (by decide +kernel), tn_wi 83 (by decide +kernel), by decide +kernel, by decide +kernel⟩
theorem im_X5_firstWrongOfDay : Cond.instanceMethod m_X5_firstWrongOfDay.1 ∈ tn_tbl := tn_wi 432 (by decide +kernel)
theorem se_X5_firstWrongOfDay : Cond.selects m_X5_firstWrongOfDay.1.cls m_X5_firstWrongOfDay.1 m_X5_firstWrongOfDay.1 ∈ tn_tbl := tn_wi 27 (by decide +kernel)
theorem mv_X5_afterDay : tn_MV m_X5_afterDay 1 := ⟨tn_wi 453 (by decide +kernel), tn_wi 83 (by decide +kernel), by decide +kernel, by decide +kernel⟩
theorem im_X5_afterDay : Cond.instanceMethod m_X5_afterDay.1 ∈ tn_tbl := tn_wi 452 (by decide +kernel)
theorem se_X5_afterDay : Cond.selects m_X5_afterDay.1.cls m_X5_afterDay.1 m_X5_afterDay.1 ∈ tn_tbl := tn_wi 32 (by decide +kernel)
theorem mv_X5_isQuietIfOwned : tn_MV m_X5_isQuietIfOwned 2 := ⟨tn_wi 495 (by decide +kernel), tn_wi 83 (by decide +kernel), by decide +kernel, by decide +kernel⟩
theorem im_X5_isQuietIfOwned : Cond.instanceMethod m_X5_isQuietIfOwned.1 ∈ tn_tbl := tn_wi 494 (by decide +kernel)
theorem se_X5_isQuietIfOwned : Cond.selects m_X5_isQuietIfOwned.1.cls m_X5_isQuietIfOwned.1 m_X5_isQuietIfOwned.1 ∈ tn_tbl := tn_wi 37 (by decide +kernel)
theorem mv_X5_nightsIfChosen : tn_MV m_X5_nightsIfChosen 3 := ⟨tn_wi 515 (by decide +kernel), tn_wi 83 (by decide +kernel), by decide +kernel, by decide +kernel⟩
theorem im_X5_nightsIfChosen : Cond.instanceMethod m_X5_nightsIfChosen.1 ∈ tn_tbl := tn_wi 514 (by decide +kernel)
theorem se_X5_nightsIfChosen : Cond.selects m_X5_nightsIfChosen.1.cls m_X5_nightsIfChosen.1 m_X5_nightsIfChosen.1 ∈ tn_tbl := tn_wi 40 (by decide +kernel)
theorem mv_X5_isContent : tn_MV m_X5_isContent 3 := ⟨tn_wi 519 (by decide +kernel), tn_wi 83 (by decide +kernel), by decide +kernel, by decide +kernel⟩
theorem im_X5_isContent : Cond.instanceMethod m_X5_isContent.1 ∈ tn_tbl := tn_wi 518 (by decide +kernel)
theorem se_X5_isContent : Cond.selects m_X5_isContent.1.cls m_X5_isContent.1 m_X5_isContent.1 ∈ tn_tbl := tn_wi 41 (by decide +kernel)
theorem mv_X5_painOfChoice : tn_MV m_X5_painOfChoice 3 := ⟨tn_wi 523 (by decide +kernel), tn_wi 83 (by decide +kernel), by decide +kernel, by decide +kernel⟩
theorem im_X5_painOfChoice : Cond.instanceMethod m_X5_painOfChoice.1 ∈ tn_tbl := tn_wi 522 (by decide +kernel)
theorem se_X5_painOfChoice : Cond.selects m_X5_painOfChoice.1.cls m_X5_painOfChoice.1 m_X5_painOfChoice.1 ∈ tn_tbl := tn_wi 42 (by decide +kernel)
theorem mv_X5_doReadingsHoldOfTrial : tn_MV m_X5_doReadingsHoldOfTrial 0 := ⟨tn_wi 540 (by decide +kernel), tn_wi 83 (by decide +kernel), by decide +kernel, by decide +kernel⟩
theorem im_X5_doReadingsHoldOfTrial : Cond.instanceMethod m_X5_doReadingsHoldOfTrial.1 ∈ tn_tbl := tn_wi 539 (by decide +kernel)
theorem se_X5_doReadingsHoldOfTrial : Cond.selects m_X5_doReadingsHoldOfTrial.1.cls m_X5_doReadingsHoldOfTrial.1 m_X5_doReadingsHoldOfTrial.1 ∈ tn_tbl := tn_wi 43 (by decide +kernel)
theorem mv_X5_lastNightRead : tn_MV m_X5_lastNightRead 0 := ⟨tn_wi 544 (by decide +kernel), tn_wi 83 (by decide +kernel), by decide +kernel, by decide +kernel⟩
theorem im_X5_lastNightRead : Cond.instanceMethod m_X5_lastNightRead.1 ∈ tn_tbl := tn_wi 543 (by decide +kernel)
theorem se_X5_lastNightRead : Cond.selects m_X5_lastNightRead.1.cls m_X5_lastNightRead.1 m_X5_lastNightRead.1 ∈ tn_tbl := tn_wi 44 (by decide +kernel)
theorem mv_X5_isVoiceAsRead : tn_MV m_X5_isVoiceAsRead 2 := ⟨tn_wi 551 (by decide +kernel), tn_wi 83 (by decide +kernel), by decide +kernel, by decide +kernel⟩
theorem im_X5_isVoiceAsRead : Cond.instanceMethod m_X5_isVoiceAsRead.1 ∈ tn_tbl := tn_wi 550 (by decide +kernel)
theorem se_X5_isVoiceAsRead : Cond.selects m_X5_isVoiceAsRead.1.cls m_X5_isVoiceAsRead.1 m_X5_isVoiceAsRead.1 ∈ tn_tbl := tn_wi 45 (by decide +kernel)
theorem mv_X5_leaveInTrace : tn_MV m_X5_leaveInTrace 1 := ⟨tn_wi 608 (by decide +kernel), tn_wi 83 (by decide +kernel), by decide +kernel, by decide +kernel⟩
theorem im_X5_leaveInTrace : Cond.instanceMethod m_X5_leaveInTrace.1 ∈ tn_tbl := tn_wi 607 (by decide +kernel)
theorem se_X5_leaveInTrace : Cond.selects m_X5_leaveInTrace.1.cls m_X5_leaveInTrace.1 m_X5_leaveInTrace.1 ∈ tn_tbl := tn_wi 49 (by decide +kernel)
theorem mv_X5_toldAsPlain : tn_MV m_X5_toldAsPlain 1 := ⟨tn_wi 616 (by decide +kernel), tn_wi 83 (by decide +kernel), by decide +kernel, by decide +kernel⟩
theorem im_X5_toldAsPlain : Cond.instanceMethod m_X5_toldAsPlain.1 ∈ tn_tbl := tn_wi 615 (by decide +kernel)
theorem se_X5_toldAsPlain : Cond.selects m_X5_toldAsPlain.1.cls m_X5_toldAsPlain.1 m_X5_toldAsPlain.1 ∈ tn_tbl := tn_wi 51 (by decide +kernel)
theorem mv_X5_toldAsBrooding : tn_MV m_X5_toldAsBrooding 1 := ⟨tn_wi 612 (by decide +kernel), tn_wi 83 (by decide +kernel), by decide +kernel, by decide +kernel⟩
theorem im_X5_toldAsBrooding : Cond.instanceMethod m_X5_toldAsBrooding.1 ∈ tn_tbl := tn_wi 611 (by decide +kernel)
theorem se_X5_toldAsBrooding : Cond.selects m_X5_toldAsBrooding.1.cls m_X5_toldAsBrooding.1 m_X5_toldAsBrooding.1 ∈ tn_tbl := tn_wi 50 (by decide +kernel)
theorem mv_X5_toldAsDouble : tn_MV m_X5_toldAsDouble 1 := ⟨tn_wi 604 (by decide +kernel), tn_wi 83 (by decide +kernel), by decide +kernel, by decide +kernel⟩
theorem im_X5_toldAsDouble : Cond.instanceMethod m_X5_toldAsDouble.1 ∈ tn_tbl := tn_wi 603 (by decide +kernel)
theorem se_X5_toldAsDouble : Cond.selects m_X5_toldAsDouble.1.cls m_X5_toldAsDouble.1 m_X5_toldAsDouble.1 ∈ tn_tbl := tn_wi 48 (by decide +kernel)
theorem mv_X5_knockedAsLent : tn_MV m_X5_knockedAsLent 1 := ⟨tn_wi 628 (by decide +kernel), tn_wi 83 (by decide +kernel), by decide +kernel, by decide +kernel⟩
theorem im_X5_knockedAsLent : Cond.instanceMethod m_X5_knockedAsLent.1 ∈ tn_tbl := tn_wi 627 (by decide +kernel)
theorem se_X5_knockedAsLent : Cond.selects m_X5_knockedAsLent.1.cls m_X5_knockedAsLent.1 m_X5_knockedAsLent.1 ∈ tn_tbl := tn_wi 53 (by decide +kernel)
theorem mv_X5_knockedAsDouble : tn_MV m_X5_knockedAsDouble 0 := ⟨tn_wi 624 (by decide +kernel), tn_wi 83 (by decide +kernel), by decide +kernel, by decide +kernel⟩
theorem im_X5_knockedAsDouble : Cond.instanceMethod m_X5_knockedAsDouble.1 ∈ tn_tbl := tn_wi 623 (by decide +kernel)
theorem se_X5_knockedAsDouble : Cond.selects m_X5_knockedAsDouble.1.cls m_X5_knockedAsDouble.1 m_X5_knockedAsDouble.1 ∈ tn_tbl := tn_wi 52 (by decide +kernel)
theorem mv_X6_init : tn_MV m_X6_init 0 := ⟨tn_wi 649 (by decide +kernel), tn_wi 88 (by decide +kernel), by decide +kernel, by decide +kernel⟩
theorem im_X6_init : Cond.instanceMethod m_X6_init.1 ∈ tn_tbl := tn_wi 648 (by decide +kernel)
theorem mv_X6_fails : tn_MV m_X6_fails 1 := ⟨tn_wi 759 (by decide +kernel), tn_wi 88 (by decide +kernel), by decide +kernel, by decide +kernel⟩
theorem im_X6_fails : Cond.instanceMethod m_X6_fails.1 ∈ tn_tbl := tn_wi 758 (by decide +kernel)
theorem se_X6_fails : Cond.selects m_X6_fails.1.cls m_X6_fails.1 m_X6_fails.1 ∈ tn_tbl := tn_wi 55 (by decide +kernel)
theorem mv_X6_lost : tn_MV m_X6_lost 1 := ⟨tn_wi 957 (by decide +kernel), tn_wi 88 (by decide +kernel), by decide +kernel, by decide +kernel⟩
theorem im_X6_lost : Cond.instanceMethod m_X6_lost.1 ∈ tn_tbl := tn_wi 956 (by decide +kernel)
theorem se_X6_lost : Cond.selects m_X6_lost.1.cls m_X6_lost.1 m_X6_lost.1 ∈ tn_tbl := tn_wi 80 (by decide +kernel)
theorem mv_X6_within : tn_MV m_X6_within 3 := ⟨tn_wi 748 (by decide +kernel), tn_wi 88 (by decide +kernel), by decide +kernel, by decide +kernel⟩
theorem st_X6_within : Cond.static m_X6_within.1 ∈ tn_tbl := tn_wi 747 (by decide +kernel)
theorem mv_X6_isSheet : tn_MV m_X6_isSheet 1 := ⟨tn_wi 745 (by decide +kernel), tn_wi 88 (by decide +kernel), by decide +kernel, by decide +kernel⟩
theorem st_X6_isSheet : Cond.static m_X6_isSheet.1 ∈ tn_tbl := tn_wi 744 (by decide +kernel)
theorem mv_X6_isSort : tn_MV m_X6_isSort 1 := ⟨tn_wi 751 (by decide +kernel), tn_wi 88 (by decide +kernel), by decide +kernel, by decide +kernel⟩
theorem st_X6_isSort : Cond.static m_X6_isSort.1 ∈ tn_tbl := tn_wi 750 (by decide +kernel)
theorem mv_X6_against : tn_MV m_X6_against 4 := ⟨tn_wi 755 (by decide +kernel), tn_wi 88 (by decide +kernel), by decide +kernel, by decide +kernel⟩
theorem im_X6_against : Cond.instanceMethod m_X6_against.1 ∈ tn_tbl := tn_wi 754 (by decide +kernel)
theorem se_X6_against : Cond.selects m_X6_against.1.cls m_X6_against.1 m_X6_against.1 ∈ tn_tbl := tn_wi 54 (by decide +kernel)
theorem mv_X6_isHouse : tn_MV m_X6_isHouse 1 := ⟨tn_wi 791 (by decide +kernel), tn_wi 88 (by decide +kernel), by decide +kernel, by decide +kernel⟩
theorem im_X6_isHouse : Cond.instanceMethod m_X6_isHouse.1 ∈ tn_tbl := tn_wi 790 (by decide +kernel)
theorem se_X6_isHouse : Cond.selects m_X6_isHouse.1.cls m_X6_isHouse.1 m_X6_isHouse.1 ∈ tn_tbl := tn_wi 62 (by decide +kernel)
theorem mv_X6_isStone : tn_MV m_X6_isStone 1 := ⟨tn_wi 810 (by decide +kernel), tn_wi 88 (by decide +kernel), by decide +kernel, by decide +kernel⟩
theorem im_X6_isStone : Cond.instanceMethod m_X6_isStone.1 ∈ tn_tbl := tn_wi 809 (by decide +kernel)
theorem se_X6_isStone : Cond.selects m_X6_isStone.1.cls m_X6_isStone.1 m_X6_isStone.1 ∈ tn_tbl := tn_wi 65 (by decide +kernel)
theorem mv_X6_isOf : tn_MV m_X6_isOf 2 := ⟨tn_wi 802 (by decide +kernel), tn_wi 88 (by decide +kernel), by decide +kernel, by decide +kernel⟩
theorem st_X6_isOf : Cond.static m_X6_isOf.1 ∈ tn_tbl := tn_wi 801 (by decide +kernel)
theorem mv_X6_size : tn_MV m_X6_size 1 := ⟨tn_wi 889 (by decide +kernel), tn_wi 88 (by decide +kernel), by decide +kernel, by decide +kernel⟩
theorem st_X6_size : Cond.static m_X6_size.1 ∈ tn_tbl := tn_wi 888 (by decide +kernel)
theorem mv_X6_digit : tn_MV m_X6_digit 3 := ⟨tn_wi 771 (by decide +kernel), tn_wi 88 (by decide +kernel), by decide +kernel, by decide +kernel⟩
theorem im_X6_digit : Cond.instanceMethod m_X6_digit.1 ∈ tn_tbl := tn_wi 770 (by decide +kernel)
theorem se_X6_digit : Cond.selects m_X6_digit.1.cls m_X6_digit.1 m_X6_digit.1 ∈ tn_tbl := tn_wi 58 (by decide +kernel)
theorem mv_X6_isSign : tn_MV m_X6_isSign 2 := ⟨tn_wi 767 (by decide +kernel), tn_wi 88 (by decide +kernel), by decide +kernel, by decide +kernel⟩
theorem im_X6_isSign : Cond.instanceMethod m_X6_isSign.1 ∈ tn_tbl := tn_wi 766 (by decide +kernel)
theorem se_X6_isSign : Cond.selects m_X6_isSign.1.cls m_X6_isSign.1 m_X6_isSign.1 ∈ tn_tbl := tn_wi 57 (by decide +kernel)
theorem mv_X6_parish : tn_MV m_X6_parish 4 := ⟨tn_wi 742 (by decide +kernel), tn_wi 88 (by decide +kernel), by decide +kernel, by decide +kernel⟩
theorem im_X6_parish : Cond.instanceMethod m_X6_parish.1 ∈ tn_tbl := tn_wi 740 (by decide +kernel)
theorem se_X6_parish : Cond.selects m_X6_parish.1.cls m_X6_parish.1 m_X6_parish.1 ∈ tn_tbl := tn_wi 741 (by decide +kernel)
theorem mv_X6_takeParish : tn_MV m_X6_takeParish 0 := ⟨tn_wi 783 (by decide +kernel), tn_wi 88 (by decide +kernel), by decide +kernel, by decide +kernel⟩
theorem im_X6_takeParish : Cond.instanceMethod m_X6_takeParish.1 ∈ tn_tbl := tn_wi 782 (by decide +kernel)
theorem se_X6_takeParish : Cond.selects m_X6_takeParish.1.cls m_X6_takeParish.1 m_X6_takeParish.1 ∈ tn_tbl := tn_wi 61 (by decide +kernel)
theorem mv_X6_readParish : tn_MV m_X6_readParish 1 := ⟨tn_wi 763 (by decide +kernel), tn_wi 88 (by decide +kernel), by decide +kernel, by decide +kernel⟩
theorem im_X6_readParish : Cond.instanceMethod m_X6_readParish.1 ∈ tn_tbl := tn_wi 762 (by decide +kernel)
theorem se_X6_readParish : Cond.selects m_X6_readParish.1.cls m_X6_readParish.1 m_X6_readParish.1 ∈ tn_tbl := tn_wi 56 (by decide +kernel)
theorem mv_X6_readStonesAll : tn_MV m_X6_readStonesAll 1 := ⟨tn_wi 779 (by decide +kernel), tn_wi 88 (by decide +kernel), by decide +kernel, by decide +kernel⟩
theorem im_X6_readStonesAll : Cond.instanceMethod m_X6_readStonesAll.1 ∈ tn_tbl := tn_wi 778 (by decide +kernel)
theorem se_X6_readStonesAll : Cond.selects m_X6_readStonesAll.1.cls m_X6_readStonesAll.1 m_X6_readStonesAll.1 ∈ tn_tbl := tn_wi 60 (by decide +kernel)
theorem mv_X6_readHouse : tn_MV m_X6_readHouse 1 := ⟨tn_wi 775 (by decide +kernel), tn_wi 88 (by decide +kernel), by decide +kernel, by decide +kernel⟩
theorem im_X6_readHouse : Cond.instanceMethod m_X6_readHouse.1 ∈ tn_tbl := tn_wi 774 (by decide +kernel)
theorem se_X6_readHouse : Cond.selects m_X6_readHouse.1.cls m_X6_readHouse.1 m_X6_readHouse.1 ∈ tn_tbl := tn_wi 59 (by decide +kernel)
theorem mv_X6_weightOf : tn_MV m_X6_weightOf 1 := ⟨tn_wi 795 (by decide +kernel), tn_wi 88 (by decide +kernel), by decide +kernel, by decide +kernel⟩
theorem im_X6_weightOf : Cond.instanceMethod m_X6_weightOf.1 ∈ tn_tbl := tn_wi 794 (by decide +kernel)
theorem se_X6_weightOf : Cond.selects m_X6_weightOf.1.cls m_X6_weightOf.1 m_X6_weightOf.1 ∈ tn_tbl := tn_wi 63 (by decide +kernel)
theorem mv_X6_rankles : tn_MV m_X6_rankles 1 := ⟨tn_wi 799 (by decide +kernel), tn_wi 88 (by decide +kernel), by decide +kernel, by decide +kernel⟩
theorem im_X6_rankles : Cond.instanceMethod m_X6_rankles.1 ∈ tn_tbl := tn_wi 798 (by decide +kernel)
theorem se_X6_rankles : Cond.selects m_X6_rankles.1.cls m_X6_rankles.1 m_X6_rankles.1 ∈ tn_tbl := tn_wi 64 (by decide +kernel)
theorem mv_X6_whoRankle : tn_MV m_X6_whoRankle 0 := ⟨tn_wi 842 (by decide +kernel), tn_wi 88 (by decide +kernel), by decide +kernel, by decide +kernel⟩
theorem im_X6_whoRankle : Cond.instanceMethod m_X6_whoRankle.1 ∈ tn_tbl := tn_wi 841 (by decide +kernel)
theorem se_X6_whoRankle : Cond.selects m_X6_whoRankle.1.cls m_X6_whoRankle.1 m_X6_whoRankle.1 ∈ tn_tbl := tn_wi 69 (by decide +kernel)
theorem mv_X6_voiceNow : tn_MV m_X6_voiceNow 0 := ⟨tn_wi 830 (by decide +kernel), tn_wi 88 (by decide +kernel), by decide +kernel, by decide +kernel⟩
theorem im_X6_voiceNow : Cond.instanceMethod m_X6_voiceNow.1 ∈ tn_tbl := tn_wi 829 (by decide +kernel)
theorem se_X6_voiceNow : Cond.selects m_X6_voiceNow.1.cls m_X6_voiceNow.1 m_X6_voiceNow.1 ∈ tn_tbl := tn_wi 67 (by decide +kernel)
theorem mv_X6_ofHouse : tn_MV m_X6_ofHouse 2 := ⟨tn_wi 787 (by decide +kernel), tn_wi 88 (by decide +kernel), by decide +kernel, by decide +kernel⟩
theorem im_X6_ofHouse : Cond.instanceMethod m_X6_ofHouse.1 ∈ tn_tbl := tn_wi 785 (by decide +kernel)
theorem se_X6_ofHouse : Cond.selects m_X6_ofHouse.1.cls m_X6_ofHouse.1 m_X6_ofHouse.1 ∈ tn_tbl := tn_wi 786 (by decide +kernel)
theorem mv_X6_ofStone : tn_MV m_X6_ofStone 2 := ⟨tn_wi 806 (by decide +kernel), tn_wi 88 (by decide +kernel), by decide +kernel, by decide +kernel⟩
theorem im_X6_ofStone : Cond.instanceMethod m_X6_ofStone.1 ∈ tn_tbl := tn_wi 804 (by decide +kernel)
theorem se_X6_ofStone : Cond.selects m_X6_ofStone.1.cls m_X6_ofStone.1 m_X6_ofStone.1 ∈ tn_tbl := tn_wi 805 (by decide +kernel)
theorem mv_X6_sleep : tn_MV m_X6_sleep 2 := ⟨tn_wi 814 (by decide +kernel), tn_wi 88 (by decide +kernel), by decide +kernel, by decide +kernel⟩
theorem im_X6_sleep : Cond.instanceMethod m_X6_sleep.1 ∈ tn_tbl := tn_wi 812 (by decide +kernel)
theorem se_X6_sleep : Cond.selects m_X6_sleep.1.cls m_X6_sleep.1 m_X6_sleep.1 ∈ tn_tbl := tn_wi 813 (by decide +kernel)
theorem mv_X6_owns : tn_MV m_X6_owns 1 := ⟨tn_wi 822 (by decide +kernel), tn_wi 88 (by decide +kernel), by decide +kernel, by decide +kernel⟩
theorem im_X6_owns : Cond.instanceMethod m_X6_owns.1 ∈ tn_tbl := tn_wi 821 (by decide +kernel)
theorem se_X6_owns : Cond.selects m_X6_owns.1.cls m_X6_owns.1 m_X6_owns.1 ∈ tn_tbl := tn_wi 66 (by decide +kernel)
theorem mv_X6_layGreatest : tn_MV m_X6_layGreatest 0 := ⟨tn_wi 846 (by decide +kernel), tn_wi 88 (by decide +kernel), by decide +kernel, by decide +kernel⟩
theorem im_X6_layGreatest : Cond.instanceMethod m_X6_layGreatest.1 ∈ tn_tbl := tn_wi 845 (by decide +kernel)
theorem se_X6_layGreatest : Cond.selects m_X6_layGreatest.1.cls m_X6_layGreatest.1 m_X6_layGreatest.1 ∈ tn_tbl := tn_wi 70 (by decide +kernel)
theorem mv_X6_goesNight : tn_MV m_X6_goesNight 0 := ⟨tn_wi 838 (by decide +kernel), tn_wi 88 (by decide +kernel), by decide +kernel, by decide +kernel⟩
theorem im_X6_goesNight : Cond.instanceMethod m_X6_goesNight.1 ∈ tn_tbl := tn_wi 837 (by decide +kernel)
theorem se_X6_goesNight : Cond.selects m_X6_goesNight.1.cls m_X6_goesNight.1 m_X6_goesNight.1 ∈ tn_tbl := tn_wi 68 (by decide +kernel)
theorem mv_X6_own : tn_MV m_X6_own 1 := ⟨tn_wi 818 (by decide +kernel), tn_wi 88 (by decide +kernel), by decide +kernel, by decide +kernel⟩
theorem im_X6_own : Cond.instanceMethod m_X6_own.1 ∈ tn_tbl := tn_wi 816 (by decide +kernel)
theorem se_X6_own : Cond.selects m_X6_own.1.cls m_X6_own.1 m_X6_own.1 ∈ tn_tbl := tn_wi 817 (by decide +kernel)
theorem mv_X6_lay : tn_MV m_X6_lay 1 := ⟨tn_wi 826 (by decide +kernel), tn_wi 88 (by decide +kernel), by decide +kernel, by decide +kernel⟩
theorem im_X6_lay : Cond.instanceMethod m_X6_lay.1 ∈ tn_tbl := tn_wi 824 (by decide +kernel)
theorem se_X6_lay : Cond.selects m_X6_lay.1.cls m_X6_lay.1 m_X6_lay.1 ∈ tn_tbl := tn_wi 825 (by decide +kernel)
theorem mv_X6_night : tn_MV m_X6_night 1 := ⟨tn_wi 834 (by decide +kernel), tn_wi 88 (by decide +kernel), by decide +kernel, by decide +kernel⟩
theorem im_X6_night : Cond.instanceMethod m_X6_night.1 ∈ tn_tbl := tn_wi 832 (by decide +kernel)
theorem se_X6_night : Cond.selects m_X6_night.1.cls m_X6_night.1 m_X6_night.1 ∈ tn_tbl := tn_wi 833 (by decide +kernel)
theorem mv_X6_keep : tn_MV m_X6_keep 1 := ⟨tn_wi 854 (by decide +kernel), tn_wi 88 (by decide +kernel), by decide +kernel, by decide +kernel⟩
theorem im_X6_keep : Cond.instanceMethod m_X6_keep.1 ∈ tn_tbl := tn_wi 853 (by decide +kernel)
theorem se_X6_keep : Cond.selects m_X6_keep.1.cls m_X6_keep.1 m_X6_keep.1 ∈ tn_tbl := tn_wi 71 (by decide +kernel)
theorem mv_X6_putBack : tn_MV m_X6_putBack 1 := ⟨tn_wi 870 (by decide +kernel), tn_wi 88 (by decide +kernel), by decide +kernel, by decide +kernel⟩
theorem im_X6_putBack : Cond.instanceMethod m_X6_putBack.1 ∈ tn_tbl := tn_wi 869 (by decide +kernel)
theorem se_X6_putBack : Cond.selects m_X6_putBack.1.cls m_X6_putBack.1 m_X6_putBack.1 ∈ tn_tbl := tn_wi 75 (by decide +kernel)
theorem mv_X6_does : tn_MV m_X6_does 1 := ⟨tn_wi 862 (by decide +kernel), tn_wi 88 (by decide +kernel), by decide +kernel, by decide +kernel⟩
theorem im_X6_does : Cond.instanceMethod m_X6_does.1 ∈ tn_tbl := tn_wi 861 (by decide +kernel)
theorem se_X6_does : Cond.selects m_X6_does.1.cls m_X6_does.1 m_X6_does.1 ∈ tn_tbl := tn_wi 73 (by decide +kernel)
theorem mv_X6_goDay : tn_MV m_X6_goDay 2 := ⟨tn_wi 858 (by decide +kernel), tn_wi 88 (by decide +kernel), by decide +kernel, by decide +kernel⟩
theorem im_X6_goDay : Cond.instanceMethod m_X6_goDay.1 ∈ tn_tbl := tn_wi 857 (by decide +kernel)
theorem se_X6_goDay : Cond.selects m_X6_goDay.1.cls m_X6_goDay.1 m_X6_goDay.1 ∈ tn_tbl := tn_wi 72 (by decide +kernel)
theorem mv_X6_day : tn_MV m_X6_day 5 := ⟨tn_wi 850 (by decide +kernel), tn_wi 88 (by decide +kernel), by decide +kernel, by decide +kernel⟩
theorem im_X6_day : Cond.instanceMethod m_X6_day.1 ∈ tn_tbl := tn_wi 848 (by decide +kernel)
theorem se_X6_day : Cond.selects m_X6_day.1.cls m_X6_day.1 m_X6_day.1 ∈ tn_tbl := tn_wi 849 (by decide +kernel)
theorem mv_X6_tellDay : tn_MV m_X6_tellDay 2 := ⟨tn_wi 866 (by decide +kernel), tn_wi 88 (by decide +kernel), by decide +kernel, by decide +kernel⟩
theorem im_X6_tellDay : Cond.instanceMethod m_X6_tellDay.1 ∈ tn_tbl := tn_wi 865 (by decide +kernel)
theorem se_X6_tellDay : Cond.selects m_X6_tellDay.1.cls m_X6_tellDay.1 m_X6_tellDay.1 ∈ tn_tbl := tn_wi 74 (by decide +kernel)
theorem mv_X6_behind : tn_MV m_X6_behind 2 := ⟨tn_wi 874 (by decide +kernel), tn_wi 88 (by decide +kernel), by decide +kernel, by decide +kernel⟩
theorem im_X6_behind : Cond.instanceMethod m_X6_behind.1 ∈ tn_tbl := tn_wi 872 (by decide +kernel)
theorem se_X6_behind : Cond.selects m_X6_behind.1.cls m_X6_behind.1 m_X6_behind.1 ∈ tn_tbl := tn_wi 873 (by decide +kernel)
theorem mv_X6_quietIn : tn_MV m_X6_quietIn 1 := ⟨tn_wi 882 (by decide +kernel), tn_wi 88 (by decide +kernel), by decide +kernel, by decide +kernel⟩
theorem im_X6_quietIn : Cond.instanceMethod m_X6_quietIn.1 ∈ tn_tbl := tn_wi 881 (by decide +kernel)
theorem se_X6_quietIn : Cond.selects m_X6_quietIn.1.cls m_X6_quietIn.1 m_X6_quietIn.1 ∈ tn_tbl := tn_wi 76 (by decide +kernel)
theorem mv_X6_quiet : tn_MV m_X6_quiet 0 := ⟨tn_wi 878 (by decide +kernel), tn_wi 88 (by decide +kernel), by decide +kernel, by decide +kernel⟩
theorem im_X6_quiet : Cond.instanceMethod m_X6_quiet.1 ∈ tn_tbl := tn_wi 876 (by decide +kernel)
theorem se_X6_quiet : Cond.selects m_X6_quiet.1.cls m_X6_quiet.1 m_X6_quiet.1 ∈ tn_tbl := tn_wi 877 (by decide +kernel)
theorem mv_X6_fewest : tn_MV m_X6_fewest 2 := ⟨tn_wi 886 (by decide +kernel), tn_wi 88 (by decide +kernel), by decide +kernel, by decide +kernel⟩
theorem im_X6_fewest : Cond.instanceMethod m_X6_fewest.1 ∈ tn_tbl := tn_wi 884 (by decide +kernel)
theorem se_X6_fewest : Cond.selects m_X6_fewest.1.cls m_X6_fewest.1 m_X6_fewest.1 ∈ tn_tbl := tn_wi 885 (by decide +kernel)
theorem mv_X6_weightOfSet : tn_MV m_X6_weightOfSet 1 := ⟨tn_wi 897 (by decide +kernel), tn_wi 88 (by decide +kernel), by decide +kernel, by decide +kernel⟩
theorem im_X6_weightOfSet : Cond.instanceMethod m_X6_weightOfSet.1 ∈ tn_tbl := tn_wi 896 (by decide +kernel)
theorem se_X6_weightOfSet : Cond.selects m_X6_weightOfSet.1.cls m_X6_weightOfSet.1 m_X6_weightOfSet.1 ∈ tn_tbl := tn_wi 77 (by decide +kernel)
theorem mv_X6_claps : tn_MV m_X6_claps 2 := ⟨tn_wi 893 (by decide +kernel), tn_wi 88 (by decide +kernel), by decide +kernel, by decide +kernel⟩
theorem im_X6_claps : Cond.instanceMethod m_X6_claps.1 ∈ tn_tbl := tn_wi 891 (by decide +kernel)
theorem se_X6_claps : Cond.selects m_X6_claps.1.cls m_X6_claps.1 m_X6_claps.1 ∈ tn_tbl := tn_wi 892 (by decide +kernel)
theorem mv_X6_findPains : tn_MV m_X6_findPains 2 := ⟨tn_wi 905 (by decide +kernel), tn_wi 88 (by decide +kernel), by decide +kernel, by decide +kernel⟩
theorem im_X6_findPains : Cond.instanceMethod m_X6_findPains.1 ∈ tn_tbl := tn_wi 904 (by decide +kernel)
theorem se_X6_findPains : Cond.selects m_X6_findPains.1.cls m_X6_findPains.1 m_X6_findPains.1 ∈ tn_tbl := tn_wi 78 (by decide +kernel)
theorem mv_X6_rests : tn_MV m_X6_rests 2 := ⟨tn_wi 901 (by decide +kernel), tn_wi 88 (by decide +kernel), by decide +kernel, by decide +kernel⟩
theorem im_X6_rests : Cond.instanceMethod m_X6_rests.1 ∈ tn_tbl := tn_wi 899 (by decide +kernel)
theorem se_X6_rests : Cond.selects m_X6_rests.1.cls m_X6_rests.1 m_X6_rests.1 ∈ tn_tbl := tn_wi 900 (by decide +kernel)
theorem mv_X6_reading : tn_MV m_X6_reading 2 := ⟨tn_wi 909 (by decide +kernel), tn_wi 88 (by decide +kernel), by decide +kernel, by decide +kernel⟩
theorem im_X6_reading : Cond.instanceMethod m_X6_reading.1 ∈ tn_tbl := tn_wi 907 (by decide +kernel)
theorem se_X6_reading : Cond.selects m_X6_reading.1.cls m_X6_reading.1 m_X6_reading.1 ∈ tn_tbl := tn_wi 908 (by decide +kernel)
theorem mv_X6_back : tn_MV m_X6_back 1 := ⟨tn_wi 913 (by decide +kernel), tn_wi 88 (by decide +kernel), by decide +kernel, by decide +kernel⟩
theorem im_X6_back : Cond.instanceMethod m_X6_back.1 ∈ tn_tbl := tn_wi 911 (by decide +kernel)
theorem se_X6_back : Cond.selects m_X6_back.1.cls m_X6_back.1 m_X6_back.1 ∈ tn_tbl := tn_wi 912 (by decide +kernel)
theorem mv_X6_areSo : tn_MV m_X6_areSo 0 := ⟨tn_wi 921 (by decide +kernel), tn_wi 88 (by decide +kernel), by decide +kernel, by decide +kernel⟩
theorem im_X6_areSo : Cond.instanceMethod m_X6_areSo.1 ∈ tn_tbl := tn_wi 920 (by decide +kernel)
theorem se_X6_areSo : Cond.selects m_X6_areSo.1.cls m_X6_areSo.1 m_X6_areSo.1 ∈ tn_tbl := tn_wi 79 (by decide +kernel)
theorem mv_X6_kinds : tn_MV m_X6_kinds 1 := ⟨tn_wi 917 (by decide +kernel), tn_wi 88 (by decide +kernel), by decide +kernel, by decide +kernel⟩
theorem im_X6_kinds : Cond.instanceMethod m_X6_kinds.1 ∈ tn_tbl := tn_wi 915 (by decide +kernel)
theorem se_X6_kinds : Cond.selects m_X6_kinds.1.cls m_X6_kinds.1 m_X6_kinds.1 ∈ tn_tbl := tn_wi 916 (by decide +kernel)
theorem mv_X6_wrongs : tn_MV m_X6_wrongs 1 := ⟨tn_wi 925 (by decide +kernel), tn_wi 88 (by decide +kernel), by decide +kernel, by decide +kernel⟩
theorem im_X6_wrongs : Cond.instanceMethod m_X6_wrongs.1 ∈ tn_tbl := tn_wi 923 (by decide +kernel)
theorem se_X6_wrongs : Cond.selects m_X6_wrongs.1.cls m_X6_wrongs.1 m_X6_wrongs.1 ∈ tn_tbl := tn_wi 924 (by decide +kernel)
theorem mv_X6_steps : tn_MV m_X6_steps 0 := ⟨tn_wi 929 (by decide +kernel), tn_wi 88 (by decide +kernel), by decide +kernel, by decide +kernel⟩
theorem im_X6_steps : Cond.instanceMethod m_X6_steps.1 ∈ tn_tbl := tn_wi 927 (by decide +kernel)
theorem se_X6_steps : Cond.selects m_X6_steps.1.cls m_X6_steps.1 m_X6_steps.1 ∈ tn_tbl := tn_wi 928 (by decide +kernel)
theorem mv_X6_inLeastTerms : tn_MV m_X6_inLeastTerms 3 := ⟨tn_wi 937 (by decide +kernel), tn_wi 88 (by decide +kernel), by decide +kernel, by decide +kernel⟩
theorem st_X6_inLeastTerms : Cond.static m_X6_inLeastTerms.1 ∈ tn_tbl := tn_wi 936 (by decide +kernel)
theorem mv_X6_odds : tn_MV m_X6_odds 2 := ⟨tn_wi 933 (by decide +kernel), tn_wi 88 (by decide +kernel), by decide +kernel, by decide +kernel⟩
theorem im_X6_odds : Cond.instanceMethod m_X6_odds.1 ∈ tn_tbl := tn_wi 931 (by decide +kernel)
theorem se_X6_odds : Cond.selects m_X6_odds.1.cls m_X6_odds.1 m_X6_odds.1 ∈ tn_tbl := tn_wi 932 (by decide +kernel)
theorem mv_X6_sheet : tn_MV m_X6_sheet 3 := ⟨tn_wi 941 (by decide +kernel), tn_wi 88 (by decide +kernel), by decide +kernel, by decide +kernel⟩
theorem im_X6_sheet : Cond.instanceMethod m_X6_sheet.1 ∈ tn_tbl := tn_wi 939 (by decide +kernel)
theorem se_X6_sheet : Cond.selects m_X6_sheet.1.cls m_X6_sheet.1 m_X6_sheet.1 ∈ tn_tbl := tn_wi 940 (by decide +kernel)
theorem mv_X6_lose : tn_MV m_X6_lose 1 := ⟨tn_wi 945 (by decide +kernel), tn_wi 88 (by decide +kernel), by decide +kernel, by decide +kernel⟩
theorem im_X6_lose : Cond.instanceMethod m_X6_lose.1 ∈ tn_tbl := tn_wi 943 (by decide +kernel)
theorem se_X6_lose : Cond.selects m_X6_lose.1.cls m_X6_lose.1 m_X6_lose.1 ∈ tn_tbl := tn_wi 944 (by decide +kernel)
theorem mv_X6_put : tn_MV m_X6_put 3 := ⟨tn_wi 949 (by decide +kernel), tn_wi 88 (by decide +kernel), by decide +kernel, by decide +kernel⟩
theorem im_X6_put : Cond.instanceMethod m_X6_put.1 ∈ tn_tbl := tn_wi 947 (by decide +kernel)
theorem se_X6_put : Cond.selects m_X6_put.1.cls m_X6_put.1 m_X6_put.1 ∈ tn_tbl := tn_wi 948 (by decide +kernel)
theorem mv_X6_cell : tn_MV m_X6_cell 3 := ⟨tn_wi 953 (by decide +kernel), tn_wi 88 (by decide +kernel), by decide +kernel, by decide +kernel⟩
theorem im_X6_cell : Cond.instanceMethod m_X6_cell.1 ∈ tn_tbl := tn_wi 951 (by decide +kernel)
theorem se_X6_cell : Cond.selects m_X6_cell.1.cls m_X6_cell.1 m_X6_cell.1 ∈ tn_tbl := tn_wi 952 (by decide +kernel)
theorem mv_X6_copy : tn_MV m_X6_copy 5 := ⟨tn_wi 961 (by decide +kernel), tn_wi 88 (by decide +kernel), by decide +kernel, by decide +kernel⟩
theorem im_X6_copy : Cond.instanceMethod m_X6_copy.1 ∈ tn_tbl := tn_wi 959 (by decide +kernel)
theorem se_X6_copy : Cond.selects m_X6_copy.1.cls m_X6_copy.1 m_X6_copy.1 ∈ tn_tbl := tn_wi 960 (by decide +kernel)
theorem mv_X6_begins : tn_MV m_X6_begins 1 := ⟨tn_wi 969 (by decide +kernel), tn_wi 88 (by decide +kernel), by decide +kernel, by decide +kernel⟩
theorem im_X6_begins : Cond.instanceMethod m_X6_begins.1 ∈ tn_tbl := tn_wi 968 (by decide +kernel)
theorem se_X6_begins : Cond.selects m_X6_begins.1.cls m_X6_begins.1 m_X6_begins.1 ∈ tn_tbl := tn_wi 81 (by decide +kernel)
theorem mv_X6_tell : tn_MV m_X6_tell 1 := ⟨tn_wi 965 (by decide +kernel), tn_wi 88 (by decide +kernel), by decide +kernel, by decide +kernel⟩
theorem im_X6_tell : Cond.instanceMethod m_X6_tell.1 ∈ tn_tbl := tn_wi 963 (by decide +kernel)
theorem se_X6_tell : Cond.selects m_X6_tell.1.cls m_X6_tell.1 m_X6_tell.1 ∈ tn_tbl := tn_wi 964 (by decide +kernel)
theorem mv_X6_knock : tn_MV m_X6_knock 1 := ⟨tn_wi 973 (by decide +kernel), tn_wi 88 (by decide +kernel), by decide +kernel, by decide +kernel⟩
theorem im_X6_knock : Cond.instanceMethod m_X6_knock.1 ∈ tn_tbl := tn_wi 971 (by decide +kernel)
theorem se_X6_knock : Cond.selects m_X6_knock.1.cls m_X6_knock.1 m_X6_knock.1 ∈ tn_tbl := tn_wi 972 (by decide +kernel)
theorem mv_X6_as : tn_MV m_X6_as 2 := ⟨tn_wi 977 (by decide +kernel), tn_wi 88 (by decide +kernel), by decide +kernel, by decide +kernel⟩
theorem im_X6_as : Cond.instanceMethod m_X6_as.1 ∈ tn_tbl := tn_wi 975 (by decide +kernel)
theorem se_X6_as : Cond.selects m_X6_as.1.cls m_X6_as.1 m_X6_as.1 ∈ tn_tbl := tn_wi 976 (by decide +kernel)
theorem mv_X6_trace : tn_MV m_X6_trace 0 := ⟨tn_wi 981 (by decide +kernel), tn_wi 88 (by decide +kernel), by decide +kernel, by decide +kernel⟩
theorem im_X6_trace : Cond.instanceMethod m_X6_trace.1 ∈ tn_tbl := tn_wi 979 (by decide +kernel)
theorem se_X6_trace : Cond.selects m_X6_trace.1.cls m_X6_trace.1 m_X6_trace.1 ∈ tn_tbl := tn_wi 980 (by decide +kernel)
theorem mv_X6_fault : tn_MV m_X6_fault 0 := ⟨tn_wi 985 (by decide +kernel), tn_wi 88 (by decide +kernel), by decide +kernel, by decide +kernel⟩
theorem im_X6_fault : Cond.instanceMethod m_X6_fault.1 ∈ tn_tbl := tn_wi 983 (by decide +kernel)
theorem se_X6_fault : Cond.selects m_X6_fault.1.cls m_X6_fault.1 m_X6_fault.1 ∈ tn_tbl := tn_wi 984 (by decide +kernel)
theorem mv_X6_many : tn_MV m_X6_many 1 := ⟨tn_wi 989 (by decide +kernel), tn_wi 88 (by decide +kernel), by decide +kernel, by decide +kernel⟩
theorem im_X6_many : Cond.instanceMethod m_X6_many.1 ∈ tn_tbl := tn_wi 987 (by decide +kernel)
theorem se_X6_many : Cond.selects m_X6_many.1.cls m_X6_many.1 m_X6_many.1 ∈ tn_tbl := tn_wi 988 (by decide +kernel)
theorem mv_J_bitCount : tn_MV m_J_bitCount 1 := ⟨tn_wi 484 (by decide +kernel), tn_wi 91 (by decide +kernel), by decide +kernel, by decide +kernel⟩
theorem st_J_bitCount : Cond.static m_J_bitCount.1 ∈ tn_tbl := tn_wi 483 (by decide +kernel)
