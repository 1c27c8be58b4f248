section
-- ===== PART A: goes FIRST, ahead of the names: the tables' words, and 'selects' of the private methods out of them =====
/-- a private method of a class that the tables say can be made, by its rows of tables_1 -/
def lw_okq (q : MethodName × Nat) : Prop := (q.1.cls ≠ "java/lang/invoke/MethodHandle" ∧ q.1.cls ≠ "java/lang/invoke/VarHandle") ∧ Cond.instantiable q.1.cls q.2 ∈ tables_1 ∧ Cond.privateMethod q.1 ∈ tables_1 ∧ Cond.instanceMethod q.1 ∈ tables_1
theorem lw_p0 : lw_okq (⟨"ThunderOwned$Sheet", "hasCells", "(II)Z"⟩, 4) := ⟨⟨by decide +kernel, by decide +kernel⟩, List.mem_of_getElem? (i := 106) (by decide +kernel), List.mem_of_getElem? (i := 176) (by decide +kernel), List.mem_of_getElem? (i := 177) (by decide +kernel)⟩
theorem lw_p1 : lw_okq (⟨"ThunderOwned", "faulted", "(I)I"⟩, 10) := ⟨⟨by decide +kernel, by decide +kernel⟩, List.mem_of_getElem? (i := 12) (by decide +kernel), List.mem_of_getElem? (i := 180) (by decide +kernel), List.mem_of_getElem? (i := 181) (by decide +kernel)⟩
theorem lw_p2 : lw_okq (⟨"ThunderOwned", "firstFaultOfText", "(LThunderOwned$Sheet;II)I"⟩, 10) := ⟨⟨by decide +kernel, by decide +kernel⟩, List.mem_of_getElem? (i := 12) (by decide +kernel), List.mem_of_getElem? (i := 184) (by decide +kernel), List.mem_of_getElem? (i := 185) (by decide +kernel)⟩
theorem lw_p3 : lw_okq (⟨"ThunderOwned$Parish", "empty", "()V"⟩, 6) := ⟨⟨by decide +kernel, by decide +kernel⟩, List.mem_of_getElem? (i := 20) (by decide +kernel), List.mem_of_getElem? (i := 194) (by decide +kernel), List.mem_of_getElem? (i := 195) (by decide +kernel)⟩
theorem lw_p4 : lw_okq (⟨"ThunderOwned$TextReader", "takes", "(I)Z"⟩, 4) := ⟨⟨by decide +kernel, by decide +kernel⟩, List.mem_of_getElem? (i := 188) (by decide +kernel), List.mem_of_getElem? (i := 211) (by decide +kernel), List.mem_of_getElem? (i := 212) (by decide +kernel)⟩
theorem lw_p5 : lw_okq (⟨"ThunderOwned$TextReader", "goesOn", "(ZI)Z"⟩, 4) := ⟨⟨by decide +kernel, by decide +kernel⟩, List.mem_of_getElem? (i := 188) (by decide +kernel), List.mem_of_getElem? (i := 215) (by decide +kernel), List.mem_of_getElem? (i := 216) (by decide +kernel)⟩
theorem lw_p6 : lw_okq (⟨"ThunderOwned$TextReader", "takesSleep", "(I)Z"⟩, 4) := ⟨⟨by decide +kernel, by decide +kernel⟩, List.mem_of_getElem? (i := 188) (by decide +kernel), List.mem_of_getElem? (i := 223) (by decide +kernel), List.mem_of_getElem? (i := 224) (by decide +kernel)⟩
theorem lw_p7 : lw_okq (⟨"ThunderOwned$Parish", "addHouse", "(III)V"⟩, 6) := ⟨⟨by decide +kernel, by decide +kernel⟩, List.mem_of_getElem? (i := 20) (by decide +kernel), List.mem_of_getElem? (i := 227) (by decide +kernel), List.mem_of_getElem? (i := 228) (by decide +kernel)⟩
theorem lw_p8 : lw_okq (⟨"ThunderOwned$TextReader", "takesAfterHouse", "(I)Z"⟩, 4) := ⟨⟨by decide +kernel, by decide +kernel⟩, List.mem_of_getElem? (i := 188) (by decide +kernel), List.mem_of_getElem? (i := 231) (by decide +kernel), List.mem_of_getElem? (i := 232) (by decide +kernel)⟩
theorem lw_p9 : lw_okq (⟨"ThunderOwned$TextReader", "takesStone", "(I)Z"⟩, 4) := ⟨⟨by decide +kernel, by decide +kernel⟩, List.mem_of_getElem? (i := 188) (by decide +kernel), List.mem_of_getElem? (i := 235) (by decide +kernel), List.mem_of_getElem? (i := 236) (by decide +kernel)⟩
theorem lw_p10 : lw_okq (⟨"ThunderOwned$Parish", "addStone", "(I)V"⟩, 6) := ⟨⟨by decide +kernel, by decide +kernel⟩, List.mem_of_getElem? (i := 20) (by decide +kernel), List.mem_of_getElem? (i := 239) (by decide +kernel), List.mem_of_getElem? (i := 240) (by decide +kernel)⟩
theorem lw_p11 : lw_okq (⟨"ThunderOwned$TextReader", "mayEnd", "()Z"⟩, 4) := ⟨⟨by decide +kernel, by decide +kernel⟩, List.mem_of_getElem? (i := 188) (by decide +kernel), List.mem_of_getElem? (i := 243) (by decide +kernel), List.mem_of_getElem? (i := 244) (by decide +kernel)⟩
theorem lw_p12 : lw_okq (⟨"ThunderOwned$Parish", "become", "(LThunderOwned$Parish;)V"⟩, 6) := ⟨⟨by decide +kernel, by decide +kernel⟩, List.mem_of_getElem? (i := 20) (by decide +kernel), List.mem_of_getElem? (i := 247) (by decide +kernel), List.mem_of_getElem? (i := 248) (by decide +kernel)⟩
theorem lw_p13 : lw_okq (⟨"ThunderOwned$House", "become", "(LThunderOwned$House;)V"⟩, 5) := ⟨⟨by decide +kernel, by decide +kernel⟩, List.mem_of_getElem? (i := 29) (by decide +kernel), List.mem_of_getElem? (i := 251) (by decide +kernel), List.mem_of_getElem? (i := 252) (by decide +kernel)⟩
theorem lw_p14 : lw_okq (⟨"ThunderOwned$Stone", "become", "(LThunderOwned$Stone;)V"⟩, 2) := ⟨⟨by decide +kernel, by decide +kernel⟩, List.mem_of_getElem? (i := 60) (by decide +kernel), List.mem_of_getElem? (i := 255) (by decide +kernel), List.mem_of_getElem? (i := 256) (by decide +kernel)⟩
theorem lw_p15 : lw_okq (⟨"ThunderOwned$Parish", "hasHouse", "(I)Z"⟩, 6) := ⟨⟨by decide +kernel, by decide +kernel⟩, List.mem_of_getElem? (i := 20) (by decide +kernel), List.mem_of_getElem? (i := 263) (by decide +kernel), List.mem_of_getElem? (i := 264) (by decide +kernel)⟩
def lw_privs_1 : List (MethodName × Nat) := [(⟨"ThunderOwned$Sheet", "hasCells", "(II)Z"⟩, 4), (⟨"ThunderOwned", "faulted", "(I)I"⟩, 10), (⟨"ThunderOwned", "firstFaultOfText", "(LThunderOwned$Sheet;II)I"⟩, 10), (⟨"ThunderOwned$Parish", "empty", "()V"⟩, 6), (⟨"ThunderOwned$TextReader", "takes", "(I)Z"⟩, 4), (⟨"ThunderOwned$TextReader", "goesOn", "(ZI)Z"⟩, 4), (⟨"ThunderOwned$TextReader", "takesSleep", "(I)Z"⟩, 4), (⟨"ThunderOwned$Parish", "addHouse", "(III)V"⟩, 6), (⟨"ThunderOwned$TextReader", "takesAfterHouse", "(I)Z"⟩, 4), (⟨"ThunderOwned$TextReader", "takesStone", "(I)Z"⟩, 4), (⟨"ThunderOwned$Parish", "addStone", "(I)V"⟩, 6), (⟨"ThunderOwned$TextReader", "mayEnd", "()Z"⟩, 4), (⟨"ThunderOwned$Parish", "become", "(LThunderOwned$Parish;)V"⟩, 6), (⟨"ThunderOwned$House", "become", "(LThunderOwned$House;)V"⟩, 5), (⟨"ThunderOwned$Stone", "become", "(LThunderOwned$Stone;)V"⟩, 2), (⟨"ThunderOwned$Parish", "hasHouse", "(I)Z"⟩, 6)]
theorem lw_r1 : ∀ q ∈ lw_privs_1, lw_okq q := List.forall_mem_cons.mpr ⟨lw_p0, List.forall_mem_cons.mpr ⟨lw_p1, List.forall_mem_cons.mpr ⟨lw_p2, List.forall_mem_cons.mpr ⟨lw_p3, List.forall_mem_cons.mpr ⟨lw_p4, List.forall_mem_cons.mpr ⟨lw_p5, List.forall_mem_cons.mpr ⟨lw_p6, List.forall_mem_cons.mpr ⟨lw_p7, List.forall_mem_cons.mpr ⟨lw_p8, List.forall_mem_cons.mpr ⟨lw_p9, List.forall_mem_cons.mpr ⟨lw_p10, List.forall_mem_cons.mpr ⟨lw_p11, List.forall_mem_cons.mpr ⟨lw_p12, List.forall_mem_cons.mpr ⟨lw_p13, List.forall_mem_cons.mpr ⟨lw_p14, List.forall_mem_cons.mpr ⟨lw_p15, fun _ h => absurd h List.not_mem_nil⟩⟩⟩⟩⟩⟩⟩⟩⟩⟩⟩⟩⟩⟩⟩⟩
theorem lw_p16 : lw_okq (⟨"ThunderOwned$House", "weight", "()I"⟩, 5) := ⟨⟨by decide +kernel, by decide +kernel⟩, List.mem_of_getElem? (i := 29) (by decide +kernel), List.mem_of_getElem? (i := 267) (by decide +kernel), List.mem_of_getElem? (i := 268) (by decide +kernel)⟩
theorem lw_p17 : lw_okq (⟨"ThunderOwned$House", "rankles", "()Z"⟩, 5) := ⟨⟨by decide +kernel, by decide +kernel⟩, List.mem_of_getElem? (i := 29) (by decide +kernel), List.mem_of_getElem? (i := 271) (by decide +kernel), List.mem_of_getElem? (i := 272) (by decide +kernel)⟩
theorem lw_p18 : lw_okq (⟨"ThunderOwned$Parish", "hasStone", "(I)Z"⟩, 6) := ⟨⟨by decide +kernel, by decide +kernel⟩, List.mem_of_getElem? (i := 20) (by decide +kernel), List.mem_of_getElem? (i := 280) (by decide +kernel), List.mem_of_getElem? (i := 281) (by decide +kernel)⟩
theorem lw_p19 : lw_okq (⟨"ThunderOwned$House", "ownUp", "()Z"⟩, 5) := ⟨⟨by decide +kernel, by decide +kernel⟩, List.mem_of_getElem? (i := 29) (by decide +kernel), List.mem_of_getElem? (i := 292) (by decide +kernel), List.mem_of_getElem? (i := 293) (by decide +kernel)⟩
theorem lw_p20 : lw_okq (⟨"ThunderOwned$Parish", "voice", "()I"⟩, 6) := ⟨⟨by decide +kernel, by decide +kernel⟩, List.mem_of_getElem? (i := 20) (by decide +kernel), List.mem_of_getElem? (i := 301) (by decide +kernel), List.mem_of_getElem? (i := 302) (by decide +kernel)⟩
theorem lw_p21 : lw_okq (⟨"ThunderOwned", "hasParish", "()Z"⟩, 10) := ⟨⟨by decide +kernel, by decide +kernel⟩, List.mem_of_getElem? (i := 12) (by decide +kernel), List.mem_of_getElem? (i := 311) (by decide +kernel), List.mem_of_getElem? (i := 312) (by decide +kernel)⟩
theorem lw_p22 : lw_okq (⟨"ThunderOwned$Parish", "passNights", "(I)V"⟩, 6) := ⟨⟨by decide +kernel, by decide +kernel⟩, List.mem_of_getElem? (i := 20) (by decide +kernel), List.mem_of_getElem? (i := 315) (by decide +kernel), List.mem_of_getElem? (i := 316) (by decide +kernel)⟩
theorem lw_p23 : lw_okq (⟨"ThunderOwned$Parish", "passNight", "()V"⟩, 6) := ⟨⟨by decide +kernel, by decide +kernel⟩, List.mem_of_getElem? (i := 20) (by decide +kernel), List.mem_of_getElem? (i := 319) (by decide +kernel), List.mem_of_getElem? (i := 320) (by decide +kernel)⟩
theorem lw_p24 : lw_okq (⟨"ThunderOwned$Parish", "loseSleep", "()V"⟩, 6) := ⟨⟨by decide +kernel, by decide +kernel⟩, List.mem_of_getElem? (i := 20) (by decide +kernel), List.mem_of_getElem? (i := 325) (by decide +kernel), List.mem_of_getElem? (i := 326) (by decide +kernel)⟩
theorem lw_p25 : lw_okq (⟨"ThunderOwned$Parish", "ranklingSet", "()I"⟩, 6) := ⟨⟨by decide +kernel, by decide +kernel⟩, List.mem_of_getElem? (i := 20) (by decide +kernel), List.mem_of_getElem? (i := 330) (by decide +kernel), List.mem_of_getElem? (i := 331) (by decide +kernel)⟩
theorem lw_p26 : lw_okq (⟨"ThunderOwned$Parish", "layHeaviestStone", "()V"⟩, 6) := ⟨⟨by decide +kernel, by decide +kernel⟩, List.mem_of_getElem? (i := 20) (by decide +kernel), List.mem_of_getElem? (i := 334) (by decide +kernel), List.mem_of_getElem? (i := 335) (by decide +kernel)⟩
theorem lw_p27 : lw_okq (⟨"ThunderOwned", "firstWrongOfDay", "(LThunderOwned$Sheet;II)I"⟩, 10) := ⟨⟨by decide +kernel, by decide +kernel⟩, List.mem_of_getElem? (i := 12) (by decide +kernel), List.mem_of_getElem? (i := 349) (by decide +kernel), List.mem_of_getElem? (i := 350) (by decide +kernel)⟩
theorem lw_p28 : lw_okq (⟨"ThunderOwned$Parish", "acts", "(I)Z"⟩, 6) := ⟨⟨by decide +kernel, by decide +kernel⟩, List.mem_of_getElem? (i := 20) (by decide +kernel), List.mem_of_getElem? (i := 353) (by decide +kernel), List.mem_of_getElem? (i := 354) (by decide +kernel)⟩
theorem lw_p29 : lw_okq (⟨"ThunderOwned$Parish", "ownsAsAct", "(I)Z"⟩, 6) := ⟨⟨by decide +kernel, by decide +kernel⟩, List.mem_of_getElem? (i := 20) (by decide +kernel), List.mem_of_getElem? (i := 357) (by decide +kernel), List.mem_of_getElem? (i := 358) (by decide +kernel)⟩
theorem lw_p30 : lw_okq (⟨"ThunderOwned$Parish", "sleepsAsAct", "(I)Z"⟩, 6) := ⟨⟨by decide +kernel, by decide +kernel⟩, List.mem_of_getElem? (i := 20) (by decide +kernel), List.mem_of_getElem? (i := 361) (by decide +kernel), List.mem_of_getElem? (i := 362) (by decide +kernel)⟩
theorem lw_p31 : lw_okq (⟨"ThunderOwned$Parish", "isLaidAsAct", "(I)Z"⟩, 6) := ⟨⟨by decide +kernel, by decide +kernel⟩, List.mem_of_getElem? (i := 20) (by decide +kernel), List.mem_of_getElem? (i := 365) (by decide +kernel), List.mem_of_getElem? (i := 366) (by decide +kernel)⟩
def lw_privs_2 : List (MethodName × Nat) := [(⟨"ThunderOwned$House", "weight", "()I"⟩, 5), (⟨"ThunderOwned$House", "rankles", "()Z"⟩, 5), (⟨"ThunderOwned$Parish", "hasStone", "(I)Z"⟩, 6), (⟨"ThunderOwned$House", "ownUp", "()Z"⟩, 5), (⟨"ThunderOwned$Parish", "voice", "()I"⟩, 6), (⟨"ThunderOwned", "hasParish", "()Z"⟩, 10), (⟨"ThunderOwned$Parish", "passNights", "(I)V"⟩, 6), (⟨"ThunderOwned$Parish", "passNight", "()V"⟩, 6), (⟨"ThunderOwned$Parish", "loseSleep", "()V"⟩, 6), (⟨"ThunderOwned$Parish", "ranklingSet", "()I"⟩, 6), (⟨"ThunderOwned$Parish", "layHeaviestStone", "()V"⟩, 6), (⟨"ThunderOwned", "firstWrongOfDay", "(LThunderOwned$Sheet;II)I"⟩, 10), (⟨"ThunderOwned$Parish", "acts", "(I)Z"⟩, 6), (⟨"ThunderOwned$Parish", "ownsAsAct", "(I)Z"⟩, 6), (⟨"ThunderOwned$Parish", "sleepsAsAct", "(I)Z"⟩, 6), (⟨"ThunderOwned$Parish", "isLaidAsAct", "(I)Z"⟩, 6)]
theorem lw_r2 : ∀ q ∈ lw_privs_2, lw_okq q := List.forall_mem_cons.mpr ⟨lw_p16, List.forall_mem_cons.mpr ⟨lw_p17, List.forall_mem_cons.mpr ⟨lw_p18, List.forall_mem_cons.mpr ⟨lw_p19, List.forall_mem_cons.mpr ⟨lw_p20, List.forall_mem_cons.mpr ⟨lw_p21, List.forall_mem_cons.mpr ⟨lw_p22, List.forall_mem_cons.mpr ⟨lw_p23, List.forall_mem_cons.mpr ⟨lw_p24, List.forall_mem_cons.mpr ⟨lw_p25, List.forall_mem_cons.mpr ⟨lw_p26, List.forall_mem_cons.mpr ⟨lw_p27, List.forall_mem_cons.mpr ⟨lw_p28, List.forall_mem_cons.mpr ⟨lw_p29, List.forall_mem_cons.mpr ⟨lw_p30, List.forall_mem_cons.mpr ⟨lw_p31, fun _ h => absurd h List.not_mem_nil⟩⟩⟩⟩⟩⟩⟩⟩⟩⟩⟩⟩⟩⟩⟩⟩
theorem lw_p32 : lw_okq (⟨"ThunderOwned", "afterDay", "(I)I"⟩, 10) := ⟨⟨by decide +kernel, by decide +kernel⟩, List.mem_of_getElem? (i := 12) (by decide +kernel), List.mem_of_getElem? (i := 369) (by decide +kernel), List.mem_of_getElem? (i := 370) (by decide +kernel)⟩
theorem lw_p33 : lw_okq (⟨"ThunderOwned$Parish", "hatsLost", "()I"⟩, 6) := ⟨⟨by decide +kernel, by decide +kernel⟩, List.mem_of_getElem? (i := 20) (by decide +kernel), List.mem_of_getElem? (i := 373) (by decide +kernel), List.mem_of_getElem? (i := 374) (by decide +kernel)⟩
theorem lw_p34 : lw_okq (⟨"ThunderOwned$Parish", "nightsUntilQuiet", "(I)I"⟩, 6) := ⟨⟨by decide +kernel, by decide +kernel⟩, List.mem_of_getElem? (i := 20) (by decide +kernel), List.mem_of_getElem? (i := 386) (by decide +kernel), List.mem_of_getElem? (i := 387) (by decide +kernel)⟩
theorem lw_p35 : lw_okq (⟨"ThunderOwned$Parish", "setCount", "()I"⟩, 6) := ⟨⟨by decide +kernel, by decide +kernel⟩, List.mem_of_getElem? (i := 20) (by decide +kernel), List.mem_of_getElem? (i := 397) (by decide +kernel), List.mem_of_getElem? (i := 398) (by decide +kernel)⟩
theorem lw_p36 : lw_okq (⟨"ThunderOwned$Parish", "doesSetRankle", "(I)Z"⟩, 6) := ⟨⟨by decide +kernel, by decide +kernel⟩, List.mem_of_getElem? (i := 20) (by decide +kernel), List.mem_of_getElem? (i := 407) (by decide +kernel), List.mem_of_getElem? (i := 408) (by decide +kernel)⟩
theorem lw_p37 : lw_okq (⟨"ThunderOwned", "isQuietIfOwned", "(II)Z"⟩, 10) := ⟨⟨by decide +kernel, by decide +kernel⟩, List.mem_of_getElem? (i := 12) (by decide +kernel), List.mem_of_getElem? (i := 411) (by decide +kernel), List.mem_of_getElem? (i := 412) (by decide +kernel)⟩
theorem lw_p38 : lw_okq (⟨"ThunderOwned$Parish", "ownUpAll", "(I)V"⟩, 6) := ⟨⟨by decide +kernel, by decide +kernel⟩, List.mem_of_getElem? (i := 20) (by decide +kernel), List.mem_of_getElem? (i := 415) (by decide +kernel), List.mem_of_getElem? (i := 416) (by decide +kernel)⟩
theorem lw_p39 : lw_okq (⟨"ThunderOwned$Parish", "weightOfSet", "(I)I"⟩, 6) := ⟨⟨by decide +kernel, by decide +kernel⟩, List.mem_of_getElem? (i := 20) (by decide +kernel), List.mem_of_getElem? (i := 423) (by decide +kernel), List.mem_of_getElem? (i := 424) (by decide +kernel)⟩
theorem lw_p40 : lw_okq (⟨"ThunderOwned", "nightsIfChosen", "(III)I"⟩, 10) := ⟨⟨by decide +kernel, by decide +kernel⟩, List.mem_of_getElem? (i := 12) (by decide +kernel), List.mem_of_getElem? (i := 431) (by decide +kernel), List.mem_of_getElem? (i := 432) (by decide +kernel)⟩
theorem lw_p41 : lw_okq (⟨"ThunderOwned", "isContent", "(III)Z"⟩, 10) := ⟨⟨by decide +kernel, by decide +kernel⟩, List.mem_of_getElem? (i := 12) (by decide +kernel), List.mem_of_getElem? (i := 435) (by decide +kernel), List.mem_of_getElem? (i := 436) (by decide +kernel)⟩
theorem lw_p42 : lw_okq (⟨"ThunderOwned", "painOfChoice", "(III)I"⟩, 10) := ⟨⟨by decide +kernel, by decide +kernel⟩, List.mem_of_getElem? (i := 12) (by decide +kernel), List.mem_of_getElem? (i := 439) (by decide +kernel), List.mem_of_getElem? (i := 440) (by decide +kernel)⟩
theorem lw_p43 : lw_okq (⟨"ThunderOwned", "doReadingsHoldOfTrial", "()Z"⟩, 10) := ⟨⟨by decide +kernel, by decide +kernel⟩, List.mem_of_getElem? (i := 12) (by decide +kernel), List.mem_of_getElem? (i := 456) (by decide +kernel), List.mem_of_getElem? (i := 457) (by decide +kernel)⟩
theorem lw_p44 : lw_okq (⟨"ThunderOwned", "lastNightRead", "()I"⟩, 10) := ⟨⟨by decide +kernel, by decide +kernel⟩, List.mem_of_getElem? (i := 12) (by decide +kernel), List.mem_of_getElem? (i := 460) (by decide +kernel), List.mem_of_getElem? (i := 461) (by decide +kernel)⟩
theorem lw_p45 : lw_okq (⟨"ThunderOwned", "isVoiceAsRead", "(II)Z"⟩, 10) := ⟨⟨by decide +kernel, by decide +kernel⟩, List.mem_of_getElem? (i := 12) (by decide +kernel), List.mem_of_getElem? (i := 467) (by decide +kernel), List.mem_of_getElem? (i := 468) (by decide +kernel)⟩
theorem lw_p46 : lw_okq (⟨"ThunderOwned$Sheet", "renew", "(II)V"⟩, 4) := ⟨⟨by decide +kernel, by decide +kernel⟩, List.mem_of_getElem? (i := 106) (by decide +kernel), List.mem_of_getElem? (i := 489) (by decide +kernel), List.mem_of_getElem? (i := 490) (by decide +kernel)⟩
theorem lw_p47 : lw_okq (⟨"ThunderOwned$Sheet", "cutToLane", "(I)I"⟩, 4) := ⟨⟨by decide +kernel, by decide +kernel⟩, List.mem_of_getElem? (i := 106) (by decide +kernel), List.mem_of_getElem? (i := 501) (by decide +kernel), List.mem_of_getElem? (i := 502) (by decide +kernel)⟩
def lw_privs_3 : List (MethodName × Nat) := [(⟨"ThunderOwned", "afterDay", "(I)I"⟩, 10), (⟨"ThunderOwned$Parish", "hatsLost", "()I"⟩, 6), (⟨"ThunderOwned$Parish", "nightsUntilQuiet", "(I)I"⟩, 6), (⟨"ThunderOwned$Parish", "setCount", "()I"⟩, 6), (⟨"ThunderOwned$Parish", "doesSetRankle", "(I)Z"⟩, 6), (⟨"ThunderOwned", "isQuietIfOwned", "(II)Z"⟩, 10), (⟨"ThunderOwned$Parish", "ownUpAll", "(I)V"⟩, 6), (⟨"ThunderOwned$Parish", "weightOfSet", "(I)I"⟩, 6), (⟨"ThunderOwned", "nightsIfChosen", "(III)I"⟩, 10), (⟨"ThunderOwned", "isContent", "(III)Z"⟩, 10), (⟨"ThunderOwned", "painOfChoice", "(III)I"⟩, 10), (⟨"ThunderOwned", "doReadingsHoldOfTrial", "()Z"⟩, 10), (⟨"ThunderOwned", "lastNightRead", "()I"⟩, 10), (⟨"ThunderOwned", "isVoiceAsRead", "(II)Z"⟩, 10), (⟨"ThunderOwned$Sheet", "renew", "(II)V"⟩, 4), (⟨"ThunderOwned$Sheet", "cutToLane", "(I)I"⟩, 4)]
theorem lw_r3 : ∀ q ∈ lw_privs_3, lw_okq q := List.forall_mem_cons.mpr ⟨lw_p32, List.forall_mem_cons.mpr ⟨lw_p33, List.forall_mem_cons.mpr ⟨lw_p34, List.forall_mem_cons.mpr ⟨lw_p35, List.forall_mem_cons.mpr ⟨lw_p36, List.forall_mem_cons.mpr ⟨lw_p37, List.forall_mem_cons.mpr ⟨lw_p38, List.forall_mem_cons.mpr ⟨lw_p39, List.forall_mem_cons.mpr ⟨lw_p40, List.forall_mem_cons.mpr ⟨lw_p41, List.forall_mem_cons.mpr ⟨lw_p42, List.forall_mem_cons.mpr ⟨lw_p43, List.forall_mem_cons.mpr ⟨lw_p44, List.forall_mem_cons.mpr ⟨lw_p45, List.forall_mem_cons.mpr ⟨lw_p46, List.forall_mem_cons.mpr ⟨lw_p47, fun _ h => absurd h List.not_mem_nil⟩⟩⟩⟩⟩⟩⟩⟩⟩⟩⟩⟩⟩⟩⟩⟩
theorem lw_p48 : lw_okq (⟨"ThunderOwned", "toldAsDouble", "(LThunderOwned$House;)I"⟩, 10) := ⟨⟨by decide +kernel, by decide +kernel⟩, List.mem_of_getElem? (i := 12) (by decide +kernel), List.mem_of_getElem? (i := 520) (by decide +kernel), List.mem_of_getElem? (i := 521) (by decide +kernel)⟩
theorem lw_p49 : lw_okq (⟨"ThunderOwned", "leaveInTrace", "(I)V"⟩, 10) := ⟨⟨by decide +kernel, by decide +kernel⟩, List.mem_of_getElem? (i := 12) (by decide +kernel), List.mem_of_getElem? (i := 524) (by decide +kernel), List.mem_of_getElem? (i := 525) (by decide +kernel)⟩
theorem lw_p50 : lw_okq (⟨"ThunderOwned", "toldAsBrooding", "(LThunderOwned$House;)I"⟩, 10) := ⟨⟨by decide +kernel, by decide +kernel⟩, List.mem_of_getElem? (i := 12) (by decide +kernel), List.mem_of_getElem? (i := 528) (by decide +kernel), List.mem_of_getElem? (i := 529) (by decide +kernel)⟩
theorem lw_p51 : lw_okq (⟨"ThunderOwned", "toldAsPlain", "(LThunderOwned$House;)I"⟩, 10) := ⟨⟨by decide +kernel, by decide +kernel⟩, List.mem_of_getElem? (i := 12) (by decide +kernel), List.mem_of_getElem? (i := 532) (by decide +kernel), List.mem_of_getElem? (i := 533) (by decide +kernel)⟩
theorem lw_p52 : lw_okq (⟨"ThunderOwned", "knockedAsDouble", "()I"⟩, 10) := ⟨⟨by decide +kernel, by decide +kernel⟩, List.mem_of_getElem? (i := 12) (by decide +kernel), List.mem_of_getElem? (i := 540) (by decide +kernel), List.mem_of_getElem? (i := 541) (by decide +kernel)⟩
theorem lw_p53 : lw_okq (⟨"ThunderOwned", "knockedAsLent", "(LThunderOwned$House;)I"⟩, 10) := ⟨⟨by decide +kernel, by decide +kernel⟩, List.mem_of_getElem? (i := 12) (by decide +kernel), List.mem_of_getElem? (i := 544) (by decide +kernel), List.mem_of_getElem? (i := 545) (by decide +kernel)⟩
theorem lw_p54 : lw_okq (⟨"ThunderOwnedModel", "against", "(IIII)I"⟩, 29) := ⟨⟨by decide +kernel, by decide +kernel⟩, List.mem_of_getElem? (i := 564) (by decide +kernel), List.mem_of_getElem? (i := 671) (by decide +kernel), List.mem_of_getElem? (i := 672) (by decide +kernel)⟩
theorem lw_p55 : lw_okq (⟨"ThunderOwnedModel", "fails", "(I)I"⟩, 29) := ⟨⟨by decide +kernel, by decide +kernel⟩, List.mem_of_getElem? (i := 564) (by decide +kernel), List.mem_of_getElem? (i := 675) (by decide +kernel), List.mem_of_getElem? (i := 676) (by decide +kernel)⟩
theorem lw_p56 : lw_okq (⟨"ThunderOwnedModel", "readParish", "(I)Z"⟩, 29) := ⟨⟨by decide +kernel, by decide +kernel⟩, List.mem_of_getElem? (i := 564) (by decide +kernel), List.mem_of_getElem? (i := 679) (by decide +kernel), List.mem_of_getElem? (i := 680) (by decide +kernel)⟩
theorem lw_p57 : lw_okq (⟨"ThunderOwnedModel", "isSign", "(II)Z"⟩, 29) := ⟨⟨by decide +kernel, by decide +kernel⟩, List.mem_of_getElem? (i := 564) (by decide +kernel), List.mem_of_getElem? (i := 683) (by decide +kernel), List.mem_of_getElem? (i := 684) (by decide +kernel)⟩
theorem lw_p58 : lw_okq (⟨"ThunderOwnedModel", "digit", "(III)I"⟩, 29) := ⟨⟨by decide +kernel, by decide +kernel⟩, List.mem_of_getElem? (i := 564) (by decide +kernel), List.mem_of_getElem? (i := 687) (by decide +kernel), List.mem_of_getElem? (i := 688) (by decide +kernel)⟩
theorem lw_p59 : lw_okq (⟨"ThunderOwnedModel", "readHouse", "(I)Z"⟩, 29) := ⟨⟨by decide +kernel, by decide +kernel⟩, List.mem_of_getElem? (i := 564) (by decide +kernel), List.mem_of_getElem? (i := 691) (by decide +kernel), List.mem_of_getElem? (i := 692) (by decide +kernel)⟩
theorem lw_p60 : lw_okq (⟨"ThunderOwnedModel", "readStonesAll", "(I)Z"⟩, 29) := ⟨⟨by decide +kernel, by decide +kernel⟩, List.mem_of_getElem? (i := 564) (by decide +kernel), List.mem_of_getElem? (i := 695) (by decide +kernel), List.mem_of_getElem? (i := 696) (by decide +kernel)⟩
theorem lw_p61 : lw_okq (⟨"ThunderOwnedModel", "takeParish", "()V"⟩, 29) := ⟨⟨by decide +kernel, by decide +kernel⟩, List.mem_of_getElem? (i := 564) (by decide +kernel), List.mem_of_getElem? (i := 699) (by decide +kernel), List.mem_of_getElem? (i := 700) (by decide +kernel)⟩
theorem lw_p62 : lw_okq (⟨"ThunderOwnedModel", "isHouse", "(I)Z"⟩, 29) := ⟨⟨by decide +kernel, by decide +kernel⟩, List.mem_of_getElem? (i := 564) (by decide +kernel), List.mem_of_getElem? (i := 707) (by decide +kernel), List.mem_of_getElem? (i := 708) (by decide +kernel)⟩
theorem lw_p63 : lw_okq (⟨"ThunderOwnedModel", "weightOf", "(I)I"⟩, 29) := ⟨⟨by decide +kernel, by decide +kernel⟩, List.mem_of_getElem? (i := 564) (by decide +kernel), List.mem_of_getElem? (i := 711) (by decide +kernel), List.mem_of_getElem? (i := 712) (by decide +kernel)⟩
def lw_privs_4 : List (MethodName × Nat) := [(⟨"ThunderOwned", "toldAsDouble", "(LThunderOwned$House;)I"⟩, 10), (⟨"ThunderOwned", "leaveInTrace", "(I)V"⟩, 10), (⟨"ThunderOwned", "toldAsBrooding", "(LThunderOwned$House;)I"⟩, 10), (⟨"ThunderOwned", "toldAsPlain", "(LThunderOwned$House;)I"⟩, 10), (⟨"ThunderOwned", "knockedAsDouble", "()I"⟩, 10), (⟨"ThunderOwned", "knockedAsLent", "(LThunderOwned$House;)I"⟩, 10), (⟨"ThunderOwnedModel", "against", "(IIII)I"⟩, 29), (⟨"ThunderOwnedModel", "fails", "(I)I"⟩, 29), (⟨"ThunderOwnedModel", "readParish", "(I)Z"⟩, 29), (⟨"ThunderOwnedModel", "isSign", "(II)Z"⟩, 29), (⟨"ThunderOwnedModel", "digit", "(III)I"⟩, 29), (⟨"ThunderOwnedModel", "readHouse", "(I)Z"⟩, 29), (⟨"ThunderOwnedModel", "readStonesAll", "(I)Z"⟩, 29), (⟨"ThunderOwnedModel", "takeParish", "()V"⟩, 29), (⟨"ThunderOwnedModel", "isHouse", "(I)Z"⟩, 29), (⟨"ThunderOwnedModel", "weightOf", "(I)I"⟩, 29)]
theorem lw_r4 : ∀ q ∈ lw_privs_4, lw_okq q := List.forall_mem_cons.mpr ⟨lw_p48, List.forall_mem_cons.mpr ⟨lw_p49, List.forall_mem_cons.mpr ⟨lw_p50, List.forall_mem_cons.mpr ⟨lw_p51, List.forall_mem_cons.mpr ⟨lw_p52, List.forall_mem_cons.mpr ⟨lw_p53, List.forall_mem_cons.mpr ⟨lw_p54, List.forall_mem_cons.mpr ⟨lw_p55, List.forall_mem_cons.mpr ⟨lw_p56, List.forall_mem_cons.mpr ⟨lw_p57, List.forall_mem_cons.mpr ⟨lw_p58, List.forall_mem_cons.mpr ⟨lw_p59, List.forall_mem_cons.mpr ⟨lw_p60, List.forall_mem_cons.mpr ⟨lw_p61, List.forall_mem_cons.mpr ⟨lw_p62, List.forall_mem_cons.mpr ⟨lw_p63, fun _ h => absurd h List.not_mem_nil⟩⟩⟩⟩⟩⟩⟩⟩⟩⟩⟩⟩⟩⟩⟩⟩
theorem lw_p64 : lw_okq (⟨"ThunderOwnedModel", "rankles", "(I)Z"⟩, 29) := ⟨⟨by decide +kernel, by decide +kernel⟩, List.mem_of_getElem? (i := 564) (by decide +kernel), List.mem_of_getElem? (i := 715) (by decide +kernel), List.mem_of_getElem? (i := 716) (by decide +kernel)⟩
theorem lw_p65 : lw_okq (⟨"ThunderOwnedModel", "isStone", "(I)Z"⟩, 29) := ⟨⟨by decide +kernel, by decide +kernel⟩, List.mem_of_getElem? (i := 564) (by decide +kernel), List.mem_of_getElem? (i := 726) (by decide +kernel), List.mem_of_getElem? (i := 727) (by decide +kernel)⟩
theorem lw_p66 : lw_okq (⟨"ThunderOwnedModel", "owns", "(I)Z"⟩, 29) := ⟨⟨by decide +kernel, by decide +kernel⟩, List.mem_of_getElem? (i := 564) (by decide +kernel), List.mem_of_getElem? (i := 738) (by decide +kernel), List.mem_of_getElem? (i := 739) (by decide +kernel)⟩
theorem lw_p67 : lw_okq (⟨"ThunderOwnedModel", "voiceNow", "()I"⟩, 29) := ⟨⟨by decide +kernel, by decide +kernel⟩, List.mem_of_getElem? (i := 564) (by decide +kernel), List.mem_of_getElem? (i := 746) (by decide +kernel), List.mem_of_getElem? (i := 747) (by decide +kernel)⟩
theorem lw_p68 : lw_okq (⟨"ThunderOwnedModel", "goesNight", "()V"⟩, 29) := ⟨⟨by decide +kernel, by decide +kernel⟩, List.mem_of_getElem? (i := 564) (by decide +kernel), List.mem_of_getElem? (i := 754) (by decide +kernel), List.mem_of_getElem? (i := 755) (by decide +kernel)⟩
theorem lw_p69 : lw_okq (⟨"ThunderOwnedModel", "whoRankle", "()I"⟩, 29) := ⟨⟨by decide +kernel, by decide +kernel⟩, List.mem_of_getElem? (i := 564) (by decide +kernel), List.mem_of_getElem? (i := 758) (by decide +kernel), List.mem_of_getElem? (i := 759) (by decide +kernel)⟩
theorem lw_p70 : lw_okq (⟨"ThunderOwnedModel", "layGreatest", "()V"⟩, 29) := ⟨⟨by decide +kernel, by decide +kernel⟩, List.mem_of_getElem? (i := 564) (by decide +kernel), List.mem_of_getElem? (i := 762) (by decide +kernel), List.mem_of_getElem? (i := 763) (by decide +kernel)⟩
theorem lw_p71 : lw_okq (⟨"ThunderOwnedModel", "keep", "(I)V"⟩, 29) := ⟨⟨by decide +kernel, by decide +kernel⟩, List.mem_of_getElem? (i := 564) (by decide +kernel), List.mem_of_getElem? (i := 770) (by decide +kernel), List.mem_of_getElem? (i := 771) (by decide +kernel)⟩
theorem lw_p72 : lw_okq (⟨"ThunderOwnedModel", "goDay", "(II)I"⟩, 29) := ⟨⟨by decide +kernel, by decide +kernel⟩, List.mem_of_getElem? (i := 564) (by decide +kernel), List.mem_of_getElem? (i := 774) (by decide +kernel), List.mem_of_getElem? (i := 775) (by decide +kernel)⟩
theorem lw_p73 : lw_okq (⟨"ThunderOwnedModel", "does", "(I)Z"⟩, 29) := ⟨⟨by decide +kernel, by decide +kernel⟩, List.mem_of_getElem? (i := 564) (by decide +kernel), List.mem_of_getElem? (i := 778) (by decide +kernel), List.mem_of_getElem? (i := 779) (by decide +kernel)⟩
theorem lw_p74 : lw_okq (⟨"ThunderOwnedModel", "tellDay", "(II)I"⟩, 29) := ⟨⟨by decide +kernel, by decide +kernel⟩, List.mem_of_getElem? (i := 564) (by decide +kernel), List.mem_of_getElem? (i := 782) (by decide +kernel), List.mem_of_getElem? (i := 783) (by decide +kernel)⟩
theorem lw_p75 : lw_okq (⟨"ThunderOwnedModel", "putBack", "(I)V"⟩, 29) := ⟨⟨by decide +kernel, by decide +kernel⟩, List.mem_of_getElem? (i := 564) (by decide +kernel), List.mem_of_getElem? (i := 786) (by decide +kernel), List.mem_of_getElem? (i := 787) (by decide +kernel)⟩
theorem lw_p76 : lw_okq (⟨"ThunderOwnedModel", "quietIn", "(I)I"⟩, 29) := ⟨⟨by decide +kernel, by decide +kernel⟩, List.mem_of_getElem? (i := 564) (by decide +kernel), List.mem_of_getElem? (i := 798) (by decide +kernel), List.mem_of_getElem? (i := 799) (by decide +kernel)⟩
theorem lw_p77 : lw_okq (⟨"ThunderOwnedModel", "weightOfSet", "(I)I"⟩, 29) := ⟨⟨by decide +kernel, by decide +kernel⟩, List.mem_of_getElem? (i := 564) (by decide +kernel), List.mem_of_getElem? (i := 813) (by decide +kernel), List.mem_of_getElem? (i := 814) (by decide +kernel)⟩
theorem lw_p78 : lw_okq (⟨"ThunderOwnedModel", "findPains", "(II)V"⟩, 29) := ⟨⟨by decide +kernel, by decide +kernel⟩, List.mem_of_getElem? (i := 564) (by decide +kernel), List.mem_of_getElem? (i := 821) (by decide +kernel), List.mem_of_getElem? (i := 822) (by decide +kernel)⟩
theorem lw_p79 : lw_okq (⟨"ThunderOwnedModel", "areSo", "()Z"⟩, 29) := ⟨⟨by decide +kernel, by decide +kernel⟩, List.mem_of_getElem? (i := 564) (by decide +kernel), List.mem_of_getElem? (i := 837) (by decide +kernel), List.mem_of_getElem? (i := 838) (by decide +kernel)⟩
def lw_privs_5 : List (MethodName × Nat) := [(⟨"ThunderOwnedModel", "rankles", "(I)Z"⟩, 29), (⟨"ThunderOwnedModel", "isStone", "(I)Z"⟩, 29), (⟨"ThunderOwnedModel", "owns", "(I)Z"⟩, 29), (⟨"ThunderOwnedModel", "voiceNow", "()I"⟩, 29), (⟨"ThunderOwnedModel", "goesNight", "()V"⟩, 29), (⟨"ThunderOwnedModel", "whoRankle", "()I"⟩, 29), (⟨"ThunderOwnedModel", "layGreatest", "()V"⟩, 29), (⟨"ThunderOwnedModel", "keep", "(I)V"⟩, 29), (⟨"ThunderOwnedModel", "goDay", "(II)I"⟩, 29), (⟨"ThunderOwnedModel", "does", "(I)Z"⟩, 29), (⟨"ThunderOwnedModel", "tellDay", "(II)I"⟩, 29), (⟨"ThunderOwnedModel", "putBack", "(I)V"⟩, 29), (⟨"ThunderOwnedModel", "quietIn", "(I)I"⟩, 29), (⟨"ThunderOwnedModel", "weightOfSet", "(I)I"⟩, 29), (⟨"ThunderOwnedModel", "findPains", "(II)V"⟩, 29), (⟨"ThunderOwnedModel", "areSo", "()Z"⟩, 29)]
theorem lw_r5 : ∀ q ∈ lw_privs_5, lw_okq q := List.forall_mem_cons.mpr ⟨lw_p64, List.forall_mem_cons.mpr ⟨lw_p65, List.forall_mem_cons.mpr ⟨lw_p66, List.forall_mem_cons.mpr ⟨lw_p67, List.forall_mem_cons.mpr ⟨lw_p68, List.forall_mem_cons.mpr ⟨lw_p69, List.forall_mem_cons.mpr ⟨lw_p70, List.forall_mem_cons.mpr ⟨lw_p71, List.forall_mem_cons.mpr ⟨lw_p72, List.forall_mem_cons.mpr ⟨lw_p73, List.forall_mem_cons.mpr ⟨lw_p74, List.forall_mem_cons.mpr ⟨lw_p75, List.forall_mem_cons.mpr ⟨lw_p76, List.forall_mem_cons.mpr ⟨lw_p77, List.forall_mem_cons.mpr ⟨lw_p78, List.forall_mem_cons.mpr ⟨lw_p79, fun _ h => absurd h List.not_mem_nil⟩⟩⟩⟩⟩⟩⟩⟩⟩⟩⟩⟩⟩⟩⟩⟩
theorem lw_p80 : lw_okq (⟨"ThunderOwnedModel", "lost", "(I)J"⟩, 29) := ⟨⟨by decide +kernel, by decide +kernel⟩, List.mem_of_getElem? (i := 564) (by decide +kernel), List.mem_of_getElem? (i := 873) (by decide +kernel), List.mem_of_getElem? (i := 874) (by decide +kernel)⟩
theorem lw_p81 : lw_okq (⟨"ThunderOwnedModel", "begins", "(I)V"⟩, 29) := ⟨⟨by decide +kernel, by decide +kernel⟩, List.mem_of_getElem? (i := 564) (by decide +kernel), List.mem_of_getElem? (i := 885) (by decide +kernel), List.mem_of_getElem? (i := 886) (by decide +kernel)⟩
def lw_privs_6 : List (MethodName × Nat) := [(⟨"ThunderOwnedModel", "lost", "(I)J"⟩, 29), (⟨"ThunderOwnedModel", "begins", "(I)V"⟩, 29)]
theorem lw_r6 : ∀ q ∈ lw_privs_6, lw_okq q := List.forall_mem_cons.mpr ⟨lw_p80, List.forall_mem_cons.mpr ⟨lw_p81, fun _ h => absurd h List.not_mem_nil⟩⟩
def lw_privs : List (MethodName × Nat) := lw_privs_1 ++ (lw_privs_2 ++ (lw_privs_3 ++ (lw_privs_4 ++ (lw_privs_5 ++ (lw_privs_6)))))
def lw_tbl : List Cond := k2_sels lw_privs ++ tables_1
theorem lw_privs_ok : ∀ q ∈ lw_privs, lw_okq q := by
  show ∀ q ∈ lw_privs_1 ++ (lw_privs_2 ++ (lw_privs_3 ++ (lw_privs_4 ++ (lw_privs_5 ++ (lw_privs_6))))), lw_okq q
  exact List.forall_mem_append.mpr ⟨lw_r1, List.forall_mem_append.mpr ⟨lw_r2, List.forall_mem_append.mpr ⟨lw_r3, List.forall_mem_append.mpr ⟨lw_r4, List.forall_mem_append.mpr ⟨lw_r5, lw_r6⟩⟩⟩⟩⟩
end
section
def tn_T0 : u_T := fun k => match k with
  | 0 => ("ThunderOwned$House", "kind", "I", false)
  | 1 => ("ThunderOwned$House", "wrong", "I", false)
  | 2 => ("ThunderOwned$House", "sleepLeft", "I", false)
  | 3 => ("ThunderOwned$House", "hats", "I", false)
  | _ => ("ThunderOwned$House", "owned", "Z", false)
def tn_ty0 : Nat → FieldType := fun k => match k with
  | 0 => .int
  | 1 => .int
  | 2 => .int
  | 3 => .int
  | _ => .boolean
theorem tn_nm0 : ∀ a, a < 5 → ∀ b, b < 5 → a ≠ b → (tn_T0 a).2.1 ≠ (tn_T0 b).2.1 := by decide +kernel
theorem tn_tk0 : ∀ k, k < 5 → parseFieldDescriptor (tn_T0 k).2.2.1 = some (tn_ty0 k) := by decide +kernel
def tn_T1 : u_T := fun k => match k with
  | 0 => ("ThunderOwned$Parish", "houses", "[LThunderOwned$House;", true)
  | 1 => ("ThunderOwned$Parish", "stones", "[LThunderOwned$Stone;", true)
  | 2 => ("ThunderOwned$Parish", "houseCount", "I", false)
  | 3 => ("ThunderOwned$Parish", "stoneCount", "I", false)
  | 4 => ("ThunderOwned$Parish", "step", "I", false)
  | _ => ("ThunderOwned$Parish", "hangs", "I", false)
def tn_ty1 : Nat → FieldType := fun k => match k with
  | 0 => .array (.object "ThunderOwned$House")
  | 1 => .array (.object "ThunderOwned$Stone")
  | 2 => .int
  | 3 => .int
  | 4 => .int
  | _ => .int
theorem tn_nm1 : ∀ a, a < 6 → ∀ b, b < 6 → a ≠ b → (tn_T1 a).2.1 ≠ (tn_T1 b).2.1 := by decide +kernel
theorem tn_tk1 : ∀ k, k < 6 → parseFieldDescriptor (tn_T1 k).2.2.1 = some (tn_ty1 k) := by decide +kernel
def tn_T2 : u_T := fun k => match k with
  | 0 => ("ThunderOwned$Sheet", "cells", "[I", true)
  | 1 => ("ThunderOwned$Sheet", "present", "Z", false)
  | 2 => ("ThunderOwned$Sheet", "lane", "I", false)
  | _ => ("ThunderOwned$Sheet", "length", "I", false)
def tn_ty2 : Nat → FieldType := fun k => match k with
  | 0 => .array .int
  | 1 => .boolean
  | 2 => .int
  | _ => .int
theorem tn_nm2 : ∀ a, a < 4 → ∀ b, b < 4 → a ≠ b → (tn_T2 a).2.1 ≠ (tn_T2 b).2.1 := by decide +kernel
theorem tn_tk2 : ∀ k, k < 4 → parseFieldDescriptor (tn_T2 k).2.2.1 = some (tn_ty2 k) := by decide +kernel
def tn_T3 : u_T := fun k => match k with
  | 0 => ("ThunderOwned$Stone", "hides", "I", false)
  | _ => ("ThunderOwned$Stone", "laid", "Z", false)
def tn_ty3 : Nat → FieldType := fun k => match k with
  | 0 => .int
  | _ => .boolean
theorem tn_nm3 : ∀ a, a < 2 → ∀ b, b < 2 → a ≠ b → (tn_T3 a).2.1 ≠ (tn_T3 b).2.1 := by decide +kernel
theorem tn_tk3 : ∀ k, k < 2 → parseFieldDescriptor (tn_T3 k).2.2.1 = some (tn_ty3 k) := by decide +kernel
def tn_T4 : u_T := fun k => match k with
  | 0 => ("ThunderOwned$TextReader", "draft", "LThunderOwned$Parish;", true)
  | 1 => ("ThunderOwned$TextReader", "due", "I", false)
  | 2 => ("ThunderOwned$TextReader", "kind", "I", false)
  | _ => ("ThunderOwned$TextReader", "wrong", "I", false)
def tn_ty4 : Nat → FieldType := fun k => match k with
  | 0 => .object "ThunderOwned$Parish"
  | 1 => .int
  | 2 => .int
  | _ => .int
theorem tn_nm4 : ∀ a, a < 4 → ∀ b, b < 4 → a ≠ b → (tn_T4 a).2.1 ≠ (tn_T4 b).2.1 := by decide +kernel
theorem tn_tk4 : ∀ k, k < 4 → parseFieldDescriptor (tn_T4 k).2.2.1 = some (tn_ty4 k) := by decide +kernel
def tn_T5 : u_T := fun k => match k with
  | 0 => ("ThunderOwned", "now", "LThunderOwned$Parish;", true)
  | 1 => ("ThunderOwned", "trial", "LThunderOwned$Parish;", true)
  | 2 => ("ThunderOwned", "sheets", "[LThunderOwned$Sheet;", true)
  | 3 => ("ThunderOwned", "readingNights", "[I", true)
  | 4 => ("ThunderOwned", "readingVoices", "[I", true)
  | 5 => ("ThunderOwned", "nightsOfChoice", "[I", true)
  | 6 => ("ThunderOwned", "readingCount", "I", false)
  | 7 => ("ThunderOwned", "nightsGone", "I", false)
  | 8 => ("ThunderOwned", "traceLeft", "I", false)
  | _ => ("ThunderOwned", "latestFault", "I", false)
def tn_ty5 : Nat → FieldType := fun k => match k with
  | 0 => .object "ThunderOwned$Parish"
  | 1 => .object "ThunderOwned$Parish"
  | 2 => .array (.object "ThunderOwned$Sheet")
  | 3 => .array .int
  | 4 => .array .int
  | 5 => .array .int
  | 6 => .int
  | 7 => .int
  | 8 => .int
  | _ => .int
theorem tn_nm5 : ∀ a, a < 10 → ∀ b, b < 10 → a ≠ b → (tn_T5 a).2.1 ≠ (tn_T5 b).2.1 := by decide +kernel
theorem tn_tk5 : ∀ k, k < 10 → parseFieldDescriptor (tn_T5 k).2.2.1 = some (tn_ty5 k) := by decide +kernel
def tn_T6 : u_T := fun k => match k with
  | 0 => ("ThunderOwnedModel", "fault", "I", false)
  | 1 => ("ThunderOwnedModel", "trace", "I", false)
  | 2 => ("ThunderOwnedModel", "sorts", "[I", true)
  | 3 => ("ThunderOwnedModel", "sheetLong", "[I", true)
  | 4 => ("ThunderOwnedModel", "cells", "[I", true)
  | 5 => ("ThunderOwnedModel", "houses", "I", false)
  | 6 => ("ThunderOwnedModel", "stones", "I", false)
  | 7 => ("ThunderOwnedModel", "step", "I", false)
  | 8 => ("ThunderOwnedModel", "hangs", "I", false)
  | 9 => ("ThunderOwnedModel", "nights", "I", false)
  | 10 => ("ThunderOwnedModel", "hats", "I", false)
  | 11 => ("ThunderOwnedModel", "owned", "I", false)
  | 12 => ("ThunderOwnedModel", "laid", "I", false)
  | 13 => ("ThunderOwnedModel", "kind", "[I", true)
  | 14 => ("ThunderOwnedModel", "wrong", "[I", true)
  | 15 => ("ThunderOwnedModel", "sleep", "[I", true)
  | 16 => ("ThunderOwnedModel", "hatsOf", "[I", true)
  | 17 => ("ThunderOwnedModel", "hides", "[I", true)
  | 18 => ("ThunderOwnedModel", "at", "I", false)
  | 19 => ("ThunderOwnedModel", "readHouses", "I", false)
  | 20 => ("ThunderOwnedModel", "readStones", "I", false)
  | 21 => ("ThunderOwnedModel", "readStep", "I", false)
  | 22 => ("ThunderOwnedModel", "read", "[I", true)
  | 23 => ("ThunderOwnedModel", "readHides", "[I", true)
  | 24 => ("ThunderOwnedModel", "kept", "[I", true)
  | 25 => ("ThunderOwnedModel", "pains", "[I", true)
  | 26 => ("ThunderOwnedModel", "readings", "I", false)
  | 27 => ("ThunderOwnedModel", "readBehind", "[I", true)
  | _ => ("ThunderOwnedModel", "readVoice", "[I", true)
def tn_ty6 : Nat → FieldType := fun k => match k with
  | 0 => .int
  | 1 => .int
  | 2 => .array .int
  | 3 => .array .int
  | 4 => .array .int
  | 5 => .int
  | 6 => .int
  | 7 => .int
  | 8 => .int
  | 9 => .int
  | 10 => .int
  | 11 => .int
  | 12 => .int
  | 13 => .array .int
  | 14 => .array .int
  | 15 => .array .int
  | 16 => .array .int
  | 17 => .array .int
  | 18 => .int
  | 19 => .int
  | 20 => .int
  | 21 => .int
  | 22 => .array .int
  | 23 => .array .int
  | 24 => .array .int
  | 25 => .array .int
  | 26 => .int
  | 27 => .array .int
  | _ => .array .int
theorem tn_nm6 : ∀ a, a < 29 → ∀ b, b < 29 → a ≠ b → (tn_T6 a).2.1 ≠ (tn_T6 b).2.1 := by decide +kernel
theorem tn_tk6 : ∀ k, k < 29 → parseFieldDescriptor (tn_T6 k).2.2.1 = some (tn_ty6 k) := by decide +kernel
abbrev tn_cl : List vw_C := [("ThunderOwned$House", tn_T0, 5), ("ThunderOwned$Parish", tn_T1, 6), ("ThunderOwned$Sheet", tn_T2, 4), ("ThunderOwned$Stone", tn_T3, 2), ("ThunderOwned$TextReader", tn_T4, 4), ("ThunderOwned", tn_T5, 10), ("ThunderOwnedModel", tn_T6, 29)]
def tn_N : Nat → Nat := fun i => match i with
  | 0 => 5
  | 1 => 6
  | 2 => 4
  | 3 => 2
  | 4 => 4
  | 5 => 10
  | _ => 29
def tn_rl : Nat → List Nat := fun i => match i with
  | 0 => []
  | 1 => [0, 1]
  | 2 => [0]
  | 3 => []
  | 4 => [0]
  | 5 => [0, 1, 2, 3, 4, 5]
  | _ => [2, 3, 4, 13, 14, 15, 16, 17, 22, 23, 24, 25, 27, 28]
def tn_isR (i k : Nat) : Bool := (tn_rl i).contains k
/-- the words that every method may use -/
def tn_tbl : List Cond := lw_tbl.filter goodWord
def tn_isN : Cond → Bool
  | .fieldLinkNest .. => true
  | .methodLinkNest .. => true
  | _ => false
def tn_nst : List Cond := lw_tbl.filter tn_isN
theorem tn_w (i : Nat) {w : Cond} (h : lw_tbl[i]? = some w) (hg : goodWord w = true) : w ∈ tn_tbl := List.mem_filter.mpr ⟨List.mem_of_getElem? h, hg⟩
theorem tn_wn (i : Nat) {w : Cond} (h : lw_tbl[i]? = some w) (hg : tn_isN w = true) : w ∈ tn_nst := List.mem_filter.mpr ⟨List.mem_of_getElem? h, hg⟩
theorem tn_wl {l : List Cond} {ps : List Nat} (h : l.map some = ps.map (fun i => lw_tbl[i]?)) (hg : l.all goodWord = true) : ∀ w ∈ l, w ∈ tn_tbl := by
  intro w hw
  have h1 : some w ∈ ps.map (fun i => lw_tbl[i]?) := by rw [← h]; exact List.mem_map.mpr ⟨w, hw, rfl⟩
  obtain ⟨i, -, hi⟩ := List.mem_map.mp h1
  exact tn_w i hi (List.all_eq_true.mp hg w hw)
theorem tn_us0 : ∀ w ∈ u_ws "ThunderOwned$House" tn_T0 5, w ∈ tn_tbl := tn_wl (ps := [131, 133, 135, 137, 139]) (by decide +kernel) (by decide +kernel)
theorem tn_us1 : ∀ w ∈ u_ws "ThunderOwned$Parish" tn_T1 6, w ∈ tn_tbl := tn_wl (ps := [173, 175, 177, 179, 181, 183]) (by decide +kernel) (by decide +kernel)
theorem tn_us2 : ∀ w ∈ u_ws "ThunderOwned$Sheet" tn_T2 4, w ∈ tn_tbl := tn_wl (ps := [200, 202, 204, 206]) (by decide +kernel) (by decide +kernel)
theorem tn_us3 : ∀ w ∈ u_ws "ThunderOwned$Stone" tn_T3 2, w ∈ tn_tbl := tn_wl (ps := [153, 155]) (by decide +kernel) (by decide +kernel)
theorem tn_us4 : ∀ w ∈ u_ws "ThunderOwned$TextReader" tn_T4 4, w ∈ tn_tbl := tn_wl (ps := [283, 285, 287, 289]) (by decide +kernel) (by decide +kernel)
theorem tn_us5 : ∀ w ∈ u_ws "ThunderOwned" tn_T5 10, w ∈ tn_tbl := tn_wl (ps := [220, 222, 224, 226, 228, 230, 232, 234, 236, 238]) (by decide +kernel) (by decide +kernel)
theorem tn_us6 : ∀ w ∈ u_ws "ThunderOwnedModel" tn_T6 29, w ∈ tn_tbl := tn_wl (ps := [680, 682, 684, 686, 688, 690, 692, 694, 696, 698, 700, 702, 704, 706, 708, 710, 712, 714, 716, 718, 720, 722, 724, 726, 728, 730, 732, 734, 736]) (by decide +kernel) (by decide +kernel)
end
section
/-! ===== the abstract world: cells by codes (0 null, 1 the script, n + 2 the n-th cell), ints and references apart ===== -/
/-- a method: name, code, locals, what it returns, room -/
abbrev tn_M : Type := MethodName × ByteArray × Nat × Option FieldType × Room
/-- what a walk stands in -/
abbrev tn_G : Type := (Program × Launch × Env × Room × State × MethodId × Array Value × List Frame × Method × Code × (State → Prop)) × va_G × (Nat → ClassId) × (Nat → Prop) × Heap × (Nat → Nat) × Nat
def tn_gr (g : Nat → Nat) (c : Nat) : Option Nat := if c = 0 then none else some (g c)
def tn_v (g : Nat → Nat) (v : Value) : Value := match v with
  | .ref c => va_rf (tn_gr g c)
  | .int x => .int x
  | .long x => .long x
  | w => w
def tn_ok (n : Nat) (v : Value) : Prop := match v with
  | .ref c => c < n + 2
  | _ => True
def tn_fs (i : Nat) (g : Nat → Nat) (ρ : Nat → Nat → Nat) (σ : Nat → Nat → Int32) (c : Nat) : List Value := (List.range (tn_N i)).map (fun j => if tn_isR i j = true then va_rf (tn_gr g (ρ c j)) else .int (σ c j))
def tn_e (cA : Nat → ClassId) (g : Nat → Nat) (ρ : Nat → Nat → Nat) (σ : Nat → Nat → Int32) (c : Nat) (k : Nat × Nat) : va_E :=
  if k.1 < 7 then .inr (k.1, tn_fs k.1 g ρ σ c) else if k.1 = 7 then .inl (cA 0, k.2, .inl (σ c)) else .inl (cA (k.1 - 7), k.2, .inr (.inr (.inr (.inr (fun j => tn_gr g (ρ c j))))))
def tn_c (cA : Nat → ClassId) (g : Nat → Nat) (ρ : Nat → Nat → Nat) (σ : Nat → Nat → Int32) (i : Nat) (k : Nat × Nat) : Nat × va_E := (g (i + 2), tn_e cA g ρ σ (i + 2) k)
def tn_C (cA : Nat → ClassId) (g : Nat → Nat) (ks : List (Nat × Nat)) (ρ : Nat → Nat → Nat) (σ : Nat → Nat → Int32) : va_W := ks.mapIdx (tn_c cA g ρ σ)
def tn_kd (ks : List (Nat × Nat)) (c : Nat) : Option (Nat × Nat) := if c < 2 then none else ks[c - 2]?
abbrev tn_tys (cA : Nat → ClassId) : List (ClassId × FieldType) := [(cA 0, .int), (cA 1, .object "ThunderOwned$House"), (cA 2, .object "ThunderOwned$Stone"), (cA 3, .object "ThunderOwned$Sheet")]
/-- what the tables say, carried along -/
def tn_K (D : va_G) (cA : Nat → ClassId) (U : State) : Prop := va_K D tn_cl (tn_tys cA) U ∧ (∀ w ∈ tn_nst, va_Nw w U) ∧ va_AO "ThunderOwned$House" U ∧ va_AO "ThunderOwned$Stone" U ∧ va_AO "ThunderOwned$Sheet" U
def tn_P (D : va_G) (cA : Nat → ClassId) (A : Nat → Prop) (g : Nat → Nat) (ks : List (Nat × Nat)) (ρ : Nat → Nat → Nat) (σ : Nat → Nat → Int32) (H : Heap) : Prop :=
  va_P D tn_cl (tn_C cA g ks ρ σ) H ∧ va_D A (tn_C cA g ks ρ σ) ∧ ∀ c k, ρ c k < ks.length + 2
def tn_L (g : Nat → Nat) (loc : List Value) (ls : Array Slot) (nL : Nat) : Prop := ls.size = nL ∧ lv_wf ls ∧ ∀ (i : Nat) (v : Value), loc[i]? = some v → v ≠ .null → ls[i]? = some (.val (tn_v g v))
def tn_okL (n : Nat) (l : List Value) : Prop := ∀ v ∈ l, tn_ok n v
/-- THE JUDGEMENT: from every heap that holds the cells, the machine at pc comes to its end -/
def tn_A (Γ : tn_G) (pc : Nat) (loc st : List Value) (ca sl : Nat) (ks : List (Nat × Nat)) (ρ : Nat → Nat → Nat) (σ : Nat → Nat → Int32) : Prop :=
  match Γ with
  | ⟨⟨p, l, e, R, s, m, args, below, meth, c, Q⟩, D, cA, A, H0, g0, n0⟩ => ∀ (g : Nat → Nat) (H : Heap) (locs : List Loc) (ls : Array Slot), tn_P D cA A g ks ρ σ H → va_S A H0 H locs → tn_L g loc ls c.maxLocals → tn_okL ks.length loc → tn_okL ks.length st → (∀ q, q < n0 + 2 → g q = g0 q) → n0 ≤ ks.length →
    W p l e R s m args below meth c H locs ca sl Q (F0 m pc ls (st.map (tn_v g)))
/-- what holds in the body of the method z -/
def tn_is (Γ : tn_G) (z : tn_M) : Prop := match Γ with
  | ⟨⟨p, l, e, R, s, m, args, below, meth, c, Q⟩, D, cA, A, H0, g0, n0⟩ => p.tables.exec = Jvm.exec ∧ c.code = z.2.1 ∧ c.maxLocals = z.2.2.1 ∧ s.vm.findClass z.1.cls = some m.cls ∧ (∀ w ∈ tn_tbl, w.before args s = true) ∧ tn_K D cA s ∧ R = z.2.2.2.2 ∧ meth.sig.returnType = z.2.2.2.1 ∧ meth.locks = false ∧ meth.name = z.1.name ∧ (∀ q, H0.size ≤ q → A q)
def tn_Qc (D : va_G) (cA : Nat → ClassId) (A : Nat → Prop) (g : Nat → Nat) (n : Nat) (K : Option Value → List (Nat × Nat) → (Nat → Nat → Nat) → (Nat → Nat → Int32) → Prop) : Array Value → State → Outcome → State → Prop := fun _ st oc t =>
  (∃ (v : Option Value) (g' : Nat → Nat) (ks' : List (Nat × Nat)) (ρ' : Nat → Nat → Nat) (σ' : Nat → Nat → Int32), oc = .returned v ∧ (∀ c : Nat, v ≠ some (.ref c)) ∧ K v ks' ρ' σ' ∧ (∀ c, c < n + 2 → g' c = g c) ∧ n ≤ ks'.length ∧ tn_P D cA A g' ks' ρ' σ' t.heap) ∧ va_F A st t
def tn_rt (Γ : tn_G) (z : tn_M) (K : Option Value → List (Nat × Nat) → (Nat → Nat → Nat) → (Nat → Nat → Int32) → Prop) : Prop := match Γ with
  | ⟨⟨_, _, _, _, s, _, args, below, _, _, Q⟩, D, cA, A, H0, g0, n0⟩ => H0 = s.heap ∧ Q = MQ below (tn_Qc D cA A g0 n0 K) args s z.2.2.2.2.cells z.2.2.2.2.slots A
def tn_ws (z : tn_M) : List Cond := .code z.1 z.2.1 z.2.2.1 z.2.2.2.1 :: tn_tbl
/-- A CONTRACT: from a world of the cells ks, ρ, σ the method z comes back with K -/
def tn_Call (z : tn_M) (As : List Value) (ks : List (Nat × Nat)) (ρ : Nat → Nat → Nat) (σ : Nat → Nat → Int32) (K : Option Value → List (Nat × Nat) → (Nat → Nat → Nat) → (Nat → Nat → Int32) → Prop) : Prop :=
  ∀ (l : Launch) (D : va_G) (cA : Nat → ClassId) (g : Nat → Nat) (sz : Nat), tn_okL ks.length As → Met l z.1 (tn_ws z) z.2.2.2.2 (va_Pc (As.map (tn_v g)) (fun U => U.heap.size = sz ∧ tn_P D cA (fun _ => True) g ks ρ σ U.heap ∧ tn_K D cA U)) (tn_Qc D cA (va_A (tn_C cA g ks ρ σ) sz) g ks.length K) z.2.2.2.2.cells z.2.2.2.2.slots (va_A (tn_C cA g ks ρ σ) sz)
def tn_u (σ : Nat → Nat → Int32) (c k : Nat) (x : Int32) : Nat → Nat → Int32 := fun c' k' => if c' = c ∧ k' = k then x else σ c' k'
def tn_ur (ρ : Nat → Nat → Nat) (c k : Nat) (x : Nat) : Nat → Nat → Nat := fun c' k' => if c' = c ∧ k' = k then x else ρ c' k'
def tn_zs (σ : Nat → Nat → Int32) (n : Nat) : Nat → Nat → Int32 := fun c k => if c = n then 0 else σ c k
def tn_zr (ρ : Nat → Nat → Nat) (n : Nat) : Nat → Nat → Nat := fun c k => if c = n then 0 else ρ c k
def tn_ug (g : Nat → Nat) (n q : Nat) : Nat → Nat := fun c => if c = n then q else g c
/-! ===== lists ===== -/
theorem tn_kd2 {ks : List (Nat × Nat)} {c : Nat} {k : Nat × Nat} (h : tn_kd ks c = some k) : 2 ≤ c ∧ ks[c - 2]? = some k ∧ c < ks.length + 2 := by
  unfold tn_kd at h
  split at h
  · cases h
  · have := (List.getElem?_eq_some_iff.mp h).1
    exact ⟨by omega, h, by omega⟩
theorem tn_at {cA : Nat → ClassId} {g : Nat → Nat} {ks : List (Nat × Nat)} {ρ : Nat → Nat → Nat} {σ : Nat → Nat → Int32} {c : Nat} {k : Nat × Nat} (h : tn_kd ks c = some k) : (tn_C cA g ks ρ σ)[c - 2]? = some (g c, tn_e cA g ρ σ c k) := by
  obtain ⟨h1, h2, -⟩ := tn_kd2 h
  have e : c - 2 + 2 = c := by omega
  rw [tn_C, List.getElem?_mapIdx, h2]
  simp [tn_c, e]
theorem tn_gr2 {g : Nat → Nat} {c : Nat} (h : 0 < c) : tn_gr g c = some (g c) := if_neg (by omega)
theorem tn_setC {f f' : Nat → Nat × Nat → Nat × va_E} {ks : List (Nat × Nat)} {j : Nat} {v : Nat × va_E} {kk : Nat × Nat} (hj : ks[j]? = some kk) (hv : f' j kk = v) (h : ∀ i q, i ≠ j → f' i q = f i q) : (ks.mapIdx f).set j v = ks.mapIdx f' := by
  apply List.ext_getElem?
  intro i
  rw [List.getElem?_set, List.getElem?_mapIdx, List.getElem?_mapIdx]
  by_cases hi : j = i
  · subst hi
    have hl : j < ks.length := (List.getElem?_eq_some_iff.mp hj).1
    rw [if_pos rfl, if_pos (by simpa using hl), hj]
    simp [hv]
  · rw [if_neg hi]
    cases hk : ks[i]? with
    | none => rfl
    | some q => simp [h i q (fun e => hi e.symm)]
theorem tn_fsN {i : Nat} {g : Nat → Nat} {ρ : Nat → Nat → Nat} {σ : Nat → Nat → Int32} {c k : Nat} (hk : k < tn_N i) : (tn_fs i g ρ σ c)[k]? = some (if tn_isR i k = true then va_rf (tn_gr g (ρ c k)) else .int (σ c k)) := by
  simp [tn_fs, hk]
theorem tn_fsL {i : Nat} {g : Nat → Nat} {ρ : Nat → Nat → Nat} {σ : Nat → Nat → Int32} {c : Nat} : (tn_fs i g ρ σ c).length = tn_N i := by simp [tn_fs]
theorem tn_u_s {σ : Nat → Nat → Int32} {c k : Nat} {x : Int32} : tn_u σ c k x c k = x := by simp [tn_u]
theorem tn_u_n {σ : Nat → Nat → Int32} {c k c' k' : Nat} {x : Int32} (h : c' ≠ c ∨ k' ≠ k) : tn_u σ c k x c' k' = σ c' k' := by
  unfold tn_u
  rw [if_neg]
  intro q
  rcases h with h | h
  · exact h q.1
  · exact h q.2
theorem tn_fs_set {i : Nat} {g : Nat → Nat} {ρ : Nat → Nat → Nat} {σ : Nat → Nat → Int32} {c k : Nat} {x : Int32} (hr : tn_isR i k = false) : (tn_fs i g ρ σ c).set k (.int x) = tn_fs i g ρ (tn_u σ c k x) c := by
  apply List.ext_getElem?
  intro j
  rw [List.getElem?_set, tn_fsL]
  by_cases hj : k = j
  · subst hj
    rw [if_pos rfl]
    by_cases hk : k < tn_N i
    · rw [if_pos hk, tn_fsN hk, hr, tn_u_s]
      rfl
    · rw [if_neg hk, List.getElem?_eq_none (by rw [tn_fsL]; omega)]
  · rw [if_neg hj]
    by_cases hk : j < tn_N i
    · rw [tn_fsN hk, tn_fsN hk, tn_u_n (Or.inr (fun e => hj e.symm))]
    · rw [List.getElem?_eq_none (by rw [tn_fsL]; omega), List.getElem?_eq_none (by rw [tn_fsL]; omega)]
theorem tn_fs_setR {i : Nat} {g : Nat → Nat} {ρ : Nat → Nat → Nat} {σ : Nat → Nat → Int32} {c k x : Nat} (hr : tn_isR i k = true) : (tn_fs i g ρ σ c).set k (va_rf (tn_gr g x)) = tn_fs i g (tn_ur ρ c k x) σ c := by
  apply List.ext_getElem?
  intro j
  rw [List.getElem?_set, tn_fsL]
  by_cases hj : k = j
  · subst hj
    rw [if_pos rfl]
    by_cases hk : k < tn_N i
    · rw [if_pos hk, tn_fsN hk, hr]
      simp [tn_ur]
    · rw [if_neg hk, List.getElem?_eq_none (by rw [tn_fsL]; omega)]
  · rw [if_neg hj]
    by_cases hk : j < tn_N i
    · rw [tn_fsN hk, tn_fsN hk]
      simp [tn_ur, show ¬ j = k from fun e => hj e.symm]
    · rw [List.getElem?_eq_none (by rw [tn_fsL]; omega), List.getElem?_eq_none (by rw [tn_fsL]; omega)]
theorem tn_fs_congr {i : Nat} {g g' : Nat → Nat} {ρ ρ' : Nat → Nat → Nat} {σ σ' : Nat → Nat → Int32} {c c' : Nat} (h1 : ∀ k, tn_gr g (ρ c k) = tn_gr g' (ρ' c' k)) (h2 : ∀ k, σ c k = σ' c' k) : tn_fs i g ρ σ c = tn_fs i g' ρ' σ' c' := by
  unfold tn_fs
  congr 1
  funext j
  rw [h1, h2]
theorem tn_e_congr {cA : Nat → ClassId} {g g' : Nat → Nat} {ρ ρ' : Nat → Nat → Nat} {σ σ' : Nat → Nat → Int32} {c c' : Nat} {k : Nat × Nat} (h1 : ∀ k, tn_gr g (ρ c k) = tn_gr g' (ρ' c' k)) (h2 : ∀ k, σ c k = σ' c' k) : tn_e cA g ρ σ c k = tn_e cA g' ρ' σ' c' k := by
  unfold tn_e
  rw [tn_fs_congr h1 h2, show σ c = σ' c' from funext h2, show (fun j => tn_gr g (ρ c j)) = (fun j => tn_gr g' (ρ' c' j)) from funext h1]
/-- an int slot written -/
theorem tn_C_set {cA : Nat → ClassId} {g : Nat → Nat} {ks : List (Nat × Nat)} {ρ : Nat → Nat → Nat} {σ : Nat → Nat → Int32} {c i n k : Nat} {x : Int32} (hk : tn_kd ks c = some (i, n)) (hi : i < 7) (hr : tn_isR i k = false) :
    (tn_C cA g ks ρ σ).set (c - 2) (g c, .inr (i, (tn_fs i g ρ σ c).set k (.int x))) = tn_C cA g ks ρ (tn_u σ c k x) := by
  obtain ⟨h1, h2, -⟩ := tn_kd2 hk
  have e : c - 2 + 2 = c := by omega
  refine tn_setC h2 ?_ (fun j q hj => ?_)
  · simp only [tn_c, e, tn_e, hi, if_true]
    rw [tn_fs_set hr]
  · unfold tn_c
    rw [tn_e_congr (fun k => rfl) (fun k' => tn_u_n (Or.inl (by omega)))]
theorem tn_C_setR {cA : Nat → ClassId} {g : Nat → Nat} {ks : List (Nat × Nat)} {ρ : Nat → Nat → Nat} {σ : Nat → Nat → Int32} {c i n k x : Nat} (hk : tn_kd ks c = some (i, n)) (hi : i < 7) (hr : tn_isR i k = true) :
    (tn_C cA g ks ρ σ).set (c - 2) (g c, .inr (i, (tn_fs i g ρ σ c).set k (va_rf (tn_gr g x)))) = tn_C cA g ks (tn_ur ρ c k x) σ := by
  obtain ⟨h1, h2, -⟩ := tn_kd2 hk
  have e : c - 2 + 2 = c := by omega
  refine tn_setC h2 ?_ (fun j q hj => ?_)
  · simp only [tn_c, e, tn_e, hi, if_true]
    rw [tn_fs_setR hr]
  · unfold tn_c
    rw [tn_e_congr (fun k' => by unfold tn_ur; rw [if_neg (by omega)]) (fun k' => rfl)]
/-- an int array's place written -/
theorem tn_C_setA {cA : Nat → ClassId} {g : Nat → Nat} {ks : List (Nat × Nat)} {ρ : Nat → Nat → Nat} {σ : Nat → Nat → Int32} {c n : Nat} {f : Nat → Int32} (hk : tn_kd ks c = some (7, n)) :
    (tn_C cA g ks ρ σ).set (c - 2) (g c, .inl (cA 0, n, .inl f)) = tn_C cA g ks ρ (fun c' => if c' = c then f else σ c') := by
  obtain ⟨h1, h2, -⟩ := tn_kd2 hk
  have e : c - 2 + 2 = c := by omega
  refine tn_setC h2 ?_ (fun j q hj => ?_)
  · simp [tn_c, e, tn_e]
  · unfold tn_c
    rw [tn_e_congr (fun k => rfl) (fun k' => by rw [if_neg (by omega)])]
theorem tn_u_f {σ : Nat → Nat → Int32} {c k : Nat} {x : Int32} : (fun c' => if c' = c then upd (σ c) k x else σ c') = tn_u σ c k x := by
  funext c' k'
  unfold tn_u
  by_cases h : c' = c
  · subst h
    rw [if_pos rfl]
    by_cases h2 : k' = k
    · subst h2
      simp [upd]
    · simp [upd, h2]
  · rw [if_neg h, if_neg (fun q => h q.1)]
theorem tn_C_setQ {cA : Nat → ClassId} {g : Nat → Nat} {ks : List (Nat × Nat)} {ρ : Nat → Nat → Nat} {σ : Nat → Nat → Int32} {c t n k x : Nat} (hk : tn_kd ks c = some (t + 8, n)) (hx : 0 < x) :
    (tn_C cA g ks ρ σ).set (c - 2) (g c, .inl (cA (t + 1), n, .inr (.inr (.inr (.inr (va_up (fun j => tn_gr g (ρ c j)) k (some (g x)))))))) = tn_C cA g ks (tn_ur ρ c k x) σ := by
  obtain ⟨h1, h2, -⟩ := tn_kd2 hk
  have e : c - 2 + 2 = c := by omega
  refine tn_setC h2 ?_ (fun j q hj => ?_)
  · simp only [tn_c, e, tn_e]
    rw [if_neg (by omega), if_neg (by omega)]
    have e2 : t + 8 - 7 = t + 1 := by omega
    have e3 : (fun j => tn_gr g (tn_ur ρ c k x c j)) = va_up (fun j => tn_gr g (ρ c j)) k (some (g x)) := by
      funext j
      unfold tn_ur va_up
      by_cases hj : j = k
      · rw [if_pos ⟨rfl, hj⟩, if_pos hj, tn_gr2 hx]
      · rw [if_neg (fun q => hj q.2), if_neg hj]
    rw [e2, e3]
  · unfold tn_c
    rw [tn_e_congr (fun k' => by unfold tn_ur; rw [if_neg (by omega)]) (fun k' => rfl)]
/-- a new cell -/
theorem tn_C_new {cA : Nat → ClassId} {g : Nat → Nat} {ks : List (Nat × Nat)} {ρ : Nat → Nat → Nat} {σ : Nat → Nat → Int32} {q : Nat} {kk : Nat × Nat} (hc : ∀ c k, ρ c k < ks.length + 2) :
    tn_C cA (tn_ug g (ks.length + 2) q) (ks ++ [kk]) (tn_zr ρ (ks.length + 2)) (tn_zs σ (ks.length + 2)) = tn_C cA g ks ρ σ ++ [(q, tn_e cA (tn_ug g (ks.length + 2) q) (fun _ _ => 0) (fun _ _ => 0) (ks.length + 2) kk)] := by
  unfold tn_C
  rw [List.mapIdx_concat]
  congr 1
  · apply List.ext_getElem?
    intro i
    rw [List.getElem?_mapIdx, List.getElem?_mapIdx]
    cases hk : ks[i]? with
    | none => rfl
    | some z =>
      have hl : i < ks.length := (List.getElem?_eq_some_iff.mp hk).1
      simp only [Option.map_some, tn_c]
      rw [tn_e_congr (g' := g) (ρ' := ρ) (σ' := σ) (c' := i + 2) (fun k => ?_) (fun k => ?_)]
      · unfold tn_ug
        rw [if_neg (by omega)]
      · have h := hc (i + 2) k
        unfold tn_gr tn_zr tn_ug
        rw [if_neg (show ¬ i + 2 = ks.length + 2 by omega)]
        split
        · rfl
        · rw [if_neg (by omega)]
      · unfold tn_zs
        rw [if_neg (by omega)]
  · simp only [tn_c]
    rw [tn_e_congr (g' := tn_ug g (ks.length + 2) q) (ρ' := fun _ _ => 0) (σ' := fun _ _ => 0) (c' := ks.length + 2) (fun k => by simp [tn_zr]) (fun k => by simp [tn_zs])]
    simp [tn_ug]
/-! ===== locals ===== -/
def tn_prs (g : Nat → Nat) (loc : List Value) : List (Nat × Value) := (List.range loc.length).filterMap (fun j => (loc[j]?).bind (fun v => if v = .null then none else some (j, tn_v g v)))
theorem tn_L.has {g : Nat → Nat} {loc : List Value} {ls : Array Slot} {nL : Nat} (h : tn_L g loc ls nL) : lv_has ls nL (tn_prs g loc) := by
  refine ⟨h.1, h.2.1, fun q hq => ?_⟩
  obtain ⟨j, -, hj⟩ := List.mem_filterMap.mp hq
  cases hv : loc[j]? with
  | none => rw [hv] at hj; cases hj
  | some v =>
    rw [hv] at hj
    simp only [Option.bind_some] at hj
    split at hj
    · cases hj
    · rename_i hne
      cases hj
      exact h.2.2 j v hv hne
theorem tn_prs_mem {g : Nat → Nat} {loc : List Value} {j : Nat} {v : Value} (h : loc[j]? = some v) (hn : v ≠ .null) : (j, tn_v g v) ∈ tn_prs g loc := by
  refine List.mem_filterMap.mpr ⟨j, List.mem_range.mpr (List.getElem?_eq_some_iff.mp h).1, ?_⟩
  rw [h]
  simp [hn]
/-- the place before isn't a long's -/
def tn_np (loc : List Value) (i : Nat) : Bool := match i with
  | 0 => true
  | j + 1 => match loc[j]? with
    | some (.long _) => false
    | some (.double _) => false
    | _ => true
theorem tn_npc {g : Nat → Nat} {loc : List Value} {i j : Nat} {v : Value} (h : tn_np loc i = true) (hj : loc[j]? = some v) (e : j + 1 = i) : (tn_v g v).category ≠ 2 := by
  subst e
  unfold tn_np at h
  simp only [hj] at h
  cases v with
  | ref c =>
    show (va_rf (tn_gr g c)).category ≠ 2
    cases tn_gr g c <;> simp [va_rf, Value.category]
  | _ => first | (cases h; done) | simp [tn_v, Value.category]
theorem tn_L.set1 {g : Nat → Nat} {loc : List Value} {ls' : Array Slot} {nL i : Nat} {v : Value} (hp : tn_np loc i = true) (h : lv_has ls' nL ((i, tn_v g v) :: (tn_prs g loc).filter (fun q => !(q.1 == i) && !(q.1 + 1 == i && q.2.category == 2)))) : tn_L g (loc.set i v) ls' nL := by
  refine ⟨h.1, h.2.1, fun j w hj hn => ?_⟩
  rw [List.getElem?_set] at hj
  by_cases e : i = j
  · subst e
    rw [if_pos rfl] at hj
    split at hj
    · cases hj
      exact h.2.2 _ List.mem_cons_self
    · cases hj
  · rw [if_neg e] at hj
    refine h.2.2 (j, tn_v g w) (List.mem_cons_of_mem _ (List.mem_filter.mpr ⟨tn_prs_mem hj hn, ?_⟩))
    have h1 : (j == i) = false := by simp [show ¬ j = i from fun q => e q.symm]
    by_cases h2 : j + 1 = i
    · have h3 := tn_npc (g := g) hp hj h2
      simp [h1, h3]
    · simp [h1, h2]
theorem tn_L.set2 {g : Nat → Nat} {loc : List Value} {ls' : Array Slot} {nL i : Nat} {v : Value} (hp : tn_np loc i = true) (h : lv_has ls' nL ((i, tn_v g v) :: (tn_prs g loc).filter (fun q => !(q.1 == i) && (!(q.1 == i + 1) && !(q.1 + 1 == i && q.2.category == 2))))) : tn_L g ((loc.set i v).set (i + 1) .null) ls' nL := by
  refine ⟨h.1, h.2.1, fun j w hj hn => ?_⟩
  rw [List.getElem?_set] at hj
  by_cases e1 : i + 1 = j
  · rw [if_pos e1] at hj
    split at hj
    · cases hj
      exact absurd rfl hn
    · cases hj
  rw [if_neg e1, List.getElem?_set] at hj
  by_cases e : i = j
  · subst e
    rw [if_pos rfl] at hj
    split at hj
    · cases hj
      exact h.2.2 _ List.mem_cons_self
    · cases hj
  · rw [if_neg e] at hj
    refine h.2.2 (j, tn_v g w) (List.mem_cons_of_mem _ (List.mem_filter.mpr ⟨tn_prs_mem hj hn, ?_⟩))
    have h1 : (j == i) = false := by simp [show ¬ j = i from fun q => e q.symm]
    have h0 : (j == i + 1) = false := by simp [show ¬ j = i + 1 from fun q => e1 q.symm]
    by_cases h2 : j + 1 = i
    · have h3 := tn_npc (g := g) hp hj h2
      simp [h1, h0, h3]
    · simp [h1, h0, h2]
theorem tn_okL.set {n : Nat} {loc : List Value} {i : Nat} {v : Value} (h : tn_okL n loc) (hv : tn_ok n v) : tn_okL n (loc.set i v) := by
  intro w hw
  rcases List.mem_or_eq_of_mem_set hw with h1 | h1
  · exact h w h1
  · rw [h1]; exact hv
theorem tn_okL.cons {n : Nat} {st : List Value} {v : Value} (hv : tn_ok n v) (h : tn_okL n st) : tn_okL n (v :: st) := fun w hw => (List.mem_cons.mp hw).elim (fun e => e ▸ hv) (h w)
theorem tn_okL.tl {n : Nat} {st : List Value} {v : Value} (h : tn_okL n (v :: st)) : tn_okL n st := fun w hw => h w (List.mem_cons_of_mem _ hw)
theorem tn_okL.hd {n : Nat} {st : List Value} {v : Value} (h : tn_okL n (v :: st)) : tn_ok n v := h v List.mem_cons_self
theorem tn_ok.mono {n n' : Nat} {v : Value} (hn : n ≤ n') (h : tn_ok n v) : tn_ok n' v := by
  cases v with
  | ref c => exact Nat.lt_of_lt_of_le (show c < n + 2 from h) (Nat.add_le_add_right hn 2)
  | _ => trivial
theorem tn_okL.mono {n n' : Nat} {st : List Value} (hn : n ≤ n') (h : tn_okL n st) : tn_okL n' st := fun w hw => (h w hw).mono hn
theorem tn_v_congr {g g' : Nat → Nat} {n : Nat} (h : ∀ c, c < n + 2 → g' c = g c) {v : Value} (hv : tn_ok n v) : tn_v g' v = tn_v g v := by
  cases v with
  | ref c =>
    show va_rf (tn_gr g' c) = va_rf (tn_gr g c)
    unfold tn_gr
    rw [h c hv]
  | _ => rfl
theorem tn_map_congr {g g' : Nat → Nat} {n : Nat} (h : ∀ c, c < n + 2 → g' c = g c) {st : List Value} (hv : tn_okL n st) : st.map (tn_v g') = st.map (tn_v g) := List.map_congr_left (fun v hq => tn_v_congr h (hv v hq))
theorem tn_L.congr {g g' : Nat → Nat} {n : Nat} (h : ∀ c, c < n + 2 → g' c = g c) {loc : List Value} {ls : Array Slot} {nL : Nat} (hv : tn_okL n loc) (hl : tn_L g loc ls nL) : tn_L g' loc ls nL :=
  ⟨hl.1, hl.2.1, fun i v hi hn => by rw [tn_v_congr h (hv v (List.mem_of_getElem? hi))]; exact hl.2.2 i v hi hn⟩
/-! ===== the tables move along ===== -/
theorem tn_K.warm {D : va_G} {cA : Nat → ClassId} {s U : State} (hW : s.WarmedH U.vm) (h : tn_K D cA s) : tn_K D cA U := by
  obtain ⟨h1, h2, h3, h4, h5⟩ := h
  refine ⟨va_K.moved hW.alike h1, fun w hw => ?_, h3.moved hW.alike, h4.moved hW.alike, h5.moved hW.alike⟩
  have hz := h2 w hw
  have hn : tn_isN w = true := (List.mem_filter.mp hw).2
  cases w <;> first | (cases hn; done) | exact va_Nw.warmF hW hz | exact va_Nw.warmM hW hz
theorem tn_K.call {D : va_G} {cA : Nat → ClassId} {U : State} {g : JFrame} {mk : MethodId} {a : Array Value} (h : tn_K D cA U) : tn_K D cA (U.calling g mk a) := by
  obtain ⟨h1, h2, h3, h4, h5⟩ := h
  refine ⟨va_K.moved (u := U) (U := U.calling g mk a) (Vm.Alike.refl U.vm) h1, fun w hw => ?_, h3.moved (u := U) (U := U.calling g mk a) (Vm.Alike.refl U.vm), h4.moved (u := U) (U := U.calling g mk a) (Vm.Alike.refl U.vm), h5.moved (u := U) (U := U.calling g mk a) (Vm.Alike.refl U.vm)⟩
  have hz := h2 w hw
  have hn : tn_isN w = true := (List.mem_filter.mp hw).2
  cases w <;> first | (cases hn; done) | exact va_Nw.same (U := U.calling g mk a) rfl rfl hz
end
section
/-! ===== the rules: an instruction each ===== -/
section TR
variable {Γ : tn_G} {z : tn_M} {pc : Nat} {loc st : List Value} {ca sl : Nat} {ks : List (Nat × Nat)} {ρ : Nat → Nat → Nat} {σ : Nat → Nat → Int32}

theorem tn_iconst (hΓ : tn_is Γ z) {n : Int} {v : Int32} (hd : decode z.2.1 pc = .ok (.iconst n, 1)) (hv : Int32.ofInt n = v) (k : tn_A Γ (pc + 1) loc (.int v :: st) ca sl ks ρ σ) : tn_A Γ (pc) loc (st) ca sl ks ρ σ := by
  obtain ⟨⟨p, l, e, R, s, m, args, below, meth, c, Q⟩, D, cA, A, H0, g0, n0⟩ := Γ
  obtain ⟨hx, hb, hml, hown, hts, hK, hR, hrt, hlk, hnm, hA⟩ := hΓ
  intro g H locs ls hP hS hl ho1 ho2 hg hn
  exact lv_iconst hx hb hd hv (k g H locs ls hP hS hl ho1 (tn_okL.cons trivial ho2) hg hn)
theorem tn_bipush (hΓ : tn_is Γ z) {n : Int} {v : Int32} (hd : decode z.2.1 pc = .ok (.bipush n, 2)) (hv : (Int8.ofInt n).toInt32 = v) (k : tn_A Γ (pc + 2) loc (.int v :: st) ca sl ks ρ σ) : tn_A Γ (pc) loc (st) ca sl ks ρ σ := by
  obtain ⟨⟨p, l, e, R, s, m, args, below, meth, c, Q⟩, D, cA, A, H0, g0, n0⟩ := Γ
  obtain ⟨hx, hb, hml, hown, hts, hK, hR, hrt, hlk, hnm, hA⟩ := hΓ
  intro g H locs ls hP hS hl ho1 ho2 hg hn
  exact lv_bipush hx hb hd hv (k g H locs ls hP hS hl ho1 (tn_okL.cons trivial ho2) hg hn)
theorem tn_sipush (hΓ : tn_is Γ z) {n : Int} {v : Int32} (hd : decode z.2.1 pc = .ok (.sipush n, 3)) (hv : (Int16.ofInt n).toInt32 = v) (k : tn_A Γ (pc + 3) loc (.int v :: st) ca sl ks ρ σ) : tn_A Γ (pc) loc (st) ca sl ks ρ σ := by
  obtain ⟨⟨p, l, e, R, s, m, args, below, meth, c, Q⟩, D, cA, A, H0, g0, n0⟩ := Γ
  obtain ⟨hx, hb, hml, hown, hts, hK, hR, hrt, hlk, hnm, hA⟩ := hΓ
  intro g H locs ls hP hS hl ho1 ho2 hg hn
  exact lv_sipush hx hb hd hv (k g H locs ls hP hS hl ho1 (tn_okL.cons trivial ho2) hg hn)
theorem tn_lconst (hΓ : tn_is Γ z) {n : Fin 2} {v : Int64} (hd : decode z.2.1 pc = .ok (.lconst n, 1)) (hv : Int64.ofNat (n : Nat) = v) (k : tn_A Γ (pc + 1) loc (.long v :: st) ca sl ks ρ σ) : tn_A Γ (pc) loc (st) ca sl ks ρ σ := by
  obtain ⟨⟨p, l, e, R, s, m, args, below, meth, c, Q⟩, D, cA, A, H0, g0, n0⟩ := Γ
  obtain ⟨hx, hb, hml, hown, hts, hK, hR, hrt, hlk, hnm, hA⟩ := hΓ
  intro g H locs ls hP hS hl ho1 ho2 hg hn
  exact lv_lconst hx hb hd hv (k g H locs ls hP hS hl ho1 (tn_okL.cons trivial ho2) hg hn)
theorem tn_ldcw (hΓ : tn_is Γ z) {i : Nat} {v : Int32} (hc : Cond.constant z.1.cls i v ∈ tn_tbl) (hd : decode z.2.1 pc = .ok (.ldc_w i, 3)) (k : tn_A Γ (pc + 3) loc (.int v :: st) ca sl ks ρ σ) : tn_A Γ (pc) loc (st) ca sl ks ρ σ := by
  obtain ⟨⟨p, l, e, R, s, m, args, below, meth, c, Q⟩, D, cA, A, H0, g0, n0⟩ := Γ
  obtain ⟨hx, hb, hml, hown, hts, hK, hR, hrt, hlk, hnm, hA⟩ := hΓ
  intro g H locs ls hP hS hl ho1 ho2 hg hn
  exact lv_ldcw hx hb hown (hts _ hc) hd (k g H locs ls hP hS hl ho1 (tn_okL.cons trivial ho2) hg hn)
theorem tn_ldc2 (hΓ : tn_is Γ z) {i : Nat} {v : Int64} (hc : Cond.constantLong z.1.cls i v ∈ tn_tbl) (hd : decode z.2.1 pc = .ok (.ldc2_w i, 3)) (k : tn_A Γ (pc + 3) loc (.long v :: st) ca sl ks ρ σ) : tn_A Γ (pc) loc (st) ca sl ks ρ σ := by
  obtain ⟨⟨p, l, e, R, s, m, args, below, meth, c, Q⟩, D, cA, A, H0, g0, n0⟩ := Γ
  obtain ⟨hx, hb, hml, hown, hts, hK, hR, hrt, hlk, hnm, hA⟩ := hΓ
  intro g H locs ls hP hS hl ho1 ho2 hg hn
  exact lv_ldc2 hx hb hown (hts _ hc) hd (k g H locs ls hP hS hl ho1 (tn_okL.cons trivial ho2) hg hn)
theorem tn_iload_n (hΓ : tn_is Γ z) {n : Fin 4} {x : Int32} (hd : decode z.2.1 pc = .ok (.iload_n n, 1)) (hi : loc[(n : Nat)]? = some (.int x)) (k : tn_A Γ (pc + 1) loc (.int x :: st) ca sl ks ρ σ) : tn_A Γ (pc) loc (st) ca sl ks ρ σ := by
  obtain ⟨⟨p, l, e, R, s, m, args, below, meth, c, Q⟩, D, cA, A, H0, g0, n0⟩ := Γ
  obtain ⟨hx, hb, hml, hown, hts, hK, hR, hrt, hlk, hnm, hA⟩ := hΓ
  intro g H locs ls hP hS hl ho1 ho2 hg hn
  exact lv_iload_n hx hb hd rfl (hl.2.2 _ _ hi (fun q => by cases q)) (k g H locs ls hP hS hl ho1 (tn_okL.cons trivial ho2) hg hn)
theorem tn_iload (hΓ : tn_is Γ z) {n : Nat} {x : Int32} (hd : decode z.2.1 pc = .ok (.iload n, 2)) (hi : loc[n]? = some (.int x)) (k : tn_A Γ (pc + 2) loc (.int x :: st) ca sl ks ρ σ) : tn_A Γ (pc) loc (st) ca sl ks ρ σ := by
  obtain ⟨⟨p, l, e, R, s, m, args, below, meth, c, Q⟩, D, cA, A, H0, g0, n0⟩ := Γ
  obtain ⟨hx, hb, hml, hown, hts, hK, hR, hrt, hlk, hnm, hA⟩ := hΓ
  intro g H locs ls hP hS hl ho1 ho2 hg hn
  exact lv_iload hx hb hd (hl.2.2 _ _ hi (fun q => by cases q)) (k g H locs ls hP hS hl ho1 (tn_okL.cons trivial ho2) hg hn)
theorem tn_lload_n (hΓ : tn_is Γ z) {n : Fin 4} {x : Int64} (hd : decode z.2.1 pc = .ok (.lload_n n, 1)) (hi : loc[(n : Nat)]? = some (.long x)) (k : tn_A Γ (pc + 1) loc (.long x :: st) ca sl ks ρ σ) : tn_A Γ (pc) loc (st) ca sl ks ρ σ := by
  obtain ⟨⟨p, l, e, R, s, m, args, below, meth, c, Q⟩, D, cA, A, H0, g0, n0⟩ := Γ
  obtain ⟨hx, hb, hml, hown, hts, hK, hR, hrt, hlk, hnm, hA⟩ := hΓ
  intro g H locs ls hP hS hl ho1 ho2 hg hn
  exact lv_lload_n hx hb hd rfl (hl.2.2 _ _ hi (fun q => by cases q)) (k g H locs ls hP hS hl ho1 (tn_okL.cons trivial ho2) hg hn)
theorem tn_lload (hΓ : tn_is Γ z) {n : Nat} {x : Int64} (hd : decode z.2.1 pc = .ok (.lload n, 2)) (hi : loc[n]? = some (.long x)) (k : tn_A Γ (pc + 2) loc (.long x :: st) ca sl ks ρ σ) : tn_A Γ (pc) loc (st) ca sl ks ρ σ := by
  obtain ⟨⟨p, l, e, R, s, m, args, below, meth, c, Q⟩, D, cA, A, H0, g0, n0⟩ := Γ
  obtain ⟨hx, hb, hml, hown, hts, hK, hR, hrt, hlk, hnm, hA⟩ := hΓ
  intro g H locs ls hP hS hl ho1 ho2 hg hn
  exact lv_lload hx hb hd (hl.2.2 _ _ hi (fun q => by cases q)) (k g H locs ls hP hS hl ho1 (tn_okL.cons trivial ho2) hg hn)
theorem tn_aload_n (hΓ : tn_is Γ z) {n : Fin 4} {x : Nat} (hd : decode z.2.1 pc = .ok (.aload_n n, 1)) (hi : loc[(n : Nat)]? = some (.ref x)) (k : tn_A Γ (pc + 1) loc (.ref x :: st) ca sl ks ρ σ) : tn_A Γ (pc) loc (st) ca sl ks ρ σ := by
  obtain ⟨⟨p, l, e, R, s, m, args, below, meth, c, Q⟩, D, cA, A, H0, g0, n0⟩ := Γ
  obtain ⟨hx, hb, hml, hown, hts, hK, hR, hrt, hlk, hnm, hA⟩ := hΓ
  intro g H locs ls hP hS hl ho1 ho2 hg hn
  have h1 := k g H locs ls hP hS hl ho1 (tn_okL.cons (ho1 _ (List.mem_of_getElem? hi)) ho2) hg hn
  have h2 : ls[(n : Nat)]? = some (.val (va_rf (tn_gr g x))) := hl.2.2 _ _ hi (fun q => by cases q)
  have h3 : W p l e R s m args below meth c H locs ca sl Q (F0 m (pc + 1) ls (va_rf (tn_gr g x) :: st.map (tn_v g))) := h1
  cases hq : tn_gr g x with
  | none => rw [hq] at h2 h3; exact lv_aload_nN hx hb hd rfl h2 h3
  | some y => rw [hq] at h2 h3; exact lv_aload_n hx hb hd rfl h2 h3
theorem tn_aload (hΓ : tn_is Γ z) {n : Nat} {x : Nat} (hd : decode z.2.1 pc = .ok (.aload n, 2)) (hi : loc[n]? = some (.ref x)) (k : tn_A Γ (pc + 2) loc (.ref x :: st) ca sl ks ρ σ) : tn_A Γ (pc) loc (st) ca sl ks ρ σ := by
  obtain ⟨⟨p, l, e, R, s, m, args, below, meth, c, Q⟩, D, cA, A, H0, g0, n0⟩ := Γ
  obtain ⟨hx, hb, hml, hown, hts, hK, hR, hrt, hlk, hnm, hA⟩ := hΓ
  intro g H locs ls hP hS hl ho1 ho2 hg hn
  have h1 := k g H locs ls hP hS hl ho1 (tn_okL.cons (ho1 _ (List.mem_of_getElem? hi)) ho2) hg hn
  have h2 : ls[n]? = some (.val (va_rf (tn_gr g x))) := hl.2.2 _ _ hi (fun q => by cases q)
  have h3 : W p l e R s m args below meth c H locs ca sl Q (F0 m (pc + 2) ls (va_rf (tn_gr g x) :: st.map (tn_v g))) := h1
  cases hq : tn_gr g x with
  | none => rw [hq] at h2 h3; exact lv_aloadN hx hb hd h2 h3
  | some y => rw [hq] at h2 h3; exact lv_aload hx hb hd h2 h3
theorem tn_istore_n (hΓ : tn_is Γ z) {n : Fin 4} {x : Int32} {loc' : List Value} (hd : decode z.2.1 pc = .ok (.istore_n n, 1)) (hi : (n : Nat) < z.2.2.1) (hp : tn_np loc (n : Nat) = true) (hl' : loc.set (n : Nat) (.int x) = loc') (k : tn_A Γ (pc + 1) loc' (st) ca sl ks ρ σ) : tn_A Γ (pc) loc (.int x :: st) ca sl ks ρ σ := by
  subst hl'
  obtain ⟨⟨p, l, e, R, s, m, args, below, meth, c, Q⟩, D, cA, A, H0, g0, n0⟩ := Γ
  obtain ⟨hx, hb, hml, hown, hts, hK, hR, hrt, hlk, hnm, hA⟩ := hΓ
  intro g H locs ls hP hS hl ho1 ho2 hg hn
  refine lv_istore_n hx hb hd rfl hl.has (by rw [hml]; exact hi) rfl (fun ls' h' => ?_)
  exact k g H locs ls' hP hS (tn_L.set1 (v := .int x) hp h') (ho1.set trivial) ho2.tl hg hn
theorem tn_istore (hΓ : tn_is Γ z) {n : Nat} {x : Int32} {loc' : List Value} (hd : decode z.2.1 pc = .ok (.istore n, 2)) (hi : n < z.2.2.1) (hp : tn_np loc n = true) (hl' : loc.set n (.int x) = loc') (k : tn_A Γ (pc + 2) loc' (st) ca sl ks ρ σ) : tn_A Γ (pc) loc (.int x :: st) ca sl ks ρ σ := by
  subst hl'
  obtain ⟨⟨p, l, e, R, s, m, args, below, meth, c, Q⟩, D, cA, A, H0, g0, n0⟩ := Γ
  obtain ⟨hx, hb, hml, hown, hts, hK, hR, hrt, hlk, hnm, hA⟩ := hΓ
  intro g H locs ls hP hS hl ho1 ho2 hg hn
  refine lv_istore hx hb hd hl.has (by rw [hml]; exact hi) rfl (fun ls' h' => ?_)
  exact k g H locs ls' hP hS (tn_L.set1 (v := .int x) hp h') (ho1.set trivial) ho2.tl hg hn
theorem tn_lstore_n (hΓ : tn_is Γ z) {n : Fin 4} {x : Int64} {loc' : List Value} (hd : decode z.2.1 pc = .ok (.lstore_n n, 1)) (hi : (n : Nat) + 1 < z.2.2.1) (hp : tn_np loc (n : Nat) = true) (hl' : (loc.set (n : Nat) (.long x)).set ((n : Nat) + 1) .null = loc') (k : tn_A Γ (pc + 1) loc' (st) ca sl ks ρ σ) : tn_A Γ (pc) loc (.long x :: st) ca sl ks ρ σ := by
  subst hl'
  obtain ⟨⟨p, l, e, R, s, m, args, below, meth, c, Q⟩, D, cA, A, H0, g0, n0⟩ := Γ
  obtain ⟨hx, hb, hml, hown, hts, hK, hR, hrt, hlk, hnm, hA⟩ := hΓ
  intro g H locs ls hP hS hl ho1 ho2 hg hn
  refine lv_lstore_n hx hb hd rfl hl.has (by rw [hml]; exact hi) rfl (fun ls' h' => ?_)
  exact k g H locs ls' hP hS (tn_L.set2 (v := .long x) hp h') ((ho1.set (v := .long x) trivial).set (v := .null) trivial) ho2.tl hg hn
theorem tn_lstore (hΓ : tn_is Γ z) {n : Nat} {x : Int64} {loc' : List Value} (hd : decode z.2.1 pc = .ok (.lstore n, 2)) (hi : n + 1 < z.2.2.1) (hp : tn_np loc n = true) (hl' : (loc.set n (.long x)).set (n + 1) .null = loc') (k : tn_A Γ (pc + 2) loc' (st) ca sl ks ρ σ) : tn_A Γ (pc) loc (.long x :: st) ca sl ks ρ σ := by
  subst hl'
  obtain ⟨⟨p, l, e, R, s, m, args, below, meth, c, Q⟩, D, cA, A, H0, g0, n0⟩ := Γ
  obtain ⟨hx, hb, hml, hown, hts, hK, hR, hrt, hlk, hnm, hA⟩ := hΓ
  intro g H locs ls hP hS hl ho1 ho2 hg hn
  refine lv_lstore hx hb hd hl.has (by rw [hml]; exact hi) rfl (fun ls' h' => ?_)
  exact k g H locs ls' hP hS (tn_L.set2 (v := .long x) hp h') ((ho1.set (v := .long x) trivial).set (v := .null) trivial) ho2.tl hg hn
theorem tn_astore_n (hΓ : tn_is Γ z) {n : Fin 4} {x : Nat} {loc' : List Value} (hd : decode z.2.1 pc = .ok (.astore_n n, 1)) (hi : (n : Nat) < z.2.2.1) (hp : tn_np loc (n : Nat) = true) (hl' : loc.set (n : Nat) (.ref x) = loc') (k : tn_A Γ (pc + 1) loc' (st) ca sl ks ρ σ) : tn_A Γ (pc) loc (.ref x :: st) ca sl ks ρ σ := by
  subst hl'
  obtain ⟨⟨p, l, e, R, s, m, args, below, meth, c, Q⟩, D, cA, A, H0, g0, n0⟩ := Γ
  obtain ⟨hx, hb, hml, hown, hts, hK, hR, hrt, hlk, hnm, hA⟩ := hΓ
  intro g H locs ls hP hS hl ho1 ho2 hg hn
  have h3 : ∀ ls' : Array Slot, lv_has ls' c.maxLocals (((n : Nat), va_rf (tn_gr g x)) :: (tn_prs g loc).filter (fun q => !(q.1 == (n : Nat)) && !(q.1 + 1 == (n : Nat) && q.2.category == 2))) → W p l e R s m args below meth c H locs ca sl Q (F0 m (pc + 1) ls' (st.map (tn_v g))) :=
    fun ls' h' => k g H locs ls' hP hS (tn_L.set1 (v := .ref x) hp h') (ho1.set (v := .ref x) ho2.hd) ho2.tl hg hn
  show W p l e R s m args below meth c H locs ca sl Q (F0 m pc ls (va_rf (tn_gr g x) :: st.map (tn_v g)))
  cases hq : tn_gr g x with
  | none => rw [hq] at h3; exact lv_astore_nN hx hb hd rfl hl.has (by rw [hml]; exact hi) rfl h3
  | some y => rw [hq] at h3; exact lv_astore_n hx hb hd rfl hl.has (by rw [hml]; exact hi) rfl h3
theorem tn_astore (hΓ : tn_is Γ z) {n : Nat} {x : Nat} {loc' : List Value} (hd : decode z.2.1 pc = .ok (.astore n, 2)) (hi : n < z.2.2.1) (hp : tn_np loc n = true) (hl' : loc.set n (.ref x) = loc') (k : tn_A Γ (pc + 2) loc' (st) ca sl ks ρ σ) : tn_A Γ (pc) loc (.ref x :: st) ca sl ks ρ σ := by
  subst hl'
  obtain ⟨⟨p, l, e, R, s, m, args, below, meth, c, Q⟩, D, cA, A, H0, g0, n0⟩ := Γ
  obtain ⟨hx, hb, hml, hown, hts, hK, hR, hrt, hlk, hnm, hA⟩ := hΓ
  intro g H locs ls hP hS hl ho1 ho2 hg hn
  have h3 : ∀ ls' : Array Slot, lv_has ls' c.maxLocals ((n, va_rf (tn_gr g x)) :: (tn_prs g loc).filter (fun q => !(q.1 == n) && !(q.1 + 1 == n && q.2.category == 2))) → W p l e R s m args below meth c H locs ca sl Q (F0 m (pc + 2) ls' (st.map (tn_v g))) :=
    fun ls' h' => k g H locs ls' hP hS (tn_L.set1 (v := .ref x) hp h') (ho1.set (v := .ref x) ho2.hd) ho2.tl hg hn
  show W p l e R s m args below meth c H locs ca sl Q (F0 m pc ls (va_rf (tn_gr g x) :: st.map (tn_v g)))
  cases hq : tn_gr g x with
  | none => rw [hq] at h3; exact lv_astoreN hx hb hd hl.has (by rw [hml]; exact hi) rfl h3
  | some y => rw [hq] at h3; exact lv_astore hx hb hd hl.has (by rw [hml]; exact hi) rfl h3
theorem tn_iinc (hΓ : tn_is Γ z) {i : Nat} {n : Int} {x v : Int32} {loc' : List Value} (hd : decode z.2.1 pc = .ok (.iinc i n, 3)) (hi : loc[i]? = some (.int x)) (hv : x + Int32.ofInt n = v) (hn' : i < z.2.2.1) (hp : tn_np loc i = true) (hl' : loc.set i (.int v) = loc') (k : tn_A Γ (pc + 3) loc' (st) ca sl ks ρ σ) : tn_A Γ (pc) loc (st) ca sl ks ρ σ := by
  subst hl'
  obtain ⟨⟨p, l, e, R, s, m, args, below, meth, c, Q⟩, D, cA, A, H0, g0, n0⟩ := Γ
  obtain ⟨hx, hb, hml, hown, hts, hK, hR, hrt, hlk, hnm, hA⟩ := hΓ
  intro g H locs ls hP hS hl ho1 ho2 hg hn
  obtain ⟨j, hj⟩ := List.getElem?_of_mem (tn_prs_mem (g := g) hi (fun q => by cases q))
  refine lv_iinc (k := j) (v := v) hx hb hd hl.has hj hv (by rw [hml]; exact hn') rfl (fun ls' h' => ?_)
  exact k g H locs ls' hP hS (tn_L.set1 (v := .int v) hp h') (ho1.set trivial) ho2 hg hn
theorem tn_iadd (hΓ : tn_is Γ z) {x y : Int32} (hd : decode z.2.1 pc = .ok (.iadd, 1)) (k : tn_A Γ (pc + 1) loc (.int (x + y) :: st) ca sl ks ρ σ) : tn_A Γ (pc) loc (.int y :: .int x :: st) ca sl ks ρ σ := by
  obtain ⟨⟨p, l, e, R, s, m, args, below, meth, c, Q⟩, D, cA, A, H0, g0, n0⟩ := Γ
  obtain ⟨hx, hb, hml, hown, hts, hK, hR, hrt, hlk, hnm, hA⟩ := hΓ
  intro g H locs ls hP hS hl ho1 ho2 hg hn
  exact lv_iadd hx hb hd (k g H locs ls hP hS hl ho1 (tn_okL.cons trivial ho2.tl.tl) hg hn)
theorem tn_isub (hΓ : tn_is Γ z) {x y : Int32} (hd : decode z.2.1 pc = .ok (.isub, 1)) (k : tn_A Γ (pc + 1) loc (.int (x - y) :: st) ca sl ks ρ σ) : tn_A Γ (pc) loc (.int y :: .int x :: st) ca sl ks ρ σ := by
  obtain ⟨⟨p, l, e, R, s, m, args, below, meth, c, Q⟩, D, cA, A, H0, g0, n0⟩ := Γ
  obtain ⟨hx, hb, hml, hown, hts, hK, hR, hrt, hlk, hnm, hA⟩ := hΓ
  intro g H locs ls hP hS hl ho1 ho2 hg hn
  exact lv_isub hx hb hd (k g H locs ls hP hS hl ho1 (tn_okL.cons trivial ho2.tl.tl) hg hn)
theorem tn_imul (hΓ : tn_is Γ z) {x y : Int32} (hd : decode z.2.1 pc = .ok (.imul, 1)) (k : tn_A Γ (pc + 1) loc (.int (x * y) :: st) ca sl ks ρ σ) : tn_A Γ (pc) loc (.int y :: .int x :: st) ca sl ks ρ σ := by
  obtain ⟨⟨p, l, e, R, s, m, args, below, meth, c, Q⟩, D, cA, A, H0, g0, n0⟩ := Γ
  obtain ⟨hx, hb, hml, hown, hts, hK, hR, hrt, hlk, hnm, hA⟩ := hΓ
  intro g H locs ls hP hS hl ho1 ho2 hg hn
  exact lv_imul hx hb hd (k g H locs ls hP hS hl ho1 (tn_okL.cons trivial ho2.tl.tl) hg hn)
theorem tn_iand (hΓ : tn_is Γ z) {x y : Int32} (hd : decode z.2.1 pc = .ok (.iand, 1)) (k : tn_A Γ (pc + 1) loc (.int (x &&& y) :: st) ca sl ks ρ σ) : tn_A Γ (pc) loc (.int y :: .int x :: st) ca sl ks ρ σ := by
  obtain ⟨⟨p, l, e, R, s, m, args, below, meth, c, Q⟩, D, cA, A, H0, g0, n0⟩ := Γ
  obtain ⟨hx, hb, hml, hown, hts, hK, hR, hrt, hlk, hnm, hA⟩ := hΓ
  intro g H locs ls hP hS hl ho1 ho2 hg hn
  exact lv_iand hx hb hd (k g H locs ls hP hS hl ho1 (tn_okL.cons trivial ho2.tl.tl) hg hn)
theorem tn_ior (hΓ : tn_is Γ z) {x y : Int32} (hd : decode z.2.1 pc = .ok (.ior, 1)) (k : tn_A Γ (pc + 1) loc (.int (x ||| y) :: st) ca sl ks ρ σ) : tn_A Γ (pc) loc (.int y :: .int x :: st) ca sl ks ρ σ := by
  obtain ⟨⟨p, l, e, R, s, m, args, below, meth, c, Q⟩, D, cA, A, H0, g0, n0⟩ := Γ
  obtain ⟨hx, hb, hml, hown, hts, hK, hR, hrt, hlk, hnm, hA⟩ := hΓ
  intro g H locs ls hP hS hl ho1 ho2 hg hn
  exact lv_ior hx hb hd (k g H locs ls hP hS hl ho1 (tn_okL.cons trivial ho2.tl.tl) hg hn)
theorem tn_ixor (hΓ : tn_is Γ z) {x y : Int32} (hd : decode z.2.1 pc = .ok (.ixor, 1)) (k : tn_A Γ (pc + 1) loc (.int (x ^^^ y) :: st) ca sl ks ρ σ) : tn_A Γ (pc) loc (.int y :: .int x :: st) ca sl ks ρ σ := by
  obtain ⟨⟨p, l, e, R, s, m, args, below, meth, c, Q⟩, D, cA, A, H0, g0, n0⟩ := Γ
  obtain ⟨hx, hb, hml, hown, hts, hK, hR, hrt, hlk, hnm, hA⟩ := hΓ
  intro g H locs ls hP hS hl ho1 ho2 hg hn
  exact lv_ixor hx hb hd (k g H locs ls hP hS hl ho1 (tn_okL.cons trivial ho2.tl.tl) hg hn)
theorem tn_ishl (hΓ : tn_is Γ z) {x y : Int32} (hd : decode z.2.1 pc = .ok (.ishl, 1)) (k : tn_A Γ (pc + 1) loc (.int (x <<< (y &&& 31)) :: st) ca sl ks ρ σ) : tn_A Γ (pc) loc (.int y :: .int x :: st) ca sl ks ρ σ := by
  obtain ⟨⟨p, l, e, R, s, m, args, below, meth, c, Q⟩, D, cA, A, H0, g0, n0⟩ := Γ
  obtain ⟨hx, hb, hml, hown, hts, hK, hR, hrt, hlk, hnm, hA⟩ := hΓ
  intro g H locs ls hP hS hl ho1 ho2 hg hn
  exact lv_ishl hx hb hd (k g H locs ls hP hS hl ho1 (tn_okL.cons trivial ho2.tl.tl) hg hn)
theorem tn_ishr (hΓ : tn_is Γ z) {x y : Int32} (hd : decode z.2.1 pc = .ok (.ishr, 1)) (k : tn_A Γ (pc + 1) loc (.int (x >>> (y &&& 31)) :: st) ca sl ks ρ σ) : tn_A Γ (pc) loc (.int y :: .int x :: st) ca sl ks ρ σ := by
  obtain ⟨⟨p, l, e, R, s, m, args, below, meth, c, Q⟩, D, cA, A, H0, g0, n0⟩ := Γ
  obtain ⟨hx, hb, hml, hown, hts, hK, hR, hrt, hlk, hnm, hA⟩ := hΓ
  intro g H locs ls hP hS hl ho1 ho2 hg hn
  exact lv_ishr hx hb hd (k g H locs ls hP hS hl ho1 (tn_okL.cons trivial ho2.tl.tl) hg hn)
theorem tn_iushr (hΓ : tn_is Γ z) {x y : Int32} (hd : decode z.2.1 pc = .ok (.iushr, 1)) (k : tn_A Γ (pc + 1) loc (.int (x.toUInt32 >>> (y.toUInt32 &&& Int32.toUInt32 31)).toInt32 :: st) ca sl ks ρ σ) : tn_A Γ (pc) loc (.int y :: .int x :: st) ca sl ks ρ σ := by
  obtain ⟨⟨p, l, e, R, s, m, args, below, meth, c, Q⟩, D, cA, A, H0, g0, n0⟩ := Γ
  obtain ⟨hx, hb, hml, hown, hts, hK, hR, hrt, hlk, hnm, hA⟩ := hΓ
  intro g H locs ls hP hS hl ho1 ho2 hg hn
  exact lv_iushr hx hb hd rfl (k g H locs ls hP hS hl ho1 (tn_okL.cons trivial ho2.tl.tl) hg hn)
theorem tn_idiv (hΓ : tn_is Γ z) {x y : Int32} (hd : decode z.2.1 pc = .ok (.idiv, 1)) (hy : ¬ y = 0) (k : tn_A Γ (pc + 1) loc (.int (x / y) :: st) ca sl ks ρ σ) : tn_A Γ (pc) loc (.int y :: .int x :: st) ca sl ks ρ σ := by
  obtain ⟨⟨p, l, e, R, s, m, args, below, meth, c, Q⟩, D, cA, A, H0, g0, n0⟩ := Γ
  obtain ⟨hx, hb, hml, hown, hts, hK, hR, hrt, hlk, hnm, hA⟩ := hΓ
  intro g H locs ls hP hS hl ho1 ho2 hg hn
  exact lv_idiv hx hb hd hy (k g H locs ls hP hS hl ho1 (tn_okL.cons trivial ho2.tl.tl) hg hn)
theorem tn_irem (hΓ : tn_is Γ z) {x y : Int32} (hd : decode z.2.1 pc = .ok (.irem, 1)) (hy : ¬ y = 0) (k : tn_A Γ (pc + 1) loc (.int (x - x / y * y) :: st) ca sl ks ρ σ) : tn_A Γ (pc) loc (.int y :: .int x :: st) ca sl ks ρ σ := by
  obtain ⟨⟨p, l, e, R, s, m, args, below, meth, c, Q⟩, D, cA, A, H0, g0, n0⟩ := Γ
  obtain ⟨hx, hb, hml, hown, hts, hK, hR, hrt, hlk, hnm, hA⟩ := hΓ
  intro g H locs ls hP hS hl ho1 ho2 hg hn
  exact lv_irem hx hb hd hy (k g H locs ls hP hS hl ho1 (tn_okL.cons trivial ho2.tl.tl) hg hn)
theorem tn_ldiv (hΓ : tn_is Γ z) {x y : Int64} (hd : decode z.2.1 pc = .ok (.ldiv, 1)) (hy : ¬ y = 0) (k : tn_A Γ (pc + 1) loc (.long (x / y) :: st) ca sl ks ρ σ) : tn_A Γ (pc) loc (.long y :: .long x :: st) ca sl ks ρ σ := by
  obtain ⟨⟨p, l, e, R, s, m, args, below, meth, c, Q⟩, D, cA, A, H0, g0, n0⟩ := Γ
  obtain ⟨hx, hb, hml, hown, hts, hK, hR, hrt, hlk, hnm, hA⟩ := hΓ
  intro g H locs ls hP hS hl ho1 ho2 hg hn
  exact lv_ldiv hx hb hd hy (k g H locs ls hP hS hl ho1 (tn_okL.cons trivial ho2.tl.tl) hg hn)
theorem tn_lrem (hΓ : tn_is Γ z) {x y : Int64} (hd : decode z.2.1 pc = .ok (.lrem, 1)) (hy : ¬ y = 0) (k : tn_A Γ (pc + 1) loc (.long (x - x / y * y) :: st) ca sl ks ρ σ) : tn_A Γ (pc) loc (.long y :: .long x :: st) ca sl ks ρ σ := by
  obtain ⟨⟨p, l, e, R, s, m, args, below, meth, c, Q⟩, D, cA, A, H0, g0, n0⟩ := Γ
  obtain ⟨hx, hb, hml, hown, hts, hK, hR, hrt, hlk, hnm, hA⟩ := hΓ
  intro g H locs ls hP hS hl ho1 ho2 hg hn
  exact lv_lrem hx hb hd hy (k g H locs ls hP hS hl ho1 (tn_okL.cons trivial ho2.tl.tl) hg hn)
theorem tn_lcmp (hΓ : tn_is Γ z) {x y : Int64} (hd : decode z.2.1 pc = .ok (.lcmp, 1)) (k : tn_A Γ (pc + 1) loc (.int (lg_cmp x y) :: st) ca sl ks ρ σ) : tn_A Γ (pc) loc (.long y :: .long x :: st) ca sl ks ρ σ := by
  obtain ⟨⟨p, l, e, R, s, m, args, below, meth, c, Q⟩, D, cA, A, H0, g0, n0⟩ := Γ
  obtain ⟨hx, hb, hml, hown, hts, hK, hR, hrt, hlk, hnm, hA⟩ := hΓ
  intro g H locs ls hP hS hl ho1 ho2 hg hn
  exact W.lcmp hx hb hd (k g H locs ls hP hS hl ho1 (tn_okL.cons trivial ho2.tl.tl) hg hn)
theorem tn_i2b (hΓ : tn_is Γ z) {x : Int32} (hd : decode z.2.1 pc = .ok (.i2b, 1)) (k : tn_A Γ (pc + 1) loc (.int (x.toInt8.toInt32) :: st) ca sl ks ρ σ) : tn_A Γ (pc) loc (.int x :: st) ca sl ks ρ σ := by
  obtain ⟨⟨p, l, e, R, s, m, args, below, meth, c, Q⟩, D, cA, A, H0, g0, n0⟩ := Γ
  obtain ⟨hx, hb, hml, hown, hts, hK, hR, hrt, hlk, hnm, hA⟩ := hΓ
  intro g H locs ls hP hS hl ho1 ho2 hg hn
  exact lv_i2b hx hb hd rfl (k g H locs ls hP hS hl ho1 (tn_okL.cons trivial ho2.tl) hg hn)
theorem tn_i2s (hΓ : tn_is Γ z) {x : Int32} (hd : decode z.2.1 pc = .ok (.i2s, 1)) (k : tn_A Γ (pc + 1) loc (.int (x.toInt16.toInt32) :: st) ca sl ks ρ σ) : tn_A Γ (pc) loc (.int x :: st) ca sl ks ρ σ := by
  obtain ⟨⟨p, l, e, R, s, m, args, below, meth, c, Q⟩, D, cA, A, H0, g0, n0⟩ := Γ
  obtain ⟨hx, hb, hml, hown, hts, hK, hR, hrt, hlk, hnm, hA⟩ := hΓ
  intro g H locs ls hP hS hl ho1 ho2 hg hn
  exact lv_i2s hx hb hd rfl (k g H locs ls hP hS hl ho1 (tn_okL.cons trivial ho2.tl) hg hn)
theorem tn_i2l (hΓ : tn_is Γ z) {x : Int32} (hd : decode z.2.1 pc = .ok (.i2l, 1)) (k : tn_A Γ (pc + 1) loc (.long (x.toInt64) :: st) ca sl ks ρ σ) : tn_A Γ (pc) loc (.int x :: st) ca sl ks ρ σ := by
  obtain ⟨⟨p, l, e, R, s, m, args, below, meth, c, Q⟩, D, cA, A, H0, g0, n0⟩ := Γ
  obtain ⟨hx, hb, hml, hown, hts, hK, hR, hrt, hlk, hnm, hA⟩ := hΓ
  intro g H locs ls hP hS hl ho1 ho2 hg hn
  exact lv_i2l hx hb hd rfl (k g H locs ls hP hS hl ho1 (tn_okL.cons trivial ho2.tl) hg hn)
theorem tn_if_eq (hΓ : tn_is Γ z) {x : Int32} {off : Int} {tgt : Nat} (hd : decode z.2.1 pc = .ok (.ifCond .eq off, 3)) (ht : (pc : Int) + off = (tgt : Int)) (k1 : x = 0 → tn_A Γ (tgt) loc (st) ca sl ks ρ σ) (k2 : ¬ x = 0 → tn_A Γ (pc + 3) loc (st) ca sl ks ρ σ) : tn_A Γ (pc) loc (.int x :: st) ca sl ks ρ σ := by
  obtain ⟨⟨p, l, e, R, s, m, args, below, meth, c, Q⟩, D, cA, A, H0, g0, n0⟩ := Γ
  obtain ⟨hx, hb, hml, hown, hts, hK, hR, hrt, hlk, hnm, hA⟩ := hΓ
  intro g H locs ls hP hS hl ho1 ho2 hg hn
  exact lv_if_eq hx hb hd ht (fun q => k1 q g H locs ls hP hS hl ho1 ho2.tl hg hn) (fun q => k2 q g H locs ls hP hS hl ho1 ho2.tl hg hn)
theorem tn_icmp_eq (hΓ : tn_is Γ z) {x y : Int32} {off : Int} {tgt : Nat} (hd : decode z.2.1 pc = .ok (.if_icmp .eq off, 3)) (ht : (pc : Int) + off = (tgt : Int)) (k1 : x = y → tn_A Γ (tgt) loc (st) ca sl ks ρ σ) (k2 : ¬ x = y → tn_A Γ (pc + 3) loc (st) ca sl ks ρ σ) : tn_A Γ (pc) loc (.int y :: .int x :: st) ca sl ks ρ σ := by
  obtain ⟨⟨p, l, e, R, s, m, args, below, meth, c, Q⟩, D, cA, A, H0, g0, n0⟩ := Γ
  obtain ⟨hx, hb, hml, hown, hts, hK, hR, hrt, hlk, hnm, hA⟩ := hΓ
  intro g H locs ls hP hS hl ho1 ho2 hg hn
  exact lv_icmp_eq hx hb hd ht (fun q => k1 q g H locs ls hP hS hl ho1 ho2.tl.tl hg hn) (fun q => k2 q g H locs ls hP hS hl ho1 ho2.tl.tl hg hn)
theorem tn_if_ne (hΓ : tn_is Γ z) {x : Int32} {off : Int} {tgt : Nat} (hd : decode z.2.1 pc = .ok (.ifCond .ne off, 3)) (ht : (pc : Int) + off = (tgt : Int)) (k1 : ¬ x = 0 → tn_A Γ (tgt) loc (st) ca sl ks ρ σ) (k2 : x = 0 → tn_A Γ (pc + 3) loc (st) ca sl ks ρ σ) : tn_A Γ (pc) loc (.int x :: st) ca sl ks ρ σ := by
  obtain ⟨⟨p, l, e, R, s, m, args, below, meth, c, Q⟩, D, cA, A, H0, g0, n0⟩ := Γ
  obtain ⟨hx, hb, hml, hown, hts, hK, hR, hrt, hlk, hnm, hA⟩ := hΓ
  intro g H locs ls hP hS hl ho1 ho2 hg hn
  exact lv_if_ne hx hb hd ht (fun q => k1 q g H locs ls hP hS hl ho1 ho2.tl hg hn) (fun q => k2 q g H locs ls hP hS hl ho1 ho2.tl hg hn)
theorem tn_icmp_ne (hΓ : tn_is Γ z) {x y : Int32} {off : Int} {tgt : Nat} (hd : decode z.2.1 pc = .ok (.if_icmp .ne off, 3)) (ht : (pc : Int) + off = (tgt : Int)) (k1 : ¬ x = y → tn_A Γ (tgt) loc (st) ca sl ks ρ σ) (k2 : x = y → tn_A Γ (pc + 3) loc (st) ca sl ks ρ σ) : tn_A Γ (pc) loc (.int y :: .int x :: st) ca sl ks ρ σ := by
  obtain ⟨⟨p, l, e, R, s, m, args, below, meth, c, Q⟩, D, cA, A, H0, g0, n0⟩ := Γ
  obtain ⟨hx, hb, hml, hown, hts, hK, hR, hrt, hlk, hnm, hA⟩ := hΓ
  intro g H locs ls hP hS hl ho1 ho2 hg hn
  exact lv_icmp_ne hx hb hd ht (fun q => k1 q g H locs ls hP hS hl ho1 ho2.tl.tl hg hn) (fun q => k2 q g H locs ls hP hS hl ho1 ho2.tl.tl hg hn)
theorem tn_if_lt (hΓ : tn_is Γ z) {x : Int32} {off : Int} {tgt : Nat} (hd : decode z.2.1 pc = .ok (.ifCond .lt off, 3)) (ht : (pc : Int) + off = (tgt : Int)) (k1 : x < 0 → tn_A Γ (tgt) loc (st) ca sl ks ρ σ) (k2 : ¬ x < 0 → tn_A Γ (pc + 3) loc (st) ca sl ks ρ σ) : tn_A Γ (pc) loc (.int x :: st) ca sl ks ρ σ := by
  obtain ⟨⟨p, l, e, R, s, m, args, below, meth, c, Q⟩, D, cA, A, H0, g0, n0⟩ := Γ
  obtain ⟨hx, hb, hml, hown, hts, hK, hR, hrt, hlk, hnm, hA⟩ := hΓ
  intro g H locs ls hP hS hl ho1 ho2 hg hn
  exact lv_if_lt hx hb hd ht (fun q => k1 q g H locs ls hP hS hl ho1 ho2.tl hg hn) (fun q => k2 q g H locs ls hP hS hl ho1 ho2.tl hg hn)
theorem tn_icmp_lt (hΓ : tn_is Γ z) {x y : Int32} {off : Int} {tgt : Nat} (hd : decode z.2.1 pc = .ok (.if_icmp .lt off, 3)) (ht : (pc : Int) + off = (tgt : Int)) (k1 : x < y → tn_A Γ (tgt) loc (st) ca sl ks ρ σ) (k2 : ¬ x < y → tn_A Γ (pc + 3) loc (st) ca sl ks ρ σ) : tn_A Γ (pc) loc (.int y :: .int x :: st) ca sl ks ρ σ := by
  obtain ⟨⟨p, l, e, R, s, m, args, below, meth, c, Q⟩, D, cA, A, H0, g0, n0⟩ := Γ
  obtain ⟨hx, hb, hml, hown, hts, hK, hR, hrt, hlk, hnm, hA⟩ := hΓ
  intro g H locs ls hP hS hl ho1 ho2 hg hn
  exact lv_icmp_lt hx hb hd ht (fun q => k1 q g H locs ls hP hS hl ho1 ho2.tl.tl hg hn) (fun q => k2 q g H locs ls hP hS hl ho1 ho2.tl.tl hg hn)
theorem tn_if_ge (hΓ : tn_is Γ z) {x : Int32} {off : Int} {tgt : Nat} (hd : decode z.2.1 pc = .ok (.ifCond .ge off, 3)) (ht : (pc : Int) + off = (tgt : Int)) (k1 : 0 ≤ x → tn_A Γ (tgt) loc (st) ca sl ks ρ σ) (k2 : ¬ 0 ≤ x → tn_A Γ (pc + 3) loc (st) ca sl ks ρ σ) : tn_A Γ (pc) loc (.int x :: st) ca sl ks ρ σ := by
  obtain ⟨⟨p, l, e, R, s, m, args, below, meth, c, Q⟩, D, cA, A, H0, g0, n0⟩ := Γ
  obtain ⟨hx, hb, hml, hown, hts, hK, hR, hrt, hlk, hnm, hA⟩ := hΓ
  intro g H locs ls hP hS hl ho1 ho2 hg hn
  exact lv_if_ge hx hb hd ht (fun q => k1 q g H locs ls hP hS hl ho1 ho2.tl hg hn) (fun q => k2 q g H locs ls hP hS hl ho1 ho2.tl hg hn)
theorem tn_icmp_ge (hΓ : tn_is Γ z) {x y : Int32} {off : Int} {tgt : Nat} (hd : decode z.2.1 pc = .ok (.if_icmp .ge off, 3)) (ht : (pc : Int) + off = (tgt : Int)) (k1 : y ≤ x → tn_A Γ (tgt) loc (st) ca sl ks ρ σ) (k2 : ¬ y ≤ x → tn_A Γ (pc + 3) loc (st) ca sl ks ρ σ) : tn_A Γ (pc) loc (.int y :: .int x :: st) ca sl ks ρ σ := by
  obtain ⟨⟨p, l, e, R, s, m, args, below, meth, c, Q⟩, D, cA, A, H0, g0, n0⟩ := Γ
  obtain ⟨hx, hb, hml, hown, hts, hK, hR, hrt, hlk, hnm, hA⟩ := hΓ
  intro g H locs ls hP hS hl ho1 ho2 hg hn
  exact lv_icmp_ge hx hb hd ht (fun q => k1 q g H locs ls hP hS hl ho1 ho2.tl.tl hg hn) (fun q => k2 q g H locs ls hP hS hl ho1 ho2.tl.tl hg hn)
theorem tn_if_gt (hΓ : tn_is Γ z) {x : Int32} {off : Int} {tgt : Nat} (hd : decode z.2.1 pc = .ok (.ifCond .gt off, 3)) (ht : (pc : Int) + off = (tgt : Int)) (k1 : 0 < x → tn_A Γ (tgt) loc (st) ca sl ks ρ σ) (k2 : ¬ 0 < x → tn_A Γ (pc + 3) loc (st) ca sl ks ρ σ) : tn_A Γ (pc) loc (.int x :: st) ca sl ks ρ σ := by
  obtain ⟨⟨p, l, e, R, s, m, args, below, meth, c, Q⟩, D, cA, A, H0, g0, n0⟩ := Γ
  obtain ⟨hx, hb, hml, hown, hts, hK, hR, hrt, hlk, hnm, hA⟩ := hΓ
  intro g H locs ls hP hS hl ho1 ho2 hg hn
  exact lv_if_gt hx hb hd ht (fun q => k1 q g H locs ls hP hS hl ho1 ho2.tl hg hn) (fun q => k2 q g H locs ls hP hS hl ho1 ho2.tl hg hn)
theorem tn_icmp_gt (hΓ : tn_is Γ z) {x y : Int32} {off : Int} {tgt : Nat} (hd : decode z.2.1 pc = .ok (.if_icmp .gt off, 3)) (ht : (pc : Int) + off = (tgt : Int)) (k1 : y < x → tn_A Γ (tgt) loc (st) ca sl ks ρ σ) (k2 : ¬ y < x → tn_A Γ (pc + 3) loc (st) ca sl ks ρ σ) : tn_A Γ (pc) loc (.int y :: .int x :: st) ca sl ks ρ σ := by
  obtain ⟨⟨p, l, e, R, s, m, args, below, meth, c, Q⟩, D, cA, A, H0, g0, n0⟩ := Γ
  obtain ⟨hx, hb, hml, hown, hts, hK, hR, hrt, hlk, hnm, hA⟩ := hΓ
  intro g H locs ls hP hS hl ho1 ho2 hg hn
  exact lv_icmp_gt hx hb hd ht (fun q => k1 q g H locs ls hP hS hl ho1 ho2.tl.tl hg hn) (fun q => k2 q g H locs ls hP hS hl ho1 ho2.tl.tl hg hn)
theorem tn_if_le (hΓ : tn_is Γ z) {x : Int32} {off : Int} {tgt : Nat} (hd : decode z.2.1 pc = .ok (.ifCond .le off, 3)) (ht : (pc : Int) + off = (tgt : Int)) (k1 : x ≤ 0 → tn_A Γ (tgt) loc (st) ca sl ks ρ σ) (k2 : ¬ x ≤ 0 → tn_A Γ (pc + 3) loc (st) ca sl ks ρ σ) : tn_A Γ (pc) loc (.int x :: st) ca sl ks ρ σ := by
  obtain ⟨⟨p, l, e, R, s, m, args, below, meth, c, Q⟩, D, cA, A, H0, g0, n0⟩ := Γ
  obtain ⟨hx, hb, hml, hown, hts, hK, hR, hrt, hlk, hnm, hA⟩ := hΓ
  intro g H locs ls hP hS hl ho1 ho2 hg hn
  exact lv_if_le hx hb hd ht (fun q => k1 q g H locs ls hP hS hl ho1 ho2.tl hg hn) (fun q => k2 q g H locs ls hP hS hl ho1 ho2.tl hg hn)
theorem tn_icmp_le (hΓ : tn_is Γ z) {x y : Int32} {off : Int} {tgt : Nat} (hd : decode z.2.1 pc = .ok (.if_icmp .le off, 3)) (ht : (pc : Int) + off = (tgt : Int)) (k1 : x ≤ y → tn_A Γ (tgt) loc (st) ca sl ks ρ σ) (k2 : ¬ x ≤ y → tn_A Γ (pc + 3) loc (st) ca sl ks ρ σ) : tn_A Γ (pc) loc (.int y :: .int x :: st) ca sl ks ρ σ := by
  obtain ⟨⟨p, l, e, R, s, m, args, below, meth, c, Q⟩, D, cA, A, H0, g0, n0⟩ := Γ
  obtain ⟨hx, hb, hml, hown, hts, hK, hR, hrt, hlk, hnm, hA⟩ := hΓ
  intro g H locs ls hP hS hl ho1 ho2 hg hn
  exact lv_icmp_le hx hb hd ht (fun q => k1 q g H locs ls hP hS hl ho1 ho2.tl.tl hg hn) (fun q => k2 q g H locs ls hP hS hl ho1 ho2.tl.tl hg hn)
theorem tn_goto (hΓ : tn_is Γ z) {off : Int} {tgt : Nat} (hd : decode z.2.1 pc = .ok (.goto off, 3)) (ht : (pc : Int) + off = (tgt : Int)) (k : tn_A Γ (tgt) loc (st) ca sl ks ρ σ) : tn_A Γ (pc) loc (st) ca sl ks ρ σ := by
  obtain ⟨⟨p, l, e, R, s, m, args, below, meth, c, Q⟩, D, cA, A, H0, g0, n0⟩ := Γ
  obtain ⟨hx, hb, hml, hown, hts, hK, hR, hrt, hlk, hnm, hA⟩ := hΓ
  intro g H locs ls hP hS hl ho1 ho2 hg hn
  exact lv_goto hx hb hd ht (k g H locs ls hP hS hl ho1 ho2 hg hn)
theorem tn_dupi (hΓ : tn_is Γ z) {x : Int32} (hd : decode z.2.1 pc = .ok (.dup, 1)) (k : tn_A Γ (pc + 1) loc (.int x :: .int x :: st) ca sl ks ρ σ) : tn_A Γ (pc) loc (.int x :: st) ca sl ks ρ σ := by
  obtain ⟨⟨p, l, e, R, s, m, args, below, meth, c, Q⟩, D, cA, A, H0, g0, n0⟩ := Γ
  obtain ⟨hx, hb, hml, hown, hts, hK, hR, hrt, hlk, hnm, hA⟩ := hΓ
  intro g H locs ls hP hS hl ho1 ho2 hg hn
  exact lv_dup hx hb hd rfl (k g H locs ls hP hS hl ho1 (tn_okL.cons ho2.hd ho2) hg hn)
theorem tn_dupr (hΓ : tn_is Γ z) {x : Nat} (hd : decode z.2.1 pc = .ok (.dup, 1)) (k : tn_A Γ (pc + 1) loc (.ref x :: .ref x :: st) ca sl ks ρ σ) : tn_A Γ (pc) loc (.ref x :: st) ca sl ks ρ σ := by
  obtain ⟨⟨p, l, e, R, s, m, args, below, meth, c, Q⟩, D, cA, A, H0, g0, n0⟩ := Γ
  obtain ⟨hx, hb, hml, hown, hts, hK, hR, hrt, hlk, hnm, hA⟩ := hΓ
  intro g H locs ls hP hS hl ho1 ho2 hg hn
  exact lv_dup hx hb hd (by cases h : tn_gr g x <;> simp [tn_v, h, va_rf, Value.category]) (k g H locs ls hP hS hl ho1 (tn_okL.cons ho2.hd ho2) hg hn)
theorem tn_popi (hΓ : tn_is Γ z) {x : Int32} (hd : decode z.2.1 pc = .ok (.pop, 1)) (k : tn_A Γ (pc + 1) loc (st) ca sl ks ρ σ) : tn_A Γ (pc) loc (.int x :: st) ca sl ks ρ σ := by
  obtain ⟨⟨p, l, e, R, s, m, args, below, meth, c, Q⟩, D, cA, A, H0, g0, n0⟩ := Γ
  obtain ⟨hx, hb, hml, hown, hts, hK, hR, hrt, hlk, hnm, hA⟩ := hΓ
  intro g H locs ls hP hS hl ho1 ho2 hg hn
  exact lv_pop hx hb hd rfl (k g H locs ls hP hS hl ho1 ho2.tl hg hn)
theorem tn_dup2 (hΓ : tn_is Γ z) {x : Int32} {y : Nat} (hd : decode z.2.1 pc = .ok (.dup2, 1)) (k : tn_A Γ (pc + 1) loc (.int x :: .ref y :: .int x :: .ref y :: st) ca sl ks ρ σ) : tn_A Γ (pc) loc (.int x :: .ref y :: st) ca sl ks ρ σ := by
  obtain ⟨⟨p, l, e, R, s, m, args, below, meth, c, Q⟩, D, cA, A, H0, g0, n0⟩ := Γ
  obtain ⟨hx, hb, hml, hown, hts, hK, hR, hrt, hlk, hnm, hA⟩ := hΓ
  intro g H locs ls hP hS hl ho1 ho2 hg hn
  exact lv_dup2_11 hx hb hd rfl (by cases h : tn_gr g y <;> simp [tn_v, h, va_rf, Value.category]) (k g H locs ls hP hS hl ho1 (tn_okL.cons ho2.hd (tn_okL.cons ho2.tl.hd ho2)) hg hn)
theorem tn_tblOut (hΓ : tn_is Γ z) {dflt lo hi : Int} {offs : Array Int} {len : Nat} {x : Int32} {tgt : Nat} (hd : decode z.2.1 pc = .ok (.tableswitch dflt lo hi offs, len)) (h : x.toInt < lo ∨ hi < x.toInt) (ht : (pc : Int) + dflt = (tgt : Int)) (k : tn_A Γ (tgt) loc (st) ca sl ks ρ σ) : tn_A Γ (pc) loc (.int x :: st) ca sl ks ρ σ := by
  obtain ⟨⟨p, l, e, R, s, m, args, below, meth, c, Q⟩, D, cA, A, H0, g0, n0⟩ := Γ
  obtain ⟨hx, hb, hml, hown, hts, hK, hR, hrt, hlk, hnm, hA⟩ := hΓ
  intro g H locs ls hP hS hl ho1 ho2 hg hn
  exact lv_tableOut hx hb hd h ht (k g H locs ls hP hS hl ho1 ho2.tl hg hn)
theorem tn_tblIn (hΓ : tn_is Γ z) {dflt lo hi : Int} {offs : Array Int} {len : Nat} {x : Int32} {off : Int} {tgt : Nat} (hd : decode z.2.1 pc = .ok (.tableswitch dflt lo hi offs, len)) (h1 : ¬ x.toInt < lo) (h2 : ¬ hi < x.toInt) (ho : offs[(x.toInt - lo).toNat]? = some off) (ht : (pc : Int) + off = (tgt : Int)) (k : tn_A Γ (tgt) loc (st) ca sl ks ρ σ) : tn_A Γ (pc) loc (.int x :: st) ca sl ks ρ σ := by
  obtain ⟨⟨p, l, e, R, s, m, args, below, meth, c, Q⟩, D, cA, A, H0, g0, n0⟩ := Γ
  obtain ⟨hx, hb, hml, hown, hts, hK, hR, hrt, hlk, hnm, hA⟩ := hΓ
  intro g H locs ls hP hS hl ho1 ho2 hg hn
  exact lv_tableIn hx hb hd h1 h2 ho ht (k g H locs ls hP hS hl ho1 ho2.tl hg hn)
theorem tn_lookup (hΓ : tn_is Γ z) {dflt : Int} {ps : Array (Int × Int)} {len : Nat} {x : Int32} {off : Int} {tgt : Nat} (hd : decode z.2.1 pc = .ok (.lookupswitch dflt ps, len)) (hp : (ps.toList.zip (ps.toList.drop 1)).all (fun (a, next) => a.1 < next.1) = true) (ho : Op.lookupswitch.offset ps.toList dflt x.toInt = off) (ht : (pc : Int) + off = (tgt : Int)) (k : tn_A Γ (tgt) loc (st) ca sl ks ρ σ) : tn_A Γ (pc) loc (.int x :: st) ca sl ks ρ σ := by
  obtain ⟨⟨p, l, e, R, s, m, args, below, meth, c, Q⟩, D, cA, A, H0, g0, n0⟩ := Γ
  obtain ⟨hx, hb, hml, hown, hts, hK, hR, hrt, hlk, hnm, hA⟩ := hΓ
  intro g H locs ls hP hS hl ho1 ho2 hg hn
  exact lv_lookup hx hb hd hp ho ht (k g H locs ls hP hS hl ho1 ho2.tl hg hn)
/-- a field's link: own class, pool index; class, place -/
def tn_FL (own : String) (idx i k : Nat) : Prop := ∃ (C : String) (T : u_T) (ty : Nat → FieldType), i < 7 ∧ tn_cl[i]? = some (C, T, tn_N i) ∧ k < tn_N i ∧ (∀ w ∈ u_ws C T (tn_N i), w ∈ tn_tbl) ∧ (∀ k, k < tn_N i → parseFieldDescriptor (T k).2.2.1 = some (ty k)) ∧ (∀ a, a < tn_N i → ∀ b, b < tn_N i → a ≠ b → (T a).2.1 ≠ (T b).2.1) ∧ (T k).1 = C ∧ (Cond.fieldLink own idx C (T k).2.1 (T k).2.2.1 ∈ tn_tbl ∨ ∃ host, Cond.fieldLinkNest own idx C (T k).2.1 (T k).2.2.1 host ∈ tn_nst)
/-- the field's kind: 0 int, 1 boolean, 2 a final reference of this own class -/
def tn_FK (own : String) (i k q : Nat) : Prop := ∃ (C : String) (T : u_T), tn_cl[i]? = some (C, T, tn_N i) ∧ match q with
  | 0 => parseFieldDescriptor (T k).2.2.1 = some .int ∧ (T k).2.2.2 = false
  | 1 => parseFieldDescriptor (T k).2.2.1 = some .boolean ∧ (T k).2.2.2 = false
  | _ => (T k).2.2.2 = true ∧ (T k).1 = own ∧ ((∃ r, parseFieldDescriptor (T k).2.2.1 = some (.object r)) ∨ (∃ r, parseFieldDescriptor (T k).2.2.1 = some (.array r)))
theorem tn_getI (hΓ : tn_is Γ z) {x idx i k n : Nat} (hd : decode z.2.1 pc = .ok (.getfield idx, 3)) (hf : tn_FL z.1.cls idx i k) (hr : tn_isR i k = false) (hk : tn_kd ks x = some (i, n)) (kk : tn_A Γ (pc + 3) loc (.int (σ x k) :: st) ca sl ks ρ σ) : tn_A Γ (pc) loc (.ref x :: st) ca sl ks ρ σ := by
  obtain ⟨⟨p, l, e, R, s, m, args, below, meth, c, Q⟩, D, cA, A, H0, g0, n0⟩ := Γ
  obtain ⟨hx, hb, hml, hown, hts, hK, hR, hrt, hlk, hnm, hA⟩ := hΓ
  intro g H locs ls hP hS hl ho1 ho2 hg hn
  obtain ⟨C, T, ty, hi, hc, hkN, hus, hty, hnm2, hdecl, hlink⟩ := hf
  have he := tn_at (cA := cA) (g := g) (ρ := ρ) (σ := σ) hk
  have he : (tn_C cA g ks ρ σ)[x - 2]? = some (g x, .inr (i, tn_fs i g ρ σ x)) := by rw [he]; simp [tn_e, hi]
  have hv : (tn_fs i g ρ σ x)[k]? = some (.int (σ x k)) := by rw [tn_fsN hkN, hr]; rfl
  have hx2 := (tn_kd2 hk).1
  have h1 := kk g H locs ls hP hS hl ho1 (tn_okL.cons trivial ho2.tl) hg hn
  show W p l e R s m args below meth c H locs ca sl Q (F0 m pc ls (va_rf (tn_gr g x) :: st.map (tn_v g)))
  rw [tn_gr2 (by omega)]
  rcases hlink with hlink | ⟨host, hlink⟩
  · exact va_get (D := D) (ci := i) hx hb hts hus hown hK.1 hP.1 (x - 2) he hc k hkN (hts _ hlink) (fun q h => by rw [hdecl] at h; exact h) hv hd h1
  · exact va_getN (D := D) (ci := i) hx hb hts hus hown hK.1 hP.1 (x - 2) he hc k hkN (va_Nw.use rfl (hK.2.1 _ hlink)) (fun q h => by rw [hdecl] at h; exact h) hv hd h1
theorem tn_getR (hΓ : tn_is Γ z) {x idx i k n : Nat} (hd : decode z.2.1 pc = .ok (.getfield idx, 3)) (hf : tn_FL z.1.cls idx i k) (hr : tn_isR i k = true) (hk : tn_kd ks x = some (i, n)) (kk : tn_A Γ (pc + 3) loc (.ref (ρ x k) :: st) ca sl ks ρ σ) : tn_A Γ (pc) loc (.ref x :: st) ca sl ks ρ σ := by
  obtain ⟨⟨p, l, e, R, s, m, args, below, meth, c, Q⟩, D, cA, A, H0, g0, n0⟩ := Γ
  obtain ⟨hx, hb, hml, hown, hts, hK, hR, hrt, hlk, hnm, hA⟩ := hΓ
  intro g H locs ls hP hS hl ho1 ho2 hg hn
  obtain ⟨C, T, ty, hi, hc, hkN, hus, hty, hnm2, hdecl, hlink⟩ := hf
  have he := tn_at (cA := cA) (g := g) (ρ := ρ) (σ := σ) hk
  have he : (tn_C cA g ks ρ σ)[x - 2]? = some (g x, .inr (i, tn_fs i g ρ σ x)) := by rw [he]; simp [tn_e, hi]
  have hv : (tn_fs i g ρ σ x)[k]? = some (va_rf (tn_gr g (ρ x k))) := by rw [tn_fsN hkN, hr]; rfl
  have hx2 := (tn_kd2 hk).1
  have h1 := kk g H locs ls hP hS hl ho1 (tn_okL.cons (v := .ref (ρ x k)) (hP.2.2 x k) ho2.tl) hg hn
  show W p l e R s m args below meth c H locs ca sl Q (F0 m pc ls (va_rf (tn_gr g x) :: st.map (tn_v g)))
  rw [tn_gr2 (by omega)]
  rcases hlink with hlink | ⟨host, hlink⟩
  · exact va_get (D := D) (ci := i) hx hb hts hus hown hK.1 hP.1 (x - 2) he hc k hkN (hts _ hlink) (fun q h => by rw [hdecl] at h; exact h) hv hd h1
  · exact va_getN (D := D) (ci := i) hx hb hts hus hown hK.1 hP.1 (x - 2) he hc k hkN (va_Nw.use rfl (hK.2.1 _ hlink)) (fun q h => by rw [hdecl] at h; exact h) hv hd h1
theorem tn_putI (hΓ : tn_is Γ z) {x idx i k n : Nat} {y : Int32} (hd : decode z.2.1 pc = .ok (.putfield idx, 3)) (hf : tn_FL z.1.cls idx i k) (hq : tn_FK z.1.cls i k 0) (hr : tn_isR i k = false) (hk : tn_kd ks x = some (i, n)) (kk : tn_A Γ (pc + 3) loc (st) ca sl ks ρ (tn_u σ x k y)) : tn_A Γ (pc) loc (.int y :: .ref x :: st) ca sl ks ρ σ := by
  obtain ⟨⟨p, l, e, R, s, m, args, below, meth, c, Q⟩, D, cA, A, H0, g0, n0⟩ := Γ
  obtain ⟨hx, hb, hml, hown, hts, hK, hR, hrt, hlk, hnm, hA⟩ := hΓ
  intro g H locs ls hP hS hl ho1 ho2 hg hn
  obtain ⟨C, T, ty, hi, hc, hkN, hus, hty, hnm2, hdecl, hlink⟩ := hf
  obtain ⟨C', T', hc', hq1, hq2⟩ := hq
  cases hc.symm.trans hc'
  have he := tn_at (cA := cA) (g := g) (ρ := ρ) (σ := σ) hk
  have he : (tn_C cA g ks ρ σ)[x - 2]? = some (g x, .inr (i, tn_fs i g ρ σ x)) := by rw [he]; simp [tn_e, hi]
  have hx2 := (tn_kd2 hk).1
  have hset := tn_C_set (cA := cA) (g := g) (ρ := ρ) (σ := σ) (k := k) (x := y) hk hi hr
  show W p l e R s m args below meth c H locs ca sl Q (F0 m pc ls (.int y :: va_rf (tn_gr g x) :: st.map (tn_v g)))
  rw [tn_gr2 (by omega)]
  rcases hlink with hlink | ⟨host, hlink⟩
  · refine va_put (D := D) (ci := i) (ty := .int) hx hb hts hus ty hty hnm2 hown hK.1 hP.1 hP.2.1 hS (x - 2) he hc k hkN (hts _ hlink) (fun q h => by rw [hdecl] at h; exact h) hq2 hq1 rfl rfl (by rw [tn_fsL]; exact hkN) hd (fun H1 locs1 h1 h2 h3 => ?_)
    rw [hset] at h1 h2
    exact kk g H1 locs1 ls ⟨h1, h2, hP.2.2⟩ h3 hl ho1 ho2.tl.tl hg hn
  · refine va_putN (D := D) (ci := i) (ty := .int) hx hb hts hus ty hty hnm2 hown hK.1 hP.1 hP.2.1 hS (x - 2) he hc k hkN (va_Nw.use rfl (hK.2.1 _ hlink)) (fun q h => by rw [hdecl] at h; exact h) hq2 hq1 rfl rfl (by rw [tn_fsL]; exact hkN) hd (fun H1 locs1 h1 h2 h3 => ?_)
    rw [hset] at h1 h2
    exact kk g H1 locs1 ls ⟨h1, h2, hP.2.2⟩ h3 hl ho1 ho2.tl.tl hg hn
theorem tn_putZ (hΓ : tn_is Γ z) {x idx i k n : Nat} {y : Int32} (hd : decode z.2.1 pc = .ok (.putfield idx, 3)) (hf : tn_FL z.1.cls idx i k) (hq : tn_FK z.1.cls i k 1) (hr : tn_isR i k = false) (hk : tn_kd ks x = some (i, n)) (hy : y = 0 ∨ y = 1) (kk : tn_A Γ (pc + 3) loc (st) ca sl ks ρ (tn_u σ x k y)) : tn_A Γ (pc) loc (.int y :: .ref x :: st) ca sl ks ρ σ := by
  obtain ⟨⟨p, l, e, R, s, m, args, below, meth, c, Q⟩, D, cA, A, H0, g0, n0⟩ := Γ
  obtain ⟨hx, hb, hml, hown, hts, hK, hR, hrt, hlk, hnm, hA⟩ := hΓ
  intro g H locs ls hP hS hl ho1 ho2 hg hn
  obtain ⟨C, T, ty, hi, hc, hkN, hus, hty, hnm2, hdecl, hlink⟩ := hf
  obtain ⟨C', T', hc', hq1, hq2⟩ := hq
  cases hc.symm.trans hc'
  have he := tn_at (cA := cA) (g := g) (ρ := ρ) (σ := σ) hk
  have he : (tn_C cA g ks ρ σ)[x - 2]? = some (g x, .inr (i, tn_fs i g ρ σ x)) := by rw [he]; simp [tn_e, hi]
  have hx2 := (tn_kd2 hk).1
  have hset := tn_C_set (cA := cA) (g := g) (ρ := ρ) (σ := σ) (k := k) (x := y) hk hi hr
  show W p l e R s m args below meth c H locs ca sl Q (F0 m pc ls (.int y :: va_rf (tn_gr g x) :: st.map (tn_v g)))
  rw [tn_gr2 (by omega)]
  rcases hlink with hlink | ⟨host, hlink⟩
  · refine va_put (D := D) (ci := i) (ty := .boolean) hx hb hts hus ty hty hnm2 hown hK.1 hP.1 hP.2.1 hS (x - 2) he hc k hkN (hts _ hlink) (fun q h => by rw [hdecl] at h; exact h) hq2 hq1 (by rcases hy with rfl | rfl <;> rfl) (by rcases hy with rfl | rfl <;> rfl) (by rw [tn_fsL]; exact hkN) hd (fun H1 locs1 h1 h2 h3 => ?_)
    rw [hset] at h1 h2
    exact kk g H1 locs1 ls ⟨h1, h2, hP.2.2⟩ h3 hl ho1 ho2.tl.tl hg hn
  · refine va_putN (D := D) (ci := i) (ty := .boolean) hx hb hts hus ty hty hnm2 hown hK.1 hP.1 hP.2.1 hS (x - 2) he hc k hkN (va_Nw.use rfl (hK.2.1 _ hlink)) (fun q h => by rw [hdecl] at h; exact h) hq2 hq1 (by rcases hy with rfl | rfl <;> rfl) (by rcases hy with rfl | rfl <;> rfl) (by rw [tn_fsL]; exact hkN) hd (fun H1 locs1 h1 h2 h3 => ?_)
    rw [hset] at h1 h2
    exact kk g H1 locs1 ls ⟨h1, h2, hP.2.2⟩ h3 hl ho1 ho2.tl.tl hg hn
theorem tn_putR (hΓ : tn_is Γ z) {x idx i k n : Nat} {y : Nat} (hd : decode z.2.1 pc = .ok (.putfield idx, 3)) (hf : tn_FL z.1.cls idx i k) (hq : tn_FK z.1.cls i k 2) (hr : tn_isR i k = true) (hk : tn_kd ks x = some (i, n)) (hl0 : ∀ (C : String) (T : u_T), tn_cl[i]? = some (C, T, tn_N i) → Cond.fieldLink z.1.cls idx C (T k).2.1 (T k).2.2.1 ∈ tn_tbl) (hin : z.1.name = "<init>") (kk : tn_A Γ (pc + 3) loc (st) ca sl ks (tn_ur ρ x k y) σ) : tn_A Γ (pc) loc (.ref y :: .ref x :: st) ca sl ks ρ σ := by
  obtain ⟨⟨p, l, e, R, s, m, args, below, meth, c, Q⟩, D, cA, A, H0, g0, n0⟩ := Γ
  obtain ⟨hx, hb, hml, hown, hts, hK, hR, hrt, hlk, hnm, hA⟩ := hΓ
  intro g H locs ls hP hS hl ho1 ho2 hg hn
  obtain ⟨C, T, ty, hi, hc, hkN, hus, hty, hnm2, hdecl, hlink⟩ := hf
  obtain ⟨C', T', hc', hq1, hq2, hq3⟩ := hq
  cases hc.symm.trans hc'
  have he := tn_at (cA := cA) (g := g) (ρ := ρ) (σ := σ) hk
  have he : (tn_C cA g ks ρ σ)[x - 2]? = some (g x, .inr (i, tn_fs i g ρ σ x)) := by rw [he]; simp [tn_e, hi]
  have hx2 := (tn_kd2 hk).1
  have hset := tn_C_setR (cA := cA) (g := g) (ρ := ρ) (σ := σ) (k := k) (x := y) hk hi hr
  have hyb : y < ks.length + 2 := ho2.hd
  show W p l e R s m args below meth c H locs ca sl Q (F0 m pc ls (va_rf (tn_gr g y) :: va_rf (tn_gr g x) :: st.map (tn_v g)))
  rw [tn_gr2 (g := g) (c := x) (by omega)]
  have hin2 : meth.name = "<init>" := hnm.trans hin
  have hl0 := hl0 _ _ hc
  have go : ∀ ty0 : FieldType, parseFieldDescriptor (T k).2.2.1 = some ty0 → narrow ty0 (va_rf (tn_gr g y)) = va_rf (tn_gr g y) → fits ty0 (va_rf (tn_gr g y)) = true → W p l e R s m args below meth c H locs ca sl Q (F0 m pc ls (va_rf (tn_gr g y) :: .ref (g x) :: st.map (tn_v g))) := by
    intro ty0 h1 h2 h3
    refine va_putF (D := D) (ci := i) (ty := ty0) hx hb hts hus ty hty hnm2 hown hK.1 hP.1 hP.2.1 hS (x - 2) he hc k hkN (hts _ hl0) (fun q h => by rw [hdecl] at h; exact h) hq1 hin2 hq2 h1 h2 h3 (by rw [tn_fsL]; exact hkN) hd (fun H1 locs1 h1 h2 h3 => ?_)
    rw [hset] at h1 h2
    refine kk g H1 locs1 ls ⟨h1, h2, fun c' k' => ?_⟩ h3 hl ho1 ho2.tl.tl hg hn
    unfold tn_ur
    split
    · exact hyb
    · exact hP.2.2 c' k'
  rcases hq3 with ⟨r, h⟩ | ⟨r, h⟩
  · exact go _ h (by cases tn_gr g y <;> rfl) (by cases tn_gr g y <;> rfl)
  · exact go _ h (by cases tn_gr g y <;> rfl) (by cases tn_gr g y <;> rfl)
theorem tn_ald (hΓ : tn_is Γ z) {x n : Nat} {i : Int32} (hd : decode z.2.1 pc = .ok (.iaload, 1)) (hk : tn_kd ks x = some (7, n)) (hin : vp_in i n) (kk : tn_A Γ (pc + 1) loc (.int (σ x i.toNatClampNeg) :: st) ca sl ks ρ σ) : tn_A Γ (pc) loc (.int i :: .ref x :: st) ca sl ks ρ σ := by
  obtain ⟨⟨p, l, e, R, s, m, args, below, meth, c, Q⟩, D, cA, A, H0, g0, n0⟩ := Γ
  obtain ⟨hx, hb, hml, hown, hts, hK, hR, hrt, hlk, hnm, hA⟩ := hΓ
  intro g H locs ls hP hS hl ho1 ho2 hg hn
  have he := tn_at (cA := cA) (g := g) (ρ := ρ) (σ := σ) hk
  have he : (tn_C cA g ks ρ σ)[x - 2]? = some (g x, .inl (cA 0, n, .inl (σ x))) := by rw [he]; simp [tn_e]
  have hx2 := (tn_kd2 hk).1
  have h1 := kk g H locs ls hP hS hl ho1 (tn_okL.cons trivial ho2.tl.tl) hg hn
  show W p l e R s m args below meth c H locs ca sl Q (F0 m pc ls (.int i :: va_rf (tn_gr g x) :: st.map (tn_v g)))
  rw [tn_gr2 (by omega)]
  exact va_iald hx hb hK.1 hP.1 (x - 2) 0 he rfl hin hd h1
theorem tn_ast (hΓ : tn_is Γ z) {x n : Nat} {i y : Int32} (hd : decode z.2.1 pc = .ok (.iastore, 1)) (hk : tn_kd ks x = some (7, n)) (hin : vp_in i n) (kk : tn_A Γ (pc + 1) loc (st) ca sl ks ρ (tn_u σ x i.toNatClampNeg y)) : tn_A Γ (pc) loc (.int y :: .int i :: .ref x :: st) ca sl ks ρ σ := by
  obtain ⟨⟨p, l, e, R, s, m, args, below, meth, c, Q⟩, D, cA, A, H0, g0, n0⟩ := Γ
  obtain ⟨hx, hb, hml, hown, hts, hK, hR, hrt, hlk, hnm, hA⟩ := hΓ
  intro g H locs ls hP hS hl ho1 ho2 hg hn
  have he := tn_at (cA := cA) (g := g) (ρ := ρ) (σ := σ) hk
  have he : (tn_C cA g ks ρ σ)[x - 2]? = some (g x, .inl (cA 0, n, .inl (σ x))) := by rw [he]; simp [tn_e]
  have hx2 := (tn_kd2 hk).1
  have hset := tn_C_setA (cA := cA) (g := g) (ρ := ρ) (σ := σ) (f := upd (σ x) i.toNatClampNeg y) hk
  rw [tn_u_f] at hset
  show W p l e R s m args below meth c H locs ca sl Q (F0 m pc ls (.int y :: .int i :: va_rf (tn_gr g x) :: st.map (tn_v g)))
  rw [tn_gr2 (by omega)]
  refine va_iast hx hb hK.1 hP.1 hP.2.1 hS (x - 2) 0 he rfl hin hd (fun H1 locs1 h1 h2 h3 => ?_)
  rw [hset] at h1 h2
  exact kk g H1 locs1 ls ⟨h1, h2, hP.2.2⟩ h3 hl ho1 ho2.tl.tl.tl hg hn
theorem tn_aald (hΓ : tn_is Γ z) {x n t : Nat} {i : Int32} (hd : decode z.2.1 pc = .ok (.aaload, 1)) (ht : t < 3) (hk : tn_kd ks x = some (t + 8, n)) (hin : vp_in i n) (kk : tn_A Γ (pc + 1) loc (.ref (ρ x i.toNatClampNeg) :: st) ca sl ks ρ σ) : tn_A Γ (pc) loc (.int i :: .ref x :: st) ca sl ks ρ σ := by
  obtain ⟨⟨p, l, e, R, s, m, args, below, meth, c, Q⟩, D, cA, A, H0, g0, n0⟩ := Γ
  obtain ⟨hx, hb, hml, hown, hts, hK, hR, hrt, hlk, hnm, hA⟩ := hΓ
  intro g H locs ls hP hS hl ho1 ho2 hg hn
  have he := tn_at (cA := cA) (g := g) (ρ := ρ) (σ := σ) hk
  have he : (tn_C cA g ks ρ σ)[x - 2]? = some (g x, .inl (cA (t + 1), n, .inr (.inr (.inr (.inr (fun j => tn_gr g (ρ x j))))))) := by
    rw [he]
    unfold tn_e
    rw [if_neg (by omega), if_neg (by omega)]
    rfl
  have hx2 := (tn_kd2 hk).1
  have h1 := kk g H locs ls hP hS hl ho1 (tn_okL.cons (v := .ref (ρ x i.toNatClampNeg)) (hP.2.2 x _) ho2.tl.tl) hg hn
  show W p l e R s m args below meth c H locs ca sl Q (F0 m pc ls (.int i :: va_rf (tn_gr g x) :: st.map (tn_v g)))
  rw [tn_gr2 (by omega)]
  have h3 : t = 0 ∨ t = 1 ∨ t = 2 := by omega
  rcases h3 with rfl | rfl | rfl
  · exact va_aldq hx hb hK.1 hP.1 (x - 2) 1 he rfl hin hd h1
  · exact va_aldq hx hb hK.1 hP.1 (x - 2) 2 he rfl hin hd h1
  · exact va_aldq hx hb hK.1 hP.1 (x - 2) 3 he rfl hin hd h1
theorem tn_aast (hΓ : tn_is Γ z) {x n t y i0 n0' : Nat} {i : Int32} (hd : decode z.2.1 pc = .ok (.aastore, 1)) (ht : (t = 0 ∧ i0 = 0) ∨ (t = 1 ∧ i0 = 3) ∨ (t = 2 ∧ i0 = 2)) (hk : tn_kd ks x = some (t + 8, n)) (hin : vp_in i n) (hy : tn_kd ks y = some (i0, n0')) (kk : tn_A Γ (pc + 1) loc (st) ca sl ks (tn_ur ρ x i.toNatClampNeg y) σ) : tn_A Γ (pc) loc (.ref y :: .int i :: .ref x :: st) ca sl ks ρ σ := by
  obtain ⟨⟨p, l, e, R, s, m, args, below, meth, c, Q⟩, D, cA, A, H0, g0, n0⟩ := Γ
  obtain ⟨hx, hb, hml, hown, hts, hK, hR, hrt, hlk, hnm, hA⟩ := hΓ
  intro g H locs ls hP hS hl ho1 ho2 hg hn
  have he := tn_at (cA := cA) (g := g) (ρ := ρ) (σ := σ) hk
  have hi0 : i0 < 7 := by omega
  have he : (tn_C cA g ks ρ σ)[x - 2]? = some (g x, .inl (cA (t + 1), n, .inr (.inr (.inr (.inr (fun j => tn_gr g (ρ x j))))))) := by
    rw [he]
    unfold tn_e
    rw [if_neg (by omega), if_neg (by omega)]
    rfl
  have he2 := tn_at (cA := cA) (g := g) (ρ := ρ) (σ := σ) hy
  have he2 : (tn_C cA g ks ρ σ)[y - 2]? = some (g y, .inr (i0, tn_fs i0 g ρ σ y)) := by rw [he2]; simp [tn_e, hi0]
  have hx2 := (tn_kd2 hk).1
  have hy2 := (tn_kd2 hy).1
  have hyb := (tn_kd2 hy).2.2
  have hset := tn_C_setQ (cA := cA) (g := g) (ρ := ρ) (σ := σ) (k := i.toNatClampNeg) (x := y) hk (by omega)
  have fin : ∀ (H1 : Heap) (locs1 : List Loc), va_P D tn_cl ((tn_C cA g ks ρ σ).set (x - 2) (g x, .inl (cA (t + 1), n, .inr (.inr (.inr (.inr (va_up (fun j => tn_gr g (ρ x j)) i.toNatClampNeg (some (g y))))))))) H1 → va_D A ((tn_C cA g ks ρ σ).set (x - 2) (g x, .inl (cA (t + 1), n, .inr (.inr (.inr (.inr (va_up (fun j => tn_gr g (ρ x j)) i.toNatClampNeg (some (g y))))))))) → va_S A H0 H1 locs1 → W p l e R s m args below meth c H1 locs1 ca sl Q (F0 m (pc + 1) ls (st.map (tn_v g))) := by
    intro H1 locs1 h1 h2 h3
    rw [hset] at h1 h2
    refine kk g H1 locs1 ls ⟨h1, h2, fun c' k' => ?_⟩ h3 hl ho1 ho2.tl.tl.tl hg hn
    unfold tn_ur
    split
    · exact hyb
    · exact hP.2.2 c' k'
  show W p l e R s m args below meth c H locs ca sl Q (F0 m pc ls (va_rf (tn_gr g y) :: .int i :: va_rf (tn_gr g x) :: st.map (tn_v g)))
  rw [tn_gr2 (c := x) (by omega), tn_gr2 (c := y) (by omega)]
  rcases ht with ⟨rfl, rfl⟩ | ⟨rfl, rfl⟩ | ⟨rfl, rfl⟩
  · exact va_astq (r := ("ThunderOwned$House", tn_T0, 5)) hx hb hK.1 hP.1 hP.2.1 hS (x - 2) 1 (y - 2) 0 he rfl he2 rfl hin hd fin
  · exact va_astq (r := ("ThunderOwned$Stone", tn_T3, 2)) hx hb hK.1 hP.1 hP.2.1 hS (x - 2) 2 (y - 2) 3 he rfl he2 rfl hin hd fin
  · exact va_astq (r := ("ThunderOwned$Sheet", tn_T2, 4)) hx hb hK.1 hP.1 hP.2.1 hS (x - 2) 3 (y - 2) 2 he rfl he2 rfl hin hd fin
end TR
end
section
/-! ===== making cells, calls, returns ===== -/
section TC
variable {Γ : tn_G} {z : tn_M} {pc : Nat} {loc st : List Value} {ca sl : Nat} {ks : List (Nat × Nat)} {ρ : Nat → Nat → Nat} {σ : Nat → Nat → Int32}
theorem tn_ug_c {g : Nat → Nat} {n q : Nat} : ∀ c, c < n + 2 → tn_ug g (n + 2) q c = g c := fun c h => if_neg (by omega)
theorem tn_zr_c {ρ : Nat → Nat → Nat} {n m : Nat} (h : ∀ c k, ρ c k < n + 2) : ∀ c k, tn_zr ρ m c k < n + 1 + 2 := by
  intro c k
  unfold tn_zr
  split
  · omega
  · have := h c k
    omega
theorem tn_new (hΓ : tn_is Γ z) {idx i : Nat} {C : String} {T : u_T} (ty : Nat → FieldType) (hd : decode z.2.1 pc = .ok (.new idx, 3)) (hi : i < 7) (hc : tn_cl[i]? = some (C, T, tn_N i)) (hus : ∀ w ∈ u_ws C T (tn_N i), w ∈ tn_tbl) (hty : ∀ k, k < tn_N i → parseFieldDescriptor (T k).2.2.1 = some (ty k))
    (hcl : Cond.classLink z.1.cls idx C ∈ tn_tbl) (hins : Cond.instantiable C (tn_N i) ∈ tn_tbl) (hini : Cond.initialized C ∈ tn_tbl) (hdf : ∀ k, k < tn_N i → defaultValue (ty k) = if tn_isR i k = true then Value.null else .int 0) (hca : ca + 1 ≤ z.2.2.2.2.cells) (hsl : sl + tn_N i ≤ z.2.2.2.2.slots)
    (kk : tn_A Γ (pc + 3) loc (.ref (ks.length + 2) :: st) (ca + 1) (sl + tn_N i) (ks ++ [(i, 0)]) (tn_zr ρ (ks.length + 2)) (tn_zs σ (ks.length + 2))) : tn_A Γ pc loc st ca sl ks ρ σ := by
  obtain ⟨⟨p, l, e, R, s, m, args, below, meth, c, Q⟩, D, cA, A, H0, g0, n0⟩ := Γ
  obtain ⟨hx, hb, hml, hown, hts, hK, hR, hrt, hlk, hnm, hA⟩ := hΓ
  intro g H locs ls hP hS hl ho1 ho2 hg hn
  refine va_new (D := D) (ci := i) (fs := tn_fs i g (fun _ _ => 0) (fun _ _ => 0) 0) hx hb hts hus ty hty hown (hts _ hcl) (hts _ hins) (hts _ hini) hK.1 hP.1 hP.2.1 hS hA hc ?_ (by rw [hR]; exact hca) (by rw [hR]; exact hsl) hd (fun q H1 h1 h2 h3 => ?_)
  · intro j hj
    rw [hdf j hj]
    have h5 := tn_fsN (i := i) (g := g) (ρ := fun _ _ => 0) (σ := fun _ _ => 0) (c := 0) hj
    unfold vp_V
    rw [List.getD_eq_getElem?_getD, h5]
    cases tn_isR i j <;> rfl
  · have e1 := tn_C_new (cA := cA) (g := g) (σ := σ) (q := q) (kk := (i, 0)) hP.2.2
    have e2 : tn_e cA (tn_ug g (ks.length + 2) q) (fun _ _ => 0) (fun _ _ => 0) (ks.length + 2) (i, 0) = .inr (i, tn_fs i g (fun _ _ => 0) (fun _ _ => 0) 0) := by
      simp only [tn_e, hi, if_true]
      rw [tn_fs_congr (g' := g) (ρ' := fun _ _ => 0) (σ' := fun _ _ => 0) (c' := 0) (fun k => by simp [tn_gr]) (fun k => rfl)]
    rw [e2] at e1
    rw [← e1] at h1 h2
    have hug := tn_ug_c (g := g) (n := ks.length) (q := q)
    have h9 := kk (tn_ug g (ks.length + 2) q) H1 locs ls ⟨h1, h2, by rw [List.length_append]; exact tn_zr_c hP.2.2⟩ h3 (tn_L.congr hug ho1 hl) (ho1.mono (by simp)) (tn_okL.cons (v := .ref (ks.length + 2)) (show _ < _ by simp) (ho2.mono (by simp))) (fun x hx => by rw [hug x (by omega)]; exact hg x hx) (by simp; omega)
    have h10 : (Value.ref (ks.length + 2) :: st).map (tn_v (tn_ug g (ks.length + 2) q)) = .ref q :: st.map (tn_v g) := by
      rw [List.map_cons, tn_map_congr hug ho2]
      simp [tn_v, tn_gr, tn_ug, va_rf]
    rw [h10] at h9
    exact h9
theorem tn_newa (hΓ : tn_is Γ z) {n : Int32} {N : Nat} (hd : decode z.2.1 pc = .ok (.newarray .int, 2)) (ha : Cond.arrayClass .int ∈ tn_tbl) (hn0 : ¬ n < 0) (hN : n.toNatClampNeg = N) (hsm : N ≤ 1000) (hca : ca + 1 ≤ z.2.2.2.2.cells) (hsl : sl + N ≤ z.2.2.2.2.slots)
    (kk : tn_A Γ (pc + 2) loc (.ref (ks.length + 2) :: st) (ca + 1) (sl + N) (ks ++ [(7, N)]) (tn_zr ρ (ks.length + 2)) (tn_zs σ (ks.length + 2))) : tn_A Γ pc loc (.int n :: st) ca sl ks ρ σ := by
  obtain ⟨⟨p, l, e, R, s, m, args, below, meth, c, Q⟩, D, cA, A, H0, g0, n0⟩ := Γ
  obtain ⟨hx, hb, hml, hown, hts, hK, hR, hrt, hlk, hnm, hA⟩ := hΓ
  intro g H locs ls hP hS hl ho1 ho2 hg hn
  refine va_newa (D := D) (atype := .int) (a0 := (N, .inl (fun _ => 0))) hx hb (hts _ ha) rfl hK.1 hP.1 hP.2.1 hS hA (fun _ => rfl) hn0 hN (by show N * 4 ≤ _; omega) (by rw [hR]; exact hca) (by rw [hR]; exact hsl) hd (fun q cA' H1 h0 h1 h2 h3 => ?_)
  have hcc : cA' = cA 0 := by
    have q1 := (h0.2 4 (cA', .int) rfl).2
    have q2 := (h0.2 0 (cA 0, .int) rfl).2
    exact Option.some.inj (q1.symm.trans q2)
  subst hcc
  have e1 := tn_C_new (cA := cA) (g := g) (σ := σ) (q := q) (kk := (7, N)) hP.2.2
  have e2 : tn_e cA (tn_ug g (ks.length + 2) q) (fun _ _ => 0) (fun _ _ => 0) (ks.length + 2) (7, N) = .inl (cA 0, N, .inl (fun _ => 0)) := by simp [tn_e]
  rw [e2] at e1
  rw [← e1] at h1 h2
  have hug := tn_ug_c (g := g) (n := ks.length) (q := q)
  have h9 := kk (tn_ug g (ks.length + 2) q) H1 locs ls ⟨h1, h2, by rw [List.length_append]; exact tn_zr_c hP.2.2⟩ h3 (tn_L.congr hug ho1 hl) (ho1.mono (by simp)) (tn_okL.cons (v := .ref (ks.length + 2)) (show _ < _ by simp) (ho2.tl.mono (by simp))) (fun x hx => by rw [hug x (by omega)]; exact hg x hx) (by simp; omega)
  have h10 : (Value.ref (ks.length + 2) :: st).map (tn_v (tn_ug g (ks.length + 2) q)) = .ref q :: st.map (tn_v g) := by
    rw [List.map_cons, tn_map_congr hug ho2.tl]
    simp [tn_v, tn_gr, tn_ug, va_rf]
  rw [h10] at h9
  exact h9
theorem tn_anew (hΓ : tn_is Γ z) {n : Int32} {N t idx : Nat} {C : String} (hd : decode z.2.1 pc = .ok (.anewarray idx, 3)) (hcl : Cond.classLink z.1.cls idx C ∈ tn_tbl) (ht : (t = 0 ∧ C = "ThunderOwned$House") ∨ (t = 1 ∧ C = "ThunderOwned$Stone") ∨ (t = 2 ∧ C = "ThunderOwned$Sheet")) (hn0 : ¬ n < 0) (hN : n.toNatClampNeg = N) (hsm : N ≤ 1000) (hca : ca + 1 ≤ z.2.2.2.2.cells) (hsl : sl + N ≤ z.2.2.2.2.slots)
    (kk : tn_A Γ (pc + 3) loc (.ref (ks.length + 2) :: st) (ca + 1) (sl + N) (ks ++ [(t + 8, N)]) (tn_zr ρ (ks.length + 2)) (tn_zs σ (ks.length + 2))) : tn_A Γ pc loc (.int n :: st) ca sl ks ρ σ := by
  obtain ⟨⟨p, l, e, R, s, m, args, below, meth, c, Q⟩, D, cA, A, H0, g0, n0⟩ := Γ
  obtain ⟨hx, hb, hml, hown, hts, hK, hR, hrt, hlk, hnm, hA⟩ := hΓ
  intro g H locs ls hP hS hl ho1 ho2 hg hn
  have hAO : va_AO C s := by
    rcases ht with ⟨-, rfl⟩ | ⟨-, rfl⟩ | ⟨-, rfl⟩
    · exact hK.2.2.1
    · exact hK.2.2.2.1
    · exact hK.2.2.2.2
  refine va_newq (D := D) hx hb hown (hts _ hcl) hAO hK.1 hP.1 hP.2.1 hS hA hn0 hN (by omega) (by rw [hR]; exact hca) (by rw [hR]; exact hsl) hd (fun q cA' H1 h0 h1 h2 h3 => ?_)
  have hcc : cA' = cA (t + 1) := by
    rcases ht with ⟨rfl, rfl⟩ | ⟨rfl, rfl⟩ | ⟨rfl, rfl⟩
    · obtain ⟨_, _, _, _, _, q1⟩ := (h0.2 4 _ rfl).2
      obtain ⟨_, _, _, _, _, q2⟩ := (h0.2 1 _ rfl).2
      exact Option.some.inj (q1.symm.trans q2)
    · obtain ⟨_, _, _, _, _, q1⟩ := (h0.2 4 _ rfl).2
      obtain ⟨_, _, _, _, _, q2⟩ := (h0.2 2 _ rfl).2
      exact Option.some.inj (q1.symm.trans q2)
    · obtain ⟨_, _, _, _, _, q1⟩ := (h0.2 4 _ rfl).2
      obtain ⟨_, _, _, _, _, q2⟩ := (h0.2 3 _ rfl).2
      exact Option.some.inj (q1.symm.trans q2)
  subst hcc
  have e1 := tn_C_new (cA := cA) (g := g) (σ := σ) (q := q) (kk := (t + 8, N)) hP.2.2
  have e2 : tn_e cA (tn_ug g (ks.length + 2) q) (fun _ _ => 0) (fun _ _ => 0) (ks.length + 2) (t + 8, N) = .inl (cA (t + 1), N, .inr (.inr (.inr (.inr (fun _ => none))))) := by
    unfold tn_e
    rw [if_neg (by omega), if_neg (by omega)]
    rfl
  rw [e2] at e1
  rw [← e1] at h1 h2
  have hug := tn_ug_c (g := g) (n := ks.length) (q := q)
  have h9 := kk (tn_ug g (ks.length + 2) q) H1 locs ls ⟨h1, h2, by rw [List.length_append]; exact tn_zr_c hP.2.2⟩ h3 (tn_L.congr hug ho1 hl) (ho1.mono (by simp)) (tn_okL.cons (v := .ref (ks.length + 2)) (show _ < _ by simp) (ho2.tl.mono (by simp))) (fun x hx => by rw [hug x (by omega)]; exact hg x hx) (by simp; omega)
  have h10 : (Value.ref (ks.length + 2) :: st).map (tn_v (tn_ug g (ks.length + 2) q)) = .ref q :: st.map (tn_v g) := by
    rw [List.map_cons, tn_map_congr hug ho2.tl]
    simp [tn_v, tn_gr, tn_ug, va_rf]
  rw [h10] at h9
  exact h9
theorem tn_cats {st : List Value} {g : Nat → Nat} : ((st.map (tn_v g)).map fun v => v.category) = st.map fun v => v.category := by
  rw [List.map_map]
  apply List.map_congr_left
  intro v _
  cases v with
  | ref c => show (va_rf (tn_gr g c)).category = 1; cases tn_gr g c <;> rfl
  | _ => rfl
theorem tn_objInit (hΓ : tn_is Γ z) {idx x : Nat} (hd : decode z.2.1 pc = .ok (.invokespecial idx, 3)) (hlink : Cond.methodLink z.1.cls idx Lib.objectInit ∈ tn_tbl) (hinst : Cond.instanceMethod Lib.objectInit ∈ tn_tbl) (hcode : Cond.code Lib.objectInit ⟨#[0xb1]⟩ 1 none ∈ tn_tbl) (hx0 : 0 < x) (hfr : 1 ≤ z.2.2.2.2.frames) (hlo : (st.map fun v => v.category).sum + 12 ≤ z.2.2.2.2.locals)
    (kk : tn_A Γ (pc + 3) loc st ca sl ks ρ σ) : tn_A Γ pc loc (.ref x :: st) ca sl ks ρ σ := by
  obtain ⟨⟨p, l, e, R, s, m, args, below, meth, c, Q⟩, D, cA, A, H0, g0, n0⟩ := Γ
  obtain ⟨hx, hb, hml, hown, hts, hK, hR, hrt, hlk, hnm, hA⟩ := hΓ
  intro g H locs ls hP hS hl ho1 ho2 hg hn
  have h1 := kk g H locs ls hP hS hl ho1 ho2.tl hg hn
  show W p l e R s m args below meth c H locs ca sl Q (F0 m pc ls (va_rf (tn_gr g x) :: st.map (tn_v g)))
  rw [tn_gr2 hx0]
  refine W.objInit hx hb hown (hts _ hlink) (hts _ hinst) (hts _ hcode) rfl hl.1 rfl hd (by rw [hR]; exact hfr) ?_ h1
  show 2 * 0 + _ + 12 ≤ _
  rw [tn_cats, hR]
  omega
/-! calls -/
/-- what a callee's own words say; n: how many parameters -/
def tn_MV (y : tn_M) (n : Nat) : Prop := Cond.code y.1 y.2.1 y.2.2.1 y.2.2.2.1 ∈ tn_tbl ∧ Cond.initialized y.1.cls ∈ tn_tbl ∧ (y.1.cls ≠ "java/lang/invoke/MethodHandle" ∧ y.1.cls ≠ "java/lang/invoke/VarHandle" ∧ (parseMethodDescriptor y.1.desc).map (fun d => d.parameters.length) = some n) ∧ plainName y.1.cls = true
def tn_ML (own : String) (idx : Nat) (y : MethodName) : Prop := Cond.methodLink own idx y ∈ tn_tbl ∨ ∃ host, Cond.methodLinkNest own idx y host ∈ tn_nst
def tn_RM (z y : tn_M) (ca sl : Nat) : Prop := (y.2.2.2.2.frames + 1 ≤ z.2.2.2.2.frames ∧ 8 + (y.2.2.1 + 11) + y.2.2.2.2.locals ≤ z.2.2.2.2.locals) ∧ ca + y.2.2.2.2.cells ≤ z.2.2.2.2.cells ∧ sl + y.2.2.2.2.slots ≤ z.2.2.2.2.slots
theorem tn_gin (z : tn_M) {y : tn_M} {n : Nat} (hy : tn_MV y n) : GoodIn (tn_tbl) (tn_ws y) := by
  intro w hw
  have hw : w ∈ tn_tbl := by
    rcases List.mem_cons.mp hw with h | h
    · rw [h]; exact hy.1
    · exact h
  exact ⟨hw, good_of_word (List.mem_filter.mp hw).2⟩
theorem tn_blind {D : va_G} {cA : Nat → ClassId} {g : Nat → Nat} {sz : Nat} {As : List Value} : FrameBlind (va_Pc (As.map (tn_v g)) (fun U => U.heap.size = sz ∧ tn_P D cA (fun _ => True) g ks ρ σ U.heap ∧ tn_K D cA U)) :=
  fun a U g mk q => ⟨q.1, q.2.1, q.2.2.1, q.2.2.2.call⟩
theorem tn_P.any {D : va_G} {cA : Nat → ClassId} {A : Nat → Prop} {g : Nat → Nat} {H : Heap} (h : tn_P D cA A g ks ρ σ H) : tn_P D cA (fun _ => True) g ks ρ σ H := ⟨h.1, h.2.1.weaken (fun _ _ _ _ => trivial), h.2.2⟩
/-- behind a call -/
theorem tn_after {p : Program} {l : Launch} {e : Env} {R : Room} {s : State} {m : MethodId} {args : Array Value} {below : List Frame} {meth : Method} {c : Code} {Q : State → Prop} {D : va_G} {cA : Nat → ClassId} {A : Nat → Prop} {H0 : Heap} {g0 : Nat → Nat} {n0 : Nat} {mc ms : Nat} {g : Nat → Nat} {H : Heap} {locs : List Loc} {ls : Array Slot} {st0 : List Value} {a : Array Value}
    {K : Option Value → List (Nat × Nat) → (Nat → Nat → Nat) → (Nat → Nat → Int32) → Prop} (hA : ∀ q, H0.size ≤ q → A q) (hP : tn_P D cA A g ks ρ σ H) (hS : va_S A H0 H locs) (hl : tn_L g loc ls c.maxLocals) (ho1 : tn_okL ks.length loc) (ho2 : tn_okL ks.length st) (hg : ∀ q, q < n0 + 2 → g q = g0 q) (hn : n0 ≤ ks.length)
    (hr : va_Run p l e R s m args below meth c H locs ca sl mc ms (F0 m pc ls st0) (st.map (tn_v g)) (tn_Qc D cA (va_A (tn_C cA g ks ρ σ) H.size) g ks.length K a) (va_A (tn_C cA g ks ρ σ) H.size))
    (kk : ∀ (v : Option Value) (ks' : List (Nat × Nat)) (ρ' : Nat → Nat → Nat) (σ' : Nat → Nat → Int32), K v ks' ρ' σ' → tn_A ((p, l, e, R, s, m, args, below, meth, c, Q), D, cA, A, H0, g0, n0) (pc + 3) loc (v.toList ++ st) (ca + mc) (sl + ms) ks' ρ' σ') :
    W p l e R s m args below meth c H locs ca sl Q (F0 m pc ls st0) := by
  have hF : ∀ q, va_A (tn_C cA g ks ρ σ) H.size q → A q := by
    intro q h
    rcases h with ⟨k, x, h⟩ | h
    · exact hP.2.1.2 k _ h
    · exact hA q (Nat.le_trans hS.1 h)
  intro T hT X
  obtain ⟨v, st₀, t, T', L, h0, X', hL, e1, e2, ⟨⟨v', g', ks', ρ', σ', hv, hnr, hq, hg', hn', hP'⟩, hz, hk⟩, stp⟩ := hr T hT X
  cases hv
  rw [h0] at hz hk
  have hS' : va_S A H0 T'.heap (locs ++ L) := ⟨Nat.le_trans hS.1 (by rw [e1]; exact hz), fun q h1 h2 => by rw [e1, hk q (Nat.lt_of_lt_of_le h1 hS.1) (fun z => h2 (hF q z))]; exact hS.2.1 q h1 h2, fun q hq => by
      rcases List.mem_append.mp hq with h | h
      · exact hS.2.2 q h
      · exact hF _ (hL q h)⟩
  have hP2 : tn_P D cA A g' ks' ρ' σ' T'.heap := by
    rw [e1]
    exact ⟨hP'.1, hP'.2.1.weaken (fun _ _ _ h => hF _ h), hP'.2.2⟩
  have hvok : tn_okL ks'.length (v.toList ++ st) := by
    intro w hw
    rcases List.mem_append.mp hw with h | h
    · cases v with
      | none => cases h
      | some u =>
        have : w = u := by simpa using h
        subst this
        cases w with
        | ref q => exact absurd rfl (hnr q)
        | _ => trivial
    · exact (ho2 w h).mono hn'
  have h9 := kk v ks' ρ' σ' hq g' T'.heap (locs ++ L) ls hP2 hS' (tn_L.congr hg' ho1 hl) (ho1.mono hn') hvok (fun q hq => by rw [hg' q (by omega)]; exact hg q hq) (Nat.le_trans hn hn')
  have h10 : (v.toList ++ st).map (tn_v g') = v.toList ++ st.map (tn_v g) := by
    rw [List.map_append, tn_map_congr hg' ho2]
    congr 1
    cases v with
    | none => rfl
    | some u =>
      cases u with
      | ref q => exact absurd rfl (hnr q)
      | _ => rfl
  rw [h10] at h9
  obtain ⟨t2, a1, b1⟩ := h9 T' rfl X'
  exact ⟨t2, stp t2 a1, b1⟩
variable {y : tn_M} {As : List Value} {K : Option Value → List (Nat × Nat) → (Nat → Nat → Nat) → (Nat → Nat → Int32) → Prop}
theorem tn_cB {R : Room} {s : State} {args : Array Value} {n idx : Nat} {own : String} (hts : ∀ w ∈ tn_tbl, w.before args s = true) (hR : R = z.2.2.2.2) (hy : tn_MV y n) (hl : Cond.methodLink own idx y.1 ∈ tn_tbl) (hrm : tn_RM z y ca sl) : CallB R s args own idx y.1 y.2.1 y.2.2.1 y.2.2.2.1 (tn_ws y) y.2.2.2.2 y.2.2.2.2.cells y.2.2.2.2.slots n :=
  callB_of n hts (tn_gin z hy) rfl rfl rfl (hts _ hy.2.1) (hts _ hl) hy.2.2.1 (by rw [hR]; exact hrm.1)
theorem tn_cN {R : Room} {s : State} {args : Array Value} {n idx : Nat} {own host : String} {D : va_G} {cA : Nat → ClassId} (hts : ∀ w ∈ tn_tbl, w.before args s = true) (hK : tn_K D cA s) (hR : R = z.2.2.2.2) (hy : tn_MV y n) (hl : Cond.methodLinkNest own idx y.1 host ∈ tn_nst) (hrm : tn_RM z y ca sl) : va_CN R s args own idx y.1 host y.2.1 y.2.2.1 y.2.2.2.1 (tn_ws y) y.2.2.2.2 y.2.2.2.2.cells y.2.2.2.2.slots n :=
  va_cnB n hts (tn_gin z hy) rfl rfl rfl (hK.2.1 _ hl) (hts _ hy.2.1) hy.2.2.1 (by rw [hR]; exact hrm.1)
theorem tn_rmf {R : Room} (hR : R = z.2.2.2.2) (hrm : tn_RM z y ca sl) : ca + y.2.2.2.2.cells ≤ R.cells ∧ sl + y.2.2.2.2.slots ≤ R.slots := by rw [hR]; exact hrm.2
theorem tn_W8 {m : MethodId} {ls : Array Slot} {g : Nat → Nat} {rest : List Value} (h : (st.map fun v => v.category).sum ≤ 8) : 2 * (F0 m pc ls rest).monitorRoom + ((st.map (tn_v g)).map fun v => v.category).sum ≤ 8 := by
  rw [tn_cats]
  show 2 * 0 + _ ≤ 8
  omega
/-- invokevirtual -/
theorem tn_cv (hΓ : tn_is Γ z) {idx n x i n' : Nat} (hd : decode z.2.1 pc = .ok (.invokevirtual idx, 3)) (hy : tn_MV y n) (hin : Cond.instanceMethod y.1 ∈ tn_tbl) (hse : Cond.selects y.1.cls y.1 y.1 ∈ tn_tbl) (hlk0 : tn_ML z.1.cls idx y.1) (hrm : tn_RM z y ca sl) (hlen : As.length = n) (hi7 : i < 7) (hci : ∃ T, tn_cl[i]? = some (y.1.cls, T, tn_N i)) (hk : tn_kd ks x = some (i, n')) (h8 : (st.map fun v => v.category).sum ≤ 8)
    (h : tn_Call y (.ref x :: As) ks ρ σ K) (kk : ∀ (v : Option Value) (ks' : List (Nat × Nat)) (ρ' : Nat → Nat → Nat) (σ' : Nat → Nat → Int32), K v ks' ρ' σ' → tn_A Γ (pc + 3) loc (v.toList ++ st) (ca + y.2.2.2.2.cells) (sl + y.2.2.2.2.slots) ks' ρ' σ') : tn_A Γ pc loc (As.reverse ++ .ref x :: st) ca sl ks ρ σ := by
  obtain ⟨⟨p, l, e, R, s, m, args, below, meth, c, Q⟩, D, cA, A, H0, g0, n0⟩ := Γ
  obtain ⟨hx, hb, hml, hown, hts, hK, hR, hrt, hlk, hnm, hA⟩ := hΓ
  intro g H locs ls hP hS hl ho1 ho2 hg hn
  obtain ⟨T, hci⟩ := hci
  have hx2 := (tn_kd2 hk).1
  have he := tn_at (cA := cA) (g := g) (ρ := ρ) (σ := σ) hk
  have he : (tn_C cA g ks ρ σ)[x - 2]? = some (g x, .inr (i, tn_fs i g ρ σ x)) := by rw [he]; simp [tn_e, hi7]
  have hoA : tn_okL ks.length (.ref x :: As) := by
    intro w hw
    rcases List.mem_cons.mp hw with h1 | h1
    · exact ho2 w (by simp [h1])
    · exact ho2 w (by simp [h1])
  have hoS : tn_okL ks.length st := fun w hw => ho2 w (by simp [hw])
  have hM := h l D cA g H.size hoA
  have hav : (Value.ref x :: As).map (tn_v g) = .ref (g x) :: As.map (tn_v g) := by
    rw [List.map_cons]
    show va_rf (tn_gr g x) :: _ = _
    rw [tn_gr2 (by omega)]
    rfl
  have hstk : (As.reverse ++ .ref x :: st).map (tn_v g) = (As.map (tn_v g)).reverse ++ .ref (g x) :: st.map (tn_v g) := by
    rw [List.map_append, List.map_reverse, List.map_cons]
    show _ ++ va_rf (tn_gr g x) :: _ = _
    rw [tn_gr2 (by omega)]
    rfl
  have hpre : PreV s H y.1.cls (g x) (va_Pc ((Value.ref x :: As).map (tn_v g)) (fun U => U.heap.size = H.size ∧ tn_P D cA (fun _ => True) g ks ρ σ U.heap ∧ tn_K D cA U)) (As.map (tn_v g)) :=
    ⟨tn_blind, va_recv hK.1 hP.1 hci he, fun U hU hW => ⟨by rw [hav], by rw [hU], by rw [hU]; exact hP.any, hK.warm hW⟩⟩
  rcases hlk0 with h1 | ⟨host, h1⟩
  · have hrun := va_runV (e := e) (R := R) (below := below) (meth := meth) (locs := locs) (cells := ca) (slots := sl) (g := F0 m pc ls ((As.reverse ++ .ref x :: st).map (tn_v g))) (rest := st.map (tn_v g)) ⟨hx, hb, hml, hown, hts⟩ hM ⟨tn_cB hts hR hy h1 hrm, hts _ hin, hts _ hse⟩ hpre rfl (by simp [hlen]) (hl.1.trans hml) hstk (tn_W8 h8) hd (tn_rmf hR hrm)
    exact tn_after hA hP hS hl ho1 hoS hg hn hrun kk
  · have hrun := va_runVN (e := e) (R := R) (below := below) (meth := meth) (locs := locs) (cells := ca) (slots := sl) (g := F0 m pc ls ((As.reverse ++ .ref x :: st).map (tn_v g))) (rest := st.map (tn_v g)) ⟨hx, hb, hml, hown, hts⟩ hM ⟨tn_cN hts hK hR hy h1 hrm, hts _ hin, hts _ hse⟩ hpre rfl (by simp [hlen]) (hl.1.trans hml) hstk (tn_W8 h8) hd (tn_rmf hR hrm)
    exact tn_after hA hP hS hl ho1 hoS hg hn hrun kk
/-- invokestatic -/
theorem tn_cs (hΓ : tn_is Γ z) {idx n : Nat} (hd : decode z.2.1 pc = .ok (.invokestatic idx, 3)) (hy : tn_MV y n) (hst : Cond.static y.1 ∈ tn_tbl) (hlk0 : tn_ML z.1.cls idx y.1) (hrm : tn_RM z y ca sl) (hlen : As.length = n) (h8 : (st.map fun v => v.category).sum ≤ 8)
    (h : tn_Call y As ks ρ σ K) (kk : ∀ (v : Option Value) (ks' : List (Nat × Nat)) (ρ' : Nat → Nat → Nat) (σ' : Nat → Nat → Int32), K v ks' ρ' σ' → tn_A Γ (pc + 3) loc (v.toList ++ st) (ca + y.2.2.2.2.cells) (sl + y.2.2.2.2.slots) ks' ρ' σ') : tn_A Γ pc loc (As.reverse ++ st) ca sl ks ρ σ := by
  obtain ⟨⟨p, l, e, R, s, m, args, below, meth, c, Q⟩, D, cA, A, H0, g0, n0⟩ := Γ
  obtain ⟨hx, hb, hml, hown, hts, hK, hR, hrt, hlk, hnm, hA⟩ := hΓ
  intro g H locs ls hP hS hl ho1 ho2 hg hn
  have hoA : tn_okL ks.length As := fun w hw => ho2 w (by simp [hw])
  have hoS : tn_okL ks.length st := fun w hw => ho2 w (by simp [hw])
  have hM := h l D cA g H.size hoA
  have hstk : (As.reverse ++ st).map (tn_v g) = (As.map (tn_v g)).reverse ++ st.map (tn_v g) := by
    rw [List.map_append, List.map_reverse]
  have hpre : PreS s H (va_Pc (As.map (tn_v g)) (fun U => U.heap.size = H.size ∧ tn_P D cA (fun _ => True) g ks ρ σ U.heap ∧ tn_K D cA U)) (As.map (tn_v g)) :=
    ⟨tn_blind, fun U hU hW => ⟨rfl, by rw [hU], by rw [hU]; exact hP.any, hK.warm hW⟩⟩
  rcases hlk0 with h1 | ⟨host, h1⟩
  · have hrun := va_runS (e := e) (R := R) (below := below) (meth := meth) (locs := locs) (cells := ca) (slots := sl) (g := F0 m pc ls ((As.reverse ++ st).map (tn_v g))) (rest := st.map (tn_v g)) ⟨hx, hb, hml, hown, hts⟩ hM ⟨tn_cB hts hR hy h1 hrm, hts _ hst⟩ hpre rfl (by simp [hlen]) (hl.1.trans hml) hstk (tn_W8 h8) hd (tn_rmf hR hrm)
    exact tn_after hA hP hS hl ho1 hoS hg hn hrun kk
  · have hrun := va_runSN (e := e) (R := R) (below := below) (meth := meth) (locs := locs) (cells := ca) (slots := sl) (g := F0 m pc ls ((As.reverse ++ st).map (tn_v g))) (rest := st.map (tn_v g)) ⟨hx, hb, hml, hown, hts⟩ hM ⟨tn_cN hts hK hR hy h1 hrm, hts _ hst, trivial⟩ hpre rfl (by simp [hlen]) (hl.1.trans hml) hstk (tn_W8 h8) hd (tn_rmf hR hrm)
    exact tn_after hA hP hS hl ho1 hoS hg hn hrun kk
/-- invokespecial of a constructor -/
theorem tn_ci (hΓ : tn_is Γ z) {idx n x : Nat} (hd : decode z.2.1 pc = .ok (.invokespecial idx, 3)) (hy : tn_MV y n) (hin : Cond.instanceMethod y.1 ∈ tn_tbl) (hnm0 : y.1.name = "<init>") (hret : y.2.2.2.1 = none) (hlk0 : tn_ML z.1.cls idx y.1) (hrm : tn_RM z y ca sl) (hlen : As.length = n) (hx0 : 0 < x) (h8 : (st.map fun v => v.category).sum ≤ 8)
    (h : tn_Call y (.ref x :: As) ks ρ σ K) (kk : ∀ (v : Option Value) (ks' : List (Nat × Nat)) (ρ' : Nat → Nat → Nat) (σ' : Nat → Nat → Int32), K v ks' ρ' σ' → tn_A Γ (pc + 3) loc (v.toList ++ st) (ca + y.2.2.2.2.cells) (sl + y.2.2.2.2.slots) ks' ρ' σ') : tn_A Γ pc loc (As.reverse ++ .ref x :: st) ca sl ks ρ σ := by
  obtain ⟨⟨p, l, e, R, s, m, args, below, meth, c, Q⟩, D, cA, A, H0, g0, n0⟩ := Γ
  obtain ⟨hx, hb, hml, hown, hts, hK, hR, hrt, hlk, hnm, hA⟩ := hΓ
  intro g H locs ls hP hS hl ho1 ho2 hg hn
  have hoA : tn_okL ks.length (.ref x :: As) := by
    intro w hw
    rcases List.mem_cons.mp hw with h1 | h1
    · exact ho2 w (by simp [h1])
    · exact ho2 w (by simp [h1])
  have hoS : tn_okL ks.length st := fun w hw => ho2 w (by simp [hw])
  have hM := h l D cA g H.size hoA
  have hav : (Value.ref x :: As).map (tn_v g) = .ref (g x) :: As.map (tn_v g) := by
    rw [List.map_cons]
    show va_rf (tn_gr g x) :: _ = _
    rw [tn_gr2 hx0]
    rfl
  have hstk : (As.reverse ++ .ref x :: st).map (tn_v g) = (As.map (tn_v g)).reverse ++ .ref (g x) :: st.map (tn_v g) := by
    rw [List.map_append, List.map_reverse, List.map_cons]
    show _ ++ va_rf (tn_gr g x) :: _ = _
    rw [tn_gr2 hx0]
    rfl
  have hpre : PreS s H (va_Pc ((Value.ref x :: As).map (tn_v g)) (fun U => U.heap.size = H.size ∧ tn_P D cA (fun _ => True) g ks ρ σ U.heap ∧ tn_K D cA U)) (.ref (g x) :: As.map (tn_v g)) :=
    ⟨tn_blind, fun U hU hW => ⟨by rw [hav], by rw [hU], by rw [hU]; exact hP.any, hK.warm hW⟩⟩
  rcases hlk0 with h1 | ⟨host, h1⟩
  · have hB := tn_cB (ca := ca) (sl := sl) hts hR hy h1 hrm
    rw [hret] at hB
    have hrun := va_runI (e := e) (R := R) (below := below) (meth := meth) (locs := locs) (cells := ca) (slots := sl) (g := F0 m pc ls ((As.reverse ++ .ref x :: st).map (tn_v g))) (rest := st.map (tn_v g)) ⟨hx, hb, hml, hown, hts⟩ hM ⟨hB, hnm0, hts _ hin⟩ hpre rfl (by simp [hlen]) (hl.1.trans hml) hstk (tn_W8 h8) hd (tn_rmf hR hrm)
    exact tn_after hA hP hS hl ho1 hoS hg hn hrun kk
  · have hB := tn_cN (ca := ca) (sl := sl) hts hK hR hy h1 hrm
    rw [hret] at hB
    have hrun := va_runIN (e := e) (R := R) (below := below) (meth := meth) (locs := locs) (cells := ca) (slots := sl) (g := F0 m pc ls ((As.reverse ++ .ref x :: st).map (tn_v g))) (rest := st.map (tn_v g)) ⟨hx, hb, hml, hown, hts⟩ hM ⟨hB, hnm0, hts _ hin⟩ hpre rfl (by simp [hlen]) (hl.1.trans hml) hstk (tn_W8 h8) hd (tn_rmf hR hrm)
    exact tn_after hA hP hS hl ho1 hoS hg hn hrun kk
/-! returns -/
theorem tn_ret_i (hΓ : tn_is Γ z) (hK : tn_rt Γ z K) {x : Int32} (hd : decode z.2.1 pc = .ok (.ireturn, 1)) (hr : z.2.2.2.1 = some .int) (h1 : ca ≤ z.2.2.2.2.cells) (h2 : sl ≤ z.2.2.2.2.slots) (h : K (some (.int x)) ks ρ σ) : tn_A Γ pc loc [.int x] ca sl ks ρ σ := by
  obtain ⟨⟨p, l, e, R, s, m, args, below, meth, c, Q⟩, D, cA, A, H0, g0, n0⟩ := Γ
  obtain ⟨hx, hb, hml, hown, hts, hKK, hR, hrt, hlk, hnm, hA⟩ := hΓ
  obtain ⟨hH, hQ⟩ := hK
  subst hQ
  subst hH
  intro g H locs ls hP hS hl ho1 ho2 hg hn
  refine W.widen h1 h2 ?_
  exact W.iret hx hb (hrt.trans hr) (fun t ht hW => ⟨⟨some (.int x), g, ks, ρ, σ, rfl, (fun c q => by cases q), h, hg, hn, by rw [ht]; exact hP⟩, hS.F ht⟩) hS.2.2 hd
theorem tn_ret_z (hΓ : tn_is Γ z) (hK : tn_rt Γ z K) {x : Int32} (hd : decode z.2.1 pc = .ok (.ireturn, 1)) (hr : z.2.2.2.1 = some .boolean) (h1 : ca ≤ z.2.2.2.2.cells) (h2 : sl ≤ z.2.2.2.2.slots) (hx01 : x = 0 ∨ x = 1) (h : K (some (.int x)) ks ρ σ) : tn_A Γ pc loc [.int x] ca sl ks ρ σ := by
  obtain ⟨⟨p, l, e, R, s, m, args, below, meth, c, Q⟩, D, cA, A, H0, g0, n0⟩ := Γ
  obtain ⟨hx, hb, hml, hown, hts, hKK, hR, hrt, hlk, hnm, hA⟩ := hΓ
  obtain ⟨hH, hQ⟩ := hK
  subst hQ
  subst hH
  intro g H locs ls hP hS hl ho1 ho2 hg hn
  refine W.widen h1 h2 ?_
  exact W.zret hx hb (hrt.trans hr) (by rcases hx01 with rfl | rfl <;> rfl) (fun t ht hW => ⟨⟨some (.int x), g, ks, ρ, σ, rfl, (fun c q => by cases q), h, hg, hn, by rw [ht]; exact hP⟩, hS.F ht⟩) hS.2.2 hd
theorem tn_ret_l (hΓ : tn_is Γ z) (hK : tn_rt Γ z K) {x : Int64} (hd : decode z.2.1 pc = .ok (.lreturn, 1)) (hr : z.2.2.2.1 = some .long) (h1 : ca ≤ z.2.2.2.2.cells) (h2 : sl ≤ z.2.2.2.2.slots) (h : K (some (.long x)) ks ρ σ) : tn_A Γ pc loc [.long x] ca sl ks ρ σ := by
  obtain ⟨⟨p, l, e, R, s, m, args, below, meth, c, Q⟩, D, cA, A, H0, g0, n0⟩ := Γ
  obtain ⟨hx, hb, hml, hown, hts, hKK, hR, hrt, hlk, hnm, hA⟩ := hΓ
  obtain ⟨hH, hQ⟩ := hK
  subst hQ
  subst hH
  intro g H locs ls hP hS hl ho1 ho2 hg hn
  refine W.widen h1 h2 ?_
  exact W.lret hx hb (hrt.trans hr) (fun t ht hW => ⟨⟨some (.long x), g, ks, ρ, σ, rfl, (fun c q => by cases q), h, hg, hn, by rw [ht]; exact hP⟩, hS.F ht⟩) hS.2.2 hd
theorem tn_ret_v (hΓ : tn_is Γ z) (hK : tn_rt Γ z K) (hd : decode z.2.1 pc = .ok (.return_, 1)) (hr : z.2.2.2.1 = none) (h1 : ca ≤ z.2.2.2.2.cells) (h2 : sl ≤ z.2.2.2.2.slots) (h : K none ks ρ σ) : tn_A Γ pc loc [] ca sl ks ρ σ := by
  obtain ⟨⟨p, l, e, R, s, m, args, below, meth, c, Q⟩, D, cA, A, H0, g0, n0⟩ := Γ
  obtain ⟨hx, hb, hml, hown, hts, hKK, hR, hrt, hlk, hnm, hA⟩ := hΓ
  obtain ⟨hH, hQ⟩ := hK
  subst hQ
  subst hH
  intro g H locs ls hP hS hl ho1 ho2 hg hn
  refine W.widen h1 h2 ?_
  exact W.vret hx hb (hrt.trans hr) (fun t ht hW => ⟨⟨none, g, ks, ρ, σ, rfl, (fun c q => by cases q), h, hg, hn, by rw [ht]; exact hP⟩, hS.F ht⟩) hS.2.2 hd
/-! a contract out of a walk -/
def tn_ini (As : List Value) (nL : Nat) : List Value := let l := As.flatMap (fun v => if v.category = 2 then [v, .null] else [v]); l ++ List.replicate (nL - l.length) .null
theorem tn_v_cat {g : Nat → Nat} {v : Value} : (tn_v g v).category = v.category := by
  cases v with
  | ref c => show (va_rf (tn_gr g c)).category = 1; cases tn_gr g c <;> rfl
  | _ => rfl
theorem tn_ini_mem {g : Nat → Nat} : ∀ (As : List Value) (i j : Nat) (v : Value), (As.flatMap (fun v => if v.category = 2 then [v, .null] else [v]))[i]? = some v → v ≠ .null → (i + j, tn_v g v) ∈ lv_args j (As.map (tn_v g))
  | [], i, j, v, h, hn => by simp at h
  | a :: As, i, j, v, h, hn => by
    rw [List.map_cons, lv_args, tn_v_cat]
    by_cases hc : a.category = 2
    · rw [if_pos hc]
      rw [List.flatMap_cons, if_pos hc] at h
      match i, h with
      | 0, h =>
        have : a = v := by simpa using h
        subst this
        rw [Nat.zero_add]
        exact List.mem_cons_self
      | 1, h =>
        have : Value.null = v := by simpa using h
        exact absurd this.symm hn
      | i + 2, h =>
        have h1 : (As.flatMap (fun v => if v.category = 2 then [v, Value.null] else [v]))[i]? = some v := by simpa using h
        have h2 := tn_ini_mem (g := g) As i (j + 2) v h1 hn
        rw [show i + 2 + j = i + (j + 2) by omega]
        exact List.mem_cons_of_mem _ h2
    · rw [if_neg hc]
      rw [List.flatMap_cons, if_neg hc] at h
      match i, h with
      | 0, h =>
        have : a = v := by simpa using h
        subst this
        rw [Nat.zero_add]
        exact List.mem_cons_self
      | i + 1, h =>
        have h1 : (As.flatMap (fun v => if v.category = 2 then [v, Value.null] else [v]))[i]? = some v := by simpa using h
        have h2 := tn_ini_mem (g := g) As i (j + 1) v h1 hn
        rw [show i + 1 + j = i + (j + 1) by omega]
        exact List.mem_cons_of_mem _ h2
theorem tn_sl_len {g : Nat → Nat} : ∀ As : List Value, (lg_sl (As.map (tn_v g))).length = (As.flatMap (fun v => if v.category = 2 then [v, .null] else [v])).length
  | [] => rfl
  | a :: As => by
    have ih := tn_sl_len (g := g) As
    unfold lg_sl at ih ⊢
    rw [List.map_cons, List.flatMap_cons, List.flatMap_cons, List.length_append, List.length_append, ih, tn_v_cat]
    congr 1
    split <;> rfl
theorem tn_intro (hpl : plainName z.1.cls = true) (hlen : (As.flatMap (fun v => if v.category = 2 then [v, .null] else [v])).length ≤ z.2.2.1) (body : ∀ Γ : tn_G, tn_is Γ z → tn_rt Γ z K → tn_A Γ 0 (tn_ini As z.2.2.1) [] 0 0 ks ρ σ) : tn_Call z As ks ρ σ K := by
  intro l D cA g sz hoA
  refine Met.ofW (cc := z.2.1) (maxL := z.2.2.1) (ret := z.2.2.2.1) hpl rfl ?_
  intro p e s m args below meth c s₁ B hml hv
  obtain ⟨rfl, hsz, hP, hKK⟩ := hv
  have hts := atoms_spec (ws := tn_ws z) B.pre
  subst hsz
  have hD := hP.2.1.self (sz := s.heap.size)
  have hb := body ((p, l, e, z.2.2.2.2, s, m, (As.map (tn_v g)).toArray, below, meth, c, MQ below (tn_Qc D cA (va_A (tn_C cA g ks ρ σ) s.heap.size) g ks.length K) (As.map (tn_v g)).toArray s z.2.2.2.2.cells z.2.2.2.2.slots (va_A (tn_C cA g ks ρ σ) s.heap.size)), D, cA, va_A (tn_C cA g ks ρ σ) s.heap.size, s.heap, g, ks.length)
    ⟨B.exec, B.bytes, hml, findClass_of_methodNamed B.named, fun w hw => hts w (List.mem_cons_of_mem _ hw), hKK, rfl, B.returns, B.notSynchronized, (name_of_methodNamed B.named B.method).1, fun q h => Or.inr h⟩ ⟨rfl, rfl⟩
  rw [lg_entry_eq]
  have hle := tn_sl_len (g := g) As
  have hl := lv_entry (As.map (tn_v g)) (n := z.2.2.1) (by rw [hle]; exact hlen)
  refine hb g s.heap [] _ ⟨hP.1, hD, hP.2.2⟩ va_S.rf ?_ ?_ (fun v hv => by cases hv) (fun _ _ => rfl) (Nat.le_refl _)
  · rw [hml]
    refine ⟨hl.1, hl.2.1, fun i v hi hn => ?_⟩
    unfold tn_ini at hi
    simp only at hi
    by_cases hil : i < (As.flatMap (fun v => if v.category = 2 then [v, .null] else [v])).length
    · rw [List.getElem?_append_left hil] at hi
      exact hl.2.2 _ (tn_ini_mem As i 0 v hi hn)
    · rw [List.getElem?_append_right (by omega)] at hi
      exact absurd (List.eq_of_mem_replicate (List.mem_of_getElem? hi)) hn
  · intro v hv
    unfold tn_ini at hv
    simp only at hv
    rcases List.mem_append.mp hv with h | h
    · obtain ⟨w, hw, hv2⟩ := List.mem_flatMap.mp h
      split at hv2
      · rcases List.mem_cons.mp hv2 with h2 | h2
        · rw [h2]; exact hoA w hw
        · rw [List.mem_singleton.mp h2]; trivial
      · rw [List.mem_singleton.mp hv2]; exact hoA w hw
    · rw [List.eq_of_mem_replicate h]; trivial
end TC
end
section
/-! ===== more rules: arraycopy, the script, names for numbers and stores ===== -/
section TM
variable {Γ : tn_G} {z : tn_M} {pc : Nat} {loc st : List Value} {ca sl : Nat} {ks : List (Nat × Nat)} {ρ : Nat → Nat → Nat} {σ : Nat → Nat → Int32}
theorem tn_topi {x : Int32} (k : ∀ y : Int32, y = x → tn_A Γ pc loc (.int y :: st) ca sl ks ρ σ) : tn_A Γ pc loc (.int x :: st) ca sl ks ρ σ := k x rfl
theorem tn_topl {x : Int64} (k : ∀ y : Int64, y = x → tn_A Γ pc loc (.long y :: st) ca sl ks ρ σ) : tn_A Γ pc loc (.long x :: st) ca sl ks ρ σ := k x rfl
theorem tn_tops (k : ∀ τ : Nat → Nat → Int32, τ = σ → tn_A Γ pc loc st ca sl ks ρ τ) : tn_A Γ pc loc st ca sl ks ρ σ := k σ rfl
def tn_dr (loc : List Value) (mask : List Bool) : List Value := List.zipWith (fun v b => if b = true then v else .null) loc mask
theorem tn_drop (mask : List Bool) {loc' : List Value} (hl : tn_dr loc mask = loc') (k : tn_A Γ pc loc' st ca sl ks ρ σ) : tn_A Γ pc loc st ca sl ks ρ σ := by
  subst hl
  have key : ∀ (i : Nat) (v : Value), (tn_dr loc mask)[i]? = some v → v = .null ∨ loc[i]? = some v := by
    intro i v h
    unfold tn_dr at h
    rw [List.getElem?_zipWith] at h
    cases h1 : loc[i]? with
    | none => rw [h1] at h; simp at h
    | some a =>
      cases h2 : mask[i]? with
      | none => rw [h1, h2] at h; simp at h
      | some b =>
        rw [h1, h2] at h
        cases b with
        | false => left; simpa using h.symm
        | true => right; simpa using h
  obtain ⟨⟨p, l, e, R, s, m, args, below, meth, c, Q⟩, D, cA, A, H0, g0, n0⟩ := Γ
  intro g H locs ls hP hS hl ho1 ho2 hg hn
  refine k g H locs ls hP hS ⟨hl.1, hl.2.1, fun i v hi hne => ?_⟩ (fun v hv => ?_) ho2 hg hn
  · rcases key i v hi with h | h
    · exact absurd h hne
    · exact hl.2.2 i v h hne
  · obtain ⟨i, hi⟩ := List.getElem?_of_mem hv
    rcases key i v hi with h | h
    · rw [h]; trivial
    · exact ho1 v (List.mem_of_getElem? h)
theorem tn_iincw (hΓ : tn_is Γ z) {i : Nat} {n : Int} {x w : Int32} {loc' : Int32 → List Value} (hd : decode z.2.1 pc = .ok (.iinc i n, 3)) (hi : loc[i]? = some (.int x)) (hw : Int32.ofInt n = w) (hn' : i < z.2.2.1) (hp : tn_np loc i = true) (hl' : ∀ v, loc.set i (.int v) = loc' v) (k : ∀ v : Int32, v = x + w → tn_A Γ (pc + 3) (loc' v) st ca sl ks ρ σ) : tn_A Γ pc loc st ca sl ks ρ σ :=
  tn_iinc hΓ hd hi (by rw [hw]) hn' hp (hl' (x + w)) (k _ rfl)
theorem tn_getRy (hΓ : tn_is Γ z) {x idx i k n y : Nat} (hd : decode z.2.1 pc = .ok (.getfield idx, 3)) (hf : tn_FL z.1.cls idx i k) (hr : tn_isR i k = true) (hk : tn_kd ks x = some (i, n)) (hy : ρ x k = y) (kk : tn_A Γ (pc + 3) loc (.ref y :: st) ca sl ks ρ σ) : tn_A Γ pc loc (.ref x :: st) ca sl ks ρ σ := tn_getR hΓ hd hf hr hk (by rw [hy]; exact kk)
theorem tn_aaldy (hΓ : tn_is Γ z) {x n t y : Nat} {i : Int32} (hd : decode z.2.1 pc = .ok (.aaload, 1)) (ht : t < 3) (hk : tn_kd ks x = some (t + 8, n)) (hin : vp_in i n) (hy : ρ x i.toNatClampNeg = y) (kk : tn_A Γ (pc + 1) loc (.ref y :: st) ca sl ks ρ σ) : tn_A Γ pc loc (.int i :: .ref x :: st) ca sl ks ρ σ := tn_aald hΓ hd ht hk hin (by rw [hy]; exact kk)
def tn_cx (i : Nat) (C : String) : Prop := ∃ T, tn_cl[i]? = some (C, T, tn_N i)
/-- a call that makes nothing -/
def tn_Cr (y : tn_M) (As : List Value) (ks : List (Nat × Nat)) (ρ : Nat → Nat → Nat) (σ : Nat → Nat → Int32) (K : Option Value → (Nat → Nat → Int32) → Prop) : Prop := tn_Call y As ks ρ σ (fun v ks' ρ' σ' => ks' = ks ∧ ρ' = ρ ∧ K v σ')
def tn_CI (y : tn_M) (As : List Value) (ks : List (Nat × Nat)) (ρ : Nat → Nat → Nat) (σ : Nat → Nat → Int32) (K : Int32 → (Nat → Nat → Int32) → Prop) : Prop := tn_Cr y As ks ρ σ (fun v σ' => ∃ r, v = some (.int r) ∧ K r σ')
def tn_CL (y : tn_M) (As : List Value) (ks : List (Nat × Nat)) (ρ : Nat → Nat → Nat) (σ : Nat → Nat → Int32) (K : Int64 → (Nat → Nat → Int32) → Prop) : Prop := tn_Cr y As ks ρ σ (fun v σ' => ∃ r, v = some (.long r) ∧ K r σ')
def tn_CV (y : tn_M) (As : List Value) (ks : List (Nat × Nat)) (ρ : Nat → Nat → Nat) (σ : Nat → Nat → Int32) (K : (Nat → Nat → Int32) → Prop) : Prop := tn_Cr y As ks ρ σ (fun v σ' => v = none ∧ K σ')
variable {y : tn_M} {As : List Value}
theorem tn_cvI (hΓ : tn_is Γ z) {idx n x i n' : Nat} (hd : decode z.2.1 pc = .ok (.invokevirtual idx, 3)) (hy : tn_MV y n) (hin : Cond.instanceMethod y.1 ∈ tn_tbl) (hse : Cond.selects y.1.cls y.1 y.1 ∈ tn_tbl) (hlk0 : tn_ML z.1.cls idx y.1) (hrm : tn_RM z y ca sl) (hc0 : y.2.2.2.2.cells = 0) (hs0 : y.2.2.2.2.slots = 0) (hlen : As.length = n) (hi7 : i < 7) (hci : tn_cx i y.1.cls) (hk : tn_kd ks x = some (i, n')) (h8 : (st.map fun v => v.category).sum ≤ 8) {st0 : List Value} (hst0 : As.reverse ++ .ref x :: st = st0) {K : Int32 → (Nat → Nat → Int32) → Prop} (h : tn_CI y (.ref x :: As) ks ρ σ K) (kk : ∀ (r : Int32) (σ' : Nat → Nat → Int32), K r σ' → tn_A Γ (pc + 3) loc (.int r :: st) ca sl ks ρ σ') : tn_A Γ pc loc st0 ca sl ks ρ σ := by
  subst hst0
  refine tn_cv hΓ hd hy hin hse hlk0 hrm hlen hi7 hci hk h8 h (fun v ks' ρ' σ' hq => ?_)
  obtain ⟨rfl, rfl, r, rfl, hq⟩ := hq
  rw [hc0, hs0]
  exact kk r σ' hq
theorem tn_cvL (hΓ : tn_is Γ z) {idx n x i n' : Nat} (hd : decode z.2.1 pc = .ok (.invokevirtual idx, 3)) (hy : tn_MV y n) (hin : Cond.instanceMethod y.1 ∈ tn_tbl) (hse : Cond.selects y.1.cls y.1 y.1 ∈ tn_tbl) (hlk0 : tn_ML z.1.cls idx y.1) (hrm : tn_RM z y ca sl) (hc0 : y.2.2.2.2.cells = 0) (hs0 : y.2.2.2.2.slots = 0) (hlen : As.length = n) (hi7 : i < 7) (hci : tn_cx i y.1.cls) (hk : tn_kd ks x = some (i, n')) (h8 : (st.map fun v => v.category).sum ≤ 8) {st0 : List Value} (hst0 : As.reverse ++ .ref x :: st = st0) {K : Int64 → (Nat → Nat → Int32) → Prop} (h : tn_CL y (.ref x :: As) ks ρ σ K) (kk : ∀ (r : Int64) (σ' : Nat → Nat → Int32), K r σ' → tn_A Γ (pc + 3) loc (.long r :: st) ca sl ks ρ σ') : tn_A Γ pc loc st0 ca sl ks ρ σ := by
  subst hst0
  refine tn_cv hΓ hd hy hin hse hlk0 hrm hlen hi7 hci hk h8 h (fun v ks' ρ' σ' hq => ?_)
  obtain ⟨rfl, rfl, r, rfl, hq⟩ := hq
  rw [hc0, hs0]
  exact kk r σ' hq
theorem tn_cvV (hΓ : tn_is Γ z) {idx n x i n' : Nat} (hd : decode z.2.1 pc = .ok (.invokevirtual idx, 3)) (hy : tn_MV y n) (hin : Cond.instanceMethod y.1 ∈ tn_tbl) (hse : Cond.selects y.1.cls y.1 y.1 ∈ tn_tbl) (hlk0 : tn_ML z.1.cls idx y.1) (hrm : tn_RM z y ca sl) (hc0 : y.2.2.2.2.cells = 0) (hs0 : y.2.2.2.2.slots = 0) (hlen : As.length = n) (hi7 : i < 7) (hci : tn_cx i y.1.cls) (hk : tn_kd ks x = some (i, n')) (h8 : (st.map fun v => v.category).sum ≤ 8) {st0 : List Value} (hst0 : As.reverse ++ .ref x :: st = st0) {K : (Nat → Nat → Int32) → Prop} (h : tn_CV y (.ref x :: As) ks ρ σ K) (kk : ∀ (σ' : Nat → Nat → Int32), K σ' → tn_A Γ (pc + 3) loc st ca sl ks ρ σ') : tn_A Γ pc loc st0 ca sl ks ρ σ := by
  subst hst0
  refine tn_cv hΓ hd hy hin hse hlk0 hrm hlen hi7 hci hk h8 h (fun v ks' ρ' σ' hq => ?_)
  obtain ⟨rfl, rfl, rfl, hq⟩ := hq
  rw [hc0, hs0]
  exact kk σ' hq
theorem tn_csI (hΓ : tn_is Γ z) {idx n : Nat} (hd : decode z.2.1 pc = .ok (.invokestatic idx, 3)) (hy : tn_MV y n) (hst : Cond.static y.1 ∈ tn_tbl) (hlk0 : tn_ML z.1.cls idx y.1) (hrm : tn_RM z y ca sl) (hc0 : y.2.2.2.2.cells = 0) (hs0 : y.2.2.2.2.slots = 0) (hlen : As.length = n) (h8 : (st.map fun v => v.category).sum ≤ 8) {st0 : List Value} (hst0 : As.reverse ++ st = st0) {K : Int32 → (Nat → Nat → Int32) → Prop} (h : tn_CI y As ks ρ σ K) (kk : ∀ (r : Int32) (σ' : Nat → Nat → Int32), K r σ' → tn_A Γ (pc + 3) loc (.int r :: st) ca sl ks ρ σ') : tn_A Γ pc loc st0 ca sl ks ρ σ := by
  subst hst0
  refine tn_cs hΓ hd hy hst hlk0 hrm hlen h8 h (fun v ks' ρ' σ' hq => ?_)
  obtain ⟨rfl, rfl, r, rfl, hq⟩ := hq
  rw [hc0, hs0]
  exact kk r σ' hq
theorem tn_csL (hΓ : tn_is Γ z) {idx n : Nat} (hd : decode z.2.1 pc = .ok (.invokestatic idx, 3)) (hy : tn_MV y n) (hst : Cond.static y.1 ∈ tn_tbl) (hlk0 : tn_ML z.1.cls idx y.1) (hrm : tn_RM z y ca sl) (hc0 : y.2.2.2.2.cells = 0) (hs0 : y.2.2.2.2.slots = 0) (hlen : As.length = n) (h8 : (st.map fun v => v.category).sum ≤ 8) {st0 : List Value} (hst0 : As.reverse ++ st = st0) {K : Int64 → (Nat → Nat → Int32) → Prop} (h : tn_CL y As ks ρ σ K) (kk : ∀ (r : Int64) (σ' : Nat → Nat → Int32), K r σ' → tn_A Γ (pc + 3) loc (.long r :: st) ca sl ks ρ σ') : tn_A Γ pc loc st0 ca sl ks ρ σ := by
  subst hst0
  refine tn_cs hΓ hd hy hst hlk0 hrm hlen h8 h (fun v ks' ρ' σ' hq => ?_)
  obtain ⟨rfl, rfl, r, rfl, hq⟩ := hq
  rw [hc0, hs0]
  exact kk r σ' hq
/-- System.arraycopy of ints -/
theorem tn_acopy (hΓ : tn_is Γ z) {idx x y n0 n1 : Nat} {sp dp n : Int32} (hd : decode z.2.1 pc = .ok (.invokestatic idx, 3)) (hlink : Cond.methodLink z.1.cls idx arraycopyName ∈ tn_tbl) (hnat : Cond.native arraycopyName ∈ tn_tbl) (hstat : Cond.static arraycopyName ∈ tn_tbl) (hini : Cond.initialized "java/lang/System" ∈ tn_tbl) (hfr : 1 ≤ z.2.2.2.2.frames) (hlo : (st.map fun v => v.category).sum + (nativeFrameWords "java/lang/System" "arraycopy" 5 + 11) ≤ z.2.2.2.2.locals)
    (hkx : tn_kd ks x = some (7, n0)) (hky : tn_kd ks y = some (7, n1)) (h1 : ¬ sp < 0) (h2 : ¬ dp < 0) (h3 : ¬ n < 0) (h4 : sp.toNatClampNeg + n.toNatClampNeg ≤ n0) (h5 : dp.toNatClampNeg + n.toNatClampNeg ≤ n1)
    (kk : tn_A Γ (pc + 3) loc st ca sl ks ρ (fun c' => if c' = y then va_cpy (σ x) (σ y) sp.toNatClampNeg dp.toNatClampNeg n.toNatClampNeg else σ c')) : tn_A Γ pc loc (.int n :: .int dp :: .ref y :: .int sp :: .ref x :: st) ca sl ks ρ σ := by
  obtain ⟨⟨p, l, e, R, s, m, args, below, meth, c, Q⟩, D, cA, A, H0, g0, n0'⟩ := Γ
  obtain ⟨hx, hb, hml, hown, hts, hK, hR, hrt, hlk, hnm, hA⟩ := hΓ
  intro g H locs ls hP hS hl ho1 ho2 hg hn
  have hx2 := (tn_kd2 hkx).1
  have hy2 := (tn_kd2 hky).1
  have hex := tn_at (cA := cA) (g := g) (ρ := ρ) (σ := σ) hkx
  have hex : (tn_C cA g ks ρ σ)[x - 2]? = some (g x, .inl (cA 0, n0, .inl (σ x))) := by rw [hex]; simp [tn_e]
  have hey := tn_at (cA := cA) (g := g) (ρ := ρ) (σ := σ) hky
  have hey : (tn_C cA g ks ρ σ)[y - 2]? = some (g y, .inl (cA 0, n1, .inl (σ y))) := by rw [hey]; simp [tn_e]
  have hset := tn_C_setA (cA := cA) (g := g) (ρ := ρ) (σ := σ) (f := va_cpy (σ x) (σ y) sp.toNatClampNeg dp.toNatClampNeg n.toNatClampNeg) hky
  show W p l e R s m args below meth c H locs ca sl Q (F0 m pc ls (.int n :: .int dp :: va_rf (tn_gr g y) :: .int sp :: va_rf (tn_gr g x) :: st.map (tn_v g)))
  rw [tn_gr2 (c := x) (by omega), tn_gr2 (c := y) (by omega)]
  refine va_copyi (ty := .int) hx hb hl.1.symm hown (hts _ hlink) (hts _ hnat) (hts _ hstat) (hts _ hini) hK.1 hP.1 hP.2.1 hS (x - 2) (y - 2) 0 0 hex hey rfl rfl rfl h1 h2 h3 h4 h5 (fun i hi => rfl) (by rw [hR]; exact hfr) (by rw [tn_cats, hR]; exact hlo) hd (fun H1 locs1 q1 q2 q3 => ?_)
  rw [hset] at q1 q2
  exact kk g H1 locs1 ls ⟨q1, q2, hP.2.2⟩ q3 hl ho1 ho2.tl.tl.tl.tl.tl hg hn
/-- the law's own script, by the code 1 -/
def tn_sc (Γ : tn_G) (b L : Nat) (xs : Nat → Int32) : Prop := match Γ with
  | ⟨⟨_, _, _, _, s, _, _, _, _, _, _⟩, _, _, A, H0, g0, _⟩ => va_X b L xs s H0 ∧ b < H0.size ∧ ¬ A b ∧ g0 1 = b
theorem tn_sld (hΓ : tn_is Γ z) {b L : Nat} {xs : Nat → Int32} (hX : tn_sc Γ b L xs) {i : Int32} (hd : decode z.2.1 pc = .ok (.iaload, 1)) (hin : vp_in i L) (kk : tn_A Γ (pc + 1) loc (.int (xs i.toNatClampNeg) :: st) ca sl ks ρ σ) : tn_A Γ pc loc (.int i :: .ref 1 :: st) ca sl ks ρ σ := by
  obtain ⟨⟨p, l, e, R, s, m, args, below, meth, c, Q⟩, D, cA, A, H0, g0, n0⟩ := Γ
  obtain ⟨hx, hb, hml, hown, hts, hK, hR, hrt, hlk, hnm, hA⟩ := hΓ
  obtain ⟨hX, hbl, hbA, hg0⟩ := hX
  intro g H locs ls hP hS hl ho1 ho2 hg hn
  have h1 := kk g H locs ls hP hS hl ho1 (tn_okL.cons trivial ho2.tl.tl) hg hn
  have h2 : tn_gr g 1 = some b := by rw [tn_gr2 (by omega), hg 1 (by omega), hg0]
  show W p l e R s m args below meth c H locs ca sl Q (F0 m pc ls (.int i :: va_rf (tn_gr g 1) :: st.map (tn_v g)))
  rw [h2]
  exact va_sld hx hb hX hbl hbA hS hin hd h1
theorem tn_slen (hΓ : tn_is Γ z) {b L : Nat} {xs : Nat → Int32} (hX : tn_sc Γ b L xs) (hd : decode z.2.1 pc = .ok (.arraylength, 1)) (kk : tn_A Γ (pc + 1) loc (.int (nI L) :: st) ca sl ks ρ σ) : tn_A Γ pc loc (.ref 1 :: st) ca sl ks ρ σ := by
  obtain ⟨⟨p, l, e, R, s, m, args, below, meth, c, Q⟩, D, cA, A, H0, g0, n0⟩ := Γ
  obtain ⟨hx, hb, hml, hown, hts, hK, hR, hrt, hlk, hnm, hA⟩ := hΓ
  obtain ⟨hX, hbl, hbA, hg0⟩ := hX
  intro g H locs ls hP hS hl ho1 ho2 hg hn
  have h1 := kk g H locs ls hP hS hl ho1 (tn_okL.cons trivial ho2.tl) hg hn
  have h2 : tn_gr g 1 = some b := by rw [tn_gr2 (by omega), hg 1 (by omega), hg0]
  show W p l e R s m args below meth c H locs ca sl Q (F0 m pc ls (va_rf (tn_gr g 1) :: st.map (tn_v g)))
  rw [h2]
  exact va_slen hx hb hX hbl hbA hS hd h1
end TM
/-! ===== the cells of a run: the class's, the model's ===== -/
def tn_k0 : List (Nat × Nat) := [(5, 0), (1, 0), (8, 5), (9, 4), (0, 0), (0, 0), (0, 0), (0, 0), (0, 0), (3, 0), (3, 0), (3, 0), (3, 0), (1, 0), (8, 5), (9, 4), (0, 0), (0, 0), (0, 0), (0, 0), (0, 0), (3, 0), (3, 0), (3, 0), (3, 0), (10, 4), (7, 8), (7, 8), (7, 4), (2, 0), (7, 60), (2, 0), (7, 60), (2, 0), (7, 60), (2, 0), (7, 60),
  (6, 0), (7, 4), (7, 4), (7, 240), (7, 5), (7, 5), (7, 5), (7, 5), (7, 4), (7, 15), (7, 4), (7, 30), (7, 8), (7, 8), (7, 8)]
def tn_r00 : List (List Nat) := [[], [], [3, 15, 27, 28, 29, 30], [4, 5], [6, 7, 8, 9, 10], [11, 12, 13, 14], [], [], [], [], [], [], [], [], [], [16, 17], [18, 19, 20, 21, 22], [23, 24, 25, 26], [], [], [], [], [], [], [], [], [], [31, 33, 35, 37], [], [], [], [32], [], [34], [], [36], [], [38], [],
  [0, 0, 40, 41, 42, 0, 0, 0, 0, 0, 0, 0, 0, 43, 44, 45, 46, 47, 0, 0, 0, 0, 48, 49, 50, 51, 0, 52, 53]]
def tn_r0 (c k : Nat) : Nat := (tn_r00.getD c []).getD k 0
def tn_Gd (ks : List (Nat × Nat)) (ρ : Nat → Nat → Nat) : Prop := (∃ tl, ks = tn_k0 ++ tl) ∧ ∀ c, c < 54 → ∀ k, ρ c k = tn_r0 c k
theorem gd_k {ks : List (Nat × Nat)} {ρ : Nat → Nat → Nat} (h : tn_Gd ks ρ) {c : Nat} {kk : Nat × Nat} (hc : tn_kd tn_k0 c = some kk) : tn_kd ks c = some kk := by
  obtain ⟨⟨tl, rfl⟩, -⟩ := h
  obtain ⟨h1, h2, -⟩ := tn_kd2 hc
  unfold tn_kd
  rw [if_neg (by omega), List.getElem?_append_left (List.getElem?_eq_some_iff.mp h2).1]
  exact h2
theorem gd_r {ks : List (Nat × Nat)} {ρ : Nat → Nat → Nat} (h : tn_Gd ks ρ) (c k y : Nat) (h1 : Nat.blt c 54 = true) (h2 : tn_r0 c k = y) : ρ c k = y := by
  rw [h.2 c (Nat.le_of_ble_eq_true h1) k]
  exact h2
/-- a parish: now, or the trial -/
def tn_Pb (b : Nat) : Prop := b = 3 ∨ b = 15
theorem gp_k {ks : List (Nat × Nat)} {ρ : Nat → Nat → Nat} (h : tn_Gd ks ρ) {b : Nat} (hb : tn_Pb b) : tn_kd ks b = some (1, 0) := by
  rcases hb with rfl | rfl <;> exact gd_k h rfl
theorem gp_h {ks : List (Nat × Nat)} {ρ : Nat → Nat → Nat} (h : tn_Gd ks ρ) {b : Nat} (hb : tn_Pb b) : ρ b 0 = b + 1 := by
  rcases hb with rfl | rfl <;> exact gd_r h _ _ _ rfl rfl
theorem gp_s {ks : List (Nat × Nat)} {ρ : Nat → Nat → Nat} (h : tn_Gd ks ρ) {b : Nat} (hb : tn_Pb b) : ρ b 1 = b + 2 := by
  rcases hb with rfl | rfl <;> exact gd_r h _ _ _ rfl rfl
theorem gp_kh {ks : List (Nat × Nat)} {ρ : Nat → Nat → Nat} (h : tn_Gd ks ρ) {b : Nat} (hb : tn_Pb b) : tn_kd ks (b + 1) = some (0 + 8, 5) := by
  rcases hb with rfl | rfl <;> exact gd_k h rfl
theorem gp_ks {ks : List (Nat × Nat)} {ρ : Nat → Nat → Nat} (h : tn_Gd ks ρ) {b : Nat} (hb : tn_Pb b) : tn_kd ks (b + 2) = some (1 + 8, 4) := by
  rcases hb with rfl | rfl <;> exact gd_k h rfl
theorem tn_inN {i : Int32} {n : Nat} (h : vp_in i n) : i.toNatClampNeg < n := Nat.not_le.mp fun q => h (Or.inr q)
theorem gp_H {ks : List (Nat × Nat)} {ρ : Nat → Nat → Nat} (h : tn_Gd ks ρ) {b : Nat} (hb : tn_Pb b) {i : Int32} (hi : vp_in i 5) : ρ (b + 1) i.toNatClampNeg = b + 3 + i.toNatClampNeg := by
  have h1 := tn_inN hi
  generalize i.toNatClampNeg = j at h1 ⊢
  have h2 : j = 0 ∨ j = 1 ∨ j = 2 ∨ j = 3 ∨ j = 4 := by omega
  rcases hb with rfl | rfl <;> rcases h2 with rfl | rfl | rfl | rfl | rfl <;> exact gd_r h _ _ _ rfl rfl
theorem gp_kH {ks : List (Nat × Nat)} {ρ : Nat → Nat → Nat} (h : tn_Gd ks ρ) {b : Nat} (hb : tn_Pb b) {j : Nat} (h1 : j < 5) : tn_kd ks (b + 3 + j) = some (0, 0) := by
  have h2 : j = 0 ∨ j = 1 ∨ j = 2 ∨ j = 3 ∨ j = 4 := by omega
  rcases hb with rfl | rfl <;> rcases h2 with rfl | rfl | rfl | rfl | rfl <;> exact gd_k h rfl
theorem gp_S {ks : List (Nat × Nat)} {ρ : Nat → Nat → Nat} (h : tn_Gd ks ρ) {b : Nat} (hb : tn_Pb b) {i : Int32} (hi : vp_in i 4) : ρ (b + 2) i.toNatClampNeg = b + 8 + i.toNatClampNeg := by
  have h1 := tn_inN hi
  generalize i.toNatClampNeg = j at h1 ⊢
  have h2 : j = 0 ∨ j = 1 ∨ j = 2 ∨ j = 3 := by omega
  rcases hb with rfl | rfl <;> rcases h2 with rfl | rfl | rfl | rfl <;> exact gd_r h _ _ _ rfl rfl
theorem gp_kS {ks : List (Nat × Nat)} {ρ : Nat → Nat → Nat} (h : tn_Gd ks ρ) {b : Nat} (hb : tn_Pb b) {j : Nat} (h1 : j < 4) : tn_kd ks (b + 8 + j) = some (3, 0) := by
  have h2 : j = 0 ∨ j = 1 ∨ j = 2 ∨ j = 3 := by omega
  rcases hb with rfl | rfl <;> rcases h2 with rfl | rfl | rfl | rfl <;> exact gd_k h rfl
/-- a sheet -/
def tn_Sb (c : Nat) : Prop := c = 31 ∨ c = 33 ∨ c = 35 ∨ c = 37
theorem gs_k {ks : List (Nat × Nat)} {ρ : Nat → Nat → Nat} (h : tn_Gd ks ρ) {c : Nat} (hc : tn_Sb c) : tn_kd ks c = some (2, 0) := by
  rcases hc with rfl | rfl | rfl | rfl <;> exact gd_k h rfl
theorem gs_c {ks : List (Nat × Nat)} {ρ : Nat → Nat → Nat} (h : tn_Gd ks ρ) {c : Nat} (hc : tn_Sb c) : ρ c 0 = c + 1 := by
  rcases hc with rfl | rfl | rfl | rfl <;> exact gd_r h _ _ _ rfl rfl
theorem gs_kc {ks : List (Nat × Nat)} {ρ : Nat → Nat → Nat} (h : tn_Gd ks ρ) {c : Nat} (hc : tn_Sb c) : tn_kd ks (c + 1) = some (7, 60) := by
  rcases hc with rfl | rfl | rfl | rfl <;> exact gd_k h rfl
theorem gs_S {ks : List (Nat × Nat)} {ρ : Nat → Nat → Nat} (h : tn_Gd ks ρ) {i : Int32} (hi : vp_in i 4) : ρ 27 i.toNatClampNeg = 31 + 2 * i.toNatClampNeg := by
  have h1 := tn_inN hi
  generalize i.toNatClampNeg = j at h1 ⊢
  have h2 : j = 0 ∨ j = 1 ∨ j = 2 ∨ j = 3 := by omega
  rcases h2 with rfl | rfl | rfl | rfl <;> exact gd_r h _ _ _ rfl rfl
theorem gs_b {j : Nat} (hi : j < 4) : tn_Sb (31 + 2 * j) := by
  unfold tn_Sb
  omega
end
section
def m_X0_init : tn_M := (⟨"ThunderOwned$House", "<init>", "()V"⟩, prog_2_method_1_code, 1, none, { frames := 1, cells := 0, slots := 0, locals := 20 })
def m_X0_weight : tn_M := (⟨"ThunderOwned$House", "weight", "()I"⟩, prog_2_method_2_code, 1, some .int, { frames := 0, cells := 0, slots := 0, locals := 0 })
def m_X0_rankles : tn_M := (⟨"ThunderOwned$House", "rankles", "()Z"⟩, prog_2_method_3_code, 1, some .boolean, { frames := 1, cells := 0, slots := 0, locals := 20 })
def m_X0_ownUp : tn_M := (⟨"ThunderOwned$House", "ownUp", "()Z"⟩, prog_2_method_4_code, 1, some .boolean, { frames := 2, cells := 0, slots := 0, locals := 40 })
def m_X0_become : tn_M := (⟨"ThunderOwned$House", "become", "(LThunderOwned$House;)V"⟩, prog_2_method_5_code, 2, none, { frames := 0, cells := 0, slots := 0, locals := 0 })
def m_X1_init : tn_M := (⟨"ThunderOwned$Parish", "<init>", "()V"⟩, prog_3_method_1_code, 2, none, { frames := 2, cells := 11, slots := 42, locals := 40 })
def m_X1_hasHouse : tn_M := (⟨"ThunderOwned$Parish", "hasHouse", "(I)Z"⟩, prog_3_method_2_code, 2, some .boolean, { frames := 0, cells := 0, slots := 0, locals := 0 })
def m_X1_hasStone : tn_M := (⟨"ThunderOwned$Parish", "hasStone", "(I)Z"⟩, prog_3_method_3_code, 2, some .boolean, { frames := 0, cells := 0, slots := 0, locals := 0 })
def m_X1_empty : tn_M := (⟨"ThunderOwned$Parish", "empty", "()V"⟩, prog_3_method_4_code, 1, none, { frames := 0, cells := 0, slots := 0, locals := 0 })
def m_X1_addHouse : tn_M := (⟨"ThunderOwned$Parish", "addHouse", "(III)V"⟩, prog_3_method_5_code, 5, none, { frames := 0, cells := 0, slots := 0, locals := 0 })
def m_X1_addStone : tn_M := (⟨"ThunderOwned$Parish", "addStone", "(I)V"⟩, prog_3_method_6_code, 2, none, { frames := 0, cells := 0, slots := 0, locals := 0 })
def m_X1_become : tn_M := (⟨"ThunderOwned$Parish", "become", "(LThunderOwned$Parish;)V"⟩, prog_3_method_7_code, 3, none, { frames := 1, cells := 0, slots := 0, locals := 21 })
def m_X1_voice : tn_M := (⟨"ThunderOwned$Parish", "voice", "()I"⟩, prog_3_method_8_code, 3, some .int, { frames := 2, cells := 0, slots := 0, locals := 40 })
def m_X1_hatsLost : tn_M := (⟨"ThunderOwned$Parish", "hatsLost", "()I"⟩, prog_3_method_9_code, 3, some .int, { frames := 0, cells := 0, slots := 0, locals := 0 })
def m_X1_ranklingSet : tn_M := (⟨"ThunderOwned$Parish", "ranklingSet", "()I"⟩, prog_3_method_10_code, 3, some .int, { frames := 2, cells := 0, slots := 0, locals := 40 })
def m_X1_setCount : tn_M := (⟨"ThunderOwned$Parish", "setCount", "()I"⟩, prog_3_method_11_code, 1, some .int, { frames := 0, cells := 0, slots := 0, locals := 0 })
def m_X1_doesSetRankle : tn_M := (⟨"ThunderOwned$Parish", "doesSetRankle", "(I)Z"⟩, prog_3_method_12_code, 2, some .boolean, { frames := 3, cells := 0, slots := 0, locals := 62 })
def m_X1_weightOfSet : tn_M := (⟨"ThunderOwned$Parish", "weightOfSet", "(I)I"⟩, prog_3_method_13_code, 4, some .int, { frames := 1, cells := 0, slots := 0, locals := 20 })
def m_X1_ownUpAll : tn_M := (⟨"ThunderOwned$Parish", "ownUpAll", "(I)V"⟩, prog_3_method_14_code, 3, none, { frames := 3, cells := 0, slots := 0, locals := 60 })
def m_X1_passNight : tn_M := (⟨"ThunderOwned$Parish", "passNight", "()V"⟩, prog_3_method_15_code, 1, none, { frames := 3, cells := 0, slots := 0, locals := 62 })
def m_X1_passNights : tn_M := (⟨"ThunderOwned$Parish", "passNights", "(I)V"⟩, prog_3_method_16_code, 3, none, { frames := 4, cells := 0, slots := 0, locals := 82 })
def m_X1_loseSleep : tn_M := (⟨"ThunderOwned$Parish", "loseSleep", "()V"⟩, prog_3_method_17_code, 2, none, { frames := 0, cells := 0, slots := 0, locals := 0 })
def m_X1_layHeaviestStone : tn_M := (⟨"ThunderOwned$Parish", "layHeaviestStone", "()V"⟩, prog_3_method_18_code, 4, none, { frames := 1, cells := 0, slots := 0, locals := 21 })
def m_X1_nightsUntilQuiet : tn_M := (⟨"ThunderOwned$Parish", "nightsUntilQuiet", "(I)I"⟩, prog_3_method_19_code, 4, some .int, { frames := 4, cells := 0, slots := 0, locals := 82 })
def m_X1_acts : tn_M := (⟨"ThunderOwned$Parish", "acts", "(I)Z"⟩, prog_3_method_20_code, 2, some .boolean, { frames := 4, cells := 0, slots := 0, locals := 82 })
def m_X1_ownsAsAct : tn_M := (⟨"ThunderOwned$Parish", "ownsAsAct", "(I)Z"⟩, prog_3_method_21_code, 2, some .boolean, { frames := 3, cells := 0, slots := 0, locals := 60 })
def m_X1_sleepsAsAct : tn_M := (⟨"ThunderOwned$Parish", "sleepsAsAct", "(I)Z"⟩, prog_3_method_22_code, 2, some .boolean, { frames := 1, cells := 0, slots := 0, locals := 21 })
def m_X1_isLaidAsAct : tn_M := (⟨"ThunderOwned$Parish", "isLaidAsAct", "(I)Z"⟩, prog_3_method_23_code, 2, some .boolean, { frames := 1, cells := 0, slots := 0, locals := 21 })
def m_X2_init : tn_M := (⟨"ThunderOwned$Sheet", "<init>", "()V"⟩, prog_4_method_1_code, 1, none, { frames := 1, cells := 1, slots := 60, locals := 20 })
def m_X2_renew : tn_M := (⟨"ThunderOwned$Sheet", "renew", "(II)V"⟩, prog_4_method_2_code, 4, none, { frames := 0, cells := 0, slots := 0, locals := 0 })
def m_X2_hasCells : tn_M := (⟨"ThunderOwned$Sheet", "hasCells", "(II)Z"⟩, prog_4_method_3_code, 3, some .boolean, { frames := 0, cells := 0, slots := 0, locals := 0 })
def m_X2_cutToLane : tn_M := (⟨"ThunderOwned$Sheet", "cutToLane", "(I)I"⟩, prog_4_method_4_code, 2, some .int, { frames := 0, cells := 0, slots := 0, locals := 0 })
def m_X3_init : tn_M := (⟨"ThunderOwned$Stone", "<init>", "()V"⟩, prog_5_method_1_code, 1, none, { frames := 1, cells := 0, slots := 0, locals := 20 })
def m_X3_become : tn_M := (⟨"ThunderOwned$Stone", "become", "(LThunderOwned$Stone;)V"⟩, prog_5_method_2_code, 2, none, { frames := 0, cells := 0, slots := 0, locals := 0 })
def m_X4_init : tn_M := (⟨"ThunderOwned$TextReader", "<init>", "(LThunderOwned$Parish;)V"⟩, prog_6_method_1_code, 2, none, { frames := 1, cells := 0, slots := 0, locals := 20 })
def m_X4_mayEnd : tn_M := (⟨"ThunderOwned$TextReader", "mayEnd", "()Z"⟩, prog_6_method_2_code, 1, some .boolean, { frames := 0, cells := 0, slots := 0, locals := 0 })
def m_X4_takes : tn_M := (⟨"ThunderOwned$TextReader", "takes", "(I)Z"⟩, prog_6_method_3_code, 2, some .boolean, { frames := 2, cells := 0, slots := 0, locals := 45 })
def m_X4_goesOn : tn_M := (⟨"ThunderOwned$TextReader", "goesOn", "(ZI)Z"⟩, prog_6_method_4_code, 3, some .boolean, { frames := 0, cells := 0, slots := 0, locals := 0 })
def m_X4_kindOfLetter : tn_M := (⟨"ThunderOwned$TextReader", "kindOfLetter", "(I)I"⟩, prog_6_method_5_code, 1, some .int, { frames := 0, cells := 0, slots := 0, locals := 0 })
def m_X4_takesSleep : tn_M := (⟨"ThunderOwned$TextReader", "takesSleep", "(I)Z"⟩, prog_6_method_6_code, 2, some .boolean, { frames := 1, cells := 0, slots := 0, locals := 24 })
def m_X4_takesAfterHouse : tn_M := (⟨"ThunderOwned$TextReader", "takesAfterHouse", "(I)Z"⟩, prog_6_method_7_code, 2, some .boolean, { frames := 1, cells := 0, slots := 0, locals := 22 })
def m_X4_takesStone : tn_M := (⟨"ThunderOwned$TextReader", "takesStone", "(I)Z"⟩, prog_6_method_8_code, 2, some .boolean, { frames := 1, cells := 0, slots := 0, locals := 22 })
def m_X5_init : tn_M := (⟨"ThunderOwned", "<init>", "()V"⟩, prog_1_method_1_code, 2, none, { frames := 3, cells := 36, slots := 376, locals := 61 })
def m_X5_parish : tn_M := (⟨"ThunderOwned", "parish", "(IIII)I"⟩, prog_1_method_2_code, 8, some .int, { frames := 4, cells := 1, slots := 4, locals := 91 })
def m_X5_ofHouse : tn_M := (⟨"ThunderOwned", "ofHouse", "(II)I"⟩, prog_1_method_3_code, 4, some .int, { frames := 2, cells := 0, slots := 0, locals := 40 })
def m_X5_ofStone : tn_M := (⟨"ThunderOwned", "ofStone", "(II)I"⟩, prog_1_method_4_code, 4, some .int, { frames := 1, cells := 0, slots := 0, locals := 21 })
def m_X5_sleep : tn_M := (⟨"ThunderOwned", "sleep", "(II)I"⟩, prog_1_method_5_code, 5, some .int, { frames := 1, cells := 0, slots := 0, locals := 22 })
def m_X5_own : tn_M := (⟨"ThunderOwned", "own", "(I)I"⟩, prog_1_method_6_code, 2, some .int, { frames := 3, cells := 0, slots := 0, locals := 60 })
def m_X5_lay : tn_M := (⟨"ThunderOwned", "lay", "(I)I"⟩, prog_1_method_7_code, 3, some .int, { frames := 3, cells := 0, slots := 0, locals := 62 })
def m_X5_night : tn_M := (⟨"ThunderOwned", "night", "(I)I"⟩, prog_1_method_8_code, 2, some .int, { frames := 5, cells := 0, slots := 0, locals := 104 })
def m_X5_day : tn_M := (⟨"ThunderOwned", "day", "(IIIII)I"⟩, prog_1_method_9_code, 9, some .int, { frames := 6, cells := 0, slots := 0, locals := 127 })
def m_X5_behind : tn_M := (⟨"ThunderOwned", "behind", "(II)I"⟩, prog_1_method_10_code, 3, some .int, { frames := 5, cells := 0, slots := 0, locals := 104 })
def m_X5_quiet : tn_M := (⟨"ThunderOwned", "quiet", "()I"⟩, prog_1_method_11_code, 1, some .int, { frames := 5, cells := 0, slots := 0, locals := 105 })
def m_X5_fewest : tn_M := (⟨"ThunderOwned", "fewest", "(II)I"⟩, prog_1_method_12_code, 7, some .int, { frames := 6, cells := 0, slots := 0, locals := 127 })
def m_X5_claps : tn_M := (⟨"ThunderOwned", "claps", "(II)I"⟩, prog_1_method_13_code, 6, some .int, { frames := 4, cells := 0, slots := 0, locals := 83 })
def m_X5_rests : tn_M := (⟨"ThunderOwned", "rests", "(II)I"⟩, prog_1_method_14_code, 5, some .int, { frames := 6, cells := 0, slots := 0, locals := 129 })
def m_X5_reading : tn_M := (⟨"ThunderOwned", "reading", "(II)I"⟩, prog_1_method_15_code, 3, some .int, { frames := 1, cells := 0, slots := 0, locals := 22 })
def m_X5_back : tn_M := (⟨"ThunderOwned", "back", "(I)I"⟩, prog_1_method_16_code, 2, some .int, { frames := 1, cells := 0, slots := 0, locals := 22 })
def m_X5_kinds : tn_M := (⟨"ThunderOwned", "kinds", "(I)I"⟩, prog_1_method_17_code, 4, some .int, { frames := 5, cells := 0, slots := 0, locals := 104 })
def m_X5_wrongs : tn_M := (⟨"ThunderOwned", "wrongs", "(I)I"⟩, prog_1_method_18_code, 4, some .int, { frames := 5, cells := 0, slots := 0, locals := 104 })
def m_X5_steps : tn_M := (⟨"ThunderOwned", "steps", "()I"⟩, prog_1_method_19_code, 3, some .int, { frames := 5, cells := 0, slots := 0, locals := 104 })
def m_X5_odds : tn_M := (⟨"ThunderOwned", "odds", "(II)J"⟩, prog_1_method_20_code, 6, some .long, { frames := 4, cells := 0, slots := 0, locals := 83 })
def m_X5_sheet : tn_M := (⟨"ThunderOwned", "sheet", "(III)I"⟩, prog_1_method_21_code, 4, some .int, { frames := 2, cells := 0, slots := 0, locals := 42 })
def m_X5_lose : tn_M := (⟨"ThunderOwned", "lose", "(I)I"⟩, prog_1_method_22_code, 3, some .int, { frames := 2, cells := 0, slots := 0, locals := 42 })
def m_X5_put : tn_M := (⟨"ThunderOwned", "put", "(III)I"⟩, prog_1_method_23_code, 5, some .int, { frames := 2, cells := 0, slots := 0, locals := 42 })
def m_X5_cell : tn_M := (⟨"ThunderOwned", "cell", "(III)J"⟩, prog_1_method_24_code, 6, some .long, { frames := 2, cells := 0, slots := 0, locals := 45 })
def m_X5_copy : tn_M := (⟨"ThunderOwned", "copy", "(IIIII)I"⟩, prog_1_method_25_code, 8, some .int, { frames := 2, cells := 0, slots := 0, locals := 42 })
def m_X5_tell : tn_M := (⟨"ThunderOwned", "tell", "(I)I"⟩, prog_1_method_26_code, 3, some .int, { frames := 4, cells := 0, slots := 0, locals := 85 })
def m_X5_knock : tn_M := (⟨"ThunderOwned", "knock", "(I)I"⟩, prog_1_method_27_code, 3, some .int, { frames := 2, cells := 0, slots := 0, locals := 42 })
def m_X5_as : tn_M := (⟨"ThunderOwned", "as", "(II)I"⟩, prog_1_method_28_code, 3, some .int, { frames := 1, cells := 0, slots := 0, locals := 22 })
def m_X5_trace : tn_M := (⟨"ThunderOwned", "trace", "()I"⟩, prog_1_method_29_code, 1, some .int, { frames := 0, cells := 0, slots := 0, locals := 0 })
def m_X5_fault : tn_M := (⟨"ThunderOwned", "fault", "()I"⟩, prog_1_method_30_code, 1, some .int, { frames := 0, cells := 0, slots := 0, locals := 0 })
def m_X5_many : tn_M := (⟨"ThunderOwned", "many", "(I)I"⟩, prog_1_method_31_code, 2, some .int, { frames := 3, cells := 0, slots := 0, locals := 62 })
def m_X5_isWithin : tn_M := (⟨"ThunderOwned", "isWithin", "(III)Z"⟩, prog_1_method_32_code, 3, some .boolean, { frames := 0, cells := 0, slots := 0, locals := 0 })
def m_X5_isSheet : tn_M := (⟨"ThunderOwned", "isSheet", "(I)Z"⟩, prog_1_method_33_code, 1, some .boolean, { frames := 1, cells := 0, slots := 0, locals := 22 })
def m_X5_isLane : tn_M := (⟨"ThunderOwned", "isLane", "(I)Z"⟩, prog_1_method_34_code, 1, some .boolean, { frames := 1, cells := 0, slots := 0, locals := 22 })
def m_X5_isAskedOfDay : tn_M := (⟨"ThunderOwned", "isAskedOfDay", "(I)Z"⟩, prog_1_method_35_code, 1, some .boolean, { frames := 1, cells := 0, slots := 0, locals := 22 })
def m_X5_hasParish : tn_M := (⟨"ThunderOwned", "hasParish", "()Z"⟩, prog_1_method_36_code, 1, some .boolean, { frames := 0, cells := 0, slots := 0, locals := 0 })
def m_X5_faulted : tn_M := (⟨"ThunderOwned", "faulted", "(I)I"⟩, prog_1_method_37_code, 2, some .int, { frames := 0, cells := 0, slots := 0, locals := 0 })
def m_X5_faultOfCells : tn_M := (⟨"ThunderOwned", "faultOfCells", "(LThunderOwned$Sheet;III)I"⟩, prog_1_method_38_code, 4, some .int, { frames := 1, cells := 0, slots := 0, locals := 22 })
def m_X5_firstFaultOfText : tn_M := (⟨"ThunderOwned", "firstFaultOfText", "(LThunderOwned$Sheet;II)I"⟩, prog_1_method_39_code, 6, some .int, { frames := 3, cells := 1, slots := 4, locals := 66 })
def m_X5_areActs : tn_M := (⟨"ThunderOwned", "areActs", "(LThunderOwned$Sheet;II)Z"⟩, prog_1_method_40_code, 4, some .boolean, { frames := 1, cells := 0, slots := 0, locals := 22 })
def m_X5_firstWrongOfDay : tn_M := (⟨"ThunderOwned", "firstWrongOfDay", "(LThunderOwned$Sheet;II)I"⟩, prog_1_method_41_code, 5, some .int, { frames := 5, cells := 0, slots := 0, locals := 103 })
def m_X5_afterDay : tn_M := (⟨"ThunderOwned", "afterDay", "(I)I"⟩, prog_1_method_42_code, 3, some .int, { frames := 3, cells := 0, slots := 0, locals := 62 })
def m_X5_isQuietIfOwned : tn_M := (⟨"ThunderOwned", "isQuietIfOwned", "(II)Z"⟩, prog_1_method_43_code, 3, some .boolean, { frames := 5, cells := 0, slots := 0, locals := 105 })
def m_X5_nightsIfChosen : tn_M := (⟨"ThunderOwned", "nightsIfChosen", "(III)I"⟩, prog_1_method_44_code, 5, some .int, { frames := 5, cells := 0, slots := 0, locals := 105 })
def m_X5_isContent : tn_M := (⟨"ThunderOwned", "isContent", "(III)Z"⟩, prog_1_method_45_code, 4, some .boolean, { frames := 3, cells := 0, slots := 0, locals := 65 })
def m_X5_painOfChoice : tn_M := (⟨"ThunderOwned", "painOfChoice", "(III)I"⟩, prog_1_method_46_code, 6, some .int, { frames := 2, cells := 0, slots := 0, locals := 40 })
def m_X5_doReadingsHoldOfTrial : tn_M := (⟨"ThunderOwned", "doReadingsHoldOfTrial", "()Z"⟩, prog_1_method_47_code, 3, some .boolean, { frames := 4, cells := 0, slots := 0, locals := 82 })
def m_X5_lastNightRead : tn_M := (⟨"ThunderOwned", "lastNightRead", "()I"⟩, prog_1_method_48_code, 3, some .int, { frames := 1, cells := 0, slots := 0, locals := 21 })
def m_X5_isVoiceAsRead : tn_M := (⟨"ThunderOwned", "isVoiceAsRead", "(II)Z"⟩, prog_1_method_49_code, 4, some .boolean, { frames := 0, cells := 0, slots := 0, locals := 0 })
def m_X5_leaveInTrace : tn_M := (⟨"ThunderOwned", "leaveInTrace", "(I)V"⟩, prog_1_method_50_code, 2, none, { frames := 0, cells := 0, slots := 0, locals := 0 })
def m_X5_toldAsPlain : tn_M := (⟨"ThunderOwned", "toldAsPlain", "(LThunderOwned$House;)I"⟩, prog_1_method_51_code, 2, some .int, { frames := 1, cells := 0, slots := 0, locals := 21 })
def m_X5_toldAsBrooding : tn_M := (⟨"ThunderOwned", "toldAsBrooding", "(LThunderOwned$House;)I"⟩, prog_1_method_52_code, 2, some .int, { frames := 2, cells := 0, slots := 0, locals := 42 })
def m_X5_toldAsDouble : tn_M := (⟨"ThunderOwned", "toldAsDouble", "(LThunderOwned$House;)I"⟩, prog_1_method_53_code, 3, some .int, { frames := 3, cells := 0, slots := 0, locals := 63 })
def m_X5_knockedAsLent : tn_M := (⟨"ThunderOwned", "knockedAsLent", "(LThunderOwned$House;)I"⟩, prog_1_method_54_code, 2, some .int, { frames := 1, cells := 0, slots := 0, locals := 21 })
def m_X5_knockedAsDouble : tn_M := (⟨"ThunderOwned", "knockedAsDouble", "()I"⟩, prog_1_method_55_code, 1, some .int, { frames := 1, cells := 0, slots := 0, locals := 21 })
def m_X6_init : tn_M := (⟨"ThunderOwnedModel", "<init>", "()V"⟩, prog_8_method_1_code, 1, none, { frames := 1, cells := 14, slots := 345, locals := 20 })
def m_X6_fails : tn_M := (⟨"ThunderOwnedModel", "fails", "(I)I"⟩, prog_8_method_3_code, 2, some .int, { frames := 0, cells := 0, slots := 0, locals := 0 })
def m_X6_lost : tn_M := (⟨"ThunderOwnedModel", "lost", "(I)J"⟩, prog_8_method_4_code, 2, some .long, { frames := 0, cells := 0, slots := 0, locals := 0 })
def m_X6_within : tn_M := (⟨"ThunderOwnedModel", "within", "(III)Z"⟩, prog_8_method_5_code, 3, some .boolean, { frames := 0, cells := 0, slots := 0, locals := 0 })
def m_X6_isSheet : tn_M := (⟨"ThunderOwnedModel", "isSheet", "(I)Z"⟩, prog_8_method_6_code, 1, some .boolean, { frames := 1, cells := 0, slots := 0, locals := 22 })
def m_X6_isSort : tn_M := (⟨"ThunderOwnedModel", "isSort", "(I)Z"⟩, prog_8_method_7_code, 1, some .boolean, { frames := 1, cells := 0, slots := 0, locals := 22 })
def m_X6_against : tn_M := (⟨"ThunderOwnedModel", "against", "(IIII)I"⟩, prog_8_method_8_code, 5, some .int, { frames := 0, cells := 0, slots := 0, locals := 0 })
def m_X6_isHouse : tn_M := (⟨"ThunderOwnedModel", "isHouse", "(I)Z"⟩, prog_8_method_9_code, 2, some .boolean, { frames := 0, cells := 0, slots := 0, locals := 0 })
def m_X6_isStone : tn_M := (⟨"ThunderOwnedModel", "isStone", "(I)Z"⟩, prog_8_method_10_code, 2, some .boolean, { frames := 0, cells := 0, slots := 0, locals := 0 })
def m_X6_isOf : tn_M := (⟨"ThunderOwnedModel", "isOf", "(II)Z"⟩, prog_8_method_11_code, 2, some .boolean, { frames := 0, cells := 0, slots := 0, locals := 0 })
def m_X6_size : tn_M := (⟨"ThunderOwnedModel", "size", "(I)I"⟩, prog_8_method_12_code, 3, some .int, { frames := 0, cells := 0, slots := 0, locals := 0 })
def m_X6_digit : tn_M := (⟨"ThunderOwnedModel", "digit", "(III)I"⟩, prog_8_method_13_code, 4, some .int, { frames := 1, cells := 0, slots := 0, locals := 22 })
def m_X6_isSign : tn_M := (⟨"ThunderOwnedModel", "isSign", "(II)Z"⟩, prog_8_method_14_code, 3, some .boolean, { frames := 0, cells := 0, slots := 0, locals := 0 })
def m_X6_parish : tn_M := (⟨"ThunderOwnedModel", "parish", "(IIII)I"⟩, prog_8_method_15_code, 7, some .int, { frames := 4, cells := 0, slots := 0, locals := 89 })
def m_X6_takeParish : tn_M := (⟨"ThunderOwnedModel", "takeParish", "()V"⟩, prog_8_method_16_code, 2, none, { frames := 0, cells := 0, slots := 0, locals := 0 })
def m_X6_readParish : tn_M := (⟨"ThunderOwnedModel", "readParish", "(I)Z"⟩, prog_8_method_17_code, 2, some .boolean, { frames := 3, cells := 0, slots := 0, locals := 68 })
def m_X6_readStonesAll : tn_M := (⟨"ThunderOwnedModel", "readStonesAll", "(I)Z"⟩, prog_8_method_18_code, 2, some .boolean, { frames := 2, cells := 0, slots := 0, locals := 45 })
def m_X6_readHouse : tn_M := (⟨"ThunderOwnedModel", "readHouse", "(I)Z"⟩, prog_8_method_19_code, 4, some .boolean, { frames := 2, cells := 0, slots := 0, locals := 45 })
def m_X6_weightOf : tn_M := (⟨"ThunderOwnedModel", "weightOf", "(I)I"⟩, prog_8_method_20_code, 2, some .int, { frames := 0, cells := 0, slots := 0, locals := 0 })
def m_X6_rankles : tn_M := (⟨"ThunderOwnedModel", "rankles", "(I)Z"⟩, prog_8_method_21_code, 2, some .boolean, { frames := 1, cells := 0, slots := 0, locals := 21 })
def m_X6_whoRankle : tn_M := (⟨"ThunderOwnedModel", "whoRankle", "()I"⟩, prog_8_method_22_code, 3, some .int, { frames := 2, cells := 0, slots := 0, locals := 42 })
def m_X6_voiceNow : tn_M := (⟨"ThunderOwnedModel", "voiceNow", "()I"⟩, prog_8_method_23_code, 3, some .int, { frames := 2, cells := 0, slots := 0, locals := 42 })
def m_X6_ofHouse : tn_M := (⟨"ThunderOwnedModel", "ofHouse", "(II)I"⟩, prog_8_method_24_code, 3, some .int, { frames := 2, cells := 0, slots := 0, locals := 42 })
def m_X6_ofStone : tn_M := (⟨"ThunderOwnedModel", "ofStone", "(II)I"⟩, prog_8_method_25_code, 3, some .int, { frames := 1, cells := 0, slots := 0, locals := 21 })
def m_X6_sleep : tn_M := (⟨"ThunderOwnedModel", "sleep", "(II)I"⟩, prog_8_method_26_code, 4, some .int, { frames := 1, cells := 0, slots := 0, locals := 22 })
def m_X6_owns : tn_M := (⟨"ThunderOwnedModel", "owns", "(I)Z"⟩, prog_8_method_27_code, 2, some .boolean, { frames := 2, cells := 0, slots := 0, locals := 42 })
def m_X6_layGreatest : tn_M := (⟨"ThunderOwnedModel", "layGreatest", "()V"⟩, prog_8_method_28_code, 3, none, { frames := 1, cells := 0, slots := 0, locals := 21 })
def m_X6_goesNight : tn_M := (⟨"ThunderOwnedModel", "goesNight", "()V"⟩, prog_8_method_29_code, 2, none, { frames := 3, cells := 0, slots := 0, locals := 64 })
def m_X6_own : tn_M := (⟨"ThunderOwnedModel", "own", "(I)I"⟩, prog_8_method_30_code, 2, some .int, { frames := 3, cells := 0, slots := 0, locals := 63 })
def m_X6_lay : tn_M := (⟨"ThunderOwnedModel", "lay", "(I)I"⟩, prog_8_method_31_code, 2, some .int, { frames := 3, cells := 0, slots := 0, locals := 64 })
def m_X6_night : tn_M := (⟨"ThunderOwnedModel", "night", "(I)I"⟩, prog_8_method_32_code, 3, some .int, { frames := 4, cells := 0, slots := 0, locals := 85 })
def m_X6_keep : tn_M := (⟨"ThunderOwnedModel", "keep", "(I)V"⟩, prog_8_method_33_code, 3, none, { frames := 0, cells := 0, slots := 0, locals := 0 })
def m_X6_putBack : tn_M := (⟨"ThunderOwnedModel", "putBack", "(I)V"⟩, prog_8_method_34_code, 3, none, { frames := 0, cells := 0, slots := 0, locals := 0 })
def m_X6_does : tn_M := (⟨"ThunderOwnedModel", "does", "(I)Z"⟩, prog_8_method_35_code, 3, some .boolean, { frames := 4, cells := 0, slots := 0, locals := 85 })
def m_X6_goDay : tn_M := (⟨"ThunderOwnedModel", "goDay", "(II)I"⟩, prog_8_method_36_code, 4, some .int, { frames := 5, cells := 0, slots := 0, locals := 107 })
def m_X6_day : tn_M := (⟨"ThunderOwnedModel", "day", "(IIIII)I"⟩, prog_8_method_37_code, 11, some .int, { frames := 6, cells := 0, slots := 0, locals := 130 })
def m_X6_tellDay : tn_M := (⟨"ThunderOwnedModel", "tellDay", "(II)I"⟩, prog_8_method_38_code, 3, some .int, { frames := 3, cells := 0, slots := 0, locals := 64 })
def m_X6_behind : tn_M := (⟨"ThunderOwnedModel", "behind", "(II)I"⟩, prog_8_method_39_code, 5, some .int, { frames := 4, cells := 0, slots := 0, locals := 85 })
def m_X6_quietIn : tn_M := (⟨"ThunderOwnedModel", "quietIn", "(I)I"⟩, prog_8_method_40_code, 4, some .int, { frames := 4, cells := 0, slots := 0, locals := 85 })
def m_X6_quiet : tn_M := (⟨"ThunderOwnedModel", "quiet", "()I"⟩, prog_8_method_41_code, 1, some .int, { frames := 5, cells := 0, slots := 0, locals := 108 })
def m_X6_fewest : tn_M := (⟨"ThunderOwnedModel", "fewest", "(II)I"⟩, prog_8_method_42_code, 8, some .int, { frames := 5, cells := 0, slots := 0, locals := 108 })
def m_X6_weightOfSet : tn_M := (⟨"ThunderOwnedModel", "weightOfSet", "(I)I"⟩, prog_8_method_43_code, 4, some .int, { frames := 1, cells := 0, slots := 0, locals := 21 })
def m_X6_claps : tn_M := (⟨"ThunderOwnedModel", "claps", "(II)I"⟩, prog_8_method_44_code, 7, some .int, { frames := 3, cells := 0, slots := 0, locals := 64 })
def m_X6_findPains : tn_M := (⟨"ThunderOwnedModel", "findPains", "(II)V"⟩, prog_8_method_45_code, 7, none, { frames := 5, cells := 0, slots := 0, locals := 108 })
def m_X6_rests : tn_M := (⟨"ThunderOwnedModel", "rests", "(II)I"⟩, prog_8_method_46_code, 6, some .int, { frames := 6, cells := 0, slots := 0, locals := 134 })
def m_X6_reading : tn_M := (⟨"ThunderOwnedModel", "reading", "(II)I"⟩, prog_8_method_47_code, 3, some .int, { frames := 1, cells := 0, slots := 0, locals := 22 })
def m_X6_back : tn_M := (⟨"ThunderOwnedModel", "back", "(I)I"⟩, prog_8_method_48_code, 2, some .int, { frames := 1, cells := 0, slots := 0, locals := 22 })
def m_X6_areSo : tn_M := (⟨"ThunderOwnedModel", "areSo", "()Z"⟩, prog_8_method_49_code, 4, some .boolean, { frames := 4, cells := 0, slots := 0, locals := 85 })
def m_X6_kinds : tn_M := (⟨"ThunderOwnedModel", "kinds", "(I)I"⟩, prog_8_method_50_code, 5, some .int, { frames := 5, cells := 0, slots := 0, locals := 108 })
def m_X6_wrongs : tn_M := (⟨"ThunderOwnedModel", "wrongs", "(I)I"⟩, prog_8_method_51_code, 5, some .int, { frames := 5, cells := 0, slots := 0, locals := 108 })
def m_X6_steps : tn_M := (⟨"ThunderOwnedModel", "steps", "()I"⟩, prog_8_method_52_code, 4, some .int, { frames := 5, cells := 0, slots := 0, locals := 108 })
def m_X6_inLeastTerms : tn_M := (⟨"ThunderOwnedModel", "inLeastTerms", "(JJI)J"⟩, prog_8_method_53_code, 11, some .long, { frames := 0, cells := 0, slots := 0, locals := 0 })
def m_X6_odds : tn_M := (⟨"ThunderOwnedModel", "odds", "(II)J"⟩, prog_8_method_54_code, 7, some .long, { frames := 3, cells := 0, slots := 0, locals := 64 })
def m_X6_sheet : tn_M := (⟨"ThunderOwnedModel", "sheet", "(III)I"⟩, prog_8_method_55_code, 5, some .int, { frames := 2, cells := 0, slots := 0, locals := 42 })
def m_X6_lose : tn_M := (⟨"ThunderOwnedModel", "lose", "(I)I"⟩, prog_8_method_56_code, 3, some .int, { frames := 2, cells := 0, slots := 0, locals := 42 })
def m_X6_put : tn_M := (⟨"ThunderOwnedModel", "put", "(III)I"⟩, prog_8_method_57_code, 4, some .int, { frames := 2, cells := 0, slots := 0, locals := 42 })
def m_X6_cell : tn_M := (⟨"ThunderOwnedModel", "cell", "(III)J"⟩, prog_8_method_58_code, 4, some .long, { frames := 2, cells := 0, slots := 0, locals := 42 })
def m_X6_copy : tn_M := (⟨"ThunderOwnedModel", "copy", "(IIIII)I"⟩, prog_8_method_59_code, 10, some .int, { frames := 2, cells := 0, slots := 0, locals := 42 })
def m_X6_begins : tn_M := (⟨"ThunderOwnedModel", "begins", "(I)V"⟩, prog_8_method_60_code, 2, none, { frames := 0, cells := 0, slots := 0, locals := 0 })
def m_X6_tell : tn_M := (⟨"ThunderOwnedModel", "tell", "(I)I"⟩, prog_8_method_61_code, 3, some .int, { frames := 1, cells := 0, slots := 0, locals := 21 })
def m_X6_knock : tn_M := (⟨"ThunderOwnedModel", "knock", "(I)I"⟩, prog_8_method_62_code, 2, some .int, { frames := 1, cells := 0, slots := 0, locals := 21 })
def m_X6_as : tn_M := (⟨"ThunderOwnedModel", "as", "(II)I"⟩, prog_8_method_63_code, 3, some .int, { frames := 1, cells := 0, slots := 0, locals := 22 })
def m_X6_trace : tn_M := (⟨"ThunderOwnedModel", "trace", "()I"⟩, prog_8_method_64_code, 1, some .int, { frames := 0, cells := 0, slots := 0, locals := 0 })
def m_X6_fault : tn_M := (⟨"ThunderOwnedModel", "fault", "()I"⟩, prog_8_method_65_code, 1, some .int, { frames := 0, cells := 0, slots := 0, locals := 0 })
def m_X6_many : tn_M := (⟨"ThunderOwnedModel", "many", "(I)I"⟩, prog_8_method_66_code, 2, some .int, { frames := 3, cells := 0, slots := 0, locals := 64 })
def m_J_bitCount : tn_M := (⟨"java/lang/Integer", "bitCount", "(I)I"⟩, prog_9_method_49_code, 1, some .int, { frames := 0, cells := 0, slots := 0, locals := 0 })
def m_J_max : tn_M := (⟨"java/lang/Math", "max", "(II)I"⟩, prog_10_method_65_code, 2, some .int, { frames := 0, cells := 0, slots := 0, locals := 0 })
def m_J_min : tn_M := (⟨"java/lang/Math", "min", "(II)I"⟩, prog_10_method_69_code, 2, some .int, { frames := 0, cells := 0, slots := 0, locals := 0 })
def m_L_law : tn_M := (⟨"ThunderOwnedLaw", "law", "([I)Z"⟩, code, 4, some .boolean, { frames := 9, cells := 600000, slots := 7302250, locals := 322 })
theorem tn_wi (i : Nat) {w : Cond} (h : lw_tbl[i]? = some w ∧ goodWord w = true) : w ∈ tn_tbl := tn_w i h.1 h.2
theorem tn_wni (i : Nat) {w : Cond} (h : lw_tbl[i]? = some w ∧ tn_isN w = true) : w ∈ tn_nst := tn_wn i h.1 h.2
theorem mv_X0_init : tn_MV m_X0_init 0 := ⟨tn_wi 114 (by decide +kernel), tn_wi 85 (by decide +kernel), by decide +kernel, by decide +kernel⟩
theorem im_X0_init : Cond.instanceMethod m_X0_init.1 ∈ tn_tbl := tn_wi 113 (by decide +kernel)
theorem mv_X0_weight : tn_MV m_X0_weight 0 := ⟨tn_wi 351 (by decide +kernel), tn_wi 85 (by decide +kernel), by decide +kernel, by decide +kernel⟩
theorem im_X0_weight : Cond.instanceMethod m_X0_weight.1 ∈ tn_tbl := tn_wi 350 (by decide +kernel)
theorem se_X0_weight : Cond.selects m_X0_weight.1.cls m_X0_weight.1 m_X0_weight.1 ∈ tn_tbl := tn_wi 16 (by decide +kernel)
theorem mv_X0_rankles : tn_MV m_X0_rankles 0 := ⟨tn_wi 355 (by decide +kernel), tn_wi 85 (by decide +kernel), by decide +kernel, by decide +kernel⟩
theorem im_X0_rankles : Cond.instanceMethod m_X0_rankles.1 ∈ tn_tbl := tn_wi 354 (by decide +kernel)
theorem se_X0_rankles : Cond.selects m_X0_rankles.1.cls m_X0_rankles.1 m_X0_rankles.1 ∈ tn_tbl := tn_wi 17 (by decide +kernel)
theorem mv_X0_ownUp : tn_MV m_X0_ownUp 0 := ⟨tn_wi 376 (by decide +kernel), tn_wi 85 (by decide +kernel), by decide +kernel, by decide +kernel⟩
theorem im_X0_ownUp : Cond.instanceMethod m_X0_ownUp.1 ∈ tn_tbl := tn_wi 375 (by decide +kernel)
theorem se_X0_ownUp : Cond.selects m_X0_ownUp.1.cls m_X0_ownUp.1 m_X0_ownUp.1 ∈ tn_tbl := tn_wi 19 (by decide +kernel)
theorem mv_X0_become : tn_MV m_X0_become 1 := ⟨tn_wi 335 (by decide +kernel), tn_wi 85 (by decide +kernel), by decide +kernel, by decide +kernel⟩
theorem im_X0_become : Cond.instanceMethod m_X0_become.1 ∈ tn_tbl := tn_wi 334 (by decide +kernel)
theorem se_X0_become : Cond.selects m_X0_become.1.cls m_X0_become.1 m_X0_become.1 ∈ tn_tbl := tn_wi 13 (by decide +kernel)
theorem mv_X1_init : tn_MV m_X1_init 0 := ⟨tn_wi 105 (by decide +kernel), tn_wi 84 (by decide +kernel), by decide +kernel, by decide +kernel⟩
theorem im_X1_init : Cond.instanceMethod m_X1_init.1 ∈ tn_tbl := tn_wi 104 (by decide +kernel)
theorem mv_X1_hasHouse : tn_MV m_X1_hasHouse 1 := ⟨tn_wi 347 (by decide +kernel), tn_wi 84 (by decide +kernel), by decide +kernel, by decide +kernel⟩
theorem im_X1_hasHouse : Cond.instanceMethod m_X1_hasHouse.1 ∈ tn_tbl := tn_wi 346 (by decide +kernel)
theorem se_X1_hasHouse : Cond.selects m_X1_hasHouse.1.cls m_X1_hasHouse.1 m_X1_hasHouse.1 ∈ tn_tbl := tn_wi 15 (by decide +kernel)
theorem mv_X1_hasStone : tn_MV m_X1_hasStone 1 := ⟨tn_wi 364 (by decide +kernel), tn_wi 84 (by decide +kernel), by decide +kernel, by decide +kernel⟩
theorem im_X1_hasStone : Cond.instanceMethod m_X1_hasStone.1 ∈ tn_tbl := tn_wi 363 (by decide +kernel)
theorem se_X1_hasStone : Cond.selects m_X1_hasStone.1.cls m_X1_hasStone.1 m_X1_hasStone.1 ∈ tn_tbl := tn_wi 18 (by decide +kernel)
theorem mv_X1_empty : tn_MV m_X1_empty 0 := ⟨tn_wi 278 (by decide +kernel), tn_wi 84 (by decide +kernel), by decide +kernel, by decide +kernel⟩
theorem im_X1_empty : Cond.instanceMethod m_X1_empty.1 ∈ tn_tbl := tn_wi 277 (by decide +kernel)
theorem se_X1_empty : Cond.selects m_X1_empty.1.cls m_X1_empty.1 m_X1_empty.1 ∈ tn_tbl := tn_wi 3 (by decide +kernel)
theorem mv_X1_addHouse : tn_MV m_X1_addHouse 3 := ⟨tn_wi 311 (by decide +kernel), tn_wi 84 (by decide +kernel), by decide +kernel, by decide +kernel⟩
theorem im_X1_addHouse : Cond.instanceMethod m_X1_addHouse.1 ∈ tn_tbl := tn_wi 310 (by decide +kernel)
theorem se_X1_addHouse : Cond.selects m_X1_addHouse.1.cls m_X1_addHouse.1 m_X1_addHouse.1 ∈ tn_tbl := tn_wi 7 (by decide +kernel)
theorem mv_X1_addStone : tn_MV m_X1_addStone 1 := ⟨tn_wi 323 (by decide +kernel), tn_wi 84 (by decide +kernel), by decide +kernel, by decide +kernel⟩
theorem im_X1_addStone : Cond.instanceMethod m_X1_addStone.1 ∈ tn_tbl := tn_wi 322 (by decide +kernel)
theorem se_X1_addStone : Cond.selects m_X1_addStone.1.cls m_X1_addStone.1 m_X1_addStone.1 ∈ tn_tbl := tn_wi 10 (by decide +kernel)
theorem mv_X1_become : tn_MV m_X1_become 1 := ⟨tn_wi 331 (by decide +kernel), tn_wi 84 (by decide +kernel), by decide +kernel, by decide +kernel⟩
theorem im_X1_become : Cond.instanceMethod m_X1_become.1 ∈ tn_tbl := tn_wi 330 (by decide +kernel)
theorem se_X1_become : Cond.selects m_X1_become.1.cls m_X1_become.1 m_X1_become.1 ∈ tn_tbl := tn_wi 12 (by decide +kernel)
theorem mv_X1_voice : tn_MV m_X1_voice 0 := ⟨tn_wi 385 (by decide +kernel), tn_wi 84 (by decide +kernel), by decide +kernel, by decide +kernel⟩
theorem im_X1_voice : Cond.instanceMethod m_X1_voice.1 ∈ tn_tbl := tn_wi 384 (by decide +kernel)
theorem se_X1_voice : Cond.selects m_X1_voice.1.cls m_X1_voice.1 m_X1_voice.1 ∈ tn_tbl := tn_wi 20 (by decide +kernel)
theorem mv_X1_hatsLost : tn_MV m_X1_hatsLost 0 := ⟨tn_wi 457 (by decide +kernel), tn_wi 84 (by decide +kernel), by decide +kernel, by decide +kernel⟩
theorem im_X1_hatsLost : Cond.instanceMethod m_X1_hatsLost.1 ∈ tn_tbl := tn_wi 456 (by decide +kernel)
theorem se_X1_hatsLost : Cond.selects m_X1_hatsLost.1.cls m_X1_hatsLost.1 m_X1_hatsLost.1 ∈ tn_tbl := tn_wi 33 (by decide +kernel)
theorem mv_X1_ranklingSet : tn_MV m_X1_ranklingSet 0 := ⟨tn_wi 414 (by decide +kernel), tn_wi 84 (by decide +kernel), by decide +kernel, by decide +kernel⟩
theorem im_X1_ranklingSet : Cond.instanceMethod m_X1_ranklingSet.1 ∈ tn_tbl := tn_wi 413 (by decide +kernel)
theorem se_X1_ranklingSet : Cond.selects m_X1_ranklingSet.1.cls m_X1_ranklingSet.1 m_X1_ranklingSet.1 ∈ tn_tbl := tn_wi 25 (by decide +kernel)
theorem mv_X1_setCount : tn_MV m_X1_setCount 0 := ⟨tn_wi 481 (by decide +kernel), tn_wi 84 (by decide +kernel), by decide +kernel, by decide +kernel⟩
theorem im_X1_setCount : Cond.instanceMethod m_X1_setCount.1 ∈ tn_tbl := tn_wi 480 (by decide +kernel)
theorem se_X1_setCount : Cond.selects m_X1_setCount.1.cls m_X1_setCount.1 m_X1_setCount.1 ∈ tn_tbl := tn_wi 35 (by decide +kernel)
theorem mv_X1_doesSetRankle : tn_MV m_X1_doesSetRankle 1 := ⟨tn_wi 491 (by decide +kernel), tn_wi 84 (by decide +kernel), by decide +kernel, by decide +kernel⟩
theorem im_X1_doesSetRankle : Cond.instanceMethod m_X1_doesSetRankle.1 ∈ tn_tbl := tn_wi 490 (by decide +kernel)
theorem se_X1_doesSetRankle : Cond.selects m_X1_doesSetRankle.1.cls m_X1_doesSetRankle.1 m_X1_doesSetRankle.1 ∈ tn_tbl := tn_wi 36 (by decide +kernel)
theorem mv_X1_weightOfSet : tn_MV m_X1_weightOfSet 1 := ⟨tn_wi 507 (by decide +kernel), tn_wi 84 (by decide +kernel), by decide +kernel, by decide +kernel⟩
theorem im_X1_weightOfSet : Cond.instanceMethod m_X1_weightOfSet.1 ∈ tn_tbl := tn_wi 506 (by decide +kernel)
theorem se_X1_weightOfSet : Cond.selects m_X1_weightOfSet.1.cls m_X1_weightOfSet.1 m_X1_weightOfSet.1 ∈ tn_tbl := tn_wi 39 (by decide +kernel)
theorem mv_X1_ownUpAll : tn_MV m_X1_ownUpAll 1 := ⟨tn_wi 499 (by decide +kernel), tn_wi 84 (by decide +kernel), by decide +kernel, by decide +kernel⟩
theorem im_X1_ownUpAll : Cond.instanceMethod m_X1_ownUpAll.1 ∈ tn_tbl := tn_wi 498 (by decide +kernel)
theorem se_X1_ownUpAll : Cond.selects m_X1_ownUpAll.1.cls m_X1_ownUpAll.1 m_X1_ownUpAll.1 ∈ tn_tbl := tn_wi 38 (by decide +kernel)
theorem mv_X1_passNight : tn_MV m_X1_passNight 0 := ⟨tn_wi 403 (by decide +kernel), tn_wi 84 (by decide +kernel), by decide +kernel, by decide +kernel⟩
theorem im_X1_passNight : Cond.instanceMethod m_X1_passNight.1 ∈ tn_tbl := tn_wi 402 (by decide +kernel)
theorem se_X1_passNight : Cond.selects m_X1_passNight.1.cls m_X1_passNight.1 m_X1_passNight.1 ∈ tn_tbl := tn_wi 23 (by decide +kernel)
theorem mv_X1_passNights : tn_MV m_X1_passNights 1 := ⟨tn_wi 399 (by decide +kernel), tn_wi 84 (by decide +kernel), by decide +kernel, by decide +kernel⟩
theorem im_X1_passNights : Cond.instanceMethod m_X1_passNights.1 ∈ tn_tbl := tn_wi 398 (by decide +kernel)
theorem se_X1_passNights : Cond.selects m_X1_passNights.1.cls m_X1_passNights.1 m_X1_passNights.1 ∈ tn_tbl := tn_wi 22 (by decide +kernel)
theorem mv_X1_loseSleep : tn_MV m_X1_loseSleep 0 := ⟨tn_wi 409 (by decide +kernel), tn_wi 84 (by decide +kernel), by decide +kernel, by decide +kernel⟩
theorem im_X1_loseSleep : Cond.instanceMethod m_X1_loseSleep.1 ∈ tn_tbl := tn_wi 408 (by decide +kernel)
theorem se_X1_loseSleep : Cond.selects m_X1_loseSleep.1.cls m_X1_loseSleep.1 m_X1_loseSleep.1 ∈ tn_tbl := tn_wi 24 (by decide +kernel)
theorem mv_X1_layHeaviestStone : tn_MV m_X1_layHeaviestStone 0 := ⟨tn_wi 418 (by decide +kernel), tn_wi 84 (by decide +kernel), by decide +kernel, by decide +kernel⟩
theorem im_X1_layHeaviestStone : Cond.instanceMethod m_X1_layHeaviestStone.1 ∈ tn_tbl := tn_wi 417 (by decide +kernel)
theorem se_X1_layHeaviestStone : Cond.selects m_X1_layHeaviestStone.1.cls m_X1_layHeaviestStone.1 m_X1_layHeaviestStone.1 ∈ tn_tbl := tn_wi 26 (by decide +kernel)
theorem mv_X1_nightsUntilQuiet : tn_MV m_X1_nightsUntilQuiet 1 := ⟨tn_wi 470 (by decide +kernel), tn_wi 84 (by decide +kernel), by decide +kernel, by decide +kernel⟩
theorem im_X1_nightsUntilQuiet : Cond.instanceMethod m_X1_nightsUntilQuiet.1 ∈ tn_tbl := tn_wi 469 (by decide +kernel)
theorem se_X1_nightsUntilQuiet : Cond.selects m_X1_nightsUntilQuiet.1.cls m_X1_nightsUntilQuiet.1 m_X1_nightsUntilQuiet.1 ∈ tn_tbl := tn_wi 34 (by decide +kernel)
theorem mv_X1_acts : tn_MV m_X1_acts 1 := ⟨tn_wi 437 (by decide +kernel), tn_wi 84 (by decide +kernel), by decide +kernel, by decide +kernel⟩
theorem im_X1_acts : Cond.instanceMethod m_X1_acts.1 ∈ tn_tbl := tn_wi 436 (by decide +kernel)
theorem se_X1_acts : Cond.selects m_X1_acts.1.cls m_X1_acts.1 m_X1_acts.1 ∈ tn_tbl := tn_wi 28 (by decide +kernel)
theorem mv_X1_ownsAsAct : tn_MV m_X1_ownsAsAct 1 := ⟨tn_wi 441 (by decide +kernel), tn_wi 84 (by decide +kernel), by decide +kernel, by decide +kernel⟩
theorem im_X1_ownsAsAct : Cond.instanceMethod m_X1_ownsAsAct.1 ∈ tn_tbl := tn_wi 440 (by decide +kernel)
theorem se_X1_ownsAsAct : Cond.selects m_X1_ownsAsAct.1.cls m_X1_ownsAsAct.1 m_X1_ownsAsAct.1 ∈ tn_tbl := tn_wi 29 (by decide +kernel)
theorem mv_X1_sleepsAsAct : tn_MV m_X1_sleepsAsAct 1 := ⟨tn_wi 445 (by decide +kernel), tn_wi 84 (by decide +kernel), by decide +kernel, by decide +kernel⟩
theorem im_X1_sleepsAsAct : Cond.instanceMethod m_X1_sleepsAsAct.1 ∈ tn_tbl := tn_wi 444 (by decide +kernel)
theorem se_X1_sleepsAsAct : Cond.selects m_X1_sleepsAsAct.1.cls m_X1_sleepsAsAct.1 m_X1_sleepsAsAct.1 ∈ tn_tbl := tn_wi 30 (by decide +kernel)
theorem mv_X1_isLaidAsAct : tn_MV m_X1_isLaidAsAct 1 := ⟨tn_wi 449 (by decide +kernel), tn_wi 84 (by decide +kernel), by decide +kernel, by decide +kernel⟩
theorem im_X1_isLaidAsAct : Cond.instanceMethod m_X1_isLaidAsAct.1 ∈ tn_tbl := tn_wi 448 (by decide +kernel)
theorem se_X1_isLaidAsAct : Cond.selects m_X1_isLaidAsAct.1.cls m_X1_isLaidAsAct.1 m_X1_isLaidAsAct.1 ∈ tn_tbl := tn_wi 31 (by decide +kernel)
theorem mv_X2_init : tn_MV m_X2_init 0 := ⟨tn_wi 191 (by decide +kernel), tn_wi 87 (by decide +kernel), by decide +kernel, by decide +kernel⟩
theorem im_X2_init : Cond.instanceMethod m_X2_init.1 ∈ tn_tbl := tn_wi 190 (by decide +kernel)
theorem mv_X2_renew : tn_MV m_X2_renew 2 := ⟨tn_wi 573 (by decide +kernel), tn_wi 87 (by decide +kernel), by decide +kernel, by decide +kernel⟩
theorem im_X2_renew : Cond.instanceMethod m_X2_renew.1 ∈ tn_tbl := tn_wi 572 (by decide +kernel)
theorem se_X2_renew : Cond.selects m_X2_renew.1.cls m_X2_renew.1 m_X2_renew.1 ∈ tn_tbl := tn_wi 46 (by decide +kernel)
theorem mv_X2_hasCells : tn_MV m_X2_hasCells 2 := ⟨tn_wi 260 (by decide +kernel), tn_wi 87 (by decide +kernel), by decide +kernel, by decide +kernel⟩
theorem im_X2_hasCells : Cond.instanceMethod m_X2_hasCells.1 ∈ tn_tbl := tn_wi 259 (by decide +kernel)
theorem se_X2_hasCells : Cond.selects m_X2_hasCells.1.cls m_X2_hasCells.1 m_X2_hasCells.1 ∈ tn_tbl := tn_wi 0 (by decide +kernel)
theorem mv_X2_cutToLane : tn_MV m_X2_cutToLane 1 := ⟨tn_wi 585 (by decide +kernel), tn_wi 87 (by decide +kernel), by decide +kernel, by decide +kernel⟩
theorem im_X2_cutToLane : Cond.instanceMethod m_X2_cutToLane.1 ∈ tn_tbl := tn_wi 584 (by decide +kernel)
theorem se_X2_cutToLane : Cond.selects m_X2_cutToLane.1.cls m_X2_cutToLane.1 m_X2_cutToLane.1 ∈ tn_tbl := tn_wi 47 (by decide +kernel)
theorem mv_X3_init : tn_MV m_X3_init 0 := ⟨tn_wi 145 (by decide +kernel), tn_wi 86 (by decide +kernel), by decide +kernel, by decide +kernel⟩
theorem im_X3_init : Cond.instanceMethod m_X3_init.1 ∈ tn_tbl := tn_wi 144 (by decide +kernel)
theorem mv_X3_become : tn_MV m_X3_become 1 := ⟨tn_wi 339 (by decide +kernel), tn_wi 86 (by decide +kernel), by decide +kernel, by decide +kernel⟩
theorem im_X3_become : Cond.instanceMethod m_X3_become.1 ∈ tn_tbl := tn_wi 338 (by decide +kernel)
theorem se_X3_become : Cond.selects m_X3_become.1.cls m_X3_become.1 m_X3_become.1 ∈ tn_tbl := tn_wi 14 (by decide +kernel)
theorem mv_X4_init : tn_MV m_X4_init 1 := ⟨tn_wi 273 (by decide +kernel), tn_wi 89 (by decide +kernel), by decide +kernel, by decide +kernel⟩
theorem im_X4_init : Cond.instanceMethod m_X4_init.1 ∈ tn_tbl := tn_wi 272 (by decide +kernel)
theorem mv_X4_mayEnd : tn_MV m_X4_mayEnd 0 := ⟨tn_wi 327 (by decide +kernel), tn_wi 89 (by decide +kernel), by decide +kernel, by decide +kernel⟩
theorem im_X4_mayEnd : Cond.instanceMethod m_X4_mayEnd.1 ∈ tn_tbl := tn_wi 326 (by decide +kernel)
theorem se_X4_mayEnd : Cond.selects m_X4_mayEnd.1.cls m_X4_mayEnd.1 m_X4_mayEnd.1 ∈ tn_tbl := tn_wi 11 (by decide +kernel)
theorem mv_X4_takes : tn_MV m_X4_takes 1 := ⟨tn_wi 295 (by decide +kernel), tn_wi 89 (by decide +kernel), by decide +kernel, by decide +kernel⟩
theorem im_X4_takes : Cond.instanceMethod m_X4_takes.1 ∈ tn_tbl := tn_wi 294 (by decide +kernel)
theorem se_X4_takes : Cond.selects m_X4_takes.1.cls m_X4_takes.1 m_X4_takes.1 ∈ tn_tbl := tn_wi 4 (by decide +kernel)
theorem mv_X4_goesOn : tn_MV m_X4_goesOn 2 := ⟨tn_wi 299 (by decide +kernel), tn_wi 89 (by decide +kernel), by decide +kernel, by decide +kernel⟩
theorem im_X4_goesOn : Cond.instanceMethod m_X4_goesOn.1 ∈ tn_tbl := tn_wi 298 (by decide +kernel)
theorem se_X4_goesOn : Cond.selects m_X4_goesOn.1.cls m_X4_goesOn.1 m_X4_goesOn.1 ∈ tn_tbl := tn_wi 5 (by decide +kernel)
theorem mv_X4_kindOfLetter : tn_MV m_X4_kindOfLetter 1 := ⟨tn_wi 303 (by decide +kernel), tn_wi 89 (by decide +kernel), by decide +kernel, by decide +kernel⟩
theorem st_X4_kindOfLetter : Cond.static m_X4_kindOfLetter.1 ∈ tn_tbl := tn_wi 302 (by decide +kernel)
theorem mv_X4_takesSleep : tn_MV m_X4_takesSleep 1 := ⟨tn_wi 307 (by decide +kernel), tn_wi 89 (by decide +kernel), by decide +kernel, by decide +kernel⟩
theorem im_X4_takesSleep : Cond.instanceMethod m_X4_takesSleep.1 ∈ tn_tbl := tn_wi 306 (by decide +kernel)
theorem se_X4_takesSleep : Cond.selects m_X4_takesSleep.1.cls m_X4_takesSleep.1 m_X4_takesSleep.1 ∈ tn_tbl := tn_wi 6 (by decide +kernel)
theorem mv_X4_takesAfterHouse : tn_MV m_X4_takesAfterHouse 1 := ⟨tn_wi 315 (by decide +kernel), tn_wi 89 (by decide +kernel), by decide +kernel, by decide +kernel⟩
theorem im_X4_takesAfterHouse : Cond.instanceMethod m_X4_takesAfterHouse.1 ∈ tn_tbl := tn_wi 314 (by decide +kernel)
theorem se_X4_takesAfterHouse : Cond.selects m_X4_takesAfterHouse.1.cls m_X4_takesAfterHouse.1 m_X4_takesAfterHouse.1 ∈ tn_tbl := tn_wi 8 (by decide +kernel)
theorem mv_X4_takesStone : tn_MV m_X4_takesStone 1 := ⟨tn_wi 319 (by decide +kernel), tn_wi 89 (by decide +kernel), by decide +kernel, by decide +kernel⟩
theorem im_X4_takesStone : Cond.instanceMethod m_X4_takesStone.1 ∈ tn_tbl := tn_wi 318 (by decide +kernel)
theorem se_X4_takesStone : Cond.selects m_X4_takesStone.1.cls m_X4_takesStone.1 m_X4_takesStone.1 ∈ tn_tbl := tn_wi 9 (by decide +kernel)
theorem mv_X5_init : tn_MV m_X5_init 0 := ⟨tn_wi 97 (by decide +kernel), tn_wi 83 (by decide +kernel), by decide +kernel, by decide +kernel⟩
theorem im_X5_init : Cond.instanceMethod m_X5_init.1 ∈ tn_tbl := tn_wi 96 (by decide +kernel)
theorem mv_X5_parish : tn_MV m_X5_parish 4 := ⟨tn_wi 244 (by decide +kernel), tn_wi 83 (by decide +kernel), by decide +kernel, by decide +kernel⟩
theorem im_X5_parish : Cond.instanceMethod m_X5_parish.1 ∈ tn_tbl := tn_wi 242 (by decide +kernel)
theorem se_X5_parish : Cond.selects m_X5_parish.1.cls m_X5_parish.1 m_X5_parish.1 ∈ tn_tbl := tn_wi 243 (by decide +kernel)
theorem mv_X5_ofHouse : tn_MV m_X5_ofHouse 2 := ⟨tn_wi 343 (by decide +kernel), tn_wi 83 (by decide +kernel), by decide +kernel, by decide +kernel⟩
theorem im_X5_ofHouse : Cond.instanceMethod m_X5_ofHouse.1 ∈ tn_tbl := tn_wi 341 (by decide +kernel)
theorem se_X5_ofHouse : Cond.selects m_X5_ofHouse.1.cls m_X5_ofHouse.1 m_X5_ofHouse.1 ∈ tn_tbl := tn_wi 342 (by decide +kernel)
theorem mv_X5_ofStone : tn_MV m_X5_ofStone 2 := ⟨tn_wi 360 (by decide +kernel), tn_wi 83 (by decide +kernel), by decide +kernel, by decide +kernel⟩
theorem im_X5_ofStone : Cond.instanceMethod m_X5_ofStone.1 ∈ tn_tbl := tn_wi 358 (by decide +kernel)
theorem se_X5_ofStone : Cond.selects m_X5_ofStone.1.cls m_X5_ofStone.1 m_X5_ofStone.1 ∈ tn_tbl := tn_wi 359 (by decide +kernel)
theorem mv_X5_sleep : tn_MV m_X5_sleep 2 := ⟨tn_wi 368 (by decide +kernel), tn_wi 83 (by decide +kernel), by decide +kernel, by decide +kernel⟩
theorem im_X5_sleep : Cond.instanceMethod m_X5_sleep.1 ∈ tn_tbl := tn_wi 366 (by decide +kernel)
theorem se_X5_sleep : Cond.selects m_X5_sleep.1.cls m_X5_sleep.1 m_X5_sleep.1 ∈ tn_tbl := tn_wi 367 (by decide +kernel)
theorem mv_X5_own : tn_MV m_X5_own 1 := ⟨tn_wi 372 (by decide +kernel), tn_wi 83 (by decide +kernel), by decide +kernel, by decide +kernel⟩
theorem im_X5_own : Cond.instanceMethod m_X5_own.1 ∈ tn_tbl := tn_wi 370 (by decide +kernel)
theorem se_X5_own : Cond.selects m_X5_own.1.cls m_X5_own.1 m_X5_own.1 ∈ tn_tbl := tn_wi 371 (by decide +kernel)
theorem mv_X5_lay : tn_MV m_X5_lay 1 := ⟨tn_wi 381 (by decide +kernel), tn_wi 83 (by decide +kernel), by decide +kernel, by decide +kernel⟩
theorem im_X5_lay : Cond.instanceMethod m_X5_lay.1 ∈ tn_tbl := tn_wi 379 (by decide +kernel)
theorem se_X5_lay : Cond.selects m_X5_lay.1.cls m_X5_lay.1 m_X5_lay.1 ∈ tn_tbl := tn_wi 380 (by decide +kernel)
theorem mv_X5_night : tn_MV m_X5_night 1 := ⟨tn_wi 391 (by decide +kernel), tn_wi 83 (by decide +kernel), by decide +kernel, by decide +kernel⟩
theorem im_X5_night : Cond.instanceMethod m_X5_night.1 ∈ tn_tbl := tn_wi 389 (by decide +kernel)
theorem se_X5_night : Cond.selects m_X5_night.1.cls m_X5_night.1 m_X5_night.1 ∈ tn_tbl := tn_wi 390 (by decide +kernel)
theorem mv_X5_day : tn_MV m_X5_day 5 := ⟨tn_wi 423 (by decide +kernel), tn_wi 83 (by decide +kernel), by decide +kernel, by decide +kernel⟩
theorem im_X5_day : Cond.instanceMethod m_X5_day.1 ∈ tn_tbl := tn_wi 421 (by decide +kernel)
theorem se_X5_day : Cond.selects m_X5_day.1.cls m_X5_day.1 m_X5_day.1 ∈ tn_tbl := tn_wi 422 (by decide +kernel)
theorem mv_X5_behind : tn_MV m_X5_behind 2 := ⟨tn_wi 462 (by decide +kernel), tn_wi 83 (by decide +kernel), by decide +kernel, by decide +kernel⟩
theorem im_X5_behind : Cond.instanceMethod m_X5_behind.1 ∈ tn_tbl := tn_wi 460 (by decide +kernel)
theorem se_X5_behind : Cond.selects m_X5_behind.1.cls m_X5_behind.1 m_X5_behind.1 ∈ tn_tbl := tn_wi 461 (by decide +kernel)
theorem mv_X5_quiet : tn_MV m_X5_quiet 0 := ⟨tn_wi 466 (by decide +kernel), tn_wi 83 (by decide +kernel), by decide +kernel, by decide +kernel⟩
theorem im_X5_quiet : Cond.instanceMethod m_X5_quiet.1 ∈ tn_tbl := tn_wi 464 (by decide +kernel)
theorem se_X5_quiet : Cond.selects m_X5_quiet.1.cls m_X5_quiet.1 m_X5_quiet.1 ∈ tn_tbl := tn_wi 465 (by decide +kernel)
theorem mv_X5_fewest : tn_MV m_X5_fewest 2 := ⟨tn_wi 477 (by decide +kernel), tn_wi 83 (by decide +kernel), by decide +kernel, by decide +kernel⟩
theorem im_X5_fewest : Cond.instanceMethod m_X5_fewest.1 ∈ tn_tbl := tn_wi 475 (by decide +kernel)
theorem se_X5_fewest : Cond.selects m_X5_fewest.1.cls m_X5_fewest.1 m_X5_fewest.1 ∈ tn_tbl := tn_wi 476 (by decide +kernel)
theorem mv_X5_claps : tn_MV m_X5_claps 2 := ⟨tn_wi 503 (by decide +kernel), tn_wi 83 (by decide +kernel), by decide +kernel, by decide +kernel⟩
theorem im_X5_claps : Cond.instanceMethod m_X5_claps.1 ∈ tn_tbl := tn_wi 501 (by decide +kernel)
theorem se_X5_claps : Cond.selects m_X5_claps.1.cls m_X5_claps.1 m_X5_claps.1 ∈ tn_tbl := tn_wi 502 (by decide +kernel)
theorem mv_X5_rests : tn_MV m_X5_rests 2 := ⟨tn_wi 511 (by decide +kernel), tn_wi 83 (by decide +kernel), by decide +kernel, by decide +kernel⟩
theorem im_X5_rests : Cond.instanceMethod m_X5_rests.1 ∈ tn_tbl := tn_wi 509 (by decide +kernel)
theorem se_X5_rests : Cond.selects m_X5_rests.1.cls m_X5_rests.1 m_X5_rests.1 ∈ tn_tbl := tn_wi 510 (by decide +kernel)
theorem mv_X5_reading : tn_MV m_X5_reading 2 := ⟨tn_wi 527 (by decide +kernel), tn_wi 83 (by decide +kernel), by decide +kernel, by decide +kernel⟩
theorem im_X5_reading : Cond.instanceMethod m_X5_reading.1 ∈ tn_tbl := tn_wi 525 (by decide +kernel)
theorem se_X5_reading : Cond.selects m_X5_reading.1.cls m_X5_reading.1 m_X5_reading.1 ∈ tn_tbl := tn_wi 526 (by decide +kernel)
theorem mv_X5_back : tn_MV m_X5_back 1 := ⟨tn_wi 532 (by decide +kernel), tn_wi 83 (by decide +kernel), by decide +kernel, by decide +kernel⟩
theorem im_X5_back : Cond.instanceMethod m_X5_back.1 ∈ tn_tbl := tn_wi 530 (by decide +kernel)
theorem se_X5_back : Cond.selects m_X5_back.1.cls m_X5_back.1 m_X5_back.1 ∈ tn_tbl := tn_wi 531 (by decide +kernel)
theorem mv_X5_kinds : tn_MV m_X5_kinds 1 := ⟨tn_wi 536 (by decide +kernel), tn_wi 83 (by decide +kernel), by decide +kernel, by decide +kernel⟩
theorem im_X5_kinds : Cond.instanceMethod m_X5_kinds.1 ∈ tn_tbl := tn_wi 534 (by decide +kernel)
theorem se_X5_kinds : Cond.selects m_X5_kinds.1.cls m_X5_kinds.1 m_X5_kinds.1 ∈ tn_tbl := tn_wi 535 (by decide +kernel)
theorem mv_X5_wrongs : tn_MV m_X5_wrongs 1 := ⟨tn_wi 556 (by decide +kernel), tn_wi 83 (by decide +kernel), by decide +kernel, by decide +kernel⟩
theorem im_X5_wrongs : Cond.instanceMethod m_X5_wrongs.1 ∈ tn_tbl := tn_wi 554 (by decide +kernel)
theorem se_X5_wrongs : Cond.selects m_X5_wrongs.1.cls m_X5_wrongs.1 m_X5_wrongs.1 ∈ tn_tbl := tn_wi 555 (by decide +kernel)
theorem mv_X5_steps : tn_MV m_X5_steps 0 := ⟨tn_wi 560 (by decide +kernel), tn_wi 83 (by decide +kernel), by decide +kernel, by decide +kernel⟩
theorem im_X5_steps : Cond.instanceMethod m_X5_steps.1 ∈ tn_tbl := tn_wi 558 (by decide +kernel)
theorem se_X5_steps : Cond.selects m_X5_steps.1.cls m_X5_steps.1 m_X5_steps.1 ∈ tn_tbl := tn_wi 559 (by decide +kernel)
theorem mv_X5_odds : tn_MV m_X5_odds 2 := ⟨tn_wi 564 (by decide +kernel), tn_wi 83 (by decide +kernel), by decide +kernel, by decide +kernel⟩
theorem im_X5_odds : Cond.instanceMethod m_X5_odds.1 ∈ tn_tbl := tn_wi 562 (by decide +kernel)
theorem se_X5_odds : Cond.selects m_X5_odds.1.cls m_X5_odds.1 m_X5_odds.1 ∈ tn_tbl := tn_wi 563 (by decide +kernel)
theorem mv_X5_sheet : tn_MV m_X5_sheet 3 := ⟨tn_wi 569 (by decide +kernel), tn_wi 83 (by decide +kernel), by decide +kernel, by decide +kernel⟩
theorem im_X5_sheet : Cond.instanceMethod m_X5_sheet.1 ∈ tn_tbl := tn_wi 567 (by decide +kernel)
theorem se_X5_sheet : Cond.selects m_X5_sheet.1.cls m_X5_sheet.1 m_X5_sheet.1 ∈ tn_tbl := tn_wi 568 (by decide +kernel)
theorem mv_X5_lose : tn_MV m_X5_lose 1 := ⟨tn_wi 577 (by decide +kernel), tn_wi 83 (by decide +kernel), by decide +kernel, by decide +kernel⟩
theorem im_X5_lose : Cond.instanceMethod m_X5_lose.1 ∈ tn_tbl := tn_wi 575 (by decide +kernel)
theorem se_X5_lose : Cond.selects m_X5_lose.1.cls m_X5_lose.1 m_X5_lose.1 ∈ tn_tbl := tn_wi 576 (by decide +kernel)
theorem mv_X5_put : tn_MV m_X5_put 3 := ⟨tn_wi 581 (by decide +kernel), tn_wi 83 (by decide +kernel), by decide +kernel, by decide +kernel⟩
theorem im_X5_put : Cond.instanceMethod m_X5_put.1 ∈ tn_tbl := tn_wi 579 (by decide +kernel)
theorem se_X5_put : Cond.selects m_X5_put.1.cls m_X5_put.1 m_X5_put.1 ∈ tn_tbl := tn_wi 580 (by decide +kernel)
theorem mv_X5_cell : tn_MV m_X5_cell 3 := ⟨tn_wi 589 (by decide +kernel), tn_wi 83 (by decide +kernel), by decide +kernel, by decide +kernel⟩
theorem im_X5_cell : Cond.instanceMethod m_X5_cell.1 ∈ tn_tbl := tn_wi 587 (by decide +kernel)
theorem se_X5_cell : Cond.selects m_X5_cell.1.cls m_X5_cell.1 m_X5_cell.1 ∈ tn_tbl := tn_wi 588 (by decide +kernel)
theorem mv_X5_copy : tn_MV m_X5_copy 5 := ⟨tn_wi 593 (by decide +kernel), tn_wi 83 (by decide +kernel), by decide +kernel, by decide +kernel⟩
theorem im_X5_copy : Cond.instanceMethod m_X5_copy.1 ∈ tn_tbl := tn_wi 591 (by decide +kernel)
theorem se_X5_copy : Cond.selects m_X5_copy.1.cls m_X5_copy.1 m_X5_copy.1 ∈ tn_tbl := tn_wi 592 (by decide +kernel)
theorem mv_X5_tell : tn_MV m_X5_tell 1 := ⟨tn_wi 600 (by decide +kernel), tn_wi 83 (by decide +kernel), by decide +kernel, by decide +kernel⟩
theorem im_X5_tell : Cond.instanceMethod m_X5_tell.1 ∈ tn_tbl := tn_wi 598 (by decide +kernel)
theorem se_X5_tell : Cond.selects m_X5_tell.1.cls m_X5_tell.1 m_X5_tell.1 ∈ tn_tbl := tn_wi 599 (by decide +kernel)
theorem mv_X5_knock : tn_MV m_X5_knock 1 := ⟨tn_wi 620 (by decide +kernel), tn_wi 83 (by decide +kernel), by decide +kernel, by decide +kernel⟩
theorem im_X5_knock : Cond.instanceMethod m_X5_knock.1 ∈ tn_tbl := tn_wi 618 (by decide +kernel)
theorem se_X5_knock : Cond.selects m_X5_knock.1.cls m_X5_knock.1 m_X5_knock.1 ∈ tn_tbl := tn_wi 619 (by decide +kernel)
theorem mv_X5_as : tn_MV m_X5_as 2 := ⟨tn_wi 632 (by decide +kernel), tn_wi 83 (by decide +kernel), by decide +kernel, by decide +kernel⟩
theorem im_X5_as : Cond.instanceMethod m_X5_as.1 ∈ tn_tbl := tn_wi 630 (by decide +kernel)
theorem se_X5_as : Cond.selects m_X5_as.1.cls m_X5_as.1 m_X5_as.1 ∈ tn_tbl := tn_wi 631 (by decide +kernel)
theorem mv_X5_trace : tn_MV m_X5_trace 0 := ⟨tn_wi 636 (by decide +kernel), tn_wi 83 (by decide +kernel), by decide +kernel, by decide +kernel⟩
theorem im_X5_trace : Cond.instanceMethod m_X5_trace.1 ∈ tn_tbl := tn_wi 634 (by decide +kernel)
theorem se_X5_trace : Cond.selects m_X5_trace.1.cls m_X5_trace.1 m_X5_trace.1 ∈ tn_tbl := tn_wi 635 (by decide +kernel)
theorem mv_X5_fault : tn_MV m_X5_fault 0 := ⟨tn_wi 640 (by decide +kernel), tn_wi 83 (by decide +kernel), by decide +kernel, by decide +kernel⟩
theorem im_X5_fault : Cond.instanceMethod m_X5_fault.1 ∈ tn_tbl := tn_wi 638 (by decide +kernel)
theorem se_X5_fault : Cond.selects m_X5_fault.1.cls m_X5_fault.1 m_X5_fault.1 ∈ tn_tbl := tn_wi 639 (by decide +kernel)
theorem mv_X5_many : tn_MV m_X5_many 1 := ⟨tn_wi 644 (by decide +kernel), tn_wi 83 (by decide +kernel), by decide +kernel, by decide +kernel⟩
theorem im_X5_many : Cond.instanceMethod m_X5_many.1 ∈ tn_tbl := tn_wi 642 (by decide +kernel)
theorem se_X5_many : Cond.selects m_X5_many.1.cls m_X5_many.1 m_X5_many.1 ∈ tn_tbl := tn_wi 643 (by decide +kernel)
theorem mv_X5_isWithin : tn_MV m_X5_isWithin 3 := ⟨tn_wi 250 (by decide +kernel), tn_wi 83 (by decide +kernel), by decide +kernel, by decide +kernel⟩
theorem st_X5_isWithin : Cond.static m_X5_isWithin.1 ∈ tn_tbl := tn_wi 249 (by decide +kernel)
theorem mv_X5_isSheet : tn_MV m_X5_isSheet 1 := ⟨tn_wi 247 (by decide +kernel), tn_wi 83 (by decide +kernel), by decide +kernel, by decide +kernel⟩
theorem st_X5_isSheet : Cond.static m_X5_isSheet.1 ∈ tn_tbl := tn_wi 246 (by decide +kernel)
theorem mv_X5_isLane : tn_MV m_X5_isLane 1 := ⟨tn_wi 253 (by decide +kernel), tn_wi 83 (by decide +kernel), by decide +kernel, by decide +kernel⟩
theorem st_X5_isLane : Cond.static m_X5_isLane.1 ∈ tn_tbl := tn_wi 252 (by decide +kernel)
theorem mv_X5_isAskedOfDay : tn_MV m_X5_isAskedOfDay 1 := ⟨tn_wi 426 (by decide +kernel), tn_wi 83 (by decide +kernel), by decide +kernel, by decide +kernel⟩
theorem st_X5_isAskedOfDay : Cond.static m_X5_isAskedOfDay.1 ∈ tn_tbl := tn_wi 425 (by decide +kernel)
theorem mv_X5_hasParish : tn_MV m_X5_hasParish 0 := ⟨tn_wi 395 (by decide +kernel), tn_wi 83 (by decide +kernel), by decide +kernel, by decide +kernel⟩
theorem im_X5_hasParish : Cond.instanceMethod m_X5_hasParish.1 ∈ tn_tbl := tn_wi 394 (by decide +kernel)
theorem se_X5_hasParish : Cond.selects m_X5_hasParish.1.cls m_X5_hasParish.1 m_X5_hasParish.1 ∈ tn_tbl := tn_wi 21 (by decide +kernel)
theorem mv_X5_faulted : tn_MV m_X5_faulted 1 := ⟨tn_wi 264 (by decide +kernel), tn_wi 83 (by decide +kernel), by decide +kernel, by decide +kernel⟩
theorem im_X5_faulted : Cond.instanceMethod m_X5_faulted.1 ∈ tn_tbl := tn_wi 263 (by decide +kernel)
theorem se_X5_faulted : Cond.selects m_X5_faulted.1.cls m_X5_faulted.1 m_X5_faulted.1 ∈ tn_tbl := tn_wi 1 (by decide +kernel)
theorem mv_X5_faultOfCells : tn_MV m_X5_faultOfCells 4 := ⟨tn_wi 256 (by decide +kernel), tn_wi 83 (by decide +kernel), by decide +kernel, by decide +kernel⟩
theorem st_X5_faultOfCells : Cond.static m_X5_faultOfCells.1 ∈ tn_tbl := tn_wi 255 (by decide +kernel)
theorem mv_X5_firstFaultOfText : tn_MV m_X5_firstFaultOfText 3 := ⟨tn_wi 268 (by decide +kernel), tn_wi 83 (by decide +kernel), by decide +kernel, by decide +kernel⟩
theorem im_X5_firstFaultOfText : Cond.instanceMethod m_X5_firstFaultOfText.1 ∈ tn_tbl := tn_wi 267 (by decide +kernel)
theorem se_X5_firstFaultOfText : Cond.selects m_X5_firstFaultOfText.1.cls m_X5_firstFaultOfText.1 m_X5_firstFaultOfText.1 ∈ tn_tbl := tn_wi 2 (by decide +kernel)
theorem mv_X5_areActs : tn_MV m_X5_areActs 3 := ⟨tn_wi 429 (by decide +kernel), tn_wi 83 (by decide +kernel), by decide +kernel, by decide +kernel⟩
theorem st_X5_areActs : Cond.static m_X5_areActs.1 ∈ tn_tbl := tn_wi 428 (by decide +kernel)
theorem mv_X5_firstWrongOfDay : tn_MV m_X5_firstWrongOfDay 3 := ⟨tn_wi 433 (by decide +kernel), tn_wi 83 (by decide +kernel), by decide +kernel, by decide +kernel⟩
theorem im_X5_firstWrongOfDay : Cond.instanceMethod m_X5_firstWrongOfDay.1 ∈ tn_tbl := tn_wi 432 (by decide +kernel)
theorem se_X5_firstWrongOfDay : Cond.selects m_X5_firstWrongOfDay.1.cls m_X5_firstWrongOfDay.1 m_X5_firstWrongOfDay.1 ∈ tn_tbl := tn_wi 27 (by decide +kernel)
theorem mv_X5_afterDay : tn_MV m_X5_afterDay 1 := ⟨tn_wi 453 (by decide +kernel), tn_wi 83 (by decide +kernel), by decide +kernel, by decide +kernel⟩
theorem im_X5_afterDay : Cond.instanceMethod m_X5_afterDay.1 ∈ tn_tbl := tn_wi 452 (by decide +kernel)
theorem se_X5_afterDay : Cond.selects m_X5_afterDay.1.cls m_X5_afterDay.1 m_X5_afterDay.1 ∈ tn_tbl := tn_wi 32 (by decide +kernel)
theorem mv_X5_isQuietIfOwned : tn_MV m_X5_isQuietIfOwned 2 := ⟨tn_wi 495 (by decide +kernel), tn_wi 83 (by decide +kernel), by decide +kernel, by decide +kernel⟩
theorem im_X5_isQuietIfOwned : Cond.instanceMethod m_X5_isQuietIfOwned.1 ∈ tn_tbl := tn_wi 494 (by decide +kernel)
theorem se_X5_isQuietIfOwned : Cond.selects m_X5_isQuietIfOwned.1.cls m_X5_isQuietIfOwned.1 m_X5_isQuietIfOwned.1 ∈ tn_tbl := tn_wi 37 (by decide +kernel)
theorem mv_X5_nightsIfChosen : tn_MV m_X5_nightsIfChosen 3 := ⟨tn_wi 515 (by decide +kernel), tn_wi 83 (by decide +kernel), by decide +kernel, by decide +kernel⟩
theorem im_X5_nightsIfChosen : Cond.instanceMethod m_X5_nightsIfChosen.1 ∈ tn_tbl := tn_wi 514 (by decide +kernel)
theorem se_X5_nightsIfChosen : Cond.selects m_X5_nightsIfChosen.1.cls m_X5_nightsIfChosen.1 m_X5_nightsIfChosen.1 ∈ tn_tbl := tn_wi 40 (by decide +kernel)
theorem mv_X5_isContent : tn_MV m_X5_isContent 3 := ⟨tn_wi 519 (by decide +kernel), tn_wi 83 (by decide +kernel), by decide +kernel, by decide +kernel⟩
theorem im_X5_isContent : Cond.instanceMethod m_X5_isContent.1 ∈ tn_tbl := tn_wi 518 (by decide +kernel)
theorem se_X5_isContent : Cond.selects m_X5_isContent.1.cls m_X5_isContent.1 m_X5_isContent.1 ∈ tn_tbl := tn_wi 41 (by decide +kernel)
theorem mv_X5_painOfChoice : tn_MV m_X5_painOfChoice 3 := ⟨tn_wi 523 (by decide +kernel), tn_wi 83 (by decide +kernel), by decide +kernel, by decide +kernel⟩
theorem im_X5_painOfChoice : Cond.instanceMethod m_X5_painOfChoice.1 ∈ tn_tbl := tn_wi 522 (by decide +kernel)
theorem se_X5_painOfChoice : Cond.selects m_X5_painOfChoice.1.cls m_X5_painOfChoice.1 m_X5_painOfChoice.1 ∈ tn_tbl := tn_wi 42 (by decide +kernel)
theorem mv_X5_doReadingsHoldOfTrial : tn_MV m_X5_doReadingsHoldOfTrial 0 := ⟨tn_wi 540 (by decide +kernel), tn_wi 83 (by decide +kernel), by decide +kernel, by decide +kernel⟩
theorem im_X5_doReadingsHoldOfTrial : Cond.instanceMethod m_X5_doReadingsHoldOfTrial.1 ∈ tn_tbl := tn_wi 539 (by decide +kernel)
theorem se_X5_doReadingsHoldOfTrial : Cond.selects m_X5_doReadingsHoldOfTrial.1.cls m_X5_doReadingsHoldOfTrial.1 m_X5_doReadingsHoldOfTrial.1 ∈ tn_tbl := tn_wi 43 (by decide +kernel)
theorem mv_X5_lastNightRead : tn_MV m_X5_lastNightRead 0 := ⟨tn_wi 544 (by decide +kernel), tn_wi 83 (by decide +kernel), by decide +kernel, by decide +kernel⟩
theorem im_X5_lastNightRead : Cond.instanceMethod m_X5_lastNightRead.1 ∈ tn_tbl := tn_wi 543 (by decide +kernel)
theorem se_X5_lastNightRead : Cond.selects m_X5_lastNightRead.1.cls m_X5_lastNightRead.1 m_X5_lastNightRead.1 ∈ tn_tbl := tn_wi 44 (by decide +kernel)
theorem mv_X5_isVoiceAsRead : tn_MV m_X5_isVoiceAsRead 2 := ⟨tn_wi 551 (by decide +kernel), tn_wi 83 (by decide +kernel), by decide +kernel, by decide +kernel⟩
theorem im_X5_isVoiceAsRead : Cond.instanceMethod m_X5_isVoiceAsRead.1 ∈ tn_tbl := tn_wi 550 (by decide +kernel)
theorem se_X5_isVoiceAsRead : Cond.selects m_X5_isVoiceAsRead.1.cls m_X5_isVoiceAsRead.1 m_X5_isVoiceAsRead.1 ∈ tn_tbl := tn_wi 45 (by decide +kernel)
theorem mv_X5_leaveInTrace : tn_MV m_X5_leaveInTrace 1 := ⟨tn_wi 608 (by decide +kernel), tn_wi 83 (by decide +kernel), by decide +kernel, by decide +kernel⟩
theorem im_X5_leaveInTrace : Cond.instanceMethod m_X5_leaveInTrace.1 ∈ tn_tbl := tn_wi 607 (by decide +kernel)
theorem se_X5_leaveInTrace : Cond.selects m_X5_leaveInTrace.1.cls m_X5_leaveInTrace.1 m_X5_leaveInTrace.1 ∈ tn_tbl := tn_wi 49 (by decide +kernel)
theorem mv_X5_toldAsPlain : tn_MV m_X5_toldAsPlain 1 := ⟨tn_wi 616 (by decide +kernel), tn_wi 83 (by decide +kernel), by decide +kernel, by decide +kernel⟩
theorem im_X5_toldAsPlain : Cond.instanceMethod m_X5_toldAsPlain.1 ∈ tn_tbl := tn_wi 615 (by decide +kernel)
theorem se_X5_toldAsPlain : Cond.selects m_X5_toldAsPlain.1.cls m_X5_toldAsPlain.1 m_X5_toldAsPlain.1 ∈ tn_tbl := tn_wi 51 (by decide +kernel)
theorem mv_X5_toldAsBrooding : tn_MV m_X5_toldAsBrooding 1 := ⟨tn_wi 612 (by decide +kernel), tn_wi 83 (by decide +kernel), by decide +kernel, by decide +kernel⟩
theorem im_X5_toldAsBrooding : Cond.instanceMethod m_X5_toldAsBrooding.1 ∈ tn_tbl := tn_wi 611 (by decide +kernel)
theorem se_X5_toldAsBrooding : Cond.selects m_X5_toldAsBrooding.1.cls m_X5_toldAsBrooding.1 m_X5_toldAsBrooding.1 ∈ tn_tbl := tn_wi 50 (by decide +kernel)
theorem mv_X5_toldAsDouble : tn_MV m_X5_toldAsDouble 1 := ⟨tn_wi 604 (by decide +kernel), tn_wi 83 (by decide +kernel), by decide +kernel, by decide +kernel⟩
theorem im_X5_toldAsDouble : Cond.instanceMethod m_X5_toldAsDouble.1 ∈ tn_tbl := tn_wi 603 (by decide +kernel)
theorem se_X5_toldAsDouble : Cond.selects m_X5_toldAsDouble.1.cls m_X5_toldAsDouble.1 m_X5_toldAsDouble.1 ∈ tn_tbl := tn_wi 48 (by decide +kernel)
theorem mv_X5_knockedAsLent : tn_MV m_X5_knockedAsLent 1 := ⟨tn_wi 628 (by decide +kernel), tn_wi 83 (by decide +kernel), by decide +kernel, by decide +kernel⟩
theorem im_X5_knockedAsLent : Cond.instanceMethod m_X5_knockedAsLent.1 ∈ tn_tbl := tn_wi 627 (by decide +kernel)
theorem se_X5_knockedAsLent : Cond.selects m_X5_knockedAsLent.1.cls m_X5_knockedAsLent.1 m_X5_knockedAsLent.1 ∈ tn_tbl := tn_wi 53 (by decide +kernel)
theorem mv_X5_knockedAsDouble : tn_MV m_X5_knockedAsDouble 0 := ⟨tn_wi 624 (by decide +kernel), tn_wi 83 (by decide +kernel), by decide +kernel, by decide +kernel⟩
theorem im_X5_knockedAsDouble : Cond.instanceMethod m_X5_knockedAsDouble.1 ∈ tn_tbl := tn_wi 623 (by decide +kernel)
theorem se_X5_knockedAsDouble : Cond.selects m_X5_knockedAsDouble.1.cls m_X5_knockedAsDouble.1 m_X5_knockedAsDouble.1 ∈ tn_tbl := tn_wi 52 (by decide +kernel)
theorem mv_X6_init : tn_MV m_X6_init 0 := ⟨tn_wi 649 (by decide +kernel), tn_wi 88 (by decide +kernel), by decide +kernel, by decide +kernel⟩
theorem im_X6_init : Cond.instanceMethod m_X6_init.1 ∈ tn_tbl := tn_wi 648 (by decide +kernel)
theorem mv_X6_fails : tn_MV m_X6_fails 1 := ⟨tn_wi 759 (by decide +kernel), tn_wi 88 (by decide +kernel), by decide +kernel, by decide +kernel⟩
theorem im_X6_fails : Cond.instanceMethod m_X6_fails.1 ∈ tn_tbl := tn_wi 758 (by decide +kernel)
theorem se_X6_fails : Cond.selects m_X6_fails.1.cls m_X6_fails.1 m_X6_fails.1 ∈ tn_tbl := tn_wi 55 (by decide +kernel)
theorem mv_X6_lost : tn_MV m_X6_lost 1 := ⟨tn_wi 957 (by decide +kernel), tn_wi 88 (by decide +kernel), by decide +kernel, by decide +kernel⟩
theorem im_X6_lost : Cond.instanceMethod m_X6_lost.1 ∈ tn_tbl := tn_wi 956 (by decide +kernel)
theorem se_X6_lost : Cond.selects m_X6_lost.1.cls m_X6_lost.1 m_X6_lost.1 ∈ tn_tbl := tn_wi 80 (by decide +kernel)
theorem mv_X6_within : tn_MV m_X6_within 3 := ⟨tn_wi 748 (by decide +kernel), tn_wi 88 (by decide +kernel), by decide +kernel, by decide +kernel⟩
theorem st_X6_within : Cond.static m_X6_within.1 ∈ tn_tbl := tn_wi 747 (by decide +kernel)
theorem mv_X6_isSheet : tn_MV m_X6_isSheet 1 := ⟨tn_wi 745 (by decide +kernel), tn_wi 88 (by decide +kernel), by decide +kernel, by decide +kernel⟩
theorem st_X6_isSheet : Cond.static m_X6_isSheet.1 ∈ tn_tbl := tn_wi 744 (by decide +kernel)
theorem mv_X6_isSort : tn_MV m_X6_isSort 1 := ⟨tn_wi 751 (by decide +kernel), tn_wi 88 (by decide +kernel), by decide +kernel, by decide +kernel⟩
theorem st_X6_isSort : Cond.static m_X6_isSort.1 ∈ tn_tbl := tn_wi 750 (by decide +kernel)
theorem mv_X6_against : tn_MV m_X6_against 4 := ⟨tn_wi 755 (by decide +kernel), tn_wi 88 (by decide +kernel), by decide +kernel, by decide +kernel⟩
theorem im_X6_against : Cond.instanceMethod m_X6_against.1 ∈ tn_tbl := tn_wi 754 (by decide +kernel)
theorem se_X6_against : Cond.selects m_X6_against.1.cls m_X6_against.1 m_X6_against.1 ∈ tn_tbl := tn_wi 54 (by decide +kernel)
theorem mv_X6_isHouse : tn_MV m_X6_isHouse 1 := ⟨tn_wi 791 (by decide +kernel), tn_wi 88 (by decide +kernel), by decide +kernel, by decide +kernel⟩
theorem im_X6_isHouse : Cond.instanceMethod m_X6_isHouse.1 ∈ tn_tbl := tn_wi 790 (by decide +kernel)
theorem se_X6_isHouse : Cond.selects m_X6_isHouse.1.cls m_X6_isHouse.1 m_X6_isHouse.1 ∈ tn_tbl := tn_wi 62 (by decide +kernel)
theorem mv_X6_isStone : tn_MV m_X6_isStone 1 := ⟨tn_wi 810 (by decide +kernel), tn_wi 88 (by decide +kernel), by decide +kernel, by decide +kernel⟩
theorem im_X6_isStone : Cond.instanceMethod m_X6_isStone.1 ∈ tn_tbl := tn_wi 809 (by decide +kernel)
theorem se_X6_isStone : Cond.selects m_X6_isStone.1.cls m_X6_isStone.1 m_X6_isStone.1 ∈ tn_tbl := tn_wi 65 (by decide +kernel)
theorem mv_X6_isOf : tn_MV m_X6_isOf 2 := ⟨tn_wi 802 (by decide +kernel), tn_wi 88 (by decide +kernel), by decide +kernel, by decide +kernel⟩
theorem st_X6_isOf : Cond.static m_X6_isOf.1 ∈ tn_tbl := tn_wi 801 (by decide +kernel)
theorem mv_X6_size : tn_MV m_X6_size 1 := ⟨tn_wi 889 (by decide +kernel), tn_wi 88 (by decide +kernel), by decide +kernel, by decide +kernel⟩
theorem st_X6_size : Cond.static m_X6_size.1 ∈ tn_tbl := tn_wi 888 (by decide +kernel)
theorem mv_X6_digit : tn_MV m_X6_digit 3 := ⟨tn_wi 771 (by decide +kernel), tn_wi 88 (by decide +kernel), by decide +kernel, by decide +kernel⟩
theorem im_X6_digit : Cond.instanceMethod m_X6_digit.1 ∈ tn_tbl := tn_wi 770 (by decide +kernel)
theorem se_X6_digit : Cond.selects m_X6_digit.1.cls m_X6_digit.1 m_X6_digit.1 ∈ tn_tbl := tn_wi 58 (by decide +kernel)
theorem mv_X6_isSign : tn_MV m_X6_isSign 2 := ⟨tn_wi 767 (by decide +kernel), tn_wi 88 (by decide +kernel), by decide +kernel, by decide +kernel⟩
theorem im_X6_isSign : Cond.instanceMethod m_X6_isSign.1 ∈ tn_tbl := tn_wi 766 (by decide +kernel)
theorem se_X6_isSign : Cond.selects m_X6_isSign.1.cls m_X6_isSign.1 m_X6_isSign.1 ∈ tn_tbl := tn_wi 57 (by decide +kernel)
theorem mv_X6_parish : tn_MV m_X6_parish 4 := ⟨tn_wi 742 (by decide +kernel), tn_wi 88 (by decide +kernel), by decide +kernel, by decide +kernel⟩
theorem im_X6_parish : Cond.instanceMethod m_X6_parish.1 ∈ tn_tbl := tn_wi 740 (by decide +kernel)
theorem se_X6_parish : Cond.selects m_X6_parish.1.cls m_X6_parish.1 m_X6_parish.1 ∈ tn_tbl := tn_wi 741 (by decide +kernel)
theorem mv_X6_takeParish : tn_MV m_X6_takeParish 0 := ⟨tn_wi 783 (by decide +kernel), tn_wi 88 (by decide +kernel), by decide +kernel, by decide +kernel⟩
theorem im_X6_takeParish : Cond.instanceMethod m_X6_takeParish.1 ∈ tn_tbl := tn_wi 782 (by decide +kernel)
theorem se_X6_takeParish : Cond.selects m_X6_takeParish.1.cls m_X6_takeParish.1 m_X6_takeParish.1 ∈ tn_tbl := tn_wi 61 (by decide +kernel)
theorem mv_X6_readParish : tn_MV m_X6_readParish 1 := ⟨tn_wi 763 (by decide +kernel), tn_wi 88 (by decide +kernel), by decide +kernel, by decide +kernel⟩
theorem im_X6_readParish : Cond.instanceMethod m_X6_readParish.1 ∈ tn_tbl := tn_wi 762 (by decide +kernel)
theorem se_X6_readParish : Cond.selects m_X6_readParish.1.cls m_X6_readParish.1 m_X6_readParish.1 ∈ tn_tbl := tn_wi 56 (by decide +kernel)
theorem mv_X6_readStonesAll : tn_MV m_X6_readStonesAll 1 := ⟨tn_wi 779 (by decide +kernel), tn_wi 88 (by decide +kernel), by decide +kernel, by decide +kernel⟩
theorem im_X6_readStonesAll : Cond.instanceMethod m_X6_readStonesAll.1 ∈ tn_tbl := tn_wi 778 (by decide +kernel)
theorem se_X6_readStonesAll : Cond.selects m_X6_readStonesAll.1.cls m_X6_readStonesAll.1 m_X6_readStonesAll.1 ∈ tn_tbl := tn_wi 60 (by decide +kernel)
theorem mv_X6_readHouse : tn_MV m_X6_readHouse 1 := ⟨tn_wi 775 (by decide +kernel), tn_wi 88 (by decide +kernel), by decide +kernel, by decide +kernel⟩
theorem im_X6_readHouse : Cond.instanceMethod m_X6_readHouse.1 ∈ tn_tbl := tn_wi 774 (by decide +kernel)
theorem se_X6_readHouse : Cond.selects m_X6_readHouse.1.cls m_X6_readHouse.1 m_X6_readHouse.1 ∈ tn_tbl := tn_wi 59 (by decide +kernel)
theorem mv_X6_weightOf : tn_MV m_X6_weightOf 1 := ⟨tn_wi 795 (by decide +kernel), tn_wi 88 (by decide +kernel), by decide +kernel, by decide +kernel⟩
theorem im_X6_weightOf : Cond.instanceMethod m_X6_weightOf.1 ∈ tn_tbl := tn_wi 794 (by decide +kernel)
theorem se_X6_weightOf : Cond.selects m_X6_weightOf.1.cls m_X6_weightOf.1 m_X6_weightOf.1 ∈ tn_tbl := tn_wi 63 (by decide +kernel)
theorem mv_X6_rankles : tn_MV m_X6_rankles 1 := ⟨tn_wi 799 (by decide +kernel), tn_wi 88 (by decide +kernel), by decide +kernel, by decide +kernel⟩
theorem im_X6_rankles : Cond.instanceMethod m_X6_rankles.1 ∈ tn_tbl := tn_wi 798 (by decide +kernel)
theorem se_X6_rankles : Cond.selects m_X6_rankles.1.cls m_X6_rankles.1 m_X6_rankles.1 ∈ tn_tbl := tn_wi 64 (by decide +kernel)
theorem mv_X6_whoRankle : tn_MV m_X6_whoRankle 0 := ⟨tn_wi 842 (by decide +kernel), tn_wi 88 (by decide +kernel), by decide +kernel, by decide +kernel⟩
theorem im_X6_whoRankle : Cond.instanceMethod m_X6_whoRankle.1 ∈ tn_tbl := tn_wi 841 (by decide +kernel)
theorem se_X6_whoRankle : Cond.selects m_X6_whoRankle.1.cls m_X6_whoRankle.1 m_X6_whoRankle.1 ∈ tn_tbl := tn_wi 69 (by decide +kernel)
theorem mv_X6_voiceNow : tn_MV m_X6_voiceNow 0 := ⟨tn_wi 830 (by decide +kernel), tn_wi 88 (by decide +kernel), by decide +kernel, by decide +kernel⟩
theorem im_X6_voiceNow : Cond.instanceMethod m_X6_voiceNow.1 ∈ tn_tbl := tn_wi 829 (by decide +kernel)
theorem se_X6_voiceNow : Cond.selects m_X6_voiceNow.1.cls m_X6_voiceNow.1 m_X6_voiceNow.1 ∈ tn_tbl := tn_wi 67 (by decide +kernel)
theorem mv_X6_ofHouse : tn_MV m_X6_ofHouse 2 := ⟨tn_wi 787 (by decide +kernel), tn_wi 88 (by decide +kernel), by decide +kernel, by decide +kernel⟩
theorem im_X6_ofHouse : Cond.instanceMethod m_X6_ofHouse.1 ∈ tn_tbl := tn_wi 785 (by decide +kernel)
theorem se_X6_ofHouse : Cond.selects m_X6_ofHouse.1.cls m_X6_ofHouse.1 m_X6_ofHouse.1 ∈ tn_tbl := tn_wi 786 (by decide +kernel)
theorem mv_X6_ofStone : tn_MV m_X6_ofStone 2 := ⟨tn_wi 806 (by decide +kernel), tn_wi 88 (by decide +kernel), by decide +kernel, by decide +kernel⟩
theorem im_X6_ofStone : Cond.instanceMethod m_X6_ofStone.1 ∈ tn_tbl := tn_wi 804 (by decide +kernel)
theorem se_X6_ofStone : Cond.selects m_X6_ofStone.1.cls m_X6_ofStone.1 m_X6_ofStone.1 ∈ tn_tbl := tn_wi 805 (by decide +kernel)
theorem mv_X6_sleep : tn_MV m_X6_sleep 2 := ⟨tn_wi 814 (by decide +kernel), tn_wi 88 (by decide +kernel), by decide +kernel, by decide +kernel⟩
theorem im_X6_sleep : Cond.instanceMethod m_X6_sleep.1 ∈ tn_tbl := tn_wi 812 (by decide +kernel)
theorem se_X6_sleep : Cond.selects m_X6_sleep.1.cls m_X6_sleep.1 m_X6_sleep.1 ∈ tn_tbl := tn_wi 813 (by decide +kernel)
theorem mv_X6_owns : tn_MV m_X6_owns 1 := ⟨tn_wi 822 (by decide +kernel), tn_wi 88 (by decide +kernel), by decide +kernel, by decide +kernel⟩
theorem im_X6_owns : Cond.instanceMethod m_X6_owns.1 ∈ tn_tbl := tn_wi 821 (by decide +kernel)
theorem se_X6_owns : Cond.selects m_X6_owns.1.cls m_X6_owns.1 m_X6_owns.1 ∈ tn_tbl := tn_wi 66 (by decide +kernel)
theorem mv_X6_layGreatest : tn_MV m_X6_layGreatest 0 := ⟨tn_wi 846 (by decide +kernel), tn_wi 88 (by decide +kernel), by decide +kernel, by decide +kernel⟩
theorem im_X6_layGreatest : Cond.instanceMethod m_X6_layGreatest.1 ∈ tn_tbl := tn_wi 845 (by decide +kernel)
theorem se_X6_layGreatest : Cond.selects m_X6_layGreatest.1.cls m_X6_layGreatest.1 m_X6_layGreatest.1 ∈ tn_tbl := tn_wi 70 (by decide +kernel)
theorem mv_X6_goesNight : tn_MV m_X6_goesNight 0 := ⟨tn_wi 838 (by decide +kernel), tn_wi 88 (by decide +kernel), by decide +kernel, by decide +kernel⟩
theorem im_X6_goesNight : Cond.instanceMethod m_X6_goesNight.1 ∈ tn_tbl := tn_wi 837 (by decide +kernel)
theorem se_X6_goesNight : Cond.selects m_X6_goesNight.1.cls m_X6_goesNight.1 m_X6_goesNight.1 ∈ tn_tbl := tn_wi 68 (by decide +kernel)
theorem mv_X6_own : tn_MV m_X6_own 1 := ⟨tn_wi 818 (by decide +kernel), tn_wi 88 (by decide +kernel), by decide +kernel, by decide +kernel⟩
theorem im_X6_own : Cond.instanceMethod m_X6_own.1 ∈ tn_tbl := tn_wi 816 (by decide +kernel)
theorem se_X6_own : Cond.selects m_X6_own.1.cls m_X6_own.1 m_X6_own.1 ∈ tn_tbl := tn_wi 817 (by decide +kernel)
theorem mv_X6_lay : tn_MV m_X6_lay 1 := ⟨tn_wi 826 (by decide +kernel), tn_wi 88 (by decide +kernel), by decide +kernel, by decide +kernel⟩
theorem im_X6_lay : Cond.instanceMethod m_X6_lay.1 ∈ tn_tbl := tn_wi 824 (by decide +kernel)
theorem se_X6_lay : Cond.selects m_X6_lay.1.cls m_X6_lay.1 m_X6_lay.1 ∈ tn_tbl := tn_wi 825 (by decide +kernel)
theorem mv_X6_night : tn_MV m_X6_night 1 := ⟨tn_wi 834 (by decide +kernel), tn_wi 88 (by decide +kernel), by decide +kernel, by decide +kernel⟩
theorem im_X6_night : Cond.instanceMethod m_X6_night.1 ∈ tn_tbl := tn_wi 832 (by decide +kernel)
theorem se_X6_night : Cond.selects m_X6_night.1.cls m_X6_night.1 m_X6_night.1 ∈ tn_tbl := tn_wi 833 (by decide +kernel)
theorem mv_X6_keep : tn_MV m_X6_keep 1 := ⟨tn_wi 854 (by decide +kernel), tn_wi 88 (by decide +kernel), by decide +kernel, by decide +kernel⟩
theorem im_X6_keep : Cond.instanceMethod m_X6_keep.1 ∈ tn_tbl := tn_wi 853 (by decide +kernel)
theorem se_X6_keep : Cond.selects m_X6_keep.1.cls m_X6_keep.1 m_X6_keep.1 ∈ tn_tbl := tn_wi 71 (by decide +kernel)
theorem mv_X6_putBack : tn_MV m_X6_putBack 1 := ⟨tn_wi 870 (by decide +kernel), tn_wi 88 (by decide +kernel), by decide +kernel, by decide +kernel⟩
theorem im_X6_putBack : Cond.instanceMethod m_X6_putBack.1 ∈ tn_tbl := tn_wi 869 (by decide +kernel)
theorem se_X6_putBack : Cond.selects m_X6_putBack.1.cls m_X6_putBack.1 m_X6_putBack.1 ∈ tn_tbl := tn_wi 75 (by decide +kernel)
theorem mv_X6_does : tn_MV m_X6_does 1 := ⟨tn_wi 862 (by decide +kernel), tn_wi 88 (by decide +kernel), by decide +kernel, by decide +kernel⟩
theorem im_X6_does : Cond.instanceMethod m_X6_does.1 ∈ tn_tbl := tn_wi 861 (by decide +kernel)
theorem se_X6_does : Cond.selects m_X6_does.1.cls m_X6_does.1 m_X6_does.1 ∈ tn_tbl := tn_wi 73 (by decide +kernel)
theorem mv_X6_goDay : tn_MV m_X6_goDay 2 := ⟨tn_wi 858 (by decide +kernel), tn_wi 88 (by decide +kernel), by decide +kernel, by decide +kernel⟩
theorem im_X6_goDay : Cond.instanceMethod m_X6_goDay.1 ∈ tn_tbl := tn_wi 857 (by decide +kernel)
theorem se_X6_goDay : Cond.selects m_X6_goDay.1.cls m_X6_goDay.1 m_X6_goDay.1 ∈ tn_tbl := tn_wi 72 (by decide +kernel)
theorem mv_X6_day : tn_MV m_X6_day 5 := ⟨tn_wi 850 (by decide +kernel), tn_wi 88 (by decide +kernel), by decide +kernel, by decide +kernel⟩
theorem im_X6_day : Cond.instanceMethod m_X6_day.1 ∈ tn_tbl := tn_wi 848 (by decide +kernel)
theorem se_X6_day : Cond.selects m_X6_day.1.cls m_X6_day.1 m_X6_day.1 ∈ tn_tbl := tn_wi 849 (by decide +kernel)
theorem mv_X6_tellDay : tn_MV m_X6_tellDay 2 := ⟨tn_wi 866 (by decide +kernel), tn_wi 88 (by decide +kernel), by decide +kernel, by decide +kernel⟩
theorem im_X6_tellDay : Cond.instanceMethod m_X6_tellDay.1 ∈ tn_tbl := tn_wi 865 (by decide +kernel)
theorem se_X6_tellDay : Cond.selects m_X6_tellDay.1.cls m_X6_tellDay.1 m_X6_tellDay.1 ∈ tn_tbl := tn_wi 74 (by decide +kernel)
theorem mv_X6_behind : tn_MV m_X6_behind 2 := ⟨tn_wi 874 (by decide +kernel), tn_wi 88 (by decide +kernel), by decide +kernel, by decide +kernel⟩
theorem im_X6_behind : Cond.instanceMethod m_X6_behind.1 ∈ tn_tbl := tn_wi 872 (by decide +kernel)
theorem se_X6_behind : Cond.selects m_X6_behind.1.cls m_X6_behind.1 m_X6_behind.1 ∈ tn_tbl := tn_wi 873 (by decide +kernel)
theorem mv_X6_quietIn : tn_MV m_X6_quietIn 1 := ⟨tn_wi 882 (by decide +kernel), tn_wi 88 (by decide +kernel), by decide +kernel, by decide +kernel⟩
theorem im_X6_quietIn : Cond.instanceMethod m_X6_quietIn.1 ∈ tn_tbl := tn_wi 881 (by decide +kernel)
theorem se_X6_quietIn : Cond.selects m_X6_quietIn.1.cls m_X6_quietIn.1 m_X6_quietIn.1 ∈ tn_tbl := tn_wi 76 (by decide +kernel)
theorem mv_X6_quiet : tn_MV m_X6_quiet 0 := ⟨tn_wi 878 (by decide +kernel), tn_wi 88 (by decide +kernel), by decide +kernel, by decide +kernel⟩
theorem im_X6_quiet : Cond.instanceMethod m_X6_quiet.1 ∈ tn_tbl := tn_wi 876 (by decide +kernel)
theorem se_X6_quiet : Cond.selects m_X6_quiet.1.cls m_X6_quiet.1 m_X6_quiet.1 ∈ tn_tbl := tn_wi 877 (by decide +kernel)
theorem mv_X6_fewest : tn_MV m_X6_fewest 2 := ⟨tn_wi 886 (by decide +kernel), tn_wi 88 (by decide +kernel), by decide +kernel, by decide +kernel⟩
theorem im_X6_fewest : Cond.instanceMethod m_X6_fewest.1 ∈ tn_tbl := tn_wi 884 (by decide +kernel)
theorem se_X6_fewest : Cond.selects m_X6_fewest.1.cls m_X6_fewest.1 m_X6_fewest.1 ∈ tn_tbl := tn_wi 885 (by decide +kernel)
theorem mv_X6_weightOfSet : tn_MV m_X6_weightOfSet 1 := ⟨tn_wi 897 (by decide +kernel), tn_wi 88 (by decide +kernel), by decide +kernel, by decide +kernel⟩
theorem im_X6_weightOfSet : Cond.instanceMethod m_X6_weightOfSet.1 ∈ tn_tbl := tn_wi 896 (by decide +kernel)
theorem se_X6_weightOfSet : Cond.selects m_X6_weightOfSet.1.cls m_X6_weightOfSet.1 m_X6_weightOfSet.1 ∈ tn_tbl := tn_wi 77 (by decide +kernel)
theorem mv_X6_claps : tn_MV m_X6_claps 2 := ⟨tn_wi 893 (by decide +kernel), tn_wi 88 (by decide +kernel), by decide +kernel, by decide +kernel⟩
theorem im_X6_claps : Cond.instanceMethod m_X6_claps.1 ∈ tn_tbl := tn_wi 891 (by decide +kernel)
theorem se_X6_claps : Cond.selects m_X6_claps.1.cls m_X6_claps.1 m_X6_claps.1 ∈ tn_tbl := tn_wi 892 (by decide +kernel)
theorem mv_X6_findPains : tn_MV m_X6_findPains 2 := ⟨tn_wi 905 (by decide +kernel), tn_wi 88 (by decide +kernel), by decide +kernel, by decide +kernel⟩
theorem im_X6_findPains : Cond.instanceMethod m_X6_findPains.1 ∈ tn_tbl := tn_wi 904 (by decide +kernel)
theorem se_X6_findPains : Cond.selects m_X6_findPains.1.cls m_X6_findPains.1 m_X6_findPains.1 ∈ tn_tbl := tn_wi 78 (by decide +kernel)
theorem mv_X6_rests : tn_MV m_X6_rests 2 := ⟨tn_wi 901 (by decide +kernel), tn_wi 88 (by decide +kernel), by decide +kernel, by decide +kernel⟩
theorem im_X6_rests : Cond.instanceMethod m_X6_rests.1 ∈ tn_tbl := tn_wi 899 (by decide +kernel)
theorem se_X6_rests : Cond.selects m_X6_rests.1.cls m_X6_rests.1 m_X6_rests.1 ∈ tn_tbl := tn_wi 900 (by decide +kernel)
theorem mv_X6_reading : tn_MV m_X6_reading 2 := ⟨tn_wi 909 (by decide +kernel), tn_wi 88 (by decide +kernel), by decide +kernel, by decide +kernel⟩
theorem im_X6_reading : Cond.instanceMethod m_X6_reading.1 ∈ tn_tbl := tn_wi 907 (by decide +kernel)
theorem se_X6_reading : Cond.selects m_X6_reading.1.cls m_X6_reading.1 m_X6_reading.1 ∈ tn_tbl := tn_wi 908 (by decide +kernel)
theorem mv_X6_back : tn_MV m_X6_back 1 := ⟨tn_wi 913 (by decide +kernel), tn_wi 88 (by decide +kernel), by decide +kernel, by decide +kernel⟩
theorem im_X6_back : Cond.instanceMethod m_X6_back.1 ∈ tn_tbl := tn_wi 911 (by decide +kernel)
theorem se_X6_back : Cond.selects m_X6_back.1.cls m_X6_back.1 m_X6_back.1 ∈ tn_tbl := tn_wi 912 (by decide +kernel)
theorem mv_X6_areSo : tn_MV m_X6_areSo 0 := ⟨tn_wi 921 (by decide +kernel), tn_wi 88 (by decide +kernel), by decide +kernel, by decide +kernel⟩
theorem im_X6_areSo : Cond.instanceMethod m_X6_areSo.1 ∈ tn_tbl := tn_wi 920 (by decide +kernel)
theorem se_X6_areSo : Cond.selects m_X6_areSo.1.cls m_X6_areSo.1 m_X6_areSo.1 ∈ tn_tbl := tn_wi 79 (by decide +kernel)
theorem mv_X6_kinds : tn_MV m_X6_kinds 1 := ⟨tn_wi 917 (by decide +kernel), tn_wi 88 (by decide +kernel), by decide +kernel, by decide +kernel⟩
theorem im_X6_kinds : Cond.instanceMethod m_X6_kinds.1 ∈ tn_tbl := tn_wi 915 (by decide +kernel)
theorem se_X6_kinds : Cond.selects m_X6_kinds.1.cls m_X6_kinds.1 m_X6_kinds.1 ∈ tn_tbl := tn_wi 916 (by decide +kernel)
theorem mv_X6_wrongs : tn_MV m_X6_wrongs 1 := ⟨tn_wi 925 (by decide +kernel), tn_wi 88 (by decide +kernel), by decide +kernel, by decide +kernel⟩
theorem im_X6_wrongs : Cond.instanceMethod m_X6_wrongs.1 ∈ tn_tbl := tn_wi 923 (by decide +kernel)
theorem se_X6_wrongs : Cond.selects m_X6_wrongs.1.cls m_X6_wrongs.1 m_X6_wrongs.1 ∈ tn_tbl := tn_wi 924 (by decide +kernel)
theorem mv_X6_steps : tn_MV m_X6_steps 0 := ⟨tn_wi 929 (by decide +kernel), tn_wi 88 (by decide +kernel), by decide +kernel, by decide +kernel⟩
theorem im_X6_steps : Cond.instanceMethod m_X6_steps.1 ∈ tn_tbl := tn_wi 927 (by decide +kernel)
theorem se_X6_steps : Cond.selects m_X6_steps.1.cls m_X6_steps.1 m_X6_steps.1 ∈ tn_tbl := tn_wi 928 (by decide +kernel)
theorem mv_X6_inLeastTerms : tn_MV m_X6_inLeastTerms 3 := ⟨tn_wi 937 (by decide +kernel), tn_wi 88 (by decide +kernel), by decide +kernel, by decide +kernel⟩
theorem st_X6_inLeastTerms : Cond.static m_X6_inLeastTerms.1 ∈ tn_tbl := tn_wi 936 (by decide +kernel)
theorem mv_X6_odds : tn_MV m_X6_odds 2 := ⟨tn_wi 933 (by decide +kernel), tn_wi 88 (by decide +kernel), by decide +kernel, by decide +kernel⟩
theorem im_X6_odds : Cond.instanceMethod m_X6_odds.1 ∈ tn_tbl := tn_wi 931 (by decide +kernel)
theorem se_X6_odds : Cond.selects m_X6_odds.1.cls m_X6_odds.1 m_X6_odds.1 ∈ tn_tbl := tn_wi 932 (by decide +kernel)
theorem mv_X6_sheet : tn_MV m_X6_sheet 3 := ⟨tn_wi 941 (by decide +kernel), tn_wi 88 (by decide +kernel), by decide +kernel, by decide +kernel⟩
theorem im_X6_sheet : Cond.instanceMethod m_X6_sheet.1 ∈ tn_tbl := tn_wi 939 (by decide +kernel)
theorem se_X6_sheet : Cond.selects m_X6_sheet.1.cls m_X6_sheet.1 m_X6_sheet.1 ∈ tn_tbl := tn_wi 940 (by decide +kernel)
theorem mv_X6_lose : tn_MV m_X6_lose 1 := ⟨tn_wi 945 (by decide +kernel), tn_wi 88 (by decide +kernel), by decide +kernel, by decide +kernel⟩
theorem im_X6_lose : Cond.instanceMethod m_X6_lose.1 ∈ tn_tbl := tn_wi 943 (by decide +kernel)
theorem se_X6_lose : Cond.selects m_X6_lose.1.cls m_X6_lose.1 m_X6_lose.1 ∈ tn_tbl := tn_wi 944 (by decide +kernel)
theorem mv_X6_put : tn_MV m_X6_put 3 := ⟨tn_wi 949 (by decide +kernel), tn_wi 88 (by decide +kernel), by decide +kernel, by decide +kernel⟩
theorem im_X6_put : Cond.instanceMethod m_X6_put.1 ∈ tn_tbl := tn_wi 947 (by decide +kernel)
theorem se_X6_put : Cond.selects m_X6_put.1.cls m_X6_put.1 m_X6_put.1 ∈ tn_tbl := tn_wi 948 (by decide +kernel)
theorem mv_X6_cell : tn_MV m_X6_cell 3 := ⟨tn_wi 953 (by decide +kernel), tn_wi 88 (by decide +kernel), by decide +kernel, by decide +kernel⟩
theorem im_X6_cell : Cond.instanceMethod m_X6_cell.1 ∈ tn_tbl := tn_wi 951 (by decide +kernel)
theorem se_X6_cell : Cond.selects m_X6_cell.1.cls m_X6_cell.1 m_X6_cell.1 ∈ tn_tbl := tn_wi 952 (by decide +kernel)
theorem mv_X6_copy : tn_MV m_X6_copy 5 := ⟨tn_wi 961 (by decide +kernel), tn_wi 88 (by decide +kernel), by decide +kernel, by decide +kernel⟩
theorem im_X6_copy : Cond.instanceMethod m_X6_copy.1 ∈ tn_tbl := tn_wi 959 (by decide +kernel)
theorem se_X6_copy : Cond.selects m_X6_copy.1.cls m_X6_copy.1 m_X6_copy.1 ∈ tn_tbl := tn_wi 960 (by decide +kernel)
theorem mv_X6_begins : tn_MV m_X6_begins 1 := ⟨tn_wi 969 (by decide +kernel), tn_wi 88 (by decide +kernel), by decide +kernel, by decide +kernel⟩
theorem im_X6_begins : Cond.instanceMethod m_X6_begins.1 ∈ tn_tbl := tn_wi 968 (by decide +kernel)
theorem se_X6_begins : Cond.selects m_X6_begins.1.cls m_X6_begins.1 m_X6_begins.1 ∈ tn_tbl := tn_wi 81 (by decide +kernel)
theorem mv_X6_tell : tn_MV m_X6_tell 1 := ⟨tn_wi 965 (by decide +kernel), tn_wi 88 (by decide +kernel), by decide +kernel, by decide +kernel⟩
theorem im_X6_tell : Cond.instanceMethod m_X6_tell.1 ∈ tn_tbl := tn_wi 963 (by decide +kernel)
theorem se_X6_tell : Cond.selects m_X6_tell.1.cls m_X6_tell.1 m_X6_tell.1 ∈ tn_tbl := tn_wi 964 (by decide +kernel)
theorem mv_X6_knock : tn_MV m_X6_knock 1 := ⟨tn_wi 973 (by decide +kernel), tn_wi 88 (by decide +kernel), by decide +kernel, by decide +kernel⟩
theorem im_X6_knock : Cond.instanceMethod m_X6_knock.1 ∈ tn_tbl := tn_wi 971 (by decide +kernel)
theorem se_X6_knock : Cond.selects m_X6_knock.1.cls m_X6_knock.1 m_X6_knock.1 ∈ tn_tbl := tn_wi 972 (by decide +kernel)
theorem mv_X6_as : tn_MV m_X6_as 2 := ⟨tn_wi 977 (by decide +kernel), tn_wi 88 (by decide +kernel), by decide +kernel, by decide +kernel⟩
theorem im_X6_as : Cond.instanceMethod m_X6_as.1 ∈ tn_tbl := tn_wi 975 (by decide +kernel)
theorem se_X6_as : Cond.selects m_X6_as.1.cls m_X6_as.1 m_X6_as.1 ∈ tn_tbl := tn_wi 976 (by decide +kernel)
theorem mv_X6_trace : tn_MV m_X6_trace 0 := ⟨tn_wi 981 (by decide +kernel), tn_wi 88 (by decide +kernel), by decide +kernel, by decide +kernel⟩
theorem im_X6_trace : Cond.instanceMethod m_X6_trace.1 ∈ tn_tbl := tn_wi 979 (by decide +kernel)
theorem se_X6_trace : Cond.selects m_X6_trace.1.cls m_X6_trace.1 m_X6_trace.1 ∈ tn_tbl := tn_wi 980 (by decide +kernel)
theorem mv_X6_fault : tn_MV m_X6_fault 0 := ⟨tn_wi 985 (by decide +kernel), tn_wi 88 (by decide +kernel), by decide +kernel, by decide +kernel⟩
theorem im_X6_fault : Cond.instanceMethod m_X6_fault.1 ∈ tn_tbl := tn_wi 983 (by decide +kernel)
theorem se_X6_fault : Cond.selects m_X6_fault.1.cls m_X6_fault.1 m_X6_fault.1 ∈ tn_tbl := tn_wi 984 (by decide +kernel)
theorem mv_X6_many : tn_MV m_X6_many 1 := ⟨tn_wi 989 (by decide +kernel), tn_wi 88 (by decide +kernel), by decide +kernel, by decide +kernel⟩
theorem im_X6_many : Cond.instanceMethod m_X6_many.1 ∈ tn_tbl := tn_wi 987 (by decide +kernel)
theorem se_X6_many : Cond.selects m_X6_many.1.cls m_X6_many.1 m_X6_many.1 ∈ tn_tbl := tn_wi 988 (by decide +kernel)
theorem mv_J_bitCount : tn_MV m_J_bitCount 1 := ⟨tn_wi 484 (by decide +kernel), tn_wi 91 (by decide +kernel), by decide +kernel, by decide +kernel⟩
theorem st_J_bitCount : Cond.static m_J_bitCount.1 ∈ tn_tbl := tn_wi 483 (by decide +kernel)
end
section
theorem fl_0_9 : tn_FL "ThunderOwned$House" 9 0 0 := ⟨_, tn_T0, tn_ty0, by decide, rfl, by decide, tn_us0, tn_tk0, tn_nm0, rfl, Or.inl (tn_wi 116 (by decide +kernel))⟩
theorem fk_0_0_0 : tn_FK "ThunderOwned$House" 0 0 0 := ⟨_, tn_T0, rfl, by decide +kernel, rfl⟩
theorem fl_0_15 : tn_FL "ThunderOwned$House" 15 0 1 := ⟨_, tn_T0, tn_ty0, by decide, rfl, by decide, tn_us0, tn_tk0, tn_nm0, rfl, Or.inl (tn_wi 119 (by decide +kernel))⟩
theorem fk_0_0_1 : tn_FK "ThunderOwned$House" 0 1 0 := ⟨_, tn_T0, rfl, by decide +kernel, rfl⟩
theorem fl_0_18 : tn_FL "ThunderOwned$House" 18 0 2 := ⟨_, tn_T0, tn_ty0, by decide, rfl, by decide, tn_us0, tn_tk0, tn_nm0, rfl, Or.inl (tn_wi 122 (by decide +kernel))⟩
theorem fk_0_0_2 : tn_FK "ThunderOwned$House" 0 2 0 := ⟨_, tn_T0, rfl, by decide +kernel, rfl⟩
theorem fl_0_21 : tn_FL "ThunderOwned$House" 21 0 3 := ⟨_, tn_T0, tn_ty0, by decide, rfl, by decide, tn_us0, tn_tk0, tn_nm0, rfl, Or.inl (tn_wi 125 (by decide +kernel))⟩
theorem fk_0_0_3 : tn_FK "ThunderOwned$House" 0 3 0 := ⟨_, tn_T0, rfl, by decide +kernel, rfl⟩
theorem fl_0_24 : tn_FL "ThunderOwned$House" 24 0 4 := ⟨_, tn_T0, tn_ty0, by decide, rfl, by decide, tn_us0, tn_tk0, tn_nm0, rfl, Or.inl (tn_wi 128 (by decide +kernel))⟩
theorem fk_0_0_4 : tn_FK "ThunderOwned$House" 0 4 1 := ⟨_, tn_T0, rfl, by decide +kernel, rfl⟩
theorem ml_0_28 : tn_ML "ThunderOwned$House" 28 m_X0_weight.1 := Or.inl (tn_wi 356 (by decide +kernel))
theorem ml_0_32 : tn_ML "ThunderOwned$House" 32 m_X0_rankles.1 := Or.inl (tn_wi 377 (by decide +kernel))
theorem ml_1_36 : tn_ML "ThunderOwned$Parish" 36 m_X0_init.1 := Or.inr ⟨"ThunderOwned", tn_wni 112 (by decide +kernel)⟩
theorem ml_1_37 : tn_ML "ThunderOwned$Parish" 37 m_X3_init.1 := Or.inr ⟨"ThunderOwned", tn_wni 143 (by decide +kernel)⟩
theorem fl_1_13 : tn_FL "ThunderOwned$Parish" 13 1 0 := ⟨_, tn_T1, tn_ty1, by decide, rfl, by decide, tn_us1, tn_tk1, tn_nm1, rfl, Or.inl (tn_wi 158 (by decide +kernel))⟩
theorem fk_1_1_0 : tn_FK "ThunderOwned$Parish" 1 0 2 := ⟨_, tn_T1, rfl, rfl, rfl, Or.inr ⟨.object "ThunderOwned$House", by decide +kernel⟩⟩
theorem fo_1_13 : ∀ (C : String) (T : u_T), tn_cl[1]? = some (C, T, tn_N 1) → Cond.fieldLink "ThunderOwned$Parish" 13 C (T 0).2.1 (T 0).2.2.1 ∈ tn_tbl := by
  intro C T h
  cases h
  exact tn_wi 158 (by decide +kernel)
theorem fl_1_19 : tn_FL "ThunderOwned$Parish" 19 1 1 := ⟨_, tn_T1, tn_ty1, by decide, rfl, by decide, tn_us1, tn_tk1, tn_nm1, rfl, Or.inl (tn_wi 160 (by decide +kernel))⟩
theorem fk_1_1_1 : tn_FK "ThunderOwned$Parish" 1 1 2 := ⟨_, tn_T1, rfl, rfl, rfl, Or.inr ⟨.object "ThunderOwned$Stone", by decide +kernel⟩⟩
theorem fo_1_19 : ∀ (C : String) (T : u_T), tn_cl[1]? = some (C, T, tn_N 1) → Cond.fieldLink "ThunderOwned$Parish" 19 C (T 1).2.1 (T 1).2.2.1 ∈ tn_tbl := by
  intro C T h
  cases h
  exact tn_wi 160 (by decide +kernel)
theorem fl_1_23 : tn_FL "ThunderOwned$Parish" 23 1 2 := ⟨_, tn_T1, tn_ty1, by decide, rfl, by decide, tn_us1, tn_tk1, tn_nm1, rfl, Or.inl (tn_wi 162 (by decide +kernel))⟩
theorem fk_1_1_2 : tn_FK "ThunderOwned$Parish" 1 2 0 := ⟨_, tn_T1, rfl, by decide +kernel, rfl⟩
theorem fl_1_27 : tn_FL "ThunderOwned$Parish" 27 1 3 := ⟨_, tn_T1, tn_ty1, by decide, rfl, by decide, tn_us1, tn_tk1, tn_nm1, rfl, Or.inl (tn_wi 165 (by decide +kernel))⟩
theorem fk_1_1_3 : tn_FK "ThunderOwned$Parish" 1 3 0 := ⟨_, tn_T1, rfl, by decide +kernel, rfl⟩
theorem fl_1_30 : tn_FL "ThunderOwned$Parish" 30 1 4 := ⟨_, tn_T1, tn_ty1, by decide, rfl, by decide, tn_us1, tn_tk1, tn_nm1, rfl, Or.inl (tn_wi 168 (by decide +kernel))⟩
theorem fk_1_1_4 : tn_FK "ThunderOwned$Parish" 1 4 0 := ⟨_, tn_T1, rfl, by decide +kernel, rfl⟩
theorem fl_1_33 : tn_FL "ThunderOwned$Parish" 33 1 5 := ⟨_, tn_T1, tn_ty1, by decide, rfl, by decide, tn_us1, tn_tk1, tn_nm1, rfl, Or.inl (tn_wi 171 (by decide +kernel))⟩
theorem fk_1_1_5 : tn_FK "ThunderOwned$Parish" 1 5 0 := ⟨_, tn_T1, rfl, by decide +kernel, rfl⟩
theorem fl_1_38 : tn_FL "ThunderOwned$Parish" 38 0 0 := ⟨_, tn_T0, tn_ty0, by decide, rfl, by decide, tn_us0, tn_tk0, tn_nm0, rfl, Or.inr ⟨"ThunderOwned", tn_wni 118 (by decide +kernel)⟩⟩
theorem fk_1_0_0 : tn_FK "ThunderOwned$Parish" 0 0 0 := ⟨_, tn_T0, rfl, by decide +kernel, rfl⟩
theorem fl_1_41 : tn_FL "ThunderOwned$Parish" 41 0 1 := ⟨_, tn_T0, tn_ty0, by decide, rfl, by decide, tn_us0, tn_tk0, tn_nm0, rfl, Or.inr ⟨"ThunderOwned", tn_wni 121 (by decide +kernel)⟩⟩
theorem fk_1_0_1 : tn_FK "ThunderOwned$Parish" 0 1 0 := ⟨_, tn_T0, rfl, by decide +kernel, rfl⟩
theorem fl_1_44 : tn_FL "ThunderOwned$Parish" 44 0 2 := ⟨_, tn_T0, tn_ty0, by decide, rfl, by decide, tn_us0, tn_tk0, tn_nm0, rfl, Or.inr ⟨"ThunderOwned", tn_wni 124 (by decide +kernel)⟩⟩
theorem fk_1_0_2 : tn_FK "ThunderOwned$Parish" 0 2 0 := ⟨_, tn_T0, rfl, by decide +kernel, rfl⟩
theorem fl_1_47 : tn_FL "ThunderOwned$Parish" 47 0 3 := ⟨_, tn_T0, tn_ty0, by decide, rfl, by decide, tn_us0, tn_tk0, tn_nm0, rfl, Or.inr ⟨"ThunderOwned", tn_wni 127 (by decide +kernel)⟩⟩
theorem fk_1_0_3 : tn_FK "ThunderOwned$Parish" 0 3 0 := ⟨_, tn_T0, rfl, by decide +kernel, rfl⟩
theorem fl_1_50 : tn_FL "ThunderOwned$Parish" 50 0 4 := ⟨_, tn_T0, tn_ty0, by decide, rfl, by decide, tn_us0, tn_tk0, tn_nm0, rfl, Or.inr ⟨"ThunderOwned", tn_wni 130 (by decide +kernel)⟩⟩
theorem fk_1_0_4 : tn_FK "ThunderOwned$Parish" 0 4 1 := ⟨_, tn_T0, rfl, by decide +kernel, rfl⟩
theorem fl_1_54 : tn_FL "ThunderOwned$Parish" 54 3 0 := ⟨_, tn_T3, tn_ty3, by decide, rfl, by decide, tn_us3, tn_tk3, tn_nm3, rfl, Or.inr ⟨"ThunderOwned", tn_wni 149 (by decide +kernel)⟩⟩
theorem fk_1_3_0 : tn_FK "ThunderOwned$Parish" 3 0 0 := ⟨_, tn_T3, rfl, by decide +kernel, rfl⟩
theorem fl_1_57 : tn_FL "ThunderOwned$Parish" 57 3 1 := ⟨_, tn_T3, tn_ty3, by decide, rfl, by decide, tn_us3, tn_tk3, tn_nm3, rfl, Or.inr ⟨"ThunderOwned", tn_wni 152 (by decide +kernel)⟩⟩
theorem fk_1_3_1 : tn_FK "ThunderOwned$Parish" 3 1 1 := ⟨_, tn_T3, rfl, by decide +kernel, rfl⟩
theorem ml_1_60 : tn_ML "ThunderOwned$Parish" 60 m_X0_become.1 := Or.inr ⟨"ThunderOwned", tn_wni 332 (by decide +kernel)⟩
theorem ml_1_64 : tn_ML "ThunderOwned$Parish" 64 m_X3_become.1 := Or.inr ⟨"ThunderOwned", tn_wni 336 (by decide +kernel)⟩
theorem ml_1_67 : tn_ML "ThunderOwned$Parish" 67 m_X0_rankles.1 := Or.inr ⟨"ThunderOwned", tn_wni 386 (by decide +kernel)⟩
theorem ml_1_71 : tn_ML "ThunderOwned$Parish" 71 m_X0_weight.1 := Or.inr ⟨"ThunderOwned", tn_wni 387 (by decide +kernel)⟩
theorem ml_1_75 : tn_ML "ThunderOwned$Parish" 75 m_X1_ranklingSet.1 := Or.inl (tn_wi 411 (by decide +kernel))
theorem ml_1_78 : tn_ML "ThunderOwned$Parish" 78 m_X0_ownUp.1 := Or.inr ⟨"ThunderOwned", tn_wni 410 (by decide +kernel)⟩
theorem ml_1_81 : tn_ML "ThunderOwned$Parish" 81 m_X1_voice.1 := Or.inl (tn_wi 404 (by decide +kernel))
theorem ml_1_84 : tn_ML "ThunderOwned$Parish" 84 m_X1_hasHouse.1 := Or.inl (tn_wi 405 (by decide +kernel))
theorem ml_1_88 : tn_ML "ThunderOwned$Parish" 88 m_X1_loseSleep.1 := Or.inl (tn_wi 406 (by decide +kernel))
theorem ml_1_91 : tn_ML "ThunderOwned$Parish" 91 m_X1_layHeaviestStone.1 := Or.inl (tn_wi 415 (by decide +kernel))
theorem ml_1_94 : tn_ML "ThunderOwned$Parish" 94 m_X1_passNight.1 := Or.inl (tn_wi 400 (by decide +kernel))
theorem ml_1_97 : tn_ML "ThunderOwned$Parish" 97 m_X1_hasStone.1 := Or.inl (tn_wi 419 (by decide +kernel))
theorem ml_1_100 : tn_ML "ThunderOwned$Parish" 100 m_J_min.1 := Or.inl (tn_wi 471 (by decide +kernel))
theorem ml_1_106 : tn_ML "ThunderOwned$Parish" 106 m_X1_ownsAsAct.1 := Or.inl (tn_wi 438 (by decide +kernel))
theorem ml_1_109 : tn_ML "ThunderOwned$Parish" 109 m_X1_sleepsAsAct.1 := Or.inl (tn_wi 442 (by decide +kernel))
theorem ml_1_112 : tn_ML "ThunderOwned$Parish" 112 m_X1_isLaidAsAct.1 := Or.inl (tn_wi 446 (by decide +kernel))
theorem fl_2_9 : tn_FL "ThunderOwned$Sheet" 9 2 0 := ⟨_, tn_T2, tn_ty2, by decide, rfl, by decide, tn_us2, tn_tk2, tn_nm2, rfl, Or.inl (tn_wi 193 (by decide +kernel))⟩
theorem fk_2_2_0 : tn_FK "ThunderOwned$Sheet" 2 0 2 := ⟨_, tn_T2, rfl, rfl, rfl, Or.inr ⟨.int, by decide +kernel⟩⟩
theorem fo_2_9 : ∀ (C : String) (T : u_T), tn_cl[2]? = some (C, T, tn_N 2) → Cond.fieldLink "ThunderOwned$Sheet" 9 C (T 0).2.1 (T 0).2.2.1 ∈ tn_tbl := by
  intro C T h
  cases h
  exact tn_wi 193 (by decide +kernel)
theorem fl_2_15 : tn_FL "ThunderOwned$Sheet" 15 2 1 := ⟨_, tn_T2, tn_ty2, by decide, rfl, by decide, tn_us2, tn_tk2, tn_nm2, rfl, Or.inl (tn_wi 195 (by decide +kernel))⟩
theorem fk_2_2_1 : tn_FK "ThunderOwned$Sheet" 2 1 1 := ⟨_, tn_T2, rfl, by decide +kernel, rfl⟩
theorem fl_2_19 : tn_FL "ThunderOwned$Sheet" 19 2 2 := ⟨_, tn_T2, tn_ty2, by decide, rfl, by decide, tn_us2, tn_tk2, tn_nm2, rfl, Or.inl (tn_wi 197 (by decide +kernel))⟩
theorem fk_2_2_2 : tn_FK "ThunderOwned$Sheet" 2 2 0 := ⟨_, tn_T2, rfl, by decide +kernel, rfl⟩
theorem fl_2_23 : tn_FL "ThunderOwned$Sheet" 23 2 3 := ⟨_, tn_T2, tn_ty2, by decide, rfl, by decide, tn_us2, tn_tk2, tn_nm2, rfl, Or.inl (tn_wi 199 (by decide +kernel))⟩
theorem fk_2_2_3 : tn_FK "ThunderOwned$Sheet" 2 3 0 := ⟨_, tn_T2, rfl, by decide +kernel, rfl⟩
theorem fl_3_7 : tn_FL "ThunderOwned$Stone" 7 3 0 := ⟨_, tn_T3, tn_ty3, by decide, rfl, by decide, tn_us3, tn_tk3, tn_nm3, rfl, Or.inl (tn_wi 147 (by decide +kernel))⟩
theorem fk_3_3_0 : tn_FK "ThunderOwned$Stone" 3 0 0 := ⟨_, tn_T3, rfl, by decide +kernel, rfl⟩
theorem fl_3_13 : tn_FL "ThunderOwned$Stone" 13 3 1 := ⟨_, tn_T3, tn_ty3, by decide, rfl, by decide, tn_us3, tn_tk3, tn_nm3, rfl, Or.inl (tn_wi 150 (by decide +kernel))⟩
theorem fk_3_3_1 : tn_FK "ThunderOwned$Stone" 3 1 1 := ⟨_, tn_T3, rfl, by decide +kernel, rfl⟩
theorem ml_4_25 : tn_ML "ThunderOwned$TextReader" 25 m_X1_empty.1 := Or.inr ⟨"ThunderOwned", tn_wni 275 (by decide +kernel)⟩
theorem fl_4_11 : tn_FL "ThunderOwned$TextReader" 11 4 1 := ⟨_, tn_T4, tn_ty4, by decide, rfl, by decide, tn_us4, tn_tk4, tn_nm4, rfl, Or.inl (tn_wi 280 (by decide +kernel))⟩
theorem fk_4_4_1 : tn_FK "ThunderOwned$TextReader" 4 1 0 := ⟨_, tn_T4, rfl, by decide +kernel, rfl⟩
theorem fl_4_15 : tn_FL "ThunderOwned$TextReader" 15 4 2 := ⟨_, tn_T4, tn_ty4, by decide, rfl, by decide, tn_us4, tn_tk4, tn_nm4, rfl, Or.inl (tn_wi 281 (by decide +kernel))⟩
theorem fk_4_4_2 : tn_FK "ThunderOwned$TextReader" 4 2 0 := ⟨_, tn_T4, rfl, by decide +kernel, rfl⟩
theorem fl_4_18 : tn_FL "ThunderOwned$TextReader" 18 4 3 := ⟨_, tn_T4, tn_ty4, by decide, rfl, by decide, tn_us4, tn_tk4, tn_nm4, rfl, Or.inl (tn_wi 282 (by decide +kernel))⟩
theorem fk_4_4_3 : tn_FK "ThunderOwned$TextReader" 4 3 0 := ⟨_, tn_T4, rfl, by decide +kernel, rfl⟩
theorem fl_4_21 : tn_FL "ThunderOwned$TextReader" 21 4 0 := ⟨_, tn_T4, tn_ty4, by decide, rfl, by decide, tn_us4, tn_tk4, tn_nm4, rfl, Or.inl (tn_wi 279 (by decide +kernel))⟩
theorem fk_4_4_0 : tn_FK "ThunderOwned$TextReader" 4 0 2 := ⟨_, tn_T4, rfl, rfl, rfl, Or.inl ⟨"ThunderOwned$Parish", by decide +kernel⟩⟩
theorem fo_4_21 : ∀ (C : String) (T : u_T), tn_cl[4]? = some (C, T, tn_N 4) → Cond.fieldLink "ThunderOwned$TextReader" 21 C (T 0).2.1 (T 0).2.2.1 ∈ tn_tbl := by
  intro C T h
  cases h
  exact tn_wi 279 (by decide +kernel)
theorem ml_4_30 : tn_ML "ThunderOwned$TextReader" 30 m_X4_goesOn.1 := Or.inl (tn_wi 296 (by decide +kernel))
theorem ml_4_37 : tn_ML "ThunderOwned$TextReader" 37 m_X5_isWithin.1 := Or.inr ⟨"ThunderOwned", tn_wni 300 (by decide +kernel)⟩
theorem ml_4_41 : tn_ML "ThunderOwned$TextReader" 41 m_X4_kindOfLetter.1 := Or.inl (tn_wi 301 (by decide +kernel))
theorem ml_4_45 : tn_ML "ThunderOwned$TextReader" 45 m_X4_takesSleep.1 := Or.inl (tn_wi 304 (by decide +kernel))
theorem ml_4_49 : tn_ML "ThunderOwned$TextReader" 49 m_X4_takesAfterHouse.1 := Or.inl (tn_wi 312 (by decide +kernel))
theorem ml_4_52 : tn_ML "ThunderOwned$TextReader" 52 m_X4_takesStone.1 := Or.inl (tn_wi 316 (by decide +kernel))
theorem fl_4_34 : tn_FL "ThunderOwned$TextReader" 34 1 4 := ⟨_, tn_T1, tn_ty1, by decide, rfl, by decide, tn_us1, tn_tk1, tn_nm1, rfl, Or.inr ⟨"ThunderOwned", tn_wni 169 (by decide +kernel)⟩⟩
theorem fk_4_1_4 : tn_FK "ThunderOwned$TextReader" 1 4 0 := ⟨_, tn_T1, rfl, by decide +kernel, rfl⟩
theorem ml_4_55 : tn_ML "ThunderOwned$TextReader" 55 m_X1_addHouse.1 := Or.inr ⟨"ThunderOwned", tn_wni 308 (by decide +kernel)⟩
theorem fl_4_59 : tn_FL "ThunderOwned$TextReader" 59 1 2 := ⟨_, tn_T1, tn_ty1, by decide, rfl, by decide, tn_us1, tn_tk1, tn_nm1, rfl, Or.inr ⟨"ThunderOwned", tn_wni 164 (by decide +kernel)⟩⟩
theorem ml_4_65 : tn_ML "ThunderOwned$TextReader" 65 m_X1_addStone.1 := Or.inr ⟨"ThunderOwned", tn_wni 320 (by decide +kernel)⟩
theorem fl_4_62 : tn_FL "ThunderOwned$TextReader" 62 1 3 := ⟨_, tn_T1, tn_ty1, by decide, rfl, by decide, tn_us1, tn_tk1, tn_nm1, rfl, Or.inr ⟨"ThunderOwned", tn_wni 166 (by decide +kernel)⟩⟩
theorem ml_5_11 : tn_ML "ThunderOwned" 11 m_X1_init.1 := Or.inr ⟨"ThunderOwned", tn_wni 103 (by decide +kernel)⟩
theorem ml_5_50 : tn_ML "ThunderOwned" 50 m_X2_init.1 := Or.inr ⟨"ThunderOwned", tn_wni 189 (by decide +kernel)⟩
theorem fl_5_12 : tn_FL "ThunderOwned" 12 5 0 := ⟨_, tn_T5, tn_ty5, by decide, rfl, by decide, tn_us5, tn_tk5, tn_nm5, rfl, Or.inl (tn_wi 210 (by decide +kernel))⟩
theorem fk_5_5_0 : tn_FK "ThunderOwned" 5 0 2 := ⟨_, tn_T5, rfl, rfl, rfl, Or.inl ⟨"ThunderOwned$Parish", by decide +kernel⟩⟩
theorem fo_5_12 : ∀ (C : String) (T : u_T), tn_cl[5]? = some (C, T, tn_N 5) → Cond.fieldLink "ThunderOwned" 12 C (T 0).2.1 (T 0).2.2.1 ∈ tn_tbl := by
  intro C T h
  cases h
  exact tn_wi 210 (by decide +kernel)
theorem fl_5_18 : tn_FL "ThunderOwned" 18 5 1 := ⟨_, tn_T5, tn_ty5, by decide, rfl, by decide, tn_us5, tn_tk5, tn_nm5, rfl, Or.inl (tn_wi 211 (by decide +kernel))⟩
theorem fk_5_5_1 : tn_FK "ThunderOwned" 5 1 2 := ⟨_, tn_T5, rfl, rfl, rfl, Or.inl ⟨"ThunderOwned$Parish", by decide +kernel⟩⟩
theorem fo_5_18 : ∀ (C : String) (T : u_T), tn_cl[5]? = some (C, T, tn_N 5) → Cond.fieldLink "ThunderOwned" 18 C (T 1).2.1 (T 1).2.2.1 ∈ tn_tbl := by
  intro C T h
  cases h
  exact tn_wi 211 (by decide +kernel)
theorem fl_5_23 : tn_FL "ThunderOwned" 23 5 2 := ⟨_, tn_T5, tn_ty5, by decide, rfl, by decide, tn_us5, tn_tk5, tn_nm5, rfl, Or.inl (tn_wi 212 (by decide +kernel))⟩
theorem fk_5_5_2 : tn_FK "ThunderOwned" 5 2 2 := ⟨_, tn_T5, rfl, rfl, rfl, Or.inr ⟨.object "ThunderOwned$Sheet", by decide +kernel⟩⟩
theorem fo_5_23 : ∀ (C : String) (T : u_T), tn_cl[5]? = some (C, T, tn_N 5) → Cond.fieldLink "ThunderOwned" 23 C (T 2).2.1 (T 2).2.2.1 ∈ tn_tbl := by
  intro C T h
  cases h
  exact tn_wi 212 (by decide +kernel)
theorem fl_5_27 : tn_FL "ThunderOwned" 27 5 3 := ⟨_, tn_T5, tn_ty5, by decide, rfl, by decide, tn_us5, tn_tk5, tn_nm5, rfl, Or.inl (tn_wi 213 (by decide +kernel))⟩
theorem fk_5_5_3 : tn_FK "ThunderOwned" 5 3 2 := ⟨_, tn_T5, rfl, rfl, rfl, Or.inr ⟨.int, by decide +kernel⟩⟩
theorem fo_5_27 : ∀ (C : String) (T : u_T), tn_cl[5]? = some (C, T, tn_N 5) → Cond.fieldLink "ThunderOwned" 27 C (T 3).2.1 (T 3).2.2.1 ∈ tn_tbl := by
  intro C T h
  cases h
  exact tn_wi 213 (by decide +kernel)
theorem fl_5_31 : tn_FL "ThunderOwned" 31 5 4 := ⟨_, tn_T5, tn_ty5, by decide, rfl, by decide, tn_us5, tn_tk5, tn_nm5, rfl, Or.inl (tn_wi 214 (by decide +kernel))⟩
theorem fk_5_5_4 : tn_FK "ThunderOwned" 5 4 2 := ⟨_, tn_T5, rfl, rfl, rfl, Or.inr ⟨.int, by decide +kernel⟩⟩
theorem fo_5_31 : ∀ (C : String) (T : u_T), tn_cl[5]? = some (C, T, tn_N 5) → Cond.fieldLink "ThunderOwned" 31 C (T 4).2.1 (T 4).2.2.1 ∈ tn_tbl := by
  intro C T h
  cases h
  exact tn_wi 214 (by decide +kernel)
theorem fl_5_34 : tn_FL "ThunderOwned" 34 5 5 := ⟨_, tn_T5, tn_ty5, by decide, rfl, by decide, tn_us5, tn_tk5, tn_nm5, rfl, Or.inl (tn_wi 215 (by decide +kernel))⟩
theorem fk_5_5_5 : tn_FK "ThunderOwned" 5 5 2 := ⟨_, tn_T5, rfl, rfl, rfl, Or.inr ⟨.int, by decide +kernel⟩⟩
theorem fo_5_34 : ∀ (C : String) (T : u_T), tn_cl[5]? = some (C, T, tn_N 5) → Cond.fieldLink "ThunderOwned" 34 C (T 5).2.1 (T 5).2.2.1 ∈ tn_tbl := by
  intro C T h
  cases h
  exact tn_wi 215 (by decide +kernel)
theorem fl_5_37 : tn_FL "ThunderOwned" 37 5 6 := ⟨_, tn_T5, tn_ty5, by decide, rfl, by decide, tn_us5, tn_tk5, tn_nm5, rfl, Or.inl (tn_wi 216 (by decide +kernel))⟩
theorem fk_5_5_6 : tn_FK "ThunderOwned" 5 6 0 := ⟨_, tn_T5, rfl, by decide +kernel, rfl⟩
theorem fl_5_41 : tn_FL "ThunderOwned" 41 5 7 := ⟨_, tn_T5, tn_ty5, by decide, rfl, by decide, tn_us5, tn_tk5, tn_nm5, rfl, Or.inl (tn_wi 217 (by decide +kernel))⟩
theorem fk_5_5_7 : tn_FK "ThunderOwned" 5 7 0 := ⟨_, tn_T5, rfl, by decide +kernel, rfl⟩
theorem fl_5_44 : tn_FL "ThunderOwned" 44 5 8 := ⟨_, tn_T5, tn_ty5, by decide, rfl, by decide, tn_us5, tn_tk5, tn_nm5, rfl, Or.inl (tn_wi 218 (by decide +kernel))⟩
theorem fk_5_5_8 : tn_FK "ThunderOwned" 5 8 0 := ⟨_, tn_T5, rfl, by decide +kernel, rfl⟩
theorem fl_5_47 : tn_FL "ThunderOwned" 47 5 9 := ⟨_, tn_T5, tn_ty5, by decide, rfl, by decide, tn_us5, tn_tk5, tn_nm5, rfl, Or.inl (tn_wi 219 (by decide +kernel))⟩
theorem fk_5_5_9 : tn_FK "ThunderOwned" 5 9 0 := ⟨_, tn_T5, rfl, by decide +kernel, rfl⟩
theorem ml_5_51 : tn_ML "ThunderOwned" 51 m_X5_isSheet.1 := Or.inl (tn_wi 245 (by decide +kernel))
theorem ml_5_55 : tn_ML "ThunderOwned" 55 m_X5_isLane.1 := Or.inl (tn_wi 251 (by decide +kernel))
theorem ml_5_58 : tn_ML "ThunderOwned" 58 m_X5_faultOfCells.1 := Or.inl (tn_wi 254 (by decide +kernel))
theorem ml_5_62 : tn_ML "ThunderOwned" 62 m_X5_faulted.1 := Or.inl (tn_wi 261 (by decide +kernel))
theorem ml_5_66 : tn_ML "ThunderOwned" 66 m_X5_firstFaultOfText.1 := Or.inl (tn_wi 265 (by decide +kernel))
theorem ml_5_70 : tn_ML "ThunderOwned" 70 m_X1_become.1 := Or.inr ⟨"ThunderOwned", tn_wni 328 (by decide +kernel)⟩
theorem fl_5_74 : tn_FL "ThunderOwned" 74 1 2 := ⟨_, tn_T1, tn_ty1, by decide, rfl, by decide, tn_us1, tn_tk1, tn_nm1, rfl, Or.inr ⟨"ThunderOwned", tn_wni 163 (by decide +kernel)⟩⟩
theorem ml_5_77 : tn_ML "ThunderOwned" 77 m_X1_hasHouse.1 := Or.inr ⟨"ThunderOwned", tn_wni 344 (by decide +kernel)⟩
theorem ml_5_95 : tn_ML "ThunderOwned" 95 m_X0_weight.1 := Or.inr ⟨"ThunderOwned", tn_wni 348 (by decide +kernel)⟩
theorem ml_5_103 : tn_ML "ThunderOwned" 103 m_X0_rankles.1 := Or.inr ⟨"ThunderOwned", tn_wni 352 (by decide +kernel)⟩
theorem fl_5_80 : tn_FL "ThunderOwned" 80 1 0 := ⟨_, tn_T1, tn_ty1, by decide, rfl, by decide, tn_us1, tn_tk1, tn_nm1, rfl, Or.inr ⟨"ThunderOwned", tn_wni 159 (by decide +kernel)⟩⟩
theorem fl_5_84 : tn_FL "ThunderOwned" 84 0 0 := ⟨_, tn_T0, tn_ty0, by decide, rfl, by decide, tn_us0, tn_tk0, tn_nm0, rfl, Or.inr ⟨"ThunderOwned", tn_wni 117 (by decide +kernel)⟩⟩
theorem fl_5_89 : tn_FL "ThunderOwned" 89 0 1 := ⟨_, tn_T0, tn_ty0, by decide, rfl, by decide, tn_us0, tn_tk0, tn_nm0, rfl, Or.inr ⟨"ThunderOwned", tn_wni 120 (by decide +kernel)⟩⟩
theorem fl_5_92 : tn_FL "ThunderOwned" 92 0 2 := ⟨_, tn_T0, tn_ty0, by decide, rfl, by decide, tn_us0, tn_tk0, tn_nm0, rfl, Or.inr ⟨"ThunderOwned", tn_wni 123 (by decide +kernel)⟩⟩
theorem fl_5_99 : tn_FL "ThunderOwned" 99 0 4 := ⟨_, tn_T0, tn_ty0, by decide, rfl, by decide, tn_us0, tn_tk0, tn_nm0, rfl, Or.inr ⟨"ThunderOwned", tn_wni 129 (by decide +kernel)⟩⟩
theorem fl_5_107 : tn_FL "ThunderOwned" 107 0 3 := ⟨_, tn_T0, tn_ty0, by decide, rfl, by decide, tn_us0, tn_tk0, tn_nm0, rfl, Or.inr ⟨"ThunderOwned", tn_wni 126 (by decide +kernel)⟩⟩
theorem ml_5_110 : tn_ML "ThunderOwned" 110 m_X1_hasStone.1 := Or.inr ⟨"ThunderOwned", tn_wni 361 (by decide +kernel)⟩
theorem fl_5_113 : tn_FL "ThunderOwned" 113 1 1 := ⟨_, tn_T1, tn_ty1, by decide, rfl, by decide, tn_us1, tn_tk1, tn_nm1, rfl, Or.inr ⟨"ThunderOwned", tn_wni 161 (by decide +kernel)⟩⟩
theorem fl_5_117 : tn_FL "ThunderOwned" 117 3 0 := ⟨_, tn_T3, tn_ty3, by decide, rfl, by decide, tn_us3, tn_tk3, tn_nm3, rfl, Or.inr ⟨"ThunderOwned", tn_wni 148 (by decide +kernel)⟩⟩
theorem fl_5_122 : tn_FL "ThunderOwned" 122 3 1 := ⟨_, tn_T3, tn_ty3, by decide, rfl, by decide, tn_us3, tn_tk3, tn_nm3, rfl, Or.inr ⟨"ThunderOwned", tn_wni 151 (by decide +kernel)⟩⟩
theorem ml_5_125 : tn_ML "ThunderOwned" 125 m_X5_isWithin.1 := Or.inl (tn_wi 248 (by decide +kernel))
theorem fk_5_0_2 : tn_FK "ThunderOwned" 0 2 0 := ⟨_, tn_T0, rfl, by decide +kernel, rfl⟩
theorem ml_5_129 : tn_ML "ThunderOwned" 129 m_X0_ownUp.1 := Or.inr ⟨"ThunderOwned", tn_wni 373 (by decide +kernel)⟩
theorem ml_5_132 : tn_ML "ThunderOwned" 132 m_X1_voice.1 := Or.inr ⟨"ThunderOwned", tn_wni 382 (by decide +kernel)⟩
theorem fk_5_3_1 : tn_FK "ThunderOwned" 3 1 1 := ⟨_, tn_T3, rfl, by decide +kernel, rfl⟩
theorem ml_5_135 : tn_ML "ThunderOwned" 135 m_X5_hasParish.1 := Or.inl (tn_wi 392 (by decide +kernel))
theorem ml_5_138 : tn_ML "ThunderOwned" 138 m_X1_passNights.1 := Or.inr ⟨"ThunderOwned", tn_wni 396 (by decide +kernel)⟩
theorem ml_5_142 : tn_ML "ThunderOwned" 142 m_X5_isAskedOfDay.1 := Or.inl (tn_wi 424 (by decide +kernel))
theorem ml_5_145 : tn_ML "ThunderOwned" 145 m_X5_areActs.1 := Or.inl (tn_wi 427 (by decide +kernel))
theorem ml_5_149 : tn_ML "ThunderOwned" 149 m_X5_firstWrongOfDay.1 := Or.inl (tn_wi 430 (by decide +kernel))
theorem ml_5_152 : tn_ML "ThunderOwned" 152 m_X5_afterDay.1 := Or.inl (tn_wi 450 (by decide +kernel))
theorem ml_5_158 : tn_ML "ThunderOwned" 158 m_X1_hatsLost.1 := Or.inr ⟨"ThunderOwned", tn_wni 454 (by decide +kernel)⟩
theorem fl_5_155 : tn_FL "ThunderOwned" 155 1 5 := ⟨_, tn_T1, tn_ty1, by decide, rfl, by decide, tn_us1, tn_tk1, tn_nm1, rfl, Or.inr ⟨"ThunderOwned", tn_wni 172 (by decide +kernel)⟩⟩
theorem ml_5_161 : tn_ML "ThunderOwned" 161 m_X1_nightsUntilQuiet.1 := Or.inr ⟨"ThunderOwned", tn_wni 467 (by decide +kernel)⟩
theorem ml_5_164 : tn_ML "ThunderOwned" 164 m_X1_setCount.1 := Or.inr ⟨"ThunderOwned", tn_wni 478 (by decide +kernel)⟩
theorem ml_5_167 : tn_ML "ThunderOwned" 167 m_J_bitCount.1 := Or.inl (tn_wi 482 (by decide +kernel))
theorem ml_5_172 : tn_ML "ThunderOwned" 172 m_X1_doesSetRankle.1 := Or.inr ⟨"ThunderOwned", tn_wni 488 (by decide +kernel)⟩
theorem ml_5_175 : tn_ML "ThunderOwned" 175 m_X5_isQuietIfOwned.1 := Or.inl (tn_wi 492 (by decide +kernel))
theorem ml_5_179 : tn_ML "ThunderOwned" 179 m_X1_weightOfSet.1 := Or.inr ⟨"ThunderOwned", tn_wni 504 (by decide +kernel)⟩
theorem ml_5_182 : tn_ML "ThunderOwned" 182 m_X5_nightsIfChosen.1 := Or.inl (tn_wi 512 (by decide +kernel))
theorem ml_5_186 : tn_ML "ThunderOwned" 186 m_X5_isContent.1 := Or.inl (tn_wi 516 (by decide +kernel))
theorem ml_5_189 : tn_ML "ThunderOwned" 189 m_J_min.1 := Or.inl (tn_wi 528 (by decide +kernel))
theorem ml_5_195 : tn_ML "ThunderOwned" 195 m_X5_doReadingsHoldOfTrial.1 := Or.inl (tn_wi 537 (by decide +kernel))
theorem fk_5_0_0 : tn_FK "ThunderOwned" 0 0 0 := ⟨_, tn_T0, rfl, by decide +kernel, rfl⟩
theorem fk_5_0_1 : tn_FK "ThunderOwned" 0 1 0 := ⟨_, tn_T0, rfl, by decide +kernel, rfl⟩
theorem fl_5_198 : tn_FL "ThunderOwned" 198 1 4 := ⟨_, tn_T1, tn_ty1, by decide, rfl, by decide, tn_us1, tn_tk1, tn_nm1, rfl, Or.inr ⟨"ThunderOwned", tn_wni 170 (by decide +kernel)⟩⟩
theorem fk_5_1_4 : tn_FK "ThunderOwned" 1 4 0 := ⟨_, tn_T1, rfl, by decide +kernel, rfl⟩
theorem ml_5_203 : tn_ML "ThunderOwned" 203 m_X2_renew.1 := Or.inr ⟨"ThunderOwned", tn_wni 570 (by decide +kernel)⟩
theorem fl_5_207 : tn_FL "ThunderOwned" 207 2 1 := ⟨_, tn_T2, tn_ty2, by decide, rfl, by decide, tn_us2, tn_tk2, tn_nm2, rfl, Or.inr ⟨"ThunderOwned", tn_wni 196 (by decide +kernel)⟩⟩
theorem fk_5_2_1 : tn_FK "ThunderOwned" 2 1 1 := ⟨_, tn_T2, rfl, by decide +kernel, rfl⟩
theorem ml_5_210 : tn_ML "ThunderOwned" 210 m_X2_hasCells.1 := Or.inr ⟨"ThunderOwned", tn_wni 257 (by decide +kernel)⟩
theorem ml_5_216 : tn_ML "ThunderOwned" 216 m_X2_cutToLane.1 := Or.inr ⟨"ThunderOwned", tn_wni 582 (by decide +kernel)⟩
theorem fl_5_213 : tn_FL "ThunderOwned" 213 2 0 := ⟨_, tn_T2, tn_ty2, by decide, rfl, by decide, tn_us2, tn_tk2, tn_nm2, rfl, Or.inr ⟨"ThunderOwned", tn_wni 194 (by decide +kernel)⟩⟩
theorem fl_5_219 : tn_FL "ThunderOwned" 219 2 2 := ⟨_, tn_T2, tn_ty2, by decide, rfl, by decide, tn_us2, tn_tk2, tn_nm2, rfl, Or.inr ⟨"ThunderOwned", tn_wni 198 (by decide +kernel)⟩⟩
theorem ml_5_228 : tn_ML "ThunderOwned" 228 m_X5_toldAsDouble.1 := Or.inl (tn_wi 601 (by decide +kernel))
theorem ml_5_232 : tn_ML "ThunderOwned" 232 m_X5_toldAsBrooding.1 := Or.inl (tn_wi 609 (by decide +kernel))
theorem ml_5_235 : tn_ML "ThunderOwned" 235 m_X5_toldAsPlain.1 := Or.inl (tn_wi 613 (by decide +kernel))
theorem ml_5_238 : tn_ML "ThunderOwned" 238 m_X5_knockedAsDouble.1 := Or.inl (tn_wi 621 (by decide +kernel))
theorem ml_5_241 : tn_ML "ThunderOwned" 241 m_X5_knockedAsLent.1 := Or.inl (tn_wi 625 (by decide +kernel))
theorem fl_5_244 : tn_FL "ThunderOwned" 244 1 3 := ⟨_, tn_T1, tn_ty1, by decide, rfl, by decide, tn_us1, tn_tk1, tn_nm1, rfl, Or.inr ⟨"ThunderOwned", tn_wni 167 (by decide +kernel)⟩⟩
theorem ml_5_249 : tn_ML "ThunderOwned" 249 m_X4_init.1 := Or.inr ⟨"ThunderOwned", tn_wni 271 (by decide +kernel)⟩
theorem ml_5_251 : tn_ML "ThunderOwned" 251 m_X4_takes.1 := Or.inr ⟨"ThunderOwned", tn_wni 292 (by decide +kernel)⟩
theorem ml_5_254 : tn_ML "ThunderOwned" 254 m_X4_mayEnd.1 := Or.inr ⟨"ThunderOwned", tn_wni 324 (by decide +kernel)⟩
theorem ml_5_257 : tn_ML "ThunderOwned" 257 m_X1_acts.1 := Or.inr ⟨"ThunderOwned", tn_wni 434 (by decide +kernel)⟩
theorem ml_5_260 : tn_ML "ThunderOwned" 260 m_X1_ranklingSet.1 := Or.inr ⟨"ThunderOwned", tn_wni 458 (by decide +kernel)⟩
theorem ml_5_263 : tn_ML "ThunderOwned" 263 m_X1_ownUpAll.1 := Or.inr ⟨"ThunderOwned", tn_wni 496 (by decide +kernel)⟩
theorem ml_5_266 : tn_ML "ThunderOwned" 266 m_X5_painOfChoice.1 := Or.inl (tn_wi 520 (by decide +kernel))
theorem ml_5_269 : tn_ML "ThunderOwned" 269 m_X5_lastNightRead.1 := Or.inl (tn_wi 541 (by decide +kernel))
theorem ml_5_272 : tn_ML "ThunderOwned" 272 m_X5_isVoiceAsRead.1 := Or.inl (tn_wi 548 (by decide +kernel))
theorem ml_5_275 : tn_ML "ThunderOwned" 275 m_X1_passNight.1 := Or.inr ⟨"ThunderOwned", tn_wni 552 (by decide +kernel)⟩
theorem ml_5_278 : tn_ML "ThunderOwned" 278 m_J_max.1 := Or.inl (tn_wi 545 (by decide +kernel))
theorem ml_5_281 : tn_ML "ThunderOwned" 281 m_X5_leaveInTrace.1 := Or.inl (tn_wi 605 (by decide +kernel))
theorem fl_6_9 : tn_FL "ThunderOwnedModel" 9 6 2 := ⟨_, tn_T6, tn_ty6, by decide, rfl, by decide, tn_us6, tn_tk6, tn_nm6, rfl, Or.inl (tn_wi 653 (by decide +kernel))⟩
theorem fk_6_6_2 : tn_FK "ThunderOwnedModel" 6 2 2 := ⟨_, tn_T6, rfl, rfl, rfl, Or.inr ⟨.int, by decide +kernel⟩⟩
theorem fo_6_9 : ∀ (C : String) (T : u_T), tn_cl[6]? = some (C, T, tn_N 6) → Cond.fieldLink "ThunderOwnedModel" 9 C (T 2).2.1 (T 2).2.2.1 ∈ tn_tbl := by
  intro C T h
  cases h
  exact tn_wi 653 (by decide +kernel)
theorem fl_6_13 : tn_FL "ThunderOwnedModel" 13 6 3 := ⟨_, tn_T6, tn_ty6, by decide, rfl, by decide, tn_us6, tn_tk6, tn_nm6, rfl, Or.inl (tn_wi 654 (by decide +kernel))⟩
theorem fk_6_6_3 : tn_FK "ThunderOwnedModel" 6 3 2 := ⟨_, tn_T6, rfl, rfl, rfl, Or.inr ⟨.int, by decide +kernel⟩⟩
theorem fo_6_13 : ∀ (C : String) (T : u_T), tn_cl[6]? = some (C, T, tn_N 6) → Cond.fieldLink "ThunderOwnedModel" 13 C (T 3).2.1 (T 3).2.2.1 ∈ tn_tbl := by
  intro C T h
  cases h
  exact tn_wi 654 (by decide +kernel)
theorem fl_6_16 : tn_FL "ThunderOwnedModel" 16 6 4 := ⟨_, tn_T6, tn_ty6, by decide, rfl, by decide, tn_us6, tn_tk6, tn_nm6, rfl, Or.inl (tn_wi 655 (by decide +kernel))⟩
theorem fk_6_6_4 : tn_FK "ThunderOwnedModel" 6 4 2 := ⟨_, tn_T6, rfl, rfl, rfl, Or.inr ⟨.int, by decide +kernel⟩⟩
theorem fo_6_16 : ∀ (C : String) (T : u_T), tn_cl[6]? = some (C, T, tn_N 6) → Cond.fieldLink "ThunderOwnedModel" 16 C (T 4).2.1 (T 4).2.2.1 ∈ tn_tbl := by
  intro C T h
  cases h
  exact tn_wi 655 (by decide +kernel)
theorem fl_6_19 : tn_FL "ThunderOwnedModel" 19 6 13 := ⟨_, tn_T6, tn_ty6, by decide, rfl, by decide, tn_us6, tn_tk6, tn_nm6, rfl, Or.inl (tn_wi 664 (by decide +kernel))⟩
theorem fk_6_6_13 : tn_FK "ThunderOwnedModel" 6 13 2 := ⟨_, tn_T6, rfl, rfl, rfl, Or.inr ⟨.int, by decide +kernel⟩⟩
theorem fo_6_19 : ∀ (C : String) (T : u_T), tn_cl[6]? = some (C, T, tn_N 6) → Cond.fieldLink "ThunderOwnedModel" 19 C (T 13).2.1 (T 13).2.2.1 ∈ tn_tbl := by
  intro C T h
  cases h
  exact tn_wi 664 (by decide +kernel)
theorem fl_6_22 : tn_FL "ThunderOwnedModel" 22 6 14 := ⟨_, tn_T6, tn_ty6, by decide, rfl, by decide, tn_us6, tn_tk6, tn_nm6, rfl, Or.inl (tn_wi 665 (by decide +kernel))⟩
theorem fk_6_6_14 : tn_FK "ThunderOwnedModel" 6 14 2 := ⟨_, tn_T6, rfl, rfl, rfl, Or.inr ⟨.int, by decide +kernel⟩⟩
theorem fo_6_22 : ∀ (C : String) (T : u_T), tn_cl[6]? = some (C, T, tn_N 6) → Cond.fieldLink "ThunderOwnedModel" 22 C (T 14).2.1 (T 14).2.2.1 ∈ tn_tbl := by
  intro C T h
  cases h
  exact tn_wi 665 (by decide +kernel)
theorem fl_6_25 : tn_FL "ThunderOwnedModel" 25 6 15 := ⟨_, tn_T6, tn_ty6, by decide, rfl, by decide, tn_us6, tn_tk6, tn_nm6, rfl, Or.inl (tn_wi 666 (by decide +kernel))⟩
theorem fk_6_6_15 : tn_FK "ThunderOwnedModel" 6 15 2 := ⟨_, tn_T6, rfl, rfl, rfl, Or.inr ⟨.int, by decide +kernel⟩⟩
theorem fo_6_25 : ∀ (C : String) (T : u_T), tn_cl[6]? = some (C, T, tn_N 6) → Cond.fieldLink "ThunderOwnedModel" 25 C (T 15).2.1 (T 15).2.2.1 ∈ tn_tbl := by
  intro C T h
  cases h
  exact tn_wi 666 (by decide +kernel)
theorem fl_6_28 : tn_FL "ThunderOwnedModel" 28 6 16 := ⟨_, tn_T6, tn_ty6, by decide, rfl, by decide, tn_us6, tn_tk6, tn_nm6, rfl, Or.inl (tn_wi 667 (by decide +kernel))⟩
theorem fk_6_6_16 : tn_FK "ThunderOwnedModel" 6 16 2 := ⟨_, tn_T6, rfl, rfl, rfl, Or.inr ⟨.int, by decide +kernel⟩⟩
theorem fo_6_28 : ∀ (C : String) (T : u_T), tn_cl[6]? = some (C, T, tn_N 6) → Cond.fieldLink "ThunderOwnedModel" 28 C (T 16).2.1 (T 16).2.2.1 ∈ tn_tbl := by
  intro C T h
  cases h
  exact tn_wi 667 (by decide +kernel)
theorem fl_6_31 : tn_FL "ThunderOwnedModel" 31 6 17 := ⟨_, tn_T6, tn_ty6, by decide, rfl, by decide, tn_us6, tn_tk6, tn_nm6, rfl, Or.inl (tn_wi 668 (by decide +kernel))⟩
theorem fk_6_6_17 : tn_FK "ThunderOwnedModel" 6 17 2 := ⟨_, tn_T6, rfl, rfl, rfl, Or.inr ⟨.int, by decide +kernel⟩⟩
theorem fo_6_31 : ∀ (C : String) (T : u_T), tn_cl[6]? = some (C, T, tn_N 6) → Cond.fieldLink "ThunderOwnedModel" 31 C (T 17).2.1 (T 17).2.2.1 ∈ tn_tbl := by
  intro C T h
  cases h
  exact tn_wi 668 (by decide +kernel)
theorem fl_6_34 : tn_FL "ThunderOwnedModel" 34 6 22 := ⟨_, tn_T6, tn_ty6, by decide, rfl, by decide, tn_us6, tn_tk6, tn_nm6, rfl, Or.inl (tn_wi 673 (by decide +kernel))⟩
theorem fk_6_6_22 : tn_FK "ThunderOwnedModel" 6 22 2 := ⟨_, tn_T6, rfl, rfl, rfl, Or.inr ⟨.int, by decide +kernel⟩⟩
theorem fo_6_34 : ∀ (C : String) (T : u_T), tn_cl[6]? = some (C, T, tn_N 6) → Cond.fieldLink "ThunderOwnedModel" 34 C (T 22).2.1 (T 22).2.2.1 ∈ tn_tbl := by
  intro C T h
  cases h
  exact tn_wi 673 (by decide +kernel)
theorem fl_6_37 : tn_FL "ThunderOwnedModel" 37 6 23 := ⟨_, tn_T6, tn_ty6, by decide, rfl, by decide, tn_us6, tn_tk6, tn_nm6, rfl, Or.inl (tn_wi 674 (by decide +kernel))⟩
theorem fk_6_6_23 : tn_FK "ThunderOwnedModel" 6 23 2 := ⟨_, tn_T6, rfl, rfl, rfl, Or.inr ⟨.int, by decide +kernel⟩⟩
theorem fo_6_37 : ∀ (C : String) (T : u_T), tn_cl[6]? = some (C, T, tn_N 6) → Cond.fieldLink "ThunderOwnedModel" 37 C (T 23).2.1 (T 23).2.2.1 ∈ tn_tbl := by
  intro C T h
  cases h
  exact tn_wi 674 (by decide +kernel)
theorem fl_6_40 : tn_FL "ThunderOwnedModel" 40 6 24 := ⟨_, tn_T6, tn_ty6, by decide, rfl, by decide, tn_us6, tn_tk6, tn_nm6, rfl, Or.inl (tn_wi 675 (by decide +kernel))⟩
theorem fk_6_6_24 : tn_FK "ThunderOwnedModel" 6 24 2 := ⟨_, tn_T6, rfl, rfl, rfl, Or.inr ⟨.int, by decide +kernel⟩⟩
theorem fo_6_40 : ∀ (C : String) (T : u_T), tn_cl[6]? = some (C, T, tn_N 6) → Cond.fieldLink "ThunderOwnedModel" 40 C (T 24).2.1 (T 24).2.2.1 ∈ tn_tbl := by
  intro C T h
  cases h
  exact tn_wi 675 (by decide +kernel)
theorem fl_6_43 : tn_FL "ThunderOwnedModel" 43 6 25 := ⟨_, tn_T6, tn_ty6, by decide, rfl, by decide, tn_us6, tn_tk6, tn_nm6, rfl, Or.inl (tn_wi 676 (by decide +kernel))⟩
theorem fk_6_6_25 : tn_FK "ThunderOwnedModel" 6 25 2 := ⟨_, tn_T6, rfl, rfl, rfl, Or.inr ⟨.int, by decide +kernel⟩⟩
theorem fo_6_43 : ∀ (C : String) (T : u_T), tn_cl[6]? = some (C, T, tn_N 6) → Cond.fieldLink "ThunderOwnedModel" 43 C (T 25).2.1 (T 25).2.2.1 ∈ tn_tbl := by
  intro C T h
  cases h
  exact tn_wi 676 (by decide +kernel)
theorem fl_6_46 : tn_FL "ThunderOwnedModel" 46 6 27 := ⟨_, tn_T6, tn_ty6, by decide, rfl, by decide, tn_us6, tn_tk6, tn_nm6, rfl, Or.inl (tn_wi 678 (by decide +kernel))⟩
theorem fk_6_6_27 : tn_FK "ThunderOwnedModel" 6 27 2 := ⟨_, tn_T6, rfl, rfl, rfl, Or.inr ⟨.int, by decide +kernel⟩⟩
theorem fo_6_46 : ∀ (C : String) (T : u_T), tn_cl[6]? = some (C, T, tn_N 6) → Cond.fieldLink "ThunderOwnedModel" 46 C (T 27).2.1 (T 27).2.2.1 ∈ tn_tbl := by
  intro C T h
  cases h
  exact tn_wi 678 (by decide +kernel)
theorem fl_6_49 : tn_FL "ThunderOwnedModel" 49 6 28 := ⟨_, tn_T6, tn_ty6, by decide, rfl, by decide, tn_us6, tn_tk6, tn_nm6, rfl, Or.inl (tn_wi 679 (by decide +kernel))⟩
theorem fk_6_6_28 : tn_FK "ThunderOwnedModel" 6 28 2 := ⟨_, tn_T6, rfl, rfl, rfl, Or.inr ⟨.int, by decide +kernel⟩⟩
theorem fo_6_49 : ∀ (C : String) (T : u_T), tn_cl[6]? = some (C, T, tn_N 6) → Cond.fieldLink "ThunderOwnedModel" 49 C (T 28).2.1 (T 28).2.2.1 ∈ tn_tbl := by
  intro C T h
  cases h
  exact tn_wi 679 (by decide +kernel)
theorem fl_6_52 : tn_FL "ThunderOwnedModel" 52 6 0 := ⟨_, tn_T6, tn_ty6, by decide, rfl, by decide, tn_us6, tn_tk6, tn_nm6, rfl, Or.inl (tn_wi 651 (by decide +kernel))⟩
theorem fk_6_6_0 : tn_FK "ThunderOwnedModel" 6 0 0 := ⟨_, tn_T6, rfl, by decide +kernel, rfl⟩
theorem ml_6_58 : tn_ML "ThunderOwnedModel" 58 m_X6_within.1 := Or.inl (tn_wi 746 (by decide +kernel))
theorem fl_6_62 : tn_FL "ThunderOwnedModel" 62 6 5 := ⟨_, tn_T6, tn_ty6, by decide, rfl, by decide, tn_us6, tn_tk6, tn_nm6, rfl, Or.inl (tn_wi 656 (by decide +kernel))⟩
theorem fl_6_65 : tn_FL "ThunderOwnedModel" 65 6 6 := ⟨_, tn_T6, tn_ty6, by decide, rfl, by decide, tn_us6, tn_tk6, tn_nm6, rfl, Or.inl (tn_wi 657 (by decide +kernel))⟩
theorem fl_6_68 : tn_FL "ThunderOwnedModel" 68 6 18 := ⟨_, tn_T6, tn_ty6, by decide, rfl, by decide, tn_us6, tn_tk6, tn_nm6, rfl, Or.inl (tn_wi 669 (by decide +kernel))⟩
theorem fk_6_6_18 : tn_FK "ThunderOwnedModel" 6 18 0 := ⟨_, tn_T6, rfl, by decide +kernel, rfl⟩
theorem ml_6_71 : tn_ML "ThunderOwnedModel" 71 m_X6_isSheet.1 := Or.inl (tn_wi 743 (by decide +kernel))
theorem ml_6_75 : tn_ML "ThunderOwnedModel" 75 m_X6_isSort.1 := Or.inl (tn_wi 749 (by decide +kernel))
theorem ml_6_78 : tn_ML "ThunderOwnedModel" 78 m_X6_against.1 := Or.inl (tn_wi 752 (by decide +kernel))
theorem ml_6_82 : tn_ML "ThunderOwnedModel" 82 m_X6_fails.1 := Or.inl (tn_wi 756 (by decide +kernel))
theorem ml_6_86 : tn_ML "ThunderOwnedModel" 86 m_X6_readParish.1 := Or.inl (tn_wi 760 (by decide +kernel))
theorem ml_6_89 : tn_ML "ThunderOwnedModel" 89 m_X6_takeParish.1 := Or.inl (tn_wi 780 (by decide +kernel))
theorem fl_6_92 : tn_FL "ThunderOwnedModel" 92 6 19 := ⟨_, tn_T6, tn_ty6, by decide, rfl, by decide, tn_us6, tn_tk6, tn_nm6, rfl, Or.inl (tn_wi 670 (by decide +kernel))⟩
theorem fk_6_6_5 : tn_FK "ThunderOwnedModel" 6 5 0 := ⟨_, tn_T6, rfl, by decide +kernel, rfl⟩
theorem fl_6_95 : tn_FL "ThunderOwnedModel" 95 6 20 := ⟨_, tn_T6, tn_ty6, by decide, rfl, by decide, tn_us6, tn_tk6, tn_nm6, rfl, Or.inl (tn_wi 671 (by decide +kernel))⟩
theorem fk_6_6_6 : tn_FK "ThunderOwnedModel" 6 6 0 := ⟨_, tn_T6, rfl, by decide +kernel, rfl⟩
theorem fl_6_98 : tn_FL "ThunderOwnedModel" 98 6 21 := ⟨_, tn_T6, tn_ty6, by decide, rfl, by decide, tn_us6, tn_tk6, tn_nm6, rfl, Or.inl (tn_wi 672 (by decide +kernel))⟩
theorem fl_6_101 : tn_FL "ThunderOwnedModel" 101 6 7 := ⟨_, tn_T6, tn_ty6, by decide, rfl, by decide, tn_us6, tn_tk6, tn_nm6, rfl, Or.inl (tn_wi 658 (by decide +kernel))⟩
theorem fk_6_6_7 : tn_FK "ThunderOwnedModel" 6 7 0 := ⟨_, tn_T6, rfl, by decide +kernel, rfl⟩
theorem fl_6_104 : tn_FL "ThunderOwnedModel" 104 6 11 := ⟨_, tn_T6, tn_ty6, by decide, rfl, by decide, tn_us6, tn_tk6, tn_nm6, rfl, Or.inl (tn_wi 662 (by decide +kernel))⟩
theorem fk_6_6_11 : tn_FK "ThunderOwnedModel" 6 11 0 := ⟨_, tn_T6, rfl, by decide +kernel, rfl⟩
theorem fl_6_107 : tn_FL "ThunderOwnedModel" 107 6 12 := ⟨_, tn_T6, tn_ty6, by decide, rfl, by decide, tn_us6, tn_tk6, tn_nm6, rfl, Or.inl (tn_wi 663 (by decide +kernel))⟩
theorem fk_6_6_12 : tn_FK "ThunderOwnedModel" 6 12 0 := ⟨_, tn_T6, rfl, by decide +kernel, rfl⟩
theorem fl_6_110 : tn_FL "ThunderOwnedModel" 110 6 8 := ⟨_, tn_T6, tn_ty6, by decide, rfl, by decide, tn_us6, tn_tk6, tn_nm6, rfl, Or.inl (tn_wi 659 (by decide +kernel))⟩
theorem fk_6_6_8 : tn_FK "ThunderOwnedModel" 6 8 0 := ⟨_, tn_T6, rfl, by decide +kernel, rfl⟩
theorem fl_6_113 : tn_FL "ThunderOwnedModel" 113 6 9 := ⟨_, tn_T6, tn_ty6, by decide, rfl, by decide, tn_us6, tn_tk6, tn_nm6, rfl, Or.inl (tn_wi 660 (by decide +kernel))⟩
theorem fk_6_6_9 : tn_FK "ThunderOwnedModel" 6 9 0 := ⟨_, tn_T6, rfl, by decide +kernel, rfl⟩
theorem fl_6_116 : tn_FL "ThunderOwnedModel" 116 6 10 := ⟨_, tn_T6, tn_ty6, by decide, rfl, by decide, tn_us6, tn_tk6, tn_nm6, rfl, Or.inl (tn_wi 661 (by decide +kernel))⟩
theorem fk_6_6_10 : tn_FK "ThunderOwnedModel" 6 10 0 := ⟨_, tn_T6, rfl, by decide +kernel, rfl⟩
theorem fl_6_119 : tn_FL "ThunderOwnedModel" 119 6 26 := ⟨_, tn_T6, tn_ty6, by decide, rfl, by decide, tn_us6, tn_tk6, tn_nm6, rfl, Or.inl (tn_wi 677 (by decide +kernel))⟩
theorem fk_6_6_26 : tn_FK "ThunderOwnedModel" 6 26 0 := ⟨_, tn_T6, rfl, by decide +kernel, rfl⟩
theorem ml_6_122 : tn_ML "ThunderOwnedModel" 122 m_X6_isSign.1 := Or.inl (tn_wi 764 (by decide +kernel))
theorem ml_6_126 : tn_ML "ThunderOwnedModel" 126 m_X6_digit.1 := Or.inl (tn_wi 768 (by decide +kernel))
theorem ml_6_130 : tn_ML "ThunderOwnedModel" 130 m_X6_readHouse.1 := Or.inl (tn_wi 772 (by decide +kernel))
theorem ml_6_133 : tn_ML "ThunderOwnedModel" 133 m_X6_readStonesAll.1 := Or.inl (tn_wi 776 (by decide +kernel))
theorem fk_6_6_19 : tn_FK "ThunderOwnedModel" 6 19 0 := ⟨_, tn_T6, rfl, by decide +kernel, rfl⟩
theorem fk_6_6_20 : tn_FK "ThunderOwnedModel" 6 20 0 := ⟨_, tn_T6, rfl, by decide +kernel, rfl⟩
theorem fk_6_6_21 : tn_FK "ThunderOwnedModel" 6 21 0 := ⟨_, tn_T6, rfl, by decide +kernel, rfl⟩
theorem ml_6_136 : tn_ML "ThunderOwnedModel" 136 m_X6_isOf.1 := Or.inl (tn_wi 800 (by decide +kernel))
theorem ml_6_139 : tn_ML "ThunderOwnedModel" 139 m_X6_weightOf.1 := Or.inl (tn_wi 792 (by decide +kernel))
theorem ml_6_142 : tn_ML "ThunderOwnedModel" 142 m_X6_rankles.1 := Or.inl (tn_wi 796 (by decide +kernel))
theorem ml_6_145 : tn_ML "ThunderOwnedModel" 145 m_X6_isHouse.1 := Or.inl (tn_wi 788 (by decide +kernel))
theorem ml_6_148 : tn_ML "ThunderOwnedModel" 148 m_X6_isStone.1 := Or.inl (tn_wi 807 (by decide +kernel))
theorem ml_6_151 : tn_ML "ThunderOwnedModel" 151 m_X6_voiceNow.1 := Or.inl (tn_wi 827 (by decide +kernel))
theorem ml_6_155 : tn_ML "ThunderOwnedModel" 155 m_X6_owns.1 := Or.inl (tn_wi 819 (by decide +kernel))
theorem ml_6_158 : tn_ML "ThunderOwnedModel" 158 m_X6_whoRankle.1 := Or.inl (tn_wi 839 (by decide +kernel))
theorem ml_6_161 : tn_ML "ThunderOwnedModel" 161 m_X6_layGreatest.1 := Or.inl (tn_wi 843 (by decide +kernel))
theorem ml_6_164 : tn_ML "ThunderOwnedModel" 164 m_X6_goesNight.1 := Or.inl (tn_wi 835 (by decide +kernel))
theorem ml_6_167 : tn_ML "ThunderOwnedModel" 167 m_X6_does.1 := Or.inl (tn_wi 859 (by decide +kernel))
theorem ml_6_170 : tn_ML "ThunderOwnedModel" 170 m_X6_keep.1 := Or.inl (tn_wi 851 (by decide +kernel))
theorem ml_6_174 : tn_ML "ThunderOwnedModel" 174 m_X6_goDay.1 := Or.inl (tn_wi 855 (by decide +kernel))
theorem ml_6_178 : tn_ML "ThunderOwnedModel" 178 m_X6_tellDay.1 := Or.inl (tn_wi 863 (by decide +kernel))
theorem ml_6_181 : tn_ML "ThunderOwnedModel" 181 m_X6_putBack.1 := Or.inl (tn_wi 867 (by decide +kernel))
theorem ml_6_184 : tn_ML "ThunderOwnedModel" 184 m_X6_quietIn.1 := Or.inl (tn_wi 879 (by decide +kernel))
theorem ml_6_187 : tn_ML "ThunderOwnedModel" 187 m_X6_size.1 := Or.inl (tn_wi 887 (by decide +kernel))
theorem ml_6_190 : tn_ML "ThunderOwnedModel" 190 m_X6_weightOfSet.1 := Or.inl (tn_wi 894 (by decide +kernel))
theorem ml_6_193 : tn_ML "ThunderOwnedModel" 193 m_X6_findPains.1 := Or.inl (tn_wi 902 (by decide +kernel))
theorem ml_6_197 : tn_ML "ThunderOwnedModel" 197 m_X6_areSo.1 := Or.inl (tn_wi 918 (by decide +kernel))
theorem ml_6_201 : tn_ML "ThunderOwnedModel" 201 m_X6_inLeastTerms.1 := Or.inl (tn_wi 935 (by decide +kernel))
theorem ml_6_205 : tn_ML "ThunderOwnedModel" 205 m_X6_lost.1 := Or.inl (tn_wi 954 (by decide +kernel))
theorem fl_6_209 : tn_FL "ThunderOwnedModel" 209 6 1 := ⟨_, tn_T6, tn_ty6, by decide, rfl, by decide, tn_us6, tn_tk6, tn_nm6, rfl, Or.inl (tn_wi 652 (by decide +kernel))⟩
theorem fk_6_6_1 : tn_FK "ThunderOwnedModel" 6 1 0 := ⟨_, tn_T6, rfl, by decide +kernel, rfl⟩
theorem ml_6_212 : tn_ML "ThunderOwnedModel" 212 m_X6_begins.1 := Or.inl (tn_wi 966 (by decide +kernel))
theorem ml_7_9 : tn_ML "ThunderOwnedLaw" 9 m_X5_init.1 := Or.inl (tn_wi 95 (by decide +kernel))
theorem ml_7_12 : tn_ML "ThunderOwnedLaw" 12 m_X6_init.1 := Or.inl (tn_wi 647 (by decide +kernel))
theorem ml_7_13 : tn_ML "ThunderOwnedLaw" 13 m_X5_parish.1 := Or.inl (tn_wi 241 (by decide +kernel))
theorem ml_7_17 : tn_ML "ThunderOwnedLaw" 17 m_X6_parish.1 := Or.inl (tn_wi 739 (by decide +kernel))
theorem ml_7_18 : tn_ML "ThunderOwnedLaw" 18 m_X5_ofHouse.1 := Or.inl (tn_wi 340 (by decide +kernel))
theorem ml_7_22 : tn_ML "ThunderOwnedLaw" 22 m_X6_ofHouse.1 := Or.inl (tn_wi 784 (by decide +kernel))
theorem ml_7_23 : tn_ML "ThunderOwnedLaw" 23 m_X5_ofStone.1 := Or.inl (tn_wi 357 (by decide +kernel))
theorem ml_7_26 : tn_ML "ThunderOwnedLaw" 26 m_X6_ofStone.1 := Or.inl (tn_wi 803 (by decide +kernel))
theorem ml_7_27 : tn_ML "ThunderOwnedLaw" 27 m_X5_sleep.1 := Or.inl (tn_wi 365 (by decide +kernel))
theorem ml_7_30 : tn_ML "ThunderOwnedLaw" 30 m_X6_sleep.1 := Or.inl (tn_wi 811 (by decide +kernel))
theorem ml_7_31 : tn_ML "ThunderOwnedLaw" 31 m_X5_own.1 := Or.inl (tn_wi 369 (by decide +kernel))
theorem ml_7_35 : tn_ML "ThunderOwnedLaw" 35 m_X6_own.1 := Or.inl (tn_wi 815 (by decide +kernel))
theorem ml_7_36 : tn_ML "ThunderOwnedLaw" 36 m_X5_lay.1 := Or.inl (tn_wi 378 (by decide +kernel))
theorem ml_7_39 : tn_ML "ThunderOwnedLaw" 39 m_X6_lay.1 := Or.inl (tn_wi 823 (by decide +kernel))
theorem ml_7_40 : tn_ML "ThunderOwnedLaw" 40 m_X5_night.1 := Or.inl (tn_wi 388 (by decide +kernel))
theorem ml_7_43 : tn_ML "ThunderOwnedLaw" 43 m_X6_night.1 := Or.inl (tn_wi 831 (by decide +kernel))
theorem ml_7_44 : tn_ML "ThunderOwnedLaw" 44 m_X5_day.1 := Or.inl (tn_wi 420 (by decide +kernel))
theorem ml_7_48 : tn_ML "ThunderOwnedLaw" 48 m_X6_day.1 := Or.inl (tn_wi 847 (by decide +kernel))
theorem ml_7_49 : tn_ML "ThunderOwnedLaw" 49 m_X5_behind.1 := Or.inl (tn_wi 459 (by decide +kernel))
theorem ml_7_52 : tn_ML "ThunderOwnedLaw" 52 m_X6_behind.1 := Or.inl (tn_wi 871 (by decide +kernel))
theorem ml_7_53 : tn_ML "ThunderOwnedLaw" 53 m_X5_quiet.1 := Or.inl (tn_wi 463 (by decide +kernel))
theorem ml_7_57 : tn_ML "ThunderOwnedLaw" 57 m_X6_quiet.1 := Or.inl (tn_wi 875 (by decide +kernel))
theorem ml_7_58 : tn_ML "ThunderOwnedLaw" 58 m_X5_fewest.1 := Or.inl (tn_wi 474 (by decide +kernel))
theorem ml_7_61 : tn_ML "ThunderOwnedLaw" 61 m_X6_fewest.1 := Or.inl (tn_wi 883 (by decide +kernel))
theorem ml_7_62 : tn_ML "ThunderOwnedLaw" 62 m_X5_claps.1 := Or.inl (tn_wi 500 (by decide +kernel))
theorem ml_7_65 : tn_ML "ThunderOwnedLaw" 65 m_X6_claps.1 := Or.inl (tn_wi 890 (by decide +kernel))
theorem ml_7_66 : tn_ML "ThunderOwnedLaw" 66 m_X5_rests.1 := Or.inl (tn_wi 508 (by decide +kernel))
theorem ml_7_69 : tn_ML "ThunderOwnedLaw" 69 m_X6_rests.1 := Or.inl (tn_wi 898 (by decide +kernel))
theorem ml_7_70 : tn_ML "ThunderOwnedLaw" 70 m_X5_reading.1 := Or.inl (tn_wi 524 (by decide +kernel))
theorem ml_7_73 : tn_ML "ThunderOwnedLaw" 73 m_X6_reading.1 := Or.inl (tn_wi 906 (by decide +kernel))
theorem ml_7_74 : tn_ML "ThunderOwnedLaw" 74 m_X5_back.1 := Or.inl (tn_wi 529 (by decide +kernel))
theorem ml_7_77 : tn_ML "ThunderOwnedLaw" 77 m_X6_back.1 := Or.inl (tn_wi 910 (by decide +kernel))
theorem ml_7_78 : tn_ML "ThunderOwnedLaw" 78 m_X5_kinds.1 := Or.inl (tn_wi 533 (by decide +kernel))
theorem ml_7_81 : tn_ML "ThunderOwnedLaw" 81 m_X6_kinds.1 := Or.inl (tn_wi 914 (by decide +kernel))
theorem ml_7_82 : tn_ML "ThunderOwnedLaw" 82 m_X5_wrongs.1 := Or.inl (tn_wi 553 (by decide +kernel))
theorem ml_7_85 : tn_ML "ThunderOwnedLaw" 85 m_X6_wrongs.1 := Or.inl (tn_wi 922 (by decide +kernel))
theorem ml_7_86 : tn_ML "ThunderOwnedLaw" 86 m_X5_steps.1 := Or.inl (tn_wi 557 (by decide +kernel))
theorem ml_7_89 : tn_ML "ThunderOwnedLaw" 89 m_X6_steps.1 := Or.inl (tn_wi 926 (by decide +kernel))
theorem ml_7_90 : tn_ML "ThunderOwnedLaw" 90 m_X5_odds.1 := Or.inl (tn_wi 561 (by decide +kernel))
theorem ml_7_94 : tn_ML "ThunderOwnedLaw" 94 m_X6_odds.1 := Or.inl (tn_wi 930 (by decide +kernel))
theorem ml_7_95 : tn_ML "ThunderOwnedLaw" 95 m_X5_sheet.1 := Or.inl (tn_wi 566 (by decide +kernel))
theorem ml_7_99 : tn_ML "ThunderOwnedLaw" 99 m_X6_sheet.1 := Or.inl (tn_wi 938 (by decide +kernel))
theorem ml_7_100 : tn_ML "ThunderOwnedLaw" 100 m_X5_lose.1 := Or.inl (tn_wi 574 (by decide +kernel))
theorem ml_7_103 : tn_ML "ThunderOwnedLaw" 103 m_X6_lose.1 := Or.inl (tn_wi 942 (by decide +kernel))
theorem ml_7_104 : tn_ML "ThunderOwnedLaw" 104 m_X5_put.1 := Or.inl (tn_wi 578 (by decide +kernel))
theorem ml_7_107 : tn_ML "ThunderOwnedLaw" 107 m_X6_put.1 := Or.inl (tn_wi 946 (by decide +kernel))
theorem ml_7_108 : tn_ML "ThunderOwnedLaw" 108 m_X5_cell.1 := Or.inl (tn_wi 586 (by decide +kernel))
theorem ml_7_112 : tn_ML "ThunderOwnedLaw" 112 m_X6_cell.1 := Or.inl (tn_wi 950 (by decide +kernel))
theorem ml_7_113 : tn_ML "ThunderOwnedLaw" 113 m_X5_copy.1 := Or.inl (tn_wi 590 (by decide +kernel))
theorem ml_7_116 : tn_ML "ThunderOwnedLaw" 116 m_X6_copy.1 := Or.inl (tn_wi 958 (by decide +kernel))
theorem ml_7_117 : tn_ML "ThunderOwnedLaw" 117 m_X5_tell.1 := Or.inl (tn_wi 597 (by decide +kernel))
theorem ml_7_120 : tn_ML "ThunderOwnedLaw" 120 m_X6_tell.1 := Or.inl (tn_wi 962 (by decide +kernel))
theorem ml_7_121 : tn_ML "ThunderOwnedLaw" 121 m_X5_knock.1 := Or.inl (tn_wi 617 (by decide +kernel))
theorem ml_7_124 : tn_ML "ThunderOwnedLaw" 124 m_X6_knock.1 := Or.inl (tn_wi 970 (by decide +kernel))
theorem ml_7_125 : tn_ML "ThunderOwnedLaw" 125 m_X5_as.1 := Or.inl (tn_wi 629 (by decide +kernel))
theorem ml_7_128 : tn_ML "ThunderOwnedLaw" 128 m_X6_as.1 := Or.inl (tn_wi 974 (by decide +kernel))
theorem ml_7_129 : tn_ML "ThunderOwnedLaw" 129 m_X5_trace.1 := Or.inl (tn_wi 633 (by decide +kernel))
theorem ml_7_132 : tn_ML "ThunderOwnedLaw" 132 m_X6_trace.1 := Or.inl (tn_wi 978 (by decide +kernel))
theorem ml_7_133 : tn_ML "ThunderOwnedLaw" 133 m_X5_fault.1 := Or.inl (tn_wi 637 (by decide +kernel))
theorem ml_7_136 : tn_ML "ThunderOwnedLaw" 136 m_X6_fault.1 := Or.inl (tn_wi 982 (by decide +kernel))
theorem ml_7_137 : tn_ML "ThunderOwnedLaw" 137 m_X5_many.1 := Or.inl (tn_wi 641 (by decide +kernel))
theorem ml_7_140 : tn_ML "ThunderOwnedLaw" 140 m_X6_many.1 := Or.inl (tn_wi 986 (by decide +kernel))
theorem ic_m1 : Int32.ofInt (-1) = (-1 : Int32) := by decide
theorem ic_0 : Int32.ofInt (0) = (0 : Int32) := by decide
theorem ic_1 : Int32.ofInt (1) = (1 : Int32) := by decide
theorem ic_2 : Int32.ofInt (2) = (2 : Int32) := by decide
theorem ic_3 : Int32.ofInt (3) = (3 : Int32) := by decide
theorem ic_4 : Int32.ofInt (4) = (4 : Int32) := by decide
theorem ic_5 : Int32.ofInt (5) = (5 : Int32) := by decide
theorem ic_6 : Int32.ofInt (6) = (6 : Int32) := by decide
theorem bp_m100 : (Int8.ofInt (-100)).toInt32 = (-100 : Int32) := by decide
theorem bp_m10 : (Int8.ofInt (-10)).toInt32 = (-10 : Int32) := by decide
theorem bp_m9 : (Int8.ofInt (-9)).toInt32 = (-9 : Int32) := by decide
theorem bp_m4 : (Int8.ofInt (-4)).toInt32 = (-4 : Int32) := by decide
theorem bp_m3 : (Int8.ofInt (-3)).toInt32 = (-3 : Int32) := by decide
theorem bp_m2 : (Int8.ofInt (-2)).toInt32 = (-2 : Int32) := by decide
theorem bp_6 : (Int8.ofInt (6)).toInt32 = (6 : Int32) := by decide
theorem bp_7 : (Int8.ofInt (7)).toInt32 = (7 : Int32) := by decide
theorem bp_8 : (Int8.ofInt (8)).toInt32 = (8 : Int32) := by decide
theorem bp_9 : (Int8.ofInt (9)).toInt32 = (9 : Int32) := by decide
theorem bp_10 : (Int8.ofInt (10)).toInt32 = (10 : Int32) := by decide
theorem bp_11 : (Int8.ofInt (11)).toInt32 = (11 : Int32) := by decide
theorem bp_12 : (Int8.ofInt (12)).toInt32 = (12 : Int32) := by decide
theorem bp_13 : (Int8.ofInt (13)).toInt32 = (13 : Int32) := by decide
theorem bp_14 : (Int8.ofInt (14)).toInt32 = (14 : Int32) := by decide
theorem bp_15 : (Int8.ofInt (15)).toInt32 = (15 : Int32) := by decide
theorem bp_16 : (Int8.ofInt (16)).toInt32 = (16 : Int32) := by decide
theorem bp_18 : (Int8.ofInt (18)).toInt32 = (18 : Int32) := by decide
theorem bp_20 : (Int8.ofInt (20)).toInt32 = (20 : Int32) := by decide
theorem bp_30 : (Int8.ofInt (30)).toInt32 = (30 : Int32) := by decide
theorem bp_31 : (Int8.ofInt (31)).toInt32 = (31 : Int32) := by decide
theorem bp_33 : (Int8.ofInt (33)).toInt32 = (33 : Int32) := by decide
theorem bp_48 : (Int8.ofInt (48)).toInt32 = (48 : Int32) := by decide
theorem bp_49 : (Int8.ofInt (49)).toInt32 = (49 : Int32) := by decide
theorem bp_52 : (Int8.ofInt (52)).toInt32 = (52 : Int32) := by decide
theorem bp_57 : (Int8.ofInt (57)).toInt32 = (57 : Int32) := by decide
theorem bp_59 : (Int8.ofInt (59)).toInt32 = (59 : Int32) := by decide
theorem bp_60 : (Int8.ofInt (60)).toInt32 = (60 : Int32) := by decide
theorem bp_63 : (Int8.ofInt (63)).toInt32 = (63 : Int32) := by decide
theorem bp_70 : (Int8.ofInt (70)).toInt32 = (70 : Int32) := by decide
theorem bp_90 : (Int8.ofInt (90)).toInt32 = (90 : Int32) := by decide
theorem bp_98 : (Int8.ofInt (98)).toInt32 = (98 : Int32) := by decide
theorem bp_100 : (Int8.ofInt (100)).toInt32 = (100 : Int32) := by decide
theorem bp_112 : (Int8.ofInt (112)).toInt32 = (112 : Int32) := by decide
theorem bp_116 : (Int8.ofInt (116)).toInt32 = (116 : Int32) := by decide
theorem sp_200 : (Int16.ofInt (200)).toInt32 = (200 : Int32) := by decide
theorem sp_240 : (Int16.ofInt (240)).toInt32 = (240 : Int32) := by decide
theorem kc_8_265 : Cond.constant "java/lang/Integer" 265 (1431655765 : Int32) ∈ tn_tbl := tn_wi 485 (by decide +kernel)
theorem kc_8_266 : Cond.constant "java/lang/Integer" 266 (858993459 : Int32) ∈ tn_tbl := tn_wi 486 (by decide +kernel)
theorem kc_8_267 : Cond.constant "java/lang/Integer" 267 (252645135 : Int32) ∈ tn_tbl := tn_wi 487 (by decide +kernel)
theorem kc_5_201 : Cond.constantLong "ThunderOwned" 201 (-9223372036854775808 : Int64) ∈ tn_tbl := tn_wi 565 (by decide +kernel)
theorem kc_6_56 : Cond.constantLong "ThunderOwnedModel" 56 (-9223372036854775808 : Int64) ∈ tn_tbl := tn_wi 934 (by decide +kernel)
end
section
theorem d_X0_init_0 : decode m_X0_init.2.1 0 = .ok (.aload_n 0, 1) := by decide +kernel
theorem d_X0_init_1 : decode m_X0_init.2.1 1 = .ok (.invokespecial 3, 3) := by decide +kernel
theorem d_X0_init_4 : decode m_X0_init.2.1 4 = .ok (.aload_n 0, 1) := by decide +kernel
theorem d_X0_init_5 : decode m_X0_init.2.1 5 = .ok (.iconst 0, 1) := by decide +kernel
theorem d_X0_init_6 : decode m_X0_init.2.1 6 = .ok (.putfield 9, 3) := by decide +kernel
theorem d_X0_init_9 : decode m_X0_init.2.1 9 = .ok (.aload_n 0, 1) := by decide +kernel
theorem d_X0_init_10 : decode m_X0_init.2.1 10 = .ok (.iconst 0, 1) := by decide +kernel
theorem d_X0_init_11 : decode m_X0_init.2.1 11 = .ok (.putfield 15, 3) := by decide +kernel
theorem d_X0_init_14 : decode m_X0_init.2.1 14 = .ok (.aload_n 0, 1) := by decide +kernel
theorem d_X0_init_15 : decode m_X0_init.2.1 15 = .ok (.iconst 0, 1) := by decide +kernel
theorem d_X0_init_16 : decode m_X0_init.2.1 16 = .ok (.putfield 18, 3) := by decide +kernel
theorem d_X0_init_19 : decode m_X0_init.2.1 19 = .ok (.aload_n 0, 1) := by decide +kernel
theorem d_X0_init_20 : decode m_X0_init.2.1 20 = .ok (.iconst 0, 1) := by decide +kernel
theorem d_X0_init_21 : decode m_X0_init.2.1 21 = .ok (.putfield 21, 3) := by decide +kernel
theorem d_X0_init_24 : decode m_X0_init.2.1 24 = .ok (.aload_n 0, 1) := by decide +kernel
theorem d_X0_init_25 : decode m_X0_init.2.1 25 = .ok (.iconst 0, 1) := by decide +kernel
theorem d_X0_init_26 : decode m_X0_init.2.1 26 = .ok (.putfield 24, 3) := by decide +kernel
theorem d_X0_init_29 : decode m_X0_init.2.1 29 = .ok (.return_, 1) := by decide +kernel
theorem d_X0_weight_0 : decode m_X0_weight.2.1 0 = .ok (.aload_n 0, 1) := by decide +kernel
theorem d_X0_weight_1 : decode m_X0_weight.2.1 1 = .ok (.getfield 9, 3) := by decide +kernel
theorem d_X0_weight_4 : decode m_X0_weight.2.1 4 = .ok (.lookupswitch 42 #[(1, 35), (2, 28)], 28) := by decide +kernel
theorem d_X0_weight_32 : decode m_X0_weight.2.1 32 = .ok (.iconst 2, 1) := by decide +kernel
theorem d_X0_weight_33 : decode m_X0_weight.2.1 33 = .ok (.aload_n 0, 1) := by decide +kernel
theorem d_X0_weight_34 : decode m_X0_weight.2.1 34 = .ok (.getfield 15, 3) := by decide +kernel
theorem d_X0_weight_37 : decode m_X0_weight.2.1 37 = .ok (.imul, 1) := by decide +kernel
theorem d_X0_weight_38 : decode m_X0_weight.2.1 38 = .ok (.ireturn, 1) := by decide +kernel
theorem d_X0_weight_39 : decode m_X0_weight.2.1 39 = .ok (.aload_n 0, 1) := by decide +kernel
theorem d_X0_weight_40 : decode m_X0_weight.2.1 40 = .ok (.getfield 15, 3) := by decide +kernel
theorem d_X0_weight_43 : decode m_X0_weight.2.1 43 = .ok (.iconst 1, 1) := by decide +kernel
theorem d_X0_weight_44 : decode m_X0_weight.2.1 44 = .ok (.iadd, 1) := by decide +kernel
theorem d_X0_weight_45 : decode m_X0_weight.2.1 45 = .ok (.ireturn, 1) := by decide +kernel
theorem d_X0_weight_46 : decode m_X0_weight.2.1 46 = .ok (.aload_n 0, 1) := by decide +kernel
theorem d_X0_weight_47 : decode m_X0_weight.2.1 47 = .ok (.getfield 15, 3) := by decide +kernel
theorem d_X0_weight_50 : decode m_X0_weight.2.1 50 = .ok (.ireturn, 1) := by decide +kernel
theorem d_X0_rankles_0 : decode m_X0_rankles.2.1 0 = .ok (.aload_n 0, 1) := by decide +kernel
theorem d_X0_rankles_1 : decode m_X0_rankles.2.1 1 = .ok (.getfield 24, 3) := by decide +kernel
theorem d_X0_rankles_4 : decode m_X0_rankles.2.1 4 = .ok (.ifCond .ne 14, 3) := by decide +kernel
theorem d_X0_rankles_7 : decode m_X0_rankles.2.1 7 = .ok (.aload_n 0, 1) := by decide +kernel
theorem d_X0_rankles_8 : decode m_X0_rankles.2.1 8 = .ok (.invokevirtual 28, 3) := by decide +kernel
theorem d_X0_rankles_11 : decode m_X0_rankles.2.1 11 = .ok (.ifCond .le 7, 3) := by decide +kernel
theorem d_X0_rankles_14 : decode m_X0_rankles.2.1 14 = .ok (.iconst 1, 1) := by decide +kernel
theorem d_X0_rankles_15 : decode m_X0_rankles.2.1 15 = .ok (.goto 4, 3) := by decide +kernel
theorem d_X0_rankles_18 : decode m_X0_rankles.2.1 18 = .ok (.iconst 0, 1) := by decide +kernel
theorem d_X0_rankles_19 : decode m_X0_rankles.2.1 19 = .ok (.ireturn, 1) := by decide +kernel
theorem d_X0_ownUp_0 : decode m_X0_ownUp.2.1 0 = .ok (.aload_n 0, 1) := by decide +kernel
theorem d_X0_ownUp_1 : decode m_X0_ownUp.2.1 1 = .ok (.invokevirtual 32, 3) := by decide +kernel
theorem d_X0_ownUp_4 : decode m_X0_ownUp.2.1 4 = .ok (.ifCond .ne 15, 3) := by decide +kernel
theorem d_X0_ownUp_7 : decode m_X0_ownUp.2.1 7 = .ok (.aload_n 0, 1) := by decide +kernel
theorem d_X0_ownUp_8 : decode m_X0_ownUp.2.1 8 = .ok (.dup, 1) := by decide +kernel
theorem d_X0_ownUp_9 : decode m_X0_ownUp.2.1 9 = .ok (.getfield 21, 3) := by decide +kernel
theorem d_X0_ownUp_12 : decode m_X0_ownUp.2.1 12 = .ok (.iconst 1, 1) := by decide +kernel
theorem d_X0_ownUp_13 : decode m_X0_ownUp.2.1 13 = .ok (.iadd, 1) := by decide +kernel
theorem d_X0_ownUp_14 : decode m_X0_ownUp.2.1 14 = .ok (.putfield 21, 3) := by decide +kernel
theorem d_X0_ownUp_17 : decode m_X0_ownUp.2.1 17 = .ok (.iconst 0, 1) := by decide +kernel
theorem d_X0_ownUp_18 : decode m_X0_ownUp.2.1 18 = .ok (.ireturn, 1) := by decide +kernel
theorem d_X0_ownUp_19 : decode m_X0_ownUp.2.1 19 = .ok (.aload_n 0, 1) := by decide +kernel
theorem d_X0_ownUp_20 : decode m_X0_ownUp.2.1 20 = .ok (.iconst 1, 1) := by decide +kernel
theorem d_X0_ownUp_21 : decode m_X0_ownUp.2.1 21 = .ok (.putfield 24, 3) := by decide +kernel
theorem d_X0_ownUp_24 : decode m_X0_ownUp.2.1 24 = .ok (.iconst 1, 1) := by decide +kernel
theorem d_X0_ownUp_25 : decode m_X0_ownUp.2.1 25 = .ok (.ireturn, 1) := by decide +kernel
theorem d_X0_become_0 : decode m_X0_become.2.1 0 = .ok (.aload_n 0, 1) := by decide +kernel
theorem d_X0_become_1 : decode m_X0_become.2.1 1 = .ok (.aload_n 1, 1) := by decide +kernel
theorem d_X0_become_2 : decode m_X0_become.2.1 2 = .ok (.getfield 9, 3) := by decide +kernel
theorem d_X0_become_5 : decode m_X0_become.2.1 5 = .ok (.putfield 9, 3) := by decide +kernel
theorem d_X0_become_8 : decode m_X0_become.2.1 8 = .ok (.aload_n 0, 1) := by decide +kernel
theorem d_X0_become_9 : decode m_X0_become.2.1 9 = .ok (.aload_n 1, 1) := by decide +kernel
theorem d_X0_become_10 : decode m_X0_become.2.1 10 = .ok (.getfield 15, 3) := by decide +kernel
theorem d_X0_become_13 : decode m_X0_become.2.1 13 = .ok (.putfield 15, 3) := by decide +kernel
theorem d_X0_become_16 : decode m_X0_become.2.1 16 = .ok (.aload_n 0, 1) := by decide +kernel
theorem d_X0_become_17 : decode m_X0_become.2.1 17 = .ok (.aload_n 1, 1) := by decide +kernel
theorem d_X0_become_18 : decode m_X0_become.2.1 18 = .ok (.getfield 18, 3) := by decide +kernel
theorem d_X0_become_21 : decode m_X0_become.2.1 21 = .ok (.putfield 18, 3) := by decide +kernel
theorem d_X0_become_24 : decode m_X0_become.2.1 24 = .ok (.aload_n 0, 1) := by decide +kernel
theorem d_X0_become_25 : decode m_X0_become.2.1 25 = .ok (.aload_n 1, 1) := by decide +kernel
theorem d_X0_become_26 : decode m_X0_become.2.1 26 = .ok (.getfield 21, 3) := by decide +kernel
theorem d_X0_become_29 : decode m_X0_become.2.1 29 = .ok (.putfield 21, 3) := by decide +kernel
theorem d_X0_become_32 : decode m_X0_become.2.1 32 = .ok (.aload_n 0, 1) := by decide +kernel
theorem d_X0_become_33 : decode m_X0_become.2.1 33 = .ok (.aload_n 1, 1) := by decide +kernel
theorem d_X0_become_34 : decode m_X0_become.2.1 34 = .ok (.getfield 24, 3) := by decide +kernel
theorem d_X0_become_37 : decode m_X0_become.2.1 37 = .ok (.putfield 24, 3) := by decide +kernel
theorem d_X0_become_40 : decode m_X0_become.2.1 40 = .ok (.return_, 1) := by decide +kernel
theorem d_X1_init_0 : decode m_X1_init.2.1 0 = .ok (.aload_n 0, 1) := by decide +kernel
theorem d_X1_init_1 : decode m_X1_init.2.1 1 = .ok (.invokespecial 5, 3) := by decide +kernel
theorem d_X1_init_4 : decode m_X1_init.2.1 4 = .ok (.aload_n 0, 1) := by decide +kernel
theorem d_X1_init_5 : decode m_X1_init.2.1 5 = .ok (.iconst 5, 1) := by decide +kernel
theorem d_X1_init_6 : decode m_X1_init.2.1 6 = .ok (.anewarray 11, 3) := by decide +kernel
theorem d_X1_init_9 : decode m_X1_init.2.1 9 = .ok (.putfield 13, 3) := by decide +kernel
theorem d_X1_init_12 : decode m_X1_init.2.1 12 = .ok (.aload_n 0, 1) := by decide +kernel
theorem d_X1_init_13 : decode m_X1_init.2.1 13 = .ok (.iconst 4, 1) := by decide +kernel
theorem d_X1_init_14 : decode m_X1_init.2.1 14 = .ok (.anewarray 17, 3) := by decide +kernel
theorem d_X1_init_17 : decode m_X1_init.2.1 17 = .ok (.putfield 19, 3) := by decide +kernel
theorem d_X1_init_20 : decode m_X1_init.2.1 20 = .ok (.aload_n 0, 1) := by decide +kernel
theorem d_X1_init_21 : decode m_X1_init.2.1 21 = .ok (.iconst 0, 1) := by decide +kernel
theorem d_X1_init_22 : decode m_X1_init.2.1 22 = .ok (.putfield 23, 3) := by decide +kernel
theorem d_X1_init_25 : decode m_X1_init.2.1 25 = .ok (.aload_n 0, 1) := by decide +kernel
theorem d_X1_init_26 : decode m_X1_init.2.1 26 = .ok (.iconst 0, 1) := by decide +kernel
theorem d_X1_init_27 : decode m_X1_init.2.1 27 = .ok (.putfield 27, 3) := by decide +kernel
theorem d_X1_init_30 : decode m_X1_init.2.1 30 = .ok (.aload_n 0, 1) := by decide +kernel
theorem d_X1_init_31 : decode m_X1_init.2.1 31 = .ok (.iconst 0, 1) := by decide +kernel
theorem d_X1_init_32 : decode m_X1_init.2.1 32 = .ok (.putfield 30, 3) := by decide +kernel
theorem d_X1_init_35 : decode m_X1_init.2.1 35 = .ok (.aload_n 0, 1) := by decide +kernel
theorem d_X1_init_36 : decode m_X1_init.2.1 36 = .ok (.iconst 0, 1) := by decide +kernel
theorem d_X1_init_37 : decode m_X1_init.2.1 37 = .ok (.putfield 33, 3) := by decide +kernel
theorem d_X1_init_40 : decode m_X1_init.2.1 40 = .ok (.iconst 0, 1) := by decide +kernel
theorem d_X1_init_41 : decode m_X1_init.2.1 41 = .ok (.istore_n 1, 1) := by decide +kernel
theorem d_X1_init_42 : decode m_X1_init.2.1 42 = .ok (.iload_n 1, 1) := by decide +kernel
theorem d_X1_init_43 : decode m_X1_init.2.1 43 = .ok (.iconst 5, 1) := by decide +kernel
theorem d_X1_init_44 : decode m_X1_init.2.1 44 = .ok (.if_icmp .ge 22, 3) := by decide +kernel
theorem d_X1_init_47 : decode m_X1_init.2.1 47 = .ok (.aload_n 0, 1) := by decide +kernel
theorem d_X1_init_48 : decode m_X1_init.2.1 48 = .ok (.getfield 13, 3) := by decide +kernel
theorem d_X1_init_51 : decode m_X1_init.2.1 51 = .ok (.iload_n 1, 1) := by decide +kernel
theorem d_X1_init_52 : decode m_X1_init.2.1 52 = .ok (.new 11, 3) := by decide +kernel
theorem d_X1_init_55 : decode m_X1_init.2.1 55 = .ok (.dup, 1) := by decide +kernel
theorem d_X1_init_56 : decode m_X1_init.2.1 56 = .ok (.invokespecial 36, 3) := by decide +kernel
theorem d_X1_init_59 : decode m_X1_init.2.1 59 = .ok (.aastore, 1) := by decide +kernel
theorem d_X1_init_60 : decode m_X1_init.2.1 60 = .ok (.iinc 1 1, 3) := by decide +kernel
theorem d_X1_init_63 : decode m_X1_init.2.1 63 = .ok (.goto (-21), 3) := by decide +kernel
theorem d_X1_init_66 : decode m_X1_init.2.1 66 = .ok (.iconst 0, 1) := by decide +kernel
theorem d_X1_init_67 : decode m_X1_init.2.1 67 = .ok (.istore_n 1, 1) := by decide +kernel
theorem d_X1_init_68 : decode m_X1_init.2.1 68 = .ok (.iload_n 1, 1) := by decide +kernel
theorem d_X1_init_69 : decode m_X1_init.2.1 69 = .ok (.iconst 4, 1) := by decide +kernel
theorem d_X1_init_70 : decode m_X1_init.2.1 70 = .ok (.if_icmp .ge 22, 3) := by decide +kernel
theorem d_X1_init_73 : decode m_X1_init.2.1 73 = .ok (.aload_n 0, 1) := by decide +kernel
theorem d_X1_init_74 : decode m_X1_init.2.1 74 = .ok (.getfield 19, 3) := by decide +kernel
theorem d_X1_init_77 : decode m_X1_init.2.1 77 = .ok (.iload_n 1, 1) := by decide +kernel
theorem d_X1_init_78 : decode m_X1_init.2.1 78 = .ok (.new 17, 3) := by decide +kernel
theorem d_X1_init_81 : decode m_X1_init.2.1 81 = .ok (.dup, 1) := by decide +kernel
theorem d_X1_init_82 : decode m_X1_init.2.1 82 = .ok (.invokespecial 37, 3) := by decide +kernel
theorem d_X1_init_85 : decode m_X1_init.2.1 85 = .ok (.aastore, 1) := by decide +kernel
theorem d_X1_init_86 : decode m_X1_init.2.1 86 = .ok (.iinc 1 1, 3) := by decide +kernel
theorem d_X1_init_89 : decode m_X1_init.2.1 89 = .ok (.goto (-21), 3) := by decide +kernel
theorem d_X1_init_92 : decode m_X1_init.2.1 92 = .ok (.return_, 1) := by decide +kernel
theorem d_X1_hasHouse_0 : decode m_X1_hasHouse.2.1 0 = .ok (.iload_n 1, 1) := by decide +kernel
theorem d_X1_hasHouse_1 : decode m_X1_hasHouse.2.1 1 = .ok (.ifCond .lt 15, 3) := by decide +kernel
theorem d_X1_hasHouse_4 : decode m_X1_hasHouse.2.1 4 = .ok (.iload_n 1, 1) := by decide +kernel
theorem d_X1_hasHouse_5 : decode m_X1_hasHouse.2.1 5 = .ok (.aload_n 0, 1) := by decide +kernel
theorem d_X1_hasHouse_6 : decode m_X1_hasHouse.2.1 6 = .ok (.getfield 23, 3) := by decide +kernel
theorem d_X1_hasHouse_9 : decode m_X1_hasHouse.2.1 9 = .ok (.if_icmp .ge 7, 3) := by decide +kernel
theorem d_X1_hasHouse_12 : decode m_X1_hasHouse.2.1 12 = .ok (.iconst 1, 1) := by decide +kernel
theorem d_X1_hasHouse_13 : decode m_X1_hasHouse.2.1 13 = .ok (.goto 4, 3) := by decide +kernel
theorem d_X1_hasHouse_16 : decode m_X1_hasHouse.2.1 16 = .ok (.iconst 0, 1) := by decide +kernel
theorem d_X1_hasHouse_17 : decode m_X1_hasHouse.2.1 17 = .ok (.ireturn, 1) := by decide +kernel
theorem d_X1_hasStone_0 : decode m_X1_hasStone.2.1 0 = .ok (.iload_n 1, 1) := by decide +kernel
theorem d_X1_hasStone_1 : decode m_X1_hasStone.2.1 1 = .ok (.ifCond .lt 15, 3) := by decide +kernel
theorem d_X1_hasStone_4 : decode m_X1_hasStone.2.1 4 = .ok (.iload_n 1, 1) := by decide +kernel
theorem d_X1_hasStone_5 : decode m_X1_hasStone.2.1 5 = .ok (.aload_n 0, 1) := by decide +kernel
theorem d_X1_hasStone_6 : decode m_X1_hasStone.2.1 6 = .ok (.getfield 27, 3) := by decide +kernel
theorem d_X1_hasStone_9 : decode m_X1_hasStone.2.1 9 = .ok (.if_icmp .ge 7, 3) := by decide +kernel
theorem d_X1_hasStone_12 : decode m_X1_hasStone.2.1 12 = .ok (.iconst 1, 1) := by decide +kernel
theorem d_X1_hasStone_13 : decode m_X1_hasStone.2.1 13 = .ok (.goto 4, 3) := by decide +kernel
theorem d_X1_hasStone_16 : decode m_X1_hasStone.2.1 16 = .ok (.iconst 0, 1) := by decide +kernel
theorem d_X1_hasStone_17 : decode m_X1_hasStone.2.1 17 = .ok (.ireturn, 1) := by decide +kernel
theorem d_X1_empty_0 : decode m_X1_empty.2.1 0 = .ok (.aload_n 0, 1) := by decide +kernel
theorem d_X1_empty_1 : decode m_X1_empty.2.1 1 = .ok (.iconst 0, 1) := by decide +kernel
theorem d_X1_empty_2 : decode m_X1_empty.2.1 2 = .ok (.putfield 23, 3) := by decide +kernel
theorem d_X1_empty_5 : decode m_X1_empty.2.1 5 = .ok (.aload_n 0, 1) := by decide +kernel
theorem d_X1_empty_6 : decode m_X1_empty.2.1 6 = .ok (.iconst 0, 1) := by decide +kernel
theorem d_X1_empty_7 : decode m_X1_empty.2.1 7 = .ok (.putfield 27, 3) := by decide +kernel
theorem d_X1_empty_10 : decode m_X1_empty.2.1 10 = .ok (.aload_n 0, 1) := by decide +kernel
theorem d_X1_empty_11 : decode m_X1_empty.2.1 11 = .ok (.iconst 0, 1) := by decide +kernel
theorem d_X1_empty_12 : decode m_X1_empty.2.1 12 = .ok (.putfield 30, 3) := by decide +kernel
theorem d_X1_empty_15 : decode m_X1_empty.2.1 15 = .ok (.aload_n 0, 1) := by decide +kernel
theorem d_X1_empty_16 : decode m_X1_empty.2.1 16 = .ok (.iconst 0, 1) := by decide +kernel
theorem d_X1_empty_17 : decode m_X1_empty.2.1 17 = .ok (.putfield 33, 3) := by decide +kernel
theorem d_X1_empty_20 : decode m_X1_empty.2.1 20 = .ok (.return_, 1) := by decide +kernel
theorem d_X1_addHouse_0 : decode m_X1_addHouse.2.1 0 = .ok (.aload_n 0, 1) := by decide +kernel
theorem d_X1_addHouse_1 : decode m_X1_addHouse.2.1 1 = .ok (.getfield 23, 3) := by decide +kernel
theorem d_X1_addHouse_4 : decode m_X1_addHouse.2.1 4 = .ok (.iconst 5, 1) := by decide +kernel
theorem d_X1_addHouse_5 : decode m_X1_addHouse.2.1 5 = .ok (.if_icmp .lt 4, 3) := by decide +kernel
theorem d_X1_addHouse_8 : decode m_X1_addHouse.2.1 8 = .ok (.return_, 1) := by decide +kernel
theorem d_X1_addHouse_9 : decode m_X1_addHouse.2.1 9 = .ok (.aload_n 0, 1) := by decide +kernel
theorem d_X1_addHouse_10 : decode m_X1_addHouse.2.1 10 = .ok (.getfield 13, 3) := by decide +kernel
theorem d_X1_addHouse_13 : decode m_X1_addHouse.2.1 13 = .ok (.aload_n 0, 1) := by decide +kernel
theorem d_X1_addHouse_14 : decode m_X1_addHouse.2.1 14 = .ok (.getfield 23, 3) := by decide +kernel
theorem d_X1_addHouse_17 : decode m_X1_addHouse.2.1 17 = .ok (.aaload, 1) := by decide +kernel
theorem d_X1_addHouse_18 : decode m_X1_addHouse.2.1 18 = .ok (.astore 4, 2) := by decide +kernel
theorem d_X1_addHouse_20 : decode m_X1_addHouse.2.1 20 = .ok (.aload 4, 2) := by decide +kernel
theorem d_X1_addHouse_22 : decode m_X1_addHouse.2.1 22 = .ok (.iload_n 1, 1) := by decide +kernel
theorem d_X1_addHouse_23 : decode m_X1_addHouse.2.1 23 = .ok (.putfield 38, 3) := by decide +kernel
theorem d_X1_addHouse_26 : decode m_X1_addHouse.2.1 26 = .ok (.aload 4, 2) := by decide +kernel
theorem d_X1_addHouse_28 : decode m_X1_addHouse.2.1 28 = .ok (.iload_n 2, 1) := by decide +kernel
theorem d_X1_addHouse_29 : decode m_X1_addHouse.2.1 29 = .ok (.putfield 41, 3) := by decide +kernel
theorem d_X1_addHouse_32 : decode m_X1_addHouse.2.1 32 = .ok (.aload 4, 2) := by decide +kernel
theorem d_X1_addHouse_34 : decode m_X1_addHouse.2.1 34 = .ok (.iload_n 3, 1) := by decide +kernel
theorem d_X1_addHouse_35 : decode m_X1_addHouse.2.1 35 = .ok (.putfield 44, 3) := by decide +kernel
theorem d_X1_addHouse_38 : decode m_X1_addHouse.2.1 38 = .ok (.aload 4, 2) := by decide +kernel
theorem d_X1_addHouse_40 : decode m_X1_addHouse.2.1 40 = .ok (.iconst 0, 1) := by decide +kernel
theorem d_X1_addHouse_41 : decode m_X1_addHouse.2.1 41 = .ok (.putfield 47, 3) := by decide +kernel
theorem d_X1_addHouse_44 : decode m_X1_addHouse.2.1 44 = .ok (.aload 4, 2) := by decide +kernel
theorem d_X1_addHouse_46 : decode m_X1_addHouse.2.1 46 = .ok (.iconst 0, 1) := by decide +kernel
theorem d_X1_addHouse_47 : decode m_X1_addHouse.2.1 47 = .ok (.putfield 50, 3) := by decide +kernel
theorem d_X1_addHouse_50 : decode m_X1_addHouse.2.1 50 = .ok (.aload_n 0, 1) := by decide +kernel
theorem d_X1_addHouse_51 : decode m_X1_addHouse.2.1 51 = .ok (.dup, 1) := by decide +kernel
theorem d_X1_addHouse_52 : decode m_X1_addHouse.2.1 52 = .ok (.getfield 23, 3) := by decide +kernel
theorem d_X1_addHouse_55 : decode m_X1_addHouse.2.1 55 = .ok (.iconst 1, 1) := by decide +kernel
theorem d_X1_addHouse_56 : decode m_X1_addHouse.2.1 56 = .ok (.iadd, 1) := by decide +kernel
theorem d_X1_addHouse_57 : decode m_X1_addHouse.2.1 57 = .ok (.putfield 23, 3) := by decide +kernel
theorem d_X1_addHouse_60 : decode m_X1_addHouse.2.1 60 = .ok (.return_, 1) := by decide +kernel
theorem d_X1_addStone_0 : decode m_X1_addStone.2.1 0 = .ok (.aload_n 0, 1) := by decide +kernel
theorem d_X1_addStone_1 : decode m_X1_addStone.2.1 1 = .ok (.getfield 27, 3) := by decide +kernel
theorem d_X1_addStone_4 : decode m_X1_addStone.2.1 4 = .ok (.iconst 4, 1) := by decide +kernel
theorem d_X1_addStone_5 : decode m_X1_addStone.2.1 5 = .ok (.if_icmp .lt 4, 3) := by decide +kernel
theorem d_X1_addStone_8 : decode m_X1_addStone.2.1 8 = .ok (.return_, 1) := by decide +kernel
theorem d_X1_addStone_9 : decode m_X1_addStone.2.1 9 = .ok (.aload_n 0, 1) := by decide +kernel
theorem d_X1_addStone_10 : decode m_X1_addStone.2.1 10 = .ok (.getfield 19, 3) := by decide +kernel
theorem d_X1_addStone_13 : decode m_X1_addStone.2.1 13 = .ok (.aload_n 0, 1) := by decide +kernel
theorem d_X1_addStone_14 : decode m_X1_addStone.2.1 14 = .ok (.getfield 27, 3) := by decide +kernel
theorem d_X1_addStone_17 : decode m_X1_addStone.2.1 17 = .ok (.aaload, 1) := by decide +kernel
theorem d_X1_addStone_18 : decode m_X1_addStone.2.1 18 = .ok (.iload_n 1, 1) := by decide +kernel
theorem d_X1_addStone_19 : decode m_X1_addStone.2.1 19 = .ok (.putfield 54, 3) := by decide +kernel
theorem d_X1_addStone_22 : decode m_X1_addStone.2.1 22 = .ok (.aload_n 0, 1) := by decide +kernel
theorem d_X1_addStone_23 : decode m_X1_addStone.2.1 23 = .ok (.getfield 19, 3) := by decide +kernel
theorem d_X1_addStone_26 : decode m_X1_addStone.2.1 26 = .ok (.aload_n 0, 1) := by decide +kernel
theorem d_X1_addStone_27 : decode m_X1_addStone.2.1 27 = .ok (.getfield 27, 3) := by decide +kernel
theorem d_X1_addStone_30 : decode m_X1_addStone.2.1 30 = .ok (.aaload, 1) := by decide +kernel
theorem d_X1_addStone_31 : decode m_X1_addStone.2.1 31 = .ok (.iconst 0, 1) := by decide +kernel
theorem d_X1_addStone_32 : decode m_X1_addStone.2.1 32 = .ok (.putfield 57, 3) := by decide +kernel
theorem d_X1_addStone_35 : decode m_X1_addStone.2.1 35 = .ok (.aload_n 0, 1) := by decide +kernel
theorem d_X1_addStone_36 : decode m_X1_addStone.2.1 36 = .ok (.dup, 1) := by decide +kernel
theorem d_X1_addStone_37 : decode m_X1_addStone.2.1 37 = .ok (.getfield 27, 3) := by decide +kernel
theorem d_X1_addStone_40 : decode m_X1_addStone.2.1 40 = .ok (.iconst 1, 1) := by decide +kernel
theorem d_X1_addStone_41 : decode m_X1_addStone.2.1 41 = .ok (.iadd, 1) := by decide +kernel
theorem d_X1_addStone_42 : decode m_X1_addStone.2.1 42 = .ok (.putfield 27, 3) := by decide +kernel
theorem d_X1_addStone_45 : decode m_X1_addStone.2.1 45 = .ok (.return_, 1) := by decide +kernel
theorem d_X1_become_0 : decode m_X1_become.2.1 0 = .ok (.aload_n 0, 1) := by decide +kernel
theorem d_X1_become_1 : decode m_X1_become.2.1 1 = .ok (.aload_n 1, 1) := by decide +kernel
theorem d_X1_become_2 : decode m_X1_become.2.1 2 = .ok (.getfield 23, 3) := by decide +kernel
theorem d_X1_become_5 : decode m_X1_become.2.1 5 = .ok (.putfield 23, 3) := by decide +kernel
theorem d_X1_become_8 : decode m_X1_become.2.1 8 = .ok (.aload_n 0, 1) := by decide +kernel
theorem d_X1_become_9 : decode m_X1_become.2.1 9 = .ok (.aload_n 1, 1) := by decide +kernel
theorem d_X1_become_10 : decode m_X1_become.2.1 10 = .ok (.getfield 27, 3) := by decide +kernel
theorem d_X1_become_13 : decode m_X1_become.2.1 13 = .ok (.putfield 27, 3) := by decide +kernel
theorem d_X1_become_16 : decode m_X1_become.2.1 16 = .ok (.aload_n 0, 1) := by decide +kernel
theorem d_X1_become_17 : decode m_X1_become.2.1 17 = .ok (.aload_n 1, 1) := by decide +kernel
theorem d_X1_become_18 : decode m_X1_become.2.1 18 = .ok (.getfield 30, 3) := by decide +kernel
theorem d_X1_become_21 : decode m_X1_become.2.1 21 = .ok (.putfield 30, 3) := by decide +kernel
theorem d_X1_become_24 : decode m_X1_become.2.1 24 = .ok (.aload_n 0, 1) := by decide +kernel
theorem d_X1_become_25 : decode m_X1_become.2.1 25 = .ok (.aload_n 1, 1) := by decide +kernel
theorem d_X1_become_26 : decode m_X1_become.2.1 26 = .ok (.getfield 33, 3) := by decide +kernel
theorem d_X1_become_29 : decode m_X1_become.2.1 29 = .ok (.putfield 33, 3) := by decide +kernel
theorem d_X1_become_32 : decode m_X1_become.2.1 32 = .ok (.iconst 0, 1) := by decide +kernel
theorem d_X1_become_33 : decode m_X1_become.2.1 33 = .ok (.istore_n 2, 1) := by decide +kernel
theorem d_X1_become_34 : decode m_X1_become.2.1 34 = .ok (.iload_n 2, 1) := by decide +kernel
theorem d_X1_become_35 : decode m_X1_become.2.1 35 = .ok (.aload_n 0, 1) := by decide +kernel
theorem d_X1_become_36 : decode m_X1_become.2.1 36 = .ok (.getfield 23, 3) := by decide +kernel
theorem d_X1_become_39 : decode m_X1_become.2.1 39 = .ok (.if_icmp .ge 24, 3) := by decide +kernel
theorem d_X1_become_42 : decode m_X1_become.2.1 42 = .ok (.aload_n 0, 1) := by decide +kernel
theorem d_X1_become_43 : decode m_X1_become.2.1 43 = .ok (.getfield 13, 3) := by decide +kernel
theorem d_X1_become_46 : decode m_X1_become.2.1 46 = .ok (.iload_n 2, 1) := by decide +kernel
theorem d_X1_become_47 : decode m_X1_become.2.1 47 = .ok (.aaload, 1) := by decide +kernel
theorem d_X1_become_48 : decode m_X1_become.2.1 48 = .ok (.aload_n 1, 1) := by decide +kernel
theorem d_X1_become_49 : decode m_X1_become.2.1 49 = .ok (.getfield 13, 3) := by decide +kernel
theorem d_X1_become_52 : decode m_X1_become.2.1 52 = .ok (.iload_n 2, 1) := by decide +kernel
theorem d_X1_become_53 : decode m_X1_become.2.1 53 = .ok (.aaload, 1) := by decide +kernel
theorem d_X1_become_54 : decode m_X1_become.2.1 54 = .ok (.invokevirtual 60, 3) := by decide +kernel
theorem d_X1_become_57 : decode m_X1_become.2.1 57 = .ok (.iinc 2 1, 3) := by decide +kernel
theorem d_X1_become_60 : decode m_X1_become.2.1 60 = .ok (.goto (-26), 3) := by decide +kernel
theorem d_X1_become_63 : decode m_X1_become.2.1 63 = .ok (.iconst 0, 1) := by decide +kernel
theorem d_X1_become_64 : decode m_X1_become.2.1 64 = .ok (.istore_n 2, 1) := by decide +kernel
theorem d_X1_become_65 : decode m_X1_become.2.1 65 = .ok (.iload_n 2, 1) := by decide +kernel
theorem d_X1_become_66 : decode m_X1_become.2.1 66 = .ok (.aload_n 0, 1) := by decide +kernel
theorem d_X1_become_67 : decode m_X1_become.2.1 67 = .ok (.getfield 27, 3) := by decide +kernel
theorem d_X1_become_70 : decode m_X1_become.2.1 70 = .ok (.if_icmp .ge 24, 3) := by decide +kernel
theorem d_X1_become_73 : decode m_X1_become.2.1 73 = .ok (.aload_n 0, 1) := by decide +kernel
theorem d_X1_become_74 : decode m_X1_become.2.1 74 = .ok (.getfield 19, 3) := by decide +kernel
theorem d_X1_become_77 : decode m_X1_become.2.1 77 = .ok (.iload_n 2, 1) := by decide +kernel
theorem d_X1_become_78 : decode m_X1_become.2.1 78 = .ok (.aaload, 1) := by decide +kernel
theorem d_X1_become_79 : decode m_X1_become.2.1 79 = .ok (.aload_n 1, 1) := by decide +kernel
theorem d_X1_become_80 : decode m_X1_become.2.1 80 = .ok (.getfield 19, 3) := by decide +kernel
theorem d_X1_become_83 : decode m_X1_become.2.1 83 = .ok (.iload_n 2, 1) := by decide +kernel
theorem d_X1_become_84 : decode m_X1_become.2.1 84 = .ok (.aaload, 1) := by decide +kernel
theorem d_X1_become_85 : decode m_X1_become.2.1 85 = .ok (.invokevirtual 64, 3) := by decide +kernel
theorem d_X1_become_88 : decode m_X1_become.2.1 88 = .ok (.iinc 2 1, 3) := by decide +kernel
theorem d_X1_become_91 : decode m_X1_become.2.1 91 = .ok (.goto (-26), 3) := by decide +kernel
theorem d_X1_become_94 : decode m_X1_become.2.1 94 = .ok (.return_, 1) := by decide +kernel
theorem d_X1_voice_0 : decode m_X1_voice.2.1 0 = .ok (.iconst 0, 1) := by decide +kernel
theorem d_X1_voice_1 : decode m_X1_voice.2.1 1 = .ok (.istore_n 1, 1) := by decide +kernel
theorem d_X1_voice_2 : decode m_X1_voice.2.1 2 = .ok (.iconst 0, 1) := by decide +kernel
theorem d_X1_voice_3 : decode m_X1_voice.2.1 3 = .ok (.istore_n 2, 1) := by decide +kernel
theorem d_X1_voice_4 : decode m_X1_voice.2.1 4 = .ok (.iload_n 2, 1) := by decide +kernel
theorem d_X1_voice_5 : decode m_X1_voice.2.1 5 = .ok (.aload_n 0, 1) := by decide +kernel
theorem d_X1_voice_6 : decode m_X1_voice.2.1 6 = .ok (.getfield 23, 3) := by decide +kernel
theorem d_X1_voice_9 : decode m_X1_voice.2.1 9 = .ok (.if_icmp .ge 37, 3) := by decide +kernel
theorem d_X1_voice_12 : decode m_X1_voice.2.1 12 = .ok (.iload_n 1, 1) := by decide +kernel
theorem d_X1_voice_13 : decode m_X1_voice.2.1 13 = .ok (.aload_n 0, 1) := by decide +kernel
theorem d_X1_voice_14 : decode m_X1_voice.2.1 14 = .ok (.getfield 13, 3) := by decide +kernel
theorem d_X1_voice_17 : decode m_X1_voice.2.1 17 = .ok (.iload_n 2, 1) := by decide +kernel
theorem d_X1_voice_18 : decode m_X1_voice.2.1 18 = .ok (.aaload, 1) := by decide +kernel
theorem d_X1_voice_19 : decode m_X1_voice.2.1 19 = .ok (.invokevirtual 67, 3) := by decide +kernel
theorem d_X1_voice_22 : decode m_X1_voice.2.1 22 = .ok (.ifCond .eq 15, 3) := by decide +kernel
theorem d_X1_voice_25 : decode m_X1_voice.2.1 25 = .ok (.aload_n 0, 1) := by decide +kernel
theorem d_X1_voice_26 : decode m_X1_voice.2.1 26 = .ok (.getfield 13, 3) := by decide +kernel
theorem d_X1_voice_29 : decode m_X1_voice.2.1 29 = .ok (.iload_n 2, 1) := by decide +kernel
theorem d_X1_voice_30 : decode m_X1_voice.2.1 30 = .ok (.aaload, 1) := by decide +kernel
theorem d_X1_voice_31 : decode m_X1_voice.2.1 31 = .ok (.invokevirtual 71, 3) := by decide +kernel
theorem d_X1_voice_34 : decode m_X1_voice.2.1 34 = .ok (.goto 4, 3) := by decide +kernel
theorem d_X1_voice_37 : decode m_X1_voice.2.1 37 = .ok (.iconst 0, 1) := by decide +kernel
theorem d_X1_voice_38 : decode m_X1_voice.2.1 38 = .ok (.iadd, 1) := by decide +kernel
theorem d_X1_voice_39 : decode m_X1_voice.2.1 39 = .ok (.istore_n 1, 1) := by decide +kernel
theorem d_X1_voice_40 : decode m_X1_voice.2.1 40 = .ok (.iinc 2 1, 3) := by decide +kernel
theorem d_X1_voice_43 : decode m_X1_voice.2.1 43 = .ok (.goto (-39), 3) := by decide +kernel
theorem d_X1_voice_46 : decode m_X1_voice.2.1 46 = .ok (.iconst 0, 1) := by decide +kernel
theorem d_X1_voice_47 : decode m_X1_voice.2.1 47 = .ok (.istore_n 2, 1) := by decide +kernel
theorem d_X1_voice_48 : decode m_X1_voice.2.1 48 = .ok (.iload_n 2, 1) := by decide +kernel
theorem d_X1_voice_49 : decode m_X1_voice.2.1 49 = .ok (.aload_n 0, 1) := by decide +kernel
theorem d_X1_voice_50 : decode m_X1_voice.2.1 50 = .ok (.getfield 27, 3) := by decide +kernel
theorem d_X1_voice_53 : decode m_X1_voice.2.1 53 = .ok (.if_icmp .ge 37, 3) := by decide +kernel
theorem d_X1_voice_56 : decode m_X1_voice.2.1 56 = .ok (.iload_n 1, 1) := by decide +kernel
theorem d_X1_voice_57 : decode m_X1_voice.2.1 57 = .ok (.aload_n 0, 1) := by decide +kernel
theorem d_X1_voice_58 : decode m_X1_voice.2.1 58 = .ok (.getfield 19, 3) := by decide +kernel
theorem d_X1_voice_61 : decode m_X1_voice.2.1 61 = .ok (.iload_n 2, 1) := by decide +kernel
theorem d_X1_voice_62 : decode m_X1_voice.2.1 62 = .ok (.aaload, 1) := by decide +kernel
theorem d_X1_voice_63 : decode m_X1_voice.2.1 63 = .ok (.getfield 57, 3) := by decide +kernel
theorem d_X1_voice_66 : decode m_X1_voice.2.1 66 = .ok (.ifCond .eq 7, 3) := by decide +kernel
theorem d_X1_voice_69 : decode m_X1_voice.2.1 69 = .ok (.iconst 0, 1) := by decide +kernel
theorem d_X1_voice_70 : decode m_X1_voice.2.1 70 = .ok (.goto 12, 3) := by decide +kernel
theorem d_X1_voice_73 : decode m_X1_voice.2.1 73 = .ok (.aload_n 0, 1) := by decide +kernel
theorem d_X1_voice_74 : decode m_X1_voice.2.1 74 = .ok (.getfield 19, 3) := by decide +kernel
theorem d_X1_voice_77 : decode m_X1_voice.2.1 77 = .ok (.iload_n 2, 1) := by decide +kernel
theorem d_X1_voice_78 : decode m_X1_voice.2.1 78 = .ok (.aaload, 1) := by decide +kernel
theorem d_X1_voice_79 : decode m_X1_voice.2.1 79 = .ok (.getfield 54, 3) := by decide +kernel
theorem d_X1_voice_82 : decode m_X1_voice.2.1 82 = .ok (.iadd, 1) := by decide +kernel
theorem d_X1_voice_83 : decode m_X1_voice.2.1 83 = .ok (.istore_n 1, 1) := by decide +kernel
theorem d_X1_voice_84 : decode m_X1_voice.2.1 84 = .ok (.iinc 2 1, 3) := by decide +kernel
theorem d_X1_voice_87 : decode m_X1_voice.2.1 87 = .ok (.goto (-39), 3) := by decide +kernel
theorem d_X1_voice_90 : decode m_X1_voice.2.1 90 = .ok (.iload_n 1, 1) := by decide +kernel
theorem d_X1_voice_91 : decode m_X1_voice.2.1 91 = .ok (.ireturn, 1) := by decide +kernel
theorem d_X1_hatsLost_0 : decode m_X1_hatsLost.2.1 0 = .ok (.iconst 0, 1) := by decide +kernel
theorem d_X1_hatsLost_1 : decode m_X1_hatsLost.2.1 1 = .ok (.istore_n 1, 1) := by decide +kernel
theorem d_X1_hatsLost_2 : decode m_X1_hatsLost.2.1 2 = .ok (.iconst 0, 1) := by decide +kernel
theorem d_X1_hatsLost_3 : decode m_X1_hatsLost.2.1 3 = .ok (.istore_n 2, 1) := by decide +kernel
theorem d_X1_hatsLost_4 : decode m_X1_hatsLost.2.1 4 = .ok (.iload_n 2, 1) := by decide +kernel
theorem d_X1_hatsLost_5 : decode m_X1_hatsLost.2.1 5 = .ok (.aload_n 0, 1) := by decide +kernel
theorem d_X1_hatsLost_6 : decode m_X1_hatsLost.2.1 6 = .ok (.getfield 23, 3) := by decide +kernel
theorem d_X1_hatsLost_9 : decode m_X1_hatsLost.2.1 9 = .ok (.if_icmp .ge 21, 3) := by decide +kernel
theorem d_X1_hatsLost_12 : decode m_X1_hatsLost.2.1 12 = .ok (.iload_n 1, 1) := by decide +kernel
theorem d_X1_hatsLost_13 : decode m_X1_hatsLost.2.1 13 = .ok (.aload_n 0, 1) := by decide +kernel
theorem d_X1_hatsLost_14 : decode m_X1_hatsLost.2.1 14 = .ok (.getfield 13, 3) := by decide +kernel
theorem d_X1_hatsLost_17 : decode m_X1_hatsLost.2.1 17 = .ok (.iload_n 2, 1) := by decide +kernel
theorem d_X1_hatsLost_18 : decode m_X1_hatsLost.2.1 18 = .ok (.aaload, 1) := by decide +kernel
theorem d_X1_hatsLost_19 : decode m_X1_hatsLost.2.1 19 = .ok (.getfield 47, 3) := by decide +kernel
theorem d_X1_hatsLost_22 : decode m_X1_hatsLost.2.1 22 = .ok (.iadd, 1) := by decide +kernel
theorem d_X1_hatsLost_23 : decode m_X1_hatsLost.2.1 23 = .ok (.istore_n 1, 1) := by decide +kernel
theorem d_X1_hatsLost_24 : decode m_X1_hatsLost.2.1 24 = .ok (.iinc 2 1, 3) := by decide +kernel
theorem d_X1_hatsLost_27 : decode m_X1_hatsLost.2.1 27 = .ok (.goto (-23), 3) := by decide +kernel
theorem d_X1_hatsLost_30 : decode m_X1_hatsLost.2.1 30 = .ok (.iload_n 1, 1) := by decide +kernel
theorem d_X1_hatsLost_31 : decode m_X1_hatsLost.2.1 31 = .ok (.ireturn, 1) := by decide +kernel
theorem d_X1_ranklingSet_0 : decode m_X1_ranklingSet.2.1 0 = .ok (.iconst 0, 1) := by decide +kernel
theorem d_X1_ranklingSet_1 : decode m_X1_ranklingSet.2.1 1 = .ok (.istore_n 1, 1) := by decide +kernel
theorem d_X1_ranklingSet_2 : decode m_X1_ranklingSet.2.1 2 = .ok (.iconst 0, 1) := by decide +kernel
theorem d_X1_ranklingSet_3 : decode m_X1_ranklingSet.2.1 3 = .ok (.istore_n 2, 1) := by decide +kernel
theorem d_X1_ranklingSet_4 : decode m_X1_ranklingSet.2.1 4 = .ok (.iload_n 2, 1) := by decide +kernel
theorem d_X1_ranklingSet_5 : decode m_X1_ranklingSet.2.1 5 = .ok (.aload_n 0, 1) := by decide +kernel
theorem d_X1_ranklingSet_6 : decode m_X1_ranklingSet.2.1 6 = .ok (.getfield 23, 3) := by decide +kernel
theorem d_X1_ranklingSet_9 : decode m_X1_ranklingSet.2.1 9 = .ok (.if_icmp .ge 27, 3) := by decide +kernel
theorem d_X1_ranklingSet_12 : decode m_X1_ranklingSet.2.1 12 = .ok (.aload_n 0, 1) := by decide +kernel
theorem d_X1_ranklingSet_13 : decode m_X1_ranklingSet.2.1 13 = .ok (.getfield 13, 3) := by decide +kernel
theorem d_X1_ranklingSet_16 : decode m_X1_ranklingSet.2.1 16 = .ok (.iload_n 2, 1) := by decide +kernel
theorem d_X1_ranklingSet_17 : decode m_X1_ranklingSet.2.1 17 = .ok (.aaload, 1) := by decide +kernel
theorem d_X1_ranklingSet_18 : decode m_X1_ranklingSet.2.1 18 = .ok (.invokevirtual 67, 3) := by decide +kernel
theorem d_X1_ranklingSet_21 : decode m_X1_ranklingSet.2.1 21 = .ok (.ifCond .eq 9, 3) := by decide +kernel
theorem d_X1_ranklingSet_24 : decode m_X1_ranklingSet.2.1 24 = .ok (.iload_n 1, 1) := by decide +kernel
theorem d_X1_ranklingSet_25 : decode m_X1_ranklingSet.2.1 25 = .ok (.iconst 1, 1) := by decide +kernel
theorem d_X1_ranklingSet_26 : decode m_X1_ranklingSet.2.1 26 = .ok (.iload_n 2, 1) := by decide +kernel
theorem d_X1_ranklingSet_27 : decode m_X1_ranklingSet.2.1 27 = .ok (.ishl, 1) := by decide +kernel
theorem d_X1_ranklingSet_28 : decode m_X1_ranklingSet.2.1 28 = .ok (.ior, 1) := by decide +kernel
theorem d_X1_ranklingSet_29 : decode m_X1_ranklingSet.2.1 29 = .ok (.istore_n 1, 1) := by decide +kernel
theorem d_X1_ranklingSet_30 : decode m_X1_ranklingSet.2.1 30 = .ok (.iinc 2 1, 3) := by decide +kernel
theorem d_X1_ranklingSet_33 : decode m_X1_ranklingSet.2.1 33 = .ok (.goto (-29), 3) := by decide +kernel
theorem d_X1_ranklingSet_36 : decode m_X1_ranklingSet.2.1 36 = .ok (.iload_n 1, 1) := by decide +kernel
theorem d_X1_ranklingSet_37 : decode m_X1_ranklingSet.2.1 37 = .ok (.ireturn, 1) := by decide +kernel
theorem d_X1_setCount_0 : decode m_X1_setCount.2.1 0 = .ok (.iconst 1, 1) := by decide +kernel
theorem d_X1_setCount_1 : decode m_X1_setCount.2.1 1 = .ok (.aload_n 0, 1) := by decide +kernel
theorem d_X1_setCount_2 : decode m_X1_setCount.2.1 2 = .ok (.getfield 23, 3) := by decide +kernel
theorem d_X1_setCount_5 : decode m_X1_setCount.2.1 5 = .ok (.ishl, 1) := by decide +kernel
theorem d_X1_setCount_6 : decode m_X1_setCount.2.1 6 = .ok (.ireturn, 1) := by decide +kernel
theorem d_X1_doesSetRankle_0 : decode m_X1_doesSetRankle.2.1 0 = .ok (.iload_n 1, 1) := by decide +kernel
theorem d_X1_doesSetRankle_1 : decode m_X1_doesSetRankle.2.1 1 = .ok (.aload_n 0, 1) := by decide +kernel
theorem d_X1_doesSetRankle_2 : decode m_X1_doesSetRankle.2.1 2 = .ok (.invokevirtual 75, 3) := by decide +kernel
theorem d_X1_doesSetRankle_5 : decode m_X1_doesSetRankle.2.1 5 = .ok (.iconst (-1), 1) := by decide +kernel
theorem d_X1_doesSetRankle_6 : decode m_X1_doesSetRankle.2.1 6 = .ok (.ixor, 1) := by decide +kernel
theorem d_X1_doesSetRankle_7 : decode m_X1_doesSetRankle.2.1 7 = .ok (.iand, 1) := by decide +kernel
theorem d_X1_doesSetRankle_8 : decode m_X1_doesSetRankle.2.1 8 = .ok (.ifCond .ne 7, 3) := by decide +kernel
theorem d_X1_doesSetRankle_11 : decode m_X1_doesSetRankle.2.1 11 = .ok (.iconst 1, 1) := by decide +kernel
theorem d_X1_doesSetRankle_12 : decode m_X1_doesSetRankle.2.1 12 = .ok (.goto 4, 3) := by decide +kernel
theorem d_X1_doesSetRankle_15 : decode m_X1_doesSetRankle.2.1 15 = .ok (.iconst 0, 1) := by decide +kernel
theorem d_X1_doesSetRankle_16 : decode m_X1_doesSetRankle.2.1 16 = .ok (.ireturn, 1) := by decide +kernel
theorem d_X1_weightOfSet_0 : decode m_X1_weightOfSet.2.1 0 = .ok (.iconst 0, 1) := by decide +kernel
theorem d_X1_weightOfSet_1 : decode m_X1_weightOfSet.2.1 1 = .ok (.istore_n 2, 1) := by decide +kernel
theorem d_X1_weightOfSet_2 : decode m_X1_weightOfSet.2.1 2 = .ok (.iconst 0, 1) := by decide +kernel
theorem d_X1_weightOfSet_3 : decode m_X1_weightOfSet.2.1 3 = .ok (.istore_n 3, 1) := by decide +kernel
theorem d_X1_weightOfSet_4 : decode m_X1_weightOfSet.2.1 4 = .ok (.iload_n 3, 1) := by decide +kernel
theorem d_X1_weightOfSet_5 : decode m_X1_weightOfSet.2.1 5 = .ok (.aload_n 0, 1) := by decide +kernel
theorem d_X1_weightOfSet_6 : decode m_X1_weightOfSet.2.1 6 = .ok (.getfield 23, 3) := by decide +kernel
theorem d_X1_weightOfSet_9 : decode m_X1_weightOfSet.2.1 9 = .ok (.if_icmp .ge 33, 3) := by decide +kernel
theorem d_X1_weightOfSet_12 : decode m_X1_weightOfSet.2.1 12 = .ok (.iload_n 2, 1) := by decide +kernel
theorem d_X1_weightOfSet_13 : decode m_X1_weightOfSet.2.1 13 = .ok (.iload_n 1, 1) := by decide +kernel
theorem d_X1_weightOfSet_14 : decode m_X1_weightOfSet.2.1 14 = .ok (.iload_n 3, 1) := by decide +kernel
theorem d_X1_weightOfSet_15 : decode m_X1_weightOfSet.2.1 15 = .ok (.ishr, 1) := by decide +kernel
theorem d_X1_weightOfSet_16 : decode m_X1_weightOfSet.2.1 16 = .ok (.iconst 1, 1) := by decide +kernel
theorem d_X1_weightOfSet_17 : decode m_X1_weightOfSet.2.1 17 = .ok (.iand, 1) := by decide +kernel
theorem d_X1_weightOfSet_18 : decode m_X1_weightOfSet.2.1 18 = .ok (.ifCond .eq 15, 3) := by decide +kernel
theorem d_X1_weightOfSet_21 : decode m_X1_weightOfSet.2.1 21 = .ok (.aload_n 0, 1) := by decide +kernel
theorem d_X1_weightOfSet_22 : decode m_X1_weightOfSet.2.1 22 = .ok (.getfield 13, 3) := by decide +kernel
theorem d_X1_weightOfSet_25 : decode m_X1_weightOfSet.2.1 25 = .ok (.iload_n 3, 1) := by decide +kernel
theorem d_X1_weightOfSet_26 : decode m_X1_weightOfSet.2.1 26 = .ok (.aaload, 1) := by decide +kernel
theorem d_X1_weightOfSet_27 : decode m_X1_weightOfSet.2.1 27 = .ok (.invokevirtual 71, 3) := by decide +kernel
theorem d_X1_weightOfSet_30 : decode m_X1_weightOfSet.2.1 30 = .ok (.goto 4, 3) := by decide +kernel
theorem d_X1_weightOfSet_33 : decode m_X1_weightOfSet.2.1 33 = .ok (.iconst 0, 1) := by decide +kernel
theorem d_X1_weightOfSet_34 : decode m_X1_weightOfSet.2.1 34 = .ok (.iadd, 1) := by decide +kernel
theorem d_X1_weightOfSet_35 : decode m_X1_weightOfSet.2.1 35 = .ok (.istore_n 2, 1) := by decide +kernel
theorem d_X1_weightOfSet_36 : decode m_X1_weightOfSet.2.1 36 = .ok (.iinc 3 1, 3) := by decide +kernel
theorem d_X1_weightOfSet_39 : decode m_X1_weightOfSet.2.1 39 = .ok (.goto (-35), 3) := by decide +kernel
theorem d_X1_weightOfSet_42 : decode m_X1_weightOfSet.2.1 42 = .ok (.iload_n 2, 1) := by decide +kernel
theorem d_X1_weightOfSet_43 : decode m_X1_weightOfSet.2.1 43 = .ok (.ireturn, 1) := by decide +kernel
theorem d_X1_ownUpAll_0 : decode m_X1_ownUpAll.2.1 0 = .ok (.iconst 0, 1) := by decide +kernel
theorem d_X1_ownUpAll_1 : decode m_X1_ownUpAll.2.1 1 = .ok (.istore_n 2, 1) := by decide +kernel
theorem d_X1_ownUpAll_2 : decode m_X1_ownUpAll.2.1 2 = .ok (.iload_n 2, 1) := by decide +kernel
theorem d_X1_ownUpAll_3 : decode m_X1_ownUpAll.2.1 3 = .ok (.aload_n 0, 1) := by decide +kernel
theorem d_X1_ownUpAll_4 : decode m_X1_ownUpAll.2.1 4 = .ok (.getfield 23, 3) := by decide +kernel
theorem d_X1_ownUpAll_7 : decode m_X1_ownUpAll.2.1 7 = .ok (.if_icmp .ge 27, 3) := by decide +kernel
theorem d_X1_ownUpAll_10 : decode m_X1_ownUpAll.2.1 10 = .ok (.iload_n 1, 1) := by decide +kernel
theorem d_X1_ownUpAll_11 : decode m_X1_ownUpAll.2.1 11 = .ok (.iload_n 2, 1) := by decide +kernel
theorem d_X1_ownUpAll_12 : decode m_X1_ownUpAll.2.1 12 = .ok (.ishr, 1) := by decide +kernel
theorem d_X1_ownUpAll_13 : decode m_X1_ownUpAll.2.1 13 = .ok (.iconst 1, 1) := by decide +kernel
theorem d_X1_ownUpAll_14 : decode m_X1_ownUpAll.2.1 14 = .ok (.iand, 1) := by decide +kernel
theorem d_X1_ownUpAll_15 : decode m_X1_ownUpAll.2.1 15 = .ok (.ifCond .eq 13, 3) := by decide +kernel
theorem d_X1_ownUpAll_18 : decode m_X1_ownUpAll.2.1 18 = .ok (.aload_n 0, 1) := by decide +kernel
theorem d_X1_ownUpAll_19 : decode m_X1_ownUpAll.2.1 19 = .ok (.getfield 13, 3) := by decide +kernel
theorem d_X1_ownUpAll_22 : decode m_X1_ownUpAll.2.1 22 = .ok (.iload_n 2, 1) := by decide +kernel
theorem d_X1_ownUpAll_23 : decode m_X1_ownUpAll.2.1 23 = .ok (.aaload, 1) := by decide +kernel
theorem d_X1_ownUpAll_24 : decode m_X1_ownUpAll.2.1 24 = .ok (.invokevirtual 78, 3) := by decide +kernel
theorem d_X1_ownUpAll_27 : decode m_X1_ownUpAll.2.1 27 = .ok (.pop, 1) := by decide +kernel
theorem d_X1_ownUpAll_28 : decode m_X1_ownUpAll.2.1 28 = .ok (.iinc 2 1, 3) := by decide +kernel
theorem d_X1_ownUpAll_31 : decode m_X1_ownUpAll.2.1 31 = .ok (.goto (-29), 3) := by decide +kernel
theorem d_X1_ownUpAll_34 : decode m_X1_ownUpAll.2.1 34 = .ok (.return_, 1) := by decide +kernel
theorem d_X1_passNight_0 : decode m_X1_passNight.2.1 0 = .ok (.aload_n 0, 1) := by decide +kernel
theorem d_X1_passNight_1 : decode m_X1_passNight.2.1 1 = .ok (.invokevirtual 81, 3) := by decide +kernel
theorem d_X1_passNight_4 : decode m_X1_passNight.2.1 4 = .ok (.ifCond .eq 14, 3) := by decide +kernel
theorem d_X1_passNight_7 : decode m_X1_passNight.2.1 7 = .ok (.aload_n 0, 1) := by decide +kernel
theorem d_X1_passNight_8 : decode m_X1_passNight.2.1 8 = .ok (.aload_n 0, 1) := by decide +kernel
theorem d_X1_passNight_9 : decode m_X1_passNight.2.1 9 = .ok (.getfield 33, 3) := by decide +kernel
theorem d_X1_passNight_12 : decode m_X1_passNight.2.1 12 = .ok (.invokevirtual 84, 3) := by decide +kernel
theorem d_X1_passNight_15 : decode m_X1_passNight.2.1 15 = .ok (.ifCond .ne 4, 3) := by decide +kernel
theorem d_X1_passNight_18 : decode m_X1_passNight.2.1 18 = .ok (.return_, 1) := by decide +kernel
theorem d_X1_passNight_19 : decode m_X1_passNight.2.1 19 = .ok (.aload_n 0, 1) := by decide +kernel
theorem d_X1_passNight_20 : decode m_X1_passNight.2.1 20 = .ok (.invokevirtual 88, 3) := by decide +kernel
theorem d_X1_passNight_23 : decode m_X1_passNight.2.1 23 = .ok (.aload_n 0, 1) := by decide +kernel
theorem d_X1_passNight_24 : decode m_X1_passNight.2.1 24 = .ok (.getfield 13, 3) := by decide +kernel
theorem d_X1_passNight_27 : decode m_X1_passNight.2.1 27 = .ok (.aload_n 0, 1) := by decide +kernel
theorem d_X1_passNight_28 : decode m_X1_passNight.2.1 28 = .ok (.getfield 33, 3) := by decide +kernel
theorem d_X1_passNight_31 : decode m_X1_passNight.2.1 31 = .ok (.aaload, 1) := by decide +kernel
theorem d_X1_passNight_32 : decode m_X1_passNight.2.1 32 = .ok (.getfield 44, 3) := by decide +kernel
theorem d_X1_passNight_35 : decode m_X1_passNight.2.1 35 = .ok (.ifCond .ne 16, 3) := by decide +kernel
theorem d_X1_passNight_38 : decode m_X1_passNight.2.1 38 = .ok (.aload_n 0, 1) := by decide +kernel
theorem d_X1_passNight_39 : decode m_X1_passNight.2.1 39 = .ok (.getfield 13, 3) := by decide +kernel
theorem d_X1_passNight_42 : decode m_X1_passNight.2.1 42 = .ok (.aload_n 0, 1) := by decide +kernel
theorem d_X1_passNight_43 : decode m_X1_passNight.2.1 43 = .ok (.getfield 33, 3) := by decide +kernel
theorem d_X1_passNight_46 : decode m_X1_passNight.2.1 46 = .ok (.aaload, 1) := by decide +kernel
theorem d_X1_passNight_47 : decode m_X1_passNight.2.1 47 = .ok (.invokevirtual 78, 3) := by decide +kernel
theorem d_X1_passNight_50 : decode m_X1_passNight.2.1 50 = .ok (.pop, 1) := by decide +kernel
theorem d_X1_passNight_51 : decode m_X1_passNight.2.1 51 = .ok (.aload_n 0, 1) := by decide +kernel
theorem d_X1_passNight_52 : decode m_X1_passNight.2.1 52 = .ok (.invokevirtual 75, 3) := by decide +kernel
theorem d_X1_passNight_55 : decode m_X1_passNight.2.1 55 = .ok (.ifCond .ne 7, 3) := by decide +kernel
theorem d_X1_passNight_58 : decode m_X1_passNight.2.1 58 = .ok (.aload_n 0, 1) := by decide +kernel
theorem d_X1_passNight_59 : decode m_X1_passNight.2.1 59 = .ok (.invokevirtual 91, 3) := by decide +kernel
theorem d_X1_passNight_62 : decode m_X1_passNight.2.1 62 = .ok (.aload_n 0, 1) := by decide +kernel
theorem d_X1_passNight_63 : decode m_X1_passNight.2.1 63 = .ok (.aload_n 0, 1) := by decide +kernel
theorem d_X1_passNight_64 : decode m_X1_passNight.2.1 64 = .ok (.getfield 33, 3) := by decide +kernel
theorem d_X1_passNight_67 : decode m_X1_passNight.2.1 67 = .ok (.aload_n 0, 1) := by decide +kernel
theorem d_X1_passNight_68 : decode m_X1_passNight.2.1 68 = .ok (.getfield 30, 3) := by decide +kernel
theorem d_X1_passNight_71 : decode m_X1_passNight.2.1 71 = .ok (.iadd, 1) := by decide +kernel
theorem d_X1_passNight_72 : decode m_X1_passNight.2.1 72 = .ok (.aload_n 0, 1) := by decide +kernel
theorem d_X1_passNight_73 : decode m_X1_passNight.2.1 73 = .ok (.getfield 23, 3) := by decide +kernel
theorem d_X1_passNight_76 : decode m_X1_passNight.2.1 76 = .ok (.irem, 1) := by decide +kernel
theorem d_X1_passNight_77 : decode m_X1_passNight.2.1 77 = .ok (.putfield 33, 3) := by decide +kernel
theorem d_X1_passNight_80 : decode m_X1_passNight.2.1 80 = .ok (.return_, 1) := by decide +kernel
theorem d_X1_passNights_0 : decode m_X1_passNights.2.1 0 = .ok (.iconst 0, 1) := by decide +kernel
theorem d_X1_passNights_1 : decode m_X1_passNights.2.1 1 = .ok (.istore_n 2, 1) := by decide +kernel
theorem d_X1_passNights_2 : decode m_X1_passNights.2.1 2 = .ok (.iload_n 2, 1) := by decide +kernel
theorem d_X1_passNights_3 : decode m_X1_passNights.2.1 3 = .ok (.iload_n 1, 1) := by decide +kernel
theorem d_X1_passNights_4 : decode m_X1_passNights.2.1 4 = .ok (.if_icmp .ge 13, 3) := by decide +kernel
theorem d_X1_passNights_7 : decode m_X1_passNights.2.1 7 = .ok (.aload_n 0, 1) := by decide +kernel
theorem d_X1_passNights_8 : decode m_X1_passNights.2.1 8 = .ok (.invokevirtual 94, 3) := by decide +kernel
theorem d_X1_passNights_11 : decode m_X1_passNights.2.1 11 = .ok (.iinc 2 1, 3) := by decide +kernel
theorem d_X1_passNights_14 : decode m_X1_passNights.2.1 14 = .ok (.goto (-12), 3) := by decide +kernel
theorem d_X1_passNights_17 : decode m_X1_passNights.2.1 17 = .ok (.return_, 1) := by decide +kernel
theorem d_X1_loseSleep_0 : decode m_X1_loseSleep.2.1 0 = .ok (.iconst 0, 1) := by decide +kernel
theorem d_X1_loseSleep_1 : decode m_X1_loseSleep.2.1 1 = .ok (.istore_n 1, 1) := by decide +kernel
theorem d_X1_loseSleep_2 : decode m_X1_loseSleep.2.1 2 = .ok (.iload_n 1, 1) := by decide +kernel
theorem d_X1_loseSleep_3 : decode m_X1_loseSleep.2.1 3 = .ok (.aload_n 0, 1) := by decide +kernel
theorem d_X1_loseSleep_4 : decode m_X1_loseSleep.2.1 4 = .ok (.getfield 23, 3) := by decide +kernel
theorem d_X1_loseSleep_7 : decode m_X1_loseSleep.2.1 7 = .ok (.if_icmp .ge 36, 3) := by decide +kernel
theorem d_X1_loseSleep_10 : decode m_X1_loseSleep.2.1 10 = .ok (.aload_n 0, 1) := by decide +kernel
theorem d_X1_loseSleep_11 : decode m_X1_loseSleep.2.1 11 = .ok (.getfield 13, 3) := by decide +kernel
theorem d_X1_loseSleep_14 : decode m_X1_loseSleep.2.1 14 = .ok (.iload_n 1, 1) := by decide +kernel
theorem d_X1_loseSleep_15 : decode m_X1_loseSleep.2.1 15 = .ok (.aaload, 1) := by decide +kernel
theorem d_X1_loseSleep_16 : decode m_X1_loseSleep.2.1 16 = .ok (.getfield 44, 3) := by decide +kernel
theorem d_X1_loseSleep_19 : decode m_X1_loseSleep.2.1 19 = .ok (.ifCond .le 18, 3) := by decide +kernel
theorem d_X1_loseSleep_22 : decode m_X1_loseSleep.2.1 22 = .ok (.aload_n 0, 1) := by decide +kernel
theorem d_X1_loseSleep_23 : decode m_X1_loseSleep.2.1 23 = .ok (.getfield 13, 3) := by decide +kernel
theorem d_X1_loseSleep_26 : decode m_X1_loseSleep.2.1 26 = .ok (.iload_n 1, 1) := by decide +kernel
theorem d_X1_loseSleep_27 : decode m_X1_loseSleep.2.1 27 = .ok (.aaload, 1) := by decide +kernel
theorem d_X1_loseSleep_28 : decode m_X1_loseSleep.2.1 28 = .ok (.dup, 1) := by decide +kernel
theorem d_X1_loseSleep_29 : decode m_X1_loseSleep.2.1 29 = .ok (.getfield 44, 3) := by decide +kernel
theorem d_X1_loseSleep_32 : decode m_X1_loseSleep.2.1 32 = .ok (.iconst 1, 1) := by decide +kernel
theorem d_X1_loseSleep_33 : decode m_X1_loseSleep.2.1 33 = .ok (.isub, 1) := by decide +kernel
theorem d_X1_loseSleep_34 : decode m_X1_loseSleep.2.1 34 = .ok (.putfield 44, 3) := by decide +kernel
theorem d_X1_loseSleep_37 : decode m_X1_loseSleep.2.1 37 = .ok (.iinc 1 1, 3) := by decide +kernel
theorem d_X1_loseSleep_40 : decode m_X1_loseSleep.2.1 40 = .ok (.goto (-38), 3) := by decide +kernel
theorem d_X1_loseSleep_43 : decode m_X1_loseSleep.2.1 43 = .ok (.return_, 1) := by decide +kernel
theorem d_X1_layHeaviestStone_0 : decode m_X1_layHeaviestStone.2.1 0 = .ok (.bipush (-9), 2) := by decide +kernel
theorem d_X1_layHeaviestStone_2 : decode m_X1_layHeaviestStone.2.1 2 = .ok (.istore_n 1, 1) := by decide +kernel
theorem d_X1_layHeaviestStone_3 : decode m_X1_layHeaviestStone.2.1 3 = .ok (.iconst 0, 1) := by decide +kernel
theorem d_X1_layHeaviestStone_4 : decode m_X1_layHeaviestStone.2.1 4 = .ok (.istore_n 2, 1) := by decide +kernel
theorem d_X1_layHeaviestStone_5 : decode m_X1_layHeaviestStone.2.1 5 = .ok (.iconst 0, 1) := by decide +kernel
theorem d_X1_layHeaviestStone_6 : decode m_X1_layHeaviestStone.2.1 6 = .ok (.istore_n 3, 1) := by decide +kernel
theorem d_X1_layHeaviestStone_7 : decode m_X1_layHeaviestStone.2.1 7 = .ok (.iload_n 3, 1) := by decide +kernel
theorem d_X1_layHeaviestStone_8 : decode m_X1_layHeaviestStone.2.1 8 = .ok (.aload_n 0, 1) := by decide +kernel
theorem d_X1_layHeaviestStone_9 : decode m_X1_layHeaviestStone.2.1 9 = .ok (.getfield 27, 3) := by decide +kernel
theorem d_X1_layHeaviestStone_12 : decode m_X1_layHeaviestStone.2.1 12 = .ok (.if_icmp .ge 46, 3) := by decide +kernel
theorem d_X1_layHeaviestStone_15 : decode m_X1_layHeaviestStone.2.1 15 = .ok (.aload_n 0, 1) := by decide +kernel
theorem d_X1_layHeaviestStone_16 : decode m_X1_layHeaviestStone.2.1 16 = .ok (.getfield 19, 3) := by decide +kernel
theorem d_X1_layHeaviestStone_19 : decode m_X1_layHeaviestStone.2.1 19 = .ok (.iload_n 3, 1) := by decide +kernel
theorem d_X1_layHeaviestStone_20 : decode m_X1_layHeaviestStone.2.1 20 = .ok (.aaload, 1) := by decide +kernel
theorem d_X1_layHeaviestStone_21 : decode m_X1_layHeaviestStone.2.1 21 = .ok (.getfield 57, 3) := by decide +kernel
theorem d_X1_layHeaviestStone_24 : decode m_X1_layHeaviestStone.2.1 24 = .ok (.ifCond .ne 28, 3) := by decide +kernel
theorem d_X1_layHeaviestStone_27 : decode m_X1_layHeaviestStone.2.1 27 = .ok (.aload_n 0, 1) := by decide +kernel
theorem d_X1_layHeaviestStone_28 : decode m_X1_layHeaviestStone.2.1 28 = .ok (.getfield 19, 3) := by decide +kernel
theorem d_X1_layHeaviestStone_31 : decode m_X1_layHeaviestStone.2.1 31 = .ok (.iload_n 3, 1) := by decide +kernel
theorem d_X1_layHeaviestStone_32 : decode m_X1_layHeaviestStone.2.1 32 = .ok (.aaload, 1) := by decide +kernel
theorem d_X1_layHeaviestStone_33 : decode m_X1_layHeaviestStone.2.1 33 = .ok (.getfield 54, 3) := by decide +kernel
theorem d_X1_layHeaviestStone_36 : decode m_X1_layHeaviestStone.2.1 36 = .ok (.iload_n 2, 1) := by decide +kernel
theorem d_X1_layHeaviestStone_37 : decode m_X1_layHeaviestStone.2.1 37 = .ok (.if_icmp .le 15, 3) := by decide +kernel
theorem d_X1_layHeaviestStone_40 : decode m_X1_layHeaviestStone.2.1 40 = .ok (.iload_n 3, 1) := by decide +kernel
theorem d_X1_layHeaviestStone_41 : decode m_X1_layHeaviestStone.2.1 41 = .ok (.istore_n 1, 1) := by decide +kernel
theorem d_X1_layHeaviestStone_42 : decode m_X1_layHeaviestStone.2.1 42 = .ok (.aload_n 0, 1) := by decide +kernel
theorem d_X1_layHeaviestStone_43 : decode m_X1_layHeaviestStone.2.1 43 = .ok (.getfield 19, 3) := by decide +kernel
theorem d_X1_layHeaviestStone_46 : decode m_X1_layHeaviestStone.2.1 46 = .ok (.iload_n 3, 1) := by decide +kernel
theorem d_X1_layHeaviestStone_47 : decode m_X1_layHeaviestStone.2.1 47 = .ok (.aaload, 1) := by decide +kernel
theorem d_X1_layHeaviestStone_48 : decode m_X1_layHeaviestStone.2.1 48 = .ok (.getfield 54, 3) := by decide +kernel
theorem d_X1_layHeaviestStone_51 : decode m_X1_layHeaviestStone.2.1 51 = .ok (.istore_n 2, 1) := by decide +kernel
theorem d_X1_layHeaviestStone_52 : decode m_X1_layHeaviestStone.2.1 52 = .ok (.iinc 3 1, 3) := by decide +kernel
theorem d_X1_layHeaviestStone_55 : decode m_X1_layHeaviestStone.2.1 55 = .ok (.goto (-48), 3) := by decide +kernel
theorem d_X1_layHeaviestStone_58 : decode m_X1_layHeaviestStone.2.1 58 = .ok (.aload_n 0, 1) := by decide +kernel
theorem d_X1_layHeaviestStone_59 : decode m_X1_layHeaviestStone.2.1 59 = .ok (.iload_n 1, 1) := by decide +kernel
theorem d_X1_layHeaviestStone_60 : decode m_X1_layHeaviestStone.2.1 60 = .ok (.invokevirtual 97, 3) := by decide +kernel
theorem d_X1_layHeaviestStone_63 : decode m_X1_layHeaviestStone.2.1 63 = .ok (.ifCond .eq 13, 3) := by decide +kernel
theorem d_X1_layHeaviestStone_66 : decode m_X1_layHeaviestStone.2.1 66 = .ok (.aload_n 0, 1) := by decide +kernel
theorem d_X1_layHeaviestStone_67 : decode m_X1_layHeaviestStone.2.1 67 = .ok (.getfield 19, 3) := by decide +kernel
theorem d_X1_layHeaviestStone_70 : decode m_X1_layHeaviestStone.2.1 70 = .ok (.iload_n 1, 1) := by decide +kernel
theorem d_X1_layHeaviestStone_71 : decode m_X1_layHeaviestStone.2.1 71 = .ok (.aaload, 1) := by decide +kernel
theorem d_X1_layHeaviestStone_72 : decode m_X1_layHeaviestStone.2.1 72 = .ok (.iconst 1, 1) := by decide +kernel
theorem d_X1_layHeaviestStone_73 : decode m_X1_layHeaviestStone.2.1 73 = .ok (.putfield 57, 3) := by decide +kernel
theorem d_X1_layHeaviestStone_76 : decode m_X1_layHeaviestStone.2.1 76 = .ok (.return_, 1) := by decide +kernel
theorem d_X1_nightsUntilQuiet_0 : decode m_X1_nightsUntilQuiet.2.1 0 = .ok (.iload_n 1, 1) := by decide +kernel
theorem d_X1_nightsUntilQuiet_1 : decode m_X1_nightsUntilQuiet.2.1 1 = .ok (.bipush 18, 2) := by decide +kernel
theorem d_X1_nightsUntilQuiet_3 : decode m_X1_nightsUntilQuiet.2.1 3 = .ok (.invokestatic 100, 3) := by decide +kernel
theorem d_X1_nightsUntilQuiet_6 : decode m_X1_nightsUntilQuiet.2.1 6 = .ok (.istore_n 2, 1) := by decide +kernel
theorem d_X1_nightsUntilQuiet_7 : decode m_X1_nightsUntilQuiet.2.1 7 = .ok (.iconst 0, 1) := by decide +kernel
theorem d_X1_nightsUntilQuiet_8 : decode m_X1_nightsUntilQuiet.2.1 8 = .ok (.istore_n 3, 1) := by decide +kernel
theorem d_X1_nightsUntilQuiet_9 : decode m_X1_nightsUntilQuiet.2.1 9 = .ok (.iload_n 3, 1) := by decide +kernel
theorem d_X1_nightsUntilQuiet_10 : decode m_X1_nightsUntilQuiet.2.1 10 = .ok (.iload_n 2, 1) := by decide +kernel
theorem d_X1_nightsUntilQuiet_11 : decode m_X1_nightsUntilQuiet.2.1 11 = .ok (.if_icmp .gt 22, 3) := by decide +kernel
theorem d_X1_nightsUntilQuiet_14 : decode m_X1_nightsUntilQuiet.2.1 14 = .ok (.aload_n 0, 1) := by decide +kernel
theorem d_X1_nightsUntilQuiet_15 : decode m_X1_nightsUntilQuiet.2.1 15 = .ok (.invokevirtual 81, 3) := by decide +kernel
theorem d_X1_nightsUntilQuiet_18 : decode m_X1_nightsUntilQuiet.2.1 18 = .ok (.ifCond .ne 5, 3) := by decide +kernel
theorem d_X1_nightsUntilQuiet_21 : decode m_X1_nightsUntilQuiet.2.1 21 = .ok (.iload_n 3, 1) := by decide +kernel
theorem d_X1_nightsUntilQuiet_22 : decode m_X1_nightsUntilQuiet.2.1 22 = .ok (.ireturn, 1) := by decide +kernel
theorem d_X1_nightsUntilQuiet_23 : decode m_X1_nightsUntilQuiet.2.1 23 = .ok (.aload_n 0, 1) := by decide +kernel
theorem d_X1_nightsUntilQuiet_24 : decode m_X1_nightsUntilQuiet.2.1 24 = .ok (.invokevirtual 94, 3) := by decide +kernel
theorem d_X1_nightsUntilQuiet_27 : decode m_X1_nightsUntilQuiet.2.1 27 = .ok (.iinc 3 1, 3) := by decide +kernel
theorem d_X1_nightsUntilQuiet_30 : decode m_X1_nightsUntilQuiet.2.1 30 = .ok (.goto (-21), 3) := by decide +kernel
theorem d_X1_nightsUntilQuiet_33 : decode m_X1_nightsUntilQuiet.2.1 33 = .ok (.bipush (-9), 2) := by decide +kernel
theorem d_X1_nightsUntilQuiet_35 : decode m_X1_nightsUntilQuiet.2.1 35 = .ok (.ireturn, 1) := by decide +kernel
theorem d_X1_acts_0 : decode m_X1_acts.2.1 0 = .ok (.iload_n 1, 1) := by decide +kernel
theorem d_X1_acts_1 : decode m_X1_acts.2.1 1 = .ok (.iconst 5, 1) := by decide +kernel
theorem d_X1_acts_2 : decode m_X1_acts.2.1 2 = .ok (.if_icmp .ge 9, 3) := by decide +kernel
theorem d_X1_acts_5 : decode m_X1_acts.2.1 5 = .ok (.aload_n 0, 1) := by decide +kernel
theorem d_X1_acts_6 : decode m_X1_acts.2.1 6 = .ok (.iload_n 1, 1) := by decide +kernel
theorem d_X1_acts_7 : decode m_X1_acts.2.1 7 = .ok (.invokevirtual 106, 3) := by decide +kernel
theorem d_X1_acts_10 : decode m_X1_acts.2.1 10 = .ok (.ireturn, 1) := by decide +kernel
theorem d_X1_acts_11 : decode m_X1_acts.2.1 11 = .ok (.iload_n 1, 1) := by decide +kernel
theorem d_X1_acts_12 : decode m_X1_acts.2.1 12 = .ok (.bipush 10, 2) := by decide +kernel
theorem d_X1_acts_14 : decode m_X1_acts.2.1 14 = .ok (.if_icmp .ge 11, 3) := by decide +kernel
theorem d_X1_acts_17 : decode m_X1_acts.2.1 17 = .ok (.aload_n 0, 1) := by decide +kernel
theorem d_X1_acts_18 : decode m_X1_acts.2.1 18 = .ok (.iload_n 1, 1) := by decide +kernel
theorem d_X1_acts_19 : decode m_X1_acts.2.1 19 = .ok (.iconst 5, 1) := by decide +kernel
theorem d_X1_acts_20 : decode m_X1_acts.2.1 20 = .ok (.isub, 1) := by decide +kernel
theorem d_X1_acts_21 : decode m_X1_acts.2.1 21 = .ok (.invokevirtual 109, 3) := by decide +kernel
theorem d_X1_acts_24 : decode m_X1_acts.2.1 24 = .ok (.ireturn, 1) := by decide +kernel
theorem d_X1_acts_25 : decode m_X1_acts.2.1 25 = .ok (.iload_n 1, 1) := by decide +kernel
theorem d_X1_acts_26 : decode m_X1_acts.2.1 26 = .ok (.bipush 14, 2) := by decide +kernel
theorem d_X1_acts_28 : decode m_X1_acts.2.1 28 = .ok (.if_icmp .ge 12, 3) := by decide +kernel
theorem d_X1_acts_31 : decode m_X1_acts.2.1 31 = .ok (.aload_n 0, 1) := by decide +kernel
theorem d_X1_acts_32 : decode m_X1_acts.2.1 32 = .ok (.iload_n 1, 1) := by decide +kernel
theorem d_X1_acts_33 : decode m_X1_acts.2.1 33 = .ok (.bipush 10, 2) := by decide +kernel
theorem d_X1_acts_35 : decode m_X1_acts.2.1 35 = .ok (.isub, 1) := by decide +kernel
theorem d_X1_acts_36 : decode m_X1_acts.2.1 36 = .ok (.invokevirtual 112, 3) := by decide +kernel
theorem d_X1_acts_39 : decode m_X1_acts.2.1 39 = .ok (.ireturn, 1) := by decide +kernel
theorem d_X1_acts_40 : decode m_X1_acts.2.1 40 = .ok (.aload_n 0, 1) := by decide +kernel
theorem d_X1_acts_41 : decode m_X1_acts.2.1 41 = .ok (.invokevirtual 94, 3) := by decide +kernel
theorem d_X1_acts_44 : decode m_X1_acts.2.1 44 = .ok (.iconst 1, 1) := by decide +kernel
theorem d_X1_acts_45 : decode m_X1_acts.2.1 45 = .ok (.ireturn, 1) := by decide +kernel
theorem d_X1_ownsAsAct_0 : decode m_X1_ownsAsAct.2.1 0 = .ok (.aload_n 0, 1) := by decide +kernel
theorem d_X1_ownsAsAct_1 : decode m_X1_ownsAsAct.2.1 1 = .ok (.iload_n 1, 1) := by decide +kernel
theorem d_X1_ownsAsAct_2 : decode m_X1_ownsAsAct.2.1 2 = .ok (.invokevirtual 84, 3) := by decide +kernel
theorem d_X1_ownsAsAct_5 : decode m_X1_ownsAsAct.2.1 5 = .ok (.ifCond .ne 5, 3) := by decide +kernel
theorem d_X1_ownsAsAct_8 : decode m_X1_ownsAsAct.2.1 8 = .ok (.iconst 0, 1) := by decide +kernel
theorem d_X1_ownsAsAct_9 : decode m_X1_ownsAsAct.2.1 9 = .ok (.ireturn, 1) := by decide +kernel
theorem d_X1_ownsAsAct_10 : decode m_X1_ownsAsAct.2.1 10 = .ok (.aload_n 0, 1) := by decide +kernel
theorem d_X1_ownsAsAct_11 : decode m_X1_ownsAsAct.2.1 11 = .ok (.getfield 13, 3) := by decide +kernel
theorem d_X1_ownsAsAct_14 : decode m_X1_ownsAsAct.2.1 14 = .ok (.iload_n 1, 1) := by decide +kernel
theorem d_X1_ownsAsAct_15 : decode m_X1_ownsAsAct.2.1 15 = .ok (.aaload, 1) := by decide +kernel
theorem d_X1_ownsAsAct_16 : decode m_X1_ownsAsAct.2.1 16 = .ok (.invokevirtual 78, 3) := by decide +kernel
theorem d_X1_ownsAsAct_19 : decode m_X1_ownsAsAct.2.1 19 = .ok (.pop, 1) := by decide +kernel
theorem d_X1_ownsAsAct_20 : decode m_X1_ownsAsAct.2.1 20 = .ok (.iconst 1, 1) := by decide +kernel
theorem d_X1_ownsAsAct_21 : decode m_X1_ownsAsAct.2.1 21 = .ok (.ireturn, 1) := by decide +kernel
theorem d_X1_sleepsAsAct_0 : decode m_X1_sleepsAsAct.2.1 0 = .ok (.aload_n 0, 1) := by decide +kernel
theorem d_X1_sleepsAsAct_1 : decode m_X1_sleepsAsAct.2.1 1 = .ok (.iload_n 1, 1) := by decide +kernel
theorem d_X1_sleepsAsAct_2 : decode m_X1_sleepsAsAct.2.1 2 = .ok (.invokevirtual 84, 3) := by decide +kernel
theorem d_X1_sleepsAsAct_5 : decode m_X1_sleepsAsAct.2.1 5 = .ok (.ifCond .ne 5, 3) := by decide +kernel
theorem d_X1_sleepsAsAct_8 : decode m_X1_sleepsAsAct.2.1 8 = .ok (.iconst 0, 1) := by decide +kernel
theorem d_X1_sleepsAsAct_9 : decode m_X1_sleepsAsAct.2.1 9 = .ok (.ireturn, 1) := by decide +kernel
theorem d_X1_sleepsAsAct_10 : decode m_X1_sleepsAsAct.2.1 10 = .ok (.aload_n 0, 1) := by decide +kernel
theorem d_X1_sleepsAsAct_11 : decode m_X1_sleepsAsAct.2.1 11 = .ok (.getfield 13, 3) := by decide +kernel
theorem d_X1_sleepsAsAct_14 : decode m_X1_sleepsAsAct.2.1 14 = .ok (.iload_n 1, 1) := by decide +kernel
theorem d_X1_sleepsAsAct_15 : decode m_X1_sleepsAsAct.2.1 15 = .ok (.aaload, 1) := by decide +kernel
theorem d_X1_sleepsAsAct_16 : decode m_X1_sleepsAsAct.2.1 16 = .ok (.bipush 9, 2) := by decide +kernel
theorem d_X1_sleepsAsAct_18 : decode m_X1_sleepsAsAct.2.1 18 = .ok (.putfield 44, 3) := by decide +kernel
theorem d_X1_sleepsAsAct_21 : decode m_X1_sleepsAsAct.2.1 21 = .ok (.iconst 1, 1) := by decide +kernel
theorem d_X1_sleepsAsAct_22 : decode m_X1_sleepsAsAct.2.1 22 = .ok (.ireturn, 1) := by decide +kernel
theorem d_X1_isLaidAsAct_0 : decode m_X1_isLaidAsAct.2.1 0 = .ok (.aload_n 0, 1) := by decide +kernel
theorem d_X1_isLaidAsAct_1 : decode m_X1_isLaidAsAct.2.1 1 = .ok (.iload_n 1, 1) := by decide +kernel
theorem d_X1_isLaidAsAct_2 : decode m_X1_isLaidAsAct.2.1 2 = .ok (.invokevirtual 97, 3) := by decide +kernel
theorem d_X1_isLaidAsAct_5 : decode m_X1_isLaidAsAct.2.1 5 = .ok (.ifCond .eq 15, 3) := by decide +kernel
theorem d_X1_isLaidAsAct_8 : decode m_X1_isLaidAsAct.2.1 8 = .ok (.aload_n 0, 1) := by decide +kernel
theorem d_X1_isLaidAsAct_9 : decode m_X1_isLaidAsAct.2.1 9 = .ok (.getfield 19, 3) := by decide +kernel
theorem d_X1_isLaidAsAct_12 : decode m_X1_isLaidAsAct.2.1 12 = .ok (.iload_n 1, 1) := by decide +kernel
theorem d_X1_isLaidAsAct_13 : decode m_X1_isLaidAsAct.2.1 13 = .ok (.aaload, 1) := by decide +kernel
theorem d_X1_isLaidAsAct_14 : decode m_X1_isLaidAsAct.2.1 14 = .ok (.getfield 57, 3) := by decide +kernel
theorem d_X1_isLaidAsAct_17 : decode m_X1_isLaidAsAct.2.1 17 = .ok (.ifCond .eq 5, 3) := by decide +kernel
theorem d_X1_isLaidAsAct_20 : decode m_X1_isLaidAsAct.2.1 20 = .ok (.iconst 0, 1) := by decide +kernel
theorem d_X1_isLaidAsAct_21 : decode m_X1_isLaidAsAct.2.1 21 = .ok (.ireturn, 1) := by decide +kernel
theorem d_X1_isLaidAsAct_22 : decode m_X1_isLaidAsAct.2.1 22 = .ok (.aload_n 0, 1) := by decide +kernel
theorem d_X1_isLaidAsAct_23 : decode m_X1_isLaidAsAct.2.1 23 = .ok (.getfield 19, 3) := by decide +kernel
theorem d_X1_isLaidAsAct_26 : decode m_X1_isLaidAsAct.2.1 26 = .ok (.iload_n 1, 1) := by decide +kernel
theorem d_X1_isLaidAsAct_27 : decode m_X1_isLaidAsAct.2.1 27 = .ok (.aaload, 1) := by decide +kernel
theorem d_X1_isLaidAsAct_28 : decode m_X1_isLaidAsAct.2.1 28 = .ok (.iconst 1, 1) := by decide +kernel
theorem d_X1_isLaidAsAct_29 : decode m_X1_isLaidAsAct.2.1 29 = .ok (.putfield 57, 3) := by decide +kernel
theorem d_X1_isLaidAsAct_32 : decode m_X1_isLaidAsAct.2.1 32 = .ok (.iconst 1, 1) := by decide +kernel
theorem d_X1_isLaidAsAct_33 : decode m_X1_isLaidAsAct.2.1 33 = .ok (.ireturn, 1) := by decide +kernel
theorem d_X2_init_0 : decode m_X2_init.2.1 0 = .ok (.aload_n 0, 1) := by decide +kernel
theorem d_X2_init_1 : decode m_X2_init.2.1 1 = .ok (.invokespecial 3, 3) := by decide +kernel
theorem d_X2_init_4 : decode m_X2_init.2.1 4 = .ok (.aload_n 0, 1) := by decide +kernel
theorem d_X2_init_5 : decode m_X2_init.2.1 5 = .ok (.bipush 60, 2) := by decide +kernel
theorem d_X2_init_7 : decode m_X2_init.2.1 7 = .ok (.newarray .int, 2) := by decide +kernel
theorem d_X2_init_9 : decode m_X2_init.2.1 9 = .ok (.putfield 9, 3) := by decide +kernel
theorem d_X2_init_12 : decode m_X2_init.2.1 12 = .ok (.aload_n 0, 1) := by decide +kernel
theorem d_X2_init_13 : decode m_X2_init.2.1 13 = .ok (.iconst 0, 1) := by decide +kernel
theorem d_X2_init_14 : decode m_X2_init.2.1 14 = .ok (.putfield 15, 3) := by decide +kernel
theorem d_X2_init_17 : decode m_X2_init.2.1 17 = .ok (.aload_n 0, 1) := by decide +kernel
theorem d_X2_init_18 : decode m_X2_init.2.1 18 = .ok (.iconst 0, 1) := by decide +kernel
theorem d_X2_init_19 : decode m_X2_init.2.1 19 = .ok (.putfield 19, 3) := by decide +kernel
theorem d_X2_init_22 : decode m_X2_init.2.1 22 = .ok (.aload_n 0, 1) := by decide +kernel
theorem d_X2_init_23 : decode m_X2_init.2.1 23 = .ok (.iconst 0, 1) := by decide +kernel
theorem d_X2_init_24 : decode m_X2_init.2.1 24 = .ok (.putfield 23, 3) := by decide +kernel
theorem d_X2_init_27 : decode m_X2_init.2.1 27 = .ok (.return_, 1) := by decide +kernel
theorem d_X2_renew_0 : decode m_X2_renew.2.1 0 = .ok (.aload_n 0, 1) := by decide +kernel
theorem d_X2_renew_1 : decode m_X2_renew.2.1 1 = .ok (.iconst 1, 1) := by decide +kernel
theorem d_X2_renew_2 : decode m_X2_renew.2.1 2 = .ok (.putfield 15, 3) := by decide +kernel
theorem d_X2_renew_5 : decode m_X2_renew.2.1 5 = .ok (.aload_n 0, 1) := by decide +kernel
theorem d_X2_renew_6 : decode m_X2_renew.2.1 6 = .ok (.iload_n 1, 1) := by decide +kernel
theorem d_X2_renew_7 : decode m_X2_renew.2.1 7 = .ok (.putfield 19, 3) := by decide +kernel
theorem d_X2_renew_10 : decode m_X2_renew.2.1 10 = .ok (.aload_n 0, 1) := by decide +kernel
theorem d_X2_renew_11 : decode m_X2_renew.2.1 11 = .ok (.iload_n 2, 1) := by decide +kernel
theorem d_X2_renew_12 : decode m_X2_renew.2.1 12 = .ok (.putfield 23, 3) := by decide +kernel
theorem d_X2_renew_15 : decode m_X2_renew.2.1 15 = .ok (.iconst 0, 1) := by decide +kernel
theorem d_X2_renew_16 : decode m_X2_renew.2.1 16 = .ok (.istore_n 3, 1) := by decide +kernel
theorem d_X2_renew_17 : decode m_X2_renew.2.1 17 = .ok (.iload_n 3, 1) := by decide +kernel
theorem d_X2_renew_18 : decode m_X2_renew.2.1 18 = .ok (.bipush 60, 2) := by decide +kernel
theorem d_X2_renew_20 : decode m_X2_renew.2.1 20 = .ok (.if_icmp .ge 16, 3) := by decide +kernel
theorem d_X2_renew_23 : decode m_X2_renew.2.1 23 = .ok (.aload_n 0, 1) := by decide +kernel
theorem d_X2_renew_24 : decode m_X2_renew.2.1 24 = .ok (.getfield 9, 3) := by decide +kernel
theorem d_X2_renew_27 : decode m_X2_renew.2.1 27 = .ok (.iload_n 3, 1) := by decide +kernel
theorem d_X2_renew_28 : decode m_X2_renew.2.1 28 = .ok (.iconst 0, 1) := by decide +kernel
theorem d_X2_renew_29 : decode m_X2_renew.2.1 29 = .ok (.iastore, 1) := by decide +kernel
theorem d_X2_renew_30 : decode m_X2_renew.2.1 30 = .ok (.iinc 3 1, 3) := by decide +kernel
theorem d_X2_renew_33 : decode m_X2_renew.2.1 33 = .ok (.goto (-16), 3) := by decide +kernel
theorem d_X2_renew_36 : decode m_X2_renew.2.1 36 = .ok (.return_, 1) := by decide +kernel
theorem d_X2_hasCells_0 : decode m_X2_hasCells.2.1 0 = .ok (.iload_n 1, 1) := by decide +kernel
theorem d_X2_hasCells_1 : decode m_X2_hasCells.2.1 1 = .ok (.ifCond .lt 29, 3) := by decide +kernel
theorem d_X2_hasCells_4 : decode m_X2_hasCells.2.1 4 = .ok (.iload_n 1, 1) := by decide +kernel
theorem d_X2_hasCells_5 : decode m_X2_hasCells.2.1 5 = .ok (.aload_n 0, 1) := by decide +kernel
theorem d_X2_hasCells_6 : decode m_X2_hasCells.2.1 6 = .ok (.getfield 23, 3) := by decide +kernel
theorem d_X2_hasCells_9 : decode m_X2_hasCells.2.1 9 = .ok (.if_icmp .gt 21, 3) := by decide +kernel
theorem d_X2_hasCells_12 : decode m_X2_hasCells.2.1 12 = .ok (.iload_n 2, 1) := by decide +kernel
theorem d_X2_hasCells_13 : decode m_X2_hasCells.2.1 13 = .ok (.ifCond .lt 17, 3) := by decide +kernel
theorem d_X2_hasCells_16 : decode m_X2_hasCells.2.1 16 = .ok (.iload_n 2, 1) := by decide +kernel
theorem d_X2_hasCells_17 : decode m_X2_hasCells.2.1 17 = .ok (.aload_n 0, 1) := by decide +kernel
theorem d_X2_hasCells_18 : decode m_X2_hasCells.2.1 18 = .ok (.getfield 23, 3) := by decide +kernel
theorem d_X2_hasCells_21 : decode m_X2_hasCells.2.1 21 = .ok (.iload_n 1, 1) := by decide +kernel
theorem d_X2_hasCells_22 : decode m_X2_hasCells.2.1 22 = .ok (.isub, 1) := by decide +kernel
theorem d_X2_hasCells_23 : decode m_X2_hasCells.2.1 23 = .ok (.if_icmp .gt 7, 3) := by decide +kernel
theorem d_X2_hasCells_26 : decode m_X2_hasCells.2.1 26 = .ok (.iconst 1, 1) := by decide +kernel
theorem d_X2_hasCells_27 : decode m_X2_hasCells.2.1 27 = .ok (.goto 4, 3) := by decide +kernel
theorem d_X2_hasCells_30 : decode m_X2_hasCells.2.1 30 = .ok (.iconst 0, 1) := by decide +kernel
theorem d_X2_hasCells_31 : decode m_X2_hasCells.2.1 31 = .ok (.ireturn, 1) := by decide +kernel
theorem d_X2_cutToLane_0 : decode m_X2_cutToLane.2.1 0 = .ok (.aload_n 0, 1) := by decide +kernel
theorem d_X2_cutToLane_1 : decode m_X2_cutToLane.2.1 1 = .ok (.getfield 19, 3) := by decide +kernel
theorem d_X2_cutToLane_4 : decode m_X2_cutToLane.2.1 4 = .ok (.ifCond .ne 6, 3) := by decide +kernel
theorem d_X2_cutToLane_7 : decode m_X2_cutToLane.2.1 7 = .ok (.iload_n 1, 1) := by decide +kernel
theorem d_X2_cutToLane_8 : decode m_X2_cutToLane.2.1 8 = .ok (.i2b, 1) := by decide +kernel
theorem d_X2_cutToLane_9 : decode m_X2_cutToLane.2.1 9 = .ok (.ireturn, 1) := by decide +kernel
theorem d_X2_cutToLane_10 : decode m_X2_cutToLane.2.1 10 = .ok (.aload_n 0, 1) := by decide +kernel
theorem d_X2_cutToLane_11 : decode m_X2_cutToLane.2.1 11 = .ok (.getfield 19, 3) := by decide +kernel
theorem d_X2_cutToLane_14 : decode m_X2_cutToLane.2.1 14 = .ok (.iconst 1, 1) := by decide +kernel
theorem d_X2_cutToLane_15 : decode m_X2_cutToLane.2.1 15 = .ok (.if_icmp .ne 8, 3) := by decide +kernel
theorem d_X2_cutToLane_18 : decode m_X2_cutToLane.2.1 18 = .ok (.iload_n 1, 1) := by decide +kernel
theorem d_X2_cutToLane_19 : decode m_X2_cutToLane.2.1 19 = .ok (.i2s, 1) := by decide +kernel
theorem d_X2_cutToLane_20 : decode m_X2_cutToLane.2.1 20 = .ok (.goto 4, 3) := by decide +kernel
theorem d_X2_cutToLane_23 : decode m_X2_cutToLane.2.1 23 = .ok (.iload_n 1, 1) := by decide +kernel
theorem d_X2_cutToLane_24 : decode m_X2_cutToLane.2.1 24 = .ok (.ireturn, 1) := by decide +kernel
theorem d_X3_init_0 : decode m_X3_init.2.1 0 = .ok (.aload_n 0, 1) := by decide +kernel
theorem d_X3_init_1 : decode m_X3_init.2.1 1 = .ok (.invokespecial 1, 3) := by decide +kernel
theorem d_X3_init_4 : decode m_X3_init.2.1 4 = .ok (.aload_n 0, 1) := by decide +kernel
theorem d_X3_init_5 : decode m_X3_init.2.1 5 = .ok (.iconst 0, 1) := by decide +kernel
theorem d_X3_init_6 : decode m_X3_init.2.1 6 = .ok (.putfield 7, 3) := by decide +kernel
theorem d_X3_init_9 : decode m_X3_init.2.1 9 = .ok (.aload_n 0, 1) := by decide +kernel
theorem d_X3_init_10 : decode m_X3_init.2.1 10 = .ok (.iconst 0, 1) := by decide +kernel
theorem d_X3_init_11 : decode m_X3_init.2.1 11 = .ok (.putfield 13, 3) := by decide +kernel
theorem d_X3_init_14 : decode m_X3_init.2.1 14 = .ok (.return_, 1) := by decide +kernel
theorem d_X3_become_0 : decode m_X3_become.2.1 0 = .ok (.aload_n 0, 1) := by decide +kernel
theorem d_X3_become_1 : decode m_X3_become.2.1 1 = .ok (.aload_n 1, 1) := by decide +kernel
theorem d_X3_become_2 : decode m_X3_become.2.1 2 = .ok (.getfield 7, 3) := by decide +kernel
theorem d_X3_become_5 : decode m_X3_become.2.1 5 = .ok (.putfield 7, 3) := by decide +kernel
theorem d_X3_become_8 : decode m_X3_become.2.1 8 = .ok (.aload_n 0, 1) := by decide +kernel
theorem d_X3_become_9 : decode m_X3_become.2.1 9 = .ok (.aload_n 1, 1) := by decide +kernel
theorem d_X3_become_10 : decode m_X3_become.2.1 10 = .ok (.getfield 13, 3) := by decide +kernel
theorem d_X3_become_13 : decode m_X3_become.2.1 13 = .ok (.putfield 13, 3) := by decide +kernel
theorem d_X3_become_16 : decode m_X3_become.2.1 16 = .ok (.return_, 1) := by decide +kernel
theorem d_X4_init_0 : decode m_X4_init.2.1 0 = .ok (.aload_n 0, 1) := by decide +kernel
theorem d_X4_init_1 : decode m_X4_init.2.1 1 = .ok (.invokespecial 3, 3) := by decide +kernel
theorem d_X4_init_4 : decode m_X4_init.2.1 4 = .ok (.aload_n 0, 1) := by decide +kernel
theorem d_X4_init_5 : decode m_X4_init.2.1 5 = .ok (.iconst 0, 1) := by decide +kernel
theorem d_X4_init_6 : decode m_X4_init.2.1 6 = .ok (.putfield 11, 3) := by decide +kernel
theorem d_X4_init_9 : decode m_X4_init.2.1 9 = .ok (.aload_n 0, 1) := by decide +kernel
theorem d_X4_init_10 : decode m_X4_init.2.1 10 = .ok (.iconst 0, 1) := by decide +kernel
theorem d_X4_init_11 : decode m_X4_init.2.1 11 = .ok (.putfield 15, 3) := by decide +kernel
theorem d_X4_init_14 : decode m_X4_init.2.1 14 = .ok (.aload_n 0, 1) := by decide +kernel
theorem d_X4_init_15 : decode m_X4_init.2.1 15 = .ok (.iconst 0, 1) := by decide +kernel
theorem d_X4_init_16 : decode m_X4_init.2.1 16 = .ok (.putfield 18, 3) := by decide +kernel
theorem d_X4_init_19 : decode m_X4_init.2.1 19 = .ok (.aload_n 0, 1) := by decide +kernel
theorem d_X4_init_20 : decode m_X4_init.2.1 20 = .ok (.aload_n 1, 1) := by decide +kernel
theorem d_X4_init_21 : decode m_X4_init.2.1 21 = .ok (.putfield 21, 3) := by decide +kernel
theorem d_X4_init_24 : decode m_X4_init.2.1 24 = .ok (.aload_n 1, 1) := by decide +kernel
theorem d_X4_init_25 : decode m_X4_init.2.1 25 = .ok (.invokevirtual 25, 3) := by decide +kernel
theorem d_X4_init_28 : decode m_X4_init.2.1 28 = .ok (.return_, 1) := by decide +kernel
theorem d_X4_mayEnd_0 : decode m_X4_mayEnd.2.1 0 = .ok (.aload_n 0, 1) := by decide +kernel
theorem d_X4_mayEnd_1 : decode m_X4_mayEnd.2.1 1 = .ok (.getfield 11, 3) := by decide +kernel
theorem d_X4_mayEnd_4 : decode m_X4_mayEnd.2.1 4 = .ok (.bipush 6, 2) := by decide +kernel
theorem d_X4_mayEnd_6 : decode m_X4_mayEnd.2.1 6 = .ok (.if_icmp .eq 12, 3) := by decide +kernel
theorem d_X4_mayEnd_9 : decode m_X4_mayEnd.2.1 9 = .ok (.aload_n 0, 1) := by decide +kernel
theorem d_X4_mayEnd_10 : decode m_X4_mayEnd.2.1 10 = .ok (.getfield 11, 3) := by decide +kernel
theorem d_X4_mayEnd_13 : decode m_X4_mayEnd.2.1 13 = .ok (.bipush 8, 2) := by decide +kernel
theorem d_X4_mayEnd_15 : decode m_X4_mayEnd.2.1 15 = .ok (.if_icmp .ne 7, 3) := by decide +kernel
theorem d_X4_mayEnd_18 : decode m_X4_mayEnd.2.1 18 = .ok (.iconst 1, 1) := by decide +kernel
theorem d_X4_mayEnd_19 : decode m_X4_mayEnd.2.1 19 = .ok (.goto 4, 3) := by decide +kernel
theorem d_X4_mayEnd_22 : decode m_X4_mayEnd.2.1 22 = .ok (.iconst 0, 1) := by decide +kernel
theorem d_X4_mayEnd_23 : decode m_X4_mayEnd.2.1 23 = .ok (.ireturn, 1) := by decide +kernel
theorem d_X4_takes_0 : decode m_X4_takes.2.1 0 = .ok (.aload_n 0, 1) := by decide +kernel
theorem d_X4_takes_1 : decode m_X4_takes.2.1 1 = .ok (.getfield 11, 3) := by decide +kernel
theorem d_X4_takes_4 : decode m_X4_takes.2.1 4 = .ok (.tableswitch 165 0 6 #[44, 61, 86, 103, 131, 153, 159], 44) := by decide +kernel
theorem d_X4_takes_48 : decode m_X4_takes.2.1 48 = .ok (.aload_n 0, 1) := by decide +kernel
theorem d_X4_takes_49 : decode m_X4_takes.2.1 49 = .ok (.iload_n 1, 1) := by decide +kernel
theorem d_X4_takes_50 : decode m_X4_takes.2.1 50 = .ok (.bipush 116, 2) := by decide +kernel
theorem d_X4_takes_52 : decode m_X4_takes.2.1 52 = .ok (.if_icmp .ne 7, 3) := by decide +kernel
theorem d_X4_takes_55 : decode m_X4_takes.2.1 55 = .ok (.iconst 1, 1) := by decide +kernel
theorem d_X4_takes_56 : decode m_X4_takes.2.1 56 = .ok (.goto 4, 3) := by decide +kernel
theorem d_X4_takes_59 : decode m_X4_takes.2.1 59 = .ok (.iconst 0, 1) := by decide +kernel
theorem d_X4_takes_60 : decode m_X4_takes.2.1 60 = .ok (.iconst 1, 1) := by decide +kernel
theorem d_X4_takes_61 : decode m_X4_takes.2.1 61 = .ok (.invokevirtual 30, 3) := by decide +kernel
theorem d_X4_takes_64 : decode m_X4_takes.2.1 64 = .ok (.ireturn, 1) := by decide +kernel
theorem d_X4_takes_65 : decode m_X4_takes.2.1 65 = .ok (.aload_n 0, 1) := by decide +kernel
theorem d_X4_takes_66 : decode m_X4_takes.2.1 66 = .ok (.getfield 21, 3) := by decide +kernel
theorem d_X4_takes_69 : decode m_X4_takes.2.1 69 = .ok (.iload_n 1, 1) := by decide +kernel
theorem d_X4_takes_70 : decode m_X4_takes.2.1 70 = .ok (.bipush 48, 2) := by decide +kernel
theorem d_X4_takes_72 : decode m_X4_takes.2.1 72 = .ok (.isub, 1) := by decide +kernel
theorem d_X4_takes_73 : decode m_X4_takes.2.1 73 = .ok (.putfield 34, 3) := by decide +kernel
theorem d_X4_takes_76 : decode m_X4_takes.2.1 76 = .ok (.aload_n 0, 1) := by decide +kernel
theorem d_X4_takes_77 : decode m_X4_takes.2.1 77 = .ok (.iload_n 1, 1) := by decide +kernel
theorem d_X4_takes_78 : decode m_X4_takes.2.1 78 = .ok (.bipush 49, 2) := by decide +kernel
theorem d_X4_takes_80 : decode m_X4_takes.2.1 80 = .ok (.bipush 52, 2) := by decide +kernel
theorem d_X4_takes_82 : decode m_X4_takes.2.1 82 = .ok (.invokestatic 37, 3) := by decide +kernel
theorem d_X4_takes_85 : decode m_X4_takes.2.1 85 = .ok (.iconst 2, 1) := by decide +kernel
theorem d_X4_takes_86 : decode m_X4_takes.2.1 86 = .ok (.invokevirtual 30, 3) := by decide +kernel
theorem d_X4_takes_89 : decode m_X4_takes.2.1 89 = .ok (.ireturn, 1) := by decide +kernel
theorem d_X4_takes_90 : decode m_X4_takes.2.1 90 = .ok (.aload_n 0, 1) := by decide +kernel
theorem d_X4_takes_91 : decode m_X4_takes.2.1 91 = .ok (.iload_n 1, 1) := by decide +kernel
theorem d_X4_takes_92 : decode m_X4_takes.2.1 92 = .ok (.bipush 59, 2) := by decide +kernel
theorem d_X4_takes_94 : decode m_X4_takes.2.1 94 = .ok (.if_icmp .ne 7, 3) := by decide +kernel
theorem d_X4_takes_97 : decode m_X4_takes.2.1 97 = .ok (.iconst 1, 1) := by decide +kernel
theorem d_X4_takes_98 : decode m_X4_takes.2.1 98 = .ok (.goto 4, 3) := by decide +kernel
theorem d_X4_takes_101 : decode m_X4_takes.2.1 101 = .ok (.iconst 0, 1) := by decide +kernel
theorem d_X4_takes_102 : decode m_X4_takes.2.1 102 = .ok (.iconst 3, 1) := by decide +kernel
theorem d_X4_takes_103 : decode m_X4_takes.2.1 103 = .ok (.invokevirtual 30, 3) := by decide +kernel
theorem d_X4_takes_106 : decode m_X4_takes.2.1 106 = .ok (.ireturn, 1) := by decide +kernel
theorem d_X4_takes_107 : decode m_X4_takes.2.1 107 = .ok (.aload_n 0, 1) := by decide +kernel
theorem d_X4_takes_108 : decode m_X4_takes.2.1 108 = .ok (.iload_n 1, 1) := by decide +kernel
theorem d_X4_takes_109 : decode m_X4_takes.2.1 109 = .ok (.invokestatic 41, 3) := by decide +kernel
theorem d_X4_takes_112 : decode m_X4_takes.2.1 112 = .ok (.putfield 15, 3) := by decide +kernel
theorem d_X4_takes_115 : decode m_X4_takes.2.1 115 = .ok (.aload_n 0, 1) := by decide +kernel
theorem d_X4_takes_116 : decode m_X4_takes.2.1 116 = .ok (.aload_n 0, 1) := by decide +kernel
theorem d_X4_takes_117 : decode m_X4_takes.2.1 117 = .ok (.getfield 15, 3) := by decide +kernel
theorem d_X4_takes_120 : decode m_X4_takes.2.1 120 = .ok (.bipush (-9), 2) := by decide +kernel
theorem d_X4_takes_122 : decode m_X4_takes.2.1 122 = .ok (.if_icmp .eq 7, 3) := by decide +kernel
theorem d_X4_takes_125 : decode m_X4_takes.2.1 125 = .ok (.iconst 1, 1) := by decide +kernel
theorem d_X4_takes_126 : decode m_X4_takes.2.1 126 = .ok (.goto 4, 3) := by decide +kernel
theorem d_X4_takes_129 : decode m_X4_takes.2.1 129 = .ok (.iconst 0, 1) := by decide +kernel
theorem d_X4_takes_130 : decode m_X4_takes.2.1 130 = .ok (.iconst 4, 1) := by decide +kernel
theorem d_X4_takes_131 : decode m_X4_takes.2.1 131 = .ok (.invokevirtual 30, 3) := by decide +kernel
theorem d_X4_takes_134 : decode m_X4_takes.2.1 134 = .ok (.ireturn, 1) := by decide +kernel
theorem d_X4_takes_135 : decode m_X4_takes.2.1 135 = .ok (.aload_n 0, 1) := by decide +kernel
theorem d_X4_takes_136 : decode m_X4_takes.2.1 136 = .ok (.iload_n 1, 1) := by decide +kernel
theorem d_X4_takes_137 : decode m_X4_takes.2.1 137 = .ok (.bipush 48, 2) := by decide +kernel
theorem d_X4_takes_139 : decode m_X4_takes.2.1 139 = .ok (.isub, 1) := by decide +kernel
theorem d_X4_takes_140 : decode m_X4_takes.2.1 140 = .ok (.putfield 18, 3) := by decide +kernel
theorem d_X4_takes_143 : decode m_X4_takes.2.1 143 = .ok (.aload_n 0, 1) := by decide +kernel
theorem d_X4_takes_144 : decode m_X4_takes.2.1 144 = .ok (.iload_n 1, 1) := by decide +kernel
theorem d_X4_takes_145 : decode m_X4_takes.2.1 145 = .ok (.bipush 48, 2) := by decide +kernel
theorem d_X4_takes_147 : decode m_X4_takes.2.1 147 = .ok (.bipush 57, 2) := by decide +kernel
theorem d_X4_takes_149 : decode m_X4_takes.2.1 149 = .ok (.invokestatic 37, 3) := by decide +kernel
theorem d_X4_takes_152 : decode m_X4_takes.2.1 152 = .ok (.iconst 5, 1) := by decide +kernel
theorem d_X4_takes_153 : decode m_X4_takes.2.1 153 = .ok (.invokevirtual 30, 3) := by decide +kernel
theorem d_X4_takes_156 : decode m_X4_takes.2.1 156 = .ok (.ireturn, 1) := by decide +kernel
theorem d_X4_takes_157 : decode m_X4_takes.2.1 157 = .ok (.aload_n 0, 1) := by decide +kernel
theorem d_X4_takes_158 : decode m_X4_takes.2.1 158 = .ok (.iload_n 1, 1) := by decide +kernel
theorem d_X4_takes_159 : decode m_X4_takes.2.1 159 = .ok (.invokevirtual 45, 3) := by decide +kernel
theorem d_X4_takes_162 : decode m_X4_takes.2.1 162 = .ok (.ireturn, 1) := by decide +kernel
theorem d_X4_takes_163 : decode m_X4_takes.2.1 163 = .ok (.aload_n 0, 1) := by decide +kernel
theorem d_X4_takes_164 : decode m_X4_takes.2.1 164 = .ok (.iload_n 1, 1) := by decide +kernel
theorem d_X4_takes_165 : decode m_X4_takes.2.1 165 = .ok (.invokevirtual 49, 3) := by decide +kernel
theorem d_X4_takes_168 : decode m_X4_takes.2.1 168 = .ok (.ireturn, 1) := by decide +kernel
theorem d_X4_takes_169 : decode m_X4_takes.2.1 169 = .ok (.aload_n 0, 1) := by decide +kernel
theorem d_X4_takes_170 : decode m_X4_takes.2.1 170 = .ok (.iload_n 1, 1) := by decide +kernel
theorem d_X4_takes_171 : decode m_X4_takes.2.1 171 = .ok (.invokevirtual 52, 3) := by decide +kernel
theorem d_X4_takes_174 : decode m_X4_takes.2.1 174 = .ok (.ireturn, 1) := by decide +kernel
theorem d_X4_goesOn_0 : decode m_X4_goesOn.2.1 0 = .ok (.aload_n 0, 1) := by decide +kernel
theorem d_X4_goesOn_1 : decode m_X4_goesOn.2.1 1 = .ok (.iload_n 1, 1) := by decide +kernel
theorem d_X4_goesOn_2 : decode m_X4_goesOn.2.1 2 = .ok (.ifCond .eq 7, 3) := by decide +kernel
theorem d_X4_goesOn_5 : decode m_X4_goesOn.2.1 5 = .ok (.iload_n 2, 1) := by decide +kernel
theorem d_X4_goesOn_6 : decode m_X4_goesOn.2.1 6 = .ok (.goto 7, 3) := by decide +kernel
theorem d_X4_goesOn_9 : decode m_X4_goesOn.2.1 9 = .ok (.aload_n 0, 1) := by decide +kernel
theorem d_X4_goesOn_10 : decode m_X4_goesOn.2.1 10 = .ok (.getfield 11, 3) := by decide +kernel
theorem d_X4_goesOn_13 : decode m_X4_goesOn.2.1 13 = .ok (.putfield 11, 3) := by decide +kernel
theorem d_X4_goesOn_16 : decode m_X4_goesOn.2.1 16 = .ok (.iload_n 1, 1) := by decide +kernel
theorem d_X4_goesOn_17 : decode m_X4_goesOn.2.1 17 = .ok (.ireturn, 1) := by decide +kernel
theorem d_X4_kindOfLetter_0 : decode m_X4_kindOfLetter.2.1 0 = .ok (.iload_n 0, 1) := by decide +kernel
theorem d_X4_kindOfLetter_1 : decode m_X4_kindOfLetter.2.1 1 = .ok (.lookupswitch 41 #[(98, 37), (100, 39), (112, 35)], 35) := by decide +kernel
theorem d_X4_kindOfLetter_36 : decode m_X4_kindOfLetter.2.1 36 = .ok (.iconst 0, 1) := by decide +kernel
theorem d_X4_kindOfLetter_37 : decode m_X4_kindOfLetter.2.1 37 = .ok (.ireturn, 1) := by decide +kernel
theorem d_X4_kindOfLetter_38 : decode m_X4_kindOfLetter.2.1 38 = .ok (.iconst 1, 1) := by decide +kernel
theorem d_X4_kindOfLetter_39 : decode m_X4_kindOfLetter.2.1 39 = .ok (.ireturn, 1) := by decide +kernel
theorem d_X4_kindOfLetter_40 : decode m_X4_kindOfLetter.2.1 40 = .ok (.iconst 2, 1) := by decide +kernel
theorem d_X4_kindOfLetter_41 : decode m_X4_kindOfLetter.2.1 41 = .ok (.ireturn, 1) := by decide +kernel
theorem d_X4_kindOfLetter_42 : decode m_X4_kindOfLetter.2.1 42 = .ok (.bipush (-9), 2) := by decide +kernel
theorem d_X4_kindOfLetter_44 : decode m_X4_kindOfLetter.2.1 44 = .ok (.ireturn, 1) := by decide +kernel
theorem d_X4_takesSleep_0 : decode m_X4_takesSleep.2.1 0 = .ok (.iload_n 1, 1) := by decide +kernel
theorem d_X4_takesSleep_1 : decode m_X4_takesSleep.2.1 1 = .ok (.bipush 48, 2) := by decide +kernel
theorem d_X4_takesSleep_3 : decode m_X4_takesSleep.2.1 3 = .ok (.bipush 57, 2) := by decide +kernel
theorem d_X4_takesSleep_5 : decode m_X4_takesSleep.2.1 5 = .ok (.invokestatic 37, 3) := by decide +kernel
theorem d_X4_takesSleep_8 : decode m_X4_takesSleep.2.1 8 = .ok (.ifCond .ne 5, 3) := by decide +kernel
theorem d_X4_takesSleep_11 : decode m_X4_takesSleep.2.1 11 = .ok (.iconst 0, 1) := by decide +kernel
theorem d_X4_takesSleep_12 : decode m_X4_takesSleep.2.1 12 = .ok (.ireturn, 1) := by decide +kernel
theorem d_X4_takesSleep_13 : decode m_X4_takesSleep.2.1 13 = .ok (.aload_n 0, 1) := by decide +kernel
theorem d_X4_takesSleep_14 : decode m_X4_takesSleep.2.1 14 = .ok (.getfield 21, 3) := by decide +kernel
theorem d_X4_takesSleep_17 : decode m_X4_takesSleep.2.1 17 = .ok (.aload_n 0, 1) := by decide +kernel
theorem d_X4_takesSleep_18 : decode m_X4_takesSleep.2.1 18 = .ok (.getfield 15, 3) := by decide +kernel
theorem d_X4_takesSleep_21 : decode m_X4_takesSleep.2.1 21 = .ok (.aload_n 0, 1) := by decide +kernel
theorem d_X4_takesSleep_22 : decode m_X4_takesSleep.2.1 22 = .ok (.getfield 18, 3) := by decide +kernel
theorem d_X4_takesSleep_25 : decode m_X4_takesSleep.2.1 25 = .ok (.iload_n 1, 1) := by decide +kernel
theorem d_X4_takesSleep_26 : decode m_X4_takesSleep.2.1 26 = .ok (.bipush 48, 2) := by decide +kernel
theorem d_X4_takesSleep_28 : decode m_X4_takesSleep.2.1 28 = .ok (.isub, 1) := by decide +kernel
theorem d_X4_takesSleep_29 : decode m_X4_takesSleep.2.1 29 = .ok (.invokevirtual 55, 3) := by decide +kernel
theorem d_X4_takesSleep_32 : decode m_X4_takesSleep.2.1 32 = .ok (.aload_n 0, 1) := by decide +kernel
theorem d_X4_takesSleep_33 : decode m_X4_takesSleep.2.1 33 = .ok (.iconst 1, 1) := by decide +kernel
theorem d_X4_takesSleep_34 : decode m_X4_takesSleep.2.1 34 = .ok (.bipush 6, 2) := by decide +kernel
theorem d_X4_takesSleep_36 : decode m_X4_takesSleep.2.1 36 = .ok (.invokevirtual 30, 3) := by decide +kernel
theorem d_X4_takesSleep_39 : decode m_X4_takesSleep.2.1 39 = .ok (.ireturn, 1) := by decide +kernel
theorem d_X4_takesAfterHouse_0 : decode m_X4_takesAfterHouse.2.1 0 = .ok (.iload_n 1, 1) := by decide +kernel
theorem d_X4_takesAfterHouse_1 : decode m_X4_takesAfterHouse.2.1 1 = .ok (.bipush 33, 2) := by decide +kernel
theorem d_X4_takesAfterHouse_3 : decode m_X4_takesAfterHouse.2.1 3 = .ok (.if_icmp .ne 11, 3) := by decide +kernel
theorem d_X4_takesAfterHouse_6 : decode m_X4_takesAfterHouse.2.1 6 = .ok (.aload_n 0, 1) := by decide +kernel
theorem d_X4_takesAfterHouse_7 : decode m_X4_takesAfterHouse.2.1 7 = .ok (.iconst 1, 1) := by decide +kernel
theorem d_X4_takesAfterHouse_8 : decode m_X4_takesAfterHouse.2.1 8 = .ok (.bipush 7, 2) := by decide +kernel
theorem d_X4_takesAfterHouse_10 : decode m_X4_takesAfterHouse.2.1 10 = .ok (.invokevirtual 30, 3) := by decide +kernel
theorem d_X4_takesAfterHouse_13 : decode m_X4_takesAfterHouse.2.1 13 = .ok (.ireturn, 1) := by decide +kernel
theorem d_X4_takesAfterHouse_14 : decode m_X4_takesAfterHouse.2.1 14 = .ok (.aload_n 0, 1) := by decide +kernel
theorem d_X4_takesAfterHouse_15 : decode m_X4_takesAfterHouse.2.1 15 = .ok (.iload_n 1, 1) := by decide +kernel
theorem d_X4_takesAfterHouse_16 : decode m_X4_takesAfterHouse.2.1 16 = .ok (.bipush 59, 2) := by decide +kernel
theorem d_X4_takesAfterHouse_18 : decode m_X4_takesAfterHouse.2.1 18 = .ok (.if_icmp .ne 18, 3) := by decide +kernel
theorem d_X4_takesAfterHouse_21 : decode m_X4_takesAfterHouse.2.1 21 = .ok (.aload_n 0, 1) := by decide +kernel
theorem d_X4_takesAfterHouse_22 : decode m_X4_takesAfterHouse.2.1 22 = .ok (.getfield 21, 3) := by decide +kernel
theorem d_X4_takesAfterHouse_25 : decode m_X4_takesAfterHouse.2.1 25 = .ok (.getfield 59, 3) := by decide +kernel
theorem d_X4_takesAfterHouse_28 : decode m_X4_takesAfterHouse.2.1 28 = .ok (.iconst 5, 1) := by decide +kernel
theorem d_X4_takesAfterHouse_29 : decode m_X4_takesAfterHouse.2.1 29 = .ok (.if_icmp .ge 7, 3) := by decide +kernel
theorem d_X4_takesAfterHouse_32 : decode m_X4_takesAfterHouse.2.1 32 = .ok (.iconst 1, 1) := by decide +kernel
theorem d_X4_takesAfterHouse_33 : decode m_X4_takesAfterHouse.2.1 33 = .ok (.goto 4, 3) := by decide +kernel
theorem d_X4_takesAfterHouse_36 : decode m_X4_takesAfterHouse.2.1 36 = .ok (.iconst 0, 1) := by decide +kernel
theorem d_X4_takesAfterHouse_37 : decode m_X4_takesAfterHouse.2.1 37 = .ok (.iconst 3, 1) := by decide +kernel
theorem d_X4_takesAfterHouse_38 : decode m_X4_takesAfterHouse.2.1 38 = .ok (.invokevirtual 30, 3) := by decide +kernel
theorem d_X4_takesAfterHouse_41 : decode m_X4_takesAfterHouse.2.1 41 = .ok (.ireturn, 1) := by decide +kernel
theorem d_X4_takesStone_0 : decode m_X4_takesStone.2.1 0 = .ok (.iload_n 1, 1) := by decide +kernel
theorem d_X4_takesStone_1 : decode m_X4_takesStone.2.1 1 = .ok (.bipush 49, 2) := by decide +kernel
theorem d_X4_takesStone_3 : decode m_X4_takesStone.2.1 3 = .ok (.bipush 57, 2) := by decide +kernel
theorem d_X4_takesStone_5 : decode m_X4_takesStone.2.1 5 = .ok (.invokestatic 37, 3) := by decide +kernel
theorem d_X4_takesStone_8 : decode m_X4_takesStone.2.1 8 = .ok (.ifCond .eq 14, 3) := by decide +kernel
theorem d_X4_takesStone_11 : decode m_X4_takesStone.2.1 11 = .ok (.aload_n 0, 1) := by decide +kernel
theorem d_X4_takesStone_12 : decode m_X4_takesStone.2.1 12 = .ok (.getfield 21, 3) := by decide +kernel
theorem d_X4_takesStone_15 : decode m_X4_takesStone.2.1 15 = .ok (.getfield 62, 3) := by decide +kernel
theorem d_X4_takesStone_18 : decode m_X4_takesStone.2.1 18 = .ok (.iconst 4, 1) := by decide +kernel
theorem d_X4_takesStone_19 : decode m_X4_takesStone.2.1 19 = .ok (.if_icmp .lt 5, 3) := by decide +kernel
theorem d_X4_takesStone_22 : decode m_X4_takesStone.2.1 22 = .ok (.iconst 0, 1) := by decide +kernel
theorem d_X4_takesStone_23 : decode m_X4_takesStone.2.1 23 = .ok (.ireturn, 1) := by decide +kernel
theorem d_X4_takesStone_24 : decode m_X4_takesStone.2.1 24 = .ok (.aload_n 0, 1) := by decide +kernel
theorem d_X4_takesStone_25 : decode m_X4_takesStone.2.1 25 = .ok (.getfield 21, 3) := by decide +kernel
theorem d_X4_takesStone_28 : decode m_X4_takesStone.2.1 28 = .ok (.iload_n 1, 1) := by decide +kernel
theorem d_X4_takesStone_29 : decode m_X4_takesStone.2.1 29 = .ok (.bipush 48, 2) := by decide +kernel
theorem d_X4_takesStone_31 : decode m_X4_takesStone.2.1 31 = .ok (.isub, 1) := by decide +kernel
theorem d_X4_takesStone_32 : decode m_X4_takesStone.2.1 32 = .ok (.invokevirtual 65, 3) := by decide +kernel
theorem d_X4_takesStone_35 : decode m_X4_takesStone.2.1 35 = .ok (.aload_n 0, 1) := by decide +kernel
theorem d_X4_takesStone_36 : decode m_X4_takesStone.2.1 36 = .ok (.iconst 1, 1) := by decide +kernel
theorem d_X4_takesStone_37 : decode m_X4_takesStone.2.1 37 = .ok (.bipush 8, 2) := by decide +kernel
theorem d_X4_takesStone_39 : decode m_X4_takesStone.2.1 39 = .ok (.invokevirtual 30, 3) := by decide +kernel
theorem d_X4_takesStone_42 : decode m_X4_takesStone.2.1 42 = .ok (.ireturn, 1) := by decide +kernel
theorem d_X5_init_0 : decode m_X5_init.2.1 0 = .ok (.aload_n 0, 1) := by decide +kernel
theorem d_X5_init_1 : decode m_X5_init.2.1 1 = .ok (.invokespecial 3, 3) := by decide +kernel
theorem d_X5_init_4 : decode m_X5_init.2.1 4 = .ok (.aload_n 0, 1) := by decide +kernel
theorem d_X5_init_5 : decode m_X5_init.2.1 5 = .ok (.new 9, 3) := by decide +kernel
theorem d_X5_init_8 : decode m_X5_init.2.1 8 = .ok (.dup, 1) := by decide +kernel
theorem d_X5_init_9 : decode m_X5_init.2.1 9 = .ok (.invokespecial 11, 3) := by decide +kernel
theorem d_X5_init_12 : decode m_X5_init.2.1 12 = .ok (.putfield 12, 3) := by decide +kernel
theorem d_X5_init_15 : decode m_X5_init.2.1 15 = .ok (.aload_n 0, 1) := by decide +kernel
theorem d_X5_init_16 : decode m_X5_init.2.1 16 = .ok (.new 9, 3) := by decide +kernel
theorem d_X5_init_19 : decode m_X5_init.2.1 19 = .ok (.dup, 1) := by decide +kernel
theorem d_X5_init_20 : decode m_X5_init.2.1 20 = .ok (.invokespecial 11, 3) := by decide +kernel
theorem d_X5_init_23 : decode m_X5_init.2.1 23 = .ok (.putfield 18, 3) := by decide +kernel
theorem d_X5_init_26 : decode m_X5_init.2.1 26 = .ok (.aload_n 0, 1) := by decide +kernel
theorem d_X5_init_27 : decode m_X5_init.2.1 27 = .ok (.iconst 4, 1) := by decide +kernel
theorem d_X5_init_28 : decode m_X5_init.2.1 28 = .ok (.anewarray 21, 3) := by decide +kernel
theorem d_X5_init_31 : decode m_X5_init.2.1 31 = .ok (.putfield 23, 3) := by decide +kernel
theorem d_X5_init_34 : decode m_X5_init.2.1 34 = .ok (.aload_n 0, 1) := by decide +kernel
theorem d_X5_init_35 : decode m_X5_init.2.1 35 = .ok (.bipush 8, 2) := by decide +kernel
theorem d_X5_init_37 : decode m_X5_init.2.1 37 = .ok (.newarray .int, 2) := by decide +kernel
theorem d_X5_init_39 : decode m_X5_init.2.1 39 = .ok (.putfield 27, 3) := by decide +kernel
theorem d_X5_init_42 : decode m_X5_init.2.1 42 = .ok (.aload_n 0, 1) := by decide +kernel
theorem d_X5_init_43 : decode m_X5_init.2.1 43 = .ok (.bipush 8, 2) := by decide +kernel
theorem d_X5_init_45 : decode m_X5_init.2.1 45 = .ok (.newarray .int, 2) := by decide +kernel
theorem d_X5_init_47 : decode m_X5_init.2.1 47 = .ok (.putfield 31, 3) := by decide +kernel
theorem d_X5_init_50 : decode m_X5_init.2.1 50 = .ok (.aload_n 0, 1) := by decide +kernel
theorem d_X5_init_51 : decode m_X5_init.2.1 51 = .ok (.iconst 4, 1) := by decide +kernel
theorem d_X5_init_52 : decode m_X5_init.2.1 52 = .ok (.newarray .int, 2) := by decide +kernel
theorem d_X5_init_54 : decode m_X5_init.2.1 54 = .ok (.putfield 34, 3) := by decide +kernel
theorem d_X5_init_57 : decode m_X5_init.2.1 57 = .ok (.aload_n 0, 1) := by decide +kernel
theorem d_X5_init_58 : decode m_X5_init.2.1 58 = .ok (.iconst 0, 1) := by decide +kernel
theorem d_X5_init_59 : decode m_X5_init.2.1 59 = .ok (.putfield 37, 3) := by decide +kernel
theorem d_X5_init_62 : decode m_X5_init.2.1 62 = .ok (.aload_n 0, 1) := by decide +kernel
theorem d_X5_init_63 : decode m_X5_init.2.1 63 = .ok (.iconst 0, 1) := by decide +kernel
theorem d_X5_init_64 : decode m_X5_init.2.1 64 = .ok (.putfield 41, 3) := by decide +kernel
theorem d_X5_init_67 : decode m_X5_init.2.1 67 = .ok (.aload_n 0, 1) := by decide +kernel
theorem d_X5_init_68 : decode m_X5_init.2.1 68 = .ok (.iconst 0, 1) := by decide +kernel
theorem d_X5_init_69 : decode m_X5_init.2.1 69 = .ok (.putfield 44, 3) := by decide +kernel
theorem d_X5_init_72 : decode m_X5_init.2.1 72 = .ok (.aload_n 0, 1) := by decide +kernel
theorem d_X5_init_73 : decode m_X5_init.2.1 73 = .ok (.iconst 0, 1) := by decide +kernel
theorem d_X5_init_74 : decode m_X5_init.2.1 74 = .ok (.putfield 47, 3) := by decide +kernel
theorem d_X5_init_77 : decode m_X5_init.2.1 77 = .ok (.iconst 0, 1) := by decide +kernel
theorem d_X5_init_78 : decode m_X5_init.2.1 78 = .ok (.istore_n 1, 1) := by decide +kernel
theorem d_X5_init_79 : decode m_X5_init.2.1 79 = .ok (.iload_n 1, 1) := by decide +kernel
theorem d_X5_init_80 : decode m_X5_init.2.1 80 = .ok (.iconst 4, 1) := by decide +kernel
theorem d_X5_init_81 : decode m_X5_init.2.1 81 = .ok (.if_icmp .ge 22, 3) := by decide +kernel
theorem d_X5_init_84 : decode m_X5_init.2.1 84 = .ok (.aload_n 0, 1) := by decide +kernel
theorem d_X5_init_85 : decode m_X5_init.2.1 85 = .ok (.getfield 23, 3) := by decide +kernel
theorem d_X5_init_88 : decode m_X5_init.2.1 88 = .ok (.iload_n 1, 1) := by decide +kernel
theorem d_X5_init_89 : decode m_X5_init.2.1 89 = .ok (.new 21, 3) := by decide +kernel
theorem d_X5_init_92 : decode m_X5_init.2.1 92 = .ok (.dup, 1) := by decide +kernel
theorem d_X5_init_93 : decode m_X5_init.2.1 93 = .ok (.invokespecial 50, 3) := by decide +kernel
theorem d_X5_init_96 : decode m_X5_init.2.1 96 = .ok (.aastore, 1) := by decide +kernel
theorem d_X5_init_97 : decode m_X5_init.2.1 97 = .ok (.iinc 1 1, 3) := by decide +kernel
theorem d_X5_init_100 : decode m_X5_init.2.1 100 = .ok (.goto (-21), 3) := by decide +kernel
theorem d_X5_init_103 : decode m_X5_init.2.1 103 = .ok (.return_, 1) := by decide +kernel
theorem d_X5_parish_0 : decode m_X5_parish.2.1 0 = .ok (.aload_n 0, 1) := by decide +kernel
theorem d_X5_parish_1 : decode m_X5_parish.2.1 1 = .ok (.iconst 0, 1) := by decide +kernel
theorem d_X5_parish_2 : decode m_X5_parish.2.1 2 = .ok (.putfield 47, 3) := by decide +kernel
theorem d_X5_parish_5 : decode m_X5_parish.2.1 5 = .ok (.iload_n 1, 1) := by decide +kernel
theorem d_X5_parish_6 : decode m_X5_parish.2.1 6 = .ok (.invokestatic 51, 3) := by decide +kernel
theorem d_X5_parish_9 : decode m_X5_parish.2.1 9 = .ok (.ifCond .ne 5, 3) := by decide +kernel
theorem d_X5_parish_12 : decode m_X5_parish.2.1 12 = .ok (.iconst (-1), 1) := by decide +kernel
theorem d_X5_parish_13 : decode m_X5_parish.2.1 13 = .ok (.ireturn, 1) := by decide +kernel
theorem d_X5_parish_14 : decode m_X5_parish.2.1 14 = .ok (.iload_n 2, 1) := by decide +kernel
theorem d_X5_parish_15 : decode m_X5_parish.2.1 15 = .ok (.invokestatic 55, 3) := by decide +kernel
theorem d_X5_parish_18 : decode m_X5_parish.2.1 18 = .ok (.ifCond .ne 6, 3) := by decide +kernel
theorem d_X5_parish_21 : decode m_X5_parish.2.1 21 = .ok (.bipush (-2), 2) := by decide +kernel
theorem d_X5_parish_23 : decode m_X5_parish.2.1 23 = .ok (.ireturn, 1) := by decide +kernel
theorem d_X5_parish_24 : decode m_X5_parish.2.1 24 = .ok (.aload_n 0, 1) := by decide +kernel
theorem d_X5_parish_25 : decode m_X5_parish.2.1 25 = .ok (.getfield 23, 3) := by decide +kernel
theorem d_X5_parish_28 : decode m_X5_parish.2.1 28 = .ok (.iload_n 1, 1) := by decide +kernel
theorem d_X5_parish_29 : decode m_X5_parish.2.1 29 = .ok (.aaload, 1) := by decide +kernel
theorem d_X5_parish_30 : decode m_X5_parish.2.1 30 = .ok (.astore 5, 2) := by decide +kernel
theorem d_X5_parish_32 : decode m_X5_parish.2.1 32 = .ok (.aload 5, 2) := by decide +kernel
theorem d_X5_parish_34 : decode m_X5_parish.2.1 34 = .ok (.iload_n 2, 1) := by decide +kernel
theorem d_X5_parish_35 : decode m_X5_parish.2.1 35 = .ok (.iload_n 3, 1) := by decide +kernel
theorem d_X5_parish_36 : decode m_X5_parish.2.1 36 = .ok (.iload 4, 2) := by decide +kernel
theorem d_X5_parish_38 : decode m_X5_parish.2.1 38 = .ok (.invokestatic 58, 3) := by decide +kernel
theorem d_X5_parish_41 : decode m_X5_parish.2.1 41 = .ok (.istore 6, 2) := by decide +kernel
theorem d_X5_parish_43 : decode m_X5_parish.2.1 43 = .ok (.iload 6, 2) := by decide +kernel
theorem d_X5_parish_45 : decode m_X5_parish.2.1 45 = .ok (.ifCond .eq 10, 3) := by decide +kernel
theorem d_X5_parish_48 : decode m_X5_parish.2.1 48 = .ok (.aload_n 0, 1) := by decide +kernel
theorem d_X5_parish_49 : decode m_X5_parish.2.1 49 = .ok (.iload 6, 2) := by decide +kernel
theorem d_X5_parish_51 : decode m_X5_parish.2.1 51 = .ok (.invokevirtual 62, 3) := by decide +kernel
theorem d_X5_parish_54 : decode m_X5_parish.2.1 54 = .ok (.ireturn, 1) := by decide +kernel
theorem d_X5_parish_55 : decode m_X5_parish.2.1 55 = .ok (.aload_n 0, 1) := by decide +kernel
theorem d_X5_parish_56 : decode m_X5_parish.2.1 56 = .ok (.aload 5, 2) := by decide +kernel
theorem d_X5_parish_58 : decode m_X5_parish.2.1 58 = .ok (.iload_n 3, 1) := by decide +kernel
theorem d_X5_parish_59 : decode m_X5_parish.2.1 59 = .ok (.iload 4, 2) := by decide +kernel
theorem d_X5_parish_61 : decode m_X5_parish.2.1 61 = .ok (.invokevirtual 66, 3) := by decide +kernel
theorem d_X5_parish_64 : decode m_X5_parish.2.1 64 = .ok (.istore 7, 2) := by decide +kernel
theorem d_X5_parish_66 : decode m_X5_parish.2.1 66 = .ok (.iload 7, 2) := by decide +kernel
theorem d_X5_parish_68 : decode m_X5_parish.2.1 68 = .ok (.bipush (-9), 2) := by decide +kernel
theorem d_X5_parish_70 : decode m_X5_parish.2.1 70 = .ok (.if_icmp .eq 9, 3) := by decide +kernel
theorem d_X5_parish_73 : decode m_X5_parish.2.1 73 = .ok (.bipush (-100), 2) := by decide +kernel
theorem d_X5_parish_75 : decode m_X5_parish.2.1 75 = .ok (.iload 7, 2) := by decide +kernel
theorem d_X5_parish_77 : decode m_X5_parish.2.1 77 = .ok (.isub, 1) := by decide +kernel
theorem d_X5_parish_78 : decode m_X5_parish.2.1 78 = .ok (.ireturn, 1) := by decide +kernel
theorem d_X5_parish_79 : decode m_X5_parish.2.1 79 = .ok (.aload_n 0, 1) := by decide +kernel
theorem d_X5_parish_80 : decode m_X5_parish.2.1 80 = .ok (.getfield 12, 3) := by decide +kernel
theorem d_X5_parish_83 : decode m_X5_parish.2.1 83 = .ok (.aload_n 0, 1) := by decide +kernel
theorem d_X5_parish_84 : decode m_X5_parish.2.1 84 = .ok (.getfield 18, 3) := by decide +kernel
theorem d_X5_parish_87 : decode m_X5_parish.2.1 87 = .ok (.invokevirtual 70, 3) := by decide +kernel
theorem d_X5_parish_90 : decode m_X5_parish.2.1 90 = .ok (.aload_n 0, 1) := by decide +kernel
theorem d_X5_parish_91 : decode m_X5_parish.2.1 91 = .ok (.iconst 0, 1) := by decide +kernel
theorem d_X5_parish_92 : decode m_X5_parish.2.1 92 = .ok (.putfield 37, 3) := by decide +kernel
theorem d_X5_parish_95 : decode m_X5_parish.2.1 95 = .ok (.aload_n 0, 1) := by decide +kernel
theorem d_X5_parish_96 : decode m_X5_parish.2.1 96 = .ok (.iconst 0, 1) := by decide +kernel
theorem d_X5_parish_97 : decode m_X5_parish.2.1 97 = .ok (.putfield 41, 3) := by decide +kernel
theorem d_X5_parish_100 : decode m_X5_parish.2.1 100 = .ok (.aload_n 0, 1) := by decide +kernel
theorem d_X5_parish_101 : decode m_X5_parish.2.1 101 = .ok (.getfield 12, 3) := by decide +kernel
theorem d_X5_parish_104 : decode m_X5_parish.2.1 104 = .ok (.getfield 74, 3) := by decide +kernel
theorem d_X5_parish_107 : decode m_X5_parish.2.1 107 = .ok (.ireturn, 1) := by decide +kernel
theorem d_X5_ofHouse_0 : decode m_X5_ofHouse.2.1 0 = .ok (.aload_n 0, 1) := by decide +kernel
theorem d_X5_ofHouse_1 : decode m_X5_ofHouse.2.1 1 = .ok (.getfield 12, 3) := by decide +kernel
theorem d_X5_ofHouse_4 : decode m_X5_ofHouse.2.1 4 = .ok (.iload_n 1, 1) := by decide +kernel
theorem d_X5_ofHouse_5 : decode m_X5_ofHouse.2.1 5 = .ok (.invokevirtual 77, 3) := by decide +kernel
theorem d_X5_ofHouse_8 : decode m_X5_ofHouse.2.1 8 = .ok (.ifCond .ne 5, 3) := by decide +kernel
theorem d_X5_ofHouse_11 : decode m_X5_ofHouse.2.1 11 = .ok (.iconst (-1), 1) := by decide +kernel
theorem d_X5_ofHouse_12 : decode m_X5_ofHouse.2.1 12 = .ok (.ireturn, 1) := by decide +kernel
theorem d_X5_ofHouse_13 : decode m_X5_ofHouse.2.1 13 = .ok (.aload_n 0, 1) := by decide +kernel
theorem d_X5_ofHouse_14 : decode m_X5_ofHouse.2.1 14 = .ok (.getfield 12, 3) := by decide +kernel
theorem d_X5_ofHouse_17 : decode m_X5_ofHouse.2.1 17 = .ok (.getfield 80, 3) := by decide +kernel
theorem d_X5_ofHouse_20 : decode m_X5_ofHouse.2.1 20 = .ok (.iload_n 1, 1) := by decide +kernel
theorem d_X5_ofHouse_21 : decode m_X5_ofHouse.2.1 21 = .ok (.aaload, 1) := by decide +kernel
theorem d_X5_ofHouse_22 : decode m_X5_ofHouse.2.1 22 = .ok (.astore_n 3, 1) := by decide +kernel
theorem d_X5_ofHouse_23 : decode m_X5_ofHouse.2.1 23 = .ok (.iload_n 2, 1) := by decide +kernel
theorem d_X5_ofHouse_24 : decode m_X5_ofHouse.2.1 24 = .ok (.tableswitch 95 0 6 #[44, 49, 54, 59, 64, 77, 90], 44) := by decide +kernel
theorem d_X5_ofHouse_68 : decode m_X5_ofHouse.2.1 68 = .ok (.aload_n 3, 1) := by decide +kernel
theorem d_X5_ofHouse_69 : decode m_X5_ofHouse.2.1 69 = .ok (.getfield 84, 3) := by decide +kernel
theorem d_X5_ofHouse_72 : decode m_X5_ofHouse.2.1 72 = .ok (.ireturn, 1) := by decide +kernel
theorem d_X5_ofHouse_73 : decode m_X5_ofHouse.2.1 73 = .ok (.aload_n 3, 1) := by decide +kernel
theorem d_X5_ofHouse_74 : decode m_X5_ofHouse.2.1 74 = .ok (.getfield 89, 3) := by decide +kernel
theorem d_X5_ofHouse_77 : decode m_X5_ofHouse.2.1 77 = .ok (.ireturn, 1) := by decide +kernel
theorem d_X5_ofHouse_78 : decode m_X5_ofHouse.2.1 78 = .ok (.aload_n 3, 1) := by decide +kernel
theorem d_X5_ofHouse_79 : decode m_X5_ofHouse.2.1 79 = .ok (.getfield 92, 3) := by decide +kernel
theorem d_X5_ofHouse_82 : decode m_X5_ofHouse.2.1 82 = .ok (.ireturn, 1) := by decide +kernel
theorem d_X5_ofHouse_83 : decode m_X5_ofHouse.2.1 83 = .ok (.aload_n 3, 1) := by decide +kernel
theorem d_X5_ofHouse_84 : decode m_X5_ofHouse.2.1 84 = .ok (.invokevirtual 95, 3) := by decide +kernel
theorem d_X5_ofHouse_87 : decode m_X5_ofHouse.2.1 87 = .ok (.ireturn, 1) := by decide +kernel
theorem d_X5_ofHouse_88 : decode m_X5_ofHouse.2.1 88 = .ok (.aload_n 3, 1) := by decide +kernel
theorem d_X5_ofHouse_89 : decode m_X5_ofHouse.2.1 89 = .ok (.getfield 99, 3) := by decide +kernel
theorem d_X5_ofHouse_92 : decode m_X5_ofHouse.2.1 92 = .ok (.ifCond .eq 7, 3) := by decide +kernel
theorem d_X5_ofHouse_95 : decode m_X5_ofHouse.2.1 95 = .ok (.iconst 1, 1) := by decide +kernel
theorem d_X5_ofHouse_96 : decode m_X5_ofHouse.2.1 96 = .ok (.goto 4, 3) := by decide +kernel
theorem d_X5_ofHouse_99 : decode m_X5_ofHouse.2.1 99 = .ok (.iconst 0, 1) := by decide +kernel
theorem d_X5_ofHouse_100 : decode m_X5_ofHouse.2.1 100 = .ok (.ireturn, 1) := by decide +kernel
theorem d_X5_ofHouse_101 : decode m_X5_ofHouse.2.1 101 = .ok (.aload_n 3, 1) := by decide +kernel
theorem d_X5_ofHouse_102 : decode m_X5_ofHouse.2.1 102 = .ok (.invokevirtual 103, 3) := by decide +kernel
theorem d_X5_ofHouse_105 : decode m_X5_ofHouse.2.1 105 = .ok (.ifCond .eq 7, 3) := by decide +kernel
theorem d_X5_ofHouse_108 : decode m_X5_ofHouse.2.1 108 = .ok (.iconst 1, 1) := by decide +kernel
theorem d_X5_ofHouse_109 : decode m_X5_ofHouse.2.1 109 = .ok (.goto 4, 3) := by decide +kernel
theorem d_X5_ofHouse_112 : decode m_X5_ofHouse.2.1 112 = .ok (.iconst 0, 1) := by decide +kernel
theorem d_X5_ofHouse_113 : decode m_X5_ofHouse.2.1 113 = .ok (.ireturn, 1) := by decide +kernel
theorem d_X5_ofHouse_114 : decode m_X5_ofHouse.2.1 114 = .ok (.aload_n 3, 1) := by decide +kernel
theorem d_X5_ofHouse_115 : decode m_X5_ofHouse.2.1 115 = .ok (.getfield 107, 3) := by decide +kernel
theorem d_X5_ofHouse_118 : decode m_X5_ofHouse.2.1 118 = .ok (.ireturn, 1) := by decide +kernel
theorem d_X5_ofHouse_119 : decode m_X5_ofHouse.2.1 119 = .ok (.bipush (-2), 2) := by decide +kernel
theorem d_X5_ofHouse_121 : decode m_X5_ofHouse.2.1 121 = .ok (.ireturn, 1) := by decide +kernel
theorem d_X5_ofStone_0 : decode m_X5_ofStone.2.1 0 = .ok (.aload_n 0, 1) := by decide +kernel
theorem d_X5_ofStone_1 : decode m_X5_ofStone.2.1 1 = .ok (.getfield 12, 3) := by decide +kernel
theorem d_X5_ofStone_4 : decode m_X5_ofStone.2.1 4 = .ok (.iload_n 1, 1) := by decide +kernel
theorem d_X5_ofStone_5 : decode m_X5_ofStone.2.1 5 = .ok (.invokevirtual 110, 3) := by decide +kernel
theorem d_X5_ofStone_8 : decode m_X5_ofStone.2.1 8 = .ok (.ifCond .ne 5, 3) := by decide +kernel
theorem d_X5_ofStone_11 : decode m_X5_ofStone.2.1 11 = .ok (.iconst (-1), 1) := by decide +kernel
theorem d_X5_ofStone_12 : decode m_X5_ofStone.2.1 12 = .ok (.ireturn, 1) := by decide +kernel
theorem d_X5_ofStone_13 : decode m_X5_ofStone.2.1 13 = .ok (.aload_n 0, 1) := by decide +kernel
theorem d_X5_ofStone_14 : decode m_X5_ofStone.2.1 14 = .ok (.getfield 12, 3) := by decide +kernel
theorem d_X5_ofStone_17 : decode m_X5_ofStone.2.1 17 = .ok (.getfield 113, 3) := by decide +kernel
theorem d_X5_ofStone_20 : decode m_X5_ofStone.2.1 20 = .ok (.iload_n 1, 1) := by decide +kernel
theorem d_X5_ofStone_21 : decode m_X5_ofStone.2.1 21 = .ok (.aaload, 1) := by decide +kernel
theorem d_X5_ofStone_22 : decode m_X5_ofStone.2.1 22 = .ok (.astore_n 3, 1) := by decide +kernel
theorem d_X5_ofStone_23 : decode m_X5_ofStone.2.1 23 = .ok (.iload_n 2, 1) := by decide +kernel
theorem d_X5_ofStone_24 : decode m_X5_ofStone.2.1 24 = .ok (.lookupswitch 46 #[(0, 28), (1, 33)], 28) := by decide +kernel
theorem d_X5_ofStone_52 : decode m_X5_ofStone.2.1 52 = .ok (.aload_n 3, 1) := by decide +kernel
theorem d_X5_ofStone_53 : decode m_X5_ofStone.2.1 53 = .ok (.getfield 117, 3) := by decide +kernel
theorem d_X5_ofStone_56 : decode m_X5_ofStone.2.1 56 = .ok (.ireturn, 1) := by decide +kernel
theorem d_X5_ofStone_57 : decode m_X5_ofStone.2.1 57 = .ok (.aload_n 3, 1) := by decide +kernel
theorem d_X5_ofStone_58 : decode m_X5_ofStone.2.1 58 = .ok (.getfield 122, 3) := by decide +kernel
theorem d_X5_ofStone_61 : decode m_X5_ofStone.2.1 61 = .ok (.ifCond .eq 7, 3) := by decide +kernel
theorem d_X5_ofStone_64 : decode m_X5_ofStone.2.1 64 = .ok (.iconst 1, 1) := by decide +kernel
theorem d_X5_ofStone_65 : decode m_X5_ofStone.2.1 65 = .ok (.goto 4, 3) := by decide +kernel
theorem d_X5_ofStone_68 : decode m_X5_ofStone.2.1 68 = .ok (.iconst 0, 1) := by decide +kernel
theorem d_X5_ofStone_69 : decode m_X5_ofStone.2.1 69 = .ok (.ireturn, 1) := by decide +kernel
theorem d_X5_ofStone_70 : decode m_X5_ofStone.2.1 70 = .ok (.bipush (-2), 2) := by decide +kernel
theorem d_X5_ofStone_72 : decode m_X5_ofStone.2.1 72 = .ok (.ireturn, 1) := by decide +kernel
theorem d_X5_sleep_0 : decode m_X5_sleep.2.1 0 = .ok (.aload_n 0, 1) := by decide +kernel
theorem d_X5_sleep_1 : decode m_X5_sleep.2.1 1 = .ok (.getfield 12, 3) := by decide +kernel
theorem d_X5_sleep_4 : decode m_X5_sleep.2.1 4 = .ok (.iload_n 1, 1) := by decide +kernel
theorem d_X5_sleep_5 : decode m_X5_sleep.2.1 5 = .ok (.invokevirtual 77, 3) := by decide +kernel
theorem d_X5_sleep_8 : decode m_X5_sleep.2.1 8 = .ok (.ifCond .ne 5, 3) := by decide +kernel
theorem d_X5_sleep_11 : decode m_X5_sleep.2.1 11 = .ok (.iconst (-1), 1) := by decide +kernel
theorem d_X5_sleep_12 : decode m_X5_sleep.2.1 12 = .ok (.ireturn, 1) := by decide +kernel
theorem d_X5_sleep_13 : decode m_X5_sleep.2.1 13 = .ok (.iload_n 2, 1) := by decide +kernel
theorem d_X5_sleep_14 : decode m_X5_sleep.2.1 14 = .ok (.iconst 0, 1) := by decide +kernel
theorem d_X5_sleep_15 : decode m_X5_sleep.2.1 15 = .ok (.bipush 9, 2) := by decide +kernel
theorem d_X5_sleep_17 : decode m_X5_sleep.2.1 17 = .ok (.invokestatic 125, 3) := by decide +kernel
theorem d_X5_sleep_20 : decode m_X5_sleep.2.1 20 = .ok (.ifCond .ne 6, 3) := by decide +kernel
theorem d_X5_sleep_23 : decode m_X5_sleep.2.1 23 = .ok (.bipush (-2), 2) := by decide +kernel
theorem d_X5_sleep_25 : decode m_X5_sleep.2.1 25 = .ok (.ireturn, 1) := by decide +kernel
theorem d_X5_sleep_26 : decode m_X5_sleep.2.1 26 = .ok (.aload_n 0, 1) := by decide +kernel
theorem d_X5_sleep_27 : decode m_X5_sleep.2.1 27 = .ok (.getfield 12, 3) := by decide +kernel
theorem d_X5_sleep_30 : decode m_X5_sleep.2.1 30 = .ok (.getfield 80, 3) := by decide +kernel
theorem d_X5_sleep_33 : decode m_X5_sleep.2.1 33 = .ok (.iload_n 1, 1) := by decide +kernel
theorem d_X5_sleep_34 : decode m_X5_sleep.2.1 34 = .ok (.aaload, 1) := by decide +kernel
theorem d_X5_sleep_35 : decode m_X5_sleep.2.1 35 = .ok (.astore_n 3, 1) := by decide +kernel
theorem d_X5_sleep_36 : decode m_X5_sleep.2.1 36 = .ok (.aload_n 3, 1) := by decide +kernel
theorem d_X5_sleep_37 : decode m_X5_sleep.2.1 37 = .ok (.getfield 92, 3) := by decide +kernel
theorem d_X5_sleep_40 : decode m_X5_sleep.2.1 40 = .ok (.istore 4, 2) := by decide +kernel
theorem d_X5_sleep_42 : decode m_X5_sleep.2.1 42 = .ok (.aload_n 3, 1) := by decide +kernel
theorem d_X5_sleep_43 : decode m_X5_sleep.2.1 43 = .ok (.iload_n 2, 1) := by decide +kernel
theorem d_X5_sleep_44 : decode m_X5_sleep.2.1 44 = .ok (.putfield 92, 3) := by decide +kernel
theorem d_X5_sleep_47 : decode m_X5_sleep.2.1 47 = .ok (.iload 4, 2) := by decide +kernel
theorem d_X5_sleep_49 : decode m_X5_sleep.2.1 49 = .ok (.ireturn, 1) := by decide +kernel
theorem d_X5_own_0 : decode m_X5_own.2.1 0 = .ok (.aload_n 0, 1) := by decide +kernel
theorem d_X5_own_1 : decode m_X5_own.2.1 1 = .ok (.getfield 12, 3) := by decide +kernel
theorem d_X5_own_4 : decode m_X5_own.2.1 4 = .ok (.iload_n 1, 1) := by decide +kernel
theorem d_X5_own_5 : decode m_X5_own.2.1 5 = .ok (.invokevirtual 77, 3) := by decide +kernel
theorem d_X5_own_8 : decode m_X5_own.2.1 8 = .ok (.ifCond .ne 5, 3) := by decide +kernel
theorem d_X5_own_11 : decode m_X5_own.2.1 11 = .ok (.iconst (-1), 1) := by decide +kernel
theorem d_X5_own_12 : decode m_X5_own.2.1 12 = .ok (.ireturn, 1) := by decide +kernel
theorem d_X5_own_13 : decode m_X5_own.2.1 13 = .ok (.aload_n 0, 1) := by decide +kernel
theorem d_X5_own_14 : decode m_X5_own.2.1 14 = .ok (.getfield 12, 3) := by decide +kernel
theorem d_X5_own_17 : decode m_X5_own.2.1 17 = .ok (.getfield 80, 3) := by decide +kernel
theorem d_X5_own_20 : decode m_X5_own.2.1 20 = .ok (.iload_n 1, 1) := by decide +kernel
theorem d_X5_own_21 : decode m_X5_own.2.1 21 = .ok (.aaload, 1) := by decide +kernel
theorem d_X5_own_22 : decode m_X5_own.2.1 22 = .ok (.invokevirtual 129, 3) := by decide +kernel
theorem d_X5_own_25 : decode m_X5_own.2.1 25 = .ok (.ifCond .eq 7, 3) := by decide +kernel
theorem d_X5_own_28 : decode m_X5_own.2.1 28 = .ok (.iconst 1, 1) := by decide +kernel
theorem d_X5_own_29 : decode m_X5_own.2.1 29 = .ok (.goto 4, 3) := by decide +kernel
theorem d_X5_own_32 : decode m_X5_own.2.1 32 = .ok (.iconst 0, 1) := by decide +kernel
theorem d_X5_own_33 : decode m_X5_own.2.1 33 = .ok (.ireturn, 1) := by decide +kernel
theorem d_X5_lay_0 : decode m_X5_lay.2.1 0 = .ok (.aload_n 0, 1) := by decide +kernel
theorem d_X5_lay_1 : decode m_X5_lay.2.1 1 = .ok (.getfield 12, 3) := by decide +kernel
theorem d_X5_lay_4 : decode m_X5_lay.2.1 4 = .ok (.iload_n 1, 1) := by decide +kernel
theorem d_X5_lay_5 : decode m_X5_lay.2.1 5 = .ok (.invokevirtual 110, 3) := by decide +kernel
theorem d_X5_lay_8 : decode m_X5_lay.2.1 8 = .ok (.ifCond .ne 5, 3) := by decide +kernel
theorem d_X5_lay_11 : decode m_X5_lay.2.1 11 = .ok (.iconst (-1), 1) := by decide +kernel
theorem d_X5_lay_12 : decode m_X5_lay.2.1 12 = .ok (.ireturn, 1) := by decide +kernel
theorem d_X5_lay_13 : decode m_X5_lay.2.1 13 = .ok (.aload_n 0, 1) := by decide +kernel
theorem d_X5_lay_14 : decode m_X5_lay.2.1 14 = .ok (.getfield 12, 3) := by decide +kernel
theorem d_X5_lay_17 : decode m_X5_lay.2.1 17 = .ok (.getfield 113, 3) := by decide +kernel
theorem d_X5_lay_20 : decode m_X5_lay.2.1 20 = .ok (.iload_n 1, 1) := by decide +kernel
theorem d_X5_lay_21 : decode m_X5_lay.2.1 21 = .ok (.aaload, 1) := by decide +kernel
theorem d_X5_lay_22 : decode m_X5_lay.2.1 22 = .ok (.astore_n 2, 1) := by decide +kernel
theorem d_X5_lay_23 : decode m_X5_lay.2.1 23 = .ok (.aload_n 2, 1) := by decide +kernel
theorem d_X5_lay_24 : decode m_X5_lay.2.1 24 = .ok (.getfield 122, 3) := by decide +kernel
theorem d_X5_lay_27 : decode m_X5_lay.2.1 27 = .ok (.ifCond .eq 6, 3) := by decide +kernel
theorem d_X5_lay_30 : decode m_X5_lay.2.1 30 = .ok (.bipush (-3), 2) := by decide +kernel
theorem d_X5_lay_32 : decode m_X5_lay.2.1 32 = .ok (.ireturn, 1) := by decide +kernel
theorem d_X5_lay_33 : decode m_X5_lay.2.1 33 = .ok (.aload_n 2, 1) := by decide +kernel
theorem d_X5_lay_34 : decode m_X5_lay.2.1 34 = .ok (.iconst 1, 1) := by decide +kernel
theorem d_X5_lay_35 : decode m_X5_lay.2.1 35 = .ok (.putfield 122, 3) := by decide +kernel
theorem d_X5_lay_38 : decode m_X5_lay.2.1 38 = .ok (.aload_n 0, 1) := by decide +kernel
theorem d_X5_lay_39 : decode m_X5_lay.2.1 39 = .ok (.getfield 12, 3) := by decide +kernel
theorem d_X5_lay_42 : decode m_X5_lay.2.1 42 = .ok (.invokevirtual 132, 3) := by decide +kernel
theorem d_X5_lay_45 : decode m_X5_lay.2.1 45 = .ok (.ireturn, 1) := by decide +kernel
theorem d_X5_night_0 : decode m_X5_night.2.1 0 = .ok (.iload_n 1, 1) := by decide +kernel
theorem d_X5_night_1 : decode m_X5_night.2.1 1 = .ok (.iconst 1, 1) := by decide +kernel
theorem d_X5_night_2 : decode m_X5_night.2.1 2 = .ok (.bipush 60, 2) := by decide +kernel
theorem d_X5_night_4 : decode m_X5_night.2.1 4 = .ok (.invokestatic 125, 3) := by decide +kernel
theorem d_X5_night_7 : decode m_X5_night.2.1 7 = .ok (.ifCond .ne 6, 3) := by decide +kernel
theorem d_X5_night_10 : decode m_X5_night.2.1 10 = .ok (.bipush (-2), 2) := by decide +kernel
theorem d_X5_night_12 : decode m_X5_night.2.1 12 = .ok (.ireturn, 1) := by decide +kernel
theorem d_X5_night_13 : decode m_X5_night.2.1 13 = .ok (.aload_n 0, 1) := by decide +kernel
theorem d_X5_night_14 : decode m_X5_night.2.1 14 = .ok (.invokevirtual 135, 3) := by decide +kernel
theorem d_X5_night_17 : decode m_X5_night.2.1 17 = .ok (.ifCond .ne 6, 3) := by decide +kernel
theorem d_X5_night_20 : decode m_X5_night.2.1 20 = .ok (.bipush (-3), 2) := by decide +kernel
theorem d_X5_night_22 : decode m_X5_night.2.1 22 = .ok (.ireturn, 1) := by decide +kernel
theorem d_X5_night_23 : decode m_X5_night.2.1 23 = .ok (.aload_n 0, 1) := by decide +kernel
theorem d_X5_night_24 : decode m_X5_night.2.1 24 = .ok (.getfield 12, 3) := by decide +kernel
theorem d_X5_night_27 : decode m_X5_night.2.1 27 = .ok (.iload_n 1, 1) := by decide +kernel
theorem d_X5_night_28 : decode m_X5_night.2.1 28 = .ok (.invokevirtual 138, 3) := by decide +kernel
theorem d_X5_night_31 : decode m_X5_night.2.1 31 = .ok (.aload_n 0, 1) := by decide +kernel
theorem d_X5_night_32 : decode m_X5_night.2.1 32 = .ok (.dup, 1) := by decide +kernel
theorem d_X5_night_33 : decode m_X5_night.2.1 33 = .ok (.getfield 41, 3) := by decide +kernel
theorem d_X5_night_36 : decode m_X5_night.2.1 36 = .ok (.iload_n 1, 1) := by decide +kernel
theorem d_X5_night_37 : decode m_X5_night.2.1 37 = .ok (.iadd, 1) := by decide +kernel
theorem d_X5_night_38 : decode m_X5_night.2.1 38 = .ok (.putfield 41, 3) := by decide +kernel
theorem d_X5_night_41 : decode m_X5_night.2.1 41 = .ok (.aload_n 0, 1) := by decide +kernel
theorem d_X5_night_42 : decode m_X5_night.2.1 42 = .ok (.getfield 12, 3) := by decide +kernel
theorem d_X5_night_45 : decode m_X5_night.2.1 45 = .ok (.invokevirtual 132, 3) := by decide +kernel
theorem d_X5_night_48 : decode m_X5_night.2.1 48 = .ok (.ireturn, 1) := by decide +kernel
end
section
theorem d_X5_day_0 : decode m_X5_day.2.1 0 = .ok (.aload_n 0, 1) := by decide +kernel
theorem d_X5_day_1 : decode m_X5_day.2.1 1 = .ok (.iconst 0, 1) := by decide +kernel
theorem d_X5_day_2 : decode m_X5_day.2.1 2 = .ok (.putfield 47, 3) := by decide +kernel
theorem d_X5_day_5 : decode m_X5_day.2.1 5 = .ok (.iload_n 1, 1) := by decide +kernel
theorem d_X5_day_6 : decode m_X5_day.2.1 6 = .ok (.invokestatic 51, 3) := by decide +kernel
theorem d_X5_day_9 : decode m_X5_day.2.1 9 = .ok (.ifCond .ne 5, 3) := by decide +kernel
theorem d_X5_day_12 : decode m_X5_day.2.1 12 = .ok (.iconst (-1), 1) := by decide +kernel
theorem d_X5_day_13 : decode m_X5_day.2.1 13 = .ok (.ireturn, 1) := by decide +kernel
theorem d_X5_day_14 : decode m_X5_day.2.1 14 = .ok (.iload_n 2, 1) := by decide +kernel
theorem d_X5_day_15 : decode m_X5_day.2.1 15 = .ok (.invokestatic 55, 3) := by decide +kernel
theorem d_X5_day_18 : decode m_X5_day.2.1 18 = .ok (.ifCond .eq 22, 3) := by decide +kernel
theorem d_X5_day_21 : decode m_X5_day.2.1 21 = .ok (.iload 4, 2) := by decide +kernel
theorem d_X5_day_23 : decode m_X5_day.2.1 23 = .ok (.iconst 0, 1) := by decide +kernel
theorem d_X5_day_24 : decode m_X5_day.2.1 24 = .ok (.bipush 20, 2) := by decide +kernel
theorem d_X5_day_26 : decode m_X5_day.2.1 26 = .ok (.invokestatic 125, 3) := by decide +kernel
theorem d_X5_day_29 : decode m_X5_day.2.1 29 = .ok (.ifCond .eq 11, 3) := by decide +kernel
theorem d_X5_day_32 : decode m_X5_day.2.1 32 = .ok (.iload 5, 2) := by decide +kernel
theorem d_X5_day_34 : decode m_X5_day.2.1 34 = .ok (.invokestatic 142, 3) := by decide +kernel
theorem d_X5_day_37 : decode m_X5_day.2.1 37 = .ok (.ifCond .ne 6, 3) := by decide +kernel
theorem d_X5_day_40 : decode m_X5_day.2.1 40 = .ok (.bipush (-2), 2) := by decide +kernel
theorem d_X5_day_42 : decode m_X5_day.2.1 42 = .ok (.ireturn, 1) := by decide +kernel
theorem d_X5_day_43 : decode m_X5_day.2.1 43 = .ok (.aload_n 0, 1) := by decide +kernel
theorem d_X5_day_44 : decode m_X5_day.2.1 44 = .ok (.getfield 23, 3) := by decide +kernel
theorem d_X5_day_47 : decode m_X5_day.2.1 47 = .ok (.iload_n 1, 1) := by decide +kernel
theorem d_X5_day_48 : decode m_X5_day.2.1 48 = .ok (.aaload, 1) := by decide +kernel
theorem d_X5_day_49 : decode m_X5_day.2.1 49 = .ok (.astore 6, 2) := by decide +kernel
theorem d_X5_day_51 : decode m_X5_day.2.1 51 = .ok (.aload 6, 2) := by decide +kernel
theorem d_X5_day_53 : decode m_X5_day.2.1 53 = .ok (.iload_n 2, 1) := by decide +kernel
theorem d_X5_day_54 : decode m_X5_day.2.1 54 = .ok (.iload_n 3, 1) := by decide +kernel
theorem d_X5_day_55 : decode m_X5_day.2.1 55 = .ok (.iload 4, 2) := by decide +kernel
theorem d_X5_day_57 : decode m_X5_day.2.1 57 = .ok (.invokestatic 58, 3) := by decide +kernel
theorem d_X5_day_60 : decode m_X5_day.2.1 60 = .ok (.istore 7, 2) := by decide +kernel
theorem d_X5_day_62 : decode m_X5_day.2.1 62 = .ok (.iload 7, 2) := by decide +kernel
theorem d_X5_day_64 : decode m_X5_day.2.1 64 = .ok (.ifCond .eq 10, 3) := by decide +kernel
theorem d_X5_day_67 : decode m_X5_day.2.1 67 = .ok (.aload_n 0, 1) := by decide +kernel
theorem d_X5_day_68 : decode m_X5_day.2.1 68 = .ok (.iload 7, 2) := by decide +kernel
theorem d_X5_day_70 : decode m_X5_day.2.1 70 = .ok (.invokevirtual 62, 3) := by decide +kernel
theorem d_X5_day_73 : decode m_X5_day.2.1 73 = .ok (.ireturn, 1) := by decide +kernel
theorem d_X5_day_74 : decode m_X5_day.2.1 74 = .ok (.aload_n 0, 1) := by decide +kernel
theorem d_X5_day_75 : decode m_X5_day.2.1 75 = .ok (.invokevirtual 135, 3) := by decide +kernel
theorem d_X5_day_78 : decode m_X5_day.2.1 78 = .ok (.ifCond .ne 6, 3) := by decide +kernel
theorem d_X5_day_81 : decode m_X5_day.2.1 81 = .ok (.bipush (-3), 2) := by decide +kernel
theorem d_X5_day_83 : decode m_X5_day.2.1 83 = .ok (.ireturn, 1) := by decide +kernel
theorem d_X5_day_84 : decode m_X5_day.2.1 84 = .ok (.aload 6, 2) := by decide +kernel
theorem d_X5_day_86 : decode m_X5_day.2.1 86 = .ok (.iload_n 3, 1) := by decide +kernel
theorem d_X5_day_87 : decode m_X5_day.2.1 87 = .ok (.iload 4, 2) := by decide +kernel
theorem d_X5_day_89 : decode m_X5_day.2.1 89 = .ok (.invokestatic 145, 3) := by decide +kernel
theorem d_X5_day_92 : decode m_X5_day.2.1 92 = .ok (.ifCond .ne 6, 3) := by decide +kernel
theorem d_X5_day_95 : decode m_X5_day.2.1 95 = .ok (.bipush (-2), 2) := by decide +kernel
theorem d_X5_day_97 : decode m_X5_day.2.1 97 = .ok (.ireturn, 1) := by decide +kernel
theorem d_X5_day_98 : decode m_X5_day.2.1 98 = .ok (.aload_n 0, 1) := by decide +kernel
theorem d_X5_day_99 : decode m_X5_day.2.1 99 = .ok (.aload 6, 2) := by decide +kernel
theorem d_X5_day_101 : decode m_X5_day.2.1 101 = .ok (.iload_n 3, 1) := by decide +kernel
theorem d_X5_day_102 : decode m_X5_day.2.1 102 = .ok (.iload 4, 2) := by decide +kernel
theorem d_X5_day_104 : decode m_X5_day.2.1 104 = .ok (.invokevirtual 149, 3) := by decide +kernel
theorem d_X5_day_107 : decode m_X5_day.2.1 107 = .ok (.istore 8, 2) := by decide +kernel
theorem d_X5_day_109 : decode m_X5_day.2.1 109 = .ok (.iload 5, 2) := by decide +kernel
theorem d_X5_day_111 : decode m_X5_day.2.1 111 = .ok (.iconst 1, 1) := by decide +kernel
theorem d_X5_day_112 : decode m_X5_day.2.1 112 = .ok (.if_icmp .ne 6, 3) := by decide +kernel
theorem d_X5_day_115 : decode m_X5_day.2.1 115 = .ok (.iload 8, 2) := by decide +kernel
theorem d_X5_day_117 : decode m_X5_day.2.1 117 = .ok (.ireturn, 1) := by decide +kernel
theorem d_X5_day_118 : decode m_X5_day.2.1 118 = .ok (.iload 8, 2) := by decide +kernel
theorem d_X5_day_120 : decode m_X5_day.2.1 120 = .ok (.bipush (-9), 2) := by decide +kernel
theorem d_X5_day_122 : decode m_X5_day.2.1 122 = .ok (.if_icmp .eq 11, 3) := by decide +kernel
theorem d_X5_day_125 : decode m_X5_day.2.1 125 = .ok (.bipush (-100), 2) := by decide +kernel
theorem d_X5_day_127 : decode m_X5_day.2.1 127 = .ok (.iload 8, 2) := by decide +kernel
theorem d_X5_day_129 : decode m_X5_day.2.1 129 = .ok (.isub, 1) := by decide +kernel
theorem d_X5_day_130 : decode m_X5_day.2.1 130 = .ok (.goto 9, 3) := by decide +kernel
theorem d_X5_day_133 : decode m_X5_day.2.1 133 = .ok (.aload_n 0, 1) := by decide +kernel
theorem d_X5_day_134 : decode m_X5_day.2.1 134 = .ok (.iload 5, 2) := by decide +kernel
theorem d_X5_day_136 : decode m_X5_day.2.1 136 = .ok (.invokevirtual 152, 3) := by decide +kernel
theorem d_X5_day_139 : decode m_X5_day.2.1 139 = .ok (.ireturn, 1) := by decide +kernel
theorem d_X5_behind_0 : decode m_X5_behind.2.1 0 = .ok (.iload_n 1, 1) := by decide +kernel
theorem d_X5_behind_1 : decode m_X5_behind.2.1 1 = .ok (.iconst 0, 1) := by decide +kernel
theorem d_X5_behind_2 : decode m_X5_behind.2.1 2 = .ok (.bipush 60, 2) := by decide +kernel
theorem d_X5_behind_4 : decode m_X5_behind.2.1 4 = .ok (.invokestatic 125, 3) := by decide +kernel
theorem d_X5_behind_7 : decode m_X5_behind.2.1 7 = .ok (.ifCond .eq 12, 3) := by decide +kernel
theorem d_X5_behind_10 : decode m_X5_behind.2.1 10 = .ok (.iload_n 2, 1) := by decide +kernel
theorem d_X5_behind_11 : decode m_X5_behind.2.1 11 = .ok (.iconst 0, 1) := by decide +kernel
theorem d_X5_behind_12 : decode m_X5_behind.2.1 12 = .ok (.iconst 2, 1) := by decide +kernel
theorem d_X5_behind_13 : decode m_X5_behind.2.1 13 = .ok (.invokestatic 125, 3) := by decide +kernel
theorem d_X5_behind_16 : decode m_X5_behind.2.1 16 = .ok (.ifCond .ne 6, 3) := by decide +kernel
theorem d_X5_behind_19 : decode m_X5_behind.2.1 19 = .ok (.bipush (-2), 2) := by decide +kernel
theorem d_X5_behind_21 : decode m_X5_behind.2.1 21 = .ok (.ireturn, 1) := by decide +kernel
theorem d_X5_behind_22 : decode m_X5_behind.2.1 22 = .ok (.aload_n 0, 1) := by decide +kernel
theorem d_X5_behind_23 : decode m_X5_behind.2.1 23 = .ok (.invokevirtual 135, 3) := by decide +kernel
theorem d_X5_behind_26 : decode m_X5_behind.2.1 26 = .ok (.ifCond .ne 6, 3) := by decide +kernel
theorem d_X5_behind_29 : decode m_X5_behind.2.1 29 = .ok (.bipush (-3), 2) := by decide +kernel
theorem d_X5_behind_31 : decode m_X5_behind.2.1 31 = .ok (.ireturn, 1) := by decide +kernel
theorem d_X5_behind_32 : decode m_X5_behind.2.1 32 = .ok (.aload_n 0, 1) := by decide +kernel
theorem d_X5_behind_33 : decode m_X5_behind.2.1 33 = .ok (.getfield 18, 3) := by decide +kernel
theorem d_X5_behind_36 : decode m_X5_behind.2.1 36 = .ok (.aload_n 0, 1) := by decide +kernel
theorem d_X5_behind_37 : decode m_X5_behind.2.1 37 = .ok (.getfield 12, 3) := by decide +kernel
theorem d_X5_behind_40 : decode m_X5_behind.2.1 40 = .ok (.invokevirtual 70, 3) := by decide +kernel
theorem d_X5_behind_43 : decode m_X5_behind.2.1 43 = .ok (.aload_n 0, 1) := by decide +kernel
theorem d_X5_behind_44 : decode m_X5_behind.2.1 44 = .ok (.getfield 18, 3) := by decide +kernel
theorem d_X5_behind_47 : decode m_X5_behind.2.1 47 = .ok (.iload_n 1, 1) := by decide +kernel
theorem d_X5_behind_48 : decode m_X5_behind.2.1 48 = .ok (.invokevirtual 138, 3) := by decide +kernel
theorem d_X5_behind_51 : decode m_X5_behind.2.1 51 = .ok (.iload_n 2, 1) := by decide +kernel
theorem d_X5_behind_52 : decode m_X5_behind.2.1 52 = .ok (.ifCond .ne 11, 3) := by decide +kernel
theorem d_X5_behind_55 : decode m_X5_behind.2.1 55 = .ok (.aload_n 0, 1) := by decide +kernel
theorem d_X5_behind_56 : decode m_X5_behind.2.1 56 = .ok (.getfield 18, 3) := by decide +kernel
theorem d_X5_behind_59 : decode m_X5_behind.2.1 59 = .ok (.invokevirtual 132, 3) := by decide +kernel
theorem d_X5_behind_62 : decode m_X5_behind.2.1 62 = .ok (.ireturn, 1) := by decide +kernel
theorem d_X5_behind_63 : decode m_X5_behind.2.1 63 = .ok (.iload_n 2, 1) := by decide +kernel
theorem d_X5_behind_64 : decode m_X5_behind.2.1 64 = .ok (.iconst 1, 1) := by decide +kernel
theorem d_X5_behind_65 : decode m_X5_behind.2.1 65 = .ok (.if_icmp .ne 13, 3) := by decide +kernel
theorem d_X5_behind_68 : decode m_X5_behind.2.1 68 = .ok (.aload_n 0, 1) := by decide +kernel
theorem d_X5_behind_69 : decode m_X5_behind.2.1 69 = .ok (.getfield 18, 3) := by decide +kernel
theorem d_X5_behind_72 : decode m_X5_behind.2.1 72 = .ok (.getfield 155, 3) := by decide +kernel
theorem d_X5_behind_75 : decode m_X5_behind.2.1 75 = .ok (.goto 18, 3) := by decide +kernel
theorem d_X5_behind_78 : decode m_X5_behind.2.1 78 = .ok (.aload_n 0, 1) := by decide +kernel
theorem d_X5_behind_79 : decode m_X5_behind.2.1 79 = .ok (.getfield 18, 3) := by decide +kernel
theorem d_X5_behind_82 : decode m_X5_behind.2.1 82 = .ok (.invokevirtual 158, 3) := by decide +kernel
theorem d_X5_behind_85 : decode m_X5_behind.2.1 85 = .ok (.aload_n 0, 1) := by decide +kernel
theorem d_X5_behind_86 : decode m_X5_behind.2.1 86 = .ok (.getfield 12, 3) := by decide +kernel
theorem d_X5_behind_89 : decode m_X5_behind.2.1 89 = .ok (.invokevirtual 158, 3) := by decide +kernel
theorem d_X5_behind_92 : decode m_X5_behind.2.1 92 = .ok (.isub, 1) := by decide +kernel
theorem d_X5_behind_93 : decode m_X5_behind.2.1 93 = .ok (.ireturn, 1) := by decide +kernel
theorem d_X5_quiet_0 : decode m_X5_quiet.2.1 0 = .ok (.aload_n 0, 1) := by decide +kernel
theorem d_X5_quiet_1 : decode m_X5_quiet.2.1 1 = .ok (.invokevirtual 135, 3) := by decide +kernel
theorem d_X5_quiet_4 : decode m_X5_quiet.2.1 4 = .ok (.ifCond .ne 6, 3) := by decide +kernel
theorem d_X5_quiet_7 : decode m_X5_quiet.2.1 7 = .ok (.bipush (-3), 2) := by decide +kernel
theorem d_X5_quiet_9 : decode m_X5_quiet.2.1 9 = .ok (.ireturn, 1) := by decide +kernel
theorem d_X5_quiet_10 : decode m_X5_quiet.2.1 10 = .ok (.aload_n 0, 1) := by decide +kernel
theorem d_X5_quiet_11 : decode m_X5_quiet.2.1 11 = .ok (.getfield 18, 3) := by decide +kernel
theorem d_X5_quiet_14 : decode m_X5_quiet.2.1 14 = .ok (.aload_n 0, 1) := by decide +kernel
theorem d_X5_quiet_15 : decode m_X5_quiet.2.1 15 = .ok (.getfield 12, 3) := by decide +kernel
theorem d_X5_quiet_18 : decode m_X5_quiet.2.1 18 = .ok (.invokevirtual 70, 3) := by decide +kernel
theorem d_X5_quiet_21 : decode m_X5_quiet.2.1 21 = .ok (.aload_n 0, 1) := by decide +kernel
theorem d_X5_quiet_22 : decode m_X5_quiet.2.1 22 = .ok (.getfield 18, 3) := by decide +kernel
theorem d_X5_quiet_25 : decode m_X5_quiet.2.1 25 = .ok (.bipush 60, 2) := by decide +kernel
theorem d_X5_quiet_27 : decode m_X5_quiet.2.1 27 = .ok (.invokevirtual 161, 3) := by decide +kernel
theorem d_X5_quiet_30 : decode m_X5_quiet.2.1 30 = .ok (.ireturn, 1) := by decide +kernel
theorem d_X5_fewest_0 : decode m_X5_fewest.2.1 0 = .ok (.iload_n 1, 1) := by decide +kernel
theorem d_X5_fewest_1 : decode m_X5_fewest.2.1 1 = .ok (.iconst 0, 1) := by decide +kernel
theorem d_X5_fewest_2 : decode m_X5_fewest.2.1 2 = .ok (.bipush 60, 2) := by decide +kernel
theorem d_X5_fewest_4 : decode m_X5_fewest.2.1 4 = .ok (.invokestatic 125, 3) := by decide +kernel
theorem d_X5_fewest_7 : decode m_X5_fewest.2.1 7 = .ok (.ifCond .eq 12, 3) := by decide +kernel
theorem d_X5_fewest_10 : decode m_X5_fewest.2.1 10 = .ok (.iload_n 2, 1) := by decide +kernel
theorem d_X5_fewest_11 : decode m_X5_fewest.2.1 11 = .ok (.iconst 0, 1) := by decide +kernel
theorem d_X5_fewest_12 : decode m_X5_fewest.2.1 12 = .ok (.iconst 1, 1) := by decide +kernel
theorem d_X5_fewest_13 : decode m_X5_fewest.2.1 13 = .ok (.invokestatic 125, 3) := by decide +kernel
theorem d_X5_fewest_16 : decode m_X5_fewest.2.1 16 = .ok (.ifCond .ne 6, 3) := by decide +kernel
theorem d_X5_fewest_19 : decode m_X5_fewest.2.1 19 = .ok (.bipush (-2), 2) := by decide +kernel
theorem d_X5_fewest_21 : decode m_X5_fewest.2.1 21 = .ok (.ireturn, 1) := by decide +kernel
theorem d_X5_fewest_22 : decode m_X5_fewest.2.1 22 = .ok (.aload_n 0, 1) := by decide +kernel
theorem d_X5_fewest_23 : decode m_X5_fewest.2.1 23 = .ok (.invokevirtual 135, 3) := by decide +kernel
theorem d_X5_fewest_26 : decode m_X5_fewest.2.1 26 = .ok (.ifCond .ne 6, 3) := by decide +kernel
theorem d_X5_fewest_29 : decode m_X5_fewest.2.1 29 = .ok (.bipush (-3), 2) := by decide +kernel
theorem d_X5_fewest_31 : decode m_X5_fewest.2.1 31 = .ok (.ireturn, 1) := by decide +kernel
theorem d_X5_fewest_32 : decode m_X5_fewest.2.1 32 = .ok (.bipush (-9), 2) := by decide +kernel
theorem d_X5_fewest_34 : decode m_X5_fewest.2.1 34 = .ok (.istore_n 3, 1) := by decide +kernel
theorem d_X5_fewest_35 : decode m_X5_fewest.2.1 35 = .ok (.bipush (-9), 2) := by decide +kernel
theorem d_X5_fewest_37 : decode m_X5_fewest.2.1 37 = .ok (.istore 4, 2) := by decide +kernel
theorem d_X5_fewest_39 : decode m_X5_fewest.2.1 39 = .ok (.iconst 0, 1) := by decide +kernel
theorem d_X5_fewest_40 : decode m_X5_fewest.2.1 40 = .ok (.istore 5, 2) := by decide +kernel
theorem d_X5_fewest_42 : decode m_X5_fewest.2.1 42 = .ok (.iload 5, 2) := by decide +kernel
theorem d_X5_fewest_44 : decode m_X5_fewest.2.1 44 = .ok (.aload_n 0, 1) := by decide +kernel
theorem d_X5_fewest_45 : decode m_X5_fewest.2.1 45 = .ok (.getfield 12, 3) := by decide +kernel
theorem d_X5_fewest_48 : decode m_X5_fewest.2.1 48 = .ok (.invokevirtual 164, 3) := by decide +kernel
theorem d_X5_fewest_51 : decode m_X5_fewest.2.1 51 = .ok (.if_icmp .ge 58, 3) := by decide +kernel
theorem d_X5_fewest_54 : decode m_X5_fewest.2.1 54 = .ok (.iload 5, 2) := by decide +kernel
theorem d_X5_fewest_56 : decode m_X5_fewest.2.1 56 = .ok (.invokestatic 167, 3) := by decide +kernel
theorem d_X5_fewest_59 : decode m_X5_fewest.2.1 59 = .ok (.istore 6, 2) := by decide +kernel
theorem d_X5_fewest_61 : decode m_X5_fewest.2.1 61 = .ok (.iload_n 3, 1) := by decide +kernel
theorem d_X5_fewest_62 : decode m_X5_fewest.2.1 62 = .ok (.bipush (-9), 2) := by decide +kernel
theorem d_X5_fewest_64 : decode m_X5_fewest.2.1 64 = .ok (.if_icmp .eq 10, 3) := by decide +kernel
theorem d_X5_fewest_67 : decode m_X5_fewest.2.1 67 = .ok (.iload 6, 2) := by decide +kernel
theorem d_X5_fewest_69 : decode m_X5_fewest.2.1 69 = .ok (.iload 4, 2) := by decide +kernel
theorem d_X5_fewest_71 : decode m_X5_fewest.2.1 71 = .ok (.if_icmp .ge 32, 3) := by decide +kernel
theorem d_X5_fewest_74 : decode m_X5_fewest.2.1 74 = .ok (.aload_n 0, 1) := by decide +kernel
theorem d_X5_fewest_75 : decode m_X5_fewest.2.1 75 = .ok (.getfield 12, 3) := by decide +kernel
theorem d_X5_fewest_78 : decode m_X5_fewest.2.1 78 = .ok (.iload 5, 2) := by decide +kernel
theorem d_X5_fewest_80 : decode m_X5_fewest.2.1 80 = .ok (.invokevirtual 172, 3) := by decide +kernel
theorem d_X5_fewest_83 : decode m_X5_fewest.2.1 83 = .ok (.ifCond .eq 20, 3) := by decide +kernel
theorem d_X5_fewest_86 : decode m_X5_fewest.2.1 86 = .ok (.aload_n 0, 1) := by decide +kernel
theorem d_X5_fewest_87 : decode m_X5_fewest.2.1 87 = .ok (.iload 5, 2) := by decide +kernel
theorem d_X5_fewest_89 : decode m_X5_fewest.2.1 89 = .ok (.iload_n 1, 1) := by decide +kernel
theorem d_X5_fewest_90 : decode m_X5_fewest.2.1 90 = .ok (.invokevirtual 175, 3) := by decide +kernel
theorem d_X5_fewest_93 : decode m_X5_fewest.2.1 93 = .ok (.ifCond .eq 10, 3) := by decide +kernel
theorem d_X5_fewest_96 : decode m_X5_fewest.2.1 96 = .ok (.iload 5, 2) := by decide +kernel
theorem d_X5_fewest_98 : decode m_X5_fewest.2.1 98 = .ok (.istore_n 3, 1) := by decide +kernel
theorem d_X5_fewest_99 : decode m_X5_fewest.2.1 99 = .ok (.iload 6, 2) := by decide +kernel
theorem d_X5_fewest_101 : decode m_X5_fewest.2.1 101 = .ok (.istore 4, 2) := by decide +kernel
theorem d_X5_fewest_103 : decode m_X5_fewest.2.1 103 = .ok (.iinc 5 1, 3) := by decide +kernel
theorem d_X5_fewest_106 : decode m_X5_fewest.2.1 106 = .ok (.goto (-64), 3) := by decide +kernel
theorem d_X5_fewest_109 : decode m_X5_fewest.2.1 109 = .ok (.iload_n 2, 1) := by decide +kernel
theorem d_X5_fewest_110 : decode m_X5_fewest.2.1 110 = .ok (.ifCond .ne 8, 3) := by decide +kernel
theorem d_X5_fewest_113 : decode m_X5_fewest.2.1 113 = .ok (.iload 4, 2) := by decide +kernel
theorem d_X5_fewest_115 : decode m_X5_fewest.2.1 115 = .ok (.goto 4, 3) := by decide +kernel
theorem d_X5_fewest_118 : decode m_X5_fewest.2.1 118 = .ok (.iload_n 3, 1) := by decide +kernel
theorem d_X5_fewest_119 : decode m_X5_fewest.2.1 119 = .ok (.ireturn, 1) := by decide +kernel
theorem d_X5_claps_0 : decode m_X5_claps.2.1 0 = .ok (.iload_n 1, 1) := by decide +kernel
theorem d_X5_claps_1 : decode m_X5_claps.2.1 1 = .ok (.iconst 0, 1) := by decide +kernel
theorem d_X5_claps_2 : decode m_X5_claps.2.1 2 = .ok (.bipush 90, 2) := by decide +kernel
theorem d_X5_claps_4 : decode m_X5_claps.2.1 4 = .ok (.invokestatic 125, 3) := by decide +kernel
theorem d_X5_claps_7 : decode m_X5_claps.2.1 7 = .ok (.ifCond .eq 12, 3) := by decide +kernel
theorem d_X5_claps_10 : decode m_X5_claps.2.1 10 = .ok (.iload_n 2, 1) := by decide +kernel
theorem d_X5_claps_11 : decode m_X5_claps.2.1 11 = .ok (.iconst 0, 1) := by decide +kernel
theorem d_X5_claps_12 : decode m_X5_claps.2.1 12 = .ok (.iconst 1, 1) := by decide +kernel
theorem d_X5_claps_13 : decode m_X5_claps.2.1 13 = .ok (.invokestatic 125, 3) := by decide +kernel
theorem d_X5_claps_16 : decode m_X5_claps.2.1 16 = .ok (.ifCond .ne 6, 3) := by decide +kernel
theorem d_X5_claps_19 : decode m_X5_claps.2.1 19 = .ok (.bipush (-2), 2) := by decide +kernel
theorem d_X5_claps_21 : decode m_X5_claps.2.1 21 = .ok (.ireturn, 1) := by decide +kernel
theorem d_X5_claps_22 : decode m_X5_claps.2.1 22 = .ok (.aload_n 0, 1) := by decide +kernel
theorem d_X5_claps_23 : decode m_X5_claps.2.1 23 = .ok (.invokevirtual 135, 3) := by decide +kernel
theorem d_X5_claps_26 : decode m_X5_claps.2.1 26 = .ok (.ifCond .ne 6, 3) := by decide +kernel
theorem d_X5_claps_29 : decode m_X5_claps.2.1 29 = .ok (.bipush (-3), 2) := by decide +kernel
theorem d_X5_claps_31 : decode m_X5_claps.2.1 31 = .ok (.ireturn, 1) := by decide +kernel
theorem d_X5_claps_32 : decode m_X5_claps.2.1 32 = .ok (.bipush (-9), 2) := by decide +kernel
theorem d_X5_claps_34 : decode m_X5_claps.2.1 34 = .ok (.istore_n 3, 1) := by decide +kernel
theorem d_X5_claps_35 : decode m_X5_claps.2.1 35 = .ok (.iconst 0, 1) := by decide +kernel
theorem d_X5_claps_36 : decode m_X5_claps.2.1 36 = .ok (.istore 4, 2) := by decide +kernel
theorem d_X5_claps_38 : decode m_X5_claps.2.1 38 = .ok (.iconst 0, 1) := by decide +kernel
theorem d_X5_claps_39 : decode m_X5_claps.2.1 39 = .ok (.istore 5, 2) := by decide +kernel
theorem d_X5_claps_41 : decode m_X5_claps.2.1 41 = .ok (.iload 5, 2) := by decide +kernel
theorem d_X5_claps_43 : decode m_X5_claps.2.1 43 = .ok (.aload_n 0, 1) := by decide +kernel
theorem d_X5_claps_44 : decode m_X5_claps.2.1 44 = .ok (.getfield 12, 3) := by decide +kernel
theorem d_X5_claps_47 : decode m_X5_claps.2.1 47 = .ok (.invokevirtual 164, 3) := by decide +kernel
theorem d_X5_claps_50 : decode m_X5_claps.2.1 50 = .ok (.if_icmp .ge 50, 3) := by decide +kernel
theorem d_X5_claps_53 : decode m_X5_claps.2.1 53 = .ok (.aload_n 0, 1) := by decide +kernel
theorem d_X5_claps_54 : decode m_X5_claps.2.1 54 = .ok (.getfield 12, 3) := by decide +kernel
theorem d_X5_claps_57 : decode m_X5_claps.2.1 57 = .ok (.iload 5, 2) := by decide +kernel
theorem d_X5_claps_59 : decode m_X5_claps.2.1 59 = .ok (.invokevirtual 172, 3) := by decide +kernel
theorem d_X5_claps_62 : decode m_X5_claps.2.1 62 = .ok (.ifCond .eq 32, 3) := by decide +kernel
theorem d_X5_claps_65 : decode m_X5_claps.2.1 65 = .ok (.aload_n 0, 1) := by decide +kernel
theorem d_X5_claps_66 : decode m_X5_claps.2.1 66 = .ok (.getfield 12, 3) := by decide +kernel
theorem d_X5_claps_69 : decode m_X5_claps.2.1 69 = .ok (.iload 5, 2) := by decide +kernel
theorem d_X5_claps_71 : decode m_X5_claps.2.1 71 = .ok (.invokevirtual 179, 3) := by decide +kernel
theorem d_X5_claps_74 : decode m_X5_claps.2.1 74 = .ok (.iload_n 1, 1) := by decide +kernel
theorem d_X5_claps_75 : decode m_X5_claps.2.1 75 = .ok (.if_icmp .ne 19, 3) := by decide +kernel
theorem d_X5_claps_78 : decode m_X5_claps.2.1 78 = .ok (.iinc 4 1, 3) := by decide +kernel
theorem d_X5_claps_81 : decode m_X5_claps.2.1 81 = .ok (.iload_n 3, 1) := by decide +kernel
theorem d_X5_claps_82 : decode m_X5_claps.2.1 82 = .ok (.bipush (-9), 2) := by decide +kernel
theorem d_X5_claps_84 : decode m_X5_claps.2.1 84 = .ok (.if_icmp .ne 8, 3) := by decide +kernel
theorem d_X5_claps_87 : decode m_X5_claps.2.1 87 = .ok (.iload 5, 2) := by decide +kernel
theorem d_X5_claps_89 : decode m_X5_claps.2.1 89 = .ok (.goto 4, 3) := by decide +kernel
theorem d_X5_claps_92 : decode m_X5_claps.2.1 92 = .ok (.iload_n 3, 1) := by decide +kernel
theorem d_X5_claps_93 : decode m_X5_claps.2.1 93 = .ok (.istore_n 3, 1) := by decide +kernel
theorem d_X5_claps_94 : decode m_X5_claps.2.1 94 = .ok (.iinc 5 1, 3) := by decide +kernel
theorem d_X5_claps_97 : decode m_X5_claps.2.1 97 = .ok (.goto (-56), 3) := by decide +kernel
theorem d_X5_claps_100 : decode m_X5_claps.2.1 100 = .ok (.iload_n 2, 1) := by decide +kernel
theorem d_X5_claps_101 : decode m_X5_claps.2.1 101 = .ok (.ifCond .ne 8, 3) := by decide +kernel
theorem d_X5_claps_104 : decode m_X5_claps.2.1 104 = .ok (.iload 4, 2) := by decide +kernel
theorem d_X5_claps_106 : decode m_X5_claps.2.1 106 = .ok (.goto 4, 3) := by decide +kernel
theorem d_X5_claps_109 : decode m_X5_claps.2.1 109 = .ok (.iload_n 3, 1) := by decide +kernel
theorem d_X5_claps_110 : decode m_X5_claps.2.1 110 = .ok (.ireturn, 1) := by decide +kernel
theorem d_X5_rests_0 : decode m_X5_rests.2.1 0 = .ok (.aload_n 0, 1) := by decide +kernel
theorem d_X5_rests_1 : decode m_X5_rests.2.1 1 = .ok (.getfield 12, 3) := by decide +kernel
theorem d_X5_rests_4 : decode m_X5_rests.2.1 4 = .ok (.iload_n 1, 1) := by decide +kernel
theorem d_X5_rests_5 : decode m_X5_rests.2.1 5 = .ok (.invokevirtual 77, 3) := by decide +kernel
theorem d_X5_rests_8 : decode m_X5_rests.2.1 8 = .ok (.ifCond .eq 19, 3) := by decide +kernel
theorem d_X5_rests_11 : decode m_X5_rests.2.1 11 = .ok (.aload_n 0, 1) := by decide +kernel
theorem d_X5_rests_12 : decode m_X5_rests.2.1 12 = .ok (.getfield 12, 3) := by decide +kernel
theorem d_X5_rests_15 : decode m_X5_rests.2.1 15 = .ok (.iload_n 2, 1) := by decide +kernel
theorem d_X5_rests_16 : decode m_X5_rests.2.1 16 = .ok (.invokevirtual 77, 3) := by decide +kernel
theorem d_X5_rests_19 : decode m_X5_rests.2.1 19 = .ok (.ifCond .eq 8, 3) := by decide +kernel
theorem d_X5_rests_22 : decode m_X5_rests.2.1 22 = .ok (.iload_n 1, 1) := by decide +kernel
theorem d_X5_rests_23 : decode m_X5_rests.2.1 23 = .ok (.iload_n 2, 1) := by decide +kernel
theorem d_X5_rests_24 : decode m_X5_rests.2.1 24 = .ok (.if_icmp .ne 5, 3) := by decide +kernel
theorem d_X5_rests_27 : decode m_X5_rests.2.1 27 = .ok (.iconst (-1), 1) := by decide +kernel
theorem d_X5_rests_28 : decode m_X5_rests.2.1 28 = .ok (.ireturn, 1) := by decide +kernel
theorem d_X5_rests_29 : decode m_X5_rests.2.1 29 = .ok (.iconst 0, 1) := by decide +kernel
theorem d_X5_rests_30 : decode m_X5_rests.2.1 30 = .ok (.istore_n 3, 1) := by decide +kernel
theorem d_X5_rests_31 : decode m_X5_rests.2.1 31 = .ok (.iload_n 3, 1) := by decide +kernel
theorem d_X5_rests_32 : decode m_X5_rests.2.1 32 = .ok (.iconst 4, 1) := by decide +kernel
theorem d_X5_rests_33 : decode m_X5_rests.2.1 33 = .ok (.if_icmp .ge 22, 3) := by decide +kernel
theorem d_X5_rests_36 : decode m_X5_rests.2.1 36 = .ok (.aload_n 0, 1) := by decide +kernel
theorem d_X5_rests_37 : decode m_X5_rests.2.1 37 = .ok (.getfield 34, 3) := by decide +kernel
theorem d_X5_rests_40 : decode m_X5_rests.2.1 40 = .ok (.iload_n 3, 1) := by decide +kernel
theorem d_X5_rests_41 : decode m_X5_rests.2.1 41 = .ok (.aload_n 0, 1) := by decide +kernel
theorem d_X5_rests_42 : decode m_X5_rests.2.1 42 = .ok (.iload_n 1, 1) := by decide +kernel
theorem d_X5_rests_43 : decode m_X5_rests.2.1 43 = .ok (.iload_n 2, 1) := by decide +kernel
theorem d_X5_rests_44 : decode m_X5_rests.2.1 44 = .ok (.iload_n 3, 1) := by decide +kernel
theorem d_X5_rests_45 : decode m_X5_rests.2.1 45 = .ok (.invokevirtual 182, 3) := by decide +kernel
theorem d_X5_rests_48 : decode m_X5_rests.2.1 48 = .ok (.iastore, 1) := by decide +kernel
theorem d_X5_rests_49 : decode m_X5_rests.2.1 49 = .ok (.iinc 3 1, 3) := by decide +kernel
theorem d_X5_rests_52 : decode m_X5_rests.2.1 52 = .ok (.goto (-21), 3) := by decide +kernel
theorem d_X5_rests_55 : decode m_X5_rests.2.1 55 = .ok (.iconst 0, 1) := by decide +kernel
theorem d_X5_rests_56 : decode m_X5_rests.2.1 56 = .ok (.istore_n 3, 1) := by decide +kernel
theorem d_X5_rests_57 : decode m_X5_rests.2.1 57 = .ok (.iconst 0, 1) := by decide +kernel
theorem d_X5_rests_58 : decode m_X5_rests.2.1 58 = .ok (.istore 4, 2) := by decide +kernel
theorem d_X5_rests_60 : decode m_X5_rests.2.1 60 = .ok (.iload 4, 2) := by decide +kernel
theorem d_X5_rests_62 : decode m_X5_rests.2.1 62 = .ok (.iconst 4, 1) := by decide +kernel
theorem d_X5_rests_63 : decode m_X5_rests.2.1 63 = .ok (.if_icmp .ge 38, 3) := by decide +kernel
theorem d_X5_rests_66 : decode m_X5_rests.2.1 66 = .ok (.aload_n 0, 1) := by decide +kernel
theorem d_X5_rests_67 : decode m_X5_rests.2.1 67 = .ok (.iload_n 1, 1) := by decide +kernel
theorem d_X5_rests_68 : decode m_X5_rests.2.1 68 = .ok (.iconst 1, 1) := by decide +kernel
theorem d_X5_rests_69 : decode m_X5_rests.2.1 69 = .ok (.iload 4, 2) := by decide +kernel
theorem d_X5_rests_71 : decode m_X5_rests.2.1 71 = .ok (.invokevirtual 186, 3) := by decide +kernel
theorem d_X5_rests_74 : decode m_X5_rests.2.1 74 = .ok (.ifCond .eq 21, 3) := by decide +kernel
theorem d_X5_rests_77 : decode m_X5_rests.2.1 77 = .ok (.aload_n 0, 1) := by decide +kernel
theorem d_X5_rests_78 : decode m_X5_rests.2.1 78 = .ok (.iload_n 2, 1) := by decide +kernel
theorem d_X5_rests_79 : decode m_X5_rests.2.1 79 = .ok (.iconst 2, 1) := by decide +kernel
theorem d_X5_rests_80 : decode m_X5_rests.2.1 80 = .ok (.iload 4, 2) := by decide +kernel
theorem d_X5_rests_82 : decode m_X5_rests.2.1 82 = .ok (.invokevirtual 186, 3) := by decide +kernel
theorem d_X5_rests_85 : decode m_X5_rests.2.1 85 = .ok (.ifCond .eq 10, 3) := by decide +kernel
theorem d_X5_rests_88 : decode m_X5_rests.2.1 88 = .ok (.iload_n 3, 1) := by decide +kernel
theorem d_X5_rests_89 : decode m_X5_rests.2.1 89 = .ok (.iconst 1, 1) := by decide +kernel
theorem d_X5_rests_90 : decode m_X5_rests.2.1 90 = .ok (.iload 4, 2) := by decide +kernel
theorem d_X5_rests_92 : decode m_X5_rests.2.1 92 = .ok (.ishl, 1) := by decide +kernel
theorem d_X5_rests_93 : decode m_X5_rests.2.1 93 = .ok (.ior, 1) := by decide +kernel
theorem d_X5_rests_94 : decode m_X5_rests.2.1 94 = .ok (.istore_n 3, 1) := by decide +kernel
theorem d_X5_rests_95 : decode m_X5_rests.2.1 95 = .ok (.iinc 4 1, 3) := by decide +kernel
theorem d_X5_rests_98 : decode m_X5_rests.2.1 98 = .ok (.goto (-38), 3) := by decide +kernel
theorem d_X5_rests_101 : decode m_X5_rests.2.1 101 = .ok (.iload_n 3, 1) := by decide +kernel
theorem d_X5_rests_102 : decode m_X5_rests.2.1 102 = .ok (.ireturn, 1) := by decide +kernel
theorem d_X5_reading_0 : decode m_X5_reading.2.1 0 = .ok (.aload_n 0, 1) := by decide +kernel
theorem d_X5_reading_1 : decode m_X5_reading.2.1 1 = .ok (.invokevirtual 135, 3) := by decide +kernel
theorem d_X5_reading_4 : decode m_X5_reading.2.1 4 = .ok (.ifCond .ne 6, 3) := by decide +kernel
theorem d_X5_reading_7 : decode m_X5_reading.2.1 7 = .ok (.bipush (-3), 2) := by decide +kernel
theorem d_X5_reading_9 : decode m_X5_reading.2.1 9 = .ok (.ireturn, 1) := by decide +kernel
theorem d_X5_reading_10 : decode m_X5_reading.2.1 10 = .ok (.iload_n 1, 1) := by decide +kernel
theorem d_X5_reading_11 : decode m_X5_reading.2.1 11 = .ok (.iconst 0, 1) := by decide +kernel
theorem d_X5_reading_12 : decode m_X5_reading.2.1 12 = .ok (.bipush 60, 2) := by decide +kernel
theorem d_X5_reading_14 : decode m_X5_reading.2.1 14 = .ok (.invokestatic 125, 3) := by decide +kernel
theorem d_X5_reading_17 : decode m_X5_reading.2.1 17 = .ok (.ifCond .eq 14, 3) := by decide +kernel
theorem d_X5_reading_20 : decode m_X5_reading.2.1 20 = .ok (.iload_n 2, 1) := by decide +kernel
theorem d_X5_reading_21 : decode m_X5_reading.2.1 21 = .ok (.iconst 0, 1) := by decide +kernel
theorem d_X5_reading_22 : decode m_X5_reading.2.1 22 = .ok (.sipush 200, 3) := by decide +kernel
theorem d_X5_reading_25 : decode m_X5_reading.2.1 25 = .ok (.invokestatic 125, 3) := by decide +kernel
theorem d_X5_reading_28 : decode m_X5_reading.2.1 28 = .ok (.ifCond .ne 6, 3) := by decide +kernel
theorem d_X5_reading_31 : decode m_X5_reading.2.1 31 = .ok (.bipush (-2), 2) := by decide +kernel
theorem d_X5_reading_33 : decode m_X5_reading.2.1 33 = .ok (.ireturn, 1) := by decide +kernel
theorem d_X5_reading_34 : decode m_X5_reading.2.1 34 = .ok (.aload_n 0, 1) := by decide +kernel
theorem d_X5_reading_35 : decode m_X5_reading.2.1 35 = .ok (.getfield 37, 3) := by decide +kernel
theorem d_X5_reading_38 : decode m_X5_reading.2.1 38 = .ok (.bipush 8, 2) := by decide +kernel
theorem d_X5_reading_40 : decode m_X5_reading.2.1 40 = .ok (.if_icmp .lt 6, 3) := by decide +kernel
theorem d_X5_reading_43 : decode m_X5_reading.2.1 43 = .ok (.bipush (-4), 2) := by decide +kernel
theorem d_X5_reading_45 : decode m_X5_reading.2.1 45 = .ok (.ireturn, 1) := by decide +kernel
theorem d_X5_reading_46 : decode m_X5_reading.2.1 46 = .ok (.aload_n 0, 1) := by decide +kernel
theorem d_X5_reading_47 : decode m_X5_reading.2.1 47 = .ok (.getfield 27, 3) := by decide +kernel
theorem d_X5_reading_50 : decode m_X5_reading.2.1 50 = .ok (.aload_n 0, 1) := by decide +kernel
theorem d_X5_reading_51 : decode m_X5_reading.2.1 51 = .ok (.getfield 37, 3) := by decide +kernel
theorem d_X5_reading_54 : decode m_X5_reading.2.1 54 = .ok (.iload_n 1, 1) := by decide +kernel
theorem d_X5_reading_55 : decode m_X5_reading.2.1 55 = .ok (.bipush 18, 2) := by decide +kernel
theorem d_X5_reading_57 : decode m_X5_reading.2.1 57 = .ok (.invokestatic 189, 3) := by decide +kernel
theorem d_X5_reading_60 : decode m_X5_reading.2.1 60 = .ok (.iastore, 1) := by decide +kernel
theorem d_X5_reading_61 : decode m_X5_reading.2.1 61 = .ok (.aload_n 0, 1) := by decide +kernel
theorem d_X5_reading_62 : decode m_X5_reading.2.1 62 = .ok (.getfield 31, 3) := by decide +kernel
theorem d_X5_reading_65 : decode m_X5_reading.2.1 65 = .ok (.aload_n 0, 1) := by decide +kernel
theorem d_X5_reading_66 : decode m_X5_reading.2.1 66 = .ok (.getfield 37, 3) := by decide +kernel
theorem d_X5_reading_69 : decode m_X5_reading.2.1 69 = .ok (.iload_n 2, 1) := by decide +kernel
theorem d_X5_reading_70 : decode m_X5_reading.2.1 70 = .ok (.iastore, 1) := by decide +kernel
theorem d_X5_reading_71 : decode m_X5_reading.2.1 71 = .ok (.aload_n 0, 1) := by decide +kernel
theorem d_X5_reading_72 : decode m_X5_reading.2.1 72 = .ok (.dup, 1) := by decide +kernel
theorem d_X5_reading_73 : decode m_X5_reading.2.1 73 = .ok (.getfield 37, 3) := by decide +kernel
theorem d_X5_reading_76 : decode m_X5_reading.2.1 76 = .ok (.iconst 1, 1) := by decide +kernel
theorem d_X5_reading_77 : decode m_X5_reading.2.1 77 = .ok (.iadd, 1) := by decide +kernel
theorem d_X5_reading_78 : decode m_X5_reading.2.1 78 = .ok (.putfield 37, 3) := by decide +kernel
theorem d_X5_reading_81 : decode m_X5_reading.2.1 81 = .ok (.aload_n 0, 1) := by decide +kernel
theorem d_X5_reading_82 : decode m_X5_reading.2.1 82 = .ok (.getfield 37, 3) := by decide +kernel
theorem d_X5_reading_85 : decode m_X5_reading.2.1 85 = .ok (.iconst 1, 1) := by decide +kernel
theorem d_X5_reading_86 : decode m_X5_reading.2.1 86 = .ok (.isub, 1) := by decide +kernel
theorem d_X5_reading_87 : decode m_X5_reading.2.1 87 = .ok (.ireturn, 1) := by decide +kernel
theorem d_X5_back_0 : decode m_X5_back.2.1 0 = .ok (.iload_n 1, 1) := by decide +kernel
theorem d_X5_back_1 : decode m_X5_back.2.1 1 = .ok (.iconst 0, 1) := by decide +kernel
theorem d_X5_back_2 : decode m_X5_back.2.1 2 = .ok (.aload_n 0, 1) := by decide +kernel
theorem d_X5_back_3 : decode m_X5_back.2.1 3 = .ok (.getfield 37, 3) := by decide +kernel
theorem d_X5_back_6 : decode m_X5_back.2.1 6 = .ok (.invokestatic 125, 3) := by decide +kernel
theorem d_X5_back_9 : decode m_X5_back.2.1 9 = .ok (.ifCond .ne 6, 3) := by decide +kernel
theorem d_X5_back_12 : decode m_X5_back.2.1 12 = .ok (.bipush (-2), 2) := by decide +kernel
theorem d_X5_back_14 : decode m_X5_back.2.1 14 = .ok (.ireturn, 1) := by decide +kernel
theorem d_X5_back_15 : decode m_X5_back.2.1 15 = .ok (.aload_n 0, 1) := by decide +kernel
theorem d_X5_back_16 : decode m_X5_back.2.1 16 = .ok (.dup, 1) := by decide +kernel
theorem d_X5_back_17 : decode m_X5_back.2.1 17 = .ok (.getfield 37, 3) := by decide +kernel
theorem d_X5_back_20 : decode m_X5_back.2.1 20 = .ok (.iload_n 1, 1) := by decide +kernel
theorem d_X5_back_21 : decode m_X5_back.2.1 21 = .ok (.isub, 1) := by decide +kernel
theorem d_X5_back_22 : decode m_X5_back.2.1 22 = .ok (.putfield 37, 3) := by decide +kernel
theorem d_X5_back_25 : decode m_X5_back.2.1 25 = .ok (.aload_n 0, 1) := by decide +kernel
theorem d_X5_back_26 : decode m_X5_back.2.1 26 = .ok (.getfield 37, 3) := by decide +kernel
theorem d_X5_back_29 : decode m_X5_back.2.1 29 = .ok (.ireturn, 1) := by decide +kernel
theorem d_X5_kinds_0 : decode m_X5_kinds.2.1 0 = .ok (.aload_n 0, 1) := by decide +kernel
theorem d_X5_kinds_1 : decode m_X5_kinds.2.1 1 = .ok (.getfield 12, 3) := by decide +kernel
theorem d_X5_kinds_4 : decode m_X5_kinds.2.1 4 = .ok (.iload_n 1, 1) := by decide +kernel
theorem d_X5_kinds_5 : decode m_X5_kinds.2.1 5 = .ok (.invokevirtual 77, 3) := by decide +kernel
theorem d_X5_kinds_8 : decode m_X5_kinds.2.1 8 = .ok (.ifCond .ne 5, 3) := by decide +kernel
theorem d_X5_kinds_11 : decode m_X5_kinds.2.1 11 = .ok (.iconst (-1), 1) := by decide +kernel
theorem d_X5_kinds_12 : decode m_X5_kinds.2.1 12 = .ok (.ireturn, 1) := by decide +kernel
theorem d_X5_kinds_13 : decode m_X5_kinds.2.1 13 = .ok (.iconst 0, 1) := by decide +kernel
theorem d_X5_kinds_14 : decode m_X5_kinds.2.1 14 = .ok (.istore_n 2, 1) := by decide +kernel
theorem d_X5_kinds_15 : decode m_X5_kinds.2.1 15 = .ok (.iconst 0, 1) := by decide +kernel
theorem d_X5_kinds_16 : decode m_X5_kinds.2.1 16 = .ok (.istore_n 3, 1) := by decide +kernel
theorem d_X5_kinds_17 : decode m_X5_kinds.2.1 17 = .ok (.iload_n 3, 1) := by decide +kernel
theorem d_X5_kinds_18 : decode m_X5_kinds.2.1 18 = .ok (.iconst 2, 1) := by decide +kernel
theorem d_X5_kinds_19 : decode m_X5_kinds.2.1 19 = .ok (.if_icmp .gt 46, 3) := by decide +kernel
theorem d_X5_kinds_22 : decode m_X5_kinds.2.1 22 = .ok (.aload_n 0, 1) := by decide +kernel
theorem d_X5_kinds_23 : decode m_X5_kinds.2.1 23 = .ok (.getfield 18, 3) := by decide +kernel
theorem d_X5_kinds_26 : decode m_X5_kinds.2.1 26 = .ok (.aload_n 0, 1) := by decide +kernel
theorem d_X5_kinds_27 : decode m_X5_kinds.2.1 27 = .ok (.getfield 12, 3) := by decide +kernel
theorem d_X5_kinds_30 : decode m_X5_kinds.2.1 30 = .ok (.invokevirtual 70, 3) := by decide +kernel
theorem d_X5_kinds_33 : decode m_X5_kinds.2.1 33 = .ok (.aload_n 0, 1) := by decide +kernel
theorem d_X5_kinds_34 : decode m_X5_kinds.2.1 34 = .ok (.getfield 18, 3) := by decide +kernel
theorem d_X5_kinds_37 : decode m_X5_kinds.2.1 37 = .ok (.getfield 80, 3) := by decide +kernel
theorem d_X5_kinds_40 : decode m_X5_kinds.2.1 40 = .ok (.iload_n 1, 1) := by decide +kernel
theorem d_X5_kinds_41 : decode m_X5_kinds.2.1 41 = .ok (.aaload, 1) := by decide +kernel
theorem d_X5_kinds_42 : decode m_X5_kinds.2.1 42 = .ok (.iload_n 3, 1) := by decide +kernel
theorem d_X5_kinds_43 : decode m_X5_kinds.2.1 43 = .ok (.putfield 84, 3) := by decide +kernel
theorem d_X5_kinds_46 : decode m_X5_kinds.2.1 46 = .ok (.aload_n 0, 1) := by decide +kernel
theorem d_X5_kinds_47 : decode m_X5_kinds.2.1 47 = .ok (.invokevirtual 195, 3) := by decide +kernel
theorem d_X5_kinds_50 : decode m_X5_kinds.2.1 50 = .ok (.ifCond .eq 9, 3) := by decide +kernel
theorem d_X5_kinds_53 : decode m_X5_kinds.2.1 53 = .ok (.iload_n 2, 1) := by decide +kernel
theorem d_X5_kinds_54 : decode m_X5_kinds.2.1 54 = .ok (.iconst 1, 1) := by decide +kernel
theorem d_X5_kinds_55 : decode m_X5_kinds.2.1 55 = .ok (.iload_n 3, 1) := by decide +kernel
theorem d_X5_kinds_56 : decode m_X5_kinds.2.1 56 = .ok (.ishl, 1) := by decide +kernel
theorem d_X5_kinds_57 : decode m_X5_kinds.2.1 57 = .ok (.ior, 1) := by decide +kernel
theorem d_X5_kinds_58 : decode m_X5_kinds.2.1 58 = .ok (.istore_n 2, 1) := by decide +kernel
theorem d_X5_kinds_59 : decode m_X5_kinds.2.1 59 = .ok (.iinc 3 1, 3) := by decide +kernel
theorem d_X5_kinds_62 : decode m_X5_kinds.2.1 62 = .ok (.goto (-45), 3) := by decide +kernel
theorem d_X5_kinds_65 : decode m_X5_kinds.2.1 65 = .ok (.iload_n 2, 1) := by decide +kernel
theorem d_X5_kinds_66 : decode m_X5_kinds.2.1 66 = .ok (.ireturn, 1) := by decide +kernel
theorem d_X5_wrongs_0 : decode m_X5_wrongs.2.1 0 = .ok (.aload_n 0, 1) := by decide +kernel
theorem d_X5_wrongs_1 : decode m_X5_wrongs.2.1 1 = .ok (.getfield 12, 3) := by decide +kernel
theorem d_X5_wrongs_4 : decode m_X5_wrongs.2.1 4 = .ok (.iload_n 1, 1) := by decide +kernel
theorem d_X5_wrongs_5 : decode m_X5_wrongs.2.1 5 = .ok (.invokevirtual 77, 3) := by decide +kernel
theorem d_X5_wrongs_8 : decode m_X5_wrongs.2.1 8 = .ok (.ifCond .ne 5, 3) := by decide +kernel
theorem d_X5_wrongs_11 : decode m_X5_wrongs.2.1 11 = .ok (.iconst (-1), 1) := by decide +kernel
theorem d_X5_wrongs_12 : decode m_X5_wrongs.2.1 12 = .ok (.ireturn, 1) := by decide +kernel
theorem d_X5_wrongs_13 : decode m_X5_wrongs.2.1 13 = .ok (.iconst 0, 1) := by decide +kernel
theorem d_X5_wrongs_14 : decode m_X5_wrongs.2.1 14 = .ok (.istore_n 2, 1) := by decide +kernel
theorem d_X5_wrongs_15 : decode m_X5_wrongs.2.1 15 = .ok (.iconst 0, 1) := by decide +kernel
theorem d_X5_wrongs_16 : decode m_X5_wrongs.2.1 16 = .ok (.istore_n 3, 1) := by decide +kernel
theorem d_X5_wrongs_17 : decode m_X5_wrongs.2.1 17 = .ok (.iload_n 3, 1) := by decide +kernel
theorem d_X5_wrongs_18 : decode m_X5_wrongs.2.1 18 = .ok (.bipush 9, 2) := by decide +kernel
theorem d_X5_wrongs_20 : decode m_X5_wrongs.2.1 20 = .ok (.if_icmp .gt 46, 3) := by decide +kernel
theorem d_X5_wrongs_23 : decode m_X5_wrongs.2.1 23 = .ok (.aload_n 0, 1) := by decide +kernel
theorem d_X5_wrongs_24 : decode m_X5_wrongs.2.1 24 = .ok (.getfield 18, 3) := by decide +kernel
theorem d_X5_wrongs_27 : decode m_X5_wrongs.2.1 27 = .ok (.aload_n 0, 1) := by decide +kernel
theorem d_X5_wrongs_28 : decode m_X5_wrongs.2.1 28 = .ok (.getfield 12, 3) := by decide +kernel
theorem d_X5_wrongs_31 : decode m_X5_wrongs.2.1 31 = .ok (.invokevirtual 70, 3) := by decide +kernel
theorem d_X5_wrongs_34 : decode m_X5_wrongs.2.1 34 = .ok (.aload_n 0, 1) := by decide +kernel
theorem d_X5_wrongs_35 : decode m_X5_wrongs.2.1 35 = .ok (.getfield 18, 3) := by decide +kernel
theorem d_X5_wrongs_38 : decode m_X5_wrongs.2.1 38 = .ok (.getfield 80, 3) := by decide +kernel
theorem d_X5_wrongs_41 : decode m_X5_wrongs.2.1 41 = .ok (.iload_n 1, 1) := by decide +kernel
theorem d_X5_wrongs_42 : decode m_X5_wrongs.2.1 42 = .ok (.aaload, 1) := by decide +kernel
theorem d_X5_wrongs_43 : decode m_X5_wrongs.2.1 43 = .ok (.iload_n 3, 1) := by decide +kernel
theorem d_X5_wrongs_44 : decode m_X5_wrongs.2.1 44 = .ok (.putfield 89, 3) := by decide +kernel
theorem d_X5_wrongs_47 : decode m_X5_wrongs.2.1 47 = .ok (.aload_n 0, 1) := by decide +kernel
theorem d_X5_wrongs_48 : decode m_X5_wrongs.2.1 48 = .ok (.invokevirtual 195, 3) := by decide +kernel
theorem d_X5_wrongs_51 : decode m_X5_wrongs.2.1 51 = .ok (.ifCond .eq 9, 3) := by decide +kernel
theorem d_X5_wrongs_54 : decode m_X5_wrongs.2.1 54 = .ok (.iload_n 2, 1) := by decide +kernel
theorem d_X5_wrongs_55 : decode m_X5_wrongs.2.1 55 = .ok (.iconst 1, 1) := by decide +kernel
theorem d_X5_wrongs_56 : decode m_X5_wrongs.2.1 56 = .ok (.iload_n 3, 1) := by decide +kernel
theorem d_X5_wrongs_57 : decode m_X5_wrongs.2.1 57 = .ok (.ishl, 1) := by decide +kernel
theorem d_X5_wrongs_58 : decode m_X5_wrongs.2.1 58 = .ok (.ior, 1) := by decide +kernel
theorem d_X5_wrongs_59 : decode m_X5_wrongs.2.1 59 = .ok (.istore_n 2, 1) := by decide +kernel
theorem d_X5_wrongs_60 : decode m_X5_wrongs.2.1 60 = .ok (.iinc 3 1, 3) := by decide +kernel
theorem d_X5_wrongs_63 : decode m_X5_wrongs.2.1 63 = .ok (.goto (-46), 3) := by decide +kernel
theorem d_X5_wrongs_66 : decode m_X5_wrongs.2.1 66 = .ok (.iload_n 2, 1) := by decide +kernel
theorem d_X5_wrongs_67 : decode m_X5_wrongs.2.1 67 = .ok (.ireturn, 1) := by decide +kernel
theorem d_X5_steps_0 : decode m_X5_steps.2.1 0 = .ok (.aload_n 0, 1) := by decide +kernel
theorem d_X5_steps_1 : decode m_X5_steps.2.1 1 = .ok (.invokevirtual 135, 3) := by decide +kernel
theorem d_X5_steps_4 : decode m_X5_steps.2.1 4 = .ok (.ifCond .ne 6, 3) := by decide +kernel
theorem d_X5_steps_7 : decode m_X5_steps.2.1 7 = .ok (.bipush (-3), 2) := by decide +kernel
theorem d_X5_steps_9 : decode m_X5_steps.2.1 9 = .ok (.ireturn, 1) := by decide +kernel
theorem d_X5_steps_10 : decode m_X5_steps.2.1 10 = .ok (.iconst 0, 1) := by decide +kernel
theorem d_X5_steps_11 : decode m_X5_steps.2.1 11 = .ok (.istore_n 1, 1) := by decide +kernel
theorem d_X5_steps_12 : decode m_X5_steps.2.1 12 = .ok (.iconst 1, 1) := by decide +kernel
theorem d_X5_steps_13 : decode m_X5_steps.2.1 13 = .ok (.istore_n 2, 1) := by decide +kernel
theorem d_X5_steps_14 : decode m_X5_steps.2.1 14 = .ok (.iload_n 2, 1) := by decide +kernel
theorem d_X5_steps_15 : decode m_X5_steps.2.1 15 = .ok (.iconst 4, 1) := by decide +kernel
theorem d_X5_steps_16 : decode m_X5_steps.2.1 16 = .ok (.if_icmp .gt 41, 3) := by decide +kernel
theorem d_X5_steps_19 : decode m_X5_steps.2.1 19 = .ok (.aload_n 0, 1) := by decide +kernel
theorem d_X5_steps_20 : decode m_X5_steps.2.1 20 = .ok (.getfield 18, 3) := by decide +kernel
theorem d_X5_steps_23 : decode m_X5_steps.2.1 23 = .ok (.aload_n 0, 1) := by decide +kernel
theorem d_X5_steps_24 : decode m_X5_steps.2.1 24 = .ok (.getfield 12, 3) := by decide +kernel
theorem d_X5_steps_27 : decode m_X5_steps.2.1 27 = .ok (.invokevirtual 70, 3) := by decide +kernel
theorem d_X5_steps_30 : decode m_X5_steps.2.1 30 = .ok (.aload_n 0, 1) := by decide +kernel
theorem d_X5_steps_31 : decode m_X5_steps.2.1 31 = .ok (.getfield 18, 3) := by decide +kernel
theorem d_X5_steps_34 : decode m_X5_steps.2.1 34 = .ok (.iload_n 2, 1) := by decide +kernel
theorem d_X5_steps_35 : decode m_X5_steps.2.1 35 = .ok (.putfield 198, 3) := by decide +kernel
theorem d_X5_steps_38 : decode m_X5_steps.2.1 38 = .ok (.aload_n 0, 1) := by decide +kernel
theorem d_X5_steps_39 : decode m_X5_steps.2.1 39 = .ok (.invokevirtual 195, 3) := by decide +kernel
theorem d_X5_steps_42 : decode m_X5_steps.2.1 42 = .ok (.ifCond .eq 9, 3) := by decide +kernel
theorem d_X5_steps_45 : decode m_X5_steps.2.1 45 = .ok (.iload_n 1, 1) := by decide +kernel
theorem d_X5_steps_46 : decode m_X5_steps.2.1 46 = .ok (.iconst 1, 1) := by decide +kernel
theorem d_X5_steps_47 : decode m_X5_steps.2.1 47 = .ok (.iload_n 2, 1) := by decide +kernel
theorem d_X5_steps_48 : decode m_X5_steps.2.1 48 = .ok (.ishl, 1) := by decide +kernel
theorem d_X5_steps_49 : decode m_X5_steps.2.1 49 = .ok (.ior, 1) := by decide +kernel
theorem d_X5_steps_50 : decode m_X5_steps.2.1 50 = .ok (.istore_n 1, 1) := by decide +kernel
theorem d_X5_steps_51 : decode m_X5_steps.2.1 51 = .ok (.iinc 2 1, 3) := by decide +kernel
theorem d_X5_steps_54 : decode m_X5_steps.2.1 54 = .ok (.goto (-40), 3) := by decide +kernel
theorem d_X5_steps_57 : decode m_X5_steps.2.1 57 = .ok (.iload_n 1, 1) := by decide +kernel
theorem d_X5_steps_58 : decode m_X5_steps.2.1 58 = .ok (.ireturn, 1) := by decide +kernel
theorem d_X5_odds_0 : decode m_X5_odds.2.1 0 = .ok (.iload_n 1, 1) := by decide +kernel
theorem d_X5_odds_1 : decode m_X5_odds.2.1 1 = .ok (.iconst 0, 1) := by decide +kernel
theorem d_X5_odds_2 : decode m_X5_odds.2.1 2 = .ok (.bipush 90, 2) := by decide +kernel
theorem d_X5_odds_4 : decode m_X5_odds.2.1 4 = .ok (.invokestatic 125, 3) := by decide +kernel
theorem d_X5_odds_7 : decode m_X5_odds.2.1 7 = .ok (.ifCond .eq 19, 3) := by decide +kernel
theorem d_X5_odds_10 : decode m_X5_odds.2.1 10 = .ok (.iload_n 2, 1) := by decide +kernel
theorem d_X5_odds_11 : decode m_X5_odds.2.1 11 = .ok (.iconst 0, 1) := by decide +kernel
theorem d_X5_odds_12 : decode m_X5_odds.2.1 12 = .ok (.iconst 1, 1) := by decide +kernel
theorem d_X5_odds_13 : decode m_X5_odds.2.1 13 = .ok (.invokestatic 125, 3) := by decide +kernel
theorem d_X5_odds_16 : decode m_X5_odds.2.1 16 = .ok (.ifCond .eq 10, 3) := by decide +kernel
theorem d_X5_odds_19 : decode m_X5_odds.2.1 19 = .ok (.aload_n 0, 1) := by decide +kernel
theorem d_X5_odds_20 : decode m_X5_odds.2.1 20 = .ok (.invokevirtual 135, 3) := by decide +kernel
theorem d_X5_odds_23 : decode m_X5_odds.2.1 23 = .ok (.ifCond .ne 7, 3) := by decide +kernel
theorem d_X5_odds_26 : decode m_X5_odds.2.1 26 = .ok (.ldc2_w 201, 3) := by decide +kernel
theorem d_X5_odds_29 : decode m_X5_odds.2.1 29 = .ok (.lreturn, 1) := by decide +kernel
theorem d_X5_odds_30 : decode m_X5_odds.2.1 30 = .ok (.iconst 0, 1) := by decide +kernel
theorem d_X5_odds_31 : decode m_X5_odds.2.1 31 = .ok (.istore_n 3, 1) := by decide +kernel
theorem d_X5_odds_32 : decode m_X5_odds.2.1 32 = .ok (.iconst 0, 1) := by decide +kernel
theorem d_X5_odds_33 : decode m_X5_odds.2.1 33 = .ok (.istore 4, 2) := by decide +kernel
theorem d_X5_odds_35 : decode m_X5_odds.2.1 35 = .ok (.iconst 0, 1) := by decide +kernel
theorem d_X5_odds_36 : decode m_X5_odds.2.1 36 = .ok (.istore 5, 2) := by decide +kernel
theorem d_X5_odds_38 : decode m_X5_odds.2.1 38 = .ok (.iload 5, 2) := by decide +kernel
theorem d_X5_odds_40 : decode m_X5_odds.2.1 40 = .ok (.aload_n 0, 1) := by decide +kernel
theorem d_X5_odds_41 : decode m_X5_odds.2.1 41 = .ok (.getfield 12, 3) := by decide +kernel
theorem d_X5_odds_44 : decode m_X5_odds.2.1 44 = .ok (.invokevirtual 164, 3) := by decide +kernel
theorem d_X5_odds_47 : decode m_X5_odds.2.1 47 = .ok (.if_icmp .ge 45, 3) := by decide +kernel
theorem d_X5_odds_50 : decode m_X5_odds.2.1 50 = .ok (.aload_n 0, 1) := by decide +kernel
theorem d_X5_odds_51 : decode m_X5_odds.2.1 51 = .ok (.getfield 12, 3) := by decide +kernel
theorem d_X5_odds_54 : decode m_X5_odds.2.1 54 = .ok (.iload 5, 2) := by decide +kernel
theorem d_X5_odds_56 : decode m_X5_odds.2.1 56 = .ok (.invokevirtual 172, 3) := by decide +kernel
theorem d_X5_odds_59 : decode m_X5_odds.2.1 59 = .ok (.ifCond .eq 27, 3) := by decide +kernel
theorem d_X5_odds_62 : decode m_X5_odds.2.1 62 = .ok (.iinc 4 1, 3) := by decide +kernel
theorem d_X5_odds_65 : decode m_X5_odds.2.1 65 = .ok (.iload_n 3, 1) := by decide +kernel
theorem d_X5_odds_66 : decode m_X5_odds.2.1 66 = .ok (.aload_n 0, 1) := by decide +kernel
theorem d_X5_odds_67 : decode m_X5_odds.2.1 67 = .ok (.getfield 12, 3) := by decide +kernel
theorem d_X5_odds_70 : decode m_X5_odds.2.1 70 = .ok (.iload 5, 2) := by decide +kernel
theorem d_X5_odds_72 : decode m_X5_odds.2.1 72 = .ok (.invokevirtual 179, 3) := by decide +kernel
theorem d_X5_odds_75 : decode m_X5_odds.2.1 75 = .ok (.iload_n 1, 1) := by decide +kernel
theorem d_X5_odds_76 : decode m_X5_odds.2.1 76 = .ok (.if_icmp .lt 7, 3) := by decide +kernel
theorem d_X5_odds_79 : decode m_X5_odds.2.1 79 = .ok (.iconst 1, 1) := by decide +kernel
theorem d_X5_odds_80 : decode m_X5_odds.2.1 80 = .ok (.goto 4, 3) := by decide +kernel
theorem d_X5_odds_83 : decode m_X5_odds.2.1 83 = .ok (.iconst 0, 1) := by decide +kernel
theorem d_X5_odds_84 : decode m_X5_odds.2.1 84 = .ok (.iadd, 1) := by decide +kernel
theorem d_X5_odds_85 : decode m_X5_odds.2.1 85 = .ok (.istore_n 3, 1) := by decide +kernel
theorem d_X5_odds_86 : decode m_X5_odds.2.1 86 = .ok (.iinc 5 1, 3) := by decide +kernel
theorem d_X5_odds_89 : decode m_X5_odds.2.1 89 = .ok (.goto (-51), 3) := by decide +kernel
theorem d_X5_odds_92 : decode m_X5_odds.2.1 92 = .ok (.iload 4, 2) := by decide +kernel
theorem d_X5_odds_94 : decode m_X5_odds.2.1 94 = .ok (.iconst 1, 1) := by decide +kernel
theorem d_X5_odds_95 : decode m_X5_odds.2.1 95 = .ok (.if_icmp .le 22, 3) := by decide +kernel
theorem d_X5_odds_98 : decode m_X5_odds.2.1 98 = .ok (.iload_n 3, 1) := by decide +kernel
theorem d_X5_odds_99 : decode m_X5_odds.2.1 99 = .ok (.iconst 2, 1) := by decide +kernel
theorem d_X5_odds_100 : decode m_X5_odds.2.1 100 = .ok (.irem, 1) := by decide +kernel
theorem d_X5_odds_101 : decode m_X5_odds.2.1 101 = .ok (.ifCond .ne 16, 3) := by decide +kernel
theorem d_X5_odds_104 : decode m_X5_odds.2.1 104 = .ok (.iload_n 3, 1) := by decide +kernel
theorem d_X5_odds_105 : decode m_X5_odds.2.1 105 = .ok (.iconst 2, 1) := by decide +kernel
theorem d_X5_odds_106 : decode m_X5_odds.2.1 106 = .ok (.idiv, 1) := by decide +kernel
theorem d_X5_odds_107 : decode m_X5_odds.2.1 107 = .ok (.istore_n 3, 1) := by decide +kernel
theorem d_X5_odds_108 : decode m_X5_odds.2.1 108 = .ok (.iload 4, 2) := by decide +kernel
theorem d_X5_odds_110 : decode m_X5_odds.2.1 110 = .ok (.iconst 2, 1) := by decide +kernel
theorem d_X5_odds_111 : decode m_X5_odds.2.1 111 = .ok (.idiv, 1) := by decide +kernel
theorem d_X5_odds_112 : decode m_X5_odds.2.1 112 = .ok (.istore 4, 2) := by decide +kernel
theorem d_X5_odds_114 : decode m_X5_odds.2.1 114 = .ok (.goto (-22), 3) := by decide +kernel
theorem d_X5_odds_117 : decode m_X5_odds.2.1 117 = .ok (.iload_n 2, 1) := by decide +kernel
theorem d_X5_odds_118 : decode m_X5_odds.2.1 118 = .ok (.ifCond .ne 8, 3) := by decide +kernel
theorem d_X5_odds_121 : decode m_X5_odds.2.1 121 = .ok (.iload_n 3, 1) := by decide +kernel
theorem d_X5_odds_122 : decode m_X5_odds.2.1 122 = .ok (.i2l, 1) := by decide +kernel
theorem d_X5_odds_123 : decode m_X5_odds.2.1 123 = .ok (.goto 6, 3) := by decide +kernel
theorem d_X5_odds_126 : decode m_X5_odds.2.1 126 = .ok (.iload 4, 2) := by decide +kernel
theorem d_X5_odds_128 : decode m_X5_odds.2.1 128 = .ok (.i2l, 1) := by decide +kernel
theorem d_X5_odds_129 : decode m_X5_odds.2.1 129 = .ok (.lreturn, 1) := by decide +kernel
theorem d_X5_sheet_0 : decode m_X5_sheet.2.1 0 = .ok (.aload_n 0, 1) := by decide +kernel
theorem d_X5_sheet_1 : decode m_X5_sheet.2.1 1 = .ok (.iconst 0, 1) := by decide +kernel
theorem d_X5_sheet_2 : decode m_X5_sheet.2.1 2 = .ok (.putfield 47, 3) := by decide +kernel
theorem d_X5_sheet_5 : decode m_X5_sheet.2.1 5 = .ok (.iload_n 1, 1) := by decide +kernel
theorem d_X5_sheet_6 : decode m_X5_sheet.2.1 6 = .ok (.invokestatic 51, 3) := by decide +kernel
theorem d_X5_sheet_9 : decode m_X5_sheet.2.1 9 = .ok (.ifCond .ne 5, 3) := by decide +kernel
theorem d_X5_sheet_12 : decode m_X5_sheet.2.1 12 = .ok (.iconst (-1), 1) := by decide +kernel
theorem d_X5_sheet_13 : decode m_X5_sheet.2.1 13 = .ok (.ireturn, 1) := by decide +kernel
theorem d_X5_sheet_14 : decode m_X5_sheet.2.1 14 = .ok (.iload_n 2, 1) := by decide +kernel
theorem d_X5_sheet_15 : decode m_X5_sheet.2.1 15 = .ok (.invokestatic 55, 3) := by decide +kernel
theorem d_X5_sheet_18 : decode m_X5_sheet.2.1 18 = .ok (.ifCond .eq 9, 3) := by decide +kernel
theorem d_X5_sheet_21 : decode m_X5_sheet.2.1 21 = .ok (.iload_n 3, 1) := by decide +kernel
theorem d_X5_sheet_22 : decode m_X5_sheet.2.1 22 = .ok (.bipush 60, 2) := by decide +kernel
theorem d_X5_sheet_24 : decode m_X5_sheet.2.1 24 = .ok (.if_icmp .le 6, 3) := by decide +kernel
theorem d_X5_sheet_27 : decode m_X5_sheet.2.1 27 = .ok (.bipush (-2), 2) := by decide +kernel
theorem d_X5_sheet_29 : decode m_X5_sheet.2.1 29 = .ok (.ireturn, 1) := by decide +kernel
theorem d_X5_sheet_30 : decode m_X5_sheet.2.1 30 = .ok (.iload_n 3, 1) := by decide +kernel
theorem d_X5_sheet_31 : decode m_X5_sheet.2.1 31 = .ok (.ifCond .ge 9, 3) := by decide +kernel
theorem d_X5_sheet_34 : decode m_X5_sheet.2.1 34 = .ok (.aload_n 0, 1) := by decide +kernel
theorem d_X5_sheet_35 : decode m_X5_sheet.2.1 35 = .ok (.iconst 4, 1) := by decide +kernel
theorem d_X5_sheet_36 : decode m_X5_sheet.2.1 36 = .ok (.invokevirtual 62, 3) := by decide +kernel
theorem d_X5_sheet_39 : decode m_X5_sheet.2.1 39 = .ok (.ireturn, 1) := by decide +kernel
theorem d_X5_sheet_40 : decode m_X5_sheet.2.1 40 = .ok (.aload_n 0, 1) := by decide +kernel
theorem d_X5_sheet_41 : decode m_X5_sheet.2.1 41 = .ok (.getfield 23, 3) := by decide +kernel
theorem d_X5_sheet_44 : decode m_X5_sheet.2.1 44 = .ok (.iload_n 1, 1) := by decide +kernel
theorem d_X5_sheet_45 : decode m_X5_sheet.2.1 45 = .ok (.aaload, 1) := by decide +kernel
theorem d_X5_sheet_46 : decode m_X5_sheet.2.1 46 = .ok (.iload_n 2, 1) := by decide +kernel
theorem d_X5_sheet_47 : decode m_X5_sheet.2.1 47 = .ok (.iload_n 3, 1) := by decide +kernel
theorem d_X5_sheet_48 : decode m_X5_sheet.2.1 48 = .ok (.invokevirtual 203, 3) := by decide +kernel
theorem d_X5_sheet_51 : decode m_X5_sheet.2.1 51 = .ok (.iconst 1, 1) := by decide +kernel
theorem d_X5_sheet_52 : decode m_X5_sheet.2.1 52 = .ok (.ireturn, 1) := by decide +kernel
theorem d_X5_lose_0 : decode m_X5_lose.2.1 0 = .ok (.iload_n 1, 1) := by decide +kernel
theorem d_X5_lose_1 : decode m_X5_lose.2.1 1 = .ok (.invokestatic 51, 3) := by decide +kernel
theorem d_X5_lose_4 : decode m_X5_lose.2.1 4 = .ok (.ifCond .ne 5, 3) := by decide +kernel
theorem d_X5_lose_7 : decode m_X5_lose.2.1 7 = .ok (.iconst (-1), 1) := by decide +kernel
theorem d_X5_lose_8 : decode m_X5_lose.2.1 8 = .ok (.ireturn, 1) := by decide +kernel
theorem d_X5_lose_9 : decode m_X5_lose.2.1 9 = .ok (.aload_n 0, 1) := by decide +kernel
theorem d_X5_lose_10 : decode m_X5_lose.2.1 10 = .ok (.getfield 23, 3) := by decide +kernel
theorem d_X5_lose_13 : decode m_X5_lose.2.1 13 = .ok (.iload_n 1, 1) := by decide +kernel
theorem d_X5_lose_14 : decode m_X5_lose.2.1 14 = .ok (.aaload, 1) := by decide +kernel
theorem d_X5_lose_15 : decode m_X5_lose.2.1 15 = .ok (.getfield 207, 3) := by decide +kernel
theorem d_X5_lose_18 : decode m_X5_lose.2.1 18 = .ok (.ifCond .eq 7, 3) := by decide +kernel
theorem d_X5_lose_21 : decode m_X5_lose.2.1 21 = .ok (.iconst 1, 1) := by decide +kernel
theorem d_X5_lose_22 : decode m_X5_lose.2.1 22 = .ok (.goto 4, 3) := by decide +kernel
theorem d_X5_lose_25 : decode m_X5_lose.2.1 25 = .ok (.iconst 0, 1) := by decide +kernel
theorem d_X5_lose_26 : decode m_X5_lose.2.1 26 = .ok (.istore_n 2, 1) := by decide +kernel
theorem d_X5_lose_27 : decode m_X5_lose.2.1 27 = .ok (.aload_n 0, 1) := by decide +kernel
theorem d_X5_lose_28 : decode m_X5_lose.2.1 28 = .ok (.getfield 23, 3) := by decide +kernel
theorem d_X5_lose_31 : decode m_X5_lose.2.1 31 = .ok (.iload_n 1, 1) := by decide +kernel
theorem d_X5_lose_32 : decode m_X5_lose.2.1 32 = .ok (.aaload, 1) := by decide +kernel
theorem d_X5_lose_33 : decode m_X5_lose.2.1 33 = .ok (.iconst 0, 1) := by decide +kernel
theorem d_X5_lose_34 : decode m_X5_lose.2.1 34 = .ok (.putfield 207, 3) := by decide +kernel
theorem d_X5_lose_37 : decode m_X5_lose.2.1 37 = .ok (.iload_n 2, 1) := by decide +kernel
theorem d_X5_lose_38 : decode m_X5_lose.2.1 38 = .ok (.ireturn, 1) := by decide +kernel
theorem d_X5_put_0 : decode m_X5_put.2.1 0 = .ok (.aload_n 0, 1) := by decide +kernel
theorem d_X5_put_1 : decode m_X5_put.2.1 1 = .ok (.iconst 0, 1) := by decide +kernel
theorem d_X5_put_2 : decode m_X5_put.2.1 2 = .ok (.putfield 47, 3) := by decide +kernel
theorem d_X5_put_5 : decode m_X5_put.2.1 5 = .ok (.iload_n 1, 1) := by decide +kernel
theorem d_X5_put_6 : decode m_X5_put.2.1 6 = .ok (.invokestatic 51, 3) := by decide +kernel
theorem d_X5_put_9 : decode m_X5_put.2.1 9 = .ok (.ifCond .ne 5, 3) := by decide +kernel
theorem d_X5_put_12 : decode m_X5_put.2.1 12 = .ok (.iconst (-1), 1) := by decide +kernel
theorem d_X5_put_13 : decode m_X5_put.2.1 13 = .ok (.ireturn, 1) := by decide +kernel
theorem d_X5_put_14 : decode m_X5_put.2.1 14 = .ok (.aload_n 0, 1) := by decide +kernel
theorem d_X5_put_15 : decode m_X5_put.2.1 15 = .ok (.getfield 23, 3) := by decide +kernel
theorem d_X5_put_18 : decode m_X5_put.2.1 18 = .ok (.iload_n 1, 1) := by decide +kernel
theorem d_X5_put_19 : decode m_X5_put.2.1 19 = .ok (.aaload, 1) := by decide +kernel
theorem d_X5_put_20 : decode m_X5_put.2.1 20 = .ok (.astore 4, 2) := by decide +kernel
theorem d_X5_put_22 : decode m_X5_put.2.1 22 = .ok (.aload 4, 2) := by decide +kernel
theorem d_X5_put_24 : decode m_X5_put.2.1 24 = .ok (.getfield 207, 3) := by decide +kernel
theorem d_X5_put_27 : decode m_X5_put.2.1 27 = .ok (.ifCond .ne 9, 3) := by decide +kernel
theorem d_X5_put_30 : decode m_X5_put.2.1 30 = .ok (.aload_n 0, 1) := by decide +kernel
theorem d_X5_put_31 : decode m_X5_put.2.1 31 = .ok (.iconst 1, 1) := by decide +kernel
theorem d_X5_put_32 : decode m_X5_put.2.1 32 = .ok (.invokevirtual 62, 3) := by decide +kernel
theorem d_X5_put_35 : decode m_X5_put.2.1 35 = .ok (.ireturn, 1) := by decide +kernel
theorem d_X5_put_36 : decode m_X5_put.2.1 36 = .ok (.aload 4, 2) := by decide +kernel
theorem d_X5_put_38 : decode m_X5_put.2.1 38 = .ok (.iload_n 2, 1) := by decide +kernel
theorem d_X5_put_39 : decode m_X5_put.2.1 39 = .ok (.iconst 1, 1) := by decide +kernel
theorem d_X5_put_40 : decode m_X5_put.2.1 40 = .ok (.invokevirtual 210, 3) := by decide +kernel
theorem d_X5_put_43 : decode m_X5_put.2.1 43 = .ok (.ifCond .ne 9, 3) := by decide +kernel
theorem d_X5_put_46 : decode m_X5_put.2.1 46 = .ok (.aload_n 0, 1) := by decide +kernel
theorem d_X5_put_47 : decode m_X5_put.2.1 47 = .ok (.iconst 3, 1) := by decide +kernel
theorem d_X5_put_48 : decode m_X5_put.2.1 48 = .ok (.invokevirtual 62, 3) := by decide +kernel
theorem d_X5_put_51 : decode m_X5_put.2.1 51 = .ok (.ireturn, 1) := by decide +kernel
theorem d_X5_put_52 : decode m_X5_put.2.1 52 = .ok (.aload 4, 2) := by decide +kernel
theorem d_X5_put_54 : decode m_X5_put.2.1 54 = .ok (.getfield 213, 3) := by decide +kernel
theorem d_X5_put_57 : decode m_X5_put.2.1 57 = .ok (.iload_n 2, 1) := by decide +kernel
theorem d_X5_put_58 : decode m_X5_put.2.1 58 = .ok (.aload 4, 2) := by decide +kernel
theorem d_X5_put_60 : decode m_X5_put.2.1 60 = .ok (.iload_n 3, 1) := by decide +kernel
theorem d_X5_put_61 : decode m_X5_put.2.1 61 = .ok (.invokevirtual 216, 3) := by decide +kernel
theorem d_X5_put_64 : decode m_X5_put.2.1 64 = .ok (.iastore, 1) := by decide +kernel
theorem d_X5_put_65 : decode m_X5_put.2.1 65 = .ok (.iconst 1, 1) := by decide +kernel
theorem d_X5_put_66 : decode m_X5_put.2.1 66 = .ok (.ireturn, 1) := by decide +kernel
theorem d_X5_cell_0 : decode m_X5_cell.2.1 0 = .ok (.aload_n 0, 1) := by decide +kernel
theorem d_X5_cell_1 : decode m_X5_cell.2.1 1 = .ok (.iconst 0, 1) := by decide +kernel
theorem d_X5_cell_2 : decode m_X5_cell.2.1 2 = .ok (.putfield 47, 3) := by decide +kernel
theorem d_X5_cell_5 : decode m_X5_cell.2.1 5 = .ok (.iload_n 1, 1) := by decide +kernel
theorem d_X5_cell_6 : decode m_X5_cell.2.1 6 = .ok (.invokestatic 51, 3) := by decide +kernel
theorem d_X5_cell_9 : decode m_X5_cell.2.1 9 = .ok (.ifCond .eq 10, 3) := by decide +kernel
theorem d_X5_cell_12 : decode m_X5_cell.2.1 12 = .ok (.iload_n 3, 1) := by decide +kernel
theorem d_X5_cell_13 : decode m_X5_cell.2.1 13 = .ok (.invokestatic 55, 3) := by decide +kernel
theorem d_X5_cell_16 : decode m_X5_cell.2.1 16 = .ok (.ifCond .ne 7, 3) := by decide +kernel
theorem d_X5_cell_19 : decode m_X5_cell.2.1 19 = .ok (.ldc2_w 201, 3) := by decide +kernel
theorem d_X5_cell_22 : decode m_X5_cell.2.1 22 = .ok (.lreturn, 1) := by decide +kernel
theorem d_X5_cell_23 : decode m_X5_cell.2.1 23 = .ok (.aload_n 0, 1) := by decide +kernel
theorem d_X5_cell_24 : decode m_X5_cell.2.1 24 = .ok (.getfield 23, 3) := by decide +kernel
theorem d_X5_cell_27 : decode m_X5_cell.2.1 27 = .ok (.iload_n 1, 1) := by decide +kernel
theorem d_X5_cell_28 : decode m_X5_cell.2.1 28 = .ok (.aaload, 1) := by decide +kernel
theorem d_X5_cell_29 : decode m_X5_cell.2.1 29 = .ok (.astore 4, 2) := by decide +kernel
theorem d_X5_cell_31 : decode m_X5_cell.2.1 31 = .ok (.aload 4, 2) := by decide +kernel
theorem d_X5_cell_33 : decode m_X5_cell.2.1 33 = .ok (.iload_n 3, 1) := by decide +kernel
theorem d_X5_cell_34 : decode m_X5_cell.2.1 34 = .ok (.iload_n 2, 1) := by decide +kernel
theorem d_X5_cell_35 : decode m_X5_cell.2.1 35 = .ok (.iconst 1, 1) := by decide +kernel
theorem d_X5_cell_36 : decode m_X5_cell.2.1 36 = .ok (.invokestatic 58, 3) := by decide +kernel
theorem d_X5_cell_39 : decode m_X5_cell.2.1 39 = .ok (.istore 5, 2) := by decide +kernel
theorem d_X5_cell_41 : decode m_X5_cell.2.1 41 = .ok (.iload 5, 2) := by decide +kernel
theorem d_X5_cell_43 : decode m_X5_cell.2.1 43 = .ok (.ifCond .eq 13, 3) := by decide +kernel
theorem d_X5_cell_46 : decode m_X5_cell.2.1 46 = .ok (.aload_n 0, 1) := by decide +kernel
theorem d_X5_cell_47 : decode m_X5_cell.2.1 47 = .ok (.iload 5, 2) := by decide +kernel
theorem d_X5_cell_49 : decode m_X5_cell.2.1 49 = .ok (.putfield 47, 3) := by decide +kernel
theorem d_X5_cell_52 : decode m_X5_cell.2.1 52 = .ok (.ldc2_w 201, 3) := by decide +kernel
theorem d_X5_cell_55 : decode m_X5_cell.2.1 55 = .ok (.lreturn, 1) := by decide +kernel
theorem d_X5_cell_56 : decode m_X5_cell.2.1 56 = .ok (.aload 4, 2) := by decide +kernel
theorem d_X5_cell_58 : decode m_X5_cell.2.1 58 = .ok (.getfield 213, 3) := by decide +kernel
theorem d_X5_cell_61 : decode m_X5_cell.2.1 61 = .ok (.iload_n 2, 1) := by decide +kernel
theorem d_X5_cell_62 : decode m_X5_cell.2.1 62 = .ok (.iaload, 1) := by decide +kernel
theorem d_X5_cell_63 : decode m_X5_cell.2.1 63 = .ok (.i2l, 1) := by decide +kernel
theorem d_X5_cell_64 : decode m_X5_cell.2.1 64 = .ok (.lreturn, 1) := by decide +kernel
theorem d_X5_copy_0 : decode m_X5_copy.2.1 0 = .ok (.aload_n 0, 1) := by decide +kernel
theorem d_X5_copy_1 : decode m_X5_copy.2.1 1 = .ok (.iconst 0, 1) := by decide +kernel
theorem d_X5_copy_2 : decode m_X5_copy.2.1 2 = .ok (.putfield 47, 3) := by decide +kernel
theorem d_X5_copy_5 : decode m_X5_copy.2.1 5 = .ok (.iload_n 1, 1) := by decide +kernel
theorem d_X5_copy_6 : decode m_X5_copy.2.1 6 = .ok (.invokestatic 51, 3) := by decide +kernel
theorem d_X5_copy_9 : decode m_X5_copy.2.1 9 = .ok (.ifCond .eq 10, 3) := by decide +kernel
theorem d_X5_copy_12 : decode m_X5_copy.2.1 12 = .ok (.iload_n 3, 1) := by decide +kernel
theorem d_X5_copy_13 : decode m_X5_copy.2.1 13 = .ok (.invokestatic 51, 3) := by decide +kernel
theorem d_X5_copy_16 : decode m_X5_copy.2.1 16 = .ok (.ifCond .ne 5, 3) := by decide +kernel
theorem d_X5_copy_19 : decode m_X5_copy.2.1 19 = .ok (.iconst (-1), 1) := by decide +kernel
theorem d_X5_copy_20 : decode m_X5_copy.2.1 20 = .ok (.ireturn, 1) := by decide +kernel
theorem d_X5_copy_21 : decode m_X5_copy.2.1 21 = .ok (.aload_n 0, 1) := by decide +kernel
theorem d_X5_copy_22 : decode m_X5_copy.2.1 22 = .ok (.getfield 23, 3) := by decide +kernel
theorem d_X5_copy_25 : decode m_X5_copy.2.1 25 = .ok (.iload_n 1, 1) := by decide +kernel
theorem d_X5_copy_26 : decode m_X5_copy.2.1 26 = .ok (.aaload, 1) := by decide +kernel
theorem d_X5_copy_27 : decode m_X5_copy.2.1 27 = .ok (.astore 6, 2) := by decide +kernel
theorem d_X5_copy_29 : decode m_X5_copy.2.1 29 = .ok (.aload_n 0, 1) := by decide +kernel
theorem d_X5_copy_30 : decode m_X5_copy.2.1 30 = .ok (.getfield 23, 3) := by decide +kernel
theorem d_X5_copy_33 : decode m_X5_copy.2.1 33 = .ok (.iload_n 3, 1) := by decide +kernel
theorem d_X5_copy_34 : decode m_X5_copy.2.1 34 = .ok (.aaload, 1) := by decide +kernel
theorem d_X5_copy_35 : decode m_X5_copy.2.1 35 = .ok (.astore 7, 2) := by decide +kernel
theorem d_X5_copy_37 : decode m_X5_copy.2.1 37 = .ok (.aload 6, 2) := by decide +kernel
theorem d_X5_copy_39 : decode m_X5_copy.2.1 39 = .ok (.getfield 207, 3) := by decide +kernel
theorem d_X5_copy_42 : decode m_X5_copy.2.1 42 = .ok (.ifCond .eq 11, 3) := by decide +kernel
theorem d_X5_copy_45 : decode m_X5_copy.2.1 45 = .ok (.aload 7, 2) := by decide +kernel
theorem d_X5_copy_47 : decode m_X5_copy.2.1 47 = .ok (.getfield 207, 3) := by decide +kernel
theorem d_X5_copy_50 : decode m_X5_copy.2.1 50 = .ok (.ifCond .ne 9, 3) := by decide +kernel
theorem d_X5_copy_53 : decode m_X5_copy.2.1 53 = .ok (.aload_n 0, 1) := by decide +kernel
theorem d_X5_copy_54 : decode m_X5_copy.2.1 54 = .ok (.iconst 1, 1) := by decide +kernel
theorem d_X5_copy_55 : decode m_X5_copy.2.1 55 = .ok (.invokevirtual 62, 3) := by decide +kernel
theorem d_X5_copy_58 : decode m_X5_copy.2.1 58 = .ok (.ireturn, 1) := by decide +kernel
theorem d_X5_copy_59 : decode m_X5_copy.2.1 59 = .ok (.aload 6, 2) := by decide +kernel
theorem d_X5_copy_61 : decode m_X5_copy.2.1 61 = .ok (.getfield 219, 3) := by decide +kernel
theorem d_X5_copy_64 : decode m_X5_copy.2.1 64 = .ok (.aload 7, 2) := by decide +kernel
theorem d_X5_copy_66 : decode m_X5_copy.2.1 66 = .ok (.getfield 219, 3) := by decide +kernel
theorem d_X5_copy_69 : decode m_X5_copy.2.1 69 = .ok (.if_icmp .eq 9, 3) := by decide +kernel
theorem d_X5_copy_72 : decode m_X5_copy.2.1 72 = .ok (.aload_n 0, 1) := by decide +kernel
theorem d_X5_copy_73 : decode m_X5_copy.2.1 73 = .ok (.iconst 2, 1) := by decide +kernel
theorem d_X5_copy_74 : decode m_X5_copy.2.1 74 = .ok (.invokevirtual 62, 3) := by decide +kernel
theorem d_X5_copy_77 : decode m_X5_copy.2.1 77 = .ok (.ireturn, 1) := by decide +kernel
theorem d_X5_copy_78 : decode m_X5_copy.2.1 78 = .ok (.aload 6, 2) := by decide +kernel
theorem d_X5_copy_80 : decode m_X5_copy.2.1 80 = .ok (.iload_n 2, 1) := by decide +kernel
theorem d_X5_copy_81 : decode m_X5_copy.2.1 81 = .ok (.iload 5, 2) := by decide +kernel
theorem d_X5_copy_83 : decode m_X5_copy.2.1 83 = .ok (.invokevirtual 210, 3) := by decide +kernel
theorem d_X5_copy_86 : decode m_X5_copy.2.1 86 = .ok (.ifCond .eq 15, 3) := by decide +kernel
theorem d_X5_copy_89 : decode m_X5_copy.2.1 89 = .ok (.aload 7, 2) := by decide +kernel
theorem d_X5_copy_91 : decode m_X5_copy.2.1 91 = .ok (.iload 4, 2) := by decide +kernel
theorem d_X5_copy_93 : decode m_X5_copy.2.1 93 = .ok (.iload 5, 2) := by decide +kernel
theorem d_X5_copy_95 : decode m_X5_copy.2.1 95 = .ok (.invokevirtual 210, 3) := by decide +kernel
theorem d_X5_copy_98 : decode m_X5_copy.2.1 98 = .ok (.ifCond .ne 9, 3) := by decide +kernel
theorem d_X5_copy_101 : decode m_X5_copy.2.1 101 = .ok (.aload_n 0, 1) := by decide +kernel
theorem d_X5_copy_102 : decode m_X5_copy.2.1 102 = .ok (.iconst 3, 1) := by decide +kernel
theorem d_X5_copy_103 : decode m_X5_copy.2.1 103 = .ok (.invokevirtual 62, 3) := by decide +kernel
theorem d_X5_copy_106 : decode m_X5_copy.2.1 106 = .ok (.ireturn, 1) := by decide +kernel
theorem d_X5_copy_107 : decode m_X5_copy.2.1 107 = .ok (.aload 6, 2) := by decide +kernel
theorem d_X5_copy_109 : decode m_X5_copy.2.1 109 = .ok (.getfield 213, 3) := by decide +kernel
theorem d_X5_copy_112 : decode m_X5_copy.2.1 112 = .ok (.iload_n 2, 1) := by decide +kernel
theorem d_X5_copy_113 : decode m_X5_copy.2.1 113 = .ok (.aload 7, 2) := by decide +kernel
theorem d_X5_copy_115 : decode m_X5_copy.2.1 115 = .ok (.getfield 213, 3) := by decide +kernel
theorem d_X5_copy_118 : decode m_X5_copy.2.1 118 = .ok (.iload 4, 2) := by decide +kernel
theorem d_X5_copy_120 : decode m_X5_copy.2.1 120 = .ok (.iload 5, 2) := by decide +kernel
theorem d_X5_copy_122 : decode m_X5_copy.2.1 122 = .ok (.invokestatic 222, 3) := by decide +kernel
theorem d_X5_copy_125 : decode m_X5_copy.2.1 125 = .ok (.iload 5, 2) := by decide +kernel
theorem d_X5_copy_127 : decode m_X5_copy.2.1 127 = .ok (.ireturn, 1) := by decide +kernel
theorem d_X5_tell_0 : decode m_X5_tell.2.1 0 = .ok (.aload_n 0, 1) := by decide +kernel
theorem d_X5_tell_1 : decode m_X5_tell.2.1 1 = .ok (.getfield 12, 3) := by decide +kernel
theorem d_X5_tell_4 : decode m_X5_tell.2.1 4 = .ok (.iload_n 1, 1) := by decide +kernel
theorem d_X5_tell_5 : decode m_X5_tell.2.1 5 = .ok (.invokevirtual 77, 3) := by decide +kernel
theorem d_X5_tell_8 : decode m_X5_tell.2.1 8 = .ok (.ifCond .ne 5, 3) := by decide +kernel
theorem d_X5_tell_11 : decode m_X5_tell.2.1 11 = .ok (.iconst (-1), 1) := by decide +kernel
theorem d_X5_tell_12 : decode m_X5_tell.2.1 12 = .ok (.ireturn, 1) := by decide +kernel
theorem d_X5_tell_13 : decode m_X5_tell.2.1 13 = .ok (.aload_n 0, 1) := by decide +kernel
theorem d_X5_tell_14 : decode m_X5_tell.2.1 14 = .ok (.getfield 12, 3) := by decide +kernel
theorem d_X5_tell_17 : decode m_X5_tell.2.1 17 = .ok (.getfield 80, 3) := by decide +kernel
theorem d_X5_tell_20 : decode m_X5_tell.2.1 20 = .ok (.iload_n 1, 1) := by decide +kernel
theorem d_X5_tell_21 : decode m_X5_tell.2.1 21 = .ok (.aaload, 1) := by decide +kernel
theorem d_X5_tell_22 : decode m_X5_tell.2.1 22 = .ok (.astore_n 2, 1) := by decide +kernel
theorem d_X5_tell_23 : decode m_X5_tell.2.1 23 = .ok (.aload_n 2, 1) := by decide +kernel
theorem d_X5_tell_24 : decode m_X5_tell.2.1 24 = .ok (.getfield 84, 3) := by decide +kernel
theorem d_X5_tell_27 : decode m_X5_tell.2.1 27 = .ok (.lookupswitch 37 #[(1, 31), (2, 25)], 25) := by decide +kernel
theorem d_X5_tell_52 : decode m_X5_tell.2.1 52 = .ok (.aload_n 0, 1) := by decide +kernel
theorem d_X5_tell_53 : decode m_X5_tell.2.1 53 = .ok (.aload_n 2, 1) := by decide +kernel
theorem d_X5_tell_54 : decode m_X5_tell.2.1 54 = .ok (.invokevirtual 228, 3) := by decide +kernel
theorem d_X5_tell_57 : decode m_X5_tell.2.1 57 = .ok (.ireturn, 1) := by decide +kernel
theorem d_X5_tell_58 : decode m_X5_tell.2.1 58 = .ok (.aload_n 0, 1) := by decide +kernel
theorem d_X5_tell_59 : decode m_X5_tell.2.1 59 = .ok (.aload_n 2, 1) := by decide +kernel
theorem d_X5_tell_60 : decode m_X5_tell.2.1 60 = .ok (.invokevirtual 232, 3) := by decide +kernel
theorem d_X5_tell_63 : decode m_X5_tell.2.1 63 = .ok (.ireturn, 1) := by decide +kernel
theorem d_X5_tell_64 : decode m_X5_tell.2.1 64 = .ok (.aload_n 0, 1) := by decide +kernel
theorem d_X5_tell_65 : decode m_X5_tell.2.1 65 = .ok (.aload_n 2, 1) := by decide +kernel
theorem d_X5_tell_66 : decode m_X5_tell.2.1 66 = .ok (.invokevirtual 235, 3) := by decide +kernel
theorem d_X5_tell_69 : decode m_X5_tell.2.1 69 = .ok (.ireturn, 1) := by decide +kernel
theorem d_X5_knock_0 : decode m_X5_knock.2.1 0 = .ok (.aload_n 0, 1) := by decide +kernel
theorem d_X5_knock_1 : decode m_X5_knock.2.1 1 = .ok (.getfield 12, 3) := by decide +kernel
theorem d_X5_knock_4 : decode m_X5_knock.2.1 4 = .ok (.iload_n 1, 1) := by decide +kernel
theorem d_X5_knock_5 : decode m_X5_knock.2.1 5 = .ok (.invokevirtual 77, 3) := by decide +kernel
theorem d_X5_knock_8 : decode m_X5_knock.2.1 8 = .ok (.ifCond .ne 5, 3) := by decide +kernel
theorem d_X5_knock_11 : decode m_X5_knock.2.1 11 = .ok (.iconst (-1), 1) := by decide +kernel
theorem d_X5_knock_12 : decode m_X5_knock.2.1 12 = .ok (.ireturn, 1) := by decide +kernel
theorem d_X5_knock_13 : decode m_X5_knock.2.1 13 = .ok (.aload_n 0, 1) := by decide +kernel
theorem d_X5_knock_14 : decode m_X5_knock.2.1 14 = .ok (.getfield 12, 3) := by decide +kernel
theorem d_X5_knock_17 : decode m_X5_knock.2.1 17 = .ok (.getfield 80, 3) := by decide +kernel
theorem d_X5_knock_20 : decode m_X5_knock.2.1 20 = .ok (.iload_n 1, 1) := by decide +kernel
theorem d_X5_knock_21 : decode m_X5_knock.2.1 21 = .ok (.aaload, 1) := by decide +kernel
theorem d_X5_knock_22 : decode m_X5_knock.2.1 22 = .ok (.astore_n 2, 1) := by decide +kernel
theorem d_X5_knock_23 : decode m_X5_knock.2.1 23 = .ok (.aload_n 2, 1) := by decide +kernel
theorem d_X5_knock_24 : decode m_X5_knock.2.1 24 = .ok (.getfield 84, 3) := by decide +kernel
theorem d_X5_knock_27 : decode m_X5_knock.2.1 27 = .ok (.iconst 2, 1) := by decide +kernel
theorem d_X5_knock_28 : decode m_X5_knock.2.1 28 = .ok (.if_icmp .ne 10, 3) := by decide +kernel
theorem d_X5_knock_31 : decode m_X5_knock.2.1 31 = .ok (.aload_n 0, 1) := by decide +kernel
theorem d_X5_knock_32 : decode m_X5_knock.2.1 32 = .ok (.invokevirtual 238, 3) := by decide +kernel
theorem d_X5_knock_35 : decode m_X5_knock.2.1 35 = .ok (.goto 8, 3) := by decide +kernel
theorem d_X5_knock_38 : decode m_X5_knock.2.1 38 = .ok (.aload_n 0, 1) := by decide +kernel
theorem d_X5_knock_39 : decode m_X5_knock.2.1 39 = .ok (.aload_n 2, 1) := by decide +kernel
theorem d_X5_knock_40 : decode m_X5_knock.2.1 40 = .ok (.invokevirtual 241, 3) := by decide +kernel
theorem d_X5_knock_43 : decode m_X5_knock.2.1 43 = .ok (.ireturn, 1) := by decide +kernel
theorem d_X5_as_0 : decode m_X5_as.2.1 0 = .ok (.aload_n 0, 1) := by decide +kernel
theorem d_X5_as_1 : decode m_X5_as.2.1 1 = .ok (.iconst 0, 1) := by decide +kernel
theorem d_X5_as_2 : decode m_X5_as.2.1 2 = .ok (.putfield 47, 3) := by decide +kernel
theorem d_X5_as_5 : decode m_X5_as.2.1 5 = .ok (.aload_n 0, 1) := by decide +kernel
theorem d_X5_as_6 : decode m_X5_as.2.1 6 = .ok (.getfield 12, 3) := by decide +kernel
theorem d_X5_as_9 : decode m_X5_as.2.1 9 = .ok (.iload_n 1, 1) := by decide +kernel
theorem d_X5_as_10 : decode m_X5_as.2.1 10 = .ok (.invokevirtual 77, 3) := by decide +kernel
theorem d_X5_as_13 : decode m_X5_as.2.1 13 = .ok (.ifCond .ne 5, 3) := by decide +kernel
theorem d_X5_as_16 : decode m_X5_as.2.1 16 = .ok (.iconst (-1), 1) := by decide +kernel
theorem d_X5_as_17 : decode m_X5_as.2.1 17 = .ok (.ireturn, 1) := by decide +kernel
theorem d_X5_as_18 : decode m_X5_as.2.1 18 = .ok (.iload_n 2, 1) := by decide +kernel
theorem d_X5_as_19 : decode m_X5_as.2.1 19 = .ok (.iconst 0, 1) := by decide +kernel
theorem d_X5_as_20 : decode m_X5_as.2.1 20 = .ok (.iconst 2, 1) := by decide +kernel
theorem d_X5_as_21 : decode m_X5_as.2.1 21 = .ok (.invokestatic 125, 3) := by decide +kernel
theorem d_X5_as_24 : decode m_X5_as.2.1 24 = .ok (.ifCond .ne 6, 3) := by decide +kernel
theorem d_X5_as_27 : decode m_X5_as.2.1 27 = .ok (.bipush (-2), 2) := by decide +kernel
theorem d_X5_as_29 : decode m_X5_as.2.1 29 = .ok (.ireturn, 1) := by decide +kernel
theorem d_X5_as_30 : decode m_X5_as.2.1 30 = .ok (.iload_n 2, 1) := by decide +kernel
theorem d_X5_as_31 : decode m_X5_as.2.1 31 = .ok (.aload_n 0, 1) := by decide +kernel
theorem d_X5_as_32 : decode m_X5_as.2.1 32 = .ok (.getfield 12, 3) := by decide +kernel
theorem d_X5_as_35 : decode m_X5_as.2.1 35 = .ok (.getfield 80, 3) := by decide +kernel
theorem d_X5_as_38 : decode m_X5_as.2.1 38 = .ok (.iload_n 1, 1) := by decide +kernel
theorem d_X5_as_39 : decode m_X5_as.2.1 39 = .ok (.aaload, 1) := by decide +kernel
theorem d_X5_as_40 : decode m_X5_as.2.1 40 = .ok (.getfield 84, 3) := by decide +kernel
theorem d_X5_as_43 : decode m_X5_as.2.1 43 = .ok (.if_icmp .gt 7, 3) := by decide +kernel
theorem d_X5_as_46 : decode m_X5_as.2.1 46 = .ok (.iconst 1, 1) := by decide +kernel
theorem d_X5_as_47 : decode m_X5_as.2.1 47 = .ok (.goto 8, 3) := by decide +kernel
theorem d_X5_as_50 : decode m_X5_as.2.1 50 = .ok (.aload_n 0, 1) := by decide +kernel
theorem d_X5_as_51 : decode m_X5_as.2.1 51 = .ok (.iconst 2, 1) := by decide +kernel
theorem d_X5_as_52 : decode m_X5_as.2.1 52 = .ok (.invokevirtual 62, 3) := by decide +kernel
theorem d_X5_as_55 : decode m_X5_as.2.1 55 = .ok (.ireturn, 1) := by decide +kernel
theorem d_X5_trace_0 : decode m_X5_trace.2.1 0 = .ok (.aload_n 0, 1) := by decide +kernel
theorem d_X5_trace_1 : decode m_X5_trace.2.1 1 = .ok (.getfield 44, 3) := by decide +kernel
theorem d_X5_trace_4 : decode m_X5_trace.2.1 4 = .ok (.ireturn, 1) := by decide +kernel
theorem d_X5_fault_0 : decode m_X5_fault.2.1 0 = .ok (.aload_n 0, 1) := by decide +kernel
theorem d_X5_fault_1 : decode m_X5_fault.2.1 1 = .ok (.getfield 47, 3) := by decide +kernel
theorem d_X5_fault_4 : decode m_X5_fault.2.1 4 = .ok (.ireturn, 1) := by decide +kernel
theorem d_X5_many_0 : decode m_X5_many.2.1 0 = .ok (.iload_n 1, 1) := by decide +kernel
theorem d_X5_many_1 : decode m_X5_many.2.1 1 = .ok (.tableswitch 93 0 6 #[43, 51, 59, 64, 72, 77, 85], 43) := by decide +kernel
theorem d_X5_many_44 : decode m_X5_many.2.1 44 = .ok (.aload_n 0, 1) := by decide +kernel
theorem d_X5_many_45 : decode m_X5_many.2.1 45 = .ok (.getfield 12, 3) := by decide +kernel
theorem d_X5_many_48 : decode m_X5_many.2.1 48 = .ok (.getfield 74, 3) := by decide +kernel
theorem d_X5_many_51 : decode m_X5_many.2.1 51 = .ok (.ireturn, 1) := by decide +kernel
theorem d_X5_many_52 : decode m_X5_many.2.1 52 = .ok (.aload_n 0, 1) := by decide +kernel
theorem d_X5_many_53 : decode m_X5_many.2.1 53 = .ok (.getfield 12, 3) := by decide +kernel
theorem d_X5_many_56 : decode m_X5_many.2.1 56 = .ok (.getfield 244, 3) := by decide +kernel
theorem d_X5_many_59 : decode m_X5_many.2.1 59 = .ok (.ireturn, 1) := by decide +kernel
theorem d_X5_many_60 : decode m_X5_many.2.1 60 = .ok (.aload_n 0, 1) := by decide +kernel
theorem d_X5_many_61 : decode m_X5_many.2.1 61 = .ok (.getfield 41, 3) := by decide +kernel
theorem d_X5_many_64 : decode m_X5_many.2.1 64 = .ok (.ireturn, 1) := by decide +kernel
theorem d_X5_many_65 : decode m_X5_many.2.1 65 = .ok (.aload_n 0, 1) := by decide +kernel
theorem d_X5_many_66 : decode m_X5_many.2.1 66 = .ok (.getfield 12, 3) := by decide +kernel
theorem d_X5_many_69 : decode m_X5_many.2.1 69 = .ok (.invokevirtual 158, 3) := by decide +kernel
theorem d_X5_many_72 : decode m_X5_many.2.1 72 = .ok (.ireturn, 1) := by decide +kernel
theorem d_X5_many_73 : decode m_X5_many.2.1 73 = .ok (.aload_n 0, 1) := by decide +kernel
theorem d_X5_many_74 : decode m_X5_many.2.1 74 = .ok (.getfield 37, 3) := by decide +kernel
theorem d_X5_many_77 : decode m_X5_many.2.1 77 = .ok (.ireturn, 1) := by decide +kernel
theorem d_X5_many_78 : decode m_X5_many.2.1 78 = .ok (.aload_n 0, 1) := by decide +kernel
theorem d_X5_many_79 : decode m_X5_many.2.1 79 = .ok (.getfield 12, 3) := by decide +kernel
theorem d_X5_many_82 : decode m_X5_many.2.1 82 = .ok (.getfield 155, 3) := by decide +kernel
theorem d_X5_many_85 : decode m_X5_many.2.1 85 = .ok (.ireturn, 1) := by decide +kernel
theorem d_X5_many_86 : decode m_X5_many.2.1 86 = .ok (.aload_n 0, 1) := by decide +kernel
theorem d_X5_many_87 : decode m_X5_many.2.1 87 = .ok (.getfield 12, 3) := by decide +kernel
theorem d_X5_many_90 : decode m_X5_many.2.1 90 = .ok (.invokevirtual 132, 3) := by decide +kernel
theorem d_X5_many_93 : decode m_X5_many.2.1 93 = .ok (.ireturn, 1) := by decide +kernel
theorem d_X5_many_94 : decode m_X5_many.2.1 94 = .ok (.bipush (-2), 2) := by decide +kernel
theorem d_X5_many_96 : decode m_X5_many.2.1 96 = .ok (.ireturn, 1) := by decide +kernel
theorem d_X5_isWithin_0 : decode m_X5_isWithin.2.1 0 = .ok (.iload_n 0, 1) := by decide +kernel
theorem d_X5_isWithin_1 : decode m_X5_isWithin.2.1 1 = .ok (.iload_n 1, 1) := by decide +kernel
theorem d_X5_isWithin_2 : decode m_X5_isWithin.2.1 2 = .ok (.if_icmp .lt 12, 3) := by decide +kernel
theorem d_X5_isWithin_5 : decode m_X5_isWithin.2.1 5 = .ok (.iload_n 0, 1) := by decide +kernel
theorem d_X5_isWithin_6 : decode m_X5_isWithin.2.1 6 = .ok (.iload_n 2, 1) := by decide +kernel
theorem d_X5_isWithin_7 : decode m_X5_isWithin.2.1 7 = .ok (.if_icmp .gt 7, 3) := by decide +kernel
theorem d_X5_isWithin_10 : decode m_X5_isWithin.2.1 10 = .ok (.iconst 1, 1) := by decide +kernel
theorem d_X5_isWithin_11 : decode m_X5_isWithin.2.1 11 = .ok (.goto 4, 3) := by decide +kernel
theorem d_X5_isWithin_14 : decode m_X5_isWithin.2.1 14 = .ok (.iconst 0, 1) := by decide +kernel
theorem d_X5_isWithin_15 : decode m_X5_isWithin.2.1 15 = .ok (.ireturn, 1) := by decide +kernel
theorem d_X5_isSheet_0 : decode m_X5_isSheet.2.1 0 = .ok (.iload_n 0, 1) := by decide +kernel
theorem d_X5_isSheet_1 : decode m_X5_isSheet.2.1 1 = .ok (.iconst 0, 1) := by decide +kernel
theorem d_X5_isSheet_2 : decode m_X5_isSheet.2.1 2 = .ok (.iconst 3, 1) := by decide +kernel
theorem d_X5_isSheet_3 : decode m_X5_isSheet.2.1 3 = .ok (.invokestatic 125, 3) := by decide +kernel
theorem d_X5_isSheet_6 : decode m_X5_isSheet.2.1 6 = .ok (.ireturn, 1) := by decide +kernel
theorem d_X5_isLane_0 : decode m_X5_isLane.2.1 0 = .ok (.iload_n 0, 1) := by decide +kernel
theorem d_X5_isLane_1 : decode m_X5_isLane.2.1 1 = .ok (.iconst 0, 1) := by decide +kernel
theorem d_X5_isLane_2 : decode m_X5_isLane.2.1 2 = .ok (.iconst 2, 1) := by decide +kernel
theorem d_X5_isLane_3 : decode m_X5_isLane.2.1 3 = .ok (.invokestatic 125, 3) := by decide +kernel
theorem d_X5_isLane_6 : decode m_X5_isLane.2.1 6 = .ok (.ireturn, 1) := by decide +kernel
theorem d_X5_isAskedOfDay_0 : decode m_X5_isAskedOfDay.2.1 0 = .ok (.iload_n 0, 1) := by decide +kernel
theorem d_X5_isAskedOfDay_1 : decode m_X5_isAskedOfDay.2.1 1 = .ok (.iconst 0, 1) := by decide +kernel
theorem d_X5_isAskedOfDay_2 : decode m_X5_isAskedOfDay.2.1 2 = .ok (.iconst 4, 1) := by decide +kernel
theorem d_X5_isAskedOfDay_3 : decode m_X5_isAskedOfDay.2.1 3 = .ok (.invokestatic 125, 3) := by decide +kernel
theorem d_X5_isAskedOfDay_6 : decode m_X5_isAskedOfDay.2.1 6 = .ok (.ifCond .ne 14, 3) := by decide +kernel
theorem d_X5_isAskedOfDay_9 : decode m_X5_isAskedOfDay.2.1 9 = .ok (.iload_n 0, 1) := by decide +kernel
theorem d_X5_isAskedOfDay_10 : decode m_X5_isAskedOfDay.2.1 10 = .ok (.bipush 10, 2) := by decide +kernel
theorem d_X5_isAskedOfDay_12 : decode m_X5_isAskedOfDay.2.1 12 = .ok (.bipush 14, 2) := by decide +kernel
theorem d_X5_isAskedOfDay_14 : decode m_X5_isAskedOfDay.2.1 14 = .ok (.invokestatic 125, 3) := by decide +kernel
theorem d_X5_isAskedOfDay_17 : decode m_X5_isAskedOfDay.2.1 17 = .ok (.ifCond .eq 7, 3) := by decide +kernel
theorem d_X5_isAskedOfDay_20 : decode m_X5_isAskedOfDay.2.1 20 = .ok (.iconst 1, 1) := by decide +kernel
theorem d_X5_isAskedOfDay_21 : decode m_X5_isAskedOfDay.2.1 21 = .ok (.goto 4, 3) := by decide +kernel
theorem d_X5_isAskedOfDay_24 : decode m_X5_isAskedOfDay.2.1 24 = .ok (.iconst 0, 1) := by decide +kernel
theorem d_X5_isAskedOfDay_25 : decode m_X5_isAskedOfDay.2.1 25 = .ok (.ireturn, 1) := by decide +kernel
theorem d_X5_hasParish_0 : decode m_X5_hasParish.2.1 0 = .ok (.aload_n 0, 1) := by decide +kernel
theorem d_X5_hasParish_1 : decode m_X5_hasParish.2.1 1 = .ok (.getfield 12, 3) := by decide +kernel
theorem d_X5_hasParish_4 : decode m_X5_hasParish.2.1 4 = .ok (.getfield 74, 3) := by decide +kernel
theorem d_X5_hasParish_7 : decode m_X5_hasParish.2.1 7 = .ok (.ifCond .le 7, 3) := by decide +kernel
theorem d_X5_hasParish_10 : decode m_X5_hasParish.2.1 10 = .ok (.iconst 1, 1) := by decide +kernel
theorem d_X5_hasParish_11 : decode m_X5_hasParish.2.1 11 = .ok (.goto 4, 3) := by decide +kernel
theorem d_X5_hasParish_14 : decode m_X5_hasParish.2.1 14 = .ok (.iconst 0, 1) := by decide +kernel
theorem d_X5_hasParish_15 : decode m_X5_hasParish.2.1 15 = .ok (.ireturn, 1) := by decide +kernel
theorem d_X5_faulted_0 : decode m_X5_faulted.2.1 0 = .ok (.aload_n 0, 1) := by decide +kernel
theorem d_X5_faulted_1 : decode m_X5_faulted.2.1 1 = .ok (.iload_n 1, 1) := by decide +kernel
theorem d_X5_faulted_2 : decode m_X5_faulted.2.1 2 = .ok (.putfield 47, 3) := by decide +kernel
theorem d_X5_faulted_5 : decode m_X5_faulted.2.1 5 = .ok (.bipush (-10), 2) := by decide +kernel
theorem d_X5_faulted_7 : decode m_X5_faulted.2.1 7 = .ok (.iload_n 1, 1) := by decide +kernel
theorem d_X5_faulted_8 : decode m_X5_faulted.2.1 8 = .ok (.isub, 1) := by decide +kernel
theorem d_X5_faulted_9 : decode m_X5_faulted.2.1 9 = .ok (.ireturn, 1) := by decide +kernel
theorem d_X5_faultOfCells_0 : decode m_X5_faultOfCells.2.1 0 = .ok (.aload_n 0, 1) := by decide +kernel
theorem d_X5_faultOfCells_1 : decode m_X5_faultOfCells.2.1 1 = .ok (.getfield 207, 3) := by decide +kernel
theorem d_X5_faultOfCells_4 : decode m_X5_faultOfCells.2.1 4 = .ok (.ifCond .ne 5, 3) := by decide +kernel
theorem d_X5_faultOfCells_7 : decode m_X5_faultOfCells.2.1 7 = .ok (.iconst 1, 1) := by decide +kernel
theorem d_X5_faultOfCells_8 : decode m_X5_faultOfCells.2.1 8 = .ok (.ireturn, 1) := by decide +kernel
theorem d_X5_faultOfCells_9 : decode m_X5_faultOfCells.2.1 9 = .ok (.aload_n 0, 1) := by decide +kernel
theorem d_X5_faultOfCells_10 : decode m_X5_faultOfCells.2.1 10 = .ok (.getfield 219, 3) := by decide +kernel
theorem d_X5_faultOfCells_13 : decode m_X5_faultOfCells.2.1 13 = .ok (.iload_n 1, 1) := by decide +kernel
theorem d_X5_faultOfCells_14 : decode m_X5_faultOfCells.2.1 14 = .ok (.if_icmp .eq 5, 3) := by decide +kernel
theorem d_X5_faultOfCells_17 : decode m_X5_faultOfCells.2.1 17 = .ok (.iconst 2, 1) := by decide +kernel
theorem d_X5_faultOfCells_18 : decode m_X5_faultOfCells.2.1 18 = .ok (.ireturn, 1) := by decide +kernel
theorem d_X5_faultOfCells_19 : decode m_X5_faultOfCells.2.1 19 = .ok (.iload_n 3, 1) := by decide +kernel
theorem d_X5_faultOfCells_20 : decode m_X5_faultOfCells.2.1 20 = .ok (.ifCond .ge 5, 3) := by decide +kernel
theorem d_X5_faultOfCells_23 : decode m_X5_faultOfCells.2.1 23 = .ok (.iconst 4, 1) := by decide +kernel
theorem d_X5_faultOfCells_24 : decode m_X5_faultOfCells.2.1 24 = .ok (.ireturn, 1) := by decide +kernel
theorem d_X5_faultOfCells_25 : decode m_X5_faultOfCells.2.1 25 = .ok (.aload_n 0, 1) := by decide +kernel
theorem d_X5_faultOfCells_26 : decode m_X5_faultOfCells.2.1 26 = .ok (.iload_n 2, 1) := by decide +kernel
theorem d_X5_faultOfCells_27 : decode m_X5_faultOfCells.2.1 27 = .ok (.iload_n 3, 1) := by decide +kernel
theorem d_X5_faultOfCells_28 : decode m_X5_faultOfCells.2.1 28 = .ok (.invokevirtual 210, 3) := by decide +kernel
theorem d_X5_faultOfCells_31 : decode m_X5_faultOfCells.2.1 31 = .ok (.ifCond .eq 7, 3) := by decide +kernel
theorem d_X5_faultOfCells_34 : decode m_X5_faultOfCells.2.1 34 = .ok (.iconst 0, 1) := by decide +kernel
theorem d_X5_faultOfCells_35 : decode m_X5_faultOfCells.2.1 35 = .ok (.goto 4, 3) := by decide +kernel
theorem d_X5_faultOfCells_38 : decode m_X5_faultOfCells.2.1 38 = .ok (.iconst 3, 1) := by decide +kernel
theorem d_X5_faultOfCells_39 : decode m_X5_faultOfCells.2.1 39 = .ok (.ireturn, 1) := by decide +kernel
theorem d_X5_firstFaultOfText_0 : decode m_X5_firstFaultOfText.2.1 0 = .ok (.new 247, 3) := by decide +kernel
theorem d_X5_firstFaultOfText_3 : decode m_X5_firstFaultOfText.2.1 3 = .ok (.dup, 1) := by decide +kernel
theorem d_X5_firstFaultOfText_4 : decode m_X5_firstFaultOfText.2.1 4 = .ok (.aload_n 0, 1) := by decide +kernel
theorem d_X5_firstFaultOfText_5 : decode m_X5_firstFaultOfText.2.1 5 = .ok (.getfield 18, 3) := by decide +kernel
theorem d_X5_firstFaultOfText_8 : decode m_X5_firstFaultOfText.2.1 8 = .ok (.invokespecial 249, 3) := by decide +kernel
theorem d_X5_firstFaultOfText_11 : decode m_X5_firstFaultOfText.2.1 11 = .ok (.astore 4, 2) := by decide +kernel
theorem d_X5_firstFaultOfText_13 : decode m_X5_firstFaultOfText.2.1 13 = .ok (.iconst 0, 1) := by decide +kernel
theorem d_X5_firstFaultOfText_14 : decode m_X5_firstFaultOfText.2.1 14 = .ok (.istore 5, 2) := by decide +kernel
theorem d_X5_firstFaultOfText_16 : decode m_X5_firstFaultOfText.2.1 16 = .ok (.iload 5, 2) := by decide +kernel
theorem d_X5_firstFaultOfText_18 : decode m_X5_firstFaultOfText.2.1 18 = .ok (.iload_n 3, 1) := by decide +kernel
theorem d_X5_firstFaultOfText_19 : decode m_X5_firstFaultOfText.2.1 19 = .ok (.if_icmp .ge 29, 3) := by decide +kernel
theorem d_X5_firstFaultOfText_22 : decode m_X5_firstFaultOfText.2.1 22 = .ok (.aload 4, 2) := by decide +kernel
theorem d_X5_firstFaultOfText_24 : decode m_X5_firstFaultOfText.2.1 24 = .ok (.aload_n 1, 1) := by decide +kernel
theorem d_X5_firstFaultOfText_25 : decode m_X5_firstFaultOfText.2.1 25 = .ok (.getfield 213, 3) := by decide +kernel
theorem d_X5_firstFaultOfText_28 : decode m_X5_firstFaultOfText.2.1 28 = .ok (.iload_n 2, 1) := by decide +kernel
theorem d_X5_firstFaultOfText_29 : decode m_X5_firstFaultOfText.2.1 29 = .ok (.iload 5, 2) := by decide +kernel
theorem d_X5_firstFaultOfText_31 : decode m_X5_firstFaultOfText.2.1 31 = .ok (.iadd, 1) := by decide +kernel
theorem d_X5_firstFaultOfText_32 : decode m_X5_firstFaultOfText.2.1 32 = .ok (.iaload, 1) := by decide +kernel
theorem d_X5_firstFaultOfText_33 : decode m_X5_firstFaultOfText.2.1 33 = .ok (.invokevirtual 251, 3) := by decide +kernel
theorem d_X5_firstFaultOfText_36 : decode m_X5_firstFaultOfText.2.1 36 = .ok (.ifCond .ne 6, 3) := by decide +kernel
theorem d_X5_firstFaultOfText_39 : decode m_X5_firstFaultOfText.2.1 39 = .ok (.iload 5, 2) := by decide +kernel
theorem d_X5_firstFaultOfText_41 : decode m_X5_firstFaultOfText.2.1 41 = .ok (.ireturn, 1) := by decide +kernel
theorem d_X5_firstFaultOfText_42 : decode m_X5_firstFaultOfText.2.1 42 = .ok (.iinc 5 1, 3) := by decide +kernel
theorem d_X5_firstFaultOfText_45 : decode m_X5_firstFaultOfText.2.1 45 = .ok (.goto (-29), 3) := by decide +kernel
theorem d_X5_firstFaultOfText_48 : decode m_X5_firstFaultOfText.2.1 48 = .ok (.aload 4, 2) := by decide +kernel
theorem d_X5_firstFaultOfText_50 : decode m_X5_firstFaultOfText.2.1 50 = .ok (.invokevirtual 254, 3) := by decide +kernel
theorem d_X5_firstFaultOfText_53 : decode m_X5_firstFaultOfText.2.1 53 = .ok (.ifCond .eq 8, 3) := by decide +kernel
theorem d_X5_firstFaultOfText_56 : decode m_X5_firstFaultOfText.2.1 56 = .ok (.bipush (-9), 2) := by decide +kernel
theorem d_X5_firstFaultOfText_58 : decode m_X5_firstFaultOfText.2.1 58 = .ok (.goto 4, 3) := by decide +kernel
theorem d_X5_firstFaultOfText_61 : decode m_X5_firstFaultOfText.2.1 61 = .ok (.iload_n 3, 1) := by decide +kernel
theorem d_X5_firstFaultOfText_62 : decode m_X5_firstFaultOfText.2.1 62 = .ok (.ireturn, 1) := by decide +kernel
theorem d_X5_areActs_0 : decode m_X5_areActs.2.1 0 = .ok (.iconst 0, 1) := by decide +kernel
theorem d_X5_areActs_1 : decode m_X5_areActs.2.1 1 = .ok (.istore_n 3, 1) := by decide +kernel
theorem d_X5_areActs_2 : decode m_X5_areActs.2.1 2 = .ok (.iload_n 3, 1) := by decide +kernel
theorem d_X5_areActs_3 : decode m_X5_areActs.2.1 3 = .ok (.iload_n 2, 1) := by decide +kernel
theorem d_X5_areActs_4 : decode m_X5_areActs.2.1 4 = .ok (.if_icmp .ge 28, 3) := by decide +kernel
theorem d_X5_areActs_7 : decode m_X5_areActs.2.1 7 = .ok (.aload_n 0, 1) := by decide +kernel
theorem d_X5_areActs_8 : decode m_X5_areActs.2.1 8 = .ok (.getfield 213, 3) := by decide +kernel
theorem d_X5_areActs_11 : decode m_X5_areActs.2.1 11 = .ok (.iload_n 1, 1) := by decide +kernel
theorem d_X5_areActs_12 : decode m_X5_areActs.2.1 12 = .ok (.iload_n 3, 1) := by decide +kernel
theorem d_X5_areActs_13 : decode m_X5_areActs.2.1 13 = .ok (.iadd, 1) := by decide +kernel
theorem d_X5_areActs_14 : decode m_X5_areActs.2.1 14 = .ok (.iaload, 1) := by decide +kernel
theorem d_X5_areActs_15 : decode m_X5_areActs.2.1 15 = .ok (.iconst 0, 1) := by decide +kernel
theorem d_X5_areActs_16 : decode m_X5_areActs.2.1 16 = .ok (.bipush 14, 2) := by decide +kernel
theorem d_X5_areActs_18 : decode m_X5_areActs.2.1 18 = .ok (.invokestatic 125, 3) := by decide +kernel
theorem d_X5_areActs_21 : decode m_X5_areActs.2.1 21 = .ok (.ifCond .ne 5, 3) := by decide +kernel
theorem d_X5_areActs_24 : decode m_X5_areActs.2.1 24 = .ok (.iconst 0, 1) := by decide +kernel
theorem d_X5_areActs_25 : decode m_X5_areActs.2.1 25 = .ok (.ireturn, 1) := by decide +kernel
theorem d_X5_areActs_26 : decode m_X5_areActs.2.1 26 = .ok (.iinc 3 1, 3) := by decide +kernel
theorem d_X5_areActs_29 : decode m_X5_areActs.2.1 29 = .ok (.goto (-27), 3) := by decide +kernel
theorem d_X5_areActs_32 : decode m_X5_areActs.2.1 32 = .ok (.iconst 1, 1) := by decide +kernel
theorem d_X5_areActs_33 : decode m_X5_areActs.2.1 33 = .ok (.ireturn, 1) := by decide +kernel
theorem d_X5_firstWrongOfDay_0 : decode m_X5_firstWrongOfDay.2.1 0 = .ok (.aload_n 0, 1) := by decide +kernel
theorem d_X5_firstWrongOfDay_1 : decode m_X5_firstWrongOfDay.2.1 1 = .ok (.getfield 18, 3) := by decide +kernel
theorem d_X5_firstWrongOfDay_4 : decode m_X5_firstWrongOfDay.2.1 4 = .ok (.aload_n 0, 1) := by decide +kernel
theorem d_X5_firstWrongOfDay_5 : decode m_X5_firstWrongOfDay.2.1 5 = .ok (.getfield 12, 3) := by decide +kernel
theorem d_X5_firstWrongOfDay_8 : decode m_X5_firstWrongOfDay.2.1 8 = .ok (.invokevirtual 70, 3) := by decide +kernel
theorem d_X5_firstWrongOfDay_11 : decode m_X5_firstWrongOfDay.2.1 11 = .ok (.iconst 0, 1) := by decide +kernel
theorem d_X5_firstWrongOfDay_12 : decode m_X5_firstWrongOfDay.2.1 12 = .ok (.istore 4, 2) := by decide +kernel
theorem d_X5_firstWrongOfDay_14 : decode m_X5_firstWrongOfDay.2.1 14 = .ok (.iload 4, 2) := by decide +kernel
theorem d_X5_firstWrongOfDay_16 : decode m_X5_firstWrongOfDay.2.1 16 = .ok (.iload_n 3, 1) := by decide +kernel
theorem d_X5_firstWrongOfDay_17 : decode m_X5_firstWrongOfDay.2.1 17 = .ok (.if_icmp .ge 31, 3) := by decide +kernel
theorem d_X5_firstWrongOfDay_20 : decode m_X5_firstWrongOfDay.2.1 20 = .ok (.aload_n 0, 1) := by decide +kernel
theorem d_X5_firstWrongOfDay_21 : decode m_X5_firstWrongOfDay.2.1 21 = .ok (.getfield 18, 3) := by decide +kernel
theorem d_X5_firstWrongOfDay_24 : decode m_X5_firstWrongOfDay.2.1 24 = .ok (.aload_n 1, 1) := by decide +kernel
theorem d_X5_firstWrongOfDay_25 : decode m_X5_firstWrongOfDay.2.1 25 = .ok (.getfield 213, 3) := by decide +kernel
theorem d_X5_firstWrongOfDay_28 : decode m_X5_firstWrongOfDay.2.1 28 = .ok (.iload_n 2, 1) := by decide +kernel
theorem d_X5_firstWrongOfDay_29 : decode m_X5_firstWrongOfDay.2.1 29 = .ok (.iload 4, 2) := by decide +kernel
theorem d_X5_firstWrongOfDay_31 : decode m_X5_firstWrongOfDay.2.1 31 = .ok (.iadd, 1) := by decide +kernel
theorem d_X5_firstWrongOfDay_32 : decode m_X5_firstWrongOfDay.2.1 32 = .ok (.iaload, 1) := by decide +kernel
theorem d_X5_firstWrongOfDay_33 : decode m_X5_firstWrongOfDay.2.1 33 = .ok (.invokevirtual 257, 3) := by decide +kernel
theorem d_X5_firstWrongOfDay_36 : decode m_X5_firstWrongOfDay.2.1 36 = .ok (.ifCond .ne 6, 3) := by decide +kernel
theorem d_X5_firstWrongOfDay_39 : decode m_X5_firstWrongOfDay.2.1 39 = .ok (.iload 4, 2) := by decide +kernel
theorem d_X5_firstWrongOfDay_41 : decode m_X5_firstWrongOfDay.2.1 41 = .ok (.ireturn, 1) := by decide +kernel
theorem d_X5_firstWrongOfDay_42 : decode m_X5_firstWrongOfDay.2.1 42 = .ok (.iinc 4 1, 3) := by decide +kernel
theorem d_X5_firstWrongOfDay_45 : decode m_X5_firstWrongOfDay.2.1 45 = .ok (.goto (-31), 3) := by decide +kernel
theorem d_X5_firstWrongOfDay_48 : decode m_X5_firstWrongOfDay.2.1 48 = .ok (.bipush (-9), 2) := by decide +kernel
theorem d_X5_firstWrongOfDay_50 : decode m_X5_firstWrongOfDay.2.1 50 = .ok (.ireturn, 1) := by decide +kernel
theorem d_X5_afterDay_0 : decode m_X5_afterDay.2.1 0 = .ok (.iload_n 1, 1) := by decide +kernel
theorem d_X5_afterDay_1 : decode m_X5_afterDay.2.1 1 = .ok (.tableswitch 75 0 4 #[35, 75, 43, 59, 67], 35) := by decide +kernel
theorem d_X5_afterDay_36 : decode m_X5_afterDay.2.1 36 = .ok (.aload_n 0, 1) := by decide +kernel
theorem d_X5_afterDay_37 : decode m_X5_afterDay.2.1 37 = .ok (.getfield 18, 3) := by decide +kernel
theorem d_X5_afterDay_40 : decode m_X5_afterDay.2.1 40 = .ok (.invokevirtual 132, 3) := by decide +kernel
theorem d_X5_afterDay_43 : decode m_X5_afterDay.2.1 43 = .ok (.ireturn, 1) := by decide +kernel
theorem d_X5_afterDay_44 : decode m_X5_afterDay.2.1 44 = .ok (.aload_n 0, 1) := by decide +kernel
theorem d_X5_afterDay_45 : decode m_X5_afterDay.2.1 45 = .ok (.getfield 18, 3) := by decide +kernel
theorem d_X5_afterDay_48 : decode m_X5_afterDay.2.1 48 = .ok (.invokevirtual 158, 3) := by decide +kernel
theorem d_X5_afterDay_51 : decode m_X5_afterDay.2.1 51 = .ok (.aload_n 0, 1) := by decide +kernel
theorem d_X5_afterDay_52 : decode m_X5_afterDay.2.1 52 = .ok (.getfield 12, 3) := by decide +kernel
theorem d_X5_afterDay_55 : decode m_X5_afterDay.2.1 55 = .ok (.invokevirtual 158, 3) := by decide +kernel
theorem d_X5_afterDay_58 : decode m_X5_afterDay.2.1 58 = .ok (.isub, 1) := by decide +kernel
theorem d_X5_afterDay_59 : decode m_X5_afterDay.2.1 59 = .ok (.ireturn, 1) := by decide +kernel
theorem d_X5_afterDay_60 : decode m_X5_afterDay.2.1 60 = .ok (.aload_n 0, 1) := by decide +kernel
theorem d_X5_afterDay_61 : decode m_X5_afterDay.2.1 61 = .ok (.getfield 18, 3) := by decide +kernel
theorem d_X5_afterDay_64 : decode m_X5_afterDay.2.1 64 = .ok (.invokevirtual 260, 3) := by decide +kernel
theorem d_X5_afterDay_67 : decode m_X5_afterDay.2.1 67 = .ok (.ireturn, 1) := by decide +kernel
theorem d_X5_afterDay_68 : decode m_X5_afterDay.2.1 68 = .ok (.aload_n 0, 1) := by decide +kernel
theorem d_X5_afterDay_69 : decode m_X5_afterDay.2.1 69 = .ok (.getfield 18, 3) := by decide +kernel
theorem d_X5_afterDay_72 : decode m_X5_afterDay.2.1 72 = .ok (.getfield 155, 3) := by decide +kernel
theorem d_X5_afterDay_75 : decode m_X5_afterDay.2.1 75 = .ok (.ireturn, 1) := by decide +kernel
theorem d_X5_afterDay_76 : decode m_X5_afterDay.2.1 76 = .ok (.iload_n 1, 1) := by decide +kernel
theorem d_X5_afterDay_77 : decode m_X5_afterDay.2.1 77 = .ok (.bipush 10, 2) := by decide +kernel
theorem d_X5_afterDay_79 : decode m_X5_afterDay.2.1 79 = .ok (.isub, 1) := by decide +kernel
theorem d_X5_afterDay_80 : decode m_X5_afterDay.2.1 80 = .ok (.istore_n 2, 1) := by decide +kernel
theorem d_X5_afterDay_81 : decode m_X5_afterDay.2.1 81 = .ok (.aload_n 0, 1) := by decide +kernel
theorem d_X5_afterDay_82 : decode m_X5_afterDay.2.1 82 = .ok (.getfield 18, 3) := by decide +kernel
theorem d_X5_afterDay_85 : decode m_X5_afterDay.2.1 85 = .ok (.iload_n 2, 1) := by decide +kernel
theorem d_X5_afterDay_86 : decode m_X5_afterDay.2.1 86 = .ok (.invokevirtual 77, 3) := by decide +kernel
theorem d_X5_afterDay_89 : decode m_X5_afterDay.2.1 89 = .ok (.ifCond .eq 18, 3) := by decide +kernel
theorem d_X5_afterDay_92 : decode m_X5_afterDay.2.1 92 = .ok (.aload_n 0, 1) := by decide +kernel
theorem d_X5_afterDay_93 : decode m_X5_afterDay.2.1 93 = .ok (.getfield 18, 3) := by decide +kernel
theorem d_X5_afterDay_96 : decode m_X5_afterDay.2.1 96 = .ok (.getfield 80, 3) := by decide +kernel
theorem d_X5_afterDay_99 : decode m_X5_afterDay.2.1 99 = .ok (.iload_n 2, 1) := by decide +kernel
theorem d_X5_afterDay_100 : decode m_X5_afterDay.2.1 100 = .ok (.aaload, 1) := by decide +kernel
theorem d_X5_afterDay_101 : decode m_X5_afterDay.2.1 101 = .ok (.getfield 92, 3) := by decide +kernel
theorem d_X5_afterDay_104 : decode m_X5_afterDay.2.1 104 = .ok (.goto 5, 3) := by decide +kernel
theorem d_X5_afterDay_107 : decode m_X5_afterDay.2.1 107 = .ok (.bipush (-9), 2) := by decide +kernel
theorem d_X5_afterDay_109 : decode m_X5_afterDay.2.1 109 = .ok (.ireturn, 1) := by decide +kernel
theorem d_X5_isQuietIfOwned_0 : decode m_X5_isQuietIfOwned.2.1 0 = .ok (.aload_n 0, 1) := by decide +kernel
theorem d_X5_isQuietIfOwned_1 : decode m_X5_isQuietIfOwned.2.1 1 = .ok (.getfield 18, 3) := by decide +kernel
theorem d_X5_isQuietIfOwned_4 : decode m_X5_isQuietIfOwned.2.1 4 = .ok (.aload_n 0, 1) := by decide +kernel
theorem d_X5_isQuietIfOwned_5 : decode m_X5_isQuietIfOwned.2.1 5 = .ok (.getfield 12, 3) := by decide +kernel
theorem d_X5_isQuietIfOwned_8 : decode m_X5_isQuietIfOwned.2.1 8 = .ok (.invokevirtual 70, 3) := by decide +kernel
theorem d_X5_isQuietIfOwned_11 : decode m_X5_isQuietIfOwned.2.1 11 = .ok (.aload_n 0, 1) := by decide +kernel
theorem d_X5_isQuietIfOwned_12 : decode m_X5_isQuietIfOwned.2.1 12 = .ok (.getfield 18, 3) := by decide +kernel
theorem d_X5_isQuietIfOwned_15 : decode m_X5_isQuietIfOwned.2.1 15 = .ok (.iload_n 1, 1) := by decide +kernel
theorem d_X5_isQuietIfOwned_16 : decode m_X5_isQuietIfOwned.2.1 16 = .ok (.invokevirtual 263, 3) := by decide +kernel
theorem d_X5_isQuietIfOwned_19 : decode m_X5_isQuietIfOwned.2.1 19 = .ok (.aload_n 0, 1) := by decide +kernel
theorem d_X5_isQuietIfOwned_20 : decode m_X5_isQuietIfOwned.2.1 20 = .ok (.getfield 18, 3) := by decide +kernel
theorem d_X5_isQuietIfOwned_23 : decode m_X5_isQuietIfOwned.2.1 23 = .ok (.iload_n 2, 1) := by decide +kernel
theorem d_X5_isQuietIfOwned_24 : decode m_X5_isQuietIfOwned.2.1 24 = .ok (.invokevirtual 161, 3) := by decide +kernel
theorem d_X5_isQuietIfOwned_27 : decode m_X5_isQuietIfOwned.2.1 27 = .ok (.bipush (-9), 2) := by decide +kernel
theorem d_X5_isQuietIfOwned_29 : decode m_X5_isQuietIfOwned.2.1 29 = .ok (.if_icmp .eq 7, 3) := by decide +kernel
theorem d_X5_isQuietIfOwned_32 : decode m_X5_isQuietIfOwned.2.1 32 = .ok (.iconst 1, 1) := by decide +kernel
theorem d_X5_isQuietIfOwned_33 : decode m_X5_isQuietIfOwned.2.1 33 = .ok (.goto 4, 3) := by decide +kernel
theorem d_X5_isQuietIfOwned_36 : decode m_X5_isQuietIfOwned.2.1 36 = .ok (.iconst 0, 1) := by decide +kernel
theorem d_X5_isQuietIfOwned_37 : decode m_X5_isQuietIfOwned.2.1 37 = .ok (.ireturn, 1) := by decide +kernel
theorem d_X5_nightsIfChosen_0 : decode m_X5_nightsIfChosen.2.1 0 = .ok (.aload_n 0, 1) := by decide +kernel
theorem d_X5_nightsIfChosen_1 : decode m_X5_nightsIfChosen.2.1 1 = .ok (.getfield 18, 3) := by decide +kernel
theorem d_X5_nightsIfChosen_4 : decode m_X5_nightsIfChosen.2.1 4 = .ok (.aload_n 0, 1) := by decide +kernel
theorem d_X5_nightsIfChosen_5 : decode m_X5_nightsIfChosen.2.1 5 = .ok (.getfield 12, 3) := by decide +kernel
theorem d_X5_nightsIfChosen_8 : decode m_X5_nightsIfChosen.2.1 8 = .ok (.invokevirtual 70, 3) := by decide +kernel
theorem d_X5_nightsIfChosen_11 : decode m_X5_nightsIfChosen.2.1 11 = .ok (.iload_n 3, 1) := by decide +kernel
theorem d_X5_nightsIfChosen_12 : decode m_X5_nightsIfChosen.2.1 12 = .ok (.iconst 1, 1) := by decide +kernel
theorem d_X5_nightsIfChosen_13 : decode m_X5_nightsIfChosen.2.1 13 = .ok (.iand, 1) := by decide +kernel
theorem d_X5_nightsIfChosen_14 : decode m_X5_nightsIfChosen.2.1 14 = .ok (.ifCond .eq 16, 3) := by decide +kernel
theorem d_X5_nightsIfChosen_17 : decode m_X5_nightsIfChosen.2.1 17 = .ok (.aload_n 0, 1) := by decide +kernel
theorem d_X5_nightsIfChosen_18 : decode m_X5_nightsIfChosen.2.1 18 = .ok (.getfield 18, 3) := by decide +kernel
theorem d_X5_nightsIfChosen_21 : decode m_X5_nightsIfChosen.2.1 21 = .ok (.getfield 80, 3) := by decide +kernel
theorem d_X5_nightsIfChosen_24 : decode m_X5_nightsIfChosen.2.1 24 = .ok (.iload_n 1, 1) := by decide +kernel
theorem d_X5_nightsIfChosen_25 : decode m_X5_nightsIfChosen.2.1 25 = .ok (.aaload, 1) := by decide +kernel
theorem d_X5_nightsIfChosen_26 : decode m_X5_nightsIfChosen.2.1 26 = .ok (.invokevirtual 129, 3) := by decide +kernel
theorem d_X5_nightsIfChosen_29 : decode m_X5_nightsIfChosen.2.1 29 = .ok (.pop, 1) := by decide +kernel
theorem d_X5_nightsIfChosen_30 : decode m_X5_nightsIfChosen.2.1 30 = .ok (.iload_n 3, 1) := by decide +kernel
theorem d_X5_nightsIfChosen_31 : decode m_X5_nightsIfChosen.2.1 31 = .ok (.iconst 2, 1) := by decide +kernel
theorem d_X5_nightsIfChosen_32 : decode m_X5_nightsIfChosen.2.1 32 = .ok (.iand, 1) := by decide +kernel
theorem d_X5_nightsIfChosen_33 : decode m_X5_nightsIfChosen.2.1 33 = .ok (.ifCond .eq 16, 3) := by decide +kernel
theorem d_X5_nightsIfChosen_36 : decode m_X5_nightsIfChosen.2.1 36 = .ok (.aload_n 0, 1) := by decide +kernel
theorem d_X5_nightsIfChosen_37 : decode m_X5_nightsIfChosen.2.1 37 = .ok (.getfield 18, 3) := by decide +kernel
theorem d_X5_nightsIfChosen_40 : decode m_X5_nightsIfChosen.2.1 40 = .ok (.getfield 80, 3) := by decide +kernel
theorem d_X5_nightsIfChosen_43 : decode m_X5_nightsIfChosen.2.1 43 = .ok (.iload_n 2, 1) := by decide +kernel
theorem d_X5_nightsIfChosen_44 : decode m_X5_nightsIfChosen.2.1 44 = .ok (.aaload, 1) := by decide +kernel
theorem d_X5_nightsIfChosen_45 : decode m_X5_nightsIfChosen.2.1 45 = .ok (.invokevirtual 129, 3) := by decide +kernel
theorem d_X5_nightsIfChosen_48 : decode m_X5_nightsIfChosen.2.1 48 = .ok (.pop, 1) := by decide +kernel
theorem d_X5_nightsIfChosen_49 : decode m_X5_nightsIfChosen.2.1 49 = .ok (.aload_n 0, 1) := by decide +kernel
theorem d_X5_nightsIfChosen_50 : decode m_X5_nightsIfChosen.2.1 50 = .ok (.getfield 18, 3) := by decide +kernel
theorem d_X5_nightsIfChosen_53 : decode m_X5_nightsIfChosen.2.1 53 = .ok (.bipush 20, 2) := by decide +kernel
theorem d_X5_nightsIfChosen_55 : decode m_X5_nightsIfChosen.2.1 55 = .ok (.invokevirtual 161, 3) := by decide +kernel
theorem d_X5_nightsIfChosen_58 : decode m_X5_nightsIfChosen.2.1 58 = .ok (.istore 4, 2) := by decide +kernel
theorem d_X5_nightsIfChosen_60 : decode m_X5_nightsIfChosen.2.1 60 = .ok (.iload 4, 2) := by decide +kernel
theorem d_X5_nightsIfChosen_62 : decode m_X5_nightsIfChosen.2.1 62 = .ok (.bipush (-9), 2) := by decide +kernel
theorem d_X5_nightsIfChosen_64 : decode m_X5_nightsIfChosen.2.1 64 = .ok (.if_icmp .ne 8, 3) := by decide +kernel
theorem d_X5_nightsIfChosen_67 : decode m_X5_nightsIfChosen.2.1 67 = .ok (.bipush 20, 2) := by decide +kernel
theorem d_X5_nightsIfChosen_69 : decode m_X5_nightsIfChosen.2.1 69 = .ok (.goto 5, 3) := by decide +kernel
theorem d_X5_nightsIfChosen_72 : decode m_X5_nightsIfChosen.2.1 72 = .ok (.iload 4, 2) := by decide +kernel
theorem d_X5_nightsIfChosen_74 : decode m_X5_nightsIfChosen.2.1 74 = .ok (.ireturn, 1) := by decide +kernel
theorem d_X5_isContent_0 : decode m_X5_isContent.2.1 0 = .ok (.aload_n 0, 1) := by decide +kernel
theorem d_X5_isContent_1 : decode m_X5_isContent.2.1 1 = .ok (.iload_n 1, 1) := by decide +kernel
theorem d_X5_isContent_2 : decode m_X5_isContent.2.1 2 = .ok (.iload_n 2, 1) := by decide +kernel
theorem d_X5_isContent_3 : decode m_X5_isContent.2.1 3 = .ok (.iload_n 3, 1) := by decide +kernel
theorem d_X5_isContent_4 : decode m_X5_isContent.2.1 4 = .ok (.invokevirtual 266, 3) := by decide +kernel
theorem d_X5_isContent_7 : decode m_X5_isContent.2.1 7 = .ok (.aload_n 0, 1) := by decide +kernel
theorem d_X5_isContent_8 : decode m_X5_isContent.2.1 8 = .ok (.iload_n 1, 1) := by decide +kernel
theorem d_X5_isContent_9 : decode m_X5_isContent.2.1 9 = .ok (.iload_n 2, 1) := by decide +kernel
theorem d_X5_isContent_10 : decode m_X5_isContent.2.1 10 = .ok (.iload_n 3, 1) := by decide +kernel
theorem d_X5_isContent_11 : decode m_X5_isContent.2.1 11 = .ok (.iload_n 2, 1) := by decide +kernel
theorem d_X5_isContent_12 : decode m_X5_isContent.2.1 12 = .ok (.ixor, 1) := by decide +kernel
theorem d_X5_isContent_13 : decode m_X5_isContent.2.1 13 = .ok (.invokevirtual 266, 3) := by decide +kernel
theorem d_X5_isContent_16 : decode m_X5_isContent.2.1 16 = .ok (.if_icmp .gt 7, 3) := by decide +kernel
theorem d_X5_isContent_19 : decode m_X5_isContent.2.1 19 = .ok (.iconst 1, 1) := by decide +kernel
theorem d_X5_isContent_20 : decode m_X5_isContent.2.1 20 = .ok (.goto 4, 3) := by decide +kernel
theorem d_X5_isContent_23 : decode m_X5_isContent.2.1 23 = .ok (.iconst 0, 1) := by decide +kernel
theorem d_X5_isContent_24 : decode m_X5_isContent.2.1 24 = .ok (.ireturn, 1) := by decide +kernel
theorem d_X5_painOfChoice_0 : decode m_X5_painOfChoice.2.1 0 = .ok (.aload_n 0, 1) := by decide +kernel
theorem d_X5_painOfChoice_1 : decode m_X5_painOfChoice.2.1 1 = .ok (.getfield 34, 3) := by decide +kernel
theorem d_X5_painOfChoice_4 : decode m_X5_painOfChoice.2.1 4 = .ok (.iload_n 3, 1) := by decide +kernel
theorem d_X5_painOfChoice_5 : decode m_X5_painOfChoice.2.1 5 = .ok (.iaload, 1) := by decide +kernel
theorem d_X5_painOfChoice_6 : decode m_X5_painOfChoice.2.1 6 = .ok (.istore 4, 2) := by decide +kernel
theorem d_X5_painOfChoice_8 : decode m_X5_painOfChoice.2.1 8 = .ok (.iload_n 3, 1) := by decide +kernel
theorem d_X5_painOfChoice_9 : decode m_X5_painOfChoice.2.1 9 = .ok (.iload_n 2, 1) := by decide +kernel
theorem d_X5_painOfChoice_10 : decode m_X5_painOfChoice.2.1 10 = .ok (.iand, 1) := by decide +kernel
theorem d_X5_painOfChoice_11 : decode m_X5_painOfChoice.2.1 11 = .ok (.ifCond .ne 6, 3) := by decide +kernel
theorem d_X5_painOfChoice_14 : decode m_X5_painOfChoice.2.1 14 = .ok (.iload 4, 2) := by decide +kernel
theorem d_X5_painOfChoice_16 : decode m_X5_painOfChoice.2.1 16 = .ok (.ireturn, 1) := by decide +kernel
theorem d_X5_painOfChoice_17 : decode m_X5_painOfChoice.2.1 17 = .ok (.aload_n 0, 1) := by decide +kernel
theorem d_X5_painOfChoice_18 : decode m_X5_painOfChoice.2.1 18 = .ok (.getfield 12, 3) := by decide +kernel
theorem d_X5_painOfChoice_21 : decode m_X5_painOfChoice.2.1 21 = .ok (.getfield 80, 3) := by decide +kernel
theorem d_X5_painOfChoice_24 : decode m_X5_painOfChoice.2.1 24 = .ok (.iload_n 1, 1) := by decide +kernel
theorem d_X5_painOfChoice_25 : decode m_X5_painOfChoice.2.1 25 = .ok (.aaload, 1) := by decide +kernel
theorem d_X5_painOfChoice_26 : decode m_X5_painOfChoice.2.1 26 = .ok (.astore 5, 2) := by decide +kernel
theorem d_X5_painOfChoice_28 : decode m_X5_painOfChoice.2.1 28 = .ok (.iload 4, 2) := by decide +kernel
theorem d_X5_painOfChoice_30 : decode m_X5_painOfChoice.2.1 30 = .ok (.aload 5, 2) := by decide +kernel
theorem d_X5_painOfChoice_32 : decode m_X5_painOfChoice.2.1 32 = .ok (.invokevirtual 103, 3) := by decide +kernel
theorem d_X5_painOfChoice_35 : decode m_X5_painOfChoice.2.1 35 = .ok (.ifCond .eq 11, 3) := by decide +kernel
theorem d_X5_painOfChoice_38 : decode m_X5_painOfChoice.2.1 38 = .ok (.aload 5, 2) := by decide +kernel
theorem d_X5_painOfChoice_40 : decode m_X5_painOfChoice.2.1 40 = .ok (.invokevirtual 95, 3) := by decide +kernel
theorem d_X5_painOfChoice_43 : decode m_X5_painOfChoice.2.1 43 = .ok (.goto 5, 3) := by decide +kernel
theorem d_X5_painOfChoice_46 : decode m_X5_painOfChoice.2.1 46 = .ok (.bipush 6, 2) := by decide +kernel
theorem d_X5_painOfChoice_48 : decode m_X5_painOfChoice.2.1 48 = .ok (.iadd, 1) := by decide +kernel
theorem d_X5_painOfChoice_49 : decode m_X5_painOfChoice.2.1 49 = .ok (.ireturn, 1) := by decide +kernel
theorem d_X5_doReadingsHoldOfTrial_0 : decode m_X5_doReadingsHoldOfTrial.2.1 0 = .ok (.aload_n 0, 1) := by decide +kernel
theorem d_X5_doReadingsHoldOfTrial_1 : decode m_X5_doReadingsHoldOfTrial.2.1 1 = .ok (.invokevirtual 269, 3) := by decide +kernel
theorem d_X5_doReadingsHoldOfTrial_4 : decode m_X5_doReadingsHoldOfTrial.2.1 4 = .ok (.istore_n 1, 1) := by decide +kernel
theorem d_X5_doReadingsHoldOfTrial_5 : decode m_X5_doReadingsHoldOfTrial.2.1 5 = .ok (.iconst 0, 1) := by decide +kernel
theorem d_X5_doReadingsHoldOfTrial_6 : decode m_X5_doReadingsHoldOfTrial.2.1 6 = .ok (.istore_n 2, 1) := by decide +kernel
theorem d_X5_doReadingsHoldOfTrial_7 : decode m_X5_doReadingsHoldOfTrial.2.1 7 = .ok (.iload_n 2, 1) := by decide +kernel
theorem d_X5_doReadingsHoldOfTrial_8 : decode m_X5_doReadingsHoldOfTrial.2.1 8 = .ok (.iload_n 1, 1) := by decide +kernel
theorem d_X5_doReadingsHoldOfTrial_9 : decode m_X5_doReadingsHoldOfTrial.2.1 9 = .ok (.if_icmp .gt 33, 3) := by decide +kernel
theorem d_X5_doReadingsHoldOfTrial_12 : decode m_X5_doReadingsHoldOfTrial.2.1 12 = .ok (.aload_n 0, 1) := by decide +kernel
theorem d_X5_doReadingsHoldOfTrial_13 : decode m_X5_doReadingsHoldOfTrial.2.1 13 = .ok (.iload_n 2, 1) := by decide +kernel
theorem d_X5_doReadingsHoldOfTrial_14 : decode m_X5_doReadingsHoldOfTrial.2.1 14 = .ok (.aload_n 0, 1) := by decide +kernel
theorem d_X5_doReadingsHoldOfTrial_15 : decode m_X5_doReadingsHoldOfTrial.2.1 15 = .ok (.getfield 18, 3) := by decide +kernel
theorem d_X5_doReadingsHoldOfTrial_18 : decode m_X5_doReadingsHoldOfTrial.2.1 18 = .ok (.invokevirtual 132, 3) := by decide +kernel
theorem d_X5_doReadingsHoldOfTrial_21 : decode m_X5_doReadingsHoldOfTrial.2.1 21 = .ok (.invokevirtual 272, 3) := by decide +kernel
theorem d_X5_doReadingsHoldOfTrial_24 : decode m_X5_doReadingsHoldOfTrial.2.1 24 = .ok (.ifCond .ne 5, 3) := by decide +kernel
theorem d_X5_doReadingsHoldOfTrial_27 : decode m_X5_doReadingsHoldOfTrial.2.1 27 = .ok (.iconst 0, 1) := by decide +kernel
theorem d_X5_doReadingsHoldOfTrial_28 : decode m_X5_doReadingsHoldOfTrial.2.1 28 = .ok (.ireturn, 1) := by decide +kernel
theorem d_X5_doReadingsHoldOfTrial_29 : decode m_X5_doReadingsHoldOfTrial.2.1 29 = .ok (.aload_n 0, 1) := by decide +kernel
theorem d_X5_doReadingsHoldOfTrial_30 : decode m_X5_doReadingsHoldOfTrial.2.1 30 = .ok (.getfield 18, 3) := by decide +kernel
theorem d_X5_doReadingsHoldOfTrial_33 : decode m_X5_doReadingsHoldOfTrial.2.1 33 = .ok (.invokevirtual 275, 3) := by decide +kernel
theorem d_X5_doReadingsHoldOfTrial_36 : decode m_X5_doReadingsHoldOfTrial.2.1 36 = .ok (.iinc 2 1, 3) := by decide +kernel
theorem d_X5_doReadingsHoldOfTrial_39 : decode m_X5_doReadingsHoldOfTrial.2.1 39 = .ok (.goto (-32), 3) := by decide +kernel
theorem d_X5_doReadingsHoldOfTrial_42 : decode m_X5_doReadingsHoldOfTrial.2.1 42 = .ok (.iconst 1, 1) := by decide +kernel
theorem d_X5_doReadingsHoldOfTrial_43 : decode m_X5_doReadingsHoldOfTrial.2.1 43 = .ok (.ireturn, 1) := by decide +kernel
theorem d_X5_lastNightRead_0 : decode m_X5_lastNightRead.2.1 0 = .ok (.bipush (-9), 2) := by decide +kernel
theorem d_X5_lastNightRead_2 : decode m_X5_lastNightRead.2.1 2 = .ok (.istore_n 1, 1) := by decide +kernel
theorem d_X5_lastNightRead_3 : decode m_X5_lastNightRead.2.1 3 = .ok (.iconst 0, 1) := by decide +kernel
theorem d_X5_lastNightRead_4 : decode m_X5_lastNightRead.2.1 4 = .ok (.istore_n 2, 1) := by decide +kernel
theorem d_X5_lastNightRead_5 : decode m_X5_lastNightRead.2.1 5 = .ok (.iload_n 2, 1) := by decide +kernel
theorem d_X5_lastNightRead_6 : decode m_X5_lastNightRead.2.1 6 = .ok (.aload_n 0, 1) := by decide +kernel
theorem d_X5_lastNightRead_7 : decode m_X5_lastNightRead.2.1 7 = .ok (.getfield 37, 3) := by decide +kernel
theorem d_X5_lastNightRead_10 : decode m_X5_lastNightRead.2.1 10 = .ok (.if_icmp .ge 20, 3) := by decide +kernel
theorem d_X5_lastNightRead_13 : decode m_X5_lastNightRead.2.1 13 = .ok (.iload_n 1, 1) := by decide +kernel
theorem d_X5_lastNightRead_14 : decode m_X5_lastNightRead.2.1 14 = .ok (.aload_n 0, 1) := by decide +kernel
theorem d_X5_lastNightRead_15 : decode m_X5_lastNightRead.2.1 15 = .ok (.getfield 27, 3) := by decide +kernel
theorem d_X5_lastNightRead_18 : decode m_X5_lastNightRead.2.1 18 = .ok (.iload_n 2, 1) := by decide +kernel
theorem d_X5_lastNightRead_19 : decode m_X5_lastNightRead.2.1 19 = .ok (.iaload, 1) := by decide +kernel
theorem d_X5_lastNightRead_20 : decode m_X5_lastNightRead.2.1 20 = .ok (.invokestatic 278, 3) := by decide +kernel
theorem d_X5_lastNightRead_23 : decode m_X5_lastNightRead.2.1 23 = .ok (.istore_n 1, 1) := by decide +kernel
theorem d_X5_lastNightRead_24 : decode m_X5_lastNightRead.2.1 24 = .ok (.iinc 2 1, 3) := by decide +kernel
theorem d_X5_lastNightRead_27 : decode m_X5_lastNightRead.2.1 27 = .ok (.goto (-22), 3) := by decide +kernel
theorem d_X5_lastNightRead_30 : decode m_X5_lastNightRead.2.1 30 = .ok (.iload_n 1, 1) := by decide +kernel
theorem d_X5_lastNightRead_31 : decode m_X5_lastNightRead.2.1 31 = .ok (.ireturn, 1) := by decide +kernel
end
section
theorem d_X5_isVoiceAsRead_0 : decode m_X5_isVoiceAsRead.2.1 0 = .ok (.iconst 0, 1) := by decide +kernel
theorem d_X5_isVoiceAsRead_1 : decode m_X5_isVoiceAsRead.2.1 1 = .ok (.istore_n 3, 1) := by decide +kernel
theorem d_X5_isVoiceAsRead_2 : decode m_X5_isVoiceAsRead.2.1 2 = .ok (.iload_n 3, 1) := by decide +kernel
theorem d_X5_isVoiceAsRead_3 : decode m_X5_isVoiceAsRead.2.1 3 = .ok (.aload_n 0, 1) := by decide +kernel
theorem d_X5_isVoiceAsRead_4 : decode m_X5_isVoiceAsRead.2.1 4 = .ok (.getfield 37, 3) := by decide +kernel
theorem d_X5_isVoiceAsRead_7 : decode m_X5_isVoiceAsRead.2.1 7 = .ok (.if_icmp .ge 31, 3) := by decide +kernel
theorem d_X5_isVoiceAsRead_10 : decode m_X5_isVoiceAsRead.2.1 10 = .ok (.aload_n 0, 1) := by decide +kernel
theorem d_X5_isVoiceAsRead_11 : decode m_X5_isVoiceAsRead.2.1 11 = .ok (.getfield 27, 3) := by decide +kernel
theorem d_X5_isVoiceAsRead_14 : decode m_X5_isVoiceAsRead.2.1 14 = .ok (.iload_n 3, 1) := by decide +kernel
theorem d_X5_isVoiceAsRead_15 : decode m_X5_isVoiceAsRead.2.1 15 = .ok (.iaload, 1) := by decide +kernel
theorem d_X5_isVoiceAsRead_16 : decode m_X5_isVoiceAsRead.2.1 16 = .ok (.iload_n 1, 1) := by decide +kernel
theorem d_X5_isVoiceAsRead_17 : decode m_X5_isVoiceAsRead.2.1 17 = .ok (.if_icmp .ne 15, 3) := by decide +kernel
theorem d_X5_isVoiceAsRead_20 : decode m_X5_isVoiceAsRead.2.1 20 = .ok (.aload_n 0, 1) := by decide +kernel
theorem d_X5_isVoiceAsRead_21 : decode m_X5_isVoiceAsRead.2.1 21 = .ok (.getfield 31, 3) := by decide +kernel
theorem d_X5_isVoiceAsRead_24 : decode m_X5_isVoiceAsRead.2.1 24 = .ok (.iload_n 3, 1) := by decide +kernel
theorem d_X5_isVoiceAsRead_25 : decode m_X5_isVoiceAsRead.2.1 25 = .ok (.iaload, 1) := by decide +kernel
theorem d_X5_isVoiceAsRead_26 : decode m_X5_isVoiceAsRead.2.1 26 = .ok (.iload_n 2, 1) := by decide +kernel
theorem d_X5_isVoiceAsRead_27 : decode m_X5_isVoiceAsRead.2.1 27 = .ok (.if_icmp .eq 5, 3) := by decide +kernel
theorem d_X5_isVoiceAsRead_30 : decode m_X5_isVoiceAsRead.2.1 30 = .ok (.iconst 0, 1) := by decide +kernel
theorem d_X5_isVoiceAsRead_31 : decode m_X5_isVoiceAsRead.2.1 31 = .ok (.ireturn, 1) := by decide +kernel
theorem d_X5_isVoiceAsRead_32 : decode m_X5_isVoiceAsRead.2.1 32 = .ok (.iinc 3 1, 3) := by decide +kernel
theorem d_X5_isVoiceAsRead_35 : decode m_X5_isVoiceAsRead.2.1 35 = .ok (.goto (-33), 3) := by decide +kernel
theorem d_X5_isVoiceAsRead_38 : decode m_X5_isVoiceAsRead.2.1 38 = .ok (.iconst 1, 1) := by decide +kernel
theorem d_X5_isVoiceAsRead_39 : decode m_X5_isVoiceAsRead.2.1 39 = .ok (.ireturn, 1) := by decide +kernel
theorem d_X5_leaveInTrace_0 : decode m_X5_leaveInTrace.2.1 0 = .ok (.aload_n 0, 1) := by decide +kernel
theorem d_X5_leaveInTrace_1 : decode m_X5_leaveInTrace.2.1 1 = .ok (.bipush 31, 2) := by decide +kernel
theorem d_X5_leaveInTrace_3 : decode m_X5_leaveInTrace.2.1 3 = .ok (.aload_n 0, 1) := by decide +kernel
theorem d_X5_leaveInTrace_4 : decode m_X5_leaveInTrace.2.1 4 = .ok (.getfield 44, 3) := by decide +kernel
theorem d_X5_leaveInTrace_7 : decode m_X5_leaveInTrace.2.1 7 = .ok (.imul, 1) := by decide +kernel
theorem d_X5_leaveInTrace_8 : decode m_X5_leaveInTrace.2.1 8 = .ok (.iload_n 1, 1) := by decide +kernel
theorem d_X5_leaveInTrace_9 : decode m_X5_leaveInTrace.2.1 9 = .ok (.iadd, 1) := by decide +kernel
theorem d_X5_leaveInTrace_10 : decode m_X5_leaveInTrace.2.1 10 = .ok (.putfield 44, 3) := by decide +kernel
theorem d_X5_leaveInTrace_13 : decode m_X5_leaveInTrace.2.1 13 = .ok (.return_, 1) := by decide +kernel
theorem d_X5_toldAsPlain_0 : decode m_X5_toldAsPlain.2.1 0 = .ok (.aload_n 0, 1) := by decide +kernel
theorem d_X5_toldAsPlain_1 : decode m_X5_toldAsPlain.2.1 1 = .ok (.iconst 1, 1) := by decide +kernel
theorem d_X5_toldAsPlain_2 : decode m_X5_toldAsPlain.2.1 2 = .ok (.invokevirtual 281, 3) := by decide +kernel
theorem d_X5_toldAsPlain_5 : decode m_X5_toldAsPlain.2.1 5 = .ok (.aload_n 1, 1) := by decide +kernel
theorem d_X5_toldAsPlain_6 : decode m_X5_toldAsPlain.2.1 6 = .ok (.getfield 89, 3) := by decide +kernel
theorem d_X5_toldAsPlain_9 : decode m_X5_toldAsPlain.2.1 9 = .ok (.ireturn, 1) := by decide +kernel
theorem d_X5_toldAsBrooding_0 : decode m_X5_toldAsBrooding.2.1 0 = .ok (.aload_n 0, 1) := by decide +kernel
theorem d_X5_toldAsBrooding_1 : decode m_X5_toldAsBrooding.2.1 1 = .ok (.iconst 2, 1) := by decide +kernel
theorem d_X5_toldAsBrooding_2 : decode m_X5_toldAsBrooding.2.1 2 = .ok (.invokevirtual 281, 3) := by decide +kernel
theorem d_X5_toldAsBrooding_5 : decode m_X5_toldAsBrooding.2.1 5 = .ok (.aload_n 0, 1) := by decide +kernel
theorem d_X5_toldAsBrooding_6 : decode m_X5_toldAsBrooding.2.1 6 = .ok (.aload_n 1, 1) := by decide +kernel
theorem d_X5_toldAsBrooding_7 : decode m_X5_toldAsBrooding.2.1 7 = .ok (.invokevirtual 235, 3) := by decide +kernel
theorem d_X5_toldAsBrooding_10 : decode m_X5_toldAsBrooding.2.1 10 = .ok (.bipush 100, 2) := by decide +kernel
theorem d_X5_toldAsBrooding_12 : decode m_X5_toldAsBrooding.2.1 12 = .ok (.iadd, 1) := by decide +kernel
theorem d_X5_toldAsBrooding_13 : decode m_X5_toldAsBrooding.2.1 13 = .ok (.ireturn, 1) := by decide +kernel
theorem d_X5_toldAsDouble_0 : decode m_X5_toldAsDouble.2.1 0 = .ok (.aload_n 0, 1) := by decide +kernel
theorem d_X5_toldAsDouble_1 : decode m_X5_toldAsDouble.2.1 1 = .ok (.iconst 3, 1) := by decide +kernel
theorem d_X5_toldAsDouble_2 : decode m_X5_toldAsDouble.2.1 2 = .ok (.invokevirtual 281, 3) := by decide +kernel
theorem d_X5_toldAsDouble_5 : decode m_X5_toldAsDouble.2.1 5 = .ok (.aload_n 0, 1) := by decide +kernel
theorem d_X5_toldAsDouble_6 : decode m_X5_toldAsDouble.2.1 6 = .ok (.aload_n 1, 1) := by decide +kernel
theorem d_X5_toldAsDouble_7 : decode m_X5_toldAsDouble.2.1 7 = .ok (.invokevirtual 232, 3) := by decide +kernel
theorem d_X5_toldAsDouble_10 : decode m_X5_toldAsDouble.2.1 10 = .ok (.istore_n 2, 1) := by decide +kernel
theorem d_X5_toldAsDouble_11 : decode m_X5_toldAsDouble.2.1 11 = .ok (.iload_n 2, 1) := by decide +kernel
theorem d_X5_toldAsDouble_12 : decode m_X5_toldAsDouble.2.1 12 = .ok (.aload_n 0, 1) := by decide +kernel
theorem d_X5_toldAsDouble_13 : decode m_X5_toldAsDouble.2.1 13 = .ok (.aload_n 1, 1) := by decide +kernel
theorem d_X5_toldAsDouble_14 : decode m_X5_toldAsDouble.2.1 14 = .ok (.invokevirtual 235, 3) := by decide +kernel
theorem d_X5_toldAsDouble_17 : decode m_X5_toldAsDouble.2.1 17 = .ok (.iadd, 1) := by decide +kernel
theorem d_X5_toldAsDouble_18 : decode m_X5_toldAsDouble.2.1 18 = .ok (.ireturn, 1) := by decide +kernel
theorem d_X5_knockedAsLent_0 : decode m_X5_knockedAsLent.2.1 0 = .ok (.aload_n 0, 1) := by decide +kernel
theorem d_X5_knockedAsLent_1 : decode m_X5_knockedAsLent.2.1 1 = .ok (.iconst 4, 1) := by decide +kernel
theorem d_X5_knockedAsLent_2 : decode m_X5_knockedAsLent.2.1 2 = .ok (.invokevirtual 281, 3) := by decide +kernel
theorem d_X5_knockedAsLent_5 : decode m_X5_knockedAsLent.2.1 5 = .ok (.aload_n 1, 1) := by decide +kernel
theorem d_X5_knockedAsLent_6 : decode m_X5_knockedAsLent.2.1 6 = .ok (.getfield 92, 3) := by decide +kernel
theorem d_X5_knockedAsLent_9 : decode m_X5_knockedAsLent.2.1 9 = .ok (.ireturn, 1) := by decide +kernel
theorem d_X5_knockedAsDouble_0 : decode m_X5_knockedAsDouble.2.1 0 = .ok (.aload_n 0, 1) := by decide +kernel
theorem d_X5_knockedAsDouble_1 : decode m_X5_knockedAsDouble.2.1 1 = .ok (.iconst 5, 1) := by decide +kernel
theorem d_X5_knockedAsDouble_2 : decode m_X5_knockedAsDouble.2.1 2 = .ok (.invokevirtual 281, 3) := by decide +kernel
theorem d_X5_knockedAsDouble_5 : decode m_X5_knockedAsDouble.2.1 5 = .ok (.bipush 70, 2) := by decide +kernel
theorem d_X5_knockedAsDouble_7 : decode m_X5_knockedAsDouble.2.1 7 = .ok (.ireturn, 1) := by decide +kernel
theorem d_X6_init_0 : decode m_X6_init.2.1 0 = .ok (.aload_n 0, 1) := by decide +kernel
theorem d_X6_init_1 : decode m_X6_init.2.1 1 = .ok (.invokespecial 1, 3) := by decide +kernel
theorem d_X6_init_4 : decode m_X6_init.2.1 4 = .ok (.aload_n 0, 1) := by decide +kernel
theorem d_X6_init_5 : decode m_X6_init.2.1 5 = .ok (.iconst 4, 1) := by decide +kernel
theorem d_X6_init_6 : decode m_X6_init.2.1 6 = .ok (.newarray .int, 2) := by decide +kernel
theorem d_X6_init_8 : decode m_X6_init.2.1 8 = .ok (.dup, 1) := by decide +kernel
theorem d_X6_init_9 : decode m_X6_init.2.1 9 = .ok (.iconst 0, 1) := by decide +kernel
theorem d_X6_init_10 : decode m_X6_init.2.1 10 = .ok (.bipush (-9), 2) := by decide +kernel
theorem d_X6_init_12 : decode m_X6_init.2.1 12 = .ok (.iastore, 1) := by decide +kernel
theorem d_X6_init_13 : decode m_X6_init.2.1 13 = .ok (.dup, 1) := by decide +kernel
theorem d_X6_init_14 : decode m_X6_init.2.1 14 = .ok (.iconst 1, 1) := by decide +kernel
theorem d_X6_init_15 : decode m_X6_init.2.1 15 = .ok (.bipush (-9), 2) := by decide +kernel
theorem d_X6_init_17 : decode m_X6_init.2.1 17 = .ok (.iastore, 1) := by decide +kernel
theorem d_X6_init_18 : decode m_X6_init.2.1 18 = .ok (.dup, 1) := by decide +kernel
theorem d_X6_init_19 : decode m_X6_init.2.1 19 = .ok (.iconst 2, 1) := by decide +kernel
theorem d_X6_init_20 : decode m_X6_init.2.1 20 = .ok (.bipush (-9), 2) := by decide +kernel
theorem d_X6_init_22 : decode m_X6_init.2.1 22 = .ok (.iastore, 1) := by decide +kernel
theorem d_X6_init_23 : decode m_X6_init.2.1 23 = .ok (.dup, 1) := by decide +kernel
theorem d_X6_init_24 : decode m_X6_init.2.1 24 = .ok (.iconst 3, 1) := by decide +kernel
theorem d_X6_init_25 : decode m_X6_init.2.1 25 = .ok (.bipush (-9), 2) := by decide +kernel
theorem d_X6_init_27 : decode m_X6_init.2.1 27 = .ok (.iastore, 1) := by decide +kernel
theorem d_X6_init_28 : decode m_X6_init.2.1 28 = .ok (.putfield 9, 3) := by decide +kernel
theorem d_X6_init_31 : decode m_X6_init.2.1 31 = .ok (.aload_n 0, 1) := by decide +kernel
theorem d_X6_init_32 : decode m_X6_init.2.1 32 = .ok (.iconst 4, 1) := by decide +kernel
theorem d_X6_init_33 : decode m_X6_init.2.1 33 = .ok (.newarray .int, 2) := by decide +kernel
theorem d_X6_init_35 : decode m_X6_init.2.1 35 = .ok (.putfield 13, 3) := by decide +kernel
theorem d_X6_init_38 : decode m_X6_init.2.1 38 = .ok (.aload_n 0, 1) := by decide +kernel
theorem d_X6_init_39 : decode m_X6_init.2.1 39 = .ok (.sipush 240, 3) := by decide +kernel
theorem d_X6_init_42 : decode m_X6_init.2.1 42 = .ok (.newarray .int, 2) := by decide +kernel
theorem d_X6_init_44 : decode m_X6_init.2.1 44 = .ok (.putfield 16, 3) := by decide +kernel
theorem d_X6_init_47 : decode m_X6_init.2.1 47 = .ok (.aload_n 0, 1) := by decide +kernel
theorem d_X6_init_48 : decode m_X6_init.2.1 48 = .ok (.iconst 5, 1) := by decide +kernel
theorem d_X6_init_49 : decode m_X6_init.2.1 49 = .ok (.newarray .int, 2) := by decide +kernel
theorem d_X6_init_51 : decode m_X6_init.2.1 51 = .ok (.putfield 19, 3) := by decide +kernel
theorem d_X6_init_54 : decode m_X6_init.2.1 54 = .ok (.aload_n 0, 1) := by decide +kernel
theorem d_X6_init_55 : decode m_X6_init.2.1 55 = .ok (.iconst 5, 1) := by decide +kernel
theorem d_X6_init_56 : decode m_X6_init.2.1 56 = .ok (.newarray .int, 2) := by decide +kernel
theorem d_X6_init_58 : decode m_X6_init.2.1 58 = .ok (.putfield 22, 3) := by decide +kernel
theorem d_X6_init_61 : decode m_X6_init.2.1 61 = .ok (.aload_n 0, 1) := by decide +kernel
theorem d_X6_init_62 : decode m_X6_init.2.1 62 = .ok (.iconst 5, 1) := by decide +kernel
theorem d_X6_init_63 : decode m_X6_init.2.1 63 = .ok (.newarray .int, 2) := by decide +kernel
theorem d_X6_init_65 : decode m_X6_init.2.1 65 = .ok (.putfield 25, 3) := by decide +kernel
theorem d_X6_init_68 : decode m_X6_init.2.1 68 = .ok (.aload_n 0, 1) := by decide +kernel
theorem d_X6_init_69 : decode m_X6_init.2.1 69 = .ok (.iconst 5, 1) := by decide +kernel
theorem d_X6_init_70 : decode m_X6_init.2.1 70 = .ok (.newarray .int, 2) := by decide +kernel
theorem d_X6_init_72 : decode m_X6_init.2.1 72 = .ok (.putfield 28, 3) := by decide +kernel
theorem d_X6_init_75 : decode m_X6_init.2.1 75 = .ok (.aload_n 0, 1) := by decide +kernel
theorem d_X6_init_76 : decode m_X6_init.2.1 76 = .ok (.iconst 4, 1) := by decide +kernel
theorem d_X6_init_77 : decode m_X6_init.2.1 77 = .ok (.newarray .int, 2) := by decide +kernel
theorem d_X6_init_79 : decode m_X6_init.2.1 79 = .ok (.putfield 31, 3) := by decide +kernel
theorem d_X6_init_82 : decode m_X6_init.2.1 82 = .ok (.aload_n 0, 1) := by decide +kernel
theorem d_X6_init_83 : decode m_X6_init.2.1 83 = .ok (.bipush 15, 2) := by decide +kernel
theorem d_X6_init_85 : decode m_X6_init.2.1 85 = .ok (.newarray .int, 2) := by decide +kernel
theorem d_X6_init_87 : decode m_X6_init.2.1 87 = .ok (.putfield 34, 3) := by decide +kernel
theorem d_X6_init_90 : decode m_X6_init.2.1 90 = .ok (.aload_n 0, 1) := by decide +kernel
theorem d_X6_init_91 : decode m_X6_init.2.1 91 = .ok (.iconst 4, 1) := by decide +kernel
theorem d_X6_init_92 : decode m_X6_init.2.1 92 = .ok (.newarray .int, 2) := by decide +kernel
theorem d_X6_init_94 : decode m_X6_init.2.1 94 = .ok (.putfield 37, 3) := by decide +kernel
theorem d_X6_init_97 : decode m_X6_init.2.1 97 = .ok (.aload_n 0, 1) := by decide +kernel
theorem d_X6_init_98 : decode m_X6_init.2.1 98 = .ok (.bipush 30, 2) := by decide +kernel
theorem d_X6_init_100 : decode m_X6_init.2.1 100 = .ok (.newarray .int, 2) := by decide +kernel
theorem d_X6_init_102 : decode m_X6_init.2.1 102 = .ok (.putfield 40, 3) := by decide +kernel
theorem d_X6_init_105 : decode m_X6_init.2.1 105 = .ok (.aload_n 0, 1) := by decide +kernel
theorem d_X6_init_106 : decode m_X6_init.2.1 106 = .ok (.bipush 8, 2) := by decide +kernel
theorem d_X6_init_108 : decode m_X6_init.2.1 108 = .ok (.newarray .int, 2) := by decide +kernel
theorem d_X6_init_110 : decode m_X6_init.2.1 110 = .ok (.putfield 43, 3) := by decide +kernel
theorem d_X6_init_113 : decode m_X6_init.2.1 113 = .ok (.aload_n 0, 1) := by decide +kernel
theorem d_X6_init_114 : decode m_X6_init.2.1 114 = .ok (.bipush 8, 2) := by decide +kernel
theorem d_X6_init_116 : decode m_X6_init.2.1 116 = .ok (.newarray .int, 2) := by decide +kernel
theorem d_X6_init_118 : decode m_X6_init.2.1 118 = .ok (.putfield 46, 3) := by decide +kernel
theorem d_X6_init_121 : decode m_X6_init.2.1 121 = .ok (.aload_n 0, 1) := by decide +kernel
theorem d_X6_init_122 : decode m_X6_init.2.1 122 = .ok (.bipush 8, 2) := by decide +kernel
theorem d_X6_init_124 : decode m_X6_init.2.1 124 = .ok (.newarray .int, 2) := by decide +kernel
theorem d_X6_init_126 : decode m_X6_init.2.1 126 = .ok (.putfield 49, 3) := by decide +kernel
theorem d_X6_init_129 : decode m_X6_init.2.1 129 = .ok (.return_, 1) := by decide +kernel
theorem d_X6_fails_0 : decode m_X6_fails.2.1 0 = .ok (.aload_n 0, 1) := by decide +kernel
theorem d_X6_fails_1 : decode m_X6_fails.2.1 1 = .ok (.iload_n 1, 1) := by decide +kernel
theorem d_X6_fails_2 : decode m_X6_fails.2.1 2 = .ok (.putfield 52, 3) := by decide +kernel
theorem d_X6_fails_5 : decode m_X6_fails.2.1 5 = .ok (.bipush (-10), 2) := by decide +kernel
theorem d_X6_fails_7 : decode m_X6_fails.2.1 7 = .ok (.iload_n 1, 1) := by decide +kernel
theorem d_X6_fails_8 : decode m_X6_fails.2.1 8 = .ok (.isub, 1) := by decide +kernel
theorem d_X6_fails_9 : decode m_X6_fails.2.1 9 = .ok (.ireturn, 1) := by decide +kernel
theorem d_X6_lost_0 : decode m_X6_lost.2.1 0 = .ok (.aload_n 0, 1) := by decide +kernel
theorem d_X6_lost_1 : decode m_X6_lost.2.1 1 = .ok (.iload_n 1, 1) := by decide +kernel
theorem d_X6_lost_2 : decode m_X6_lost.2.1 2 = .ok (.putfield 52, 3) := by decide +kernel
theorem d_X6_lost_5 : decode m_X6_lost.2.1 5 = .ok (.ldc2_w 56, 3) := by decide +kernel
theorem d_X6_lost_8 : decode m_X6_lost.2.1 8 = .ok (.lreturn, 1) := by decide +kernel
theorem d_X6_within_0 : decode m_X6_within.2.1 0 = .ok (.iload_n 0, 1) := by decide +kernel
theorem d_X6_within_1 : decode m_X6_within.2.1 1 = .ok (.iload_n 1, 1) := by decide +kernel
theorem d_X6_within_2 : decode m_X6_within.2.1 2 = .ok (.if_icmp .lt 12, 3) := by decide +kernel
theorem d_X6_within_5 : decode m_X6_within.2.1 5 = .ok (.iload_n 0, 1) := by decide +kernel
theorem d_X6_within_6 : decode m_X6_within.2.1 6 = .ok (.iload_n 2, 1) := by decide +kernel
theorem d_X6_within_7 : decode m_X6_within.2.1 7 = .ok (.if_icmp .gt 7, 3) := by decide +kernel
theorem d_X6_within_10 : decode m_X6_within.2.1 10 = .ok (.iconst 1, 1) := by decide +kernel
theorem d_X6_within_11 : decode m_X6_within.2.1 11 = .ok (.goto 4, 3) := by decide +kernel
theorem d_X6_within_14 : decode m_X6_within.2.1 14 = .ok (.iconst 0, 1) := by decide +kernel
theorem d_X6_within_15 : decode m_X6_within.2.1 15 = .ok (.ireturn, 1) := by decide +kernel
theorem d_X6_isSheet_0 : decode m_X6_isSheet.2.1 0 = .ok (.iload_n 0, 1) := by decide +kernel
theorem d_X6_isSheet_1 : decode m_X6_isSheet.2.1 1 = .ok (.iconst 0, 1) := by decide +kernel
theorem d_X6_isSheet_2 : decode m_X6_isSheet.2.1 2 = .ok (.iconst 3, 1) := by decide +kernel
theorem d_X6_isSheet_3 : decode m_X6_isSheet.2.1 3 = .ok (.invokestatic 58, 3) := by decide +kernel
theorem d_X6_isSheet_6 : decode m_X6_isSheet.2.1 6 = .ok (.ireturn, 1) := by decide +kernel
theorem d_X6_isSort_0 : decode m_X6_isSort.2.1 0 = .ok (.iload_n 0, 1) := by decide +kernel
theorem d_X6_isSort_1 : decode m_X6_isSort.2.1 1 = .ok (.iconst 0, 1) := by decide +kernel
theorem d_X6_isSort_2 : decode m_X6_isSort.2.1 2 = .ok (.iconst 2, 1) := by decide +kernel
theorem d_X6_isSort_3 : decode m_X6_isSort.2.1 3 = .ok (.invokestatic 58, 3) := by decide +kernel
theorem d_X6_isSort_6 : decode m_X6_isSort.2.1 6 = .ok (.ireturn, 1) := by decide +kernel
theorem d_X6_against_0 : decode m_X6_against.2.1 0 = .ok (.aload_n 0, 1) := by decide +kernel
theorem d_X6_against_1 : decode m_X6_against.2.1 1 = .ok (.getfield 9, 3) := by decide +kernel
theorem d_X6_against_4 : decode m_X6_against.2.1 4 = .ok (.iload_n 1, 1) := by decide +kernel
theorem d_X6_against_5 : decode m_X6_against.2.1 5 = .ok (.iaload, 1) := by decide +kernel
theorem d_X6_against_6 : decode m_X6_against.2.1 6 = .ok (.bipush (-9), 2) := by decide +kernel
theorem d_X6_against_8 : decode m_X6_against.2.1 8 = .ok (.if_icmp .eq 15, 3) := by decide +kernel
theorem d_X6_against_11 : decode m_X6_against.2.1 11 = .ok (.aload_n 0, 1) := by decide +kernel
theorem d_X6_against_12 : decode m_X6_against.2.1 12 = .ok (.getfield 9, 3) := by decide +kernel
theorem d_X6_against_15 : decode m_X6_against.2.1 15 = .ok (.iload_n 1, 1) := by decide +kernel
theorem d_X6_against_16 : decode m_X6_against.2.1 16 = .ok (.iaload, 1) := by decide +kernel
theorem d_X6_against_17 : decode m_X6_against.2.1 17 = .ok (.iload_n 2, 1) := by decide +kernel
theorem d_X6_against_18 : decode m_X6_against.2.1 18 = .ok (.if_icmp .eq 5, 3) := by decide +kernel
theorem d_X6_against_21 : decode m_X6_against.2.1 21 = .ok (.iconst 2, 1) := by decide +kernel
theorem d_X6_against_22 : decode m_X6_against.2.1 22 = .ok (.ireturn, 1) := by decide +kernel
theorem d_X6_against_23 : decode m_X6_against.2.1 23 = .ok (.aload_n 0, 1) := by decide +kernel
theorem d_X6_against_24 : decode m_X6_against.2.1 24 = .ok (.getfield 9, 3) := by decide +kernel
theorem d_X6_against_27 : decode m_X6_against.2.1 27 = .ok (.iload_n 1, 1) := by decide +kernel
theorem d_X6_against_28 : decode m_X6_against.2.1 28 = .ok (.iaload, 1) := by decide +kernel
theorem d_X6_against_29 : decode m_X6_against.2.1 29 = .ok (.bipush (-9), 2) := by decide +kernel
theorem d_X6_against_31 : decode m_X6_against.2.1 31 = .ok (.if_icmp .ne 5, 3) := by decide +kernel
theorem d_X6_against_34 : decode m_X6_against.2.1 34 = .ok (.iconst 1, 1) := by decide +kernel
theorem d_X6_against_35 : decode m_X6_against.2.1 35 = .ok (.ireturn, 1) := by decide +kernel
theorem d_X6_against_36 : decode m_X6_against.2.1 36 = .ok (.iload 4, 2) := by decide +kernel
theorem d_X6_against_38 : decode m_X6_against.2.1 38 = .ok (.ifCond .ge 5, 3) := by decide +kernel
theorem d_X6_against_41 : decode m_X6_against.2.1 41 = .ok (.iconst 4, 1) := by decide +kernel
theorem d_X6_against_42 : decode m_X6_against.2.1 42 = .ok (.ireturn, 1) := by decide +kernel
theorem d_X6_against_43 : decode m_X6_against.2.1 43 = .ok (.iload_n 3, 1) := by decide +kernel
theorem d_X6_against_44 : decode m_X6_against.2.1 44 = .ok (.ifCond .lt 26, 3) := by decide +kernel
theorem d_X6_against_47 : decode m_X6_against.2.1 47 = .ok (.iload_n 3, 1) := by decide +kernel
theorem d_X6_against_48 : decode m_X6_against.2.1 48 = .ok (.aload_n 0, 1) := by decide +kernel
theorem d_X6_against_49 : decode m_X6_against.2.1 49 = .ok (.getfield 13, 3) := by decide +kernel
theorem d_X6_against_52 : decode m_X6_against.2.1 52 = .ok (.iload_n 1, 1) := by decide +kernel
theorem d_X6_against_53 : decode m_X6_against.2.1 53 = .ok (.iaload, 1) := by decide +kernel
theorem d_X6_against_54 : decode m_X6_against.2.1 54 = .ok (.if_icmp .gt 16, 3) := by decide +kernel
theorem d_X6_against_57 : decode m_X6_against.2.1 57 = .ok (.iload 4, 2) := by decide +kernel
theorem d_X6_against_59 : decode m_X6_against.2.1 59 = .ok (.aload_n 0, 1) := by decide +kernel
theorem d_X6_against_60 : decode m_X6_against.2.1 60 = .ok (.getfield 13, 3) := by decide +kernel
theorem d_X6_against_63 : decode m_X6_against.2.1 63 = .ok (.iload_n 1, 1) := by decide +kernel
theorem d_X6_against_64 : decode m_X6_against.2.1 64 = .ok (.iaload, 1) := by decide +kernel
theorem d_X6_against_65 : decode m_X6_against.2.1 65 = .ok (.iload_n 3, 1) := by decide +kernel
theorem d_X6_against_66 : decode m_X6_against.2.1 66 = .ok (.isub, 1) := by decide +kernel
theorem d_X6_against_67 : decode m_X6_against.2.1 67 = .ok (.if_icmp .le 7, 3) := by decide +kernel
theorem d_X6_against_70 : decode m_X6_against.2.1 70 = .ok (.iconst 3, 1) := by decide +kernel
theorem d_X6_against_71 : decode m_X6_against.2.1 71 = .ok (.goto 4, 3) := by decide +kernel
theorem d_X6_against_74 : decode m_X6_against.2.1 74 = .ok (.iconst 0, 1) := by decide +kernel
theorem d_X6_against_75 : decode m_X6_against.2.1 75 = .ok (.ireturn, 1) := by decide +kernel
theorem d_X6_isHouse_0 : decode m_X6_isHouse.2.1 0 = .ok (.iload_n 1, 1) := by decide +kernel
theorem d_X6_isHouse_1 : decode m_X6_isHouse.2.1 1 = .ok (.ifCond .lt 15, 3) := by decide +kernel
theorem d_X6_isHouse_4 : decode m_X6_isHouse.2.1 4 = .ok (.iload_n 1, 1) := by decide +kernel
theorem d_X6_isHouse_5 : decode m_X6_isHouse.2.1 5 = .ok (.aload_n 0, 1) := by decide +kernel
theorem d_X6_isHouse_6 : decode m_X6_isHouse.2.1 6 = .ok (.getfield 62, 3) := by decide +kernel
theorem d_X6_isHouse_9 : decode m_X6_isHouse.2.1 9 = .ok (.if_icmp .ge 7, 3) := by decide +kernel
theorem d_X6_isHouse_12 : decode m_X6_isHouse.2.1 12 = .ok (.iconst 1, 1) := by decide +kernel
theorem d_X6_isHouse_13 : decode m_X6_isHouse.2.1 13 = .ok (.goto 4, 3) := by decide +kernel
theorem d_X6_isHouse_16 : decode m_X6_isHouse.2.1 16 = .ok (.iconst 0, 1) := by decide +kernel
theorem d_X6_isHouse_17 : decode m_X6_isHouse.2.1 17 = .ok (.ireturn, 1) := by decide +kernel
theorem d_X6_isStone_0 : decode m_X6_isStone.2.1 0 = .ok (.iload_n 1, 1) := by decide +kernel
theorem d_X6_isStone_1 : decode m_X6_isStone.2.1 1 = .ok (.ifCond .lt 15, 3) := by decide +kernel
theorem d_X6_isStone_4 : decode m_X6_isStone.2.1 4 = .ok (.iload_n 1, 1) := by decide +kernel
theorem d_X6_isStone_5 : decode m_X6_isStone.2.1 5 = .ok (.aload_n 0, 1) := by decide +kernel
theorem d_X6_isStone_6 : decode m_X6_isStone.2.1 6 = .ok (.getfield 65, 3) := by decide +kernel
theorem d_X6_isStone_9 : decode m_X6_isStone.2.1 9 = .ok (.if_icmp .ge 7, 3) := by decide +kernel
theorem d_X6_isStone_12 : decode m_X6_isStone.2.1 12 = .ok (.iconst 1, 1) := by decide +kernel
theorem d_X6_isStone_13 : decode m_X6_isStone.2.1 13 = .ok (.goto 4, 3) := by decide +kernel
theorem d_X6_isStone_16 : decode m_X6_isStone.2.1 16 = .ok (.iconst 0, 1) := by decide +kernel
theorem d_X6_isStone_17 : decode m_X6_isStone.2.1 17 = .ok (.ireturn, 1) := by decide +kernel
theorem d_X6_isOf_0 : decode m_X6_isOf.2.1 0 = .ok (.iload_n 0, 1) := by decide +kernel
theorem d_X6_isOf_1 : decode m_X6_isOf.2.1 1 = .ok (.iload_n 1, 1) := by decide +kernel
theorem d_X6_isOf_2 : decode m_X6_isOf.2.1 2 = .ok (.ishr, 1) := by decide +kernel
theorem d_X6_isOf_3 : decode m_X6_isOf.2.1 3 = .ok (.iconst 1, 1) := by decide +kernel
theorem d_X6_isOf_4 : decode m_X6_isOf.2.1 4 = .ok (.iand, 1) := by decide +kernel
theorem d_X6_isOf_5 : decode m_X6_isOf.2.1 5 = .ok (.iconst 1, 1) := by decide +kernel
theorem d_X6_isOf_6 : decode m_X6_isOf.2.1 6 = .ok (.if_icmp .ne 7, 3) := by decide +kernel
theorem d_X6_isOf_9 : decode m_X6_isOf.2.1 9 = .ok (.iconst 1, 1) := by decide +kernel
theorem d_X6_isOf_10 : decode m_X6_isOf.2.1 10 = .ok (.goto 4, 3) := by decide +kernel
theorem d_X6_isOf_13 : decode m_X6_isOf.2.1 13 = .ok (.iconst 0, 1) := by decide +kernel
theorem d_X6_isOf_14 : decode m_X6_isOf.2.1 14 = .ok (.ireturn, 1) := by decide +kernel
theorem d_X6_size_0 : decode m_X6_size.2.1 0 = .ok (.iconst 0, 1) := by decide +kernel
theorem d_X6_size_1 : decode m_X6_size.2.1 1 = .ok (.istore_n 1, 1) := by decide +kernel
theorem d_X6_size_2 : decode m_X6_size.2.1 2 = .ok (.iload_n 0, 1) := by decide +kernel
theorem d_X6_size_3 : decode m_X6_size.2.1 3 = .ok (.istore_n 2, 1) := by decide +kernel
theorem d_X6_size_4 : decode m_X6_size.2.1 4 = .ok (.iload_n 2, 1) := by decide +kernel
theorem d_X6_size_5 : decode m_X6_size.2.1 5 = .ok (.ifCond .le 16, 3) := by decide +kernel
theorem d_X6_size_8 : decode m_X6_size.2.1 8 = .ok (.iload_n 1, 1) := by decide +kernel
theorem d_X6_size_9 : decode m_X6_size.2.1 9 = .ok (.iload_n 2, 1) := by decide +kernel
theorem d_X6_size_10 : decode m_X6_size.2.1 10 = .ok (.iconst 1, 1) := by decide +kernel
theorem d_X6_size_11 : decode m_X6_size.2.1 11 = .ok (.iand, 1) := by decide +kernel
theorem d_X6_size_12 : decode m_X6_size.2.1 12 = .ok (.iadd, 1) := by decide +kernel
theorem d_X6_size_13 : decode m_X6_size.2.1 13 = .ok (.istore_n 1, 1) := by decide +kernel
theorem d_X6_size_14 : decode m_X6_size.2.1 14 = .ok (.iload_n 2, 1) := by decide +kernel
theorem d_X6_size_15 : decode m_X6_size.2.1 15 = .ok (.iconst 1, 1) := by decide +kernel
theorem d_X6_size_16 : decode m_X6_size.2.1 16 = .ok (.ishr, 1) := by decide +kernel
theorem d_X6_size_17 : decode m_X6_size.2.1 17 = .ok (.istore_n 2, 1) := by decide +kernel
theorem d_X6_size_18 : decode m_X6_size.2.1 18 = .ok (.goto (-14), 3) := by decide +kernel
theorem d_X6_size_21 : decode m_X6_size.2.1 21 = .ok (.iload_n 1, 1) := by decide +kernel
theorem d_X6_size_22 : decode m_X6_size.2.1 22 = .ok (.ireturn, 1) := by decide +kernel
theorem d_X6_digit_0 : decode m_X6_digit.2.1 0 = .ok (.aload_n 0, 1) := by decide +kernel
theorem d_X6_digit_1 : decode m_X6_digit.2.1 1 = .ok (.getfield 68, 3) := by decide +kernel
theorem d_X6_digit_4 : decode m_X6_digit.2.1 4 = .ok (.iload_n 1, 1) := by decide +kernel
theorem d_X6_digit_5 : decode m_X6_digit.2.1 5 = .ok (.if_icmp .ge 26, 3) := by decide +kernel
theorem d_X6_digit_8 : decode m_X6_digit.2.1 8 = .ok (.aload_n 0, 1) := by decide +kernel
theorem d_X6_digit_9 : decode m_X6_digit.2.1 9 = .ok (.getfield 16, 3) := by decide +kernel
theorem d_X6_digit_12 : decode m_X6_digit.2.1 12 = .ok (.aload_n 0, 1) := by decide +kernel
theorem d_X6_digit_13 : decode m_X6_digit.2.1 13 = .ok (.getfield 68, 3) := by decide +kernel
theorem d_X6_digit_16 : decode m_X6_digit.2.1 16 = .ok (.iaload, 1) := by decide +kernel
theorem d_X6_digit_17 : decode m_X6_digit.2.1 17 = .ok (.bipush 48, 2) := by decide +kernel
theorem d_X6_digit_19 : decode m_X6_digit.2.1 19 = .ok (.iload_n 2, 1) := by decide +kernel
theorem d_X6_digit_20 : decode m_X6_digit.2.1 20 = .ok (.iadd, 1) := by decide +kernel
theorem d_X6_digit_21 : decode m_X6_digit.2.1 21 = .ok (.bipush 48, 2) := by decide +kernel
theorem d_X6_digit_23 : decode m_X6_digit.2.1 23 = .ok (.iload_n 3, 1) := by decide +kernel
theorem d_X6_digit_24 : decode m_X6_digit.2.1 24 = .ok (.iadd, 1) := by decide +kernel
theorem d_X6_digit_25 : decode m_X6_digit.2.1 25 = .ok (.invokestatic 58, 3) := by decide +kernel
theorem d_X6_digit_28 : decode m_X6_digit.2.1 28 = .ok (.ifCond .ne 6, 3) := by decide +kernel
theorem d_X6_digit_31 : decode m_X6_digit.2.1 31 = .ok (.bipush (-9), 2) := by decide +kernel
theorem d_X6_digit_33 : decode m_X6_digit.2.1 33 = .ok (.ireturn, 1) := by decide +kernel
theorem d_X6_digit_34 : decode m_X6_digit.2.1 34 = .ok (.aload_n 0, 1) := by decide +kernel
theorem d_X6_digit_35 : decode m_X6_digit.2.1 35 = .ok (.dup, 1) := by decide +kernel
theorem d_X6_digit_36 : decode m_X6_digit.2.1 36 = .ok (.getfield 68, 3) := by decide +kernel
theorem d_X6_digit_39 : decode m_X6_digit.2.1 39 = .ok (.iconst 1, 1) := by decide +kernel
theorem d_X6_digit_40 : decode m_X6_digit.2.1 40 = .ok (.iadd, 1) := by decide +kernel
theorem d_X6_digit_41 : decode m_X6_digit.2.1 41 = .ok (.putfield 68, 3) := by decide +kernel
theorem d_X6_digit_44 : decode m_X6_digit.2.1 44 = .ok (.aload_n 0, 1) := by decide +kernel
theorem d_X6_digit_45 : decode m_X6_digit.2.1 45 = .ok (.getfield 16, 3) := by decide +kernel
theorem d_X6_digit_48 : decode m_X6_digit.2.1 48 = .ok (.aload_n 0, 1) := by decide +kernel
theorem d_X6_digit_49 : decode m_X6_digit.2.1 49 = .ok (.getfield 68, 3) := by decide +kernel
theorem d_X6_digit_52 : decode m_X6_digit.2.1 52 = .ok (.iconst 1, 1) := by decide +kernel
theorem d_X6_digit_53 : decode m_X6_digit.2.1 53 = .ok (.isub, 1) := by decide +kernel
theorem d_X6_digit_54 : decode m_X6_digit.2.1 54 = .ok (.iaload, 1) := by decide +kernel
theorem d_X6_digit_55 : decode m_X6_digit.2.1 55 = .ok (.bipush 48, 2) := by decide +kernel
theorem d_X6_digit_57 : decode m_X6_digit.2.1 57 = .ok (.isub, 1) := by decide +kernel
theorem d_X6_digit_58 : decode m_X6_digit.2.1 58 = .ok (.ireturn, 1) := by decide +kernel
theorem d_X6_isSign_0 : decode m_X6_isSign.2.1 0 = .ok (.aload_n 0, 1) := by decide +kernel
theorem d_X6_isSign_1 : decode m_X6_isSign.2.1 1 = .ok (.getfield 68, 3) := by decide +kernel
theorem d_X6_isSign_4 : decode m_X6_isSign.2.1 4 = .ok (.iload_n 1, 1) := by decide +kernel
theorem d_X6_isSign_5 : decode m_X6_isSign.2.1 5 = .ok (.if_icmp .ge 16, 3) := by decide +kernel
theorem d_X6_isSign_8 : decode m_X6_isSign.2.1 8 = .ok (.aload_n 0, 1) := by decide +kernel
theorem d_X6_isSign_9 : decode m_X6_isSign.2.1 9 = .ok (.getfield 16, 3) := by decide +kernel
theorem d_X6_isSign_12 : decode m_X6_isSign.2.1 12 = .ok (.aload_n 0, 1) := by decide +kernel
theorem d_X6_isSign_13 : decode m_X6_isSign.2.1 13 = .ok (.getfield 68, 3) := by decide +kernel
theorem d_X6_isSign_16 : decode m_X6_isSign.2.1 16 = .ok (.iaload, 1) := by decide +kernel
theorem d_X6_isSign_17 : decode m_X6_isSign.2.1 17 = .ok (.iload_n 2, 1) := by decide +kernel
theorem d_X6_isSign_18 : decode m_X6_isSign.2.1 18 = .ok (.if_icmp .eq 5, 3) := by decide +kernel
theorem d_X6_isSign_21 : decode m_X6_isSign.2.1 21 = .ok (.iconst 0, 1) := by decide +kernel
theorem d_X6_isSign_22 : decode m_X6_isSign.2.1 22 = .ok (.ireturn, 1) := by decide +kernel
theorem d_X6_isSign_23 : decode m_X6_isSign.2.1 23 = .ok (.aload_n 0, 1) := by decide +kernel
theorem d_X6_isSign_24 : decode m_X6_isSign.2.1 24 = .ok (.dup, 1) := by decide +kernel
theorem d_X6_isSign_25 : decode m_X6_isSign.2.1 25 = .ok (.getfield 68, 3) := by decide +kernel
theorem d_X6_isSign_28 : decode m_X6_isSign.2.1 28 = .ok (.iconst 1, 1) := by decide +kernel
theorem d_X6_isSign_29 : decode m_X6_isSign.2.1 29 = .ok (.iadd, 1) := by decide +kernel
theorem d_X6_isSign_30 : decode m_X6_isSign.2.1 30 = .ok (.putfield 68, 3) := by decide +kernel
theorem d_X6_isSign_33 : decode m_X6_isSign.2.1 33 = .ok (.iconst 1, 1) := by decide +kernel
theorem d_X6_isSign_34 : decode m_X6_isSign.2.1 34 = .ok (.ireturn, 1) := by decide +kernel
theorem d_X6_parish_0 : decode m_X6_parish.2.1 0 = .ok (.aload_n 0, 1) := by decide +kernel
theorem d_X6_parish_1 : decode m_X6_parish.2.1 1 = .ok (.iconst 0, 1) := by decide +kernel
theorem d_X6_parish_2 : decode m_X6_parish.2.1 2 = .ok (.putfield 52, 3) := by decide +kernel
theorem d_X6_parish_5 : decode m_X6_parish.2.1 5 = .ok (.iload_n 1, 1) := by decide +kernel
theorem d_X6_parish_6 : decode m_X6_parish.2.1 6 = .ok (.invokestatic 71, 3) := by decide +kernel
theorem d_X6_parish_9 : decode m_X6_parish.2.1 9 = .ok (.ifCond .ne 5, 3) := by decide +kernel
theorem d_X6_parish_12 : decode m_X6_parish.2.1 12 = .ok (.iconst (-1), 1) := by decide +kernel
theorem d_X6_parish_13 : decode m_X6_parish.2.1 13 = .ok (.ireturn, 1) := by decide +kernel
theorem d_X6_parish_14 : decode m_X6_parish.2.1 14 = .ok (.iload_n 2, 1) := by decide +kernel
theorem d_X6_parish_15 : decode m_X6_parish.2.1 15 = .ok (.invokestatic 75, 3) := by decide +kernel
theorem d_X6_parish_18 : decode m_X6_parish.2.1 18 = .ok (.ifCond .ne 6, 3) := by decide +kernel
theorem d_X6_parish_21 : decode m_X6_parish.2.1 21 = .ok (.bipush (-2), 2) := by decide +kernel
theorem d_X6_parish_23 : decode m_X6_parish.2.1 23 = .ok (.ireturn, 1) := by decide +kernel
theorem d_X6_parish_24 : decode m_X6_parish.2.1 24 = .ok (.aload_n 0, 1) := by decide +kernel
theorem d_X6_parish_25 : decode m_X6_parish.2.1 25 = .ok (.iload_n 1, 1) := by decide +kernel
theorem d_X6_parish_26 : decode m_X6_parish.2.1 26 = .ok (.iload_n 2, 1) := by decide +kernel
theorem d_X6_parish_27 : decode m_X6_parish.2.1 27 = .ok (.iload_n 3, 1) := by decide +kernel
theorem d_X6_parish_28 : decode m_X6_parish.2.1 28 = .ok (.iload 4, 2) := by decide +kernel
theorem d_X6_parish_30 : decode m_X6_parish.2.1 30 = .ok (.invokevirtual 78, 3) := by decide +kernel
theorem d_X6_parish_33 : decode m_X6_parish.2.1 33 = .ok (.istore 5, 2) := by decide +kernel
theorem d_X6_parish_35 : decode m_X6_parish.2.1 35 = .ok (.iload 5, 2) := by decide +kernel
theorem d_X6_parish_37 : decode m_X6_parish.2.1 37 = .ok (.ifCond .eq 10, 3) := by decide +kernel
theorem d_X6_parish_40 : decode m_X6_parish.2.1 40 = .ok (.aload_n 0, 1) := by decide +kernel
theorem d_X6_parish_41 : decode m_X6_parish.2.1 41 = .ok (.iload 5, 2) := by decide +kernel
theorem d_X6_parish_43 : decode m_X6_parish.2.1 43 = .ok (.invokevirtual 82, 3) := by decide +kernel
theorem d_X6_parish_46 : decode m_X6_parish.2.1 46 = .ok (.ireturn, 1) := by decide +kernel
theorem d_X6_parish_47 : decode m_X6_parish.2.1 47 = .ok (.bipush 60, 2) := by decide +kernel
theorem d_X6_parish_49 : decode m_X6_parish.2.1 49 = .ok (.iload_n 1, 1) := by decide +kernel
theorem d_X6_parish_50 : decode m_X6_parish.2.1 50 = .ok (.imul, 1) := by decide +kernel
theorem d_X6_parish_51 : decode m_X6_parish.2.1 51 = .ok (.iload_n 3, 1) := by decide +kernel
theorem d_X6_parish_52 : decode m_X6_parish.2.1 52 = .ok (.iadd, 1) := by decide +kernel
theorem d_X6_parish_53 : decode m_X6_parish.2.1 53 = .ok (.istore 6, 2) := by decide +kernel
theorem d_X6_parish_55 : decode m_X6_parish.2.1 55 = .ok (.aload_n 0, 1) := by decide +kernel
theorem d_X6_parish_56 : decode m_X6_parish.2.1 56 = .ok (.iload 6, 2) := by decide +kernel
theorem d_X6_parish_58 : decode m_X6_parish.2.1 58 = .ok (.putfield 68, 3) := by decide +kernel
theorem d_X6_parish_61 : decode m_X6_parish.2.1 61 = .ok (.aload_n 0, 1) := by decide +kernel
theorem d_X6_parish_62 : decode m_X6_parish.2.1 62 = .ok (.iload 6, 2) := by decide +kernel
theorem d_X6_parish_64 : decode m_X6_parish.2.1 64 = .ok (.iload 4, 2) := by decide +kernel
theorem d_X6_parish_66 : decode m_X6_parish.2.1 66 = .ok (.iadd, 1) := by decide +kernel
theorem d_X6_parish_67 : decode m_X6_parish.2.1 67 = .ok (.invokevirtual 86, 3) := by decide +kernel
theorem d_X6_parish_70 : decode m_X6_parish.2.1 70 = .ok (.ifCond .ne 14, 3) := by decide +kernel
theorem d_X6_parish_73 : decode m_X6_parish.2.1 73 = .ok (.bipush (-100), 2) := by decide +kernel
theorem d_X6_parish_75 : decode m_X6_parish.2.1 75 = .ok (.aload_n 0, 1) := by decide +kernel
theorem d_X6_parish_76 : decode m_X6_parish.2.1 76 = .ok (.getfield 68, 3) := by decide +kernel
theorem d_X6_parish_79 : decode m_X6_parish.2.1 79 = .ok (.iload 6, 2) := by decide +kernel
theorem d_X6_parish_81 : decode m_X6_parish.2.1 81 = .ok (.isub, 1) := by decide +kernel
theorem d_X6_parish_82 : decode m_X6_parish.2.1 82 = .ok (.isub, 1) := by decide +kernel
theorem d_X6_parish_83 : decode m_X6_parish.2.1 83 = .ok (.ireturn, 1) := by decide +kernel
theorem d_X6_parish_84 : decode m_X6_parish.2.1 84 = .ok (.aload_n 0, 1) := by decide +kernel
theorem d_X6_parish_85 : decode m_X6_parish.2.1 85 = .ok (.invokevirtual 89, 3) := by decide +kernel
theorem d_X6_parish_88 : decode m_X6_parish.2.1 88 = .ok (.aload_n 0, 1) := by decide +kernel
theorem d_X6_parish_89 : decode m_X6_parish.2.1 89 = .ok (.getfield 62, 3) := by decide +kernel
theorem d_X6_parish_92 : decode m_X6_parish.2.1 92 = .ok (.ireturn, 1) := by decide +kernel
theorem d_X6_takeParish_0 : decode m_X6_takeParish.2.1 0 = .ok (.aload_n 0, 1) := by decide +kernel
theorem d_X6_takeParish_1 : decode m_X6_takeParish.2.1 1 = .ok (.aload_n 0, 1) := by decide +kernel
theorem d_X6_takeParish_2 : decode m_X6_takeParish.2.1 2 = .ok (.getfield 92, 3) := by decide +kernel
theorem d_X6_takeParish_5 : decode m_X6_takeParish.2.1 5 = .ok (.putfield 62, 3) := by decide +kernel
theorem d_X6_takeParish_8 : decode m_X6_takeParish.2.1 8 = .ok (.aload_n 0, 1) := by decide +kernel
theorem d_X6_takeParish_9 : decode m_X6_takeParish.2.1 9 = .ok (.aload_n 0, 1) := by decide +kernel
theorem d_X6_takeParish_10 : decode m_X6_takeParish.2.1 10 = .ok (.getfield 95, 3) := by decide +kernel
theorem d_X6_takeParish_13 : decode m_X6_takeParish.2.1 13 = .ok (.putfield 65, 3) := by decide +kernel
theorem d_X6_takeParish_16 : decode m_X6_takeParish.2.1 16 = .ok (.aload_n 0, 1) := by decide +kernel
theorem d_X6_takeParish_17 : decode m_X6_takeParish.2.1 17 = .ok (.aload_n 0, 1) := by decide +kernel
theorem d_X6_takeParish_18 : decode m_X6_takeParish.2.1 18 = .ok (.getfield 98, 3) := by decide +kernel
theorem d_X6_takeParish_21 : decode m_X6_takeParish.2.1 21 = .ok (.putfield 101, 3) := by decide +kernel
theorem d_X6_takeParish_24 : decode m_X6_takeParish.2.1 24 = .ok (.iconst 0, 1) := by decide +kernel
theorem d_X6_takeParish_25 : decode m_X6_takeParish.2.1 25 = .ok (.istore_n 1, 1) := by decide +kernel
theorem d_X6_takeParish_26 : decode m_X6_takeParish.2.1 26 = .ok (.iload_n 1, 1) := by decide +kernel
theorem d_X6_takeParish_27 : decode m_X6_takeParish.2.1 27 = .ok (.aload_n 0, 1) := by decide +kernel
theorem d_X6_takeParish_28 : decode m_X6_takeParish.2.1 28 = .ok (.getfield 62, 3) := by decide +kernel
theorem d_X6_takeParish_31 : decode m_X6_takeParish.2.1 31 = .ok (.if_icmp .ge 62, 3) := by decide +kernel
theorem d_X6_takeParish_34 : decode m_X6_takeParish.2.1 34 = .ok (.aload_n 0, 1) := by decide +kernel
theorem d_X6_takeParish_35 : decode m_X6_takeParish.2.1 35 = .ok (.getfield 19, 3) := by decide +kernel
theorem d_X6_takeParish_38 : decode m_X6_takeParish.2.1 38 = .ok (.iload_n 1, 1) := by decide +kernel
theorem d_X6_takeParish_39 : decode m_X6_takeParish.2.1 39 = .ok (.aload_n 0, 1) := by decide +kernel
theorem d_X6_takeParish_40 : decode m_X6_takeParish.2.1 40 = .ok (.getfield 34, 3) := by decide +kernel
theorem d_X6_takeParish_43 : decode m_X6_takeParish.2.1 43 = .ok (.iconst 3, 1) := by decide +kernel
theorem d_X6_takeParish_44 : decode m_X6_takeParish.2.1 44 = .ok (.iload_n 1, 1) := by decide +kernel
theorem d_X6_takeParish_45 : decode m_X6_takeParish.2.1 45 = .ok (.imul, 1) := by decide +kernel
theorem d_X6_takeParish_46 : decode m_X6_takeParish.2.1 46 = .ok (.iaload, 1) := by decide +kernel
theorem d_X6_takeParish_47 : decode m_X6_takeParish.2.1 47 = .ok (.iastore, 1) := by decide +kernel
theorem d_X6_takeParish_48 : decode m_X6_takeParish.2.1 48 = .ok (.aload_n 0, 1) := by decide +kernel
theorem d_X6_takeParish_49 : decode m_X6_takeParish.2.1 49 = .ok (.getfield 22, 3) := by decide +kernel
theorem d_X6_takeParish_52 : decode m_X6_takeParish.2.1 52 = .ok (.iload_n 1, 1) := by decide +kernel
theorem d_X6_takeParish_53 : decode m_X6_takeParish.2.1 53 = .ok (.aload_n 0, 1) := by decide +kernel
theorem d_X6_takeParish_54 : decode m_X6_takeParish.2.1 54 = .ok (.getfield 34, 3) := by decide +kernel
theorem d_X6_takeParish_57 : decode m_X6_takeParish.2.1 57 = .ok (.iconst 3, 1) := by decide +kernel
theorem d_X6_takeParish_58 : decode m_X6_takeParish.2.1 58 = .ok (.iload_n 1, 1) := by decide +kernel
theorem d_X6_takeParish_59 : decode m_X6_takeParish.2.1 59 = .ok (.imul, 1) := by decide +kernel
theorem d_X6_takeParish_60 : decode m_X6_takeParish.2.1 60 = .ok (.iconst 1, 1) := by decide +kernel
theorem d_X6_takeParish_61 : decode m_X6_takeParish.2.1 61 = .ok (.iadd, 1) := by decide +kernel
theorem d_X6_takeParish_62 : decode m_X6_takeParish.2.1 62 = .ok (.iaload, 1) := by decide +kernel
theorem d_X6_takeParish_63 : decode m_X6_takeParish.2.1 63 = .ok (.iastore, 1) := by decide +kernel
theorem d_X6_takeParish_64 : decode m_X6_takeParish.2.1 64 = .ok (.aload_n 0, 1) := by decide +kernel
theorem d_X6_takeParish_65 : decode m_X6_takeParish.2.1 65 = .ok (.getfield 25, 3) := by decide +kernel
theorem d_X6_takeParish_68 : decode m_X6_takeParish.2.1 68 = .ok (.iload_n 1, 1) := by decide +kernel
theorem d_X6_takeParish_69 : decode m_X6_takeParish.2.1 69 = .ok (.aload_n 0, 1) := by decide +kernel
theorem d_X6_takeParish_70 : decode m_X6_takeParish.2.1 70 = .ok (.getfield 34, 3) := by decide +kernel
theorem d_X6_takeParish_73 : decode m_X6_takeParish.2.1 73 = .ok (.iconst 3, 1) := by decide +kernel
theorem d_X6_takeParish_74 : decode m_X6_takeParish.2.1 74 = .ok (.iload_n 1, 1) := by decide +kernel
theorem d_X6_takeParish_75 : decode m_X6_takeParish.2.1 75 = .ok (.imul, 1) := by decide +kernel
theorem d_X6_takeParish_76 : decode m_X6_takeParish.2.1 76 = .ok (.iconst 2, 1) := by decide +kernel
theorem d_X6_takeParish_77 : decode m_X6_takeParish.2.1 77 = .ok (.iadd, 1) := by decide +kernel
theorem d_X6_takeParish_78 : decode m_X6_takeParish.2.1 78 = .ok (.iaload, 1) := by decide +kernel
theorem d_X6_takeParish_79 : decode m_X6_takeParish.2.1 79 = .ok (.iastore, 1) := by decide +kernel
theorem d_X6_takeParish_80 : decode m_X6_takeParish.2.1 80 = .ok (.aload_n 0, 1) := by decide +kernel
theorem d_X6_takeParish_81 : decode m_X6_takeParish.2.1 81 = .ok (.getfield 28, 3) := by decide +kernel
theorem d_X6_takeParish_84 : decode m_X6_takeParish.2.1 84 = .ok (.iload_n 1, 1) := by decide +kernel
theorem d_X6_takeParish_85 : decode m_X6_takeParish.2.1 85 = .ok (.iconst 0, 1) := by decide +kernel
theorem d_X6_takeParish_86 : decode m_X6_takeParish.2.1 86 = .ok (.iastore, 1) := by decide +kernel
theorem d_X6_takeParish_87 : decode m_X6_takeParish.2.1 87 = .ok (.iinc 1 1, 3) := by decide +kernel
theorem d_X6_takeParish_90 : decode m_X6_takeParish.2.1 90 = .ok (.goto (-64), 3) := by decide +kernel
theorem d_X6_takeParish_93 : decode m_X6_takeParish.2.1 93 = .ok (.iconst 0, 1) := by decide +kernel
theorem d_X6_takeParish_94 : decode m_X6_takeParish.2.1 94 = .ok (.istore_n 1, 1) := by decide +kernel
theorem d_X6_takeParish_95 : decode m_X6_takeParish.2.1 95 = .ok (.iload_n 1, 1) := by decide +kernel
theorem d_X6_takeParish_96 : decode m_X6_takeParish.2.1 96 = .ok (.aload_n 0, 1) := by decide +kernel
theorem d_X6_takeParish_97 : decode m_X6_takeParish.2.1 97 = .ok (.getfield 65, 3) := by decide +kernel
theorem d_X6_takeParish_100 : decode m_X6_takeParish.2.1 100 = .ok (.if_icmp .ge 21, 3) := by decide +kernel
theorem d_X6_takeParish_103 : decode m_X6_takeParish.2.1 103 = .ok (.aload_n 0, 1) := by decide +kernel
theorem d_X6_takeParish_104 : decode m_X6_takeParish.2.1 104 = .ok (.getfield 31, 3) := by decide +kernel
theorem d_X6_takeParish_107 : decode m_X6_takeParish.2.1 107 = .ok (.iload_n 1, 1) := by decide +kernel
theorem d_X6_takeParish_108 : decode m_X6_takeParish.2.1 108 = .ok (.aload_n 0, 1) := by decide +kernel
theorem d_X6_takeParish_109 : decode m_X6_takeParish.2.1 109 = .ok (.getfield 37, 3) := by decide +kernel
theorem d_X6_takeParish_112 : decode m_X6_takeParish.2.1 112 = .ok (.iload_n 1, 1) := by decide +kernel
theorem d_X6_takeParish_113 : decode m_X6_takeParish.2.1 113 = .ok (.iaload, 1) := by decide +kernel
theorem d_X6_takeParish_114 : decode m_X6_takeParish.2.1 114 = .ok (.iastore, 1) := by decide +kernel
theorem d_X6_takeParish_115 : decode m_X6_takeParish.2.1 115 = .ok (.iinc 1 1, 3) := by decide +kernel
theorem d_X6_takeParish_118 : decode m_X6_takeParish.2.1 118 = .ok (.goto (-23), 3) := by decide +kernel
theorem d_X6_takeParish_121 : decode m_X6_takeParish.2.1 121 = .ok (.aload_n 0, 1) := by decide +kernel
theorem d_X6_takeParish_122 : decode m_X6_takeParish.2.1 122 = .ok (.iconst 0, 1) := by decide +kernel
theorem d_X6_takeParish_123 : decode m_X6_takeParish.2.1 123 = .ok (.putfield 104, 3) := by decide +kernel
theorem d_X6_takeParish_126 : decode m_X6_takeParish.2.1 126 = .ok (.aload_n 0, 1) := by decide +kernel
theorem d_X6_takeParish_127 : decode m_X6_takeParish.2.1 127 = .ok (.iconst 0, 1) := by decide +kernel
theorem d_X6_takeParish_128 : decode m_X6_takeParish.2.1 128 = .ok (.putfield 107, 3) := by decide +kernel
theorem d_X6_takeParish_131 : decode m_X6_takeParish.2.1 131 = .ok (.aload_n 0, 1) := by decide +kernel
theorem d_X6_takeParish_132 : decode m_X6_takeParish.2.1 132 = .ok (.iconst 0, 1) := by decide +kernel
theorem d_X6_takeParish_133 : decode m_X6_takeParish.2.1 133 = .ok (.putfield 110, 3) := by decide +kernel
theorem d_X6_takeParish_136 : decode m_X6_takeParish.2.1 136 = .ok (.aload_n 0, 1) := by decide +kernel
theorem d_X6_takeParish_137 : decode m_X6_takeParish.2.1 137 = .ok (.iconst 0, 1) := by decide +kernel
theorem d_X6_takeParish_138 : decode m_X6_takeParish.2.1 138 = .ok (.putfield 113, 3) := by decide +kernel
theorem d_X6_takeParish_141 : decode m_X6_takeParish.2.1 141 = .ok (.aload_n 0, 1) := by decide +kernel
theorem d_X6_takeParish_142 : decode m_X6_takeParish.2.1 142 = .ok (.iconst 0, 1) := by decide +kernel
theorem d_X6_takeParish_143 : decode m_X6_takeParish.2.1 143 = .ok (.putfield 116, 3) := by decide +kernel
theorem d_X6_takeParish_146 : decode m_X6_takeParish.2.1 146 = .ok (.aload_n 0, 1) := by decide +kernel
theorem d_X6_takeParish_147 : decode m_X6_takeParish.2.1 147 = .ok (.iconst 0, 1) := by decide +kernel
theorem d_X6_takeParish_148 : decode m_X6_takeParish.2.1 148 = .ok (.putfield 119, 3) := by decide +kernel
theorem d_X6_takeParish_151 : decode m_X6_takeParish.2.1 151 = .ok (.return_, 1) := by decide +kernel
theorem d_X6_readParish_0 : decode m_X6_readParish.2.1 0 = .ok (.aload_n 0, 1) := by decide +kernel
theorem d_X6_readParish_1 : decode m_X6_readParish.2.1 1 = .ok (.iconst 0, 1) := by decide +kernel
theorem d_X6_readParish_2 : decode m_X6_readParish.2.1 2 = .ok (.putfield 92, 3) := by decide +kernel
theorem d_X6_readParish_5 : decode m_X6_readParish.2.1 5 = .ok (.aload_n 0, 1) := by decide +kernel
theorem d_X6_readParish_6 : decode m_X6_readParish.2.1 6 = .ok (.iconst 0, 1) := by decide +kernel
theorem d_X6_readParish_7 : decode m_X6_readParish.2.1 7 = .ok (.putfield 95, 3) := by decide +kernel
theorem d_X6_readParish_10 : decode m_X6_readParish.2.1 10 = .ok (.aload_n 0, 1) := by decide +kernel
theorem d_X6_readParish_11 : decode m_X6_readParish.2.1 11 = .ok (.iload_n 1, 1) := by decide +kernel
theorem d_X6_readParish_12 : decode m_X6_readParish.2.1 12 = .ok (.bipush 116, 2) := by decide +kernel
theorem d_X6_readParish_14 : decode m_X6_readParish.2.1 14 = .ok (.invokevirtual 122, 3) := by decide +kernel
theorem d_X6_readParish_17 : decode m_X6_readParish.2.1 17 = .ok (.ifCond .ne 5, 3) := by decide +kernel
theorem d_X6_readParish_20 : decode m_X6_readParish.2.1 20 = .ok (.iconst 0, 1) := by decide +kernel
theorem d_X6_readParish_21 : decode m_X6_readParish.2.1 21 = .ok (.ireturn, 1) := by decide +kernel
theorem d_X6_readParish_22 : decode m_X6_readParish.2.1 22 = .ok (.aload_n 0, 1) := by decide +kernel
theorem d_X6_readParish_23 : decode m_X6_readParish.2.1 23 = .ok (.aload_n 0, 1) := by decide +kernel
theorem d_X6_readParish_24 : decode m_X6_readParish.2.1 24 = .ok (.iload_n 1, 1) := by decide +kernel
theorem d_X6_readParish_25 : decode m_X6_readParish.2.1 25 = .ok (.iconst 1, 1) := by decide +kernel
theorem d_X6_readParish_26 : decode m_X6_readParish.2.1 26 = .ok (.iconst 4, 1) := by decide +kernel
theorem d_X6_readParish_27 : decode m_X6_readParish.2.1 27 = .ok (.invokevirtual 126, 3) := by decide +kernel
theorem d_X6_readParish_30 : decode m_X6_readParish.2.1 30 = .ok (.putfield 98, 3) := by decide +kernel
theorem d_X6_readParish_33 : decode m_X6_readParish.2.1 33 = .ok (.aload_n 0, 1) := by decide +kernel
theorem d_X6_readParish_34 : decode m_X6_readParish.2.1 34 = .ok (.getfield 98, 3) := by decide +kernel
theorem d_X6_readParish_37 : decode m_X6_readParish.2.1 37 = .ok (.bipush (-9), 2) := by decide +kernel
theorem d_X6_readParish_39 : decode m_X6_readParish.2.1 39 = .ok (.if_icmp .ne 5, 3) := by decide +kernel
theorem d_X6_readParish_42 : decode m_X6_readParish.2.1 42 = .ok (.iconst 0, 1) := by decide +kernel
theorem d_X6_readParish_43 : decode m_X6_readParish.2.1 43 = .ok (.ireturn, 1) := by decide +kernel
theorem d_X6_readParish_44 : decode m_X6_readParish.2.1 44 = .ok (.aload_n 0, 1) := by decide +kernel
theorem d_X6_readParish_45 : decode m_X6_readParish.2.1 45 = .ok (.getfield 92, 3) := by decide +kernel
theorem d_X6_readParish_48 : decode m_X6_readParish.2.1 48 = .ok (.ifCond .eq 33, 3) := by decide +kernel
theorem d_X6_readParish_51 : decode m_X6_readParish.2.1 51 = .ok (.aload_n 0, 1) := by decide +kernel
theorem d_X6_readParish_52 : decode m_X6_readParish.2.1 52 = .ok (.getfield 92, 3) := by decide +kernel
theorem d_X6_readParish_55 : decode m_X6_readParish.2.1 55 = .ok (.iconst 5, 1) := by decide +kernel
theorem d_X6_readParish_56 : decode m_X6_readParish.2.1 56 = .ok (.if_icmp .ge 45, 3) := by decide +kernel
theorem d_X6_readParish_59 : decode m_X6_readParish.2.1 59 = .ok (.aload_n 0, 1) := by decide +kernel
theorem d_X6_readParish_60 : decode m_X6_readParish.2.1 60 = .ok (.getfield 68, 3) := by decide +kernel
theorem d_X6_readParish_63 : decode m_X6_readParish.2.1 63 = .ok (.iload_n 1, 1) := by decide +kernel
theorem d_X6_readParish_64 : decode m_X6_readParish.2.1 64 = .ok (.if_icmp .ge 37, 3) := by decide +kernel
theorem d_X6_readParish_67 : decode m_X6_readParish.2.1 67 = .ok (.aload_n 0, 1) := by decide +kernel
theorem d_X6_readParish_68 : decode m_X6_readParish.2.1 68 = .ok (.getfield 16, 3) := by decide +kernel
theorem d_X6_readParish_71 : decode m_X6_readParish.2.1 71 = .ok (.aload_n 0, 1) := by decide +kernel
theorem d_X6_readParish_72 : decode m_X6_readParish.2.1 72 = .ok (.getfield 68, 3) := by decide +kernel
theorem d_X6_readParish_75 : decode m_X6_readParish.2.1 75 = .ok (.iaload, 1) := by decide +kernel
theorem d_X6_readParish_76 : decode m_X6_readParish.2.1 76 = .ok (.bipush 59, 2) := by decide +kernel
theorem d_X6_readParish_78 : decode m_X6_readParish.2.1 78 = .ok (.if_icmp .ne 23, 3) := by decide +kernel
theorem d_X6_readParish_81 : decode m_X6_readParish.2.1 81 = .ok (.aload_n 0, 1) := by decide +kernel
theorem d_X6_readParish_82 : decode m_X6_readParish.2.1 82 = .ok (.iload_n 1, 1) := by decide +kernel
theorem d_X6_readParish_83 : decode m_X6_readParish.2.1 83 = .ok (.bipush 59, 2) := by decide +kernel
theorem d_X6_readParish_85 : decode m_X6_readParish.2.1 85 = .ok (.invokevirtual 122, 3) := by decide +kernel
theorem d_X6_readParish_88 : decode m_X6_readParish.2.1 88 = .ok (.ifCond .eq 11, 3) := by decide +kernel
theorem d_X6_readParish_91 : decode m_X6_readParish.2.1 91 = .ok (.aload_n 0, 1) := by decide +kernel
theorem d_X6_readParish_92 : decode m_X6_readParish.2.1 92 = .ok (.iload_n 1, 1) := by decide +kernel
theorem d_X6_readParish_93 : decode m_X6_readParish.2.1 93 = .ok (.invokevirtual 130, 3) := by decide +kernel
theorem d_X6_readParish_96 : decode m_X6_readParish.2.1 96 = .ok (.ifCond .ne (-52), 3) := by decide +kernel
theorem d_X6_readParish_99 : decode m_X6_readParish.2.1 99 = .ok (.iconst 0, 1) := by decide +kernel
theorem d_X6_readParish_100 : decode m_X6_readParish.2.1 100 = .ok (.ireturn, 1) := by decide +kernel
theorem d_X6_readParish_101 : decode m_X6_readParish.2.1 101 = .ok (.aload_n 0, 1) := by decide +kernel
theorem d_X6_readParish_102 : decode m_X6_readParish.2.1 102 = .ok (.getfield 68, 3) := by decide +kernel
theorem d_X6_readParish_105 : decode m_X6_readParish.2.1 105 = .ok (.iload_n 1, 1) := by decide +kernel
theorem d_X6_readParish_106 : decode m_X6_readParish.2.1 106 = .ok (.if_icmp .eq 11, 3) := by decide +kernel
theorem d_X6_readParish_109 : decode m_X6_readParish.2.1 109 = .ok (.aload_n 0, 1) := by decide +kernel
theorem d_X6_readParish_110 : decode m_X6_readParish.2.1 110 = .ok (.iload_n 1, 1) := by decide +kernel
theorem d_X6_readParish_111 : decode m_X6_readParish.2.1 111 = .ok (.invokevirtual 133, 3) := by decide +kernel
theorem d_X6_readParish_114 : decode m_X6_readParish.2.1 114 = .ok (.ifCond .eq 7, 3) := by decide +kernel
theorem d_X6_readParish_117 : decode m_X6_readParish.2.1 117 = .ok (.iconst 1, 1) := by decide +kernel
theorem d_X6_readParish_118 : decode m_X6_readParish.2.1 118 = .ok (.goto 4, 3) := by decide +kernel
theorem d_X6_readParish_121 : decode m_X6_readParish.2.1 121 = .ok (.iconst 0, 1) := by decide +kernel
theorem d_X6_readParish_122 : decode m_X6_readParish.2.1 122 = .ok (.ireturn, 1) := by decide +kernel
theorem d_X6_readStonesAll_0 : decode m_X6_readStonesAll.2.1 0 = .ok (.aload_n 0, 1) := by decide +kernel
theorem d_X6_readStonesAll_1 : decode m_X6_readStonesAll.2.1 1 = .ok (.iload_n 1, 1) := by decide +kernel
theorem d_X6_readStonesAll_2 : decode m_X6_readStonesAll.2.1 2 = .ok (.bipush 33, 2) := by decide +kernel
theorem d_X6_readStonesAll_4 : decode m_X6_readStonesAll.2.1 4 = .ok (.invokevirtual 122, 3) := by decide +kernel
theorem d_X6_readStonesAll_7 : decode m_X6_readStonesAll.2.1 7 = .ok (.ifCond .ne 5, 3) := by decide +kernel
theorem d_X6_readStonesAll_10 : decode m_X6_readStonesAll.2.1 10 = .ok (.iconst 0, 1) := by decide +kernel
theorem d_X6_readStonesAll_11 : decode m_X6_readStonesAll.2.1 11 = .ok (.ireturn, 1) := by decide +kernel
theorem d_X6_readStonesAll_12 : decode m_X6_readStonesAll.2.1 12 = .ok (.aload_n 0, 1) := by decide +kernel
theorem d_X6_readStonesAll_13 : decode m_X6_readStonesAll.2.1 13 = .ok (.getfield 95, 3) := by decide +kernel
theorem d_X6_readStonesAll_16 : decode m_X6_readStonesAll.2.1 16 = .ok (.ifCond .eq 19, 3) := by decide +kernel
theorem d_X6_readStonesAll_19 : decode m_X6_readStonesAll.2.1 19 = .ok (.aload_n 0, 1) := by decide +kernel
theorem d_X6_readStonesAll_20 : decode m_X6_readStonesAll.2.1 20 = .ok (.getfield 95, 3) := by decide +kernel
theorem d_X6_readStonesAll_23 : decode m_X6_readStonesAll.2.1 23 = .ok (.iconst 4, 1) := by decide +kernel
theorem d_X6_readStonesAll_24 : decode m_X6_readStonesAll.2.1 24 = .ok (.if_icmp .ge 57, 3) := by decide +kernel
theorem d_X6_readStonesAll_27 : decode m_X6_readStonesAll.2.1 27 = .ok (.aload_n 0, 1) := by decide +kernel
theorem d_X6_readStonesAll_28 : decode m_X6_readStonesAll.2.1 28 = .ok (.getfield 68, 3) := by decide +kernel
theorem d_X6_readStonesAll_31 : decode m_X6_readStonesAll.2.1 31 = .ok (.iload_n 1, 1) := by decide +kernel
theorem d_X6_readStonesAll_32 : decode m_X6_readStonesAll.2.1 32 = .ok (.if_icmp .ge 49, 3) := by decide +kernel
theorem d_X6_readStonesAll_35 : decode m_X6_readStonesAll.2.1 35 = .ok (.aload_n 0, 1) := by decide +kernel
theorem d_X6_readStonesAll_36 : decode m_X6_readStonesAll.2.1 36 = .ok (.getfield 37, 3) := by decide +kernel
theorem d_X6_readStonesAll_39 : decode m_X6_readStonesAll.2.1 39 = .ok (.aload_n 0, 1) := by decide +kernel
theorem d_X6_readStonesAll_40 : decode m_X6_readStonesAll.2.1 40 = .ok (.getfield 95, 3) := by decide +kernel
theorem d_X6_readStonesAll_43 : decode m_X6_readStonesAll.2.1 43 = .ok (.aload_n 0, 1) := by decide +kernel
theorem d_X6_readStonesAll_44 : decode m_X6_readStonesAll.2.1 44 = .ok (.iload_n 1, 1) := by decide +kernel
theorem d_X6_readStonesAll_45 : decode m_X6_readStonesAll.2.1 45 = .ok (.iconst 1, 1) := by decide +kernel
theorem d_X6_readStonesAll_46 : decode m_X6_readStonesAll.2.1 46 = .ok (.bipush 9, 2) := by decide +kernel
theorem d_X6_readStonesAll_48 : decode m_X6_readStonesAll.2.1 48 = .ok (.invokevirtual 126, 3) := by decide +kernel
theorem d_X6_readStonesAll_51 : decode m_X6_readStonesAll.2.1 51 = .ok (.iastore, 1) := by decide +kernel
theorem d_X6_readStonesAll_52 : decode m_X6_readStonesAll.2.1 52 = .ok (.aload_n 0, 1) := by decide +kernel
theorem d_X6_readStonesAll_53 : decode m_X6_readStonesAll.2.1 53 = .ok (.getfield 37, 3) := by decide +kernel
theorem d_X6_readStonesAll_56 : decode m_X6_readStonesAll.2.1 56 = .ok (.aload_n 0, 1) := by decide +kernel
theorem d_X6_readStonesAll_57 : decode m_X6_readStonesAll.2.1 57 = .ok (.getfield 95, 3) := by decide +kernel
theorem d_X6_readStonesAll_60 : decode m_X6_readStonesAll.2.1 60 = .ok (.iaload, 1) := by decide +kernel
theorem d_X6_readStonesAll_61 : decode m_X6_readStonesAll.2.1 61 = .ok (.bipush (-9), 2) := by decide +kernel
theorem d_X6_readStonesAll_63 : decode m_X6_readStonesAll.2.1 63 = .ok (.if_icmp .ne 5, 3) := by decide +kernel
theorem d_X6_readStonesAll_66 : decode m_X6_readStonesAll.2.1 66 = .ok (.iconst 0, 1) := by decide +kernel
theorem d_X6_readStonesAll_67 : decode m_X6_readStonesAll.2.1 67 = .ok (.ireturn, 1) := by decide +kernel
theorem d_X6_readStonesAll_68 : decode m_X6_readStonesAll.2.1 68 = .ok (.aload_n 0, 1) := by decide +kernel
theorem d_X6_readStonesAll_69 : decode m_X6_readStonesAll.2.1 69 = .ok (.dup, 1) := by decide +kernel
theorem d_X6_readStonesAll_70 : decode m_X6_readStonesAll.2.1 70 = .ok (.getfield 95, 3) := by decide +kernel
theorem d_X6_readStonesAll_73 : decode m_X6_readStonesAll.2.1 73 = .ok (.iconst 1, 1) := by decide +kernel
theorem d_X6_readStonesAll_74 : decode m_X6_readStonesAll.2.1 74 = .ok (.iadd, 1) := by decide +kernel
theorem d_X6_readStonesAll_75 : decode m_X6_readStonesAll.2.1 75 = .ok (.putfield 95, 3) := by decide +kernel
theorem d_X6_readStonesAll_78 : decode m_X6_readStonesAll.2.1 78 = .ok (.goto (-66), 3) := by decide +kernel
theorem d_X6_readStonesAll_81 : decode m_X6_readStonesAll.2.1 81 = .ok (.aload_n 0, 1) := by decide +kernel
theorem d_X6_readStonesAll_82 : decode m_X6_readStonesAll.2.1 82 = .ok (.getfield 68, 3) := by decide +kernel
theorem d_X6_readStonesAll_85 : decode m_X6_readStonesAll.2.1 85 = .ok (.iload_n 1, 1) := by decide +kernel
theorem d_X6_readStonesAll_86 : decode m_X6_readStonesAll.2.1 86 = .ok (.if_icmp .ne 7, 3) := by decide +kernel
theorem d_X6_readStonesAll_89 : decode m_X6_readStonesAll.2.1 89 = .ok (.iconst 1, 1) := by decide +kernel
theorem d_X6_readStonesAll_90 : decode m_X6_readStonesAll.2.1 90 = .ok (.goto 4, 3) := by decide +kernel
theorem d_X6_readStonesAll_93 : decode m_X6_readStonesAll.2.1 93 = .ok (.iconst 0, 1) := by decide +kernel
theorem d_X6_readStonesAll_94 : decode m_X6_readStonesAll.2.1 94 = .ok (.ireturn, 1) := by decide +kernel
theorem d_X6_readHouse_0 : decode m_X6_readHouse.2.1 0 = .ok (.aload_n 0, 1) := by decide +kernel
theorem d_X6_readHouse_1 : decode m_X6_readHouse.2.1 1 = .ok (.getfield 68, 3) := by decide +kernel
theorem d_X6_readHouse_4 : decode m_X6_readHouse.2.1 4 = .ok (.iload_n 1, 1) := by decide +kernel
theorem d_X6_readHouse_5 : decode m_X6_readHouse.2.1 5 = .ok (.if_icmp .ge 15, 3) := by decide +kernel
theorem d_X6_readHouse_8 : decode m_X6_readHouse.2.1 8 = .ok (.aload_n 0, 1) := by decide +kernel
theorem d_X6_readHouse_9 : decode m_X6_readHouse.2.1 9 = .ok (.getfield 16, 3) := by decide +kernel
theorem d_X6_readHouse_12 : decode m_X6_readHouse.2.1 12 = .ok (.aload_n 0, 1) := by decide +kernel
theorem d_X6_readHouse_13 : decode m_X6_readHouse.2.1 13 = .ok (.getfield 68, 3) := by decide +kernel
theorem d_X6_readHouse_16 : decode m_X6_readHouse.2.1 16 = .ok (.iaload, 1) := by decide +kernel
theorem d_X6_readHouse_17 : decode m_X6_readHouse.2.1 17 = .ok (.goto 4, 3) := by decide +kernel
theorem d_X6_readHouse_20 : decode m_X6_readHouse.2.1 20 = .ok (.iconst 0, 1) := by decide +kernel
theorem d_X6_readHouse_21 : decode m_X6_readHouse.2.1 21 = .ok (.istore_n 2, 1) := by decide +kernel
theorem d_X6_readHouse_22 : decode m_X6_readHouse.2.1 22 = .ok (.iconst 3, 1) := by decide +kernel
theorem d_X6_readHouse_23 : decode m_X6_readHouse.2.1 23 = .ok (.aload_n 0, 1) := by decide +kernel
theorem d_X6_readHouse_24 : decode m_X6_readHouse.2.1 24 = .ok (.getfield 92, 3) := by decide +kernel
theorem d_X6_readHouse_27 : decode m_X6_readHouse.2.1 27 = .ok (.imul, 1) := by decide +kernel
theorem d_X6_readHouse_28 : decode m_X6_readHouse.2.1 28 = .ok (.istore_n 3, 1) := by decide +kernel
theorem d_X6_readHouse_29 : decode m_X6_readHouse.2.1 29 = .ok (.aload_n 0, 1) := by decide +kernel
theorem d_X6_readHouse_30 : decode m_X6_readHouse.2.1 30 = .ok (.getfield 34, 3) := by decide +kernel
theorem d_X6_readHouse_33 : decode m_X6_readHouse.2.1 33 = .ok (.iload_n 3, 1) := by decide +kernel
theorem d_X6_readHouse_34 : decode m_X6_readHouse.2.1 34 = .ok (.iload_n 2, 1) := by decide +kernel
theorem d_X6_readHouse_35 : decode m_X6_readHouse.2.1 35 = .ok (.bipush 112, 2) := by decide +kernel
theorem d_X6_readHouse_37 : decode m_X6_readHouse.2.1 37 = .ok (.if_icmp .ne 7, 3) := by decide +kernel
theorem d_X6_readHouse_40 : decode m_X6_readHouse.2.1 40 = .ok (.iconst 0, 1) := by decide +kernel
theorem d_X6_readHouse_41 : decode m_X6_readHouse.2.1 41 = .ok (.goto 25, 3) := by decide +kernel
theorem d_X6_readHouse_44 : decode m_X6_readHouse.2.1 44 = .ok (.iload_n 2, 1) := by decide +kernel
theorem d_X6_readHouse_45 : decode m_X6_readHouse.2.1 45 = .ok (.bipush 98, 2) := by decide +kernel
theorem d_X6_readHouse_47 : decode m_X6_readHouse.2.1 47 = .ok (.if_icmp .ne 7, 3) := by decide +kernel
theorem d_X6_readHouse_50 : decode m_X6_readHouse.2.1 50 = .ok (.iconst 1, 1) := by decide +kernel
theorem d_X6_readHouse_51 : decode m_X6_readHouse.2.1 51 = .ok (.goto 15, 3) := by decide +kernel
theorem d_X6_readHouse_54 : decode m_X6_readHouse.2.1 54 = .ok (.iload_n 2, 1) := by decide +kernel
theorem d_X6_readHouse_55 : decode m_X6_readHouse.2.1 55 = .ok (.bipush 100, 2) := by decide +kernel
theorem d_X6_readHouse_57 : decode m_X6_readHouse.2.1 57 = .ok (.if_icmp .ne 7, 3) := by decide +kernel
theorem d_X6_readHouse_60 : decode m_X6_readHouse.2.1 60 = .ok (.iconst 2, 1) := by decide +kernel
theorem d_X6_readHouse_61 : decode m_X6_readHouse.2.1 61 = .ok (.goto 5, 3) := by decide +kernel
theorem d_X6_readHouse_64 : decode m_X6_readHouse.2.1 64 = .ok (.bipush (-9), 2) := by decide +kernel
theorem d_X6_readHouse_66 : decode m_X6_readHouse.2.1 66 = .ok (.iastore, 1) := by decide +kernel
theorem d_X6_readHouse_67 : decode m_X6_readHouse.2.1 67 = .ok (.aload_n 0, 1) := by decide +kernel
theorem d_X6_readHouse_68 : decode m_X6_readHouse.2.1 68 = .ok (.getfield 34, 3) := by decide +kernel
theorem d_X6_readHouse_71 : decode m_X6_readHouse.2.1 71 = .ok (.iload_n 3, 1) := by decide +kernel
theorem d_X6_readHouse_72 : decode m_X6_readHouse.2.1 72 = .ok (.iaload, 1) := by decide +kernel
theorem d_X6_readHouse_73 : decode m_X6_readHouse.2.1 73 = .ok (.bipush (-9), 2) := by decide +kernel
theorem d_X6_readHouse_75 : decode m_X6_readHouse.2.1 75 = .ok (.if_icmp .ne 5, 3) := by decide +kernel
theorem d_X6_readHouse_78 : decode m_X6_readHouse.2.1 78 = .ok (.iconst 0, 1) := by decide +kernel
theorem d_X6_readHouse_79 : decode m_X6_readHouse.2.1 79 = .ok (.ireturn, 1) := by decide +kernel
theorem d_X6_readHouse_80 : decode m_X6_readHouse.2.1 80 = .ok (.aload_n 0, 1) := by decide +kernel
theorem d_X6_readHouse_81 : decode m_X6_readHouse.2.1 81 = .ok (.dup, 1) := by decide +kernel
theorem d_X6_readHouse_82 : decode m_X6_readHouse.2.1 82 = .ok (.getfield 68, 3) := by decide +kernel
theorem d_X6_readHouse_85 : decode m_X6_readHouse.2.1 85 = .ok (.iconst 1, 1) := by decide +kernel
theorem d_X6_readHouse_86 : decode m_X6_readHouse.2.1 86 = .ok (.iadd, 1) := by decide +kernel
theorem d_X6_readHouse_87 : decode m_X6_readHouse.2.1 87 = .ok (.putfield 68, 3) := by decide +kernel
theorem d_X6_readHouse_90 : decode m_X6_readHouse.2.1 90 = .ok (.aload_n 0, 1) := by decide +kernel
theorem d_X6_readHouse_91 : decode m_X6_readHouse.2.1 91 = .ok (.getfield 34, 3) := by decide +kernel
theorem d_X6_readHouse_94 : decode m_X6_readHouse.2.1 94 = .ok (.iload_n 3, 1) := by decide +kernel
theorem d_X6_readHouse_95 : decode m_X6_readHouse.2.1 95 = .ok (.iconst 1, 1) := by decide +kernel
theorem d_X6_readHouse_96 : decode m_X6_readHouse.2.1 96 = .ok (.iadd, 1) := by decide +kernel
theorem d_X6_readHouse_97 : decode m_X6_readHouse.2.1 97 = .ok (.aload_n 0, 1) := by decide +kernel
theorem d_X6_readHouse_98 : decode m_X6_readHouse.2.1 98 = .ok (.iload_n 1, 1) := by decide +kernel
theorem d_X6_readHouse_99 : decode m_X6_readHouse.2.1 99 = .ok (.iconst 0, 1) := by decide +kernel
theorem d_X6_readHouse_100 : decode m_X6_readHouse.2.1 100 = .ok (.bipush 9, 2) := by decide +kernel
theorem d_X6_readHouse_102 : decode m_X6_readHouse.2.1 102 = .ok (.invokevirtual 126, 3) := by decide +kernel
theorem d_X6_readHouse_105 : decode m_X6_readHouse.2.1 105 = .ok (.iastore, 1) := by decide +kernel
theorem d_X6_readHouse_106 : decode m_X6_readHouse.2.1 106 = .ok (.aload_n 0, 1) := by decide +kernel
theorem d_X6_readHouse_107 : decode m_X6_readHouse.2.1 107 = .ok (.getfield 34, 3) := by decide +kernel
theorem d_X6_readHouse_110 : decode m_X6_readHouse.2.1 110 = .ok (.iload_n 3, 1) := by decide +kernel
theorem d_X6_readHouse_111 : decode m_X6_readHouse.2.1 111 = .ok (.iconst 1, 1) := by decide +kernel
theorem d_X6_readHouse_112 : decode m_X6_readHouse.2.1 112 = .ok (.iadd, 1) := by decide +kernel
theorem d_X6_readHouse_113 : decode m_X6_readHouse.2.1 113 = .ok (.iaload, 1) := by decide +kernel
theorem d_X6_readHouse_114 : decode m_X6_readHouse.2.1 114 = .ok (.bipush (-9), 2) := by decide +kernel
theorem d_X6_readHouse_116 : decode m_X6_readHouse.2.1 116 = .ok (.if_icmp .ne 5, 3) := by decide +kernel
theorem d_X6_readHouse_119 : decode m_X6_readHouse.2.1 119 = .ok (.iconst 0, 1) := by decide +kernel
theorem d_X6_readHouse_120 : decode m_X6_readHouse.2.1 120 = .ok (.ireturn, 1) := by decide +kernel
theorem d_X6_readHouse_121 : decode m_X6_readHouse.2.1 121 = .ok (.aload_n 0, 1) := by decide +kernel
theorem d_X6_readHouse_122 : decode m_X6_readHouse.2.1 122 = .ok (.getfield 34, 3) := by decide +kernel
theorem d_X6_readHouse_125 : decode m_X6_readHouse.2.1 125 = .ok (.iload_n 3, 1) := by decide +kernel
theorem d_X6_readHouse_126 : decode m_X6_readHouse.2.1 126 = .ok (.iconst 2, 1) := by decide +kernel
theorem d_X6_readHouse_127 : decode m_X6_readHouse.2.1 127 = .ok (.iadd, 1) := by decide +kernel
theorem d_X6_readHouse_128 : decode m_X6_readHouse.2.1 128 = .ok (.aload_n 0, 1) := by decide +kernel
theorem d_X6_readHouse_129 : decode m_X6_readHouse.2.1 129 = .ok (.iload_n 1, 1) := by decide +kernel
theorem d_X6_readHouse_130 : decode m_X6_readHouse.2.1 130 = .ok (.iconst 0, 1) := by decide +kernel
theorem d_X6_readHouse_131 : decode m_X6_readHouse.2.1 131 = .ok (.bipush 9, 2) := by decide +kernel
theorem d_X6_readHouse_133 : decode m_X6_readHouse.2.1 133 = .ok (.invokevirtual 126, 3) := by decide +kernel
theorem d_X6_readHouse_136 : decode m_X6_readHouse.2.1 136 = .ok (.iastore, 1) := by decide +kernel
theorem d_X6_readHouse_137 : decode m_X6_readHouse.2.1 137 = .ok (.aload_n 0, 1) := by decide +kernel
theorem d_X6_readHouse_138 : decode m_X6_readHouse.2.1 138 = .ok (.dup, 1) := by decide +kernel
theorem d_X6_readHouse_139 : decode m_X6_readHouse.2.1 139 = .ok (.getfield 92, 3) := by decide +kernel
theorem d_X6_readHouse_142 : decode m_X6_readHouse.2.1 142 = .ok (.iconst 1, 1) := by decide +kernel
theorem d_X6_readHouse_143 : decode m_X6_readHouse.2.1 143 = .ok (.iadd, 1) := by decide +kernel
theorem d_X6_readHouse_144 : decode m_X6_readHouse.2.1 144 = .ok (.putfield 92, 3) := by decide +kernel
theorem d_X6_readHouse_147 : decode m_X6_readHouse.2.1 147 = .ok (.aload_n 0, 1) := by decide +kernel
theorem d_X6_readHouse_148 : decode m_X6_readHouse.2.1 148 = .ok (.getfield 34, 3) := by decide +kernel
theorem d_X6_readHouse_151 : decode m_X6_readHouse.2.1 151 = .ok (.iload_n 3, 1) := by decide +kernel
theorem d_X6_readHouse_152 : decode m_X6_readHouse.2.1 152 = .ok (.iconst 2, 1) := by decide +kernel
theorem d_X6_readHouse_153 : decode m_X6_readHouse.2.1 153 = .ok (.iadd, 1) := by decide +kernel
theorem d_X6_readHouse_154 : decode m_X6_readHouse.2.1 154 = .ok (.iaload, 1) := by decide +kernel
theorem d_X6_readHouse_155 : decode m_X6_readHouse.2.1 155 = .ok (.bipush (-9), 2) := by decide +kernel
theorem d_X6_readHouse_157 : decode m_X6_readHouse.2.1 157 = .ok (.if_icmp .eq 7, 3) := by decide +kernel
theorem d_X6_readHouse_160 : decode m_X6_readHouse.2.1 160 = .ok (.iconst 1, 1) := by decide +kernel
theorem d_X6_readHouse_161 : decode m_X6_readHouse.2.1 161 = .ok (.goto 4, 3) := by decide +kernel
theorem d_X6_readHouse_164 : decode m_X6_readHouse.2.1 164 = .ok (.iconst 0, 1) := by decide +kernel
theorem d_X6_readHouse_165 : decode m_X6_readHouse.2.1 165 = .ok (.ireturn, 1) := by decide +kernel
theorem d_X6_weightOf_0 : decode m_X6_weightOf.2.1 0 = .ok (.aload_n 0, 1) := by decide +kernel
theorem d_X6_weightOf_1 : decode m_X6_weightOf.2.1 1 = .ok (.getfield 19, 3) := by decide +kernel
theorem d_X6_weightOf_4 : decode m_X6_weightOf.2.1 4 = .ok (.iload_n 1, 1) := by decide +kernel
theorem d_X6_weightOf_5 : decode m_X6_weightOf.2.1 5 = .ok (.iaload, 1) := by decide +kernel
theorem d_X6_weightOf_6 : decode m_X6_weightOf.2.1 6 = .ok (.ifCond .ne 12, 3) := by decide +kernel
theorem d_X6_weightOf_9 : decode m_X6_weightOf.2.1 9 = .ok (.aload_n 0, 1) := by decide +kernel
theorem d_X6_weightOf_10 : decode m_X6_weightOf.2.1 10 = .ok (.getfield 22, 3) := by decide +kernel
theorem d_X6_weightOf_13 : decode m_X6_weightOf.2.1 13 = .ok (.iload_n 1, 1) := by decide +kernel
theorem d_X6_weightOf_14 : decode m_X6_weightOf.2.1 14 = .ok (.iaload, 1) := by decide +kernel
theorem d_X6_weightOf_15 : decode m_X6_weightOf.2.1 15 = .ok (.goto 32, 3) := by decide +kernel
theorem d_X6_weightOf_18 : decode m_X6_weightOf.2.1 18 = .ok (.aload_n 0, 1) := by decide +kernel
theorem d_X6_weightOf_19 : decode m_X6_weightOf.2.1 19 = .ok (.getfield 19, 3) := by decide +kernel
theorem d_X6_weightOf_22 : decode m_X6_weightOf.2.1 22 = .ok (.iload_n 1, 1) := by decide +kernel
theorem d_X6_weightOf_23 : decode m_X6_weightOf.2.1 23 = .ok (.iaload, 1) := by decide +kernel
theorem d_X6_weightOf_24 : decode m_X6_weightOf.2.1 24 = .ok (.iconst 1, 1) := by decide +kernel
theorem d_X6_weightOf_25 : decode m_X6_weightOf.2.1 25 = .ok (.if_icmp .ne 14, 3) := by decide +kernel
theorem d_X6_weightOf_28 : decode m_X6_weightOf.2.1 28 = .ok (.aload_n 0, 1) := by decide +kernel
theorem d_X6_weightOf_29 : decode m_X6_weightOf.2.1 29 = .ok (.getfield 22, 3) := by decide +kernel
theorem d_X6_weightOf_32 : decode m_X6_weightOf.2.1 32 = .ok (.iload_n 1, 1) := by decide +kernel
theorem d_X6_weightOf_33 : decode m_X6_weightOf.2.1 33 = .ok (.iaload, 1) := by decide +kernel
theorem d_X6_weightOf_34 : decode m_X6_weightOf.2.1 34 = .ok (.iconst 1, 1) := by decide +kernel
theorem d_X6_weightOf_35 : decode m_X6_weightOf.2.1 35 = .ok (.iadd, 1) := by decide +kernel
theorem d_X6_weightOf_36 : decode m_X6_weightOf.2.1 36 = .ok (.goto 11, 3) := by decide +kernel
theorem d_X6_weightOf_39 : decode m_X6_weightOf.2.1 39 = .ok (.iconst 2, 1) := by decide +kernel
theorem d_X6_weightOf_40 : decode m_X6_weightOf.2.1 40 = .ok (.aload_n 0, 1) := by decide +kernel
theorem d_X6_weightOf_41 : decode m_X6_weightOf.2.1 41 = .ok (.getfield 22, 3) := by decide +kernel
theorem d_X6_weightOf_44 : decode m_X6_weightOf.2.1 44 = .ok (.iload_n 1, 1) := by decide +kernel
theorem d_X6_weightOf_45 : decode m_X6_weightOf.2.1 45 = .ok (.iaload, 1) := by decide +kernel
theorem d_X6_weightOf_46 : decode m_X6_weightOf.2.1 46 = .ok (.imul, 1) := by decide +kernel
theorem d_X6_weightOf_47 : decode m_X6_weightOf.2.1 47 = .ok (.ireturn, 1) := by decide +kernel
theorem d_X6_rankles_0 : decode m_X6_rankles.2.1 0 = .ok (.aload_n 0, 1) := by decide +kernel
theorem d_X6_rankles_1 : decode m_X6_rankles.2.1 1 = .ok (.getfield 104, 3) := by decide +kernel
theorem d_X6_rankles_4 : decode m_X6_rankles.2.1 4 = .ok (.iload_n 1, 1) := by decide +kernel
theorem d_X6_rankles_5 : decode m_X6_rankles.2.1 5 = .ok (.invokestatic 136, 3) := by decide +kernel
theorem d_X6_rankles_8 : decode m_X6_rankles.2.1 8 = .ok (.ifCond .ne 15, 3) := by decide +kernel
theorem d_X6_rankles_11 : decode m_X6_rankles.2.1 11 = .ok (.aload_n 0, 1) := by decide +kernel
theorem d_X6_rankles_12 : decode m_X6_rankles.2.1 12 = .ok (.iload_n 1, 1) := by decide +kernel
theorem d_X6_rankles_13 : decode m_X6_rankles.2.1 13 = .ok (.invokevirtual 139, 3) := by decide +kernel
theorem d_X6_rankles_16 : decode m_X6_rankles.2.1 16 = .ok (.ifCond .le 7, 3) := by decide +kernel
theorem d_X6_rankles_19 : decode m_X6_rankles.2.1 19 = .ok (.iconst 1, 1) := by decide +kernel
theorem d_X6_rankles_20 : decode m_X6_rankles.2.1 20 = .ok (.goto 4, 3) := by decide +kernel
theorem d_X6_rankles_23 : decode m_X6_rankles.2.1 23 = .ok (.iconst 0, 1) := by decide +kernel
theorem d_X6_rankles_24 : decode m_X6_rankles.2.1 24 = .ok (.ireturn, 1) := by decide +kernel
theorem d_X6_whoRankle_0 : decode m_X6_whoRankle.2.1 0 = .ok (.iconst 0, 1) := by decide +kernel
theorem d_X6_whoRankle_1 : decode m_X6_whoRankle.2.1 1 = .ok (.istore_n 1, 1) := by decide +kernel
theorem d_X6_whoRankle_2 : decode m_X6_whoRankle.2.1 2 = .ok (.iconst 0, 1) := by decide +kernel
theorem d_X6_whoRankle_3 : decode m_X6_whoRankle.2.1 3 = .ok (.istore_n 2, 1) := by decide +kernel
theorem d_X6_whoRankle_4 : decode m_X6_whoRankle.2.1 4 = .ok (.iload_n 2, 1) := by decide +kernel
theorem d_X6_whoRankle_5 : decode m_X6_whoRankle.2.1 5 = .ok (.aload_n 0, 1) := by decide +kernel
theorem d_X6_whoRankle_6 : decode m_X6_whoRankle.2.1 6 = .ok (.getfield 62, 3) := by decide +kernel
theorem d_X6_whoRankle_9 : decode m_X6_whoRankle.2.1 9 = .ok (.if_icmp .ge 27, 3) := by decide +kernel
theorem d_X6_whoRankle_12 : decode m_X6_whoRankle.2.1 12 = .ok (.iload_n 1, 1) := by decide +kernel
theorem d_X6_whoRankle_13 : decode m_X6_whoRankle.2.1 13 = .ok (.aload_n 0, 1) := by decide +kernel
theorem d_X6_whoRankle_14 : decode m_X6_whoRankle.2.1 14 = .ok (.iload_n 2, 1) := by decide +kernel
theorem d_X6_whoRankle_15 : decode m_X6_whoRankle.2.1 15 = .ok (.invokevirtual 142, 3) := by decide +kernel
theorem d_X6_whoRankle_18 : decode m_X6_whoRankle.2.1 18 = .ok (.ifCond .eq 9, 3) := by decide +kernel
theorem d_X6_whoRankle_21 : decode m_X6_whoRankle.2.1 21 = .ok (.iconst 1, 1) := by decide +kernel
theorem d_X6_whoRankle_22 : decode m_X6_whoRankle.2.1 22 = .ok (.iload_n 2, 1) := by decide +kernel
theorem d_X6_whoRankle_23 : decode m_X6_whoRankle.2.1 23 = .ok (.ishl, 1) := by decide +kernel
theorem d_X6_whoRankle_24 : decode m_X6_whoRankle.2.1 24 = .ok (.goto 4, 3) := by decide +kernel
theorem d_X6_whoRankle_27 : decode m_X6_whoRankle.2.1 27 = .ok (.iconst 0, 1) := by decide +kernel
theorem d_X6_whoRankle_28 : decode m_X6_whoRankle.2.1 28 = .ok (.ior, 1) := by decide +kernel
theorem d_X6_whoRankle_29 : decode m_X6_whoRankle.2.1 29 = .ok (.istore_n 1, 1) := by decide +kernel
theorem d_X6_whoRankle_30 : decode m_X6_whoRankle.2.1 30 = .ok (.iinc 2 1, 3) := by decide +kernel
theorem d_X6_whoRankle_33 : decode m_X6_whoRankle.2.1 33 = .ok (.goto (-29), 3) := by decide +kernel
theorem d_X6_whoRankle_36 : decode m_X6_whoRankle.2.1 36 = .ok (.iload_n 1, 1) := by decide +kernel
theorem d_X6_whoRankle_37 : decode m_X6_whoRankle.2.1 37 = .ok (.ireturn, 1) := by decide +kernel
theorem d_X6_voiceNow_0 : decode m_X6_voiceNow.2.1 0 = .ok (.iconst 0, 1) := by decide +kernel
theorem d_X6_voiceNow_1 : decode m_X6_voiceNow.2.1 1 = .ok (.istore_n 1, 1) := by decide +kernel
theorem d_X6_voiceNow_2 : decode m_X6_voiceNow.2.1 2 = .ok (.iconst 0, 1) := by decide +kernel
theorem d_X6_voiceNow_3 : decode m_X6_voiceNow.2.1 3 = .ok (.istore_n 2, 1) := by decide +kernel
theorem d_X6_voiceNow_4 : decode m_X6_voiceNow.2.1 4 = .ok (.iload_n 2, 1) := by decide +kernel
theorem d_X6_voiceNow_5 : decode m_X6_voiceNow.2.1 5 = .ok (.aload_n 0, 1) := by decide +kernel
theorem d_X6_voiceNow_6 : decode m_X6_voiceNow.2.1 6 = .ok (.getfield 62, 3) := by decide +kernel
theorem d_X6_voiceNow_9 : decode m_X6_voiceNow.2.1 9 = .ok (.if_icmp .ge 29, 3) := by decide +kernel
theorem d_X6_voiceNow_12 : decode m_X6_voiceNow.2.1 12 = .ok (.iload_n 1, 1) := by decide +kernel
theorem d_X6_voiceNow_13 : decode m_X6_voiceNow.2.1 13 = .ok (.aload_n 0, 1) := by decide +kernel
theorem d_X6_voiceNow_14 : decode m_X6_voiceNow.2.1 14 = .ok (.iload_n 2, 1) := by decide +kernel
theorem d_X6_voiceNow_15 : decode m_X6_voiceNow.2.1 15 = .ok (.invokevirtual 142, 3) := by decide +kernel
theorem d_X6_voiceNow_18 : decode m_X6_voiceNow.2.1 18 = .ok (.ifCond .eq 11, 3) := by decide +kernel
theorem d_X6_voiceNow_21 : decode m_X6_voiceNow.2.1 21 = .ok (.aload_n 0, 1) := by decide +kernel
theorem d_X6_voiceNow_22 : decode m_X6_voiceNow.2.1 22 = .ok (.iload_n 2, 1) := by decide +kernel
theorem d_X6_voiceNow_23 : decode m_X6_voiceNow.2.1 23 = .ok (.invokevirtual 139, 3) := by decide +kernel
theorem d_X6_voiceNow_26 : decode m_X6_voiceNow.2.1 26 = .ok (.goto 4, 3) := by decide +kernel
theorem d_X6_voiceNow_29 : decode m_X6_voiceNow.2.1 29 = .ok (.iconst 0, 1) := by decide +kernel
theorem d_X6_voiceNow_30 : decode m_X6_voiceNow.2.1 30 = .ok (.iadd, 1) := by decide +kernel
theorem d_X6_voiceNow_31 : decode m_X6_voiceNow.2.1 31 = .ok (.istore_n 1, 1) := by decide +kernel
theorem d_X6_voiceNow_32 : decode m_X6_voiceNow.2.1 32 = .ok (.iinc 2 1, 3) := by decide +kernel
theorem d_X6_voiceNow_35 : decode m_X6_voiceNow.2.1 35 = .ok (.goto (-31), 3) := by decide +kernel
theorem d_X6_voiceNow_38 : decode m_X6_voiceNow.2.1 38 = .ok (.iconst 0, 1) := by decide +kernel
theorem d_X6_voiceNow_39 : decode m_X6_voiceNow.2.1 39 = .ok (.istore_n 2, 1) := by decide +kernel
theorem d_X6_voiceNow_40 : decode m_X6_voiceNow.2.1 40 = .ok (.iload_n 2, 1) := by decide +kernel
theorem d_X6_voiceNow_41 : decode m_X6_voiceNow.2.1 41 = .ok (.aload_n 0, 1) := by decide +kernel
theorem d_X6_voiceNow_42 : decode m_X6_voiceNow.2.1 42 = .ok (.getfield 65, 3) := by decide +kernel
theorem d_X6_voiceNow_45 : decode m_X6_voiceNow.2.1 45 = .ok (.if_icmp .ge 33, 3) := by decide +kernel
theorem d_X6_voiceNow_48 : decode m_X6_voiceNow.2.1 48 = .ok (.iload_n 1, 1) := by decide +kernel
theorem d_X6_voiceNow_49 : decode m_X6_voiceNow.2.1 49 = .ok (.aload_n 0, 1) := by decide +kernel
theorem d_X6_voiceNow_50 : decode m_X6_voiceNow.2.1 50 = .ok (.getfield 107, 3) := by decide +kernel
theorem d_X6_voiceNow_53 : decode m_X6_voiceNow.2.1 53 = .ok (.iload_n 2, 1) := by decide +kernel
theorem d_X6_voiceNow_54 : decode m_X6_voiceNow.2.1 54 = .ok (.invokestatic 136, 3) := by decide +kernel
theorem d_X6_voiceNow_57 : decode m_X6_voiceNow.2.1 57 = .ok (.ifCond .eq 7, 3) := by decide +kernel
theorem d_X6_voiceNow_60 : decode m_X6_voiceNow.2.1 60 = .ok (.iconst 0, 1) := by decide +kernel
theorem d_X6_voiceNow_61 : decode m_X6_voiceNow.2.1 61 = .ok (.goto 9, 3) := by decide +kernel
theorem d_X6_voiceNow_64 : decode m_X6_voiceNow.2.1 64 = .ok (.aload_n 0, 1) := by decide +kernel
theorem d_X6_voiceNow_65 : decode m_X6_voiceNow.2.1 65 = .ok (.getfield 31, 3) := by decide +kernel
theorem d_X6_voiceNow_68 : decode m_X6_voiceNow.2.1 68 = .ok (.iload_n 2, 1) := by decide +kernel
theorem d_X6_voiceNow_69 : decode m_X6_voiceNow.2.1 69 = .ok (.iaload, 1) := by decide +kernel
theorem d_X6_voiceNow_70 : decode m_X6_voiceNow.2.1 70 = .ok (.iadd, 1) := by decide +kernel
theorem d_X6_voiceNow_71 : decode m_X6_voiceNow.2.1 71 = .ok (.istore_n 1, 1) := by decide +kernel
theorem d_X6_voiceNow_72 : decode m_X6_voiceNow.2.1 72 = .ok (.iinc 2 1, 3) := by decide +kernel
theorem d_X6_voiceNow_75 : decode m_X6_voiceNow.2.1 75 = .ok (.goto (-35), 3) := by decide +kernel
theorem d_X6_voiceNow_78 : decode m_X6_voiceNow.2.1 78 = .ok (.iload_n 1, 1) := by decide +kernel
theorem d_X6_voiceNow_79 : decode m_X6_voiceNow.2.1 79 = .ok (.ireturn, 1) := by decide +kernel
theorem d_X6_ofHouse_0 : decode m_X6_ofHouse.2.1 0 = .ok (.aload_n 0, 1) := by decide +kernel
theorem d_X6_ofHouse_1 : decode m_X6_ofHouse.2.1 1 = .ok (.iload_n 1, 1) := by decide +kernel
theorem d_X6_ofHouse_2 : decode m_X6_ofHouse.2.1 2 = .ok (.invokevirtual 145, 3) := by decide +kernel
theorem d_X6_ofHouse_5 : decode m_X6_ofHouse.2.1 5 = .ok (.ifCond .ne 5, 3) := by decide +kernel
theorem d_X6_ofHouse_8 : decode m_X6_ofHouse.2.1 8 = .ok (.iconst (-1), 1) := by decide +kernel
theorem d_X6_ofHouse_9 : decode m_X6_ofHouse.2.1 9 = .ok (.ireturn, 1) := by decide +kernel
theorem d_X6_ofHouse_10 : decode m_X6_ofHouse.2.1 10 = .ok (.iload_n 2, 1) := by decide +kernel
theorem d_X6_ofHouse_11 : decode m_X6_ofHouse.2.1 11 = .ok (.tableswitch 98 0 6 #[41, 48, 55, 62, 68, 77, 91], 41) := by decide +kernel
theorem d_X6_ofHouse_52 : decode m_X6_ofHouse.2.1 52 = .ok (.aload_n 0, 1) := by decide +kernel
theorem d_X6_ofHouse_53 : decode m_X6_ofHouse.2.1 53 = .ok (.getfield 19, 3) := by decide +kernel
theorem d_X6_ofHouse_56 : decode m_X6_ofHouse.2.1 56 = .ok (.iload_n 1, 1) := by decide +kernel
theorem d_X6_ofHouse_57 : decode m_X6_ofHouse.2.1 57 = .ok (.iaload, 1) := by decide +kernel
theorem d_X6_ofHouse_58 : decode m_X6_ofHouse.2.1 58 = .ok (.ireturn, 1) := by decide +kernel
theorem d_X6_ofHouse_59 : decode m_X6_ofHouse.2.1 59 = .ok (.aload_n 0, 1) := by decide +kernel
theorem d_X6_ofHouse_60 : decode m_X6_ofHouse.2.1 60 = .ok (.getfield 22, 3) := by decide +kernel
theorem d_X6_ofHouse_63 : decode m_X6_ofHouse.2.1 63 = .ok (.iload_n 1, 1) := by decide +kernel
theorem d_X6_ofHouse_64 : decode m_X6_ofHouse.2.1 64 = .ok (.iaload, 1) := by decide +kernel
theorem d_X6_ofHouse_65 : decode m_X6_ofHouse.2.1 65 = .ok (.ireturn, 1) := by decide +kernel
theorem d_X6_ofHouse_66 : decode m_X6_ofHouse.2.1 66 = .ok (.aload_n 0, 1) := by decide +kernel
theorem d_X6_ofHouse_67 : decode m_X6_ofHouse.2.1 67 = .ok (.getfield 25, 3) := by decide +kernel
theorem d_X6_ofHouse_70 : decode m_X6_ofHouse.2.1 70 = .ok (.iload_n 1, 1) := by decide +kernel
theorem d_X6_ofHouse_71 : decode m_X6_ofHouse.2.1 71 = .ok (.iaload, 1) := by decide +kernel
theorem d_X6_ofHouse_72 : decode m_X6_ofHouse.2.1 72 = .ok (.ireturn, 1) := by decide +kernel
theorem d_X6_ofHouse_73 : decode m_X6_ofHouse.2.1 73 = .ok (.aload_n 0, 1) := by decide +kernel
theorem d_X6_ofHouse_74 : decode m_X6_ofHouse.2.1 74 = .ok (.iload_n 1, 1) := by decide +kernel
theorem d_X6_ofHouse_75 : decode m_X6_ofHouse.2.1 75 = .ok (.invokevirtual 139, 3) := by decide +kernel
theorem d_X6_ofHouse_78 : decode m_X6_ofHouse.2.1 78 = .ok (.ireturn, 1) := by decide +kernel
theorem d_X6_ofHouse_79 : decode m_X6_ofHouse.2.1 79 = .ok (.aload_n 0, 1) := by decide +kernel
theorem d_X6_ofHouse_80 : decode m_X6_ofHouse.2.1 80 = .ok (.getfield 104, 3) := by decide +kernel
theorem d_X6_ofHouse_83 : decode m_X6_ofHouse.2.1 83 = .ok (.iload_n 1, 1) := by decide +kernel
theorem d_X6_ofHouse_84 : decode m_X6_ofHouse.2.1 84 = .ok (.ishr, 1) := by decide +kernel
theorem d_X6_ofHouse_85 : decode m_X6_ofHouse.2.1 85 = .ok (.iconst 1, 1) := by decide +kernel
theorem d_X6_ofHouse_86 : decode m_X6_ofHouse.2.1 86 = .ok (.iand, 1) := by decide +kernel
theorem d_X6_ofHouse_87 : decode m_X6_ofHouse.2.1 87 = .ok (.ireturn, 1) := by decide +kernel
theorem d_X6_ofHouse_88 : decode m_X6_ofHouse.2.1 88 = .ok (.aload_n 0, 1) := by decide +kernel
theorem d_X6_ofHouse_89 : decode m_X6_ofHouse.2.1 89 = .ok (.iload_n 1, 1) := by decide +kernel
theorem d_X6_ofHouse_90 : decode m_X6_ofHouse.2.1 90 = .ok (.invokevirtual 142, 3) := by decide +kernel
theorem d_X6_ofHouse_93 : decode m_X6_ofHouse.2.1 93 = .ok (.ifCond .eq 7, 3) := by decide +kernel
theorem d_X6_ofHouse_96 : decode m_X6_ofHouse.2.1 96 = .ok (.iconst 1, 1) := by decide +kernel
theorem d_X6_ofHouse_97 : decode m_X6_ofHouse.2.1 97 = .ok (.goto 4, 3) := by decide +kernel
theorem d_X6_ofHouse_100 : decode m_X6_ofHouse.2.1 100 = .ok (.iconst 0, 1) := by decide +kernel
theorem d_X6_ofHouse_101 : decode m_X6_ofHouse.2.1 101 = .ok (.ireturn, 1) := by decide +kernel
theorem d_X6_ofHouse_102 : decode m_X6_ofHouse.2.1 102 = .ok (.aload_n 0, 1) := by decide +kernel
theorem d_X6_ofHouse_103 : decode m_X6_ofHouse.2.1 103 = .ok (.getfield 28, 3) := by decide +kernel
theorem d_X6_ofHouse_106 : decode m_X6_ofHouse.2.1 106 = .ok (.iload_n 1, 1) := by decide +kernel
theorem d_X6_ofHouse_107 : decode m_X6_ofHouse.2.1 107 = .ok (.iaload, 1) := by decide +kernel
theorem d_X6_ofHouse_108 : decode m_X6_ofHouse.2.1 108 = .ok (.ireturn, 1) := by decide +kernel
theorem d_X6_ofHouse_109 : decode m_X6_ofHouse.2.1 109 = .ok (.bipush (-2), 2) := by decide +kernel
theorem d_X6_ofHouse_111 : decode m_X6_ofHouse.2.1 111 = .ok (.ireturn, 1) := by decide +kernel
theorem d_X6_ofStone_0 : decode m_X6_ofStone.2.1 0 = .ok (.aload_n 0, 1) := by decide +kernel
theorem d_X6_ofStone_1 : decode m_X6_ofStone.2.1 1 = .ok (.iload_n 1, 1) := by decide +kernel
theorem d_X6_ofStone_2 : decode m_X6_ofStone.2.1 2 = .ok (.invokevirtual 148, 3) := by decide +kernel
theorem d_X6_ofStone_5 : decode m_X6_ofStone.2.1 5 = .ok (.ifCond .ne 5, 3) := by decide +kernel
theorem d_X6_ofStone_8 : decode m_X6_ofStone.2.1 8 = .ok (.iconst (-1), 1) := by decide +kernel
theorem d_X6_ofStone_9 : decode m_X6_ofStone.2.1 9 = .ok (.ireturn, 1) := by decide +kernel
theorem d_X6_ofStone_10 : decode m_X6_ofStone.2.1 10 = .ok (.iload_n 2, 1) := by decide +kernel
theorem d_X6_ofStone_11 : decode m_X6_ofStone.2.1 11 = .ok (.ifCond .ne 12, 3) := by decide +kernel
theorem d_X6_ofStone_14 : decode m_X6_ofStone.2.1 14 = .ok (.aload_n 0, 1) := by decide +kernel
theorem d_X6_ofStone_15 : decode m_X6_ofStone.2.1 15 = .ok (.getfield 31, 3) := by decide +kernel
theorem d_X6_ofStone_18 : decode m_X6_ofStone.2.1 18 = .ok (.iload_n 1, 1) := by decide +kernel
theorem d_X6_ofStone_19 : decode m_X6_ofStone.2.1 19 = .ok (.iaload, 1) := by decide +kernel
theorem d_X6_ofStone_20 : decode m_X6_ofStone.2.1 20 = .ok (.goto 21, 3) := by decide +kernel
theorem d_X6_ofStone_23 : decode m_X6_ofStone.2.1 23 = .ok (.iload_n 2, 1) := by decide +kernel
theorem d_X6_ofStone_24 : decode m_X6_ofStone.2.1 24 = .ok (.iconst 1, 1) := by decide +kernel
theorem d_X6_ofStone_25 : decode m_X6_ofStone.2.1 25 = .ok (.if_icmp .ne 14, 3) := by decide +kernel
theorem d_X6_ofStone_28 : decode m_X6_ofStone.2.1 28 = .ok (.aload_n 0, 1) := by decide +kernel
theorem d_X6_ofStone_29 : decode m_X6_ofStone.2.1 29 = .ok (.getfield 107, 3) := by decide +kernel
theorem d_X6_ofStone_32 : decode m_X6_ofStone.2.1 32 = .ok (.iload_n 1, 1) := by decide +kernel
theorem d_X6_ofStone_33 : decode m_X6_ofStone.2.1 33 = .ok (.ishr, 1) := by decide +kernel
theorem d_X6_ofStone_34 : decode m_X6_ofStone.2.1 34 = .ok (.iconst 1, 1) := by decide +kernel
theorem d_X6_ofStone_35 : decode m_X6_ofStone.2.1 35 = .ok (.iand, 1) := by decide +kernel
theorem d_X6_ofStone_36 : decode m_X6_ofStone.2.1 36 = .ok (.goto 5, 3) := by decide +kernel
theorem d_X6_ofStone_39 : decode m_X6_ofStone.2.1 39 = .ok (.bipush (-2), 2) := by decide +kernel
theorem d_X6_ofStone_41 : decode m_X6_ofStone.2.1 41 = .ok (.ireturn, 1) := by decide +kernel
theorem d_X6_sleep_0 : decode m_X6_sleep.2.1 0 = .ok (.aload_n 0, 1) := by decide +kernel
theorem d_X6_sleep_1 : decode m_X6_sleep.2.1 1 = .ok (.iload_n 1, 1) := by decide +kernel
theorem d_X6_sleep_2 : decode m_X6_sleep.2.1 2 = .ok (.invokevirtual 145, 3) := by decide +kernel
theorem d_X6_sleep_5 : decode m_X6_sleep.2.1 5 = .ok (.ifCond .ne 5, 3) := by decide +kernel
theorem d_X6_sleep_8 : decode m_X6_sleep.2.1 8 = .ok (.iconst (-1), 1) := by decide +kernel
theorem d_X6_sleep_9 : decode m_X6_sleep.2.1 9 = .ok (.ireturn, 1) := by decide +kernel
theorem d_X6_sleep_10 : decode m_X6_sleep.2.1 10 = .ok (.iload_n 2, 1) := by decide +kernel
theorem d_X6_sleep_11 : decode m_X6_sleep.2.1 11 = .ok (.iconst 0, 1) := by decide +kernel
theorem d_X6_sleep_12 : decode m_X6_sleep.2.1 12 = .ok (.bipush 9, 2) := by decide +kernel
theorem d_X6_sleep_14 : decode m_X6_sleep.2.1 14 = .ok (.invokestatic 58, 3) := by decide +kernel
theorem d_X6_sleep_17 : decode m_X6_sleep.2.1 17 = .ok (.ifCond .ne 6, 3) := by decide +kernel
theorem d_X6_sleep_20 : decode m_X6_sleep.2.1 20 = .ok (.bipush (-2), 2) := by decide +kernel
theorem d_X6_sleep_22 : decode m_X6_sleep.2.1 22 = .ok (.ireturn, 1) := by decide +kernel
theorem d_X6_sleep_23 : decode m_X6_sleep.2.1 23 = .ok (.aload_n 0, 1) := by decide +kernel
theorem d_X6_sleep_24 : decode m_X6_sleep.2.1 24 = .ok (.getfield 25, 3) := by decide +kernel
theorem d_X6_sleep_27 : decode m_X6_sleep.2.1 27 = .ok (.iload_n 1, 1) := by decide +kernel
theorem d_X6_sleep_28 : decode m_X6_sleep.2.1 28 = .ok (.iaload, 1) := by decide +kernel
theorem d_X6_sleep_29 : decode m_X6_sleep.2.1 29 = .ok (.istore_n 3, 1) := by decide +kernel
theorem d_X6_sleep_30 : decode m_X6_sleep.2.1 30 = .ok (.aload_n 0, 1) := by decide +kernel
theorem d_X6_sleep_31 : decode m_X6_sleep.2.1 31 = .ok (.getfield 25, 3) := by decide +kernel
theorem d_X6_sleep_34 : decode m_X6_sleep.2.1 34 = .ok (.iload_n 1, 1) := by decide +kernel
theorem d_X6_sleep_35 : decode m_X6_sleep.2.1 35 = .ok (.iload_n 2, 1) := by decide +kernel
theorem d_X6_sleep_36 : decode m_X6_sleep.2.1 36 = .ok (.iastore, 1) := by decide +kernel
theorem d_X6_sleep_37 : decode m_X6_sleep.2.1 37 = .ok (.iload_n 3, 1) := by decide +kernel
theorem d_X6_sleep_38 : decode m_X6_sleep.2.1 38 = .ok (.ireturn, 1) := by decide +kernel
theorem d_X6_owns_0 : decode m_X6_owns.2.1 0 = .ok (.aload_n 0, 1) := by decide +kernel
theorem d_X6_owns_1 : decode m_X6_owns.2.1 1 = .ok (.iload_n 1, 1) := by decide +kernel
theorem d_X6_owns_2 : decode m_X6_owns.2.1 2 = .ok (.invokevirtual 142, 3) := by decide +kernel
theorem d_X6_owns_5 : decode m_X6_owns.2.1 5 = .ok (.ifCond .eq 17, 3) := by decide +kernel
theorem d_X6_owns_8 : decode m_X6_owns.2.1 8 = .ok (.aload_n 0, 1) := by decide +kernel
theorem d_X6_owns_9 : decode m_X6_owns.2.1 9 = .ok (.dup, 1) := by decide +kernel
theorem d_X6_owns_10 : decode m_X6_owns.2.1 10 = .ok (.getfield 104, 3) := by decide +kernel
theorem d_X6_owns_13 : decode m_X6_owns.2.1 13 = .ok (.iconst 1, 1) := by decide +kernel
theorem d_X6_owns_14 : decode m_X6_owns.2.1 14 = .ok (.iload_n 1, 1) := by decide +kernel
theorem d_X6_owns_15 : decode m_X6_owns.2.1 15 = .ok (.ishl, 1) := by decide +kernel
theorem d_X6_owns_16 : decode m_X6_owns.2.1 16 = .ok (.ior, 1) := by decide +kernel
theorem d_X6_owns_17 : decode m_X6_owns.2.1 17 = .ok (.putfield 104, 3) := by decide +kernel
theorem d_X6_owns_20 : decode m_X6_owns.2.1 20 = .ok (.iconst 1, 1) := by decide +kernel
theorem d_X6_owns_21 : decode m_X6_owns.2.1 21 = .ok (.ireturn, 1) := by decide +kernel
theorem d_X6_owns_22 : decode m_X6_owns.2.1 22 = .ok (.aload_n 0, 1) := by decide +kernel
theorem d_X6_owns_23 : decode m_X6_owns.2.1 23 = .ok (.getfield 28, 3) := by decide +kernel
theorem d_X6_owns_26 : decode m_X6_owns.2.1 26 = .ok (.iload_n 1, 1) := by decide +kernel
theorem d_X6_owns_27 : decode m_X6_owns.2.1 27 = .ok (.dup2, 1) := by decide +kernel
theorem d_X6_owns_28 : decode m_X6_owns.2.1 28 = .ok (.iaload, 1) := by decide +kernel
theorem d_X6_owns_29 : decode m_X6_owns.2.1 29 = .ok (.iconst 1, 1) := by decide +kernel
theorem d_X6_owns_30 : decode m_X6_owns.2.1 30 = .ok (.iadd, 1) := by decide +kernel
theorem d_X6_owns_31 : decode m_X6_owns.2.1 31 = .ok (.iastore, 1) := by decide +kernel
theorem d_X6_owns_32 : decode m_X6_owns.2.1 32 = .ok (.aload_n 0, 1) := by decide +kernel
theorem d_X6_owns_33 : decode m_X6_owns.2.1 33 = .ok (.dup, 1) := by decide +kernel
theorem d_X6_owns_34 : decode m_X6_owns.2.1 34 = .ok (.getfield 116, 3) := by decide +kernel
theorem d_X6_owns_37 : decode m_X6_owns.2.1 37 = .ok (.iconst 1, 1) := by decide +kernel
theorem d_X6_owns_38 : decode m_X6_owns.2.1 38 = .ok (.iadd, 1) := by decide +kernel
theorem d_X6_owns_39 : decode m_X6_owns.2.1 39 = .ok (.putfield 116, 3) := by decide +kernel
theorem d_X6_owns_42 : decode m_X6_owns.2.1 42 = .ok (.iconst 0, 1) := by decide +kernel
theorem d_X6_owns_43 : decode m_X6_owns.2.1 43 = .ok (.ireturn, 1) := by decide +kernel
theorem d_X6_layGreatest_0 : decode m_X6_layGreatest.2.1 0 = .ok (.bipush (-9), 2) := by decide +kernel
theorem d_X6_layGreatest_2 : decode m_X6_layGreatest.2.1 2 = .ok (.istore_n 1, 1) := by decide +kernel
theorem d_X6_layGreatest_3 : decode m_X6_layGreatest.2.1 3 = .ok (.iconst 0, 1) := by decide +kernel
theorem d_X6_layGreatest_4 : decode m_X6_layGreatest.2.1 4 = .ok (.istore_n 2, 1) := by decide +kernel
theorem d_X6_layGreatest_5 : decode m_X6_layGreatest.2.1 5 = .ok (.iload_n 2, 1) := by decide +kernel
theorem d_X6_layGreatest_6 : decode m_X6_layGreatest.2.1 6 = .ok (.aload_n 0, 1) := by decide +kernel
theorem d_X6_layGreatest_7 : decode m_X6_layGreatest.2.1 7 = .ok (.getfield 65, 3) := by decide +kernel
theorem d_X6_layGreatest_10 : decode m_X6_layGreatest.2.1 10 = .ok (.if_icmp .ge 47, 3) := by decide +kernel
theorem d_X6_layGreatest_13 : decode m_X6_layGreatest.2.1 13 = .ok (.aload_n 0, 1) := by decide +kernel
theorem d_X6_layGreatest_14 : decode m_X6_layGreatest.2.1 14 = .ok (.getfield 107, 3) := by decide +kernel
theorem d_X6_layGreatest_17 : decode m_X6_layGreatest.2.1 17 = .ok (.iload_n 2, 1) := by decide +kernel
theorem d_X6_layGreatest_18 : decode m_X6_layGreatest.2.1 18 = .ok (.invokestatic 136, 3) := by decide +kernel
theorem d_X6_layGreatest_21 : decode m_X6_layGreatest.2.1 21 = .ok (.ifCond .ne 28, 3) := by decide +kernel
theorem d_X6_layGreatest_24 : decode m_X6_layGreatest.2.1 24 = .ok (.iload_n 1, 1) := by decide +kernel
theorem d_X6_layGreatest_25 : decode m_X6_layGreatest.2.1 25 = .ok (.bipush (-9), 2) := by decide +kernel
theorem d_X6_layGreatest_27 : decode m_X6_layGreatest.2.1 27 = .ok (.if_icmp .eq 18, 3) := by decide +kernel
theorem d_X6_layGreatest_30 : decode m_X6_layGreatest.2.1 30 = .ok (.aload_n 0, 1) := by decide +kernel
theorem d_X6_layGreatest_31 : decode m_X6_layGreatest.2.1 31 = .ok (.getfield 31, 3) := by decide +kernel
theorem d_X6_layGreatest_34 : decode m_X6_layGreatest.2.1 34 = .ok (.iload_n 2, 1) := by decide +kernel
theorem d_X6_layGreatest_35 : decode m_X6_layGreatest.2.1 35 = .ok (.iaload, 1) := by decide +kernel
theorem d_X6_layGreatest_36 : decode m_X6_layGreatest.2.1 36 = .ok (.aload_n 0, 1) := by decide +kernel
theorem d_X6_layGreatest_37 : decode m_X6_layGreatest.2.1 37 = .ok (.getfield 31, 3) := by decide +kernel
theorem d_X6_layGreatest_40 : decode m_X6_layGreatest.2.1 40 = .ok (.iload_n 1, 1) := by decide +kernel
theorem d_X6_layGreatest_41 : decode m_X6_layGreatest.2.1 41 = .ok (.iaload, 1) := by decide +kernel
theorem d_X6_layGreatest_42 : decode m_X6_layGreatest.2.1 42 = .ok (.if_icmp .le 7, 3) := by decide +kernel
theorem d_X6_layGreatest_45 : decode m_X6_layGreatest.2.1 45 = .ok (.iload_n 2, 1) := by decide +kernel
theorem d_X6_layGreatest_46 : decode m_X6_layGreatest.2.1 46 = .ok (.goto 4, 3) := by decide +kernel
theorem d_X6_layGreatest_49 : decode m_X6_layGreatest.2.1 49 = .ok (.iload_n 1, 1) := by decide +kernel
theorem d_X6_layGreatest_50 : decode m_X6_layGreatest.2.1 50 = .ok (.istore_n 1, 1) := by decide +kernel
theorem d_X6_layGreatest_51 : decode m_X6_layGreatest.2.1 51 = .ok (.iinc 2 1, 3) := by decide +kernel
theorem d_X6_layGreatest_54 : decode m_X6_layGreatest.2.1 54 = .ok (.goto (-49), 3) := by decide +kernel
theorem d_X6_layGreatest_57 : decode m_X6_layGreatest.2.1 57 = .ok (.aload_n 0, 1) := by decide +kernel
theorem d_X6_layGreatest_58 : decode m_X6_layGreatest.2.1 58 = .ok (.dup, 1) := by decide +kernel
theorem d_X6_layGreatest_59 : decode m_X6_layGreatest.2.1 59 = .ok (.getfield 107, 3) := by decide +kernel
theorem d_X6_layGreatest_62 : decode m_X6_layGreatest.2.1 62 = .ok (.iload_n 1, 1) := by decide +kernel
theorem d_X6_layGreatest_63 : decode m_X6_layGreatest.2.1 63 = .ok (.bipush (-9), 2) := by decide +kernel
theorem d_X6_layGreatest_65 : decode m_X6_layGreatest.2.1 65 = .ok (.if_icmp .ne 7, 3) := by decide +kernel
theorem d_X6_layGreatest_68 : decode m_X6_layGreatest.2.1 68 = .ok (.iconst 0, 1) := by decide +kernel
theorem d_X6_layGreatest_69 : decode m_X6_layGreatest.2.1 69 = .ok (.goto 6, 3) := by decide +kernel
theorem d_X6_layGreatest_72 : decode m_X6_layGreatest.2.1 72 = .ok (.iconst 1, 1) := by decide +kernel
theorem d_X6_layGreatest_73 : decode m_X6_layGreatest.2.1 73 = .ok (.iload_n 1, 1) := by decide +kernel
theorem d_X6_layGreatest_74 : decode m_X6_layGreatest.2.1 74 = .ok (.ishl, 1) := by decide +kernel
theorem d_X6_layGreatest_75 : decode m_X6_layGreatest.2.1 75 = .ok (.ior, 1) := by decide +kernel
theorem d_X6_layGreatest_76 : decode m_X6_layGreatest.2.1 76 = .ok (.putfield 107, 3) := by decide +kernel
theorem d_X6_layGreatest_79 : decode m_X6_layGreatest.2.1 79 = .ok (.return_, 1) := by decide +kernel
theorem d_X6_goesNight_0 : decode m_X6_goesNight.2.1 0 = .ok (.aload_n 0, 1) := by decide +kernel
theorem d_X6_goesNight_1 : decode m_X6_goesNight.2.1 1 = .ok (.dup, 1) := by decide +kernel
theorem d_X6_goesNight_2 : decode m_X6_goesNight.2.1 2 = .ok (.getfield 113, 3) := by decide +kernel
theorem d_X6_goesNight_5 : decode m_X6_goesNight.2.1 5 = .ok (.iconst 1, 1) := by decide +kernel
theorem d_X6_goesNight_6 : decode m_X6_goesNight.2.1 6 = .ok (.iadd, 1) := by decide +kernel
theorem d_X6_goesNight_7 : decode m_X6_goesNight.2.1 7 = .ok (.putfield 113, 3) := by decide +kernel
theorem d_X6_goesNight_10 : decode m_X6_goesNight.2.1 10 = .ok (.aload_n 0, 1) := by decide +kernel
theorem d_X6_goesNight_11 : decode m_X6_goesNight.2.1 11 = .ok (.invokevirtual 151, 3) := by decide +kernel
theorem d_X6_goesNight_14 : decode m_X6_goesNight.2.1 14 = .ok (.ifCond .ne 4, 3) := by decide +kernel
theorem d_X6_goesNight_17 : decode m_X6_goesNight.2.1 17 = .ok (.return_, 1) := by decide +kernel
theorem d_X6_goesNight_18 : decode m_X6_goesNight.2.1 18 = .ok (.iconst 0, 1) := by decide +kernel
theorem d_X6_goesNight_19 : decode m_X6_goesNight.2.1 19 = .ok (.istore_n 1, 1) := by decide +kernel
theorem d_X6_goesNight_20 : decode m_X6_goesNight.2.1 20 = .ok (.iload_n 1, 1) := by decide +kernel
theorem d_X6_goesNight_21 : decode m_X6_goesNight.2.1 21 = .ok (.aload_n 0, 1) := by decide +kernel
theorem d_X6_goesNight_22 : decode m_X6_goesNight.2.1 22 = .ok (.getfield 62, 3) := by decide +kernel
theorem d_X6_goesNight_25 : decode m_X6_goesNight.2.1 25 = .ok (.if_icmp .ge 32, 3) := by decide +kernel
theorem d_X6_goesNight_28 : decode m_X6_goesNight.2.1 28 = .ok (.aload_n 0, 1) := by decide +kernel
theorem d_X6_goesNight_29 : decode m_X6_goesNight.2.1 29 = .ok (.getfield 25, 3) := by decide +kernel
theorem d_X6_goesNight_32 : decode m_X6_goesNight.2.1 32 = .ok (.iload_n 1, 1) := by decide +kernel
theorem d_X6_goesNight_33 : decode m_X6_goesNight.2.1 33 = .ok (.dup2, 1) := by decide +kernel
theorem d_X6_goesNight_34 : decode m_X6_goesNight.2.1 34 = .ok (.iaload, 1) := by decide +kernel
theorem d_X6_goesNight_35 : decode m_X6_goesNight.2.1 35 = .ok (.aload_n 0, 1) := by decide +kernel
theorem d_X6_goesNight_36 : decode m_X6_goesNight.2.1 36 = .ok (.getfield 25, 3) := by decide +kernel
theorem d_X6_goesNight_39 : decode m_X6_goesNight.2.1 39 = .ok (.iload_n 1, 1) := by decide +kernel
theorem d_X6_goesNight_40 : decode m_X6_goesNight.2.1 40 = .ok (.iaload, 1) := by decide +kernel
theorem d_X6_goesNight_41 : decode m_X6_goesNight.2.1 41 = .ok (.ifCond .le 7, 3) := by decide +kernel
theorem d_X6_goesNight_44 : decode m_X6_goesNight.2.1 44 = .ok (.iconst 1, 1) := by decide +kernel
theorem d_X6_goesNight_45 : decode m_X6_goesNight.2.1 45 = .ok (.goto 4, 3) := by decide +kernel
theorem d_X6_goesNight_48 : decode m_X6_goesNight.2.1 48 = .ok (.iconst 0, 1) := by decide +kernel
theorem d_X6_goesNight_49 : decode m_X6_goesNight.2.1 49 = .ok (.isub, 1) := by decide +kernel
theorem d_X6_goesNight_50 : decode m_X6_goesNight.2.1 50 = .ok (.iastore, 1) := by decide +kernel
theorem d_X6_goesNight_51 : decode m_X6_goesNight.2.1 51 = .ok (.iinc 1 1, 3) := by decide +kernel
theorem d_X6_goesNight_54 : decode m_X6_goesNight.2.1 54 = .ok (.goto (-34), 3) := by decide +kernel
theorem d_X6_goesNight_57 : decode m_X6_goesNight.2.1 57 = .ok (.aload_n 0, 1) := by decide +kernel
theorem d_X6_goesNight_58 : decode m_X6_goesNight.2.1 58 = .ok (.getfield 25, 3) := by decide +kernel
theorem d_X6_goesNight_61 : decode m_X6_goesNight.2.1 61 = .ok (.aload_n 0, 1) := by decide +kernel
theorem d_X6_goesNight_62 : decode m_X6_goesNight.2.1 62 = .ok (.getfield 110, 3) := by decide +kernel
theorem d_X6_goesNight_65 : decode m_X6_goesNight.2.1 65 = .ok (.iaload, 1) := by decide +kernel
theorem d_X6_goesNight_66 : decode m_X6_goesNight.2.1 66 = .ok (.ifCond .ne 12, 3) := by decide +kernel
theorem d_X6_goesNight_69 : decode m_X6_goesNight.2.1 69 = .ok (.aload_n 0, 1) := by decide +kernel
theorem d_X6_goesNight_70 : decode m_X6_goesNight.2.1 70 = .ok (.aload_n 0, 1) := by decide +kernel
theorem d_X6_goesNight_71 : decode m_X6_goesNight.2.1 71 = .ok (.getfield 110, 3) := by decide +kernel
theorem d_X6_goesNight_74 : decode m_X6_goesNight.2.1 74 = .ok (.invokevirtual 155, 3) := by decide +kernel
theorem d_X6_goesNight_77 : decode m_X6_goesNight.2.1 77 = .ok (.pop, 1) := by decide +kernel
theorem d_X6_goesNight_78 : decode m_X6_goesNight.2.1 78 = .ok (.aload_n 0, 1) := by decide +kernel
theorem d_X6_goesNight_79 : decode m_X6_goesNight.2.1 79 = .ok (.invokevirtual 158, 3) := by decide +kernel
theorem d_X6_goesNight_82 : decode m_X6_goesNight.2.1 82 = .ok (.ifCond .ne 7, 3) := by decide +kernel
theorem d_X6_goesNight_85 : decode m_X6_goesNight.2.1 85 = .ok (.aload_n 0, 1) := by decide +kernel
theorem d_X6_goesNight_86 : decode m_X6_goesNight.2.1 86 = .ok (.invokevirtual 161, 3) := by decide +kernel
theorem d_X6_goesNight_89 : decode m_X6_goesNight.2.1 89 = .ok (.aload_n 0, 1) := by decide +kernel
theorem d_X6_goesNight_90 : decode m_X6_goesNight.2.1 90 = .ok (.aload_n 0, 1) := by decide +kernel
theorem d_X6_goesNight_91 : decode m_X6_goesNight.2.1 91 = .ok (.getfield 110, 3) := by decide +kernel
theorem d_X6_goesNight_94 : decode m_X6_goesNight.2.1 94 = .ok (.aload_n 0, 1) := by decide +kernel
theorem d_X6_goesNight_95 : decode m_X6_goesNight.2.1 95 = .ok (.getfield 101, 3) := by decide +kernel
theorem d_X6_goesNight_98 : decode m_X6_goesNight.2.1 98 = .ok (.iadd, 1) := by decide +kernel
theorem d_X6_goesNight_99 : decode m_X6_goesNight.2.1 99 = .ok (.aload_n 0, 1) := by decide +kernel
theorem d_X6_goesNight_100 : decode m_X6_goesNight.2.1 100 = .ok (.getfield 62, 3) := by decide +kernel
theorem d_X6_goesNight_103 : decode m_X6_goesNight.2.1 103 = .ok (.irem, 1) := by decide +kernel
theorem d_X6_goesNight_104 : decode m_X6_goesNight.2.1 104 = .ok (.putfield 110, 3) := by decide +kernel
theorem d_X6_goesNight_107 : decode m_X6_goesNight.2.1 107 = .ok (.return_, 1) := by decide +kernel
theorem d_X6_own_0 : decode m_X6_own.2.1 0 = .ok (.aload_n 0, 1) := by decide +kernel
theorem d_X6_own_1 : decode m_X6_own.2.1 1 = .ok (.iload_n 1, 1) := by decide +kernel
theorem d_X6_own_2 : decode m_X6_own.2.1 2 = .ok (.invokevirtual 145, 3) := by decide +kernel
theorem d_X6_own_5 : decode m_X6_own.2.1 5 = .ok (.ifCond .ne 5, 3) := by decide +kernel
theorem d_X6_own_8 : decode m_X6_own.2.1 8 = .ok (.iconst (-1), 1) := by decide +kernel
theorem d_X6_own_9 : decode m_X6_own.2.1 9 = .ok (.ireturn, 1) := by decide +kernel
theorem d_X6_own_10 : decode m_X6_own.2.1 10 = .ok (.aload_n 0, 1) := by decide +kernel
theorem d_X6_own_11 : decode m_X6_own.2.1 11 = .ok (.iload_n 1, 1) := by decide +kernel
theorem d_X6_own_12 : decode m_X6_own.2.1 12 = .ok (.invokevirtual 155, 3) := by decide +kernel
theorem d_X6_own_15 : decode m_X6_own.2.1 15 = .ok (.ifCond .eq 7, 3) := by decide +kernel
theorem d_X6_own_18 : decode m_X6_own.2.1 18 = .ok (.iconst 1, 1) := by decide +kernel
theorem d_X6_own_19 : decode m_X6_own.2.1 19 = .ok (.goto 4, 3) := by decide +kernel
theorem d_X6_own_22 : decode m_X6_own.2.1 22 = .ok (.iconst 0, 1) := by decide +kernel
theorem d_X6_own_23 : decode m_X6_own.2.1 23 = .ok (.ireturn, 1) := by decide +kernel
theorem d_X6_lay_0 : decode m_X6_lay.2.1 0 = .ok (.aload_n 0, 1) := by decide +kernel
theorem d_X6_lay_1 : decode m_X6_lay.2.1 1 = .ok (.iload_n 1, 1) := by decide +kernel
theorem d_X6_lay_2 : decode m_X6_lay.2.1 2 = .ok (.invokevirtual 148, 3) := by decide +kernel
theorem d_X6_lay_5 : decode m_X6_lay.2.1 5 = .ok (.ifCond .ne 5, 3) := by decide +kernel
theorem d_X6_lay_8 : decode m_X6_lay.2.1 8 = .ok (.iconst (-1), 1) := by decide +kernel
theorem d_X6_lay_9 : decode m_X6_lay.2.1 9 = .ok (.ireturn, 1) := by decide +kernel
theorem d_X6_lay_10 : decode m_X6_lay.2.1 10 = .ok (.aload_n 0, 1) := by decide +kernel
theorem d_X6_lay_11 : decode m_X6_lay.2.1 11 = .ok (.getfield 107, 3) := by decide +kernel
theorem d_X6_lay_14 : decode m_X6_lay.2.1 14 = .ok (.iload_n 1, 1) := by decide +kernel
theorem d_X6_lay_15 : decode m_X6_lay.2.1 15 = .ok (.invokestatic 136, 3) := by decide +kernel
theorem d_X6_lay_18 : decode m_X6_lay.2.1 18 = .ok (.ifCond .eq 6, 3) := by decide +kernel
theorem d_X6_lay_21 : decode m_X6_lay.2.1 21 = .ok (.bipush (-3), 2) := by decide +kernel
theorem d_X6_lay_23 : decode m_X6_lay.2.1 23 = .ok (.ireturn, 1) := by decide +kernel
theorem d_X6_lay_24 : decode m_X6_lay.2.1 24 = .ok (.aload_n 0, 1) := by decide +kernel
theorem d_X6_lay_25 : decode m_X6_lay.2.1 25 = .ok (.dup, 1) := by decide +kernel
theorem d_X6_lay_26 : decode m_X6_lay.2.1 26 = .ok (.getfield 107, 3) := by decide +kernel
theorem d_X6_lay_29 : decode m_X6_lay.2.1 29 = .ok (.iconst 1, 1) := by decide +kernel
theorem d_X6_lay_30 : decode m_X6_lay.2.1 30 = .ok (.iload_n 1, 1) := by decide +kernel
theorem d_X6_lay_31 : decode m_X6_lay.2.1 31 = .ok (.ishl, 1) := by decide +kernel
theorem d_X6_lay_32 : decode m_X6_lay.2.1 32 = .ok (.ior, 1) := by decide +kernel
theorem d_X6_lay_33 : decode m_X6_lay.2.1 33 = .ok (.putfield 107, 3) := by decide +kernel
theorem d_X6_lay_36 : decode m_X6_lay.2.1 36 = .ok (.aload_n 0, 1) := by decide +kernel
theorem d_X6_lay_37 : decode m_X6_lay.2.1 37 = .ok (.invokevirtual 151, 3) := by decide +kernel
theorem d_X6_lay_40 : decode m_X6_lay.2.1 40 = .ok (.ireturn, 1) := by decide +kernel
theorem d_X6_night_0 : decode m_X6_night.2.1 0 = .ok (.iload_n 1, 1) := by decide +kernel
theorem d_X6_night_1 : decode m_X6_night.2.1 1 = .ok (.iconst 1, 1) := by decide +kernel
theorem d_X6_night_2 : decode m_X6_night.2.1 2 = .ok (.bipush 60, 2) := by decide +kernel
theorem d_X6_night_4 : decode m_X6_night.2.1 4 = .ok (.invokestatic 58, 3) := by decide +kernel
theorem d_X6_night_7 : decode m_X6_night.2.1 7 = .ok (.ifCond .ne 6, 3) := by decide +kernel
theorem d_X6_night_10 : decode m_X6_night.2.1 10 = .ok (.bipush (-2), 2) := by decide +kernel
theorem d_X6_night_12 : decode m_X6_night.2.1 12 = .ok (.ireturn, 1) := by decide +kernel
theorem d_X6_night_13 : decode m_X6_night.2.1 13 = .ok (.aload_n 0, 1) := by decide +kernel
theorem d_X6_night_14 : decode m_X6_night.2.1 14 = .ok (.getfield 62, 3) := by decide +kernel
theorem d_X6_night_17 : decode m_X6_night.2.1 17 = .ok (.ifCond .ne 6, 3) := by decide +kernel
theorem d_X6_night_20 : decode m_X6_night.2.1 20 = .ok (.bipush (-3), 2) := by decide +kernel
theorem d_X6_night_22 : decode m_X6_night.2.1 22 = .ok (.ireturn, 1) := by decide +kernel
theorem d_X6_night_23 : decode m_X6_night.2.1 23 = .ok (.iconst 0, 1) := by decide +kernel
theorem d_X6_night_24 : decode m_X6_night.2.1 24 = .ok (.istore_n 2, 1) := by decide +kernel
theorem d_X6_night_25 : decode m_X6_night.2.1 25 = .ok (.iload_n 2, 1) := by decide +kernel
theorem d_X6_night_26 : decode m_X6_night.2.1 26 = .ok (.iload_n 1, 1) := by decide +kernel
theorem d_X6_night_27 : decode m_X6_night.2.1 27 = .ok (.if_icmp .ge 13, 3) := by decide +kernel
theorem d_X6_night_30 : decode m_X6_night.2.1 30 = .ok (.aload_n 0, 1) := by decide +kernel
theorem d_X6_night_31 : decode m_X6_night.2.1 31 = .ok (.invokevirtual 164, 3) := by decide +kernel
theorem d_X6_night_34 : decode m_X6_night.2.1 34 = .ok (.iinc 2 1, 3) := by decide +kernel
theorem d_X6_night_37 : decode m_X6_night.2.1 37 = .ok (.goto (-12), 3) := by decide +kernel
theorem d_X6_night_40 : decode m_X6_night.2.1 40 = .ok (.aload_n 0, 1) := by decide +kernel
theorem d_X6_night_41 : decode m_X6_night.2.1 41 = .ok (.invokevirtual 151, 3) := by decide +kernel
theorem d_X6_night_44 : decode m_X6_night.2.1 44 = .ok (.ireturn, 1) := by decide +kernel
theorem d_X6_keep_0 : decode m_X6_keep.2.1 0 = .ok (.iconst 0, 1) := by decide +kernel
theorem d_X6_keep_1 : decode m_X6_keep.2.1 1 = .ok (.istore_n 2, 1) := by decide +kernel
theorem d_X6_keep_2 : decode m_X6_keep.2.1 2 = .ok (.iload_n 2, 1) := by decide +kernel
theorem d_X6_keep_3 : decode m_X6_keep.2.1 3 = .ok (.iconst 5, 1) := by decide +kernel
theorem d_X6_keep_4 : decode m_X6_keep.2.1 4 = .ok (.if_icmp .ge 45, 3) := by decide +kernel
theorem d_X6_keep_7 : decode m_X6_keep.2.1 7 = .ok (.aload_n 0, 1) := by decide +kernel
theorem d_X6_keep_8 : decode m_X6_keep.2.1 8 = .ok (.getfield 40, 3) := by decide +kernel
theorem d_X6_keep_11 : decode m_X6_keep.2.1 11 = .ok (.bipush 15, 2) := by decide +kernel
theorem d_X6_keep_13 : decode m_X6_keep.2.1 13 = .ok (.iload_n 1, 1) := by decide +kernel
theorem d_X6_keep_14 : decode m_X6_keep.2.1 14 = .ok (.imul, 1) := by decide +kernel
theorem d_X6_keep_15 : decode m_X6_keep.2.1 15 = .ok (.iload_n 2, 1) := by decide +kernel
theorem d_X6_keep_16 : decode m_X6_keep.2.1 16 = .ok (.iadd, 1) := by decide +kernel
theorem d_X6_keep_17 : decode m_X6_keep.2.1 17 = .ok (.aload_n 0, 1) := by decide +kernel
theorem d_X6_keep_18 : decode m_X6_keep.2.1 18 = .ok (.getfield 25, 3) := by decide +kernel
theorem d_X6_keep_21 : decode m_X6_keep.2.1 21 = .ok (.iload_n 2, 1) := by decide +kernel
theorem d_X6_keep_22 : decode m_X6_keep.2.1 22 = .ok (.iaload, 1) := by decide +kernel
theorem d_X6_keep_23 : decode m_X6_keep.2.1 23 = .ok (.iastore, 1) := by decide +kernel
theorem d_X6_keep_24 : decode m_X6_keep.2.1 24 = .ok (.aload_n 0, 1) := by decide +kernel
theorem d_X6_keep_25 : decode m_X6_keep.2.1 25 = .ok (.getfield 40, 3) := by decide +kernel
theorem d_X6_keep_28 : decode m_X6_keep.2.1 28 = .ok (.bipush 15, 2) := by decide +kernel
theorem d_X6_keep_30 : decode m_X6_keep.2.1 30 = .ok (.iload_n 1, 1) := by decide +kernel
theorem d_X6_keep_31 : decode m_X6_keep.2.1 31 = .ok (.imul, 1) := by decide +kernel
theorem d_X6_keep_32 : decode m_X6_keep.2.1 32 = .ok (.iconst 5, 1) := by decide +kernel
theorem d_X6_keep_33 : decode m_X6_keep.2.1 33 = .ok (.iadd, 1) := by decide +kernel
theorem d_X6_keep_34 : decode m_X6_keep.2.1 34 = .ok (.iload_n 2, 1) := by decide +kernel
theorem d_X6_keep_35 : decode m_X6_keep.2.1 35 = .ok (.iadd, 1) := by decide +kernel
theorem d_X6_keep_36 : decode m_X6_keep.2.1 36 = .ok (.aload_n 0, 1) := by decide +kernel
theorem d_X6_keep_37 : decode m_X6_keep.2.1 37 = .ok (.getfield 28, 3) := by decide +kernel
theorem d_X6_keep_40 : decode m_X6_keep.2.1 40 = .ok (.iload_n 2, 1) := by decide +kernel
theorem d_X6_keep_41 : decode m_X6_keep.2.1 41 = .ok (.iaload, 1) := by decide +kernel
theorem d_X6_keep_42 : decode m_X6_keep.2.1 42 = .ok (.iastore, 1) := by decide +kernel
theorem d_X6_keep_43 : decode m_X6_keep.2.1 43 = .ok (.iinc 2 1, 3) := by decide +kernel
theorem d_X6_keep_46 : decode m_X6_keep.2.1 46 = .ok (.goto (-44), 3) := by decide +kernel
theorem d_X6_keep_49 : decode m_X6_keep.2.1 49 = .ok (.aload_n 0, 1) := by decide +kernel
theorem d_X6_keep_50 : decode m_X6_keep.2.1 50 = .ok (.getfield 40, 3) := by decide +kernel
theorem d_X6_keep_53 : decode m_X6_keep.2.1 53 = .ok (.bipush 15, 2) := by decide +kernel
theorem d_X6_keep_55 : decode m_X6_keep.2.1 55 = .ok (.iload_n 1, 1) := by decide +kernel
theorem d_X6_keep_56 : decode m_X6_keep.2.1 56 = .ok (.imul, 1) := by decide +kernel
theorem d_X6_keep_57 : decode m_X6_keep.2.1 57 = .ok (.bipush 10, 2) := by decide +kernel
theorem d_X6_keep_59 : decode m_X6_keep.2.1 59 = .ok (.iadd, 1) := by decide +kernel
theorem d_X6_keep_60 : decode m_X6_keep.2.1 60 = .ok (.aload_n 0, 1) := by decide +kernel
theorem d_X6_keep_61 : decode m_X6_keep.2.1 61 = .ok (.getfield 104, 3) := by decide +kernel
theorem d_X6_keep_64 : decode m_X6_keep.2.1 64 = .ok (.iastore, 1) := by decide +kernel
theorem d_X6_keep_65 : decode m_X6_keep.2.1 65 = .ok (.aload_n 0, 1) := by decide +kernel
theorem d_X6_keep_66 : decode m_X6_keep.2.1 66 = .ok (.getfield 40, 3) := by decide +kernel
theorem d_X6_keep_69 : decode m_X6_keep.2.1 69 = .ok (.bipush 15, 2) := by decide +kernel
theorem d_X6_keep_71 : decode m_X6_keep.2.1 71 = .ok (.iload_n 1, 1) := by decide +kernel
theorem d_X6_keep_72 : decode m_X6_keep.2.1 72 = .ok (.imul, 1) := by decide +kernel
theorem d_X6_keep_73 : decode m_X6_keep.2.1 73 = .ok (.bipush 11, 2) := by decide +kernel
theorem d_X6_keep_75 : decode m_X6_keep.2.1 75 = .ok (.iadd, 1) := by decide +kernel
theorem d_X6_keep_76 : decode m_X6_keep.2.1 76 = .ok (.aload_n 0, 1) := by decide +kernel
theorem d_X6_keep_77 : decode m_X6_keep.2.1 77 = .ok (.getfield 107, 3) := by decide +kernel
theorem d_X6_keep_80 : decode m_X6_keep.2.1 80 = .ok (.iastore, 1) := by decide +kernel
theorem d_X6_keep_81 : decode m_X6_keep.2.1 81 = .ok (.aload_n 0, 1) := by decide +kernel
theorem d_X6_keep_82 : decode m_X6_keep.2.1 82 = .ok (.getfield 40, 3) := by decide +kernel
theorem d_X6_keep_85 : decode m_X6_keep.2.1 85 = .ok (.bipush 15, 2) := by decide +kernel
theorem d_X6_keep_87 : decode m_X6_keep.2.1 87 = .ok (.iload_n 1, 1) := by decide +kernel
theorem d_X6_keep_88 : decode m_X6_keep.2.1 88 = .ok (.imul, 1) := by decide +kernel
theorem d_X6_keep_89 : decode m_X6_keep.2.1 89 = .ok (.bipush 12, 2) := by decide +kernel
theorem d_X6_keep_91 : decode m_X6_keep.2.1 91 = .ok (.iadd, 1) := by decide +kernel
theorem d_X6_keep_92 : decode m_X6_keep.2.1 92 = .ok (.aload_n 0, 1) := by decide +kernel
theorem d_X6_keep_93 : decode m_X6_keep.2.1 93 = .ok (.getfield 110, 3) := by decide +kernel
theorem d_X6_keep_96 : decode m_X6_keep.2.1 96 = .ok (.iastore, 1) := by decide +kernel
theorem d_X6_keep_97 : decode m_X6_keep.2.1 97 = .ok (.aload_n 0, 1) := by decide +kernel
theorem d_X6_keep_98 : decode m_X6_keep.2.1 98 = .ok (.getfield 40, 3) := by decide +kernel
theorem d_X6_keep_101 : decode m_X6_keep.2.1 101 = .ok (.bipush 15, 2) := by decide +kernel
theorem d_X6_keep_103 : decode m_X6_keep.2.1 103 = .ok (.iload_n 1, 1) := by decide +kernel
theorem d_X6_keep_104 : decode m_X6_keep.2.1 104 = .ok (.imul, 1) := by decide +kernel
theorem d_X6_keep_105 : decode m_X6_keep.2.1 105 = .ok (.bipush 13, 2) := by decide +kernel
theorem d_X6_keep_107 : decode m_X6_keep.2.1 107 = .ok (.iadd, 1) := by decide +kernel
theorem d_X6_keep_108 : decode m_X6_keep.2.1 108 = .ok (.aload_n 0, 1) := by decide +kernel
theorem d_X6_keep_109 : decode m_X6_keep.2.1 109 = .ok (.getfield 113, 3) := by decide +kernel
theorem d_X6_keep_112 : decode m_X6_keep.2.1 112 = .ok (.iastore, 1) := by decide +kernel
theorem d_X6_keep_113 : decode m_X6_keep.2.1 113 = .ok (.aload_n 0, 1) := by decide +kernel
theorem d_X6_keep_114 : decode m_X6_keep.2.1 114 = .ok (.getfield 40, 3) := by decide +kernel
theorem d_X6_keep_117 : decode m_X6_keep.2.1 117 = .ok (.bipush 15, 2) := by decide +kernel
theorem d_X6_keep_119 : decode m_X6_keep.2.1 119 = .ok (.iload_n 1, 1) := by decide +kernel
theorem d_X6_keep_120 : decode m_X6_keep.2.1 120 = .ok (.imul, 1) := by decide +kernel
theorem d_X6_keep_121 : decode m_X6_keep.2.1 121 = .ok (.bipush 14, 2) := by decide +kernel
theorem d_X6_keep_123 : decode m_X6_keep.2.1 123 = .ok (.iadd, 1) := by decide +kernel
theorem d_X6_keep_124 : decode m_X6_keep.2.1 124 = .ok (.aload_n 0, 1) := by decide +kernel
theorem d_X6_keep_125 : decode m_X6_keep.2.1 125 = .ok (.getfield 116, 3) := by decide +kernel
theorem d_X6_keep_128 : decode m_X6_keep.2.1 128 = .ok (.iastore, 1) := by decide +kernel
theorem d_X6_keep_129 : decode m_X6_keep.2.1 129 = .ok (.return_, 1) := by decide +kernel
theorem d_X6_putBack_0 : decode m_X6_putBack.2.1 0 = .ok (.iconst 0, 1) := by decide +kernel
theorem d_X6_putBack_1 : decode m_X6_putBack.2.1 1 = .ok (.istore_n 2, 1) := by decide +kernel
theorem d_X6_putBack_2 : decode m_X6_putBack.2.1 2 = .ok (.iload_n 2, 1) := by decide +kernel
theorem d_X6_putBack_3 : decode m_X6_putBack.2.1 3 = .ok (.iconst 5, 1) := by decide +kernel
theorem d_X6_putBack_4 : decode m_X6_putBack.2.1 4 = .ok (.if_icmp .ge 45, 3) := by decide +kernel
theorem d_X6_putBack_7 : decode m_X6_putBack.2.1 7 = .ok (.aload_n 0, 1) := by decide +kernel
theorem d_X6_putBack_8 : decode m_X6_putBack.2.1 8 = .ok (.getfield 25, 3) := by decide +kernel
theorem d_X6_putBack_11 : decode m_X6_putBack.2.1 11 = .ok (.iload_n 2, 1) := by decide +kernel
theorem d_X6_putBack_12 : decode m_X6_putBack.2.1 12 = .ok (.aload_n 0, 1) := by decide +kernel
theorem d_X6_putBack_13 : decode m_X6_putBack.2.1 13 = .ok (.getfield 40, 3) := by decide +kernel
theorem d_X6_putBack_16 : decode m_X6_putBack.2.1 16 = .ok (.bipush 15, 2) := by decide +kernel
theorem d_X6_putBack_18 : decode m_X6_putBack.2.1 18 = .ok (.iload_n 1, 1) := by decide +kernel
theorem d_X6_putBack_19 : decode m_X6_putBack.2.1 19 = .ok (.imul, 1) := by decide +kernel
theorem d_X6_putBack_20 : decode m_X6_putBack.2.1 20 = .ok (.iload_n 2, 1) := by decide +kernel
theorem d_X6_putBack_21 : decode m_X6_putBack.2.1 21 = .ok (.iadd, 1) := by decide +kernel
theorem d_X6_putBack_22 : decode m_X6_putBack.2.1 22 = .ok (.iaload, 1) := by decide +kernel
theorem d_X6_putBack_23 : decode m_X6_putBack.2.1 23 = .ok (.iastore, 1) := by decide +kernel
theorem d_X6_putBack_24 : decode m_X6_putBack.2.1 24 = .ok (.aload_n 0, 1) := by decide +kernel
theorem d_X6_putBack_25 : decode m_X6_putBack.2.1 25 = .ok (.getfield 28, 3) := by decide +kernel
theorem d_X6_putBack_28 : decode m_X6_putBack.2.1 28 = .ok (.iload_n 2, 1) := by decide +kernel
theorem d_X6_putBack_29 : decode m_X6_putBack.2.1 29 = .ok (.aload_n 0, 1) := by decide +kernel
theorem d_X6_putBack_30 : decode m_X6_putBack.2.1 30 = .ok (.getfield 40, 3) := by decide +kernel
theorem d_X6_putBack_33 : decode m_X6_putBack.2.1 33 = .ok (.bipush 15, 2) := by decide +kernel
theorem d_X6_putBack_35 : decode m_X6_putBack.2.1 35 = .ok (.iload_n 1, 1) := by decide +kernel
theorem d_X6_putBack_36 : decode m_X6_putBack.2.1 36 = .ok (.imul, 1) := by decide +kernel
theorem d_X6_putBack_37 : decode m_X6_putBack.2.1 37 = .ok (.iconst 5, 1) := by decide +kernel
theorem d_X6_putBack_38 : decode m_X6_putBack.2.1 38 = .ok (.iadd, 1) := by decide +kernel
theorem d_X6_putBack_39 : decode m_X6_putBack.2.1 39 = .ok (.iload_n 2, 1) := by decide +kernel
theorem d_X6_putBack_40 : decode m_X6_putBack.2.1 40 = .ok (.iadd, 1) := by decide +kernel
theorem d_X6_putBack_41 : decode m_X6_putBack.2.1 41 = .ok (.iaload, 1) := by decide +kernel
theorem d_X6_putBack_42 : decode m_X6_putBack.2.1 42 = .ok (.iastore, 1) := by decide +kernel
theorem d_X6_putBack_43 : decode m_X6_putBack.2.1 43 = .ok (.iinc 2 1, 3) := by decide +kernel
theorem d_X6_putBack_46 : decode m_X6_putBack.2.1 46 = .ok (.goto (-44), 3) := by decide +kernel
theorem d_X6_putBack_49 : decode m_X6_putBack.2.1 49 = .ok (.aload_n 0, 1) := by decide +kernel
theorem d_X6_putBack_50 : decode m_X6_putBack.2.1 50 = .ok (.aload_n 0, 1) := by decide +kernel
theorem d_X6_putBack_51 : decode m_X6_putBack.2.1 51 = .ok (.getfield 40, 3) := by decide +kernel
theorem d_X6_putBack_54 : decode m_X6_putBack.2.1 54 = .ok (.bipush 15, 2) := by decide +kernel
theorem d_X6_putBack_56 : decode m_X6_putBack.2.1 56 = .ok (.iload_n 1, 1) := by decide +kernel
theorem d_X6_putBack_57 : decode m_X6_putBack.2.1 57 = .ok (.imul, 1) := by decide +kernel
theorem d_X6_putBack_58 : decode m_X6_putBack.2.1 58 = .ok (.bipush 10, 2) := by decide +kernel
theorem d_X6_putBack_60 : decode m_X6_putBack.2.1 60 = .ok (.iadd, 1) := by decide +kernel
theorem d_X6_putBack_61 : decode m_X6_putBack.2.1 61 = .ok (.iaload, 1) := by decide +kernel
theorem d_X6_putBack_62 : decode m_X6_putBack.2.1 62 = .ok (.putfield 104, 3) := by decide +kernel
theorem d_X6_putBack_65 : decode m_X6_putBack.2.1 65 = .ok (.aload_n 0, 1) := by decide +kernel
theorem d_X6_putBack_66 : decode m_X6_putBack.2.1 66 = .ok (.aload_n 0, 1) := by decide +kernel
theorem d_X6_putBack_67 : decode m_X6_putBack.2.1 67 = .ok (.getfield 40, 3) := by decide +kernel
theorem d_X6_putBack_70 : decode m_X6_putBack.2.1 70 = .ok (.bipush 15, 2) := by decide +kernel
theorem d_X6_putBack_72 : decode m_X6_putBack.2.1 72 = .ok (.iload_n 1, 1) := by decide +kernel
theorem d_X6_putBack_73 : decode m_X6_putBack.2.1 73 = .ok (.imul, 1) := by decide +kernel
theorem d_X6_putBack_74 : decode m_X6_putBack.2.1 74 = .ok (.bipush 11, 2) := by decide +kernel
theorem d_X6_putBack_76 : decode m_X6_putBack.2.1 76 = .ok (.iadd, 1) := by decide +kernel
theorem d_X6_putBack_77 : decode m_X6_putBack.2.1 77 = .ok (.iaload, 1) := by decide +kernel
theorem d_X6_putBack_78 : decode m_X6_putBack.2.1 78 = .ok (.putfield 107, 3) := by decide +kernel
theorem d_X6_putBack_81 : decode m_X6_putBack.2.1 81 = .ok (.aload_n 0, 1) := by decide +kernel
theorem d_X6_putBack_82 : decode m_X6_putBack.2.1 82 = .ok (.aload_n 0, 1) := by decide +kernel
theorem d_X6_putBack_83 : decode m_X6_putBack.2.1 83 = .ok (.getfield 40, 3) := by decide +kernel
theorem d_X6_putBack_86 : decode m_X6_putBack.2.1 86 = .ok (.bipush 15, 2) := by decide +kernel
theorem d_X6_putBack_88 : decode m_X6_putBack.2.1 88 = .ok (.iload_n 1, 1) := by decide +kernel
theorem d_X6_putBack_89 : decode m_X6_putBack.2.1 89 = .ok (.imul, 1) := by decide +kernel
theorem d_X6_putBack_90 : decode m_X6_putBack.2.1 90 = .ok (.bipush 12, 2) := by decide +kernel
theorem d_X6_putBack_92 : decode m_X6_putBack.2.1 92 = .ok (.iadd, 1) := by decide +kernel
theorem d_X6_putBack_93 : decode m_X6_putBack.2.1 93 = .ok (.iaload, 1) := by decide +kernel
theorem d_X6_putBack_94 : decode m_X6_putBack.2.1 94 = .ok (.putfield 110, 3) := by decide +kernel
theorem d_X6_putBack_97 : decode m_X6_putBack.2.1 97 = .ok (.aload_n 0, 1) := by decide +kernel
theorem d_X6_putBack_98 : decode m_X6_putBack.2.1 98 = .ok (.aload_n 0, 1) := by decide +kernel
theorem d_X6_putBack_99 : decode m_X6_putBack.2.1 99 = .ok (.getfield 40, 3) := by decide +kernel
theorem d_X6_putBack_102 : decode m_X6_putBack.2.1 102 = .ok (.bipush 15, 2) := by decide +kernel
theorem d_X6_putBack_104 : decode m_X6_putBack.2.1 104 = .ok (.iload_n 1, 1) := by decide +kernel
theorem d_X6_putBack_105 : decode m_X6_putBack.2.1 105 = .ok (.imul, 1) := by decide +kernel
theorem d_X6_putBack_106 : decode m_X6_putBack.2.1 106 = .ok (.bipush 13, 2) := by decide +kernel
theorem d_X6_putBack_108 : decode m_X6_putBack.2.1 108 = .ok (.iadd, 1) := by decide +kernel
theorem d_X6_putBack_109 : decode m_X6_putBack.2.1 109 = .ok (.iaload, 1) := by decide +kernel
theorem d_X6_putBack_110 : decode m_X6_putBack.2.1 110 = .ok (.putfield 113, 3) := by decide +kernel
theorem d_X6_putBack_113 : decode m_X6_putBack.2.1 113 = .ok (.aload_n 0, 1) := by decide +kernel
theorem d_X6_putBack_114 : decode m_X6_putBack.2.1 114 = .ok (.aload_n 0, 1) := by decide +kernel
theorem d_X6_putBack_115 : decode m_X6_putBack.2.1 115 = .ok (.getfield 40, 3) := by decide +kernel
theorem d_X6_putBack_118 : decode m_X6_putBack.2.1 118 = .ok (.bipush 15, 2) := by decide +kernel
theorem d_X6_putBack_120 : decode m_X6_putBack.2.1 120 = .ok (.iload_n 1, 1) := by decide +kernel
theorem d_X6_putBack_121 : decode m_X6_putBack.2.1 121 = .ok (.imul, 1) := by decide +kernel
theorem d_X6_putBack_122 : decode m_X6_putBack.2.1 122 = .ok (.bipush 14, 2) := by decide +kernel
theorem d_X6_putBack_124 : decode m_X6_putBack.2.1 124 = .ok (.iadd, 1) := by decide +kernel
theorem d_X6_putBack_125 : decode m_X6_putBack.2.1 125 = .ok (.iaload, 1) := by decide +kernel
theorem d_X6_putBack_126 : decode m_X6_putBack.2.1 126 = .ok (.putfield 116, 3) := by decide +kernel
theorem d_X6_putBack_129 : decode m_X6_putBack.2.1 129 = .ok (.return_, 1) := by decide +kernel
end
section
theorem d_X6_does_0 : decode m_X6_does.2.1 0 = .ok (.iload_n 1, 1) := by decide +kernel
theorem d_X6_does_1 : decode m_X6_does.2.1 1 = .ok (.bipush 14, 2) := by decide +kernel
theorem d_X6_does_3 : decode m_X6_does.2.1 3 = .ok (.if_icmp .ne 9, 3) := by decide +kernel
theorem d_X6_does_6 : decode m_X6_does.2.1 6 = .ok (.aload_n 0, 1) := by decide +kernel
theorem d_X6_does_7 : decode m_X6_does.2.1 7 = .ok (.invokevirtual 164, 3) := by decide +kernel
theorem d_X6_does_10 : decode m_X6_does.2.1 10 = .ok (.iconst 1, 1) := by decide +kernel
theorem d_X6_does_11 : decode m_X6_does.2.1 11 = .ok (.ireturn, 1) := by decide +kernel
theorem d_X6_does_12 : decode m_X6_does.2.1 12 = .ok (.iload_n 1, 1) := by decide +kernel
theorem d_X6_does_13 : decode m_X6_does.2.1 13 = .ok (.bipush 10, 2) := by decide +kernel
theorem d_X6_does_15 : decode m_X6_does.2.1 15 = .ok (.if_icmp .lt 43, 3) := by decide +kernel
theorem d_X6_does_18 : decode m_X6_does.2.1 18 = .ok (.iload_n 1, 1) := by decide +kernel
theorem d_X6_does_19 : decode m_X6_does.2.1 19 = .ok (.bipush 10, 2) := by decide +kernel
theorem d_X6_does_21 : decode m_X6_does.2.1 21 = .ok (.isub, 1) := by decide +kernel
theorem d_X6_does_22 : decode m_X6_does.2.1 22 = .ok (.istore_n 2, 1) := by decide +kernel
theorem d_X6_does_23 : decode m_X6_does.2.1 23 = .ok (.aload_n 0, 1) := by decide +kernel
theorem d_X6_does_24 : decode m_X6_does.2.1 24 = .ok (.iload_n 2, 1) := by decide +kernel
theorem d_X6_does_25 : decode m_X6_does.2.1 25 = .ok (.invokevirtual 148, 3) := by decide +kernel
theorem d_X6_does_28 : decode m_X6_does.2.1 28 = .ok (.ifCond .eq 14, 3) := by decide +kernel
theorem d_X6_does_31 : decode m_X6_does.2.1 31 = .ok (.aload_n 0, 1) := by decide +kernel
theorem d_X6_does_32 : decode m_X6_does.2.1 32 = .ok (.getfield 107, 3) := by decide +kernel
theorem d_X6_does_35 : decode m_X6_does.2.1 35 = .ok (.iload_n 2, 1) := by decide +kernel
theorem d_X6_does_36 : decode m_X6_does.2.1 36 = .ok (.invokestatic 136, 3) := by decide +kernel
theorem d_X6_does_39 : decode m_X6_does.2.1 39 = .ok (.ifCond .eq 5, 3) := by decide +kernel
theorem d_X6_does_42 : decode m_X6_does.2.1 42 = .ok (.iconst 0, 1) := by decide +kernel
theorem d_X6_does_43 : decode m_X6_does.2.1 43 = .ok (.ireturn, 1) := by decide +kernel
theorem d_X6_does_44 : decode m_X6_does.2.1 44 = .ok (.aload_n 0, 1) := by decide +kernel
theorem d_X6_does_45 : decode m_X6_does.2.1 45 = .ok (.dup, 1) := by decide +kernel
theorem d_X6_does_46 : decode m_X6_does.2.1 46 = .ok (.getfield 107, 3) := by decide +kernel
theorem d_X6_does_49 : decode m_X6_does.2.1 49 = .ok (.iconst 1, 1) := by decide +kernel
theorem d_X6_does_50 : decode m_X6_does.2.1 50 = .ok (.iload_n 2, 1) := by decide +kernel
theorem d_X6_does_51 : decode m_X6_does.2.1 51 = .ok (.ishl, 1) := by decide +kernel
theorem d_X6_does_52 : decode m_X6_does.2.1 52 = .ok (.ior, 1) := by decide +kernel
theorem d_X6_does_53 : decode m_X6_does.2.1 53 = .ok (.putfield 107, 3) := by decide +kernel
theorem d_X6_does_56 : decode m_X6_does.2.1 56 = .ok (.iconst 1, 1) := by decide +kernel
theorem d_X6_does_57 : decode m_X6_does.2.1 57 = .ok (.ireturn, 1) := by decide +kernel
theorem d_X6_does_58 : decode m_X6_does.2.1 58 = .ok (.iload_n 1, 1) := by decide +kernel
theorem d_X6_does_59 : decode m_X6_does.2.1 59 = .ok (.iconst 5, 1) := by decide +kernel
theorem d_X6_does_60 : decode m_X6_does.2.1 60 = .ok (.if_icmp .ge 7, 3) := by decide +kernel
theorem d_X6_does_63 : decode m_X6_does.2.1 63 = .ok (.iload_n 1, 1) := by decide +kernel
theorem d_X6_does_64 : decode m_X6_does.2.1 64 = .ok (.goto 6, 3) := by decide +kernel
theorem d_X6_does_67 : decode m_X6_does.2.1 67 = .ok (.iload_n 1, 1) := by decide +kernel
theorem d_X6_does_68 : decode m_X6_does.2.1 68 = .ok (.iconst 5, 1) := by decide +kernel
theorem d_X6_does_69 : decode m_X6_does.2.1 69 = .ok (.isub, 1) := by decide +kernel
theorem d_X6_does_70 : decode m_X6_does.2.1 70 = .ok (.istore_n 2, 1) := by decide +kernel
theorem d_X6_does_71 : decode m_X6_does.2.1 71 = .ok (.aload_n 0, 1) := by decide +kernel
theorem d_X6_does_72 : decode m_X6_does.2.1 72 = .ok (.iload_n 2, 1) := by decide +kernel
theorem d_X6_does_73 : decode m_X6_does.2.1 73 = .ok (.invokevirtual 145, 3) := by decide +kernel
theorem d_X6_does_76 : decode m_X6_does.2.1 76 = .ok (.ifCond .ne 5, 3) := by decide +kernel
theorem d_X6_does_79 : decode m_X6_does.2.1 79 = .ok (.iconst 0, 1) := by decide +kernel
theorem d_X6_does_80 : decode m_X6_does.2.1 80 = .ok (.ireturn, 1) := by decide +kernel
theorem d_X6_does_81 : decode m_X6_does.2.1 81 = .ok (.iload_n 1, 1) := by decide +kernel
theorem d_X6_does_82 : decode m_X6_does.2.1 82 = .ok (.iconst 5, 1) := by decide +kernel
theorem d_X6_does_83 : decode m_X6_does.2.1 83 = .ok (.if_icmp .ge 12, 3) := by decide +kernel
theorem d_X6_does_86 : decode m_X6_does.2.1 86 = .ok (.aload_n 0, 1) := by decide +kernel
theorem d_X6_does_87 : decode m_X6_does.2.1 87 = .ok (.iload_n 2, 1) := by decide +kernel
theorem d_X6_does_88 : decode m_X6_does.2.1 88 = .ok (.invokevirtual 155, 3) := by decide +kernel
theorem d_X6_does_91 : decode m_X6_does.2.1 91 = .ok (.pop, 1) := by decide +kernel
theorem d_X6_does_92 : decode m_X6_does.2.1 92 = .ok (.goto 11, 3) := by decide +kernel
theorem d_X6_does_95 : decode m_X6_does.2.1 95 = .ok (.aload_n 0, 1) := by decide +kernel
theorem d_X6_does_96 : decode m_X6_does.2.1 96 = .ok (.getfield 25, 3) := by decide +kernel
theorem d_X6_does_99 : decode m_X6_does.2.1 99 = .ok (.iload_n 2, 1) := by decide +kernel
theorem d_X6_does_100 : decode m_X6_does.2.1 100 = .ok (.bipush 9, 2) := by decide +kernel
theorem d_X6_does_102 : decode m_X6_does.2.1 102 = .ok (.iastore, 1) := by decide +kernel
theorem d_X6_does_103 : decode m_X6_does.2.1 103 = .ok (.iconst 1, 1) := by decide +kernel
theorem d_X6_does_104 : decode m_X6_does.2.1 104 = .ok (.ireturn, 1) := by decide +kernel
theorem d_X6_goDay_0 : decode m_X6_goDay.2.1 0 = .ok (.iconst 0, 1) := by decide +kernel
theorem d_X6_goDay_1 : decode m_X6_goDay.2.1 1 = .ok (.istore_n 3, 1) := by decide +kernel
theorem d_X6_goDay_2 : decode m_X6_goDay.2.1 2 = .ok (.iload_n 3, 1) := by decide +kernel
theorem d_X6_goDay_3 : decode m_X6_goDay.2.1 3 = .ok (.iload_n 2, 1) := by decide +kernel
theorem d_X6_goDay_4 : decode m_X6_goDay.2.1 4 = .ok (.if_icmp .ge 26, 3) := by decide +kernel
theorem d_X6_goDay_7 : decode m_X6_goDay.2.1 7 = .ok (.aload_n 0, 1) := by decide +kernel
theorem d_X6_goDay_8 : decode m_X6_goDay.2.1 8 = .ok (.aload_n 0, 1) := by decide +kernel
theorem d_X6_goDay_9 : decode m_X6_goDay.2.1 9 = .ok (.getfield 16, 3) := by decide +kernel
theorem d_X6_goDay_12 : decode m_X6_goDay.2.1 12 = .ok (.iload_n 1, 1) := by decide +kernel
theorem d_X6_goDay_13 : decode m_X6_goDay.2.1 13 = .ok (.iload_n 3, 1) := by decide +kernel
theorem d_X6_goDay_14 : decode m_X6_goDay.2.1 14 = .ok (.iadd, 1) := by decide +kernel
theorem d_X6_goDay_15 : decode m_X6_goDay.2.1 15 = .ok (.iaload, 1) := by decide +kernel
theorem d_X6_goDay_16 : decode m_X6_goDay.2.1 16 = .ok (.invokevirtual 167, 3) := by decide +kernel
theorem d_X6_goDay_19 : decode m_X6_goDay.2.1 19 = .ok (.ifCond .ne 5, 3) := by decide +kernel
theorem d_X6_goDay_22 : decode m_X6_goDay.2.1 22 = .ok (.iload_n 3, 1) := by decide +kernel
theorem d_X6_goDay_23 : decode m_X6_goDay.2.1 23 = .ok (.ireturn, 1) := by decide +kernel
theorem d_X6_goDay_24 : decode m_X6_goDay.2.1 24 = .ok (.iinc 3 1, 3) := by decide +kernel
theorem d_X6_goDay_27 : decode m_X6_goDay.2.1 27 = .ok (.goto (-25), 3) := by decide +kernel
theorem d_X6_goDay_30 : decode m_X6_goDay.2.1 30 = .ok (.bipush (-9), 2) := by decide +kernel
theorem d_X6_goDay_32 : decode m_X6_goDay.2.1 32 = .ok (.ireturn, 1) := by decide +kernel
theorem d_X6_day_0 : decode m_X6_day.2.1 0 = .ok (.aload_n 0, 1) := by decide +kernel
theorem d_X6_day_1 : decode m_X6_day.2.1 1 = .ok (.iconst 0, 1) := by decide +kernel
theorem d_X6_day_2 : decode m_X6_day.2.1 2 = .ok (.putfield 52, 3) := by decide +kernel
theorem d_X6_day_5 : decode m_X6_day.2.1 5 = .ok (.iload_n 1, 1) := by decide +kernel
theorem d_X6_day_6 : decode m_X6_day.2.1 6 = .ok (.invokestatic 71, 3) := by decide +kernel
theorem d_X6_day_9 : decode m_X6_day.2.1 9 = .ok (.ifCond .ne 5, 3) := by decide +kernel
theorem d_X6_day_12 : decode m_X6_day.2.1 12 = .ok (.iconst (-1), 1) := by decide +kernel
theorem d_X6_day_13 : decode m_X6_day.2.1 13 = .ok (.ireturn, 1) := by decide +kernel
theorem d_X6_day_14 : decode m_X6_day.2.1 14 = .ok (.iload_n 2, 1) := by decide +kernel
theorem d_X6_day_15 : decode m_X6_day.2.1 15 = .ok (.invokestatic 75, 3) := by decide +kernel
theorem d_X6_day_18 : decode m_X6_day.2.1 18 = .ok (.ifCond .eq 36, 3) := by decide +kernel
theorem d_X6_day_21 : decode m_X6_day.2.1 21 = .ok (.iload 4, 2) := by decide +kernel
theorem d_X6_day_23 : decode m_X6_day.2.1 23 = .ok (.iconst 0, 1) := by decide +kernel
theorem d_X6_day_24 : decode m_X6_day.2.1 24 = .ok (.bipush 20, 2) := by decide +kernel
theorem d_X6_day_26 : decode m_X6_day.2.1 26 = .ok (.invokestatic 58, 3) := by decide +kernel
theorem d_X6_day_29 : decode m_X6_day.2.1 29 = .ok (.ifCond .eq 25, 3) := by decide +kernel
theorem d_X6_day_32 : decode m_X6_day.2.1 32 = .ok (.iload 5, 2) := by decide +kernel
theorem d_X6_day_34 : decode m_X6_day.2.1 34 = .ok (.iconst 0, 1) := by decide +kernel
theorem d_X6_day_35 : decode m_X6_day.2.1 35 = .ok (.iconst 4, 1) := by decide +kernel
theorem d_X6_day_36 : decode m_X6_day.2.1 36 = .ok (.invokestatic 58, 3) := by decide +kernel
theorem d_X6_day_39 : decode m_X6_day.2.1 39 = .ok (.ifCond .ne 18, 3) := by decide +kernel
theorem d_X6_day_42 : decode m_X6_day.2.1 42 = .ok (.iload 5, 2) := by decide +kernel
theorem d_X6_day_44 : decode m_X6_day.2.1 44 = .ok (.bipush 10, 2) := by decide +kernel
theorem d_X6_day_46 : decode m_X6_day.2.1 46 = .ok (.bipush 14, 2) := by decide +kernel
theorem d_X6_day_48 : decode m_X6_day.2.1 48 = .ok (.invokestatic 58, 3) := by decide +kernel
theorem d_X6_day_51 : decode m_X6_day.2.1 51 = .ok (.ifCond .ne 6, 3) := by decide +kernel
theorem d_X6_day_54 : decode m_X6_day.2.1 54 = .ok (.bipush (-2), 2) := by decide +kernel
theorem d_X6_day_56 : decode m_X6_day.2.1 56 = .ok (.ireturn, 1) := by decide +kernel
theorem d_X6_day_57 : decode m_X6_day.2.1 57 = .ok (.aload_n 0, 1) := by decide +kernel
theorem d_X6_day_58 : decode m_X6_day.2.1 58 = .ok (.iload_n 1, 1) := by decide +kernel
theorem d_X6_day_59 : decode m_X6_day.2.1 59 = .ok (.iload_n 2, 1) := by decide +kernel
theorem d_X6_day_60 : decode m_X6_day.2.1 60 = .ok (.iload_n 3, 1) := by decide +kernel
theorem d_X6_day_61 : decode m_X6_day.2.1 61 = .ok (.iload 4, 2) := by decide +kernel
theorem d_X6_day_63 : decode m_X6_day.2.1 63 = .ok (.invokevirtual 78, 3) := by decide +kernel
theorem d_X6_day_66 : decode m_X6_day.2.1 66 = .ok (.istore 6, 2) := by decide +kernel
theorem d_X6_day_68 : decode m_X6_day.2.1 68 = .ok (.iload 6, 2) := by decide +kernel
theorem d_X6_day_70 : decode m_X6_day.2.1 70 = .ok (.ifCond .eq 10, 3) := by decide +kernel
theorem d_X6_day_73 : decode m_X6_day.2.1 73 = .ok (.aload_n 0, 1) := by decide +kernel
theorem d_X6_day_74 : decode m_X6_day.2.1 74 = .ok (.iload 6, 2) := by decide +kernel
theorem d_X6_day_76 : decode m_X6_day.2.1 76 = .ok (.invokevirtual 82, 3) := by decide +kernel
theorem d_X6_day_79 : decode m_X6_day.2.1 79 = .ok (.ireturn, 1) := by decide +kernel
theorem d_X6_day_80 : decode m_X6_day.2.1 80 = .ok (.aload_n 0, 1) := by decide +kernel
theorem d_X6_day_81 : decode m_X6_day.2.1 81 = .ok (.getfield 62, 3) := by decide +kernel
theorem d_X6_day_84 : decode m_X6_day.2.1 84 = .ok (.ifCond .ne 6, 3) := by decide +kernel
theorem d_X6_day_87 : decode m_X6_day.2.1 87 = .ok (.bipush (-3), 2) := by decide +kernel
theorem d_X6_day_89 : decode m_X6_day.2.1 89 = .ok (.ireturn, 1) := by decide +kernel
theorem d_X6_day_90 : decode m_X6_day.2.1 90 = .ok (.bipush 60, 2) := by decide +kernel
theorem d_X6_day_92 : decode m_X6_day.2.1 92 = .ok (.iload_n 1, 1) := by decide +kernel
theorem d_X6_day_93 : decode m_X6_day.2.1 93 = .ok (.imul, 1) := by decide +kernel
theorem d_X6_day_94 : decode m_X6_day.2.1 94 = .ok (.iload_n 3, 1) := by decide +kernel
theorem d_X6_day_95 : decode m_X6_day.2.1 95 = .ok (.iadd, 1) := by decide +kernel
theorem d_X6_day_96 : decode m_X6_day.2.1 96 = .ok (.istore 7, 2) := by decide +kernel
theorem d_X6_day_98 : decode m_X6_day.2.1 98 = .ok (.iconst 0, 1) := by decide +kernel
theorem d_X6_day_99 : decode m_X6_day.2.1 99 = .ok (.istore 8, 2) := by decide +kernel
theorem d_X6_day_101 : decode m_X6_day.2.1 101 = .ok (.iload 8, 2) := by decide +kernel
theorem d_X6_day_103 : decode m_X6_day.2.1 103 = .ok (.iload 4, 2) := by decide +kernel
theorem d_X6_day_105 : decode m_X6_day.2.1 105 = .ok (.if_icmp .ge 31, 3) := by decide +kernel
theorem d_X6_day_108 : decode m_X6_day.2.1 108 = .ok (.aload_n 0, 1) := by decide +kernel
theorem d_X6_day_109 : decode m_X6_day.2.1 109 = .ok (.getfield 16, 3) := by decide +kernel
theorem d_X6_day_112 : decode m_X6_day.2.1 112 = .ok (.iload 7, 2) := by decide +kernel
theorem d_X6_day_114 : decode m_X6_day.2.1 114 = .ok (.iload 8, 2) := by decide +kernel
theorem d_X6_day_116 : decode m_X6_day.2.1 116 = .ok (.iadd, 1) := by decide +kernel
theorem d_X6_day_117 : decode m_X6_day.2.1 117 = .ok (.iaload, 1) := by decide +kernel
theorem d_X6_day_118 : decode m_X6_day.2.1 118 = .ok (.iconst 0, 1) := by decide +kernel
theorem d_X6_day_119 : decode m_X6_day.2.1 119 = .ok (.bipush 14, 2) := by decide +kernel
theorem d_X6_day_121 : decode m_X6_day.2.1 121 = .ok (.invokestatic 58, 3) := by decide +kernel
theorem d_X6_day_124 : decode m_X6_day.2.1 124 = .ok (.ifCond .ne 6, 3) := by decide +kernel
theorem d_X6_day_127 : decode m_X6_day.2.1 127 = .ok (.bipush (-2), 2) := by decide +kernel
theorem d_X6_day_129 : decode m_X6_day.2.1 129 = .ok (.ireturn, 1) := by decide +kernel
theorem d_X6_day_130 : decode m_X6_day.2.1 130 = .ok (.iinc 8 1, 3) := by decide +kernel
theorem d_X6_day_133 : decode m_X6_day.2.1 133 = .ok (.goto (-32), 3) := by decide +kernel
theorem d_X6_day_136 : decode m_X6_day.2.1 136 = .ok (.aload_n 0, 1) := by decide +kernel
theorem d_X6_day_137 : decode m_X6_day.2.1 137 = .ok (.iconst 0, 1) := by decide +kernel
theorem d_X6_day_138 : decode m_X6_day.2.1 138 = .ok (.invokevirtual 170, 3) := by decide +kernel
theorem d_X6_day_141 : decode m_X6_day.2.1 141 = .ok (.aload_n 0, 1) := by decide +kernel
theorem d_X6_day_142 : decode m_X6_day.2.1 142 = .ok (.getfield 116, 3) := by decide +kernel
theorem d_X6_day_145 : decode m_X6_day.2.1 145 = .ok (.istore 8, 2) := by decide +kernel
theorem d_X6_day_147 : decode m_X6_day.2.1 147 = .ok (.aload_n 0, 1) := by decide +kernel
theorem d_X6_day_148 : decode m_X6_day.2.1 148 = .ok (.iload 7, 2) := by decide +kernel
theorem d_X6_day_150 : decode m_X6_day.2.1 150 = .ok (.iload 4, 2) := by decide +kernel
theorem d_X6_day_152 : decode m_X6_day.2.1 152 = .ok (.invokevirtual 174, 3) := by decide +kernel
theorem d_X6_day_155 : decode m_X6_day.2.1 155 = .ok (.istore 9, 2) := by decide +kernel
theorem d_X6_day_157 : decode m_X6_day.2.1 157 = .ok (.aload_n 0, 1) := by decide +kernel
theorem d_X6_day_158 : decode m_X6_day.2.1 158 = .ok (.iload 5, 2) := by decide +kernel
theorem d_X6_day_160 : decode m_X6_day.2.1 160 = .ok (.iload 8, 2) := by decide +kernel
theorem d_X6_day_162 : decode m_X6_day.2.1 162 = .ok (.invokevirtual 178, 3) := by decide +kernel
theorem d_X6_day_165 : decode m_X6_day.2.1 165 = .ok (.istore 10, 2) := by decide +kernel
theorem d_X6_day_167 : decode m_X6_day.2.1 167 = .ok (.aload_n 0, 1) := by decide +kernel
theorem d_X6_day_168 : decode m_X6_day.2.1 168 = .ok (.iconst 0, 1) := by decide +kernel
theorem d_X6_day_169 : decode m_X6_day.2.1 169 = .ok (.invokevirtual 181, 3) := by decide +kernel
theorem d_X6_day_172 : decode m_X6_day.2.1 172 = .ok (.iload 5, 2) := by decide +kernel
theorem d_X6_day_174 : decode m_X6_day.2.1 174 = .ok (.iconst 1, 1) := by decide +kernel
theorem d_X6_day_175 : decode m_X6_day.2.1 175 = .ok (.if_icmp .ne 8, 3) := by decide +kernel
theorem d_X6_day_178 : decode m_X6_day.2.1 178 = .ok (.iload 9, 2) := by decide +kernel
theorem d_X6_day_180 : decode m_X6_day.2.1 180 = .ok (.goto 20, 3) := by decide +kernel
theorem d_X6_day_183 : decode m_X6_day.2.1 183 = .ok (.iload 9, 2) := by decide +kernel
theorem d_X6_day_185 : decode m_X6_day.2.1 185 = .ok (.bipush (-9), 2) := by decide +kernel
theorem d_X6_day_187 : decode m_X6_day.2.1 187 = .ok (.if_icmp .ne 8, 3) := by decide +kernel
theorem d_X6_day_190 : decode m_X6_day.2.1 190 = .ok (.iload 10, 2) := by decide +kernel
theorem d_X6_day_192 : decode m_X6_day.2.1 192 = .ok (.goto 8, 3) := by decide +kernel
theorem d_X6_day_195 : decode m_X6_day.2.1 195 = .ok (.bipush (-100), 2) := by decide +kernel
theorem d_X6_day_197 : decode m_X6_day.2.1 197 = .ok (.iload 9, 2) := by decide +kernel
theorem d_X6_day_199 : decode m_X6_day.2.1 199 = .ok (.isub, 1) := by decide +kernel
theorem d_X6_day_200 : decode m_X6_day.2.1 200 = .ok (.ireturn, 1) := by decide +kernel
theorem d_X6_tellDay_0 : decode m_X6_tellDay.2.1 0 = .ok (.iload_n 1, 1) := by decide +kernel
theorem d_X6_tellDay_1 : decode m_X6_tellDay.2.1 1 = .ok (.bipush 10, 2) := by decide +kernel
theorem d_X6_tellDay_3 : decode m_X6_tellDay.2.1 3 = .ok (.if_icmp .lt 29, 3) := by decide +kernel
theorem d_X6_tellDay_6 : decode m_X6_tellDay.2.1 6 = .ok (.aload_n 0, 1) := by decide +kernel
theorem d_X6_tellDay_7 : decode m_X6_tellDay.2.1 7 = .ok (.iload_n 1, 1) := by decide +kernel
theorem d_X6_tellDay_8 : decode m_X6_tellDay.2.1 8 = .ok (.bipush 10, 2) := by decide +kernel
theorem d_X6_tellDay_10 : decode m_X6_tellDay.2.1 10 = .ok (.isub, 1) := by decide +kernel
theorem d_X6_tellDay_11 : decode m_X6_tellDay.2.1 11 = .ok (.invokevirtual 145, 3) := by decide +kernel
theorem d_X6_tellDay_14 : decode m_X6_tellDay.2.1 14 = .ok (.ifCond .eq 15, 3) := by decide +kernel
theorem d_X6_tellDay_17 : decode m_X6_tellDay.2.1 17 = .ok (.aload_n 0, 1) := by decide +kernel
theorem d_X6_tellDay_18 : decode m_X6_tellDay.2.1 18 = .ok (.getfield 25, 3) := by decide +kernel
theorem d_X6_tellDay_21 : decode m_X6_tellDay.2.1 21 = .ok (.iload_n 1, 1) := by decide +kernel
theorem d_X6_tellDay_22 : decode m_X6_tellDay.2.1 22 = .ok (.bipush 10, 2) := by decide +kernel
theorem d_X6_tellDay_24 : decode m_X6_tellDay.2.1 24 = .ok (.isub, 1) := by decide +kernel
theorem d_X6_tellDay_25 : decode m_X6_tellDay.2.1 25 = .ok (.iaload, 1) := by decide +kernel
theorem d_X6_tellDay_26 : decode m_X6_tellDay.2.1 26 = .ok (.goto 5, 3) := by decide +kernel
theorem d_X6_tellDay_29 : decode m_X6_tellDay.2.1 29 = .ok (.bipush (-9), 2) := by decide +kernel
theorem d_X6_tellDay_31 : decode m_X6_tellDay.2.1 31 = .ok (.ireturn, 1) := by decide +kernel
theorem d_X6_tellDay_32 : decode m_X6_tellDay.2.1 32 = .ok (.iload_n 1, 1) := by decide +kernel
theorem d_X6_tellDay_33 : decode m_X6_tellDay.2.1 33 = .ok (.tableswitch 48 0 3 #[31, 48, 36, 43], 31) := by decide +kernel
theorem d_X6_tellDay_64 : decode m_X6_tellDay.2.1 64 = .ok (.aload_n 0, 1) := by decide +kernel
theorem d_X6_tellDay_65 : decode m_X6_tellDay.2.1 65 = .ok (.invokevirtual 151, 3) := by decide +kernel
theorem d_X6_tellDay_68 : decode m_X6_tellDay.2.1 68 = .ok (.ireturn, 1) := by decide +kernel
theorem d_X6_tellDay_69 : decode m_X6_tellDay.2.1 69 = .ok (.aload_n 0, 1) := by decide +kernel
theorem d_X6_tellDay_70 : decode m_X6_tellDay.2.1 70 = .ok (.getfield 116, 3) := by decide +kernel
theorem d_X6_tellDay_73 : decode m_X6_tellDay.2.1 73 = .ok (.iload_n 2, 1) := by decide +kernel
theorem d_X6_tellDay_74 : decode m_X6_tellDay.2.1 74 = .ok (.isub, 1) := by decide +kernel
theorem d_X6_tellDay_75 : decode m_X6_tellDay.2.1 75 = .ok (.ireturn, 1) := by decide +kernel
theorem d_X6_tellDay_76 : decode m_X6_tellDay.2.1 76 = .ok (.aload_n 0, 1) := by decide +kernel
theorem d_X6_tellDay_77 : decode m_X6_tellDay.2.1 77 = .ok (.invokevirtual 158, 3) := by decide +kernel
theorem d_X6_tellDay_80 : decode m_X6_tellDay.2.1 80 = .ok (.ireturn, 1) := by decide +kernel
theorem d_X6_tellDay_81 : decode m_X6_tellDay.2.1 81 = .ok (.aload_n 0, 1) := by decide +kernel
theorem d_X6_tellDay_82 : decode m_X6_tellDay.2.1 82 = .ok (.getfield 110, 3) := by decide +kernel
theorem d_X6_tellDay_85 : decode m_X6_tellDay.2.1 85 = .ok (.ireturn, 1) := by decide +kernel
theorem d_X6_behind_0 : decode m_X6_behind.2.1 0 = .ok (.iload_n 1, 1) := by decide +kernel
theorem d_X6_behind_1 : decode m_X6_behind.2.1 1 = .ok (.iconst 0, 1) := by decide +kernel
theorem d_X6_behind_2 : decode m_X6_behind.2.1 2 = .ok (.bipush 60, 2) := by decide +kernel
theorem d_X6_behind_4 : decode m_X6_behind.2.1 4 = .ok (.invokestatic 58, 3) := by decide +kernel
theorem d_X6_behind_7 : decode m_X6_behind.2.1 7 = .ok (.ifCond .eq 12, 3) := by decide +kernel
theorem d_X6_behind_10 : decode m_X6_behind.2.1 10 = .ok (.iload_n 2, 1) := by decide +kernel
theorem d_X6_behind_11 : decode m_X6_behind.2.1 11 = .ok (.iconst 0, 1) := by decide +kernel
theorem d_X6_behind_12 : decode m_X6_behind.2.1 12 = .ok (.iconst 2, 1) := by decide +kernel
theorem d_X6_behind_13 : decode m_X6_behind.2.1 13 = .ok (.invokestatic 58, 3) := by decide +kernel
theorem d_X6_behind_16 : decode m_X6_behind.2.1 16 = .ok (.ifCond .ne 6, 3) := by decide +kernel
theorem d_X6_behind_19 : decode m_X6_behind.2.1 19 = .ok (.bipush (-2), 2) := by decide +kernel
theorem d_X6_behind_21 : decode m_X6_behind.2.1 21 = .ok (.ireturn, 1) := by decide +kernel
theorem d_X6_behind_22 : decode m_X6_behind.2.1 22 = .ok (.aload_n 0, 1) := by decide +kernel
theorem d_X6_behind_23 : decode m_X6_behind.2.1 23 = .ok (.getfield 62, 3) := by decide +kernel
theorem d_X6_behind_26 : decode m_X6_behind.2.1 26 = .ok (.ifCond .ne 6, 3) := by decide +kernel
theorem d_X6_behind_29 : decode m_X6_behind.2.1 29 = .ok (.bipush (-3), 2) := by decide +kernel
theorem d_X6_behind_31 : decode m_X6_behind.2.1 31 = .ok (.ireturn, 1) := by decide +kernel
theorem d_X6_behind_32 : decode m_X6_behind.2.1 32 = .ok (.aload_n 0, 1) := by decide +kernel
theorem d_X6_behind_33 : decode m_X6_behind.2.1 33 = .ok (.iconst 0, 1) := by decide +kernel
theorem d_X6_behind_34 : decode m_X6_behind.2.1 34 = .ok (.invokevirtual 170, 3) := by decide +kernel
theorem d_X6_behind_37 : decode m_X6_behind.2.1 37 = .ok (.aload_n 0, 1) := by decide +kernel
theorem d_X6_behind_38 : decode m_X6_behind.2.1 38 = .ok (.getfield 116, 3) := by decide +kernel
theorem d_X6_behind_41 : decode m_X6_behind.2.1 41 = .ok (.istore_n 3, 1) := by decide +kernel
theorem d_X6_behind_42 : decode m_X6_behind.2.1 42 = .ok (.iconst 0, 1) := by decide +kernel
theorem d_X6_behind_43 : decode m_X6_behind.2.1 43 = .ok (.istore 4, 2) := by decide +kernel
theorem d_X6_behind_45 : decode m_X6_behind.2.1 45 = .ok (.iload 4, 2) := by decide +kernel
theorem d_X6_behind_47 : decode m_X6_behind.2.1 47 = .ok (.iload_n 1, 1) := by decide +kernel
theorem d_X6_behind_48 : decode m_X6_behind.2.1 48 = .ok (.if_icmp .ge 13, 3) := by decide +kernel
theorem d_X6_behind_51 : decode m_X6_behind.2.1 51 = .ok (.aload_n 0, 1) := by decide +kernel
theorem d_X6_behind_52 : decode m_X6_behind.2.1 52 = .ok (.invokevirtual 164, 3) := by decide +kernel
theorem d_X6_behind_55 : decode m_X6_behind.2.1 55 = .ok (.iinc 4 1, 3) := by decide +kernel
theorem d_X6_behind_58 : decode m_X6_behind.2.1 58 = .ok (.goto (-13), 3) := by decide +kernel
theorem d_X6_behind_61 : decode m_X6_behind.2.1 61 = .ok (.iload_n 2, 1) := by decide +kernel
theorem d_X6_behind_62 : decode m_X6_behind.2.1 62 = .ok (.ifCond .ne 10, 3) := by decide +kernel
theorem d_X6_behind_65 : decode m_X6_behind.2.1 65 = .ok (.aload_n 0, 1) := by decide +kernel
theorem d_X6_behind_66 : decode m_X6_behind.2.1 66 = .ok (.invokevirtual 151, 3) := by decide +kernel
theorem d_X6_behind_69 : decode m_X6_behind.2.1 69 = .ok (.goto 21, 3) := by decide +kernel
theorem d_X6_behind_72 : decode m_X6_behind.2.1 72 = .ok (.iload_n 2, 1) := by decide +kernel
theorem d_X6_behind_73 : decode m_X6_behind.2.1 73 = .ok (.iconst 1, 1) := by decide +kernel
theorem d_X6_behind_74 : decode m_X6_behind.2.1 74 = .ok (.if_icmp .ne 10, 3) := by decide +kernel
theorem d_X6_behind_77 : decode m_X6_behind.2.1 77 = .ok (.aload_n 0, 1) := by decide +kernel
theorem d_X6_behind_78 : decode m_X6_behind.2.1 78 = .ok (.getfield 110, 3) := by decide +kernel
theorem d_X6_behind_81 : decode m_X6_behind.2.1 81 = .ok (.goto 9, 3) := by decide +kernel
theorem d_X6_behind_84 : decode m_X6_behind.2.1 84 = .ok (.aload_n 0, 1) := by decide +kernel
theorem d_X6_behind_85 : decode m_X6_behind.2.1 85 = .ok (.getfield 116, 3) := by decide +kernel
theorem d_X6_behind_88 : decode m_X6_behind.2.1 88 = .ok (.iload_n 3, 1) := by decide +kernel
theorem d_X6_behind_89 : decode m_X6_behind.2.1 89 = .ok (.isub, 1) := by decide +kernel
theorem d_X6_behind_90 : decode m_X6_behind.2.1 90 = .ok (.istore 4, 2) := by decide +kernel
theorem d_X6_behind_92 : decode m_X6_behind.2.1 92 = .ok (.aload_n 0, 1) := by decide +kernel
theorem d_X6_behind_93 : decode m_X6_behind.2.1 93 = .ok (.iconst 0, 1) := by decide +kernel
theorem d_X6_behind_94 : decode m_X6_behind.2.1 94 = .ok (.invokevirtual 181, 3) := by decide +kernel
theorem d_X6_behind_97 : decode m_X6_behind.2.1 97 = .ok (.iload 4, 2) := by decide +kernel
theorem d_X6_behind_99 : decode m_X6_behind.2.1 99 = .ok (.ireturn, 1) := by decide +kernel
theorem d_X6_quietIn_0 : decode m_X6_quietIn.2.1 0 = .ok (.aload_n 0, 1) := by decide +kernel
theorem d_X6_quietIn_1 : decode m_X6_quietIn.2.1 1 = .ok (.iconst 1, 1) := by decide +kernel
theorem d_X6_quietIn_2 : decode m_X6_quietIn.2.1 2 = .ok (.invokevirtual 170, 3) := by decide +kernel
theorem d_X6_quietIn_5 : decode m_X6_quietIn.2.1 5 = .ok (.iconst 0, 1) := by decide +kernel
theorem d_X6_quietIn_6 : decode m_X6_quietIn.2.1 6 = .ok (.istore_n 2, 1) := by decide +kernel
theorem d_X6_quietIn_7 : decode m_X6_quietIn.2.1 7 = .ok (.aload_n 0, 1) := by decide +kernel
theorem d_X6_quietIn_8 : decode m_X6_quietIn.2.1 8 = .ok (.invokevirtual 151, 3) := by decide +kernel
theorem d_X6_quietIn_11 : decode m_X6_quietIn.2.1 11 = .ok (.ifCond .le 18, 3) := by decide +kernel
theorem d_X6_quietIn_14 : decode m_X6_quietIn.2.1 14 = .ok (.iload_n 2, 1) := by decide +kernel
theorem d_X6_quietIn_15 : decode m_X6_quietIn.2.1 15 = .ok (.iload_n 1, 1) := by decide +kernel
theorem d_X6_quietIn_16 : decode m_X6_quietIn.2.1 16 = .ok (.if_icmp .ge 13, 3) := by decide +kernel
theorem d_X6_quietIn_19 : decode m_X6_quietIn.2.1 19 = .ok (.aload_n 0, 1) := by decide +kernel
theorem d_X6_quietIn_20 : decode m_X6_quietIn.2.1 20 = .ok (.invokevirtual 164, 3) := by decide +kernel
theorem d_X6_quietIn_23 : decode m_X6_quietIn.2.1 23 = .ok (.iinc 2 1, 3) := by decide +kernel
theorem d_X6_quietIn_26 : decode m_X6_quietIn.2.1 26 = .ok (.goto (-19), 3) := by decide +kernel
theorem d_X6_quietIn_29 : decode m_X6_quietIn.2.1 29 = .ok (.aload_n 0, 1) := by decide +kernel
theorem d_X6_quietIn_30 : decode m_X6_quietIn.2.1 30 = .ok (.invokevirtual 151, 3) := by decide +kernel
theorem d_X6_quietIn_33 : decode m_X6_quietIn.2.1 33 = .ok (.ifCond .ne 7, 3) := by decide +kernel
theorem d_X6_quietIn_36 : decode m_X6_quietIn.2.1 36 = .ok (.iload_n 2, 1) := by decide +kernel
theorem d_X6_quietIn_37 : decode m_X6_quietIn.2.1 37 = .ok (.goto 5, 3) := by decide +kernel
theorem d_X6_quietIn_40 : decode m_X6_quietIn.2.1 40 = .ok (.bipush (-9), 2) := by decide +kernel
theorem d_X6_quietIn_42 : decode m_X6_quietIn.2.1 42 = .ok (.istore_n 3, 1) := by decide +kernel
theorem d_X6_quietIn_43 : decode m_X6_quietIn.2.1 43 = .ok (.aload_n 0, 1) := by decide +kernel
theorem d_X6_quietIn_44 : decode m_X6_quietIn.2.1 44 = .ok (.iconst 1, 1) := by decide +kernel
theorem d_X6_quietIn_45 : decode m_X6_quietIn.2.1 45 = .ok (.invokevirtual 181, 3) := by decide +kernel
theorem d_X6_quietIn_48 : decode m_X6_quietIn.2.1 48 = .ok (.iload_n 3, 1) := by decide +kernel
theorem d_X6_quietIn_49 : decode m_X6_quietIn.2.1 49 = .ok (.ireturn, 1) := by decide +kernel
theorem d_X6_quiet_0 : decode m_X6_quiet.2.1 0 = .ok (.aload_n 0, 1) := by decide +kernel
theorem d_X6_quiet_1 : decode m_X6_quiet.2.1 1 = .ok (.getfield 62, 3) := by decide +kernel
theorem d_X6_quiet_4 : decode m_X6_quiet.2.1 4 = .ok (.ifCond .ne 8, 3) := by decide +kernel
theorem d_X6_quiet_7 : decode m_X6_quiet.2.1 7 = .ok (.bipush (-3), 2) := by decide +kernel
theorem d_X6_quiet_9 : decode m_X6_quiet.2.1 9 = .ok (.goto 9, 3) := by decide +kernel
theorem d_X6_quiet_12 : decode m_X6_quiet.2.1 12 = .ok (.aload_n 0, 1) := by decide +kernel
theorem d_X6_quiet_13 : decode m_X6_quiet.2.1 13 = .ok (.bipush 60, 2) := by decide +kernel
theorem d_X6_quiet_15 : decode m_X6_quiet.2.1 15 = .ok (.invokevirtual 184, 3) := by decide +kernel
theorem d_X6_quiet_18 : decode m_X6_quiet.2.1 18 = .ok (.ireturn, 1) := by decide +kernel
theorem d_X6_fewest_0 : decode m_X6_fewest.2.1 0 = .ok (.iload_n 1, 1) := by decide +kernel
theorem d_X6_fewest_1 : decode m_X6_fewest.2.1 1 = .ok (.iconst 0, 1) := by decide +kernel
theorem d_X6_fewest_2 : decode m_X6_fewest.2.1 2 = .ok (.bipush 60, 2) := by decide +kernel
theorem d_X6_fewest_4 : decode m_X6_fewest.2.1 4 = .ok (.invokestatic 58, 3) := by decide +kernel
theorem d_X6_fewest_7 : decode m_X6_fewest.2.1 7 = .ok (.ifCond .eq 12, 3) := by decide +kernel
theorem d_X6_fewest_10 : decode m_X6_fewest.2.1 10 = .ok (.iload_n 2, 1) := by decide +kernel
theorem d_X6_fewest_11 : decode m_X6_fewest.2.1 11 = .ok (.iconst 0, 1) := by decide +kernel
theorem d_X6_fewest_12 : decode m_X6_fewest.2.1 12 = .ok (.iconst 1, 1) := by decide +kernel
theorem d_X6_fewest_13 : decode m_X6_fewest.2.1 13 = .ok (.invokestatic 58, 3) := by decide +kernel
theorem d_X6_fewest_16 : decode m_X6_fewest.2.1 16 = .ok (.ifCond .ne 6, 3) := by decide +kernel
theorem d_X6_fewest_19 : decode m_X6_fewest.2.1 19 = .ok (.bipush (-2), 2) := by decide +kernel
theorem d_X6_fewest_21 : decode m_X6_fewest.2.1 21 = .ok (.ireturn, 1) := by decide +kernel
theorem d_X6_fewest_22 : decode m_X6_fewest.2.1 22 = .ok (.aload_n 0, 1) := by decide +kernel
theorem d_X6_fewest_23 : decode m_X6_fewest.2.1 23 = .ok (.getfield 62, 3) := by decide +kernel
theorem d_X6_fewest_26 : decode m_X6_fewest.2.1 26 = .ok (.ifCond .ne 6, 3) := by decide +kernel
theorem d_X6_fewest_29 : decode m_X6_fewest.2.1 29 = .ok (.bipush (-3), 2) := by decide +kernel
theorem d_X6_fewest_31 : decode m_X6_fewest.2.1 31 = .ok (.ireturn, 1) := by decide +kernel
theorem d_X6_fewest_32 : decode m_X6_fewest.2.1 32 = .ok (.aload_n 0, 1) := by decide +kernel
theorem d_X6_fewest_33 : decode m_X6_fewest.2.1 33 = .ok (.invokevirtual 158, 3) := by decide +kernel
theorem d_X6_fewest_36 : decode m_X6_fewest.2.1 36 = .ok (.istore_n 3, 1) := by decide +kernel
theorem d_X6_fewest_37 : decode m_X6_fewest.2.1 37 = .ok (.bipush (-9), 2) := by decide +kernel
theorem d_X6_fewest_39 : decode m_X6_fewest.2.1 39 = .ok (.istore 4, 2) := by decide +kernel
theorem d_X6_fewest_41 : decode m_X6_fewest.2.1 41 = .ok (.aload_n 0, 1) := by decide +kernel
theorem d_X6_fewest_42 : decode m_X6_fewest.2.1 42 = .ok (.iconst 0, 1) := by decide +kernel
theorem d_X6_fewest_43 : decode m_X6_fewest.2.1 43 = .ok (.invokevirtual 170, 3) := by decide +kernel
theorem d_X6_fewest_46 : decode m_X6_fewest.2.1 46 = .ok (.iconst 0, 1) := by decide +kernel
theorem d_X6_fewest_47 : decode m_X6_fewest.2.1 47 = .ok (.istore 5, 2) := by decide +kernel
theorem d_X6_fewest_49 : decode m_X6_fewest.2.1 49 = .ok (.iload 5, 2) := by decide +kernel
theorem d_X6_fewest_51 : decode m_X6_fewest.2.1 51 = .ok (.iconst 1, 1) := by decide +kernel
theorem d_X6_fewest_52 : decode m_X6_fewest.2.1 52 = .ok (.aload_n 0, 1) := by decide +kernel
theorem d_X6_fewest_53 : decode m_X6_fewest.2.1 53 = .ok (.getfield 62, 3) := by decide +kernel
theorem d_X6_fewest_56 : decode m_X6_fewest.2.1 56 = .ok (.ishl, 1) := by decide +kernel
theorem d_X6_fewest_57 : decode m_X6_fewest.2.1 57 = .ok (.if_icmp .ge 89, 3) := by decide +kernel
theorem d_X6_fewest_60 : decode m_X6_fewest.2.1 60 = .ok (.iload 4, 2) := by decide +kernel
theorem d_X6_fewest_62 : decode m_X6_fewest.2.1 62 = .ok (.bipush (-9), 2) := by decide +kernel
theorem d_X6_fewest_64 : decode m_X6_fewest.2.1 64 = .ok (.if_icmp .eq 16, 3) := by decide +kernel
theorem d_X6_fewest_67 : decode m_X6_fewest.2.1 67 = .ok (.iload 5, 2) := by decide +kernel
theorem d_X6_fewest_69 : decode m_X6_fewest.2.1 69 = .ok (.invokestatic 187, 3) := by decide +kernel
theorem d_X6_fewest_72 : decode m_X6_fewest.2.1 72 = .ok (.iload 4, 2) := by decide +kernel
theorem d_X6_fewest_74 : decode m_X6_fewest.2.1 74 = .ok (.invokestatic 187, 3) := by decide +kernel
theorem d_X6_fewest_77 : decode m_X6_fewest.2.1 77 = .ok (.if_icmp .ge 7, 3) := by decide +kernel
theorem d_X6_fewest_80 : decode m_X6_fewest.2.1 80 = .ok (.iconst 1, 1) := by decide +kernel
theorem d_X6_fewest_81 : decode m_X6_fewest.2.1 81 = .ok (.goto 4, 3) := by decide +kernel
theorem d_X6_fewest_84 : decode m_X6_fewest.2.1 84 = .ok (.iconst 0, 1) := by decide +kernel
theorem d_X6_fewest_85 : decode m_X6_fewest.2.1 85 = .ok (.istore 6, 2) := by decide +kernel
theorem d_X6_fewest_87 : decode m_X6_fewest.2.1 87 = .ok (.iload 5, 2) := by decide +kernel
theorem d_X6_fewest_89 : decode m_X6_fewest.2.1 89 = .ok (.iload_n 3, 1) := by decide +kernel
theorem d_X6_fewest_90 : decode m_X6_fewest.2.1 90 = .ok (.iconst (-1), 1) := by decide +kernel
theorem d_X6_fewest_91 : decode m_X6_fewest.2.1 91 = .ok (.ixor, 1) := by decide +kernel
theorem d_X6_fewest_92 : decode m_X6_fewest.2.1 92 = .ok (.iand, 1) := by decide +kernel
theorem d_X6_fewest_93 : decode m_X6_fewest.2.1 93 = .ok (.ifCond .ne 47, 3) := by decide +kernel
theorem d_X6_fewest_96 : decode m_X6_fewest.2.1 96 = .ok (.iload 6, 2) := by decide +kernel
theorem d_X6_fewest_98 : decode m_X6_fewest.2.1 98 = .ok (.ifCond .eq 42, 3) := by decide +kernel
theorem d_X6_fewest_101 : decode m_X6_fewest.2.1 101 = .ok (.aload_n 0, 1) := by decide +kernel
theorem d_X6_fewest_102 : decode m_X6_fewest.2.1 102 = .ok (.dup, 1) := by decide +kernel
theorem d_X6_fewest_103 : decode m_X6_fewest.2.1 103 = .ok (.getfield 104, 3) := by decide +kernel
theorem d_X6_fewest_106 : decode m_X6_fewest.2.1 106 = .ok (.iload 5, 2) := by decide +kernel
theorem d_X6_fewest_108 : decode m_X6_fewest.2.1 108 = .ok (.ior, 1) := by decide +kernel
theorem d_X6_fewest_109 : decode m_X6_fewest.2.1 109 = .ok (.putfield 104, 3) := by decide +kernel
theorem d_X6_fewest_112 : decode m_X6_fewest.2.1 112 = .ok (.aload_n 0, 1) := by decide +kernel
theorem d_X6_fewest_113 : decode m_X6_fewest.2.1 113 = .ok (.iload_n 1, 1) := by decide +kernel
theorem d_X6_fewest_114 : decode m_X6_fewest.2.1 114 = .ok (.invokevirtual 184, 3) := by decide +kernel
theorem d_X6_fewest_117 : decode m_X6_fewest.2.1 117 = .ok (.istore 7, 2) := by decide +kernel
theorem d_X6_fewest_119 : decode m_X6_fewest.2.1 119 = .ok (.iload 7, 2) := by decide +kernel
theorem d_X6_fewest_121 : decode m_X6_fewest.2.1 121 = .ok (.bipush (-9), 2) := by decide +kernel
theorem d_X6_fewest_123 : decode m_X6_fewest.2.1 123 = .ok (.if_icmp .ne 8, 3) := by decide +kernel
theorem d_X6_fewest_126 : decode m_X6_fewest.2.1 126 = .ok (.iload 4, 2) := by decide +kernel
theorem d_X6_fewest_128 : decode m_X6_fewest.2.1 128 = .ok (.goto 5, 3) := by decide +kernel
theorem d_X6_fewest_131 : decode m_X6_fewest.2.1 131 = .ok (.iload 5, 2) := by decide +kernel
theorem d_X6_fewest_133 : decode m_X6_fewest.2.1 133 = .ok (.istore 4, 2) := by decide +kernel
theorem d_X6_fewest_135 : decode m_X6_fewest.2.1 135 = .ok (.aload_n 0, 1) := by decide +kernel
theorem d_X6_fewest_136 : decode m_X6_fewest.2.1 136 = .ok (.iconst 0, 1) := by decide +kernel
theorem d_X6_fewest_137 : decode m_X6_fewest.2.1 137 = .ok (.invokevirtual 181, 3) := by decide +kernel
theorem d_X6_fewest_140 : decode m_X6_fewest.2.1 140 = .ok (.iinc 5 1, 3) := by decide +kernel
theorem d_X6_fewest_143 : decode m_X6_fewest.2.1 143 = .ok (.goto (-94), 3) := by decide +kernel
theorem d_X6_fewest_146 : decode m_X6_fewest.2.1 146 = .ok (.iload 4, 2) := by decide +kernel
theorem d_X6_fewest_148 : decode m_X6_fewest.2.1 148 = .ok (.bipush (-9), 2) := by decide +kernel
theorem d_X6_fewest_150 : decode m_X6_fewest.2.1 150 = .ok (.if_icmp .ne 8, 3) := by decide +kernel
theorem d_X6_fewest_153 : decode m_X6_fewest.2.1 153 = .ok (.bipush (-9), 2) := by decide +kernel
theorem d_X6_fewest_155 : decode m_X6_fewest.2.1 155 = .ok (.goto 17, 3) := by decide +kernel
theorem d_X6_fewest_158 : decode m_X6_fewest.2.1 158 = .ok (.iload_n 2, 1) := by decide +kernel
theorem d_X6_fewest_159 : decode m_X6_fewest.2.1 159 = .ok (.ifCond .ne 11, 3) := by decide +kernel
theorem d_X6_fewest_162 : decode m_X6_fewest.2.1 162 = .ok (.iload 4, 2) := by decide +kernel
theorem d_X6_fewest_164 : decode m_X6_fewest.2.1 164 = .ok (.invokestatic 187, 3) := by decide +kernel
theorem d_X6_fewest_167 : decode m_X6_fewest.2.1 167 = .ok (.goto 5, 3) := by decide +kernel
theorem d_X6_fewest_170 : decode m_X6_fewest.2.1 170 = .ok (.iload 4, 2) := by decide +kernel
theorem d_X6_fewest_172 : decode m_X6_fewest.2.1 172 = .ok (.ireturn, 1) := by decide +kernel
theorem d_X6_weightOfSet_0 : decode m_X6_weightOfSet.2.1 0 = .ok (.iconst 0, 1) := by decide +kernel
theorem d_X6_weightOfSet_1 : decode m_X6_weightOfSet.2.1 1 = .ok (.istore_n 2, 1) := by decide +kernel
theorem d_X6_weightOfSet_2 : decode m_X6_weightOfSet.2.1 2 = .ok (.iconst 0, 1) := by decide +kernel
theorem d_X6_weightOfSet_3 : decode m_X6_weightOfSet.2.1 3 = .ok (.istore_n 3, 1) := by decide +kernel
theorem d_X6_weightOfSet_4 : decode m_X6_weightOfSet.2.1 4 = .ok (.iload_n 3, 1) := by decide +kernel
theorem d_X6_weightOfSet_5 : decode m_X6_weightOfSet.2.1 5 = .ok (.aload_n 0, 1) := by decide +kernel
theorem d_X6_weightOfSet_6 : decode m_X6_weightOfSet.2.1 6 = .ok (.getfield 62, 3) := by decide +kernel
theorem d_X6_weightOfSet_9 : decode m_X6_weightOfSet.2.1 9 = .ok (.if_icmp .ge 29, 3) := by decide +kernel
theorem d_X6_weightOfSet_12 : decode m_X6_weightOfSet.2.1 12 = .ok (.iload_n 2, 1) := by decide +kernel
theorem d_X6_weightOfSet_13 : decode m_X6_weightOfSet.2.1 13 = .ok (.iload_n 1, 1) := by decide +kernel
theorem d_X6_weightOfSet_14 : decode m_X6_weightOfSet.2.1 14 = .ok (.iload_n 3, 1) := by decide +kernel
theorem d_X6_weightOfSet_15 : decode m_X6_weightOfSet.2.1 15 = .ok (.invokestatic 136, 3) := by decide +kernel
theorem d_X6_weightOfSet_18 : decode m_X6_weightOfSet.2.1 18 = .ok (.ifCond .eq 11, 3) := by decide +kernel
theorem d_X6_weightOfSet_21 : decode m_X6_weightOfSet.2.1 21 = .ok (.aload_n 0, 1) := by decide +kernel
theorem d_X6_weightOfSet_22 : decode m_X6_weightOfSet.2.1 22 = .ok (.iload_n 3, 1) := by decide +kernel
theorem d_X6_weightOfSet_23 : decode m_X6_weightOfSet.2.1 23 = .ok (.invokevirtual 139, 3) := by decide +kernel
theorem d_X6_weightOfSet_26 : decode m_X6_weightOfSet.2.1 26 = .ok (.goto 4, 3) := by decide +kernel
theorem d_X6_weightOfSet_29 : decode m_X6_weightOfSet.2.1 29 = .ok (.iconst 0, 1) := by decide +kernel
theorem d_X6_weightOfSet_30 : decode m_X6_weightOfSet.2.1 30 = .ok (.iadd, 1) := by decide +kernel
theorem d_X6_weightOfSet_31 : decode m_X6_weightOfSet.2.1 31 = .ok (.istore_n 2, 1) := by decide +kernel
theorem d_X6_weightOfSet_32 : decode m_X6_weightOfSet.2.1 32 = .ok (.iinc 3 1, 3) := by decide +kernel
theorem d_X6_weightOfSet_35 : decode m_X6_weightOfSet.2.1 35 = .ok (.goto (-31), 3) := by decide +kernel
theorem d_X6_weightOfSet_38 : decode m_X6_weightOfSet.2.1 38 = .ok (.iload_n 2, 1) := by decide +kernel
theorem d_X6_weightOfSet_39 : decode m_X6_weightOfSet.2.1 39 = .ok (.ireturn, 1) := by decide +kernel
theorem d_X6_claps_0 : decode m_X6_claps.2.1 0 = .ok (.iload_n 1, 1) := by decide +kernel
theorem d_X6_claps_1 : decode m_X6_claps.2.1 1 = .ok (.iconst 0, 1) := by decide +kernel
theorem d_X6_claps_2 : decode m_X6_claps.2.1 2 = .ok (.bipush 90, 2) := by decide +kernel
theorem d_X6_claps_4 : decode m_X6_claps.2.1 4 = .ok (.invokestatic 58, 3) := by decide +kernel
theorem d_X6_claps_7 : decode m_X6_claps.2.1 7 = .ok (.ifCond .eq 12, 3) := by decide +kernel
theorem d_X6_claps_10 : decode m_X6_claps.2.1 10 = .ok (.iload_n 2, 1) := by decide +kernel
theorem d_X6_claps_11 : decode m_X6_claps.2.1 11 = .ok (.iconst 0, 1) := by decide +kernel
theorem d_X6_claps_12 : decode m_X6_claps.2.1 12 = .ok (.iconst 1, 1) := by decide +kernel
theorem d_X6_claps_13 : decode m_X6_claps.2.1 13 = .ok (.invokestatic 58, 3) := by decide +kernel
theorem d_X6_claps_16 : decode m_X6_claps.2.1 16 = .ok (.ifCond .ne 6, 3) := by decide +kernel
theorem d_X6_claps_19 : decode m_X6_claps.2.1 19 = .ok (.bipush (-2), 2) := by decide +kernel
theorem d_X6_claps_21 : decode m_X6_claps.2.1 21 = .ok (.ireturn, 1) := by decide +kernel
theorem d_X6_claps_22 : decode m_X6_claps.2.1 22 = .ok (.aload_n 0, 1) := by decide +kernel
theorem d_X6_claps_23 : decode m_X6_claps.2.1 23 = .ok (.getfield 62, 3) := by decide +kernel
theorem d_X6_claps_26 : decode m_X6_claps.2.1 26 = .ok (.ifCond .ne 6, 3) := by decide +kernel
theorem d_X6_claps_29 : decode m_X6_claps.2.1 29 = .ok (.bipush (-3), 2) := by decide +kernel
theorem d_X6_claps_31 : decode m_X6_claps.2.1 31 = .ok (.ireturn, 1) := by decide +kernel
theorem d_X6_claps_32 : decode m_X6_claps.2.1 32 = .ok (.aload_n 0, 1) := by decide +kernel
theorem d_X6_claps_33 : decode m_X6_claps.2.1 33 = .ok (.invokevirtual 158, 3) := by decide +kernel
theorem d_X6_claps_36 : decode m_X6_claps.2.1 36 = .ok (.istore_n 3, 1) := by decide +kernel
theorem d_X6_claps_37 : decode m_X6_claps.2.1 37 = .ok (.iconst 0, 1) := by decide +kernel
theorem d_X6_claps_38 : decode m_X6_claps.2.1 38 = .ok (.istore 4, 2) := by decide +kernel
theorem d_X6_claps_40 : decode m_X6_claps.2.1 40 = .ok (.bipush (-9), 2) := by decide +kernel
theorem d_X6_claps_42 : decode m_X6_claps.2.1 42 = .ok (.istore 5, 2) := by decide +kernel
theorem d_X6_claps_44 : decode m_X6_claps.2.1 44 = .ok (.iconst 0, 1) := by decide +kernel
theorem d_X6_claps_45 : decode m_X6_claps.2.1 45 = .ok (.istore 6, 2) := by decide +kernel
theorem d_X6_claps_47 : decode m_X6_claps.2.1 47 = .ok (.iload 6, 2) := by decide +kernel
theorem d_X6_claps_49 : decode m_X6_claps.2.1 49 = .ok (.iconst 1, 1) := by decide +kernel
theorem d_X6_claps_50 : decode m_X6_claps.2.1 50 = .ok (.aload_n 0, 1) := by decide +kernel
theorem d_X6_claps_51 : decode m_X6_claps.2.1 51 = .ok (.getfield 62, 3) := by decide +kernel
theorem d_X6_claps_54 : decode m_X6_claps.2.1 54 = .ok (.ishl, 1) := by decide +kernel
theorem d_X6_claps_55 : decode m_X6_claps.2.1 55 = .ok (.if_icmp .ge 47, 3) := by decide +kernel
theorem d_X6_claps_58 : decode m_X6_claps.2.1 58 = .ok (.iload 6, 2) := by decide +kernel
theorem d_X6_claps_60 : decode m_X6_claps.2.1 60 = .ok (.iload_n 3, 1) := by decide +kernel
theorem d_X6_claps_61 : decode m_X6_claps.2.1 61 = .ok (.iconst (-1), 1) := by decide +kernel
theorem d_X6_claps_62 : decode m_X6_claps.2.1 62 = .ok (.ixor, 1) := by decide +kernel
theorem d_X6_claps_63 : decode m_X6_claps.2.1 63 = .ok (.iand, 1) := by decide +kernel
theorem d_X6_claps_64 : decode m_X6_claps.2.1 64 = .ok (.ifCond .ne 32, 3) := by decide +kernel
theorem d_X6_claps_67 : decode m_X6_claps.2.1 67 = .ok (.aload_n 0, 1) := by decide +kernel
theorem d_X6_claps_68 : decode m_X6_claps.2.1 68 = .ok (.iload 6, 2) := by decide +kernel
theorem d_X6_claps_70 : decode m_X6_claps.2.1 70 = .ok (.invokevirtual 190, 3) := by decide +kernel
theorem d_X6_claps_73 : decode m_X6_claps.2.1 73 = .ok (.iload_n 1, 1) := by decide +kernel
theorem d_X6_claps_74 : decode m_X6_claps.2.1 74 = .ok (.if_icmp .ne 22, 3) := by decide +kernel
theorem d_X6_claps_77 : decode m_X6_claps.2.1 77 = .ok (.iinc 4 1, 3) := by decide +kernel
theorem d_X6_claps_80 : decode m_X6_claps.2.1 80 = .ok (.iload 5, 2) := by decide +kernel
theorem d_X6_claps_82 : decode m_X6_claps.2.1 82 = .ok (.bipush (-9), 2) := by decide +kernel
theorem d_X6_claps_84 : decode m_X6_claps.2.1 84 = .ok (.if_icmp .ne 8, 3) := by decide +kernel
theorem d_X6_claps_87 : decode m_X6_claps.2.1 87 = .ok (.iload 6, 2) := by decide +kernel
theorem d_X6_claps_89 : decode m_X6_claps.2.1 89 = .ok (.goto 5, 3) := by decide +kernel
theorem d_X6_claps_92 : decode m_X6_claps.2.1 92 = .ok (.iload 5, 2) := by decide +kernel
theorem d_X6_claps_94 : decode m_X6_claps.2.1 94 = .ok (.istore 5, 2) := by decide +kernel
theorem d_X6_claps_96 : decode m_X6_claps.2.1 96 = .ok (.iinc 6 1, 3) := by decide +kernel
theorem d_X6_claps_99 : decode m_X6_claps.2.1 99 = .ok (.goto (-52), 3) := by decide +kernel
theorem d_X6_claps_102 : decode m_X6_claps.2.1 102 = .ok (.iload_n 2, 1) := by decide +kernel
theorem d_X6_claps_103 : decode m_X6_claps.2.1 103 = .ok (.ifCond .ne 8, 3) := by decide +kernel
theorem d_X6_claps_106 : decode m_X6_claps.2.1 106 = .ok (.iload 4, 2) := by decide +kernel
theorem d_X6_claps_108 : decode m_X6_claps.2.1 108 = .ok (.goto 5, 3) := by decide +kernel
theorem d_X6_claps_111 : decode m_X6_claps.2.1 111 = .ok (.iload 5, 2) := by decide +kernel
theorem d_X6_claps_113 : decode m_X6_claps.2.1 113 = .ok (.ireturn, 1) := by decide +kernel
theorem d_X6_findPains_0 : decode m_X6_findPains.2.1 0 = .ok (.aload_n 0, 1) := by decide +kernel
theorem d_X6_findPains_1 : decode m_X6_findPains.2.1 1 = .ok (.iconst 0, 1) := by decide +kernel
theorem d_X6_findPains_2 : decode m_X6_findPains.2.1 2 = .ok (.invokevirtual 170, 3) := by decide +kernel
theorem d_X6_findPains_5 : decode m_X6_findPains.2.1 5 = .ok (.iconst 0, 1) := by decide +kernel
theorem d_X6_findPains_6 : decode m_X6_findPains.2.1 6 = .ok (.istore_n 3, 1) := by decide +kernel
theorem d_X6_findPains_7 : decode m_X6_findPains.2.1 7 = .ok (.iload_n 3, 1) := by decide +kernel
theorem d_X6_findPains_8 : decode m_X6_findPains.2.1 8 = .ok (.iconst 4, 1) := by decide +kernel
theorem d_X6_findPains_9 : decode m_X6_findPains.2.1 9 = .ok (.if_icmp .ge 140, 3) := by decide +kernel
theorem d_X6_findPains_12 : decode m_X6_findPains.2.1 12 = .ok (.iconst 0, 1) := by decide +kernel
theorem d_X6_findPains_13 : decode m_X6_findPains.2.1 13 = .ok (.istore 4, 2) := by decide +kernel
theorem d_X6_findPains_15 : decode m_X6_findPains.2.1 15 = .ok (.iconst 0, 1) := by decide +kernel
theorem d_X6_findPains_16 : decode m_X6_findPains.2.1 16 = .ok (.istore 5, 2) := by decide +kernel
theorem d_X6_findPains_18 : decode m_X6_findPains.2.1 18 = .ok (.iload_n 3, 1) := by decide +kernel
theorem d_X6_findPains_19 : decode m_X6_findPains.2.1 19 = .ok (.iconst 0, 1) := by decide +kernel
theorem d_X6_findPains_20 : decode m_X6_findPains.2.1 20 = .ok (.invokestatic 136, 3) := by decide +kernel
theorem d_X6_findPains_23 : decode m_X6_findPains.2.1 23 = .ok (.ifCond .eq 29, 3) := by decide +kernel
theorem d_X6_findPains_26 : decode m_X6_findPains.2.1 26 = .ok (.aload_n 0, 1) := by decide +kernel
theorem d_X6_findPains_27 : decode m_X6_findPains.2.1 27 = .ok (.iload_n 1, 1) := by decide +kernel
theorem d_X6_findPains_28 : decode m_X6_findPains.2.1 28 = .ok (.invokevirtual 142, 3) := by decide +kernel
theorem d_X6_findPains_31 : decode m_X6_findPains.2.1 31 = .ok (.ifCond .eq 11, 3) := by decide +kernel
theorem d_X6_findPains_34 : decode m_X6_findPains.2.1 34 = .ok (.aload_n 0, 1) := by decide +kernel
theorem d_X6_findPains_35 : decode m_X6_findPains.2.1 35 = .ok (.iload_n 1, 1) := by decide +kernel
theorem d_X6_findPains_36 : decode m_X6_findPains.2.1 36 = .ok (.invokevirtual 139, 3) := by decide +kernel
theorem d_X6_findPains_39 : decode m_X6_findPains.2.1 39 = .ok (.goto 5, 3) := by decide +kernel
theorem d_X6_findPains_42 : decode m_X6_findPains.2.1 42 = .ok (.bipush 6, 2) := by decide +kernel
theorem d_X6_findPains_44 : decode m_X6_findPains.2.1 44 = .ok (.istore 4, 2) := by decide +kernel
theorem d_X6_findPains_46 : decode m_X6_findPains.2.1 46 = .ok (.aload_n 0, 1) := by decide +kernel
theorem d_X6_findPains_47 : decode m_X6_findPains.2.1 47 = .ok (.iload_n 1, 1) := by decide +kernel
theorem d_X6_findPains_48 : decode m_X6_findPains.2.1 48 = .ok (.invokevirtual 155, 3) := by decide +kernel
theorem d_X6_findPains_51 : decode m_X6_findPains.2.1 51 = .ok (.pop, 1) := by decide +kernel
theorem d_X6_findPains_52 : decode m_X6_findPains.2.1 52 = .ok (.iload_n 3, 1) := by decide +kernel
theorem d_X6_findPains_53 : decode m_X6_findPains.2.1 53 = .ok (.iconst 1, 1) := by decide +kernel
theorem d_X6_findPains_54 : decode m_X6_findPains.2.1 54 = .ok (.invokestatic 136, 3) := by decide +kernel
theorem d_X6_findPains_57 : decode m_X6_findPains.2.1 57 = .ok (.ifCond .eq 29, 3) := by decide +kernel
theorem d_X6_findPains_60 : decode m_X6_findPains.2.1 60 = .ok (.aload_n 0, 1) := by decide +kernel
theorem d_X6_findPains_61 : decode m_X6_findPains.2.1 61 = .ok (.iload_n 2, 1) := by decide +kernel
theorem d_X6_findPains_62 : decode m_X6_findPains.2.1 62 = .ok (.invokevirtual 142, 3) := by decide +kernel
theorem d_X6_findPains_65 : decode m_X6_findPains.2.1 65 = .ok (.ifCond .eq 11, 3) := by decide +kernel
theorem d_X6_findPains_68 : decode m_X6_findPains.2.1 68 = .ok (.aload_n 0, 1) := by decide +kernel
theorem d_X6_findPains_69 : decode m_X6_findPains.2.1 69 = .ok (.iload_n 2, 1) := by decide +kernel
theorem d_X6_findPains_70 : decode m_X6_findPains.2.1 70 = .ok (.invokevirtual 139, 3) := by decide +kernel
theorem d_X6_findPains_73 : decode m_X6_findPains.2.1 73 = .ok (.goto 5, 3) := by decide +kernel
theorem d_X6_findPains_76 : decode m_X6_findPains.2.1 76 = .ok (.bipush 6, 2) := by decide +kernel
theorem d_X6_findPains_78 : decode m_X6_findPains.2.1 78 = .ok (.istore 5, 2) := by decide +kernel
theorem d_X6_findPains_80 : decode m_X6_findPains.2.1 80 = .ok (.aload_n 0, 1) := by decide +kernel
theorem d_X6_findPains_81 : decode m_X6_findPains.2.1 81 = .ok (.iload_n 2, 1) := by decide +kernel
theorem d_X6_findPains_82 : decode m_X6_findPains.2.1 82 = .ok (.invokevirtual 155, 3) := by decide +kernel
theorem d_X6_findPains_85 : decode m_X6_findPains.2.1 85 = .ok (.pop, 1) := by decide +kernel
theorem d_X6_findPains_86 : decode m_X6_findPains.2.1 86 = .ok (.aload_n 0, 1) := by decide +kernel
theorem d_X6_findPains_87 : decode m_X6_findPains.2.1 87 = .ok (.bipush 20, 2) := by decide +kernel
theorem d_X6_findPains_89 : decode m_X6_findPains.2.1 89 = .ok (.invokevirtual 184, 3) := by decide +kernel
theorem d_X6_findPains_92 : decode m_X6_findPains.2.1 92 = .ok (.istore 6, 2) := by decide +kernel
theorem d_X6_findPains_94 : decode m_X6_findPains.2.1 94 = .ok (.iload 6, 2) := by decide +kernel
theorem d_X6_findPains_96 : decode m_X6_findPains.2.1 96 = .ok (.bipush (-9), 2) := by decide +kernel
theorem d_X6_findPains_98 : decode m_X6_findPains.2.1 98 = .ok (.if_icmp .ne 8, 3) := by decide +kernel
theorem d_X6_findPains_101 : decode m_X6_findPains.2.1 101 = .ok (.bipush 20, 2) := by decide +kernel
theorem d_X6_findPains_103 : decode m_X6_findPains.2.1 103 = .ok (.goto 5, 3) := by decide +kernel
theorem d_X6_findPains_106 : decode m_X6_findPains.2.1 106 = .ok (.iload 6, 2) := by decide +kernel
theorem d_X6_findPains_108 : decode m_X6_findPains.2.1 108 = .ok (.istore 6, 2) := by decide +kernel
theorem d_X6_findPains_110 : decode m_X6_findPains.2.1 110 = .ok (.aload_n 0, 1) := by decide +kernel
theorem d_X6_findPains_111 : decode m_X6_findPains.2.1 111 = .ok (.getfield 43, 3) := by decide +kernel
theorem d_X6_findPains_114 : decode m_X6_findPains.2.1 114 = .ok (.iconst 2, 1) := by decide +kernel
theorem d_X6_findPains_115 : decode m_X6_findPains.2.1 115 = .ok (.iload_n 3, 1) := by decide +kernel
theorem d_X6_findPains_116 : decode m_X6_findPains.2.1 116 = .ok (.imul, 1) := by decide +kernel
theorem d_X6_findPains_117 : decode m_X6_findPains.2.1 117 = .ok (.iload 4, 2) := by decide +kernel
theorem d_X6_findPains_119 : decode m_X6_findPains.2.1 119 = .ok (.iload 6, 2) := by decide +kernel
theorem d_X6_findPains_121 : decode m_X6_findPains.2.1 121 = .ok (.iadd, 1) := by decide +kernel
theorem d_X6_findPains_122 : decode m_X6_findPains.2.1 122 = .ok (.iastore, 1) := by decide +kernel
theorem d_X6_findPains_123 : decode m_X6_findPains.2.1 123 = .ok (.aload_n 0, 1) := by decide +kernel
theorem d_X6_findPains_124 : decode m_X6_findPains.2.1 124 = .ok (.getfield 43, 3) := by decide +kernel
theorem d_X6_findPains_127 : decode m_X6_findPains.2.1 127 = .ok (.iconst 2, 1) := by decide +kernel
theorem d_X6_findPains_128 : decode m_X6_findPains.2.1 128 = .ok (.iload_n 3, 1) := by decide +kernel
theorem d_X6_findPains_129 : decode m_X6_findPains.2.1 129 = .ok (.imul, 1) := by decide +kernel
theorem d_X6_findPains_130 : decode m_X6_findPains.2.1 130 = .ok (.iconst 1, 1) := by decide +kernel
theorem d_X6_findPains_131 : decode m_X6_findPains.2.1 131 = .ok (.iadd, 1) := by decide +kernel
theorem d_X6_findPains_132 : decode m_X6_findPains.2.1 132 = .ok (.iload 5, 2) := by decide +kernel
theorem d_X6_findPains_134 : decode m_X6_findPains.2.1 134 = .ok (.iload 6, 2) := by decide +kernel
theorem d_X6_findPains_136 : decode m_X6_findPains.2.1 136 = .ok (.iadd, 1) := by decide +kernel
theorem d_X6_findPains_137 : decode m_X6_findPains.2.1 137 = .ok (.iastore, 1) := by decide +kernel
theorem d_X6_findPains_138 : decode m_X6_findPains.2.1 138 = .ok (.aload_n 0, 1) := by decide +kernel
theorem d_X6_findPains_139 : decode m_X6_findPains.2.1 139 = .ok (.iconst 0, 1) := by decide +kernel
theorem d_X6_findPains_140 : decode m_X6_findPains.2.1 140 = .ok (.invokevirtual 181, 3) := by decide +kernel
theorem d_X6_findPains_143 : decode m_X6_findPains.2.1 143 = .ok (.iinc 3 1, 3) := by decide +kernel
theorem d_X6_findPains_146 : decode m_X6_findPains.2.1 146 = .ok (.goto (-139), 3) := by decide +kernel
theorem d_X6_findPains_149 : decode m_X6_findPains.2.1 149 = .ok (.return_, 1) := by decide +kernel
theorem d_X6_rests_0 : decode m_X6_rests.2.1 0 = .ok (.aload_n 0, 1) := by decide +kernel
theorem d_X6_rests_1 : decode m_X6_rests.2.1 1 = .ok (.iload_n 1, 1) := by decide +kernel
theorem d_X6_rests_2 : decode m_X6_rests.2.1 2 = .ok (.invokevirtual 145, 3) := by decide +kernel
theorem d_X6_rests_5 : decode m_X6_rests.2.1 5 = .ok (.ifCond .eq 16, 3) := by decide +kernel
theorem d_X6_rests_8 : decode m_X6_rests.2.1 8 = .ok (.aload_n 0, 1) := by decide +kernel
theorem d_X6_rests_9 : decode m_X6_rests.2.1 9 = .ok (.iload_n 2, 1) := by decide +kernel
theorem d_X6_rests_10 : decode m_X6_rests.2.1 10 = .ok (.invokevirtual 145, 3) := by decide +kernel
theorem d_X6_rests_13 : decode m_X6_rests.2.1 13 = .ok (.ifCond .eq 8, 3) := by decide +kernel
theorem d_X6_rests_16 : decode m_X6_rests.2.1 16 = .ok (.iload_n 1, 1) := by decide +kernel
theorem d_X6_rests_17 : decode m_X6_rests.2.1 17 = .ok (.iload_n 2, 1) := by decide +kernel
theorem d_X6_rests_18 : decode m_X6_rests.2.1 18 = .ok (.if_icmp .ne 5, 3) := by decide +kernel
theorem d_X6_rests_21 : decode m_X6_rests.2.1 21 = .ok (.iconst (-1), 1) := by decide +kernel
theorem d_X6_rests_22 : decode m_X6_rests.2.1 22 = .ok (.ireturn, 1) := by decide +kernel
theorem d_X6_rests_23 : decode m_X6_rests.2.1 23 = .ok (.aload_n 0, 1) := by decide +kernel
theorem d_X6_rests_24 : decode m_X6_rests.2.1 24 = .ok (.iload_n 1, 1) := by decide +kernel
theorem d_X6_rests_25 : decode m_X6_rests.2.1 25 = .ok (.iload_n 2, 1) := by decide +kernel
theorem d_X6_rests_26 : decode m_X6_rests.2.1 26 = .ok (.invokevirtual 193, 3) := by decide +kernel
theorem d_X6_rests_29 : decode m_X6_rests.2.1 29 = .ok (.iconst 0, 1) := by decide +kernel
theorem d_X6_rests_30 : decode m_X6_rests.2.1 30 = .ok (.istore_n 3, 1) := by decide +kernel
theorem d_X6_rests_31 : decode m_X6_rests.2.1 31 = .ok (.iconst 0, 1) := by decide +kernel
theorem d_X6_rests_32 : decode m_X6_rests.2.1 32 = .ok (.istore 4, 2) := by decide +kernel
theorem d_X6_rests_34 : decode m_X6_rests.2.1 34 = .ok (.iload 4, 2) := by decide +kernel
theorem d_X6_rests_36 : decode m_X6_rests.2.1 36 = .ok (.iconst 4, 1) := by decide +kernel
theorem d_X6_rests_37 : decode m_X6_rests.2.1 37 = .ok (.if_icmp .ge 82, 3) := by decide +kernel
theorem d_X6_rests_40 : decode m_X6_rests.2.1 40 = .ok (.aload_n 0, 1) := by decide +kernel
theorem d_X6_rests_41 : decode m_X6_rests.2.1 41 = .ok (.getfield 43, 3) := by decide +kernel
theorem d_X6_rests_44 : decode m_X6_rests.2.1 44 = .ok (.iconst 2, 1) := by decide +kernel
theorem d_X6_rests_45 : decode m_X6_rests.2.1 45 = .ok (.iload 4, 2) := by decide +kernel
theorem d_X6_rests_47 : decode m_X6_rests.2.1 47 = .ok (.imul, 1) := by decide +kernel
theorem d_X6_rests_48 : decode m_X6_rests.2.1 48 = .ok (.iaload, 1) := by decide +kernel
theorem d_X6_rests_49 : decode m_X6_rests.2.1 49 = .ok (.aload_n 0, 1) := by decide +kernel
theorem d_X6_rests_50 : decode m_X6_rests.2.1 50 = .ok (.getfield 43, 3) := by decide +kernel
theorem d_X6_rests_53 : decode m_X6_rests.2.1 53 = .ok (.iconst 2, 1) := by decide +kernel
theorem d_X6_rests_54 : decode m_X6_rests.2.1 54 = .ok (.iload 4, 2) := by decide +kernel
theorem d_X6_rests_56 : decode m_X6_rests.2.1 56 = .ok (.iconst 1, 1) := by decide +kernel
theorem d_X6_rests_57 : decode m_X6_rests.2.1 57 = .ok (.ixor, 1) := by decide +kernel
theorem d_X6_rests_58 : decode m_X6_rests.2.1 58 = .ok (.imul, 1) := by decide +kernel
theorem d_X6_rests_59 : decode m_X6_rests.2.1 59 = .ok (.iaload, 1) := by decide +kernel
theorem d_X6_rests_60 : decode m_X6_rests.2.1 60 = .ok (.if_icmp .gt 34, 3) := by decide +kernel
theorem d_X6_rests_63 : decode m_X6_rests.2.1 63 = .ok (.aload_n 0, 1) := by decide +kernel
theorem d_X6_rests_64 : decode m_X6_rests.2.1 64 = .ok (.getfield 43, 3) := by decide +kernel
theorem d_X6_rests_67 : decode m_X6_rests.2.1 67 = .ok (.iconst 2, 1) := by decide +kernel
theorem d_X6_rests_68 : decode m_X6_rests.2.1 68 = .ok (.iload 4, 2) := by decide +kernel
theorem d_X6_rests_70 : decode m_X6_rests.2.1 70 = .ok (.imul, 1) := by decide +kernel
theorem d_X6_rests_71 : decode m_X6_rests.2.1 71 = .ok (.iconst 1, 1) := by decide +kernel
theorem d_X6_rests_72 : decode m_X6_rests.2.1 72 = .ok (.iadd, 1) := by decide +kernel
theorem d_X6_rests_73 : decode m_X6_rests.2.1 73 = .ok (.iaload, 1) := by decide +kernel
theorem d_X6_rests_74 : decode m_X6_rests.2.1 74 = .ok (.aload_n 0, 1) := by decide +kernel
theorem d_X6_rests_75 : decode m_X6_rests.2.1 75 = .ok (.getfield 43, 3) := by decide +kernel
theorem d_X6_rests_78 : decode m_X6_rests.2.1 78 = .ok (.iconst 2, 1) := by decide +kernel
theorem d_X6_rests_79 : decode m_X6_rests.2.1 79 = .ok (.iload 4, 2) := by decide +kernel
theorem d_X6_rests_81 : decode m_X6_rests.2.1 81 = .ok (.iconst 2, 1) := by decide +kernel
theorem d_X6_rests_82 : decode m_X6_rests.2.1 82 = .ok (.ixor, 1) := by decide +kernel
theorem d_X6_rests_83 : decode m_X6_rests.2.1 83 = .ok (.imul, 1) := by decide +kernel
theorem d_X6_rests_84 : decode m_X6_rests.2.1 84 = .ok (.iconst 1, 1) := by decide +kernel
theorem d_X6_rests_85 : decode m_X6_rests.2.1 85 = .ok (.iadd, 1) := by decide +kernel
theorem d_X6_rests_86 : decode m_X6_rests.2.1 86 = .ok (.iaload, 1) := by decide +kernel
theorem d_X6_rests_87 : decode m_X6_rests.2.1 87 = .ok (.if_icmp .gt 7, 3) := by decide +kernel
theorem d_X6_rests_90 : decode m_X6_rests.2.1 90 = .ok (.iconst 1, 1) := by decide +kernel
theorem d_X6_rests_91 : decode m_X6_rests.2.1 91 = .ok (.goto 4, 3) := by decide +kernel
theorem d_X6_rests_94 : decode m_X6_rests.2.1 94 = .ok (.iconst 0, 1) := by decide +kernel
theorem d_X6_rests_95 : decode m_X6_rests.2.1 95 = .ok (.istore 5, 2) := by decide +kernel
theorem d_X6_rests_97 : decode m_X6_rests.2.1 97 = .ok (.iload_n 3, 1) := by decide +kernel
theorem d_X6_rests_98 : decode m_X6_rests.2.1 98 = .ok (.iload 5, 2) := by decide +kernel
theorem d_X6_rests_100 : decode m_X6_rests.2.1 100 = .ok (.ifCond .eq 10, 3) := by decide +kernel
theorem d_X6_rests_103 : decode m_X6_rests.2.1 103 = .ok (.iconst 1, 1) := by decide +kernel
theorem d_X6_rests_104 : decode m_X6_rests.2.1 104 = .ok (.iload 4, 2) := by decide +kernel
theorem d_X6_rests_106 : decode m_X6_rests.2.1 106 = .ok (.ishl, 1) := by decide +kernel
theorem d_X6_rests_107 : decode m_X6_rests.2.1 107 = .ok (.goto 4, 3) := by decide +kernel
theorem d_X6_rests_110 : decode m_X6_rests.2.1 110 = .ok (.iconst 0, 1) := by decide +kernel
theorem d_X6_rests_111 : decode m_X6_rests.2.1 111 = .ok (.ior, 1) := by decide +kernel
theorem d_X6_rests_112 : decode m_X6_rests.2.1 112 = .ok (.istore_n 3, 1) := by decide +kernel
theorem d_X6_rests_113 : decode m_X6_rests.2.1 113 = .ok (.iinc 4 1, 3) := by decide +kernel
theorem d_X6_rests_116 : decode m_X6_rests.2.1 116 = .ok (.goto (-82), 3) := by decide +kernel
theorem d_X6_rests_119 : decode m_X6_rests.2.1 119 = .ok (.iload_n 3, 1) := by decide +kernel
theorem d_X6_rests_120 : decode m_X6_rests.2.1 120 = .ok (.ireturn, 1) := by decide +kernel
theorem d_X6_reading_0 : decode m_X6_reading.2.1 0 = .ok (.aload_n 0, 1) := by decide +kernel
theorem d_X6_reading_1 : decode m_X6_reading.2.1 1 = .ok (.getfield 62, 3) := by decide +kernel
theorem d_X6_reading_4 : decode m_X6_reading.2.1 4 = .ok (.ifCond .ne 6, 3) := by decide +kernel
theorem d_X6_reading_7 : decode m_X6_reading.2.1 7 = .ok (.bipush (-3), 2) := by decide +kernel
theorem d_X6_reading_9 : decode m_X6_reading.2.1 9 = .ok (.ireturn, 1) := by decide +kernel
theorem d_X6_reading_10 : decode m_X6_reading.2.1 10 = .ok (.iload_n 1, 1) := by decide +kernel
theorem d_X6_reading_11 : decode m_X6_reading.2.1 11 = .ok (.iconst 0, 1) := by decide +kernel
theorem d_X6_reading_12 : decode m_X6_reading.2.1 12 = .ok (.bipush 60, 2) := by decide +kernel
theorem d_X6_reading_14 : decode m_X6_reading.2.1 14 = .ok (.invokestatic 58, 3) := by decide +kernel
theorem d_X6_reading_17 : decode m_X6_reading.2.1 17 = .ok (.ifCond .eq 14, 3) := by decide +kernel
theorem d_X6_reading_20 : decode m_X6_reading.2.1 20 = .ok (.iload_n 2, 1) := by decide +kernel
theorem d_X6_reading_21 : decode m_X6_reading.2.1 21 = .ok (.iconst 0, 1) := by decide +kernel
theorem d_X6_reading_22 : decode m_X6_reading.2.1 22 = .ok (.sipush 200, 3) := by decide +kernel
theorem d_X6_reading_25 : decode m_X6_reading.2.1 25 = .ok (.invokestatic 58, 3) := by decide +kernel
theorem d_X6_reading_28 : decode m_X6_reading.2.1 28 = .ok (.ifCond .ne 6, 3) := by decide +kernel
theorem d_X6_reading_31 : decode m_X6_reading.2.1 31 = .ok (.bipush (-2), 2) := by decide +kernel
theorem d_X6_reading_33 : decode m_X6_reading.2.1 33 = .ok (.ireturn, 1) := by decide +kernel
theorem d_X6_reading_34 : decode m_X6_reading.2.1 34 = .ok (.aload_n 0, 1) := by decide +kernel
theorem d_X6_reading_35 : decode m_X6_reading.2.1 35 = .ok (.getfield 119, 3) := by decide +kernel
theorem d_X6_reading_38 : decode m_X6_reading.2.1 38 = .ok (.bipush 8, 2) := by decide +kernel
theorem d_X6_reading_40 : decode m_X6_reading.2.1 40 = .ok (.if_icmp .ne 6, 3) := by decide +kernel
theorem d_X6_reading_43 : decode m_X6_reading.2.1 43 = .ok (.bipush (-4), 2) := by decide +kernel
theorem d_X6_reading_45 : decode m_X6_reading.2.1 45 = .ok (.ireturn, 1) := by decide +kernel
theorem d_X6_reading_46 : decode m_X6_reading.2.1 46 = .ok (.aload_n 0, 1) := by decide +kernel
theorem d_X6_reading_47 : decode m_X6_reading.2.1 47 = .ok (.getfield 46, 3) := by decide +kernel
theorem d_X6_reading_50 : decode m_X6_reading.2.1 50 = .ok (.aload_n 0, 1) := by decide +kernel
theorem d_X6_reading_51 : decode m_X6_reading.2.1 51 = .ok (.getfield 119, 3) := by decide +kernel
theorem d_X6_reading_54 : decode m_X6_reading.2.1 54 = .ok (.iload_n 1, 1) := by decide +kernel
theorem d_X6_reading_55 : decode m_X6_reading.2.1 55 = .ok (.iastore, 1) := by decide +kernel
theorem d_X6_reading_56 : decode m_X6_reading.2.1 56 = .ok (.aload_n 0, 1) := by decide +kernel
theorem d_X6_reading_57 : decode m_X6_reading.2.1 57 = .ok (.getfield 49, 3) := by decide +kernel
theorem d_X6_reading_60 : decode m_X6_reading.2.1 60 = .ok (.aload_n 0, 1) := by decide +kernel
theorem d_X6_reading_61 : decode m_X6_reading.2.1 61 = .ok (.getfield 119, 3) := by decide +kernel
theorem d_X6_reading_64 : decode m_X6_reading.2.1 64 = .ok (.iload_n 2, 1) := by decide +kernel
theorem d_X6_reading_65 : decode m_X6_reading.2.1 65 = .ok (.iastore, 1) := by decide +kernel
theorem d_X6_reading_66 : decode m_X6_reading.2.1 66 = .ok (.aload_n 0, 1) := by decide +kernel
theorem d_X6_reading_67 : decode m_X6_reading.2.1 67 = .ok (.dup, 1) := by decide +kernel
theorem d_X6_reading_68 : decode m_X6_reading.2.1 68 = .ok (.getfield 119, 3) := by decide +kernel
theorem d_X6_reading_71 : decode m_X6_reading.2.1 71 = .ok (.iconst 1, 1) := by decide +kernel
theorem d_X6_reading_72 : decode m_X6_reading.2.1 72 = .ok (.iadd, 1) := by decide +kernel
theorem d_X6_reading_73 : decode m_X6_reading.2.1 73 = .ok (.putfield 119, 3) := by decide +kernel
theorem d_X6_reading_76 : decode m_X6_reading.2.1 76 = .ok (.aload_n 0, 1) := by decide +kernel
theorem d_X6_reading_77 : decode m_X6_reading.2.1 77 = .ok (.getfield 119, 3) := by decide +kernel
theorem d_X6_reading_80 : decode m_X6_reading.2.1 80 = .ok (.iconst 1, 1) := by decide +kernel
theorem d_X6_reading_81 : decode m_X6_reading.2.1 81 = .ok (.isub, 1) := by decide +kernel
theorem d_X6_reading_82 : decode m_X6_reading.2.1 82 = .ok (.ireturn, 1) := by decide +kernel
theorem d_X6_back_0 : decode m_X6_back.2.1 0 = .ok (.iload_n 1, 1) := by decide +kernel
theorem d_X6_back_1 : decode m_X6_back.2.1 1 = .ok (.iconst 0, 1) := by decide +kernel
theorem d_X6_back_2 : decode m_X6_back.2.1 2 = .ok (.aload_n 0, 1) := by decide +kernel
theorem d_X6_back_3 : decode m_X6_back.2.1 3 = .ok (.getfield 119, 3) := by decide +kernel
theorem d_X6_back_6 : decode m_X6_back.2.1 6 = .ok (.invokestatic 58, 3) := by decide +kernel
theorem d_X6_back_9 : decode m_X6_back.2.1 9 = .ok (.ifCond .ne 6, 3) := by decide +kernel
theorem d_X6_back_12 : decode m_X6_back.2.1 12 = .ok (.bipush (-2), 2) := by decide +kernel
theorem d_X6_back_14 : decode m_X6_back.2.1 14 = .ok (.ireturn, 1) := by decide +kernel
theorem d_X6_back_15 : decode m_X6_back.2.1 15 = .ok (.aload_n 0, 1) := by decide +kernel
theorem d_X6_back_16 : decode m_X6_back.2.1 16 = .ok (.dup, 1) := by decide +kernel
theorem d_X6_back_17 : decode m_X6_back.2.1 17 = .ok (.getfield 119, 3) := by decide +kernel
theorem d_X6_back_20 : decode m_X6_back.2.1 20 = .ok (.iload_n 1, 1) := by decide +kernel
theorem d_X6_back_21 : decode m_X6_back.2.1 21 = .ok (.isub, 1) := by decide +kernel
theorem d_X6_back_22 : decode m_X6_back.2.1 22 = .ok (.putfield 119, 3) := by decide +kernel
theorem d_X6_back_25 : decode m_X6_back.2.1 25 = .ok (.aload_n 0, 1) := by decide +kernel
theorem d_X6_back_26 : decode m_X6_back.2.1 26 = .ok (.getfield 119, 3) := by decide +kernel
theorem d_X6_back_29 : decode m_X6_back.2.1 29 = .ok (.ireturn, 1) := by decide +kernel
theorem d_X6_areSo_0 : decode m_X6_areSo.2.1 0 = .ok (.iconst 1, 1) := by decide +kernel
theorem d_X6_areSo_1 : decode m_X6_areSo.2.1 1 = .ok (.istore_n 1, 1) := by decide +kernel
theorem d_X6_areSo_2 : decode m_X6_areSo.2.1 2 = .ok (.aload_n 0, 1) := by decide +kernel
theorem d_X6_areSo_3 : decode m_X6_areSo.2.1 3 = .ok (.iconst 0, 1) := by decide +kernel
theorem d_X6_areSo_4 : decode m_X6_areSo.2.1 4 = .ok (.invokevirtual 170, 3) := by decide +kernel
theorem d_X6_areSo_7 : decode m_X6_areSo.2.1 7 = .ok (.iconst 0, 1) := by decide +kernel
theorem d_X6_areSo_8 : decode m_X6_areSo.2.1 8 = .ok (.istore_n 2, 1) := by decide +kernel
theorem d_X6_areSo_9 : decode m_X6_areSo.2.1 9 = .ok (.iload_n 2, 1) := by decide +kernel
theorem d_X6_areSo_10 : decode m_X6_areSo.2.1 10 = .ok (.aload_n 0, 1) := by decide +kernel
theorem d_X6_areSo_11 : decode m_X6_areSo.2.1 11 = .ok (.getfield 119, 3) := by decide +kernel
theorem d_X6_areSo_14 : decode m_X6_areSo.2.1 14 = .ok (.if_icmp .ge 59, 3) := by decide +kernel
theorem d_X6_areSo_17 : decode m_X6_areSo.2.1 17 = .ok (.iload_n 1, 1) := by decide +kernel
theorem d_X6_areSo_18 : decode m_X6_areSo.2.1 18 = .ok (.ifCond .eq 55, 3) := by decide +kernel
theorem d_X6_areSo_21 : decode m_X6_areSo.2.1 21 = .ok (.iconst 0, 1) := by decide +kernel
theorem d_X6_areSo_22 : decode m_X6_areSo.2.1 22 = .ok (.istore_n 3, 1) := by decide +kernel
theorem d_X6_areSo_23 : decode m_X6_areSo.2.1 23 = .ok (.iload_n 3, 1) := by decide +kernel
theorem d_X6_areSo_24 : decode m_X6_areSo.2.1 24 = .ok (.aload_n 0, 1) := by decide +kernel
theorem d_X6_areSo_25 : decode m_X6_areSo.2.1 25 = .ok (.getfield 46, 3) := by decide +kernel
theorem d_X6_areSo_28 : decode m_X6_areSo.2.1 28 = .ok (.iload_n 2, 1) := by decide +kernel
theorem d_X6_areSo_29 : decode m_X6_areSo.2.1 29 = .ok (.iaload, 1) := by decide +kernel
theorem d_X6_areSo_30 : decode m_X6_areSo.2.1 30 = .ok (.if_icmp .ge 13, 3) := by decide +kernel
theorem d_X6_areSo_33 : decode m_X6_areSo.2.1 33 = .ok (.aload_n 0, 1) := by decide +kernel
theorem d_X6_areSo_34 : decode m_X6_areSo.2.1 34 = .ok (.invokevirtual 164, 3) := by decide +kernel
theorem d_X6_areSo_37 : decode m_X6_areSo.2.1 37 = .ok (.iinc 3 1, 3) := by decide +kernel
theorem d_X6_areSo_40 : decode m_X6_areSo.2.1 40 = .ok (.goto (-17), 3) := by decide +kernel
theorem d_X6_areSo_43 : decode m_X6_areSo.2.1 43 = .ok (.aload_n 0, 1) := by decide +kernel
theorem d_X6_areSo_44 : decode m_X6_areSo.2.1 44 = .ok (.invokevirtual 151, 3) := by decide +kernel
theorem d_X6_areSo_47 : decode m_X6_areSo.2.1 47 = .ok (.aload_n 0, 1) := by decide +kernel
theorem d_X6_areSo_48 : decode m_X6_areSo.2.1 48 = .ok (.getfield 49, 3) := by decide +kernel
theorem d_X6_areSo_51 : decode m_X6_areSo.2.1 51 = .ok (.iload_n 2, 1) := by decide +kernel
theorem d_X6_areSo_52 : decode m_X6_areSo.2.1 52 = .ok (.iaload, 1) := by decide +kernel
theorem d_X6_areSo_53 : decode m_X6_areSo.2.1 53 = .ok (.if_icmp .ne 7, 3) := by decide +kernel
theorem d_X6_areSo_56 : decode m_X6_areSo.2.1 56 = .ok (.iconst 1, 1) := by decide +kernel
theorem d_X6_areSo_57 : decode m_X6_areSo.2.1 57 = .ok (.goto 4, 3) := by decide +kernel
theorem d_X6_areSo_60 : decode m_X6_areSo.2.1 60 = .ok (.iconst 0, 1) := by decide +kernel
theorem d_X6_areSo_61 : decode m_X6_areSo.2.1 61 = .ok (.istore_n 1, 1) := by decide +kernel
theorem d_X6_areSo_62 : decode m_X6_areSo.2.1 62 = .ok (.aload_n 0, 1) := by decide +kernel
theorem d_X6_areSo_63 : decode m_X6_areSo.2.1 63 = .ok (.iconst 0, 1) := by decide +kernel
theorem d_X6_areSo_64 : decode m_X6_areSo.2.1 64 = .ok (.invokevirtual 181, 3) := by decide +kernel
theorem d_X6_areSo_67 : decode m_X6_areSo.2.1 67 = .ok (.iinc 2 1, 3) := by decide +kernel
theorem d_X6_areSo_70 : decode m_X6_areSo.2.1 70 = .ok (.goto (-61), 3) := by decide +kernel
theorem d_X6_areSo_73 : decode m_X6_areSo.2.1 73 = .ok (.iload_n 1, 1) := by decide +kernel
theorem d_X6_areSo_74 : decode m_X6_areSo.2.1 74 = .ok (.ireturn, 1) := by decide +kernel
theorem d_X6_kinds_0 : decode m_X6_kinds.2.1 0 = .ok (.aload_n 0, 1) := by decide +kernel
theorem d_X6_kinds_1 : decode m_X6_kinds.2.1 1 = .ok (.iload_n 1, 1) := by decide +kernel
theorem d_X6_kinds_2 : decode m_X6_kinds.2.1 2 = .ok (.invokevirtual 145, 3) := by decide +kernel
theorem d_X6_kinds_5 : decode m_X6_kinds.2.1 5 = .ok (.ifCond .ne 5, 3) := by decide +kernel
theorem d_X6_kinds_8 : decode m_X6_kinds.2.1 8 = .ok (.iconst (-1), 1) := by decide +kernel
theorem d_X6_kinds_9 : decode m_X6_kinds.2.1 9 = .ok (.ireturn, 1) := by decide +kernel
theorem d_X6_kinds_10 : decode m_X6_kinds.2.1 10 = .ok (.aload_n 0, 1) := by decide +kernel
theorem d_X6_kinds_11 : decode m_X6_kinds.2.1 11 = .ok (.getfield 19, 3) := by decide +kernel
theorem d_X6_kinds_14 : decode m_X6_kinds.2.1 14 = .ok (.iload_n 1, 1) := by decide +kernel
theorem d_X6_kinds_15 : decode m_X6_kinds.2.1 15 = .ok (.iaload, 1) := by decide +kernel
theorem d_X6_kinds_16 : decode m_X6_kinds.2.1 16 = .ok (.istore_n 2, 1) := by decide +kernel
theorem d_X6_kinds_17 : decode m_X6_kinds.2.1 17 = .ok (.iconst 0, 1) := by decide +kernel
theorem d_X6_kinds_18 : decode m_X6_kinds.2.1 18 = .ok (.istore_n 3, 1) := by decide +kernel
theorem d_X6_kinds_19 : decode m_X6_kinds.2.1 19 = .ok (.iconst 0, 1) := by decide +kernel
theorem d_X6_kinds_20 : decode m_X6_kinds.2.1 20 = .ok (.istore 4, 2) := by decide +kernel
theorem d_X6_kinds_22 : decode m_X6_kinds.2.1 22 = .ok (.iload 4, 2) := by decide +kernel
theorem d_X6_kinds_24 : decode m_X6_kinds.2.1 24 = .ok (.iconst 3, 1) := by decide +kernel
theorem d_X6_kinds_25 : decode m_X6_kinds.2.1 25 = .ok (.if_icmp .ge 35, 3) := by decide +kernel
theorem d_X6_kinds_28 : decode m_X6_kinds.2.1 28 = .ok (.aload_n 0, 1) := by decide +kernel
theorem d_X6_kinds_29 : decode m_X6_kinds.2.1 29 = .ok (.getfield 19, 3) := by decide +kernel
theorem d_X6_kinds_32 : decode m_X6_kinds.2.1 32 = .ok (.iload_n 1, 1) := by decide +kernel
theorem d_X6_kinds_33 : decode m_X6_kinds.2.1 33 = .ok (.iload 4, 2) := by decide +kernel
theorem d_X6_kinds_35 : decode m_X6_kinds.2.1 35 = .ok (.iastore, 1) := by decide +kernel
theorem d_X6_kinds_36 : decode m_X6_kinds.2.1 36 = .ok (.iload_n 3, 1) := by decide +kernel
theorem d_X6_kinds_37 : decode m_X6_kinds.2.1 37 = .ok (.aload_n 0, 1) := by decide +kernel
theorem d_X6_kinds_38 : decode m_X6_kinds.2.1 38 = .ok (.invokevirtual 197, 3) := by decide +kernel
theorem d_X6_kinds_41 : decode m_X6_kinds.2.1 41 = .ok (.ifCond .eq 10, 3) := by decide +kernel
theorem d_X6_kinds_44 : decode m_X6_kinds.2.1 44 = .ok (.iconst 1, 1) := by decide +kernel
theorem d_X6_kinds_45 : decode m_X6_kinds.2.1 45 = .ok (.iload 4, 2) := by decide +kernel
theorem d_X6_kinds_47 : decode m_X6_kinds.2.1 47 = .ok (.ishl, 1) := by decide +kernel
theorem d_X6_kinds_48 : decode m_X6_kinds.2.1 48 = .ok (.goto 4, 3) := by decide +kernel
theorem d_X6_kinds_51 : decode m_X6_kinds.2.1 51 = .ok (.iconst 0, 1) := by decide +kernel
theorem d_X6_kinds_52 : decode m_X6_kinds.2.1 52 = .ok (.ior, 1) := by decide +kernel
theorem d_X6_kinds_53 : decode m_X6_kinds.2.1 53 = .ok (.istore_n 3, 1) := by decide +kernel
theorem d_X6_kinds_54 : decode m_X6_kinds.2.1 54 = .ok (.iinc 4 1, 3) := by decide +kernel
theorem d_X6_kinds_57 : decode m_X6_kinds.2.1 57 = .ok (.goto (-35), 3) := by decide +kernel
theorem d_X6_kinds_60 : decode m_X6_kinds.2.1 60 = .ok (.aload_n 0, 1) := by decide +kernel
theorem d_X6_kinds_61 : decode m_X6_kinds.2.1 61 = .ok (.getfield 19, 3) := by decide +kernel
theorem d_X6_kinds_64 : decode m_X6_kinds.2.1 64 = .ok (.iload_n 1, 1) := by decide +kernel
theorem d_X6_kinds_65 : decode m_X6_kinds.2.1 65 = .ok (.iload_n 2, 1) := by decide +kernel
theorem d_X6_kinds_66 : decode m_X6_kinds.2.1 66 = .ok (.iastore, 1) := by decide +kernel
theorem d_X6_kinds_67 : decode m_X6_kinds.2.1 67 = .ok (.iload_n 3, 1) := by decide +kernel
theorem d_X6_kinds_68 : decode m_X6_kinds.2.1 68 = .ok (.ireturn, 1) := by decide +kernel
theorem d_X6_wrongs_0 : decode m_X6_wrongs.2.1 0 = .ok (.aload_n 0, 1) := by decide +kernel
theorem d_X6_wrongs_1 : decode m_X6_wrongs.2.1 1 = .ok (.iload_n 1, 1) := by decide +kernel
theorem d_X6_wrongs_2 : decode m_X6_wrongs.2.1 2 = .ok (.invokevirtual 145, 3) := by decide +kernel
theorem d_X6_wrongs_5 : decode m_X6_wrongs.2.1 5 = .ok (.ifCond .ne 5, 3) := by decide +kernel
theorem d_X6_wrongs_8 : decode m_X6_wrongs.2.1 8 = .ok (.iconst (-1), 1) := by decide +kernel
theorem d_X6_wrongs_9 : decode m_X6_wrongs.2.1 9 = .ok (.ireturn, 1) := by decide +kernel
theorem d_X6_wrongs_10 : decode m_X6_wrongs.2.1 10 = .ok (.aload_n 0, 1) := by decide +kernel
theorem d_X6_wrongs_11 : decode m_X6_wrongs.2.1 11 = .ok (.getfield 22, 3) := by decide +kernel
theorem d_X6_wrongs_14 : decode m_X6_wrongs.2.1 14 = .ok (.iload_n 1, 1) := by decide +kernel
theorem d_X6_wrongs_15 : decode m_X6_wrongs.2.1 15 = .ok (.iaload, 1) := by decide +kernel
theorem d_X6_wrongs_16 : decode m_X6_wrongs.2.1 16 = .ok (.istore_n 2, 1) := by decide +kernel
theorem d_X6_wrongs_17 : decode m_X6_wrongs.2.1 17 = .ok (.iconst 0, 1) := by decide +kernel
theorem d_X6_wrongs_18 : decode m_X6_wrongs.2.1 18 = .ok (.istore_n 3, 1) := by decide +kernel
theorem d_X6_wrongs_19 : decode m_X6_wrongs.2.1 19 = .ok (.iconst 0, 1) := by decide +kernel
theorem d_X6_wrongs_20 : decode m_X6_wrongs.2.1 20 = .ok (.istore 4, 2) := by decide +kernel
theorem d_X6_wrongs_22 : decode m_X6_wrongs.2.1 22 = .ok (.iload 4, 2) := by decide +kernel
theorem d_X6_wrongs_24 : decode m_X6_wrongs.2.1 24 = .ok (.bipush 9, 2) := by decide +kernel
theorem d_X6_wrongs_26 : decode m_X6_wrongs.2.1 26 = .ok (.if_icmp .gt 35, 3) := by decide +kernel
theorem d_X6_wrongs_29 : decode m_X6_wrongs.2.1 29 = .ok (.aload_n 0, 1) := by decide +kernel
theorem d_X6_wrongs_30 : decode m_X6_wrongs.2.1 30 = .ok (.getfield 22, 3) := by decide +kernel
theorem d_X6_wrongs_33 : decode m_X6_wrongs.2.1 33 = .ok (.iload_n 1, 1) := by decide +kernel
theorem d_X6_wrongs_34 : decode m_X6_wrongs.2.1 34 = .ok (.iload 4, 2) := by decide +kernel
theorem d_X6_wrongs_36 : decode m_X6_wrongs.2.1 36 = .ok (.iastore, 1) := by decide +kernel
theorem d_X6_wrongs_37 : decode m_X6_wrongs.2.1 37 = .ok (.iload_n 3, 1) := by decide +kernel
theorem d_X6_wrongs_38 : decode m_X6_wrongs.2.1 38 = .ok (.aload_n 0, 1) := by decide +kernel
theorem d_X6_wrongs_39 : decode m_X6_wrongs.2.1 39 = .ok (.invokevirtual 197, 3) := by decide +kernel
theorem d_X6_wrongs_42 : decode m_X6_wrongs.2.1 42 = .ok (.ifCond .eq 10, 3) := by decide +kernel
theorem d_X6_wrongs_45 : decode m_X6_wrongs.2.1 45 = .ok (.iconst 1, 1) := by decide +kernel
theorem d_X6_wrongs_46 : decode m_X6_wrongs.2.1 46 = .ok (.iload 4, 2) := by decide +kernel
theorem d_X6_wrongs_48 : decode m_X6_wrongs.2.1 48 = .ok (.ishl, 1) := by decide +kernel
theorem d_X6_wrongs_49 : decode m_X6_wrongs.2.1 49 = .ok (.goto 4, 3) := by decide +kernel
theorem d_X6_wrongs_52 : decode m_X6_wrongs.2.1 52 = .ok (.iconst 0, 1) := by decide +kernel
theorem d_X6_wrongs_53 : decode m_X6_wrongs.2.1 53 = .ok (.ior, 1) := by decide +kernel
theorem d_X6_wrongs_54 : decode m_X6_wrongs.2.1 54 = .ok (.istore_n 3, 1) := by decide +kernel
theorem d_X6_wrongs_55 : decode m_X6_wrongs.2.1 55 = .ok (.iinc 4 1, 3) := by decide +kernel
theorem d_X6_wrongs_58 : decode m_X6_wrongs.2.1 58 = .ok (.goto (-36), 3) := by decide +kernel
theorem d_X6_wrongs_61 : decode m_X6_wrongs.2.1 61 = .ok (.aload_n 0, 1) := by decide +kernel
theorem d_X6_wrongs_62 : decode m_X6_wrongs.2.1 62 = .ok (.getfield 22, 3) := by decide +kernel
theorem d_X6_wrongs_65 : decode m_X6_wrongs.2.1 65 = .ok (.iload_n 1, 1) := by decide +kernel
theorem d_X6_wrongs_66 : decode m_X6_wrongs.2.1 66 = .ok (.iload_n 2, 1) := by decide +kernel
theorem d_X6_wrongs_67 : decode m_X6_wrongs.2.1 67 = .ok (.iastore, 1) := by decide +kernel
theorem d_X6_wrongs_68 : decode m_X6_wrongs.2.1 68 = .ok (.iload_n 3, 1) := by decide +kernel
theorem d_X6_wrongs_69 : decode m_X6_wrongs.2.1 69 = .ok (.ireturn, 1) := by decide +kernel
theorem d_X6_steps_0 : decode m_X6_steps.2.1 0 = .ok (.aload_n 0, 1) := by decide +kernel
theorem d_X6_steps_1 : decode m_X6_steps.2.1 1 = .ok (.getfield 62, 3) := by decide +kernel
theorem d_X6_steps_4 : decode m_X6_steps.2.1 4 = .ok (.ifCond .ne 6, 3) := by decide +kernel
theorem d_X6_steps_7 : decode m_X6_steps.2.1 7 = .ok (.bipush (-3), 2) := by decide +kernel
theorem d_X6_steps_9 : decode m_X6_steps.2.1 9 = .ok (.ireturn, 1) := by decide +kernel
theorem d_X6_steps_10 : decode m_X6_steps.2.1 10 = .ok (.aload_n 0, 1) := by decide +kernel
theorem d_X6_steps_11 : decode m_X6_steps.2.1 11 = .ok (.getfield 101, 3) := by decide +kernel
theorem d_X6_steps_14 : decode m_X6_steps.2.1 14 = .ok (.istore_n 1, 1) := by decide +kernel
theorem d_X6_steps_15 : decode m_X6_steps.2.1 15 = .ok (.iconst 0, 1) := by decide +kernel
theorem d_X6_steps_16 : decode m_X6_steps.2.1 16 = .ok (.istore_n 2, 1) := by decide +kernel
theorem d_X6_steps_17 : decode m_X6_steps.2.1 17 = .ok (.iconst 1, 1) := by decide +kernel
theorem d_X6_steps_18 : decode m_X6_steps.2.1 18 = .ok (.istore_n 3, 1) := by decide +kernel
theorem d_X6_steps_19 : decode m_X6_steps.2.1 19 = .ok (.iload_n 3, 1) := by decide +kernel
theorem d_X6_steps_20 : decode m_X6_steps.2.1 20 = .ok (.iconst 4, 1) := by decide +kernel
theorem d_X6_steps_21 : decode m_X6_steps.2.1 21 = .ok (.if_icmp .gt 31, 3) := by decide +kernel
theorem d_X6_steps_24 : decode m_X6_steps.2.1 24 = .ok (.aload_n 0, 1) := by decide +kernel
theorem d_X6_steps_25 : decode m_X6_steps.2.1 25 = .ok (.iload_n 3, 1) := by decide +kernel
theorem d_X6_steps_26 : decode m_X6_steps.2.1 26 = .ok (.putfield 101, 3) := by decide +kernel
theorem d_X6_steps_29 : decode m_X6_steps.2.1 29 = .ok (.iload_n 2, 1) := by decide +kernel
theorem d_X6_steps_30 : decode m_X6_steps.2.1 30 = .ok (.aload_n 0, 1) := by decide +kernel
theorem d_X6_steps_31 : decode m_X6_steps.2.1 31 = .ok (.invokevirtual 197, 3) := by decide +kernel
theorem d_X6_steps_34 : decode m_X6_steps.2.1 34 = .ok (.ifCond .eq 9, 3) := by decide +kernel
theorem d_X6_steps_37 : decode m_X6_steps.2.1 37 = .ok (.iconst 1, 1) := by decide +kernel
theorem d_X6_steps_38 : decode m_X6_steps.2.1 38 = .ok (.iload_n 3, 1) := by decide +kernel
theorem d_X6_steps_39 : decode m_X6_steps.2.1 39 = .ok (.ishl, 1) := by decide +kernel
theorem d_X6_steps_40 : decode m_X6_steps.2.1 40 = .ok (.goto 4, 3) := by decide +kernel
theorem d_X6_steps_43 : decode m_X6_steps.2.1 43 = .ok (.iconst 0, 1) := by decide +kernel
theorem d_X6_steps_44 : decode m_X6_steps.2.1 44 = .ok (.ior, 1) := by decide +kernel
theorem d_X6_steps_45 : decode m_X6_steps.2.1 45 = .ok (.istore_n 2, 1) := by decide +kernel
theorem d_X6_steps_46 : decode m_X6_steps.2.1 46 = .ok (.iinc 3 1, 3) := by decide +kernel
theorem d_X6_steps_49 : decode m_X6_steps.2.1 49 = .ok (.goto (-30), 3) := by decide +kernel
theorem d_X6_steps_52 : decode m_X6_steps.2.1 52 = .ok (.aload_n 0, 1) := by decide +kernel
theorem d_X6_steps_53 : decode m_X6_steps.2.1 53 = .ok (.iload_n 1, 1) := by decide +kernel
theorem d_X6_steps_54 : decode m_X6_steps.2.1 54 = .ok (.putfield 101, 3) := by decide +kernel
theorem d_X6_steps_57 : decode m_X6_steps.2.1 57 = .ok (.iload_n 2, 1) := by decide +kernel
theorem d_X6_steps_58 : decode m_X6_steps.2.1 58 = .ok (.ireturn, 1) := by decide +kernel
theorem d_X6_inLeastTerms_0 : decode m_X6_inLeastTerms.2.1 0 = .ok (.lload_n 0, 1) := by decide +kernel
theorem d_X6_inLeastTerms_1 : decode m_X6_inLeastTerms.2.1 1 = .ok (.lstore 5, 2) := by decide +kernel
theorem d_X6_inLeastTerms_3 : decode m_X6_inLeastTerms.2.1 3 = .ok (.lload_n 2, 1) := by decide +kernel
theorem d_X6_inLeastTerms_4 : decode m_X6_inLeastTerms.2.1 4 = .ok (.lstore 7, 2) := by decide +kernel
theorem d_X6_inLeastTerms_6 : decode m_X6_inLeastTerms.2.1 6 = .ok (.lload 7, 2) := by decide +kernel
theorem d_X6_inLeastTerms_8 : decode m_X6_inLeastTerms.2.1 8 = .ok (.lconst 0, 1) := by decide +kernel
theorem d_X6_inLeastTerms_9 : decode m_X6_inLeastTerms.2.1 9 = .ok (.lcmp, 1) := by decide +kernel
theorem d_X6_inLeastTerms_10 : decode m_X6_inLeastTerms.2.1 10 = .ok (.ifCond .eq 21, 3) := by decide +kernel
theorem d_X6_inLeastTerms_13 : decode m_X6_inLeastTerms.2.1 13 = .ok (.lload 5, 2) := by decide +kernel
theorem d_X6_inLeastTerms_15 : decode m_X6_inLeastTerms.2.1 15 = .ok (.lload 7, 2) := by decide +kernel
theorem d_X6_inLeastTerms_17 : decode m_X6_inLeastTerms.2.1 17 = .ok (.lrem, 1) := by decide +kernel
theorem d_X6_inLeastTerms_18 : decode m_X6_inLeastTerms.2.1 18 = .ok (.lstore 9, 2) := by decide +kernel
theorem d_X6_inLeastTerms_20 : decode m_X6_inLeastTerms.2.1 20 = .ok (.lload 7, 2) := by decide +kernel
theorem d_X6_inLeastTerms_22 : decode m_X6_inLeastTerms.2.1 22 = .ok (.lstore 5, 2) := by decide +kernel
theorem d_X6_inLeastTerms_24 : decode m_X6_inLeastTerms.2.1 24 = .ok (.lload 9, 2) := by decide +kernel
theorem d_X6_inLeastTerms_26 : decode m_X6_inLeastTerms.2.1 26 = .ok (.lstore 7, 2) := by decide +kernel
theorem d_X6_inLeastTerms_28 : decode m_X6_inLeastTerms.2.1 28 = .ok (.goto (-22), 3) := by decide +kernel
theorem d_X6_inLeastTerms_31 : decode m_X6_inLeastTerms.2.1 31 = .ok (.iload 4, 2) := by decide +kernel
theorem d_X6_inLeastTerms_33 : decode m_X6_inLeastTerms.2.1 33 = .ok (.ifCond .ne 10, 3) := by decide +kernel
theorem d_X6_inLeastTerms_36 : decode m_X6_inLeastTerms.2.1 36 = .ok (.lload_n 0, 1) := by decide +kernel
theorem d_X6_inLeastTerms_37 : decode m_X6_inLeastTerms.2.1 37 = .ok (.lload 5, 2) := by decide +kernel
theorem d_X6_inLeastTerms_39 : decode m_X6_inLeastTerms.2.1 39 = .ok (.ldiv, 1) := by decide +kernel
theorem d_X6_inLeastTerms_40 : decode m_X6_inLeastTerms.2.1 40 = .ok (.goto 7, 3) := by decide +kernel
theorem d_X6_inLeastTerms_43 : decode m_X6_inLeastTerms.2.1 43 = .ok (.lload_n 2, 1) := by decide +kernel
theorem d_X6_inLeastTerms_44 : decode m_X6_inLeastTerms.2.1 44 = .ok (.lload 5, 2) := by decide +kernel
theorem d_X6_inLeastTerms_46 : decode m_X6_inLeastTerms.2.1 46 = .ok (.ldiv, 1) := by decide +kernel
theorem d_X6_inLeastTerms_47 : decode m_X6_inLeastTerms.2.1 47 = .ok (.lreturn, 1) := by decide +kernel
theorem d_X6_odds_0 : decode m_X6_odds.2.1 0 = .ok (.iload_n 1, 1) := by decide +kernel
theorem d_X6_odds_1 : decode m_X6_odds.2.1 1 = .ok (.iconst 0, 1) := by decide +kernel
theorem d_X6_odds_2 : decode m_X6_odds.2.1 2 = .ok (.bipush 90, 2) := by decide +kernel
theorem d_X6_odds_4 : decode m_X6_odds.2.1 4 = .ok (.invokestatic 58, 3) := by decide +kernel
theorem d_X6_odds_7 : decode m_X6_odds.2.1 7 = .ok (.ifCond .eq 19, 3) := by decide +kernel
theorem d_X6_odds_10 : decode m_X6_odds.2.1 10 = .ok (.iload_n 2, 1) := by decide +kernel
theorem d_X6_odds_11 : decode m_X6_odds.2.1 11 = .ok (.iconst 0, 1) := by decide +kernel
theorem d_X6_odds_12 : decode m_X6_odds.2.1 12 = .ok (.iconst 1, 1) := by decide +kernel
theorem d_X6_odds_13 : decode m_X6_odds.2.1 13 = .ok (.invokestatic 58, 3) := by decide +kernel
theorem d_X6_odds_16 : decode m_X6_odds.2.1 16 = .ok (.ifCond .eq 10, 3) := by decide +kernel
theorem d_X6_odds_19 : decode m_X6_odds.2.1 19 = .ok (.aload_n 0, 1) := by decide +kernel
theorem d_X6_odds_20 : decode m_X6_odds.2.1 20 = .ok (.getfield 62, 3) := by decide +kernel
theorem d_X6_odds_23 : decode m_X6_odds.2.1 23 = .ok (.ifCond .ne 7, 3) := by decide +kernel
theorem d_X6_odds_26 : decode m_X6_odds.2.1 26 = .ok (.ldc2_w 56, 3) := by decide +kernel
theorem d_X6_odds_29 : decode m_X6_odds.2.1 29 = .ok (.lreturn, 1) := by decide +kernel
theorem d_X6_odds_30 : decode m_X6_odds.2.1 30 = .ok (.aload_n 0, 1) := by decide +kernel
theorem d_X6_odds_31 : decode m_X6_odds.2.1 31 = .ok (.invokevirtual 158, 3) := by decide +kernel
theorem d_X6_odds_34 : decode m_X6_odds.2.1 34 = .ok (.istore_n 3, 1) := by decide +kernel
theorem d_X6_odds_35 : decode m_X6_odds.2.1 35 = .ok (.iconst 0, 1) := by decide +kernel
theorem d_X6_odds_36 : decode m_X6_odds.2.1 36 = .ok (.istore 4, 2) := by decide +kernel
theorem d_X6_odds_38 : decode m_X6_odds.2.1 38 = .ok (.iconst 0, 1) := by decide +kernel
theorem d_X6_odds_39 : decode m_X6_odds.2.1 39 = .ok (.istore 5, 2) := by decide +kernel
theorem d_X6_odds_41 : decode m_X6_odds.2.1 41 = .ok (.iconst 0, 1) := by decide +kernel
theorem d_X6_odds_42 : decode m_X6_odds.2.1 42 = .ok (.istore 6, 2) := by decide +kernel
theorem d_X6_odds_44 : decode m_X6_odds.2.1 44 = .ok (.iload 6, 2) := by decide +kernel
theorem d_X6_odds_46 : decode m_X6_odds.2.1 46 = .ok (.iconst 1, 1) := by decide +kernel
theorem d_X6_odds_47 : decode m_X6_odds.2.1 47 = .ok (.aload_n 0, 1) := by decide +kernel
theorem d_X6_odds_48 : decode m_X6_odds.2.1 48 = .ok (.getfield 62, 3) := by decide +kernel
theorem d_X6_odds_51 : decode m_X6_odds.2.1 51 = .ok (.ishl, 1) := by decide +kernel
theorem d_X6_odds_52 : decode m_X6_odds.2.1 52 = .ok (.if_icmp .ge 41, 3) := by decide +kernel
theorem d_X6_odds_55 : decode m_X6_odds.2.1 55 = .ok (.iload 6, 2) := by decide +kernel
theorem d_X6_odds_57 : decode m_X6_odds.2.1 57 = .ok (.iload_n 3, 1) := by decide +kernel
theorem d_X6_odds_58 : decode m_X6_odds.2.1 58 = .ok (.iconst (-1), 1) := by decide +kernel
theorem d_X6_odds_59 : decode m_X6_odds.2.1 59 = .ok (.ixor, 1) := by decide +kernel
theorem d_X6_odds_60 : decode m_X6_odds.2.1 60 = .ok (.iand, 1) := by decide +kernel
theorem d_X6_odds_61 : decode m_X6_odds.2.1 61 = .ok (.ifCond .ne 26, 3) := by decide +kernel
theorem d_X6_odds_64 : decode m_X6_odds.2.1 64 = .ok (.iinc 4 1, 3) := by decide +kernel
theorem d_X6_odds_67 : decode m_X6_odds.2.1 67 = .ok (.iload 5, 2) := by decide +kernel
theorem d_X6_odds_69 : decode m_X6_odds.2.1 69 = .ok (.aload_n 0, 1) := by decide +kernel
theorem d_X6_odds_70 : decode m_X6_odds.2.1 70 = .ok (.iload 6, 2) := by decide +kernel
theorem d_X6_odds_72 : decode m_X6_odds.2.1 72 = .ok (.invokevirtual 190, 3) := by decide +kernel
theorem d_X6_odds_75 : decode m_X6_odds.2.1 75 = .ok (.iload_n 1, 1) := by decide +kernel
theorem d_X6_odds_76 : decode m_X6_odds.2.1 76 = .ok (.if_icmp .lt 7, 3) := by decide +kernel
theorem d_X6_odds_79 : decode m_X6_odds.2.1 79 = .ok (.iconst 1, 1) := by decide +kernel
theorem d_X6_odds_80 : decode m_X6_odds.2.1 80 = .ok (.goto 4, 3) := by decide +kernel
theorem d_X6_odds_83 : decode m_X6_odds.2.1 83 = .ok (.iconst 0, 1) := by decide +kernel
theorem d_X6_odds_84 : decode m_X6_odds.2.1 84 = .ok (.iadd, 1) := by decide +kernel
theorem d_X6_odds_85 : decode m_X6_odds.2.1 85 = .ok (.istore 5, 2) := by decide +kernel
theorem d_X6_odds_87 : decode m_X6_odds.2.1 87 = .ok (.iinc 6 1, 3) := by decide +kernel
theorem d_X6_odds_90 : decode m_X6_odds.2.1 90 = .ok (.goto (-46), 3) := by decide +kernel
theorem d_X6_odds_93 : decode m_X6_odds.2.1 93 = .ok (.iload 5, 2) := by decide +kernel
theorem d_X6_odds_95 : decode m_X6_odds.2.1 95 = .ok (.i2l, 1) := by decide +kernel
theorem d_X6_odds_96 : decode m_X6_odds.2.1 96 = .ok (.iload 4, 2) := by decide +kernel
theorem d_X6_odds_98 : decode m_X6_odds.2.1 98 = .ok (.i2l, 1) := by decide +kernel
theorem d_X6_odds_99 : decode m_X6_odds.2.1 99 = .ok (.iload_n 2, 1) := by decide +kernel
theorem d_X6_odds_100 : decode m_X6_odds.2.1 100 = .ok (.invokestatic 201, 3) := by decide +kernel
theorem d_X6_odds_103 : decode m_X6_odds.2.1 103 = .ok (.lreturn, 1) := by decide +kernel
theorem d_X6_sheet_0 : decode m_X6_sheet.2.1 0 = .ok (.aload_n 0, 1) := by decide +kernel
theorem d_X6_sheet_1 : decode m_X6_sheet.2.1 1 = .ok (.iconst 0, 1) := by decide +kernel
theorem d_X6_sheet_2 : decode m_X6_sheet.2.1 2 = .ok (.putfield 52, 3) := by decide +kernel
theorem d_X6_sheet_5 : decode m_X6_sheet.2.1 5 = .ok (.iload_n 1, 1) := by decide +kernel
theorem d_X6_sheet_6 : decode m_X6_sheet.2.1 6 = .ok (.invokestatic 71, 3) := by decide +kernel
theorem d_X6_sheet_9 : decode m_X6_sheet.2.1 9 = .ok (.ifCond .ne 5, 3) := by decide +kernel
theorem d_X6_sheet_12 : decode m_X6_sheet.2.1 12 = .ok (.iconst (-1), 1) := by decide +kernel
theorem d_X6_sheet_13 : decode m_X6_sheet.2.1 13 = .ok (.ireturn, 1) := by decide +kernel
theorem d_X6_sheet_14 : decode m_X6_sheet.2.1 14 = .ok (.iload_n 2, 1) := by decide +kernel
theorem d_X6_sheet_15 : decode m_X6_sheet.2.1 15 = .ok (.invokestatic 75, 3) := by decide +kernel
theorem d_X6_sheet_18 : decode m_X6_sheet.2.1 18 = .ok (.ifCond .eq 9, 3) := by decide +kernel
theorem d_X6_sheet_21 : decode m_X6_sheet.2.1 21 = .ok (.iload_n 3, 1) := by decide +kernel
theorem d_X6_sheet_22 : decode m_X6_sheet.2.1 22 = .ok (.bipush 60, 2) := by decide +kernel
theorem d_X6_sheet_24 : decode m_X6_sheet.2.1 24 = .ok (.if_icmp .le 6, 3) := by decide +kernel
theorem d_X6_sheet_27 : decode m_X6_sheet.2.1 27 = .ok (.bipush (-2), 2) := by decide +kernel
theorem d_X6_sheet_29 : decode m_X6_sheet.2.1 29 = .ok (.ireturn, 1) := by decide +kernel
theorem d_X6_sheet_30 : decode m_X6_sheet.2.1 30 = .ok (.iload_n 3, 1) := by decide +kernel
theorem d_X6_sheet_31 : decode m_X6_sheet.2.1 31 = .ok (.ifCond .ge 9, 3) := by decide +kernel
theorem d_X6_sheet_34 : decode m_X6_sheet.2.1 34 = .ok (.aload_n 0, 1) := by decide +kernel
theorem d_X6_sheet_35 : decode m_X6_sheet.2.1 35 = .ok (.iconst 4, 1) := by decide +kernel
theorem d_X6_sheet_36 : decode m_X6_sheet.2.1 36 = .ok (.invokevirtual 82, 3) := by decide +kernel
theorem d_X6_sheet_39 : decode m_X6_sheet.2.1 39 = .ok (.ireturn, 1) := by decide +kernel
theorem d_X6_sheet_40 : decode m_X6_sheet.2.1 40 = .ok (.aload_n 0, 1) := by decide +kernel
theorem d_X6_sheet_41 : decode m_X6_sheet.2.1 41 = .ok (.getfield 9, 3) := by decide +kernel
theorem d_X6_sheet_44 : decode m_X6_sheet.2.1 44 = .ok (.iload_n 1, 1) := by decide +kernel
theorem d_X6_sheet_45 : decode m_X6_sheet.2.1 45 = .ok (.iload_n 2, 1) := by decide +kernel
theorem d_X6_sheet_46 : decode m_X6_sheet.2.1 46 = .ok (.iastore, 1) := by decide +kernel
theorem d_X6_sheet_47 : decode m_X6_sheet.2.1 47 = .ok (.aload_n 0, 1) := by decide +kernel
theorem d_X6_sheet_48 : decode m_X6_sheet.2.1 48 = .ok (.getfield 13, 3) := by decide +kernel
theorem d_X6_sheet_51 : decode m_X6_sheet.2.1 51 = .ok (.iload_n 1, 1) := by decide +kernel
theorem d_X6_sheet_52 : decode m_X6_sheet.2.1 52 = .ok (.iload_n 3, 1) := by decide +kernel
theorem d_X6_sheet_53 : decode m_X6_sheet.2.1 53 = .ok (.iastore, 1) := by decide +kernel
theorem d_X6_sheet_54 : decode m_X6_sheet.2.1 54 = .ok (.iconst 0, 1) := by decide +kernel
theorem d_X6_sheet_55 : decode m_X6_sheet.2.1 55 = .ok (.istore 4, 2) := by decide +kernel
theorem d_X6_sheet_57 : decode m_X6_sheet.2.1 57 = .ok (.iload 4, 2) := by decide +kernel
theorem d_X6_sheet_59 : decode m_X6_sheet.2.1 59 = .ok (.bipush 60, 2) := by decide +kernel
theorem d_X6_sheet_61 : decode m_X6_sheet.2.1 61 = .ok (.if_icmp .ge 22, 3) := by decide +kernel
theorem d_X6_sheet_64 : decode m_X6_sheet.2.1 64 = .ok (.aload_n 0, 1) := by decide +kernel
theorem d_X6_sheet_65 : decode m_X6_sheet.2.1 65 = .ok (.getfield 16, 3) := by decide +kernel
theorem d_X6_sheet_68 : decode m_X6_sheet.2.1 68 = .ok (.bipush 60, 2) := by decide +kernel
theorem d_X6_sheet_70 : decode m_X6_sheet.2.1 70 = .ok (.iload_n 1, 1) := by decide +kernel
theorem d_X6_sheet_71 : decode m_X6_sheet.2.1 71 = .ok (.imul, 1) := by decide +kernel
theorem d_X6_sheet_72 : decode m_X6_sheet.2.1 72 = .ok (.iload 4, 2) := by decide +kernel
theorem d_X6_sheet_74 : decode m_X6_sheet.2.1 74 = .ok (.iadd, 1) := by decide +kernel
theorem d_X6_sheet_75 : decode m_X6_sheet.2.1 75 = .ok (.iconst 0, 1) := by decide +kernel
theorem d_X6_sheet_76 : decode m_X6_sheet.2.1 76 = .ok (.iastore, 1) := by decide +kernel
theorem d_X6_sheet_77 : decode m_X6_sheet.2.1 77 = .ok (.iinc 4 1, 3) := by decide +kernel
theorem d_X6_sheet_80 : decode m_X6_sheet.2.1 80 = .ok (.goto (-23), 3) := by decide +kernel
theorem d_X6_sheet_83 : decode m_X6_sheet.2.1 83 = .ok (.iconst 1, 1) := by decide +kernel
theorem d_X6_sheet_84 : decode m_X6_sheet.2.1 84 = .ok (.ireturn, 1) := by decide +kernel
theorem d_X6_lose_0 : decode m_X6_lose.2.1 0 = .ok (.iload_n 1, 1) := by decide +kernel
theorem d_X6_lose_1 : decode m_X6_lose.2.1 1 = .ok (.invokestatic 71, 3) := by decide +kernel
theorem d_X6_lose_4 : decode m_X6_lose.2.1 4 = .ok (.ifCond .ne 5, 3) := by decide +kernel
theorem d_X6_lose_7 : decode m_X6_lose.2.1 7 = .ok (.iconst (-1), 1) := by decide +kernel
theorem d_X6_lose_8 : decode m_X6_lose.2.1 8 = .ok (.ireturn, 1) := by decide +kernel
theorem d_X6_lose_9 : decode m_X6_lose.2.1 9 = .ok (.aload_n 0, 1) := by decide +kernel
theorem d_X6_lose_10 : decode m_X6_lose.2.1 10 = .ok (.getfield 9, 3) := by decide +kernel
theorem d_X6_lose_13 : decode m_X6_lose.2.1 13 = .ok (.iload_n 1, 1) := by decide +kernel
theorem d_X6_lose_14 : decode m_X6_lose.2.1 14 = .ok (.iaload, 1) := by decide +kernel
theorem d_X6_lose_15 : decode m_X6_lose.2.1 15 = .ok (.bipush (-9), 2) := by decide +kernel
theorem d_X6_lose_17 : decode m_X6_lose.2.1 17 = .ok (.if_icmp .ne 7, 3) := by decide +kernel
theorem d_X6_lose_20 : decode m_X6_lose.2.1 20 = .ok (.iconst 0, 1) := by decide +kernel
theorem d_X6_lose_21 : decode m_X6_lose.2.1 21 = .ok (.goto 4, 3) := by decide +kernel
theorem d_X6_lose_24 : decode m_X6_lose.2.1 24 = .ok (.iconst 1, 1) := by decide +kernel
theorem d_X6_lose_25 : decode m_X6_lose.2.1 25 = .ok (.istore_n 2, 1) := by decide +kernel
theorem d_X6_lose_26 : decode m_X6_lose.2.1 26 = .ok (.aload_n 0, 1) := by decide +kernel
theorem d_X6_lose_27 : decode m_X6_lose.2.1 27 = .ok (.getfield 9, 3) := by decide +kernel
theorem d_X6_lose_30 : decode m_X6_lose.2.1 30 = .ok (.iload_n 1, 1) := by decide +kernel
theorem d_X6_lose_31 : decode m_X6_lose.2.1 31 = .ok (.bipush (-9), 2) := by decide +kernel
theorem d_X6_lose_33 : decode m_X6_lose.2.1 33 = .ok (.iastore, 1) := by decide +kernel
theorem d_X6_lose_34 : decode m_X6_lose.2.1 34 = .ok (.iload_n 2, 1) := by decide +kernel
theorem d_X6_lose_35 : decode m_X6_lose.2.1 35 = .ok (.ireturn, 1) := by decide +kernel
theorem d_X6_put_0 : decode m_X6_put.2.1 0 = .ok (.aload_n 0, 1) := by decide +kernel
theorem d_X6_put_1 : decode m_X6_put.2.1 1 = .ok (.iconst 0, 1) := by decide +kernel
theorem d_X6_put_2 : decode m_X6_put.2.1 2 = .ok (.putfield 52, 3) := by decide +kernel
theorem d_X6_put_5 : decode m_X6_put.2.1 5 = .ok (.iload_n 1, 1) := by decide +kernel
theorem d_X6_put_6 : decode m_X6_put.2.1 6 = .ok (.invokestatic 71, 3) := by decide +kernel
theorem d_X6_put_9 : decode m_X6_put.2.1 9 = .ok (.ifCond .ne 5, 3) := by decide +kernel
theorem d_X6_put_12 : decode m_X6_put.2.1 12 = .ok (.iconst (-1), 1) := by decide +kernel
theorem d_X6_put_13 : decode m_X6_put.2.1 13 = .ok (.ireturn, 1) := by decide +kernel
theorem d_X6_put_14 : decode m_X6_put.2.1 14 = .ok (.aload_n 0, 1) := by decide +kernel
theorem d_X6_put_15 : decode m_X6_put.2.1 15 = .ok (.getfield 9, 3) := by decide +kernel
theorem d_X6_put_18 : decode m_X6_put.2.1 18 = .ok (.iload_n 1, 1) := by decide +kernel
theorem d_X6_put_19 : decode m_X6_put.2.1 19 = .ok (.iaload, 1) := by decide +kernel
theorem d_X6_put_20 : decode m_X6_put.2.1 20 = .ok (.bipush (-9), 2) := by decide +kernel
theorem d_X6_put_22 : decode m_X6_put.2.1 22 = .ok (.if_icmp .ne 9, 3) := by decide +kernel
theorem d_X6_put_25 : decode m_X6_put.2.1 25 = .ok (.aload_n 0, 1) := by decide +kernel
theorem d_X6_put_26 : decode m_X6_put.2.1 26 = .ok (.iconst 1, 1) := by decide +kernel
theorem d_X6_put_27 : decode m_X6_put.2.1 27 = .ok (.invokevirtual 82, 3) := by decide +kernel
theorem d_X6_put_30 : decode m_X6_put.2.1 30 = .ok (.ireturn, 1) := by decide +kernel
theorem d_X6_put_31 : decode m_X6_put.2.1 31 = .ok (.iload_n 2, 1) := by decide +kernel
theorem d_X6_put_32 : decode m_X6_put.2.1 32 = .ok (.iconst 0, 1) := by decide +kernel
theorem d_X6_put_33 : decode m_X6_put.2.1 33 = .ok (.aload_n 0, 1) := by decide +kernel
theorem d_X6_put_34 : decode m_X6_put.2.1 34 = .ok (.getfield 13, 3) := by decide +kernel
theorem d_X6_put_37 : decode m_X6_put.2.1 37 = .ok (.iload_n 1, 1) := by decide +kernel
theorem d_X6_put_38 : decode m_X6_put.2.1 38 = .ok (.iaload, 1) := by decide +kernel
theorem d_X6_put_39 : decode m_X6_put.2.1 39 = .ok (.iconst 1, 1) := by decide +kernel
theorem d_X6_put_40 : decode m_X6_put.2.1 40 = .ok (.isub, 1) := by decide +kernel
theorem d_X6_put_41 : decode m_X6_put.2.1 41 = .ok (.invokestatic 58, 3) := by decide +kernel
theorem d_X6_put_44 : decode m_X6_put.2.1 44 = .ok (.ifCond .ne 9, 3) := by decide +kernel
theorem d_X6_put_47 : decode m_X6_put.2.1 47 = .ok (.aload_n 0, 1) := by decide +kernel
theorem d_X6_put_48 : decode m_X6_put.2.1 48 = .ok (.iconst 3, 1) := by decide +kernel
theorem d_X6_put_49 : decode m_X6_put.2.1 49 = .ok (.invokevirtual 82, 3) := by decide +kernel
theorem d_X6_put_52 : decode m_X6_put.2.1 52 = .ok (.ireturn, 1) := by decide +kernel
theorem d_X6_put_53 : decode m_X6_put.2.1 53 = .ok (.aload_n 0, 1) := by decide +kernel
theorem d_X6_put_54 : decode m_X6_put.2.1 54 = .ok (.getfield 16, 3) := by decide +kernel
theorem d_X6_put_57 : decode m_X6_put.2.1 57 = .ok (.bipush 60, 2) := by decide +kernel
theorem d_X6_put_59 : decode m_X6_put.2.1 59 = .ok (.iload_n 1, 1) := by decide +kernel
theorem d_X6_put_60 : decode m_X6_put.2.1 60 = .ok (.imul, 1) := by decide +kernel
theorem d_X6_put_61 : decode m_X6_put.2.1 61 = .ok (.iload_n 2, 1) := by decide +kernel
theorem d_X6_put_62 : decode m_X6_put.2.1 62 = .ok (.iadd, 1) := by decide +kernel
theorem d_X6_put_63 : decode m_X6_put.2.1 63 = .ok (.aload_n 0, 1) := by decide +kernel
theorem d_X6_put_64 : decode m_X6_put.2.1 64 = .ok (.getfield 9, 3) := by decide +kernel
theorem d_X6_put_67 : decode m_X6_put.2.1 67 = .ok (.iload_n 1, 1) := by decide +kernel
theorem d_X6_put_68 : decode m_X6_put.2.1 68 = .ok (.iaload, 1) := by decide +kernel
theorem d_X6_put_69 : decode m_X6_put.2.1 69 = .ok (.ifCond .ne 8, 3) := by decide +kernel
theorem d_X6_put_72 : decode m_X6_put.2.1 72 = .ok (.iload_n 3, 1) := by decide +kernel
theorem d_X6_put_73 : decode m_X6_put.2.1 73 = .ok (.i2b, 1) := by decide +kernel
theorem d_X6_put_74 : decode m_X6_put.2.1 74 = .ok (.goto 19, 3) := by decide +kernel
theorem d_X6_put_77 : decode m_X6_put.2.1 77 = .ok (.aload_n 0, 1) := by decide +kernel
theorem d_X6_put_78 : decode m_X6_put.2.1 78 = .ok (.getfield 9, 3) := by decide +kernel
theorem d_X6_put_81 : decode m_X6_put.2.1 81 = .ok (.iload_n 1, 1) := by decide +kernel
theorem d_X6_put_82 : decode m_X6_put.2.1 82 = .ok (.iaload, 1) := by decide +kernel
theorem d_X6_put_83 : decode m_X6_put.2.1 83 = .ok (.iconst 1, 1) := by decide +kernel
theorem d_X6_put_84 : decode m_X6_put.2.1 84 = .ok (.if_icmp .ne 8, 3) := by decide +kernel
theorem d_X6_put_87 : decode m_X6_put.2.1 87 = .ok (.iload_n 3, 1) := by decide +kernel
theorem d_X6_put_88 : decode m_X6_put.2.1 88 = .ok (.i2s, 1) := by decide +kernel
theorem d_X6_put_89 : decode m_X6_put.2.1 89 = .ok (.goto 4, 3) := by decide +kernel
theorem d_X6_put_92 : decode m_X6_put.2.1 92 = .ok (.iload_n 3, 1) := by decide +kernel
theorem d_X6_put_93 : decode m_X6_put.2.1 93 = .ok (.iastore, 1) := by decide +kernel
theorem d_X6_put_94 : decode m_X6_put.2.1 94 = .ok (.iconst 1, 1) := by decide +kernel
theorem d_X6_put_95 : decode m_X6_put.2.1 95 = .ok (.ireturn, 1) := by decide +kernel
theorem d_X6_cell_0 : decode m_X6_cell.2.1 0 = .ok (.aload_n 0, 1) := by decide +kernel
theorem d_X6_cell_1 : decode m_X6_cell.2.1 1 = .ok (.iconst 0, 1) := by decide +kernel
theorem d_X6_cell_2 : decode m_X6_cell.2.1 2 = .ok (.putfield 52, 3) := by decide +kernel
theorem d_X6_cell_5 : decode m_X6_cell.2.1 5 = .ok (.iload_n 1, 1) := by decide +kernel
theorem d_X6_cell_6 : decode m_X6_cell.2.1 6 = .ok (.invokestatic 71, 3) := by decide +kernel
theorem d_X6_cell_9 : decode m_X6_cell.2.1 9 = .ok (.ifCond .eq 10, 3) := by decide +kernel
theorem d_X6_cell_12 : decode m_X6_cell.2.1 12 = .ok (.iload_n 3, 1) := by decide +kernel
theorem d_X6_cell_13 : decode m_X6_cell.2.1 13 = .ok (.invokestatic 75, 3) := by decide +kernel
theorem d_X6_cell_16 : decode m_X6_cell.2.1 16 = .ok (.ifCond .ne 7, 3) := by decide +kernel
theorem d_X6_cell_19 : decode m_X6_cell.2.1 19 = .ok (.ldc2_w 56, 3) := by decide +kernel
theorem d_X6_cell_22 : decode m_X6_cell.2.1 22 = .ok (.lreturn, 1) := by decide +kernel
theorem d_X6_cell_23 : decode m_X6_cell.2.1 23 = .ok (.aload_n 0, 1) := by decide +kernel
theorem d_X6_cell_24 : decode m_X6_cell.2.1 24 = .ok (.getfield 9, 3) := by decide +kernel
theorem d_X6_cell_27 : decode m_X6_cell.2.1 27 = .ok (.iload_n 1, 1) := by decide +kernel
theorem d_X6_cell_28 : decode m_X6_cell.2.1 28 = .ok (.iaload, 1) := by decide +kernel
theorem d_X6_cell_29 : decode m_X6_cell.2.1 29 = .ok (.bipush (-9), 2) := by decide +kernel
theorem d_X6_cell_31 : decode m_X6_cell.2.1 31 = .ok (.if_icmp .eq 19, 3) := by decide +kernel
theorem d_X6_cell_34 : decode m_X6_cell.2.1 34 = .ok (.aload_n 0, 1) := by decide +kernel
theorem d_X6_cell_35 : decode m_X6_cell.2.1 35 = .ok (.getfield 9, 3) := by decide +kernel
theorem d_X6_cell_38 : decode m_X6_cell.2.1 38 = .ok (.iload_n 1, 1) := by decide +kernel
theorem d_X6_cell_39 : decode m_X6_cell.2.1 39 = .ok (.iaload, 1) := by decide +kernel
theorem d_X6_cell_40 : decode m_X6_cell.2.1 40 = .ok (.iload_n 3, 1) := by decide +kernel
theorem d_X6_cell_41 : decode m_X6_cell.2.1 41 = .ok (.if_icmp .eq 9, 3) := by decide +kernel
theorem d_X6_cell_44 : decode m_X6_cell.2.1 44 = .ok (.aload_n 0, 1) := by decide +kernel
theorem d_X6_cell_45 : decode m_X6_cell.2.1 45 = .ok (.iconst 2, 1) := by decide +kernel
theorem d_X6_cell_46 : decode m_X6_cell.2.1 46 = .ok (.invokevirtual 205, 3) := by decide +kernel
theorem d_X6_cell_49 : decode m_X6_cell.2.1 49 = .ok (.lreturn, 1) := by decide +kernel
theorem d_X6_cell_50 : decode m_X6_cell.2.1 50 = .ok (.aload_n 0, 1) := by decide +kernel
theorem d_X6_cell_51 : decode m_X6_cell.2.1 51 = .ok (.getfield 9, 3) := by decide +kernel
theorem d_X6_cell_54 : decode m_X6_cell.2.1 54 = .ok (.iload_n 1, 1) := by decide +kernel
theorem d_X6_cell_55 : decode m_X6_cell.2.1 55 = .ok (.iaload, 1) := by decide +kernel
theorem d_X6_cell_56 : decode m_X6_cell.2.1 56 = .ok (.bipush (-9), 2) := by decide +kernel
theorem d_X6_cell_58 : decode m_X6_cell.2.1 58 = .ok (.if_icmp .ne 9, 3) := by decide +kernel
theorem d_X6_cell_61 : decode m_X6_cell.2.1 61 = .ok (.aload_n 0, 1) := by decide +kernel
theorem d_X6_cell_62 : decode m_X6_cell.2.1 62 = .ok (.iconst 1, 1) := by decide +kernel
theorem d_X6_cell_63 : decode m_X6_cell.2.1 63 = .ok (.invokevirtual 205, 3) := by decide +kernel
theorem d_X6_cell_66 : decode m_X6_cell.2.1 66 = .ok (.lreturn, 1) := by decide +kernel
theorem d_X6_cell_67 : decode m_X6_cell.2.1 67 = .ok (.iload_n 2, 1) := by decide +kernel
theorem d_X6_cell_68 : decode m_X6_cell.2.1 68 = .ok (.iconst 0, 1) := by decide +kernel
theorem d_X6_cell_69 : decode m_X6_cell.2.1 69 = .ok (.aload_n 0, 1) := by decide +kernel
theorem d_X6_cell_70 : decode m_X6_cell.2.1 70 = .ok (.getfield 13, 3) := by decide +kernel
theorem d_X6_cell_73 : decode m_X6_cell.2.1 73 = .ok (.iload_n 1, 1) := by decide +kernel
theorem d_X6_cell_74 : decode m_X6_cell.2.1 74 = .ok (.iaload, 1) := by decide +kernel
theorem d_X6_cell_75 : decode m_X6_cell.2.1 75 = .ok (.iconst 1, 1) := by decide +kernel
theorem d_X6_cell_76 : decode m_X6_cell.2.1 76 = .ok (.isub, 1) := by decide +kernel
theorem d_X6_cell_77 : decode m_X6_cell.2.1 77 = .ok (.invokestatic 58, 3) := by decide +kernel
theorem d_X6_cell_80 : decode m_X6_cell.2.1 80 = .ok (.ifCond .ne 9, 3) := by decide +kernel
theorem d_X6_cell_83 : decode m_X6_cell.2.1 83 = .ok (.aload_n 0, 1) := by decide +kernel
theorem d_X6_cell_84 : decode m_X6_cell.2.1 84 = .ok (.iconst 3, 1) := by decide +kernel
theorem d_X6_cell_85 : decode m_X6_cell.2.1 85 = .ok (.invokevirtual 205, 3) := by decide +kernel
theorem d_X6_cell_88 : decode m_X6_cell.2.1 88 = .ok (.lreturn, 1) := by decide +kernel
theorem d_X6_cell_89 : decode m_X6_cell.2.1 89 = .ok (.aload_n 0, 1) := by decide +kernel
theorem d_X6_cell_90 : decode m_X6_cell.2.1 90 = .ok (.getfield 16, 3) := by decide +kernel
theorem d_X6_cell_93 : decode m_X6_cell.2.1 93 = .ok (.bipush 60, 2) := by decide +kernel
theorem d_X6_cell_95 : decode m_X6_cell.2.1 95 = .ok (.iload_n 1, 1) := by decide +kernel
theorem d_X6_cell_96 : decode m_X6_cell.2.1 96 = .ok (.imul, 1) := by decide +kernel
theorem d_X6_cell_97 : decode m_X6_cell.2.1 97 = .ok (.iload_n 2, 1) := by decide +kernel
theorem d_X6_cell_98 : decode m_X6_cell.2.1 98 = .ok (.iadd, 1) := by decide +kernel
theorem d_X6_cell_99 : decode m_X6_cell.2.1 99 = .ok (.iaload, 1) := by decide +kernel
theorem d_X6_cell_100 : decode m_X6_cell.2.1 100 = .ok (.i2l, 1) := by decide +kernel
theorem d_X6_cell_101 : decode m_X6_cell.2.1 101 = .ok (.lreturn, 1) := by decide +kernel
theorem d_X6_copy_0 : decode m_X6_copy.2.1 0 = .ok (.aload_n 0, 1) := by decide +kernel
theorem d_X6_copy_1 : decode m_X6_copy.2.1 1 = .ok (.iconst 0, 1) := by decide +kernel
theorem d_X6_copy_2 : decode m_X6_copy.2.1 2 = .ok (.putfield 52, 3) := by decide +kernel
theorem d_X6_copy_5 : decode m_X6_copy.2.1 5 = .ok (.iload_n 1, 1) := by decide +kernel
theorem d_X6_copy_6 : decode m_X6_copy.2.1 6 = .ok (.invokestatic 71, 3) := by decide +kernel
theorem d_X6_copy_9 : decode m_X6_copy.2.1 9 = .ok (.ifCond .eq 10, 3) := by decide +kernel
theorem d_X6_copy_12 : decode m_X6_copy.2.1 12 = .ok (.iload_n 3, 1) := by decide +kernel
theorem d_X6_copy_13 : decode m_X6_copy.2.1 13 = .ok (.invokestatic 71, 3) := by decide +kernel
theorem d_X6_copy_16 : decode m_X6_copy.2.1 16 = .ok (.ifCond .ne 5, 3) := by decide +kernel
theorem d_X6_copy_19 : decode m_X6_copy.2.1 19 = .ok (.iconst (-1), 1) := by decide +kernel
theorem d_X6_copy_20 : decode m_X6_copy.2.1 20 = .ok (.ireturn, 1) := by decide +kernel
theorem d_X6_copy_21 : decode m_X6_copy.2.1 21 = .ok (.aload_n 0, 1) := by decide +kernel
theorem d_X6_copy_22 : decode m_X6_copy.2.1 22 = .ok (.getfield 9, 3) := by decide +kernel
theorem d_X6_copy_25 : decode m_X6_copy.2.1 25 = .ok (.iload_n 1, 1) := by decide +kernel
theorem d_X6_copy_26 : decode m_X6_copy.2.1 26 = .ok (.iaload, 1) := by decide +kernel
theorem d_X6_copy_27 : decode m_X6_copy.2.1 27 = .ok (.bipush (-9), 2) := by decide +kernel
theorem d_X6_copy_29 : decode m_X6_copy.2.1 29 = .ok (.if_icmp .eq 14, 3) := by decide +kernel
theorem d_X6_copy_32 : decode m_X6_copy.2.1 32 = .ok (.aload_n 0, 1) := by decide +kernel
theorem d_X6_copy_33 : decode m_X6_copy.2.1 33 = .ok (.getfield 9, 3) := by decide +kernel
theorem d_X6_copy_36 : decode m_X6_copy.2.1 36 = .ok (.iload_n 3, 1) := by decide +kernel
theorem d_X6_copy_37 : decode m_X6_copy.2.1 37 = .ok (.iaload, 1) := by decide +kernel
theorem d_X6_copy_38 : decode m_X6_copy.2.1 38 = .ok (.bipush (-9), 2) := by decide +kernel
theorem d_X6_copy_40 : decode m_X6_copy.2.1 40 = .ok (.if_icmp .ne 9, 3) := by decide +kernel
theorem d_X6_copy_43 : decode m_X6_copy.2.1 43 = .ok (.aload_n 0, 1) := by decide +kernel
theorem d_X6_copy_44 : decode m_X6_copy.2.1 44 = .ok (.iconst 1, 1) := by decide +kernel
theorem d_X6_copy_45 : decode m_X6_copy.2.1 45 = .ok (.invokevirtual 82, 3) := by decide +kernel
theorem d_X6_copy_48 : decode m_X6_copy.2.1 48 = .ok (.ireturn, 1) := by decide +kernel
theorem d_X6_copy_49 : decode m_X6_copy.2.1 49 = .ok (.aload_n 0, 1) := by decide +kernel
theorem d_X6_copy_50 : decode m_X6_copy.2.1 50 = .ok (.getfield 9, 3) := by decide +kernel
theorem d_X6_copy_53 : decode m_X6_copy.2.1 53 = .ok (.iload_n 1, 1) := by decide +kernel
theorem d_X6_copy_54 : decode m_X6_copy.2.1 54 = .ok (.iaload, 1) := by decide +kernel
theorem d_X6_copy_55 : decode m_X6_copy.2.1 55 = .ok (.aload_n 0, 1) := by decide +kernel
theorem d_X6_copy_56 : decode m_X6_copy.2.1 56 = .ok (.getfield 9, 3) := by decide +kernel
theorem d_X6_copy_59 : decode m_X6_copy.2.1 59 = .ok (.iload_n 3, 1) := by decide +kernel
theorem d_X6_copy_60 : decode m_X6_copy.2.1 60 = .ok (.iaload, 1) := by decide +kernel
theorem d_X6_copy_61 : decode m_X6_copy.2.1 61 = .ok (.if_icmp .eq 9, 3) := by decide +kernel
theorem d_X6_copy_64 : decode m_X6_copy.2.1 64 = .ok (.aload_n 0, 1) := by decide +kernel
theorem d_X6_copy_65 : decode m_X6_copy.2.1 65 = .ok (.iconst 2, 1) := by decide +kernel
theorem d_X6_copy_66 : decode m_X6_copy.2.1 66 = .ok (.invokevirtual 82, 3) := by decide +kernel
theorem d_X6_copy_69 : decode m_X6_copy.2.1 69 = .ok (.ireturn, 1) := by decide +kernel
theorem d_X6_copy_70 : decode m_X6_copy.2.1 70 = .ok (.iload_n 2, 1) := by decide +kernel
theorem d_X6_copy_71 : decode m_X6_copy.2.1 71 = .ok (.ifCond .lt 38, 3) := by decide +kernel
theorem d_X6_copy_74 : decode m_X6_copy.2.1 74 = .ok (.iload 4, 2) := by decide +kernel
theorem d_X6_copy_76 : decode m_X6_copy.2.1 76 = .ok (.ifCond .lt 33, 3) := by decide +kernel
theorem d_X6_copy_79 : decode m_X6_copy.2.1 79 = .ok (.iload 5, 2) := by decide +kernel
theorem d_X6_copy_81 : decode m_X6_copy.2.1 81 = .ok (.ifCond .lt 28, 3) := by decide +kernel
theorem d_X6_copy_84 : decode m_X6_copy.2.1 84 = .ok (.iload_n 2, 1) := by decide +kernel
theorem d_X6_copy_85 : decode m_X6_copy.2.1 85 = .ok (.aload_n 0, 1) := by decide +kernel
theorem d_X6_copy_86 : decode m_X6_copy.2.1 86 = .ok (.getfield 13, 3) := by decide +kernel
theorem d_X6_copy_89 : decode m_X6_copy.2.1 89 = .ok (.iload_n 1, 1) := by decide +kernel
theorem d_X6_copy_90 : decode m_X6_copy.2.1 90 = .ok (.iaload, 1) := by decide +kernel
theorem d_X6_copy_91 : decode m_X6_copy.2.1 91 = .ok (.if_icmp .gt 18, 3) := by decide +kernel
theorem d_X6_copy_94 : decode m_X6_copy.2.1 94 = .ok (.iload 4, 2) := by decide +kernel
theorem d_X6_copy_96 : decode m_X6_copy.2.1 96 = .ok (.aload_n 0, 1) := by decide +kernel
theorem d_X6_copy_97 : decode m_X6_copy.2.1 97 = .ok (.getfield 13, 3) := by decide +kernel
theorem d_X6_copy_100 : decode m_X6_copy.2.1 100 = .ok (.iload_n 3, 1) := by decide +kernel
theorem d_X6_copy_101 : decode m_X6_copy.2.1 101 = .ok (.iaload, 1) := by decide +kernel
theorem d_X6_copy_102 : decode m_X6_copy.2.1 102 = .ok (.if_icmp .gt 7, 3) := by decide +kernel
theorem d_X6_copy_105 : decode m_X6_copy.2.1 105 = .ok (.iconst 1, 1) := by decide +kernel
theorem d_X6_copy_106 : decode m_X6_copy.2.1 106 = .ok (.goto 4, 3) := by decide +kernel
theorem d_X6_copy_109 : decode m_X6_copy.2.1 109 = .ok (.iconst 0, 1) := by decide +kernel
theorem d_X6_copy_110 : decode m_X6_copy.2.1 110 = .ok (.istore 6, 2) := by decide +kernel
theorem d_X6_copy_112 : decode m_X6_copy.2.1 112 = .ok (.iload 6, 2) := by decide +kernel
theorem d_X6_copy_114 : decode m_X6_copy.2.1 114 = .ok (.ifCond .eq 30, 3) := by decide +kernel
theorem d_X6_copy_117 : decode m_X6_copy.2.1 117 = .ok (.iload 5, 2) := by decide +kernel
theorem d_X6_copy_119 : decode m_X6_copy.2.1 119 = .ok (.aload_n 0, 1) := by decide +kernel
theorem d_X6_copy_120 : decode m_X6_copy.2.1 120 = .ok (.getfield 13, 3) := by decide +kernel
theorem d_X6_copy_123 : decode m_X6_copy.2.1 123 = .ok (.iload_n 1, 1) := by decide +kernel
theorem d_X6_copy_124 : decode m_X6_copy.2.1 124 = .ok (.iaload, 1) := by decide +kernel
theorem d_X6_copy_125 : decode m_X6_copy.2.1 125 = .ok (.iload_n 2, 1) := by decide +kernel
theorem d_X6_copy_126 : decode m_X6_copy.2.1 126 = .ok (.isub, 1) := by decide +kernel
theorem d_X6_copy_127 : decode m_X6_copy.2.1 127 = .ok (.if_icmp .gt 17, 3) := by decide +kernel
theorem d_X6_copy_130 : decode m_X6_copy.2.1 130 = .ok (.iload 5, 2) := by decide +kernel
theorem d_X6_copy_132 : decode m_X6_copy.2.1 132 = .ok (.aload_n 0, 1) := by decide +kernel
theorem d_X6_copy_133 : decode m_X6_copy.2.1 133 = .ok (.getfield 13, 3) := by decide +kernel
theorem d_X6_copy_136 : decode m_X6_copy.2.1 136 = .ok (.iload_n 3, 1) := by decide +kernel
theorem d_X6_copy_137 : decode m_X6_copy.2.1 137 = .ok (.iaload, 1) := by decide +kernel
theorem d_X6_copy_138 : decode m_X6_copy.2.1 138 = .ok (.iload 4, 2) := by decide +kernel
theorem d_X6_copy_140 : decode m_X6_copy.2.1 140 = .ok (.isub, 1) := by decide +kernel
theorem d_X6_copy_141 : decode m_X6_copy.2.1 141 = .ok (.if_icmp .le 9, 3) := by decide +kernel
theorem d_X6_copy_144 : decode m_X6_copy.2.1 144 = .ok (.aload_n 0, 1) := by decide +kernel
theorem d_X6_copy_145 : decode m_X6_copy.2.1 145 = .ok (.iconst 3, 1) := by decide +kernel
theorem d_X6_copy_146 : decode m_X6_copy.2.1 146 = .ok (.invokevirtual 82, 3) := by decide +kernel
theorem d_X6_copy_149 : decode m_X6_copy.2.1 149 = .ok (.ireturn, 1) := by decide +kernel
theorem d_X6_copy_150 : decode m_X6_copy.2.1 150 = .ok (.iload_n 2, 1) := by decide +kernel
theorem d_X6_copy_151 : decode m_X6_copy.2.1 151 = .ok (.iload 4, 2) := by decide +kernel
theorem d_X6_copy_153 : decode m_X6_copy.2.1 153 = .ok (.if_icmp .ge 7, 3) := by decide +kernel
theorem d_X6_copy_156 : decode m_X6_copy.2.1 156 = .ok (.iconst 1, 1) := by decide +kernel
theorem d_X6_copy_157 : decode m_X6_copy.2.1 157 = .ok (.goto 4, 3) := by decide +kernel
theorem d_X6_copy_160 : decode m_X6_copy.2.1 160 = .ok (.iconst 0, 1) := by decide +kernel
theorem d_X6_copy_161 : decode m_X6_copy.2.1 161 = .ok (.istore 7, 2) := by decide +kernel
theorem d_X6_copy_163 : decode m_X6_copy.2.1 163 = .ok (.iconst 0, 1) := by decide +kernel
theorem d_X6_copy_164 : decode m_X6_copy.2.1 164 = .ok (.istore 8, 2) := by decide +kernel
theorem d_X6_copy_166 : decode m_X6_copy.2.1 166 = .ok (.iload 8, 2) := by decide +kernel
theorem d_X6_copy_168 : decode m_X6_copy.2.1 168 = .ok (.iload 5, 2) := by decide +kernel
theorem d_X6_copy_170 : decode m_X6_copy.2.1 170 = .ok (.if_icmp .ge 57, 3) := by decide +kernel
theorem d_X6_copy_173 : decode m_X6_copy.2.1 173 = .ok (.iload 7, 2) := by decide +kernel
theorem d_X6_copy_175 : decode m_X6_copy.2.1 175 = .ok (.ifCond .eq 13, 3) := by decide +kernel
theorem d_X6_copy_178 : decode m_X6_copy.2.1 178 = .ok (.iload 5, 2) := by decide +kernel
theorem d_X6_copy_180 : decode m_X6_copy.2.1 180 = .ok (.iconst 1, 1) := by decide +kernel
theorem d_X6_copy_181 : decode m_X6_copy.2.1 181 = .ok (.isub, 1) := by decide +kernel
theorem d_X6_copy_182 : decode m_X6_copy.2.1 182 = .ok (.iload 8, 2) := by decide +kernel
theorem d_X6_copy_184 : decode m_X6_copy.2.1 184 = .ok (.isub, 1) := by decide +kernel
theorem d_X6_copy_185 : decode m_X6_copy.2.1 185 = .ok (.goto 5, 3) := by decide +kernel
theorem d_X6_copy_188 : decode m_X6_copy.2.1 188 = .ok (.iload 8, 2) := by decide +kernel
theorem d_X6_copy_190 : decode m_X6_copy.2.1 190 = .ok (.istore 9, 2) := by decide +kernel
theorem d_X6_copy_192 : decode m_X6_copy.2.1 192 = .ok (.aload_n 0, 1) := by decide +kernel
theorem d_X6_copy_193 : decode m_X6_copy.2.1 193 = .ok (.getfield 16, 3) := by decide +kernel
theorem d_X6_copy_196 : decode m_X6_copy.2.1 196 = .ok (.bipush 60, 2) := by decide +kernel
theorem d_X6_copy_198 : decode m_X6_copy.2.1 198 = .ok (.iload_n 3, 1) := by decide +kernel
theorem d_X6_copy_199 : decode m_X6_copy.2.1 199 = .ok (.imul, 1) := by decide +kernel
theorem d_X6_copy_200 : decode m_X6_copy.2.1 200 = .ok (.iload 4, 2) := by decide +kernel
theorem d_X6_copy_202 : decode m_X6_copy.2.1 202 = .ok (.iadd, 1) := by decide +kernel
theorem d_X6_copy_203 : decode m_X6_copy.2.1 203 = .ok (.iload 9, 2) := by decide +kernel
theorem d_X6_copy_205 : decode m_X6_copy.2.1 205 = .ok (.iadd, 1) := by decide +kernel
theorem d_X6_copy_206 : decode m_X6_copy.2.1 206 = .ok (.aload_n 0, 1) := by decide +kernel
theorem d_X6_copy_207 : decode m_X6_copy.2.1 207 = .ok (.getfield 16, 3) := by decide +kernel
theorem d_X6_copy_210 : decode m_X6_copy.2.1 210 = .ok (.bipush 60, 2) := by decide +kernel
theorem d_X6_copy_212 : decode m_X6_copy.2.1 212 = .ok (.iload_n 1, 1) := by decide +kernel
theorem d_X6_copy_213 : decode m_X6_copy.2.1 213 = .ok (.imul, 1) := by decide +kernel
theorem d_X6_copy_214 : decode m_X6_copy.2.1 214 = .ok (.iload_n 2, 1) := by decide +kernel
theorem d_X6_copy_215 : decode m_X6_copy.2.1 215 = .ok (.iadd, 1) := by decide +kernel
theorem d_X6_copy_216 : decode m_X6_copy.2.1 216 = .ok (.iload 9, 2) := by decide +kernel
theorem d_X6_copy_218 : decode m_X6_copy.2.1 218 = .ok (.iadd, 1) := by decide +kernel
theorem d_X6_copy_219 : decode m_X6_copy.2.1 219 = .ok (.iaload, 1) := by decide +kernel
theorem d_X6_copy_220 : decode m_X6_copy.2.1 220 = .ok (.iastore, 1) := by decide +kernel
theorem d_X6_copy_221 : decode m_X6_copy.2.1 221 = .ok (.iinc 8 1, 3) := by decide +kernel
theorem d_X6_copy_224 : decode m_X6_copy.2.1 224 = .ok (.goto (-58), 3) := by decide +kernel
theorem d_X6_copy_227 : decode m_X6_copy.2.1 227 = .ok (.iload 5, 2) := by decide +kernel
theorem d_X6_copy_229 : decode m_X6_copy.2.1 229 = .ok (.ireturn, 1) := by decide +kernel
end
section
theorem d_X6_begins_0 : decode m_X6_begins.2.1 0 = .ok (.aload_n 0, 1) := by decide +kernel
theorem d_X6_begins_1 : decode m_X6_begins.2.1 1 = .ok (.bipush 31, 2) := by decide +kernel
theorem d_X6_begins_3 : decode m_X6_begins.2.1 3 = .ok (.aload_n 0, 1) := by decide +kernel
theorem d_X6_begins_4 : decode m_X6_begins.2.1 4 = .ok (.getfield 209, 3) := by decide +kernel
theorem d_X6_begins_7 : decode m_X6_begins.2.1 7 = .ok (.imul, 1) := by decide +kernel
theorem d_X6_begins_8 : decode m_X6_begins.2.1 8 = .ok (.iload_n 1, 1) := by decide +kernel
theorem d_X6_begins_9 : decode m_X6_begins.2.1 9 = .ok (.iadd, 1) := by decide +kernel
theorem d_X6_begins_10 : decode m_X6_begins.2.1 10 = .ok (.putfield 209, 3) := by decide +kernel
theorem d_X6_begins_13 : decode m_X6_begins.2.1 13 = .ok (.return_, 1) := by decide +kernel
theorem d_X6_tell_0 : decode m_X6_tell.2.1 0 = .ok (.aload_n 0, 1) := by decide +kernel
theorem d_X6_tell_1 : decode m_X6_tell.2.1 1 = .ok (.iload_n 1, 1) := by decide +kernel
theorem d_X6_tell_2 : decode m_X6_tell.2.1 2 = .ok (.invokevirtual 145, 3) := by decide +kernel
theorem d_X6_tell_5 : decode m_X6_tell.2.1 5 = .ok (.ifCond .ne 5, 3) := by decide +kernel
theorem d_X6_tell_8 : decode m_X6_tell.2.1 8 = .ok (.iconst (-1), 1) := by decide +kernel
theorem d_X6_tell_9 : decode m_X6_tell.2.1 9 = .ok (.ireturn, 1) := by decide +kernel
theorem d_X6_tell_10 : decode m_X6_tell.2.1 10 = .ok (.aload_n 0, 1) := by decide +kernel
theorem d_X6_tell_11 : decode m_X6_tell.2.1 11 = .ok (.getfield 22, 3) := by decide +kernel
theorem d_X6_tell_14 : decode m_X6_tell.2.1 14 = .ok (.iload_n 1, 1) := by decide +kernel
theorem d_X6_tell_15 : decode m_X6_tell.2.1 15 = .ok (.iaload, 1) := by decide +kernel
theorem d_X6_tell_16 : decode m_X6_tell.2.1 16 = .ok (.istore_n 2, 1) := by decide +kernel
theorem d_X6_tell_17 : decode m_X6_tell.2.1 17 = .ok (.aload_n 0, 1) := by decide +kernel
theorem d_X6_tell_18 : decode m_X6_tell.2.1 18 = .ok (.getfield 19, 3) := by decide +kernel
theorem d_X6_tell_21 : decode m_X6_tell.2.1 21 = .ok (.iload_n 1, 1) := by decide +kernel
theorem d_X6_tell_22 : decode m_X6_tell.2.1 22 = .ok (.iaload, 1) := by decide +kernel
theorem d_X6_tell_23 : decode m_X6_tell.2.1 23 = .ok (.lookupswitch 67 #[(1, 25), (2, 40)], 25) := by decide +kernel
theorem d_X6_tell_48 : decode m_X6_tell.2.1 48 = .ok (.aload_n 0, 1) := by decide +kernel
theorem d_X6_tell_49 : decode m_X6_tell.2.1 49 = .ok (.iconst 2, 1) := by decide +kernel
theorem d_X6_tell_50 : decode m_X6_tell.2.1 50 = .ok (.invokevirtual 212, 3) := by decide +kernel
theorem d_X6_tell_53 : decode m_X6_tell.2.1 53 = .ok (.aload_n 0, 1) := by decide +kernel
theorem d_X6_tell_54 : decode m_X6_tell.2.1 54 = .ok (.iconst 1, 1) := by decide +kernel
theorem d_X6_tell_55 : decode m_X6_tell.2.1 55 = .ok (.invokevirtual 212, 3) := by decide +kernel
theorem d_X6_tell_58 : decode m_X6_tell.2.1 58 = .ok (.iload_n 2, 1) := by decide +kernel
theorem d_X6_tell_59 : decode m_X6_tell.2.1 59 = .ok (.bipush 100, 2) := by decide +kernel
theorem d_X6_tell_61 : decode m_X6_tell.2.1 61 = .ok (.iadd, 1) := by decide +kernel
theorem d_X6_tell_62 : decode m_X6_tell.2.1 62 = .ok (.ireturn, 1) := by decide +kernel
theorem d_X6_tell_63 : decode m_X6_tell.2.1 63 = .ok (.aload_n 0, 1) := by decide +kernel
theorem d_X6_tell_64 : decode m_X6_tell.2.1 64 = .ok (.iconst 3, 1) := by decide +kernel
theorem d_X6_tell_65 : decode m_X6_tell.2.1 65 = .ok (.invokevirtual 212, 3) := by decide +kernel
theorem d_X6_tell_68 : decode m_X6_tell.2.1 68 = .ok (.aload_n 0, 1) := by decide +kernel
theorem d_X6_tell_69 : decode m_X6_tell.2.1 69 = .ok (.iconst 2, 1) := by decide +kernel
theorem d_X6_tell_70 : decode m_X6_tell.2.1 70 = .ok (.invokevirtual 212, 3) := by decide +kernel
theorem d_X6_tell_73 : decode m_X6_tell.2.1 73 = .ok (.aload_n 0, 1) := by decide +kernel
theorem d_X6_tell_74 : decode m_X6_tell.2.1 74 = .ok (.iconst 1, 1) := by decide +kernel
theorem d_X6_tell_75 : decode m_X6_tell.2.1 75 = .ok (.invokevirtual 212, 3) := by decide +kernel
theorem d_X6_tell_78 : decode m_X6_tell.2.1 78 = .ok (.aload_n 0, 1) := by decide +kernel
theorem d_X6_tell_79 : decode m_X6_tell.2.1 79 = .ok (.iconst 1, 1) := by decide +kernel
theorem d_X6_tell_80 : decode m_X6_tell.2.1 80 = .ok (.invokevirtual 212, 3) := by decide +kernel
theorem d_X6_tell_83 : decode m_X6_tell.2.1 83 = .ok (.iconst 2, 1) := by decide +kernel
theorem d_X6_tell_84 : decode m_X6_tell.2.1 84 = .ok (.iload_n 2, 1) := by decide +kernel
theorem d_X6_tell_85 : decode m_X6_tell.2.1 85 = .ok (.imul, 1) := by decide +kernel
theorem d_X6_tell_86 : decode m_X6_tell.2.1 86 = .ok (.bipush 100, 2) := by decide +kernel
theorem d_X6_tell_88 : decode m_X6_tell.2.1 88 = .ok (.iadd, 1) := by decide +kernel
theorem d_X6_tell_89 : decode m_X6_tell.2.1 89 = .ok (.ireturn, 1) := by decide +kernel
theorem d_X6_tell_90 : decode m_X6_tell.2.1 90 = .ok (.aload_n 0, 1) := by decide +kernel
theorem d_X6_tell_91 : decode m_X6_tell.2.1 91 = .ok (.iconst 1, 1) := by decide +kernel
theorem d_X6_tell_92 : decode m_X6_tell.2.1 92 = .ok (.invokevirtual 212, 3) := by decide +kernel
theorem d_X6_tell_95 : decode m_X6_tell.2.1 95 = .ok (.iload_n 2, 1) := by decide +kernel
theorem d_X6_tell_96 : decode m_X6_tell.2.1 96 = .ok (.ireturn, 1) := by decide +kernel
theorem d_X6_knock_0 : decode m_X6_knock.2.1 0 = .ok (.aload_n 0, 1) := by decide +kernel
theorem d_X6_knock_1 : decode m_X6_knock.2.1 1 = .ok (.iload_n 1, 1) := by decide +kernel
theorem d_X6_knock_2 : decode m_X6_knock.2.1 2 = .ok (.invokevirtual 145, 3) := by decide +kernel
theorem d_X6_knock_5 : decode m_X6_knock.2.1 5 = .ok (.ifCond .ne 5, 3) := by decide +kernel
theorem d_X6_knock_8 : decode m_X6_knock.2.1 8 = .ok (.iconst (-1), 1) := by decide +kernel
theorem d_X6_knock_9 : decode m_X6_knock.2.1 9 = .ok (.ireturn, 1) := by decide +kernel
theorem d_X6_knock_10 : decode m_X6_knock.2.1 10 = .ok (.aload_n 0, 1) := by decide +kernel
theorem d_X6_knock_11 : decode m_X6_knock.2.1 11 = .ok (.aload_n 0, 1) := by decide +kernel
theorem d_X6_knock_12 : decode m_X6_knock.2.1 12 = .ok (.getfield 19, 3) := by decide +kernel
theorem d_X6_knock_15 : decode m_X6_knock.2.1 15 = .ok (.iload_n 1, 1) := by decide +kernel
theorem d_X6_knock_16 : decode m_X6_knock.2.1 16 = .ok (.iaload, 1) := by decide +kernel
theorem d_X6_knock_17 : decode m_X6_knock.2.1 17 = .ok (.iconst 2, 1) := by decide +kernel
theorem d_X6_knock_18 : decode m_X6_knock.2.1 18 = .ok (.if_icmp .ne 7, 3) := by decide +kernel
theorem d_X6_knock_21 : decode m_X6_knock.2.1 21 = .ok (.iconst 5, 1) := by decide +kernel
theorem d_X6_knock_22 : decode m_X6_knock.2.1 22 = .ok (.goto 4, 3) := by decide +kernel
theorem d_X6_knock_25 : decode m_X6_knock.2.1 25 = .ok (.iconst 4, 1) := by decide +kernel
theorem d_X6_knock_26 : decode m_X6_knock.2.1 26 = .ok (.invokevirtual 212, 3) := by decide +kernel
theorem d_X6_knock_29 : decode m_X6_knock.2.1 29 = .ok (.aload_n 0, 1) := by decide +kernel
theorem d_X6_knock_30 : decode m_X6_knock.2.1 30 = .ok (.getfield 19, 3) := by decide +kernel
theorem d_X6_knock_33 : decode m_X6_knock.2.1 33 = .ok (.iload_n 1, 1) := by decide +kernel
theorem d_X6_knock_34 : decode m_X6_knock.2.1 34 = .ok (.iaload, 1) := by decide +kernel
theorem d_X6_knock_35 : decode m_X6_knock.2.1 35 = .ok (.iconst 2, 1) := by decide +kernel
theorem d_X6_knock_36 : decode m_X6_knock.2.1 36 = .ok (.if_icmp .ne 8, 3) := by decide +kernel
theorem d_X6_knock_39 : decode m_X6_knock.2.1 39 = .ok (.bipush 70, 2) := by decide +kernel
theorem d_X6_knock_41 : decode m_X6_knock.2.1 41 = .ok (.goto 9, 3) := by decide +kernel
theorem d_X6_knock_44 : decode m_X6_knock.2.1 44 = .ok (.aload_n 0, 1) := by decide +kernel
theorem d_X6_knock_45 : decode m_X6_knock.2.1 45 = .ok (.getfield 25, 3) := by decide +kernel
theorem d_X6_knock_48 : decode m_X6_knock.2.1 48 = .ok (.iload_n 1, 1) := by decide +kernel
theorem d_X6_knock_49 : decode m_X6_knock.2.1 49 = .ok (.iaload, 1) := by decide +kernel
theorem d_X6_knock_50 : decode m_X6_knock.2.1 50 = .ok (.ireturn, 1) := by decide +kernel
theorem d_X6_as_0 : decode m_X6_as.2.1 0 = .ok (.aload_n 0, 1) := by decide +kernel
theorem d_X6_as_1 : decode m_X6_as.2.1 1 = .ok (.iconst 0, 1) := by decide +kernel
theorem d_X6_as_2 : decode m_X6_as.2.1 2 = .ok (.putfield 52, 3) := by decide +kernel
theorem d_X6_as_5 : decode m_X6_as.2.1 5 = .ok (.aload_n 0, 1) := by decide +kernel
theorem d_X6_as_6 : decode m_X6_as.2.1 6 = .ok (.iload_n 1, 1) := by decide +kernel
theorem d_X6_as_7 : decode m_X6_as.2.1 7 = .ok (.invokevirtual 145, 3) := by decide +kernel
theorem d_X6_as_10 : decode m_X6_as.2.1 10 = .ok (.ifCond .ne 5, 3) := by decide +kernel
theorem d_X6_as_13 : decode m_X6_as.2.1 13 = .ok (.iconst (-1), 1) := by decide +kernel
theorem d_X6_as_14 : decode m_X6_as.2.1 14 = .ok (.ireturn, 1) := by decide +kernel
theorem d_X6_as_15 : decode m_X6_as.2.1 15 = .ok (.iload_n 2, 1) := by decide +kernel
theorem d_X6_as_16 : decode m_X6_as.2.1 16 = .ok (.iconst 0, 1) := by decide +kernel
theorem d_X6_as_17 : decode m_X6_as.2.1 17 = .ok (.iconst 2, 1) := by decide +kernel
theorem d_X6_as_18 : decode m_X6_as.2.1 18 = .ok (.invokestatic 58, 3) := by decide +kernel
theorem d_X6_as_21 : decode m_X6_as.2.1 21 = .ok (.ifCond .ne 6, 3) := by decide +kernel
theorem d_X6_as_24 : decode m_X6_as.2.1 24 = .ok (.bipush (-2), 2) := by decide +kernel
theorem d_X6_as_26 : decode m_X6_as.2.1 26 = .ok (.ireturn, 1) := by decide +kernel
theorem d_X6_as_27 : decode m_X6_as.2.1 27 = .ok (.aload_n 0, 1) := by decide +kernel
theorem d_X6_as_28 : decode m_X6_as.2.1 28 = .ok (.getfield 19, 3) := by decide +kernel
theorem d_X6_as_31 : decode m_X6_as.2.1 31 = .ok (.iload_n 1, 1) := by decide +kernel
theorem d_X6_as_32 : decode m_X6_as.2.1 32 = .ok (.iaload, 1) := by decide +kernel
theorem d_X6_as_33 : decode m_X6_as.2.1 33 = .ok (.iload_n 2, 1) := by decide +kernel
theorem d_X6_as_34 : decode m_X6_as.2.1 34 = .ok (.if_icmp .lt 7, 3) := by decide +kernel
theorem d_X6_as_37 : decode m_X6_as.2.1 37 = .ok (.iconst 1, 1) := by decide +kernel
theorem d_X6_as_38 : decode m_X6_as.2.1 38 = .ok (.goto 8, 3) := by decide +kernel
theorem d_X6_as_41 : decode m_X6_as.2.1 41 = .ok (.aload_n 0, 1) := by decide +kernel
theorem d_X6_as_42 : decode m_X6_as.2.1 42 = .ok (.iconst 2, 1) := by decide +kernel
theorem d_X6_as_43 : decode m_X6_as.2.1 43 = .ok (.invokevirtual 82, 3) := by decide +kernel
theorem d_X6_as_46 : decode m_X6_as.2.1 46 = .ok (.ireturn, 1) := by decide +kernel
theorem d_X6_trace_0 : decode m_X6_trace.2.1 0 = .ok (.aload_n 0, 1) := by decide +kernel
theorem d_X6_trace_1 : decode m_X6_trace.2.1 1 = .ok (.getfield 209, 3) := by decide +kernel
theorem d_X6_trace_4 : decode m_X6_trace.2.1 4 = .ok (.ireturn, 1) := by decide +kernel
theorem d_X6_fault_0 : decode m_X6_fault.2.1 0 = .ok (.aload_n 0, 1) := by decide +kernel
theorem d_X6_fault_1 : decode m_X6_fault.2.1 1 = .ok (.getfield 52, 3) := by decide +kernel
theorem d_X6_fault_4 : decode m_X6_fault.2.1 4 = .ok (.ireturn, 1) := by decide +kernel
theorem d_X6_many_0 : decode m_X6_many.2.1 0 = .ok (.iload_n 1, 1) := by decide +kernel
theorem d_X6_many_1 : decode m_X6_many.2.1 1 = .ok (.tableswitch 78 0 6 #[43, 48, 53, 58, 63, 68, 73], 43) := by decide +kernel
theorem d_X6_many_44 : decode m_X6_many.2.1 44 = .ok (.aload_n 0, 1) := by decide +kernel
theorem d_X6_many_45 : decode m_X6_many.2.1 45 = .ok (.getfield 62, 3) := by decide +kernel
theorem d_X6_many_48 : decode m_X6_many.2.1 48 = .ok (.ireturn, 1) := by decide +kernel
theorem d_X6_many_49 : decode m_X6_many.2.1 49 = .ok (.aload_n 0, 1) := by decide +kernel
theorem d_X6_many_50 : decode m_X6_many.2.1 50 = .ok (.getfield 65, 3) := by decide +kernel
theorem d_X6_many_53 : decode m_X6_many.2.1 53 = .ok (.ireturn, 1) := by decide +kernel
theorem d_X6_many_54 : decode m_X6_many.2.1 54 = .ok (.aload_n 0, 1) := by decide +kernel
theorem d_X6_many_55 : decode m_X6_many.2.1 55 = .ok (.getfield 113, 3) := by decide +kernel
theorem d_X6_many_58 : decode m_X6_many.2.1 58 = .ok (.ireturn, 1) := by decide +kernel
theorem d_X6_many_59 : decode m_X6_many.2.1 59 = .ok (.aload_n 0, 1) := by decide +kernel
theorem d_X6_many_60 : decode m_X6_many.2.1 60 = .ok (.getfield 116, 3) := by decide +kernel
theorem d_X6_many_63 : decode m_X6_many.2.1 63 = .ok (.ireturn, 1) := by decide +kernel
theorem d_X6_many_64 : decode m_X6_many.2.1 64 = .ok (.aload_n 0, 1) := by decide +kernel
theorem d_X6_many_65 : decode m_X6_many.2.1 65 = .ok (.getfield 119, 3) := by decide +kernel
theorem d_X6_many_68 : decode m_X6_many.2.1 68 = .ok (.ireturn, 1) := by decide +kernel
theorem d_X6_many_69 : decode m_X6_many.2.1 69 = .ok (.aload_n 0, 1) := by decide +kernel
theorem d_X6_many_70 : decode m_X6_many.2.1 70 = .ok (.getfield 110, 3) := by decide +kernel
theorem d_X6_many_73 : decode m_X6_many.2.1 73 = .ok (.ireturn, 1) := by decide +kernel
theorem d_X6_many_74 : decode m_X6_many.2.1 74 = .ok (.aload_n 0, 1) := by decide +kernel
theorem d_X6_many_75 : decode m_X6_many.2.1 75 = .ok (.invokevirtual 151, 3) := by decide +kernel
theorem d_X6_many_78 : decode m_X6_many.2.1 78 = .ok (.ireturn, 1) := by decide +kernel
theorem d_X6_many_79 : decode m_X6_many.2.1 79 = .ok (.bipush (-2), 2) := by decide +kernel
theorem d_X6_many_81 : decode m_X6_many.2.1 81 = .ok (.ireturn, 1) := by decide +kernel
theorem d_J_bitCount_0 : decode m_J_bitCount.2.1 0 = .ok (.iload_n 0, 1) := by decide +kernel
theorem d_J_bitCount_1 : decode m_J_bitCount.2.1 1 = .ok (.iload_n 0, 1) := by decide +kernel
theorem d_J_bitCount_2 : decode m_J_bitCount.2.1 2 = .ok (.iconst 1, 1) := by decide +kernel
theorem d_J_bitCount_3 : decode m_J_bitCount.2.1 3 = .ok (.iushr, 1) := by decide +kernel
theorem d_J_bitCount_4 : decode m_J_bitCount.2.1 4 = .ok (.ldc_w 265, 3) := by decide +kernel
theorem d_J_bitCount_7 : decode m_J_bitCount.2.1 7 = .ok (.iand, 1) := by decide +kernel
theorem d_J_bitCount_8 : decode m_J_bitCount.2.1 8 = .ok (.isub, 1) := by decide +kernel
theorem d_J_bitCount_9 : decode m_J_bitCount.2.1 9 = .ok (.istore_n 0, 1) := by decide +kernel
theorem d_J_bitCount_10 : decode m_J_bitCount.2.1 10 = .ok (.iload_n 0, 1) := by decide +kernel
theorem d_J_bitCount_11 : decode m_J_bitCount.2.1 11 = .ok (.ldc_w 266, 3) := by decide +kernel
theorem d_J_bitCount_14 : decode m_J_bitCount.2.1 14 = .ok (.iand, 1) := by decide +kernel
theorem d_J_bitCount_15 : decode m_J_bitCount.2.1 15 = .ok (.iload_n 0, 1) := by decide +kernel
theorem d_J_bitCount_16 : decode m_J_bitCount.2.1 16 = .ok (.iconst 2, 1) := by decide +kernel
theorem d_J_bitCount_17 : decode m_J_bitCount.2.1 17 = .ok (.iushr, 1) := by decide +kernel
theorem d_J_bitCount_18 : decode m_J_bitCount.2.1 18 = .ok (.ldc_w 266, 3) := by decide +kernel
theorem d_J_bitCount_21 : decode m_J_bitCount.2.1 21 = .ok (.iand, 1) := by decide +kernel
theorem d_J_bitCount_22 : decode m_J_bitCount.2.1 22 = .ok (.iadd, 1) := by decide +kernel
theorem d_J_bitCount_23 : decode m_J_bitCount.2.1 23 = .ok (.istore_n 0, 1) := by decide +kernel
theorem d_J_bitCount_24 : decode m_J_bitCount.2.1 24 = .ok (.iload_n 0, 1) := by decide +kernel
theorem d_J_bitCount_25 : decode m_J_bitCount.2.1 25 = .ok (.iload_n 0, 1) := by decide +kernel
theorem d_J_bitCount_26 : decode m_J_bitCount.2.1 26 = .ok (.iconst 4, 1) := by decide +kernel
theorem d_J_bitCount_27 : decode m_J_bitCount.2.1 27 = .ok (.iushr, 1) := by decide +kernel
theorem d_J_bitCount_28 : decode m_J_bitCount.2.1 28 = .ok (.iadd, 1) := by decide +kernel
theorem d_J_bitCount_29 : decode m_J_bitCount.2.1 29 = .ok (.ldc_w 267, 3) := by decide +kernel
theorem d_J_bitCount_32 : decode m_J_bitCount.2.1 32 = .ok (.iand, 1) := by decide +kernel
theorem d_J_bitCount_33 : decode m_J_bitCount.2.1 33 = .ok (.istore_n 0, 1) := by decide +kernel
theorem d_J_bitCount_34 : decode m_J_bitCount.2.1 34 = .ok (.iload_n 0, 1) := by decide +kernel
theorem d_J_bitCount_35 : decode m_J_bitCount.2.1 35 = .ok (.iload_n 0, 1) := by decide +kernel
theorem d_J_bitCount_36 : decode m_J_bitCount.2.1 36 = .ok (.bipush 8, 2) := by decide +kernel
theorem d_J_bitCount_38 : decode m_J_bitCount.2.1 38 = .ok (.iushr, 1) := by decide +kernel
theorem d_J_bitCount_39 : decode m_J_bitCount.2.1 39 = .ok (.iadd, 1) := by decide +kernel
theorem d_J_bitCount_40 : decode m_J_bitCount.2.1 40 = .ok (.istore_n 0, 1) := by decide +kernel
theorem d_J_bitCount_41 : decode m_J_bitCount.2.1 41 = .ok (.iload_n 0, 1) := by decide +kernel
theorem d_J_bitCount_42 : decode m_J_bitCount.2.1 42 = .ok (.iload_n 0, 1) := by decide +kernel
theorem d_J_bitCount_43 : decode m_J_bitCount.2.1 43 = .ok (.bipush 16, 2) := by decide +kernel
theorem d_J_bitCount_45 : decode m_J_bitCount.2.1 45 = .ok (.iushr, 1) := by decide +kernel
theorem d_J_bitCount_46 : decode m_J_bitCount.2.1 46 = .ok (.iadd, 1) := by decide +kernel
theorem d_J_bitCount_47 : decode m_J_bitCount.2.1 47 = .ok (.istore_n 0, 1) := by decide +kernel
theorem d_J_bitCount_48 : decode m_J_bitCount.2.1 48 = .ok (.iload_n 0, 1) := by decide +kernel
theorem d_J_bitCount_49 : decode m_J_bitCount.2.1 49 = .ok (.bipush 63, 2) := by decide +kernel
theorem d_J_bitCount_51 : decode m_J_bitCount.2.1 51 = .ok (.iand, 1) := by decide +kernel
theorem d_J_bitCount_52 : decode m_J_bitCount.2.1 52 = .ok (.ireturn, 1) := by decide +kernel
theorem d_J_max_0 : decode m_J_max.2.1 0 = .ok (.iload_n 0, 1) := by decide +kernel
theorem d_J_max_1 : decode m_J_max.2.1 1 = .ok (.iload_n 1, 1) := by decide +kernel
theorem d_J_max_2 : decode m_J_max.2.1 2 = .ok (.if_icmp .lt 7, 3) := by decide +kernel
theorem d_J_max_5 : decode m_J_max.2.1 5 = .ok (.iload_n 0, 1) := by decide +kernel
theorem d_J_max_6 : decode m_J_max.2.1 6 = .ok (.goto 4, 3) := by decide +kernel
theorem d_J_max_9 : decode m_J_max.2.1 9 = .ok (.iload_n 1, 1) := by decide +kernel
theorem d_J_max_10 : decode m_J_max.2.1 10 = .ok (.ireturn, 1) := by decide +kernel
theorem d_J_min_0 : decode m_J_min.2.1 0 = .ok (.iload_n 0, 1) := by decide +kernel
theorem d_J_min_1 : decode m_J_min.2.1 1 = .ok (.iload_n 1, 1) := by decide +kernel
theorem d_J_min_2 : decode m_J_min.2.1 2 = .ok (.if_icmp .gt 7, 3) := by decide +kernel
theorem d_J_min_5 : decode m_J_min.2.1 5 = .ok (.iload_n 0, 1) := by decide +kernel
theorem d_J_min_6 : decode m_J_min.2.1 6 = .ok (.goto 4, 3) := by decide +kernel
theorem d_J_min_9 : decode m_J_min.2.1 9 = .ok (.iload_n 1, 1) := by decide +kernel
theorem d_J_min_10 : decode m_J_min.2.1 10 = .ok (.ireturn, 1) := by decide +kernel
theorem d_L_law_0 : decode m_L_law.2.1 0 = .ok (.new 7, 3) := by decide +kernel
theorem d_L_law_3 : decode m_L_law.2.1 3 = .ok (.dup, 1) := by decide +kernel
theorem d_L_law_4 : decode m_L_law.2.1 4 = .ok (.invokespecial 9, 3) := by decide +kernel
theorem d_L_law_7 : decode m_L_law.2.1 7 = .ok (.astore_n 1, 1) := by decide +kernel
theorem d_L_law_8 : decode m_L_law.2.1 8 = .ok (.new 10, 3) := by decide +kernel
theorem d_L_law_11 : decode m_L_law.2.1 11 = .ok (.dup, 1) := by decide +kernel
theorem d_L_law_12 : decode m_L_law.2.1 12 = .ok (.invokespecial 12, 3) := by decide +kernel
theorem d_L_law_15 : decode m_L_law.2.1 15 = .ok (.astore_n 2, 1) := by decide +kernel
theorem d_L_law_16 : decode m_L_law.2.1 16 = .ok (.iconst 0, 1) := by decide +kernel
theorem d_L_law_17 : decode m_L_law.2.1 17 = .ok (.istore_n 3, 1) := by decide +kernel
theorem d_L_law_18 : decode m_L_law.2.1 18 = .ok (.iload_n 3, 1) := by decide +kernel
theorem d_L_law_19 : decode m_L_law.2.1 19 = .ok (.aload_n 0, 1) := by decide +kernel
theorem d_L_law_20 : decode m_L_law.2.1 20 = .ok (.arraylength, 1) := by decide +kernel
theorem d_L_law_21 : decode m_L_law.2.1 21 = .ok (.bipush 6, 2) := by decide +kernel
theorem d_L_law_23 : decode m_L_law.2.1 23 = .ok (.isub, 1) := by decide +kernel
theorem d_L_law_24 : decode m_L_law.2.1 24 = .ok (.if_icmp .gt 1072, 3) := by decide +kernel
theorem d_L_law_27 : decode m_L_law.2.1 27 = .ok (.aload_n 0, 1) := by decide +kernel
theorem d_L_law_28 : decode m_L_law.2.1 28 = .ok (.iload_n 3, 1) := by decide +kernel
theorem d_L_law_29 : decode m_L_law.2.1 29 = .ok (.iaload, 1) := by decide +kernel
theorem d_L_law_30 : decode m_L_law.2.1 30 = .ok (.bipush 31, 2) := by decide +kernel
theorem d_L_law_32 : decode m_L_law.2.1 32 = .ok (.iand, 1) := by decide +kernel
theorem d_L_law_33 : decode m_L_law.2.1 33 = .ok (.tableswitch 1057 0 29 #[135, 188, 221, 254, 287, 310, 333, 356, 419, 452, 465, 498, 531, 564, 597, 620, 643, 666, 679, 713, 756, 779, 822, 866, 929, 952, 975, 1008, 1021, 1034], 135) := by decide +kernel
theorem d_L_law_168 : decode m_L_law.2.1 168 = .ok (.aload_n 1, 1) := by decide +kernel
theorem d_L_law_169 : decode m_L_law.2.1 169 = .ok (.aload_n 0, 1) := by decide +kernel
theorem d_L_law_170 : decode m_L_law.2.1 170 = .ok (.iload_n 3, 1) := by decide +kernel
theorem d_L_law_171 : decode m_L_law.2.1 171 = .ok (.iconst 1, 1) := by decide +kernel
theorem d_L_law_172 : decode m_L_law.2.1 172 = .ok (.iadd, 1) := by decide +kernel
theorem d_L_law_173 : decode m_L_law.2.1 173 = .ok (.iaload, 1) := by decide +kernel
theorem d_L_law_174 : decode m_L_law.2.1 174 = .ok (.aload_n 0, 1) := by decide +kernel
theorem d_L_law_175 : decode m_L_law.2.1 175 = .ok (.iload_n 3, 1) := by decide +kernel
theorem d_L_law_176 : decode m_L_law.2.1 176 = .ok (.iconst 2, 1) := by decide +kernel
theorem d_L_law_177 : decode m_L_law.2.1 177 = .ok (.iadd, 1) := by decide +kernel
theorem d_L_law_178 : decode m_L_law.2.1 178 = .ok (.iaload, 1) := by decide +kernel
theorem d_L_law_179 : decode m_L_law.2.1 179 = .ok (.aload_n 0, 1) := by decide +kernel
theorem d_L_law_180 : decode m_L_law.2.1 180 = .ok (.iload_n 3, 1) := by decide +kernel
theorem d_L_law_181 : decode m_L_law.2.1 181 = .ok (.iconst 3, 1) := by decide +kernel
theorem d_L_law_182 : decode m_L_law.2.1 182 = .ok (.iadd, 1) := by decide +kernel
theorem d_L_law_183 : decode m_L_law.2.1 183 = .ok (.iaload, 1) := by decide +kernel
theorem d_L_law_184 : decode m_L_law.2.1 184 = .ok (.aload_n 0, 1) := by decide +kernel
theorem d_L_law_185 : decode m_L_law.2.1 185 = .ok (.iload_n 3, 1) := by decide +kernel
theorem d_L_law_186 : decode m_L_law.2.1 186 = .ok (.iconst 4, 1) := by decide +kernel
theorem d_L_law_187 : decode m_L_law.2.1 187 = .ok (.iadd, 1) := by decide +kernel
theorem d_L_law_188 : decode m_L_law.2.1 188 = .ok (.iaload, 1) := by decide +kernel
theorem d_L_law_189 : decode m_L_law.2.1 189 = .ok (.invokevirtual 13, 3) := by decide +kernel
theorem d_L_law_192 : decode m_L_law.2.1 192 = .ok (.aload_n 2, 1) := by decide +kernel
theorem d_L_law_193 : decode m_L_law.2.1 193 = .ok (.aload_n 0, 1) := by decide +kernel
theorem d_L_law_194 : decode m_L_law.2.1 194 = .ok (.iload_n 3, 1) := by decide +kernel
theorem d_L_law_195 : decode m_L_law.2.1 195 = .ok (.iconst 1, 1) := by decide +kernel
theorem d_L_law_196 : decode m_L_law.2.1 196 = .ok (.iadd, 1) := by decide +kernel
theorem d_L_law_197 : decode m_L_law.2.1 197 = .ok (.iaload, 1) := by decide +kernel
theorem d_L_law_198 : decode m_L_law.2.1 198 = .ok (.aload_n 0, 1) := by decide +kernel
theorem d_L_law_199 : decode m_L_law.2.1 199 = .ok (.iload_n 3, 1) := by decide +kernel
theorem d_L_law_200 : decode m_L_law.2.1 200 = .ok (.iconst 2, 1) := by decide +kernel
theorem d_L_law_201 : decode m_L_law.2.1 201 = .ok (.iadd, 1) := by decide +kernel
theorem d_L_law_202 : decode m_L_law.2.1 202 = .ok (.iaload, 1) := by decide +kernel
theorem d_L_law_203 : decode m_L_law.2.1 203 = .ok (.aload_n 0, 1) := by decide +kernel
theorem d_L_law_204 : decode m_L_law.2.1 204 = .ok (.iload_n 3, 1) := by decide +kernel
theorem d_L_law_205 : decode m_L_law.2.1 205 = .ok (.iconst 3, 1) := by decide +kernel
theorem d_L_law_206 : decode m_L_law.2.1 206 = .ok (.iadd, 1) := by decide +kernel
theorem d_L_law_207 : decode m_L_law.2.1 207 = .ok (.iaload, 1) := by decide +kernel
theorem d_L_law_208 : decode m_L_law.2.1 208 = .ok (.aload_n 0, 1) := by decide +kernel
theorem d_L_law_209 : decode m_L_law.2.1 209 = .ok (.iload_n 3, 1) := by decide +kernel
theorem d_L_law_210 : decode m_L_law.2.1 210 = .ok (.iconst 4, 1) := by decide +kernel
theorem d_L_law_211 : decode m_L_law.2.1 211 = .ok (.iadd, 1) := by decide +kernel
theorem d_L_law_212 : decode m_L_law.2.1 212 = .ok (.iaload, 1) := by decide +kernel
theorem d_L_law_213 : decode m_L_law.2.1 213 = .ok (.invokevirtual 17, 3) := by decide +kernel
theorem d_L_law_216 : decode m_L_law.2.1 216 = .ok (.if_icmp .eq 874, 3) := by decide +kernel
theorem d_L_law_219 : decode m_L_law.2.1 219 = .ok (.iconst 0, 1) := by decide +kernel
theorem d_L_law_220 : decode m_L_law.2.1 220 = .ok (.ireturn, 1) := by decide +kernel
theorem d_L_law_221 : decode m_L_law.2.1 221 = .ok (.aload_n 1, 1) := by decide +kernel
theorem d_L_law_222 : decode m_L_law.2.1 222 = .ok (.aload_n 0, 1) := by decide +kernel
theorem d_L_law_223 : decode m_L_law.2.1 223 = .ok (.iload_n 3, 1) := by decide +kernel
theorem d_L_law_224 : decode m_L_law.2.1 224 = .ok (.iconst 1, 1) := by decide +kernel
theorem d_L_law_225 : decode m_L_law.2.1 225 = .ok (.iadd, 1) := by decide +kernel
theorem d_L_law_226 : decode m_L_law.2.1 226 = .ok (.iaload, 1) := by decide +kernel
theorem d_L_law_227 : decode m_L_law.2.1 227 = .ok (.aload_n 0, 1) := by decide +kernel
theorem d_L_law_228 : decode m_L_law.2.1 228 = .ok (.iload_n 3, 1) := by decide +kernel
theorem d_L_law_229 : decode m_L_law.2.1 229 = .ok (.iconst 2, 1) := by decide +kernel
theorem d_L_law_230 : decode m_L_law.2.1 230 = .ok (.iadd, 1) := by decide +kernel
theorem d_L_law_231 : decode m_L_law.2.1 231 = .ok (.iaload, 1) := by decide +kernel
theorem d_L_law_232 : decode m_L_law.2.1 232 = .ok (.invokevirtual 18, 3) := by decide +kernel
theorem d_L_law_235 : decode m_L_law.2.1 235 = .ok (.aload_n 2, 1) := by decide +kernel
theorem d_L_law_236 : decode m_L_law.2.1 236 = .ok (.aload_n 0, 1) := by decide +kernel
theorem d_L_law_237 : decode m_L_law.2.1 237 = .ok (.iload_n 3, 1) := by decide +kernel
theorem d_L_law_238 : decode m_L_law.2.1 238 = .ok (.iconst 1, 1) := by decide +kernel
theorem d_L_law_239 : decode m_L_law.2.1 239 = .ok (.iadd, 1) := by decide +kernel
theorem d_L_law_240 : decode m_L_law.2.1 240 = .ok (.iaload, 1) := by decide +kernel
theorem d_L_law_241 : decode m_L_law.2.1 241 = .ok (.aload_n 0, 1) := by decide +kernel
theorem d_L_law_242 : decode m_L_law.2.1 242 = .ok (.iload_n 3, 1) := by decide +kernel
theorem d_L_law_243 : decode m_L_law.2.1 243 = .ok (.iconst 2, 1) := by decide +kernel
theorem d_L_law_244 : decode m_L_law.2.1 244 = .ok (.iadd, 1) := by decide +kernel
theorem d_L_law_245 : decode m_L_law.2.1 245 = .ok (.iaload, 1) := by decide +kernel
theorem d_L_law_246 : decode m_L_law.2.1 246 = .ok (.invokevirtual 22, 3) := by decide +kernel
theorem d_L_law_249 : decode m_L_law.2.1 249 = .ok (.if_icmp .eq 841, 3) := by decide +kernel
theorem d_L_law_252 : decode m_L_law.2.1 252 = .ok (.iconst 0, 1) := by decide +kernel
theorem d_L_law_253 : decode m_L_law.2.1 253 = .ok (.ireturn, 1) := by decide +kernel
theorem d_L_law_254 : decode m_L_law.2.1 254 = .ok (.aload_n 1, 1) := by decide +kernel
theorem d_L_law_255 : decode m_L_law.2.1 255 = .ok (.aload_n 0, 1) := by decide +kernel
theorem d_L_law_256 : decode m_L_law.2.1 256 = .ok (.iload_n 3, 1) := by decide +kernel
theorem d_L_law_257 : decode m_L_law.2.1 257 = .ok (.iconst 1, 1) := by decide +kernel
theorem d_L_law_258 : decode m_L_law.2.1 258 = .ok (.iadd, 1) := by decide +kernel
theorem d_L_law_259 : decode m_L_law.2.1 259 = .ok (.iaload, 1) := by decide +kernel
theorem d_L_law_260 : decode m_L_law.2.1 260 = .ok (.aload_n 0, 1) := by decide +kernel
theorem d_L_law_261 : decode m_L_law.2.1 261 = .ok (.iload_n 3, 1) := by decide +kernel
theorem d_L_law_262 : decode m_L_law.2.1 262 = .ok (.iconst 2, 1) := by decide +kernel
theorem d_L_law_263 : decode m_L_law.2.1 263 = .ok (.iadd, 1) := by decide +kernel
theorem d_L_law_264 : decode m_L_law.2.1 264 = .ok (.iaload, 1) := by decide +kernel
theorem d_L_law_265 : decode m_L_law.2.1 265 = .ok (.invokevirtual 23, 3) := by decide +kernel
theorem d_L_law_268 : decode m_L_law.2.1 268 = .ok (.aload_n 2, 1) := by decide +kernel
theorem d_L_law_269 : decode m_L_law.2.1 269 = .ok (.aload_n 0, 1) := by decide +kernel
theorem d_L_law_270 : decode m_L_law.2.1 270 = .ok (.iload_n 3, 1) := by decide +kernel
theorem d_L_law_271 : decode m_L_law.2.1 271 = .ok (.iconst 1, 1) := by decide +kernel
theorem d_L_law_272 : decode m_L_law.2.1 272 = .ok (.iadd, 1) := by decide +kernel
theorem d_L_law_273 : decode m_L_law.2.1 273 = .ok (.iaload, 1) := by decide +kernel
theorem d_L_law_274 : decode m_L_law.2.1 274 = .ok (.aload_n 0, 1) := by decide +kernel
theorem d_L_law_275 : decode m_L_law.2.1 275 = .ok (.iload_n 3, 1) := by decide +kernel
theorem d_L_law_276 : decode m_L_law.2.1 276 = .ok (.iconst 2, 1) := by decide +kernel
theorem d_L_law_277 : decode m_L_law.2.1 277 = .ok (.iadd, 1) := by decide +kernel
theorem d_L_law_278 : decode m_L_law.2.1 278 = .ok (.iaload, 1) := by decide +kernel
theorem d_L_law_279 : decode m_L_law.2.1 279 = .ok (.invokevirtual 26, 3) := by decide +kernel
theorem d_L_law_282 : decode m_L_law.2.1 282 = .ok (.if_icmp .eq 808, 3) := by decide +kernel
theorem d_L_law_285 : decode m_L_law.2.1 285 = .ok (.iconst 0, 1) := by decide +kernel
theorem d_L_law_286 : decode m_L_law.2.1 286 = .ok (.ireturn, 1) := by decide +kernel
theorem d_L_law_287 : decode m_L_law.2.1 287 = .ok (.aload_n 1, 1) := by decide +kernel
theorem d_L_law_288 : decode m_L_law.2.1 288 = .ok (.aload_n 0, 1) := by decide +kernel
theorem d_L_law_289 : decode m_L_law.2.1 289 = .ok (.iload_n 3, 1) := by decide +kernel
theorem d_L_law_290 : decode m_L_law.2.1 290 = .ok (.iconst 1, 1) := by decide +kernel
theorem d_L_law_291 : decode m_L_law.2.1 291 = .ok (.iadd, 1) := by decide +kernel
theorem d_L_law_292 : decode m_L_law.2.1 292 = .ok (.iaload, 1) := by decide +kernel
theorem d_L_law_293 : decode m_L_law.2.1 293 = .ok (.aload_n 0, 1) := by decide +kernel
theorem d_L_law_294 : decode m_L_law.2.1 294 = .ok (.iload_n 3, 1) := by decide +kernel
theorem d_L_law_295 : decode m_L_law.2.1 295 = .ok (.iconst 2, 1) := by decide +kernel
theorem d_L_law_296 : decode m_L_law.2.1 296 = .ok (.iadd, 1) := by decide +kernel
theorem d_L_law_297 : decode m_L_law.2.1 297 = .ok (.iaload, 1) := by decide +kernel
theorem d_L_law_298 : decode m_L_law.2.1 298 = .ok (.invokevirtual 27, 3) := by decide +kernel
theorem d_L_law_301 : decode m_L_law.2.1 301 = .ok (.aload_n 2, 1) := by decide +kernel
theorem d_L_law_302 : decode m_L_law.2.1 302 = .ok (.aload_n 0, 1) := by decide +kernel
theorem d_L_law_303 : decode m_L_law.2.1 303 = .ok (.iload_n 3, 1) := by decide +kernel
theorem d_L_law_304 : decode m_L_law.2.1 304 = .ok (.iconst 1, 1) := by decide +kernel
theorem d_L_law_305 : decode m_L_law.2.1 305 = .ok (.iadd, 1) := by decide +kernel
theorem d_L_law_306 : decode m_L_law.2.1 306 = .ok (.iaload, 1) := by decide +kernel
theorem d_L_law_307 : decode m_L_law.2.1 307 = .ok (.aload_n 0, 1) := by decide +kernel
theorem d_L_law_308 : decode m_L_law.2.1 308 = .ok (.iload_n 3, 1) := by decide +kernel
theorem d_L_law_309 : decode m_L_law.2.1 309 = .ok (.iconst 2, 1) := by decide +kernel
theorem d_L_law_310 : decode m_L_law.2.1 310 = .ok (.iadd, 1) := by decide +kernel
theorem d_L_law_311 : decode m_L_law.2.1 311 = .ok (.iaload, 1) := by decide +kernel
theorem d_L_law_312 : decode m_L_law.2.1 312 = .ok (.invokevirtual 30, 3) := by decide +kernel
theorem d_L_law_315 : decode m_L_law.2.1 315 = .ok (.if_icmp .eq 775, 3) := by decide +kernel
theorem d_L_law_318 : decode m_L_law.2.1 318 = .ok (.iconst 0, 1) := by decide +kernel
theorem d_L_law_319 : decode m_L_law.2.1 319 = .ok (.ireturn, 1) := by decide +kernel
theorem d_L_law_320 : decode m_L_law.2.1 320 = .ok (.aload_n 1, 1) := by decide +kernel
theorem d_L_law_321 : decode m_L_law.2.1 321 = .ok (.aload_n 0, 1) := by decide +kernel
theorem d_L_law_322 : decode m_L_law.2.1 322 = .ok (.iload_n 3, 1) := by decide +kernel
theorem d_L_law_323 : decode m_L_law.2.1 323 = .ok (.iconst 1, 1) := by decide +kernel
theorem d_L_law_324 : decode m_L_law.2.1 324 = .ok (.iadd, 1) := by decide +kernel
theorem d_L_law_325 : decode m_L_law.2.1 325 = .ok (.iaload, 1) := by decide +kernel
theorem d_L_law_326 : decode m_L_law.2.1 326 = .ok (.invokevirtual 31, 3) := by decide +kernel
theorem d_L_law_329 : decode m_L_law.2.1 329 = .ok (.aload_n 2, 1) := by decide +kernel
theorem d_L_law_330 : decode m_L_law.2.1 330 = .ok (.aload_n 0, 1) := by decide +kernel
theorem d_L_law_331 : decode m_L_law.2.1 331 = .ok (.iload_n 3, 1) := by decide +kernel
theorem d_L_law_332 : decode m_L_law.2.1 332 = .ok (.iconst 1, 1) := by decide +kernel
theorem d_L_law_333 : decode m_L_law.2.1 333 = .ok (.iadd, 1) := by decide +kernel
theorem d_L_law_334 : decode m_L_law.2.1 334 = .ok (.iaload, 1) := by decide +kernel
theorem d_L_law_335 : decode m_L_law.2.1 335 = .ok (.invokevirtual 35, 3) := by decide +kernel
theorem d_L_law_338 : decode m_L_law.2.1 338 = .ok (.if_icmp .eq 752, 3) := by decide +kernel
theorem d_L_law_341 : decode m_L_law.2.1 341 = .ok (.iconst 0, 1) := by decide +kernel
theorem d_L_law_342 : decode m_L_law.2.1 342 = .ok (.ireturn, 1) := by decide +kernel
theorem d_L_law_343 : decode m_L_law.2.1 343 = .ok (.aload_n 1, 1) := by decide +kernel
theorem d_L_law_344 : decode m_L_law.2.1 344 = .ok (.aload_n 0, 1) := by decide +kernel
theorem d_L_law_345 : decode m_L_law.2.1 345 = .ok (.iload_n 3, 1) := by decide +kernel
theorem d_L_law_346 : decode m_L_law.2.1 346 = .ok (.iconst 1, 1) := by decide +kernel
theorem d_L_law_347 : decode m_L_law.2.1 347 = .ok (.iadd, 1) := by decide +kernel
theorem d_L_law_348 : decode m_L_law.2.1 348 = .ok (.iaload, 1) := by decide +kernel
theorem d_L_law_349 : decode m_L_law.2.1 349 = .ok (.invokevirtual 36, 3) := by decide +kernel
theorem d_L_law_352 : decode m_L_law.2.1 352 = .ok (.aload_n 2, 1) := by decide +kernel
theorem d_L_law_353 : decode m_L_law.2.1 353 = .ok (.aload_n 0, 1) := by decide +kernel
theorem d_L_law_354 : decode m_L_law.2.1 354 = .ok (.iload_n 3, 1) := by decide +kernel
theorem d_L_law_355 : decode m_L_law.2.1 355 = .ok (.iconst 1, 1) := by decide +kernel
theorem d_L_law_356 : decode m_L_law.2.1 356 = .ok (.iadd, 1) := by decide +kernel
theorem d_L_law_357 : decode m_L_law.2.1 357 = .ok (.iaload, 1) := by decide +kernel
theorem d_L_law_358 : decode m_L_law.2.1 358 = .ok (.invokevirtual 39, 3) := by decide +kernel
theorem d_L_law_361 : decode m_L_law.2.1 361 = .ok (.if_icmp .eq 729, 3) := by decide +kernel
theorem d_L_law_364 : decode m_L_law.2.1 364 = .ok (.iconst 0, 1) := by decide +kernel
theorem d_L_law_365 : decode m_L_law.2.1 365 = .ok (.ireturn, 1) := by decide +kernel
theorem d_L_law_366 : decode m_L_law.2.1 366 = .ok (.aload_n 1, 1) := by decide +kernel
theorem d_L_law_367 : decode m_L_law.2.1 367 = .ok (.aload_n 0, 1) := by decide +kernel
theorem d_L_law_368 : decode m_L_law.2.1 368 = .ok (.iload_n 3, 1) := by decide +kernel
theorem d_L_law_369 : decode m_L_law.2.1 369 = .ok (.iconst 1, 1) := by decide +kernel
theorem d_L_law_370 : decode m_L_law.2.1 370 = .ok (.iadd, 1) := by decide +kernel
theorem d_L_law_371 : decode m_L_law.2.1 371 = .ok (.iaload, 1) := by decide +kernel
theorem d_L_law_372 : decode m_L_law.2.1 372 = .ok (.invokevirtual 40, 3) := by decide +kernel
theorem d_L_law_375 : decode m_L_law.2.1 375 = .ok (.aload_n 2, 1) := by decide +kernel
theorem d_L_law_376 : decode m_L_law.2.1 376 = .ok (.aload_n 0, 1) := by decide +kernel
theorem d_L_law_377 : decode m_L_law.2.1 377 = .ok (.iload_n 3, 1) := by decide +kernel
theorem d_L_law_378 : decode m_L_law.2.1 378 = .ok (.iconst 1, 1) := by decide +kernel
theorem d_L_law_379 : decode m_L_law.2.1 379 = .ok (.iadd, 1) := by decide +kernel
theorem d_L_law_380 : decode m_L_law.2.1 380 = .ok (.iaload, 1) := by decide +kernel
theorem d_L_law_381 : decode m_L_law.2.1 381 = .ok (.invokevirtual 43, 3) := by decide +kernel
theorem d_L_law_384 : decode m_L_law.2.1 384 = .ok (.if_icmp .eq 706, 3) := by decide +kernel
theorem d_L_law_387 : decode m_L_law.2.1 387 = .ok (.iconst 0, 1) := by decide +kernel
theorem d_L_law_388 : decode m_L_law.2.1 388 = .ok (.ireturn, 1) := by decide +kernel
theorem d_L_law_389 : decode m_L_law.2.1 389 = .ok (.aload_n 1, 1) := by decide +kernel
theorem d_L_law_390 : decode m_L_law.2.1 390 = .ok (.aload_n 0, 1) := by decide +kernel
theorem d_L_law_391 : decode m_L_law.2.1 391 = .ok (.iload_n 3, 1) := by decide +kernel
theorem d_L_law_392 : decode m_L_law.2.1 392 = .ok (.iconst 1, 1) := by decide +kernel
theorem d_L_law_393 : decode m_L_law.2.1 393 = .ok (.iadd, 1) := by decide +kernel
theorem d_L_law_394 : decode m_L_law.2.1 394 = .ok (.iaload, 1) := by decide +kernel
theorem d_L_law_395 : decode m_L_law.2.1 395 = .ok (.aload_n 0, 1) := by decide +kernel
theorem d_L_law_396 : decode m_L_law.2.1 396 = .ok (.iload_n 3, 1) := by decide +kernel
theorem d_L_law_397 : decode m_L_law.2.1 397 = .ok (.iconst 2, 1) := by decide +kernel
theorem d_L_law_398 : decode m_L_law.2.1 398 = .ok (.iadd, 1) := by decide +kernel
theorem d_L_law_399 : decode m_L_law.2.1 399 = .ok (.iaload, 1) := by decide +kernel
theorem d_L_law_400 : decode m_L_law.2.1 400 = .ok (.aload_n 0, 1) := by decide +kernel
theorem d_L_law_401 : decode m_L_law.2.1 401 = .ok (.iload_n 3, 1) := by decide +kernel
theorem d_L_law_402 : decode m_L_law.2.1 402 = .ok (.iconst 3, 1) := by decide +kernel
theorem d_L_law_403 : decode m_L_law.2.1 403 = .ok (.iadd, 1) := by decide +kernel
theorem d_L_law_404 : decode m_L_law.2.1 404 = .ok (.iaload, 1) := by decide +kernel
theorem d_L_law_405 : decode m_L_law.2.1 405 = .ok (.aload_n 0, 1) := by decide +kernel
theorem d_L_law_406 : decode m_L_law.2.1 406 = .ok (.iload_n 3, 1) := by decide +kernel
theorem d_L_law_407 : decode m_L_law.2.1 407 = .ok (.iconst 4, 1) := by decide +kernel
theorem d_L_law_408 : decode m_L_law.2.1 408 = .ok (.iadd, 1) := by decide +kernel
theorem d_L_law_409 : decode m_L_law.2.1 409 = .ok (.iaload, 1) := by decide +kernel
theorem d_L_law_410 : decode m_L_law.2.1 410 = .ok (.aload_n 0, 1) := by decide +kernel
theorem d_L_law_411 : decode m_L_law.2.1 411 = .ok (.iload_n 3, 1) := by decide +kernel
theorem d_L_law_412 : decode m_L_law.2.1 412 = .ok (.iconst 5, 1) := by decide +kernel
theorem d_L_law_413 : decode m_L_law.2.1 413 = .ok (.iadd, 1) := by decide +kernel
theorem d_L_law_414 : decode m_L_law.2.1 414 = .ok (.iaload, 1) := by decide +kernel
theorem d_L_law_415 : decode m_L_law.2.1 415 = .ok (.invokevirtual 44, 3) := by decide +kernel
theorem d_L_law_418 : decode m_L_law.2.1 418 = .ok (.aload_n 2, 1) := by decide +kernel
theorem d_L_law_419 : decode m_L_law.2.1 419 = .ok (.aload_n 0, 1) := by decide +kernel
theorem d_L_law_420 : decode m_L_law.2.1 420 = .ok (.iload_n 3, 1) := by decide +kernel
theorem d_L_law_421 : decode m_L_law.2.1 421 = .ok (.iconst 1, 1) := by decide +kernel
theorem d_L_law_422 : decode m_L_law.2.1 422 = .ok (.iadd, 1) := by decide +kernel
theorem d_L_law_423 : decode m_L_law.2.1 423 = .ok (.iaload, 1) := by decide +kernel
theorem d_L_law_424 : decode m_L_law.2.1 424 = .ok (.aload_n 0, 1) := by decide +kernel
theorem d_L_law_425 : decode m_L_law.2.1 425 = .ok (.iload_n 3, 1) := by decide +kernel
theorem d_L_law_426 : decode m_L_law.2.1 426 = .ok (.iconst 2, 1) := by decide +kernel
theorem d_L_law_427 : decode m_L_law.2.1 427 = .ok (.iadd, 1) := by decide +kernel
theorem d_L_law_428 : decode m_L_law.2.1 428 = .ok (.iaload, 1) := by decide +kernel
theorem d_L_law_429 : decode m_L_law.2.1 429 = .ok (.aload_n 0, 1) := by decide +kernel
theorem d_L_law_430 : decode m_L_law.2.1 430 = .ok (.iload_n 3, 1) := by decide +kernel
theorem d_L_law_431 : decode m_L_law.2.1 431 = .ok (.iconst 3, 1) := by decide +kernel
theorem d_L_law_432 : decode m_L_law.2.1 432 = .ok (.iadd, 1) := by decide +kernel
theorem d_L_law_433 : decode m_L_law.2.1 433 = .ok (.iaload, 1) := by decide +kernel
theorem d_L_law_434 : decode m_L_law.2.1 434 = .ok (.aload_n 0, 1) := by decide +kernel
theorem d_L_law_435 : decode m_L_law.2.1 435 = .ok (.iload_n 3, 1) := by decide +kernel
theorem d_L_law_436 : decode m_L_law.2.1 436 = .ok (.iconst 4, 1) := by decide +kernel
theorem d_L_law_437 : decode m_L_law.2.1 437 = .ok (.iadd, 1) := by decide +kernel
theorem d_L_law_438 : decode m_L_law.2.1 438 = .ok (.iaload, 1) := by decide +kernel
theorem d_L_law_439 : decode m_L_law.2.1 439 = .ok (.aload_n 0, 1) := by decide +kernel
theorem d_L_law_440 : decode m_L_law.2.1 440 = .ok (.iload_n 3, 1) := by decide +kernel
theorem d_L_law_441 : decode m_L_law.2.1 441 = .ok (.iconst 5, 1) := by decide +kernel
theorem d_L_law_442 : decode m_L_law.2.1 442 = .ok (.iadd, 1) := by decide +kernel
theorem d_L_law_443 : decode m_L_law.2.1 443 = .ok (.iaload, 1) := by decide +kernel
theorem d_L_law_444 : decode m_L_law.2.1 444 = .ok (.invokevirtual 48, 3) := by decide +kernel
theorem d_L_law_447 : decode m_L_law.2.1 447 = .ok (.if_icmp .eq 643, 3) := by decide +kernel
theorem d_L_law_450 : decode m_L_law.2.1 450 = .ok (.iconst 0, 1) := by decide +kernel
theorem d_L_law_451 : decode m_L_law.2.1 451 = .ok (.ireturn, 1) := by decide +kernel
theorem d_L_law_452 : decode m_L_law.2.1 452 = .ok (.aload_n 1, 1) := by decide +kernel
theorem d_L_law_453 : decode m_L_law.2.1 453 = .ok (.aload_n 0, 1) := by decide +kernel
theorem d_L_law_454 : decode m_L_law.2.1 454 = .ok (.iload_n 3, 1) := by decide +kernel
theorem d_L_law_455 : decode m_L_law.2.1 455 = .ok (.iconst 1, 1) := by decide +kernel
theorem d_L_law_456 : decode m_L_law.2.1 456 = .ok (.iadd, 1) := by decide +kernel
theorem d_L_law_457 : decode m_L_law.2.1 457 = .ok (.iaload, 1) := by decide +kernel
theorem d_L_law_458 : decode m_L_law.2.1 458 = .ok (.aload_n 0, 1) := by decide +kernel
theorem d_L_law_459 : decode m_L_law.2.1 459 = .ok (.iload_n 3, 1) := by decide +kernel
theorem d_L_law_460 : decode m_L_law.2.1 460 = .ok (.iconst 2, 1) := by decide +kernel
theorem d_L_law_461 : decode m_L_law.2.1 461 = .ok (.iadd, 1) := by decide +kernel
theorem d_L_law_462 : decode m_L_law.2.1 462 = .ok (.iaload, 1) := by decide +kernel
theorem d_L_law_463 : decode m_L_law.2.1 463 = .ok (.invokevirtual 49, 3) := by decide +kernel
theorem d_L_law_466 : decode m_L_law.2.1 466 = .ok (.aload_n 2, 1) := by decide +kernel
theorem d_L_law_467 : decode m_L_law.2.1 467 = .ok (.aload_n 0, 1) := by decide +kernel
theorem d_L_law_468 : decode m_L_law.2.1 468 = .ok (.iload_n 3, 1) := by decide +kernel
theorem d_L_law_469 : decode m_L_law.2.1 469 = .ok (.iconst 1, 1) := by decide +kernel
theorem d_L_law_470 : decode m_L_law.2.1 470 = .ok (.iadd, 1) := by decide +kernel
theorem d_L_law_471 : decode m_L_law.2.1 471 = .ok (.iaload, 1) := by decide +kernel
theorem d_L_law_472 : decode m_L_law.2.1 472 = .ok (.aload_n 0, 1) := by decide +kernel
theorem d_L_law_473 : decode m_L_law.2.1 473 = .ok (.iload_n 3, 1) := by decide +kernel
theorem d_L_law_474 : decode m_L_law.2.1 474 = .ok (.iconst 2, 1) := by decide +kernel
theorem d_L_law_475 : decode m_L_law.2.1 475 = .ok (.iadd, 1) := by decide +kernel
theorem d_L_law_476 : decode m_L_law.2.1 476 = .ok (.iaload, 1) := by decide +kernel
theorem d_L_law_477 : decode m_L_law.2.1 477 = .ok (.invokevirtual 52, 3) := by decide +kernel
theorem d_L_law_480 : decode m_L_law.2.1 480 = .ok (.if_icmp .eq 610, 3) := by decide +kernel
theorem d_L_law_483 : decode m_L_law.2.1 483 = .ok (.iconst 0, 1) := by decide +kernel
theorem d_L_law_484 : decode m_L_law.2.1 484 = .ok (.ireturn, 1) := by decide +kernel
theorem d_L_law_485 : decode m_L_law.2.1 485 = .ok (.aload_n 1, 1) := by decide +kernel
theorem d_L_law_486 : decode m_L_law.2.1 486 = .ok (.invokevirtual 53, 3) := by decide +kernel
theorem d_L_law_489 : decode m_L_law.2.1 489 = .ok (.aload_n 2, 1) := by decide +kernel
theorem d_L_law_490 : decode m_L_law.2.1 490 = .ok (.invokevirtual 57, 3) := by decide +kernel
theorem d_L_law_493 : decode m_L_law.2.1 493 = .ok (.if_icmp .eq 597, 3) := by decide +kernel
theorem d_L_law_496 : decode m_L_law.2.1 496 = .ok (.iconst 0, 1) := by decide +kernel
theorem d_L_law_497 : decode m_L_law.2.1 497 = .ok (.ireturn, 1) := by decide +kernel
theorem d_L_law_498 : decode m_L_law.2.1 498 = .ok (.aload_n 1, 1) := by decide +kernel
theorem d_L_law_499 : decode m_L_law.2.1 499 = .ok (.aload_n 0, 1) := by decide +kernel
theorem d_L_law_500 : decode m_L_law.2.1 500 = .ok (.iload_n 3, 1) := by decide +kernel
theorem d_L_law_501 : decode m_L_law.2.1 501 = .ok (.iconst 1, 1) := by decide +kernel
theorem d_L_law_502 : decode m_L_law.2.1 502 = .ok (.iadd, 1) := by decide +kernel
theorem d_L_law_503 : decode m_L_law.2.1 503 = .ok (.iaload, 1) := by decide +kernel
theorem d_L_law_504 : decode m_L_law.2.1 504 = .ok (.aload_n 0, 1) := by decide +kernel
theorem d_L_law_505 : decode m_L_law.2.1 505 = .ok (.iload_n 3, 1) := by decide +kernel
theorem d_L_law_506 : decode m_L_law.2.1 506 = .ok (.iconst 2, 1) := by decide +kernel
theorem d_L_law_507 : decode m_L_law.2.1 507 = .ok (.iadd, 1) := by decide +kernel
theorem d_L_law_508 : decode m_L_law.2.1 508 = .ok (.iaload, 1) := by decide +kernel
theorem d_L_law_509 : decode m_L_law.2.1 509 = .ok (.invokevirtual 58, 3) := by decide +kernel
theorem d_L_law_512 : decode m_L_law.2.1 512 = .ok (.aload_n 2, 1) := by decide +kernel
theorem d_L_law_513 : decode m_L_law.2.1 513 = .ok (.aload_n 0, 1) := by decide +kernel
theorem d_L_law_514 : decode m_L_law.2.1 514 = .ok (.iload_n 3, 1) := by decide +kernel
theorem d_L_law_515 : decode m_L_law.2.1 515 = .ok (.iconst 1, 1) := by decide +kernel
theorem d_L_law_516 : decode m_L_law.2.1 516 = .ok (.iadd, 1) := by decide +kernel
theorem d_L_law_517 : decode m_L_law.2.1 517 = .ok (.iaload, 1) := by decide +kernel
theorem d_L_law_518 : decode m_L_law.2.1 518 = .ok (.aload_n 0, 1) := by decide +kernel
theorem d_L_law_519 : decode m_L_law.2.1 519 = .ok (.iload_n 3, 1) := by decide +kernel
theorem d_L_law_520 : decode m_L_law.2.1 520 = .ok (.iconst 2, 1) := by decide +kernel
theorem d_L_law_521 : decode m_L_law.2.1 521 = .ok (.iadd, 1) := by decide +kernel
theorem d_L_law_522 : decode m_L_law.2.1 522 = .ok (.iaload, 1) := by decide +kernel
theorem d_L_law_523 : decode m_L_law.2.1 523 = .ok (.invokevirtual 61, 3) := by decide +kernel
theorem d_L_law_526 : decode m_L_law.2.1 526 = .ok (.if_icmp .eq 564, 3) := by decide +kernel
theorem d_L_law_529 : decode m_L_law.2.1 529 = .ok (.iconst 0, 1) := by decide +kernel
theorem d_L_law_530 : decode m_L_law.2.1 530 = .ok (.ireturn, 1) := by decide +kernel
theorem d_L_law_531 : decode m_L_law.2.1 531 = .ok (.aload_n 1, 1) := by decide +kernel
theorem d_L_law_532 : decode m_L_law.2.1 532 = .ok (.aload_n 0, 1) := by decide +kernel
theorem d_L_law_533 : decode m_L_law.2.1 533 = .ok (.iload_n 3, 1) := by decide +kernel
theorem d_L_law_534 : decode m_L_law.2.1 534 = .ok (.iconst 1, 1) := by decide +kernel
theorem d_L_law_535 : decode m_L_law.2.1 535 = .ok (.iadd, 1) := by decide +kernel
theorem d_L_law_536 : decode m_L_law.2.1 536 = .ok (.iaload, 1) := by decide +kernel
theorem d_L_law_537 : decode m_L_law.2.1 537 = .ok (.aload_n 0, 1) := by decide +kernel
theorem d_L_law_538 : decode m_L_law.2.1 538 = .ok (.iload_n 3, 1) := by decide +kernel
theorem d_L_law_539 : decode m_L_law.2.1 539 = .ok (.iconst 2, 1) := by decide +kernel
theorem d_L_law_540 : decode m_L_law.2.1 540 = .ok (.iadd, 1) := by decide +kernel
theorem d_L_law_541 : decode m_L_law.2.1 541 = .ok (.iaload, 1) := by decide +kernel
theorem d_L_law_542 : decode m_L_law.2.1 542 = .ok (.invokevirtual 62, 3) := by decide +kernel
theorem d_L_law_545 : decode m_L_law.2.1 545 = .ok (.aload_n 2, 1) := by decide +kernel
theorem d_L_law_546 : decode m_L_law.2.1 546 = .ok (.aload_n 0, 1) := by decide +kernel
theorem d_L_law_547 : decode m_L_law.2.1 547 = .ok (.iload_n 3, 1) := by decide +kernel
theorem d_L_law_548 : decode m_L_law.2.1 548 = .ok (.iconst 1, 1) := by decide +kernel
theorem d_L_law_549 : decode m_L_law.2.1 549 = .ok (.iadd, 1) := by decide +kernel
theorem d_L_law_550 : decode m_L_law.2.1 550 = .ok (.iaload, 1) := by decide +kernel
theorem d_L_law_551 : decode m_L_law.2.1 551 = .ok (.aload_n 0, 1) := by decide +kernel
theorem d_L_law_552 : decode m_L_law.2.1 552 = .ok (.iload_n 3, 1) := by decide +kernel
theorem d_L_law_553 : decode m_L_law.2.1 553 = .ok (.iconst 2, 1) := by decide +kernel
theorem d_L_law_554 : decode m_L_law.2.1 554 = .ok (.iadd, 1) := by decide +kernel
theorem d_L_law_555 : decode m_L_law.2.1 555 = .ok (.iaload, 1) := by decide +kernel
theorem d_L_law_556 : decode m_L_law.2.1 556 = .ok (.invokevirtual 65, 3) := by decide +kernel
theorem d_L_law_559 : decode m_L_law.2.1 559 = .ok (.if_icmp .eq 531, 3) := by decide +kernel
theorem d_L_law_562 : decode m_L_law.2.1 562 = .ok (.iconst 0, 1) := by decide +kernel
theorem d_L_law_563 : decode m_L_law.2.1 563 = .ok (.ireturn, 1) := by decide +kernel
theorem d_L_law_564 : decode m_L_law.2.1 564 = .ok (.aload_n 1, 1) := by decide +kernel
theorem d_L_law_565 : decode m_L_law.2.1 565 = .ok (.aload_n 0, 1) := by decide +kernel
theorem d_L_law_566 : decode m_L_law.2.1 566 = .ok (.iload_n 3, 1) := by decide +kernel
theorem d_L_law_567 : decode m_L_law.2.1 567 = .ok (.iconst 1, 1) := by decide +kernel
theorem d_L_law_568 : decode m_L_law.2.1 568 = .ok (.iadd, 1) := by decide +kernel
theorem d_L_law_569 : decode m_L_law.2.1 569 = .ok (.iaload, 1) := by decide +kernel
theorem d_L_law_570 : decode m_L_law.2.1 570 = .ok (.aload_n 0, 1) := by decide +kernel
theorem d_L_law_571 : decode m_L_law.2.1 571 = .ok (.iload_n 3, 1) := by decide +kernel
theorem d_L_law_572 : decode m_L_law.2.1 572 = .ok (.iconst 2, 1) := by decide +kernel
theorem d_L_law_573 : decode m_L_law.2.1 573 = .ok (.iadd, 1) := by decide +kernel
theorem d_L_law_574 : decode m_L_law.2.1 574 = .ok (.iaload, 1) := by decide +kernel
theorem d_L_law_575 : decode m_L_law.2.1 575 = .ok (.invokevirtual 66, 3) := by decide +kernel
theorem d_L_law_578 : decode m_L_law.2.1 578 = .ok (.aload_n 2, 1) := by decide +kernel
theorem d_L_law_579 : decode m_L_law.2.1 579 = .ok (.aload_n 0, 1) := by decide +kernel
theorem d_L_law_580 : decode m_L_law.2.1 580 = .ok (.iload_n 3, 1) := by decide +kernel
theorem d_L_law_581 : decode m_L_law.2.1 581 = .ok (.iconst 1, 1) := by decide +kernel
theorem d_L_law_582 : decode m_L_law.2.1 582 = .ok (.iadd, 1) := by decide +kernel
theorem d_L_law_583 : decode m_L_law.2.1 583 = .ok (.iaload, 1) := by decide +kernel
theorem d_L_law_584 : decode m_L_law.2.1 584 = .ok (.aload_n 0, 1) := by decide +kernel
theorem d_L_law_585 : decode m_L_law.2.1 585 = .ok (.iload_n 3, 1) := by decide +kernel
theorem d_L_law_586 : decode m_L_law.2.1 586 = .ok (.iconst 2, 1) := by decide +kernel
theorem d_L_law_587 : decode m_L_law.2.1 587 = .ok (.iadd, 1) := by decide +kernel
theorem d_L_law_588 : decode m_L_law.2.1 588 = .ok (.iaload, 1) := by decide +kernel
theorem d_L_law_589 : decode m_L_law.2.1 589 = .ok (.invokevirtual 69, 3) := by decide +kernel
theorem d_L_law_592 : decode m_L_law.2.1 592 = .ok (.if_icmp .eq 498, 3) := by decide +kernel
theorem d_L_law_595 : decode m_L_law.2.1 595 = .ok (.iconst 0, 1) := by decide +kernel
theorem d_L_law_596 : decode m_L_law.2.1 596 = .ok (.ireturn, 1) := by decide +kernel
theorem d_L_law_597 : decode m_L_law.2.1 597 = .ok (.aload_n 1, 1) := by decide +kernel
theorem d_L_law_598 : decode m_L_law.2.1 598 = .ok (.aload_n 0, 1) := by decide +kernel
theorem d_L_law_599 : decode m_L_law.2.1 599 = .ok (.iload_n 3, 1) := by decide +kernel
theorem d_L_law_600 : decode m_L_law.2.1 600 = .ok (.iconst 1, 1) := by decide +kernel
theorem d_L_law_601 : decode m_L_law.2.1 601 = .ok (.iadd, 1) := by decide +kernel
theorem d_L_law_602 : decode m_L_law.2.1 602 = .ok (.iaload, 1) := by decide +kernel
theorem d_L_law_603 : decode m_L_law.2.1 603 = .ok (.aload_n 0, 1) := by decide +kernel
theorem d_L_law_604 : decode m_L_law.2.1 604 = .ok (.iload_n 3, 1) := by decide +kernel
theorem d_L_law_605 : decode m_L_law.2.1 605 = .ok (.iconst 2, 1) := by decide +kernel
theorem d_L_law_606 : decode m_L_law.2.1 606 = .ok (.iadd, 1) := by decide +kernel
theorem d_L_law_607 : decode m_L_law.2.1 607 = .ok (.iaload, 1) := by decide +kernel
theorem d_L_law_608 : decode m_L_law.2.1 608 = .ok (.invokevirtual 70, 3) := by decide +kernel
theorem d_L_law_611 : decode m_L_law.2.1 611 = .ok (.aload_n 2, 1) := by decide +kernel
theorem d_L_law_612 : decode m_L_law.2.1 612 = .ok (.aload_n 0, 1) := by decide +kernel
theorem d_L_law_613 : decode m_L_law.2.1 613 = .ok (.iload_n 3, 1) := by decide +kernel
theorem d_L_law_614 : decode m_L_law.2.1 614 = .ok (.iconst 1, 1) := by decide +kernel
theorem d_L_law_615 : decode m_L_law.2.1 615 = .ok (.iadd, 1) := by decide +kernel
theorem d_L_law_616 : decode m_L_law.2.1 616 = .ok (.iaload, 1) := by decide +kernel
theorem d_L_law_617 : decode m_L_law.2.1 617 = .ok (.aload_n 0, 1) := by decide +kernel
theorem d_L_law_618 : decode m_L_law.2.1 618 = .ok (.iload_n 3, 1) := by decide +kernel
theorem d_L_law_619 : decode m_L_law.2.1 619 = .ok (.iconst 2, 1) := by decide +kernel
theorem d_L_law_620 : decode m_L_law.2.1 620 = .ok (.iadd, 1) := by decide +kernel
theorem d_L_law_621 : decode m_L_law.2.1 621 = .ok (.iaload, 1) := by decide +kernel
theorem d_L_law_622 : decode m_L_law.2.1 622 = .ok (.invokevirtual 73, 3) := by decide +kernel
theorem d_L_law_625 : decode m_L_law.2.1 625 = .ok (.if_icmp .eq 465, 3) := by decide +kernel
theorem d_L_law_628 : decode m_L_law.2.1 628 = .ok (.iconst 0, 1) := by decide +kernel
theorem d_L_law_629 : decode m_L_law.2.1 629 = .ok (.ireturn, 1) := by decide +kernel
theorem d_L_law_630 : decode m_L_law.2.1 630 = .ok (.aload_n 1, 1) := by decide +kernel
theorem d_L_law_631 : decode m_L_law.2.1 631 = .ok (.aload_n 0, 1) := by decide +kernel
theorem d_L_law_632 : decode m_L_law.2.1 632 = .ok (.iload_n 3, 1) := by decide +kernel
theorem d_L_law_633 : decode m_L_law.2.1 633 = .ok (.iconst 1, 1) := by decide +kernel
theorem d_L_law_634 : decode m_L_law.2.1 634 = .ok (.iadd, 1) := by decide +kernel
theorem d_L_law_635 : decode m_L_law.2.1 635 = .ok (.iaload, 1) := by decide +kernel
theorem d_L_law_636 : decode m_L_law.2.1 636 = .ok (.invokevirtual 74, 3) := by decide +kernel
theorem d_L_law_639 : decode m_L_law.2.1 639 = .ok (.aload_n 2, 1) := by decide +kernel
theorem d_L_law_640 : decode m_L_law.2.1 640 = .ok (.aload_n 0, 1) := by decide +kernel
theorem d_L_law_641 : decode m_L_law.2.1 641 = .ok (.iload_n 3, 1) := by decide +kernel
theorem d_L_law_642 : decode m_L_law.2.1 642 = .ok (.iconst 1, 1) := by decide +kernel
theorem d_L_law_643 : decode m_L_law.2.1 643 = .ok (.iadd, 1) := by decide +kernel
theorem d_L_law_644 : decode m_L_law.2.1 644 = .ok (.iaload, 1) := by decide +kernel
theorem d_L_law_645 : decode m_L_law.2.1 645 = .ok (.invokevirtual 77, 3) := by decide +kernel
theorem d_L_law_648 : decode m_L_law.2.1 648 = .ok (.if_icmp .eq 442, 3) := by decide +kernel
theorem d_L_law_651 : decode m_L_law.2.1 651 = .ok (.iconst 0, 1) := by decide +kernel
theorem d_L_law_652 : decode m_L_law.2.1 652 = .ok (.ireturn, 1) := by decide +kernel
theorem d_L_law_653 : decode m_L_law.2.1 653 = .ok (.aload_n 1, 1) := by decide +kernel
theorem d_L_law_654 : decode m_L_law.2.1 654 = .ok (.aload_n 0, 1) := by decide +kernel
theorem d_L_law_655 : decode m_L_law.2.1 655 = .ok (.iload_n 3, 1) := by decide +kernel
theorem d_L_law_656 : decode m_L_law.2.1 656 = .ok (.iconst 1, 1) := by decide +kernel
theorem d_L_law_657 : decode m_L_law.2.1 657 = .ok (.iadd, 1) := by decide +kernel
theorem d_L_law_658 : decode m_L_law.2.1 658 = .ok (.iaload, 1) := by decide +kernel
theorem d_L_law_659 : decode m_L_law.2.1 659 = .ok (.invokevirtual 78, 3) := by decide +kernel
theorem d_L_law_662 : decode m_L_law.2.1 662 = .ok (.aload_n 2, 1) := by decide +kernel
theorem d_L_law_663 : decode m_L_law.2.1 663 = .ok (.aload_n 0, 1) := by decide +kernel
theorem d_L_law_664 : decode m_L_law.2.1 664 = .ok (.iload_n 3, 1) := by decide +kernel
theorem d_L_law_665 : decode m_L_law.2.1 665 = .ok (.iconst 1, 1) := by decide +kernel
theorem d_L_law_666 : decode m_L_law.2.1 666 = .ok (.iadd, 1) := by decide +kernel
theorem d_L_law_667 : decode m_L_law.2.1 667 = .ok (.iaload, 1) := by decide +kernel
theorem d_L_law_668 : decode m_L_law.2.1 668 = .ok (.invokevirtual 81, 3) := by decide +kernel
theorem d_L_law_671 : decode m_L_law.2.1 671 = .ok (.if_icmp .eq 419, 3) := by decide +kernel
theorem d_L_law_674 : decode m_L_law.2.1 674 = .ok (.iconst 0, 1) := by decide +kernel
theorem d_L_law_675 : decode m_L_law.2.1 675 = .ok (.ireturn, 1) := by decide +kernel
theorem d_L_law_676 : decode m_L_law.2.1 676 = .ok (.aload_n 1, 1) := by decide +kernel
theorem d_L_law_677 : decode m_L_law.2.1 677 = .ok (.aload_n 0, 1) := by decide +kernel
theorem d_L_law_678 : decode m_L_law.2.1 678 = .ok (.iload_n 3, 1) := by decide +kernel
theorem d_L_law_679 : decode m_L_law.2.1 679 = .ok (.iconst 1, 1) := by decide +kernel
theorem d_L_law_680 : decode m_L_law.2.1 680 = .ok (.iadd, 1) := by decide +kernel
theorem d_L_law_681 : decode m_L_law.2.1 681 = .ok (.iaload, 1) := by decide +kernel
theorem d_L_law_682 : decode m_L_law.2.1 682 = .ok (.invokevirtual 82, 3) := by decide +kernel
theorem d_L_law_685 : decode m_L_law.2.1 685 = .ok (.aload_n 2, 1) := by decide +kernel
theorem d_L_law_686 : decode m_L_law.2.1 686 = .ok (.aload_n 0, 1) := by decide +kernel
theorem d_L_law_687 : decode m_L_law.2.1 687 = .ok (.iload_n 3, 1) := by decide +kernel
theorem d_L_law_688 : decode m_L_law.2.1 688 = .ok (.iconst 1, 1) := by decide +kernel
theorem d_L_law_689 : decode m_L_law.2.1 689 = .ok (.iadd, 1) := by decide +kernel
theorem d_L_law_690 : decode m_L_law.2.1 690 = .ok (.iaload, 1) := by decide +kernel
theorem d_L_law_691 : decode m_L_law.2.1 691 = .ok (.invokevirtual 85, 3) := by decide +kernel
theorem d_L_law_694 : decode m_L_law.2.1 694 = .ok (.if_icmp .eq 396, 3) := by decide +kernel
theorem d_L_law_697 : decode m_L_law.2.1 697 = .ok (.iconst 0, 1) := by decide +kernel
theorem d_L_law_698 : decode m_L_law.2.1 698 = .ok (.ireturn, 1) := by decide +kernel
theorem d_L_law_699 : decode m_L_law.2.1 699 = .ok (.aload_n 1, 1) := by decide +kernel
theorem d_L_law_700 : decode m_L_law.2.1 700 = .ok (.invokevirtual 86, 3) := by decide +kernel
theorem d_L_law_703 : decode m_L_law.2.1 703 = .ok (.aload_n 2, 1) := by decide +kernel
theorem d_L_law_704 : decode m_L_law.2.1 704 = .ok (.invokevirtual 89, 3) := by decide +kernel
theorem d_L_law_707 : decode m_L_law.2.1 707 = .ok (.if_icmp .eq 383, 3) := by decide +kernel
theorem d_L_law_710 : decode m_L_law.2.1 710 = .ok (.iconst 0, 1) := by decide +kernel
theorem d_L_law_711 : decode m_L_law.2.1 711 = .ok (.ireturn, 1) := by decide +kernel
theorem d_L_law_712 : decode m_L_law.2.1 712 = .ok (.aload_n 1, 1) := by decide +kernel
theorem d_L_law_713 : decode m_L_law.2.1 713 = .ok (.aload_n 0, 1) := by decide +kernel
theorem d_L_law_714 : decode m_L_law.2.1 714 = .ok (.iload_n 3, 1) := by decide +kernel
theorem d_L_law_715 : decode m_L_law.2.1 715 = .ok (.iconst 1, 1) := by decide +kernel
theorem d_L_law_716 : decode m_L_law.2.1 716 = .ok (.iadd, 1) := by decide +kernel
theorem d_L_law_717 : decode m_L_law.2.1 717 = .ok (.iaload, 1) := by decide +kernel
theorem d_L_law_718 : decode m_L_law.2.1 718 = .ok (.aload_n 0, 1) := by decide +kernel
theorem d_L_law_719 : decode m_L_law.2.1 719 = .ok (.iload_n 3, 1) := by decide +kernel
theorem d_L_law_720 : decode m_L_law.2.1 720 = .ok (.iconst 2, 1) := by decide +kernel
theorem d_L_law_721 : decode m_L_law.2.1 721 = .ok (.iadd, 1) := by decide +kernel
theorem d_L_law_722 : decode m_L_law.2.1 722 = .ok (.iaload, 1) := by decide +kernel
theorem d_L_law_723 : decode m_L_law.2.1 723 = .ok (.invokevirtual 90, 3) := by decide +kernel
theorem d_L_law_726 : decode m_L_law.2.1 726 = .ok (.aload_n 2, 1) := by decide +kernel
theorem d_L_law_727 : decode m_L_law.2.1 727 = .ok (.aload_n 0, 1) := by decide +kernel
theorem d_L_law_728 : decode m_L_law.2.1 728 = .ok (.iload_n 3, 1) := by decide +kernel
theorem d_L_law_729 : decode m_L_law.2.1 729 = .ok (.iconst 1, 1) := by decide +kernel
theorem d_L_law_730 : decode m_L_law.2.1 730 = .ok (.iadd, 1) := by decide +kernel
theorem d_L_law_731 : decode m_L_law.2.1 731 = .ok (.iaload, 1) := by decide +kernel
theorem d_L_law_732 : decode m_L_law.2.1 732 = .ok (.aload_n 0, 1) := by decide +kernel
theorem d_L_law_733 : decode m_L_law.2.1 733 = .ok (.iload_n 3, 1) := by decide +kernel
theorem d_L_law_734 : decode m_L_law.2.1 734 = .ok (.iconst 2, 1) := by decide +kernel
theorem d_L_law_735 : decode m_L_law.2.1 735 = .ok (.iadd, 1) := by decide +kernel
theorem d_L_law_736 : decode m_L_law.2.1 736 = .ok (.iaload, 1) := by decide +kernel
theorem d_L_law_737 : decode m_L_law.2.1 737 = .ok (.invokevirtual 94, 3) := by decide +kernel
theorem d_L_law_740 : decode m_L_law.2.1 740 = .ok (.lcmp, 1) := by decide +kernel
theorem d_L_law_741 : decode m_L_law.2.1 741 = .ok (.ifCond .eq 349, 3) := by decide +kernel
theorem d_L_law_744 : decode m_L_law.2.1 744 = .ok (.iconst 0, 1) := by decide +kernel
theorem d_L_law_745 : decode m_L_law.2.1 745 = .ok (.ireturn, 1) := by decide +kernel
theorem d_L_law_746 : decode m_L_law.2.1 746 = .ok (.aload_n 1, 1) := by decide +kernel
theorem d_L_law_747 : decode m_L_law.2.1 747 = .ok (.aload_n 0, 1) := by decide +kernel
theorem d_L_law_748 : decode m_L_law.2.1 748 = .ok (.iload_n 3, 1) := by decide +kernel
theorem d_L_law_749 : decode m_L_law.2.1 749 = .ok (.iconst 1, 1) := by decide +kernel
theorem d_L_law_750 : decode m_L_law.2.1 750 = .ok (.iadd, 1) := by decide +kernel
theorem d_L_law_751 : decode m_L_law.2.1 751 = .ok (.iaload, 1) := by decide +kernel
theorem d_L_law_752 : decode m_L_law.2.1 752 = .ok (.aload_n 0, 1) := by decide +kernel
theorem d_L_law_753 : decode m_L_law.2.1 753 = .ok (.iload_n 3, 1) := by decide +kernel
theorem d_L_law_754 : decode m_L_law.2.1 754 = .ok (.iconst 2, 1) := by decide +kernel
theorem d_L_law_755 : decode m_L_law.2.1 755 = .ok (.iadd, 1) := by decide +kernel
theorem d_L_law_756 : decode m_L_law.2.1 756 = .ok (.iaload, 1) := by decide +kernel
theorem d_L_law_757 : decode m_L_law.2.1 757 = .ok (.aload_n 0, 1) := by decide +kernel
theorem d_L_law_758 : decode m_L_law.2.1 758 = .ok (.iload_n 3, 1) := by decide +kernel
theorem d_L_law_759 : decode m_L_law.2.1 759 = .ok (.iconst 3, 1) := by decide +kernel
theorem d_L_law_760 : decode m_L_law.2.1 760 = .ok (.iadd, 1) := by decide +kernel
theorem d_L_law_761 : decode m_L_law.2.1 761 = .ok (.iaload, 1) := by decide +kernel
theorem d_L_law_762 : decode m_L_law.2.1 762 = .ok (.invokevirtual 95, 3) := by decide +kernel
theorem d_L_law_765 : decode m_L_law.2.1 765 = .ok (.aload_n 2, 1) := by decide +kernel
theorem d_L_law_766 : decode m_L_law.2.1 766 = .ok (.aload_n 0, 1) := by decide +kernel
theorem d_L_law_767 : decode m_L_law.2.1 767 = .ok (.iload_n 3, 1) := by decide +kernel
theorem d_L_law_768 : decode m_L_law.2.1 768 = .ok (.iconst 1, 1) := by decide +kernel
theorem d_L_law_769 : decode m_L_law.2.1 769 = .ok (.iadd, 1) := by decide +kernel
theorem d_L_law_770 : decode m_L_law.2.1 770 = .ok (.iaload, 1) := by decide +kernel
theorem d_L_law_771 : decode m_L_law.2.1 771 = .ok (.aload_n 0, 1) := by decide +kernel
theorem d_L_law_772 : decode m_L_law.2.1 772 = .ok (.iload_n 3, 1) := by decide +kernel
theorem d_L_law_773 : decode m_L_law.2.1 773 = .ok (.iconst 2, 1) := by decide +kernel
theorem d_L_law_774 : decode m_L_law.2.1 774 = .ok (.iadd, 1) := by decide +kernel
theorem d_L_law_775 : decode m_L_law.2.1 775 = .ok (.iaload, 1) := by decide +kernel
theorem d_L_law_776 : decode m_L_law.2.1 776 = .ok (.aload_n 0, 1) := by decide +kernel
theorem d_L_law_777 : decode m_L_law.2.1 777 = .ok (.iload_n 3, 1) := by decide +kernel
theorem d_L_law_778 : decode m_L_law.2.1 778 = .ok (.iconst 3, 1) := by decide +kernel
theorem d_L_law_779 : decode m_L_law.2.1 779 = .ok (.iadd, 1) := by decide +kernel
theorem d_L_law_780 : decode m_L_law.2.1 780 = .ok (.iaload, 1) := by decide +kernel
theorem d_L_law_781 : decode m_L_law.2.1 781 = .ok (.invokevirtual 99, 3) := by decide +kernel
theorem d_L_law_784 : decode m_L_law.2.1 784 = .ok (.if_icmp .eq 306, 3) := by decide +kernel
theorem d_L_law_787 : decode m_L_law.2.1 787 = .ok (.iconst 0, 1) := by decide +kernel
theorem d_L_law_788 : decode m_L_law.2.1 788 = .ok (.ireturn, 1) := by decide +kernel
theorem d_L_law_789 : decode m_L_law.2.1 789 = .ok (.aload_n 1, 1) := by decide +kernel
theorem d_L_law_790 : decode m_L_law.2.1 790 = .ok (.aload_n 0, 1) := by decide +kernel
theorem d_L_law_791 : decode m_L_law.2.1 791 = .ok (.iload_n 3, 1) := by decide +kernel
theorem d_L_law_792 : decode m_L_law.2.1 792 = .ok (.iconst 1, 1) := by decide +kernel
theorem d_L_law_793 : decode m_L_law.2.1 793 = .ok (.iadd, 1) := by decide +kernel
theorem d_L_law_794 : decode m_L_law.2.1 794 = .ok (.iaload, 1) := by decide +kernel
theorem d_L_law_795 : decode m_L_law.2.1 795 = .ok (.invokevirtual 100, 3) := by decide +kernel
theorem d_L_law_798 : decode m_L_law.2.1 798 = .ok (.aload_n 2, 1) := by decide +kernel
theorem d_L_law_799 : decode m_L_law.2.1 799 = .ok (.aload_n 0, 1) := by decide +kernel
theorem d_L_law_800 : decode m_L_law.2.1 800 = .ok (.iload_n 3, 1) := by decide +kernel
theorem d_L_law_801 : decode m_L_law.2.1 801 = .ok (.iconst 1, 1) := by decide +kernel
theorem d_L_law_802 : decode m_L_law.2.1 802 = .ok (.iadd, 1) := by decide +kernel
theorem d_L_law_803 : decode m_L_law.2.1 803 = .ok (.iaload, 1) := by decide +kernel
theorem d_L_law_804 : decode m_L_law.2.1 804 = .ok (.invokevirtual 103, 3) := by decide +kernel
theorem d_L_law_807 : decode m_L_law.2.1 807 = .ok (.if_icmp .eq 283, 3) := by decide +kernel
theorem d_L_law_810 : decode m_L_law.2.1 810 = .ok (.iconst 0, 1) := by decide +kernel
theorem d_L_law_811 : decode m_L_law.2.1 811 = .ok (.ireturn, 1) := by decide +kernel
theorem d_L_law_812 : decode m_L_law.2.1 812 = .ok (.aload_n 1, 1) := by decide +kernel
theorem d_L_law_813 : decode m_L_law.2.1 813 = .ok (.aload_n 0, 1) := by decide +kernel
theorem d_L_law_814 : decode m_L_law.2.1 814 = .ok (.iload_n 3, 1) := by decide +kernel
theorem d_L_law_815 : decode m_L_law.2.1 815 = .ok (.iconst 1, 1) := by decide +kernel
theorem d_L_law_816 : decode m_L_law.2.1 816 = .ok (.iadd, 1) := by decide +kernel
theorem d_L_law_817 : decode m_L_law.2.1 817 = .ok (.iaload, 1) := by decide +kernel
theorem d_L_law_818 : decode m_L_law.2.1 818 = .ok (.aload_n 0, 1) := by decide +kernel
theorem d_L_law_819 : decode m_L_law.2.1 819 = .ok (.iload_n 3, 1) := by decide +kernel
theorem d_L_law_820 : decode m_L_law.2.1 820 = .ok (.iconst 2, 1) := by decide +kernel
theorem d_L_law_821 : decode m_L_law.2.1 821 = .ok (.iadd, 1) := by decide +kernel
theorem d_L_law_822 : decode m_L_law.2.1 822 = .ok (.iaload, 1) := by decide +kernel
theorem d_L_law_823 : decode m_L_law.2.1 823 = .ok (.aload_n 0, 1) := by decide +kernel
theorem d_L_law_824 : decode m_L_law.2.1 824 = .ok (.iload_n 3, 1) := by decide +kernel
theorem d_L_law_825 : decode m_L_law.2.1 825 = .ok (.iconst 3, 1) := by decide +kernel
theorem d_L_law_826 : decode m_L_law.2.1 826 = .ok (.iadd, 1) := by decide +kernel
theorem d_L_law_827 : decode m_L_law.2.1 827 = .ok (.iaload, 1) := by decide +kernel
theorem d_L_law_828 : decode m_L_law.2.1 828 = .ok (.invokevirtual 104, 3) := by decide +kernel
theorem d_L_law_831 : decode m_L_law.2.1 831 = .ok (.aload_n 2, 1) := by decide +kernel
theorem d_L_law_832 : decode m_L_law.2.1 832 = .ok (.aload_n 0, 1) := by decide +kernel
theorem d_L_law_833 : decode m_L_law.2.1 833 = .ok (.iload_n 3, 1) := by decide +kernel
theorem d_L_law_834 : decode m_L_law.2.1 834 = .ok (.iconst 1, 1) := by decide +kernel
theorem d_L_law_835 : decode m_L_law.2.1 835 = .ok (.iadd, 1) := by decide +kernel
theorem d_L_law_836 : decode m_L_law.2.1 836 = .ok (.iaload, 1) := by decide +kernel
theorem d_L_law_837 : decode m_L_law.2.1 837 = .ok (.aload_n 0, 1) := by decide +kernel
theorem d_L_law_838 : decode m_L_law.2.1 838 = .ok (.iload_n 3, 1) := by decide +kernel
theorem d_L_law_839 : decode m_L_law.2.1 839 = .ok (.iconst 2, 1) := by decide +kernel
theorem d_L_law_840 : decode m_L_law.2.1 840 = .ok (.iadd, 1) := by decide +kernel
theorem d_L_law_841 : decode m_L_law.2.1 841 = .ok (.iaload, 1) := by decide +kernel
theorem d_L_law_842 : decode m_L_law.2.1 842 = .ok (.aload_n 0, 1) := by decide +kernel
theorem d_L_law_843 : decode m_L_law.2.1 843 = .ok (.iload_n 3, 1) := by decide +kernel
theorem d_L_law_844 : decode m_L_law.2.1 844 = .ok (.iconst 3, 1) := by decide +kernel
theorem d_L_law_845 : decode m_L_law.2.1 845 = .ok (.iadd, 1) := by decide +kernel
theorem d_L_law_846 : decode m_L_law.2.1 846 = .ok (.iaload, 1) := by decide +kernel
theorem d_L_law_847 : decode m_L_law.2.1 847 = .ok (.invokevirtual 107, 3) := by decide +kernel
theorem d_L_law_850 : decode m_L_law.2.1 850 = .ok (.if_icmp .eq 240, 3) := by decide +kernel
theorem d_L_law_853 : decode m_L_law.2.1 853 = .ok (.iconst 0, 1) := by decide +kernel
theorem d_L_law_854 : decode m_L_law.2.1 854 = .ok (.ireturn, 1) := by decide +kernel
theorem d_L_law_855 : decode m_L_law.2.1 855 = .ok (.aload_n 1, 1) := by decide +kernel
theorem d_L_law_856 : decode m_L_law.2.1 856 = .ok (.aload_n 0, 1) := by decide +kernel
theorem d_L_law_857 : decode m_L_law.2.1 857 = .ok (.iload_n 3, 1) := by decide +kernel
theorem d_L_law_858 : decode m_L_law.2.1 858 = .ok (.iconst 1, 1) := by decide +kernel
theorem d_L_law_859 : decode m_L_law.2.1 859 = .ok (.iadd, 1) := by decide +kernel
theorem d_L_law_860 : decode m_L_law.2.1 860 = .ok (.iaload, 1) := by decide +kernel
theorem d_L_law_861 : decode m_L_law.2.1 861 = .ok (.aload_n 0, 1) := by decide +kernel
theorem d_L_law_862 : decode m_L_law.2.1 862 = .ok (.iload_n 3, 1) := by decide +kernel
theorem d_L_law_863 : decode m_L_law.2.1 863 = .ok (.iconst 2, 1) := by decide +kernel
theorem d_L_law_864 : decode m_L_law.2.1 864 = .ok (.iadd, 1) := by decide +kernel
theorem d_L_law_865 : decode m_L_law.2.1 865 = .ok (.iaload, 1) := by decide +kernel
theorem d_L_law_866 : decode m_L_law.2.1 866 = .ok (.aload_n 0, 1) := by decide +kernel
theorem d_L_law_867 : decode m_L_law.2.1 867 = .ok (.iload_n 3, 1) := by decide +kernel
theorem d_L_law_868 : decode m_L_law.2.1 868 = .ok (.iconst 3, 1) := by decide +kernel
theorem d_L_law_869 : decode m_L_law.2.1 869 = .ok (.iadd, 1) := by decide +kernel
theorem d_L_law_870 : decode m_L_law.2.1 870 = .ok (.iaload, 1) := by decide +kernel
theorem d_L_law_871 : decode m_L_law.2.1 871 = .ok (.invokevirtual 108, 3) := by decide +kernel
theorem d_L_law_874 : decode m_L_law.2.1 874 = .ok (.aload_n 2, 1) := by decide +kernel
theorem d_L_law_875 : decode m_L_law.2.1 875 = .ok (.aload_n 0, 1) := by decide +kernel
theorem d_L_law_876 : decode m_L_law.2.1 876 = .ok (.iload_n 3, 1) := by decide +kernel
theorem d_L_law_877 : decode m_L_law.2.1 877 = .ok (.iconst 1, 1) := by decide +kernel
theorem d_L_law_878 : decode m_L_law.2.1 878 = .ok (.iadd, 1) := by decide +kernel
theorem d_L_law_879 : decode m_L_law.2.1 879 = .ok (.iaload, 1) := by decide +kernel
theorem d_L_law_880 : decode m_L_law.2.1 880 = .ok (.aload_n 0, 1) := by decide +kernel
theorem d_L_law_881 : decode m_L_law.2.1 881 = .ok (.iload_n 3, 1) := by decide +kernel
theorem d_L_law_882 : decode m_L_law.2.1 882 = .ok (.iconst 2, 1) := by decide +kernel
theorem d_L_law_883 : decode m_L_law.2.1 883 = .ok (.iadd, 1) := by decide +kernel
theorem d_L_law_884 : decode m_L_law.2.1 884 = .ok (.iaload, 1) := by decide +kernel
theorem d_L_law_885 : decode m_L_law.2.1 885 = .ok (.aload_n 0, 1) := by decide +kernel
theorem d_L_law_886 : decode m_L_law.2.1 886 = .ok (.iload_n 3, 1) := by decide +kernel
theorem d_L_law_887 : decode m_L_law.2.1 887 = .ok (.iconst 3, 1) := by decide +kernel
theorem d_L_law_888 : decode m_L_law.2.1 888 = .ok (.iadd, 1) := by decide +kernel
theorem d_L_law_889 : decode m_L_law.2.1 889 = .ok (.iaload, 1) := by decide +kernel
theorem d_L_law_890 : decode m_L_law.2.1 890 = .ok (.invokevirtual 112, 3) := by decide +kernel
theorem d_L_law_893 : decode m_L_law.2.1 893 = .ok (.lcmp, 1) := by decide +kernel
theorem d_L_law_894 : decode m_L_law.2.1 894 = .ok (.ifCond .eq 196, 3) := by decide +kernel
theorem d_L_law_897 : decode m_L_law.2.1 897 = .ok (.iconst 0, 1) := by decide +kernel
theorem d_L_law_898 : decode m_L_law.2.1 898 = .ok (.ireturn, 1) := by decide +kernel
theorem d_L_law_899 : decode m_L_law.2.1 899 = .ok (.aload_n 1, 1) := by decide +kernel
theorem d_L_law_900 : decode m_L_law.2.1 900 = .ok (.aload_n 0, 1) := by decide +kernel
theorem d_L_law_901 : decode m_L_law.2.1 901 = .ok (.iload_n 3, 1) := by decide +kernel
theorem d_L_law_902 : decode m_L_law.2.1 902 = .ok (.iconst 1, 1) := by decide +kernel
theorem d_L_law_903 : decode m_L_law.2.1 903 = .ok (.iadd, 1) := by decide +kernel
theorem d_L_law_904 : decode m_L_law.2.1 904 = .ok (.iaload, 1) := by decide +kernel
theorem d_L_law_905 : decode m_L_law.2.1 905 = .ok (.aload_n 0, 1) := by decide +kernel
theorem d_L_law_906 : decode m_L_law.2.1 906 = .ok (.iload_n 3, 1) := by decide +kernel
theorem d_L_law_907 : decode m_L_law.2.1 907 = .ok (.iconst 2, 1) := by decide +kernel
theorem d_L_law_908 : decode m_L_law.2.1 908 = .ok (.iadd, 1) := by decide +kernel
theorem d_L_law_909 : decode m_L_law.2.1 909 = .ok (.iaload, 1) := by decide +kernel
theorem d_L_law_910 : decode m_L_law.2.1 910 = .ok (.aload_n 0, 1) := by decide +kernel
theorem d_L_law_911 : decode m_L_law.2.1 911 = .ok (.iload_n 3, 1) := by decide +kernel
theorem d_L_law_912 : decode m_L_law.2.1 912 = .ok (.iconst 3, 1) := by decide +kernel
theorem d_L_law_913 : decode m_L_law.2.1 913 = .ok (.iadd, 1) := by decide +kernel
theorem d_L_law_914 : decode m_L_law.2.1 914 = .ok (.iaload, 1) := by decide +kernel
theorem d_L_law_915 : decode m_L_law.2.1 915 = .ok (.aload_n 0, 1) := by decide +kernel
theorem d_L_law_916 : decode m_L_law.2.1 916 = .ok (.iload_n 3, 1) := by decide +kernel
theorem d_L_law_917 : decode m_L_law.2.1 917 = .ok (.iconst 4, 1) := by decide +kernel
theorem d_L_law_918 : decode m_L_law.2.1 918 = .ok (.iadd, 1) := by decide +kernel
theorem d_L_law_919 : decode m_L_law.2.1 919 = .ok (.iaload, 1) := by decide +kernel
theorem d_L_law_920 : decode m_L_law.2.1 920 = .ok (.aload_n 0, 1) := by decide +kernel
theorem d_L_law_921 : decode m_L_law.2.1 921 = .ok (.iload_n 3, 1) := by decide +kernel
theorem d_L_law_922 : decode m_L_law.2.1 922 = .ok (.iconst 5, 1) := by decide +kernel
theorem d_L_law_923 : decode m_L_law.2.1 923 = .ok (.iadd, 1) := by decide +kernel
theorem d_L_law_924 : decode m_L_law.2.1 924 = .ok (.iaload, 1) := by decide +kernel
theorem d_L_law_925 : decode m_L_law.2.1 925 = .ok (.invokevirtual 113, 3) := by decide +kernel
theorem d_L_law_928 : decode m_L_law.2.1 928 = .ok (.aload_n 2, 1) := by decide +kernel
theorem d_L_law_929 : decode m_L_law.2.1 929 = .ok (.aload_n 0, 1) := by decide +kernel
theorem d_L_law_930 : decode m_L_law.2.1 930 = .ok (.iload_n 3, 1) := by decide +kernel
theorem d_L_law_931 : decode m_L_law.2.1 931 = .ok (.iconst 1, 1) := by decide +kernel
theorem d_L_law_932 : decode m_L_law.2.1 932 = .ok (.iadd, 1) := by decide +kernel
theorem d_L_law_933 : decode m_L_law.2.1 933 = .ok (.iaload, 1) := by decide +kernel
theorem d_L_law_934 : decode m_L_law.2.1 934 = .ok (.aload_n 0, 1) := by decide +kernel
theorem d_L_law_935 : decode m_L_law.2.1 935 = .ok (.iload_n 3, 1) := by decide +kernel
theorem d_L_law_936 : decode m_L_law.2.1 936 = .ok (.iconst 2, 1) := by decide +kernel
theorem d_L_law_937 : decode m_L_law.2.1 937 = .ok (.iadd, 1) := by decide +kernel
theorem d_L_law_938 : decode m_L_law.2.1 938 = .ok (.iaload, 1) := by decide +kernel
theorem d_L_law_939 : decode m_L_law.2.1 939 = .ok (.aload_n 0, 1) := by decide +kernel
theorem d_L_law_940 : decode m_L_law.2.1 940 = .ok (.iload_n 3, 1) := by decide +kernel
theorem d_L_law_941 : decode m_L_law.2.1 941 = .ok (.iconst 3, 1) := by decide +kernel
theorem d_L_law_942 : decode m_L_law.2.1 942 = .ok (.iadd, 1) := by decide +kernel
theorem d_L_law_943 : decode m_L_law.2.1 943 = .ok (.iaload, 1) := by decide +kernel
theorem d_L_law_944 : decode m_L_law.2.1 944 = .ok (.aload_n 0, 1) := by decide +kernel
theorem d_L_law_945 : decode m_L_law.2.1 945 = .ok (.iload_n 3, 1) := by decide +kernel
theorem d_L_law_946 : decode m_L_law.2.1 946 = .ok (.iconst 4, 1) := by decide +kernel
theorem d_L_law_947 : decode m_L_law.2.1 947 = .ok (.iadd, 1) := by decide +kernel
theorem d_L_law_948 : decode m_L_law.2.1 948 = .ok (.iaload, 1) := by decide +kernel
theorem d_L_law_949 : decode m_L_law.2.1 949 = .ok (.aload_n 0, 1) := by decide +kernel
theorem d_L_law_950 : decode m_L_law.2.1 950 = .ok (.iload_n 3, 1) := by decide +kernel
theorem d_L_law_951 : decode m_L_law.2.1 951 = .ok (.iconst 5, 1) := by decide +kernel
theorem d_L_law_952 : decode m_L_law.2.1 952 = .ok (.iadd, 1) := by decide +kernel
theorem d_L_law_953 : decode m_L_law.2.1 953 = .ok (.iaload, 1) := by decide +kernel
theorem d_L_law_954 : decode m_L_law.2.1 954 = .ok (.invokevirtual 116, 3) := by decide +kernel
theorem d_L_law_957 : decode m_L_law.2.1 957 = .ok (.if_icmp .eq 133, 3) := by decide +kernel
theorem d_L_law_960 : decode m_L_law.2.1 960 = .ok (.iconst 0, 1) := by decide +kernel
theorem d_L_law_961 : decode m_L_law.2.1 961 = .ok (.ireturn, 1) := by decide +kernel
theorem d_L_law_962 : decode m_L_law.2.1 962 = .ok (.aload_n 1, 1) := by decide +kernel
theorem d_L_law_963 : decode m_L_law.2.1 963 = .ok (.aload_n 0, 1) := by decide +kernel
theorem d_L_law_964 : decode m_L_law.2.1 964 = .ok (.iload_n 3, 1) := by decide +kernel
theorem d_L_law_965 : decode m_L_law.2.1 965 = .ok (.iconst 1, 1) := by decide +kernel
theorem d_L_law_966 : decode m_L_law.2.1 966 = .ok (.iadd, 1) := by decide +kernel
theorem d_L_law_967 : decode m_L_law.2.1 967 = .ok (.iaload, 1) := by decide +kernel
theorem d_L_law_968 : decode m_L_law.2.1 968 = .ok (.invokevirtual 117, 3) := by decide +kernel
theorem d_L_law_971 : decode m_L_law.2.1 971 = .ok (.aload_n 2, 1) := by decide +kernel
theorem d_L_law_972 : decode m_L_law.2.1 972 = .ok (.aload_n 0, 1) := by decide +kernel
theorem d_L_law_973 : decode m_L_law.2.1 973 = .ok (.iload_n 3, 1) := by decide +kernel
theorem d_L_law_974 : decode m_L_law.2.1 974 = .ok (.iconst 1, 1) := by decide +kernel
theorem d_L_law_975 : decode m_L_law.2.1 975 = .ok (.iadd, 1) := by decide +kernel
theorem d_L_law_976 : decode m_L_law.2.1 976 = .ok (.iaload, 1) := by decide +kernel
theorem d_L_law_977 : decode m_L_law.2.1 977 = .ok (.invokevirtual 120, 3) := by decide +kernel
theorem d_L_law_980 : decode m_L_law.2.1 980 = .ok (.if_icmp .eq 110, 3) := by decide +kernel
theorem d_L_law_983 : decode m_L_law.2.1 983 = .ok (.iconst 0, 1) := by decide +kernel
theorem d_L_law_984 : decode m_L_law.2.1 984 = .ok (.ireturn, 1) := by decide +kernel
theorem d_L_law_985 : decode m_L_law.2.1 985 = .ok (.aload_n 1, 1) := by decide +kernel
theorem d_L_law_986 : decode m_L_law.2.1 986 = .ok (.aload_n 0, 1) := by decide +kernel
theorem d_L_law_987 : decode m_L_law.2.1 987 = .ok (.iload_n 3, 1) := by decide +kernel
theorem d_L_law_988 : decode m_L_law.2.1 988 = .ok (.iconst 1, 1) := by decide +kernel
theorem d_L_law_989 : decode m_L_law.2.1 989 = .ok (.iadd, 1) := by decide +kernel
theorem d_L_law_990 : decode m_L_law.2.1 990 = .ok (.iaload, 1) := by decide +kernel
theorem d_L_law_991 : decode m_L_law.2.1 991 = .ok (.invokevirtual 121, 3) := by decide +kernel
theorem d_L_law_994 : decode m_L_law.2.1 994 = .ok (.aload_n 2, 1) := by decide +kernel
theorem d_L_law_995 : decode m_L_law.2.1 995 = .ok (.aload_n 0, 1) := by decide +kernel
theorem d_L_law_996 : decode m_L_law.2.1 996 = .ok (.iload_n 3, 1) := by decide +kernel
theorem d_L_law_997 : decode m_L_law.2.1 997 = .ok (.iconst 1, 1) := by decide +kernel
theorem d_L_law_998 : decode m_L_law.2.1 998 = .ok (.iadd, 1) := by decide +kernel
theorem d_L_law_999 : decode m_L_law.2.1 999 = .ok (.iaload, 1) := by decide +kernel
theorem d_L_law_1000 : decode m_L_law.2.1 1000 = .ok (.invokevirtual 124, 3) := by decide +kernel
theorem d_L_law_1003 : decode m_L_law.2.1 1003 = .ok (.if_icmp .eq 87, 3) := by decide +kernel
theorem d_L_law_1006 : decode m_L_law.2.1 1006 = .ok (.iconst 0, 1) := by decide +kernel
theorem d_L_law_1007 : decode m_L_law.2.1 1007 = .ok (.ireturn, 1) := by decide +kernel
theorem d_L_law_1008 : decode m_L_law.2.1 1008 = .ok (.aload_n 1, 1) := by decide +kernel
theorem d_L_law_1009 : decode m_L_law.2.1 1009 = .ok (.aload_n 0, 1) := by decide +kernel
theorem d_L_law_1010 : decode m_L_law.2.1 1010 = .ok (.iload_n 3, 1) := by decide +kernel
theorem d_L_law_1011 : decode m_L_law.2.1 1011 = .ok (.iconst 1, 1) := by decide +kernel
theorem d_L_law_1012 : decode m_L_law.2.1 1012 = .ok (.iadd, 1) := by decide +kernel
theorem d_L_law_1013 : decode m_L_law.2.1 1013 = .ok (.iaload, 1) := by decide +kernel
theorem d_L_law_1014 : decode m_L_law.2.1 1014 = .ok (.aload_n 0, 1) := by decide +kernel
theorem d_L_law_1015 : decode m_L_law.2.1 1015 = .ok (.iload_n 3, 1) := by decide +kernel
theorem d_L_law_1016 : decode m_L_law.2.1 1016 = .ok (.iconst 2, 1) := by decide +kernel
theorem d_L_law_1017 : decode m_L_law.2.1 1017 = .ok (.iadd, 1) := by decide +kernel
theorem d_L_law_1018 : decode m_L_law.2.1 1018 = .ok (.iaload, 1) := by decide +kernel
theorem d_L_law_1019 : decode m_L_law.2.1 1019 = .ok (.invokevirtual 125, 3) := by decide +kernel
theorem d_L_law_1022 : decode m_L_law.2.1 1022 = .ok (.aload_n 2, 1) := by decide +kernel
theorem d_L_law_1023 : decode m_L_law.2.1 1023 = .ok (.aload_n 0, 1) := by decide +kernel
theorem d_L_law_1024 : decode m_L_law.2.1 1024 = .ok (.iload_n 3, 1) := by decide +kernel
theorem d_L_law_1025 : decode m_L_law.2.1 1025 = .ok (.iconst 1, 1) := by decide +kernel
theorem d_L_law_1026 : decode m_L_law.2.1 1026 = .ok (.iadd, 1) := by decide +kernel
theorem d_L_law_1027 : decode m_L_law.2.1 1027 = .ok (.iaload, 1) := by decide +kernel
theorem d_L_law_1028 : decode m_L_law.2.1 1028 = .ok (.aload_n 0, 1) := by decide +kernel
theorem d_L_law_1029 : decode m_L_law.2.1 1029 = .ok (.iload_n 3, 1) := by decide +kernel
theorem d_L_law_1030 : decode m_L_law.2.1 1030 = .ok (.iconst 2, 1) := by decide +kernel
theorem d_L_law_1031 : decode m_L_law.2.1 1031 = .ok (.iadd, 1) := by decide +kernel
theorem d_L_law_1032 : decode m_L_law.2.1 1032 = .ok (.iaload, 1) := by decide +kernel
theorem d_L_law_1033 : decode m_L_law.2.1 1033 = .ok (.invokevirtual 128, 3) := by decide +kernel
theorem d_L_law_1036 : decode m_L_law.2.1 1036 = .ok (.if_icmp .eq 54, 3) := by decide +kernel
theorem d_L_law_1039 : decode m_L_law.2.1 1039 = .ok (.iconst 0, 1) := by decide +kernel
theorem d_L_law_1040 : decode m_L_law.2.1 1040 = .ok (.ireturn, 1) := by decide +kernel
theorem d_L_law_1041 : decode m_L_law.2.1 1041 = .ok (.aload_n 1, 1) := by decide +kernel
theorem d_L_law_1042 : decode m_L_law.2.1 1042 = .ok (.invokevirtual 129, 3) := by decide +kernel
theorem d_L_law_1045 : decode m_L_law.2.1 1045 = .ok (.aload_n 2, 1) := by decide +kernel
theorem d_L_law_1046 : decode m_L_law.2.1 1046 = .ok (.invokevirtual 132, 3) := by decide +kernel
theorem d_L_law_1049 : decode m_L_law.2.1 1049 = .ok (.if_icmp .eq 41, 3) := by decide +kernel
theorem d_L_law_1052 : decode m_L_law.2.1 1052 = .ok (.iconst 0, 1) := by decide +kernel
theorem d_L_law_1053 : decode m_L_law.2.1 1053 = .ok (.ireturn, 1) := by decide +kernel
theorem d_L_law_1054 : decode m_L_law.2.1 1054 = .ok (.aload_n 1, 1) := by decide +kernel
theorem d_L_law_1055 : decode m_L_law.2.1 1055 = .ok (.invokevirtual 133, 3) := by decide +kernel
theorem d_L_law_1058 : decode m_L_law.2.1 1058 = .ok (.aload_n 2, 1) := by decide +kernel
theorem d_L_law_1059 : decode m_L_law.2.1 1059 = .ok (.invokevirtual 136, 3) := by decide +kernel
theorem d_L_law_1062 : decode m_L_law.2.1 1062 = .ok (.if_icmp .eq 28, 3) := by decide +kernel
theorem d_L_law_1065 : decode m_L_law.2.1 1065 = .ok (.iconst 0, 1) := by decide +kernel
theorem d_L_law_1066 : decode m_L_law.2.1 1066 = .ok (.ireturn, 1) := by decide +kernel
theorem d_L_law_1067 : decode m_L_law.2.1 1067 = .ok (.aload_n 1, 1) := by decide +kernel
theorem d_L_law_1068 : decode m_L_law.2.1 1068 = .ok (.aload_n 0, 1) := by decide +kernel
theorem d_L_law_1069 : decode m_L_law.2.1 1069 = .ok (.iload_n 3, 1) := by decide +kernel
theorem d_L_law_1070 : decode m_L_law.2.1 1070 = .ok (.iconst 1, 1) := by decide +kernel
theorem d_L_law_1071 : decode m_L_law.2.1 1071 = .ok (.iadd, 1) := by decide +kernel
theorem d_L_law_1072 : decode m_L_law.2.1 1072 = .ok (.iaload, 1) := by decide +kernel
theorem d_L_law_1073 : decode m_L_law.2.1 1073 = .ok (.invokevirtual 137, 3) := by decide +kernel
theorem d_L_law_1076 : decode m_L_law.2.1 1076 = .ok (.aload_n 2, 1) := by decide +kernel
theorem d_L_law_1077 : decode m_L_law.2.1 1077 = .ok (.aload_n 0, 1) := by decide +kernel
theorem d_L_law_1078 : decode m_L_law.2.1 1078 = .ok (.iload_n 3, 1) := by decide +kernel
theorem d_L_law_1079 : decode m_L_law.2.1 1079 = .ok (.iconst 1, 1) := by decide +kernel
theorem d_L_law_1080 : decode m_L_law.2.1 1080 = .ok (.iadd, 1) := by decide +kernel
theorem d_L_law_1081 : decode m_L_law.2.1 1081 = .ok (.iaload, 1) := by decide +kernel
theorem d_L_law_1082 : decode m_L_law.2.1 1082 = .ok (.invokevirtual 140, 3) := by decide +kernel
theorem d_L_law_1085 : decode m_L_law.2.1 1085 = .ok (.if_icmp .eq 5, 3) := by decide +kernel
theorem d_L_law_1088 : decode m_L_law.2.1 1088 = .ok (.iconst 0, 1) := by decide +kernel
theorem d_L_law_1089 : decode m_L_law.2.1 1089 = .ok (.ireturn, 1) := by decide +kernel
theorem d_L_law_1090 : decode m_L_law.2.1 1090 = .ok (.iinc 3 6, 3) := by decide +kernel
theorem d_L_law_1093 : decode m_L_law.2.1 1093 = .ok (.goto (-1075), 3) := by decide +kernel
theorem d_L_law_1096 : decode m_L_law.2.1 1096 = .ok (.iconst 1, 1) := by decide +kernel
theorem d_L_law_1097 : decode m_L_law.2.1 1097 = .ok (.ireturn, 1) := by decide +kernel
end
