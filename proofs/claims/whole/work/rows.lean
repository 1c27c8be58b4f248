section
-- ===== PART A: goes FIRST, ahead of the names: the tables' words, and 'selects' of the private methods out of them =====
/-- a private method of a class that the tables say can be made, by its rows of tables_1 -/
def lw_okq (q : MethodName × Nat) : Prop := (q.1.cls ≠ "java/lang/invoke/MethodHandle" ∧ q.1.cls ≠ "java/lang/invoke/VarHandle") ∧ Cond.instantiable q.1.cls q.2 ∈ tables_1 ∧ Cond.privateMethod q.1 ∈ tables_1 ∧ Cond.instanceMethod q.1 ∈ tables_1
theorem lw_p0 : lw_okq (⟨"ThunderOwned$Sheet", "hasCells", "(II)Z"⟩, 4) := ⟨⟨by decide +kernel, by decide +kernel⟩, List.mem_of_getElem? (i := 106) (by decide +kernel), List.mem_of_getElem? (i := 176) (by decide +kernel), List.mem_of_getElem? (i := 177) (by decide +kernel)⟩
theorem lw_p1 : lw_okq (⟨"ThunderOwned", "faulted", "(I)I"⟩, 10) := ⟨⟨by decide +kernel, by decide +kernel⟩, List.mem_of_getElem? (i := 12) (by decide +kernel), List.mem_of_getElem? (i := 180) (by decide +kernel), List.mem_of_getElem? (i := 181) (by decide +kernel)⟩
theorem lw_p2 : lw_okq (⟨"ThunderOwned", "firstFaultOfText", "(LThunderOwned$Sheet;II)I"⟩, 10) := ⟨⟨by decide +kernel, by decide +kernel⟩, List.mem_of_getElem? (i := 12) (by decide +kernel), List.mem_of_getElem? (i := 184) (by decide +kernel), List.mem_of_getElem? (i := 185) (by decide +kernel)⟩
theorem lw_p3 : lw_okq (⟨"ThunderOwned$Parish", "empty", "()V"⟩, 6) := ⟨⟨by decide +kernel, by decide +kernel⟩, List.mem_of_getElem? (i := 20) (by decide +kernel), List.mem_of_getElem? (i := 194) (by decide +kernel), List.mem_of_getElem? (i := 195) (by decide +kernel)⟩
theorem lw_p4 : lw_okq (⟨"ThunderOwned$TextReader", "takes", "(I)Z"⟩, 4) := ⟨⟨by decide +kernel, by decide +kernel⟩, List.mem_of_getElem? (i := 188) (by decide +kernel), List.mem_of_getElem? (i := 211) (by decide +kernel), List.mem_of_getElem? (i := 212) (by decide +kernel)⟩
theorem lw_p5 : lw_okq (⟨"ThunderOwned$TextReader", "goesOn", "(ZI)Z"⟩, 4) := ⟨⟨by decide +kernel, by decide +kernel⟩, List.mem_of_getElem? (i := 188) (by decide +kernel), List.mem_of_getElem? (i := 215) (by decide +kernel), List.mem_of_getElem? (i := 216) (by decide +kernel)⟩
theorem lw_p6 : lw_okq (⟨"ThunderOwned$TextReader", "takesSleep", "(I)Z"⟩, 4) := ⟨⟨by decide +kernel, by decide +kernel⟩, List.mem_of_getElem? (i := 188) (by decide +kernel), List.mem_of_getElem? (i := 223) (by decide +kernel), List.mem_of_getElem? (i := 224) (by decide +kernel)⟩
theorem lw_p7 : lw_okq (⟨"ThunderOwned$Parish", "addHouse", "(III)V"⟩, 6) := ⟨⟨by decide +kernel, by decide +kernel⟩, List.mem_of_getElem? (i := 20) (by decide +kernel), List.mem_of_getElem? (i := 227) (by decide +kernel), List.mem_of_getElem? (i := 228) (by decide +kernel)⟩
theorem lw_p8 : lw_okq (⟨"ThunderOwned$TextReader", "takesAfterHouse", "(I)Z"⟩, 4) := ⟨⟨by decide +kernel, by decide +kernel⟩, List.mem_of_getElem? (i := 188) (by decide +kernel), List.mem_of_getElem? (i := 231) (by decide +kernel), List.mem_of_getElem? (i := 232) (by decide +kernel)⟩
theorem lw_p9 : lw_okq (⟨"ThunderOwned$TextReader", "takesStone", "(I)Z"⟩, 4) := ⟨⟨by decide +kernel, by decide +kernel⟩, List.mem_of_getElem? (i := 188) (by decide +kernel), List.mem_of_getElem? (i := 235) (by decide +kernel), List.mem_of_getElem? (i := 236) (by decide +kernel)⟩
theorem lw_p10 : lw_okq (⟨"ThunderOwned$Parish", "addStone", "(I)V"⟩, 6) := ⟨⟨by decide +kernel, by decide +kernel⟩, List.mem_of_getElem? (i := 20) (by decide +kernel), List.mem_of_getElem? (i := 239) (by decide +kernel), List.mem_of_getElem? (i := 240) (by decide +kernel)⟩
theorem lw_p11 : lw_okq (⟨"ThunderOwned$TextReader", "mayEnd", "()Z"⟩, 4) := ⟨⟨by decide +kernel, by decide +kernel⟩, List.mem_of_getElem? (i := 188) (by decide +kernel), List.mem_of_getElem? (i := 243) (by decide +kernel), List.mem_of_getElem? (i := 244) (by decide +kernel)⟩
theorem lw_p12 : lw_okq (⟨"ThunderOwned$Parish", "become", "(LThunderOwned$Parish;)V"⟩, 6) := ⟨⟨by decide +kernel, by decide +kernel⟩, List.mem_of_getElem? (i := 20) (by decide +kernel), List.mem_of_getElem? (i := 247) (by decide +kernel), List.mem_of_getElem? (i := 248) (by decide +kernel)⟩
theorem lw_p13 : lw_okq (⟨"ThunderOwned$House", "become", "(LThunderOwned$House;)V"⟩, 5) := ⟨⟨by decide +kernel, by decide +kernel⟩, List.mem_of_getElem? (i := 29) (by decide +kernel), List.mem_of_getElem? (i := 251) (by decide +kernel), List.mem_of_getElem? (i := 252) (by decide +kernel)⟩
theorem lw_p14 : lw_okq (⟨"ThunderOwned$Stone", "become", "(LThunderOwned$Stone;)V"⟩, 2) := ⟨⟨by decide +kernel, by decide +kernel⟩, List.mem_of_getElem? (i := 60) (by decide +kernel), List.mem_of_getElem? (i := 255) (by decide +kernel), List.mem_of_getElem? (i := 256) (by decide +kernel)⟩
theorem lw_p15 : lw_okq (⟨"ThunderOwned$Parish", "hasHouse", "(I)Z"⟩, 6) := ⟨⟨by decide +kernel, by decide +kernel⟩, List.mem_of_getElem? (i := 20) (by decide +kernel), List.mem_of_getElem? (i := 263) (by decide +kernel), List.mem_of_getElem? (i := 264) (by decide +kernel)⟩
def lw_privs_1 : List (MethodName × Nat) := [(⟨"ThunderOwned$Sheet", "hasCells", "(II)Z"⟩, 4), (⟨"ThunderOwned", "faulted", "(I)I"⟩, 10), (⟨"ThunderOwned", "firstFaultOfText", "(LThunderOwned$Sheet;II)I"⟩, 10), (⟨"ThunderOwned$Parish", "empty", "()V"⟩, 6), (⟨"ThunderOwned$TextReader", "takes", "(I)Z"⟩, 4), (⟨"ThunderOwned$TextReader", "goesOn", "(ZI)Z"⟩, 4), (⟨"ThunderOwned$TextReader", "takesSleep", "(I)Z"⟩, 4), (⟨"ThunderOwned$Parish", "addHouse", "(III)V"⟩, 6), (⟨"ThunderOwned$TextReader", "takesAfterHouse", "(I)Z"⟩, 4), (⟨"ThunderOwned$TextReader", "takesStone", "(I)Z"⟩, 4), (⟨"ThunderOwned$Parish", "addStone", "(I)V"⟩, 6), (⟨"ThunderOwned$TextReader", "mayEnd", "()Z"⟩, 4), (⟨"ThunderOwned$Parish", "become", "(LThunderOwned$Parish;)V"⟩, 6), (⟨"ThunderOwned$House", "become", "(LThunderOwned$House;)V"⟩, 5), (⟨"ThunderOwned$Stone", "become", "(LThunderOwned$Stone;)V"⟩, 2), (⟨"ThunderOwned$Parish", "hasHouse", "(I)Z"⟩, 6)]
theorem lw_r1 : ∀ q ∈ lw_privs_1, lw_okq q := List.forall_mem_cons.mpr ⟨lw_p0, List.forall_mem_cons.mpr ⟨lw_p1, List.forall_mem_cons.mpr ⟨lw_p2, List.forall_mem_cons.mpr ⟨lw_p3, List.forall_mem_cons.mpr ⟨lw_p4, List.forall_mem_cons.mpr ⟨lw_p5, List.forall_mem_cons.mpr ⟨lw_p6, List.forall_mem_cons.mpr ⟨lw_p7, List.forall_mem_cons.mpr ⟨lw_p8, List.forall_mem_cons.mpr ⟨lw_p9, List.forall_mem_cons.mpr ⟨lw_p10, List.forall_mem_cons.mpr ⟨lw_p11, List.forall_mem_cons.mpr ⟨lw_p12, List.forall_mem_cons.mpr ⟨lw_p13, List.forall_mem_cons.mpr ⟨lw_p14, List.forall_mem_cons.mpr ⟨lw_p15, fun _ h => absurd h List.not_mem_nil⟩⟩⟩⟩⟩⟩⟩⟩⟩⟩⟩⟩⟩⟩⟩⟩
theorem lw_p16 : lw_okq (⟨"ThunderOwned$House", "weight", "()I"⟩, 5) := ⟨⟨by decide +kernel, by decide +kernel⟩, List.mem_of_getElem? (i := 29) (by decide +kernel), List.mem_of_getElem? (i := 267) (by decide +kernel), List.mem_of_getElem? (i := 268) (by decide +kernel)⟩
theorem lw_p17 : lw_okq (⟨"ThunderOwned$House", "rankles", "()Z"⟩, 5) := ⟨⟨by decide +kernel, by decide +kernel⟩, List.mem_of_getElem? (i := 29) (by decide +kernel), List.mem_of_getElem? (i := 271) (by decide +kernel), List.mem_of_getElem? (i := 272) (by decide +kernel)⟩
theorem lw_p18 : lw_okq (⟨"ThunderOwned$Parish", "hasStone", "(I)Z"⟩, 6) := ⟨⟨by decide +kernel, by decide +kernel⟩, List.mem_of_getElem? (i := 20) (by decide +kernel), List.mem_of_getElem? (i := 280) (by decide +kernel), List.mem_of_getElem? (i := 281) (by decide +kernel)⟩
theorem lw_p19 : lw_okq (⟨"ThunderOwned$House", "ownUp", "()Z"⟩, 5) := ⟨⟨by decide +kernel, by decide +kernel⟩, List.mem_of_getElem? (i := 29) (by decide +kernel), List.mem_of_getElem? (i := 292) (by decide +kernel), List.mem_of_getElem? (i := 293) (by decide +kernel)⟩
theorem lw_p20 : lw_okq (⟨"ThunderOwned$Parish", "voice", "()I"⟩, 6) := ⟨⟨by decide +kernel, by decide +kernel⟩, List.mem_of_getElem? (i := 20) (by decide +kernel), List.mem_of_getElem? (i := 301) (by decide +kernel), List.mem_of_getElem? (i := 302) (by decide +kernel)⟩
theorem lw_p21 : lw_okq (⟨"ThunderOwned", "hasParish", "()Z"⟩, 10) := ⟨⟨by decide +kernel, by decide +kernel⟩, List.mem_of_getElem? (i := 12) (by decide +kernel), List.mem_of_getElem? (i := 311) (by decide +kernel), List.mem_of_getElem? (i := 312) (by decide +kernel)⟩
theorem lw_p22 : lw_okq (⟨"ThunderOwned$Parish", "passNights", "(I)V"⟩, 6) := ⟨⟨by decide +kernel, by decide +kernel⟩, List.mem_of_getElem? (i := 20) (by decide +kernel), List.mem_of_getElem? (i := 315) (by decide +kernel), List.mem_of_getElem? (i := 316) (by decide +kernel)⟩
theorem lw_p23 : lw_okq (⟨"ThunderOwned$Parish", "passNight", "()V"⟩, 6) := ⟨⟨by decide +kernel, by decide +kernel⟩, List.mem_of_getElem? (i := 20) (by decide +kernel), List.mem_of_getElem? (i := 319) (by decide +kernel), List.mem_of_getElem? (i := 320) (by decide +kernel)⟩
theorem lw_p24 : lw_okq (⟨"ThunderOwned$Parish", "loseSleep", "()V"⟩, 6) := ⟨⟨by decide +kernel, by decide +kernel⟩, List.mem_of_getElem? (i := 20) (by decide +kernel), List.mem_of_getElem? (i := 325) (by decide +kernel), List.mem_of_getElem? (i := 326) (by decide +kernel)⟩
theorem lw_p25 : lw_okq (⟨"ThunderOwned$Parish", "ranklingSet", "()I"⟩, 6) := ⟨⟨by decide +kernel, by decide +kernel⟩, List.mem_of_getElem? (i := 20) (by decide +kernel), List.mem_of_getElem? (i := 330) (by decide +kernel), List.mem_of_getElem? (i := 331) (by decide +kernel)⟩
theorem lw_p26 : lw_okq (⟨"ThunderOwned$Parish", "layHeaviestStone", "()V"⟩, 6) := ⟨⟨by decide +kernel, by decide +kernel⟩, List.mem_of_getElem? (i := 20) (by decide +kernel), List.mem_of_getElem? (i := 334) (by decide +kernel), List.mem_of_getElem? (i := 335) (by decide +kernel)⟩
theorem lw_p27 : lw_okq (⟨"ThunderOwned", "firstWrongOfDay", "(LThunderOwned$Sheet;II)I"⟩, 10) := ⟨⟨by decide +kernel, by decide +kernel⟩, List.mem_of_getElem? (i := 12) (by decide +kernel), List.mem_of_getElem? (i := 349) (by decide +kernel), List.mem_of_getElem? (i := 350) (by decide +kernel)⟩
theorem lw_p28 : lw_okq (⟨"ThunderOwned$Parish", "acts", "(I)Z"⟩, 6) := ⟨⟨by decide +kernel, by decide +kernel⟩, List.mem_of_getElem? (i := 20) (by decide +kernel), List.mem_of_getElem? (i := 353) (by decide +kernel), List.mem_of_getElem? (i := 354) (by decide +kernel)⟩
theorem lw_p29 : lw_okq (⟨"ThunderOwned$Parish", "ownsAsAct", "(I)Z"⟩, 6) := ⟨⟨by decide +kernel, by decide +kernel⟩, List.mem_of_getElem? (i := 20) (by decide +kernel), List.mem_of_getElem? (i := 357) (by decide +kernel), List.mem_of_getElem? (i := 358) (by decide +kernel)⟩
theorem lw_p30 : lw_okq (⟨"ThunderOwned$Parish", "sleepsAsAct", "(I)Z"⟩, 6) := ⟨⟨by decide +kernel, by decide +kernel⟩, List.mem_of_getElem? (i := 20) (by decide +kernel), List.mem_of_getElem? (i := 361) (by decide +kernel), List.mem_of_getElem? (i := 362) (by decide +kernel)⟩
theorem lw_p31 : lw_okq (⟨"ThunderOwned$Parish", "isLaidAsAct", "(I)Z"⟩, 6) := ⟨⟨by decide +kernel, by decide +kernel⟩, List.mem_of_getElem? (i := 20) (by decide +kernel), List.mem_of_getElem? (i := 365) (by decide +kernel), List.mem_of_getElem? (i := 366) (by decide +kernel)⟩
def lw_privs_2 : List (MethodName × Nat) := [(⟨"ThunderOwned$House", "weight", "()I"⟩, 5), (⟨"ThunderOwned$House", "rankles", "()Z"⟩, 5), (⟨"ThunderOwned$Parish", "hasStone", "(I)Z"⟩, 6), (⟨"ThunderOwned$House", "ownUp", "()Z"⟩, 5), (⟨"ThunderOwned$Parish", "voice", "()I"⟩, 6), (⟨"ThunderOwned", "hasParish", "()Z"⟩, 10), (⟨"ThunderOwned$Parish", "passNights", "(I)V"⟩, 6), (⟨"ThunderOwned$Parish", "passNight", "()V"⟩, 6), (⟨"ThunderOwned$Parish", "loseSleep", "()V"⟩, 6), (⟨"ThunderOwned$Parish", "ranklingSet", "()I"⟩, 6), (⟨"ThunderOwned$Parish", "layHeaviestStone", "()V"⟩, 6), (⟨"ThunderOwned", "firstWrongOfDay", "(LThunderOwned$Sheet;II)I"⟩, 10), (⟨"ThunderOwned$Parish", "acts", "(I)Z"⟩, 6), (⟨"ThunderOwned$Parish", "ownsAsAct", "(I)Z"⟩, 6), (⟨"ThunderOwned$Parish", "sleepsAsAct", "(I)Z"⟩, 6), (⟨"ThunderOwned$Parish", "isLaidAsAct", "(I)Z"⟩, 6)]
theorem lw_r2 : ∀ q ∈ lw_privs_2, lw_okq q := List.forall_mem_cons.mpr ⟨lw_p16, List.forall_mem_cons.mpr ⟨lw_p17, List.forall_mem_cons.mpr ⟨lw_p18, List.forall_mem_cons.mpr ⟨lw_p19, List.forall_mem_cons.mpr ⟨lw_p20, List.forall_mem_cons.mpr ⟨lw_p21, List.forall_mem_cons.mpr ⟨lw_p22, List.forall_mem_cons.mpr ⟨lw_p23, List.forall_mem_cons.mpr ⟨lw_p24, List.forall_mem_cons.mpr ⟨lw_p25, List.forall_mem_cons.mpr ⟨lw_p26, List.forall_mem_cons.mpr ⟨lw_p27, List.forall_mem_cons.mpr ⟨lw_p28, List.forall_mem_cons.mpr ⟨lw_p29, List.forall_mem_cons.mpr ⟨lw_p30, List.forall_mem_cons.mpr ⟨lw_p31, fun _ h => absurd h List.not_mem_nil⟩⟩⟩⟩⟩⟩⟩⟩⟩⟩⟩⟩⟩⟩⟩⟩
theorem lw_p32 : lw_okq (⟨"ThunderOwned", "afterDay", "(I)I"⟩, 10) := ⟨⟨by decide +kernel, by decide +kernel⟩, List.mem_of_getElem? (i := 12) (by decide +kernel), List.mem_of_getElem? (i := 369) (by decide +kernel), List.mem_of_getElem? (i := 370) (by decide +kernel)⟩
theorem lw_p33 : lw_okq (⟨"ThunderOwned$Parish", "hatsLost", "()I"⟩, 6) := ⟨⟨by decide +kernel, by decide +kernel⟩, List.mem_of_getElem? (i := 20) (by decide +kernel), List.mem_of_getElem? (i := 373) (by decide +kernel), List.mem_of_getElem? (i := 374) (by decide +kernel)⟩
theorem lw_p34 : lw_okq (⟨"ThunderOwned$Parish", "nightsUntilQuiet", "(I)I"⟩, 6) := ⟨⟨by decide +kernel, by decide +kernel⟩, List.mem_of_getElem? (i := 20) (by decide +kernel), List.mem_of_getElem? (i := 386) (by decide +kernel), List.mem_of_getElem? (i := 387) (by decide +kernel)⟩
theorem lw_p35 : lw_okq (⟨"ThunderOwned$Parish", "setCount", "()I"⟩, 6) := ⟨⟨by decide +kernel, by decide +kernel⟩, List.mem_of_getElem? (i := 20) (by decide +kernel), List.mem_of_getElem? (i := 397) (by decide +kernel), List.mem_of_getElem? (i := 398) (by decide +kernel)⟩
theorem lw_p36 : lw_okq (⟨"ThunderOwned$Parish", "doesSetRankle", "(I)Z"⟩, 6) := ⟨⟨by decide +kernel, by decide +kernel⟩, List.mem_of_getElem? (i := 20) (by decide +kernel), List.mem_of_getElem? (i := 407) (by decide +kernel), List.mem_of_getElem? (i := 408) (by decide +kernel)⟩
theorem lw_p37 : lw_okq (⟨"ThunderOwned", "isQuietIfOwned", "(II)Z"⟩, 10) := ⟨⟨by decide +kernel, by decide +kernel⟩, List.mem_of_getElem? (i := 12) (by decide +kernel), List.mem_of_getElem? (i := 411) (by decide +kernel), List.mem_of_getElem? (i := 412) (by decide +kernel)⟩
theorem lw_p38 : lw_okq (⟨"ThunderOwned$Parish", "ownUpAll", "(I)V"⟩, 6) := ⟨⟨by decide +kernel, by decide +kernel⟩, List.mem_of_getElem? (i := 20) (by decide +kernel), List.mem_of_getElem? (i := 415) (by decide +kernel), List.mem_of_getElem? (i := 416) (by decide +kernel)⟩
theorem lw_p39 : lw_okq (⟨"ThunderOwned$Parish", "weightOfSet", "(I)I"⟩, 6) := ⟨⟨by decide +kernel, by decide +kernel⟩, List.mem_of_getElem? (i := 20) (by decide +kernel), List.mem_of_getElem? (i := 423) (by decide +kernel), List.mem_of_getElem? (i := 424) (by decide +kernel)⟩
theorem lw_p40 : lw_okq (⟨"ThunderOwned", "nightsIfChosen", "(III)I"⟩, 10) := ⟨⟨by decide +kernel, by decide +kernel⟩, List.mem_of_getElem? (i := 12) (by decide +kernel), List.mem_of_getElem? (i := 431) (by decide +kernel), List.mem_of_getElem? (i := 432) (by decide +kernel)⟩
theorem lw_p41 : lw_okq (⟨"ThunderOwned", "isContent", "(III)Z"⟩, 10) := ⟨⟨by decide +kernel, by decide +kernel⟩, List.mem_of_getElem? (i := 12) (by decide +kernel), List.mem_of_getElem? (i := 435) (by decide +kernel), List.mem_of_getElem? (i := 436) (by decide +kernel)⟩
theorem lw_p42 : lw_okq (⟨"ThunderOwned", "painOfChoice", "(III)I"⟩, 10) := ⟨⟨by decide +kernel, by decide +kernel⟩, List.mem_of_getElem? (i := 12) (by decide +kernel), List.mem_of_getElem? (i := 439) (by decide +kernel), List.mem_of_getElem? (i := 440) (by decide +kernel)⟩
theorem lw_p43 : lw_okq (⟨"ThunderOwned", "doReadingsHoldOfTrial", "()Z"⟩, 10) := ⟨⟨by decide +kernel, by decide +kernel⟩, List.mem_of_getElem? (i := 12) (by decide +kernel), List.mem_of_getElem? (i := 456) (by decide +kernel), List.mem_of_getElem? (i := 457) (by decide +kernel)⟩
theorem lw_p44 : lw_okq (⟨"ThunderOwned", "lastNightRead", "()I"⟩, 10) := ⟨⟨by decide +kernel, by decide +kernel⟩, List.mem_of_getElem? (i := 12) (by decide +kernel), List.mem_of_getElem? (i := 460) (by decide +kernel), List.mem_of_getElem? (i := 461) (by decide +kernel)⟩
theorem lw_p45 : lw_okq (⟨"ThunderOwned", "isVoiceAsRead", "(II)Z"⟩, 10) := ⟨⟨by decide +kernel, by decide +kernel⟩, List.mem_of_getElem? (i := 12) (by decide +kernel), List.mem_of_getElem? (i := 467) (by decide +kernel), List.mem_of_getElem? (i := 468) (by decide +kernel)⟩
theorem lw_p46 : lw_okq (⟨"ThunderOwned$Sheet", "renew", "(II)V"⟩, 4) := ⟨⟨by decide +kernel, by decide +kernel⟩, List.mem_of_getElem? (i := 106) (by decide +kernel), List.mem_of_getElem? (i := 489) (by decide +kernel), List.mem_of_getElem? (i := 490) (by decide +kernel)⟩
theorem lw_p47 : lw_okq (⟨"ThunderOwned$Sheet", "cutToLane", "(I)I"⟩, 4) := ⟨⟨by decide +kernel, by decide +kernel⟩, List.mem_of_getElem? (i := 106) (by decide +kernel), List.mem_of_getElem? (i := 501) (by decide +kernel), List.mem_of_getElem? (i := 502) (by decide +kernel)⟩
def lw_privs_3 : List (MethodName × Nat) := [(⟨"ThunderOwned", "afterDay", "(I)I"⟩, 10), (⟨"ThunderOwned$Parish", "hatsLost", "()I"⟩, 6), (⟨"ThunderOwned$Parish", "nightsUntilQuiet", "(I)I"⟩, 6), (⟨"ThunderOwned$Parish", "setCount", "()I"⟩, 6), (⟨"ThunderOwned$Parish", "doesSetRankle", "(I)Z"⟩, 6), (⟨"ThunderOwned", "isQuietIfOwned", "(II)Z"⟩, 10), (⟨"ThunderOwned$Parish", "ownUpAll", "(I)V"⟩, 6), (⟨"ThunderOwned$Parish", "weightOfSet", "(I)I"⟩, 6), (⟨"ThunderOwned", "nightsIfChosen", "(III)I"⟩, 10), (⟨"ThunderOwned", "isContent", "(III)Z"⟩, 10), (⟨"ThunderOwned", "painOfChoice", "(III)I"⟩, 10), (⟨"ThunderOwned", "doReadingsHoldOfTrial", "()Z"⟩, 10), (⟨"ThunderOwned", "lastNightRead", "()I"⟩, 10), (⟨"ThunderOwned", "isVoiceAsRead", "(II)Z"⟩, 10), (⟨"ThunderOwned$Sheet", "renew", "(II)V"⟩, 4), (⟨"ThunderOwned$Sheet", "cutToLane", "(I)I"⟩, 4)]
theorem lw_r3 : ∀ q ∈ lw_privs_3, lw_okq q := List.forall_mem_cons.mpr ⟨lw_p32, List.forall_mem_cons.mpr ⟨lw_p33, List.forall_mem_cons.mpr ⟨lw_p34, List.forall_mem_cons.mpr ⟨lw_p35, List.forall_mem_cons.mpr ⟨lw_p36, List.forall_mem_cons.mpr ⟨lw_p37, List.forall_mem_cons.mpr ⟨lw_p38, List.forall_mem_cons.mpr ⟨lw_p39, List.forall_mem_cons.mpr ⟨lw_p40, List.forall_mem_cons.mpr ⟨lw_p41, List.forall_mem_cons.mpr ⟨lw_p42, List.forall_mem_cons.mpr ⟨lw_p43, List.forall_mem_cons.mpr ⟨lw_p44, List.forall_mem_cons.mpr ⟨lw_p45, List.forall_mem_cons.mpr ⟨lw_p46, List.forall_mem_cons.mpr ⟨lw_p47, fun _ h => absurd h List.not_mem_nil⟩⟩⟩⟩⟩⟩⟩⟩⟩⟩⟩⟩⟩⟩⟩⟩
theorem lw_p48 : lw_okq (⟨"ThunderOwned", "toldAsDouble", "(LThunderOwned$House;)I"⟩, 10) := ⟨⟨by decide +kernel, by decide +kernel⟩, List.mem_of_getElem? (i := 12) (by decide +kernel), List.mem_of_getElem? (i := 520) (by decide +kernel), List.mem_of_getElem? (i := 521) (by decide +kernel)⟩
theorem lw_p49 : lw_okq (⟨"ThunderOwned", "leaveInTrace", "(I)V"⟩, 10) := ⟨⟨by decide +kernel, by decide +kernel⟩, List.mem_of_getElem? (i := 12) (by decide +kernel), List.mem_of_getElem? (i := 524) (by decide +kernel), List.mem_of_getElem? (i := 525) (by decide +kernel)⟩
theorem lw_p50 : lw_okq (⟨"ThunderOwned", "toldAsBrooding", "(LThunderOwned$House;)I"⟩, 10) := ⟨⟨by decide +kernel, by decide +kernel⟩, List.mem_of_getElem? (i := 12) (by decide +kernel), List.mem_of_getElem? (i := 528) (by decide +kernel), List.mem_of_getElem? (i := 529) (by decide +kernel)⟩
theorem lw_p51 : lw_okq (⟨"ThunderOwned", "toldAsPlain", "(LThunderOwned$House;)I"⟩, 10) := ⟨⟨by decide +kernel, by decide +kernel⟩, List.mem_of_getElem? (i := 12) (by decide +kernel), List.mem_of_getElem? (i := 532) (by decide +kernel), List.mem_of_getElem? (i := 533) (by decide +kernel)⟩
theorem lw_p52 : lw_okq (⟨"ThunderOwned", "knockedAsDouble", "()I"⟩, 10) := ⟨⟨by decide +kernel, by decide +kernel⟩, List.mem_of_getElem? (i := 12) (by decide +kernel), List.mem_of_getElem? (i := 540) (by decide +kernel), List.mem_of_getElem? (i := 541) (by decide +kernel)⟩
theorem lw_p53 : lw_okq (⟨"ThunderOwned", "knockedAsLent", "(LThunderOwned$House;)I"⟩, 10) := ⟨⟨by decide +kernel, by decide +kernel⟩, List.mem_of_getElem? (i := 12) (by decide +kernel), List.mem_of_getElem? (i := 544) (by decide +kernel), List.mem_of_getElem? (i := 545) (by decide +kernel)⟩
theorem lw_p54 : lw_okq (⟨"ThunderOwnedModel", "against", "(IIII)I"⟩, 29) := ⟨⟨by decide +kernel, by decide +kernel⟩, List.mem_of_getElem? (i := 564) (by decide +kernel), List.mem_of_getElem? (i := 671) (by decide +kernel), List.mem_of_getElem? (i := 672) (by decide +kernel)⟩
theorem lw_p55 : lw_okq (⟨"ThunderOwnedModel", "fails", "(I)I"⟩, 29) := ⟨⟨by decide +kernel, by decide +kernel⟩, List.mem_of_getElem? (i := 564) (by decide +kernel), List.mem_of_getElem? (i := 675) (by decide +kernel), List.mem_of_getElem? (i := 676) (by decide +kernel)⟩
theorem lw_p56 : lw_okq (⟨"ThunderOwnedModel", "readParish", "(I)Z"⟩, 29) := ⟨⟨by decide +kernel, by decide +kernel⟩, List.mem_of_getElem? (i := 564) (by decide +kernel), List.mem_of_getElem? (i := 679) (by decide +kernel), List.mem_of_getElem? (i := 680) (by decide +kernel)⟩
theorem lw_p57 : lw_okq (⟨"ThunderOwnedModel", "isSign", "(II)Z"⟩, 29) := ⟨⟨by decide +kernel, by decide +kernel⟩, List.mem_of_getElem? (i := 564) (by decide +kernel), List.mem_of_getElem? (i := 683) (by decide +kernel), List.mem_of_getElem? (i := 684) (by decide +kernel)⟩
theorem lw_p58 : lw_okq (⟨"ThunderOwnedModel", "digit", "(III)I"⟩, 29) := ⟨⟨by decide +kernel, by decide +kernel⟩, List.mem_of_getElem? (i := 564) (by decide +kernel), List.mem_of_getElem? (i := 687) (by decide +kernel), List.mem_of_getElem? (i := 688) (by decide +kernel)⟩
theorem lw_p59 : lw_okq (⟨"ThunderOwnedModel", "readHouse", "(I)Z"⟩, 29) := ⟨⟨by decide +kernel, by decide +kernel⟩, List.mem_of_getElem? (i := 564) (by decide +kernel), List.mem_of_getElem? (i := 691) (by decide +kernel), List.mem_of_getElem? (i := 692) (by decide +kernel)⟩
theorem lw_p60 : lw_okq (⟨"ThunderOwnedModel", "readStonesAll", "(I)Z"⟩, 29) := ⟨⟨by decide +kernel, by decide +kernel⟩, List.mem_of_getElem? (i := 564) (by decide +kernel), List.mem_of_getElem? (i := 695) (by decide +kernel), List.mem_of_getElem? (i := 696) (by decide +kernel)⟩
theorem lw_p61 : lw_okq (⟨"ThunderOwnedModel", "takeParish", "()V"⟩, 29) := ⟨⟨by decide +kernel, by decide +kernel⟩, List.mem_of_getElem? (i := 564) (by decide +kernel), List.mem_of_getElem? (i := 699) (by decide +kernel), List.mem_of_getElem? (i := 700) (by decide +kernel)⟩
theorem lw_p62 : lw_okq (⟨"ThunderOwnedModel", "isHouse", "(I)Z"⟩, 29) := ⟨⟨by decide +kernel, by decide +kernel⟩, List.mem_of_getElem? (i := 564) (by decide +kernel), List.mem_of_getElem? (i := 707) (by decide +kernel), List.mem_of_getElem? (i := 708) (by decide +kernel)⟩
theorem lw_p63 : lw_okq (⟨"ThunderOwnedModel", "weightOf", "(I)I"⟩, 29) := ⟨⟨by decide +kernel, by decide +kernel⟩, List.mem_of_getElem? (i := 564) (by decide +kernel), List.mem_of_getElem? (i := 711) (by decide +kernel), List.mem_of_getElem? (i := 712) (by decide +kernel)⟩
def lw_privs_4 : List (MethodName × Nat) := [(⟨"ThunderOwned", "toldAsDouble", "(LThunderOwned$House;)I"⟩, 10), (⟨"ThunderOwned", "leaveInTrace", "(I)V"⟩, 10), (⟨"ThunderOwned", "toldAsBrooding", "(LThunderOwned$House;)I"⟩, 10), (⟨"ThunderOwned", "toldAsPlain", "(LThunderOwned$House;)I"⟩, 10), (⟨"ThunderOwned", "knockedAsDouble", "()I"⟩, 10), (⟨"ThunderOwned", "knockedAsLent", "(LThunderOwned$House;)I"⟩, 10), (⟨"ThunderOwnedModel", "against", "(IIII)I"⟩, 29), (⟨"ThunderOwnedModel", "fails", "(I)I"⟩, 29), (⟨"ThunderOwnedModel", "readParish", "(I)Z"⟩, 29), (⟨"ThunderOwnedModel", "isSign", "(II)Z"⟩, 29), (⟨"ThunderOwnedModel", "digit", "(III)I"⟩, 29), (⟨"ThunderOwnedModel", "readHouse", "(I)Z"⟩, 29), (⟨"ThunderOwnedModel", "readStonesAll", "(I)Z"⟩, 29), (⟨"ThunderOwnedModel", "takeParish", "()V"⟩, 29), (⟨"ThunderOwnedModel", "isHouse", "(I)Z"⟩, 29), (⟨"ThunderOwnedModel", "weightOf", "(I)I"⟩, 29)]
theorem lw_r4 : ∀ q ∈ lw_privs_4, lw_okq q := List.forall_mem_cons.mpr ⟨lw_p48, List.forall_mem_cons.mpr ⟨lw_p49, List.forall_mem_cons.mpr ⟨lw_p50, List.forall_mem_cons.mpr ⟨lw_p51, List.forall_mem_cons.mpr ⟨lw_p52, List.forall_mem_cons.mpr ⟨lw_p53, List.forall_mem_cons.mpr ⟨lw_p54, List.forall_mem_cons.mpr ⟨lw_p55, List.forall_mem_cons.mpr ⟨lw_p56, List.forall_mem_cons.mpr ⟨lw_p57, List.forall_mem_cons.mpr ⟨lw_p58, List.forall_mem_cons.mpr ⟨lw_p59, List.forall_mem_cons.mpr ⟨lw_p60, List.forall_mem_cons.mpr ⟨lw_p61, List.forall_mem_cons.mpr ⟨lw_p62, List.forall_mem_cons.mpr ⟨lw_p63, fun _ h => absurd h List.not_mem_nil⟩⟩⟩⟩⟩⟩⟩⟩⟩⟩⟩⟩⟩⟩⟩⟩
theorem lw_p64 : lw_okq (⟨"ThunderOwnedModel", "rankles", "(I)Z"⟩, 29) := ⟨⟨by decide +kernel, by decide +kernel⟩, List.mem_of_getElem? (i := 564) (by decide +kernel), List.mem_of_getElem? (i := 715) (by decide +kernel), List.mem_of_getElem? (i := 716) (by decide +kernel)⟩
theorem lw_p65 : lw_okq (⟨"ThunderOwnedModel", "isStone", "(I)Z"⟩, 29) := ⟨⟨by decide +kernel, by decide +kernel⟩, List.mem_of_getElem? (i := 564) (by decide +kernel), List.mem_of_getElem? (i := 726) (by decide +kernel), List.mem_of_getElem? (i := 727) (by decide +kernel)⟩
theorem lw_p66 : lw_okq (⟨"ThunderOwnedModel", "owns", "(I)Z"⟩, 29) := ⟨⟨by decide +kernel, by decide +kernel⟩, List.mem_of_getElem? (i := 564) (by decide +kernel), List.mem_of_getElem? (i := 738) (by decide +kernel), List.mem_of_getElem? (i := 739) (by decide +kernel)⟩
theorem lw_p67 : lw_okq (⟨"ThunderOwnedModel", "voiceNow", "()I"⟩, 29) := ⟨⟨by decide +kernel, by decide +kernel⟩, List.mem_of_getElem? (i := 564) (by decide +kernel), List.mem_of_getElem? (i := 746) (by decide +kernel), List.mem_of_getElem? (i := 747) (by decide +kernel)⟩
theorem lw_p68 : lw_okq (⟨"ThunderOwnedModel", "goesNight", "()V"⟩, 29) := ⟨⟨by decide +kernel, by decide +kernel⟩, List.mem_of_getElem? (i := 564) (by decide +kernel), List.mem_of_getElem? (i := 754) (by decide +kernel), List.mem_of_getElem? (i := 755) (by decide +kernel)⟩
theorem lw_p69 : lw_okq (⟨"ThunderOwnedModel", "whoRankle", "()I"⟩, 29) := ⟨⟨by decide +kernel, by decide +kernel⟩, List.mem_of_getElem? (i := 564) (by decide +kernel), List.mem_of_getElem? (i := 758) (by decide +kernel), List.mem_of_getElem? (i := 759) (by decide +kernel)⟩
theorem lw_p70 : lw_okq (⟨"ThunderOwnedModel", "layGreatest", "()V"⟩, 29) := ⟨⟨by decide +kernel, by decide +kernel⟩, List.mem_of_getElem? (i := 564) (by decide +kernel), List.mem_of_getElem? (i := 762) (by decide +kernel), List.mem_of_getElem? (i := 763) (by decide +kernel)⟩
theorem lw_p71 : lw_okq (⟨"ThunderOwnedModel", "keep", "(I)V"⟩, 29) := ⟨⟨by decide +kernel, by decide +kernel⟩, List.mem_of_getElem? (i := 564) (by decide +kernel), List.mem_of_getElem? (i := 770) (by decide +kernel), List.mem_of_getElem? (i := 771) (by decide +kernel)⟩
theorem lw_p72 : lw_okq (⟨"ThunderOwnedModel", "goDay", "(II)I"⟩, 29) := ⟨⟨by decide +kernel, by decide +kernel⟩, List.mem_of_getElem? (i := 564) (by decide +kernel), List.mem_of_getElem? (i := 774) (by decide +kernel), List.mem_of_getElem? (i := 775) (by decide +kernel)⟩
theorem lw_p73 : lw_okq (⟨"ThunderOwnedModel", "does", "(I)Z"⟩, 29) := ⟨⟨by decide +kernel, by decide +kernel⟩, List.mem_of_getElem? (i := 564) (by decide +kernel), List.mem_of_getElem? (i := 778) (by decide +kernel), List.mem_of_getElem? (i := 779) (by decide +kernel)⟩
theorem lw_p74 : lw_okq (⟨"ThunderOwnedModel", "tellDay", "(II)I"⟩, 29) := ⟨⟨by decide +kernel, by decide +kernel⟩, List.mem_of_getElem? (i := 564) (by decide +kernel), List.mem_of_getElem? (i := 782) (by decide +kernel), List.mem_of_getElem? (i := 783) (by decide +kernel)⟩
theorem lw_p75 : lw_okq (⟨"ThunderOwnedModel", "putBack", "(I)V"⟩, 29) := ⟨⟨by decide +kernel, by decide +kernel⟩, List.mem_of_getElem? (i := 564) (by decide +kernel), List.mem_of_getElem? (i := 786) (by decide +kernel), List.mem_of_getElem? (i := 787) (by decide +kernel)⟩
theorem lw_p76 : lw_okq (⟨"ThunderOwnedModel", "quietIn", "(I)I"⟩, 29) := ⟨⟨by decide +kernel, by decide +kernel⟩, List.mem_of_getElem? (i := 564) (by decide +kernel), List.mem_of_getElem? (i := 798) (by decide +kernel), List.mem_of_getElem? (i := 799) (by decide +kernel)⟩
theorem lw_p77 : lw_okq (⟨"ThunderOwnedModel", "weightOfSet", "(I)I"⟩, 29) := ⟨⟨by decide +kernel, by decide +kernel⟩, List.mem_of_getElem? (i := 564) (by decide +kernel), List.mem_of_getElem? (i := 813) (by decide +kernel), List.mem_of_getElem? (i := 814) (by decide +kernel)⟩
theorem lw_p78 : lw_okq (⟨"ThunderOwnedModel", "findPains", "(II)V"⟩, 29) := ⟨⟨by decide +kernel, by decide +kernel⟩, List.mem_of_getElem? (i := 564) (by decide +kernel), List.mem_of_getElem? (i := 821) (by decide +kernel), List.mem_of_getElem? (i := 822) (by decide +kernel)⟩
theorem lw_p79 : lw_okq (⟨"ThunderOwnedModel", "areSo", "()Z"⟩, 29) := ⟨⟨by decide +kernel, by decide +kernel⟩, List.mem_of_getElem? (i := 564) (by decide +kernel), List.mem_of_getElem? (i := 837) (by decide +kernel), List.mem_of_getElem? (i := 838) (by decide +kernel)⟩
def lw_privs_5 : List (MethodName × Nat) := [(⟨"ThunderOwnedModel", "rankles", "(I)Z"⟩, 29), (⟨"ThunderOwnedModel", "isStone", "(I)Z"⟩, 29), (⟨"ThunderOwnedModel", "owns", "(I)Z"⟩, 29), (⟨"ThunderOwnedModel", "voiceNow", "()I"⟩, 29), (⟨"ThunderOwnedModel", "goesNight", "()V"⟩, 29), (⟨"ThunderOwnedModel", "whoRankle", "()I"⟩, 29), (⟨"ThunderOwnedModel", "layGreatest", "()V"⟩, 29), (⟨"ThunderOwnedModel", "keep", "(I)V"⟩, 29), (⟨"ThunderOwnedModel", "goDay", "(II)I"⟩, 29), (⟨"ThunderOwnedModel", "does", "(I)Z"⟩, 29), (⟨"ThunderOwnedModel", "tellDay", "(II)I"⟩, 29), (⟨"ThunderOwnedModel", "putBack", "(I)V"⟩, 29), (⟨"ThunderOwnedModel", "quietIn", "(I)I"⟩, 29), (⟨"ThunderOwnedModel", "weightOfSet", "(I)I"⟩, 29), (⟨"ThunderOwnedModel", "findPains", "(II)V"⟩, 29), (⟨"ThunderOwnedModel", "areSo", "()Z"⟩, 29)]
theorem lw_r5 : ∀ q ∈ lw_privs_5, lw_okq q := List.forall_mem_cons.mpr ⟨lw_p64, List.forall_mem_cons.mpr ⟨lw_p65, List.forall_mem_cons.mpr ⟨lw_p66, List.forall_mem_cons.mpr ⟨lw_p67, List.forall_mem_cons.mpr ⟨lw_p68, List.forall_mem_cons.mpr ⟨lw_p69, List.forall_mem_cons.mpr ⟨lw_p70, List.forall_mem_cons.mpr ⟨lw_p71, List.forall_mem_cons.mpr ⟨lw_p72, List.forall_mem_cons.mpr ⟨lw_p73, List.forall_mem_cons.mpr ⟨lw_p74, List.forall_mem_cons.mpr ⟨lw_p75, List.forall_mem_cons.mpr ⟨lw_p76, List.forall_mem_cons.mpr ⟨lw_p77, List.forall_mem_cons.mpr ⟨lw_p78, List.forall_mem_cons.mpr ⟨lw_p79, fun _ h => absurd h List.not_mem_nil⟩⟩⟩⟩⟩⟩⟩⟩⟩⟩⟩⟩⟩⟩⟩⟩
theorem lw_p80 : lw_okq (⟨"ThunderOwnedModel", "lost", "(I)J"⟩, 29) := ⟨⟨by decide +kernel, by decide +kernel⟩, List.mem_of_getElem? (i := 564) (by decide +kernel), List.mem_of_getElem? (i := 873) (by decide +kernel), List.mem_of_getElem? (i := 874) (by decide +kernel)⟩
theorem lw_p81 : lw_okq (⟨"ThunderOwnedModel", "begins", "(I)V"⟩, 29) := ⟨⟨by decide +kernel, by decide +kernel⟩, List.mem_of_getElem? (i := 564) (by decide +kernel), List.mem_of_getElem? (i := 885) (by decide +kernel), List.mem_of_getElem? (i := 886) (by decide +kernel)⟩
def lw_privs_6 : List (MethodName × Nat) := [(⟨"ThunderOwnedModel", "lost", "(I)J"⟩, 29), (⟨"ThunderOwnedModel", "begins", "(I)V"⟩, 29)]
theorem lw_r6 : ∀ q ∈ lw_privs_6, lw_okq q := List.forall_mem_cons.mpr ⟨lw_p80, List.forall_mem_cons.mpr ⟨lw_p81, fun _ h => absurd h List.not_mem_nil⟩⟩
def lw_privs : List (MethodName × Nat) := lw_privs_1 ++ (lw_privs_2 ++ (lw_privs_3 ++ (lw_privs_4 ++ (lw_privs_5 ++ (lw_privs_6)))))
def lw_tbl : List Cond := k2_sels lw_privs ++ tables_1
theorem lw_privs_ok : ∀ q ∈ lw_privs, lw_okq q := by
  show ∀ q ∈ lw_privs_1 ++ (lw_privs_2 ++ (lw_privs_3 ++ (lw_privs_4 ++ (lw_privs_5 ++ (lw_privs_6))))), lw_okq q
  exact List.forall_mem_append.mpr ⟨lw_r1, List.forall_mem_append.mpr ⟨lw_r2, List.forall_mem_append.mpr ⟨lw_r3, List.forall_mem_append.mpr ⟨lw_r4, List.forall_mem_append.mpr ⟨lw_r5, lw_r6⟩⟩⟩⟩⟩
end
section
def tn_T0 : u_T := fun k => match k with
  | 0 => ("ThunderOwned$House", "kind", "I", false)
  | 1 => ("ThunderOwned$House", "wrong", "I", false)
  | 2 => ("ThunderOwned$House", "sleepLeft", "I", false)
  | 3 => ("ThunderOwned$House", "hats", "I", false)
  | _ => ("ThunderOwned$House", "owned", "Z", false)
def tn_ty0 : Nat → FieldType := fun k => match k with
  | 0 => .int
  | 1 => .int
  | 2 => .int
  | 3 => .int
  | _ => .boolean
theorem tn_nm0 : ∀ a, a < 5 → ∀ b, b < 5 → a ≠ b → (tn_T0 a).2.1 ≠ (tn_T0 b).2.1 := by decide +kernel
theorem tn_tk0 : ∀ k, k < 5 → parseFieldDescriptor (tn_T0 k).2.2.1 = some (tn_ty0 k) := by decide +kernel
def tn_T1 : u_T := fun k => match k with
  | 0 => ("ThunderOwned$Parish", "houses", "[LThunderOwned$House;", true)
  | 1 => ("ThunderOwned$Parish", "stones", "[LThunderOwned$Stone;", true)
  | 2 => ("ThunderOwned$Parish", "houseCount", "I", false)
  | 3 => ("ThunderOwned$Parish", "stoneCount", "I", false)
  | 4 => ("ThunderOwned$Parish", "step", "I", false)
  | _ => ("ThunderOwned$Parish", "hangs", "I", false)
def tn_ty1 : Nat → FieldType := fun k => match k with
  | 0 => .array (.object "ThunderOwned$House")
  | 1 => .array (.object "ThunderOwned$Stone")
  | 2 => .int
  | 3 => .int
  | 4 => .int
  | _ => .int
theorem tn_nm1 : ∀ a, a < 6 → ∀ b, b < 6 → a ≠ b → (tn_T1 a).2.1 ≠ (tn_T1 b).2.1 := by decide +kernel
theorem tn_tk1 : ∀ k, k < 6 → parseFieldDescriptor (tn_T1 k).2.2.1 = some (tn_ty1 k) := by decide +kernel
def tn_T2 : u_T := fun k => match k with
  | 0 => ("ThunderOwned$Sheet", "cells", "[I", true)
  | 1 => ("ThunderOwned$Sheet", "present", "Z", false)
  | 2 => ("ThunderOwned$Sheet", "lane", "I", false)
  | _ => ("ThunderOwned$Sheet", "length", "I", false)
def tn_ty2 : Nat → FieldType := fun k => match k with
  | 0 => .array .int
  | 1 => .boolean
  | 2 => .int
  | _ => .int
theorem tn_nm2 : ∀ a, a < 4 → ∀ b, b < 4 → a ≠ b → (tn_T2 a).2.1 ≠ (tn_T2 b).2.1 := by decide +kernel
theorem tn_tk2 : ∀ k, k < 4 → parseFieldDescriptor (tn_T2 k).2.2.1 = some (tn_ty2 k) := by decide +kernel
def tn_T3 : u_T := fun k => match k with
  | 0 => ("ThunderOwned$Stone", "hides", "I", false)
  | _ => ("ThunderOwned$Stone", "laid", "Z", false)
def tn_ty3 : Nat → FieldType := fun k => match k with
  | 0 => .int
  | _ => .boolean
theorem tn_nm3 : ∀ a, a < 2 → ∀ b, b < 2 → a ≠ b → (tn_T3 a).2.1 ≠ (tn_T3 b).2.1 := by decide +kernel
theorem tn_tk3 : ∀ k, k < 2 → parseFieldDescriptor (tn_T3 k).2.2.1 = some (tn_ty3 k) := by decide +kernel
def tn_T4 : u_T := fun k => match k with
  | 0 => ("ThunderOwned$TextReader", "draft", "LThunderOwned$Parish;", true)
  | 1 => ("ThunderOwned$TextReader", "due", "I", false)
  | 2 => ("ThunderOwned$TextReader", "kind", "I", false)
  | _ => ("ThunderOwned$TextReader", "wrong", "I", false)
def tn_ty4 : Nat → FieldType := fun k => match k with
  | 0 => .object "ThunderOwned$Parish"
  | 1 => .int
  | 2 => .int
  | _ => .int
theorem tn_nm4 : ∀ a, a < 4 → ∀ b, b < 4 → a ≠ b → (tn_T4 a).2.1 ≠ (tn_T4 b).2.1 := by decide +kernel
theorem tn_tk4 : ∀ k, k < 4 → parseFieldDescriptor (tn_T4 k).2.2.1 = some (tn_ty4 k) := by decide +kernel
def tn_T5 : u_T := fun k => match k with
  | 0 => ("ThunderOwned", "now", "LThunderOwned$Parish;", true)
  | 1 => ("ThunderOwned", "trial", "LThunderOwned$Parish;", true)
  | 2 => ("ThunderOwned", "sheets", "[LThunderOwned$Sheet;", true)
  | 3 => ("ThunderOwned", "readingNights", "[I", true)
  | 4 => ("ThunderOwned", "readingVoices", "[I", true)
  | 5 => ("ThunderOwned", "nightsOfChoice", "[I", true)
  | 6 => ("ThunderOwned", "readingCount", "I", false)
  | 7 => ("ThunderOwned", "nightsGone", "I", false)
  | 8 => ("ThunderOwned", "traceLeft", "I", false)
  | _ => ("ThunderOwned", "latestFault", "I", false)
def tn_ty5 : Nat → FieldType := fun k => match k with
  | 0 => .object "ThunderOwned$Parish"
  | 1 => .object "ThunderOwned$Parish"
  | 2 => .array (.object "ThunderOwned$Sheet")
  | 3 => .array .int
  | 4 => .array .int
  | 5 => .array .int
  | 6 => .int
  | 7 => .int
  | 8 => .int
  | _ => .int
theorem tn_nm5 : ∀ a, a < 10 → ∀ b, b < 10 → a ≠ b → (tn_T5 a).2.1 ≠ (tn_T5 b).2.1 := by decide +kernel
theorem tn_tk5 : ∀ k, k < 10 → parseFieldDescriptor (tn_T5 k).2.2.1 = some (tn_ty5 k) := by decide +kernel
def tn_T6 : u_T := fun k => match k with
  | 0 => ("ThunderOwnedModel", "fault", "I", false)
  | 1 => ("ThunderOwnedModel", "trace", "I", false)
  | 2 => ("ThunderOwnedModel", "sorts", "[I", true)
  | 3 => ("ThunderOwnedModel", "sheetLong", "[I", true)
  | 4 => ("ThunderOwnedModel", "cells", "[I", true)
  | 5 => ("ThunderOwnedModel", "houses", "I", false)
  | 6 => ("ThunderOwnedModel", "stones", "I", false)
  | 7 => ("ThunderOwnedModel", "step", "I", false)
  | 8 => ("ThunderOwnedModel", "hangs", "I", false)
  | 9 => ("ThunderOwnedModel", "nights", "I", false)
  | 10 => ("ThunderOwnedModel", "hats", "I", false)
  | 11 => ("ThunderOwnedModel", "owned", "I", false)
  | 12 => ("ThunderOwnedModel", "laid", "I", false)
  | 13 => ("ThunderOwnedModel", "kind", "[I", true)
  | 14 => ("ThunderOwnedModel", "wrong", "[I", true)
  | 15 => ("ThunderOwnedModel", "sleep", "[I", true)
  | 16 => ("ThunderOwnedModel", "hatsOf", "[I", true)
  | 17 => ("ThunderOwnedModel", "hides", "[I", true)
  | 18 => ("ThunderOwnedModel", "at", "I", false)
  | 19 => ("ThunderOwnedModel", "readHouses", "I", false)
  | 20 => ("ThunderOwnedModel", "readStones", "I", false)
  | 21 => ("ThunderOwnedModel", "readStep", "I", false)
  | 22 => ("ThunderOwnedModel", "read", "[I", true)
  | 23 => ("ThunderOwnedModel", "readHides", "[I", true)
  | 24 => ("ThunderOwnedModel", "kept", "[I", true)
  | 25 => ("ThunderOwnedModel", "pains", "[I", true)
  | 26 => ("ThunderOwnedModel", "readings", "I", false)
  | 27 => ("ThunderOwnedModel", "readBehind", "[I", true)
  | _ => ("ThunderOwnedModel", "readVoice", "[I", true)
def tn_ty6 : Nat → FieldType := fun k => match k with
  | 0 => .int
  | 1 => .int
  | 2 => .array .int
  | 3 => .array .int
  | 4 => .array .int
  | 5 => .int
  | 6 => .int
  | 7 => .int
  | 8 => .int
  | 9 => .int
  | 10 => .int
  | 11 => .int
  | 12 => .int
  | 13 => .array .int
  | 14 => .array .int
  | 15 => .array .int
  | 16 => .array .int
  | 17 => .array .int
  | 18 => .int
  | 19 => .int
  | 20 => .int
  | 21 => .int
  | 22 => .array .int
  | 23 => .array .int
  | 24 => .array .int
  | 25 => .array .int
  | 26 => .int
  | 27 => .array .int
  | _ => .array .int
theorem tn_nm6 : ∀ a, a < 29 → ∀ b, b < 29 → a ≠ b → (tn_T6 a).2.1 ≠ (tn_T6 b).2.1 := by decide +kernel
theorem tn_tk6 : ∀ k, k < 29 → parseFieldDescriptor (tn_T6 k).2.2.1 = some (tn_ty6 k) := by decide +kernel
abbrev tn_cl : List vw_C := [("ThunderOwned$House", tn_T0, 5), ("ThunderOwned$Parish", tn_T1, 6), ("ThunderOwned$Sheet", tn_T2, 4), ("ThunderOwned$Stone", tn_T3, 2), ("ThunderOwned$TextReader", tn_T4, 4), ("ThunderOwned", tn_T5, 10), ("ThunderOwnedModel", tn_T6, 29)]
def tn_N : Nat → Nat := fun i => match i with
  | 0 => 5
  | 1 => 6
  | 2 => 4
  | 3 => 2
  | 4 => 4
  | 5 => 10
  | _ => 29
def tn_rl : Nat → List Nat := fun i => match i with
  | 0 => []
  | 1 => [0, 1]
  | 2 => [0]
  | 3 => []
  | 4 => [0]
  | 5 => [0, 1, 2, 3, 4, 5]
  | _ => [2, 3, 4, 13, 14, 15, 16, 17, 22, 23, 24, 25, 27, 28]
def tn_isR (i k : Nat) : Bool := (tn_rl i).contains k
/-- the words that every method may use -/
def tn_tbl : List Cond := lw_tbl.filter goodWord
def tn_isN : Cond → Bool
  | .fieldLinkNest .. => true
  | .methodLinkNest .. => true
  | _ => false
def tn_nst : List Cond := lw_tbl.filter tn_isN
theorem tn_w (i : Nat) {w : Cond} (h : lw_tbl[i]? = some w) (hg : goodWord w = true) : w ∈ tn_tbl := List.mem_filter.mpr ⟨List.mem_of_getElem? h, hg⟩
theorem tn_wn (i : Nat) {w : Cond} (h : lw_tbl[i]? = some w) (hg : tn_isN w = true) : w ∈ tn_nst := List.mem_filter.mpr ⟨List.mem_of_getElem? h, hg⟩
theorem tn_wl {l : List Cond} {ps : List Nat} (h : l.map some = ps.map (fun i => lw_tbl[i]?)) (hg : l.all goodWord = true) : ∀ w ∈ l, w ∈ tn_tbl := by
  intro w hw
  have h1 : some w ∈ ps.map (fun i => lw_tbl[i]?) := by rw [← h]; exact List.mem_map.mpr ⟨w, hw, rfl⟩
  obtain ⟨i, -, hi⟩ := List.mem_map.mp h1
  exact tn_w i hi (List.all_eq_true.mp hg w hw)
theorem tn_us0 : ∀ w ∈ u_ws "ThunderOwned$House" tn_T0 5, w ∈ tn_tbl := tn_wl (ps := [131, 133, 135, 137, 139]) (by decide +kernel) (by decide +kernel)
theorem tn_us1 : ∀ w ∈ u_ws "ThunderOwned$Parish" tn_T1 6, w ∈ tn_tbl := tn_wl (ps := [173, 175, 177, 179, 181, 183]) (by decide +kernel) (by decide +kernel)
theorem tn_us2 : ∀ w ∈ u_ws "ThunderOwned$Sheet" tn_T2 4, w ∈ tn_tbl := tn_wl (ps := [200, 202, 204, 206]) (by decide +kernel) (by decide +kernel)
theorem tn_us3 : ∀ w ∈ u_ws "ThunderOwned$Stone" tn_T3 2, w ∈ tn_tbl := tn_wl (ps := [153, 155]) (by decide +kernel) (by decide +kernel)
theorem tn_us4 : ∀ w ∈ u_ws "ThunderOwned$TextReader" tn_T4 4, w ∈ tn_tbl := tn_wl (ps := [283, 285, 287, 289]) (by decide +kernel) (by decide +kernel)
theorem tn_us5 : ∀ w ∈ u_ws "ThunderOwned" tn_T5 10, w ∈ tn_tbl := tn_wl (ps := [220, 222, 224, 226, 228, 230, 232, 234, 236, 238]) (by decide +kernel) (by decide +kernel)
theorem tn_us6 : ∀ w ∈ u_ws "ThunderOwnedModel" tn_T6 29, w ∈ tn_tbl := tn_wl (ps := [680, 682, 684, 686, 688, 690, 692, 694, 696, 698, 700, 702, 704, 706, 708, 710, 712, 714, 716, 718, 720, 722, 724, 726, 728, 730, 732, 734, 736]) (by decide +kernel) (by decide +kernel)
end
section
/-! ===== the abstract world: cells by codes (0 null, 1 the script, n + 2 the n-th cell), ints and references apart ===== -/
/-- a method: name, code, locals, what it returns, room -/
abbrev tn_M : Type := MethodName × ByteArray × Nat × Option FieldType × Room
/-- what a walk stands in -/
abbrev tn_G : Type := (Program × Launch × Env × Room × State × MethodId × Array Value × List Frame × Method × Code × (State → Prop)) × va_G × (Nat → ClassId) × (Nat → Prop) × Heap × (Nat → Nat) × Nat
def tn_gr (g : Nat → Nat) (c : Nat) : Option Nat := if c = 0 then none else some (g c)
def tn_v (g : Nat → Nat) (v : Value) : Value := match v with
  | .ref c => va_rf (tn_gr g c)
  | .int x => .int x
  | .long x => .long x
  | w => w
def tn_ok (n : Nat) (v : Value) : Prop := match v with
  | .ref c => c < n + 2
  | _ => True
def tn_fs (i : Nat) (g : Nat → Nat) (ρ : Nat → Nat → Nat) (σ : Nat → Nat → Int32) (c : Nat) : List Value := (List.range (tn_N i)).map (fun j => if tn_isR i j = true then va_rf (tn_gr g (ρ c j)) else .int (σ c j))
def tn_e (cA : Nat → ClassId) (g : Nat → Nat) (ρ : Nat → Nat → Nat) (σ : Nat → Nat → Int32) (c : Nat) (k : Nat × Nat) : va_E :=
  if k.1 < 7 then .inr (k.1, tn_fs k.1 g ρ σ c) else if k.1 = 7 then .inl (cA 0, k.2, .inl (σ c)) else .inl (cA (k.1 - 7), k.2, .inr (.inr (.inr (.inr (fun j => tn_gr g (ρ c j))))))
def tn_c (cA : Nat → ClassId) (g : Nat → Nat) (ρ : Nat → Nat → Nat) (σ : Nat → Nat → Int32) (i : Nat) (k : Nat × Nat) : Nat × va_E := (g (i + 2), tn_e cA g ρ σ (i + 2) k)
def tn_C (cA : Nat → ClassId) (g : Nat → Nat) (ks : List (Nat × Nat)) (ρ : Nat → Nat → Nat) (σ : Nat → Nat → Int32) : va_W := ks.mapIdx (tn_c cA g ρ σ)
def tn_kd (ks : List (Nat × Nat)) (c : Nat) : Option (Nat × Nat) := if c < 2 then none else ks[c - 2]?
abbrev tn_tys (cA : Nat → ClassId) : List (ClassId × FieldType) := [(cA 0, .int), (cA 1, .object "ThunderOwned$House"), (cA 2, .object "ThunderOwned$Stone"), (cA 3, .object "ThunderOwned$Sheet")]
/-- what the tables say, carried along -/
def tn_K (D : va_G) (cA : Nat → ClassId) (U : State) : Prop := va_K D tn_cl (tn_tys cA) U ∧ (∀ w ∈ tn_nst, va_Nw w U) ∧ va_AO "ThunderOwned$House" U ∧ va_AO "ThunderOwned$Stone" U ∧ va_AO "ThunderOwned$Sheet" U
def tn_P (D : va_G) (cA : Nat → ClassId) (A : Nat → Prop) (g : Nat → Nat) (ks : List (Nat × Nat)) (ρ : Nat → Nat → Nat) (σ : Nat → Nat → Int32) (H : Heap) : Prop :=
  va_P D tn_cl (tn_C cA g ks ρ σ) H ∧ va_D A (tn_C cA g ks ρ σ) ∧ ∀ c k, ρ c k < ks.length + 2
def tn_L (g : Nat → Nat) (loc : List Value) (ls : Array Slot) (nL : Nat) : Prop := ls.size = nL ∧ lv_wf ls ∧ ∀ (i : Nat) (v : Value), loc[i]? = some v → v ≠ .null → ls[i]? = some (.val (tn_v g v))
def tn_okL (n : Nat) (l : List Value) : Prop := ∀ v ∈ l, tn_ok n v
/-- THE JUDGEMENT: from every heap that holds the cells, the machine at pc comes to its end -/
def tn_A (Γ : tn_G) (pc : Nat) (loc st : List Value) (ca sl : Nat) (ks : List (Nat × Nat)) (ρ : Nat → Nat → Nat) (σ : Nat → Nat → Int32) : Prop :=
  match Γ with
  | ⟨⟨p, l, e, R, s, m, args, below, meth, c, Q⟩, D, cA, A, H0, g0, n0⟩ => ∀ (g : Nat → Nat) (H : Heap) (locs : List Loc) (ls : Array Slot), tn_P D cA A g ks ρ σ H → va_S A H0 H locs → tn_L g loc ls c.maxLocals → tn_okL ks.length loc → tn_okL ks.length st → (∀ q, q < n0 + 2 → g q = g0 q) → n0 ≤ ks.length →
    W p l e R s m args below meth c H locs ca sl Q (F0 m pc ls (st.map (tn_v g)))
/-- what holds in the body of the method z -/
def tn_is (Γ : tn_G) (z : tn_M) : Prop := match Γ with
  | ⟨⟨p, l, e, R, s, m, args, below, meth, c, Q⟩, D, cA, A, H0, g0, n0⟩ => p.tables.exec = Jvm.exec ∧ c.code = z.2.1 ∧ c.maxLocals = z.2.2.1 ∧ s.vm.findClass z.1.cls = some m.cls ∧ (∀ w ∈ tn_tbl, w.before args s = true) ∧ tn_K D cA s ∧ R = z.2.2.2.2 ∧ meth.sig.returnType = z.2.2.2.1 ∧ meth.locks = false ∧ meth.name = z.1.name ∧ (∀ q, H0.size ≤ q → A q)
def tn_Qc (D : va_G) (cA : Nat → ClassId) (A : Nat → Prop) (g : Nat → Nat) (n : Nat) (K : Option Value → List (Nat × Nat) → (Nat → Nat → Nat) → (Nat → Nat → Int32) → Prop) : Array Value → State → Outcome → State → Prop := fun _ st oc t =>
  (∃ (v : Option Value) (g' : Nat → Nat) (ks' : List (Nat × Nat)) (ρ' : Nat → Nat → Nat) (σ' : Nat → Nat → Int32), oc = .returned v ∧ (∀ c : Nat, v ≠ some (.ref c)) ∧ K v ks' ρ' σ' ∧ (∀ c, c < n + 2 → g' c = g c) ∧ n ≤ ks'.length ∧ tn_P D cA A g' ks' ρ' σ' t.heap) ∧ va_F A st t
def tn_rt (Γ : tn_G) (z : tn_M) (K : Option Value → List (Nat × Nat) → (Nat → Nat → Nat) → (Nat → Nat → Int32) → Prop) : Prop := match Γ with
  | ⟨⟨_, _, _, _, s, _, args, below, _, _, Q⟩, D, cA, A, H0, g0, n0⟩ => H0 = s.heap ∧ Q = MQ below (tn_Qc D cA A g0 n0 K) args s z.2.2.2.2.cells z.2.2.2.2.slots A
def tn_ws (z : tn_M) : List Cond := .code z.1 z.2.1 z.2.2.1 z.2.2.2.1 :: tn_tbl
/-- A CONTRACT: from a world of the cells ks, ρ, σ the method z comes back with K -/
def tn_Call (z : tn_M) (As : List Value) (ks : List (Nat × Nat)) (ρ : Nat → Nat → Nat) (σ : Nat → Nat → Int32) (K : Option Value → List (Nat × Nat) → (Nat → Nat → Nat) → (Nat → Nat → Int32) → Prop) : Prop :=
  ∀ (l : Launch) (D : va_G) (cA : Nat → ClassId) (g : Nat → Nat) (sz : Nat), tn_okL ks.length As → Met l z.1 (tn_ws z) z.2.2.2.2 (va_Pc (As.map (tn_v g)) (fun U => U.heap.size = sz ∧ tn_P D cA (fun _ => True) g ks ρ σ U.heap ∧ tn_K D cA U)) (tn_Qc D cA (va_A (tn_C cA g ks ρ σ) sz) g ks.length K) z.2.2.2.2.cells z.2.2.2.2.slots (va_A (tn_C cA g ks ρ σ) sz)
def tn_u (σ : Nat → Nat → Int32) (c k : Nat) (x : Int32) : Nat → Nat → Int32 := fun c' k' => if c' = c ∧ k' = k then x else σ c' k'
def tn_ur (ρ : Nat → Nat → Nat) (c k : Nat) (x : Nat) : Nat → Nat → Nat := fun c' k' => if c' = c ∧ k' = k then x else ρ c' k'
def tn_zs (σ : Nat → Nat → Int32) (n : Nat) : Nat → Nat → Int32 := fun c k => if c = n then 0 else σ c k
def tn_zr (ρ : Nat → Nat → Nat) (n : Nat) : Nat → Nat → Nat := fun c k => if c = n then 0 else ρ c k
def tn_ug (g : Nat → Nat) (n q : Nat) : Nat → Nat := fun c => if c = n then q else g c
/-! ===== lists ===== -/
theorem tn_kd2 {ks : List (Nat × Nat)} {c : Nat} {k : Nat × Nat} (h : tn_kd ks c = some k) : 2 ≤ c ∧ ks[c - 2]? = some k ∧ c < ks.length + 2 := by
  unfold tn_kd at h
  split at h
  · cases h
  · have := (List.getElem?_eq_some_iff.mp h).1
    exact ⟨by omega, h, by omega⟩
theorem tn_at {cA : Nat → ClassId} {g : Nat → Nat} {ks : List (Nat × Nat)} {ρ : Nat → Nat → Nat} {σ : Nat → Nat → Int32} {c : Nat} {k : Nat × Nat} (h : tn_kd ks c = some k) : (tn_C cA g ks ρ σ)[c - 2]? = some (g c, tn_e cA g ρ σ c k) := by
  obtain ⟨h1, h2, -⟩ := tn_kd2 h
  have e : c - 2 + 2 = c := by omega
  rw [tn_C, List.getElem?_mapIdx, h2]
  simp [tn_c, e]
theorem tn_gr2 {g : Nat → Nat} {c : Nat} (h : 0 < c) : tn_gr g c = some (g c) := if_neg (by omega)
theorem tn_setC {f f' : Nat → Nat × Nat → Nat × va_E} {ks : List (Nat × Nat)} {j : Nat} {v : Nat × va_E} {kk : Nat × Nat} (hj : ks[j]? = some kk) (hv : f' j kk = v) (h : ∀ i q, i ≠ j → f' i q = f i q) : (ks.mapIdx f).set j v = ks.mapIdx f' := by
  apply List.ext_getElem?
  intro i
  rw [List.getElem?_set, List.getElem?_mapIdx, List.getElem?_mapIdx]
  by_cases hi : j = i
  · subst hi
    have hl : j < ks.length := (List.getElem?_eq_some_iff.mp hj).1
    rw [if_pos rfl, if_pos (by simpa using hl), hj]
    simp [hv]
  · rw [if_neg hi]
    cases hk : ks[i]? with
    | none => rfl
    | some q => simp [h i q (fun e => hi e.symm)]
theorem tn_fsN {i : Nat} {g : Nat → Nat} {ρ : Nat → Nat → Nat} {σ : Nat → Nat → Int32} {c k : Nat} (hk : k < tn_N i) : (tn_fs i g ρ σ c)[k]? = some (if tn_isR i k = true then va_rf (tn_gr g (ρ c k)) else .int (σ c k)) := by
  simp [tn_fs, hk]
theorem tn_fsL {i : Nat} {g : Nat → Nat} {ρ : Nat → Nat → Nat} {σ : Nat → Nat → Int32} {c : Nat} : (tn_fs i g ρ σ c).length = tn_N i := by simp [tn_fs]
theorem tn_u_s {σ : Nat → Nat → Int32} {c k : Nat} {x : Int32} : tn_u σ c k x c k = x := by simp [tn_u]
theorem tn_u_n {σ : Nat → Nat → Int32} {c k c' k' : Nat} {x : Int32} (h : c' ≠ c ∨ k' ≠ k) : tn_u σ c k x c' k' = σ c' k' := by
  unfold tn_u
  rw [if_neg]
  intro q
  rcases h with h | h
  · exact h q.1
  · exact h q.2
theorem tn_fs_set {i : Nat} {g : Nat → Nat} {ρ : Nat → Nat → Nat} {σ : Nat → Nat → Int32} {c k : Nat} {x : Int32} (hr : tn_isR i k = false) : (tn_fs i g ρ σ c).set k (.int x) = tn_fs i g ρ (tn_u σ c k x) c := by
  apply List.ext_getElem?
  intro j
  rw [List.getElem?_set, tn_fsL]
  by_cases hj : k = j
  · subst hj
    rw [if_pos rfl]
    by_cases hk : k < tn_N i
    · rw [if_pos hk, tn_fsN hk, hr, tn_u_s]
      rfl
    · rw [if_neg hk, List.getElem?_eq_none (by rw [tn_fsL]; omega)]
  · rw [if_neg hj]
    by_cases hk : j < tn_N i
    · rw [tn_fsN hk, tn_fsN hk, tn_u_n (Or.inr (fun e => hj e.symm))]
    · rw [List.getElem?_eq_none (by rw [tn_fsL]; omega), List.getElem?_eq_none (by rw [tn_fsL]; omega)]
theorem tn_fs_setR {i : Nat} {g : Nat → Nat} {ρ : Nat → Nat → Nat} {σ : Nat → Nat → Int32} {c k x : Nat} (hr : tn_isR i k = true) : (tn_fs i g ρ σ c).set k (va_rf (tn_gr g x)) = tn_fs i g (tn_ur ρ c k x) σ c := by
  apply List.ext_getElem?
  intro j
  rw [List.getElem?_set, tn_fsL]
  by_cases hj : k = j
  · subst hj
    rw [if_pos rfl]
    by_cases hk : k < tn_N i
    · rw [if_pos hk, tn_fsN hk, hr]
      simp [tn_ur]
    · rw [if_neg hk, List.getElem?_eq_none (by rw [tn_fsL]; omega)]
  · rw [if_neg hj]
    by_cases hk : j < tn_N i
    · rw [tn_fsN hk, tn_fsN hk]
      simp [tn_ur, show ¬ j = k from fun e => hj e.symm]
    · rw [List.getElem?_eq_none (by rw [tn_fsL]; omega), List.getElem?_eq_none (by rw [tn_fsL]; omega)]
theorem tn_fs_congr {i : Nat} {g g' : Nat → Nat} {ρ ρ' : Nat → Nat → Nat} {σ σ' : Nat → Nat → Int32} {c c' : Nat} (h1 : ∀ k, tn_gr g (ρ c k) = tn_gr g' (ρ' c' k)) (h2 : ∀ k, σ c k = σ' c' k) : tn_fs i g ρ σ c = tn_fs i g' ρ' σ' c' := by
  unfold tn_fs
  congr 1
  funext j
  rw [h1, h2]
theorem tn_e_congr {cA : Nat → ClassId} {g g' : Nat → Nat} {ρ ρ' : Nat → Nat → Nat} {σ σ' : Nat → Nat → Int32} {c c' : Nat} {k : Nat × Nat} (h1 : ∀ k, tn_gr g (ρ c k) = tn_gr g' (ρ' c' k)) (h2 : ∀ k, σ c k = σ' c' k) : tn_e cA g ρ σ c k = tn_e cA g' ρ' σ' c' k := by
  unfold tn_e
  rw [tn_fs_congr h1 h2, show σ c = σ' c' from funext h2, show (fun j => tn_gr g (ρ c j)) = (fun j => tn_gr g' (ρ' c' j)) from funext h1]
/-- an int slot written -/
theorem tn_C_set {cA : Nat → ClassId} {g : Nat → Nat} {ks : List (Nat × Nat)} {ρ : Nat → Nat → Nat} {σ : Nat → Nat → Int32} {c i n k : Nat} {x : Int32} (hk : tn_kd ks c = some (i, n)) (hi : i < 7) (hr : tn_isR i k = false) :
    (tn_C cA g ks ρ σ).set (c - 2) (g c, .inr (i, (tn_fs i g ρ σ c).set k (.int x))) = tn_C cA g ks ρ (tn_u σ c k x) := by
  obtain ⟨h1, h2, -⟩ := tn_kd2 hk
  have e : c - 2 + 2 = c := by omega
  refine tn_setC h2 ?_ (fun j q hj => ?_)
  · simp only [tn_c, e, tn_e, hi, if_true]
    rw [tn_fs_set hr]
  · unfold tn_c
    rw [tn_e_congr (fun k => rfl) (fun k' => tn_u_n (Or.inl (by omega)))]
theorem tn_C_setR {cA : Nat → ClassId} {g : Nat → Nat} {ks : List (Nat × Nat)} {ρ : Nat → Nat → Nat} {σ : Nat → Nat → Int32} {c i n k x : Nat} (hk : tn_kd ks c = some (i, n)) (hi : i < 7) (hr : tn_isR i k = true) :
    (tn_C cA g ks ρ σ).set (c - 2) (g c, .inr (i, (tn_fs i g ρ σ c).set k (va_rf (tn_gr g x)))) = tn_C cA g ks (tn_ur ρ c k x) σ := by
  obtain ⟨h1, h2, -⟩ := tn_kd2 hk
  have e : c - 2 + 2 = c := by omega
  refine tn_setC h2 ?_ (fun j q hj => ?_)
  · simp only [tn_c, e, tn_e, hi, if_true]
    rw [tn_fs_setR hr]
  · unfold tn_c
    rw [tn_e_congr (fun k' => by unfold tn_ur; rw [if_neg (by omega)]) (fun k' => rfl)]
/-- an int array's place written -/
theorem tn_C_setA {cA : Nat → ClassId} {g : Nat → Nat} {ks : List (Nat × Nat)} {ρ : Nat → Nat → Nat} {σ : Nat → Nat → Int32} {c n : Nat} {f : Nat → Int32} (hk : tn_kd ks c = some (7, n)) :
    (tn_C cA g ks ρ σ).set (c - 2) (g c, .inl (cA 0, n, .inl f)) = tn_C cA g ks ρ (fun c' => if c' = c then f else σ c') := by
  obtain ⟨h1, h2, -⟩ := tn_kd2 hk
  have e : c - 2 + 2 = c := by omega
  refine tn_setC h2 ?_ (fun j q hj => ?_)
  · simp [tn_c, e, tn_e]
  · unfold tn_c
    rw [tn_e_congr (fun k => rfl) (fun k' => by rw [if_neg (by omega)])]
theorem tn_u_f {σ : Nat → Nat → Int32} {c k : Nat} {x : Int32} : (fun c' => if c' = c then upd (σ c) k x else σ c') = tn_u σ c k x := by
  funext c' k'
  unfold tn_u
  by_cases h : c' = c
  · subst h
    rw [if_pos rfl]
    by_cases h2 : k' = k
    · subst h2
      simp [upd]
    · simp [upd, h2]
  · rw [if_neg h, if_neg (fun q => h q.1)]
theorem tn_C_setQ {cA : Nat → ClassId} {g : Nat → Nat} {ks : List (Nat × Nat)} {ρ : Nat → Nat → Nat} {σ : Nat → Nat → Int32} {c t n k x : Nat} (hk : tn_kd ks c = some (t + 8, n)) (hx : 0 < x) :
    (tn_C cA g ks ρ σ).set (c - 2) (g c, .inl (cA (t + 1), n, .inr (.inr (.inr (.inr (va_up (fun j => tn_gr g (ρ c j)) k (some (g x)))))))) = tn_C cA g ks (tn_ur ρ c k x) σ := by
  obtain ⟨h1, h2, -⟩ := tn_kd2 hk
  have e : c - 2 + 2 = c := by omega
  refine tn_setC h2 ?_ (fun j q hj => ?_)
  · simp only [tn_c, e, tn_e]
    rw [if_neg (by omega), if_neg (by omega)]
    have e2 : t + 8 - 7 = t + 1 := by omega
    have e3 : (fun j => tn_gr g (tn_ur ρ c k x c j)) = va_up (fun j => tn_gr g (ρ c j)) k (some (g x)) := by
      funext j
      unfold tn_ur va_up
      by_cases hj : j = k
      · rw [if_pos ⟨rfl, hj⟩, if_pos hj, tn_gr2 hx]
      · rw [if_neg (fun q => hj q.2), if_neg hj]
    rw [e2, e3]
  · unfold tn_c
    rw [tn_e_congr (fun k' => by unfold tn_ur; rw [if_neg (by omega)]) (fun k' => rfl)]
/-- a new cell -/
theorem tn_C_new {cA : Nat → ClassId} {g : Nat → Nat} {ks : List (Nat × Nat)} {ρ : Nat → Nat → Nat} {σ : Nat → Nat → Int32} {q : Nat} {kk : Nat × Nat} (hc : ∀ c k, ρ c k < ks.length + 2) :
    tn_C cA (tn_ug g (ks.length + 2) q) (ks ++ [kk]) (tn_zr ρ (ks.length + 2)) (tn_zs σ (ks.length + 2)) = tn_C cA g ks ρ σ ++ [(q, tn_e cA (tn_ug g (ks.length + 2) q) (fun _ _ => 0) (fun _ _ => 0) (ks.length + 2) kk)] := by
  unfold tn_C
  rw [List.mapIdx_concat]
  congr 1
  · apply List.ext_getElem?
    intro i
    rw [List.getElem?_mapIdx, List.getElem?_mapIdx]
    cases hk : ks[i]? with
    | none => rfl
    | some z =>
      have hl : i < ks.length := (List.getElem?_eq_some_iff.mp hk).1
      simp only [Option.map_some, tn_c]
      rw [tn_e_congr (g' := g) (ρ' := ρ) (σ' := σ) (c' := i + 2) (fun k => ?_) (fun k => ?_)]
      · unfold tn_ug
        rw [if_neg (by omega)]
      · have h := hc (i + 2) k
        unfold tn_gr tn_zr tn_ug
        rw [if_neg (show ¬ i + 2 = ks.length + 2 by omega)]
        split
        · rfl
        · rw [if_neg (by omega)]
      · unfold tn_zs
        rw [if_neg (by omega)]
  · simp only [tn_c]
    rw [tn_e_congr (g' := tn_ug g (ks.length + 2) q) (ρ' := fun _ _ => 0) (σ' := fun _ _ => 0) (c' := ks.length + 2) (fun k => by simp [tn_zr]) (fun k => by simp [tn_zs])]
    simp [tn_ug]
/-! ===== locals ===== -/
def tn_prs (g : Nat → Nat) (loc : List Value) : List (Nat × Value) := (List.range loc.length).filterMap (fun j => (loc[j]?).bind (fun v => if v = .null then none else some (j, tn_v g v)))
theorem tn_L.has {g : Nat → Nat} {loc : List Value} {ls : Array Slot} {nL : Nat} (h : tn_L g loc ls nL) : lv_has ls nL (tn_prs g loc) := by
  refine ⟨h.1, h.2.1, fun q hq => ?_⟩
  obtain ⟨j, -, hj⟩ := List.mem_filterMap.mp hq
  cases hv : loc[j]? with
  | none => rw [hv] at hj; cases hj
  | some v =>
    rw [hv] at hj
    simp only [Option.bind_some] at hj
    split at hj
    · cases hj
    · rename_i hne
      cases hj
      exact h.2.2 j v hv hne
theorem tn_prs_mem {g : Nat → Nat} {loc : List Value} {j : Nat} {v : Value} (h : loc[j]? = some v) (hn : v ≠ .null) : (j, tn_v g v) ∈ tn_prs g loc := by
  refine List.mem_filterMap.mpr ⟨j, List.mem_range.mpr (List.getElem?_eq_some_iff.mp h).1, ?_⟩
  rw [h]
  simp [hn]
/-- the place before isn't a long's -/
def tn_np (loc : List Value) (i : Nat) : Bool := match i with
  | 0 => true
  | j + 1 => match loc[j]? with
    | some (.long _) => false
    | some (.double _) => false
    | _ => true
theorem tn_npc {g : Nat → Nat} {loc : List Value} {i j : Nat} {v : Value} (h : tn_np loc i = true) (hj : loc[j]? = some v) (e : j + 1 = i) : (tn_v g v).category ≠ 2 := by
  subst e
  unfold tn_np at h
  simp only [hj] at h
  cases v with
  | ref c =>
    show (va_rf (tn_gr g c)).category ≠ 2
    cases tn_gr g c <;> simp [va_rf, Value.category]
  | _ => first | (cases h; done) | simp [tn_v, Value.category]
theorem tn_L.set1 {g : Nat → Nat} {loc : List Value} {ls' : Array Slot} {nL i : Nat} {v : Value} (hp : tn_np loc i = true) (h : lv_has ls' nL ((i, tn_v g v) :: (tn_prs g loc).filter (fun q => !(q.1 == i) && !(q.1 + 1 == i && q.2.category == 2)))) : tn_L g (loc.set i v) ls' nL := by
  refine ⟨h.1, h.2.1, fun j w hj hn => ?_⟩
  rw [List.getElem?_set] at hj
  by_cases e : i = j
  · subst e
    rw [if_pos rfl] at hj
    split at hj
    · cases hj
      exact h.2.2 _ List.mem_cons_self
    · cases hj
  · rw [if_neg e] at hj
    refine h.2.2 (j, tn_v g w) (List.mem_cons_of_mem _ (List.mem_filter.mpr ⟨tn_prs_mem hj hn, ?_⟩))
    have h1 : (j == i) = false := by simp [show ¬ j = i from fun q => e q.symm]
    by_cases h2 : j + 1 = i
    · have h3 := tn_npc (g := g) hp hj h2
      simp [h1, h3]
    · simp [h1, h2]
theorem tn_L.set2 {g : Nat → Nat} {loc : List Value} {ls' : Array Slot} {nL i : Nat} {v : Value} (hp : tn_np loc i = true) (h : lv_has ls' nL ((i, tn_v g v) :: (tn_prs g loc).filter (fun q => !(q.1 == i) && (!(q.1 == i + 1) && !(q.1 + 1 == i && q.2.category == 2))))) : tn_L g ((loc.set i v).set (i + 1) .null) ls' nL := by
  refine ⟨h.1, h.2.1, fun j w hj hn => ?_⟩
  rw [List.getElem?_set] at hj
  by_cases e1 : i + 1 = j
  · rw [if_pos e1] at hj
    split at hj
    · cases hj
      exact absurd rfl hn
    · cases hj
  rw [if_neg e1, List.getElem?_set] at hj
  by_cases e : i = j
  · subst e
    rw [if_pos rfl] at hj
    split at hj
    · cases hj
      exact h.2.2 _ List.mem_cons_self
    · cases hj
  · rw [if_neg e] at hj
    refine h.2.2 (j, tn_v g w) (List.mem_cons_of_mem _ (List.mem_filter.mpr ⟨tn_prs_mem hj hn, ?_⟩))
    have h1 : (j == i) = false := by simp [show ¬ j = i from fun q => e q.symm]
    have h0 : (j == i + 1) = false := by simp [show ¬ j = i + 1 from fun q => e1 q.symm]
    by_cases h2 : j + 1 = i
    · have h3 := tn_npc (g := g) hp hj h2
      simp [h1, h0, h3]
    · simp [h1, h0, h2]
theorem tn_okL.set {n : Nat} {loc : List Value} {i : Nat} {v : Value} (h : tn_okL n loc) (hv : tn_ok n v) : tn_okL n (loc.set i v) := by
  intro w hw
  rcases List.mem_or_eq_of_mem_set hw with h1 | h1
  · exact h w h1
  · rw [h1]; exact hv
theorem tn_okL.cons {n : Nat} {st : List Value} {v : Value} (hv : tn_ok n v) (h : tn_okL n st) : tn_okL n (v :: st) := fun w hw => (List.mem_cons.mp hw).elim (fun e => e ▸ hv) (h w)
theorem tn_okL.tl {n : Nat} {st : List Value} {v : Value} (h : tn_okL n (v :: st)) : tn_okL n st := fun w hw => h w (List.mem_cons_of_mem _ hw)
theorem tn_okL.hd {n : Nat} {st : List Value} {v : Value} (h : tn_okL n (v :: st)) : tn_ok n v := h v List.mem_cons_self
theorem tn_ok.mono {n n' : Nat} {v : Value} (hn : n ≤ n') (h : tn_ok n v) : tn_ok n' v := by
  cases v with
  | ref c => exact Nat.lt_of_lt_of_le (show c < n + 2 from h) (Nat.add_le_add_right hn 2)
  | _ => trivial
theorem tn_okL.mono {n n' : Nat} {st : List Value} (hn : n ≤ n') (h : tn_okL n st) : tn_okL n' st := fun w hw => (h w hw).mono hn
theorem tn_v_congr {g g' : Nat → Nat} {n : Nat} (h : ∀ c, c < n + 2 → g' c = g c) {v : Value} (hv : tn_ok n v) : tn_v g' v = tn_v g v := by
  cases v with
  | ref c =>
    show va_rf (tn_gr g' c) = va_rf (tn_gr g c)
    unfold tn_gr
    rw [h c hv]
  | _ => rfl
theorem tn_map_congr {g g' : Nat → Nat} {n : Nat} (h : ∀ c, c < n + 2 → g' c = g c) {st : List Value} (hv : tn_okL n st) : st.map (tn_v g') = st.map (tn_v g) := List.map_congr_left (fun v hq => tn_v_congr h (hv v hq))
theorem tn_L.congr {g g' : Nat → Nat} {n : Nat} (h : ∀ c, c < n + 2 → g' c = g c) {loc : List Value} {ls : Array Slot} {nL : Nat} (hv : tn_okL n loc) (hl : tn_L g loc ls nL) : tn_L g' loc ls nL :=
  ⟨hl.1, hl.2.1, fun i v hi hn => by rw [tn_v_congr h (hv v (List.mem_of_getElem? hi))]; exact hl.2.2 i v hi hn⟩
/-! ===== the tables move along ===== -/
theorem tn_K.warm {D : va_G} {cA : Nat → ClassId} {s U : State} (hW : s.WarmedH U.vm) (h : tn_K D cA s) : tn_K D cA U := by
  obtain ⟨h1, h2, h3, h4, h5⟩ := h
  refine ⟨va_K.moved hW.alike h1, fun w hw => ?_, h3.moved hW.alike, h4.moved hW.alike, h5.moved hW.alike⟩
  have hz := h2 w hw
  have hn : tn_isN w = true := (List.mem_filter.mp hw).2
  cases w <;> first | (cases hn; done) | exact va_Nw.warmF hW hz | exact va_Nw.warmM hW hz
theorem tn_K.call {D : va_G} {cA : Nat → ClassId} {U : State} {g : JFrame} {mk : MethodId} {a : Array Value} (h : tn_K D cA U) : tn_K D cA (U.calling g mk a) := by
  obtain ⟨h1, h2, h3, h4, h5⟩ := h
  refine ⟨va_K.moved (u := U) (U := U.calling g mk a) (Vm.Alike.refl U.vm) h1, fun w hw => ?_, h3.moved (u := U) (U := U.calling g mk a) (Vm.Alike.refl U.vm), h4.moved (u := U) (U := U.calling g mk a) (Vm.Alike.refl U.vm), h5.moved (u := U) (U := U.calling g mk a) (Vm.Alike.refl U.vm)⟩
  have hz := h2 w hw
  have hn : tn_isN w = true := (List.mem_filter.mp hw).2
  cases w <;> first | (cases hn; done) | exact va_Nw.same (U := U.calling g mk a) rfl rfl hz
end
section
/-! ===== the rules: an instruction each ===== -/
section TR
variable {Γ : tn_G} {z : tn_M} {pc : Nat} {loc st : List Value} {ca sl : Nat} {ks : List (Nat × Nat)} {ρ : Nat → Nat → Nat} {σ : Nat → Nat → Int32}

theorem tn_iconst (hΓ : tn_is Γ z) {n : Int} {v : Int32} (hd : decode z.2.1 pc = .ok (.iconst n, 1)) (hv : Int32.ofInt n = v) (k : tn_A Γ (pc + 1) loc (.int v :: st) ca sl ks ρ σ) : tn_A Γ (pc) loc (st) ca sl ks ρ σ := by
  obtain ⟨⟨p, l, e, R, s, m, args, below, meth, c, Q⟩, D, cA, A, H0, g0, n0⟩ := Γ
  obtain ⟨hx, hb, hml, hown, hts, hK, hR, hrt, hlk, hnm, hA⟩ := hΓ
  intro g H locs ls hP hS hl ho1 ho2 hg hn
  exact lv_iconst hx hb hd hv (k g H locs ls hP hS hl ho1 (tn_okL.cons trivial ho2) hg hn)
theorem tn_bipush (hΓ : tn_is Γ z) {n : Int} {v : Int32} (hd : decode z.2.1 pc = .ok (.bipush n, 2)) (hv : (Int8.ofInt n).toInt32 = v) (k : tn_A Γ (pc + 2) loc (.int v :: st) ca sl ks ρ σ) : tn_A Γ (pc) loc (st) ca sl ks ρ σ := by
  obtain ⟨⟨p, l, e, R, s, m, args, below, meth, c, Q⟩, D, cA, A, H0, g0, n0⟩ := Γ
  obtain ⟨hx, hb, hml, hown, hts, hK, hR, hrt, hlk, hnm, hA⟩ := hΓ
  intro g H locs ls hP hS hl ho1 ho2 hg hn
  exact lv_bipush hx hb hd hv (k g H locs ls hP hS hl ho1 (tn_okL.cons trivial ho2) hg hn)
theorem tn_sipush (hΓ : tn_is Γ z) {n : Int} {v : Int32} (hd : decode z.2.1 pc = .ok (.sipush n, 3)) (hv : (Int16.ofInt n).toInt32 = v) (k : tn_A Γ (pc + 3) loc (.int v :: st) ca sl ks ρ σ) : tn_A Γ (pc) loc (st) ca sl ks ρ σ := by
  obtain ⟨⟨p, l, e, R, s, m, args, below, meth, c, Q⟩, D, cA, A, H0, g0, n0⟩ := Γ
  obtain ⟨hx, hb, hml, hown, hts, hK, hR, hrt, hlk, hnm, hA⟩ := hΓ
  intro g H locs ls hP hS hl ho1 ho2 hg hn
  exact lv_sipush hx hb hd hv (k g H locs ls hP hS hl ho1 (tn_okL.cons trivial ho2) hg hn)
theorem tn_lconst (hΓ : tn_is Γ z) {n : Fin 2} {v : Int64} (hd : decode z.2.1 pc = .ok (.lconst n, 1)) (hv : Int64.ofNat (n : Nat) = v) (k : tn_A Γ (pc + 1) loc (.long v :: st) ca sl ks ρ σ) : tn_A Γ (pc) loc (st) ca sl ks ρ σ := by
  obtain ⟨⟨p, l, e, R, s, m, args, below, meth, c, Q⟩, D, cA, A, H0, g0, n0⟩ := Γ
  obtain ⟨hx, hb, hml, hown, hts, hK, hR, hrt, hlk, hnm, hA⟩ := hΓ
  intro g H locs ls hP hS hl ho1 ho2 hg hn
  exact lv_lconst hx hb hd hv (k g H locs ls hP hS hl ho1 (tn_okL.cons trivial ho2) hg hn)
theorem tn_ldcw (hΓ : tn_is Γ z) {i : Nat} {v : Int32} (hc : Cond.constant z.1.cls i v ∈ tn_tbl) (hd : decode z.2.1 pc = .ok (.ldc_w i, 3)) (k : tn_A Γ (pc + 3) loc (.int v :: st) ca sl ks ρ σ) : tn_A Γ (pc) loc (st) ca sl ks ρ σ := by
  obtain ⟨⟨p, l, e, R, s, m, args, below, meth, c, Q⟩, D, cA, A, H0, g0, n0⟩ := Γ
  obtain ⟨hx, hb, hml, hown, hts, hK, hR, hrt, hlk, hnm, hA⟩ := hΓ
  intro g H locs ls hP hS hl ho1 ho2 hg hn
  exact lv_ldcw hx hb hown (hts _ hc) hd (k g H locs ls hP hS hl ho1 (tn_okL.cons trivial ho2) hg hn)
theorem tn_ldc2 (hΓ : tn_is Γ z) {i : Nat} {v : Int64} (hc : Cond.constantLong z.1.cls i v ∈ tn_tbl) (hd : decode z.2.1 pc = .ok (.ldc2_w i, 3)) (k : tn_A Γ (pc + 3) loc (.long v :: st) ca sl ks ρ σ) : tn_A Γ (pc) loc (st) ca sl ks ρ σ := by
  obtain ⟨⟨p, l, e, R, s, m, args, below, meth, c, Q⟩, D, cA, A, H0, g0, n0⟩ := Γ
  obtain ⟨hx, hb, hml, hown, hts, hK, hR, hrt, hlk, hnm, hA⟩ := hΓ
  intro g H locs ls hP hS hl ho1 ho2 hg hn
  exact lv_ldc2 hx hb hown (hts _ hc) hd (k g H locs ls hP hS hl ho1 (tn_okL.cons trivial ho2) hg hn)
theorem tn_iload_n (hΓ : tn_is Γ z) {n : Fin 4} {x : Int32} (hd : decode z.2.1 pc = .ok (.iload_n n, 1)) (hi : loc[(n : Nat)]? = some (.int x)) (k : tn_A Γ (pc + 1) loc (.int x :: st) ca sl ks ρ σ) : tn_A Γ (pc) loc (st) ca sl ks ρ σ := by
  obtain ⟨⟨p, l, e, R, s, m, args, below, meth, c, Q⟩, D, cA, A, H0, g0, n0⟩ := Γ
  obtain ⟨hx, hb, hml, hown, hts, hK, hR, hrt, hlk, hnm, hA⟩ := hΓ
  intro g H locs ls hP hS hl ho1 ho2 hg hn
  exact lv_iload_n hx hb hd rfl (hl.2.2 _ _ hi (fun q => by cases q)) (k g H locs ls hP hS hl ho1 (tn_okL.cons trivial ho2) hg hn)
theorem tn_iload (hΓ : tn_is Γ z) {n : Nat} {x : Int32} (hd : decode z.2.1 pc = .ok (.iload n, 2)) (hi : loc[n]? = some (.int x)) (k : tn_A Γ (pc + 2) loc (.int x :: st) ca sl ks ρ σ) : tn_A Γ (pc) loc (st) ca sl ks ρ σ := by
  obtain ⟨⟨p, l, e, R, s, m, args, below, meth, c, Q⟩, D, cA, A, H0, g0, n0⟩ := Γ
  obtain ⟨hx, hb, hml, hown, hts, hK, hR, hrt, hlk, hnm, hA⟩ := hΓ
  intro g H locs ls hP hS hl ho1 ho2 hg hn
  exact lv_iload hx hb hd (hl.2.2 _ _ hi (fun q => by cases q)) (k g H locs ls hP hS hl ho1 (tn_okL.cons trivial ho2) hg hn)
theorem tn_lload_n (hΓ : tn_is Γ z) {n : Fin 4} {x : Int64} (hd : decode z.2.1 pc = .ok (.lload_n n, 1)) (hi : loc[(n : Nat)]? = some (.long x)) (k : tn_A Γ (pc + 1) loc (.long x :: st) ca sl ks ρ σ) : tn_A Γ (pc) loc (st) ca sl ks ρ σ := by
  obtain ⟨⟨p, l, e, R, s, m, args, below, meth, c, Q⟩, D, cA, A, H0, g0, n0⟩ := Γ
  obtain ⟨hx, hb, hml, hown, hts, hK, hR, hrt, hlk, hnm, hA⟩ := hΓ
  intro g H locs ls hP hS hl ho1 ho2 hg hn
  exact lv_lload_n hx hb hd rfl (hl.2.2 _ _ hi (fun q => by cases q)) (k g H locs ls hP hS hl ho1 (tn_okL.cons trivial ho2) hg hn)
theorem tn_lload (hΓ : tn_is Γ z) {n : Nat} {x : Int64} (hd : decode z.2.1 pc = .ok (.lload n, 2)) (hi : loc[n]? = some (.long x)) (k : tn_A Γ (pc + 2) loc (.long x :: st) ca sl ks ρ σ) : tn_A Γ (pc) loc (st) ca sl ks ρ σ := by
  obtain ⟨⟨p, l, e, R, s, m, args, below, meth, c, Q⟩, D, cA, A, H0, g0, n0⟩ := Γ
  obtain ⟨hx, hb, hml, hown, hts, hK, hR, hrt, hlk, hnm, hA⟩ := hΓ
  intro g H locs ls hP hS hl ho1 ho2 hg hn
  exact lv_lload hx hb hd (hl.2.2 _ _ hi (fun q => by cases q)) (k g H locs ls hP hS hl ho1 (tn_okL.cons trivial ho2) hg hn)
theorem tn_aload_n (hΓ : tn_is Γ z) {n : Fin 4} {x : Nat} (hd : decode z.2.1 pc = .ok (.aload_n n, 1)) (hi : loc[(n : Nat)]? = some (.ref x)) (k : tn_A Γ (pc + 1) loc (.ref x :: st) ca sl ks ρ σ) : tn_A Γ (pc) loc (st) ca sl ks ρ σ := by
  obtain ⟨⟨p, l, e, R, s, m, args, below, meth, c, Q⟩, D, cA, A, H0, g0, n0⟩ := Γ
  obtain ⟨hx, hb, hml, hown, hts, hK, hR, hrt, hlk, hnm, hA⟩ := hΓ
  intro g H locs ls hP hS hl ho1 ho2 hg hn
  have h1 := k g H locs ls hP hS hl ho1 (tn_okL.cons (ho1 _ (List.mem_of_getElem? hi)) ho2) hg hn
  have h2 : ls[(n : Nat)]? = some (.val (va_rf (tn_gr g x))) := hl.2.2 _ _ hi (fun q => by cases q)
  have h3 : W p l e R s m args below meth c H locs ca sl Q (F0 m (pc + 1) ls (va_rf (tn_gr g x) :: st.map (tn_v g))) := h1
  cases hq : tn_gr g x with
  | none => rw [hq] at h2 h3; exact lv_aload_nN hx hb hd rfl h2 h3
  | some y => rw [hq] at h2 h3; exact lv_aload_n hx hb hd rfl h2 h3
theorem tn_aload (hΓ : tn_is Γ z) {n : Nat} {x : Nat} (hd : decode z.2.1 pc = .ok (.aload n, 2)) (hi : loc[n]? = some (.ref x)) (k : tn_A Γ (pc + 2) loc (.ref x :: st) ca sl ks ρ σ) : tn_A Γ (pc) loc (st) ca sl ks ρ σ := by
  obtain ⟨⟨p, l, e, R, s, m, args, below, meth, c, Q⟩, D, cA, A, H0, g0, n0⟩ := Γ
  obtain ⟨hx, hb, hml, hown, hts, hK, hR, hrt, hlk, hnm, hA⟩ := hΓ
  intro g H locs ls hP hS hl ho1 ho2 hg hn
  have h1 := k g H locs ls hP hS hl ho1 (tn_okL.cons (ho1 _ (List.mem_of_getElem? hi)) ho2) hg hn
  have h2 : ls[n]? = some (.val (va_rf (tn_gr g x))) := hl.2.2 _ _ hi (fun q => by cases q)
  have h3 : W p l e R s m args below meth c H locs ca sl Q (F0 m (pc + 2) ls (va_rf (tn_gr g x) :: st.map (tn_v g))) := h1
  cases hq : tn_gr g x with
  | none => rw [hq] at h2 h3; exact lv_aloadN hx hb hd h2 h3
  | some y => rw [hq] at h2 h3; exact lv_aload hx hb hd h2 h3
theorem tn_istore_n (hΓ : tn_is Γ z) {n : Fin 4} {x : Int32} {loc' : List Value} (hd : decode z.2.1 pc = .ok (.istore_n n, 1)) (hi : (n : Nat) < z.2.2.1) (hp : tn_np loc (n : Nat) = true) (hl' : loc.set (n : Nat) (.int x) = loc') (k : tn_A Γ (pc + 1) loc' (st) ca sl ks ρ σ) : tn_A Γ (pc) loc (.int x :: st) ca sl ks ρ σ := by
  subst hl'
  obtain ⟨⟨p, l, e, R, s, m, args, below, meth, c, Q⟩, D, cA, A, H0, g0, n0⟩ := Γ
  obtain ⟨hx, hb, hml, hown, hts, hK, hR, hrt, hlk, hnm, hA⟩ := hΓ
  intro g H locs ls hP hS hl ho1 ho2 hg hn
  refine lv_istore_n hx hb hd rfl hl.has (by rw [hml]; exact hi) rfl (fun ls' h' => ?_)
  exact k g H locs ls' hP hS (tn_L.set1 (v := .int x) hp h') (ho1.set trivial) ho2.tl hg hn
theorem tn_istore (hΓ : tn_is Γ z) {n : Nat} {x : Int32} {loc' : List Value} (hd : decode z.2.1 pc = .ok (.istore n, 2)) (hi : n < z.2.2.1) (hp : tn_np loc n = true) (hl' : loc.set n (.int x) = loc') (k : tn_A Γ (pc + 2) loc' (st) ca sl ks ρ σ) : tn_A Γ (pc) loc (.int x :: st) ca sl ks ρ σ := by
  subst hl'
  obtain ⟨⟨p, l, e, R, s, m, args, below, meth, c, Q⟩, D, cA, A, H0, g0, n0⟩ := Γ
  obtain ⟨hx, hb, hml, hown, hts, hK, hR, hrt, hlk, hnm, hA⟩ := hΓ
  intro g H locs ls hP hS hl ho1 ho2 hg hn
  refine lv_istore hx hb hd hl.has (by rw [hml]; exact hi) rfl (fun ls' h' => ?_)
  exact k g H locs ls' hP hS (tn_L.set1 (v := .int x) hp h') (ho1.set trivial) ho2.tl hg hn
theorem tn_lstore_n (hΓ : tn_is Γ z) {n : Fin 4} {x : Int64} {loc' : List Value} (hd : decode z.2.1 pc = .ok (.lstore_n n, 1)) (hi : (n : Nat) + 1 < z.2.2.1) (hp : tn_np loc (n : Nat) = true) (hl' : (loc.set (n : Nat) (.long x)).set ((n : Nat) + 1) .null = loc') (k : tn_A Γ (pc + 1) loc' (st) ca sl ks ρ σ) : tn_A Γ (pc) loc (.long x :: st) ca sl ks ρ σ := by
  subst hl'
  obtain ⟨⟨p, l, e, R, s, m, args, below, meth, c, Q⟩, D, cA, A, H0, g0, n0⟩ := Γ
  obtain ⟨hx, hb, hml, hown, hts, hK, hR, hrt, hlk, hnm, hA⟩ := hΓ
  intro g H locs ls hP hS hl ho1 ho2 hg hn
  refine lv_lstore_n hx hb hd rfl hl.has (by rw [hml]; exact hi) rfl (fun ls' h' => ?_)
  exact k g H locs ls' hP hS (tn_L.set2 (v := .long x) hp h') ((ho1.set (v := .long x) trivial).set (v := .null) trivial) ho2.tl hg hn
theorem tn_lstore (hΓ : tn_is Γ z) {n : Nat} {x : Int64} {loc' : List Value} (hd : decode z.2.1 pc = .ok (.lstore n, 2)) (hi : n + 1 < z.2.2.1) (hp : tn_np loc n = true) (hl' : (loc.set n (.long x)).set (n + 1) .null = loc') (k : tn_A Γ (pc + 2) loc' (st) ca sl ks ρ σ) : tn_A Γ (pc) loc (.long x :: st) ca sl ks ρ σ := by
  subst hl'
  obtain ⟨⟨p, l, e, R, s, m, args, below, meth, c, Q⟩, D, cA, A, H0, g0, n0⟩ := Γ
  obtain ⟨hx, hb, hml, hown, hts, hK, hR, hrt, hlk, hnm, hA⟩ := hΓ
  intro g H locs ls hP hS hl ho1 ho2 hg hn
  refine lv_lstore hx hb hd hl.has (by rw [hml]; exact hi) rfl (fun ls' h' => ?_)
  exact k g H locs ls' hP hS (tn_L.set2 (v := .long x) hp h') ((ho1.set (v := .long x) trivial).set (v := .null) trivial) ho2.tl hg hn
theorem tn_astore_n (hΓ : tn_is Γ z) {n : Fin 4} {x : Nat} {loc' : List Value} (hd : decode z.2.1 pc = .ok (.astore_n n, 1)) (hi : (n : Nat) < z.2.2.1) (hp : tn_np loc (n : Nat) = true) (hl' : loc.set (n : Nat) (.ref x) = loc') (k : tn_A Γ (pc + 1) loc' (st) ca sl ks ρ σ) : tn_A Γ (pc) loc (.ref x :: st) ca sl ks ρ σ := by
  subst hl'
  obtain ⟨⟨p, l, e, R, s, m, args, below, meth, c, Q⟩, D, cA, A, H0, g0, n0⟩ := Γ
  obtain ⟨hx, hb, hml, hown, hts, hK, hR, hrt, hlk, hnm, hA⟩ := hΓ
  intro g H locs ls hP hS hl ho1 ho2 hg hn
  have h3 : ∀ ls' : Array Slot, lv_has ls' c.maxLocals (((n : Nat), va_rf (tn_gr g x)) :: (tn_prs g loc).filter (fun q => !(q.1 == (n : Nat)) && !(q.1 + 1 == (n : Nat) && q.2.category == 2))) → W p l e R s m args below meth c H locs ca sl Q (F0 m (pc + 1) ls' (st.map (tn_v g))) :=
    fun ls' h' => k g H locs ls' hP hS (tn_L.set1 (v := .ref x) hp h') (ho1.set (v := .ref x) ho2.hd) ho2.tl hg hn
  show W p l e R s m args below meth c H locs ca sl Q (F0 m pc ls (va_rf (tn_gr g x) :: st.map (tn_v g)))
  cases hq : tn_gr g x with
  | none => rw [hq] at h3; exact lv_astore_nN hx hb hd rfl hl.has (by rw [hml]; exact hi) rfl h3
  | some y => rw [hq] at h3; exact lv_astore_n hx hb hd rfl hl.has (by rw [hml]; exact hi) rfl h3
theorem tn_astore (hΓ : tn_is Γ z) {n : Nat} {x : Nat} {loc' : List Value} (hd : decode z.2.1 pc = .ok (.astore n, 2)) (hi : n < z.2.2.1) (hp : tn_np loc n = true) (hl' : loc.set n (.ref x) = loc') (k : tn_A Γ (pc + 2) loc' (st) ca sl ks ρ σ) : tn_A Γ (pc) loc (.ref x :: st) ca sl ks ρ σ := by
  subst hl'
  obtain ⟨⟨p, l, e, R, s, m, args, below, meth, c, Q⟩, D, cA, A, H0, g0, n0⟩ := Γ
  obtain ⟨hx, hb, hml, hown, hts, hK, hR, hrt, hlk, hnm, hA⟩ := hΓ
  intro g H locs ls hP hS hl ho1 ho2 hg hn
  have h3 : ∀ ls' : Array Slot, lv_has ls' c.maxLocals ((n, va_rf (tn_gr g x)) :: (tn_prs g loc).filter (fun q => !(q.1 == n) && !(q.1 + 1 == n && q.2.category == 2))) → W p l e R s m args below meth c H locs ca sl Q (F0 m (pc + 2) ls' (st.map (tn_v g))) :=
    fun ls' h' => k g H locs ls' hP hS (tn_L.set1 (v := .ref x) hp h') (ho1.set (v := .ref x) ho2.hd) ho2.tl hg hn
  show W p l e R s m args below meth c H locs ca sl Q (F0 m pc ls (va_rf (tn_gr g x) :: st.map (tn_v g)))
  cases hq : tn_gr g x with
  | none => rw [hq] at h3; exact lv_astoreN hx hb hd hl.has (by rw [hml]; exact hi) rfl h3
  | some y => rw [hq] at h3; exact lv_astore hx hb hd hl.has (by rw [hml]; exact hi) rfl h3
theorem tn_iinc (hΓ : tn_is Γ z) {i : Nat} {n : Int} {x v : Int32} {loc' : List Value} (hd : decode z.2.1 pc = .ok (.iinc i n, 3)) (hi : loc[i]? = some (.int x)) (hv : x + Int32.ofInt n = v) (hn' : i < z.2.2.1) (hp : tn_np loc i = true) (hl' : loc.set i (.int v) = loc') (k : tn_A Γ (pc + 3) loc' (st) ca sl ks ρ σ) : tn_A Γ (pc) loc (st) ca sl ks ρ σ := by
  subst hl'
  obtain ⟨⟨p, l, e, R, s, m, args, below, meth, c, Q⟩, D, cA, A, H0, g0, n0⟩ := Γ
  obtain ⟨hx, hb, hml, hown, hts, hK, hR, hrt, hlk, hnm, hA⟩ := hΓ
  intro g H locs ls hP hS hl ho1 ho2 hg hn
  obtain ⟨j, hj⟩ := List.getElem?_of_mem (tn_prs_mem (g := g) hi (fun q => by cases q))
  refine lv_iinc (k := j) (v := v) hx hb hd hl.has hj hv (by rw [hml]; exact hn') rfl (fun ls' h' => ?_)
  exact k g H locs ls' hP hS (tn_L.set1 (v := .int v) hp h') (ho1.set trivial) ho2 hg hn
theorem tn_iadd (hΓ : tn_is Γ z) {x y : Int32} (hd : decode z.2.1 pc = .ok (.iadd, 1)) (k : tn_A Γ (pc + 1) loc (.int (x + y) :: st) ca sl ks ρ σ) : tn_A Γ (pc) loc (.int y :: .int x :: st) ca sl ks ρ σ := by
  obtain ⟨⟨p, l, e, R, s, m, args, below, meth, c, Q⟩, D, cA, A, H0, g0, n0⟩ := Γ
  obtain ⟨hx, hb, hml, hown, hts, hK, hR, hrt, hlk, hnm, hA⟩ := hΓ
  intro g H locs ls hP hS hl ho1 ho2 hg hn
  exact lv_iadd hx hb hd (k g H locs ls hP hS hl ho1 (tn_okL.cons trivial ho2.tl.tl) hg hn)
theorem tn_isub (hΓ : tn_is Γ z) {x y : Int32} (hd : decode z.2.1 pc = .ok (.isub, 1)) (k : tn_A Γ (pc + 1) loc (.int (x - y) :: st) ca sl ks ρ σ) : tn_A Γ (pc) loc (.int y :: .int x :: st) ca sl ks ρ σ := by
  obtain ⟨⟨p, l, e, R, s, m, args, below, meth, c, Q⟩, D, cA, A, H0, g0, n0⟩ := Γ
  obtain ⟨hx, hb, hml, hown, hts, hK, hR, hrt, hlk, hnm, hA⟩ := hΓ
  intro g H locs ls hP hS hl ho1 ho2 hg hn
  exact lv_isub hx hb hd (k g H locs ls hP hS hl ho1 (tn_okL.cons trivial ho2.tl.tl) hg hn)
theorem tn_imul (hΓ : tn_is Γ z) {x y : Int32} (hd : decode z.2.1 pc = .ok (.imul, 1)) (k : tn_A Γ (pc + 1) loc (.int (x * y) :: st) ca sl ks ρ σ) : tn_A Γ (pc) loc (.int y :: .int x :: st) ca sl ks ρ σ := by
  obtain ⟨⟨p, l, e, R, s, m, args, below, meth, c, Q⟩, D, cA, A, H0, g0, n0⟩ := Γ
  obtain ⟨hx, hb, hml, hown, hts, hK, hR, hrt, hlk, hnm, hA⟩ := hΓ
  intro g H locs ls hP hS hl ho1 ho2 hg hn
  exact lv_imul hx hb hd (k g H locs ls hP hS hl ho1 (tn_okL.cons trivial ho2.tl.tl) hg hn)
theorem tn_iand (hΓ : tn_is Γ z) {x y : Int32} (hd : decode z.2.1 pc = .ok (.iand, 1)) (k : tn_A Γ (pc + 1) loc (.int (x &&& y) :: st) ca sl ks ρ σ) : tn_A Γ (pc) loc (.int y :: .int x :: st) ca sl ks ρ σ := by
  obtain ⟨⟨p, l, e, R, s, m, args, below, meth, c, Q⟩, D, cA, A, H0, g0, n0⟩ := Γ
  obtain ⟨hx, hb, hml, hown, hts, hK, hR, hrt, hlk, hnm, hA⟩ := hΓ
  intro g H locs ls hP hS hl ho1 ho2 hg hn
  exact lv_iand hx hb hd (k g H locs ls hP hS hl ho1 (tn_okL.cons trivial ho2.tl.tl) hg hn)
theorem tn_ior (hΓ : tn_is Γ z) {x y : Int32} (hd : decode z.2.1 pc = .ok (.ior, 1)) (k : tn_A Γ (pc + 1) loc (.int (x ||| y) :: st) ca sl ks ρ σ) : tn_A Γ (pc) loc (.int y :: .int x :: st) ca sl ks ρ σ := by
  obtain ⟨⟨p, l, e, R, s, m, args, below, meth, c, Q⟩, D, cA, A, H0, g0, n0⟩ := Γ
  obtain ⟨hx, hb, hml, hown, hts, hK, hR, hrt, hlk, hnm, hA⟩ := hΓ
  intro g H locs ls hP hS hl ho1 ho2 hg hn
  exact lv_ior hx hb hd (k g H locs ls hP hS hl ho1 (tn_okL.cons trivial ho2.tl.tl) hg hn)
theorem tn_ixor (hΓ : tn_is Γ z) {x y : Int32} (hd : decode z.2.1 pc = .ok (.ixor, 1)) (k : tn_A Γ (pc + 1) loc (.int (x ^^^ y) :: st) ca sl ks ρ σ) : tn_A Γ (pc) loc (.int y :: .int x :: st) ca sl ks ρ σ := by
  obtain ⟨⟨p, l, e, R, s, m, args, below, meth, c, Q⟩, D, cA, A, H0, g0, n0⟩ := Γ
  obtain ⟨hx, hb, hml, hown, hts, hK, hR, hrt, hlk, hnm, hA⟩ := hΓ
  intro g H locs ls hP hS hl ho1 ho2 hg hn
  exact lv_ixor hx hb hd (k g H locs ls hP hS hl ho1 (tn_okL.cons trivial ho2.tl.tl) hg hn)
theorem tn_ishl (hΓ : tn_is Γ z) {x y : Int32} (hd : decode z.2.1 pc = .ok (.ishl, 1)) (k : tn_A Γ (pc + 1) loc (.int (x <<< (y &&& 31)) :: st) ca sl ks ρ σ) : tn_A Γ (pc) loc (.int y :: .int x :: st) ca sl ks ρ σ := by
  obtain ⟨⟨p, l, e, R, s, m, args, below, meth, c, Q⟩, D, cA, A, H0, g0, n0⟩ := Γ
  obtain ⟨hx, hb, hml, hown, hts, hK, hR, hrt, hlk, hnm, hA⟩ := hΓ
  intro g H locs ls hP hS hl ho1 ho2 hg hn
  exact lv_ishl hx hb hd (k g H locs ls hP hS hl ho1 (tn_okL.cons trivial ho2.tl.tl) hg hn)
theorem tn_ishr (hΓ : tn_is Γ z) {x y : Int32} (hd : decode z.2.1 pc = .ok (.ishr, 1)) (k : tn_A Γ (pc + 1) loc (.int (x >>> (y &&& 31)) :: st) ca sl ks ρ σ) : tn_A Γ (pc) loc (.int y :: .int x :: st) ca sl ks ρ σ := by
  obtain ⟨⟨p, l, e, R, s, m, args, below, meth, c, Q⟩, D, cA, A, H0, g0, n0⟩ := Γ
  obtain ⟨hx, hb, hml, hown, hts, hK, hR, hrt, hlk, hnm, hA⟩ := hΓ
  intro g H locs ls hP hS hl ho1 ho2 hg hn
  exact lv_ishr hx hb hd (k g H locs ls hP hS hl ho1 (tn_okL.cons trivial ho2.tl.tl) hg hn)
theorem tn_iushr (hΓ : tn_is Γ z) {x y : Int32} (hd : decode z.2.1 pc = .ok (.iushr, 1)) (k : tn_A Γ (pc + 1) loc (.int (x.toUInt32 >>> (y.toUInt32 &&& Int32.toUInt32 31)).toInt32 :: st) ca sl ks ρ σ) : tn_A Γ (pc) loc (.int y :: .int x :: st) ca sl ks ρ σ := by
  obtain ⟨⟨p, l, e, R, s, m, args, below, meth, c, Q⟩, D, cA, A, H0, g0, n0⟩ := Γ
  obtain ⟨hx, hb, hml, hown, hts, hK, hR, hrt, hlk, hnm, hA⟩ := hΓ
  intro g H locs ls hP hS hl ho1 ho2 hg hn
  exact lv_iushr hx hb hd rfl (k g H locs ls hP hS hl ho1 (tn_okL.cons trivial ho2.tl.tl) hg hn)
theorem tn_idiv (hΓ : tn_is Γ z) {x y : Int32} (hd : decode z.2.1 pc = .ok (.idiv, 1)) (hy : ¬ y = 0) (k : tn_A Γ (pc + 1) loc (.int (x / y) :: st) ca sl ks ρ σ) : tn_A Γ (pc) loc (.int y :: .int x :: st) ca sl ks ρ σ := by
  obtain ⟨⟨p, l, e, R, s, m, args, below, meth, c, Q⟩, D, cA, A, H0, g0, n0⟩ := Γ
  obtain ⟨hx, hb, hml, hown, hts, hK, hR, hrt, hlk, hnm, hA⟩ := hΓ
  intro g H locs ls hP hS hl ho1 ho2 hg hn
  exact lv_idiv hx hb hd hy (k g H locs ls hP hS hl ho1 (tn_okL.cons trivial ho2.tl.tl) hg hn)
theorem tn_irem (hΓ : tn_is Γ z) {x y : Int32} (hd : decode z.2.1 pc = .ok (.irem, 1)) (hy : ¬ y = 0) (k : tn_A Γ (pc + 1) loc (.int (x - x / y * y) :: st) ca sl ks ρ σ) : tn_A Γ (pc) loc (.int y :: .int x :: st) ca sl ks ρ σ := by
  obtain ⟨⟨p, l, e, R, s, m, args, below, meth, c, Q⟩, D, cA, A, H0, g0, n0⟩ := Γ
  obtain ⟨hx, hb, hml, hown, hts, hK, hR, hrt, hlk, hnm, hA⟩ := hΓ
  intro g H locs ls hP hS hl ho1 ho2 hg hn
  exact lv_irem hx hb hd hy (k g H locs ls hP hS hl ho1 (tn_okL.cons trivial ho2.tl.tl) hg hn)
theorem tn_ldiv (hΓ : tn_is Γ z) {x y : Int64} (hd : decode z.2.1 pc = .ok (.ldiv, 1)) (hy : ¬ y = 0) (k : tn_A Γ (pc + 1) loc (.long (x / y) :: st) ca sl ks ρ σ) : tn_A Γ (pc) loc (.long y :: .long x :: st) ca sl ks ρ σ := by
  obtain ⟨⟨p, l, e, R, s, m, args, below, meth, c, Q⟩, D, cA, A, H0, g0, n0⟩ := Γ
  obtain ⟨hx, hb, hml, hown, hts, hK, hR, hrt, hlk, hnm, hA⟩ := hΓ
  intro g H locs ls hP hS hl ho1 ho2 hg hn
  exact lv_ldiv hx hb hd hy (k g H locs ls hP hS hl ho1 (tn_okL.cons trivial ho2.tl.tl) hg hn)
theorem tn_lrem (hΓ : tn_is Γ z) {x y : Int64} (hd : decode z.2.1 pc = .ok (.lrem, 1)) (hy : ¬ y = 0) (k : tn_A Γ (pc + 1) loc (.long (x - x / y * y) :: st) ca sl ks ρ σ) : tn_A Γ (pc) loc (.long y :: .long x :: st) ca sl ks ρ σ := by
  obtain ⟨⟨p, l, e, R, s, m, args, below, meth, c, Q⟩, D, cA, A, H0, g0, n0⟩ := Γ
  obtain ⟨hx, hb, hml, hown, hts, hK, hR, hrt, hlk, hnm, hA⟩ := hΓ
  intro g H locs ls hP hS hl ho1 ho2 hg hn
  exact lv_lrem hx hb hd hy (k g H locs ls hP hS hl ho1 (tn_okL.cons trivial ho2.tl.tl) hg hn)
theorem tn_lcmp (hΓ : tn_is Γ z) {x y : Int64} (hd : decode z.2.1 pc = .ok (.lcmp, 1)) (k : tn_A Γ (pc + 1) loc (.int (lg_cmp x y) :: st) ca sl ks ρ σ) : tn_A Γ (pc) loc (.long y :: .long x :: st) ca sl ks ρ σ := by
  obtain ⟨⟨p, l, e, R, s, m, args, below, meth, c, Q⟩, D, cA, A, H0, g0, n0⟩ := Γ
  obtain ⟨hx, hb, hml, hown, hts, hK, hR, hrt, hlk, hnm, hA⟩ := hΓ
  intro g H locs ls hP hS hl ho1 ho2 hg hn
  exact W.lcmp hx hb hd (k g H locs ls hP hS hl ho1 (tn_okL.cons trivial ho2.tl.tl) hg hn)
theorem tn_i2b (hΓ : tn_is Γ z) {x : Int32} (hd : decode z.2.1 pc = .ok (.i2b, 1)) (k : tn_A Γ (pc + 1) loc (.int (x.toInt8.toInt32) :: st) ca sl ks ρ σ) : tn_A Γ (pc) loc (.int x :: st) ca sl ks ρ σ := by
  obtain ⟨⟨p, l, e, R, s, m, args, below, meth, c, Q⟩, D, cA, A, H0, g0, n0⟩ := Γ
  obtain ⟨hx, hb, hml, hown, hts, hK, hR, hrt, hlk, hnm, hA⟩ := hΓ
  intro g H locs ls hP hS hl ho1 ho2 hg hn
  exact lv_i2b hx hb hd rfl (k g H locs ls hP hS hl ho1 (tn_okL.cons trivial ho2.tl) hg hn)
theorem tn_i2s (hΓ : tn_is Γ z) {x : Int32} (hd : decode z.2.1 pc = .ok (.i2s, 1)) (k : tn_A Γ (pc + 1) loc (.int (x.toInt16.toInt32) :: st) ca sl ks ρ σ) : tn_A Γ (pc) loc (.int x :: st) ca sl ks ρ σ := by
  obtain ⟨⟨p, l, e, R, s, m, args, below, meth, c, Q⟩, D, cA, A, H0, g0, n0⟩ := Γ
  obtain ⟨hx, hb, hml, hown, hts, hK, hR, hrt, hlk, hnm, hA⟩ := hΓ
  intro g H locs ls hP hS hl ho1 ho2 hg hn
  exact lv_i2s hx hb hd rfl (k g H locs ls hP hS hl ho1 (tn_okL.cons trivial ho2.tl) hg hn)
theorem tn_i2l (hΓ : tn_is Γ z) {x : Int32} (hd : decode z.2.1 pc = .ok (.i2l, 1)) (k : tn_A Γ (pc + 1) loc (.long (x.toInt64) :: st) ca sl ks ρ σ) : tn_A Γ (pc) loc (.int x :: st) ca sl ks ρ σ := by
  obtain ⟨⟨p, l, e, R, s, m, args, below, meth, c, Q⟩, D, cA, A, H0, g0, n0⟩ := Γ
  obtain ⟨hx, hb, hml, hown, hts, hK, hR, hrt, hlk, hnm, hA⟩ := hΓ
  intro g H locs ls hP hS hl ho1 ho2 hg hn
  exact lv_i2l hx hb hd rfl (k g H locs ls hP hS hl ho1 (tn_okL.cons trivial ho2.tl) hg hn)
theorem tn_if_eq (hΓ : tn_is Γ z) {x : Int32} {off : Int} {tgt : Nat} (hd : decode z.2.1 pc = .ok (.ifCond .eq off, 3)) (ht : (pc : Int) + off = (tgt : Int)) (k1 : x = 0 → tn_A Γ (tgt) loc (st) ca sl ks ρ σ) (k2 : ¬ x = 0 → tn_A Γ (pc + 3) loc (st) ca sl ks ρ σ) : tn_A Γ (pc) loc (.int x :: st) ca sl ks ρ σ := by
  obtain ⟨⟨p, l, e, R, s, m, args, below, meth, c, Q⟩, D, cA, A, H0, g0, n0⟩ := Γ
  obtain ⟨hx, hb, hml, hown, hts, hK, hR, hrt, hlk, hnm, hA⟩ := hΓ
  intro g H locs ls hP hS hl ho1 ho2 hg hn
  exact lv_if_eq hx hb hd ht (fun q => k1 q g H locs ls hP hS hl ho1 ho2.tl hg hn) (fun q => k2 q g H locs ls hP hS hl ho1 ho2.tl hg hn)
theorem tn_icmp_eq (hΓ : tn_is Γ z) {x y : Int32} {off : Int} {tgt : Nat} (hd : decode z.2.1 pc = .ok (.if_icmp .eq off, 3)) (ht : (pc : Int) + off = (tgt : Int)) (k1 : x = y → tn_A Γ (tgt) loc (st) ca sl ks ρ σ) (k2 : ¬ x = y → tn_A Γ (pc + 3) loc (st) ca sl ks ρ σ) : tn_A Γ (pc) loc (.int y :: .int x :: st) ca sl ks ρ σ := by
  obtain ⟨⟨p, l, e, R, s, m, args, below, meth, c, Q⟩, D, cA, A, H0, g0, n0⟩ := Γ
  obtain ⟨hx, hb, hml, hown, hts, hK, hR, hrt, hlk, hnm, hA⟩ := hΓ
  intro g H locs ls hP hS hl ho1 ho2 hg hn
  exact lv_icmp_eq hx hb hd ht (fun q => k1 q g H locs ls hP hS hl ho1 ho2.tl.tl hg hn) (fun q => k2 q g H locs ls hP hS hl ho1 ho2.tl.tl hg hn)
theorem tn_if_ne (hΓ : tn_is Γ z) {x : Int32} {off : Int} {tgt : Nat} (hd : decode z.2.1 pc = .ok (.ifCond .ne off, 3)) (ht : (pc : Int) + off = (tgt : Int)) (k1 : ¬ x = 0 → tn_A Γ (tgt) loc (st) ca sl ks ρ σ) (k2 : x = 0 → tn_A Γ (pc + 3) loc (st) ca sl ks ρ σ) : tn_A Γ (pc) loc (.int x :: st) ca sl ks ρ σ := by
  obtain ⟨⟨p, l, e, R, s, m, args, below, meth, c, Q⟩, D, cA, A, H0, g0, n0⟩ := Γ
  obtain ⟨hx, hb, hml, hown, hts, hK, hR, hrt, hlk, hnm, hA⟩ := hΓ
  intro g H locs ls hP hS hl ho1 ho2 hg hn
  exact lv_if_ne hx hb hd ht (fun q => k1 q g H locs ls hP hS hl ho1 ho2.tl hg hn) (fun q => k2 q g H locs ls hP hS hl ho1 ho2.tl hg hn)
theorem tn_icmp_ne (hΓ : tn_is Γ z) {x y : Int32} {off : Int} {tgt : Nat} (hd : decode z.2.1 pc = .ok (.if_icmp .ne off, 3)) (ht : (pc : Int) + off = (tgt : Int)) (k1 : ¬ x = y → tn_A Γ (tgt) loc (st) ca sl ks ρ σ) (k2 : x = y → tn_A Γ (pc + 3) loc (st) ca sl ks ρ σ) : tn_A Γ (pc) loc (.int y :: .int x :: st) ca sl ks ρ σ := by
  obtain ⟨⟨p, l, e, R, s, m, args, below, meth, c, Q⟩, D, cA, A, H0, g0, n0⟩ := Γ
  obtain ⟨hx, hb, hml, hown, hts, hK, hR, hrt, hlk, hnm, hA⟩ := hΓ
  intro g H locs ls hP hS hl ho1 ho2 hg hn
  exact lv_icmp_ne hx hb hd ht (fun q => k1 q g H locs ls hP hS hl ho1 ho2.tl.tl hg hn) (fun q => k2 q g H locs ls hP hS hl ho1 ho2.tl.tl hg hn)
theorem tn_if_lt (hΓ : tn_is Γ z) {x : Int32} {off : Int} {tgt : Nat} (hd : decode z.2.1 pc = .ok (.ifCond .lt off, 3)) (ht : (pc : Int) + off = (tgt : Int)) (k1 : x < 0 → tn_A Γ (tgt) loc (st) ca sl ks ρ σ) (k2 : ¬ x < 0 → tn_A Γ (pc + 3) loc (st) ca sl ks ρ σ) : tn_A Γ (pc) loc (.int x :: st) ca sl ks ρ σ := by
  obtain ⟨⟨p, l, e, R, s, m, args, below, meth, c, Q⟩, D, cA, A, H0, g0, n0⟩ := Γ
  obtain ⟨hx, hb, hml, hown, hts, hK, hR, hrt, hlk, hnm, hA⟩ := hΓ
  intro g H locs ls hP hS hl ho1 ho2 hg hn
  exact lv_if_lt hx hb hd ht (fun q => k1 q g H locs ls hP hS hl ho1 ho2.tl hg hn) (fun q => k2 q g H locs ls hP hS hl ho1 ho2.tl hg hn)
theorem tn_icmp_lt (hΓ : tn_is Γ z) {x y : Int32} {off : Int} {tgt : Nat} (hd : decode z.2.1 pc = .ok (.if_icmp .lt off, 3)) (ht : (pc : Int) + off = (tgt : Int)) (k1 : x < y → tn_A Γ (tgt) loc (st) ca sl ks ρ σ) (k2 : ¬ x < y → tn_A Γ (pc + 3) loc (st) ca sl ks ρ σ) : tn_A Γ (pc) loc (.int y :: .int x :: st) ca sl ks ρ σ := by
  obtain ⟨⟨p, l, e, R, s, m, args, below, meth, c, Q⟩, D, cA, A, H0, g0, n0⟩ := Γ
  obtain ⟨hx, hb, hml, hown, hts, hK, hR, hrt, hlk, hnm, hA⟩ := hΓ
  intro g H locs ls hP hS hl ho1 ho2 hg hn
  exact lv_icmp_lt hx hb hd ht (fun q => k1 q g H locs ls hP hS hl ho1 ho2.tl.tl hg hn) (fun q => k2 q g H locs ls hP hS hl ho1 ho2.tl.tl hg hn)
theorem tn_if_ge (hΓ : tn_is Γ z) {x : Int32} {off : Int} {tgt : Nat} (hd : decode z.2.1 pc = .ok (.ifCond .ge off, 3)) (ht : (pc : Int) + off = (tgt : Int)) (k1 : 0 ≤ x → tn_A Γ (tgt) loc (st) ca sl ks ρ σ) (k2 : ¬ 0 ≤ x → tn_A Γ (pc + 3) loc (st) ca sl ks ρ σ) : tn_A Γ (pc) loc (.int x :: st) ca sl ks ρ σ := by
  obtain ⟨⟨p, l, e, R, s, m, args, below, meth, c, Q⟩, D, cA, A, H0, g0, n0⟩ := Γ
  obtain ⟨hx, hb, hml, hown, hts, hK, hR, hrt, hlk, hnm, hA⟩ := hΓ
  intro g H locs ls hP hS hl ho1 ho2 hg hn
  exact lv_if_ge hx hb hd ht (fun q => k1 q g H locs ls hP hS hl ho1 ho2.tl hg hn) (fun q => k2 q g H locs ls hP hS hl ho1 ho2.tl hg hn)
theorem tn_icmp_ge (hΓ : tn_is Γ z) {x y : Int32} {off : Int} {tgt : Nat} (hd : decode z.2.1 pc = .ok (.if_icmp .ge off, 3)) (ht : (pc : Int) + off = (tgt : Int)) (k1 : y ≤ x → tn_A Γ (tgt) loc (st) ca sl ks ρ σ) (k2 : ¬ y ≤ x → tn_A Γ (pc + 3) loc (st) ca sl ks ρ σ) : tn_A Γ (pc) loc (.int y :: .int x :: st) ca sl ks ρ σ := by
  obtain ⟨⟨p, l, e, R, s, m, args, below, meth, c, Q⟩, D, cA, A, H0, g0, n0⟩ := Γ
  obtain ⟨hx, hb, hml, hown, hts, hK, hR, hrt, hlk, hnm, hA⟩ := hΓ
  intro g H locs ls hP hS hl ho1 ho2 hg hn
  exact lv_icmp_ge hx hb hd ht (fun q => k1 q g H locs ls hP hS hl ho1 ho2.tl.tl hg hn) (fun q => k2 q g H locs ls hP hS hl ho1 ho2.tl.tl hg hn)
theorem tn_if_gt (hΓ : tn_is Γ z) {x : Int32} {off : Int} {tgt : Nat} (hd : decode z.2.1 pc = .ok (.ifCond .gt off, 3)) (ht : (pc : Int) + off = (tgt : Int)) (k1 : 0 < x → tn_A Γ (tgt) loc (st) ca sl ks ρ σ) (k2 : ¬ 0 < x → tn_A Γ (pc + 3) loc (st) ca sl ks ρ σ) : tn_A Γ (pc) loc (.int x :: st) ca sl ks ρ σ := by
  obtain ⟨⟨p, l, e, R, s, m, args, below, meth, c, Q⟩, D, cA, A, H0, g0, n0⟩ := Γ
  obtain ⟨hx, hb, hml, hown, hts, hK, hR, hrt, hlk, hnm, hA⟩ := hΓ
  intro g H locs ls hP hS hl ho1 ho2 hg hn
  exact lv_if_gt hx hb hd ht (fun q => k1 q g H locs ls hP hS hl ho1 ho2.tl hg hn) (fun q => k2 q g H locs ls hP hS hl ho1 ho2.tl hg hn)
theorem tn_icmp_gt (hΓ : tn_is Γ z) {x y : Int32} {off : Int} {tgt : Nat} (hd : decode z.2.1 pc = .ok (.if_icmp .gt off, 3)) (ht : (pc : Int) + off = (tgt : Int)) (k1 : y < x → tn_A Γ (tgt) loc (st) ca sl ks ρ σ) (k2 : ¬ y < x → tn_A Γ (pc + 3) loc (st) ca sl ks ρ σ) : tn_A Γ (pc) loc (.int y :: .int x :: st) ca sl ks ρ σ := by
  obtain ⟨⟨p, l, e, R, s, m, args, below, meth, c, Q⟩, D, cA, A, H0, g0, n0⟩ := Γ
  obtain ⟨hx, hb, hml, hown, hts, hK, hR, hrt, hlk, hnm, hA⟩ := hΓ
  intro g H locs ls hP hS hl ho1 ho2 hg hn
  exact lv_icmp_gt hx hb hd ht (fun q => k1 q g H locs ls hP hS hl ho1 ho2.tl.tl hg hn) (fun q => k2 q g H locs ls hP hS hl ho1 ho2.tl.tl hg hn)
theorem tn_if_le (hΓ : tn_is Γ z) {x : Int32} {off : Int} {tgt : Nat} (hd : decode z.2.1 pc = .ok (.ifCond .le off, 3)) (ht : (pc : Int) + off = (tgt : Int)) (k1 : x ≤ 0 → tn_A Γ (tgt) loc (st) ca sl ks ρ σ) (k2 : ¬ x ≤ 0 → tn_A Γ (pc + 3) loc (st) ca sl ks ρ σ) : tn_A Γ (pc) loc (.int x :: st) ca sl ks ρ σ := by
  obtain ⟨⟨p, l, e, R, s, m, args, below, meth, c, Q⟩, D, cA, A, H0, g0, n0⟩ := Γ
  obtain ⟨hx, hb, hml, hown, hts, hK, hR, hrt, hlk, hnm, hA⟩ := hΓ
  intro g H locs ls hP hS hl ho1 ho2 hg hn
  exact lv_if_le hx hb hd ht (fun q => k1 q g H locs ls hP hS hl ho1 ho2.tl hg hn) (fun q => k2 q g H locs ls hP hS hl ho1 ho2.tl hg hn)
theorem tn_icmp_le (hΓ : tn_is Γ z) {x y : Int32} {off : Int} {tgt : Nat} (hd : decode z.2.1 pc = .ok (.if_icmp .le off, 3)) (ht : (pc : Int) + off = (tgt : Int)) (k1 : x ≤ y → tn_A Γ (tgt) loc (st) ca sl ks ρ σ) (k2 : ¬ x ≤ y → tn_A Γ (pc + 3) loc (st) ca sl ks ρ σ) : tn_A Γ (pc) loc (.int y :: .int x :: st) ca sl ks ρ σ := by
  obtain ⟨⟨p, l, e, R, s, m, args, below, meth, c, Q⟩, D, cA, A, H0, g0, n0⟩ := Γ
  obtain ⟨hx, hb, hml, hown, hts, hK, hR, hrt, hlk, hnm, hA⟩ := hΓ
  intro g H locs ls hP hS hl ho1 ho2 hg hn
  exact lv_icmp_le hx hb hd ht (fun q => k1 q g H locs ls hP hS hl ho1 ho2.tl.tl hg hn) (fun q => k2 q g H locs ls hP hS hl ho1 ho2.tl.tl hg hn)
theorem tn_goto (hΓ : tn_is Γ z) {off : Int} {tgt : Nat} (hd : decode z.2.1 pc = .ok (.goto off, 3)) (ht : (pc : Int) + off = (tgt : Int)) (k : tn_A Γ (tgt) loc (st) ca sl ks ρ σ) : tn_A Γ (pc) loc (st) ca sl ks ρ σ := by
  obtain ⟨⟨p, l, e, R, s, m, args, below, meth, c, Q⟩, D, cA, A, H0, g0, n0⟩ := Γ
  obtain ⟨hx, hb, hml, hown, hts, hK, hR, hrt, hlk, hnm, hA⟩ := hΓ
  intro g H locs ls hP hS hl ho1 ho2 hg hn
  exact lv_goto hx hb hd ht (k g H locs ls hP hS hl ho1 ho2 hg hn)
theorem tn_dupi (hΓ : tn_is Γ z) {x : Int32} (hd : decode z.2.1 pc = .ok (.dup, 1)) (k : tn_A Γ (pc + 1) loc (.int x :: .int x :: st) ca sl ks ρ σ) : tn_A Γ (pc) loc (.int x :: st) ca sl ks ρ σ := by
  obtain ⟨⟨p, l, e, R, s, m, args, below, meth, c, Q⟩, D, cA, A, H0, g0, n0⟩ := Γ
  obtain ⟨hx, hb, hml, hown, hts, hK, hR, hrt, hlk, hnm, hA⟩ := hΓ
  intro g H locs ls hP hS hl ho1 ho2 hg hn
  exact lv_dup hx hb hd rfl (k g H locs ls hP hS hl ho1 (tn_okL.cons ho2.hd ho2) hg hn)
theorem tn_dupr (hΓ : tn_is Γ z) {x : Nat} (hd : decode z.2.1 pc = .ok (.dup, 1)) (k : tn_A Γ (pc + 1) loc (.ref x :: .ref x :: st) ca sl ks ρ σ) : tn_A Γ (pc) loc (.ref x :: st) ca sl ks ρ σ := by
  obtain ⟨⟨p, l, e, R, s, m, args, below, meth, c, Q⟩, D, cA, A, H0, g0, n0⟩ := Γ
  obtain ⟨hx, hb, hml, hown, hts, hK, hR, hrt, hlk, hnm, hA⟩ := hΓ
  intro g H locs ls hP hS hl ho1 ho2 hg hn
  exact lv_dup hx hb hd (by cases h : tn_gr g x <;> simp [tn_v, h, va_rf, Value.category]) (k g H locs ls hP hS hl ho1 (tn_okL.cons ho2.hd ho2) hg hn)
theorem tn_popi (hΓ : tn_is Γ z) {x : Int32} (hd : decode z.2.1 pc = .ok (.pop, 1)) (k : tn_A Γ (pc + 1) loc (st) ca sl ks ρ σ) : tn_A Γ (pc) loc (.int x :: st) ca sl ks ρ σ := by
  obtain ⟨⟨p, l, e, R, s, m, args, below, meth, c, Q⟩, D, cA, A, H0, g0, n0⟩ := Γ
  obtain ⟨hx, hb, hml, hown, hts, hK, hR, hrt, hlk, hnm, hA⟩ := hΓ
  intro g H locs ls hP hS hl ho1 ho2 hg hn
  exact lv_pop hx hb hd rfl (k g H locs ls hP hS hl ho1 ho2.tl hg hn)
theorem tn_dup2 (hΓ : tn_is Γ z) {x : Int32} {y : Nat} (hd : decode z.2.1 pc = .ok (.dup2, 1)) (k : tn_A Γ (pc + 1) loc (.int x :: .ref y :: .int x :: .ref y :: st) ca sl ks ρ σ) : tn_A Γ (pc) loc (.int x :: .ref y :: st) ca sl ks ρ σ := by
  obtain ⟨⟨p, l, e, R, s, m, args, below, meth, c, Q⟩, D, cA, A, H0, g0, n0⟩ := Γ
  obtain ⟨hx, hb, hml, hown, hts, hK, hR, hrt, hlk, hnm, hA⟩ := hΓ
  intro g H locs ls hP hS hl ho1 ho2 hg hn
  exact lv_dup2_11 hx hb hd rfl (by cases h : tn_gr g y <;> simp [tn_v, h, va_rf, Value.category]) (k g H locs ls hP hS hl ho1 (tn_okL.cons ho2.hd (tn_okL.cons ho2.tl.hd ho2)) hg hn)
theorem tn_tblOut (hΓ : tn_is Γ z) {dflt lo hi : Int} {offs : Array Int} {len : Nat} {x : Int32} {tgt : Nat} (hd : decode z.2.1 pc = .ok (.tableswitch dflt lo hi offs, len)) (h : x.toInt < lo ∨ hi < x.toInt) (ht : (pc : Int) + dflt = (tgt : Int)) (k : tn_A Γ (tgt) loc (st) ca sl ks ρ σ) : tn_A Γ (pc) loc (.int x :: st) ca sl ks ρ σ := by
  obtain ⟨⟨p, l, e, R, s, m, args, below, meth, c, Q⟩, D, cA, A, H0, g0, n0⟩ := Γ
  obtain ⟨hx, hb, hml, hown, hts, hK, hR, hrt, hlk, hnm, hA⟩ := hΓ
  intro g H locs ls hP hS hl ho1 ho2 hg hn
  exact lv_tableOut hx hb hd h ht (k g H locs ls hP hS hl ho1 ho2.tl hg hn)
theorem tn_tblIn (hΓ : tn_is Γ z) {dflt lo hi : Int} {offs : Array Int} {len : Nat} {x : Int32} {off : Int} {tgt : Nat} (hd : decode z.2.1 pc = .ok (.tableswitch dflt lo hi offs, len)) (h1 : ¬ x.toInt < lo) (h2 : ¬ hi < x.toInt) (ho : offs[(x.toInt - lo).toNat]? = some off) (ht : (pc : Int) + off = (tgt : Int)) (k : tn_A Γ (tgt) loc (st) ca sl ks ρ σ) : tn_A Γ (pc) loc (.int x :: st) ca sl ks ρ σ := by
  obtain ⟨⟨p, l, e, R, s, m, args, below, meth, c, Q⟩, D, cA, A, H0, g0, n0⟩ := Γ
  obtain ⟨hx, hb, hml, hown, hts, hK, hR, hrt, hlk, hnm, hA⟩ := hΓ
  intro g H locs ls hP hS hl ho1 ho2 hg hn
  exact lv_tableIn hx hb hd h1 h2 ho ht (k g H locs ls hP hS hl ho1 ho2.tl hg hn)
theorem tn_lookup (hΓ : tn_is Γ z) {dflt : Int} {ps : Array (Int × Int)} {len : Nat} {x : Int32} {off : Int} {tgt : Nat} (hd : decode z.2.1 pc = .ok (.lookupswitch dflt ps, len)) (hp : (ps.toList.zip (ps.toList.drop 1)).all (fun (a, next) => a.1 < next.1) = true) (ho : Op.lookupswitch.offset ps.toList dflt x.toInt = off) (ht : (pc : Int) + off = (tgt : Int)) (k : tn_A Γ (tgt) loc (st) ca sl ks ρ σ) : tn_A Γ (pc) loc (.int x :: st) ca sl ks ρ σ := by
  obtain ⟨⟨p, l, e, R, s, m, args, below, meth, c, Q⟩, D, cA, A, H0, g0, n0⟩ := Γ
  obtain ⟨hx, hb, hml, hown, hts, hK, hR, hrt, hlk, hnm, hA⟩ := hΓ
  intro g H locs ls hP hS hl ho1 ho2 hg hn
  exact lv_lookup hx hb hd hp ho ht (k g H locs ls hP hS hl ho1 ho2.tl hg hn)
/-- a field's link: own class, pool index; class, place -/
def tn_FL (own : String) (idx i k : Nat) : Prop := ∃ (C : String) (T : u_T) (ty : Nat → FieldType), i < 7 ∧ tn_cl[i]? = some (C, T, tn_N i) ∧ k < tn_N i ∧ (∀ w ∈ u_ws C T (tn_N i), w ∈ tn_tbl) ∧ (∀ k, k < tn_N i → parseFieldDescriptor (T k).2.2.1 = some (ty k)) ∧ (∀ a, a < tn_N i → ∀ b, b < tn_N i → a ≠ b → (T a).2.1 ≠ (T b).2.1) ∧ (T k).1 = C ∧ (Cond.fieldLink own idx C (T k).2.1 (T k).2.2.1 ∈ tn_tbl ∨ ∃ host, Cond.fieldLinkNest own idx C (T k).2.1 (T k).2.2.1 host ∈ tn_nst)
/-- the field's kind: 0 int, 1 boolean, 2 a final reference of this own class -/
def tn_FK (own : String) (i k q : Nat) : Prop := ∃ (C : String) (T : u_T), tn_cl[i]? = some (C, T, tn_N i) ∧ match q with
  | 0 => parseFieldDescriptor (T k).2.2.1 = some .int ∧ (T k).2.2.2 = false
  | 1 => parseFieldDescriptor (T k).2.2.1 = some .boolean ∧ (T k).2.2.2 = false
  | _ => (T k).2.2.2 = true ∧ (T k).1 = own ∧ ((∃ r, parseFieldDescriptor (T k).2.2.1 = some (.object r)) ∨ (∃ r, parseFieldDescriptor (T k).2.2.1 = some (.array r)))
theorem tn_getI (hΓ : tn_is Γ z) {x idx i k n : Nat} (hd : decode z.2.1 pc = .ok (.getfield idx, 3)) (hf : tn_FL z.1.cls idx i k) (hr : tn_isR i k = false) (hk : tn_kd ks x = some (i, n)) (kk : tn_A Γ (pc + 3) loc (.int (σ x k) :: st) ca sl ks ρ σ) : tn_A Γ (pc) loc (.ref x :: st) ca sl ks ρ σ := by
  obtain ⟨⟨p, l, e, R, s, m, args, below, meth, c, Q⟩, D, cA, A, H0, g0, n0⟩ := Γ
  obtain ⟨hx, hb, hml, hown, hts, hK, hR, hrt, hlk, hnm, hA⟩ := hΓ
  intro g H locs ls hP hS hl ho1 ho2 hg hn
  obtain ⟨C, T, ty, hi, hc, hkN, hus, hty, hnm2, hdecl, hlink⟩ := hf
  have he := tn_at (cA := cA) (g := g) (ρ := ρ) (σ := σ) hk
  have he : (tn_C cA g ks ρ σ)[x - 2]? = some (g x, .inr (i, tn_fs i g ρ σ x)) := by rw [he]; simp [tn_e, hi]
  have hv : (tn_fs i g ρ σ x)[k]? = some (.int (σ x k)) := by rw [tn_fsN hkN, hr]; rfl
  have hx2 := (tn_kd2 hk).1
  have h1 := kk g H locs ls hP hS hl ho1 (tn_okL.cons trivial ho2.tl) hg hn
  show W p l e R s m args below meth c H locs ca sl Q (F0 m pc ls (va_rf (tn_gr g x) :: st.map (tn_v g)))
  rw [tn_gr2 (by omega)]
  rcases hlink with hlink | ⟨host, hlink⟩
  · exact va_get (D := D) (ci := i) hx hb hts hus hown hK.1 hP.1 (x - 2) he hc k hkN (hts _ hlink) (fun q h => by rw [hdecl] at h; exact h) hv hd h1
  · exact va_getN (D := D) (ci := i) hx hb hts hus hown hK.1 hP.1 (x - 2) he hc k hkN (va_Nw.use rfl (hK.2.1 _ hlink)) (fun q h => by rw [hdecl] at h; exact h) hv hd h1
theorem tn_getR (hΓ : tn_is Γ z) {x idx i k n : Nat} (hd : decode z.2.1 pc = .ok (.getfield idx, 3)) (hf : tn_FL z.1.cls idx i k) (hr : tn_isR i k = true) (hk : tn_kd ks x = some (i, n)) (kk : tn_A Γ (pc + 3) loc (.ref (ρ x k) :: st) ca sl ks ρ σ) : tn_A Γ (pc) loc (.ref x :: st) ca sl ks ρ σ := by
  obtain ⟨⟨p, l, e, R, s, m, args, below, meth, c, Q⟩, D, cA, A, H0, g0, n0⟩ := Γ
  obtain ⟨hx, hb, hml, hown, hts, hK, hR, hrt, hlk, hnm, hA⟩ := hΓ
  intro g H locs ls hP hS hl ho1 ho2 hg hn
  obtain ⟨C, T, ty, hi, hc, hkN, hus, hty, hnm2, hdecl, hlink⟩ := hf
  have he := tn_at (cA := cA) (g := g) (ρ := ρ) (σ := σ) hk
  have he : (tn_C cA g ks ρ σ)[x - 2]? = some (g x, .inr (i, tn_fs i g ρ σ x)) := by rw [he]; simp [tn_e, hi]
  have hv : (tn_fs i g ρ σ x)[k]? = some (va_rf (tn_gr g (ρ x k))) := by rw [tn_fsN hkN, hr]; rfl
  have hx2 := (tn_kd2 hk).1
  have h1 := kk g H locs ls hP hS hl ho1 (tn_okL.cons (v := .ref (ρ x k)) (hP.2.2 x k) ho2.tl) hg hn
  show W p l e R s m args below meth c H locs ca sl Q (F0 m pc ls (va_rf (tn_gr g x) :: st.map (tn_v g)))
  rw [tn_gr2 (by omega)]
  rcases hlink with hlink | ⟨host, hlink⟩
  · exact va_get (D := D) (ci := i) hx hb hts hus hown hK.1 hP.1 (x - 2) he hc k hkN (hts _ hlink) (fun q h => by rw [hdecl] at h; exact h) hv hd h1
  · exact va_getN (D := D) (ci := i) hx hb hts hus hown hK.1 hP.1 (x - 2) he hc k hkN (va_Nw.use rfl (hK.2.1 _ hlink)) (fun q h => by rw [hdecl] at h; exact h) hv hd h1
theorem tn_putI (hΓ : tn_is Γ z) {x idx i k n : Nat} {y : Int32} (hd : decode z.2.1 pc = .ok (.putfield idx, 3)) (hf : tn_FL z.1.cls idx i k) (hq : tn_FK z.1.cls i k 0) (hr : tn_isR i k = false) (hk : tn_kd ks x = some (i, n)) (kk : tn_A Γ (pc + 3) loc (st) ca sl ks ρ (tn_u σ x k y)) : tn_A Γ (pc) loc (.int y :: .ref x :: st) ca sl ks ρ σ := by
  obtain ⟨⟨p, l, e, R, s, m, args, below, meth, c, Q⟩, D, cA, A, H0, g0, n0⟩ := Γ
  obtain ⟨hx, hb, hml, hown, hts, hK, hR, hrt, hlk, hnm, hA⟩ := hΓ
  intro g H locs ls hP hS hl ho1 ho2 hg hn
  obtain ⟨C, T, ty, hi, hc, hkN, hus, hty, hnm2, hdecl, hlink⟩ := hf
  obtain ⟨C', T', hc', hq1, hq2⟩ := hq
  cases hc.symm.trans hc'
  have he := tn_at (cA := cA) (g := g) (ρ := ρ) (σ := σ) hk
  have he : (tn_C cA g ks ρ σ)[x - 2]? = some (g x, .inr (i, tn_fs i g ρ σ x)) := by rw [he]; simp [tn_e, hi]
  have hx2 := (tn_kd2 hk).1
  have hset := tn_C_set (cA := cA) (g := g) (ρ := ρ) (σ := σ) (k := k) (x := y) hk hi hr
  show W p l e R s m args below meth c H locs ca sl Q (F0 m pc ls (.int y :: va_rf (tn_gr g x) :: st.map (tn_v g)))
  rw [tn_gr2 (by omega)]
  rcases hlink with hlink | ⟨host, hlink⟩
  · refine va_put (D := D) (ci := i) (ty := .int) hx hb hts hus ty hty hnm2 hown hK.1 hP.1 hP.2.1 hS (x - 2) he hc k hkN (hts _ hlink) (fun q h => by rw [hdecl] at h; exact h) hq2 hq1 rfl rfl (by rw [tn_fsL]; exact hkN) hd (fun H1 locs1 h1 h2 h3 => ?_)
    rw [hset] at h1 h2
    exact kk g H1 locs1 ls ⟨h1, h2, hP.2.2⟩ h3 hl ho1 ho2.tl.tl hg hn
  · refine va_putN (D := D) (ci := i) (ty := .int) hx hb hts hus ty hty hnm2 hown hK.1 hP.1 hP.2.1 hS (x - 2) he hc k hkN (va_Nw.use rfl (hK.2.1 _ hlink)) (fun q h => by rw [hdecl] at h; exact h) hq2 hq1 rfl rfl (by rw [tn_fsL]; exact hkN) hd (fun H1 locs1 h1 h2 h3 => ?_)
    rw [hset] at h1 h2
    exact kk g H1 locs1 ls ⟨h1, h2, hP.2.2⟩ h3 hl ho1 ho2.tl.tl hg hn
theorem tn_putZ (hΓ : tn_is Γ z) {x idx i k n : Nat} {y : Int32} (hd : decode z.2.1 pc = .ok (.putfield idx, 3)) (hf : tn_FL z.1.cls idx i k) (hq : tn_FK z.1.cls i k 1) (hr : tn_isR i k = false) (hk : tn_kd ks x = some (i, n)) (hy : y = 0 ∨ y = 1) (kk : tn_A Γ (pc + 3) loc (st) ca sl ks ρ (tn_u σ x k y)) : tn_A Γ (pc) loc (.int y :: .ref x :: st) ca sl ks ρ σ := by
  obtain ⟨⟨p, l, e, R, s, m, args, below, meth, c, Q⟩, D, cA, A, H0, g0, n0⟩ := Γ
  obtain ⟨hx, hb, hml, hown, hts, hK, hR, hrt, hlk, hnm, hA⟩ := hΓ
  intro g H locs ls hP hS hl ho1 ho2 hg hn
  obtain ⟨C, T, ty, hi, hc, hkN, hus, hty, hnm2, hdecl, hlink⟩ := hf
  obtain ⟨C', T', hc', hq1, hq2⟩ := hq
  cases hc.symm.trans hc'
  have he := tn_at (cA := cA) (g := g) (ρ := ρ) (σ := σ) hk
  have he : (tn_C cA g ks ρ σ)[x - 2]? = some (g x, .inr (i, tn_fs i g ρ σ x)) := by rw [he]; simp [tn_e, hi]
  have hx2 := (tn_kd2 hk).1
  have hset := tn_C_set (cA := cA) (g := g) (ρ := ρ) (σ := σ) (k := k) (x := y) hk hi hr
  show W p l e R s m args below meth c H locs ca sl Q (F0 m pc ls (.int y :: va_rf (tn_gr g x) :: st.map (tn_v g)))
  rw [tn_gr2 (by omega)]
  rcases hlink with hlink | ⟨host, hlink⟩
  · refine va_put (D := D) (ci := i) (ty := .boolean) hx hb hts hus ty hty hnm2 hown hK.1 hP.1 hP.2.1 hS (x - 2) he hc k hkN (hts _ hlink) (fun q h => by rw [hdecl] at h; exact h) hq2 hq1 (by rcases hy with rfl | rfl <;> rfl) (by rcases hy with rfl | rfl <;> rfl) (by rw [tn_fsL]; exact hkN) hd (fun H1 locs1 h1 h2 h3 => ?_)
    rw [hset] at h1 h2
    exact kk g H1 locs1 ls ⟨h1, h2, hP.2.2⟩ h3 hl ho1 ho2.tl.tl hg hn
  · refine va_putN (D := D) (ci := i) (ty := .boolean) hx hb hts hus ty hty hnm2 hown hK.1 hP.1 hP.2.1 hS (x - 2) he hc k hkN (va_Nw.use rfl (hK.2.1 _ hlink)) (fun q h => by rw [hdecl] at h; exact h) hq2 hq1 (by rcases hy with rfl | rfl <;> rfl) (by rcases hy with rfl | rfl <;> rfl) (by rw [tn_fsL]; exact hkN) hd (fun H1 locs1 h1 h2 h3 => ?_)
    rw [hset] at h1 h2
    exact kk g H1 locs1 ls ⟨h1, h2, hP.2.2⟩ h3 hl ho1 ho2.tl.tl hg hn
theorem tn_putR (hΓ : tn_is Γ z) {x idx i k n : Nat} {y : Nat} (hd : decode z.2.1 pc = .ok (.putfield idx, 3)) (hf : tn_FL z.1.cls idx i k) (hq : tn_FK z.1.cls i k 2) (hr : tn_isR i k = true) (hk : tn_kd ks x = some (i, n)) (hl0 : ∀ (C : String) (T : u_T), tn_cl[i]? = some (C, T, tn_N i) → Cond.fieldLink z.1.cls idx C (T k).2.1 (T k).2.2.1 ∈ tn_tbl) (hin : z.1.name = "<init>") (kk : tn_A Γ (pc + 3) loc (st) ca sl ks (tn_ur ρ x k y) σ) : tn_A Γ (pc) loc (.ref y :: .ref x :: st) ca sl ks ρ σ := by
  obtain ⟨⟨p, l, e, R, s, m, args, below, meth, c, Q⟩, D, cA, A, H0, g0, n0⟩ := Γ
  obtain ⟨hx, hb, hml, hown, hts, hK, hR, hrt, hlk, hnm, hA⟩ := hΓ
  intro g H locs ls hP hS hl ho1 ho2 hg hn
  obtain ⟨C, T, ty, hi, hc, hkN, hus, hty, hnm2, hdecl, hlink⟩ := hf
  obtain ⟨C', T', hc', hq1, hq2, hq3⟩ := hq
  cases hc.symm.trans hc'
  have he := tn_at (cA := cA) (g := g) (ρ := ρ) (σ := σ) hk
  have he : (tn_C cA g ks ρ σ)[x - 2]? = some (g x, .inr (i, tn_fs i g ρ σ x)) := by rw [he]; simp [tn_e, hi]
  have hx2 := (tn_kd2 hk).1
  have hset := tn_C_setR (cA := cA) (g := g) (ρ := ρ) (σ := σ) (k := k) (x := y) hk hi hr
  have hyb : y < ks.length + 2 := ho2.hd
  show W p l e R s m args below meth c H locs ca sl Q (F0 m pc ls (va_rf (tn_gr g y) :: va_rf (tn_gr g x) :: st.map (tn_v g)))
  rw [tn_gr2 (g := g) (c := x) (by omega)]
  have hin2 : meth.name = "<init>" := hnm.trans hin
  have hl0 := hl0 _ _ hc
  have go : ∀ ty0 : FieldType, parseFieldDescriptor (T k).2.2.1 = some ty0 → narrow ty0 (va_rf (tn_gr g y)) = va_rf (tn_gr g y) → fits ty0 (va_rf (tn_gr g y)) = true → W p l e R s m args below meth c H locs ca sl Q (F0 m pc ls (va_rf (tn_gr g y) :: .ref (g x) :: st.map (tn_v g))) := by
    intro ty0 h1 h2 h3
    refine va_putF (D := D) (ci := i) (ty := ty0) hx hb hts hus ty hty hnm2 hown hK.1 hP.1 hP.2.1 hS (x - 2) he hc k hkN (hts _ hl0) (fun q h => by rw [hdecl] at h; exact h) hq1 hin2 hq2 h1 h2 h3 (by rw [tn_fsL]; exact hkN) hd (fun H1 locs1 h1 h2 h3 => ?_)
    rw [hset] at h1 h2
    refine kk g H1 locs1 ls ⟨h1, h2, fun c' k' => ?_⟩ h3 hl ho1 ho2.tl.tl hg hn
    unfold tn_ur
    split
    · exact hyb
    · exact hP.2.2 c' k'
  rcases hq3 with ⟨r, h⟩ | ⟨r, h⟩
  · exact go _ h (by cases tn_gr g y <;> rfl) (by cases tn_gr g y <;> rfl)
  · exact go _ h (by cases tn_gr g y <;> rfl) (by cases tn_gr g y <;> rfl)
theorem tn_ald (hΓ : tn_is Γ z) {x n : Nat} {i : Int32} (hd : decode z.2.1 pc = .ok (.iaload, 1)) (hk : tn_kd ks x = some (7, n)) (hin : vp_in i n) (kk : tn_A Γ (pc + 1) loc (.int (σ x i.toNatClampNeg) :: st) ca sl ks ρ σ) : tn_A Γ (pc) loc (.int i :: .ref x :: st) ca sl ks ρ σ := by
  obtain ⟨⟨p, l, e, R, s, m, args, below, meth, c, Q⟩, D, cA, A, H0, g0, n0⟩ := Γ
  obtain ⟨hx, hb, hml, hown, hts, hK, hR, hrt, hlk, hnm, hA⟩ := hΓ
  intro g H locs ls hP hS hl ho1 ho2 hg hn
  have he := tn_at (cA := cA) (g := g) (ρ := ρ) (σ := σ) hk
  have he : (tn_C cA g ks ρ σ)[x - 2]? = some (g x, .inl (cA 0, n, .inl (σ x))) := by rw [he]; simp [tn_e]
  have hx2 := (tn_kd2 hk).1
  have h1 := kk g H locs ls hP hS hl ho1 (tn_okL.cons trivial ho2.tl.tl) hg hn
  show W p l e R s m args below meth c H locs ca sl Q (F0 m pc ls (.int i :: va_rf (tn_gr g x) :: st.map (tn_v g)))
  rw [tn_gr2 (by omega)]
  exact va_iald hx hb hK.1 hP.1 (x - 2) 0 he rfl hin hd h1
theorem tn_ast (hΓ : tn_is Γ z) {x n : Nat} {i y : Int32} (hd : decode z.2.1 pc = .ok (.iastore, 1)) (hk : tn_kd ks x = some (7, n)) (hin : vp_in i n) (kk : tn_A Γ (pc + 1) loc (st) ca sl ks ρ (tn_u σ x i.toNatClampNeg y)) : tn_A Γ (pc) loc (.int y :: .int i :: .ref x :: st) ca sl ks ρ σ := by
  obtain ⟨⟨p, l, e, R, s, m, args, below, meth, c, Q⟩, D, cA, A, H0, g0, n0⟩ := Γ
  obtain ⟨hx, hb, hml, hown, hts, hK, hR, hrt, hlk, hnm, hA⟩ := hΓ
  intro g H locs ls hP hS hl ho1 ho2 hg hn
  have he := tn_at (cA := cA) (g := g) (ρ := ρ) (σ := σ) hk
  have he : (tn_C cA g ks ρ σ)[x - 2]? = some (g x, .inl (cA 0, n, .inl (σ x))) := by rw [he]; simp [tn_e]
  have hx2 := (tn_kd2 hk).1
  have hset := tn_C_setA (cA := cA) (g := g) (ρ := ρ) (σ := σ) (f := upd (σ x) i.toNatClampNeg y) hk
  rw [tn_u_f] at hset
  show W p l e R s m args below meth c H locs ca sl Q (F0 m pc ls (.int y :: .int i :: va_rf (tn_gr g x) :: st.map (tn_v g)))
  rw [tn_gr2 (by omega)]
  refine va_iast hx hb hK.1 hP.1 hP.2.1 hS (x - 2) 0 he rfl hin hd (fun H1 locs1 h1 h2 h3 => ?_)
  rw [hset] at h1 h2
  exact kk g H1 locs1 ls ⟨h1, h2, hP.2.2⟩ h3 hl ho1 ho2.tl.tl.tl hg hn
theorem tn_aald (hΓ : tn_is Γ z) {x n t : Nat} {i : Int32} (hd : decode z.2.1 pc = .ok (.aaload, 1)) (ht : t < 3) (hk : tn_kd ks x = some (t + 8, n)) (hin : vp_in i n) (kk : tn_A Γ (pc + 1) loc (.ref (ρ x i.toNatClampNeg) :: st) ca sl ks ρ σ) : tn_A Γ (pc) loc (.int i :: .ref x :: st) ca sl ks ρ σ := by
  obtain ⟨⟨p, l, e, R, s, m, args, below, meth, c, Q⟩, D, cA, A, H0, g0, n0⟩ := Γ
  obtain ⟨hx, hb, hml, hown, hts, hK, hR, hrt, hlk, hnm, hA⟩ := hΓ
  intro g H locs ls hP hS hl ho1 ho2 hg hn
  have he := tn_at (cA := cA) (g := g) (ρ := ρ) (σ := σ) hk
  have he : (tn_C cA g ks ρ σ)[x - 2]? = some (g x, .inl (cA (t + 1), n, .inr (.inr (.inr (.inr (fun j => tn_gr g (ρ x j))))))) := by
    rw [he]
    unfold tn_e
    rw [if_neg (by omega), if_neg (by omega)]
    rfl
  have hx2 := (tn_kd2 hk).1
  have h1 := kk g H locs ls hP hS hl ho1 (tn_okL.cons (v := .ref (ρ x i.toNatClampNeg)) (hP.2.2 x _) ho2.tl.tl) hg hn
  show W p l e R s m args below meth c H locs ca sl Q (F0 m pc ls (.int i :: va_rf (tn_gr g x) :: st.map (tn_v g)))
  rw [tn_gr2 (by omega)]
  have h3 : t = 0 ∨ t = 1 ∨ t = 2 := by omega
  rcases h3 with rfl | rfl | rfl
  · exact va_aldq hx hb hK.1 hP.1 (x - 2) 1 he rfl hin hd h1
  · exact va_aldq hx hb hK.1 hP.1 (x - 2) 2 he rfl hin hd h1
  · exact va_aldq hx hb hK.1 hP.1 (x - 2) 3 he rfl hin hd h1
theorem tn_aast (hΓ : tn_is Γ z) {x n t y i0 n0' : Nat} {i : Int32} (hd : decode z.2.1 pc = .ok (.aastore, 1)) (ht : (t = 0 ∧ i0 = 0) ∨ (t = 1 ∧ i0 = 3) ∨ (t = 2 ∧ i0 = 2)) (hk : tn_kd ks x = some (t + 8, n)) (hin : vp_in i n) (hy : tn_kd ks y = some (i0, n0')) (kk : tn_A Γ (pc + 1) loc (st) ca sl ks (tn_ur ρ x i.toNatClampNeg y) σ) : tn_A Γ (pc) loc (.ref y :: .int i :: .ref x :: st) ca sl ks ρ σ := by
  obtain ⟨⟨p, l, e, R, s, m, args, below, meth, c, Q⟩, D, cA, A, H0, g0, n0⟩ := Γ
  obtain ⟨hx, hb, hml, hown, hts, hK, hR, hrt, hlk, hnm, hA⟩ := hΓ
  intro g H locs ls hP hS hl ho1 ho2 hg hn
  have he := tn_at (cA := cA) (g := g) (ρ := ρ) (σ := σ) hk
  have hi0 : i0 < 7 := by omega
  have he : (tn_C cA g ks ρ σ)[x - 2]? = some (g x, .inl (cA (t + 1), n, .inr (.inr (.inr (.inr (fun j => tn_gr g (ρ x j))))))) := by
    rw [he]
    unfold tn_e
    rw [if_neg (by omega), if_neg (by omega)]
    rfl
  have he2 := tn_at (cA := cA) (g := g) (ρ := ρ) (σ := σ) hy
  have he2 : (tn_C cA g ks ρ σ)[y - 2]? = some (g y, .inr (i0, tn_fs i0 g ρ σ y)) := by rw [he2]; simp [tn_e, hi0]
  have hx2 := (tn_kd2 hk).1
  have hy2 := (tn_kd2 hy).1
  have hyb := (tn_kd2 hy).2.2
  have hset := tn_C_setQ (cA := cA) (g := g) (ρ := ρ) (σ := σ) (k := i.toNatClampNeg) (x := y) hk (by omega)
  have fin : ∀ (H1 : Heap) (locs1 : List Loc), va_P D tn_cl ((tn_C cA g ks ρ σ).set (x - 2) (g x, .inl (cA (t + 1), n, .inr (.inr (.inr (.inr (va_up (fun j => tn_gr g (ρ x j)) i.toNatClampNeg (some (g y))))))))) H1 → va_D A ((tn_C cA g ks ρ σ).set (x - 2) (g x, .inl (cA (t + 1), n, .inr (.inr (.inr (.inr (va_up (fun j => tn_gr g (ρ x j)) i.toNatClampNeg (some (g y))))))))) → va_S A H0 H1 locs1 → W p l e R s m args below meth c H1 locs1 ca sl Q (F0 m (pc + 1) ls (st.map (tn_v g))) := by
    intro H1 locs1 h1 h2 h3
    rw [hset] at h1 h2
    refine kk g H1 locs1 ls ⟨h1, h2, fun c' k' => ?_⟩ h3 hl ho1 ho2.tl.tl.tl hg hn
    unfold tn_ur
    split
    · exact hyb
    · exact hP.2.2 c' k'
  show W p l e R s m args below meth c H locs ca sl Q (F0 m pc ls (va_rf (tn_gr g y) :: .int i :: va_rf (tn_gr g x) :: st.map (tn_v g)))
  rw [tn_gr2 (c := x) (by omega), tn_gr2 (c := y) (by omega)]
  rcases ht with ⟨rfl, rfl⟩ | ⟨rfl, rfl⟩ | ⟨rfl, rfl⟩
  · exact va_astq (r := ("ThunderOwned$House", tn_T0, 5)) hx hb hK.1 hP.1 hP.2.1 hS (x - 2) 1 (y - 2) 0 he rfl he2 rfl hin hd fin
  · exact va_astq (r := ("ThunderOwned$Stone", tn_T3, 2)) hx hb hK.1 hP.1 hP.2.1 hS (x - 2) 2 (y - 2) 3 he rfl he2 rfl hin hd fin
  · exact va_astq (r := ("ThunderOwned$Sheet", tn_T2, 4)) hx hb hK.1 hP.1 hP.2.1 hS (x - 2) 3 (y - 2) 2 he rfl he2 rfl hin hd fin
end TR
end
section
/-! ===== making cells, calls, returns ===== -/
section TC
variable {Γ : tn_G} {z : tn_M} {pc : Nat} {loc st : List Value} {ca sl : Nat} {ks : List (Nat × Nat)} {ρ : Nat → Nat → Nat} {σ : Nat → Nat → Int32}
theorem tn_ug_c {g : Nat → Nat} {n q : Nat} : ∀ c, c < n + 2 → tn_ug g (n + 2) q c = g c := fun c h => if_neg (by omega)
theorem tn_zr_c {ρ : Nat → Nat → Nat} {n m : Nat} (h : ∀ c k, ρ c k < n + 2) : ∀ c k, tn_zr ρ m c k < n + 1 + 2 := by
  intro c k
  unfold tn_zr
  split
  · omega
  · have := h c k
    omega
theorem tn_new (hΓ : tn_is Γ z) {idx i : Nat} {C : String} {T : u_T} (ty : Nat → FieldType) (hd : decode z.2.1 pc = .ok (.new idx, 3)) (hi : i < 7) (hc : tn_cl[i]? = some (C, T, tn_N i)) (hus : ∀ w ∈ u_ws C T (tn_N i), w ∈ tn_tbl) (hty : ∀ k, k < tn_N i → parseFieldDescriptor (T k).2.2.1 = some (ty k))
    (hcl : Cond.classLink z.1.cls idx C ∈ tn_tbl) (hins : Cond.instantiable C (tn_N i) ∈ tn_tbl) (hini : Cond.initialized C ∈ tn_tbl) (hdf : ∀ k, k < tn_N i → defaultValue (ty k) = if tn_isR i k = true then Value.null else .int 0) (hca : ca + 1 ≤ z.2.2.2.2.cells) (hsl : sl + tn_N i ≤ z.2.2.2.2.slots)
    (kk : tn_A Γ (pc + 3) loc (.ref (ks.length + 2) :: st) (ca + 1) (sl + tn_N i) (ks ++ [(i, 0)]) (tn_zr ρ (ks.length + 2)) (tn_zs σ (ks.length + 2))) : tn_A Γ pc loc st ca sl ks ρ σ := by
  obtain ⟨⟨p, l, e, R, s, m, args, below, meth, c, Q⟩, D, cA, A, H0, g0, n0⟩ := Γ
  obtain ⟨hx, hb, hml, hown, hts, hK, hR, hrt, hlk, hnm, hA⟩ := hΓ
  intro g H locs ls hP hS hl ho1 ho2 hg hn
  refine va_new (D := D) (ci := i) (fs := tn_fs i g (fun _ _ => 0) (fun _ _ => 0) 0) hx hb hts hus ty hty hown (hts _ hcl) (hts _ hins) (hts _ hini) hK.1 hP.1 hP.2.1 hS hA hc ?_ (by rw [hR]; exact hca) (by rw [hR]; exact hsl) hd (fun q H1 h1 h2 h3 => ?_)
  · intro j hj
    rw [hdf j hj]
    have h5 := tn_fsN (i := i) (g := g) (ρ := fun _ _ => 0) (σ := fun _ _ => 0) (c := 0) hj
    unfold vp_V
    rw [List.getD_eq_getElem?_getD, h5]
    cases tn_isR i j <;> rfl
  · have e1 := tn_C_new (cA := cA) (g := g) (σ := σ) (q := q) (kk := (i, 0)) hP.2.2
    have e2 : tn_e cA (tn_ug g (ks.length + 2) q) (fun _ _ => 0) (fun _ _ => 0) (ks.length + 2) (i, 0) = .inr (i, tn_fs i g (fun _ _ => 0) (fun _ _ => 0) 0) := by
      simp only [tn_e, hi, if_true]
      rw [tn_fs_congr (g' := g) (ρ' := fun _ _ => 0) (σ' := fun _ _ => 0) (c' := 0) (fun k => by simp [tn_gr]) (fun k => rfl)]
    rw [e2] at e1
    rw [← e1] at h1 h2
    have hug := tn_ug_c (g := g) (n := ks.length) (q := q)
    have h9 := kk (tn_ug g (ks.length + 2) q) H1 locs ls ⟨h1, h2, by rw [List.length_append]; exact tn_zr_c hP.2.2⟩ h3 (tn_L.congr hug ho1 hl) (ho1.mono (by simp)) (tn_okL.cons (v := .ref (ks.length + 2)) (show _ < _ by simp) (ho2.mono (by simp))) (fun x hx => by rw [hug x (by omega)]; exact hg x hx) (by simp; omega)
    have h10 : (Value.ref (ks.length + 2) :: st).map (tn_v (tn_ug g (ks.length + 2) q)) = .ref q :: st.map (tn_v g) := by
      rw [List.map_cons, tn_map_congr hug ho2]
      simp [tn_v, tn_gr, tn_ug, va_rf]
    rw [h10] at h9
    exact h9
theorem tn_newa (hΓ : tn_is Γ z) {n : Int32} {N : Nat} (hd : decode z.2.1 pc = .ok (.newarray .int, 2)) (ha : Cond.arrayClass .int ∈ tn_tbl) (hn0 : ¬ n < 0) (hN : n.toNatClampNeg = N) (hsm : N ≤ 1000) (hca : ca + 1 ≤ z.2.2.2.2.cells) (hsl : sl + N ≤ z.2.2.2.2.slots)
    (kk : tn_A Γ (pc + 2) loc (.ref (ks.length + 2) :: st) (ca + 1) (sl + N) (ks ++ [(7, N)]) (tn_zr ρ (ks.length + 2)) (tn_zs σ (ks.length + 2))) : tn_A Γ pc loc (.int n :: st) ca sl ks ρ σ := by
  obtain ⟨⟨p, l, e, R, s, m, args, below, meth, c, Q⟩, D, cA, A, H0, g0, n0⟩ := Γ
  obtain ⟨hx, hb, hml, hown, hts, hK, hR, hrt, hlk, hnm, hA⟩ := hΓ
  intro g H locs ls hP hS hl ho1 ho2 hg hn
  refine va_newa (D := D) (atype := .int) (a0 := (N, .inl (fun _ => 0))) hx hb (hts _ ha) rfl hK.1 hP.1 hP.2.1 hS hA (fun _ => rfl) hn0 hN (by show N * 4 ≤ _; omega) (by rw [hR]; exact hca) (by rw [hR]; exact hsl) hd (fun q cA' H1 h0 h1 h2 h3 => ?_)
  have hcc : cA' = cA 0 := by
    have q1 := (h0.2 4 (cA', .int) rfl).2
    have q2 := (h0.2 0 (cA 0, .int) rfl).2
    exact Option.some.inj (q1.symm.trans q2)
  subst hcc
  have e1 := tn_C_new (cA := cA) (g := g) (σ := σ) (q := q) (kk := (7, N)) hP.2.2
  have e2 : tn_e cA (tn_ug g (ks.length + 2) q) (fun _ _ => 0) (fun _ _ => 0) (ks.length + 2) (7, N) = .inl (cA 0, N, .inl (fun _ => 0)) := by simp [tn_e]
  rw [e2] at e1
  rw [← e1] at h1 h2
  have hug := tn_ug_c (g := g) (n := ks.length) (q := q)
  have h9 := kk (tn_ug g (ks.length + 2) q) H1 locs ls ⟨h1, h2, by rw [List.length_append]; exact tn_zr_c hP.2.2⟩ h3 (tn_L.congr hug ho1 hl) (ho1.mono (by simp)) (tn_okL.cons (v := .ref (ks.length + 2)) (show _ < _ by simp) (ho2.tl.mono (by simp))) (fun x hx => by rw [hug x (by omega)]; exact hg x hx) (by simp; omega)
  have h10 : (Value.ref (ks.length + 2) :: st).map (tn_v (tn_ug g (ks.length + 2) q)) = .ref q :: st.map (tn_v g) := by
    rw [List.map_cons, tn_map_congr hug ho2.tl]
    simp [tn_v, tn_gr, tn_ug, va_rf]
  rw [h10] at h9
  exact h9
theorem tn_anew (hΓ : tn_is Γ z) {n : Int32} {N t idx : Nat} {C : String} (hd : decode z.2.1 pc = .ok (.anewarray idx, 3)) (hcl : Cond.classLink z.1.cls idx C ∈ tn_tbl) (ht : (t = 0 ∧ C = "ThunderOwned$House") ∨ (t = 1 ∧ C = "ThunderOwned$Stone") ∨ (t = 2 ∧ C = "ThunderOwned$Sheet")) (hn0 : ¬ n < 0) (hN : n.toNatClampNeg = N) (hsm : N ≤ 1000) (hca : ca + 1 ≤ z.2.2.2.2.cells) (hsl : sl + N ≤ z.2.2.2.2.slots)
    (kk : tn_A Γ (pc + 3) loc (.ref (ks.length + 2) :: st) (ca + 1) (sl + N) (ks ++ [(t + 8, N)]) (tn_zr ρ (ks.length + 2)) (tn_zs σ (ks.length + 2))) : tn_A Γ pc loc (.int n :: st) ca sl ks ρ σ := by
  obtain ⟨⟨p, l, e, R, s, m, args, below, meth, c, Q⟩, D, cA, A, H0, g0, n0⟩ := Γ
  obtain ⟨hx, hb, hml, hown, hts, hK, hR, hrt, hlk, hnm, hA⟩ := hΓ
  intro g H locs ls hP hS hl ho1 ho2 hg hn
  have hAO : va_AO C s := by
    rcases ht with ⟨-, rfl⟩ | ⟨-, rfl⟩ | ⟨-, rfl⟩
    · exact hK.2.2.1
    · exact hK.2.2.2.1
    · exact hK.2.2.2.2
  refine va_newq (D := D) hx hb hown (hts _ hcl) hAO hK.1 hP.1 hP.2.1 hS hA hn0 hN (by omega) (by rw [hR]; exact hca) (by rw [hR]; exact hsl) hd (fun q cA' H1 h0 h1 h2 h3 => ?_)
  have hcc : cA' = cA (t + 1) := by
    rcases ht with ⟨rfl, rfl⟩ | ⟨rfl, rfl⟩ | ⟨rfl, rfl⟩
    · obtain ⟨_, _, _, _, _, q1⟩ := (h0.2 4 _ rfl).2
      obtain ⟨_, _, _, _, _, q2⟩ := (h0.2 1 _ rfl).2
      exact Option.some.inj (q1.symm.trans q2)
    · obtain ⟨_, _, _, _, _, q1⟩ := (h0.2 4 _ rfl).2
      obtain ⟨_, _, _, _, _, q2⟩ := (h0.2 2 _ rfl).2
      exact Option.some.inj (q1.symm.trans q2)
    · obtain ⟨_, _, _, _, _, q1⟩ := (h0.2 4 _ rfl).2
      obtain ⟨_, _, _, _, _, q2⟩ := (h0.2 3 _ rfl).2
      exact Option.some.inj (q1.symm.trans q2)
  subst hcc
  have e1 := tn_C_new (cA := cA) (g := g) (σ := σ) (q := q) (kk := (t + 8, N)) hP.2.2
  have e2 : tn_e cA (tn_ug g (ks.length + 2) q) (fun _ _ => 0) (fun _ _ => 0) (ks.length + 2) (t + 8, N) = .inl (cA (t + 1), N, .inr (.inr (.inr (.inr (fun _ => none))))) := by
    unfold tn_e
    rw [if_neg (by omega), if_neg (by omega)]
    rfl
  rw [e2] at e1
  rw [← e1] at h1 h2
  have hug := tn_ug_c (g := g) (n := ks.length) (q := q)
  have h9 := kk (tn_ug g (ks.length + 2) q) H1 locs ls ⟨h1, h2, by rw [List.length_append]; exact tn_zr_c hP.2.2⟩ h3 (tn_L.congr hug ho1 hl) (ho1.mono (by simp)) (tn_okL.cons (v := .ref (ks.length + 2)) (show _ < _ by simp) (ho2.tl.mono (by simp))) (fun x hx => by rw [hug x (by omega)]; exact hg x hx) (by simp; omega)
  have h10 : (Value.ref (ks.length + 2) :: st).map (tn_v (tn_ug g (ks.length + 2) q)) = .ref q :: st.map (tn_v g) := by
    rw [List.map_cons, tn_map_congr hug ho2.tl]
    simp [tn_v, tn_gr, tn_ug, va_rf]
  rw [h10] at h9
  exact h9
theorem tn_cats {st : List Value} {g : Nat → Nat} : ((st.map (tn_v g)).map fun v => v.category) = st.map fun v => v.category := by
  rw [List.map_map]
  apply List.map_congr_left
  intro v _
  cases v with
  | ref c => show (va_rf (tn_gr g c)).category = 1; cases tn_gr g c <;> rfl
  | _ => rfl
theorem tn_objInit (hΓ : tn_is Γ z) {idx x : Nat} (hd : decode z.2.1 pc = .ok (.invokespecial idx, 3)) (hlink : Cond.methodLink z.1.cls idx Lib.objectInit ∈ tn_tbl) (hinst : Cond.instanceMethod Lib.objectInit ∈ tn_tbl) (hcode : Cond.code Lib.objectInit ⟨#[0xb1]⟩ 1 none ∈ tn_tbl) (hx0 : 0 < x) (hfr : 1 ≤ z.2.2.2.2.frames) (hlo : (st.map fun v => v.category).sum + 12 ≤ z.2.2.2.2.locals)
    (kk : tn_A Γ (pc + 3) loc st ca sl ks ρ σ) : tn_A Γ pc loc (.ref x :: st) ca sl ks ρ σ := by
  obtain ⟨⟨p, l, e, R, s, m, args, below, meth, c, Q⟩, D, cA, A, H0, g0, n0⟩ := Γ
  obtain ⟨hx, hb, hml, hown, hts, hK, hR, hrt, hlk, hnm, hA⟩ := hΓ
  intro g H locs ls hP hS hl ho1 ho2 hg hn
  have h1 := kk g H locs ls hP hS hl ho1 ho2.tl hg hn
  show W p l e R s m args below meth c H locs ca sl Q (F0 m pc ls (va_rf (tn_gr g x) :: st.map (tn_v g)))
  rw [tn_gr2 hx0]
  refine W.objInit hx hb hown (hts _ hlink) (hts _ hinst) (hts _ hcode) rfl hl.1 rfl hd (by rw [hR]; exact hfr) ?_ h1
  show 2 * 0 + _ + 12 ≤ _
  rw [tn_cats, hR]
  omega
/-! calls -/
/-- what a callee's own words say; n: how many parameters -/
def tn_MV (y : tn_M) (n : Nat) : Prop := Cond.code y.1 y.2.1 y.2.2.1 y.2.2.2.1 ∈ tn_tbl ∧ Cond.initialized y.1.cls ∈ tn_tbl ∧ (y.1.cls ≠ "java/lang/invoke/MethodHandle" ∧ y.1.cls ≠ "java/lang/invoke/VarHandle" ∧ (parseMethodDescriptor y.1.desc).map (fun d => d.parameters.length) = some n) ∧ plainName y.1.cls = true
def tn_ML (own : String) (idx : Nat) (y : MethodName) : Prop := Cond.methodLink own idx y ∈ tn_tbl ∨ ∃ host, Cond.methodLinkNest own idx y host ∈ tn_nst
def tn_RM (z y : tn_M) (ca sl : Nat) : Prop := (y.2.2.2.2.frames + 1 ≤ z.2.2.2.2.frames ∧ 8 + (y.2.2.1 + 11) + y.2.2.2.2.locals ≤ z.2.2.2.2.locals) ∧ ca + y.2.2.2.2.cells ≤ z.2.2.2.2.cells ∧ sl + y.2.2.2.2.slots ≤ z.2.2.2.2.slots
theorem tn_gin (z : tn_M) {y : tn_M} {n : Nat} (hy : tn_MV y n) : GoodIn (tn_tbl) (tn_ws y) := by
  intro w hw
  have hw : w ∈ tn_tbl := by
    rcases List.mem_cons.mp hw with h | h
    · rw [h]; exact hy.1
    · exact h
  exact ⟨hw, good_of_word (List.mem_filter.mp hw).2⟩
theorem tn_blind {D : va_G} {cA : Nat → ClassId} {g : Nat → Nat} {sz : Nat} {As : List Value} : FrameBlind (va_Pc (As.map (tn_v g)) (fun U => U.heap.size = sz ∧ tn_P D cA (fun _ => True) g ks ρ σ U.heap ∧ tn_K D cA U)) :=
  fun a U g mk q => ⟨q.1, q.2.1, q.2.2.1, q.2.2.2.call⟩
theorem tn_P.any {D : va_G} {cA : Nat → ClassId} {A : Nat → Prop} {g : Nat → Nat} {H : Heap} (h : tn_P D cA A g ks ρ σ H) : tn_P D cA (fun _ => True) g ks ρ σ H := ⟨h.1, h.2.1.weaken (fun _ _ _ _ => trivial), h.2.2⟩
/-- behind a call -/
theorem tn_after {p : Program} {l : Launch} {e : Env} {R : Room} {s : State} {m : MethodId} {args : Array Value} {below : List Frame} {meth : Method} {c : Code} {Q : State → Prop} {D : va_G} {cA : Nat → ClassId} {A : Nat → Prop} {H0 : Heap} {g0 : Nat → Nat} {n0 : Nat} {mc ms : Nat} {g : Nat → Nat} {H : Heap} {locs : List Loc} {ls : Array Slot} {st0 : List Value} {a : Array Value}
    {K : Option Value → List (Nat × Nat) → (Nat → Nat → Nat) → (Nat → Nat → Int32) → Prop} (hA : ∀ q, H0.size ≤ q → A q) (hP : tn_P D cA A g ks ρ σ H) (hS : va_S A H0 H locs) (hl : tn_L g loc ls c.maxLocals) (ho1 : tn_okL ks.length loc) (ho2 : tn_okL ks.length st) (hg : ∀ q, q < n0 + 2 → g q = g0 q) (hn : n0 ≤ ks.length)
    (hr : va_Run p l e R s m args below meth c H locs ca sl mc ms (F0 m pc ls st0) (st.map (tn_v g)) (tn_Qc D cA (va_A (tn_C cA g ks ρ σ) H.size) g ks.length K a) (va_A (tn_C cA g ks ρ σ) H.size))
    (kk : ∀ (v : Option Value) (ks' : List (Nat × Nat)) (ρ' : Nat → Nat → Nat) (σ' : Nat → Nat → Int32), K v ks' ρ' σ' → tn_A ((p, l, e, R, s, m, args, below, meth, c, Q), D, cA, A, H0, g0, n0) (pc + 3) loc (v.toList ++ st) (ca + mc) (sl + ms) ks' ρ' σ') :
    W p l e R s m args below meth c H locs ca sl Q (F0 m pc ls st0) := by
  have hF : ∀ q, va_A (tn_C cA g ks ρ σ) H.size q → A q := by
    intro q h
    rcases h with ⟨k, x, h⟩ | h
    · exact hP.2.1.2 k _ h
    · exact hA q (Nat.le_trans hS.1 h)
  intro T hT X
  obtain ⟨v, st₀, t, T', L, h0, X', hL, e1, e2, ⟨⟨v', g', ks', ρ', σ', hv, hnr, hq, hg', hn', hP'⟩, hz, hk⟩, stp⟩ := hr T hT X
  cases hv
  rw [h0] at hz hk
  have hS' : va_S A H0 T'.heap (locs ++ L) := ⟨Nat.le_trans hS.1 (by rw [e1]; exact hz), fun q h1 h2 => by rw [e1, hk q (Nat.lt_of_lt_of_le h1 hS.1) (fun z => h2 (hF q z))]; exact hS.2.1 q h1 h2, fun q hq => by
      rcases List.mem_append.mp hq with h | h
      · exact hS.2.2 q h
      · exact hF _ (hL q h)⟩
  have hP2 : tn_P D cA A g' ks' ρ' σ' T'.heap := by
    rw [e1]
    exact ⟨hP'.1, hP'.2.1.weaken (fun _ _ _ h => hF _ h), hP'.2.2⟩
  have hvok : tn_okL ks'.length (v.toList ++ st) := by
    intro w hw
    rcases List.mem_append.mp hw with h | h
    · cases v with
      | none => cases h
      | some u =>
        have : w = u := by simpa using h
        subst this
        cases w with
        | ref q => exact absurd rfl (hnr q)
        | _ => trivial
    · exact (ho2 w h).mono hn'
  have h9 := kk v ks' ρ' σ' hq g' T'.heap (locs ++ L) ls hP2 hS' (tn_L.congr hg' ho1 hl) (ho1.mono hn') hvok (fun q hq => by rw [hg' q (by omega)]; exact hg q hq) (Nat.le_trans hn hn')
  have h10 : (v.toList ++ st).map (tn_v g') = v.toList ++ st.map (tn_v g) := by
    rw [List.map_append, tn_map_congr hg' ho2]
    congr 1
    cases v with
    | none => rfl
    | some u =>
      cases u with
      | ref q => exact absurd rfl (hnr q)
      | _ => rfl
  rw [h10] at h9
  obtain ⟨t2, a1, b1⟩ := h9 T' rfl X'
  exact ⟨t2, stp t2 a1, b1⟩
variable {y : tn_M} {As : List Value} {K : Option Value → List (Nat × Nat) → (Nat → Nat → Nat) → (Nat → Nat → Int32) → Prop}
theorem tn_cB {R : Room} {s : State} {args : Array Value} {n idx : Nat} {own : String} (hts : ∀ w ∈ tn_tbl, w.before args s = true) (hR : R = z.2.2.2.2) (hy : tn_MV y n) (hl : Cond.methodLink own idx y.1 ∈ tn_tbl) (hrm : tn_RM z y ca sl) : CallB R s args own idx y.1 y.2.1 y.2.2.1 y.2.2.2.1 (tn_ws y) y.2.2.2.2 y.2.2.2.2.cells y.2.2.2.2.slots n :=
  callB_of n hts (tn_gin z hy) rfl rfl rfl (hts _ hy.2.1) (hts _ hl) hy.2.2.1 (by rw [hR]; exact hrm.1)
theorem tn_cN {R : Room} {s : State} {args : Array Value} {n idx : Nat} {own host : String} {D : va_G} {cA : Nat → ClassId} (hts : ∀ w ∈ tn_tbl, w.before args s = true) (hK : tn_K D cA s) (hR : R = z.2.2.2.2) (hy : tn_MV y n) (hl : Cond.methodLinkNest own idx y.1 host ∈ tn_nst) (hrm : tn_RM z y ca sl) : va_CN R s args own idx y.1 host y.2.1 y.2.2.1 y.2.2.2.1 (tn_ws y) y.2.2.2.2 y.2.2.2.2.cells y.2.2.2.2.slots n :=
  va_cnB n hts (tn_gin z hy) rfl rfl rfl (hK.2.1 _ hl) (hts _ hy.2.1) hy.2.2.1 (by rw [hR]; exact hrm.1)
theorem tn_rmf {R : Room} (hR : R = z.2.2.2.2) (hrm : tn_RM z y ca sl) : ca + y.2.2.2.2.cells ≤ R.cells ∧ sl + y.2.2.2.2.slots ≤ R.slots := by rw [hR]; exact hrm.2
theorem tn_W8 {m : MethodId} {ls : Array Slot} {g : Nat → Nat} {rest : List Value} (h : (st.map fun v => v.category).sum ≤ 8) : 2 * (F0 m pc ls rest).monitorRoom + ((st.map (tn_v g)).map fun v => v.category).sum ≤ 8 := by
  rw [tn_cats]
  show 2 * 0 + _ ≤ 8
  omega
/-- invokevirtual -/
theorem tn_cv (hΓ : tn_is Γ z) {idx n x i n' : Nat} (hd : decode z.2.1 pc = .ok (.invokevirtual idx, 3)) (hy : tn_MV y n) (hin : Cond.instanceMethod y.1 ∈ tn_tbl) (hse : Cond.selects y.1.cls y.1 y.1 ∈ tn_tbl) (hlk0 : tn_ML z.1.cls idx y.1) (hrm : tn_RM z y ca sl) (hlen : As.length = n) (hi7 : i < 7) (hci : ∃ T, tn_cl[i]? = some (y.1.cls, T, tn_N i)) (hk : tn_kd ks x = some (i, n')) (h8 : (st.map fun v => v.category).sum ≤ 8)
    (h : tn_Call y (.ref x :: As) ks ρ σ K) (kk : ∀ (v : Option Value) (ks' : List (Nat × Nat)) (ρ' : Nat → Nat → Nat) (σ' : Nat → Nat → Int32), K v ks' ρ' σ' → tn_A Γ (pc + 3) loc (v.toList ++ st) (ca + y.2.2.2.2.cells) (sl + y.2.2.2.2.slots) ks' ρ' σ') : tn_A Γ pc loc (As.reverse ++ .ref x :: st) ca sl ks ρ σ := by
  obtain ⟨⟨p, l, e, R, s, m, args, below, meth, c, Q⟩, D, cA, A, H0, g0, n0⟩ := Γ
  obtain ⟨hx, hb, hml, hown, hts, hK, hR, hrt, hlk, hnm, hA⟩ := hΓ
  intro g H locs ls hP hS hl ho1 ho2 hg hn
  obtain ⟨T, hci⟩ := hci
  have hx2 := (tn_kd2 hk).1
  have he := tn_at (cA := cA) (g := g) (ρ := ρ) (σ := σ) hk
  have he : (tn_C cA g ks ρ σ)[x - 2]? = some (g x, .inr (i, tn_fs i g ρ σ x)) := by rw [he]; simp [tn_e, hi7]
  have hoA : tn_okL ks.length (.ref x :: As) := by
    intro w hw
    rcases List.mem_cons.mp hw with h1 | h1
    · exact ho2 w (by simp [h1])
    · exact ho2 w (by simp [h1])
  have hoS : tn_okL ks.length st := fun w hw => ho2 w (by simp [hw])
  have hM := h l D cA g H.size hoA
  have hav : (Value.ref x :: As).map (tn_v g) = .ref (g x) :: As.map (tn_v g) := by
    rw [List.map_cons]
    show va_rf (tn_gr g x) :: _ = _
    rw [tn_gr2 (by omega)]
    rfl
  have hstk : (As.reverse ++ .ref x :: st).map (tn_v g) = (As.map (tn_v g)).reverse ++ .ref (g x) :: st.map (tn_v g) := by
    rw [List.map_append, List.map_reverse, List.map_cons]
    show _ ++ va_rf (tn_gr g x) :: _ = _
    rw [tn_gr2 (by omega)]
    rfl
  have hpre : PreV s H y.1.cls (g x) (va_Pc ((Value.ref x :: As).map (tn_v g)) (fun U => U.heap.size = H.size ∧ tn_P D cA (fun _ => True) g ks ρ σ U.heap ∧ tn_K D cA U)) (As.map (tn_v g)) :=
    ⟨tn_blind, va_recv hK.1 hP.1 hci he, fun U hU hW => ⟨by rw [hav], by rw [hU], by rw [hU]; exact hP.any, hK.warm hW⟩⟩
  rcases hlk0 with h1 | ⟨host, h1⟩
  · have hrun := va_runV (e := e) (R := R) (below := below) (meth := meth) (locs := locs) (cells := ca) (slots := sl) (g := F0 m pc ls ((As.reverse ++ .ref x :: st).map (tn_v g))) (rest := st.map (tn_v g)) ⟨hx, hb, hml, hown, hts⟩ hM ⟨tn_cB hts hR hy h1 hrm, hts _ hin, hts _ hse⟩ hpre rfl (by simp [hlen]) (hl.1.trans hml) hstk (tn_W8 h8) hd (tn_rmf hR hrm)
    exact tn_after hA hP hS hl ho1 hoS hg hn hrun kk
  · have hrun := va_runVN (e := e) (R := R) (below := below) (meth := meth) (locs := locs) (cells := ca) (slots := sl) (g := F0 m pc ls ((As.reverse ++ .ref x :: st).map (tn_v g))) (rest := st.map (tn_v g)) ⟨hx, hb, hml, hown, hts⟩ hM ⟨tn_cN hts hK hR hy h1 hrm, hts _ hin, hts _ hse⟩ hpre rfl (by simp [hlen]) (hl.1.trans hml) hstk (tn_W8 h8) hd (tn_rmf hR hrm)
    exact tn_after hA hP hS hl ho1 hoS hg hn hrun kk
/-- invokestatic -/
theorem tn_cs (hΓ : tn_is Γ z) {idx n : Nat} (hd : decode z.2.1 pc = .ok (.invokestatic idx, 3)) (hy : tn_MV y n) (hst : Cond.static y.1 ∈ tn_tbl) (hlk0 : tn_ML z.1.cls idx y.1) (hrm : tn_RM z y ca sl) (hlen : As.length = n) (h8 : (st.map fun v => v.category).sum ≤ 8)
    (h : tn_Call y As ks ρ σ K) (kk : ∀ (v : Option Value) (ks' : List (Nat × Nat)) (ρ' : Nat → Nat → Nat) (σ' : Nat → Nat → Int32), K v ks' ρ' σ' → tn_A Γ (pc + 3) loc (v.toList ++ st) (ca + y.2.2.2.2.cells) (sl + y.2.2.2.2.slots) ks' ρ' σ') : tn_A Γ pc loc (As.reverse ++ st) ca sl ks ρ σ := by
  obtain ⟨⟨p, l, e, R, s, m, args, below, meth, c, Q⟩, D, cA, A, H0, g0, n0⟩ := Γ
  obtain ⟨hx, hb, hml, hown, hts, hK, hR, hrt, hlk, hnm, hA⟩ := hΓ
  intro g H locs ls hP hS hl ho1 ho2 hg hn
  have hoA : tn_okL ks.length As := fun w hw => ho2 w (by simp [hw])
  have hoS : tn_okL ks.length st := fun w hw => ho2 w (by simp [hw])
  have hM := h l D cA g H.size hoA
  have hstk : (As.reverse ++ st).map (tn_v g) = (As.map (tn_v g)).reverse ++ st.map (tn_v g) := by
    rw [List.map_append, List.map_reverse]
  have hpre : PreS s H (va_Pc (As.map (tn_v g)) (fun U => U.heap.size = H.size ∧ tn_P D cA (fun _ => True) g ks ρ σ U.heap ∧ tn_K D cA U)) (As.map (tn_v g)) :=
    ⟨tn_blind, fun U hU hW => ⟨rfl, by rw [hU], by rw [hU]; exact hP.any, hK.warm hW⟩⟩
  rcases hlk0 with h1 | ⟨host, h1⟩
  · have hrun := va_runS (e := e) (R := R) (below := below) (meth := meth) (locs := locs) (cells := ca) (slots := sl) (g := F0 m pc ls ((As.reverse ++ st).map (tn_v g))) (rest := st.map (tn_v g)) ⟨hx, hb, hml, hown, hts⟩ hM ⟨tn_cB hts hR hy h1 hrm, hts _ hst⟩ hpre rfl (by simp [hlen]) (hl.1.trans hml) hstk (tn_W8 h8) hd (tn_rmf hR hrm)
    exact tn_after hA hP hS hl ho1 hoS hg hn hrun kk
  · have hrun := va_runSN (e := e) (R := R) (below := below) (meth := meth) (locs := locs) (cells := ca) (slots := sl) (g := F0 m pc ls ((As.reverse ++ st).map (tn_v g))) (rest := st.map (tn_v g)) ⟨hx, hb, hml, hown, hts⟩ hM ⟨tn_cN hts hK hR hy h1 hrm, hts _ hst, trivial⟩ hpre rfl (by simp [hlen]) (hl.1.trans hml) hstk (tn_W8 h8) hd (tn_rmf hR hrm)
    exact tn_after hA hP hS hl ho1 hoS hg hn hrun kk
/-- invokespecial of a constructor -/
theorem tn_ci (hΓ : tn_is Γ z) {idx n x : Nat} (hd : decode z.2.1 pc = .ok (.invokespecial idx, 3)) (hy : tn_MV y n) (hin : Cond.instanceMethod y.1 ∈ tn_tbl) (hnm0 : y.1.name = "<init>") (hret : y.2.2.2.1 = none) (hlk0 : tn_ML z.1.cls idx y.1) (hrm : tn_RM z y ca sl) (hlen : As.length = n) (hx0 : 0 < x) (h8 : (st.map fun v => v.category).sum ≤ 8)
    (h : tn_Call y (.ref x :: As) ks ρ σ K) (kk : ∀ (v : Option Value) (ks' : List (Nat × Nat)) (ρ' : Nat → Nat → Nat) (σ' : Nat → Nat → Int32), K v ks' ρ' σ' → tn_A Γ (pc + 3) loc (v.toList ++ st) (ca + y.2.2.2.2.cells) (sl + y.2.2.2.2.slots) ks' ρ' σ') : tn_A Γ pc loc (As.reverse ++ .ref x :: st) ca sl ks ρ σ := by
  obtain ⟨⟨p, l, e, R, s, m, args, below, meth, c, Q⟩, D, cA, A, H0, g0, n0⟩ := Γ
  obtain ⟨hx, hb, hml, hown, hts, hK, hR, hrt, hlk, hnm, hA⟩ := hΓ
  intro g H locs ls hP hS hl ho1 ho2 hg hn
  have hoA : tn_okL ks.length (.ref x :: As) := by
    intro w hw
    rcases List.mem_cons.mp hw with h1 | h1
    · exact ho2 w (by simp [h1])
    · exact ho2 w (by simp [h1])
  have hoS : tn_okL ks.length st := fun w hw => ho2 w (by simp [hw])
  have hM := h l D cA g H.size hoA
  have hav : (Value.ref x :: As).map (tn_v g) = .ref (g x) :: As.map (tn_v g) := by
    rw [List.map_cons]
    show va_rf (tn_gr g x) :: _ = _
    rw [tn_gr2 hx0]
    rfl
  have hstk : (As.reverse ++ .ref x :: st).map (tn_v g) = (As.map (tn_v g)).reverse ++ .ref (g x) :: st.map (tn_v g) := by
    rw [List.map_append, List.map_reverse, List.map_cons]
    show _ ++ va_rf (tn_gr g x) :: _ = _
    rw [tn_gr2 hx0]
    rfl
  have hpre : PreS s H (va_Pc ((Value.ref x :: As).map (tn_v g)) (fun U => U.heap.size = H.size ∧ tn_P D cA (fun _ => True) g ks ρ σ U.heap ∧ tn_K D cA U)) (.ref (g x) :: As.map (tn_v g)) :=
    ⟨tn_blind, fun U hU hW => ⟨by rw [hav], by rw [hU], by rw [hU]; exact hP.any, hK.warm hW⟩⟩
  rcases hlk0 with h1 | ⟨host, h1⟩
  · have hB := tn_cB (ca := ca) (sl := sl) hts hR hy h1 hrm
    rw [hret] at hB
    have hrun := va_runI (e := e) (R := R) (below := below) (meth := meth) (locs := locs) (cells := ca) (slots := sl) (g := F0 m pc ls ((As.reverse ++ .ref x :: st).map (tn_v g))) (rest := st.map (tn_v g)) ⟨hx, hb, hml, hown, hts⟩ hM ⟨hB, hnm0, hts _ hin⟩ hpre rfl (by simp [hlen]) (hl.1.trans hml) hstk (tn_W8 h8) hd (tn_rmf hR hrm)
    exact tn_after hA hP hS hl ho1 hoS hg hn hrun kk
  · have hB := tn_cN (ca := ca) (sl := sl) hts hK hR hy h1 hrm
    rw [hret] at hB
    have hrun := va_runIN (e := e) (R := R) (below := below) (meth := meth) (locs := locs) (cells := ca) (slots := sl) (g := F0 m pc ls ((As.reverse ++ .ref x :: st).map (tn_v g))) (rest := st.map (tn_v g)) ⟨hx, hb, hml, hown, hts⟩ hM ⟨hB, hnm0, hts _ hin⟩ hpre rfl (by simp [hlen]) (hl.1.trans hml) hstk (tn_W8 h8) hd (tn_rmf hR hrm)
    exact tn_after hA hP hS hl ho1 hoS hg hn hrun kk
/-! returns -/
theorem tn_ret_i (hΓ : tn_is Γ z) (hK : tn_rt Γ z K) {x : Int32} (hd : decode z.2.1 pc = .ok (.ireturn, 1)) (hr : z.2.2.2.1 = some .int) (h1 : ca ≤ z.2.2.2.2.cells) (h2 : sl ≤ z.2.2.2.2.slots) (h : K (some (.int x)) ks ρ σ) : tn_A Γ pc loc [.int x] ca sl ks ρ σ := by
  obtain ⟨⟨p, l, e, R, s, m, args, below, meth, c, Q⟩, D, cA, A, H0, g0, n0⟩ := Γ
  obtain ⟨hx, hb, hml, hown, hts, hKK, hR, hrt, hlk, hnm, hA⟩ := hΓ
  obtain ⟨hH, hQ⟩ := hK
  subst hQ
  subst hH
  intro g H locs ls hP hS hl ho1 ho2 hg hn
  refine W.widen h1 h2 ?_
  exact W.iret hx hb (hrt.trans hr) (fun t ht hW => ⟨⟨some (.int x), g, ks, ρ, σ, rfl, (fun c q => by cases q), h, hg, hn, by rw [ht]; exact hP⟩, hS.F ht⟩) hS.2.2 hd
theorem tn_ret_z (hΓ : tn_is Γ z) (hK : tn_rt Γ z K) {x : Int32} (hd : decode z.2.1 pc = .ok (.ireturn, 1)) (hr : z.2.2.2.1 = some .boolean) (h1 : ca ≤ z.2.2.2.2.cells) (h2 : sl ≤ z.2.2.2.2.slots) (hx01 : x = 0 ∨ x = 1) (h : K (some (.int x)) ks ρ σ) : tn_A Γ pc loc [.int x] ca sl ks ρ σ := by
  obtain ⟨⟨p, l, e, R, s, m, args, below, meth, c, Q⟩, D, cA, A, H0, g0, n0⟩ := Γ
  obtain ⟨hx, hb, hml, hown, hts, hKK, hR, hrt, hlk, hnm, hA⟩ := hΓ
  obtain ⟨hH, hQ⟩ := hK
  subst hQ
  subst hH
  intro g H locs ls hP hS hl ho1 ho2 hg hn
  refine W.widen h1 h2 ?_
  exact W.zret hx hb (hrt.trans hr) (by rcases hx01 with rfl | rfl <;> rfl) (fun t ht hW => ⟨⟨some (.int x), g, ks, ρ, σ, rfl, (fun c q => by cases q), h, hg, hn, by rw [ht]; exact hP⟩, hS.F ht⟩) hS.2.2 hd
theorem tn_ret_l (hΓ : tn_is Γ z) (hK : tn_rt Γ z K) {x : Int64} (hd : decode z.2.1 pc = .ok (.lreturn, 1)) (hr : z.2.2.2.1 = some .long) (h1 : ca ≤ z.2.2.2.2.cells) (h2 : sl ≤ z.2.2.2.2.slots) (h : K (some (.long x)) ks ρ σ) : tn_A Γ pc loc [.long x] ca sl ks ρ σ := by
  obtain ⟨⟨p, l, e, R, s, m, args, below, meth, c, Q⟩, D, cA, A, H0, g0, n0⟩ := Γ
  obtain ⟨hx, hb, hml, hown, hts, hKK, hR, hrt, hlk, hnm, hA⟩ := hΓ
  obtain ⟨hH, hQ⟩ := hK
  subst hQ
  subst hH
  intro g H locs ls hP hS hl ho1 ho2 hg hn
  refine W.widen h1 h2 ?_
  exact W.lret hx hb (hrt.trans hr) (fun t ht hW => ⟨⟨some (.long x), g, ks, ρ, σ, rfl, (fun c q => by cases q), h, hg, hn, by rw [ht]; exact hP⟩, hS.F ht⟩) hS.2.2 hd
theorem tn_ret_v (hΓ : tn_is Γ z) (hK : tn_rt Γ z K) (hd : decode z.2.1 pc = .ok (.return_, 1)) (hr : z.2.2.2.1 = none) (h1 : ca ≤ z.2.2.2.2.cells) (h2 : sl ≤ z.2.2.2.2.slots) (h : K none ks ρ σ) : tn_A Γ pc loc [] ca sl ks ρ σ := by
  obtain ⟨⟨p, l, e, R, s, m, args, below, meth, c, Q⟩, D, cA, A, H0, g0, n0⟩ := Γ
  obtain ⟨hx, hb, hml, hown, hts, hKK, hR, hrt, hlk, hnm, hA⟩ := hΓ
  obtain ⟨hH, hQ⟩ := hK
  subst hQ
  subst hH
  intro g H locs ls hP hS hl ho1 ho2 hg hn
  refine W.widen h1 h2 ?_
  exact W.vret hx hb (hrt.trans hr) (fun t ht hW => ⟨⟨none, g, ks, ρ, σ, rfl, (fun c q => by cases q), h, hg, hn, by rw [ht]; exact hP⟩, hS.F ht⟩) hS.2.2 hd
/-! a contract out of a walk -/
def tn_ini (As : List Value) (nL : Nat) : List Value := let l := As.flatMap (fun v => if v.category = 2 then [v, .null] else [v]); l ++ List.replicate (nL - l.length) .null
theorem tn_v_cat {g : Nat → Nat} {v : Value} : (tn_v g v).category = v.category := by
  cases v with
  | ref c => show (va_rf (tn_gr g c)).category = 1; cases tn_gr g c <;> rfl
  | _ => rfl
theorem tn_ini_mem {g : Nat → Nat} : ∀ (As : List Value) (i j : Nat) (v : Value), (As.flatMap (fun v => if v.category = 2 then [v, .null] else [v]))[i]? = some v → v ≠ .null → (i + j, tn_v g v) ∈ lv_args j (As.map (tn_v g))
  | [], i, j, v, h, hn => by simp at h
  | a :: As, i, j, v, h, hn => by
    rw [List.map_cons, lv_args, tn_v_cat]
    by_cases hc : a.category = 2
    · rw [if_pos hc]
      rw [List.flatMap_cons, if_pos hc] at h
      match i, h with
      | 0, h =>
        have : a = v := by simpa using h
        subst this
        rw [Nat.zero_add]
        exact List.mem_cons_self
      | 1, h =>
        have : Value.null = v := by simpa using h
        exact absurd this.symm hn
      | i + 2, h =>
        have h1 : (As.flatMap (fun v => if v.category = 2 then [v, Value.null] else [v]))[i]? = some v := by simpa using h
        have h2 := tn_ini_mem (g := g) As i (j + 2) v h1 hn
        rw [show i + 2 + j = i + (j + 2) by omega]
        exact List.mem_cons_of_mem _ h2
    · rw [if_neg hc]
      rw [List.flatMap_cons, if_neg hc] at h
      match i, h with
      | 0, h =>
        have : a = v := by simpa using h
        subst this
        rw [Nat.zero_add]
        exact List.mem_cons_self
      | i + 1, h =>
        have h1 : (As.flatMap (fun v => if v.category = 2 then [v, Value.null] else [v]))[i]? = some v := by simpa using h
        have h2 := tn_ini_mem (g := g) As i (j + 1) v h1 hn
        rw [show i + 1 + j = i + (j + 1) by omega]
        exact List.mem_cons_of_mem _ h2
theorem tn_sl_len {g : Nat → Nat} : ∀ As : List Value, (lg_sl (As.map (tn_v g))).length = (As.flatMap (fun v => if v.category = 2 then [v, .null] else [v])).length
  | [] => rfl
  | a :: As => by
    have ih := tn_sl_len (g := g) As
    unfold lg_sl at ih ⊢
    rw [List.map_cons, List.flatMap_cons, List.flatMap_cons, List.length_append, List.length_append, ih, tn_v_cat]
    congr 1
    split <;> rfl
theorem tn_intro (hpl : plainName z.1.cls = true) (hlen : (As.flatMap (fun v => if v.category = 2 then [v, .null] else [v])).length ≤ z.2.2.1) (body : ∀ Γ : tn_G, tn_is Γ z → tn_rt Γ z K → tn_A Γ 0 (tn_ini As z.2.2.1) [] 0 0 ks ρ σ) : tn_Call z As ks ρ σ K := by
  intro l D cA g sz hoA
  refine Met.ofW (cc := z.2.1) (maxL := z.2.2.1) (ret := z.2.2.2.1) hpl rfl ?_
  intro p e s m args below meth c s₁ B hml hv
  obtain ⟨rfl, hsz, hP, hKK⟩ := hv
  have hts := atoms_spec (ws := tn_ws z) B.pre
  subst hsz
  have hD := hP.2.1.self (sz := s.heap.size)
  have hb := body ((p, l, e, z.2.2.2.2, s, m, (As.map (tn_v g)).toArray, below, meth, c, MQ below (tn_Qc D cA (va_A (tn_C cA g ks ρ σ) s.heap.size) g ks.length K) (As.map (tn_v g)).toArray s z.2.2.2.2.cells z.2.2.2.2.slots (va_A (tn_C cA g ks ρ σ) s.heap.size)), D, cA, va_A (tn_C cA g ks ρ σ) s.heap.size, s.heap, g, ks.length)
    ⟨B.exec, B.bytes, hml, findClass_of_methodNamed B.named, fun w hw => hts w (List.mem_cons_of_mem _ hw), hKK, rfl, B.returns, B.notSynchronized, (name_of_methodNamed B.named B.method).1, fun q h => Or.inr h⟩ ⟨rfl, rfl⟩
  rw [lg_entry_eq]
  have hle := tn_sl_len (g := g) As
  have hl := lv_entry (As.map (tn_v g)) (n := z.2.2.1) (by rw [hle]; exact hlen)
  refine hb g s.heap [] _ ⟨hP.1, hD, hP.2.2⟩ va_S.rf ?_ ?_ (fun v hv => by cases hv) (fun _ _ => rfl) (Nat.le_refl _)
  · rw [hml]
    refine ⟨hl.1, hl.2.1, fun i v hi hn => ?_⟩
    unfold tn_ini at hi
    simp only at hi
    by_cases hil : i < (As.flatMap (fun v => if v.category = 2 then [v, .null] else [v])).length
    · rw [List.getElem?_append_left hil] at hi
      exact hl.2.2 _ (tn_ini_mem As i 0 v hi hn)
    · rw [List.getElem?_append_right (by omega)] at hi
      exact absurd (List.eq_of_mem_replicate (List.mem_of_getElem? hi)) hn
  · intro v hv
    unfold tn_ini at hv
    simp only at hv
    rcases List.mem_append.mp hv with h | h
    · obtain ⟨w, hw, hv2⟩ := List.mem_flatMap.mp h
      split at hv2
      · rcases List.mem_cons.mp hv2 with h2 | h2
        · rw [h2]; exact hoA w hw
        · rw [List.mem_singleton.mp h2]; trivial
      · rw [List.mem_singleton.mp hv2]; exact hoA w hw
    · rw [List.eq_of_mem_replicate h]; trivial
end TC
end
section
/-! ===== more rules: arraycopy, the script, names for numbers and stores ===== -/
section TM
variable {Γ : tn_G} {z : tn_M} {pc : Nat} {loc st : List Value} {ca sl : Nat} {ks : List (Nat × Nat)} {ρ : Nat → Nat → Nat} {σ : Nat → Nat → Int32}
theorem tn_topi {x : Int32} (k : ∀ y : Int32, y = x → tn_A Γ pc loc (.int y :: st) ca sl ks ρ σ) : tn_A Γ pc loc (.int x :: st) ca sl ks ρ σ := k x rfl
theorem tn_topl {x : Int64} (k : ∀ y : Int64, y = x → tn_A Γ pc loc (.long y :: st) ca sl ks ρ σ) : tn_A Γ pc loc (.long x :: st) ca sl ks ρ σ := k x rfl
theorem tn_tops (k : ∀ τ : Nat → Nat → Int32, τ = σ → tn_A Γ pc loc st ca sl ks ρ τ) : tn_A Γ pc loc st ca sl ks ρ σ := k σ rfl
def tn_dr (loc : List Value) (mask : List Bool) : List Value := List.zipWith (fun v b => if b = true then v else .null) loc mask
theorem tn_drop (mask : List Bool) {loc' : List Value} (hl : tn_dr loc mask = loc') (k : tn_A Γ pc loc' st ca sl ks ρ σ) : tn_A Γ pc loc st ca sl ks ρ σ := by
  subst hl
  have key : ∀ (i : Nat) (v : Value), (tn_dr loc mask)[i]? = some v → v = .null ∨ loc[i]? = some v := by
    intro i v h
    unfold tn_dr at h
    rw [List.getElem?_zipWith] at h
    cases h1 : loc[i]? with
    | none => rw [h1] at h; simp at h
    | some a =>
      cases h2 : mask[i]? with
      | none => rw [h1, h2] at h; simp at h
      | some b =>
        rw [h1, h2] at h
        cases b with
        | false => left; simpa using h.symm
        | true => right; simpa using h
  obtain ⟨⟨p, l, e, R, s, m, args, below, meth, c, Q⟩, D, cA, A, H0, g0, n0⟩ := Γ
  intro g H locs ls hP hS hl ho1 ho2 hg hn
  refine k g H locs ls hP hS ⟨hl.1, hl.2.1, fun i v hi hne => ?_⟩ (fun v hv => ?_) ho2 hg hn
  · rcases key i v hi with h | h
    · exact absurd h hne
    · exact hl.2.2 i v h hne
  · obtain ⟨i, hi⟩ := List.getElem?_of_mem hv
    rcases key i v hi with h | h
    · rw [h]; trivial
    · exact ho1 v (List.mem_of_getElem? h)
theorem tn_iincw (hΓ : tn_is Γ z) {i : Nat} {n : Int} {x w : Int32} {loc' : Int32 → List Value} (hd : decode z.2.1 pc = .ok (.iinc i n, 3)) (hi : loc[i]? = some (.int x)) (hw : Int32.ofInt n = w) (hn' : i < z.2.2.1) (hp : tn_np loc i = true) (hl' : ∀ v, loc.set i (.int v) = loc' v) (k : ∀ v : Int32, v = x + w → tn_A Γ (pc + 3) (loc' v) st ca sl ks ρ σ) : tn_A Γ pc loc st ca sl ks ρ σ :=
  tn_iinc hΓ hd hi (by rw [hw]) hn' hp (hl' (x + w)) (k _ rfl)
theorem tn_getRy (hΓ : tn_is Γ z) {x idx i k n y : Nat} (hd : decode z.2.1 pc = .ok (.getfield idx, 3)) (hf : tn_FL z.1.cls idx i k) (hr : tn_isR i k = true) (hk : tn_kd ks x = some (i, n)) (hy : ρ x k = y) (kk : tn_A Γ (pc + 3) loc (.ref y :: st) ca sl ks ρ σ) : tn_A Γ pc loc (.ref x :: st) ca sl ks ρ σ := tn_getR hΓ hd hf hr hk (by rw [hy]; exact kk)
theorem tn_aaldy (hΓ : tn_is Γ z) {x n t y : Nat} {i : Int32} (hd : decode z.2.1 pc = .ok (.aaload, 1)) (ht : t < 3) (hk : tn_kd ks x = some (t + 8, n)) (hin : vp_in i n) (hy : ρ x i.toNatClampNeg = y) (kk : tn_A Γ (pc + 1) loc (.ref y :: st) ca sl ks ρ σ) : tn_A Γ pc loc (.int i :: .ref x :: st) ca sl ks ρ σ := tn_aald hΓ hd ht hk hin (by rw [hy]; exact kk)
def tn_cx (i : Nat) (C : String) : Prop := ∃ T, tn_cl[i]? = some (C, T, tn_N i)
/-- a call that makes nothing -/
def tn_Cr (y : tn_M) (As : List Value) (ks : List (Nat × Nat)) (ρ : Nat → Nat → Nat) (σ : Nat → Nat → Int32) (K : Option Value → (Nat → Nat → Int32) → Prop) : Prop := tn_Call y As ks ρ σ (fun v ks' ρ' σ' => ks' = ks ∧ ρ' = ρ ∧ K v σ')
def tn_CI (y : tn_M) (As : List Value) (ks : List (Nat × Nat)) (ρ : Nat → Nat → Nat) (σ : Nat → Nat → Int32) (K : Int32 → (Nat → Nat → Int32) → Prop) : Prop := tn_Cr y As ks ρ σ (fun v σ' => ∃ r, v = some (.int r) ∧ K r σ')
def tn_CL (y : tn_M) (As : List Value) (ks : List (Nat × Nat)) (ρ : Nat → Nat → Nat) (σ : Nat → Nat → Int32) (K : Int64 → (Nat → Nat → Int32) → Prop) : Prop := tn_Cr y As ks ρ σ (fun v σ' => ∃ r, v = some (.long r) ∧ K r σ')
def tn_CV (y : tn_M) (As : List Value) (ks : List (Nat × Nat)) (ρ : Nat → Nat → Nat) (σ : Nat → Nat → Int32) (K : (Nat → Nat → Int32) → Prop) : Prop := tn_Cr y As ks ρ σ (fun v σ' => v = none ∧ K σ')
variable {y : tn_M} {As : List Value}
theorem tn_cvI (hΓ : tn_is Γ z) {idx n x i n' : Nat} (hd : decode z.2.1 pc = .ok (.invokevirtual idx, 3)) (hy : tn_MV y n) (hin : Cond.instanceMethod y.1 ∈ tn_tbl) (hse : Cond.selects y.1.cls y.1 y.1 ∈ tn_tbl) (hlk0 : tn_ML z.1.cls idx y.1) (hrm : tn_RM z y ca sl) (hc0 : y.2.2.2.2.cells = 0) (hs0 : y.2.2.2.2.slots = 0) (hlen : As.length = n) (hi7 : i < 7) (hci : tn_cx i y.1.cls) (hk : tn_kd ks x = some (i, n')) (h8 : (st.map fun v => v.category).sum ≤ 8) {st0 : List Value} (hst0 : As.reverse ++ .ref x :: st = st0) {K : Int32 → (Nat → Nat → Int32) → Prop} (h : tn_CI y (.ref x :: As) ks ρ σ K) (kk : ∀ (r : Int32) (σ' : Nat → Nat → Int32), K r σ' → tn_A Γ (pc + 3) loc (.int r :: st) ca sl ks ρ σ') : tn_A Γ pc loc st0 ca sl ks ρ σ := by
  subst hst0
  refine tn_cv hΓ hd hy hin hse hlk0 hrm hlen hi7 hci hk h8 h (fun v ks' ρ' σ' hq => ?_)
  obtain ⟨rfl, rfl, r, rfl, hq⟩ := hq
  rw [hc0, hs0]
  exact kk r σ' hq
theorem tn_cvL (hΓ : tn_is Γ z) {idx n x i n' : Nat} (hd : decode z.2.1 pc = .ok (.invokevirtual idx, 3)) (hy : tn_MV y n) (hin : Cond.instanceMethod y.1 ∈ tn_tbl) (hse : Cond.selects y.1.cls y.1 y.1 ∈ tn_tbl) (hlk0 : tn_ML z.1.cls idx y.1) (hrm : tn_RM z y ca sl) (hc0 : y.2.2.2.2.cells = 0) (hs0 : y.2.2.2.2.slots = 0) (hlen : As.length = n) (hi7 : i < 7) (hci : tn_cx i y.1.cls) (hk : tn_kd ks x = some (i, n')) (h8 : (st.map fun v => v.category).sum ≤ 8) {st0 : List Value} (hst0 : As.reverse ++ .ref x :: st = st0) {K : Int64 → (Nat → Nat → Int32) → Prop} (h : tn_CL y (.ref x :: As) ks ρ σ K) (kk : ∀ (r : Int64) (σ' : Nat → Nat → Int32), K r σ' → tn_A Γ (pc + 3) loc (.long r :: st) ca sl ks ρ σ') : tn_A Γ pc loc st0 ca sl ks ρ σ := by
  subst hst0
  refine tn_cv hΓ hd hy hin hse hlk0 hrm hlen hi7 hci hk h8 h (fun v ks' ρ' σ' hq => ?_)
  obtain ⟨rfl, rfl, r, rfl, hq⟩ := hq
  rw [hc0, hs0]
  exact kk r σ' hq
theorem tn_cvV (hΓ : tn_is Γ z) {idx n x i n' : Nat} (hd : decode z.2.1 pc = .ok (.invokevirtual idx, 3)) (hy : tn_MV y n) (hin : Cond.instanceMethod y.1 ∈ tn_tbl) (hse : Cond.selects y.1.cls y.1 y.1 ∈ tn_tbl) (hlk0 : tn_ML z.1.cls idx y.1) (hrm : tn_RM z y ca sl) (hc0 : y.2.2.2.2.cells = 0) (hs0 : y.2.2.2.2.slots = 0) (hlen : As.length = n) (hi7 : i < 7) (hci : tn_cx i y.1.cls) (hk : tn_kd ks x = some (i, n')) (h8 : (st.map fun v => v.category).sum ≤ 8) {st0 : List Value} (hst0 : As.reverse ++ .ref x :: st = st0) {K : (Nat → Nat → Int32) → Prop} (h : tn_CV y (.ref x :: As) ks ρ σ K) (kk : ∀ (σ' : Nat → Nat → Int32), K σ' → tn_A Γ (pc + 3) loc st ca sl ks ρ σ') : tn_A Γ pc loc st0 ca sl ks ρ σ := by
  subst hst0
  refine tn_cv hΓ hd hy hin hse hlk0 hrm hlen hi7 hci hk h8 h (fun v ks' ρ' σ' hq => ?_)
  obtain ⟨rfl, rfl, rfl, hq⟩ := hq
  rw [hc0, hs0]
  exact kk σ' hq
theorem tn_csI (hΓ : tn_is Γ z) {idx n : Nat} (hd : decode z.2.1 pc = .ok (.invokestatic idx, 3)) (hy : tn_MV y n) (hst : Cond.static y.1 ∈ tn_tbl) (hlk0 : tn_ML z.1.cls idx y.1) (hrm : tn_RM z y ca sl) (hc0 : y.2.2.2.2.cells = 0) (hs0 : y.2.2.2.2.slots = 0) (hlen : As.length = n) (h8 : (st.map fun v => v.category).sum ≤ 8) {st0 : List Value} (hst0 : As.reverse ++ st = st0) {K : Int32 → (Nat → Nat → Int32) → Prop} (h : tn_CI y As ks ρ σ K) (kk : ∀ (r : Int32) (σ' : Nat → Nat → Int32), K r σ' → tn_A Γ (pc + 3) loc (.int r :: st) ca sl ks ρ σ') : tn_A Γ pc loc st0 ca sl ks ρ σ := by
  subst hst0
  refine tn_cs hΓ hd hy hst hlk0 hrm hlen h8 h (fun v ks' ρ' σ' hq => ?_)
  obtain ⟨rfl, rfl, r, rfl, hq⟩ := hq
  rw [hc0, hs0]
  exact kk r σ' hq
theorem tn_csL (hΓ : tn_is Γ z) {idx n : Nat} (hd : decode z.2.1 pc = .ok (.invokestatic idx, 3)) (hy : tn_MV y n) (hst : Cond.static y.1 ∈ tn_tbl) (hlk0 : tn_ML z.1.cls idx y.1) (hrm : tn_RM z y ca sl) (hc0 : y.2.2.2.2.cells = 0) (hs0 : y.2.2.2.2.slots = 0) (hlen : As.length = n) (h8 : (st.map fun v => v.category).sum ≤ 8) {st0 : List Value} (hst0 : As.reverse ++ st = st0) {K : Int64 → (Nat → Nat → Int32) → Prop} (h : tn_CL y As ks ρ σ K) (kk : ∀ (r : Int64) (σ' : Nat → Nat → Int32), K r σ' → tn_A Γ (pc + 3) loc (.long r :: st) ca sl ks ρ σ') : tn_A Γ pc loc st0 ca sl ks ρ σ := by
  subst hst0
  refine tn_cs hΓ hd hy hst hlk0 hrm hlen h8 h (fun v ks' ρ' σ' hq => ?_)
  obtain ⟨rfl, rfl, r, rfl, hq⟩ := hq
  rw [hc0, hs0]
  exact kk r σ' hq
/-- System.arraycopy of ints -/
theorem tn_acopy (hΓ : tn_is Γ z) {idx x y n0 n1 : Nat} {sp dp n : Int32} (hd : decode z.2.1 pc = .ok (.invokestatic idx, 3)) (hlink : Cond.methodLink z.1.cls idx arraycopyName ∈ tn_tbl) (hnat : Cond.native arraycopyName ∈ tn_tbl) (hstat : Cond.static arraycopyName ∈ tn_tbl) (hini : Cond.initialized "java/lang/System" ∈ tn_tbl) (hfr : 1 ≤ z.2.2.2.2.frames) (hlo : (st.map fun v => v.category).sum + (nativeFrameWords "java/lang/System" "arraycopy" 5 + 11) ≤ z.2.2.2.2.locals)
    (hkx : tn_kd ks x = some (7, n0)) (hky : tn_kd ks y = some (7, n1)) (h1 : ¬ sp < 0) (h2 : ¬ dp < 0) (h3 : ¬ n < 0) (h4 : sp.toNatClampNeg + n.toNatClampNeg ≤ n0) (h5 : dp.toNatClampNeg + n.toNatClampNeg ≤ n1)
    (kk : tn_A Γ (pc + 3) loc st ca sl ks ρ (fun c' => if c' = y then va_cpy (σ x) (σ y) sp.toNatClampNeg dp.toNatClampNeg n.toNatClampNeg else σ c')) : tn_A Γ pc loc (.int n :: .int dp :: .ref y :: .int sp :: .ref x :: st) ca sl ks ρ σ := by
  obtain ⟨⟨p, l, e, R, s, m, args, below, meth, c, Q⟩, D, cA, A, H0, g0, n0'⟩ := Γ
  obtain ⟨hx, hb, hml, hown, hts, hK, hR, hrt, hlk, hnm, hA⟩ := hΓ
  intro g H locs ls hP hS hl ho1 ho2 hg hn
  have hx2 := (tn_kd2 hkx).1
  have hy2 := (tn_kd2 hky).1
  have hex := tn_at (cA := cA) (g := g) (ρ := ρ) (σ := σ) hkx
  have hex : (tn_C cA g ks ρ σ)[x - 2]? = some (g x, .inl (cA 0, n0, .inl (σ x))) := by rw [hex]; simp [tn_e]
  have hey := tn_at (cA := cA) (g := g) (ρ := ρ) (σ := σ) hky
  have hey : (tn_C cA g ks ρ σ)[y - 2]? = some (g y, .inl (cA 0, n1, .inl (σ y))) := by rw [hey]; simp [tn_e]
  have hset := tn_C_setA (cA := cA) (g := g) (ρ := ρ) (σ := σ) (f := va_cpy (σ x) (σ y) sp.toNatClampNeg dp.toNatClampNeg n.toNatClampNeg) hky
  show W p l e R s m args below meth c H locs ca sl Q (F0 m pc ls (.int n :: .int dp :: va_rf (tn_gr g y) :: .int sp :: va_rf (tn_gr g x) :: st.map (tn_v g)))
  rw [tn_gr2 (c := x) (by omega), tn_gr2 (c := y) (by omega)]
  refine va_copyi (ty := .int) hx hb hl.1.symm hown (hts _ hlink) (hts _ hnat) (hts _ hstat) (hts _ hini) hK.1 hP.1 hP.2.1 hS (x - 2) (y - 2) 0 0 hex hey rfl rfl rfl h1 h2 h3 h4 h5 (fun i hi => rfl) (by rw [hR]; exact hfr) (by rw [tn_cats, hR]; exact hlo) hd (fun H1 locs1 q1 q2 q3 => ?_)
  rw [hset] at q1 q2
  exact kk g H1 locs1 ls ⟨q1, q2, hP.2.2⟩ q3 hl ho1 ho2.tl.tl.tl.tl.tl hg hn
/-- the law's own script, by the code 1 -/
def tn_sc (Γ : tn_G) (b L : Nat) (xs : Nat → Int32) : Prop := match Γ with
  | ⟨⟨_, _, _, _, s, _, _, _, _, _, _⟩, _, _, A, H0, g0, _⟩ => va_X b L xs s H0 ∧ b < H0.size ∧ ¬ A b ∧ g0 1 = b
theorem tn_sld (hΓ : tn_is Γ z) {b L : Nat} {xs : Nat → Int32} (hX : tn_sc Γ b L xs) {i : Int32} (hd : decode z.2.1 pc = .ok (.iaload, 1)) (hin : vp_in i L) (kk : tn_A Γ (pc + 1) loc (.int (xs i.toNatClampNeg) :: st) ca sl ks ρ σ) : tn_A Γ pc loc (.int i :: .ref 1 :: st) ca sl ks ρ σ := by
  obtain ⟨⟨p, l, e, R, s, m, args, below, meth, c, Q⟩, D, cA, A, H0, g0, n0⟩ := Γ
  obtain ⟨hx, hb, hml, hown, hts, hK, hR, hrt, hlk, hnm, hA⟩ := hΓ
  obtain ⟨hX, hbl, hbA, hg0⟩ := hX
  intro g H locs ls hP hS hl ho1 ho2 hg hn
  have h1 := kk g H locs ls hP hS hl ho1 (tn_okL.cons trivial ho2.tl.tl) hg hn
  have h2 : tn_gr g 1 = some b := by rw [tn_gr2 (by omega), hg 1 (by omega), hg0]
  show W p l e R s m args below meth c H locs ca sl Q (F0 m pc ls (.int i :: va_rf (tn_gr g 1) :: st.map (tn_v g)))
  rw [h2]
  exact va_sld hx hb hX hbl hbA hS hin hd h1
theorem tn_slen (hΓ : tn_is Γ z) {b L : Nat} {xs : Nat → Int32} (hX : tn_sc Γ b L xs) (hd : decode z.2.1 pc = .ok (.arraylength, 1)) (kk : tn_A Γ (pc + 1) loc (.int (nI L) :: st) ca sl ks ρ σ) : tn_A Γ pc loc (.ref 1 :: st) ca sl ks ρ σ := by
  obtain ⟨⟨p, l, e, R, s, m, args, below, meth, c, Q⟩, D, cA, A, H0, g0, n0⟩ := Γ
  obtain ⟨hx, hb, hml, hown, hts, hK, hR, hrt, hlk, hnm, hA⟩ := hΓ
  obtain ⟨hX, hbl, hbA, hg0⟩ := hX
  intro g H locs ls hP hS hl ho1 ho2 hg hn
  have h1 := kk g H locs ls hP hS hl ho1 (tn_okL.cons trivial ho2.tl) hg hn
  have h2 : tn_gr g 1 = some b := by rw [tn_gr2 (by omega), hg 1 (by omega), hg0]
  show W p l e R s m args below meth c H locs ca sl Q (F0 m pc ls (va_rf (tn_gr g 1) :: st.map (tn_v g)))
  rw [h2]
  exact va_slen hx hb hX hbl hbA hS hd h1
end TM
/-! ===== the cells of a run: the class's, the model's ===== -/
def tn_k0 : List (Nat × Nat) := [(5, 0), (1, 0), (8, 5), (9, 4), (0, 0), (0, 0), (0, 0), (0, 0), (0, 0), (3, 0), (3, 0), (3, 0), (3, 0), (1, 0), (8, 5), (9, 4), (0, 0), (0, 0), (0, 0), (0, 0), (0, 0), (3, 0), (3, 0), (3, 0), (3, 0), (10, 4), (7, 8), (7, 8), (7, 4), (2, 0), (7, 60), (2, 0), (7, 60), (2, 0), (7, 60), (2, 0), (7, 60),
  (6, 0), (7, 4), (7, 4), (7, 240), (7, 5), (7, 5), (7, 5), (7, 5), (7, 4), (7, 15), (7, 4), (7, 30), (7, 8), (7, 8), (7, 8)]
def tn_r00 : List (List Nat) := [[], [], [3, 15, 27, 28, 29, 30], [4, 5], [6, 7, 8, 9, 10], [11, 12, 13, 14], [], [], [], [], [], [], [], [], [], [16, 17], [18, 19, 20, 21, 22], [23, 24, 25, 26], [], [], [], [], [], [], [], [], [], [31, 33, 35, 37], [], [], [], [32], [], [34], [], [36], [], [38], [],
  [0, 0, 40, 41, 42, 0, 0, 0, 0, 0, 0, 0, 0, 43, 44, 45, 46, 47, 0, 0, 0, 0, 48, 49, 50, 51, 0, 52, 53]]
def tn_r0 (c k : Nat) : Nat := (tn_r00.getD c []).getD k 0
def tn_Gd (ks : List (Nat × Nat)) (ρ : Nat → Nat → Nat) : Prop := (∃ tl, ks = tn_k0 ++ tl) ∧ ∀ c, c < 54 → ∀ k, ρ c k = tn_r0 c k
theorem gd_k {ks : List (Nat × Nat)} {ρ : Nat → Nat → Nat} (h : tn_Gd ks ρ) {c : Nat} {kk : Nat × Nat} (hc : tn_kd tn_k0 c = some kk) : tn_kd ks c = some kk := by
  obtain ⟨⟨tl, rfl⟩, -⟩ := h
  obtain ⟨h1, h2, -⟩ := tn_kd2 hc
  unfold tn_kd
  rw [if_neg (by omega), List.getElem?_append_left (List.getElem?_eq_some_iff.mp h2).1]
  exact h2
theorem gd_r {ks : List (Nat × Nat)} {ρ : Nat → Nat → Nat} (h : tn_Gd ks ρ) (c k y : Nat) (h1 : Nat.blt c 54 = true) (h2 : tn_r0 c k = y) : ρ c k = y := by
  rw [h.2 c (Nat.le_of_ble_eq_true h1) k]
  exact h2
/-- a parish: now, or the trial -/
def tn_Pb (b : Nat) : Prop := b = 3 ∨ b = 15
theorem gp_k {ks : List (Nat × Nat)} {ρ : Nat → Nat → Nat} (h : tn_Gd ks ρ) {b : Nat} (hb : tn_Pb b) : tn_kd ks b = some (1, 0) := by
  rcases hb with rfl | rfl <;> exact gd_k h rfl
theorem gp_h {ks : List (Nat × Nat)} {ρ : Nat → Nat → Nat} (h : tn_Gd ks ρ) {b : Nat} (hb : tn_Pb b) : ρ b 0 = b + 1 := by
  rcases hb with rfl | rfl <;> exact gd_r h _ _ _ rfl rfl
theorem gp_s {ks : List (Nat × Nat)} {ρ : Nat → Nat → Nat} (h : tn_Gd ks ρ) {b : Nat} (hb : tn_Pb b) : ρ b 1 = b + 2 := by
  rcases hb with rfl | rfl <;> exact gd_r h _ _ _ rfl rfl
theorem gp_kh {ks : List (Nat × Nat)} {ρ : Nat → Nat → Nat} (h : tn_Gd ks ρ) {b : Nat} (hb : tn_Pb b) : tn_kd ks (b + 1) = some (0 + 8, 5) := by
  rcases hb with rfl | rfl <;> exact gd_k h rfl
theorem gp_ks {ks : List (Nat × Nat)} {ρ : Nat → Nat → Nat} (h : tn_Gd ks ρ) {b : Nat} (hb : tn_Pb b) : tn_kd ks (b + 2) = some (1 + 8, 4) := by
  rcases hb with rfl | rfl <;> exact gd_k h rfl
theorem tn_inN {i : Int32} {n : Nat} (h : vp_in i n) : i.toNatClampNeg < n := Nat.not_le.mp fun q => h (Or.inr q)
theorem gp_H {ks : List (Nat × Nat)} {ρ : Nat → Nat → Nat} (h : tn_Gd ks ρ) {b : Nat} (hb : tn_Pb b) {i : Int32} (hi : vp_in i 5) : ρ (b + 1) i.toNatClampNeg = b + 3 + i.toNatClampNeg := by
  have h1 := tn_inN hi
  generalize i.toNatClampNeg = j at h1 ⊢
  have h2 : j = 0 ∨ j = 1 ∨ j = 2 ∨ j = 3 ∨ j = 4 := by omega
  rcases hb with rfl | rfl <;> rcases h2 with rfl | rfl | rfl | rfl | rfl <;> exact gd_r h _ _ _ rfl rfl
theorem gp_kH {ks : List (Nat × Nat)} {ρ : Nat → Nat → Nat} (h : tn_Gd ks ρ) {b : Nat} (hb : tn_Pb b) {j : Nat} (h1 : j < 5) : tn_kd ks (b + 3 + j) = some (0, 0) := by
  have h2 : j = 0 ∨ j = 1 ∨ j = 2 ∨ j = 3 ∨ j = 4 := by omega
  rcases hb with rfl | rfl <;> rcases h2 with rfl | rfl | rfl | rfl | rfl <;> exact gd_k h rfl
theorem gp_S {ks : List (Nat × Nat)} {ρ : Nat → Nat → Nat} (h : tn_Gd ks ρ) {b : Nat} (hb : tn_Pb b) {i : Int32} (hi : vp_in i 4) : ρ (b + 2) i.toNatClampNeg = b + 8 + i.toNatClampNeg := by
  have h1 := tn_inN hi
  generalize i.toNatClampNeg = j at h1 ⊢
  have h2 : j = 0 ∨ j = 1 ∨ j = 2 ∨ j = 3 := by omega
  rcases hb with rfl | rfl <;> rcases h2 with rfl | rfl | rfl | rfl <;> exact gd_r h _ _ _ rfl rfl
theorem gp_kS {ks : List (Nat × Nat)} {ρ : Nat → Nat → Nat} (h : tn_Gd ks ρ) {b : Nat} (hb : tn_Pb b) {j : Nat} (h1 : j < 4) : tn_kd ks (b + 8 + j) = some (3, 0) := by
  have h2 : j = 0 ∨ j = 1 ∨ j = 2 ∨ j = 3 := by omega
  rcases hb with rfl | rfl <;> rcases h2 with rfl | rfl | rfl | rfl <;> exact gd_k h rfl
/-- a sheet -/
def tn_Sb (c : Nat) : Prop := c = 31 ∨ c = 33 ∨ c = 35 ∨ c = 37
theorem gs_k {ks : List (Nat × Nat)} {ρ : Nat → Nat → Nat} (h : tn_Gd ks ρ) {c : Nat} (hc : tn_Sb c) : tn_kd ks c = some (2, 0) := by
  rcases hc with rfl | rfl | rfl | rfl <;> exact gd_k h rfl
theorem gs_c {ks : List (Nat × Nat)} {ρ : Nat → Nat → Nat} (h : tn_Gd ks ρ) {c : Nat} (hc : tn_Sb c) : ρ c 0 = c + 1 := by
  rcases hc with rfl | rfl | rfl | rfl <;> exact gd_r h _ _ _ rfl rfl
theorem gs_kc {ks : List (Nat × Nat)} {ρ : Nat → Nat → Nat} (h : tn_Gd ks ρ) {c : Nat} (hc : tn_Sb c) : tn_kd ks (c + 1) = some (7, 60) := by
  rcases hc with rfl | rfl | rfl | rfl <;> exact gd_k h rfl
theorem gs_S {ks : List (Nat × Nat)} {ρ : Nat → Nat → Nat} (h : tn_Gd ks ρ) {i : Int32} (hi : vp_in i 4) : ρ 27 i.toNatClampNeg = 31 + 2 * i.toNatClampNeg := by
  have h1 := tn_inN hi
  generalize i.toNatClampNeg = j at h1 ⊢
  have h2 : j = 0 ∨ j = 1 ∨ j = 2 ∨ j = 3 := by omega
  rcases h2 with rfl | rfl | rfl | rfl <;> exact gd_r h _ _ _ rfl rfl
theorem gs_b {j : Nat} (hi : j < 4) : tn_Sb (31 + 2 * j) := by
  unfold tn_Sb
  omega
end
