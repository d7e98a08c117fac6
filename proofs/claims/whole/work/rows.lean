section
-- ===== PART A: goes FIRST, ahead of the names: the tables' words, and 'selects' of the private methods out of them =====
/-- a private method of a class that the tables say can be made, by its rows of tables_1 -/
def lw_okq (q : MethodName × Nat) : Prop := (q.1.cls ≠ "java/lang/invoke/MethodHandle" ∧ q.1.cls ≠ "java/lang/invoke/VarHandle") ∧ Cond.instantiable q.1.cls q.2 ∈ tables_1 ∧ Cond.privateMethod q.1 ∈ tables_1 ∧ Cond.instanceMethod q.1 ∈ tables_1
theorem lw_p0 : lw_okq (⟨"RunicSticks", "signsReadWell", "()I"⟩, 9) := ⟨⟨by decide +kernel, by decide +kernel⟩, List.mem_of_getElem? (i := 16) (by decide +kernel), List.mem_of_getElem? (i := 233) (by decide +kernel), List.mem_of_getElem? (i := 234) (by decide +kernel)⟩
theorem lw_p1 : lw_okq (⟨"RunicSticks$Reader", "readsRule", "(I)Z"⟩, 6) := ⟨⟨by decide +kernel, by decide +kernel⟩, List.mem_of_getElem? (i := 117) (by decide +kernel), List.mem_of_getElem? (i := 249) (by decide +kernel), List.mem_of_getElem? (i := 250) (by decide +kernel)⟩
theorem lw_p2 : lw_okq (⟨"RunicSticks$Reader", "readsOther", "(III)Z"⟩, 6) := ⟨⟨by decide +kernel, by decide +kernel⟩, List.mem_of_getElem? (i := 117) (by decide +kernel), List.mem_of_getElem? (i := 253) (by decide +kernel), List.mem_of_getElem? (i := 254) (by decide +kernel)⟩
theorem lw_p3 : lw_okq (⟨"RunicSticks$Reader", "readsSign", "(I)Z"⟩, 6) := ⟨⟨by decide +kernel, by decide +kernel⟩, List.mem_of_getElem? (i := 117) (by decide +kernel), List.mem_of_getElem? (i := 257) (by decide +kernel), List.mem_of_getElem? (i := 258) (by decide +kernel)⟩
theorem lw_p4 : lw_okq (⟨"RunicSticks$Reader", "readsFirstDigit", "(I)Z"⟩, 6) := ⟨⟨by decide +kernel, by decide +kernel⟩, List.mem_of_getElem? (i := 117) (by decide +kernel), List.mem_of_getElem? (i := 261) (by decide +kernel), List.mem_of_getElem? (i := 262) (by decide +kernel)⟩
theorem lw_p5 : lw_okq (⟨"RunicSticks$Reader", "readsNextDigit", "(I)Z"⟩, 6) := ⟨⟨by decide +kernel, by decide +kernel⟩, List.mem_of_getElem? (i := 117) (by decide +kernel), List.mem_of_getElem? (i := 268) (by decide +kernel), List.mem_of_getElem? (i := 269) (by decide +kernel)⟩
theorem lw_p6 : lw_okq (⟨"RunicSticks$Reader", "hasWeekday", "()Z"⟩, 6) := ⟨⟨by decide +kernel, by decide +kernel⟩, List.mem_of_getElem? (i := 117) (by decide +kernel), List.mem_of_getElem? (i := 272) (by decide +kernel), List.mem_of_getElem? (i := 273) (by decide +kernel)⟩
theorem lw_p7 : lw_okq (⟨"RunicSticks$Reader", "readsComma", "(I)Z"⟩, 6) := ⟨⟨by decide +kernel, by decide +kernel⟩, List.mem_of_getElem? (i := 117) (by decide +kernel), List.mem_of_getElem? (i := 276) (by decide +kernel), List.mem_of_getElem? (i := 277) (by decide +kernel)⟩
theorem lw_p8 : lw_okq (⟨"RunicSticks$Reader", "readsBehindRule", "(I)Z"⟩, 6) := ⟨⟨by decide +kernel, by decide +kernel⟩, List.mem_of_getElem? (i := 117) (by decide +kernel), List.mem_of_getElem? (i := 280) (by decide +kernel), List.mem_of_getElem? (i := 281) (by decide +kernel)⟩
theorem lw_p9 : lw_okq (⟨"RunicSticks$Reader", "readsSeparator", "(I)Z"⟩, 6) := ⟨⟨by decide +kernel, by decide +kernel⟩, List.mem_of_getElem? (i := 117) (by decide +kernel), List.mem_of_getElem? (i := 284) (by decide +kernel), List.mem_of_getElem? (i := 285) (by decide +kernel)⟩
theorem lw_p10 : lw_okq (⟨"RunicSticks$Reader", "readsRank", "(I)Z"⟩, 6) := ⟨⟨by decide +kernel, by decide +kernel⟩, List.mem_of_getElem? (i := 117) (by decide +kernel), List.mem_of_getElem? (i := 289) (by decide +kernel), List.mem_of_getElem? (i := 290) (by decide +kernel)⟩
theorem lw_p11 : lw_okq (⟨"RunicSticks", "freshPart", "()D"⟩, 9) := ⟨⟨by decide +kernel, by decide +kernel⟩, List.mem_of_getElem? (i := 16) (by decide +kernel), List.mem_of_getElem? (i := 297) (by decide +kernel), List.mem_of_getElem? (i := 298) (by decide +kernel)⟩
theorem lw_p12 : lw_okq (⟨"RunicSticks", "staleFeasts", "(II)I"⟩, 9) := ⟨⟨by decide +kernel, by decide +kernel⟩, List.mem_of_getElem? (i := 16) (by decide +kernel), List.mem_of_getElem? (i := 301) (by decide +kernel), List.mem_of_getElem? (i := 302) (by decide +kernel)⟩
theorem lw_p13 : lw_okq (⟨"RunicSticks$Reckoning", "dayByRule", "(LRunicSticks$State;I)I"⟩, 5) := ⟨⟨by decide +kernel, by decide +kernel⟩, List.mem_of_getElem? (i := 149) (by decide +kernel), List.mem_of_getElem? (i := 321) (by decide +kernel), List.mem_of_getElem? (i := 322) (by decide +kernel)⟩
theorem lw_p14 : lw_okq (⟨"RunicSticks$Reckoning", "weekdayFrom", "(II)I"⟩, 5) := ⟨⟨by decide +kernel, by decide +kernel⟩, List.mem_of_getElem? (i := 149) (by decide +kernel), List.mem_of_getElem? (i := 326) (by decide +kernel), List.mem_of_getElem? (i := 327) (by decide +kernel)⟩
theorem lw_p15 : lw_okq (⟨"RunicSticks$Reckoning", "weekdayPastMoon", "(II)I"⟩, 5) := ⟨⟨by decide +kernel, by decide +kernel⟩, List.mem_of_getElem? (i := 149) (by decide +kernel), List.mem_of_getElem? (i := 330) (by decide +kernel), List.mem_of_getElem? (i := 331) (by decide +kernel)⟩
def lw_privs_1 : List (MethodName × Nat) := [(⟨"RunicSticks", "signsReadWell", "()I"⟩, 9), (⟨"RunicSticks$Reader", "readsRule", "(I)Z"⟩, 6), (⟨"RunicSticks$Reader", "readsOther", "(III)Z"⟩, 6), (⟨"RunicSticks$Reader", "readsSign", "(I)Z"⟩, 6), (⟨"RunicSticks$Reader", "readsFirstDigit", "(I)Z"⟩, 6), (⟨"RunicSticks$Reader", "readsNextDigit", "(I)Z"⟩, 6), (⟨"RunicSticks$Reader", "hasWeekday", "()Z"⟩, 6), (⟨"RunicSticks$Reader", "readsComma", "(I)Z"⟩, 6), (⟨"RunicSticks$Reader", "readsBehindRule", "(I)Z"⟩, 6), (⟨"RunicSticks$Reader", "readsSeparator", "(I)Z"⟩, 6), (⟨"RunicSticks$Reader", "readsRank", "(I)Z"⟩, 6), (⟨"RunicSticks", "freshPart", "()D"⟩, 9), (⟨"RunicSticks", "staleFeasts", "(II)I"⟩, 9), (⟨"RunicSticks$Reckoning", "dayByRule", "(LRunicSticks$State;I)I"⟩, 5), (⟨"RunicSticks$Reckoning", "weekdayFrom", "(II)I"⟩, 5), (⟨"RunicSticks$Reckoning", "weekdayPastMoon", "(II)I"⟩, 5)]
theorem lw_r1 : ∀ q ∈ lw_privs_1, lw_okq q := List.forall_mem_cons.mpr ⟨lw_p0, List.forall_mem_cons.mpr ⟨lw_p1, List.forall_mem_cons.mpr ⟨lw_p2, List.forall_mem_cons.mpr ⟨lw_p3, List.forall_mem_cons.mpr ⟨lw_p4, List.forall_mem_cons.mpr ⟨lw_p5, List.forall_mem_cons.mpr ⟨lw_p6, List.forall_mem_cons.mpr ⟨lw_p7, List.forall_mem_cons.mpr ⟨lw_p8, List.forall_mem_cons.mpr ⟨lw_p9, List.forall_mem_cons.mpr ⟨lw_p10, List.forall_mem_cons.mpr ⟨lw_p11, List.forall_mem_cons.mpr ⟨lw_p12, List.forall_mem_cons.mpr ⟨lw_p13, List.forall_mem_cons.mpr ⟨lw_p14, List.forall_mem_cons.mpr ⟨lw_p15, fun _ h => absurd h List.not_mem_nil⟩⟩⟩⟩⟩⟩⟩⟩⟩⟩⟩⟩⟩⟩⟩⟩
theorem lw_p16 : lw_okq (⟨"RunicSticks$Reckoning", "orNone", "(I)I"⟩, 5) := ⟨⟨by decide +kernel, by decide +kernel⟩, List.mem_of_getElem? (i := 149) (by decide +kernel), List.mem_of_getElem? (i := 337) (by decide +kernel), List.mem_of_getElem? (i := 338) (by decide +kernel)⟩
theorem lw_p17 : lw_okq (⟨"RunicSticks$Reckoning", "cutNotches", "(LRunicSticks$State;I)V"⟩, 5) := ⟨⟨by decide +kernel, by decide +kernel⟩, List.mem_of_getElem? (i := 149) (by decide +kernel), List.mem_of_getElem? (i := 349) (by decide +kernel), List.mem_of_getElem? (i := 350) (by decide +kernel)⟩
theorem lw_p18 : lw_okq (⟨"RunicSticks$Reckoning", "hasNotch", "(II)Z"⟩, 5) := ⟨⟨by decide +kernel, by decide +kernel⟩, List.mem_of_getElem? (i := 149) (by decide +kernel), List.mem_of_getElem? (i := 353) (by decide +kernel), List.mem_of_getElem? (i := 354) (by decide +kernel)⟩
theorem lw_p19 : lw_okq (⟨"RunicSticks", "numberOf", "(I)I"⟩, 9) := ⟨⟨by decide +kernel, by decide +kernel⟩, List.mem_of_getElem? (i := 16) (by decide +kernel), List.mem_of_getElem? (i := 367) (by decide +kernel), List.mem_of_getElem? (i := 368) (by decide +kernel)⟩
theorem lw_p20 : lw_okq (⟨"RunicSticks", "gatherDigestCouncils", "()V"⟩, 9) := ⟨⟨by decide +kernel, by decide +kernel⟩, List.mem_of_getElem? (i := 16) (by decide +kernel), List.mem_of_getElem? (i := 379) (by decide +kernel), List.mem_of_getElem? (i := 380) (by decide +kernel)⟩
theorem lw_p21 : lw_okq (⟨"RunicSticks", "mixedFeasts", "(J)J"⟩, 9) := ⟨⟨by decide +kernel, by decide +kernel⟩, List.mem_of_getElem? (i := 16) (by decide +kernel), List.mem_of_getElem? (i := 393) (by decide +kernel), List.mem_of_getElem? (i := 394) (by decide +kernel)⟩
theorem lw_p22 : lw_okq (⟨"RunicSticks", "feastProperty", "(II)I"⟩, 9) := ⟨⟨by decide +kernel, by decide +kernel⟩, List.mem_of_getElem? (i := 16) (by decide +kernel), List.mem_of_getElem? (i := 397) (by decide +kernel), List.mem_of_getElem? (i := 398) (by decide +kernel)⟩
theorem lw_p23 : lw_okq (⟨"RunicSticks", "mixedQuarrels", "(J)J"⟩, 9) := ⟨⟨by decide +kernel, by decide +kernel⟩, List.mem_of_getElem? (i := 16) (by decide +kernel), List.mem_of_getElem? (i := 409) (by decide +kernel), List.mem_of_getElem? (i := 410) (by decide +kernel)⟩
theorem lw_p24 : lw_okq (⟨"RunicSticks", "stickProperty", "(II)I"⟩, 9) := ⟨⟨by decide +kernel, by decide +kernel⟩, List.mem_of_getElem? (i := 16) (by decide +kernel), List.mem_of_getElem? (i := 421) (by decide +kernel), List.mem_of_getElem? (i := 422) (by decide +kernel)⟩
theorem lw_p25 : lw_okq (⟨"RunicSticks", "nextAlike", "(I)I"⟩, 9) := ⟨⟨by decide +kernel, by decide +kernel⟩, List.mem_of_getElem? (i := 16) (by decide +kernel), List.mem_of_getElem? (i := 430) (by decide +kernel), List.mem_of_getElem? (i := 431) (by decide +kernel)⟩
theorem lw_p26 : lw_okq (⟨"RunicSticks", "calmestSlip", "(II)I"⟩, 9) := ⟨⟨by decide +kernel, by decide +kernel⟩, List.mem_of_getElem? (i := 16) (by decide +kernel), List.mem_of_getElem? (i := 441) (by decide +kernel), List.mem_of_getElem? (i := 442) (by decide +kernel)⟩
theorem lw_p27 : lw_okq (⟨"RunicSticks", "outermost", "(IIIZ)I"⟩, 9) := ⟨⟨by decide +kernel, by decide +kernel⟩, List.mem_of_getElem? (i := 16) (by decide +kernel), List.mem_of_getElem? (i := 445) (by decide +kernel), List.mem_of_getElem? (i := 446) (by decide +kernel)⟩
theorem lw_p28 : lw_okq (⟨"RunicSticks", "bufferTellsFeasts", "()Z"⟩, 9) := ⟨⟨by decide +kernel, by decide +kernel⟩, List.mem_of_getElem? (i := 16) (by decide +kernel), List.mem_of_getElem? (i := 463) (by decide +kernel), List.mem_of_getElem? (i := 464) (by decide +kernel)⟩
theorem lw_p29 : lw_okq (⟨"java/lang/Throwable", "fillInStackTrace", "(I)Ljava/lang/Throwable;"⟩, 6) := ⟨⟨by decide +kernel, by decide +kernel⟩, List.mem_of_getElem? (i := 509) (by decide +kernel), List.mem_of_getElem? (i := 507) (by decide +kernel), List.mem_of_getElem? (i := 508) (by decide +kernel)⟩
theorem lw_p30 : lw_okq (⟨"RunicSticks$History", "stateAt", "(I)LRunicSticks$State;"⟩, 3) := ⟨⟨by decide +kernel, by decide +kernel⟩, List.mem_of_getElem? (i := 96) (by decide +kernel), List.mem_of_getElem? (i := 543) (by decide +kernel), List.mem_of_getElem? (i := 544) (by decide +kernel)⟩
theorem lw_p31 : lw_okq (⟨"RunicSticks", "addBufferedFeasts", "()I"⟩, 9) := ⟨⟨by decide +kernel, by decide +kernel⟩, List.mem_of_getElem? (i := 16) (by decide +kernel), List.mem_of_getElem? (i := 556) (by decide +kernel), List.mem_of_getElem? (i := 557) (by decide +kernel)⟩
def lw_privs_2 : List (MethodName × Nat) := [(⟨"RunicSticks$Reckoning", "orNone", "(I)I"⟩, 5), (⟨"RunicSticks$Reckoning", "cutNotches", "(LRunicSticks$State;I)V"⟩, 5), (⟨"RunicSticks$Reckoning", "hasNotch", "(II)Z"⟩, 5), (⟨"RunicSticks", "numberOf", "(I)I"⟩, 9), (⟨"RunicSticks", "gatherDigestCouncils", "()V"⟩, 9), (⟨"RunicSticks", "mixedFeasts", "(J)J"⟩, 9), (⟨"RunicSticks", "feastProperty", "(II)I"⟩, 9), (⟨"RunicSticks", "mixedQuarrels", "(J)J"⟩, 9), (⟨"RunicSticks", "stickProperty", "(II)I"⟩, 9), (⟨"RunicSticks", "nextAlike", "(I)I"⟩, 9), (⟨"RunicSticks", "calmestSlip", "(II)I"⟩, 9), (⟨"RunicSticks", "outermost", "(IIIZ)I"⟩, 9), (⟨"RunicSticks", "bufferTellsFeasts", "()Z"⟩, 9), (⟨"java/lang/Throwable", "fillInStackTrace", "(I)Ljava/lang/Throwable;"⟩, 6), (⟨"RunicSticks$History", "stateAt", "(I)LRunicSticks$State;"⟩, 3), (⟨"RunicSticks", "addBufferedFeasts", "()I"⟩, 9)]
theorem lw_r2 : ∀ q ∈ lw_privs_2, lw_okq q := List.forall_mem_cons.mpr ⟨lw_p16, List.forall_mem_cons.mpr ⟨lw_p17, List.forall_mem_cons.mpr ⟨lw_p18, List.forall_mem_cons.mpr ⟨lw_p19, List.forall_mem_cons.mpr ⟨lw_p20, List.forall_mem_cons.mpr ⟨lw_p21, List.forall_mem_cons.mpr ⟨lw_p22, List.forall_mem_cons.mpr ⟨lw_p23, List.forall_mem_cons.mpr ⟨lw_p24, List.forall_mem_cons.mpr ⟨lw_p25, List.forall_mem_cons.mpr ⟨lw_p26, List.forall_mem_cons.mpr ⟨lw_p27, List.forall_mem_cons.mpr ⟨lw_p28, List.forall_mem_cons.mpr ⟨lw_p29, List.forall_mem_cons.mpr ⟨lw_p30, List.forall_mem_cons.mpr ⟨lw_p31, fun _ h => absurd h List.not_mem_nil⟩⟩⟩⟩⟩⟩⟩⟩⟩⟩⟩⟩⟩⟩⟩⟩
theorem lw_p32 : lw_okq (⟨"RunicSticks", "addReadFeast", "()Z"⟩, 9) := ⟨⟨by decide +kernel, by decide +kernel⟩, List.mem_of_getElem? (i := 16) (by decide +kernel), List.mem_of_getElem? (i := 560) (by decide +kernel), List.mem_of_getElem? (i := 561) (by decide +kernel)⟩
theorem lw_p33 : lw_okq (⟨"RunicSticks", "needFeast", "(I)V"⟩, 9) := ⟨⟨by decide +kernel, by decide +kernel⟩, List.mem_of_getElem? (i := 16) (by decide +kernel), List.mem_of_getElem? (i := 601) (by decide +kernel), List.mem_of_getElem? (i := 602) (by decide +kernel)⟩
theorem lw_p34 : lw_okq (⟨"RunicSticks$State", "copyStick", "(II)V"⟩, 12) := ⟨⟨by decide +kernel, by decide +kernel⟩, List.mem_of_getElem? (i := 24) (by decide +kernel), List.mem_of_getElem? (i := 650) (by decide +kernel), List.mem_of_getElem? (i := 651) (by decide +kernel)⟩
theorem lw_p35 : lw_okq (⟨"RunicSticks", "needStick", "(I)V"⟩, 9) := ⟨⟨by decide +kernel, by decide +kernel⟩, List.mem_of_getElem? (i := 16) (by decide +kernel), List.mem_of_getElem? (i := 661) (by decide +kernel), List.mem_of_getElem? (i := 662) (by decide +kernel)⟩
theorem lw_p36 : lw_okq (⟨"RunicSticks", "lowestFeastOn", "(II)I"⟩, 9) := ⟨⟨by decide +kernel, by decide +kernel⟩, List.mem_of_getElem? (i := 16) (by decide +kernel), List.mem_of_getElem? (i := 710) (by decide +kernel), List.mem_of_getElem? (i := 711) (by decide +kernel)⟩
theorem lw_p37 : lw_okq (⟨"RunicSticksModel", "holds", "(I)Z"⟩, 15) := ⟨⟨by decide +kernel, by decide +kernel⟩, List.mem_of_getElem? (i := 784) (by decide +kernel), List.mem_of_getElem? (i := 848) (by decide +kernel), List.mem_of_getElem? (i := 849) (by decide +kernel)⟩
theorem lw_p38 : lw_okq (⟨"RunicSticksModel", "go", "(Z)I"⟩, 15) := ⟨⟨by decide +kernel, by decide +kernel⟩, List.mem_of_getElem? (i := 784) (by decide +kernel), List.mem_of_getElem? (i := 860) (by decide +kernel), List.mem_of_getElem? (i := 861) (by decide +kernel)⟩
theorem lw_p39 : lw_okq (⟨"RunicSticksModel", "read", "()V"⟩, 15) := ⟨⟨by decide +kernel, by decide +kernel⟩, List.mem_of_getElem? (i := 784) (by decide +kernel), List.mem_of_getElem? (i := 864) (by decide +kernel), List.mem_of_getElem? (i := 865) (by decide +kernel)⟩
theorem lw_p40 : lw_okq (⟨"RunicSticksModel", "sign", "(II)I"⟩, 15) := ⟨⟨by decide +kernel, by decide +kernel⟩, List.mem_of_getElem? (i := 784) (by decide +kernel), List.mem_of_getElem? (i := 868) (by decide +kernel), List.mem_of_getElem? (i := 869) (by decide +kernel)⟩
theorem lw_p41 : lw_okq (⟨"RunicSticksModel", "isNext", "(I)Z"⟩, 15) := ⟨⟨by decide +kernel, by decide +kernel⟩, List.mem_of_getElem? (i := 784) (by decide +kernel), List.mem_of_getElem? (i := 872) (by decide +kernel), List.mem_of_getElem? (i := 873) (by decide +kernel)⟩
theorem lw_p42 : lw_okq (⟨"RunicSticksModel", "number", "(I)I"⟩, 15) := ⟨⟨by decide +kernel, by decide +kernel⟩, List.mem_of_getElem? (i := 784) (by decide +kernel), List.mem_of_getElem? (i := 876) (by decide +kernel), List.mem_of_getElem? (i := 877) (by decide +kernel)⟩
theorem lw_p43 : lw_okq (⟨"RunicSticksModel", "adds", "()Z"⟩, 15) := ⟨⟨by decide +kernel, by decide +kernel⟩, List.mem_of_getElem? (i := 784) (by decide +kernel), List.mem_of_getElem? (i := 880) (by decide +kernel), List.mem_of_getElem? (i := 881) (by decide +kernel)⟩
theorem lw_p44 : lw_okq (⟨"RunicSticksModel", "save", "()V"⟩, 15) := ⟨⟨by decide +kernel, by decide +kernel⟩, List.mem_of_getElem? (i := 784) (by decide +kernel), List.mem_of_getElem? (i := 891) (by decide +kernel), List.mem_of_getElem? (i := 892) (by decide +kernel)⟩
theorem lw_p45 : lw_okq (⟨"RunicSticksModel", "isFeast", "(I)Z"⟩, 15) := ⟨⟨by decide +kernel, by decide +kernel⟩, List.mem_of_getElem? (i := 784) (by decide +kernel), List.mem_of_getElem? (i := 903) (by decide +kernel), List.mem_of_getElem? (i := 904) (by decide +kernel)⟩
theorem lw_p46 : lw_okq (⟨"RunicSticksModel", "puts", "(II)I"⟩, 15) := ⟨⟨by decide +kernel, by decide +kernel⟩, List.mem_of_getElem? (i := 784) (by decide +kernel), List.mem_of_getElem? (i := 907) (by decide +kernel), List.mem_of_getElem? (i := 908) (by decide +kernel)⟩
theorem lw_p47 : lw_okq (⟨"RunicSticksModel", "lay", "(II)V"⟩, 15) := ⟨⟨by decide +kernel, by decide +kernel⟩, List.mem_of_getElem? (i := 784) (by decide +kernel), List.mem_of_getElem? (i := 929) (by decide +kernel), List.mem_of_getElem? (i := 930) (by decide +kernel)⟩
def lw_privs_3 : List (MethodName × Nat) := [(⟨"RunicSticks", "addReadFeast", "()Z"⟩, 9), (⟨"RunicSticks", "needFeast", "(I)V"⟩, 9), (⟨"RunicSticks$State", "copyStick", "(II)V"⟩, 12), (⟨"RunicSticks", "needStick", "(I)V"⟩, 9), (⟨"RunicSticks", "lowestFeastOn", "(II)I"⟩, 9), (⟨"RunicSticksModel", "holds", "(I)Z"⟩, 15), (⟨"RunicSticksModel", "go", "(Z)I"⟩, 15), (⟨"RunicSticksModel", "read", "()V"⟩, 15), (⟨"RunicSticksModel", "sign", "(II)I"⟩, 15), (⟨"RunicSticksModel", "isNext", "(I)Z"⟩, 15), (⟨"RunicSticksModel", "number", "(I)I"⟩, 15), (⟨"RunicSticksModel", "adds", "()Z"⟩, 15), (⟨"RunicSticksModel", "save", "()V"⟩, 15), (⟨"RunicSticksModel", "isFeast", "(I)Z"⟩, 15), (⟨"RunicSticksModel", "puts", "(II)I"⟩, 15), (⟨"RunicSticksModel", "lay", "(II)V"⟩, 15)]
theorem lw_r3 : ∀ q ∈ lw_privs_3, lw_okq q := List.forall_mem_cons.mpr ⟨lw_p32, List.forall_mem_cons.mpr ⟨lw_p33, List.forall_mem_cons.mpr ⟨lw_p34, List.forall_mem_cons.mpr ⟨lw_p35, List.forall_mem_cons.mpr ⟨lw_p36, List.forall_mem_cons.mpr ⟨lw_p37, List.forall_mem_cons.mpr ⟨lw_p38, List.forall_mem_cons.mpr ⟨lw_p39, List.forall_mem_cons.mpr ⟨lw_p40, List.forall_mem_cons.mpr ⟨lw_p41, List.forall_mem_cons.mpr ⟨lw_p42, List.forall_mem_cons.mpr ⟨lw_p43, List.forall_mem_cons.mpr ⟨lw_p44, List.forall_mem_cons.mpr ⟨lw_p45, List.forall_mem_cons.mpr ⟨lw_p46, List.forall_mem_cons.mpr ⟨lw_p47, fun _ h => absurd h List.not_mem_nil⟩⟩⟩⟩⟩⟩⟩⟩⟩⟩⟩⟩⟩⟩⟩⟩
theorem lw_p48 : lw_okq (⟨"RunicSticksModel", "findProper", "(II)V"⟩, 15) := ⟨⟨by decide +kernel, by decide +kernel⟩, List.mem_of_getElem? (i := 784) (by decide +kernel), List.mem_of_getElem? (i := 933) (by decide +kernel), List.mem_of_getElem? (i := 934) (by decide +kernel)⟩
theorem lw_p49 : lw_okq (⟨"RunicSticksModel", "firstFull", "(III)I"⟩, 15) := ⟨⟨by decide +kernel, by decide +kernel⟩, List.mem_of_getElem? (i := 784) (by decide +kernel), List.mem_of_getElem? (i := 937) (by decide +kernel), List.mem_of_getElem? (i := 938) (by decide +kernel)⟩
theorem lw_p50 : lw_okq (⟨"RunicSticksModel", "age", "(III)I"⟩, 15) := ⟨⟨by decide +kernel, by decide +kernel⟩, List.mem_of_getElem? (i := 784) (by decide +kernel), List.mem_of_getElem? (i := 944) (by decide +kernel), List.mem_of_getElem? (i := 945) (by decide +kernel)⟩
theorem lw_p51 : lw_okq (⟨"RunicSticksModel", "isStick", "(I)Z"⟩, 15) := ⟨⟨by decide +kernel, by decide +kernel⟩, List.mem_of_getElem? (i := 784) (by decide +kernel), List.mem_of_getElem? (i := 958) (by decide +kernel), List.mem_of_getElem? (i := 959) (by decide +kernel)⟩
theorem lw_p52 : lw_okq (⟨"RunicSticksModel", "aboutDay", "(III)I"⟩, 15) := ⟨⟨by decide +kernel, by decide +kernel⟩, List.mem_of_getElem? (i := 784) (by decide +kernel), List.mem_of_getElem? (i := 973) (by decide +kernel), List.mem_of_getElem? (i := 974) (by decide +kernel)⟩
theorem lw_p53 : lw_okq (⟨"RunicSticksModel", "feastOn", "(II)I"⟩, 15) := ⟨⟨by decide +kernel, by decide +kernel⟩, List.mem_of_getElem? (i := 784) (by decide +kernel), List.mem_of_getElem? (i := 977) (by decide +kernel), List.mem_of_getElem? (i := 978) (by decide +kernel)⟩
theorem lw_p54 : lw_okq (⟨"RunicSticksModel", "layAll", "(I)V"⟩, 15) := ⟨⟨by decide +kernel, by decide +kernel⟩, List.mem_of_getElem? (i := 784) (by decide +kernel), List.mem_of_getElem? (i := 981) (by decide +kernel), List.mem_of_getElem? (i := 982) (by decide +kernel)⟩
theorem lw_p55 : lw_okq (⟨"RunicSticksModel", "settledBy", "(I)I"⟩, 15) := ⟨⟨by decide +kernel, by decide +kernel⟩, List.mem_of_getElem? (i := 784) (by decide +kernel), List.mem_of_getElem? (i := 985) (by decide +kernel), List.mem_of_getElem? (i := 986) (by decide +kernel)⟩
theorem lw_p56 : lw_okq (⟨"RunicSticksModel", "ofFeast", "(II)I"⟩, 15) := ⟨⟨by decide +kernel, by decide +kernel⟩, List.mem_of_getElem? (i := 784) (by decide +kernel), List.mem_of_getElem? (i := 993) (by decide +kernel), List.mem_of_getElem? (i := 994) (by decide +kernel)⟩
theorem lw_p57 : lw_okq (⟨"RunicSticksModel", "dayOf", "(IIIZ)I"⟩, 15) := ⟨⟨by decide +kernel, by decide +kernel⟩, List.mem_of_getElem? (i := 784) (by decide +kernel), List.mem_of_getElem? (i := 1001) (by decide +kernel), List.mem_of_getElem? (i := 1002) (by decide +kernel)⟩
theorem lw_p58 : lw_okq (⟨"RunicSticksModel", "settledOf", "(II)I"⟩, 15) := ⟨⟨by decide +kernel, by decide +kernel⟩, List.mem_of_getElem? (i := 784) (by decide +kernel), List.mem_of_getElem? (i := 1009) (by decide +kernel), List.mem_of_getElem? (i := 1010) (by decide +kernel)⟩
theorem lw_p59 : lw_okq (⟨"RunicSticksModel", "quarrelsOf", "(I)I"⟩, 15) := ⟨⟨by decide +kernel, by decide +kernel⟩, List.mem_of_getElem? (i := 784) (by decide +kernel), List.mem_of_getElem? (i := 1017) (by decide +kernel), List.mem_of_getElem? (i := 1018) (by decide +kernel)⟩
theorem lw_p60 : lw_okq (⟨"RunicSticksModel", "quarrelsNow", "()I"⟩, 15) := ⟨⟨by decide +kernel, by decide +kernel⟩, List.mem_of_getElem? (i := 784) (by decide +kernel), List.mem_of_getElem? (i := 1021) (by decide +kernel), List.mem_of_getElem? (i := 1022) (by decide +kernel)⟩
theorem lw_p61 : lw_okq (⟨"RunicSticksModel", "aboutStick", "(II)I"⟩, 15) := ⟨⟨by decide +kernel, by decide +kernel⟩, List.mem_of_getElem? (i := 784) (by decide +kernel), List.mem_of_getElem? (i := 1029) (by decide +kernel), List.mem_of_getElem? (i := 1030) (by decide +kernel)⟩
theorem lw_p62 : lw_okq (⟨"RunicSticksModel", "staleOf", "(I)I"⟩, 15) := ⟨⟨by decide +kernel, by decide +kernel⟩, List.mem_of_getElem? (i := 784) (by decide +kernel), List.mem_of_getElem? (i := 1033) (by decide +kernel), List.mem_of_getElem? (i := 1034) (by decide +kernel)⟩
theorem lw_p63 : lw_okq (⟨"RunicSticksModel", "counted", "(I)I"⟩, 15) := ⟨⟨by decide +kernel, by decide +kernel⟩, List.mem_of_getElem? (i := 784) (by decide +kernel), List.mem_of_getElem? (i := 1041) (by decide +kernel), List.mem_of_getElem? (i := 1042) (by decide +kernel)⟩
def lw_privs_4 : List (MethodName × Nat) := [(⟨"RunicSticksModel", "findProper", "(II)V"⟩, 15), (⟨"RunicSticksModel", "firstFull", "(III)I"⟩, 15), (⟨"RunicSticksModel", "age", "(III)I"⟩, 15), (⟨"RunicSticksModel", "isStick", "(I)Z"⟩, 15), (⟨"RunicSticksModel", "aboutDay", "(III)I"⟩, 15), (⟨"RunicSticksModel", "feastOn", "(II)I"⟩, 15), (⟨"RunicSticksModel", "layAll", "(I)V"⟩, 15), (⟨"RunicSticksModel", "settledBy", "(I)I"⟩, 15), (⟨"RunicSticksModel", "ofFeast", "(II)I"⟩, 15), (⟨"RunicSticksModel", "dayOf", "(IIIZ)I"⟩, 15), (⟨"RunicSticksModel", "settledOf", "(II)I"⟩, 15), (⟨"RunicSticksModel", "quarrelsOf", "(I)I"⟩, 15), (⟨"RunicSticksModel", "quarrelsNow", "()I"⟩, 15), (⟨"RunicSticksModel", "aboutStick", "(II)I"⟩, 15), (⟨"RunicSticksModel", "staleOf", "(I)I"⟩, 15), (⟨"RunicSticksModel", "counted", "(I)I"⟩, 15)]
theorem lw_r4 : ∀ q ∈ lw_privs_4, lw_okq q := List.forall_mem_cons.mpr ⟨lw_p48, List.forall_mem_cons.mpr ⟨lw_p49, List.forall_mem_cons.mpr ⟨lw_p50, List.forall_mem_cons.mpr ⟨lw_p51, List.forall_mem_cons.mpr ⟨lw_p52, List.forall_mem_cons.mpr ⟨lw_p53, List.forall_mem_cons.mpr ⟨lw_p54, List.forall_mem_cons.mpr ⟨lw_p55, List.forall_mem_cons.mpr ⟨lw_p56, List.forall_mem_cons.mpr ⟨lw_p57, List.forall_mem_cons.mpr ⟨lw_p58, List.forall_mem_cons.mpr ⟨lw_p59, List.forall_mem_cons.mpr ⟨lw_p60, List.forall_mem_cons.mpr ⟨lw_p61, List.forall_mem_cons.mpr ⟨lw_p62, List.forall_mem_cons.mpr ⟨lw_p63, fun _ h => absurd h List.not_mem_nil⟩⟩⟩⟩⟩⟩⟩⟩⟩⟩⟩⟩⟩⟩⟩⟩
theorem lw_p64 : lw_okq (⟨"RunicSticksModel", "allStale", "()I"⟩, 15) := ⟨⟨by decide +kernel, by decide +kernel⟩, List.mem_of_getElem? (i := 784) (by decide +kernel), List.mem_of_getElem? (i := 1045) (by decide +kernel), List.mem_of_getElem? (i := 1046) (by decide +kernel)⟩
theorem lw_p65 : lw_okq (⟨"RunicSticksModel", "outermost", "(IIIZ)I"⟩, 15) := ⟨⟨by decide +kernel, by decide +kernel⟩, List.mem_of_getElem? (i := 784) (by decide +kernel), List.mem_of_getElem? (i := 1053) (by decide +kernel), List.mem_of_getElem? (i := 1054) (by decide +kernel)⟩
theorem lw_p66 : lw_okq (⟨"RunicSticksModel", "nextAlike", "(I)I"⟩, 15) := ⟨⟨by decide +kernel, by decide +kernel⟩, List.mem_of_getElem? (i := 784) (by decide +kernel), List.mem_of_getElem? (i := 1061) (by decide +kernel), List.mem_of_getElem? (i := 1062) (by decide +kernel)⟩
theorem lw_p67 : lw_okq (⟨"RunicSticksModel", "bestSlip", "(II)I"⟩, 15) := ⟨⟨by decide +kernel, by decide +kernel⟩, List.mem_of_getElem? (i := 784) (by decide +kernel), List.mem_of_getElem? (i := 1069) (by decide +kernel), List.mem_of_getElem? (i := 1070) (by decide +kernel)⟩
theorem lw_p68 : lw_okq (⟨"RunicSticksModel", "movedBy", "(II)I"⟩, 15) := ⟨⟨by decide +kernel, by decide +kernel⟩, List.mem_of_getElem? (i := 784) (by decide +kernel), List.mem_of_getElem? (i := 1080) (by decide +kernel), List.mem_of_getElem? (i := 1081) (by decide +kernel)⟩
theorem lw_p69 : lw_okq (⟨"RunicSticksModel", "fresh", "()D"⟩, 15) := ⟨⟨by decide +kernel, by decide +kernel⟩, List.mem_of_getElem? (i := 784) (by decide +kernel), List.mem_of_getElem? (i := 1088) (by decide +kernel), List.mem_of_getElem? (i := 1089) (by decide +kernel)⟩
theorem lw_p70 : lw_okq (⟨"RunicSticksModel", "digestOne", "(J)V"⟩, 15) := ⟨⟨by decide +kernel, by decide +kernel⟩, List.mem_of_getElem? (i := 784) (by decide +kernel), List.mem_of_getElem? (i := 1097) (by decide +kernel), List.mem_of_getElem? (i := 1098) (by decide +kernel)⟩
theorem lw_p71 : lw_okq (⟨"RunicSticksModel", "digestFeast", "(I)V"⟩, 15) := ⟨⟨by decide +kernel, by decide +kernel⟩, List.mem_of_getElem? (i := 784) (by decide +kernel), List.mem_of_getElem? (i := 1102) (by decide +kernel), List.mem_of_getElem? (i := 1103) (by decide +kernel)⟩
def lw_privs_5 : List (MethodName × Nat) := [(⟨"RunicSticksModel", "allStale", "()I"⟩, 15), (⟨"RunicSticksModel", "outermost", "(IIIZ)I"⟩, 15), (⟨"RunicSticksModel", "nextAlike", "(I)I"⟩, 15), (⟨"RunicSticksModel", "bestSlip", "(II)I"⟩, 15), (⟨"RunicSticksModel", "movedBy", "(II)I"⟩, 15), (⟨"RunicSticksModel", "fresh", "()D"⟩, 15), (⟨"RunicSticksModel", "digestOne", "(J)V"⟩, 15), (⟨"RunicSticksModel", "digestFeast", "(I)V"⟩, 15)]
theorem lw_r5 : ∀ q ∈ lw_privs_5, lw_okq q := List.forall_mem_cons.mpr ⟨lw_p64, List.forall_mem_cons.mpr ⟨lw_p65, List.forall_mem_cons.mpr ⟨lw_p66, List.forall_mem_cons.mpr ⟨lw_p67, List.forall_mem_cons.mpr ⟨lw_p68, List.forall_mem_cons.mpr ⟨lw_p69, List.forall_mem_cons.mpr ⟨lw_p70, List.forall_mem_cons.mpr ⟨lw_p71, fun _ h => absurd h List.not_mem_nil⟩⟩⟩⟩⟩⟩⟩⟩
def lw_privs : List (MethodName × Nat) := lw_privs_1 ++ (lw_privs_2 ++ (lw_privs_3 ++ (lw_privs_4 ++ (lw_privs_5))))
def lw_tbl : List Cond := k2_sels lw_privs ++ tables_1
theorem lw_privs_ok : ∀ q ∈ lw_privs, lw_okq q := by
  show ∀ q ∈ lw_privs_1 ++ (lw_privs_2 ++ (lw_privs_3 ++ (lw_privs_4 ++ (lw_privs_5)))), lw_okq q
  exact List.forall_mem_append.mpr ⟨lw_r1, List.forall_mem_append.mpr ⟨lw_r2, List.forall_mem_append.mpr ⟨lw_r3, List.forall_mem_append.mpr ⟨lw_r4, lw_r5⟩⟩⟩⟩
/-- the streams that the claim lets the run draw from -/
abbrev lw_cs : List Choice := [Jvm.Choice.named "NaN.bits"]
theorem lw_bits : nanBits ∈ lw_cs := by first | decide | exact List.mem_cons_self | simp [lw_cs, nanBits]
/-! ===== BEGIN words of one list among another's, by their places ===== -/
theorem goodIn_r {big : List Cond} (ws : List Cond) (ps : List Nat) (hp : ws = ps.filterMap (fun i => big[i]?)) (h : ws.all goodWord = true) : GoodIn big ws := by
  intro w hw
  have h1 := List.all_eq_true.mp h w hw
  rw [hp] at hw
  obtain ⟨i, -, hi⟩ := List.mem_filterMap.mp hw
  have hm : w ∈ big := by first | exact List.mem_of_getElem? hi | exact List.getElem?_mem hi
  exact ⟨hm, good_of_word h1⟩
theorem goodIn_app {big a b : List Cond} (ha : GoodIn big a) (hb : GoodIn big b) : GoodIn big (a ++ b) := fun w h => (List.mem_append.mp h).elim (ha w) (hb w)
theorem goodIn_ca {big a b : List Cond} {c : Cond} (ha : GoodIn big (c :: a)) (hb : GoodIn big b) : GoodIn big (c :: (a ++ b)) := fun w h => (List.mem_cons.mp h).elim (fun e => ha w (List.mem_cons.mpr (Or.inl e))) (fun h => (List.mem_append.mp h).elim (fun h => ha w (List.mem_cons.mpr (Or.inr h))) (hb w))
theorem goodIn_sub {big ws : List Cond} (hm : ∀ w ∈ ws, w ∈ big) (h : ws.all goodWord = true) : GoodIn big ws := fun w hw => ⟨hm w hw, good_of_word (List.all_eq_true.mp h w hw)⟩
/-! ===== END ===== -/

/-! ===== BEGIN exceptions that leave a method, and their catching by the caller (launches without stack traces) ===== -/
section VXA
/-! The laws vx_back, vx_callV, vx_callS, vx_callSW, vx_throw0, vx_throwS follow proofs of the library, with one case more: JvmDerived/Free/Laws.lean (Back.of_free), Shelf42/LK1.lean (callV, callS), Shelf/KitTraced.lean (throwNew0V, throwNewS). -/
/-- where a method has thrown q: the class by its name, the cell, what was written, the world -/
def vx_T (XC : String → State → State → Prop) (st : State) (q : Addr) (t : State) (mc ms : Nat) (free : Addr → Prop) : Prop :=
  ∃ (E : String) (ce : Cell) (L : List Loc), XC E st t ∧ t.heap[q]? = some ce ∧ ce.vm = .none ∧ st.vm.findClass E = some ce.cls ∧ st.WarmedH t.vm ∧ st.sameButNew ({ t with vm := st.vm } : State) L mc ms ∧ ∀ z ∈ L, free z.base
def vx_Q (Qc : Array Value → State → Outcome → State → Prop) (XC : String → State → State → Prop) (mc ms : Nat) (free : Addr → Prop) : Array Value → State → Outcome → State → Prop := fun a st o t =>
  (Qc a st o t ∧ ∃ L, FrameEnd st o t L mc ms ∧ ∀ q ∈ L, free q.base) ∨ ∃ q, o = .threw q ∧ vx_T XC st q t mc ms free
/-- a callee that returns or throws -/
def vx_Met (l : Launch) (y : MethodName) (ws : List Cond) (rm : Room) (Pc : Array Value → State → Prop) (Qc : Array Value → State → Outcome → State → Prop) (XC : String → State → State → Prop) (mc ms : Nat) (free : Addr → Prop) : Prop :=
  MetFree l y (headSpec ws rm) Pc (fun _ _ _ _ _ => True) (vx_Q Qc XC mc ms free)
def vx_Post (XC : String → State → State → Prop) (mc ms : Nat) (free : Addr → Prop) : Pt → Array Value → Addr → Pt → Prop := fun A a q B =>
  ∃ (g : JFrame) (mk : MethodId) (t : State) (L : List Loc) (E : String) (ce : Cell), B.U.heap = t.heap ∧ B.U.vm = t.vm ∧ XC E (A.U.calling g mk a) t ∧ t.heap[q]? = some ce ∧ ce.vm = .none ∧ A.U.vm.findClass E = some ce.cls ∧ B.locs = A.locs ++ L ∧ (∀ z ∈ L, free z.base) ∧ B.cells = A.cells + mc ∧ B.slots = A.slots + ms
def vx_Back (l : Launch) (R : Room) (p : Program) (e : Env) (below : List Frame) (s : State) (sargs : Array Value) (y : MethodName) (len W9 : Nat)
    (Pre : Pt → Array Value → Prop) (Post : Pt → Array Value → Option Value → Pt → Prop) (PostX : Pt → Array Value → Addr → Pt → Prop) : Prop :=
  ∀ (m : MethodId) (meth : Method) (c : Code) (A : Pt) (g : JFrame) (ig : Instr) (mk : MethodId) (a : Array Value),
    Stand p l e R s m sargs below meth c A.U A.locs A.cells A.slots → g.method = m → g.locals.size = c.maxLocals → decode c.code g.pc = .ok (ig, len) →
    2 * g.monitorRoom + (g.stack.map fun v => v.category).sum ≤ W9 → A.U.methodNamed? y = some mk → Pre A a →
    (∃ (v : Option Value) (B : Pt), Stand p l e R s m sargs below meth c B.U B.locs B.cells B.slots ∧ Post A a v B ∧
      Steps p.tables e below (doInvoke e (A.U.setTop g) [] mk a).1 (B.U.setTop { g with pc := g.pc + len, stack := v.toList ++ g.stack })) ∨
    (∃ (q : Addr) (B : Pt), Stand p l e R s m sargs below meth c B.U B.locs B.cells B.slots ∧ PostX A a q B ∧
      Steps p.tables e below (doInvoke e (A.U.setTop g) [] mk a).1 ((B.U.setTop g).pushFrame (.throwing q)))
section Payer
variable {l : Launch} {R : Room} {p : Program} {e : Env} {below : List Frame} {s : State} {sargs : Array Value} {y : MethodName} {len W9 : Nat}
theorem vx_back {ws : List Cond} {rm : Room} {Pc : Array Value → State → Prop} {Qc : Array Value → State → Outcome → State → Prop} {XC : String → State → State → Prop} {mc ms : Nat} {free : Addr → Prop} {bytes : ByteArray} {maxL : Nat} {ret : Option FieldType}
    (hM : vx_Met l y ws rm Pc Qc XC mc ms free) (hblind : FrameBlind Pc) (hrc : rm.cells = mc) (hrs : rm.slots = ms)
    (hframes : rm.frames + 1 ≤ R.frames) (hlocals : W9 + (maxL + 11) + rm.locals ≤ R.locals)
    (hws : ∀ w ∈ ws, ∀ a' U, s.WarmedH U.vm → w.before a' U = true) (hcode : Cond.code y bytes maxL ret ∈ ws) (hinit : ∀ a' U, s.WarmedH U.vm → (Cond.initialized y.cls).before a' U = true) :
    vx_Back l R p e below s sargs y len W9 (PreOf R mc ms Pc) (PostOf Qc mc ms free) (vx_Post XC mc ms free) := by
  intro m meth c A g ig mk a X hg hsize hdg hW hn hp
  have h1 : (headSpec ws rm).pre.before a A.U = true := atoms_intro fun w hw => hws w hw _ _ X.warmed
  have h2 : (Cond.code y bytes maxL ret).before a A.U = true := hws _ hcode _ _ X.warmed
  have h3 : (Cond.initialized y.cls).before a A.U = true := hinit _ _ X.warmed
  have h4 : A.cells + (headSpec ws rm).room.cells ≤ R.cells := by rw [show (headSpec ws rm).room.cells = mc from hrc]; exact hp.1
  have h5 : A.slots + (headSpec ws rm).room.slots ≤ R.slots := by rw [show (headSpec ws rm).room.slots = ms from hrs]; exact hp.2.1
  have hPc : Pc a (A.U.calling g mk a) := hblind _ _ _ _ hp.2.2
  obtain ⟨U, Ls, c0, s0⟩ := A
  dsimp only [Pt.U, Pt.locs, Pt.cells, Pt.slots] at h1 h2 h3 h4 h5 X hn hPc ⊢
  obtain ⟨methY, cY, hmY, hcY, -, hlY, -, -, -, -⟩ := Cond.code_spec hn h2
  obtain ⟨kY, hkY, -⟩ := className_of_methodNamed hn
  have hinitY : kY.init = .initialized := Cond.initialized_spec (findClass_of_methodNamed hn) hkY h3
  have h : At U g.method c below := by rw [hg]; exact X.here
  have hlocals9 : W9 + (maxL + 11) + (headSpec ws rm).room.locals ≤ R.locals := hlocals
  have happ : (headSpec ws rm).appliesLoose y e.platform (U.calling g mk a) = true :=
    Spec.appliesLoose_calling (g := g) h hdg hn hkY hinitY
      (X.room_calling (g := g) (R' := (headSpec ws rm).room) hsize hmY hcY hframes (by rw [hlY]; omega) h4 h5) h1
  obtain ⟨mid, hmid⟩ := h.above
  have hfr : (U.setTop g).frames = (.java g :: mid) ++ below := by rw [State.frames_setTop' g h.top, hmid]; rfl
  obtain ⟨o, s₂, hsteps, -, hend, hq⟩ := Steps.callFree hM p X.admits X.cas X.clock (acts := []) hfr happ hPc trivial
  have hq' : vx_Q Qc XC mc ms free a (U.calling g mk a) o s₂ := hq
  rw [State.frames_setTop' g h.top] at hend
  obtain ⟨g₀, hg0⟩ := Option.isSome_iff_exists.mp h.top
  obtain ⟨r, hr⟩ := State.topJava?_eq_some.mp hg0
  have hr' : (({ U with heap := s₂.heap, slotsUsed := s₂.slotsUsed } : State).setVm s₂.vm).frames = .java g₀ :: r := hr
  rcases hq' with ⟨hqc, L, hfe, hL⟩ | ⟨q, rfl, E, ce, L, hx, hce, hcv, hcl, hW₂, hsm, hL⟩
  · obtain ⟨⟨v, rfl⟩, hW₂, e2, q2, q3, q4, q5, q6⟩ := id hfe
    have e3 : s₂ = ({ (U.calling g mk a).setFrames s₂.frames with heap := s₂.heap, slotsUsed := s₂.slotsUsed } : State).setVm s₂.vm := by
      have : s₂ = ({ s₂ with vm := (U.calling g mk a).vm } : State).setVm s₂.vm := rfl
      rw [e2] at this
      exact this
    obtain ⟨c₂, i₂, len₂, hc₂, hd₂, hf₂⟩ := hend
    have hW' : U.WarmedH s₂.vm := hW₂
    have hcc : c₂ = c := by
      have h1 : s₂.code? g.method = U.code? g.method := by
        rw [State.code?_eq, State.code?_eq, hW'.alike.method?]
      exact Option.some.inj (hc₂.symm.trans (h1.trans h.code))
    subst hcc
    have hlen : len₂ = len := by rw [hdg] at hd₂; cases hd₂; rfl
    subst hlen
    have hs₂ : s₂ = (({ U with heap := s₂.heap, slotsUsed := s₂.slotsUsed } : State).setVm s₂.vm).setTop { g with pc := g.pc + len₂, stack := v.toList ++ g.stack } := by
      refine e3.trans ?_
      rw [hf₂, State.calling_eq h.top, State.setFrames_setFrames, State.setTop_of_frames _ hr', hr]
      rfl
    have hsame : U.sameButNew ({ U with heap := s₂.heap, slotsUsed := s₂.slotsUsed } : State) L mc ms := by
      refine ⟨?_, q2, q3, q4, q5, q6⟩
      obtain ⟨t, ht, -⟩ := State.frames_cons hr
      show ({ U with heap := s₂.heap, slotsUsed := s₂.slotsUsed } : State) = { U.setFrames U.frames with heap := s₂.heap, slotsUsed := s₂.slotsUsed }
      rw [State.setFrames_self ht]
    subst hg
    refine Or.inl ⟨v, ⟨(({ U with heap := s₂.heap, slotsUsed := s₂.slotsUsed } : State).setVm s₂.vm), Ls ++ L, c0 + mc, s0 + ms⟩,
      ⟨X.admits, X.cas, X.clock, X.frames, X.room, X.hears, X.method, X.code, (X.here.setHeapUsed s₂.heap s₂.slotsUsed).setVm hW'.alike, X.tail, State.WarmedH.trans X.warmed hW', X.limits, X.bytes, X.same.trans (hsame.setVm s.vm)⟩,
      ⟨g, mk, s₂, L, rfl, rfl, hqc, rfl, hL, rfl, rfl⟩, ?_⟩
    show Steps p.tables e below _ ((({ U with heap := s₂.heap, slotsUsed := s₂.slotsUsed } : State).setVm s₂.vm).setTop { g with pc := g.pc + len₂, stack := v.toList ++ g.stack })
    rw [← hs₂]
    exact hsteps
  · obtain ⟨e2, q2, q3, q4, q5, q6⟩ := id hsm
    have e3 : s₂ = ({ (U.calling g mk a).setFrames s₂.frames with heap := s₂.heap, slotsUsed := s₂.slotsUsed } : State).setVm s₂.vm := by
      have : s₂ = ({ s₂ with vm := (U.calling g mk a).vm } : State).setVm s₂.vm := rfl
      rw [e2] at this
      exact this
    have hf₂ : s₂.frames = .throwing q :: .java g :: U.frames.tail := hend
    have hW' : U.WarmedH s₂.vm := hW₂
    have hs₂ : s₂ = ((({ U with heap := s₂.heap, slotsUsed := s₂.slotsUsed } : State).setVm s₂.vm).setTop g).pushFrame (.throwing q) := by
      refine e3.trans ?_
      rw [hf₂, State.calling_eq h.top, State.setFrames_setFrames, State.pushFrame, State.frames_setTop _ hr', State.setTop_of_frames _ hr', State.setFrames_setFrames, hr]
      rfl
    have hsame : U.sameButNew ({ U with heap := s₂.heap, slotsUsed := s₂.slotsUsed } : State) L mc ms := by
      refine ⟨?_, q2, q3, q4, q5, q6⟩
      obtain ⟨t, ht, -⟩ := State.frames_cons hr
      show ({ U with heap := s₂.heap, slotsUsed := s₂.slotsUsed } : State) = { U.setFrames U.frames with heap := s₂.heap, slotsUsed := s₂.slotsUsed }
      rw [State.setFrames_self ht]
    subst hg
    refine Or.inr ⟨q, ⟨(({ U with heap := s₂.heap, slotsUsed := s₂.slotsUsed } : State).setVm s₂.vm), Ls ++ L, c0 + mc, s0 + ms⟩,
      ⟨X.admits, X.cas, X.clock, X.frames, X.room, X.hears, X.method, X.code, (X.here.setHeapUsed s₂.heap s₂.slotsUsed).setVm hW'.alike, X.tail, State.WarmedH.trans X.warmed hW', X.limits, X.bytes, X.same.trans (hsame.setVm s.vm)⟩,
      ⟨g, mk, s₂, L, E, ce, rfl, rfl, hx, hce, hcv, hcl, rfl, hL, rfl, rfl⟩, ?_⟩
    show Steps p.tables e below _ (((({ U with heap := s₂.heap, slotsUsed := s₂.slotsUsed } : State).setVm s₂.vm).setTop g).pushFrame (.throwing q))
    rw [← hs₂]
    exact hsteps
end Payer
section Calls
variable {p : Program} {l : Launch} {e : Env} {R : Room} {s : State} {m : MethodId} {args : Array Value} {below : List Frame} {meth : Method} {c : Code} {T : State} {locs : List Loc} {cells slots : Nat}
theorem vx_callV (X : Stand p l e R s m args below meth c T locs cells slots) (hexec : p.tables.exec = Jvm.exec) {own C : String} {index : Nat} {y : MethodName} {bytes : ByteArray} {maxL : Nat} {ret : Option FieldType}
    (hown : s.vm.findClass own = some m.cls) (hlink : (Cond.methodLink own index y).before args s = true) (hinst : (Cond.instanceMethod y).before args s = true) (hsel : (Cond.selects C y y).before args s = true)
    (hcode : (Cond.code y bytes maxL ret).before args s = true) (hy : y.cls ≠ "java/lang/invoke/MethodHandle" ∧ y.cls ≠ "java/lang/invoke/VarHandle")
    {W9 : Nat} {Pre : Pt → Array Value → Prop} {Post : Pt → Array Value → Option Value → Pt → Prop} {PostX : Pt → Array Value → Addr → Pt → Prop} (hK : vx_Back l R p e below s args y 3 W9 Pre Post PostX)
    {b : Addr} {cellB : Cell} (hcell : T.heap[b]? = some cellB) (hobj : cellB.vm.isStatics = false) (hcls : s.vm.findClass C = some cellB.cls)
    {g : JFrame} (hg : g.method = m) (hsize : g.locals.size = c.maxLocals) {argsL rest : List Value} (hlen : ∀ sig, parseMethodDescriptor y.desc = some sig → argsL.length = sig.parameters.length)
    (hstack : g.stack = argsL.reverse ++ .ref b :: rest) (hW : 2 * g.monitorRoom + (rest.map fun v => v.category).sum ≤ W9) (hdg : decode c.code g.pc = .ok (.invokevirtual index, 3))
    (hpre : ∀ vm₁, s.WarmedH vm₁ → Pre ⟨T.setVm vm₁, locs, cells, slots⟩ (Value.ref b :: argsL).toArray) :
    (∃ (v : Option Value) (vm₁ : Vm) (B : Pt), s.WarmedH vm₁ ∧ Stand p l e R s m args below meth c B.U B.locs B.cells B.slots ∧ Post ⟨T.setVm vm₁, locs, cells, slots⟩ (Value.ref b :: argsL).toArray v B ∧
      ∀ target, Steps p.tables e below (B.U.setTop { g with pc := g.pc + 3, stack := v.toList ++ rest }) target → Steps p.tables e below (T.setTop g) target) ∨
    (∃ (q : Addr) (vm₁ : Vm) (B : Pt), s.WarmedH vm₁ ∧ Stand p l e R s m args below meth c B.U B.locs B.cells B.slots ∧ PostX ⟨T.setVm vm₁, locs, cells, slots⟩ (Value.ref b :: argsL).toArray q B ∧
      Steps p.tables e below (T.setTop g) ((B.U.setTop { g with stack := rest }).pushFrame (.throwing q))) := by
  obtain ⟨mk, methM, hnamed, hmethM, hstM, habM⟩ := Cond.instanceMethod_spec hinst
  obtain ⟨methM', cM, hmethM', -, -, -, -, -, -, hsigM⟩ := Cond.code_spec hnamed hcode
  cases hmethM.symm.trans hmethM'
  obtain ⟨c2, r2, m2, q1, q2, q3, q4, kP, hkP, hkPi⟩ := Cond.selects_spec hsel
  cases hcls.symm.trans q1
  cases (State.methodFound?_of_named hnamed hy).symm.trans q2
  cases hnamed.symm.trans q3
  have hselP : selectMethod e.platform s.vm cellB.cls mk = .method mk := by rw [Launch.admits_selectMethod X.admits]; exact q4
  obtain ⟨vm₁, X₁, hstep₁⟩ := X.invokevirtual hexec hown hlink hnamed hmethM hstM hkP hkPi hy (a := b) (cell := cellB) hcell
    (fun z h => by rw [h] at hobj; cases hobj) hselP hmethM habM hkP hkPi (g := g) hg (argsL := argsL) (rest := rest) (hlen _ hsigM) hstack hdg
  rcases hK m meth c ⟨T.setVm vm₁, locs, cells, slots⟩ { g with stack := rest } (.invokevirtual index) mk (Value.ref b :: argsL).toArray X₁ hg hsize hdg hW (X₁.named hnamed) (hpre vm₁ X₁.warmed) with ⟨v, B, X', hpost, hsteps⟩ | ⟨q, B, X', hpost, hsteps⟩
  · exact Or.inl ⟨v, vm₁, B, X₁.warmed, X', hpost, fun target h => hstep₁ _ fun acts => by rw [doInvoke_state]; exact hsteps.trans h⟩
  · exact Or.inr ⟨q, vm₁, B, X₁.warmed, X', hpost, hstep₁ _ fun acts => by rw [doInvoke_state]; exact hsteps⟩
theorem vx_callS (X : Stand p l e R s m args below meth c T locs cells slots) (hexec : p.tables.exec = Jvm.exec) {own : String} {index : Nat} {y : MethodName} {bytes : ByteArray} {maxL : Nat} {ret : Option FieldType}
    (hown : s.vm.findClass own = some m.cls) (hlink : (Cond.methodLink own index y).before args s = true) (hstat : (Cond.static y).before args s = true) (hinit : (Cond.initialized y.cls).before args s = true)
    (hcode : (Cond.code y bytes maxL ret).before args s = true) (hy : y.cls ≠ "java/lang/invoke/MethodHandle" ∧ y.cls ≠ "java/lang/invoke/VarHandle")
    {W9 : Nat} {Pre : Pt → Array Value → Prop} {Post : Pt → Array Value → Option Value → Pt → Prop} {PostX : Pt → Array Value → Addr → Pt → Prop} (hK : vx_Back l R p e below s args y 3 W9 Pre Post PostX)
    {g : JFrame} (hg : g.method = m) (hsize : g.locals.size = c.maxLocals) {argsL rest : List Value} (hlen : ∀ sig, parseMethodDescriptor y.desc = some sig → argsL.length = sig.parameters.length)
    (hstack : g.stack = argsL.reverse ++ rest) (hW : 2 * g.monitorRoom + (rest.map fun v => v.category).sum ≤ W9) (hdg : decode c.code g.pc = .ok (.invokestatic index, 3))
    (hpre : ∀ vm₁, s.WarmedH vm₁ → Pre ⟨T.setVm vm₁, locs, cells, slots⟩ argsL.toArray) :
    (∃ (v : Option Value) (vm₁ : Vm) (B : Pt), s.WarmedH vm₁ ∧ Stand p l e R s m args below meth c B.U B.locs B.cells B.slots ∧ Post ⟨T.setVm vm₁, locs, cells, slots⟩ argsL.toArray v B ∧
      ∀ target, Steps p.tables e below (B.U.setTop { g with pc := g.pc + 3, stack := v.toList ++ rest }) target → Steps p.tables e below (T.setTop g) target) ∨
    (∃ (q : Addr) (vm₁ : Vm) (B : Pt), s.WarmedH vm₁ ∧ Stand p l e R s m args below meth c B.U B.locs B.cells B.slots ∧ PostX ⟨T.setVm vm₁, locs, cells, slots⟩ argsL.toArray q B ∧
      Steps p.tables e below (T.setTop g) ((B.U.setTop { g with stack := rest }).pushFrame (.throwing q))) := by
  obtain ⟨mk, hnamed⟩ := Cond.code_named hcode
  obtain ⟨methM, cM, hmethM, -, -, -, -, -, -, hsigM⟩ := Cond.code_spec hnamed hcode
  have hstatic : methM.isStatic = true := Cond.static_spec hnamed hmethM hstat
  obtain ⟨kP, hkP, -⟩ := className_of_methodNamed hnamed
  have hinitP : kP.init = .initialized := Cond.initialized_spec (findClass_of_methodNamed hnamed) hkP hinit
  obtain ⟨vm₁, X₁, hstep₁⟩ := X.invokestatic hexec hown hlink hnamed hmethM hstatic hkP hinitP hy (g := g) hg (argsL := argsL) (rest := rest) (hlen _ hsigM) hstack hdg
  rcases hK m meth c ⟨T.setVm vm₁, locs, cells, slots⟩ { g with stack := rest } (.invokestatic index) mk argsL.toArray X₁ hg hsize hdg hW (X₁.named hnamed) (hpre vm₁ X₁.warmed) with ⟨v, B, X', hpost, hsteps⟩ | ⟨q, B, X', hpost, hsteps⟩
  · exact Or.inl ⟨v, vm₁, B, X₁.warmed, X', hpost, fun target h => hstep₁ _ fun acts => by rw [doInvoke_state]; exact hsteps.trans h⟩
  · exact Or.inr ⟨q, vm₁, B, X₁.warmed, X', hpost, hstep₁ _ fun acts => by rw [doInvoke_state]; exact hsteps⟩
end Calls
theorem vx_cls {s : State} {T : State} {vm₁ : Vm} {E : String} {k : ClassId} (hW : s.WarmedH vm₁) (h : (T.setVm vm₁).vm.findClass E = some k) : s.vm.findClass E = some k := by
  have h1 : vm₁.findClass E = some k := h
  rw [hW.alike.findClass] at h1
  exact h1
/-- the method's frame g, with q thrown over it -/
def vx_W (p : Program) (l : Launch) (e : Env) (R : Room) (s : State) (m : MethodId) (args : Array Value) (below : List Frame) (meth : Method) (c : Code) (H : Heap) (locs : List Loc) (cells slots : Nat) (Q : State → Prop) (g : JFrame) (q : Addr) : Prop :=
  ∀ T : State, T.heap = H → Stand p l e R s m args below meth c T locs cells slots → ∃ t, Steps p.tables e below ((T.setTop g).pushFrame (.throwing q)) t ∧ Q t
def vx_Run (p : Program) (l : Launch) (e : Env) (R : Room) (s : State) (m : MethodId) (args : Array Value) (below : List Frame) (meth : Method) (c : Code) (H : Heap) (locs : List Loc) (cells slots mc ms : Nat) (g : JFrame) (rest : List Value) (Qa : State → Outcome → State → Prop) (XC : String → State → State → Prop) (free : Addr → Prop) : Prop :=
  ∀ T : State, T.heap = H → Stand p l e R s m args below meth c T locs cells slots →
    (∃ (v : Option Value) (st₀ t T' : State) (L : List Loc), st₀.heap = H ∧ Stand p l e R s m args below meth c T' (locs ++ L) (cells + mc) (slots + ms) ∧ (∀ q ∈ L, free q.base) ∧ T'.heap = t.heap ∧ T'.vm = t.vm ∧ Qa st₀ (.returned v) t ∧
      Goes p e below T g T' { g with pc := g.pc + 3, stack := v.toList ++ rest }) ∨
    (∃ (q : Addr) (st₀ t T' : State) (L : List Loc) (E : String) (ce : Cell), st₀.heap = H ∧ Stand p l e R s m args below meth c T' (locs ++ L) (cells + mc) (slots + ms) ∧ (∀ z ∈ L, free z.base) ∧ T'.heap = t.heap ∧ T'.vm = t.vm ∧ XC E st₀ t ∧ t.heap[q]? = some ce ∧ ce.vm = .none ∧ s.vm.findClass E = some ce.cls ∧
      Steps p.tables e below (T.setTop g) ((T'.setTop { g with stack := rest }).pushFrame (.throwing q)))
def vx_X {S : Type} (px : S → Prop) (B : String → S → State → Prop) (A : Nat → Prop) : String → State → State → Prop := fun E st t => ∃ u : S, px u ∧ B E u t ∧ va_F A st t
section Runs
variable {p : Program} {l : Launch} {e : Env} {R : Room} {s : State} {m : MethodId} {args : Array Value} {below : List Frame} {meth : Method} {c : Code} {H : Heap} {locs : List Loc} {cells slots : Nat}
variable {y : MethodName} {bytes cc : ByteArray} {maxL nL mc ms n index : Nat} {ret : Option FieldType} {ws : List Cond} {rm : Room} {Pc : Array Value → State → Prop} {Qc : Array Value → State → Outcome → State → Prop} {XC : String → State → State → Prop} {free : Addr → Prop} {Ts : List Cond} {own C : String} {b : Addr} {As rest : List Value} {g : JFrame}
theorem vx_callBack (cb : CallB R s args own index y bytes maxL ret ws rm mc ms n) (hM : vx_Met l y ws rm Pc Qc XC mc ms free) (hbl : FrameBlind Pc) : vx_Back l R p e below s args y 3 8 (PreOf R mc ms Pc) (PostOf Qc mc ms free) (vx_Post XC mc ms free) := by
  obtain ⟨hrc, hrs, hfr, hlo, hws, hcw, -, hini, -⟩ := cb
  exact vx_back (bytes := bytes) (maxL := maxL) (ret := ret) hM hbl hrc hrs hfr hlo hws hcw (fun a' U hW => word_at hW (Or.inl (by first | rfl | simp [Cond.onTables, Cond.keeps, Cond.steady])) hini)
theorem vx_runV (S : CallFix p m c cc nL s args Ts own) (hM : vx_Met l y ws rm Pc Qc XC mc ms free) (cw : CallW R s args own C index y bytes maxL ret ws rm mc ms n) (hp : PreV s H C b Pc As)
    (hg : g.method = m) (hn : As.length = n) (hsize : g.locals.size = nL) (hstack : g.stack = As.reverse ++ .ref b :: rest) (hW : 2 * g.monitorRoom + (rest.map fun v => v.category).sum ≤ 8) (hdg : decode cc g.pc = .ok (.invokevirtual index, 3)) (hf : cells + mc ≤ R.cells ∧ slots + ms ≤ R.slots) :
    vx_Run p l e R s m args below meth c H locs cells slots mc ms g rest (Qc (Value.ref b :: As).toArray) XC free := by
  have hK : vx_Back l R p e below s args y 3 8 (PreOf R mc ms Pc) (PostOf Qc mc ms free) (vx_Post XC mc ms free) := vx_callBack cw.1 hM hp.1
  obtain ⟨⟨-, -, -, -, -, -, hcode, -, hy, hlen, hl⟩, hin, hse⟩ := cw
  obtain ⟨hx, hb, hml, ho, -⟩ := S
  obtain ⟨-, ⟨cellB, hcB, hoB, hclB⟩, hPc⟩ := hp
  intro T hT X
  rcases vx_callV X hx (C := C) (bytes := bytes) (maxL := maxL) (ret := ret) ho hl hin hse hcode hy hK (by rw [hT]; exact hcB) hoB hclB hg (hsize.trans hml.symm) (argsL := As) (rest := rest) (fun sig h => hn.trans (hlen sig h)) hstack hW (by rw [hb]; exact hdg)
    (fun vm₁ hW₁ => ⟨hf.1, hf.2, hPc (T.setVm vm₁) hT hW₁⟩) with ⟨v, vm₁, ⟨U', l2, c2, s2⟩, hW₁, X', ⟨g', mk, t, L, e1, e2, hq, h1, hL, h2, h3⟩, st⟩ | ⟨q, vm₁, ⟨U', l2, c2, s2⟩, hW₁, X', ⟨g', mk, t, L, E, ce, e1, e2, hq, hce, hcv, hcl, h1, hL, h2, h3⟩, st⟩
  · dsimp only [Pt.U, Pt.locs, Pt.cells, Pt.slots] at X' e1 e2 h1 h2 h3 st
    subst h1; subst h2; subst h3
    exact Or.inl ⟨v, (T.setVm vm₁).calling g' mk (Value.ref b :: As).toArray, t, U', L, hT, X', hL, e1, e2, hq, st⟩
  · dsimp only [Pt.U, Pt.locs, Pt.cells, Pt.slots] at X' e1 e2 h1 h2 h3 st hcl
    subst h1; subst h2; subst h3
    exact Or.inr ⟨q, (T.setVm vm₁).calling g' mk (Value.ref b :: As).toArray, t, U', L, E, ce, hT, X', hL, e1, e2, hq, hce, hcv, vx_cls hW₁ hcl, st⟩
theorem vx_runS (S : CallFix p m c cc nL s args Ts own) (hM : vx_Met l y ws rm Pc Qc XC mc ms free) (cw : CallB R s args own index y bytes maxL ret ws rm mc ms n ∧ (Cond.static y).before args s = true) (hp : PreS s H Pc As)
    (hg : g.method = m) (hn : As.length = n) (hsize : g.locals.size = nL) (hstack : g.stack = As.reverse ++ rest) (hW : 2 * g.monitorRoom + (rest.map fun v => v.category).sum ≤ 8) (hdg : decode cc g.pc = .ok (.invokestatic index, 3)) (hf : cells + mc ≤ R.cells ∧ slots + ms ≤ R.slots) :
    vx_Run p l e R s m args below meth c H locs cells slots mc ms g rest (Qc As.toArray) XC free := by
  have hK : vx_Back l R p e below s args y 3 8 (PreOf R mc ms Pc) (PostOf Qc mc ms free) (vx_Post XC mc ms free) := vx_callBack cw.1 hM hp.1
  obtain ⟨⟨-, -, -, -, -, -, hcode, hini, hy, hlen, hl⟩, hstt⟩ := cw
  obtain ⟨hx, hb, hml, ho, -⟩ := S
  intro T hT X
  rcases vx_callS X hx (bytes := bytes) (maxL := maxL) (ret := ret) ho hl hstt hini hcode hy hK hg (hsize.trans hml.symm) (argsL := As) (rest := rest) (fun sig h => hn.trans (hlen sig h)) hstack hW (by rw [hb]; exact hdg)
    (fun vm₁ hW₁ => ⟨hf.1, hf.2, hp.2 (T.setVm vm₁) hT hW₁⟩) with ⟨v, vm₁, ⟨U', l2, c2, s2⟩, hW₁, X', ⟨g', mk, t, L, e1, e2, hq, h1, hL, h2, h3⟩, st⟩ | ⟨q, vm₁, ⟨U', l2, c2, s2⟩, hW₁, X', ⟨g', mk, t, L, E, ce, e1, e2, hq, hce, hcv, hcl, h1, hL, h2, h3⟩, st⟩
  · dsimp only [Pt.U, Pt.locs, Pt.cells, Pt.slots] at X' e1 e2 h1 h2 h3 st
    subst h1; subst h2; subst h3
    exact Or.inl ⟨v, (T.setVm vm₁).calling g' mk As.toArray, t, U', L, hT, X', hL, e1, e2, hq, st⟩
  · dsimp only [Pt.U, Pt.locs, Pt.cells, Pt.slots] at X' e1 e2 h1 h2 h3 st hcl
    subst h1; subst h2; subst h3
    exact Or.inr ⟨q, (T.setVm vm₁).calling g' mk As.toArray, t, U', L, E, ce, hT, X', hL, e1, e2, hq, hce, hcv, vx_cls hW₁ hcl, st⟩
end Runs
section Rows
variable {p : Program} {l : Launch} {e : Env} {R : Room} {s : State} {m : MethodId} {args : Array Value} {below : List Frame} {meth : Method} {c : Code} {H : Heap} {locs : List Loc} {cells slots : Nat} {Q : State → Prop}
variable {mc ms : Nat} {free : Addr → Prop} {A0 A1 : Nat → Prop} {H0 : Heap} {a : Array Value} {pc : Nat} {ls : Array Slot} {st0 rest : List Value}
theorem vx_keep {st₀ t T' : State} {L : List Loc} (h0 : st₀.heap = H) (e1 : T'.heap = t.heap) (hS : va_S A0 H0 H locs) (hA : ∀ q, q < H.size → A1 q → A0 q) (hf : ∀ q, free q → A0 q) (hL : ∀ q ∈ L, free q.base) (hF : va_F A1 st₀ t) :
    H.size ≤ T'.heap.size ∧ (∀ q : Nat, q < H.size → ¬ A1 q → T'.heap[q]? = H[q]?) ∧ va_S A0 H0 T'.heap (locs ++ L) := by
  obtain ⟨hz, hk⟩ := hF
  rw [h0] at hz hk
  exact ⟨by rw [e1]; exact hz, fun q h1 h2 => by rw [e1]; exact hk q h1 h2,
    ⟨Nat.le_trans hS.1 (by rw [e1]; exact hz), fun q h1 h2 => by rw [e1, hk q (Nat.lt_of_lt_of_le h1 hS.1) (fun z => h2 (hA q (Nat.lt_of_lt_of_le h1 hS.1) z))]; exact hS.2.1 q h1 h2, fun q hq => by
      rcases List.mem_append.mp hq with h | h
      · exact hS.2.2 q h
      · exact hf _ (hL q h)⟩⟩
theorem vx_calli {S SX : Type} {post : Int32 → S → Prop} {px : SX → Prop} {B : S → State → Prop} {BX : String → SX → State → Prop} {AX : Nat → Prop} (hr : vx_Run p l e R s m args below meth c H locs cells slots mc ms (F0 m pc ls st0) rest (va_Qi post B A1 a) (vx_X px BX AX) free) (hS : va_S A0 H0 H locs) (hA : ∀ q, q < H.size → A1 q → A0 q) (hf : ∀ q, free q → A0 q) (hAX : ∀ q, q < H.size → AX q → A0 q)
    (kx : ∀ (E : String) (ce : Cell) (q9 : Addr) (u : SX) (t : State) (H1 : Heap) (locs1 : List Loc), t.heap = H1 → s.vm.Alike t.vm → px u → BX E u t → H.size ≤ H1.size → (∀ q : Nat, q < H.size → ¬ AX q → H1[q]? = H[q]?) → va_S A0 H0 H1 locs1 → H1[q9]? = some ce → ce.vm = .none → s.vm.findClass E = some ce.cls → vx_W p l e R s m args below meth c H1 locs1 (cells + mc) (slots + ms) Q (F0 m pc ls rest) q9)
    (kk : ∀ (r : Int32) (u : S) (t : State) (H1 : Heap) (locs1 : List Loc), t.heap = H1 → s.vm.Alike t.vm → post r u → B u t → H.size ≤ H1.size → (∀ q : Nat, q < H.size → ¬ A1 q → H1[q]? = H[q]?) → va_S A0 H0 H1 locs1 → W p l e R s m args below meth c H1 locs1 (cells + mc) (slots + ms) Q (F0 m (pc + 3) ls (.int r :: rest))) : W p l e R s m args below meth c H locs cells slots Q (F0 m pc ls st0) := by
  intro T hT X
  rcases hr T hT X with ⟨v, st₀, t, T', L, h0, X', hL, e1, e2, ⟨⟨r, u, hv, hp, hb⟩, hF⟩, st⟩ | ⟨q, st₀, t, T', L, E, ce, h0, X', hL, e1, e2, ⟨u, hp, hb, hF⟩, hce, hcv, hcl, st⟩
  · cases hv
    obtain ⟨k1, k2, k3⟩ := vx_keep h0 e1 hS hA hf hL hF
    obtain ⟨t2, a1, b1⟩ := kk r u t T'.heap (locs ++ L) e1.symm (by rw [← e2]; exact X'.warmed.alike) hp hb k1 k2 k3 T' rfl X'
    exact ⟨t2, st t2 a1, b1⟩
  · obtain ⟨k1, k2, k3⟩ := vx_keep h0 e1 hS hAX hf hL hF
    obtain ⟨t2, a1, b1⟩ := kx E ce q u t T'.heap (locs ++ L) e1.symm (by rw [← e2]; exact X'.warmed.alike) hp hb k1 k2 k3 (by rw [e1]; exact hce) hcv hcl T' rfl X'
    exact ⟨t2, st.trans a1, b1⟩
theorem vx_calll {S SX : Type} {post : Int64 → S → Prop} {px : SX → Prop} {B : S → State → Prop} {BX : String → SX → State → Prop} {AX : Nat → Prop} (hr : vx_Run p l e R s m args below meth c H locs cells slots mc ms (F0 m pc ls st0) rest (va_Ql post B A1 a) (vx_X px BX AX) free) (hS : va_S A0 H0 H locs) (hA : ∀ q, q < H.size → A1 q → A0 q) (hf : ∀ q, free q → A0 q) (hAX : ∀ q, q < H.size → AX q → A0 q)
    (kx : ∀ (E : String) (ce : Cell) (q9 : Addr) (u : SX) (t : State) (H1 : Heap) (locs1 : List Loc), t.heap = H1 → s.vm.Alike t.vm → px u → BX E u t → H.size ≤ H1.size → (∀ q : Nat, q < H.size → ¬ AX q → H1[q]? = H[q]?) → va_S A0 H0 H1 locs1 → H1[q9]? = some ce → ce.vm = .none → s.vm.findClass E = some ce.cls → vx_W p l e R s m args below meth c H1 locs1 (cells + mc) (slots + ms) Q (F0 m pc ls rest) q9)
    (kk : ∀ (r : Int64) (u : S) (t : State) (H1 : Heap) (locs1 : List Loc), t.heap = H1 → s.vm.Alike t.vm → post r u → B u t → H.size ≤ H1.size → (∀ q : Nat, q < H.size → ¬ A1 q → H1[q]? = H[q]?) → va_S A0 H0 H1 locs1 → W p l e R s m args below meth c H1 locs1 (cells + mc) (slots + ms) Q (F0 m (pc + 3) ls (.long r :: rest))) : W p l e R s m args below meth c H locs cells slots Q (F0 m pc ls st0) := by
  intro T hT X
  rcases hr T hT X with ⟨v, st₀, t, T', L, h0, X', hL, e1, e2, ⟨⟨r, u, hv, hp, hb⟩, hF⟩, st⟩ | ⟨q, st₀, t, T', L, E, ce, h0, X', hL, e1, e2, ⟨u, hp, hb, hF⟩, hce, hcv, hcl, st⟩
  · cases hv
    obtain ⟨k1, k2, k3⟩ := vx_keep h0 e1 hS hA hf hL hF
    obtain ⟨t2, a1, b1⟩ := kk r u t T'.heap (locs ++ L) e1.symm (by rw [← e2]; exact X'.warmed.alike) hp hb k1 k2 k3 T' rfl X'
    exact ⟨t2, st t2 a1, b1⟩
  · obtain ⟨k1, k2, k3⟩ := vx_keep h0 e1 hS hAX hf hL hF
    obtain ⟨t2, a1, b1⟩ := kx E ce q u t T'.heap (locs ++ L) e1.symm (by rw [← e2]; exact X'.warmed.alike) hp hb k1 k2 k3 (by rw [e1]; exact hce) hcv hcl T' rfl X'
    exact ⟨t2, st.trans a1, b1⟩
theorem vx_callf {S SX : Type} {post : UInt32 → S → Prop} {px : SX → Prop} {B : S → State → Prop} {BX : String → SX → State → Prop} {AX : Nat → Prop} (hr : vx_Run p l e R s m args below meth c H locs cells slots mc ms (F0 m pc ls st0) rest (va_Qf post B A1 a) (vx_X px BX AX) free) (hS : va_S A0 H0 H locs) (hA : ∀ q, q < H.size → A1 q → A0 q) (hf : ∀ q, free q → A0 q) (hAX : ∀ q, q < H.size → AX q → A0 q)
    (kx : ∀ (E : String) (ce : Cell) (q9 : Addr) (u : SX) (t : State) (H1 : Heap) (locs1 : List Loc), t.heap = H1 → s.vm.Alike t.vm → px u → BX E u t → H.size ≤ H1.size → (∀ q : Nat, q < H.size → ¬ AX q → H1[q]? = H[q]?) → va_S A0 H0 H1 locs1 → H1[q9]? = some ce → ce.vm = .none → s.vm.findClass E = some ce.cls → vx_W p l e R s m args below meth c H1 locs1 (cells + mc) (slots + ms) Q (F0 m pc ls rest) q9)
    (kk : ∀ (r : UInt32) (u : S) (t : State) (H1 : Heap) (locs1 : List Loc), t.heap = H1 → s.vm.Alike t.vm → post r u → B u t → H.size ≤ H1.size → (∀ q : Nat, q < H.size → ¬ A1 q → H1[q]? = H[q]?) → va_S A0 H0 H1 locs1 → W p l e R s m args below meth c H1 locs1 (cells + mc) (slots + ms) Q (F0 m (pc + 3) ls (.float r :: rest))) : W p l e R s m args below meth c H locs cells slots Q (F0 m pc ls st0) := by
  intro T hT X
  rcases hr T hT X with ⟨v, st₀, t, T', L, h0, X', hL, e1, e2, ⟨⟨r, u, hv, hp, hb⟩, hF⟩, st⟩ | ⟨q, st₀, t, T', L, E, ce, h0, X', hL, e1, e2, ⟨u, hp, hb, hF⟩, hce, hcv, hcl, st⟩
  · cases hv
    obtain ⟨k1, k2, k3⟩ := vx_keep h0 e1 hS hA hf hL hF
    obtain ⟨t2, a1, b1⟩ := kk r u t T'.heap (locs ++ L) e1.symm (by rw [← e2]; exact X'.warmed.alike) hp hb k1 k2 k3 T' rfl X'
    exact ⟨t2, st t2 a1, b1⟩
  · obtain ⟨k1, k2, k3⟩ := vx_keep h0 e1 hS hAX hf hL hF
    obtain ⟨t2, a1, b1⟩ := kx E ce q u t T'.heap (locs ++ L) e1.symm (by rw [← e2]; exact X'.warmed.alike) hp hb k1 k2 k3 (by rw [e1]; exact hce) hcv hcl T' rfl X'
    exact ⟨t2, st.trans a1, b1⟩
theorem vx_calld {S SX : Type} {post : UInt64 → S → Prop} {px : SX → Prop} {B : S → State → Prop} {BX : String → SX → State → Prop} {AX : Nat → Prop} (hr : vx_Run p l e R s m args below meth c H locs cells slots mc ms (F0 m pc ls st0) rest (va_Qd post B A1 a) (vx_X px BX AX) free) (hS : va_S A0 H0 H locs) (hA : ∀ q, q < H.size → A1 q → A0 q) (hf : ∀ q, free q → A0 q) (hAX : ∀ q, q < H.size → AX q → A0 q)
    (kx : ∀ (E : String) (ce : Cell) (q9 : Addr) (u : SX) (t : State) (H1 : Heap) (locs1 : List Loc), t.heap = H1 → s.vm.Alike t.vm → px u → BX E u t → H.size ≤ H1.size → (∀ q : Nat, q < H.size → ¬ AX q → H1[q]? = H[q]?) → va_S A0 H0 H1 locs1 → H1[q9]? = some ce → ce.vm = .none → s.vm.findClass E = some ce.cls → vx_W p l e R s m args below meth c H1 locs1 (cells + mc) (slots + ms) Q (F0 m pc ls rest) q9)
    (kk : ∀ (r : UInt64) (u : S) (t : State) (H1 : Heap) (locs1 : List Loc), t.heap = H1 → s.vm.Alike t.vm → post r u → B u t → H.size ≤ H1.size → (∀ q : Nat, q < H.size → ¬ A1 q → H1[q]? = H[q]?) → va_S A0 H0 H1 locs1 → W p l e R s m args below meth c H1 locs1 (cells + mc) (slots + ms) Q (F0 m (pc + 3) ls (.double r :: rest))) : W p l e R s m args below meth c H locs cells slots Q (F0 m pc ls st0) := by
  intro T hT X
  rcases hr T hT X with ⟨v, st₀, t, T', L, h0, X', hL, e1, e2, ⟨⟨r, u, hv, hp, hb⟩, hF⟩, st⟩ | ⟨q, st₀, t, T', L, E, ce, h0, X', hL, e1, e2, ⟨u, hp, hb, hF⟩, hce, hcv, hcl, st⟩
  · cases hv
    obtain ⟨k1, k2, k3⟩ := vx_keep h0 e1 hS hA hf hL hF
    obtain ⟨t2, a1, b1⟩ := kk r u t T'.heap (locs ++ L) e1.symm (by rw [← e2]; exact X'.warmed.alike) hp hb k1 k2 k3 T' rfl X'
    exact ⟨t2, st t2 a1, b1⟩
  · obtain ⟨k1, k2, k3⟩ := vx_keep h0 e1 hS hAX hf hL hF
    obtain ⟨t2, a1, b1⟩ := kx E ce q u t T'.heap (locs ++ L) e1.symm (by rw [← e2]; exact X'.warmed.alike) hp hb k1 k2 k3 (by rw [e1]; exact hce) hcv hcl T' rfl X'
    exact ⟨t2, st.trans a1, b1⟩
theorem vx_callv {S SX : Type} {post : S → Prop} {px : SX → Prop} {B : S → State → Prop} {BX : String → SX → State → Prop} {AX : Nat → Prop} (hr : vx_Run p l e R s m args below meth c H locs cells slots mc ms (F0 m pc ls st0) rest (va_Qv post B A1 a) (vx_X px BX AX) free) (hS : va_S A0 H0 H locs) (hA : ∀ q, q < H.size → A1 q → A0 q) (hf : ∀ q, free q → A0 q) (hAX : ∀ q, q < H.size → AX q → A0 q)
    (kx : ∀ (E : String) (ce : Cell) (q9 : Addr) (u : SX) (t : State) (H1 : Heap) (locs1 : List Loc), t.heap = H1 → s.vm.Alike t.vm → px u → BX E u t → H.size ≤ H1.size → (∀ q : Nat, q < H.size → ¬ AX q → H1[q]? = H[q]?) → va_S A0 H0 H1 locs1 → H1[q9]? = some ce → ce.vm = .none → s.vm.findClass E = some ce.cls → vx_W p l e R s m args below meth c H1 locs1 (cells + mc) (slots + ms) Q (F0 m pc ls rest) q9)
    (kk : ∀ (u : S) (t : State) (H1 : Heap) (locs1 : List Loc), t.heap = H1 → s.vm.Alike t.vm → post u → B u t → H.size ≤ H1.size → (∀ q : Nat, q < H.size → ¬ A1 q → H1[q]? = H[q]?) → va_S A0 H0 H1 locs1 → W p l e R s m args below meth c H1 locs1 (cells + mc) (slots + ms) Q (F0 m (pc + 3) ls (rest))) : W p l e R s m args below meth c H locs cells slots Q (F0 m pc ls st0) := by
  intro T hT X
  rcases hr T hT X with ⟨v, st₀, t, T', L, h0, X', hL, e1, e2, ⟨⟨u, hv, hp, hb⟩, hF⟩, st⟩ | ⟨q, st₀, t, T', L, E, ce, h0, X', hL, e1, e2, ⟨u, hp, hb, hF⟩, hce, hcv, hcl, st⟩
  · cases hv
    obtain ⟨k1, k2, k3⟩ := vx_keep h0 e1 hS hA hf hL hF
    obtain ⟨t2, a1, b1⟩ := kk u t T'.heap (locs ++ L) e1.symm (by rw [← e2]; exact X'.warmed.alike) hp hb k1 k2 k3 T' rfl X'
    exact ⟨t2, st t2 a1, b1⟩
  · obtain ⟨k1, k2, k3⟩ := vx_keep h0 e1 hS hAX hf hL hF
    obtain ⟨t2, a1, b1⟩ := kx E ce q u t T'.heap (locs ++ L) e1.symm (by rw [← e2]; exact X'.warmed.alike) hp hb k1 k2 k3 (by rw [e1]; exact hce) hcv hcl T' rfl X'
    exact ⟨t2, st.trans a1, b1⟩
/-- caught by the row x of this method's table; the rows ahead don't take it -/
theorem vx_catch {own name : String} {E : String} {ce : Cell} {q : Addr} (hown : s.vm.findClass own = some m.cls) (pre : List ExceptionTableEntry) (x : ExceptionTableEntry) (suf : List ExceptionTableEntry) (hsplit : c.exceptionTable.toList = pre ++ x :: suf)
    (hpass : ∀ z ∈ pre, covers z pc = false ∨ (z.catchType ≠ 0 ∧ ∃ nm : String, (Cond.classLink own z.catchType nm).before args s = true ∧ va_Nc E nm s)) (hx : covers x pc = true) (h0 : x.catchType ≠ 0)
    (hlink : (Cond.classLink own x.catchType name).before args s = true) (hcast : (Cond.castable E name).before args s = true) (hcell : H[q]? = some ce) (hv : ce.vm = .none) (hcl : s.vm.findClass E = some ce.cls)
    (kk : W p l e R s m args below meth c H locs cells slots Q (F0 m x.handlerPc ls [.ref q])) : vx_W p l e R s m args below meth c H locs cells slots Q (F0 m pc ls rest) q := by
  intro T hT X
  have hpl : e.platform.magicAccessors = ({} : Platform).magicAccessors := by rw [X.admits.platform]
  obtain ⟨c3, c4, hc3, hc4, hasg⟩ := Cond.castable_spec hcast
  cases Option.some.inj (hc3.symm.trans hcl)
  obtain ⟨c5, hc5, hcl5⟩ := Cond.classLink_spec hown hlink e.platform hpl
  cases Option.some.inj (hc4.symm.trans hc5)
  obtain ⟨vm', X', st⟩ := X.thenCaughtThrough q (g := F0 m pc ls rest) rfl (Steps.refl _) (by rw [hT]; exact hcell) (by rw [hv]; rfl) (by obtain ⟨k9, h9, -⟩ := Vm.findClass_spec hcl; exact ⟨k9, h9⟩) pre x suf hsplit
    (fun z hz => by
      rcases hpass z hz with h | ⟨hz0, nm, hl1, hn1⟩
      · exact Or.inl h
      · obtain ⟨c6, hc6, hcl6⟩ := Cond.classLink_spec hown hl1 e.platform hpl
        obtain ⟨a8, b8, h1, h2, h3⟩ := hn1
        cases Option.some.inj (h1.symm.trans hcl)
        cases Option.some.inj (h2.symm.trans hc6)
        exact Or.inr ⟨hz0, _, hcl6, h3⟩) hx (Or.inr ⟨h0, c4, hcl5, hasg⟩)
  obtain ⟨t, a1, b1⟩ := kk (T.setVm vm') hT X'
  exact ⟨t, st.trans a1, b1⟩
end Rows
section Ends
variable {p : Program} {l : Launch} {e : Env} {R : Room} {s : State} {m : MethodId} {args : Array Value} {below : List Frame} {meth : Method} {c : Code} {H : Heap} {locs : List Loc} {cells slots : Nat} {Q : State → Prop}
variable {mc ms : Nat} {free : Addr → Prop} {A0 A1 : Nat → Prop} {H0 : Heap} {a : Array Value} {ls : Array Slot} {st0 rest : List Value}
variable {Qc : Array Value → State → Outcome → State → Prop} {XC : String → State → State → Prop}
/-- what a body that may throw owes at its end -/
def vx_MQ (below : List Frame) (Qc : Array Value → State → Outcome → State → Prop) (XC : String → State → State → Prop) (a : Array Value) (s : State) (mc ms : Nat) (free : Addr → Prop) : State → Prop := fun t =>
  ∃ o, t.status = .running ∧ Ended t below o ∧ vx_Q Qc XC mc ms free a s o t
theorem vx_ret {g : JFrame} {mc ms : Nat} (k : W p l e R s m args below meth c H locs cells slots (MQ below Qc args s mc ms free) g) : W p l e R s m args below meth c H locs cells slots (vx_MQ below Qc XC args s mc ms free) g := by
  intro T hT X
  obtain ⟨t, a1, o, b1, b2, b3, b4⟩ := k T hT X
  exact ⟨t, a1, o, b1, b2, Or.inl ⟨b3, b4⟩⟩
/-- not caught here: it goes on to the caller -/
theorem vx_widen {g : JFrame} {q : Addr} {k n : Nat} (h1 : cells ≤ k) (h2 : slots ≤ n) (kk : vx_W p l e R s m args below meth c H locs k n Q g q) : vx_W p l e R s m args below meth c H locs cells slots Q g q := fun T hT X => kk T hT (stand_widen X h1 h2)
theorem vx_out {pc : Nat} {E : String} {ce : Cell} {q : Addr} {mc ms : Nat} (hout : ∀ x ∈ c.exceptionTable.toList, covers x pc = false) (hlocks : meth.locks = false) (hcell : H[q]? = some ce) (hv : ce.vm = .none) (hcl : s.vm.findClass E = some ce.cls)
    (hx : ∀ t : State, t.heap = H → s.vm.Alike t.vm → XC E s t) (hf : ∀ z ∈ locs, free z.base) (hc : cells ≤ mc) (hs : slots ≤ ms) :
    vx_W p l e R s m args below meth c H locs cells slots (vx_MQ below Qc XC args s mc ms free) (F0 m pc ls rest) q := by
  intro T hT X
  obtain ⟨st1, hrun, hend, hW, hsm⟩ := X.leaveThrown q (g := F0 m pc ls rest) rfl rfl rfl hout hlocks
  have hcell9 : (T.setFrames (.throwing q :: below)).heap[q]? = some ce := by
    show T.heap[q]? = some ce
    rw [hT]; exact hcell
  exact ⟨_, st1, .threw q, hrun, hend, Or.inr ⟨q, rfl, E, ce, locs, hx _ hT hW.alike, hcell9, hv, hcl, hW, hsm.mono hc hs, hf⟩⟩
theorem vx_frame {U : State} {k n : Nat} (h : s.sameButNew ({ U with vm := s.vm } : State) locs k n) : s.heap.size ≤ U.heap.size ∧ ∀ q : Nat, q < s.heap.size → (∀ z ∈ locs, z.base ≠ q) → U.heap[q]? = s.heap[q]? := by
  obtain ⟨-, h2, -, -, -, h6⟩ := h
  refine ⟨h2, fun q hq hz => ?_⟩
  obtain ⟨c9, e1, e2, e3, e4⟩ := h6 q _ (Array.getElem?_eq_getElem hq)
  have hs : c9.slots = (s.heap[q]).slots := Array.ext_getElem? fun i => e4 i fun hm => hz _ hm rfl
  have h9 : c9 = s.heap[q] := by
    rw [hs] at e2
    exact e2
  have e5 : U.heap[q]? = some c9 := e1
  rw [e5, h9, Array.getElem?_eq_getElem hq]
/-- the words of a throw but the four that speak of the heap -/
def vx_no (w : Cond) : Bool := decide (w ≠ .isRef (.static Bundle.tN "UNASSIGNED_STACK" Bundle.steD)) && decide (w ≠ .isRef (.static Bundle.tN "SUPPRESSED_SENTINEL" Bundle.listD)) && decide (w ≠ .laysStatic Bundle.tN "UNASSIGNED_STACK" Bundle.steD) && decide (w ≠ .laysStatic Bundle.tN "SUPPRESSED_SENTINEL" Bundle.listD)
def vx_at0 (own : String) (ic : Nat) (X : String) (names : List String) : List Cond := (Bundle.ownAtoms0 own ic X names).filter vx_no
def vx_atS (own : String) (ic : Nat) (X : String) (names : List String) : List Cond := (Bundle.ownAtoms own ic X names).filter vx_no
/-- a word that the tables alone decide, or a good one -/
def vx_ot (w : Cond) : Bool := w.onTables || goodWord w
theorem vx_ot_at {args a' : Array Value} {s U : State} {w : Cond} (hW : s.WarmedH U.vm) (hvm : s.vm = U.vm) (hg : vx_ot w = true) (h : w.before args s = true) : w.before a' U = true := by
  simp only [vx_ot, Bool.or_eq_true] at hg
  rcases hg with hg | hg
  · exact va_tabs hg hvm h
  · exact word_at hW (good_of_word hg) h
/-- a list's words: the good ones out of the method's own list, the others by premises of their own -/
theorem vx_hat {args : Array Value} {s : State} {L B : List Cond} (h1 : ∀ w ∈ L.filter goodWord, w.before args s = true) (h2 : ∀ w ∈ L.filter (fun w => !goodWord w), w ∈ B) (h3 : ∀ w ∈ B, w.before args s = true) : ∀ w ∈ L, w.before args s = true := by
  intro w hw
  by_cases g : goodWord w = true
  · exact h1 w (List.mem_filter.mpr ⟨hw, g⟩)
  · refine h3 w (h2 w (List.mem_filter.mpr ⟨hw, ?_⟩))
    show (!goodWord w) = true
    cases hgw : goodWord w
    · rfl
    · exact absurd hgw g
theorem vx_c {args : Array Value} {s : State} {w : Cond} {B : List Cond} (h : w.before args s = true) (t : ∀ w ∈ B, w.before args s = true) : ∀ w' ∈ w :: B, w'.before args s = true := fun w' h' => (List.mem_cons.mp h').elim (fun e => by rw [e]; exact h) (t w')
theorem vx_n {args : Array Value} {s : State} : ∀ w ∈ ([] : List Cond), w.before args s = true := fun _ h => nomatch h
theorem vx_own {args : Array Value} {s : State} {L : List Cond} (h1 : ∀ w ∈ L.filter vx_no, w.before args s = true)
    (hU : (Cond.isRef (.static Bundle.tN "UNASSIGNED_STACK" Bundle.steD)).before args s = true) (hN : (Cond.isRef (.static Bundle.tN "SUPPRESSED_SENTINEL" Bundle.listD)).before args s = true)
    (lU : (Cond.laysStatic Bundle.tN "UNASSIGNED_STACK" Bundle.steD).before args s = true) (lN : (Cond.laysStatic Bundle.tN "SUPPRESSED_SENTINEL" Bundle.listD).before args s = true) : ∀ w ∈ L, w.before args s = true := by
  intro w hw
  by_cases e1 : w = .isRef (.static Bundle.tN "UNASSIGNED_STACK" Bundle.steD)
  · rw [e1]; exact hU
  · by_cases e2 : w = .isRef (.static Bundle.tN "SUPPRESSED_SENTINEL" Bundle.listD)
    · rw [e2]; exact hN
    · by_cases e3 : w = .laysStatic Bundle.tN "UNASSIGNED_STACK" Bundle.steD
      · rw [e3]; exact lU
      · by_cases e4 : w = .laysStatic Bundle.tN "SUPPRESSED_SENTINEL" Bundle.listD
        · rw [e4]; exact lN
        · exact h1 w (List.mem_filter.mpr ⟨hw, by unfold vx_no; rw [decide_eq_true e1, decide_eq_true e2, decide_eq_true e3, decide_eq_true e4]; rfl⟩)
/-- where a static field lies, its class's statics cell in H -/
def vx_L (C n d : String) (A : Nat → Prop) (U : State) (H : Heap) : Prop := ∃ (c : ClassId) (k : Class) (i : Nat) (f : Field) (a : Nat) (cell : Cell), U.vm.findClass C = some c ∧ U.fieldFound? C n d = some (c, k, i, f) ∧ f.isStatic = true ∧ k.statics = some a ∧ H[a]? = some cell ∧ cell.vm.isStatics = true ∧ cell.cls = c ∧ f.slot < cell.slots.size ∧ k.staticTypes[f.slot]? = some f.type ∧ ¬ A a
theorem vx_L.moved {C n d : String} {A : Nat → Prop} {u U : State} {H : Heap} (hvm : u.vm.Alike U.vm) (h : vx_L C n d A u H) : vx_L C n d A U H := by
  obtain ⟨c, k, i, f, a, cell, h1, h2, h3, h4, h5, h6, h7, h8, h9, h10⟩ := h
  obtain ⟨k', hi', he⟩ := State.fieldFound?_setVm hvm h2
  exact ⟨c, k', i, f, a, cell, by rw [hvm.findClass]; exact h1, hi', h3, by rw [he]; exact h4, h5, h6, h7, h8, by rw [he]; exact h9, h10⟩
theorem vx_L.kept {C n d : String} {A : Nat → Prop} {U : State} {H H1 : Heap} (h : vx_L C n d A U H) (hq : ∀ a : Nat, a < H.size → ¬ A a → H1[a]? = H[a]?) : vx_L C n d A U H1 := by
  obtain ⟨c, k, i, f, a, cell, h1, h2, h3, h4, h5, h6, h7, h8, h9, h10⟩ := h
  exact ⟨c, k, i, f, a, cell, h1, h2, h3, h4, by rw [hq a (Array.getElem?_eq_some_iff.mp h5).1 h10]; exact h5, h6, h7, h8, h9, h10⟩
theorem vx_L.narrow {C n d : String} {A B : Nat → Prop} {U : State} {H : Heap} (h : vx_L C n d A U H) (hAB : ∀ q, B q → A q) : vx_L C n d B U H := by
  obtain ⟨c, k, i, f, a, cell, h1, h2, h3, h4, h5, h6, h7, h8, h9, h10⟩ := h
  exact ⟨c, k, i, f, a, cell, h1, h2, h3, h4, h5, h6, h7, h8, h9, fun z => h10 (hAB _ z)⟩
theorem vx_L.word {C n d : String} {A : Nat → Prop} {s : State} {args : Array Value} (h : vx_L C n d A s s.heap) : (Cond.laysStatic C n d).before args s = true := by
  obtain ⟨c, k, i, f, a, cell, h1, h2, h3, h4, h5, h6, h7, h8, h9, -⟩ := h
  show (Cond.laysStatic C n d).holds args s none s [] = true
  exact Cond.laysStatic_of h1 h2 h3 h4 h5 h6 h7 h8 h9
/-- .. and what it holds: null or some reference -/
def vx_Zq (C n d : String) (A : Nat → Prop) (U : State) (H : Heap) : Prop := va_Zq C n d A U H ∧ vx_L C n d A U H
theorem vx_Zq.moved {C n d : String} {A : Nat → Prop} {u U : State} {H : Heap} (hvm : u.vm.Alike U.vm) (h : vx_Zq C n d A u H) : vx_Zq C n d A U H := ⟨va_Zq.moved hvm h.1, vx_L.moved hvm h.2⟩
theorem vx_Zq.kept {C n d : String} {A : Nat → Prop} {U : State} {H H1 : Heap} (h : vx_Zq C n d A U H) (hq : ∀ a : Nat, a < H.size → ¬ A a → H1[a]? = H[a]?) : vx_Zq C n d A U H1 := ⟨va_Zq.kept h.1 hq, vx_L.kept h.2 hq⟩
theorem vx_Zq.narrow {C n d : String} {A B : Nat → Prop} {U : State} {H : Heap} (h : vx_Zq C n d A U H) (hAB : ∀ q, B q → A q) : vx_Zq C n d B U H := ⟨va_Zq.narrow h.1 hAB, vx_L.narrow h.2 hAB⟩
theorem vx_Zqof {args : Array Value} {s : State} {C n d : String} {A : Nat → Prop} (hl : (Cond.laysStatic C n d).before args s = true) (hini : (Cond.initialized C).before args s = true) (h : (Cond.isRef (.static C n d)).before args s = true) (hA : ∀ a : Nat, a < s.heap.size → ¬ A a) : vx_Zq C n d A s s.heap := by
  refine ⟨va_Zqof hl hini h hA, ?_⟩
  obtain ⟨c, k, i, f, a, cell, h1, h2, h3, h4, h5, h6, h7, h8, h9⟩ := Cond.laysStatic_spec hl
  exact ⟨c, k, i, f, a, cell, h1, h2, h3, h4, h5, h6, h7, h8, h9, hA a (Array.getElem?_eq_some_iff.mp h5).1⟩
theorem vx_isRef {C n d : String} {v : Value} {A : Nat → Prop} {s : State} {args : Array Value} (h : va_Z C n d v A s s.heap) (hv : v.isRef = true) : (Cond.isRef (.static C n d)).before args s = true := by
  obtain ⟨cf, kf, fi, f, a, cell, h1, h2, h3, h4, h5, h6, h7, -⟩ := h
  have he : (Term.static C n d).eval args s none [] s = some v := by
    simp [Term.eval, State.fieldNamed?, h1, h2, h4, h5, h6, h7]
  simp only [Cond.before, Cond.holds, Cond.value, he]
  cases v <;> simp_all [Value.isRef]
theorem vx_isRefq {C n d : String} {A : Nat → Prop} {s : State} {args : Array Value} (h : va_Zq C n d A s s.heap) : (Cond.isRef (.static C n d)).before args s = true := by
  rcases h with h | ⟨t, h⟩
  · exact vx_isRef h rfl
  · exact vx_isRef h rfl
/-- the same frame, seen from here: as if the method were called anew in this heap -/
theorem vx_rebase {T : State} (X : Stand p l e R s m args below meth c T locs cells slots) {R' : Room} (hf : R'.frames ≤ R.frames) (hl : R'.locals ≤ R.locals) (hc : cells + R'.cells ≤ R.cells) (hs : slots + R'.slots ≤ R.slots) :
    Stand p l e R' ((T.setVm s.vm).setFrames (.invoking m args :: below)) m args below meth c T [] 0 0 := by
  have htop : (T.setVm s.vm).topJava?.isSome := X.here.top
  have hF : ((T.setVm s.vm).setFrames (.invoking m args :: below)).frames = .invoking m args :: below := State.frames_setFrames _ (State.cur_lt_of_top htop)
  obtain ⟨g₀, hg0⟩ := Option.isSome_iff_exists.mp htop
  obtain ⟨r, hr⟩ := State.topJava?_eq_some.mp hg0
  have hl9 : e.platform.stackLimits (T.setVm s.vm).me = e.platform.stackLimits s.me := X.limits
  have hb9 : (T.setVm s.vm).me.stackBytes = s.me.stackBytes := X.bytes
  refine ⟨X.admits, X.cas, X.clock, hF, ?_, X.hears, X.method, X.code, X.here, X.tail, X.warmed, ?_, ?_, ?_⟩
  · have h := X.room
    have hU : ((T.setVm s.vm).setFrames (.invoking m args :: below)).localsInUse = s.localsInUse := by
      rw [State.localsInUse_invoking hF (meth := meth) (c := c) X.method X.code, State.localsInUse_invoking X.frames X.method X.code]
    simp only [State.hasRoom, Bool.and_eq_true, decide_eq_true_eq] at h ⊢
    obtain ⟨⟨⟨⟨h1, h2, h3, h4, h5, h6⟩, h7⟩, h8⟩, h9⟩ := h
    rw [X.frames, List.length_cons] at h2 h3
    have q1 := X.heapSize
    have q2 := X.used
    simp only [hF, hU, List.length_cons, State.stackLimits_setFrames, State.stackBytes_setFrames, hl9, hb9]
    refine ⟨⟨⟨⟨by omega, by omega, by omega, by omega, by omega, h6⟩, ?_⟩, ?_⟩, X.book⟩
    · show T.heap.size + R'.cells ≤ e.platform.maxCells
      omega
    · show T.slotsUsed + R'.slots ≤ e.platform.maxSlots
      omega
  · rw [State.stackLimits_setFrames]; rfl
  · rw [State.stackBytes_setFrames]; rfl
  · refine ⟨?_, Nat.le_refl _, Nat.le_refl _, ?_, ?_, fun a c9 h9 => ⟨c9, h9, rfl, rfl, fun _ _ => rfl⟩⟩
    · obtain ⟨t, ht, -⟩ := State.frames_cons hr
      show T.setVm s.vm = { ((T.setVm s.vm).setFrames (.invoking m args :: below)).setFrames (T.setVm s.vm).frames with heap := T.heap, slotsUsed := T.slotsUsed }
      rw [State.setFrames_setFrames, State.setFrames_self ht]
      rfl
    · show T.slotsUsed = T.slotsUsed + ((T.heap.toList.drop T.heap.size).map (·.slots.size)).sum
      rw [List.drop_eq_nil_of_le (Nat.le_of_eq Array.length_toList)]
      rfl
    · show ((T.heap.toList.drop T.heap.size).map (·.slots.size)).sum ≤ 0
      rw [List.drop_eq_nil_of_le (Nat.le_of_eq Array.length_toList)]
      exact Nat.le_refl _
/-- 'throw new E()': new; dup; invokespecial; athrow -/
theorem vx_throw0 {cc : ByteArray} {pc : Nat} (hexec : p.tables.exec = Jvm.exec) (hb : c.code = cc) (hl : l.stackTraces = false) {own cls : String} {names : List String} {ik ic mc ms : Nat} {A : Nat → Prop}
    (hown : s.vm.findClass own = some m.cls) (hcls : Bundle.fit cls = true) (hnames : ∀ n ∈ names, Bundle.fit n = true)
    (hk : (Cond.classLink own ik cls).before args s = true) (hini : (Cond.initialized cls).before args s = true) (hat : ∀ w ∈ vx_at0 own ic cls names, w.before args s = true)
    (hgood : ∀ w ∈ Cond.classLink own ik cls :: Cond.initialized cls :: vx_at0 own ic cls names, vx_ot w = true)
    (hU : vx_Zq Bundle.tN "UNASSIGNED_STACK" Bundle.steD A s s.heap) (hN : vx_Zq Bundle.tN "SUPPRESSED_SENTINEL" Bundle.listD A s s.heap) (hS : va_S A s.heap H locs) (hsize : ls.size = c.maxLocals)
    (d0 : decode cc pc = .ok (.new ik, 3)) (d3 : decode cc (pc + 3) = .ok (.dup, 1)) (d4 : decode cc (pc + 4) = .ok (.invokespecial ic, 3)) (d7 : decode cc (pc + 7) = .ok (.athrow, 1))
    (hout : ∀ x ∈ c.exceptionTable.toList, covers x (pc + 7) = false)
    (hRframes : names.length + 3 < R.frames) (hRlocals : (rest.map fun v => v.category).sum + (13 * (names.length + 1) + 42) ≤ R.locals) (hRcells : cells + 1 ≤ R.cells) (hRslots : slots + 6 ≤ R.slots) (hlocks : meth.locks = false)
    (hx : ∀ t : State, s.vm.Alike t.vm → H.size ≤ t.heap.size → (∀ q : Nat, q < H.size → t.heap[q]? = H[q]?) → XC cls s t)
    (hf : ∀ z ∈ locs, free z.base) (hc : cells + 1 ≤ mc) (hs : slots + 6 ≤ ms) :
    W p l e R s m args below meth c H locs cells slots (vx_MQ below Qc XC args s mc ms free) (F0 m pc ls rest) := by
  intro T hT X
  have htr : e.platform.stackTraces = false := (show e.platform.stackTraces = l.stackTraces by rw [X.admits.platform]).trans hl
  have Y := vx_rebase X (R' := { frames := R.frames, locals := R.locals, cells := 1, slots := 6 }) (Nat.le_refl _) (Nat.le_refl _) hRcells hRslots
  obtain ⟨s', hA⟩ : ∃ z, z = (T.setVm s.vm).setFrames (.invoking m args :: below) := ⟨_, rfl⟩
  rw [← hA] at Y
  have hvm : s'.vm = s.vm := by rw [hA]; rfl
  have hhp : s'.heap = H := by rw [hA]; exact hT
  have hW0 : s.WarmedH s'.vm := by rw [hvm]; exact State.WarmedH.refl s
  have hat' : ∀ w ∈ vx_at0 own ic cls names, w.before args s' = true := fun w hw => vx_ot_at hW0 hvm.symm (hgood w (List.mem_cons_of_mem _ (List.mem_cons_of_mem _ hw))) (hat w hw)
  have hk' : (Cond.classLink own ik cls).before args s' = true := vx_ot_at hW0 hvm.symm (hgood _ List.mem_cons_self) hk
  have hini' : (Cond.initialized cls).before args s' = true := vx_ot_at hW0 hvm.symm (hgood _ (List.mem_cons_of_mem _ List.mem_cons_self)) hini
  have hU' : vx_Zq Bundle.tN "UNASSIGNED_STACK" Bundle.steD A s' s'.heap := by rw [hhp]; exact vx_Zq.moved hW0.alike (hU.kept hS.2.1)
  have hN' : vx_Zq Bundle.tN "SUPPRESSED_SENTINEL" Bundle.listD A s' s'.heap := by rw [hhp]; exact vx_Zq.moved hW0.alike (hN.kept hS.2.1)
  have h : ∀ w ∈ Bundle.ownAtoms0 own ic cls names, w.before args s' = true := vx_own hat' (vx_isRefq hU'.1) (vx_isRefq hN'.1) hU'.2.word hN'.2.word
  have hown' : s'.vm.findClass own = some m.cls := by rw [hvm]; exact hown
  have hins : (Cond.instantiable cls 6).before args s' = true := h _ (by simp [Bundle.ownAtoms0])
  obtain ⟨vm₁, cX, kX, hfX, hkX, -, -, X₁, st1⟩ := Y.newCold hexec (own := own) (C := cls) (index := ik) (n := 6) hown' hk' hins hini'
    (g := F0 m pc ls rest) rfl (by rw [hb]; exact d0) (Nat.le_refl _) (Nat.le_refl _)
  generalize hT1 : (T.setVm vm₁).pushCell { cls := cX, slots := kX.instanceTypes.map defaultValue, vm := .none } = T1 at X₁ st1
  have hcat : (Value.ref T.heap.size).category = 1 := rfl
  have hcellA : T1.heap[T.heap.size]? = some (freshCell cX kX) := by rw [← hT1]; exact State.heap_pushCell_size _ _
  have d3' : decode c.code (pc + 3) = .ok (.dup, 1) := by rw [hb]; exact d3
  obtain ⟨U, hsteps, hrun, hend, hW, hsame, ce, hce, hO⟩ := X₁.ctorThrow0 hexec htr (own := own) (cls := cls) (names := names) (ic := ic) hown' hcls hnames h (fun x hx => nomatch hx) hfX hkX hcellA (by rw [hhp, hT]; exact Nat.le_refl _)
    (g := { method := m, pc := pc + 4, locals := ls, stack := .ref T.heap.size :: .ref T.heap.size :: rest, locked := none }) rfl hsize rfl rfl (rest := rest) rfl
    (by rw [hb]; exact d4) (by rw [hb]; exact d7) hout hRframes (by simp only [List.map_cons, List.sum_cons, hcat]; omega) hlocks
  obtain ⟨f1, f2⟩ := vx_frame hsame
  rw [hhp] at f1 f2
  have hWs : s.WarmedH U.vm := State.WarmedH.trans hW0 hW
  have hcl : s.vm.findClass cls = some ce.cls := by
    have h9 := hO.cls
    rw [hvm] at h9
    exact h9
  have hall : s.sameButNew ({ U with vm := s.vm } : State) locs mc ms := by
    subst hA
    obtain ⟨e1, e2⟩ := hsame
    rw [State.setFrames_setFrames] at e1
    have h2 : (T.setVm s.vm).sameButNew ({ U with vm := s.vm } : State) [] (0 + 1) (0 + 6) := ⟨e1, e2⟩
    have h3 := X.same.trans h2
    rw [List.append_nil] at h3
    exact h3.mono hc hs
  refine ⟨U, ?_, .threw T.heap.size, hrun, hend, Or.inr ⟨T.heap.size, rfl, cls, ce, locs, hx U hWs.alike f1 (fun q hq => f2 q hq (fun z hz => nomatch hz)), hce, hO.vm, hcl, hWs, hall, hf⟩⟩
  refine st1 _ ?_
  show Steps p.tables e below (T1.setTop { method := m, pc := pc + 3, locals := ls, stack := .ref T.heap.size :: rest, locked := none }) _
  jvm_step X₁.here [X₁.here.top, hexec, d3', Value.category]
  exact hsteps
/-- 'throw new E("text")': new; dup; ldc; invokespecial; athrow -/
theorem vx_throwS {cc : ByteArray} {pc : Nat} (hexec : p.tables.exec = Jvm.exec) (hb : c.code = cc) (hl : l.stackTraces = false) {own cls text : String} {names : List String} {ik is ic mc ms sa : Nat} {A : Nat → Prop}
    (hown : s.vm.findClass own = some m.cls) (hcls : Bundle.fit cls = true) (hnames : ∀ n ∈ names, Bundle.fit n = true)
    (hk : (Cond.classLink own ik cls).before args s = true) (hini : (Cond.initialized cls).before args s = true) (hstr : vk_R own is text sa s) (hat : ∀ w ∈ vx_atS own ic cls names, w.before args s = true)
    (hgood : ∀ w ∈ Cond.classLink own ik cls :: Cond.initialized cls :: vx_atS own ic cls names, vx_ot w = true)
    (hU : vx_Zq Bundle.tN "UNASSIGNED_STACK" Bundle.steD A s s.heap) (hN : vx_Zq Bundle.tN "SUPPRESSED_SENTINEL" Bundle.listD A s s.heap) (hS : va_S A s.heap H locs) (hsize : ls.size = c.maxLocals)
    (d0 : decode cc pc = .ok (.new ik, 3)) (d3 : decode cc (pc + 3) = .ok (.dup, 1)) (d4 : decode cc (pc + 4) = .ok (.ldc is, 2)) (d6 : decode cc (pc + 6) = .ok (.invokespecial ic, 3)) (d9 : decode cc (pc + 9) = .ok (.athrow, 1))
    (hout : ∀ x ∈ c.exceptionTable.toList, covers x (pc + 9) = false)
    (hRframes : names.length + 3 < R.frames) (hRlocals : (rest.map fun v => v.category).sum + (13 * (names.length + 1) + 43) ≤ R.locals) (hRcells : cells + 1 ≤ R.cells) (hRslots : slots + 6 ≤ R.slots) (hlocks : meth.locks = false)
    (hx : ∀ t : State, s.vm.Alike t.vm → H.size ≤ t.heap.size → (∀ q : Nat, q < H.size → t.heap[q]? = H[q]?) → XC cls s t)
    (hf : ∀ z ∈ locs, free z.base) (hc : cells + 1 ≤ mc) (hs : slots + 6 ≤ ms) :
    W p l e R s m args below meth c H locs cells slots (vx_MQ below Qc XC args s mc ms free) (F0 m pc ls rest) := by
  intro T hT X
  have htr : e.platform.stackTraces = false := (show e.platform.stackTraces = l.stackTraces by rw [X.admits.platform]).trans hl
  have Y := vx_rebase X (R' := { frames := R.frames, locals := R.locals, cells := 1, slots := 6 }) (Nat.le_refl _) (Nat.le_refl _) hRcells hRslots
  obtain ⟨s', hA⟩ : ∃ z, z = (T.setVm s.vm).setFrames (.invoking m args :: below) := ⟨_, rfl⟩
  rw [← hA] at Y
  have hvm : s'.vm = s.vm := by rw [hA]; rfl
  have hhp : s'.heap = H := by rw [hA]; exact hT
  have hW0 : s.WarmedH s'.vm := by rw [hvm]; exact State.WarmedH.refl s
  have hat' : ∀ w ∈ vx_atS own ic cls names, w.before args s' = true := fun w hw => vx_ot_at hW0 hvm.symm (hgood w (List.mem_cons_of_mem _ (List.mem_cons_of_mem _ hw))) (hat w hw)
  have hk' : (Cond.classLink own ik cls).before args s' = true := vx_ot_at hW0 hvm.symm (hgood _ List.mem_cons_self) hk
  have hini' : (Cond.initialized cls).before args s' = true := vx_ot_at hW0 hvm.symm (hgood _ (List.mem_cons_of_mem _ List.mem_cons_self)) hini
  have hU' : vx_Zq Bundle.tN "UNASSIGNED_STACK" Bundle.steD A s' s'.heap := by rw [hhp]; exact vx_Zq.moved hW0.alike (hU.kept hS.2.1)
  have hN' : vx_Zq Bundle.tN "SUPPRESSED_SENTINEL" Bundle.listD A s' s'.heap := by rw [hhp]; exact vx_Zq.moved hW0.alike (hN.kept hS.2.1)
  have h : ∀ w ∈ Bundle.ownAtoms own ic cls names, w.before args s' = true := vx_own hat' (vx_isRefq hU'.1) (vx_isRefq hN'.1) hU'.2.word hN'.2.word
  have hown' : s'.vm.findClass own = some m.cls := by rw [hvm]; exact hown
  have hins : (Cond.instantiable cls 6).before args s' = true := h _ (by simp [Bundle.ownAtoms])
  obtain ⟨vm₁, cX, kX, hfX, hkX, -, -, X₁, st1⟩ := Y.newCold hexec (own := own) (C := cls) (index := ik) (n := 6) hown' hk' hins hini'
    (g := F0 m pc ls rest) rfl (by rw [hb]; exact d0) (Nat.le_refl _) (Nat.le_refl _)
  generalize hT1 : (T.setVm vm₁).pushCell { cls := cX, slots := kX.instanceTypes.map defaultValue, vm := .none } = T1 at X₁ st1
  have hcat : (Value.ref T.heap.size).category = 1 := rfl
  have hcellA : T1.heap[T.heap.size]? = some (freshCell cX kX) := by rw [← hT1]; exact State.heap_pushCell_size _ _
  have d3' : decode c.code (pc + 3) = .ok (.dup, 1) := by rw [hb]; exact d3
  have d4' : decode c.code (pc + 4) = .ok (.ldc is, 2) := by rw [hb]; exact d4
  have hstr' : vk_R own is text sa s' := vk_R.warm hW0 hstr
  obtain ⟨U, hsteps, hrun, hend, hW, hsame, ce, hce, hO⟩ := X₁.ctorThrowS hexec htr (own := own) (cls := cls) (names := names) (ic := ic) hown' hcls hnames h (fun x hx => nomatch hx) hfX hkX hcellA (by rw [hhp, hT]; exact Nat.le_refl _) (msg := .ref sa) rfl
    (g := { method := m, pc := pc + 6, locals := ls, stack := .ref sa :: .ref T.heap.size :: .ref T.heap.size :: rest, locked := none }) rfl hsize rfl rfl (rest := rest) rfl
    (by rw [hb]; exact d6) (by rw [hb]; exact d9) hout hRframes (by simp only [List.map_cons, List.sum_cons, hcat]; omega) hlocks
  obtain ⟨f1, f2⟩ := vx_frame hsame
  rw [hhp] at f1 f2
  have hWs : s.WarmedH U.vm := State.WarmedH.trans hW0 hW
  have hcl : s.vm.findClass cls = some ce.cls := by
    have h9 := hO.cls
    rw [hvm] at h9
    exact h9
  have hall : s.sameButNew ({ U with vm := s.vm } : State) locs mc ms := by
    subst hA
    obtain ⟨e1, e2⟩ := hsame
    rw [State.setFrames_setFrames] at e1
    have h2 : (T.setVm s.vm).sameButNew ({ U with vm := s.vm } : State) [] (0 + 1) (0 + 6) := ⟨e1, e2⟩
    have h3 := X.same.trans h2
    rw [List.append_nil] at h3
    exact h3.mono hc hs
  refine ⟨U, ?_, .threw T.heap.size, hrun, hend, Or.inr ⟨T.heap.size, rfl, cls, ce, locs, hx U hWs.alike f1 (fun q hq => f2 q hq (fun z hz => nomatch hz)), hce, hO.vm, hcl, hWs, hall, hf⟩⟩
  refine st1 _ ?_
  show Steps p.tables e below (T1.setTop { method := m, pc := pc + 3, locals := ls, stack := .ref T.heap.size :: rest, locked := none }) _
  jvm_step X₁.here [X₁.here.top, hexec, d3', Value.category]
  exact X₁.ldcString hexec (own := own) (text := text) (index := is) (a := sa) hown' hstr'.1 hstr'.2
    (g := { method := m, pc := pc + 4, locals := ls, stack := .ref T.heap.size :: .ref T.heap.size :: rest, locked := none }) rfl d4' _ hsteps
/-- 'throw new E("text")', the text by a wide index -/
theorem vx_throwSW {cc : ByteArray} {pc : Nat} (hexec : p.tables.exec = Jvm.exec) (hb : c.code = cc) (hl : l.stackTraces = false) {own cls text : String} {names : List String} {ik is ic mc ms sa : Nat} {A : Nat → Prop}
    (hown : s.vm.findClass own = some m.cls) (hcls : Bundle.fit cls = true) (hnames : ∀ n ∈ names, Bundle.fit n = true)
    (hk : (Cond.classLink own ik cls).before args s = true) (hini : (Cond.initialized cls).before args s = true) (hstr : vk_R own is text sa s) (hat : ∀ w ∈ vx_atS own ic cls names, w.before args s = true)
    (hgood : ∀ w ∈ Cond.classLink own ik cls :: Cond.initialized cls :: vx_atS own ic cls names, vx_ot w = true)
    (hU : vx_Zq Bundle.tN "UNASSIGNED_STACK" Bundle.steD A s s.heap) (hN : vx_Zq Bundle.tN "SUPPRESSED_SENTINEL" Bundle.listD A s s.heap) (hS : va_S A s.heap H locs) (hsize : ls.size = c.maxLocals)
    (d0 : decode cc pc = .ok (.new ik, 3)) (d3 : decode cc (pc + 3) = .ok (.dup, 1)) (d4 : decode cc (pc + 4) = .ok (.ldc_w is, 3)) (d7 : decode cc (pc + 7) = .ok (.invokespecial ic, 3)) (d10 : decode cc (pc + 10) = .ok (.athrow, 1))
    (hout : ∀ x ∈ c.exceptionTable.toList, covers x (pc + 10) = false)
    (hRframes : names.length + 3 < R.frames) (hRlocals : (rest.map fun v => v.category).sum + (13 * (names.length + 1) + 43) ≤ R.locals) (hRcells : cells + 1 ≤ R.cells) (hRslots : slots + 6 ≤ R.slots) (hlocks : meth.locks = false)
    (hx : ∀ t : State, s.vm.Alike t.vm → H.size ≤ t.heap.size → (∀ q : Nat, q < H.size → t.heap[q]? = H[q]?) → XC cls s t)
    (hf : ∀ z ∈ locs, free z.base) (hc : cells + 1 ≤ mc) (hs : slots + 6 ≤ ms) :
    W p l e R s m args below meth c H locs cells slots (vx_MQ below Qc XC args s mc ms free) (F0 m pc ls rest) := by
  intro T hT X
  have htr : e.platform.stackTraces = false := (show e.platform.stackTraces = l.stackTraces by rw [X.admits.platform]).trans hl
  have Y := vx_rebase X (R' := { frames := R.frames, locals := R.locals, cells := 1, slots := 6 }) (Nat.le_refl _) (Nat.le_refl _) hRcells hRslots
  obtain ⟨s', hA⟩ : ∃ z, z = (T.setVm s.vm).setFrames (.invoking m args :: below) := ⟨_, rfl⟩
  rw [← hA] at Y
  have hvm : s'.vm = s.vm := by rw [hA]; rfl
  have hhp : s'.heap = H := by rw [hA]; exact hT
  have hW0 : s.WarmedH s'.vm := by rw [hvm]; exact State.WarmedH.refl s
  have hat' : ∀ w ∈ vx_atS own ic cls names, w.before args s' = true := fun w hw => vx_ot_at hW0 hvm.symm (hgood w (List.mem_cons_of_mem _ (List.mem_cons_of_mem _ hw))) (hat w hw)
  have hk' : (Cond.classLink own ik cls).before args s' = true := vx_ot_at hW0 hvm.symm (hgood _ List.mem_cons_self) hk
  have hini' : (Cond.initialized cls).before args s' = true := vx_ot_at hW0 hvm.symm (hgood _ (List.mem_cons_of_mem _ List.mem_cons_self)) hini
  have hU' : vx_Zq Bundle.tN "UNASSIGNED_STACK" Bundle.steD A s' s'.heap := by rw [hhp]; exact vx_Zq.moved hW0.alike (hU.kept hS.2.1)
  have hN' : vx_Zq Bundle.tN "SUPPRESSED_SENTINEL" Bundle.listD A s' s'.heap := by rw [hhp]; exact vx_Zq.moved hW0.alike (hN.kept hS.2.1)
  have h : ∀ w ∈ Bundle.ownAtoms own ic cls names, w.before args s' = true := vx_own hat' (vx_isRefq hU'.1) (vx_isRefq hN'.1) hU'.2.word hN'.2.word
  have hown' : s'.vm.findClass own = some m.cls := by rw [hvm]; exact hown
  have hins : (Cond.instantiable cls 6).before args s' = true := h _ (by simp [Bundle.ownAtoms])
  obtain ⟨vm₁, cX, kX, hfX, hkX, -, -, X₁, st1⟩ := Y.newCold hexec (own := own) (C := cls) (index := ik) (n := 6) hown' hk' hins hini'
    (g := F0 m pc ls rest) rfl (by rw [hb]; exact d0) (Nat.le_refl _) (Nat.le_refl _)
  generalize hT1 : (T.setVm vm₁).pushCell { cls := cX, slots := kX.instanceTypes.map defaultValue, vm := .none } = T1 at X₁ st1
  have hcat : (Value.ref T.heap.size).category = 1 := rfl
  have hcellA : T1.heap[T.heap.size]? = some (freshCell cX kX) := by rw [← hT1]; exact State.heap_pushCell_size _ _
  have d3' : decode c.code (pc + 3) = .ok (.dup, 1) := by rw [hb]; exact d3
  have d4' : decode c.code (pc + 4) = .ok (.ldc_w is, 3) := by rw [hb]; exact d4
  have hstr' : vk_R own is text sa s' := vk_R.warm hW0 hstr
  obtain ⟨U, hsteps, hrun, hend, hW, hsame, ce, hce, hO⟩ := X₁.ctorThrowS hexec htr (own := own) (cls := cls) (names := names) (ic := ic) hown' hcls hnames h (fun x hx => nomatch hx) hfX hkX hcellA (by rw [hhp, hT]; exact Nat.le_refl _) (msg := .ref sa) rfl
    (g := { method := m, pc := pc + 7, locals := ls, stack := .ref sa :: .ref T.heap.size :: .ref T.heap.size :: rest, locked := none }) rfl hsize rfl rfl (rest := rest) rfl
    (by rw [hb]; exact d7) (by rw [hb]; exact d10) hout hRframes (by simp only [List.map_cons, List.sum_cons, hcat]; omega) hlocks
  obtain ⟨f1, f2⟩ := vx_frame hsame
  rw [hhp] at f1 f2
  have hWs : s.WarmedH U.vm := State.WarmedH.trans hW0 hW
  have hcl : s.vm.findClass cls = some ce.cls := by
    have h9 := hO.cls
    rw [hvm] at h9
    exact h9
  have hall : s.sameButNew ({ U with vm := s.vm } : State) locs mc ms := by
    subst hA
    obtain ⟨e1, e2⟩ := hsame
    rw [State.setFrames_setFrames] at e1
    have h2 : (T.setVm s.vm).sameButNew ({ U with vm := s.vm } : State) [] (0 + 1) (0 + 6) := ⟨e1, e2⟩
    have h3 := X.same.trans h2
    rw [List.append_nil] at h3
    exact h3.mono hc hs
  refine ⟨U, ?_, .threw T.heap.size, hrun, hend, Or.inr ⟨T.heap.size, rfl, cls, ce, locs, hx U hWs.alike f1 (fun q hq => f2 q hq (fun z hz => nomatch hz)), hce, hO.vm, hcl, hWs, hall, hf⟩⟩
  refine st1 _ ?_
  show Steps p.tables e below (T1.setTop { method := m, pc := pc + 3, locals := ls, stack := .ref T.heap.size :: rest, locked := none }) _
  jvm_step X₁.here [X₁.here.top, hexec, d3', Value.category]
  exact X₁.ldcStringW hexec (own := own) (text := text) (index := is) (a := sa) hown' hstr'.1 hstr'.2
    (g := { method := m, pc := pc + 4, locals := ls, stack := .ref T.heap.size :: .ref T.heap.size :: rest, locked := none }) rfl d4' _ hsteps
end Ends
section Bodies
variable {l : Launch}
theorem vx_ofW {y : MethodName} {ws ws' : List Cond} {rm : Room} {Pc : Array Value → State → Prop} {Qc : Array Value → State → Outcome → State → Prop} {XC : String → State → State → Prop} {mc ms : Nat} {free : Addr → Prop} {cc : ByteArray} {maxL : Nat} {ret : Option FieldType}
    (hy : plainName y.cls = true) (hw : ws = Cond.code y cc maxL ret :: ws')
    (body : ∀ p e s m args below meth c s₁, BodyLoose p l y (headSpec ws rm) cc maxL ret e s m args below meth c s₁ → c.maxLocals = maxL → (∀ x ∈ c.exceptionTable.toList, False) → Pc args s →
      W p l e (headSpec ws rm).room s m args below meth c s.heap [] 0 0 (vx_MQ below Qc XC args s mc ms free) (entryFrame m args maxL)) : vx_Met l y ws rm Pc Qc XC mc ms free := by
  refine MetFree.of_bodyS (code := cc) (maxLocals := maxL) (ret := ret) hy ?_ ?_
  · intro args s m h hn
    obtain ⟨meth, c, h1, h2, h3, h4, h5, h6, -, -⟩ := Cond.code_spec hn (atoms_spec (ws := ws) h _ (by rw [hw]; exact List.mem_cons_self))
    exact ⟨meth, c, h1, h2, h3, h4, h5, h6⟩
  · intro p e s m args below meth c s₁ B hml hP _
    have hh0 : s₁.heap = s.heap := by rw [B.state]; rfl
    have ht : ∀ x ∈ c.exceptionTable.toList, False := by
      obtain ⟨meth9, c9, h1, h2, -, -, -, -, h7, -⟩ := Cond.code_spec B.named (atoms_spec (ws := ws) B.pre _ (by rw [hw]; exact List.mem_cons_self))
      cases Option.some.inj (h1.symm.trans B.method)
      cases Option.some.inj (h2.symm.trans (Stand.of_body B).code)
      intro x hx
      rw [Array.isEmpty_iff.mp h7] at hx
      cases hx
    obtain ⟨t, a1, o, b1, b2, b3⟩ := body p e s m args below meth c s₁ B hml ht hP s₁ hh0 (Stand.of_body B)
    exact ⟨t, o, a1, b1, b2, b3⟩
/-- the table of a body with handlers -/
theorem vx_table {p : Program} {x y : MethodName} {S : Spec} {cc bytes : ByteArray} {maxL maxL' : Nat} {ret ret' : Option FieldType} {e : Env} {s s₁ : State} {m : MethodId} {args : Array Value} {below : List Frame} {meth : Method} {c : Code} {hh : List (Nat × Nat × Nat × Nat)}
    (B : BodyLoose p l y S cc maxL ret e s m args below meth c s₁) (h : (Cond.codeWith y bytes maxL' ret' hh).before args s = true) : c.exceptionTable.toList = tableOf hh := by
  obtain ⟨m9, meth9, c9, hn9, h1, h2, -, -, h6, -⟩ := Cond.codeWith_spec h
  cases Option.some.inj (hn9.symm.trans B.named)
  cases Option.some.inj (h1.symm.trans B.method)
  cases Option.some.inj (h2.symm.trans (Stand.of_body B).code)
  rw [← h6, table_eq]
end Bodies
end VXA
/-! ===== END ===== -/
/-! ===== BEGIN a static call of a method with an exception table ===== -/
section VXS
variable {p : Program} {l : Launch} {e : Env} {R : Room} {s : State} {m : MethodId} {args : Array Value} {below : List Frame} {meth : Method} {c : Code} {T : State} {H : Heap} {locs : List Loc} {cells slots : Nat}
abbrev vx_CSW (R : Room) (s : State) (args : Array Value) (own : String) (index : Nat) (y : MethodName) (bytes : ByteArray) (maxL : Nat) (ret : Option FieldType) (hh : List (Nat × Nat × Nat × Nat)) (ws : List Cond) (rm : Room) (mc ms n : Nat) : Prop :=
  (rm.cells = mc ∧ rm.slots = ms ∧ rm.frames + 1 ≤ R.frames ∧ 8 + (maxL + 11) + rm.locals ≤ R.locals ∧ (∀ w ∈ ws, ∀ (a' : Array Value) (U : State), s.WarmedH U.vm → w.before a' U = true) ∧ Cond.codeWith y bytes maxL ret hh ∈ ws) ∧
  (Cond.codeWith y bytes maxL ret hh).before args s = true ∧ (Cond.initialized y.cls).before args s = true ∧ (y.cls ≠ "java/lang/invoke/MethodHandle" ∧ y.cls ≠ "java/lang/invoke/VarHandle") ∧
  (∀ sig, parseMethodDescriptor y.desc = some sig → n = sig.parameters.length) ∧ (Cond.methodLink own index y).before args s = true ∧ (Cond.static y).before args s = true
theorem vx_cwSW {own : String} {index maxL mc ms : Nat} {y : MethodName} {bytes : ByteArray} {ret : Option FieldType} {hh : List (Nat × Nat × Nat × Nat)} {Ts ws ws' : List Cond} {rm : Room} (n : Nat) (ht : ∀ w ∈ Ts, w.before args s = true) (hT : GoodIn Ts (va_wsS own index y ws)) (hw : ws = Cond.codeWith y bytes maxL ret hh :: ws') (hrc : rm.cells = mc) (hrs : rm.slots = ms)
    (hd : y.cls ≠ "java/lang/invoke/MethodHandle" ∧ y.cls ≠ "java/lang/invoke/VarHandle" ∧ (parseMethodDescriptor y.desc).map (fun d => d.parameters.length) = some n) (hR : rm.frames + 1 ≤ R.frames ∧ 8 + (maxL + 11) + rm.locals ≤ R.locals) :
    vx_CSW R s args own index y bytes maxL ret hh ws rm mc ms n := by
  have ok : ∀ w ∈ va_wsS own index y ws, w.before args s = true := fun w h => ht w (hT w h).1
  have hG : GoodIn Ts ws := fun w h => hT w (by unfold va_wsS; exact List.mem_append_right _ h)
  have hc : Cond.codeWith y bytes maxL ret hh ∈ ws := by rw [hw]; exact List.mem_cons_self
  refine ⟨⟨hrc, hrs, hR.1, hR.2, pay_in ht hG, hc⟩, ht _ (hG _ hc).1, ok _ (by simp [va_wsS]), ⟨hd.1, hd.2.1⟩, fun sig h => ?_, ok _ (by simp [va_wsS]), ok _ (by simp [va_wsS])⟩
  have h2 := hd.2.2
  rw [h] at h2
  exact (Option.some.inj h2).symm
theorem vx_callSW (X : Stand p l e R s m args below meth c T locs cells slots) (hexec : p.tables.exec = Jvm.exec) {own : String} {index : Nat} {y : MethodName} {bytes : ByteArray} {maxL : Nat} {ret : Option FieldType} {hh : List (Nat × Nat × Nat × Nat)}
    (hown : s.vm.findClass own = some m.cls) (hlink : (Cond.methodLink own index y).before args s = true) (hstat : (Cond.static y).before args s = true) (hinit : (Cond.initialized y.cls).before args s = true)
    (hcode : (Cond.codeWith y bytes maxL ret hh).before args s = true) (hy : y.cls ≠ "java/lang/invoke/MethodHandle" ∧ y.cls ≠ "java/lang/invoke/VarHandle")
    {W9 : Nat} {Pre : Pt → Array Value → Prop} {Post : Pt → Array Value → Option Value → Pt → Prop} (hK : Back l R p e below s args y 3 W9 Pre Post)
    {g : JFrame} (hg : g.method = m) (hsize : g.locals.size = c.maxLocals) {argsL rest : List Value} (hlen : ∀ sig, parseMethodDescriptor y.desc = some sig → argsL.length = sig.parameters.length)
    (hstack : g.stack = argsL.reverse ++ rest) (hW : 2 * g.monitorRoom + (rest.map fun v => v.category).sum ≤ W9) (hdg : decode c.code g.pc = .ok (.invokestatic index, 3))
    (hpre : ∀ vm₁, s.WarmedH vm₁ → Pre ⟨T.setVm vm₁, locs, cells, slots⟩ argsL.toArray) :
    ∃ (v : Option Value) (vm₁ : Vm) (B : Pt), s.WarmedH vm₁ ∧ Stand p l e R s m args below meth c B.U B.locs B.cells B.slots ∧ Post ⟨T.setVm vm₁, locs, cells, slots⟩ argsL.toArray v B ∧
      ∀ target, Steps p.tables e below (B.U.setTop { g with pc := g.pc + 3, stack := v.toList ++ rest }) target → Steps p.tables e below (T.setTop g) target := by
  obtain ⟨mk, methM, cM, hnamed, hmethM, -, -, -, -, -, -, hsigM⟩ := Cond.codeWith_spec hcode
  have hstatic : methM.isStatic = true := Cond.static_spec hnamed hmethM hstat
  obtain ⟨kP, hkP, -⟩ := className_of_methodNamed hnamed
  have hinitP : kP.init = .initialized := Cond.initialized_spec (findClass_of_methodNamed hnamed) hkP hinit
  obtain ⟨vm₁, X₁, hstep₁⟩ := X.invokestatic hexec hown hlink hnamed hmethM hstatic hkP hinitP hy (g := g) hg (argsL := argsL) (rest := rest) (hlen _ hsigM) hstack hdg
  obtain ⟨v, B, X', hpost, hsteps⟩ := hK m meth c ⟨T.setVm vm₁, locs, cells, slots⟩ { g with stack := rest } (.invokestatic index) mk argsL.toArray X₁ hg hsize hdg hW (X₁.named hnamed) (hpre vm₁ X₁.warmed)
  exact ⟨v, vm₁, B, X₁.warmed, X', hpost, fun target h => hstep₁ _ fun acts => by rw [doInvoke_state]; exact hsteps.trans h⟩
theorem vx_runSW {y : MethodName} {bytes cc : ByteArray} {maxL nL mc ms n index : Nat} {ret : Option FieldType} {hh : List (Nat × Nat × Nat × Nat)} {ws : List Cond} {rm : Room} {Pc : Array Value → State → Prop} {Qc : Array Value → State → Outcome → State → Prop} {free : Addr → Prop} {Ts : List Cond} {own : String} {As rest : List Value} {g : JFrame}
    (S : CallFix p m c cc nL s args Ts own) (hM : Met l y ws rm Pc Qc mc ms free) (cw : vx_CSW R s args own index y bytes maxL ret hh ws rm mc ms n) (hp : PreS s H Pc As)
    (hg : g.method = m) (hn : As.length = n) (hsize : g.locals.size = nL) (hstack : g.stack = As.reverse ++ rest) (hW : 2 * g.monitorRoom + (rest.map fun v => v.category).sum ≤ 8) (hdg : decode cc g.pc = .ok (.invokestatic index, 3)) (hf : cells + mc ≤ R.cells ∧ slots + ms ≤ R.slots) :
    va_Run p l e R s m args below meth c H locs cells slots mc ms g rest (Qc As.toArray) (free) := by
  obtain ⟨⟨hrc, hrs, hfr, hlo, hws, hcw⟩, hcode, hini, hy, hlen, hl, hstt⟩ := cw
  have hK : Back l R p e below s args y 3 8 (PreOf R mc ms Pc) (PostOf Qc mc ms free) := va_backW (hh := hh) (bytes := bytes) (maxL := maxL) (ret := ret) hM hp.1 hrc hrs hfr hlo hws hcw (fun a' U hW => word_at hW (Or.inl (by first | rfl | simp [Cond.onTables, Cond.keeps, Cond.steady])) hini)
  obtain ⟨hx, hb, hml, ho, -⟩ := S
  intro T hT X
  obtain ⟨v, vm₁, ⟨U', l2, c2, s2⟩, hW₁, X', ⟨g', mk, t, L, e1, e2, hq, h1, hL, h2, h3⟩, st⟩ := vx_callSW X hx (hh := hh) (bytes := bytes) (maxL := maxL) (ret := ret) ho hl hstt hini hcode hy hK hg (hsize.trans hml.symm) (argsL := As) (rest := rest) (fun sig h => hn.trans (hlen sig h)) hstack hW (by rw [hb]; exact hdg)
    (fun vm₁ hW₁ => ⟨hf.1, hf.2, hp.2 (T.setVm vm₁) hT hW₁⟩)
  dsimp only [Pt.U, Pt.locs, Pt.cells, Pt.slots] at X' e1 e2 h1 h2 h3 st
  subst h1; subst h2; subst h3
  exact ⟨v, (T.setVm vm₁).calling g' mk As.toArray, t, U', L, hT, X', hL, e1, e2, hq, st⟩
/-- not caught here, past rows that name other classes: it goes on to the caller -/
theorem vx_outP {p : Program} {l : Launch} {e : Env} {R : Room} {s : State} {m : MethodId} {args : Array Value} {below : List Frame} {meth : Method} {c : Code} {H : Heap} {locs : List Loc} {cells slots : Nat} {free : Addr → Prop} {ls : Array Slot} {rest : List Value} {Qc : Array Value → State → Outcome → State → Prop} {XC : String → State → State → Prop}
    {pc : Nat} {own E : String} {ce : Cell} {q : Addr} {mc ms : Nat} (hown : s.vm.findClass own = some m.cls) (hlocks : meth.locks = false)
    (hpass : ∀ z ∈ c.exceptionTable.toList, covers z pc = false ∨ (z.catchType ≠ 0 ∧ ∃ nm : String, (Cond.classLink own z.catchType nm).before args s = true ∧ va_Nc E nm s)) (hcell : H[q]? = some ce) (hv : ce.vm = .none) (hcl : s.vm.findClass E = some ce.cls)
    (hx : ∀ t : State, t.heap = H → s.vm.Alike t.vm → XC E s t) (hf : ∀ z ∈ locs, free z.base) (hc : cells ≤ mc) (hs : slots ≤ ms) :
    vx_W p l e R s m args below meth c H locs cells slots (vx_MQ below Qc XC args s mc ms free) (F0 m pc ls rest) q := by
  intro T hT X
  have hpl : e.platform.magicAccessors = ({} : Platform).magicAccessors := by rw [X.admits.platform]
  obtain ⟨vm', hW', X', st⟩ := X.outThrough hlocks q (g := F0 m pc ls rest) rfl rfl rfl (cell := ce) (by rw [hT]; exact hcell) (by rw [hv]; rfl)
    (by obtain ⟨k9, h9, -⟩ := Vm.findClass_spec hcl; exact ⟨k9, h9⟩) (fun z hz => by
      rcases hpass z hz with h | ⟨hz0, nm, hl1, hn1⟩
      · exact Or.inl h
      · obtain ⟨c6, hc6, hcl6⟩ := Cond.classLink_spec hown hl1 e.platform hpl
        obtain ⟨a8, b8, h1, h2, h3⟩ := hn1
        cases Option.some.inj (h1.symm.trans hcl)
        cases Option.some.inj (h2.symm.trans hc6)
        exact Or.inr ⟨hz0, _, hcl6, h3⟩)
  obtain ⟨g₀, hfr⟩ := X'.frames_eq
  have hcell9 : ((T.setVm vm').setFrames (.throwing q :: below)).heap[q]? = some ce := by
    show T.heap[q]? = some ce
    rw [hT]; exact hcell
  have hend : Ended ((T.setVm vm').setFrames (.throwing q :: below)) below (.threw q) := State.frames_setFrames _ (State.cur_lt_of_frames hfr)
  refine ⟨(T.setVm vm').setFrames (.throwing q :: below), ?_, .threw q, X'.here.running, hend, Or.inr ⟨q, rfl, E, ce, locs, hx _ hT (X'.ends _).1.alike, hcell9, hv, hcl, (X'.ends _).1, (X'.ends _).2.mono hc hs, hf⟩⟩
  rw [X.pushThrowing_eq]
  exact st
/-- a thing of a world lies in the heap -/
theorem vx_lt {D : va_G} {cl : List vw_C} {ws : va_W} {H1 : Heap} (h : va_P D cl ws H1) {k : Nat} {q : Nat × va_E} (hk : ws[k]? = some q) : q.1 < H1.size := (h k q hk).lt
end VXS
/-! ===== END ===== -/
/-! ===== BEGIN methods with a table of their own: called by a name, returning or throwing ===== -/
section VXH
/-! vx_backW, vx_callVX, vx_callSX, vx_callVW, vx_runVW, vx_runVX, vx_runSX, vx_ofWH follow the same proofs as their sisters above (Free/Laws.lean, Shelf42/LK1.lean); vx_outP calls Shelf42/NT130.lean (outThrough). -/
section
variable {l : Launch} {R : Room} {p : Program} {e : Env} {below : List Frame} {s : State} {sargs : Array Value} {y : MethodName} {len W9 : Nat}
theorem vx_backW {ws : List Cond} {rm : Room} {Pc : Array Value → State → Prop} {Qc : Array Value → State → Outcome → State → Prop} {XC : String → State → State → Prop} {mc ms : Nat} {free : Addr → Prop} {bytes : ByteArray} {maxL : Nat} {ret : Option FieldType} {hh : List (Nat × Nat × Nat × Nat)}
    (hM : vx_Met l y ws rm Pc Qc XC mc ms free) (hblind : FrameBlind Pc) (hrc : rm.cells = mc) (hrs : rm.slots = ms)
    (hframes : rm.frames + 1 ≤ R.frames) (hlocals : W9 + (maxL + 11) + rm.locals ≤ R.locals)
    (hws : ∀ w ∈ ws, ∀ a' U, s.WarmedH U.vm → w.before a' U = true) (hcode : Cond.codeWith y bytes maxL ret hh ∈ ws) (hinit : ∀ a' U, s.WarmedH U.vm → (Cond.initialized y.cls).before a' U = true) :
    vx_Back l R p e below s sargs y len W9 (PreOf R mc ms Pc) (PostOf Qc mc ms free) (vx_Post XC mc ms free) := by
  intro m meth c A g ig mk a X hg hsize hdg hW hn hp
  have h1 : (headSpec ws rm).pre.before a A.U = true := atoms_intro fun w hw => hws w hw _ _ X.warmed
  have h2 : (Cond.codeWith y bytes maxL ret hh).before a A.U = true := hws _ hcode _ _ X.warmed
  have h3 : (Cond.initialized y.cls).before a A.U = true := hinit _ _ X.warmed
  have h4 : A.cells + (headSpec ws rm).room.cells ≤ R.cells := by rw [show (headSpec ws rm).room.cells = mc from hrc]; exact hp.1
  have h5 : A.slots + (headSpec ws rm).room.slots ≤ R.slots := by rw [show (headSpec ws rm).room.slots = ms from hrs]; exact hp.2.1
  have hPc : Pc a (A.U.calling g mk a) := hblind _ _ _ _ hp.2.2
  obtain ⟨U, Ls, c0, s0⟩ := A
  dsimp only [Pt.U, Pt.locs, Pt.cells, Pt.slots] at h1 h2 h3 h4 h5 X hn hPc ⊢
  obtain ⟨m9, methY, cY, hn9, hmY, hcY, -, hlY, -⟩ := Cond.codeWith_spec h2
  cases Option.some.inj (hn9.symm.trans hn)
  obtain ⟨kY, hkY, -⟩ := className_of_methodNamed hn
  have hinitY : kY.init = .initialized := Cond.initialized_spec (findClass_of_methodNamed hn) hkY h3
  have h : At U g.method c below := by rw [hg]; exact X.here
  have hlocals9 : W9 + (maxL + 11) + (headSpec ws rm).room.locals ≤ R.locals := hlocals
  have happ : (headSpec ws rm).appliesLoose y e.platform (U.calling g mk a) = true :=
    Spec.appliesLoose_calling (g := g) h hdg hn hkY hinitY
      (X.room_calling (g := g) (R' := (headSpec ws rm).room) hsize hmY hcY hframes (by rw [hlY]; omega) h4 h5) h1
  obtain ⟨mid, hmid⟩ := h.above
  have hfr : (U.setTop g).frames = (.java g :: mid) ++ below := by rw [State.frames_setTop' g h.top, hmid]; rfl
  obtain ⟨o, s₂, hsteps, -, hend, hq⟩ := Steps.callFree hM p X.admits X.cas X.clock (acts := []) hfr happ hPc trivial
  have hq' : vx_Q Qc XC mc ms free a (U.calling g mk a) o s₂ := hq
  rw [State.frames_setTop' g h.top] at hend
  obtain ⟨g₀, hg0⟩ := Option.isSome_iff_exists.mp h.top
  obtain ⟨r, hr⟩ := State.topJava?_eq_some.mp hg0
  have hr' : (({ U with heap := s₂.heap, slotsUsed := s₂.slotsUsed } : State).setVm s₂.vm).frames = .java g₀ :: r := hr
  rcases hq' with ⟨hqc, L, hfe, hL⟩ | ⟨q, rfl, E, ce, L, hx, hce, hcv, hcl, hW₂, hsm, hL⟩
  · obtain ⟨⟨v, rfl⟩, hW₂, e2, q2, q3, q4, q5, q6⟩ := id hfe
    have e3 : s₂ = ({ (U.calling g mk a).setFrames s₂.frames with heap := s₂.heap, slotsUsed := s₂.slotsUsed } : State).setVm s₂.vm := by
      have : s₂ = ({ s₂ with vm := (U.calling g mk a).vm } : State).setVm s₂.vm := rfl
      rw [e2] at this
      exact this
    obtain ⟨c₂, i₂, len₂, hc₂, hd₂, hf₂⟩ := hend
    have hW' : U.WarmedH s₂.vm := hW₂
    have hcc : c₂ = c := by
      have h1 : s₂.code? g.method = U.code? g.method := by
        rw [State.code?_eq, State.code?_eq, hW'.alike.method?]
      exact Option.some.inj (hc₂.symm.trans (h1.trans h.code))
    subst hcc
    have hlen : len₂ = len := by rw [hdg] at hd₂; cases hd₂; rfl
    subst hlen
    have hs₂ : s₂ = (({ U with heap := s₂.heap, slotsUsed := s₂.slotsUsed } : State).setVm s₂.vm).setTop { g with pc := g.pc + len₂, stack := v.toList ++ g.stack } := by
      refine e3.trans ?_
      rw [hf₂, State.calling_eq h.top, State.setFrames_setFrames, State.setTop_of_frames _ hr', hr]
      rfl
    have hsame : U.sameButNew ({ U with heap := s₂.heap, slotsUsed := s₂.slotsUsed } : State) L mc ms := by
      refine ⟨?_, q2, q3, q4, q5, q6⟩
      obtain ⟨t, ht, -⟩ := State.frames_cons hr
      show ({ U with heap := s₂.heap, slotsUsed := s₂.slotsUsed } : State) = { U.setFrames U.frames with heap := s₂.heap, slotsUsed := s₂.slotsUsed }
      rw [State.setFrames_self ht]
    subst hg
    refine Or.inl ⟨v, ⟨(({ U with heap := s₂.heap, slotsUsed := s₂.slotsUsed } : State).setVm s₂.vm), Ls ++ L, c0 + mc, s0 + ms⟩,
      ⟨X.admits, X.cas, X.clock, X.frames, X.room, X.hears, X.method, X.code, (X.here.setHeapUsed s₂.heap s₂.slotsUsed).setVm hW'.alike, X.tail, State.WarmedH.trans X.warmed hW', X.limits, X.bytes, X.same.trans (hsame.setVm s.vm)⟩,
      ⟨g, mk, s₂, L, rfl, rfl, hqc, rfl, hL, rfl, rfl⟩, ?_⟩
    show Steps p.tables e below _ ((({ U with heap := s₂.heap, slotsUsed := s₂.slotsUsed } : State).setVm s₂.vm).setTop { g with pc := g.pc + len₂, stack := v.toList ++ g.stack })
    rw [← hs₂]
    exact hsteps
  · obtain ⟨e2, q2, q3, q4, q5, q6⟩ := id hsm
    have e3 : s₂ = ({ (U.calling g mk a).setFrames s₂.frames with heap := s₂.heap, slotsUsed := s₂.slotsUsed } : State).setVm s₂.vm := by
      have : s₂ = ({ s₂ with vm := (U.calling g mk a).vm } : State).setVm s₂.vm := rfl
      rw [e2] at this
      exact this
    have hf₂ : s₂.frames = .throwing q :: .java g :: U.frames.tail := hend
    have hW' : U.WarmedH s₂.vm := hW₂
    have hs₂ : s₂ = ((({ U with heap := s₂.heap, slotsUsed := s₂.slotsUsed } : State).setVm s₂.vm).setTop g).pushFrame (.throwing q) := by
      refine e3.trans ?_
      rw [hf₂, State.calling_eq h.top, State.setFrames_setFrames, State.pushFrame, State.frames_setTop _ hr', State.setTop_of_frames _ hr', State.setFrames_setFrames, hr]
      rfl
    have hsame : U.sameButNew ({ U with heap := s₂.heap, slotsUsed := s₂.slotsUsed } : State) L mc ms := by
      refine ⟨?_, q2, q3, q4, q5, q6⟩
      obtain ⟨t, ht, -⟩ := State.frames_cons hr
      show ({ U with heap := s₂.heap, slotsUsed := s₂.slotsUsed } : State) = { U.setFrames U.frames with heap := s₂.heap, slotsUsed := s₂.slotsUsed }
      rw [State.setFrames_self ht]
    subst hg
    refine Or.inr ⟨q, ⟨(({ U with heap := s₂.heap, slotsUsed := s₂.slotsUsed } : State).setVm s₂.vm), Ls ++ L, c0 + mc, s0 + ms⟩,
      ⟨X.admits, X.cas, X.clock, X.frames, X.room, X.hears, X.method, X.code, (X.here.setHeapUsed s₂.heap s₂.slotsUsed).setVm hW'.alike, X.tail, State.WarmedH.trans X.warmed hW', X.limits, X.bytes, X.same.trans (hsame.setVm s.vm)⟩,
      ⟨g, mk, s₂, L, E, ce, rfl, rfl, hx, hce, hcv, hcl, rfl, hL, rfl, rfl⟩, ?_⟩
    show Steps p.tables e below _ (((({ U with heap := s₂.heap, slotsUsed := s₂.slotsUsed } : State).setVm s₂.vm).setTop g).pushFrame (.throwing q))
    rw [← hs₂]
    exact hsteps
end
variable {p : Program} {l : Launch} {e : Env} {R : Room} {s : State} {m : MethodId} {args : Array Value} {below : List Frame} {meth : Method} {c : Code} {T : State} {H : Heap} {locs : List Loc} {cells slots : Nat}
theorem vx_callVX (X : Stand p l e R s m args below meth c T locs cells slots) (hexec : p.tables.exec = Jvm.exec) {own C : String} {index : Nat} {y : MethodName} {bytes : ByteArray} {maxL : Nat} {ret : Option FieldType} {hh : List (Nat × Nat × Nat × Nat)}
    (hown : s.vm.findClass own = some m.cls) (hlink : (Cond.methodLink own index y).before args s = true) (hinst : (Cond.instanceMethod y).before args s = true) (hsel : (Cond.selects C y y).before args s = true)
    (hcode : (Cond.codeWith y bytes maxL ret hh).before args s = true) (hy : y.cls ≠ "java/lang/invoke/MethodHandle" ∧ y.cls ≠ "java/lang/invoke/VarHandle")
    {W9 : Nat} {Pre : Pt → Array Value → Prop} {Post : Pt → Array Value → Option Value → Pt → Prop} {PostX : Pt → Array Value → Addr → Pt → Prop} (hK : vx_Back l R p e below s args y 3 W9 Pre Post PostX)
    {b : Addr} {cellB : Cell} (hcell : T.heap[b]? = some cellB) (hobj : cellB.vm.isStatics = false) (hcls : s.vm.findClass C = some cellB.cls)
    {g : JFrame} (hg : g.method = m) (hsize : g.locals.size = c.maxLocals) {argsL rest : List Value} (hlen : ∀ sig, parseMethodDescriptor y.desc = some sig → argsL.length = sig.parameters.length)
    (hstack : g.stack = argsL.reverse ++ .ref b :: rest) (hW : 2 * g.monitorRoom + (rest.map fun v => v.category).sum ≤ W9) (hdg : decode c.code g.pc = .ok (.invokevirtual index, 3))
    (hpre : ∀ vm₁, s.WarmedH vm₁ → Pre ⟨T.setVm vm₁, locs, cells, slots⟩ (Value.ref b :: argsL).toArray) :
    (∃ (v : Option Value) (vm₁ : Vm) (B : Pt), s.WarmedH vm₁ ∧ Stand p l e R s m args below meth c B.U B.locs B.cells B.slots ∧ Post ⟨T.setVm vm₁, locs, cells, slots⟩ (Value.ref b :: argsL).toArray v B ∧
      ∀ target, Steps p.tables e below (B.U.setTop { g with pc := g.pc + 3, stack := v.toList ++ rest }) target → Steps p.tables e below (T.setTop g) target) ∨
    (∃ (q : Addr) (vm₁ : Vm) (B : Pt), s.WarmedH vm₁ ∧ Stand p l e R s m args below meth c B.U B.locs B.cells B.slots ∧ PostX ⟨T.setVm vm₁, locs, cells, slots⟩ (Value.ref b :: argsL).toArray q B ∧
      Steps p.tables e below (T.setTop g) ((B.U.setTop { g with stack := rest }).pushFrame (.throwing q))) := by
  obtain ⟨mk, methM, hnamed, hmethM, hstM, habM⟩ := Cond.instanceMethod_spec hinst
  obtain ⟨m8, methM', cM, hn8, hmethM', -, -, -, -, -, -, hsigM⟩ := Cond.codeWith_spec hcode
  cases Option.some.inj (hn8.symm.trans hnamed)
  cases hmethM.symm.trans hmethM'
  obtain ⟨c2, r2, m2, q1, q2, q3, q4, kP, hkP, hkPi⟩ := Cond.selects_spec hsel
  cases hcls.symm.trans q1
  cases (State.methodFound?_of_named hnamed hy).symm.trans q2
  cases hnamed.symm.trans q3
  have hselP : selectMethod e.platform s.vm cellB.cls mk = .method mk := by rw [Launch.admits_selectMethod X.admits]; exact q4
  obtain ⟨vm₁, X₁, hstep₁⟩ := X.invokevirtual hexec hown hlink hnamed hmethM hstM hkP hkPi hy (a := b) (cell := cellB) hcell
    (fun z h => by rw [h] at hobj; cases hobj) hselP hmethM habM hkP hkPi (g := g) hg (argsL := argsL) (rest := rest) (hlen _ hsigM) hstack hdg
  rcases hK m meth c ⟨T.setVm vm₁, locs, cells, slots⟩ { g with stack := rest } (.invokevirtual index) mk (Value.ref b :: argsL).toArray X₁ hg hsize hdg hW (X₁.named hnamed) (hpre vm₁ X₁.warmed) with ⟨v, B, X', hpost, hsteps⟩ | ⟨q, B, X', hpost, hsteps⟩
  · exact Or.inl ⟨v, vm₁, B, X₁.warmed, X', hpost, fun target h => hstep₁ _ fun acts => by rw [doInvoke_state]; exact hsteps.trans h⟩
  · exact Or.inr ⟨q, vm₁, B, X₁.warmed, X', hpost, hstep₁ _ fun acts => by rw [doInvoke_state]; exact hsteps⟩
theorem vx_callSX (X : Stand p l e R s m args below meth c T locs cells slots) (hexec : p.tables.exec = Jvm.exec) {own : String} {index : Nat} {y : MethodName} {bytes : ByteArray} {maxL : Nat} {ret : Option FieldType} {hh : List (Nat × Nat × Nat × Nat)}
    (hown : s.vm.findClass own = some m.cls) (hlink : (Cond.methodLink own index y).before args s = true) (hstat : (Cond.static y).before args s = true) (hinit : (Cond.initialized y.cls).before args s = true)
    (hcode : (Cond.codeWith y bytes maxL ret hh).before args s = true) (hy : y.cls ≠ "java/lang/invoke/MethodHandle" ∧ y.cls ≠ "java/lang/invoke/VarHandle")
    {W9 : Nat} {Pre : Pt → Array Value → Prop} {Post : Pt → Array Value → Option Value → Pt → Prop} {PostX : Pt → Array Value → Addr → Pt → Prop} (hK : vx_Back l R p e below s args y 3 W9 Pre Post PostX)
    {g : JFrame} (hg : g.method = m) (hsize : g.locals.size = c.maxLocals) {argsL rest : List Value} (hlen : ∀ sig, parseMethodDescriptor y.desc = some sig → argsL.length = sig.parameters.length)
    (hstack : g.stack = argsL.reverse ++ rest) (hW : 2 * g.monitorRoom + (rest.map fun v => v.category).sum ≤ W9) (hdg : decode c.code g.pc = .ok (.invokestatic index, 3))
    (hpre : ∀ vm₁, s.WarmedH vm₁ → Pre ⟨T.setVm vm₁, locs, cells, slots⟩ argsL.toArray) :
    (∃ (v : Option Value) (vm₁ : Vm) (B : Pt), s.WarmedH vm₁ ∧ Stand p l e R s m args below meth c B.U B.locs B.cells B.slots ∧ Post ⟨T.setVm vm₁, locs, cells, slots⟩ argsL.toArray v B ∧
      ∀ target, Steps p.tables e below (B.U.setTop { g with pc := g.pc + 3, stack := v.toList ++ rest }) target → Steps p.tables e below (T.setTop g) target) ∨
    (∃ (q : Addr) (vm₁ : Vm) (B : Pt), s.WarmedH vm₁ ∧ Stand p l e R s m args below meth c B.U B.locs B.cells B.slots ∧ PostX ⟨T.setVm vm₁, locs, cells, slots⟩ argsL.toArray q B ∧
      Steps p.tables e below (T.setTop g) ((B.U.setTop { g with stack := rest }).pushFrame (.throwing q))) := by
  obtain ⟨mk, methM, cM, hnamed, hmethM, -, -, -, -, -, -, hsigM⟩ := Cond.codeWith_spec hcode
  have hstatic : methM.isStatic = true := Cond.static_spec hnamed hmethM hstat
  obtain ⟨kP, hkP, -⟩ := className_of_methodNamed hnamed
  have hinitP : kP.init = .initialized := Cond.initialized_spec (findClass_of_methodNamed hnamed) hkP hinit
  obtain ⟨vm₁, X₁, hstep₁⟩ := X.invokestatic hexec hown hlink hnamed hmethM hstatic hkP hinitP hy (g := g) hg (argsL := argsL) (rest := rest) (hlen _ hsigM) hstack hdg
  rcases hK m meth c ⟨T.setVm vm₁, locs, cells, slots⟩ { g with stack := rest } (.invokestatic index) mk argsL.toArray X₁ hg hsize hdg hW (X₁.named hnamed) (hpre vm₁ X₁.warmed) with ⟨v, B, X', hpost, hsteps⟩ | ⟨q, B, X', hpost, hsteps⟩
  · exact Or.inl ⟨v, vm₁, B, X₁.warmed, X', hpost, fun target h => hstep₁ _ fun acts => by rw [doInvoke_state]; exact hsteps.trans h⟩
  · exact Or.inr ⟨q, vm₁, B, X₁.warmed, X', hpost, hstep₁ _ fun acts => by rw [doInvoke_state]; exact hsteps⟩
theorem vx_callVW (X : Stand p l e R s m args below meth c T locs cells slots) (hexec : p.tables.exec = Jvm.exec) {own C : String} {index : Nat} {y : MethodName} {bytes : ByteArray} {maxL : Nat} {ret : Option FieldType} {hh : List (Nat × Nat × Nat × Nat)}
    (hown : s.vm.findClass own = some m.cls) (hlink : (Cond.methodLink own index y).before args s = true) (hinst : (Cond.instanceMethod y).before args s = true) (hsel : (Cond.selects C y y).before args s = true)
    (hcode : (Cond.codeWith y bytes maxL ret hh).before args s = true) (hy : y.cls ≠ "java/lang/invoke/MethodHandle" ∧ y.cls ≠ "java/lang/invoke/VarHandle")
    {W9 : Nat} {Pre : Pt → Array Value → Prop} {Post : Pt → Array Value → Option Value → Pt → Prop} (hK : Back l R p e below s args y 3 W9 Pre Post)
    {b : Addr} {cellB : Cell} (hcell : T.heap[b]? = some cellB) (hobj : cellB.vm.isStatics = false) (hcls : s.vm.findClass C = some cellB.cls)
    {g : JFrame} (hg : g.method = m) (hsize : g.locals.size = c.maxLocals) {argsL rest : List Value} (hlen : ∀ sig, parseMethodDescriptor y.desc = some sig → argsL.length = sig.parameters.length)
    (hstack : g.stack = argsL.reverse ++ .ref b :: rest) (hW : 2 * g.monitorRoom + (rest.map fun v => v.category).sum ≤ W9) (hdg : decode c.code g.pc = .ok (.invokevirtual index, 3))
    (hpre : ∀ vm₁, s.WarmedH vm₁ → Pre ⟨T.setVm vm₁, locs, cells, slots⟩ (Value.ref b :: argsL).toArray) :
    ∃ (v : Option Value) (vm₁ : Vm) (B : Pt), s.WarmedH vm₁ ∧ Stand p l e R s m args below meth c B.U B.locs B.cells B.slots ∧ Post ⟨T.setVm vm₁, locs, cells, slots⟩ (Value.ref b :: argsL).toArray v B ∧
      ∀ target, Steps p.tables e below (B.U.setTop { g with pc := g.pc + 3, stack := v.toList ++ rest }) target → Steps p.tables e below (T.setTop g) target := by
  obtain ⟨mk, methM, hnamed, hmethM, hstM, habM⟩ := Cond.instanceMethod_spec hinst
  obtain ⟨m8, methM', cM, hn8, hmethM', -, -, -, -, -, -, hsigM⟩ := Cond.codeWith_spec hcode
  cases Option.some.inj (hn8.symm.trans hnamed)
  cases hmethM.symm.trans hmethM'
  obtain ⟨c2, r2, m2, q1, q2, q3, q4, kP, hkP, hkPi⟩ := Cond.selects_spec hsel
  cases hcls.symm.trans q1
  cases (State.methodFound?_of_named hnamed hy).symm.trans q2
  cases hnamed.symm.trans q3
  have hselP : selectMethod e.platform s.vm cellB.cls mk = .method mk := by rw [Launch.admits_selectMethod X.admits]; exact q4
  obtain ⟨vm₁, X₁, hstep₁⟩ := X.invokevirtual hexec hown hlink hnamed hmethM hstM hkP hkPi hy (a := b) (cell := cellB) hcell
    (fun z h => by rw [h] at hobj; cases hobj) hselP hmethM habM hkP hkPi (g := g) hg (argsL := argsL) (rest := rest) (hlen _ hsigM) hstack hdg
  obtain ⟨v, B, X', hpost, hsteps⟩ := hK m meth c ⟨T.setVm vm₁, locs, cells, slots⟩ { g with stack := rest } (.invokevirtual index) mk (Value.ref b :: argsL).toArray X₁ hg hsize hdg hW (X₁.named hnamed) (hpre vm₁ X₁.warmed)
  exact ⟨v, vm₁, B, X₁.warmed, X', hpost, fun target h => hstep₁ _ fun acts => by rw [doInvoke_state]; exact hsteps.trans h⟩
abbrev vx_CVW (R : Room) (s : State) (args : Array Value) (own C : String) (index : Nat) (y : MethodName) (bytes : ByteArray) (maxL : Nat) (ret : Option FieldType) (hh : List (Nat × Nat × Nat × Nat)) (ws : List Cond) (rm : Room) (mc ms n : Nat) : Prop :=
  (rm.cells = mc ∧ rm.slots = ms ∧ rm.frames + 1 ≤ R.frames ∧ 8 + (maxL + 11) + rm.locals ≤ R.locals ∧ (∀ w ∈ ws, ∀ (a' : Array Value) (U : State), s.WarmedH U.vm → w.before a' U = true) ∧ Cond.codeWith y bytes maxL ret hh ∈ ws) ∧
  (Cond.codeWith y bytes maxL ret hh).before args s = true ∧ (Cond.initialized y.cls).before args s = true ∧ (y.cls ≠ "java/lang/invoke/MethodHandle" ∧ y.cls ≠ "java/lang/invoke/VarHandle") ∧
  (∀ sig, parseMethodDescriptor y.desc = some sig → n = sig.parameters.length) ∧ (Cond.methodLink own index y).before args s = true ∧ (Cond.instanceMethod y).before args s = true ∧ (Cond.selects C y y).before args s = true
theorem vx_cwVW {own C : String} {index maxL mc ms : Nat} {y : MethodName} {bytes : ByteArray} {ret : Option FieldType} {hh : List (Nat × Nat × Nat × Nat)} {Ts ws ws' : List Cond} {rm : Room} (n : Nat) (ht : ∀ w ∈ Ts, w.before args s = true) (hT : GoodIn Ts (wsV own index C y ws)) (hw : ws = Cond.codeWith y bytes maxL ret hh :: ws') (hrc : rm.cells = mc) (hrs : rm.slots = ms)
    (hd : y.cls = C ∧ y.cls ≠ "java/lang/invoke/MethodHandle" ∧ y.cls ≠ "java/lang/invoke/VarHandle" ∧ (parseMethodDescriptor y.desc).map (fun d => d.parameters.length) = some n) (hR : rm.frames + 1 ≤ R.frames ∧ 8 + (maxL + 11) + rm.locals ≤ R.locals) :
    vx_CVW R s args own C index y bytes maxL ret hh ws rm mc ms n := by
  obtain ⟨hC, hd⟩ := hd
  subst hC
  have ok : ∀ w ∈ wsV own index y.cls y ws, w.before args s = true := fun w h => ht w (hT w h).1
  have hG : GoodIn Ts ws := fun w h => hT w (by unfold wsV; exact List.mem_append_right _ h)
  have hc : Cond.codeWith y bytes maxL ret hh ∈ ws := by rw [hw]; exact List.mem_cons_self
  refine ⟨⟨hrc, hrs, hR.1, hR.2, pay_in ht hG, hc⟩, ht _ (hG _ hc).1, ok _ (by simp [wsV]), ⟨hd.1, hd.2.1⟩, fun sig h => ?_, ok _ (by simp [wsV]), ok _ (by simp [wsV]), ok _ (by simp [wsV])⟩
  have h2 := hd.2.2
  rw [h] at h2
  exact (Option.some.inj h2).symm
theorem vx_runVW {y : MethodName} {bytes cc : ByteArray} {maxL nL mc ms n index : Nat} {ret : Option FieldType} {hh : List (Nat × Nat × Nat × Nat)} {ws : List Cond} {rm : Room} {Pc : Array Value → State → Prop} {Qc : Array Value → State → Outcome → State → Prop} {free : Addr → Prop} {Ts : List Cond} {own C : String} {b : Addr} {As rest : List Value} {g : JFrame}
    (S : CallFix p m c cc nL s args Ts own) (hM : Met l y ws rm Pc Qc mc ms free) (cw : vx_CVW R s args own C index y bytes maxL ret hh ws rm mc ms n) (hp : PreV s H C b Pc As)
    (hg : g.method = m) (hn : As.length = n) (hsize : g.locals.size = nL) (hstack : g.stack = As.reverse ++ .ref b :: rest) (hW : 2 * g.monitorRoom + (rest.map fun v => v.category).sum ≤ 8) (hdg : decode cc g.pc = .ok (.invokevirtual index, 3)) (hf : cells + mc ≤ R.cells ∧ slots + ms ≤ R.slots) :
    va_Run p l e R s m args below meth c H locs cells slots mc ms g rest (Qc (Value.ref b :: As).toArray) free := by
  obtain ⟨⟨hrc, hrs, hfr, hlo, hws, hcw⟩, hcode, hini, hy, hlen, hl, hin, hse⟩ := cw
  have hK : Back l R p e below s args y 3 8 (PreOf R mc ms Pc) (PostOf Qc mc ms free) := va_backW (hh := hh) (bytes := bytes) (maxL := maxL) (ret := ret) hM hp.1 hrc hrs hfr hlo hws hcw (fun a' U hW => word_at hW (Or.inl (by first | rfl | simp [Cond.onTables, Cond.keeps, Cond.steady])) hini)
  obtain ⟨hx, hb, hml, ho, -⟩ := S
  obtain ⟨-, ⟨cellB, hcB, hoB, hclB⟩, hPc⟩ := hp
  intro T hT X
  obtain ⟨v, vm₁, ⟨U', l2, c2, s2⟩, hW₁, X', ⟨g', mk, t, L, e1, e2, hq, h1, hL, h2, h3⟩, st⟩ := vx_callVW X hx (C := C) (hh := hh) (bytes := bytes) (maxL := maxL) (ret := ret) ho hl hin hse hcode hy hK (by rw [hT]; exact hcB) hoB hclB hg (hsize.trans hml.symm) (argsL := As) (rest := rest) (fun sig h => hn.trans (hlen sig h)) hstack hW (by rw [hb]; exact hdg)
    (fun vm₁ hW₁ => ⟨hf.1, hf.2, hPc (T.setVm vm₁) hT hW₁⟩)
  dsimp only [Pt.U, Pt.locs, Pt.cells, Pt.slots] at X' e1 e2 h1 h2 h3 st
  subst h1; subst h2; subst h3
  exact ⟨v, (T.setVm vm₁).calling g' mk (Value.ref b :: As).toArray, t, U', L, hT, X', hL, e1, e2, hq, st⟩
section
variable {y : MethodName} {bytes cc : ByteArray} {maxL nL mc ms n index : Nat} {ret : Option FieldType} {ws : List Cond} {rm : Room} {Pc : Array Value → State → Prop} {Qc : Array Value → State → Outcome → State → Prop} {XC : String → State → State → Prop} {free : Addr → Prop} {Ts : List Cond} {own C : String} {b : Addr} {As rest : List Value} {g : JFrame}
theorem vx_runVX {hh : List (Nat × Nat × Nat × Nat)} (S : CallFix p m c cc nL s args Ts own) (hM : vx_Met l y ws rm Pc Qc XC mc ms free) (cw : vx_CVW R s args own C index y bytes maxL ret hh ws rm mc ms n) (hp : PreV s H C b Pc As)
    (hg : g.method = m) (hn : As.length = n) (hsize : g.locals.size = nL) (hstack : g.stack = As.reverse ++ .ref b :: rest) (hW : 2 * g.monitorRoom + (rest.map fun v => v.category).sum ≤ 8) (hdg : decode cc g.pc = .ok (.invokevirtual index, 3)) (hf : cells + mc ≤ R.cells ∧ slots + ms ≤ R.slots) :
    vx_Run p l e R s m args below meth c H locs cells slots mc ms g rest (Qc (Value.ref b :: As).toArray) XC free := by
  obtain ⟨⟨hrc, hrs, hfr, hlo, hws, hcw⟩, hcode, hini, hy, hlen, hl, hin, hse⟩ := cw
  have hK : vx_Back l R p e below s args y 3 8 (PreOf R mc ms Pc) (PostOf Qc mc ms free) (vx_Post XC mc ms free) := vx_backW (hh := hh) (bytes := bytes) (maxL := maxL) (ret := ret) hM hp.1 hrc hrs hfr hlo hws hcw (fun a' U hW => word_at hW (Or.inl (by first | rfl | simp [Cond.onTables, Cond.keeps, Cond.steady])) hini)
  obtain ⟨hx, hb, hml, ho, -⟩ := S
  obtain ⟨-, ⟨cellB, hcB, hoB, hclB⟩, hPc⟩ := hp
  intro T hT X
  rcases vx_callVX X hx (C := C) (hh := hh) (bytes := bytes) (maxL := maxL) (ret := ret) ho hl hin hse hcode hy hK (by rw [hT]; exact hcB) hoB hclB hg (hsize.trans hml.symm) (argsL := As) (rest := rest) (fun sig h => hn.trans (hlen sig h)) hstack hW (by rw [hb]; exact hdg)
    (fun vm₁ hW₁ => ⟨hf.1, hf.2, hPc (T.setVm vm₁) hT hW₁⟩) with ⟨v, vm₁, ⟨U', l2, c2, s2⟩, hW₁, X', ⟨g', mk, t, L, e1, e2, hq, h1, hL, h2, h3⟩, st⟩ | ⟨q, vm₁, ⟨U', l2, c2, s2⟩, hW₁, X', ⟨g', mk, t, L, E, ce, e1, e2, hq, hce, hcv, hcl, h1, hL, h2, h3⟩, st⟩
  · dsimp only [Pt.U, Pt.locs, Pt.cells, Pt.slots] at X' e1 e2 h1 h2 h3 st
    subst h1; subst h2; subst h3
    exact Or.inl ⟨v, (T.setVm vm₁).calling g' mk (Value.ref b :: As).toArray, t, U', L, hT, X', hL, e1, e2, hq, st⟩
  · dsimp only [Pt.U, Pt.locs, Pt.cells, Pt.slots] at X' e1 e2 h1 h2 h3 st hcl
    subst h1; subst h2; subst h3
    exact Or.inr ⟨q, (T.setVm vm₁).calling g' mk (Value.ref b :: As).toArray, t, U', L, E, ce, hT, X', hL, e1, e2, hq, hce, hcv, vx_cls hW₁ hcl, st⟩
theorem vx_runSX {hh : List (Nat × Nat × Nat × Nat)} (S : CallFix p m c cc nL s args Ts own) (hM : vx_Met l y ws rm Pc Qc XC mc ms free) (cw : vx_CSW R s args own index y bytes maxL ret hh ws rm mc ms n) (hp : PreS s H Pc As)
    (hg : g.method = m) (hn : As.length = n) (hsize : g.locals.size = nL) (hstack : g.stack = As.reverse ++ rest) (hW : 2 * g.monitorRoom + (rest.map fun v => v.category).sum ≤ 8) (hdg : decode cc g.pc = .ok (.invokestatic index, 3)) (hf : cells + mc ≤ R.cells ∧ slots + ms ≤ R.slots) :
    vx_Run p l e R s m args below meth c H locs cells slots mc ms g rest (Qc As.toArray) XC free := by
  obtain ⟨⟨hrc, hrs, hfr, hlo, hws, hcw⟩, hcode, hini, hy, hlen, hl, hstt⟩ := cw
  have hK : vx_Back l R p e below s args y 3 8 (PreOf R mc ms Pc) (PostOf Qc mc ms free) (vx_Post XC mc ms free) := vx_backW (hh := hh) (bytes := bytes) (maxL := maxL) (ret := ret) hM hp.1 hrc hrs hfr hlo hws hcw (fun a' U hW => word_at hW (Or.inl (by first | rfl | simp [Cond.onTables, Cond.keeps, Cond.steady])) hini)
  obtain ⟨hx, hb, hml, ho, -⟩ := S
  intro T hT X
  rcases vx_callSX X hx (hh := hh) (bytes := bytes) (maxL := maxL) (ret := ret) ho hl hstt hini hcode hy hK hg (hsize.trans hml.symm) (argsL := As) (rest := rest) (fun sig h => hn.trans (hlen sig h)) hstack hW (by rw [hb]; exact hdg)
    (fun vm₁ hW₁ => ⟨hf.1, hf.2, hp.2 (T.setVm vm₁) hT hW₁⟩) with ⟨v, vm₁, ⟨U', l2, c2, s2⟩, hW₁, X', ⟨g', mk, t, L, e1, e2, hq, h1, hL, h2, h3⟩, st⟩ | ⟨q, vm₁, ⟨U', l2, c2, s2⟩, hW₁, X', ⟨g', mk, t, L, E, ce, e1, e2, hq, hce, hcv, hcl, h1, hL, h2, h3⟩, st⟩
  · dsimp only [Pt.U, Pt.locs, Pt.cells, Pt.slots] at X' e1 e2 h1 h2 h3 st
    subst h1; subst h2; subst h3
    exact Or.inl ⟨v, (T.setVm vm₁).calling g' mk As.toArray, t, U', L, hT, X', hL, e1, e2, hq, st⟩
  · dsimp only [Pt.U, Pt.locs, Pt.cells, Pt.slots] at X' e1 e2 h1 h2 h3 st hcl
    subst h1; subst h2; subst h3
    exact Or.inr ⟨q, (T.setVm vm₁).calling g' mk As.toArray, t, U', L, E, ce, hT, X', hL, e1, e2, hq, hce, hcv, vx_cls hW₁ hcl, st⟩
end
end VXH
theorem vx_ofWH {l : Launch} {y : MethodName} {ws ws' : List Cond} {rm : Room} {Pc : Array Value → State → Prop} {Qc : Array Value → State → Outcome → State → Prop} {XC : String → State → State → Prop} {mc ms : Nat} {free : Addr → Prop} {cc : ByteArray} {maxL : Nat} {ret : Option FieldType} {hh : List (Nat × Nat × Nat × Nat)}
    (hy : plainName y.cls = true) (hw : ws = Cond.codeWith y cc maxL ret hh :: ws')
    (body : ∀ p e s m args below meth c s₁, BodyLoose p l y (headSpec ws rm) cc maxL ret e s m args below meth c s₁ → c.maxLocals = maxL → Pc args s →
      W p l e (headSpec ws rm).room s m args below meth c s.heap [] 0 0 (vx_MQ below Qc XC args s mc ms free) (entryFrame m args maxL)) : vx_Met l y ws rm Pc Qc XC mc ms free := by
  refine MetFree.of_bodyS (code := cc) (maxLocals := maxL) (ret := ret) hy ?_ ?_
  · intro args s m h hn
    obtain ⟨m9, meth, c, hn9, h1, h2, h3, h4, -, h5, h6, -⟩ := Cond.codeWith_spec (atoms_spec (ws := ws) h _ (by rw [hw]; exact List.mem_cons_self))
    cases hn.symm.trans hn9
    exact ⟨meth, c, h1, h2, h3, h4, h5, h6⟩
  · intro p e s m args below meth c s₁ B hml hP _
    have hh0 : s₁.heap = s.heap := by rw [B.state]; rfl
    obtain ⟨t, a1, o, b1, b2, b3⟩ := body p e s m args below meth c s₁ B hml hP s₁ hh0 (Stand.of_body B)
    exact ⟨t, o, a1, b1, b2, b3⟩
/-! ===== END ===== -/

/-! ===== BEGIN printed: names, fields, word lists, decode rows ===== -/
def RX0 : String := "RunicSticks$Council"
def TX0 : u_T := fun k => match k with
  | 0 => ("RunicSticks$Council", "first", "LRunicSticks$Reckoning;", true)
  | 1 => ("RunicSticks$Council", "second", "LRunicSticks$Reckoning;", true)
  | _ => ("RunicSticks$Council", "third", "LRunicSticks$Reckoning;", true)
def tyX0 : Nat → FieldType := fun k => match k with
  | 0 => .object "RunicSticks$Reckoning"
  | 1 => .object "RunicSticks$Reckoning"
  | _ => .object "RunicSticks$Reckoning"
abbrev wsX00 : List Cond := u_ws RX0 TX0 3
theorem nmX0 : ∀ a, a < 3 → ∀ b, b < 3 → a ≠ b → (TX0 a).2.1 ≠ (TX0 b).2.1 := by decide +kernel
theorem tyX0_ok : ∀ k, k < 3 → parseFieldDescriptor (TX0 k).2.2.1 = some (tyX0 k) := by decide +kernel
abbrev cX0_init : ByteArray := prog_2_method_1_code
def yX0_init : MethodName := ⟨RX0, "<init>", "()V"⟩
abbrev cX0_by : ByteArray := prog_2_method_2_code
def yX0_by : MethodName := ⟨RX0, "by", "(I)LRunicSticks$Reckoning;"⟩
abbrev cX0_gather : ByteArray := prog_2_method_3_code
def yX0_gather : MethodName := ⟨RX0, "gather", "(LRunicSticks$State;I)V"⟩
abbrev cX0_settledNotch : ByteArray := prog_2_method_4_code
def yX0_settledNotch : MethodName := ⟨RX0, "settledNotch", "(I)I"⟩
abbrev cX0_quarrelCount : ByteArray := prog_2_method_5_code
def yX0_quarrelCount : MethodName := ⟨RX0, "quarrelCount", "(I)I"⟩
abbrev cX0_settlesLike : ByteArray := prog_2_method_6_code
def yX0_settlesLike : MethodName := ⟨RX0, "settlesLike", "(LRunicSticks$Council;I)Z"⟩
def RX1 : String := "RunicSticks$History"
def TX1 : u_T := fun k => match k with
  | 0 => ("RunicSticks$History", "ring", "[LRunicSticks$State;", true)
  | 1 => ("RunicSticks$History", "oldest", "I", false)
  | _ => ("RunicSticks$History", "saved", "I", false)
def tyX1 : Nat → FieldType := fun k => match k with
  | 0 => .array (.object "RunicSticks$State")
  | 1 => .int
  | _ => .int
abbrev wsX10 : List Cond := u_ws RX1 TX1 3
theorem nmX1 : ∀ a, a < 3 → ∀ b, b < 3 → a ≠ b → (TX1 a).2.1 ≠ (TX1 b).2.1 := by decide +kernel
theorem tyX1_ok : ∀ k, k < 3 → parseFieldDescriptor (TX1 k).2.2.1 = some (tyX1 k) := by decide +kernel
abbrev cX1_init : ByteArray := prog_3_method_1_code
def yX1_init : MethodName := ⟨RX1, "<init>", "()V"⟩
abbrev cX1_size : ByteArray := prog_3_method_2_code
def yX1_size : MethodName := ⟨RX1, "size", "()I"⟩
abbrev cX1_isEmpty : ByteArray := prog_3_method_3_code
def yX1_isEmpty : MethodName := ⟨RX1, "isEmpty", "()Z"⟩
abbrev cX1_save : ByteArray := prog_3_method_4_code
def yX1_save : MethodName := ⟨RX1, "save", "(LRunicSticks$State;)V"⟩
abbrev cX1_restoreInto : ByteArray := prog_3_method_5_code
def yX1_restoreInto : MethodName := ⟨RX1, "restoreInto", "(LRunicSticks$State;)V"⟩
abbrev cX1_stateAt : ByteArray := prog_3_method_6_code
def yX1_stateAt : MethodName := ⟨RX1, "stateAt", "(I)LRunicSticks$State;"⟩
def RX2 : String := "RunicSticks$Reader"
def TX2 : u_T := fun k => match k with
  | 0 => ("RunicSticks$Reader", "rule", "I", false)
  | 1 => ("RunicSticks$Reader", "number", "I", false)
  | 2 => ("RunicSticks$Reader", "isMinus", "Z", false)
  | 3 => ("RunicSticks$Reader", "other", "I", false)
  | 4 => ("RunicSticks$Reader", "rankRead", "I", false)
  | _ => ("RunicSticks$Reader", "place", "I", false)
def tyX2 : Nat → FieldType := fun k => match k with
  | 0 => .int
  | 1 => .int
  | 2 => .boolean
  | 3 => .int
  | 4 => .int
  | _ => .int
abbrev wsX20 : List Cond := u_ws RX2 TX2 6
theorem nmX2 : ∀ a, a < 6 → ∀ b, b < 6 → a ≠ b → (TX2 a).2.1 ≠ (TX2 b).2.1 := by decide +kernel
theorem tyX2_ok : ∀ k, k < 6 → parseFieldDescriptor (TX2 k).2.2.1 = some (tyX2 k) := by decide +kernel
abbrev cX2_init : ByteArray := prog_4_method_1_code
def yX2_init : MethodName := ⟨RX2, "<init>", "()V"⟩
abbrev cX2_start : ByteArray := prog_4_method_2_code
def yX2_start : MethodName := ⟨RX2, "start", "()V"⟩
abbrev cX2_mayEnd : ByteArray := prog_4_method_3_code
def yX2_mayEnd : MethodName := ⟨RX2, "mayEnd", "()Z"⟩
abbrev cX2_reads : ByteArray := prog_4_method_4_code
def yX2_reads : MethodName := ⟨RX2, "reads", "(I)Z"⟩
abbrev cX2_hasWeekday : ByteArray := prog_4_method_5_code
def yX2_hasWeekday : MethodName := ⟨RX2, "hasWeekday", "()Z"⟩
abbrev cX2_isDigit : ByteArray := prog_4_method_6_code
def yX2_isDigit : MethodName := ⟨RX2, "isDigit", "(I)Z"⟩
abbrev cX2_readsRule : ByteArray := prog_4_method_7_code
def yX2_readsRule : MethodName := ⟨RX2, "readsRule", "(I)Z"⟩
abbrev cX2_readsOther : ByteArray := prog_4_method_8_code
def yX2_readsOther : MethodName := ⟨RX2, "readsOther", "(III)Z"⟩
abbrev cX2_readsSign : ByteArray := prog_4_method_9_code
def yX2_readsSign : MethodName := ⟨RX2, "readsSign", "(I)Z"⟩
abbrev cX2_readsFirstDigit : ByteArray := prog_4_method_10_code
def yX2_readsFirstDigit : MethodName := ⟨RX2, "readsFirstDigit", "(I)Z"⟩
abbrev cX2_readsNextDigit : ByteArray := prog_4_method_11_code
def yX2_readsNextDigit : MethodName := ⟨RX2, "readsNextDigit", "(I)Z"⟩
abbrev cX2_readsComma : ByteArray := prog_4_method_12_code
def yX2_readsComma : MethodName := ⟨RX2, "readsComma", "(I)Z"⟩
abbrev cX2_readsBehindRule : ByteArray := prog_4_method_13_code
def yX2_readsBehindRule : MethodName := ⟨RX2, "readsBehindRule", "(I)Z"⟩
abbrev cX2_readsRank : ByteArray := prog_4_method_14_code
def yX2_readsRank : MethodName := ⟨RX2, "readsRank", "(I)Z"⟩
abbrev cX2_readsSeparator : ByteArray := prog_4_method_15_code
def yX2_readsSeparator : MethodName := ⟨RX2, "readsSeparator", "(I)Z"⟩
def RX3 : String := "RunicSticks$Reckoning"
def TX3 : u_T := fun k => match k with
  | 0 => ("RunicSticks$Reckoning", "propers", "LRunicSticks$Row;", true)
  | 1 => ("RunicSticks$Reckoning", "notches", "LRunicSticks$Row;", true)
  | 2 => ("RunicSticks$Reckoning", "days", "I", false)
  | 3 => ("RunicSticks$Reckoning", "firstWeekday", "I", false)
  | _ => ("RunicSticks$Reckoning", "shift", "I", false)
def tyX3 : Nat → FieldType := fun k => match k with
  | 0 => .object "RunicSticks$Row"
  | 1 => .object "RunicSticks$Row"
  | 2 => .int
  | 3 => .int
  | _ => .int
abbrev wsX30 : List Cond := u_ws RX3 TX3 5
theorem nmX3 : ∀ a, a < 5 → ∀ b, b < 5 → a ≠ b → (TX3 a).2.1 ≠ (TX3 b).2.1 := by decide +kernel
theorem tyX3_ok : ∀ k, k < 5 → parseFieldDescriptor (TX3 k).2.2.1 = some (tyX3 k) := by decide +kernel
abbrev cX3_init : ByteArray := prog_5_method_1_code
def yX3_init : MethodName := ⟨RX3, "<init>", "()V"⟩
abbrev cX3_reckon : ByteArray := prog_5_method_2_code
def yX3_reckon : MethodName := ⟨RX3, "reckon", "(LRunicSticks$State;II)V"⟩
abbrev cX3_movedCount : ByteArray := prog_5_method_3_code
def yX3_movedCount : MethodName := ⟨RX3, "movedCount", "(I)I"⟩
abbrev cX3_orNone : ByteArray := prog_5_method_4_code
def yX3_orNone : MethodName := ⟨RX3, "orNone", "(I)I"⟩
abbrev cX3_dayByRule : ByteArray := prog_5_method_5_code
def yX3_dayByRule : MethodName := ⟨RX3, "dayByRule", "(LRunicSticks$State;I)I"⟩
abbrev cX3_weekdayFrom : ByteArray := prog_5_method_6_code
def yX3_weekdayFrom : MethodName := ⟨RX3, "weekdayFrom", "(II)I"⟩
abbrev cX3_weekdayPastMoon : ByteArray := prog_5_method_7_code
def yX3_weekdayPastMoon : MethodName := ⟨RX3, "weekdayPastMoon", "(II)I"⟩
abbrev cX3_cutNotches : ByteArray := prog_5_method_8_code
def yX3_cutNotches : MethodName := ⟨RX3, "cutNotches", "(LRunicSticks$State;I)V"⟩
abbrev cX3_hasNotch : ByteArray := prog_5_method_9_code
def yX3_hasNotch : MethodName := ⟨RX3, "hasNotch", "(II)Z"⟩
def RX4 : String := "RunicSticks$Row"
def TX4 : u_T := fun k => match k with
  | _ => ("RunicSticks$Row", "cells", "[I", true)
def tyX4 : Nat → FieldType := fun k => match k with
  | _ => .array .int
abbrev wsX40 : List Cond := u_ws RX4 TX4 1
theorem nmX4 : ∀ a, a < 1 → ∀ b, b < 1 → a ≠ b → (TX4 a).2.1 ≠ (TX4 b).2.1 := by decide +kernel
theorem tyX4_ok : ∀ k, k < 1 → parseFieldDescriptor (TX4 k).2.2.1 = some (tyX4 k) := by decide +kernel
abbrev cX4_init : ByteArray := prog_6_method_1_code
def yX4_init : MethodName := ⟨RX4, "<init>", "(I)V"⟩
abbrev cX4_at : ByteArray := prog_6_method_2_code
def yX4_at : MethodName := ⟨RX4, "at", "(I)I"⟩
abbrev cX4_put : ByteArray := prog_6_method_3_code
def yX4_put : MethodName := ⟨RX4, "put", "(II)V"⟩
abbrev cX4_putNowhere : ByteArray := prog_6_method_4_code
def yX4_putNowhere : MethodName := ⟨RX4, "putNowhere", "()V"⟩
abbrev cX4_copyFrom : ByteArray := prog_6_method_5_code
def yX4_copyFrom : MethodName := ⟨RX4, "copyFrom", "(LRunicSticks$Row;)V"⟩
def RX5 : String := "RunicSticks$State"
def TX5 : u_T := fun k => match k with
  | 0 => ("RunicSticks$State", "feasts", "I", false)
  | 1 => ("RunicSticks$State", "rules", "LRunicSticks$Row;", true)
  | 2 => ("RunicSticks$State", "ranks", "LRunicSticks$Row;", true)
  | 3 => ("RunicSticks$State", "days", "LRunicSticks$Row;", true)
  | 4 => ("RunicSticks$State", "others", "LRunicSticks$Row;", true)
  | 5 => ("RunicSticks$State", "slips", "LRunicSticks$Row;", true)
  | 6 => ("RunicSticks$State", "moonYears", "I", false)
  | 7 => ("RunicSticks$State", "sticks", "I", false)
  | 8 => ("RunicSticks$State", "stickYears", "LRunicSticks$Row;", true)
  | 9 => ("RunicSticks$State", "stickCarvers", "LRunicSticks$Row;", true)
  | 10 => ("RunicSticks$State", "stickFeasts", "LRunicSticks$Row;", true)
  | _ => ("RunicSticks$State", "stickNotches", "LRunicSticks$Row;", true)
def tyX5 : Nat → FieldType := fun k => match k with
  | 0 => .int
  | 1 => .object "RunicSticks$Row"
  | 2 => .object "RunicSticks$Row"
  | 3 => .object "RunicSticks$Row"
  | 4 => .object "RunicSticks$Row"
  | 5 => .object "RunicSticks$Row"
  | 6 => .int
  | 7 => .int
  | 8 => .object "RunicSticks$Row"
  | 9 => .object "RunicSticks$Row"
  | 10 => .object "RunicSticks$Row"
  | _ => .object "RunicSticks$Row"
abbrev wsX50 : List Cond := u_ws RX5 TX5 12
theorem nmX5 : ∀ a, a < 12 → ∀ b, b < 12 → a ≠ b → (TX5 a).2.1 ≠ (TX5 b).2.1 := by decide +kernel
theorem tyX5_ok : ∀ k, k < 12 → parseFieldDescriptor (TX5 k).2.2.1 = some (tyX5 k) := by decide +kernel
abbrev cX5_init : ByteArray := prog_7_method_1_code
def yX5_init : MethodName := ⟨RX5, "<init>", "()V"⟩
abbrev cX5_copyFrom : ByteArray := prog_7_method_2_code
def yX5_copyFrom : MethodName := ⟨RX5, "copyFrom", "(LRunicSticks$State;)V"⟩
abbrev cX5_addFeast : ByteArray := prog_7_method_3_code
def yX5_addFeast : MethodName := ⟨RX5, "addFeast", "(LRunicSticks$Reader;)V"⟩
abbrev cX5_addStick : ByteArray := prog_7_method_4_code
def yX5_addStick : MethodName := ⟨RX5, "addStick", "(IILRunicSticks$Row;)V"⟩
abbrev cX5_dropStick : ByteArray := prog_7_method_5_code
def yX5_dropStick : MethodName := ⟨RX5, "dropStick", "(I)V"⟩
abbrev cX5_copyStick : ByteArray := prog_7_method_6_code
def yX5_copyStick : MethodName := ⟨RX5, "copyStick", "(II)V"⟩
abbrev cX5_stickNotch : ByteArray := prog_7_method_7_code
def yX5_stickNotch : MethodName := ⟨RX5, "stickNotch", "(II)I"⟩
abbrev cX5_notchesOfStick : ByteArray := prog_7_method_8_code
def yX5_notchesOfStick : MethodName := ⟨RX5, "notchesOfStick", "(I)I"⟩
def RX6 : String := "RunicSticks"
def TX6 : u_T := fun k => match k with
  | 0 => ("RunicSticks", "now", "LRunicSticks$State;", true)
  | 1 => ("RunicSticks", "history", "LRunicSticks$History;", true)
  | 2 => ("RunicSticks", "buffer", "LRunicSticks$Row;", true)
  | 3 => ("RunicSticks", "reader", "LRunicSticks$Reader;", true)
  | 4 => ("RunicSticks", "reckoning", "LRunicSticks$Reckoning;", true)
  | 5 => ("RunicSticks", "council", "LRunicSticks$Council;", true)
  | 6 => ("RunicSticks", "rival", "LRunicSticks$Council;", true)
  | 7 => ("RunicSticks", "digestCouncils", "[LRunicSticks$Council;", true)
  | _ => ("RunicSticks", "bufferLength", "I", false)
def tyX6 : Nat → FieldType := fun k => match k with
  | 0 => .object "RunicSticks$State"
  | 1 => .object "RunicSticks$History"
  | 2 => .object "RunicSticks$Row"
  | 3 => .object "RunicSticks$Reader"
  | 4 => .object "RunicSticks$Reckoning"
  | 5 => .object "RunicSticks$Council"
  | 6 => .object "RunicSticks$Council"
  | 7 => .array (.object "RunicSticks$Council")
  | _ => .int
abbrev wsX60 : List Cond := u_ws RX6 TX6 9
theorem nmX6 : ∀ a, a < 9 → ∀ b, b < 9 → a ≠ b → (TX6 a).2.1 ≠ (TX6 b).2.1 := by decide +kernel
theorem tyX6_ok : ∀ k, k < 9 → parseFieldDescriptor (TX6 k).2.2.1 = some (tyX6 k) := by decide +kernel
abbrev cX6_init : ByteArray := prog_1_method_1_code
def yX6_init : MethodName := ⟨RX6, "<init>", "()V"⟩
abbrev cX6_proclaim : ByteArray := prog_1_method_2_code
def yX6_proclaim : MethodName := ⟨RX6, "proclaim", "()I"⟩
abbrev cX6_forget : ByteArray := prog_1_method_3_code
def yX6_forget : MethodName := ⟨RX6, "forget", "()I"⟩
abbrev cX6_rank : ByteArray := prog_1_method_4_code
def yX6_rank : MethodName := ⟨RX6, "rank", "(II)I"⟩
abbrev cX6_teach : ByteArray := prog_1_method_5_code
def yX6_teach : MethodName := ⟨RX6, "teach", "(II)I"⟩
abbrev cX6_carve : ByteArray := prog_1_method_6_code
def yX6_carve : MethodName := ⟨RX6, "carve", "(II)I"⟩
abbrev cX6_burn : ByteArray := prog_1_method_7_code
def yX6_burn : MethodName := ⟨RX6, "burn", "(I)I"⟩
abbrev cX6_set : ByteArray := prog_1_method_8_code
def yX6_set : MethodName := ⟨RX6, "set", "(I)I"⟩
abbrev cX6_append : ByteArray := prog_1_method_9_code
def yX6_append : MethodName := ⟨RX6, "append", "(I)I"⟩
abbrev cX6_clearBuffer : ByteArray := prog_1_method_10_code
def yX6_clearBuffer : MethodName := ⟨RX6, "clearBuffer", "()I"⟩
abbrev cX6_firstError : ByteArray := prog_1_method_11_code
def yX6_firstError : MethodName := ⟨RX6, "firstError", "()I"⟩
abbrev cX6_undo : ByteArray := prog_1_method_12_code
def yX6_undo : MethodName := ⟨RX6, "undo", "()I"⟩
abbrev cX6_day : ByteArray := prog_1_method_13_code
def yX6_day : MethodName := ⟨RX6, "day", "(III)I"⟩
abbrev cX6_feast : ByteArray := prog_1_method_14_code
def yX6_feast : MethodName := ⟨RX6, "feast", "(II)I"⟩
abbrev cX6_when : ByteArray := prog_1_method_15_code
def yX6_when : MethodName := ⟨RX6, "when", "(IIIZ)I"⟩
abbrev cX6_settled : ByteArray := prog_1_method_16_code
def yX6_settled : MethodName := ⟨RX6, "settled", "(II)I"⟩
abbrev cX6_quarrels : ByteArray := prog_1_method_17_code
def yX6_quarrels : MethodName := ⟨RX6, "quarrels", "(I)I"⟩
abbrev cX6_stick : ByteArray := prog_1_method_18_code
def yX6_stick : MethodName := ⟨RX6, "stick", "(II)I"⟩
abbrev cX6_count : ByteArray := prog_1_method_19_code
def yX6_count : MethodName := ⟨RX6, "count", "(I)I"⟩
abbrev cX6_range : ByteArray := prog_1_method_20_code
def yX6_range : MethodName := ⟨RX6, "range", "(IIIZ)I"⟩
abbrev cX6_alike : ByteArray := prog_1_method_21_code
def yX6_alike : MethodName := ⟨RX6, "alike", "(I)I"⟩
abbrev cX6_peace : ByteArray := prog_1_method_22_code
def yX6_peace : MethodName := ⟨RX6, "peace", "(II)I"⟩
abbrev cX6_moved : ByteArray := prog_1_method_23_code
def yX6_moved : MethodName := ⟨RX6, "moved", "(II)I"⟩
abbrev cX6_freshShare : ByteArray := prog_1_method_24_code
def yX6_freshShare : MethodName := ⟨RX6, "freshShare", "()D"⟩
abbrev cX6_digest : ByteArray := prog_1_method_25_code
def yX6_digest : MethodName := ⟨RX6, "digest", "()J"⟩
abbrev cX6_needWithin : ByteArray := prog_1_method_26_code
def yX6_needWithin : MethodName := ⟨RX6, "needWithin", "(III)V"⟩
abbrev cX6_needYear : ByteArray := prog_1_method_27_code
def yX6_needYear : MethodName := ⟨RX6, "needYear", "(I)V"⟩
abbrev cX6_needCarver : ByteArray := prog_1_method_28_code
def yX6_needCarver : MethodName := ⟨RX6, "needCarver", "(I)V"⟩
abbrev cX6_needFeast : ByteArray := prog_1_method_29_code
def yX6_needFeast : MethodName := ⟨RX6, "needFeast", "(I)V"⟩
abbrev cX6_needStick : ByteArray := prog_1_method_30_code
def yX6_needStick : MethodName := ⟨RX6, "needStick", "(I)V"⟩
abbrev cX6_isLeap : ByteArray := prog_1_method_31_code
def yX6_isLeap : MethodName := ⟨RX6, "isLeap", "(I)Z"⟩
abbrev cX6_daysIn : ByteArray := prog_1_method_32_code
def yX6_daysIn : MethodName := ⟨RX6, "daysIn", "(I)I"⟩
abbrev cX6_newYearWeekday : ByteArray := prog_1_method_33_code
def yX6_newYearWeekday : MethodName := ⟨RX6, "newYearWeekday", "(I)I"⟩
abbrev cX6_moonShift : ByteArray := prog_1_method_34_code
def yX6_moonShift : MethodName := ⟨RX6, "moonShift", "(III)I"⟩
abbrev cX6_moonAge : ByteArray := prog_1_method_35_code
def yX6_moonAge : MethodName := ⟨RX6, "moonAge", "(II)I"⟩
abbrev cX6_signsReadWell : ByteArray := prog_1_method_36_code
def yX6_signsReadWell : MethodName := ⟨RX6, "signsReadWell", "()I"⟩
abbrev cX6_bufferTellsFeasts : ByteArray := prog_1_method_37_code
def yX6_bufferTellsFeasts : MethodName := ⟨RX6, "bufferTellsFeasts", "()Z"⟩
abbrev cX6_addBufferedFeasts : ByteArray := prog_1_method_38_code
def yX6_addBufferedFeasts : MethodName := ⟨RX6, "addBufferedFeasts", "()I"⟩
abbrev cX6_addReadFeast : ByteArray := prog_1_method_39_code
def yX6_addReadFeast : MethodName := ⟨RX6, "addReadFeast", "()Z"⟩
abbrev cX6_lowestFeastOn : ByteArray := prog_1_method_40_code
def yX6_lowestFeastOn : MethodName := ⟨RX6, "lowestFeastOn", "(II)I"⟩
abbrev cX6_feastProperty : ByteArray := prog_1_method_41_code
def yX6_feastProperty : MethodName := ⟨RX6, "feastProperty", "(II)I"⟩
abbrev cX6_stickProperty : ByteArray := prog_1_method_42_code
def yX6_stickProperty : MethodName := ⟨RX6, "stickProperty", "(II)I"⟩
abbrev cX6_numberOf : ByteArray := prog_1_method_43_code
def yX6_numberOf : MethodName := ⟨RX6, "numberOf", "(I)I"⟩
abbrev cX6_staleFeasts : ByteArray := prog_1_method_44_code
def yX6_staleFeasts : MethodName := ⟨RX6, "staleFeasts", "(II)I"⟩
abbrev cX6_freshPart : ByteArray := prog_1_method_45_code
def yX6_freshPart : MethodName := ⟨RX6, "freshPart", "()D"⟩
abbrev cX6_outermost : ByteArray := prog_1_method_46_code
def yX6_outermost : MethodName := ⟨RX6, "outermost", "(IIIZ)I"⟩
abbrev cX6_nextAlike : ByteArray := prog_1_method_47_code
def yX6_nextAlike : MethodName := ⟨RX6, "nextAlike", "(I)I"⟩
abbrev cX6_calmestSlip : ByteArray := prog_1_method_48_code
def yX6_calmestSlip : MethodName := ⟨RX6, "calmestSlip", "(II)I"⟩
abbrev cX6_mixed : ByteArray := prog_1_method_49_code
def yX6_mixed : MethodName := ⟨RX6, "mixed", "(JJ)J"⟩
abbrev cX6_gatherDigestCouncils : ByteArray := prog_1_method_50_code
def yX6_gatherDigestCouncils : MethodName := ⟨RX6, "gatherDigestCouncils", "()V"⟩
abbrev cX6_mixedFeasts : ByteArray := prog_1_method_51_code
def yX6_mixedFeasts : MethodName := ⟨RX6, "mixedFeasts", "(J)J"⟩
abbrev cX6_mixedDays : ByteArray := prog_1_method_52_code
def yX6_mixedDays : MethodName := ⟨RX6, "mixedDays", "(JLRunicSticks$Council;I)J"⟩
abbrev cX6_mixedQuarrels : ByteArray := prog_1_method_53_code
def yX6_mixedQuarrels : MethodName := ⟨RX6, "mixedQuarrels", "(J)J"⟩
abbrev cX6_bitsOfShare : ByteArray := prog_1_method_54_code
def yX6_bitsOfShare : MethodName := ⟨RX6, "bitsOfShare", "(D)J"⟩
def RX7 : String := "RunicSticksModel"
def TX7 : u_T := fun k => match k with
  | 0 => ("RunicSticksModel", "thrown", "I", false)
  | 1 => ("RunicSticksModel", "s", "[I", true)
  | 2 => ("RunicSticksModel", "saved", "[I", true)
  | 3 => ("RunicSticksModel", "savedMany", "I", false)
  | 4 => ("RunicSticksModel", "text", "[I", true)
  | 5 => ("RunicSticksModel", "length", "I", false)
  | 6 => ("RunicSticksModel", "proper", "[I", true)
  | 7 => ("RunicSticksModel", "notch", "[I", true)
  | 8 => ("RunicSticksModel", "isCut", "[Z", true)
  | 9 => ("RunicSticksModel", "notches", "[I", true)
  | 10 => ("RunicSticksModel", "at", "I", false)
  | 11 => ("RunicSticksModel", "isWrong", "Z", false)
  | 12 => ("RunicSticksModel", "told", "[I", true)
  | 13 => ("RunicSticksModel", "row", "[I", true)
  | _ => ("RunicSticksModel", "digested", "J", false)
def tyX7 : Nat → FieldType := fun k => match k with
  | 0 => .int
  | 1 => .array .int
  | 2 => .array .int
  | 3 => .int
  | 4 => .array .int
  | 5 => .int
  | 6 => .array .int
  | 7 => .array .int
  | 8 => .array .boolean
  | 9 => .array .int
  | 10 => .int
  | 11 => .boolean
  | 12 => .array .int
  | 13 => .array .int
  | _ => .long
abbrev wsX70 : List Cond := u_ws RX7 TX7 15
theorem nmX7 : ∀ a, a < 15 → ∀ b, b < 15 → a ≠ b → (TX7 a).2.1 ≠ (TX7 b).2.1 := by decide +kernel
theorem tyX7_ok : ∀ k, k < 15 → parseFieldDescriptor (TX7 k).2.2.1 = some (tyX7 k) := by decide +kernel
abbrev cX7_init : ByteArray := prog_9_method_1_code
def yX7_init : MethodName := ⟨RX7, "<init>", "()V"⟩
abbrev cX7_thrown : ByteArray := prog_9_method_2_code
def yX7_thrown : MethodName := ⟨RX7, "thrown", "()I"⟩
abbrev cX7_in : ByteArray := prog_9_method_3_code
def yX7_in : MethodName := ⟨RX7, "in", "(III)Z"⟩
abbrev cX7_holds : ByteArray := prog_9_method_4_code
def yX7_holds : MethodName := ⟨RX7, "holds", "(I)Z"⟩
abbrev cX7_of : ByteArray := prog_9_method_5_code
def yX7_of : MethodName := ⟨RX7, "of", "(II)I"⟩
abbrev cX7_ofStick : ByteArray := prog_9_method_6_code
def yX7_ofStick : MethodName := ⟨RX7, "ofStick", "(II)I"⟩
abbrev cX7_isFeast : ByteArray := prog_9_method_7_code
def yX7_isFeast : MethodName := ⟨RX7, "isFeast", "(I)Z"⟩
abbrev cX7_isYear : ByteArray := prog_9_method_8_code
def yX7_isYear : MethodName := ⟨RX7, "isYear", "(I)Z"⟩
abbrev cX7_isCarver : ByteArray := prog_9_method_9_code
def yX7_isCarver : MethodName := ⟨RX7, "isCarver", "(I)Z"⟩
abbrev cX7_save : ByteArray := prog_9_method_10_code
def yX7_save : MethodName := ⟨RX7, "save", "()V"⟩
abbrev cX7_daysOf : ByteArray := prog_9_method_11_code
def yX7_daysOf : MethodName := ⟨RX7, "daysOf", "(I)I"⟩
abbrev cX7_weekday : ByteArray := prog_9_method_12_code
def yX7_weekday : MethodName := ⟨RX7, "weekday", "(II)I"⟩
abbrev cX7_age : ByteArray := prog_9_method_13_code
def yX7_age : MethodName := ⟨RX7, "age", "(III)I"⟩
abbrev cX7_firstWeekday : ByteArray := prog_9_method_14_code
def yX7_firstWeekday : MethodName := ⟨RX7, "firstWeekday", "(III)I"⟩
abbrev cX7_firstFull : ByteArray := prog_9_method_15_code
def yX7_firstFull : MethodName := ⟨RX7, "firstFull", "(III)I"⟩
abbrev cX7_findProper : ByteArray := prog_9_method_16_code
def yX7_findProper : MethodName := ⟨RX7, "findProper", "(II)V"⟩
abbrev cX7_lay : ByteArray := prog_9_method_17_code
def yX7_lay : MethodName := ⟨RX7, "lay", "(II)V"⟩
abbrev cX7_layAll : ByteArray := prog_9_method_18_code
def yX7_layAll : MethodName := ⟨RX7, "layAll", "(I)V"⟩
abbrev cX7_settledBy : ByteArray := prog_9_method_19_code
def yX7_settledBy : MethodName := ⟨RX7, "settledBy", "(I)I"⟩
abbrev cX7_quarrelsNow : ByteArray := prog_9_method_20_code
def yX7_quarrelsNow : MethodName := ⟨RX7, "quarrelsNow", "()I"⟩
abbrev cX7_append : ByteArray := prog_9_method_21_code
def yX7_append : MethodName := ⟨RX7, "append", "(I)I"⟩
abbrev cX7_clearBuffer : ByteArray := prog_9_method_22_code
def yX7_clearBuffer : MethodName := ⟨RX7, "clearBuffer", "()I"⟩
abbrev cX7_sign : ByteArray := prog_9_method_23_code
def yX7_sign : MethodName := ⟨RX7, "sign", "(II)I"⟩
abbrev cX7_isNext : ByteArray := prog_9_method_24_code
def yX7_isNext : MethodName := ⟨RX7, "isNext", "(I)Z"⟩
abbrev cX7_number : ByteArray := prog_9_method_25_code
def yX7_number : MethodName := ⟨RX7, "number", "(I)I"⟩
abbrev cX7_read : ByteArray := prog_9_method_26_code
def yX7_read : MethodName := ⟨RX7, "read", "()V"⟩
abbrev cX7_adds : ByteArray := prog_9_method_27_code
def yX7_adds : MethodName := ⟨RX7, "adds", "()Z"⟩
abbrev cX7_go : ByteArray := prog_9_method_28_code
def yX7_go : MethodName := ⟨RX7, "go", "(Z)I"⟩
abbrev cX7_firstError : ByteArray := prog_9_method_29_code
def yX7_firstError : MethodName := ⟨RX7, "firstError", "()I"⟩
abbrev cX7_proclaim : ByteArray := prog_9_method_30_code
def yX7_proclaim : MethodName := ⟨RX7, "proclaim", "()I"⟩
abbrev cX7_forget : ByteArray := prog_9_method_31_code
def yX7_forget : MethodName := ⟨RX7, "forget", "()I"⟩
abbrev cX7_puts : ByteArray := prog_9_method_32_code
def yX7_puts : MethodName := ⟨RX7, "puts", "(II)I"⟩
abbrev cX7_rank : ByteArray := prog_9_method_33_code
def yX7_rank : MethodName := ⟨RX7, "rank", "(II)I"⟩
abbrev cX7_teach : ByteArray := prog_9_method_34_code
def yX7_teach : MethodName := ⟨RX7, "teach", "(II)I"⟩
abbrev cX7_set : ByteArray := prog_9_method_35_code
def yX7_set : MethodName := ⟨RX7, "set", "(I)I"⟩
abbrev cX7_carve : ByteArray := prog_9_method_36_code
def yX7_carve : MethodName := ⟨RX7, "carve", "(II)I"⟩
abbrev cX7_isStick : ByteArray := prog_9_method_37_code
def yX7_isStick : MethodName := ⟨RX7, "isStick", "(I)Z"⟩
abbrev cX7_burn : ByteArray := prog_9_method_38_code
def yX7_burn : MethodName := ⟨RX7, "burn", "(I)I"⟩
abbrev cX7_undo : ByteArray := prog_9_method_39_code
def yX7_undo : MethodName := ⟨RX7, "undo", "()I"⟩
abbrev cX7_feastOn : ByteArray := prog_9_method_40_code
def yX7_feastOn : MethodName := ⟨RX7, "feastOn", "(II)I"⟩
abbrev cX7_aboutDay : ByteArray := prog_9_method_41_code
def yX7_aboutDay : MethodName := ⟨RX7, "aboutDay", "(III)I"⟩
abbrev cX7_day : ByteArray := prog_9_method_42_code
def yX7_day : MethodName := ⟨RX7, "day", "(III)I"⟩
abbrev cX7_ofFeast : ByteArray := prog_9_method_43_code
def yX7_ofFeast : MethodName := ⟨RX7, "ofFeast", "(II)I"⟩
abbrev cX7_feast : ByteArray := prog_9_method_44_code
def yX7_feast : MethodName := ⟨RX7, "feast", "(II)I"⟩
abbrev cX7_dayOf : ByteArray := prog_9_method_45_code
def yX7_dayOf : MethodName := ⟨RX7, "dayOf", "(IIIZ)I"⟩
abbrev cX7_when : ByteArray := prog_9_method_46_code
def yX7_when : MethodName := ⟨RX7, "when", "(IIIZ)I"⟩
abbrev cX7_settledOf : ByteArray := prog_9_method_47_code
def yX7_settledOf : MethodName := ⟨RX7, "settledOf", "(II)I"⟩
abbrev cX7_settled : ByteArray := prog_9_method_48_code
def yX7_settled : MethodName := ⟨RX7, "settled", "(II)I"⟩
abbrev cX7_quarrelsOf : ByteArray := prog_9_method_49_code
def yX7_quarrelsOf : MethodName := ⟨RX7, "quarrelsOf", "(I)I"⟩
abbrev cX7_quarrels : ByteArray := prog_9_method_50_code
def yX7_quarrels : MethodName := ⟨RX7, "quarrels", "(I)I"⟩
abbrev cX7_staleOf : ByteArray := prog_9_method_51_code
def yX7_staleOf : MethodName := ⟨RX7, "staleOf", "(I)I"⟩
abbrev cX7_aboutStick : ByteArray := prog_9_method_52_code
def yX7_aboutStick : MethodName := ⟨RX7, "aboutStick", "(II)I"⟩
abbrev cX7_stick : ByteArray := prog_9_method_53_code
def yX7_stick : MethodName := ⟨RX7, "stick", "(II)I"⟩
abbrev cX7_allStale : ByteArray := prog_9_method_54_code
def yX7_allStale : MethodName := ⟨RX7, "allStale", "()I"⟩
abbrev cX7_counted : ByteArray := prog_9_method_55_code
def yX7_counted : MethodName := ⟨RX7, "counted", "(I)I"⟩
abbrev cX7_count : ByteArray := prog_9_method_56_code
def yX7_count : MethodName := ⟨RX7, "count", "(I)I"⟩
abbrev cX7_outermost : ByteArray := prog_9_method_57_code
def yX7_outermost : MethodName := ⟨RX7, "outermost", "(IIIZ)I"⟩
abbrev cX7_range : ByteArray := prog_9_method_58_code
def yX7_range : MethodName := ⟨RX7, "range", "(IIIZ)I"⟩
abbrev cX7_nextAlike : ByteArray := prog_9_method_59_code
def yX7_nextAlike : MethodName := ⟨RX7, "nextAlike", "(I)I"⟩
abbrev cX7_alike : ByteArray := prog_9_method_60_code
def yX7_alike : MethodName := ⟨RX7, "alike", "(I)I"⟩
abbrev cX7_size : ByteArray := prog_9_method_61_code
def yX7_size : MethodName := ⟨RX7, "size", "(I)I"⟩
abbrev cX7_bestSlip : ByteArray := prog_9_method_62_code
def yX7_bestSlip : MethodName := ⟨RX7, "bestSlip", "(II)I"⟩
abbrev cX7_peace : ByteArray := prog_9_method_63_code
def yX7_peace : MethodName := ⟨RX7, "peace", "(II)I"⟩
abbrev cX7_movedBy : ByteArray := prog_9_method_64_code
def yX7_movedBy : MethodName := ⟨RX7, "movedBy", "(II)I"⟩
abbrev cX7_moved : ByteArray := prog_9_method_65_code
def yX7_moved : MethodName := ⟨RX7, "moved", "(II)I"⟩
abbrev cX7_fresh : ByteArray := prog_9_method_66_code
def yX7_fresh : MethodName := ⟨RX7, "fresh", "()D"⟩
abbrev cX7_freshShare : ByteArray := prog_9_method_67_code
def yX7_freshShare : MethodName := ⟨RX7, "freshShare", "()D"⟩
abbrev cX7_bitsOf : ByteArray := prog_9_method_68_code
def yX7_bitsOf : MethodName := ⟨RX7, "bitsOf", "(D)J"⟩
abbrev cX7_digestOne : ByteArray := prog_9_method_69_code
def yX7_digestOne : MethodName := ⟨RX7, "digestOne", "(J)V"⟩
abbrev cX7_someYear : ByteArray := prog_9_method_70_code
def yX7_someYear : MethodName := ⟨RX7, "someYear", "(I)I"⟩
abbrev cX7_digestFeast : ByteArray := prog_9_method_71_code
def yX7_digestFeast : MethodName := ⟨RX7, "digestFeast", "(I)V"⟩
abbrev cX7_digest : ByteArray := prog_9_method_72_code
def yX7_digest : MethodName := ⟨RX7, "digest", "()J"⟩
def RJ0 : String := "java/lang/String"
def TJ0 : u_T := fun k => match k with
  | _ => ("", "", "", false)
def tyJ0 : Nat → FieldType := fun k => match k with
  | _ => .int
abbrev wsJ00 : List Cond := u_ws RJ0 TJ0 0
theorem nmJ0 : ∀ a, a < 0 → ∀ b, b < 0 → a ≠ b → (TJ0 a).2.1 ≠ (TJ0 b).2.1 := by decide +kernel
theorem tyJ0_ok : ∀ k, k < 0 → parseFieldDescriptor (TJ0 k).2.2.1 = some (tyJ0 k) := by decide +kernel
def RL : String := "RunicSticksLaw"
abbrev cL_proclaim : ByteArray := method_3_code
def yL_proclaim : MethodName := ⟨RL, "proclaim", "(LRunicSticks;[J)I"⟩
abbrev cL_forget : ByteArray := method_4_code
def yL_forget : MethodName := ⟨RL, "forget", "(LRunicSticks;[J)I"⟩
abbrev cL_rank : ByteArray := method_5_code
def yL_rank : MethodName := ⟨RL, "rank", "(LRunicSticks;II[J)I"⟩
abbrev cL_teach : ByteArray := method_6_code
def yL_teach : MethodName := ⟨RL, "teach", "(LRunicSticks;II[J)I"⟩
abbrev cL_carve : ByteArray := method_7_code
def yL_carve : MethodName := ⟨RL, "carve", "(LRunicSticks;II[J)I"⟩
abbrev cL_burn : ByteArray := method_8_code
def yL_burn : MethodName := ⟨RL, "burn", "(LRunicSticks;I[J)I"⟩
abbrev cL_set : ByteArray := method_9_code
def yL_set : MethodName := ⟨RL, "set", "(LRunicSticks;I[J)I"⟩
abbrev cL_append : ByteArray := method_10_code
def yL_append : MethodName := ⟨RL, "append", "(LRunicSticks;I[J)I"⟩
abbrev cL_undo : ByteArray := method_11_code
def yL_undo : MethodName := ⟨RL, "undo", "(LRunicSticks;[J)I"⟩
abbrev cL_day : ByteArray := method_12_code
def yL_day : MethodName := ⟨RL, "day", "(LRunicSticks;III[J)I"⟩
abbrev cL_feast : ByteArray := method_13_code
def yL_feast : MethodName := ⟨RL, "feast", "(LRunicSticks;II[J)I"⟩
abbrev cL_when : ByteArray := method_14_code
def yL_when : MethodName := ⟨RL, "when", "(LRunicSticks;IIIZ[J)I"⟩
abbrev cL_settled : ByteArray := method_15_code
def yL_settled : MethodName := ⟨RL, "settled", "(LRunicSticks;II[J)I"⟩
abbrev cL_quarrels : ByteArray := method_16_code
def yL_quarrels : MethodName := ⟨RL, "quarrels", "(LRunicSticks;I[J)I"⟩
abbrev cL_stick : ByteArray := method_17_code
def yL_stick : MethodName := ⟨RL, "stick", "(LRunicSticks;II[J)I"⟩
abbrev cL_count : ByteArray := method_18_code
def yL_count : MethodName := ⟨RL, "count", "(LRunicSticks;I[J)I"⟩
abbrev cL_range : ByteArray := method_19_code
def yL_range : MethodName := ⟨RL, "range", "(LRunicSticks;IIIZ[J)I"⟩
abbrev cL_alike : ByteArray := method_20_code
def yL_alike : MethodName := ⟨RL, "alike", "(LRunicSticks;I[J)I"⟩
abbrev cL_peace : ByteArray := method_21_code
def yL_peace : MethodName := ⟨RL, "peace", "(LRunicSticks;II[J)I"⟩
abbrev cL_moved : ByteArray := method_22_code
def yL_moved : MethodName := ⟨RL, "moved", "(LRunicSticks;II[J)I"⟩
abbrev cL_law : ByteArray := code
def yL_law : MethodName := ⟨RL, "law", "([I)Z"⟩
abbrev vwCl : List vw_C := [(RX0, TX0, 3), (RX1, TX1, 3), (RX2, TX2, 6), (RX3, TX3, 5), (RX4, TX4, 1), (RX5, TX5, 12), (RX6, TX6, 9), (RX7, TX7, 15)]
end
section
theorem dX0_init_0 : decode cX0_init 0 = .ok (.aload_n 0, 1) := by decide +kernel
theorem dX0_init_1 : decode cX0_init 1 = .ok (.invokespecial 3, 3) := by decide +kernel
theorem dX0_init_4 : decode cX0_init 4 = .ok (.aload_n 0, 1) := by decide +kernel
theorem dX0_init_5 : decode cX0_init 5 = .ok (.new 9, 3) := by decide +kernel
theorem dX0_init_8 : decode cX0_init 8 = .ok (.dup, 1) := by decide +kernel
theorem dX0_init_9 : decode cX0_init 9 = .ok (.invokespecial 11, 3) := by decide +kernel
theorem dX0_init_12 : decode cX0_init 12 = .ok (.putfield 12, 3) := by decide +kernel
theorem dX0_init_15 : decode cX0_init 15 = .ok (.aload_n 0, 1) := by decide +kernel
theorem dX0_init_16 : decode cX0_init 16 = .ok (.new 9, 3) := by decide +kernel
theorem dX0_init_19 : decode cX0_init 19 = .ok (.dup, 1) := by decide +kernel
theorem dX0_init_20 : decode cX0_init 20 = .ok (.invokespecial 11, 3) := by decide +kernel
theorem dX0_init_23 : decode cX0_init 23 = .ok (.putfield 18, 3) := by decide +kernel
theorem dX0_init_26 : decode cX0_init 26 = .ok (.aload_n 0, 1) := by decide +kernel
theorem dX0_init_27 : decode cX0_init 27 = .ok (.new 9, 3) := by decide +kernel
theorem dX0_init_30 : decode cX0_init 30 = .ok (.dup, 1) := by decide +kernel
theorem dX0_init_31 : decode cX0_init 31 = .ok (.invokespecial 11, 3) := by decide +kernel
theorem dX0_init_34 : decode cX0_init 34 = .ok (.putfield 21, 3) := by decide +kernel
theorem dX0_init_37 : decode cX0_init 37 = .ok (.return_, 1) := by decide +kernel
theorem dX0_by_0 : decode cX0_by 0 = .ok (.iload_n 1, 1) := by decide +kernel
theorem dX0_by_1 : decode cX0_by 1 = .ok (.lookupswitch 37 #[(1, 27), (2, 32)], 27) := by decide +kernel
theorem dX0_by_28 : decode cX0_by 28 = .ok (.aload_n 0, 1) := by decide +kernel
theorem dX0_by_29 : decode cX0_by 29 = .ok (.getfield 18, 3) := by decide +kernel
theorem dX0_by_32 : decode cX0_by 32 = .ok (.areturn, 1) := by decide +kernel
theorem dX0_by_33 : decode cX0_by 33 = .ok (.aload_n 0, 1) := by decide +kernel
theorem dX0_by_34 : decode cX0_by 34 = .ok (.getfield 21, 3) := by decide +kernel
theorem dX0_by_37 : decode cX0_by 37 = .ok (.areturn, 1) := by decide +kernel
theorem dX0_by_38 : decode cX0_by 38 = .ok (.aload_n 0, 1) := by decide +kernel
theorem dX0_by_39 : decode cX0_by 39 = .ok (.getfield 12, 3) := by decide +kernel
theorem dX0_by_42 : decode cX0_by 42 = .ok (.areturn, 1) := by decide +kernel
theorem dX0_gather_0 : decode cX0_gather 0 = .ok (.iconst 0, 1) := by decide +kernel
theorem dX0_gather_1 : decode cX0_gather 1 = .ok (.istore_n 3, 1) := by decide +kernel
theorem dX0_gather_2 : decode cX0_gather 2 = .ok (.iload_n 3, 1) := by decide +kernel
theorem dX0_gather_3 : decode cX0_gather 3 = .ok (.iconst 3, 1) := by decide +kernel
theorem dX0_gather_4 : decode cX0_gather 4 = .ok (.if_icmp .ge 27, 3) := by decide +kernel
theorem dX0_gather_7 : decode cX0_gather 7 = .ok (.aload_n 0, 1) := by decide +kernel
theorem dX0_gather_8 : decode cX0_gather 8 = .ok (.iload_n 3, 1) := by decide +kernel
theorem dX0_gather_9 : decode cX0_gather 9 = .ok (.invokevirtual 24, 3) := by decide +kernel
theorem dX0_gather_12 : decode cX0_gather 12 = .ok (.aload_n 1, 1) := by decide +kernel
theorem dX0_gather_13 : decode cX0_gather 13 = .ok (.iload_n 2, 1) := by decide +kernel
theorem dX0_gather_14 : decode cX0_gather 14 = .ok (.aload_n 1, 1) := by decide +kernel
theorem dX0_gather_15 : decode cX0_gather 15 = .ok (.getfield 28, 3) := by decide +kernel
theorem dX0_gather_18 : decode cX0_gather 18 = .ok (.iload_n 3, 1) := by decide +kernel
theorem dX0_gather_19 : decode cX0_gather 19 = .ok (.invokevirtual 34, 3) := by decide +kernel
theorem dX0_gather_22 : decode cX0_gather 22 = .ok (.invokevirtual 40, 3) := by decide +kernel
theorem dX0_gather_25 : decode cX0_gather 25 = .ok (.iinc 3 1, 3) := by decide +kernel
theorem dX0_gather_28 : decode cX0_gather 28 = .ok (.goto (-26), 3) := by decide +kernel
theorem dX0_gather_31 : decode cX0_gather 31 = .ok (.return_, 1) := by decide +kernel
theorem dX0_settledNotch_0 : decode cX0_settledNotch 0 = .ok (.aload_n 0, 1) := by decide +kernel
theorem dX0_settledNotch_1 : decode cX0_settledNotch 1 = .ok (.getfield 18, 3) := by decide +kernel
theorem dX0_settledNotch_4 : decode cX0_settledNotch 4 = .ok (.getfield 44, 3) := by decide +kernel
theorem dX0_settledNotch_7 : decode cX0_settledNotch 7 = .ok (.iload_n 1, 1) := by decide +kernel
theorem dX0_settledNotch_8 : decode cX0_settledNotch 8 = .ok (.invokevirtual 34, 3) := by decide +kernel
theorem dX0_settledNotch_11 : decode cX0_settledNotch 11 = .ok (.istore_n 2, 1) := by decide +kernel
theorem dX0_settledNotch_12 : decode cX0_settledNotch 12 = .ok (.iload_n 2, 1) := by decide +kernel
theorem dX0_settledNotch_13 : decode cX0_settledNotch 13 = .ok (.aload_n 0, 1) := by decide +kernel
theorem dX0_settledNotch_14 : decode cX0_settledNotch 14 = .ok (.getfield 21, 3) := by decide +kernel
theorem dX0_settledNotch_17 : decode cX0_settledNotch 17 = .ok (.getfield 44, 3) := by decide +kernel
theorem dX0_settledNotch_20 : decode cX0_settledNotch 20 = .ok (.iload_n 1, 1) := by decide +kernel
theorem dX0_settledNotch_21 : decode cX0_settledNotch 21 = .ok (.invokevirtual 34, 3) := by decide +kernel
theorem dX0_settledNotch_24 : decode cX0_settledNotch 24 = .ok (.if_icmp .ne 7, 3) := by decide +kernel
theorem dX0_settledNotch_27 : decode cX0_settledNotch 27 = .ok (.iload_n 2, 1) := by decide +kernel
theorem dX0_settledNotch_28 : decode cX0_settledNotch 28 = .ok (.goto 14, 3) := by decide +kernel
theorem dX0_settledNotch_31 : decode cX0_settledNotch 31 = .ok (.aload_n 0, 1) := by decide +kernel
theorem dX0_settledNotch_32 : decode cX0_settledNotch 32 = .ok (.getfield 12, 3) := by decide +kernel
theorem dX0_settledNotch_35 : decode cX0_settledNotch 35 = .ok (.getfield 44, 3) := by decide +kernel
theorem dX0_settledNotch_38 : decode cX0_settledNotch 38 = .ok (.iload_n 1, 1) := by decide +kernel
theorem dX0_settledNotch_39 : decode cX0_settledNotch 39 = .ok (.invokevirtual 34, 3) := by decide +kernel
theorem dX0_settledNotch_42 : decode cX0_settledNotch 42 = .ok (.ireturn, 1) := by decide +kernel
theorem dX0_quarrelCount_0 : decode cX0_quarrelCount 0 = .ok (.iconst 0, 1) := by decide +kernel
theorem dX0_quarrelCount_1 : decode cX0_quarrelCount 1 = .ok (.istore_n 2, 1) := by decide +kernel
theorem dX0_quarrelCount_2 : decode cX0_quarrelCount 2 = .ok (.iconst 0, 1) := by decide +kernel
theorem dX0_quarrelCount_3 : decode cX0_quarrelCount 3 = .ok (.istore_n 3, 1) := by decide +kernel
theorem dX0_quarrelCount_4 : decode cX0_quarrelCount 4 = .ok (.iload_n 3, 1) := by decide +kernel
theorem dX0_quarrelCount_5 : decode cX0_quarrelCount 5 = .ok (.iload_n 1, 1) := by decide +kernel
theorem dX0_quarrelCount_6 : decode cX0_quarrelCount 6 = .ok (.if_icmp .ge 57, 3) := by decide +kernel
theorem dX0_quarrelCount_9 : decode cX0_quarrelCount 9 = .ok (.aload_n 0, 1) := by decide +kernel
theorem dX0_quarrelCount_10 : decode cX0_quarrelCount 10 = .ok (.getfield 12, 3) := by decide +kernel
theorem dX0_quarrelCount_13 : decode cX0_quarrelCount 13 = .ok (.getfield 44, 3) := by decide +kernel
theorem dX0_quarrelCount_16 : decode cX0_quarrelCount 16 = .ok (.iload_n 3, 1) := by decide +kernel
theorem dX0_quarrelCount_17 : decode cX0_quarrelCount 17 = .ok (.invokevirtual 34, 3) := by decide +kernel
theorem dX0_quarrelCount_20 : decode cX0_quarrelCount 20 = .ok (.istore 4, 2) := by decide +kernel
theorem dX0_quarrelCount_22 : decode cX0_quarrelCount 22 = .ok (.iload 4, 2) := by decide +kernel
theorem dX0_quarrelCount_24 : decode cX0_quarrelCount 24 = .ok (.aload_n 0, 1) := by decide +kernel
theorem dX0_quarrelCount_25 : decode cX0_quarrelCount 25 = .ok (.getfield 18, 3) := by decide +kernel
theorem dX0_quarrelCount_28 : decode cX0_quarrelCount 28 = .ok (.getfield 44, 3) := by decide +kernel
theorem dX0_quarrelCount_31 : decode cX0_quarrelCount 31 = .ok (.iload_n 3, 1) := by decide +kernel
theorem dX0_quarrelCount_32 : decode cX0_quarrelCount 32 = .ok (.invokevirtual 34, 3) := by decide +kernel
theorem dX0_quarrelCount_35 : decode cX0_quarrelCount 35 = .ok (.if_icmp .ne 19, 3) := by decide +kernel
theorem dX0_quarrelCount_38 : decode cX0_quarrelCount 38 = .ok (.iload 4, 2) := by decide +kernel
theorem dX0_quarrelCount_40 : decode cX0_quarrelCount 40 = .ok (.aload_n 0, 1) := by decide +kernel
theorem dX0_quarrelCount_41 : decode cX0_quarrelCount 41 = .ok (.getfield 21, 3) := by decide +kernel
theorem dX0_quarrelCount_44 : decode cX0_quarrelCount 44 = .ok (.getfield 44, 3) := by decide +kernel
theorem dX0_quarrelCount_47 : decode cX0_quarrelCount 47 = .ok (.iload_n 3, 1) := by decide +kernel
theorem dX0_quarrelCount_48 : decode cX0_quarrelCount 48 = .ok (.invokevirtual 34, 3) := by decide +kernel
theorem dX0_quarrelCount_51 : decode cX0_quarrelCount 51 = .ok (.if_icmp .eq 6, 3) := by decide +kernel
theorem dX0_quarrelCount_54 : decode cX0_quarrelCount 54 = .ok (.iinc 2 1, 3) := by decide +kernel
theorem dX0_quarrelCount_57 : decode cX0_quarrelCount 57 = .ok (.iinc 3 1, 3) := by decide +kernel
theorem dX0_quarrelCount_60 : decode cX0_quarrelCount 60 = .ok (.goto (-56), 3) := by decide +kernel
theorem dX0_quarrelCount_63 : decode cX0_quarrelCount 63 = .ok (.iload_n 2, 1) := by decide +kernel
theorem dX0_quarrelCount_64 : decode cX0_quarrelCount 64 = .ok (.ireturn, 1) := by decide +kernel
theorem dX0_settlesLike_0 : decode cX0_settlesLike 0 = .ok (.iconst 0, 1) := by decide +kernel
theorem dX0_settlesLike_1 : decode cX0_settlesLike 1 = .ok (.istore_n 3, 1) := by decide +kernel
theorem dX0_settlesLike_2 : decode cX0_settlesLike 2 = .ok (.iload_n 3, 1) := by decide +kernel
theorem dX0_settlesLike_3 : decode cX0_settlesLike 3 = .ok (.iload_n 2, 1) := by decide +kernel
theorem dX0_settlesLike_4 : decode cX0_settlesLike 4 = .ok (.if_icmp .ge 24, 3) := by decide +kernel
theorem dX0_settlesLike_7 : decode cX0_settlesLike 7 = .ok (.aload_n 0, 1) := by decide +kernel
theorem dX0_settlesLike_8 : decode cX0_settlesLike 8 = .ok (.iload_n 3, 1) := by decide +kernel
theorem dX0_settlesLike_9 : decode cX0_settlesLike 9 = .ok (.invokevirtual 47, 3) := by decide +kernel
theorem dX0_settlesLike_12 : decode cX0_settlesLike 12 = .ok (.aload_n 1, 1) := by decide +kernel
theorem dX0_settlesLike_13 : decode cX0_settlesLike 13 = .ok (.iload_n 3, 1) := by decide +kernel
theorem dX0_settlesLike_14 : decode cX0_settlesLike 14 = .ok (.invokevirtual 47, 3) := by decide +kernel
theorem dX0_settlesLike_17 : decode cX0_settlesLike 17 = .ok (.if_icmp .eq 5, 3) := by decide +kernel
theorem dX0_settlesLike_20 : decode cX0_settlesLike 20 = .ok (.iconst 0, 1) := by decide +kernel
theorem dX0_settlesLike_21 : decode cX0_settlesLike 21 = .ok (.ireturn, 1) := by decide +kernel
theorem dX0_settlesLike_22 : decode cX0_settlesLike 22 = .ok (.iinc 3 1, 3) := by decide +kernel
theorem dX0_settlesLike_25 : decode cX0_settlesLike 25 = .ok (.goto (-23), 3) := by decide +kernel
theorem dX0_settlesLike_28 : decode cX0_settlesLike 28 = .ok (.iconst 1, 1) := by decide +kernel
theorem dX0_settlesLike_29 : decode cX0_settlesLike 29 = .ok (.ireturn, 1) := by decide +kernel
theorem dX1_init_0 : decode cX1_init 0 = .ok (.aload_n 0, 1) := by decide +kernel
theorem dX1_init_1 : decode cX1_init 1 = .ok (.invokespecial 3, 3) := by decide +kernel
theorem dX1_init_4 : decode cX1_init 4 = .ok (.aload_n 0, 1) := by decide +kernel
theorem dX1_init_5 : decode cX1_init 5 = .ok (.bipush 6, 2) := by decide +kernel
theorem dX1_init_7 : decode cX1_init 7 = .ok (.anewarray 9, 3) := by decide +kernel
theorem dX1_init_10 : decode cX1_init 10 = .ok (.putfield 11, 3) := by decide +kernel
theorem dX1_init_13 : decode cX1_init 13 = .ok (.aload_n 0, 1) := by decide +kernel
theorem dX1_init_14 : decode cX1_init 14 = .ok (.iconst 0, 1) := by decide +kernel
theorem dX1_init_15 : decode cX1_init 15 = .ok (.putfield 17, 3) := by decide +kernel
theorem dX1_init_18 : decode cX1_init 18 = .ok (.aload_n 0, 1) := by decide +kernel
theorem dX1_init_19 : decode cX1_init 19 = .ok (.iconst 0, 1) := by decide +kernel
theorem dX1_init_20 : decode cX1_init 20 = .ok (.putfield 21, 3) := by decide +kernel
theorem dX1_init_23 : decode cX1_init 23 = .ok (.iconst 0, 1) := by decide +kernel
theorem dX1_init_24 : decode cX1_init 24 = .ok (.istore_n 1, 1) := by decide +kernel
theorem dX1_init_25 : decode cX1_init 25 = .ok (.iload_n 1, 1) := by decide +kernel
theorem dX1_init_26 : decode cX1_init 26 = .ok (.aload_n 0, 1) := by decide +kernel
theorem dX1_init_27 : decode cX1_init 27 = .ok (.getfield 11, 3) := by decide +kernel
theorem dX1_init_30 : decode cX1_init 30 = .ok (.arraylength, 1) := by decide +kernel
theorem dX1_init_31 : decode cX1_init 31 = .ok (.if_icmp .ge 22, 3) := by decide +kernel
theorem dX1_init_34 : decode cX1_init 34 = .ok (.aload_n 0, 1) := by decide +kernel
theorem dX1_init_35 : decode cX1_init 35 = .ok (.getfield 11, 3) := by decide +kernel
theorem dX1_init_38 : decode cX1_init 38 = .ok (.iload_n 1, 1) := by decide +kernel
theorem dX1_init_39 : decode cX1_init 39 = .ok (.new 9, 3) := by decide +kernel
theorem dX1_init_42 : decode cX1_init 42 = .ok (.dup, 1) := by decide +kernel
theorem dX1_init_43 : decode cX1_init 43 = .ok (.invokespecial 24, 3) := by decide +kernel
theorem dX1_init_46 : decode cX1_init 46 = .ok (.aastore, 1) := by decide +kernel
theorem dX1_init_47 : decode cX1_init 47 = .ok (.iinc 1 1, 3) := by decide +kernel
theorem dX1_init_50 : decode cX1_init 50 = .ok (.goto (-25), 3) := by decide +kernel
theorem dX1_init_53 : decode cX1_init 53 = .ok (.return_, 1) := by decide +kernel
theorem dX1_size_0 : decode cX1_size 0 = .ok (.aload_n 0, 1) := by decide +kernel
theorem dX1_size_1 : decode cX1_size 1 = .ok (.getfield 21, 3) := by decide +kernel
theorem dX1_size_4 : decode cX1_size 4 = .ok (.ireturn, 1) := by decide +kernel
theorem dX1_isEmpty_0 : decode cX1_isEmpty 0 = .ok (.aload_n 0, 1) := by decide +kernel
theorem dX1_isEmpty_1 : decode cX1_isEmpty 1 = .ok (.getfield 21, 3) := by decide +kernel
theorem dX1_isEmpty_4 : decode cX1_isEmpty 4 = .ok (.ifCond .gt 7, 3) := by decide +kernel
theorem dX1_isEmpty_7 : decode cX1_isEmpty 7 = .ok (.iconst 1, 1) := by decide +kernel
theorem dX1_isEmpty_8 : decode cX1_isEmpty 8 = .ok (.goto 4, 3) := by decide +kernel
theorem dX1_isEmpty_11 : decode cX1_isEmpty 11 = .ok (.iconst 0, 1) := by decide +kernel
theorem dX1_isEmpty_12 : decode cX1_isEmpty 12 = .ok (.ireturn, 1) := by decide +kernel
theorem dX1_save_0 : decode cX1_save 0 = .ok (.aload_n 0, 1) := by decide +kernel
theorem dX1_save_1 : decode cX1_save 1 = .ok (.getfield 21, 3) := by decide +kernel
theorem dX1_save_4 : decode cX1_save 4 = .ok (.bipush 6, 2) := by decide +kernel
theorem dX1_save_6 : decode cX1_save 6 = .ok (.if_icmp .lt 26, 3) := by decide +kernel
theorem dX1_save_9 : decode cX1_save 9 = .ok (.aload_n 0, 1) := by decide +kernel
theorem dX1_save_10 : decode cX1_save 10 = .ok (.aload_n 0, 1) := by decide +kernel
theorem dX1_save_11 : decode cX1_save 11 = .ok (.getfield 17, 3) := by decide +kernel
theorem dX1_save_14 : decode cX1_save 14 = .ok (.iconst 1, 1) := by decide +kernel
theorem dX1_save_15 : decode cX1_save 15 = .ok (.iadd, 1) := by decide +kernel
theorem dX1_save_16 : decode cX1_save 16 = .ok (.bipush 6, 2) := by decide +kernel
theorem dX1_save_18 : decode cX1_save 18 = .ok (.irem, 1) := by decide +kernel
theorem dX1_save_19 : decode cX1_save 19 = .ok (.putfield 17, 3) := by decide +kernel
theorem dX1_save_22 : decode cX1_save 22 = .ok (.aload_n 0, 1) := by decide +kernel
theorem dX1_save_23 : decode cX1_save 23 = .ok (.dup, 1) := by decide +kernel
theorem dX1_save_24 : decode cX1_save 24 = .ok (.getfield 21, 3) := by decide +kernel
theorem dX1_save_27 : decode cX1_save 27 = .ok (.iconst 1, 1) := by decide +kernel
theorem dX1_save_28 : decode cX1_save 28 = .ok (.isub, 1) := by decide +kernel
theorem dX1_save_29 : decode cX1_save 29 = .ok (.putfield 21, 3) := by decide +kernel
theorem dX1_save_32 : decode cX1_save 32 = .ok (.aload_n 0, 1) := by decide +kernel
theorem dX1_save_33 : decode cX1_save 33 = .ok (.aload_n 0, 1) := by decide +kernel
theorem dX1_save_34 : decode cX1_save 34 = .ok (.getfield 21, 3) := by decide +kernel
theorem dX1_save_37 : decode cX1_save 37 = .ok (.invokevirtual 25, 3) := by decide +kernel
theorem dX1_save_40 : decode cX1_save 40 = .ok (.astore_n 2, 1) := by decide +kernel
theorem dX1_save_41 : decode cX1_save 41 = .ok (.aload_n 2, 1) := by decide +kernel
theorem dX1_save_42 : decode cX1_save 42 = .ok (.ifnull 8, 3) := by decide +kernel
theorem dX1_save_45 : decode cX1_save 45 = .ok (.aload_n 2, 1) := by decide +kernel
theorem dX1_save_46 : decode cX1_save 46 = .ok (.aload_n 1, 1) := by decide +kernel
theorem dX1_save_47 : decode cX1_save 47 = .ok (.invokevirtual 29, 3) := by decide +kernel
theorem dX1_save_50 : decode cX1_save 50 = .ok (.aload_n 0, 1) := by decide +kernel
theorem dX1_save_51 : decode cX1_save 51 = .ok (.dup, 1) := by decide +kernel
theorem dX1_save_52 : decode cX1_save 52 = .ok (.getfield 21, 3) := by decide +kernel
theorem dX1_save_55 : decode cX1_save 55 = .ok (.iconst 1, 1) := by decide +kernel
theorem dX1_save_56 : decode cX1_save 56 = .ok (.iadd, 1) := by decide +kernel
theorem dX1_save_57 : decode cX1_save 57 = .ok (.putfield 21, 3) := by decide +kernel
theorem dX1_save_60 : decode cX1_save 60 = .ok (.return_, 1) := by decide +kernel
theorem dX1_restoreInto_0 : decode cX1_restoreInto 0 = .ok (.aload_n 0, 1) := by decide +kernel
theorem dX1_restoreInto_1 : decode cX1_restoreInto 1 = .ok (.dup, 1) := by decide +kernel
theorem dX1_restoreInto_2 : decode cX1_restoreInto 2 = .ok (.getfield 21, 3) := by decide +kernel
theorem dX1_restoreInto_5 : decode cX1_restoreInto 5 = .ok (.iconst 1, 1) := by decide +kernel
theorem dX1_restoreInto_6 : decode cX1_restoreInto 6 = .ok (.isub, 1) := by decide +kernel
theorem dX1_restoreInto_7 : decode cX1_restoreInto 7 = .ok (.putfield 21, 3) := by decide +kernel
theorem dX1_restoreInto_10 : decode cX1_restoreInto 10 = .ok (.aload_n 0, 1) := by decide +kernel
theorem dX1_restoreInto_11 : decode cX1_restoreInto 11 = .ok (.aload_n 0, 1) := by decide +kernel
theorem dX1_restoreInto_12 : decode cX1_restoreInto 12 = .ok (.getfield 21, 3) := by decide +kernel
theorem dX1_restoreInto_15 : decode cX1_restoreInto 15 = .ok (.invokevirtual 25, 3) := by decide +kernel
theorem dX1_restoreInto_18 : decode cX1_restoreInto 18 = .ok (.astore_n 2, 1) := by decide +kernel
theorem dX1_restoreInto_19 : decode cX1_restoreInto 19 = .ok (.aload_n 2, 1) := by decide +kernel
theorem dX1_restoreInto_20 : decode cX1_restoreInto 20 = .ok (.ifnull 8, 3) := by decide +kernel
theorem dX1_restoreInto_23 : decode cX1_restoreInto 23 = .ok (.aload_n 1, 1) := by decide +kernel
theorem dX1_restoreInto_24 : decode cX1_restoreInto 24 = .ok (.aload_n 2, 1) := by decide +kernel
theorem dX1_restoreInto_25 : decode cX1_restoreInto 25 = .ok (.invokevirtual 29, 3) := by decide +kernel
theorem dX1_restoreInto_28 : decode cX1_restoreInto 28 = .ok (.return_, 1) := by decide +kernel
theorem dX1_stateAt_0 : decode cX1_stateAt 0 = .ok (.aload_n 0, 1) := by decide +kernel
theorem dX1_stateAt_1 : decode cX1_stateAt 1 = .ok (.getfield 17, 3) := by decide +kernel
theorem dX1_stateAt_4 : decode cX1_stateAt 4 = .ok (.iload_n 1, 1) := by decide +kernel
theorem dX1_stateAt_5 : decode cX1_stateAt 5 = .ok (.iadd, 1) := by decide +kernel
theorem dX1_stateAt_6 : decode cX1_stateAt 6 = .ok (.bipush 6, 2) := by decide +kernel
theorem dX1_stateAt_8 : decode cX1_stateAt 8 = .ok (.irem, 1) := by decide +kernel
theorem dX1_stateAt_9 : decode cX1_stateAt 9 = .ok (.istore_n 2, 1) := by decide +kernel
theorem dX1_stateAt_10 : decode cX1_stateAt 10 = .ok (.iload_n 2, 1) := by decide +kernel
theorem dX1_stateAt_11 : decode cX1_stateAt 11 = .ok (.ifCond .lt 21, 3) := by decide +kernel
theorem dX1_stateAt_14 : decode cX1_stateAt 14 = .ok (.iload_n 2, 1) := by decide +kernel
theorem dX1_stateAt_15 : decode cX1_stateAt 15 = .ok (.aload_n 0, 1) := by decide +kernel
theorem dX1_stateAt_16 : decode cX1_stateAt 16 = .ok (.getfield 11, 3) := by decide +kernel
theorem dX1_stateAt_19 : decode cX1_stateAt 19 = .ok (.arraylength, 1) := by decide +kernel
theorem dX1_stateAt_20 : decode cX1_stateAt 20 = .ok (.if_icmp .ge 12, 3) := by decide +kernel
theorem dX1_stateAt_23 : decode cX1_stateAt 23 = .ok (.aload_n 0, 1) := by decide +kernel
theorem dX1_stateAt_24 : decode cX1_stateAt 24 = .ok (.getfield 11, 3) := by decide +kernel
theorem dX1_stateAt_27 : decode cX1_stateAt 27 = .ok (.iload_n 2, 1) := by decide +kernel
theorem dX1_stateAt_28 : decode cX1_stateAt 28 = .ok (.aaload, 1) := by decide +kernel
theorem dX1_stateAt_29 : decode cX1_stateAt 29 = .ok (.goto 4, 3) := by decide +kernel
theorem dX1_stateAt_32 : decode cX1_stateAt 32 = .ok (.aconst_null, 1) := by decide +kernel
theorem dX1_stateAt_33 : decode cX1_stateAt 33 = .ok (.areturn, 1) := by decide +kernel
theorem dX2_init_0 : decode cX2_init 0 = .ok (.aload_n 0, 1) := by decide +kernel
theorem dX2_init_1 : decode cX2_init 1 = .ok (.invokespecial 3, 3) := by decide +kernel
theorem dX2_init_4 : decode cX2_init 4 = .ok (.return_, 1) := by decide +kernel
theorem dX2_start_0 : decode cX2_start 0 = .ok (.aload_n 0, 1) := by decide +kernel
theorem dX2_start_1 : decode cX2_start 1 = .ok (.iconst 0, 1) := by decide +kernel
theorem dX2_start_2 : decode cX2_start 2 = .ok (.putfield 11, 3) := by decide +kernel
theorem dX2_start_5 : decode cX2_start 5 = .ok (.aload_n 0, 1) := by decide +kernel
theorem dX2_start_6 : decode cX2_start 6 = .ok (.iconst 0, 1) := by decide +kernel
theorem dX2_start_7 : decode cX2_start 7 = .ok (.putfield 15, 3) := by decide +kernel
theorem dX2_start_10 : decode cX2_start 10 = .ok (.aload_n 0, 1) := by decide +kernel
theorem dX2_start_11 : decode cX2_start 11 = .ok (.iconst 0, 1) := by decide +kernel
theorem dX2_start_12 : decode cX2_start 12 = .ok (.putfield 18, 3) := by decide +kernel
theorem dX2_start_15 : decode cX2_start 15 = .ok (.aload_n 0, 1) := by decide +kernel
theorem dX2_start_16 : decode cX2_start 16 = .ok (.iconst 0, 1) := by decide +kernel
theorem dX2_start_17 : decode cX2_start 17 = .ok (.putfield 21, 3) := by decide +kernel
theorem dX2_start_20 : decode cX2_start 20 = .ok (.aload_n 0, 1) := by decide +kernel
theorem dX2_start_21 : decode cX2_start 21 = .ok (.iconst (-1), 1) := by decide +kernel
theorem dX2_start_22 : decode cX2_start 22 = .ok (.putfield 25, 3) := by decide +kernel
theorem dX2_start_25 : decode cX2_start 25 = .ok (.aload_n 0, 1) := by decide +kernel
theorem dX2_start_26 : decode cX2_start 26 = .ok (.iconst 0, 1) := by decide +kernel
theorem dX2_start_27 : decode cX2_start 27 = .ok (.putfield 28, 3) := by decide +kernel
theorem dX2_start_30 : decode cX2_start 30 = .ok (.return_, 1) := by decide +kernel
theorem dX2_mayEnd_0 : decode cX2_mayEnd 0 = .ok (.aload_n 0, 1) := by decide +kernel
theorem dX2_mayEnd_1 : decode cX2_mayEnd 1 = .ok (.getfield 11, 3) := by decide +kernel
theorem dX2_mayEnd_4 : decode cX2_mayEnd 4 = .ok (.bipush 6, 2) := by decide +kernel
theorem dX2_mayEnd_6 : decode cX2_mayEnd 6 = .ok (.if_icmp .eq 27, 3) := by decide +kernel
theorem dX2_mayEnd_9 : decode cX2_mayEnd 9 = .ok (.aload_n 0, 1) := by decide +kernel
theorem dX2_mayEnd_10 : decode cX2_mayEnd 10 = .ok (.getfield 11, 3) := by decide +kernel
theorem dX2_mayEnd_13 : decode cX2_mayEnd 13 = .ok (.bipush 8, 2) := by decide +kernel
theorem dX2_mayEnd_15 : decode cX2_mayEnd 15 = .ok (.if_icmp .eq 18, 3) := by decide +kernel
theorem dX2_mayEnd_18 : decode cX2_mayEnd 18 = .ok (.aload_n 0, 1) := by decide +kernel
theorem dX2_mayEnd_19 : decode cX2_mayEnd 19 = .ok (.getfield 11, 3) := by decide +kernel
theorem dX2_mayEnd_22 : decode cX2_mayEnd 22 = .ok (.iconst 4, 1) := by decide +kernel
theorem dX2_mayEnd_23 : decode cX2_mayEnd 23 = .ok (.if_icmp .ne 14, 3) := by decide +kernel
theorem dX2_mayEnd_26 : decode cX2_mayEnd 26 = .ok (.aload_n 0, 1) := by decide +kernel
theorem dX2_mayEnd_27 : decode cX2_mayEnd 27 = .ok (.invokevirtual 31, 3) := by decide +kernel
theorem dX2_mayEnd_30 : decode cX2_mayEnd 30 = .ok (.ifCond .ne 7, 3) := by decide +kernel
theorem dX2_mayEnd_33 : decode cX2_mayEnd 33 = .ok (.iconst 1, 1) := by decide +kernel
theorem dX2_mayEnd_34 : decode cX2_mayEnd 34 = .ok (.goto 4, 3) := by decide +kernel
theorem dX2_mayEnd_37 : decode cX2_mayEnd 37 = .ok (.iconst 0, 1) := by decide +kernel
theorem dX2_mayEnd_38 : decode cX2_mayEnd 38 = .ok (.ireturn, 1) := by decide +kernel
theorem dX2_reads_0 : decode cX2_reads 0 = .ok (.aload_n 0, 1) := by decide +kernel
theorem dX2_reads_1 : decode cX2_reads 1 = .ok (.getfield 11, 3) := by decide +kernel
theorem dX2_reads_4 : decode cX2_reads 4 = .ok (.tableswitch 137 0 7 #[48, 54, 63, 69, 75, 115, 125, 131], 48) := by decide +kernel
theorem dX2_reads_52 : decode cX2_reads 52 = .ok (.aload_n 0, 1) := by decide +kernel
theorem dX2_reads_53 : decode cX2_reads 53 = .ok (.iload_n 1, 1) := by decide +kernel
theorem dX2_reads_54 : decode cX2_reads 54 = .ok (.invokevirtual 35, 3) := by decide +kernel
theorem dX2_reads_57 : decode cX2_reads 57 = .ok (.ireturn, 1) := by decide +kernel
theorem dX2_reads_58 : decode cX2_reads 58 = .ok (.aload_n 0, 1) := by decide +kernel
theorem dX2_reads_59 : decode cX2_reads 59 = .ok (.iload_n 1, 1) := by decide +kernel
theorem dX2_reads_60 : decode cX2_reads 60 = .ok (.bipush 9, 2) := by decide +kernel
theorem dX2_reads_62 : decode cX2_reads 62 = .ok (.iconst 2, 1) := by decide +kernel
theorem dX2_reads_63 : decode cX2_reads 63 = .ok (.invokevirtual 39, 3) := by decide +kernel
theorem dX2_reads_66 : decode cX2_reads 66 = .ok (.ireturn, 1) := by decide +kernel
theorem dX2_reads_67 : decode cX2_reads 67 = .ok (.aload_n 0, 1) := by decide +kernel
theorem dX2_reads_68 : decode cX2_reads 68 = .ok (.iload_n 1, 1) := by decide +kernel
theorem dX2_reads_69 : decode cX2_reads 69 = .ok (.invokevirtual 43, 3) := by decide +kernel
theorem dX2_reads_72 : decode cX2_reads 72 = .ok (.ireturn, 1) := by decide +kernel
theorem dX2_reads_73 : decode cX2_reads 73 = .ok (.aload_n 0, 1) := by decide +kernel
theorem dX2_reads_74 : decode cX2_reads 74 = .ok (.iload_n 1, 1) := by decide +kernel
theorem dX2_reads_75 : decode cX2_reads 75 = .ok (.invokevirtual 46, 3) := by decide +kernel
theorem dX2_reads_78 : decode cX2_reads 78 = .ok (.ireturn, 1) := by decide +kernel
theorem dX2_reads_79 : decode cX2_reads 79 = .ok (.aload_n 0, 1) := by decide +kernel
theorem dX2_reads_80 : decode cX2_reads 80 = .ok (.iload_n 1, 1) := by decide +kernel
theorem dX2_reads_81 : decode cX2_reads 81 = .ok (.invokevirtual 49, 3) := by decide +kernel
theorem dX2_reads_84 : decode cX2_reads 84 = .ok (.ifCond .ne 29, 3) := by decide +kernel
theorem dX2_reads_87 : decode cX2_reads 87 = .ok (.aload_n 0, 1) := by decide +kernel
theorem dX2_reads_88 : decode cX2_reads 88 = .ok (.invokevirtual 31, 3) := by decide +kernel
theorem dX2_reads_91 : decode cX2_reads 91 = .ok (.ifCond .eq 14, 3) := by decide +kernel
theorem dX2_reads_94 : decode cX2_reads 94 = .ok (.aload_n 0, 1) := by decide +kernel
theorem dX2_reads_95 : decode cX2_reads 95 = .ok (.iload_n 1, 1) := by decide +kernel
theorem dX2_reads_96 : decode cX2_reads 96 = .ok (.invokevirtual 52, 3) := by decide +kernel
theorem dX2_reads_99 : decode cX2_reads 99 = .ok (.ifCond .eq 18, 3) := by decide +kernel
theorem dX2_reads_102 : decode cX2_reads 102 = .ok (.goto 11, 3) := by decide +kernel
theorem dX2_reads_105 : decode cX2_reads 105 = .ok (.aload_n 0, 1) := by decide +kernel
theorem dX2_reads_106 : decode cX2_reads 106 = .ok (.iload_n 1, 1) := by decide +kernel
theorem dX2_reads_107 : decode cX2_reads 107 = .ok (.invokevirtual 55, 3) := by decide +kernel
theorem dX2_reads_110 : decode cX2_reads 110 = .ok (.ifCond .eq 7, 3) := by decide +kernel
theorem dX2_reads_113 : decode cX2_reads 113 = .ok (.iconst 1, 1) := by decide +kernel
theorem dX2_reads_114 : decode cX2_reads 114 = .ok (.goto 4, 3) := by decide +kernel
theorem dX2_reads_117 : decode cX2_reads 117 = .ok (.iconst 0, 1) := by decide +kernel
theorem dX2_reads_118 : decode cX2_reads 118 = .ok (.ireturn, 1) := by decide +kernel
theorem dX2_reads_119 : decode cX2_reads 119 = .ok (.aload_n 0, 1) := by decide +kernel
theorem dX2_reads_120 : decode cX2_reads 120 = .ok (.iload_n 1, 1) := by decide +kernel
theorem dX2_reads_121 : decode cX2_reads 121 = .ok (.bipush 6, 2) := by decide +kernel
theorem dX2_reads_123 : decode cX2_reads 123 = .ok (.bipush 6, 2) := by decide +kernel
theorem dX2_reads_125 : decode cX2_reads 125 = .ok (.invokevirtual 39, 3) := by decide +kernel
theorem dX2_reads_128 : decode cX2_reads 128 = .ok (.ireturn, 1) := by decide +kernel
theorem dX2_reads_129 : decode cX2_reads 129 = .ok (.aload_n 0, 1) := by decide +kernel
theorem dX2_reads_130 : decode cX2_reads 130 = .ok (.iload_n 1, 1) := by decide +kernel
theorem dX2_reads_131 : decode cX2_reads 131 = .ok (.invokevirtual 55, 3) := by decide +kernel
theorem dX2_reads_134 : decode cX2_reads 134 = .ok (.ireturn, 1) := by decide +kernel
theorem dX2_reads_135 : decode cX2_reads 135 = .ok (.aload_n 0, 1) := by decide +kernel
theorem dX2_reads_136 : decode cX2_reads 136 = .ok (.iload_n 1, 1) := by decide +kernel
theorem dX2_reads_137 : decode cX2_reads 137 = .ok (.invokevirtual 58, 3) := by decide +kernel
theorem dX2_reads_140 : decode cX2_reads 140 = .ok (.ireturn, 1) := by decide +kernel
theorem dX2_reads_141 : decode cX2_reads 141 = .ok (.aload_n 0, 1) := by decide +kernel
theorem dX2_reads_142 : decode cX2_reads 142 = .ok (.iload_n 1, 1) := by decide +kernel
theorem dX2_reads_143 : decode cX2_reads 143 = .ok (.invokevirtual 61, 3) := by decide +kernel
theorem dX2_reads_146 : decode cX2_reads 146 = .ok (.ireturn, 1) := by decide +kernel
theorem dX2_hasWeekday_0 : decode cX2_hasWeekday 0 = .ok (.aload_n 0, 1) := by decide +kernel
theorem dX2_hasWeekday_1 : decode cX2_hasWeekday 1 = .ok (.getfield 15, 3) := by decide +kernel
theorem dX2_hasWeekday_4 : decode cX2_hasWeekday 4 = .ok (.iconst 1, 1) := by decide +kernel
theorem dX2_hasWeekday_5 : decode cX2_hasWeekday 5 = .ok (.if_icmp .eq 11, 3) := by decide +kernel
theorem dX2_hasWeekday_8 : decode cX2_hasWeekday 8 = .ok (.aload_n 0, 1) := by decide +kernel
theorem dX2_hasWeekday_9 : decode cX2_hasWeekday 9 = .ok (.getfield 15, 3) := by decide +kernel
theorem dX2_hasWeekday_12 : decode cX2_hasWeekday 12 = .ok (.iconst 2, 1) := by decide +kernel
theorem dX2_hasWeekday_13 : decode cX2_hasWeekday 13 = .ok (.if_icmp .ne 7, 3) := by decide +kernel
theorem dX2_hasWeekday_16 : decode cX2_hasWeekday 16 = .ok (.iconst 1, 1) := by decide +kernel
theorem dX2_hasWeekday_17 : decode cX2_hasWeekday 17 = .ok (.goto 4, 3) := by decide +kernel
theorem dX2_hasWeekday_20 : decode cX2_hasWeekday 20 = .ok (.iconst 0, 1) := by decide +kernel
theorem dX2_hasWeekday_21 : decode cX2_hasWeekday 21 = .ok (.ireturn, 1) := by decide +kernel
theorem dX2_isDigit_0 : decode cX2_isDigit 0 = .ok (.iload_n 0, 1) := by decide +kernel
theorem dX2_isDigit_1 : decode cX2_isDigit 1 = .ok (.bipush 48, 2) := by decide +kernel
theorem dX2_isDigit_3 : decode cX2_isDigit 3 = .ok (.if_icmp .lt 13, 3) := by decide +kernel
theorem dX2_isDigit_6 : decode cX2_isDigit 6 = .ok (.iload_n 0, 1) := by decide +kernel
theorem dX2_isDigit_7 : decode cX2_isDigit 7 = .ok (.bipush 57, 2) := by decide +kernel
theorem dX2_isDigit_9 : decode cX2_isDigit 9 = .ok (.if_icmp .gt 7, 3) := by decide +kernel
theorem dX2_isDigit_12 : decode cX2_isDigit 12 = .ok (.iconst 1, 1) := by decide +kernel
theorem dX2_isDigit_13 : decode cX2_isDigit 13 = .ok (.goto 4, 3) := by decide +kernel
theorem dX2_isDigit_16 : decode cX2_isDigit 16 = .ok (.iconst 0, 1) := by decide +kernel
theorem dX2_isDigit_17 : decode cX2_isDigit 17 = .ok (.ireturn, 1) := by decide +kernel
theorem dX2_readsRule_0 : decode cX2_readsRule 0 = .ok (.iload_n 1, 1) := by decide +kernel
theorem dX2_readsRule_1 : decode cX2_readsRule 1 = .ok (.lookupswitch 75 #[(97, 67), (100, 43), (109, 59), (119, 51)], 43) := by decide +kernel
theorem dX2_readsRule_44 : decode cX2_readsRule 44 = .ok (.aload_n 0, 1) := by decide +kernel
theorem dX2_readsRule_45 : decode cX2_readsRule 45 = .ok (.iconst 0, 1) := by decide +kernel
theorem dX2_readsRule_46 : decode cX2_readsRule 46 = .ok (.putfield 15, 3) := by decide +kernel
theorem dX2_readsRule_49 : decode cX2_readsRule 49 = .ok (.goto 29, 3) := by decide +kernel
theorem dX2_readsRule_52 : decode cX2_readsRule 52 = .ok (.aload_n 0, 1) := by decide +kernel
theorem dX2_readsRule_53 : decode cX2_readsRule 53 = .ok (.iconst 1, 1) := by decide +kernel
theorem dX2_readsRule_54 : decode cX2_readsRule 54 = .ok (.putfield 15, 3) := by decide +kernel
theorem dX2_readsRule_57 : decode cX2_readsRule 57 = .ok (.goto 21, 3) := by decide +kernel
theorem dX2_readsRule_60 : decode cX2_readsRule 60 = .ok (.aload_n 0, 1) := by decide +kernel
theorem dX2_readsRule_61 : decode cX2_readsRule 61 = .ok (.iconst 2, 1) := by decide +kernel
theorem dX2_readsRule_62 : decode cX2_readsRule 62 = .ok (.putfield 15, 3) := by decide +kernel
theorem dX2_readsRule_65 : decode cX2_readsRule 65 = .ok (.goto 13, 3) := by decide +kernel
theorem dX2_readsRule_68 : decode cX2_readsRule 68 = .ok (.aload_n 0, 1) := by decide +kernel
theorem dX2_readsRule_69 : decode cX2_readsRule 69 = .ok (.iconst 3, 1) := by decide +kernel
theorem dX2_readsRule_70 : decode cX2_readsRule 70 = .ok (.putfield 15, 3) := by decide +kernel
theorem dX2_readsRule_73 : decode cX2_readsRule 73 = .ok (.goto 5, 3) := by decide +kernel
theorem dX2_readsRule_76 : decode cX2_readsRule 76 = .ok (.iconst 0, 1) := by decide +kernel
theorem dX2_readsRule_77 : decode cX2_readsRule 77 = .ok (.ireturn, 1) := by decide +kernel
theorem dX2_readsRule_78 : decode cX2_readsRule 78 = .ok (.aload_n 0, 1) := by decide +kernel
theorem dX2_readsRule_79 : decode cX2_readsRule 79 = .ok (.aload_n 0, 1) := by decide +kernel
theorem dX2_readsRule_80 : decode cX2_readsRule 80 = .ok (.getfield 15, 3) := by decide +kernel
theorem dX2_readsRule_83 : decode cX2_readsRule 83 = .ok (.iconst 3, 1) := by decide +kernel
theorem dX2_readsRule_84 : decode cX2_readsRule 84 = .ok (.if_icmp .ne 7, 3) := by decide +kernel
theorem dX2_readsRule_87 : decode cX2_readsRule 87 = .ok (.iconst 1, 1) := by decide +kernel
theorem dX2_readsRule_88 : decode cX2_readsRule 88 = .ok (.goto 4, 3) := by decide +kernel
theorem dX2_readsRule_91 : decode cX2_readsRule 91 = .ok (.iconst 3, 1) := by decide +kernel
theorem dX2_readsRule_92 : decode cX2_readsRule 92 = .ok (.putfield 11, 3) := by decide +kernel
theorem dX2_readsRule_95 : decode cX2_readsRule 95 = .ok (.iconst 1, 1) := by decide +kernel
theorem dX2_readsRule_96 : decode cX2_readsRule 96 = .ok (.ireturn, 1) := by decide +kernel
theorem dX2_readsOther_0 : decode cX2_readsOther 0 = .ok (.iload_n 1, 1) := by decide +kernel
theorem dX2_readsOther_1 : decode cX2_readsOther 1 = .ok (.bipush 48, 2) := by decide +kernel
theorem dX2_readsOther_3 : decode cX2_readsOther 3 = .ok (.if_icmp .lt 11, 3) := by decide +kernel
theorem dX2_readsOther_6 : decode cX2_readsOther 6 = .ok (.iload_n 1, 1) := by decide +kernel
theorem dX2_readsOther_7 : decode cX2_readsOther 7 = .ok (.bipush 48, 2) := by decide +kernel
theorem dX2_readsOther_9 : decode cX2_readsOther 9 = .ok (.iload_n 2, 1) := by decide +kernel
theorem dX2_readsOther_10 : decode cX2_readsOther 10 = .ok (.iadd, 1) := by decide +kernel
theorem dX2_readsOther_11 : decode cX2_readsOther 11 = .ok (.if_icmp .le 5, 3) := by decide +kernel
theorem dX2_readsOther_14 : decode cX2_readsOther 14 = .ok (.iconst 0, 1) := by decide +kernel
theorem dX2_readsOther_15 : decode cX2_readsOther 15 = .ok (.ireturn, 1) := by decide +kernel
theorem dX2_readsOther_16 : decode cX2_readsOther 16 = .ok (.aload_n 0, 1) := by decide +kernel
theorem dX2_readsOther_17 : decode cX2_readsOther 17 = .ok (.iload_n 1, 1) := by decide +kernel
theorem dX2_readsOther_18 : decode cX2_readsOther 18 = .ok (.bipush 48, 2) := by decide +kernel
theorem dX2_readsOther_20 : decode cX2_readsOther 20 = .ok (.isub, 1) := by decide +kernel
theorem dX2_readsOther_21 : decode cX2_readsOther 21 = .ok (.putfield 25, 3) := by decide +kernel
theorem dX2_readsOther_24 : decode cX2_readsOther 24 = .ok (.aload_n 0, 1) := by decide +kernel
theorem dX2_readsOther_25 : decode cX2_readsOther 25 = .ok (.iload_n 3, 1) := by decide +kernel
theorem dX2_readsOther_26 : decode cX2_readsOther 26 = .ok (.putfield 11, 3) := by decide +kernel
theorem dX2_readsOther_29 : decode cX2_readsOther 29 = .ok (.iconst 1, 1) := by decide +kernel
theorem dX2_readsOther_30 : decode cX2_readsOther 30 = .ok (.ireturn, 1) := by decide +kernel
theorem dX2_readsSign_0 : decode cX2_readsSign 0 = .ok (.iload_n 1, 1) := by decide +kernel
theorem dX2_readsSign_1 : decode cX2_readsSign 1 = .ok (.bipush 43, 2) := by decide +kernel
theorem dX2_readsSign_3 : decode cX2_readsSign 3 = .ok (.if_icmp .eq 11, 3) := by decide +kernel
theorem dX2_readsSign_6 : decode cX2_readsSign 6 = .ok (.iload_n 1, 1) := by decide +kernel
theorem dX2_readsSign_7 : decode cX2_readsSign 7 = .ok (.bipush 45, 2) := by decide +kernel
theorem dX2_readsSign_9 : decode cX2_readsSign 9 = .ok (.if_icmp .eq 5, 3) := by decide +kernel
theorem dX2_readsSign_12 : decode cX2_readsSign 12 = .ok (.iconst 0, 1) := by decide +kernel
theorem dX2_readsSign_13 : decode cX2_readsSign 13 = .ok (.ireturn, 1) := by decide +kernel
theorem dX2_readsSign_14 : decode cX2_readsSign 14 = .ok (.aload_n 0, 1) := by decide +kernel
theorem dX2_readsSign_15 : decode cX2_readsSign 15 = .ok (.iload_n 1, 1) := by decide +kernel
theorem dX2_readsSign_16 : decode cX2_readsSign 16 = .ok (.bipush 45, 2) := by decide +kernel
theorem dX2_readsSign_18 : decode cX2_readsSign 18 = .ok (.if_icmp .ne 7, 3) := by decide +kernel
theorem dX2_readsSign_21 : decode cX2_readsSign 21 = .ok (.iconst 1, 1) := by decide +kernel
theorem dX2_readsSign_22 : decode cX2_readsSign 22 = .ok (.goto 4, 3) := by decide +kernel
theorem dX2_readsSign_25 : decode cX2_readsSign 25 = .ok (.iconst 0, 1) := by decide +kernel
theorem dX2_readsSign_26 : decode cX2_readsSign 26 = .ok (.putfield 21, 3) := by decide +kernel
theorem dX2_readsSign_29 : decode cX2_readsSign 29 = .ok (.aload_n 0, 1) := by decide +kernel
theorem dX2_readsSign_30 : decode cX2_readsSign 30 = .ok (.iconst 3, 1) := by decide +kernel
theorem dX2_readsSign_31 : decode cX2_readsSign 31 = .ok (.putfield 11, 3) := by decide +kernel
theorem dX2_readsSign_34 : decode cX2_readsSign 34 = .ok (.iconst 1, 1) := by decide +kernel
theorem dX2_readsSign_35 : decode cX2_readsSign 35 = .ok (.ireturn, 1) := by decide +kernel
theorem dX2_readsFirstDigit_0 : decode cX2_readsFirstDigit 0 = .ok (.iload_n 1, 1) := by decide +kernel
theorem dX2_readsFirstDigit_1 : decode cX2_readsFirstDigit 1 = .ok (.invokestatic 64, 3) := by decide +kernel
theorem dX2_readsFirstDigit_4 : decode cX2_readsFirstDigit 4 = .ok (.ifCond .ne 5, 3) := by decide +kernel
theorem dX2_readsFirstDigit_7 : decode cX2_readsFirstDigit 7 = .ok (.iconst 0, 1) := by decide +kernel
theorem dX2_readsFirstDigit_8 : decode cX2_readsFirstDigit 8 = .ok (.ireturn, 1) := by decide +kernel
theorem dX2_readsFirstDigit_9 : decode cX2_readsFirstDigit 9 = .ok (.aload_n 0, 1) := by decide +kernel
theorem dX2_readsFirstDigit_10 : decode cX2_readsFirstDigit 10 = .ok (.iload_n 1, 1) := by decide +kernel
theorem dX2_readsFirstDigit_11 : decode cX2_readsFirstDigit 11 = .ok (.bipush 48, 2) := by decide +kernel
theorem dX2_readsFirstDigit_13 : decode cX2_readsFirstDigit 13 = .ok (.isub, 1) := by decide +kernel
theorem dX2_readsFirstDigit_14 : decode cX2_readsFirstDigit 14 = .ok (.putfield 18, 3) := by decide +kernel
theorem dX2_readsFirstDigit_17 : decode cX2_readsFirstDigit 17 = .ok (.aload_n 0, 1) := by decide +kernel
theorem dX2_readsFirstDigit_18 : decode cX2_readsFirstDigit 18 = .ok (.iconst 4, 1) := by decide +kernel
theorem dX2_readsFirstDigit_19 : decode cX2_readsFirstDigit 19 = .ok (.putfield 11, 3) := by decide +kernel
theorem dX2_readsFirstDigit_22 : decode cX2_readsFirstDigit 22 = .ok (.iconst 1, 1) := by decide +kernel
theorem dX2_readsFirstDigit_23 : decode cX2_readsFirstDigit 23 = .ok (.ireturn, 1) := by decide +kernel
theorem dX2_readsNextDigit_0 : decode cX2_readsNextDigit 0 = .ok (.aload_n 0, 1) := by decide +kernel
theorem dX2_readsNextDigit_1 : decode cX2_readsNextDigit 1 = .ok (.getfield 18, 3) := by decide +kernel
theorem dX2_readsNextDigit_4 : decode cX2_readsNextDigit 4 = .ok (.bipush 10, 2) := by decide +kernel
theorem dX2_readsNextDigit_6 : decode cX2_readsNextDigit 6 = .ok (.imul, 1) := by decide +kernel
theorem dX2_readsNextDigit_7 : decode cX2_readsNextDigit 7 = .ok (.iload_n 1, 1) := by decide +kernel
theorem dX2_readsNextDigit_8 : decode cX2_readsNextDigit 8 = .ok (.iadd, 1) := by decide +kernel
theorem dX2_readsNextDigit_9 : decode cX2_readsNextDigit 9 = .ok (.bipush 48, 2) := by decide +kernel
theorem dX2_readsNextDigit_11 : decode cX2_readsNextDigit 11 = .ok (.isub, 1) := by decide +kernel
theorem dX2_readsNextDigit_12 : decode cX2_readsNextDigit 12 = .ok (.istore_n 2, 1) := by decide +kernel
theorem dX2_readsNextDigit_13 : decode cX2_readsNextDigit 13 = .ok (.aload_n 0, 1) := by decide +kernel
theorem dX2_readsNextDigit_14 : decode cX2_readsNextDigit 14 = .ok (.getfield 15, 3) := by decide +kernel
theorem dX2_readsNextDigit_17 : decode cX2_readsNextDigit 17 = .ok (.iconst 3, 1) := by decide +kernel
theorem dX2_readsNextDigit_18 : decode cX2_readsNextDigit 18 = .ok (.if_icmp .ne 8, 3) := by decide +kernel
theorem dX2_readsNextDigit_21 : decode cX2_readsNextDigit 21 = .ok (.bipush 90, 2) := by decide +kernel
theorem dX2_readsNextDigit_23 : decode cX2_readsNextDigit 23 = .ok (.goto 6, 3) := by decide +kernel
theorem dX2_readsNextDigit_26 : decode cX2_readsNextDigit 26 = .ok (.sipush 365, 3) := by decide +kernel
theorem dX2_readsNextDigit_29 : decode cX2_readsNextDigit 29 = .ok (.istore_n 3, 1) := by decide +kernel
theorem dX2_readsNextDigit_30 : decode cX2_readsNextDigit 30 = .ok (.iload_n 1, 1) := by decide +kernel
theorem dX2_readsNextDigit_31 : decode cX2_readsNextDigit 31 = .ok (.invokestatic 64, 3) := by decide +kernel
theorem dX2_readsNextDigit_34 : decode cX2_readsNextDigit 34 = .ok (.ifCond .eq 15, 3) := by decide +kernel
theorem dX2_readsNextDigit_37 : decode cX2_readsNextDigit 37 = .ok (.aload_n 0, 1) := by decide +kernel
theorem dX2_readsNextDigit_38 : decode cX2_readsNextDigit 38 = .ok (.getfield 18, 3) := by decide +kernel
theorem dX2_readsNextDigit_41 : decode cX2_readsNextDigit 41 = .ok (.ifCond .eq 8, 3) := by decide +kernel
theorem dX2_readsNextDigit_44 : decode cX2_readsNextDigit 44 = .ok (.iload_n 2, 1) := by decide +kernel
theorem dX2_readsNextDigit_45 : decode cX2_readsNextDigit 45 = .ok (.iload_n 3, 1) := by decide +kernel
theorem dX2_readsNextDigit_46 : decode cX2_readsNextDigit 46 = .ok (.if_icmp .le 5, 3) := by decide +kernel
theorem dX2_readsNextDigit_49 : decode cX2_readsNextDigit 49 = .ok (.iconst 0, 1) := by decide +kernel
theorem dX2_readsNextDigit_50 : decode cX2_readsNextDigit 50 = .ok (.ireturn, 1) := by decide +kernel
theorem dX2_readsNextDigit_51 : decode cX2_readsNextDigit 51 = .ok (.aload_n 0, 1) := by decide +kernel
theorem dX2_readsNextDigit_52 : decode cX2_readsNextDigit 52 = .ok (.iload_n 2, 1) := by decide +kernel
theorem dX2_readsNextDigit_53 : decode cX2_readsNextDigit 53 = .ok (.putfield 18, 3) := by decide +kernel
theorem dX2_readsNextDigit_56 : decode cX2_readsNextDigit 56 = .ok (.iconst 1, 1) := by decide +kernel
theorem dX2_readsNextDigit_57 : decode cX2_readsNextDigit 57 = .ok (.ireturn, 1) := by decide +kernel
theorem dX2_readsComma_0 : decode cX2_readsComma 0 = .ok (.iload_n 1, 1) := by decide +kernel
theorem dX2_readsComma_1 : decode cX2_readsComma 1 = .ok (.bipush 44, 2) := by decide +kernel
theorem dX2_readsComma_3 : decode cX2_readsComma 3 = .ok (.if_icmp .eq 5, 3) := by decide +kernel
theorem dX2_readsComma_6 : decode cX2_readsComma 6 = .ok (.iconst 0, 1) := by decide +kernel
theorem dX2_readsComma_7 : decode cX2_readsComma 7 = .ok (.ireturn, 1) := by decide +kernel
theorem dX2_readsComma_8 : decode cX2_readsComma 8 = .ok (.aload_n 0, 1) := by decide +kernel
theorem dX2_readsComma_9 : decode cX2_readsComma 9 = .ok (.iconst 5, 1) := by decide +kernel
theorem dX2_readsComma_10 : decode cX2_readsComma 10 = .ok (.putfield 11, 3) := by decide +kernel
theorem dX2_readsComma_13 : decode cX2_readsComma 13 = .ok (.iconst 1, 1) := by decide +kernel
theorem dX2_readsComma_14 : decode cX2_readsComma 14 = .ok (.ireturn, 1) := by decide +kernel
theorem dX2_readsBehindRule_0 : decode cX2_readsBehindRule 0 = .ok (.iload_n 1, 1) := by decide +kernel
theorem dX2_readsBehindRule_1 : decode cX2_readsBehindRule 1 = .ok (.bipush 94, 2) := by decide +kernel
theorem dX2_readsBehindRule_3 : decode cX2_readsBehindRule 3 = .ok (.if_icmp .eq 9, 3) := by decide +kernel
theorem dX2_readsBehindRule_6 : decode cX2_readsBehindRule 6 = .ok (.aload_n 0, 1) := by decide +kernel
theorem dX2_readsBehindRule_7 : decode cX2_readsBehindRule 7 = .ok (.iload_n 1, 1) := by decide +kernel
theorem dX2_readsBehindRule_8 : decode cX2_readsBehindRule 8 = .ok (.invokevirtual 61, 3) := by decide +kernel
theorem dX2_readsBehindRule_11 : decode cX2_readsBehindRule 11 = .ok (.ireturn, 1) := by decide +kernel
theorem dX2_readsBehindRule_12 : decode cX2_readsBehindRule 12 = .ok (.aload_n 0, 1) := by decide +kernel
theorem dX2_readsBehindRule_13 : decode cX2_readsBehindRule 13 = .ok (.bipush 7, 2) := by decide +kernel
theorem dX2_readsBehindRule_15 : decode cX2_readsBehindRule 15 = .ok (.putfield 11, 3) := by decide +kernel
theorem dX2_readsBehindRule_18 : decode cX2_readsBehindRule 18 = .ok (.iconst 1, 1) := by decide +kernel
theorem dX2_readsBehindRule_19 : decode cX2_readsBehindRule 19 = .ok (.ireturn, 1) := by decide +kernel
theorem dX2_readsRank_0 : decode cX2_readsRank 0 = .ok (.iload_n 1, 1) := by decide +kernel
theorem dX2_readsRank_1 : decode cX2_readsRank 1 = .ok (.invokestatic 64, 3) := by decide +kernel
theorem dX2_readsRank_4 : decode cX2_readsRank 4 = .ok (.ifCond .ne 5, 3) := by decide +kernel
theorem dX2_readsRank_7 : decode cX2_readsRank 7 = .ok (.iconst 0, 1) := by decide +kernel
theorem dX2_readsRank_8 : decode cX2_readsRank 8 = .ok (.ireturn, 1) := by decide +kernel
theorem dX2_readsRank_9 : decode cX2_readsRank 9 = .ok (.aload_n 0, 1) := by decide +kernel
theorem dX2_readsRank_10 : decode cX2_readsRank 10 = .ok (.iload_n 1, 1) := by decide +kernel
theorem dX2_readsRank_11 : decode cX2_readsRank 11 = .ok (.bipush 48, 2) := by decide +kernel
theorem dX2_readsRank_13 : decode cX2_readsRank 13 = .ok (.isub, 1) := by decide +kernel
theorem dX2_readsRank_14 : decode cX2_readsRank 14 = .ok (.putfield 28, 3) := by decide +kernel
theorem dX2_readsRank_17 : decode cX2_readsRank 17 = .ok (.aload_n 0, 1) := by decide +kernel
theorem dX2_readsRank_18 : decode cX2_readsRank 18 = .ok (.bipush 8, 2) := by decide +kernel
theorem dX2_readsRank_20 : decode cX2_readsRank 20 = .ok (.putfield 11, 3) := by decide +kernel
theorem dX2_readsRank_23 : decode cX2_readsRank 23 = .ok (.iconst 1, 1) := by decide +kernel
theorem dX2_readsRank_24 : decode cX2_readsRank 24 = .ok (.ireturn, 1) := by decide +kernel
theorem dX2_readsSeparator_0 : decode cX2_readsSeparator 0 = .ok (.iload_n 1, 1) := by decide +kernel
theorem dX2_readsSeparator_1 : decode cX2_readsSeparator 1 = .ok (.bipush 59, 2) := by decide +kernel
theorem dX2_readsSeparator_3 : decode cX2_readsSeparator 3 = .ok (.if_icmp .eq 5, 3) := by decide +kernel
theorem dX2_readsSeparator_6 : decode cX2_readsSeparator 6 = .ok (.iconst 0, 1) := by decide +kernel
theorem dX2_readsSeparator_7 : decode cX2_readsSeparator 7 = .ok (.ireturn, 1) := by decide +kernel
theorem dX2_readsSeparator_8 : decode cX2_readsSeparator 8 = .ok (.aload_n 0, 1) := by decide +kernel
theorem dX2_readsSeparator_9 : decode cX2_readsSeparator 9 = .ok (.invokevirtual 67, 3) := by decide +kernel
theorem dX2_readsSeparator_12 : decode cX2_readsSeparator 12 = .ok (.iconst 1, 1) := by decide +kernel
theorem dX2_readsSeparator_13 : decode cX2_readsSeparator 13 = .ok (.ireturn, 1) := by decide +kernel
theorem dX3_init_0 : decode cX3_init 0 = .ok (.aload_n 0, 1) := by decide +kernel
theorem dX3_init_1 : decode cX3_init 1 = .ok (.invokespecial 3, 3) := by decide +kernel
theorem dX3_init_4 : decode cX3_init 4 = .ok (.aload_n 0, 1) := by decide +kernel
theorem dX3_init_5 : decode cX3_init 5 = .ok (.new 9, 3) := by decide +kernel
theorem dX3_init_8 : decode cX3_init 8 = .ok (.dup, 1) := by decide +kernel
theorem dX3_init_9 : decode cX3_init 9 = .ok (.bipush 10, 2) := by decide +kernel
theorem dX3_init_11 : decode cX3_init 11 = .ok (.invokespecial 11, 3) := by decide +kernel
theorem dX3_init_14 : decode cX3_init 14 = .ok (.putfield 14, 3) := by decide +kernel
theorem dX3_init_17 : decode cX3_init 17 = .ok (.aload_n 0, 1) := by decide +kernel
theorem dX3_init_18 : decode cX3_init 18 = .ok (.new 9, 3) := by decide +kernel
theorem dX3_init_21 : decode cX3_init 21 = .ok (.dup, 1) := by decide +kernel
theorem dX3_init_22 : decode cX3_init 22 = .ok (.bipush 10, 2) := by decide +kernel
theorem dX3_init_24 : decode cX3_init 24 = .ok (.invokespecial 11, 3) := by decide +kernel
theorem dX3_init_27 : decode cX3_init 27 = .ok (.putfield 20, 3) := by decide +kernel
theorem dX3_init_30 : decode cX3_init 30 = .ok (.return_, 1) := by decide +kernel
theorem dX3_reckon_0 : decode cX3_reckon 0 = .ok (.aload_n 0, 1) := by decide +kernel
theorem dX3_reckon_1 : decode cX3_reckon 1 = .ok (.iload_n 2, 1) := by decide +kernel
theorem dX3_reckon_2 : decode cX3_reckon 2 = .ok (.invokestatic 23, 3) := by decide +kernel
theorem dX3_reckon_5 : decode cX3_reckon 5 = .ok (.putfield 27, 3) := by decide +kernel
theorem dX3_reckon_8 : decode cX3_reckon 8 = .ok (.aload_n 0, 1) := by decide +kernel
theorem dX3_reckon_9 : decode cX3_reckon 9 = .ok (.iload_n 2, 1) := by decide +kernel
theorem dX3_reckon_10 : decode cX3_reckon 10 = .ok (.invokestatic 31, 3) := by decide +kernel
theorem dX3_reckon_13 : decode cX3_reckon 13 = .ok (.putfield 34, 3) := by decide +kernel
theorem dX3_reckon_16 : decode cX3_reckon 16 = .ok (.aload_n 0, 1) := by decide +kernel
theorem dX3_reckon_17 : decode cX3_reckon 17 = .ok (.iload_n 2, 1) := by decide +kernel
theorem dX3_reckon_18 : decode cX3_reckon 18 = .ok (.iload_n 3, 1) := by decide +kernel
theorem dX3_reckon_19 : decode cX3_reckon 19 = .ok (.aload_n 1, 1) := by decide +kernel
theorem dX3_reckon_20 : decode cX3_reckon 20 = .ok (.getfield 37, 3) := by decide +kernel
theorem dX3_reckon_23 : decode cX3_reckon 23 = .ok (.invokestatic 42, 3) := by decide +kernel
theorem dX3_reckon_26 : decode cX3_reckon 26 = .ok (.putfield 46, 3) := by decide +kernel
theorem dX3_reckon_29 : decode cX3_reckon 29 = .ok (.iconst 0, 1) := by decide +kernel
theorem dX3_reckon_30 : decode cX3_reckon 30 = .ok (.istore 4, 2) := by decide +kernel
theorem dX3_reckon_32 : decode cX3_reckon 32 = .ok (.iload 4, 2) := by decide +kernel
theorem dX3_reckon_34 : decode cX3_reckon 34 = .ok (.aload_n 1, 1) := by decide +kernel
theorem dX3_reckon_35 : decode cX3_reckon 35 = .ok (.getfield 49, 3) := by decide +kernel
theorem dX3_reckon_38 : decode cX3_reckon 38 = .ok (.if_icmp .ge 29, 3) := by decide +kernel
theorem dX3_reckon_41 : decode cX3_reckon 41 = .ok (.aload_n 0, 1) := by decide +kernel
theorem dX3_reckon_42 : decode cX3_reckon 42 = .ok (.getfield 14, 3) := by decide +kernel
theorem dX3_reckon_45 : decode cX3_reckon 45 = .ok (.iload 4, 2) := by decide +kernel
theorem dX3_reckon_47 : decode cX3_reckon 47 = .ok (.aload_n 0, 1) := by decide +kernel
theorem dX3_reckon_48 : decode cX3_reckon 48 = .ok (.aload_n 0, 1) := by decide +kernel
theorem dX3_reckon_49 : decode cX3_reckon 49 = .ok (.aload_n 1, 1) := by decide +kernel
theorem dX3_reckon_50 : decode cX3_reckon 50 = .ok (.iload 4, 2) := by decide +kernel
theorem dX3_reckon_52 : decode cX3_reckon 52 = .ok (.invokevirtual 52, 3) := by decide +kernel
theorem dX3_reckon_55 : decode cX3_reckon 55 = .ok (.invokevirtual 56, 3) := by decide +kernel
theorem dX3_reckon_58 : decode cX3_reckon 58 = .ok (.invokevirtual 59, 3) := by decide +kernel
theorem dX3_reckon_61 : decode cX3_reckon 61 = .ok (.iinc 4 1, 3) := by decide +kernel
theorem dX3_reckon_64 : decode cX3_reckon 64 = .ok (.goto (-32), 3) := by decide +kernel
theorem dX3_reckon_67 : decode cX3_reckon 67 = .ok (.aload_n 0, 1) := by decide +kernel
theorem dX3_reckon_68 : decode cX3_reckon 68 = .ok (.getfield 20, 3) := by decide +kernel
theorem dX3_reckon_71 : decode cX3_reckon 71 = .ok (.invokevirtual 63, 3) := by decide +kernel
theorem dX3_reckon_74 : decode cX3_reckon 74 = .ok (.bipush 9, 2) := by decide +kernel
theorem dX3_reckon_76 : decode cX3_reckon 76 = .ok (.istore 4, 2) := by decide +kernel
theorem dX3_reckon_78 : decode cX3_reckon 78 = .ok (.iload 4, 2) := by decide +kernel
theorem dX3_reckon_80 : decode cX3_reckon 80 = .ok (.ifCond .lt 16, 3) := by decide +kernel
theorem dX3_reckon_83 : decode cX3_reckon 83 = .ok (.aload_n 0, 1) := by decide +kernel
theorem dX3_reckon_84 : decode cX3_reckon 84 = .ok (.aload_n 1, 1) := by decide +kernel
theorem dX3_reckon_85 : decode cX3_reckon 85 = .ok (.iload 4, 2) := by decide +kernel
theorem dX3_reckon_87 : decode cX3_reckon 87 = .ok (.invokevirtual 66, 3) := by decide +kernel
theorem dX3_reckon_90 : decode cX3_reckon 90 = .ok (.iinc 4 (-1), 3) := by decide +kernel
theorem dX3_reckon_93 : decode cX3_reckon 93 = .ok (.goto (-15), 3) := by decide +kernel
theorem dX3_reckon_96 : decode cX3_reckon 96 = .ok (.return_, 1) := by decide +kernel
theorem dX3_movedCount_0 : decode cX3_movedCount 0 = .ok (.iconst 0, 1) := by decide +kernel
theorem dX3_movedCount_1 : decode cX3_movedCount 1 = .ok (.istore_n 2, 1) := by decide +kernel
theorem dX3_movedCount_2 : decode cX3_movedCount 2 = .ok (.iconst 0, 1) := by decide +kernel
theorem dX3_movedCount_3 : decode cX3_movedCount 3 = .ok (.istore_n 3, 1) := by decide +kernel
theorem dX3_movedCount_4 : decode cX3_movedCount 4 = .ok (.iload_n 3, 1) := by decide +kernel
theorem dX3_movedCount_5 : decode cX3_movedCount 5 = .ok (.iload_n 1, 1) := by decide +kernel
theorem dX3_movedCount_6 : decode cX3_movedCount 6 = .ok (.if_icmp .ge 41, 3) := by decide +kernel
theorem dX3_movedCount_9 : decode cX3_movedCount 9 = .ok (.aload_n 0, 1) := by decide +kernel
theorem dX3_movedCount_10 : decode cX3_movedCount 10 = .ok (.getfield 20, 3) := by decide +kernel
theorem dX3_movedCount_13 : decode cX3_movedCount 13 = .ok (.iload_n 3, 1) := by decide +kernel
theorem dX3_movedCount_14 : decode cX3_movedCount 14 = .ok (.invokevirtual 70, 3) := by decide +kernel
theorem dX3_movedCount_17 : decode cX3_movedCount 17 = .ok (.istore 4, 2) := by decide +kernel
theorem dX3_movedCount_19 : decode cX3_movedCount 19 = .ok (.iload 4, 2) := by decide +kernel
theorem dX3_movedCount_21 : decode cX3_movedCount 21 = .ok (.iconst (-1), 1) := by decide +kernel
theorem dX3_movedCount_22 : decode cX3_movedCount 22 = .ok (.if_icmp .eq 19, 3) := by decide +kernel
theorem dX3_movedCount_25 : decode cX3_movedCount 25 = .ok (.iload 4, 2) := by decide +kernel
theorem dX3_movedCount_27 : decode cX3_movedCount 27 = .ok (.aload_n 0, 1) := by decide +kernel
theorem dX3_movedCount_28 : decode cX3_movedCount 28 = .ok (.getfield 14, 3) := by decide +kernel
theorem dX3_movedCount_31 : decode cX3_movedCount 31 = .ok (.iload_n 3, 1) := by decide +kernel
theorem dX3_movedCount_32 : decode cX3_movedCount 32 = .ok (.invokevirtual 70, 3) := by decide +kernel
theorem dX3_movedCount_35 : decode cX3_movedCount 35 = .ok (.if_icmp .eq 6, 3) := by decide +kernel
theorem dX3_movedCount_38 : decode cX3_movedCount 38 = .ok (.iinc 2 1, 3) := by decide +kernel
theorem dX3_movedCount_41 : decode cX3_movedCount 41 = .ok (.iinc 3 1, 3) := by decide +kernel
theorem dX3_movedCount_44 : decode cX3_movedCount 44 = .ok (.goto (-40), 3) := by decide +kernel
theorem dX3_movedCount_47 : decode cX3_movedCount 47 = .ok (.iload_n 2, 1) := by decide +kernel
theorem dX3_movedCount_48 : decode cX3_movedCount 48 = .ok (.ireturn, 1) := by decide +kernel
theorem dX3_orNone_0 : decode cX3_orNone 0 = .ok (.iload_n 1, 1) := by decide +kernel
theorem dX3_orNone_1 : decode cX3_orNone 1 = .ok (.ifCond .lt 15, 3) := by decide +kernel
theorem dX3_orNone_4 : decode cX3_orNone 4 = .ok (.iload_n 1, 1) := by decide +kernel
theorem dX3_orNone_5 : decode cX3_orNone 5 = .ok (.aload_n 0, 1) := by decide +kernel
theorem dX3_orNone_6 : decode cX3_orNone 6 = .ok (.getfield 27, 3) := by decide +kernel
theorem dX3_orNone_9 : decode cX3_orNone 9 = .ok (.if_icmp .ge 7, 3) := by decide +kernel
theorem dX3_orNone_12 : decode cX3_orNone 12 = .ok (.iload_n 1, 1) := by decide +kernel
theorem dX3_orNone_13 : decode cX3_orNone 13 = .ok (.goto 4, 3) := by decide +kernel
theorem dX3_orNone_16 : decode cX3_orNone 16 = .ok (.iconst (-1), 1) := by decide +kernel
theorem dX3_orNone_17 : decode cX3_orNone 17 = .ok (.ireturn, 1) := by decide +kernel
theorem dX3_dayByRule_0 : decode cX3_dayByRule 0 = .ok (.aload_n 1, 1) := by decide +kernel
theorem dX3_dayByRule_1 : decode cX3_dayByRule 1 = .ok (.getfield 73, 3) := by decide +kernel
theorem dX3_dayByRule_4 : decode cX3_dayByRule 4 = .ok (.iload_n 2, 1) := by decide +kernel
theorem dX3_dayByRule_5 : decode cX3_dayByRule 5 = .ok (.invokevirtual 70, 3) := by decide +kernel
theorem dX3_dayByRule_8 : decode cX3_dayByRule 8 = .ok (.istore_n 3, 1) := by decide +kernel
theorem dX3_dayByRule_9 : decode cX3_dayByRule 9 = .ok (.aload_n 1, 1) := by decide +kernel
theorem dX3_dayByRule_10 : decode cX3_dayByRule 10 = .ok (.getfield 75, 3) := by decide +kernel
theorem dX3_dayByRule_13 : decode cX3_dayByRule 13 = .ok (.iload_n 2, 1) := by decide +kernel
theorem dX3_dayByRule_14 : decode cX3_dayByRule 14 = .ok (.invokevirtual 70, 3) := by decide +kernel
theorem dX3_dayByRule_17 : decode cX3_dayByRule 17 = .ok (.istore 4, 2) := by decide +kernel
theorem dX3_dayByRule_19 : decode cX3_dayByRule 19 = .ok (.aload_n 1, 1) := by decide +kernel
theorem dX3_dayByRule_20 : decode cX3_dayByRule 20 = .ok (.getfield 78, 3) := by decide +kernel
theorem dX3_dayByRule_23 : decode cX3_dayByRule 23 = .ok (.iload_n 2, 1) := by decide +kernel
theorem dX3_dayByRule_24 : decode cX3_dayByRule 24 = .ok (.invokevirtual 70, 3) := by decide +kernel
theorem dX3_dayByRule_27 : decode cX3_dayByRule 27 = .ok (.tableswitch 43 0 2 #[25, 27, 35], 25) := by decide +kernel
theorem dX3_dayByRule_52 : decode cX3_dayByRule 52 = .ok (.iload_n 3, 1) := by decide +kernel
theorem dX3_dayByRule_53 : decode cX3_dayByRule 53 = .ok (.ireturn, 1) := by decide +kernel
theorem dX3_dayByRule_54 : decode cX3_dayByRule 54 = .ok (.aload_n 0, 1) := by decide +kernel
theorem dX3_dayByRule_55 : decode cX3_dayByRule 55 = .ok (.iload_n 3, 1) := by decide +kernel
theorem dX3_dayByRule_56 : decode cX3_dayByRule 56 = .ok (.iload 4, 2) := by decide +kernel
theorem dX3_dayByRule_58 : decode cX3_dayByRule 58 = .ok (.invokevirtual 81, 3) := by decide +kernel
theorem dX3_dayByRule_61 : decode cX3_dayByRule 61 = .ok (.ireturn, 1) := by decide +kernel
theorem dX3_dayByRule_62 : decode cX3_dayByRule 62 = .ok (.aload_n 0, 1) := by decide +kernel
theorem dX3_dayByRule_63 : decode cX3_dayByRule 63 = .ok (.iload_n 3, 1) := by decide +kernel
theorem dX3_dayByRule_64 : decode cX3_dayByRule 64 = .ok (.iload 4, 2) := by decide +kernel
theorem dX3_dayByRule_66 : decode cX3_dayByRule 66 = .ok (.invokevirtual 85, 3) := by decide +kernel
theorem dX3_dayByRule_69 : decode cX3_dayByRule 69 = .ok (.ireturn, 1) := by decide +kernel
theorem dX3_dayByRule_70 : decode cX3_dayByRule 70 = .ok (.aload_n 0, 1) := by decide +kernel
theorem dX3_dayByRule_71 : decode cX3_dayByRule 71 = .ok (.getfield 14, 3) := by decide +kernel
theorem dX3_dayByRule_74 : decode cX3_dayByRule 74 = .ok (.iload 4, 2) := by decide +kernel
theorem dX3_dayByRule_76 : decode cX3_dayByRule 76 = .ok (.invokevirtual 70, 3) := by decide +kernel
theorem dX3_dayByRule_79 : decode cX3_dayByRule 79 = .ok (.iconst (-1), 1) := by decide +kernel
theorem dX3_dayByRule_80 : decode cX3_dayByRule 80 = .ok (.if_icmp .ne 7, 3) := by decide +kernel
theorem dX3_dayByRule_83 : decode cX3_dayByRule 83 = .ok (.iconst (-1), 1) := by decide +kernel
theorem dX3_dayByRule_84 : decode cX3_dayByRule 84 = .ok (.goto 14, 3) := by decide +kernel
theorem dX3_dayByRule_87 : decode cX3_dayByRule 87 = .ok (.aload_n 0, 1) := by decide +kernel
theorem dX3_dayByRule_88 : decode cX3_dayByRule 88 = .ok (.getfield 14, 3) := by decide +kernel
theorem dX3_dayByRule_91 : decode cX3_dayByRule 91 = .ok (.iload 4, 2) := by decide +kernel
theorem dX3_dayByRule_93 : decode cX3_dayByRule 93 = .ok (.invokevirtual 70, 3) := by decide +kernel
theorem dX3_dayByRule_96 : decode cX3_dayByRule 96 = .ok (.iload_n 3, 1) := by decide +kernel
theorem dX3_dayByRule_97 : decode cX3_dayByRule 97 = .ok (.iadd, 1) := by decide +kernel
theorem dX3_dayByRule_98 : decode cX3_dayByRule 98 = .ok (.ireturn, 1) := by decide +kernel
theorem dX3_weekdayFrom_0 : decode cX3_weekdayFrom 0 = .ok (.aload_n 0, 1) := by decide +kernel
theorem dX3_weekdayFrom_1 : decode cX3_weekdayFrom 1 = .ok (.getfield 34, 3) := by decide +kernel
theorem dX3_weekdayFrom_4 : decode cX3_weekdayFrom 4 = .ok (.iload_n 1, 1) := by decide +kernel
theorem dX3_weekdayFrom_5 : decode cX3_weekdayFrom 5 = .ok (.iadd, 1) := by decide +kernel
theorem dX3_weekdayFrom_6 : decode cX3_weekdayFrom 6 = .ok (.bipush 7, 2) := by decide +kernel
theorem dX3_weekdayFrom_8 : decode cX3_weekdayFrom 8 = .ok (.irem, 1) := by decide +kernel
theorem dX3_weekdayFrom_9 : decode cX3_weekdayFrom 9 = .ok (.istore_n 3, 1) := by decide +kernel
theorem dX3_weekdayFrom_10 : decode cX3_weekdayFrom 10 = .ok (.iload_n 1, 1) := by decide +kernel
theorem dX3_weekdayFrom_11 : decode cX3_weekdayFrom 11 = .ok (.iload_n 2, 1) := by decide +kernel
theorem dX3_weekdayFrom_12 : decode cX3_weekdayFrom 12 = .ok (.bipush 7, 2) := by decide +kernel
theorem dX3_weekdayFrom_14 : decode cX3_weekdayFrom 14 = .ok (.iadd, 1) := by decide +kernel
theorem dX3_weekdayFrom_15 : decode cX3_weekdayFrom 15 = .ok (.iload_n 3, 1) := by decide +kernel
theorem dX3_weekdayFrom_16 : decode cX3_weekdayFrom 16 = .ok (.isub, 1) := by decide +kernel
theorem dX3_weekdayFrom_17 : decode cX3_weekdayFrom 17 = .ok (.bipush 7, 2) := by decide +kernel
theorem dX3_weekdayFrom_19 : decode cX3_weekdayFrom 19 = .ok (.irem, 1) := by decide +kernel
theorem dX3_weekdayFrom_20 : decode cX3_weekdayFrom 20 = .ok (.iadd, 1) := by decide +kernel
theorem dX3_weekdayFrom_21 : decode cX3_weekdayFrom 21 = .ok (.ireturn, 1) := by decide +kernel
theorem dX3_weekdayPastMoon_0 : decode cX3_weekdayPastMoon 0 = .ok (.iload_n 1, 1) := by decide +kernel
theorem dX3_weekdayPastMoon_1 : decode cX3_weekdayPastMoon 1 = .ok (.istore_n 3, 1) := by decide +kernel
theorem dX3_weekdayPastMoon_2 : decode cX3_weekdayPastMoon 2 = .ok (.iload_n 3, 1) := by decide +kernel
theorem dX3_weekdayPastMoon_3 : decode cX3_weekdayPastMoon 3 = .ok (.aload_n 0, 1) := by decide +kernel
theorem dX3_weekdayPastMoon_4 : decode cX3_weekdayPastMoon 4 = .ok (.getfield 27, 3) := by decide +kernel
theorem dX3_weekdayPastMoon_7 : decode cX3_weekdayPastMoon 7 = .ok (.if_icmp .ge 31, 3) := by decide +kernel
theorem dX3_weekdayPastMoon_10 : decode cX3_weekdayPastMoon 10 = .ok (.aload_n 0, 1) := by decide +kernel
theorem dX3_weekdayPastMoon_11 : decode cX3_weekdayPastMoon 11 = .ok (.getfield 46, 3) := by decide +kernel
theorem dX3_weekdayPastMoon_14 : decode cX3_weekdayPastMoon 14 = .ok (.iload_n 3, 1) := by decide +kernel
theorem dX3_weekdayPastMoon_15 : decode cX3_weekdayPastMoon 15 = .ok (.invokestatic 88, 3) := by decide +kernel
theorem dX3_weekdayPastMoon_18 : decode cX3_weekdayPastMoon 18 = .ok (.bipush 14, 2) := by decide +kernel
theorem dX3_weekdayPastMoon_20 : decode cX3_weekdayPastMoon 20 = .ok (.if_icmp .ne 12, 3) := by decide +kernel
theorem dX3_weekdayPastMoon_23 : decode cX3_weekdayPastMoon 23 = .ok (.aload_n 0, 1) := by decide +kernel
theorem dX3_weekdayPastMoon_24 : decode cX3_weekdayPastMoon 24 = .ok (.iload_n 3, 1) := by decide +kernel
theorem dX3_weekdayPastMoon_25 : decode cX3_weekdayPastMoon 25 = .ok (.iconst 1, 1) := by decide +kernel
theorem dX3_weekdayPastMoon_26 : decode cX3_weekdayPastMoon 26 = .ok (.iadd, 1) := by decide +kernel
theorem dX3_weekdayPastMoon_27 : decode cX3_weekdayPastMoon 27 = .ok (.iload_n 2, 1) := by decide +kernel
theorem dX3_weekdayPastMoon_28 : decode cX3_weekdayPastMoon 28 = .ok (.invokevirtual 81, 3) := by decide +kernel
theorem dX3_weekdayPastMoon_31 : decode cX3_weekdayPastMoon 31 = .ok (.ireturn, 1) := by decide +kernel
theorem dX3_weekdayPastMoon_32 : decode cX3_weekdayPastMoon 32 = .ok (.iinc 3 1, 3) := by decide +kernel
theorem dX3_weekdayPastMoon_35 : decode cX3_weekdayPastMoon 35 = .ok (.goto (-33), 3) := by decide +kernel
theorem dX3_weekdayPastMoon_38 : decode cX3_weekdayPastMoon 38 = .ok (.iconst (-1), 1) := by decide +kernel
theorem dX3_weekdayPastMoon_39 : decode cX3_weekdayPastMoon 39 = .ok (.ireturn, 1) := by decide +kernel
theorem dX3_cutNotches_0 : decode cX3_cutNotches 0 = .ok (.iconst 0, 1) := by decide +kernel
theorem dX3_cutNotches_1 : decode cX3_cutNotches 1 = .ok (.istore_n 3, 1) := by decide +kernel
theorem dX3_cutNotches_2 : decode cX3_cutNotches 2 = .ok (.iload_n 3, 1) := by decide +kernel
theorem dX3_cutNotches_3 : decode cX3_cutNotches 3 = .ok (.aload_n 1, 1) := by decide +kernel
theorem dX3_cutNotches_4 : decode cX3_cutNotches 4 = .ok (.getfield 49, 3) := by decide +kernel
theorem dX3_cutNotches_7 : decode cX3_cutNotches 7 = .ok (.if_icmp .ge 85, 3) := by decide +kernel
theorem dX3_cutNotches_10 : decode cX3_cutNotches 10 = .ok (.aload_n 0, 1) := by decide +kernel
theorem dX3_cutNotches_11 : decode cX3_cutNotches 11 = .ok (.getfield 14, 3) := by decide +kernel
theorem dX3_cutNotches_14 : decode cX3_cutNotches 14 = .ok (.iload_n 3, 1) := by decide +kernel
theorem dX3_cutNotches_15 : decode cX3_cutNotches 15 = .ok (.invokevirtual 70, 3) := by decide +kernel
theorem dX3_cutNotches_18 : decode cX3_cutNotches 18 = .ok (.istore 4, 2) := by decide +kernel
theorem dX3_cutNotches_20 : decode cX3_cutNotches 20 = .ok (.iload 4, 2) := by decide +kernel
theorem dX3_cutNotches_22 : decode cX3_cutNotches 22 = .ok (.iconst (-1), 1) := by decide +kernel
theorem dX3_cutNotches_23 : decode cX3_cutNotches 23 = .ok (.if_icmp .eq 63, 3) := by decide +kernel
theorem dX3_cutNotches_26 : decode cX3_cutNotches 26 = .ok (.aload_n 1, 1) := by decide +kernel
theorem dX3_cutNotches_27 : decode cX3_cutNotches 27 = .ok (.getfield 91, 3) := by decide +kernel
theorem dX3_cutNotches_30 : decode cX3_cutNotches 30 = .ok (.iload_n 3, 1) := by decide +kernel
theorem dX3_cutNotches_31 : decode cX3_cutNotches 31 = .ok (.invokevirtual 70, 3) := by decide +kernel
theorem dX3_cutNotches_34 : decode cX3_cutNotches 34 = .ok (.iload_n 2, 1) := by decide +kernel
theorem dX3_cutNotches_35 : decode cX3_cutNotches 35 = .ok (.if_icmp .ne 51, 3) := by decide +kernel
theorem dX3_cutNotches_38 : decode cX3_cutNotches 38 = .ok (.iconst 0, 1) := by decide +kernel
theorem dX3_cutNotches_39 : decode cX3_cutNotches 39 = .ok (.istore 5, 2) := by decide +kernel
theorem dX3_cutNotches_41 : decode cX3_cutNotches 41 = .ok (.iload 5, 2) := by decide +kernel
theorem dX3_cutNotches_43 : decode cX3_cutNotches 43 = .ok (.aload_n 1, 1) := by decide +kernel
theorem dX3_cutNotches_44 : decode cX3_cutNotches 44 = .ok (.getfield 49, 3) := by decide +kernel
theorem dX3_cutNotches_47 : decode cX3_cutNotches 47 = .ok (.if_icmp .ge 25, 3) := by decide +kernel
theorem dX3_cutNotches_50 : decode cX3_cutNotches 50 = .ok (.aload_n 0, 1) := by decide +kernel
theorem dX3_cutNotches_51 : decode cX3_cutNotches 51 = .ok (.iload 4, 2) := by decide +kernel
theorem dX3_cutNotches_53 : decode cX3_cutNotches 53 = .ok (.aload_n 1, 1) := by decide +kernel
theorem dX3_cutNotches_54 : decode cX3_cutNotches 54 = .ok (.getfield 49, 3) := by decide +kernel
theorem dX3_cutNotches_57 : decode cX3_cutNotches 57 = .ok (.invokevirtual 94, 3) := by decide +kernel
theorem dX3_cutNotches_60 : decode cX3_cutNotches 60 = .ok (.ifCond .eq 12, 3) := by decide +kernel
theorem dX3_cutNotches_63 : decode cX3_cutNotches 63 = .ok (.iinc 4 1, 3) := by decide +kernel
theorem dX3_cutNotches_66 : decode cX3_cutNotches 66 = .ok (.iinc 5 1, 3) := by decide +kernel
theorem dX3_cutNotches_69 : decode cX3_cutNotches 69 = .ok (.goto (-28), 3) := by decide +kernel
theorem dX3_cutNotches_72 : decode cX3_cutNotches 72 = .ok (.aload_n 0, 1) := by decide +kernel
theorem dX3_cutNotches_73 : decode cX3_cutNotches 73 = .ok (.getfield 20, 3) := by decide +kernel
theorem dX3_cutNotches_76 : decode cX3_cutNotches 76 = .ok (.iload_n 3, 1) := by decide +kernel
theorem dX3_cutNotches_77 : decode cX3_cutNotches 77 = .ok (.aload_n 0, 1) := by decide +kernel
theorem dX3_cutNotches_78 : decode cX3_cutNotches 78 = .ok (.iload 4, 2) := by decide +kernel
theorem dX3_cutNotches_80 : decode cX3_cutNotches 80 = .ok (.invokevirtual 56, 3) := by decide +kernel
theorem dX3_cutNotches_83 : decode cX3_cutNotches 83 = .ok (.invokevirtual 59, 3) := by decide +kernel
theorem dX3_cutNotches_86 : decode cX3_cutNotches 86 = .ok (.iinc 3 1, 3) := by decide +kernel
theorem dX3_cutNotches_89 : decode cX3_cutNotches 89 = .ok (.goto (-87), 3) := by decide +kernel
theorem dX3_cutNotches_92 : decode cX3_cutNotches 92 = .ok (.return_, 1) := by decide +kernel
theorem dX3_hasNotch_0 : decode cX3_hasNotch 0 = .ok (.iconst 0, 1) := by decide +kernel
theorem dX3_hasNotch_1 : decode cX3_hasNotch 1 = .ok (.istore_n 3, 1) := by decide +kernel
theorem dX3_hasNotch_2 : decode cX3_hasNotch 2 = .ok (.iload_n 3, 1) := by decide +kernel
theorem dX3_hasNotch_3 : decode cX3_hasNotch 3 = .ok (.iload_n 2, 1) := by decide +kernel
theorem dX3_hasNotch_4 : decode cX3_hasNotch 4 = .ok (.if_icmp .ge 23, 3) := by decide +kernel
theorem dX3_hasNotch_7 : decode cX3_hasNotch 7 = .ok (.aload_n 0, 1) := by decide +kernel
theorem dX3_hasNotch_8 : decode cX3_hasNotch 8 = .ok (.getfield 20, 3) := by decide +kernel
theorem dX3_hasNotch_11 : decode cX3_hasNotch 11 = .ok (.iload_n 3, 1) := by decide +kernel
theorem dX3_hasNotch_12 : decode cX3_hasNotch 12 = .ok (.invokevirtual 70, 3) := by decide +kernel
theorem dX3_hasNotch_15 : decode cX3_hasNotch 15 = .ok (.iload_n 1, 1) := by decide +kernel
theorem dX3_hasNotch_16 : decode cX3_hasNotch 16 = .ok (.if_icmp .ne 5, 3) := by decide +kernel
theorem dX3_hasNotch_19 : decode cX3_hasNotch 19 = .ok (.iconst 1, 1) := by decide +kernel
theorem dX3_hasNotch_20 : decode cX3_hasNotch 20 = .ok (.ireturn, 1) := by decide +kernel
theorem dX3_hasNotch_21 : decode cX3_hasNotch 21 = .ok (.iinc 3 1, 3) := by decide +kernel
theorem dX3_hasNotch_24 : decode cX3_hasNotch 24 = .ok (.goto (-22), 3) := by decide +kernel
theorem dX3_hasNotch_27 : decode cX3_hasNotch 27 = .ok (.iconst 0, 1) := by decide +kernel
theorem dX3_hasNotch_28 : decode cX3_hasNotch 28 = .ok (.ireturn, 1) := by decide +kernel
theorem dX4_init_0 : decode cX4_init 0 = .ok (.aload_n 0, 1) := by decide +kernel
theorem dX4_init_1 : decode cX4_init 1 = .ok (.invokespecial 3, 3) := by decide +kernel
theorem dX4_init_4 : decode cX4_init 4 = .ok (.aload_n 0, 1) := by decide +kernel
theorem dX4_init_5 : decode cX4_init 5 = .ok (.iload_n 1, 1) := by decide +kernel
theorem dX4_init_6 : decode cX4_init 6 = .ok (.ifCond .le 7, 3) := by decide +kernel
theorem dX4_init_9 : decode cX4_init 9 = .ok (.iload_n 1, 1) := by decide +kernel
theorem dX4_init_10 : decode cX4_init 10 = .ok (.goto 4, 3) := by decide +kernel
theorem dX4_init_13 : decode cX4_init 13 = .ok (.iconst 0, 1) := by decide +kernel
theorem dX4_init_14 : decode cX4_init 14 = .ok (.newarray .int, 2) := by decide +kernel
theorem dX4_init_16 : decode cX4_init 16 = .ok (.putfield 9, 3) := by decide +kernel
theorem dX4_init_19 : decode cX4_init 19 = .ok (.return_, 1) := by decide +kernel
theorem dX4_at_0 : decode cX4_at 0 = .ok (.iload_n 1, 1) := by decide +kernel
theorem dX4_at_1 : decode cX4_at 1 = .ok (.ifCond .lt 21, 3) := by decide +kernel
theorem dX4_at_4 : decode cX4_at 4 = .ok (.iload_n 1, 1) := by decide +kernel
theorem dX4_at_5 : decode cX4_at 5 = .ok (.aload_n 0, 1) := by decide +kernel
theorem dX4_at_6 : decode cX4_at 6 = .ok (.getfield 9, 3) := by decide +kernel
theorem dX4_at_9 : decode cX4_at 9 = .ok (.arraylength, 1) := by decide +kernel
theorem dX4_at_10 : decode cX4_at 10 = .ok (.if_icmp .ge 12, 3) := by decide +kernel
theorem dX4_at_13 : decode cX4_at 13 = .ok (.aload_n 0, 1) := by decide +kernel
theorem dX4_at_14 : decode cX4_at 14 = .ok (.getfield 9, 3) := by decide +kernel
theorem dX4_at_17 : decode cX4_at 17 = .ok (.iload_n 1, 1) := by decide +kernel
theorem dX4_at_18 : decode cX4_at 18 = .ok (.iaload, 1) := by decide +kernel
theorem dX4_at_19 : decode cX4_at 19 = .ok (.goto 4, 3) := by decide +kernel
theorem dX4_at_22 : decode cX4_at 22 = .ok (.iconst (-1), 1) := by decide +kernel
theorem dX4_at_23 : decode cX4_at 23 = .ok (.ireturn, 1) := by decide +kernel
theorem dX4_put_0 : decode cX4_put 0 = .ok (.iload_n 1, 1) := by decide +kernel
theorem dX4_put_1 : decode cX4_put 1 = .ok (.ifCond .lt 19, 3) := by decide +kernel
theorem dX4_put_4 : decode cX4_put 4 = .ok (.iload_n 1, 1) := by decide +kernel
theorem dX4_put_5 : decode cX4_put 5 = .ok (.aload_n 0, 1) := by decide +kernel
theorem dX4_put_6 : decode cX4_put 6 = .ok (.getfield 9, 3) := by decide +kernel
theorem dX4_put_9 : decode cX4_put 9 = .ok (.arraylength, 1) := by decide +kernel
theorem dX4_put_10 : decode cX4_put 10 = .ok (.if_icmp .ge 10, 3) := by decide +kernel
theorem dX4_put_13 : decode cX4_put 13 = .ok (.aload_n 0, 1) := by decide +kernel
theorem dX4_put_14 : decode cX4_put 14 = .ok (.getfield 9, 3) := by decide +kernel
theorem dX4_put_17 : decode cX4_put 17 = .ok (.iload_n 1, 1) := by decide +kernel
theorem dX4_put_18 : decode cX4_put 18 = .ok (.iload_n 2, 1) := by decide +kernel
theorem dX4_put_19 : decode cX4_put 19 = .ok (.iastore, 1) := by decide +kernel
theorem dX4_put_20 : decode cX4_put 20 = .ok (.return_, 1) := by decide +kernel
theorem dX4_putNowhere_0 : decode cX4_putNowhere 0 = .ok (.iconst 0, 1) := by decide +kernel
theorem dX4_putNowhere_1 : decode cX4_putNowhere 1 = .ok (.istore_n 1, 1) := by decide +kernel
theorem dX4_putNowhere_2 : decode cX4_putNowhere 2 = .ok (.iload_n 1, 1) := by decide +kernel
theorem dX4_putNowhere_3 : decode cX4_putNowhere 3 = .ok (.aload_n 0, 1) := by decide +kernel
theorem dX4_putNowhere_4 : decode cX4_putNowhere 4 = .ok (.getfield 9, 3) := by decide +kernel
theorem dX4_putNowhere_7 : decode cX4_putNowhere 7 = .ok (.arraylength, 1) := by decide +kernel
theorem dX4_putNowhere_8 : decode cX4_putNowhere 8 = .ok (.if_icmp .ge 16, 3) := by decide +kernel
theorem dX4_putNowhere_11 : decode cX4_putNowhere 11 = .ok (.aload_n 0, 1) := by decide +kernel
theorem dX4_putNowhere_12 : decode cX4_putNowhere 12 = .ok (.getfield 9, 3) := by decide +kernel
theorem dX4_putNowhere_15 : decode cX4_putNowhere 15 = .ok (.iload_n 1, 1) := by decide +kernel
theorem dX4_putNowhere_16 : decode cX4_putNowhere 16 = .ok (.iconst (-1), 1) := by decide +kernel
theorem dX4_putNowhere_17 : decode cX4_putNowhere 17 = .ok (.iastore, 1) := by decide +kernel
theorem dX4_putNowhere_18 : decode cX4_putNowhere 18 = .ok (.iinc 1 1, 3) := by decide +kernel
theorem dX4_putNowhere_21 : decode cX4_putNowhere 21 = .ok (.goto (-19), 3) := by decide +kernel
theorem dX4_putNowhere_24 : decode cX4_putNowhere 24 = .ok (.return_, 1) := by decide +kernel
theorem dX4_copyFrom_0 : decode cX4_copyFrom 0 = .ok (.iconst 0, 1) := by decide +kernel
theorem dX4_copyFrom_1 : decode cX4_copyFrom 1 = .ok (.istore_n 2, 1) := by decide +kernel
theorem dX4_copyFrom_2 : decode cX4_copyFrom 2 = .ok (.iload_n 2, 1) := by decide +kernel
theorem dX4_copyFrom_3 : decode cX4_copyFrom 3 = .ok (.aload_n 0, 1) := by decide +kernel
theorem dX4_copyFrom_4 : decode cX4_copyFrom 4 = .ok (.getfield 9, 3) := by decide +kernel
theorem dX4_copyFrom_7 : decode cX4_copyFrom 7 = .ok (.arraylength, 1) := by decide +kernel
theorem dX4_copyFrom_8 : decode cX4_copyFrom 8 = .ok (.if_icmp .ge 20, 3) := by decide +kernel
theorem dX4_copyFrom_11 : decode cX4_copyFrom 11 = .ok (.aload_n 0, 1) := by decide +kernel
theorem dX4_copyFrom_12 : decode cX4_copyFrom 12 = .ok (.getfield 9, 3) := by decide +kernel
theorem dX4_copyFrom_15 : decode cX4_copyFrom 15 = .ok (.iload_n 2, 1) := by decide +kernel
theorem dX4_copyFrom_16 : decode cX4_copyFrom 16 = .ok (.aload_n 1, 1) := by decide +kernel
theorem dX4_copyFrom_17 : decode cX4_copyFrom 17 = .ok (.iload_n 2, 1) := by decide +kernel
theorem dX4_copyFrom_18 : decode cX4_copyFrom 18 = .ok (.invokevirtual 15, 3) := by decide +kernel
theorem dX4_copyFrom_21 : decode cX4_copyFrom 21 = .ok (.iastore, 1) := by decide +kernel
theorem dX4_copyFrom_22 : decode cX4_copyFrom 22 = .ok (.iinc 2 1, 3) := by decide +kernel
theorem dX4_copyFrom_25 : decode cX4_copyFrom 25 = .ok (.goto (-23), 3) := by decide +kernel
theorem dX4_copyFrom_28 : decode cX4_copyFrom 28 = .ok (.return_, 1) := by decide +kernel
theorem dX5_init_0 : decode cX5_init 0 = .ok (.aload_n 0, 1) := by decide +kernel
theorem dX5_init_1 : decode cX5_init 1 = .ok (.invokespecial 3, 3) := by decide +kernel
theorem dX5_init_4 : decode cX5_init 4 = .ok (.aload_n 0, 1) := by decide +kernel
theorem dX5_init_5 : decode cX5_init 5 = .ok (.iconst 0, 1) := by decide +kernel
theorem dX5_init_6 : decode cX5_init 6 = .ok (.putfield 9, 3) := by decide +kernel
theorem dX5_init_9 : decode cX5_init 9 = .ok (.aload_n 0, 1) := by decide +kernel
theorem dX5_init_10 : decode cX5_init 10 = .ok (.new 15, 3) := by decide +kernel
theorem dX5_init_13 : decode cX5_init 13 = .ok (.dup, 1) := by decide +kernel
theorem dX5_init_14 : decode cX5_init 14 = .ok (.bipush 10, 2) := by decide +kernel
theorem dX5_init_16 : decode cX5_init 16 = .ok (.invokespecial 17, 3) := by decide +kernel
theorem dX5_init_19 : decode cX5_init 19 = .ok (.putfield 20, 3) := by decide +kernel
theorem dX5_init_22 : decode cX5_init 22 = .ok (.aload_n 0, 1) := by decide +kernel
theorem dX5_init_23 : decode cX5_init 23 = .ok (.new 15, 3) := by decide +kernel
theorem dX5_init_26 : decode cX5_init 26 = .ok (.dup, 1) := by decide +kernel
theorem dX5_init_27 : decode cX5_init 27 = .ok (.bipush 10, 2) := by decide +kernel
theorem dX5_init_29 : decode cX5_init 29 = .ok (.invokespecial 17, 3) := by decide +kernel
theorem dX5_init_32 : decode cX5_init 32 = .ok (.putfield 24, 3) := by decide +kernel
theorem dX5_init_35 : decode cX5_init 35 = .ok (.aload_n 0, 1) := by decide +kernel
theorem dX5_init_36 : decode cX5_init 36 = .ok (.new 15, 3) := by decide +kernel
theorem dX5_init_39 : decode cX5_init 39 = .ok (.dup, 1) := by decide +kernel
theorem dX5_init_40 : decode cX5_init 40 = .ok (.bipush 10, 2) := by decide +kernel
theorem dX5_init_42 : decode cX5_init 42 = .ok (.invokespecial 17, 3) := by decide +kernel
theorem dX5_init_45 : decode cX5_init 45 = .ok (.putfield 27, 3) := by decide +kernel
theorem dX5_init_48 : decode cX5_init 48 = .ok (.aload_n 0, 1) := by decide +kernel
theorem dX5_init_49 : decode cX5_init 49 = .ok (.new 15, 3) := by decide +kernel
theorem dX5_init_52 : decode cX5_init 52 = .ok (.dup, 1) := by decide +kernel
theorem dX5_init_53 : decode cX5_init 53 = .ok (.bipush 10, 2) := by decide +kernel
theorem dX5_init_55 : decode cX5_init 55 = .ok (.invokespecial 17, 3) := by decide +kernel
theorem dX5_init_58 : decode cX5_init 58 = .ok (.putfield 30, 3) := by decide +kernel
theorem dX5_init_61 : decode cX5_init 61 = .ok (.aload_n 0, 1) := by decide +kernel
theorem dX5_init_62 : decode cX5_init 62 = .ok (.new 15, 3) := by decide +kernel
theorem dX5_init_65 : decode cX5_init 65 = .ok (.dup, 1) := by decide +kernel
theorem dX5_init_66 : decode cX5_init 66 = .ok (.iconst 3, 1) := by decide +kernel
theorem dX5_init_67 : decode cX5_init 67 = .ok (.invokespecial 17, 3) := by decide +kernel
theorem dX5_init_70 : decode cX5_init 70 = .ok (.putfield 33, 3) := by decide +kernel
theorem dX5_init_73 : decode cX5_init 73 = .ok (.aload_n 0, 1) := by decide +kernel
theorem dX5_init_74 : decode cX5_init 74 = .ok (.sipush 300, 3) := by decide +kernel
theorem dX5_init_77 : decode cX5_init 77 = .ok (.putfield 36, 3) := by decide +kernel
theorem dX5_init_80 : decode cX5_init 80 = .ok (.aload_n 0, 1) := by decide +kernel
theorem dX5_init_81 : decode cX5_init 81 = .ok (.iconst 0, 1) := by decide +kernel
theorem dX5_init_82 : decode cX5_init 82 = .ok (.putfield 39, 3) := by decide +kernel
theorem dX5_init_85 : decode cX5_init 85 = .ok (.aload_n 0, 1) := by decide +kernel
theorem dX5_init_86 : decode cX5_init 86 = .ok (.new 15, 3) := by decide +kernel
theorem dX5_init_89 : decode cX5_init 89 = .ok (.dup, 1) := by decide +kernel
theorem dX5_init_90 : decode cX5_init 90 = .ok (.iconst 5, 1) := by decide +kernel
theorem dX5_init_91 : decode cX5_init 91 = .ok (.invokespecial 17, 3) := by decide +kernel
theorem dX5_init_94 : decode cX5_init 94 = .ok (.putfield 42, 3) := by decide +kernel
theorem dX5_init_97 : decode cX5_init 97 = .ok (.aload_n 0, 1) := by decide +kernel
theorem dX5_init_98 : decode cX5_init 98 = .ok (.new 15, 3) := by decide +kernel
theorem dX5_init_101 : decode cX5_init 101 = .ok (.dup, 1) := by decide +kernel
theorem dX5_init_102 : decode cX5_init 102 = .ok (.iconst 5, 1) := by decide +kernel
theorem dX5_init_103 : decode cX5_init 103 = .ok (.invokespecial 17, 3) := by decide +kernel
theorem dX5_init_106 : decode cX5_init 106 = .ok (.putfield 45, 3) := by decide +kernel
theorem dX5_init_109 : decode cX5_init 109 = .ok (.aload_n 0, 1) := by decide +kernel
theorem dX5_init_110 : decode cX5_init 110 = .ok (.new 15, 3) := by decide +kernel
theorem dX5_init_113 : decode cX5_init 113 = .ok (.dup, 1) := by decide +kernel
theorem dX5_init_114 : decode cX5_init 114 = .ok (.iconst 5, 1) := by decide +kernel
theorem dX5_init_115 : decode cX5_init 115 = .ok (.invokespecial 17, 3) := by decide +kernel
theorem dX5_init_118 : decode cX5_init 118 = .ok (.putfield 48, 3) := by decide +kernel
theorem dX5_init_121 : decode cX5_init 121 = .ok (.aload_n 0, 1) := by decide +kernel
theorem dX5_init_122 : decode cX5_init 122 = .ok (.new 15, 3) := by decide +kernel
theorem dX5_init_125 : decode cX5_init 125 = .ok (.dup, 1) := by decide +kernel
theorem dX5_init_126 : decode cX5_init 126 = .ok (.bipush 50, 2) := by decide +kernel
theorem dX5_init_128 : decode cX5_init 128 = .ok (.invokespecial 17, 3) := by decide +kernel
theorem dX5_init_131 : decode cX5_init 131 = .ok (.putfield 51, 3) := by decide +kernel
theorem dX5_init_134 : decode cX5_init 134 = .ok (.return_, 1) := by decide +kernel
theorem dX5_copyFrom_0 : decode cX5_copyFrom 0 = .ok (.aload_n 0, 1) := by decide +kernel
theorem dX5_copyFrom_1 : decode cX5_copyFrom 1 = .ok (.aload_n 1, 1) := by decide +kernel
theorem dX5_copyFrom_2 : decode cX5_copyFrom 2 = .ok (.getfield 9, 3) := by decide +kernel
theorem dX5_copyFrom_5 : decode cX5_copyFrom 5 = .ok (.putfield 9, 3) := by decide +kernel
theorem dX5_copyFrom_8 : decode cX5_copyFrom 8 = .ok (.aload_n 0, 1) := by decide +kernel
theorem dX5_copyFrom_9 : decode cX5_copyFrom 9 = .ok (.getfield 20, 3) := by decide +kernel
theorem dX5_copyFrom_12 : decode cX5_copyFrom 12 = .ok (.aload_n 1, 1) := by decide +kernel
theorem dX5_copyFrom_13 : decode cX5_copyFrom 13 = .ok (.getfield 20, 3) := by decide +kernel
theorem dX5_copyFrom_16 : decode cX5_copyFrom 16 = .ok (.invokevirtual 54, 3) := by decide +kernel
theorem dX5_copyFrom_19 : decode cX5_copyFrom 19 = .ok (.aload_n 0, 1) := by decide +kernel
theorem dX5_copyFrom_20 : decode cX5_copyFrom 20 = .ok (.getfield 24, 3) := by decide +kernel
theorem dX5_copyFrom_23 : decode cX5_copyFrom 23 = .ok (.aload_n 1, 1) := by decide +kernel
theorem dX5_copyFrom_24 : decode cX5_copyFrom 24 = .ok (.getfield 24, 3) := by decide +kernel
theorem dX5_copyFrom_27 : decode cX5_copyFrom 27 = .ok (.invokevirtual 54, 3) := by decide +kernel
theorem dX5_copyFrom_30 : decode cX5_copyFrom 30 = .ok (.aload_n 0, 1) := by decide +kernel
theorem dX5_copyFrom_31 : decode cX5_copyFrom 31 = .ok (.getfield 27, 3) := by decide +kernel
theorem dX5_copyFrom_34 : decode cX5_copyFrom 34 = .ok (.aload_n 1, 1) := by decide +kernel
theorem dX5_copyFrom_35 : decode cX5_copyFrom 35 = .ok (.getfield 27, 3) := by decide +kernel
theorem dX5_copyFrom_38 : decode cX5_copyFrom 38 = .ok (.invokevirtual 54, 3) := by decide +kernel
theorem dX5_copyFrom_41 : decode cX5_copyFrom 41 = .ok (.aload_n 0, 1) := by decide +kernel
theorem dX5_copyFrom_42 : decode cX5_copyFrom 42 = .ok (.getfield 30, 3) := by decide +kernel
theorem dX5_copyFrom_45 : decode cX5_copyFrom 45 = .ok (.aload_n 1, 1) := by decide +kernel
theorem dX5_copyFrom_46 : decode cX5_copyFrom 46 = .ok (.getfield 30, 3) := by decide +kernel
theorem dX5_copyFrom_49 : decode cX5_copyFrom 49 = .ok (.invokevirtual 54, 3) := by decide +kernel
theorem dX5_copyFrom_52 : decode cX5_copyFrom 52 = .ok (.aload_n 0, 1) := by decide +kernel
theorem dX5_copyFrom_53 : decode cX5_copyFrom 53 = .ok (.getfield 33, 3) := by decide +kernel
theorem dX5_copyFrom_56 : decode cX5_copyFrom 56 = .ok (.aload_n 1, 1) := by decide +kernel
theorem dX5_copyFrom_57 : decode cX5_copyFrom 57 = .ok (.getfield 33, 3) := by decide +kernel
theorem dX5_copyFrom_60 : decode cX5_copyFrom 60 = .ok (.invokevirtual 54, 3) := by decide +kernel
theorem dX5_copyFrom_63 : decode cX5_copyFrom 63 = .ok (.aload_n 0, 1) := by decide +kernel
theorem dX5_copyFrom_64 : decode cX5_copyFrom 64 = .ok (.aload_n 1, 1) := by decide +kernel
theorem dX5_copyFrom_65 : decode cX5_copyFrom 65 = .ok (.getfield 36, 3) := by decide +kernel
theorem dX5_copyFrom_68 : decode cX5_copyFrom 68 = .ok (.putfield 36, 3) := by decide +kernel
theorem dX5_copyFrom_71 : decode cX5_copyFrom 71 = .ok (.aload_n 0, 1) := by decide +kernel
theorem dX5_copyFrom_72 : decode cX5_copyFrom 72 = .ok (.aload_n 1, 1) := by decide +kernel
theorem dX5_copyFrom_73 : decode cX5_copyFrom 73 = .ok (.getfield 39, 3) := by decide +kernel
theorem dX5_copyFrom_76 : decode cX5_copyFrom 76 = .ok (.putfield 39, 3) := by decide +kernel
theorem dX5_copyFrom_79 : decode cX5_copyFrom 79 = .ok (.aload_n 0, 1) := by decide +kernel
theorem dX5_copyFrom_80 : decode cX5_copyFrom 80 = .ok (.getfield 42, 3) := by decide +kernel
theorem dX5_copyFrom_83 : decode cX5_copyFrom 83 = .ok (.aload_n 1, 1) := by decide +kernel
theorem dX5_copyFrom_84 : decode cX5_copyFrom 84 = .ok (.getfield 42, 3) := by decide +kernel
theorem dX5_copyFrom_87 : decode cX5_copyFrom 87 = .ok (.invokevirtual 54, 3) := by decide +kernel
theorem dX5_copyFrom_90 : decode cX5_copyFrom 90 = .ok (.aload_n 0, 1) := by decide +kernel
theorem dX5_copyFrom_91 : decode cX5_copyFrom 91 = .ok (.getfield 45, 3) := by decide +kernel
theorem dX5_copyFrom_94 : decode cX5_copyFrom 94 = .ok (.aload_n 1, 1) := by decide +kernel
theorem dX5_copyFrom_95 : decode cX5_copyFrom 95 = .ok (.getfield 45, 3) := by decide +kernel
theorem dX5_copyFrom_98 : decode cX5_copyFrom 98 = .ok (.invokevirtual 54, 3) := by decide +kernel
theorem dX5_copyFrom_101 : decode cX5_copyFrom 101 = .ok (.aload_n 0, 1) := by decide +kernel
theorem dX5_copyFrom_102 : decode cX5_copyFrom 102 = .ok (.getfield 48, 3) := by decide +kernel
theorem dX5_copyFrom_105 : decode cX5_copyFrom 105 = .ok (.aload_n 1, 1) := by decide +kernel
theorem dX5_copyFrom_106 : decode cX5_copyFrom 106 = .ok (.getfield 48, 3) := by decide +kernel
theorem dX5_copyFrom_109 : decode cX5_copyFrom 109 = .ok (.invokevirtual 54, 3) := by decide +kernel
theorem dX5_copyFrom_112 : decode cX5_copyFrom 112 = .ok (.aload_n 0, 1) := by decide +kernel
theorem dX5_copyFrom_113 : decode cX5_copyFrom 113 = .ok (.getfield 51, 3) := by decide +kernel
theorem dX5_copyFrom_116 : decode cX5_copyFrom 116 = .ok (.aload_n 1, 1) := by decide +kernel
theorem dX5_copyFrom_117 : decode cX5_copyFrom 117 = .ok (.getfield 51, 3) := by decide +kernel
theorem dX5_copyFrom_120 : decode cX5_copyFrom 120 = .ok (.invokevirtual 54, 3) := by decide +kernel
theorem dX5_copyFrom_123 : decode cX5_copyFrom 123 = .ok (.return_, 1) := by decide +kernel
theorem dX5_addFeast_0 : decode cX5_addFeast 0 = .ok (.aload_n 0, 1) := by decide +kernel
theorem dX5_addFeast_1 : decode cX5_addFeast 1 = .ok (.getfield 20, 3) := by decide +kernel
theorem dX5_addFeast_4 : decode cX5_addFeast 4 = .ok (.aload_n 0, 1) := by decide +kernel
theorem dX5_addFeast_5 : decode cX5_addFeast 5 = .ok (.getfield 9, 3) := by decide +kernel
theorem dX5_addFeast_8 : decode cX5_addFeast 8 = .ok (.aload_n 1, 1) := by decide +kernel
theorem dX5_addFeast_9 : decode cX5_addFeast 9 = .ok (.getfield 58, 3) := by decide +kernel
theorem dX5_addFeast_12 : decode cX5_addFeast 12 = .ok (.invokevirtual 63, 3) := by decide +kernel
theorem dX5_addFeast_15 : decode cX5_addFeast 15 = .ok (.aload_n 0, 1) := by decide +kernel
theorem dX5_addFeast_16 : decode cX5_addFeast 16 = .ok (.getfield 24, 3) := by decide +kernel
theorem dX5_addFeast_19 : decode cX5_addFeast 19 = .ok (.aload_n 0, 1) := by decide +kernel
theorem dX5_addFeast_20 : decode cX5_addFeast 20 = .ok (.getfield 9, 3) := by decide +kernel
theorem dX5_addFeast_23 : decode cX5_addFeast 23 = .ok (.aload_n 1, 1) := by decide +kernel
theorem dX5_addFeast_24 : decode cX5_addFeast 24 = .ok (.getfield 67, 3) := by decide +kernel
theorem dX5_addFeast_27 : decode cX5_addFeast 27 = .ok (.invokevirtual 63, 3) := by decide +kernel
theorem dX5_addFeast_30 : decode cX5_addFeast 30 = .ok (.aload_n 0, 1) := by decide +kernel
theorem dX5_addFeast_31 : decode cX5_addFeast 31 = .ok (.getfield 27, 3) := by decide +kernel
theorem dX5_addFeast_34 : decode cX5_addFeast 34 = .ok (.aload_n 0, 1) := by decide +kernel
theorem dX5_addFeast_35 : decode cX5_addFeast 35 = .ok (.getfield 9, 3) := by decide +kernel
theorem dX5_addFeast_38 : decode cX5_addFeast 38 = .ok (.aload_n 1, 1) := by decide +kernel
theorem dX5_addFeast_39 : decode cX5_addFeast 39 = .ok (.getfield 70, 3) := by decide +kernel
theorem dX5_addFeast_42 : decode cX5_addFeast 42 = .ok (.ifCond .eq 11, 3) := by decide +kernel
theorem dX5_addFeast_45 : decode cX5_addFeast 45 = .ok (.aload_n 1, 1) := by decide +kernel
theorem dX5_addFeast_46 : decode cX5_addFeast 46 = .ok (.getfield 74, 3) := by decide +kernel
theorem dX5_addFeast_49 : decode cX5_addFeast 49 = .ok (.ineg, 1) := by decide +kernel
theorem dX5_addFeast_50 : decode cX5_addFeast 50 = .ok (.goto 7, 3) := by decide +kernel
theorem dX5_addFeast_53 : decode cX5_addFeast 53 = .ok (.aload_n 1, 1) := by decide +kernel
theorem dX5_addFeast_54 : decode cX5_addFeast 54 = .ok (.getfield 74, 3) := by decide +kernel
theorem dX5_addFeast_57 : decode cX5_addFeast 57 = .ok (.invokevirtual 63, 3) := by decide +kernel
theorem dX5_addFeast_60 : decode cX5_addFeast 60 = .ok (.aload_n 0, 1) := by decide +kernel
theorem dX5_addFeast_61 : decode cX5_addFeast 61 = .ok (.getfield 30, 3) := by decide +kernel
theorem dX5_addFeast_64 : decode cX5_addFeast 64 = .ok (.aload_n 0, 1) := by decide +kernel
theorem dX5_addFeast_65 : decode cX5_addFeast 65 = .ok (.getfield 9, 3) := by decide +kernel
theorem dX5_addFeast_68 : decode cX5_addFeast 68 = .ok (.aload_n 1, 1) := by decide +kernel
theorem dX5_addFeast_69 : decode cX5_addFeast 69 = .ok (.getfield 77, 3) := by decide +kernel
theorem dX5_addFeast_72 : decode cX5_addFeast 72 = .ok (.invokevirtual 63, 3) := by decide +kernel
theorem dX5_addFeast_75 : decode cX5_addFeast 75 = .ok (.aload_n 0, 1) := by decide +kernel
theorem dX5_addFeast_76 : decode cX5_addFeast 76 = .ok (.dup, 1) := by decide +kernel
theorem dX5_addFeast_77 : decode cX5_addFeast 77 = .ok (.getfield 9, 3) := by decide +kernel
theorem dX5_addFeast_80 : decode cX5_addFeast 80 = .ok (.iconst 1, 1) := by decide +kernel
theorem dX5_addFeast_81 : decode cX5_addFeast 81 = .ok (.iadd, 1) := by decide +kernel
theorem dX5_addFeast_82 : decode cX5_addFeast 82 = .ok (.putfield 9, 3) := by decide +kernel
theorem dX5_addFeast_85 : decode cX5_addFeast 85 = .ok (.return_, 1) := by decide +kernel
theorem dX5_addStick_0 : decode cX5_addStick 0 = .ok (.aload_n 0, 1) := by decide +kernel
theorem dX5_addStick_1 : decode cX5_addStick 1 = .ok (.getfield 39, 3) := by decide +kernel
theorem dX5_addStick_4 : decode cX5_addStick 4 = .ok (.iconst 5, 1) := by decide +kernel
theorem dX5_addStick_5 : decode cX5_addStick 5 = .ok (.if_icmp .ge 13, 3) := by decide +kernel
theorem dX5_addStick_8 : decode cX5_addStick 8 = .ok (.aload_n 0, 1) := by decide +kernel
theorem dX5_addStick_9 : decode cX5_addStick 9 = .ok (.dup, 1) := by decide +kernel
theorem dX5_addStick_10 : decode cX5_addStick 10 = .ok (.getfield 39, 3) := by decide +kernel
theorem dX5_addStick_13 : decode cX5_addStick 13 = .ok (.iconst 1, 1) := by decide +kernel
theorem dX5_addStick_14 : decode cX5_addStick 14 = .ok (.iadd, 1) := by decide +kernel
theorem dX5_addStick_15 : decode cX5_addStick 15 = .ok (.putfield 39, 3) := by decide +kernel
theorem dX5_addStick_18 : decode cX5_addStick 18 = .ok (.aload_n 0, 1) := by decide +kernel
theorem dX5_addStick_19 : decode cX5_addStick 19 = .ok (.getfield 39, 3) := by decide +kernel
theorem dX5_addStick_22 : decode cX5_addStick 22 = .ok (.iconst 1, 1) := by decide +kernel
theorem dX5_addStick_23 : decode cX5_addStick 23 = .ok (.isub, 1) := by decide +kernel
theorem dX5_addStick_24 : decode cX5_addStick 24 = .ok (.istore 4, 2) := by decide +kernel
theorem dX5_addStick_26 : decode cX5_addStick 26 = .ok (.iload 4, 2) := by decide +kernel
theorem dX5_addStick_28 : decode cX5_addStick 28 = .ok (.ifCond .le 19, 3) := by decide +kernel
theorem dX5_addStick_31 : decode cX5_addStick 31 = .ok (.aload_n 0, 1) := by decide +kernel
theorem dX5_addStick_32 : decode cX5_addStick 32 = .ok (.iload 4, 2) := by decide +kernel
theorem dX5_addStick_34 : decode cX5_addStick 34 = .ok (.iconst 1, 1) := by decide +kernel
theorem dX5_addStick_35 : decode cX5_addStick 35 = .ok (.isub, 1) := by decide +kernel
theorem dX5_addStick_36 : decode cX5_addStick 36 = .ok (.iload 4, 2) := by decide +kernel
theorem dX5_addStick_38 : decode cX5_addStick 38 = .ok (.invokevirtual 80, 3) := by decide +kernel
theorem dX5_addStick_41 : decode cX5_addStick 41 = .ok (.iinc 4 (-1), 3) := by decide +kernel
theorem dX5_addStick_44 : decode cX5_addStick 44 = .ok (.goto (-18), 3) := by decide +kernel
theorem dX5_addStick_47 : decode cX5_addStick 47 = .ok (.aload_n 0, 1) := by decide +kernel
theorem dX5_addStick_48 : decode cX5_addStick 48 = .ok (.getfield 42, 3) := by decide +kernel
theorem dX5_addStick_51 : decode cX5_addStick 51 = .ok (.iconst 0, 1) := by decide +kernel
theorem dX5_addStick_52 : decode cX5_addStick 52 = .ok (.iload_n 1, 1) := by decide +kernel
theorem dX5_addStick_53 : decode cX5_addStick 53 = .ok (.invokevirtual 63, 3) := by decide +kernel
theorem dX5_addStick_56 : decode cX5_addStick 56 = .ok (.aload_n 0, 1) := by decide +kernel
theorem dX5_addStick_57 : decode cX5_addStick 57 = .ok (.getfield 45, 3) := by decide +kernel
theorem dX5_addStick_60 : decode cX5_addStick 60 = .ok (.iconst 0, 1) := by decide +kernel
theorem dX5_addStick_61 : decode cX5_addStick 61 = .ok (.iload_n 2, 1) := by decide +kernel
theorem dX5_addStick_62 : decode cX5_addStick 62 = .ok (.invokevirtual 63, 3) := by decide +kernel
theorem dX5_addStick_65 : decode cX5_addStick 65 = .ok (.aload_n 0, 1) := by decide +kernel
theorem dX5_addStick_66 : decode cX5_addStick 66 = .ok (.getfield 48, 3) := by decide +kernel
theorem dX5_addStick_69 : decode cX5_addStick 69 = .ok (.iconst 0, 1) := by decide +kernel
theorem dX5_addStick_70 : decode cX5_addStick 70 = .ok (.aload_n 0, 1) := by decide +kernel
theorem dX5_addStick_71 : decode cX5_addStick 71 = .ok (.getfield 9, 3) := by decide +kernel
theorem dX5_addStick_74 : decode cX5_addStick 74 = .ok (.invokevirtual 63, 3) := by decide +kernel
theorem dX5_addStick_77 : decode cX5_addStick 77 = .ok (.iconst 0, 1) := by decide +kernel
theorem dX5_addStick_78 : decode cX5_addStick 78 = .ok (.istore 4, 2) := by decide +kernel
theorem dX5_addStick_80 : decode cX5_addStick 80 = .ok (.iload 4, 2) := by decide +kernel
theorem dX5_addStick_82 : decode cX5_addStick 82 = .ok (.bipush 10, 2) := by decide +kernel
theorem dX5_addStick_84 : decode cX5_addStick 84 = .ok (.if_icmp .ge 24, 3) := by decide +kernel
theorem dX5_addStick_87 : decode cX5_addStick 87 = .ok (.aload_n 0, 1) := by decide +kernel
theorem dX5_addStick_88 : decode cX5_addStick 88 = .ok (.getfield 51, 3) := by decide +kernel
theorem dX5_addStick_91 : decode cX5_addStick 91 = .ok (.iload 4, 2) := by decide +kernel
theorem dX5_addStick_93 : decode cX5_addStick 93 = .ok (.aload_n 3, 1) := by decide +kernel
theorem dX5_addStick_94 : decode cX5_addStick 94 = .ok (.iload 4, 2) := by decide +kernel
theorem dX5_addStick_96 : decode cX5_addStick 96 = .ok (.invokevirtual 83, 3) := by decide +kernel
theorem dX5_addStick_99 : decode cX5_addStick 99 = .ok (.invokevirtual 63, 3) := by decide +kernel
theorem dX5_addStick_102 : decode cX5_addStick 102 = .ok (.iinc 4 1, 3) := by decide +kernel
theorem dX5_addStick_105 : decode cX5_addStick 105 = .ok (.goto (-25), 3) := by decide +kernel
theorem dX5_addStick_108 : decode cX5_addStick 108 = .ok (.return_, 1) := by decide +kernel
theorem dX5_dropStick_0 : decode cX5_dropStick 0 = .ok (.iload_n 1, 1) := by decide +kernel
theorem dX5_dropStick_1 : decode cX5_dropStick 1 = .ok (.istore_n 2, 1) := by decide +kernel
theorem dX5_dropStick_2 : decode cX5_dropStick 2 = .ok (.iload_n 2, 1) := by decide +kernel
theorem dX5_dropStick_3 : decode cX5_dropStick 3 = .ok (.aload_n 0, 1) := by decide +kernel
theorem dX5_dropStick_4 : decode cX5_dropStick 4 = .ok (.getfield 39, 3) := by decide +kernel
theorem dX5_dropStick_7 : decode cX5_dropStick 7 = .ok (.iconst 1, 1) := by decide +kernel
theorem dX5_dropStick_8 : decode cX5_dropStick 8 = .ok (.isub, 1) := by decide +kernel
theorem dX5_dropStick_9 : decode cX5_dropStick 9 = .ok (.if_icmp .ge 17, 3) := by decide +kernel
theorem dX5_dropStick_12 : decode cX5_dropStick 12 = .ok (.aload_n 0, 1) := by decide +kernel
theorem dX5_dropStick_13 : decode cX5_dropStick 13 = .ok (.iload_n 2, 1) := by decide +kernel
theorem dX5_dropStick_14 : decode cX5_dropStick 14 = .ok (.iconst 1, 1) := by decide +kernel
theorem dX5_dropStick_15 : decode cX5_dropStick 15 = .ok (.iadd, 1) := by decide +kernel
theorem dX5_dropStick_16 : decode cX5_dropStick 16 = .ok (.iload_n 2, 1) := by decide +kernel
theorem dX5_dropStick_17 : decode cX5_dropStick 17 = .ok (.invokevirtual 80, 3) := by decide +kernel
theorem dX5_dropStick_20 : decode cX5_dropStick 20 = .ok (.iinc 2 1, 3) := by decide +kernel
theorem dX5_dropStick_23 : decode cX5_dropStick 23 = .ok (.goto (-21), 3) := by decide +kernel
theorem dX5_dropStick_26 : decode cX5_dropStick 26 = .ok (.aload_n 0, 1) := by decide +kernel
theorem dX5_dropStick_27 : decode cX5_dropStick 27 = .ok (.dup, 1) := by decide +kernel
theorem dX5_dropStick_28 : decode cX5_dropStick 28 = .ok (.getfield 39, 3) := by decide +kernel
theorem dX5_dropStick_31 : decode cX5_dropStick 31 = .ok (.iconst 1, 1) := by decide +kernel
theorem dX5_dropStick_32 : decode cX5_dropStick 32 = .ok (.isub, 1) := by decide +kernel
theorem dX5_dropStick_33 : decode cX5_dropStick 33 = .ok (.putfield 39, 3) := by decide +kernel
theorem dX5_dropStick_36 : decode cX5_dropStick 36 = .ok (.return_, 1) := by decide +kernel
theorem dX5_copyStick_0 : decode cX5_copyStick 0 = .ok (.aload_n 0, 1) := by decide +kernel
theorem dX5_copyStick_1 : decode cX5_copyStick 1 = .ok (.getfield 42, 3) := by decide +kernel
theorem dX5_copyStick_4 : decode cX5_copyStick 4 = .ok (.iload_n 2, 1) := by decide +kernel
theorem dX5_copyStick_5 : decode cX5_copyStick 5 = .ok (.aload_n 0, 1) := by decide +kernel
theorem dX5_copyStick_6 : decode cX5_copyStick 6 = .ok (.getfield 42, 3) := by decide +kernel
theorem dX5_copyStick_9 : decode cX5_copyStick 9 = .ok (.iload_n 1, 1) := by decide +kernel
theorem dX5_copyStick_10 : decode cX5_copyStick 10 = .ok (.invokevirtual 83, 3) := by decide +kernel
theorem dX5_copyStick_13 : decode cX5_copyStick 13 = .ok (.invokevirtual 63, 3) := by decide +kernel
theorem dX5_copyStick_16 : decode cX5_copyStick 16 = .ok (.aload_n 0, 1) := by decide +kernel
theorem dX5_copyStick_17 : decode cX5_copyStick 17 = .ok (.getfield 45, 3) := by decide +kernel
theorem dX5_copyStick_20 : decode cX5_copyStick 20 = .ok (.iload_n 2, 1) := by decide +kernel
theorem dX5_copyStick_21 : decode cX5_copyStick 21 = .ok (.aload_n 0, 1) := by decide +kernel
theorem dX5_copyStick_22 : decode cX5_copyStick 22 = .ok (.getfield 45, 3) := by decide +kernel
theorem dX5_copyStick_25 : decode cX5_copyStick 25 = .ok (.iload_n 1, 1) := by decide +kernel
theorem dX5_copyStick_26 : decode cX5_copyStick 26 = .ok (.invokevirtual 83, 3) := by decide +kernel
theorem dX5_copyStick_29 : decode cX5_copyStick 29 = .ok (.invokevirtual 63, 3) := by decide +kernel
theorem dX5_copyStick_32 : decode cX5_copyStick 32 = .ok (.aload_n 0, 1) := by decide +kernel
theorem dX5_copyStick_33 : decode cX5_copyStick 33 = .ok (.getfield 48, 3) := by decide +kernel
theorem dX5_copyStick_36 : decode cX5_copyStick 36 = .ok (.iload_n 2, 1) := by decide +kernel
theorem dX5_copyStick_37 : decode cX5_copyStick 37 = .ok (.aload_n 0, 1) := by decide +kernel
theorem dX5_copyStick_38 : decode cX5_copyStick 38 = .ok (.getfield 48, 3) := by decide +kernel
theorem dX5_copyStick_41 : decode cX5_copyStick 41 = .ok (.iload_n 1, 1) := by decide +kernel
theorem dX5_copyStick_42 : decode cX5_copyStick 42 = .ok (.invokevirtual 83, 3) := by decide +kernel
theorem dX5_copyStick_45 : decode cX5_copyStick 45 = .ok (.invokevirtual 63, 3) := by decide +kernel
theorem dX5_copyStick_48 : decode cX5_copyStick 48 = .ok (.iconst 0, 1) := by decide +kernel
theorem dX5_copyStick_49 : decode cX5_copyStick 49 = .ok (.istore_n 3, 1) := by decide +kernel
theorem dX5_copyStick_50 : decode cX5_copyStick 50 = .ok (.iload_n 3, 1) := by decide +kernel
theorem dX5_copyStick_51 : decode cX5_copyStick 51 = .ok (.bipush 10, 2) := by decide +kernel
theorem dX5_copyStick_53 : decode cX5_copyStick 53 = .ok (.if_icmp .ge 28, 3) := by decide +kernel
theorem dX5_copyStick_56 : decode cX5_copyStick 56 = .ok (.aload_n 0, 1) := by decide +kernel
theorem dX5_copyStick_57 : decode cX5_copyStick 57 = .ok (.getfield 51, 3) := by decide +kernel
theorem dX5_copyStick_60 : decode cX5_copyStick 60 = .ok (.iload_n 2, 1) := by decide +kernel
theorem dX5_copyStick_61 : decode cX5_copyStick 61 = .ok (.bipush 10, 2) := by decide +kernel
theorem dX5_copyStick_63 : decode cX5_copyStick 63 = .ok (.imul, 1) := by decide +kernel
theorem dX5_copyStick_64 : decode cX5_copyStick 64 = .ok (.iload_n 3, 1) := by decide +kernel
theorem dX5_copyStick_65 : decode cX5_copyStick 65 = .ok (.iadd, 1) := by decide +kernel
theorem dX5_copyStick_66 : decode cX5_copyStick 66 = .ok (.aload_n 0, 1) := by decide +kernel
theorem dX5_copyStick_67 : decode cX5_copyStick 67 = .ok (.iload_n 1, 1) := by decide +kernel
theorem dX5_copyStick_68 : decode cX5_copyStick 68 = .ok (.iload_n 3, 1) := by decide +kernel
theorem dX5_copyStick_69 : decode cX5_copyStick 69 = .ok (.invokevirtual 87, 3) := by decide +kernel
theorem dX5_copyStick_72 : decode cX5_copyStick 72 = .ok (.invokevirtual 63, 3) := by decide +kernel
theorem dX5_copyStick_75 : decode cX5_copyStick 75 = .ok (.iinc 3 1, 3) := by decide +kernel
theorem dX5_copyStick_78 : decode cX5_copyStick 78 = .ok (.goto (-28), 3) := by decide +kernel
theorem dX5_copyStick_81 : decode cX5_copyStick 81 = .ok (.return_, 1) := by decide +kernel
theorem dX5_stickNotch_0 : decode cX5_stickNotch 0 = .ok (.aload_n 0, 1) := by decide +kernel
theorem dX5_stickNotch_1 : decode cX5_stickNotch 1 = .ok (.getfield 51, 3) := by decide +kernel
theorem dX5_stickNotch_4 : decode cX5_stickNotch 4 = .ok (.iload_n 1, 1) := by decide +kernel
theorem dX5_stickNotch_5 : decode cX5_stickNotch 5 = .ok (.bipush 10, 2) := by decide +kernel
theorem dX5_stickNotch_7 : decode cX5_stickNotch 7 = .ok (.imul, 1) := by decide +kernel
theorem dX5_stickNotch_8 : decode cX5_stickNotch 8 = .ok (.iload_n 2, 1) := by decide +kernel
theorem dX5_stickNotch_9 : decode cX5_stickNotch 9 = .ok (.iadd, 1) := by decide +kernel
theorem dX5_stickNotch_10 : decode cX5_stickNotch 10 = .ok (.invokevirtual 83, 3) := by decide +kernel
theorem dX5_stickNotch_13 : decode cX5_stickNotch 13 = .ok (.ireturn, 1) := by decide +kernel
theorem dX5_notchesOfStick_0 : decode cX5_notchesOfStick 0 = .ok (.iconst 0, 1) := by decide +kernel
theorem dX5_notchesOfStick_1 : decode cX5_notchesOfStick 1 = .ok (.istore_n 2, 1) := by decide +kernel
theorem dX5_notchesOfStick_2 : decode cX5_notchesOfStick 2 = .ok (.iconst 0, 1) := by decide +kernel
theorem dX5_notchesOfStick_3 : decode cX5_notchesOfStick 3 = .ok (.istore_n 3, 1) := by decide +kernel
theorem dX5_notchesOfStick_4 : decode cX5_notchesOfStick 4 = .ok (.iload_n 3, 1) := by decide +kernel
theorem dX5_notchesOfStick_5 : decode cX5_notchesOfStick 5 = .ok (.bipush 10, 2) := by decide +kernel
theorem dX5_notchesOfStick_7 : decode cX5_notchesOfStick 7 = .ok (.if_icmp .ge 22, 3) := by decide +kernel
theorem dX5_notchesOfStick_10 : decode cX5_notchesOfStick 10 = .ok (.aload_n 0, 1) := by decide +kernel
theorem dX5_notchesOfStick_11 : decode cX5_notchesOfStick 11 = .ok (.iload_n 1, 1) := by decide +kernel
theorem dX5_notchesOfStick_12 : decode cX5_notchesOfStick 12 = .ok (.iload_n 3, 1) := by decide +kernel
theorem dX5_notchesOfStick_13 : decode cX5_notchesOfStick 13 = .ok (.invokevirtual 87, 3) := by decide +kernel
theorem dX5_notchesOfStick_16 : decode cX5_notchesOfStick 16 = .ok (.iconst (-1), 1) := by decide +kernel
theorem dX5_notchesOfStick_17 : decode cX5_notchesOfStick 17 = .ok (.if_icmp .eq 6, 3) := by decide +kernel
theorem dX5_notchesOfStick_20 : decode cX5_notchesOfStick 20 = .ok (.iinc 2 1, 3) := by decide +kernel
theorem dX5_notchesOfStick_23 : decode cX5_notchesOfStick 23 = .ok (.iinc 3 1, 3) := by decide +kernel
theorem dX5_notchesOfStick_26 : decode cX5_notchesOfStick 26 = .ok (.goto (-22), 3) := by decide +kernel
theorem dX5_notchesOfStick_29 : decode cX5_notchesOfStick 29 = .ok (.iload_n 2, 1) := by decide +kernel
theorem dX5_notchesOfStick_30 : decode cX5_notchesOfStick 30 = .ok (.ireturn, 1) := by decide +kernel
theorem dX6_init_0 : decode cX6_init 0 = .ok (.aload_n 0, 1) := by decide +kernel
theorem dX6_init_1 : decode cX6_init 1 = .ok (.invokespecial 3, 3) := by decide +kernel
theorem dX6_init_4 : decode cX6_init 4 = .ok (.aload_n 0, 1) := by decide +kernel
theorem dX6_init_5 : decode cX6_init 5 = .ok (.new 9, 3) := by decide +kernel
theorem dX6_init_8 : decode cX6_init 8 = .ok (.dup, 1) := by decide +kernel
theorem dX6_init_9 : decode cX6_init 9 = .ok (.invokespecial 11, 3) := by decide +kernel
theorem dX6_init_12 : decode cX6_init 12 = .ok (.putfield 12, 3) := by decide +kernel
theorem dX6_init_15 : decode cX6_init 15 = .ok (.aload_n 0, 1) := by decide +kernel
theorem dX6_init_16 : decode cX6_init 16 = .ok (.new 16, 3) := by decide +kernel
theorem dX6_init_19 : decode cX6_init 19 = .ok (.dup, 1) := by decide +kernel
theorem dX6_init_20 : decode cX6_init 20 = .ok (.invokespecial 18, 3) := by decide +kernel
theorem dX6_init_23 : decode cX6_init 23 = .ok (.putfield 19, 3) := by decide +kernel
theorem dX6_init_26 : decode cX6_init 26 = .ok (.aload_n 0, 1) := by decide +kernel
theorem dX6_init_27 : decode cX6_init 27 = .ok (.new 23, 3) := by decide +kernel
theorem dX6_init_30 : decode cX6_init 30 = .ok (.dup, 1) := by decide +kernel
theorem dX6_init_31 : decode cX6_init 31 = .ok (.bipush 60, 2) := by decide +kernel
theorem dX6_init_33 : decode cX6_init 33 = .ok (.invokespecial 25, 3) := by decide +kernel
theorem dX6_init_36 : decode cX6_init 36 = .ok (.putfield 28, 3) := by decide +kernel
theorem dX6_init_39 : decode cX6_init 39 = .ok (.aload_n 0, 1) := by decide +kernel
theorem dX6_init_40 : decode cX6_init 40 = .ok (.new 32, 3) := by decide +kernel
theorem dX6_init_43 : decode cX6_init 43 = .ok (.dup, 1) := by decide +kernel
theorem dX6_init_44 : decode cX6_init 44 = .ok (.invokespecial 34, 3) := by decide +kernel
theorem dX6_init_47 : decode cX6_init 47 = .ok (.putfield 35, 3) := by decide +kernel
theorem dX6_init_50 : decode cX6_init 50 = .ok (.aload_n 0, 1) := by decide +kernel
theorem dX6_init_51 : decode cX6_init 51 = .ok (.new 39, 3) := by decide +kernel
theorem dX6_init_54 : decode cX6_init 54 = .ok (.dup, 1) := by decide +kernel
theorem dX6_init_55 : decode cX6_init 55 = .ok (.invokespecial 41, 3) := by decide +kernel
theorem dX6_init_58 : decode cX6_init 58 = .ok (.putfield 42, 3) := by decide +kernel
theorem dX6_init_61 : decode cX6_init 61 = .ok (.aload_n 0, 1) := by decide +kernel
theorem dX6_init_62 : decode cX6_init 62 = .ok (.new 46, 3) := by decide +kernel
theorem dX6_init_65 : decode cX6_init 65 = .ok (.dup, 1) := by decide +kernel
theorem dX6_init_66 : decode cX6_init 66 = .ok (.invokespecial 48, 3) := by decide +kernel
theorem dX6_init_69 : decode cX6_init 69 = .ok (.putfield 49, 3) := by decide +kernel
theorem dX6_init_72 : decode cX6_init 72 = .ok (.aload_n 0, 1) := by decide +kernel
theorem dX6_init_73 : decode cX6_init 73 = .ok (.new 46, 3) := by decide +kernel
theorem dX6_init_76 : decode cX6_init 76 = .ok (.dup, 1) := by decide +kernel
theorem dX6_init_77 : decode cX6_init 77 = .ok (.invokespecial 48, 3) := by decide +kernel
theorem dX6_init_80 : decode cX6_init 80 = .ok (.putfield 53, 3) := by decide +kernel
theorem dX6_init_83 : decode cX6_init 83 = .ok (.aload_n 0, 1) := by decide +kernel
theorem dX6_init_84 : decode cX6_init 84 = .ok (.getstatic 56, 3) := by decide +kernel
theorem dX6_init_87 : decode cX6_init 87 = .ok (.arraylength, 1) := by decide +kernel
theorem dX6_init_88 : decode cX6_init 88 = .ok (.anewarray 46, 3) := by decide +kernel
theorem dX6_init_91 : decode cX6_init 91 = .ok (.putfield 60, 3) := by decide +kernel
theorem dX6_init_94 : decode cX6_init 94 = .ok (.aload_n 0, 1) := by decide +kernel
theorem dX6_init_95 : decode cX6_init 95 = .ok (.iconst 0, 1) := by decide +kernel
theorem dX6_init_96 : decode cX6_init 96 = .ok (.putfield 64, 3) := by decide +kernel
theorem dX6_init_99 : decode cX6_init 99 = .ok (.iconst 0, 1) := by decide +kernel
theorem dX6_init_100 : decode cX6_init 100 = .ok (.istore_n 1, 1) := by decide +kernel
theorem dX6_init_101 : decode cX6_init 101 = .ok (.iload_n 1, 1) := by decide +kernel
theorem dX6_init_102 : decode cX6_init 102 = .ok (.aload_n 0, 1) := by decide +kernel
theorem dX6_init_103 : decode cX6_init 103 = .ok (.getfield 60, 3) := by decide +kernel
theorem dX6_init_106 : decode cX6_init 106 = .ok (.arraylength, 1) := by decide +kernel
theorem dX6_init_107 : decode cX6_init 107 = .ok (.if_icmp .ge 22, 3) := by decide +kernel
theorem dX6_init_110 : decode cX6_init 110 = .ok (.aload_n 0, 1) := by decide +kernel
theorem dX6_init_111 : decode cX6_init 111 = .ok (.getfield 60, 3) := by decide +kernel
theorem dX6_init_114 : decode cX6_init 114 = .ok (.iload_n 1, 1) := by decide +kernel
theorem dX6_init_115 : decode cX6_init 115 = .ok (.new 46, 3) := by decide +kernel
theorem dX6_init_118 : decode cX6_init 118 = .ok (.dup, 1) := by decide +kernel
theorem dX6_init_119 : decode cX6_init 119 = .ok (.invokespecial 48, 3) := by decide +kernel
theorem dX6_init_122 : decode cX6_init 122 = .ok (.aastore, 1) := by decide +kernel
theorem dX6_init_123 : decode cX6_init 123 = .ok (.iinc 1 1, 3) := by decide +kernel
theorem dX6_init_126 : decode cX6_init 126 = .ok (.goto (-25), 3) := by decide +kernel
theorem dX6_init_129 : decode cX6_init 129 = .ok (.return_, 1) := by decide +kernel
theorem dX6_proclaim_0 : decode cX6_proclaim 0 = .ok (.aload_n 0, 1) := by decide +kernel
theorem dX6_proclaim_1 : decode cX6_proclaim 1 = .ok (.invokevirtual 68, 3) := by decide +kernel
theorem dX6_proclaim_4 : decode cX6_proclaim 4 = .ok (.ifCond .ne 13, 3) := by decide +kernel
theorem dX6_proclaim_7 : decode cX6_proclaim 7 = .ok (.new 72, 3) := by decide +kernel
theorem dX6_proclaim_10 : decode cX6_proclaim 10 = .ok (.dup, 1) := by decide +kernel
theorem dX6_proclaim_11 : decode cX6_proclaim 11 = .ok (.ldc 74, 2) := by decide +kernel
theorem dX6_proclaim_13 : decode cX6_proclaim 13 = .ok (.invokespecial 76, 3) := by decide +kernel
theorem dX6_proclaim_16 : decode cX6_proclaim 16 = .ok (.athrow, 1) := by decide +kernel
theorem dX6_proclaim_17 : decode cX6_proclaim 17 = .ok (.aload_n 0, 1) := by decide +kernel
theorem dX6_proclaim_18 : decode cX6_proclaim 18 = .ok (.getfield 19, 3) := by decide +kernel
theorem dX6_proclaim_21 : decode cX6_proclaim 21 = .ok (.aload_n 0, 1) := by decide +kernel
theorem dX6_proclaim_22 : decode cX6_proclaim 22 = .ok (.getfield 12, 3) := by decide +kernel
theorem dX6_proclaim_25 : decode cX6_proclaim 25 = .ok (.invokevirtual 79, 3) := by decide +kernel
theorem dX6_proclaim_28 : decode cX6_proclaim 28 = .ok (.aload_n 0, 1) := by decide +kernel
theorem dX6_proclaim_29 : decode cX6_proclaim 29 = .ok (.invokevirtual 83, 3) := by decide +kernel
theorem dX6_proclaim_32 : decode cX6_proclaim 32 = .ok (.istore_n 1, 1) := by decide +kernel
theorem dX6_proclaim_33 : decode cX6_proclaim 33 = .ok (.aload_n 0, 1) := by decide +kernel
theorem dX6_proclaim_34 : decode cX6_proclaim 34 = .ok (.iconst 0, 1) := by decide +kernel
theorem dX6_proclaim_35 : decode cX6_proclaim 35 = .ok (.putfield 64, 3) := by decide +kernel
theorem dX6_proclaim_38 : decode cX6_proclaim 38 = .ok (.iload_n 1, 1) := by decide +kernel
theorem dX6_proclaim_39 : decode cX6_proclaim 39 = .ok (.ireturn, 1) := by decide +kernel
theorem dX6_forget_0 : decode cX6_forget 0 = .ok (.aload_n 0, 1) := by decide +kernel
theorem dX6_forget_1 : decode cX6_forget 1 = .ok (.getfield 12, 3) := by decide +kernel
theorem dX6_forget_4 : decode cX6_forget 4 = .ok (.getfield 87, 3) := by decide +kernel
theorem dX6_forget_7 : decode cX6_forget 7 = .ok (.ifCond .gt 13, 3) := by decide +kernel
theorem dX6_forget_10 : decode cX6_forget 10 = .ok (.new 90, 3) := by decide +kernel
theorem dX6_forget_13 : decode cX6_forget 13 = .ok (.dup, 1) := by decide +kernel
theorem dX6_forget_14 : decode cX6_forget 14 = .ok (.ldc 92, 2) := by decide +kernel
theorem dX6_forget_16 : decode cX6_forget 16 = .ok (.invokespecial 94, 3) := by decide +kernel
theorem dX6_forget_19 : decode cX6_forget 19 = .ok (.athrow, 1) := by decide +kernel
theorem dX6_forget_20 : decode cX6_forget 20 = .ok (.aload_n 0, 1) := by decide +kernel
theorem dX6_forget_21 : decode cX6_forget 21 = .ok (.getfield 19, 3) := by decide +kernel
theorem dX6_forget_24 : decode cX6_forget 24 = .ok (.aload_n 0, 1) := by decide +kernel
theorem dX6_forget_25 : decode cX6_forget 25 = .ok (.getfield 12, 3) := by decide +kernel
theorem dX6_forget_28 : decode cX6_forget 28 = .ok (.invokevirtual 79, 3) := by decide +kernel
theorem dX6_forget_31 : decode cX6_forget 31 = .ok (.aload_n 0, 1) := by decide +kernel
theorem dX6_forget_32 : decode cX6_forget 32 = .ok (.getfield 12, 3) := by decide +kernel
theorem dX6_forget_35 : decode cX6_forget 35 = .ok (.dup, 1) := by decide +kernel
theorem dX6_forget_36 : decode cX6_forget 36 = .ok (.getfield 87, 3) := by decide +kernel
theorem dX6_forget_39 : decode cX6_forget 39 = .ok (.iconst 1, 1) := by decide +kernel
theorem dX6_forget_40 : decode cX6_forget 40 = .ok (.isub, 1) := by decide +kernel
theorem dX6_forget_41 : decode cX6_forget 41 = .ok (.putfield 87, 3) := by decide +kernel
theorem dX6_forget_44 : decode cX6_forget 44 = .ok (.aload_n 0, 1) := by decide +kernel
theorem dX6_forget_45 : decode cX6_forget 45 = .ok (.getfield 12, 3) := by decide +kernel
theorem dX6_forget_48 : decode cX6_forget 48 = .ok (.getfield 87, 3) := by decide +kernel
theorem dX6_forget_51 : decode cX6_forget 51 = .ok (.ireturn, 1) := by decide +kernel
theorem dX6_rank_0 : decode cX6_rank 0 = .ok (.aload_n 0, 1) := by decide +kernel
theorem dX6_rank_1 : decode cX6_rank 1 = .ok (.iload_n 1, 1) := by decide +kernel
theorem dX6_rank_2 : decode cX6_rank 2 = .ok (.invokevirtual 95, 3) := by decide +kernel
theorem dX6_rank_5 : decode cX6_rank 5 = .ok (.iload_n 2, 1) := by decide +kernel
theorem dX6_rank_6 : decode cX6_rank 6 = .ok (.iconst 0, 1) := by decide +kernel
theorem dX6_rank_7 : decode cX6_rank 7 = .ok (.bipush 9, 2) := by decide +kernel
theorem dX6_rank_9 : decode cX6_rank 9 = .ok (.invokestatic 98, 3) := by decide +kernel
theorem dX6_rank_12 : decode cX6_rank 12 = .ok (.aload_n 0, 1) := by decide +kernel
theorem dX6_rank_13 : decode cX6_rank 13 = .ok (.getfield 19, 3) := by decide +kernel
theorem dX6_rank_16 : decode cX6_rank 16 = .ok (.aload_n 0, 1) := by decide +kernel
theorem dX6_rank_17 : decode cX6_rank 17 = .ok (.getfield 12, 3) := by decide +kernel
theorem dX6_rank_20 : decode cX6_rank 20 = .ok (.invokevirtual 79, 3) := by decide +kernel
theorem dX6_rank_23 : decode cX6_rank 23 = .ok (.aload_n 0, 1) := by decide +kernel
theorem dX6_rank_24 : decode cX6_rank 24 = .ok (.getfield 12, 3) := by decide +kernel
theorem dX6_rank_27 : decode cX6_rank 27 = .ok (.getfield 102, 3) := by decide +kernel
theorem dX6_rank_30 : decode cX6_rank 30 = .ok (.iload_n 1, 1) := by decide +kernel
theorem dX6_rank_31 : decode cX6_rank 31 = .ok (.invokevirtual 105, 3) := by decide +kernel
theorem dX6_rank_34 : decode cX6_rank 34 = .ok (.istore_n 3, 1) := by decide +kernel
theorem dX6_rank_35 : decode cX6_rank 35 = .ok (.aload_n 0, 1) := by decide +kernel
theorem dX6_rank_36 : decode cX6_rank 36 = .ok (.getfield 12, 3) := by decide +kernel
theorem dX6_rank_39 : decode cX6_rank 39 = .ok (.getfield 102, 3) := by decide +kernel
theorem dX6_rank_42 : decode cX6_rank 42 = .ok (.iload_n 1, 1) := by decide +kernel
theorem dX6_rank_43 : decode cX6_rank 43 = .ok (.iload_n 2, 1) := by decide +kernel
theorem dX6_rank_44 : decode cX6_rank 44 = .ok (.invokevirtual 109, 3) := by decide +kernel
theorem dX6_rank_47 : decode cX6_rank 47 = .ok (.iload_n 3, 1) := by decide +kernel
theorem dX6_rank_48 : decode cX6_rank 48 = .ok (.ireturn, 1) := by decide +kernel
theorem dX6_teach_0 : decode cX6_teach 0 = .ok (.iload_n 1, 1) := by decide +kernel
theorem dX6_teach_1 : decode cX6_teach 1 = .ok (.invokestatic 113, 3) := by decide +kernel
theorem dX6_teach_4 : decode cX6_teach 4 = .ok (.iload_n 2, 1) := by decide +kernel
theorem dX6_teach_5 : decode cX6_teach 5 = .ok (.bipush (-5), 2) := by decide +kernel
theorem dX6_teach_7 : decode cX6_teach 7 = .ok (.iconst 5, 1) := by decide +kernel
theorem dX6_teach_8 : decode cX6_teach 8 = .ok (.invokestatic 98, 3) := by decide +kernel
theorem dX6_teach_11 : decode cX6_teach 11 = .ok (.aload_n 0, 1) := by decide +kernel
theorem dX6_teach_12 : decode cX6_teach 12 = .ok (.getfield 19, 3) := by decide +kernel
theorem dX6_teach_15 : decode cX6_teach 15 = .ok (.aload_n 0, 1) := by decide +kernel
theorem dX6_teach_16 : decode cX6_teach 16 = .ok (.getfield 12, 3) := by decide +kernel
theorem dX6_teach_19 : decode cX6_teach 19 = .ok (.invokevirtual 79, 3) := by decide +kernel
theorem dX6_teach_22 : decode cX6_teach 22 = .ok (.aload_n 0, 1) := by decide +kernel
theorem dX6_teach_23 : decode cX6_teach 23 = .ok (.getfield 12, 3) := by decide +kernel
theorem dX6_teach_26 : decode cX6_teach 26 = .ok (.getfield 116, 3) := by decide +kernel
theorem dX6_teach_29 : decode cX6_teach 29 = .ok (.iload_n 1, 1) := by decide +kernel
theorem dX6_teach_30 : decode cX6_teach 30 = .ok (.invokevirtual 105, 3) := by decide +kernel
theorem dX6_teach_33 : decode cX6_teach 33 = .ok (.istore_n 3, 1) := by decide +kernel
theorem dX6_teach_34 : decode cX6_teach 34 = .ok (.aload_n 0, 1) := by decide +kernel
theorem dX6_teach_35 : decode cX6_teach 35 = .ok (.getfield 12, 3) := by decide +kernel
theorem dX6_teach_38 : decode cX6_teach 38 = .ok (.getfield 116, 3) := by decide +kernel
theorem dX6_teach_41 : decode cX6_teach 41 = .ok (.iload_n 1, 1) := by decide +kernel
theorem dX6_teach_42 : decode cX6_teach 42 = .ok (.iload_n 2, 1) := by decide +kernel
theorem dX6_teach_43 : decode cX6_teach 43 = .ok (.invokevirtual 109, 3) := by decide +kernel
theorem dX6_teach_46 : decode cX6_teach 46 = .ok (.iload_n 3, 1) := by decide +kernel
theorem dX6_teach_47 : decode cX6_teach 47 = .ok (.iconst 5, 1) := by decide +kernel
theorem dX6_teach_48 : decode cX6_teach 48 = .ok (.iadd, 1) := by decide +kernel
theorem dX6_teach_49 : decode cX6_teach 49 = .ok (.ireturn, 1) := by decide +kernel
theorem dX6_carve_0 : decode cX6_carve 0 = .ok (.iload_n 1, 1) := by decide +kernel
theorem dX6_carve_1 : decode cX6_carve 1 = .ok (.invokestatic 119, 3) := by decide +kernel
theorem dX6_carve_4 : decode cX6_carve 4 = .ok (.iload_n 2, 1) := by decide +kernel
theorem dX6_carve_5 : decode cX6_carve 5 = .ok (.invokestatic 113, 3) := by decide +kernel
theorem dX6_carve_8 : decode cX6_carve 8 = .ok (.aload_n 0, 1) := by decide +kernel
theorem dX6_carve_9 : decode cX6_carve 9 = .ok (.getfield 19, 3) := by decide +kernel
theorem dX6_carve_12 : decode cX6_carve 12 = .ok (.aload_n 0, 1) := by decide +kernel
theorem dX6_carve_13 : decode cX6_carve 13 = .ok (.getfield 12, 3) := by decide +kernel
theorem dX6_carve_16 : decode cX6_carve 16 = .ok (.invokevirtual 79, 3) := by decide +kernel
theorem dX6_carve_19 : decode cX6_carve 19 = .ok (.aload_n 0, 1) := by decide +kernel
theorem dX6_carve_20 : decode cX6_carve 20 = .ok (.getfield 42, 3) := by decide +kernel
theorem dX6_carve_23 : decode cX6_carve 23 = .ok (.aload_n 0, 1) := by decide +kernel
theorem dX6_carve_24 : decode cX6_carve 24 = .ok (.getfield 12, 3) := by decide +kernel
theorem dX6_carve_27 : decode cX6_carve 27 = .ok (.iload_n 1, 1) := by decide +kernel
theorem dX6_carve_28 : decode cX6_carve 28 = .ok (.aload_n 0, 1) := by decide +kernel
theorem dX6_carve_29 : decode cX6_carve 29 = .ok (.getfield 12, 3) := by decide +kernel
theorem dX6_carve_32 : decode cX6_carve 32 = .ok (.getfield 116, 3) := by decide +kernel
theorem dX6_carve_35 : decode cX6_carve 35 = .ok (.iload_n 2, 1) := by decide +kernel
theorem dX6_carve_36 : decode cX6_carve 36 = .ok (.invokevirtual 105, 3) := by decide +kernel
theorem dX6_carve_39 : decode cX6_carve 39 = .ok (.invokevirtual 122, 3) := by decide +kernel
theorem dX6_carve_42 : decode cX6_carve 42 = .ok (.aload_n 0, 1) := by decide +kernel
theorem dX6_carve_43 : decode cX6_carve 43 = .ok (.getfield 12, 3) := by decide +kernel
theorem dX6_carve_46 : decode cX6_carve 46 = .ok (.iload_n 1, 1) := by decide +kernel
theorem dX6_carve_47 : decode cX6_carve 47 = .ok (.iload_n 2, 1) := by decide +kernel
theorem dX6_carve_48 : decode cX6_carve 48 = .ok (.aload_n 0, 1) := by decide +kernel
theorem dX6_carve_49 : decode cX6_carve 49 = .ok (.getfield 42, 3) := by decide +kernel
theorem dX6_carve_52 : decode cX6_carve 52 = .ok (.getfield 126, 3) := by decide +kernel
theorem dX6_carve_55 : decode cX6_carve 55 = .ok (.invokevirtual 129, 3) := by decide +kernel
theorem dX6_carve_58 : decode cX6_carve 58 = .ok (.aload_n 0, 1) := by decide +kernel
theorem dX6_carve_59 : decode cX6_carve 59 = .ok (.getfield 12, 3) := by decide +kernel
theorem dX6_carve_62 : decode cX6_carve 62 = .ok (.iconst 0, 1) := by decide +kernel
theorem dX6_carve_63 : decode cX6_carve 63 = .ok (.invokevirtual 133, 3) := by decide +kernel
theorem dX6_carve_66 : decode cX6_carve 66 = .ok (.ireturn, 1) := by decide +kernel
theorem dX6_burn_0 : decode cX6_burn 0 = .ok (.aload_n 0, 1) := by decide +kernel
theorem dX6_burn_1 : decode cX6_burn 1 = .ok (.iload_n 1, 1) := by decide +kernel
theorem dX6_burn_2 : decode cX6_burn 2 = .ok (.invokevirtual 136, 3) := by decide +kernel
theorem dX6_burn_5 : decode cX6_burn 5 = .ok (.aload_n 0, 1) := by decide +kernel
theorem dX6_burn_6 : decode cX6_burn 6 = .ok (.getfield 19, 3) := by decide +kernel
theorem dX6_burn_9 : decode cX6_burn 9 = .ok (.aload_n 0, 1) := by decide +kernel
theorem dX6_burn_10 : decode cX6_burn 10 = .ok (.getfield 12, 3) := by decide +kernel
theorem dX6_burn_13 : decode cX6_burn 13 = .ok (.invokevirtual 79, 3) := by decide +kernel
theorem dX6_burn_16 : decode cX6_burn 16 = .ok (.aload_n 0, 1) := by decide +kernel
theorem dX6_burn_17 : decode cX6_burn 17 = .ok (.getfield 12, 3) := by decide +kernel
theorem dX6_burn_20 : decode cX6_burn 20 = .ok (.getfield 139, 3) := by decide +kernel
theorem dX6_burn_23 : decode cX6_burn 23 = .ok (.iload_n 1, 1) := by decide +kernel
theorem dX6_burn_24 : decode cX6_burn 24 = .ok (.invokevirtual 105, 3) := by decide +kernel
theorem dX6_burn_27 : decode cX6_burn 27 = .ok (.istore_n 2, 1) := by decide +kernel
theorem dX6_burn_28 : decode cX6_burn 28 = .ok (.aload_n 0, 1) := by decide +kernel
theorem dX6_burn_29 : decode cX6_burn 29 = .ok (.getfield 12, 3) := by decide +kernel
theorem dX6_burn_32 : decode cX6_burn 32 = .ok (.iload_n 1, 1) := by decide +kernel
theorem dX6_burn_33 : decode cX6_burn 33 = .ok (.invokevirtual 142, 3) := by decide +kernel
theorem dX6_burn_36 : decode cX6_burn 36 = .ok (.iload_n 2, 1) := by decide +kernel
theorem dX6_burn_37 : decode cX6_burn 37 = .ok (.ireturn, 1) := by decide +kernel
theorem dX6_set_0 : decode cX6_set 0 = .ok (.iload_n 1, 1) := by decide +kernel
theorem dX6_set_1 : decode cX6_set 1 = .ok (.bipush 50, 2) := by decide +kernel
theorem dX6_set_3 : decode cX6_set 3 = .ok (.sipush 400, 3) := by decide +kernel
theorem dX6_set_6 : decode cX6_set 6 = .ok (.invokestatic 98, 3) := by decide +kernel
theorem dX6_set_9 : decode cX6_set 9 = .ok (.aload_n 0, 1) := by decide +kernel
theorem dX6_set_10 : decode cX6_set 10 = .ok (.getfield 19, 3) := by decide +kernel
theorem dX6_set_13 : decode cX6_set 13 = .ok (.aload_n 0, 1) := by decide +kernel
theorem dX6_set_14 : decode cX6_set 14 = .ok (.getfield 12, 3) := by decide +kernel
theorem dX6_set_17 : decode cX6_set 17 = .ok (.invokevirtual 79, 3) := by decide +kernel
theorem dX6_set_20 : decode cX6_set 20 = .ok (.aload_n 0, 1) := by decide +kernel
theorem dX6_set_21 : decode cX6_set 21 = .ok (.getfield 12, 3) := by decide +kernel
theorem dX6_set_24 : decode cX6_set 24 = .ok (.getfield 145, 3) := by decide +kernel
theorem dX6_set_27 : decode cX6_set 27 = .ok (.istore_n 2, 1) := by decide +kernel
theorem dX6_set_28 : decode cX6_set 28 = .ok (.aload_n 0, 1) := by decide +kernel
theorem dX6_set_29 : decode cX6_set 29 = .ok (.getfield 12, 3) := by decide +kernel
theorem dX6_set_32 : decode cX6_set 32 = .ok (.iload_n 1, 1) := by decide +kernel
theorem dX6_set_33 : decode cX6_set 33 = .ok (.putfield 145, 3) := by decide +kernel
theorem dX6_set_36 : decode cX6_set 36 = .ok (.iload_n 2, 1) := by decide +kernel
theorem dX6_set_37 : decode cX6_set 37 = .ok (.ireturn, 1) := by decide +kernel
theorem dX6_append_0 : decode cX6_append 0 = .ok (.iload_n 1, 1) := by decide +kernel
theorem dX6_append_1 : decode cX6_append 1 = .ok (.bipush 33, 2) := by decide +kernel
theorem dX6_append_3 : decode cX6_append 3 = .ok (.bipush 126, 2) := by decide +kernel
theorem dX6_append_5 : decode cX6_append 5 = .ok (.invokestatic 98, 3) := by decide +kernel
theorem dX6_append_8 : decode cX6_append 8 = .ok (.aload_n 0, 1) := by decide +kernel
theorem dX6_append_9 : decode cX6_append 9 = .ok (.getfield 64, 3) := by decide +kernel
theorem dX6_append_12 : decode cX6_append 12 = .ok (.bipush 60, 2) := by decide +kernel
theorem dX6_append_14 : decode cX6_append 14 = .ok (.if_icmp .lt 13, 3) := by decide +kernel
theorem dX6_append_17 : decode cX6_append 17 = .ok (.new 90, 3) := by decide +kernel
theorem dX6_append_20 : decode cX6_append 20 = .ok (.dup, 1) := by decide +kernel
theorem dX6_append_21 : decode cX6_append 21 = .ok (.ldc 148, 2) := by decide +kernel
theorem dX6_append_23 : decode cX6_append 23 = .ok (.invokespecial 94, 3) := by decide +kernel
theorem dX6_append_26 : decode cX6_append 26 = .ok (.athrow, 1) := by decide +kernel
theorem dX6_append_27 : decode cX6_append 27 = .ok (.aload_n 0, 1) := by decide +kernel
theorem dX6_append_28 : decode cX6_append 28 = .ok (.getfield 28, 3) := by decide +kernel
theorem dX6_append_31 : decode cX6_append 31 = .ok (.aload_n 0, 1) := by decide +kernel
theorem dX6_append_32 : decode cX6_append 32 = .ok (.getfield 64, 3) := by decide +kernel
theorem dX6_append_35 : decode cX6_append 35 = .ok (.iload_n 1, 1) := by decide +kernel
theorem dX6_append_36 : decode cX6_append 36 = .ok (.invokevirtual 109, 3) := by decide +kernel
theorem dX6_append_39 : decode cX6_append 39 = .ok (.aload_n 0, 1) := by decide +kernel
theorem dX6_append_40 : decode cX6_append 40 = .ok (.dup, 1) := by decide +kernel
theorem dX6_append_41 : decode cX6_append 41 = .ok (.getfield 64, 3) := by decide +kernel
theorem dX6_append_44 : decode cX6_append 44 = .ok (.iconst 1, 1) := by decide +kernel
theorem dX6_append_45 : decode cX6_append 45 = .ok (.iadd, 1) := by decide +kernel
theorem dX6_append_46 : decode cX6_append 46 = .ok (.putfield 64, 3) := by decide +kernel
theorem dX6_append_49 : decode cX6_append 49 = .ok (.aload_n 0, 1) := by decide +kernel
theorem dX6_append_50 : decode cX6_append 50 = .ok (.getfield 64, 3) := by decide +kernel
theorem dX6_append_53 : decode cX6_append 53 = .ok (.ireturn, 1) := by decide +kernel
theorem dX6_clearBuffer_0 : decode cX6_clearBuffer 0 = .ok (.aload_n 0, 1) := by decide +kernel
theorem dX6_clearBuffer_1 : decode cX6_clearBuffer 1 = .ok (.getfield 64, 3) := by decide +kernel
theorem dX6_clearBuffer_4 : decode cX6_clearBuffer 4 = .ok (.istore_n 1, 1) := by decide +kernel
theorem dX6_clearBuffer_5 : decode cX6_clearBuffer 5 = .ok (.aload_n 0, 1) := by decide +kernel
theorem dX6_clearBuffer_6 : decode cX6_clearBuffer 6 = .ok (.iconst 0, 1) := by decide +kernel
theorem dX6_clearBuffer_7 : decode cX6_clearBuffer 7 = .ok (.putfield 64, 3) := by decide +kernel
theorem dX6_clearBuffer_10 : decode cX6_clearBuffer 10 = .ok (.iload_n 1, 1) := by decide +kernel
theorem dX6_clearBuffer_11 : decode cX6_clearBuffer 11 = .ok (.ireturn, 1) := by decide +kernel
theorem dX6_firstError_0 : decode cX6_firstError 0 = .ok (.aload_n 0, 1) := by decide +kernel
theorem dX6_firstError_1 : decode cX6_firstError 1 = .ok (.invokevirtual 150, 3) := by decide +kernel
theorem dX6_firstError_4 : decode cX6_firstError 4 = .ok (.ireturn, 1) := by decide +kernel
theorem dX6_undo_0 : decode cX6_undo 0 = .ok (.aload_n 0, 1) := by decide +kernel
theorem dX6_undo_1 : decode cX6_undo 1 = .ok (.getfield 19, 3) := by decide +kernel
theorem dX6_undo_4 : decode cX6_undo 4 = .ok (.invokevirtual 153, 3) := by decide +kernel
theorem dX6_undo_7 : decode cX6_undo 7 = .ok (.ifCond .eq 13, 3) := by decide +kernel
theorem dX6_undo_10 : decode cX6_undo 10 = .ok (.new 90, 3) := by decide +kernel
theorem dX6_undo_13 : decode cX6_undo 13 = .ok (.dup, 1) := by decide +kernel
theorem dX6_undo_14 : decode cX6_undo 14 = .ok (.ldc 156, 2) := by decide +kernel
theorem dX6_undo_16 : decode cX6_undo 16 = .ok (.invokespecial 94, 3) := by decide +kernel
theorem dX6_undo_19 : decode cX6_undo 19 = .ok (.athrow, 1) := by decide +kernel
theorem dX6_undo_20 : decode cX6_undo 20 = .ok (.aload_n 0, 1) := by decide +kernel
theorem dX6_undo_21 : decode cX6_undo 21 = .ok (.getfield 19, 3) := by decide +kernel
theorem dX6_undo_24 : decode cX6_undo 24 = .ok (.aload_n 0, 1) := by decide +kernel
theorem dX6_undo_25 : decode cX6_undo 25 = .ok (.getfield 12, 3) := by decide +kernel
theorem dX6_undo_28 : decode cX6_undo 28 = .ok (.invokevirtual 158, 3) := by decide +kernel
theorem dX6_undo_31 : decode cX6_undo 31 = .ok (.aload_n 0, 1) := by decide +kernel
theorem dX6_undo_32 : decode cX6_undo 32 = .ok (.getfield 19, 3) := by decide +kernel
theorem dX6_undo_35 : decode cX6_undo 35 = .ok (.invokevirtual 161, 3) := by decide +kernel
theorem dX6_undo_38 : decode cX6_undo 38 = .ok (.ireturn, 1) := by decide +kernel
theorem dX6_day_0 : decode cX6_day 0 = .ok (.iload_n 1, 1) := by decide +kernel
theorem dX6_day_1 : decode cX6_day 1 = .ok (.invokestatic 119, 3) := by decide +kernel
theorem dX6_day_4 : decode cX6_day 4 = .ok (.iload_n 2, 1) := by decide +kernel
theorem dX6_day_5 : decode cX6_day 5 = .ok (.iconst 0, 1) := by decide +kernel
theorem dX6_day_6 : decode cX6_day 6 = .ok (.sipush 365, 3) := by decide +kernel
theorem dX6_day_9 : decode cX6_day 9 = .ok (.invokestatic 98, 3) := by decide +kernel
theorem dX6_day_12 : decode cX6_day 12 = .ok (.iload_n 3, 1) := by decide +kernel
theorem dX6_day_13 : decode cX6_day 13 = .ok (.iconst 0, 1) := by decide +kernel
theorem dX6_day_14 : decode cX6_day 14 = .ok (.iconst 2, 1) := by decide +kernel
theorem dX6_day_15 : decode cX6_day 15 = .ok (.invokestatic 98, 3) := by decide +kernel
theorem dX6_day_18 : decode cX6_day 18 = .ok (.iload_n 2, 1) := by decide +kernel
theorem dX6_day_19 : decode cX6_day 19 = .ok (.iload_n 1, 1) := by decide +kernel
theorem dX6_day_20 : decode cX6_day 20 = .ok (.invokestatic 164, 3) := by decide +kernel
theorem dX6_day_23 : decode cX6_day 23 = .ok (.if_icmp .lt 5, 3) := by decide +kernel
theorem dX6_day_26 : decode cX6_day 26 = .ok (.iconst (-1), 1) := by decide +kernel
theorem dX6_day_27 : decode cX6_day 27 = .ok (.ireturn, 1) := by decide +kernel
theorem dX6_day_28 : decode cX6_day 28 = .ok (.iload_n 3, 1) := by decide +kernel
theorem dX6_day_29 : decode cX6_day 29 = .ok (.lookupswitch 64 #[(0, 27), (1, 37)], 27) := by decide +kernel
theorem dX6_day_56 : decode cX6_day 56 = .ok (.iload_n 1, 1) := by decide +kernel
theorem dX6_day_57 : decode cX6_day 57 = .ok (.invokestatic 167, 3) := by decide +kernel
theorem dX6_day_60 : decode cX6_day 60 = .ok (.iload_n 2, 1) := by decide +kernel
theorem dX6_day_61 : decode cX6_day 61 = .ok (.iadd, 1) := by decide +kernel
theorem dX6_day_62 : decode cX6_day 62 = .ok (.bipush 7, 2) := by decide +kernel
theorem dX6_day_64 : decode cX6_day 64 = .ok (.irem, 1) := by decide +kernel
theorem dX6_day_65 : decode cX6_day 65 = .ok (.ireturn, 1) := by decide +kernel
theorem dX6_day_66 : decode cX6_day 66 = .ok (.iload_n 1, 1) := by decide +kernel
theorem dX6_day_67 : decode cX6_day 67 = .ok (.aload_n 0, 1) := by decide +kernel
theorem dX6_day_68 : decode cX6_day 68 = .ok (.getfield 12, 3) := by decide +kernel
theorem dX6_day_71 : decode cX6_day 71 = .ok (.getfield 116, 3) := by decide +kernel
theorem dX6_day_74 : decode cX6_day 74 = .ok (.iconst 0, 1) := by decide +kernel
theorem dX6_day_75 : decode cX6_day 75 = .ok (.invokevirtual 105, 3) := by decide +kernel
theorem dX6_day_78 : decode cX6_day 78 = .ok (.aload_n 0, 1) := by decide +kernel
theorem dX6_day_79 : decode cX6_day 79 = .ok (.getfield 12, 3) := by decide +kernel
theorem dX6_day_82 : decode cX6_day 82 = .ok (.getfield 145, 3) := by decide +kernel
theorem dX6_day_85 : decode cX6_day 85 = .ok (.invokestatic 170, 3) := by decide +kernel
theorem dX6_day_88 : decode cX6_day 88 = .ok (.iload_n 2, 1) := by decide +kernel
theorem dX6_day_89 : decode cX6_day 89 = .ok (.invokestatic 174, 3) := by decide +kernel
theorem dX6_day_92 : decode cX6_day 92 = .ok (.ireturn, 1) := by decide +kernel
theorem dX6_day_93 : decode cX6_day 93 = .ok (.aload_n 0, 1) := by decide +kernel
theorem dX6_day_94 : decode cX6_day 94 = .ok (.iload_n 1, 1) := by decide +kernel
theorem dX6_day_95 : decode cX6_day 95 = .ok (.iload_n 2, 1) := by decide +kernel
theorem dX6_day_96 : decode cX6_day 96 = .ok (.invokevirtual 178, 3) := by decide +kernel
theorem dX6_day_99 : decode cX6_day 99 = .ok (.ireturn, 1) := by decide +kernel
theorem dX6_feast_0 : decode cX6_feast 0 = .ok (.aload_n 0, 1) := by decide +kernel
theorem dX6_feast_1 : decode cX6_feast 1 = .ok (.iload_n 1, 1) := by decide +kernel
theorem dX6_feast_2 : decode cX6_feast 2 = .ok (.invokevirtual 95, 3) := by decide +kernel
theorem dX6_feast_5 : decode cX6_feast 5 = .ok (.iload_n 2, 1) := by decide +kernel
theorem dX6_feast_6 : decode cX6_feast 6 = .ok (.iconst 0, 1) := by decide +kernel
theorem dX6_feast_7 : decode cX6_feast 7 = .ok (.iconst 3, 1) := by decide +kernel
theorem dX6_feast_8 : decode cX6_feast 8 = .ok (.invokestatic 98, 3) := by decide +kernel
theorem dX6_feast_11 : decode cX6_feast 11 = .ok (.aload_n 0, 1) := by decide +kernel
theorem dX6_feast_12 : decode cX6_feast 12 = .ok (.iload_n 1, 1) := by decide +kernel
theorem dX6_feast_13 : decode cX6_feast 13 = .ok (.iload_n 2, 1) := by decide +kernel
theorem dX6_feast_14 : decode cX6_feast 14 = .ok (.invokevirtual 181, 3) := by decide +kernel
theorem dX6_feast_17 : decode cX6_feast 17 = .ok (.ireturn, 1) := by decide +kernel
theorem dX6_when_0 : decode cX6_when 0 = .ok (.aload_n 0, 1) := by decide +kernel
theorem dX6_when_1 : decode cX6_when 1 = .ok (.iload_n 1, 1) := by decide +kernel
theorem dX6_when_2 : decode cX6_when 2 = .ok (.invokevirtual 95, 3) := by decide +kernel
theorem dX6_when_5 : decode cX6_when 5 = .ok (.iload_n 2, 1) := by decide +kernel
theorem dX6_when_6 : decode cX6_when 6 = .ok (.invokestatic 119, 3) := by decide +kernel
theorem dX6_when_9 : decode cX6_when 9 = .ok (.iload_n 3, 1) := by decide +kernel
theorem dX6_when_10 : decode cX6_when 10 = .ok (.invokestatic 113, 3) := by decide +kernel
theorem dX6_when_13 : decode cX6_when 13 = .ok (.aload_n 0, 1) := by decide +kernel
theorem dX6_when_14 : decode cX6_when 14 = .ok (.getfield 42, 3) := by decide +kernel
theorem dX6_when_17 : decode cX6_when 17 = .ok (.aload_n 0, 1) := by decide +kernel
theorem dX6_when_18 : decode cX6_when 18 = .ok (.getfield 12, 3) := by decide +kernel
theorem dX6_when_21 : decode cX6_when 21 = .ok (.iload_n 2, 1) := by decide +kernel
theorem dX6_when_22 : decode cX6_when 22 = .ok (.aload_n 0, 1) := by decide +kernel
theorem dX6_when_23 : decode cX6_when 23 = .ok (.getfield 12, 3) := by decide +kernel
theorem dX6_when_26 : decode cX6_when 26 = .ok (.getfield 116, 3) := by decide +kernel
theorem dX6_when_29 : decode cX6_when 29 = .ok (.iload_n 3, 1) := by decide +kernel
theorem dX6_when_30 : decode cX6_when 30 = .ok (.invokevirtual 105, 3) := by decide +kernel
theorem dX6_when_33 : decode cX6_when 33 = .ok (.invokevirtual 122, 3) := by decide +kernel
theorem dX6_when_36 : decode cX6_when 36 = .ok (.iload 4, 2) := by decide +kernel
theorem dX6_when_38 : decode cX6_when 38 = .ok (.ifCond .eq 17, 3) := by decide +kernel
theorem dX6_when_41 : decode cX6_when 41 = .ok (.aload_n 0, 1) := by decide +kernel
theorem dX6_when_42 : decode cX6_when 42 = .ok (.getfield 42, 3) := by decide +kernel
theorem dX6_when_45 : decode cX6_when 45 = .ok (.getfield 184, 3) := by decide +kernel
theorem dX6_when_48 : decode cX6_when 48 = .ok (.iload_n 1, 1) := by decide +kernel
theorem dX6_when_49 : decode cX6_when 49 = .ok (.invokevirtual 105, 3) := by decide +kernel
theorem dX6_when_52 : decode cX6_when 52 = .ok (.goto 14, 3) := by decide +kernel
theorem dX6_when_55 : decode cX6_when 55 = .ok (.aload_n 0, 1) := by decide +kernel
theorem dX6_when_56 : decode cX6_when 56 = .ok (.getfield 42, 3) := by decide +kernel
theorem dX6_when_59 : decode cX6_when 59 = .ok (.getfield 126, 3) := by decide +kernel
theorem dX6_when_62 : decode cX6_when 62 = .ok (.iload_n 1, 1) := by decide +kernel
theorem dX6_when_63 : decode cX6_when 63 = .ok (.invokevirtual 105, 3) := by decide +kernel
theorem dX6_when_66 : decode cX6_when 66 = .ok (.ireturn, 1) := by decide +kernel
theorem dX6_settled_0 : decode cX6_settled 0 = .ok (.aload_n 0, 1) := by decide +kernel
theorem dX6_settled_1 : decode cX6_settled 1 = .ok (.iload_n 1, 1) := by decide +kernel
theorem dX6_settled_2 : decode cX6_settled 2 = .ok (.invokevirtual 95, 3) := by decide +kernel
theorem dX6_settled_5 : decode cX6_settled 5 = .ok (.iload_n 2, 1) := by decide +kernel
theorem dX6_settled_6 : decode cX6_settled 6 = .ok (.invokestatic 119, 3) := by decide +kernel
theorem dX6_settled_9 : decode cX6_settled 9 = .ok (.aload_n 0, 1) := by decide +kernel
theorem dX6_settled_10 : decode cX6_settled 10 = .ok (.getfield 49, 3) := by decide +kernel
theorem dX6_settled_13 : decode cX6_settled 13 = .ok (.aload_n 0, 1) := by decide +kernel
theorem dX6_settled_14 : decode cX6_settled 14 = .ok (.getfield 12, 3) := by decide +kernel
theorem dX6_settled_17 : decode cX6_settled 17 = .ok (.iload_n 2, 1) := by decide +kernel
theorem dX6_settled_18 : decode cX6_settled 18 = .ok (.invokevirtual 187, 3) := by decide +kernel
theorem dX6_settled_21 : decode cX6_settled 21 = .ok (.aload_n 0, 1) := by decide +kernel
theorem dX6_settled_22 : decode cX6_settled 22 = .ok (.getfield 49, 3) := by decide +kernel
theorem dX6_settled_25 : decode cX6_settled 25 = .ok (.iload_n 1, 1) := by decide +kernel
theorem dX6_settled_26 : decode cX6_settled 26 = .ok (.invokevirtual 191, 3) := by decide +kernel
theorem dX6_settled_29 : decode cX6_settled 29 = .ok (.ireturn, 1) := by decide +kernel
theorem dX6_quarrels_0 : decode cX6_quarrels 0 = .ok (.iload_n 1, 1) := by decide +kernel
theorem dX6_quarrels_1 : decode cX6_quarrels 1 = .ok (.invokestatic 119, 3) := by decide +kernel
theorem dX6_quarrels_4 : decode cX6_quarrels 4 = .ok (.aload_n 0, 1) := by decide +kernel
theorem dX6_quarrels_5 : decode cX6_quarrels 5 = .ok (.getfield 49, 3) := by decide +kernel
theorem dX6_quarrels_8 : decode cX6_quarrels 8 = .ok (.aload_n 0, 1) := by decide +kernel
theorem dX6_quarrels_9 : decode cX6_quarrels 9 = .ok (.getfield 12, 3) := by decide +kernel
theorem dX6_quarrels_12 : decode cX6_quarrels 12 = .ok (.iload_n 1, 1) := by decide +kernel
theorem dX6_quarrels_13 : decode cX6_quarrels 13 = .ok (.invokevirtual 187, 3) := by decide +kernel
theorem dX6_quarrels_16 : decode cX6_quarrels 16 = .ok (.aload_n 0, 1) := by decide +kernel
theorem dX6_quarrels_17 : decode cX6_quarrels 17 = .ok (.getfield 49, 3) := by decide +kernel
theorem dX6_quarrels_20 : decode cX6_quarrels 20 = .ok (.aload_n 0, 1) := by decide +kernel
theorem dX6_quarrels_21 : decode cX6_quarrels 21 = .ok (.getfield 12, 3) := by decide +kernel
theorem dX6_quarrels_24 : decode cX6_quarrels 24 = .ok (.getfield 87, 3) := by decide +kernel
theorem dX6_quarrels_27 : decode cX6_quarrels 27 = .ok (.invokevirtual 194, 3) := by decide +kernel
theorem dX6_quarrels_30 : decode cX6_quarrels 30 = .ok (.ireturn, 1) := by decide +kernel
theorem dX6_stick_0 : decode cX6_stick 0 = .ok (.aload_n 0, 1) := by decide +kernel
theorem dX6_stick_1 : decode cX6_stick 1 = .ok (.iload_n 1, 1) := by decide +kernel
theorem dX6_stick_2 : decode cX6_stick 2 = .ok (.invokevirtual 136, 3) := by decide +kernel
theorem dX6_stick_5 : decode cX6_stick 5 = .ok (.iload_n 2, 1) := by decide +kernel
theorem dX6_stick_6 : decode cX6_stick 6 = .ok (.iconst 0, 1) := by decide +kernel
theorem dX6_stick_7 : decode cX6_stick 7 = .ok (.bipush 13, 2) := by decide +kernel
theorem dX6_stick_9 : decode cX6_stick 9 = .ok (.invokestatic 98, 3) := by decide +kernel
theorem dX6_stick_12 : decode cX6_stick 12 = .ok (.aload_n 0, 1) := by decide +kernel
theorem dX6_stick_13 : decode cX6_stick 13 = .ok (.iload_n 1, 1) := by decide +kernel
theorem dX6_stick_14 : decode cX6_stick 14 = .ok (.iload_n 2, 1) := by decide +kernel
theorem dX6_stick_15 : decode cX6_stick 15 = .ok (.invokevirtual 197, 3) := by decide +kernel
theorem dX6_stick_18 : decode cX6_stick 18 = .ok (.ireturn, 1) := by decide +kernel
theorem dX6_count_0 : decode cX6_count 0 = .ok (.iload_n 1, 1) := by decide +kernel
theorem dX6_count_1 : decode cX6_count 1 = .ok (.iconst 0, 1) := by decide +kernel
theorem dX6_count_2 : decode cX6_count 2 = .ok (.bipush 7, 2) := by decide +kernel
theorem dX6_count_4 : decode cX6_count 4 = .ok (.invokestatic 98, 3) := by decide +kernel
theorem dX6_count_7 : decode cX6_count 7 = .ok (.aload_n 0, 1) := by decide +kernel
theorem dX6_count_8 : decode cX6_count 8 = .ok (.iload_n 1, 1) := by decide +kernel
theorem dX6_count_9 : decode cX6_count 9 = .ok (.invokevirtual 200, 3) := by decide +kernel
theorem dX6_count_12 : decode cX6_count 12 = .ok (.ireturn, 1) := by decide +kernel
theorem dX6_range_0 : decode cX6_range 0 = .ok (.aload_n 0, 1) := by decide +kernel
theorem dX6_range_1 : decode cX6_range 1 = .ok (.iload_n 1, 1) := by decide +kernel
theorem dX6_range_2 : decode cX6_range 2 = .ok (.invokevirtual 95, 3) := by decide +kernel
theorem dX6_range_5 : decode cX6_range 5 = .ok (.iload_n 2, 1) := by decide +kernel
theorem dX6_range_6 : decode cX6_range 6 = .ok (.invokestatic 119, 3) := by decide +kernel
theorem dX6_range_9 : decode cX6_range 9 = .ok (.iload_n 3, 1) := by decide +kernel
theorem dX6_range_10 : decode cX6_range 10 = .ok (.iconst 1, 1) := by decide +kernel
theorem dX6_range_11 : decode cX6_range 11 = .ok (.bipush 40, 2) := by decide +kernel
theorem dX6_range_13 : decode cX6_range 13 = .ok (.invokestatic 98, 3) := by decide +kernel
theorem dX6_range_16 : decode cX6_range 16 = .ok (.aload_n 0, 1) := by decide +kernel
theorem dX6_range_17 : decode cX6_range 17 = .ok (.iload_n 1, 1) := by decide +kernel
theorem dX6_range_18 : decode cX6_range 18 = .ok (.iload_n 2, 1) := by decide +kernel
theorem dX6_range_19 : decode cX6_range 19 = .ok (.iload_n 3, 1) := by decide +kernel
theorem dX6_range_20 : decode cX6_range 20 = .ok (.iload 4, 2) := by decide +kernel
theorem dX6_range_22 : decode cX6_range 22 = .ok (.invokevirtual 203, 3) := by decide +kernel
theorem dX6_range_25 : decode cX6_range 25 = .ok (.ireturn, 1) := by decide +kernel
theorem dX6_alike_0 : decode cX6_alike 0 = .ok (.iload_n 1, 1) := by decide +kernel
theorem dX6_alike_1 : decode cX6_alike 1 = .ok (.invokestatic 119, 3) := by decide +kernel
theorem dX6_alike_4 : decode cX6_alike 4 = .ok (.aload_n 0, 1) := by decide +kernel
theorem dX6_alike_5 : decode cX6_alike 5 = .ok (.iload_n 1, 1) := by decide +kernel
theorem dX6_alike_6 : decode cX6_alike 6 = .ok (.invokevirtual 207, 3) := by decide +kernel
theorem dX6_alike_9 : decode cX6_alike 9 = .ok (.ireturn, 1) := by decide +kernel
theorem dX6_peace_0 : decode cX6_peace 0 = .ok (.iload_n 1, 1) := by decide +kernel
theorem dX6_peace_1 : decode cX6_peace 1 = .ok (.invokestatic 113, 3) := by decide +kernel
theorem dX6_peace_4 : decode cX6_peace 4 = .ok (.iload_n 2, 1) := by decide +kernel
theorem dX6_peace_5 : decode cX6_peace 5 = .ok (.invokestatic 119, 3) := by decide +kernel
theorem dX6_peace_8 : decode cX6_peace 8 = .ok (.aload_n 0, 1) := by decide +kernel
theorem dX6_peace_9 : decode cX6_peace 9 = .ok (.iload_n 1, 1) := by decide +kernel
theorem dX6_peace_10 : decode cX6_peace 10 = .ok (.iload_n 2, 1) := by decide +kernel
theorem dX6_peace_11 : decode cX6_peace 11 = .ok (.invokevirtual 210, 3) := by decide +kernel
theorem dX6_peace_14 : decode cX6_peace 14 = .ok (.iconst 5, 1) := by decide +kernel
theorem dX6_peace_15 : decode cX6_peace 15 = .ok (.iadd, 1) := by decide +kernel
theorem dX6_peace_16 : decode cX6_peace 16 = .ok (.ireturn, 1) := by decide +kernel
theorem dX6_moved_0 : decode cX6_moved 0 = .ok (.iload_n 1, 1) := by decide +kernel
theorem dX6_moved_1 : decode cX6_moved 1 = .ok (.invokestatic 119, 3) := by decide +kernel
theorem dX6_moved_4 : decode cX6_moved 4 = .ok (.iload_n 2, 1) := by decide +kernel
theorem dX6_moved_5 : decode cX6_moved 5 = .ok (.invokestatic 113, 3) := by decide +kernel
theorem dX6_moved_8 : decode cX6_moved 8 = .ok (.aload_n 0, 1) := by decide +kernel
theorem dX6_moved_9 : decode cX6_moved 9 = .ok (.getfield 42, 3) := by decide +kernel
theorem dX6_moved_12 : decode cX6_moved 12 = .ok (.aload_n 0, 1) := by decide +kernel
theorem dX6_moved_13 : decode cX6_moved 13 = .ok (.getfield 12, 3) := by decide +kernel
theorem dX6_moved_16 : decode cX6_moved 16 = .ok (.iload_n 1, 1) := by decide +kernel
theorem dX6_moved_17 : decode cX6_moved 17 = .ok (.aload_n 0, 1) := by decide +kernel
theorem dX6_moved_18 : decode cX6_moved 18 = .ok (.getfield 12, 3) := by decide +kernel
theorem dX6_moved_21 : decode cX6_moved 21 = .ok (.getfield 116, 3) := by decide +kernel
theorem dX6_moved_24 : decode cX6_moved 24 = .ok (.iload_n 2, 1) := by decide +kernel
theorem dX6_moved_25 : decode cX6_moved 25 = .ok (.invokevirtual 105, 3) := by decide +kernel
theorem dX6_moved_28 : decode cX6_moved 28 = .ok (.invokevirtual 122, 3) := by decide +kernel
theorem dX6_moved_31 : decode cX6_moved 31 = .ok (.aload_n 0, 1) := by decide +kernel
theorem dX6_moved_32 : decode cX6_moved 32 = .ok (.getfield 42, 3) := by decide +kernel
theorem dX6_moved_35 : decode cX6_moved 35 = .ok (.aload_n 0, 1) := by decide +kernel
theorem dX6_moved_36 : decode cX6_moved 36 = .ok (.getfield 12, 3) := by decide +kernel
theorem dX6_moved_39 : decode cX6_moved 39 = .ok (.getfield 87, 3) := by decide +kernel
theorem dX6_moved_42 : decode cX6_moved 42 = .ok (.invokevirtual 213, 3) := by decide +kernel
theorem dX6_moved_45 : decode cX6_moved 45 = .ok (.ireturn, 1) := by decide +kernel
theorem dX6_freshShare_0 : decode cX6_freshShare 0 = .ok (.aload_n 0, 1) := by decide +kernel
theorem dX6_freshShare_1 : decode cX6_freshShare 1 = .ok (.invokevirtual 216, 3) := by decide +kernel
theorem dX6_freshShare_4 : decode cX6_freshShare 4 = .ok (.dreturn, 1) := by decide +kernel
theorem dX6_digest_0 : decode cX6_digest 0 = .ok (.ldc2_w 220, 3) := by decide +kernel
theorem dX6_digest_3 : decode cX6_digest 3 = .ok (.lstore_n 1, 1) := by decide +kernel
theorem dX6_digest_4 : decode cX6_digest 4 = .ok (.iconst 0, 1) := by decide +kernel
theorem dX6_digest_5 : decode cX6_digest 5 = .ok (.istore_n 3, 1) := by decide +kernel
theorem dX6_digest_6 : decode cX6_digest 6 = .ok (.iload_n 3, 1) := by decide +kernel
theorem dX6_digest_7 : decode cX6_digest 7 = .ok (.bipush 7, 2) := by decide +kernel
theorem dX6_digest_9 : decode cX6_digest 9 = .ok (.if_icmp .gt 20, 3) := by decide +kernel
theorem dX6_digest_12 : decode cX6_digest 12 = .ok (.lload_n 1, 1) := by decide +kernel
theorem dX6_digest_13 : decode cX6_digest 13 = .ok (.aload_n 0, 1) := by decide +kernel
theorem dX6_digest_14 : decode cX6_digest 14 = .ok (.iload_n 3, 1) := by decide +kernel
theorem dX6_digest_15 : decode cX6_digest 15 = .ok (.invokevirtual 200, 3) := by decide +kernel
theorem dX6_digest_18 : decode cX6_digest 18 = .ok (.i2l, 1) := by decide +kernel
theorem dX6_digest_19 : decode cX6_digest 19 = .ok (.invokestatic 222, 3) := by decide +kernel
theorem dX6_digest_22 : decode cX6_digest 22 = .ok (.lstore_n 1, 1) := by decide +kernel
theorem dX6_digest_23 : decode cX6_digest 23 = .ok (.iinc 3 1, 3) := by decide +kernel
theorem dX6_digest_26 : decode cX6_digest 26 = .ok (.goto (-20), 3) := by decide +kernel
theorem dX6_digest_29 : decode cX6_digest 29 = .ok (.aload_n 0, 1) := by decide +kernel
theorem dX6_digest_30 : decode cX6_digest 30 = .ok (.invokevirtual 226, 3) := by decide +kernel
theorem dX6_digest_33 : decode cX6_digest 33 = .ok (.aload_n 0, 1) := by decide +kernel
theorem dX6_digest_34 : decode cX6_digest 34 = .ok (.lload_n 1, 1) := by decide +kernel
theorem dX6_digest_35 : decode cX6_digest 35 = .ok (.invokevirtual 229, 3) := by decide +kernel
theorem dX6_digest_38 : decode cX6_digest 38 = .ok (.lstore_n 1, 1) := by decide +kernel
theorem dX6_digest_39 : decode cX6_digest 39 = .ok (.aload_n 0, 1) := by decide +kernel
theorem dX6_digest_40 : decode cX6_digest 40 = .ok (.lload_n 1, 1) := by decide +kernel
theorem dX6_digest_41 : decode cX6_digest 41 = .ok (.invokevirtual 233, 3) := by decide +kernel
theorem dX6_digest_44 : decode cX6_digest 44 = .ok (.lstore_n 1, 1) := by decide +kernel
theorem dX6_digest_45 : decode cX6_digest 45 = .ok (.iconst 0, 1) := by decide +kernel
theorem dX6_digest_46 : decode cX6_digest 46 = .ok (.istore_n 3, 1) := by decide +kernel
theorem dX6_digest_47 : decode cX6_digest 47 = .ok (.iload_n 3, 1) := by decide +kernel
theorem dX6_digest_48 : decode cX6_digest 48 = .ok (.aload_n 0, 1) := by decide +kernel
theorem dX6_digest_49 : decode cX6_digest 49 = .ok (.getfield 12, 3) := by decide +kernel
theorem dX6_digest_52 : decode cX6_digest 52 = .ok (.getfield 236, 3) := by decide +kernel
theorem dX6_digest_55 : decode cX6_digest 55 = .ok (.if_icmp .ge 38, 3) := by decide +kernel
theorem dX6_digest_58 : decode cX6_digest 58 = .ok (.iconst 0, 1) := by decide +kernel
theorem dX6_digest_59 : decode cX6_digest 59 = .ok (.istore 4, 2) := by decide +kernel
theorem dX6_digest_61 : decode cX6_digest 61 = .ok (.iload 4, 2) := by decide +kernel
theorem dX6_digest_63 : decode cX6_digest 63 = .ok (.bipush 13, 2) := by decide +kernel
theorem dX6_digest_65 : decode cX6_digest 65 = .ok (.if_icmp .gt 22, 3) := by decide +kernel
theorem dX6_digest_68 : decode cX6_digest 68 = .ok (.lload_n 1, 1) := by decide +kernel
theorem dX6_digest_69 : decode cX6_digest 69 = .ok (.aload_n 0, 1) := by decide +kernel
theorem dX6_digest_70 : decode cX6_digest 70 = .ok (.iload_n 3, 1) := by decide +kernel
theorem dX6_digest_71 : decode cX6_digest 71 = .ok (.iload 4, 2) := by decide +kernel
theorem dX6_digest_73 : decode cX6_digest 73 = .ok (.invokevirtual 197, 3) := by decide +kernel
theorem dX6_digest_76 : decode cX6_digest 76 = .ok (.i2l, 1) := by decide +kernel
theorem dX6_digest_77 : decode cX6_digest 77 = .ok (.invokestatic 222, 3) := by decide +kernel
theorem dX6_digest_80 : decode cX6_digest 80 = .ok (.lstore_n 1, 1) := by decide +kernel
theorem dX6_digest_81 : decode cX6_digest 81 = .ok (.iinc 4 1, 3) := by decide +kernel
theorem dX6_digest_84 : decode cX6_digest 84 = .ok (.goto (-23), 3) := by decide +kernel
theorem dX6_digest_87 : decode cX6_digest 87 = .ok (.iinc 3 1, 3) := by decide +kernel
theorem dX6_digest_90 : decode cX6_digest 90 = .ok (.goto (-43), 3) := by decide +kernel
theorem dX6_digest_93 : decode cX6_digest 93 = .ok (.lload_n 1, 1) := by decide +kernel
theorem dX6_digest_94 : decode cX6_digest 94 = .ok (.aload_n 0, 1) := by decide +kernel
theorem dX6_digest_95 : decode cX6_digest 95 = .ok (.bipush 20, 2) := by decide +kernel
theorem dX6_digest_97 : decode cX6_digest 97 = .ok (.invokevirtual 207, 3) := by decide +kernel
theorem dX6_digest_100 : decode cX6_digest 100 = .ok (.i2l, 1) := by decide +kernel
theorem dX6_digest_101 : decode cX6_digest 101 = .ok (.invokestatic 222, 3) := by decide +kernel
theorem dX6_digest_104 : decode cX6_digest 104 = .ok (.lstore_n 1, 1) := by decide +kernel
theorem dX6_digest_105 : decode cX6_digest 105 = .ok (.lload_n 1, 1) := by decide +kernel
theorem dX6_digest_106 : decode cX6_digest 106 = .ok (.aload_n 0, 1) := by decide +kernel
theorem dX6_digest_107 : decode cX6_digest 107 = .ok (.iconst 1, 1) := by decide +kernel
theorem dX6_digest_108 : decode cX6_digest 108 = .ok (.bipush 100, 2) := by decide +kernel
theorem dX6_digest_110 : decode cX6_digest 110 = .ok (.invokevirtual 210, 3) := by decide +kernel
theorem dX6_digest_113 : decode cX6_digest 113 = .ok (.iconst 5, 1) := by decide +kernel
theorem dX6_digest_114 : decode cX6_digest 114 = .ok (.iadd, 1) := by decide +kernel
theorem dX6_digest_115 : decode cX6_digest 115 = .ok (.i2l, 1) := by decide +kernel
theorem dX6_digest_116 : decode cX6_digest 116 = .ok (.invokestatic 222, 3) := by decide +kernel
theorem dX6_digest_119 : decode cX6_digest 119 = .ok (.lstore_n 1, 1) := by decide +kernel
theorem dX6_digest_120 : decode cX6_digest 120 = .ok (.aload_n 0, 1) := by decide +kernel
theorem dX6_digest_121 : decode cX6_digest 121 = .ok (.getfield 12, 3) := by decide +kernel
theorem dX6_digest_124 : decode cX6_digest 124 = .ok (.getfield 87, 3) := by decide +kernel
theorem dX6_digest_127 : decode cX6_digest 127 = .ok (.ifCond .le 35, 3) := by decide +kernel
theorem dX6_digest_130 : decode cX6_digest 130 = .ok (.lload_n 1, 1) := by decide +kernel
theorem dX6_digest_131 : decode cX6_digest 131 = .ok (.aload_n 0, 1) := by decide +kernel
theorem dX6_digest_132 : decode cX6_digest 132 = .ok (.iconst 0, 1) := by decide +kernel
theorem dX6_digest_133 : decode cX6_digest 133 = .ok (.bipush 50, 2) := by decide +kernel
theorem dX6_digest_135 : decode cX6_digest 135 = .ok (.bipush 20, 2) := by decide +kernel
theorem dX6_digest_137 : decode cX6_digest 137 = .ok (.iconst 0, 1) := by decide +kernel
theorem dX6_digest_138 : decode cX6_digest 138 = .ok (.invokevirtual 203, 3) := by decide +kernel
theorem dX6_digest_141 : decode cX6_digest 141 = .ok (.i2l, 1) := by decide +kernel
theorem dX6_digest_142 : decode cX6_digest 142 = .ok (.invokestatic 222, 3) := by decide +kernel
theorem dX6_digest_145 : decode cX6_digest 145 = .ok (.lstore_n 1, 1) := by decide +kernel
theorem dX6_digest_146 : decode cX6_digest 146 = .ok (.lload_n 1, 1) := by decide +kernel
theorem dX6_digest_147 : decode cX6_digest 147 = .ok (.aload_n 0, 1) := by decide +kernel
theorem dX6_digest_148 : decode cX6_digest 148 = .ok (.iconst 0, 1) := by decide +kernel
theorem dX6_digest_149 : decode cX6_digest 149 = .ok (.bipush 50, 2) := by decide +kernel
theorem dX6_digest_151 : decode cX6_digest 151 = .ok (.bipush 20, 2) := by decide +kernel
theorem dX6_digest_153 : decode cX6_digest 153 = .ok (.iconst 1, 1) := by decide +kernel
theorem dX6_digest_154 : decode cX6_digest 154 = .ok (.invokevirtual 203, 3) := by decide +kernel
theorem dX6_digest_157 : decode cX6_digest 157 = .ok (.i2l, 1) := by decide +kernel
theorem dX6_digest_158 : decode cX6_digest 158 = .ok (.invokestatic 222, 3) := by decide +kernel
theorem dX6_digest_161 : decode cX6_digest 161 = .ok (.lstore_n 1, 1) := by decide +kernel
theorem dX6_digest_162 : decode cX6_digest 162 = .ok (.lload_n 1, 1) := by decide +kernel
theorem dX6_digest_163 : decode cX6_digest 163 = .ok (.aload_n 0, 1) := by decide +kernel
theorem dX6_digest_164 : decode cX6_digest 164 = .ok (.invokevirtual 216, 3) := by decide +kernel
theorem dX6_digest_167 : decode cX6_digest 167 = .ok (.invokestatic 239, 3) := by decide +kernel
theorem dX6_digest_170 : decode cX6_digest 170 = .ok (.invokestatic 222, 3) := by decide +kernel
theorem dX6_digest_173 : decode cX6_digest 173 = .ok (.lstore_n 1, 1) := by decide +kernel
theorem dX6_digest_174 : decode cX6_digest 174 = .ok (.lload_n 1, 1) := by decide +kernel
theorem dX6_digest_175 : decode cX6_digest 175 = .ok (.aload_n 0, 1) := by decide +kernel
theorem dX6_digest_176 : decode cX6_digest 176 = .ok (.getfield 64, 3) := by decide +kernel
theorem dX6_digest_179 : decode cX6_digest 179 = .ok (.i2l, 1) := by decide +kernel
theorem dX6_digest_180 : decode cX6_digest 180 = .ok (.invokestatic 222, 3) := by decide +kernel
theorem dX6_digest_183 : decode cX6_digest 183 = .ok (.lstore_n 1, 1) := by decide +kernel
theorem dX6_digest_184 : decode cX6_digest 184 = .ok (.iconst 0, 1) := by decide +kernel
theorem dX6_digest_185 : decode cX6_digest 185 = .ok (.istore_n 3, 1) := by decide +kernel
theorem dX6_digest_186 : decode cX6_digest 186 = .ok (.iload_n 3, 1) := by decide +kernel
theorem dX6_digest_187 : decode cX6_digest 187 = .ok (.aload_n 0, 1) := by decide +kernel
theorem dX6_digest_188 : decode cX6_digest 188 = .ok (.getfield 64, 3) := by decide +kernel
theorem dX6_digest_191 : decode cX6_digest 191 = .ok (.if_icmp .ge 23, 3) := by decide +kernel
theorem dX6_digest_194 : decode cX6_digest 194 = .ok (.lload_n 1, 1) := by decide +kernel
theorem dX6_digest_195 : decode cX6_digest 195 = .ok (.aload_n 0, 1) := by decide +kernel
theorem dX6_digest_196 : decode cX6_digest 196 = .ok (.getfield 28, 3) := by decide +kernel
theorem dX6_digest_199 : decode cX6_digest 199 = .ok (.iload_n 3, 1) := by decide +kernel
theorem dX6_digest_200 : decode cX6_digest 200 = .ok (.invokevirtual 105, 3) := by decide +kernel
theorem dX6_digest_203 : decode cX6_digest 203 = .ok (.i2l, 1) := by decide +kernel
theorem dX6_digest_204 : decode cX6_digest 204 = .ok (.invokestatic 222, 3) := by decide +kernel
theorem dX6_digest_207 : decode cX6_digest 207 = .ok (.lstore_n 1, 1) := by decide +kernel
theorem dX6_digest_208 : decode cX6_digest 208 = .ok (.iinc 3 1, 3) := by decide +kernel
theorem dX6_digest_211 : decode cX6_digest 211 = .ok (.goto (-25), 3) := by decide +kernel
theorem dX6_digest_214 : decode cX6_digest 214 = .ok (.lload_n 1, 1) := by decide +kernel
theorem dX6_digest_215 : decode cX6_digest 215 = .ok (.lreturn, 1) := by decide +kernel
theorem dX6_needWithin_0 : decode cX6_needWithin 0 = .ok (.iload_n 0, 1) := by decide +kernel
theorem dX6_needWithin_1 : decode cX6_needWithin 1 = .ok (.iload_n 1, 1) := by decide +kernel
theorem dX6_needWithin_2 : decode cX6_needWithin 2 = .ok (.if_icmp .lt 8, 3) := by decide +kernel
theorem dX6_needWithin_5 : decode cX6_needWithin 5 = .ok (.iload_n 0, 1) := by decide +kernel
theorem dX6_needWithin_6 : decode cX6_needWithin 6 = .ok (.iload_n 2, 1) := by decide +kernel
theorem dX6_needWithin_7 : decode cX6_needWithin 7 = .ok (.if_icmp .le 13, 3) := by decide +kernel
theorem dX6_needWithin_10 : decode cX6_needWithin 10 = .ok (.new 72, 3) := by decide +kernel
theorem dX6_needWithin_13 : decode cX6_needWithin 13 = .ok (.dup, 1) := by decide +kernel
theorem dX6_needWithin_14 : decode cX6_needWithin 14 = .ok (.ldc 243, 2) := by decide +kernel
theorem dX6_needWithin_16 : decode cX6_needWithin 16 = .ok (.invokespecial 76, 3) := by decide +kernel
theorem dX6_needWithin_19 : decode cX6_needWithin 19 = .ok (.athrow, 1) := by decide +kernel
theorem dX6_needWithin_20 : decode cX6_needWithin 20 = .ok (.return_, 1) := by decide +kernel
theorem dX6_needYear_0 : decode cX6_needYear 0 = .ok (.iload_n 0, 1) := by decide +kernel
theorem dX6_needYear_1 : decode cX6_needYear 1 = .ok (.iconst 0, 1) := by decide +kernel
theorem dX6_needYear_2 : decode cX6_needYear 2 = .ok (.sipush 999, 3) := by decide +kernel
theorem dX6_needYear_5 : decode cX6_needYear 5 = .ok (.invokestatic 98, 3) := by decide +kernel
theorem dX6_needYear_8 : decode cX6_needYear 8 = .ok (.return_, 1) := by decide +kernel
theorem dX6_needCarver_0 : decode cX6_needCarver 0 = .ok (.iload_n 0, 1) := by decide +kernel
theorem dX6_needCarver_1 : decode cX6_needCarver 1 = .ok (.iconst 0, 1) := by decide +kernel
theorem dX6_needCarver_2 : decode cX6_needCarver 2 = .ok (.iconst 2, 1) := by decide +kernel
theorem dX6_needCarver_3 : decode cX6_needCarver 3 = .ok (.invokestatic 98, 3) := by decide +kernel
theorem dX6_needCarver_6 : decode cX6_needCarver 6 = .ok (.return_, 1) := by decide +kernel
theorem dX6_needFeast_0 : decode cX6_needFeast 0 = .ok (.iload_n 1, 1) := by decide +kernel
theorem dX6_needFeast_1 : decode cX6_needFeast 1 = .ok (.ifCond .lt 14, 3) := by decide +kernel
theorem dX6_needFeast_4 : decode cX6_needFeast 4 = .ok (.iload_n 1, 1) := by decide +kernel
theorem dX6_needFeast_5 : decode cX6_needFeast 5 = .ok (.aload_n 0, 1) := by decide +kernel
theorem dX6_needFeast_6 : decode cX6_needFeast 6 = .ok (.getfield 12, 3) := by decide +kernel
theorem dX6_needFeast_9 : decode cX6_needFeast 9 = .ok (.getfield 87, 3) := by decide +kernel
theorem dX6_needFeast_12 : decode cX6_needFeast 12 = .ok (.if_icmp .lt 13, 3) := by decide +kernel
theorem dX6_needFeast_15 : decode cX6_needFeast 15 = .ok (.new 245, 3) := by decide +kernel
theorem dX6_needFeast_18 : decode cX6_needFeast 18 = .ok (.dup, 1) := by decide +kernel
theorem dX6_needFeast_19 : decode cX6_needFeast 19 = .ok (.ldc 247, 2) := by decide +kernel
theorem dX6_needFeast_21 : decode cX6_needFeast 21 = .ok (.invokespecial 249, 3) := by decide +kernel
theorem dX6_needFeast_24 : decode cX6_needFeast 24 = .ok (.athrow, 1) := by decide +kernel
theorem dX6_needFeast_25 : decode cX6_needFeast 25 = .ok (.return_, 1) := by decide +kernel
theorem dX6_needStick_0 : decode cX6_needStick 0 = .ok (.iload_n 1, 1) := by decide +kernel
theorem dX6_needStick_1 : decode cX6_needStick 1 = .ok (.ifCond .lt 14, 3) := by decide +kernel
theorem dX6_needStick_4 : decode cX6_needStick 4 = .ok (.iload_n 1, 1) := by decide +kernel
theorem dX6_needStick_5 : decode cX6_needStick 5 = .ok (.aload_n 0, 1) := by decide +kernel
theorem dX6_needStick_6 : decode cX6_needStick 6 = .ok (.getfield 12, 3) := by decide +kernel
theorem dX6_needStick_9 : decode cX6_needStick 9 = .ok (.getfield 236, 3) := by decide +kernel
theorem dX6_needStick_12 : decode cX6_needStick 12 = .ok (.if_icmp .lt 13, 3) := by decide +kernel
theorem dX6_needStick_15 : decode cX6_needStick 15 = .ok (.new 245, 3) := by decide +kernel
theorem dX6_needStick_18 : decode cX6_needStick 18 = .ok (.dup, 1) := by decide +kernel
theorem dX6_needStick_19 : decode cX6_needStick 19 = .ok (.ldc 250, 2) := by decide +kernel
theorem dX6_needStick_21 : decode cX6_needStick 21 = .ok (.invokespecial 249, 3) := by decide +kernel
theorem dX6_needStick_24 : decode cX6_needStick 24 = .ok (.athrow, 1) := by decide +kernel
theorem dX6_needStick_25 : decode cX6_needStick 25 = .ok (.return_, 1) := by decide +kernel
theorem dX6_isLeap_0 : decode cX6_isLeap 0 = .ok (.iload_n 0, 1) := by decide +kernel
theorem dX6_isLeap_1 : decode cX6_isLeap 1 = .ok (.iconst 4, 1) := by decide +kernel
theorem dX6_isLeap_2 : decode cX6_isLeap 2 = .ok (.irem, 1) := by decide +kernel
theorem dX6_isLeap_3 : decode cX6_isLeap 3 = .ok (.ifCond .ne 7, 3) := by decide +kernel
theorem dX6_isLeap_6 : decode cX6_isLeap 6 = .ok (.iconst 1, 1) := by decide +kernel
theorem dX6_isLeap_7 : decode cX6_isLeap 7 = .ok (.goto 4, 3) := by decide +kernel
theorem dX6_isLeap_10 : decode cX6_isLeap 10 = .ok (.iconst 0, 1) := by decide +kernel
theorem dX6_isLeap_11 : decode cX6_isLeap 11 = .ok (.ireturn, 1) := by decide +kernel
theorem dX6_daysIn_0 : decode cX6_daysIn 0 = .ok (.iload_n 0, 1) := by decide +kernel
theorem dX6_daysIn_1 : decode cX6_daysIn 1 = .ok (.invokestatic 252, 3) := by decide +kernel
theorem dX6_daysIn_4 : decode cX6_daysIn 4 = .ok (.ifCond .eq 9, 3) := by decide +kernel
theorem dX6_daysIn_7 : decode cX6_daysIn 7 = .ok (.sipush 366, 3) := by decide +kernel
theorem dX6_daysIn_10 : decode cX6_daysIn 10 = .ok (.goto 6, 3) := by decide +kernel
theorem dX6_daysIn_13 : decode cX6_daysIn 13 = .ok (.sipush 365, 3) := by decide +kernel
theorem dX6_daysIn_16 : decode cX6_daysIn 16 = .ok (.ireturn, 1) := by decide +kernel
theorem dX6_newYearWeekday_0 : decode cX6_newYearWeekday 0 = .ok (.iload_n 0, 1) := by decide +kernel
theorem dX6_newYearWeekday_1 : decode cX6_newYearWeekday 1 = .ok (.iconst 3, 1) := by decide +kernel
theorem dX6_newYearWeekday_2 : decode cX6_newYearWeekday 2 = .ok (.iadd, 1) := by decide +kernel
theorem dX6_newYearWeekday_3 : decode cX6_newYearWeekday 3 = .ok (.iconst 4, 1) := by decide +kernel
theorem dX6_newYearWeekday_4 : decode cX6_newYearWeekday 4 = .ok (.idiv, 1) := by decide +kernel
theorem dX6_newYearWeekday_5 : decode cX6_newYearWeekday 5 = .ok (.istore_n 1, 1) := by decide +kernel
theorem dX6_newYearWeekday_6 : decode cX6_newYearWeekday 6 = .ok (.sipush 365, 3) := by decide +kernel
theorem dX6_newYearWeekday_9 : decode cX6_newYearWeekday 9 = .ok (.iload_n 0, 1) := by decide +kernel
theorem dX6_newYearWeekday_10 : decode cX6_newYearWeekday 10 = .ok (.imul, 1) := by decide +kernel
theorem dX6_newYearWeekday_11 : decode cX6_newYearWeekday 11 = .ok (.iload_n 1, 1) := by decide +kernel
theorem dX6_newYearWeekday_12 : decode cX6_newYearWeekday 12 = .ok (.iadd, 1) := by decide +kernel
theorem dX6_newYearWeekday_13 : decode cX6_newYearWeekday 13 = .ok (.bipush 7, 2) := by decide +kernel
theorem dX6_newYearWeekday_15 : decode cX6_newYearWeekday 15 = .ok (.irem, 1) := by decide +kernel
theorem dX6_newYearWeekday_16 : decode cX6_newYearWeekday 16 = .ok (.ireturn, 1) := by decide +kernel
theorem dX6_moonShift_0 : decode cX6_moonShift 0 = .ok (.iload_n 2, 1) := by decide +kernel
theorem dX6_moonShift_1 : decode cX6_moonShift 1 = .ok (.ifCond .le 9, 3) := by decide +kernel
theorem dX6_moonShift_4 : decode cX6_moonShift 4 = .ok (.iload_n 0, 1) := by decide +kernel
theorem dX6_moonShift_5 : decode cX6_moonShift 5 = .ok (.iload_n 2, 1) := by decide +kernel
theorem dX6_moonShift_6 : decode cX6_moonShift 6 = .ok (.idiv, 1) := by decide +kernel
theorem dX6_moonShift_7 : decode cX6_moonShift 7 = .ok (.goto 4, 3) := by decide +kernel
theorem dX6_moonShift_10 : decode cX6_moonShift 10 = .ok (.iconst 0, 1) := by decide +kernel
theorem dX6_moonShift_11 : decode cX6_moonShift 11 = .ok (.istore_n 3, 1) := by decide +kernel
theorem dX6_moonShift_12 : decode cX6_moonShift 12 = .ok (.bipush 11, 2) := by decide +kernel
theorem dX6_moonShift_14 : decode cX6_moonShift 14 = .ok (.iload_n 0, 1) := by decide +kernel
theorem dX6_moonShift_15 : decode cX6_moonShift 15 = .ok (.bipush 19, 2) := by decide +kernel
theorem dX6_moonShift_17 : decode cX6_moonShift 17 = .ok (.irem, 1) := by decide +kernel
theorem dX6_moonShift_18 : decode cX6_moonShift 18 = .ok (.imul, 1) := by decide +kernel
theorem dX6_moonShift_19 : decode cX6_moonShift 19 = .ok (.iload_n 3, 1) := by decide +kernel
theorem dX6_moonShift_20 : decode cX6_moonShift 20 = .ok (.iadd, 1) := by decide +kernel
theorem dX6_moonShift_21 : decode cX6_moonShift 21 = .ok (.iload_n 1, 1) := by decide +kernel
theorem dX6_moonShift_22 : decode cX6_moonShift 22 = .ok (.iadd, 1) := by decide +kernel
theorem dX6_moonShift_23 : decode cX6_moonShift 23 = .ok (.iconst 5, 1) := by decide +kernel
theorem dX6_moonShift_24 : decode cX6_moonShift 24 = .ok (.iadd, 1) := by decide +kernel
theorem dX6_moonShift_25 : decode cX6_moonShift 25 = .ok (.ireturn, 1) := by decide +kernel
theorem dX6_moonAge_0 : decode cX6_moonAge 0 = .ok (.iload_n 0, 1) := by decide +kernel
theorem dX6_moonAge_1 : decode cX6_moonAge 1 = .ok (.iload_n 1, 1) := by decide +kernel
theorem dX6_moonAge_2 : decode cX6_moonAge 2 = .ok (.iadd, 1) := by decide +kernel
theorem dX6_moonAge_3 : decode cX6_moonAge 3 = .ok (.iload_n 1, 1) := by decide +kernel
theorem dX6_moonAge_4 : decode cX6_moonAge 4 = .ok (.bipush 59, 2) := by decide +kernel
theorem dX6_moonAge_6 : decode cX6_moonAge 6 = .ok (.idiv, 1) := by decide +kernel
theorem dX6_moonAge_7 : decode cX6_moonAge 7 = .ok (.iadd, 1) := by decide +kernel
theorem dX6_moonAge_8 : decode cX6_moonAge 8 = .ok (.bipush 30, 2) := by decide +kernel
theorem dX6_moonAge_10 : decode cX6_moonAge 10 = .ok (.irem, 1) := by decide +kernel
theorem dX6_moonAge_11 : decode cX6_moonAge 11 = .ok (.ireturn, 1) := by decide +kernel
theorem dX6_signsReadWell_0 : decode cX6_signsReadWell 0 = .ok (.aload_n 0, 1) := by decide +kernel
theorem dX6_signsReadWell_1 : decode cX6_signsReadWell 1 = .ok (.getfield 35, 3) := by decide +kernel
theorem dX6_signsReadWell_4 : decode cX6_signsReadWell 4 = .ok (.invokevirtual 256, 3) := by decide +kernel
theorem dX6_signsReadWell_7 : decode cX6_signsReadWell 7 = .ok (.iconst 0, 1) := by decide +kernel
theorem dX6_signsReadWell_8 : decode cX6_signsReadWell 8 = .ok (.istore_n 1, 1) := by decide +kernel
theorem dX6_signsReadWell_9 : decode cX6_signsReadWell 9 = .ok (.iload_n 1, 1) := by decide +kernel
theorem dX6_signsReadWell_10 : decode cX6_signsReadWell 10 = .ok (.aload_n 0, 1) := by decide +kernel
theorem dX6_signsReadWell_11 : decode cX6_signsReadWell 11 = .ok (.getfield 64, 3) := by decide +kernel
theorem dX6_signsReadWell_14 : decode cX6_signsReadWell 14 = .ok (.if_icmp .ge 29, 3) := by decide +kernel
theorem dX6_signsReadWell_17 : decode cX6_signsReadWell 17 = .ok (.aload_n 0, 1) := by decide +kernel
theorem dX6_signsReadWell_18 : decode cX6_signsReadWell 18 = .ok (.getfield 35, 3) := by decide +kernel
theorem dX6_signsReadWell_21 : decode cX6_signsReadWell 21 = .ok (.aload_n 0, 1) := by decide +kernel
theorem dX6_signsReadWell_22 : decode cX6_signsReadWell 22 = .ok (.getfield 28, 3) := by decide +kernel
theorem dX6_signsReadWell_25 : decode cX6_signsReadWell 25 = .ok (.iload_n 1, 1) := by decide +kernel
theorem dX6_signsReadWell_26 : decode cX6_signsReadWell 26 = .ok (.invokevirtual 105, 3) := by decide +kernel
theorem dX6_signsReadWell_29 : decode cX6_signsReadWell 29 = .ok (.invokevirtual 259, 3) := by decide +kernel
theorem dX6_signsReadWell_32 : decode cX6_signsReadWell 32 = .ok (.ifCond .ne 5, 3) := by decide +kernel
theorem dX6_signsReadWell_35 : decode cX6_signsReadWell 35 = .ok (.iload_n 1, 1) := by decide +kernel
theorem dX6_signsReadWell_36 : decode cX6_signsReadWell 36 = .ok (.ireturn, 1) := by decide +kernel
theorem dX6_signsReadWell_37 : decode cX6_signsReadWell 37 = .ok (.iinc 1 1, 3) := by decide +kernel
theorem dX6_signsReadWell_40 : decode cX6_signsReadWell 40 = .ok (.goto (-31), 3) := by decide +kernel
theorem dX6_signsReadWell_43 : decode cX6_signsReadWell 43 = .ok (.aload_n 0, 1) := by decide +kernel
theorem dX6_signsReadWell_44 : decode cX6_signsReadWell 44 = .ok (.getfield 64, 3) := by decide +kernel
theorem dX6_signsReadWell_47 : decode cX6_signsReadWell 47 = .ok (.ireturn, 1) := by decide +kernel
theorem dX6_bufferTellsFeasts_0 : decode cX6_bufferTellsFeasts 0 = .ok (.aload_n 0, 1) := by decide +kernel
theorem dX6_bufferTellsFeasts_1 : decode cX6_bufferTellsFeasts 1 = .ok (.invokevirtual 150, 3) := by decide +kernel
theorem dX6_bufferTellsFeasts_4 : decode cX6_bufferTellsFeasts 4 = .ok (.aload_n 0, 1) := by decide +kernel
theorem dX6_bufferTellsFeasts_5 : decode cX6_bufferTellsFeasts 5 = .ok (.getfield 64, 3) := by decide +kernel
theorem dX6_bufferTellsFeasts_8 : decode cX6_bufferTellsFeasts 8 = .ok (.if_icmp .ne 17, 3) := by decide +kernel
theorem dX6_bufferTellsFeasts_11 : decode cX6_bufferTellsFeasts 11 = .ok (.aload_n 0, 1) := by decide +kernel
theorem dX6_bufferTellsFeasts_12 : decode cX6_bufferTellsFeasts 12 = .ok (.getfield 35, 3) := by decide +kernel
theorem dX6_bufferTellsFeasts_15 : decode cX6_bufferTellsFeasts 15 = .ok (.invokevirtual 262, 3) := by decide +kernel
theorem dX6_bufferTellsFeasts_18 : decode cX6_bufferTellsFeasts 18 = .ok (.ifCond .eq 7, 3) := by decide +kernel
theorem dX6_bufferTellsFeasts_21 : decode cX6_bufferTellsFeasts 21 = .ok (.iconst 1, 1) := by decide +kernel
theorem dX6_bufferTellsFeasts_22 : decode cX6_bufferTellsFeasts 22 = .ok (.goto 4, 3) := by decide +kernel
theorem dX6_bufferTellsFeasts_25 : decode cX6_bufferTellsFeasts 25 = .ok (.iconst 0, 1) := by decide +kernel
theorem dX6_bufferTellsFeasts_26 : decode cX6_bufferTellsFeasts 26 = .ok (.ireturn, 1) := by decide +kernel
theorem dX6_addBufferedFeasts_0 : decode cX6_addBufferedFeasts 0 = .ok (.aload_n 0, 1) := by decide +kernel
theorem dX6_addBufferedFeasts_1 : decode cX6_addBufferedFeasts 1 = .ok (.getfield 12, 3) := by decide +kernel
theorem dX6_addBufferedFeasts_4 : decode cX6_addBufferedFeasts 4 = .ok (.getfield 87, 3) := by decide +kernel
theorem dX6_addBufferedFeasts_7 : decode cX6_addBufferedFeasts 7 = .ok (.istore_n 1, 1) := by decide +kernel
theorem dX6_addBufferedFeasts_8 : decode cX6_addBufferedFeasts 8 = .ok (.iconst 1, 1) := by decide +kernel
theorem dX6_addBufferedFeasts_9 : decode cX6_addBufferedFeasts 9 = .ok (.istore_n 2, 1) := by decide +kernel
theorem dX6_addBufferedFeasts_10 : decode cX6_addBufferedFeasts 10 = .ok (.aload_n 0, 1) := by decide +kernel
theorem dX6_addBufferedFeasts_11 : decode cX6_addBufferedFeasts 11 = .ok (.getfield 35, 3) := by decide +kernel
theorem dX6_addBufferedFeasts_14 : decode cX6_addBufferedFeasts 14 = .ok (.invokevirtual 256, 3) := by decide +kernel
theorem dX6_addBufferedFeasts_17 : decode cX6_addBufferedFeasts 17 = .ok (.iconst 0, 1) := by decide +kernel
theorem dX6_addBufferedFeasts_18 : decode cX6_addBufferedFeasts 18 = .ok (.istore_n 3, 1) := by decide +kernel
theorem dX6_addBufferedFeasts_19 : decode cX6_addBufferedFeasts 19 = .ok (.iload_n 3, 1) := by decide +kernel
theorem dX6_addBufferedFeasts_20 : decode cX6_addBufferedFeasts 20 = .ok (.aload_n 0, 1) := by decide +kernel
theorem dX6_addBufferedFeasts_21 : decode cX6_addBufferedFeasts 21 = .ok (.getfield 64, 3) := by decide +kernel
theorem dX6_addBufferedFeasts_24 : decode cX6_addBufferedFeasts 24 = .ok (.if_icmp .ge 45, 3) := by decide +kernel
theorem dX6_addBufferedFeasts_27 : decode cX6_addBufferedFeasts 27 = .ok (.iload_n 2, 1) := by decide +kernel
theorem dX6_addBufferedFeasts_28 : decode cX6_addBufferedFeasts 28 = .ok (.ifCond .eq 41, 3) := by decide +kernel
theorem dX6_addBufferedFeasts_31 : decode cX6_addBufferedFeasts 31 = .ok (.aload_n 0, 1) := by decide +kernel
theorem dX6_addBufferedFeasts_32 : decode cX6_addBufferedFeasts 32 = .ok (.getfield 28, 3) := by decide +kernel
theorem dX6_addBufferedFeasts_35 : decode cX6_addBufferedFeasts 35 = .ok (.iload_n 3, 1) := by decide +kernel
theorem dX6_addBufferedFeasts_36 : decode cX6_addBufferedFeasts 36 = .ok (.invokevirtual 105, 3) := by decide +kernel
theorem dX6_addBufferedFeasts_39 : decode cX6_addBufferedFeasts 39 = .ok (.istore 4, 2) := by decide +kernel
theorem dX6_addBufferedFeasts_41 : decode cX6_addBufferedFeasts 41 = .ok (.iload 4, 2) := by decide +kernel
theorem dX6_addBufferedFeasts_43 : decode cX6_addBufferedFeasts 43 = .ok (.bipush 59, 2) := by decide +kernel
theorem dX6_addBufferedFeasts_45 : decode cX6_addBufferedFeasts 45 = .ok (.if_icmp .ne 8, 3) := by decide +kernel
theorem dX6_addBufferedFeasts_48 : decode cX6_addBufferedFeasts 48 = .ok (.aload_n 0, 1) := by decide +kernel
theorem dX6_addBufferedFeasts_49 : decode cX6_addBufferedFeasts 49 = .ok (.invokevirtual 265, 3) := by decide +kernel
theorem dX6_addBufferedFeasts_52 : decode cX6_addBufferedFeasts 52 = .ok (.istore_n 2, 1) := by decide +kernel
theorem dX6_addBufferedFeasts_53 : decode cX6_addBufferedFeasts 53 = .ok (.aload_n 0, 1) := by decide +kernel
theorem dX6_addBufferedFeasts_54 : decode cX6_addBufferedFeasts 54 = .ok (.getfield 35, 3) := by decide +kernel
theorem dX6_addBufferedFeasts_57 : decode cX6_addBufferedFeasts 57 = .ok (.iload 4, 2) := by decide +kernel
theorem dX6_addBufferedFeasts_59 : decode cX6_addBufferedFeasts 59 = .ok (.invokevirtual 259, 3) := by decide +kernel
theorem dX6_addBufferedFeasts_62 : decode cX6_addBufferedFeasts 62 = .ok (.pop, 1) := by decide +kernel
theorem dX6_addBufferedFeasts_63 : decode cX6_addBufferedFeasts 63 = .ok (.iinc 3 1, 3) := by decide +kernel
theorem dX6_addBufferedFeasts_66 : decode cX6_addBufferedFeasts 66 = .ok (.goto (-47), 3) := by decide +kernel
theorem dX6_addBufferedFeasts_69 : decode cX6_addBufferedFeasts 69 = .ok (.iload_n 2, 1) := by decide +kernel
theorem dX6_addBufferedFeasts_70 : decode cX6_addBufferedFeasts 70 = .ok (.ifCond .eq 8, 3) := by decide +kernel
theorem dX6_addBufferedFeasts_73 : decode cX6_addBufferedFeasts 73 = .ok (.aload_n 0, 1) := by decide +kernel
theorem dX6_addBufferedFeasts_74 : decode cX6_addBufferedFeasts 74 = .ok (.invokevirtual 265, 3) := by decide +kernel
theorem dX6_addBufferedFeasts_77 : decode cX6_addBufferedFeasts 77 = .ok (.pop, 1) := by decide +kernel
theorem dX6_addBufferedFeasts_78 : decode cX6_addBufferedFeasts 78 = .ok (.aload_n 0, 1) := by decide +kernel
theorem dX6_addBufferedFeasts_79 : decode cX6_addBufferedFeasts 79 = .ok (.getfield 12, 3) := by decide +kernel
theorem dX6_addBufferedFeasts_82 : decode cX6_addBufferedFeasts 82 = .ok (.getfield 87, 3) := by decide +kernel
theorem dX6_addBufferedFeasts_85 : decode cX6_addBufferedFeasts 85 = .ok (.iload_n 1, 1) := by decide +kernel
theorem dX6_addBufferedFeasts_86 : decode cX6_addBufferedFeasts 86 = .ok (.isub, 1) := by decide +kernel
theorem dX6_addBufferedFeasts_87 : decode cX6_addBufferedFeasts 87 = .ok (.ireturn, 1) := by decide +kernel
theorem dX6_addReadFeast_0 : decode cX6_addReadFeast 0 = .ok (.aload_n 0, 1) := by decide +kernel
theorem dX6_addReadFeast_1 : decode cX6_addReadFeast 1 = .ok (.getfield 35, 3) := by decide +kernel
theorem dX6_addReadFeast_4 : decode cX6_addReadFeast 4 = .ok (.getfield 268, 3) := by decide +kernel
theorem dX6_addReadFeast_7 : decode cX6_addReadFeast 7 = .ok (.iconst 3, 1) := by decide +kernel
theorem dX6_addReadFeast_8 : decode cX6_addReadFeast 8 = .ok (.if_icmp .ne 24, 3) := by decide +kernel
theorem dX6_addReadFeast_11 : decode cX6_addReadFeast 11 = .ok (.aload_n 0, 1) := by decide +kernel
theorem dX6_addReadFeast_12 : decode cX6_addReadFeast 12 = .ok (.getfield 35, 3) := by decide +kernel
theorem dX6_addReadFeast_15 : decode cX6_addReadFeast 15 = .ok (.getfield 271, 3) := by decide +kernel
theorem dX6_addReadFeast_18 : decode cX6_addReadFeast 18 = .ok (.aload_n 0, 1) := by decide +kernel
theorem dX6_addReadFeast_19 : decode cX6_addReadFeast 19 = .ok (.getfield 12, 3) := by decide +kernel
theorem dX6_addReadFeast_22 : decode cX6_addReadFeast 22 = .ok (.getfield 87, 3) := by decide +kernel
theorem dX6_addReadFeast_25 : decode cX6_addReadFeast 25 = .ok (.if_icmp .lt 7, 3) := by decide +kernel
theorem dX6_addReadFeast_28 : decode cX6_addReadFeast 28 = .ok (.iconst 1, 1) := by decide +kernel
theorem dX6_addReadFeast_29 : decode cX6_addReadFeast 29 = .ok (.goto 4, 3) := by decide +kernel
theorem dX6_addReadFeast_32 : decode cX6_addReadFeast 32 = .ok (.iconst 0, 1) := by decide +kernel
theorem dX6_addReadFeast_33 : decode cX6_addReadFeast 33 = .ok (.istore_n 1, 1) := by decide +kernel
theorem dX6_addReadFeast_34 : decode cX6_addReadFeast 34 = .ok (.aload_n 0, 1) := by decide +kernel
theorem dX6_addReadFeast_35 : decode cX6_addReadFeast 35 = .ok (.getfield 12, 3) := by decide +kernel
theorem dX6_addReadFeast_38 : decode cX6_addReadFeast 38 = .ok (.getfield 87, 3) := by decide +kernel
theorem dX6_addReadFeast_41 : decode cX6_addReadFeast 41 = .ok (.bipush 10, 2) := by decide +kernel
theorem dX6_addReadFeast_43 : decode cX6_addReadFeast 43 = .ok (.if_icmp .ge 7, 3) := by decide +kernel
theorem dX6_addReadFeast_46 : decode cX6_addReadFeast 46 = .ok (.iload_n 1, 1) := by decide +kernel
theorem dX6_addReadFeast_47 : decode cX6_addReadFeast 47 = .ok (.ifCond .eq 5, 3) := by decide +kernel
theorem dX6_addReadFeast_50 : decode cX6_addReadFeast 50 = .ok (.iconst 0, 1) := by decide +kernel
theorem dX6_addReadFeast_51 : decode cX6_addReadFeast 51 = .ok (.ireturn, 1) := by decide +kernel
theorem dX6_addReadFeast_52 : decode cX6_addReadFeast 52 = .ok (.aload_n 0, 1) := by decide +kernel
theorem dX6_addReadFeast_53 : decode cX6_addReadFeast 53 = .ok (.getfield 12, 3) := by decide +kernel
theorem dX6_addReadFeast_56 : decode cX6_addReadFeast 56 = .ok (.aload_n 0, 1) := by decide +kernel
theorem dX6_addReadFeast_57 : decode cX6_addReadFeast 57 = .ok (.getfield 35, 3) := by decide +kernel
theorem dX6_addReadFeast_60 : decode cX6_addReadFeast 60 = .ok (.invokevirtual 274, 3) := by decide +kernel
theorem dX6_addReadFeast_63 : decode cX6_addReadFeast 63 = .ok (.iconst 1, 1) := by decide +kernel
theorem dX6_addReadFeast_64 : decode cX6_addReadFeast 64 = .ok (.ireturn, 1) := by decide +kernel
theorem dX6_lowestFeastOn_0 : decode cX6_lowestFeastOn 0 = .ok (.aload_n 0, 1) := by decide +kernel
theorem dX6_lowestFeastOn_1 : decode cX6_lowestFeastOn 1 = .ok (.getfield 49, 3) := by decide +kernel
theorem dX6_lowestFeastOn_4 : decode cX6_lowestFeastOn 4 = .ok (.aload_n 0, 1) := by decide +kernel
theorem dX6_lowestFeastOn_5 : decode cX6_lowestFeastOn 5 = .ok (.getfield 12, 3) := by decide +kernel
theorem dX6_lowestFeastOn_8 : decode cX6_lowestFeastOn 8 = .ok (.iload_n 1, 1) := by decide +kernel
theorem dX6_lowestFeastOn_9 : decode cX6_lowestFeastOn 9 = .ok (.invokevirtual 187, 3) := by decide +kernel
theorem dX6_lowestFeastOn_12 : decode cX6_lowestFeastOn 12 = .ok (.iconst 0, 1) := by decide +kernel
theorem dX6_lowestFeastOn_13 : decode cX6_lowestFeastOn 13 = .ok (.istore_n 3, 1) := by decide +kernel
theorem dX6_lowestFeastOn_14 : decode cX6_lowestFeastOn 14 = .ok (.iload_n 3, 1) := by decide +kernel
theorem dX6_lowestFeastOn_15 : decode cX6_lowestFeastOn 15 = .ok (.aload_n 0, 1) := by decide +kernel
theorem dX6_lowestFeastOn_16 : decode cX6_lowestFeastOn 16 = .ok (.getfield 12, 3) := by decide +kernel
theorem dX6_lowestFeastOn_19 : decode cX6_lowestFeastOn 19 = .ok (.getfield 87, 3) := by decide +kernel
theorem dX6_lowestFeastOn_22 : decode cX6_lowestFeastOn 22 = .ok (.if_icmp .ge 23, 3) := by decide +kernel
theorem dX6_lowestFeastOn_25 : decode cX6_lowestFeastOn 25 = .ok (.aload_n 0, 1) := by decide +kernel
theorem dX6_lowestFeastOn_26 : decode cX6_lowestFeastOn 26 = .ok (.getfield 49, 3) := by decide +kernel
theorem dX6_lowestFeastOn_29 : decode cX6_lowestFeastOn 29 = .ok (.iload_n 3, 1) := by decide +kernel
theorem dX6_lowestFeastOn_30 : decode cX6_lowestFeastOn 30 = .ok (.invokevirtual 191, 3) := by decide +kernel
theorem dX6_lowestFeastOn_33 : decode cX6_lowestFeastOn 33 = .ok (.iload_n 2, 1) := by decide +kernel
theorem dX6_lowestFeastOn_34 : decode cX6_lowestFeastOn 34 = .ok (.if_icmp .ne 5, 3) := by decide +kernel
theorem dX6_lowestFeastOn_37 : decode cX6_lowestFeastOn 37 = .ok (.iload_n 3, 1) := by decide +kernel
theorem dX6_lowestFeastOn_38 : decode cX6_lowestFeastOn 38 = .ok (.ireturn, 1) := by decide +kernel
theorem dX6_lowestFeastOn_39 : decode cX6_lowestFeastOn 39 = .ok (.iinc 3 1, 3) := by decide +kernel
theorem dX6_lowestFeastOn_42 : decode cX6_lowestFeastOn 42 = .ok (.goto (-28), 3) := by decide +kernel
theorem dX6_lowestFeastOn_45 : decode cX6_lowestFeastOn 45 = .ok (.iconst (-1), 1) := by decide +kernel
theorem dX6_lowestFeastOn_46 : decode cX6_lowestFeastOn 46 = .ok (.ireturn, 1) := by decide +kernel
theorem dX6_feastProperty_0 : decode cX6_feastProperty 0 = .ok (.iload_n 2, 1) := by decide +kernel
theorem dX6_feastProperty_1 : decode cX6_feastProperty 1 = .ok (.tableswitch 95 0 2 #[27, 39, 51], 27) := by decide +kernel
theorem dX6_feastProperty_28 : decode cX6_feastProperty 28 = .ok (.aload_n 0, 1) := by decide +kernel
theorem dX6_feastProperty_29 : decode cX6_feastProperty 29 = .ok (.getfield 12, 3) := by decide +kernel
theorem dX6_feastProperty_32 : decode cX6_feastProperty 32 = .ok (.getfield 278, 3) := by decide +kernel
theorem dX6_feastProperty_35 : decode cX6_feastProperty 35 = .ok (.iload_n 1, 1) := by decide +kernel
theorem dX6_feastProperty_36 : decode cX6_feastProperty 36 = .ok (.invokevirtual 105, 3) := by decide +kernel
theorem dX6_feastProperty_39 : decode cX6_feastProperty 39 = .ok (.ireturn, 1) := by decide +kernel
theorem dX6_feastProperty_40 : decode cX6_feastProperty 40 = .ok (.aload_n 0, 1) := by decide +kernel
theorem dX6_feastProperty_41 : decode cX6_feastProperty 41 = .ok (.getfield 12, 3) := by decide +kernel
theorem dX6_feastProperty_44 : decode cX6_feastProperty 44 = .ok (.getfield 102, 3) := by decide +kernel
theorem dX6_feastProperty_47 : decode cX6_feastProperty 47 = .ok (.iload_n 1, 1) := by decide +kernel
theorem dX6_feastProperty_48 : decode cX6_feastProperty 48 = .ok (.invokevirtual 105, 3) := by decide +kernel
theorem dX6_feastProperty_51 : decode cX6_feastProperty 51 = .ok (.ireturn, 1) := by decide +kernel
theorem dX6_feastProperty_52 : decode cX6_feastProperty 52 = .ok (.aload_n 0, 1) := by decide +kernel
theorem dX6_feastProperty_53 : decode cX6_feastProperty 53 = .ok (.getfield 12, 3) := by decide +kernel
theorem dX6_feastProperty_56 : decode cX6_feastProperty 56 = .ok (.getfield 278, 3) := by decide +kernel
theorem dX6_feastProperty_59 : decode cX6_feastProperty 59 = .ok (.iload_n 1, 1) := by decide +kernel
theorem dX6_feastProperty_60 : decode cX6_feastProperty 60 = .ok (.invokevirtual 105, 3) := by decide +kernel
theorem dX6_feastProperty_63 : decode cX6_feastProperty 63 = .ok (.iconst 3, 1) := by decide +kernel
theorem dX6_feastProperty_64 : decode cX6_feastProperty 64 = .ok (.if_icmp .ne 20, 3) := by decide +kernel
theorem dX6_feastProperty_67 : decode cX6_feastProperty 67 = .ok (.aload_n 0, 1) := by decide +kernel
theorem dX6_feastProperty_68 : decode cX6_feastProperty 68 = .ok (.getfield 12, 3) := by decide +kernel
theorem dX6_feastProperty_71 : decode cX6_feastProperty 71 = .ok (.getfield 281, 3) := by decide +kernel
theorem dX6_feastProperty_74 : decode cX6_feastProperty 74 = .ok (.iload_n 1, 1) := by decide +kernel
theorem dX6_feastProperty_75 : decode cX6_feastProperty 75 = .ok (.invokevirtual 105, 3) := by decide +kernel
theorem dX6_feastProperty_78 : decode cX6_feastProperty 78 = .ok (.bipush 90, 2) := by decide +kernel
theorem dX6_feastProperty_80 : decode cX6_feastProperty 80 = .ok (.iadd, 1) := by decide +kernel
theorem dX6_feastProperty_81 : decode cX6_feastProperty 81 = .ok (.goto 14, 3) := by decide +kernel
theorem dX6_feastProperty_84 : decode cX6_feastProperty 84 = .ok (.aload_n 0, 1) := by decide +kernel
theorem dX6_feastProperty_85 : decode cX6_feastProperty 85 = .ok (.getfield 12, 3) := by decide +kernel
theorem dX6_feastProperty_88 : decode cX6_feastProperty 88 = .ok (.getfield 281, 3) := by decide +kernel
theorem dX6_feastProperty_91 : decode cX6_feastProperty 91 = .ok (.iload_n 1, 1) := by decide +kernel
theorem dX6_feastProperty_92 : decode cX6_feastProperty 92 = .ok (.invokevirtual 105, 3) := by decide +kernel
theorem dX6_feastProperty_95 : decode cX6_feastProperty 95 = .ok (.ireturn, 1) := by decide +kernel
theorem dX6_feastProperty_96 : decode cX6_feastProperty 96 = .ok (.aload_n 0, 1) := by decide +kernel
theorem dX6_feastProperty_97 : decode cX6_feastProperty 97 = .ok (.getfield 12, 3) := by decide +kernel
theorem dX6_feastProperty_100 : decode cX6_feastProperty 100 = .ok (.getfield 284, 3) := by decide +kernel
theorem dX6_feastProperty_103 : decode cX6_feastProperty 103 = .ok (.iload_n 1, 1) := by decide +kernel
theorem dX6_feastProperty_104 : decode cX6_feastProperty 104 = .ok (.invokevirtual 105, 3) := by decide +kernel
theorem dX6_feastProperty_107 : decode cX6_feastProperty 107 = .ok (.ireturn, 1) := by decide +kernel
theorem dX6_stickProperty_0 : decode cX6_stickProperty 0 = .ok (.iload_n 2, 1) := by decide +kernel
theorem dX6_stickProperty_1 : decode cX6_stickProperty 1 = .ok (.tableswitch 73 0 3 #[31, 43, 55, 64], 31) := by decide +kernel
theorem dX6_stickProperty_32 : decode cX6_stickProperty 32 = .ok (.aload_n 0, 1) := by decide +kernel
theorem dX6_stickProperty_33 : decode cX6_stickProperty 33 = .ok (.getfield 12, 3) := by decide +kernel
theorem dX6_stickProperty_36 : decode cX6_stickProperty 36 = .ok (.getfield 139, 3) := by decide +kernel
theorem dX6_stickProperty_39 : decode cX6_stickProperty 39 = .ok (.iload_n 1, 1) := by decide +kernel
theorem dX6_stickProperty_40 : decode cX6_stickProperty 40 = .ok (.invokevirtual 105, 3) := by decide +kernel
theorem dX6_stickProperty_43 : decode cX6_stickProperty 43 = .ok (.ireturn, 1) := by decide +kernel
theorem dX6_stickProperty_44 : decode cX6_stickProperty 44 = .ok (.aload_n 0, 1) := by decide +kernel
theorem dX6_stickProperty_45 : decode cX6_stickProperty 45 = .ok (.getfield 12, 3) := by decide +kernel
theorem dX6_stickProperty_48 : decode cX6_stickProperty 48 = .ok (.getfield 287, 3) := by decide +kernel
theorem dX6_stickProperty_51 : decode cX6_stickProperty 51 = .ok (.iload_n 1, 1) := by decide +kernel
theorem dX6_stickProperty_52 : decode cX6_stickProperty 52 = .ok (.invokevirtual 105, 3) := by decide +kernel
theorem dX6_stickProperty_55 : decode cX6_stickProperty 55 = .ok (.ireturn, 1) := by decide +kernel
theorem dX6_stickProperty_56 : decode cX6_stickProperty 56 = .ok (.aload_n 0, 1) := by decide +kernel
theorem dX6_stickProperty_57 : decode cX6_stickProperty 57 = .ok (.getfield 12, 3) := by decide +kernel
theorem dX6_stickProperty_60 : decode cX6_stickProperty 60 = .ok (.iload_n 1, 1) := by decide +kernel
theorem dX6_stickProperty_61 : decode cX6_stickProperty 61 = .ok (.invokevirtual 133, 3) := by decide +kernel
theorem dX6_stickProperty_64 : decode cX6_stickProperty 64 = .ok (.ireturn, 1) := by decide +kernel
theorem dX6_stickProperty_65 : decode cX6_stickProperty 65 = .ok (.aload_n 0, 1) := by decide +kernel
theorem dX6_stickProperty_66 : decode cX6_stickProperty 66 = .ok (.iload_n 1, 1) := by decide +kernel
theorem dX6_stickProperty_67 : decode cX6_stickProperty 67 = .ok (.iload_n 1, 1) := by decide +kernel
theorem dX6_stickProperty_68 : decode cX6_stickProperty 68 = .ok (.iconst 1, 1) := by decide +kernel
theorem dX6_stickProperty_69 : decode cX6_stickProperty 69 = .ok (.iadd, 1) := by decide +kernel
theorem dX6_stickProperty_70 : decode cX6_stickProperty 70 = .ok (.invokevirtual 290, 3) := by decide +kernel
theorem dX6_stickProperty_73 : decode cX6_stickProperty 73 = .ok (.ireturn, 1) := by decide +kernel
theorem dX6_stickProperty_74 : decode cX6_stickProperty 74 = .ok (.aload_n 0, 1) := by decide +kernel
theorem dX6_stickProperty_75 : decode cX6_stickProperty 75 = .ok (.getfield 12, 3) := by decide +kernel
theorem dX6_stickProperty_78 : decode cX6_stickProperty 78 = .ok (.iload_n 1, 1) := by decide +kernel
theorem dX6_stickProperty_79 : decode cX6_stickProperty 79 = .ok (.iload_n 2, 1) := by decide +kernel
end
section
theorem dX6_stickProperty_80 : decode cX6_stickProperty 80 = .ok (.iconst 4, 1) := by decide +kernel
theorem dX6_stickProperty_81 : decode cX6_stickProperty 81 = .ok (.isub, 1) := by decide +kernel
theorem dX6_stickProperty_82 : decode cX6_stickProperty 82 = .ok (.invokevirtual 293, 3) := by decide +kernel
theorem dX6_stickProperty_85 : decode cX6_stickProperty 85 = .ok (.ireturn, 1) := by decide +kernel
theorem dX6_numberOf_0 : decode cX6_numberOf 0 = .ok (.iload_n 1, 1) := by decide +kernel
theorem dX6_numberOf_1 : decode cX6_numberOf 1 = .ok (.tableswitch 92 0 7 #[47, 55, 92, 92, 92, 63, 71, 84], 47) := by decide +kernel
theorem dX6_numberOf_48 : decode cX6_numberOf 48 = .ok (.aload_n 0, 1) := by decide +kernel
theorem dX6_numberOf_49 : decode cX6_numberOf 49 = .ok (.getfield 12, 3) := by decide +kernel
theorem dX6_numberOf_52 : decode cX6_numberOf 52 = .ok (.getfield 87, 3) := by decide +kernel
theorem dX6_numberOf_55 : decode cX6_numberOf 55 = .ok (.ireturn, 1) := by decide +kernel
theorem dX6_numberOf_56 : decode cX6_numberOf 56 = .ok (.aload_n 0, 1) := by decide +kernel
theorem dX6_numberOf_57 : decode cX6_numberOf 57 = .ok (.getfield 12, 3) := by decide +kernel
theorem dX6_numberOf_60 : decode cX6_numberOf 60 = .ok (.getfield 236, 3) := by decide +kernel
theorem dX6_numberOf_63 : decode cX6_numberOf 63 = .ok (.ireturn, 1) := by decide +kernel
theorem dX6_numberOf_64 : decode cX6_numberOf 64 = .ok (.aload_n 0, 1) := by decide +kernel
theorem dX6_numberOf_65 : decode cX6_numberOf 65 = .ok (.getfield 12, 3) := by decide +kernel
theorem dX6_numberOf_68 : decode cX6_numberOf 68 = .ok (.getfield 145, 3) := by decide +kernel
theorem dX6_numberOf_71 : decode cX6_numberOf 71 = .ok (.ireturn, 1) := by decide +kernel
theorem dX6_numberOf_72 : decode cX6_numberOf 72 = .ok (.aload_n 0, 1) := by decide +kernel
theorem dX6_numberOf_73 : decode cX6_numberOf 73 = .ok (.iconst 0, 1) := by decide +kernel
theorem dX6_numberOf_74 : decode cX6_numberOf 74 = .ok (.aload_n 0, 1) := by decide +kernel
theorem dX6_numberOf_75 : decode cX6_numberOf 75 = .ok (.getfield 12, 3) := by decide +kernel
theorem dX6_numberOf_78 : decode cX6_numberOf 78 = .ok (.getfield 236, 3) := by decide +kernel
theorem dX6_numberOf_81 : decode cX6_numberOf 81 = .ok (.invokevirtual 290, 3) := by decide +kernel
theorem dX6_numberOf_84 : decode cX6_numberOf 84 = .ok (.ireturn, 1) := by decide +kernel
theorem dX6_numberOf_85 : decode cX6_numberOf 85 = .ok (.aload_n 0, 1) := by decide +kernel
theorem dX6_numberOf_86 : decode cX6_numberOf 86 = .ok (.getfield 19, 3) := by decide +kernel
theorem dX6_numberOf_89 : decode cX6_numberOf 89 = .ok (.invokevirtual 161, 3) := by decide +kernel
theorem dX6_numberOf_92 : decode cX6_numberOf 92 = .ok (.ireturn, 1) := by decide +kernel
theorem dX6_numberOf_93 : decode cX6_numberOf 93 = .ok (.aload_n 0, 1) := by decide +kernel
theorem dX6_numberOf_94 : decode cX6_numberOf 94 = .ok (.getfield 12, 3) := by decide +kernel
theorem dX6_numberOf_97 : decode cX6_numberOf 97 = .ok (.getfield 116, 3) := by decide +kernel
theorem dX6_numberOf_100 : decode cX6_numberOf 100 = .ok (.iload_n 1, 1) := by decide +kernel
theorem dX6_numberOf_101 : decode cX6_numberOf 101 = .ok (.iconst 2, 1) := by decide +kernel
theorem dX6_numberOf_102 : decode cX6_numberOf 102 = .ok (.isub, 1) := by decide +kernel
theorem dX6_numberOf_103 : decode cX6_numberOf 103 = .ok (.invokevirtual 105, 3) := by decide +kernel
theorem dX6_numberOf_106 : decode cX6_numberOf 106 = .ok (.iconst 5, 1) := by decide +kernel
theorem dX6_numberOf_107 : decode cX6_numberOf 107 = .ok (.iadd, 1) := by decide +kernel
theorem dX6_numberOf_108 : decode cX6_numberOf 108 = .ok (.ireturn, 1) := by decide +kernel
theorem dX6_staleFeasts_0 : decode cX6_staleFeasts 0 = .ok (.iconst 0, 1) := by decide +kernel
theorem dX6_staleFeasts_1 : decode cX6_staleFeasts 1 = .ok (.istore_n 3, 1) := by decide +kernel
theorem dX6_staleFeasts_2 : decode cX6_staleFeasts 2 = .ok (.iload_n 1, 1) := by decide +kernel
theorem dX6_staleFeasts_3 : decode cX6_staleFeasts 3 = .ok (.istore 4, 2) := by decide +kernel
theorem dX6_staleFeasts_5 : decode cX6_staleFeasts 5 = .ok (.iload 4, 2) := by decide +kernel
theorem dX6_staleFeasts_7 : decode cX6_staleFeasts 7 = .ok (.iload_n 2, 1) := by decide +kernel
theorem dX6_staleFeasts_8 : decode cX6_staleFeasts 8 = .ok (.if_icmp .ge 137, 3) := by decide +kernel
theorem dX6_staleFeasts_11 : decode cX6_staleFeasts 11 = .ok (.aload_n 0, 1) := by decide +kernel
theorem dX6_staleFeasts_12 : decode cX6_staleFeasts 12 = .ok (.getfield 42, 3) := by decide +kernel
theorem dX6_staleFeasts_15 : decode cX6_staleFeasts 15 = .ok (.aload_n 0, 1) := by decide +kernel
theorem dX6_staleFeasts_16 : decode cX6_staleFeasts 16 = .ok (.getfield 12, 3) := by decide +kernel
theorem dX6_staleFeasts_19 : decode cX6_staleFeasts 19 = .ok (.aload_n 0, 1) := by decide +kernel
theorem dX6_staleFeasts_20 : decode cX6_staleFeasts 20 = .ok (.getfield 12, 3) := by decide +kernel
theorem dX6_staleFeasts_23 : decode cX6_staleFeasts 23 = .ok (.getfield 139, 3) := by decide +kernel
theorem dX6_staleFeasts_26 : decode cX6_staleFeasts 26 = .ok (.iload 4, 2) := by decide +kernel
theorem dX6_staleFeasts_28 : decode cX6_staleFeasts 28 = .ok (.invokevirtual 105, 3) := by decide +kernel
theorem dX6_staleFeasts_31 : decode cX6_staleFeasts 31 = .ok (.aload_n 0, 1) := by decide +kernel
theorem dX6_staleFeasts_32 : decode cX6_staleFeasts 32 = .ok (.getfield 12, 3) := by decide +kernel
theorem dX6_staleFeasts_35 : decode cX6_staleFeasts 35 = .ok (.getfield 116, 3) := by decide +kernel
theorem dX6_staleFeasts_38 : decode cX6_staleFeasts 38 = .ok (.aload_n 0, 1) := by decide +kernel
theorem dX6_staleFeasts_39 : decode cX6_staleFeasts 39 = .ok (.getfield 12, 3) := by decide +kernel
theorem dX6_staleFeasts_42 : decode cX6_staleFeasts 42 = .ok (.getfield 287, 3) := by decide +kernel
theorem dX6_staleFeasts_45 : decode cX6_staleFeasts 45 = .ok (.iload 4, 2) := by decide +kernel
theorem dX6_staleFeasts_47 : decode cX6_staleFeasts 47 = .ok (.invokevirtual 105, 3) := by decide +kernel
theorem dX6_staleFeasts_50 : decode cX6_staleFeasts 50 = .ok (.invokevirtual 105, 3) := by decide +kernel
theorem dX6_staleFeasts_53 : decode cX6_staleFeasts 53 = .ok (.invokevirtual 122, 3) := by decide +kernel
theorem dX6_staleFeasts_56 : decode cX6_staleFeasts 56 = .ok (.aload_n 0, 1) := by decide +kernel
theorem dX6_staleFeasts_57 : decode cX6_staleFeasts 57 = .ok (.getfield 12, 3) := by decide +kernel
theorem dX6_staleFeasts_60 : decode cX6_staleFeasts 60 = .ok (.getfield 296, 3) := by decide +kernel
theorem dX6_staleFeasts_63 : decode cX6_staleFeasts 63 = .ok (.iload 4, 2) := by decide +kernel
theorem dX6_staleFeasts_65 : decode cX6_staleFeasts 65 = .ok (.invokevirtual 105, 3) := by decide +kernel
theorem dX6_staleFeasts_68 : decode cX6_staleFeasts 68 = .ok (.istore 5, 2) := by decide +kernel
theorem dX6_staleFeasts_70 : decode cX6_staleFeasts 70 = .ok (.iconst 0, 1) := by decide +kernel
theorem dX6_staleFeasts_71 : decode cX6_staleFeasts 71 = .ok (.istore 6, 2) := by decide +kernel
theorem dX6_staleFeasts_73 : decode cX6_staleFeasts 73 = .ok (.iload 6, 2) := by decide +kernel
theorem dX6_staleFeasts_75 : decode cX6_staleFeasts 75 = .ok (.iload 5, 2) := by decide +kernel
theorem dX6_staleFeasts_77 : decode cX6_staleFeasts 77 = .ok (.if_icmp .ge 62, 3) := by decide +kernel
theorem dX6_staleFeasts_80 : decode cX6_staleFeasts 80 = .ok (.iload 6, 2) := by decide +kernel
theorem dX6_staleFeasts_82 : decode cX6_staleFeasts 82 = .ok (.aload_n 0, 1) := by decide +kernel
theorem dX6_staleFeasts_83 : decode cX6_staleFeasts 83 = .ok (.getfield 12, 3) := by decide +kernel
theorem dX6_staleFeasts_86 : decode cX6_staleFeasts 86 = .ok (.getfield 87, 3) := by decide +kernel
theorem dX6_staleFeasts_89 : decode cX6_staleFeasts 89 = .ok (.if_icmp .lt 7, 3) := by decide +kernel
theorem dX6_staleFeasts_92 : decode cX6_staleFeasts 92 = .ok (.iconst 1, 1) := by decide +kernel
theorem dX6_staleFeasts_93 : decode cX6_staleFeasts 93 = .ok (.goto 4, 3) := by decide +kernel
theorem dX6_staleFeasts_96 : decode cX6_staleFeasts 96 = .ok (.iconst 0, 1) := by decide +kernel
theorem dX6_staleFeasts_97 : decode cX6_staleFeasts 97 = .ok (.istore 7, 2) := by decide +kernel
theorem dX6_staleFeasts_99 : decode cX6_staleFeasts 99 = .ok (.iload 7, 2) := by decide +kernel
theorem dX6_staleFeasts_101 : decode cX6_staleFeasts 101 = .ok (.ifCond .ne 29, 3) := by decide +kernel
theorem dX6_staleFeasts_104 : decode cX6_staleFeasts 104 = .ok (.aload_n 0, 1) := by decide +kernel
theorem dX6_staleFeasts_105 : decode cX6_staleFeasts 105 = .ok (.getfield 42, 3) := by decide +kernel
theorem dX6_staleFeasts_108 : decode cX6_staleFeasts 108 = .ok (.getfield 126, 3) := by decide +kernel
theorem dX6_staleFeasts_111 : decode cX6_staleFeasts 111 = .ok (.iload 6, 2) := by decide +kernel
theorem dX6_staleFeasts_113 : decode cX6_staleFeasts 113 = .ok (.invokevirtual 105, 3) := by decide +kernel
theorem dX6_staleFeasts_116 : decode cX6_staleFeasts 116 = .ok (.aload_n 0, 1) := by decide +kernel
theorem dX6_staleFeasts_117 : decode cX6_staleFeasts 117 = .ok (.getfield 12, 3) := by decide +kernel
theorem dX6_staleFeasts_120 : decode cX6_staleFeasts 120 = .ok (.iload 4, 2) := by decide +kernel
theorem dX6_staleFeasts_122 : decode cX6_staleFeasts 122 = .ok (.iload 6, 2) := by decide +kernel
theorem dX6_staleFeasts_124 : decode cX6_staleFeasts 124 = .ok (.invokevirtual 293, 3) := by decide +kernel
theorem dX6_staleFeasts_127 : decode cX6_staleFeasts 127 = .ok (.if_icmp .eq 6, 3) := by decide +kernel
theorem dX6_staleFeasts_130 : decode cX6_staleFeasts 130 = .ok (.iinc 3 1, 3) := by decide +kernel
theorem dX6_staleFeasts_133 : decode cX6_staleFeasts 133 = .ok (.iinc 6 1, 3) := by decide +kernel
theorem dX6_staleFeasts_136 : decode cX6_staleFeasts 136 = .ok (.goto (-63), 3) := by decide +kernel
theorem dX6_staleFeasts_139 : decode cX6_staleFeasts 139 = .ok (.iinc 4 1, 3) := by decide +kernel
theorem dX6_staleFeasts_142 : decode cX6_staleFeasts 142 = .ok (.goto (-137), 3) := by decide +kernel
theorem dX6_staleFeasts_145 : decode cX6_staleFeasts 145 = .ok (.iload_n 3, 1) := by decide +kernel
theorem dX6_staleFeasts_146 : decode cX6_staleFeasts 146 = .ok (.ireturn, 1) := by decide +kernel
theorem dX6_freshPart_0 : decode cX6_freshPart 0 = .ok (.iconst 0, 1) := by decide +kernel
theorem dX6_freshPart_1 : decode cX6_freshPart 1 = .ok (.istore_n 1, 1) := by decide +kernel
theorem dX6_freshPart_2 : decode cX6_freshPart 2 = .ok (.iconst 0, 1) := by decide +kernel
theorem dX6_freshPart_3 : decode cX6_freshPart 3 = .ok (.istore_n 2, 1) := by decide +kernel
theorem dX6_freshPart_4 : decode cX6_freshPart 4 = .ok (.iload_n 2, 1) := by decide +kernel
theorem dX6_freshPart_5 : decode cX6_freshPart 5 = .ok (.aload_n 0, 1) := by decide +kernel
theorem dX6_freshPart_6 : decode cX6_freshPart 6 = .ok (.getfield 12, 3) := by decide +kernel
theorem dX6_freshPart_9 : decode cX6_freshPart 9 = .ok (.getfield 236, 3) := by decide +kernel
theorem dX6_freshPart_12 : decode cX6_freshPart 12 = .ok (.if_icmp .ge 23, 3) := by decide +kernel
theorem dX6_freshPart_15 : decode cX6_freshPart 15 = .ok (.iload_n 1, 1) := by decide +kernel
theorem dX6_freshPart_16 : decode cX6_freshPart 16 = .ok (.aload_n 0, 1) := by decide +kernel
theorem dX6_freshPart_17 : decode cX6_freshPart 17 = .ok (.getfield 12, 3) := by decide +kernel
theorem dX6_freshPart_20 : decode cX6_freshPart 20 = .ok (.getfield 296, 3) := by decide +kernel
theorem dX6_freshPart_23 : decode cX6_freshPart 23 = .ok (.iload_n 2, 1) := by decide +kernel
theorem dX6_freshPart_24 : decode cX6_freshPart 24 = .ok (.invokevirtual 105, 3) := by decide +kernel
theorem dX6_freshPart_27 : decode cX6_freshPart 27 = .ok (.iadd, 1) := by decide +kernel
theorem dX6_freshPart_28 : decode cX6_freshPart 28 = .ok (.istore_n 1, 1) := by decide +kernel
theorem dX6_freshPart_29 : decode cX6_freshPart 29 = .ok (.iinc 2 1, 3) := by decide +kernel
theorem dX6_freshPart_32 : decode cX6_freshPart 32 = .ok (.goto (-28), 3) := by decide +kernel
theorem dX6_freshPart_35 : decode cX6_freshPart 35 = .ok (.iload_n 1, 1) := by decide +kernel
theorem dX6_freshPart_36 : decode cX6_freshPart 36 = .ok (.ifCond .gt 5, 3) := by decide +kernel
theorem dX6_freshPart_39 : decode cX6_freshPart 39 = .ok (.dconst 1, 1) := by decide +kernel
theorem dX6_freshPart_40 : decode cX6_freshPart 40 = .ok (.dreturn, 1) := by decide +kernel
theorem dX6_freshPart_41 : decode cX6_freshPart 41 = .ok (.iload_n 1, 1) := by decide +kernel
theorem dX6_freshPart_42 : decode cX6_freshPart 42 = .ok (.aload_n 0, 1) := by decide +kernel
theorem dX6_freshPart_43 : decode cX6_freshPart 43 = .ok (.iconst 0, 1) := by decide +kernel
theorem dX6_freshPart_44 : decode cX6_freshPart 44 = .ok (.aload_n 0, 1) := by decide +kernel
theorem dX6_freshPart_45 : decode cX6_freshPart 45 = .ok (.getfield 12, 3) := by decide +kernel
theorem dX6_freshPart_48 : decode cX6_freshPart 48 = .ok (.getfield 236, 3) := by decide +kernel
theorem dX6_freshPart_51 : decode cX6_freshPart 51 = .ok (.invokevirtual 290, 3) := by decide +kernel
theorem dX6_freshPart_54 : decode cX6_freshPart 54 = .ok (.isub, 1) := by decide +kernel
theorem dX6_freshPart_55 : decode cX6_freshPart 55 = .ok (.istore_n 2, 1) := by decide +kernel
theorem dX6_freshPart_56 : decode cX6_freshPart 56 = .ok (.iload_n 2, 1) := by decide +kernel
theorem dX6_freshPart_57 : decode cX6_freshPart 57 = .ok (.i2d, 1) := by decide +kernel
theorem dX6_freshPart_58 : decode cX6_freshPart 58 = .ok (.iload_n 1, 1) := by decide +kernel
theorem dX6_freshPart_59 : decode cX6_freshPart 59 = .ok (.i2d, 1) := by decide +kernel
theorem dX6_freshPart_60 : decode cX6_freshPart 60 = .ok (.ddiv, 1) := by decide +kernel
theorem dX6_freshPart_61 : decode cX6_freshPart 61 = .ok (.dreturn, 1) := by decide +kernel
theorem dX6_outermost_0 : decode cX6_outermost 0 = .ok (.iconst (-1), 1) := by decide +kernel
theorem dX6_outermost_1 : decode cX6_outermost 1 = .ok (.istore 5, 2) := by decide +kernel
theorem dX6_outermost_3 : decode cX6_outermost 3 = .ok (.iload_n 2, 1) := by decide +kernel
theorem dX6_outermost_4 : decode cX6_outermost 4 = .ok (.istore 6, 2) := by decide +kernel
theorem dX6_outermost_6 : decode cX6_outermost 6 = .ok (.iload 6, 2) := by decide +kernel
theorem dX6_outermost_8 : decode cX6_outermost 8 = .ok (.iload_n 2, 1) := by decide +kernel
theorem dX6_outermost_9 : decode cX6_outermost 9 = .ok (.iload_n 3, 1) := by decide +kernel
theorem dX6_outermost_10 : decode cX6_outermost 10 = .ok (.iadd, 1) := by decide +kernel
theorem dX6_outermost_11 : decode cX6_outermost 11 = .ok (.if_icmp .ge 78, 3) := by decide +kernel
theorem dX6_outermost_14 : decode cX6_outermost 14 = .ok (.iload 6, 2) := by decide +kernel
theorem dX6_outermost_16 : decode cX6_outermost 16 = .ok (.sipush 999, 3) := by decide +kernel
theorem dX6_outermost_19 : decode cX6_outermost 19 = .ok (.if_icmp .gt 70, 3) := by decide +kernel
theorem dX6_outermost_22 : decode cX6_outermost 22 = .ok (.aload_n 0, 1) := by decide +kernel
theorem dX6_outermost_23 : decode cX6_outermost 23 = .ok (.getfield 49, 3) := by decide +kernel
theorem dX6_outermost_26 : decode cX6_outermost 26 = .ok (.aload_n 0, 1) := by decide +kernel
theorem dX6_outermost_27 : decode cX6_outermost 27 = .ok (.getfield 12, 3) := by decide +kernel
theorem dX6_outermost_30 : decode cX6_outermost 30 = .ok (.iload 6, 2) := by decide +kernel
theorem dX6_outermost_32 : decode cX6_outermost 32 = .ok (.invokevirtual 187, 3) := by decide +kernel
theorem dX6_outermost_35 : decode cX6_outermost 35 = .ok (.aload_n 0, 1) := by decide +kernel
theorem dX6_outermost_36 : decode cX6_outermost 36 = .ok (.getfield 49, 3) := by decide +kernel
theorem dX6_outermost_39 : decode cX6_outermost 39 = .ok (.iload_n 1, 1) := by decide +kernel
theorem dX6_outermost_40 : decode cX6_outermost 40 = .ok (.invokevirtual 191, 3) := by decide +kernel
theorem dX6_outermost_43 : decode cX6_outermost 43 = .ok (.istore 7, 2) := by decide +kernel
theorem dX6_outermost_45 : decode cX6_outermost 45 = .ok (.iload 7, 2) := by decide +kernel
theorem dX6_outermost_47 : decode cX6_outermost 47 = .ok (.iconst (-1), 1) := by decide +kernel
theorem dX6_outermost_48 : decode cX6_outermost 48 = .ok (.if_icmp .eq 35, 3) := by decide +kernel
theorem dX6_outermost_51 : decode cX6_outermost 51 = .ok (.iload 5, 2) := by decide +kernel
theorem dX6_outermost_53 : decode cX6_outermost 53 = .ok (.iconst (-1), 1) := by decide +kernel
theorem dX6_outermost_54 : decode cX6_outermost 54 = .ok (.if_icmp .eq 25, 3) := by decide +kernel
theorem dX6_outermost_57 : decode cX6_outermost 57 = .ok (.iload 4, 2) := by decide +kernel
theorem dX6_outermost_59 : decode cX6_outermost 59 = .ok (.ifCond .eq 13, 3) := by decide +kernel
theorem dX6_outermost_62 : decode cX6_outermost 62 = .ok (.iload 7, 2) := by decide +kernel
theorem dX6_outermost_64 : decode cX6_outermost 64 = .ok (.iload 5, 2) := by decide +kernel
theorem dX6_outermost_66 : decode cX6_outermost 66 = .ok (.if_icmp .le 17, 3) := by decide +kernel
theorem dX6_outermost_69 : decode cX6_outermost 69 = .ok (.goto 10, 3) := by decide +kernel
theorem dX6_outermost_72 : decode cX6_outermost 72 = .ok (.iload 7, 2) := by decide +kernel
theorem dX6_outermost_74 : decode cX6_outermost 74 = .ok (.iload 5, 2) := by decide +kernel
theorem dX6_outermost_76 : decode cX6_outermost 76 = .ok (.if_icmp .ge 7, 3) := by decide +kernel
theorem dX6_outermost_79 : decode cX6_outermost 79 = .ok (.iload 7, 2) := by decide +kernel
theorem dX6_outermost_81 : decode cX6_outermost 81 = .ok (.istore 5, 2) := by decide +kernel
theorem dX6_outermost_83 : decode cX6_outermost 83 = .ok (.iinc 6 1, 3) := by decide +kernel
theorem dX6_outermost_86 : decode cX6_outermost 86 = .ok (.goto (-80), 3) := by decide +kernel
theorem dX6_outermost_89 : decode cX6_outermost 89 = .ok (.iload 5, 2) := by decide +kernel
theorem dX6_outermost_91 : decode cX6_outermost 91 = .ok (.ireturn, 1) := by decide +kernel
theorem dX6_nextAlike_0 : decode cX6_nextAlike 0 = .ok (.aload_n 0, 1) := by decide +kernel
theorem dX6_nextAlike_1 : decode cX6_nextAlike 1 = .ok (.getfield 49, 3) := by decide +kernel
theorem dX6_nextAlike_4 : decode cX6_nextAlike 4 = .ok (.aload_n 0, 1) := by decide +kernel
theorem dX6_nextAlike_5 : decode cX6_nextAlike 5 = .ok (.getfield 12, 3) := by decide +kernel
theorem dX6_nextAlike_8 : decode cX6_nextAlike 8 = .ok (.iload_n 1, 1) := by decide +kernel
theorem dX6_nextAlike_9 : decode cX6_nextAlike 9 = .ok (.invokevirtual 187, 3) := by decide +kernel
theorem dX6_nextAlike_12 : decode cX6_nextAlike 12 = .ok (.iload_n 1, 1) := by decide +kernel
theorem dX6_nextAlike_13 : decode cX6_nextAlike 13 = .ok (.iconst 1, 1) := by decide +kernel
theorem dX6_nextAlike_14 : decode cX6_nextAlike 14 = .ok (.iadd, 1) := by decide +kernel
theorem dX6_nextAlike_15 : decode cX6_nextAlike 15 = .ok (.istore_n 2, 1) := by decide +kernel
theorem dX6_nextAlike_16 : decode cX6_nextAlike 16 = .ok (.iload_n 2, 1) := by decide +kernel
theorem dX6_nextAlike_17 : decode cX6_nextAlike 17 = .ok (.iload_n 1, 1) := by decide +kernel
theorem dX6_nextAlike_18 : decode cX6_nextAlike 18 = .ok (.bipush 100, 2) := by decide +kernel
theorem dX6_nextAlike_20 : decode cX6_nextAlike 20 = .ok (.iadd, 1) := by decide +kernel
theorem dX6_nextAlike_21 : decode cX6_nextAlike 21 = .ok (.if_icmp .gt 73, 3) := by decide +kernel
theorem dX6_nextAlike_24 : decode cX6_nextAlike 24 = .ok (.iload_n 2, 1) := by decide +kernel
theorem dX6_nextAlike_25 : decode cX6_nextAlike 25 = .ok (.sipush 999, 3) := by decide +kernel
theorem dX6_nextAlike_28 : decode cX6_nextAlike 28 = .ok (.if_icmp .gt 66, 3) := by decide +kernel
theorem dX6_nextAlike_31 : decode cX6_nextAlike 31 = .ok (.iload_n 2, 1) := by decide +kernel
theorem dX6_nextAlike_32 : decode cX6_nextAlike 32 = .ok (.invokestatic 164, 3) := by decide +kernel
theorem dX6_nextAlike_35 : decode cX6_nextAlike 35 = .ok (.iload_n 1, 1) := by decide +kernel
theorem dX6_nextAlike_36 : decode cX6_nextAlike 36 = .ok (.invokestatic 164, 3) := by decide +kernel
theorem dX6_nextAlike_39 : decode cX6_nextAlike 39 = .ok (.if_icmp .ne 49, 3) := by decide +kernel
theorem dX6_nextAlike_42 : decode cX6_nextAlike 42 = .ok (.iload_n 2, 1) := by decide +kernel
theorem dX6_nextAlike_43 : decode cX6_nextAlike 43 = .ok (.invokestatic 167, 3) := by decide +kernel
theorem dX6_nextAlike_46 : decode cX6_nextAlike 46 = .ok (.iload_n 1, 1) := by decide +kernel
theorem dX6_nextAlike_47 : decode cX6_nextAlike 47 = .ok (.invokestatic 167, 3) := by decide +kernel
theorem dX6_nextAlike_50 : decode cX6_nextAlike 50 = .ok (.if_icmp .ne 38, 3) := by decide +kernel
theorem dX6_nextAlike_53 : decode cX6_nextAlike 53 = .ok (.aload_n 0, 1) := by decide +kernel
theorem dX6_nextAlike_54 : decode cX6_nextAlike 54 = .ok (.getfield 53, 3) := by decide +kernel
theorem dX6_nextAlike_57 : decode cX6_nextAlike 57 = .ok (.aload_n 0, 1) := by decide +kernel
theorem dX6_nextAlike_58 : decode cX6_nextAlike 58 = .ok (.getfield 12, 3) := by decide +kernel
theorem dX6_nextAlike_61 : decode cX6_nextAlike 61 = .ok (.iload_n 2, 1) := by decide +kernel
theorem dX6_nextAlike_62 : decode cX6_nextAlike 62 = .ok (.invokevirtual 187, 3) := by decide +kernel
theorem dX6_nextAlike_65 : decode cX6_nextAlike 65 = .ok (.aload_n 0, 1) := by decide +kernel
theorem dX6_nextAlike_66 : decode cX6_nextAlike 66 = .ok (.getfield 53, 3) := by decide +kernel
theorem dX6_nextAlike_69 : decode cX6_nextAlike 69 = .ok (.aload_n 0, 1) := by decide +kernel
theorem dX6_nextAlike_70 : decode cX6_nextAlike 70 = .ok (.getfield 49, 3) := by decide +kernel
theorem dX6_nextAlike_73 : decode cX6_nextAlike 73 = .ok (.aload_n 0, 1) := by decide +kernel
theorem dX6_nextAlike_74 : decode cX6_nextAlike 74 = .ok (.getfield 12, 3) := by decide +kernel
theorem dX6_nextAlike_77 : decode cX6_nextAlike 77 = .ok (.getfield 87, 3) := by decide +kernel
theorem dX6_nextAlike_80 : decode cX6_nextAlike 80 = .ok (.invokevirtual 299, 3) := by decide +kernel
theorem dX6_nextAlike_83 : decode cX6_nextAlike 83 = .ok (.ifCond .eq 5, 3) := by decide +kernel
theorem dX6_nextAlike_86 : decode cX6_nextAlike 86 = .ok (.iload_n 2, 1) := by decide +kernel
theorem dX6_nextAlike_87 : decode cX6_nextAlike 87 = .ok (.ireturn, 1) := by decide +kernel
theorem dX6_nextAlike_88 : decode cX6_nextAlike 88 = .ok (.iinc 2 1, 3) := by decide +kernel
theorem dX6_nextAlike_91 : decode cX6_nextAlike 91 = .ok (.goto (-75), 3) := by decide +kernel
theorem dX6_nextAlike_94 : decode cX6_nextAlike 94 = .ok (.iconst (-1), 1) := by decide +kernel
theorem dX6_nextAlike_95 : decode cX6_nextAlike 95 = .ok (.ireturn, 1) := by decide +kernel
theorem dX6_calmestSlip_0 : decode cX6_calmestSlip 0 = .ok (.aload_n 0, 1) := by decide +kernel
theorem dX6_calmestSlip_1 : decode cX6_calmestSlip 1 = .ok (.getfield 49, 3) := by decide +kernel
theorem dX6_calmestSlip_4 : decode cX6_calmestSlip 4 = .ok (.aload_n 0, 1) := by decide +kernel
theorem dX6_calmestSlip_5 : decode cX6_calmestSlip 5 = .ok (.getfield 12, 3) := by decide +kernel
theorem dX6_calmestSlip_8 : decode cX6_calmestSlip 8 = .ok (.iload_n 2, 1) := by decide +kernel
theorem dX6_calmestSlip_9 : decode cX6_calmestSlip 9 = .ok (.invokevirtual 187, 3) := by decide +kernel
theorem dX6_calmestSlip_12 : decode cX6_calmestSlip 12 = .ok (.iconst 0, 1) := by decide +kernel
theorem dX6_calmestSlip_13 : decode cX6_calmestSlip 13 = .ok (.istore_n 3, 1) := by decide +kernel
theorem dX6_calmestSlip_14 : decode cX6_calmestSlip 14 = .ok (.bipush 11, 2) := by decide +kernel
theorem dX6_calmestSlip_16 : decode cX6_calmestSlip 16 = .ok (.istore 4, 2) := by decide +kernel
theorem dX6_calmestSlip_18 : decode cX6_calmestSlip 18 = .ok (.iconst 0, 1) := by decide +kernel
theorem dX6_calmestSlip_19 : decode cX6_calmestSlip 19 = .ok (.istore 5, 2) := by decide +kernel
theorem dX6_calmestSlip_21 : decode cX6_calmestSlip 21 = .ok (.iload 5, 2) := by decide +kernel
theorem dX6_calmestSlip_23 : decode cX6_calmestSlip 23 = .ok (.bipush 10, 2) := by decide +kernel
theorem dX6_calmestSlip_25 : decode cX6_calmestSlip 25 = .ok (.if_icmp .gt 83, 3) := by decide +kernel
theorem dX6_calmestSlip_28 : decode cX6_calmestSlip 28 = .ok (.iload 5, 2) := by decide +kernel
theorem dX6_calmestSlip_30 : decode cX6_calmestSlip 30 = .ok (.iconst 1, 1) := by decide +kernel
theorem dX6_calmestSlip_31 : decode cX6_calmestSlip 31 = .ok (.iadd, 1) := by decide +kernel
theorem dX6_calmestSlip_32 : decode cX6_calmestSlip 32 = .ok (.iconst 2, 1) := by decide +kernel
theorem dX6_calmestSlip_33 : decode cX6_calmestSlip 33 = .ok (.idiv, 1) := by decide +kernel
theorem dX6_calmestSlip_34 : decode cX6_calmestSlip 34 = .ok (.istore 6, 2) := by decide +kernel
theorem dX6_calmestSlip_36 : decode cX6_calmestSlip 36 = .ok (.iload 5, 2) := by decide +kernel
theorem dX6_calmestSlip_38 : decode cX6_calmestSlip 38 = .ok (.iconst 2, 1) := by decide +kernel
theorem dX6_calmestSlip_39 : decode cX6_calmestSlip 39 = .ok (.irem, 1) := by decide +kernel
theorem dX6_calmestSlip_40 : decode cX6_calmestSlip 40 = .ok (.iconst 1, 1) := by decide +kernel
theorem dX6_calmestSlip_41 : decode cX6_calmestSlip 41 = .ok (.if_icmp .ne 9, 3) := by decide +kernel
theorem dX6_calmestSlip_44 : decode cX6_calmestSlip 44 = .ok (.iload 6, 2) := by decide +kernel
theorem dX6_calmestSlip_46 : decode cX6_calmestSlip 46 = .ok (.ineg, 1) := by decide +kernel
theorem dX6_calmestSlip_47 : decode cX6_calmestSlip 47 = .ok (.goto 5, 3) := by decide +kernel
theorem dX6_calmestSlip_50 : decode cX6_calmestSlip 50 = .ok (.iload 6, 2) := by decide +kernel
theorem dX6_calmestSlip_52 : decode cX6_calmestSlip 52 = .ok (.istore 7, 2) := by decide +kernel
theorem dX6_calmestSlip_54 : decode cX6_calmestSlip 54 = .ok (.aload_n 0, 1) := by decide +kernel
theorem dX6_calmestSlip_55 : decode cX6_calmestSlip 55 = .ok (.getfield 49, 3) := by decide +kernel
theorem dX6_calmestSlip_58 : decode cX6_calmestSlip 58 = .ok (.iload_n 1, 1) := by decide +kernel
theorem dX6_calmestSlip_59 : decode cX6_calmestSlip 59 = .ok (.invokevirtual 303, 3) := by decide +kernel
theorem dX6_calmestSlip_62 : decode cX6_calmestSlip 62 = .ok (.aload_n 0, 1) := by decide +kernel
theorem dX6_calmestSlip_63 : decode cX6_calmestSlip 63 = .ok (.getfield 12, 3) := by decide +kernel
theorem dX6_calmestSlip_66 : decode cX6_calmestSlip 66 = .ok (.iload_n 2, 1) := by decide +kernel
theorem dX6_calmestSlip_67 : decode cX6_calmestSlip 67 = .ok (.iload 7, 2) := by decide +kernel
theorem dX6_calmestSlip_69 : decode cX6_calmestSlip 69 = .ok (.invokevirtual 122, 3) := by decide +kernel
theorem dX6_calmestSlip_72 : decode cX6_calmestSlip 72 = .ok (.aload_n 0, 1) := by decide +kernel
theorem dX6_calmestSlip_73 : decode cX6_calmestSlip 73 = .ok (.getfield 49, 3) := by decide +kernel
theorem dX6_calmestSlip_76 : decode cX6_calmestSlip 76 = .ok (.aload_n 0, 1) := by decide +kernel
theorem dX6_calmestSlip_77 : decode cX6_calmestSlip 77 = .ok (.getfield 12, 3) := by decide +kernel
theorem dX6_calmestSlip_80 : decode cX6_calmestSlip 80 = .ok (.getfield 87, 3) := by decide +kernel
theorem dX6_calmestSlip_83 : decode cX6_calmestSlip 83 = .ok (.invokevirtual 194, 3) := by decide +kernel
theorem dX6_calmestSlip_86 : decode cX6_calmestSlip 86 = .ok (.istore 8, 2) := by decide +kernel
theorem dX6_calmestSlip_88 : decode cX6_calmestSlip 88 = .ok (.iload 8, 2) := by decide +kernel
theorem dX6_calmestSlip_90 : decode cX6_calmestSlip 90 = .ok (.iload 4, 2) := by decide +kernel
theorem dX6_calmestSlip_92 : decode cX6_calmestSlip 92 = .ok (.if_icmp .ge 10, 3) := by decide +kernel
theorem dX6_calmestSlip_95 : decode cX6_calmestSlip 95 = .ok (.iload 8, 2) := by decide +kernel
theorem dX6_calmestSlip_97 : decode cX6_calmestSlip 97 = .ok (.istore 4, 2) := by decide +kernel
theorem dX6_calmestSlip_99 : decode cX6_calmestSlip 99 = .ok (.iload 7, 2) := by decide +kernel
theorem dX6_calmestSlip_101 : decode cX6_calmestSlip 101 = .ok (.istore_n 3, 1) := by decide +kernel
theorem dX6_calmestSlip_102 : decode cX6_calmestSlip 102 = .ok (.iinc 5 1, 3) := by decide +kernel
theorem dX6_calmestSlip_105 : decode cX6_calmestSlip 105 = .ok (.goto (-84), 3) := by decide +kernel
theorem dX6_calmestSlip_108 : decode cX6_calmestSlip 108 = .ok (.iload_n 3, 1) := by decide +kernel
theorem dX6_calmestSlip_109 : decode cX6_calmestSlip 109 = .ok (.ireturn, 1) := by decide +kernel
theorem dX6_mixed_0 : decode cX6_mixed 0 = .ok (.ldc2_w 307, 3) := by decide +kernel
theorem dX6_mixed_3 : decode cX6_mixed 3 = .ok (.lload_n 0, 1) := by decide +kernel
theorem dX6_mixed_4 : decode cX6_mixed 4 = .ok (.lmul, 1) := by decide +kernel
theorem dX6_mixed_5 : decode cX6_mixed 5 = .ok (.lload_n 2, 1) := by decide +kernel
theorem dX6_mixed_6 : decode cX6_mixed 6 = .ok (.ladd, 1) := by decide +kernel
theorem dX6_mixed_7 : decode cX6_mixed 7 = .ok (.lreturn, 1) := by decide +kernel
theorem dX6_gatherDigestCouncils_0 : decode cX6_gatherDigestCouncils 0 = .ok (.iconst 0, 1) := by decide +kernel
theorem dX6_gatherDigestCouncils_1 : decode cX6_gatherDigestCouncils 1 = .ok (.istore_n 1, 1) := by decide +kernel
theorem dX6_gatherDigestCouncils_2 : decode cX6_gatherDigestCouncils 2 = .ok (.iload_n 1, 1) := by decide +kernel
theorem dX6_gatherDigestCouncils_3 : decode cX6_gatherDigestCouncils 3 = .ok (.aload_n 0, 1) := by decide +kernel
theorem dX6_gatherDigestCouncils_4 : decode cX6_gatherDigestCouncils 4 = .ok (.getfield 60, 3) := by decide +kernel
theorem dX6_gatherDigestCouncils_7 : decode cX6_gatherDigestCouncils 7 = .ok (.arraylength, 1) := by decide +kernel
theorem dX6_gatherDigestCouncils_8 : decode cX6_gatherDigestCouncils 8 = .ok (.if_icmp .ge 41, 3) := by decide +kernel
theorem dX6_gatherDigestCouncils_11 : decode cX6_gatherDigestCouncils 11 = .ok (.iload_n 1, 1) := by decide +kernel
theorem dX6_gatherDigestCouncils_12 : decode cX6_gatherDigestCouncils 12 = .ok (.getstatic 56, 3) := by decide +kernel
theorem dX6_gatherDigestCouncils_15 : decode cX6_gatherDigestCouncils 15 = .ok (.arraylength, 1) := by decide +kernel
theorem dX6_gatherDigestCouncils_16 : decode cX6_gatherDigestCouncils 16 = .ok (.if_icmp .ge 33, 3) := by decide +kernel
theorem dX6_gatherDigestCouncils_19 : decode cX6_gatherDigestCouncils 19 = .ok (.aload_n 0, 1) := by decide +kernel
theorem dX6_gatherDigestCouncils_20 : decode cX6_gatherDigestCouncils 20 = .ok (.getfield 60, 3) := by decide +kernel
theorem dX6_gatherDigestCouncils_23 : decode cX6_gatherDigestCouncils 23 = .ok (.iload_n 1, 1) := by decide +kernel
theorem dX6_gatherDigestCouncils_24 : decode cX6_gatherDigestCouncils 24 = .ok (.aaload, 1) := by decide +kernel
theorem dX6_gatherDigestCouncils_25 : decode cX6_gatherDigestCouncils 25 = .ok (.astore_n 2, 1) := by decide +kernel
theorem dX6_gatherDigestCouncils_26 : decode cX6_gatherDigestCouncils 26 = .ok (.aload_n 2, 1) := by decide +kernel
theorem dX6_gatherDigestCouncils_27 : decode cX6_gatherDigestCouncils 27 = .ok (.ifnull 16, 3) := by decide +kernel
theorem dX6_gatherDigestCouncils_30 : decode cX6_gatherDigestCouncils 30 = .ok (.aload_n 2, 1) := by decide +kernel
theorem dX6_gatherDigestCouncils_31 : decode cX6_gatherDigestCouncils 31 = .ok (.aload_n 0, 1) := by decide +kernel
theorem dX6_gatherDigestCouncils_32 : decode cX6_gatherDigestCouncils 32 = .ok (.getfield 12, 3) := by decide +kernel
theorem dX6_gatherDigestCouncils_35 : decode cX6_gatherDigestCouncils 35 = .ok (.getstatic 56, 3) := by decide +kernel
theorem dX6_gatherDigestCouncils_38 : decode cX6_gatherDigestCouncils 38 = .ok (.iload_n 1, 1) := by decide +kernel
theorem dX6_gatherDigestCouncils_39 : decode cX6_gatherDigestCouncils 39 = .ok (.iaload, 1) := by decide +kernel
theorem dX6_gatherDigestCouncils_40 : decode cX6_gatherDigestCouncils 40 = .ok (.invokevirtual 187, 3) := by decide +kernel
theorem dX6_gatherDigestCouncils_43 : decode cX6_gatherDigestCouncils 43 = .ok (.iinc 1 1, 3) := by decide +kernel
theorem dX6_gatherDigestCouncils_46 : decode cX6_gatherDigestCouncils 46 = .ok (.goto (-44), 3) := by decide +kernel
theorem dX6_gatherDigestCouncils_49 : decode cX6_gatherDigestCouncils 49 = .ok (.return_, 1) := by decide +kernel
theorem dX6_mixedFeasts_0 : decode cX6_mixedFeasts 0 = .ok (.lload_n 1, 1) := by decide +kernel
theorem dX6_mixedFeasts_1 : decode cX6_mixedFeasts 1 = .ok (.lstore_n 3, 1) := by decide +kernel
theorem dX6_mixedFeasts_2 : decode cX6_mixedFeasts 2 = .ok (.iconst 0, 1) := by decide +kernel
theorem dX6_mixedFeasts_3 : decode cX6_mixedFeasts 3 = .ok (.istore 5, 2) := by decide +kernel
theorem dX6_mixedFeasts_5 : decode cX6_mixedFeasts 5 = .ok (.iload 5, 2) := by decide +kernel
theorem dX6_mixedFeasts_7 : decode cX6_mixedFeasts 7 = .ok (.aload_n 0, 1) := by decide +kernel
theorem dX6_mixedFeasts_8 : decode cX6_mixedFeasts 8 = .ok (.getfield 12, 3) := by decide +kernel
theorem dX6_mixedFeasts_11 : decode cX6_mixedFeasts 11 = .ok (.getfield 87, 3) := by decide +kernel
theorem dX6_mixedFeasts_14 : decode cX6_mixedFeasts 14 = .ok (.if_icmp .ge 80, 3) := by decide +kernel
theorem dX6_mixedFeasts_17 : decode cX6_mixedFeasts 17 = .ok (.iconst 0, 1) := by decide +kernel
theorem dX6_mixedFeasts_18 : decode cX6_mixedFeasts 18 = .ok (.istore 6, 2) := by decide +kernel
theorem dX6_mixedFeasts_20 : decode cX6_mixedFeasts 20 = .ok (.iload 6, 2) := by decide +kernel
theorem dX6_mixedFeasts_22 : decode cX6_mixedFeasts 22 = .ok (.iconst 3, 1) := by decide +kernel
theorem dX6_mixedFeasts_23 : decode cX6_mixedFeasts 23 = .ok (.if_icmp .gt 23, 3) := by decide +kernel
theorem dX6_mixedFeasts_26 : decode cX6_mixedFeasts 26 = .ok (.lload_n 3, 1) := by decide +kernel
theorem dX6_mixedFeasts_27 : decode cX6_mixedFeasts 27 = .ok (.aload_n 0, 1) := by decide +kernel
theorem dX6_mixedFeasts_28 : decode cX6_mixedFeasts 28 = .ok (.iload 5, 2) := by decide +kernel
theorem dX6_mixedFeasts_30 : decode cX6_mixedFeasts 30 = .ok (.iload 6, 2) := by decide +kernel
theorem dX6_mixedFeasts_32 : decode cX6_mixedFeasts 32 = .ok (.invokevirtual 181, 3) := by decide +kernel
theorem dX6_mixedFeasts_35 : decode cX6_mixedFeasts 35 = .ok (.i2l, 1) := by decide +kernel
theorem dX6_mixedFeasts_36 : decode cX6_mixedFeasts 36 = .ok (.invokestatic 222, 3) := by decide +kernel
theorem dX6_mixedFeasts_39 : decode cX6_mixedFeasts 39 = .ok (.lstore_n 3, 1) := by decide +kernel
theorem dX6_mixedFeasts_40 : decode cX6_mixedFeasts 40 = .ok (.iinc 6 1, 3) := by decide +kernel
theorem dX6_mixedFeasts_43 : decode cX6_mixedFeasts 43 = .ok (.goto (-23), 3) := by decide +kernel
theorem dX6_mixedFeasts_46 : decode cX6_mixedFeasts 46 = .ok (.iconst 0, 1) := by decide +kernel
theorem dX6_mixedFeasts_47 : decode cX6_mixedFeasts 47 = .ok (.istore 6, 2) := by decide +kernel
theorem dX6_mixedFeasts_49 : decode cX6_mixedFeasts 49 = .ok (.iload 6, 2) := by decide +kernel
theorem dX6_mixedFeasts_51 : decode cX6_mixedFeasts 51 = .ok (.aload_n 0, 1) := by decide +kernel
theorem dX6_mixedFeasts_52 : decode cX6_mixedFeasts 52 = .ok (.getfield 60, 3) := by decide +kernel
theorem dX6_mixedFeasts_55 : decode cX6_mixedFeasts 55 = .ok (.arraylength, 1) := by decide +kernel
theorem dX6_mixedFeasts_56 : decode cX6_mixedFeasts 56 = .ok (.if_icmp .ge 32, 3) := by decide +kernel
theorem dX6_mixedFeasts_59 : decode cX6_mixedFeasts 59 = .ok (.aload_n 0, 1) := by decide +kernel
theorem dX6_mixedFeasts_60 : decode cX6_mixedFeasts 60 = .ok (.getfield 60, 3) := by decide +kernel
theorem dX6_mixedFeasts_63 : decode cX6_mixedFeasts 63 = .ok (.iload 6, 2) := by decide +kernel
theorem dX6_mixedFeasts_65 : decode cX6_mixedFeasts 65 = .ok (.aaload, 1) := by decide +kernel
theorem dX6_mixedFeasts_66 : decode cX6_mixedFeasts 66 = .ok (.astore 7, 2) := by decide +kernel
theorem dX6_mixedFeasts_68 : decode cX6_mixedFeasts 68 = .ok (.aload 7, 2) := by decide +kernel
theorem dX6_mixedFeasts_70 : decode cX6_mixedFeasts 70 = .ok (.ifnull 12, 3) := by decide +kernel
theorem dX6_mixedFeasts_73 : decode cX6_mixedFeasts 73 = .ok (.lload_n 3, 1) := by decide +kernel
theorem dX6_mixedFeasts_74 : decode cX6_mixedFeasts 74 = .ok (.aload 7, 2) := by decide +kernel
theorem dX6_mixedFeasts_76 : decode cX6_mixedFeasts 76 = .ok (.iload 5, 2) := by decide +kernel
theorem dX6_mixedFeasts_78 : decode cX6_mixedFeasts 78 = .ok (.invokestatic 309, 3) := by decide +kernel
theorem dX6_mixedFeasts_81 : decode cX6_mixedFeasts 81 = .ok (.lstore_n 3, 1) := by decide +kernel
theorem dX6_mixedFeasts_82 : decode cX6_mixedFeasts 82 = .ok (.iinc 6 1, 3) := by decide +kernel
theorem dX6_mixedFeasts_85 : decode cX6_mixedFeasts 85 = .ok (.goto (-36), 3) := by decide +kernel
theorem dX6_mixedFeasts_88 : decode cX6_mixedFeasts 88 = .ok (.iinc 5 1, 3) := by decide +kernel
theorem dX6_mixedFeasts_91 : decode cX6_mixedFeasts 91 = .ok (.goto (-86), 3) := by decide +kernel
theorem dX6_mixedFeasts_94 : decode cX6_mixedFeasts 94 = .ok (.lload_n 3, 1) := by decide +kernel
theorem dX6_mixedFeasts_95 : decode cX6_mixedFeasts 95 = .ok (.lreturn, 1) := by decide +kernel
theorem dX6_mixedDays_0 : decode cX6_mixedDays 0 = .ok (.lload_n 0, 1) := by decide +kernel
theorem dX6_mixedDays_1 : decode cX6_mixedDays 1 = .ok (.lstore 4, 2) := by decide +kernel
theorem dX6_mixedDays_3 : decode cX6_mixedDays 3 = .ok (.iconst 0, 1) := by decide +kernel
theorem dX6_mixedDays_4 : decode cX6_mixedDays 4 = .ok (.istore 6, 2) := by decide +kernel
theorem dX6_mixedDays_6 : decode cX6_mixedDays 6 = .ok (.iload 6, 2) := by decide +kernel
theorem dX6_mixedDays_8 : decode cX6_mixedDays 8 = .ok (.iconst 3, 1) := by decide +kernel
theorem dX6_mixedDays_9 : decode cX6_mixedDays 9 = .ok (.if_icmp .ge 51, 3) := by decide +kernel
theorem dX6_mixedDays_12 : decode cX6_mixedDays 12 = .ok (.lload 4, 2) := by decide +kernel
theorem dX6_mixedDays_14 : decode cX6_mixedDays 14 = .ok (.aload_n 2, 1) := by decide +kernel
theorem dX6_mixedDays_15 : decode cX6_mixedDays 15 = .ok (.iload 6, 2) := by decide +kernel
theorem dX6_mixedDays_17 : decode cX6_mixedDays 17 = .ok (.invokevirtual 303, 3) := by decide +kernel
theorem dX6_mixedDays_20 : decode cX6_mixedDays 20 = .ok (.getfield 184, 3) := by decide +kernel
theorem dX6_mixedDays_23 : decode cX6_mixedDays 23 = .ok (.iload_n 3, 1) := by decide +kernel
theorem dX6_mixedDays_24 : decode cX6_mixedDays 24 = .ok (.invokevirtual 105, 3) := by decide +kernel
theorem dX6_mixedDays_27 : decode cX6_mixedDays 27 = .ok (.i2l, 1) := by decide +kernel
theorem dX6_mixedDays_28 : decode cX6_mixedDays 28 = .ok (.invokestatic 222, 3) := by decide +kernel
theorem dX6_mixedDays_31 : decode cX6_mixedDays 31 = .ok (.lstore 4, 2) := by decide +kernel
theorem dX6_mixedDays_33 : decode cX6_mixedDays 33 = .ok (.lload 4, 2) := by decide +kernel
theorem dX6_mixedDays_35 : decode cX6_mixedDays 35 = .ok (.aload_n 2, 1) := by decide +kernel
theorem dX6_mixedDays_36 : decode cX6_mixedDays 36 = .ok (.iload 6, 2) := by decide +kernel
theorem dX6_mixedDays_38 : decode cX6_mixedDays 38 = .ok (.invokevirtual 303, 3) := by decide +kernel
theorem dX6_mixedDays_41 : decode cX6_mixedDays 41 = .ok (.getfield 126, 3) := by decide +kernel
theorem dX6_mixedDays_44 : decode cX6_mixedDays 44 = .ok (.iload_n 3, 1) := by decide +kernel
theorem dX6_mixedDays_45 : decode cX6_mixedDays 45 = .ok (.invokevirtual 105, 3) := by decide +kernel
theorem dX6_mixedDays_48 : decode cX6_mixedDays 48 = .ok (.i2l, 1) := by decide +kernel
theorem dX6_mixedDays_49 : decode cX6_mixedDays 49 = .ok (.invokestatic 222, 3) := by decide +kernel
theorem dX6_mixedDays_52 : decode cX6_mixedDays 52 = .ok (.lstore 4, 2) := by decide +kernel
theorem dX6_mixedDays_54 : decode cX6_mixedDays 54 = .ok (.iinc 6 1, 3) := by decide +kernel
theorem dX6_mixedDays_57 : decode cX6_mixedDays 57 = .ok (.goto (-51), 3) := by decide +kernel
theorem dX6_mixedDays_60 : decode cX6_mixedDays 60 = .ok (.lload 4, 2) := by decide +kernel
theorem dX6_mixedDays_62 : decode cX6_mixedDays 62 = .ok (.aload_n 2, 1) := by decide +kernel
theorem dX6_mixedDays_63 : decode cX6_mixedDays 63 = .ok (.iload_n 3, 1) := by decide +kernel
theorem dX6_mixedDays_64 : decode cX6_mixedDays 64 = .ok (.invokevirtual 191, 3) := by decide +kernel
theorem dX6_mixedDays_67 : decode cX6_mixedDays 67 = .ok (.i2l, 1) := by decide +kernel
theorem dX6_mixedDays_68 : decode cX6_mixedDays 68 = .ok (.invokestatic 222, 3) := by decide +kernel
theorem dX6_mixedDays_71 : decode cX6_mixedDays 71 = .ok (.lreturn, 1) := by decide +kernel
theorem dX6_mixedQuarrels_0 : decode cX6_mixedQuarrels 0 = .ok (.lload_n 1, 1) := by decide +kernel
theorem dX6_mixedQuarrels_1 : decode cX6_mixedQuarrels 1 = .ok (.lstore_n 3, 1) := by decide +kernel
theorem dX6_mixedQuarrels_2 : decode cX6_mixedQuarrels 2 = .ok (.iconst 0, 1) := by decide +kernel
theorem dX6_mixedQuarrels_3 : decode cX6_mixedQuarrels 3 = .ok (.istore 5, 2) := by decide +kernel
theorem dX6_mixedQuarrels_5 : decode cX6_mixedQuarrels 5 = .ok (.iload 5, 2) := by decide +kernel
theorem dX6_mixedQuarrels_7 : decode cX6_mixedQuarrels 7 = .ok (.aload_n 0, 1) := by decide +kernel
theorem dX6_mixedQuarrels_8 : decode cX6_mixedQuarrels 8 = .ok (.getfield 60, 3) := by decide +kernel
theorem dX6_mixedQuarrels_11 : decode cX6_mixedQuarrels 11 = .ok (.arraylength, 1) := by decide +kernel
theorem dX6_mixedQuarrels_12 : decode cX6_mixedQuarrels 12 = .ok (.if_icmp .ge 79, 3) := by decide +kernel
theorem dX6_mixedQuarrels_15 : decode cX6_mixedQuarrels 15 = .ok (.aload_n 0, 1) := by decide +kernel
theorem dX6_mixedQuarrels_16 : decode cX6_mixedQuarrels 16 = .ok (.getfield 60, 3) := by decide +kernel
theorem dX6_mixedQuarrels_19 : decode cX6_mixedQuarrels 19 = .ok (.iload 5, 2) := by decide +kernel
theorem dX6_mixedQuarrels_21 : decode cX6_mixedQuarrels 21 = .ok (.aaload, 1) := by decide +kernel
theorem dX6_mixedQuarrels_22 : decode cX6_mixedQuarrels 22 = .ok (.astore 6, 2) := by decide +kernel
theorem dX6_mixedQuarrels_24 : decode cX6_mixedQuarrels 24 = .ok (.aload 6, 2) := by decide +kernel
theorem dX6_mixedQuarrels_26 : decode cX6_mixedQuarrels 26 = .ok (.ifnull 59, 3) := by decide +kernel
theorem dX6_mixedQuarrels_29 : decode cX6_mixedQuarrels 29 = .ok (.lload_n 3, 1) := by decide +kernel
theorem dX6_mixedQuarrels_30 : decode cX6_mixedQuarrels 30 = .ok (.aload 6, 2) := by decide +kernel
theorem dX6_mixedQuarrels_32 : decode cX6_mixedQuarrels 32 = .ok (.aload_n 0, 1) := by decide +kernel
theorem dX6_mixedQuarrels_33 : decode cX6_mixedQuarrels 33 = .ok (.getfield 12, 3) := by decide +kernel
theorem dX6_mixedQuarrels_36 : decode cX6_mixedQuarrels 36 = .ok (.getfield 87, 3) := by decide +kernel
theorem dX6_mixedQuarrels_39 : decode cX6_mixedQuarrels 39 = .ok (.invokevirtual 194, 3) := by decide +kernel
theorem dX6_mixedQuarrels_42 : decode cX6_mixedQuarrels 42 = .ok (.i2l, 1) := by decide +kernel
theorem dX6_mixedQuarrels_43 : decode cX6_mixedQuarrels 43 = .ok (.invokestatic 222, 3) := by decide +kernel
theorem dX6_mixedQuarrels_46 : decode cX6_mixedQuarrels 46 = .ok (.lstore_n 3, 1) := by decide +kernel
theorem dX6_mixedQuarrels_47 : decode cX6_mixedQuarrels 47 = .ok (.iconst 0, 1) := by decide +kernel
theorem dX6_mixedQuarrels_48 : decode cX6_mixedQuarrels 48 = .ok (.istore 7, 2) := by decide +kernel
theorem dX6_mixedQuarrels_50 : decode cX6_mixedQuarrels 50 = .ok (.iload 7, 2) := by decide +kernel
theorem dX6_mixedQuarrels_52 : decode cX6_mixedQuarrels 52 = .ok (.iconst 3, 1) := by decide +kernel
theorem dX6_mixedQuarrels_53 : decode cX6_mixedQuarrels 53 = .ok (.if_icmp .ge 32, 3) := by decide +kernel
theorem dX6_mixedQuarrels_56 : decode cX6_mixedQuarrels 56 = .ok (.lload_n 3, 1) := by decide +kernel
theorem dX6_mixedQuarrels_57 : decode cX6_mixedQuarrels 57 = .ok (.aload 6, 2) := by decide +kernel
theorem dX6_mixedQuarrels_59 : decode cX6_mixedQuarrels 59 = .ok (.iload 7, 2) := by decide +kernel
theorem dX6_mixedQuarrels_61 : decode cX6_mixedQuarrels 61 = .ok (.invokevirtual 303, 3) := by decide +kernel
theorem dX6_mixedQuarrels_64 : decode cX6_mixedQuarrels 64 = .ok (.aload_n 0, 1) := by decide +kernel
theorem dX6_mixedQuarrels_65 : decode cX6_mixedQuarrels 65 = .ok (.getfield 12, 3) := by decide +kernel
theorem dX6_mixedQuarrels_68 : decode cX6_mixedQuarrels 68 = .ok (.getfield 87, 3) := by decide +kernel
theorem dX6_mixedQuarrels_71 : decode cX6_mixedQuarrels 71 = .ok (.invokevirtual 213, 3) := by decide +kernel
theorem dX6_mixedQuarrels_74 : decode cX6_mixedQuarrels 74 = .ok (.i2l, 1) := by decide +kernel
theorem dX6_mixedQuarrels_75 : decode cX6_mixedQuarrels 75 = .ok (.invokestatic 222, 3) := by decide +kernel
theorem dX6_mixedQuarrels_78 : decode cX6_mixedQuarrels 78 = .ok (.lstore_n 3, 1) := by decide +kernel
theorem dX6_mixedQuarrels_79 : decode cX6_mixedQuarrels 79 = .ok (.iinc 7 1, 3) := by decide +kernel
theorem dX6_mixedQuarrels_82 : decode cX6_mixedQuarrels 82 = .ok (.goto (-32), 3) := by decide +kernel
theorem dX6_mixedQuarrels_85 : decode cX6_mixedQuarrels 85 = .ok (.iinc 5 1, 3) := by decide +kernel
theorem dX6_mixedQuarrels_88 : decode cX6_mixedQuarrels 88 = .ok (.goto (-83), 3) := by decide +kernel
theorem dX6_mixedQuarrels_91 : decode cX6_mixedQuarrels 91 = .ok (.lload_n 3, 1) := by decide +kernel
theorem dX6_mixedQuarrels_92 : decode cX6_mixedQuarrels 92 = .ok (.lreturn, 1) := by decide +kernel
theorem dX6_bitsOfShare_0 : decode cX6_bitsOfShare 0 = .ok (.dload_n 0, 1) := by decide +kernel
theorem dX6_bitsOfShare_1 : decode cX6_bitsOfShare 1 = .ok (.dconst 0, 1) := by decide +kernel
theorem dX6_bitsOfShare_2 : decode cX6_bitsOfShare 2 = .ok (.dcmp .l, 1) := by decide +kernel
theorem dX6_bitsOfShare_3 : decode cX6_bitsOfShare 3 = .ok (.ifCond .gt 5, 3) := by decide +kernel
theorem dX6_bitsOfShare_6 : decode cX6_bitsOfShare 6 = .ok (.lconst 0, 1) := by decide +kernel
theorem dX6_bitsOfShare_7 : decode cX6_bitsOfShare 7 = .ok (.lreturn, 1) := by decide +kernel
theorem dX6_bitsOfShare_8 : decode cX6_bitsOfShare 8 = .ok (.dload_n 0, 1) := by decide +kernel
theorem dX6_bitsOfShare_9 : decode cX6_bitsOfShare 9 = .ok (.dstore_n 2, 1) := by decide +kernel
theorem dX6_bitsOfShare_10 : decode cX6_bitsOfShare 10 = .ok (.ldc2_w 313, 3) := by decide +kernel
theorem dX6_bitsOfShare_13 : decode cX6_bitsOfShare 13 = .ok (.lstore 4, 2) := by decide +kernel
theorem dX6_bitsOfShare_15 : decode cX6_bitsOfShare 15 = .ok (.iconst 0, 1) := by decide +kernel
theorem dX6_bitsOfShare_16 : decode cX6_bitsOfShare 16 = .ok (.istore 6, 2) := by decide +kernel
theorem dX6_bitsOfShare_18 : decode cX6_bitsOfShare 18 = .ok (.iload 6, 2) := by decide +kernel
theorem dX6_bitsOfShare_20 : decode cX6_bitsOfShare 20 = .ok (.sipush 1022, 3) := by decide +kernel
theorem dX6_bitsOfShare_23 : decode cX6_bitsOfShare 23 = .ok (.if_icmp .ge 27, 3) := by decide +kernel
theorem dX6_bitsOfShare_26 : decode cX6_bitsOfShare 26 = .ok (.dload_n 2, 1) := by decide +kernel
theorem dX6_bitsOfShare_27 : decode cX6_bitsOfShare 27 = .ok (.dconst 1, 1) := by decide +kernel
theorem dX6_bitsOfShare_28 : decode cX6_bitsOfShare 28 = .ok (.dcmp .g, 1) := by decide +kernel
theorem dX6_bitsOfShare_29 : decode cX6_bitsOfShare 29 = .ok (.ifCond .ge 21, 3) := by decide +kernel
theorem dX6_bitsOfShare_32 : decode cX6_bitsOfShare 32 = .ok (.dload_n 2, 1) := by decide +kernel
theorem dX6_bitsOfShare_33 : decode cX6_bitsOfShare 33 = .ok (.ldc2_w 315, 3) := by decide +kernel
theorem dX6_bitsOfShare_36 : decode cX6_bitsOfShare 36 = .ok (.dmul, 1) := by decide +kernel
theorem dX6_bitsOfShare_37 : decode cX6_bitsOfShare 37 = .ok (.dstore_n 2, 1) := by decide +kernel
theorem dX6_bitsOfShare_38 : decode cX6_bitsOfShare 38 = .ok (.lload 4, 2) := by decide +kernel
theorem dX6_bitsOfShare_40 : decode cX6_bitsOfShare 40 = .ok (.lconst 1, 1) := by decide +kernel
theorem dX6_bitsOfShare_41 : decode cX6_bitsOfShare 41 = .ok (.lsub, 1) := by decide +kernel
theorem dX6_bitsOfShare_42 : decode cX6_bitsOfShare 42 = .ok (.lstore 4, 2) := by decide +kernel
theorem dX6_bitsOfShare_44 : decode cX6_bitsOfShare 44 = .ok (.iinc 6 1, 3) := by decide +kernel
theorem dX6_bitsOfShare_47 : decode cX6_bitsOfShare 47 = .ok (.goto (-29), 3) := by decide +kernel
theorem dX6_bitsOfShare_50 : decode cX6_bitsOfShare 50 = .ok (.lload 4, 2) := by decide +kernel
theorem dX6_bitsOfShare_52 : decode cX6_bitsOfShare 52 = .ok (.bipush 52, 2) := by decide +kernel
theorem dX6_bitsOfShare_54 : decode cX6_bitsOfShare 54 = .ok (.lshl, 1) := by decide +kernel
theorem dX6_bitsOfShare_55 : decode cX6_bitsOfShare 55 = .ok (.dload_n 2, 1) := by decide +kernel
theorem dX6_bitsOfShare_56 : decode cX6_bitsOfShare 56 = .ok (.dconst 1, 1) := by decide +kernel
theorem dX6_bitsOfShare_57 : decode cX6_bitsOfShare 57 = .ok (.dsub, 1) := by decide +kernel
theorem dX6_bitsOfShare_58 : decode cX6_bitsOfShare 58 = .ok (.ldc2_w 317, 3) := by decide +kernel
theorem dX6_bitsOfShare_61 : decode cX6_bitsOfShare 61 = .ok (.dmul, 1) := by decide +kernel
theorem dX6_bitsOfShare_62 : decode cX6_bitsOfShare 62 = .ok (.d2l, 1) := by decide +kernel
theorem dX6_bitsOfShare_63 : decode cX6_bitsOfShare 63 = .ok (.ladd, 1) := by decide +kernel
theorem dX6_bitsOfShare_64 : decode cX6_bitsOfShare 64 = .ok (.lreturn, 1) := by decide +kernel
theorem dX7_init_0 : decode cX7_init 0 = .ok (.aload_n 0, 1) := by decide +kernel
theorem dX7_init_1 : decode cX7_init 1 = .ok (.invokespecial 1, 3) := by decide +kernel
theorem dX7_init_4 : decode cX7_init 4 = .ok (.aload_n 0, 1) := by decide +kernel
theorem dX7_init_5 : decode cX7_init 5 = .ok (.bipush 111, 2) := by decide +kernel
theorem dX7_init_7 : decode cX7_init 7 = .ok (.newarray .int, 2) := by decide +kernel
theorem dX7_init_9 : decode cX7_init 9 = .ok (.putfield 7, 3) := by decide +kernel
theorem dX7_init_12 : decode cX7_init 12 = .ok (.aload_n 0, 1) := by decide +kernel
theorem dX7_init_13 : decode cX7_init 13 = .ok (.sipush 666, 3) := by decide +kernel
theorem dX7_init_16 : decode cX7_init 16 = .ok (.newarray .int, 2) := by decide +kernel
theorem dX7_init_18 : decode cX7_init 18 = .ok (.putfield 13, 3) := by decide +kernel
theorem dX7_init_21 : decode cX7_init 21 = .ok (.aload_n 0, 1) := by decide +kernel
theorem dX7_init_22 : decode cX7_init 22 = .ok (.bipush 60, 2) := by decide +kernel
theorem dX7_init_24 : decode cX7_init 24 = .ok (.newarray .int, 2) := by decide +kernel
theorem dX7_init_26 : decode cX7_init 26 = .ok (.putfield 16, 3) := by decide +kernel
theorem dX7_init_29 : decode cX7_init 29 = .ok (.aload_n 0, 1) := by decide +kernel
theorem dX7_init_30 : decode cX7_init 30 = .ok (.bipush 10, 2) := by decide +kernel
theorem dX7_init_32 : decode cX7_init 32 = .ok (.newarray .int, 2) := by decide +kernel
theorem dX7_init_34 : decode cX7_init 34 = .ok (.putfield 19, 3) := by decide +kernel
theorem dX7_init_37 : decode cX7_init 37 = .ok (.aload_n 0, 1) := by decide +kernel
theorem dX7_init_38 : decode cX7_init 38 = .ok (.bipush 10, 2) := by decide +kernel
theorem dX7_init_40 : decode cX7_init 40 = .ok (.newarray .int, 2) := by decide +kernel
theorem dX7_init_42 : decode cX7_init 42 = .ok (.putfield 22, 3) := by decide +kernel
theorem dX7_init_45 : decode cX7_init 45 = .ok (.aload_n 0, 1) := by decide +kernel
theorem dX7_init_46 : decode cX7_init 46 = .ok (.sipush 366, 3) := by decide +kernel
theorem dX7_init_49 : decode cX7_init 49 = .ok (.newarray .boolean, 2) := by decide +kernel
theorem dX7_init_51 : decode cX7_init 51 = .ok (.putfield 25, 3) := by decide +kernel
theorem dX7_init_54 : decode cX7_init 54 = .ok (.aload_n 0, 1) := by decide +kernel
theorem dX7_init_55 : decode cX7_init 55 = .ok (.bipush 30, 2) := by decide +kernel
theorem dX7_init_57 : decode cX7_init 57 = .ok (.newarray .int, 2) := by decide +kernel
theorem dX7_init_59 : decode cX7_init 59 = .ok (.putfield 29, 3) := by decide +kernel
theorem dX7_init_62 : decode cX7_init 62 = .ok (.aload_n 0, 1) := by decide +kernel
theorem dX7_init_63 : decode cX7_init 63 = .ok (.iconst 4, 1) := by decide +kernel
theorem dX7_init_64 : decode cX7_init 64 = .ok (.newarray .int, 2) := by decide +kernel
theorem dX7_init_66 : decode cX7_init 66 = .ok (.putfield 32, 3) := by decide +kernel
theorem dX7_init_69 : decode cX7_init 69 = .ok (.aload_n 0, 1) := by decide +kernel
theorem dX7_init_70 : decode cX7_init 70 = .ok (.bipush 10, 2) := by decide +kernel
theorem dX7_init_72 : decode cX7_init 72 = .ok (.newarray .int, 2) := by decide +kernel
theorem dX7_init_74 : decode cX7_init 74 = .ok (.putfield 35, 3) := by decide +kernel
theorem dX7_init_77 : decode cX7_init 77 = .ok (.aload_n 0, 1) := by decide +kernel
theorem dX7_init_78 : decode cX7_init 78 = .ok (.getfield 7, 3) := by decide +kernel
theorem dX7_init_81 : decode cX7_init 81 = .ok (.bipush 44, 2) := by decide +kernel
theorem dX7_init_83 : decode cX7_init 83 = .ok (.sipush 300, 3) := by decide +kernel
theorem dX7_init_86 : decode cX7_init 86 = .ok (.iastore, 1) := by decide +kernel
theorem dX7_init_87 : decode cX7_init 87 = .ok (.return_, 1) := by decide +kernel
theorem dX7_thrown_0 : decode cX7_thrown 0 = .ok (.aload_n 0, 1) := by decide +kernel
theorem dX7_thrown_1 : decode cX7_thrown 1 = .ok (.getfield 38, 3) := by decide +kernel
theorem dX7_thrown_4 : decode cX7_thrown 4 = .ok (.ireturn, 1) := by decide +kernel
theorem dX7_in_0 : decode cX7_in 0 = .ok (.iload_n 0, 1) := by decide +kernel
theorem dX7_in_1 : decode cX7_in 1 = .ok (.iload_n 1, 1) := by decide +kernel
theorem dX7_in_2 : decode cX7_in 2 = .ok (.if_icmp .lt 12, 3) := by decide +kernel
theorem dX7_in_5 : decode cX7_in 5 = .ok (.iload_n 0, 1) := by decide +kernel
theorem dX7_in_6 : decode cX7_in 6 = .ok (.iload_n 2, 1) := by decide +kernel
theorem dX7_in_7 : decode cX7_in 7 = .ok (.if_icmp .gt 7, 3) := by decide +kernel
theorem dX7_in_10 : decode cX7_in 10 = .ok (.iconst 1, 1) := by decide +kernel
theorem dX7_in_11 : decode cX7_in 11 = .ok (.goto 4, 3) := by decide +kernel
theorem dX7_in_14 : decode cX7_in 14 = .ok (.iconst 0, 1) := by decide +kernel
theorem dX7_in_15 : decode cX7_in 15 = .ok (.ireturn, 1) := by decide +kernel
theorem dX7_holds_0 : decode cX7_holds 0 = .ok (.aload_n 0, 1) := by decide +kernel
theorem dX7_holds_1 : decode cX7_holds 1 = .ok (.iload_n 1, 1) := by decide +kernel
theorem dX7_holds_2 : decode cX7_holds 2 = .ok (.putfield 38, 3) := by decide +kernel
theorem dX7_holds_5 : decode cX7_holds 5 = .ok (.iload_n 1, 1) := by decide +kernel
theorem dX7_holds_6 : decode cX7_holds 6 = .ok (.ifCond .ne 7, 3) := by decide +kernel
theorem dX7_holds_9 : decode cX7_holds 9 = .ok (.iconst 1, 1) := by decide +kernel
theorem dX7_holds_10 : decode cX7_holds 10 = .ok (.goto 4, 3) := by decide +kernel
theorem dX7_holds_13 : decode cX7_holds 13 = .ok (.iconst 0, 1) := by decide +kernel
theorem dX7_holds_14 : decode cX7_holds 14 = .ok (.ireturn, 1) := by decide +kernel
theorem dX7_of_0 : decode cX7_of 0 = .ok (.iconst 1, 1) := by decide +kernel
theorem dX7_of_1 : decode cX7_of 1 = .ok (.iconst 4, 1) := by decide +kernel
theorem dX7_of_2 : decode cX7_of 2 = .ok (.iload_n 0, 1) := by decide +kernel
theorem dX7_of_3 : decode cX7_of 3 = .ok (.imul, 1) := by decide +kernel
theorem dX7_of_4 : decode cX7_of 4 = .ok (.iadd, 1) := by decide +kernel
theorem dX7_of_5 : decode cX7_of 5 = .ok (.iload_n 1, 1) := by decide +kernel
theorem dX7_of_6 : decode cX7_of 6 = .ok (.iadd, 1) := by decide +kernel
theorem dX7_of_7 : decode cX7_of 7 = .ok (.ireturn, 1) := by decide +kernel
theorem dX7_ofStick_0 : decode cX7_ofStick 0 = .ok (.bipush 46, 2) := by decide +kernel
theorem dX7_ofStick_2 : decode cX7_ofStick 2 = .ok (.bipush 13, 2) := by decide +kernel
theorem dX7_ofStick_4 : decode cX7_ofStick 4 = .ok (.iload_n 0, 1) := by decide +kernel
theorem dX7_ofStick_5 : decode cX7_ofStick 5 = .ok (.imul, 1) := by decide +kernel
theorem dX7_ofStick_6 : decode cX7_ofStick 6 = .ok (.iadd, 1) := by decide +kernel
theorem dX7_ofStick_7 : decode cX7_ofStick 7 = .ok (.iload_n 1, 1) := by decide +kernel
theorem dX7_ofStick_8 : decode cX7_ofStick 8 = .ok (.iadd, 1) := by decide +kernel
theorem dX7_ofStick_9 : decode cX7_ofStick 9 = .ok (.ireturn, 1) := by decide +kernel
theorem dX7_isFeast_0 : decode cX7_isFeast 0 = .ok (.iload_n 1, 1) := by decide +kernel
theorem dX7_isFeast_1 : decode cX7_isFeast 1 = .ok (.iconst 0, 1) := by decide +kernel
theorem dX7_isFeast_2 : decode cX7_isFeast 2 = .ok (.aload_n 0, 1) := by decide +kernel
theorem dX7_isFeast_3 : decode cX7_isFeast 3 = .ok (.getfield 7, 3) := by decide +kernel
theorem dX7_isFeast_6 : decode cX7_isFeast 6 = .ok (.iconst 0, 1) := by decide +kernel
theorem dX7_isFeast_7 : decode cX7_isFeast 7 = .ok (.iaload, 1) := by decide +kernel
theorem dX7_isFeast_8 : decode cX7_isFeast 8 = .ok (.iconst 1, 1) := by decide +kernel
theorem dX7_isFeast_9 : decode cX7_isFeast 9 = .ok (.isub, 1) := by decide +kernel
theorem dX7_isFeast_10 : decode cX7_isFeast 10 = .ok (.invokestatic 42, 3) := by decide +kernel
theorem dX7_isFeast_13 : decode cX7_isFeast 13 = .ok (.ireturn, 1) := by decide +kernel
theorem dX7_isYear_0 : decode cX7_isYear 0 = .ok (.iload_n 0, 1) := by decide +kernel
theorem dX7_isYear_1 : decode cX7_isYear 1 = .ok (.iconst 0, 1) := by decide +kernel
theorem dX7_isYear_2 : decode cX7_isYear 2 = .ok (.sipush 999, 3) := by decide +kernel
theorem dX7_isYear_5 : decode cX7_isYear 5 = .ok (.invokestatic 42, 3) := by decide +kernel
theorem dX7_isYear_8 : decode cX7_isYear 8 = .ok (.ireturn, 1) := by decide +kernel
theorem dX7_isCarver_0 : decode cX7_isCarver 0 = .ok (.iload_n 0, 1) := by decide +kernel
theorem dX7_isCarver_1 : decode cX7_isCarver 1 = .ok (.iconst 0, 1) := by decide +kernel
theorem dX7_isCarver_2 : decode cX7_isCarver 2 = .ok (.iconst 2, 1) := by decide +kernel
theorem dX7_isCarver_3 : decode cX7_isCarver 3 = .ok (.invokestatic 42, 3) := by decide +kernel
theorem dX7_isCarver_6 : decode cX7_isCarver 6 = .ok (.ireturn, 1) := by decide +kernel
theorem dX7_save_0 : decode cX7_save 0 = .ok (.aload_n 0, 1) := by decide +kernel
theorem dX7_save_1 : decode cX7_save 1 = .ok (.getfield 46, 3) := by decide +kernel
theorem dX7_save_4 : decode cX7_save 4 = .ok (.bipush 6, 2) := by decide +kernel
theorem dX7_save_6 : decode cX7_save 6 = .ok (.if_icmp .ne 43, 3) := by decide +kernel
theorem dX7_save_9 : decode cX7_save 9 = .ok (.iconst 0, 1) := by decide +kernel
theorem dX7_save_10 : decode cX7_save 10 = .ok (.istore_n 1, 1) := by decide +kernel
theorem dX7_save_11 : decode cX7_save 11 = .ok (.iload_n 1, 1) := by decide +kernel
theorem dX7_save_12 : decode cX7_save 12 = .ok (.sipush 555, 3) := by decide +kernel
theorem dX7_save_15 : decode cX7_save 15 = .ok (.if_icmp .ge 24, 3) := by decide +kernel
theorem dX7_save_18 : decode cX7_save 18 = .ok (.aload_n 0, 1) := by decide +kernel
theorem dX7_save_19 : decode cX7_save 19 = .ok (.getfield 13, 3) := by decide +kernel
theorem dX7_save_22 : decode cX7_save 22 = .ok (.iload_n 1, 1) := by decide +kernel
theorem dX7_save_23 : decode cX7_save 23 = .ok (.aload_n 0, 1) := by decide +kernel
theorem dX7_save_24 : decode cX7_save 24 = .ok (.getfield 13, 3) := by decide +kernel
theorem dX7_save_27 : decode cX7_save 27 = .ok (.bipush 111, 2) := by decide +kernel
theorem dX7_save_29 : decode cX7_save 29 = .ok (.iload_n 1, 1) := by decide +kernel
theorem dX7_save_30 : decode cX7_save 30 = .ok (.iadd, 1) := by decide +kernel
theorem dX7_save_31 : decode cX7_save 31 = .ok (.iaload, 1) := by decide +kernel
theorem dX7_save_32 : decode cX7_save 32 = .ok (.iastore, 1) := by decide +kernel
theorem dX7_save_33 : decode cX7_save 33 = .ok (.iinc 1 1, 3) := by decide +kernel
theorem dX7_save_36 : decode cX7_save 36 = .ok (.goto (-25), 3) := by decide +kernel
theorem dX7_save_39 : decode cX7_save 39 = .ok (.aload_n 0, 1) := by decide +kernel
theorem dX7_save_40 : decode cX7_save 40 = .ok (.dup, 1) := by decide +kernel
theorem dX7_save_41 : decode cX7_save 41 = .ok (.getfield 46, 3) := by decide +kernel
theorem dX7_save_44 : decode cX7_save 44 = .ok (.iconst 1, 1) := by decide +kernel
theorem dX7_save_45 : decode cX7_save 45 = .ok (.isub, 1) := by decide +kernel
theorem dX7_save_46 : decode cX7_save 46 = .ok (.putfield 46, 3) := by decide +kernel
theorem dX7_save_49 : decode cX7_save 49 = .ok (.iconst 0, 1) := by decide +kernel
theorem dX7_save_50 : decode cX7_save 50 = .ok (.istore_n 1, 1) := by decide +kernel
theorem dX7_save_51 : decode cX7_save 51 = .ok (.iload_n 1, 1) := by decide +kernel
theorem dX7_save_52 : decode cX7_save 52 = .ok (.bipush 111, 2) := by decide +kernel
theorem dX7_save_54 : decode cX7_save 54 = .ok (.if_icmp .ge 29, 3) := by decide +kernel
theorem dX7_save_57 : decode cX7_save 57 = .ok (.aload_n 0, 1) := by decide +kernel
theorem dX7_save_58 : decode cX7_save 58 = .ok (.getfield 13, 3) := by decide +kernel
theorem dX7_save_61 : decode cX7_save 61 = .ok (.bipush 111, 2) := by decide +kernel
theorem dX7_save_63 : decode cX7_save 63 = .ok (.aload_n 0, 1) := by decide +kernel
theorem dX7_save_64 : decode cX7_save 64 = .ok (.getfield 46, 3) := by decide +kernel
theorem dX7_save_67 : decode cX7_save 67 = .ok (.imul, 1) := by decide +kernel
theorem dX7_save_68 : decode cX7_save 68 = .ok (.iload_n 1, 1) := by decide +kernel
theorem dX7_save_69 : decode cX7_save 69 = .ok (.iadd, 1) := by decide +kernel
theorem dX7_save_70 : decode cX7_save 70 = .ok (.aload_n 0, 1) := by decide +kernel
theorem dX7_save_71 : decode cX7_save 71 = .ok (.getfield 7, 3) := by decide +kernel
theorem dX7_save_74 : decode cX7_save 74 = .ok (.iload_n 1, 1) := by decide +kernel
theorem dX7_save_75 : decode cX7_save 75 = .ok (.iaload, 1) := by decide +kernel
theorem dX7_save_76 : decode cX7_save 76 = .ok (.iastore, 1) := by decide +kernel
theorem dX7_save_77 : decode cX7_save 77 = .ok (.iinc 1 1, 3) := by decide +kernel
theorem dX7_save_80 : decode cX7_save 80 = .ok (.goto (-29), 3) := by decide +kernel
theorem dX7_save_83 : decode cX7_save 83 = .ok (.aload_n 0, 1) := by decide +kernel
theorem dX7_save_84 : decode cX7_save 84 = .ok (.dup, 1) := by decide +kernel
theorem dX7_save_85 : decode cX7_save 85 = .ok (.getfield 46, 3) := by decide +kernel
theorem dX7_save_88 : decode cX7_save 88 = .ok (.iconst 1, 1) := by decide +kernel
theorem dX7_save_89 : decode cX7_save 89 = .ok (.iadd, 1) := by decide +kernel
theorem dX7_save_90 : decode cX7_save 90 = .ok (.putfield 46, 3) := by decide +kernel
theorem dX7_save_93 : decode cX7_save 93 = .ok (.return_, 1) := by decide +kernel
theorem dX7_daysOf_0 : decode cX7_daysOf 0 = .ok (.iload_n 0, 1) := by decide +kernel
theorem dX7_daysOf_1 : decode cX7_daysOf 1 = .ok (.iconst 4, 1) := by decide +kernel
theorem dX7_daysOf_2 : decode cX7_daysOf 2 = .ok (.irem, 1) := by decide +kernel
theorem dX7_daysOf_3 : decode cX7_daysOf 3 = .ok (.ifCond .ne 9, 3) := by decide +kernel
theorem dX7_daysOf_6 : decode cX7_daysOf 6 = .ok (.sipush 366, 3) := by decide +kernel
theorem dX7_daysOf_9 : decode cX7_daysOf 9 = .ok (.goto 6, 3) := by decide +kernel
theorem dX7_daysOf_12 : decode cX7_daysOf 12 = .ok (.sipush 365, 3) := by decide +kernel
theorem dX7_daysOf_15 : decode cX7_daysOf 15 = .ok (.ireturn, 1) := by decide +kernel
theorem dX7_weekday_0 : decode cX7_weekday 0 = .ok (.sipush 365, 3) := by decide +kernel
theorem dX7_weekday_3 : decode cX7_weekday 3 = .ok (.iload_n 0, 1) := by decide +kernel
theorem dX7_weekday_4 : decode cX7_weekday 4 = .ok (.imul, 1) := by decide +kernel
theorem dX7_weekday_5 : decode cX7_weekday 5 = .ok (.iload_n 0, 1) := by decide +kernel
theorem dX7_weekday_6 : decode cX7_weekday 6 = .ok (.iconst 3, 1) := by decide +kernel
theorem dX7_weekday_7 : decode cX7_weekday 7 = .ok (.iadd, 1) := by decide +kernel
theorem dX7_weekday_8 : decode cX7_weekday 8 = .ok (.iconst 4, 1) := by decide +kernel
theorem dX7_weekday_9 : decode cX7_weekday 9 = .ok (.idiv, 1) := by decide +kernel
theorem dX7_weekday_10 : decode cX7_weekday 10 = .ok (.iadd, 1) := by decide +kernel
theorem dX7_weekday_11 : decode cX7_weekday 11 = .ok (.iload_n 1, 1) := by decide +kernel
theorem dX7_weekday_12 : decode cX7_weekday 12 = .ok (.iadd, 1) := by decide +kernel
theorem dX7_weekday_13 : decode cX7_weekday 13 = .ok (.bipush 7, 2) := by decide +kernel
theorem dX7_weekday_15 : decode cX7_weekday 15 = .ok (.irem, 1) := by decide +kernel
theorem dX7_weekday_16 : decode cX7_weekday 16 = .ok (.ireturn, 1) := by decide +kernel
theorem dX7_age_0 : decode cX7_age 0 = .ok (.bipush 11, 2) := by decide +kernel
theorem dX7_age_2 : decode cX7_age 2 = .ok (.iload_n 1, 1) := by decide +kernel
theorem dX7_age_3 : decode cX7_age 3 = .ok (.bipush 19, 2) := by decide +kernel
theorem dX7_age_5 : decode cX7_age 5 = .ok (.irem, 1) := by decide +kernel
theorem dX7_age_6 : decode cX7_age 6 = .ok (.imul, 1) := by decide +kernel
theorem dX7_age_7 : decode cX7_age 7 = .ok (.iload_n 1, 1) := by decide +kernel
theorem dX7_age_8 : decode cX7_age 8 = .ok (.aload_n 0, 1) := by decide +kernel
theorem dX7_age_9 : decode cX7_age 9 = .ok (.getfield 7, 3) := by decide +kernel
theorem dX7_age_12 : decode cX7_age 12 = .ok (.bipush 44, 2) := by decide +kernel
theorem dX7_age_14 : decode cX7_age 14 = .ok (.iaload, 1) := by decide +kernel
theorem dX7_age_15 : decode cX7_age 15 = .ok (.idiv, 1) := by decide +kernel
theorem dX7_age_16 : decode cX7_age 16 = .ok (.iadd, 1) := by decide +kernel
theorem dX7_age_17 : decode cX7_age 17 = .ok (.iload_n 3, 1) := by decide +kernel
theorem dX7_age_18 : decode cX7_age 18 = .ok (.iadd, 1) := by decide +kernel
theorem dX7_age_19 : decode cX7_age 19 = .ok (.iconst 5, 1) := by decide +kernel
theorem dX7_age_20 : decode cX7_age 20 = .ok (.iadd, 1) := by decide +kernel
theorem dX7_age_21 : decode cX7_age 21 = .ok (.iload_n 2, 1) := by decide +kernel
theorem dX7_age_22 : decode cX7_age 22 = .ok (.iadd, 1) := by decide +kernel
theorem dX7_age_23 : decode cX7_age 23 = .ok (.iload_n 2, 1) := by decide +kernel
theorem dX7_age_24 : decode cX7_age 24 = .ok (.bipush 59, 2) := by decide +kernel
theorem dX7_age_26 : decode cX7_age 26 = .ok (.idiv, 1) := by decide +kernel
theorem dX7_age_27 : decode cX7_age 27 = .ok (.iadd, 1) := by decide +kernel
theorem dX7_age_28 : decode cX7_age 28 = .ok (.bipush 30, 2) := by decide +kernel
theorem dX7_age_30 : decode cX7_age 30 = .ok (.irem, 1) := by decide +kernel
theorem dX7_age_31 : decode cX7_age 31 = .ok (.ireturn, 1) := by decide +kernel
theorem dX7_firstWeekday_0 : decode cX7_firstWeekday 0 = .ok (.iload_n 1, 1) := by decide +kernel
theorem dX7_firstWeekday_1 : decode cX7_firstWeekday 1 = .ok (.istore_n 3, 1) := by decide +kernel
theorem dX7_firstWeekday_2 : decode cX7_firstWeekday 2 = .ok (.iload_n 3, 1) := by decide +kernel
theorem dX7_firstWeekday_3 : decode cX7_firstWeekday 3 = .ok (.iload_n 0, 1) := by decide +kernel
theorem dX7_firstWeekday_4 : decode cX7_firstWeekday 4 = .ok (.invokestatic 49, 3) := by decide +kernel
theorem dX7_firstWeekday_7 : decode cX7_firstWeekday 7 = .ok (.if_icmp .ge 20, 3) := by decide +kernel
theorem dX7_firstWeekday_10 : decode cX7_firstWeekday 10 = .ok (.iload_n 0, 1) := by decide +kernel
theorem dX7_firstWeekday_11 : decode cX7_firstWeekday 11 = .ok (.iload_n 3, 1) := by decide +kernel
theorem dX7_firstWeekday_12 : decode cX7_firstWeekday 12 = .ok (.invokestatic 53, 3) := by decide +kernel
theorem dX7_firstWeekday_15 : decode cX7_firstWeekday 15 = .ok (.iload_n 2, 1) := by decide +kernel
theorem dX7_firstWeekday_16 : decode cX7_firstWeekday 16 = .ok (.if_icmp .ne 5, 3) := by decide +kernel
theorem dX7_firstWeekday_19 : decode cX7_firstWeekday 19 = .ok (.iload_n 3, 1) := by decide +kernel
theorem dX7_firstWeekday_20 : decode cX7_firstWeekday 20 = .ok (.ireturn, 1) := by decide +kernel
theorem dX7_firstWeekday_21 : decode cX7_firstWeekday 21 = .ok (.iinc 3 1, 3) := by decide +kernel
theorem dX7_firstWeekday_24 : decode cX7_firstWeekday 24 = .ok (.goto (-22), 3) := by decide +kernel
theorem dX7_firstWeekday_27 : decode cX7_firstWeekday 27 = .ok (.iconst (-1), 1) := by decide +kernel
theorem dX7_firstWeekday_28 : decode cX7_firstWeekday 28 = .ok (.ireturn, 1) := by decide +kernel
theorem dX7_firstFull_0 : decode cX7_firstFull 0 = .ok (.iload_n 2, 1) := by decide +kernel
theorem dX7_firstFull_1 : decode cX7_firstFull 1 = .ok (.istore 4, 2) := by decide +kernel
theorem dX7_firstFull_3 : decode cX7_firstFull 3 = .ok (.iload 4, 2) := by decide +kernel
theorem dX7_firstFull_5 : decode cX7_firstFull 5 = .ok (.iload_n 1, 1) := by decide +kernel
theorem dX7_firstFull_6 : decode cX7_firstFull 6 = .ok (.invokestatic 49, 3) := by decide +kernel
theorem dX7_firstFull_9 : decode cX7_firstFull 9 = .ok (.if_icmp .ge 25, 3) := by decide +kernel
theorem dX7_firstFull_12 : decode cX7_firstFull 12 = .ok (.aload_n 0, 1) := by decide +kernel
theorem dX7_firstFull_13 : decode cX7_firstFull 13 = .ok (.iload_n 1, 1) := by decide +kernel
theorem dX7_firstFull_14 : decode cX7_firstFull 14 = .ok (.iload 4, 2) := by decide +kernel
theorem dX7_firstFull_16 : decode cX7_firstFull 16 = .ok (.iload_n 3, 1) := by decide +kernel
theorem dX7_firstFull_17 : decode cX7_firstFull 17 = .ok (.invokevirtual 57, 3) := by decide +kernel
theorem dX7_firstFull_20 : decode cX7_firstFull 20 = .ok (.bipush 14, 2) := by decide +kernel
theorem dX7_firstFull_22 : decode cX7_firstFull 22 = .ok (.if_icmp .ne 6, 3) := by decide +kernel
theorem dX7_firstFull_25 : decode cX7_firstFull 25 = .ok (.iload 4, 2) := by decide +kernel
theorem dX7_firstFull_27 : decode cX7_firstFull 27 = .ok (.ireturn, 1) := by decide +kernel
theorem dX7_firstFull_28 : decode cX7_firstFull 28 = .ok (.iinc 4 1, 3) := by decide +kernel
theorem dX7_firstFull_31 : decode cX7_firstFull 31 = .ok (.goto (-28), 3) := by decide +kernel
theorem dX7_firstFull_34 : decode cX7_firstFull 34 = .ok (.iconst (-1), 1) := by decide +kernel
theorem dX7_firstFull_35 : decode cX7_firstFull 35 = .ok (.ireturn, 1) := by decide +kernel
theorem dX7_findProper_0 : decode cX7_findProper 0 = .ok (.iconst 0, 1) := by decide +kernel
theorem dX7_findProper_1 : decode cX7_findProper 1 = .ok (.istore_n 3, 1) := by decide +kernel
theorem dX7_findProper_2 : decode cX7_findProper 2 = .ok (.iload_n 3, 1) := by decide +kernel
theorem dX7_findProper_3 : decode cX7_findProper 3 = .ok (.aload_n 0, 1) := by decide +kernel
theorem dX7_findProper_4 : decode cX7_findProper 4 = .ok (.getfield 7, 3) := by decide +kernel
theorem dX7_findProper_7 : decode cX7_findProper 7 = .ok (.iconst 0, 1) := by decide +kernel
theorem dX7_findProper_8 : decode cX7_findProper 8 = .ok (.iaload, 1) := by decide +kernel
theorem dX7_findProper_9 : decode cX7_findProper 9 = .ok (.if_icmp .ge 184, 3) := by decide +kernel
theorem dX7_findProper_12 : decode cX7_findProper 12 = .ok (.aload_n 0, 1) := by decide +kernel
theorem dX7_findProper_13 : decode cX7_findProper 13 = .ok (.getfield 7, 3) := by decide +kernel
theorem dX7_findProper_16 : decode cX7_findProper 16 = .ok (.iload_n 3, 1) := by decide +kernel
theorem dX7_findProper_17 : decode cX7_findProper 17 = .ok (.iconst 2, 1) := by decide +kernel
theorem dX7_findProper_18 : decode cX7_findProper 18 = .ok (.invokestatic 61, 3) := by decide +kernel
theorem dX7_findProper_21 : decode cX7_findProper 21 = .ok (.iaload, 1) := by decide +kernel
theorem dX7_findProper_22 : decode cX7_findProper 22 = .ok (.istore 4, 2) := by decide +kernel
theorem dX7_findProper_24 : decode cX7_findProper 24 = .ok (.aload_n 0, 1) := by decide +kernel
theorem dX7_findProper_25 : decode cX7_findProper 25 = .ok (.getfield 7, 3) := by decide +kernel
theorem dX7_findProper_28 : decode cX7_findProper 28 = .ok (.iload_n 3, 1) := by decide +kernel
theorem dX7_findProper_29 : decode cX7_findProper 29 = .ok (.iconst 3, 1) := by decide +kernel
theorem dX7_findProper_30 : decode cX7_findProper 30 = .ok (.invokestatic 61, 3) := by decide +kernel
theorem dX7_findProper_33 : decode cX7_findProper 33 = .ok (.iaload, 1) := by decide +kernel
theorem dX7_findProper_34 : decode cX7_findProper 34 = .ok (.istore 5, 2) := by decide +kernel
theorem dX7_findProper_36 : decode cX7_findProper 36 = .ok (.aload_n 0, 1) := by decide +kernel
theorem dX7_findProper_37 : decode cX7_findProper 37 = .ok (.getfield 7, 3) := by decide +kernel
theorem dX7_findProper_40 : decode cX7_findProper 40 = .ok (.iload_n 3, 1) := by decide +kernel
theorem dX7_findProper_41 : decode cX7_findProper 41 = .ok (.iconst 0, 1) := by decide +kernel
theorem dX7_findProper_42 : decode cX7_findProper 42 = .ok (.invokestatic 61, 3) := by decide +kernel
theorem dX7_findProper_45 : decode cX7_findProper 45 = .ok (.iaload, 1) := by decide +kernel
theorem dX7_findProper_46 : decode cX7_findProper 46 = .ok (.istore 6, 2) := by decide +kernel
theorem dX7_findProper_48 : decode cX7_findProper 48 = .ok (.iload 6, 2) := by decide +kernel
theorem dX7_findProper_50 : decode cX7_findProper 50 = .ok (.iconst 2, 1) := by decide +kernel
theorem dX7_findProper_51 : decode cX7_findProper 51 = .ok (.if_icmp .ne 14, 3) := by decide +kernel
theorem dX7_findProper_54 : decode cX7_findProper 54 = .ok (.aload_n 0, 1) := by decide +kernel
theorem dX7_findProper_55 : decode cX7_findProper 55 = .ok (.iload_n 1, 1) := by decide +kernel
theorem dX7_findProper_56 : decode cX7_findProper 56 = .ok (.iload 4, 2) := by decide +kernel
theorem dX7_findProper_58 : decode cX7_findProper 58 = .ok (.iload_n 2, 1) := by decide +kernel
theorem dX7_findProper_59 : decode cX7_findProper 59 = .ok (.invokevirtual 64, 3) := by decide +kernel
theorem dX7_findProper_62 : decode cX7_findProper 62 = .ok (.goto 4, 3) := by decide +kernel
theorem dX7_findProper_65 : decode cX7_findProper 65 = .ok (.iconst (-1), 1) := by decide +kernel
theorem dX7_findProper_66 : decode cX7_findProper 66 = .ok (.istore 7, 2) := by decide +kernel
theorem dX7_findProper_68 : decode cX7_findProper 68 = .ok (.iload 6, 2) := by decide +kernel
theorem dX7_findProper_70 : decode cX7_findProper 70 = .ok (.iconst 3, 1) := by decide +kernel
theorem dX7_findProper_71 : decode cX7_findProper 71 = .ok (.if_icmp .ne 13, 3) := by decide +kernel
theorem dX7_findProper_74 : decode cX7_findProper 74 = .ok (.aload_n 0, 1) := by decide +kernel
theorem dX7_findProper_75 : decode cX7_findProper 75 = .ok (.getfield 19, 3) := by decide +kernel
theorem dX7_findProper_78 : decode cX7_findProper 78 = .ok (.iload 5, 2) := by decide +kernel
theorem dX7_findProper_80 : decode cX7_findProper 80 = .ok (.iaload, 1) := by decide +kernel
theorem dX7_findProper_81 : decode cX7_findProper 81 = .ok (.goto 4, 3) := by decide +kernel
theorem dX7_findProper_84 : decode cX7_findProper 84 = .ok (.iconst (-1), 1) := by decide +kernel
theorem dX7_findProper_85 : decode cX7_findProper 85 = .ok (.istore 8, 2) := by decide +kernel
theorem dX7_findProper_87 : decode cX7_findProper 87 = .ok (.iload 6, 2) := by decide +kernel
theorem dX7_findProper_89 : decode cX7_findProper 89 = .ok (.ifCond .ne 8, 3) := by decide +kernel
theorem dX7_findProper_92 : decode cX7_findProper 92 = .ok (.iload 4, 2) := by decide +kernel
theorem dX7_findProper_94 : decode cX7_findProper 94 = .ok (.goto 64, 3) := by decide +kernel
theorem dX7_findProper_97 : decode cX7_findProper 97 = .ok (.iload 6, 2) := by decide +kernel
theorem dX7_findProper_99 : decode cX7_findProper 99 = .ok (.iconst 1, 1) := by decide +kernel
theorem dX7_findProper_100 : decode cX7_findProper 100 = .ok (.if_icmp .ne 14, 3) := by decide +kernel
theorem dX7_findProper_103 : decode cX7_findProper 103 = .ok (.iload_n 1, 1) := by decide +kernel
theorem dX7_findProper_104 : decode cX7_findProper 104 = .ok (.iload 4, 2) := by decide +kernel
theorem dX7_findProper_106 : decode cX7_findProper 106 = .ok (.iload 5, 2) := by decide +kernel
theorem dX7_findProper_108 : decode cX7_findProper 108 = .ok (.invokestatic 67, 3) := by decide +kernel
theorem dX7_findProper_111 : decode cX7_findProper 111 = .ok (.goto 47, 3) := by decide +kernel
theorem dX7_findProper_114 : decode cX7_findProper 114 = .ok (.iload 6, 2) := by decide +kernel
theorem dX7_findProper_116 : decode cX7_findProper 116 = .ok (.iconst 2, 1) := by decide +kernel
theorem dX7_findProper_117 : decode cX7_findProper 117 = .ok (.if_icmp .ne 26, 3) := by decide +kernel
theorem dX7_findProper_120 : decode cX7_findProper 120 = .ok (.iload 7, 2) := by decide +kernel
theorem dX7_findProper_122 : decode cX7_findProper 122 = .ok (.iconst (-1), 1) := by decide +kernel
theorem dX7_findProper_123 : decode cX7_findProper 123 = .ok (.if_icmp .ne 7, 3) := by decide +kernel
theorem dX7_findProper_126 : decode cX7_findProper 126 = .ok (.iconst (-1), 1) := by decide +kernel
theorem dX7_findProper_127 : decode cX7_findProper 127 = .ok (.goto 31, 3) := by decide +kernel
theorem dX7_findProper_130 : decode cX7_findProper 130 = .ok (.iload_n 1, 1) := by decide +kernel
theorem dX7_findProper_131 : decode cX7_findProper 131 = .ok (.iload 7, 2) := by decide +kernel
theorem dX7_findProper_133 : decode cX7_findProper 133 = .ok (.iconst 1, 1) := by decide +kernel
theorem dX7_findProper_134 : decode cX7_findProper 134 = .ok (.iadd, 1) := by decide +kernel
theorem dX7_findProper_135 : decode cX7_findProper 135 = .ok (.iload 5, 2) := by decide +kernel
theorem dX7_findProper_137 : decode cX7_findProper 137 = .ok (.invokestatic 67, 3) := by decide +kernel
theorem dX7_findProper_140 : decode cX7_findProper 140 = .ok (.goto 18, 3) := by decide +kernel
theorem dX7_findProper_143 : decode cX7_findProper 143 = .ok (.iload 8, 2) := by decide +kernel
theorem dX7_findProper_145 : decode cX7_findProper 145 = .ok (.iconst (-1), 1) := by decide +kernel
theorem dX7_findProper_146 : decode cX7_findProper 146 = .ok (.if_icmp .ne 7, 3) := by decide +kernel
theorem dX7_findProper_149 : decode cX7_findProper 149 = .ok (.iconst (-1), 1) := by decide +kernel
theorem dX7_findProper_150 : decode cX7_findProper 150 = .ok (.goto 8, 3) := by decide +kernel
theorem dX7_findProper_153 : decode cX7_findProper 153 = .ok (.iload 8, 2) := by decide +kernel
theorem dX7_findProper_155 : decode cX7_findProper 155 = .ok (.iload 4, 2) := by decide +kernel
theorem dX7_findProper_157 : decode cX7_findProper 157 = .ok (.iadd, 1) := by decide +kernel
theorem dX7_findProper_158 : decode cX7_findProper 158 = .ok (.istore 9, 2) := by decide +kernel
theorem dX7_findProper_160 : decode cX7_findProper 160 = .ok (.aload_n 0, 1) := by decide +kernel
theorem dX7_findProper_161 : decode cX7_findProper 161 = .ok (.getfield 19, 3) := by decide +kernel
theorem dX7_findProper_164 : decode cX7_findProper 164 = .ok (.iload_n 3, 1) := by decide +kernel
theorem dX7_findProper_165 : decode cX7_findProper 165 = .ok (.iload 9, 2) := by decide +kernel
theorem dX7_findProper_167 : decode cX7_findProper 167 = .ok (.iconst 0, 1) := by decide +kernel
theorem dX7_findProper_168 : decode cX7_findProper 168 = .ok (.iload_n 1, 1) := by decide +kernel
theorem dX7_findProper_169 : decode cX7_findProper 169 = .ok (.invokestatic 49, 3) := by decide +kernel
theorem dX7_findProper_172 : decode cX7_findProper 172 = .ok (.iconst 1, 1) := by decide +kernel
theorem dX7_findProper_173 : decode cX7_findProper 173 = .ok (.isub, 1) := by decide +kernel
theorem dX7_findProper_174 : decode cX7_findProper 174 = .ok (.invokestatic 42, 3) := by decide +kernel
theorem dX7_findProper_177 : decode cX7_findProper 177 = .ok (.ifCond .eq 8, 3) := by decide +kernel
theorem dX7_findProper_180 : decode cX7_findProper 180 = .ok (.iload 9, 2) := by decide +kernel
theorem dX7_findProper_182 : decode cX7_findProper 182 = .ok (.goto 4, 3) := by decide +kernel
theorem dX7_findProper_185 : decode cX7_findProper 185 = .ok (.iconst (-1), 1) := by decide +kernel
theorem dX7_findProper_186 : decode cX7_findProper 186 = .ok (.iastore, 1) := by decide +kernel
theorem dX7_findProper_187 : decode cX7_findProper 187 = .ok (.iinc 3 1, 3) := by decide +kernel
theorem dX7_findProper_190 : decode cX7_findProper 190 = .ok (.goto (-188), 3) := by decide +kernel
theorem dX7_findProper_193 : decode cX7_findProper 193 = .ok (.return_, 1) := by decide +kernel
theorem dX7_lay_0 : decode cX7_lay 0 = .ok (.aload_n 0, 1) := by decide +kernel
theorem dX7_lay_1 : decode cX7_lay 1 = .ok (.iload_n 1, 1) := by decide +kernel
theorem dX7_lay_2 : decode cX7_lay 2 = .ok (.iload_n 2, 1) := by decide +kernel
theorem dX7_lay_3 : decode cX7_lay 3 = .ok (.invokevirtual 70, 3) := by decide +kernel
theorem dX7_lay_6 : decode cX7_lay 6 = .ok (.iconst 0, 1) := by decide +kernel
theorem dX7_lay_7 : decode cX7_lay 7 = .ok (.istore_n 3, 1) := by decide +kernel
theorem dX7_lay_8 : decode cX7_lay 8 = .ok (.iload_n 3, 1) := by decide +kernel
theorem dX7_lay_9 : decode cX7_lay 9 = .ok (.sipush 366, 3) := by decide +kernel
theorem dX7_lay_12 : decode cX7_lay 12 = .ok (.if_icmp .ge 16, 3) := by decide +kernel
theorem dX7_lay_15 : decode cX7_lay 15 = .ok (.aload_n 0, 1) := by decide +kernel
theorem dX7_lay_16 : decode cX7_lay 16 = .ok (.getfield 25, 3) := by decide +kernel
theorem dX7_lay_19 : decode cX7_lay 19 = .ok (.iload_n 3, 1) := by decide +kernel
theorem dX7_lay_20 : decode cX7_lay 20 = .ok (.iconst 0, 1) := by decide +kernel
theorem dX7_lay_21 : decode cX7_lay 21 = .ok (.bastore, 1) := by decide +kernel
theorem dX7_lay_22 : decode cX7_lay 22 = .ok (.iinc 3 1, 3) := by decide +kernel
theorem dX7_lay_25 : decode cX7_lay 25 = .ok (.goto (-17), 3) := by decide +kernel
theorem dX7_lay_28 : decode cX7_lay 28 = .ok (.iconst 0, 1) := by decide +kernel
theorem dX7_lay_29 : decode cX7_lay 29 = .ok (.istore_n 3, 1) := by decide +kernel
theorem dX7_lay_30 : decode cX7_lay 30 = .ok (.iload_n 3, 1) := by decide +kernel
theorem dX7_lay_31 : decode cX7_lay 31 = .ok (.bipush 10, 2) := by decide +kernel
theorem dX7_lay_33 : decode cX7_lay 33 = .ok (.aload_n 0, 1) := by decide +kernel
theorem dX7_lay_34 : decode cX7_lay 34 = .ok (.getfield 7, 3) := by decide +kernel
theorem dX7_lay_37 : decode cX7_lay 37 = .ok (.iconst 0, 1) := by decide +kernel
theorem dX7_lay_38 : decode cX7_lay 38 = .ok (.iaload, 1) := by decide +kernel
theorem dX7_lay_39 : decode cX7_lay 39 = .ok (.imul, 1) := by decide +kernel
theorem dX7_lay_40 : decode cX7_lay 40 = .ok (.if_icmp .ge 136, 3) := by decide +kernel
theorem dX7_lay_43 : decode cX7_lay 43 = .ok (.iload_n 3, 1) := by decide +kernel
theorem dX7_lay_44 : decode cX7_lay 44 = .ok (.aload_n 0, 1) := by decide +kernel
theorem dX7_lay_45 : decode cX7_lay 45 = .ok (.getfield 7, 3) := by decide +kernel
theorem dX7_lay_48 : decode cX7_lay 48 = .ok (.iconst 0, 1) := by decide +kernel
theorem dX7_lay_49 : decode cX7_lay 49 = .ok (.iaload, 1) := by decide +kernel
theorem dX7_lay_50 : decode cX7_lay 50 = .ok (.irem, 1) := by decide +kernel
theorem dX7_lay_51 : decode cX7_lay 51 = .ok (.istore 4, 2) := by decide +kernel
theorem dX7_lay_53 : decode cX7_lay 53 = .ok (.aload_n 0, 1) := by decide +kernel
theorem dX7_lay_54 : decode cX7_lay 54 = .ok (.getfield 7, 3) := by decide +kernel
theorem dX7_lay_57 : decode cX7_lay 57 = .ok (.iload 4, 2) := by decide +kernel
theorem dX7_lay_59 : decode cX7_lay 59 = .ok (.iconst 1, 1) := by decide +kernel
theorem dX7_lay_60 : decode cX7_lay 60 = .ok (.invokestatic 61, 3) := by decide +kernel
theorem dX7_lay_63 : decode cX7_lay 63 = .ok (.iaload, 1) := by decide +kernel
theorem dX7_lay_64 : decode cX7_lay 64 = .ok (.bipush 9, 2) := by decide +kernel
theorem dX7_lay_66 : decode cX7_lay 66 = .ok (.iload_n 3, 1) := by decide +kernel
theorem dX7_lay_67 : decode cX7_lay 67 = .ok (.aload_n 0, 1) := by decide +kernel
theorem dX7_lay_68 : decode cX7_lay 68 = .ok (.getfield 7, 3) := by decide +kernel
theorem dX7_lay_71 : decode cX7_lay 71 = .ok (.iconst 0, 1) := by decide +kernel
theorem dX7_lay_72 : decode cX7_lay 72 = .ok (.iaload, 1) := by decide +kernel
theorem dX7_lay_73 : decode cX7_lay 73 = .ok (.idiv, 1) := by decide +kernel
theorem dX7_lay_74 : decode cX7_lay 74 = .ok (.isub, 1) := by decide +kernel
theorem dX7_lay_75 : decode cX7_lay 75 = .ok (.if_icmp .ne 95, 3) := by decide +kernel
theorem dX7_lay_78 : decode cX7_lay 78 = .ok (.aload_n 0, 1) := by decide +kernel
theorem dX7_lay_79 : decode cX7_lay 79 = .ok (.getfield 19, 3) := by decide +kernel
theorem dX7_lay_82 : decode cX7_lay 82 = .ok (.iload 4, 2) := by decide +kernel
theorem dX7_lay_84 : decode cX7_lay 84 = .ok (.iaload, 1) := by decide +kernel
theorem dX7_lay_85 : decode cX7_lay 85 = .ok (.iconst (-1), 1) := by decide +kernel
theorem dX7_lay_86 : decode cX7_lay 86 = .ok (.if_icmp .ne 9, 3) := by decide +kernel
theorem dX7_lay_89 : decode cX7_lay 89 = .ok (.sipush 366, 3) := by decide +kernel
theorem dX7_lay_92 : decode cX7_lay 92 = .ok (.goto 10, 3) := by decide +kernel
theorem dX7_lay_95 : decode cX7_lay 95 = .ok (.aload_n 0, 1) := by decide +kernel
theorem dX7_lay_96 : decode cX7_lay 96 = .ok (.getfield 19, 3) := by decide +kernel
theorem dX7_lay_99 : decode cX7_lay 99 = .ok (.iload 4, 2) := by decide +kernel
theorem dX7_lay_101 : decode cX7_lay 101 = .ok (.iaload, 1) := by decide +kernel
theorem dX7_lay_102 : decode cX7_lay 102 = .ok (.istore 5, 2) := by decide +kernel
theorem dX7_lay_104 : decode cX7_lay 104 = .ok (.iload 5, 2) := by decide +kernel
theorem dX7_lay_106 : decode cX7_lay 106 = .ok (.iload_n 1, 1) := by decide +kernel
theorem dX7_lay_107 : decode cX7_lay 107 = .ok (.invokestatic 49, 3) := by decide +kernel
theorem dX7_lay_110 : decode cX7_lay 110 = .ok (.if_icmp .ge 19, 3) := by decide +kernel
theorem dX7_lay_113 : decode cX7_lay 113 = .ok (.aload_n 0, 1) := by decide +kernel
theorem dX7_lay_114 : decode cX7_lay 114 = .ok (.getfield 25, 3) := by decide +kernel
theorem dX7_lay_117 : decode cX7_lay 117 = .ok (.iload 5, 2) := by decide +kernel
theorem dX7_lay_119 : decode cX7_lay 119 = .ok (.baload, 1) := by decide +kernel
theorem dX7_lay_120 : decode cX7_lay 120 = .ok (.ifCond .eq 9, 3) := by decide +kernel
theorem dX7_lay_123 : decode cX7_lay 123 = .ok (.iinc 5 1, 3) := by decide +kernel
theorem dX7_lay_126 : decode cX7_lay 126 = .ok (.goto (-22), 3) := by decide +kernel
theorem dX7_lay_129 : decode cX7_lay 129 = .ok (.aload_n 0, 1) := by decide +kernel
theorem dX7_lay_130 : decode cX7_lay 130 = .ok (.getfield 22, 3) := by decide +kernel
theorem dX7_lay_133 : decode cX7_lay 133 = .ok (.iload 4, 2) := by decide +kernel
theorem dX7_lay_135 : decode cX7_lay 135 = .ok (.iload 5, 2) := by decide +kernel
theorem dX7_lay_137 : decode cX7_lay 137 = .ok (.iload_n 1, 1) := by decide +kernel
theorem dX7_lay_138 : decode cX7_lay 138 = .ok (.invokestatic 49, 3) := by decide +kernel
theorem dX7_lay_141 : decode cX7_lay 141 = .ok (.if_icmp .ge 8, 3) := by decide +kernel
theorem dX7_lay_144 : decode cX7_lay 144 = .ok (.iload 5, 2) := by decide +kernel
theorem dX7_lay_146 : decode cX7_lay 146 = .ok (.goto 4, 3) := by decide +kernel
theorem dX7_lay_149 : decode cX7_lay 149 = .ok (.iconst (-1), 1) := by decide +kernel
theorem dX7_lay_150 : decode cX7_lay 150 = .ok (.iastore, 1) := by decide +kernel
theorem dX7_lay_151 : decode cX7_lay 151 = .ok (.aload_n 0, 1) := by decide +kernel
theorem dX7_lay_152 : decode cX7_lay 152 = .ok (.getfield 22, 3) := by decide +kernel
theorem dX7_lay_155 : decode cX7_lay 155 = .ok (.iload 4, 2) := by decide +kernel
theorem dX7_lay_157 : decode cX7_lay 157 = .ok (.iaload, 1) := by decide +kernel
theorem dX7_lay_158 : decode cX7_lay 158 = .ok (.iconst (-1), 1) := by decide +kernel
theorem dX7_lay_159 : decode cX7_lay 159 = .ok (.if_icmp .eq 11, 3) := by decide +kernel
theorem dX7_lay_162 : decode cX7_lay 162 = .ok (.aload_n 0, 1) := by decide +kernel
theorem dX7_lay_163 : decode cX7_lay 163 = .ok (.getfield 25, 3) := by decide +kernel
theorem dX7_lay_166 : decode cX7_lay 166 = .ok (.iload 5, 2) := by decide +kernel
theorem dX7_lay_168 : decode cX7_lay 168 = .ok (.iconst 1, 1) := by decide +kernel
theorem dX7_lay_169 : decode cX7_lay 169 = .ok (.bastore, 1) := by decide +kernel
theorem dX7_lay_170 : decode cX7_lay 170 = .ok (.iinc 3 1, 3) := by decide +kernel
theorem dX7_lay_173 : decode cX7_lay 173 = .ok (.goto (-143), 3) := by decide +kernel
theorem dX7_lay_176 : decode cX7_lay 176 = .ok (.return_, 1) := by decide +kernel
theorem dX7_layAll_0 : decode cX7_layAll 0 = .ok (.iconst 0, 1) := by decide +kernel
theorem dX7_layAll_1 : decode cX7_layAll 1 = .ok (.istore_n 2, 1) := by decide +kernel
theorem dX7_layAll_2 : decode cX7_layAll 2 = .ok (.iload_n 2, 1) := by decide +kernel
theorem dX7_layAll_3 : decode cX7_layAll 3 = .ok (.iconst 3, 1) := by decide +kernel
theorem dX7_layAll_4 : decode cX7_layAll 4 = .ok (.if_icmp .ge 58, 3) := by decide +kernel
theorem dX7_layAll_7 : decode cX7_layAll 7 = .ok (.aload_n 0, 1) := by decide +kernel
theorem dX7_layAll_8 : decode cX7_layAll 8 = .ok (.iload_n 1, 1) := by decide +kernel
theorem dX7_layAll_9 : decode cX7_layAll 9 = .ok (.aload_n 0, 1) := by decide +kernel
theorem dX7_layAll_10 : decode cX7_layAll 10 = .ok (.getfield 7, 3) := by decide +kernel
theorem dX7_layAll_13 : decode cX7_layAll 13 = .ok (.bipush 41, 2) := by decide +kernel
theorem dX7_layAll_15 : decode cX7_layAll 15 = .ok (.iload_n 2, 1) := by decide +kernel
theorem dX7_layAll_16 : decode cX7_layAll 16 = .ok (.iadd, 1) := by decide +kernel
theorem dX7_layAll_17 : decode cX7_layAll 17 = .ok (.iaload, 1) := by decide +kernel
theorem dX7_layAll_18 : decode cX7_layAll 18 = .ok (.invokevirtual 74, 3) := by decide +kernel
theorem dX7_layAll_21 : decode cX7_layAll 21 = .ok (.iconst 0, 1) := by decide +kernel
theorem dX7_layAll_22 : decode cX7_layAll 22 = .ok (.istore_n 3, 1) := by decide +kernel
theorem dX7_layAll_23 : decode cX7_layAll 23 = .ok (.iload_n 3, 1) := by decide +kernel
theorem dX7_layAll_24 : decode cX7_layAll 24 = .ok (.aload_n 0, 1) := by decide +kernel
theorem dX7_layAll_25 : decode cX7_layAll 25 = .ok (.getfield 7, 3) := by decide +kernel
theorem dX7_layAll_28 : decode cX7_layAll 28 = .ok (.iconst 0, 1) := by decide +kernel
theorem dX7_layAll_29 : decode cX7_layAll 29 = .ok (.iaload, 1) := by decide +kernel
theorem dX7_layAll_30 : decode cX7_layAll 30 = .ok (.if_icmp .ge 26, 3) := by decide +kernel
theorem dX7_layAll_33 : decode cX7_layAll 33 = .ok (.aload_n 0, 1) := by decide +kernel
theorem dX7_layAll_34 : decode cX7_layAll 34 = .ok (.getfield 29, 3) := by decide +kernel
theorem dX7_layAll_37 : decode cX7_layAll 37 = .ok (.bipush 10, 2) := by decide +kernel
theorem dX7_layAll_39 : decode cX7_layAll 39 = .ok (.iload_n 2, 1) := by decide +kernel
theorem dX7_layAll_40 : decode cX7_layAll 40 = .ok (.imul, 1) := by decide +kernel
theorem dX7_layAll_41 : decode cX7_layAll 41 = .ok (.iload_n 3, 1) := by decide +kernel
theorem dX7_layAll_42 : decode cX7_layAll 42 = .ok (.iadd, 1) := by decide +kernel
theorem dX7_layAll_43 : decode cX7_layAll 43 = .ok (.aload_n 0, 1) := by decide +kernel
theorem dX7_layAll_44 : decode cX7_layAll 44 = .ok (.getfield 22, 3) := by decide +kernel
theorem dX7_layAll_47 : decode cX7_layAll 47 = .ok (.iload_n 3, 1) := by decide +kernel
theorem dX7_layAll_48 : decode cX7_layAll 48 = .ok (.iaload, 1) := by decide +kernel
theorem dX7_layAll_49 : decode cX7_layAll 49 = .ok (.iastore, 1) := by decide +kernel
theorem dX7_layAll_50 : decode cX7_layAll 50 = .ok (.iinc 3 1, 3) := by decide +kernel
theorem dX7_layAll_53 : decode cX7_layAll 53 = .ok (.goto (-30), 3) := by decide +kernel
theorem dX7_layAll_56 : decode cX7_layAll 56 = .ok (.iinc 2 1, 3) := by decide +kernel
theorem dX7_layAll_59 : decode cX7_layAll 59 = .ok (.goto (-57), 3) := by decide +kernel
theorem dX7_layAll_62 : decode cX7_layAll 62 = .ok (.return_, 1) := by decide +kernel
theorem dX7_settledBy_0 : decode cX7_settledBy 0 = .ok (.aload_n 0, 1) := by decide +kernel
theorem dX7_settledBy_1 : decode cX7_settledBy 1 = .ok (.getfield 29, 3) := by decide +kernel
theorem dX7_settledBy_4 : decode cX7_settledBy 4 = .ok (.bipush 10, 2) := by decide +kernel
theorem dX7_settledBy_6 : decode cX7_settledBy 6 = .ok (.iload_n 1, 1) := by decide +kernel
theorem dX7_settledBy_7 : decode cX7_settledBy 7 = .ok (.iadd, 1) := by decide +kernel
theorem dX7_settledBy_8 : decode cX7_settledBy 8 = .ok (.iaload, 1) := by decide +kernel
theorem dX7_settledBy_9 : decode cX7_settledBy 9 = .ok (.aload_n 0, 1) := by decide +kernel
theorem dX7_settledBy_10 : decode cX7_settledBy 10 = .ok (.getfield 29, 3) := by decide +kernel
theorem dX7_settledBy_13 : decode cX7_settledBy 13 = .ok (.bipush 20, 2) := by decide +kernel
theorem dX7_settledBy_15 : decode cX7_settledBy 15 = .ok (.iload_n 1, 1) := by decide +kernel
theorem dX7_settledBy_16 : decode cX7_settledBy 16 = .ok (.iadd, 1) := by decide +kernel
theorem dX7_settledBy_17 : decode cX7_settledBy 17 = .ok (.iaload, 1) := by decide +kernel
theorem dX7_settledBy_18 : decode cX7_settledBy 18 = .ok (.if_icmp .ne 15, 3) := by decide +kernel
theorem dX7_settledBy_21 : decode cX7_settledBy 21 = .ok (.aload_n 0, 1) := by decide +kernel
theorem dX7_settledBy_22 : decode cX7_settledBy 22 = .ok (.getfield 29, 3) := by decide +kernel
theorem dX7_settledBy_25 : decode cX7_settledBy 25 = .ok (.bipush 10, 2) := by decide +kernel
theorem dX7_settledBy_27 : decode cX7_settledBy 27 = .ok (.iload_n 1, 1) := by decide +kernel
theorem dX7_settledBy_28 : decode cX7_settledBy 28 = .ok (.iadd, 1) := by decide +kernel
theorem dX7_settledBy_29 : decode cX7_settledBy 29 = .ok (.iaload, 1) := by decide +kernel
theorem dX7_settledBy_30 : decode cX7_settledBy 30 = .ok (.goto 9, 3) := by decide +kernel
theorem dX7_settledBy_33 : decode cX7_settledBy 33 = .ok (.aload_n 0, 1) := by decide +kernel
theorem dX7_settledBy_34 : decode cX7_settledBy 34 = .ok (.getfield 29, 3) := by decide +kernel
theorem dX7_settledBy_37 : decode cX7_settledBy 37 = .ok (.iload_n 1, 1) := by decide +kernel
theorem dX7_settledBy_38 : decode cX7_settledBy 38 = .ok (.iaload, 1) := by decide +kernel
theorem dX7_settledBy_39 : decode cX7_settledBy 39 = .ok (.ireturn, 1) := by decide +kernel
theorem dX7_quarrelsNow_0 : decode cX7_quarrelsNow 0 = .ok (.iconst 0, 1) := by decide +kernel
theorem dX7_quarrelsNow_1 : decode cX7_quarrelsNow 1 = .ok (.istore_n 1, 1) := by decide +kernel
theorem dX7_quarrelsNow_2 : decode cX7_quarrelsNow 2 = .ok (.iconst 0, 1) := by decide +kernel
theorem dX7_quarrelsNow_3 : decode cX7_quarrelsNow 3 = .ok (.istore_n 2, 1) := by decide +kernel
theorem dX7_quarrelsNow_4 : decode cX7_quarrelsNow 4 = .ok (.iload_n 2, 1) := by decide +kernel
theorem dX7_quarrelsNow_5 : decode cX7_quarrelsNow 5 = .ok (.aload_n 0, 1) := by decide +kernel
theorem dX7_quarrelsNow_6 : decode cX7_quarrelsNow 6 = .ok (.getfield 7, 3) := by decide +kernel
theorem dX7_quarrelsNow_9 : decode cX7_quarrelsNow 9 = .ok (.iconst 0, 1) := by decide +kernel
theorem dX7_quarrelsNow_10 : decode cX7_quarrelsNow 10 = .ok (.iaload, 1) := by decide +kernel
theorem dX7_quarrelsNow_11 : decode cX7_quarrelsNow 11 = .ok (.if_icmp .ge 53, 3) := by decide +kernel
theorem dX7_quarrelsNow_14 : decode cX7_quarrelsNow 14 = .ok (.iload_n 1, 1) := by decide +kernel
theorem dX7_quarrelsNow_15 : decode cX7_quarrelsNow 15 = .ok (.aload_n 0, 1) := by decide +kernel
theorem dX7_quarrelsNow_16 : decode cX7_quarrelsNow 16 = .ok (.getfield 29, 3) := by decide +kernel
theorem dX7_quarrelsNow_19 : decode cX7_quarrelsNow 19 = .ok (.iload_n 2, 1) := by decide +kernel
theorem dX7_quarrelsNow_20 : decode cX7_quarrelsNow 20 = .ok (.iaload, 1) := by decide +kernel
theorem dX7_quarrelsNow_21 : decode cX7_quarrelsNow 21 = .ok (.aload_n 0, 1) := by decide +kernel
theorem dX7_quarrelsNow_22 : decode cX7_quarrelsNow 22 = .ok (.getfield 29, 3) := by decide +kernel
theorem dX7_quarrelsNow_25 : decode cX7_quarrelsNow 25 = .ok (.bipush 10, 2) := by decide +kernel
theorem dX7_quarrelsNow_27 : decode cX7_quarrelsNow 27 = .ok (.iload_n 2, 1) := by decide +kernel
theorem dX7_quarrelsNow_28 : decode cX7_quarrelsNow 28 = .ok (.iadd, 1) := by decide +kernel
theorem dX7_quarrelsNow_29 : decode cX7_quarrelsNow 29 = .ok (.iaload, 1) := by decide +kernel
theorem dX7_quarrelsNow_30 : decode cX7_quarrelsNow 30 = .ok (.if_icmp .ne 25, 3) := by decide +kernel
theorem dX7_quarrelsNow_33 : decode cX7_quarrelsNow 33 = .ok (.aload_n 0, 1) := by decide +kernel
theorem dX7_quarrelsNow_34 : decode cX7_quarrelsNow 34 = .ok (.getfield 29, 3) := by decide +kernel
theorem dX7_quarrelsNow_37 : decode cX7_quarrelsNow 37 = .ok (.iload_n 2, 1) := by decide +kernel
theorem dX7_quarrelsNow_38 : decode cX7_quarrelsNow 38 = .ok (.iaload, 1) := by decide +kernel
theorem dX7_quarrelsNow_39 : decode cX7_quarrelsNow 39 = .ok (.aload_n 0, 1) := by decide +kernel
theorem dX7_quarrelsNow_40 : decode cX7_quarrelsNow 40 = .ok (.getfield 29, 3) := by decide +kernel
theorem dX7_quarrelsNow_43 : decode cX7_quarrelsNow 43 = .ok (.bipush 20, 2) := by decide +kernel
theorem dX7_quarrelsNow_45 : decode cX7_quarrelsNow 45 = .ok (.iload_n 2, 1) := by decide +kernel
theorem dX7_quarrelsNow_46 : decode cX7_quarrelsNow 46 = .ok (.iadd, 1) := by decide +kernel
theorem dX7_quarrelsNow_47 : decode cX7_quarrelsNow 47 = .ok (.iaload, 1) := by decide +kernel
theorem dX7_quarrelsNow_48 : decode cX7_quarrelsNow 48 = .ok (.if_icmp .ne 7, 3) := by decide +kernel
theorem dX7_quarrelsNow_51 : decode cX7_quarrelsNow 51 = .ok (.iconst 0, 1) := by decide +kernel
theorem dX7_quarrelsNow_52 : decode cX7_quarrelsNow 52 = .ok (.goto 4, 3) := by decide +kernel
theorem dX7_quarrelsNow_55 : decode cX7_quarrelsNow 55 = .ok (.iconst 1, 1) := by decide +kernel
theorem dX7_quarrelsNow_56 : decode cX7_quarrelsNow 56 = .ok (.iadd, 1) := by decide +kernel
theorem dX7_quarrelsNow_57 : decode cX7_quarrelsNow 57 = .ok (.istore_n 1, 1) := by decide +kernel
theorem dX7_quarrelsNow_58 : decode cX7_quarrelsNow 58 = .ok (.iinc 2 1, 3) := by decide +kernel
theorem dX7_quarrelsNow_61 : decode cX7_quarrelsNow 61 = .ok (.goto (-57), 3) := by decide +kernel
theorem dX7_quarrelsNow_64 : decode cX7_quarrelsNow 64 = .ok (.iload_n 1, 1) := by decide +kernel
theorem dX7_quarrelsNow_65 : decode cX7_quarrelsNow 65 = .ok (.ireturn, 1) := by decide +kernel
theorem dX7_append_0 : decode cX7_append 0 = .ok (.aload_n 0, 1) := by decide +kernel
theorem dX7_append_1 : decode cX7_append 1 = .ok (.iload_n 1, 1) := by decide +kernel
theorem dX7_append_2 : decode cX7_append 2 = .ok (.bipush 33, 2) := by decide +kernel
theorem dX7_append_4 : decode cX7_append 4 = .ok (.bipush 126, 2) := by decide +kernel
theorem dX7_append_6 : decode cX7_append 6 = .ok (.invokestatic 42, 3) := by decide +kernel
theorem dX7_append_9 : decode cX7_append 9 = .ok (.ifCond .ne 7, 3) := by decide +kernel
theorem dX7_append_12 : decode cX7_append 12 = .ok (.iconst 1, 1) := by decide +kernel
theorem dX7_append_13 : decode cX7_append 13 = .ok (.goto 17, 3) := by decide +kernel
theorem dX7_append_16 : decode cX7_append 16 = .ok (.aload_n 0, 1) := by decide +kernel
theorem dX7_append_17 : decode cX7_append 17 = .ok (.getfield 77, 3) := by decide +kernel
theorem dX7_append_20 : decode cX7_append 20 = .ok (.bipush 60, 2) := by decide +kernel
theorem dX7_append_22 : decode cX7_append 22 = .ok (.if_icmp .ne 7, 3) := by decide +kernel
theorem dX7_append_25 : decode cX7_append 25 = .ok (.iconst 2, 1) := by decide +kernel
theorem dX7_append_26 : decode cX7_append 26 = .ok (.goto 4, 3) := by decide +kernel
theorem dX7_append_29 : decode cX7_append 29 = .ok (.iconst 0, 1) := by decide +kernel
theorem dX7_append_30 : decode cX7_append 30 = .ok (.invokevirtual 80, 3) := by decide +kernel
theorem dX7_append_33 : decode cX7_append 33 = .ok (.ifCond .ne 5, 3) := by decide +kernel
theorem dX7_append_36 : decode cX7_append 36 = .ok (.iconst 0, 1) := by decide +kernel
theorem dX7_append_37 : decode cX7_append 37 = .ok (.ireturn, 1) := by decide +kernel
theorem dX7_append_38 : decode cX7_append 38 = .ok (.aload_n 0, 1) := by decide +kernel
theorem dX7_append_39 : decode cX7_append 39 = .ok (.getfield 16, 3) := by decide +kernel
theorem dX7_append_42 : decode cX7_append 42 = .ok (.aload_n 0, 1) := by decide +kernel
theorem dX7_append_43 : decode cX7_append 43 = .ok (.getfield 77, 3) := by decide +kernel
theorem dX7_append_46 : decode cX7_append 46 = .ok (.iload_n 1, 1) := by decide +kernel
theorem dX7_append_47 : decode cX7_append 47 = .ok (.iastore, 1) := by decide +kernel
theorem dX7_append_48 : decode cX7_append 48 = .ok (.aload_n 0, 1) := by decide +kernel
theorem dX7_append_49 : decode cX7_append 49 = .ok (.dup, 1) := by decide +kernel
theorem dX7_append_50 : decode cX7_append 50 = .ok (.getfield 77, 3) := by decide +kernel
theorem dX7_append_53 : decode cX7_append 53 = .ok (.iconst 1, 1) := by decide +kernel
theorem dX7_append_54 : decode cX7_append 54 = .ok (.iadd, 1) := by decide +kernel
theorem dX7_append_55 : decode cX7_append 55 = .ok (.putfield 77, 3) := by decide +kernel
theorem dX7_append_58 : decode cX7_append 58 = .ok (.aload_n 0, 1) := by decide +kernel
theorem dX7_append_59 : decode cX7_append 59 = .ok (.getfield 77, 3) := by decide +kernel
theorem dX7_append_62 : decode cX7_append 62 = .ok (.ireturn, 1) := by decide +kernel
theorem dX7_clearBuffer_0 : decode cX7_clearBuffer 0 = .ok (.aload_n 0, 1) := by decide +kernel
theorem dX7_clearBuffer_1 : decode cX7_clearBuffer 1 = .ok (.iconst 0, 1) := by decide +kernel
theorem dX7_clearBuffer_2 : decode cX7_clearBuffer 2 = .ok (.putfield 38, 3) := by decide +kernel
theorem dX7_clearBuffer_5 : decode cX7_clearBuffer 5 = .ok (.aload_n 0, 1) := by decide +kernel
theorem dX7_clearBuffer_6 : decode cX7_clearBuffer 6 = .ok (.getfield 77, 3) := by decide +kernel
theorem dX7_clearBuffer_9 : decode cX7_clearBuffer 9 = .ok (.istore_n 1, 1) := by decide +kernel
theorem dX7_clearBuffer_10 : decode cX7_clearBuffer 10 = .ok (.aload_n 0, 1) := by decide +kernel
theorem dX7_clearBuffer_11 : decode cX7_clearBuffer 11 = .ok (.iconst 0, 1) := by decide +kernel
theorem dX7_clearBuffer_12 : decode cX7_clearBuffer 12 = .ok (.putfield 77, 3) := by decide +kernel
theorem dX7_clearBuffer_15 : decode cX7_clearBuffer 15 = .ok (.iload_n 1, 1) := by decide +kernel
theorem dX7_clearBuffer_16 : decode cX7_clearBuffer 16 = .ok (.ireturn, 1) := by decide +kernel
theorem dX7_sign_0 : decode cX7_sign 0 = .ok (.aload_n 0, 1) := by decide +kernel
theorem dX7_sign_1 : decode cX7_sign 1 = .ok (.getfield 84, 3) := by decide +kernel
theorem dX7_sign_4 : decode cX7_sign 4 = .ok (.aload_n 0, 1) := by decide +kernel
theorem dX7_sign_5 : decode cX7_sign 5 = .ok (.getfield 77, 3) := by decide +kernel
theorem dX7_sign_8 : decode cX7_sign 8 = .ok (.if_icmp .ge 15, 3) := by decide +kernel
theorem dX7_sign_11 : decode cX7_sign 11 = .ok (.aload_n 0, 1) := by decide +kernel
theorem dX7_sign_12 : decode cX7_sign 12 = .ok (.getfield 16, 3) := by decide +kernel
theorem dX7_sign_15 : decode cX7_sign 15 = .ok (.aload_n 0, 1) := by decide +kernel
theorem dX7_sign_16 : decode cX7_sign 16 = .ok (.getfield 84, 3) := by decide +kernel
theorem dX7_sign_19 : decode cX7_sign 19 = .ok (.iaload, 1) := by decide +kernel
theorem dX7_sign_20 : decode cX7_sign 20 = .ok (.goto 4, 3) := by decide +kernel
theorem dX7_sign_23 : decode cX7_sign 23 = .ok (.iconst 0, 1) := by decide +kernel
theorem dX7_sign_24 : decode cX7_sign 24 = .ok (.istore_n 3, 1) := by decide +kernel
theorem dX7_sign_25 : decode cX7_sign 25 = .ok (.aload_n 0, 1) := by decide +kernel
theorem dX7_sign_26 : decode cX7_sign 26 = .ok (.aload_n 0, 1) := by decide +kernel
theorem dX7_sign_27 : decode cX7_sign 27 = .ok (.getfield 87, 3) := by decide +kernel
theorem dX7_sign_30 : decode cX7_sign 30 = .ok (.ifCond .ne 12, 3) := by decide +kernel
theorem dX7_sign_33 : decode cX7_sign 33 = .ok (.iload_n 3, 1) := by decide +kernel
theorem dX7_sign_34 : decode cX7_sign 34 = .ok (.iload_n 1, 1) := by decide +kernel
theorem dX7_sign_35 : decode cX7_sign 35 = .ok (.iload_n 2, 1) := by decide +kernel
theorem dX7_sign_36 : decode cX7_sign 36 = .ok (.invokestatic 42, 3) := by decide +kernel
theorem dX7_sign_39 : decode cX7_sign 39 = .ok (.ifCond .ne 7, 3) := by decide +kernel
theorem dX7_sign_42 : decode cX7_sign 42 = .ok (.iconst 1, 1) := by decide +kernel
theorem dX7_sign_43 : decode cX7_sign 43 = .ok (.goto 4, 3) := by decide +kernel
theorem dX7_sign_46 : decode cX7_sign 46 = .ok (.iconst 0, 1) := by decide +kernel
theorem dX7_sign_47 : decode cX7_sign 47 = .ok (.putfield 87, 3) := by decide +kernel
theorem dX7_sign_50 : decode cX7_sign 50 = .ok (.aload_n 0, 1) := by decide +kernel
theorem dX7_sign_51 : decode cX7_sign 51 = .ok (.dup, 1) := by decide +kernel
theorem dX7_sign_52 : decode cX7_sign 52 = .ok (.getfield 84, 3) := by decide +kernel
theorem dX7_sign_55 : decode cX7_sign 55 = .ok (.aload_n 0, 1) := by decide +kernel
theorem dX7_sign_56 : decode cX7_sign 56 = .ok (.getfield 87, 3) := by decide +kernel
theorem dX7_sign_59 : decode cX7_sign 59 = .ok (.ifCond .eq 7, 3) := by decide +kernel
theorem dX7_sign_62 : decode cX7_sign 62 = .ok (.iconst 0, 1) := by decide +kernel
theorem dX7_sign_63 : decode cX7_sign 63 = .ok (.goto 4, 3) := by decide +kernel
theorem dX7_sign_66 : decode cX7_sign 66 = .ok (.iconst 1, 1) := by decide +kernel
theorem dX7_sign_67 : decode cX7_sign 67 = .ok (.iadd, 1) := by decide +kernel
theorem dX7_sign_68 : decode cX7_sign 68 = .ok (.putfield 84, 3) := by decide +kernel
theorem dX7_sign_71 : decode cX7_sign 71 = .ok (.iload_n 3, 1) := by decide +kernel
theorem dX7_sign_72 : decode cX7_sign 72 = .ok (.ireturn, 1) := by decide +kernel
theorem dX7_isNext_0 : decode cX7_isNext 0 = .ok (.aload_n 0, 1) := by decide +kernel
theorem dX7_isNext_1 : decode cX7_isNext 1 = .ok (.getfield 87, 3) := by decide +kernel
theorem dX7_isNext_4 : decode cX7_isNext 4 = .ok (.ifCond .ne 31, 3) := by decide +kernel
theorem dX7_isNext_7 : decode cX7_isNext 7 = .ok (.aload_n 0, 1) := by decide +kernel
theorem dX7_isNext_8 : decode cX7_isNext 8 = .ok (.getfield 84, 3) := by decide +kernel
theorem dX7_isNext_11 : decode cX7_isNext 11 = .ok (.aload_n 0, 1) := by decide +kernel
theorem dX7_isNext_12 : decode cX7_isNext 12 = .ok (.getfield 77, 3) := by decide +kernel
theorem dX7_isNext_15 : decode cX7_isNext 15 = .ok (.if_icmp .ge 20, 3) := by decide +kernel
theorem dX7_isNext_18 : decode cX7_isNext 18 = .ok (.aload_n 0, 1) := by decide +kernel
theorem dX7_isNext_19 : decode cX7_isNext 19 = .ok (.getfield 16, 3) := by decide +kernel
theorem dX7_isNext_22 : decode cX7_isNext 22 = .ok (.aload_n 0, 1) := by decide +kernel
theorem dX7_isNext_23 : decode cX7_isNext 23 = .ok (.getfield 84, 3) := by decide +kernel
theorem dX7_isNext_26 : decode cX7_isNext 26 = .ok (.iaload, 1) := by decide +kernel
theorem dX7_isNext_27 : decode cX7_isNext 27 = .ok (.iload_n 1, 1) := by decide +kernel
theorem dX7_isNext_28 : decode cX7_isNext 28 = .ok (.if_icmp .ne 7, 3) := by decide +kernel
theorem dX7_isNext_31 : decode cX7_isNext 31 = .ok (.iconst 1, 1) := by decide +kernel
theorem dX7_isNext_32 : decode cX7_isNext 32 = .ok (.goto 4, 3) := by decide +kernel
theorem dX7_isNext_35 : decode cX7_isNext 35 = .ok (.iconst 0, 1) := by decide +kernel
theorem dX7_isNext_36 : decode cX7_isNext 36 = .ok (.ireturn, 1) := by decide +kernel
theorem dX7_number_0 : decode cX7_number 0 = .ok (.aload_n 0, 1) := by decide +kernel
theorem dX7_number_1 : decode cX7_number 1 = .ok (.bipush 48, 2) := by decide +kernel
theorem dX7_number_3 : decode cX7_number 3 = .ok (.bipush 57, 2) := by decide +kernel
theorem dX7_number_5 : decode cX7_number 5 = .ok (.invokevirtual 91, 3) := by decide +kernel
theorem dX7_number_8 : decode cX7_number 8 = .ok (.bipush 48, 2) := by decide +kernel
theorem dX7_number_10 : decode cX7_number 10 = .ok (.isub, 1) := by decide +kernel
theorem dX7_number_11 : decode cX7_number 11 = .ok (.istore_n 2, 1) := by decide +kernel
theorem dX7_number_12 : decode cX7_number 12 = .ok (.aload_n 0, 1) := by decide +kernel
theorem dX7_number_13 : decode cX7_number 13 = .ok (.getfield 87, 3) := by decide +kernel
theorem dX7_number_16 : decode cX7_number 16 = .ok (.ifCond .ne 78, 3) := by decide +kernel
theorem dX7_number_19 : decode cX7_number 19 = .ok (.iload_n 2, 1) := by decide +kernel
theorem dX7_number_20 : decode cX7_number 20 = .ok (.ifCond .le 74, 3) := by decide +kernel
theorem dX7_number_23 : decode cX7_number 23 = .ok (.aload_n 0, 1) := by decide +kernel
theorem dX7_number_24 : decode cX7_number 24 = .ok (.getfield 84, 3) := by decide +kernel
theorem dX7_number_27 : decode cX7_number 27 = .ok (.aload_n 0, 1) := by decide +kernel
theorem dX7_number_28 : decode cX7_number 28 = .ok (.getfield 77, 3) := by decide +kernel
theorem dX7_number_31 : decode cX7_number 31 = .ok (.if_icmp .ge 63, 3) := by decide +kernel
theorem dX7_number_34 : decode cX7_number 34 = .ok (.aload_n 0, 1) := by decide +kernel
theorem dX7_number_35 : decode cX7_number 35 = .ok (.getfield 16, 3) := by decide +kernel
theorem dX7_number_38 : decode cX7_number 38 = .ok (.aload_n 0, 1) := by decide +kernel
theorem dX7_number_39 : decode cX7_number 39 = .ok (.getfield 84, 3) := by decide +kernel
theorem dX7_number_42 : decode cX7_number 42 = .ok (.iaload, 1) := by decide +kernel
theorem dX7_number_43 : decode cX7_number 43 = .ok (.bipush 48, 2) := by decide +kernel
theorem dX7_number_45 : decode cX7_number 45 = .ok (.bipush 57, 2) := by decide +kernel
theorem dX7_number_47 : decode cX7_number 47 = .ok (.invokestatic 42, 3) := by decide +kernel
theorem dX7_number_50 : decode cX7_number 50 = .ok (.ifCond .eq 44, 3) := by decide +kernel
theorem dX7_number_53 : decode cX7_number 53 = .ok (.bipush 10, 2) := by decide +kernel
theorem dX7_number_55 : decode cX7_number 55 = .ok (.iload_n 2, 1) := by decide +kernel
theorem dX7_number_56 : decode cX7_number 56 = .ok (.imul, 1) := by decide +kernel
theorem dX7_number_57 : decode cX7_number 57 = .ok (.aload_n 0, 1) := by decide +kernel
theorem dX7_number_58 : decode cX7_number 58 = .ok (.getfield 16, 3) := by decide +kernel
theorem dX7_number_61 : decode cX7_number 61 = .ok (.aload_n 0, 1) := by decide +kernel
theorem dX7_number_62 : decode cX7_number 62 = .ok (.getfield 84, 3) := by decide +kernel
theorem dX7_number_65 : decode cX7_number 65 = .ok (.iaload, 1) := by decide +kernel
theorem dX7_number_66 : decode cX7_number 66 = .ok (.iadd, 1) := by decide +kernel
theorem dX7_number_67 : decode cX7_number 67 = .ok (.bipush 48, 2) := by decide +kernel
theorem dX7_number_69 : decode cX7_number 69 = .ok (.isub, 1) := by decide +kernel
theorem dX7_number_70 : decode cX7_number 70 = .ok (.iload_n 1, 1) := by decide +kernel
theorem dX7_number_71 : decode cX7_number 71 = .ok (.if_icmp .gt 23, 3) := by decide +kernel
theorem dX7_number_74 : decode cX7_number 74 = .ok (.bipush 10, 2) := by decide +kernel
theorem dX7_number_76 : decode cX7_number 76 = .ok (.iload_n 2, 1) := by decide +kernel
theorem dX7_number_77 : decode cX7_number 77 = .ok (.imul, 1) := by decide +kernel
theorem dX7_number_78 : decode cX7_number 78 = .ok (.aload_n 0, 1) := by decide +kernel
theorem dX7_number_79 : decode cX7_number 79 = .ok (.bipush 48, 2) := by decide +kernel
theorem dX7_number_81 : decode cX7_number 81 = .ok (.bipush 57, 2) := by decide +kernel
theorem dX7_number_83 : decode cX7_number 83 = .ok (.invokevirtual 91, 3) := by decide +kernel
theorem dX7_number_86 : decode cX7_number 86 = .ok (.iadd, 1) := by decide +kernel
theorem dX7_number_87 : decode cX7_number 87 = .ok (.bipush 48, 2) := by decide +kernel
theorem dX7_number_89 : decode cX7_number 89 = .ok (.isub, 1) := by decide +kernel
theorem dX7_number_90 : decode cX7_number 90 = .ok (.istore_n 2, 1) := by decide +kernel
theorem dX7_number_91 : decode cX7_number 91 = .ok (.goto (-79), 3) := by decide +kernel
theorem dX7_number_94 : decode cX7_number 94 = .ok (.iload_n 2, 1) := by decide +kernel
theorem dX7_number_95 : decode cX7_number 95 = .ok (.ireturn, 1) := by decide +kernel
theorem dX7_read_0 : decode cX7_read 0 = .ok (.aload_n 0, 1) := by decide +kernel
theorem dX7_read_1 : decode cX7_read 1 = .ok (.getfield 84, 3) := by decide +kernel
theorem dX7_read_4 : decode cX7_read 4 = .ok (.aload_n 0, 1) := by decide +kernel
theorem dX7_read_5 : decode cX7_read 5 = .ok (.getfield 77, 3) := by decide +kernel
theorem dX7_read_8 : decode cX7_read 8 = .ok (.if_icmp .ge 15, 3) := by decide +kernel
theorem dX7_read_11 : decode cX7_read 11 = .ok (.aload_n 0, 1) := by decide +kernel
theorem dX7_read_12 : decode cX7_read 12 = .ok (.getfield 16, 3) := by decide +kernel
theorem dX7_read_15 : decode cX7_read 15 = .ok (.aload_n 0, 1) := by decide +kernel
theorem dX7_read_16 : decode cX7_read 16 = .ok (.getfield 84, 3) := by decide +kernel
theorem dX7_read_19 : decode cX7_read 19 = .ok (.iaload, 1) := by decide +kernel
theorem dX7_read_20 : decode cX7_read 20 = .ok (.goto 4, 3) := by decide +kernel
theorem dX7_read_23 : decode cX7_read 23 = .ok (.iconst 0, 1) := by decide +kernel
theorem dX7_read_24 : decode cX7_read 24 = .ok (.istore_n 1, 1) := by decide +kernel
theorem dX7_read_25 : decode cX7_read 25 = .ok (.aload_n 0, 1) := by decide +kernel
theorem dX7_read_26 : decode cX7_read 26 = .ok (.aload_n 0, 1) := by decide +kernel
theorem dX7_read_27 : decode cX7_read 27 = .ok (.getfield 87, 3) := by decide +kernel
theorem dX7_read_30 : decode cX7_read 30 = .ok (.ifCond .ne 27, 3) := by decide +kernel
theorem dX7_read_33 : decode cX7_read 33 = .ok (.iload_n 1, 1) := by decide +kernel
theorem dX7_read_34 : decode cX7_read 34 = .ok (.bipush 100, 2) := by decide +kernel
theorem dX7_read_36 : decode cX7_read 36 = .ok (.if_icmp .eq 25, 3) := by decide +kernel
theorem dX7_read_39 : decode cX7_read 39 = .ok (.iload_n 1, 1) := by decide +kernel
theorem dX7_read_40 : decode cX7_read 40 = .ok (.bipush 119, 2) := by decide +kernel
theorem dX7_read_42 : decode cX7_read 42 = .ok (.if_icmp .eq 19, 3) := by decide +kernel
theorem dX7_read_45 : decode cX7_read 45 = .ok (.iload_n 1, 1) := by decide +kernel
theorem dX7_read_46 : decode cX7_read 46 = .ok (.bipush 109, 2) := by decide +kernel
theorem dX7_read_48 : decode cX7_read 48 = .ok (.if_icmp .eq 13, 3) := by decide +kernel
theorem dX7_read_51 : decode cX7_read 51 = .ok (.iload_n 1, 1) := by decide +kernel
theorem dX7_read_52 : decode cX7_read 52 = .ok (.bipush 97, 2) := by decide +kernel
theorem dX7_read_54 : decode cX7_read 54 = .ok (.if_icmp .eq 7, 3) := by decide +kernel
theorem dX7_read_57 : decode cX7_read 57 = .ok (.iconst 1, 1) := by decide +kernel
theorem dX7_read_58 : decode cX7_read 58 = .ok (.goto 4, 3) := by decide +kernel
theorem dX7_read_61 : decode cX7_read 61 = .ok (.iconst 0, 1) := by decide +kernel
theorem dX7_read_62 : decode cX7_read 62 = .ok (.putfield 87, 3) := by decide +kernel
theorem dX7_read_65 : decode cX7_read 65 = .ok (.aload_n 0, 1) := by decide +kernel
theorem dX7_read_66 : decode cX7_read 66 = .ok (.dup, 1) := by decide +kernel
theorem dX7_read_67 : decode cX7_read 67 = .ok (.getfield 84, 3) := by decide +kernel
theorem dX7_read_70 : decode cX7_read 70 = .ok (.aload_n 0, 1) := by decide +kernel
theorem dX7_read_71 : decode cX7_read 71 = .ok (.getfield 87, 3) := by decide +kernel
theorem dX7_read_74 : decode cX7_read 74 = .ok (.ifCond .eq 7, 3) := by decide +kernel
theorem dX7_read_77 : decode cX7_read 77 = .ok (.iconst 0, 1) := by decide +kernel
theorem dX7_read_78 : decode cX7_read 78 = .ok (.goto 4, 3) := by decide +kernel
theorem dX7_read_81 : decode cX7_read 81 = .ok (.iconst 1, 1) := by decide +kernel
theorem dX7_read_82 : decode cX7_read 82 = .ok (.iadd, 1) := by decide +kernel
theorem dX7_read_83 : decode cX7_read 83 = .ok (.putfield 84, 3) := by decide +kernel
theorem dX7_read_86 : decode cX7_read 86 = .ok (.aload_n 0, 1) := by decide +kernel
theorem dX7_read_87 : decode cX7_read 87 = .ok (.getfield 32, 3) := by decide +kernel
theorem dX7_read_90 : decode cX7_read 90 = .ok (.iconst 0, 1) := by decide +kernel
theorem dX7_read_91 : decode cX7_read 91 = .ok (.iload_n 1, 1) := by decide +kernel
theorem dX7_read_92 : decode cX7_read 92 = .ok (.bipush 100, 2) := by decide +kernel
theorem dX7_read_94 : decode cX7_read 94 = .ok (.if_icmp .ne 7, 3) := by decide +kernel
theorem dX7_read_97 : decode cX7_read 97 = .ok (.iconst 0, 1) := by decide +kernel
theorem dX7_read_98 : decode cX7_read 98 = .ok (.goto 24, 3) := by decide +kernel
theorem dX7_read_101 : decode cX7_read 101 = .ok (.iload_n 1, 1) := by decide +kernel
theorem dX7_read_102 : decode cX7_read 102 = .ok (.bipush 119, 2) := by decide +kernel
theorem dX7_read_104 : decode cX7_read 104 = .ok (.if_icmp .ne 7, 3) := by decide +kernel
theorem dX7_read_107 : decode cX7_read 107 = .ok (.iconst 1, 1) := by decide +kernel
theorem dX7_read_108 : decode cX7_read 108 = .ok (.goto 14, 3) := by decide +kernel
theorem dX7_read_111 : decode cX7_read 111 = .ok (.iload_n 1, 1) := by decide +kernel
theorem dX7_read_112 : decode cX7_read 112 = .ok (.bipush 109, 2) := by decide +kernel
theorem dX7_read_114 : decode cX7_read 114 = .ok (.if_icmp .ne 7, 3) := by decide +kernel
theorem dX7_read_117 : decode cX7_read 117 = .ok (.iconst 2, 1) := by decide +kernel
theorem dX7_read_118 : decode cX7_read 118 = .ok (.goto 4, 3) := by decide +kernel
theorem dX7_read_121 : decode cX7_read 121 = .ok (.iconst 3, 1) := by decide +kernel
theorem dX7_read_122 : decode cX7_read 122 = .ok (.iastore, 1) := by decide +kernel
theorem dX7_read_123 : decode cX7_read 123 = .ok (.aload_n 0, 1) := by decide +kernel
theorem dX7_read_124 : decode cX7_read 124 = .ok (.getfield 32, 3) := by decide +kernel
theorem dX7_read_127 : decode cX7_read 127 = .ok (.iconst 3, 1) := by decide +kernel
theorem dX7_read_128 : decode cX7_read 128 = .ok (.iconst (-1), 1) := by decide +kernel
theorem dX7_read_129 : decode cX7_read 129 = .ok (.iastore, 1) := by decide +kernel
theorem dX7_read_130 : decode cX7_read 130 = .ok (.iload_n 1, 1) := by decide +kernel
theorem dX7_read_131 : decode cX7_read 131 = .ok (.bipush 97, 2) := by decide +kernel
theorem dX7_read_133 : decode cX7_read 133 = .ok (.if_icmp .ne 80, 3) := by decide +kernel
theorem dX7_read_136 : decode cX7_read 136 = .ok (.aload_n 0, 1) := by decide +kernel
theorem dX7_read_137 : decode cX7_read 137 = .ok (.getfield 32, 3) := by decide +kernel
theorem dX7_read_140 : decode cX7_read 140 = .ok (.iconst 3, 1) := by decide +kernel
theorem dX7_read_141 : decode cX7_read 141 = .ok (.aload_n 0, 1) := by decide +kernel
theorem dX7_read_142 : decode cX7_read 142 = .ok (.bipush 48, 2) := by decide +kernel
theorem dX7_read_144 : decode cX7_read 144 = .ok (.bipush 57, 2) := by decide +kernel
theorem dX7_read_146 : decode cX7_read 146 = .ok (.invokevirtual 91, 3) := by decide +kernel
theorem dX7_read_149 : decode cX7_read 149 = .ok (.bipush 48, 2) := by decide +kernel
theorem dX7_read_151 : decode cX7_read 151 = .ok (.isub, 1) := by decide +kernel
theorem dX7_read_152 : decode cX7_read 152 = .ok (.iastore, 1) := by decide +kernel
theorem dX7_read_153 : decode cX7_read 153 = .ok (.aload_n 0, 1) := by decide +kernel
theorem dX7_read_154 : decode cX7_read 154 = .ok (.bipush 45, 2) := by decide +kernel
theorem dX7_read_156 : decode cX7_read 156 = .ok (.invokevirtual 94, 3) := by decide +kernel
theorem dX7_read_159 : decode cX7_read 159 = .ok (.istore_n 2, 1) := by decide +kernel
theorem dX7_read_160 : decode cX7_read 160 = .ok (.iload_n 2, 1) := by decide +kernel
theorem dX7_read_161 : decode cX7_read 161 = .ok (.ifCond .eq 14, 3) := by decide +kernel
theorem dX7_read_164 : decode cX7_read 164 = .ok (.aload_n 0, 1) := by decide +kernel
theorem dX7_read_165 : decode cX7_read 165 = .ok (.bipush 45, 2) := by decide +kernel
theorem dX7_read_167 : decode cX7_read 167 = .ok (.bipush 45, 2) := by decide +kernel
theorem dX7_read_169 : decode cX7_read 169 = .ok (.invokevirtual 91, 3) := by decide +kernel
theorem dX7_read_172 : decode cX7_read 172 = .ok (.goto 11, 3) := by decide +kernel
theorem dX7_read_175 : decode cX7_read 175 = .ok (.aload_n 0, 1) := by decide +kernel
theorem dX7_read_176 : decode cX7_read 176 = .ok (.bipush 43, 2) := by decide +kernel
theorem dX7_read_178 : decode cX7_read 178 = .ok (.bipush 43, 2) := by decide +kernel
theorem dX7_read_180 : decode cX7_read 180 = .ok (.invokevirtual 91, 3) := by decide +kernel
theorem dX7_read_183 : decode cX7_read 183 = .ok (.istore_n 3, 1) := by decide +kernel
theorem dX7_read_184 : decode cX7_read 184 = .ok (.aload_n 0, 1) := by decide +kernel
theorem dX7_read_185 : decode cX7_read 185 = .ok (.getfield 32, 3) := by decide +kernel
theorem dX7_read_188 : decode cX7_read 188 = .ok (.iconst 2, 1) := by decide +kernel
theorem dX7_read_189 : decode cX7_read 189 = .ok (.iload_n 2, 1) := by decide +kernel
theorem dX7_read_190 : decode cX7_read 190 = .ok (.ifCond .eq 13, 3) := by decide +kernel
theorem dX7_read_193 : decode cX7_read 193 = .ok (.aload_n 0, 1) := by decide +kernel
theorem dX7_read_194 : decode cX7_read 194 = .ok (.bipush 90, 2) := by decide +kernel
theorem dX7_read_196 : decode cX7_read 196 = .ok (.invokevirtual 97, 3) := by decide +kernel
theorem dX7_read_199 : decode cX7_read 199 = .ok (.ineg, 1) := by decide +kernel
theorem dX7_read_200 : decode cX7_read 200 = .ok (.goto 9, 3) := by decide +kernel
theorem dX7_read_203 : decode cX7_read 203 = .ok (.aload_n 0, 1) := by decide +kernel
theorem dX7_read_204 : decode cX7_read 204 = .ok (.bipush 90, 2) := by decide +kernel
theorem dX7_read_206 : decode cX7_read 206 = .ok (.invokevirtual 97, 3) := by decide +kernel
theorem dX7_read_209 : decode cX7_read 209 = .ok (.iastore, 1) := by decide +kernel
theorem dX7_read_210 : decode cX7_read 210 = .ok (.goto 48, 3) := by decide +kernel
theorem dX7_read_213 : decode cX7_read 213 = .ok (.aload_n 0, 1) := by decide +kernel
theorem dX7_read_214 : decode cX7_read 214 = .ok (.getfield 32, 3) := by decide +kernel
theorem dX7_read_217 : decode cX7_read 217 = .ok (.iconst 2, 1) := by decide +kernel
theorem dX7_read_218 : decode cX7_read 218 = .ok (.aload_n 0, 1) := by decide +kernel
theorem dX7_read_219 : decode cX7_read 219 = .ok (.sipush 365, 3) := by decide +kernel
theorem dX7_read_222 : decode cX7_read 222 = .ok (.invokevirtual 97, 3) := by decide +kernel
theorem dX7_read_225 : decode cX7_read 225 = .ok (.iastore, 1) := by decide +kernel
theorem dX7_read_226 : decode cX7_read 226 = .ok (.iload_n 1, 1) := by decide +kernel
theorem dX7_read_227 : decode cX7_read 227 = .ok (.bipush 100, 2) := by decide +kernel
theorem dX7_read_229 : decode cX7_read 229 = .ok (.if_icmp .eq 29, 3) := by decide +kernel
theorem dX7_read_232 : decode cX7_read 232 = .ok (.aload_n 0, 1) := by decide +kernel
theorem dX7_read_233 : decode cX7_read 233 = .ok (.bipush 44, 2) := by decide +kernel
theorem dX7_read_235 : decode cX7_read 235 = .ok (.bipush 44, 2) := by decide +kernel
theorem dX7_read_237 : decode cX7_read 237 = .ok (.invokevirtual 91, 3) := by decide +kernel
theorem dX7_read_240 : decode cX7_read 240 = .ok (.istore_n 2, 1) := by decide +kernel
theorem dX7_read_241 : decode cX7_read 241 = .ok (.aload_n 0, 1) := by decide +kernel
theorem dX7_read_242 : decode cX7_read 242 = .ok (.getfield 32, 3) := by decide +kernel
theorem dX7_read_245 : decode cX7_read 245 = .ok (.iconst 3, 1) := by decide +kernel
theorem dX7_read_246 : decode cX7_read 246 = .ok (.aload_n 0, 1) := by decide +kernel
theorem dX7_read_247 : decode cX7_read 247 = .ok (.bipush 48, 2) := by decide +kernel
theorem dX7_read_249 : decode cX7_read 249 = .ok (.bipush 54, 2) := by decide +kernel
theorem dX7_read_251 : decode cX7_read 251 = .ok (.invokevirtual 91, 3) := by decide +kernel
theorem dX7_read_254 : decode cX7_read 254 = .ok (.bipush 48, 2) := by decide +kernel
theorem dX7_read_256 : decode cX7_read 256 = .ok (.isub, 1) := by decide +kernel
theorem dX7_read_257 : decode cX7_read 257 = .ok (.iastore, 1) := by decide +kernel
theorem dX7_read_258 : decode cX7_read 258 = .ok (.aload_n 0, 1) := by decide +kernel
theorem dX7_read_259 : decode cX7_read 259 = .ok (.getfield 32, 3) := by decide +kernel
theorem dX7_read_262 : decode cX7_read 262 = .ok (.iconst 1, 1) := by decide +kernel
theorem dX7_read_263 : decode cX7_read 263 = .ok (.iconst 0, 1) := by decide +kernel
theorem dX7_read_264 : decode cX7_read 264 = .ok (.iastore, 1) := by decide +kernel
theorem dX7_read_265 : decode cX7_read 265 = .ok (.aload_n 0, 1) := by decide +kernel
theorem dX7_read_266 : decode cX7_read 266 = .ok (.bipush 94, 2) := by decide +kernel
theorem dX7_read_268 : decode cX7_read 268 = .ok (.invokevirtual 94, 3) := by decide +kernel
theorem dX7_read_271 : decode cX7_read 271 = .ok (.ifCond .eq 29, 3) := by decide +kernel
theorem dX7_read_274 : decode cX7_read 274 = .ok (.aload_n 0, 1) := by decide +kernel
theorem dX7_read_275 : decode cX7_read 275 = .ok (.bipush 94, 2) := by decide +kernel
theorem dX7_read_277 : decode cX7_read 277 = .ok (.bipush 94, 2) := by decide +kernel
theorem dX7_read_279 : decode cX7_read 279 = .ok (.invokevirtual 91, 3) := by decide +kernel
theorem dX7_read_282 : decode cX7_read 282 = .ok (.istore_n 2, 1) := by decide +kernel
theorem dX7_read_283 : decode cX7_read 283 = .ok (.aload_n 0, 1) := by decide +kernel
theorem dX7_read_284 : decode cX7_read 284 = .ok (.getfield 32, 3) := by decide +kernel
theorem dX7_read_287 : decode cX7_read 287 = .ok (.iconst 1, 1) := by decide +kernel
theorem dX7_read_288 : decode cX7_read 288 = .ok (.aload_n 0, 1) := by decide +kernel
theorem dX7_read_289 : decode cX7_read 289 = .ok (.bipush 48, 2) := by decide +kernel
theorem dX7_read_291 : decode cX7_read 291 = .ok (.bipush 57, 2) := by decide +kernel
theorem dX7_read_293 : decode cX7_read 293 = .ok (.invokevirtual 91, 3) := by decide +kernel
theorem dX7_read_296 : decode cX7_read 296 = .ok (.bipush 48, 2) := by decide +kernel
theorem dX7_read_298 : decode cX7_read 298 = .ok (.isub, 1) := by decide +kernel
theorem dX7_read_299 : decode cX7_read 299 = .ok (.iastore, 1) := by decide +kernel
theorem dX7_read_300 : decode cX7_read 300 = .ok (.return_, 1) := by decide +kernel
theorem dX7_adds_0 : decode cX7_adds 0 = .ok (.aload_n 0, 1) := by decide +kernel
theorem dX7_adds_1 : decode cX7_adds 1 = .ok (.getfield 7, 3) := by decide +kernel
theorem dX7_adds_4 : decode cX7_adds 4 = .ok (.iconst 0, 1) := by decide +kernel
theorem dX7_adds_5 : decode cX7_adds 5 = .ok (.iaload, 1) := by decide +kernel
theorem dX7_adds_6 : decode cX7_adds 6 = .ok (.istore_n 1, 1) := by decide +kernel
theorem dX7_adds_7 : decode cX7_adds 7 = .ok (.iload_n 1, 1) := by decide +kernel
theorem dX7_adds_8 : decode cX7_adds 8 = .ok (.bipush 10, 2) := by decide +kernel
theorem dX7_adds_10 : decode cX7_adds 10 = .ok (.if_icmp .ge 27, 3) := by decide +kernel
theorem dX7_adds_13 : decode cX7_adds 13 = .ok (.aload_n 0, 1) := by decide +kernel
theorem dX7_adds_14 : decode cX7_adds 14 = .ok (.getfield 32, 3) := by decide +kernel
theorem dX7_adds_17 : decode cX7_adds 17 = .ok (.iconst 0, 1) := by decide +kernel
theorem dX7_adds_18 : decode cX7_adds 18 = .ok (.iaload, 1) := by decide +kernel
theorem dX7_adds_19 : decode cX7_adds 19 = .ok (.iconst 3, 1) := by decide +kernel
theorem dX7_adds_20 : decode cX7_adds 20 = .ok (.if_icmp .ne 13, 3) := by decide +kernel
theorem dX7_adds_23 : decode cX7_adds 23 = .ok (.aload_n 0, 1) := by decide +kernel
theorem dX7_adds_24 : decode cX7_adds 24 = .ok (.getfield 32, 3) := by decide +kernel
theorem dX7_adds_27 : decode cX7_adds 27 = .ok (.iconst 3, 1) := by decide +kernel
theorem dX7_adds_28 : decode cX7_adds 28 = .ok (.iaload, 1) := by decide +kernel
theorem dX7_adds_29 : decode cX7_adds 29 = .ok (.iload_n 1, 1) := by decide +kernel
theorem dX7_adds_30 : decode cX7_adds 30 = .ok (.if_icmp .ge 7, 3) := by decide +kernel
theorem dX7_adds_33 : decode cX7_adds 33 = .ok (.iconst 1, 1) := by decide +kernel
theorem dX7_adds_34 : decode cX7_adds 34 = .ok (.goto 4, 3) := by decide +kernel
theorem dX7_adds_37 : decode cX7_adds 37 = .ok (.iconst 0, 1) := by decide +kernel
theorem dX7_adds_38 : decode cX7_adds 38 = .ok (.istore_n 2, 1) := by decide +kernel
theorem dX7_adds_39 : decode cX7_adds 39 = .ok (.iconst 0, 1) := by decide +kernel
theorem dX7_adds_40 : decode cX7_adds 40 = .ok (.istore_n 3, 1) := by decide +kernel
theorem dX7_adds_41 : decode cX7_adds 41 = .ok (.iload_n 3, 1) := by decide +kernel
theorem dX7_adds_42 : decode cX7_adds 42 = .ok (.iconst 4, 1) := by decide +kernel
theorem dX7_adds_43 : decode cX7_adds 43 = .ok (.if_icmp .ge 29, 3) := by decide +kernel
theorem dX7_adds_46 : decode cX7_adds 46 = .ok (.iload_n 2, 1) := by decide +kernel
theorem dX7_adds_47 : decode cX7_adds 47 = .ok (.ifCond .eq 25, 3) := by decide +kernel
theorem dX7_adds_50 : decode cX7_adds 50 = .ok (.aload_n 0, 1) := by decide +kernel
theorem dX7_adds_51 : decode cX7_adds 51 = .ok (.getfield 7, 3) := by decide +kernel
theorem dX7_adds_54 : decode cX7_adds 54 = .ok (.iload_n 1, 1) := by decide +kernel
theorem dX7_adds_55 : decode cX7_adds 55 = .ok (.iload_n 3, 1) := by decide +kernel
theorem dX7_adds_56 : decode cX7_adds 56 = .ok (.invokestatic 61, 3) := by decide +kernel
theorem dX7_adds_59 : decode cX7_adds 59 = .ok (.aload_n 0, 1) := by decide +kernel
theorem dX7_adds_60 : decode cX7_adds 60 = .ok (.getfield 32, 3) := by decide +kernel
theorem dX7_adds_63 : decode cX7_adds 63 = .ok (.iload_n 3, 1) := by decide +kernel
theorem dX7_adds_64 : decode cX7_adds 64 = .ok (.iaload, 1) := by decide +kernel
theorem dX7_adds_65 : decode cX7_adds 65 = .ok (.iastore, 1) := by decide +kernel
theorem dX7_adds_66 : decode cX7_adds 66 = .ok (.iinc 3 1, 3) := by decide +kernel
theorem dX7_adds_69 : decode cX7_adds 69 = .ok (.goto (-28), 3) := by decide +kernel
theorem dX7_adds_72 : decode cX7_adds 72 = .ok (.aload_n 0, 1) := by decide +kernel
theorem dX7_adds_73 : decode cX7_adds 73 = .ok (.getfield 7, 3) := by decide +kernel
theorem dX7_adds_76 : decode cX7_adds 76 = .ok (.iconst 0, 1) := by decide +kernel
theorem dX7_adds_77 : decode cX7_adds 77 = .ok (.dup2, 1) := by decide +kernel
theorem dX7_adds_78 : decode cX7_adds 78 = .ok (.iaload, 1) := by decide +kernel
theorem dX7_adds_79 : decode cX7_adds 79 = .ok (.iload_n 2, 1) := by decide +kernel
theorem dX7_adds_80 : decode cX7_adds 80 = .ok (.ifCond .eq 7, 3) := by decide +kernel
theorem dX7_adds_83 : decode cX7_adds 83 = .ok (.iconst 1, 1) := by decide +kernel
theorem dX7_adds_84 : decode cX7_adds 84 = .ok (.goto 4, 3) := by decide +kernel
theorem dX7_adds_87 : decode cX7_adds 87 = .ok (.iconst 0, 1) := by decide +kernel
theorem dX7_adds_88 : decode cX7_adds 88 = .ok (.iadd, 1) := by decide +kernel
theorem dX7_adds_89 : decode cX7_adds 89 = .ok (.iastore, 1) := by decide +kernel
theorem dX7_adds_90 : decode cX7_adds 90 = .ok (.iload_n 2, 1) := by decide +kernel
theorem dX7_adds_91 : decode cX7_adds 91 = .ok (.ireturn, 1) := by decide +kernel
theorem dX7_go_0 : decode cX7_go 0 = .ok (.aload_n 0, 1) := by decide +kernel
theorem dX7_go_1 : decode cX7_go 1 = .ok (.iconst 0, 1) := by decide +kernel
theorem dX7_go_2 : decode cX7_go 2 = .ok (.putfield 84, 3) := by decide +kernel
theorem dX7_go_5 : decode cX7_go 5 = .ok (.aload_n 0, 1) := by decide +kernel
theorem dX7_go_6 : decode cX7_go 6 = .ok (.iconst 0, 1) := by decide +kernel
theorem dX7_go_7 : decode cX7_go 7 = .ok (.putfield 87, 3) := by decide +kernel
theorem dX7_go_10 : decode cX7_go 10 = .ok (.iconst 0, 1) := by decide +kernel
theorem dX7_go_11 : decode cX7_go 11 = .ok (.istore_n 2, 1) := by decide +kernel
theorem dX7_go_12 : decode cX7_go 12 = .ok (.iconst 1, 1) := by decide +kernel
theorem dX7_go_13 : decode cX7_go 13 = .ok (.istore_n 3, 1) := by decide +kernel
theorem dX7_go_14 : decode cX7_go 14 = .ok (.iload_n 3, 1) := by decide +kernel
theorem dX7_go_15 : decode cX7_go 15 = .ok (.ifCond .eq 101, 3) := by decide +kernel
theorem dX7_go_18 : decode cX7_go 18 = .ok (.aload_n 0, 1) := by decide +kernel
theorem dX7_go_19 : decode cX7_go 19 = .ok (.invokevirtual 100, 3) := by decide +kernel
theorem dX7_go_22 : decode cX7_go 22 = .ok (.iload_n 1, 1) := by decide +kernel
theorem dX7_go_23 : decode cX7_go 23 = .ok (.ifCond .eq 14, 3) := by decide +kernel
theorem dX7_go_26 : decode cX7_go 26 = .ok (.aload_n 0, 1) := by decide +kernel
theorem dX7_go_27 : decode cX7_go 27 = .ok (.invokevirtual 103, 3) := by decide +kernel
theorem dX7_go_30 : decode cX7_go 30 = .ok (.ifCond .eq 7, 3) := by decide +kernel
theorem dX7_go_33 : decode cX7_go 33 = .ok (.iconst 1, 1) := by decide +kernel
theorem dX7_go_34 : decode cX7_go 34 = .ok (.goto 4, 3) := by decide +kernel
theorem dX7_go_37 : decode cX7_go 37 = .ok (.iconst 0, 1) := by decide +kernel
theorem dX7_go_38 : decode cX7_go 38 = .ok (.istore 4, 2) := by decide +kernel
theorem dX7_go_40 : decode cX7_go 40 = .ok (.iload_n 2, 1) := by decide +kernel
theorem dX7_go_41 : decode cX7_go 41 = .ok (.iload 4, 2) := by decide +kernel
theorem dX7_go_43 : decode cX7_go 43 = .ok (.ifCond .eq 7, 3) := by decide +kernel
theorem dX7_go_46 : decode cX7_go 46 = .ok (.iconst 1, 1) := by decide +kernel
theorem dX7_go_47 : decode cX7_go 47 = .ok (.goto 4, 3) := by decide +kernel
theorem dX7_go_50 : decode cX7_go 50 = .ok (.iconst 0, 1) := by decide +kernel
theorem dX7_go_51 : decode cX7_go 51 = .ok (.iadd, 1) := by decide +kernel
theorem dX7_go_52 : decode cX7_go 52 = .ok (.istore_n 2, 1) := by decide +kernel
theorem dX7_go_53 : decode cX7_go 53 = .ok (.aload_n 0, 1) := by decide +kernel
theorem dX7_go_54 : decode cX7_go 54 = .ok (.getfield 87, 3) := by decide +kernel
theorem dX7_go_57 : decode cX7_go 57 = .ok (.ifCond .ne 27, 3) := by decide +kernel
theorem dX7_go_60 : decode cX7_go 60 = .ok (.iload 4, 2) := by decide +kernel
theorem dX7_go_62 : decode cX7_go 62 = .ok (.ifCond .ne 7, 3) := by decide +kernel
theorem dX7_go_65 : decode cX7_go 65 = .ok (.iload_n 1, 1) := by decide +kernel
theorem dX7_go_66 : decode cX7_go 66 = .ok (.ifCond .ne 18, 3) := by decide +kernel
theorem dX7_go_69 : decode cX7_go 69 = .ok (.aload_n 0, 1) := by decide +kernel
theorem dX7_go_70 : decode cX7_go 70 = .ok (.getfield 84, 3) := by decide +kernel
theorem dX7_go_73 : decode cX7_go 73 = .ok (.aload_n 0, 1) := by decide +kernel
theorem dX7_go_74 : decode cX7_go 74 = .ok (.getfield 77, 3) := by decide +kernel
theorem dX7_go_77 : decode cX7_go 77 = .ok (.if_icmp .ge 7, 3) := by decide +kernel
theorem dX7_go_80 : decode cX7_go 80 = .ok (.iconst 1, 1) := by decide +kernel
theorem dX7_go_81 : decode cX7_go 81 = .ok (.goto 4, 3) := by decide +kernel
theorem dX7_go_84 : decode cX7_go 84 = .ok (.iconst 0, 1) := by decide +kernel
theorem dX7_go_85 : decode cX7_go 85 = .ok (.istore_n 3, 1) := by decide +kernel
theorem dX7_go_86 : decode cX7_go 86 = .ok (.iload_n 3, 1) := by decide +kernel
theorem dX7_go_87 : decode cX7_go 87 = .ok (.ifCond .eq 26, 3) := by decide +kernel
theorem dX7_go_90 : decode cX7_go 90 = .ok (.aload_n 0, 1) := by decide +kernel
theorem dX7_go_91 : decode cX7_go 91 = .ok (.bipush 59, 2) := by decide +kernel
theorem dX7_go_93 : decode cX7_go 93 = .ok (.bipush 59, 2) := by decide +kernel
theorem dX7_go_95 : decode cX7_go 95 = .ok (.invokevirtual 91, 3) := by decide +kernel
theorem dX7_go_98 : decode cX7_go 98 = .ok (.istore 5, 2) := by decide +kernel
theorem dX7_go_100 : decode cX7_go 100 = .ok (.aload_n 0, 1) := by decide +kernel
theorem dX7_go_101 : decode cX7_go 101 = .ok (.getfield 87, 3) := by decide +kernel
theorem dX7_go_104 : decode cX7_go 104 = .ok (.ifCond .ne 7, 3) := by decide +kernel
theorem dX7_go_107 : decode cX7_go 107 = .ok (.iconst 1, 1) := by decide +kernel
theorem dX7_go_108 : decode cX7_go 108 = .ok (.goto 4, 3) := by decide +kernel
theorem dX7_go_111 : decode cX7_go 111 = .ok (.iconst 0, 1) := by decide +kernel
theorem dX7_go_112 : decode cX7_go 112 = .ok (.istore_n 3, 1) := by decide +kernel
theorem dX7_go_113 : decode cX7_go 113 = .ok (.goto (-99), 3) := by decide +kernel
theorem dX7_go_116 : decode cX7_go 116 = .ok (.iload_n 2, 1) := by decide +kernel
theorem dX7_go_117 : decode cX7_go 117 = .ok (.ireturn, 1) := by decide +kernel
theorem dX7_firstError_0 : decode cX7_firstError 0 = .ok (.aload_n 0, 1) := by decide +kernel
theorem dX7_firstError_1 : decode cX7_firstError 1 = .ok (.iconst 0, 1) := by decide +kernel
theorem dX7_firstError_2 : decode cX7_firstError 2 = .ok (.putfield 38, 3) := by decide +kernel
theorem dX7_firstError_5 : decode cX7_firstError 5 = .ok (.aload_n 0, 1) := by decide +kernel
theorem dX7_firstError_6 : decode cX7_firstError 6 = .ok (.iconst 0, 1) := by decide +kernel
theorem dX7_firstError_7 : decode cX7_firstError 7 = .ok (.invokevirtual 107, 3) := by decide +kernel
theorem dX7_firstError_10 : decode cX7_firstError 10 = .ok (.istore_n 1, 1) := by decide +kernel
theorem dX7_firstError_11 : decode cX7_firstError 11 = .ok (.aload_n 0, 1) := by decide +kernel
theorem dX7_firstError_12 : decode cX7_firstError 12 = .ok (.getfield 87, 3) := by decide +kernel
theorem dX7_firstError_15 : decode cX7_firstError 15 = .ok (.ifCond .eq 10, 3) := by decide +kernel
theorem dX7_firstError_18 : decode cX7_firstError 18 = .ok (.aload_n 0, 1) := by decide +kernel
theorem dX7_firstError_19 : decode cX7_firstError 19 = .ok (.getfield 84, 3) := by decide +kernel
theorem dX7_firstError_22 : decode cX7_firstError 22 = .ok (.goto 7, 3) := by decide +kernel
theorem dX7_firstError_25 : decode cX7_firstError 25 = .ok (.aload_n 0, 1) := by decide +kernel
theorem dX7_firstError_26 : decode cX7_firstError 26 = .ok (.getfield 77, 3) := by decide +kernel
theorem dX7_firstError_29 : decode cX7_firstError 29 = .ok (.ireturn, 1) := by decide +kernel
theorem dX7_proclaim_0 : decode cX7_proclaim 0 = .ok (.aload_n 0, 1) := by decide +kernel
theorem dX7_proclaim_1 : decode cX7_proclaim 1 = .ok (.iconst 0, 1) := by decide +kernel
theorem dX7_proclaim_2 : decode cX7_proclaim 2 = .ok (.invokevirtual 107, 3) := by decide +kernel
theorem dX7_proclaim_5 : decode cX7_proclaim 5 = .ok (.istore_n 1, 1) := by decide +kernel
theorem dX7_proclaim_6 : decode cX7_proclaim 6 = .ok (.aload_n 0, 1) := by decide +kernel
theorem dX7_proclaim_7 : decode cX7_proclaim 7 = .ok (.aload_n 0, 1) := by decide +kernel
theorem dX7_proclaim_8 : decode cX7_proclaim 8 = .ok (.getfield 87, 3) := by decide +kernel
theorem dX7_proclaim_11 : decode cX7_proclaim 11 = .ok (.ifCond .eq 7, 3) := by decide +kernel
theorem dX7_proclaim_14 : decode cX7_proclaim 14 = .ok (.iconst 1, 1) := by decide +kernel
theorem dX7_proclaim_15 : decode cX7_proclaim 15 = .ok (.goto 4, 3) := by decide +kernel
theorem dX7_proclaim_18 : decode cX7_proclaim 18 = .ok (.iconst 0, 1) := by decide +kernel
theorem dX7_proclaim_19 : decode cX7_proclaim 19 = .ok (.invokevirtual 80, 3) := by decide +kernel
theorem dX7_proclaim_22 : decode cX7_proclaim 22 = .ok (.ifCond .ne 5, 3) := by decide +kernel
theorem dX7_proclaim_25 : decode cX7_proclaim 25 = .ok (.iconst 0, 1) := by decide +kernel
theorem dX7_proclaim_26 : decode cX7_proclaim 26 = .ok (.ireturn, 1) := by decide +kernel
theorem dX7_proclaim_27 : decode cX7_proclaim 27 = .ok (.aload_n 0, 1) := by decide +kernel
theorem dX7_proclaim_28 : decode cX7_proclaim 28 = .ok (.invokevirtual 111, 3) := by decide +kernel
theorem dX7_proclaim_31 : decode cX7_proclaim 31 = .ok (.aload_n 0, 1) := by decide +kernel
theorem dX7_proclaim_32 : decode cX7_proclaim 32 = .ok (.iconst 1, 1) := by decide +kernel
theorem dX7_proclaim_33 : decode cX7_proclaim 33 = .ok (.invokevirtual 107, 3) := by decide +kernel
theorem dX7_proclaim_36 : decode cX7_proclaim 36 = .ok (.istore_n 2, 1) := by decide +kernel
theorem dX7_proclaim_37 : decode cX7_proclaim 37 = .ok (.aload_n 0, 1) := by decide +kernel
theorem dX7_proclaim_38 : decode cX7_proclaim 38 = .ok (.iconst 0, 1) := by decide +kernel
theorem dX7_proclaim_39 : decode cX7_proclaim 39 = .ok (.putfield 77, 3) := by decide +kernel
theorem dX7_proclaim_42 : decode cX7_proclaim 42 = .ok (.iload_n 2, 1) := by decide +kernel
theorem dX7_proclaim_43 : decode cX7_proclaim 43 = .ok (.ireturn, 1) := by decide +kernel
theorem dX7_forget_0 : decode cX7_forget 0 = .ok (.aload_n 0, 1) := by decide +kernel
theorem dX7_forget_1 : decode cX7_forget 1 = .ok (.aload_n 0, 1) := by decide +kernel
theorem dX7_forget_2 : decode cX7_forget 2 = .ok (.getfield 7, 3) := by decide +kernel
theorem dX7_forget_5 : decode cX7_forget 5 = .ok (.iconst 0, 1) := by decide +kernel
theorem dX7_forget_6 : decode cX7_forget 6 = .ok (.iaload, 1) := by decide +kernel
theorem dX7_forget_7 : decode cX7_forget 7 = .ok (.ifCond .ne 7, 3) := by decide +kernel
theorem dX7_forget_10 : decode cX7_forget 10 = .ok (.iconst 1, 1) := by decide +kernel
theorem dX7_forget_11 : decode cX7_forget 11 = .ok (.goto 4, 3) := by decide +kernel
theorem dX7_forget_14 : decode cX7_forget 14 = .ok (.iconst 0, 1) := by decide +kernel
theorem dX7_forget_15 : decode cX7_forget 15 = .ok (.invokevirtual 80, 3) := by decide +kernel
theorem dX7_forget_18 : decode cX7_forget 18 = .ok (.ifCond .ne 5, 3) := by decide +kernel
theorem dX7_forget_21 : decode cX7_forget 21 = .ok (.iconst 0, 1) := by decide +kernel
theorem dX7_forget_22 : decode cX7_forget 22 = .ok (.ireturn, 1) := by decide +kernel
theorem dX7_forget_23 : decode cX7_forget 23 = .ok (.aload_n 0, 1) := by decide +kernel
theorem dX7_forget_24 : decode cX7_forget 24 = .ok (.invokevirtual 111, 3) := by decide +kernel
theorem dX7_forget_27 : decode cX7_forget 27 = .ok (.aload_n 0, 1) := by decide +kernel
theorem dX7_forget_28 : decode cX7_forget 28 = .ok (.getfield 7, 3) := by decide +kernel
theorem dX7_forget_31 : decode cX7_forget 31 = .ok (.iconst 0, 1) := by decide +kernel
theorem dX7_forget_32 : decode cX7_forget 32 = .ok (.dup2, 1) := by decide +kernel
theorem dX7_forget_33 : decode cX7_forget 33 = .ok (.iaload, 1) := by decide +kernel
theorem dX7_forget_34 : decode cX7_forget 34 = .ok (.iconst 1, 1) := by decide +kernel
theorem dX7_forget_35 : decode cX7_forget 35 = .ok (.isub, 1) := by decide +kernel
theorem dX7_forget_36 : decode cX7_forget 36 = .ok (.iastore, 1) := by decide +kernel
theorem dX7_forget_37 : decode cX7_forget 37 = .ok (.aload_n 0, 1) := by decide +kernel
theorem dX7_forget_38 : decode cX7_forget 38 = .ok (.getfield 7, 3) := by decide +kernel
theorem dX7_forget_41 : decode cX7_forget 41 = .ok (.iconst 0, 1) := by decide +kernel
theorem dX7_forget_42 : decode cX7_forget 42 = .ok (.iaload, 1) := by decide +kernel
theorem dX7_forget_43 : decode cX7_forget 43 = .ok (.ireturn, 1) := by decide +kernel
theorem dX7_puts_0 : decode cX7_puts 0 = .ok (.aload_n 0, 1) := by decide +kernel
theorem dX7_puts_1 : decode cX7_puts 1 = .ok (.invokevirtual 111, 3) := by decide +kernel
theorem dX7_puts_4 : decode cX7_puts 4 = .ok (.aload_n 0, 1) := by decide +kernel
theorem dX7_puts_5 : decode cX7_puts 5 = .ok (.getfield 7, 3) := by decide +kernel
theorem dX7_puts_8 : decode cX7_puts 8 = .ok (.iload_n 1, 1) := by decide +kernel
theorem dX7_puts_9 : decode cX7_puts 9 = .ok (.iaload, 1) := by decide +kernel
theorem dX7_puts_10 : decode cX7_puts 10 = .ok (.istore_n 3, 1) := by decide +kernel
theorem dX7_puts_11 : decode cX7_puts 11 = .ok (.aload_n 0, 1) := by decide +kernel
theorem dX7_puts_12 : decode cX7_puts 12 = .ok (.getfield 7, 3) := by decide +kernel
theorem dX7_puts_15 : decode cX7_puts 15 = .ok (.iload_n 1, 1) := by decide +kernel
theorem dX7_puts_16 : decode cX7_puts 16 = .ok (.iload_n 2, 1) := by decide +kernel
theorem dX7_puts_17 : decode cX7_puts 17 = .ok (.iastore, 1) := by decide +kernel
theorem dX7_puts_18 : decode cX7_puts 18 = .ok (.iload_n 3, 1) := by decide +kernel
theorem dX7_puts_19 : decode cX7_puts 19 = .ok (.ireturn, 1) := by decide +kernel
theorem dX7_rank_0 : decode cX7_rank 0 = .ok (.aload_n 0, 1) := by decide +kernel
theorem dX7_rank_1 : decode cX7_rank 1 = .ok (.aload_n 0, 1) := by decide +kernel
theorem dX7_rank_2 : decode cX7_rank 2 = .ok (.iload_n 1, 1) := by decide +kernel
theorem dX7_rank_3 : decode cX7_rank 3 = .ok (.invokevirtual 114, 3) := by decide +kernel
theorem dX7_rank_6 : decode cX7_rank 6 = .ok (.ifCond .ne 7, 3) := by decide +kernel
theorem dX7_rank_9 : decode cX7_rank 9 = .ok (.iconst 1, 1) := by decide +kernel
theorem dX7_rank_10 : decode cX7_rank 10 = .ok (.goto 18, 3) := by decide +kernel
theorem dX7_rank_13 : decode cX7_rank 13 = .ok (.iload_n 2, 1) := by decide +kernel
theorem dX7_rank_14 : decode cX7_rank 14 = .ok (.iconst 0, 1) := by decide +kernel
theorem dX7_rank_15 : decode cX7_rank 15 = .ok (.bipush 9, 2) := by decide +kernel
theorem dX7_rank_17 : decode cX7_rank 17 = .ok (.invokestatic 42, 3) := by decide +kernel
theorem dX7_rank_20 : decode cX7_rank 20 = .ok (.ifCond .ne 7, 3) := by decide +kernel
theorem dX7_rank_23 : decode cX7_rank 23 = .ok (.iconst 2, 1) := by decide +kernel
theorem dX7_rank_24 : decode cX7_rank 24 = .ok (.goto 4, 3) := by decide +kernel
theorem dX7_rank_27 : decode cX7_rank 27 = .ok (.iconst 0, 1) := by decide +kernel
theorem dX7_rank_28 : decode cX7_rank 28 = .ok (.invokevirtual 80, 3) := by decide +kernel
theorem dX7_rank_31 : decode cX7_rank 31 = .ok (.ifCond .eq 16, 3) := by decide +kernel
theorem dX7_rank_34 : decode cX7_rank 34 = .ok (.aload_n 0, 1) := by decide +kernel
theorem dX7_rank_35 : decode cX7_rank 35 = .ok (.iload_n 1, 1) := by decide +kernel
theorem dX7_rank_36 : decode cX7_rank 36 = .ok (.iconst 1, 1) := by decide +kernel
theorem dX7_rank_37 : decode cX7_rank 37 = .ok (.invokestatic 61, 3) := by decide +kernel
theorem dX7_rank_40 : decode cX7_rank 40 = .ok (.iload_n 2, 1) := by decide +kernel
theorem dX7_rank_41 : decode cX7_rank 41 = .ok (.invokevirtual 117, 3) := by decide +kernel
theorem dX7_rank_44 : decode cX7_rank 44 = .ok (.goto 4, 3) := by decide +kernel
theorem dX7_rank_47 : decode cX7_rank 47 = .ok (.iconst 0, 1) := by decide +kernel
theorem dX7_rank_48 : decode cX7_rank 48 = .ok (.ireturn, 1) := by decide +kernel
theorem dX7_teach_0 : decode cX7_teach 0 = .ok (.aload_n 0, 1) := by decide +kernel
theorem dX7_teach_1 : decode cX7_teach 1 = .ok (.iload_n 1, 1) := by decide +kernel
theorem dX7_teach_2 : decode cX7_teach 2 = .ok (.invokestatic 120, 3) := by decide +kernel
theorem dX7_teach_5 : decode cX7_teach 5 = .ok (.ifCond .eq 17, 3) := by decide +kernel
theorem dX7_teach_8 : decode cX7_teach 8 = .ok (.iload_n 2, 1) := by decide +kernel
theorem dX7_teach_9 : decode cX7_teach 9 = .ok (.bipush (-5), 2) := by decide +kernel
theorem dX7_teach_11 : decode cX7_teach 11 = .ok (.iconst 5, 1) := by decide +kernel
theorem dX7_teach_12 : decode cX7_teach 12 = .ok (.invokestatic 42, 3) := by decide +kernel
theorem dX7_teach_15 : decode cX7_teach 15 = .ok (.ifCond .eq 7, 3) := by decide +kernel
theorem dX7_teach_18 : decode cX7_teach 18 = .ok (.iconst 0, 1) := by decide +kernel
theorem dX7_teach_19 : decode cX7_teach 19 = .ok (.goto 4, 3) := by decide +kernel
theorem dX7_teach_22 : decode cX7_teach 22 = .ok (.iconst 1, 1) := by decide +kernel
theorem dX7_teach_23 : decode cX7_teach 23 = .ok (.invokevirtual 80, 3) := by decide +kernel
theorem dX7_teach_26 : decode cX7_teach 26 = .ok (.ifCond .eq 17, 3) := by decide +kernel
theorem dX7_teach_29 : decode cX7_teach 29 = .ok (.aload_n 0, 1) := by decide +kernel
theorem dX7_teach_30 : decode cX7_teach 30 = .ok (.bipush 41, 2) := by decide +kernel
theorem dX7_teach_32 : decode cX7_teach 32 = .ok (.iload_n 1, 1) := by decide +kernel
theorem dX7_teach_33 : decode cX7_teach 33 = .ok (.iadd, 1) := by decide +kernel
theorem dX7_teach_34 : decode cX7_teach 34 = .ok (.iload_n 2, 1) := by decide +kernel
theorem dX7_teach_35 : decode cX7_teach 35 = .ok (.invokevirtual 117, 3) := by decide +kernel
theorem dX7_teach_38 : decode cX7_teach 38 = .ok (.iconst 5, 1) := by decide +kernel
theorem dX7_teach_39 : decode cX7_teach 39 = .ok (.iadd, 1) := by decide +kernel
theorem dX7_teach_40 : decode cX7_teach 40 = .ok (.goto 4, 3) := by decide +kernel
theorem dX7_teach_43 : decode cX7_teach 43 = .ok (.iconst 0, 1) := by decide +kernel
theorem dX7_teach_44 : decode cX7_teach 44 = .ok (.ireturn, 1) := by decide +kernel
theorem dX7_set_0 : decode cX7_set 0 = .ok (.aload_n 0, 1) := by decide +kernel
theorem dX7_set_1 : decode cX7_set 1 = .ok (.iload_n 1, 1) := by decide +kernel
theorem dX7_set_2 : decode cX7_set 2 = .ok (.bipush 50, 2) := by decide +kernel
theorem dX7_set_4 : decode cX7_set 4 = .ok (.sipush 400, 3) := by decide +kernel
theorem dX7_set_7 : decode cX7_set 7 = .ok (.invokestatic 42, 3) := by decide +kernel
theorem dX7_set_10 : decode cX7_set 10 = .ok (.ifCond .eq 7, 3) := by decide +kernel
theorem dX7_set_13 : decode cX7_set 13 = .ok (.iconst 0, 1) := by decide +kernel
theorem dX7_set_14 : decode cX7_set 14 = .ok (.goto 4, 3) := by decide +kernel
theorem dX7_set_17 : decode cX7_set 17 = .ok (.iconst 1, 1) := by decide +kernel
theorem dX7_set_18 : decode cX7_set 18 = .ok (.invokevirtual 80, 3) := by decide +kernel
theorem dX7_set_21 : decode cX7_set 21 = .ok (.ifCond .eq 13, 3) := by decide +kernel
theorem dX7_set_24 : decode cX7_set 24 = .ok (.aload_n 0, 1) := by decide +kernel
theorem dX7_set_25 : decode cX7_set 25 = .ok (.bipush 44, 2) := by decide +kernel
theorem dX7_set_27 : decode cX7_set 27 = .ok (.iload_n 1, 1) := by decide +kernel
theorem dX7_set_28 : decode cX7_set 28 = .ok (.invokevirtual 117, 3) := by decide +kernel
theorem dX7_set_31 : decode cX7_set 31 = .ok (.goto 4, 3) := by decide +kernel
theorem dX7_set_34 : decode cX7_set 34 = .ok (.iconst 0, 1) := by decide +kernel
theorem dX7_set_35 : decode cX7_set 35 = .ok (.ireturn, 1) := by decide +kernel
theorem dX7_carve_0 : decode cX7_carve 0 = .ok (.aload_n 0, 1) := by decide +kernel
theorem dX7_carve_1 : decode cX7_carve 1 = .ok (.iload_n 1, 1) := by decide +kernel
theorem dX7_carve_2 : decode cX7_carve 2 = .ok (.invokestatic 123, 3) := by decide +kernel
theorem dX7_carve_5 : decode cX7_carve 5 = .ok (.ifCond .eq 14, 3) := by decide +kernel
theorem dX7_carve_8 : decode cX7_carve 8 = .ok (.iload_n 2, 1) := by decide +kernel
theorem dX7_carve_9 : decode cX7_carve 9 = .ok (.invokestatic 120, 3) := by decide +kernel
theorem dX7_carve_12 : decode cX7_carve 12 = .ok (.ifCond .eq 7, 3) := by decide +kernel
theorem dX7_carve_15 : decode cX7_carve 15 = .ok (.iconst 0, 1) := by decide +kernel
theorem dX7_carve_16 : decode cX7_carve 16 = .ok (.goto 4, 3) := by decide +kernel
theorem dX7_carve_19 : decode cX7_carve 19 = .ok (.iconst 1, 1) := by decide +kernel
theorem dX7_carve_20 : decode cX7_carve 20 = .ok (.invokevirtual 80, 3) := by decide +kernel
theorem dX7_carve_23 : decode cX7_carve 23 = .ok (.ifCond .ne 5, 3) := by decide +kernel
theorem dX7_carve_26 : decode cX7_carve 26 = .ok (.iconst 0, 1) := by decide +kernel
theorem dX7_carve_27 : decode cX7_carve 27 = .ok (.ireturn, 1) := by decide +kernel
theorem dX7_carve_28 : decode cX7_carve 28 = .ok (.aload_n 0, 1) := by decide +kernel
theorem dX7_carve_29 : decode cX7_carve 29 = .ok (.invokevirtual 111, 3) := by decide +kernel
theorem dX7_carve_32 : decode cX7_carve 32 = .ok (.bipush 64, 2) := by decide +kernel
theorem dX7_carve_34 : decode cX7_carve 34 = .ok (.istore_n 3, 1) := by decide +kernel
theorem dX7_carve_35 : decode cX7_carve 35 = .ok (.iload_n 3, 1) := by decide +kernel
theorem dX7_carve_36 : decode cX7_carve 36 = .ok (.bipush 13, 2) := by decide +kernel
theorem dX7_carve_38 : decode cX7_carve 38 = .ok (.if_icmp .lt 30, 3) := by decide +kernel
theorem dX7_carve_41 : decode cX7_carve 41 = .ok (.aload_n 0, 1) := by decide +kernel
theorem dX7_carve_42 : decode cX7_carve 42 = .ok (.getfield 7, 3) := by decide +kernel
theorem dX7_carve_45 : decode cX7_carve 45 = .ok (.bipush 46, 2) := by decide +kernel
theorem dX7_carve_47 : decode cX7_carve 47 = .ok (.iload_n 3, 1) := by decide +kernel
theorem dX7_carve_48 : decode cX7_carve 48 = .ok (.iadd, 1) := by decide +kernel
theorem dX7_carve_49 : decode cX7_carve 49 = .ok (.aload_n 0, 1) := by decide +kernel
theorem dX7_carve_50 : decode cX7_carve 50 = .ok (.getfield 7, 3) := by decide +kernel
theorem dX7_carve_53 : decode cX7_carve 53 = .ok (.bipush 46, 2) := by decide +kernel
theorem dX7_carve_55 : decode cX7_carve 55 = .ok (.iload_n 3, 1) := by decide +kernel
theorem dX7_carve_56 : decode cX7_carve 56 = .ok (.iadd, 1) := by decide +kernel
theorem dX7_carve_57 : decode cX7_carve 57 = .ok (.bipush 13, 2) := by decide +kernel
theorem dX7_carve_59 : decode cX7_carve 59 = .ok (.isub, 1) := by decide +kernel
theorem dX7_carve_60 : decode cX7_carve 60 = .ok (.iaload, 1) := by decide +kernel
theorem dX7_carve_61 : decode cX7_carve 61 = .ok (.iastore, 1) := by decide +kernel
theorem dX7_carve_62 : decode cX7_carve 62 = .ok (.iinc 3 (-1), 3) := by decide +kernel
theorem dX7_carve_65 : decode cX7_carve 65 = .ok (.goto (-30), 3) := by decide +kernel
theorem dX7_carve_68 : decode cX7_carve 68 = .ok (.aload_n 0, 1) := by decide +kernel
theorem dX7_carve_69 : decode cX7_carve 69 = .ok (.getfield 7, 3) := by decide +kernel
theorem dX7_carve_72 : decode cX7_carve 72 = .ok (.bipush 45, 2) := by decide +kernel
theorem dX7_carve_74 : decode cX7_carve 74 = .ok (.dup2, 1) := by decide +kernel
theorem dX7_carve_75 : decode cX7_carve 75 = .ok (.iaload, 1) := by decide +kernel
theorem dX7_carve_76 : decode cX7_carve 76 = .ok (.aload_n 0, 1) := by decide +kernel
theorem dX7_carve_77 : decode cX7_carve 77 = .ok (.getfield 7, 3) := by decide +kernel
theorem dX7_carve_80 : decode cX7_carve 80 = .ok (.bipush 45, 2) := by decide +kernel
theorem dX7_carve_82 : decode cX7_carve 82 = .ok (.iaload, 1) := by decide +kernel
theorem dX7_carve_83 : decode cX7_carve 83 = .ok (.iconst 5, 1) := by decide +kernel
theorem dX7_carve_84 : decode cX7_carve 84 = .ok (.if_icmp .ge 7, 3) := by decide +kernel
theorem dX7_carve_87 : decode cX7_carve 87 = .ok (.iconst 1, 1) := by decide +kernel
theorem dX7_carve_88 : decode cX7_carve 88 = .ok (.goto 4, 3) := by decide +kernel
theorem dX7_carve_91 : decode cX7_carve 91 = .ok (.iconst 0, 1) := by decide +kernel
theorem dX7_carve_92 : decode cX7_carve 92 = .ok (.iadd, 1) := by decide +kernel
theorem dX7_carve_93 : decode cX7_carve 93 = .ok (.iastore, 1) := by decide +kernel
theorem dX7_carve_94 : decode cX7_carve 94 = .ok (.aload_n 0, 1) := by decide +kernel
theorem dX7_carve_95 : decode cX7_carve 95 = .ok (.iload_n 1, 1) := by decide +kernel
theorem dX7_carve_96 : decode cX7_carve 96 = .ok (.aload_n 0, 1) := by decide +kernel
theorem dX7_carve_97 : decode cX7_carve 97 = .ok (.getfield 7, 3) := by decide +kernel
theorem dX7_carve_100 : decode cX7_carve 100 = .ok (.bipush 41, 2) := by decide +kernel
theorem dX7_carve_102 : decode cX7_carve 102 = .ok (.iload_n 2, 1) := by decide +kernel
theorem dX7_carve_103 : decode cX7_carve 103 = .ok (.iadd, 1) := by decide +kernel
theorem dX7_carve_104 : decode cX7_carve 104 = .ok (.iaload, 1) := by decide +kernel
theorem dX7_carve_105 : decode cX7_carve 105 = .ok (.invokevirtual 74, 3) := by decide +kernel
theorem dX7_carve_108 : decode cX7_carve 108 = .ok (.aload_n 0, 1) := by decide +kernel
theorem dX7_carve_109 : decode cX7_carve 109 = .ok (.getfield 7, 3) := by decide +kernel
theorem dX7_carve_112 : decode cX7_carve 112 = .ok (.bipush 46, 2) := by decide +kernel
theorem dX7_carve_114 : decode cX7_carve 114 = .ok (.iload_n 1, 1) := by decide +kernel
theorem dX7_carve_115 : decode cX7_carve 115 = .ok (.iastore, 1) := by decide +kernel
theorem dX7_carve_116 : decode cX7_carve 116 = .ok (.aload_n 0, 1) := by decide +kernel
theorem dX7_carve_117 : decode cX7_carve 117 = .ok (.getfield 7, 3) := by decide +kernel
theorem dX7_carve_120 : decode cX7_carve 120 = .ok (.bipush 47, 2) := by decide +kernel
theorem dX7_carve_122 : decode cX7_carve 122 = .ok (.iload_n 2, 1) := by decide +kernel
theorem dX7_carve_123 : decode cX7_carve 123 = .ok (.iastore, 1) := by decide +kernel
theorem dX7_carve_124 : decode cX7_carve 124 = .ok (.aload_n 0, 1) := by decide +kernel
theorem dX7_carve_125 : decode cX7_carve 125 = .ok (.getfield 7, 3) := by decide +kernel
theorem dX7_carve_128 : decode cX7_carve 128 = .ok (.bipush 48, 2) := by decide +kernel
theorem dX7_carve_130 : decode cX7_carve 130 = .ok (.aload_n 0, 1) := by decide +kernel
theorem dX7_carve_131 : decode cX7_carve 131 = .ok (.getfield 7, 3) := by decide +kernel
theorem dX7_carve_134 : decode cX7_carve 134 = .ok (.iconst 0, 1) := by decide +kernel
theorem dX7_carve_135 : decode cX7_carve 135 = .ok (.iaload, 1) := by decide +kernel
theorem dX7_carve_136 : decode cX7_carve 136 = .ok (.iastore, 1) := by decide +kernel
theorem dX7_carve_137 : decode cX7_carve 137 = .ok (.iconst 0, 1) := by decide +kernel
theorem dX7_carve_138 : decode cX7_carve 138 = .ok (.istore_n 3, 1) := by decide +kernel
theorem dX7_carve_139 : decode cX7_carve 139 = .ok (.iconst 0, 1) := by decide +kernel
theorem dX7_carve_140 : decode cX7_carve 140 = .ok (.istore 4, 2) := by decide +kernel
theorem dX7_carve_142 : decode cX7_carve 142 = .ok (.iload 4, 2) := by decide +kernel
theorem dX7_carve_144 : decode cX7_carve 144 = .ok (.bipush 10, 2) := by decide +kernel
theorem dX7_carve_146 : decode cX7_carve 146 = .ok (.if_icmp .ge 59, 3) := by decide +kernel
theorem dX7_carve_149 : decode cX7_carve 149 = .ok (.iload 4, 2) := by decide +kernel
theorem dX7_carve_151 : decode cX7_carve 151 = .ok (.aload_n 0, 1) := by decide +kernel
theorem dX7_carve_152 : decode cX7_carve 152 = .ok (.getfield 7, 3) := by decide +kernel
theorem dX7_carve_155 : decode cX7_carve 155 = .ok (.iconst 0, 1) := by decide +kernel
theorem dX7_carve_156 : decode cX7_carve 156 = .ok (.iaload, 1) := by decide +kernel
theorem dX7_carve_157 : decode cX7_carve 157 = .ok (.if_icmp .ge 13, 3) := by decide +kernel
theorem dX7_carve_160 : decode cX7_carve 160 = .ok (.aload_n 0, 1) := by decide +kernel
theorem dX7_carve_161 : decode cX7_carve 161 = .ok (.getfield 22, 3) := by decide +kernel
theorem dX7_carve_164 : decode cX7_carve 164 = .ok (.iload 4, 2) := by decide +kernel
theorem dX7_carve_166 : decode cX7_carve 166 = .ok (.iaload, 1) := by decide +kernel
theorem dX7_carve_167 : decode cX7_carve 167 = .ok (.goto 4, 3) := by decide +kernel
theorem dX7_carve_170 : decode cX7_carve 170 = .ok (.iconst (-1), 1) := by decide +kernel
theorem dX7_carve_171 : decode cX7_carve 171 = .ok (.istore 5, 2) := by decide +kernel
theorem dX7_carve_173 : decode cX7_carve 173 = .ok (.aload_n 0, 1) := by decide +kernel
theorem dX7_carve_174 : decode cX7_carve 174 = .ok (.getfield 7, 3) := by decide +kernel
theorem dX7_carve_177 : decode cX7_carve 177 = .ok (.bipush 49, 2) := by decide +kernel
theorem dX7_carve_179 : decode cX7_carve 179 = .ok (.iload 4, 2) := by decide +kernel
theorem dX7_carve_181 : decode cX7_carve 181 = .ok (.iadd, 1) := by decide +kernel
theorem dX7_carve_182 : decode cX7_carve 182 = .ok (.iload 5, 2) := by decide +kernel
theorem dX7_carve_184 : decode cX7_carve 184 = .ok (.iastore, 1) := by decide +kernel
theorem dX7_carve_185 : decode cX7_carve 185 = .ok (.iload_n 3, 1) := by decide +kernel
theorem dX7_carve_186 : decode cX7_carve 186 = .ok (.iload 5, 2) := by decide +kernel
theorem dX7_carve_188 : decode cX7_carve 188 = .ok (.iconst (-1), 1) := by decide +kernel
theorem dX7_carve_189 : decode cX7_carve 189 = .ok (.if_icmp .ne 7, 3) := by decide +kernel
theorem dX7_carve_192 : decode cX7_carve 192 = .ok (.iconst 0, 1) := by decide +kernel
theorem dX7_carve_193 : decode cX7_carve 193 = .ok (.goto 4, 3) := by decide +kernel
theorem dX7_carve_196 : decode cX7_carve 196 = .ok (.iconst 1, 1) := by decide +kernel
theorem dX7_carve_197 : decode cX7_carve 197 = .ok (.iadd, 1) := by decide +kernel
theorem dX7_carve_198 : decode cX7_carve 198 = .ok (.istore_n 3, 1) := by decide +kernel
theorem dX7_carve_199 : decode cX7_carve 199 = .ok (.iinc 4 1, 3) := by decide +kernel
theorem dX7_carve_202 : decode cX7_carve 202 = .ok (.goto (-60), 3) := by decide +kernel
theorem dX7_carve_205 : decode cX7_carve 205 = .ok (.iload_n 3, 1) := by decide +kernel
theorem dX7_carve_206 : decode cX7_carve 206 = .ok (.ireturn, 1) := by decide +kernel
theorem dX7_isStick_0 : decode cX7_isStick 0 = .ok (.iload_n 1, 1) := by decide +kernel
theorem dX7_isStick_1 : decode cX7_isStick 1 = .ok (.iconst 0, 1) := by decide +kernel
theorem dX7_isStick_2 : decode cX7_isStick 2 = .ok (.aload_n 0, 1) := by decide +kernel
theorem dX7_isStick_3 : decode cX7_isStick 3 = .ok (.getfield 7, 3) := by decide +kernel
theorem dX7_isStick_6 : decode cX7_isStick 6 = .ok (.bipush 45, 2) := by decide +kernel
theorem dX7_isStick_8 : decode cX7_isStick 8 = .ok (.iaload, 1) := by decide +kernel
theorem dX7_isStick_9 : decode cX7_isStick 9 = .ok (.iconst 1, 1) := by decide +kernel
theorem dX7_isStick_10 : decode cX7_isStick 10 = .ok (.isub, 1) := by decide +kernel
theorem dX7_isStick_11 : decode cX7_isStick 11 = .ok (.invokestatic 42, 3) := by decide +kernel
theorem dX7_isStick_14 : decode cX7_isStick 14 = .ok (.ireturn, 1) := by decide +kernel
theorem dX7_burn_0 : decode cX7_burn 0 = .ok (.aload_n 0, 1) := by decide +kernel
theorem dX7_burn_1 : decode cX7_burn 1 = .ok (.aload_n 0, 1) := by decide +kernel
theorem dX7_burn_2 : decode cX7_burn 2 = .ok (.iload_n 1, 1) := by decide +kernel
theorem dX7_burn_3 : decode cX7_burn 3 = .ok (.invokevirtual 126, 3) := by decide +kernel
theorem dX7_burn_6 : decode cX7_burn 6 = .ok (.ifCond .eq 7, 3) := by decide +kernel
theorem dX7_burn_9 : decode cX7_burn 9 = .ok (.iconst 0, 1) := by decide +kernel
theorem dX7_burn_10 : decode cX7_burn 10 = .ok (.goto 4, 3) := by decide +kernel
theorem dX7_burn_13 : decode cX7_burn 13 = .ok (.iconst 1, 1) := by decide +kernel
theorem dX7_burn_14 : decode cX7_burn 14 = .ok (.invokevirtual 80, 3) := by decide +kernel
theorem dX7_burn_17 : decode cX7_burn 17 = .ok (.ifCond .ne 5, 3) := by decide +kernel
theorem dX7_burn_20 : decode cX7_burn 20 = .ok (.iconst 0, 1) := by decide +kernel
theorem dX7_burn_21 : decode cX7_burn 21 = .ok (.ireturn, 1) := by decide +kernel
theorem dX7_burn_22 : decode cX7_burn 22 = .ok (.aload_n 0, 1) := by decide +kernel
theorem dX7_burn_23 : decode cX7_burn 23 = .ok (.invokevirtual 111, 3) := by decide +kernel
theorem dX7_burn_26 : decode cX7_burn 26 = .ok (.aload_n 0, 1) := by decide +kernel
theorem dX7_burn_27 : decode cX7_burn 27 = .ok (.getfield 7, 3) := by decide +kernel
theorem dX7_burn_30 : decode cX7_burn 30 = .ok (.iload_n 1, 1) := by decide +kernel
theorem dX7_burn_31 : decode cX7_burn 31 = .ok (.iconst 0, 1) := by decide +kernel
theorem dX7_burn_32 : decode cX7_burn 32 = .ok (.invokestatic 129, 3) := by decide +kernel
theorem dX7_burn_35 : decode cX7_burn 35 = .ok (.iaload, 1) := by decide +kernel
theorem dX7_burn_36 : decode cX7_burn 36 = .ok (.istore_n 2, 1) := by decide +kernel
theorem dX7_burn_37 : decode cX7_burn 37 = .ok (.aload_n 0, 1) := by decide +kernel
theorem dX7_burn_38 : decode cX7_burn 38 = .ok (.getfield 7, 3) := by decide +kernel
theorem dX7_burn_41 : decode cX7_burn 41 = .ok (.bipush 45, 2) := by decide +kernel
theorem dX7_burn_43 : decode cX7_burn 43 = .ok (.dup2, 1) := by decide +kernel
theorem dX7_burn_44 : decode cX7_burn 44 = .ok (.iaload, 1) := by decide +kernel
theorem dX7_burn_45 : decode cX7_burn 45 = .ok (.iconst 1, 1) := by decide +kernel
theorem dX7_burn_46 : decode cX7_burn 46 = .ok (.isub, 1) := by decide +kernel
theorem dX7_burn_47 : decode cX7_burn 47 = .ok (.iastore, 1) := by decide +kernel
theorem dX7_burn_48 : decode cX7_burn 48 = .ok (.iload_n 1, 1) := by decide +kernel
theorem dX7_burn_49 : decode cX7_burn 49 = .ok (.iconst 0, 1) := by decide +kernel
theorem dX7_burn_50 : decode cX7_burn 50 = .ok (.invokestatic 129, 3) := by decide +kernel
theorem dX7_burn_53 : decode cX7_burn 53 = .ok (.istore_n 3, 1) := by decide +kernel
theorem dX7_burn_54 : decode cX7_burn 54 = .ok (.iload_n 3, 1) := by decide +kernel
theorem dX7_burn_55 : decode cX7_burn 55 = .ok (.aload_n 0, 1) := by decide +kernel
theorem dX7_burn_56 : decode cX7_burn 56 = .ok (.getfield 7, 3) := by decide +kernel
theorem dX7_burn_59 : decode cX7_burn 59 = .ok (.bipush 45, 2) := by decide +kernel
theorem dX7_burn_61 : decode cX7_burn 61 = .ok (.iaload, 1) := by decide +kernel
theorem dX7_burn_62 : decode cX7_burn 62 = .ok (.iconst 0, 1) := by decide +kernel
theorem dX7_burn_63 : decode cX7_burn 63 = .ok (.invokestatic 129, 3) := by decide +kernel
theorem dX7_burn_66 : decode cX7_burn 66 = .ok (.if_icmp .ge 24, 3) := by decide +kernel
theorem dX7_burn_69 : decode cX7_burn 69 = .ok (.aload_n 0, 1) := by decide +kernel
theorem dX7_burn_70 : decode cX7_burn 70 = .ok (.getfield 7, 3) := by decide +kernel
theorem dX7_burn_73 : decode cX7_burn 73 = .ok (.iload_n 3, 1) := by decide +kernel
theorem dX7_burn_74 : decode cX7_burn 74 = .ok (.aload_n 0, 1) := by decide +kernel
theorem dX7_burn_75 : decode cX7_burn 75 = .ok (.getfield 7, 3) := by decide +kernel
theorem dX7_burn_78 : decode cX7_burn 78 = .ok (.iload_n 3, 1) := by decide +kernel
theorem dX7_burn_79 : decode cX7_burn 79 = .ok (.bipush 13, 2) := by decide +kernel
theorem dX7_burn_81 : decode cX7_burn 81 = .ok (.iadd, 1) := by decide +kernel
theorem dX7_burn_82 : decode cX7_burn 82 = .ok (.iaload, 1) := by decide +kernel
theorem dX7_burn_83 : decode cX7_burn 83 = .ok (.iastore, 1) := by decide +kernel
theorem dX7_burn_84 : decode cX7_burn 84 = .ok (.iinc 3 1, 3) := by decide +kernel
theorem dX7_burn_87 : decode cX7_burn 87 = .ok (.goto (-33), 3) := by decide +kernel
theorem dX7_burn_90 : decode cX7_burn 90 = .ok (.iload_n 2, 1) := by decide +kernel
theorem dX7_burn_91 : decode cX7_burn 91 = .ok (.ireturn, 1) := by decide +kernel
theorem dX7_undo_0 : decode cX7_undo 0 = .ok (.aload_n 0, 1) := by decide +kernel
theorem dX7_undo_1 : decode cX7_undo 1 = .ok (.aload_n 0, 1) := by decide +kernel
theorem dX7_undo_2 : decode cX7_undo 2 = .ok (.getfield 46, 3) := by decide +kernel
theorem dX7_undo_5 : decode cX7_undo 5 = .ok (.ifCond .le 7, 3) := by decide +kernel
theorem dX7_undo_8 : decode cX7_undo 8 = .ok (.iconst 0, 1) := by decide +kernel
theorem dX7_undo_9 : decode cX7_undo 9 = .ok (.goto 4, 3) := by decide +kernel
theorem dX7_undo_12 : decode cX7_undo 12 = .ok (.iconst 1, 1) := by decide +kernel
theorem dX7_undo_13 : decode cX7_undo 13 = .ok (.invokevirtual 80, 3) := by decide +kernel
theorem dX7_undo_16 : decode cX7_undo 16 = .ok (.ifCond .ne 5, 3) := by decide +kernel
theorem dX7_undo_19 : decode cX7_undo 19 = .ok (.iconst 0, 1) := by decide +kernel
theorem dX7_undo_20 : decode cX7_undo 20 = .ok (.ireturn, 1) := by decide +kernel
theorem dX7_undo_21 : decode cX7_undo 21 = .ok (.aload_n 0, 1) := by decide +kernel
theorem dX7_undo_22 : decode cX7_undo 22 = .ok (.dup, 1) := by decide +kernel
theorem dX7_undo_23 : decode cX7_undo 23 = .ok (.getfield 46, 3) := by decide +kernel
theorem dX7_undo_26 : decode cX7_undo 26 = .ok (.iconst 1, 1) := by decide +kernel
theorem dX7_undo_27 : decode cX7_undo 27 = .ok (.isub, 1) := by decide +kernel
theorem dX7_undo_28 : decode cX7_undo 28 = .ok (.putfield 46, 3) := by decide +kernel
theorem dX7_undo_31 : decode cX7_undo 31 = .ok (.iconst 0, 1) := by decide +kernel
theorem dX7_undo_32 : decode cX7_undo 32 = .ok (.istore_n 1, 1) := by decide +kernel
theorem dX7_undo_33 : decode cX7_undo 33 = .ok (.iload_n 1, 1) := by decide +kernel
theorem dX7_undo_34 : decode cX7_undo 34 = .ok (.bipush 111, 2) := by decide +kernel
theorem dX7_undo_36 : decode cX7_undo 36 = .ok (.if_icmp .ge 29, 3) := by decide +kernel
theorem dX7_undo_39 : decode cX7_undo 39 = .ok (.aload_n 0, 1) := by decide +kernel
theorem dX7_undo_40 : decode cX7_undo 40 = .ok (.getfield 7, 3) := by decide +kernel
theorem dX7_undo_43 : decode cX7_undo 43 = .ok (.iload_n 1, 1) := by decide +kernel
theorem dX7_undo_44 : decode cX7_undo 44 = .ok (.aload_n 0, 1) := by decide +kernel
theorem dX7_undo_45 : decode cX7_undo 45 = .ok (.getfield 13, 3) := by decide +kernel
theorem dX7_undo_48 : decode cX7_undo 48 = .ok (.bipush 111, 2) := by decide +kernel
theorem dX7_undo_50 : decode cX7_undo 50 = .ok (.aload_n 0, 1) := by decide +kernel
theorem dX7_undo_51 : decode cX7_undo 51 = .ok (.getfield 46, 3) := by decide +kernel
theorem dX7_undo_54 : decode cX7_undo 54 = .ok (.imul, 1) := by decide +kernel
theorem dX7_undo_55 : decode cX7_undo 55 = .ok (.iload_n 1, 1) := by decide +kernel
theorem dX7_undo_56 : decode cX7_undo 56 = .ok (.iadd, 1) := by decide +kernel
theorem dX7_undo_57 : decode cX7_undo 57 = .ok (.iaload, 1) := by decide +kernel
theorem dX7_undo_58 : decode cX7_undo 58 = .ok (.iastore, 1) := by decide +kernel
theorem dX7_undo_59 : decode cX7_undo 59 = .ok (.iinc 1 1, 3) := by decide +kernel
theorem dX7_undo_62 : decode cX7_undo 62 = .ok (.goto (-29), 3) := by decide +kernel
theorem dX7_undo_65 : decode cX7_undo 65 = .ok (.aload_n 0, 1) := by decide +kernel
theorem dX7_undo_66 : decode cX7_undo 66 = .ok (.getfield 46, 3) := by decide +kernel
theorem dX7_undo_69 : decode cX7_undo 69 = .ok (.ireturn, 1) := by decide +kernel
theorem dX7_feastOn_0 : decode cX7_feastOn 0 = .ok (.aload_n 0, 1) := by decide +kernel
theorem dX7_feastOn_1 : decode cX7_feastOn 1 = .ok (.iload_n 1, 1) := by decide +kernel
theorem dX7_feastOn_2 : decode cX7_feastOn 2 = .ok (.invokevirtual 132, 3) := by decide +kernel
theorem dX7_feastOn_5 : decode cX7_feastOn 5 = .ok (.iconst 0, 1) := by decide +kernel
theorem dX7_feastOn_6 : decode cX7_feastOn 6 = .ok (.istore_n 3, 1) := by decide +kernel
theorem dX7_feastOn_7 : decode cX7_feastOn 7 = .ok (.iload_n 3, 1) := by decide +kernel
theorem dX7_feastOn_8 : decode cX7_feastOn 8 = .ok (.aload_n 0, 1) := by decide +kernel
theorem dX7_feastOn_9 : decode cX7_feastOn 9 = .ok (.getfield 7, 3) := by decide +kernel
theorem dX7_feastOn_12 : decode cX7_feastOn 12 = .ok (.iconst 0, 1) := by decide +kernel
theorem dX7_feastOn_13 : decode cX7_feastOn 13 = .ok (.iaload, 1) := by decide +kernel
theorem dX7_feastOn_14 : decode cX7_feastOn 14 = .ok (.if_icmp .ge 20, 3) := by decide +kernel
theorem dX7_feastOn_17 : decode cX7_feastOn 17 = .ok (.aload_n 0, 1) := by decide +kernel
theorem dX7_feastOn_18 : decode cX7_feastOn 18 = .ok (.iload_n 3, 1) := by decide +kernel
theorem dX7_feastOn_19 : decode cX7_feastOn 19 = .ok (.invokevirtual 136, 3) := by decide +kernel
theorem dX7_feastOn_22 : decode cX7_feastOn 22 = .ok (.iload_n 2, 1) := by decide +kernel
theorem dX7_feastOn_23 : decode cX7_feastOn 23 = .ok (.if_icmp .ne 5, 3) := by decide +kernel
theorem dX7_feastOn_26 : decode cX7_feastOn 26 = .ok (.iload_n 3, 1) := by decide +kernel
theorem dX7_feastOn_27 : decode cX7_feastOn 27 = .ok (.ireturn, 1) := by decide +kernel
theorem dX7_feastOn_28 : decode cX7_feastOn 28 = .ok (.iinc 3 1, 3) := by decide +kernel
theorem dX7_feastOn_31 : decode cX7_feastOn 31 = .ok (.goto (-24), 3) := by decide +kernel
theorem dX7_feastOn_34 : decode cX7_feastOn 34 = .ok (.iconst (-1), 1) := by decide +kernel
theorem dX7_feastOn_35 : decode cX7_feastOn 35 = .ok (.ireturn, 1) := by decide +kernel
theorem dX7_aboutDay_0 : decode cX7_aboutDay 0 = .ok (.iload_n 2, 1) := by decide +kernel
theorem dX7_aboutDay_1 : decode cX7_aboutDay 1 = .ok (.iload_n 1, 1) := by decide +kernel
theorem dX7_aboutDay_2 : decode cX7_aboutDay 2 = .ok (.invokestatic 49, 3) := by decide +kernel
theorem dX7_aboutDay_5 : decode cX7_aboutDay 5 = .ok (.if_icmp .lt 7, 3) := by decide +kernel
theorem dX7_aboutDay_8 : decode cX7_aboutDay 8 = .ok (.iconst (-1), 1) := by decide +kernel
theorem dX7_aboutDay_9 : decode cX7_aboutDay 9 = .ok (.goto 42, 3) := by decide +kernel
theorem dX7_aboutDay_12 : decode cX7_aboutDay 12 = .ok (.iload_n 3, 1) := by decide +kernel
theorem dX7_aboutDay_13 : decode cX7_aboutDay 13 = .ok (.ifCond .ne 11, 3) := by decide +kernel
theorem dX7_aboutDay_16 : decode cX7_aboutDay 16 = .ok (.iload_n 1, 1) := by decide +kernel
theorem dX7_aboutDay_17 : decode cX7_aboutDay 17 = .ok (.iload_n 2, 1) := by decide +kernel
theorem dX7_aboutDay_18 : decode cX7_aboutDay 18 = .ok (.invokestatic 53, 3) := by decide +kernel
theorem dX7_aboutDay_21 : decode cX7_aboutDay 21 = .ok (.goto 30, 3) := by decide +kernel
theorem dX7_aboutDay_24 : decode cX7_aboutDay 24 = .ok (.iload_n 3, 1) := by decide +kernel
theorem dX7_aboutDay_25 : decode cX7_aboutDay 25 = .ok (.iconst 1, 1) := by decide +kernel
theorem dX7_aboutDay_26 : decode cX7_aboutDay 26 = .ok (.if_icmp .ne 19, 3) := by decide +kernel
theorem dX7_aboutDay_29 : decode cX7_aboutDay 29 = .ok (.aload_n 0, 1) := by decide +kernel
theorem dX7_aboutDay_30 : decode cX7_aboutDay 30 = .ok (.iload_n 1, 1) := by decide +kernel
theorem dX7_aboutDay_31 : decode cX7_aboutDay 31 = .ok (.iload_n 2, 1) := by decide +kernel
theorem dX7_aboutDay_32 : decode cX7_aboutDay 32 = .ok (.aload_n 0, 1) := by decide +kernel
theorem dX7_aboutDay_33 : decode cX7_aboutDay 33 = .ok (.getfield 7, 3) := by decide +kernel
theorem dX7_aboutDay_36 : decode cX7_aboutDay 36 = .ok (.bipush 41, 2) := by decide +kernel
theorem dX7_aboutDay_38 : decode cX7_aboutDay 38 = .ok (.iaload, 1) := by decide +kernel
theorem dX7_aboutDay_39 : decode cX7_aboutDay 39 = .ok (.invokevirtual 57, 3) := by decide +kernel
theorem dX7_aboutDay_42 : decode cX7_aboutDay 42 = .ok (.goto 9, 3) := by decide +kernel
theorem dX7_aboutDay_45 : decode cX7_aboutDay 45 = .ok (.aload_n 0, 1) := by decide +kernel
theorem dX7_aboutDay_46 : decode cX7_aboutDay 46 = .ok (.iload_n 1, 1) := by decide +kernel
theorem dX7_aboutDay_47 : decode cX7_aboutDay 47 = .ok (.iload_n 2, 1) := by decide +kernel
theorem dX7_aboutDay_48 : decode cX7_aboutDay 48 = .ok (.invokevirtual 139, 3) := by decide +kernel
theorem dX7_aboutDay_51 : decode cX7_aboutDay 51 = .ok (.ireturn, 1) := by decide +kernel
theorem dX7_day_0 : decode cX7_day 0 = .ok (.aload_n 0, 1) := by decide +kernel
theorem dX7_day_1 : decode cX7_day 1 = .ok (.iload_n 1, 1) := by decide +kernel
theorem dX7_day_2 : decode cX7_day 2 = .ok (.invokestatic 123, 3) := by decide +kernel
theorem dX7_day_5 : decode cX7_day 5 = .ok (.ifCond .eq 27, 3) := by decide +kernel
theorem dX7_day_8 : decode cX7_day 8 = .ok (.iload_n 2, 1) := by decide +kernel
theorem dX7_day_9 : decode cX7_day 9 = .ok (.iconst 0, 1) := by decide +kernel
theorem dX7_day_10 : decode cX7_day 10 = .ok (.sipush 365, 3) := by decide +kernel
theorem dX7_day_13 : decode cX7_day 13 = .ok (.invokestatic 42, 3) := by decide +kernel
theorem dX7_day_16 : decode cX7_day 16 = .ok (.ifCond .eq 16, 3) := by decide +kernel
theorem dX7_day_19 : decode cX7_day 19 = .ok (.iload_n 3, 1) := by decide +kernel
theorem dX7_day_20 : decode cX7_day 20 = .ok (.iconst 0, 1) := by decide +kernel
theorem dX7_day_21 : decode cX7_day 21 = .ok (.iconst 2, 1) := by decide +kernel
theorem dX7_day_22 : decode cX7_day 22 = .ok (.invokestatic 42, 3) := by decide +kernel
theorem dX7_day_25 : decode cX7_day 25 = .ok (.ifCond .eq 7, 3) := by decide +kernel
theorem dX7_day_28 : decode cX7_day 28 = .ok (.iconst 0, 1) := by decide +kernel
theorem dX7_day_29 : decode cX7_day 29 = .ok (.goto 4, 3) := by decide +kernel
theorem dX7_day_32 : decode cX7_day 32 = .ok (.iconst 1, 1) := by decide +kernel
theorem dX7_day_33 : decode cX7_day 33 = .ok (.invokevirtual 80, 3) := by decide +kernel
theorem dX7_day_36 : decode cX7_day 36 = .ok (.ifCond .eq 13, 3) := by decide +kernel
theorem dX7_day_39 : decode cX7_day 39 = .ok (.aload_n 0, 1) := by decide +kernel
theorem dX7_day_40 : decode cX7_day 40 = .ok (.iload_n 1, 1) := by decide +kernel
theorem dX7_day_41 : decode cX7_day 41 = .ok (.iload_n 2, 1) := by decide +kernel
theorem dX7_day_42 : decode cX7_day 42 = .ok (.iload_n 3, 1) := by decide +kernel
theorem dX7_day_43 : decode cX7_day 43 = .ok (.invokevirtual 142, 3) := by decide +kernel
theorem dX7_day_46 : decode cX7_day 46 = .ok (.goto 4, 3) := by decide +kernel
theorem dX7_day_49 : decode cX7_day 49 = .ok (.iconst 0, 1) := by decide +kernel
theorem dX7_day_50 : decode cX7_day 50 = .ok (.ireturn, 1) := by decide +kernel
theorem dX7_ofFeast_0 : decode cX7_ofFeast 0 = .ok (.aload_n 0, 1) := by decide +kernel
theorem dX7_ofFeast_1 : decode cX7_ofFeast 1 = .ok (.getfield 7, 3) := by decide +kernel
theorem dX7_ofFeast_4 : decode cX7_ofFeast 4 = .ok (.iload_n 1, 1) := by decide +kernel
theorem dX7_ofFeast_5 : decode cX7_ofFeast 5 = .ok (.iload_n 2, 1) := by decide +kernel
theorem dX7_ofFeast_6 : decode cX7_ofFeast 6 = .ok (.invokestatic 61, 3) := by decide +kernel
theorem dX7_ofFeast_9 : decode cX7_ofFeast 9 = .ok (.iaload, 1) := by decide +kernel
theorem dX7_ofFeast_10 : decode cX7_ofFeast 10 = .ok (.istore_n 3, 1) := by decide +kernel
theorem dX7_ofFeast_11 : decode cX7_ofFeast 11 = .ok (.iload_n 2, 1) := by decide +kernel
theorem dX7_ofFeast_12 : decode cX7_ofFeast 12 = .ok (.iconst 2, 1) := by decide +kernel
theorem dX7_ofFeast_13 : decode cX7_ofFeast 13 = .ok (.if_icmp .ne 24, 3) := by decide +kernel
theorem dX7_ofFeast_16 : decode cX7_ofFeast 16 = .ok (.aload_n 0, 1) := by decide +kernel
theorem dX7_ofFeast_17 : decode cX7_ofFeast 17 = .ok (.getfield 7, 3) := by decide +kernel
theorem dX7_ofFeast_20 : decode cX7_ofFeast 20 = .ok (.iload_n 1, 1) := by decide +kernel
theorem dX7_ofFeast_21 : decode cX7_ofFeast 21 = .ok (.iconst 0, 1) := by decide +kernel
theorem dX7_ofFeast_22 : decode cX7_ofFeast 22 = .ok (.invokestatic 61, 3) := by decide +kernel
theorem dX7_ofFeast_25 : decode cX7_ofFeast 25 = .ok (.iaload, 1) := by decide +kernel
theorem dX7_ofFeast_26 : decode cX7_ofFeast 26 = .ok (.iconst 3, 1) := by decide +kernel
theorem dX7_ofFeast_27 : decode cX7_ofFeast 27 = .ok (.if_icmp .ne 10, 3) := by decide +kernel
theorem dX7_ofFeast_30 : decode cX7_ofFeast 30 = .ok (.iload_n 3, 1) := by decide +kernel
theorem dX7_ofFeast_31 : decode cX7_ofFeast 31 = .ok (.bipush 90, 2) := by decide +kernel
theorem dX7_ofFeast_33 : decode cX7_ofFeast 33 = .ok (.iadd, 1) := by decide +kernel
theorem dX7_ofFeast_34 : decode cX7_ofFeast 34 = .ok (.goto 4, 3) := by decide +kernel
theorem dX7_ofFeast_37 : decode cX7_ofFeast 37 = .ok (.iload_n 3, 1) := by decide +kernel
theorem dX7_ofFeast_38 : decode cX7_ofFeast 38 = .ok (.ireturn, 1) := by decide +kernel
theorem dX7_feast_0 : decode cX7_feast 0 = .ok (.aload_n 0, 1) := by decide +kernel
theorem dX7_feast_1 : decode cX7_feast 1 = .ok (.aload_n 0, 1) := by decide +kernel
theorem dX7_feast_2 : decode cX7_feast 2 = .ok (.iload_n 1, 1) := by decide +kernel
theorem dX7_feast_3 : decode cX7_feast 3 = .ok (.invokevirtual 114, 3) := by decide +kernel
theorem dX7_feast_6 : decode cX7_feast 6 = .ok (.ifCond .ne 7, 3) := by decide +kernel
theorem dX7_feast_9 : decode cX7_feast 9 = .ok (.iconst 1, 1) := by decide +kernel
theorem dX7_feast_10 : decode cX7_feast 10 = .ok (.goto 17, 3) := by decide +kernel
theorem dX7_feast_13 : decode cX7_feast 13 = .ok (.iload_n 2, 1) := by decide +kernel
theorem dX7_feast_14 : decode cX7_feast 14 = .ok (.iconst 0, 1) := by decide +kernel
theorem dX7_feast_15 : decode cX7_feast 15 = .ok (.iconst 3, 1) := by decide +kernel
theorem dX7_feast_16 : decode cX7_feast 16 = .ok (.invokestatic 42, 3) := by decide +kernel
theorem dX7_feast_19 : decode cX7_feast 19 = .ok (.ifCond .ne 7, 3) := by decide +kernel
theorem dX7_feast_22 : decode cX7_feast 22 = .ok (.iconst 2, 1) := by decide +kernel
theorem dX7_feast_23 : decode cX7_feast 23 = .ok (.goto 4, 3) := by decide +kernel
theorem dX7_feast_26 : decode cX7_feast 26 = .ok (.iconst 0, 1) := by decide +kernel
theorem dX7_feast_27 : decode cX7_feast 27 = .ok (.invokevirtual 80, 3) := by decide +kernel
theorem dX7_feast_30 : decode cX7_feast 30 = .ok (.ifCond .eq 12, 3) := by decide +kernel
theorem dX7_feast_33 : decode cX7_feast 33 = .ok (.aload_n 0, 1) := by decide +kernel
theorem dX7_feast_34 : decode cX7_feast 34 = .ok (.iload_n 1, 1) := by decide +kernel
theorem dX7_feast_35 : decode cX7_feast 35 = .ok (.iload_n 2, 1) := by decide +kernel
theorem dX7_feast_36 : decode cX7_feast 36 = .ok (.invokevirtual 145, 3) := by decide +kernel
theorem dX7_feast_39 : decode cX7_feast 39 = .ok (.goto 4, 3) := by decide +kernel
theorem dX7_feast_42 : decode cX7_feast 42 = .ok (.iconst 0, 1) := by decide +kernel
theorem dX7_feast_43 : decode cX7_feast 43 = .ok (.ireturn, 1) := by decide +kernel
theorem dX7_dayOf_0 : decode cX7_dayOf 0 = .ok (.aload_n 0, 1) := by decide +kernel
theorem dX7_dayOf_1 : decode cX7_dayOf 1 = .ok (.iload_n 2, 1) := by decide +kernel
theorem dX7_dayOf_2 : decode cX7_dayOf 2 = .ok (.aload_n 0, 1) := by decide +kernel
theorem dX7_dayOf_3 : decode cX7_dayOf 3 = .ok (.getfield 7, 3) := by decide +kernel
theorem dX7_dayOf_6 : decode cX7_dayOf 6 = .ok (.bipush 41, 2) := by decide +kernel
theorem dX7_dayOf_8 : decode cX7_dayOf 8 = .ok (.iload_n 3, 1) := by decide +kernel
theorem dX7_dayOf_9 : decode cX7_dayOf 9 = .ok (.iadd, 1) := by decide +kernel
theorem dX7_dayOf_10 : decode cX7_dayOf 10 = .ok (.iaload, 1) := by decide +kernel
theorem dX7_dayOf_11 : decode cX7_dayOf 11 = .ok (.invokevirtual 74, 3) := by decide +kernel
theorem dX7_dayOf_14 : decode cX7_dayOf 14 = .ok (.iload 4, 2) := by decide +kernel
theorem dX7_dayOf_16 : decode cX7_dayOf 16 = .ok (.ifCond .eq 12, 3) := by decide +kernel
theorem dX7_dayOf_19 : decode cX7_dayOf 19 = .ok (.aload_n 0, 1) := by decide +kernel
theorem dX7_dayOf_20 : decode cX7_dayOf 20 = .ok (.getfield 19, 3) := by decide +kernel
theorem dX7_dayOf_23 : decode cX7_dayOf 23 = .ok (.iload_n 1, 1) := by decide +kernel
theorem dX7_dayOf_24 : decode cX7_dayOf 24 = .ok (.iaload, 1) := by decide +kernel
theorem dX7_dayOf_25 : decode cX7_dayOf 25 = .ok (.goto 9, 3) := by decide +kernel
theorem dX7_dayOf_28 : decode cX7_dayOf 28 = .ok (.aload_n 0, 1) := by decide +kernel
theorem dX7_dayOf_29 : decode cX7_dayOf 29 = .ok (.getfield 22, 3) := by decide +kernel
theorem dX7_dayOf_32 : decode cX7_dayOf 32 = .ok (.iload_n 1, 1) := by decide +kernel
theorem dX7_dayOf_33 : decode cX7_dayOf 33 = .ok (.iaload, 1) := by decide +kernel
theorem dX7_dayOf_34 : decode cX7_dayOf 34 = .ok (.ireturn, 1) := by decide +kernel
theorem dX7_when_0 : decode cX7_when 0 = .ok (.aload_n 0, 1) := by decide +kernel
theorem dX7_when_1 : decode cX7_when 1 = .ok (.aload_n 0, 1) := by decide +kernel
theorem dX7_when_2 : decode cX7_when 2 = .ok (.iload_n 1, 1) := by decide +kernel
theorem dX7_when_3 : decode cX7_when 3 = .ok (.invokevirtual 114, 3) := by decide +kernel
theorem dX7_when_6 : decode cX7_when 6 = .ok (.ifCond .ne 7, 3) := by decide +kernel
theorem dX7_when_9 : decode cX7_when 9 = .ok (.iconst 1, 1) := by decide +kernel
theorem dX7_when_10 : decode cX7_when 10 = .ok (.goto 22, 3) := by decide +kernel
theorem dX7_when_13 : decode cX7_when 13 = .ok (.iload_n 2, 1) := by decide +kernel
theorem dX7_when_14 : decode cX7_when 14 = .ok (.invokestatic 123, 3) := by decide +kernel
theorem dX7_when_17 : decode cX7_when 17 = .ok (.ifCond .eq 10, 3) := by decide +kernel
theorem dX7_when_20 : decode cX7_when 20 = .ok (.iload_n 3, 1) := by decide +kernel
theorem dX7_when_21 : decode cX7_when 21 = .ok (.invokestatic 120, 3) := by decide +kernel
theorem dX7_when_24 : decode cX7_when 24 = .ok (.ifCond .ne 7, 3) := by decide +kernel
theorem dX7_when_27 : decode cX7_when 27 = .ok (.iconst 2, 1) := by decide +kernel
theorem dX7_when_28 : decode cX7_when 28 = .ok (.goto 4, 3) := by decide +kernel
theorem dX7_when_31 : decode cX7_when 31 = .ok (.iconst 0, 1) := by decide +kernel
theorem dX7_when_32 : decode cX7_when 32 = .ok (.invokevirtual 80, 3) := by decide +kernel
theorem dX7_when_35 : decode cX7_when 35 = .ok (.ifCond .eq 15, 3) := by decide +kernel
theorem dX7_when_38 : decode cX7_when 38 = .ok (.aload_n 0, 1) := by decide +kernel
theorem dX7_when_39 : decode cX7_when 39 = .ok (.iload_n 1, 1) := by decide +kernel
theorem dX7_when_40 : decode cX7_when 40 = .ok (.iload_n 2, 1) := by decide +kernel
theorem dX7_when_41 : decode cX7_when 41 = .ok (.iload_n 3, 1) := by decide +kernel
theorem dX7_when_42 : decode cX7_when 42 = .ok (.iload 4, 2) := by decide +kernel
theorem dX7_when_44 : decode cX7_when 44 = .ok (.invokevirtual 148, 3) := by decide +kernel
theorem dX7_when_47 : decode cX7_when 47 = .ok (.goto 4, 3) := by decide +kernel
theorem dX7_when_50 : decode cX7_when 50 = .ok (.iconst 0, 1) := by decide +kernel
theorem dX7_when_51 : decode cX7_when 51 = .ok (.ireturn, 1) := by decide +kernel
theorem dX7_settledOf_0 : decode cX7_settledOf 0 = .ok (.aload_n 0, 1) := by decide +kernel
theorem dX7_settledOf_1 : decode cX7_settledOf 1 = .ok (.iload_n 2, 1) := by decide +kernel
theorem dX7_settledOf_2 : decode cX7_settledOf 2 = .ok (.invokevirtual 132, 3) := by decide +kernel
theorem dX7_settledOf_5 : decode cX7_settledOf 5 = .ok (.aload_n 0, 1) := by decide +kernel
theorem dX7_settledOf_6 : decode cX7_settledOf 6 = .ok (.iload_n 1, 1) := by decide +kernel
theorem dX7_settledOf_7 : decode cX7_settledOf 7 = .ok (.invokevirtual 136, 3) := by decide +kernel
theorem dX7_settledOf_10 : decode cX7_settledOf 10 = .ok (.ireturn, 1) := by decide +kernel
theorem dX7_settled_0 : decode cX7_settled 0 = .ok (.aload_n 0, 1) := by decide +kernel
theorem dX7_settled_1 : decode cX7_settled 1 = .ok (.aload_n 0, 1) := by decide +kernel
theorem dX7_settled_2 : decode cX7_settled 2 = .ok (.iload_n 1, 1) := by decide +kernel
theorem dX7_settled_3 : decode cX7_settled 3 = .ok (.invokevirtual 114, 3) := by decide +kernel
theorem dX7_settled_6 : decode cX7_settled 6 = .ok (.ifCond .ne 7, 3) := by decide +kernel
theorem dX7_settled_9 : decode cX7_settled 9 = .ok (.iconst 1, 1) := by decide +kernel
theorem dX7_settled_10 : decode cX7_settled 10 = .ok (.goto 15, 3) := by decide +kernel
theorem dX7_settled_13 : decode cX7_settled 13 = .ok (.iload_n 2, 1) := by decide +kernel
theorem dX7_settled_14 : decode cX7_settled 14 = .ok (.invokestatic 123, 3) := by decide +kernel
theorem dX7_settled_17 : decode cX7_settled 17 = .ok (.ifCond .ne 7, 3) := by decide +kernel
theorem dX7_settled_20 : decode cX7_settled 20 = .ok (.iconst 2, 1) := by decide +kernel
theorem dX7_settled_21 : decode cX7_settled 21 = .ok (.goto 4, 3) := by decide +kernel
theorem dX7_settled_24 : decode cX7_settled 24 = .ok (.iconst 0, 1) := by decide +kernel
theorem dX7_settled_25 : decode cX7_settled 25 = .ok (.invokevirtual 80, 3) := by decide +kernel
theorem dX7_settled_28 : decode cX7_settled 28 = .ok (.ifCond .eq 12, 3) := by decide +kernel
theorem dX7_settled_31 : decode cX7_settled 31 = .ok (.aload_n 0, 1) := by decide +kernel
theorem dX7_settled_32 : decode cX7_settled 32 = .ok (.iload_n 1, 1) := by decide +kernel
theorem dX7_settled_33 : decode cX7_settled 33 = .ok (.iload_n 2, 1) := by decide +kernel
theorem dX7_settled_34 : decode cX7_settled 34 = .ok (.invokevirtual 152, 3) := by decide +kernel
theorem dX7_settled_37 : decode cX7_settled 37 = .ok (.goto 4, 3) := by decide +kernel
theorem dX7_settled_40 : decode cX7_settled 40 = .ok (.iconst 0, 1) := by decide +kernel
theorem dX7_settled_41 : decode cX7_settled 41 = .ok (.ireturn, 1) := by decide +kernel
theorem dX7_quarrelsOf_0 : decode cX7_quarrelsOf 0 = .ok (.aload_n 0, 1) := by decide +kernel
theorem dX7_quarrelsOf_1 : decode cX7_quarrelsOf 1 = .ok (.iload_n 1, 1) := by decide +kernel
theorem dX7_quarrelsOf_2 : decode cX7_quarrelsOf 2 = .ok (.invokevirtual 132, 3) := by decide +kernel
theorem dX7_quarrelsOf_5 : decode cX7_quarrelsOf 5 = .ok (.aload_n 0, 1) := by decide +kernel
theorem dX7_quarrelsOf_6 : decode cX7_quarrelsOf 6 = .ok (.invokevirtual 155, 3) := by decide +kernel
end
section
theorem dX7_quarrelsOf_9 : decode cX7_quarrelsOf 9 = .ok (.ireturn, 1) := by decide +kernel
theorem dX7_quarrels_0 : decode cX7_quarrels 0 = .ok (.aload_n 0, 1) := by decide +kernel
theorem dX7_quarrels_1 : decode cX7_quarrels 1 = .ok (.iload_n 1, 1) := by decide +kernel
theorem dX7_quarrels_2 : decode cX7_quarrels 2 = .ok (.invokestatic 123, 3) := by decide +kernel
theorem dX7_quarrels_5 : decode cX7_quarrels 5 = .ok (.ifCond .eq 7, 3) := by decide +kernel
theorem dX7_quarrels_8 : decode cX7_quarrels 8 = .ok (.iconst 0, 1) := by decide +kernel
theorem dX7_quarrels_9 : decode cX7_quarrels 9 = .ok (.goto 4, 3) := by decide +kernel
theorem dX7_quarrels_12 : decode cX7_quarrels 12 = .ok (.iconst 1, 1) := by decide +kernel
theorem dX7_quarrels_13 : decode cX7_quarrels 13 = .ok (.invokevirtual 80, 3) := by decide +kernel
theorem dX7_quarrels_16 : decode cX7_quarrels 16 = .ok (.ifCond .eq 11, 3) := by decide +kernel
theorem dX7_quarrels_19 : decode cX7_quarrels 19 = .ok (.aload_n 0, 1) := by decide +kernel
theorem dX7_quarrels_20 : decode cX7_quarrels 20 = .ok (.iload_n 1, 1) := by decide +kernel
theorem dX7_quarrels_21 : decode cX7_quarrels 21 = .ok (.invokevirtual 159, 3) := by decide +kernel
theorem dX7_quarrels_24 : decode cX7_quarrels 24 = .ok (.goto 4, 3) := by decide +kernel
theorem dX7_quarrels_27 : decode cX7_quarrels 27 = .ok (.iconst 0, 1) := by decide +kernel
theorem dX7_quarrels_28 : decode cX7_quarrels 28 = .ok (.ireturn, 1) := by decide +kernel
theorem dX7_staleOf_0 : decode cX7_staleOf 0 = .ok (.aload_n 0, 1) := by decide +kernel
theorem dX7_staleOf_1 : decode cX7_staleOf 1 = .ok (.aload_n 0, 1) := by decide +kernel
theorem dX7_staleOf_2 : decode cX7_staleOf 2 = .ok (.getfield 7, 3) := by decide +kernel
theorem dX7_staleOf_5 : decode cX7_staleOf 5 = .ok (.iload_n 1, 1) := by decide +kernel
theorem dX7_staleOf_6 : decode cX7_staleOf 6 = .ok (.iconst 0, 1) := by decide +kernel
theorem dX7_staleOf_7 : decode cX7_staleOf 7 = .ok (.invokestatic 129, 3) := by decide +kernel
theorem dX7_staleOf_10 : decode cX7_staleOf 10 = .ok (.iaload, 1) := by decide +kernel
theorem dX7_staleOf_11 : decode cX7_staleOf 11 = .ok (.aload_n 0, 1) := by decide +kernel
theorem dX7_staleOf_12 : decode cX7_staleOf 12 = .ok (.getfield 7, 3) := by decide +kernel
theorem dX7_staleOf_15 : decode cX7_staleOf 15 = .ok (.bipush 41, 2) := by decide +kernel
theorem dX7_staleOf_17 : decode cX7_staleOf 17 = .ok (.aload_n 0, 1) := by decide +kernel
theorem dX7_staleOf_18 : decode cX7_staleOf 18 = .ok (.getfield 7, 3) := by decide +kernel
theorem dX7_staleOf_21 : decode cX7_staleOf 21 = .ok (.iload_n 1, 1) := by decide +kernel
theorem dX7_staleOf_22 : decode cX7_staleOf 22 = .ok (.iconst 1, 1) := by decide +kernel
theorem dX7_staleOf_23 : decode cX7_staleOf 23 = .ok (.invokestatic 129, 3) := by decide +kernel
theorem dX7_staleOf_26 : decode cX7_staleOf 26 = .ok (.iaload, 1) := by decide +kernel
theorem dX7_staleOf_27 : decode cX7_staleOf 27 = .ok (.iadd, 1) := by decide +kernel
theorem dX7_staleOf_28 : decode cX7_staleOf 28 = .ok (.iaload, 1) := by decide +kernel
theorem dX7_staleOf_29 : decode cX7_staleOf 29 = .ok (.invokevirtual 74, 3) := by decide +kernel
theorem dX7_staleOf_32 : decode cX7_staleOf 32 = .ok (.iconst 0, 1) := by decide +kernel
theorem dX7_staleOf_33 : decode cX7_staleOf 33 = .ok (.istore_n 2, 1) := by decide +kernel
theorem dX7_staleOf_34 : decode cX7_staleOf 34 = .ok (.iconst 0, 1) := by decide +kernel
theorem dX7_staleOf_35 : decode cX7_staleOf 35 = .ok (.istore_n 3, 1) := by decide +kernel
theorem dX7_staleOf_36 : decode cX7_staleOf 36 = .ok (.iload_n 3, 1) := by decide +kernel
theorem dX7_staleOf_37 : decode cX7_staleOf 37 = .ok (.aload_n 0, 1) := by decide +kernel
theorem dX7_staleOf_38 : decode cX7_staleOf 38 = .ok (.getfield 7, 3) := by decide +kernel
theorem dX7_staleOf_41 : decode cX7_staleOf 41 = .ok (.iload_n 1, 1) := by decide +kernel
theorem dX7_staleOf_42 : decode cX7_staleOf 42 = .ok (.iconst 2, 1) := by decide +kernel
theorem dX7_staleOf_43 : decode cX7_staleOf 43 = .ok (.invokestatic 129, 3) := by decide +kernel
theorem dX7_staleOf_46 : decode cX7_staleOf 46 = .ok (.iaload, 1) := by decide +kernel
theorem dX7_staleOf_47 : decode cX7_staleOf 47 = .ok (.if_icmp .ge 48, 3) := by decide +kernel
theorem dX7_staleOf_50 : decode cX7_staleOf 50 = .ok (.iload_n 2, 1) := by decide +kernel
theorem dX7_staleOf_51 : decode cX7_staleOf 51 = .ok (.iload_n 3, 1) := by decide +kernel
theorem dX7_staleOf_52 : decode cX7_staleOf 52 = .ok (.aload_n 0, 1) := by decide +kernel
theorem dX7_staleOf_53 : decode cX7_staleOf 53 = .ok (.getfield 7, 3) := by decide +kernel
theorem dX7_staleOf_56 : decode cX7_staleOf 56 = .ok (.iconst 0, 1) := by decide +kernel
theorem dX7_staleOf_57 : decode cX7_staleOf 57 = .ok (.iaload, 1) := by decide +kernel
theorem dX7_staleOf_58 : decode cX7_staleOf 58 = .ok (.if_icmp .ge 24, 3) := by decide +kernel
theorem dX7_staleOf_61 : decode cX7_staleOf 61 = .ok (.aload_n 0, 1) := by decide +kernel
theorem dX7_staleOf_62 : decode cX7_staleOf 62 = .ok (.getfield 22, 3) := by decide +kernel
theorem dX7_staleOf_65 : decode cX7_staleOf 65 = .ok (.iload_n 3, 1) := by decide +kernel
theorem dX7_staleOf_66 : decode cX7_staleOf 66 = .ok (.iaload, 1) := by decide +kernel
theorem dX7_staleOf_67 : decode cX7_staleOf 67 = .ok (.aload_n 0, 1) := by decide +kernel
theorem dX7_staleOf_68 : decode cX7_staleOf 68 = .ok (.getfield 7, 3) := by decide +kernel
theorem dX7_staleOf_71 : decode cX7_staleOf 71 = .ok (.iload_n 1, 1) := by decide +kernel
theorem dX7_staleOf_72 : decode cX7_staleOf 72 = .ok (.iconst 3, 1) := by decide +kernel
theorem dX7_staleOf_73 : decode cX7_staleOf 73 = .ok (.iload_n 3, 1) := by decide +kernel
theorem dX7_staleOf_74 : decode cX7_staleOf 74 = .ok (.iadd, 1) := by decide +kernel
theorem dX7_staleOf_75 : decode cX7_staleOf 75 = .ok (.invokestatic 129, 3) := by decide +kernel
theorem dX7_staleOf_78 : decode cX7_staleOf 78 = .ok (.iaload, 1) := by decide +kernel
theorem dX7_staleOf_79 : decode cX7_staleOf 79 = .ok (.if_icmp .eq 7, 3) := by decide +kernel
theorem dX7_staleOf_82 : decode cX7_staleOf 82 = .ok (.iconst 1, 1) := by decide +kernel
theorem dX7_staleOf_83 : decode cX7_staleOf 83 = .ok (.goto 4, 3) := by decide +kernel
theorem dX7_staleOf_86 : decode cX7_staleOf 86 = .ok (.iconst 0, 1) := by decide +kernel
theorem dX7_staleOf_87 : decode cX7_staleOf 87 = .ok (.iadd, 1) := by decide +kernel
theorem dX7_staleOf_88 : decode cX7_staleOf 88 = .ok (.istore_n 2, 1) := by decide +kernel
theorem dX7_staleOf_89 : decode cX7_staleOf 89 = .ok (.iinc 3 1, 3) := by decide +kernel
theorem dX7_staleOf_92 : decode cX7_staleOf 92 = .ok (.goto (-56), 3) := by decide +kernel
theorem dX7_staleOf_95 : decode cX7_staleOf 95 = .ok (.iload_n 2, 1) := by decide +kernel
theorem dX7_staleOf_96 : decode cX7_staleOf 96 = .ok (.ireturn, 1) := by decide +kernel
theorem dX7_aboutStick_0 : decode cX7_aboutStick 0 = .ok (.iload_n 2, 1) := by decide +kernel
theorem dX7_aboutStick_1 : decode cX7_aboutStick 1 = .ok (.iconst 3, 1) := by decide +kernel
theorem dX7_aboutStick_2 : decode cX7_aboutStick 2 = .ok (.if_icmp .ne 9, 3) := by decide +kernel
theorem dX7_aboutStick_5 : decode cX7_aboutStick 5 = .ok (.aload_n 0, 1) := by decide +kernel
theorem dX7_aboutStick_6 : decode cX7_aboutStick 6 = .ok (.iload_n 1, 1) := by decide +kernel
theorem dX7_aboutStick_7 : decode cX7_aboutStick 7 = .ok (.invokevirtual 162, 3) := by decide +kernel
theorem dX7_aboutStick_10 : decode cX7_aboutStick 10 = .ok (.ireturn, 1) := by decide +kernel
theorem dX7_aboutStick_11 : decode cX7_aboutStick 11 = .ok (.iconst 0, 1) := by decide +kernel
theorem dX7_aboutStick_12 : decode cX7_aboutStick 12 = .ok (.istore_n 3, 1) := by decide +kernel
theorem dX7_aboutStick_13 : decode cX7_aboutStick 13 = .ok (.iconst 0, 1) := by decide +kernel
theorem dX7_aboutStick_14 : decode cX7_aboutStick 14 = .ok (.istore 4, 2) := by decide +kernel
theorem dX7_aboutStick_16 : decode cX7_aboutStick 16 = .ok (.iload 4, 2) := by decide +kernel
theorem dX7_aboutStick_18 : decode cX7_aboutStick 18 = .ok (.bipush 10, 2) := by decide +kernel
theorem dX7_aboutStick_20 : decode cX7_aboutStick 20 = .ok (.if_icmp .ge 34, 3) := by decide +kernel
theorem dX7_aboutStick_23 : decode cX7_aboutStick 23 = .ok (.iload_n 3, 1) := by decide +kernel
theorem dX7_aboutStick_24 : decode cX7_aboutStick 24 = .ok (.aload_n 0, 1) := by decide +kernel
theorem dX7_aboutStick_25 : decode cX7_aboutStick 25 = .ok (.getfield 7, 3) := by decide +kernel
theorem dX7_aboutStick_28 : decode cX7_aboutStick 28 = .ok (.iload_n 1, 1) := by decide +kernel
theorem dX7_aboutStick_29 : decode cX7_aboutStick 29 = .ok (.iconst 3, 1) := by decide +kernel
theorem dX7_aboutStick_30 : decode cX7_aboutStick 30 = .ok (.iload 4, 2) := by decide +kernel
theorem dX7_aboutStick_32 : decode cX7_aboutStick 32 = .ok (.iadd, 1) := by decide +kernel
theorem dX7_aboutStick_33 : decode cX7_aboutStick 33 = .ok (.invokestatic 129, 3) := by decide +kernel
theorem dX7_aboutStick_36 : decode cX7_aboutStick 36 = .ok (.iaload, 1) := by decide +kernel
theorem dX7_aboutStick_37 : decode cX7_aboutStick 37 = .ok (.iconst (-1), 1) := by decide +kernel
theorem dX7_aboutStick_38 : decode cX7_aboutStick 38 = .ok (.if_icmp .ne 7, 3) := by decide +kernel
theorem dX7_aboutStick_41 : decode cX7_aboutStick 41 = .ok (.iconst 0, 1) := by decide +kernel
theorem dX7_aboutStick_42 : decode cX7_aboutStick 42 = .ok (.goto 4, 3) := by decide +kernel
theorem dX7_aboutStick_45 : decode cX7_aboutStick 45 = .ok (.iconst 1, 1) := by decide +kernel
theorem dX7_aboutStick_46 : decode cX7_aboutStick 46 = .ok (.iadd, 1) := by decide +kernel
theorem dX7_aboutStick_47 : decode cX7_aboutStick 47 = .ok (.istore_n 3, 1) := by decide +kernel
theorem dX7_aboutStick_48 : decode cX7_aboutStick 48 = .ok (.iinc 4 1, 3) := by decide +kernel
theorem dX7_aboutStick_51 : decode cX7_aboutStick 51 = .ok (.goto (-35), 3) := by decide +kernel
theorem dX7_aboutStick_54 : decode cX7_aboutStick 54 = .ok (.iload_n 2, 1) := by decide +kernel
theorem dX7_aboutStick_55 : decode cX7_aboutStick 55 = .ok (.iconst 2, 1) := by decide +kernel
theorem dX7_aboutStick_56 : decode cX7_aboutStick 56 = .ok (.if_icmp .ge 16, 3) := by decide +kernel
theorem dX7_aboutStick_59 : decode cX7_aboutStick 59 = .ok (.aload_n 0, 1) := by decide +kernel
theorem dX7_aboutStick_60 : decode cX7_aboutStick 60 = .ok (.getfield 7, 3) := by decide +kernel
theorem dX7_aboutStick_63 : decode cX7_aboutStick 63 = .ok (.iload_n 1, 1) := by decide +kernel
theorem dX7_aboutStick_64 : decode cX7_aboutStick 64 = .ok (.iload_n 2, 1) := by decide +kernel
theorem dX7_aboutStick_65 : decode cX7_aboutStick 65 = .ok (.invokestatic 129, 3) := by decide +kernel
theorem dX7_aboutStick_68 : decode cX7_aboutStick 68 = .ok (.iaload, 1) := by decide +kernel
theorem dX7_aboutStick_69 : decode cX7_aboutStick 69 = .ok (.goto 24, 3) := by decide +kernel
theorem dX7_aboutStick_72 : decode cX7_aboutStick 72 = .ok (.iload_n 2, 1) := by decide +kernel
theorem dX7_aboutStick_73 : decode cX7_aboutStick 73 = .ok (.iconst 2, 1) := by decide +kernel
theorem dX7_aboutStick_74 : decode cX7_aboutStick 74 = .ok (.if_icmp .ne 7, 3) := by decide +kernel
theorem dX7_aboutStick_77 : decode cX7_aboutStick 77 = .ok (.iload_n 3, 1) := by decide +kernel
theorem dX7_aboutStick_78 : decode cX7_aboutStick 78 = .ok (.goto 15, 3) := by decide +kernel
theorem dX7_aboutStick_81 : decode cX7_aboutStick 81 = .ok (.aload_n 0, 1) := by decide +kernel
theorem dX7_aboutStick_82 : decode cX7_aboutStick 82 = .ok (.getfield 7, 3) := by decide +kernel
theorem dX7_aboutStick_85 : decode cX7_aboutStick 85 = .ok (.iload_n 1, 1) := by decide +kernel
theorem dX7_aboutStick_86 : decode cX7_aboutStick 86 = .ok (.iload_n 2, 1) := by decide +kernel
theorem dX7_aboutStick_87 : decode cX7_aboutStick 87 = .ok (.iconst 1, 1) := by decide +kernel
theorem dX7_aboutStick_88 : decode cX7_aboutStick 88 = .ok (.isub, 1) := by decide +kernel
theorem dX7_aboutStick_89 : decode cX7_aboutStick 89 = .ok (.invokestatic 129, 3) := by decide +kernel
theorem dX7_aboutStick_92 : decode cX7_aboutStick 92 = .ok (.iaload, 1) := by decide +kernel
theorem dX7_aboutStick_93 : decode cX7_aboutStick 93 = .ok (.ireturn, 1) := by decide +kernel
theorem dX7_stick_0 : decode cX7_stick 0 = .ok (.aload_n 0, 1) := by decide +kernel
theorem dX7_stick_1 : decode cX7_stick 1 = .ok (.aload_n 0, 1) := by decide +kernel
theorem dX7_stick_2 : decode cX7_stick 2 = .ok (.iload_n 1, 1) := by decide +kernel
theorem dX7_stick_3 : decode cX7_stick 3 = .ok (.invokevirtual 126, 3) := by decide +kernel
theorem dX7_stick_6 : decode cX7_stick 6 = .ok (.ifCond .ne 7, 3) := by decide +kernel
theorem dX7_stick_9 : decode cX7_stick 9 = .ok (.iconst 1, 1) := by decide +kernel
theorem dX7_stick_10 : decode cX7_stick 10 = .ok (.goto 18, 3) := by decide +kernel
theorem dX7_stick_13 : decode cX7_stick 13 = .ok (.iload_n 2, 1) := by decide +kernel
theorem dX7_stick_14 : decode cX7_stick 14 = .ok (.iconst 0, 1) := by decide +kernel
theorem dX7_stick_15 : decode cX7_stick 15 = .ok (.bipush 13, 2) := by decide +kernel
theorem dX7_stick_17 : decode cX7_stick 17 = .ok (.invokestatic 42, 3) := by decide +kernel
theorem dX7_stick_20 : decode cX7_stick 20 = .ok (.ifCond .ne 7, 3) := by decide +kernel
theorem dX7_stick_23 : decode cX7_stick 23 = .ok (.iconst 2, 1) := by decide +kernel
theorem dX7_stick_24 : decode cX7_stick 24 = .ok (.goto 4, 3) := by decide +kernel
theorem dX7_stick_27 : decode cX7_stick 27 = .ok (.iconst 0, 1) := by decide +kernel
theorem dX7_stick_28 : decode cX7_stick 28 = .ok (.invokevirtual 80, 3) := by decide +kernel
theorem dX7_stick_31 : decode cX7_stick 31 = .ok (.ifCond .eq 12, 3) := by decide +kernel
theorem dX7_stick_34 : decode cX7_stick 34 = .ok (.aload_n 0, 1) := by decide +kernel
theorem dX7_stick_35 : decode cX7_stick 35 = .ok (.iload_n 1, 1) := by decide +kernel
theorem dX7_stick_36 : decode cX7_stick 36 = .ok (.iload_n 2, 1) := by decide +kernel
theorem dX7_stick_37 : decode cX7_stick 37 = .ok (.invokevirtual 165, 3) := by decide +kernel
theorem dX7_stick_40 : decode cX7_stick 40 = .ok (.goto 4, 3) := by decide +kernel
theorem dX7_stick_43 : decode cX7_stick 43 = .ok (.iconst 0, 1) := by decide +kernel
theorem dX7_stick_44 : decode cX7_stick 44 = .ok (.ireturn, 1) := by decide +kernel
theorem dX7_allStale_0 : decode cX7_allStale 0 = .ok (.iconst 0, 1) := by decide +kernel
theorem dX7_allStale_1 : decode cX7_allStale 1 = .ok (.istore_n 1, 1) := by decide +kernel
theorem dX7_allStale_2 : decode cX7_allStale 2 = .ok (.iconst 0, 1) := by decide +kernel
theorem dX7_allStale_3 : decode cX7_allStale 3 = .ok (.istore_n 2, 1) := by decide +kernel
theorem dX7_allStale_4 : decode cX7_allStale 4 = .ok (.iload_n 2, 1) := by decide +kernel
theorem dX7_allStale_5 : decode cX7_allStale 5 = .ok (.aload_n 0, 1) := by decide +kernel
theorem dX7_allStale_6 : decode cX7_allStale 6 = .ok (.getfield 7, 3) := by decide +kernel
theorem dX7_allStale_9 : decode cX7_allStale 9 = .ok (.bipush 45, 2) := by decide +kernel
theorem dX7_allStale_11 : decode cX7_allStale 11 = .ok (.iaload, 1) := by decide +kernel
theorem dX7_allStale_12 : decode cX7_allStale 12 = .ok (.if_icmp .ge 17, 3) := by decide +kernel
theorem dX7_allStale_15 : decode cX7_allStale 15 = .ok (.iload_n 1, 1) := by decide +kernel
theorem dX7_allStale_16 : decode cX7_allStale 16 = .ok (.aload_n 0, 1) := by decide +kernel
theorem dX7_allStale_17 : decode cX7_allStale 17 = .ok (.iload_n 2, 1) := by decide +kernel
theorem dX7_allStale_18 : decode cX7_allStale 18 = .ok (.invokevirtual 162, 3) := by decide +kernel
theorem dX7_allStale_21 : decode cX7_allStale 21 = .ok (.iadd, 1) := by decide +kernel
theorem dX7_allStale_22 : decode cX7_allStale 22 = .ok (.istore_n 1, 1) := by decide +kernel
theorem dX7_allStale_23 : decode cX7_allStale 23 = .ok (.iinc 2 1, 3) := by decide +kernel
theorem dX7_allStale_26 : decode cX7_allStale 26 = .ok (.goto (-22), 3) := by decide +kernel
theorem dX7_allStale_29 : decode cX7_allStale 29 = .ok (.iload_n 1, 1) := by decide +kernel
theorem dX7_allStale_30 : decode cX7_allStale 30 = .ok (.ireturn, 1) := by decide +kernel
theorem dX7_counted_0 : decode cX7_counted 0 = .ok (.iload_n 1, 1) := by decide +kernel
theorem dX7_counted_1 : decode cX7_counted 1 = .ok (.tableswitch 85 0 6 #[43, 50, 58, 58, 58, 72, 80], 43) := by decide +kernel
theorem dX7_counted_44 : decode cX7_counted 44 = .ok (.aload_n 0, 1) := by decide +kernel
theorem dX7_counted_45 : decode cX7_counted 45 = .ok (.getfield 7, 3) := by decide +kernel
theorem dX7_counted_48 : decode cX7_counted 48 = .ok (.iconst 0, 1) := by decide +kernel
theorem dX7_counted_49 : decode cX7_counted 49 = .ok (.iaload, 1) := by decide +kernel
theorem dX7_counted_50 : decode cX7_counted 50 = .ok (.ireturn, 1) := by decide +kernel
theorem dX7_counted_51 : decode cX7_counted 51 = .ok (.aload_n 0, 1) := by decide +kernel
theorem dX7_counted_52 : decode cX7_counted 52 = .ok (.getfield 7, 3) := by decide +kernel
theorem dX7_counted_55 : decode cX7_counted 55 = .ok (.bipush 45, 2) := by decide +kernel
theorem dX7_counted_57 : decode cX7_counted 57 = .ok (.iaload, 1) := by decide +kernel
theorem dX7_counted_58 : decode cX7_counted 58 = .ok (.ireturn, 1) := by decide +kernel
theorem dX7_counted_59 : decode cX7_counted 59 = .ok (.aload_n 0, 1) := by decide +kernel
theorem dX7_counted_60 : decode cX7_counted 60 = .ok (.getfield 7, 3) := by decide +kernel
theorem dX7_counted_63 : decode cX7_counted 63 = .ok (.bipush 41, 2) := by decide +kernel
theorem dX7_counted_65 : decode cX7_counted 65 = .ok (.iload_n 1, 1) := by decide +kernel
theorem dX7_counted_66 : decode cX7_counted 66 = .ok (.iadd, 1) := by decide +kernel
theorem dX7_counted_67 : decode cX7_counted 67 = .ok (.iconst 2, 1) := by decide +kernel
theorem dX7_counted_68 : decode cX7_counted 68 = .ok (.isub, 1) := by decide +kernel
theorem dX7_counted_69 : decode cX7_counted 69 = .ok (.iaload, 1) := by decide +kernel
theorem dX7_counted_70 : decode cX7_counted 70 = .ok (.iconst 5, 1) := by decide +kernel
theorem dX7_counted_71 : decode cX7_counted 71 = .ok (.iadd, 1) := by decide +kernel
theorem dX7_counted_72 : decode cX7_counted 72 = .ok (.ireturn, 1) := by decide +kernel
theorem dX7_counted_73 : decode cX7_counted 73 = .ok (.aload_n 0, 1) := by decide +kernel
theorem dX7_counted_74 : decode cX7_counted 74 = .ok (.getfield 7, 3) := by decide +kernel
theorem dX7_counted_77 : decode cX7_counted 77 = .ok (.bipush 44, 2) := by decide +kernel
theorem dX7_counted_79 : decode cX7_counted 79 = .ok (.iaload, 1) := by decide +kernel
theorem dX7_counted_80 : decode cX7_counted 80 = .ok (.ireturn, 1) := by decide +kernel
theorem dX7_counted_81 : decode cX7_counted 81 = .ok (.aload_n 0, 1) := by decide +kernel
theorem dX7_counted_82 : decode cX7_counted 82 = .ok (.invokevirtual 168, 3) := by decide +kernel
theorem dX7_counted_85 : decode cX7_counted 85 = .ok (.ireturn, 1) := by decide +kernel
theorem dX7_counted_86 : decode cX7_counted 86 = .ok (.aload_n 0, 1) := by decide +kernel
theorem dX7_counted_87 : decode cX7_counted 87 = .ok (.getfield 46, 3) := by decide +kernel
theorem dX7_counted_90 : decode cX7_counted 90 = .ok (.ireturn, 1) := by decide +kernel
theorem dX7_count_0 : decode cX7_count 0 = .ok (.aload_n 0, 1) := by decide +kernel
theorem dX7_count_1 : decode cX7_count 1 = .ok (.iload_n 1, 1) := by decide +kernel
theorem dX7_count_2 : decode cX7_count 2 = .ok (.iconst 0, 1) := by decide +kernel
theorem dX7_count_3 : decode cX7_count 3 = .ok (.bipush 7, 2) := by decide +kernel
theorem dX7_count_5 : decode cX7_count 5 = .ok (.invokestatic 42, 3) := by decide +kernel
theorem dX7_count_8 : decode cX7_count 8 = .ok (.ifCond .eq 7, 3) := by decide +kernel
theorem dX7_count_11 : decode cX7_count 11 = .ok (.iconst 0, 1) := by decide +kernel
theorem dX7_count_12 : decode cX7_count 12 = .ok (.goto 4, 3) := by decide +kernel
theorem dX7_count_15 : decode cX7_count 15 = .ok (.iconst 1, 1) := by decide +kernel
theorem dX7_count_16 : decode cX7_count 16 = .ok (.invokevirtual 80, 3) := by decide +kernel
theorem dX7_count_19 : decode cX7_count 19 = .ok (.ifCond .eq 11, 3) := by decide +kernel
theorem dX7_count_22 : decode cX7_count 22 = .ok (.aload_n 0, 1) := by decide +kernel
theorem dX7_count_23 : decode cX7_count 23 = .ok (.iload_n 1, 1) := by decide +kernel
theorem dX7_count_24 : decode cX7_count 24 = .ok (.invokevirtual 171, 3) := by decide +kernel
theorem dX7_count_27 : decode cX7_count 27 = .ok (.goto 4, 3) := by decide +kernel
theorem dX7_count_30 : decode cX7_count 30 = .ok (.iconst 0, 1) := by decide +kernel
theorem dX7_count_31 : decode cX7_count 31 = .ok (.ireturn, 1) := by decide +kernel
theorem dX7_outermost_0 : decode cX7_outermost 0 = .ok (.iconst (-1), 1) := by decide +kernel
theorem dX7_outermost_1 : decode cX7_outermost 1 = .ok (.istore 5, 2) := by decide +kernel
theorem dX7_outermost_3 : decode cX7_outermost 3 = .ok (.iload_n 2, 1) := by decide +kernel
theorem dX7_outermost_4 : decode cX7_outermost 4 = .ok (.istore 6, 2) := by decide +kernel
theorem dX7_outermost_6 : decode cX7_outermost 6 = .ok (.iload 6, 2) := by decide +kernel
theorem dX7_outermost_8 : decode cX7_outermost 8 = .ok (.iload_n 2, 1) := by decide +kernel
theorem dX7_outermost_9 : decode cX7_outermost 9 = .ok (.iload_n 3, 1) := by decide +kernel
theorem dX7_outermost_10 : decode cX7_outermost 10 = .ok (.iadd, 1) := by decide +kernel
theorem dX7_outermost_11 : decode cX7_outermost 11 = .ok (.if_icmp .ge 81, 3) := by decide +kernel
theorem dX7_outermost_14 : decode cX7_outermost 14 = .ok (.iload 6, 2) := by decide +kernel
theorem dX7_outermost_16 : decode cX7_outermost 16 = .ok (.sipush 999, 3) := by decide +kernel
theorem dX7_outermost_19 : decode cX7_outermost 19 = .ok (.if_icmp .gt 73, 3) := by decide +kernel
theorem dX7_outermost_22 : decode cX7_outermost 22 = .ok (.aload_n 0, 1) := by decide +kernel
theorem dX7_outermost_23 : decode cX7_outermost 23 = .ok (.iload_n 1, 1) := by decide +kernel
theorem dX7_outermost_24 : decode cX7_outermost 24 = .ok (.iload 6, 2) := by decide +kernel
theorem dX7_outermost_26 : decode cX7_outermost 26 = .ok (.invokevirtual 152, 3) := by decide +kernel
theorem dX7_outermost_29 : decode cX7_outermost 29 = .ok (.istore 7, 2) := by decide +kernel
theorem dX7_outermost_31 : decode cX7_outermost 31 = .ok (.iload 7, 2) := by decide +kernel
theorem dX7_outermost_33 : decode cX7_outermost 33 = .ok (.iconst (-1), 1) := by decide +kernel
theorem dX7_outermost_34 : decode cX7_outermost 34 = .ok (.if_icmp .eq 35, 3) := by decide +kernel
theorem dX7_outermost_37 : decode cX7_outermost 37 = .ok (.iload 5, 2) := by decide +kernel
theorem dX7_outermost_39 : decode cX7_outermost 39 = .ok (.iconst (-1), 1) := by decide +kernel
theorem dX7_outermost_40 : decode cX7_outermost 40 = .ok (.if_icmp .eq 25, 3) := by decide +kernel
theorem dX7_outermost_43 : decode cX7_outermost 43 = .ok (.iload 4, 2) := by decide +kernel
theorem dX7_outermost_45 : decode cX7_outermost 45 = .ok (.ifCond .eq 13, 3) := by decide +kernel
theorem dX7_outermost_48 : decode cX7_outermost 48 = .ok (.iload 7, 2) := by decide +kernel
theorem dX7_outermost_50 : decode cX7_outermost 50 = .ok (.iload 5, 2) := by decide +kernel
theorem dX7_outermost_52 : decode cX7_outermost 52 = .ok (.if_icmp .le 17, 3) := by decide +kernel
theorem dX7_outermost_55 : decode cX7_outermost 55 = .ok (.goto 10, 3) := by decide +kernel
theorem dX7_outermost_58 : decode cX7_outermost 58 = .ok (.iload 7, 2) := by decide +kernel
theorem dX7_outermost_60 : decode cX7_outermost 60 = .ok (.iload 5, 2) := by decide +kernel
theorem dX7_outermost_62 : decode cX7_outermost 62 = .ok (.if_icmp .ge 7, 3) := by decide +kernel
theorem dX7_outermost_65 : decode cX7_outermost 65 = .ok (.iconst 1, 1) := by decide +kernel
theorem dX7_outermost_66 : decode cX7_outermost 66 = .ok (.goto 4, 3) := by decide +kernel
theorem dX7_outermost_69 : decode cX7_outermost 69 = .ok (.iconst 0, 1) := by decide +kernel
theorem dX7_outermost_70 : decode cX7_outermost 70 = .ok (.istore 8, 2) := by decide +kernel
theorem dX7_outermost_72 : decode cX7_outermost 72 = .ok (.iload 8, 2) := by decide +kernel
theorem dX7_outermost_74 : decode cX7_outermost 74 = .ok (.ifCond .eq 8, 3) := by decide +kernel
theorem dX7_outermost_77 : decode cX7_outermost 77 = .ok (.iload 7, 2) := by decide +kernel
theorem dX7_outermost_79 : decode cX7_outermost 79 = .ok (.goto 5, 3) := by decide +kernel
theorem dX7_outermost_82 : decode cX7_outermost 82 = .ok (.iload 5, 2) := by decide +kernel
theorem dX7_outermost_84 : decode cX7_outermost 84 = .ok (.istore 5, 2) := by decide +kernel
theorem dX7_outermost_86 : decode cX7_outermost 86 = .ok (.iinc 6 1, 3) := by decide +kernel
theorem dX7_outermost_89 : decode cX7_outermost 89 = .ok (.goto (-83), 3) := by decide +kernel
theorem dX7_outermost_92 : decode cX7_outermost 92 = .ok (.iload 5, 2) := by decide +kernel
theorem dX7_outermost_94 : decode cX7_outermost 94 = .ok (.ireturn, 1) := by decide +kernel
theorem dX7_range_0 : decode cX7_range 0 = .ok (.aload_n 0, 1) := by decide +kernel
theorem dX7_range_1 : decode cX7_range 1 = .ok (.iload_n 1, 1) := by decide +kernel
theorem dX7_range_2 : decode cX7_range 2 = .ok (.invokevirtual 114, 3) := by decide +kernel
theorem dX7_range_5 : decode cX7_range 5 = .ok (.ifCond .ne 7, 3) := by decide +kernel
theorem dX7_range_8 : decode cX7_range 8 = .ok (.iconst 1, 1) := by decide +kernel
theorem dX7_range_9 : decode cX7_range 9 = .ok (.goto 25, 3) := by decide +kernel
theorem dX7_range_12 : decode cX7_range 12 = .ok (.iload_n 2, 1) := by decide +kernel
theorem dX7_range_13 : decode cX7_range 13 = .ok (.invokestatic 123, 3) := by decide +kernel
theorem dX7_range_16 : decode cX7_range 16 = .ok (.ifCond .eq 13, 3) := by decide +kernel
theorem dX7_range_19 : decode cX7_range 19 = .ok (.iload_n 3, 1) := by decide +kernel
theorem dX7_range_20 : decode cX7_range 20 = .ok (.iconst 1, 1) := by decide +kernel
theorem dX7_range_21 : decode cX7_range 21 = .ok (.bipush 40, 2) := by decide +kernel
theorem dX7_range_23 : decode cX7_range 23 = .ok (.invokestatic 42, 3) := by decide +kernel
theorem dX7_range_26 : decode cX7_range 26 = .ok (.ifCond .ne 7, 3) := by decide +kernel
theorem dX7_range_29 : decode cX7_range 29 = .ok (.iconst 2, 1) := by decide +kernel
theorem dX7_range_30 : decode cX7_range 30 = .ok (.goto 4, 3) := by decide +kernel
theorem dX7_range_33 : decode cX7_range 33 = .ok (.iconst 0, 1) := by decide +kernel
theorem dX7_range_34 : decode cX7_range 34 = .ok (.istore 5, 2) := by decide +kernel
theorem dX7_range_36 : decode cX7_range 36 = .ok (.aload_n 0, 1) := by decide +kernel
theorem dX7_range_37 : decode cX7_range 37 = .ok (.iload 5, 2) := by decide +kernel
theorem dX7_range_39 : decode cX7_range 39 = .ok (.invokevirtual 80, 3) := by decide +kernel
theorem dX7_range_42 : decode cX7_range 42 = .ok (.ifCond .eq 15, 3) := by decide +kernel
theorem dX7_range_45 : decode cX7_range 45 = .ok (.aload_n 0, 1) := by decide +kernel
theorem dX7_range_46 : decode cX7_range 46 = .ok (.iload_n 1, 1) := by decide +kernel
theorem dX7_range_47 : decode cX7_range 47 = .ok (.iload_n 2, 1) := by decide +kernel
theorem dX7_range_48 : decode cX7_range 48 = .ok (.iload_n 3, 1) := by decide +kernel
theorem dX7_range_49 : decode cX7_range 49 = .ok (.iload 4, 2) := by decide +kernel
theorem dX7_range_51 : decode cX7_range 51 = .ok (.invokevirtual 174, 3) := by decide +kernel
theorem dX7_range_54 : decode cX7_range 54 = .ok (.goto 4, 3) := by decide +kernel
theorem dX7_range_57 : decode cX7_range 57 = .ok (.iconst 0, 1) := by decide +kernel
theorem dX7_range_58 : decode cX7_range 58 = .ok (.ireturn, 1) := by decide +kernel
theorem dX7_nextAlike_0 : decode cX7_nextAlike 0 = .ok (.aload_n 0, 1) := by decide +kernel
theorem dX7_nextAlike_1 : decode cX7_nextAlike 1 = .ok (.iload_n 1, 1) := by decide +kernel
theorem dX7_nextAlike_2 : decode cX7_nextAlike 2 = .ok (.invokevirtual 132, 3) := by decide +kernel
theorem dX7_nextAlike_5 : decode cX7_nextAlike 5 = .ok (.iconst 0, 1) := by decide +kernel
theorem dX7_nextAlike_6 : decode cX7_nextAlike 6 = .ok (.istore_n 2, 1) := by decide +kernel
theorem dX7_nextAlike_7 : decode cX7_nextAlike 7 = .ok (.iload_n 2, 1) := by decide +kernel
theorem dX7_nextAlike_8 : decode cX7_nextAlike 8 = .ok (.aload_n 0, 1) := by decide +kernel
theorem dX7_nextAlike_9 : decode cX7_nextAlike 9 = .ok (.getfield 7, 3) := by decide +kernel
theorem dX7_nextAlike_12 : decode cX7_nextAlike 12 = .ok (.iconst 0, 1) := by decide +kernel
theorem dX7_nextAlike_13 : decode cX7_nextAlike 13 = .ok (.iaload, 1) := by decide +kernel
theorem dX7_nextAlike_14 : decode cX7_nextAlike 14 = .ok (.if_icmp .ge 20, 3) := by decide +kernel
theorem dX7_nextAlike_17 : decode cX7_nextAlike 17 = .ok (.aload_n 0, 1) := by decide +kernel
theorem dX7_nextAlike_18 : decode cX7_nextAlike 18 = .ok (.getfield 35, 3) := by decide +kernel
theorem dX7_nextAlike_21 : decode cX7_nextAlike 21 = .ok (.iload_n 2, 1) := by decide +kernel
theorem dX7_nextAlike_22 : decode cX7_nextAlike 22 = .ok (.aload_n 0, 1) := by decide +kernel
theorem dX7_nextAlike_23 : decode cX7_nextAlike 23 = .ok (.iload_n 2, 1) := by decide +kernel
theorem dX7_nextAlike_24 : decode cX7_nextAlike 24 = .ok (.invokevirtual 136, 3) := by decide +kernel
theorem dX7_nextAlike_27 : decode cX7_nextAlike 27 = .ok (.iastore, 1) := by decide +kernel
theorem dX7_nextAlike_28 : decode cX7_nextAlike 28 = .ok (.iinc 2 1, 3) := by decide +kernel
theorem dX7_nextAlike_31 : decode cX7_nextAlike 31 = .ok (.goto (-24), 3) := by decide +kernel
theorem dX7_nextAlike_34 : decode cX7_nextAlike 34 = .ok (.iload_n 1, 1) := by decide +kernel
theorem dX7_nextAlike_35 : decode cX7_nextAlike 35 = .ok (.iconst 1, 1) := by decide +kernel
theorem dX7_nextAlike_36 : decode cX7_nextAlike 36 = .ok (.iadd, 1) := by decide +kernel
theorem dX7_nextAlike_37 : decode cX7_nextAlike 37 = .ok (.istore_n 2, 1) := by decide +kernel
theorem dX7_nextAlike_38 : decode cX7_nextAlike 38 = .ok (.iload_n 2, 1) := by decide +kernel
theorem dX7_nextAlike_39 : decode cX7_nextAlike 39 = .ok (.iload_n 1, 1) := by decide +kernel
theorem dX7_nextAlike_40 : decode cX7_nextAlike 40 = .ok (.bipush 100, 2) := by decide +kernel
theorem dX7_nextAlike_42 : decode cX7_nextAlike 42 = .ok (.iadd, 1) := by decide +kernel
theorem dX7_nextAlike_43 : decode cX7_nextAlike 43 = .ok (.if_icmp .gt 99, 3) := by decide +kernel
theorem dX7_nextAlike_46 : decode cX7_nextAlike 46 = .ok (.iload_n 2, 1) := by decide +kernel
theorem dX7_nextAlike_47 : decode cX7_nextAlike 47 = .ok (.sipush 999, 3) := by decide +kernel
theorem dX7_nextAlike_50 : decode cX7_nextAlike 50 = .ok (.if_icmp .gt 92, 3) := by decide +kernel
theorem dX7_nextAlike_53 : decode cX7_nextAlike 53 = .ok (.iload_n 2, 1) := by decide +kernel
theorem dX7_nextAlike_54 : decode cX7_nextAlike 54 = .ok (.invokestatic 49, 3) := by decide +kernel
theorem dX7_nextAlike_57 : decode cX7_nextAlike 57 = .ok (.iload_n 1, 1) := by decide +kernel
theorem dX7_nextAlike_58 : decode cX7_nextAlike 58 = .ok (.invokestatic 49, 3) := by decide +kernel
theorem dX7_nextAlike_61 : decode cX7_nextAlike 61 = .ok (.if_icmp .ne 75, 3) := by decide +kernel
theorem dX7_nextAlike_64 : decode cX7_nextAlike 64 = .ok (.iload_n 2, 1) := by decide +kernel
theorem dX7_nextAlike_65 : decode cX7_nextAlike 65 = .ok (.iconst 0, 1) := by decide +kernel
theorem dX7_nextAlike_66 : decode cX7_nextAlike 66 = .ok (.invokestatic 53, 3) := by decide +kernel
theorem dX7_nextAlike_69 : decode cX7_nextAlike 69 = .ok (.iload_n 1, 1) := by decide +kernel
theorem dX7_nextAlike_70 : decode cX7_nextAlike 70 = .ok (.iconst 0, 1) := by decide +kernel
theorem dX7_nextAlike_71 : decode cX7_nextAlike 71 = .ok (.invokestatic 53, 3) := by decide +kernel
theorem dX7_nextAlike_74 : decode cX7_nextAlike 74 = .ok (.if_icmp .ne 62, 3) := by decide +kernel
theorem dX7_nextAlike_77 : decode cX7_nextAlike 77 = .ok (.aload_n 0, 1) := by decide +kernel
theorem dX7_nextAlike_78 : decode cX7_nextAlike 78 = .ok (.iload_n 2, 1) := by decide +kernel
theorem dX7_nextAlike_79 : decode cX7_nextAlike 79 = .ok (.invokevirtual 132, 3) := by decide +kernel
theorem dX7_nextAlike_82 : decode cX7_nextAlike 82 = .ok (.iconst 1, 1) := by decide +kernel
theorem dX7_nextAlike_83 : decode cX7_nextAlike 83 = .ok (.istore_n 3, 1) := by decide +kernel
theorem dX7_nextAlike_84 : decode cX7_nextAlike 84 = .ok (.iconst 0, 1) := by decide +kernel
theorem dX7_nextAlike_85 : decode cX7_nextAlike 85 = .ok (.istore 4, 2) := by decide +kernel
theorem dX7_nextAlike_87 : decode cX7_nextAlike 87 = .ok (.iload 4, 2) := by decide +kernel
theorem dX7_nextAlike_89 : decode cX7_nextAlike 89 = .ok (.aload_n 0, 1) := by decide +kernel
theorem dX7_nextAlike_90 : decode cX7_nextAlike 90 = .ok (.getfield 7, 3) := by decide +kernel
theorem dX7_nextAlike_93 : decode cX7_nextAlike 93 = .ok (.iconst 0, 1) := by decide +kernel
theorem dX7_nextAlike_94 : decode cX7_nextAlike 94 = .ok (.iaload, 1) := by decide +kernel
theorem dX7_nextAlike_95 : decode cX7_nextAlike 95 = .ok (.if_icmp .ge 35, 3) := by decide +kernel
theorem dX7_nextAlike_98 : decode cX7_nextAlike 98 = .ok (.iload_n 3, 1) := by decide +kernel
theorem dX7_nextAlike_99 : decode cX7_nextAlike 99 = .ok (.ifCond .eq 23, 3) := by decide +kernel
theorem dX7_nextAlike_102 : decode cX7_nextAlike 102 = .ok (.aload_n 0, 1) := by decide +kernel
theorem dX7_nextAlike_103 : decode cX7_nextAlike 103 = .ok (.iload 4, 2) := by decide +kernel
theorem dX7_nextAlike_105 : decode cX7_nextAlike 105 = .ok (.invokevirtual 136, 3) := by decide +kernel
theorem dX7_nextAlike_108 : decode cX7_nextAlike 108 = .ok (.aload_n 0, 1) := by decide +kernel
theorem dX7_nextAlike_109 : decode cX7_nextAlike 109 = .ok (.getfield 35, 3) := by decide +kernel
theorem dX7_nextAlike_112 : decode cX7_nextAlike 112 = .ok (.iload 4, 2) := by decide +kernel
theorem dX7_nextAlike_114 : decode cX7_nextAlike 114 = .ok (.iaload, 1) := by decide +kernel
theorem dX7_nextAlike_115 : decode cX7_nextAlike 115 = .ok (.if_icmp .ne 7, 3) := by decide +kernel
theorem dX7_nextAlike_118 : decode cX7_nextAlike 118 = .ok (.iconst 1, 1) := by decide +kernel
theorem dX7_nextAlike_119 : decode cX7_nextAlike 119 = .ok (.goto 4, 3) := by decide +kernel
theorem dX7_nextAlike_122 : decode cX7_nextAlike 122 = .ok (.iconst 0, 1) := by decide +kernel
theorem dX7_nextAlike_123 : decode cX7_nextAlike 123 = .ok (.istore_n 3, 1) := by decide +kernel
theorem dX7_nextAlike_124 : decode cX7_nextAlike 124 = .ok (.iinc 4 1, 3) := by decide +kernel
theorem dX7_nextAlike_127 : decode cX7_nextAlike 127 = .ok (.goto (-40), 3) := by decide +kernel
theorem dX7_nextAlike_130 : decode cX7_nextAlike 130 = .ok (.iload_n 3, 1) := by decide +kernel
theorem dX7_nextAlike_131 : decode cX7_nextAlike 131 = .ok (.ifCond .eq 5, 3) := by decide +kernel
theorem dX7_nextAlike_134 : decode cX7_nextAlike 134 = .ok (.iload_n 2, 1) := by decide +kernel
theorem dX7_nextAlike_135 : decode cX7_nextAlike 135 = .ok (.ireturn, 1) := by decide +kernel
theorem dX7_nextAlike_136 : decode cX7_nextAlike 136 = .ok (.iinc 2 1, 3) := by decide +kernel
theorem dX7_nextAlike_139 : decode cX7_nextAlike 139 = .ok (.goto (-101), 3) := by decide +kernel
theorem dX7_nextAlike_142 : decode cX7_nextAlike 142 = .ok (.iconst (-1), 1) := by decide +kernel
theorem dX7_nextAlike_143 : decode cX7_nextAlike 143 = .ok (.ireturn, 1) := by decide +kernel
theorem dX7_alike_0 : decode cX7_alike 0 = .ok (.aload_n 0, 1) := by decide +kernel
theorem dX7_alike_1 : decode cX7_alike 1 = .ok (.iload_n 1, 1) := by decide +kernel
theorem dX7_alike_2 : decode cX7_alike 2 = .ok (.invokestatic 123, 3) := by decide +kernel
theorem dX7_alike_5 : decode cX7_alike 5 = .ok (.ifCond .eq 7, 3) := by decide +kernel
theorem dX7_alike_8 : decode cX7_alike 8 = .ok (.iconst 0, 1) := by decide +kernel
theorem dX7_alike_9 : decode cX7_alike 9 = .ok (.goto 4, 3) := by decide +kernel
theorem dX7_alike_12 : decode cX7_alike 12 = .ok (.iconst 1, 1) := by decide +kernel
theorem dX7_alike_13 : decode cX7_alike 13 = .ok (.invokevirtual 80, 3) := by decide +kernel
theorem dX7_alike_16 : decode cX7_alike 16 = .ok (.ifCond .eq 11, 3) := by decide +kernel
theorem dX7_alike_19 : decode cX7_alike 19 = .ok (.aload_n 0, 1) := by decide +kernel
theorem dX7_alike_20 : decode cX7_alike 20 = .ok (.iload_n 1, 1) := by decide +kernel
theorem dX7_alike_21 : decode cX7_alike 21 = .ok (.invokevirtual 177, 3) := by decide +kernel
theorem dX7_alike_24 : decode cX7_alike 24 = .ok (.goto 4, 3) := by decide +kernel
theorem dX7_alike_27 : decode cX7_alike 27 = .ok (.iconst 0, 1) := by decide +kernel
theorem dX7_alike_28 : decode cX7_alike 28 = .ok (.ireturn, 1) := by decide +kernel
theorem dX7_size_0 : decode cX7_size 0 = .ok (.iload_n 0, 1) := by decide +kernel
theorem dX7_size_1 : decode cX7_size 1 = .ok (.ifCond .ge 8, 3) := by decide +kernel
theorem dX7_size_4 : decode cX7_size 4 = .ok (.iload_n 0, 1) := by decide +kernel
theorem dX7_size_5 : decode cX7_size 5 = .ok (.ineg, 1) := by decide +kernel
theorem dX7_size_6 : decode cX7_size 6 = .ok (.goto 4, 3) := by decide +kernel
theorem dX7_size_9 : decode cX7_size 9 = .ok (.iload_n 0, 1) := by decide +kernel
theorem dX7_size_10 : decode cX7_size 10 = .ok (.ireturn, 1) := by decide +kernel
theorem dX7_bestSlip_0 : decode cX7_bestSlip 0 = .ok (.aload_n 0, 1) := by decide +kernel
theorem dX7_bestSlip_1 : decode cX7_bestSlip 1 = .ok (.getfield 7, 3) := by decide +kernel
theorem dX7_bestSlip_4 : decode cX7_bestSlip 4 = .ok (.bipush 41, 2) := by decide +kernel
theorem dX7_bestSlip_6 : decode cX7_bestSlip 6 = .ok (.iload_n 1, 1) := by decide +kernel
theorem dX7_bestSlip_7 : decode cX7_bestSlip 7 = .ok (.iadd, 1) := by decide +kernel
theorem dX7_bestSlip_8 : decode cX7_bestSlip 8 = .ok (.iaload, 1) := by decide +kernel
theorem dX7_bestSlip_9 : decode cX7_bestSlip 9 = .ok (.istore_n 3, 1) := by decide +kernel
theorem dX7_bestSlip_10 : decode cX7_bestSlip 10 = .ok (.bipush (-6), 2) := by decide +kernel
theorem dX7_bestSlip_12 : decode cX7_bestSlip 12 = .ok (.istore 4, 2) := by decide +kernel
theorem dX7_bestSlip_14 : decode cX7_bestSlip 14 = .ok (.iconst 0, 1) := by decide +kernel
theorem dX7_bestSlip_15 : decode cX7_bestSlip 15 = .ok (.istore 5, 2) := by decide +kernel
theorem dX7_bestSlip_17 : decode cX7_bestSlip 17 = .ok (.bipush (-5), 2) := by decide +kernel
theorem dX7_bestSlip_19 : decode cX7_bestSlip 19 = .ok (.istore 6, 2) := by decide +kernel
theorem dX7_bestSlip_21 : decode cX7_bestSlip 21 = .ok (.iload 6, 2) := by decide +kernel
theorem dX7_bestSlip_23 : decode cX7_bestSlip 23 = .ok (.iconst 5, 1) := by decide +kernel
theorem dX7_bestSlip_24 : decode cX7_bestSlip 24 = .ok (.if_icmp .gt 96, 3) := by decide +kernel
theorem dX7_bestSlip_27 : decode cX7_bestSlip 27 = .ok (.aload_n 0, 1) := by decide +kernel
theorem dX7_bestSlip_28 : decode cX7_bestSlip 28 = .ok (.getfield 7, 3) := by decide +kernel
theorem dX7_bestSlip_31 : decode cX7_bestSlip 31 = .ok (.bipush 41, 2) := by decide +kernel
theorem dX7_bestSlip_33 : decode cX7_bestSlip 33 = .ok (.iload_n 1, 1) := by decide +kernel
theorem dX7_bestSlip_34 : decode cX7_bestSlip 34 = .ok (.iadd, 1) := by decide +kernel
theorem dX7_bestSlip_35 : decode cX7_bestSlip 35 = .ok (.iload 6, 2) := by decide +kernel
theorem dX7_bestSlip_37 : decode cX7_bestSlip 37 = .ok (.iastore, 1) := by decide +kernel
theorem dX7_bestSlip_38 : decode cX7_bestSlip 38 = .ok (.aload_n 0, 1) := by decide +kernel
theorem dX7_bestSlip_39 : decode cX7_bestSlip 39 = .ok (.iload_n 2, 1) := by decide +kernel
theorem dX7_bestSlip_40 : decode cX7_bestSlip 40 = .ok (.invokevirtual 159, 3) := by decide +kernel
theorem dX7_bestSlip_43 : decode cX7_bestSlip 43 = .ok (.istore 7, 2) := by decide +kernel
theorem dX7_bestSlip_45 : decode cX7_bestSlip 45 = .ok (.iload 4, 2) := by decide +kernel
theorem dX7_bestSlip_47 : decode cX7_bestSlip 47 = .ok (.bipush (-6), 2) := by decide +kernel
theorem dX7_bestSlip_49 : decode cX7_bestSlip 49 = .ok (.if_icmp .eq 30, 3) := by decide +kernel
theorem dX7_bestSlip_52 : decode cX7_bestSlip 52 = .ok (.iload 7, 2) := by decide +kernel
theorem dX7_bestSlip_54 : decode cX7_bestSlip 54 = .ok (.iload 5, 2) := by decide +kernel
theorem dX7_bestSlip_56 : decode cX7_bestSlip 56 = .ok (.if_icmp .lt 23, 3) := by decide +kernel
theorem dX7_bestSlip_59 : decode cX7_bestSlip 59 = .ok (.iload 7, 2) := by decide +kernel
theorem dX7_bestSlip_61 : decode cX7_bestSlip 61 = .ok (.iload 5, 2) := by decide +kernel
theorem dX7_bestSlip_63 : decode cX7_bestSlip 63 = .ok (.if_icmp .ne 20, 3) := by decide +kernel
theorem dX7_bestSlip_66 : decode cX7_bestSlip 66 = .ok (.iload 6, 2) := by decide +kernel
theorem dX7_bestSlip_68 : decode cX7_bestSlip 68 = .ok (.invokestatic 180, 3) := by decide +kernel
theorem dX7_bestSlip_71 : decode cX7_bestSlip 71 = .ok (.iload 4, 2) := by decide +kernel
theorem dX7_bestSlip_73 : decode cX7_bestSlip 73 = .ok (.invokestatic 180, 3) := by decide +kernel
theorem dX7_bestSlip_76 : decode cX7_bestSlip 76 = .ok (.if_icmp .ge 7, 3) := by decide +kernel
theorem dX7_bestSlip_79 : decode cX7_bestSlip 79 = .ok (.iconst 1, 1) := by decide +kernel
theorem dX7_bestSlip_80 : decode cX7_bestSlip 80 = .ok (.goto 4, 3) := by decide +kernel
theorem dX7_bestSlip_83 : decode cX7_bestSlip 83 = .ok (.iconst 0, 1) := by decide +kernel
theorem dX7_bestSlip_84 : decode cX7_bestSlip 84 = .ok (.istore 8, 2) := by decide +kernel
theorem dX7_bestSlip_86 : decode cX7_bestSlip 86 = .ok (.iload 8, 2) := by decide +kernel
theorem dX7_bestSlip_88 : decode cX7_bestSlip 88 = .ok (.ifCond .eq 8, 3) := by decide +kernel
theorem dX7_bestSlip_91 : decode cX7_bestSlip 91 = .ok (.iload 6, 2) := by decide +kernel
theorem dX7_bestSlip_93 : decode cX7_bestSlip 93 = .ok (.goto 5, 3) := by decide +kernel
theorem dX7_bestSlip_96 : decode cX7_bestSlip 96 = .ok (.iload 4, 2) := by decide +kernel
theorem dX7_bestSlip_98 : decode cX7_bestSlip 98 = .ok (.istore 4, 2) := by decide +kernel
theorem dX7_bestSlip_100 : decode cX7_bestSlip 100 = .ok (.iload 8, 2) := by decide +kernel
theorem dX7_bestSlip_102 : decode cX7_bestSlip 102 = .ok (.ifCond .eq 8, 3) := by decide +kernel
theorem dX7_bestSlip_105 : decode cX7_bestSlip 105 = .ok (.iload 7, 2) := by decide +kernel
theorem dX7_bestSlip_107 : decode cX7_bestSlip 107 = .ok (.goto 5, 3) := by decide +kernel
theorem dX7_bestSlip_110 : decode cX7_bestSlip 110 = .ok (.iload 5, 2) := by decide +kernel
theorem dX7_bestSlip_112 : decode cX7_bestSlip 112 = .ok (.istore 5, 2) := by decide +kernel
theorem dX7_bestSlip_114 : decode cX7_bestSlip 114 = .ok (.iinc 6 1, 3) := by decide +kernel
theorem dX7_bestSlip_117 : decode cX7_bestSlip 117 = .ok (.goto (-96), 3) := by decide +kernel
theorem dX7_bestSlip_120 : decode cX7_bestSlip 120 = .ok (.aload_n 0, 1) := by decide +kernel
theorem dX7_bestSlip_121 : decode cX7_bestSlip 121 = .ok (.getfield 7, 3) := by decide +kernel
theorem dX7_bestSlip_124 : decode cX7_bestSlip 124 = .ok (.bipush 41, 2) := by decide +kernel
theorem dX7_bestSlip_126 : decode cX7_bestSlip 126 = .ok (.iload_n 1, 1) := by decide +kernel
theorem dX7_bestSlip_127 : decode cX7_bestSlip 127 = .ok (.iadd, 1) := by decide +kernel
theorem dX7_bestSlip_128 : decode cX7_bestSlip 128 = .ok (.iload_n 3, 1) := by decide +kernel
theorem dX7_bestSlip_129 : decode cX7_bestSlip 129 = .ok (.iastore, 1) := by decide +kernel
theorem dX7_bestSlip_130 : decode cX7_bestSlip 130 = .ok (.iload 4, 2) := by decide +kernel
theorem dX7_bestSlip_132 : decode cX7_bestSlip 132 = .ok (.iconst 5, 1) := by decide +kernel
theorem dX7_bestSlip_133 : decode cX7_bestSlip 133 = .ok (.iadd, 1) := by decide +kernel
theorem dX7_bestSlip_134 : decode cX7_bestSlip 134 = .ok (.ireturn, 1) := by decide +kernel
theorem dX7_peace_0 : decode cX7_peace 0 = .ok (.aload_n 0, 1) := by decide +kernel
theorem dX7_peace_1 : decode cX7_peace 1 = .ok (.iload_n 1, 1) := by decide +kernel
theorem dX7_peace_2 : decode cX7_peace 2 = .ok (.invokestatic 120, 3) := by decide +kernel
theorem dX7_peace_5 : decode cX7_peace 5 = .ok (.ifCond .eq 14, 3) := by decide +kernel
theorem dX7_peace_8 : decode cX7_peace 8 = .ok (.iload_n 2, 1) := by decide +kernel
theorem dX7_peace_9 : decode cX7_peace 9 = .ok (.invokestatic 123, 3) := by decide +kernel
theorem dX7_peace_12 : decode cX7_peace 12 = .ok (.ifCond .eq 7, 3) := by decide +kernel
theorem dX7_peace_15 : decode cX7_peace 15 = .ok (.iconst 0, 1) := by decide +kernel
theorem dX7_peace_16 : decode cX7_peace 16 = .ok (.goto 4, 3) := by decide +kernel
theorem dX7_peace_19 : decode cX7_peace 19 = .ok (.iconst 1, 1) := by decide +kernel
theorem dX7_peace_20 : decode cX7_peace 20 = .ok (.invokevirtual 80, 3) := by decide +kernel
theorem dX7_peace_23 : decode cX7_peace 23 = .ok (.ifCond .eq 12, 3) := by decide +kernel
theorem dX7_peace_26 : decode cX7_peace 26 = .ok (.aload_n 0, 1) := by decide +kernel
theorem dX7_peace_27 : decode cX7_peace 27 = .ok (.iload_n 1, 1) := by decide +kernel
theorem dX7_peace_28 : decode cX7_peace 28 = .ok (.iload_n 2, 1) := by decide +kernel
theorem dX7_peace_29 : decode cX7_peace 29 = .ok (.invokevirtual 183, 3) := by decide +kernel
theorem dX7_peace_32 : decode cX7_peace 32 = .ok (.goto 4, 3) := by decide +kernel
theorem dX7_peace_35 : decode cX7_peace 35 = .ok (.iconst 0, 1) := by decide +kernel
theorem dX7_peace_36 : decode cX7_peace 36 = .ok (.ireturn, 1) := by decide +kernel
theorem dX7_movedBy_0 : decode cX7_movedBy 0 = .ok (.aload_n 0, 1) := by decide +kernel
theorem dX7_movedBy_1 : decode cX7_movedBy 1 = .ok (.iload_n 1, 1) := by decide +kernel
theorem dX7_movedBy_2 : decode cX7_movedBy 2 = .ok (.aload_n 0, 1) := by decide +kernel
theorem dX7_movedBy_3 : decode cX7_movedBy 3 = .ok (.getfield 7, 3) := by decide +kernel
theorem dX7_movedBy_6 : decode cX7_movedBy 6 = .ok (.bipush 41, 2) := by decide +kernel
theorem dX7_movedBy_8 : decode cX7_movedBy 8 = .ok (.iload_n 2, 1) := by decide +kernel
theorem dX7_movedBy_9 : decode cX7_movedBy 9 = .ok (.iadd, 1) := by decide +kernel
theorem dX7_movedBy_10 : decode cX7_movedBy 10 = .ok (.iaload, 1) := by decide +kernel
theorem dX7_movedBy_11 : decode cX7_movedBy 11 = .ok (.invokevirtual 74, 3) := by decide +kernel
theorem dX7_movedBy_14 : decode cX7_movedBy 14 = .ok (.iconst 0, 1) := by decide +kernel
theorem dX7_movedBy_15 : decode cX7_movedBy 15 = .ok (.istore_n 3, 1) := by decide +kernel
theorem dX7_movedBy_16 : decode cX7_movedBy 16 = .ok (.iconst 0, 1) := by decide +kernel
theorem dX7_movedBy_17 : decode cX7_movedBy 17 = .ok (.istore 4, 2) := by decide +kernel
theorem dX7_movedBy_19 : decode cX7_movedBy 19 = .ok (.iload 4, 2) := by decide +kernel
theorem dX7_movedBy_21 : decode cX7_movedBy 21 = .ok (.aload_n 0, 1) := by decide +kernel
theorem dX7_movedBy_22 : decode cX7_movedBy 22 = .ok (.getfield 7, 3) := by decide +kernel
theorem dX7_movedBy_25 : decode cX7_movedBy 25 = .ok (.iconst 0, 1) := by decide +kernel
theorem dX7_movedBy_26 : decode cX7_movedBy 26 = .ok (.iaload, 1) := by decide +kernel
theorem dX7_movedBy_27 : decode cX7_movedBy 27 = .ok (.if_icmp .ge 45, 3) := by decide +kernel
theorem dX7_movedBy_30 : decode cX7_movedBy 30 = .ok (.iload_n 3, 1) := by decide +kernel
theorem dX7_movedBy_31 : decode cX7_movedBy 31 = .ok (.aload_n 0, 1) := by decide +kernel
theorem dX7_movedBy_32 : decode cX7_movedBy 32 = .ok (.getfield 22, 3) := by decide +kernel
theorem dX7_movedBy_35 : decode cX7_movedBy 35 = .ok (.iload 4, 2) := by decide +kernel
theorem dX7_movedBy_37 : decode cX7_movedBy 37 = .ok (.iaload, 1) := by decide +kernel
theorem dX7_movedBy_38 : decode cX7_movedBy 38 = .ok (.iconst (-1), 1) := by decide +kernel
theorem dX7_movedBy_39 : decode cX7_movedBy 39 = .ok (.if_icmp .eq 24, 3) := by decide +kernel
theorem dX7_movedBy_42 : decode cX7_movedBy 42 = .ok (.aload_n 0, 1) := by decide +kernel
theorem dX7_movedBy_43 : decode cX7_movedBy 43 = .ok (.getfield 22, 3) := by decide +kernel
theorem dX7_movedBy_46 : decode cX7_movedBy 46 = .ok (.iload 4, 2) := by decide +kernel
theorem dX7_movedBy_48 : decode cX7_movedBy 48 = .ok (.iaload, 1) := by decide +kernel
theorem dX7_movedBy_49 : decode cX7_movedBy 49 = .ok (.aload_n 0, 1) := by decide +kernel
theorem dX7_movedBy_50 : decode cX7_movedBy 50 = .ok (.getfield 19, 3) := by decide +kernel
theorem dX7_movedBy_53 : decode cX7_movedBy 53 = .ok (.iload 4, 2) := by decide +kernel
theorem dX7_movedBy_55 : decode cX7_movedBy 55 = .ok (.iaload, 1) := by decide +kernel
theorem dX7_movedBy_56 : decode cX7_movedBy 56 = .ok (.if_icmp .eq 7, 3) := by decide +kernel
theorem dX7_movedBy_59 : decode cX7_movedBy 59 = .ok (.iconst 1, 1) := by decide +kernel
theorem dX7_movedBy_60 : decode cX7_movedBy 60 = .ok (.goto 4, 3) := by decide +kernel
theorem dX7_movedBy_63 : decode cX7_movedBy 63 = .ok (.iconst 0, 1) := by decide +kernel
theorem dX7_movedBy_64 : decode cX7_movedBy 64 = .ok (.iadd, 1) := by decide +kernel
theorem dX7_movedBy_65 : decode cX7_movedBy 65 = .ok (.istore_n 3, 1) := by decide +kernel
theorem dX7_movedBy_66 : decode cX7_movedBy 66 = .ok (.iinc 4 1, 3) := by decide +kernel
theorem dX7_movedBy_69 : decode cX7_movedBy 69 = .ok (.goto (-50), 3) := by decide +kernel
theorem dX7_movedBy_72 : decode cX7_movedBy 72 = .ok (.iload_n 3, 1) := by decide +kernel
theorem dX7_movedBy_73 : decode cX7_movedBy 73 = .ok (.ireturn, 1) := by decide +kernel
theorem dX7_moved_0 : decode cX7_moved 0 = .ok (.aload_n 0, 1) := by decide +kernel
theorem dX7_moved_1 : decode cX7_moved 1 = .ok (.iload_n 1, 1) := by decide +kernel
theorem dX7_moved_2 : decode cX7_moved 2 = .ok (.invokestatic 123, 3) := by decide +kernel
theorem dX7_moved_5 : decode cX7_moved 5 = .ok (.ifCond .eq 14, 3) := by decide +kernel
theorem dX7_moved_8 : decode cX7_moved 8 = .ok (.iload_n 2, 1) := by decide +kernel
theorem dX7_moved_9 : decode cX7_moved 9 = .ok (.invokestatic 120, 3) := by decide +kernel
theorem dX7_moved_12 : decode cX7_moved 12 = .ok (.ifCond .eq 7, 3) := by decide +kernel
theorem dX7_moved_15 : decode cX7_moved 15 = .ok (.iconst 0, 1) := by decide +kernel
theorem dX7_moved_16 : decode cX7_moved 16 = .ok (.goto 4, 3) := by decide +kernel
theorem dX7_moved_19 : decode cX7_moved 19 = .ok (.iconst 1, 1) := by decide +kernel
theorem dX7_moved_20 : decode cX7_moved 20 = .ok (.invokevirtual 80, 3) := by decide +kernel
theorem dX7_moved_23 : decode cX7_moved 23 = .ok (.ifCond .eq 12, 3) := by decide +kernel
theorem dX7_moved_26 : decode cX7_moved 26 = .ok (.aload_n 0, 1) := by decide +kernel
theorem dX7_moved_27 : decode cX7_moved 27 = .ok (.iload_n 1, 1) := by decide +kernel
theorem dX7_moved_28 : decode cX7_moved 28 = .ok (.iload_n 2, 1) := by decide +kernel
theorem dX7_moved_29 : decode cX7_moved 29 = .ok (.invokevirtual 186, 3) := by decide +kernel
theorem dX7_moved_32 : decode cX7_moved 32 = .ok (.goto 4, 3) := by decide +kernel
theorem dX7_moved_35 : decode cX7_moved 35 = .ok (.iconst 0, 1) := by decide +kernel
theorem dX7_moved_36 : decode cX7_moved 36 = .ok (.ireturn, 1) := by decide +kernel
theorem dX7_fresh_0 : decode cX7_fresh 0 = .ok (.iconst 0, 1) := by decide +kernel
theorem dX7_fresh_1 : decode cX7_fresh 1 = .ok (.istore_n 1, 1) := by decide +kernel
theorem dX7_fresh_2 : decode cX7_fresh 2 = .ok (.iconst 0, 1) := by decide +kernel
theorem dX7_fresh_3 : decode cX7_fresh 3 = .ok (.istore_n 2, 1) := by decide +kernel
theorem dX7_fresh_4 : decode cX7_fresh 4 = .ok (.iload_n 2, 1) := by decide +kernel
theorem dX7_fresh_5 : decode cX7_fresh 5 = .ok (.aload_n 0, 1) := by decide +kernel
theorem dX7_fresh_6 : decode cX7_fresh 6 = .ok (.getfield 7, 3) := by decide +kernel
theorem dX7_fresh_9 : decode cX7_fresh 9 = .ok (.bipush 45, 2) := by decide +kernel
theorem dX7_fresh_11 : decode cX7_fresh 11 = .ok (.iaload, 1) := by decide +kernel
theorem dX7_fresh_12 : decode cX7_fresh 12 = .ok (.if_icmp .ge 22, 3) := by decide +kernel
theorem dX7_fresh_15 : decode cX7_fresh 15 = .ok (.iload_n 1, 1) := by decide +kernel
theorem dX7_fresh_16 : decode cX7_fresh 16 = .ok (.aload_n 0, 1) := by decide +kernel
theorem dX7_fresh_17 : decode cX7_fresh 17 = .ok (.getfield 7, 3) := by decide +kernel
theorem dX7_fresh_20 : decode cX7_fresh 20 = .ok (.iload_n 2, 1) := by decide +kernel
theorem dX7_fresh_21 : decode cX7_fresh 21 = .ok (.iconst 2, 1) := by decide +kernel
theorem dX7_fresh_22 : decode cX7_fresh 22 = .ok (.invokestatic 129, 3) := by decide +kernel
theorem dX7_fresh_25 : decode cX7_fresh 25 = .ok (.iaload, 1) := by decide +kernel
theorem dX7_fresh_26 : decode cX7_fresh 26 = .ok (.iadd, 1) := by decide +kernel
theorem dX7_fresh_27 : decode cX7_fresh 27 = .ok (.istore_n 1, 1) := by decide +kernel
theorem dX7_fresh_28 : decode cX7_fresh 28 = .ok (.iinc 2 1, 3) := by decide +kernel
theorem dX7_fresh_31 : decode cX7_fresh 31 = .ok (.goto (-27), 3) := by decide +kernel
theorem dX7_fresh_34 : decode cX7_fresh 34 = .ok (.iload_n 1, 1) := by decide +kernel
theorem dX7_fresh_35 : decode cX7_fresh 35 = .ok (.ifCond .ne 7, 3) := by decide +kernel
theorem dX7_fresh_38 : decode cX7_fresh 38 = .ok (.dconst 1, 1) := by decide +kernel
theorem dX7_fresh_39 : decode cX7_fresh 39 = .ok (.goto 13, 3) := by decide +kernel
theorem dX7_fresh_42 : decode cX7_fresh 42 = .ok (.iload_n 1, 1) := by decide +kernel
theorem dX7_fresh_43 : decode cX7_fresh 43 = .ok (.aload_n 0, 1) := by decide +kernel
theorem dX7_fresh_44 : decode cX7_fresh 44 = .ok (.invokevirtual 168, 3) := by decide +kernel
theorem dX7_fresh_47 : decode cX7_fresh 47 = .ok (.isub, 1) := by decide +kernel
theorem dX7_fresh_48 : decode cX7_fresh 48 = .ok (.i2d, 1) := by decide +kernel
theorem dX7_fresh_49 : decode cX7_fresh 49 = .ok (.iload_n 1, 1) := by decide +kernel
theorem dX7_fresh_50 : decode cX7_fresh 50 = .ok (.i2d, 1) := by decide +kernel
theorem dX7_fresh_51 : decode cX7_fresh 51 = .ok (.ddiv, 1) := by decide +kernel
theorem dX7_fresh_52 : decode cX7_fresh 52 = .ok (.dreturn, 1) := by decide +kernel
theorem dX7_freshShare_0 : decode cX7_freshShare 0 = .ok (.aload_n 0, 1) := by decide +kernel
theorem dX7_freshShare_1 : decode cX7_freshShare 1 = .ok (.iconst 0, 1) := by decide +kernel
theorem dX7_freshShare_2 : decode cX7_freshShare 2 = .ok (.putfield 38, 3) := by decide +kernel
theorem dX7_freshShare_5 : decode cX7_freshShare 5 = .ok (.aload_n 0, 1) := by decide +kernel
theorem dX7_freshShare_6 : decode cX7_freshShare 6 = .ok (.invokevirtual 189, 3) := by decide +kernel
theorem dX7_freshShare_9 : decode cX7_freshShare 9 = .ok (.dreturn, 1) := by decide +kernel
theorem dX7_bitsOf_0 : decode cX7_bitsOf 0 = .ok (.dload_n 0, 1) := by decide +kernel
theorem dX7_bitsOf_1 : decode cX7_bitsOf 1 = .ok (.dconst 0, 1) := by decide +kernel
theorem dX7_bitsOf_2 : decode cX7_bitsOf 2 = .ok (.dcmp .l, 1) := by decide +kernel
theorem dX7_bitsOf_3 : decode cX7_bitsOf 3 = .ok (.ifCond .ne 5, 3) := by decide +kernel
theorem dX7_bitsOf_6 : decode cX7_bitsOf 6 = .ok (.lconst 0, 1) := by decide +kernel
theorem dX7_bitsOf_7 : decode cX7_bitsOf 7 = .ok (.lreturn, 1) := by decide +kernel
theorem dX7_bitsOf_8 : decode cX7_bitsOf 8 = .ok (.ldc2_w 193, 3) := by decide +kernel
theorem dX7_bitsOf_11 : decode cX7_bitsOf 11 = .ok (.lstore_n 2, 1) := by decide +kernel
theorem dX7_bitsOf_12 : decode cX7_bitsOf 12 = .ok (.dload_n 0, 1) := by decide +kernel
theorem dX7_bitsOf_13 : decode cX7_bitsOf 13 = .ok (.dstore 4, 2) := by decide +kernel
theorem dX7_bitsOf_15 : decode cX7_bitsOf 15 = .ok (.dload 4, 2) := by decide +kernel
theorem dX7_bitsOf_17 : decode cX7_bitsOf 17 = .ok (.dconst 1, 1) := by decide +kernel
theorem dX7_bitsOf_18 : decode cX7_bitsOf 18 = .ok (.dcmp .g, 1) := by decide +kernel
theorem dX7_bitsOf_19 : decode cX7_bitsOf 19 = .ok (.ifCond .ge 18, 3) := by decide +kernel
theorem dX7_bitsOf_22 : decode cX7_bitsOf 22 = .ok (.dload 4, 2) := by decide +kernel
theorem dX7_bitsOf_24 : decode cX7_bitsOf 24 = .ok (.ldc2_w 195, 3) := by decide +kernel
theorem dX7_bitsOf_27 : decode cX7_bitsOf 27 = .ok (.dmul, 1) := by decide +kernel
theorem dX7_bitsOf_28 : decode cX7_bitsOf 28 = .ok (.dstore 4, 2) := by decide +kernel
theorem dX7_bitsOf_30 : decode cX7_bitsOf 30 = .ok (.lload_n 2, 1) := by decide +kernel
theorem dX7_bitsOf_31 : decode cX7_bitsOf 31 = .ok (.lconst 1, 1) := by decide +kernel
theorem dX7_bitsOf_32 : decode cX7_bitsOf 32 = .ok (.lsub, 1) := by decide +kernel
theorem dX7_bitsOf_33 : decode cX7_bitsOf 33 = .ok (.lstore_n 2, 1) := by decide +kernel
theorem dX7_bitsOf_34 : decode cX7_bitsOf 34 = .ok (.goto (-19), 3) := by decide +kernel
theorem dX7_bitsOf_37 : decode cX7_bitsOf 37 = .ok (.lload_n 2, 1) := by decide +kernel
theorem dX7_bitsOf_38 : decode cX7_bitsOf 38 = .ok (.ldc2_w 197, 3) := by decide +kernel
theorem dX7_bitsOf_41 : decode cX7_bitsOf 41 = .ok (.lmul, 1) := by decide +kernel
theorem dX7_bitsOf_42 : decode cX7_bitsOf 42 = .ok (.dload 4, 2) := by decide +kernel
theorem dX7_bitsOf_44 : decode cX7_bitsOf 44 = .ok (.dconst 1, 1) := by decide +kernel
theorem dX7_bitsOf_45 : decode cX7_bitsOf 45 = .ok (.dsub, 1) := by decide +kernel
theorem dX7_bitsOf_46 : decode cX7_bitsOf 46 = .ok (.ldc2_w 199, 3) := by decide +kernel
theorem dX7_bitsOf_49 : decode cX7_bitsOf 49 = .ok (.dmul, 1) := by decide +kernel
theorem dX7_bitsOf_50 : decode cX7_bitsOf 50 = .ok (.d2l, 1) := by decide +kernel
theorem dX7_bitsOf_51 : decode cX7_bitsOf 51 = .ok (.ladd, 1) := by decide +kernel
theorem dX7_bitsOf_52 : decode cX7_bitsOf 52 = .ok (.lreturn, 1) := by decide +kernel
theorem dX7_digestOne_0 : decode cX7_digestOne 0 = .ok (.aload_n 0, 1) := by decide +kernel
theorem dX7_digestOne_1 : decode cX7_digestOne 1 = .ok (.ldc2_w 201, 3) := by decide +kernel
theorem dX7_digestOne_4 : decode cX7_digestOne 4 = .ok (.aload_n 0, 1) := by decide +kernel
theorem dX7_digestOne_5 : decode cX7_digestOne 5 = .ok (.getfield 203, 3) := by decide +kernel
theorem dX7_digestOne_8 : decode cX7_digestOne 8 = .ok (.lmul, 1) := by decide +kernel
theorem dX7_digestOne_9 : decode cX7_digestOne 9 = .ok (.lload_n 1, 1) := by decide +kernel
theorem dX7_digestOne_10 : decode cX7_digestOne 10 = .ok (.ladd, 1) := by decide +kernel
theorem dX7_digestOne_11 : decode cX7_digestOne 11 = .ok (.putfield 203, 3) := by decide +kernel
theorem dX7_digestOne_14 : decode cX7_digestOne 14 = .ok (.return_, 1) := by decide +kernel
theorem dX7_someYear_0 : decode cX7_someYear 0 = .ok (.iload_n 0, 1) := by decide +kernel
theorem dX7_someYear_1 : decode cX7_someYear 1 = .ok (.ifCond .ne 7, 3) := by decide +kernel
theorem dX7_someYear_4 : decode cX7_someYear 4 = .ok (.iconst 0, 1) := by decide +kernel
theorem dX7_someYear_5 : decode cX7_someYear 5 = .ok (.goto 16, 3) := by decide +kernel
theorem dX7_someYear_8 : decode cX7_someYear 8 = .ok (.iload_n 0, 1) := by decide +kernel
theorem dX7_someYear_9 : decode cX7_someYear 9 = .ok (.iconst 1, 1) := by decide +kernel
theorem dX7_someYear_10 : decode cX7_someYear 10 = .ok (.if_icmp .ne 8, 3) := by decide +kernel
theorem dX7_someYear_13 : decode cX7_someYear 13 = .ok (.bipush 100, 2) := by decide +kernel
theorem dX7_someYear_15 : decode cX7_someYear 15 = .ok (.goto 6, 3) := by decide +kernel
theorem dX7_someYear_18 : decode cX7_someYear 18 = .ok (.sipush 777, 3) := by decide +kernel
theorem dX7_someYear_21 : decode cX7_someYear 21 = .ok (.ireturn, 1) := by decide +kernel
theorem dX7_digestFeast_0 : decode cX7_digestFeast 0 = .ok (.iconst 0, 1) := by decide +kernel
theorem dX7_digestFeast_1 : decode cX7_digestFeast 1 = .ok (.istore_n 2, 1) := by decide +kernel
theorem dX7_digestFeast_2 : decode cX7_digestFeast 2 = .ok (.iload_n 2, 1) := by decide +kernel
theorem dX7_digestFeast_3 : decode cX7_digestFeast 3 = .ok (.iconst 4, 1) := by decide +kernel
theorem dX7_digestFeast_4 : decode cX7_digestFeast 4 = .ok (.if_icmp .ge 20, 3) := by decide +kernel
theorem dX7_digestFeast_7 : decode cX7_digestFeast 7 = .ok (.aload_n 0, 1) := by decide +kernel
theorem dX7_digestFeast_8 : decode cX7_digestFeast 8 = .ok (.aload_n 0, 1) := by decide +kernel
theorem dX7_digestFeast_9 : decode cX7_digestFeast 9 = .ok (.iload_n 1, 1) := by decide +kernel
theorem dX7_digestFeast_10 : decode cX7_digestFeast 10 = .ok (.iload_n 2, 1) := by decide +kernel
theorem dX7_digestFeast_11 : decode cX7_digestFeast 11 = .ok (.invokevirtual 145, 3) := by decide +kernel
theorem dX7_digestFeast_14 : decode cX7_digestFeast 14 = .ok (.i2l, 1) := by decide +kernel
theorem dX7_digestFeast_15 : decode cX7_digestFeast 15 = .ok (.invokevirtual 207, 3) := by decide +kernel
theorem dX7_digestFeast_18 : decode cX7_digestFeast 18 = .ok (.iinc 2 1, 3) := by decide +kernel
theorem dX7_digestFeast_21 : decode cX7_digestFeast 21 = .ok (.goto (-19), 3) := by decide +kernel
theorem dX7_digestFeast_24 : decode cX7_digestFeast 24 = .ok (.iconst 0, 1) := by decide +kernel
theorem dX7_digestFeast_25 : decode cX7_digestFeast 25 = .ok (.istore_n 2, 1) := by decide +kernel
theorem dX7_digestFeast_26 : decode cX7_digestFeast 26 = .ok (.iload_n 2, 1) := by decide +kernel
theorem dX7_digestFeast_27 : decode cX7_digestFeast 27 = .ok (.iconst 3, 1) := by decide +kernel
theorem dX7_digestFeast_28 : decode cX7_digestFeast 28 = .ok (.if_icmp .ge 68, 3) := by decide +kernel
theorem dX7_digestFeast_31 : decode cX7_digestFeast 31 = .ok (.iconst 0, 1) := by decide +kernel
theorem dX7_digestFeast_32 : decode cX7_digestFeast 32 = .ok (.istore_n 3, 1) := by decide +kernel
theorem dX7_digestFeast_33 : decode cX7_digestFeast 33 = .ok (.iload_n 3, 1) := by decide +kernel
theorem dX7_digestFeast_34 : decode cX7_digestFeast 34 = .ok (.iconst 3, 1) := by decide +kernel
theorem dX7_digestFeast_35 : decode cX7_digestFeast 35 = .ok (.if_icmp .ge 41, 3) := by decide +kernel
theorem dX7_digestFeast_38 : decode cX7_digestFeast 38 = .ok (.aload_n 0, 1) := by decide +kernel
theorem dX7_digestFeast_39 : decode cX7_digestFeast 39 = .ok (.aload_n 0, 1) := by decide +kernel
theorem dX7_digestFeast_40 : decode cX7_digestFeast 40 = .ok (.iload_n 1, 1) := by decide +kernel
theorem dX7_digestFeast_41 : decode cX7_digestFeast 41 = .ok (.iload_n 2, 1) := by decide +kernel
theorem dX7_digestFeast_42 : decode cX7_digestFeast 42 = .ok (.invokestatic 211, 3) := by decide +kernel
theorem dX7_digestFeast_45 : decode cX7_digestFeast 45 = .ok (.iload_n 3, 1) := by decide +kernel
theorem dX7_digestFeast_46 : decode cX7_digestFeast 46 = .ok (.iconst 1, 1) := by decide +kernel
theorem dX7_digestFeast_47 : decode cX7_digestFeast 47 = .ok (.invokevirtual 148, 3) := by decide +kernel
theorem dX7_digestFeast_50 : decode cX7_digestFeast 50 = .ok (.i2l, 1) := by decide +kernel
theorem dX7_digestFeast_51 : decode cX7_digestFeast 51 = .ok (.invokevirtual 207, 3) := by decide +kernel
theorem dX7_digestFeast_54 : decode cX7_digestFeast 54 = .ok (.aload_n 0, 1) := by decide +kernel
theorem dX7_digestFeast_55 : decode cX7_digestFeast 55 = .ok (.aload_n 0, 1) := by decide +kernel
theorem dX7_digestFeast_56 : decode cX7_digestFeast 56 = .ok (.iload_n 1, 1) := by decide +kernel
theorem dX7_digestFeast_57 : decode cX7_digestFeast 57 = .ok (.iload_n 2, 1) := by decide +kernel
theorem dX7_digestFeast_58 : decode cX7_digestFeast 58 = .ok (.invokestatic 211, 3) := by decide +kernel
theorem dX7_digestFeast_61 : decode cX7_digestFeast 61 = .ok (.iload_n 3, 1) := by decide +kernel
theorem dX7_digestFeast_62 : decode cX7_digestFeast 62 = .ok (.iconst 0, 1) := by decide +kernel
theorem dX7_digestFeast_63 : decode cX7_digestFeast 63 = .ok (.invokevirtual 148, 3) := by decide +kernel
theorem dX7_digestFeast_66 : decode cX7_digestFeast 66 = .ok (.i2l, 1) := by decide +kernel
theorem dX7_digestFeast_67 : decode cX7_digestFeast 67 = .ok (.invokevirtual 207, 3) := by decide +kernel
theorem dX7_digestFeast_70 : decode cX7_digestFeast 70 = .ok (.iinc 3 1, 3) := by decide +kernel
theorem dX7_digestFeast_73 : decode cX7_digestFeast 73 = .ok (.goto (-40), 3) := by decide +kernel
theorem dX7_digestFeast_76 : decode cX7_digestFeast 76 = .ok (.aload_n 0, 1) := by decide +kernel
theorem dX7_digestFeast_77 : decode cX7_digestFeast 77 = .ok (.aload_n 0, 1) := by decide +kernel
theorem dX7_digestFeast_78 : decode cX7_digestFeast 78 = .ok (.iload_n 1, 1) := by decide +kernel
theorem dX7_digestFeast_79 : decode cX7_digestFeast 79 = .ok (.iload_n 2, 1) := by decide +kernel
theorem dX7_digestFeast_80 : decode cX7_digestFeast 80 = .ok (.invokestatic 211, 3) := by decide +kernel
theorem dX7_digestFeast_83 : decode cX7_digestFeast 83 = .ok (.invokevirtual 152, 3) := by decide +kernel
theorem dX7_digestFeast_86 : decode cX7_digestFeast 86 = .ok (.i2l, 1) := by decide +kernel
theorem dX7_digestFeast_87 : decode cX7_digestFeast 87 = .ok (.invokevirtual 207, 3) := by decide +kernel
theorem dX7_digestFeast_90 : decode cX7_digestFeast 90 = .ok (.iinc 2 1, 3) := by decide +kernel
theorem dX7_digestFeast_93 : decode cX7_digestFeast 93 = .ok (.goto (-67), 3) := by decide +kernel
theorem dX7_digestFeast_96 : decode cX7_digestFeast 96 = .ok (.return_, 1) := by decide +kernel
theorem dX7_digest_0 : decode cX7_digest 0 = .ok (.aload_n 0, 1) := by decide +kernel
theorem dX7_digest_1 : decode cX7_digest 1 = .ok (.iconst 0, 1) := by decide +kernel
theorem dX7_digest_2 : decode cX7_digest 2 = .ok (.putfield 38, 3) := by decide +kernel
theorem dX7_digest_5 : decode cX7_digest 5 = .ok (.aload_n 0, 1) := by decide +kernel
theorem dX7_digest_6 : decode cX7_digest 6 = .ok (.ldc2_w 214, 3) := by decide +kernel
theorem dX7_digest_9 : decode cX7_digest 9 = .ok (.putfield 203, 3) := by decide +kernel
theorem dX7_digest_12 : decode cX7_digest 12 = .ok (.iconst 0, 1) := by decide +kernel
theorem dX7_digest_13 : decode cX7_digest 13 = .ok (.istore_n 1, 1) := by decide +kernel
theorem dX7_digest_14 : decode cX7_digest 14 = .ok (.iload_n 1, 1) := by decide +kernel
theorem dX7_digest_15 : decode cX7_digest 15 = .ok (.bipush 8, 2) := by decide +kernel
theorem dX7_digest_17 : decode cX7_digest 17 = .ok (.if_icmp .ge 19, 3) := by decide +kernel
theorem dX7_digest_20 : decode cX7_digest 20 = .ok (.aload_n 0, 1) := by decide +kernel
theorem dX7_digest_21 : decode cX7_digest 21 = .ok (.aload_n 0, 1) := by decide +kernel
theorem dX7_digest_22 : decode cX7_digest 22 = .ok (.iload_n 1, 1) := by decide +kernel
theorem dX7_digest_23 : decode cX7_digest 23 = .ok (.invokevirtual 171, 3) := by decide +kernel
theorem dX7_digest_26 : decode cX7_digest 26 = .ok (.i2l, 1) := by decide +kernel
theorem dX7_digest_27 : decode cX7_digest 27 = .ok (.invokevirtual 207, 3) := by decide +kernel
theorem dX7_digest_30 : decode cX7_digest 30 = .ok (.iinc 1 1, 3) := by decide +kernel
theorem dX7_digest_33 : decode cX7_digest 33 = .ok (.goto (-19), 3) := by decide +kernel
theorem dX7_digest_36 : decode cX7_digest 36 = .ok (.iconst 0, 1) := by decide +kernel
theorem dX7_digest_37 : decode cX7_digest 37 = .ok (.istore_n 1, 1) := by decide +kernel
theorem dX7_digest_38 : decode cX7_digest 38 = .ok (.iload_n 1, 1) := by decide +kernel
theorem dX7_digest_39 : decode cX7_digest 39 = .ok (.aload_n 0, 1) := by decide +kernel
theorem dX7_digest_40 : decode cX7_digest 40 = .ok (.getfield 7, 3) := by decide +kernel
theorem dX7_digest_43 : decode cX7_digest 43 = .ok (.iconst 0, 1) := by decide +kernel
theorem dX7_digest_44 : decode cX7_digest 44 = .ok (.iaload, 1) := by decide +kernel
theorem dX7_digest_45 : decode cX7_digest 45 = .ok (.if_icmp .ge 14, 3) := by decide +kernel
theorem dX7_digest_48 : decode cX7_digest 48 = .ok (.aload_n 0, 1) := by decide +kernel
theorem dX7_digest_49 : decode cX7_digest 49 = .ok (.iload_n 1, 1) := by decide +kernel
theorem dX7_digest_50 : decode cX7_digest 50 = .ok (.invokevirtual 216, 3) := by decide +kernel
theorem dX7_digest_53 : decode cX7_digest 53 = .ok (.iinc 1 1, 3) := by decide +kernel
theorem dX7_digest_56 : decode cX7_digest 56 = .ok (.goto (-18), 3) := by decide +kernel
theorem dX7_digest_59 : decode cX7_digest 59 = .ok (.iconst 0, 1) := by decide +kernel
theorem dX7_digest_60 : decode cX7_digest 60 = .ok (.istore_n 1, 1) := by decide +kernel
theorem dX7_digest_61 : decode cX7_digest 61 = .ok (.iload_n 1, 1) := by decide +kernel
theorem dX7_digest_62 : decode cX7_digest 62 = .ok (.iconst 3, 1) := by decide +kernel
theorem dX7_digest_63 : decode cX7_digest 63 = .ok (.if_icmp .ge 49, 3) := by decide +kernel
theorem dX7_digest_66 : decode cX7_digest 66 = .ok (.aload_n 0, 1) := by decide +kernel
theorem dX7_digest_67 : decode cX7_digest 67 = .ok (.aload_n 0, 1) := by decide +kernel
theorem dX7_digest_68 : decode cX7_digest 68 = .ok (.iload_n 1, 1) := by decide +kernel
theorem dX7_digest_69 : decode cX7_digest 69 = .ok (.invokestatic 211, 3) := by decide +kernel
theorem dX7_digest_72 : decode cX7_digest 72 = .ok (.invokevirtual 159, 3) := by decide +kernel
theorem dX7_digest_75 : decode cX7_digest 75 = .ok (.i2l, 1) := by decide +kernel
theorem dX7_digest_76 : decode cX7_digest 76 = .ok (.invokevirtual 207, 3) := by decide +kernel
theorem dX7_digest_79 : decode cX7_digest 79 = .ok (.iconst 0, 1) := by decide +kernel
theorem dX7_digest_80 : decode cX7_digest 80 = .ok (.istore_n 2, 1) := by decide +kernel
theorem dX7_digest_81 : decode cX7_digest 81 = .ok (.iload_n 2, 1) := by decide +kernel
theorem dX7_digest_82 : decode cX7_digest 82 = .ok (.iconst 3, 1) := by decide +kernel
theorem dX7_digest_83 : decode cX7_digest 83 = .ok (.if_icmp .ge 23, 3) := by decide +kernel
theorem dX7_digest_86 : decode cX7_digest 86 = .ok (.aload_n 0, 1) := by decide +kernel
theorem dX7_digest_87 : decode cX7_digest 87 = .ok (.aload_n 0, 1) := by decide +kernel
theorem dX7_digest_88 : decode cX7_digest 88 = .ok (.iload_n 1, 1) := by decide +kernel
theorem dX7_digest_89 : decode cX7_digest 89 = .ok (.invokestatic 211, 3) := by decide +kernel
theorem dX7_digest_92 : decode cX7_digest 92 = .ok (.iload_n 2, 1) := by decide +kernel
theorem dX7_digest_93 : decode cX7_digest 93 = .ok (.invokevirtual 186, 3) := by decide +kernel
theorem dX7_digest_96 : decode cX7_digest 96 = .ok (.i2l, 1) := by decide +kernel
theorem dX7_digest_97 : decode cX7_digest 97 = .ok (.invokevirtual 207, 3) := by decide +kernel
theorem dX7_digest_100 : decode cX7_digest 100 = .ok (.iinc 2 1, 3) := by decide +kernel
theorem dX7_digest_103 : decode cX7_digest 103 = .ok (.goto (-22), 3) := by decide +kernel
theorem dX7_digest_106 : decode cX7_digest 106 = .ok (.iinc 1 1, 3) := by decide +kernel
theorem dX7_digest_109 : decode cX7_digest 109 = .ok (.goto (-48), 3) := by decide +kernel
theorem dX7_digest_112 : decode cX7_digest 112 = .ok (.iconst 0, 1) := by decide +kernel
theorem dX7_digest_113 : decode cX7_digest 113 = .ok (.istore_n 1, 1) := by decide +kernel
theorem dX7_digest_114 : decode cX7_digest 114 = .ok (.iload_n 1, 1) := by decide +kernel
theorem dX7_digest_115 : decode cX7_digest 115 = .ok (.aload_n 0, 1) := by decide +kernel
theorem dX7_digest_116 : decode cX7_digest 116 = .ok (.getfield 7, 3) := by decide +kernel
theorem dX7_digest_119 : decode cX7_digest 119 = .ok (.bipush 45, 2) := by decide +kernel
theorem dX7_digest_121 : decode cX7_digest 121 = .ok (.iaload, 1) := by decide +kernel
theorem dX7_digest_122 : decode cX7_digest 122 = .ok (.if_icmp .ge 34, 3) := by decide +kernel
theorem dX7_digest_125 : decode cX7_digest 125 = .ok (.iconst 0, 1) := by decide +kernel
theorem dX7_digest_126 : decode cX7_digest 126 = .ok (.istore_n 2, 1) := by decide +kernel
theorem dX7_digest_127 : decode cX7_digest 127 = .ok (.iload_n 2, 1) := by decide +kernel
theorem dX7_digest_128 : decode cX7_digest 128 = .ok (.bipush 14, 2) := by decide +kernel
theorem dX7_digest_130 : decode cX7_digest 130 = .ok (.if_icmp .ge 20, 3) := by decide +kernel
theorem dX7_digest_133 : decode cX7_digest 133 = .ok (.aload_n 0, 1) := by decide +kernel
theorem dX7_digest_134 : decode cX7_digest 134 = .ok (.aload_n 0, 1) := by decide +kernel
theorem dX7_digest_135 : decode cX7_digest 135 = .ok (.iload_n 1, 1) := by decide +kernel
theorem dX7_digest_136 : decode cX7_digest 136 = .ok (.iload_n 2, 1) := by decide +kernel
theorem dX7_digest_137 : decode cX7_digest 137 = .ok (.invokevirtual 165, 3) := by decide +kernel
theorem dX7_digest_140 : decode cX7_digest 140 = .ok (.i2l, 1) := by decide +kernel
theorem dX7_digest_141 : decode cX7_digest 141 = .ok (.invokevirtual 207, 3) := by decide +kernel
theorem dX7_digest_144 : decode cX7_digest 144 = .ok (.iinc 2 1, 3) := by decide +kernel
theorem dX7_digest_147 : decode cX7_digest 147 = .ok (.goto (-20), 3) := by decide +kernel
theorem dX7_digest_150 : decode cX7_digest 150 = .ok (.iinc 1 1, 3) := by decide +kernel
theorem dX7_digest_153 : decode cX7_digest 153 = .ok (.goto (-39), 3) := by decide +kernel
theorem dX7_digest_156 : decode cX7_digest 156 = .ok (.aload_n 0, 1) := by decide +kernel
theorem dX7_digest_157 : decode cX7_digest 157 = .ok (.aload_n 0, 1) := by decide +kernel
theorem dX7_digest_158 : decode cX7_digest 158 = .ok (.bipush 20, 2) := by decide +kernel
theorem dX7_digest_160 : decode cX7_digest 160 = .ok (.invokevirtual 177, 3) := by decide +kernel
theorem dX7_digest_163 : decode cX7_digest 163 = .ok (.i2l, 1) := by decide +kernel
theorem dX7_digest_164 : decode cX7_digest 164 = .ok (.invokevirtual 207, 3) := by decide +kernel
theorem dX7_digest_167 : decode cX7_digest 167 = .ok (.aload_n 0, 1) := by decide +kernel
theorem dX7_digest_168 : decode cX7_digest 168 = .ok (.aload_n 0, 1) := by decide +kernel
theorem dX7_digest_169 : decode cX7_digest 169 = .ok (.iconst 1, 1) := by decide +kernel
theorem dX7_digest_170 : decode cX7_digest 170 = .ok (.bipush 100, 2) := by decide +kernel
theorem dX7_digest_172 : decode cX7_digest 172 = .ok (.invokevirtual 183, 3) := by decide +kernel
theorem dX7_digest_175 : decode cX7_digest 175 = .ok (.i2l, 1) := by decide +kernel
theorem dX7_digest_176 : decode cX7_digest 176 = .ok (.invokevirtual 207, 3) := by decide +kernel
theorem dX7_digest_179 : decode cX7_digest 179 = .ok (.aload_n 0, 1) := by decide +kernel
theorem dX7_digest_180 : decode cX7_digest 180 = .ok (.getfield 7, 3) := by decide +kernel
theorem dX7_digest_183 : decode cX7_digest 183 = .ok (.iconst 0, 1) := by decide +kernel
theorem dX7_digest_184 : decode cX7_digest 184 = .ok (.iaload, 1) := by decide +kernel
theorem dX7_digest_185 : decode cX7_digest 185 = .ok (.ifCond .le 33, 3) := by decide +kernel
theorem dX7_digest_188 : decode cX7_digest 188 = .ok (.aload_n 0, 1) := by decide +kernel
theorem dX7_digest_189 : decode cX7_digest 189 = .ok (.aload_n 0, 1) := by decide +kernel
theorem dX7_digest_190 : decode cX7_digest 190 = .ok (.iconst 0, 1) := by decide +kernel
theorem dX7_digest_191 : decode cX7_digest 191 = .ok (.bipush 50, 2) := by decide +kernel
theorem dX7_digest_193 : decode cX7_digest 193 = .ok (.bipush 20, 2) := by decide +kernel
theorem dX7_digest_195 : decode cX7_digest 195 = .ok (.iconst 0, 1) := by decide +kernel
theorem dX7_digest_196 : decode cX7_digest 196 = .ok (.invokevirtual 174, 3) := by decide +kernel
theorem dX7_digest_199 : decode cX7_digest 199 = .ok (.i2l, 1) := by decide +kernel
theorem dX7_digest_200 : decode cX7_digest 200 = .ok (.invokevirtual 207, 3) := by decide +kernel
theorem dX7_digest_203 : decode cX7_digest 203 = .ok (.aload_n 0, 1) := by decide +kernel
theorem dX7_digest_204 : decode cX7_digest 204 = .ok (.aload_n 0, 1) := by decide +kernel
theorem dX7_digest_205 : decode cX7_digest 205 = .ok (.iconst 0, 1) := by decide +kernel
theorem dX7_digest_206 : decode cX7_digest 206 = .ok (.bipush 50, 2) := by decide +kernel
theorem dX7_digest_208 : decode cX7_digest 208 = .ok (.bipush 20, 2) := by decide +kernel
theorem dX7_digest_210 : decode cX7_digest 210 = .ok (.iconst 1, 1) := by decide +kernel
theorem dX7_digest_211 : decode cX7_digest 211 = .ok (.invokevirtual 174, 3) := by decide +kernel
theorem dX7_digest_214 : decode cX7_digest 214 = .ok (.i2l, 1) := by decide +kernel
theorem dX7_digest_215 : decode cX7_digest 215 = .ok (.invokevirtual 207, 3) := by decide +kernel
theorem dX7_digest_218 : decode cX7_digest 218 = .ok (.aload_n 0, 1) := by decide +kernel
theorem dX7_digest_219 : decode cX7_digest 219 = .ok (.aload_n 0, 1) := by decide +kernel
theorem dX7_digest_220 : decode cX7_digest 220 = .ok (.invokevirtual 189, 3) := by decide +kernel
theorem dX7_digest_223 : decode cX7_digest 223 = .ok (.invokestatic 219, 3) := by decide +kernel
theorem dX7_digest_226 : decode cX7_digest 226 = .ok (.invokevirtual 207, 3) := by decide +kernel
theorem dX7_digest_229 : decode cX7_digest 229 = .ok (.aload_n 0, 1) := by decide +kernel
theorem dX7_digest_230 : decode cX7_digest 230 = .ok (.aload_n 0, 1) := by decide +kernel
theorem dX7_digest_231 : decode cX7_digest 231 = .ok (.getfield 77, 3) := by decide +kernel
theorem dX7_digest_234 : decode cX7_digest 234 = .ok (.i2l, 1) := by decide +kernel
theorem dX7_digest_235 : decode cX7_digest 235 = .ok (.invokevirtual 207, 3) := by decide +kernel
theorem dX7_digest_238 : decode cX7_digest 238 = .ok (.iconst 0, 1) := by decide +kernel
theorem dX7_digest_239 : decode cX7_digest 239 = .ok (.istore_n 1, 1) := by decide +kernel
theorem dX7_digest_240 : decode cX7_digest 240 = .ok (.iload_n 1, 1) := by decide +kernel
theorem dX7_digest_241 : decode cX7_digest 241 = .ok (.aload_n 0, 1) := by decide +kernel
theorem dX7_digest_242 : decode cX7_digest 242 = .ok (.getfield 77, 3) := by decide +kernel
theorem dX7_digest_245 : decode cX7_digest 245 = .ok (.if_icmp .ge 20, 3) := by decide +kernel
theorem dX7_digest_248 : decode cX7_digest 248 = .ok (.aload_n 0, 1) := by decide +kernel
theorem dX7_digest_249 : decode cX7_digest 249 = .ok (.aload_n 0, 1) := by decide +kernel
theorem dX7_digest_250 : decode cX7_digest 250 = .ok (.getfield 16, 3) := by decide +kernel
theorem dX7_digest_253 : decode cX7_digest 253 = .ok (.iload_n 1, 1) := by decide +kernel
theorem dX7_digest_254 : decode cX7_digest 254 = .ok (.iaload, 1) := by decide +kernel
theorem dX7_digest_255 : decode cX7_digest 255 = .ok (.i2l, 1) := by decide +kernel
theorem dX7_digest_256 : decode cX7_digest 256 = .ok (.invokevirtual 207, 3) := by decide +kernel
theorem dX7_digest_259 : decode cX7_digest 259 = .ok (.iinc 1 1, 3) := by decide +kernel
theorem dX7_digest_262 : decode cX7_digest 262 = .ok (.goto (-22), 3) := by decide +kernel
theorem dX7_digest_265 : decode cX7_digest 265 = .ok (.aload_n 0, 1) := by decide +kernel
theorem dX7_digest_266 : decode cX7_digest 266 = .ok (.getfield 203, 3) := by decide +kernel
theorem dX7_digest_269 : decode cX7_digest 269 = .ok (.lreturn, 1) := by decide +kernel
theorem dL_proclaim_0 : decode cL_proclaim 0 = .ok (.aload_n 1, 1) := by decide +kernel
theorem dL_proclaim_1 : decode cL_proclaim 1 = .ok (.iconst 0, 1) := by decide +kernel
theorem dL_proclaim_2 : decode cL_proclaim 2 = .ok (.aload_n 0, 1) := by decide +kernel
theorem dL_proclaim_3 : decode cL_proclaim 3 = .ok (.invokevirtual 7, 3) := by decide +kernel
theorem dL_proclaim_6 : decode cL_proclaim 6 = .ok (.i2l, 1) := by decide +kernel
theorem dL_proclaim_7 : decode cL_proclaim 7 = .ok (.lastore, 1) := by decide +kernel
theorem dL_proclaim_8 : decode cL_proclaim 8 = .ok (.goto 6, 3) := by decide +kernel
theorem dL_proclaim_11 : decode cL_proclaim 11 = .ok (.astore_n 2, 1) := by decide +kernel
theorem dL_proclaim_12 : decode cL_proclaim 12 = .ok (.iconst 1, 1) := by decide +kernel
theorem dL_proclaim_13 : decode cL_proclaim 13 = .ok (.ireturn, 1) := by decide +kernel
theorem dL_proclaim_14 : decode cL_proclaim 14 = .ok (.iconst 0, 1) := by decide +kernel
theorem dL_proclaim_15 : decode cL_proclaim 15 = .ok (.ireturn, 1) := by decide +kernel
theorem dL_forget_0 : decode cL_forget 0 = .ok (.aload_n 1, 1) := by decide +kernel
theorem dL_forget_1 : decode cL_forget 1 = .ok (.iconst 0, 1) := by decide +kernel
theorem dL_forget_2 : decode cL_forget 2 = .ok (.aload_n 0, 1) := by decide +kernel
theorem dL_forget_3 : decode cL_forget 3 = .ok (.invokevirtual 15, 3) := by decide +kernel
theorem dL_forget_6 : decode cL_forget 6 = .ok (.i2l, 1) := by decide +kernel
theorem dL_forget_7 : decode cL_forget 7 = .ok (.lastore, 1) := by decide +kernel
theorem dL_forget_8 : decode cL_forget 8 = .ok (.goto 6, 3) := by decide +kernel
theorem dL_forget_11 : decode cL_forget 11 = .ok (.astore_n 2, 1) := by decide +kernel
theorem dL_forget_12 : decode cL_forget 12 = .ok (.iconst 1, 1) := by decide +kernel
theorem dL_forget_13 : decode cL_forget 13 = .ok (.ireturn, 1) := by decide +kernel
theorem dL_forget_14 : decode cL_forget 14 = .ok (.iconst 0, 1) := by decide +kernel
theorem dL_forget_15 : decode cL_forget 15 = .ok (.ireturn, 1) := by decide +kernel
theorem dL_rank_0 : decode cL_rank 0 = .ok (.aload_n 3, 1) := by decide +kernel
theorem dL_rank_1 : decode cL_rank 1 = .ok (.iconst 0, 1) := by decide +kernel
theorem dL_rank_2 : decode cL_rank 2 = .ok (.aload_n 0, 1) := by decide +kernel
theorem dL_rank_3 : decode cL_rank 3 = .ok (.iload_n 1, 1) := by decide +kernel
theorem dL_rank_4 : decode cL_rank 4 = .ok (.iload_n 2, 1) := by decide +kernel
theorem dL_rank_5 : decode cL_rank 5 = .ok (.invokevirtual 20, 3) := by decide +kernel
theorem dL_rank_8 : decode cL_rank 8 = .ok (.i2l, 1) := by decide +kernel
theorem dL_rank_9 : decode cL_rank 9 = .ok (.lastore, 1) := by decide +kernel
theorem dL_rank_10 : decode cL_rank 10 = .ok (.goto 11, 3) := by decide +kernel
theorem dL_rank_13 : decode cL_rank 13 = .ok (.astore 4, 2) := by decide +kernel
theorem dL_rank_15 : decode cL_rank 15 = .ok (.iconst 1, 1) := by decide +kernel
theorem dL_rank_16 : decode cL_rank 16 = .ok (.ireturn, 1) := by decide +kernel
theorem dL_rank_17 : decode cL_rank 17 = .ok (.astore 4, 2) := by decide +kernel
theorem dL_rank_19 : decode cL_rank 19 = .ok (.iconst 2, 1) := by decide +kernel
theorem dL_rank_20 : decode cL_rank 20 = .ok (.ireturn, 1) := by decide +kernel
theorem dL_rank_21 : decode cL_rank 21 = .ok (.iconst 0, 1) := by decide +kernel
theorem dL_rank_22 : decode cL_rank 22 = .ok (.ireturn, 1) := by decide +kernel
theorem dL_teach_0 : decode cL_teach 0 = .ok (.aload_n 3, 1) := by decide +kernel
theorem dL_teach_1 : decode cL_teach 1 = .ok (.iconst 0, 1) := by decide +kernel
theorem dL_teach_2 : decode cL_teach 2 = .ok (.aload_n 0, 1) := by decide +kernel
theorem dL_teach_3 : decode cL_teach 3 = .ok (.iload_n 1, 1) := by decide +kernel
theorem dL_teach_4 : decode cL_teach 4 = .ok (.iload_n 2, 1) := by decide +kernel
theorem dL_teach_5 : decode cL_teach 5 = .ok (.invokevirtual 26, 3) := by decide +kernel
theorem dL_teach_8 : decode cL_teach 8 = .ok (.i2l, 1) := by decide +kernel
theorem dL_teach_9 : decode cL_teach 9 = .ok (.lastore, 1) := by decide +kernel
theorem dL_teach_10 : decode cL_teach 10 = .ok (.goto 7, 3) := by decide +kernel
theorem dL_teach_13 : decode cL_teach 13 = .ok (.astore 4, 2) := by decide +kernel
theorem dL_teach_15 : decode cL_teach 15 = .ok (.iconst 1, 1) := by decide +kernel
theorem dL_teach_16 : decode cL_teach 16 = .ok (.ireturn, 1) := by decide +kernel
theorem dL_teach_17 : decode cL_teach 17 = .ok (.iconst 0, 1) := by decide +kernel
theorem dL_teach_18 : decode cL_teach 18 = .ok (.ireturn, 1) := by decide +kernel
theorem dL_carve_0 : decode cL_carve 0 = .ok (.aload_n 3, 1) := by decide +kernel
theorem dL_carve_1 : decode cL_carve 1 = .ok (.iconst 0, 1) := by decide +kernel
theorem dL_carve_2 : decode cL_carve 2 = .ok (.aload_n 0, 1) := by decide +kernel
theorem dL_carve_3 : decode cL_carve 3 = .ok (.iload_n 1, 1) := by decide +kernel
theorem dL_carve_4 : decode cL_carve 4 = .ok (.iload_n 2, 1) := by decide +kernel
theorem dL_carve_5 : decode cL_carve 5 = .ok (.invokevirtual 29, 3) := by decide +kernel
theorem dL_carve_8 : decode cL_carve 8 = .ok (.i2l, 1) := by decide +kernel
theorem dL_carve_9 : decode cL_carve 9 = .ok (.lastore, 1) := by decide +kernel
theorem dL_carve_10 : decode cL_carve 10 = .ok (.goto 7, 3) := by decide +kernel
theorem dL_carve_13 : decode cL_carve 13 = .ok (.astore 4, 2) := by decide +kernel
theorem dL_carve_15 : decode cL_carve 15 = .ok (.iconst 1, 1) := by decide +kernel
theorem dL_carve_16 : decode cL_carve 16 = .ok (.ireturn, 1) := by decide +kernel
theorem dL_carve_17 : decode cL_carve 17 = .ok (.iconst 0, 1) := by decide +kernel
theorem dL_carve_18 : decode cL_carve 18 = .ok (.ireturn, 1) := by decide +kernel
theorem dL_burn_0 : decode cL_burn 0 = .ok (.aload_n 2, 1) := by decide +kernel
theorem dL_burn_1 : decode cL_burn 1 = .ok (.iconst 0, 1) := by decide +kernel
theorem dL_burn_2 : decode cL_burn 2 = .ok (.aload_n 0, 1) := by decide +kernel
theorem dL_burn_3 : decode cL_burn 3 = .ok (.iload_n 1, 1) := by decide +kernel
theorem dL_burn_4 : decode cL_burn 4 = .ok (.invokevirtual 32, 3) := by decide +kernel
theorem dL_burn_7 : decode cL_burn 7 = .ok (.i2l, 1) := by decide +kernel
theorem dL_burn_8 : decode cL_burn 8 = .ok (.lastore, 1) := by decide +kernel
theorem dL_burn_9 : decode cL_burn 9 = .ok (.goto 6, 3) := by decide +kernel
theorem dL_burn_12 : decode cL_burn 12 = .ok (.astore_n 3, 1) := by decide +kernel
theorem dL_burn_13 : decode cL_burn 13 = .ok (.iconst 1, 1) := by decide +kernel
theorem dL_burn_14 : decode cL_burn 14 = .ok (.ireturn, 1) := by decide +kernel
theorem dL_burn_15 : decode cL_burn 15 = .ok (.iconst 0, 1) := by decide +kernel
theorem dL_burn_16 : decode cL_burn 16 = .ok (.ireturn, 1) := by decide +kernel
theorem dL_set_0 : decode cL_set 0 = .ok (.aload_n 2, 1) := by decide +kernel
theorem dL_set_1 : decode cL_set 1 = .ok (.iconst 0, 1) := by decide +kernel
theorem dL_set_2 : decode cL_set 2 = .ok (.aload_n 0, 1) := by decide +kernel
theorem dL_set_3 : decode cL_set 3 = .ok (.iload_n 1, 1) := by decide +kernel
theorem dL_set_4 : decode cL_set 4 = .ok (.invokevirtual 36, 3) := by decide +kernel
theorem dL_set_7 : decode cL_set 7 = .ok (.i2l, 1) := by decide +kernel
theorem dL_set_8 : decode cL_set 8 = .ok (.lastore, 1) := by decide +kernel
theorem dL_set_9 : decode cL_set 9 = .ok (.goto 6, 3) := by decide +kernel
theorem dL_set_12 : decode cL_set 12 = .ok (.astore_n 3, 1) := by decide +kernel
theorem dL_set_13 : decode cL_set 13 = .ok (.iconst 1, 1) := by decide +kernel
theorem dL_set_14 : decode cL_set 14 = .ok (.ireturn, 1) := by decide +kernel
theorem dL_set_15 : decode cL_set 15 = .ok (.iconst 0, 1) := by decide +kernel
theorem dL_set_16 : decode cL_set 16 = .ok (.ireturn, 1) := by decide +kernel
theorem dL_append_0 : decode cL_append 0 = .ok (.aload_n 2, 1) := by decide +kernel
theorem dL_append_1 : decode cL_append 1 = .ok (.iconst 0, 1) := by decide +kernel
theorem dL_append_2 : decode cL_append 2 = .ok (.aload_n 0, 1) := by decide +kernel
theorem dL_append_3 : decode cL_append 3 = .ok (.iload_n 1, 1) := by decide +kernel
theorem dL_append_4 : decode cL_append 4 = .ok (.invokevirtual 39, 3) := by decide +kernel
theorem dL_append_7 : decode cL_append 7 = .ok (.i2l, 1) := by decide +kernel
theorem dL_append_8 : decode cL_append 8 = .ok (.lastore, 1) := by decide +kernel
theorem dL_append_9 : decode cL_append 9 = .ok (.goto 9, 3) := by decide +kernel
theorem dL_append_12 : decode cL_append 12 = .ok (.astore_n 3, 1) := by decide +kernel
theorem dL_append_13 : decode cL_append 13 = .ok (.iconst 1, 1) := by decide +kernel
theorem dL_append_14 : decode cL_append 14 = .ok (.ireturn, 1) := by decide +kernel
theorem dL_append_15 : decode cL_append 15 = .ok (.astore_n 3, 1) := by decide +kernel
theorem dL_append_16 : decode cL_append 16 = .ok (.iconst 2, 1) := by decide +kernel
theorem dL_append_17 : decode cL_append 17 = .ok (.ireturn, 1) := by decide +kernel
theorem dL_append_18 : decode cL_append 18 = .ok (.iconst 0, 1) := by decide +kernel
theorem dL_append_19 : decode cL_append 19 = .ok (.ireturn, 1) := by decide +kernel
theorem dL_undo_0 : decode cL_undo 0 = .ok (.aload_n 1, 1) := by decide +kernel
theorem dL_undo_1 : decode cL_undo 1 = .ok (.iconst 0, 1) := by decide +kernel
theorem dL_undo_2 : decode cL_undo 2 = .ok (.aload_n 0, 1) := by decide +kernel
theorem dL_undo_3 : decode cL_undo 3 = .ok (.invokevirtual 42, 3) := by decide +kernel
theorem dL_undo_6 : decode cL_undo 6 = .ok (.i2l, 1) := by decide +kernel
theorem dL_undo_7 : decode cL_undo 7 = .ok (.lastore, 1) := by decide +kernel
theorem dL_undo_8 : decode cL_undo 8 = .ok (.goto 6, 3) := by decide +kernel
theorem dL_undo_11 : decode cL_undo 11 = .ok (.astore_n 2, 1) := by decide +kernel
theorem dL_undo_12 : decode cL_undo 12 = .ok (.iconst 1, 1) := by decide +kernel
theorem dL_undo_13 : decode cL_undo 13 = .ok (.ireturn, 1) := by decide +kernel
theorem dL_undo_14 : decode cL_undo 14 = .ok (.iconst 0, 1) := by decide +kernel
theorem dL_undo_15 : decode cL_undo 15 = .ok (.ireturn, 1) := by decide +kernel
theorem dL_day_0 : decode cL_day 0 = .ok (.aload 4, 2) := by decide +kernel
theorem dL_day_2 : decode cL_day 2 = .ok (.iconst 0, 1) := by decide +kernel
theorem dL_day_3 : decode cL_day 3 = .ok (.aload_n 0, 1) := by decide +kernel
theorem dL_day_4 : decode cL_day 4 = .ok (.iload_n 1, 1) := by decide +kernel
theorem dL_day_5 : decode cL_day 5 = .ok (.iload_n 2, 1) := by decide +kernel
theorem dL_day_6 : decode cL_day 6 = .ok (.iload_n 3, 1) := by decide +kernel
theorem dL_day_7 : decode cL_day 7 = .ok (.invokevirtual 45, 3) := by decide +kernel
theorem dL_day_10 : decode cL_day 10 = .ok (.i2l, 1) := by decide +kernel
theorem dL_day_11 : decode cL_day 11 = .ok (.lastore, 1) := by decide +kernel
theorem dL_day_12 : decode cL_day 12 = .ok (.goto 7, 3) := by decide +kernel
theorem dL_day_15 : decode cL_day 15 = .ok (.astore 5, 2) := by decide +kernel
theorem dL_day_17 : decode cL_day 17 = .ok (.iconst 1, 1) := by decide +kernel
theorem dL_day_18 : decode cL_day 18 = .ok (.ireturn, 1) := by decide +kernel
theorem dL_day_19 : decode cL_day 19 = .ok (.iconst 0, 1) := by decide +kernel
theorem dL_day_20 : decode cL_day 20 = .ok (.ireturn, 1) := by decide +kernel
theorem dL_feast_0 : decode cL_feast 0 = .ok (.aload_n 3, 1) := by decide +kernel
theorem dL_feast_1 : decode cL_feast 1 = .ok (.iconst 0, 1) := by decide +kernel
theorem dL_feast_2 : decode cL_feast 2 = .ok (.aload_n 0, 1) := by decide +kernel
theorem dL_feast_3 : decode cL_feast 3 = .ok (.iload_n 1, 1) := by decide +kernel
theorem dL_feast_4 : decode cL_feast 4 = .ok (.iload_n 2, 1) := by decide +kernel
theorem dL_feast_5 : decode cL_feast 5 = .ok (.invokevirtual 49, 3) := by decide +kernel
theorem dL_feast_8 : decode cL_feast 8 = .ok (.i2l, 1) := by decide +kernel
theorem dL_feast_9 : decode cL_feast 9 = .ok (.lastore, 1) := by decide +kernel
theorem dL_feast_10 : decode cL_feast 10 = .ok (.goto 11, 3) := by decide +kernel
theorem dL_feast_13 : decode cL_feast 13 = .ok (.astore 4, 2) := by decide +kernel
theorem dL_feast_15 : decode cL_feast 15 = .ok (.iconst 1, 1) := by decide +kernel
theorem dL_feast_16 : decode cL_feast 16 = .ok (.ireturn, 1) := by decide +kernel
theorem dL_feast_17 : decode cL_feast 17 = .ok (.astore 4, 2) := by decide +kernel
theorem dL_feast_19 : decode cL_feast 19 = .ok (.iconst 2, 1) := by decide +kernel
theorem dL_feast_20 : decode cL_feast 20 = .ok (.ireturn, 1) := by decide +kernel
theorem dL_feast_21 : decode cL_feast 21 = .ok (.iconst 0, 1) := by decide +kernel
theorem dL_feast_22 : decode cL_feast 22 = .ok (.ireturn, 1) := by decide +kernel
theorem dL_when_0 : decode cL_when 0 = .ok (.aload 5, 2) := by decide +kernel
theorem dL_when_2 : decode cL_when 2 = .ok (.iconst 0, 1) := by decide +kernel
theorem dL_when_3 : decode cL_when 3 = .ok (.aload_n 0, 1) := by decide +kernel
theorem dL_when_4 : decode cL_when 4 = .ok (.iload_n 1, 1) := by decide +kernel
theorem dL_when_5 : decode cL_when 5 = .ok (.iload_n 2, 1) := by decide +kernel
theorem dL_when_6 : decode cL_when 6 = .ok (.iload_n 3, 1) := by decide +kernel
theorem dL_when_7 : decode cL_when 7 = .ok (.iload 4, 2) := by decide +kernel
theorem dL_when_9 : decode cL_when 9 = .ok (.invokevirtual 52, 3) := by decide +kernel
theorem dL_when_12 : decode cL_when 12 = .ok (.i2l, 1) := by decide +kernel
theorem dL_when_13 : decode cL_when 13 = .ok (.lastore, 1) := by decide +kernel
theorem dL_when_14 : decode cL_when 14 = .ok (.goto 11, 3) := by decide +kernel
theorem dL_when_17 : decode cL_when 17 = .ok (.astore 6, 2) := by decide +kernel
theorem dL_when_19 : decode cL_when 19 = .ok (.iconst 1, 1) := by decide +kernel
theorem dL_when_20 : decode cL_when 20 = .ok (.ireturn, 1) := by decide +kernel
theorem dL_when_21 : decode cL_when 21 = .ok (.astore 6, 2) := by decide +kernel
theorem dL_when_23 : decode cL_when 23 = .ok (.iconst 2, 1) := by decide +kernel
theorem dL_when_24 : decode cL_when 24 = .ok (.ireturn, 1) := by decide +kernel
theorem dL_when_25 : decode cL_when 25 = .ok (.iconst 0, 1) := by decide +kernel
theorem dL_when_26 : decode cL_when 26 = .ok (.ireturn, 1) := by decide +kernel
theorem dL_settled_0 : decode cL_settled 0 = .ok (.aload_n 3, 1) := by decide +kernel
theorem dL_settled_1 : decode cL_settled 1 = .ok (.iconst 0, 1) := by decide +kernel
theorem dL_settled_2 : decode cL_settled 2 = .ok (.aload_n 0, 1) := by decide +kernel
theorem dL_settled_3 : decode cL_settled 3 = .ok (.iload_n 1, 1) := by decide +kernel
theorem dL_settled_4 : decode cL_settled 4 = .ok (.iload_n 2, 1) := by decide +kernel
theorem dL_settled_5 : decode cL_settled 5 = .ok (.invokevirtual 56, 3) := by decide +kernel
theorem dL_settled_8 : decode cL_settled 8 = .ok (.i2l, 1) := by decide +kernel
theorem dL_settled_9 : decode cL_settled 9 = .ok (.lastore, 1) := by decide +kernel
theorem dL_settled_10 : decode cL_settled 10 = .ok (.goto 11, 3) := by decide +kernel
theorem dL_settled_13 : decode cL_settled 13 = .ok (.astore 4, 2) := by decide +kernel
theorem dL_settled_15 : decode cL_settled 15 = .ok (.iconst 1, 1) := by decide +kernel
theorem dL_settled_16 : decode cL_settled 16 = .ok (.ireturn, 1) := by decide +kernel
theorem dL_settled_17 : decode cL_settled 17 = .ok (.astore 4, 2) := by decide +kernel
theorem dL_settled_19 : decode cL_settled 19 = .ok (.iconst 2, 1) := by decide +kernel
theorem dL_settled_20 : decode cL_settled 20 = .ok (.ireturn, 1) := by decide +kernel
theorem dL_settled_21 : decode cL_settled 21 = .ok (.iconst 0, 1) := by decide +kernel
theorem dL_settled_22 : decode cL_settled 22 = .ok (.ireturn, 1) := by decide +kernel
theorem dL_quarrels_0 : decode cL_quarrels 0 = .ok (.aload_n 2, 1) := by decide +kernel
theorem dL_quarrels_1 : decode cL_quarrels 1 = .ok (.iconst 0, 1) := by decide +kernel
theorem dL_quarrels_2 : decode cL_quarrels 2 = .ok (.aload_n 0, 1) := by decide +kernel
theorem dL_quarrels_3 : decode cL_quarrels 3 = .ok (.iload_n 1, 1) := by decide +kernel
theorem dL_quarrels_4 : decode cL_quarrels 4 = .ok (.invokevirtual 59, 3) := by decide +kernel
theorem dL_quarrels_7 : decode cL_quarrels 7 = .ok (.i2l, 1) := by decide +kernel
theorem dL_quarrels_8 : decode cL_quarrels 8 = .ok (.lastore, 1) := by decide +kernel
theorem dL_quarrels_9 : decode cL_quarrels 9 = .ok (.goto 6, 3) := by decide +kernel
theorem dL_quarrels_12 : decode cL_quarrels 12 = .ok (.astore_n 3, 1) := by decide +kernel
theorem dL_quarrels_13 : decode cL_quarrels 13 = .ok (.iconst 1, 1) := by decide +kernel
theorem dL_quarrels_14 : decode cL_quarrels 14 = .ok (.ireturn, 1) := by decide +kernel
theorem dL_quarrels_15 : decode cL_quarrels 15 = .ok (.iconst 0, 1) := by decide +kernel
theorem dL_quarrels_16 : decode cL_quarrels 16 = .ok (.ireturn, 1) := by decide +kernel
theorem dL_stick_0 : decode cL_stick 0 = .ok (.aload_n 3, 1) := by decide +kernel
theorem dL_stick_1 : decode cL_stick 1 = .ok (.iconst 0, 1) := by decide +kernel
theorem dL_stick_2 : decode cL_stick 2 = .ok (.aload_n 0, 1) := by decide +kernel
theorem dL_stick_3 : decode cL_stick 3 = .ok (.iload_n 1, 1) := by decide +kernel
theorem dL_stick_4 : decode cL_stick 4 = .ok (.iload_n 2, 1) := by decide +kernel
theorem dL_stick_5 : decode cL_stick 5 = .ok (.invokevirtual 62, 3) := by decide +kernel
theorem dL_stick_8 : decode cL_stick 8 = .ok (.i2l, 1) := by decide +kernel
theorem dL_stick_9 : decode cL_stick 9 = .ok (.lastore, 1) := by decide +kernel
theorem dL_stick_10 : decode cL_stick 10 = .ok (.goto 11, 3) := by decide +kernel
theorem dL_stick_13 : decode cL_stick 13 = .ok (.astore 4, 2) := by decide +kernel
theorem dL_stick_15 : decode cL_stick 15 = .ok (.iconst 1, 1) := by decide +kernel
theorem dL_stick_16 : decode cL_stick 16 = .ok (.ireturn, 1) := by decide +kernel
theorem dL_stick_17 : decode cL_stick 17 = .ok (.astore 4, 2) := by decide +kernel
theorem dL_stick_19 : decode cL_stick 19 = .ok (.iconst 2, 1) := by decide +kernel
theorem dL_stick_20 : decode cL_stick 20 = .ok (.ireturn, 1) := by decide +kernel
theorem dL_stick_21 : decode cL_stick 21 = .ok (.iconst 0, 1) := by decide +kernel
theorem dL_stick_22 : decode cL_stick 22 = .ok (.ireturn, 1) := by decide +kernel
theorem dL_count_0 : decode cL_count 0 = .ok (.aload_n 2, 1) := by decide +kernel
theorem dL_count_1 : decode cL_count 1 = .ok (.iconst 0, 1) := by decide +kernel
theorem dL_count_2 : decode cL_count 2 = .ok (.aload_n 0, 1) := by decide +kernel
theorem dL_count_3 : decode cL_count 3 = .ok (.iload_n 1, 1) := by decide +kernel
theorem dL_count_4 : decode cL_count 4 = .ok (.invokevirtual 65, 3) := by decide +kernel
theorem dL_count_7 : decode cL_count 7 = .ok (.i2l, 1) := by decide +kernel
theorem dL_count_8 : decode cL_count 8 = .ok (.lastore, 1) := by decide +kernel
theorem dL_count_9 : decode cL_count 9 = .ok (.goto 6, 3) := by decide +kernel
theorem dL_count_12 : decode cL_count 12 = .ok (.astore_n 3, 1) := by decide +kernel
theorem dL_count_13 : decode cL_count 13 = .ok (.iconst 1, 1) := by decide +kernel
theorem dL_count_14 : decode cL_count 14 = .ok (.ireturn, 1) := by decide +kernel
theorem dL_count_15 : decode cL_count 15 = .ok (.iconst 0, 1) := by decide +kernel
theorem dL_count_16 : decode cL_count 16 = .ok (.ireturn, 1) := by decide +kernel
theorem dL_range_0 : decode cL_range 0 = .ok (.aload 5, 2) := by decide +kernel
theorem dL_range_2 : decode cL_range 2 = .ok (.iconst 0, 1) := by decide +kernel
theorem dL_range_3 : decode cL_range 3 = .ok (.aload_n 0, 1) := by decide +kernel
theorem dL_range_4 : decode cL_range 4 = .ok (.iload_n 1, 1) := by decide +kernel
theorem dL_range_5 : decode cL_range 5 = .ok (.iload_n 2, 1) := by decide +kernel
theorem dL_range_6 : decode cL_range 6 = .ok (.iload_n 3, 1) := by decide +kernel
theorem dL_range_7 : decode cL_range 7 = .ok (.iload 4, 2) := by decide +kernel
theorem dL_range_9 : decode cL_range 9 = .ok (.invokevirtual 68, 3) := by decide +kernel
theorem dL_range_12 : decode cL_range 12 = .ok (.i2l, 1) := by decide +kernel
theorem dL_range_13 : decode cL_range 13 = .ok (.lastore, 1) := by decide +kernel
theorem dL_range_14 : decode cL_range 14 = .ok (.goto 11, 3) := by decide +kernel
theorem dL_range_17 : decode cL_range 17 = .ok (.astore 6, 2) := by decide +kernel
theorem dL_range_19 : decode cL_range 19 = .ok (.iconst 1, 1) := by decide +kernel
theorem dL_range_20 : decode cL_range 20 = .ok (.ireturn, 1) := by decide +kernel
theorem dL_range_21 : decode cL_range 21 = .ok (.astore 6, 2) := by decide +kernel
theorem dL_range_23 : decode cL_range 23 = .ok (.iconst 2, 1) := by decide +kernel
theorem dL_range_24 : decode cL_range 24 = .ok (.ireturn, 1) := by decide +kernel
theorem dL_range_25 : decode cL_range 25 = .ok (.iconst 0, 1) := by decide +kernel
theorem dL_range_26 : decode cL_range 26 = .ok (.ireturn, 1) := by decide +kernel
theorem dL_alike_0 : decode cL_alike 0 = .ok (.aload_n 2, 1) := by decide +kernel
theorem dL_alike_1 : decode cL_alike 1 = .ok (.iconst 0, 1) := by decide +kernel
theorem dL_alike_2 : decode cL_alike 2 = .ok (.aload_n 0, 1) := by decide +kernel
theorem dL_alike_3 : decode cL_alike 3 = .ok (.iload_n 1, 1) := by decide +kernel
theorem dL_alike_4 : decode cL_alike 4 = .ok (.invokevirtual 71, 3) := by decide +kernel
theorem dL_alike_7 : decode cL_alike 7 = .ok (.i2l, 1) := by decide +kernel
theorem dL_alike_8 : decode cL_alike 8 = .ok (.lastore, 1) := by decide +kernel
theorem dL_alike_9 : decode cL_alike 9 = .ok (.goto 6, 3) := by decide +kernel
theorem dL_alike_12 : decode cL_alike 12 = .ok (.astore_n 3, 1) := by decide +kernel
theorem dL_alike_13 : decode cL_alike 13 = .ok (.iconst 1, 1) := by decide +kernel
theorem dL_alike_14 : decode cL_alike 14 = .ok (.ireturn, 1) := by decide +kernel
theorem dL_alike_15 : decode cL_alike 15 = .ok (.iconst 0, 1) := by decide +kernel
theorem dL_alike_16 : decode cL_alike 16 = .ok (.ireturn, 1) := by decide +kernel
theorem dL_peace_0 : decode cL_peace 0 = .ok (.aload_n 3, 1) := by decide +kernel
theorem dL_peace_1 : decode cL_peace 1 = .ok (.iconst 0, 1) := by decide +kernel
theorem dL_peace_2 : decode cL_peace 2 = .ok (.aload_n 0, 1) := by decide +kernel
theorem dL_peace_3 : decode cL_peace 3 = .ok (.iload_n 1, 1) := by decide +kernel
theorem dL_peace_4 : decode cL_peace 4 = .ok (.iload_n 2, 1) := by decide +kernel
theorem dL_peace_5 : decode cL_peace 5 = .ok (.invokevirtual 74, 3) := by decide +kernel
theorem dL_peace_8 : decode cL_peace 8 = .ok (.i2l, 1) := by decide +kernel
theorem dL_peace_9 : decode cL_peace 9 = .ok (.lastore, 1) := by decide +kernel
theorem dL_peace_10 : decode cL_peace 10 = .ok (.goto 7, 3) := by decide +kernel
theorem dL_peace_13 : decode cL_peace 13 = .ok (.astore 4, 2) := by decide +kernel
theorem dL_peace_15 : decode cL_peace 15 = .ok (.iconst 1, 1) := by decide +kernel
theorem dL_peace_16 : decode cL_peace 16 = .ok (.ireturn, 1) := by decide +kernel
theorem dL_peace_17 : decode cL_peace 17 = .ok (.iconst 0, 1) := by decide +kernel
theorem dL_peace_18 : decode cL_peace 18 = .ok (.ireturn, 1) := by decide +kernel
theorem dL_moved_0 : decode cL_moved 0 = .ok (.aload_n 3, 1) := by decide +kernel
theorem dL_moved_1 : decode cL_moved 1 = .ok (.iconst 0, 1) := by decide +kernel
theorem dL_moved_2 : decode cL_moved 2 = .ok (.aload_n 0, 1) := by decide +kernel
theorem dL_moved_3 : decode cL_moved 3 = .ok (.iload_n 1, 1) := by decide +kernel
theorem dL_moved_4 : decode cL_moved 4 = .ok (.iload_n 2, 1) := by decide +kernel
theorem dL_moved_5 : decode cL_moved 5 = .ok (.invokevirtual 77, 3) := by decide +kernel
theorem dL_moved_8 : decode cL_moved 8 = .ok (.i2l, 1) := by decide +kernel
theorem dL_moved_9 : decode cL_moved 9 = .ok (.lastore, 1) := by decide +kernel
theorem dL_moved_10 : decode cL_moved 10 = .ok (.goto 7, 3) := by decide +kernel
theorem dL_moved_13 : decode cL_moved 13 = .ok (.astore 4, 2) := by decide +kernel
theorem dL_moved_15 : decode cL_moved 15 = .ok (.iconst 1, 1) := by decide +kernel
theorem dL_moved_16 : decode cL_moved 16 = .ok (.ireturn, 1) := by decide +kernel
theorem dL_moved_17 : decode cL_moved 17 = .ok (.iconst 0, 1) := by decide +kernel
theorem dL_moved_18 : decode cL_moved 18 = .ok (.ireturn, 1) := by decide +kernel
theorem dL_law_0 : decode cL_law 0 = .ok (.new 8, 3) := by decide +kernel
theorem dL_law_3 : decode cL_law 3 = .ok (.dup, 1) := by decide +kernel
theorem dL_law_4 : decode cL_law 4 = .ok (.invokespecial 80, 3) := by decide +kernel
theorem dL_law_7 : decode cL_law 7 = .ok (.astore_n 1, 1) := by decide +kernel
theorem dL_law_8 : decode cL_law 8 = .ok (.new 81, 3) := by decide +kernel
theorem dL_law_11 : decode cL_law 11 = .ok (.dup, 1) := by decide +kernel
theorem dL_law_12 : decode cL_law 12 = .ok (.invokespecial 83, 3) := by decide +kernel
theorem dL_law_15 : decode cL_law 15 = .ok (.astore_n 2, 1) := by decide +kernel
theorem dL_law_16 : decode cL_law 16 = .ok (.iconst 1, 1) := by decide +kernel
theorem dL_law_17 : decode cL_law 17 = .ok (.newarray .long, 2) := by decide +kernel
theorem dL_law_19 : decode cL_law 19 = .ok (.astore_n 3, 1) := by decide +kernel
theorem dL_law_20 : decode cL_law 20 = .ok (.iconst 0, 1) := by decide +kernel
theorem dL_law_21 : decode cL_law 21 = .ok (.istore 4, 2) := by decide +kernel
theorem dL_law_23 : decode cL_law 23 = .ok (.iload 4, 2) := by decide +kernel
theorem dL_law_25 : decode cL_law 25 = .ok (.aload_n 0, 1) := by decide +kernel
theorem dL_law_26 : decode cL_law 26 = .ok (.arraylength, 1) := by decide +kernel
theorem dL_law_27 : decode cL_law 27 = .ok (.iconst 5, 1) := by decide +kernel
theorem dL_law_28 : decode cL_law 28 = .ok (.isub, 1) := by decide +kernel
theorem dL_law_29 : decode cL_law 29 = .ok (.if_icmp .gt 1514, 3) := by decide +kernel
theorem dL_law_32 : decode cL_law 32 = .ok (.aload_n 0, 1) := by decide +kernel
theorem dL_law_33 : decode cL_law 33 = .ok (.iload 4, 2) := by decide +kernel
theorem dL_law_35 : decode cL_law 35 = .ok (.iaload, 1) := by decide +kernel
theorem dL_law_36 : decode cL_law 36 = .ok (.bipush 31, 2) := by decide +kernel
theorem dL_law_38 : decode cL_law 38 = .ok (.iand, 1) := by decide +kernel
theorem dL_law_39 : decode cL_law 39 = .ok (.tableswitch 1498 0 23 #[109, 153, 197, 265, 333, 401, 457, 513, 569, 582, 595, 639, 719, 787, 895, 963, 1019, 1087, 1143, 1251, 1307, 1375, 1443, 1484], 109) := by decide +kernel
theorem dL_law_148 : decode cL_law 148 = .ok (.aload_n 1, 1) := by decide +kernel
theorem dL_law_149 : decode cL_law 149 = .ok (.aload_n 3, 1) := by decide +kernel
theorem dL_law_150 : decode cL_law 150 = .ok (.invokestatic 84, 3) := by decide +kernel
theorem dL_law_153 : decode cL_law 153 = .ok (.istore 5, 2) := by decide +kernel
theorem dL_law_155 : decode cL_law 155 = .ok (.aload_n 2, 1) := by decide +kernel
theorem dL_law_156 : decode cL_law 156 = .ok (.invokevirtual 89, 3) := by decide +kernel
theorem dL_law_159 : decode cL_law 159 = .ok (.istore 6, 2) := by decide +kernel
theorem dL_law_161 : decode cL_law 161 = .ok (.aload_n 2, 1) := by decide +kernel
theorem dL_law_162 : decode cL_law 162 = .ok (.invokevirtual 90, 3) := by decide +kernel
theorem dL_law_165 : decode cL_law 165 = .ok (.iload 5, 2) := by decide +kernel
theorem dL_law_167 : decode cL_law 167 = .ok (.if_icmp .eq 5, 3) := by decide +kernel
theorem dL_law_170 : decode cL_law 170 = .ok (.iconst 0, 1) := by decide +kernel
theorem dL_law_171 : decode cL_law 171 = .ok (.ireturn, 1) := by decide +kernel
theorem dL_law_172 : decode cL_law 172 = .ok (.iload 5, 2) := by decide +kernel
theorem dL_law_174 : decode cL_law 174 = .ok (.ifCond .ne 15, 3) := by decide +kernel
theorem dL_law_177 : decode cL_law 177 = .ok (.aload_n 3, 1) := by decide +kernel
theorem dL_law_178 : decode cL_law 178 = .ok (.iconst 0, 1) := by decide +kernel
theorem dL_law_179 : decode cL_law 179 = .ok (.laload, 1) := by decide +kernel
theorem dL_law_180 : decode cL_law 180 = .ok (.iload 6, 2) := by decide +kernel
theorem dL_law_182 : decode cL_law 182 = .ok (.i2l, 1) := by decide +kernel
theorem dL_law_183 : decode cL_law 183 = .ok (.lcmp, 1) := by decide +kernel
theorem dL_law_184 : decode cL_law 184 = .ok (.ifCond .eq 5, 3) := by decide +kernel
theorem dL_law_187 : decode cL_law 187 = .ok (.iconst 0, 1) := by decide +kernel
theorem dL_law_188 : decode cL_law 188 = .ok (.ireturn, 1) := by decide +kernel
theorem dL_law_189 : decode cL_law 189 = .ok (.goto 1348, 3) := by decide +kernel
theorem dL_law_192 : decode cL_law 192 = .ok (.aload_n 1, 1) := by decide +kernel
theorem dL_law_193 : decode cL_law 193 = .ok (.aload_n 3, 1) := by decide +kernel
theorem dL_law_194 : decode cL_law 194 = .ok (.invokestatic 93, 3) := by decide +kernel
theorem dL_law_197 : decode cL_law 197 = .ok (.istore 5, 2) := by decide +kernel
theorem dL_law_199 : decode cL_law 199 = .ok (.aload_n 2, 1) := by decide +kernel
theorem dL_law_200 : decode cL_law 200 = .ok (.invokevirtual 95, 3) := by decide +kernel
theorem dL_law_203 : decode cL_law 203 = .ok (.istore 6, 2) := by decide +kernel
theorem dL_law_205 : decode cL_law 205 = .ok (.aload_n 2, 1) := by decide +kernel
theorem dL_law_206 : decode cL_law 206 = .ok (.invokevirtual 90, 3) := by decide +kernel
theorem dL_law_209 : decode cL_law 209 = .ok (.iload 5, 2) := by decide +kernel
theorem dL_law_211 : decode cL_law 211 = .ok (.if_icmp .eq 5, 3) := by decide +kernel
theorem dL_law_214 : decode cL_law 214 = .ok (.iconst 0, 1) := by decide +kernel
theorem dL_law_215 : decode cL_law 215 = .ok (.ireturn, 1) := by decide +kernel
theorem dL_law_216 : decode cL_law 216 = .ok (.iload 5, 2) := by decide +kernel
theorem dL_law_218 : decode cL_law 218 = .ok (.ifCond .ne 15, 3) := by decide +kernel
theorem dL_law_221 : decode cL_law 221 = .ok (.aload_n 3, 1) := by decide +kernel
theorem dL_law_222 : decode cL_law 222 = .ok (.iconst 0, 1) := by decide +kernel
theorem dL_law_223 : decode cL_law 223 = .ok (.laload, 1) := by decide +kernel
theorem dL_law_224 : decode cL_law 224 = .ok (.iload 6, 2) := by decide +kernel
theorem dL_law_226 : decode cL_law 226 = .ok (.i2l, 1) := by decide +kernel
theorem dL_law_227 : decode cL_law 227 = .ok (.lcmp, 1) := by decide +kernel
theorem dL_law_228 : decode cL_law 228 = .ok (.ifCond .eq 5, 3) := by decide +kernel
theorem dL_law_231 : decode cL_law 231 = .ok (.iconst 0, 1) := by decide +kernel
theorem dL_law_232 : decode cL_law 232 = .ok (.ireturn, 1) := by decide +kernel
theorem dL_law_233 : decode cL_law 233 = .ok (.goto 1304, 3) := by decide +kernel
theorem dL_law_236 : decode cL_law 236 = .ok (.aload_n 1, 1) := by decide +kernel
theorem dL_law_237 : decode cL_law 237 = .ok (.aload_n 0, 1) := by decide +kernel
theorem dL_law_238 : decode cL_law 238 = .ok (.iload 4, 2) := by decide +kernel
theorem dL_law_240 : decode cL_law 240 = .ok (.iconst 1, 1) := by decide +kernel
theorem dL_law_241 : decode cL_law 241 = .ok (.iadd, 1) := by decide +kernel
theorem dL_law_242 : decode cL_law 242 = .ok (.iaload, 1) := by decide +kernel
theorem dL_law_243 : decode cL_law 243 = .ok (.aload_n 0, 1) := by decide +kernel
theorem dL_law_244 : decode cL_law 244 = .ok (.iload 4, 2) := by decide +kernel
theorem dL_law_246 : decode cL_law 246 = .ok (.iconst 2, 1) := by decide +kernel
theorem dL_law_247 : decode cL_law 247 = .ok (.iadd, 1) := by decide +kernel
theorem dL_law_248 : decode cL_law 248 = .ok (.iaload, 1) := by decide +kernel
theorem dL_law_249 : decode cL_law 249 = .ok (.aload_n 3, 1) := by decide +kernel
theorem dL_law_250 : decode cL_law 250 = .ok (.invokestatic 96, 3) := by decide +kernel
theorem dL_law_253 : decode cL_law 253 = .ok (.istore 5, 2) := by decide +kernel
theorem dL_law_255 : decode cL_law 255 = .ok (.aload_n 2, 1) := by decide +kernel
theorem dL_law_256 : decode cL_law 256 = .ok (.aload_n 0, 1) := by decide +kernel
theorem dL_law_257 : decode cL_law 257 = .ok (.iload 4, 2) := by decide +kernel
theorem dL_law_259 : decode cL_law 259 = .ok (.iconst 1, 1) := by decide +kernel
theorem dL_law_260 : decode cL_law 260 = .ok (.iadd, 1) := by decide +kernel
theorem dL_law_261 : decode cL_law 261 = .ok (.iaload, 1) := by decide +kernel
theorem dL_law_262 : decode cL_law 262 = .ok (.aload_n 0, 1) := by decide +kernel
theorem dL_law_263 : decode cL_law 263 = .ok (.iload 4, 2) := by decide +kernel
theorem dL_law_265 : decode cL_law 265 = .ok (.iconst 2, 1) := by decide +kernel
theorem dL_law_266 : decode cL_law 266 = .ok (.iadd, 1) := by decide +kernel
theorem dL_law_267 : decode cL_law 267 = .ok (.iaload, 1) := by decide +kernel
theorem dL_law_268 : decode cL_law 268 = .ok (.invokevirtual 99, 3) := by decide +kernel
theorem dL_law_271 : decode cL_law 271 = .ok (.istore 6, 2) := by decide +kernel
theorem dL_law_273 : decode cL_law 273 = .ok (.aload_n 2, 1) := by decide +kernel
theorem dL_law_274 : decode cL_law 274 = .ok (.invokevirtual 90, 3) := by decide +kernel
theorem dL_law_277 : decode cL_law 277 = .ok (.iload 5, 2) := by decide +kernel
theorem dL_law_279 : decode cL_law 279 = .ok (.if_icmp .eq 5, 3) := by decide +kernel
theorem dL_law_282 : decode cL_law 282 = .ok (.iconst 0, 1) := by decide +kernel
theorem dL_law_283 : decode cL_law 283 = .ok (.ireturn, 1) := by decide +kernel
theorem dL_law_284 : decode cL_law 284 = .ok (.iload 5, 2) := by decide +kernel
theorem dL_law_286 : decode cL_law 286 = .ok (.ifCond .ne 15, 3) := by decide +kernel
theorem dL_law_289 : decode cL_law 289 = .ok (.aload_n 3, 1) := by decide +kernel
theorem dL_law_290 : decode cL_law 290 = .ok (.iconst 0, 1) := by decide +kernel
theorem dL_law_291 : decode cL_law 291 = .ok (.laload, 1) := by decide +kernel
theorem dL_law_292 : decode cL_law 292 = .ok (.iload 6, 2) := by decide +kernel
theorem dL_law_294 : decode cL_law 294 = .ok (.i2l, 1) := by decide +kernel
theorem dL_law_295 : decode cL_law 295 = .ok (.lcmp, 1) := by decide +kernel
theorem dL_law_296 : decode cL_law 296 = .ok (.ifCond .eq 5, 3) := by decide +kernel
theorem dL_law_299 : decode cL_law 299 = .ok (.iconst 0, 1) := by decide +kernel
theorem dL_law_300 : decode cL_law 300 = .ok (.ireturn, 1) := by decide +kernel
theorem dL_law_301 : decode cL_law 301 = .ok (.goto 1236, 3) := by decide +kernel
theorem dL_law_304 : decode cL_law 304 = .ok (.aload_n 1, 1) := by decide +kernel
theorem dL_law_305 : decode cL_law 305 = .ok (.aload_n 0, 1) := by decide +kernel
theorem dL_law_306 : decode cL_law 306 = .ok (.iload 4, 2) := by decide +kernel
theorem dL_law_308 : decode cL_law 308 = .ok (.iconst 1, 1) := by decide +kernel
theorem dL_law_309 : decode cL_law 309 = .ok (.iadd, 1) := by decide +kernel
theorem dL_law_310 : decode cL_law 310 = .ok (.iaload, 1) := by decide +kernel
theorem dL_law_311 : decode cL_law 311 = .ok (.aload_n 0, 1) := by decide +kernel
theorem dL_law_312 : decode cL_law 312 = .ok (.iload 4, 2) := by decide +kernel
theorem dL_law_314 : decode cL_law 314 = .ok (.iconst 2, 1) := by decide +kernel
theorem dL_law_315 : decode cL_law 315 = .ok (.iadd, 1) := by decide +kernel
theorem dL_law_316 : decode cL_law 316 = .ok (.iaload, 1) := by decide +kernel
theorem dL_law_317 : decode cL_law 317 = .ok (.aload_n 3, 1) := by decide +kernel
theorem dL_law_318 : decode cL_law 318 = .ok (.invokestatic 100, 3) := by decide +kernel
theorem dL_law_321 : decode cL_law 321 = .ok (.istore 5, 2) := by decide +kernel
theorem dL_law_323 : decode cL_law 323 = .ok (.aload_n 2, 1) := by decide +kernel
theorem dL_law_324 : decode cL_law 324 = .ok (.aload_n 0, 1) := by decide +kernel
theorem dL_law_325 : decode cL_law 325 = .ok (.iload 4, 2) := by decide +kernel
theorem dL_law_327 : decode cL_law 327 = .ok (.iconst 1, 1) := by decide +kernel
theorem dL_law_328 : decode cL_law 328 = .ok (.iadd, 1) := by decide +kernel
theorem dL_law_329 : decode cL_law 329 = .ok (.iaload, 1) := by decide +kernel
theorem dL_law_330 : decode cL_law 330 = .ok (.aload_n 0, 1) := by decide +kernel
theorem dL_law_331 : decode cL_law 331 = .ok (.iload 4, 2) := by decide +kernel
theorem dL_law_333 : decode cL_law 333 = .ok (.iconst 2, 1) := by decide +kernel
theorem dL_law_334 : decode cL_law 334 = .ok (.iadd, 1) := by decide +kernel
theorem dL_law_335 : decode cL_law 335 = .ok (.iaload, 1) := by decide +kernel
theorem dL_law_336 : decode cL_law 336 = .ok (.invokevirtual 102, 3) := by decide +kernel
theorem dL_law_339 : decode cL_law 339 = .ok (.istore 6, 2) := by decide +kernel
theorem dL_law_341 : decode cL_law 341 = .ok (.aload_n 2, 1) := by decide +kernel
theorem dL_law_342 : decode cL_law 342 = .ok (.invokevirtual 90, 3) := by decide +kernel
theorem dL_law_345 : decode cL_law 345 = .ok (.iload 5, 2) := by decide +kernel
theorem dL_law_347 : decode cL_law 347 = .ok (.if_icmp .eq 5, 3) := by decide +kernel
theorem dL_law_350 : decode cL_law 350 = .ok (.iconst 0, 1) := by decide +kernel
theorem dL_law_351 : decode cL_law 351 = .ok (.ireturn, 1) := by decide +kernel
theorem dL_law_352 : decode cL_law 352 = .ok (.iload 5, 2) := by decide +kernel
theorem dL_law_354 : decode cL_law 354 = .ok (.ifCond .ne 15, 3) := by decide +kernel
theorem dL_law_357 : decode cL_law 357 = .ok (.aload_n 3, 1) := by decide +kernel
theorem dL_law_358 : decode cL_law 358 = .ok (.iconst 0, 1) := by decide +kernel
theorem dL_law_359 : decode cL_law 359 = .ok (.laload, 1) := by decide +kernel
theorem dL_law_360 : decode cL_law 360 = .ok (.iload 6, 2) := by decide +kernel
theorem dL_law_362 : decode cL_law 362 = .ok (.i2l, 1) := by decide +kernel
theorem dL_law_363 : decode cL_law 363 = .ok (.lcmp, 1) := by decide +kernel
theorem dL_law_364 : decode cL_law 364 = .ok (.ifCond .eq 5, 3) := by decide +kernel
theorem dL_law_367 : decode cL_law 367 = .ok (.iconst 0, 1) := by decide +kernel
theorem dL_law_368 : decode cL_law 368 = .ok (.ireturn, 1) := by decide +kernel
theorem dL_law_369 : decode cL_law 369 = .ok (.goto 1168, 3) := by decide +kernel
theorem dL_law_372 : decode cL_law 372 = .ok (.aload_n 1, 1) := by decide +kernel
theorem dL_law_373 : decode cL_law 373 = .ok (.aload_n 0, 1) := by decide +kernel
theorem dL_law_374 : decode cL_law 374 = .ok (.iload 4, 2) := by decide +kernel
theorem dL_law_376 : decode cL_law 376 = .ok (.iconst 1, 1) := by decide +kernel
theorem dL_law_377 : decode cL_law 377 = .ok (.iadd, 1) := by decide +kernel
theorem dL_law_378 : decode cL_law 378 = .ok (.iaload, 1) := by decide +kernel
theorem dL_law_379 : decode cL_law 379 = .ok (.aload_n 0, 1) := by decide +kernel
theorem dL_law_380 : decode cL_law 380 = .ok (.iload 4, 2) := by decide +kernel
theorem dL_law_382 : decode cL_law 382 = .ok (.iconst 2, 1) := by decide +kernel
theorem dL_law_383 : decode cL_law 383 = .ok (.iadd, 1) := by decide +kernel
theorem dL_law_384 : decode cL_law 384 = .ok (.iaload, 1) := by decide +kernel
theorem dL_law_385 : decode cL_law 385 = .ok (.aload_n 3, 1) := by decide +kernel
theorem dL_law_386 : decode cL_law 386 = .ok (.invokestatic 103, 3) := by decide +kernel
theorem dL_law_389 : decode cL_law 389 = .ok (.istore 5, 2) := by decide +kernel
theorem dL_law_391 : decode cL_law 391 = .ok (.aload_n 2, 1) := by decide +kernel
theorem dL_law_392 : decode cL_law 392 = .ok (.aload_n 0, 1) := by decide +kernel
theorem dL_law_393 : decode cL_law 393 = .ok (.iload 4, 2) := by decide +kernel
theorem dL_law_395 : decode cL_law 395 = .ok (.iconst 1, 1) := by decide +kernel
theorem dL_law_396 : decode cL_law 396 = .ok (.iadd, 1) := by decide +kernel
theorem dL_law_397 : decode cL_law 397 = .ok (.iaload, 1) := by decide +kernel
theorem dL_law_398 : decode cL_law 398 = .ok (.aload_n 0, 1) := by decide +kernel
theorem dL_law_399 : decode cL_law 399 = .ok (.iload 4, 2) := by decide +kernel
theorem dL_law_401 : decode cL_law 401 = .ok (.iconst 2, 1) := by decide +kernel
theorem dL_law_402 : decode cL_law 402 = .ok (.iadd, 1) := by decide +kernel
theorem dL_law_403 : decode cL_law 403 = .ok (.iaload, 1) := by decide +kernel
theorem dL_law_404 : decode cL_law 404 = .ok (.invokevirtual 105, 3) := by decide +kernel
theorem dL_law_407 : decode cL_law 407 = .ok (.istore 6, 2) := by decide +kernel
theorem dL_law_409 : decode cL_law 409 = .ok (.aload_n 2, 1) := by decide +kernel
theorem dL_law_410 : decode cL_law 410 = .ok (.invokevirtual 90, 3) := by decide +kernel
theorem dL_law_413 : decode cL_law 413 = .ok (.iload 5, 2) := by decide +kernel
theorem dL_law_415 : decode cL_law 415 = .ok (.if_icmp .eq 5, 3) := by decide +kernel
theorem dL_law_418 : decode cL_law 418 = .ok (.iconst 0, 1) := by decide +kernel
theorem dL_law_419 : decode cL_law 419 = .ok (.ireturn, 1) := by decide +kernel
theorem dL_law_420 : decode cL_law 420 = .ok (.iload 5, 2) := by decide +kernel
theorem dL_law_422 : decode cL_law 422 = .ok (.ifCond .ne 15, 3) := by decide +kernel
theorem dL_law_425 : decode cL_law 425 = .ok (.aload_n 3, 1) := by decide +kernel
theorem dL_law_426 : decode cL_law 426 = .ok (.iconst 0, 1) := by decide +kernel
theorem dL_law_427 : decode cL_law 427 = .ok (.laload, 1) := by decide +kernel
theorem dL_law_428 : decode cL_law 428 = .ok (.iload 6, 2) := by decide +kernel
theorem dL_law_430 : decode cL_law 430 = .ok (.i2l, 1) := by decide +kernel
theorem dL_law_431 : decode cL_law 431 = .ok (.lcmp, 1) := by decide +kernel
theorem dL_law_432 : decode cL_law 432 = .ok (.ifCond .eq 5, 3) := by decide +kernel
theorem dL_law_435 : decode cL_law 435 = .ok (.iconst 0, 1) := by decide +kernel
theorem dL_law_436 : decode cL_law 436 = .ok (.ireturn, 1) := by decide +kernel
theorem dL_law_437 : decode cL_law 437 = .ok (.goto 1100, 3) := by decide +kernel
theorem dL_law_440 : decode cL_law 440 = .ok (.aload_n 1, 1) := by decide +kernel
theorem dL_law_441 : decode cL_law 441 = .ok (.aload_n 0, 1) := by decide +kernel
theorem dL_law_442 : decode cL_law 442 = .ok (.iload 4, 2) := by decide +kernel
theorem dL_law_444 : decode cL_law 444 = .ok (.iconst 1, 1) := by decide +kernel
theorem dL_law_445 : decode cL_law 445 = .ok (.iadd, 1) := by decide +kernel
theorem dL_law_446 : decode cL_law 446 = .ok (.iaload, 1) := by decide +kernel
theorem dL_law_447 : decode cL_law 447 = .ok (.aload_n 3, 1) := by decide +kernel
theorem dL_law_448 : decode cL_law 448 = .ok (.invokestatic 106, 3) := by decide +kernel
theorem dL_law_451 : decode cL_law 451 = .ok (.istore 5, 2) := by decide +kernel
theorem dL_law_453 : decode cL_law 453 = .ok (.aload_n 2, 1) := by decide +kernel
theorem dL_law_454 : decode cL_law 454 = .ok (.aload_n 0, 1) := by decide +kernel
theorem dL_law_455 : decode cL_law 455 = .ok (.iload 4, 2) := by decide +kernel
theorem dL_law_457 : decode cL_law 457 = .ok (.iconst 1, 1) := by decide +kernel
theorem dL_law_458 : decode cL_law 458 = .ok (.iadd, 1) := by decide +kernel
theorem dL_law_459 : decode cL_law 459 = .ok (.iaload, 1) := by decide +kernel
theorem dL_law_460 : decode cL_law 460 = .ok (.invokevirtual 109, 3) := by decide +kernel
theorem dL_law_463 : decode cL_law 463 = .ok (.istore 6, 2) := by decide +kernel
theorem dL_law_465 : decode cL_law 465 = .ok (.aload_n 2, 1) := by decide +kernel
theorem dL_law_466 : decode cL_law 466 = .ok (.invokevirtual 90, 3) := by decide +kernel
theorem dL_law_469 : decode cL_law 469 = .ok (.iload 5, 2) := by decide +kernel
theorem dL_law_471 : decode cL_law 471 = .ok (.if_icmp .eq 5, 3) := by decide +kernel
theorem dL_law_474 : decode cL_law 474 = .ok (.iconst 0, 1) := by decide +kernel
theorem dL_law_475 : decode cL_law 475 = .ok (.ireturn, 1) := by decide +kernel
theorem dL_law_476 : decode cL_law 476 = .ok (.iload 5, 2) := by decide +kernel
theorem dL_law_478 : decode cL_law 478 = .ok (.ifCond .ne 15, 3) := by decide +kernel
theorem dL_law_481 : decode cL_law 481 = .ok (.aload_n 3, 1) := by decide +kernel
theorem dL_law_482 : decode cL_law 482 = .ok (.iconst 0, 1) := by decide +kernel
theorem dL_law_483 : decode cL_law 483 = .ok (.laload, 1) := by decide +kernel
theorem dL_law_484 : decode cL_law 484 = .ok (.iload 6, 2) := by decide +kernel
theorem dL_law_486 : decode cL_law 486 = .ok (.i2l, 1) := by decide +kernel
theorem dL_law_487 : decode cL_law 487 = .ok (.lcmp, 1) := by decide +kernel
theorem dL_law_488 : decode cL_law 488 = .ok (.ifCond .eq 5, 3) := by decide +kernel
theorem dL_law_491 : decode cL_law 491 = .ok (.iconst 0, 1) := by decide +kernel
theorem dL_law_492 : decode cL_law 492 = .ok (.ireturn, 1) := by decide +kernel
theorem dL_law_493 : decode cL_law 493 = .ok (.goto 1044, 3) := by decide +kernel
theorem dL_law_496 : decode cL_law 496 = .ok (.aload_n 1, 1) := by decide +kernel
theorem dL_law_497 : decode cL_law 497 = .ok (.aload_n 0, 1) := by decide +kernel
theorem dL_law_498 : decode cL_law 498 = .ok (.iload 4, 2) := by decide +kernel
theorem dL_law_500 : decode cL_law 500 = .ok (.iconst 1, 1) := by decide +kernel
theorem dL_law_501 : decode cL_law 501 = .ok (.iadd, 1) := by decide +kernel
theorem dL_law_502 : decode cL_law 502 = .ok (.iaload, 1) := by decide +kernel
theorem dL_law_503 : decode cL_law 503 = .ok (.aload_n 3, 1) := by decide +kernel
theorem dL_law_504 : decode cL_law 504 = .ok (.invokestatic 110, 3) := by decide +kernel
theorem dL_law_507 : decode cL_law 507 = .ok (.istore 5, 2) := by decide +kernel
theorem dL_law_509 : decode cL_law 509 = .ok (.aload_n 2, 1) := by decide +kernel
theorem dL_law_510 : decode cL_law 510 = .ok (.aload_n 0, 1) := by decide +kernel
theorem dL_law_511 : decode cL_law 511 = .ok (.iload 4, 2) := by decide +kernel
theorem dL_law_513 : decode cL_law 513 = .ok (.iconst 1, 1) := by decide +kernel
theorem dL_law_514 : decode cL_law 514 = .ok (.iadd, 1) := by decide +kernel
theorem dL_law_515 : decode cL_law 515 = .ok (.iaload, 1) := by decide +kernel
theorem dL_law_516 : decode cL_law 516 = .ok (.invokevirtual 112, 3) := by decide +kernel
theorem dL_law_519 : decode cL_law 519 = .ok (.istore 6, 2) := by decide +kernel
theorem dL_law_521 : decode cL_law 521 = .ok (.aload_n 2, 1) := by decide +kernel
theorem dL_law_522 : decode cL_law 522 = .ok (.invokevirtual 90, 3) := by decide +kernel
theorem dL_law_525 : decode cL_law 525 = .ok (.iload 5, 2) := by decide +kernel
theorem dL_law_527 : decode cL_law 527 = .ok (.if_icmp .eq 5, 3) := by decide +kernel
theorem dL_law_530 : decode cL_law 530 = .ok (.iconst 0, 1) := by decide +kernel
theorem dL_law_531 : decode cL_law 531 = .ok (.ireturn, 1) := by decide +kernel
theorem dL_law_532 : decode cL_law 532 = .ok (.iload 5, 2) := by decide +kernel
theorem dL_law_534 : decode cL_law 534 = .ok (.ifCond .ne 15, 3) := by decide +kernel
theorem dL_law_537 : decode cL_law 537 = .ok (.aload_n 3, 1) := by decide +kernel
theorem dL_law_538 : decode cL_law 538 = .ok (.iconst 0, 1) := by decide +kernel
theorem dL_law_539 : decode cL_law 539 = .ok (.laload, 1) := by decide +kernel
theorem dL_law_540 : decode cL_law 540 = .ok (.iload 6, 2) := by decide +kernel
theorem dL_law_542 : decode cL_law 542 = .ok (.i2l, 1) := by decide +kernel
theorem dL_law_543 : decode cL_law 543 = .ok (.lcmp, 1) := by decide +kernel
theorem dL_law_544 : decode cL_law 544 = .ok (.ifCond .eq 5, 3) := by decide +kernel
theorem dL_law_547 : decode cL_law 547 = .ok (.iconst 0, 1) := by decide +kernel
theorem dL_law_548 : decode cL_law 548 = .ok (.ireturn, 1) := by decide +kernel
theorem dL_law_549 : decode cL_law 549 = .ok (.goto 988, 3) := by decide +kernel
theorem dL_law_552 : decode cL_law 552 = .ok (.aload_n 1, 1) := by decide +kernel
theorem dL_law_553 : decode cL_law 553 = .ok (.aload_n 0, 1) := by decide +kernel
theorem dL_law_554 : decode cL_law 554 = .ok (.iload 4, 2) := by decide +kernel
theorem dL_law_556 : decode cL_law 556 = .ok (.iconst 1, 1) := by decide +kernel
theorem dL_law_557 : decode cL_law 557 = .ok (.iadd, 1) := by decide +kernel
theorem dL_law_558 : decode cL_law 558 = .ok (.iaload, 1) := by decide +kernel
theorem dL_law_559 : decode cL_law 559 = .ok (.aload_n 3, 1) := by decide +kernel
theorem dL_law_560 : decode cL_law 560 = .ok (.invokestatic 113, 3) := by decide +kernel
theorem dL_law_563 : decode cL_law 563 = .ok (.istore 5, 2) := by decide +kernel
theorem dL_law_565 : decode cL_law 565 = .ok (.aload_n 2, 1) := by decide +kernel
theorem dL_law_566 : decode cL_law 566 = .ok (.aload_n 0, 1) := by decide +kernel
theorem dL_law_567 : decode cL_law 567 = .ok (.iload 4, 2) := by decide +kernel
theorem dL_law_569 : decode cL_law 569 = .ok (.iconst 1, 1) := by decide +kernel
theorem dL_law_570 : decode cL_law 570 = .ok (.iadd, 1) := by decide +kernel
theorem dL_law_571 : decode cL_law 571 = .ok (.iaload, 1) := by decide +kernel
theorem dL_law_572 : decode cL_law 572 = .ok (.invokevirtual 115, 3) := by decide +kernel
theorem dL_law_575 : decode cL_law 575 = .ok (.istore 6, 2) := by decide +kernel
theorem dL_law_577 : decode cL_law 577 = .ok (.aload_n 2, 1) := by decide +kernel
theorem dL_law_578 : decode cL_law 578 = .ok (.invokevirtual 90, 3) := by decide +kernel
theorem dL_law_581 : decode cL_law 581 = .ok (.iload 5, 2) := by decide +kernel
theorem dL_law_583 : decode cL_law 583 = .ok (.if_icmp .eq 5, 3) := by decide +kernel
theorem dL_law_586 : decode cL_law 586 = .ok (.iconst 0, 1) := by decide +kernel
theorem dL_law_587 : decode cL_law 587 = .ok (.ireturn, 1) := by decide +kernel
theorem dL_law_588 : decode cL_law 588 = .ok (.iload 5, 2) := by decide +kernel
theorem dL_law_590 : decode cL_law 590 = .ok (.ifCond .ne 15, 3) := by decide +kernel
theorem dL_law_593 : decode cL_law 593 = .ok (.aload_n 3, 1) := by decide +kernel
theorem dL_law_594 : decode cL_law 594 = .ok (.iconst 0, 1) := by decide +kernel
theorem dL_law_595 : decode cL_law 595 = .ok (.laload, 1) := by decide +kernel
theorem dL_law_596 : decode cL_law 596 = .ok (.iload 6, 2) := by decide +kernel
theorem dL_law_598 : decode cL_law 598 = .ok (.i2l, 1) := by decide +kernel
theorem dL_law_599 : decode cL_law 599 = .ok (.lcmp, 1) := by decide +kernel
theorem dL_law_600 : decode cL_law 600 = .ok (.ifCond .eq 5, 3) := by decide +kernel
theorem dL_law_603 : decode cL_law 603 = .ok (.iconst 0, 1) := by decide +kernel
theorem dL_law_604 : decode cL_law 604 = .ok (.ireturn, 1) := by decide +kernel
theorem dL_law_605 : decode cL_law 605 = .ok (.goto 932, 3) := by decide +kernel
theorem dL_law_608 : decode cL_law 608 = .ok (.aload_n 1, 1) := by decide +kernel
theorem dL_law_609 : decode cL_law 609 = .ok (.invokevirtual 116, 3) := by decide +kernel
theorem dL_law_612 : decode cL_law 612 = .ok (.aload_n 2, 1) := by decide +kernel
theorem dL_law_613 : decode cL_law 613 = .ok (.invokevirtual 119, 3) := by decide +kernel
theorem dL_law_616 : decode cL_law 616 = .ok (.if_icmp .eq 921, 3) := by decide +kernel
theorem dL_law_619 : decode cL_law 619 = .ok (.iconst 0, 1) := by decide +kernel
theorem dL_law_620 : decode cL_law 620 = .ok (.ireturn, 1) := by decide +kernel
theorem dL_law_621 : decode cL_law 621 = .ok (.aload_n 1, 1) := by decide +kernel
theorem dL_law_622 : decode cL_law 622 = .ok (.invokevirtual 120, 3) := by decide +kernel
theorem dL_law_625 : decode cL_law 625 = .ok (.aload_n 2, 1) := by decide +kernel
theorem dL_law_626 : decode cL_law 626 = .ok (.invokevirtual 123, 3) := by decide +kernel
theorem dL_law_629 : decode cL_law 629 = .ok (.if_icmp .eq 908, 3) := by decide +kernel
theorem dL_law_632 : decode cL_law 632 = .ok (.iconst 0, 1) := by decide +kernel
theorem dL_law_633 : decode cL_law 633 = .ok (.ireturn, 1) := by decide +kernel
theorem dL_law_634 : decode cL_law 634 = .ok (.aload_n 1, 1) := by decide +kernel
theorem dL_law_635 : decode cL_law 635 = .ok (.aload_n 3, 1) := by decide +kernel
theorem dL_law_636 : decode cL_law 636 = .ok (.invokestatic 124, 3) := by decide +kernel
theorem dL_law_639 : decode cL_law 639 = .ok (.istore 5, 2) := by decide +kernel
theorem dL_law_641 : decode cL_law 641 = .ok (.aload_n 2, 1) := by decide +kernel
theorem dL_law_642 : decode cL_law 642 = .ok (.invokevirtual 126, 3) := by decide +kernel
theorem dL_law_645 : decode cL_law 645 = .ok (.istore 6, 2) := by decide +kernel
theorem dL_law_647 : decode cL_law 647 = .ok (.aload_n 2, 1) := by decide +kernel
theorem dL_law_648 : decode cL_law 648 = .ok (.invokevirtual 90, 3) := by decide +kernel
theorem dL_law_651 : decode cL_law 651 = .ok (.iload 5, 2) := by decide +kernel
theorem dL_law_653 : decode cL_law 653 = .ok (.if_icmp .eq 5, 3) := by decide +kernel
theorem dL_law_656 : decode cL_law 656 = .ok (.iconst 0, 1) := by decide +kernel
theorem dL_law_657 : decode cL_law 657 = .ok (.ireturn, 1) := by decide +kernel
theorem dL_law_658 : decode cL_law 658 = .ok (.iload 5, 2) := by decide +kernel
theorem dL_law_660 : decode cL_law 660 = .ok (.ifCond .ne 15, 3) := by decide +kernel
theorem dL_law_663 : decode cL_law 663 = .ok (.aload_n 3, 1) := by decide +kernel
theorem dL_law_664 : decode cL_law 664 = .ok (.iconst 0, 1) := by decide +kernel
theorem dL_law_665 : decode cL_law 665 = .ok (.laload, 1) := by decide +kernel
theorem dL_law_666 : decode cL_law 666 = .ok (.iload 6, 2) := by decide +kernel
theorem dL_law_668 : decode cL_law 668 = .ok (.i2l, 1) := by decide +kernel
theorem dL_law_669 : decode cL_law 669 = .ok (.lcmp, 1) := by decide +kernel
theorem dL_law_670 : decode cL_law 670 = .ok (.ifCond .eq 5, 3) := by decide +kernel
theorem dL_law_673 : decode cL_law 673 = .ok (.iconst 0, 1) := by decide +kernel
theorem dL_law_674 : decode cL_law 674 = .ok (.ireturn, 1) := by decide +kernel
theorem dL_law_675 : decode cL_law 675 = .ok (.goto 862, 3) := by decide +kernel
theorem dL_law_678 : decode cL_law 678 = .ok (.aload_n 1, 1) := by decide +kernel
theorem dL_law_679 : decode cL_law 679 = .ok (.aload_n 0, 1) := by decide +kernel
theorem dL_law_680 : decode cL_law 680 = .ok (.iload 4, 2) := by decide +kernel
theorem dL_law_682 : decode cL_law 682 = .ok (.iconst 1, 1) := by decide +kernel
theorem dL_law_683 : decode cL_law 683 = .ok (.iadd, 1) := by decide +kernel
theorem dL_law_684 : decode cL_law 684 = .ok (.iaload, 1) := by decide +kernel
theorem dL_law_685 : decode cL_law 685 = .ok (.aload_n 0, 1) := by decide +kernel
theorem dL_law_686 : decode cL_law 686 = .ok (.iload 4, 2) := by decide +kernel
theorem dL_law_688 : decode cL_law 688 = .ok (.iconst 2, 1) := by decide +kernel
theorem dL_law_689 : decode cL_law 689 = .ok (.iadd, 1) := by decide +kernel
theorem dL_law_690 : decode cL_law 690 = .ok (.iaload, 1) := by decide +kernel
theorem dL_law_691 : decode cL_law 691 = .ok (.aload_n 0, 1) := by decide +kernel
theorem dL_law_692 : decode cL_law 692 = .ok (.iload 4, 2) := by decide +kernel
theorem dL_law_694 : decode cL_law 694 = .ok (.iconst 3, 1) := by decide +kernel
theorem dL_law_695 : decode cL_law 695 = .ok (.iadd, 1) := by decide +kernel
theorem dL_law_696 : decode cL_law 696 = .ok (.iaload, 1) := by decide +kernel
theorem dL_law_697 : decode cL_law 697 = .ok (.aload_n 3, 1) := by decide +kernel
theorem dL_law_698 : decode cL_law 698 = .ok (.invokestatic 127, 3) := by decide +kernel
theorem dL_law_701 : decode cL_law 701 = .ok (.istore 5, 2) := by decide +kernel
theorem dL_law_703 : decode cL_law 703 = .ok (.aload_n 2, 1) := by decide +kernel
theorem dL_law_704 : decode cL_law 704 = .ok (.aload_n 0, 1) := by decide +kernel
theorem dL_law_705 : decode cL_law 705 = .ok (.iload 4, 2) := by decide +kernel
theorem dL_law_707 : decode cL_law 707 = .ok (.iconst 1, 1) := by decide +kernel
theorem dL_law_708 : decode cL_law 708 = .ok (.iadd, 1) := by decide +kernel
theorem dL_law_709 : decode cL_law 709 = .ok (.iaload, 1) := by decide +kernel
theorem dL_law_710 : decode cL_law 710 = .ok (.aload_n 0, 1) := by decide +kernel
theorem dL_law_711 : decode cL_law 711 = .ok (.iload 4, 2) := by decide +kernel
theorem dL_law_713 : decode cL_law 713 = .ok (.iconst 2, 1) := by decide +kernel
theorem dL_law_714 : decode cL_law 714 = .ok (.iadd, 1) := by decide +kernel
theorem dL_law_715 : decode cL_law 715 = .ok (.iaload, 1) := by decide +kernel
theorem dL_law_716 : decode cL_law 716 = .ok (.aload_n 0, 1) := by decide +kernel
theorem dL_law_717 : decode cL_law 717 = .ok (.iload 4, 2) := by decide +kernel
theorem dL_law_719 : decode cL_law 719 = .ok (.iconst 3, 1) := by decide +kernel
theorem dL_law_720 : decode cL_law 720 = .ok (.iadd, 1) := by decide +kernel
theorem dL_law_721 : decode cL_law 721 = .ok (.iaload, 1) := by decide +kernel
theorem dL_law_722 : decode cL_law 722 = .ok (.invokevirtual 130, 3) := by decide +kernel
theorem dL_law_725 : decode cL_law 725 = .ok (.istore 6, 2) := by decide +kernel
theorem dL_law_727 : decode cL_law 727 = .ok (.aload_n 2, 1) := by decide +kernel
theorem dL_law_728 : decode cL_law 728 = .ok (.invokevirtual 90, 3) := by decide +kernel
theorem dL_law_731 : decode cL_law 731 = .ok (.iload 5, 2) := by decide +kernel
theorem dL_law_733 : decode cL_law 733 = .ok (.if_icmp .eq 5, 3) := by decide +kernel
theorem dL_law_736 : decode cL_law 736 = .ok (.iconst 0, 1) := by decide +kernel
theorem dL_law_737 : decode cL_law 737 = .ok (.ireturn, 1) := by decide +kernel
theorem dL_law_738 : decode cL_law 738 = .ok (.iload 5, 2) := by decide +kernel
theorem dL_law_740 : decode cL_law 740 = .ok (.ifCond .ne 15, 3) := by decide +kernel
theorem dL_law_743 : decode cL_law 743 = .ok (.aload_n 3, 1) := by decide +kernel
theorem dL_law_744 : decode cL_law 744 = .ok (.iconst 0, 1) := by decide +kernel
theorem dL_law_745 : decode cL_law 745 = .ok (.laload, 1) := by decide +kernel
theorem dL_law_746 : decode cL_law 746 = .ok (.iload 6, 2) := by decide +kernel
theorem dL_law_748 : decode cL_law 748 = .ok (.i2l, 1) := by decide +kernel
theorem dL_law_749 : decode cL_law 749 = .ok (.lcmp, 1) := by decide +kernel
theorem dL_law_750 : decode cL_law 750 = .ok (.ifCond .eq 5, 3) := by decide +kernel
theorem dL_law_753 : decode cL_law 753 = .ok (.iconst 0, 1) := by decide +kernel
theorem dL_law_754 : decode cL_law 754 = .ok (.ireturn, 1) := by decide +kernel
theorem dL_law_755 : decode cL_law 755 = .ok (.goto 782, 3) := by decide +kernel
theorem dL_law_758 : decode cL_law 758 = .ok (.aload_n 1, 1) := by decide +kernel
theorem dL_law_759 : decode cL_law 759 = .ok (.aload_n 0, 1) := by decide +kernel
theorem dL_law_760 : decode cL_law 760 = .ok (.iload 4, 2) := by decide +kernel
theorem dL_law_762 : decode cL_law 762 = .ok (.iconst 1, 1) := by decide +kernel
theorem dL_law_763 : decode cL_law 763 = .ok (.iadd, 1) := by decide +kernel
theorem dL_law_764 : decode cL_law 764 = .ok (.iaload, 1) := by decide +kernel
theorem dL_law_765 : decode cL_law 765 = .ok (.aload_n 0, 1) := by decide +kernel
theorem dL_law_766 : decode cL_law 766 = .ok (.iload 4, 2) := by decide +kernel
theorem dL_law_768 : decode cL_law 768 = .ok (.iconst 2, 1) := by decide +kernel
theorem dL_law_769 : decode cL_law 769 = .ok (.iadd, 1) := by decide +kernel
theorem dL_law_770 : decode cL_law 770 = .ok (.iaload, 1) := by decide +kernel
theorem dL_law_771 : decode cL_law 771 = .ok (.aload_n 3, 1) := by decide +kernel
theorem dL_law_772 : decode cL_law 772 = .ok (.invokestatic 131, 3) := by decide +kernel
theorem dL_law_775 : decode cL_law 775 = .ok (.istore 5, 2) := by decide +kernel
theorem dL_law_777 : decode cL_law 777 = .ok (.aload_n 2, 1) := by decide +kernel
theorem dL_law_778 : decode cL_law 778 = .ok (.aload_n 0, 1) := by decide +kernel
theorem dL_law_779 : decode cL_law 779 = .ok (.iload 4, 2) := by decide +kernel
theorem dL_law_781 : decode cL_law 781 = .ok (.iconst 1, 1) := by decide +kernel
theorem dL_law_782 : decode cL_law 782 = .ok (.iadd, 1) := by decide +kernel
theorem dL_law_783 : decode cL_law 783 = .ok (.iaload, 1) := by decide +kernel
theorem dL_law_784 : decode cL_law 784 = .ok (.aload_n 0, 1) := by decide +kernel
theorem dL_law_785 : decode cL_law 785 = .ok (.iload 4, 2) := by decide +kernel
theorem dL_law_787 : decode cL_law 787 = .ok (.iconst 2, 1) := by decide +kernel
theorem dL_law_788 : decode cL_law 788 = .ok (.iadd, 1) := by decide +kernel
theorem dL_law_789 : decode cL_law 789 = .ok (.iaload, 1) := by decide +kernel
theorem dL_law_790 : decode cL_law 790 = .ok (.invokevirtual 133, 3) := by decide +kernel
theorem dL_law_793 : decode cL_law 793 = .ok (.istore 6, 2) := by decide +kernel
theorem dL_law_795 : decode cL_law 795 = .ok (.aload_n 2, 1) := by decide +kernel
theorem dL_law_796 : decode cL_law 796 = .ok (.invokevirtual 90, 3) := by decide +kernel
theorem dL_law_799 : decode cL_law 799 = .ok (.iload 5, 2) := by decide +kernel
theorem dL_law_801 : decode cL_law 801 = .ok (.if_icmp .eq 5, 3) := by decide +kernel
theorem dL_law_804 : decode cL_law 804 = .ok (.iconst 0, 1) := by decide +kernel
theorem dL_law_805 : decode cL_law 805 = .ok (.ireturn, 1) := by decide +kernel
theorem dL_law_806 : decode cL_law 806 = .ok (.iload 5, 2) := by decide +kernel
theorem dL_law_808 : decode cL_law 808 = .ok (.ifCond .ne 15, 3) := by decide +kernel
theorem dL_law_811 : decode cL_law 811 = .ok (.aload_n 3, 1) := by decide +kernel
theorem dL_law_812 : decode cL_law 812 = .ok (.iconst 0, 1) := by decide +kernel
theorem dL_law_813 : decode cL_law 813 = .ok (.laload, 1) := by decide +kernel
theorem dL_law_814 : decode cL_law 814 = .ok (.iload 6, 2) := by decide +kernel
theorem dL_law_816 : decode cL_law 816 = .ok (.i2l, 1) := by decide +kernel
theorem dL_law_817 : decode cL_law 817 = .ok (.lcmp, 1) := by decide +kernel
theorem dL_law_818 : decode cL_law 818 = .ok (.ifCond .eq 5, 3) := by decide +kernel
theorem dL_law_821 : decode cL_law 821 = .ok (.iconst 0, 1) := by decide +kernel
theorem dL_law_822 : decode cL_law 822 = .ok (.ireturn, 1) := by decide +kernel
theorem dL_law_823 : decode cL_law 823 = .ok (.goto 714, 3) := by decide +kernel
theorem dL_law_826 : decode cL_law 826 = .ok (.aload_n 1, 1) := by decide +kernel
theorem dL_law_827 : decode cL_law 827 = .ok (.aload_n 0, 1) := by decide +kernel
theorem dL_law_828 : decode cL_law 828 = .ok (.iload 4, 2) := by decide +kernel
theorem dL_law_830 : decode cL_law 830 = .ok (.iconst 1, 1) := by decide +kernel
theorem dL_law_831 : decode cL_law 831 = .ok (.iadd, 1) := by decide +kernel
theorem dL_law_832 : decode cL_law 832 = .ok (.iaload, 1) := by decide +kernel
theorem dL_law_833 : decode cL_law 833 = .ok (.aload_n 0, 1) := by decide +kernel
theorem dL_law_834 : decode cL_law 834 = .ok (.iload 4, 2) := by decide +kernel
theorem dL_law_836 : decode cL_law 836 = .ok (.iconst 2, 1) := by decide +kernel
theorem dL_law_837 : decode cL_law 837 = .ok (.iadd, 1) := by decide +kernel
theorem dL_law_838 : decode cL_law 838 = .ok (.iaload, 1) := by decide +kernel
theorem dL_law_839 : decode cL_law 839 = .ok (.aload_n 0, 1) := by decide +kernel
theorem dL_law_840 : decode cL_law 840 = .ok (.iload 4, 2) := by decide +kernel
theorem dL_law_842 : decode cL_law 842 = .ok (.iconst 3, 1) := by decide +kernel
theorem dL_law_843 : decode cL_law 843 = .ok (.iadd, 1) := by decide +kernel
theorem dL_law_844 : decode cL_law 844 = .ok (.iaload, 1) := by decide +kernel
theorem dL_law_845 : decode cL_law 845 = .ok (.aload_n 0, 1) := by decide +kernel
theorem dL_law_846 : decode cL_law 846 = .ok (.iload 4, 2) := by decide +kernel
theorem dL_law_848 : decode cL_law 848 = .ok (.iconst 4, 1) := by decide +kernel
theorem dL_law_849 : decode cL_law 849 = .ok (.iadd, 1) := by decide +kernel
theorem dL_law_850 : decode cL_law 850 = .ok (.iaload, 1) := by decide +kernel
theorem dL_law_851 : decode cL_law 851 = .ok (.ifCond .eq 7, 3) := by decide +kernel
theorem dL_law_854 : decode cL_law 854 = .ok (.iconst 1, 1) := by decide +kernel
theorem dL_law_855 : decode cL_law 855 = .ok (.goto 4, 3) := by decide +kernel
theorem dL_law_858 : decode cL_law 858 = .ok (.iconst 0, 1) := by decide +kernel
theorem dL_law_859 : decode cL_law 859 = .ok (.aload_n 3, 1) := by decide +kernel
theorem dL_law_860 : decode cL_law 860 = .ok (.invokestatic 134, 3) := by decide +kernel
theorem dL_law_863 : decode cL_law 863 = .ok (.istore 5, 2) := by decide +kernel
theorem dL_law_865 : decode cL_law 865 = .ok (.aload_n 2, 1) := by decide +kernel
theorem dL_law_866 : decode cL_law 866 = .ok (.aload_n 0, 1) := by decide +kernel
theorem dL_law_867 : decode cL_law 867 = .ok (.iload 4, 2) := by decide +kernel
theorem dL_law_869 : decode cL_law 869 = .ok (.iconst 1, 1) := by decide +kernel
theorem dL_law_870 : decode cL_law 870 = .ok (.iadd, 1) := by decide +kernel
theorem dL_law_871 : decode cL_law 871 = .ok (.iaload, 1) := by decide +kernel
theorem dL_law_872 : decode cL_law 872 = .ok (.aload_n 0, 1) := by decide +kernel
theorem dL_law_873 : decode cL_law 873 = .ok (.iload 4, 2) := by decide +kernel
theorem dL_law_875 : decode cL_law 875 = .ok (.iconst 2, 1) := by decide +kernel
theorem dL_law_876 : decode cL_law 876 = .ok (.iadd, 1) := by decide +kernel
theorem dL_law_877 : decode cL_law 877 = .ok (.iaload, 1) := by decide +kernel
theorem dL_law_878 : decode cL_law 878 = .ok (.aload_n 0, 1) := by decide +kernel
theorem dL_law_879 : decode cL_law 879 = .ok (.iload 4, 2) := by decide +kernel
theorem dL_law_881 : decode cL_law 881 = .ok (.iconst 3, 1) := by decide +kernel
theorem dL_law_882 : decode cL_law 882 = .ok (.iadd, 1) := by decide +kernel
theorem dL_law_883 : decode cL_law 883 = .ok (.iaload, 1) := by decide +kernel
theorem dL_law_884 : decode cL_law 884 = .ok (.aload_n 0, 1) := by decide +kernel
theorem dL_law_885 : decode cL_law 885 = .ok (.iload 4, 2) := by decide +kernel
theorem dL_law_887 : decode cL_law 887 = .ok (.iconst 4, 1) := by decide +kernel
theorem dL_law_888 : decode cL_law 888 = .ok (.iadd, 1) := by decide +kernel
theorem dL_law_889 : decode cL_law 889 = .ok (.iaload, 1) := by decide +kernel
theorem dL_law_890 : decode cL_law 890 = .ok (.ifCond .eq 7, 3) := by decide +kernel
theorem dL_law_893 : decode cL_law 893 = .ok (.iconst 1, 1) := by decide +kernel
theorem dL_law_894 : decode cL_law 894 = .ok (.goto 4, 3) := by decide +kernel
theorem dL_law_897 : decode cL_law 897 = .ok (.iconst 0, 1) := by decide +kernel
theorem dL_law_898 : decode cL_law 898 = .ok (.invokevirtual 137, 3) := by decide +kernel
theorem dL_law_901 : decode cL_law 901 = .ok (.istore 6, 2) := by decide +kernel
theorem dL_law_903 : decode cL_law 903 = .ok (.aload_n 2, 1) := by decide +kernel
theorem dL_law_904 : decode cL_law 904 = .ok (.invokevirtual 90, 3) := by decide +kernel
theorem dL_law_907 : decode cL_law 907 = .ok (.iload 5, 2) := by decide +kernel
theorem dL_law_909 : decode cL_law 909 = .ok (.if_icmp .eq 5, 3) := by decide +kernel
theorem dL_law_912 : decode cL_law 912 = .ok (.iconst 0, 1) := by decide +kernel
theorem dL_law_913 : decode cL_law 913 = .ok (.ireturn, 1) := by decide +kernel
theorem dL_law_914 : decode cL_law 914 = .ok (.iload 5, 2) := by decide +kernel
theorem dL_law_916 : decode cL_law 916 = .ok (.ifCond .ne 15, 3) := by decide +kernel
theorem dL_law_919 : decode cL_law 919 = .ok (.aload_n 3, 1) := by decide +kernel
theorem dL_law_920 : decode cL_law 920 = .ok (.iconst 0, 1) := by decide +kernel
theorem dL_law_921 : decode cL_law 921 = .ok (.laload, 1) := by decide +kernel
theorem dL_law_922 : decode cL_law 922 = .ok (.iload 6, 2) := by decide +kernel
theorem dL_law_924 : decode cL_law 924 = .ok (.i2l, 1) := by decide +kernel
theorem dL_law_925 : decode cL_law 925 = .ok (.lcmp, 1) := by decide +kernel
theorem dL_law_926 : decode cL_law 926 = .ok (.ifCond .eq 5, 3) := by decide +kernel
theorem dL_law_929 : decode cL_law 929 = .ok (.iconst 0, 1) := by decide +kernel
theorem dL_law_930 : decode cL_law 930 = .ok (.ireturn, 1) := by decide +kernel
theorem dL_law_931 : decode cL_law 931 = .ok (.goto 606, 3) := by decide +kernel
theorem dL_law_934 : decode cL_law 934 = .ok (.aload_n 1, 1) := by decide +kernel
theorem dL_law_935 : decode cL_law 935 = .ok (.aload_n 0, 1) := by decide +kernel
theorem dL_law_936 : decode cL_law 936 = .ok (.iload 4, 2) := by decide +kernel
theorem dL_law_938 : decode cL_law 938 = .ok (.iconst 1, 1) := by decide +kernel
theorem dL_law_939 : decode cL_law 939 = .ok (.iadd, 1) := by decide +kernel
theorem dL_law_940 : decode cL_law 940 = .ok (.iaload, 1) := by decide +kernel
theorem dL_law_941 : decode cL_law 941 = .ok (.aload_n 0, 1) := by decide +kernel
theorem dL_law_942 : decode cL_law 942 = .ok (.iload 4, 2) := by decide +kernel
theorem dL_law_944 : decode cL_law 944 = .ok (.iconst 2, 1) := by decide +kernel
theorem dL_law_945 : decode cL_law 945 = .ok (.iadd, 1) := by decide +kernel
theorem dL_law_946 : decode cL_law 946 = .ok (.iaload, 1) := by decide +kernel
theorem dL_law_947 : decode cL_law 947 = .ok (.aload_n 3, 1) := by decide +kernel
theorem dL_law_948 : decode cL_law 948 = .ok (.invokestatic 138, 3) := by decide +kernel
theorem dL_law_951 : decode cL_law 951 = .ok (.istore 5, 2) := by decide +kernel
theorem dL_law_953 : decode cL_law 953 = .ok (.aload_n 2, 1) := by decide +kernel
theorem dL_law_954 : decode cL_law 954 = .ok (.aload_n 0, 1) := by decide +kernel
theorem dL_law_955 : decode cL_law 955 = .ok (.iload 4, 2) := by decide +kernel
theorem dL_law_957 : decode cL_law 957 = .ok (.iconst 1, 1) := by decide +kernel
theorem dL_law_958 : decode cL_law 958 = .ok (.iadd, 1) := by decide +kernel
theorem dL_law_959 : decode cL_law 959 = .ok (.iaload, 1) := by decide +kernel
theorem dL_law_960 : decode cL_law 960 = .ok (.aload_n 0, 1) := by decide +kernel
theorem dL_law_961 : decode cL_law 961 = .ok (.iload 4, 2) := by decide +kernel
theorem dL_law_963 : decode cL_law 963 = .ok (.iconst 2, 1) := by decide +kernel
theorem dL_law_964 : decode cL_law 964 = .ok (.iadd, 1) := by decide +kernel
theorem dL_law_965 : decode cL_law 965 = .ok (.iaload, 1) := by decide +kernel
theorem dL_law_966 : decode cL_law 966 = .ok (.invokevirtual 140, 3) := by decide +kernel
theorem dL_law_969 : decode cL_law 969 = .ok (.istore 6, 2) := by decide +kernel
theorem dL_law_971 : decode cL_law 971 = .ok (.aload_n 2, 1) := by decide +kernel
theorem dL_law_972 : decode cL_law 972 = .ok (.invokevirtual 90, 3) := by decide +kernel
theorem dL_law_975 : decode cL_law 975 = .ok (.iload 5, 2) := by decide +kernel
theorem dL_law_977 : decode cL_law 977 = .ok (.if_icmp .eq 5, 3) := by decide +kernel
theorem dL_law_980 : decode cL_law 980 = .ok (.iconst 0, 1) := by decide +kernel
theorem dL_law_981 : decode cL_law 981 = .ok (.ireturn, 1) := by decide +kernel
theorem dL_law_982 : decode cL_law 982 = .ok (.iload 5, 2) := by decide +kernel
theorem dL_law_984 : decode cL_law 984 = .ok (.ifCond .ne 15, 3) := by decide +kernel
theorem dL_law_987 : decode cL_law 987 = .ok (.aload_n 3, 1) := by decide +kernel
theorem dL_law_988 : decode cL_law 988 = .ok (.iconst 0, 1) := by decide +kernel
theorem dL_law_989 : decode cL_law 989 = .ok (.laload, 1) := by decide +kernel
theorem dL_law_990 : decode cL_law 990 = .ok (.iload 6, 2) := by decide +kernel
theorem dL_law_992 : decode cL_law 992 = .ok (.i2l, 1) := by decide +kernel
theorem dL_law_993 : decode cL_law 993 = .ok (.lcmp, 1) := by decide +kernel
theorem dL_law_994 : decode cL_law 994 = .ok (.ifCond .eq 5, 3) := by decide +kernel
theorem dL_law_997 : decode cL_law 997 = .ok (.iconst 0, 1) := by decide +kernel
theorem dL_law_998 : decode cL_law 998 = .ok (.ireturn, 1) := by decide +kernel
theorem dL_law_999 : decode cL_law 999 = .ok (.goto 538, 3) := by decide +kernel
theorem dL_law_1002 : decode cL_law 1002 = .ok (.aload_n 1, 1) := by decide +kernel
theorem dL_law_1003 : decode cL_law 1003 = .ok (.aload_n 0, 1) := by decide +kernel
theorem dL_law_1004 : decode cL_law 1004 = .ok (.iload 4, 2) := by decide +kernel
theorem dL_law_1006 : decode cL_law 1006 = .ok (.iconst 1, 1) := by decide +kernel
theorem dL_law_1007 : decode cL_law 1007 = .ok (.iadd, 1) := by decide +kernel
theorem dL_law_1008 : decode cL_law 1008 = .ok (.iaload, 1) := by decide +kernel
theorem dL_law_1009 : decode cL_law 1009 = .ok (.aload_n 3, 1) := by decide +kernel
theorem dL_law_1010 : decode cL_law 1010 = .ok (.invokestatic 141, 3) := by decide +kernel
theorem dL_law_1013 : decode cL_law 1013 = .ok (.istore 5, 2) := by decide +kernel
theorem dL_law_1015 : decode cL_law 1015 = .ok (.aload_n 2, 1) := by decide +kernel
theorem dL_law_1016 : decode cL_law 1016 = .ok (.aload_n 0, 1) := by decide +kernel
theorem dL_law_1017 : decode cL_law 1017 = .ok (.iload 4, 2) := by decide +kernel
theorem dL_law_1019 : decode cL_law 1019 = .ok (.iconst 1, 1) := by decide +kernel
theorem dL_law_1020 : decode cL_law 1020 = .ok (.iadd, 1) := by decide +kernel
theorem dL_law_1021 : decode cL_law 1021 = .ok (.iaload, 1) := by decide +kernel
theorem dL_law_1022 : decode cL_law 1022 = .ok (.invokevirtual 143, 3) := by decide +kernel
theorem dL_law_1025 : decode cL_law 1025 = .ok (.istore 6, 2) := by decide +kernel
theorem dL_law_1027 : decode cL_law 1027 = .ok (.aload_n 2, 1) := by decide +kernel
theorem dL_law_1028 : decode cL_law 1028 = .ok (.invokevirtual 90, 3) := by decide +kernel
theorem dL_law_1031 : decode cL_law 1031 = .ok (.iload 5, 2) := by decide +kernel
theorem dL_law_1033 : decode cL_law 1033 = .ok (.if_icmp .eq 5, 3) := by decide +kernel
theorem dL_law_1036 : decode cL_law 1036 = .ok (.iconst 0, 1) := by decide +kernel
theorem dL_law_1037 : decode cL_law 1037 = .ok (.ireturn, 1) := by decide +kernel
theorem dL_law_1038 : decode cL_law 1038 = .ok (.iload 5, 2) := by decide +kernel
theorem dL_law_1040 : decode cL_law 1040 = .ok (.ifCond .ne 15, 3) := by decide +kernel
theorem dL_law_1043 : decode cL_law 1043 = .ok (.aload_n 3, 1) := by decide +kernel
theorem dL_law_1044 : decode cL_law 1044 = .ok (.iconst 0, 1) := by decide +kernel
theorem dL_law_1045 : decode cL_law 1045 = .ok (.laload, 1) := by decide +kernel
theorem dL_law_1046 : decode cL_law 1046 = .ok (.iload 6, 2) := by decide +kernel
theorem dL_law_1048 : decode cL_law 1048 = .ok (.i2l, 1) := by decide +kernel
theorem dL_law_1049 : decode cL_law 1049 = .ok (.lcmp, 1) := by decide +kernel
theorem dL_law_1050 : decode cL_law 1050 = .ok (.ifCond .eq 5, 3) := by decide +kernel
theorem dL_law_1053 : decode cL_law 1053 = .ok (.iconst 0, 1) := by decide +kernel
theorem dL_law_1054 : decode cL_law 1054 = .ok (.ireturn, 1) := by decide +kernel
theorem dL_law_1055 : decode cL_law 1055 = .ok (.goto 482, 3) := by decide +kernel
theorem dL_law_1058 : decode cL_law 1058 = .ok (.aload_n 1, 1) := by decide +kernel
theorem dL_law_1059 : decode cL_law 1059 = .ok (.aload_n 0, 1) := by decide +kernel
theorem dL_law_1060 : decode cL_law 1060 = .ok (.iload 4, 2) := by decide +kernel
theorem dL_law_1062 : decode cL_law 1062 = .ok (.iconst 1, 1) := by decide +kernel
theorem dL_law_1063 : decode cL_law 1063 = .ok (.iadd, 1) := by decide +kernel
theorem dL_law_1064 : decode cL_law 1064 = .ok (.iaload, 1) := by decide +kernel
theorem dL_law_1065 : decode cL_law 1065 = .ok (.aload_n 0, 1) := by decide +kernel
theorem dL_law_1066 : decode cL_law 1066 = .ok (.iload 4, 2) := by decide +kernel
theorem dL_law_1068 : decode cL_law 1068 = .ok (.iconst 2, 1) := by decide +kernel
theorem dL_law_1069 : decode cL_law 1069 = .ok (.iadd, 1) := by decide +kernel
theorem dL_law_1070 : decode cL_law 1070 = .ok (.iaload, 1) := by decide +kernel
theorem dL_law_1071 : decode cL_law 1071 = .ok (.aload_n 3, 1) := by decide +kernel
theorem dL_law_1072 : decode cL_law 1072 = .ok (.invokestatic 144, 3) := by decide +kernel
theorem dL_law_1075 : decode cL_law 1075 = .ok (.istore 5, 2) := by decide +kernel
theorem dL_law_1077 : decode cL_law 1077 = .ok (.aload_n 2, 1) := by decide +kernel
theorem dL_law_1078 : decode cL_law 1078 = .ok (.aload_n 0, 1) := by decide +kernel
theorem dL_law_1079 : decode cL_law 1079 = .ok (.iload 4, 2) := by decide +kernel
theorem dL_law_1081 : decode cL_law 1081 = .ok (.iconst 1, 1) := by decide +kernel
theorem dL_law_1082 : decode cL_law 1082 = .ok (.iadd, 1) := by decide +kernel
theorem dL_law_1083 : decode cL_law 1083 = .ok (.iaload, 1) := by decide +kernel
theorem dL_law_1084 : decode cL_law 1084 = .ok (.aload_n 0, 1) := by decide +kernel
theorem dL_law_1085 : decode cL_law 1085 = .ok (.iload 4, 2) := by decide +kernel
theorem dL_law_1087 : decode cL_law 1087 = .ok (.iconst 2, 1) := by decide +kernel
theorem dL_law_1088 : decode cL_law 1088 = .ok (.iadd, 1) := by decide +kernel
theorem dL_law_1089 : decode cL_law 1089 = .ok (.iaload, 1) := by decide +kernel
theorem dL_law_1090 : decode cL_law 1090 = .ok (.invokevirtual 146, 3) := by decide +kernel
theorem dL_law_1093 : decode cL_law 1093 = .ok (.istore 6, 2) := by decide +kernel
theorem dL_law_1095 : decode cL_law 1095 = .ok (.aload_n 2, 1) := by decide +kernel
theorem dL_law_1096 : decode cL_law 1096 = .ok (.invokevirtual 90, 3) := by decide +kernel
theorem dL_law_1099 : decode cL_law 1099 = .ok (.iload 5, 2) := by decide +kernel
theorem dL_law_1101 : decode cL_law 1101 = .ok (.if_icmp .eq 5, 3) := by decide +kernel
theorem dL_law_1104 : decode cL_law 1104 = .ok (.iconst 0, 1) := by decide +kernel
theorem dL_law_1105 : decode cL_law 1105 = .ok (.ireturn, 1) := by decide +kernel
theorem dL_law_1106 : decode cL_law 1106 = .ok (.iload 5, 2) := by decide +kernel
theorem dL_law_1108 : decode cL_law 1108 = .ok (.ifCond .ne 15, 3) := by decide +kernel
theorem dL_law_1111 : decode cL_law 1111 = .ok (.aload_n 3, 1) := by decide +kernel
theorem dL_law_1112 : decode cL_law 1112 = .ok (.iconst 0, 1) := by decide +kernel
theorem dL_law_1113 : decode cL_law 1113 = .ok (.laload, 1) := by decide +kernel
theorem dL_law_1114 : decode cL_law 1114 = .ok (.iload 6, 2) := by decide +kernel
theorem dL_law_1116 : decode cL_law 1116 = .ok (.i2l, 1) := by decide +kernel
theorem dL_law_1117 : decode cL_law 1117 = .ok (.lcmp, 1) := by decide +kernel
theorem dL_law_1118 : decode cL_law 1118 = .ok (.ifCond .eq 5, 3) := by decide +kernel
theorem dL_law_1121 : decode cL_law 1121 = .ok (.iconst 0, 1) := by decide +kernel
theorem dL_law_1122 : decode cL_law 1122 = .ok (.ireturn, 1) := by decide +kernel
theorem dL_law_1123 : decode cL_law 1123 = .ok (.goto 414, 3) := by decide +kernel
theorem dL_law_1126 : decode cL_law 1126 = .ok (.aload_n 1, 1) := by decide +kernel
theorem dL_law_1127 : decode cL_law 1127 = .ok (.aload_n 0, 1) := by decide +kernel
theorem dL_law_1128 : decode cL_law 1128 = .ok (.iload 4, 2) := by decide +kernel
theorem dL_law_1130 : decode cL_law 1130 = .ok (.iconst 1, 1) := by decide +kernel
theorem dL_law_1131 : decode cL_law 1131 = .ok (.iadd, 1) := by decide +kernel
theorem dL_law_1132 : decode cL_law 1132 = .ok (.iaload, 1) := by decide +kernel
theorem dL_law_1133 : decode cL_law 1133 = .ok (.aload_n 3, 1) := by decide +kernel
theorem dL_law_1134 : decode cL_law 1134 = .ok (.invokestatic 147, 3) := by decide +kernel
theorem dL_law_1137 : decode cL_law 1137 = .ok (.istore 5, 2) := by decide +kernel
theorem dL_law_1139 : decode cL_law 1139 = .ok (.aload_n 2, 1) := by decide +kernel
theorem dL_law_1140 : decode cL_law 1140 = .ok (.aload_n 0, 1) := by decide +kernel
theorem dL_law_1141 : decode cL_law 1141 = .ok (.iload 4, 2) := by decide +kernel
theorem dL_law_1143 : decode cL_law 1143 = .ok (.iconst 1, 1) := by decide +kernel
theorem dL_law_1144 : decode cL_law 1144 = .ok (.iadd, 1) := by decide +kernel
theorem dL_law_1145 : decode cL_law 1145 = .ok (.iaload, 1) := by decide +kernel
theorem dL_law_1146 : decode cL_law 1146 = .ok (.invokevirtual 149, 3) := by decide +kernel
theorem dL_law_1149 : decode cL_law 1149 = .ok (.istore 6, 2) := by decide +kernel
theorem dL_law_1151 : decode cL_law 1151 = .ok (.aload_n 2, 1) := by decide +kernel
theorem dL_law_1152 : decode cL_law 1152 = .ok (.invokevirtual 90, 3) := by decide +kernel
theorem dL_law_1155 : decode cL_law 1155 = .ok (.iload 5, 2) := by decide +kernel
theorem dL_law_1157 : decode cL_law 1157 = .ok (.if_icmp .eq 5, 3) := by decide +kernel
theorem dL_law_1160 : decode cL_law 1160 = .ok (.iconst 0, 1) := by decide +kernel
theorem dL_law_1161 : decode cL_law 1161 = .ok (.ireturn, 1) := by decide +kernel
theorem dL_law_1162 : decode cL_law 1162 = .ok (.iload 5, 2) := by decide +kernel
theorem dL_law_1164 : decode cL_law 1164 = .ok (.ifCond .ne 15, 3) := by decide +kernel
theorem dL_law_1167 : decode cL_law 1167 = .ok (.aload_n 3, 1) := by decide +kernel
theorem dL_law_1168 : decode cL_law 1168 = .ok (.iconst 0, 1) := by decide +kernel
theorem dL_law_1169 : decode cL_law 1169 = .ok (.laload, 1) := by decide +kernel
theorem dL_law_1170 : decode cL_law 1170 = .ok (.iload 6, 2) := by decide +kernel
theorem dL_law_1172 : decode cL_law 1172 = .ok (.i2l, 1) := by decide +kernel
theorem dL_law_1173 : decode cL_law 1173 = .ok (.lcmp, 1) := by decide +kernel
theorem dL_law_1174 : decode cL_law 1174 = .ok (.ifCond .eq 5, 3) := by decide +kernel
theorem dL_law_1177 : decode cL_law 1177 = .ok (.iconst 0, 1) := by decide +kernel
theorem dL_law_1178 : decode cL_law 1178 = .ok (.ireturn, 1) := by decide +kernel
theorem dL_law_1179 : decode cL_law 1179 = .ok (.goto 358, 3) := by decide +kernel
theorem dL_law_1182 : decode cL_law 1182 = .ok (.aload_n 1, 1) := by decide +kernel
theorem dL_law_1183 : decode cL_law 1183 = .ok (.aload_n 0, 1) := by decide +kernel
theorem dL_law_1184 : decode cL_law 1184 = .ok (.iload 4, 2) := by decide +kernel
theorem dL_law_1186 : decode cL_law 1186 = .ok (.iconst 1, 1) := by decide +kernel
theorem dL_law_1187 : decode cL_law 1187 = .ok (.iadd, 1) := by decide +kernel
theorem dL_law_1188 : decode cL_law 1188 = .ok (.iaload, 1) := by decide +kernel
theorem dL_law_1189 : decode cL_law 1189 = .ok (.aload_n 0, 1) := by decide +kernel
theorem dL_law_1190 : decode cL_law 1190 = .ok (.iload 4, 2) := by decide +kernel
theorem dL_law_1192 : decode cL_law 1192 = .ok (.iconst 2, 1) := by decide +kernel
theorem dL_law_1193 : decode cL_law 1193 = .ok (.iadd, 1) := by decide +kernel
theorem dL_law_1194 : decode cL_law 1194 = .ok (.iaload, 1) := by decide +kernel
theorem dL_law_1195 : decode cL_law 1195 = .ok (.aload_n 0, 1) := by decide +kernel
theorem dL_law_1196 : decode cL_law 1196 = .ok (.iload 4, 2) := by decide +kernel
theorem dL_law_1198 : decode cL_law 1198 = .ok (.iconst 3, 1) := by decide +kernel
theorem dL_law_1199 : decode cL_law 1199 = .ok (.iadd, 1) := by decide +kernel
theorem dL_law_1200 : decode cL_law 1200 = .ok (.iaload, 1) := by decide +kernel
theorem dL_law_1201 : decode cL_law 1201 = .ok (.aload_n 0, 1) := by decide +kernel
theorem dL_law_1202 : decode cL_law 1202 = .ok (.iload 4, 2) := by decide +kernel
theorem dL_law_1204 : decode cL_law 1204 = .ok (.iconst 4, 1) := by decide +kernel
theorem dL_law_1205 : decode cL_law 1205 = .ok (.iadd, 1) := by decide +kernel
theorem dL_law_1206 : decode cL_law 1206 = .ok (.iaload, 1) := by decide +kernel
theorem dL_law_1207 : decode cL_law 1207 = .ok (.ifCond .eq 7, 3) := by decide +kernel
theorem dL_law_1210 : decode cL_law 1210 = .ok (.iconst 1, 1) := by decide +kernel
theorem dL_law_1211 : decode cL_law 1211 = .ok (.goto 4, 3) := by decide +kernel
theorem dL_law_1214 : decode cL_law 1214 = .ok (.iconst 0, 1) := by decide +kernel
theorem dL_law_1215 : decode cL_law 1215 = .ok (.aload_n 3, 1) := by decide +kernel
theorem dL_law_1216 : decode cL_law 1216 = .ok (.invokestatic 150, 3) := by decide +kernel
theorem dL_law_1219 : decode cL_law 1219 = .ok (.istore 5, 2) := by decide +kernel
theorem dL_law_1221 : decode cL_law 1221 = .ok (.aload_n 2, 1) := by decide +kernel
theorem dL_law_1222 : decode cL_law 1222 = .ok (.aload_n 0, 1) := by decide +kernel
theorem dL_law_1223 : decode cL_law 1223 = .ok (.iload 4, 2) := by decide +kernel
theorem dL_law_1225 : decode cL_law 1225 = .ok (.iconst 1, 1) := by decide +kernel
theorem dL_law_1226 : decode cL_law 1226 = .ok (.iadd, 1) := by decide +kernel
theorem dL_law_1227 : decode cL_law 1227 = .ok (.iaload, 1) := by decide +kernel
theorem dL_law_1228 : decode cL_law 1228 = .ok (.aload_n 0, 1) := by decide +kernel
theorem dL_law_1229 : decode cL_law 1229 = .ok (.iload 4, 2) := by decide +kernel
theorem dL_law_1231 : decode cL_law 1231 = .ok (.iconst 2, 1) := by decide +kernel
theorem dL_law_1232 : decode cL_law 1232 = .ok (.iadd, 1) := by decide +kernel
theorem dL_law_1233 : decode cL_law 1233 = .ok (.iaload, 1) := by decide +kernel
theorem dL_law_1234 : decode cL_law 1234 = .ok (.aload_n 0, 1) := by decide +kernel
theorem dL_law_1235 : decode cL_law 1235 = .ok (.iload 4, 2) := by decide +kernel
theorem dL_law_1237 : decode cL_law 1237 = .ok (.iconst 3, 1) := by decide +kernel
theorem dL_law_1238 : decode cL_law 1238 = .ok (.iadd, 1) := by decide +kernel
theorem dL_law_1239 : decode cL_law 1239 = .ok (.iaload, 1) := by decide +kernel
theorem dL_law_1240 : decode cL_law 1240 = .ok (.aload_n 0, 1) := by decide +kernel
theorem dL_law_1241 : decode cL_law 1241 = .ok (.iload 4, 2) := by decide +kernel
theorem dL_law_1243 : decode cL_law 1243 = .ok (.iconst 4, 1) := by decide +kernel
theorem dL_law_1244 : decode cL_law 1244 = .ok (.iadd, 1) := by decide +kernel
theorem dL_law_1245 : decode cL_law 1245 = .ok (.iaload, 1) := by decide +kernel
theorem dL_law_1246 : decode cL_law 1246 = .ok (.ifCond .eq 7, 3) := by decide +kernel
theorem dL_law_1249 : decode cL_law 1249 = .ok (.iconst 1, 1) := by decide +kernel
theorem dL_law_1250 : decode cL_law 1250 = .ok (.goto 4, 3) := by decide +kernel
theorem dL_law_1253 : decode cL_law 1253 = .ok (.iconst 0, 1) := by decide +kernel
theorem dL_law_1254 : decode cL_law 1254 = .ok (.invokevirtual 152, 3) := by decide +kernel
theorem dL_law_1257 : decode cL_law 1257 = .ok (.istore 6, 2) := by decide +kernel
theorem dL_law_1259 : decode cL_law 1259 = .ok (.aload_n 2, 1) := by decide +kernel
theorem dL_law_1260 : decode cL_law 1260 = .ok (.invokevirtual 90, 3) := by decide +kernel
theorem dL_law_1263 : decode cL_law 1263 = .ok (.iload 5, 2) := by decide +kernel
theorem dL_law_1265 : decode cL_law 1265 = .ok (.if_icmp .eq 5, 3) := by decide +kernel
theorem dL_law_1268 : decode cL_law 1268 = .ok (.iconst 0, 1) := by decide +kernel
theorem dL_law_1269 : decode cL_law 1269 = .ok (.ireturn, 1) := by decide +kernel
theorem dL_law_1270 : decode cL_law 1270 = .ok (.iload 5, 2) := by decide +kernel
theorem dL_law_1272 : decode cL_law 1272 = .ok (.ifCond .ne 15, 3) := by decide +kernel
theorem dL_law_1275 : decode cL_law 1275 = .ok (.aload_n 3, 1) := by decide +kernel
theorem dL_law_1276 : decode cL_law 1276 = .ok (.iconst 0, 1) := by decide +kernel
theorem dL_law_1277 : decode cL_law 1277 = .ok (.laload, 1) := by decide +kernel
theorem dL_law_1278 : decode cL_law 1278 = .ok (.iload 6, 2) := by decide +kernel
theorem dL_law_1280 : decode cL_law 1280 = .ok (.i2l, 1) := by decide +kernel
theorem dL_law_1281 : decode cL_law 1281 = .ok (.lcmp, 1) := by decide +kernel
theorem dL_law_1282 : decode cL_law 1282 = .ok (.ifCond .eq 5, 3) := by decide +kernel
theorem dL_law_1285 : decode cL_law 1285 = .ok (.iconst 0, 1) := by decide +kernel
theorem dL_law_1286 : decode cL_law 1286 = .ok (.ireturn, 1) := by decide +kernel
theorem dL_law_1287 : decode cL_law 1287 = .ok (.goto 250, 3) := by decide +kernel
theorem dL_law_1290 : decode cL_law 1290 = .ok (.aload_n 1, 1) := by decide +kernel
theorem dL_law_1291 : decode cL_law 1291 = .ok (.aload_n 0, 1) := by decide +kernel
theorem dL_law_1292 : decode cL_law 1292 = .ok (.iload 4, 2) := by decide +kernel
theorem dL_law_1294 : decode cL_law 1294 = .ok (.iconst 1, 1) := by decide +kernel
theorem dL_law_1295 : decode cL_law 1295 = .ok (.iadd, 1) := by decide +kernel
theorem dL_law_1296 : decode cL_law 1296 = .ok (.iaload, 1) := by decide +kernel
theorem dL_law_1297 : decode cL_law 1297 = .ok (.aload_n 3, 1) := by decide +kernel
theorem dL_law_1298 : decode cL_law 1298 = .ok (.invokestatic 153, 3) := by decide +kernel
theorem dL_law_1301 : decode cL_law 1301 = .ok (.istore 5, 2) := by decide +kernel
theorem dL_law_1303 : decode cL_law 1303 = .ok (.aload_n 2, 1) := by decide +kernel
theorem dL_law_1304 : decode cL_law 1304 = .ok (.aload_n 0, 1) := by decide +kernel
theorem dL_law_1305 : decode cL_law 1305 = .ok (.iload 4, 2) := by decide +kernel
theorem dL_law_1307 : decode cL_law 1307 = .ok (.iconst 1, 1) := by decide +kernel
theorem dL_law_1308 : decode cL_law 1308 = .ok (.iadd, 1) := by decide +kernel
theorem dL_law_1309 : decode cL_law 1309 = .ok (.iaload, 1) := by decide +kernel
theorem dL_law_1310 : decode cL_law 1310 = .ok (.invokevirtual 155, 3) := by decide +kernel
theorem dL_law_1313 : decode cL_law 1313 = .ok (.istore 6, 2) := by decide +kernel
theorem dL_law_1315 : decode cL_law 1315 = .ok (.aload_n 2, 1) := by decide +kernel
theorem dL_law_1316 : decode cL_law 1316 = .ok (.invokevirtual 90, 3) := by decide +kernel
theorem dL_law_1319 : decode cL_law 1319 = .ok (.iload 5, 2) := by decide +kernel
theorem dL_law_1321 : decode cL_law 1321 = .ok (.if_icmp .eq 5, 3) := by decide +kernel
theorem dL_law_1324 : decode cL_law 1324 = .ok (.iconst 0, 1) := by decide +kernel
theorem dL_law_1325 : decode cL_law 1325 = .ok (.ireturn, 1) := by decide +kernel
theorem dL_law_1326 : decode cL_law 1326 = .ok (.iload 5, 2) := by decide +kernel
theorem dL_law_1328 : decode cL_law 1328 = .ok (.ifCond .ne 15, 3) := by decide +kernel
theorem dL_law_1331 : decode cL_law 1331 = .ok (.aload_n 3, 1) := by decide +kernel
theorem dL_law_1332 : decode cL_law 1332 = .ok (.iconst 0, 1) := by decide +kernel
theorem dL_law_1333 : decode cL_law 1333 = .ok (.laload, 1) := by decide +kernel
theorem dL_law_1334 : decode cL_law 1334 = .ok (.iload 6, 2) := by decide +kernel
theorem dL_law_1336 : decode cL_law 1336 = .ok (.i2l, 1) := by decide +kernel
theorem dL_law_1337 : decode cL_law 1337 = .ok (.lcmp, 1) := by decide +kernel
theorem dL_law_1338 : decode cL_law 1338 = .ok (.ifCond .eq 5, 3) := by decide +kernel
theorem dL_law_1341 : decode cL_law 1341 = .ok (.iconst 0, 1) := by decide +kernel
theorem dL_law_1342 : decode cL_law 1342 = .ok (.ireturn, 1) := by decide +kernel
theorem dL_law_1343 : decode cL_law 1343 = .ok (.goto 194, 3) := by decide +kernel
theorem dL_law_1346 : decode cL_law 1346 = .ok (.aload_n 1, 1) := by decide +kernel
theorem dL_law_1347 : decode cL_law 1347 = .ok (.aload_n 0, 1) := by decide +kernel
theorem dL_law_1348 : decode cL_law 1348 = .ok (.iload 4, 2) := by decide +kernel
theorem dL_law_1350 : decode cL_law 1350 = .ok (.iconst 1, 1) := by decide +kernel
theorem dL_law_1351 : decode cL_law 1351 = .ok (.iadd, 1) := by decide +kernel
theorem dL_law_1352 : decode cL_law 1352 = .ok (.iaload, 1) := by decide +kernel
theorem dL_law_1353 : decode cL_law 1353 = .ok (.aload_n 0, 1) := by decide +kernel
theorem dL_law_1354 : decode cL_law 1354 = .ok (.iload 4, 2) := by decide +kernel
theorem dL_law_1356 : decode cL_law 1356 = .ok (.iconst 2, 1) := by decide +kernel
theorem dL_law_1357 : decode cL_law 1357 = .ok (.iadd, 1) := by decide +kernel
theorem dL_law_1358 : decode cL_law 1358 = .ok (.iaload, 1) := by decide +kernel
theorem dL_law_1359 : decode cL_law 1359 = .ok (.aload_n 3, 1) := by decide +kernel
theorem dL_law_1360 : decode cL_law 1360 = .ok (.invokestatic 156, 3) := by decide +kernel
theorem dL_law_1363 : decode cL_law 1363 = .ok (.istore 5, 2) := by decide +kernel
theorem dL_law_1365 : decode cL_law 1365 = .ok (.aload_n 2, 1) := by decide +kernel
theorem dL_law_1366 : decode cL_law 1366 = .ok (.aload_n 0, 1) := by decide +kernel
theorem dL_law_1367 : decode cL_law 1367 = .ok (.iload 4, 2) := by decide +kernel
theorem dL_law_1369 : decode cL_law 1369 = .ok (.iconst 1, 1) := by decide +kernel
theorem dL_law_1370 : decode cL_law 1370 = .ok (.iadd, 1) := by decide +kernel
theorem dL_law_1371 : decode cL_law 1371 = .ok (.iaload, 1) := by decide +kernel
theorem dL_law_1372 : decode cL_law 1372 = .ok (.aload_n 0, 1) := by decide +kernel
theorem dL_law_1373 : decode cL_law 1373 = .ok (.iload 4, 2) := by decide +kernel
theorem dL_law_1375 : decode cL_law 1375 = .ok (.iconst 2, 1) := by decide +kernel
theorem dL_law_1376 : decode cL_law 1376 = .ok (.iadd, 1) := by decide +kernel
theorem dL_law_1377 : decode cL_law 1377 = .ok (.iaload, 1) := by decide +kernel
theorem dL_law_1378 : decode cL_law 1378 = .ok (.invokevirtual 158, 3) := by decide +kernel
theorem dL_law_1381 : decode cL_law 1381 = .ok (.istore 6, 2) := by decide +kernel
theorem dL_law_1383 : decode cL_law 1383 = .ok (.aload_n 2, 1) := by decide +kernel
theorem dL_law_1384 : decode cL_law 1384 = .ok (.invokevirtual 90, 3) := by decide +kernel
theorem dL_law_1387 : decode cL_law 1387 = .ok (.iload 5, 2) := by decide +kernel
theorem dL_law_1389 : decode cL_law 1389 = .ok (.if_icmp .eq 5, 3) := by decide +kernel
theorem dL_law_1392 : decode cL_law 1392 = .ok (.iconst 0, 1) := by decide +kernel
theorem dL_law_1393 : decode cL_law 1393 = .ok (.ireturn, 1) := by decide +kernel
theorem dL_law_1394 : decode cL_law 1394 = .ok (.iload 5, 2) := by decide +kernel
theorem dL_law_1396 : decode cL_law 1396 = .ok (.ifCond .ne 15, 3) := by decide +kernel
theorem dL_law_1399 : decode cL_law 1399 = .ok (.aload_n 3, 1) := by decide +kernel
theorem dL_law_1400 : decode cL_law 1400 = .ok (.iconst 0, 1) := by decide +kernel
theorem dL_law_1401 : decode cL_law 1401 = .ok (.laload, 1) := by decide +kernel
theorem dL_law_1402 : decode cL_law 1402 = .ok (.iload 6, 2) := by decide +kernel
theorem dL_law_1404 : decode cL_law 1404 = .ok (.i2l, 1) := by decide +kernel
theorem dL_law_1405 : decode cL_law 1405 = .ok (.lcmp, 1) := by decide +kernel
theorem dL_law_1406 : decode cL_law 1406 = .ok (.ifCond .eq 5, 3) := by decide +kernel
theorem dL_law_1409 : decode cL_law 1409 = .ok (.iconst 0, 1) := by decide +kernel
theorem dL_law_1410 : decode cL_law 1410 = .ok (.ireturn, 1) := by decide +kernel
theorem dL_law_1411 : decode cL_law 1411 = .ok (.goto 126, 3) := by decide +kernel
theorem dL_law_1414 : decode cL_law 1414 = .ok (.aload_n 1, 1) := by decide +kernel
theorem dL_law_1415 : decode cL_law 1415 = .ok (.aload_n 0, 1) := by decide +kernel
theorem dL_law_1416 : decode cL_law 1416 = .ok (.iload 4, 2) := by decide +kernel
theorem dL_law_1418 : decode cL_law 1418 = .ok (.iconst 1, 1) := by decide +kernel
theorem dL_law_1419 : decode cL_law 1419 = .ok (.iadd, 1) := by decide +kernel
theorem dL_law_1420 : decode cL_law 1420 = .ok (.iaload, 1) := by decide +kernel
theorem dL_law_1421 : decode cL_law 1421 = .ok (.aload_n 0, 1) := by decide +kernel
theorem dL_law_1422 : decode cL_law 1422 = .ok (.iload 4, 2) := by decide +kernel
theorem dL_law_1424 : decode cL_law 1424 = .ok (.iconst 2, 1) := by decide +kernel
theorem dL_law_1425 : decode cL_law 1425 = .ok (.iadd, 1) := by decide +kernel
theorem dL_law_1426 : decode cL_law 1426 = .ok (.iaload, 1) := by decide +kernel
theorem dL_law_1427 : decode cL_law 1427 = .ok (.aload_n 3, 1) := by decide +kernel
theorem dL_law_1428 : decode cL_law 1428 = .ok (.invokestatic 159, 3) := by decide +kernel
theorem dL_law_1431 : decode cL_law 1431 = .ok (.istore 5, 2) := by decide +kernel
theorem dL_law_1433 : decode cL_law 1433 = .ok (.aload_n 2, 1) := by decide +kernel
theorem dL_law_1434 : decode cL_law 1434 = .ok (.aload_n 0, 1) := by decide +kernel
theorem dL_law_1435 : decode cL_law 1435 = .ok (.iload 4, 2) := by decide +kernel
theorem dL_law_1437 : decode cL_law 1437 = .ok (.iconst 1, 1) := by decide +kernel
theorem dL_law_1438 : decode cL_law 1438 = .ok (.iadd, 1) := by decide +kernel
theorem dL_law_1439 : decode cL_law 1439 = .ok (.iaload, 1) := by decide +kernel
theorem dL_law_1440 : decode cL_law 1440 = .ok (.aload_n 0, 1) := by decide +kernel
theorem dL_law_1441 : decode cL_law 1441 = .ok (.iload 4, 2) := by decide +kernel
theorem dL_law_1443 : decode cL_law 1443 = .ok (.iconst 2, 1) := by decide +kernel
theorem dL_law_1444 : decode cL_law 1444 = .ok (.iadd, 1) := by decide +kernel
theorem dL_law_1445 : decode cL_law 1445 = .ok (.iaload, 1) := by decide +kernel
theorem dL_law_1446 : decode cL_law 1446 = .ok (.invokevirtual 161, 3) := by decide +kernel
theorem dL_law_1449 : decode cL_law 1449 = .ok (.istore 6, 2) := by decide +kernel
theorem dL_law_1451 : decode cL_law 1451 = .ok (.aload_n 2, 1) := by decide +kernel
theorem dL_law_1452 : decode cL_law 1452 = .ok (.invokevirtual 90, 3) := by decide +kernel
theorem dL_law_1455 : decode cL_law 1455 = .ok (.iload 5, 2) := by decide +kernel
theorem dL_law_1457 : decode cL_law 1457 = .ok (.if_icmp .eq 5, 3) := by decide +kernel
theorem dL_law_1460 : decode cL_law 1460 = .ok (.iconst 0, 1) := by decide +kernel
theorem dL_law_1461 : decode cL_law 1461 = .ok (.ireturn, 1) := by decide +kernel
theorem dL_law_1462 : decode cL_law 1462 = .ok (.iload 5, 2) := by decide +kernel
theorem dL_law_1464 : decode cL_law 1464 = .ok (.ifCond .ne 15, 3) := by decide +kernel
theorem dL_law_1467 : decode cL_law 1467 = .ok (.aload_n 3, 1) := by decide +kernel
theorem dL_law_1468 : decode cL_law 1468 = .ok (.iconst 0, 1) := by decide +kernel
theorem dL_law_1469 : decode cL_law 1469 = .ok (.laload, 1) := by decide +kernel
theorem dL_law_1470 : decode cL_law 1470 = .ok (.iload 6, 2) := by decide +kernel
theorem dL_law_1472 : decode cL_law 1472 = .ok (.i2l, 1) := by decide +kernel
theorem dL_law_1473 : decode cL_law 1473 = .ok (.lcmp, 1) := by decide +kernel
theorem dL_law_1474 : decode cL_law 1474 = .ok (.ifCond .eq 5, 3) := by decide +kernel
theorem dL_law_1477 : decode cL_law 1477 = .ok (.iconst 0, 1) := by decide +kernel
theorem dL_law_1478 : decode cL_law 1478 = .ok (.ireturn, 1) := by decide +kernel
theorem dL_law_1479 : decode cL_law 1479 = .ok (.goto 58, 3) := by decide +kernel
theorem dL_law_1482 : decode cL_law 1482 = .ok (.aload_n 1, 1) := by decide +kernel
theorem dL_law_1483 : decode cL_law 1483 = .ok (.invokevirtual 162, 3) := by decide +kernel
theorem dL_law_1486 : decode cL_law 1486 = .ok (.dstore 5, 2) := by decide +kernel
theorem dL_law_1488 : decode cL_law 1488 = .ok (.aload_n 2, 1) := by decide +kernel
theorem dL_law_1489 : decode cL_law 1489 = .ok (.invokevirtual 166, 3) := by decide +kernel
theorem dL_law_1492 : decode cL_law 1492 = .ok (.dstore 7, 2) := by decide +kernel
theorem dL_law_1494 : decode cL_law 1494 = .ok (.dload 5, 2) := by decide +kernel
theorem dL_law_1496 : decode cL_law 1496 = .ok (.dload 7, 2) := by decide +kernel
theorem dL_law_1498 : decode cL_law 1498 = .ok (.dcmp .l, 1) := by decide +kernel
theorem dL_law_1499 : decode cL_law 1499 = .ok (.ifCond .eq 21, 3) := by decide +kernel
theorem dL_law_1502 : decode cL_law 1502 = .ok (.dload 5, 2) := by decide +kernel
theorem dL_law_1504 : decode cL_law 1504 = .ok (.dload 5, 2) := by decide +kernel
theorem dL_law_1506 : decode cL_law 1506 = .ok (.dcmp .l, 1) := by decide +kernel
theorem dL_law_1507 : decode cL_law 1507 = .ok (.ifCond .eq 11, 3) := by decide +kernel
theorem dL_law_1510 : decode cL_law 1510 = .ok (.dload 7, 2) := by decide +kernel
theorem dL_law_1512 : decode cL_law 1512 = .ok (.dload 7, 2) := by decide +kernel
theorem dL_law_1514 : decode cL_law 1514 = .ok (.dcmp .l, 1) := by decide +kernel
theorem dL_law_1515 : decode cL_law 1515 = .ok (.ifCond .ne 5, 3) := by decide +kernel
theorem dL_law_1518 : decode cL_law 1518 = .ok (.iconst 0, 1) := by decide +kernel
theorem dL_law_1519 : decode cL_law 1519 = .ok (.ireturn, 1) := by decide +kernel
theorem dL_law_1520 : decode cL_law 1520 = .ok (.goto 17, 3) := by decide +kernel
theorem dL_law_1523 : decode cL_law 1523 = .ok (.aload_n 1, 1) := by decide +kernel
theorem dL_law_1524 : decode cL_law 1524 = .ok (.invokevirtual 167, 3) := by decide +kernel
theorem dL_law_1527 : decode cL_law 1527 = .ok (.aload_n 2, 1) := by decide +kernel
theorem dL_law_1528 : decode cL_law 1528 = .ok (.invokevirtual 171, 3) := by decide +kernel
theorem dL_law_1531 : decode cL_law 1531 = .ok (.lcmp, 1) := by decide +kernel
theorem dL_law_1532 : decode cL_law 1532 = .ok (.ifCond .eq 5, 3) := by decide +kernel
theorem dL_law_1535 : decode cL_law 1535 = .ok (.iconst 0, 1) := by decide +kernel
theorem dL_law_1536 : decode cL_law 1536 = .ok (.ireturn, 1) := by decide +kernel
theorem dL_law_1537 : decode cL_law 1537 = .ok (.iinc 4 5, 3) := by decide +kernel
theorem dL_law_1540 : decode cL_law 1540 = .ok (.goto (-1517), 3) := by decide +kernel
theorem dL_law_1543 : decode cL_law 1543 = .ok (.iconst 1, 1) := by decide +kernel
theorem dL_law_1544 : decode cL_law 1544 = .ok (.ireturn, 1) := by decide +kernel
end
section
/-! THE STORE: ints by cell and place, longs by cell; cells are told by their offset from the first one -/
abbrev St : Type := (Nat → Nat → Int32) × (Nat → Int64)
def sI (σ : St) (c k : Nat) (v : Int32) : St := (fun i => if i = c then upd (σ.1 i) k v else σ.1 i, σ.2)
def sL (σ : St) (c : Nat) (v : Int64) : St := (σ.1, fun i => if i = c then v else σ.2 i)
theorem sI_at (σ : St) (c k : Nat) (v : Int32) : (sI σ c k v).1 c = upd (σ.1 c) k v := if_pos rfl
theorem sI_ne (σ : St) {c i : Nat} (k : Nat) (v : Int32) (h : i ≠ c) : (sI σ c k v).1 i = σ.1 i := if_neg h
theorem sI_2 (σ : St) (c k : Nat) (v : Int32) : (sI σ c k v).2 = σ.2 := rfl
theorem sL_1 (σ : St) (c : Nat) (v : Int64) : (sL σ c v).1 = σ.1 := rfl
theorem sL_at (σ : St) (c : Nat) (v : Int64) : (sL σ c v).2 c = v := if_pos rfl
theorem sL_ne (σ : St) {c i : Nat} (v : Int64) (h : i ≠ c) : (sL σ c v).2 i = σ.2 i := if_neg h
/-! the fixed shape: the kind of each cell (0 to 7 objects by vwCl, 8 int[], 9 boolean[], 10 long[], 11 State[], 12 Council[]), the lengths of the arrays -/
def NC : Nat := 236
def kdl : List Nat := [6, 5, 4, 8, 4, 8, 4, 8, 4, 8, 4, 8, 4, 8, 4, 8, 4, 8, 4, 8, 1, 11, 5, 4, 8, 4, 8, 4, 8, 4, 8, 4, 8, 4, 8, 4, 8, 4, 8, 4, 8, 5, 4, 8, 4, 8, 4, 8, 4, 8, 4, 8, 4, 8, 4, 8, 4, 8, 4, 8, 5, 4, 8, 4, 8, 4, 8, 4, 8, 4, 8, 4, 8, 4, 8, 4, 8, 4, 8, 5, 4, 8, 4, 8, 4, 8, 4, 8, 4, 8, 4, 8, 4, 8, 4, 8, 4, 8, 5, 4, 8, 4, 8, 4, 8, 4, 8, 4, 8, 4, 8, 4, 8, 4, 8, 4, 8, 5, 4, 8, 4, 8, 4, 8, 4, 8, 4, 8, 4, 8, 4, 8, 4, 8, 4, 8, 4, 8, 2, 3, 4, 8, 4, 8, 0, 3, 4, 8, 4, 8, 3, 4, 8, 4, 8, 3, 4, 8, 4, 8, 0, 3, 4, 8, 4, 8, 3, 4, 8, 4, 8, 3, 4, 8, 4, 8, 12, 0, 3, 4, 8, 4, 8, 3, 4, 8, 4, 8, 3, 4, 8, 4, 8, 0, 3, 4, 8, 4, 8, 3, 4, 8, 4, 8, 3, 4, 8, 4, 8, 0, 3, 4, 8, 4, 8, 3, 4, 8, 4, 8, 3, 4, 8, 4, 8, 7, 8, 8, 8, 8, 8, 9, 8, 8, 8, 10]
def alnl : List Nat := [0, 0, 0, 10, 0, 10, 0, 10, 0, 10, 0, 3, 0, 5, 0, 5, 0, 5, 0, 50, 0, 6, 0, 0, 10, 0, 10, 0, 10, 0, 10, 0, 3, 0, 5, 0, 5, 0, 5, 0, 50, 0, 0, 10, 0, 10, 0, 10, 0, 10, 0, 3, 0, 5, 0, 5, 0, 5, 0, 50, 0, 0, 10, 0, 10, 0, 10, 0, 10, 0, 3, 0, 5, 0, 5, 0, 5, 0, 50, 0, 0, 10, 0, 10, 0, 10, 0, 10, 0, 3, 0, 5, 0, 5, 0, 5, 0, 50, 0, 0, 10, 0, 10, 0, 10, 0, 10, 0, 3, 0, 5, 0, 5, 0, 5, 0, 50, 0, 0, 10, 0, 10, 0, 10, 0, 10, 0, 3, 0, 5, 0, 5, 0, 5, 0, 50, 0, 60, 0, 0, 0, 10, 0, 10, 0, 0, 0, 10, 0, 10, 0, 0, 10, 0, 10, 0, 0, 10, 0, 10, 0, 0, 0, 10, 0, 10, 0, 0, 10, 0, 10, 0, 0, 10, 0, 10, 3, 0, 0, 0, 10, 0, 10, 0, 0, 10, 0, 10, 0, 0, 10, 0, 10, 0, 0, 0, 10, 0, 10, 0, 0, 10, 0, 10, 0, 0, 10, 0, 10, 0, 0, 0, 10, 0, 10, 0, 0, 10, 0, 10, 0, 0, 10, 0, 10, 0, 111, 666, 60, 10, 10, 366, 30, 4, 10, 1]
def kd (i : Nat) : Nat := kdl.getD i 99
def aln (i : Nat) : Nat := alnl.getD i 0
set_option maxRecDepth 20000 in
theorem kd_lt {i k : Nat} (h : kd i = k) (hk : k < 99) : i < NC := by
  rcases Nat.lt_or_ge i NC with q | q
  · exact q
  · have h2 : kd i = 99 := by
      show kdl.getD i 99 = 99
      have h3 : kdl.length = NC := by decide +kernel
      rw [List.getD_eq_getElem?_getD, List.getElem?_eq_none (by omega)]
      rfl
    omega
set_option maxRecDepth 20000 in
theorem aln_lt (i : Nat) : aln i ≤ 666 := by
  have h : ∀ x ∈ alnl, x ≤ 666 := by decide +kernel
  show alnl.getD i 0 ≤ 666
  rw [List.getD_eq_getElem?_getD]
  cases hq : alnl[i]? with
  | none => exact Nat.zero_le _
  | some x => exact h x (List.mem_of_getElem? hq)
abbrev GG : Type := va_G × (Nat → ClassId)
def tysG (G : GG) : List (ClassId × FieldType) := [(G.2 0, .int), (G.2 1, .boolean), (G.2 2, .long), (G.2 3, .object "RunicSticks$State"), (G.2 4, .object "RunicSticks$Council")]
def shp (G : GG) (B : Nat) (σ : St) (i : Nat) : va_E := if kd i = 0 then .inr (0, [.ref (B + (i + 1)), .ref (B + (i + 6)), .ref (B + (i + 11))]) else if kd i = 1 then .inr (1, [.ref (B + (i + 1)), .int (σ.1 i 1), .int (σ.1 i 2)]) else if kd i = 2 then .inr (2, [.int (σ.1 i 0), .int (σ.1 i 1), .int (σ.1 i 2), .int (σ.1 i 3), .int (σ.1 i 4), .int (σ.1 i 5)]) else if kd i = 3 then .inr (3, [.ref (B + (i + 1)), .ref (B + (i + 3)), .int (σ.1 i 2), .int (σ.1 i 3), .int (σ.1 i 4)]) else if kd i = 4 then .inr (4, [.ref (B + (i + 1))]) else if kd i = 5 then .inr (5, [.int (σ.1 i 0), .ref (B + (i + 1)), .ref (B + (i + 3)), .ref (B + (i + 5)), .ref (B + (i + 7)), .ref (B + (i + 9)), .int (σ.1 i 6), .int (σ.1 i 7), .ref (B + (i + 11)), .ref (B + (i + 13)), .ref (B + (i + 15)), .ref (B + (i + 17))]) else if kd i = 6 then .inr (6, [.ref (B + 1), .ref (B + 20), .ref (B + 136), .ref (B + 138), .ref (B + 139), .ref (B + 144), .ref (B + 160), .ref (B + 176), .int (σ.1 i 8)]) else if kd i = 7 then .inr (7, [.int (σ.1 i 0), .ref (B + 226), .ref (B + 227), .int (σ.1 i 3), .ref (B + 228), .int (σ.1 i 5), .ref (B + 229), .ref (B + 230), .ref (B + 231), .ref (B + 232), .int (σ.1 i 10), .int (σ.1 i 11), .ref (B + 233), .ref (B + 234), .long (σ.2 i)]) else if kd i = 8 then .inl (G.2 0, aln i, .inl (σ.1 i)) else if kd i = 9 then .inl (G.2 1, aln i, .inl (σ.1 i)) else if kd i = 10 then .inl (G.2 2, aln i, .inr (.inl (fun _ => σ.2 i))) else if kd i = 11 then .inl (G.2 3, aln i, .inr (.inr (.inr (.inr (fun j => some (B + (22 + 19 * j))))))) else if kd i = 12 then .inl (G.2 4, aln i, .inr (.inr (.inr (.inr (fun j => some (B + (177 + 16 * j))))))) else .inr (99, [])
theorem shp0 (G : GG) (B : Nat) (σ : St) {i : Nat} (h : kd i = 0) : shp G B σ i = .inr (0, [.ref (B + (i + 1)), .ref (B + (i + 6)), .ref (B + (i + 11))]) := by simp [shp, h]
theorem shp1 (G : GG) (B : Nat) (σ : St) {i : Nat} (h : kd i = 1) : shp G B σ i = .inr (1, [.ref (B + (i + 1)), .int (σ.1 i 1), .int (σ.1 i 2)]) := by simp [shp, h]
theorem shp2 (G : GG) (B : Nat) (σ : St) {i : Nat} (h : kd i = 2) : shp G B σ i = .inr (2, [.int (σ.1 i 0), .int (σ.1 i 1), .int (σ.1 i 2), .int (σ.1 i 3), .int (σ.1 i 4), .int (σ.1 i 5)]) := by simp [shp, h]
theorem shp3 (G : GG) (B : Nat) (σ : St) {i : Nat} (h : kd i = 3) : shp G B σ i = .inr (3, [.ref (B + (i + 1)), .ref (B + (i + 3)), .int (σ.1 i 2), .int (σ.1 i 3), .int (σ.1 i 4)]) := by simp [shp, h]
theorem shp4 (G : GG) (B : Nat) (σ : St) {i : Nat} (h : kd i = 4) : shp G B σ i = .inr (4, [.ref (B + (i + 1))]) := by simp [shp, h]
theorem shp5 (G : GG) (B : Nat) (σ : St) {i : Nat} (h : kd i = 5) : shp G B σ i = .inr (5, [.int (σ.1 i 0), .ref (B + (i + 1)), .ref (B + (i + 3)), .ref (B + (i + 5)), .ref (B + (i + 7)), .ref (B + (i + 9)), .int (σ.1 i 6), .int (σ.1 i 7), .ref (B + (i + 11)), .ref (B + (i + 13)), .ref (B + (i + 15)), .ref (B + (i + 17))]) := by simp [shp, h]
theorem shp6 (G : GG) (B : Nat) (σ : St) {i : Nat} (h : kd i = 6) : shp G B σ i = .inr (6, [.ref (B + 1), .ref (B + 20), .ref (B + 136), .ref (B + 138), .ref (B + 139), .ref (B + 144), .ref (B + 160), .ref (B + 176), .int (σ.1 i 8)]) := by simp [shp, h]
theorem shp7 (G : GG) (B : Nat) (σ : St) {i : Nat} (h : kd i = 7) : shp G B σ i = .inr (7, [.int (σ.1 i 0), .ref (B + 226), .ref (B + 227), .int (σ.1 i 3), .ref (B + 228), .int (σ.1 i 5), .ref (B + 229), .ref (B + 230), .ref (B + 231), .ref (B + 232), .int (σ.1 i 10), .int (σ.1 i 11), .ref (B + 233), .ref (B + 234), .long (σ.2 i)]) := by simp [shp, h]
theorem shp8 (G : GG) (B : Nat) (σ : St) {i : Nat} (h : kd i = 8) : shp G B σ i = .inl (G.2 0, aln i, .inl (σ.1 i)) := by simp [shp, h]
theorem shp9 (G : GG) (B : Nat) (σ : St) {i : Nat} (h : kd i = 9) : shp G B σ i = .inl (G.2 1, aln i, .inl (σ.1 i)) := by simp [shp, h]
theorem shp10 (G : GG) (B : Nat) (σ : St) {i : Nat} (h : kd i = 10) : shp G B σ i = .inl (G.2 2, aln i, .inr (.inl (fun _ => σ.2 i))) := by simp [shp, h]
theorem shp11 (G : GG) (B : Nat) (σ : St) {i : Nat} (h : kd i = 11) : shp G B σ i = .inl (G.2 3, aln i, .inr (.inr (.inr (.inr (fun j => some (B + (22 + 19 * j))))))) := by simp [shp, h]
theorem shp12 (G : GG) (B : Nat) (σ : St) {i : Nat} (h : kd i = 12) : shp G B σ i = .inl (G.2 4, aln i, .inr (.inr (.inr (.inr (fun j => some (B + (177 + 16 * j))))))) := by simp [shp, h]
theorem shp_ne (G : GG) (B : Nat) {σ σ2 : St} {j : Nat} (h1 : σ2.1 j = σ.1 j) (h2 : σ2.2 j = σ.2 j) : shp G B σ2 j = shp G B σ j := by simp only [shp, h1, h2]
theorem pf1_1 (G : GG) (B : Nat) (σ : St) {i : Nat} (h : kd i = 1) (v : Int32) : shp G B (sI σ i 1 v) i = .inr (1, ([.ref (B + (i + 1)), .int (σ.1 i 1), .int (σ.1 i 2)] : List Value).set 1 (.int v)) := by rw [shp1 G B _ h, sI_at]; rfl
theorem pf1_2 (G : GG) (B : Nat) (σ : St) {i : Nat} (h : kd i = 1) (v : Int32) : shp G B (sI σ i 2 v) i = .inr (1, ([.ref (B + (i + 1)), .int (σ.1 i 1), .int (σ.1 i 2)] : List Value).set 2 (.int v)) := by rw [shp1 G B _ h, sI_at]; rfl
theorem pf2_0 (G : GG) (B : Nat) (σ : St) {i : Nat} (h : kd i = 2) (v : Int32) : shp G B (sI σ i 0 v) i = .inr (2, ([.int (σ.1 i 0), .int (σ.1 i 1), .int (σ.1 i 2), .int (σ.1 i 3), .int (σ.1 i 4), .int (σ.1 i 5)] : List Value).set 0 (.int v)) := by rw [shp2 G B _ h, sI_at]; rfl
theorem pf2_1 (G : GG) (B : Nat) (σ : St) {i : Nat} (h : kd i = 2) (v : Int32) : shp G B (sI σ i 1 v) i = .inr (2, ([.int (σ.1 i 0), .int (σ.1 i 1), .int (σ.1 i 2), .int (σ.1 i 3), .int (σ.1 i 4), .int (σ.1 i 5)] : List Value).set 1 (.int v)) := by rw [shp2 G B _ h, sI_at]; rfl
theorem pf2_2 (G : GG) (B : Nat) (σ : St) {i : Nat} (h : kd i = 2) (v : Int32) : shp G B (sI σ i 2 v) i = .inr (2, ([.int (σ.1 i 0), .int (σ.1 i 1), .int (σ.1 i 2), .int (σ.1 i 3), .int (σ.1 i 4), .int (σ.1 i 5)] : List Value).set 2 (.int v)) := by rw [shp2 G B _ h, sI_at]; rfl
theorem pf2_3 (G : GG) (B : Nat) (σ : St) {i : Nat} (h : kd i = 2) (v : Int32) : shp G B (sI σ i 3 v) i = .inr (2, ([.int (σ.1 i 0), .int (σ.1 i 1), .int (σ.1 i 2), .int (σ.1 i 3), .int (σ.1 i 4), .int (σ.1 i 5)] : List Value).set 3 (.int v)) := by rw [shp2 G B _ h, sI_at]; rfl
theorem pf2_4 (G : GG) (B : Nat) (σ : St) {i : Nat} (h : kd i = 2) (v : Int32) : shp G B (sI σ i 4 v) i = .inr (2, ([.int (σ.1 i 0), .int (σ.1 i 1), .int (σ.1 i 2), .int (σ.1 i 3), .int (σ.1 i 4), .int (σ.1 i 5)] : List Value).set 4 (.int v)) := by rw [shp2 G B _ h, sI_at]; rfl
theorem pf2_5 (G : GG) (B : Nat) (σ : St) {i : Nat} (h : kd i = 2) (v : Int32) : shp G B (sI σ i 5 v) i = .inr (2, ([.int (σ.1 i 0), .int (σ.1 i 1), .int (σ.1 i 2), .int (σ.1 i 3), .int (σ.1 i 4), .int (σ.1 i 5)] : List Value).set 5 (.int v)) := by rw [shp2 G B _ h, sI_at]; rfl
theorem pf3_2 (G : GG) (B : Nat) (σ : St) {i : Nat} (h : kd i = 3) (v : Int32) : shp G B (sI σ i 2 v) i = .inr (3, ([.ref (B + (i + 1)), .ref (B + (i + 3)), .int (σ.1 i 2), .int (σ.1 i 3), .int (σ.1 i 4)] : List Value).set 2 (.int v)) := by rw [shp3 G B _ h, sI_at]; rfl
theorem pf3_3 (G : GG) (B : Nat) (σ : St) {i : Nat} (h : kd i = 3) (v : Int32) : shp G B (sI σ i 3 v) i = .inr (3, ([.ref (B + (i + 1)), .ref (B + (i + 3)), .int (σ.1 i 2), .int (σ.1 i 3), .int (σ.1 i 4)] : List Value).set 3 (.int v)) := by rw [shp3 G B _ h, sI_at]; rfl
theorem pf3_4 (G : GG) (B : Nat) (σ : St) {i : Nat} (h : kd i = 3) (v : Int32) : shp G B (sI σ i 4 v) i = .inr (3, ([.ref (B + (i + 1)), .ref (B + (i + 3)), .int (σ.1 i 2), .int (σ.1 i 3), .int (σ.1 i 4)] : List Value).set 4 (.int v)) := by rw [shp3 G B _ h, sI_at]; rfl
theorem pf5_0 (G : GG) (B : Nat) (σ : St) {i : Nat} (h : kd i = 5) (v : Int32) : shp G B (sI σ i 0 v) i = .inr (5, ([.int (σ.1 i 0), .ref (B + (i + 1)), .ref (B + (i + 3)), .ref (B + (i + 5)), .ref (B + (i + 7)), .ref (B + (i + 9)), .int (σ.1 i 6), .int (σ.1 i 7), .ref (B + (i + 11)), .ref (B + (i + 13)), .ref (B + (i + 15)), .ref (B + (i + 17))] : List Value).set 0 (.int v)) := by rw [shp5 G B _ h, sI_at]; rfl
theorem pf5_6 (G : GG) (B : Nat) (σ : St) {i : Nat} (h : kd i = 5) (v : Int32) : shp G B (sI σ i 6 v) i = .inr (5, ([.int (σ.1 i 0), .ref (B + (i + 1)), .ref (B + (i + 3)), .ref (B + (i + 5)), .ref (B + (i + 7)), .ref (B + (i + 9)), .int (σ.1 i 6), .int (σ.1 i 7), .ref (B + (i + 11)), .ref (B + (i + 13)), .ref (B + (i + 15)), .ref (B + (i + 17))] : List Value).set 6 (.int v)) := by rw [shp5 G B _ h, sI_at]; rfl
theorem pf5_7 (G : GG) (B : Nat) (σ : St) {i : Nat} (h : kd i = 5) (v : Int32) : shp G B (sI σ i 7 v) i = .inr (5, ([.int (σ.1 i 0), .ref (B + (i + 1)), .ref (B + (i + 3)), .ref (B + (i + 5)), .ref (B + (i + 7)), .ref (B + (i + 9)), .int (σ.1 i 6), .int (σ.1 i 7), .ref (B + (i + 11)), .ref (B + (i + 13)), .ref (B + (i + 15)), .ref (B + (i + 17))] : List Value).set 7 (.int v)) := by rw [shp5 G B _ h, sI_at]; rfl
theorem pf6_8 (G : GG) (B : Nat) (σ : St) {i : Nat} (h : kd i = 6) (v : Int32) : shp G B (sI σ i 8 v) i = .inr (6, ([.ref (B + 1), .ref (B + 20), .ref (B + 136), .ref (B + 138), .ref (B + 139), .ref (B + 144), .ref (B + 160), .ref (B + 176), .int (σ.1 i 8)] : List Value).set 8 (.int v)) := by rw [shp6 G B _ h, sI_at]; rfl
theorem pf7_0 (G : GG) (B : Nat) (σ : St) {i : Nat} (h : kd i = 7) (v : Int32) : shp G B (sI σ i 0 v) i = .inr (7, ([.int (σ.1 i 0), .ref (B + 226), .ref (B + 227), .int (σ.1 i 3), .ref (B + 228), .int (σ.1 i 5), .ref (B + 229), .ref (B + 230), .ref (B + 231), .ref (B + 232), .int (σ.1 i 10), .int (σ.1 i 11), .ref (B + 233), .ref (B + 234), .long (σ.2 i)] : List Value).set 0 (.int v)) := by rw [shp7 G B _ h, sI_at]; rfl
theorem pf7_3 (G : GG) (B : Nat) (σ : St) {i : Nat} (h : kd i = 7) (v : Int32) : shp G B (sI σ i 3 v) i = .inr (7, ([.int (σ.1 i 0), .ref (B + 226), .ref (B + 227), .int (σ.1 i 3), .ref (B + 228), .int (σ.1 i 5), .ref (B + 229), .ref (B + 230), .ref (B + 231), .ref (B + 232), .int (σ.1 i 10), .int (σ.1 i 11), .ref (B + 233), .ref (B + 234), .long (σ.2 i)] : List Value).set 3 (.int v)) := by rw [shp7 G B _ h, sI_at]; rfl
theorem pf7_5 (G : GG) (B : Nat) (σ : St) {i : Nat} (h : kd i = 7) (v : Int32) : shp G B (sI σ i 5 v) i = .inr (7, ([.int (σ.1 i 0), .ref (B + 226), .ref (B + 227), .int (σ.1 i 3), .ref (B + 228), .int (σ.1 i 5), .ref (B + 229), .ref (B + 230), .ref (B + 231), .ref (B + 232), .int (σ.1 i 10), .int (σ.1 i 11), .ref (B + 233), .ref (B + 234), .long (σ.2 i)] : List Value).set 5 (.int v)) := by rw [shp7 G B _ h, sI_at]; rfl
theorem pf7_10 (G : GG) (B : Nat) (σ : St) {i : Nat} (h : kd i = 7) (v : Int32) : shp G B (sI σ i 10 v) i = .inr (7, ([.int (σ.1 i 0), .ref (B + 226), .ref (B + 227), .int (σ.1 i 3), .ref (B + 228), .int (σ.1 i 5), .ref (B + 229), .ref (B + 230), .ref (B + 231), .ref (B + 232), .int (σ.1 i 10), .int (σ.1 i 11), .ref (B + 233), .ref (B + 234), .long (σ.2 i)] : List Value).set 10 (.int v)) := by rw [shp7 G B _ h, sI_at]; rfl
theorem pf7_11 (G : GG) (B : Nat) (σ : St) {i : Nat} (h : kd i = 7) (v : Int32) : shp G B (sI σ i 11 v) i = .inr (7, ([.int (σ.1 i 0), .ref (B + 226), .ref (B + 227), .int (σ.1 i 3), .ref (B + 228), .int (σ.1 i 5), .ref (B + 229), .ref (B + 230), .ref (B + 231), .ref (B + 232), .int (σ.1 i 10), .int (σ.1 i 11), .ref (B + 233), .ref (B + 234), .long (σ.2 i)] : List Value).set 11 (.int v)) := by rw [shp7 G B _ h, sI_at]; rfl
theorem pf7_14 (G : GG) (B : Nat) (σ : St) {i : Nat} (h : kd i = 7) (v : Int64) : shp G B (sL σ i v) i = .inr (7, ([.int (σ.1 i 0), .ref (B + 226), .ref (B + 227), .int (σ.1 i 3), .ref (B + 228), .int (σ.1 i 5), .ref (B + 229), .ref (B + 230), .ref (B + 231), .ref (B + 232), .int (σ.1 i 10), .int (σ.1 i 11), .ref (B + 233), .ref (B + 234), .long (σ.2 i)] : List Value).set 14 (.long v)) := by rw [shp7 G B _ h, sL_at, sL_1]; rfl
/-! the world as the kit's list -/
def wl (G : GG) (B : Nat) (σ : St) : va_W := (List.range NC).map (fun i => (B + i, shp G B σ i))
theorem wl_len (G : GG) (B : Nat) (σ : St) : (wl G B σ).length = NC := by simp [wl]
theorem wl_get (G : GG) (B : Nat) (σ : St) {i : Nat} (h : i < NC) : (wl G B σ)[i]? = some (B + i, shp G B σ i) := by simp [wl, h]
theorem wl_at (G : GG) (B : Nat) (σ : St) {i : Nat} {x : va_E} (h : i < NC) (e : shp G B σ i = x) : (wl G B σ)[i]? = some (B + i, x) := by rw [wl_get G B σ h, e]
theorem wl_of {G : GG} {B : Nat} {σ : St} {k : Nat} {q : Nat × va_E} (h : (wl G B σ)[k]? = some q) : k < NC ∧ q = (B + k, shp G B σ k) := by
  have hk : k < NC := by
    have := (List.getElem?_eq_some_iff.mp h).1
    rwa [wl_len] at this
  rw [wl_get G B σ hk] at h
  exact ⟨hk, (Option.some.inj h).symm⟩
theorem wl_set (G : GG) (B : Nat) (σ σ2 : St) {i : Nat} {x : va_E} (h : i < NC) (e : shp G B σ2 i = x) (o : ∀ j, j ≠ i → shp G B σ2 j = shp G B σ j) : (wl G B σ).set i (B + i, x) = wl G B σ2 := by
  apply List.ext_getElem?
  intro j
  by_cases hj : j = i
  · subst hj
    rw [List.getElem?_set_self (by rw [wl_len]; exact h), wl_at G B σ2 h e]
  · rw [List.getElem?_set_ne (Ne.symm hj)]
    by_cases hl : j < NC
    · rw [wl_get G B σ hl, wl_get G B σ2 hl, o j hj]
    · rw [List.getElem?_eq_none (by rw [wl_len]; omega), List.getElem?_eq_none (by rw [wl_len]; omega)]
abbrev Ab (B : Nat) : Nat → Prop := fun q => B ≤ q
theorem wl_D (G : GG) (B : Nat) (σ : St) : va_D (Ab B) (wl G B σ) := by
  refine ⟨fun i j p q hi hj e => ?_, fun k q hk => ?_⟩
  · rw [(wl_of hi).2, (wl_of hj).2] at e
    have e : B + i = B + j := e
    omega
  · rw [(wl_of hk).2]
    exact Nat.le_add_right _ _
/-! what a start brings beside the world: words of the tables that aren't kept by themselves, statics, strings -/
def nestL : List (String × Nat × MethodName × String) := [(RX6, 11, yX5_init, RX6), (RX6, 34, yX2_init, RX6), (RX6, 41, yX3_init, RX6), (RX6, 48, yX0_init, RX6), (RX0, 11, yX3_init, RX6), (RX1, 24, yX5_init, RX6), (RX3, 23, yX6_daysIn, RX6), (RX3, 31, yX6_newYearWeekday, RX6), (RX3, 42, yX6_moonShift, RX6), (RX3, 88, yX6_moonAge, RX6)]
def dyf (k : Nat) : Int32 := if k = 1 then 100 else if k = 2 then 777 else 0
/-- nests, DIGEST_YEARS -/
def Xt (B dy : Nat) (U : State) : Prop := (∀ q ∈ nestL, va_Nw (.methodLinkNest q.1 q.2.1 q.2.2.1 q.2.2.2) U) ∧ va_Z RX6 "DIGEST_YEARS" "[I" (.ref dy) (Ab B) U U.heap ∧ va_X dy 3 dyf U U.heap ∧ dy < B
theorem Xt.carry {B dy : Nat} {s U : State} {H : Heap} {locs : List Loc} (h : Xt B dy s) (hB : B ≤ s.heap.size) (hS : va_S (Ab B) s.heap H locs) (hU : U.heap = H) (hW : s.WarmedH U.vm) : Xt B dy U := by
  obtain ⟨h1, h2, h3, h4⟩ := h
  refine ⟨fun q hq => va_Nw.warmM hW (h1 q hq), ?_, ?_, h4⟩
  · rw [hU]
    exact (h2.moved hW.alike).kept (fun a h5 h6 => hS.2.1 a h5 h6)
  · rw [hU]
    exact (h3.moved hW.alike).kept (hS.2.1 dy (Nat.lt_of_lt_of_le h4 hB) (Nat.not_le.mpr h4))
theorem Xt.blind {B dy : Nat} {U : State} (g : JFrame) (mk : MethodId) (a : Array Value) (h : Xt B dy U) : Xt B dy (U.calling g mk a) := by
  obtain ⟨h1, h2, h3, h4⟩ := h
  exact ⟨fun q hq => va_Nw.same (u := U) (U := U.calling g mk a) rfl rfl (h1 q hq), va_Z.moved (u := U) (U := U.calling g mk a) (Vm.Alike.refl U.vm) h2, va_X.moved (u := U) (U := U.calling g mk a) (Vm.Alike.refl U.vm) h3, h4⟩
def Hp (G : GG) (B : Nat) (σ : St) (U : State) : Prop := va_P G.1 vwCl (wl G B σ) U.heap
def Hk (G : GG) (B dy : Nat) (σ : St) (U : State) : Prop := va_P G.1 vwCl (wl G B σ) U.heap ∧ va_K G.1 vwCl (tysG G) U ∧ Xt B dy U
theorem Hk.blind {G : GG} {B dy : Nat} {σ : St} {As : List Value} : FrameBlind (va_Pc As (Hk G B dy σ)) := fun a U g mk q => ⟨q.1, q.2.1, va_K.moved (u := U) (U := U.calling g mk a) (Vm.Alike.refl U.vm) q.2.2.1, q.2.2.2.blind g mk a⟩
/-- a method's words: its code, and all good words of the tables -/
def TG : List Cond := lw_tbl.filter goodWord
abbrev wq (y : MethodName) (cc : ByteArray) (maxL : Nat) (ret : Option FieldType) : List Cond := .code y cc maxL ret :: TG
theorem TG_in {w : Cond} (h : w ∈ lw_tbl) (g : goodWord w = true) : w ∈ TG := List.mem_filter.mpr ⟨h, g⟩
theorem TG_good {w : Cond} (h : w ∈ TG) : (w.onTables && w.keeps) = true ∨ ∃ ty, w = .arrayClass ty := good_of_word (List.mem_filter.mp h).2
theorem TG_goodIn {ws : List Cond} (h : ∀ w ∈ ws, w ∈ TG) : GoodIn TG ws := fun w hw => ⟨h w hw, TG_good (h w hw)⟩
/-- what holds all through a method's body -/
def Cx (G : GG) (B dy : Nat) (own : String) (cc : ByteArray) (nL : Nat) (p : Program) (s : State) (m : MethodId) (args : Array Value) (c : Code) : Prop :=
  p.tables.exec = Jvm.exec ∧ c.code = cc ∧ c.maxLocals = nL ∧ s.vm.findClass own = some m.cls ∧ (∀ w ∈ TG, w.before args s = true) ∧ va_K G.1 vwCl (tysG G) s ∧ Xt B dy s ∧ B ≤ s.heap.size
/-- the judgement: from here on, whatever the heap that holds the store's world -/
def WW (G : GG) (B : Nat) (p : Program) (l : Launch) (e : Env) (R : Room) (s : State) (m : MethodId) (args : Array Value) (below : List Frame) (meth : Method) (c : Code) (k n : Nat) (Q : State → Prop) (nL : Nat) (pc : Nat) (lv : List (Nat × Value)) (st : List Value) (σ : St) : Prop :=
  ∀ (H : Heap) (locs : List Loc) (ls : Array Slot), va_P G.1 vwCl (wl G B σ) H → va_S (Ab B) s.heap H locs → lv_has ls nL lv → W p l e R s m args below meth c H locs k n Q (F0 m pc ls st)

section J
variable {G : GG} {B dy : Nat} {own : String} {cc : ByteArray} {nL : Nat} {p : Program} {l : Launch} {e : Env} {R : Room} {s : State} {m : MethodId} {args : Array Value} {below : List Frame} {meth : Method} {c : Code} {k n : Nat} {Q : State → Prop}
variable {pc : Nat} {lv : List (Nat × Value)} {st : List Value} {σ : St}

theorem j_iconst (C : Cx G B dy own cc nL p s m args c) {z : Int} {v : Int32} (d : decode cc pc = .ok (.iconst z, 1)) (hv : Int32.ofInt z = v) (kk : WW G B p l e R s m args below meth c k n Q nL (pc + 1) lv (.int v :: st) σ) : WW G B p l e R s m args below meth c k n Q nL pc lv st σ := fun H locs ls hP hS hl => lv_iconst C.1 C.2.1 d hv (kk H locs ls hP hS hl)
theorem j_bipush (C : Cx G B dy own cc nL p s m args c) {z : Int} {v : Int32} (d : decode cc pc = .ok (.bipush z, 2)) (hv : (Int8.ofInt z).toInt32 = v) (kk : WW G B p l e R s m args below meth c k n Q nL (pc + 2) lv (.int v :: st) σ) : WW G B p l e R s m args below meth c k n Q nL pc lv st σ := fun H locs ls hP hS hl => lv_bipush C.1 C.2.1 d hv (kk H locs ls hP hS hl)
theorem j_sipush (C : Cx G B dy own cc nL p s m args c) {z : Int} {v : Int32} (d : decode cc pc = .ok (.sipush z, 3)) (hv : (Int16.ofInt z).toInt32 = v) (kk : WW G B p l e R s m args below meth c k n Q nL (pc + 3) lv (.int v :: st) σ) : WW G B p l e R s m args below meth c k n Q nL pc lv st σ := fun H locs ls hP hS hl => lv_sipush C.1 C.2.1 d hv (kk H locs ls hP hS hl)
theorem j_lconst (C : Cx G B dy own cc nL p s m args c) {z : Fin 2} {v : Int64} (d : decode cc pc = .ok (.lconst z, 1)) (hv : Int64.ofNat (z : Nat) = v) (kk : WW G B p l e R s m args below meth c k n Q nL (pc + 1) lv (.long v :: st) σ) : WW G B p l e R s m args below meth c k n Q nL pc lv st σ := fun H locs ls hP hS hl => lv_lconst C.1 C.2.1 d hv (kk H locs ls hP hS hl)
theorem j_dconst0 (C : Cx G B dy own cc nL p s m args c) (d : decode cc pc = .ok (.dconst 0, 1)) (kk : WW G B p l e R s m args below meth c k n Q nL (pc + 1) lv (.double 0 :: st) σ) : WW G B p l e R s m args below meth c k n Q nL pc lv st σ := fun H locs ls hP hS hl => lv_dconst0 C.1 C.2.1 d (kk H locs ls hP hS hl)
theorem j_dconst1 (C : Cx G B dy own cc nL p s m args c) (d : decode cc pc = .ok (.dconst 1, 1)) (kk : WW G B p l e R s m args below meth c k n Q nL (pc + 1) lv (.double 4607182418800017408 :: st) σ) : WW G B p l e R s m args below meth c k n Q nL pc lv st σ := fun H locs ls hP hS hl => lv_dconst1 C.1 C.2.1 d (kk H locs ls hP hS hl)
theorem j_aconst_null (C : Cx G B dy own cc nL p s m args c) (d : decode cc pc = .ok (.aconst_null, 1)) (kk : WW G B p l e R s m args below meth c k n Q nL (pc + 1) lv (.null :: st) σ) : WW G B p l e R s m args below meth c k n Q nL pc lv st σ := fun H locs ls hP hS hl => lv_null C.1 C.2.1 d (kk H locs ls hP hS hl)
theorem j_iload_n (C : Cx G B dy own cc nL p s m args c) {z : Fin 4} {i q : Nat} {x : Int32} (d : decode cc pc = .ok (.iload_n z, 1)) (hi : (z : Nat) = i) (hq : lv[q]? = some (i, .int x)) (kk : WW G B p l e R s m args below meth c k n Q nL (pc + 1) lv (.int x :: st) σ) : WW G B p l e R s m args below meth c k n Q nL pc lv st σ := fun H locs ls hP hS hl => lv_iload_n C.1 C.2.1 d hi (lv_at hl q hq) (kk H locs ls hP hS hl)
theorem j_iload (C : Cx G B dy own cc nL p s m args c) {i q : Nat} {x : Int32} (d : decode cc pc = .ok (.iload i, 2)) (hq : lv[q]? = some (i, .int x)) (kk : WW G B p l e R s m args below meth c k n Q nL (pc + 2) lv (.int x :: st) σ) : WW G B p l e R s m args below meth c k n Q nL pc lv st σ := fun H locs ls hP hS hl => lv_iload C.1 C.2.1 d (lv_at hl q hq) (kk H locs ls hP hS hl)
theorem j_lload_n (C : Cx G B dy own cc nL p s m args c) {z : Fin 4} {i q : Nat} {x : Int64} (d : decode cc pc = .ok (.lload_n z, 1)) (hi : (z : Nat) = i) (hq : lv[q]? = some (i, .long x)) (kk : WW G B p l e R s m args below meth c k n Q nL (pc + 1) lv (.long x :: st) σ) : WW G B p l e R s m args below meth c k n Q nL pc lv st σ := fun H locs ls hP hS hl => lv_lload_n C.1 C.2.1 d hi (lv_at hl q hq) (kk H locs ls hP hS hl)
theorem j_lload (C : Cx G B dy own cc nL p s m args c) {i q : Nat} {x : Int64} (d : decode cc pc = .ok (.lload i, 2)) (hq : lv[q]? = some (i, .long x)) (kk : WW G B p l e R s m args below meth c k n Q nL (pc + 2) lv (.long x :: st) σ) : WW G B p l e R s m args below meth c k n Q nL pc lv st σ := fun H locs ls hP hS hl => lv_lload C.1 C.2.1 d (lv_at hl q hq) (kk H locs ls hP hS hl)
theorem j_dload_n (C : Cx G B dy own cc nL p s m args c) {z : Fin 4} {i q : Nat} {x : UInt64} (d : decode cc pc = .ok (.dload_n z, 1)) (hi : (z : Nat) = i) (hq : lv[q]? = some (i, .double x)) (kk : WW G B p l e R s m args below meth c k n Q nL (pc + 1) lv (.double x :: st) σ) : WW G B p l e R s m args below meth c k n Q nL pc lv st σ := fun H locs ls hP hS hl => lv_dload_n C.1 C.2.1 d hi (lv_at hl q hq) (kk H locs ls hP hS hl)
theorem j_dload (C : Cx G B dy own cc nL p s m args c) {i q : Nat} {x : UInt64} (d : decode cc pc = .ok (.dload i, 2)) (hq : lv[q]? = some (i, .double x)) (kk : WW G B p l e R s m args below meth c k n Q nL (pc + 2) lv (.double x :: st) σ) : WW G B p l e R s m args below meth c k n Q nL pc lv st σ := fun H locs ls hP hS hl => lv_dload C.1 C.2.1 d (lv_at hl q hq) (kk H locs ls hP hS hl)
theorem j_aload_n (C : Cx G B dy own cc nL p s m args c) {z : Fin 4} {i q : Nat} {x : Nat} (d : decode cc pc = .ok (.aload_n z, 1)) (hi : (z : Nat) = i) (hq : lv[q]? = some (i, .ref x)) (kk : WW G B p l e R s m args below meth c k n Q nL (pc + 1) lv (.ref x :: st) σ) : WW G B p l e R s m args below meth c k n Q nL pc lv st σ := fun H locs ls hP hS hl => lv_aload_n C.1 C.2.1 d hi (lv_at hl q hq) (kk H locs ls hP hS hl)
theorem j_aload (C : Cx G B dy own cc nL p s m args c) {i q : Nat} {x : Nat} (d : decode cc pc = .ok (.aload i, 2)) (hq : lv[q]? = some (i, .ref x)) (kk : WW G B p l e R s m args below meth c k n Q nL (pc + 2) lv (.ref x :: st) σ) : WW G B p l e R s m args below meth c k n Q nL pc lv st σ := fun H locs ls hP hS hl => lv_aload C.1 C.2.1 d (lv_at hl q hq) (kk H locs ls hP hS hl)
theorem j_aloadN (C : Cx G B dy own cc nL p s m args c) {i q : Nat} (d : decode cc pc = .ok (.aload i, 2)) (hq : lv[q]? = some (i, .null)) (kk : WW G B p l e R s m args below meth c k n Q nL (pc + 2) lv (.null :: st) σ) : WW G B p l e R s m args below meth c k n Q nL pc lv st σ := fun H locs ls hP hS hl => lv_aloadN C.1 C.2.1 d (lv_at hl q hq) (kk H locs ls hP hS hl)
theorem j_aload_nN (C : Cx G B dy own cc nL p s m args c) {z : Fin 4} {i q : Nat} (d : decode cc pc = .ok (.aload_n z, 1)) (hi : (z : Nat) = i) (hq : lv[q]? = some (i, .null)) (kk : WW G B p l e R s m args below meth c k n Q nL (pc + 1) lv (.null :: st) σ) : WW G B p l e R s m args below meth c k n Q nL pc lv st σ := fun H locs ls hP hS hl => lv_aload_nN C.1 C.2.1 d hi (lv_at hl q hq) (kk H locs ls hP hS hl)
theorem j_istore_n (C : Cx G B dy own cc nL p s m args c) {z : Fin 4} {i : Nat} {x : Int32} (lv2 : List (Nat × Value)) (ks : List Nat) (d : decode cc pc = .ok (.istore_n z, 1)) (hi : (z : Nat) = i) (hn : i < nL) (hl2 : lv_pick ((i, Value.int x) :: lv.filter (fun q => !(q.1 == i) && !(q.1 + 1 == i && q.2.category == 2))) ks = lv2) (kk : WW G B p l e R s m args below meth c k n Q nL (pc + 1) lv2 st σ) : WW G B p l e R s m args below meth c k n Q nL pc lv (.int x :: st) σ := fun H locs ls hP hS hl => lv_istore_n C.1 C.2.1 d hi hl hn rfl (fun ls2 hl3 => kk H locs ls2 hP hS (lv_sub hl3 ks hl2))
theorem j_istore (C : Cx G B dy own cc nL p s m args c) {i : Nat} {x : Int32} (lv2 : List (Nat × Value)) (ks : List Nat) (d : decode cc pc = .ok (.istore i, 2)) (hn : i < nL) (hl2 : lv_pick ((i, Value.int x) :: lv.filter (fun q => !(q.1 == i) && !(q.1 + 1 == i && q.2.category == 2))) ks = lv2) (kk : WW G B p l e R s m args below meth c k n Q nL (pc + 2) lv2 st σ) : WW G B p l e R s m args below meth c k n Q nL pc lv (.int x :: st) σ := fun H locs ls hP hS hl => lv_istore C.1 C.2.1 d hl hn rfl (fun ls2 hl3 => kk H locs ls2 hP hS (lv_sub hl3 ks hl2))
theorem j_lstore_n (C : Cx G B dy own cc nL p s m args c) {z : Fin 4} {i : Nat} {x : Int64} (lv2 : List (Nat × Value)) (ks : List Nat) (d : decode cc pc = .ok (.lstore_n z, 1)) (hi : (z : Nat) = i) (hn : i + 1 < nL) (hl2 : lv_pick ((i, Value.long x) :: lv.filter (fun q => !(q.1 == i) && (!(q.1 == i + 1) && !(q.1 + 1 == i && q.2.category == 2)))) ks = lv2) (kk : WW G B p l e R s m args below meth c k n Q nL (pc + 1) lv2 st σ) : WW G B p l e R s m args below meth c k n Q nL pc lv (.long x :: st) σ := fun H locs ls hP hS hl => lv_lstore_n C.1 C.2.1 d hi hl hn rfl (fun ls2 hl3 => kk H locs ls2 hP hS (lv_sub hl3 ks hl2))
theorem j_lstore (C : Cx G B dy own cc nL p s m args c) {i : Nat} {x : Int64} (lv2 : List (Nat × Value)) (ks : List Nat) (d : decode cc pc = .ok (.lstore i, 2)) (hn : i + 1 < nL) (hl2 : lv_pick ((i, Value.long x) :: lv.filter (fun q => !(q.1 == i) && (!(q.1 == i + 1) && !(q.1 + 1 == i && q.2.category == 2)))) ks = lv2) (kk : WW G B p l e R s m args below meth c k n Q nL (pc + 2) lv2 st σ) : WW G B p l e R s m args below meth c k n Q nL pc lv (.long x :: st) σ := fun H locs ls hP hS hl => lv_lstore C.1 C.2.1 d hl hn rfl (fun ls2 hl3 => kk H locs ls2 hP hS (lv_sub hl3 ks hl2))
theorem j_dstore_n (C : Cx G B dy own cc nL p s m args c) {z : Fin 4} {i : Nat} {x : UInt64} (lv2 : List (Nat × Value)) (ks : List Nat) (d : decode cc pc = .ok (.dstore_n z, 1)) (hi : (z : Nat) = i) (hn : i + 1 < nL) (hl2 : lv_pick ((i, Value.double x) :: lv.filter (fun q => !(q.1 == i) && (!(q.1 == i + 1) && !(q.1 + 1 == i && q.2.category == 2)))) ks = lv2) (kk : WW G B p l e R s m args below meth c k n Q nL (pc + 1) lv2 st σ) : WW G B p l e R s m args below meth c k n Q nL pc lv (.double x :: st) σ := fun H locs ls hP hS hl => lv_dstore_n C.1 C.2.1 d hi hl hn rfl (fun ls2 hl3 => kk H locs ls2 hP hS (lv_sub hl3 ks hl2))
theorem j_dstore (C : Cx G B dy own cc nL p s m args c) {i : Nat} {x : UInt64} (lv2 : List (Nat × Value)) (ks : List Nat) (d : decode cc pc = .ok (.dstore i, 2)) (hn : i + 1 < nL) (hl2 : lv_pick ((i, Value.double x) :: lv.filter (fun q => !(q.1 == i) && (!(q.1 == i + 1) && !(q.1 + 1 == i && q.2.category == 2)))) ks = lv2) (kk : WW G B p l e R s m args below meth c k n Q nL (pc + 2) lv2 st σ) : WW G B p l e R s m args below meth c k n Q nL pc lv (.double x :: st) σ := fun H locs ls hP hS hl => lv_dstore C.1 C.2.1 d hl hn rfl (fun ls2 hl3 => kk H locs ls2 hP hS (lv_sub hl3 ks hl2))
theorem j_astore_n (C : Cx G B dy own cc nL p s m args c) {z : Fin 4} {i : Nat} {x : Nat} (lv2 : List (Nat × Value)) (ks : List Nat) (d : decode cc pc = .ok (.astore_n z, 1)) (hi : (z : Nat) = i) (hn : i < nL) (hl2 : lv_pick ((i, Value.ref x) :: lv.filter (fun q => !(q.1 == i) && !(q.1 + 1 == i && q.2.category == 2))) ks = lv2) (kk : WW G B p l e R s m args below meth c k n Q nL (pc + 1) lv2 st σ) : WW G B p l e R s m args below meth c k n Q nL pc lv (.ref x :: st) σ := fun H locs ls hP hS hl => lv_astore_n C.1 C.2.1 d hi hl hn rfl (fun ls2 hl3 => kk H locs ls2 hP hS (lv_sub hl3 ks hl2))
theorem j_astore (C : Cx G B dy own cc nL p s m args c) {i : Nat} {x : Nat} (lv2 : List (Nat × Value)) (ks : List Nat) (d : decode cc pc = .ok (.astore i, 2)) (hn : i < nL) (hl2 : lv_pick ((i, Value.ref x) :: lv.filter (fun q => !(q.1 == i) && !(q.1 + 1 == i && q.2.category == 2))) ks = lv2) (kk : WW G B p l e R s m args below meth c k n Q nL (pc + 2) lv2 st σ) : WW G B p l e R s m args below meth c k n Q nL pc lv (.ref x :: st) σ := fun H locs ls hP hS hl => lv_astore C.1 C.2.1 d hl hn rfl (fun ls2 hl3 => kk H locs ls2 hP hS (lv_sub hl3 ks hl2))
theorem j_astore_nN (C : Cx G B dy own cc nL p s m args c) {z : Fin 4} {i : Nat} (lv2 : List (Nat × Value)) (ks : List Nat) (d : decode cc pc = .ok (.astore_n z, 1)) (hi : (z : Nat) = i) (hn : i < nL) (hl2 : lv_pick ((i, Value.null) :: lv.filter (fun q => !(q.1 == i) && !(q.1 + 1 == i && q.2.category == 2))) ks = lv2) (kk : WW G B p l e R s m args below meth c k n Q nL (pc + 1) lv2 st σ) : WW G B p l e R s m args below meth c k n Q nL pc lv (.null :: st) σ := fun H locs ls hP hS hl => lv_astore_nN C.1 C.2.1 d hi hl hn rfl (fun ls2 hl3 => kk H locs ls2 hP hS (lv_sub hl3 ks hl2))
theorem j_astoreN (C : Cx G B dy own cc nL p s m args c) {i : Nat} (lv2 : List (Nat × Value)) (ks : List Nat) (d : decode cc pc = .ok (.astore i, 2)) (hn : i < nL) (hl2 : lv_pick ((i, Value.null) :: lv.filter (fun q => !(q.1 == i) && !(q.1 + 1 == i && q.2.category == 2))) ks = lv2) (kk : WW G B p l e R s m args below meth c k n Q nL (pc + 2) lv2 st σ) : WW G B p l e R s m args below meth c k n Q nL pc lv (.null :: st) σ := fun H locs ls hP hS hl => lv_astoreN C.1 C.2.1 d hl hn rfl (fun ls2 hl3 => kk H locs ls2 hP hS (lv_sub hl3 ks hl2))
theorem j_iinc (C : Cx G B dy own cc nL p s m args c) {i q : Nat} {z : Int} {x v : Int32} (lv2 : List (Nat × Value)) (ks : List Nat) (d : decode cc pc = .ok (.iinc i z, 3)) (hq : lv[q]? = some (i, .int x)) (hv : x + Int32.ofInt z = v) (hn : i < nL) (hl2 : lv_pick ((i, Value.int v) :: lv.filter (fun q => !(q.1 == i) && !(q.1 + 1 == i && q.2.category == 2))) ks = lv2) (kk : WW G B p l e R s m args below meth c k n Q nL (pc + 3) lv2 st σ) : WW G B p l e R s m args below meth c k n Q nL pc lv st σ := fun H locs ls hP hS hl => lv_iinc C.1 C.2.1 d hl hq hv hn rfl (fun ls2 hl3 => kk H locs ls2 hP hS (lv_sub hl3 ks hl2))
theorem j_iadd (C : Cx G B dy own cc nL p s m args c) {x y : Int32} (d : decode cc pc = .ok (.iadd, 1)) (kk : WW G B p l e R s m args below meth c k n Q nL (pc + 1) lv (.int (x + y) :: st) σ) : WW G B p l e R s m args below meth c k n Q nL pc lv (.int y :: .int x :: st) σ := fun H locs ls hP hS hl => lv_iadd C.1 C.2.1 d (kk H locs ls hP hS hl)
theorem j_isub (C : Cx G B dy own cc nL p s m args c) {x y : Int32} (d : decode cc pc = .ok (.isub, 1)) (kk : WW G B p l e R s m args below meth c k n Q nL (pc + 1) lv (.int (x - y) :: st) σ) : WW G B p l e R s m args below meth c k n Q nL pc lv (.int y :: .int x :: st) σ := fun H locs ls hP hS hl => lv_isub C.1 C.2.1 d (kk H locs ls hP hS hl)
theorem j_imul (C : Cx G B dy own cc nL p s m args c) {x y : Int32} (d : decode cc pc = .ok (.imul, 1)) (kk : WW G B p l e R s m args below meth c k n Q nL (pc + 1) lv (.int (x * y) :: st) σ) : WW G B p l e R s m args below meth c k n Q nL pc lv (.int y :: .int x :: st) σ := fun H locs ls hP hS hl => lv_imul C.1 C.2.1 d (kk H locs ls hP hS hl)
theorem j_iand (C : Cx G B dy own cc nL p s m args c) {x y : Int32} (d : decode cc pc = .ok (.iand, 1)) (kk : WW G B p l e R s m args below meth c k n Q nL (pc + 1) lv (.int (x &&& y) :: st) σ) : WW G B p l e R s m args below meth c k n Q nL pc lv (.int y :: .int x :: st) σ := fun H locs ls hP hS hl => lv_iand C.1 C.2.1 d (kk H locs ls hP hS hl)
/-- the rest as the machine has it -/
def rm (x y : Int32) : Int32 := x - x / y * y
theorem j_irem (C : Cx G B dy own cc nL p s m args c) {x y : Int32} (d : decode cc pc = .ok (.irem, 1)) (hne : ¬ y = 0) (kk : WW G B p l e R s m args below meth c k n Q nL (pc + 1) lv (.int (rm x y) :: st) σ) : WW G B p l e R s m args below meth c k n Q nL pc lv (.int y :: .int x :: st) σ := fun H locs ls hP hS hl => lv_irem C.1 C.2.1 d hne (kk H locs ls hP hS hl)
theorem j_idiv (C : Cx G B dy own cc nL p s m args c) {x y : Int32} (d : decode cc pc = .ok (.idiv, 1)) (hne : ¬ y = 0) (kk : WW G B p l e R s m args below meth c k n Q nL (pc + 1) lv (.int (x / y) :: st) σ) : WW G B p l e R s m args below meth c k n Q nL pc lv (.int y :: .int x :: st) σ := fun H locs ls hP hS hl => lv_idiv C.1 C.2.1 d hne (kk H locs ls hP hS hl)
theorem j_ineg (C : Cx G B dy own cc nL p s m args c) {x : Int32} (d : decode cc pc = .ok (.ineg, 1)) (kk : WW G B p l e R s m args below meth c k n Q nL (pc + 1) lv (.int (-x) :: st) σ) : WW G B p l e R s m args below meth c k n Q nL pc lv (.int x :: st) σ := fun H locs ls hP hS hl => lv_ineg C.1 C.2.1 d (kk H locs ls hP hS hl)
theorem j_ladd (C : Cx G B dy own cc nL p s m args c) {x y : Int64} (d : decode cc pc = .ok (.ladd, 1)) (kk : WW G B p l e R s m args below meth c k n Q nL (pc + 1) lv (.long (x + y) :: st) σ) : WW G B p l e R s m args below meth c k n Q nL pc lv (.long y :: .long x :: st) σ := fun H locs ls hP hS hl => lv_ladd C.1 C.2.1 d (kk H locs ls hP hS hl)
theorem j_lsub (C : Cx G B dy own cc nL p s m args c) {x y : Int64} (d : decode cc pc = .ok (.lsub, 1)) (kk : WW G B p l e R s m args below meth c k n Q nL (pc + 1) lv (.long (x - y) :: st) σ) : WW G B p l e R s m args below meth c k n Q nL pc lv (.long y :: .long x :: st) σ := fun H locs ls hP hS hl => lv_lsub C.1 C.2.1 d (kk H locs ls hP hS hl)
theorem j_lmul (C : Cx G B dy own cc nL p s m args c) {x y : Int64} (d : decode cc pc = .ok (.lmul, 1)) (kk : WW G B p l e R s m args below meth c k n Q nL (pc + 1) lv (.long (x * y) :: st) σ) : WW G B p l e R s m args below meth c k n Q nL pc lv (.long y :: .long x :: st) σ := fun H locs ls hP hS hl => lv_lmul C.1 C.2.1 d (kk H locs ls hP hS hl)
theorem j_lshl (C : Cx G B dy own cc nL p s m args c) {x : Int64} {y : Int32} (d : decode cc pc = .ok (.lshl, 1)) (kk : WW G B p l e R s m args below meth c k n Q nL (pc + 1) lv (.long (x <<< (y.toInt64 &&& 63)) :: st) σ) : WW G B p l e R s m args below meth c k n Q nL pc lv (.int y :: .long x :: st) σ := fun H locs ls hP hS hl => lv_lshl C.1 C.2.1 d rfl (kk H locs ls hP hS hl)
theorem j_i2l (C : Cx G B dy own cc nL p s m args c) {x : Int32} (d : decode cc pc = .ok (.i2l, 1)) (kk : WW G B p l e R s m args below meth c k n Q nL (pc + 1) lv (.long x.toInt64 :: st) σ) : WW G B p l e R s m args below meth c k n Q nL pc lv (.int x :: st) σ := fun H locs ls hP hS hl => lv_i2l C.1 C.2.1 d rfl (kk H locs ls hP hS hl)
theorem j_i2d (C : Cx G B dy own cc nL p s m args c) {x : Int32} (d : decode cc pc = .ok (.i2d, 1)) (kk : WW G B p l e R s m args below meth c k n Q nL (pc + 1) lv (.double (FP.i2d x) :: st) σ) : WW G B p l e R s m args below meth c k n Q nL pc lv (.int x :: st) σ := fun H locs ls hP hS hl => lv_i2d C.1 C.2.1 d (kk H locs ls hP hS hl)
theorem j_d2l (C : Cx G B dy own cc nL p s m args c) {x : UInt64} (d : decode cc pc = .ok (.d2l, 1)) (kk : WW G B p l e R s m args below meth c k n Q nL (pc + 1) lv (.long (FP.d2l x) :: st) σ) : WW G B p l e R s m args below meth c k n Q nL pc lv (.double x :: st) σ := fun H locs ls hP hS hl => lv_d2l C.1 C.2.1 d (kk H locs ls hP hS hl)
theorem j_dmul (C : Cx G B dy own cc nL p s m args c) {x y : UInt64} (d : decode cc pc = .ok (.dmul, 1)) (hne : vf_n64 (FP.dmul x y)) (kk : WW G B p l e R s m args below meth c k n Q nL (pc + 1) lv (.double (FP.dmul x y) :: st) σ) : WW G B p l e R s m args below meth c k n Q nL pc lv (.double y :: .double x :: st) σ := fun H locs ls hP hS hl => lv_dmul C.1 C.2.1 d hne (kk H locs ls hP hS hl)
theorem j_dsub (C : Cx G B dy own cc nL p s m args c) {x y : UInt64} (d : decode cc pc = .ok (.dsub, 1)) (hne : vf_n64 (FP.dsub x y)) (kk : WW G B p l e R s m args below meth c k n Q nL (pc + 1) lv (.double (FP.dsub x y) :: st) σ) : WW G B p l e R s m args below meth c k n Q nL pc lv (.double y :: .double x :: st) σ := fun H locs ls hP hS hl => lv_dsub C.1 C.2.1 d hne (kk H locs ls hP hS hl)
theorem j_ddiv (C : Cx G B dy own cc nL p s m args c) {x y : UInt64} (d : decode cc pc = .ok (.ddiv, 1)) (hne : vf_n64 (FP.ddiv x y)) (kk : WW G B p l e R s m args below meth c k n Q nL (pc + 1) lv (.double (FP.ddiv x y) :: st) σ) : WW G B p l e R s m args below meth c k n Q nL pc lv (.double y :: .double x :: st) σ := fun H locs ls hP hS hl => lv_ddiv C.1 C.2.1 d hne (kk H locs ls hP hS hl)
theorem j_dcmp (C : Cx G B dy own cc nL p s m args c) {x y : UInt64} {o : CmpOp} (d : decode cc pc = .ok (.dcmp o, 1)) (kk : WW G B p l e R s m args below meth c k n Q nL (pc + 1) lv (.int (Op.cmpValue (FP.dcmp x y) o) :: st) σ) : WW G B p l e R s m args below meth c k n Q nL pc lv (.double y :: .double x :: st) σ := fun H locs ls hP hS hl => lv_dcmp C.1 C.2.1 d (kk H locs ls hP hS hl)
theorem j_lcmp (C : Cx G B dy own cc nL p s m args c) {x y : Int64} (d : decode cc pc = .ok (.lcmp, 1)) (kk : WW G B p l e R s m args below meth c k n Q nL (pc + 1) lv (.int (lg_cmp x y) :: st) σ) : WW G B p l e R s m args below meth c k n Q nL pc lv (.long y :: .long x :: st) σ := fun H locs ls hP hS hl => W.lcmp C.1 C.2.1 d (kk H locs ls hP hS hl)
theorem j_dup (C : Cx G B dy own cc nL p s m args c) {va : Value} (d : decode cc pc = .ok (.dup, 1)) (hva : va.category = 1) (kk : WW G B p l e R s m args below meth c k n Q nL (pc + 1) lv (va :: va :: st) σ) : WW G B p l e R s m args below meth c k n Q nL pc lv (va :: st) σ := fun H locs ls hP hS hl => lv_dup C.1 C.2.1 d hva (kk H locs ls hP hS hl)
theorem j_dup2 (C : Cx G B dy own cc nL p s m args c) {va vb : Value} (d : decode cc pc = .ok (.dup2, 1)) (hva : va.category = 1) (hvb : vb.category = 1) (kk : WW G B p l e R s m args below meth c k n Q nL (pc + 1) lv (va :: vb :: va :: vb :: st) σ) : WW G B p l e R s m args below meth c k n Q nL pc lv (va :: vb :: st) σ := fun H locs ls hP hS hl => lv_dup2_11 C.1 C.2.1 d hva hvb (kk H locs ls hP hS hl)
theorem j_pop (C : Cx G B dy own cc nL p s m args c) {va : Value} (d : decode cc pc = .ok (.pop, 1)) (hva : va.category = 1) (kk : WW G B p l e R s m args below meth c k n Q nL (pc + 1) lv st σ) : WW G B p l e R s m args below meth c k n Q nL pc lv (va :: st) σ := fun H locs ls hP hS hl => lv_pop C.1 C.2.1 d hva (kk H locs ls hP hS hl)
theorem j_goto (C : Cx G B dy own cc nL p s m args c) {off : Int} {tgt : Nat} (d : decode cc pc = .ok (.goto off, 3)) (ht : (pc : Int) + off = (tgt : Int)) (kk : WW G B p l e R s m args below meth c k n Q nL tgt lv st σ) : WW G B p l e R s m args below meth c k n Q nL pc lv st σ := fun H locs ls hP hS hl => lv_goto C.1 C.2.1 d ht (kk H locs ls hP hS hl)
theorem j_if_eq (C : Cx G B dy own cc nL p s m args c) {x : Int32} {off : Int} {tgt : Nat} (d : decode cc pc = .ok (.ifCond .eq off, 3)) (ht : (pc : Int) + off = (tgt : Int)) (kt : (x = 0) → WW G B p l e R s m args below meth c k n Q nL tgt lv st σ) (kf : ¬ (x = 0) → WW G B p l e R s m args below meth c k n Q nL (pc + 3) lv st σ) : WW G B p l e R s m args below meth c k n Q nL pc lv (.int x :: st) σ := fun H locs ls hP hS hl => lv_if_eq C.1 C.2.1 d ht (fun h => kt h H locs ls hP hS hl) (fun h => kf h H locs ls hP hS hl)
theorem j_icmp_eq (C : Cx G B dy own cc nL p s m args c) {x y : Int32} {off : Int} {tgt : Nat} (d : decode cc pc = .ok (.if_icmp .eq off, 3)) (ht : (pc : Int) + off = (tgt : Int)) (kt : (x = y) → WW G B p l e R s m args below meth c k n Q nL tgt lv st σ) (kf : ¬ (x = y) → WW G B p l e R s m args below meth c k n Q nL (pc + 3) lv st σ) : WW G B p l e R s m args below meth c k n Q nL pc lv (.int y :: .int x :: st) σ := fun H locs ls hP hS hl => lv_icmp_eq C.1 C.2.1 d ht (fun h => kt h H locs ls hP hS hl) (fun h => kf h H locs ls hP hS hl)
theorem j_if_lt (C : Cx G B dy own cc nL p s m args c) {x : Int32} {off : Int} {tgt : Nat} (d : decode cc pc = .ok (.ifCond .lt off, 3)) (ht : (pc : Int) + off = (tgt : Int)) (kt : (x < 0) → WW G B p l e R s m args below meth c k n Q nL tgt lv st σ) (kf : ¬ (x < 0) → WW G B p l e R s m args below meth c k n Q nL (pc + 3) lv st σ) : WW G B p l e R s m args below meth c k n Q nL pc lv (.int x :: st) σ := fun H locs ls hP hS hl => lv_if_lt C.1 C.2.1 d ht (fun h => kt h H locs ls hP hS hl) (fun h => kf h H locs ls hP hS hl)
theorem j_icmp_lt (C : Cx G B dy own cc nL p s m args c) {x y : Int32} {off : Int} {tgt : Nat} (d : decode cc pc = .ok (.if_icmp .lt off, 3)) (ht : (pc : Int) + off = (tgt : Int)) (kt : (x < y) → WW G B p l e R s m args below meth c k n Q nL tgt lv st σ) (kf : ¬ (x < y) → WW G B p l e R s m args below meth c k n Q nL (pc + 3) lv st σ) : WW G B p l e R s m args below meth c k n Q nL pc lv (.int y :: .int x :: st) σ := fun H locs ls hP hS hl => lv_icmp_lt C.1 C.2.1 d ht (fun h => kt h H locs ls hP hS hl) (fun h => kf h H locs ls hP hS hl)
theorem j_if_ge (C : Cx G B dy own cc nL p s m args c) {x : Int32} {off : Int} {tgt : Nat} (d : decode cc pc = .ok (.ifCond .ge off, 3)) (ht : (pc : Int) + off = (tgt : Int)) (kt : (0 ≤ x) → WW G B p l e R s m args below meth c k n Q nL tgt lv st σ) (kf : ¬ (0 ≤ x) → WW G B p l e R s m args below meth c k n Q nL (pc + 3) lv st σ) : WW G B p l e R s m args below meth c k n Q nL pc lv (.int x :: st) σ := fun H locs ls hP hS hl => lv_if_ge C.1 C.2.1 d ht (fun h => kt h H locs ls hP hS hl) (fun h => kf h H locs ls hP hS hl)
theorem j_icmp_ge (C : Cx G B dy own cc nL p s m args c) {x y : Int32} {off : Int} {tgt : Nat} (d : decode cc pc = .ok (.if_icmp .ge off, 3)) (ht : (pc : Int) + off = (tgt : Int)) (kt : (y ≤ x) → WW G B p l e R s m args below meth c k n Q nL tgt lv st σ) (kf : ¬ (y ≤ x) → WW G B p l e R s m args below meth c k n Q nL (pc + 3) lv st σ) : WW G B p l e R s m args below meth c k n Q nL pc lv (.int y :: .int x :: st) σ := fun H locs ls hP hS hl => lv_icmp_ge C.1 C.2.1 d ht (fun h => kt h H locs ls hP hS hl) (fun h => kf h H locs ls hP hS hl)
theorem j_if_gt (C : Cx G B dy own cc nL p s m args c) {x : Int32} {off : Int} {tgt : Nat} (d : decode cc pc = .ok (.ifCond .gt off, 3)) (ht : (pc : Int) + off = (tgt : Int)) (kt : (0 < x) → WW G B p l e R s m args below meth c k n Q nL tgt lv st σ) (kf : ¬ (0 < x) → WW G B p l e R s m args below meth c k n Q nL (pc + 3) lv st σ) : WW G B p l e R s m args below meth c k n Q nL pc lv (.int x :: st) σ := fun H locs ls hP hS hl => lv_if_gt C.1 C.2.1 d ht (fun h => kt h H locs ls hP hS hl) (fun h => kf h H locs ls hP hS hl)
theorem j_icmp_gt (C : Cx G B dy own cc nL p s m args c) {x y : Int32} {off : Int} {tgt : Nat} (d : decode cc pc = .ok (.if_icmp .gt off, 3)) (ht : (pc : Int) + off = (tgt : Int)) (kt : (y < x) → WW G B p l e R s m args below meth c k n Q nL tgt lv st σ) (kf : ¬ (y < x) → WW G B p l e R s m args below meth c k n Q nL (pc + 3) lv st σ) : WW G B p l e R s m args below meth c k n Q nL pc lv (.int y :: .int x :: st) σ := fun H locs ls hP hS hl => lv_icmp_gt C.1 C.2.1 d ht (fun h => kt h H locs ls hP hS hl) (fun h => kf h H locs ls hP hS hl)
theorem j_if_le (C : Cx G B dy own cc nL p s m args c) {x : Int32} {off : Int} {tgt : Nat} (d : decode cc pc = .ok (.ifCond .le off, 3)) (ht : (pc : Int) + off = (tgt : Int)) (kt : (x ≤ 0) → WW G B p l e R s m args below meth c k n Q nL tgt lv st σ) (kf : ¬ (x ≤ 0) → WW G B p l e R s m args below meth c k n Q nL (pc + 3) lv st σ) : WW G B p l e R s m args below meth c k n Q nL pc lv (.int x :: st) σ := fun H locs ls hP hS hl => lv_if_le C.1 C.2.1 d ht (fun h => kt h H locs ls hP hS hl) (fun h => kf h H locs ls hP hS hl)
theorem j_icmp_le (C : Cx G B dy own cc nL p s m args c) {x y : Int32} {off : Int} {tgt : Nat} (d : decode cc pc = .ok (.if_icmp .le off, 3)) (ht : (pc : Int) + off = (tgt : Int)) (kt : (x ≤ y) → WW G B p l e R s m args below meth c k n Q nL tgt lv st σ) (kf : ¬ (x ≤ y) → WW G B p l e R s m args below meth c k n Q nL (pc + 3) lv st σ) : WW G B p l e R s m args below meth c k n Q nL pc lv (.int y :: .int x :: st) σ := fun H locs ls hP hS hl => lv_icmp_le C.1 C.2.1 d ht (fun h => kt h H locs ls hP hS hl) (fun h => kf h H locs ls hP hS hl)
theorem j_if_ne (C : Cx G B dy own cc nL p s m args c) {x : Int32} {off : Int} {tgt : Nat} (d : decode cc pc = .ok (.ifCond .ne off, 3)) (ht : (pc : Int) + off = (tgt : Int)) (kf : x = 0 → WW G B p l e R s m args below meth c k n Q nL (pc + 3) lv st σ) (kt : ¬ x = 0 → WW G B p l e R s m args below meth c k n Q nL tgt lv st σ) : WW G B p l e R s m args below meth c k n Q nL pc lv (.int x :: st) σ := fun H locs ls hP hS hl => lv_if_ne C.1 C.2.1 d ht (fun h => kt h H locs ls hP hS hl) (fun h => kf h H locs ls hP hS hl)
theorem j_icmp_ne (C : Cx G B dy own cc nL p s m args c) {x y : Int32} {off : Int} {tgt : Nat} (d : decode cc pc = .ok (.if_icmp .ne off, 3)) (ht : (pc : Int) + off = (tgt : Int)) (kf : x = y → WW G B p l e R s m args below meth c k n Q nL (pc + 3) lv st σ) (kt : ¬ x = y → WW G B p l e R s m args below meth c k n Q nL tgt lv st σ) : WW G B p l e R s m args below meth c k n Q nL pc lv (.int y :: .int x :: st) σ := fun H locs ls hP hS hl => lv_icmp_ne C.1 C.2.1 d ht (fun h => kt h H locs ls hP hS hl) (fun h => kf h H locs ls hP hS hl)
theorem j_ifnull_no (C : Cx G B dy own cc nL p s m args c) {x : Nat} {off : Int} (d : decode cc pc = .ok (.ifnull off, 3)) (kk : WW G B p l e R s m args below meth c k n Q nL (pc + 3) lv st σ) : WW G B p l e R s m args below meth c k n Q nL pc lv (.ref x :: st) σ := fun H locs ls hP hS hl => lv_ifnull C.1 C.2.1 d (kk H locs ls hP hS hl)
theorem j_ifnull_yes (C : Cx G B dy own cc nL p s m args c) {off : Int} {tgt : Nat} (d : decode cc pc = .ok (.ifnull off, 3)) (ht : (pc : Int) + off = (tgt : Int)) (kk : WW G B p l e R s m args below meth c k n Q nL tgt lv st σ) : WW G B p l e R s m args below meth c k n Q nL pc lv (.null :: st) σ := fun H locs ls hP hS hl => lv_ifnullN C.1 C.2.1 d ht (kk H locs ls hP hS hl)
theorem j_lookup (C : Cx G B dy own cc nL p s m args c) {dflt : Int} {ps : Array (Int × Int)} {len : Nat} {x : Int32} {off : Int} {tgt : Nat} (d : decode cc pc = .ok (.lookupswitch dflt ps, len)) (hp : (ps.toList.zip (ps.toList.drop 1)).all (fun (a, next) => a.1 < next.1) = true) (ho : Op.lookupswitch.offset ps.toList dflt x.toInt = off) (ht : (pc : Int) + off = (tgt : Int)) (kk : WW G B p l e R s m args below meth c k n Q nL tgt lv st σ) : WW G B p l e R s m args below meth c k n Q nL pc lv (.int x :: st) σ := fun H locs ls hP hS hl => lv_lookup C.1 C.2.1 d hp ho ht (kk H locs ls hP hS hl)
theorem j_tableOut (C : Cx G B dy own cc nL p s m args c) {dflt lo hi : Int} {offs : Array Int} {len : Nat} {x : Int32} {tgt : Nat} (d : decode cc pc = .ok (.tableswitch dflt lo hi offs, len)) (h : x.toInt < lo ∨ hi < x.toInt) (ht : (pc : Int) + dflt = (tgt : Int)) (kk : WW G B p l e R s m args below meth c k n Q nL tgt lv st σ) : WW G B p l e R s m args below meth c k n Q nL pc lv (.int x :: st) σ := fun H locs ls hP hS hl => lv_tableOut C.1 C.2.1 d h ht (kk H locs ls hP hS hl)
theorem j_tableIn (C : Cx G B dy own cc nL p s m args c) {dflt lo hi : Int} {offs : Array Int} {len : Nat} {x : Int32} {off : Int} {tgt : Nat} (d : decode cc pc = .ok (.tableswitch dflt lo hi offs, len)) (h1 : ¬ x.toInt < lo) (h2 : ¬ hi < x.toInt) (ho : offs[(x.toInt - lo).toNat]? = some off) (ht : (pc : Int) + off = (tgt : Int)) (kk : WW G B p l e R s m args below meth c k n Q nL tgt lv st σ) : WW G B p l e R s m args below meth c k n Q nL pc lv (.int x :: st) σ := fun H locs ls hP hS hl => lv_tableIn C.1 C.2.1 d h1 h2 ho ht (kk H locs ls hP hS hl)
theorem j_ldc2 (C : Cx G B dy own cc nL p s m args c) {index : Nat} {v : Int64} (hw : Cond.constantLong own index v ∈ TG) (d : decode cc pc = .ok (.ldc2_w index, 3)) (kk : WW G B p l e R s m args below meth c k n Q nL (pc + 3) lv (.long v :: st) σ) : WW G B p l e R s m args below meth c k n Q nL pc lv st σ := fun H locs ls hP hS hl => lv_ldc2 C.1 C.2.1 C.2.2.2.1 (C.2.2.2.2.1 _ hw) d (kk H locs ls hP hS hl)
theorem j_ldc2d (C : Cx G B dy own cc nL p s m args c) {index : Nat} {v : UInt64} (hw : Cond.constantDouble own index v ∈ TG) (d : decode cc pc = .ok (.ldc2_w index, 3)) (kk : WW G B p l e R s m args below meth c k n Q nL (pc + 3) lv (.double v :: st) σ) : WW G B p l e R s m args below meth c k n Q nL pc lv st σ := fun H locs ls hP hS hl => lv_ldc2d C.1 C.2.1 C.2.2.2.1 (C.2.2.2.2.1 _ hw) d (kk H locs ls hP hS hl)
theorem j_get (C : Cx G B dy own cc nL p s m args c) {ref Cn : String} {T : u_T} {N ci index i : Nat} {fs : List Value} (he : shp G B σ i = .inr (ci, fs)) (hi : i < NC) (hc : vwCl[ci]? = some (Cn, T, N)) (hin : ∀ w ∈ u_ws Cn T N, w ∈ TG) (f : Nat) (hk : f < N) (hlink : Cond.fieldLink own index ref (T f).2.1 (T f).2.2.1 ∈ TG) (hsame : ∀ x, s.fieldFound? (T f).1 (T f).2.1 (T f).2.2.1 = some x → s.fieldFound? ref (T f).2.1 (T f).2.2.1 = some x) {v : Value} (hv : fs[f]? = some v) (d : decode cc pc = .ok (.getfield index, 3)) (kk : WW G B p l e R s m args below meth c k n Q nL (pc + 3) lv (v :: st) σ) : WW G B p l e R s m args below meth c k n Q nL pc lv (.ref (B + i) :: st) σ := fun H locs ls hP hS hl => va_get C.1 C.2.1 C.2.2.2.2.1 hin C.2.2.2.1 C.2.2.2.2.2.1 hP i (wl_at G B σ hi he) hc f hk (C.2.2.2.2.1 _ hlink) hsame hv d (kk H locs ls hP hS hl)
theorem j_putx (C : Cx G B dy own cc nL p s m args c) {ref Cn : String} {T : u_T} {N ci index i : Nat} {fs : List Value} (he : shp G B σ i = .inr (ci, fs)) (hi : i < NC) (hc : vwCl[ci]? = some (Cn, T, N)) (hin : ∀ w ∈ u_ws Cn T N, w ∈ TG) (f : Nat) (hk : f < N) (hlink : Cond.fieldLink own index ref (T f).2.1 (T f).2.2.1 ∈ TG) (hsame : ∀ x, s.fieldFound? (T f).1 (T f).2.1 (T f).2.2.1 = some x → s.fieldFound? ref (T f).2.1 (T f).2.2.1 = some x) (ty0 : Nat → FieldType) (hty : ∀ k, k < N → parseFieldDescriptor (T k).2.2.1 = some (ty0 k)) (hnm : ∀ a, a < N → ∀ b, b < N → a ≠ b → (T a).2.1 ≠ (T b).2.1) (hfin : (T f).2.2.2 = false) {ty : FieldType} {v : Value} (hd : parseFieldDescriptor (T f).2.2.1 = some ty) (hn : narrow ty v = v) (hfit : fits ty v = true) (hl : f < fs.length) (σ2 : St) (hs1 : shp G B σ2 i = .inr (ci, fs.set f v)) (hs2 : ∀ j, j ≠ i → shp G B σ2 j = shp G B σ j) (d : decode cc pc = .ok (.putfield index, 3)) (kk : WW G B p l e R s m args below meth c k n Q nL (pc + 3) lv st σ2) : WW G B p l e R s m args below meth c k n Q nL pc lv (v :: .ref (B + i) :: st) σ := fun H locs ls hP hS hl9 => va_put C.1 C.2.1 C.2.2.2.2.1 hin ty0 hty hnm C.2.2.2.1 C.2.2.2.2.2.1 hP (wl_D G B σ) hS i (wl_at G B σ hi he) hc f hk (C.2.2.2.2.1 _ hlink) hsame hfin hd hn hfit hl d (fun H1 locs1 h1 _ h3 => kk H1 locs1 ls (by rw [← wl_set G B σ σ2 hi hs1 hs2]; exact h1) h3 hl9)
def inB (x : Int32) (n : Nat) : Bool := decide (¬ (x < 0 ∨ n ≤ x.toNatClampNeg))
theorem inB_in {x : Int32} {n : Nat} (h : inB x n = true) : vp_in x n := by
  have h2 : ¬ (x < 0 ∨ n ≤ x.toNatClampNeg) := of_decide_eq_true h
  exact h2
theorem j_iald (C : Cx G B dy own cc nL p s m args c) {i : Nat} {x : Int32} (h : kd i = 8) (hin : vp_in x (aln i)) (d : decode cc pc = .ok (.iaload, 1)) (kk : WW G B p l e R s m args below meth c k n Q nL (pc + 1) lv (.int (σ.1 i x.toNatClampNeg) :: st) σ) : WW G B p l e R s m args below meth c k n Q nL pc lv (.int x :: .ref (B + i) :: st) σ := fun H locs ls hP hS hl => va_iald C.1 C.2.1 C.2.2.2.2.2.1 hP i 0 (wl_at G B σ (kd_lt h (by decide)) (shp8 G B σ h)) rfl hin d (kk H locs ls hP hS hl)
theorem j_zald (C : Cx G B dy own cc nL p s m args c) {i : Nat} {x : Int32} (h : kd i = 9) (hin : vp_in x (aln i)) (d : decode cc pc = .ok (.baload, 1)) (kk : WW G B p l e R s m args below meth c k n Q nL (pc + 1) lv (.int (σ.1 i x.toNatClampNeg) :: st) σ) : WW G B p l e R s m args below meth c k n Q nL pc lv (.int x :: .ref (B + i) :: st) σ := fun H locs ls hP hS hl => va_zald C.1 C.2.1 C.2.2.2.2.2.1 hP i 1 (wl_at G B σ (kd_lt h (by decide)) (shp9 G B σ h)) rfl hin d (kk H locs ls hP hS hl)
theorem j_lald (C : Cx G B dy own cc nL p s m args c) {i : Nat} {x : Int32} (h : kd i = 10) (hin : vp_in x (aln i)) (d : decode cc pc = .ok (.laload, 1)) (kk : WW G B p l e R s m args below meth c k n Q nL (pc + 1) lv (.long (σ.2 i) :: st) σ) : WW G B p l e R s m args below meth c k n Q nL pc lv (.int x :: .ref (B + i) :: st) σ := fun H locs ls hP hS hl => va_lald C.1 C.2.1 C.2.2.2.2.2.1 hP i 2 (wl_at G B σ (kd_lt h (by decide)) (shp10 G B σ h)) rfl hin d (kk H locs ls hP hS hl)
theorem j_aaldS (C : Cx G B dy own cc nL p s m args c) {i : Nat} {x : Int32} (h : kd i = 11) (hin : vp_in x (aln i)) (d : decode cc pc = .ok (.aaload, 1)) (kk : WW G B p l e R s m args below meth c k n Q nL (pc + 1) lv (.ref (B + (22 + 19 * x.toNatClampNeg)) :: st) σ) : WW G B p l e R s m args below meth c k n Q nL pc lv (.int x :: .ref (B + i) :: st) σ := fun H locs ls hP hS hl => va_aldq C.1 C.2.1 C.2.2.2.2.2.1 hP i 3 (wl_at G B σ (kd_lt h (by decide)) (shp11 G B σ h)) rfl hin d (kk H locs ls hP hS hl)
theorem j_aaldC (C : Cx G B dy own cc nL p s m args c) {i : Nat} {x : Int32} (h : kd i = 12) (hin : vp_in x (aln i)) (d : decode cc pc = .ok (.aaload, 1)) (kk : WW G B p l e R s m args below meth c k n Q nL (pc + 1) lv (.ref (B + (177 + 16 * x.toNatClampNeg)) :: st) σ) : WW G B p l e R s m args below meth c k n Q nL pc lv (.int x :: .ref (B + i) :: st) σ := fun H locs ls hP hS hl => va_aldq C.1 C.2.1 C.2.2.2.2.2.1 hP i 4 (wl_at G B σ (kd_lt h (by decide)) (shp12 G B σ h)) rfl hin d (kk H locs ls hP hS hl)
theorem j_iast (C : Cx G B dy own cc nL p s m args c) {i : Nat} {x v : Int32} (h : kd i = 8) (hin : vp_in x (aln i)) (d : decode cc pc = .ok (.iastore, 1)) (kk : WW G B p l e R s m args below meth c k n Q nL (pc + 1) lv st (sI σ i x.toNatClampNeg v)) : WW G B p l e R s m args below meth c k n Q nL pc lv (.int v :: .int x :: .ref (B + i) :: st) σ := fun H locs ls hP hS hl => va_iast C.1 C.2.1 C.2.2.2.2.2.1 hP (wl_D G B σ) hS i 0 (wl_at G B σ (kd_lt h (by decide)) (shp8 G B σ h)) rfl hin d (fun H1 locs1 h1 _ h3 => kk H1 locs1 ls (by rw [← wl_set G B σ (sI σ i x.toNatClampNeg v) (kd_lt h (by decide)) ((shp8 G B _ h).trans (by rw [sI_at])) (fun j hj => shp_ne G B (sI_ne σ _ _ hj) rfl)]; exact h1) h3 hl)
theorem nar01 {v : Int32} (hv : v = 0 ∨ v = 1) : vp_nar .boolean v = v := by rcases hv with rfl | rfl <;> rfl
theorem j_zast (C : Cx G B dy own cc nL p s m args c) {i : Nat} {x v : Int32} (h : kd i = 9) (hin : vp_in x (aln i)) (hv : v = 0 ∨ v = 1) (d : decode cc pc = .ok (.bastore, 1)) (kk : WW G B p l e R s m args below meth c k n Q nL (pc + 1) lv st (sI σ i x.toNatClampNeg v)) : WW G B p l e R s m args below meth c k n Q nL pc lv (.int v :: .int x :: .ref (B + i) :: st) σ := fun H locs ls hP hS hl => va_zast C.1 C.2.1 C.2.2.2.2.2.1 hP (wl_D G B σ) hS i 1 (wl_at G B σ (kd_lt h (by decide)) (shp9 G B σ h)) rfl hin d (fun H1 locs1 h1 _ h3 => kk H1 locs1 ls (by rw [nar01 hv, wl_set G B σ (sI σ i x.toNatClampNeg v) (kd_lt h (by decide)) ((shp9 G B _ h).trans (by rw [sI_at])) (fun j hj => shp_ne G B (sI_ne σ _ _ hj) rfl)] at h1; exact h1) h3 hl)
theorem j_alen8 (C : Cx G B dy own cc nL p s m args c) {i : Nat} (h : kd i = 8) (d : decode cc pc = .ok (.arraylength, 1)) (kk : WW G B p l e R s m args below meth c k n Q nL (pc + 1) lv (.int (Int32.ofNat (aln i)) :: st) σ) : WW G B p l e R s m args below meth c k n Q nL pc lv (.ref (B + i) :: st) σ := fun H locs ls hP hS hl => va_alen C.1 C.2.1 C.2.2.2.2.2.1 hP i 0 (wl_at G B σ (kd_lt h (by decide)) (shp8 G B σ h)) rfl rfl d (kk H locs ls hP hS hl)
theorem j_alen9 (C : Cx G B dy own cc nL p s m args c) {i : Nat} (h : kd i = 9) (d : decode cc pc = .ok (.arraylength, 1)) (kk : WW G B p l e R s m args below meth c k n Q nL (pc + 1) lv (.int (Int32.ofNat (aln i)) :: st) σ) : WW G B p l e R s m args below meth c k n Q nL pc lv (.ref (B + i) :: st) σ := fun H locs ls hP hS hl => va_alen C.1 C.2.1 C.2.2.2.2.2.1 hP i 1 (wl_at G B σ (kd_lt h (by decide)) (shp9 G B σ h)) rfl rfl d (kk H locs ls hP hS hl)
theorem j_alen10 (C : Cx G B dy own cc nL p s m args c) {i : Nat} (h : kd i = 10) (d : decode cc pc = .ok (.arraylength, 1)) (kk : WW G B p l e R s m args below meth c k n Q nL (pc + 1) lv (.int (Int32.ofNat (aln i)) :: st) σ) : WW G B p l e R s m args below meth c k n Q nL pc lv (.ref (B + i) :: st) σ := fun H locs ls hP hS hl => va_alen C.1 C.2.1 C.2.2.2.2.2.1 hP i 2 (wl_at G B σ (kd_lt h (by decide)) (shp10 G B σ h)) rfl rfl d (kk H locs ls hP hS hl)
theorem j_alen11 (C : Cx G B dy own cc nL p s m args c) {i : Nat} (h : kd i = 11) (d : decode cc pc = .ok (.arraylength, 1)) (kk : WW G B p l e R s m args below meth c k n Q nL (pc + 1) lv (.int (Int32.ofNat (aln i)) :: st) σ) : WW G B p l e R s m args below meth c k n Q nL pc lv (.ref (B + i) :: st) σ := fun H locs ls hP hS hl => va_alen C.1 C.2.1 C.2.2.2.2.2.1 hP i 3 (wl_at G B σ (kd_lt h (by decide)) (shp11 G B σ h)) rfl rfl d (kk H locs ls hP hS hl)
theorem j_alen12 (C : Cx G B dy own cc nL p s m args c) {i : Nat} (h : kd i = 12) (d : decode cc pc = .ok (.arraylength, 1)) (kk : WW G B p l e R s m args below meth c k n Q nL (pc + 1) lv (.int (Int32.ofNat (aln i)) :: st) σ) : WW G B p l e R s m args below meth c k n Q nL pc lv (.ref (B + i) :: st) σ := fun H locs ls hP hS hl => va_alen C.1 C.2.1 C.2.2.2.2.2.1 hP i 4 (wl_at G B σ (kd_lt h (by decide)) (shp12 G B σ h)) rfl rfl d (kk H locs ls hP hS hl)
theorem j_dy (C : Cx G B dy own cc nL p s m args c) {index : Nat} (hlink : Cond.fieldLink own index RX6 "DIGEST_YEARS" "[I" ∈ TG) (d : decode cc pc = .ok (.getstatic index, 3)) (kk : WW G B p l e R s m args below meth c k n Q nL (pc + 3) lv (.ref dy :: st) σ) : WW G B p l e R s m args below meth c k n Q nL pc lv st σ := fun H locs ls hP hS hl => va_gets C.1 C.2.1 C.2.2.2.2.2.2.1.2.1 hS C.2.2.2.1 (C.2.2.2.2.1 _ hlink) (fun _ h => h) d (kk H locs ls hP hS hl)
theorem j_dylen (C : Cx G B dy own cc nL p s m args c) (d : decode cc pc = .ok (.arraylength, 1)) (kk : WW G B p l e R s m args below meth c k n Q nL (pc + 1) lv (.int 3 :: st) σ) : WW G B p l e R s m args below meth c k n Q nL pc lv (.ref dy :: st) σ := fun H locs ls hP hS hl => va_slen C.1 C.2.1 C.2.2.2.2.2.2.1.2.2.1 (Nat.lt_of_lt_of_le C.2.2.2.2.2.2.1.2.2.2 C.2.2.2.2.2.2.2) (Nat.not_le.mpr C.2.2.2.2.2.2.1.2.2.2) hS d (kk H locs ls hP hS hl)
theorem j_dyld (C : Cx G B dy own cc nL p s m args c) {x : Int32} (hin : vp_in x 3) (d : decode cc pc = .ok (.iaload, 1)) (kk : WW G B p l e R s m args below meth c k n Q nL (pc + 1) lv (.int (dyf x.toNatClampNeg) :: st) σ) : WW G B p l e R s m args below meth c k n Q nL pc lv (.int x :: .ref dy :: st) σ := fun H locs ls hP hS hl => va_sld C.1 C.2.1 C.2.2.2.2.2.2.1.2.2.1 (Nat.lt_of_lt_of_le C.2.2.2.2.2.2.1.2.2.2 C.2.2.2.2.2.2.2) (Nat.not_le.mpr C.2.2.2.2.2.2.1.2.2.2) hS hin d (kk H locs ls hP hS hl)
end J
end
section
/-! A METHOD'S CONTRACT: from the store σ with these arguments it returns r and leaves the store σ2 -/
abbrev RM (f lc mc ms : Nat) : Room := { frames := f, cells := mc, slots := ms, locals := lc }
def PostI (G : GG) (B : Nat) (r : Int32) (σ2 : St) := va_Qi (fun (r9 : Int32) (u : St) => r9 = r ∧ u = σ2) (Hp G B) (Ab B)
def PostL (G : GG) (B : Nat) (r : Int64) (σ2 : St) := va_Ql (fun (r9 : Int64) (u : St) => r9 = r ∧ u = σ2) (Hp G B) (Ab B)
def PostD (G : GG) (B : Nat) (r : UInt64) (σ2 : St) := va_Qd (fun (r9 : UInt64) (u : St) => r9 = r ∧ u = σ2) (Hp G B) (Ab B)
def PostV (G : GG) (B : Nat) (σ2 : St) := va_Qv (fun (u : St) => u = σ2) (Hp G B) (Ab B)
def PostQ (G : GG) (B : Nat) (r : Option Nat) (σ2 : St) := va_Qq (fun (r9 : Option Nat) (u : St) => r9 = r.map (fun i => B + i) ∧ u = σ2) (Hp G B) (Ab B)
abbrev Ct (l : Launch) (G : GG) (B dy : Nat) (y : MethodName) (cc : ByteArray) (maxL : Nat) (ret : Option FieldType) (f lc mc ms : Nat) (As : List Value) (σ : St) (Qc : Array Value → State → Outcome → State → Prop) : Prop :=
  Met l y (wq y cc maxL ret) (RM f lc mc ms) (va_Pc As (Hk G B dy σ)) Qc mc ms (Ab B)

section JC
variable {G : GG} {B dy : Nat} {own : String} {cc : ByteArray} {nL : Nat} {p : Program} {l : Launch} {e : Env} {R : Room} {s : State} {m : MethodId} {args : Array Value} {below : List Frame} {meth : Method} {c : Code} {k n : Nat} {Q : State → Prop}
variable {pc : Nat} {lv : List (Nat × Value)} {st : List Value} {σ : St}

theorem Ct_of {y : MethodName} {maxL f lc mc ms : Nat} {ret : Option FieldType} {As : List Value} {Qc : Array Value → State → Outcome → State → Prop} (hy : plainName y.cls = true) (lv0 : List (Nat × Value)) (hlen : (lg_sl As).length ≤ maxL) (hlv : lv_args 0 As = lv0)
    (body : ∀ {p : Program} {e : Env} {s : State} {m : MethodId} {args : Array Value} {below : List Frame} {meth : Method} {c : Code}, Cx G B dy y.cls cc maxL p s m args c → meth.sig.returnType = ret → meth.locks = false → WW G B p l e (RM f lc mc ms) s m args below meth c 0 0 (MQ below Qc args s mc ms (Ab B)) maxL 0 lv0 [] σ) :
    Ct l G B dy y cc maxL ret f lc mc ms As σ Qc := by
  refine Met.ofW (cc := cc) (maxL := maxL) (ret := ret) hy rfl ?_
  intro p e s m args below meth c s₁ B9 hml hv
  obtain ⟨rfl, hP, hK, hX⟩ := hv
  have hts := atoms_spec (ws := wq y cc maxL ret) B9.pre
  have hB : B ≤ s.heap.size := by
    have h1 := (hP 0 _ (wl_get G B σ (i := 0) (by decide))).lt
    have h1 : B + 0 < s.heap.size := h1
    omega
  have C : Cx G B dy y.cls cc maxL p s m As.toArray c := ⟨B9.exec, B9.bytes, hml, findClass_of_methodNamed B9.named, fun w hw => hts w (List.mem_cons_of_mem _ hw), hK, hX, hB⟩
  rw [lg_entry_eq]
  refine body C B9.returns B9.notSynchronized s.heap [] _ hP va_S.rf ?_
  rw [← hlv]
  exact lv_entry As hlen

theorem j_iret (C : Cx G B dy own cc nL p s m args c) (hr : meth.sig.returnType = some .int) (hlk : meth.locks = false) {v r : Int32} {σ2 : St} {mc ms : Nat} (h : some (v, σ) = some (r, σ2)) (hk : k ≤ mc ∧ n ≤ ms) (d : decode cc pc = .ok (.ireturn, 1)) : WW G B p l e R s m args below meth c k n (MQ below (PostI G B r σ2) args s mc ms (Ab B)) nL pc lv [.int v] σ := by
  intro H locs ls hP hS hl
  have h := Option.some.inj h
  obtain ⟨rfl, rfl⟩ := Prod.mk.injEq .. ▸ h
  refine W.widen hk.1 hk.2 ?_
  exact W.iret C.1 C.2.1 hr (fun t ht _ => ⟨⟨v, σ, rfl, ⟨rfl, rfl⟩, by rw [Hp, ht]; exact hP⟩, hS.F ht⟩) hS.2.2 d hlk
theorem nz01 {v : Int32} (hv : v = 0 ∨ v = 1) : narrow .boolean (.int v) = .int v := by rcases hv with rfl | rfl <;> rfl
theorem j_zret (C : Cx G B dy own cc nL p s m args c) (hr : meth.sig.returnType = some .boolean) (hlk : meth.locks = false) {v r : Int32} {σ2 : St} {mc ms : Nat} (hv : v = 0 ∨ v = 1) (h : some (v, σ) = some (r, σ2)) (hk : k ≤ mc ∧ n ≤ ms) (d : decode cc pc = .ok (.ireturn, 1)) : WW G B p l e R s m args below meth c k n (MQ below (PostI G B r σ2) args s mc ms (Ab B)) nL pc lv [.int v] σ := by
  intro H locs ls hP hS hl
  have h := Option.some.inj h
  obtain ⟨rfl, rfl⟩ := Prod.mk.injEq .. ▸ h
  refine W.widen hk.1 hk.2 ?_
  exact W.zret C.1 C.2.1 hr (nz01 hv) (fun t ht _ => ⟨⟨v, σ, rfl, ⟨rfl, rfl⟩, by rw [Hp, ht]; exact hP⟩, hS.F ht⟩) hS.2.2 d hlk
theorem j_lret (C : Cx G B dy own cc nL p s m args c) (hr : meth.sig.returnType = some .long) (hlk : meth.locks = false) {v r : Int64} {σ2 : St} {mc ms : Nat} (h : some (v, σ) = some (r, σ2)) (hk : k ≤ mc ∧ n ≤ ms) (d : decode cc pc = .ok (.lreturn, 1)) : WW G B p l e R s m args below meth c k n (MQ below (PostL G B r σ2) args s mc ms (Ab B)) nL pc lv [.long v] σ := by
  intro H locs ls hP hS hl
  have h := Option.some.inj h
  obtain ⟨rfl, rfl⟩ := Prod.mk.injEq .. ▸ h
  refine W.widen hk.1 hk.2 ?_
  exact W.lret C.1 C.2.1 hr (fun t ht _ => ⟨⟨v, σ, rfl, ⟨rfl, rfl⟩, by rw [Hp, ht]; exact hP⟩, hS.F ht⟩) hS.2.2 d hlk
theorem j_dret (C : Cx G B dy own cc nL p s m args c) (hr : meth.sig.returnType = some .double) (hlk : meth.locks = false) {v r : UInt64} {σ2 : St} {mc ms : Nat} (h : some (v, σ) = some (r, σ2)) (hk : k ≤ mc ∧ n ≤ ms) (d : decode cc pc = .ok (.dreturn, 1)) : WW G B p l e R s m args below meth c k n (MQ below (PostD G B r σ2) args s mc ms (Ab B)) nL pc lv [.double v] σ := by
  intro H locs ls hP hS hl
  have h := Option.some.inj h
  obtain ⟨rfl, rfl⟩ := Prod.mk.injEq .. ▸ h
  refine W.widen hk.1 hk.2 ?_
  exact W.dret C.1 C.2.1 hr (fun t ht _ => ⟨⟨v, σ, rfl, ⟨rfl, rfl⟩, by rw [Hp, ht]; exact hP⟩, hS.F ht⟩) hS.2.2 d hlk
theorem j_vret (C : Cx G B dy own cc nL p s m args c) (hr : meth.sig.returnType = none) (hlk : meth.locks = false) {σ2 : St} {mc ms : Nat} (h : some σ = some σ2) (hk : k ≤ mc ∧ n ≤ ms) (d : decode cc pc = .ok (.return_, 1)) : WW G B p l e R s m args below meth c k n (MQ below (PostV G B σ2) args s mc ms (Ab B)) nL pc lv [] σ := by
  intro H locs ls hP hS hl
  obtain rfl := Option.some.inj h
  refine W.widen hk.1 hk.2 ?_
  exact W.vret C.1 C.2.1 hr (fun t ht _ => ⟨⟨σ, rfl, rfl, by rw [Hp, ht]; exact hP⟩, hS.F ht⟩) hS.2.2 d hlk
theorem j_aret (C : Cx G B dy own cc nL p s m args c) {tn : String} (hr : meth.sig.returnType = some (.object tn)) (hlk : meth.locks = false) {i : Nat} {r : Option Nat} {σ2 : St} {mc ms : Nat} (h : some (some i, σ) = some (r, σ2)) (hk : k ≤ mc ∧ n ≤ ms) (d : decode cc pc = .ok (.areturn, 1)) : WW G B p l e R s m args below meth c k n (MQ below (PostQ G B r σ2) args s mc ms (Ab B)) nL pc lv [.ref (B + i)] σ := by
  intro H locs ls hP hS hl
  have h := Option.some.inj h
  obtain ⟨rfl, rfl⟩ := Prod.mk.injEq .. ▸ h
  refine W.widen hk.1 hk.2 ?_
  exact W.aret C.1 C.2.1 hr (Or.inl ⟨_, rfl⟩) (Or.inr ⟨_, rfl⟩) (fun t ht _ => ⟨⟨some (B + i), σ, rfl, ⟨rfl, rfl⟩, by rw [Hp, ht]; exact hP⟩, hS.F ht⟩) hS.2.2 d hlk
theorem j_aretN (C : Cx G B dy own cc nL p s m args c) {tn : String} (hr : meth.sig.returnType = some (.object tn)) (hlk : meth.locks = false) {r : Option Nat} {σ2 : St} {mc ms : Nat} (h : some (none, σ) = some (r, σ2)) (hk : k ≤ mc ∧ n ≤ ms) (d : decode cc pc = .ok (.areturn, 1)) : WW G B p l e R s m args below meth c k n (MQ below (PostQ G B r σ2) args s mc ms (Ab B)) nL pc lv [.null] σ := by
  intro H locs ls hP hS hl
  have h := Option.some.inj h
  obtain ⟨rfl, rfl⟩ := Prod.mk.injEq .. ▸ h
  refine W.widen hk.1 hk.2 ?_
  exact W.aret C.1 C.2.1 hr (Or.inl ⟨_, rfl⟩) (Or.inl rfl) (fun t ht _ => ⟨⟨none, σ, rfl, ⟨rfl, rfl⟩, by rw [Hp, ht]; exact hP⟩, hS.F ht⟩) hS.2.2 d hlk
theorem pre_of (C : Cx G B dy own cc nL p s m args c) {H : Heap} {locs : List Loc} {As : List Value} (hP : va_P G.1 vwCl (wl G B σ) H) (hS : va_S (Ab B) s.heap H locs) : ∀ U : State, U.heap = H → s.WarmedH U.vm → va_Pc As (Hk G B dy σ) As.toArray U :=
  fun U hU hW => ⟨rfl, by rw [hU]; exact hP, va_K.moved hW.alike C.2.2.2.2.2.1, C.2.2.2.2.2.2.1.carry C.2.2.2.2.2.2.2 hS hU hW⟩
theorem hA_of (C : Cx G B dy own cc nL p s m args c) {H : Heap} {locs : List Loc} (hS : va_S (Ab B) s.heap H locs) : ∀ q : Nat, q < H.size → Ab B q → Ab B q := fun _ _ h => h
theorem call_ws0 {y : MethodName} {cb : ByteArray} {maxL : Nat} {ret : Option FieldType} (w4 : Cond.code y cb maxL ret ∈ TG) : ∀ w ∈ wq y cb maxL ret, w ∈ TG := fun w hw => (List.mem_cons.mp hw).elim (fun h => h ▸ w4) id
theorem call_ws3 {own : String} {index : Nat} {y : MethodName} {cb : ByteArray} {maxL : Nat} {ret : Option FieldType} (w1 : Cond.methodLink own index y ∈ TG) (w2 : Cond.static y ∈ TG) (w3 : Cond.initialized own ∈ TG) (w4 : Cond.code y cb maxL ret ∈ TG) : ∀ w ∈ wsS own index y (wq y cb maxL ret), w ∈ TG := by
  intro w hw
  rcases List.mem_append.mp hw with h | h
  · simp only [List.mem_cons, List.not_mem_nil, or_false] at h
    rcases h with rfl | rfl | rfl
    · exact w1
    · exact w2
    · exact w3
  · exact call_ws0 w4 w h
theorem call_ws4 {own : String} {index : Nat} {y : MethodName} {cb : ByteArray} {maxL : Nat} {ret : Option FieldType} (w1 : Cond.methodLink own index y ∈ TG) (w2 : Cond.instanceMethod y ∈ TG) (w5 : Cond.selects y.cls y y ∈ TG) (w3 : Cond.initialized y.cls ∈ TG) (w4 : Cond.code y cb maxL ret ∈ TG) : ∀ w ∈ wsV own index y.cls y (wq y cb maxL ret), w ∈ TG := by
  intro w hw
  rcases List.mem_append.mp hw with h | h
  · simp only [List.mem_cons, List.not_mem_nil, or_false] at h
    rcases h with rfl | rfl | rfl | rfl
    · exact w1
    · exact w2
    · exact w5
    · exact w3
  · exact call_ws0 w4 w h
theorem j_callS_i (C : Cx G B dy own cc nL p s m args c) {y : MethodName} {cb : ByteArray} {maxL f lc mc ms a index : Nat} {ret : Option FieldType} {As rest : List Value} {i : Nat} {σ2 : St} {r : Int32} (hM : Ct l G B dy y cb maxL ret f lc mc ms As σ (PostI G B r σ2)) (w1 : Cond.methodLink own index y ∈ TG) (w2 : Cond.static y ∈ TG) (w3 : Cond.initialized y.cls ∈ TG) (w4 : Cond.code y cb maxL ret ∈ TG) (hd : y.cls = own ∧ y.cls ≠ "java/lang/invoke/MethodHandle" ∧ y.cls ≠ "java/lang/invoke/VarHandle" ∧ (parseMethodDescriptor y.desc).map (fun d => d.parameters.length) = some a) (hR : f + 1 ≤ R.frames ∧ 8 + (maxL + 11) + lc ≤ R.locals) (hf : k + mc ≤ R.cells ∧ n + ms ≤ R.slots) (hn : As.length = a) (hstk : st = As.reverse ++ rest) (hcat : (rest.map fun v => v.category).sum ≤ 8) (d : decode cc pc = .ok (.invokestatic index, 3)) (kk : WW G B p l e R s m args below meth c (k + mc) (n + ms) Q nL (pc + 3) lv (.int r :: rest) σ2) : WW G B p l e R s m args below meth c k n Q nL pc lv st σ := fun H locs ls hP hS hl => va_calli (va_runS (nL := nL) (As := As) (rest := rest) ⟨C.1, C.2.1, C.2.2.1, C.2.2.2.1, C.2.2.2.2.1⟩ hM (cwS a C.2.2.2.2.1 (TG_goodIn (call_ws3 w1 w2 (hd.1 ▸ w3) w4)) rfl rfl rfl hd hR) ⟨Hk.blind, pre_of C hP hS⟩ rfl hn hl.1 hstk (lv_room hcat) d hf) hS (fun _ _ h => h) (fun _ h => h) (fun r9 u t H1 locs1 ht hvm hw hB hz1 hk1 hS1 => by
    obtain ⟨rfl, rfl⟩ := hw
    rw [Hp, ht] at hB
    exact kk H1 locs1 ls hB hS1 hl)
theorem j_callS_l (C : Cx G B dy own cc nL p s m args c) {y : MethodName} {cb : ByteArray} {maxL f lc mc ms a index : Nat} {ret : Option FieldType} {As rest : List Value} {i : Nat} {σ2 : St} {r : Int64} (hM : Ct l G B dy y cb maxL ret f lc mc ms As σ (PostL G B r σ2)) (w1 : Cond.methodLink own index y ∈ TG) (w2 : Cond.static y ∈ TG) (w3 : Cond.initialized y.cls ∈ TG) (w4 : Cond.code y cb maxL ret ∈ TG) (hd : y.cls = own ∧ y.cls ≠ "java/lang/invoke/MethodHandle" ∧ y.cls ≠ "java/lang/invoke/VarHandle" ∧ (parseMethodDescriptor y.desc).map (fun d => d.parameters.length) = some a) (hR : f + 1 ≤ R.frames ∧ 8 + (maxL + 11) + lc ≤ R.locals) (hf : k + mc ≤ R.cells ∧ n + ms ≤ R.slots) (hn : As.length = a) (hstk : st = As.reverse ++ rest) (hcat : (rest.map fun v => v.category).sum ≤ 8) (d : decode cc pc = .ok (.invokestatic index, 3)) (kk : WW G B p l e R s m args below meth c (k + mc) (n + ms) Q nL (pc + 3) lv (.long r :: rest) σ2) : WW G B p l e R s m args below meth c k n Q nL pc lv st σ := fun H locs ls hP hS hl => va_calll (va_runS (nL := nL) (As := As) (rest := rest) ⟨C.1, C.2.1, C.2.2.1, C.2.2.2.1, C.2.2.2.2.1⟩ hM (cwS a C.2.2.2.2.1 (TG_goodIn (call_ws3 w1 w2 (hd.1 ▸ w3) w4)) rfl rfl rfl hd hR) ⟨Hk.blind, pre_of C hP hS⟩ rfl hn hl.1 hstk (lv_room hcat) d hf) hS (fun _ _ h => h) (fun _ h => h) (fun r9 u t H1 locs1 ht hvm hw hB hz1 hk1 hS1 => by
    obtain ⟨rfl, rfl⟩ := hw
    rw [Hp, ht] at hB
    exact kk H1 locs1 ls hB hS1 hl)
theorem j_callS_d (C : Cx G B dy own cc nL p s m args c) {y : MethodName} {cb : ByteArray} {maxL f lc mc ms a index : Nat} {ret : Option FieldType} {As rest : List Value} {i : Nat} {σ2 : St} {r : UInt64} (hM : Ct l G B dy y cb maxL ret f lc mc ms As σ (PostD G B r σ2)) (w1 : Cond.methodLink own index y ∈ TG) (w2 : Cond.static y ∈ TG) (w3 : Cond.initialized y.cls ∈ TG) (w4 : Cond.code y cb maxL ret ∈ TG) (hd : y.cls = own ∧ y.cls ≠ "java/lang/invoke/MethodHandle" ∧ y.cls ≠ "java/lang/invoke/VarHandle" ∧ (parseMethodDescriptor y.desc).map (fun d => d.parameters.length) = some a) (hR : f + 1 ≤ R.frames ∧ 8 + (maxL + 11) + lc ≤ R.locals) (hf : k + mc ≤ R.cells ∧ n + ms ≤ R.slots) (hn : As.length = a) (hstk : st = As.reverse ++ rest) (hcat : (rest.map fun v => v.category).sum ≤ 8) (d : decode cc pc = .ok (.invokestatic index, 3)) (kk : WW G B p l e R s m args below meth c (k + mc) (n + ms) Q nL (pc + 3) lv (.double r :: rest) σ2) : WW G B p l e R s m args below meth c k n Q nL pc lv st σ := fun H locs ls hP hS hl => va_calld (va_runS (nL := nL) (As := As) (rest := rest) ⟨C.1, C.2.1, C.2.2.1, C.2.2.2.1, C.2.2.2.2.1⟩ hM (cwS a C.2.2.2.2.1 (TG_goodIn (call_ws3 w1 w2 (hd.1 ▸ w3) w4)) rfl rfl rfl hd hR) ⟨Hk.blind, pre_of C hP hS⟩ rfl hn hl.1 hstk (lv_room hcat) d hf) hS (fun _ _ h => h) (fun _ h => h) (fun r9 u t H1 locs1 ht hvm hw hB hz1 hk1 hS1 => by
    obtain ⟨rfl, rfl⟩ := hw
    rw [Hp, ht] at hB
    exact kk H1 locs1 ls hB hS1 hl)
theorem j_callS_v (C : Cx G B dy own cc nL p s m args c) {y : MethodName} {cb : ByteArray} {maxL f lc mc ms a index : Nat} {ret : Option FieldType} {As rest : List Value} {i : Nat} {σ2 : St} (hM : Ct l G B dy y cb maxL ret f lc mc ms As σ (PostV G B σ2)) (w1 : Cond.methodLink own index y ∈ TG) (w2 : Cond.static y ∈ TG) (w3 : Cond.initialized y.cls ∈ TG) (w4 : Cond.code y cb maxL ret ∈ TG) (hd : y.cls = own ∧ y.cls ≠ "java/lang/invoke/MethodHandle" ∧ y.cls ≠ "java/lang/invoke/VarHandle" ∧ (parseMethodDescriptor y.desc).map (fun d => d.parameters.length) = some a) (hR : f + 1 ≤ R.frames ∧ 8 + (maxL + 11) + lc ≤ R.locals) (hf : k + mc ≤ R.cells ∧ n + ms ≤ R.slots) (hn : As.length = a) (hstk : st = As.reverse ++ rest) (hcat : (rest.map fun v => v.category).sum ≤ 8) (d : decode cc pc = .ok (.invokestatic index, 3)) (kk : WW G B p l e R s m args below meth c (k + mc) (n + ms) Q nL (pc + 3) lv (rest) σ2) : WW G B p l e R s m args below meth c k n Q nL pc lv st σ := fun H locs ls hP hS hl => va_callv (va_runS (nL := nL) (As := As) (rest := rest) ⟨C.1, C.2.1, C.2.2.1, C.2.2.2.1, C.2.2.2.2.1⟩ hM (cwS a C.2.2.2.2.1 (TG_goodIn (call_ws3 w1 w2 (hd.1 ▸ w3) w4)) rfl rfl rfl hd hR) ⟨Hk.blind, pre_of C hP hS⟩ rfl hn hl.1 hstk (lv_room hcat) d hf) hS (fun _ _ h => h) (fun _ h => h) (fun u t H1 locs1 ht hvm hw hB hz1 hk1 hS1 => by
    obtain rfl := hw
    rw [Hp, ht] at hB
    exact kk H1 locs1 ls hB hS1 hl)
theorem j_callS_q (C : Cx G B dy own cc nL p s m args c) {y : MethodName} {cb : ByteArray} {maxL f lc mc ms a index : Nat} {ret : Option FieldType} {As rest : List Value} {i : Nat} {σ2 : St} {r : Option Nat} (hM : Ct l G B dy y cb maxL ret f lc mc ms As σ (PostQ G B r σ2)) (w1 : Cond.methodLink own index y ∈ TG) (w2 : Cond.static y ∈ TG) (w3 : Cond.initialized y.cls ∈ TG) (w4 : Cond.code y cb maxL ret ∈ TG) (hd : y.cls = own ∧ y.cls ≠ "java/lang/invoke/MethodHandle" ∧ y.cls ≠ "java/lang/invoke/VarHandle" ∧ (parseMethodDescriptor y.desc).map (fun d => d.parameters.length) = some a) (hR : f + 1 ≤ R.frames ∧ 8 + (maxL + 11) + lc ≤ R.locals) (hf : k + mc ≤ R.cells ∧ n + ms ≤ R.slots) (hn : As.length = a) (hstk : st = As.reverse ++ rest) (hcat : (rest.map fun v => v.category).sum ≤ 8) (d : decode cc pc = .ok (.invokestatic index, 3)) (kk : WW G B p l e R s m args below meth c (k + mc) (n + ms) Q nL (pc + 3) lv (va_rf (r.map (fun i => B + i)) :: rest) σ2) : WW G B p l e R s m args below meth c k n Q nL pc lv st σ := fun H locs ls hP hS hl => va_callq (va_runS (nL := nL) (As := As) (rest := rest) ⟨C.1, C.2.1, C.2.2.1, C.2.2.2.1, C.2.2.2.2.1⟩ hM (cwS a C.2.2.2.2.1 (TG_goodIn (call_ws3 w1 w2 (hd.1 ▸ w3) w4)) rfl rfl rfl hd hR) ⟨Hk.blind, pre_of C hP hS⟩ rfl hn hl.1 hstk (lv_room hcat) d hf) hS (fun _ _ h => h) (fun _ h => h) (fun r9 u t H1 locs1 ht hvm hw hB hz1 hk1 hS1 => by
    obtain ⟨rfl, rfl⟩ := hw
    rw [Hp, ht] at hB
    exact kk H1 locs1 ls hB hS1 hl)
theorem j_callSN_i (C : Cx G B dy own cc nL p s m args c) {host : String} {y : MethodName} {cb : ByteArray} {maxL f lc mc ms a index : Nat} {ret : Option FieldType} {As rest : List Value} {i : Nat} {σ2 : St} {r : Int32} (hM : Ct l G B dy y cb maxL ret f lc mc ms As σ (PostI G B r σ2)) (w1 : (own, index, y, host) ∈ nestL) (w2 : Cond.static y ∈ TG) (w3 : Cond.initialized y.cls ∈ TG) (w4 : Cond.code y cb maxL ret ∈ TG) (hd : y.cls ≠ "java/lang/invoke/MethodHandle" ∧ y.cls ≠ "java/lang/invoke/VarHandle" ∧ (parseMethodDescriptor y.desc).map (fun d => d.parameters.length) = some a) (hR : f + 1 ≤ R.frames ∧ 8 + (maxL + 11) + lc ≤ R.locals) (hf : k + mc ≤ R.cells ∧ n + ms ≤ R.slots) (hn : As.length = a) (hstk : st = As.reverse ++ rest) (hcat : (rest.map fun v => v.category).sum ≤ 8) (d : decode cc pc = .ok (.invokestatic index, 3)) (kk : WW G B p l e R s m args below meth c (k + mc) (n + ms) Q nL (pc + 3) lv (.int r :: rest) σ2) : WW G B p l e R s m args below meth c k n Q nL pc lv st σ := fun H locs ls hP hS hl => va_calli (va_runSN (nL := nL) (As := As) (rest := rest) ⟨C.1, C.2.1, C.2.2.1, C.2.2.2.1, C.2.2.2.2.1⟩ hM ⟨va_cnB a C.2.2.2.2.1 (TG_goodIn (call_ws0 w4)) rfl rfl rfl (C.2.2.2.2.2.2.1.1 (own, index, y, host) w1) (C.2.2.2.2.1 _ w3) hd hR, C.2.2.2.2.1 _ w2, trivial⟩ ⟨Hk.blind, pre_of C hP hS⟩ rfl hn hl.1 hstk (lv_room hcat) d hf) hS (fun _ _ h => h) (fun _ h => h) (fun r9 u t H1 locs1 ht hvm hw hB hz1 hk1 hS1 => by
    obtain ⟨rfl, rfl⟩ := hw
    rw [Hp, ht] at hB
    exact kk H1 locs1 ls hB hS1 hl)
theorem j_callSN_l (C : Cx G B dy own cc nL p s m args c) {host : String} {y : MethodName} {cb : ByteArray} {maxL f lc mc ms a index : Nat} {ret : Option FieldType} {As rest : List Value} {i : Nat} {σ2 : St} {r : Int64} (hM : Ct l G B dy y cb maxL ret f lc mc ms As σ (PostL G B r σ2)) (w1 : (own, index, y, host) ∈ nestL) (w2 : Cond.static y ∈ TG) (w3 : Cond.initialized y.cls ∈ TG) (w4 : Cond.code y cb maxL ret ∈ TG) (hd : y.cls ≠ "java/lang/invoke/MethodHandle" ∧ y.cls ≠ "java/lang/invoke/VarHandle" ∧ (parseMethodDescriptor y.desc).map (fun d => d.parameters.length) = some a) (hR : f + 1 ≤ R.frames ∧ 8 + (maxL + 11) + lc ≤ R.locals) (hf : k + mc ≤ R.cells ∧ n + ms ≤ R.slots) (hn : As.length = a) (hstk : st = As.reverse ++ rest) (hcat : (rest.map fun v => v.category).sum ≤ 8) (d : decode cc pc = .ok (.invokestatic index, 3)) (kk : WW G B p l e R s m args below meth c (k + mc) (n + ms) Q nL (pc + 3) lv (.long r :: rest) σ2) : WW G B p l e R s m args below meth c k n Q nL pc lv st σ := fun H locs ls hP hS hl => va_calll (va_runSN (nL := nL) (As := As) (rest := rest) ⟨C.1, C.2.1, C.2.2.1, C.2.2.2.1, C.2.2.2.2.1⟩ hM ⟨va_cnB a C.2.2.2.2.1 (TG_goodIn (call_ws0 w4)) rfl rfl rfl (C.2.2.2.2.2.2.1.1 (own, index, y, host) w1) (C.2.2.2.2.1 _ w3) hd hR, C.2.2.2.2.1 _ w2, trivial⟩ ⟨Hk.blind, pre_of C hP hS⟩ rfl hn hl.1 hstk (lv_room hcat) d hf) hS (fun _ _ h => h) (fun _ h => h) (fun r9 u t H1 locs1 ht hvm hw hB hz1 hk1 hS1 => by
    obtain ⟨rfl, rfl⟩ := hw
    rw [Hp, ht] at hB
    exact kk H1 locs1 ls hB hS1 hl)
theorem j_callSN_d (C : Cx G B dy own cc nL p s m args c) {host : String} {y : MethodName} {cb : ByteArray} {maxL f lc mc ms a index : Nat} {ret : Option FieldType} {As rest : List Value} {i : Nat} {σ2 : St} {r : UInt64} (hM : Ct l G B dy y cb maxL ret f lc mc ms As σ (PostD G B r σ2)) (w1 : (own, index, y, host) ∈ nestL) (w2 : Cond.static y ∈ TG) (w3 : Cond.initialized y.cls ∈ TG) (w4 : Cond.code y cb maxL ret ∈ TG) (hd : y.cls ≠ "java/lang/invoke/MethodHandle" ∧ y.cls ≠ "java/lang/invoke/VarHandle" ∧ (parseMethodDescriptor y.desc).map (fun d => d.parameters.length) = some a) (hR : f + 1 ≤ R.frames ∧ 8 + (maxL + 11) + lc ≤ R.locals) (hf : k + mc ≤ R.cells ∧ n + ms ≤ R.slots) (hn : As.length = a) (hstk : st = As.reverse ++ rest) (hcat : (rest.map fun v => v.category).sum ≤ 8) (d : decode cc pc = .ok (.invokestatic index, 3)) (kk : WW G B p l e R s m args below meth c (k + mc) (n + ms) Q nL (pc + 3) lv (.double r :: rest) σ2) : WW G B p l e R s m args below meth c k n Q nL pc lv st σ := fun H locs ls hP hS hl => va_calld (va_runSN (nL := nL) (As := As) (rest := rest) ⟨C.1, C.2.1, C.2.2.1, C.2.2.2.1, C.2.2.2.2.1⟩ hM ⟨va_cnB a C.2.2.2.2.1 (TG_goodIn (call_ws0 w4)) rfl rfl rfl (C.2.2.2.2.2.2.1.1 (own, index, y, host) w1) (C.2.2.2.2.1 _ w3) hd hR, C.2.2.2.2.1 _ w2, trivial⟩ ⟨Hk.blind, pre_of C hP hS⟩ rfl hn hl.1 hstk (lv_room hcat) d hf) hS (fun _ _ h => h) (fun _ h => h) (fun r9 u t H1 locs1 ht hvm hw hB hz1 hk1 hS1 => by
    obtain ⟨rfl, rfl⟩ := hw
    rw [Hp, ht] at hB
    exact kk H1 locs1 ls hB hS1 hl)
theorem j_callSN_v (C : Cx G B dy own cc nL p s m args c) {host : String} {y : MethodName} {cb : ByteArray} {maxL f lc mc ms a index : Nat} {ret : Option FieldType} {As rest : List Value} {i : Nat} {σ2 : St} (hM : Ct l G B dy y cb maxL ret f lc mc ms As σ (PostV G B σ2)) (w1 : (own, index, y, host) ∈ nestL) (w2 : Cond.static y ∈ TG) (w3 : Cond.initialized y.cls ∈ TG) (w4 : Cond.code y cb maxL ret ∈ TG) (hd : y.cls ≠ "java/lang/invoke/MethodHandle" ∧ y.cls ≠ "java/lang/invoke/VarHandle" ∧ (parseMethodDescriptor y.desc).map (fun d => d.parameters.length) = some a) (hR : f + 1 ≤ R.frames ∧ 8 + (maxL + 11) + lc ≤ R.locals) (hf : k + mc ≤ R.cells ∧ n + ms ≤ R.slots) (hn : As.length = a) (hstk : st = As.reverse ++ rest) (hcat : (rest.map fun v => v.category).sum ≤ 8) (d : decode cc pc = .ok (.invokestatic index, 3)) (kk : WW G B p l e R s m args below meth c (k + mc) (n + ms) Q nL (pc + 3) lv (rest) σ2) : WW G B p l e R s m args below meth c k n Q nL pc lv st σ := fun H locs ls hP hS hl => va_callv (va_runSN (nL := nL) (As := As) (rest := rest) ⟨C.1, C.2.1, C.2.2.1, C.2.2.2.1, C.2.2.2.2.1⟩ hM ⟨va_cnB a C.2.2.2.2.1 (TG_goodIn (call_ws0 w4)) rfl rfl rfl (C.2.2.2.2.2.2.1.1 (own, index, y, host) w1) (C.2.2.2.2.1 _ w3) hd hR, C.2.2.2.2.1 _ w2, trivial⟩ ⟨Hk.blind, pre_of C hP hS⟩ rfl hn hl.1 hstk (lv_room hcat) d hf) hS (fun _ _ h => h) (fun _ h => h) (fun u t H1 locs1 ht hvm hw hB hz1 hk1 hS1 => by
    obtain rfl := hw
    rw [Hp, ht] at hB
    exact kk H1 locs1 ls hB hS1 hl)
theorem j_callSN_q (C : Cx G B dy own cc nL p s m args c) {host : String} {y : MethodName} {cb : ByteArray} {maxL f lc mc ms a index : Nat} {ret : Option FieldType} {As rest : List Value} {i : Nat} {σ2 : St} {r : Option Nat} (hM : Ct l G B dy y cb maxL ret f lc mc ms As σ (PostQ G B r σ2)) (w1 : (own, index, y, host) ∈ nestL) (w2 : Cond.static y ∈ TG) (w3 : Cond.initialized y.cls ∈ TG) (w4 : Cond.code y cb maxL ret ∈ TG) (hd : y.cls ≠ "java/lang/invoke/MethodHandle" ∧ y.cls ≠ "java/lang/invoke/VarHandle" ∧ (parseMethodDescriptor y.desc).map (fun d => d.parameters.length) = some a) (hR : f + 1 ≤ R.frames ∧ 8 + (maxL + 11) + lc ≤ R.locals) (hf : k + mc ≤ R.cells ∧ n + ms ≤ R.slots) (hn : As.length = a) (hstk : st = As.reverse ++ rest) (hcat : (rest.map fun v => v.category).sum ≤ 8) (d : decode cc pc = .ok (.invokestatic index, 3)) (kk : WW G B p l e R s m args below meth c (k + mc) (n + ms) Q nL (pc + 3) lv (va_rf (r.map (fun i => B + i)) :: rest) σ2) : WW G B p l e R s m args below meth c k n Q nL pc lv st σ := fun H locs ls hP hS hl => va_callq (va_runSN (nL := nL) (As := As) (rest := rest) ⟨C.1, C.2.1, C.2.2.1, C.2.2.2.1, C.2.2.2.2.1⟩ hM ⟨va_cnB a C.2.2.2.2.1 (TG_goodIn (call_ws0 w4)) rfl rfl rfl (C.2.2.2.2.2.2.1.1 (own, index, y, host) w1) (C.2.2.2.2.1 _ w3) hd hR, C.2.2.2.2.1 _ w2, trivial⟩ ⟨Hk.blind, pre_of C hP hS⟩ rfl hn hl.1 hstk (lv_room hcat) d hf) hS (fun _ _ h => h) (fun _ h => h) (fun r9 u t H1 locs1 ht hvm hw hB hz1 hk1 hS1 => by
    obtain ⟨rfl, rfl⟩ := hw
    rw [Hp, ht] at hB
    exact kk H1 locs1 ls hB hS1 hl)
theorem j_callV_i (C : Cx G B dy own cc nL p s m args c) {y : MethodName} {cb : ByteArray} {maxL f lc mc ms a index : Nat} {ret : Option FieldType} {As rest : List Value} {i : Nat} {σ2 : St} {r : Int32} (hM : Ct l G B dy y cb maxL ret f lc mc ms (.ref (B + i) :: As) σ (PostI G B r σ2)) {ci : Nat} {T : u_T} {N : Nat} {fs : List Value} (he : shp G B σ i = .inr (ci, fs)) (hi : i < NC) (hc : vwCl[ci]? = some (y.cls, T, N)) (w1 : Cond.methodLink own index y ∈ TG) (w2 : Cond.instanceMethod y ∈ TG) (w5 : Cond.selects y.cls y y ∈ TG) (w3 : Cond.initialized y.cls ∈ TG) (w4 : Cond.code y cb maxL ret ∈ TG) (hd : y.cls ≠ "java/lang/invoke/MethodHandle" ∧ y.cls ≠ "java/lang/invoke/VarHandle" ∧ (parseMethodDescriptor y.desc).map (fun d => d.parameters.length) = some a) (hR : f + 1 ≤ R.frames ∧ 8 + (maxL + 11) + lc ≤ R.locals) (hf : k + mc ≤ R.cells ∧ n + ms ≤ R.slots) (hn : As.length = a) (hstk : st = As.reverse ++ .ref (B + i) :: rest) (hcat : (rest.map fun v => v.category).sum ≤ 8) (d : decode cc pc = .ok (.invokevirtual index, 3)) (kk : WW G B p l e R s m args below meth c (k + mc) (n + ms) Q nL (pc + 3) lv (.int r :: rest) σ2) : WW G B p l e R s m args below meth c k n Q nL pc lv st σ := fun H locs ls hP hS hl => va_calli (va_runV (nL := nL) (C := y.cls) (As := As) (rest := rest) ⟨C.1, C.2.1, C.2.2.1, C.2.2.2.1, C.2.2.2.2.1⟩ hM (cwV a C.2.2.2.2.1 (TG_goodIn (call_ws4 w1 w2 w5 w3 w4)) rfl rfl rfl ⟨rfl, hd⟩ hR) ⟨Hk.blind, va_recv C.2.2.2.2.2.1 hP hc (wl_at G B σ hi he), pre_of (As := .ref (B + i) :: As) C hP hS⟩ rfl hn hl.1 hstk (lv_room hcat) d hf) hS (fun _ _ h => h) (fun _ h => h) (fun r9 u t H1 locs1 ht hvm hw hB hz1 hk1 hS1 => by
    obtain ⟨rfl, rfl⟩ := hw
    rw [Hp, ht] at hB
    exact kk H1 locs1 ls hB hS1 hl)
theorem j_callV_l (C : Cx G B dy own cc nL p s m args c) {y : MethodName} {cb : ByteArray} {maxL f lc mc ms a index : Nat} {ret : Option FieldType} {As rest : List Value} {i : Nat} {σ2 : St} {r : Int64} (hM : Ct l G B dy y cb maxL ret f lc mc ms (.ref (B + i) :: As) σ (PostL G B r σ2)) {ci : Nat} {T : u_T} {N : Nat} {fs : List Value} (he : shp G B σ i = .inr (ci, fs)) (hi : i < NC) (hc : vwCl[ci]? = some (y.cls, T, N)) (w1 : Cond.methodLink own index y ∈ TG) (w2 : Cond.instanceMethod y ∈ TG) (w5 : Cond.selects y.cls y y ∈ TG) (w3 : Cond.initialized y.cls ∈ TG) (w4 : Cond.code y cb maxL ret ∈ TG) (hd : y.cls ≠ "java/lang/invoke/MethodHandle" ∧ y.cls ≠ "java/lang/invoke/VarHandle" ∧ (parseMethodDescriptor y.desc).map (fun d => d.parameters.length) = some a) (hR : f + 1 ≤ R.frames ∧ 8 + (maxL + 11) + lc ≤ R.locals) (hf : k + mc ≤ R.cells ∧ n + ms ≤ R.slots) (hn : As.length = a) (hstk : st = As.reverse ++ .ref (B + i) :: rest) (hcat : (rest.map fun v => v.category).sum ≤ 8) (d : decode cc pc = .ok (.invokevirtual index, 3)) (kk : WW G B p l e R s m args below meth c (k + mc) (n + ms) Q nL (pc + 3) lv (.long r :: rest) σ2) : WW G B p l e R s m args below meth c k n Q nL pc lv st σ := fun H locs ls hP hS hl => va_calll (va_runV (nL := nL) (C := y.cls) (As := As) (rest := rest) ⟨C.1, C.2.1, C.2.2.1, C.2.2.2.1, C.2.2.2.2.1⟩ hM (cwV a C.2.2.2.2.1 (TG_goodIn (call_ws4 w1 w2 w5 w3 w4)) rfl rfl rfl ⟨rfl, hd⟩ hR) ⟨Hk.blind, va_recv C.2.2.2.2.2.1 hP hc (wl_at G B σ hi he), pre_of (As := .ref (B + i) :: As) C hP hS⟩ rfl hn hl.1 hstk (lv_room hcat) d hf) hS (fun _ _ h => h) (fun _ h => h) (fun r9 u t H1 locs1 ht hvm hw hB hz1 hk1 hS1 => by
    obtain ⟨rfl, rfl⟩ := hw
    rw [Hp, ht] at hB
    exact kk H1 locs1 ls hB hS1 hl)
theorem j_callV_d (C : Cx G B dy own cc nL p s m args c) {y : MethodName} {cb : ByteArray} {maxL f lc mc ms a index : Nat} {ret : Option FieldType} {As rest : List Value} {i : Nat} {σ2 : St} {r : UInt64} (hM : Ct l G B dy y cb maxL ret f lc mc ms (.ref (B + i) :: As) σ (PostD G B r σ2)) {ci : Nat} {T : u_T} {N : Nat} {fs : List Value} (he : shp G B σ i = .inr (ci, fs)) (hi : i < NC) (hc : vwCl[ci]? = some (y.cls, T, N)) (w1 : Cond.methodLink own index y ∈ TG) (w2 : Cond.instanceMethod y ∈ TG) (w5 : Cond.selects y.cls y y ∈ TG) (w3 : Cond.initialized y.cls ∈ TG) (w4 : Cond.code y cb maxL ret ∈ TG) (hd : y.cls ≠ "java/lang/invoke/MethodHandle" ∧ y.cls ≠ "java/lang/invoke/VarHandle" ∧ (parseMethodDescriptor y.desc).map (fun d => d.parameters.length) = some a) (hR : f + 1 ≤ R.frames ∧ 8 + (maxL + 11) + lc ≤ R.locals) (hf : k + mc ≤ R.cells ∧ n + ms ≤ R.slots) (hn : As.length = a) (hstk : st = As.reverse ++ .ref (B + i) :: rest) (hcat : (rest.map fun v => v.category).sum ≤ 8) (d : decode cc pc = .ok (.invokevirtual index, 3)) (kk : WW G B p l e R s m args below meth c (k + mc) (n + ms) Q nL (pc + 3) lv (.double r :: rest) σ2) : WW G B p l e R s m args below meth c k n Q nL pc lv st σ := fun H locs ls hP hS hl => va_calld (va_runV (nL := nL) (C := y.cls) (As := As) (rest := rest) ⟨C.1, C.2.1, C.2.2.1, C.2.2.2.1, C.2.2.2.2.1⟩ hM (cwV a C.2.2.2.2.1 (TG_goodIn (call_ws4 w1 w2 w5 w3 w4)) rfl rfl rfl ⟨rfl, hd⟩ hR) ⟨Hk.blind, va_recv C.2.2.2.2.2.1 hP hc (wl_at G B σ hi he), pre_of (As := .ref (B + i) :: As) C hP hS⟩ rfl hn hl.1 hstk (lv_room hcat) d hf) hS (fun _ _ h => h) (fun _ h => h) (fun r9 u t H1 locs1 ht hvm hw hB hz1 hk1 hS1 => by
    obtain ⟨rfl, rfl⟩ := hw
    rw [Hp, ht] at hB
    exact kk H1 locs1 ls hB hS1 hl)
theorem j_callV_v (C : Cx G B dy own cc nL p s m args c) {y : MethodName} {cb : ByteArray} {maxL f lc mc ms a index : Nat} {ret : Option FieldType} {As rest : List Value} {i : Nat} {σ2 : St} (hM : Ct l G B dy y cb maxL ret f lc mc ms (.ref (B + i) :: As) σ (PostV G B σ2)) {ci : Nat} {T : u_T} {N : Nat} {fs : List Value} (he : shp G B σ i = .inr (ci, fs)) (hi : i < NC) (hc : vwCl[ci]? = some (y.cls, T, N)) (w1 : Cond.methodLink own index y ∈ TG) (w2 : Cond.instanceMethod y ∈ TG) (w5 : Cond.selects y.cls y y ∈ TG) (w3 : Cond.initialized y.cls ∈ TG) (w4 : Cond.code y cb maxL ret ∈ TG) (hd : y.cls ≠ "java/lang/invoke/MethodHandle" ∧ y.cls ≠ "java/lang/invoke/VarHandle" ∧ (parseMethodDescriptor y.desc).map (fun d => d.parameters.length) = some a) (hR : f + 1 ≤ R.frames ∧ 8 + (maxL + 11) + lc ≤ R.locals) (hf : k + mc ≤ R.cells ∧ n + ms ≤ R.slots) (hn : As.length = a) (hstk : st = As.reverse ++ .ref (B + i) :: rest) (hcat : (rest.map fun v => v.category).sum ≤ 8) (d : decode cc pc = .ok (.invokevirtual index, 3)) (kk : WW G B p l e R s m args below meth c (k + mc) (n + ms) Q nL (pc + 3) lv (rest) σ2) : WW G B p l e R s m args below meth c k n Q nL pc lv st σ := fun H locs ls hP hS hl => va_callv (va_runV (nL := nL) (C := y.cls) (As := As) (rest := rest) ⟨C.1, C.2.1, C.2.2.1, C.2.2.2.1, C.2.2.2.2.1⟩ hM (cwV a C.2.2.2.2.1 (TG_goodIn (call_ws4 w1 w2 w5 w3 w4)) rfl rfl rfl ⟨rfl, hd⟩ hR) ⟨Hk.blind, va_recv C.2.2.2.2.2.1 hP hc (wl_at G B σ hi he), pre_of (As := .ref (B + i) :: As) C hP hS⟩ rfl hn hl.1 hstk (lv_room hcat) d hf) hS (fun _ _ h => h) (fun _ h => h) (fun u t H1 locs1 ht hvm hw hB hz1 hk1 hS1 => by
    obtain rfl := hw
    rw [Hp, ht] at hB
    exact kk H1 locs1 ls hB hS1 hl)
theorem j_callV_q (C : Cx G B dy own cc nL p s m args c) {y : MethodName} {cb : ByteArray} {maxL f lc mc ms a index : Nat} {ret : Option FieldType} {As rest : List Value} {i : Nat} {σ2 : St} {r : Option Nat} (hM : Ct l G B dy y cb maxL ret f lc mc ms (.ref (B + i) :: As) σ (PostQ G B r σ2)) {ci : Nat} {T : u_T} {N : Nat} {fs : List Value} (he : shp G B σ i = .inr (ci, fs)) (hi : i < NC) (hc : vwCl[ci]? = some (y.cls, T, N)) (w1 : Cond.methodLink own index y ∈ TG) (w2 : Cond.instanceMethod y ∈ TG) (w5 : Cond.selects y.cls y y ∈ TG) (w3 : Cond.initialized y.cls ∈ TG) (w4 : Cond.code y cb maxL ret ∈ TG) (hd : y.cls ≠ "java/lang/invoke/MethodHandle" ∧ y.cls ≠ "java/lang/invoke/VarHandle" ∧ (parseMethodDescriptor y.desc).map (fun d => d.parameters.length) = some a) (hR : f + 1 ≤ R.frames ∧ 8 + (maxL + 11) + lc ≤ R.locals) (hf : k + mc ≤ R.cells ∧ n + ms ≤ R.slots) (hn : As.length = a) (hstk : st = As.reverse ++ .ref (B + i) :: rest) (hcat : (rest.map fun v => v.category).sum ≤ 8) (d : decode cc pc = .ok (.invokevirtual index, 3)) (kk : WW G B p l e R s m args below meth c (k + mc) (n + ms) Q nL (pc + 3) lv (va_rf (r.map (fun i => B + i)) :: rest) σ2) : WW G B p l e R s m args below meth c k n Q nL pc lv st σ := fun H locs ls hP hS hl => va_callq (va_runV (nL := nL) (C := y.cls) (As := As) (rest := rest) ⟨C.1, C.2.1, C.2.2.1, C.2.2.2.1, C.2.2.2.2.1⟩ hM (cwV a C.2.2.2.2.1 (TG_goodIn (call_ws4 w1 w2 w5 w3 w4)) rfl rfl rfl ⟨rfl, hd⟩ hR) ⟨Hk.blind, va_recv C.2.2.2.2.2.1 hP hc (wl_at G B σ hi he), pre_of (As := .ref (B + i) :: As) C hP hS⟩ rfl hn hl.1 hstk (lv_room hcat) d hf) hS (fun _ _ h => h) (fun _ h => h) (fun r9 u t H1 locs1 ht hvm hw hB hz1 hk1 hS1 => by
    obtain ⟨rfl, rfl⟩ := hw
    rw [Hp, ht] at hB
    exact kk H1 locs1 ls hB hS1 hl)
end JC
/-! the pieces of a method's own function -/
def lt {α β : Type} (a : α) (k : α → β) : β := k a
theorem lt_at {α β : Type} {a x : α} {k : α → β} {r : β} (h : lt a k = r) (ex : x = a) : k x = r := by subst ex; exact h
def gd {β : Type} (b : Bool) (k : Option β) : Option β := if b = true then k else none
theorem gd_some {β : Type} {b : Bool} {k : Option β} {r : β} (h : gd b k = some r) : b = true ∧ k = some r := by
  cases b with
  | true => exact ⟨rfl, h⟩
  | false => exact absurd h (by intro q; cases q)
def bd {α β : Type} (x : Option (α × St)) (k : α → St → Option β) : Option β := match x with
  | none => none
  | some q => k q.1 q.2
theorem bd_some {α β : Type} {x : Option (α × St)} {k : α → St → Option β} {r : β} (h : bd x k = some r) : ∃ (a : α) (σ : St), x = some (a, σ) ∧ k a σ = some r := by
  cases x with
  | none => cases h
  | some q => exact ⟨q.1, q.2, rfl, h⟩
def bv {β : Type} (x : Option St) (k : St → Option β) : Option β := match x with
  | none => none
  | some q => k q
theorem bv_some {β : Type} {x : Option St} {k : St → Option β} {r : β} (h : bv x k = some r) : ∃ σ : St, x = some σ ∧ k σ = some r := by
  cases x with
  | none => cases h
  | some q => exact ⟨q, rfl, h⟩
def is01 (x : Int32) : Bool := decide (x = 0 ∨ x = 1)
theorem is01_or {x : Int32} (h : is01 x = true) : x = 0 ∨ x = 1 := of_decide_eq_true h
def isN (x k : Nat) : Bool := decide (x = k)
theorem isN_eq {x k : Nat} (h : isN x k = true) : x = k := of_decide_eq_true h
def nz (x : Int32) : Bool := decide (¬ x = 0)
theorem nz_ne {x : Int32} (h : nz x = true) : ¬ x = 0 := of_decide_eq_true h
theorem ite_t {α : Type} {c : Prop} [Decidable c] {a b : Option α} {r : α} (h : (if c then a else b) = some r) (hc : c) : a = some r := by rwa [if_pos hc] at h
theorem ite_f {α : Type} {c : Prop} [Decidable c] {a b : Option α} {r : α} (h : (if c then a else b) = some r) (hc : ¬ c) : b = some r := by rwa [if_neg hc] at h
end
section
/-! words of the tables; kinds -/
theorem ti_0 : Cond.initialized RX0 ∈ TG := TG_in (List.mem_append_right _ (List.mem_of_getElem? (i := 7) (by decide +kernel))) (by decide +kernel)
theorem ti_1 : Cond.initialized RX1 ∈ TG := TG_in (List.mem_append_right _ (List.mem_of_getElem? (i := 4) (by decide +kernel))) (by decide +kernel)
theorem ti_2 : Cond.initialized RX2 ∈ TG := TG_in (List.mem_append_right _ (List.mem_of_getElem? (i := 5) (by decide +kernel))) (by decide +kernel)
theorem ti_3 : Cond.initialized RX3 ∈ TG := TG_in (List.mem_append_right _ (List.mem_of_getElem? (i := 6) (by decide +kernel))) (by decide +kernel)
theorem ti_4 : Cond.initialized RX4 ∈ TG := TG_in (List.mem_append_right _ (List.mem_of_getElem? (i := 3) (by decide +kernel))) (by decide +kernel)
theorem ti_5 : Cond.initialized RX5 ∈ TG := TG_in (List.mem_append_right _ (List.mem_of_getElem? (i := 2) (by decide +kernel))) (by decide +kernel)
theorem ti_6 : Cond.initialized RX6 ∈ TG := TG_in (List.mem_append_right _ (List.mem_of_getElem? (i := 1) (by decide +kernel))) (by decide +kernel)
theorem ti_7 : Cond.initialized RX7 ∈ TG := TG_in (List.mem_append_right _ (List.mem_of_getElem? (i := 8) (by decide +kernel))) (by decide +kernel)
theorem tp_0 : Cond.selects yX6_signsReadWell.cls yX6_signsReadWell yX6_signsReadWell ∈ TG := TG_in (List.mem_append_left _ (List.mem_of_getElem? (i := 0) (by decide +kernel))) (by decide +kernel)
theorem tp_1 : Cond.selects yX2_readsRule.cls yX2_readsRule yX2_readsRule ∈ TG := TG_in (List.mem_append_left _ (List.mem_of_getElem? (i := 1) (by decide +kernel))) (by decide +kernel)
theorem tp_10 : Cond.selects yX2_readsRank.cls yX2_readsRank yX2_readsRank ∈ TG := TG_in (List.mem_append_left _ (List.mem_of_getElem? (i := 10) (by decide +kernel))) (by decide +kernel)
theorem tp_11 : Cond.selects yX6_freshPart.cls yX6_freshPart yX6_freshPart ∈ TG := TG_in (List.mem_append_left _ (List.mem_of_getElem? (i := 11) (by decide +kernel))) (by decide +kernel)
theorem tp_12 : Cond.selects yX6_staleFeasts.cls yX6_staleFeasts yX6_staleFeasts ∈ TG := TG_in (List.mem_append_left _ (List.mem_of_getElem? (i := 12) (by decide +kernel))) (by decide +kernel)
theorem tp_13 : Cond.selects yX3_dayByRule.cls yX3_dayByRule yX3_dayByRule ∈ TG := TG_in (List.mem_append_left _ (List.mem_of_getElem? (i := 13) (by decide +kernel))) (by decide +kernel)
theorem tp_14 : Cond.selects yX3_weekdayFrom.cls yX3_weekdayFrom yX3_weekdayFrom ∈ TG := TG_in (List.mem_append_left _ (List.mem_of_getElem? (i := 14) (by decide +kernel))) (by decide +kernel)
theorem tp_15 : Cond.selects yX3_weekdayPastMoon.cls yX3_weekdayPastMoon yX3_weekdayPastMoon ∈ TG := TG_in (List.mem_append_left _ (List.mem_of_getElem? (i := 15) (by decide +kernel))) (by decide +kernel)
theorem tp_16 : Cond.selects yX3_orNone.cls yX3_orNone yX3_orNone ∈ TG := TG_in (List.mem_append_left _ (List.mem_of_getElem? (i := 16) (by decide +kernel))) (by decide +kernel)
theorem tp_17 : Cond.selects yX3_cutNotches.cls yX3_cutNotches yX3_cutNotches ∈ TG := TG_in (List.mem_append_left _ (List.mem_of_getElem? (i := 17) (by decide +kernel))) (by decide +kernel)
theorem tp_18 : Cond.selects yX3_hasNotch.cls yX3_hasNotch yX3_hasNotch ∈ TG := TG_in (List.mem_append_left _ (List.mem_of_getElem? (i := 18) (by decide +kernel))) (by decide +kernel)
theorem tp_19 : Cond.selects yX6_numberOf.cls yX6_numberOf yX6_numberOf ∈ TG := TG_in (List.mem_append_left _ (List.mem_of_getElem? (i := 19) (by decide +kernel))) (by decide +kernel)
theorem tp_2 : Cond.selects yX2_readsOther.cls yX2_readsOther yX2_readsOther ∈ TG := TG_in (List.mem_append_left _ (List.mem_of_getElem? (i := 2) (by decide +kernel))) (by decide +kernel)
theorem tp_20 : Cond.selects yX6_gatherDigestCouncils.cls yX6_gatherDigestCouncils yX6_gatherDigestCouncils ∈ TG := TG_in (List.mem_append_left _ (List.mem_of_getElem? (i := 20) (by decide +kernel))) (by decide +kernel)
theorem tp_21 : Cond.selects yX6_mixedFeasts.cls yX6_mixedFeasts yX6_mixedFeasts ∈ TG := TG_in (List.mem_append_left _ (List.mem_of_getElem? (i := 21) (by decide +kernel))) (by decide +kernel)
theorem tp_22 : Cond.selects yX6_feastProperty.cls yX6_feastProperty yX6_feastProperty ∈ TG := TG_in (List.mem_append_left _ (List.mem_of_getElem? (i := 22) (by decide +kernel))) (by decide +kernel)
theorem tp_23 : Cond.selects yX6_mixedQuarrels.cls yX6_mixedQuarrels yX6_mixedQuarrels ∈ TG := TG_in (List.mem_append_left _ (List.mem_of_getElem? (i := 23) (by decide +kernel))) (by decide +kernel)
theorem tp_24 : Cond.selects yX6_stickProperty.cls yX6_stickProperty yX6_stickProperty ∈ TG := TG_in (List.mem_append_left _ (List.mem_of_getElem? (i := 24) (by decide +kernel))) (by decide +kernel)
theorem tp_25 : Cond.selects yX6_nextAlike.cls yX6_nextAlike yX6_nextAlike ∈ TG := TG_in (List.mem_append_left _ (List.mem_of_getElem? (i := 25) (by decide +kernel))) (by decide +kernel)
theorem tp_26 : Cond.selects yX6_calmestSlip.cls yX6_calmestSlip yX6_calmestSlip ∈ TG := TG_in (List.mem_append_left _ (List.mem_of_getElem? (i := 26) (by decide +kernel))) (by decide +kernel)
theorem tp_27 : Cond.selects yX6_outermost.cls yX6_outermost yX6_outermost ∈ TG := TG_in (List.mem_append_left _ (List.mem_of_getElem? (i := 27) (by decide +kernel))) (by decide +kernel)
theorem tp_3 : Cond.selects yX2_readsSign.cls yX2_readsSign yX2_readsSign ∈ TG := TG_in (List.mem_append_left _ (List.mem_of_getElem? (i := 3) (by decide +kernel))) (by decide +kernel)
theorem tp_30 : Cond.selects yX1_stateAt.cls yX1_stateAt yX1_stateAt ∈ TG := TG_in (List.mem_append_left _ (List.mem_of_getElem? (i := 30) (by decide +kernel))) (by decide +kernel)
theorem tp_32 : Cond.selects yX6_addReadFeast.cls yX6_addReadFeast yX6_addReadFeast ∈ TG := TG_in (List.mem_append_left _ (List.mem_of_getElem? (i := 32) (by decide +kernel))) (by decide +kernel)
theorem tp_34 : Cond.selects yX5_copyStick.cls yX5_copyStick yX5_copyStick ∈ TG := TG_in (List.mem_append_left _ (List.mem_of_getElem? (i := 34) (by decide +kernel))) (by decide +kernel)
theorem tp_37 : Cond.selects yX7_holds.cls yX7_holds yX7_holds ∈ TG := TG_in (List.mem_append_left _ (List.mem_of_getElem? (i := 37) (by decide +kernel))) (by decide +kernel)
theorem tp_38 : Cond.selects yX7_go.cls yX7_go yX7_go ∈ TG := TG_in (List.mem_append_left _ (List.mem_of_getElem? (i := 38) (by decide +kernel))) (by decide +kernel)
theorem tp_39 : Cond.selects yX7_read.cls yX7_read yX7_read ∈ TG := TG_in (List.mem_append_left _ (List.mem_of_getElem? (i := 39) (by decide +kernel))) (by decide +kernel)
theorem tp_4 : Cond.selects yX2_readsFirstDigit.cls yX2_readsFirstDigit yX2_readsFirstDigit ∈ TG := TG_in (List.mem_append_left _ (List.mem_of_getElem? (i := 4) (by decide +kernel))) (by decide +kernel)
theorem tp_40 : Cond.selects yX7_sign.cls yX7_sign yX7_sign ∈ TG := TG_in (List.mem_append_left _ (List.mem_of_getElem? (i := 40) (by decide +kernel))) (by decide +kernel)
theorem tp_41 : Cond.selects yX7_isNext.cls yX7_isNext yX7_isNext ∈ TG := TG_in (List.mem_append_left _ (List.mem_of_getElem? (i := 41) (by decide +kernel))) (by decide +kernel)
theorem tp_42 : Cond.selects yX7_number.cls yX7_number yX7_number ∈ TG := TG_in (List.mem_append_left _ (List.mem_of_getElem? (i := 42) (by decide +kernel))) (by decide +kernel)
theorem tp_43 : Cond.selects yX7_adds.cls yX7_adds yX7_adds ∈ TG := TG_in (List.mem_append_left _ (List.mem_of_getElem? (i := 43) (by decide +kernel))) (by decide +kernel)
theorem tp_44 : Cond.selects yX7_save.cls yX7_save yX7_save ∈ TG := TG_in (List.mem_append_left _ (List.mem_of_getElem? (i := 44) (by decide +kernel))) (by decide +kernel)
theorem tp_45 : Cond.selects yX7_isFeast.cls yX7_isFeast yX7_isFeast ∈ TG := TG_in (List.mem_append_left _ (List.mem_of_getElem? (i := 45) (by decide +kernel))) (by decide +kernel)
theorem tp_46 : Cond.selects yX7_puts.cls yX7_puts yX7_puts ∈ TG := TG_in (List.mem_append_left _ (List.mem_of_getElem? (i := 46) (by decide +kernel))) (by decide +kernel)
theorem tp_47 : Cond.selects yX7_lay.cls yX7_lay yX7_lay ∈ TG := TG_in (List.mem_append_left _ (List.mem_of_getElem? (i := 47) (by decide +kernel))) (by decide +kernel)
theorem tp_48 : Cond.selects yX7_findProper.cls yX7_findProper yX7_findProper ∈ TG := TG_in (List.mem_append_left _ (List.mem_of_getElem? (i := 48) (by decide +kernel))) (by decide +kernel)
theorem tp_49 : Cond.selects yX7_firstFull.cls yX7_firstFull yX7_firstFull ∈ TG := TG_in (List.mem_append_left _ (List.mem_of_getElem? (i := 49) (by decide +kernel))) (by decide +kernel)
theorem tp_5 : Cond.selects yX2_readsNextDigit.cls yX2_readsNextDigit yX2_readsNextDigit ∈ TG := TG_in (List.mem_append_left _ (List.mem_of_getElem? (i := 5) (by decide +kernel))) (by decide +kernel)
theorem tp_50 : Cond.selects yX7_age.cls yX7_age yX7_age ∈ TG := TG_in (List.mem_append_left _ (List.mem_of_getElem? (i := 50) (by decide +kernel))) (by decide +kernel)
theorem tp_51 : Cond.selects yX7_isStick.cls yX7_isStick yX7_isStick ∈ TG := TG_in (List.mem_append_left _ (List.mem_of_getElem? (i := 51) (by decide +kernel))) (by decide +kernel)
theorem tp_52 : Cond.selects yX7_aboutDay.cls yX7_aboutDay yX7_aboutDay ∈ TG := TG_in (List.mem_append_left _ (List.mem_of_getElem? (i := 52) (by decide +kernel))) (by decide +kernel)
theorem tp_53 : Cond.selects yX7_feastOn.cls yX7_feastOn yX7_feastOn ∈ TG := TG_in (List.mem_append_left _ (List.mem_of_getElem? (i := 53) (by decide +kernel))) (by decide +kernel)
theorem tp_54 : Cond.selects yX7_layAll.cls yX7_layAll yX7_layAll ∈ TG := TG_in (List.mem_append_left _ (List.mem_of_getElem? (i := 54) (by decide +kernel))) (by decide +kernel)
theorem tp_55 : Cond.selects yX7_settledBy.cls yX7_settledBy yX7_settledBy ∈ TG := TG_in (List.mem_append_left _ (List.mem_of_getElem? (i := 55) (by decide +kernel))) (by decide +kernel)
theorem tp_56 : Cond.selects yX7_ofFeast.cls yX7_ofFeast yX7_ofFeast ∈ TG := TG_in (List.mem_append_left _ (List.mem_of_getElem? (i := 56) (by decide +kernel))) (by decide +kernel)
theorem tp_57 : Cond.selects yX7_dayOf.cls yX7_dayOf yX7_dayOf ∈ TG := TG_in (List.mem_append_left _ (List.mem_of_getElem? (i := 57) (by decide +kernel))) (by decide +kernel)
theorem tp_58 : Cond.selects yX7_settledOf.cls yX7_settledOf yX7_settledOf ∈ TG := TG_in (List.mem_append_left _ (List.mem_of_getElem? (i := 58) (by decide +kernel))) (by decide +kernel)
theorem tp_59 : Cond.selects yX7_quarrelsOf.cls yX7_quarrelsOf yX7_quarrelsOf ∈ TG := TG_in (List.mem_append_left _ (List.mem_of_getElem? (i := 59) (by decide +kernel))) (by decide +kernel)
theorem tp_6 : Cond.selects yX2_hasWeekday.cls yX2_hasWeekday yX2_hasWeekday ∈ TG := TG_in (List.mem_append_left _ (List.mem_of_getElem? (i := 6) (by decide +kernel))) (by decide +kernel)
theorem tp_60 : Cond.selects yX7_quarrelsNow.cls yX7_quarrelsNow yX7_quarrelsNow ∈ TG := TG_in (List.mem_append_left _ (List.mem_of_getElem? (i := 60) (by decide +kernel))) (by decide +kernel)
theorem tp_61 : Cond.selects yX7_aboutStick.cls yX7_aboutStick yX7_aboutStick ∈ TG := TG_in (List.mem_append_left _ (List.mem_of_getElem? (i := 61) (by decide +kernel))) (by decide +kernel)
theorem tp_62 : Cond.selects yX7_staleOf.cls yX7_staleOf yX7_staleOf ∈ TG := TG_in (List.mem_append_left _ (List.mem_of_getElem? (i := 62) (by decide +kernel))) (by decide +kernel)
theorem tp_63 : Cond.selects yX7_counted.cls yX7_counted yX7_counted ∈ TG := TG_in (List.mem_append_left _ (List.mem_of_getElem? (i := 63) (by decide +kernel))) (by decide +kernel)
theorem tp_64 : Cond.selects yX7_allStale.cls yX7_allStale yX7_allStale ∈ TG := TG_in (List.mem_append_left _ (List.mem_of_getElem? (i := 64) (by decide +kernel))) (by decide +kernel)
theorem tp_65 : Cond.selects yX7_outermost.cls yX7_outermost yX7_outermost ∈ TG := TG_in (List.mem_append_left _ (List.mem_of_getElem? (i := 65) (by decide +kernel))) (by decide +kernel)
theorem tp_66 : Cond.selects yX7_nextAlike.cls yX7_nextAlike yX7_nextAlike ∈ TG := TG_in (List.mem_append_left _ (List.mem_of_getElem? (i := 66) (by decide +kernel))) (by decide +kernel)
theorem tp_67 : Cond.selects yX7_bestSlip.cls yX7_bestSlip yX7_bestSlip ∈ TG := TG_in (List.mem_append_left _ (List.mem_of_getElem? (i := 67) (by decide +kernel))) (by decide +kernel)
theorem tp_68 : Cond.selects yX7_movedBy.cls yX7_movedBy yX7_movedBy ∈ TG := TG_in (List.mem_append_left _ (List.mem_of_getElem? (i := 68) (by decide +kernel))) (by decide +kernel)
theorem tp_69 : Cond.selects yX7_fresh.cls yX7_fresh yX7_fresh ∈ TG := TG_in (List.mem_append_left _ (List.mem_of_getElem? (i := 69) (by decide +kernel))) (by decide +kernel)
theorem tp_7 : Cond.selects yX2_readsComma.cls yX2_readsComma yX2_readsComma ∈ TG := TG_in (List.mem_append_left _ (List.mem_of_getElem? (i := 7) (by decide +kernel))) (by decide +kernel)
theorem tp_70 : Cond.selects yX7_digestOne.cls yX7_digestOne yX7_digestOne ∈ TG := TG_in (List.mem_append_left _ (List.mem_of_getElem? (i := 70) (by decide +kernel))) (by decide +kernel)
theorem tp_71 : Cond.selects yX7_digestFeast.cls yX7_digestFeast yX7_digestFeast ∈ TG := TG_in (List.mem_append_left _ (List.mem_of_getElem? (i := 71) (by decide +kernel))) (by decide +kernel)
theorem tp_8 : Cond.selects yX2_readsBehindRule.cls yX2_readsBehindRule yX2_readsBehindRule ∈ TG := TG_in (List.mem_append_left _ (List.mem_of_getElem? (i := 8) (by decide +kernel))) (by decide +kernel)
theorem tp_9 : Cond.selects yX2_readsSeparator.cls yX2_readsSeparator yX2_readsSeparator ∈ TG := TG_in (List.mem_append_left _ (List.mem_of_getElem? (i := 9) (by decide +kernel))) (by decide +kernel)
theorem tw_1000 : Cond.methodLink RX7 148 yX7_dayOf ∈ TG := TG_in (List.mem_append_right _ (List.mem_of_getElem? (i := 1000) (by decide +kernel))) (by decide +kernel)
theorem tw_1002 : Cond.instanceMethod yX7_dayOf ∈ TG := TG_in (List.mem_append_right _ (List.mem_of_getElem? (i := 1002) (by decide +kernel))) (by decide +kernel)
theorem tw_1003 : Cond.code yX7_dayOf cX7_dayOf 5 (some .int) ∈ TG := TG_in (List.mem_append_right _ (List.mem_of_getElem? (i := 1003) (by decide +kernel))) (by decide +kernel)
theorem tw_1008 : Cond.methodLink RX7 152 yX7_settledOf ∈ TG := TG_in (List.mem_append_right _ (List.mem_of_getElem? (i := 1008) (by decide +kernel))) (by decide +kernel)
theorem tw_1010 : Cond.instanceMethod yX7_settledOf ∈ TG := TG_in (List.mem_append_right _ (List.mem_of_getElem? (i := 1010) (by decide +kernel))) (by decide +kernel)
theorem tw_1011 : Cond.code yX7_settledOf cX7_settledOf 3 (some .int) ∈ TG := TG_in (List.mem_append_right _ (List.mem_of_getElem? (i := 1011) (by decide +kernel))) (by decide +kernel)
theorem tw_1016 : Cond.methodLink RX7 159 yX7_quarrelsOf ∈ TG := TG_in (List.mem_append_right _ (List.mem_of_getElem? (i := 1016) (by decide +kernel))) (by decide +kernel)
theorem tw_1018 : Cond.instanceMethod yX7_quarrelsOf ∈ TG := TG_in (List.mem_append_right _ (List.mem_of_getElem? (i := 1018) (by decide +kernel))) (by decide +kernel)
theorem tw_1019 : Cond.code yX7_quarrelsOf cX7_quarrelsOf 2 (some .int) ∈ TG := TG_in (List.mem_append_right _ (List.mem_of_getElem? (i := 1019) (by decide +kernel))) (by decide +kernel)
theorem tw_1020 : Cond.methodLink RX7 155 yX7_quarrelsNow ∈ TG := TG_in (List.mem_append_right _ (List.mem_of_getElem? (i := 1020) (by decide +kernel))) (by decide +kernel)
theorem tw_1022 : Cond.instanceMethod yX7_quarrelsNow ∈ TG := TG_in (List.mem_append_right _ (List.mem_of_getElem? (i := 1022) (by decide +kernel))) (by decide +kernel)
theorem tw_1023 : Cond.code yX7_quarrelsNow cX7_quarrelsNow 3 (some .int) ∈ TG := TG_in (List.mem_append_right _ (List.mem_of_getElem? (i := 1023) (by decide +kernel))) (by decide +kernel)
theorem tw_1028 : Cond.methodLink RX7 165 yX7_aboutStick ∈ TG := TG_in (List.mem_append_right _ (List.mem_of_getElem? (i := 1028) (by decide +kernel))) (by decide +kernel)
theorem tw_1030 : Cond.instanceMethod yX7_aboutStick ∈ TG := TG_in (List.mem_append_right _ (List.mem_of_getElem? (i := 1030) (by decide +kernel))) (by decide +kernel)
theorem tw_1031 : Cond.code yX7_aboutStick cX7_aboutStick 5 (some .int) ∈ TG := TG_in (List.mem_append_right _ (List.mem_of_getElem? (i := 1031) (by decide +kernel))) (by decide +kernel)
theorem tw_1032 : Cond.methodLink RX7 162 yX7_staleOf ∈ TG := TG_in (List.mem_append_right _ (List.mem_of_getElem? (i := 1032) (by decide +kernel))) (by decide +kernel)
theorem tw_1034 : Cond.instanceMethod yX7_staleOf ∈ TG := TG_in (List.mem_append_right _ (List.mem_of_getElem? (i := 1034) (by decide +kernel))) (by decide +kernel)
theorem tw_1035 : Cond.code yX7_staleOf cX7_staleOf 4 (some .int) ∈ TG := TG_in (List.mem_append_right _ (List.mem_of_getElem? (i := 1035) (by decide +kernel))) (by decide +kernel)
theorem tw_104 : Cond.fieldLink RX1 11 RX1 "ring" "[LRunicSticks$State;" ∈ TG := TG_in (List.mem_append_right _ (List.mem_of_getElem? (i := 104) (by decide +kernel))) (by decide +kernel)
theorem tw_1040 : Cond.methodLink RX7 171 yX7_counted ∈ TG := TG_in (List.mem_append_right _ (List.mem_of_getElem? (i := 1040) (by decide +kernel))) (by decide +kernel)
theorem tw_1042 : Cond.instanceMethod yX7_counted ∈ TG := TG_in (List.mem_append_right _ (List.mem_of_getElem? (i := 1042) (by decide +kernel))) (by decide +kernel)
theorem tw_1043 : Cond.code yX7_counted cX7_counted 2 (some .int) ∈ TG := TG_in (List.mem_append_right _ (List.mem_of_getElem? (i := 1043) (by decide +kernel))) (by decide +kernel)
theorem tw_1044 : Cond.methodLink RX7 168 yX7_allStale ∈ TG := TG_in (List.mem_append_right _ (List.mem_of_getElem? (i := 1044) (by decide +kernel))) (by decide +kernel)
theorem tw_1046 : Cond.instanceMethod yX7_allStale ∈ TG := TG_in (List.mem_append_right _ (List.mem_of_getElem? (i := 1046) (by decide +kernel))) (by decide +kernel)
theorem tw_1047 : Cond.code yX7_allStale cX7_allStale 3 (some .int) ∈ TG := TG_in (List.mem_append_right _ (List.mem_of_getElem? (i := 1047) (by decide +kernel))) (by decide +kernel)
theorem tw_105 : Cond.fieldLink RX1 17 RX1 "oldest" "I" ∈ TG := TG_in (List.mem_append_right _ (List.mem_of_getElem? (i := 105) (by decide +kernel))) (by decide +kernel)
theorem tw_1052 : Cond.methodLink RX7 174 yX7_outermost ∈ TG := TG_in (List.mem_append_right _ (List.mem_of_getElem? (i := 1052) (by decide +kernel))) (by decide +kernel)
theorem tw_1054 : Cond.instanceMethod yX7_outermost ∈ TG := TG_in (List.mem_append_right _ (List.mem_of_getElem? (i := 1054) (by decide +kernel))) (by decide +kernel)
theorem tw_1055 : Cond.code yX7_outermost cX7_outermost 9 (some .int) ∈ TG := TG_in (List.mem_append_right _ (List.mem_of_getElem? (i := 1055) (by decide +kernel))) (by decide +kernel)
theorem tw_106 : Cond.fieldLink RX1 21 RX1 "saved" "I" ∈ TG := TG_in (List.mem_append_right _ (List.mem_of_getElem? (i := 106) (by decide +kernel))) (by decide +kernel)
theorem tw_1060 : Cond.methodLink RX7 177 yX7_nextAlike ∈ TG := TG_in (List.mem_append_right _ (List.mem_of_getElem? (i := 1060) (by decide +kernel))) (by decide +kernel)
theorem tw_1062 : Cond.instanceMethod yX7_nextAlike ∈ TG := TG_in (List.mem_append_right _ (List.mem_of_getElem? (i := 1062) (by decide +kernel))) (by decide +kernel)
theorem tw_1063 : Cond.code yX7_nextAlike cX7_nextAlike 5 (some .int) ∈ TG := TG_in (List.mem_append_right _ (List.mem_of_getElem? (i := 1063) (by decide +kernel))) (by decide +kernel)
theorem tw_1068 : Cond.methodLink RX7 183 yX7_bestSlip ∈ TG := TG_in (List.mem_append_right _ (List.mem_of_getElem? (i := 1068) (by decide +kernel))) (by decide +kernel)
theorem tw_1070 : Cond.instanceMethod yX7_bestSlip ∈ TG := TG_in (List.mem_append_right _ (List.mem_of_getElem? (i := 1070) (by decide +kernel))) (by decide +kernel)
theorem tw_1071 : Cond.code yX7_bestSlip cX7_bestSlip 9 (some .int) ∈ TG := TG_in (List.mem_append_right _ (List.mem_of_getElem? (i := 1071) (by decide +kernel))) (by decide +kernel)
theorem tw_1072 : Cond.methodLink RX7 180 yX7_size ∈ TG := TG_in (List.mem_append_right _ (List.mem_of_getElem? (i := 1072) (by decide +kernel))) (by decide +kernel)
theorem tw_1073 : Cond.static yX7_size ∈ TG := TG_in (List.mem_append_right _ (List.mem_of_getElem? (i := 1073) (by decide +kernel))) (by decide +kernel)
theorem tw_1074 : Cond.code yX7_size cX7_size 1 (some .int) ∈ TG := TG_in (List.mem_append_right _ (List.mem_of_getElem? (i := 1074) (by decide +kernel))) (by decide +kernel)
theorem tw_1079 : Cond.methodLink RX7 186 yX7_movedBy ∈ TG := TG_in (List.mem_append_right _ (List.mem_of_getElem? (i := 1079) (by decide +kernel))) (by decide +kernel)
theorem tw_1081 : Cond.instanceMethod yX7_movedBy ∈ TG := TG_in (List.mem_append_right _ (List.mem_of_getElem? (i := 1081) (by decide +kernel))) (by decide +kernel)
theorem tw_1082 : Cond.code yX7_movedBy cX7_movedBy 5 (some .int) ∈ TG := TG_in (List.mem_append_right _ (List.mem_of_getElem? (i := 1082) (by decide +kernel))) (by decide +kernel)
theorem tw_1087 : Cond.methodLink RX7 189 yX7_fresh ∈ TG := TG_in (List.mem_append_right _ (List.mem_of_getElem? (i := 1087) (by decide +kernel))) (by decide +kernel)
theorem tw_1089 : Cond.instanceMethod yX7_fresh ∈ TG := TG_in (List.mem_append_right _ (List.mem_of_getElem? (i := 1089) (by decide +kernel))) (by decide +kernel)
theorem tw_1090 : Cond.code yX7_fresh cX7_fresh 3 (some .double) ∈ TG := TG_in (List.mem_append_right _ (List.mem_of_getElem? (i := 1090) (by decide +kernel))) (by decide +kernel)
theorem tw_1095 : Cond.constantLong RX7 214 2953 ∈ TG := TG_in (List.mem_append_right _ (List.mem_of_getElem? (i := 1095) (by decide +kernel))) (by decide +kernel)
theorem tw_1096 : Cond.methodLink RX7 207 yX7_digestOne ∈ TG := TG_in (List.mem_append_right _ (List.mem_of_getElem? (i := 1096) (by decide +kernel))) (by decide +kernel)
theorem tw_1098 : Cond.instanceMethod yX7_digestOne ∈ TG := TG_in (List.mem_append_right _ (List.mem_of_getElem? (i := 1098) (by decide +kernel))) (by decide +kernel)
theorem tw_1099 : Cond.code yX7_digestOne cX7_digestOne 3 none ∈ TG := TG_in (List.mem_append_right _ (List.mem_of_getElem? (i := 1099) (by decide +kernel))) (by decide +kernel)
theorem tw_1100 : Cond.constantLong RX7 201 31 ∈ TG := TG_in (List.mem_append_right _ (List.mem_of_getElem? (i := 1100) (by decide +kernel))) (by decide +kernel)
theorem tw_1101 : Cond.methodLink RX7 216 yX7_digestFeast ∈ TG := TG_in (List.mem_append_right _ (List.mem_of_getElem? (i := 1101) (by decide +kernel))) (by decide +kernel)
theorem tw_1103 : Cond.instanceMethod yX7_digestFeast ∈ TG := TG_in (List.mem_append_right _ (List.mem_of_getElem? (i := 1103) (by decide +kernel))) (by decide +kernel)
theorem tw_1104 : Cond.code yX7_digestFeast cX7_digestFeast 4 none ∈ TG := TG_in (List.mem_append_right _ (List.mem_of_getElem? (i := 1104) (by decide +kernel))) (by decide +kernel)
theorem tw_1105 : Cond.methodLink RX7 211 yX7_someYear ∈ TG := TG_in (List.mem_append_right _ (List.mem_of_getElem? (i := 1105) (by decide +kernel))) (by decide +kernel)
theorem tw_1106 : Cond.static yX7_someYear ∈ TG := TG_in (List.mem_append_right _ (List.mem_of_getElem? (i := 1106) (by decide +kernel))) (by decide +kernel)
theorem tw_1107 : Cond.code yX7_someYear cX7_someYear 1 (some .int) ∈ TG := TG_in (List.mem_append_right _ (List.mem_of_getElem? (i := 1107) (by decide +kernel))) (by decide +kernel)
theorem tw_1108 : Cond.methodLink RX7 219 yX7_bitsOf ∈ TG := TG_in (List.mem_append_right _ (List.mem_of_getElem? (i := 1108) (by decide +kernel))) (by decide +kernel)
theorem tw_1109 : Cond.static yX7_bitsOf ∈ TG := TG_in (List.mem_append_right _ (List.mem_of_getElem? (i := 1109) (by decide +kernel))) (by decide +kernel)
theorem tw_1110 : Cond.code yX7_bitsOf cX7_bitsOf 6 (some .long) ∈ TG := TG_in (List.mem_append_right _ (List.mem_of_getElem? (i := 1110) (by decide +kernel))) (by decide +kernel)
theorem tw_1111 : Cond.constantLong RX7 193 1023 ∈ TG := TG_in (List.mem_append_right _ (List.mem_of_getElem? (i := 1111) (by decide +kernel))) (by decide +kernel)
theorem tw_1112 : Cond.constantDouble RX7 195 4611686018427387904 ∈ TG := TG_in (List.mem_append_right _ (List.mem_of_getElem? (i := 1112) (by decide +kernel))) (by decide +kernel)
theorem tw_1113 : Cond.constantLong RX7 197 4503599627370496 ∈ TG := TG_in (List.mem_append_right _ (List.mem_of_getElem? (i := 1113) (by decide +kernel))) (by decide +kernel)
theorem tw_1114 : Cond.constantDouble RX7 199 4841369599423283200 ∈ TG := TG_in (List.mem_append_right _ (List.mem_of_getElem? (i := 1114) (by decide +kernel))) (by decide +kernel)
theorem tw_122 : Cond.fieldLink RX2 15 RX2 "rule" "I" ∈ TG := TG_in (List.mem_append_right _ (List.mem_of_getElem? (i := 122) (by decide +kernel))) (by decide +kernel)
theorem tw_123 : Cond.fieldLink RX5 58 RX2 "rule" "I" ∈ TG := TG_in (List.mem_append_right _ (List.mem_of_getElem? (i := 123) (by decide +kernel))) (by decide +kernel)
theorem tw_124 : Cond.fieldLink RX6 268 RX2 "rule" "I" ∈ TG := TG_in (List.mem_append_right _ (List.mem_of_getElem? (i := 124) (by decide +kernel))) (by decide +kernel)
theorem tw_125 : Cond.fieldLink RX2 18 RX2 "number" "I" ∈ TG := TG_in (List.mem_append_right _ (List.mem_of_getElem? (i := 125) (by decide +kernel))) (by decide +kernel)
theorem tw_126 : Cond.fieldLink RX5 74 RX2 "number" "I" ∈ TG := TG_in (List.mem_append_right _ (List.mem_of_getElem? (i := 126) (by decide +kernel))) (by decide +kernel)
theorem tw_127 : Cond.fieldLink RX2 21 RX2 "isMinus" "Z" ∈ TG := TG_in (List.mem_append_right _ (List.mem_of_getElem? (i := 127) (by decide +kernel))) (by decide +kernel)
theorem tw_128 : Cond.fieldLink RX5 70 RX2 "isMinus" "Z" ∈ TG := TG_in (List.mem_append_right _ (List.mem_of_getElem? (i := 128) (by decide +kernel))) (by decide +kernel)
theorem tw_129 : Cond.fieldLink RX2 25 RX2 "other" "I" ∈ TG := TG_in (List.mem_append_right _ (List.mem_of_getElem? (i := 129) (by decide +kernel))) (by decide +kernel)
theorem tw_130 : Cond.fieldLink RX5 77 RX2 "other" "I" ∈ TG := TG_in (List.mem_append_right _ (List.mem_of_getElem? (i := 130) (by decide +kernel))) (by decide +kernel)
theorem tw_131 : Cond.fieldLink RX6 271 RX2 "other" "I" ∈ TG := TG_in (List.mem_append_right _ (List.mem_of_getElem? (i := 131) (by decide +kernel))) (by decide +kernel)
theorem tw_132 : Cond.fieldLink RX2 28 RX2 "rankRead" "I" ∈ TG := TG_in (List.mem_append_right _ (List.mem_of_getElem? (i := 132) (by decide +kernel))) (by decide +kernel)
theorem tw_133 : Cond.fieldLink RX5 67 RX2 "rankRead" "I" ∈ TG := TG_in (List.mem_append_right _ (List.mem_of_getElem? (i := 133) (by decide +kernel))) (by decide +kernel)
theorem tw_134 : Cond.fieldLink RX2 11 RX2 "place" "I" ∈ TG := TG_in (List.mem_append_right _ (List.mem_of_getElem? (i := 134) (by decide +kernel))) (by decide +kernel)
theorem tw_156 : Cond.fieldLink RX3 14 RX3 "propers" "LRunicSticks$Row;" ∈ TG := TG_in (List.mem_append_right _ (List.mem_of_getElem? (i := 156) (by decide +kernel))) (by decide +kernel)
theorem tw_157 : Cond.fieldLink RX6 184 RX3 "propers" "LRunicSticks$Row;" ∈ TG := TG_in (List.mem_append_right _ (List.mem_of_getElem? (i := 157) (by decide +kernel))) (by decide +kernel)
theorem tw_158 : Cond.fieldLink RX3 20 RX3 "notches" "LRunicSticks$Row;" ∈ TG := TG_in (List.mem_append_right _ (List.mem_of_getElem? (i := 158) (by decide +kernel))) (by decide +kernel)
theorem tw_159 : Cond.fieldLink RX0 44 RX3 "notches" "LRunicSticks$Row;" ∈ TG := TG_in (List.mem_append_right _ (List.mem_of_getElem? (i := 159) (by decide +kernel))) (by decide +kernel)
theorem tw_160 : Cond.fieldLink RX6 126 RX3 "notches" "LRunicSticks$Row;" ∈ TG := TG_in (List.mem_append_right _ (List.mem_of_getElem? (i := 160) (by decide +kernel))) (by decide +kernel)
theorem tw_161 : Cond.fieldLink RX3 27 RX3 "days" "I" ∈ TG := TG_in (List.mem_append_right _ (List.mem_of_getElem? (i := 161) (by decide +kernel))) (by decide +kernel)
theorem tw_162 : Cond.fieldLink RX3 34 RX3 "firstWeekday" "I" ∈ TG := TG_in (List.mem_append_right _ (List.mem_of_getElem? (i := 162) (by decide +kernel))) (by decide +kernel)
theorem tw_163 : Cond.fieldLink RX3 46 RX3 "shift" "I" ∈ TG := TG_in (List.mem_append_right _ (List.mem_of_getElem? (i := 163) (by decide +kernel))) (by decide +kernel)
theorem tw_183 : Cond.fieldLink RX0 12 RX0 "first" "LRunicSticks$Reckoning;" ∈ TG := TG_in (List.mem_append_right _ (List.mem_of_getElem? (i := 183) (by decide +kernel))) (by decide +kernel)
theorem tw_184 : Cond.fieldLink RX0 18 RX0 "second" "LRunicSticks$Reckoning;" ∈ TG := TG_in (List.mem_append_right _ (List.mem_of_getElem? (i := 184) (by decide +kernel))) (by decide +kernel)
theorem tw_185 : Cond.fieldLink RX0 21 RX0 "third" "LRunicSticks$Reckoning;" ∈ TG := TG_in (List.mem_append_right _ (List.mem_of_getElem? (i := 185) (by decide +kernel))) (by decide +kernel)
theorem tw_193 : Cond.fieldLink RX6 56 RX6 "DIGEST_YEARS" "[I" ∈ TG := TG_in (List.mem_append_right _ (List.mem_of_getElem? (i := 193) (by decide +kernel))) (by decide +kernel)
theorem tw_196 : Cond.fieldLink RX6 12 RX6 "now" "LRunicSticks$State;" ∈ TG := TG_in (List.mem_append_right _ (List.mem_of_getElem? (i := 196) (by decide +kernel))) (by decide +kernel)
theorem tw_197 : Cond.fieldLink RX6 19 RX6 "history" "LRunicSticks$History;" ∈ TG := TG_in (List.mem_append_right _ (List.mem_of_getElem? (i := 197) (by decide +kernel))) (by decide +kernel)
theorem tw_198 : Cond.fieldLink RX6 28 RX6 "buffer" "LRunicSticks$Row;" ∈ TG := TG_in (List.mem_append_right _ (List.mem_of_getElem? (i := 198) (by decide +kernel))) (by decide +kernel)
theorem tw_199 : Cond.fieldLink RX6 35 RX6 "reader" "LRunicSticks$Reader;" ∈ TG := TG_in (List.mem_append_right _ (List.mem_of_getElem? (i := 199) (by decide +kernel))) (by decide +kernel)
theorem tw_200 : Cond.fieldLink RX6 42 RX6 "reckoning" "LRunicSticks$Reckoning;" ∈ TG := TG_in (List.mem_append_right _ (List.mem_of_getElem? (i := 200) (by decide +kernel))) (by decide +kernel)
theorem tw_201 : Cond.fieldLink RX6 49 RX6 "council" "LRunicSticks$Council;" ∈ TG := TG_in (List.mem_append_right _ (List.mem_of_getElem? (i := 201) (by decide +kernel))) (by decide +kernel)
theorem tw_202 : Cond.fieldLink RX6 53 RX6 "rival" "LRunicSticks$Council;" ∈ TG := TG_in (List.mem_append_right _ (List.mem_of_getElem? (i := 202) (by decide +kernel))) (by decide +kernel)
theorem tw_203 : Cond.fieldLink RX6 60 RX6 "digestCouncils" "[LRunicSticks$Council;" ∈ TG := TG_in (List.mem_append_right _ (List.mem_of_getElem? (i := 203) (by decide +kernel))) (by decide +kernel)
theorem tw_204 : Cond.fieldLink RX6 64 RX6 "bufferLength" "I" ∈ TG := TG_in (List.mem_append_right _ (List.mem_of_getElem? (i := 204) (by decide +kernel))) (by decide +kernel)
theorem tw_232 : Cond.methodLink RX6 150 yX6_signsReadWell ∈ TG := TG_in (List.mem_append_right _ (List.mem_of_getElem? (i := 232) (by decide +kernel))) (by decide +kernel)
theorem tw_234 : Cond.instanceMethod yX6_signsReadWell ∈ TG := TG_in (List.mem_append_right _ (List.mem_of_getElem? (i := 234) (by decide +kernel))) (by decide +kernel)
theorem tw_235 : Cond.code yX6_signsReadWell cX6_signsReadWell 2 (some .int) ∈ TG := TG_in (List.mem_append_right _ (List.mem_of_getElem? (i := 235) (by decide +kernel))) (by decide +kernel)
theorem tw_236 : Cond.methodLink RX6 256 yX2_start ∈ TG := TG_in (List.mem_append_right _ (List.mem_of_getElem? (i := 236) (by decide +kernel))) (by decide +kernel)
theorem tw_237 : Cond.instanceMethod yX2_start ∈ TG := TG_in (List.mem_append_right _ (List.mem_of_getElem? (i := 237) (by decide +kernel))) (by decide +kernel)
theorem tw_238 : Cond.selects yX2_start.cls yX2_start yX2_start ∈ TG := TG_in (List.mem_append_right _ (List.mem_of_getElem? (i := 238) (by decide +kernel))) (by decide +kernel)
theorem tw_239 : Cond.code yX2_start cX2_start 1 none ∈ TG := TG_in (List.mem_append_right _ (List.mem_of_getElem? (i := 239) (by decide +kernel))) (by decide +kernel)
theorem tw_240 : Cond.methodLink RX6 105 yX4_at ∈ TG := TG_in (List.mem_append_right _ (List.mem_of_getElem? (i := 240) (by decide +kernel))) (by decide +kernel)
theorem tw_241 : Cond.instanceMethod yX4_at ∈ TG := TG_in (List.mem_append_right _ (List.mem_of_getElem? (i := 241) (by decide +kernel))) (by decide +kernel)
theorem tw_242 : Cond.selects yX4_at.cls yX4_at yX4_at ∈ TG := TG_in (List.mem_append_right _ (List.mem_of_getElem? (i := 242) (by decide +kernel))) (by decide +kernel)
theorem tw_243 : Cond.code yX4_at cX4_at 2 (some .int) ∈ TG := TG_in (List.mem_append_right _ (List.mem_of_getElem? (i := 243) (by decide +kernel))) (by decide +kernel)
theorem tw_244 : Cond.methodLink RX6 259 yX2_reads ∈ TG := TG_in (List.mem_append_right _ (List.mem_of_getElem? (i := 244) (by decide +kernel))) (by decide +kernel)
theorem tw_245 : Cond.instanceMethod yX2_reads ∈ TG := TG_in (List.mem_append_right _ (List.mem_of_getElem? (i := 245) (by decide +kernel))) (by decide +kernel)
theorem tw_246 : Cond.selects yX2_reads.cls yX2_reads yX2_reads ∈ TG := TG_in (List.mem_append_right _ (List.mem_of_getElem? (i := 246) (by decide +kernel))) (by decide +kernel)
theorem tw_247 : Cond.code yX2_reads cX2_reads 2 (some .boolean) ∈ TG := TG_in (List.mem_append_right _ (List.mem_of_getElem? (i := 247) (by decide +kernel))) (by decide +kernel)
theorem tw_248 : Cond.methodLink RX2 35 yX2_readsRule ∈ TG := TG_in (List.mem_append_right _ (List.mem_of_getElem? (i := 248) (by decide +kernel))) (by decide +kernel)
theorem tw_250 : Cond.instanceMethod yX2_readsRule ∈ TG := TG_in (List.mem_append_right _ (List.mem_of_getElem? (i := 250) (by decide +kernel))) (by decide +kernel)
theorem tw_251 : Cond.code yX2_readsRule cX2_readsRule 2 (some .boolean) ∈ TG := TG_in (List.mem_append_right _ (List.mem_of_getElem? (i := 251) (by decide +kernel))) (by decide +kernel)
theorem tw_252 : Cond.methodLink RX2 39 yX2_readsOther ∈ TG := TG_in (List.mem_append_right _ (List.mem_of_getElem? (i := 252) (by decide +kernel))) (by decide +kernel)
theorem tw_254 : Cond.instanceMethod yX2_readsOther ∈ TG := TG_in (List.mem_append_right _ (List.mem_of_getElem? (i := 254) (by decide +kernel))) (by decide +kernel)
theorem tw_255 : Cond.code yX2_readsOther cX2_readsOther 4 (some .boolean) ∈ TG := TG_in (List.mem_append_right _ (List.mem_of_getElem? (i := 255) (by decide +kernel))) (by decide +kernel)
theorem tw_256 : Cond.methodLink RX2 43 yX2_readsSign ∈ TG := TG_in (List.mem_append_right _ (List.mem_of_getElem? (i := 256) (by decide +kernel))) (by decide +kernel)
theorem tw_258 : Cond.instanceMethod yX2_readsSign ∈ TG := TG_in (List.mem_append_right _ (List.mem_of_getElem? (i := 258) (by decide +kernel))) (by decide +kernel)
theorem tw_259 : Cond.code yX2_readsSign cX2_readsSign 2 (some .boolean) ∈ TG := TG_in (List.mem_append_right _ (List.mem_of_getElem? (i := 259) (by decide +kernel))) (by decide +kernel)
theorem tw_260 : Cond.methodLink RX2 46 yX2_readsFirstDigit ∈ TG := TG_in (List.mem_append_right _ (List.mem_of_getElem? (i := 260) (by decide +kernel))) (by decide +kernel)
theorem tw_262 : Cond.instanceMethod yX2_readsFirstDigit ∈ TG := TG_in (List.mem_append_right _ (List.mem_of_getElem? (i := 262) (by decide +kernel))) (by decide +kernel)
theorem tw_263 : Cond.code yX2_readsFirstDigit cX2_readsFirstDigit 2 (some .boolean) ∈ TG := TG_in (List.mem_append_right _ (List.mem_of_getElem? (i := 263) (by decide +kernel))) (by decide +kernel)
theorem tw_264 : Cond.methodLink RX2 64 yX2_isDigit ∈ TG := TG_in (List.mem_append_right _ (List.mem_of_getElem? (i := 264) (by decide +kernel))) (by decide +kernel)
theorem tw_265 : Cond.static yX2_isDigit ∈ TG := TG_in (List.mem_append_right _ (List.mem_of_getElem? (i := 265) (by decide +kernel))) (by decide +kernel)
theorem tw_266 : Cond.code yX2_isDigit cX2_isDigit 1 (some .boolean) ∈ TG := TG_in (List.mem_append_right _ (List.mem_of_getElem? (i := 266) (by decide +kernel))) (by decide +kernel)
theorem tw_267 : Cond.methodLink RX2 49 yX2_readsNextDigit ∈ TG := TG_in (List.mem_append_right _ (List.mem_of_getElem? (i := 267) (by decide +kernel))) (by decide +kernel)
theorem tw_269 : Cond.instanceMethod yX2_readsNextDigit ∈ TG := TG_in (List.mem_append_right _ (List.mem_of_getElem? (i := 269) (by decide +kernel))) (by decide +kernel)
theorem tw_270 : Cond.code yX2_readsNextDigit cX2_readsNextDigit 4 (some .boolean) ∈ TG := TG_in (List.mem_append_right _ (List.mem_of_getElem? (i := 270) (by decide +kernel))) (by decide +kernel)
theorem tw_271 : Cond.methodLink RX2 31 yX2_hasWeekday ∈ TG := TG_in (List.mem_append_right _ (List.mem_of_getElem? (i := 271) (by decide +kernel))) (by decide +kernel)
theorem tw_273 : Cond.instanceMethod yX2_hasWeekday ∈ TG := TG_in (List.mem_append_right _ (List.mem_of_getElem? (i := 273) (by decide +kernel))) (by decide +kernel)
theorem tw_274 : Cond.code yX2_hasWeekday cX2_hasWeekday 1 (some .boolean) ∈ TG := TG_in (List.mem_append_right _ (List.mem_of_getElem? (i := 274) (by decide +kernel))) (by decide +kernel)
theorem tw_275 : Cond.methodLink RX2 52 yX2_readsComma ∈ TG := TG_in (List.mem_append_right _ (List.mem_of_getElem? (i := 275) (by decide +kernel))) (by decide +kernel)
theorem tw_277 : Cond.instanceMethod yX2_readsComma ∈ TG := TG_in (List.mem_append_right _ (List.mem_of_getElem? (i := 277) (by decide +kernel))) (by decide +kernel)
theorem tw_278 : Cond.code yX2_readsComma cX2_readsComma 2 (some .boolean) ∈ TG := TG_in (List.mem_append_right _ (List.mem_of_getElem? (i := 278) (by decide +kernel))) (by decide +kernel)
theorem tw_279 : Cond.methodLink RX2 55 yX2_readsBehindRule ∈ TG := TG_in (List.mem_append_right _ (List.mem_of_getElem? (i := 279) (by decide +kernel))) (by decide +kernel)
theorem tw_281 : Cond.instanceMethod yX2_readsBehindRule ∈ TG := TG_in (List.mem_append_right _ (List.mem_of_getElem? (i := 281) (by decide +kernel))) (by decide +kernel)
theorem tw_282 : Cond.code yX2_readsBehindRule cX2_readsBehindRule 2 (some .boolean) ∈ TG := TG_in (List.mem_append_right _ (List.mem_of_getElem? (i := 282) (by decide +kernel))) (by decide +kernel)
theorem tw_283 : Cond.methodLink RX2 61 yX2_readsSeparator ∈ TG := TG_in (List.mem_append_right _ (List.mem_of_getElem? (i := 283) (by decide +kernel))) (by decide +kernel)
theorem tw_285 : Cond.instanceMethod yX2_readsSeparator ∈ TG := TG_in (List.mem_append_right _ (List.mem_of_getElem? (i := 285) (by decide +kernel))) (by decide +kernel)
theorem tw_286 : Cond.code yX2_readsSeparator cX2_readsSeparator 2 (some .boolean) ∈ TG := TG_in (List.mem_append_right _ (List.mem_of_getElem? (i := 286) (by decide +kernel))) (by decide +kernel)
theorem tw_287 : Cond.methodLink RX2 67 yX2_start ∈ TG := TG_in (List.mem_append_right _ (List.mem_of_getElem? (i := 287) (by decide +kernel))) (by decide +kernel)
theorem tw_288 : Cond.methodLink RX2 58 yX2_readsRank ∈ TG := TG_in (List.mem_append_right _ (List.mem_of_getElem? (i := 288) (by decide +kernel))) (by decide +kernel)
theorem tw_290 : Cond.instanceMethod yX2_readsRank ∈ TG := TG_in (List.mem_append_right _ (List.mem_of_getElem? (i := 290) (by decide +kernel))) (by decide +kernel)
theorem tw_291 : Cond.code yX2_readsRank cX2_readsRank 2 (some .boolean) ∈ TG := TG_in (List.mem_append_right _ (List.mem_of_getElem? (i := 291) (by decide +kernel))) (by decide +kernel)
theorem tw_296 : Cond.methodLink RX6 216 yX6_freshPart ∈ TG := TG_in (List.mem_append_right _ (List.mem_of_getElem? (i := 296) (by decide +kernel))) (by decide +kernel)
theorem tw_298 : Cond.instanceMethod yX6_freshPart ∈ TG := TG_in (List.mem_append_right _ (List.mem_of_getElem? (i := 298) (by decide +kernel))) (by decide +kernel)
theorem tw_299 : Cond.code yX6_freshPart cX6_freshPart 3 (some .double) ∈ TG := TG_in (List.mem_append_right _ (List.mem_of_getElem? (i := 299) (by decide +kernel))) (by decide +kernel)
theorem tw_300 : Cond.methodLink RX6 290 yX6_staleFeasts ∈ TG := TG_in (List.mem_append_right _ (List.mem_of_getElem? (i := 300) (by decide +kernel))) (by decide +kernel)
theorem tw_302 : Cond.instanceMethod yX6_staleFeasts ∈ TG := TG_in (List.mem_append_right _ (List.mem_of_getElem? (i := 302) (by decide +kernel))) (by decide +kernel)
theorem tw_303 : Cond.code yX6_staleFeasts cX6_staleFeasts 8 (some .int) ∈ TG := TG_in (List.mem_append_right _ (List.mem_of_getElem? (i := 303) (by decide +kernel))) (by decide +kernel)
theorem tw_304 : Cond.methodLink RX6 122 yX3_reckon ∈ TG := TG_in (List.mem_append_right _ (List.mem_of_getElem? (i := 304) (by decide +kernel))) (by decide +kernel)
theorem tw_305 : Cond.instanceMethod yX3_reckon ∈ TG := TG_in (List.mem_append_right _ (List.mem_of_getElem? (i := 305) (by decide +kernel))) (by decide +kernel)
theorem tw_306 : Cond.selects yX3_reckon.cls yX3_reckon yX3_reckon ∈ TG := TG_in (List.mem_append_right _ (List.mem_of_getElem? (i := 306) (by decide +kernel))) (by decide +kernel)
theorem tw_307 : Cond.code yX3_reckon cX3_reckon 5 none ∈ TG := TG_in (List.mem_append_right _ (List.mem_of_getElem? (i := 307) (by decide +kernel))) (by decide +kernel)
theorem tw_309 : Cond.static yX6_daysIn ∈ TG := TG_in (List.mem_append_right _ (List.mem_of_getElem? (i := 309) (by decide +kernel))) (by decide +kernel)
theorem tw_310 : Cond.code yX6_daysIn cX6_daysIn 1 (some .int) ∈ TG := TG_in (List.mem_append_right _ (List.mem_of_getElem? (i := 310) (by decide +kernel))) (by decide +kernel)
theorem tw_311 : Cond.methodLink RX6 252 yX6_isLeap ∈ TG := TG_in (List.mem_append_right _ (List.mem_of_getElem? (i := 311) (by decide +kernel))) (by decide +kernel)
theorem tw_312 : Cond.static yX6_isLeap ∈ TG := TG_in (List.mem_append_right _ (List.mem_of_getElem? (i := 312) (by decide +kernel))) (by decide +kernel)
theorem tw_313 : Cond.code yX6_isLeap cX6_isLeap 1 (some .boolean) ∈ TG := TG_in (List.mem_append_right _ (List.mem_of_getElem? (i := 313) (by decide +kernel))) (by decide +kernel)
theorem tw_315 : Cond.static yX6_newYearWeekday ∈ TG := TG_in (List.mem_append_right _ (List.mem_of_getElem? (i := 315) (by decide +kernel))) (by decide +kernel)
theorem tw_316 : Cond.code yX6_newYearWeekday cX6_newYearWeekday 2 (some .int) ∈ TG := TG_in (List.mem_append_right _ (List.mem_of_getElem? (i := 316) (by decide +kernel))) (by decide +kernel)
theorem tw_318 : Cond.static yX6_moonShift ∈ TG := TG_in (List.mem_append_right _ (List.mem_of_getElem? (i := 318) (by decide +kernel))) (by decide +kernel)
theorem tw_319 : Cond.code yX6_moonShift cX6_moonShift 4 (some .int) ∈ TG := TG_in (List.mem_append_right _ (List.mem_of_getElem? (i := 319) (by decide +kernel))) (by decide +kernel)
theorem tw_320 : Cond.methodLink RX3 52 yX3_dayByRule ∈ TG := TG_in (List.mem_append_right _ (List.mem_of_getElem? (i := 320) (by decide +kernel))) (by decide +kernel)
theorem tw_322 : Cond.instanceMethod yX3_dayByRule ∈ TG := TG_in (List.mem_append_right _ (List.mem_of_getElem? (i := 322) (by decide +kernel))) (by decide +kernel)
theorem tw_323 : Cond.code yX3_dayByRule cX3_dayByRule 5 (some .int) ∈ TG := TG_in (List.mem_append_right _ (List.mem_of_getElem? (i := 323) (by decide +kernel))) (by decide +kernel)
theorem tw_324 : Cond.methodLink RX3 70 yX4_at ∈ TG := TG_in (List.mem_append_right _ (List.mem_of_getElem? (i := 324) (by decide +kernel))) (by decide +kernel)
theorem tw_325 : Cond.methodLink RX3 81 yX3_weekdayFrom ∈ TG := TG_in (List.mem_append_right _ (List.mem_of_getElem? (i := 325) (by decide +kernel))) (by decide +kernel)
theorem tw_327 : Cond.instanceMethod yX3_weekdayFrom ∈ TG := TG_in (List.mem_append_right _ (List.mem_of_getElem? (i := 327) (by decide +kernel))) (by decide +kernel)
theorem tw_328 : Cond.code yX3_weekdayFrom cX3_weekdayFrom 4 (some .int) ∈ TG := TG_in (List.mem_append_right _ (List.mem_of_getElem? (i := 328) (by decide +kernel))) (by decide +kernel)
theorem tw_329 : Cond.methodLink RX3 85 yX3_weekdayPastMoon ∈ TG := TG_in (List.mem_append_right _ (List.mem_of_getElem? (i := 329) (by decide +kernel))) (by decide +kernel)
theorem tw_331 : Cond.instanceMethod yX3_weekdayPastMoon ∈ TG := TG_in (List.mem_append_right _ (List.mem_of_getElem? (i := 331) (by decide +kernel))) (by decide +kernel)
theorem tw_332 : Cond.code yX3_weekdayPastMoon cX3_weekdayPastMoon 4 (some .int) ∈ TG := TG_in (List.mem_append_right _ (List.mem_of_getElem? (i := 332) (by decide +kernel))) (by decide +kernel)
theorem tw_334 : Cond.static yX6_moonAge ∈ TG := TG_in (List.mem_append_right _ (List.mem_of_getElem? (i := 334) (by decide +kernel))) (by decide +kernel)
theorem tw_335 : Cond.code yX6_moonAge cX6_moonAge 2 (some .int) ∈ TG := TG_in (List.mem_append_right _ (List.mem_of_getElem? (i := 335) (by decide +kernel))) (by decide +kernel)
theorem tw_336 : Cond.methodLink RX3 56 yX3_orNone ∈ TG := TG_in (List.mem_append_right _ (List.mem_of_getElem? (i := 336) (by decide +kernel))) (by decide +kernel)
theorem tw_338 : Cond.instanceMethod yX3_orNone ∈ TG := TG_in (List.mem_append_right _ (List.mem_of_getElem? (i := 338) (by decide +kernel))) (by decide +kernel)
theorem tw_339 : Cond.code yX3_orNone cX3_orNone 2 (some .int) ∈ TG := TG_in (List.mem_append_right _ (List.mem_of_getElem? (i := 339) (by decide +kernel))) (by decide +kernel)
theorem tw_340 : Cond.methodLink RX3 59 yX4_put ∈ TG := TG_in (List.mem_append_right _ (List.mem_of_getElem? (i := 340) (by decide +kernel))) (by decide +kernel)
theorem tw_341 : Cond.instanceMethod yX4_put ∈ TG := TG_in (List.mem_append_right _ (List.mem_of_getElem? (i := 341) (by decide +kernel))) (by decide +kernel)
theorem tw_342 : Cond.selects yX4_put.cls yX4_put yX4_put ∈ TG := TG_in (List.mem_append_right _ (List.mem_of_getElem? (i := 342) (by decide +kernel))) (by decide +kernel)
theorem tw_343 : Cond.code yX4_put cX4_put 3 none ∈ TG := TG_in (List.mem_append_right _ (List.mem_of_getElem? (i := 343) (by decide +kernel))) (by decide +kernel)
theorem tw_344 : Cond.methodLink RX3 63 yX4_putNowhere ∈ TG := TG_in (List.mem_append_right _ (List.mem_of_getElem? (i := 344) (by decide +kernel))) (by decide +kernel)
theorem tw_345 : Cond.instanceMethod yX4_putNowhere ∈ TG := TG_in (List.mem_append_right _ (List.mem_of_getElem? (i := 345) (by decide +kernel))) (by decide +kernel)
theorem tw_346 : Cond.selects yX4_putNowhere.cls yX4_putNowhere yX4_putNowhere ∈ TG := TG_in (List.mem_append_right _ (List.mem_of_getElem? (i := 346) (by decide +kernel))) (by decide +kernel)
theorem tw_347 : Cond.code yX4_putNowhere cX4_putNowhere 2 none ∈ TG := TG_in (List.mem_append_right _ (List.mem_of_getElem? (i := 347) (by decide +kernel))) (by decide +kernel)
theorem tw_348 : Cond.methodLink RX3 66 yX3_cutNotches ∈ TG := TG_in (List.mem_append_right _ (List.mem_of_getElem? (i := 348) (by decide +kernel))) (by decide +kernel)
theorem tw_35 : Cond.fieldLink RX4 9 RX4 "cells" "[I" ∈ TG := TG_in (List.mem_append_right _ (List.mem_of_getElem? (i := 35) (by decide +kernel))) (by decide +kernel)
theorem tw_350 : Cond.instanceMethod yX3_cutNotches ∈ TG := TG_in (List.mem_append_right _ (List.mem_of_getElem? (i := 350) (by decide +kernel))) (by decide +kernel)
theorem tw_351 : Cond.code yX3_cutNotches cX3_cutNotches 6 none ∈ TG := TG_in (List.mem_append_right _ (List.mem_of_getElem? (i := 351) (by decide +kernel))) (by decide +kernel)
theorem tw_352 : Cond.methodLink RX3 94 yX3_hasNotch ∈ TG := TG_in (List.mem_append_right _ (List.mem_of_getElem? (i := 352) (by decide +kernel))) (by decide +kernel)
theorem tw_354 : Cond.instanceMethod yX3_hasNotch ∈ TG := TG_in (List.mem_append_right _ (List.mem_of_getElem? (i := 354) (by decide +kernel))) (by decide +kernel)
theorem tw_355 : Cond.code yX3_hasNotch cX3_hasNotch 4 (some .boolean) ∈ TG := TG_in (List.mem_append_right _ (List.mem_of_getElem? (i := 355) (by decide +kernel))) (by decide +kernel)
theorem tw_356 : Cond.methodLink RX6 293 yX5_stickNotch ∈ TG := TG_in (List.mem_append_right _ (List.mem_of_getElem? (i := 356) (by decide +kernel))) (by decide +kernel)
theorem tw_357 : Cond.instanceMethod yX5_stickNotch ∈ TG := TG_in (List.mem_append_right _ (List.mem_of_getElem? (i := 357) (by decide +kernel))) (by decide +kernel)
theorem tw_358 : Cond.selects yX5_stickNotch.cls yX5_stickNotch yX5_stickNotch ∈ TG := TG_in (List.mem_append_right _ (List.mem_of_getElem? (i := 358) (by decide +kernel))) (by decide +kernel)
theorem tw_359 : Cond.code yX5_stickNotch cX5_stickNotch 3 (some .int) ∈ TG := TG_in (List.mem_append_right _ (List.mem_of_getElem? (i := 359) (by decide +kernel))) (by decide +kernel)
theorem tw_360 : Cond.methodLink RX5 83 yX4_at ∈ TG := TG_in (List.mem_append_right _ (List.mem_of_getElem? (i := 360) (by decide +kernel))) (by decide +kernel)
theorem tw_365 : Cond.constantLong RX6 220 2953 ∈ TG := TG_in (List.mem_append_right _ (List.mem_of_getElem? (i := 365) (by decide +kernel))) (by decide +kernel)
theorem tw_366 : Cond.methodLink RX6 200 yX6_numberOf ∈ TG := TG_in (List.mem_append_right _ (List.mem_of_getElem? (i := 366) (by decide +kernel))) (by decide +kernel)
theorem tw_368 : Cond.instanceMethod yX6_numberOf ∈ TG := TG_in (List.mem_append_right _ (List.mem_of_getElem? (i := 368) (by decide +kernel))) (by decide +kernel)
theorem tw_369 : Cond.code yX6_numberOf cX6_numberOf 2 (some .int) ∈ TG := TG_in (List.mem_append_right _ (List.mem_of_getElem? (i := 369) (by decide +kernel))) (by decide +kernel)
theorem tw_370 : Cond.methodLink RX6 161 yX1_size ∈ TG := TG_in (List.mem_append_right _ (List.mem_of_getElem? (i := 370) (by decide +kernel))) (by decide +kernel)
theorem tw_371 : Cond.instanceMethod yX1_size ∈ TG := TG_in (List.mem_append_right _ (List.mem_of_getElem? (i := 371) (by decide +kernel))) (by decide +kernel)
theorem tw_372 : Cond.selects yX1_size.cls yX1_size yX1_size ∈ TG := TG_in (List.mem_append_right _ (List.mem_of_getElem? (i := 372) (by decide +kernel))) (by decide +kernel)
theorem tw_373 : Cond.code yX1_size cX1_size 1 (some .int) ∈ TG := TG_in (List.mem_append_right _ (List.mem_of_getElem? (i := 373) (by decide +kernel))) (by decide +kernel)
theorem tw_374 : Cond.methodLink RX6 222 yX6_mixed ∈ TG := TG_in (List.mem_append_right _ (List.mem_of_getElem? (i := 374) (by decide +kernel))) (by decide +kernel)
theorem tw_375 : Cond.static yX6_mixed ∈ TG := TG_in (List.mem_append_right _ (List.mem_of_getElem? (i := 375) (by decide +kernel))) (by decide +kernel)
theorem tw_376 : Cond.code yX6_mixed cX6_mixed 4 (some .long) ∈ TG := TG_in (List.mem_append_right _ (List.mem_of_getElem? (i := 376) (by decide +kernel))) (by decide +kernel)
theorem tw_377 : Cond.constantLong RX6 307 31 ∈ TG := TG_in (List.mem_append_right _ (List.mem_of_getElem? (i := 377) (by decide +kernel))) (by decide +kernel)
theorem tw_378 : Cond.methodLink RX6 226 yX6_gatherDigestCouncils ∈ TG := TG_in (List.mem_append_right _ (List.mem_of_getElem? (i := 378) (by decide +kernel))) (by decide +kernel)
theorem tw_380 : Cond.instanceMethod yX6_gatherDigestCouncils ∈ TG := TG_in (List.mem_append_right _ (List.mem_of_getElem? (i := 380) (by decide +kernel))) (by decide +kernel)
theorem tw_381 : Cond.code yX6_gatherDigestCouncils cX6_gatherDigestCouncils 3 none ∈ TG := TG_in (List.mem_append_right _ (List.mem_of_getElem? (i := 381) (by decide +kernel))) (by decide +kernel)
theorem tw_382 : Cond.methodLink RX6 187 yX0_gather ∈ TG := TG_in (List.mem_append_right _ (List.mem_of_getElem? (i := 382) (by decide +kernel))) (by decide +kernel)
theorem tw_383 : Cond.instanceMethod yX0_gather ∈ TG := TG_in (List.mem_append_right _ (List.mem_of_getElem? (i := 383) (by decide +kernel))) (by decide +kernel)
theorem tw_384 : Cond.selects yX0_gather.cls yX0_gather yX0_gather ∈ TG := TG_in (List.mem_append_right _ (List.mem_of_getElem? (i := 384) (by decide +kernel))) (by decide +kernel)
theorem tw_385 : Cond.code yX0_gather cX0_gather 4 none ∈ TG := TG_in (List.mem_append_right _ (List.mem_of_getElem? (i := 385) (by decide +kernel))) (by decide +kernel)
theorem tw_386 : Cond.methodLink RX0 24 yX0_by ∈ TG := TG_in (List.mem_append_right _ (List.mem_of_getElem? (i := 386) (by decide +kernel))) (by decide +kernel)
theorem tw_387 : Cond.instanceMethod yX0_by ∈ TG := TG_in (List.mem_append_right _ (List.mem_of_getElem? (i := 387) (by decide +kernel))) (by decide +kernel)
theorem tw_388 : Cond.selects yX0_by.cls yX0_by yX0_by ∈ TG := TG_in (List.mem_append_right _ (List.mem_of_getElem? (i := 388) (by decide +kernel))) (by decide +kernel)
theorem tw_389 : Cond.code yX0_by cX0_by 2 (some (.object "RunicSticks$Reckoning")) ∈ TG := TG_in (List.mem_append_right _ (List.mem_of_getElem? (i := 389) (by decide +kernel))) (by decide +kernel)
theorem tw_390 : Cond.methodLink RX0 34 yX4_at ∈ TG := TG_in (List.mem_append_right _ (List.mem_of_getElem? (i := 390) (by decide +kernel))) (by decide +kernel)
theorem tw_391 : Cond.methodLink RX0 40 yX3_reckon ∈ TG := TG_in (List.mem_append_right _ (List.mem_of_getElem? (i := 391) (by decide +kernel))) (by decide +kernel)
theorem tw_392 : Cond.methodLink RX6 229 yX6_mixedFeasts ∈ TG := TG_in (List.mem_append_right _ (List.mem_of_getElem? (i := 392) (by decide +kernel))) (by decide +kernel)
theorem tw_394 : Cond.instanceMethod yX6_mixedFeasts ∈ TG := TG_in (List.mem_append_right _ (List.mem_of_getElem? (i := 394) (by decide +kernel))) (by decide +kernel)
theorem tw_395 : Cond.code yX6_mixedFeasts cX6_mixedFeasts 8 (some .long) ∈ TG := TG_in (List.mem_append_right _ (List.mem_of_getElem? (i := 395) (by decide +kernel))) (by decide +kernel)
theorem tw_396 : Cond.methodLink RX6 181 yX6_feastProperty ∈ TG := TG_in (List.mem_append_right _ (List.mem_of_getElem? (i := 396) (by decide +kernel))) (by decide +kernel)
theorem tw_398 : Cond.instanceMethod yX6_feastProperty ∈ TG := TG_in (List.mem_append_right _ (List.mem_of_getElem? (i := 398) (by decide +kernel))) (by decide +kernel)
theorem tw_399 : Cond.code yX6_feastProperty cX6_feastProperty 3 (some .int) ∈ TG := TG_in (List.mem_append_right _ (List.mem_of_getElem? (i := 399) (by decide +kernel))) (by decide +kernel)
theorem tw_40 : Cond.fieldLink RX5 9 RX5 "feasts" "I" ∈ TG := TG_in (List.mem_append_right _ (List.mem_of_getElem? (i := 40) (by decide +kernel))) (by decide +kernel)
theorem tw_400 : Cond.methodLink RX6 309 yX6_mixedDays ∈ TG := TG_in (List.mem_append_right _ (List.mem_of_getElem? (i := 400) (by decide +kernel))) (by decide +kernel)
theorem tw_401 : Cond.static yX6_mixedDays ∈ TG := TG_in (List.mem_append_right _ (List.mem_of_getElem? (i := 401) (by decide +kernel))) (by decide +kernel)
theorem tw_402 : Cond.code yX6_mixedDays cX6_mixedDays 7 (some .long) ∈ TG := TG_in (List.mem_append_right _ (List.mem_of_getElem? (i := 402) (by decide +kernel))) (by decide +kernel)
theorem tw_403 : Cond.methodLink RX6 303 yX0_by ∈ TG := TG_in (List.mem_append_right _ (List.mem_of_getElem? (i := 403) (by decide +kernel))) (by decide +kernel)
theorem tw_404 : Cond.methodLink RX6 191 yX0_settledNotch ∈ TG := TG_in (List.mem_append_right _ (List.mem_of_getElem? (i := 404) (by decide +kernel))) (by decide +kernel)
theorem tw_405 : Cond.instanceMethod yX0_settledNotch ∈ TG := TG_in (List.mem_append_right _ (List.mem_of_getElem? (i := 405) (by decide +kernel))) (by decide +kernel)
theorem tw_406 : Cond.selects yX0_settledNotch.cls yX0_settledNotch yX0_settledNotch ∈ TG := TG_in (List.mem_append_right _ (List.mem_of_getElem? (i := 406) (by decide +kernel))) (by decide +kernel)
theorem tw_407 : Cond.code yX0_settledNotch cX0_settledNotch 3 (some .int) ∈ TG := TG_in (List.mem_append_right _ (List.mem_of_getElem? (i := 407) (by decide +kernel))) (by decide +kernel)
theorem tw_408 : Cond.methodLink RX6 233 yX6_mixedQuarrels ∈ TG := TG_in (List.mem_append_right _ (List.mem_of_getElem? (i := 408) (by decide +kernel))) (by decide +kernel)
theorem tw_41 : Cond.fieldLink RX3 49 RX5 "feasts" "I" ∈ TG := TG_in (List.mem_append_right _ (List.mem_of_getElem? (i := 41) (by decide +kernel))) (by decide +kernel)
theorem tw_410 : Cond.instanceMethod yX6_mixedQuarrels ∈ TG := TG_in (List.mem_append_right _ (List.mem_of_getElem? (i := 410) (by decide +kernel))) (by decide +kernel)
theorem tw_411 : Cond.code yX6_mixedQuarrels cX6_mixedQuarrels 8 (some .long) ∈ TG := TG_in (List.mem_append_right _ (List.mem_of_getElem? (i := 411) (by decide +kernel))) (by decide +kernel)
theorem tw_412 : Cond.methodLink RX6 194 yX0_quarrelCount ∈ TG := TG_in (List.mem_append_right _ (List.mem_of_getElem? (i := 412) (by decide +kernel))) (by decide +kernel)
theorem tw_413 : Cond.instanceMethod yX0_quarrelCount ∈ TG := TG_in (List.mem_append_right _ (List.mem_of_getElem? (i := 413) (by decide +kernel))) (by decide +kernel)
theorem tw_414 : Cond.selects yX0_quarrelCount.cls yX0_quarrelCount yX0_quarrelCount ∈ TG := TG_in (List.mem_append_right _ (List.mem_of_getElem? (i := 414) (by decide +kernel))) (by decide +kernel)
theorem tw_415 : Cond.code yX0_quarrelCount cX0_quarrelCount 5 (some .int) ∈ TG := TG_in (List.mem_append_right _ (List.mem_of_getElem? (i := 415) (by decide +kernel))) (by decide +kernel)
theorem tw_416 : Cond.methodLink RX6 213 yX3_movedCount ∈ TG := TG_in (List.mem_append_right _ (List.mem_of_getElem? (i := 416) (by decide +kernel))) (by decide +kernel)
theorem tw_417 : Cond.instanceMethod yX3_movedCount ∈ TG := TG_in (List.mem_append_right _ (List.mem_of_getElem? (i := 417) (by decide +kernel))) (by decide +kernel)
theorem tw_418 : Cond.selects yX3_movedCount.cls yX3_movedCount yX3_movedCount ∈ TG := TG_in (List.mem_append_right _ (List.mem_of_getElem? (i := 418) (by decide +kernel))) (by decide +kernel)
theorem tw_419 : Cond.code yX3_movedCount cX3_movedCount 5 (some .int) ∈ TG := TG_in (List.mem_append_right _ (List.mem_of_getElem? (i := 419) (by decide +kernel))) (by decide +kernel)
theorem tw_42 : Cond.fieldLink RX6 87 RX5 "feasts" "I" ∈ TG := TG_in (List.mem_append_right _ (List.mem_of_getElem? (i := 42) (by decide +kernel))) (by decide +kernel)
theorem tw_420 : Cond.methodLink RX6 197 yX6_stickProperty ∈ TG := TG_in (List.mem_append_right _ (List.mem_of_getElem? (i := 420) (by decide +kernel))) (by decide +kernel)
theorem tw_422 : Cond.instanceMethod yX6_stickProperty ∈ TG := TG_in (List.mem_append_right _ (List.mem_of_getElem? (i := 422) (by decide +kernel))) (by decide +kernel)
theorem tw_423 : Cond.code yX6_stickProperty cX6_stickProperty 3 (some .int) ∈ TG := TG_in (List.mem_append_right _ (List.mem_of_getElem? (i := 423) (by decide +kernel))) (by decide +kernel)
theorem tw_424 : Cond.methodLink RX6 133 yX5_notchesOfStick ∈ TG := TG_in (List.mem_append_right _ (List.mem_of_getElem? (i := 424) (by decide +kernel))) (by decide +kernel)
theorem tw_425 : Cond.instanceMethod yX5_notchesOfStick ∈ TG := TG_in (List.mem_append_right _ (List.mem_of_getElem? (i := 425) (by decide +kernel))) (by decide +kernel)
theorem tw_426 : Cond.selects yX5_notchesOfStick.cls yX5_notchesOfStick yX5_notchesOfStick ∈ TG := TG_in (List.mem_append_right _ (List.mem_of_getElem? (i := 426) (by decide +kernel))) (by decide +kernel)
theorem tw_427 : Cond.code yX5_notchesOfStick cX5_notchesOfStick 4 (some .int) ∈ TG := TG_in (List.mem_append_right _ (List.mem_of_getElem? (i := 427) (by decide +kernel))) (by decide +kernel)
theorem tw_428 : Cond.methodLink RX5 87 yX5_stickNotch ∈ TG := TG_in (List.mem_append_right _ (List.mem_of_getElem? (i := 428) (by decide +kernel))) (by decide +kernel)
theorem tw_429 : Cond.methodLink RX6 207 yX6_nextAlike ∈ TG := TG_in (List.mem_append_right _ (List.mem_of_getElem? (i := 429) (by decide +kernel))) (by decide +kernel)
theorem tw_43 : Cond.fieldLink RX5 20 RX5 "rules" "LRunicSticks$Row;" ∈ TG := TG_in (List.mem_append_right _ (List.mem_of_getElem? (i := 43) (by decide +kernel))) (by decide +kernel)
theorem tw_431 : Cond.instanceMethod yX6_nextAlike ∈ TG := TG_in (List.mem_append_right _ (List.mem_of_getElem? (i := 431) (by decide +kernel))) (by decide +kernel)
theorem tw_432 : Cond.code yX6_nextAlike cX6_nextAlike 3 (some .int) ∈ TG := TG_in (List.mem_append_right _ (List.mem_of_getElem? (i := 432) (by decide +kernel))) (by decide +kernel)
theorem tw_433 : Cond.methodLink RX6 164 yX6_daysIn ∈ TG := TG_in (List.mem_append_right _ (List.mem_of_getElem? (i := 433) (by decide +kernel))) (by decide +kernel)
theorem tw_434 : Cond.methodLink RX6 167 yX6_newYearWeekday ∈ TG := TG_in (List.mem_append_right _ (List.mem_of_getElem? (i := 434) (by decide +kernel))) (by decide +kernel)
theorem tw_435 : Cond.methodLink RX6 299 yX0_settlesLike ∈ TG := TG_in (List.mem_append_right _ (List.mem_of_getElem? (i := 435) (by decide +kernel))) (by decide +kernel)
theorem tw_436 : Cond.instanceMethod yX0_settlesLike ∈ TG := TG_in (List.mem_append_right _ (List.mem_of_getElem? (i := 436) (by decide +kernel))) (by decide +kernel)
theorem tw_437 : Cond.selects yX0_settlesLike.cls yX0_settlesLike yX0_settlesLike ∈ TG := TG_in (List.mem_append_right _ (List.mem_of_getElem? (i := 437) (by decide +kernel))) (by decide +kernel)
theorem tw_438 : Cond.code yX0_settlesLike cX0_settlesLike 4 (some .boolean) ∈ TG := TG_in (List.mem_append_right _ (List.mem_of_getElem? (i := 438) (by decide +kernel))) (by decide +kernel)
theorem tw_439 : Cond.methodLink RX0 47 yX0_settledNotch ∈ TG := TG_in (List.mem_append_right _ (List.mem_of_getElem? (i := 439) (by decide +kernel))) (by decide +kernel)
theorem tw_44 : Cond.fieldLink RX3 78 RX5 "rules" "LRunicSticks$Row;" ∈ TG := TG_in (List.mem_append_right _ (List.mem_of_getElem? (i := 44) (by decide +kernel))) (by decide +kernel)
theorem tw_440 : Cond.methodLink RX6 210 yX6_calmestSlip ∈ TG := TG_in (List.mem_append_right _ (List.mem_of_getElem? (i := 440) (by decide +kernel))) (by decide +kernel)
theorem tw_442 : Cond.instanceMethod yX6_calmestSlip ∈ TG := TG_in (List.mem_append_right _ (List.mem_of_getElem? (i := 442) (by decide +kernel))) (by decide +kernel)
theorem tw_443 : Cond.code yX6_calmestSlip cX6_calmestSlip 9 (some .int) ∈ TG := TG_in (List.mem_append_right _ (List.mem_of_getElem? (i := 443) (by decide +kernel))) (by decide +kernel)
theorem tw_444 : Cond.methodLink RX6 203 yX6_outermost ∈ TG := TG_in (List.mem_append_right _ (List.mem_of_getElem? (i := 444) (by decide +kernel))) (by decide +kernel)
theorem tw_446 : Cond.instanceMethod yX6_outermost ∈ TG := TG_in (List.mem_append_right _ (List.mem_of_getElem? (i := 446) (by decide +kernel))) (by decide +kernel)
theorem tw_447 : Cond.code yX6_outermost cX6_outermost 8 (some .int) ∈ TG := TG_in (List.mem_append_right _ (List.mem_of_getElem? (i := 447) (by decide +kernel))) (by decide +kernel)
theorem tw_448 : Cond.methodLink RX6 239 yX6_bitsOfShare ∈ TG := TG_in (List.mem_append_right _ (List.mem_of_getElem? (i := 448) (by decide +kernel))) (by decide +kernel)
theorem tw_449 : Cond.static yX6_bitsOfShare ∈ TG := TG_in (List.mem_append_right _ (List.mem_of_getElem? (i := 449) (by decide +kernel))) (by decide +kernel)
theorem tw_45 : Cond.fieldLink RX6 278 RX5 "rules" "LRunicSticks$Row;" ∈ TG := TG_in (List.mem_append_right _ (List.mem_of_getElem? (i := 45) (by decide +kernel))) (by decide +kernel)
theorem tw_450 : Cond.code yX6_bitsOfShare cX6_bitsOfShare 7 (some .long) ∈ TG := TG_in (List.mem_append_right _ (List.mem_of_getElem? (i := 450) (by decide +kernel))) (by decide +kernel)
theorem tw_451 : Cond.constantLong RX6 313 1023 ∈ TG := TG_in (List.mem_append_right _ (List.mem_of_getElem? (i := 451) (by decide +kernel))) (by decide +kernel)
theorem tw_452 : Cond.constantDouble RX6 315 4611686018427387904 ∈ TG := TG_in (List.mem_append_right _ (List.mem_of_getElem? (i := 452) (by decide +kernel))) (by decide +kernel)
theorem tw_453 : Cond.constantDouble RX6 317 4841369599423283200 ∈ TG := TG_in (List.mem_append_right _ (List.mem_of_getElem? (i := 453) (by decide +kernel))) (by decide +kernel)
theorem tw_46 : Cond.fieldLink RX5 24 RX5 "ranks" "LRunicSticks$Row;" ∈ TG := TG_in (List.mem_append_right _ (List.mem_of_getElem? (i := 46) (by decide +kernel))) (by decide +kernel)
theorem tw_466 : Cond.methodLink RX6 262 yX2_mayEnd ∈ TG := TG_in (List.mem_append_right _ (List.mem_of_getElem? (i := 466) (by decide +kernel))) (by decide +kernel)
theorem tw_467 : Cond.instanceMethod yX2_mayEnd ∈ TG := TG_in (List.mem_append_right _ (List.mem_of_getElem? (i := 467) (by decide +kernel))) (by decide +kernel)
theorem tw_468 : Cond.selects yX2_mayEnd.cls yX2_mayEnd yX2_mayEnd ∈ TG := TG_in (List.mem_append_right _ (List.mem_of_getElem? (i := 468) (by decide +kernel))) (by decide +kernel)
theorem tw_469 : Cond.code yX2_mayEnd cX2_mayEnd 1 (some .boolean) ∈ TG := TG_in (List.mem_append_right _ (List.mem_of_getElem? (i := 469) (by decide +kernel))) (by decide +kernel)
theorem tw_47 : Cond.fieldLink RX6 102 RX5 "ranks" "LRunicSticks$Row;" ∈ TG := TG_in (List.mem_append_right _ (List.mem_of_getElem? (i := 47) (by decide +kernel))) (by decide +kernel)
theorem tw_48 : Cond.fieldLink RX3 91 RX5 "ranks" "LRunicSticks$Row;" ∈ TG := TG_in (List.mem_append_right _ (List.mem_of_getElem? (i := 48) (by decide +kernel))) (by decide +kernel)
theorem tw_49 : Cond.fieldLink RX5 27 RX5 "days" "LRunicSticks$Row;" ∈ TG := TG_in (List.mem_append_right _ (List.mem_of_getElem? (i := 49) (by decide +kernel))) (by decide +kernel)
theorem tw_50 : Cond.fieldLink RX3 73 RX5 "days" "LRunicSticks$Row;" ∈ TG := TG_in (List.mem_append_right _ (List.mem_of_getElem? (i := 50) (by decide +kernel))) (by decide +kernel)
theorem tw_51 : Cond.fieldLink RX6 281 RX5 "days" "LRunicSticks$Row;" ∈ TG := TG_in (List.mem_append_right _ (List.mem_of_getElem? (i := 51) (by decide +kernel))) (by decide +kernel)
theorem tw_52 : Cond.fieldLink RX5 30 RX5 "others" "LRunicSticks$Row;" ∈ TG := TG_in (List.mem_append_right _ (List.mem_of_getElem? (i := 52) (by decide +kernel))) (by decide +kernel)
theorem tw_53 : Cond.fieldLink RX3 75 RX5 "others" "LRunicSticks$Row;" ∈ TG := TG_in (List.mem_append_right _ (List.mem_of_getElem? (i := 53) (by decide +kernel))) (by decide +kernel)
theorem tw_54 : Cond.fieldLink RX6 284 RX5 "others" "LRunicSticks$Row;" ∈ TG := TG_in (List.mem_append_right _ (List.mem_of_getElem? (i := 54) (by decide +kernel))) (by decide +kernel)
theorem tw_542 : Cond.methodLink RX1 25 yX1_stateAt ∈ TG := TG_in (List.mem_append_right _ (List.mem_of_getElem? (i := 542) (by decide +kernel))) (by decide +kernel)
theorem tw_544 : Cond.instanceMethod yX1_stateAt ∈ TG := TG_in (List.mem_append_right _ (List.mem_of_getElem? (i := 544) (by decide +kernel))) (by decide +kernel)
theorem tw_545 : Cond.code yX1_stateAt cX1_stateAt 3 (some (.object "RunicSticks$State")) ∈ TG := TG_in (List.mem_append_right _ (List.mem_of_getElem? (i := 545) (by decide +kernel))) (by decide +kernel)
theorem tw_546 : Cond.methodLink RX1 29 yX5_copyFrom ∈ TG := TG_in (List.mem_append_right _ (List.mem_of_getElem? (i := 546) (by decide +kernel))) (by decide +kernel)
theorem tw_547 : Cond.instanceMethod yX5_copyFrom ∈ TG := TG_in (List.mem_append_right _ (List.mem_of_getElem? (i := 547) (by decide +kernel))) (by decide +kernel)
theorem tw_548 : Cond.selects yX5_copyFrom.cls yX5_copyFrom yX5_copyFrom ∈ TG := TG_in (List.mem_append_right _ (List.mem_of_getElem? (i := 548) (by decide +kernel))) (by decide +kernel)
theorem tw_549 : Cond.code yX5_copyFrom cX5_copyFrom 2 none ∈ TG := TG_in (List.mem_append_right _ (List.mem_of_getElem? (i := 549) (by decide +kernel))) (by decide +kernel)
theorem tw_55 : Cond.fieldLink RX5 33 RX5 "slips" "LRunicSticks$Row;" ∈ TG := TG_in (List.mem_append_right _ (List.mem_of_getElem? (i := 55) (by decide +kernel))) (by decide +kernel)
theorem tw_550 : Cond.methodLink RX5 54 yX4_copyFrom ∈ TG := TG_in (List.mem_append_right _ (List.mem_of_getElem? (i := 550) (by decide +kernel))) (by decide +kernel)
theorem tw_551 : Cond.instanceMethod yX4_copyFrom ∈ TG := TG_in (List.mem_append_right _ (List.mem_of_getElem? (i := 551) (by decide +kernel))) (by decide +kernel)
theorem tw_552 : Cond.selects yX4_copyFrom.cls yX4_copyFrom yX4_copyFrom ∈ TG := TG_in (List.mem_append_right _ (List.mem_of_getElem? (i := 552) (by decide +kernel))) (by decide +kernel)
theorem tw_553 : Cond.code yX4_copyFrom cX4_copyFrom 3 none ∈ TG := TG_in (List.mem_append_right _ (List.mem_of_getElem? (i := 553) (by decide +kernel))) (by decide +kernel)
theorem tw_554 : Cond.methodLink RX4 15 yX4_at ∈ TG := TG_in (List.mem_append_right _ (List.mem_of_getElem? (i := 554) (by decide +kernel))) (by decide +kernel)
theorem tw_559 : Cond.methodLink RX6 265 yX6_addReadFeast ∈ TG := TG_in (List.mem_append_right _ (List.mem_of_getElem? (i := 559) (by decide +kernel))) (by decide +kernel)
theorem tw_56 : Cond.fieldLink RX0 28 RX5 "slips" "LRunicSticks$Row;" ∈ TG := TG_in (List.mem_append_right _ (List.mem_of_getElem? (i := 56) (by decide +kernel))) (by decide +kernel)
theorem tw_561 : Cond.instanceMethod yX6_addReadFeast ∈ TG := TG_in (List.mem_append_right _ (List.mem_of_getElem? (i := 561) (by decide +kernel))) (by decide +kernel)
theorem tw_562 : Cond.code yX6_addReadFeast cX6_addReadFeast 2 (some .boolean) ∈ TG := TG_in (List.mem_append_right _ (List.mem_of_getElem? (i := 562) (by decide +kernel))) (by decide +kernel)
theorem tw_563 : Cond.methodLink RX6 274 yX5_addFeast ∈ TG := TG_in (List.mem_append_right _ (List.mem_of_getElem? (i := 563) (by decide +kernel))) (by decide +kernel)
theorem tw_564 : Cond.instanceMethod yX5_addFeast ∈ TG := TG_in (List.mem_append_right _ (List.mem_of_getElem? (i := 564) (by decide +kernel))) (by decide +kernel)
theorem tw_565 : Cond.selects yX5_addFeast.cls yX5_addFeast yX5_addFeast ∈ TG := TG_in (List.mem_append_right _ (List.mem_of_getElem? (i := 565) (by decide +kernel))) (by decide +kernel)
theorem tw_566 : Cond.code yX5_addFeast cX5_addFeast 2 none ∈ TG := TG_in (List.mem_append_right _ (List.mem_of_getElem? (i := 566) (by decide +kernel))) (by decide +kernel)
theorem tw_567 : Cond.methodLink RX5 63 yX4_put ∈ TG := TG_in (List.mem_append_right _ (List.mem_of_getElem? (i := 567) (by decide +kernel))) (by decide +kernel)
theorem tw_57 : Cond.fieldLink RX6 116 RX5 "slips" "LRunicSticks$Row;" ∈ TG := TG_in (List.mem_append_right _ (List.mem_of_getElem? (i := 57) (by decide +kernel))) (by decide +kernel)
theorem tw_58 : Cond.fieldLink RX5 36 RX5 "moonYears" "I" ∈ TG := TG_in (List.mem_append_right _ (List.mem_of_getElem? (i := 58) (by decide +kernel))) (by decide +kernel)
theorem tw_59 : Cond.fieldLink RX3 37 RX5 "moonYears" "I" ∈ TG := TG_in (List.mem_append_right _ (List.mem_of_getElem? (i := 59) (by decide +kernel))) (by decide +kernel)
theorem tw_60 : Cond.fieldLink RX6 145 RX5 "moonYears" "I" ∈ TG := TG_in (List.mem_append_right _ (List.mem_of_getElem? (i := 60) (by decide +kernel))) (by decide +kernel)
theorem tw_61 : Cond.fieldLink RX5 39 RX5 "sticks" "I" ∈ TG := TG_in (List.mem_append_right _ (List.mem_of_getElem? (i := 61) (by decide +kernel))) (by decide +kernel)
theorem tw_62 : Cond.fieldLink RX6 236 RX5 "sticks" "I" ∈ TG := TG_in (List.mem_append_right _ (List.mem_of_getElem? (i := 62) (by decide +kernel))) (by decide +kernel)
theorem tw_63 : Cond.fieldLink RX5 42 RX5 "stickYears" "LRunicSticks$Row;" ∈ TG := TG_in (List.mem_append_right _ (List.mem_of_getElem? (i := 63) (by decide +kernel))) (by decide +kernel)
theorem tw_64 : Cond.fieldLink RX6 139 RX5 "stickYears" "LRunicSticks$Row;" ∈ TG := TG_in (List.mem_append_right _ (List.mem_of_getElem? (i := 64) (by decide +kernel))) (by decide +kernel)
theorem tw_649 : Cond.methodLink RX5 80 yX5_copyStick ∈ TG := TG_in (List.mem_append_right _ (List.mem_of_getElem? (i := 649) (by decide +kernel))) (by decide +kernel)
theorem tw_65 : Cond.fieldLink RX5 45 RX5 "stickCarvers" "LRunicSticks$Row;" ∈ TG := TG_in (List.mem_append_right _ (List.mem_of_getElem? (i := 65) (by decide +kernel))) (by decide +kernel)
theorem tw_651 : Cond.instanceMethod yX5_copyStick ∈ TG := TG_in (List.mem_append_right _ (List.mem_of_getElem? (i := 651) (by decide +kernel))) (by decide +kernel)
theorem tw_652 : Cond.code yX5_copyStick cX5_copyStick 4 none ∈ TG := TG_in (List.mem_append_right _ (List.mem_of_getElem? (i := 652) (by decide +kernel))) (by decide +kernel)
theorem tw_66 : Cond.fieldLink RX6 287 RX5 "stickCarvers" "LRunicSticks$Row;" ∈ TG := TG_in (List.mem_append_right _ (List.mem_of_getElem? (i := 66) (by decide +kernel))) (by decide +kernel)
theorem tw_67 : Cond.fieldLink RX5 48 RX5 "stickFeasts" "LRunicSticks$Row;" ∈ TG := TG_in (List.mem_append_right _ (List.mem_of_getElem? (i := 67) (by decide +kernel))) (by decide +kernel)
theorem tw_68 : Cond.fieldLink RX6 296 RX5 "stickFeasts" "LRunicSticks$Row;" ∈ TG := TG_in (List.mem_append_right _ (List.mem_of_getElem? (i := 68) (by decide +kernel))) (by decide +kernel)
theorem tw_69 : Cond.fieldLink RX5 51 RX5 "stickNotches" "LRunicSticks$Row;" ∈ TG := TG_in (List.mem_append_right _ (List.mem_of_getElem? (i := 69) (by decide +kernel))) (by decide +kernel)
theorem tw_789 : Cond.fieldLink RX7 38 RX7 "thrown" "I" ∈ TG := TG_in (List.mem_append_right _ (List.mem_of_getElem? (i := 789) (by decide +kernel))) (by decide +kernel)
theorem tw_790 : Cond.fieldLink RX7 7 RX7 "s" "[I" ∈ TG := TG_in (List.mem_append_right _ (List.mem_of_getElem? (i := 790) (by decide +kernel))) (by decide +kernel)
theorem tw_791 : Cond.fieldLink RX7 13 RX7 "saved" "[I" ∈ TG := TG_in (List.mem_append_right _ (List.mem_of_getElem? (i := 791) (by decide +kernel))) (by decide +kernel)
theorem tw_792 : Cond.fieldLink RX7 46 RX7 "savedMany" "I" ∈ TG := TG_in (List.mem_append_right _ (List.mem_of_getElem? (i := 792) (by decide +kernel))) (by decide +kernel)
theorem tw_793 : Cond.fieldLink RX7 16 RX7 "text" "[I" ∈ TG := TG_in (List.mem_append_right _ (List.mem_of_getElem? (i := 793) (by decide +kernel))) (by decide +kernel)
theorem tw_794 : Cond.fieldLink RX7 77 RX7 "length" "I" ∈ TG := TG_in (List.mem_append_right _ (List.mem_of_getElem? (i := 794) (by decide +kernel))) (by decide +kernel)
theorem tw_795 : Cond.fieldLink RX7 19 RX7 "proper" "[I" ∈ TG := TG_in (List.mem_append_right _ (List.mem_of_getElem? (i := 795) (by decide +kernel))) (by decide +kernel)
theorem tw_796 : Cond.fieldLink RX7 22 RX7 "notch" "[I" ∈ TG := TG_in (List.mem_append_right _ (List.mem_of_getElem? (i := 796) (by decide +kernel))) (by decide +kernel)
theorem tw_797 : Cond.fieldLink RX7 25 RX7 "isCut" "[Z" ∈ TG := TG_in (List.mem_append_right _ (List.mem_of_getElem? (i := 797) (by decide +kernel))) (by decide +kernel)
theorem tw_798 : Cond.fieldLink RX7 29 RX7 "notches" "[I" ∈ TG := TG_in (List.mem_append_right _ (List.mem_of_getElem? (i := 798) (by decide +kernel))) (by decide +kernel)
theorem tw_799 : Cond.fieldLink RX7 84 RX7 "at" "I" ∈ TG := TG_in (List.mem_append_right _ (List.mem_of_getElem? (i := 799) (by decide +kernel))) (by decide +kernel)
theorem tw_800 : Cond.fieldLink RX7 87 RX7 "isWrong" "Z" ∈ TG := TG_in (List.mem_append_right _ (List.mem_of_getElem? (i := 800) (by decide +kernel))) (by decide +kernel)
theorem tw_801 : Cond.fieldLink RX7 32 RX7 "told" "[I" ∈ TG := TG_in (List.mem_append_right _ (List.mem_of_getElem? (i := 801) (by decide +kernel))) (by decide +kernel)
theorem tw_802 : Cond.fieldLink RX7 35 RX7 "row" "[I" ∈ TG := TG_in (List.mem_append_right _ (List.mem_of_getElem? (i := 802) (by decide +kernel))) (by decide +kernel)
theorem tw_803 : Cond.fieldLink RX7 203 RX7 "digested" "J" ∈ TG := TG_in (List.mem_append_right _ (List.mem_of_getElem? (i := 803) (by decide +kernel))) (by decide +kernel)
theorem tw_844 : Cond.methodLink RX7 42 yX7_in ∈ TG := TG_in (List.mem_append_right _ (List.mem_of_getElem? (i := 844) (by decide +kernel))) (by decide +kernel)
theorem tw_845 : Cond.static yX7_in ∈ TG := TG_in (List.mem_append_right _ (List.mem_of_getElem? (i := 845) (by decide +kernel))) (by decide +kernel)
theorem tw_846 : Cond.code yX7_in cX7_in 3 (some .boolean) ∈ TG := TG_in (List.mem_append_right _ (List.mem_of_getElem? (i := 846) (by decide +kernel))) (by decide +kernel)
theorem tw_847 : Cond.methodLink RX7 80 yX7_holds ∈ TG := TG_in (List.mem_append_right _ (List.mem_of_getElem? (i := 847) (by decide +kernel))) (by decide +kernel)
theorem tw_849 : Cond.instanceMethod yX7_holds ∈ TG := TG_in (List.mem_append_right _ (List.mem_of_getElem? (i := 849) (by decide +kernel))) (by decide +kernel)
theorem tw_850 : Cond.code yX7_holds cX7_holds 2 (some .boolean) ∈ TG := TG_in (List.mem_append_right _ (List.mem_of_getElem? (i := 850) (by decide +kernel))) (by decide +kernel)
theorem tw_859 : Cond.methodLink RX7 107 yX7_go ∈ TG := TG_in (List.mem_append_right _ (List.mem_of_getElem? (i := 859) (by decide +kernel))) (by decide +kernel)
theorem tw_861 : Cond.instanceMethod yX7_go ∈ TG := TG_in (List.mem_append_right _ (List.mem_of_getElem? (i := 861) (by decide +kernel))) (by decide +kernel)
theorem tw_862 : Cond.code yX7_go cX7_go 6 (some .int) ∈ TG := TG_in (List.mem_append_right _ (List.mem_of_getElem? (i := 862) (by decide +kernel))) (by decide +kernel)
theorem tw_863 : Cond.methodLink RX7 100 yX7_read ∈ TG := TG_in (List.mem_append_right _ (List.mem_of_getElem? (i := 863) (by decide +kernel))) (by decide +kernel)
theorem tw_865 : Cond.instanceMethod yX7_read ∈ TG := TG_in (List.mem_append_right _ (List.mem_of_getElem? (i := 865) (by decide +kernel))) (by decide +kernel)
theorem tw_866 : Cond.code yX7_read cX7_read 4 none ∈ TG := TG_in (List.mem_append_right _ (List.mem_of_getElem? (i := 866) (by decide +kernel))) (by decide +kernel)
theorem tw_867 : Cond.methodLink RX7 91 yX7_sign ∈ TG := TG_in (List.mem_append_right _ (List.mem_of_getElem? (i := 867) (by decide +kernel))) (by decide +kernel)
theorem tw_869 : Cond.instanceMethod yX7_sign ∈ TG := TG_in (List.mem_append_right _ (List.mem_of_getElem? (i := 869) (by decide +kernel))) (by decide +kernel)
theorem tw_870 : Cond.code yX7_sign cX7_sign 4 (some .int) ∈ TG := TG_in (List.mem_append_right _ (List.mem_of_getElem? (i := 870) (by decide +kernel))) (by decide +kernel)
theorem tw_871 : Cond.methodLink RX7 94 yX7_isNext ∈ TG := TG_in (List.mem_append_right _ (List.mem_of_getElem? (i := 871) (by decide +kernel))) (by decide +kernel)
theorem tw_873 : Cond.instanceMethod yX7_isNext ∈ TG := TG_in (List.mem_append_right _ (List.mem_of_getElem? (i := 873) (by decide +kernel))) (by decide +kernel)
theorem tw_874 : Cond.code yX7_isNext cX7_isNext 2 (some .boolean) ∈ TG := TG_in (List.mem_append_right _ (List.mem_of_getElem? (i := 874) (by decide +kernel))) (by decide +kernel)
theorem tw_875 : Cond.methodLink RX7 97 yX7_number ∈ TG := TG_in (List.mem_append_right _ (List.mem_of_getElem? (i := 875) (by decide +kernel))) (by decide +kernel)
theorem tw_877 : Cond.instanceMethod yX7_number ∈ TG := TG_in (List.mem_append_right _ (List.mem_of_getElem? (i := 877) (by decide +kernel))) (by decide +kernel)
theorem tw_878 : Cond.code yX7_number cX7_number 3 (some .int) ∈ TG := TG_in (List.mem_append_right _ (List.mem_of_getElem? (i := 878) (by decide +kernel))) (by decide +kernel)
theorem tw_879 : Cond.methodLink RX7 103 yX7_adds ∈ TG := TG_in (List.mem_append_right _ (List.mem_of_getElem? (i := 879) (by decide +kernel))) (by decide +kernel)
theorem tw_881 : Cond.instanceMethod yX7_adds ∈ TG := TG_in (List.mem_append_right _ (List.mem_of_getElem? (i := 881) (by decide +kernel))) (by decide +kernel)
theorem tw_882 : Cond.code yX7_adds cX7_adds 4 (some .boolean) ∈ TG := TG_in (List.mem_append_right _ (List.mem_of_getElem? (i := 882) (by decide +kernel))) (by decide +kernel)
theorem tw_883 : Cond.methodLink RX7 61 yX7_of ∈ TG := TG_in (List.mem_append_right _ (List.mem_of_getElem? (i := 883) (by decide +kernel))) (by decide +kernel)
theorem tw_884 : Cond.static yX7_of ∈ TG := TG_in (List.mem_append_right _ (List.mem_of_getElem? (i := 884) (by decide +kernel))) (by decide +kernel)
theorem tw_885 : Cond.code yX7_of cX7_of 2 (some .int) ∈ TG := TG_in (List.mem_append_right _ (List.mem_of_getElem? (i := 885) (by decide +kernel))) (by decide +kernel)
theorem tw_890 : Cond.methodLink RX7 111 yX7_save ∈ TG := TG_in (List.mem_append_right _ (List.mem_of_getElem? (i := 890) (by decide +kernel))) (by decide +kernel)
theorem tw_892 : Cond.instanceMethod yX7_save ∈ TG := TG_in (List.mem_append_right _ (List.mem_of_getElem? (i := 892) (by decide +kernel))) (by decide +kernel)
theorem tw_893 : Cond.code yX7_save cX7_save 2 none ∈ TG := TG_in (List.mem_append_right _ (List.mem_of_getElem? (i := 893) (by decide +kernel))) (by decide +kernel)
theorem tw_902 : Cond.methodLink RX7 114 yX7_isFeast ∈ TG := TG_in (List.mem_append_right _ (List.mem_of_getElem? (i := 902) (by decide +kernel))) (by decide +kernel)
theorem tw_904 : Cond.instanceMethod yX7_isFeast ∈ TG := TG_in (List.mem_append_right _ (List.mem_of_getElem? (i := 904) (by decide +kernel))) (by decide +kernel)
theorem tw_905 : Cond.code yX7_isFeast cX7_isFeast 2 (some .boolean) ∈ TG := TG_in (List.mem_append_right _ (List.mem_of_getElem? (i := 905) (by decide +kernel))) (by decide +kernel)
theorem tw_906 : Cond.methodLink RX7 117 yX7_puts ∈ TG := TG_in (List.mem_append_right _ (List.mem_of_getElem? (i := 906) (by decide +kernel))) (by decide +kernel)
theorem tw_908 : Cond.instanceMethod yX7_puts ∈ TG := TG_in (List.mem_append_right _ (List.mem_of_getElem? (i := 908) (by decide +kernel))) (by decide +kernel)
theorem tw_909 : Cond.code yX7_puts cX7_puts 4 (some .int) ∈ TG := TG_in (List.mem_append_right _ (List.mem_of_getElem? (i := 909) (by decide +kernel))) (by decide +kernel)
theorem tw_914 : Cond.methodLink RX7 120 yX7_isCarver ∈ TG := TG_in (List.mem_append_right _ (List.mem_of_getElem? (i := 914) (by decide +kernel))) (by decide +kernel)
theorem tw_915 : Cond.static yX7_isCarver ∈ TG := TG_in (List.mem_append_right _ (List.mem_of_getElem? (i := 915) (by decide +kernel))) (by decide +kernel)
theorem tw_916 : Cond.code yX7_isCarver cX7_isCarver 1 (some .boolean) ∈ TG := TG_in (List.mem_append_right _ (List.mem_of_getElem? (i := 916) (by decide +kernel))) (by decide +kernel)
theorem tw_925 : Cond.methodLink RX7 123 yX7_isYear ∈ TG := TG_in (List.mem_append_right _ (List.mem_of_getElem? (i := 925) (by decide +kernel))) (by decide +kernel)
theorem tw_926 : Cond.static yX7_isYear ∈ TG := TG_in (List.mem_append_right _ (List.mem_of_getElem? (i := 926) (by decide +kernel))) (by decide +kernel)
theorem tw_927 : Cond.code yX7_isYear cX7_isYear 1 (some .boolean) ∈ TG := TG_in (List.mem_append_right _ (List.mem_of_getElem? (i := 927) (by decide +kernel))) (by decide +kernel)
theorem tw_928 : Cond.methodLink RX7 74 yX7_lay ∈ TG := TG_in (List.mem_append_right _ (List.mem_of_getElem? (i := 928) (by decide +kernel))) (by decide +kernel)
theorem tw_930 : Cond.instanceMethod yX7_lay ∈ TG := TG_in (List.mem_append_right _ (List.mem_of_getElem? (i := 930) (by decide +kernel))) (by decide +kernel)
theorem tw_931 : Cond.code yX7_lay cX7_lay 6 none ∈ TG := TG_in (List.mem_append_right _ (List.mem_of_getElem? (i := 931) (by decide +kernel))) (by decide +kernel)
theorem tw_932 : Cond.methodLink RX7 70 yX7_findProper ∈ TG := TG_in (List.mem_append_right _ (List.mem_of_getElem? (i := 932) (by decide +kernel))) (by decide +kernel)
theorem tw_934 : Cond.instanceMethod yX7_findProper ∈ TG := TG_in (List.mem_append_right _ (List.mem_of_getElem? (i := 934) (by decide +kernel))) (by decide +kernel)
theorem tw_935 : Cond.code yX7_findProper cX7_findProper 10 none ∈ TG := TG_in (List.mem_append_right _ (List.mem_of_getElem? (i := 935) (by decide +kernel))) (by decide +kernel)
theorem tw_936 : Cond.methodLink RX7 64 yX7_firstFull ∈ TG := TG_in (List.mem_append_right _ (List.mem_of_getElem? (i := 936) (by decide +kernel))) (by decide +kernel)
theorem tw_938 : Cond.instanceMethod yX7_firstFull ∈ TG := TG_in (List.mem_append_right _ (List.mem_of_getElem? (i := 938) (by decide +kernel))) (by decide +kernel)
theorem tw_939 : Cond.code yX7_firstFull cX7_firstFull 5 (some .int) ∈ TG := TG_in (List.mem_append_right _ (List.mem_of_getElem? (i := 939) (by decide +kernel))) (by decide +kernel)
theorem tw_940 : Cond.methodLink RX7 49 yX7_daysOf ∈ TG := TG_in (List.mem_append_right _ (List.mem_of_getElem? (i := 940) (by decide +kernel))) (by decide +kernel)
theorem tw_941 : Cond.static yX7_daysOf ∈ TG := TG_in (List.mem_append_right _ (List.mem_of_getElem? (i := 941) (by decide +kernel))) (by decide +kernel)
theorem tw_942 : Cond.code yX7_daysOf cX7_daysOf 1 (some .int) ∈ TG := TG_in (List.mem_append_right _ (List.mem_of_getElem? (i := 942) (by decide +kernel))) (by decide +kernel)
theorem tw_943 : Cond.methodLink RX7 57 yX7_age ∈ TG := TG_in (List.mem_append_right _ (List.mem_of_getElem? (i := 943) (by decide +kernel))) (by decide +kernel)
theorem tw_945 : Cond.instanceMethod yX7_age ∈ TG := TG_in (List.mem_append_right _ (List.mem_of_getElem? (i := 945) (by decide +kernel))) (by decide +kernel)
theorem tw_946 : Cond.code yX7_age cX7_age 4 (some .int) ∈ TG := TG_in (List.mem_append_right _ (List.mem_of_getElem? (i := 946) (by decide +kernel))) (by decide +kernel)
theorem tw_947 : Cond.methodLink RX7 67 yX7_firstWeekday ∈ TG := TG_in (List.mem_append_right _ (List.mem_of_getElem? (i := 947) (by decide +kernel))) (by decide +kernel)
theorem tw_948 : Cond.static yX7_firstWeekday ∈ TG := TG_in (List.mem_append_right _ (List.mem_of_getElem? (i := 948) (by decide +kernel))) (by decide +kernel)
theorem tw_949 : Cond.code yX7_firstWeekday cX7_firstWeekday 4 (some .int) ∈ TG := TG_in (List.mem_append_right _ (List.mem_of_getElem? (i := 949) (by decide +kernel))) (by decide +kernel)
theorem tw_950 : Cond.methodLink RX7 53 yX7_weekday ∈ TG := TG_in (List.mem_append_right _ (List.mem_of_getElem? (i := 950) (by decide +kernel))) (by decide +kernel)
theorem tw_951 : Cond.static yX7_weekday ∈ TG := TG_in (List.mem_append_right _ (List.mem_of_getElem? (i := 951) (by decide +kernel))) (by decide +kernel)
theorem tw_952 : Cond.code yX7_weekday cX7_weekday 2 (some .int) ∈ TG := TG_in (List.mem_append_right _ (List.mem_of_getElem? (i := 952) (by decide +kernel))) (by decide +kernel)
theorem tw_957 : Cond.methodLink RX7 126 yX7_isStick ∈ TG := TG_in (List.mem_append_right _ (List.mem_of_getElem? (i := 957) (by decide +kernel))) (by decide +kernel)
theorem tw_959 : Cond.instanceMethod yX7_isStick ∈ TG := TG_in (List.mem_append_right _ (List.mem_of_getElem? (i := 959) (by decide +kernel))) (by decide +kernel)
theorem tw_960 : Cond.code yX7_isStick cX7_isStick 2 (some .boolean) ∈ TG := TG_in (List.mem_append_right _ (List.mem_of_getElem? (i := 960) (by decide +kernel))) (by decide +kernel)
theorem tw_961 : Cond.methodLink RX7 129 yX7_ofStick ∈ TG := TG_in (List.mem_append_right _ (List.mem_of_getElem? (i := 961) (by decide +kernel))) (by decide +kernel)
theorem tw_962 : Cond.static yX7_ofStick ∈ TG := TG_in (List.mem_append_right _ (List.mem_of_getElem? (i := 962) (by decide +kernel))) (by decide +kernel)
theorem tw_963 : Cond.code yX7_ofStick cX7_ofStick 2 (some .int) ∈ TG := TG_in (List.mem_append_right _ (List.mem_of_getElem? (i := 963) (by decide +kernel))) (by decide +kernel)
theorem tw_972 : Cond.methodLink RX7 142 yX7_aboutDay ∈ TG := TG_in (List.mem_append_right _ (List.mem_of_getElem? (i := 972) (by decide +kernel))) (by decide +kernel)
theorem tw_974 : Cond.instanceMethod yX7_aboutDay ∈ TG := TG_in (List.mem_append_right _ (List.mem_of_getElem? (i := 974) (by decide +kernel))) (by decide +kernel)
theorem tw_975 : Cond.code yX7_aboutDay cX7_aboutDay 4 (some .int) ∈ TG := TG_in (List.mem_append_right _ (List.mem_of_getElem? (i := 975) (by decide +kernel))) (by decide +kernel)
theorem tw_976 : Cond.methodLink RX7 139 yX7_feastOn ∈ TG := TG_in (List.mem_append_right _ (List.mem_of_getElem? (i := 976) (by decide +kernel))) (by decide +kernel)
theorem tw_978 : Cond.instanceMethod yX7_feastOn ∈ TG := TG_in (List.mem_append_right _ (List.mem_of_getElem? (i := 978) (by decide +kernel))) (by decide +kernel)
theorem tw_979 : Cond.code yX7_feastOn cX7_feastOn 4 (some .int) ∈ TG := TG_in (List.mem_append_right _ (List.mem_of_getElem? (i := 979) (by decide +kernel))) (by decide +kernel)
theorem tw_980 : Cond.methodLink RX7 132 yX7_layAll ∈ TG := TG_in (List.mem_append_right _ (List.mem_of_getElem? (i := 980) (by decide +kernel))) (by decide +kernel)
theorem tw_982 : Cond.instanceMethod yX7_layAll ∈ TG := TG_in (List.mem_append_right _ (List.mem_of_getElem? (i := 982) (by decide +kernel))) (by decide +kernel)
theorem tw_983 : Cond.code yX7_layAll cX7_layAll 4 none ∈ TG := TG_in (List.mem_append_right _ (List.mem_of_getElem? (i := 983) (by decide +kernel))) (by decide +kernel)
theorem tw_984 : Cond.methodLink RX7 136 yX7_settledBy ∈ TG := TG_in (List.mem_append_right _ (List.mem_of_getElem? (i := 984) (by decide +kernel))) (by decide +kernel)
theorem tw_986 : Cond.instanceMethod yX7_settledBy ∈ TG := TG_in (List.mem_append_right _ (List.mem_of_getElem? (i := 986) (by decide +kernel))) (by decide +kernel)
theorem tw_987 : Cond.code yX7_settledBy cX7_settledBy 2 (some .int) ∈ TG := TG_in (List.mem_append_right _ (List.mem_of_getElem? (i := 987) (by decide +kernel))) (by decide +kernel)
theorem tw_992 : Cond.methodLink RX7 145 yX7_ofFeast ∈ TG := TG_in (List.mem_append_right _ (List.mem_of_getElem? (i := 992) (by decide +kernel))) (by decide +kernel)
theorem tw_994 : Cond.instanceMethod yX7_ofFeast ∈ TG := TG_in (List.mem_append_right _ (List.mem_of_getElem? (i := 994) (by decide +kernel))) (by decide +kernel)
theorem tw_995 : Cond.code yX7_ofFeast cX7_ofFeast 4 (some .int) ∈ TG := TG_in (List.mem_append_right _ (List.mem_of_getElem? (i := 995) (by decide +kernel))) (by decide +kernel)
theorem kA_0 : kd 0 = 6 := by decide +kernel
theorem kA_1 : kd 1 = 5 := by decide +kernel
theorem kA_10 : kd 10 = 4 := by decide +kernel
theorem kA_12 : kd 12 = 4 := by decide +kernel
theorem kA_136 : kd 136 = 4 := by decide +kernel
theorem kA_138 : kd 138 = 2 := by decide +kernel
theorem kA_139 : kd 139 = 3 := by decide +kernel
theorem kA_14 : kd 14 = 4 := by decide +kernel
theorem kA_142 : kd 142 = 4 := by decide +kernel
theorem kA_144 : kd 144 = 0 := by decide +kernel
theorem kA_16 : kd 16 = 4 := by decide +kernel
theorem kA_160 : kd 160 = 0 := by decide +kernel
theorem kA_176 : kd 176 = 12 := by decide +kernel
theorem kA_2 : kd 2 = 4 := by decide +kernel
theorem kA_20 : kd 20 = 1 := by decide +kernel
theorem kA_21 : kd 21 = 11 := by decide +kernel
theorem kA_225 : kd 225 = 7 := by decide +kernel
theorem kA_226 : kd 226 = 8 := by decide +kernel
theorem kA_227 : kd 227 = 8 := by decide +kernel
theorem kA_228 : kd 228 = 8 := by decide +kernel
theorem kA_229 : kd 229 = 8 := by decide +kernel
theorem kA_230 : kd 230 = 8 := by decide +kernel
theorem kA_231 : kd 231 = 9 := by decide +kernel
theorem kA_232 : kd 232 = 8 := by decide +kernel
theorem kA_233 : kd 233 = 8 := by decide +kernel
theorem kA_234 : kd 234 = 8 := by decide +kernel
theorem kA_4 : kd 4 = 4 := by decide +kernel
theorem kA_6 : kd 6 = 4 := by decide +kernel
theorem kA_8 : kd 8 = 4 := by decide +kernel
theorem aA_176 : aln 176 = 3 := by decide +kernel
theorem aA_21 : aln 21 = 6 := by decide +kernel
theorem aA_226 : aln 226 = 111 := by decide +kernel
theorem aA_227 : aln 227 = 666 := by decide +kernel
theorem aA_228 : aln 228 = 60 := by decide +kernel
theorem aA_229 : aln 229 = 10 := by decide +kernel
theorem aA_230 : aln 230 = 10 := by decide +kernel
theorem aA_231 : aln 231 = 366 := by decide +kernel
theorem aA_232 : aln 232 = 30 := by decide +kernel
theorem aA_233 : aln 233 = 4 := by decide +kernel
theorem aA_234 : aln 234 = 10 := by decide +kernel
theorem kR0_1 {c : Nat} (h : kd c = 0) : kd (c + 1) = 3 := (by decide +kernel : ∀ c, c < NC → kd c = 0 → kd (c + 1) = 3) c (kd_lt h (by decide)) h
theorem kR0_6 {c : Nat} (h : kd c = 0) : kd (c + 6) = 3 := (by decide +kernel : ∀ c, c < NC → kd c = 0 → kd (c + 6) = 3) c (kd_lt h (by decide)) h
theorem kR0_11 {c : Nat} (h : kd c = 0) : kd (c + 11) = 3 := (by decide +kernel : ∀ c, c < NC → kd c = 0 → kd (c + 11) = 3) c (kd_lt h (by decide)) h
theorem kR1_1 {c : Nat} (h : kd c = 1) : kd (c + 1) = 11 := (by decide +kernel : ∀ c, c < NC → kd c = 1 → kd (c + 1) = 11) c (kd_lt h (by decide)) h
theorem kR3_1 {c : Nat} (h : kd c = 3) : kd (c + 1) = 4 := (by decide +kernel : ∀ c, c < NC → kd c = 3 → kd (c + 1) = 4) c (kd_lt h (by decide)) h
theorem kR3_3 {c : Nat} (h : kd c = 3) : kd (c + 3) = 4 := (by decide +kernel : ∀ c, c < NC → kd c = 3 → kd (c + 3) = 4) c (kd_lt h (by decide)) h
theorem kR4_1 {c : Nat} (h : kd c = 4) : kd (c + 1) = 8 := (by decide +kernel : ∀ c, c < NC → kd c = 4 → kd (c + 1) = 8) c (kd_lt h (by decide)) h
theorem kR5_1 {c : Nat} (h : kd c = 5) : kd (c + 1) = 4 := (by decide +kernel : ∀ c, c < NC → kd c = 5 → kd (c + 1) = 4) c (kd_lt h (by decide)) h
theorem kR5_3 {c : Nat} (h : kd c = 5) : kd (c + 3) = 4 := (by decide +kernel : ∀ c, c < NC → kd c = 5 → kd (c + 3) = 4) c (kd_lt h (by decide)) h
theorem kR5_5 {c : Nat} (h : kd c = 5) : kd (c + 5) = 4 := (by decide +kernel : ∀ c, c < NC → kd c = 5 → kd (c + 5) = 4) c (kd_lt h (by decide)) h
theorem kR5_7 {c : Nat} (h : kd c = 5) : kd (c + 7) = 4 := (by decide +kernel : ∀ c, c < NC → kd c = 5 → kd (c + 7) = 4) c (kd_lt h (by decide)) h
theorem kR5_9 {c : Nat} (h : kd c = 5) : kd (c + 9) = 4 := (by decide +kernel : ∀ c, c < NC → kd c = 5 → kd (c + 9) = 4) c (kd_lt h (by decide)) h
theorem kR5_11 {c : Nat} (h : kd c = 5) : kd (c + 11) = 4 := (by decide +kernel : ∀ c, c < NC → kd c = 5 → kd (c + 11) = 4) c (kd_lt h (by decide)) h
theorem kR5_13 {c : Nat} (h : kd c = 5) : kd (c + 13) = 4 := (by decide +kernel : ∀ c, c < NC → kd c = 5 → kd (c + 13) = 4) c (kd_lt h (by decide)) h
theorem kR5_15 {c : Nat} (h : kd c = 5) : kd (c + 15) = 4 := (by decide +kernel : ∀ c, c < NC → kd c = 5 → kd (c + 15) = 4) c (kd_lt h (by decide)) h
theorem kR5_17 {c : Nat} (h : kd c = 5) : kd (c + 17) = 4 := (by decide +kernel : ∀ c, c < NC → kd c = 5 → kd (c + 17) = 4) c (kd_lt h (by decide)) h
theorem inT0 : ∀ w ∈ u_ws RX0 TX0 3, w ∈ TG := fun w hw => TG_in ((by decide +kernel : ∀ w ∈ u_ws RX0 TX0 3, w ∈ lw_tbl) w hw) ((by decide +kernel : ∀ w ∈ u_ws RX0 TX0 3, goodWord w = true) w hw)
theorem inT1 : ∀ w ∈ u_ws RX1 TX1 3, w ∈ TG := fun w hw => TG_in ((by decide +kernel : ∀ w ∈ u_ws RX1 TX1 3, w ∈ lw_tbl) w hw) ((by decide +kernel : ∀ w ∈ u_ws RX1 TX1 3, goodWord w = true) w hw)
theorem inT2 : ∀ w ∈ u_ws RX2 TX2 6, w ∈ TG := fun w hw => TG_in ((by decide +kernel : ∀ w ∈ u_ws RX2 TX2 6, w ∈ lw_tbl) w hw) ((by decide +kernel : ∀ w ∈ u_ws RX2 TX2 6, goodWord w = true) w hw)
theorem inT3 : ∀ w ∈ u_ws RX3 TX3 5, w ∈ TG := fun w hw => TG_in ((by decide +kernel : ∀ w ∈ u_ws RX3 TX3 5, w ∈ lw_tbl) w hw) ((by decide +kernel : ∀ w ∈ u_ws RX3 TX3 5, goodWord w = true) w hw)
theorem inT4 : ∀ w ∈ u_ws RX4 TX4 1, w ∈ TG := fun w hw => TG_in ((by decide +kernel : ∀ w ∈ u_ws RX4 TX4 1, w ∈ lw_tbl) w hw) ((by decide +kernel : ∀ w ∈ u_ws RX4 TX4 1, goodWord w = true) w hw)
theorem inT5 : ∀ w ∈ u_ws RX5 TX5 12, w ∈ TG := fun w hw => TG_in ((by decide +kernel : ∀ w ∈ u_ws RX5 TX5 12, w ∈ lw_tbl) w hw) ((by decide +kernel : ∀ w ∈ u_ws RX5 TX5 12, goodWord w = true) w hw)
theorem inT6 : ∀ w ∈ u_ws RX6 TX6 9, w ∈ TG := fun w hw => TG_in ((by decide +kernel : ∀ w ∈ u_ws RX6 TX6 9, w ∈ lw_tbl) w hw) ((by decide +kernel : ∀ w ∈ u_ws RX6 TX6 9, goodWord w = true) w hw)
theorem inT7 : ∀ w ∈ u_ws RX7 TX7 15, w ∈ TG := fun w hw => TG_in ((by decide +kernel : ∀ w ∈ u_ws RX7 TX7 15, w ∈ lw_tbl) w hw) ((by decide +kernel : ∀ w ∈ u_ws RX7 TX7 15, goodWord w = true) w hw)
theorem hd_X0_by : yX0_by.cls ≠ "java/lang/invoke/MethodHandle" ∧ yX0_by.cls ≠ "java/lang/invoke/VarHandle" ∧ (parseMethodDescriptor yX0_by.desc).map (fun d => d.parameters.length) = some 1 := by decide +kernel
theorem hd_X0_gather : yX0_gather.cls ≠ "java/lang/invoke/MethodHandle" ∧ yX0_gather.cls ≠ "java/lang/invoke/VarHandle" ∧ (parseMethodDescriptor yX0_gather.desc).map (fun d => d.parameters.length) = some 2 := by decide +kernel
theorem hd_X0_quarrelCount : yX0_quarrelCount.cls ≠ "java/lang/invoke/MethodHandle" ∧ yX0_quarrelCount.cls ≠ "java/lang/invoke/VarHandle" ∧ (parseMethodDescriptor yX0_quarrelCount.desc).map (fun d => d.parameters.length) = some 1 := by decide +kernel
theorem hd_X0_settledNotch : yX0_settledNotch.cls ≠ "java/lang/invoke/MethodHandle" ∧ yX0_settledNotch.cls ≠ "java/lang/invoke/VarHandle" ∧ (parseMethodDescriptor yX0_settledNotch.desc).map (fun d => d.parameters.length) = some 1 := by decide +kernel
theorem hd_X0_settlesLike : yX0_settlesLike.cls ≠ "java/lang/invoke/MethodHandle" ∧ yX0_settlesLike.cls ≠ "java/lang/invoke/VarHandle" ∧ (parseMethodDescriptor yX0_settlesLike.desc).map (fun d => d.parameters.length) = some 2 := by decide +kernel
theorem hd_X1_size : yX1_size.cls ≠ "java/lang/invoke/MethodHandle" ∧ yX1_size.cls ≠ "java/lang/invoke/VarHandle" ∧ (parseMethodDescriptor yX1_size.desc).map (fun d => d.parameters.length) = some 0 := by decide +kernel
theorem hd_X1_stateAt : yX1_stateAt.cls ≠ "java/lang/invoke/MethodHandle" ∧ yX1_stateAt.cls ≠ "java/lang/invoke/VarHandle" ∧ (parseMethodDescriptor yX1_stateAt.desc).map (fun d => d.parameters.length) = some 1 := by decide +kernel
theorem hd_X2_hasWeekday : yX2_hasWeekday.cls ≠ "java/lang/invoke/MethodHandle" ∧ yX2_hasWeekday.cls ≠ "java/lang/invoke/VarHandle" ∧ (parseMethodDescriptor yX2_hasWeekday.desc).map (fun d => d.parameters.length) = some 0 := by decide +kernel
theorem hd_X2_isDigit : yX2_isDigit.cls ≠ "java/lang/invoke/MethodHandle" ∧ yX2_isDigit.cls ≠ "java/lang/invoke/VarHandle" ∧ (parseMethodDescriptor yX2_isDigit.desc).map (fun d => d.parameters.length) = some 1 := by decide +kernel
theorem hd_X2_mayEnd : yX2_mayEnd.cls ≠ "java/lang/invoke/MethodHandle" ∧ yX2_mayEnd.cls ≠ "java/lang/invoke/VarHandle" ∧ (parseMethodDescriptor yX2_mayEnd.desc).map (fun d => d.parameters.length) = some 0 := by decide +kernel
theorem hd_X2_reads : yX2_reads.cls ≠ "java/lang/invoke/MethodHandle" ∧ yX2_reads.cls ≠ "java/lang/invoke/VarHandle" ∧ (parseMethodDescriptor yX2_reads.desc).map (fun d => d.parameters.length) = some 1 := by decide +kernel
theorem hd_X2_readsBehindRule : yX2_readsBehindRule.cls ≠ "java/lang/invoke/MethodHandle" ∧ yX2_readsBehindRule.cls ≠ "java/lang/invoke/VarHandle" ∧ (parseMethodDescriptor yX2_readsBehindRule.desc).map (fun d => d.parameters.length) = some 1 := by decide +kernel
theorem hd_X2_readsComma : yX2_readsComma.cls ≠ "java/lang/invoke/MethodHandle" ∧ yX2_readsComma.cls ≠ "java/lang/invoke/VarHandle" ∧ (parseMethodDescriptor yX2_readsComma.desc).map (fun d => d.parameters.length) = some 1 := by decide +kernel
theorem hd_X2_readsFirstDigit : yX2_readsFirstDigit.cls ≠ "java/lang/invoke/MethodHandle" ∧ yX2_readsFirstDigit.cls ≠ "java/lang/invoke/VarHandle" ∧ (parseMethodDescriptor yX2_readsFirstDigit.desc).map (fun d => d.parameters.length) = some 1 := by decide +kernel
theorem hd_X2_readsNextDigit : yX2_readsNextDigit.cls ≠ "java/lang/invoke/MethodHandle" ∧ yX2_readsNextDigit.cls ≠ "java/lang/invoke/VarHandle" ∧ (parseMethodDescriptor yX2_readsNextDigit.desc).map (fun d => d.parameters.length) = some 1 := by decide +kernel
theorem hd_X2_readsOther : yX2_readsOther.cls ≠ "java/lang/invoke/MethodHandle" ∧ yX2_readsOther.cls ≠ "java/lang/invoke/VarHandle" ∧ (parseMethodDescriptor yX2_readsOther.desc).map (fun d => d.parameters.length) = some 3 := by decide +kernel
theorem hd_X2_readsRank : yX2_readsRank.cls ≠ "java/lang/invoke/MethodHandle" ∧ yX2_readsRank.cls ≠ "java/lang/invoke/VarHandle" ∧ (parseMethodDescriptor yX2_readsRank.desc).map (fun d => d.parameters.length) = some 1 := by decide +kernel
theorem hd_X2_readsRule : yX2_readsRule.cls ≠ "java/lang/invoke/MethodHandle" ∧ yX2_readsRule.cls ≠ "java/lang/invoke/VarHandle" ∧ (parseMethodDescriptor yX2_readsRule.desc).map (fun d => d.parameters.length) = some 1 := by decide +kernel
theorem hd_X2_readsSeparator : yX2_readsSeparator.cls ≠ "java/lang/invoke/MethodHandle" ∧ yX2_readsSeparator.cls ≠ "java/lang/invoke/VarHandle" ∧ (parseMethodDescriptor yX2_readsSeparator.desc).map (fun d => d.parameters.length) = some 1 := by decide +kernel
theorem hd_X2_readsSign : yX2_readsSign.cls ≠ "java/lang/invoke/MethodHandle" ∧ yX2_readsSign.cls ≠ "java/lang/invoke/VarHandle" ∧ (parseMethodDescriptor yX2_readsSign.desc).map (fun d => d.parameters.length) = some 1 := by decide +kernel
theorem hd_X2_start : yX2_start.cls ≠ "java/lang/invoke/MethodHandle" ∧ yX2_start.cls ≠ "java/lang/invoke/VarHandle" ∧ (parseMethodDescriptor yX2_start.desc).map (fun d => d.parameters.length) = some 0 := by decide +kernel
theorem hd_X3_cutNotches : yX3_cutNotches.cls ≠ "java/lang/invoke/MethodHandle" ∧ yX3_cutNotches.cls ≠ "java/lang/invoke/VarHandle" ∧ (parseMethodDescriptor yX3_cutNotches.desc).map (fun d => d.parameters.length) = some 2 := by decide +kernel
theorem hd_X3_dayByRule : yX3_dayByRule.cls ≠ "java/lang/invoke/MethodHandle" ∧ yX3_dayByRule.cls ≠ "java/lang/invoke/VarHandle" ∧ (parseMethodDescriptor yX3_dayByRule.desc).map (fun d => d.parameters.length) = some 2 := by decide +kernel
theorem hd_X3_hasNotch : yX3_hasNotch.cls ≠ "java/lang/invoke/MethodHandle" ∧ yX3_hasNotch.cls ≠ "java/lang/invoke/VarHandle" ∧ (parseMethodDescriptor yX3_hasNotch.desc).map (fun d => d.parameters.length) = some 2 := by decide +kernel
theorem hd_X3_movedCount : yX3_movedCount.cls ≠ "java/lang/invoke/MethodHandle" ∧ yX3_movedCount.cls ≠ "java/lang/invoke/VarHandle" ∧ (parseMethodDescriptor yX3_movedCount.desc).map (fun d => d.parameters.length) = some 1 := by decide +kernel
theorem hd_X3_orNone : yX3_orNone.cls ≠ "java/lang/invoke/MethodHandle" ∧ yX3_orNone.cls ≠ "java/lang/invoke/VarHandle" ∧ (parseMethodDescriptor yX3_orNone.desc).map (fun d => d.parameters.length) = some 1 := by decide +kernel
theorem hd_X3_reckon : yX3_reckon.cls ≠ "java/lang/invoke/MethodHandle" ∧ yX3_reckon.cls ≠ "java/lang/invoke/VarHandle" ∧ (parseMethodDescriptor yX3_reckon.desc).map (fun d => d.parameters.length) = some 3 := by decide +kernel
theorem hd_X3_weekdayFrom : yX3_weekdayFrom.cls ≠ "java/lang/invoke/MethodHandle" ∧ yX3_weekdayFrom.cls ≠ "java/lang/invoke/VarHandle" ∧ (parseMethodDescriptor yX3_weekdayFrom.desc).map (fun d => d.parameters.length) = some 2 := by decide +kernel
theorem hd_X3_weekdayPastMoon : yX3_weekdayPastMoon.cls ≠ "java/lang/invoke/MethodHandle" ∧ yX3_weekdayPastMoon.cls ≠ "java/lang/invoke/VarHandle" ∧ (parseMethodDescriptor yX3_weekdayPastMoon.desc).map (fun d => d.parameters.length) = some 2 := by decide +kernel
theorem hd_X4_at : yX4_at.cls ≠ "java/lang/invoke/MethodHandle" ∧ yX4_at.cls ≠ "java/lang/invoke/VarHandle" ∧ (parseMethodDescriptor yX4_at.desc).map (fun d => d.parameters.length) = some 1 := by decide +kernel
theorem hd_X4_copyFrom : yX4_copyFrom.cls ≠ "java/lang/invoke/MethodHandle" ∧ yX4_copyFrom.cls ≠ "java/lang/invoke/VarHandle" ∧ (parseMethodDescriptor yX4_copyFrom.desc).map (fun d => d.parameters.length) = some 1 := by decide +kernel
theorem hd_X4_put : yX4_put.cls ≠ "java/lang/invoke/MethodHandle" ∧ yX4_put.cls ≠ "java/lang/invoke/VarHandle" ∧ (parseMethodDescriptor yX4_put.desc).map (fun d => d.parameters.length) = some 2 := by decide +kernel
theorem hd_X4_putNowhere : yX4_putNowhere.cls ≠ "java/lang/invoke/MethodHandle" ∧ yX4_putNowhere.cls ≠ "java/lang/invoke/VarHandle" ∧ (parseMethodDescriptor yX4_putNowhere.desc).map (fun d => d.parameters.length) = some 0 := by decide +kernel
theorem hd_X5_addFeast : yX5_addFeast.cls ≠ "java/lang/invoke/MethodHandle" ∧ yX5_addFeast.cls ≠ "java/lang/invoke/VarHandle" ∧ (parseMethodDescriptor yX5_addFeast.desc).map (fun d => d.parameters.length) = some 1 := by decide +kernel
theorem hd_X5_copyFrom : yX5_copyFrom.cls ≠ "java/lang/invoke/MethodHandle" ∧ yX5_copyFrom.cls ≠ "java/lang/invoke/VarHandle" ∧ (parseMethodDescriptor yX5_copyFrom.desc).map (fun d => d.parameters.length) = some 1 := by decide +kernel
theorem hd_X5_copyStick : yX5_copyStick.cls ≠ "java/lang/invoke/MethodHandle" ∧ yX5_copyStick.cls ≠ "java/lang/invoke/VarHandle" ∧ (parseMethodDescriptor yX5_copyStick.desc).map (fun d => d.parameters.length) = some 2 := by decide +kernel
theorem hd_X5_notchesOfStick : yX5_notchesOfStick.cls ≠ "java/lang/invoke/MethodHandle" ∧ yX5_notchesOfStick.cls ≠ "java/lang/invoke/VarHandle" ∧ (parseMethodDescriptor yX5_notchesOfStick.desc).map (fun d => d.parameters.length) = some 1 := by decide +kernel
theorem hd_X5_stickNotch : yX5_stickNotch.cls ≠ "java/lang/invoke/MethodHandle" ∧ yX5_stickNotch.cls ≠ "java/lang/invoke/VarHandle" ∧ (parseMethodDescriptor yX5_stickNotch.desc).map (fun d => d.parameters.length) = some 2 := by decide +kernel
theorem hd_X6_addReadFeast : yX6_addReadFeast.cls ≠ "java/lang/invoke/MethodHandle" ∧ yX6_addReadFeast.cls ≠ "java/lang/invoke/VarHandle" ∧ (parseMethodDescriptor yX6_addReadFeast.desc).map (fun d => d.parameters.length) = some 0 := by decide +kernel
theorem hd_X6_bitsOfShare : yX6_bitsOfShare.cls ≠ "java/lang/invoke/MethodHandle" ∧ yX6_bitsOfShare.cls ≠ "java/lang/invoke/VarHandle" ∧ (parseMethodDescriptor yX6_bitsOfShare.desc).map (fun d => d.parameters.length) = some 1 := by decide +kernel
theorem hd_X6_calmestSlip : yX6_calmestSlip.cls ≠ "java/lang/invoke/MethodHandle" ∧ yX6_calmestSlip.cls ≠ "java/lang/invoke/VarHandle" ∧ (parseMethodDescriptor yX6_calmestSlip.desc).map (fun d => d.parameters.length) = some 2 := by decide +kernel
theorem hd_X6_daysIn : yX6_daysIn.cls ≠ "java/lang/invoke/MethodHandle" ∧ yX6_daysIn.cls ≠ "java/lang/invoke/VarHandle" ∧ (parseMethodDescriptor yX6_daysIn.desc).map (fun d => d.parameters.length) = some 1 := by decide +kernel
theorem hd_X6_feastProperty : yX6_feastProperty.cls ≠ "java/lang/invoke/MethodHandle" ∧ yX6_feastProperty.cls ≠ "java/lang/invoke/VarHandle" ∧ (parseMethodDescriptor yX6_feastProperty.desc).map (fun d => d.parameters.length) = some 2 := by decide +kernel
theorem hd_X6_freshPart : yX6_freshPart.cls ≠ "java/lang/invoke/MethodHandle" ∧ yX6_freshPart.cls ≠ "java/lang/invoke/VarHandle" ∧ (parseMethodDescriptor yX6_freshPart.desc).map (fun d => d.parameters.length) = some 0 := by decide +kernel
theorem hd_X6_gatherDigestCouncils : yX6_gatherDigestCouncils.cls ≠ "java/lang/invoke/MethodHandle" ∧ yX6_gatherDigestCouncils.cls ≠ "java/lang/invoke/VarHandle" ∧ (parseMethodDescriptor yX6_gatherDigestCouncils.desc).map (fun d => d.parameters.length) = some 0 := by decide +kernel
theorem hd_X6_isLeap : yX6_isLeap.cls ≠ "java/lang/invoke/MethodHandle" ∧ yX6_isLeap.cls ≠ "java/lang/invoke/VarHandle" ∧ (parseMethodDescriptor yX6_isLeap.desc).map (fun d => d.parameters.length) = some 1 := by decide +kernel
theorem hd_X6_mixed : yX6_mixed.cls ≠ "java/lang/invoke/MethodHandle" ∧ yX6_mixed.cls ≠ "java/lang/invoke/VarHandle" ∧ (parseMethodDescriptor yX6_mixed.desc).map (fun d => d.parameters.length) = some 2 := by decide +kernel
theorem hd_X6_mixedDays : yX6_mixedDays.cls ≠ "java/lang/invoke/MethodHandle" ∧ yX6_mixedDays.cls ≠ "java/lang/invoke/VarHandle" ∧ (parseMethodDescriptor yX6_mixedDays.desc).map (fun d => d.parameters.length) = some 3 := by decide +kernel
theorem hd_X6_mixedFeasts : yX6_mixedFeasts.cls ≠ "java/lang/invoke/MethodHandle" ∧ yX6_mixedFeasts.cls ≠ "java/lang/invoke/VarHandle" ∧ (parseMethodDescriptor yX6_mixedFeasts.desc).map (fun d => d.parameters.length) = some 1 := by decide +kernel
theorem hd_X6_mixedQuarrels : yX6_mixedQuarrels.cls ≠ "java/lang/invoke/MethodHandle" ∧ yX6_mixedQuarrels.cls ≠ "java/lang/invoke/VarHandle" ∧ (parseMethodDescriptor yX6_mixedQuarrels.desc).map (fun d => d.parameters.length) = some 1 := by decide +kernel
theorem hd_X6_moonAge : yX6_moonAge.cls ≠ "java/lang/invoke/MethodHandle" ∧ yX6_moonAge.cls ≠ "java/lang/invoke/VarHandle" ∧ (parseMethodDescriptor yX6_moonAge.desc).map (fun d => d.parameters.length) = some 2 := by decide +kernel
theorem hd_X6_moonShift : yX6_moonShift.cls ≠ "java/lang/invoke/MethodHandle" ∧ yX6_moonShift.cls ≠ "java/lang/invoke/VarHandle" ∧ (parseMethodDescriptor yX6_moonShift.desc).map (fun d => d.parameters.length) = some 3 := by decide +kernel
theorem hd_X6_newYearWeekday : yX6_newYearWeekday.cls ≠ "java/lang/invoke/MethodHandle" ∧ yX6_newYearWeekday.cls ≠ "java/lang/invoke/VarHandle" ∧ (parseMethodDescriptor yX6_newYearWeekday.desc).map (fun d => d.parameters.length) = some 1 := by decide +kernel
theorem hd_X6_nextAlike : yX6_nextAlike.cls ≠ "java/lang/invoke/MethodHandle" ∧ yX6_nextAlike.cls ≠ "java/lang/invoke/VarHandle" ∧ (parseMethodDescriptor yX6_nextAlike.desc).map (fun d => d.parameters.length) = some 1 := by decide +kernel
theorem hd_X6_numberOf : yX6_numberOf.cls ≠ "java/lang/invoke/MethodHandle" ∧ yX6_numberOf.cls ≠ "java/lang/invoke/VarHandle" ∧ (parseMethodDescriptor yX6_numberOf.desc).map (fun d => d.parameters.length) = some 1 := by decide +kernel
theorem hd_X6_outermost : yX6_outermost.cls ≠ "java/lang/invoke/MethodHandle" ∧ yX6_outermost.cls ≠ "java/lang/invoke/VarHandle" ∧ (parseMethodDescriptor yX6_outermost.desc).map (fun d => d.parameters.length) = some 4 := by decide +kernel
theorem hd_X6_signsReadWell : yX6_signsReadWell.cls ≠ "java/lang/invoke/MethodHandle" ∧ yX6_signsReadWell.cls ≠ "java/lang/invoke/VarHandle" ∧ (parseMethodDescriptor yX6_signsReadWell.desc).map (fun d => d.parameters.length) = some 0 := by decide +kernel
theorem hd_X6_staleFeasts : yX6_staleFeasts.cls ≠ "java/lang/invoke/MethodHandle" ∧ yX6_staleFeasts.cls ≠ "java/lang/invoke/VarHandle" ∧ (parseMethodDescriptor yX6_staleFeasts.desc).map (fun d => d.parameters.length) = some 2 := by decide +kernel
theorem hd_X6_stickProperty : yX6_stickProperty.cls ≠ "java/lang/invoke/MethodHandle" ∧ yX6_stickProperty.cls ≠ "java/lang/invoke/VarHandle" ∧ (parseMethodDescriptor yX6_stickProperty.desc).map (fun d => d.parameters.length) = some 2 := by decide +kernel
theorem hd_X7_aboutDay : yX7_aboutDay.cls ≠ "java/lang/invoke/MethodHandle" ∧ yX7_aboutDay.cls ≠ "java/lang/invoke/VarHandle" ∧ (parseMethodDescriptor yX7_aboutDay.desc).map (fun d => d.parameters.length) = some 3 := by decide +kernel
theorem hd_X7_aboutStick : yX7_aboutStick.cls ≠ "java/lang/invoke/MethodHandle" ∧ yX7_aboutStick.cls ≠ "java/lang/invoke/VarHandle" ∧ (parseMethodDescriptor yX7_aboutStick.desc).map (fun d => d.parameters.length) = some 2 := by decide +kernel
theorem hd_X7_adds : yX7_adds.cls ≠ "java/lang/invoke/MethodHandle" ∧ yX7_adds.cls ≠ "java/lang/invoke/VarHandle" ∧ (parseMethodDescriptor yX7_adds.desc).map (fun d => d.parameters.length) = some 0 := by decide +kernel
theorem hd_X7_age : yX7_age.cls ≠ "java/lang/invoke/MethodHandle" ∧ yX7_age.cls ≠ "java/lang/invoke/VarHandle" ∧ (parseMethodDescriptor yX7_age.desc).map (fun d => d.parameters.length) = some 3 := by decide +kernel
theorem hd_X7_allStale : yX7_allStale.cls ≠ "java/lang/invoke/MethodHandle" ∧ yX7_allStale.cls ≠ "java/lang/invoke/VarHandle" ∧ (parseMethodDescriptor yX7_allStale.desc).map (fun d => d.parameters.length) = some 0 := by decide +kernel
theorem hd_X7_bestSlip : yX7_bestSlip.cls ≠ "java/lang/invoke/MethodHandle" ∧ yX7_bestSlip.cls ≠ "java/lang/invoke/VarHandle" ∧ (parseMethodDescriptor yX7_bestSlip.desc).map (fun d => d.parameters.length) = some 2 := by decide +kernel
theorem hd_X7_bitsOf : yX7_bitsOf.cls ≠ "java/lang/invoke/MethodHandle" ∧ yX7_bitsOf.cls ≠ "java/lang/invoke/VarHandle" ∧ (parseMethodDescriptor yX7_bitsOf.desc).map (fun d => d.parameters.length) = some 1 := by decide +kernel
theorem hd_X7_counted : yX7_counted.cls ≠ "java/lang/invoke/MethodHandle" ∧ yX7_counted.cls ≠ "java/lang/invoke/VarHandle" ∧ (parseMethodDescriptor yX7_counted.desc).map (fun d => d.parameters.length) = some 1 := by decide +kernel
theorem hd_X7_dayOf : yX7_dayOf.cls ≠ "java/lang/invoke/MethodHandle" ∧ yX7_dayOf.cls ≠ "java/lang/invoke/VarHandle" ∧ (parseMethodDescriptor yX7_dayOf.desc).map (fun d => d.parameters.length) = some 4 := by decide +kernel
theorem hd_X7_daysOf : yX7_daysOf.cls ≠ "java/lang/invoke/MethodHandle" ∧ yX7_daysOf.cls ≠ "java/lang/invoke/VarHandle" ∧ (parseMethodDescriptor yX7_daysOf.desc).map (fun d => d.parameters.length) = some 1 := by decide +kernel
theorem hd_X7_digestFeast : yX7_digestFeast.cls ≠ "java/lang/invoke/MethodHandle" ∧ yX7_digestFeast.cls ≠ "java/lang/invoke/VarHandle" ∧ (parseMethodDescriptor yX7_digestFeast.desc).map (fun d => d.parameters.length) = some 1 := by decide +kernel
theorem hd_X7_digestOne : yX7_digestOne.cls ≠ "java/lang/invoke/MethodHandle" ∧ yX7_digestOne.cls ≠ "java/lang/invoke/VarHandle" ∧ (parseMethodDescriptor yX7_digestOne.desc).map (fun d => d.parameters.length) = some 1 := by decide +kernel
theorem hd_X7_feastOn : yX7_feastOn.cls ≠ "java/lang/invoke/MethodHandle" ∧ yX7_feastOn.cls ≠ "java/lang/invoke/VarHandle" ∧ (parseMethodDescriptor yX7_feastOn.desc).map (fun d => d.parameters.length) = some 2 := by decide +kernel
theorem hd_X7_findProper : yX7_findProper.cls ≠ "java/lang/invoke/MethodHandle" ∧ yX7_findProper.cls ≠ "java/lang/invoke/VarHandle" ∧ (parseMethodDescriptor yX7_findProper.desc).map (fun d => d.parameters.length) = some 2 := by decide +kernel
theorem hd_X7_firstFull : yX7_firstFull.cls ≠ "java/lang/invoke/MethodHandle" ∧ yX7_firstFull.cls ≠ "java/lang/invoke/VarHandle" ∧ (parseMethodDescriptor yX7_firstFull.desc).map (fun d => d.parameters.length) = some 3 := by decide +kernel
theorem hd_X7_firstWeekday : yX7_firstWeekday.cls ≠ "java/lang/invoke/MethodHandle" ∧ yX7_firstWeekday.cls ≠ "java/lang/invoke/VarHandle" ∧ (parseMethodDescriptor yX7_firstWeekday.desc).map (fun d => d.parameters.length) = some 3 := by decide +kernel
theorem hd_X7_fresh : yX7_fresh.cls ≠ "java/lang/invoke/MethodHandle" ∧ yX7_fresh.cls ≠ "java/lang/invoke/VarHandle" ∧ (parseMethodDescriptor yX7_fresh.desc).map (fun d => d.parameters.length) = some 0 := by decide +kernel
theorem hd_X7_go : yX7_go.cls ≠ "java/lang/invoke/MethodHandle" ∧ yX7_go.cls ≠ "java/lang/invoke/VarHandle" ∧ (parseMethodDescriptor yX7_go.desc).map (fun d => d.parameters.length) = some 1 := by decide +kernel
theorem hd_X7_holds : yX7_holds.cls ≠ "java/lang/invoke/MethodHandle" ∧ yX7_holds.cls ≠ "java/lang/invoke/VarHandle" ∧ (parseMethodDescriptor yX7_holds.desc).map (fun d => d.parameters.length) = some 1 := by decide +kernel
theorem hd_X7_in : yX7_in.cls ≠ "java/lang/invoke/MethodHandle" ∧ yX7_in.cls ≠ "java/lang/invoke/VarHandle" ∧ (parseMethodDescriptor yX7_in.desc).map (fun d => d.parameters.length) = some 3 := by decide +kernel
theorem hd_X7_isCarver : yX7_isCarver.cls ≠ "java/lang/invoke/MethodHandle" ∧ yX7_isCarver.cls ≠ "java/lang/invoke/VarHandle" ∧ (parseMethodDescriptor yX7_isCarver.desc).map (fun d => d.parameters.length) = some 1 := by decide +kernel
theorem hd_X7_isFeast : yX7_isFeast.cls ≠ "java/lang/invoke/MethodHandle" ∧ yX7_isFeast.cls ≠ "java/lang/invoke/VarHandle" ∧ (parseMethodDescriptor yX7_isFeast.desc).map (fun d => d.parameters.length) = some 1 := by decide +kernel
theorem hd_X7_isNext : yX7_isNext.cls ≠ "java/lang/invoke/MethodHandle" ∧ yX7_isNext.cls ≠ "java/lang/invoke/VarHandle" ∧ (parseMethodDescriptor yX7_isNext.desc).map (fun d => d.parameters.length) = some 1 := by decide +kernel
theorem hd_X7_isStick : yX7_isStick.cls ≠ "java/lang/invoke/MethodHandle" ∧ yX7_isStick.cls ≠ "java/lang/invoke/VarHandle" ∧ (parseMethodDescriptor yX7_isStick.desc).map (fun d => d.parameters.length) = some 1 := by decide +kernel
theorem hd_X7_isYear : yX7_isYear.cls ≠ "java/lang/invoke/MethodHandle" ∧ yX7_isYear.cls ≠ "java/lang/invoke/VarHandle" ∧ (parseMethodDescriptor yX7_isYear.desc).map (fun d => d.parameters.length) = some 1 := by decide +kernel
theorem hd_X7_lay : yX7_lay.cls ≠ "java/lang/invoke/MethodHandle" ∧ yX7_lay.cls ≠ "java/lang/invoke/VarHandle" ∧ (parseMethodDescriptor yX7_lay.desc).map (fun d => d.parameters.length) = some 2 := by decide +kernel
theorem hd_X7_layAll : yX7_layAll.cls ≠ "java/lang/invoke/MethodHandle" ∧ yX7_layAll.cls ≠ "java/lang/invoke/VarHandle" ∧ (parseMethodDescriptor yX7_layAll.desc).map (fun d => d.parameters.length) = some 1 := by decide +kernel
theorem hd_X7_movedBy : yX7_movedBy.cls ≠ "java/lang/invoke/MethodHandle" ∧ yX7_movedBy.cls ≠ "java/lang/invoke/VarHandle" ∧ (parseMethodDescriptor yX7_movedBy.desc).map (fun d => d.parameters.length) = some 2 := by decide +kernel
theorem hd_X7_nextAlike : yX7_nextAlike.cls ≠ "java/lang/invoke/MethodHandle" ∧ yX7_nextAlike.cls ≠ "java/lang/invoke/VarHandle" ∧ (parseMethodDescriptor yX7_nextAlike.desc).map (fun d => d.parameters.length) = some 1 := by decide +kernel
theorem hd_X7_number : yX7_number.cls ≠ "java/lang/invoke/MethodHandle" ∧ yX7_number.cls ≠ "java/lang/invoke/VarHandle" ∧ (parseMethodDescriptor yX7_number.desc).map (fun d => d.parameters.length) = some 1 := by decide +kernel
theorem hd_X7_of : yX7_of.cls ≠ "java/lang/invoke/MethodHandle" ∧ yX7_of.cls ≠ "java/lang/invoke/VarHandle" ∧ (parseMethodDescriptor yX7_of.desc).map (fun d => d.parameters.length) = some 2 := by decide +kernel
theorem hd_X7_ofFeast : yX7_ofFeast.cls ≠ "java/lang/invoke/MethodHandle" ∧ yX7_ofFeast.cls ≠ "java/lang/invoke/VarHandle" ∧ (parseMethodDescriptor yX7_ofFeast.desc).map (fun d => d.parameters.length) = some 2 := by decide +kernel
theorem hd_X7_ofStick : yX7_ofStick.cls ≠ "java/lang/invoke/MethodHandle" ∧ yX7_ofStick.cls ≠ "java/lang/invoke/VarHandle" ∧ (parseMethodDescriptor yX7_ofStick.desc).map (fun d => d.parameters.length) = some 2 := by decide +kernel
theorem hd_X7_outermost : yX7_outermost.cls ≠ "java/lang/invoke/MethodHandle" ∧ yX7_outermost.cls ≠ "java/lang/invoke/VarHandle" ∧ (parseMethodDescriptor yX7_outermost.desc).map (fun d => d.parameters.length) = some 4 := by decide +kernel
theorem hd_X7_puts : yX7_puts.cls ≠ "java/lang/invoke/MethodHandle" ∧ yX7_puts.cls ≠ "java/lang/invoke/VarHandle" ∧ (parseMethodDescriptor yX7_puts.desc).map (fun d => d.parameters.length) = some 2 := by decide +kernel
theorem hd_X7_quarrelsNow : yX7_quarrelsNow.cls ≠ "java/lang/invoke/MethodHandle" ∧ yX7_quarrelsNow.cls ≠ "java/lang/invoke/VarHandle" ∧ (parseMethodDescriptor yX7_quarrelsNow.desc).map (fun d => d.parameters.length) = some 0 := by decide +kernel
theorem hd_X7_quarrelsOf : yX7_quarrelsOf.cls ≠ "java/lang/invoke/MethodHandle" ∧ yX7_quarrelsOf.cls ≠ "java/lang/invoke/VarHandle" ∧ (parseMethodDescriptor yX7_quarrelsOf.desc).map (fun d => d.parameters.length) = some 1 := by decide +kernel
theorem hd_X7_read : yX7_read.cls ≠ "java/lang/invoke/MethodHandle" ∧ yX7_read.cls ≠ "java/lang/invoke/VarHandle" ∧ (parseMethodDescriptor yX7_read.desc).map (fun d => d.parameters.length) = some 0 := by decide +kernel
theorem hd_X7_save : yX7_save.cls ≠ "java/lang/invoke/MethodHandle" ∧ yX7_save.cls ≠ "java/lang/invoke/VarHandle" ∧ (parseMethodDescriptor yX7_save.desc).map (fun d => d.parameters.length) = some 0 := by decide +kernel
theorem hd_X7_settledBy : yX7_settledBy.cls ≠ "java/lang/invoke/MethodHandle" ∧ yX7_settledBy.cls ≠ "java/lang/invoke/VarHandle" ∧ (parseMethodDescriptor yX7_settledBy.desc).map (fun d => d.parameters.length) = some 1 := by decide +kernel
theorem hd_X7_settledOf : yX7_settledOf.cls ≠ "java/lang/invoke/MethodHandle" ∧ yX7_settledOf.cls ≠ "java/lang/invoke/VarHandle" ∧ (parseMethodDescriptor yX7_settledOf.desc).map (fun d => d.parameters.length) = some 2 := by decide +kernel
theorem hd_X7_sign : yX7_sign.cls ≠ "java/lang/invoke/MethodHandle" ∧ yX7_sign.cls ≠ "java/lang/invoke/VarHandle" ∧ (parseMethodDescriptor yX7_sign.desc).map (fun d => d.parameters.length) = some 2 := by decide +kernel
theorem hd_X7_size : yX7_size.cls ≠ "java/lang/invoke/MethodHandle" ∧ yX7_size.cls ≠ "java/lang/invoke/VarHandle" ∧ (parseMethodDescriptor yX7_size.desc).map (fun d => d.parameters.length) = some 1 := by decide +kernel
theorem hd_X7_someYear : yX7_someYear.cls ≠ "java/lang/invoke/MethodHandle" ∧ yX7_someYear.cls ≠ "java/lang/invoke/VarHandle" ∧ (parseMethodDescriptor yX7_someYear.desc).map (fun d => d.parameters.length) = some 1 := by decide +kernel
theorem hd_X7_staleOf : yX7_staleOf.cls ≠ "java/lang/invoke/MethodHandle" ∧ yX7_staleOf.cls ≠ "java/lang/invoke/VarHandle" ∧ (parseMethodDescriptor yX7_staleOf.desc).map (fun d => d.parameters.length) = some 1 := by decide +kernel
theorem hd_X7_weekday : yX7_weekday.cls ≠ "java/lang/invoke/MethodHandle" ∧ yX7_weekday.cls ≠ "java/lang/invoke/VarHandle" ∧ (parseMethodDescriptor yX7_weekday.desc).map (fun d => d.parameters.length) = some 2 := by decide +kernel
end
section
section JW
theorem inB_lt {x : Int32} {n : Nat} (h : inB x n = true) : x.toNatClampNeg < n := Nat.not_le.mp fun q => inB_in h (Or.inr q)
theorem kRing {x : Int32} (h : inB x 6 = true) : kd (22 + 19 * x.toNatClampNeg) = 5 := (by decide +kernel : ∀ j, j < 6 → kd (22 + 19 * j) = 5) _ (inB_lt h)
theorem kDig {x : Int32} (h : inB x 3 = true) : kd (177 + 16 * x.toNatClampNeg) = 0 := (by decide +kernel : ∀ j, j < 3 → kd (177 + 16 * j) = 0) _ (inB_lt h)
theorem inA {x : Int32} {i n : Nat} (h : inB x n = true) (e : aln i = n) : vp_in x (aln i) := by rw [e]; exact inB_in h
theorem fz01 {v : Int32} (hv : v = 0 ∨ v = 1) : fits .boolean (.int v) = true := by rcases hv with rfl | rfl <;> rfl
def okd (r : UInt64) : Bool := decide (r &&& 0x7fffffffffffffff ≤ 0x7ff0000000000000)
theorem okd_n {r : UInt64} (h : okd r = true) : vf_n64 r := by
  have h2 : r &&& 0x7fffffffffffffff ≤ 0x7ff0000000000000 := of_decide_eq_true h
  exact h2
def oc {β : Type} (r : Option Nat) (a : Option β) (k : Nat → Option β) : Option β := match r with
  | none => a
  | some x => k x
theorem oc_none {β : Type} {a : Option β} {k : Nat → Option β} {r : β} (h : oc none a k = some r) : a = some r := h
theorem oc_some {β : Type} {x : Nat} {a : Option β} {k : Nat → Option β} {r : β} (h : oc (some x) a k = some r) : k x = some r := h
def FU : Nat := 4000
theorem no_some {α : Type} {r : α} (h : (none : Option α) = some r) : False := by cases h
variable {G : GG} {B dy : Nat} {own : String} {cc : ByteArray} {nL : Nat} {p : Program} {l : Launch} {e : Env} {R : Room} {s : State} {m : MethodId} {args : Array Value} {below : List Frame} {meth : Method} {c : Code} {k n : Nat} {Q : State → Prop}
variable {pc : Nat} {lv : List (Nat × Value)} {st : List Value} {σ : St}
theorem j_sub (ks : List Nat) {lv2 : List (Nat × Value)} (h : lv_pick lv ks = lv2) (kk : WW G B p l e R s m args below meth c k n Q nL pc lv2 st σ) : WW G B p l e R s m args below meth c k n Q nL pc lv st σ := fun H locs ls hP hS hl => kk H locs ls hP hS (lv_sub hl ks h)
theorem j_topi {x : Int32} (kk : ∀ y, y = x → WW G B p l e R s m args below meth c k n Q nL pc lv (.int y :: st) σ) : WW G B p l e R s m args below meth c k n Q nL pc lv (.int x :: st) σ := kk x rfl
theorem j_topl {x : Int64} (kk : ∀ y, y = x → WW G B p l e R s m args below meth c k n Q nL pc lv (.long y :: st) σ) : WW G B p l e R s m args below meth c k n Q nL pc lv (.long x :: st) σ := kk x rfl
theorem j_topd {x : UInt64} (kk : ∀ y, y = x → WW G B p l e R s m args below meth c k n Q nL pc lv (.double y :: st) σ) : WW G B p l e R s m args below meth c k n Q nL pc lv (.double x :: st) σ := kk x rfl
theorem j_topr {x : Nat} (kk : ∀ y, y = x → WW G B p l e R s m args below meth c k n Q nL pc lv (.ref (B + y) :: st) σ) : WW G B p l e R s m args below meth c k n Q nL pc lv (.ref (B + x) :: st) σ := kk x rfl
theorem j_tops (kk : ∀ y, y = σ → WW G B p l e R s m args below meth c k n Q nL pc lv st y) : WW G B p l e R s m args below meth c k n Q nL pc lv st σ := kk σ rfl
theorem fg_X0_12 (C : Cx G B dy RX0 cc nL p s m args c) {i : Nat} (h : kd i = 0) (d : decode cc pc = .ok (.getfield 12, 3)) (kk : WW G B p l e R s m args below meth c k n Q nL (pc + 3) lv (.ref (B + (i + 1)) :: st) σ) : WW G B p l e R s m args below meth c k n Q nL pc lv (.ref (B + i) :: st) σ := j_get C (shp0 G B σ h) (kd_lt h (by decide)) rfl inT0 0 (by decide) tw_183 (fun _ h => h) rfl d kk
theorem fg_X0_18 (C : Cx G B dy RX0 cc nL p s m args c) {i : Nat} (h : kd i = 0) (d : decode cc pc = .ok (.getfield 18, 3)) (kk : WW G B p l e R s m args below meth c k n Q nL (pc + 3) lv (.ref (B + (i + 6)) :: st) σ) : WW G B p l e R s m args below meth c k n Q nL pc lv (.ref (B + i) :: st) σ := j_get C (shp0 G B σ h) (kd_lt h (by decide)) rfl inT0 1 (by decide) tw_184 (fun _ h => h) rfl d kk
theorem fg_X0_21 (C : Cx G B dy RX0 cc nL p s m args c) {i : Nat} (h : kd i = 0) (d : decode cc pc = .ok (.getfield 21, 3)) (kk : WW G B p l e R s m args below meth c k n Q nL (pc + 3) lv (.ref (B + (i + 11)) :: st) σ) : WW G B p l e R s m args below meth c k n Q nL pc lv (.ref (B + i) :: st) σ := j_get C (shp0 G B σ h) (kd_lt h (by decide)) rfl inT0 2 (by decide) tw_185 (fun _ h => h) rfl d kk
theorem fg_X0_28 (C : Cx G B dy RX0 cc nL p s m args c) {i : Nat} (h : kd i = 5) (d : decode cc pc = .ok (.getfield 28, 3)) (kk : WW G B p l e R s m args below meth c k n Q nL (pc + 3) lv (.ref (B + (i + 9)) :: st) σ) : WW G B p l e R s m args below meth c k n Q nL pc lv (.ref (B + i) :: st) σ := j_get C (shp5 G B σ h) (kd_lt h (by decide)) rfl inT5 5 (by decide) tw_56 (fun _ h => h) rfl d kk
theorem fg_X0_44 (C : Cx G B dy RX0 cc nL p s m args c) {i : Nat} (h : kd i = 3) (d : decode cc pc = .ok (.getfield 44, 3)) (kk : WW G B p l e R s m args below meth c k n Q nL (pc + 3) lv (.ref (B + (i + 3)) :: st) σ) : WW G B p l e R s m args below meth c k n Q nL pc lv (.ref (B + i) :: st) σ := j_get C (shp3 G B σ h) (kd_lt h (by decide)) rfl inT3 1 (by decide) tw_159 (fun _ h => h) rfl d kk
theorem fg_X1_11 (C : Cx G B dy RX1 cc nL p s m args c) {i : Nat} (h : kd i = 1) (d : decode cc pc = .ok (.getfield 11, 3)) (kk : WW G B p l e R s m args below meth c k n Q nL (pc + 3) lv (.ref (B + (i + 1)) :: st) σ) : WW G B p l e R s m args below meth c k n Q nL pc lv (.ref (B + i) :: st) σ := j_get C (shp1 G B σ h) (kd_lt h (by decide)) rfl inT1 0 (by decide) tw_104 (fun _ h => h) rfl d kk
theorem fg_X1_17 (C : Cx G B dy RX1 cc nL p s m args c) {i : Nat} (h : kd i = 1) (d : decode cc pc = .ok (.getfield 17, 3)) (kk : WW G B p l e R s m args below meth c k n Q nL (pc + 3) lv (.int (σ.1 i 1) :: st) σ) : WW G B p l e R s m args below meth c k n Q nL pc lv (.ref (B + i) :: st) σ := j_get C (shp1 G B σ h) (kd_lt h (by decide)) rfl inT1 1 (by decide) tw_105 (fun _ h => h) rfl d kk
theorem fg_X1_21 (C : Cx G B dy RX1 cc nL p s m args c) {i : Nat} (h : kd i = 1) (d : decode cc pc = .ok (.getfield 21, 3)) (kk : WW G B p l e R s m args below meth c k n Q nL (pc + 3) lv (.int (σ.1 i 2) :: st) σ) : WW G B p l e R s m args below meth c k n Q nL pc lv (.ref (B + i) :: st) σ := j_get C (shp1 G B σ h) (kd_lt h (by decide)) rfl inT1 2 (by decide) tw_106 (fun _ h => h) rfl d kk
theorem fg_X2_11 (C : Cx G B dy RX2 cc nL p s m args c) {i : Nat} (h : kd i = 2) (d : decode cc pc = .ok (.getfield 11, 3)) (kk : WW G B p l e R s m args below meth c k n Q nL (pc + 3) lv (.int (σ.1 i 5) :: st) σ) : WW G B p l e R s m args below meth c k n Q nL pc lv (.ref (B + i) :: st) σ := j_get C (shp2 G B σ h) (kd_lt h (by decide)) rfl inT2 5 (by decide) tw_134 (fun _ h => h) rfl d kk
theorem fg_X2_15 (C : Cx G B dy RX2 cc nL p s m args c) {i : Nat} (h : kd i = 2) (d : decode cc pc = .ok (.getfield 15, 3)) (kk : WW G B p l e R s m args below meth c k n Q nL (pc + 3) lv (.int (σ.1 i 0) :: st) σ) : WW G B p l e R s m args below meth c k n Q nL pc lv (.ref (B + i) :: st) σ := j_get C (shp2 G B σ h) (kd_lt h (by decide)) rfl inT2 0 (by decide) tw_122 (fun _ h => h) rfl d kk
theorem fg_X2_18 (C : Cx G B dy RX2 cc nL p s m args c) {i : Nat} (h : kd i = 2) (d : decode cc pc = .ok (.getfield 18, 3)) (kk : WW G B p l e R s m args below meth c k n Q nL (pc + 3) lv (.int (σ.1 i 1) :: st) σ) : WW G B p l e R s m args below meth c k n Q nL pc lv (.ref (B + i) :: st) σ := j_get C (shp2 G B σ h) (kd_lt h (by decide)) rfl inT2 1 (by decide) tw_125 (fun _ h => h) rfl d kk
theorem fg_X3_14 (C : Cx G B dy RX3 cc nL p s m args c) {i : Nat} (h : kd i = 3) (d : decode cc pc = .ok (.getfield 14, 3)) (kk : WW G B p l e R s m args below meth c k n Q nL (pc + 3) lv (.ref (B + (i + 1)) :: st) σ) : WW G B p l e R s m args below meth c k n Q nL pc lv (.ref (B + i) :: st) σ := j_get C (shp3 G B σ h) (kd_lt h (by decide)) rfl inT3 0 (by decide) tw_156 (fun _ h => h) rfl d kk
theorem fg_X3_20 (C : Cx G B dy RX3 cc nL p s m args c) {i : Nat} (h : kd i = 3) (d : decode cc pc = .ok (.getfield 20, 3)) (kk : WW G B p l e R s m args below meth c k n Q nL (pc + 3) lv (.ref (B + (i + 3)) :: st) σ) : WW G B p l e R s m args below meth c k n Q nL pc lv (.ref (B + i) :: st) σ := j_get C (shp3 G B σ h) (kd_lt h (by decide)) rfl inT3 1 (by decide) tw_158 (fun _ h => h) rfl d kk
theorem fg_X3_27 (C : Cx G B dy RX3 cc nL p s m args c) {i : Nat} (h : kd i = 3) (d : decode cc pc = .ok (.getfield 27, 3)) (kk : WW G B p l e R s m args below meth c k n Q nL (pc + 3) lv (.int (σ.1 i 2) :: st) σ) : WW G B p l e R s m args below meth c k n Q nL pc lv (.ref (B + i) :: st) σ := j_get C (shp3 G B σ h) (kd_lt h (by decide)) rfl inT3 2 (by decide) tw_161 (fun _ h => h) rfl d kk
theorem fg_X3_34 (C : Cx G B dy RX3 cc nL p s m args c) {i : Nat} (h : kd i = 3) (d : decode cc pc = .ok (.getfield 34, 3)) (kk : WW G B p l e R s m args below meth c k n Q nL (pc + 3) lv (.int (σ.1 i 3) :: st) σ) : WW G B p l e R s m args below meth c k n Q nL pc lv (.ref (B + i) :: st) σ := j_get C (shp3 G B σ h) (kd_lt h (by decide)) rfl inT3 3 (by decide) tw_162 (fun _ h => h) rfl d kk
theorem fg_X3_37 (C : Cx G B dy RX3 cc nL p s m args c) {i : Nat} (h : kd i = 5) (d : decode cc pc = .ok (.getfield 37, 3)) (kk : WW G B p l e R s m args below meth c k n Q nL (pc + 3) lv (.int (σ.1 i 6) :: st) σ) : WW G B p l e R s m args below meth c k n Q nL pc lv (.ref (B + i) :: st) σ := j_get C (shp5 G B σ h) (kd_lt h (by decide)) rfl inT5 6 (by decide) tw_59 (fun _ h => h) rfl d kk
theorem fg_X3_46 (C : Cx G B dy RX3 cc nL p s m args c) {i : Nat} (h : kd i = 3) (d : decode cc pc = .ok (.getfield 46, 3)) (kk : WW G B p l e R s m args below meth c k n Q nL (pc + 3) lv (.int (σ.1 i 4) :: st) σ) : WW G B p l e R s m args below meth c k n Q nL pc lv (.ref (B + i) :: st) σ := j_get C (shp3 G B σ h) (kd_lt h (by decide)) rfl inT3 4 (by decide) tw_163 (fun _ h => h) rfl d kk
theorem fg_X3_49 (C : Cx G B dy RX3 cc nL p s m args c) {i : Nat} (h : kd i = 5) (d : decode cc pc = .ok (.getfield 49, 3)) (kk : WW G B p l e R s m args below meth c k n Q nL (pc + 3) lv (.int (σ.1 i 0) :: st) σ) : WW G B p l e R s m args below meth c k n Q nL pc lv (.ref (B + i) :: st) σ := j_get C (shp5 G B σ h) (kd_lt h (by decide)) rfl inT5 0 (by decide) tw_41 (fun _ h => h) rfl d kk
theorem fg_X3_73 (C : Cx G B dy RX3 cc nL p s m args c) {i : Nat} (h : kd i = 5) (d : decode cc pc = .ok (.getfield 73, 3)) (kk : WW G B p l e R s m args below meth c k n Q nL (pc + 3) lv (.ref (B + (i + 5)) :: st) σ) : WW G B p l e R s m args below meth c k n Q nL pc lv (.ref (B + i) :: st) σ := j_get C (shp5 G B σ h) (kd_lt h (by decide)) rfl inT5 3 (by decide) tw_50 (fun _ h => h) rfl d kk
theorem fg_X3_75 (C : Cx G B dy RX3 cc nL p s m args c) {i : Nat} (h : kd i = 5) (d : decode cc pc = .ok (.getfield 75, 3)) (kk : WW G B p l e R s m args below meth c k n Q nL (pc + 3) lv (.ref (B + (i + 7)) :: st) σ) : WW G B p l e R s m args below meth c k n Q nL pc lv (.ref (B + i) :: st) σ := j_get C (shp5 G B σ h) (kd_lt h (by decide)) rfl inT5 4 (by decide) tw_53 (fun _ h => h) rfl d kk
theorem fg_X3_78 (C : Cx G B dy RX3 cc nL p s m args c) {i : Nat} (h : kd i = 5) (d : decode cc pc = .ok (.getfield 78, 3)) (kk : WW G B p l e R s m args below meth c k n Q nL (pc + 3) lv (.ref (B + (i + 1)) :: st) σ) : WW G B p l e R s m args below meth c k n Q nL pc lv (.ref (B + i) :: st) σ := j_get C (shp5 G B σ h) (kd_lt h (by decide)) rfl inT5 1 (by decide) tw_44 (fun _ h => h) rfl d kk
theorem fg_X3_91 (C : Cx G B dy RX3 cc nL p s m args c) {i : Nat} (h : kd i = 5) (d : decode cc pc = .ok (.getfield 91, 3)) (kk : WW G B p l e R s m args below meth c k n Q nL (pc + 3) lv (.ref (B + (i + 3)) :: st) σ) : WW G B p l e R s m args below meth c k n Q nL pc lv (.ref (B + i) :: st) σ := j_get C (shp5 G B σ h) (kd_lt h (by decide)) rfl inT5 2 (by decide) tw_48 (fun _ h => h) rfl d kk
theorem fg_X4_9 (C : Cx G B dy RX4 cc nL p s m args c) {i : Nat} (h : kd i = 4) (d : decode cc pc = .ok (.getfield 9, 3)) (kk : WW G B p l e R s m args below meth c k n Q nL (pc + 3) lv (.ref (B + (i + 1)) :: st) σ) : WW G B p l e R s m args below meth c k n Q nL pc lv (.ref (B + i) :: st) σ := j_get C (shp4 G B σ h) (kd_lt h (by decide)) rfl inT4 0 (by decide) tw_35 (fun _ h => h) rfl d kk
theorem fg_X5_20 (C : Cx G B dy RX5 cc nL p s m args c) {i : Nat} (h : kd i = 5) (d : decode cc pc = .ok (.getfield 20, 3)) (kk : WW G B p l e R s m args below meth c k n Q nL (pc + 3) lv (.ref (B + (i + 1)) :: st) σ) : WW G B p l e R s m args below meth c k n Q nL pc lv (.ref (B + i) :: st) σ := j_get C (shp5 G B σ h) (kd_lt h (by decide)) rfl inT5 1 (by decide) tw_43 (fun _ h => h) rfl d kk
theorem fg_X5_24 (C : Cx G B dy RX5 cc nL p s m args c) {i : Nat} (h : kd i = 5) (d : decode cc pc = .ok (.getfield 24, 3)) (kk : WW G B p l e R s m args below meth c k n Q nL (pc + 3) lv (.ref (B + (i + 3)) :: st) σ) : WW G B p l e R s m args below meth c k n Q nL pc lv (.ref (B + i) :: st) σ := j_get C (shp5 G B σ h) (kd_lt h (by decide)) rfl inT5 2 (by decide) tw_46 (fun _ h => h) rfl d kk
theorem fg_X5_27 (C : Cx G B dy RX5 cc nL p s m args c) {i : Nat} (h : kd i = 5) (d : decode cc pc = .ok (.getfield 27, 3)) (kk : WW G B p l e R s m args below meth c k n Q nL (pc + 3) lv (.ref (B + (i + 5)) :: st) σ) : WW G B p l e R s m args below meth c k n Q nL pc lv (.ref (B + i) :: st) σ := j_get C (shp5 G B σ h) (kd_lt h (by decide)) rfl inT5 3 (by decide) tw_49 (fun _ h => h) rfl d kk
theorem fg_X5_30 (C : Cx G B dy RX5 cc nL p s m args c) {i : Nat} (h : kd i = 5) (d : decode cc pc = .ok (.getfield 30, 3)) (kk : WW G B p l e R s m args below meth c k n Q nL (pc + 3) lv (.ref (B + (i + 7)) :: st) σ) : WW G B p l e R s m args below meth c k n Q nL pc lv (.ref (B + i) :: st) σ := j_get C (shp5 G B σ h) (kd_lt h (by decide)) rfl inT5 4 (by decide) tw_52 (fun _ h => h) rfl d kk
theorem fg_X5_33 (C : Cx G B dy RX5 cc nL p s m args c) {i : Nat} (h : kd i = 5) (d : decode cc pc = .ok (.getfield 33, 3)) (kk : WW G B p l e R s m args below meth c k n Q nL (pc + 3) lv (.ref (B + (i + 9)) :: st) σ) : WW G B p l e R s m args below meth c k n Q nL pc lv (.ref (B + i) :: st) σ := j_get C (shp5 G B σ h) (kd_lt h (by decide)) rfl inT5 5 (by decide) tw_55 (fun _ h => h) rfl d kk
theorem fg_X5_36 (C : Cx G B dy RX5 cc nL p s m args c) {i : Nat} (h : kd i = 5) (d : decode cc pc = .ok (.getfield 36, 3)) (kk : WW G B p l e R s m args below meth c k n Q nL (pc + 3) lv (.int (σ.1 i 6) :: st) σ) : WW G B p l e R s m args below meth c k n Q nL pc lv (.ref (B + i) :: st) σ := j_get C (shp5 G B σ h) (kd_lt h (by decide)) rfl inT5 6 (by decide) tw_58 (fun _ h => h) rfl d kk
theorem fg_X5_39 (C : Cx G B dy RX5 cc nL p s m args c) {i : Nat} (h : kd i = 5) (d : decode cc pc = .ok (.getfield 39, 3)) (kk : WW G B p l e R s m args below meth c k n Q nL (pc + 3) lv (.int (σ.1 i 7) :: st) σ) : WW G B p l e R s m args below meth c k n Q nL pc lv (.ref (B + i) :: st) σ := j_get C (shp5 G B σ h) (kd_lt h (by decide)) rfl inT5 7 (by decide) tw_61 (fun _ h => h) rfl d kk
theorem fg_X5_42 (C : Cx G B dy RX5 cc nL p s m args c) {i : Nat} (h : kd i = 5) (d : decode cc pc = .ok (.getfield 42, 3)) (kk : WW G B p l e R s m args below meth c k n Q nL (pc + 3) lv (.ref (B + (i + 11)) :: st) σ) : WW G B p l e R s m args below meth c k n Q nL pc lv (.ref (B + i) :: st) σ := j_get C (shp5 G B σ h) (kd_lt h (by decide)) rfl inT5 8 (by decide) tw_63 (fun _ h => h) rfl d kk
theorem fg_X5_45 (C : Cx G B dy RX5 cc nL p s m args c) {i : Nat} (h : kd i = 5) (d : decode cc pc = .ok (.getfield 45, 3)) (kk : WW G B p l e R s m args below meth c k n Q nL (pc + 3) lv (.ref (B + (i + 13)) :: st) σ) : WW G B p l e R s m args below meth c k n Q nL pc lv (.ref (B + i) :: st) σ := j_get C (shp5 G B σ h) (kd_lt h (by decide)) rfl inT5 9 (by decide) tw_65 (fun _ h => h) rfl d kk
theorem fg_X5_48 (C : Cx G B dy RX5 cc nL p s m args c) {i : Nat} (h : kd i = 5) (d : decode cc pc = .ok (.getfield 48, 3)) (kk : WW G B p l e R s m args below meth c k n Q nL (pc + 3) lv (.ref (B + (i + 15)) :: st) σ) : WW G B p l e R s m args below meth c k n Q nL pc lv (.ref (B + i) :: st) σ := j_get C (shp5 G B σ h) (kd_lt h (by decide)) rfl inT5 10 (by decide) tw_67 (fun _ h => h) rfl d kk
theorem fg_X5_51 (C : Cx G B dy RX5 cc nL p s m args c) {i : Nat} (h : kd i = 5) (d : decode cc pc = .ok (.getfield 51, 3)) (kk : WW G B p l e R s m args below meth c k n Q nL (pc + 3) lv (.ref (B + (i + 17)) :: st) σ) : WW G B p l e R s m args below meth c k n Q nL pc lv (.ref (B + i) :: st) σ := j_get C (shp5 G B σ h) (kd_lt h (by decide)) rfl inT5 11 (by decide) tw_69 (fun _ h => h) rfl d kk
theorem fg_X5_58 (C : Cx G B dy RX5 cc nL p s m args c) {i : Nat} (h : kd i = 2) (d : decode cc pc = .ok (.getfield 58, 3)) (kk : WW G B p l e R s m args below meth c k n Q nL (pc + 3) lv (.int (σ.1 i 0) :: st) σ) : WW G B p l e R s m args below meth c k n Q nL pc lv (.ref (B + i) :: st) σ := j_get C (shp2 G B σ h) (kd_lt h (by decide)) rfl inT2 0 (by decide) tw_123 (fun _ h => h) rfl d kk
theorem fg_X5_67 (C : Cx G B dy RX5 cc nL p s m args c) {i : Nat} (h : kd i = 2) (d : decode cc pc = .ok (.getfield 67, 3)) (kk : WW G B p l e R s m args below meth c k n Q nL (pc + 3) lv (.int (σ.1 i 4) :: st) σ) : WW G B p l e R s m args below meth c k n Q nL pc lv (.ref (B + i) :: st) σ := j_get C (shp2 G B σ h) (kd_lt h (by decide)) rfl inT2 4 (by decide) tw_133 (fun _ h => h) rfl d kk
theorem fg_X5_70 (C : Cx G B dy RX5 cc nL p s m args c) {i : Nat} (h : kd i = 2) (d : decode cc pc = .ok (.getfield 70, 3)) (kk : WW G B p l e R s m args below meth c k n Q nL (pc + 3) lv (.int (σ.1 i 2) :: st) σ) : WW G B p l e R s m args below meth c k n Q nL pc lv (.ref (B + i) :: st) σ := j_get C (shp2 G B σ h) (kd_lt h (by decide)) rfl inT2 2 (by decide) tw_128 (fun _ h => h) rfl d kk
theorem fg_X5_74 (C : Cx G B dy RX5 cc nL p s m args c) {i : Nat} (h : kd i = 2) (d : decode cc pc = .ok (.getfield 74, 3)) (kk : WW G B p l e R s m args below meth c k n Q nL (pc + 3) lv (.int (σ.1 i 1) :: st) σ) : WW G B p l e R s m args below meth c k n Q nL pc lv (.ref (B + i) :: st) σ := j_get C (shp2 G B σ h) (kd_lt h (by decide)) rfl inT2 1 (by decide) tw_126 (fun _ h => h) rfl d kk
theorem fg_X5_77 (C : Cx G B dy RX5 cc nL p s m args c) {i : Nat} (h : kd i = 2) (d : decode cc pc = .ok (.getfield 77, 3)) (kk : WW G B p l e R s m args below meth c k n Q nL (pc + 3) lv (.int (σ.1 i 3) :: st) σ) : WW G B p l e R s m args below meth c k n Q nL pc lv (.ref (B + i) :: st) σ := j_get C (shp2 G B σ h) (kd_lt h (by decide)) rfl inT2 3 (by decide) tw_130 (fun _ h => h) rfl d kk
theorem fg_X5_9 (C : Cx G B dy RX5 cc nL p s m args c) {i : Nat} (h : kd i = 5) (d : decode cc pc = .ok (.getfield 9, 3)) (kk : WW G B p l e R s m args below meth c k n Q nL (pc + 3) lv (.int (σ.1 i 0) :: st) σ) : WW G B p l e R s m args below meth c k n Q nL pc lv (.ref (B + i) :: st) σ := j_get C (shp5 G B σ h) (kd_lt h (by decide)) rfl inT5 0 (by decide) tw_40 (fun _ h => h) rfl d kk
theorem fg_X6_102 (C : Cx G B dy RX6 cc nL p s m args c) {i : Nat} (h : kd i = 5) (d : decode cc pc = .ok (.getfield 102, 3)) (kk : WW G B p l e R s m args below meth c k n Q nL (pc + 3) lv (.ref (B + (i + 3)) :: st) σ) : WW G B p l e R s m args below meth c k n Q nL pc lv (.ref (B + i) :: st) σ := j_get C (shp5 G B σ h) (kd_lt h (by decide)) rfl inT5 2 (by decide) tw_47 (fun _ h => h) rfl d kk
theorem fg_X6_116 (C : Cx G B dy RX6 cc nL p s m args c) {i : Nat} (h : kd i = 5) (d : decode cc pc = .ok (.getfield 116, 3)) (kk : WW G B p l e R s m args below meth c k n Q nL (pc + 3) lv (.ref (B + (i + 9)) :: st) σ) : WW G B p l e R s m args below meth c k n Q nL pc lv (.ref (B + i) :: st) σ := j_get C (shp5 G B σ h) (kd_lt h (by decide)) rfl inT5 5 (by decide) tw_57 (fun _ h => h) rfl d kk
theorem fg_X6_12 (C : Cx G B dy RX6 cc nL p s m args c) {i : Nat} (h : kd i = 6) (d : decode cc pc = .ok (.getfield 12, 3)) (kk : WW G B p l e R s m args below meth c k n Q nL (pc + 3) lv (.ref (B + 1) :: st) σ) : WW G B p l e R s m args below meth c k n Q nL pc lv (.ref (B + i) :: st) σ := j_get C (shp6 G B σ h) (kd_lt h (by decide)) rfl inT6 0 (by decide) tw_196 (fun _ h => h) rfl d kk
theorem fg_X6_126 (C : Cx G B dy RX6 cc nL p s m args c) {i : Nat} (h : kd i = 3) (d : decode cc pc = .ok (.getfield 126, 3)) (kk : WW G B p l e R s m args below meth c k n Q nL (pc + 3) lv (.ref (B + (i + 3)) :: st) σ) : WW G B p l e R s m args below meth c k n Q nL pc lv (.ref (B + i) :: st) σ := j_get C (shp3 G B σ h) (kd_lt h (by decide)) rfl inT3 1 (by decide) tw_160 (fun _ h => h) rfl d kk
theorem fg_X6_139 (C : Cx G B dy RX6 cc nL p s m args c) {i : Nat} (h : kd i = 5) (d : decode cc pc = .ok (.getfield 139, 3)) (kk : WW G B p l e R s m args below meth c k n Q nL (pc + 3) lv (.ref (B + (i + 11)) :: st) σ) : WW G B p l e R s m args below meth c k n Q nL pc lv (.ref (B + i) :: st) σ := j_get C (shp5 G B σ h) (kd_lt h (by decide)) rfl inT5 8 (by decide) tw_64 (fun _ h => h) rfl d kk
theorem fg_X6_145 (C : Cx G B dy RX6 cc nL p s m args c) {i : Nat} (h : kd i = 5) (d : decode cc pc = .ok (.getfield 145, 3)) (kk : WW G B p l e R s m args below meth c k n Q nL (pc + 3) lv (.int (σ.1 i 6) :: st) σ) : WW G B p l e R s m args below meth c k n Q nL pc lv (.ref (B + i) :: st) σ := j_get C (shp5 G B σ h) (kd_lt h (by decide)) rfl inT5 6 (by decide) tw_60 (fun _ h => h) rfl d kk
theorem fg_X6_184 (C : Cx G B dy RX6 cc nL p s m args c) {i : Nat} (h : kd i = 3) (d : decode cc pc = .ok (.getfield 184, 3)) (kk : WW G B p l e R s m args below meth c k n Q nL (pc + 3) lv (.ref (B + (i + 1)) :: st) σ) : WW G B p l e R s m args below meth c k n Q nL pc lv (.ref (B + i) :: st) σ := j_get C (shp3 G B σ h) (kd_lt h (by decide)) rfl inT3 0 (by decide) tw_157 (fun _ h => h) rfl d kk
theorem fg_X6_19 (C : Cx G B dy RX6 cc nL p s m args c) {i : Nat} (h : kd i = 6) (d : decode cc pc = .ok (.getfield 19, 3)) (kk : WW G B p l e R s m args below meth c k n Q nL (pc + 3) lv (.ref (B + 20) :: st) σ) : WW G B p l e R s m args below meth c k n Q nL pc lv (.ref (B + i) :: st) σ := j_get C (shp6 G B σ h) (kd_lt h (by decide)) rfl inT6 1 (by decide) tw_197 (fun _ h => h) rfl d kk
theorem fg_X6_236 (C : Cx G B dy RX6 cc nL p s m args c) {i : Nat} (h : kd i = 5) (d : decode cc pc = .ok (.getfield 236, 3)) (kk : WW G B p l e R s m args below meth c k n Q nL (pc + 3) lv (.int (σ.1 i 7) :: st) σ) : WW G B p l e R s m args below meth c k n Q nL pc lv (.ref (B + i) :: st) σ := j_get C (shp5 G B σ h) (kd_lt h (by decide)) rfl inT5 7 (by decide) tw_62 (fun _ h => h) rfl d kk
theorem fg_X6_268 (C : Cx G B dy RX6 cc nL p s m args c) {i : Nat} (h : kd i = 2) (d : decode cc pc = .ok (.getfield 268, 3)) (kk : WW G B p l e R s m args below meth c k n Q nL (pc + 3) lv (.int (σ.1 i 0) :: st) σ) : WW G B p l e R s m args below meth c k n Q nL pc lv (.ref (B + i) :: st) σ := j_get C (shp2 G B σ h) (kd_lt h (by decide)) rfl inT2 0 (by decide) tw_124 (fun _ h => h) rfl d kk
theorem fg_X6_271 (C : Cx G B dy RX6 cc nL p s m args c) {i : Nat} (h : kd i = 2) (d : decode cc pc = .ok (.getfield 271, 3)) (kk : WW G B p l e R s m args below meth c k n Q nL (pc + 3) lv (.int (σ.1 i 3) :: st) σ) : WW G B p l e R s m args below meth c k n Q nL pc lv (.ref (B + i) :: st) σ := j_get C (shp2 G B σ h) (kd_lt h (by decide)) rfl inT2 3 (by decide) tw_131 (fun _ h => h) rfl d kk
theorem fg_X6_278 (C : Cx G B dy RX6 cc nL p s m args c) {i : Nat} (h : kd i = 5) (d : decode cc pc = .ok (.getfield 278, 3)) (kk : WW G B p l e R s m args below meth c k n Q nL (pc + 3) lv (.ref (B + (i + 1)) :: st) σ) : WW G B p l e R s m args below meth c k n Q nL pc lv (.ref (B + i) :: st) σ := j_get C (shp5 G B σ h) (kd_lt h (by decide)) rfl inT5 1 (by decide) tw_45 (fun _ h => h) rfl d kk
theorem fg_X6_28 (C : Cx G B dy RX6 cc nL p s m args c) {i : Nat} (h : kd i = 6) (d : decode cc pc = .ok (.getfield 28, 3)) (kk : WW G B p l e R s m args below meth c k n Q nL (pc + 3) lv (.ref (B + 136) :: st) σ) : WW G B p l e R s m args below meth c k n Q nL pc lv (.ref (B + i) :: st) σ := j_get C (shp6 G B σ h) (kd_lt h (by decide)) rfl inT6 2 (by decide) tw_198 (fun _ h => h) rfl d kk
theorem fg_X6_281 (C : Cx G B dy RX6 cc nL p s m args c) {i : Nat} (h : kd i = 5) (d : decode cc pc = .ok (.getfield 281, 3)) (kk : WW G B p l e R s m args below meth c k n Q nL (pc + 3) lv (.ref (B + (i + 5)) :: st) σ) : WW G B p l e R s m args below meth c k n Q nL pc lv (.ref (B + i) :: st) σ := j_get C (shp5 G B σ h) (kd_lt h (by decide)) rfl inT5 3 (by decide) tw_51 (fun _ h => h) rfl d kk
theorem fg_X6_284 (C : Cx G B dy RX6 cc nL p s m args c) {i : Nat} (h : kd i = 5) (d : decode cc pc = .ok (.getfield 284, 3)) (kk : WW G B p l e R s m args below meth c k n Q nL (pc + 3) lv (.ref (B + (i + 7)) :: st) σ) : WW G B p l e R s m args below meth c k n Q nL pc lv (.ref (B + i) :: st) σ := j_get C (shp5 G B σ h) (kd_lt h (by decide)) rfl inT5 4 (by decide) tw_54 (fun _ h => h) rfl d kk
theorem fg_X6_287 (C : Cx G B dy RX6 cc nL p s m args c) {i : Nat} (h : kd i = 5) (d : decode cc pc = .ok (.getfield 287, 3)) (kk : WW G B p l e R s m args below meth c k n Q nL (pc + 3) lv (.ref (B + (i + 13)) :: st) σ) : WW G B p l e R s m args below meth c k n Q nL pc lv (.ref (B + i) :: st) σ := j_get C (shp5 G B σ h) (kd_lt h (by decide)) rfl inT5 9 (by decide) tw_66 (fun _ h => h) rfl d kk
theorem fg_X6_296 (C : Cx G B dy RX6 cc nL p s m args c) {i : Nat} (h : kd i = 5) (d : decode cc pc = .ok (.getfield 296, 3)) (kk : WW G B p l e R s m args below meth c k n Q nL (pc + 3) lv (.ref (B + (i + 15)) :: st) σ) : WW G B p l e R s m args below meth c k n Q nL pc lv (.ref (B + i) :: st) σ := j_get C (shp5 G B σ h) (kd_lt h (by decide)) rfl inT5 10 (by decide) tw_68 (fun _ h => h) rfl d kk
theorem fg_X6_35 (C : Cx G B dy RX6 cc nL p s m args c) {i : Nat} (h : kd i = 6) (d : decode cc pc = .ok (.getfield 35, 3)) (kk : WW G B p l e R s m args below meth c k n Q nL (pc + 3) lv (.ref (B + 138) :: st) σ) : WW G B p l e R s m args below meth c k n Q nL pc lv (.ref (B + i) :: st) σ := j_get C (shp6 G B σ h) (kd_lt h (by decide)) rfl inT6 3 (by decide) tw_199 (fun _ h => h) rfl d kk
theorem fg_X6_42 (C : Cx G B dy RX6 cc nL p s m args c) {i : Nat} (h : kd i = 6) (d : decode cc pc = .ok (.getfield 42, 3)) (kk : WW G B p l e R s m args below meth c k n Q nL (pc + 3) lv (.ref (B + 139) :: st) σ) : WW G B p l e R s m args below meth c k n Q nL pc lv (.ref (B + i) :: st) σ := j_get C (shp6 G B σ h) (kd_lt h (by decide)) rfl inT6 4 (by decide) tw_200 (fun _ h => h) rfl d kk
theorem fg_X6_49 (C : Cx G B dy RX6 cc nL p s m args c) {i : Nat} (h : kd i = 6) (d : decode cc pc = .ok (.getfield 49, 3)) (kk : WW G B p l e R s m args below meth c k n Q nL (pc + 3) lv (.ref (B + 144) :: st) σ) : WW G B p l e R s m args below meth c k n Q nL pc lv (.ref (B + i) :: st) σ := j_get C (shp6 G B σ h) (kd_lt h (by decide)) rfl inT6 5 (by decide) tw_201 (fun _ h => h) rfl d kk
theorem fg_X6_53 (C : Cx G B dy RX6 cc nL p s m args c) {i : Nat} (h : kd i = 6) (d : decode cc pc = .ok (.getfield 53, 3)) (kk : WW G B p l e R s m args below meth c k n Q nL (pc + 3) lv (.ref (B + 160) :: st) σ) : WW G B p l e R s m args below meth c k n Q nL pc lv (.ref (B + i) :: st) σ := j_get C (shp6 G B σ h) (kd_lt h (by decide)) rfl inT6 6 (by decide) tw_202 (fun _ h => h) rfl d kk
theorem fg_X6_60 (C : Cx G B dy RX6 cc nL p s m args c) {i : Nat} (h : kd i = 6) (d : decode cc pc = .ok (.getfield 60, 3)) (kk : WW G B p l e R s m args below meth c k n Q nL (pc + 3) lv (.ref (B + 176) :: st) σ) : WW G B p l e R s m args below meth c k n Q nL pc lv (.ref (B + i) :: st) σ := j_get C (shp6 G B σ h) (kd_lt h (by decide)) rfl inT6 7 (by decide) tw_203 (fun _ h => h) rfl d kk
theorem fg_X6_64 (C : Cx G B dy RX6 cc nL p s m args c) {i : Nat} (h : kd i = 6) (d : decode cc pc = .ok (.getfield 64, 3)) (kk : WW G B p l e R s m args below meth c k n Q nL (pc + 3) lv (.int (σ.1 i 8) :: st) σ) : WW G B p l e R s m args below meth c k n Q nL pc lv (.ref (B + i) :: st) σ := j_get C (shp6 G B σ h) (kd_lt h (by decide)) rfl inT6 8 (by decide) tw_204 (fun _ h => h) rfl d kk
theorem fg_X6_87 (C : Cx G B dy RX6 cc nL p s m args c) {i : Nat} (h : kd i = 5) (d : decode cc pc = .ok (.getfield 87, 3)) (kk : WW G B p l e R s m args below meth c k n Q nL (pc + 3) lv (.int (σ.1 i 0) :: st) σ) : WW G B p l e R s m args below meth c k n Q nL pc lv (.ref (B + i) :: st) σ := j_get C (shp5 G B σ h) (kd_lt h (by decide)) rfl inT5 0 (by decide) tw_42 (fun _ h => h) rfl d kk
theorem fg_X7_13 (C : Cx G B dy RX7 cc nL p s m args c) {i : Nat} (h : kd i = 7) (d : decode cc pc = .ok (.getfield 13, 3)) (kk : WW G B p l e R s m args below meth c k n Q nL (pc + 3) lv (.ref (B + 227) :: st) σ) : WW G B p l e R s m args below meth c k n Q nL pc lv (.ref (B + i) :: st) σ := j_get C (shp7 G B σ h) (kd_lt h (by decide)) rfl inT7 2 (by decide) tw_791 (fun _ h => h) rfl d kk
theorem fg_X7_16 (C : Cx G B dy RX7 cc nL p s m args c) {i : Nat} (h : kd i = 7) (d : decode cc pc = .ok (.getfield 16, 3)) (kk : WW G B p l e R s m args below meth c k n Q nL (pc + 3) lv (.ref (B + 228) :: st) σ) : WW G B p l e R s m args below meth c k n Q nL pc lv (.ref (B + i) :: st) σ := j_get C (shp7 G B σ h) (kd_lt h (by decide)) rfl inT7 4 (by decide) tw_793 (fun _ h => h) rfl d kk
theorem fg_X7_19 (C : Cx G B dy RX7 cc nL p s m args c) {i : Nat} (h : kd i = 7) (d : decode cc pc = .ok (.getfield 19, 3)) (kk : WW G B p l e R s m args below meth c k n Q nL (pc + 3) lv (.ref (B + 229) :: st) σ) : WW G B p l e R s m args below meth c k n Q nL pc lv (.ref (B + i) :: st) σ := j_get C (shp7 G B σ h) (kd_lt h (by decide)) rfl inT7 6 (by decide) tw_795 (fun _ h => h) rfl d kk
theorem fg_X7_203 (C : Cx G B dy RX7 cc nL p s m args c) {i : Nat} (h : kd i = 7) (d : decode cc pc = .ok (.getfield 203, 3)) (kk : WW G B p l e R s m args below meth c k n Q nL (pc + 3) lv (.long (σ.2 i) :: st) σ) : WW G B p l e R s m args below meth c k n Q nL pc lv (.ref (B + i) :: st) σ := j_get C (shp7 G B σ h) (kd_lt h (by decide)) rfl inT7 14 (by decide) tw_803 (fun _ h => h) rfl d kk
theorem fg_X7_22 (C : Cx G B dy RX7 cc nL p s m args c) {i : Nat} (h : kd i = 7) (d : decode cc pc = .ok (.getfield 22, 3)) (kk : WW G B p l e R s m args below meth c k n Q nL (pc + 3) lv (.ref (B + 230) :: st) σ) : WW G B p l e R s m args below meth c k n Q nL pc lv (.ref (B + i) :: st) σ := j_get C (shp7 G B σ h) (kd_lt h (by decide)) rfl inT7 7 (by decide) tw_796 (fun _ h => h) rfl d kk
theorem fg_X7_25 (C : Cx G B dy RX7 cc nL p s m args c) {i : Nat} (h : kd i = 7) (d : decode cc pc = .ok (.getfield 25, 3)) (kk : WW G B p l e R s m args below meth c k n Q nL (pc + 3) lv (.ref (B + 231) :: st) σ) : WW G B p l e R s m args below meth c k n Q nL pc lv (.ref (B + i) :: st) σ := j_get C (shp7 G B σ h) (kd_lt h (by decide)) rfl inT7 8 (by decide) tw_797 (fun _ h => h) rfl d kk
theorem fg_X7_29 (C : Cx G B dy RX7 cc nL p s m args c) {i : Nat} (h : kd i = 7) (d : decode cc pc = .ok (.getfield 29, 3)) (kk : WW G B p l e R s m args below meth c k n Q nL (pc + 3) lv (.ref (B + 232) :: st) σ) : WW G B p l e R s m args below meth c k n Q nL pc lv (.ref (B + i) :: st) σ := j_get C (shp7 G B σ h) (kd_lt h (by decide)) rfl inT7 9 (by decide) tw_798 (fun _ h => h) rfl d kk
theorem fg_X7_32 (C : Cx G B dy RX7 cc nL p s m args c) {i : Nat} (h : kd i = 7) (d : decode cc pc = .ok (.getfield 32, 3)) (kk : WW G B p l e R s m args below meth c k n Q nL (pc + 3) lv (.ref (B + 233) :: st) σ) : WW G B p l e R s m args below meth c k n Q nL pc lv (.ref (B + i) :: st) σ := j_get C (shp7 G B σ h) (kd_lt h (by decide)) rfl inT7 12 (by decide) tw_801 (fun _ h => h) rfl d kk
theorem fg_X7_35 (C : Cx G B dy RX7 cc nL p s m args c) {i : Nat} (h : kd i = 7) (d : decode cc pc = .ok (.getfield 35, 3)) (kk : WW G B p l e R s m args below meth c k n Q nL (pc + 3) lv (.ref (B + 234) :: st) σ) : WW G B p l e R s m args below meth c k n Q nL pc lv (.ref (B + i) :: st) σ := j_get C (shp7 G B σ h) (kd_lt h (by decide)) rfl inT7 13 (by decide) tw_802 (fun _ h => h) rfl d kk
theorem fg_X7_38 (C : Cx G B dy RX7 cc nL p s m args c) {i : Nat} (h : kd i = 7) (d : decode cc pc = .ok (.getfield 38, 3)) (kk : WW G B p l e R s m args below meth c k n Q nL (pc + 3) lv (.int (σ.1 i 0) :: st) σ) : WW G B p l e R s m args below meth c k n Q nL pc lv (.ref (B + i) :: st) σ := j_get C (shp7 G B σ h) (kd_lt h (by decide)) rfl inT7 0 (by decide) tw_789 (fun _ h => h) rfl d kk
theorem fg_X7_46 (C : Cx G B dy RX7 cc nL p s m args c) {i : Nat} (h : kd i = 7) (d : decode cc pc = .ok (.getfield 46, 3)) (kk : WW G B p l e R s m args below meth c k n Q nL (pc + 3) lv (.int (σ.1 i 3) :: st) σ) : WW G B p l e R s m args below meth c k n Q nL pc lv (.ref (B + i) :: st) σ := j_get C (shp7 G B σ h) (kd_lt h (by decide)) rfl inT7 3 (by decide) tw_792 (fun _ h => h) rfl d kk
theorem fg_X7_7 (C : Cx G B dy RX7 cc nL p s m args c) {i : Nat} (h : kd i = 7) (d : decode cc pc = .ok (.getfield 7, 3)) (kk : WW G B p l e R s m args below meth c k n Q nL (pc + 3) lv (.ref (B + 226) :: st) σ) : WW G B p l e R s m args below meth c k n Q nL pc lv (.ref (B + i) :: st) σ := j_get C (shp7 G B σ h) (kd_lt h (by decide)) rfl inT7 1 (by decide) tw_790 (fun _ h => h) rfl d kk
theorem fg_X7_77 (C : Cx G B dy RX7 cc nL p s m args c) {i : Nat} (h : kd i = 7) (d : decode cc pc = .ok (.getfield 77, 3)) (kk : WW G B p l e R s m args below meth c k n Q nL (pc + 3) lv (.int (σ.1 i 5) :: st) σ) : WW G B p l e R s m args below meth c k n Q nL pc lv (.ref (B + i) :: st) σ := j_get C (shp7 G B σ h) (kd_lt h (by decide)) rfl inT7 5 (by decide) tw_794 (fun _ h => h) rfl d kk
theorem fg_X7_84 (C : Cx G B dy RX7 cc nL p s m args c) {i : Nat} (h : kd i = 7) (d : decode cc pc = .ok (.getfield 84, 3)) (kk : WW G B p l e R s m args below meth c k n Q nL (pc + 3) lv (.int (σ.1 i 10) :: st) σ) : WW G B p l e R s m args below meth c k n Q nL pc lv (.ref (B + i) :: st) σ := j_get C (shp7 G B σ h) (kd_lt h (by decide)) rfl inT7 10 (by decide) tw_799 (fun _ h => h) rfl d kk
theorem fg_X7_87 (C : Cx G B dy RX7 cc nL p s m args c) {i : Nat} (h : kd i = 7) (d : decode cc pc = .ok (.getfield 87, 3)) (kk : WW G B p l e R s m args below meth c k n Q nL (pc + 3) lv (.int (σ.1 i 11) :: st) σ) : WW G B p l e R s m args below meth c k n Q nL pc lv (.ref (B + i) :: st) σ := j_get C (shp7 G B σ h) (kd_lt h (by decide)) rfl inT7 11 (by decide) tw_800 (fun _ h => h) rfl d kk
theorem fp_X1_17 (C : Cx G B dy RX1 cc nL p s m args c) {i : Nat} {v : Int32} (h : kd i = 1) (d : decode cc pc = .ok (.putfield 17, 3)) (kk : WW G B p l e R s m args below meth c k n Q nL (pc + 3) lv st (sI σ i 1 v)) : WW G B p l e R s m args below meth c k n Q nL pc lv (.int v :: .ref (B + i) :: st) σ := j_putx C (shp1 G B σ h) (kd_lt h (by decide)) rfl inT1 1 (by decide) tw_105 (fun _ h => h) tyX1 tyX1_ok nmX1 rfl (ty := .int) (by decide +kernel) rfl rfl (Nat.le_of_ble_eq_true rfl) (sI σ i 1 v) (pf1_1 G B σ h v) (fun j hj => shp_ne G B (sI_ne σ _ _ hj) rfl) d kk
theorem fp_X1_21 (C : Cx G B dy RX1 cc nL p s m args c) {i : Nat} {v : Int32} (h : kd i = 1) (d : decode cc pc = .ok (.putfield 21, 3)) (kk : WW G B p l e R s m args below meth c k n Q nL (pc + 3) lv st (sI σ i 2 v)) : WW G B p l e R s m args below meth c k n Q nL pc lv (.int v :: .ref (B + i) :: st) σ := j_putx C (shp1 G B σ h) (kd_lt h (by decide)) rfl inT1 2 (by decide) tw_106 (fun _ h => h) tyX1 tyX1_ok nmX1 rfl (ty := .int) (by decide +kernel) rfl rfl (Nat.le_of_ble_eq_true rfl) (sI σ i 2 v) (pf1_2 G B σ h v) (fun j hj => shp_ne G B (sI_ne σ _ _ hj) rfl) d kk
theorem fp_X2_11 (C : Cx G B dy RX2 cc nL p s m args c) {i : Nat} {v : Int32} (h : kd i = 2) (d : decode cc pc = .ok (.putfield 11, 3)) (kk : WW G B p l e R s m args below meth c k n Q nL (pc + 3) lv st (sI σ i 5 v)) : WW G B p l e R s m args below meth c k n Q nL pc lv (.int v :: .ref (B + i) :: st) σ := j_putx C (shp2 G B σ h) (kd_lt h (by decide)) rfl inT2 5 (by decide) tw_134 (fun _ h => h) tyX2 tyX2_ok nmX2 rfl (ty := .int) (by decide +kernel) rfl rfl (Nat.le_of_ble_eq_true rfl) (sI σ i 5 v) (pf2_5 G B σ h v) (fun j hj => shp_ne G B (sI_ne σ _ _ hj) rfl) d kk
theorem fp_X2_15 (C : Cx G B dy RX2 cc nL p s m args c) {i : Nat} {v : Int32} (h : kd i = 2) (d : decode cc pc = .ok (.putfield 15, 3)) (kk : WW G B p l e R s m args below meth c k n Q nL (pc + 3) lv st (sI σ i 0 v)) : WW G B p l e R s m args below meth c k n Q nL pc lv (.int v :: .ref (B + i) :: st) σ := j_putx C (shp2 G B σ h) (kd_lt h (by decide)) rfl inT2 0 (by decide) tw_122 (fun _ h => h) tyX2 tyX2_ok nmX2 rfl (ty := .int) (by decide +kernel) rfl rfl (Nat.le_of_ble_eq_true rfl) (sI σ i 0 v) (pf2_0 G B σ h v) (fun j hj => shp_ne G B (sI_ne σ _ _ hj) rfl) d kk
theorem fp_X2_18 (C : Cx G B dy RX2 cc nL p s m args c) {i : Nat} {v : Int32} (h : kd i = 2) (d : decode cc pc = .ok (.putfield 18, 3)) (kk : WW G B p l e R s m args below meth c k n Q nL (pc + 3) lv st (sI σ i 1 v)) : WW G B p l e R s m args below meth c k n Q nL pc lv (.int v :: .ref (B + i) :: st) σ := j_putx C (shp2 G B σ h) (kd_lt h (by decide)) rfl inT2 1 (by decide) tw_125 (fun _ h => h) tyX2 tyX2_ok nmX2 rfl (ty := .int) (by decide +kernel) rfl rfl (Nat.le_of_ble_eq_true rfl) (sI σ i 1 v) (pf2_1 G B σ h v) (fun j hj => shp_ne G B (sI_ne σ _ _ hj) rfl) d kk
theorem fp_X2_21 (C : Cx G B dy RX2 cc nL p s m args c) {i : Nat} {v : Int32} (h : kd i = 2) (hv : v = 0 ∨ v = 1) (d : decode cc pc = .ok (.putfield 21, 3)) (kk : WW G B p l e R s m args below meth c k n Q nL (pc + 3) lv st (sI σ i 2 v)) : WW G B p l e R s m args below meth c k n Q nL pc lv (.int v :: .ref (B + i) :: st) σ := j_putx C (shp2 G B σ h) (kd_lt h (by decide)) rfl inT2 2 (by decide) tw_127 (fun _ h => h) tyX2 tyX2_ok nmX2 rfl (ty := .boolean) (by decide +kernel) (nz01 hv) (fz01 hv) (Nat.le_of_ble_eq_true rfl) (sI σ i 2 v) (pf2_2 G B σ h v) (fun j hj => shp_ne G B (sI_ne σ _ _ hj) rfl) d kk
theorem fp_X2_25 (C : Cx G B dy RX2 cc nL p s m args c) {i : Nat} {v : Int32} (h : kd i = 2) (d : decode cc pc = .ok (.putfield 25, 3)) (kk : WW G B p l e R s m args below meth c k n Q nL (pc + 3) lv st (sI σ i 3 v)) : WW G B p l e R s m args below meth c k n Q nL pc lv (.int v :: .ref (B + i) :: st) σ := j_putx C (shp2 G B σ h) (kd_lt h (by decide)) rfl inT2 3 (by decide) tw_129 (fun _ h => h) tyX2 tyX2_ok nmX2 rfl (ty := .int) (by decide +kernel) rfl rfl (Nat.le_of_ble_eq_true rfl) (sI σ i 3 v) (pf2_3 G B σ h v) (fun j hj => shp_ne G B (sI_ne σ _ _ hj) rfl) d kk
theorem fp_X2_28 (C : Cx G B dy RX2 cc nL p s m args c) {i : Nat} {v : Int32} (h : kd i = 2) (d : decode cc pc = .ok (.putfield 28, 3)) (kk : WW G B p l e R s m args below meth c k n Q nL (pc + 3) lv st (sI σ i 4 v)) : WW G B p l e R s m args below meth c k n Q nL pc lv (.int v :: .ref (B + i) :: st) σ := j_putx C (shp2 G B σ h) (kd_lt h (by decide)) rfl inT2 4 (by decide) tw_132 (fun _ h => h) tyX2 tyX2_ok nmX2 rfl (ty := .int) (by decide +kernel) rfl rfl (Nat.le_of_ble_eq_true rfl) (sI σ i 4 v) (pf2_4 G B σ h v) (fun j hj => shp_ne G B (sI_ne σ _ _ hj) rfl) d kk
theorem fp_X3_27 (C : Cx G B dy RX3 cc nL p s m args c) {i : Nat} {v : Int32} (h : kd i = 3) (d : decode cc pc = .ok (.putfield 27, 3)) (kk : WW G B p l e R s m args below meth c k n Q nL (pc + 3) lv st (sI σ i 2 v)) : WW G B p l e R s m args below meth c k n Q nL pc lv (.int v :: .ref (B + i) :: st) σ := j_putx C (shp3 G B σ h) (kd_lt h (by decide)) rfl inT3 2 (by decide) tw_161 (fun _ h => h) tyX3 tyX3_ok nmX3 rfl (ty := .int) (by decide +kernel) rfl rfl (Nat.le_of_ble_eq_true rfl) (sI σ i 2 v) (pf3_2 G B σ h v) (fun j hj => shp_ne G B (sI_ne σ _ _ hj) rfl) d kk
theorem fp_X3_34 (C : Cx G B dy RX3 cc nL p s m args c) {i : Nat} {v : Int32} (h : kd i = 3) (d : decode cc pc = .ok (.putfield 34, 3)) (kk : WW G B p l e R s m args below meth c k n Q nL (pc + 3) lv st (sI σ i 3 v)) : WW G B p l e R s m args below meth c k n Q nL pc lv (.int v :: .ref (B + i) :: st) σ := j_putx C (shp3 G B σ h) (kd_lt h (by decide)) rfl inT3 3 (by decide) tw_162 (fun _ h => h) tyX3 tyX3_ok nmX3 rfl (ty := .int) (by decide +kernel) rfl rfl (Nat.le_of_ble_eq_true rfl) (sI σ i 3 v) (pf3_3 G B σ h v) (fun j hj => shp_ne G B (sI_ne σ _ _ hj) rfl) d kk
theorem fp_X3_46 (C : Cx G B dy RX3 cc nL p s m args c) {i : Nat} {v : Int32} (h : kd i = 3) (d : decode cc pc = .ok (.putfield 46, 3)) (kk : WW G B p l e R s m args below meth c k n Q nL (pc + 3) lv st (sI σ i 4 v)) : WW G B p l e R s m args below meth c k n Q nL pc lv (.int v :: .ref (B + i) :: st) σ := j_putx C (shp3 G B σ h) (kd_lt h (by decide)) rfl inT3 4 (by decide) tw_163 (fun _ h => h) tyX3 tyX3_ok nmX3 rfl (ty := .int) (by decide +kernel) rfl rfl (Nat.le_of_ble_eq_true rfl) (sI σ i 4 v) (pf3_4 G B σ h v) (fun j hj => shp_ne G B (sI_ne σ _ _ hj) rfl) d kk
theorem fp_X5_36 (C : Cx G B dy RX5 cc nL p s m args c) {i : Nat} {v : Int32} (h : kd i = 5) (d : decode cc pc = .ok (.putfield 36, 3)) (kk : WW G B p l e R s m args below meth c k n Q nL (pc + 3) lv st (sI σ i 6 v)) : WW G B p l e R s m args below meth c k n Q nL pc lv (.int v :: .ref (B + i) :: st) σ := j_putx C (shp5 G B σ h) (kd_lt h (by decide)) rfl inT5 6 (by decide) tw_58 (fun _ h => h) tyX5 tyX5_ok nmX5 rfl (ty := .int) (by decide +kernel) rfl rfl (Nat.le_of_ble_eq_true rfl) (sI σ i 6 v) (pf5_6 G B σ h v) (fun j hj => shp_ne G B (sI_ne σ _ _ hj) rfl) d kk
theorem fp_X5_39 (C : Cx G B dy RX5 cc nL p s m args c) {i : Nat} {v : Int32} (h : kd i = 5) (d : decode cc pc = .ok (.putfield 39, 3)) (kk : WW G B p l e R s m args below meth c k n Q nL (pc + 3) lv st (sI σ i 7 v)) : WW G B p l e R s m args below meth c k n Q nL pc lv (.int v :: .ref (B + i) :: st) σ := j_putx C (shp5 G B σ h) (kd_lt h (by decide)) rfl inT5 7 (by decide) tw_61 (fun _ h => h) tyX5 tyX5_ok nmX5 rfl (ty := .int) (by decide +kernel) rfl rfl (Nat.le_of_ble_eq_true rfl) (sI σ i 7 v) (pf5_7 G B σ h v) (fun j hj => shp_ne G B (sI_ne σ _ _ hj) rfl) d kk
theorem fp_X5_9 (C : Cx G B dy RX5 cc nL p s m args c) {i : Nat} {v : Int32} (h : kd i = 5) (d : decode cc pc = .ok (.putfield 9, 3)) (kk : WW G B p l e R s m args below meth c k n Q nL (pc + 3) lv st (sI σ i 0 v)) : WW G B p l e R s m args below meth c k n Q nL pc lv (.int v :: .ref (B + i) :: st) σ := j_putx C (shp5 G B σ h) (kd_lt h (by decide)) rfl inT5 0 (by decide) tw_40 (fun _ h => h) tyX5 tyX5_ok nmX5 rfl (ty := .int) (by decide +kernel) rfl rfl (Nat.le_of_ble_eq_true rfl) (sI σ i 0 v) (pf5_0 G B σ h v) (fun j hj => shp_ne G B (sI_ne σ _ _ hj) rfl) d kk
theorem fp_X6_64 (C : Cx G B dy RX6 cc nL p s m args c) {i : Nat} {v : Int32} (h : kd i = 6) (d : decode cc pc = .ok (.putfield 64, 3)) (kk : WW G B p l e R s m args below meth c k n Q nL (pc + 3) lv st (sI σ i 8 v)) : WW G B p l e R s m args below meth c k n Q nL pc lv (.int v :: .ref (B + i) :: st) σ := j_putx C (shp6 G B σ h) (kd_lt h (by decide)) rfl inT6 8 (by decide) tw_204 (fun _ h => h) tyX6 tyX6_ok nmX6 rfl (ty := .int) (by decide +kernel) rfl rfl (Nat.le_of_ble_eq_true rfl) (sI σ i 8 v) (pf6_8 G B σ h v) (fun j hj => shp_ne G B (sI_ne σ _ _ hj) rfl) d kk
theorem fp_X7_203 (C : Cx G B dy RX7 cc nL p s m args c) {i : Nat} {v : Int64} (h : kd i = 7) (d : decode cc pc = .ok (.putfield 203, 3)) (kk : WW G B p l e R s m args below meth c k n Q nL (pc + 3) lv st (sL σ i v)) : WW G B p l e R s m args below meth c k n Q nL pc lv (.long v :: .ref (B + i) :: st) σ := j_putx C (shp7 G B σ h) (kd_lt h (by decide)) rfl inT7 14 (by decide) tw_803 (fun _ h => h) tyX7 tyX7_ok nmX7 rfl (ty := .long) (by decide +kernel) rfl rfl (Nat.le_of_ble_eq_true rfl) (sL σ i v) (pf7_14 G B σ h v) (fun j hj => shp_ne G B rfl (sL_ne σ v hj)) d kk
theorem fp_X7_38 (C : Cx G B dy RX7 cc nL p s m args c) {i : Nat} {v : Int32} (h : kd i = 7) (d : decode cc pc = .ok (.putfield 38, 3)) (kk : WW G B p l e R s m args below meth c k n Q nL (pc + 3) lv st (sI σ i 0 v)) : WW G B p l e R s m args below meth c k n Q nL pc lv (.int v :: .ref (B + i) :: st) σ := j_putx C (shp7 G B σ h) (kd_lt h (by decide)) rfl inT7 0 (by decide) tw_789 (fun _ h => h) tyX7 tyX7_ok nmX7 rfl (ty := .int) (by decide +kernel) rfl rfl (Nat.le_of_ble_eq_true rfl) (sI σ i 0 v) (pf7_0 G B σ h v) (fun j hj => shp_ne G B (sI_ne σ _ _ hj) rfl) d kk
theorem fp_X7_46 (C : Cx G B dy RX7 cc nL p s m args c) {i : Nat} {v : Int32} (h : kd i = 7) (d : decode cc pc = .ok (.putfield 46, 3)) (kk : WW G B p l e R s m args below meth c k n Q nL (pc + 3) lv st (sI σ i 3 v)) : WW G B p l e R s m args below meth c k n Q nL pc lv (.int v :: .ref (B + i) :: st) σ := j_putx C (shp7 G B σ h) (kd_lt h (by decide)) rfl inT7 3 (by decide) tw_792 (fun _ h => h) tyX7 tyX7_ok nmX7 rfl (ty := .int) (by decide +kernel) rfl rfl (Nat.le_of_ble_eq_true rfl) (sI σ i 3 v) (pf7_3 G B σ h v) (fun j hj => shp_ne G B (sI_ne σ _ _ hj) rfl) d kk
theorem fp_X7_77 (C : Cx G B dy RX7 cc nL p s m args c) {i : Nat} {v : Int32} (h : kd i = 7) (d : decode cc pc = .ok (.putfield 77, 3)) (kk : WW G B p l e R s m args below meth c k n Q nL (pc + 3) lv st (sI σ i 5 v)) : WW G B p l e R s m args below meth c k n Q nL pc lv (.int v :: .ref (B + i) :: st) σ := j_putx C (shp7 G B σ h) (kd_lt h (by decide)) rfl inT7 5 (by decide) tw_794 (fun _ h => h) tyX7 tyX7_ok nmX7 rfl (ty := .int) (by decide +kernel) rfl rfl (Nat.le_of_ble_eq_true rfl) (sI σ i 5 v) (pf7_5 G B σ h v) (fun j hj => shp_ne G B (sI_ne σ _ _ hj) rfl) d kk
theorem fp_X7_84 (C : Cx G B dy RX7 cc nL p s m args c) {i : Nat} {v : Int32} (h : kd i = 7) (d : decode cc pc = .ok (.putfield 84, 3)) (kk : WW G B p l e R s m args below meth c k n Q nL (pc + 3) lv st (sI σ i 10 v)) : WW G B p l e R s m args below meth c k n Q nL pc lv (.int v :: .ref (B + i) :: st) σ := j_putx C (shp7 G B σ h) (kd_lt h (by decide)) rfl inT7 10 (by decide) tw_799 (fun _ h => h) tyX7 tyX7_ok nmX7 rfl (ty := .int) (by decide +kernel) rfl rfl (Nat.le_of_ble_eq_true rfl) (sI σ i 10 v) (pf7_10 G B σ h v) (fun j hj => shp_ne G B (sI_ne σ _ _ hj) rfl) d kk
theorem fp_X7_87 (C : Cx G B dy RX7 cc nL p s m args c) {i : Nat} {v : Int32} (h : kd i = 7) (hv : v = 0 ∨ v = 1) (d : decode cc pc = .ok (.putfield 87, 3)) (kk : WW G B p l e R s m args below meth c k n Q nL (pc + 3) lv st (sI σ i 11 v)) : WW G B p l e R s m args below meth c k n Q nL pc lv (.int v :: .ref (B + i) :: st) σ := j_putx C (shp7 G B σ h) (kd_lt h (by decide)) rfl inT7 11 (by decide) tw_800 (fun _ h => h) tyX7 tyX7_ok nmX7 rfl (ty := .boolean) (by decide +kernel) (nz01 hv) (fz01 hv) (Nat.le_of_ble_eq_true rfl) (sI σ i 11 v) (pf7_11 G B σ h v) (fun j hj => shp_ne G B (sI_ne σ _ _ hj) rfl) d kk
end JW
end
