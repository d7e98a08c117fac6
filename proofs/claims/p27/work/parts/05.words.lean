/-! words of the tables; kinds -/
theorem ti_0 : Cond.initialized RX0 ∈ TG := TG_in (List.mem_append_right _ (List.mem_of_getElem? (i := 7) (by decide +kernel))) (by decide +kernel)
theorem ti_1 : Cond.initialized RX1 ∈ TG := TG_in (List.mem_append_right _ (List.mem_of_getElem? (i := 4) (by decide +kernel))) (by decide +kernel)
theorem ti_2 : Cond.initialized RX2 ∈ TG := TG_in (List.mem_append_right _ (List.mem_of_getElem? (i := 5) (by decide +kernel))) (by decide +kernel)
theorem ti_3 : Cond.initialized RX3 ∈ TG := TG_in (List.mem_append_right _ (List.mem_of_getElem? (i := 6) (by decide +kernel))) (by decide +kernel)
theorem ti_4 : Cond.initialized RX4 ∈ TG := TG_in (List.mem_append_right _ (List.mem_of_getElem? (i := 3) (by decide +kernel))) (by decide +kernel)
theorem ti_5 : Cond.initialized RX5 ∈ TG := TG_in (List.mem_append_right _ (List.mem_of_getElem? (i := 2) (by decide +kernel))) (by decide +kernel)
theorem ti_6 : Cond.initialized RX6 ∈ TG := TG_in (List.mem_append_right _ (List.mem_of_getElem? (i := 1) (by decide +kernel))) (by decide +kernel)
theorem ti_L : Cond.initialized RL ∈ TG := TG_in (List.mem_append_right _ (List.mem_of_getElem? (i := 0) (by decide +kernel))) (by decide +kernel)
theorem tp_0 : Cond.selects yX6_needStick.cls yX6_needStick yX6_needStick ∈ TG := TG_in (List.mem_append_left _ (List.mem_of_getElem? (i := 0) (by decide +kernel))) (by decide +kernel)
theorem tp_10 : Cond.selects yX6_numberOf.cls yX6_numberOf yX6_numberOf ∈ TG := TG_in (List.mem_append_left _ (List.mem_of_getElem? (i := 10) (by decide +kernel))) (by decide +kernel)
theorem tp_11 : Cond.selects yX6_bufferTellsFeasts.cls yX6_bufferTellsFeasts yX6_bufferTellsFeasts ∈ TG := TG_in (List.mem_append_left _ (List.mem_of_getElem? (i := 11) (by decide +kernel))) (by decide +kernel)
theorem tp_12 : Cond.selects yX6_signsReadWell.cls yX6_signsReadWell yX6_signsReadWell ∈ TG := TG_in (List.mem_append_left _ (List.mem_of_getElem? (i := 12) (by decide +kernel))) (by decide +kernel)
theorem tp_13 : Cond.selects yX2_readsRule.cls yX2_readsRule yX2_readsRule ∈ TG := TG_in (List.mem_append_left _ (List.mem_of_getElem? (i := 13) (by decide +kernel))) (by decide +kernel)
theorem tp_14 : Cond.selects yX2_readsOther.cls yX2_readsOther yX2_readsOther ∈ TG := TG_in (List.mem_append_left _ (List.mem_of_getElem? (i := 14) (by decide +kernel))) (by decide +kernel)
theorem tp_15 : Cond.selects yX2_readsSign.cls yX2_readsSign yX2_readsSign ∈ TG := TG_in (List.mem_append_left _ (List.mem_of_getElem? (i := 15) (by decide +kernel))) (by decide +kernel)
theorem tp_16 : Cond.selects yX2_readsFirstDigit.cls yX2_readsFirstDigit yX2_readsFirstDigit ∈ TG := TG_in (List.mem_append_left _ (List.mem_of_getElem? (i := 16) (by decide +kernel))) (by decide +kernel)
theorem tp_17 : Cond.selects yX2_readsNextDigit.cls yX2_readsNextDigit yX2_readsNextDigit ∈ TG := TG_in (List.mem_append_left _ (List.mem_of_getElem? (i := 17) (by decide +kernel))) (by decide +kernel)
theorem tp_18 : Cond.selects yX2_hasWeekday.cls yX2_hasWeekday yX2_hasWeekday ∈ TG := TG_in (List.mem_append_left _ (List.mem_of_getElem? (i := 18) (by decide +kernel))) (by decide +kernel)
theorem tp_19 : Cond.selects yX2_readsComma.cls yX2_readsComma yX2_readsComma ∈ TG := TG_in (List.mem_append_left _ (List.mem_of_getElem? (i := 19) (by decide +kernel))) (by decide +kernel)
theorem tp_2 : Cond.selects yX6_stickProperty.cls yX6_stickProperty yX6_stickProperty ∈ TG := TG_in (List.mem_append_left _ (List.mem_of_getElem? (i := 2) (by decide +kernel))) (by decide +kernel)
theorem tp_20 : Cond.selects yX2_readsBehindRule.cls yX2_readsBehindRule yX2_readsBehindRule ∈ TG := TG_in (List.mem_append_left _ (List.mem_of_getElem? (i := 20) (by decide +kernel))) (by decide +kernel)
theorem tp_21 : Cond.selects yX2_readsSeparator.cls yX2_readsSeparator yX2_readsSeparator ∈ TG := TG_in (List.mem_append_left _ (List.mem_of_getElem? (i := 21) (by decide +kernel))) (by decide +kernel)
theorem tp_22 : Cond.selects yX2_readsRank.cls yX2_readsRank yX2_readsRank ∈ TG := TG_in (List.mem_append_left _ (List.mem_of_getElem? (i := 22) (by decide +kernel))) (by decide +kernel)
theorem tp_23 : Cond.selects yX1_stateAt.cls yX1_stateAt yX1_stateAt ∈ TG := TG_in (List.mem_append_left _ (List.mem_of_getElem? (i := 23) (by decide +kernel))) (by decide +kernel)
theorem tp_24 : Cond.selects yX6_addBufferedFeasts.cls yX6_addBufferedFeasts yX6_addBufferedFeasts ∈ TG := TG_in (List.mem_append_left _ (List.mem_of_getElem? (i := 24) (by decide +kernel))) (by decide +kernel)
theorem tp_25 : Cond.selects yX6_addReadFeast.cls yX6_addReadFeast yX6_addReadFeast ∈ TG := TG_in (List.mem_append_left _ (List.mem_of_getElem? (i := 25) (by decide +kernel))) (by decide +kernel)
theorem tp_26 : Cond.selects yX6_needFeast.cls yX6_needFeast yX6_needFeast ∈ TG := TG_in (List.mem_append_left _ (List.mem_of_getElem? (i := 26) (by decide +kernel))) (by decide +kernel)
theorem tp_27 : Cond.selects yX5_copyStick.cls yX5_copyStick yX5_copyStick ∈ TG := TG_in (List.mem_append_left _ (List.mem_of_getElem? (i := 27) (by decide +kernel))) (by decide +kernel)
theorem tp_28 : Cond.selects yX6_feastProperty.cls yX6_feastProperty yX6_feastProperty ∈ TG := TG_in (List.mem_append_left _ (List.mem_of_getElem? (i := 28) (by decide +kernel))) (by decide +kernel)
theorem tp_29 : Cond.selects yX6_lowestFeastOn.cls yX6_lowestFeastOn yX6_lowestFeastOn ∈ TG := TG_in (List.mem_append_left _ (List.mem_of_getElem? (i := 29) (by decide +kernel))) (by decide +kernel)
theorem tp_3 : Cond.selects yX6_staleFeasts.cls yX6_staleFeasts yX6_staleFeasts ∈ TG := TG_in (List.mem_append_left _ (List.mem_of_getElem? (i := 3) (by decide +kernel))) (by decide +kernel)
theorem tp_30 : Cond.selects yX6_freshPart.cls yX6_freshPart yX6_freshPart ∈ TG := TG_in (List.mem_append_left _ (List.mem_of_getElem? (i := 30) (by decide +kernel))) (by decide +kernel)
theorem tp_31 : Cond.selects yX6_calmestSlip.cls yX6_calmestSlip yX6_calmestSlip ∈ TG := TG_in (List.mem_append_left _ (List.mem_of_getElem? (i := 31) (by decide +kernel))) (by decide +kernel)
theorem tp_32 : Cond.selects yX6_nextAlike.cls yX6_nextAlike yX6_nextAlike ∈ TG := TG_in (List.mem_append_left _ (List.mem_of_getElem? (i := 32) (by decide +kernel))) (by decide +kernel)
theorem tp_33 : Cond.selects yX6_outermost.cls yX6_outermost yX6_outermost ∈ TG := TG_in (List.mem_append_left _ (List.mem_of_getElem? (i := 33) (by decide +kernel))) (by decide +kernel)
theorem tp_4 : Cond.selects yX3_dayByRule.cls yX3_dayByRule yX3_dayByRule ∈ TG := TG_in (List.mem_append_left _ (List.mem_of_getElem? (i := 4) (by decide +kernel))) (by decide +kernel)
theorem tp_5 : Cond.selects yX3_weekdayFrom.cls yX3_weekdayFrom yX3_weekdayFrom ∈ TG := TG_in (List.mem_append_left _ (List.mem_of_getElem? (i := 5) (by decide +kernel))) (by decide +kernel)
theorem tp_6 : Cond.selects yX3_weekdayPastMoon.cls yX3_weekdayPastMoon yX3_weekdayPastMoon ∈ TG := TG_in (List.mem_append_left _ (List.mem_of_getElem? (i := 6) (by decide +kernel))) (by decide +kernel)
theorem tp_7 : Cond.selects yX3_orNone.cls yX3_orNone yX3_orNone ∈ TG := TG_in (List.mem_append_left _ (List.mem_of_getElem? (i := 7) (by decide +kernel))) (by decide +kernel)
theorem tp_8 : Cond.selects yX3_cutNotches.cls yX3_cutNotches yX3_cutNotches ∈ TG := TG_in (List.mem_append_left _ (List.mem_of_getElem? (i := 8) (by decide +kernel))) (by decide +kernel)
theorem tp_9 : Cond.selects yX3_hasNotch.cls yX3_hasNotch yX3_hasNotch ∈ TG := TG_in (List.mem_append_left _ (List.mem_of_getElem? (i := 9) (by decide +kernel))) (by decide +kernel)
theorem tw_103 : Cond.fieldLink RX1 11 RX1 "ring" "[LRunicSticks$State;" ∈ TG := TG_in (List.mem_append_right _ (List.mem_of_getElem? (i := 103) (by decide +kernel))) (by decide +kernel)
theorem tw_104 : Cond.fieldLink RX1 17 RX1 "oldest" "I" ∈ TG := TG_in (List.mem_append_right _ (List.mem_of_getElem? (i := 104) (by decide +kernel))) (by decide +kernel)
theorem tw_105 : Cond.fieldLink RX1 21 RX1 "saved" "I" ∈ TG := TG_in (List.mem_append_right _ (List.mem_of_getElem? (i := 105) (by decide +kernel))) (by decide +kernel)
theorem tw_121 : Cond.fieldLink RX2 15 RX2 "rule" "I" ∈ TG := TG_in (List.mem_append_right _ (List.mem_of_getElem? (i := 121) (by decide +kernel))) (by decide +kernel)
theorem tw_122 : Cond.fieldLink RX5 58 RX2 "rule" "I" ∈ TG := TG_in (List.mem_append_right _ (List.mem_of_getElem? (i := 122) (by decide +kernel))) (by decide +kernel)
theorem tw_123 : Cond.fieldLink RX6 268 RX2 "rule" "I" ∈ TG := TG_in (List.mem_append_right _ (List.mem_of_getElem? (i := 123) (by decide +kernel))) (by decide +kernel)
theorem tw_124 : Cond.fieldLink RX2 18 RX2 "number" "I" ∈ TG := TG_in (List.mem_append_right _ (List.mem_of_getElem? (i := 124) (by decide +kernel))) (by decide +kernel)
theorem tw_125 : Cond.fieldLink RX5 74 RX2 "number" "I" ∈ TG := TG_in (List.mem_append_right _ (List.mem_of_getElem? (i := 125) (by decide +kernel))) (by decide +kernel)
theorem tw_126 : Cond.fieldLink RX2 21 RX2 "isMinus" "Z" ∈ TG := TG_in (List.mem_append_right _ (List.mem_of_getElem? (i := 126) (by decide +kernel))) (by decide +kernel)
theorem tw_127 : Cond.fieldLink RX5 70 RX2 "isMinus" "Z" ∈ TG := TG_in (List.mem_append_right _ (List.mem_of_getElem? (i := 127) (by decide +kernel))) (by decide +kernel)
theorem tw_128 : Cond.fieldLink RX2 25 RX2 "other" "I" ∈ TG := TG_in (List.mem_append_right _ (List.mem_of_getElem? (i := 128) (by decide +kernel))) (by decide +kernel)
theorem tw_129 : Cond.fieldLink RX5 77 RX2 "other" "I" ∈ TG := TG_in (List.mem_append_right _ (List.mem_of_getElem? (i := 129) (by decide +kernel))) (by decide +kernel)
theorem tw_130 : Cond.fieldLink RX6 271 RX2 "other" "I" ∈ TG := TG_in (List.mem_append_right _ (List.mem_of_getElem? (i := 130) (by decide +kernel))) (by decide +kernel)
theorem tw_131 : Cond.fieldLink RX2 28 RX2 "rankRead" "I" ∈ TG := TG_in (List.mem_append_right _ (List.mem_of_getElem? (i := 131) (by decide +kernel))) (by decide +kernel)
theorem tw_132 : Cond.fieldLink RX5 67 RX2 "rankRead" "I" ∈ TG := TG_in (List.mem_append_right _ (List.mem_of_getElem? (i := 132) (by decide +kernel))) (by decide +kernel)
theorem tw_133 : Cond.fieldLink RX2 11 RX2 "place" "I" ∈ TG := TG_in (List.mem_append_right _ (List.mem_of_getElem? (i := 133) (by decide +kernel))) (by decide +kernel)
theorem tw_155 : Cond.fieldLink RX3 14 RX3 "propers" "LRunicSticks$Row;" ∈ TG := TG_in (List.mem_append_right _ (List.mem_of_getElem? (i := 155) (by decide +kernel))) (by decide +kernel)
theorem tw_156 : Cond.fieldLink RX6 184 RX3 "propers" "LRunicSticks$Row;" ∈ TG := TG_in (List.mem_append_right _ (List.mem_of_getElem? (i := 156) (by decide +kernel))) (by decide +kernel)
theorem tw_157 : Cond.fieldLink RX3 20 RX3 "notches" "LRunicSticks$Row;" ∈ TG := TG_in (List.mem_append_right _ (List.mem_of_getElem? (i := 157) (by decide +kernel))) (by decide +kernel)
theorem tw_158 : Cond.fieldLink RX0 44 RX3 "notches" "LRunicSticks$Row;" ∈ TG := TG_in (List.mem_append_right _ (List.mem_of_getElem? (i := 158) (by decide +kernel))) (by decide +kernel)
theorem tw_159 : Cond.fieldLink RX6 126 RX3 "notches" "LRunicSticks$Row;" ∈ TG := TG_in (List.mem_append_right _ (List.mem_of_getElem? (i := 159) (by decide +kernel))) (by decide +kernel)
theorem tw_160 : Cond.fieldLink RX3 27 RX3 "days" "I" ∈ TG := TG_in (List.mem_append_right _ (List.mem_of_getElem? (i := 160) (by decide +kernel))) (by decide +kernel)
theorem tw_161 : Cond.fieldLink RX3 34 RX3 "firstWeekday" "I" ∈ TG := TG_in (List.mem_append_right _ (List.mem_of_getElem? (i := 161) (by decide +kernel))) (by decide +kernel)
theorem tw_162 : Cond.fieldLink RX3 46 RX3 "shift" "I" ∈ TG := TG_in (List.mem_append_right _ (List.mem_of_getElem? (i := 162) (by decide +kernel))) (by decide +kernel)
theorem tw_182 : Cond.fieldLink RX0 12 RX0 "first" "LRunicSticks$Reckoning;" ∈ TG := TG_in (List.mem_append_right _ (List.mem_of_getElem? (i := 182) (by decide +kernel))) (by decide +kernel)
theorem tw_183 : Cond.fieldLink RX0 18 RX0 "second" "LRunicSticks$Reckoning;" ∈ TG := TG_in (List.mem_append_right _ (List.mem_of_getElem? (i := 183) (by decide +kernel))) (by decide +kernel)
theorem tw_184 : Cond.fieldLink RX0 21 RX0 "third" "LRunicSticks$Reckoning;" ∈ TG := TG_in (List.mem_append_right _ (List.mem_of_getElem? (i := 184) (by decide +kernel))) (by decide +kernel)
theorem tw_195 : Cond.fieldLink RX6 12 RX6 "now" "LRunicSticks$State;" ∈ TG := TG_in (List.mem_append_right _ (List.mem_of_getElem? (i := 195) (by decide +kernel))) (by decide +kernel)
theorem tw_196 : Cond.fieldLink RX6 19 RX6 "history" "LRunicSticks$History;" ∈ TG := TG_in (List.mem_append_right _ (List.mem_of_getElem? (i := 196) (by decide +kernel))) (by decide +kernel)
theorem tw_197 : Cond.fieldLink RX6 28 RX6 "buffer" "LRunicSticks$Row;" ∈ TG := TG_in (List.mem_append_right _ (List.mem_of_getElem? (i := 197) (by decide +kernel))) (by decide +kernel)
theorem tw_198 : Cond.fieldLink RX6 35 RX6 "reader" "LRunicSticks$Reader;" ∈ TG := TG_in (List.mem_append_right _ (List.mem_of_getElem? (i := 198) (by decide +kernel))) (by decide +kernel)
theorem tw_199 : Cond.fieldLink RX6 42 RX6 "reckoning" "LRunicSticks$Reckoning;" ∈ TG := TG_in (List.mem_append_right _ (List.mem_of_getElem? (i := 199) (by decide +kernel))) (by decide +kernel)
theorem tw_200 : Cond.fieldLink RX6 49 RX6 "council" "LRunicSticks$Council;" ∈ TG := TG_in (List.mem_append_right _ (List.mem_of_getElem? (i := 200) (by decide +kernel))) (by decide +kernel)
theorem tw_201 : Cond.fieldLink RX6 53 RX6 "rival" "LRunicSticks$Council;" ∈ TG := TG_in (List.mem_append_right _ (List.mem_of_getElem? (i := 201) (by decide +kernel))) (by decide +kernel)
theorem tw_203 : Cond.fieldLink RX6 64 RX6 "bufferLength" "I" ∈ TG := TG_in (List.mem_append_right _ (List.mem_of_getElem? (i := 203) (by decide +kernel))) (by decide +kernel)
theorem tw_223 : Cond.methodLink RL 76 yX6_stick ∈ TG := TG_in (List.mem_append_right _ (List.mem_of_getElem? (i := 223) (by decide +kernel))) (by decide +kernel)
theorem tw_224 : Cond.instanceMethod yX6_stick ∈ TG := TG_in (List.mem_append_right _ (List.mem_of_getElem? (i := 224) (by decide +kernel))) (by decide +kernel)
theorem tw_225 : Cond.selects yX6_stick.cls yX6_stick yX6_stick ∈ TG := TG_in (List.mem_append_right _ (List.mem_of_getElem? (i := 225) (by decide +kernel))) (by decide +kernel)
theorem tw_226 : Cond.code yX6_stick cX6_stick 3 (some .int) ∈ TG := TG_in (List.mem_append_right _ (List.mem_of_getElem? (i := 226) (by decide +kernel))) (by decide +kernel)
theorem tw_227 : Cond.methodLink RX6 136 yX6_needStick ∈ TG := TG_in (List.mem_append_right _ (List.mem_of_getElem? (i := 227) (by decide +kernel))) (by decide +kernel)
theorem tw_229 : Cond.instanceMethod yX6_needStick ∈ TG := TG_in (List.mem_append_right _ (List.mem_of_getElem? (i := 229) (by decide +kernel))) (by decide +kernel)
theorem tw_230 : Cond.code yX6_needStick cX6_needStick 2 none ∈ TG := TG_in (List.mem_append_right _ (List.mem_of_getElem? (i := 230) (by decide +kernel))) (by decide +kernel)
theorem tw_299 : Cond.methodLink RX6 98 yX6_needWithin ∈ TG := TG_in (List.mem_append_right _ (List.mem_of_getElem? (i := 299) (by decide +kernel))) (by decide +kernel)
theorem tw_300 : Cond.static yX6_needWithin ∈ TG := TG_in (List.mem_append_right _ (List.mem_of_getElem? (i := 300) (by decide +kernel))) (by decide +kernel)
theorem tw_301 : Cond.code yX6_needWithin cX6_needWithin 3 none ∈ TG := TG_in (List.mem_append_right _ (List.mem_of_getElem? (i := 301) (by decide +kernel))) (by decide +kernel)
theorem tw_318 : Cond.methodLink RX6 197 yX6_stickProperty ∈ TG := TG_in (List.mem_append_right _ (List.mem_of_getElem? (i := 318) (by decide +kernel))) (by decide +kernel)
theorem tw_320 : Cond.instanceMethod yX6_stickProperty ∈ TG := TG_in (List.mem_append_right _ (List.mem_of_getElem? (i := 320) (by decide +kernel))) (by decide +kernel)
theorem tw_321 : Cond.code yX6_stickProperty cX6_stickProperty 3 (some .int) ∈ TG := TG_in (List.mem_append_right _ (List.mem_of_getElem? (i := 321) (by decide +kernel))) (by decide +kernel)
theorem tw_322 : Cond.methodLink RX6 105 yX4_at ∈ TG := TG_in (List.mem_append_right _ (List.mem_of_getElem? (i := 322) (by decide +kernel))) (by decide +kernel)
theorem tw_323 : Cond.instanceMethod yX4_at ∈ TG := TG_in (List.mem_append_right _ (List.mem_of_getElem? (i := 323) (by decide +kernel))) (by decide +kernel)
theorem tw_324 : Cond.selects yX4_at.cls yX4_at yX4_at ∈ TG := TG_in (List.mem_append_right _ (List.mem_of_getElem? (i := 324) (by decide +kernel))) (by decide +kernel)
theorem tw_325 : Cond.code yX4_at cX4_at 2 (some .int) ∈ TG := TG_in (List.mem_append_right _ (List.mem_of_getElem? (i := 325) (by decide +kernel))) (by decide +kernel)
theorem tw_326 : Cond.methodLink RX6 133 yX5_notchesOfStick ∈ TG := TG_in (List.mem_append_right _ (List.mem_of_getElem? (i := 326) (by decide +kernel))) (by decide +kernel)
theorem tw_327 : Cond.instanceMethod yX5_notchesOfStick ∈ TG := TG_in (List.mem_append_right _ (List.mem_of_getElem? (i := 327) (by decide +kernel))) (by decide +kernel)
theorem tw_328 : Cond.selects yX5_notchesOfStick.cls yX5_notchesOfStick yX5_notchesOfStick ∈ TG := TG_in (List.mem_append_right _ (List.mem_of_getElem? (i := 328) (by decide +kernel))) (by decide +kernel)
theorem tw_329 : Cond.code yX5_notchesOfStick cX5_notchesOfStick 4 (some .int) ∈ TG := TG_in (List.mem_append_right _ (List.mem_of_getElem? (i := 329) (by decide +kernel))) (by decide +kernel)
theorem tw_330 : Cond.methodLink RX5 87 yX5_stickNotch ∈ TG := TG_in (List.mem_append_right _ (List.mem_of_getElem? (i := 330) (by decide +kernel))) (by decide +kernel)
theorem tw_331 : Cond.instanceMethod yX5_stickNotch ∈ TG := TG_in (List.mem_append_right _ (List.mem_of_getElem? (i := 331) (by decide +kernel))) (by decide +kernel)
theorem tw_332 : Cond.selects yX5_stickNotch.cls yX5_stickNotch yX5_stickNotch ∈ TG := TG_in (List.mem_append_right _ (List.mem_of_getElem? (i := 332) (by decide +kernel))) (by decide +kernel)
theorem tw_333 : Cond.code yX5_stickNotch cX5_stickNotch 3 (some .int) ∈ TG := TG_in (List.mem_append_right _ (List.mem_of_getElem? (i := 333) (by decide +kernel))) (by decide +kernel)
theorem tw_334 : Cond.methodLink RX5 83 yX4_at ∈ TG := TG_in (List.mem_append_right _ (List.mem_of_getElem? (i := 334) (by decide +kernel))) (by decide +kernel)
theorem tw_335 : Cond.methodLink RX6 290 yX6_staleFeasts ∈ TG := TG_in (List.mem_append_right _ (List.mem_of_getElem? (i := 335) (by decide +kernel))) (by decide +kernel)
theorem tw_337 : Cond.instanceMethod yX6_staleFeasts ∈ TG := TG_in (List.mem_append_right _ (List.mem_of_getElem? (i := 337) (by decide +kernel))) (by decide +kernel)
theorem tw_338 : Cond.code yX6_staleFeasts cX6_staleFeasts 8 (some .int) ∈ TG := TG_in (List.mem_append_right _ (List.mem_of_getElem? (i := 338) (by decide +kernel))) (by decide +kernel)
theorem tw_339 : Cond.methodLink RX6 122 yX3_reckon ∈ TG := TG_in (List.mem_append_right _ (List.mem_of_getElem? (i := 339) (by decide +kernel))) (by decide +kernel)
theorem tw_34 : Cond.fieldLink RX4 9 RX4 "cells" "[I" ∈ TG := TG_in (List.mem_append_right _ (List.mem_of_getElem? (i := 34) (by decide +kernel))) (by decide +kernel)
theorem tw_340 : Cond.instanceMethod yX3_reckon ∈ TG := TG_in (List.mem_append_right _ (List.mem_of_getElem? (i := 340) (by decide +kernel))) (by decide +kernel)
theorem tw_341 : Cond.selects yX3_reckon.cls yX3_reckon yX3_reckon ∈ TG := TG_in (List.mem_append_right _ (List.mem_of_getElem? (i := 341) (by decide +kernel))) (by decide +kernel)
theorem tw_342 : Cond.code yX3_reckon cX3_reckon 5 none ∈ TG := TG_in (List.mem_append_right _ (List.mem_of_getElem? (i := 342) (by decide +kernel))) (by decide +kernel)
theorem tw_344 : Cond.static yX6_daysIn ∈ TG := TG_in (List.mem_append_right _ (List.mem_of_getElem? (i := 344) (by decide +kernel))) (by decide +kernel)
theorem tw_345 : Cond.code yX6_daysIn cX6_daysIn 1 (some .int) ∈ TG := TG_in (List.mem_append_right _ (List.mem_of_getElem? (i := 345) (by decide +kernel))) (by decide +kernel)
theorem tw_346 : Cond.methodLink RX6 252 yX6_isLeap ∈ TG := TG_in (List.mem_append_right _ (List.mem_of_getElem? (i := 346) (by decide +kernel))) (by decide +kernel)
theorem tw_347 : Cond.static yX6_isLeap ∈ TG := TG_in (List.mem_append_right _ (List.mem_of_getElem? (i := 347) (by decide +kernel))) (by decide +kernel)
theorem tw_348 : Cond.code yX6_isLeap cX6_isLeap 1 (some .boolean) ∈ TG := TG_in (List.mem_append_right _ (List.mem_of_getElem? (i := 348) (by decide +kernel))) (by decide +kernel)
theorem tw_350 : Cond.static yX6_newYearWeekday ∈ TG := TG_in (List.mem_append_right _ (List.mem_of_getElem? (i := 350) (by decide +kernel))) (by decide +kernel)
theorem tw_351 : Cond.code yX6_newYearWeekday cX6_newYearWeekday 2 (some .int) ∈ TG := TG_in (List.mem_append_right _ (List.mem_of_getElem? (i := 351) (by decide +kernel))) (by decide +kernel)
theorem tw_353 : Cond.static yX6_moonShift ∈ TG := TG_in (List.mem_append_right _ (List.mem_of_getElem? (i := 353) (by decide +kernel))) (by decide +kernel)
theorem tw_354 : Cond.code yX6_moonShift cX6_moonShift 4 (some .int) ∈ TG := TG_in (List.mem_append_right _ (List.mem_of_getElem? (i := 354) (by decide +kernel))) (by decide +kernel)
theorem tw_355 : Cond.methodLink RX3 52 yX3_dayByRule ∈ TG := TG_in (List.mem_append_right _ (List.mem_of_getElem? (i := 355) (by decide +kernel))) (by decide +kernel)
theorem tw_357 : Cond.instanceMethod yX3_dayByRule ∈ TG := TG_in (List.mem_append_right _ (List.mem_of_getElem? (i := 357) (by decide +kernel))) (by decide +kernel)
theorem tw_358 : Cond.code yX3_dayByRule cX3_dayByRule 5 (some .int) ∈ TG := TG_in (List.mem_append_right _ (List.mem_of_getElem? (i := 358) (by decide +kernel))) (by decide +kernel)
theorem tw_359 : Cond.methodLink RX3 70 yX4_at ∈ TG := TG_in (List.mem_append_right _ (List.mem_of_getElem? (i := 359) (by decide +kernel))) (by decide +kernel)
theorem tw_360 : Cond.methodLink RX3 81 yX3_weekdayFrom ∈ TG := TG_in (List.mem_append_right _ (List.mem_of_getElem? (i := 360) (by decide +kernel))) (by decide +kernel)
theorem tw_362 : Cond.instanceMethod yX3_weekdayFrom ∈ TG := TG_in (List.mem_append_right _ (List.mem_of_getElem? (i := 362) (by decide +kernel))) (by decide +kernel)
theorem tw_363 : Cond.code yX3_weekdayFrom cX3_weekdayFrom 4 (some .int) ∈ TG := TG_in (List.mem_append_right _ (List.mem_of_getElem? (i := 363) (by decide +kernel))) (by decide +kernel)
theorem tw_364 : Cond.methodLink RX3 85 yX3_weekdayPastMoon ∈ TG := TG_in (List.mem_append_right _ (List.mem_of_getElem? (i := 364) (by decide +kernel))) (by decide +kernel)
theorem tw_366 : Cond.instanceMethod yX3_weekdayPastMoon ∈ TG := TG_in (List.mem_append_right _ (List.mem_of_getElem? (i := 366) (by decide +kernel))) (by decide +kernel)
theorem tw_367 : Cond.code yX3_weekdayPastMoon cX3_weekdayPastMoon 4 (some .int) ∈ TG := TG_in (List.mem_append_right _ (List.mem_of_getElem? (i := 367) (by decide +kernel))) (by decide +kernel)
theorem tw_369 : Cond.static yX6_moonAge ∈ TG := TG_in (List.mem_append_right _ (List.mem_of_getElem? (i := 369) (by decide +kernel))) (by decide +kernel)
theorem tw_370 : Cond.code yX6_moonAge cX6_moonAge 2 (some .int) ∈ TG := TG_in (List.mem_append_right _ (List.mem_of_getElem? (i := 370) (by decide +kernel))) (by decide +kernel)
theorem tw_371 : Cond.methodLink RX3 56 yX3_orNone ∈ TG := TG_in (List.mem_append_right _ (List.mem_of_getElem? (i := 371) (by decide +kernel))) (by decide +kernel)
theorem tw_373 : Cond.instanceMethod yX3_orNone ∈ TG := TG_in (List.mem_append_right _ (List.mem_of_getElem? (i := 373) (by decide +kernel))) (by decide +kernel)
theorem tw_374 : Cond.code yX3_orNone cX3_orNone 2 (some .int) ∈ TG := TG_in (List.mem_append_right _ (List.mem_of_getElem? (i := 374) (by decide +kernel))) (by decide +kernel)
theorem tw_375 : Cond.methodLink RX3 59 yX4_put ∈ TG := TG_in (List.mem_append_right _ (List.mem_of_getElem? (i := 375) (by decide +kernel))) (by decide +kernel)
theorem tw_376 : Cond.instanceMethod yX4_put ∈ TG := TG_in (List.mem_append_right _ (List.mem_of_getElem? (i := 376) (by decide +kernel))) (by decide +kernel)
theorem tw_377 : Cond.selects yX4_put.cls yX4_put yX4_put ∈ TG := TG_in (List.mem_append_right _ (List.mem_of_getElem? (i := 377) (by decide +kernel))) (by decide +kernel)
theorem tw_378 : Cond.code yX4_put cX4_put 3 none ∈ TG := TG_in (List.mem_append_right _ (List.mem_of_getElem? (i := 378) (by decide +kernel))) (by decide +kernel)
theorem tw_379 : Cond.methodLink RX3 63 yX4_putNowhere ∈ TG := TG_in (List.mem_append_right _ (List.mem_of_getElem? (i := 379) (by decide +kernel))) (by decide +kernel)
theorem tw_380 : Cond.instanceMethod yX4_putNowhere ∈ TG := TG_in (List.mem_append_right _ (List.mem_of_getElem? (i := 380) (by decide +kernel))) (by decide +kernel)
theorem tw_381 : Cond.selects yX4_putNowhere.cls yX4_putNowhere yX4_putNowhere ∈ TG := TG_in (List.mem_append_right _ (List.mem_of_getElem? (i := 381) (by decide +kernel))) (by decide +kernel)
theorem tw_382 : Cond.code yX4_putNowhere cX4_putNowhere 2 none ∈ TG := TG_in (List.mem_append_right _ (List.mem_of_getElem? (i := 382) (by decide +kernel))) (by decide +kernel)
theorem tw_383 : Cond.methodLink RX3 66 yX3_cutNotches ∈ TG := TG_in (List.mem_append_right _ (List.mem_of_getElem? (i := 383) (by decide +kernel))) (by decide +kernel)
theorem tw_385 : Cond.instanceMethod yX3_cutNotches ∈ TG := TG_in (List.mem_append_right _ (List.mem_of_getElem? (i := 385) (by decide +kernel))) (by decide +kernel)
theorem tw_386 : Cond.code yX3_cutNotches cX3_cutNotches 6 none ∈ TG := TG_in (List.mem_append_right _ (List.mem_of_getElem? (i := 386) (by decide +kernel))) (by decide +kernel)
theorem tw_387 : Cond.methodLink RX3 94 yX3_hasNotch ∈ TG := TG_in (List.mem_append_right _ (List.mem_of_getElem? (i := 387) (by decide +kernel))) (by decide +kernel)
theorem tw_389 : Cond.instanceMethod yX3_hasNotch ∈ TG := TG_in (List.mem_append_right _ (List.mem_of_getElem? (i := 389) (by decide +kernel))) (by decide +kernel)
theorem tw_39 : Cond.fieldLink RX5 9 RX5 "feasts" "I" ∈ TG := TG_in (List.mem_append_right _ (List.mem_of_getElem? (i := 39) (by decide +kernel))) (by decide +kernel)
theorem tw_390 : Cond.code yX3_hasNotch cX3_hasNotch 4 (some .boolean) ∈ TG := TG_in (List.mem_append_right _ (List.mem_of_getElem? (i := 390) (by decide +kernel))) (by decide +kernel)
theorem tw_391 : Cond.methodLink RX6 293 yX5_stickNotch ∈ TG := TG_in (List.mem_append_right _ (List.mem_of_getElem? (i := 391) (by decide +kernel))) (by decide +kernel)
theorem tw_392 : Cond.methodLink RL 24 yX6_count ∈ TG := TG_in (List.mem_append_right _ (List.mem_of_getElem? (i := 392) (by decide +kernel))) (by decide +kernel)
theorem tw_393 : Cond.instanceMethod yX6_count ∈ TG := TG_in (List.mem_append_right _ (List.mem_of_getElem? (i := 393) (by decide +kernel))) (by decide +kernel)
theorem tw_394 : Cond.selects yX6_count.cls yX6_count yX6_count ∈ TG := TG_in (List.mem_append_right _ (List.mem_of_getElem? (i := 394) (by decide +kernel))) (by decide +kernel)
theorem tw_395 : Cond.code yX6_count cX6_count 2 (some .int) ∈ TG := TG_in (List.mem_append_right _ (List.mem_of_getElem? (i := 395) (by decide +kernel))) (by decide +kernel)
theorem tw_396 : Cond.methodLink RX6 200 yX6_numberOf ∈ TG := TG_in (List.mem_append_right _ (List.mem_of_getElem? (i := 396) (by decide +kernel))) (by decide +kernel)
theorem tw_398 : Cond.instanceMethod yX6_numberOf ∈ TG := TG_in (List.mem_append_right _ (List.mem_of_getElem? (i := 398) (by decide +kernel))) (by decide +kernel)
theorem tw_399 : Cond.code yX6_numberOf cX6_numberOf 2 (some .int) ∈ TG := TG_in (List.mem_append_right _ (List.mem_of_getElem? (i := 399) (by decide +kernel))) (by decide +kernel)
theorem tw_40 : Cond.fieldLink RX3 49 RX5 "feasts" "I" ∈ TG := TG_in (List.mem_append_right _ (List.mem_of_getElem? (i := 40) (by decide +kernel))) (by decide +kernel)
theorem tw_400 : Cond.methodLink RX6 161 yX1_size ∈ TG := TG_in (List.mem_append_right _ (List.mem_of_getElem? (i := 400) (by decide +kernel))) (by decide +kernel)
theorem tw_401 : Cond.instanceMethod yX1_size ∈ TG := TG_in (List.mem_append_right _ (List.mem_of_getElem? (i := 401) (by decide +kernel))) (by decide +kernel)
theorem tw_402 : Cond.selects yX1_size.cls yX1_size yX1_size ∈ TG := TG_in (List.mem_append_right _ (List.mem_of_getElem? (i := 402) (by decide +kernel))) (by decide +kernel)
theorem tw_403 : Cond.code yX1_size cX1_size 1 (some .int) ∈ TG := TG_in (List.mem_append_right _ (List.mem_of_getElem? (i := 403) (by decide +kernel))) (by decide +kernel)
theorem tw_407 : Cond.methodLink RL 14 yL_low ∈ TG := TG_in (List.mem_append_right _ (List.mem_of_getElem? (i := 407) (by decide +kernel))) (by decide +kernel)
theorem tw_408 : Cond.static yL_low ∈ TG := TG_in (List.mem_append_right _ (List.mem_of_getElem? (i := 408) (by decide +kernel))) (by decide +kernel)
theorem tw_409 : Cond.code yL_low cL_low 2 (some .int) ∈ TG := TG_in (List.mem_append_right _ (List.mem_of_getElem? (i := 409) (by decide +kernel))) (by decide +kernel)
theorem tw_41 : Cond.fieldLink RX6 87 RX5 "feasts" "I" ∈ TG := TG_in (List.mem_append_right _ (List.mem_of_getElem? (i := 41) (by decide +kernel))) (by decide +kernel)
theorem tw_410 : Cond.constant RL 7 2147483647 ∈ TG := TG_in (List.mem_append_right _ (List.mem_of_getElem? (i := 410) (by decide +kernel))) (by decide +kernel)
theorem tw_414 : Cond.methodLink RL 27 yL_typed ∈ TG := TG_in (List.mem_append_right _ (List.mem_of_getElem? (i := 414) (by decide +kernel))) (by decide +kernel)
theorem tw_415 : Cond.static yL_typed ∈ TG := TG_in (List.mem_append_right _ (List.mem_of_getElem? (i := 415) (by decide +kernel))) (by decide +kernel)
theorem tw_416 : Cond.code yL_typed cL_typed 4 none ∈ TG := TG_in (List.mem_append_right _ (List.mem_of_getElem? (i := 416) (by decide +kernel))) (by decide +kernel)
theorem tw_417 : Cond.methodLink RL 8 yX6_append ∈ TG := TG_in (List.mem_append_right _ (List.mem_of_getElem? (i := 417) (by decide +kernel))) (by decide +kernel)
theorem tw_418 : Cond.instanceMethod yX6_append ∈ TG := TG_in (List.mem_append_right _ (List.mem_of_getElem? (i := 418) (by decide +kernel))) (by decide +kernel)
theorem tw_419 : Cond.selects yX6_append.cls yX6_append yX6_append ∈ TG := TG_in (List.mem_append_right _ (List.mem_of_getElem? (i := 419) (by decide +kernel))) (by decide +kernel)
theorem tw_42 : Cond.fieldLink RX5 20 RX5 "rules" "LRunicSticks$Row;" ∈ TG := TG_in (List.mem_append_right _ (List.mem_of_getElem? (i := 42) (by decide +kernel))) (by decide +kernel)
theorem tw_420 : Cond.code yX6_append cX6_append 2 (some .int) ∈ TG := TG_in (List.mem_append_right _ (List.mem_of_getElem? (i := 420) (by decide +kernel))) (by decide +kernel)
theorem tw_43 : Cond.fieldLink RX3 78 RX5 "rules" "LRunicSticks$Row;" ∈ TG := TG_in (List.mem_append_right _ (List.mem_of_getElem? (i := 43) (by decide +kernel))) (by decide +kernel)
theorem tw_437 : Cond.methodLink RX6 109 yX4_put ∈ TG := TG_in (List.mem_append_right _ (List.mem_of_getElem? (i := 437) (by decide +kernel))) (by decide +kernel)
theorem tw_438 : Cond.methodLink RL 20 yL_number ∈ TG := TG_in (List.mem_append_right _ (List.mem_of_getElem? (i := 438) (by decide +kernel))) (by decide +kernel)
theorem tw_439 : Cond.static yL_number ∈ TG := TG_in (List.mem_append_right _ (List.mem_of_getElem? (i := 439) (by decide +kernel))) (by decide +kernel)
theorem tw_44 : Cond.fieldLink RX6 278 RX5 "rules" "LRunicSticks$Row;" ∈ TG := TG_in (List.mem_append_right _ (List.mem_of_getElem? (i := 44) (by decide +kernel))) (by decide +kernel)
theorem tw_440 : Cond.code yL_number cL_number 2 none ∈ TG := TG_in (List.mem_append_right _ (List.mem_of_getElem? (i := 440) (by decide +kernel))) (by decide +kernel)
theorem tw_441 : Cond.methodLink RL 31 yX6_proclaim ∈ TG := TG_in (List.mem_append_right _ (List.mem_of_getElem? (i := 441) (by decide +kernel))) (by decide +kernel)
theorem tw_442 : Cond.instanceMethod yX6_proclaim ∈ TG := TG_in (List.mem_append_right _ (List.mem_of_getElem? (i := 442) (by decide +kernel))) (by decide +kernel)
theorem tw_443 : Cond.selects yX6_proclaim.cls yX6_proclaim yX6_proclaim ∈ TG := TG_in (List.mem_append_right _ (List.mem_of_getElem? (i := 443) (by decide +kernel))) (by decide +kernel)
theorem tw_444 : Cond.code yX6_proclaim cX6_proclaim 2 (some .int) ∈ TG := TG_in (List.mem_append_right _ (List.mem_of_getElem? (i := 444) (by decide +kernel))) (by decide +kernel)
theorem tw_445 : Cond.methodLink RX6 68 yX6_bufferTellsFeasts ∈ TG := TG_in (List.mem_append_right _ (List.mem_of_getElem? (i := 445) (by decide +kernel))) (by decide +kernel)
theorem tw_447 : Cond.instanceMethod yX6_bufferTellsFeasts ∈ TG := TG_in (List.mem_append_right _ (List.mem_of_getElem? (i := 447) (by decide +kernel))) (by decide +kernel)
theorem tw_448 : Cond.code yX6_bufferTellsFeasts cX6_bufferTellsFeasts 1 (some .boolean) ∈ TG := TG_in (List.mem_append_right _ (List.mem_of_getElem? (i := 448) (by decide +kernel))) (by decide +kernel)
theorem tw_449 : Cond.methodLink RX6 150 yX6_signsReadWell ∈ TG := TG_in (List.mem_append_right _ (List.mem_of_getElem? (i := 449) (by decide +kernel))) (by decide +kernel)
theorem tw_45 : Cond.fieldLink RX5 24 RX5 "ranks" "LRunicSticks$Row;" ∈ TG := TG_in (List.mem_append_right _ (List.mem_of_getElem? (i := 45) (by decide +kernel))) (by decide +kernel)
theorem tw_451 : Cond.instanceMethod yX6_signsReadWell ∈ TG := TG_in (List.mem_append_right _ (List.mem_of_getElem? (i := 451) (by decide +kernel))) (by decide +kernel)
theorem tw_452 : Cond.code yX6_signsReadWell cX6_signsReadWell 2 (some .int) ∈ TG := TG_in (List.mem_append_right _ (List.mem_of_getElem? (i := 452) (by decide +kernel))) (by decide +kernel)
theorem tw_453 : Cond.methodLink RX6 256 yX2_start ∈ TG := TG_in (List.mem_append_right _ (List.mem_of_getElem? (i := 453) (by decide +kernel))) (by decide +kernel)
theorem tw_454 : Cond.instanceMethod yX2_start ∈ TG := TG_in (List.mem_append_right _ (List.mem_of_getElem? (i := 454) (by decide +kernel))) (by decide +kernel)
theorem tw_455 : Cond.selects yX2_start.cls yX2_start yX2_start ∈ TG := TG_in (List.mem_append_right _ (List.mem_of_getElem? (i := 455) (by decide +kernel))) (by decide +kernel)
theorem tw_456 : Cond.code yX2_start cX2_start 1 none ∈ TG := TG_in (List.mem_append_right _ (List.mem_of_getElem? (i := 456) (by decide +kernel))) (by decide +kernel)
theorem tw_457 : Cond.methodLink RX6 259 yX2_reads ∈ TG := TG_in (List.mem_append_right _ (List.mem_of_getElem? (i := 457) (by decide +kernel))) (by decide +kernel)
theorem tw_458 : Cond.instanceMethod yX2_reads ∈ TG := TG_in (List.mem_append_right _ (List.mem_of_getElem? (i := 458) (by decide +kernel))) (by decide +kernel)
theorem tw_459 : Cond.selects yX2_reads.cls yX2_reads yX2_reads ∈ TG := TG_in (List.mem_append_right _ (List.mem_of_getElem? (i := 459) (by decide +kernel))) (by decide +kernel)
theorem tw_46 : Cond.fieldLink RX6 102 RX5 "ranks" "LRunicSticks$Row;" ∈ TG := TG_in (List.mem_append_right _ (List.mem_of_getElem? (i := 46) (by decide +kernel))) (by decide +kernel)
theorem tw_460 : Cond.code yX2_reads cX2_reads 2 (some .boolean) ∈ TG := TG_in (List.mem_append_right _ (List.mem_of_getElem? (i := 460) (by decide +kernel))) (by decide +kernel)
theorem tw_461 : Cond.methodLink RX2 35 yX2_readsRule ∈ TG := TG_in (List.mem_append_right _ (List.mem_of_getElem? (i := 461) (by decide +kernel))) (by decide +kernel)
theorem tw_463 : Cond.instanceMethod yX2_readsRule ∈ TG := TG_in (List.mem_append_right _ (List.mem_of_getElem? (i := 463) (by decide +kernel))) (by decide +kernel)
theorem tw_464 : Cond.code yX2_readsRule cX2_readsRule 2 (some .boolean) ∈ TG := TG_in (List.mem_append_right _ (List.mem_of_getElem? (i := 464) (by decide +kernel))) (by decide +kernel)
theorem tw_465 : Cond.methodLink RX2 39 yX2_readsOther ∈ TG := TG_in (List.mem_append_right _ (List.mem_of_getElem? (i := 465) (by decide +kernel))) (by decide +kernel)
theorem tw_467 : Cond.instanceMethod yX2_readsOther ∈ TG := TG_in (List.mem_append_right _ (List.mem_of_getElem? (i := 467) (by decide +kernel))) (by decide +kernel)
theorem tw_468 : Cond.code yX2_readsOther cX2_readsOther 4 (some .boolean) ∈ TG := TG_in (List.mem_append_right _ (List.mem_of_getElem? (i := 468) (by decide +kernel))) (by decide +kernel)
theorem tw_469 : Cond.methodLink RX2 43 yX2_readsSign ∈ TG := TG_in (List.mem_append_right _ (List.mem_of_getElem? (i := 469) (by decide +kernel))) (by decide +kernel)
theorem tw_47 : Cond.fieldLink RX3 91 RX5 "ranks" "LRunicSticks$Row;" ∈ TG := TG_in (List.mem_append_right _ (List.mem_of_getElem? (i := 47) (by decide +kernel))) (by decide +kernel)
theorem tw_471 : Cond.instanceMethod yX2_readsSign ∈ TG := TG_in (List.mem_append_right _ (List.mem_of_getElem? (i := 471) (by decide +kernel))) (by decide +kernel)
theorem tw_472 : Cond.code yX2_readsSign cX2_readsSign 2 (some .boolean) ∈ TG := TG_in (List.mem_append_right _ (List.mem_of_getElem? (i := 472) (by decide +kernel))) (by decide +kernel)
theorem tw_473 : Cond.methodLink RX2 46 yX2_readsFirstDigit ∈ TG := TG_in (List.mem_append_right _ (List.mem_of_getElem? (i := 473) (by decide +kernel))) (by decide +kernel)
theorem tw_475 : Cond.instanceMethod yX2_readsFirstDigit ∈ TG := TG_in (List.mem_append_right _ (List.mem_of_getElem? (i := 475) (by decide +kernel))) (by decide +kernel)
theorem tw_476 : Cond.code yX2_readsFirstDigit cX2_readsFirstDigit 2 (some .boolean) ∈ TG := TG_in (List.mem_append_right _ (List.mem_of_getElem? (i := 476) (by decide +kernel))) (by decide +kernel)
theorem tw_477 : Cond.methodLink RX2 64 yX2_isDigit ∈ TG := TG_in (List.mem_append_right _ (List.mem_of_getElem? (i := 477) (by decide +kernel))) (by decide +kernel)
theorem tw_478 : Cond.static yX2_isDigit ∈ TG := TG_in (List.mem_append_right _ (List.mem_of_getElem? (i := 478) (by decide +kernel))) (by decide +kernel)
theorem tw_479 : Cond.code yX2_isDigit cX2_isDigit 1 (some .boolean) ∈ TG := TG_in (List.mem_append_right _ (List.mem_of_getElem? (i := 479) (by decide +kernel))) (by decide +kernel)
theorem tw_48 : Cond.fieldLink RX5 27 RX5 "days" "LRunicSticks$Row;" ∈ TG := TG_in (List.mem_append_right _ (List.mem_of_getElem? (i := 48) (by decide +kernel))) (by decide +kernel)
theorem tw_480 : Cond.methodLink RX2 49 yX2_readsNextDigit ∈ TG := TG_in (List.mem_append_right _ (List.mem_of_getElem? (i := 480) (by decide +kernel))) (by decide +kernel)
theorem tw_482 : Cond.instanceMethod yX2_readsNextDigit ∈ TG := TG_in (List.mem_append_right _ (List.mem_of_getElem? (i := 482) (by decide +kernel))) (by decide +kernel)
theorem tw_483 : Cond.code yX2_readsNextDigit cX2_readsNextDigit 4 (some .boolean) ∈ TG := TG_in (List.mem_append_right _ (List.mem_of_getElem? (i := 483) (by decide +kernel))) (by decide +kernel)
theorem tw_484 : Cond.methodLink RX2 31 yX2_hasWeekday ∈ TG := TG_in (List.mem_append_right _ (List.mem_of_getElem? (i := 484) (by decide +kernel))) (by decide +kernel)
theorem tw_486 : Cond.instanceMethod yX2_hasWeekday ∈ TG := TG_in (List.mem_append_right _ (List.mem_of_getElem? (i := 486) (by decide +kernel))) (by decide +kernel)
theorem tw_487 : Cond.code yX2_hasWeekday cX2_hasWeekday 1 (some .boolean) ∈ TG := TG_in (List.mem_append_right _ (List.mem_of_getElem? (i := 487) (by decide +kernel))) (by decide +kernel)
theorem tw_488 : Cond.methodLink RX2 52 yX2_readsComma ∈ TG := TG_in (List.mem_append_right _ (List.mem_of_getElem? (i := 488) (by decide +kernel))) (by decide +kernel)
theorem tw_49 : Cond.fieldLink RX3 73 RX5 "days" "LRunicSticks$Row;" ∈ TG := TG_in (List.mem_append_right _ (List.mem_of_getElem? (i := 49) (by decide +kernel))) (by decide +kernel)
theorem tw_490 : Cond.instanceMethod yX2_readsComma ∈ TG := TG_in (List.mem_append_right _ (List.mem_of_getElem? (i := 490) (by decide +kernel))) (by decide +kernel)
theorem tw_491 : Cond.code yX2_readsComma cX2_readsComma 2 (some .boolean) ∈ TG := TG_in (List.mem_append_right _ (List.mem_of_getElem? (i := 491) (by decide +kernel))) (by decide +kernel)
theorem tw_492 : Cond.methodLink RX2 55 yX2_readsBehindRule ∈ TG := TG_in (List.mem_append_right _ (List.mem_of_getElem? (i := 492) (by decide +kernel))) (by decide +kernel)
theorem tw_494 : Cond.instanceMethod yX2_readsBehindRule ∈ TG := TG_in (List.mem_append_right _ (List.mem_of_getElem? (i := 494) (by decide +kernel))) (by decide +kernel)
theorem tw_495 : Cond.code yX2_readsBehindRule cX2_readsBehindRule 2 (some .boolean) ∈ TG := TG_in (List.mem_append_right _ (List.mem_of_getElem? (i := 495) (by decide +kernel))) (by decide +kernel)
theorem tw_496 : Cond.methodLink RX2 61 yX2_readsSeparator ∈ TG := TG_in (List.mem_append_right _ (List.mem_of_getElem? (i := 496) (by decide +kernel))) (by decide +kernel)
theorem tw_498 : Cond.instanceMethod yX2_readsSeparator ∈ TG := TG_in (List.mem_append_right _ (List.mem_of_getElem? (i := 498) (by decide +kernel))) (by decide +kernel)
theorem tw_499 : Cond.code yX2_readsSeparator cX2_readsSeparator 2 (some .boolean) ∈ TG := TG_in (List.mem_append_right _ (List.mem_of_getElem? (i := 499) (by decide +kernel))) (by decide +kernel)
theorem tw_50 : Cond.fieldLink RX6 281 RX5 "days" "LRunicSticks$Row;" ∈ TG := TG_in (List.mem_append_right _ (List.mem_of_getElem? (i := 50) (by decide +kernel))) (by decide +kernel)
theorem tw_500 : Cond.methodLink RX2 67 yX2_start ∈ TG := TG_in (List.mem_append_right _ (List.mem_of_getElem? (i := 500) (by decide +kernel))) (by decide +kernel)
theorem tw_501 : Cond.methodLink RX2 58 yX2_readsRank ∈ TG := TG_in (List.mem_append_right _ (List.mem_of_getElem? (i := 501) (by decide +kernel))) (by decide +kernel)
theorem tw_503 : Cond.instanceMethod yX2_readsRank ∈ TG := TG_in (List.mem_append_right _ (List.mem_of_getElem? (i := 503) (by decide +kernel))) (by decide +kernel)
theorem tw_504 : Cond.code yX2_readsRank cX2_readsRank 2 (some .boolean) ∈ TG := TG_in (List.mem_append_right _ (List.mem_of_getElem? (i := 504) (by decide +kernel))) (by decide +kernel)
theorem tw_505 : Cond.methodLink RX6 262 yX2_mayEnd ∈ TG := TG_in (List.mem_append_right _ (List.mem_of_getElem? (i := 505) (by decide +kernel))) (by decide +kernel)
theorem tw_506 : Cond.instanceMethod yX2_mayEnd ∈ TG := TG_in (List.mem_append_right _ (List.mem_of_getElem? (i := 506) (by decide +kernel))) (by decide +kernel)
theorem tw_507 : Cond.selects yX2_mayEnd.cls yX2_mayEnd yX2_mayEnd ∈ TG := TG_in (List.mem_append_right _ (List.mem_of_getElem? (i := 507) (by decide +kernel))) (by decide +kernel)
theorem tw_508 : Cond.code yX2_mayEnd cX2_mayEnd 1 (some .boolean) ∈ TG := TG_in (List.mem_append_right _ (List.mem_of_getElem? (i := 508) (by decide +kernel))) (by decide +kernel)
theorem tw_51 : Cond.fieldLink RX5 30 RX5 "others" "LRunicSticks$Row;" ∈ TG := TG_in (List.mem_append_right _ (List.mem_of_getElem? (i := 51) (by decide +kernel))) (by decide +kernel)
theorem tw_510 : Cond.methodLink RX6 79 yX1_save ∈ TG := TG_in (List.mem_append_right _ (List.mem_of_getElem? (i := 510) (by decide +kernel))) (by decide +kernel)
theorem tw_511 : Cond.instanceMethod yX1_save ∈ TG := TG_in (List.mem_append_right _ (List.mem_of_getElem? (i := 511) (by decide +kernel))) (by decide +kernel)
theorem tw_512 : Cond.selects yX1_save.cls yX1_save yX1_save ∈ TG := TG_in (List.mem_append_right _ (List.mem_of_getElem? (i := 512) (by decide +kernel))) (by decide +kernel)
theorem tw_513 : Cond.code yX1_save cX1_save 3 none ∈ TG := TG_in (List.mem_append_right _ (List.mem_of_getElem? (i := 513) (by decide +kernel))) (by decide +kernel)
theorem tw_514 : Cond.methodLink RX1 25 yX1_stateAt ∈ TG := TG_in (List.mem_append_right _ (List.mem_of_getElem? (i := 514) (by decide +kernel))) (by decide +kernel)
theorem tw_516 : Cond.instanceMethod yX1_stateAt ∈ TG := TG_in (List.mem_append_right _ (List.mem_of_getElem? (i := 516) (by decide +kernel))) (by decide +kernel)
theorem tw_517 : Cond.code yX1_stateAt cX1_stateAt 3 (some (.object "RunicSticks$State")) ∈ TG := TG_in (List.mem_append_right _ (List.mem_of_getElem? (i := 517) (by decide +kernel))) (by decide +kernel)
theorem tw_518 : Cond.methodLink RX1 29 yX5_copyFrom ∈ TG := TG_in (List.mem_append_right _ (List.mem_of_getElem? (i := 518) (by decide +kernel))) (by decide +kernel)
theorem tw_519 : Cond.instanceMethod yX5_copyFrom ∈ TG := TG_in (List.mem_append_right _ (List.mem_of_getElem? (i := 519) (by decide +kernel))) (by decide +kernel)
theorem tw_52 : Cond.fieldLink RX3 75 RX5 "others" "LRunicSticks$Row;" ∈ TG := TG_in (List.mem_append_right _ (List.mem_of_getElem? (i := 52) (by decide +kernel))) (by decide +kernel)
theorem tw_520 : Cond.selects yX5_copyFrom.cls yX5_copyFrom yX5_copyFrom ∈ TG := TG_in (List.mem_append_right _ (List.mem_of_getElem? (i := 520) (by decide +kernel))) (by decide +kernel)
theorem tw_521 : Cond.code yX5_copyFrom cX5_copyFrom 2 none ∈ TG := TG_in (List.mem_append_right _ (List.mem_of_getElem? (i := 521) (by decide +kernel))) (by decide +kernel)
theorem tw_522 : Cond.methodLink RX5 54 yX4_copyFrom ∈ TG := TG_in (List.mem_append_right _ (List.mem_of_getElem? (i := 522) (by decide +kernel))) (by decide +kernel)
theorem tw_523 : Cond.instanceMethod yX4_copyFrom ∈ TG := TG_in (List.mem_append_right _ (List.mem_of_getElem? (i := 523) (by decide +kernel))) (by decide +kernel)
theorem tw_524 : Cond.selects yX4_copyFrom.cls yX4_copyFrom yX4_copyFrom ∈ TG := TG_in (List.mem_append_right _ (List.mem_of_getElem? (i := 524) (by decide +kernel))) (by decide +kernel)
theorem tw_525 : Cond.code yX4_copyFrom cX4_copyFrom 3 none ∈ TG := TG_in (List.mem_append_right _ (List.mem_of_getElem? (i := 525) (by decide +kernel))) (by decide +kernel)
theorem tw_526 : Cond.methodLink RX4 15 yX4_at ∈ TG := TG_in (List.mem_append_right _ (List.mem_of_getElem? (i := 526) (by decide +kernel))) (by decide +kernel)
theorem tw_527 : Cond.methodLink RX6 83 yX6_addBufferedFeasts ∈ TG := TG_in (List.mem_append_right _ (List.mem_of_getElem? (i := 527) (by decide +kernel))) (by decide +kernel)
theorem tw_529 : Cond.instanceMethod yX6_addBufferedFeasts ∈ TG := TG_in (List.mem_append_right _ (List.mem_of_getElem? (i := 529) (by decide +kernel))) (by decide +kernel)
theorem tw_53 : Cond.fieldLink RX6 284 RX5 "others" "LRunicSticks$Row;" ∈ TG := TG_in (List.mem_append_right _ (List.mem_of_getElem? (i := 53) (by decide +kernel))) (by decide +kernel)
theorem tw_530 : Cond.code yX6_addBufferedFeasts cX6_addBufferedFeasts 5 (some .int) ∈ TG := TG_in (List.mem_append_right _ (List.mem_of_getElem? (i := 530) (by decide +kernel))) (by decide +kernel)
theorem tw_531 : Cond.methodLink RX6 265 yX6_addReadFeast ∈ TG := TG_in (List.mem_append_right _ (List.mem_of_getElem? (i := 531) (by decide +kernel))) (by decide +kernel)
theorem tw_533 : Cond.instanceMethod yX6_addReadFeast ∈ TG := TG_in (List.mem_append_right _ (List.mem_of_getElem? (i := 533) (by decide +kernel))) (by decide +kernel)
theorem tw_534 : Cond.code yX6_addReadFeast cX6_addReadFeast 2 (some .boolean) ∈ TG := TG_in (List.mem_append_right _ (List.mem_of_getElem? (i := 534) (by decide +kernel))) (by decide +kernel)
theorem tw_535 : Cond.methodLink RX6 274 yX5_addFeast ∈ TG := TG_in (List.mem_append_right _ (List.mem_of_getElem? (i := 535) (by decide +kernel))) (by decide +kernel)
theorem tw_536 : Cond.instanceMethod yX5_addFeast ∈ TG := TG_in (List.mem_append_right _ (List.mem_of_getElem? (i := 536) (by decide +kernel))) (by decide +kernel)
theorem tw_537 : Cond.selects yX5_addFeast.cls yX5_addFeast yX5_addFeast ∈ TG := TG_in (List.mem_append_right _ (List.mem_of_getElem? (i := 537) (by decide +kernel))) (by decide +kernel)
theorem tw_538 : Cond.code yX5_addFeast cX5_addFeast 2 none ∈ TG := TG_in (List.mem_append_right _ (List.mem_of_getElem? (i := 538) (by decide +kernel))) (by decide +kernel)
theorem tw_539 : Cond.methodLink RX5 63 yX4_put ∈ TG := TG_in (List.mem_append_right _ (List.mem_of_getElem? (i := 539) (by decide +kernel))) (by decide +kernel)
theorem tw_54 : Cond.fieldLink RX5 33 RX5 "slips" "LRunicSticks$Row;" ∈ TG := TG_in (List.mem_append_right _ (List.mem_of_getElem? (i := 54) (by decide +kernel))) (by decide +kernel)
theorem tw_540 : Cond.methodLink RL 35 yX6_forget ∈ TG := TG_in (List.mem_append_right _ (List.mem_of_getElem? (i := 540) (by decide +kernel))) (by decide +kernel)
theorem tw_541 : Cond.instanceMethod yX6_forget ∈ TG := TG_in (List.mem_append_right _ (List.mem_of_getElem? (i := 541) (by decide +kernel))) (by decide +kernel)
theorem tw_542 : Cond.selects yX6_forget.cls yX6_forget yX6_forget ∈ TG := TG_in (List.mem_append_right _ (List.mem_of_getElem? (i := 542) (by decide +kernel))) (by decide +kernel)
theorem tw_543 : Cond.code yX6_forget cX6_forget 1 (some .int) ∈ TG := TG_in (List.mem_append_right _ (List.mem_of_getElem? (i := 543) (by decide +kernel))) (by decide +kernel)
theorem tw_545 : Cond.methodLink RL 38 yX6_rank ∈ TG := TG_in (List.mem_append_right _ (List.mem_of_getElem? (i := 545) (by decide +kernel))) (by decide +kernel)
theorem tw_546 : Cond.instanceMethod yX6_rank ∈ TG := TG_in (List.mem_append_right _ (List.mem_of_getElem? (i := 546) (by decide +kernel))) (by decide +kernel)
theorem tw_547 : Cond.selects yX6_rank.cls yX6_rank yX6_rank ∈ TG := TG_in (List.mem_append_right _ (List.mem_of_getElem? (i := 547) (by decide +kernel))) (by decide +kernel)
theorem tw_548 : Cond.code yX6_rank cX6_rank 4 (some .int) ∈ TG := TG_in (List.mem_append_right _ (List.mem_of_getElem? (i := 548) (by decide +kernel))) (by decide +kernel)
theorem tw_549 : Cond.methodLink RX6 95 yX6_needFeast ∈ TG := TG_in (List.mem_append_right _ (List.mem_of_getElem? (i := 549) (by decide +kernel))) (by decide +kernel)
theorem tw_55 : Cond.fieldLink RX0 28 RX5 "slips" "LRunicSticks$Row;" ∈ TG := TG_in (List.mem_append_right _ (List.mem_of_getElem? (i := 55) (by decide +kernel))) (by decide +kernel)
theorem tw_551 : Cond.instanceMethod yX6_needFeast ∈ TG := TG_in (List.mem_append_right _ (List.mem_of_getElem? (i := 551) (by decide +kernel))) (by decide +kernel)
theorem tw_552 : Cond.code yX6_needFeast cX6_needFeast 2 none ∈ TG := TG_in (List.mem_append_right _ (List.mem_of_getElem? (i := 552) (by decide +kernel))) (by decide +kernel)
theorem tw_554 : Cond.methodLink RL 41 yX6_teach ∈ TG := TG_in (List.mem_append_right _ (List.mem_of_getElem? (i := 554) (by decide +kernel))) (by decide +kernel)
theorem tw_555 : Cond.instanceMethod yX6_teach ∈ TG := TG_in (List.mem_append_right _ (List.mem_of_getElem? (i := 555) (by decide +kernel))) (by decide +kernel)
theorem tw_556 : Cond.selects yX6_teach.cls yX6_teach yX6_teach ∈ TG := TG_in (List.mem_append_right _ (List.mem_of_getElem? (i := 556) (by decide +kernel))) (by decide +kernel)
theorem tw_557 : Cond.code yX6_teach cX6_teach 4 (some .int) ∈ TG := TG_in (List.mem_append_right _ (List.mem_of_getElem? (i := 557) (by decide +kernel))) (by decide +kernel)
theorem tw_558 : Cond.methodLink RX6 113 yX6_needCarver ∈ TG := TG_in (List.mem_append_right _ (List.mem_of_getElem? (i := 558) (by decide +kernel))) (by decide +kernel)
theorem tw_559 : Cond.static yX6_needCarver ∈ TG := TG_in (List.mem_append_right _ (List.mem_of_getElem? (i := 559) (by decide +kernel))) (by decide +kernel)
theorem tw_56 : Cond.fieldLink RX6 116 RX5 "slips" "LRunicSticks$Row;" ∈ TG := TG_in (List.mem_append_right _ (List.mem_of_getElem? (i := 56) (by decide +kernel))) (by decide +kernel)
theorem tw_560 : Cond.code yX6_needCarver cX6_needCarver 1 none ∈ TG := TG_in (List.mem_append_right _ (List.mem_of_getElem? (i := 560) (by decide +kernel))) (by decide +kernel)
theorem tw_561 : Cond.methodLink RL 44 yX6_carve ∈ TG := TG_in (List.mem_append_right _ (List.mem_of_getElem? (i := 561) (by decide +kernel))) (by decide +kernel)
theorem tw_562 : Cond.instanceMethod yX6_carve ∈ TG := TG_in (List.mem_append_right _ (List.mem_of_getElem? (i := 562) (by decide +kernel))) (by decide +kernel)
theorem tw_563 : Cond.selects yX6_carve.cls yX6_carve yX6_carve ∈ TG := TG_in (List.mem_append_right _ (List.mem_of_getElem? (i := 563) (by decide +kernel))) (by decide +kernel)
theorem tw_564 : Cond.code yX6_carve cX6_carve 3 (some .int) ∈ TG := TG_in (List.mem_append_right _ (List.mem_of_getElem? (i := 564) (by decide +kernel))) (by decide +kernel)
theorem tw_565 : Cond.methodLink RX6 119 yX6_needYear ∈ TG := TG_in (List.mem_append_right _ (List.mem_of_getElem? (i := 565) (by decide +kernel))) (by decide +kernel)
theorem tw_566 : Cond.static yX6_needYear ∈ TG := TG_in (List.mem_append_right _ (List.mem_of_getElem? (i := 566) (by decide +kernel))) (by decide +kernel)
theorem tw_567 : Cond.code yX6_needYear cX6_needYear 1 none ∈ TG := TG_in (List.mem_append_right _ (List.mem_of_getElem? (i := 567) (by decide +kernel))) (by decide +kernel)
theorem tw_568 : Cond.methodLink RX6 129 yX5_addStick ∈ TG := TG_in (List.mem_append_right _ (List.mem_of_getElem? (i := 568) (by decide +kernel))) (by decide +kernel)
theorem tw_569 : Cond.instanceMethod yX5_addStick ∈ TG := TG_in (List.mem_append_right _ (List.mem_of_getElem? (i := 569) (by decide +kernel))) (by decide +kernel)
theorem tw_57 : Cond.fieldLink RX5 36 RX5 "moonYears" "I" ∈ TG := TG_in (List.mem_append_right _ (List.mem_of_getElem? (i := 57) (by decide +kernel))) (by decide +kernel)
theorem tw_570 : Cond.selects yX5_addStick.cls yX5_addStick yX5_addStick ∈ TG := TG_in (List.mem_append_right _ (List.mem_of_getElem? (i := 570) (by decide +kernel))) (by decide +kernel)
theorem tw_571 : Cond.code yX5_addStick cX5_addStick 5 none ∈ TG := TG_in (List.mem_append_right _ (List.mem_of_getElem? (i := 571) (by decide +kernel))) (by decide +kernel)
theorem tw_572 : Cond.methodLink RX5 80 yX5_copyStick ∈ TG := TG_in (List.mem_append_right _ (List.mem_of_getElem? (i := 572) (by decide +kernel))) (by decide +kernel)
theorem tw_574 : Cond.instanceMethod yX5_copyStick ∈ TG := TG_in (List.mem_append_right _ (List.mem_of_getElem? (i := 574) (by decide +kernel))) (by decide +kernel)
theorem tw_575 : Cond.code yX5_copyStick cX5_copyStick 4 none ∈ TG := TG_in (List.mem_append_right _ (List.mem_of_getElem? (i := 575) (by decide +kernel))) (by decide +kernel)
theorem tw_576 : Cond.methodLink RL 47 yX6_burn ∈ TG := TG_in (List.mem_append_right _ (List.mem_of_getElem? (i := 576) (by decide +kernel))) (by decide +kernel)
theorem tw_577 : Cond.instanceMethod yX6_burn ∈ TG := TG_in (List.mem_append_right _ (List.mem_of_getElem? (i := 577) (by decide +kernel))) (by decide +kernel)
theorem tw_578 : Cond.selects yX6_burn.cls yX6_burn yX6_burn ∈ TG := TG_in (List.mem_append_right _ (List.mem_of_getElem? (i := 578) (by decide +kernel))) (by decide +kernel)
theorem tw_579 : Cond.code yX6_burn cX6_burn 3 (some .int) ∈ TG := TG_in (List.mem_append_right _ (List.mem_of_getElem? (i := 579) (by decide +kernel))) (by decide +kernel)
theorem tw_58 : Cond.fieldLink RX3 37 RX5 "moonYears" "I" ∈ TG := TG_in (List.mem_append_right _ (List.mem_of_getElem? (i := 58) (by decide +kernel))) (by decide +kernel)
theorem tw_580 : Cond.methodLink RX6 142 yX5_dropStick ∈ TG := TG_in (List.mem_append_right _ (List.mem_of_getElem? (i := 580) (by decide +kernel))) (by decide +kernel)
theorem tw_581 : Cond.instanceMethod yX5_dropStick ∈ TG := TG_in (List.mem_append_right _ (List.mem_of_getElem? (i := 581) (by decide +kernel))) (by decide +kernel)
theorem tw_582 : Cond.selects yX5_dropStick.cls yX5_dropStick yX5_dropStick ∈ TG := TG_in (List.mem_append_right _ (List.mem_of_getElem? (i := 582) (by decide +kernel))) (by decide +kernel)
theorem tw_583 : Cond.code yX5_dropStick cX5_dropStick 3 none ∈ TG := TG_in (List.mem_append_right _ (List.mem_of_getElem? (i := 583) (by decide +kernel))) (by decide +kernel)
theorem tw_584 : Cond.methodLink RL 50 yX6_set ∈ TG := TG_in (List.mem_append_right _ (List.mem_of_getElem? (i := 584) (by decide +kernel))) (by decide +kernel)
theorem tw_585 : Cond.instanceMethod yX6_set ∈ TG := TG_in (List.mem_append_right _ (List.mem_of_getElem? (i := 585) (by decide +kernel))) (by decide +kernel)
theorem tw_586 : Cond.selects yX6_set.cls yX6_set yX6_set ∈ TG := TG_in (List.mem_append_right _ (List.mem_of_getElem? (i := 586) (by decide +kernel))) (by decide +kernel)
theorem tw_587 : Cond.code yX6_set cX6_set 3 (some .int) ∈ TG := TG_in (List.mem_append_right _ (List.mem_of_getElem? (i := 587) (by decide +kernel))) (by decide +kernel)
theorem tw_59 : Cond.fieldLink RX6 145 RX5 "moonYears" "I" ∈ TG := TG_in (List.mem_append_right _ (List.mem_of_getElem? (i := 59) (by decide +kernel))) (by decide +kernel)
theorem tw_591 : Cond.methodLink RL 53 yX6_when ∈ TG := TG_in (List.mem_append_right _ (List.mem_of_getElem? (i := 591) (by decide +kernel))) (by decide +kernel)
theorem tw_592 : Cond.instanceMethod yX6_when ∈ TG := TG_in (List.mem_append_right _ (List.mem_of_getElem? (i := 592) (by decide +kernel))) (by decide +kernel)
theorem tw_593 : Cond.selects yX6_when.cls yX6_when yX6_when ∈ TG := TG_in (List.mem_append_right _ (List.mem_of_getElem? (i := 593) (by decide +kernel))) (by decide +kernel)
theorem tw_594 : Cond.code yX6_when cX6_when 5 (some .int) ∈ TG := TG_in (List.mem_append_right _ (List.mem_of_getElem? (i := 594) (by decide +kernel))) (by decide +kernel)
theorem tw_595 : Cond.methodLink RL 57 yX6_feast ∈ TG := TG_in (List.mem_append_right _ (List.mem_of_getElem? (i := 595) (by decide +kernel))) (by decide +kernel)
theorem tw_596 : Cond.instanceMethod yX6_feast ∈ TG := TG_in (List.mem_append_right _ (List.mem_of_getElem? (i := 596) (by decide +kernel))) (by decide +kernel)
theorem tw_597 : Cond.selects yX6_feast.cls yX6_feast yX6_feast ∈ TG := TG_in (List.mem_append_right _ (List.mem_of_getElem? (i := 597) (by decide +kernel))) (by decide +kernel)
theorem tw_598 : Cond.code yX6_feast cX6_feast 3 (some .int) ∈ TG := TG_in (List.mem_append_right _ (List.mem_of_getElem? (i := 598) (by decide +kernel))) (by decide +kernel)
theorem tw_599 : Cond.methodLink RX6 181 yX6_feastProperty ∈ TG := TG_in (List.mem_append_right _ (List.mem_of_getElem? (i := 599) (by decide +kernel))) (by decide +kernel)
theorem tw_60 : Cond.fieldLink RX5 39 RX5 "sticks" "I" ∈ TG := TG_in (List.mem_append_right _ (List.mem_of_getElem? (i := 60) (by decide +kernel))) (by decide +kernel)
theorem tw_601 : Cond.instanceMethod yX6_feastProperty ∈ TG := TG_in (List.mem_append_right _ (List.mem_of_getElem? (i := 601) (by decide +kernel))) (by decide +kernel)
theorem tw_602 : Cond.code yX6_feastProperty cX6_feastProperty 3 (some .int) ∈ TG := TG_in (List.mem_append_right _ (List.mem_of_getElem? (i := 602) (by decide +kernel))) (by decide +kernel)
theorem tw_603 : Cond.methodLink RL 60 yL_days ∈ TG := TG_in (List.mem_append_right _ (List.mem_of_getElem? (i := 603) (by decide +kernel))) (by decide +kernel)
theorem tw_604 : Cond.static yL_days ∈ TG := TG_in (List.mem_append_right _ (List.mem_of_getElem? (i := 604) (by decide +kernel))) (by decide +kernel)
theorem tw_605 : Cond.code yL_days cL_days 1 (some .int) ∈ TG := TG_in (List.mem_append_right _ (List.mem_of_getElem? (i := 605) (by decide +kernel))) (by decide +kernel)
theorem tw_606 : Cond.methodLink RL 63 yX6_day ∈ TG := TG_in (List.mem_append_right _ (List.mem_of_getElem? (i := 606) (by decide +kernel))) (by decide +kernel)
theorem tw_607 : Cond.instanceMethod yX6_day ∈ TG := TG_in (List.mem_append_right _ (List.mem_of_getElem? (i := 607) (by decide +kernel))) (by decide +kernel)
theorem tw_608 : Cond.selects yX6_day.cls yX6_day yX6_day ∈ TG := TG_in (List.mem_append_right _ (List.mem_of_getElem? (i := 608) (by decide +kernel))) (by decide +kernel)
theorem tw_609 : Cond.code yX6_day cX6_day 4 (some .int) ∈ TG := TG_in (List.mem_append_right _ (List.mem_of_getElem? (i := 609) (by decide +kernel))) (by decide +kernel)
theorem tw_61 : Cond.fieldLink RX6 236 RX5 "sticks" "I" ∈ TG := TG_in (List.mem_append_right _ (List.mem_of_getElem? (i := 61) (by decide +kernel))) (by decide +kernel)
theorem tw_610 : Cond.methodLink RX6 164 yX6_daysIn ∈ TG := TG_in (List.mem_append_right _ (List.mem_of_getElem? (i := 610) (by decide +kernel))) (by decide +kernel)
theorem tw_611 : Cond.methodLink RX6 167 yX6_newYearWeekday ∈ TG := TG_in (List.mem_append_right _ (List.mem_of_getElem? (i := 611) (by decide +kernel))) (by decide +kernel)
theorem tw_612 : Cond.methodLink RX6 170 yX6_moonShift ∈ TG := TG_in (List.mem_append_right _ (List.mem_of_getElem? (i := 612) (by decide +kernel))) (by decide +kernel)
theorem tw_613 : Cond.methodLink RX6 174 yX6_moonAge ∈ TG := TG_in (List.mem_append_right _ (List.mem_of_getElem? (i := 613) (by decide +kernel))) (by decide +kernel)
theorem tw_614 : Cond.methodLink RX6 178 yX6_lowestFeastOn ∈ TG := TG_in (List.mem_append_right _ (List.mem_of_getElem? (i := 614) (by decide +kernel))) (by decide +kernel)
theorem tw_616 : Cond.instanceMethod yX6_lowestFeastOn ∈ TG := TG_in (List.mem_append_right _ (List.mem_of_getElem? (i := 616) (by decide +kernel))) (by decide +kernel)
theorem tw_617 : Cond.code yX6_lowestFeastOn cX6_lowestFeastOn 4 (some .int) ∈ TG := TG_in (List.mem_append_right _ (List.mem_of_getElem? (i := 617) (by decide +kernel))) (by decide +kernel)
theorem tw_618 : Cond.methodLink RX6 187 yX0_gather ∈ TG := TG_in (List.mem_append_right _ (List.mem_of_getElem? (i := 618) (by decide +kernel))) (by decide +kernel)
theorem tw_619 : Cond.instanceMethod yX0_gather ∈ TG := TG_in (List.mem_append_right _ (List.mem_of_getElem? (i := 619) (by decide +kernel))) (by decide +kernel)
theorem tw_62 : Cond.fieldLink RX5 42 RX5 "stickYears" "LRunicSticks$Row;" ∈ TG := TG_in (List.mem_append_right _ (List.mem_of_getElem? (i := 62) (by decide +kernel))) (by decide +kernel)
theorem tw_620 : Cond.selects yX0_gather.cls yX0_gather yX0_gather ∈ TG := TG_in (List.mem_append_right _ (List.mem_of_getElem? (i := 620) (by decide +kernel))) (by decide +kernel)
theorem tw_621 : Cond.code yX0_gather cX0_gather 4 none ∈ TG := TG_in (List.mem_append_right _ (List.mem_of_getElem? (i := 621) (by decide +kernel))) (by decide +kernel)
theorem tw_622 : Cond.methodLink RX0 24 yX0_by ∈ TG := TG_in (List.mem_append_right _ (List.mem_of_getElem? (i := 622) (by decide +kernel))) (by decide +kernel)
theorem tw_623 : Cond.instanceMethod yX0_by ∈ TG := TG_in (List.mem_append_right _ (List.mem_of_getElem? (i := 623) (by decide +kernel))) (by decide +kernel)
theorem tw_624 : Cond.selects yX0_by.cls yX0_by yX0_by ∈ TG := TG_in (List.mem_append_right _ (List.mem_of_getElem? (i := 624) (by decide +kernel))) (by decide +kernel)
theorem tw_625 : Cond.code yX0_by cX0_by 2 (some (.object "RunicSticks$Reckoning")) ∈ TG := TG_in (List.mem_append_right _ (List.mem_of_getElem? (i := 625) (by decide +kernel))) (by decide +kernel)
theorem tw_626 : Cond.methodLink RX0 34 yX4_at ∈ TG := TG_in (List.mem_append_right _ (List.mem_of_getElem? (i := 626) (by decide +kernel))) (by decide +kernel)
theorem tw_627 : Cond.methodLink RX0 40 yX3_reckon ∈ TG := TG_in (List.mem_append_right _ (List.mem_of_getElem? (i := 627) (by decide +kernel))) (by decide +kernel)
theorem tw_628 : Cond.methodLink RX6 191 yX0_settledNotch ∈ TG := TG_in (List.mem_append_right _ (List.mem_of_getElem? (i := 628) (by decide +kernel))) (by decide +kernel)
theorem tw_629 : Cond.instanceMethod yX0_settledNotch ∈ TG := TG_in (List.mem_append_right _ (List.mem_of_getElem? (i := 629) (by decide +kernel))) (by decide +kernel)
theorem tw_63 : Cond.fieldLink RX6 139 RX5 "stickYears" "LRunicSticks$Row;" ∈ TG := TG_in (List.mem_append_right _ (List.mem_of_getElem? (i := 63) (by decide +kernel))) (by decide +kernel)
theorem tw_630 : Cond.selects yX0_settledNotch.cls yX0_settledNotch yX0_settledNotch ∈ TG := TG_in (List.mem_append_right _ (List.mem_of_getElem? (i := 630) (by decide +kernel))) (by decide +kernel)
theorem tw_631 : Cond.code yX0_settledNotch cX0_settledNotch 3 (some .int) ∈ TG := TG_in (List.mem_append_right _ (List.mem_of_getElem? (i := 631) (by decide +kernel))) (by decide +kernel)
theorem tw_632 : Cond.methodLink RL 67 yX6_moved ∈ TG := TG_in (List.mem_append_right _ (List.mem_of_getElem? (i := 632) (by decide +kernel))) (by decide +kernel)
theorem tw_633 : Cond.instanceMethod yX6_moved ∈ TG := TG_in (List.mem_append_right _ (List.mem_of_getElem? (i := 633) (by decide +kernel))) (by decide +kernel)
theorem tw_634 : Cond.selects yX6_moved.cls yX6_moved yX6_moved ∈ TG := TG_in (List.mem_append_right _ (List.mem_of_getElem? (i := 634) (by decide +kernel))) (by decide +kernel)
theorem tw_635 : Cond.code yX6_moved cX6_moved 3 (some .int) ∈ TG := TG_in (List.mem_append_right _ (List.mem_of_getElem? (i := 635) (by decide +kernel))) (by decide +kernel)
theorem tw_636 : Cond.methodLink RX6 213 yX3_movedCount ∈ TG := TG_in (List.mem_append_right _ (List.mem_of_getElem? (i := 636) (by decide +kernel))) (by decide +kernel)
theorem tw_637 : Cond.instanceMethod yX3_movedCount ∈ TG := TG_in (List.mem_append_right _ (List.mem_of_getElem? (i := 637) (by decide +kernel))) (by decide +kernel)
theorem tw_638 : Cond.selects yX3_movedCount.cls yX3_movedCount yX3_movedCount ∈ TG := TG_in (List.mem_append_right _ (List.mem_of_getElem? (i := 638) (by decide +kernel))) (by decide +kernel)
theorem tw_639 : Cond.code yX3_movedCount cX3_movedCount 5 (some .int) ∈ TG := TG_in (List.mem_append_right _ (List.mem_of_getElem? (i := 639) (by decide +kernel))) (by decide +kernel)
theorem tw_64 : Cond.fieldLink RX5 45 RX5 "stickCarvers" "LRunicSticks$Row;" ∈ TG := TG_in (List.mem_append_right _ (List.mem_of_getElem? (i := 64) (by decide +kernel))) (by decide +kernel)
theorem tw_643 : Cond.methodLink RL 70 yX6_settled ∈ TG := TG_in (List.mem_append_right _ (List.mem_of_getElem? (i := 643) (by decide +kernel))) (by decide +kernel)
theorem tw_644 : Cond.instanceMethod yX6_settled ∈ TG := TG_in (List.mem_append_right _ (List.mem_of_getElem? (i := 644) (by decide +kernel))) (by decide +kernel)
theorem tw_645 : Cond.selects yX6_settled.cls yX6_settled yX6_settled ∈ TG := TG_in (List.mem_append_right _ (List.mem_of_getElem? (i := 645) (by decide +kernel))) (by decide +kernel)
theorem tw_646 : Cond.code yX6_settled cX6_settled 3 (some .int) ∈ TG := TG_in (List.mem_append_right _ (List.mem_of_getElem? (i := 646) (by decide +kernel))) (by decide +kernel)
theorem tw_647 : Cond.methodLink RL 73 yX6_quarrels ∈ TG := TG_in (List.mem_append_right _ (List.mem_of_getElem? (i := 647) (by decide +kernel))) (by decide +kernel)
theorem tw_648 : Cond.instanceMethod yX6_quarrels ∈ TG := TG_in (List.mem_append_right _ (List.mem_of_getElem? (i := 648) (by decide +kernel))) (by decide +kernel)
theorem tw_649 : Cond.selects yX6_quarrels.cls yX6_quarrels yX6_quarrels ∈ TG := TG_in (List.mem_append_right _ (List.mem_of_getElem? (i := 649) (by decide +kernel))) (by decide +kernel)
theorem tw_65 : Cond.fieldLink RX6 287 RX5 "stickCarvers" "LRunicSticks$Row;" ∈ TG := TG_in (List.mem_append_right _ (List.mem_of_getElem? (i := 65) (by decide +kernel))) (by decide +kernel)
theorem tw_650 : Cond.code yX6_quarrels cX6_quarrels 2 (some .int) ∈ TG := TG_in (List.mem_append_right _ (List.mem_of_getElem? (i := 650) (by decide +kernel))) (by decide +kernel)
theorem tw_651 : Cond.methodLink RX6 194 yX0_quarrelCount ∈ TG := TG_in (List.mem_append_right _ (List.mem_of_getElem? (i := 651) (by decide +kernel))) (by decide +kernel)
theorem tw_652 : Cond.instanceMethod yX0_quarrelCount ∈ TG := TG_in (List.mem_append_right _ (List.mem_of_getElem? (i := 652) (by decide +kernel))) (by decide +kernel)
theorem tw_653 : Cond.selects yX0_quarrelCount.cls yX0_quarrelCount yX0_quarrelCount ∈ TG := TG_in (List.mem_append_right _ (List.mem_of_getElem? (i := 653) (by decide +kernel))) (by decide +kernel)
theorem tw_654 : Cond.code yX0_quarrelCount cX0_quarrelCount 5 (some .int) ∈ TG := TG_in (List.mem_append_right _ (List.mem_of_getElem? (i := 654) (by decide +kernel))) (by decide +kernel)
theorem tw_658 : Cond.methodLink RL 79 yX6_freshShare ∈ TG := TG_in (List.mem_append_right _ (List.mem_of_getElem? (i := 658) (by decide +kernel))) (by decide +kernel)
theorem tw_659 : Cond.instanceMethod yX6_freshShare ∈ TG := TG_in (List.mem_append_right _ (List.mem_of_getElem? (i := 659) (by decide +kernel))) (by decide +kernel)
theorem tw_66 : Cond.fieldLink RX5 48 RX5 "stickFeasts" "LRunicSticks$Row;" ∈ TG := TG_in (List.mem_append_right _ (List.mem_of_getElem? (i := 66) (by decide +kernel))) (by decide +kernel)
theorem tw_660 : Cond.selects yX6_freshShare.cls yX6_freshShare yX6_freshShare ∈ TG := TG_in (List.mem_append_right _ (List.mem_of_getElem? (i := 660) (by decide +kernel))) (by decide +kernel)
theorem tw_661 : Cond.code yX6_freshShare cX6_freshShare 1 (some .double) ∈ TG := TG_in (List.mem_append_right _ (List.mem_of_getElem? (i := 661) (by decide +kernel))) (by decide +kernel)
theorem tw_662 : Cond.methodLink RX6 216 yX6_freshPart ∈ TG := TG_in (List.mem_append_right _ (List.mem_of_getElem? (i := 662) (by decide +kernel))) (by decide +kernel)
theorem tw_664 : Cond.instanceMethod yX6_freshPart ∈ TG := TG_in (List.mem_append_right _ (List.mem_of_getElem? (i := 664) (by decide +kernel))) (by decide +kernel)
theorem tw_665 : Cond.code yX6_freshPart cX6_freshPart 3 (some .double) ∈ TG := TG_in (List.mem_append_right _ (List.mem_of_getElem? (i := 665) (by decide +kernel))) (by decide +kernel)
theorem tw_669 : Cond.methodLink RL 83 yX6_peace ∈ TG := TG_in (List.mem_append_right _ (List.mem_of_getElem? (i := 669) (by decide +kernel))) (by decide +kernel)
theorem tw_67 : Cond.fieldLink RX6 296 RX5 "stickFeasts" "LRunicSticks$Row;" ∈ TG := TG_in (List.mem_append_right _ (List.mem_of_getElem? (i := 67) (by decide +kernel))) (by decide +kernel)
theorem tw_670 : Cond.instanceMethod yX6_peace ∈ TG := TG_in (List.mem_append_right _ (List.mem_of_getElem? (i := 670) (by decide +kernel))) (by decide +kernel)
theorem tw_671 : Cond.selects yX6_peace.cls yX6_peace yX6_peace ∈ TG := TG_in (List.mem_append_right _ (List.mem_of_getElem? (i := 671) (by decide +kernel))) (by decide +kernel)
theorem tw_672 : Cond.code yX6_peace cX6_peace 3 (some .int) ∈ TG := TG_in (List.mem_append_right _ (List.mem_of_getElem? (i := 672) (by decide +kernel))) (by decide +kernel)
theorem tw_673 : Cond.methodLink RX6 210 yX6_calmestSlip ∈ TG := TG_in (List.mem_append_right _ (List.mem_of_getElem? (i := 673) (by decide +kernel))) (by decide +kernel)
theorem tw_675 : Cond.instanceMethod yX6_calmestSlip ∈ TG := TG_in (List.mem_append_right _ (List.mem_of_getElem? (i := 675) (by decide +kernel))) (by decide +kernel)
theorem tw_676 : Cond.code yX6_calmestSlip cX6_calmestSlip 9 (some .int) ∈ TG := TG_in (List.mem_append_right _ (List.mem_of_getElem? (i := 676) (by decide +kernel))) (by decide +kernel)
theorem tw_677 : Cond.methodLink RX6 303 yX0_by ∈ TG := TG_in (List.mem_append_right _ (List.mem_of_getElem? (i := 677) (by decide +kernel))) (by decide +kernel)
theorem tw_678 : Cond.methodLink RL 86 yX6_undo ∈ TG := TG_in (List.mem_append_right _ (List.mem_of_getElem? (i := 678) (by decide +kernel))) (by decide +kernel)
theorem tw_679 : Cond.instanceMethod yX6_undo ∈ TG := TG_in (List.mem_append_right _ (List.mem_of_getElem? (i := 679) (by decide +kernel))) (by decide +kernel)
theorem tw_68 : Cond.fieldLink RX5 51 RX5 "stickNotches" "LRunicSticks$Row;" ∈ TG := TG_in (List.mem_append_right _ (List.mem_of_getElem? (i := 68) (by decide +kernel))) (by decide +kernel)
theorem tw_680 : Cond.selects yX6_undo.cls yX6_undo yX6_undo ∈ TG := TG_in (List.mem_append_right _ (List.mem_of_getElem? (i := 680) (by decide +kernel))) (by decide +kernel)
theorem tw_681 : Cond.code yX6_undo cX6_undo 1 (some .int) ∈ TG := TG_in (List.mem_append_right _ (List.mem_of_getElem? (i := 681) (by decide +kernel))) (by decide +kernel)
theorem tw_682 : Cond.methodLink RX6 153 yX1_isEmpty ∈ TG := TG_in (List.mem_append_right _ (List.mem_of_getElem? (i := 682) (by decide +kernel))) (by decide +kernel)
theorem tw_683 : Cond.instanceMethod yX1_isEmpty ∈ TG := TG_in (List.mem_append_right _ (List.mem_of_getElem? (i := 683) (by decide +kernel))) (by decide +kernel)
theorem tw_684 : Cond.selects yX1_isEmpty.cls yX1_isEmpty yX1_isEmpty ∈ TG := TG_in (List.mem_append_right _ (List.mem_of_getElem? (i := 684) (by decide +kernel))) (by decide +kernel)
theorem tw_685 : Cond.code yX1_isEmpty cX1_isEmpty 1 (some .boolean) ∈ TG := TG_in (List.mem_append_right _ (List.mem_of_getElem? (i := 685) (by decide +kernel))) (by decide +kernel)
theorem tw_687 : Cond.methodLink RX6 158 yX1_restoreInto ∈ TG := TG_in (List.mem_append_right _ (List.mem_of_getElem? (i := 687) (by decide +kernel))) (by decide +kernel)
theorem tw_688 : Cond.instanceMethod yX1_restoreInto ∈ TG := TG_in (List.mem_append_right _ (List.mem_of_getElem? (i := 688) (by decide +kernel))) (by decide +kernel)
theorem tw_689 : Cond.selects yX1_restoreInto.cls yX1_restoreInto yX1_restoreInto ∈ TG := TG_in (List.mem_append_right _ (List.mem_of_getElem? (i := 689) (by decide +kernel))) (by decide +kernel)
theorem tw_690 : Cond.code yX1_restoreInto cX1_restoreInto 3 none ∈ TG := TG_in (List.mem_append_right _ (List.mem_of_getElem? (i := 690) (by decide +kernel))) (by decide +kernel)
theorem tw_694 : Cond.methodLink RL 89 yX6_alike ∈ TG := TG_in (List.mem_append_right _ (List.mem_of_getElem? (i := 694) (by decide +kernel))) (by decide +kernel)
theorem tw_695 : Cond.instanceMethod yX6_alike ∈ TG := TG_in (List.mem_append_right _ (List.mem_of_getElem? (i := 695) (by decide +kernel))) (by decide +kernel)
theorem tw_696 : Cond.selects yX6_alike.cls yX6_alike yX6_alike ∈ TG := TG_in (List.mem_append_right _ (List.mem_of_getElem? (i := 696) (by decide +kernel))) (by decide +kernel)
theorem tw_697 : Cond.code yX6_alike cX6_alike 2 (some .int) ∈ TG := TG_in (List.mem_append_right _ (List.mem_of_getElem? (i := 697) (by decide +kernel))) (by decide +kernel)
theorem tw_698 : Cond.methodLink RX6 207 yX6_nextAlike ∈ TG := TG_in (List.mem_append_right _ (List.mem_of_getElem? (i := 698) (by decide +kernel))) (by decide +kernel)
theorem tw_700 : Cond.instanceMethod yX6_nextAlike ∈ TG := TG_in (List.mem_append_right _ (List.mem_of_getElem? (i := 700) (by decide +kernel))) (by decide +kernel)
theorem tw_701 : Cond.code yX6_nextAlike cX6_nextAlike 3 (some .int) ∈ TG := TG_in (List.mem_append_right _ (List.mem_of_getElem? (i := 701) (by decide +kernel))) (by decide +kernel)
theorem tw_702 : Cond.methodLink RX6 299 yX0_settlesLike ∈ TG := TG_in (List.mem_append_right _ (List.mem_of_getElem? (i := 702) (by decide +kernel))) (by decide +kernel)
theorem tw_703 : Cond.instanceMethod yX0_settlesLike ∈ TG := TG_in (List.mem_append_right _ (List.mem_of_getElem? (i := 703) (by decide +kernel))) (by decide +kernel)
theorem tw_704 : Cond.selects yX0_settlesLike.cls yX0_settlesLike yX0_settlesLike ∈ TG := TG_in (List.mem_append_right _ (List.mem_of_getElem? (i := 704) (by decide +kernel))) (by decide +kernel)
theorem tw_705 : Cond.code yX0_settlesLike cX0_settlesLike 4 (some .boolean) ∈ TG := TG_in (List.mem_append_right _ (List.mem_of_getElem? (i := 705) (by decide +kernel))) (by decide +kernel)
theorem tw_706 : Cond.methodLink RX0 47 yX0_settledNotch ∈ TG := TG_in (List.mem_append_right _ (List.mem_of_getElem? (i := 706) (by decide +kernel))) (by decide +kernel)
theorem tw_707 : Cond.methodLink RL 92 yX6_range ∈ TG := TG_in (List.mem_append_right _ (List.mem_of_getElem? (i := 707) (by decide +kernel))) (by decide +kernel)
theorem tw_708 : Cond.instanceMethod yX6_range ∈ TG := TG_in (List.mem_append_right _ (List.mem_of_getElem? (i := 708) (by decide +kernel))) (by decide +kernel)
theorem tw_709 : Cond.selects yX6_range.cls yX6_range yX6_range ∈ TG := TG_in (List.mem_append_right _ (List.mem_of_getElem? (i := 709) (by decide +kernel))) (by decide +kernel)
theorem tw_710 : Cond.code yX6_range cX6_range 5 (some .int) ∈ TG := TG_in (List.mem_append_right _ (List.mem_of_getElem? (i := 710) (by decide +kernel))) (by decide +kernel)
theorem tw_711 : Cond.methodLink RX6 203 yX6_outermost ∈ TG := TG_in (List.mem_append_right _ (List.mem_of_getElem? (i := 711) (by decide +kernel))) (by decide +kernel)
theorem tw_713 : Cond.instanceMethod yX6_outermost ∈ TG := TG_in (List.mem_append_right _ (List.mem_of_getElem? (i := 713) (by decide +kernel))) (by decide +kernel)
theorem tw_714 : Cond.code yX6_outermost cX6_outermost 8 (some .int) ∈ TG := TG_in (List.mem_append_right _ (List.mem_of_getElem? (i := 714) (by decide +kernel))) (by decide +kernel)
theorem kA_0 : kd 0 = 6 := by decide +kernel
theorem kA_1 : kd 1 = 5 := by decide +kernel
theorem kA_10 : kd 10 = 4 := by decide +kernel
theorem kA_12 : kd 12 = 4 := by decide +kernel
theorem kA_136 : kd 136 = 4 := by decide +kernel
theorem kA_138 : kd 138 = 2 := by decide +kernel
theorem kA_139 : kd 139 = 3 := by decide +kernel
theorem kA_14 : kd 14 = 4 := by decide +kernel
theorem kA_140 : kd 140 = 4 := by decide +kernel
theorem kA_142 : kd 142 = 4 := by decide +kernel
theorem kA_144 : kd 144 = 0 := by decide +kernel
theorem kA_16 : kd 16 = 4 := by decide +kernel
theorem kA_160 : kd 160 = 0 := by decide +kernel
theorem kA_2 : kd 2 = 4 := by decide +kernel
theorem kA_20 : kd 20 = 1 := by decide +kernel
theorem kA_21 : kd 21 = 11 := by decide +kernel
theorem kA_4 : kd 4 = 4 := by decide +kernel
theorem kA_6 : kd 6 = 4 := by decide +kernel
theorem kA_8 : kd 8 = 4 := by decide +kernel
theorem aA_21 : aln 21 = 6 := by decide +kernel
theorem kR0_1 {c : Nat} (h : kd c = 0) : kd (c + 1) = 3 := (by decide +kernel : ∀ c, c < NC → kd c = 0 → kd (c + 1) = 3) c (kd_lt h (by decide)) h
theorem kR0_6 {c : Nat} (h : kd c = 0) : kd (c + 6) = 3 := (by decide +kernel : ∀ c, c < NC → kd c = 0 → kd (c + 6) = 3) c (kd_lt h (by decide)) h
theorem kR0_11 {c : Nat} (h : kd c = 0) : kd (c + 11) = 3 := (by decide +kernel : ∀ c, c < NC → kd c = 0 → kd (c + 11) = 3) c (kd_lt h (by decide)) h
theorem kR1_1 {c : Nat} (h : kd c = 1) : kd (c + 1) = 11 := (by decide +kernel : ∀ c, c < NC → kd c = 1 → kd (c + 1) = 11) c (kd_lt h (by decide)) h
theorem kR3_1 {c : Nat} (h : kd c = 3) : kd (c + 1) = 4 := (by decide +kernel : ∀ c, c < NC → kd c = 3 → kd (c + 1) = 4) c (kd_lt h (by decide)) h
theorem kR3_3 {c : Nat} (h : kd c = 3) : kd (c + 3) = 4 := (by decide +kernel : ∀ c, c < NC → kd c = 3 → kd (c + 3) = 4) c (kd_lt h (by decide)) h
theorem kR4_1 {c : Nat} (h : kd c = 4) : kd (c + 1) = 8 := (by decide +kernel : ∀ c, c < NC → kd c = 4 → kd (c + 1) = 8) c (kd_lt h (by decide)) h
theorem kR5_1 {c : Nat} (h : kd c = 5) : kd (c + 1) = 4 := (by decide +kernel : ∀ c, c < NC → kd c = 5 → kd (c + 1) = 4) c (kd_lt h (by decide)) h
theorem kR5_3 {c : Nat} (h : kd c = 5) : kd (c + 3) = 4 := (by decide +kernel : ∀ c, c < NC → kd c = 5 → kd (c + 3) = 4) c (kd_lt h (by decide)) h
theorem kR5_5 {c : Nat} (h : kd c = 5) : kd (c + 5) = 4 := (by decide +kernel : ∀ c, c < NC → kd c = 5 → kd (c + 5) = 4) c (kd_lt h (by decide)) h
theorem kR5_7 {c : Nat} (h : kd c = 5) : kd (c + 7) = 4 := (by decide +kernel : ∀ c, c < NC → kd c = 5 → kd (c + 7) = 4) c (kd_lt h (by decide)) h
theorem kR5_9 {c : Nat} (h : kd c = 5) : kd (c + 9) = 4 := (by decide +kernel : ∀ c, c < NC → kd c = 5 → kd (c + 9) = 4) c (kd_lt h (by decide)) h
theorem kR5_11 {c : Nat} (h : kd c = 5) : kd (c + 11) = 4 := (by decide +kernel : ∀ c, c < NC → kd c = 5 → kd (c + 11) = 4) c (kd_lt h (by decide)) h
theorem kR5_13 {c : Nat} (h : kd c = 5) : kd (c + 13) = 4 := (by decide +kernel : ∀ c, c < NC → kd c = 5 → kd (c + 13) = 4) c (kd_lt h (by decide)) h
theorem kR5_15 {c : Nat} (h : kd c = 5) : kd (c + 15) = 4 := (by decide +kernel : ∀ c, c < NC → kd c = 5 → kd (c + 15) = 4) c (kd_lt h (by decide)) h
theorem kR5_17 {c : Nat} (h : kd c = 5) : kd (c + 17) = 4 := (by decide +kernel : ∀ c, c < NC → kd c = 5 → kd (c + 17) = 4) c (kd_lt h (by decide)) h
theorem inT0 : ∀ w ∈ u_ws RX0 TX0 3, w ∈ TG := fun w hw => TG_in ((by decide +kernel : ∀ w ∈ u_ws RX0 TX0 3, w ∈ lw_tbl) w hw) ((by decide +kernel : ∀ w ∈ u_ws RX0 TX0 3, goodWord w = true) w hw)
theorem inT1 : ∀ w ∈ u_ws RX1 TX1 3, w ∈ TG := fun w hw => TG_in ((by decide +kernel : ∀ w ∈ u_ws RX1 TX1 3, w ∈ lw_tbl) w hw) ((by decide +kernel : ∀ w ∈ u_ws RX1 TX1 3, goodWord w = true) w hw)
theorem inT2 : ∀ w ∈ u_ws RX2 TX2 6, w ∈ TG := fun w hw => TG_in ((by decide +kernel : ∀ w ∈ u_ws RX2 TX2 6, w ∈ lw_tbl) w hw) ((by decide +kernel : ∀ w ∈ u_ws RX2 TX2 6, goodWord w = true) w hw)
theorem inT3 : ∀ w ∈ u_ws RX3 TX3 5, w ∈ TG := fun w hw => TG_in ((by decide +kernel : ∀ w ∈ u_ws RX3 TX3 5, w ∈ lw_tbl) w hw) ((by decide +kernel : ∀ w ∈ u_ws RX3 TX3 5, goodWord w = true) w hw)
theorem inT4 : ∀ w ∈ u_ws RX4 TX4 1, w ∈ TG := fun w hw => TG_in ((by decide +kernel : ∀ w ∈ u_ws RX4 TX4 1, w ∈ lw_tbl) w hw) ((by decide +kernel : ∀ w ∈ u_ws RX4 TX4 1, goodWord w = true) w hw)
theorem inT5 : ∀ w ∈ u_ws RX5 TX5 12, w ∈ TG := fun w hw => TG_in ((by decide +kernel : ∀ w ∈ u_ws RX5 TX5 12, w ∈ lw_tbl) w hw) ((by decide +kernel : ∀ w ∈ u_ws RX5 TX5 12, goodWord w = true) w hw)
theorem inT6 : ∀ w ∈ u_ws RX6 TX6 9, w ∈ TG := fun w hw => TG_in ((by decide +kernel : ∀ w ∈ u_ws RX6 TX6 9, w ∈ lw_tbl) w hw) ((by decide +kernel : ∀ w ∈ u_ws RX6 TX6 9, goodWord w = true) w hw)
theorem hd_L_days : yL_days.cls ≠ "java/lang/invoke/MethodHandle" ∧ yL_days.cls ≠ "java/lang/invoke/VarHandle" ∧ (parseMethodDescriptor yL_days.desc).map (fun d => d.parameters.length) = some 1 := by decide +kernel
theorem hd_L_low : yL_low.cls ≠ "java/lang/invoke/MethodHandle" ∧ yL_low.cls ≠ "java/lang/invoke/VarHandle" ∧ (parseMethodDescriptor yL_low.desc).map (fun d => d.parameters.length) = some 2 := by decide +kernel
theorem hd_L_number : yL_number.cls ≠ "java/lang/invoke/MethodHandle" ∧ yL_number.cls ≠ "java/lang/invoke/VarHandle" ∧ (parseMethodDescriptor yL_number.desc).map (fun d => d.parameters.length) = some 2 := by decide +kernel
theorem hd_L_typed : yL_typed.cls ≠ "java/lang/invoke/MethodHandle" ∧ yL_typed.cls ≠ "java/lang/invoke/VarHandle" ∧ (parseMethodDescriptor yL_typed.desc).map (fun d => d.parameters.length) = some 3 := by decide +kernel
theorem hd_X0_by : yX0_by.cls ≠ "java/lang/invoke/MethodHandle" ∧ yX0_by.cls ≠ "java/lang/invoke/VarHandle" ∧ (parseMethodDescriptor yX0_by.desc).map (fun d => d.parameters.length) = some 1 := by decide +kernel
theorem hd_X0_gather : yX0_gather.cls ≠ "java/lang/invoke/MethodHandle" ∧ yX0_gather.cls ≠ "java/lang/invoke/VarHandle" ∧ (parseMethodDescriptor yX0_gather.desc).map (fun d => d.parameters.length) = some 2 := by decide +kernel
theorem hd_X0_quarrelCount : yX0_quarrelCount.cls ≠ "java/lang/invoke/MethodHandle" ∧ yX0_quarrelCount.cls ≠ "java/lang/invoke/VarHandle" ∧ (parseMethodDescriptor yX0_quarrelCount.desc).map (fun d => d.parameters.length) = some 1 := by decide +kernel
theorem hd_X0_settledNotch : yX0_settledNotch.cls ≠ "java/lang/invoke/MethodHandle" ∧ yX0_settledNotch.cls ≠ "java/lang/invoke/VarHandle" ∧ (parseMethodDescriptor yX0_settledNotch.desc).map (fun d => d.parameters.length) = some 1 := by decide +kernel
theorem hd_X0_settlesLike : yX0_settlesLike.cls ≠ "java/lang/invoke/MethodHandle" ∧ yX0_settlesLike.cls ≠ "java/lang/invoke/VarHandle" ∧ (parseMethodDescriptor yX0_settlesLike.desc).map (fun d => d.parameters.length) = some 2 := by decide +kernel
theorem hd_X1_isEmpty : yX1_isEmpty.cls ≠ "java/lang/invoke/MethodHandle" ∧ yX1_isEmpty.cls ≠ "java/lang/invoke/VarHandle" ∧ (parseMethodDescriptor yX1_isEmpty.desc).map (fun d => d.parameters.length) = some 0 := by decide +kernel
theorem hd_X1_restoreInto : yX1_restoreInto.cls ≠ "java/lang/invoke/MethodHandle" ∧ yX1_restoreInto.cls ≠ "java/lang/invoke/VarHandle" ∧ (parseMethodDescriptor yX1_restoreInto.desc).map (fun d => d.parameters.length) = some 1 := by decide +kernel
theorem hd_X1_save : yX1_save.cls ≠ "java/lang/invoke/MethodHandle" ∧ yX1_save.cls ≠ "java/lang/invoke/VarHandle" ∧ (parseMethodDescriptor yX1_save.desc).map (fun d => d.parameters.length) = some 1 := by decide +kernel
theorem hd_X1_size : yX1_size.cls ≠ "java/lang/invoke/MethodHandle" ∧ yX1_size.cls ≠ "java/lang/invoke/VarHandle" ∧ (parseMethodDescriptor yX1_size.desc).map (fun d => d.parameters.length) = some 0 := by decide +kernel
theorem hd_X1_stateAt : yX1_stateAt.cls ≠ "java/lang/invoke/MethodHandle" ∧ yX1_stateAt.cls ≠ "java/lang/invoke/VarHandle" ∧ (parseMethodDescriptor yX1_stateAt.desc).map (fun d => d.parameters.length) = some 1 := by decide +kernel
theorem hd_X2_hasWeekday : yX2_hasWeekday.cls ≠ "java/lang/invoke/MethodHandle" ∧ yX2_hasWeekday.cls ≠ "java/lang/invoke/VarHandle" ∧ (parseMethodDescriptor yX2_hasWeekday.desc).map (fun d => d.parameters.length) = some 0 := by decide +kernel
theorem hd_X2_isDigit : yX2_isDigit.cls ≠ "java/lang/invoke/MethodHandle" ∧ yX2_isDigit.cls ≠ "java/lang/invoke/VarHandle" ∧ (parseMethodDescriptor yX2_isDigit.desc).map (fun d => d.parameters.length) = some 1 := by decide +kernel
theorem hd_X2_mayEnd : yX2_mayEnd.cls ≠ "java/lang/invoke/MethodHandle" ∧ yX2_mayEnd.cls ≠ "java/lang/invoke/VarHandle" ∧ (parseMethodDescriptor yX2_mayEnd.desc).map (fun d => d.parameters.length) = some 0 := by decide +kernel
theorem hd_X2_reads : yX2_reads.cls ≠ "java/lang/invoke/MethodHandle" ∧ yX2_reads.cls ≠ "java/lang/invoke/VarHandle" ∧ (parseMethodDescriptor yX2_reads.desc).map (fun d => d.parameters.length) = some 1 := by decide +kernel
theorem hd_X2_readsBehindRule : yX2_readsBehindRule.cls ≠ "java/lang/invoke/MethodHandle" ∧ yX2_readsBehindRule.cls ≠ "java/lang/invoke/VarHandle" ∧ (parseMethodDescriptor yX2_readsBehindRule.desc).map (fun d => d.parameters.length) = some 1 := by decide +kernel
theorem hd_X2_readsComma : yX2_readsComma.cls ≠ "java/lang/invoke/MethodHandle" ∧ yX2_readsComma.cls ≠ "java/lang/invoke/VarHandle" ∧ (parseMethodDescriptor yX2_readsComma.desc).map (fun d => d.parameters.length) = some 1 := by decide +kernel
theorem hd_X2_readsFirstDigit : yX2_readsFirstDigit.cls ≠ "java/lang/invoke/MethodHandle" ∧ yX2_readsFirstDigit.cls ≠ "java/lang/invoke/VarHandle" ∧ (parseMethodDescriptor yX2_readsFirstDigit.desc).map (fun d => d.parameters.length) = some 1 := by decide +kernel
theorem hd_X2_readsNextDigit : yX2_readsNextDigit.cls ≠ "java/lang/invoke/MethodHandle" ∧ yX2_readsNextDigit.cls ≠ "java/lang/invoke/VarHandle" ∧ (parseMethodDescriptor yX2_readsNextDigit.desc).map (fun d => d.parameters.length) = some 1 := by decide +kernel
theorem hd_X2_readsOther : yX2_readsOther.cls ≠ "java/lang/invoke/MethodHandle" ∧ yX2_readsOther.cls ≠ "java/lang/invoke/VarHandle" ∧ (parseMethodDescriptor yX2_readsOther.desc).map (fun d => d.parameters.length) = some 3 := by decide +kernel
theorem hd_X2_readsRank : yX2_readsRank.cls ≠ "java/lang/invoke/MethodHandle" ∧ yX2_readsRank.cls ≠ "java/lang/invoke/VarHandle" ∧ (parseMethodDescriptor yX2_readsRank.desc).map (fun d => d.parameters.length) = some 1 := by decide +kernel
theorem hd_X2_readsRule : yX2_readsRule.cls ≠ "java/lang/invoke/MethodHandle" ∧ yX2_readsRule.cls ≠ "java/lang/invoke/VarHandle" ∧ (parseMethodDescriptor yX2_readsRule.desc).map (fun d => d.parameters.length) = some 1 := by decide +kernel
theorem hd_X2_readsSeparator : yX2_readsSeparator.cls ≠ "java/lang/invoke/MethodHandle" ∧ yX2_readsSeparator.cls ≠ "java/lang/invoke/VarHandle" ∧ (parseMethodDescriptor yX2_readsSeparator.desc).map (fun d => d.parameters.length) = some 1 := by decide +kernel
theorem hd_X2_readsSign : yX2_readsSign.cls ≠ "java/lang/invoke/MethodHandle" ∧ yX2_readsSign.cls ≠ "java/lang/invoke/VarHandle" ∧ (parseMethodDescriptor yX2_readsSign.desc).map (fun d => d.parameters.length) = some 1 := by decide +kernel
theorem hd_X2_start : yX2_start.cls ≠ "java/lang/invoke/MethodHandle" ∧ yX2_start.cls ≠ "java/lang/invoke/VarHandle" ∧ (parseMethodDescriptor yX2_start.desc).map (fun d => d.parameters.length) = some 0 := by decide +kernel
theorem hd_X3_cutNotches : yX3_cutNotches.cls ≠ "java/lang/invoke/MethodHandle" ∧ yX3_cutNotches.cls ≠ "java/lang/invoke/VarHandle" ∧ (parseMethodDescriptor yX3_cutNotches.desc).map (fun d => d.parameters.length) = some 2 := by decide +kernel
theorem hd_X3_dayByRule : yX3_dayByRule.cls ≠ "java/lang/invoke/MethodHandle" ∧ yX3_dayByRule.cls ≠ "java/lang/invoke/VarHandle" ∧ (parseMethodDescriptor yX3_dayByRule.desc).map (fun d => d.parameters.length) = some 2 := by decide +kernel
theorem hd_X3_hasNotch : yX3_hasNotch.cls ≠ "java/lang/invoke/MethodHandle" ∧ yX3_hasNotch.cls ≠ "java/lang/invoke/VarHandle" ∧ (parseMethodDescriptor yX3_hasNotch.desc).map (fun d => d.parameters.length) = some 2 := by decide +kernel
theorem hd_X3_movedCount : yX3_movedCount.cls ≠ "java/lang/invoke/MethodHandle" ∧ yX3_movedCount.cls ≠ "java/lang/invoke/VarHandle" ∧ (parseMethodDescriptor yX3_movedCount.desc).map (fun d => d.parameters.length) = some 1 := by decide +kernel
theorem hd_X3_orNone : yX3_orNone.cls ≠ "java/lang/invoke/MethodHandle" ∧ yX3_orNone.cls ≠ "java/lang/invoke/VarHandle" ∧ (parseMethodDescriptor yX3_orNone.desc).map (fun d => d.parameters.length) = some 1 := by decide +kernel
theorem hd_X3_reckon : yX3_reckon.cls ≠ "java/lang/invoke/MethodHandle" ∧ yX3_reckon.cls ≠ "java/lang/invoke/VarHandle" ∧ (parseMethodDescriptor yX3_reckon.desc).map (fun d => d.parameters.length) = some 3 := by decide +kernel
theorem hd_X3_weekdayFrom : yX3_weekdayFrom.cls ≠ "java/lang/invoke/MethodHandle" ∧ yX3_weekdayFrom.cls ≠ "java/lang/invoke/VarHandle" ∧ (parseMethodDescriptor yX3_weekdayFrom.desc).map (fun d => d.parameters.length) = some 2 := by decide +kernel
theorem hd_X3_weekdayPastMoon : yX3_weekdayPastMoon.cls ≠ "java/lang/invoke/MethodHandle" ∧ yX3_weekdayPastMoon.cls ≠ "java/lang/invoke/VarHandle" ∧ (parseMethodDescriptor yX3_weekdayPastMoon.desc).map (fun d => d.parameters.length) = some 2 := by decide +kernel
theorem hd_X4_at : yX4_at.cls ≠ "java/lang/invoke/MethodHandle" ∧ yX4_at.cls ≠ "java/lang/invoke/VarHandle" ∧ (parseMethodDescriptor yX4_at.desc).map (fun d => d.parameters.length) = some 1 := by decide +kernel
theorem hd_X4_copyFrom : yX4_copyFrom.cls ≠ "java/lang/invoke/MethodHandle" ∧ yX4_copyFrom.cls ≠ "java/lang/invoke/VarHandle" ∧ (parseMethodDescriptor yX4_copyFrom.desc).map (fun d => d.parameters.length) = some 1 := by decide +kernel
theorem hd_X4_put : yX4_put.cls ≠ "java/lang/invoke/MethodHandle" ∧ yX4_put.cls ≠ "java/lang/invoke/VarHandle" ∧ (parseMethodDescriptor yX4_put.desc).map (fun d => d.parameters.length) = some 2 := by decide +kernel
theorem hd_X4_putNowhere : yX4_putNowhere.cls ≠ "java/lang/invoke/MethodHandle" ∧ yX4_putNowhere.cls ≠ "java/lang/invoke/VarHandle" ∧ (parseMethodDescriptor yX4_putNowhere.desc).map (fun d => d.parameters.length) = some 0 := by decide +kernel
theorem hd_X5_addFeast : yX5_addFeast.cls ≠ "java/lang/invoke/MethodHandle" ∧ yX5_addFeast.cls ≠ "java/lang/invoke/VarHandle" ∧ (parseMethodDescriptor yX5_addFeast.desc).map (fun d => d.parameters.length) = some 1 := by decide +kernel
theorem hd_X5_addStick : yX5_addStick.cls ≠ "java/lang/invoke/MethodHandle" ∧ yX5_addStick.cls ≠ "java/lang/invoke/VarHandle" ∧ (parseMethodDescriptor yX5_addStick.desc).map (fun d => d.parameters.length) = some 3 := by decide +kernel
theorem hd_X5_copyFrom : yX5_copyFrom.cls ≠ "java/lang/invoke/MethodHandle" ∧ yX5_copyFrom.cls ≠ "java/lang/invoke/VarHandle" ∧ (parseMethodDescriptor yX5_copyFrom.desc).map (fun d => d.parameters.length) = some 1 := by decide +kernel
theorem hd_X5_copyStick : yX5_copyStick.cls ≠ "java/lang/invoke/MethodHandle" ∧ yX5_copyStick.cls ≠ "java/lang/invoke/VarHandle" ∧ (parseMethodDescriptor yX5_copyStick.desc).map (fun d => d.parameters.length) = some 2 := by decide +kernel
theorem hd_X5_dropStick : yX5_dropStick.cls ≠ "java/lang/invoke/MethodHandle" ∧ yX5_dropStick.cls ≠ "java/lang/invoke/VarHandle" ∧ (parseMethodDescriptor yX5_dropStick.desc).map (fun d => d.parameters.length) = some 1 := by decide +kernel
theorem hd_X5_notchesOfStick : yX5_notchesOfStick.cls ≠ "java/lang/invoke/MethodHandle" ∧ yX5_notchesOfStick.cls ≠ "java/lang/invoke/VarHandle" ∧ (parseMethodDescriptor yX5_notchesOfStick.desc).map (fun d => d.parameters.length) = some 1 := by decide +kernel
theorem hd_X5_stickNotch : yX5_stickNotch.cls ≠ "java/lang/invoke/MethodHandle" ∧ yX5_stickNotch.cls ≠ "java/lang/invoke/VarHandle" ∧ (parseMethodDescriptor yX5_stickNotch.desc).map (fun d => d.parameters.length) = some 2 := by decide +kernel
theorem hd_X6_addBufferedFeasts : yX6_addBufferedFeasts.cls ≠ "java/lang/invoke/MethodHandle" ∧ yX6_addBufferedFeasts.cls ≠ "java/lang/invoke/VarHandle" ∧ (parseMethodDescriptor yX6_addBufferedFeasts.desc).map (fun d => d.parameters.length) = some 0 := by decide +kernel
theorem hd_X6_addReadFeast : yX6_addReadFeast.cls ≠ "java/lang/invoke/MethodHandle" ∧ yX6_addReadFeast.cls ≠ "java/lang/invoke/VarHandle" ∧ (parseMethodDescriptor yX6_addReadFeast.desc).map (fun d => d.parameters.length) = some 0 := by decide +kernel
theorem hd_X6_alike : yX6_alike.cls ≠ "java/lang/invoke/MethodHandle" ∧ yX6_alike.cls ≠ "java/lang/invoke/VarHandle" ∧ (parseMethodDescriptor yX6_alike.desc).map (fun d => d.parameters.length) = some 1 := by decide +kernel
theorem hd_X6_append : yX6_append.cls ≠ "java/lang/invoke/MethodHandle" ∧ yX6_append.cls ≠ "java/lang/invoke/VarHandle" ∧ (parseMethodDescriptor yX6_append.desc).map (fun d => d.parameters.length) = some 1 := by decide +kernel
theorem hd_X6_bufferTellsFeasts : yX6_bufferTellsFeasts.cls ≠ "java/lang/invoke/MethodHandle" ∧ yX6_bufferTellsFeasts.cls ≠ "java/lang/invoke/VarHandle" ∧ (parseMethodDescriptor yX6_bufferTellsFeasts.desc).map (fun d => d.parameters.length) = some 0 := by decide +kernel
theorem hd_X6_burn : yX6_burn.cls ≠ "java/lang/invoke/MethodHandle" ∧ yX6_burn.cls ≠ "java/lang/invoke/VarHandle" ∧ (parseMethodDescriptor yX6_burn.desc).map (fun d => d.parameters.length) = some 1 := by decide +kernel
theorem hd_X6_calmestSlip : yX6_calmestSlip.cls ≠ "java/lang/invoke/MethodHandle" ∧ yX6_calmestSlip.cls ≠ "java/lang/invoke/VarHandle" ∧ (parseMethodDescriptor yX6_calmestSlip.desc).map (fun d => d.parameters.length) = some 2 := by decide +kernel
theorem hd_X6_carve : yX6_carve.cls ≠ "java/lang/invoke/MethodHandle" ∧ yX6_carve.cls ≠ "java/lang/invoke/VarHandle" ∧ (parseMethodDescriptor yX6_carve.desc).map (fun d => d.parameters.length) = some 2 := by decide +kernel
theorem hd_X6_count : yX6_count.cls ≠ "java/lang/invoke/MethodHandle" ∧ yX6_count.cls ≠ "java/lang/invoke/VarHandle" ∧ (parseMethodDescriptor yX6_count.desc).map (fun d => d.parameters.length) = some 1 := by decide +kernel
theorem hd_X6_day : yX6_day.cls ≠ "java/lang/invoke/MethodHandle" ∧ yX6_day.cls ≠ "java/lang/invoke/VarHandle" ∧ (parseMethodDescriptor yX6_day.desc).map (fun d => d.parameters.length) = some 3 := by decide +kernel
theorem hd_X6_daysIn : yX6_daysIn.cls ≠ "java/lang/invoke/MethodHandle" ∧ yX6_daysIn.cls ≠ "java/lang/invoke/VarHandle" ∧ (parseMethodDescriptor yX6_daysIn.desc).map (fun d => d.parameters.length) = some 1 := by decide +kernel
theorem hd_X6_feast : yX6_feast.cls ≠ "java/lang/invoke/MethodHandle" ∧ yX6_feast.cls ≠ "java/lang/invoke/VarHandle" ∧ (parseMethodDescriptor yX6_feast.desc).map (fun d => d.parameters.length) = some 2 := by decide +kernel
theorem hd_X6_feastProperty : yX6_feastProperty.cls ≠ "java/lang/invoke/MethodHandle" ∧ yX6_feastProperty.cls ≠ "java/lang/invoke/VarHandle" ∧ (parseMethodDescriptor yX6_feastProperty.desc).map (fun d => d.parameters.length) = some 2 := by decide +kernel
theorem hd_X6_forget : yX6_forget.cls ≠ "java/lang/invoke/MethodHandle" ∧ yX6_forget.cls ≠ "java/lang/invoke/VarHandle" ∧ (parseMethodDescriptor yX6_forget.desc).map (fun d => d.parameters.length) = some 0 := by decide +kernel
theorem hd_X6_freshPart : yX6_freshPart.cls ≠ "java/lang/invoke/MethodHandle" ∧ yX6_freshPart.cls ≠ "java/lang/invoke/VarHandle" ∧ (parseMethodDescriptor yX6_freshPart.desc).map (fun d => d.parameters.length) = some 0 := by decide +kernel
theorem hd_X6_freshShare : yX6_freshShare.cls ≠ "java/lang/invoke/MethodHandle" ∧ yX6_freshShare.cls ≠ "java/lang/invoke/VarHandle" ∧ (parseMethodDescriptor yX6_freshShare.desc).map (fun d => d.parameters.length) = some 0 := by decide +kernel
theorem hd_X6_isLeap : yX6_isLeap.cls ≠ "java/lang/invoke/MethodHandle" ∧ yX6_isLeap.cls ≠ "java/lang/invoke/VarHandle" ∧ (parseMethodDescriptor yX6_isLeap.desc).map (fun d => d.parameters.length) = some 1 := by decide +kernel
theorem hd_X6_lowestFeastOn : yX6_lowestFeastOn.cls ≠ "java/lang/invoke/MethodHandle" ∧ yX6_lowestFeastOn.cls ≠ "java/lang/invoke/VarHandle" ∧ (parseMethodDescriptor yX6_lowestFeastOn.desc).map (fun d => d.parameters.length) = some 2 := by decide +kernel
theorem hd_X6_moonAge : yX6_moonAge.cls ≠ "java/lang/invoke/MethodHandle" ∧ yX6_moonAge.cls ≠ "java/lang/invoke/VarHandle" ∧ (parseMethodDescriptor yX6_moonAge.desc).map (fun d => d.parameters.length) = some 2 := by decide +kernel
theorem hd_X6_moonShift : yX6_moonShift.cls ≠ "java/lang/invoke/MethodHandle" ∧ yX6_moonShift.cls ≠ "java/lang/invoke/VarHandle" ∧ (parseMethodDescriptor yX6_moonShift.desc).map (fun d => d.parameters.length) = some 3 := by decide +kernel
theorem hd_X6_moved : yX6_moved.cls ≠ "java/lang/invoke/MethodHandle" ∧ yX6_moved.cls ≠ "java/lang/invoke/VarHandle" ∧ (parseMethodDescriptor yX6_moved.desc).map (fun d => d.parameters.length) = some 2 := by decide +kernel
theorem hd_X6_needCarver : yX6_needCarver.cls ≠ "java/lang/invoke/MethodHandle" ∧ yX6_needCarver.cls ≠ "java/lang/invoke/VarHandle" ∧ (parseMethodDescriptor yX6_needCarver.desc).map (fun d => d.parameters.length) = some 1 := by decide +kernel
theorem hd_X6_needFeast : yX6_needFeast.cls ≠ "java/lang/invoke/MethodHandle" ∧ yX6_needFeast.cls ≠ "java/lang/invoke/VarHandle" ∧ (parseMethodDescriptor yX6_needFeast.desc).map (fun d => d.parameters.length) = some 1 := by decide +kernel
theorem hd_X6_needStick : yX6_needStick.cls ≠ "java/lang/invoke/MethodHandle" ∧ yX6_needStick.cls ≠ "java/lang/invoke/VarHandle" ∧ (parseMethodDescriptor yX6_needStick.desc).map (fun d => d.parameters.length) = some 1 := by decide +kernel
theorem hd_X6_needWithin : yX6_needWithin.cls ≠ "java/lang/invoke/MethodHandle" ∧ yX6_needWithin.cls ≠ "java/lang/invoke/VarHandle" ∧ (parseMethodDescriptor yX6_needWithin.desc).map (fun d => d.parameters.length) = some 3 := by decide +kernel
theorem hd_X6_needYear : yX6_needYear.cls ≠ "java/lang/invoke/MethodHandle" ∧ yX6_needYear.cls ≠ "java/lang/invoke/VarHandle" ∧ (parseMethodDescriptor yX6_needYear.desc).map (fun d => d.parameters.length) = some 1 := by decide +kernel
theorem hd_X6_newYearWeekday : yX6_newYearWeekday.cls ≠ "java/lang/invoke/MethodHandle" ∧ yX6_newYearWeekday.cls ≠ "java/lang/invoke/VarHandle" ∧ (parseMethodDescriptor yX6_newYearWeekday.desc).map (fun d => d.parameters.length) = some 1 := by decide +kernel
theorem hd_X6_nextAlike : yX6_nextAlike.cls ≠ "java/lang/invoke/MethodHandle" ∧ yX6_nextAlike.cls ≠ "java/lang/invoke/VarHandle" ∧ (parseMethodDescriptor yX6_nextAlike.desc).map (fun d => d.parameters.length) = some 1 := by decide +kernel
theorem hd_X6_numberOf : yX6_numberOf.cls ≠ "java/lang/invoke/MethodHandle" ∧ yX6_numberOf.cls ≠ "java/lang/invoke/VarHandle" ∧ (parseMethodDescriptor yX6_numberOf.desc).map (fun d => d.parameters.length) = some 1 := by decide +kernel
theorem hd_X6_outermost : yX6_outermost.cls ≠ "java/lang/invoke/MethodHandle" ∧ yX6_outermost.cls ≠ "java/lang/invoke/VarHandle" ∧ (parseMethodDescriptor yX6_outermost.desc).map (fun d => d.parameters.length) = some 4 := by decide +kernel
theorem hd_X6_peace : yX6_peace.cls ≠ "java/lang/invoke/MethodHandle" ∧ yX6_peace.cls ≠ "java/lang/invoke/VarHandle" ∧ (parseMethodDescriptor yX6_peace.desc).map (fun d => d.parameters.length) = some 2 := by decide +kernel
theorem hd_X6_proclaim : yX6_proclaim.cls ≠ "java/lang/invoke/MethodHandle" ∧ yX6_proclaim.cls ≠ "java/lang/invoke/VarHandle" ∧ (parseMethodDescriptor yX6_proclaim.desc).map (fun d => d.parameters.length) = some 0 := by decide +kernel
theorem hd_X6_quarrels : yX6_quarrels.cls ≠ "java/lang/invoke/MethodHandle" ∧ yX6_quarrels.cls ≠ "java/lang/invoke/VarHandle" ∧ (parseMethodDescriptor yX6_quarrels.desc).map (fun d => d.parameters.length) = some 1 := by decide +kernel
theorem hd_X6_range : yX6_range.cls ≠ "java/lang/invoke/MethodHandle" ∧ yX6_range.cls ≠ "java/lang/invoke/VarHandle" ∧ (parseMethodDescriptor yX6_range.desc).map (fun d => d.parameters.length) = some 4 := by decide +kernel
theorem hd_X6_rank : yX6_rank.cls ≠ "java/lang/invoke/MethodHandle" ∧ yX6_rank.cls ≠ "java/lang/invoke/VarHandle" ∧ (parseMethodDescriptor yX6_rank.desc).map (fun d => d.parameters.length) = some 2 := by decide +kernel
theorem hd_X6_set : yX6_set.cls ≠ "java/lang/invoke/MethodHandle" ∧ yX6_set.cls ≠ "java/lang/invoke/VarHandle" ∧ (parseMethodDescriptor yX6_set.desc).map (fun d => d.parameters.length) = some 1 := by decide +kernel
theorem hd_X6_settled : yX6_settled.cls ≠ "java/lang/invoke/MethodHandle" ∧ yX6_settled.cls ≠ "java/lang/invoke/VarHandle" ∧ (parseMethodDescriptor yX6_settled.desc).map (fun d => d.parameters.length) = some 2 := by decide +kernel
theorem hd_X6_signsReadWell : yX6_signsReadWell.cls ≠ "java/lang/invoke/MethodHandle" ∧ yX6_signsReadWell.cls ≠ "java/lang/invoke/VarHandle" ∧ (parseMethodDescriptor yX6_signsReadWell.desc).map (fun d => d.parameters.length) = some 0 := by decide +kernel
theorem hd_X6_staleFeasts : yX6_staleFeasts.cls ≠ "java/lang/invoke/MethodHandle" ∧ yX6_staleFeasts.cls ≠ "java/lang/invoke/VarHandle" ∧ (parseMethodDescriptor yX6_staleFeasts.desc).map (fun d => d.parameters.length) = some 2 := by decide +kernel
theorem hd_X6_stick : yX6_stick.cls ≠ "java/lang/invoke/MethodHandle" ∧ yX6_stick.cls ≠ "java/lang/invoke/VarHandle" ∧ (parseMethodDescriptor yX6_stick.desc).map (fun d => d.parameters.length) = some 2 := by decide +kernel
theorem hd_X6_stickProperty : yX6_stickProperty.cls ≠ "java/lang/invoke/MethodHandle" ∧ yX6_stickProperty.cls ≠ "java/lang/invoke/VarHandle" ∧ (parseMethodDescriptor yX6_stickProperty.desc).map (fun d => d.parameters.length) = some 2 := by decide +kernel
theorem hd_X6_teach : yX6_teach.cls ≠ "java/lang/invoke/MethodHandle" ∧ yX6_teach.cls ≠ "java/lang/invoke/VarHandle" ∧ (parseMethodDescriptor yX6_teach.desc).map (fun d => d.parameters.length) = some 2 := by decide +kernel
theorem hd_X6_undo : yX6_undo.cls ≠ "java/lang/invoke/MethodHandle" ∧ yX6_undo.cls ≠ "java/lang/invoke/VarHandle" ∧ (parseMethodDescriptor yX6_undo.desc).map (fun d => d.parameters.length) = some 0 := by decide +kernel
theorem hd_X6_when : yX6_when.cls ≠ "java/lang/invoke/MethodHandle" ∧ yX6_when.cls ≠ "java/lang/invoke/VarHandle" ∧ (parseMethodDescriptor yX6_when.desc).map (fun d => d.parameters.length) = some 4 := by decide +kernel
