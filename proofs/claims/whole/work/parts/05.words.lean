/-! words of the tables; kinds -/
theorem ti_0 : Cond.initialized RX0 ∈ TG := TG_in (List.mem_append_right _ (List.mem_of_getElem? (i := 7) (by decide +kernel))) (by decide +kernel)
theorem ti_1 : Cond.initialized RX1 ∈ TG := TG_in (List.mem_append_right _ (List.mem_of_getElem? (i := 4) (by decide +kernel))) (by decide +kernel)
theorem ti_2 : Cond.initialized RX2 ∈ TG := TG_in (List.mem_append_right _ (List.mem_of_getElem? (i := 5) (by decide +kernel))) (by decide +kernel)
theorem ti_3 : Cond.initialized RX3 ∈ TG := TG_in (List.mem_append_right _ (List.mem_of_getElem? (i := 6) (by decide +kernel))) (by decide +kernel)
theorem ti_4 : Cond.initialized RX4 ∈ TG := TG_in (List.mem_append_right _ (List.mem_of_getElem? (i := 3) (by decide +kernel))) (by decide +kernel)
theorem ti_5 : Cond.initialized RX5 ∈ TG := TG_in (List.mem_append_right _ (List.mem_of_getElem? (i := 2) (by decide +kernel))) (by decide +kernel)
theorem ti_6 : Cond.initialized RX6 ∈ TG := TG_in (List.mem_append_right _ (List.mem_of_getElem? (i := 1) (by decide +kernel))) (by decide +kernel)
theorem ti_7 : Cond.initialized RX7 ∈ TG := TG_in (List.mem_append_right _ (List.mem_of_getElem? (i := 8) (by decide +kernel))) (by decide +kernel)
theorem tp_0 : Cond.selects yX6_signsReadWell.cls yX6_signsReadWell yX6_signsReadWell ∈ TG := TG_in (List.mem_append_left _ (List.mem_of_getElem? (i := 0) (by decide +kernel))) (by decide +kernel)
theorem tp_1 : Cond.selects yX2_readsRule.cls yX2_readsRule yX2_readsRule ∈ TG := TG_in (List.mem_append_left _ (List.mem_of_getElem? (i := 1) (by decide +kernel))) (by decide +kernel)
theorem tp_10 : Cond.selects yX2_readsRank.cls yX2_readsRank yX2_readsRank ∈ TG := TG_in (List.mem_append_left _ (List.mem_of_getElem? (i := 10) (by decide +kernel))) (by decide +kernel)
theorem tp_11 : Cond.selects yX6_freshPart.cls yX6_freshPart yX6_freshPart ∈ TG := TG_in (List.mem_append_left _ (List.mem_of_getElem? (i := 11) (by decide +kernel))) (by decide +kernel)
theorem tp_12 : Cond.selects yX6_staleFeasts.cls yX6_staleFeasts yX6_staleFeasts ∈ TG := TG_in (List.mem_append_left _ (List.mem_of_getElem? (i := 12) (by decide +kernel))) (by decide +kernel)
theorem tp_13 : Cond.selects yX3_dayByRule.cls yX3_dayByRule yX3_dayByRule ∈ TG := TG_in (List.mem_append_left _ (List.mem_of_getElem? (i := 13) (by decide +kernel))) (by decide +kernel)
theorem tp_14 : Cond.selects yX3_weekdayFrom.cls yX3_weekdayFrom yX3_weekdayFrom ∈ TG := TG_in (List.mem_append_left _ (List.mem_of_getElem? (i := 14) (by decide +kernel))) (by decide +kernel)
theorem tp_15 : Cond.selects yX3_weekdayPastMoon.cls yX3_weekdayPastMoon yX3_weekdayPastMoon ∈ TG := TG_in (List.mem_append_left _ (List.mem_of_getElem? (i := 15) (by decide +kernel))) (by decide +kernel)
theorem tp_16 : Cond.selects yX3_orNone.cls yX3_orNone yX3_orNone ∈ TG := TG_in (List.mem_append_left _ (List.mem_of_getElem? (i := 16) (by decide +kernel))) (by decide +kernel)
theorem tp_17 : Cond.selects yX3_cutNotches.cls yX3_cutNotches yX3_cutNotches ∈ TG := TG_in (List.mem_append_left _ (List.mem_of_getElem? (i := 17) (by decide +kernel))) (by decide +kernel)
theorem tp_18 : Cond.selects yX3_hasNotch.cls yX3_hasNotch yX3_hasNotch ∈ TG := TG_in (List.mem_append_left _ (List.mem_of_getElem? (i := 18) (by decide +kernel))) (by decide +kernel)
theorem tp_19 : Cond.selects yX6_numberOf.cls yX6_numberOf yX6_numberOf ∈ TG := TG_in (List.mem_append_left _ (List.mem_of_getElem? (i := 19) (by decide +kernel))) (by decide +kernel)
theorem tp_2 : Cond.selects yX2_readsOther.cls yX2_readsOther yX2_readsOther ∈ TG := TG_in (List.mem_append_left _ (List.mem_of_getElem? (i := 2) (by decide +kernel))) (by decide +kernel)
theorem tp_20 : Cond.selects yX6_gatherDigestCouncils.cls yX6_gatherDigestCouncils yX6_gatherDigestCouncils ∈ TG := TG_in (List.mem_append_left _ (List.mem_of_getElem? (i := 20) (by decide +kernel))) (by decide +kernel)
theorem tp_21 : Cond.selects yX6_mixedFeasts.cls yX6_mixedFeasts yX6_mixedFeasts ∈ TG := TG_in (List.mem_append_left _ (List.mem_of_getElem? (i := 21) (by decide +kernel))) (by decide +kernel)
theorem tp_22 : Cond.selects yX6_feastProperty.cls yX6_feastProperty yX6_feastProperty ∈ TG := TG_in (List.mem_append_left _ (List.mem_of_getElem? (i := 22) (by decide +kernel))) (by decide +kernel)
theorem tp_23 : Cond.selects yX6_mixedQuarrels.cls yX6_mixedQuarrels yX6_mixedQuarrels ∈ TG := TG_in (List.mem_append_left _ (List.mem_of_getElem? (i := 23) (by decide +kernel))) (by decide +kernel)
theorem tp_24 : Cond.selects yX6_stickProperty.cls yX6_stickProperty yX6_stickProperty ∈ TG := TG_in (List.mem_append_left _ (List.mem_of_getElem? (i := 24) (by decide +kernel))) (by decide +kernel)
theorem tp_25 : Cond.selects yX6_nextAlike.cls yX6_nextAlike yX6_nextAlike ∈ TG := TG_in (List.mem_append_left _ (List.mem_of_getElem? (i := 25) (by decide +kernel))) (by decide +kernel)
theorem tp_26 : Cond.selects yX6_calmestSlip.cls yX6_calmestSlip yX6_calmestSlip ∈ TG := TG_in (List.mem_append_left _ (List.mem_of_getElem? (i := 26) (by decide +kernel))) (by decide +kernel)
theorem tp_27 : Cond.selects yX6_outermost.cls yX6_outermost yX6_outermost ∈ TG := TG_in (List.mem_append_left _ (List.mem_of_getElem? (i := 27) (by decide +kernel))) (by decide +kernel)
theorem tp_3 : Cond.selects yX2_readsSign.cls yX2_readsSign yX2_readsSign ∈ TG := TG_in (List.mem_append_left _ (List.mem_of_getElem? (i := 3) (by decide +kernel))) (by decide +kernel)
theorem tp_30 : Cond.selects yX1_stateAt.cls yX1_stateAt yX1_stateAt ∈ TG := TG_in (List.mem_append_left _ (List.mem_of_getElem? (i := 30) (by decide +kernel))) (by decide +kernel)
theorem tp_32 : Cond.selects yX6_addReadFeast.cls yX6_addReadFeast yX6_addReadFeast ∈ TG := TG_in (List.mem_append_left _ (List.mem_of_getElem? (i := 32) (by decide +kernel))) (by decide +kernel)
theorem tp_34 : Cond.selects yX5_copyStick.cls yX5_copyStick yX5_copyStick ∈ TG := TG_in (List.mem_append_left _ (List.mem_of_getElem? (i := 34) (by decide +kernel))) (by decide +kernel)
theorem tp_37 : Cond.selects yX7_holds.cls yX7_holds yX7_holds ∈ TG := TG_in (List.mem_append_left _ (List.mem_of_getElem? (i := 37) (by decide +kernel))) (by decide +kernel)
theorem tp_38 : Cond.selects yX7_go.cls yX7_go yX7_go ∈ TG := TG_in (List.mem_append_left _ (List.mem_of_getElem? (i := 38) (by decide +kernel))) (by decide +kernel)
theorem tp_39 : Cond.selects yX7_read.cls yX7_read yX7_read ∈ TG := TG_in (List.mem_append_left _ (List.mem_of_getElem? (i := 39) (by decide +kernel))) (by decide +kernel)
theorem tp_4 : Cond.selects yX2_readsFirstDigit.cls yX2_readsFirstDigit yX2_readsFirstDigit ∈ TG := TG_in (List.mem_append_left _ (List.mem_of_getElem? (i := 4) (by decide +kernel))) (by decide +kernel)
theorem tp_40 : Cond.selects yX7_sign.cls yX7_sign yX7_sign ∈ TG := TG_in (List.mem_append_left _ (List.mem_of_getElem? (i := 40) (by decide +kernel))) (by decide +kernel)
theorem tp_41 : Cond.selects yX7_isNext.cls yX7_isNext yX7_isNext ∈ TG := TG_in (List.mem_append_left _ (List.mem_of_getElem? (i := 41) (by decide +kernel))) (by decide +kernel)
theorem tp_42 : Cond.selects yX7_number.cls yX7_number yX7_number ∈ TG := TG_in (List.mem_append_left _ (List.mem_of_getElem? (i := 42) (by decide +kernel))) (by decide +kernel)
theorem tp_43 : Cond.selects yX7_adds.cls yX7_adds yX7_adds ∈ TG := TG_in (List.mem_append_left _ (List.mem_of_getElem? (i := 43) (by decide +kernel))) (by decide +kernel)
theorem tp_44 : Cond.selects yX7_save.cls yX7_save yX7_save ∈ TG := TG_in (List.mem_append_left _ (List.mem_of_getElem? (i := 44) (by decide +kernel))) (by decide +kernel)
theorem tp_45 : Cond.selects yX7_isFeast.cls yX7_isFeast yX7_isFeast ∈ TG := TG_in (List.mem_append_left _ (List.mem_of_getElem? (i := 45) (by decide +kernel))) (by decide +kernel)
theorem tp_46 : Cond.selects yX7_puts.cls yX7_puts yX7_puts ∈ TG := TG_in (List.mem_append_left _ (List.mem_of_getElem? (i := 46) (by decide +kernel))) (by decide +kernel)
theorem tp_47 : Cond.selects yX7_lay.cls yX7_lay yX7_lay ∈ TG := TG_in (List.mem_append_left _ (List.mem_of_getElem? (i := 47) (by decide +kernel))) (by decide +kernel)
theorem tp_48 : Cond.selects yX7_findProper.cls yX7_findProper yX7_findProper ∈ TG := TG_in (List.mem_append_left _ (List.mem_of_getElem? (i := 48) (by decide +kernel))) (by decide +kernel)
theorem tp_49 : Cond.selects yX7_firstFull.cls yX7_firstFull yX7_firstFull ∈ TG := TG_in (List.mem_append_left _ (List.mem_of_getElem? (i := 49) (by decide +kernel))) (by decide +kernel)
theorem tp_5 : Cond.selects yX2_readsNextDigit.cls yX2_readsNextDigit yX2_readsNextDigit ∈ TG := TG_in (List.mem_append_left _ (List.mem_of_getElem? (i := 5) (by decide +kernel))) (by decide +kernel)
theorem tp_50 : Cond.selects yX7_age.cls yX7_age yX7_age ∈ TG := TG_in (List.mem_append_left _ (List.mem_of_getElem? (i := 50) (by decide +kernel))) (by decide +kernel)
theorem tp_51 : Cond.selects yX7_isStick.cls yX7_isStick yX7_isStick ∈ TG := TG_in (List.mem_append_left _ (List.mem_of_getElem? (i := 51) (by decide +kernel))) (by decide +kernel)
theorem tp_52 : Cond.selects yX7_aboutDay.cls yX7_aboutDay yX7_aboutDay ∈ TG := TG_in (List.mem_append_left _ (List.mem_of_getElem? (i := 52) (by decide +kernel))) (by decide +kernel)
theorem tp_53 : Cond.selects yX7_feastOn.cls yX7_feastOn yX7_feastOn ∈ TG := TG_in (List.mem_append_left _ (List.mem_of_getElem? (i := 53) (by decide +kernel))) (by decide +kernel)
theorem tp_54 : Cond.selects yX7_layAll.cls yX7_layAll yX7_layAll ∈ TG := TG_in (List.mem_append_left _ (List.mem_of_getElem? (i := 54) (by decide +kernel))) (by decide +kernel)
theorem tp_55 : Cond.selects yX7_settledBy.cls yX7_settledBy yX7_settledBy ∈ TG := TG_in (List.mem_append_left _ (List.mem_of_getElem? (i := 55) (by decide +kernel))) (by decide +kernel)
theorem tp_56 : Cond.selects yX7_ofFeast.cls yX7_ofFeast yX7_ofFeast ∈ TG := TG_in (List.mem_append_left _ (List.mem_of_getElem? (i := 56) (by decide +kernel))) (by decide +kernel)
theorem tp_57 : Cond.selects yX7_dayOf.cls yX7_dayOf yX7_dayOf ∈ TG := TG_in (List.mem_append_left _ (List.mem_of_getElem? (i := 57) (by decide +kernel))) (by decide +kernel)
theorem tp_58 : Cond.selects yX7_settledOf.cls yX7_settledOf yX7_settledOf ∈ TG := TG_in (List.mem_append_left _ (List.mem_of_getElem? (i := 58) (by decide +kernel))) (by decide +kernel)
theorem tp_59 : Cond.selects yX7_quarrelsOf.cls yX7_quarrelsOf yX7_quarrelsOf ∈ TG := TG_in (List.mem_append_left _ (List.mem_of_getElem? (i := 59) (by decide +kernel))) (by decide +kernel)
theorem tp_6 : Cond.selects yX2_hasWeekday.cls yX2_hasWeekday yX2_hasWeekday ∈ TG := TG_in (List.mem_append_left _ (List.mem_of_getElem? (i := 6) (by decide +kernel))) (by decide +kernel)
theorem tp_60 : Cond.selects yX7_quarrelsNow.cls yX7_quarrelsNow yX7_quarrelsNow ∈ TG := TG_in (List.mem_append_left _ (List.mem_of_getElem? (i := 60) (by decide +kernel))) (by decide +kernel)
theorem tp_61 : Cond.selects yX7_aboutStick.cls yX7_aboutStick yX7_aboutStick ∈ TG := TG_in (List.mem_append_left _ (List.mem_of_getElem? (i := 61) (by decide +kernel))) (by decide +kernel)
theorem tp_62 : Cond.selects yX7_staleOf.cls yX7_staleOf yX7_staleOf ∈ TG := TG_in (List.mem_append_left _ (List.mem_of_getElem? (i := 62) (by decide +kernel))) (by decide +kernel)
theorem tp_63 : Cond.selects yX7_counted.cls yX7_counted yX7_counted ∈ TG := TG_in (List.mem_append_left _ (List.mem_of_getElem? (i := 63) (by decide +kernel))) (by decide +kernel)
theorem tp_64 : Cond.selects yX7_allStale.cls yX7_allStale yX7_allStale ∈ TG := TG_in (List.mem_append_left _ (List.mem_of_getElem? (i := 64) (by decide +kernel))) (by decide +kernel)
theorem tp_65 : Cond.selects yX7_outermost.cls yX7_outermost yX7_outermost ∈ TG := TG_in (List.mem_append_left _ (List.mem_of_getElem? (i := 65) (by decide +kernel))) (by decide +kernel)
theorem tp_66 : Cond.selects yX7_nextAlike.cls yX7_nextAlike yX7_nextAlike ∈ TG := TG_in (List.mem_append_left _ (List.mem_of_getElem? (i := 66) (by decide +kernel))) (by decide +kernel)
theorem tp_67 : Cond.selects yX7_bestSlip.cls yX7_bestSlip yX7_bestSlip ∈ TG := TG_in (List.mem_append_left _ (List.mem_of_getElem? (i := 67) (by decide +kernel))) (by decide +kernel)
theorem tp_68 : Cond.selects yX7_movedBy.cls yX7_movedBy yX7_movedBy ∈ TG := TG_in (List.mem_append_left _ (List.mem_of_getElem? (i := 68) (by decide +kernel))) (by decide +kernel)
theorem tp_69 : Cond.selects yX7_fresh.cls yX7_fresh yX7_fresh ∈ TG := TG_in (List.mem_append_left _ (List.mem_of_getElem? (i := 69) (by decide +kernel))) (by decide +kernel)
theorem tp_7 : Cond.selects yX2_readsComma.cls yX2_readsComma yX2_readsComma ∈ TG := TG_in (List.mem_append_left _ (List.mem_of_getElem? (i := 7) (by decide +kernel))) (by decide +kernel)
theorem tp_70 : Cond.selects yX7_digestOne.cls yX7_digestOne yX7_digestOne ∈ TG := TG_in (List.mem_append_left _ (List.mem_of_getElem? (i := 70) (by decide +kernel))) (by decide +kernel)
theorem tp_71 : Cond.selects yX7_digestFeast.cls yX7_digestFeast yX7_digestFeast ∈ TG := TG_in (List.mem_append_left _ (List.mem_of_getElem? (i := 71) (by decide +kernel))) (by decide +kernel)
theorem tp_8 : Cond.selects yX2_readsBehindRule.cls yX2_readsBehindRule yX2_readsBehindRule ∈ TG := TG_in (List.mem_append_left _ (List.mem_of_getElem? (i := 8) (by decide +kernel))) (by decide +kernel)
theorem tp_9 : Cond.selects yX2_readsSeparator.cls yX2_readsSeparator yX2_readsSeparator ∈ TG := TG_in (List.mem_append_left _ (List.mem_of_getElem? (i := 9) (by decide +kernel))) (by decide +kernel)
theorem tw_1000 : Cond.methodLink RX7 148 yX7_dayOf ∈ TG := TG_in (List.mem_append_right _ (List.mem_of_getElem? (i := 1000) (by decide +kernel))) (by decide +kernel)
theorem tw_1002 : Cond.instanceMethod yX7_dayOf ∈ TG := TG_in (List.mem_append_right _ (List.mem_of_getElem? (i := 1002) (by decide +kernel))) (by decide +kernel)
theorem tw_1003 : Cond.code yX7_dayOf cX7_dayOf 5 (some .int) ∈ TG := TG_in (List.mem_append_right _ (List.mem_of_getElem? (i := 1003) (by decide +kernel))) (by decide +kernel)
theorem tw_1008 : Cond.methodLink RX7 152 yX7_settledOf ∈ TG := TG_in (List.mem_append_right _ (List.mem_of_getElem? (i := 1008) (by decide +kernel))) (by decide +kernel)
theorem tw_1010 : Cond.instanceMethod yX7_settledOf ∈ TG := TG_in (List.mem_append_right _ (List.mem_of_getElem? (i := 1010) (by decide +kernel))) (by decide +kernel)
theorem tw_1011 : Cond.code yX7_settledOf cX7_settledOf 3 (some .int) ∈ TG := TG_in (List.mem_append_right _ (List.mem_of_getElem? (i := 1011) (by decide +kernel))) (by decide +kernel)
theorem tw_1016 : Cond.methodLink RX7 159 yX7_quarrelsOf ∈ TG := TG_in (List.mem_append_right _ (List.mem_of_getElem? (i := 1016) (by decide +kernel))) (by decide +kernel)
theorem tw_1018 : Cond.instanceMethod yX7_quarrelsOf ∈ TG := TG_in (List.mem_append_right _ (List.mem_of_getElem? (i := 1018) (by decide +kernel))) (by decide +kernel)
theorem tw_1019 : Cond.code yX7_quarrelsOf cX7_quarrelsOf 2 (some .int) ∈ TG := TG_in (List.mem_append_right _ (List.mem_of_getElem? (i := 1019) (by decide +kernel))) (by decide +kernel)
theorem tw_1020 : Cond.methodLink RX7 155 yX7_quarrelsNow ∈ TG := TG_in (List.mem_append_right _ (List.mem_of_getElem? (i := 1020) (by decide +kernel))) (by decide +kernel)
theorem tw_1022 : Cond.instanceMethod yX7_quarrelsNow ∈ TG := TG_in (List.mem_append_right _ (List.mem_of_getElem? (i := 1022) (by decide +kernel))) (by decide +kernel)
theorem tw_1023 : Cond.code yX7_quarrelsNow cX7_quarrelsNow 3 (some .int) ∈ TG := TG_in (List.mem_append_right _ (List.mem_of_getElem? (i := 1023) (by decide +kernel))) (by decide +kernel)
theorem tw_1028 : Cond.methodLink RX7 165 yX7_aboutStick ∈ TG := TG_in (List.mem_append_right _ (List.mem_of_getElem? (i := 1028) (by decide +kernel))) (by decide +kernel)
theorem tw_1030 : Cond.instanceMethod yX7_aboutStick ∈ TG := TG_in (List.mem_append_right _ (List.mem_of_getElem? (i := 1030) (by decide +kernel))) (by decide +kernel)
theorem tw_1031 : Cond.code yX7_aboutStick cX7_aboutStick 5 (some .int) ∈ TG := TG_in (List.mem_append_right _ (List.mem_of_getElem? (i := 1031) (by decide +kernel))) (by decide +kernel)
theorem tw_1032 : Cond.methodLink RX7 162 yX7_staleOf ∈ TG := TG_in (List.mem_append_right _ (List.mem_of_getElem? (i := 1032) (by decide +kernel))) (by decide +kernel)
theorem tw_1034 : Cond.instanceMethod yX7_staleOf ∈ TG := TG_in (List.mem_append_right _ (List.mem_of_getElem? (i := 1034) (by decide +kernel))) (by decide +kernel)
theorem tw_1035 : Cond.code yX7_staleOf cX7_staleOf 4 (some .int) ∈ TG := TG_in (List.mem_append_right _ (List.mem_of_getElem? (i := 1035) (by decide +kernel))) (by decide +kernel)
theorem tw_104 : Cond.fieldLink RX1 11 RX1 "ring" "[LRunicSticks$State;" ∈ TG := TG_in (List.mem_append_right _ (List.mem_of_getElem? (i := 104) (by decide +kernel))) (by decide +kernel)
theorem tw_1040 : Cond.methodLink RX7 171 yX7_counted ∈ TG := TG_in (List.mem_append_right _ (List.mem_of_getElem? (i := 1040) (by decide +kernel))) (by decide +kernel)
theorem tw_1042 : Cond.instanceMethod yX7_counted ∈ TG := TG_in (List.mem_append_right _ (List.mem_of_getElem? (i := 1042) (by decide +kernel))) (by decide +kernel)
theorem tw_1043 : Cond.code yX7_counted cX7_counted 2 (some .int) ∈ TG := TG_in (List.mem_append_right _ (List.mem_of_getElem? (i := 1043) (by decide +kernel))) (by decide +kernel)
theorem tw_1044 : Cond.methodLink RX7 168 yX7_allStale ∈ TG := TG_in (List.mem_append_right _ (List.mem_of_getElem? (i := 1044) (by decide +kernel))) (by decide +kernel)
theorem tw_1046 : Cond.instanceMethod yX7_allStale ∈ TG := TG_in (List.mem_append_right _ (List.mem_of_getElem? (i := 1046) (by decide +kernel))) (by decide +kernel)
theorem tw_1047 : Cond.code yX7_allStale cX7_allStale 3 (some .int) ∈ TG := TG_in (List.mem_append_right _ (List.mem_of_getElem? (i := 1047) (by decide +kernel))) (by decide +kernel)
theorem tw_105 : Cond.fieldLink RX1 17 RX1 "oldest" "I" ∈ TG := TG_in (List.mem_append_right _ (List.mem_of_getElem? (i := 105) (by decide +kernel))) (by decide +kernel)
theorem tw_1052 : Cond.methodLink RX7 174 yX7_outermost ∈ TG := TG_in (List.mem_append_right _ (List.mem_of_getElem? (i := 1052) (by decide +kernel))) (by decide +kernel)
theorem tw_1054 : Cond.instanceMethod yX7_outermost ∈ TG := TG_in (List.mem_append_right _ (List.mem_of_getElem? (i := 1054) (by decide +kernel))) (by decide +kernel)
theorem tw_1055 : Cond.code yX7_outermost cX7_outermost 9 (some .int) ∈ TG := TG_in (List.mem_append_right _ (List.mem_of_getElem? (i := 1055) (by decide +kernel))) (by decide +kernel)
theorem tw_106 : Cond.fieldLink RX1 21 RX1 "saved" "I" ∈ TG := TG_in (List.mem_append_right _ (List.mem_of_getElem? (i := 106) (by decide +kernel))) (by decide +kernel)
theorem tw_1060 : Cond.methodLink RX7 177 yX7_nextAlike ∈ TG := TG_in (List.mem_append_right _ (List.mem_of_getElem? (i := 1060) (by decide +kernel))) (by decide +kernel)
theorem tw_1062 : Cond.instanceMethod yX7_nextAlike ∈ TG := TG_in (List.mem_append_right _ (List.mem_of_getElem? (i := 1062) (by decide +kernel))) (by decide +kernel)
theorem tw_1063 : Cond.code yX7_nextAlike cX7_nextAlike 5 (some .int) ∈ TG := TG_in (List.mem_append_right _ (List.mem_of_getElem? (i := 1063) (by decide +kernel))) (by decide +kernel)
theorem tw_1068 : Cond.methodLink RX7 183 yX7_bestSlip ∈ TG := TG_in (List.mem_append_right _ (List.mem_of_getElem? (i := 1068) (by decide +kernel))) (by decide +kernel)
theorem tw_1070 : Cond.instanceMethod yX7_bestSlip ∈ TG := TG_in (List.mem_append_right _ (List.mem_of_getElem? (i := 1070) (by decide +kernel))) (by decide +kernel)
theorem tw_1071 : Cond.code yX7_bestSlip cX7_bestSlip 9 (some .int) ∈ TG := TG_in (List.mem_append_right _ (List.mem_of_getElem? (i := 1071) (by decide +kernel))) (by decide +kernel)
theorem tw_1072 : Cond.methodLink RX7 180 yX7_size ∈ TG := TG_in (List.mem_append_right _ (List.mem_of_getElem? (i := 1072) (by decide +kernel))) (by decide +kernel)
theorem tw_1073 : Cond.static yX7_size ∈ TG := TG_in (List.mem_append_right _ (List.mem_of_getElem? (i := 1073) (by decide +kernel))) (by decide +kernel)
theorem tw_1074 : Cond.code yX7_size cX7_size 1 (some .int) ∈ TG := TG_in (List.mem_append_right _ (List.mem_of_getElem? (i := 1074) (by decide +kernel))) (by decide +kernel)
theorem tw_1079 : Cond.methodLink RX7 186 yX7_movedBy ∈ TG := TG_in (List.mem_append_right _ (List.mem_of_getElem? (i := 1079) (by decide +kernel))) (by decide +kernel)
theorem tw_1081 : Cond.instanceMethod yX7_movedBy ∈ TG := TG_in (List.mem_append_right _ (List.mem_of_getElem? (i := 1081) (by decide +kernel))) (by decide +kernel)
theorem tw_1082 : Cond.code yX7_movedBy cX7_movedBy 5 (some .int) ∈ TG := TG_in (List.mem_append_right _ (List.mem_of_getElem? (i := 1082) (by decide +kernel))) (by decide +kernel)
theorem tw_1087 : Cond.methodLink RX7 189 yX7_fresh ∈ TG := TG_in (List.mem_append_right _ (List.mem_of_getElem? (i := 1087) (by decide +kernel))) (by decide +kernel)
theorem tw_1089 : Cond.instanceMethod yX7_fresh ∈ TG := TG_in (List.mem_append_right _ (List.mem_of_getElem? (i := 1089) (by decide +kernel))) (by decide +kernel)
theorem tw_1090 : Cond.code yX7_fresh cX7_fresh 3 (some .double) ∈ TG := TG_in (List.mem_append_right _ (List.mem_of_getElem? (i := 1090) (by decide +kernel))) (by decide +kernel)
theorem tw_1095 : Cond.constantLong RX7 214 2953 ∈ TG := TG_in (List.mem_append_right _ (List.mem_of_getElem? (i := 1095) (by decide +kernel))) (by decide +kernel)
theorem tw_1096 : Cond.methodLink RX7 207 yX7_digestOne ∈ TG := TG_in (List.mem_append_right _ (List.mem_of_getElem? (i := 1096) (by decide +kernel))) (by decide +kernel)
theorem tw_1098 : Cond.instanceMethod yX7_digestOne ∈ TG := TG_in (List.mem_append_right _ (List.mem_of_getElem? (i := 1098) (by decide +kernel))) (by decide +kernel)
theorem tw_1099 : Cond.code yX7_digestOne cX7_digestOne 3 none ∈ TG := TG_in (List.mem_append_right _ (List.mem_of_getElem? (i := 1099) (by decide +kernel))) (by decide +kernel)
theorem tw_1100 : Cond.constantLong RX7 201 31 ∈ TG := TG_in (List.mem_append_right _ (List.mem_of_getElem? (i := 1100) (by decide +kernel))) (by decide +kernel)
theorem tw_1101 : Cond.methodLink RX7 216 yX7_digestFeast ∈ TG := TG_in (List.mem_append_right _ (List.mem_of_getElem? (i := 1101) (by decide +kernel))) (by decide +kernel)
theorem tw_1103 : Cond.instanceMethod yX7_digestFeast ∈ TG := TG_in (List.mem_append_right _ (List.mem_of_getElem? (i := 1103) (by decide +kernel))) (by decide +kernel)
theorem tw_1104 : Cond.code yX7_digestFeast cX7_digestFeast 4 none ∈ TG := TG_in (List.mem_append_right _ (List.mem_of_getElem? (i := 1104) (by decide +kernel))) (by decide +kernel)
theorem tw_1105 : Cond.methodLink RX7 211 yX7_someYear ∈ TG := TG_in (List.mem_append_right _ (List.mem_of_getElem? (i := 1105) (by decide +kernel))) (by decide +kernel)
theorem tw_1106 : Cond.static yX7_someYear ∈ TG := TG_in (List.mem_append_right _ (List.mem_of_getElem? (i := 1106) (by decide +kernel))) (by decide +kernel)
theorem tw_1107 : Cond.code yX7_someYear cX7_someYear 1 (some .int) ∈ TG := TG_in (List.mem_append_right _ (List.mem_of_getElem? (i := 1107) (by decide +kernel))) (by decide +kernel)
theorem tw_1108 : Cond.methodLink RX7 219 yX7_bitsOf ∈ TG := TG_in (List.mem_append_right _ (List.mem_of_getElem? (i := 1108) (by decide +kernel))) (by decide +kernel)
theorem tw_1109 : Cond.static yX7_bitsOf ∈ TG := TG_in (List.mem_append_right _ (List.mem_of_getElem? (i := 1109) (by decide +kernel))) (by decide +kernel)
theorem tw_1110 : Cond.code yX7_bitsOf cX7_bitsOf 6 (some .long) ∈ TG := TG_in (List.mem_append_right _ (List.mem_of_getElem? (i := 1110) (by decide +kernel))) (by decide +kernel)
theorem tw_1111 : Cond.constantLong RX7 193 1023 ∈ TG := TG_in (List.mem_append_right _ (List.mem_of_getElem? (i := 1111) (by decide +kernel))) (by decide +kernel)
theorem tw_1112 : Cond.constantDouble RX7 195 4611686018427387904 ∈ TG := TG_in (List.mem_append_right _ (List.mem_of_getElem? (i := 1112) (by decide +kernel))) (by decide +kernel)
theorem tw_1113 : Cond.constantLong RX7 197 4503599627370496 ∈ TG := TG_in (List.mem_append_right _ (List.mem_of_getElem? (i := 1113) (by decide +kernel))) (by decide +kernel)
theorem tw_1114 : Cond.constantDouble RX7 199 4841369599423283200 ∈ TG := TG_in (List.mem_append_right _ (List.mem_of_getElem? (i := 1114) (by decide +kernel))) (by decide +kernel)
theorem tw_122 : Cond.fieldLink RX2 15 RX2 "rule" "I" ∈ TG := TG_in (List.mem_append_right _ (List.mem_of_getElem? (i := 122) (by decide +kernel))) (by decide +kernel)
theorem tw_123 : Cond.fieldLink RX5 58 RX2 "rule" "I" ∈ TG := TG_in (List.mem_append_right _ (List.mem_of_getElem? (i := 123) (by decide +kernel))) (by decide +kernel)
theorem tw_124 : Cond.fieldLink RX6 268 RX2 "rule" "I" ∈ TG := TG_in (List.mem_append_right _ (List.mem_of_getElem? (i := 124) (by decide +kernel))) (by decide +kernel)
theorem tw_125 : Cond.fieldLink RX2 18 RX2 "number" "I" ∈ TG := TG_in (List.mem_append_right _ (List.mem_of_getElem? (i := 125) (by decide +kernel))) (by decide +kernel)
theorem tw_126 : Cond.fieldLink RX5 74 RX2 "number" "I" ∈ TG := TG_in (List.mem_append_right _ (List.mem_of_getElem? (i := 126) (by decide +kernel))) (by decide +kernel)
theorem tw_127 : Cond.fieldLink RX2 21 RX2 "isMinus" "Z" ∈ TG := TG_in (List.mem_append_right _ (List.mem_of_getElem? (i := 127) (by decide +kernel))) (by decide +kernel)
theorem tw_128 : Cond.fieldLink RX5 70 RX2 "isMinus" "Z" ∈ TG := TG_in (List.mem_append_right _ (List.mem_of_getElem? (i := 128) (by decide +kernel))) (by decide +kernel)
theorem tw_129 : Cond.fieldLink RX2 25 RX2 "other" "I" ∈ TG := TG_in (List.mem_append_right _ (List.mem_of_getElem? (i := 129) (by decide +kernel))) (by decide +kernel)
theorem tw_130 : Cond.fieldLink RX5 77 RX2 "other" "I" ∈ TG := TG_in (List.mem_append_right _ (List.mem_of_getElem? (i := 130) (by decide +kernel))) (by decide +kernel)
theorem tw_131 : Cond.fieldLink RX6 271 RX2 "other" "I" ∈ TG := TG_in (List.mem_append_right _ (List.mem_of_getElem? (i := 131) (by decide +kernel))) (by decide +kernel)
theorem tw_132 : Cond.fieldLink RX2 28 RX2 "rankRead" "I" ∈ TG := TG_in (List.mem_append_right _ (List.mem_of_getElem? (i := 132) (by decide +kernel))) (by decide +kernel)
theorem tw_133 : Cond.fieldLink RX5 67 RX2 "rankRead" "I" ∈ TG := TG_in (List.mem_append_right _ (List.mem_of_getElem? (i := 133) (by decide +kernel))) (by decide +kernel)
theorem tw_134 : Cond.fieldLink RX2 11 RX2 "place" "I" ∈ TG := TG_in (List.mem_append_right _ (List.mem_of_getElem? (i := 134) (by decide +kernel))) (by decide +kernel)
theorem tw_156 : Cond.fieldLink RX3 14 RX3 "propers" "LRunicSticks$Row;" ∈ TG := TG_in (List.mem_append_right _ (List.mem_of_getElem? (i := 156) (by decide +kernel))) (by decide +kernel)
theorem tw_157 : Cond.fieldLink RX6 184 RX3 "propers" "LRunicSticks$Row;" ∈ TG := TG_in (List.mem_append_right _ (List.mem_of_getElem? (i := 157) (by decide +kernel))) (by decide +kernel)
theorem tw_158 : Cond.fieldLink RX3 20 RX3 "notches" "LRunicSticks$Row;" ∈ TG := TG_in (List.mem_append_right _ (List.mem_of_getElem? (i := 158) (by decide +kernel))) (by decide +kernel)
theorem tw_159 : Cond.fieldLink RX0 44 RX3 "notches" "LRunicSticks$Row;" ∈ TG := TG_in (List.mem_append_right _ (List.mem_of_getElem? (i := 159) (by decide +kernel))) (by decide +kernel)
theorem tw_160 : Cond.fieldLink RX6 126 RX3 "notches" "LRunicSticks$Row;" ∈ TG := TG_in (List.mem_append_right _ (List.mem_of_getElem? (i := 160) (by decide +kernel))) (by decide +kernel)
theorem tw_161 : Cond.fieldLink RX3 27 RX3 "days" "I" ∈ TG := TG_in (List.mem_append_right _ (List.mem_of_getElem? (i := 161) (by decide +kernel))) (by decide +kernel)
theorem tw_162 : Cond.fieldLink RX3 34 RX3 "firstWeekday" "I" ∈ TG := TG_in (List.mem_append_right _ (List.mem_of_getElem? (i := 162) (by decide +kernel))) (by decide +kernel)
theorem tw_163 : Cond.fieldLink RX3 46 RX3 "shift" "I" ∈ TG := TG_in (List.mem_append_right _ (List.mem_of_getElem? (i := 163) (by decide +kernel))) (by decide +kernel)
theorem tw_183 : Cond.fieldLink RX0 12 RX0 "first" "LRunicSticks$Reckoning;" ∈ TG := TG_in (List.mem_append_right _ (List.mem_of_getElem? (i := 183) (by decide +kernel))) (by decide +kernel)
theorem tw_184 : Cond.fieldLink RX0 18 RX0 "second" "LRunicSticks$Reckoning;" ∈ TG := TG_in (List.mem_append_right _ (List.mem_of_getElem? (i := 184) (by decide +kernel))) (by decide +kernel)
theorem tw_185 : Cond.fieldLink RX0 21 RX0 "third" "LRunicSticks$Reckoning;" ∈ TG := TG_in (List.mem_append_right _ (List.mem_of_getElem? (i := 185) (by decide +kernel))) (by decide +kernel)
theorem tw_193 : Cond.fieldLink RX6 56 RX6 "DIGEST_YEARS" "[I" ∈ TG := TG_in (List.mem_append_right _ (List.mem_of_getElem? (i := 193) (by decide +kernel))) (by decide +kernel)
theorem tw_196 : Cond.fieldLink RX6 12 RX6 "now" "LRunicSticks$State;" ∈ TG := TG_in (List.mem_append_right _ (List.mem_of_getElem? (i := 196) (by decide +kernel))) (by decide +kernel)
theorem tw_197 : Cond.fieldLink RX6 19 RX6 "history" "LRunicSticks$History;" ∈ TG := TG_in (List.mem_append_right _ (List.mem_of_getElem? (i := 197) (by decide +kernel))) (by decide +kernel)
theorem tw_198 : Cond.fieldLink RX6 28 RX6 "buffer" "LRunicSticks$Row;" ∈ TG := TG_in (List.mem_append_right _ (List.mem_of_getElem? (i := 198) (by decide +kernel))) (by decide +kernel)
theorem tw_199 : Cond.fieldLink RX6 35 RX6 "reader" "LRunicSticks$Reader;" ∈ TG := TG_in (List.mem_append_right _ (List.mem_of_getElem? (i := 199) (by decide +kernel))) (by decide +kernel)
theorem tw_200 : Cond.fieldLink RX6 42 RX6 "reckoning" "LRunicSticks$Reckoning;" ∈ TG := TG_in (List.mem_append_right _ (List.mem_of_getElem? (i := 200) (by decide +kernel))) (by decide +kernel)
theorem tw_201 : Cond.fieldLink RX6 49 RX6 "council" "LRunicSticks$Council;" ∈ TG := TG_in (List.mem_append_right _ (List.mem_of_getElem? (i := 201) (by decide +kernel))) (by decide +kernel)
theorem tw_202 : Cond.fieldLink RX6 53 RX6 "rival" "LRunicSticks$Council;" ∈ TG := TG_in (List.mem_append_right _ (List.mem_of_getElem? (i := 202) (by decide +kernel))) (by decide +kernel)
theorem tw_203 : Cond.fieldLink RX6 60 RX6 "digestCouncils" "[LRunicSticks$Council;" ∈ TG := TG_in (List.mem_append_right _ (List.mem_of_getElem? (i := 203) (by decide +kernel))) (by decide +kernel)
theorem tw_204 : Cond.fieldLink RX6 64 RX6 "bufferLength" "I" ∈ TG := TG_in (List.mem_append_right _ (List.mem_of_getElem? (i := 204) (by decide +kernel))) (by decide +kernel)
theorem tw_232 : Cond.methodLink RX6 150 yX6_signsReadWell ∈ TG := TG_in (List.mem_append_right _ (List.mem_of_getElem? (i := 232) (by decide +kernel))) (by decide +kernel)
theorem tw_234 : Cond.instanceMethod yX6_signsReadWell ∈ TG := TG_in (List.mem_append_right _ (List.mem_of_getElem? (i := 234) (by decide +kernel))) (by decide +kernel)
theorem tw_235 : Cond.code yX6_signsReadWell cX6_signsReadWell 2 (some .int) ∈ TG := TG_in (List.mem_append_right _ (List.mem_of_getElem? (i := 235) (by decide +kernel))) (by decide +kernel)
theorem tw_236 : Cond.methodLink RX6 256 yX2_start ∈ TG := TG_in (List.mem_append_right _ (List.mem_of_getElem? (i := 236) (by decide +kernel))) (by decide +kernel)
theorem tw_237 : Cond.instanceMethod yX2_start ∈ TG := TG_in (List.mem_append_right _ (List.mem_of_getElem? (i := 237) (by decide +kernel))) (by decide +kernel)
theorem tw_238 : Cond.selects yX2_start.cls yX2_start yX2_start ∈ TG := TG_in (List.mem_append_right _ (List.mem_of_getElem? (i := 238) (by decide +kernel))) (by decide +kernel)
theorem tw_239 : Cond.code yX2_start cX2_start 1 none ∈ TG := TG_in (List.mem_append_right _ (List.mem_of_getElem? (i := 239) (by decide +kernel))) (by decide +kernel)
theorem tw_240 : Cond.methodLink RX6 105 yX4_at ∈ TG := TG_in (List.mem_append_right _ (List.mem_of_getElem? (i := 240) (by decide +kernel))) (by decide +kernel)
theorem tw_241 : Cond.instanceMethod yX4_at ∈ TG := TG_in (List.mem_append_right _ (List.mem_of_getElem? (i := 241) (by decide +kernel))) (by decide +kernel)
theorem tw_242 : Cond.selects yX4_at.cls yX4_at yX4_at ∈ TG := TG_in (List.mem_append_right _ (List.mem_of_getElem? (i := 242) (by decide +kernel))) (by decide +kernel)
theorem tw_243 : Cond.code yX4_at cX4_at 2 (some .int) ∈ TG := TG_in (List.mem_append_right _ (List.mem_of_getElem? (i := 243) (by decide +kernel))) (by decide +kernel)
theorem tw_244 : Cond.methodLink RX6 259 yX2_reads ∈ TG := TG_in (List.mem_append_right _ (List.mem_of_getElem? (i := 244) (by decide +kernel))) (by decide +kernel)
theorem tw_245 : Cond.instanceMethod yX2_reads ∈ TG := TG_in (List.mem_append_right _ (List.mem_of_getElem? (i := 245) (by decide +kernel))) (by decide +kernel)
theorem tw_246 : Cond.selects yX2_reads.cls yX2_reads yX2_reads ∈ TG := TG_in (List.mem_append_right _ (List.mem_of_getElem? (i := 246) (by decide +kernel))) (by decide +kernel)
theorem tw_247 : Cond.code yX2_reads cX2_reads 2 (some .boolean) ∈ TG := TG_in (List.mem_append_right _ (List.mem_of_getElem? (i := 247) (by decide +kernel))) (by decide +kernel)
theorem tw_248 : Cond.methodLink RX2 35 yX2_readsRule ∈ TG := TG_in (List.mem_append_right _ (List.mem_of_getElem? (i := 248) (by decide +kernel))) (by decide +kernel)
theorem tw_250 : Cond.instanceMethod yX2_readsRule ∈ TG := TG_in (List.mem_append_right _ (List.mem_of_getElem? (i := 250) (by decide +kernel))) (by decide +kernel)
theorem tw_251 : Cond.code yX2_readsRule cX2_readsRule 2 (some .boolean) ∈ TG := TG_in (List.mem_append_right _ (List.mem_of_getElem? (i := 251) (by decide +kernel))) (by decide +kernel)
theorem tw_252 : Cond.methodLink RX2 39 yX2_readsOther ∈ TG := TG_in (List.mem_append_right _ (List.mem_of_getElem? (i := 252) (by decide +kernel))) (by decide +kernel)
theorem tw_254 : Cond.instanceMethod yX2_readsOther ∈ TG := TG_in (List.mem_append_right _ (List.mem_of_getElem? (i := 254) (by decide +kernel))) (by decide +kernel)
theorem tw_255 : Cond.code yX2_readsOther cX2_readsOther 4 (some .boolean) ∈ TG := TG_in (List.mem_append_right _ (List.mem_of_getElem? (i := 255) (by decide +kernel))) (by decide +kernel)
theorem tw_256 : Cond.methodLink RX2 43 yX2_readsSign ∈ TG := TG_in (List.mem_append_right _ (List.mem_of_getElem? (i := 256) (by decide +kernel))) (by decide +kernel)
theorem tw_258 : Cond.instanceMethod yX2_readsSign ∈ TG := TG_in (List.mem_append_right _ (List.mem_of_getElem? (i := 258) (by decide +kernel))) (by decide +kernel)
theorem tw_259 : Cond.code yX2_readsSign cX2_readsSign 2 (some .boolean) ∈ TG := TG_in (List.mem_append_right _ (List.mem_of_getElem? (i := 259) (by decide +kernel))) (by decide +kernel)
theorem tw_260 : Cond.methodLink RX2 46 yX2_readsFirstDigit ∈ TG := TG_in (List.mem_append_right _ (List.mem_of_getElem? (i := 260) (by decide +kernel))) (by decide +kernel)
theorem tw_262 : Cond.instanceMethod yX2_readsFirstDigit ∈ TG := TG_in (List.mem_append_right _ (List.mem_of_getElem? (i := 262) (by decide +kernel))) (by decide +kernel)
theorem tw_263 : Cond.code yX2_readsFirstDigit cX2_readsFirstDigit 2 (some .boolean) ∈ TG := TG_in (List.mem_append_right _ (List.mem_of_getElem? (i := 263) (by decide +kernel))) (by decide +kernel)
theorem tw_264 : Cond.methodLink RX2 64 yX2_isDigit ∈ TG := TG_in (List.mem_append_right _ (List.mem_of_getElem? (i := 264) (by decide +kernel))) (by decide +kernel)
theorem tw_265 : Cond.static yX2_isDigit ∈ TG := TG_in (List.mem_append_right _ (List.mem_of_getElem? (i := 265) (by decide +kernel))) (by decide +kernel)
theorem tw_266 : Cond.code yX2_isDigit cX2_isDigit 1 (some .boolean) ∈ TG := TG_in (List.mem_append_right _ (List.mem_of_getElem? (i := 266) (by decide +kernel))) (by decide +kernel)
theorem tw_267 : Cond.methodLink RX2 49 yX2_readsNextDigit ∈ TG := TG_in (List.mem_append_right _ (List.mem_of_getElem? (i := 267) (by decide +kernel))) (by decide +kernel)
theorem tw_269 : Cond.instanceMethod yX2_readsNextDigit ∈ TG := TG_in (List.mem_append_right _ (List.mem_of_getElem? (i := 269) (by decide +kernel))) (by decide +kernel)
theorem tw_270 : Cond.code yX2_readsNextDigit cX2_readsNextDigit 4 (some .boolean) ∈ TG := TG_in (List.mem_append_right _ (List.mem_of_getElem? (i := 270) (by decide +kernel))) (by decide +kernel)
theorem tw_271 : Cond.methodLink RX2 31 yX2_hasWeekday ∈ TG := TG_in (List.mem_append_right _ (List.mem_of_getElem? (i := 271) (by decide +kernel))) (by decide +kernel)
theorem tw_273 : Cond.instanceMethod yX2_hasWeekday ∈ TG := TG_in (List.mem_append_right _ (List.mem_of_getElem? (i := 273) (by decide +kernel))) (by decide +kernel)
theorem tw_274 : Cond.code yX2_hasWeekday cX2_hasWeekday 1 (some .boolean) ∈ TG := TG_in (List.mem_append_right _ (List.mem_of_getElem? (i := 274) (by decide +kernel))) (by decide +kernel)
theorem tw_275 : Cond.methodLink RX2 52 yX2_readsComma ∈ TG := TG_in (List.mem_append_right _ (List.mem_of_getElem? (i := 275) (by decide +kernel))) (by decide +kernel)
theorem tw_277 : Cond.instanceMethod yX2_readsComma ∈ TG := TG_in (List.mem_append_right _ (List.mem_of_getElem? (i := 277) (by decide +kernel))) (by decide +kernel)
theorem tw_278 : Cond.code yX2_readsComma cX2_readsComma 2 (some .boolean) ∈ TG := TG_in (List.mem_append_right _ (List.mem_of_getElem? (i := 278) (by decide +kernel))) (by decide +kernel)
theorem tw_279 : Cond.methodLink RX2 55 yX2_readsBehindRule ∈ TG := TG_in (List.mem_append_right _ (List.mem_of_getElem? (i := 279) (by decide +kernel))) (by decide +kernel)
theorem tw_281 : Cond.instanceMethod yX2_readsBehindRule ∈ TG := TG_in (List.mem_append_right _ (List.mem_of_getElem? (i := 281) (by decide +kernel))) (by decide +kernel)
theorem tw_282 : Cond.code yX2_readsBehindRule cX2_readsBehindRule 2 (some .boolean) ∈ TG := TG_in (List.mem_append_right _ (List.mem_of_getElem? (i := 282) (by decide +kernel))) (by decide +kernel)
theorem tw_283 : Cond.methodLink RX2 61 yX2_readsSeparator ∈ TG := TG_in (List.mem_append_right _ (List.mem_of_getElem? (i := 283) (by decide +kernel))) (by decide +kernel)
theorem tw_285 : Cond.instanceMethod yX2_readsSeparator ∈ TG := TG_in (List.mem_append_right _ (List.mem_of_getElem? (i := 285) (by decide +kernel))) (by decide +kernel)
theorem tw_286 : Cond.code yX2_readsSeparator cX2_readsSeparator 2 (some .boolean) ∈ TG := TG_in (List.mem_append_right _ (List.mem_of_getElem? (i := 286) (by decide +kernel))) (by decide +kernel)
theorem tw_287 : Cond.methodLink RX2 67 yX2_start ∈ TG := TG_in (List.mem_append_right _ (List.mem_of_getElem? (i := 287) (by decide +kernel))) (by decide +kernel)
theorem tw_288 : Cond.methodLink RX2 58 yX2_readsRank ∈ TG := TG_in (List.mem_append_right _ (List.mem_of_getElem? (i := 288) (by decide +kernel))) (by decide +kernel)
theorem tw_290 : Cond.instanceMethod yX2_readsRank ∈ TG := TG_in (List.mem_append_right _ (List.mem_of_getElem? (i := 290) (by decide +kernel))) (by decide +kernel)
theorem tw_291 : Cond.code yX2_readsRank cX2_readsRank 2 (some .boolean) ∈ TG := TG_in (List.mem_append_right _ (List.mem_of_getElem? (i := 291) (by decide +kernel))) (by decide +kernel)
theorem tw_296 : Cond.methodLink RX6 216 yX6_freshPart ∈ TG := TG_in (List.mem_append_right _ (List.mem_of_getElem? (i := 296) (by decide +kernel))) (by decide +kernel)
theorem tw_298 : Cond.instanceMethod yX6_freshPart ∈ TG := TG_in (List.mem_append_right _ (List.mem_of_getElem? (i := 298) (by decide +kernel))) (by decide +kernel)
theorem tw_299 : Cond.code yX6_freshPart cX6_freshPart 3 (some .double) ∈ TG := TG_in (List.mem_append_right _ (List.mem_of_getElem? (i := 299) (by decide +kernel))) (by decide +kernel)
theorem tw_300 : Cond.methodLink RX6 290 yX6_staleFeasts ∈ TG := TG_in (List.mem_append_right _ (List.mem_of_getElem? (i := 300) (by decide +kernel))) (by decide +kernel)
theorem tw_302 : Cond.instanceMethod yX6_staleFeasts ∈ TG := TG_in (List.mem_append_right _ (List.mem_of_getElem? (i := 302) (by decide +kernel))) (by decide +kernel)
theorem tw_303 : Cond.code yX6_staleFeasts cX6_staleFeasts 8 (some .int) ∈ TG := TG_in (List.mem_append_right _ (List.mem_of_getElem? (i := 303) (by decide +kernel))) (by decide +kernel)
theorem tw_304 : Cond.methodLink RX6 122 yX3_reckon ∈ TG := TG_in (List.mem_append_right _ (List.mem_of_getElem? (i := 304) (by decide +kernel))) (by decide +kernel)
theorem tw_305 : Cond.instanceMethod yX3_reckon ∈ TG := TG_in (List.mem_append_right _ (List.mem_of_getElem? (i := 305) (by decide +kernel))) (by decide +kernel)
theorem tw_306 : Cond.selects yX3_reckon.cls yX3_reckon yX3_reckon ∈ TG := TG_in (List.mem_append_right _ (List.mem_of_getElem? (i := 306) (by decide +kernel))) (by decide +kernel)
theorem tw_307 : Cond.code yX3_reckon cX3_reckon 5 none ∈ TG := TG_in (List.mem_append_right _ (List.mem_of_getElem? (i := 307) (by decide +kernel))) (by decide +kernel)
theorem tw_309 : Cond.static yX6_daysIn ∈ TG := TG_in (List.mem_append_right _ (List.mem_of_getElem? (i := 309) (by decide +kernel))) (by decide +kernel)
theorem tw_310 : Cond.code yX6_daysIn cX6_daysIn 1 (some .int) ∈ TG := TG_in (List.mem_append_right _ (List.mem_of_getElem? (i := 310) (by decide +kernel))) (by decide +kernel)
theorem tw_311 : Cond.methodLink RX6 252 yX6_isLeap ∈ TG := TG_in (List.mem_append_right _ (List.mem_of_getElem? (i := 311) (by decide +kernel))) (by decide +kernel)
theorem tw_312 : Cond.static yX6_isLeap ∈ TG := TG_in (List.mem_append_right _ (List.mem_of_getElem? (i := 312) (by decide +kernel))) (by decide +kernel)
theorem tw_313 : Cond.code yX6_isLeap cX6_isLeap 1 (some .boolean) ∈ TG := TG_in (List.mem_append_right _ (List.mem_of_getElem? (i := 313) (by decide +kernel))) (by decide +kernel)
theorem tw_315 : Cond.static yX6_newYearWeekday ∈ TG := TG_in (List.mem_append_right _ (List.mem_of_getElem? (i := 315) (by decide +kernel))) (by decide +kernel)
theorem tw_316 : Cond.code yX6_newYearWeekday cX6_newYearWeekday 2 (some .int) ∈ TG := TG_in (List.mem_append_right _ (List.mem_of_getElem? (i := 316) (by decide +kernel))) (by decide +kernel)
theorem tw_318 : Cond.static yX6_moonShift ∈ TG := TG_in (List.mem_append_right _ (List.mem_of_getElem? (i := 318) (by decide +kernel))) (by decide +kernel)
theorem tw_319 : Cond.code yX6_moonShift cX6_moonShift 4 (some .int) ∈ TG := TG_in (List.mem_append_right _ (List.mem_of_getElem? (i := 319) (by decide +kernel))) (by decide +kernel)
theorem tw_320 : Cond.methodLink RX3 52 yX3_dayByRule ∈ TG := TG_in (List.mem_append_right _ (List.mem_of_getElem? (i := 320) (by decide +kernel))) (by decide +kernel)
theorem tw_322 : Cond.instanceMethod yX3_dayByRule ∈ TG := TG_in (List.mem_append_right _ (List.mem_of_getElem? (i := 322) (by decide +kernel))) (by decide +kernel)
theorem tw_323 : Cond.code yX3_dayByRule cX3_dayByRule 5 (some .int) ∈ TG := TG_in (List.mem_append_right _ (List.mem_of_getElem? (i := 323) (by decide +kernel))) (by decide +kernel)
theorem tw_324 : Cond.methodLink RX3 70 yX4_at ∈ TG := TG_in (List.mem_append_right _ (List.mem_of_getElem? (i := 324) (by decide +kernel))) (by decide +kernel)
theorem tw_325 : Cond.methodLink RX3 81 yX3_weekdayFrom ∈ TG := TG_in (List.mem_append_right _ (List.mem_of_getElem? (i := 325) (by decide +kernel))) (by decide +kernel)
theorem tw_327 : Cond.instanceMethod yX3_weekdayFrom ∈ TG := TG_in (List.mem_append_right _ (List.mem_of_getElem? (i := 327) (by decide +kernel))) (by decide +kernel)
theorem tw_328 : Cond.code yX3_weekdayFrom cX3_weekdayFrom 4 (some .int) ∈ TG := TG_in (List.mem_append_right _ (List.mem_of_getElem? (i := 328) (by decide +kernel))) (by decide +kernel)
theorem tw_329 : Cond.methodLink RX3 85 yX3_weekdayPastMoon ∈ TG := TG_in (List.mem_append_right _ (List.mem_of_getElem? (i := 329) (by decide +kernel))) (by decide +kernel)
theorem tw_331 : Cond.instanceMethod yX3_weekdayPastMoon ∈ TG := TG_in (List.mem_append_right _ (List.mem_of_getElem? (i := 331) (by decide +kernel))) (by decide +kernel)
theorem tw_332 : Cond.code yX3_weekdayPastMoon cX3_weekdayPastMoon 4 (some .int) ∈ TG := TG_in (List.mem_append_right _ (List.mem_of_getElem? (i := 332) (by decide +kernel))) (by decide +kernel)
theorem tw_334 : Cond.static yX6_moonAge ∈ TG := TG_in (List.mem_append_right _ (List.mem_of_getElem? (i := 334) (by decide +kernel))) (by decide +kernel)
theorem tw_335 : Cond.code yX6_moonAge cX6_moonAge 2 (some .int) ∈ TG := TG_in (List.mem_append_right _ (List.mem_of_getElem? (i := 335) (by decide +kernel))) (by decide +kernel)
theorem tw_336 : Cond.methodLink RX3 56 yX3_orNone ∈ TG := TG_in (List.mem_append_right _ (List.mem_of_getElem? (i := 336) (by decide +kernel))) (by decide +kernel)
theorem tw_338 : Cond.instanceMethod yX3_orNone ∈ TG := TG_in (List.mem_append_right _ (List.mem_of_getElem? (i := 338) (by decide +kernel))) (by decide +kernel)
theorem tw_339 : Cond.code yX3_orNone cX3_orNone 2 (some .int) ∈ TG := TG_in (List.mem_append_right _ (List.mem_of_getElem? (i := 339) (by decide +kernel))) (by decide +kernel)
theorem tw_340 : Cond.methodLink RX3 59 yX4_put ∈ TG := TG_in (List.mem_append_right _ (List.mem_of_getElem? (i := 340) (by decide +kernel))) (by decide +kernel)
theorem tw_341 : Cond.instanceMethod yX4_put ∈ TG := TG_in (List.mem_append_right _ (List.mem_of_getElem? (i := 341) (by decide +kernel))) (by decide +kernel)
theorem tw_342 : Cond.selects yX4_put.cls yX4_put yX4_put ∈ TG := TG_in (List.mem_append_right _ (List.mem_of_getElem? (i := 342) (by decide +kernel))) (by decide +kernel)
theorem tw_343 : Cond.code yX4_put cX4_put 3 none ∈ TG := TG_in (List.mem_append_right _ (List.mem_of_getElem? (i := 343) (by decide +kernel))) (by decide +kernel)
theorem tw_344 : Cond.methodLink RX3 63 yX4_putNowhere ∈ TG := TG_in (List.mem_append_right _ (List.mem_of_getElem? (i := 344) (by decide +kernel))) (by decide +kernel)
theorem tw_345 : Cond.instanceMethod yX4_putNowhere ∈ TG := TG_in (List.mem_append_right _ (List.mem_of_getElem? (i := 345) (by decide +kernel))) (by decide +kernel)
theorem tw_346 : Cond.selects yX4_putNowhere.cls yX4_putNowhere yX4_putNowhere ∈ TG := TG_in (List.mem_append_right _ (List.mem_of_getElem? (i := 346) (by decide +kernel))) (by decide +kernel)
theorem tw_347 : Cond.code yX4_putNowhere cX4_putNowhere 2 none ∈ TG := TG_in (List.mem_append_right _ (List.mem_of_getElem? (i := 347) (by decide +kernel))) (by decide +kernel)
theorem tw_348 : Cond.methodLink RX3 66 yX3_cutNotches ∈ TG := TG_in (List.mem_append_right _ (List.mem_of_getElem? (i := 348) (by decide +kernel))) (by decide +kernel)
theorem tw_35 : Cond.fieldLink RX4 9 RX4 "cells" "[I" ∈ TG := TG_in (List.mem_append_right _ (List.mem_of_getElem? (i := 35) (by decide +kernel))) (by decide +kernel)
theorem tw_350 : Cond.instanceMethod yX3_cutNotches ∈ TG := TG_in (List.mem_append_right _ (List.mem_of_getElem? (i := 350) (by decide +kernel))) (by decide +kernel)
theorem tw_351 : Cond.code yX3_cutNotches cX3_cutNotches 6 none ∈ TG := TG_in (List.mem_append_right _ (List.mem_of_getElem? (i := 351) (by decide +kernel))) (by decide +kernel)
theorem tw_352 : Cond.methodLink RX3 94 yX3_hasNotch ∈ TG := TG_in (List.mem_append_right _ (List.mem_of_getElem? (i := 352) (by decide +kernel))) (by decide +kernel)
theorem tw_354 : Cond.instanceMethod yX3_hasNotch ∈ TG := TG_in (List.mem_append_right _ (List.mem_of_getElem? (i := 354) (by decide +kernel))) (by decide +kernel)
theorem tw_355 : Cond.code yX3_hasNotch cX3_hasNotch 4 (some .boolean) ∈ TG := TG_in (List.mem_append_right _ (List.mem_of_getElem? (i := 355) (by decide +kernel))) (by decide +kernel)
theorem tw_356 : Cond.methodLink RX6 293 yX5_stickNotch ∈ TG := TG_in (List.mem_append_right _ (List.mem_of_getElem? (i := 356) (by decide +kernel))) (by decide +kernel)
theorem tw_357 : Cond.instanceMethod yX5_stickNotch ∈ TG := TG_in (List.mem_append_right _ (List.mem_of_getElem? (i := 357) (by decide +kernel))) (by decide +kernel)
theorem tw_358 : Cond.selects yX5_stickNotch.cls yX5_stickNotch yX5_stickNotch ∈ TG := TG_in (List.mem_append_right _ (List.mem_of_getElem? (i := 358) (by decide +kernel))) (by decide +kernel)
theorem tw_359 : Cond.code yX5_stickNotch cX5_stickNotch 3 (some .int) ∈ TG := TG_in (List.mem_append_right _ (List.mem_of_getElem? (i := 359) (by decide +kernel))) (by decide +kernel)
theorem tw_360 : Cond.methodLink RX5 83 yX4_at ∈ TG := TG_in (List.mem_append_right _ (List.mem_of_getElem? (i := 360) (by decide +kernel))) (by decide +kernel)
theorem tw_365 : Cond.constantLong RX6 220 2953 ∈ TG := TG_in (List.mem_append_right _ (List.mem_of_getElem? (i := 365) (by decide +kernel))) (by decide +kernel)
theorem tw_366 : Cond.methodLink RX6 200 yX6_numberOf ∈ TG := TG_in (List.mem_append_right _ (List.mem_of_getElem? (i := 366) (by decide +kernel))) (by decide +kernel)
theorem tw_368 : Cond.instanceMethod yX6_numberOf ∈ TG := TG_in (List.mem_append_right _ (List.mem_of_getElem? (i := 368) (by decide +kernel))) (by decide +kernel)
theorem tw_369 : Cond.code yX6_numberOf cX6_numberOf 2 (some .int) ∈ TG := TG_in (List.mem_append_right _ (List.mem_of_getElem? (i := 369) (by decide +kernel))) (by decide +kernel)
theorem tw_370 : Cond.methodLink RX6 161 yX1_size ∈ TG := TG_in (List.mem_append_right _ (List.mem_of_getElem? (i := 370) (by decide +kernel))) (by decide +kernel)
theorem tw_371 : Cond.instanceMethod yX1_size ∈ TG := TG_in (List.mem_append_right _ (List.mem_of_getElem? (i := 371) (by decide +kernel))) (by decide +kernel)
theorem tw_372 : Cond.selects yX1_size.cls yX1_size yX1_size ∈ TG := TG_in (List.mem_append_right _ (List.mem_of_getElem? (i := 372) (by decide +kernel))) (by decide +kernel)
theorem tw_373 : Cond.code yX1_size cX1_size 1 (some .int) ∈ TG := TG_in (List.mem_append_right _ (List.mem_of_getElem? (i := 373) (by decide +kernel))) (by decide +kernel)
theorem tw_374 : Cond.methodLink RX6 222 yX6_mixed ∈ TG := TG_in (List.mem_append_right _ (List.mem_of_getElem? (i := 374) (by decide +kernel))) (by decide +kernel)
theorem tw_375 : Cond.static yX6_mixed ∈ TG := TG_in (List.mem_append_right _ (List.mem_of_getElem? (i := 375) (by decide +kernel))) (by decide +kernel)
theorem tw_376 : Cond.code yX6_mixed cX6_mixed 4 (some .long) ∈ TG := TG_in (List.mem_append_right _ (List.mem_of_getElem? (i := 376) (by decide +kernel))) (by decide +kernel)
theorem tw_377 : Cond.constantLong RX6 307 31 ∈ TG := TG_in (List.mem_append_right _ (List.mem_of_getElem? (i := 377) (by decide +kernel))) (by decide +kernel)
theorem tw_378 : Cond.methodLink RX6 226 yX6_gatherDigestCouncils ∈ TG := TG_in (List.mem_append_right _ (List.mem_of_getElem? (i := 378) (by decide +kernel))) (by decide +kernel)
theorem tw_380 : Cond.instanceMethod yX6_gatherDigestCouncils ∈ TG := TG_in (List.mem_append_right _ (List.mem_of_getElem? (i := 380) (by decide +kernel))) (by decide +kernel)
theorem tw_381 : Cond.code yX6_gatherDigestCouncils cX6_gatherDigestCouncils 3 none ∈ TG := TG_in (List.mem_append_right _ (List.mem_of_getElem? (i := 381) (by decide +kernel))) (by decide +kernel)
theorem tw_382 : Cond.methodLink RX6 187 yX0_gather ∈ TG := TG_in (List.mem_append_right _ (List.mem_of_getElem? (i := 382) (by decide +kernel))) (by decide +kernel)
theorem tw_383 : Cond.instanceMethod yX0_gather ∈ TG := TG_in (List.mem_append_right _ (List.mem_of_getElem? (i := 383) (by decide +kernel))) (by decide +kernel)
theorem tw_384 : Cond.selects yX0_gather.cls yX0_gather yX0_gather ∈ TG := TG_in (List.mem_append_right _ (List.mem_of_getElem? (i := 384) (by decide +kernel))) (by decide +kernel)
theorem tw_385 : Cond.code yX0_gather cX0_gather 4 none ∈ TG := TG_in (List.mem_append_right _ (List.mem_of_getElem? (i := 385) (by decide +kernel))) (by decide +kernel)
theorem tw_386 : Cond.methodLink RX0 24 yX0_by ∈ TG := TG_in (List.mem_append_right _ (List.mem_of_getElem? (i := 386) (by decide +kernel))) (by decide +kernel)
theorem tw_387 : Cond.instanceMethod yX0_by ∈ TG := TG_in (List.mem_append_right _ (List.mem_of_getElem? (i := 387) (by decide +kernel))) (by decide +kernel)
theorem tw_388 : Cond.selects yX0_by.cls yX0_by yX0_by ∈ TG := TG_in (List.mem_append_right _ (List.mem_of_getElem? (i := 388) (by decide +kernel))) (by decide +kernel)
theorem tw_389 : Cond.code yX0_by cX0_by 2 (some (.object "RunicSticks$Reckoning")) ∈ TG := TG_in (List.mem_append_right _ (List.mem_of_getElem? (i := 389) (by decide +kernel))) (by decide +kernel)
theorem tw_390 : Cond.methodLink RX0 34 yX4_at ∈ TG := TG_in (List.mem_append_right _ (List.mem_of_getElem? (i := 390) (by decide +kernel))) (by decide +kernel)
theorem tw_391 : Cond.methodLink RX0 40 yX3_reckon ∈ TG := TG_in (List.mem_append_right _ (List.mem_of_getElem? (i := 391) (by decide +kernel))) (by decide +kernel)
theorem tw_392 : Cond.methodLink RX6 229 yX6_mixedFeasts ∈ TG := TG_in (List.mem_append_right _ (List.mem_of_getElem? (i := 392) (by decide +kernel))) (by decide +kernel)
theorem tw_394 : Cond.instanceMethod yX6_mixedFeasts ∈ TG := TG_in (List.mem_append_right _ (List.mem_of_getElem? (i := 394) (by decide +kernel))) (by decide +kernel)
theorem tw_395 : Cond.code yX6_mixedFeasts cX6_mixedFeasts 8 (some .long) ∈ TG := TG_in (List.mem_append_right _ (List.mem_of_getElem? (i := 395) (by decide +kernel))) (by decide +kernel)
theorem tw_396 : Cond.methodLink RX6 181 yX6_feastProperty ∈ TG := TG_in (List.mem_append_right _ (List.mem_of_getElem? (i := 396) (by decide +kernel))) (by decide +kernel)
theorem tw_398 : Cond.instanceMethod yX6_feastProperty ∈ TG := TG_in (List.mem_append_right _ (List.mem_of_getElem? (i := 398) (by decide +kernel))) (by decide +kernel)
theorem tw_399 : Cond.code yX6_feastProperty cX6_feastProperty 3 (some .int) ∈ TG := TG_in (List.mem_append_right _ (List.mem_of_getElem? (i := 399) (by decide +kernel))) (by decide +kernel)
theorem tw_40 : Cond.fieldLink RX5 9 RX5 "feasts" "I" ∈ TG := TG_in (List.mem_append_right _ (List.mem_of_getElem? (i := 40) (by decide +kernel))) (by decide +kernel)
theorem tw_400 : Cond.methodLink RX6 309 yX6_mixedDays ∈ TG := TG_in (List.mem_append_right _ (List.mem_of_getElem? (i := 400) (by decide +kernel))) (by decide +kernel)
theorem tw_401 : Cond.static yX6_mixedDays ∈ TG := TG_in (List.mem_append_right _ (List.mem_of_getElem? (i := 401) (by decide +kernel))) (by decide +kernel)
theorem tw_402 : Cond.code yX6_mixedDays cX6_mixedDays 7 (some .long) ∈ TG := TG_in (List.mem_append_right _ (List.mem_of_getElem? (i := 402) (by decide +kernel))) (by decide +kernel)
theorem tw_403 : Cond.methodLink RX6 303 yX0_by ∈ TG := TG_in (List.mem_append_right _ (List.mem_of_getElem? (i := 403) (by decide +kernel))) (by decide +kernel)
theorem tw_404 : Cond.methodLink RX6 191 yX0_settledNotch ∈ TG := TG_in (List.mem_append_right _ (List.mem_of_getElem? (i := 404) (by decide +kernel))) (by decide +kernel)
theorem tw_405 : Cond.instanceMethod yX0_settledNotch ∈ TG := TG_in (List.mem_append_right _ (List.mem_of_getElem? (i := 405) (by decide +kernel))) (by decide +kernel)
theorem tw_406 : Cond.selects yX0_settledNotch.cls yX0_settledNotch yX0_settledNotch ∈ TG := TG_in (List.mem_append_right _ (List.mem_of_getElem? (i := 406) (by decide +kernel))) (by decide +kernel)
theorem tw_407 : Cond.code yX0_settledNotch cX0_settledNotch 3 (some .int) ∈ TG := TG_in (List.mem_append_right _ (List.mem_of_getElem? (i := 407) (by decide +kernel))) (by decide +kernel)
theorem tw_408 : Cond.methodLink RX6 233 yX6_mixedQuarrels ∈ TG := TG_in (List.mem_append_right _ (List.mem_of_getElem? (i := 408) (by decide +kernel))) (by decide +kernel)
theorem tw_41 : Cond.fieldLink RX3 49 RX5 "feasts" "I" ∈ TG := TG_in (List.mem_append_right _ (List.mem_of_getElem? (i := 41) (by decide +kernel))) (by decide +kernel)
theorem tw_410 : Cond.instanceMethod yX6_mixedQuarrels ∈ TG := TG_in (List.mem_append_right _ (List.mem_of_getElem? (i := 410) (by decide +kernel))) (by decide +kernel)
theorem tw_411 : Cond.code yX6_mixedQuarrels cX6_mixedQuarrels 8 (some .long) ∈ TG := TG_in (List.mem_append_right _ (List.mem_of_getElem? (i := 411) (by decide +kernel))) (by decide +kernel)
theorem tw_412 : Cond.methodLink RX6 194 yX0_quarrelCount ∈ TG := TG_in (List.mem_append_right _ (List.mem_of_getElem? (i := 412) (by decide +kernel))) (by decide +kernel)
theorem tw_413 : Cond.instanceMethod yX0_quarrelCount ∈ TG := TG_in (List.mem_append_right _ (List.mem_of_getElem? (i := 413) (by decide +kernel))) (by decide +kernel)
theorem tw_414 : Cond.selects yX0_quarrelCount.cls yX0_quarrelCount yX0_quarrelCount ∈ TG := TG_in (List.mem_append_right _ (List.mem_of_getElem? (i := 414) (by decide +kernel))) (by decide +kernel)
theorem tw_415 : Cond.code yX0_quarrelCount cX0_quarrelCount 5 (some .int) ∈ TG := TG_in (List.mem_append_right _ (List.mem_of_getElem? (i := 415) (by decide +kernel))) (by decide +kernel)
theorem tw_416 : Cond.methodLink RX6 213 yX3_movedCount ∈ TG := TG_in (List.mem_append_right _ (List.mem_of_getElem? (i := 416) (by decide +kernel))) (by decide +kernel)
theorem tw_417 : Cond.instanceMethod yX3_movedCount ∈ TG := TG_in (List.mem_append_right _ (List.mem_of_getElem? (i := 417) (by decide +kernel))) (by decide +kernel)
theorem tw_418 : Cond.selects yX3_movedCount.cls yX3_movedCount yX3_movedCount ∈ TG := TG_in (List.mem_append_right _ (List.mem_of_getElem? (i := 418) (by decide +kernel))) (by decide +kernel)
theorem tw_419 : Cond.code yX3_movedCount cX3_movedCount 5 (some .int) ∈ TG := TG_in (List.mem_append_right _ (List.mem_of_getElem? (i := 419) (by decide +kernel))) (by decide +kernel)
theorem tw_42 : Cond.fieldLink RX6 87 RX5 "feasts" "I" ∈ TG := TG_in (List.mem_append_right _ (List.mem_of_getElem? (i := 42) (by decide +kernel))) (by decide +kernel)
theorem tw_420 : Cond.methodLink RX6 197 yX6_stickProperty ∈ TG := TG_in (List.mem_append_right _ (List.mem_of_getElem? (i := 420) (by decide +kernel))) (by decide +kernel)
theorem tw_422 : Cond.instanceMethod yX6_stickProperty ∈ TG := TG_in (List.mem_append_right _ (List.mem_of_getElem? (i := 422) (by decide +kernel))) (by decide +kernel)
theorem tw_423 : Cond.code yX6_stickProperty cX6_stickProperty 3 (some .int) ∈ TG := TG_in (List.mem_append_right _ (List.mem_of_getElem? (i := 423) (by decide +kernel))) (by decide +kernel)
theorem tw_424 : Cond.methodLink RX6 133 yX5_notchesOfStick ∈ TG := TG_in (List.mem_append_right _ (List.mem_of_getElem? (i := 424) (by decide +kernel))) (by decide +kernel)
theorem tw_425 : Cond.instanceMethod yX5_notchesOfStick ∈ TG := TG_in (List.mem_append_right _ (List.mem_of_getElem? (i := 425) (by decide +kernel))) (by decide +kernel)
theorem tw_426 : Cond.selects yX5_notchesOfStick.cls yX5_notchesOfStick yX5_notchesOfStick ∈ TG := TG_in (List.mem_append_right _ (List.mem_of_getElem? (i := 426) (by decide +kernel))) (by decide +kernel)
theorem tw_427 : Cond.code yX5_notchesOfStick cX5_notchesOfStick 4 (some .int) ∈ TG := TG_in (List.mem_append_right _ (List.mem_of_getElem? (i := 427) (by decide +kernel))) (by decide +kernel)
theorem tw_428 : Cond.methodLink RX5 87 yX5_stickNotch ∈ TG := TG_in (List.mem_append_right _ (List.mem_of_getElem? (i := 428) (by decide +kernel))) (by decide +kernel)
theorem tw_429 : Cond.methodLink RX6 207 yX6_nextAlike ∈ TG := TG_in (List.mem_append_right _ (List.mem_of_getElem? (i := 429) (by decide +kernel))) (by decide +kernel)
theorem tw_43 : Cond.fieldLink RX5 20 RX5 "rules" "LRunicSticks$Row;" ∈ TG := TG_in (List.mem_append_right _ (List.mem_of_getElem? (i := 43) (by decide +kernel))) (by decide +kernel)
theorem tw_431 : Cond.instanceMethod yX6_nextAlike ∈ TG := TG_in (List.mem_append_right _ (List.mem_of_getElem? (i := 431) (by decide +kernel))) (by decide +kernel)
theorem tw_432 : Cond.code yX6_nextAlike cX6_nextAlike 3 (some .int) ∈ TG := TG_in (List.mem_append_right _ (List.mem_of_getElem? (i := 432) (by decide +kernel))) (by decide +kernel)
theorem tw_433 : Cond.methodLink RX6 164 yX6_daysIn ∈ TG := TG_in (List.mem_append_right _ (List.mem_of_getElem? (i := 433) (by decide +kernel))) (by decide +kernel)
theorem tw_434 : Cond.methodLink RX6 167 yX6_newYearWeekday ∈ TG := TG_in (List.mem_append_right _ (List.mem_of_getElem? (i := 434) (by decide +kernel))) (by decide +kernel)
theorem tw_435 : Cond.methodLink RX6 299 yX0_settlesLike ∈ TG := TG_in (List.mem_append_right _ (List.mem_of_getElem? (i := 435) (by decide +kernel))) (by decide +kernel)
theorem tw_436 : Cond.instanceMethod yX0_settlesLike ∈ TG := TG_in (List.mem_append_right _ (List.mem_of_getElem? (i := 436) (by decide +kernel))) (by decide +kernel)
theorem tw_437 : Cond.selects yX0_settlesLike.cls yX0_settlesLike yX0_settlesLike ∈ TG := TG_in (List.mem_append_right _ (List.mem_of_getElem? (i := 437) (by decide +kernel))) (by decide +kernel)
theorem tw_438 : Cond.code yX0_settlesLike cX0_settlesLike 4 (some .boolean) ∈ TG := TG_in (List.mem_append_right _ (List.mem_of_getElem? (i := 438) (by decide +kernel))) (by decide +kernel)
theorem tw_439 : Cond.methodLink RX0 47 yX0_settledNotch ∈ TG := TG_in (List.mem_append_right _ (List.mem_of_getElem? (i := 439) (by decide +kernel))) (by decide +kernel)
theorem tw_44 : Cond.fieldLink RX3 78 RX5 "rules" "LRunicSticks$Row;" ∈ TG := TG_in (List.mem_append_right _ (List.mem_of_getElem? (i := 44) (by decide +kernel))) (by decide +kernel)
theorem tw_440 : Cond.methodLink RX6 210 yX6_calmestSlip ∈ TG := TG_in (List.mem_append_right _ (List.mem_of_getElem? (i := 440) (by decide +kernel))) (by decide +kernel)
theorem tw_442 : Cond.instanceMethod yX6_calmestSlip ∈ TG := TG_in (List.mem_append_right _ (List.mem_of_getElem? (i := 442) (by decide +kernel))) (by decide +kernel)
theorem tw_443 : Cond.code yX6_calmestSlip cX6_calmestSlip 9 (some .int) ∈ TG := TG_in (List.mem_append_right _ (List.mem_of_getElem? (i := 443) (by decide +kernel))) (by decide +kernel)
theorem tw_444 : Cond.methodLink RX6 203 yX6_outermost ∈ TG := TG_in (List.mem_append_right _ (List.mem_of_getElem? (i := 444) (by decide +kernel))) (by decide +kernel)
theorem tw_446 : Cond.instanceMethod yX6_outermost ∈ TG := TG_in (List.mem_append_right _ (List.mem_of_getElem? (i := 446) (by decide +kernel))) (by decide +kernel)
theorem tw_447 : Cond.code yX6_outermost cX6_outermost 8 (some .int) ∈ TG := TG_in (List.mem_append_right _ (List.mem_of_getElem? (i := 447) (by decide +kernel))) (by decide +kernel)
theorem tw_448 : Cond.methodLink RX6 239 yX6_bitsOfShare ∈ TG := TG_in (List.mem_append_right _ (List.mem_of_getElem? (i := 448) (by decide +kernel))) (by decide +kernel)
theorem tw_449 : Cond.static yX6_bitsOfShare ∈ TG := TG_in (List.mem_append_right _ (List.mem_of_getElem? (i := 449) (by decide +kernel))) (by decide +kernel)
theorem tw_45 : Cond.fieldLink RX6 278 RX5 "rules" "LRunicSticks$Row;" ∈ TG := TG_in (List.mem_append_right _ (List.mem_of_getElem? (i := 45) (by decide +kernel))) (by decide +kernel)
theorem tw_450 : Cond.code yX6_bitsOfShare cX6_bitsOfShare 7 (some .long) ∈ TG := TG_in (List.mem_append_right _ (List.mem_of_getElem? (i := 450) (by decide +kernel))) (by decide +kernel)
theorem tw_451 : Cond.constantLong RX6 313 1023 ∈ TG := TG_in (List.mem_append_right _ (List.mem_of_getElem? (i := 451) (by decide +kernel))) (by decide +kernel)
theorem tw_452 : Cond.constantDouble RX6 315 4611686018427387904 ∈ TG := TG_in (List.mem_append_right _ (List.mem_of_getElem? (i := 452) (by decide +kernel))) (by decide +kernel)
theorem tw_453 : Cond.constantDouble RX6 317 4841369599423283200 ∈ TG := TG_in (List.mem_append_right _ (List.mem_of_getElem? (i := 453) (by decide +kernel))) (by decide +kernel)
theorem tw_46 : Cond.fieldLink RX5 24 RX5 "ranks" "LRunicSticks$Row;" ∈ TG := TG_in (List.mem_append_right _ (List.mem_of_getElem? (i := 46) (by decide +kernel))) (by decide +kernel)
theorem tw_466 : Cond.methodLink RX6 262 yX2_mayEnd ∈ TG := TG_in (List.mem_append_right _ (List.mem_of_getElem? (i := 466) (by decide +kernel))) (by decide +kernel)
theorem tw_467 : Cond.instanceMethod yX2_mayEnd ∈ TG := TG_in (List.mem_append_right _ (List.mem_of_getElem? (i := 467) (by decide +kernel))) (by decide +kernel)
theorem tw_468 : Cond.selects yX2_mayEnd.cls yX2_mayEnd yX2_mayEnd ∈ TG := TG_in (List.mem_append_right _ (List.mem_of_getElem? (i := 468) (by decide +kernel))) (by decide +kernel)
theorem tw_469 : Cond.code yX2_mayEnd cX2_mayEnd 1 (some .boolean) ∈ TG := TG_in (List.mem_append_right _ (List.mem_of_getElem? (i := 469) (by decide +kernel))) (by decide +kernel)
theorem tw_47 : Cond.fieldLink RX6 102 RX5 "ranks" "LRunicSticks$Row;" ∈ TG := TG_in (List.mem_append_right _ (List.mem_of_getElem? (i := 47) (by decide +kernel))) (by decide +kernel)
theorem tw_48 : Cond.fieldLink RX3 91 RX5 "ranks" "LRunicSticks$Row;" ∈ TG := TG_in (List.mem_append_right _ (List.mem_of_getElem? (i := 48) (by decide +kernel))) (by decide +kernel)
theorem tw_49 : Cond.fieldLink RX5 27 RX5 "days" "LRunicSticks$Row;" ∈ TG := TG_in (List.mem_append_right _ (List.mem_of_getElem? (i := 49) (by decide +kernel))) (by decide +kernel)
theorem tw_50 : Cond.fieldLink RX3 73 RX5 "days" "LRunicSticks$Row;" ∈ TG := TG_in (List.mem_append_right _ (List.mem_of_getElem? (i := 50) (by decide +kernel))) (by decide +kernel)
theorem tw_51 : Cond.fieldLink RX6 281 RX5 "days" "LRunicSticks$Row;" ∈ TG := TG_in (List.mem_append_right _ (List.mem_of_getElem? (i := 51) (by decide +kernel))) (by decide +kernel)
theorem tw_52 : Cond.fieldLink RX5 30 RX5 "others" "LRunicSticks$Row;" ∈ TG := TG_in (List.mem_append_right _ (List.mem_of_getElem? (i := 52) (by decide +kernel))) (by decide +kernel)
theorem tw_53 : Cond.fieldLink RX3 75 RX5 "others" "LRunicSticks$Row;" ∈ TG := TG_in (List.mem_append_right _ (List.mem_of_getElem? (i := 53) (by decide +kernel))) (by decide +kernel)
theorem tw_54 : Cond.fieldLink RX6 284 RX5 "others" "LRunicSticks$Row;" ∈ TG := TG_in (List.mem_append_right _ (List.mem_of_getElem? (i := 54) (by decide +kernel))) (by decide +kernel)
theorem tw_542 : Cond.methodLink RX1 25 yX1_stateAt ∈ TG := TG_in (List.mem_append_right _ (List.mem_of_getElem? (i := 542) (by decide +kernel))) (by decide +kernel)
theorem tw_544 : Cond.instanceMethod yX1_stateAt ∈ TG := TG_in (List.mem_append_right _ (List.mem_of_getElem? (i := 544) (by decide +kernel))) (by decide +kernel)
theorem tw_545 : Cond.code yX1_stateAt cX1_stateAt 3 (some (.object "RunicSticks$State")) ∈ TG := TG_in (List.mem_append_right _ (List.mem_of_getElem? (i := 545) (by decide +kernel))) (by decide +kernel)
theorem tw_546 : Cond.methodLink RX1 29 yX5_copyFrom ∈ TG := TG_in (List.mem_append_right _ (List.mem_of_getElem? (i := 546) (by decide +kernel))) (by decide +kernel)
theorem tw_547 : Cond.instanceMethod yX5_copyFrom ∈ TG := TG_in (List.mem_append_right _ (List.mem_of_getElem? (i := 547) (by decide +kernel))) (by decide +kernel)
theorem tw_548 : Cond.selects yX5_copyFrom.cls yX5_copyFrom yX5_copyFrom ∈ TG := TG_in (List.mem_append_right _ (List.mem_of_getElem? (i := 548) (by decide +kernel))) (by decide +kernel)
theorem tw_549 : Cond.code yX5_copyFrom cX5_copyFrom 2 none ∈ TG := TG_in (List.mem_append_right _ (List.mem_of_getElem? (i := 549) (by decide +kernel))) (by decide +kernel)
theorem tw_55 : Cond.fieldLink RX5 33 RX5 "slips" "LRunicSticks$Row;" ∈ TG := TG_in (List.mem_append_right _ (List.mem_of_getElem? (i := 55) (by decide +kernel))) (by decide +kernel)
theorem tw_550 : Cond.methodLink RX5 54 yX4_copyFrom ∈ TG := TG_in (List.mem_append_right _ (List.mem_of_getElem? (i := 550) (by decide +kernel))) (by decide +kernel)
theorem tw_551 : Cond.instanceMethod yX4_copyFrom ∈ TG := TG_in (List.mem_append_right _ (List.mem_of_getElem? (i := 551) (by decide +kernel))) (by decide +kernel)
theorem tw_552 : Cond.selects yX4_copyFrom.cls yX4_copyFrom yX4_copyFrom ∈ TG := TG_in (List.mem_append_right _ (List.mem_of_getElem? (i := 552) (by decide +kernel))) (by decide +kernel)
theorem tw_553 : Cond.code yX4_copyFrom cX4_copyFrom 3 none ∈ TG := TG_in (List.mem_append_right _ (List.mem_of_getElem? (i := 553) (by decide +kernel))) (by decide +kernel)
theorem tw_554 : Cond.methodLink RX4 15 yX4_at ∈ TG := TG_in (List.mem_append_right _ (List.mem_of_getElem? (i := 554) (by decide +kernel))) (by decide +kernel)
theorem tw_559 : Cond.methodLink RX6 265 yX6_addReadFeast ∈ TG := TG_in (List.mem_append_right _ (List.mem_of_getElem? (i := 559) (by decide +kernel))) (by decide +kernel)
theorem tw_56 : Cond.fieldLink RX0 28 RX5 "slips" "LRunicSticks$Row;" ∈ TG := TG_in (List.mem_append_right _ (List.mem_of_getElem? (i := 56) (by decide +kernel))) (by decide +kernel)
theorem tw_561 : Cond.instanceMethod yX6_addReadFeast ∈ TG := TG_in (List.mem_append_right _ (List.mem_of_getElem? (i := 561) (by decide +kernel))) (by decide +kernel)
theorem tw_562 : Cond.code yX6_addReadFeast cX6_addReadFeast 2 (some .boolean) ∈ TG := TG_in (List.mem_append_right _ (List.mem_of_getElem? (i := 562) (by decide +kernel))) (by decide +kernel)
theorem tw_563 : Cond.methodLink RX6 274 yX5_addFeast ∈ TG := TG_in (List.mem_append_right _ (List.mem_of_getElem? (i := 563) (by decide +kernel))) (by decide +kernel)
theorem tw_564 : Cond.instanceMethod yX5_addFeast ∈ TG := TG_in (List.mem_append_right _ (List.mem_of_getElem? (i := 564) (by decide +kernel))) (by decide +kernel)
theorem tw_565 : Cond.selects yX5_addFeast.cls yX5_addFeast yX5_addFeast ∈ TG := TG_in (List.mem_append_right _ (List.mem_of_getElem? (i := 565) (by decide +kernel))) (by decide +kernel)
theorem tw_566 : Cond.code yX5_addFeast cX5_addFeast 2 none ∈ TG := TG_in (List.mem_append_right _ (List.mem_of_getElem? (i := 566) (by decide +kernel))) (by decide +kernel)
theorem tw_567 : Cond.methodLink RX5 63 yX4_put ∈ TG := TG_in (List.mem_append_right _ (List.mem_of_getElem? (i := 567) (by decide +kernel))) (by decide +kernel)
theorem tw_57 : Cond.fieldLink RX6 116 RX5 "slips" "LRunicSticks$Row;" ∈ TG := TG_in (List.mem_append_right _ (List.mem_of_getElem? (i := 57) (by decide +kernel))) (by decide +kernel)
theorem tw_58 : Cond.fieldLink RX5 36 RX5 "moonYears" "I" ∈ TG := TG_in (List.mem_append_right _ (List.mem_of_getElem? (i := 58) (by decide +kernel))) (by decide +kernel)
theorem tw_59 : Cond.fieldLink RX3 37 RX5 "moonYears" "I" ∈ TG := TG_in (List.mem_append_right _ (List.mem_of_getElem? (i := 59) (by decide +kernel))) (by decide +kernel)
theorem tw_60 : Cond.fieldLink RX6 145 RX5 "moonYears" "I" ∈ TG := TG_in (List.mem_append_right _ (List.mem_of_getElem? (i := 60) (by decide +kernel))) (by decide +kernel)
theorem tw_61 : Cond.fieldLink RX5 39 RX5 "sticks" "I" ∈ TG := TG_in (List.mem_append_right _ (List.mem_of_getElem? (i := 61) (by decide +kernel))) (by decide +kernel)
theorem tw_62 : Cond.fieldLink RX6 236 RX5 "sticks" "I" ∈ TG := TG_in (List.mem_append_right _ (List.mem_of_getElem? (i := 62) (by decide +kernel))) (by decide +kernel)
theorem tw_63 : Cond.fieldLink RX5 42 RX5 "stickYears" "LRunicSticks$Row;" ∈ TG := TG_in (List.mem_append_right _ (List.mem_of_getElem? (i := 63) (by decide +kernel))) (by decide +kernel)
theorem tw_64 : Cond.fieldLink RX6 139 RX5 "stickYears" "LRunicSticks$Row;" ∈ TG := TG_in (List.mem_append_right _ (List.mem_of_getElem? (i := 64) (by decide +kernel))) (by decide +kernel)
theorem tw_649 : Cond.methodLink RX5 80 yX5_copyStick ∈ TG := TG_in (List.mem_append_right _ (List.mem_of_getElem? (i := 649) (by decide +kernel))) (by decide +kernel)
theorem tw_65 : Cond.fieldLink RX5 45 RX5 "stickCarvers" "LRunicSticks$Row;" ∈ TG := TG_in (List.mem_append_right _ (List.mem_of_getElem? (i := 65) (by decide +kernel))) (by decide +kernel)
theorem tw_651 : Cond.instanceMethod yX5_copyStick ∈ TG := TG_in (List.mem_append_right _ (List.mem_of_getElem? (i := 651) (by decide +kernel))) (by decide +kernel)
theorem tw_652 : Cond.code yX5_copyStick cX5_copyStick 4 none ∈ TG := TG_in (List.mem_append_right _ (List.mem_of_getElem? (i := 652) (by decide +kernel))) (by decide +kernel)
theorem tw_66 : Cond.fieldLink RX6 287 RX5 "stickCarvers" "LRunicSticks$Row;" ∈ TG := TG_in (List.mem_append_right _ (List.mem_of_getElem? (i := 66) (by decide +kernel))) (by decide +kernel)
theorem tw_67 : Cond.fieldLink RX5 48 RX5 "stickFeasts" "LRunicSticks$Row;" ∈ TG := TG_in (List.mem_append_right _ (List.mem_of_getElem? (i := 67) (by decide +kernel))) (by decide +kernel)
theorem tw_68 : Cond.fieldLink RX6 296 RX5 "stickFeasts" "LRunicSticks$Row;" ∈ TG := TG_in (List.mem_append_right _ (List.mem_of_getElem? (i := 68) (by decide +kernel))) (by decide +kernel)
theorem tw_69 : Cond.fieldLink RX5 51 RX5 "stickNotches" "LRunicSticks$Row;" ∈ TG := TG_in (List.mem_append_right _ (List.mem_of_getElem? (i := 69) (by decide +kernel))) (by decide +kernel)
theorem tw_789 : Cond.fieldLink RX7 38 RX7 "thrown" "I" ∈ TG := TG_in (List.mem_append_right _ (List.mem_of_getElem? (i := 789) (by decide +kernel))) (by decide +kernel)
theorem tw_790 : Cond.fieldLink RX7 7 RX7 "s" "[I" ∈ TG := TG_in (List.mem_append_right _ (List.mem_of_getElem? (i := 790) (by decide +kernel))) (by decide +kernel)
theorem tw_791 : Cond.fieldLink RX7 13 RX7 "saved" "[I" ∈ TG := TG_in (List.mem_append_right _ (List.mem_of_getElem? (i := 791) (by decide +kernel))) (by decide +kernel)
theorem tw_792 : Cond.fieldLink RX7 46 RX7 "savedMany" "I" ∈ TG := TG_in (List.mem_append_right _ (List.mem_of_getElem? (i := 792) (by decide +kernel))) (by decide +kernel)
theorem tw_793 : Cond.fieldLink RX7 16 RX7 "text" "[I" ∈ TG := TG_in (List.mem_append_right _ (List.mem_of_getElem? (i := 793) (by decide +kernel))) (by decide +kernel)
theorem tw_794 : Cond.fieldLink RX7 77 RX7 "length" "I" ∈ TG := TG_in (List.mem_append_right _ (List.mem_of_getElem? (i := 794) (by decide +kernel))) (by decide +kernel)
theorem tw_795 : Cond.fieldLink RX7 19 RX7 "proper" "[I" ∈ TG := TG_in (List.mem_append_right _ (List.mem_of_getElem? (i := 795) (by decide +kernel))) (by decide +kernel)
theorem tw_796 : Cond.fieldLink RX7 22 RX7 "notch" "[I" ∈ TG := TG_in (List.mem_append_right _ (List.mem_of_getElem? (i := 796) (by decide +kernel))) (by decide +kernel)
theorem tw_797 : Cond.fieldLink RX7 25 RX7 "isCut" "[Z" ∈ TG := TG_in (List.mem_append_right _ (List.mem_of_getElem? (i := 797) (by decide +kernel))) (by decide +kernel)
theorem tw_798 : Cond.fieldLink RX7 29 RX7 "notches" "[I" ∈ TG := TG_in (List.mem_append_right _ (List.mem_of_getElem? (i := 798) (by decide +kernel))) (by decide +kernel)
theorem tw_799 : Cond.fieldLink RX7 84 RX7 "at" "I" ∈ TG := TG_in (List.mem_append_right _ (List.mem_of_getElem? (i := 799) (by decide +kernel))) (by decide +kernel)
theorem tw_800 : Cond.fieldLink RX7 87 RX7 "isWrong" "Z" ∈ TG := TG_in (List.mem_append_right _ (List.mem_of_getElem? (i := 800) (by decide +kernel))) (by decide +kernel)
theorem tw_801 : Cond.fieldLink RX7 32 RX7 "told" "[I" ∈ TG := TG_in (List.mem_append_right _ (List.mem_of_getElem? (i := 801) (by decide +kernel))) (by decide +kernel)
theorem tw_802 : Cond.fieldLink RX7 35 RX7 "row" "[I" ∈ TG := TG_in (List.mem_append_right _ (List.mem_of_getElem? (i := 802) (by decide +kernel))) (by decide +kernel)
theorem tw_803 : Cond.fieldLink RX7 203 RX7 "digested" "J" ∈ TG := TG_in (List.mem_append_right _ (List.mem_of_getElem? (i := 803) (by decide +kernel))) (by decide +kernel)
theorem tw_844 : Cond.methodLink RX7 42 yX7_in ∈ TG := TG_in (List.mem_append_right _ (List.mem_of_getElem? (i := 844) (by decide +kernel))) (by decide +kernel)
theorem tw_845 : Cond.static yX7_in ∈ TG := TG_in (List.mem_append_right _ (List.mem_of_getElem? (i := 845) (by decide +kernel))) (by decide +kernel)
theorem tw_846 : Cond.code yX7_in cX7_in 3 (some .boolean) ∈ TG := TG_in (List.mem_append_right _ (List.mem_of_getElem? (i := 846) (by decide +kernel))) (by decide +kernel)
theorem tw_847 : Cond.methodLink RX7 80 yX7_holds ∈ TG := TG_in (List.mem_append_right _ (List.mem_of_getElem? (i := 847) (by decide +kernel))) (by decide +kernel)
theorem tw_849 : Cond.instanceMethod yX7_holds ∈ TG := TG_in (List.mem_append_right _ (List.mem_of_getElem? (i := 849) (by decide +kernel))) (by decide +kernel)
theorem tw_850 : Cond.code yX7_holds cX7_holds 2 (some .boolean) ∈ TG := TG_in (List.mem_append_right _ (List.mem_of_getElem? (i := 850) (by decide +kernel))) (by decide +kernel)
theorem tw_859 : Cond.methodLink RX7 107 yX7_go ∈ TG := TG_in (List.mem_append_right _ (List.mem_of_getElem? (i := 859) (by decide +kernel))) (by decide +kernel)
theorem tw_861 : Cond.instanceMethod yX7_go ∈ TG := TG_in (List.mem_append_right _ (List.mem_of_getElem? (i := 861) (by decide +kernel))) (by decide +kernel)
theorem tw_862 : Cond.code yX7_go cX7_go 6 (some .int) ∈ TG := TG_in (List.mem_append_right _ (List.mem_of_getElem? (i := 862) (by decide +kernel))) (by decide +kernel)
theorem tw_863 : Cond.methodLink RX7 100 yX7_read ∈ TG := TG_in (List.mem_append_right _ (List.mem_of_getElem? (i := 863) (by decide +kernel))) (by decide +kernel)
theorem tw_865 : Cond.instanceMethod yX7_read ∈ TG := TG_in (List.mem_append_right _ (List.mem_of_getElem? (i := 865) (by decide +kernel))) (by decide +kernel)
theorem tw_866 : Cond.code yX7_read cX7_read 4 none ∈ TG := TG_in (List.mem_append_right _ (List.mem_of_getElem? (i := 866) (by decide +kernel))) (by decide +kernel)
theorem tw_867 : Cond.methodLink RX7 91 yX7_sign ∈ TG := TG_in (List.mem_append_right _ (List.mem_of_getElem? (i := 867) (by decide +kernel))) (by decide +kernel)
theorem tw_869 : Cond.instanceMethod yX7_sign ∈ TG := TG_in (List.mem_append_right _ (List.mem_of_getElem? (i := 869) (by decide +kernel))) (by decide +kernel)
theorem tw_870 : Cond.code yX7_sign cX7_sign 4 (some .int) ∈ TG := TG_in (List.mem_append_right _ (List.mem_of_getElem? (i := 870) (by decide +kernel))) (by decide +kernel)
theorem tw_871 : Cond.methodLink RX7 94 yX7_isNext ∈ TG := TG_in (List.mem_append_right _ (List.mem_of_getElem? (i := 871) (by decide +kernel))) (by decide +kernel)
theorem tw_873 : Cond.instanceMethod yX7_isNext ∈ TG := TG_in (List.mem_append_right _ (List.mem_of_getElem? (i := 873) (by decide +kernel))) (by decide +kernel)
theorem tw_874 : Cond.code yX7_isNext cX7_isNext 2 (some .boolean) ∈ TG := TG_in (List.mem_append_right _ (List.mem_of_getElem? (i := 874) (by decide +kernel))) (by decide +kernel)
theorem tw_875 : Cond.methodLink RX7 97 yX7_number ∈ TG := TG_in (List.mem_append_right _ (List.mem_of_getElem? (i := 875) (by decide +kernel))) (by decide +kernel)
theorem tw_877 : Cond.instanceMethod yX7_number ∈ TG := TG_in (List.mem_append_right _ (List.mem_of_getElem? (i := 877) (by decide +kernel))) (by decide +kernel)
theorem tw_878 : Cond.code yX7_number cX7_number 3 (some .int) ∈ TG := TG_in (List.mem_append_right _ (List.mem_of_getElem? (i := 878) (by decide +kernel))) (by decide +kernel)
theorem tw_879 : Cond.methodLink RX7 103 yX7_adds ∈ TG := TG_in (List.mem_append_right _ (List.mem_of_getElem? (i := 879) (by decide +kernel))) (by decide +kernel)
theorem tw_881 : Cond.instanceMethod yX7_adds ∈ TG := TG_in (List.mem_append_right _ (List.mem_of_getElem? (i := 881) (by decide +kernel))) (by decide +kernel)
theorem tw_882 : Cond.code yX7_adds cX7_adds 4 (some .boolean) ∈ TG := TG_in (List.mem_append_right _ (List.mem_of_getElem? (i := 882) (by decide +kernel))) (by decide +kernel)
theorem tw_883 : Cond.methodLink RX7 61 yX7_of ∈ TG := TG_in (List.mem_append_right _ (List.mem_of_getElem? (i := 883) (by decide +kernel))) (by decide +kernel)
theorem tw_884 : Cond.static yX7_of ∈ TG := TG_in (List.mem_append_right _ (List.mem_of_getElem? (i := 884) (by decide +kernel))) (by decide +kernel)
theorem tw_885 : Cond.code yX7_of cX7_of 2 (some .int) ∈ TG := TG_in (List.mem_append_right _ (List.mem_of_getElem? (i := 885) (by decide +kernel))) (by decide +kernel)
theorem tw_890 : Cond.methodLink RX7 111 yX7_save ∈ TG := TG_in (List.mem_append_right _ (List.mem_of_getElem? (i := 890) (by decide +kernel))) (by decide +kernel)
theorem tw_892 : Cond.instanceMethod yX7_save ∈ TG := TG_in (List.mem_append_right _ (List.mem_of_getElem? (i := 892) (by decide +kernel))) (by decide +kernel)
theorem tw_893 : Cond.code yX7_save cX7_save 2 none ∈ TG := TG_in (List.mem_append_right _ (List.mem_of_getElem? (i := 893) (by decide +kernel))) (by decide +kernel)
theorem tw_902 : Cond.methodLink RX7 114 yX7_isFeast ∈ TG := TG_in (List.mem_append_right _ (List.mem_of_getElem? (i := 902) (by decide +kernel))) (by decide +kernel)
theorem tw_904 : Cond.instanceMethod yX7_isFeast ∈ TG := TG_in (List.mem_append_right _ (List.mem_of_getElem? (i := 904) (by decide +kernel))) (by decide +kernel)
theorem tw_905 : Cond.code yX7_isFeast cX7_isFeast 2 (some .boolean) ∈ TG := TG_in (List.mem_append_right _ (List.mem_of_getElem? (i := 905) (by decide +kernel))) (by decide +kernel)
theorem tw_906 : Cond.methodLink RX7 117 yX7_puts ∈ TG := TG_in (List.mem_append_right _ (List.mem_of_getElem? (i := 906) (by decide +kernel))) (by decide +kernel)
theorem tw_908 : Cond.instanceMethod yX7_puts ∈ TG := TG_in (List.mem_append_right _ (List.mem_of_getElem? (i := 908) (by decide +kernel))) (by decide +kernel)
theorem tw_909 : Cond.code yX7_puts cX7_puts 4 (some .int) ∈ TG := TG_in (List.mem_append_right _ (List.mem_of_getElem? (i := 909) (by decide +kernel))) (by decide +kernel)
theorem tw_914 : Cond.methodLink RX7 120 yX7_isCarver ∈ TG := TG_in (List.mem_append_right _ (List.mem_of_getElem? (i := 914) (by decide +kernel))) (by decide +kernel)
theorem tw_915 : Cond.static yX7_isCarver ∈ TG := TG_in (List.mem_append_right _ (List.mem_of_getElem? (i := 915) (by decide +kernel))) (by decide +kernel)
theorem tw_916 : Cond.code yX7_isCarver cX7_isCarver 1 (some .boolean) ∈ TG := TG_in (List.mem_append_right _ (List.mem_of_getElem? (i := 916) (by decide +kernel))) (by decide +kernel)
theorem tw_925 : Cond.methodLink RX7 123 yX7_isYear ∈ TG := TG_in (List.mem_append_right _ (List.mem_of_getElem? (i := 925) (by decide +kernel))) (by decide +kernel)
theorem tw_926 : Cond.static yX7_isYear ∈ TG := TG_in (List.mem_append_right _ (List.mem_of_getElem? (i := 926) (by decide +kernel))) (by decide +kernel)
theorem tw_927 : Cond.code yX7_isYear cX7_isYear 1 (some .boolean) ∈ TG := TG_in (List.mem_append_right _ (List.mem_of_getElem? (i := 927) (by decide +kernel))) (by decide +kernel)
theorem tw_928 : Cond.methodLink RX7 74 yX7_lay ∈ TG := TG_in (List.mem_append_right _ (List.mem_of_getElem? (i := 928) (by decide +kernel))) (by decide +kernel)
theorem tw_930 : Cond.instanceMethod yX7_lay ∈ TG := TG_in (List.mem_append_right _ (List.mem_of_getElem? (i := 930) (by decide +kernel))) (by decide +kernel)
theorem tw_931 : Cond.code yX7_lay cX7_lay 6 none ∈ TG := TG_in (List.mem_append_right _ (List.mem_of_getElem? (i := 931) (by decide +kernel))) (by decide +kernel)
theorem tw_932 : Cond.methodLink RX7 70 yX7_findProper ∈ TG := TG_in (List.mem_append_right _ (List.mem_of_getElem? (i := 932) (by decide +kernel))) (by decide +kernel)
theorem tw_934 : Cond.instanceMethod yX7_findProper ∈ TG := TG_in (List.mem_append_right _ (List.mem_of_getElem? (i := 934) (by decide +kernel))) (by decide +kernel)
theorem tw_935 : Cond.code yX7_findProper cX7_findProper 10 none ∈ TG := TG_in (List.mem_append_right _ (List.mem_of_getElem? (i := 935) (by decide +kernel))) (by decide +kernel)
theorem tw_936 : Cond.methodLink RX7 64 yX7_firstFull ∈ TG := TG_in (List.mem_append_right _ (List.mem_of_getElem? (i := 936) (by decide +kernel))) (by decide +kernel)
theorem tw_938 : Cond.instanceMethod yX7_firstFull ∈ TG := TG_in (List.mem_append_right _ (List.mem_of_getElem? (i := 938) (by decide +kernel))) (by decide +kernel)
theorem tw_939 : Cond.code yX7_firstFull cX7_firstFull 5 (some .int) ∈ TG := TG_in (List.mem_append_right _ (List.mem_of_getElem? (i := 939) (by decide +kernel))) (by decide +kernel)
theorem tw_940 : Cond.methodLink RX7 49 yX7_daysOf ∈ TG := TG_in (List.mem_append_right _ (List.mem_of_getElem? (i := 940) (by decide +kernel))) (by decide +kernel)
theorem tw_941 : Cond.static yX7_daysOf ∈ TG := TG_in (List.mem_append_right _ (List.mem_of_getElem? (i := 941) (by decide +kernel))) (by decide +kernel)
theorem tw_942 : Cond.code yX7_daysOf cX7_daysOf 1 (some .int) ∈ TG := TG_in (List.mem_append_right _ (List.mem_of_getElem? (i := 942) (by decide +kernel))) (by decide +kernel)
theorem tw_943 : Cond.methodLink RX7 57 yX7_age ∈ TG := TG_in (List.mem_append_right _ (List.mem_of_getElem? (i := 943) (by decide +kernel))) (by decide +kernel)
theorem tw_945 : Cond.instanceMethod yX7_age ∈ TG := TG_in (List.mem_append_right _ (List.mem_of_getElem? (i := 945) (by decide +kernel))) (by decide +kernel)
theorem tw_946 : Cond.code yX7_age cX7_age 4 (some .int) ∈ TG := TG_in (List.mem_append_right _ (List.mem_of_getElem? (i := 946) (by decide +kernel))) (by decide +kernel)
theorem tw_947 : Cond.methodLink RX7 67 yX7_firstWeekday ∈ TG := TG_in (List.mem_append_right _ (List.mem_of_getElem? (i := 947) (by decide +kernel))) (by decide +kernel)
theorem tw_948 : Cond.static yX7_firstWeekday ∈ TG := TG_in (List.mem_append_right _ (List.mem_of_getElem? (i := 948) (by decide +kernel))) (by decide +kernel)
theorem tw_949 : Cond.code yX7_firstWeekday cX7_firstWeekday 4 (some .int) ∈ TG := TG_in (List.mem_append_right _ (List.mem_of_getElem? (i := 949) (by decide +kernel))) (by decide +kernel)
theorem tw_950 : Cond.methodLink RX7 53 yX7_weekday ∈ TG := TG_in (List.mem_append_right _ (List.mem_of_getElem? (i := 950) (by decide +kernel))) (by decide +kernel)
theorem tw_951 : Cond.static yX7_weekday ∈ TG := TG_in (List.mem_append_right _ (List.mem_of_getElem? (i := 951) (by decide +kernel))) (by decide +kernel)
theorem tw_952 : Cond.code yX7_weekday cX7_weekday 2 (some .int) ∈ TG := TG_in (List.mem_append_right _ (List.mem_of_getElem? (i := 952) (by decide +kernel))) (by decide +kernel)
theorem tw_957 : Cond.methodLink RX7 126 yX7_isStick ∈ TG := TG_in (List.mem_append_right _ (List.mem_of_getElem? (i := 957) (by decide +kernel))) (by decide +kernel)
theorem tw_959 : Cond.instanceMethod yX7_isStick ∈ TG := TG_in (List.mem_append_right _ (List.mem_of_getElem? (i := 959) (by decide +kernel))) (by decide +kernel)
theorem tw_960 : Cond.code yX7_isStick cX7_isStick 2 (some .boolean) ∈ TG := TG_in (List.mem_append_right _ (List.mem_of_getElem? (i := 960) (by decide +kernel))) (by decide +kernel)
theorem tw_961 : Cond.methodLink RX7 129 yX7_ofStick ∈ TG := TG_in (List.mem_append_right _ (List.mem_of_getElem? (i := 961) (by decide +kernel))) (by decide +kernel)
theorem tw_962 : Cond.static yX7_ofStick ∈ TG := TG_in (List.mem_append_right _ (List.mem_of_getElem? (i := 962) (by decide +kernel))) (by decide +kernel)
theorem tw_963 : Cond.code yX7_ofStick cX7_ofStick 2 (some .int) ∈ TG := TG_in (List.mem_append_right _ (List.mem_of_getElem? (i := 963) (by decide +kernel))) (by decide +kernel)
theorem tw_972 : Cond.methodLink RX7 142 yX7_aboutDay ∈ TG := TG_in (List.mem_append_right _ (List.mem_of_getElem? (i := 972) (by decide +kernel))) (by decide +kernel)
theorem tw_974 : Cond.instanceMethod yX7_aboutDay ∈ TG := TG_in (List.mem_append_right _ (List.mem_of_getElem? (i := 974) (by decide +kernel))) (by decide +kernel)
theorem tw_975 : Cond.code yX7_aboutDay cX7_aboutDay 4 (some .int) ∈ TG := TG_in (List.mem_append_right _ (List.mem_of_getElem? (i := 975) (by decide +kernel))) (by decide +kernel)
theorem tw_976 : Cond.methodLink RX7 139 yX7_feastOn ∈ TG := TG_in (List.mem_append_right _ (List.mem_of_getElem? (i := 976) (by decide +kernel))) (by decide +kernel)
theorem tw_978 : Cond.instanceMethod yX7_feastOn ∈ TG := TG_in (List.mem_append_right _ (List.mem_of_getElem? (i := 978) (by decide +kernel))) (by decide +kernel)
theorem tw_979 : Cond.code yX7_feastOn cX7_feastOn 4 (some .int) ∈ TG := TG_in (List.mem_append_right _ (List.mem_of_getElem? (i := 979) (by decide +kernel))) (by decide +kernel)
theorem tw_980 : Cond.methodLink RX7 132 yX7_layAll ∈ TG := TG_in (List.mem_append_right _ (List.mem_of_getElem? (i := 980) (by decide +kernel))) (by decide +kernel)
theorem tw_982 : Cond.instanceMethod yX7_layAll ∈ TG := TG_in (List.mem_append_right _ (List.mem_of_getElem? (i := 982) (by decide +kernel))) (by decide +kernel)
theorem tw_983 : Cond.code yX7_layAll cX7_layAll 4 none ∈ TG := TG_in (List.mem_append_right _ (List.mem_of_getElem? (i := 983) (by decide +kernel))) (by decide +kernel)
theorem tw_984 : Cond.methodLink RX7 136 yX7_settledBy ∈ TG := TG_in (List.mem_append_right _ (List.mem_of_getElem? (i := 984) (by decide +kernel))) (by decide +kernel)
theorem tw_986 : Cond.instanceMethod yX7_settledBy ∈ TG := TG_in (List.mem_append_right _ (List.mem_of_getElem? (i := 986) (by decide +kernel))) (by decide +kernel)
theorem tw_987 : Cond.code yX7_settledBy cX7_settledBy 2 (some .int) ∈ TG := TG_in (List.mem_append_right _ (List.mem_of_getElem? (i := 987) (by decide +kernel))) (by decide +kernel)
theorem tw_992 : Cond.methodLink RX7 145 yX7_ofFeast ∈ TG := TG_in (List.mem_append_right _ (List.mem_of_getElem? (i := 992) (by decide +kernel))) (by decide +kernel)
theorem tw_994 : Cond.instanceMethod yX7_ofFeast ∈ TG := TG_in (List.mem_append_right _ (List.mem_of_getElem? (i := 994) (by decide +kernel))) (by decide +kernel)
theorem tw_995 : Cond.code yX7_ofFeast cX7_ofFeast 4 (some .int) ∈ TG := TG_in (List.mem_append_right _ (List.mem_of_getElem? (i := 995) (by decide +kernel))) (by decide +kernel)
theorem kA_0 : kd 0 = 6 := by decide +kernel
theorem kA_1 : kd 1 = 5 := by decide +kernel
theorem kA_10 : kd 10 = 4 := by decide +kernel
theorem kA_12 : kd 12 = 4 := by decide +kernel
theorem kA_136 : kd 136 = 4 := by decide +kernel
theorem kA_138 : kd 138 = 2 := by decide +kernel
theorem kA_139 : kd 139 = 3 := by decide +kernel
theorem kA_14 : kd 14 = 4 := by decide +kernel
theorem kA_142 : kd 142 = 4 := by decide +kernel
theorem kA_144 : kd 144 = 0 := by decide +kernel
theorem kA_16 : kd 16 = 4 := by decide +kernel
theorem kA_160 : kd 160 = 0 := by decide +kernel
theorem kA_176 : kd 176 = 12 := by decide +kernel
theorem kA_2 : kd 2 = 4 := by decide +kernel
theorem kA_20 : kd 20 = 1 := by decide +kernel
theorem kA_21 : kd 21 = 11 := by decide +kernel
theorem kA_225 : kd 225 = 7 := by decide +kernel
theorem kA_226 : kd 226 = 8 := by decide +kernel
theorem kA_227 : kd 227 = 8 := by decide +kernel
theorem kA_228 : kd 228 = 8 := by decide +kernel
theorem kA_229 : kd 229 = 8 := by decide +kernel
theorem kA_230 : kd 230 = 8 := by decide +kernel
theorem kA_231 : kd 231 = 9 := by decide +kernel
theorem kA_232 : kd 232 = 8 := by decide +kernel
theorem kA_233 : kd 233 = 8 := by decide +kernel
theorem kA_234 : kd 234 = 8 := by decide +kernel
theorem kA_4 : kd 4 = 4 := by decide +kernel
theorem kA_6 : kd 6 = 4 := by decide +kernel
theorem kA_8 : kd 8 = 4 := by decide +kernel
theorem aA_176 : aln 176 = 3 := by decide +kernel
theorem aA_21 : aln 21 = 6 := by decide +kernel
theorem aA_226 : aln 226 = 111 := by decide +kernel
theorem aA_227 : aln 227 = 666 := by decide +kernel
theorem aA_228 : aln 228 = 60 := by decide +kernel
theorem aA_229 : aln 229 = 10 := by decide +kernel
theorem aA_230 : aln 230 = 10 := by decide +kernel
theorem aA_231 : aln 231 = 366 := by decide +kernel
theorem aA_232 : aln 232 = 30 := by decide +kernel
theorem aA_233 : aln 233 = 4 := by decide +kernel
theorem aA_234 : aln 234 = 10 := by decide +kernel
theorem kR0_1 {c : Nat} (h : kd c = 0) : kd (c + 1) = 3 := (by decide +kernel : ∀ c, c < NC → kd c = 0 → kd (c + 1) = 3) c (kd_lt h (by decide)) h
theorem kR0_6 {c : Nat} (h : kd c = 0) : kd (c + 6) = 3 := (by decide +kernel : ∀ c, c < NC → kd c = 0 → kd (c + 6) = 3) c (kd_lt h (by decide)) h
theorem kR0_11 {c : Nat} (h : kd c = 0) : kd (c + 11) = 3 := (by decide +kernel : ∀ c, c < NC → kd c = 0 → kd (c + 11) = 3) c (kd_lt h (by decide)) h
theorem kR1_1 {c : Nat} (h : kd c = 1) : kd (c + 1) = 11 := (by decide +kernel : ∀ c, c < NC → kd c = 1 → kd (c + 1) = 11) c (kd_lt h (by decide)) h
theorem kR3_1 {c : Nat} (h : kd c = 3) : kd (c + 1) = 4 := (by decide +kernel : ∀ c, c < NC → kd c = 3 → kd (c + 1) = 4) c (kd_lt h (by decide)) h
theorem kR3_3 {c : Nat} (h : kd c = 3) : kd (c + 3) = 4 := (by decide +kernel : ∀ c, c < NC → kd c = 3 → kd (c + 3) = 4) c (kd_lt h (by decide)) h
theorem kR4_1 {c : Nat} (h : kd c = 4) : kd (c + 1) = 8 := (by decide +kernel : ∀ c, c < NC → kd c = 4 → kd (c + 1) = 8) c (kd_lt h (by decide)) h
theorem kR5_1 {c : Nat} (h : kd c = 5) : kd (c + 1) = 4 := (by decide +kernel : ∀ c, c < NC → kd c = 5 → kd (c + 1) = 4) c (kd_lt h (by decide)) h
theorem kR5_3 {c : Nat} (h : kd c = 5) : kd (c + 3) = 4 := (by decide +kernel : ∀ c, c < NC → kd c = 5 → kd (c + 3) = 4) c (kd_lt h (by decide)) h
theorem kR5_5 {c : Nat} (h : kd c = 5) : kd (c + 5) = 4 := (by decide +kernel : ∀ c, c < NC → kd c = 5 → kd (c + 5) = 4) c (kd_lt h (by decide)) h
theorem kR5_7 {c : Nat} (h : kd c = 5) : kd (c + 7) = 4 := (by decide +kernel : ∀ c, c < NC → kd c = 5 → kd (c + 7) = 4) c (kd_lt h (by decide)) h
theorem kR5_9 {c : Nat} (h : kd c = 5) : kd (c + 9) = 4 := (by decide +kernel : ∀ c, c < NC → kd c = 5 → kd (c + 9) = 4) c (kd_lt h (by decide)) h
theorem kR5_11 {c : Nat} (h : kd c = 5) : kd (c + 11) = 4 := (by decide +kernel : ∀ c, c < NC → kd c = 5 → kd (c + 11) = 4) c (kd_lt h (by decide)) h
theorem kR5_13 {c : Nat} (h : kd c = 5) : kd (c + 13) = 4 := (by decide +kernel : ∀ c, c < NC → kd c = 5 → kd (c + 13) = 4) c (kd_lt h (by decide)) h
theorem kR5_15 {c : Nat} (h : kd c = 5) : kd (c + 15) = 4 := (by decide +kernel : ∀ c, c < NC → kd c = 5 → kd (c + 15) = 4) c (kd_lt h (by decide)) h
theorem kR5_17 {c : Nat} (h : kd c = 5) : kd (c + 17) = 4 := (by decide +kernel : ∀ c, c < NC → kd c = 5 → kd (c + 17) = 4) c (kd_lt h (by decide)) h
theorem inT0 : ∀ w ∈ u_ws RX0 TX0 3, w ∈ TG := fun w hw => TG_in ((by decide +kernel : ∀ w ∈ u_ws RX0 TX0 3, w ∈ lw_tbl) w hw) ((by decide +kernel : ∀ w ∈ u_ws RX0 TX0 3, goodWord w = true) w hw)
theorem inT1 : ∀ w ∈ u_ws RX1 TX1 3, w ∈ TG := fun w hw => TG_in ((by decide +kernel : ∀ w ∈ u_ws RX1 TX1 3, w ∈ lw_tbl) w hw) ((by decide +kernel : ∀ w ∈ u_ws RX1 TX1 3, goodWord w = true) w hw)
theorem inT2 : ∀ w ∈ u_ws RX2 TX2 6, w ∈ TG := fun w hw => TG_in ((by decide +kernel : ∀ w ∈ u_ws RX2 TX2 6, w ∈ lw_tbl) w hw) ((by decide +kernel : ∀ w ∈ u_ws RX2 TX2 6, goodWord w = true) w hw)
theorem inT3 : ∀ w ∈ u_ws RX3 TX3 5, w ∈ TG := fun w hw => TG_in ((by decide +kernel : ∀ w ∈ u_ws RX3 TX3 5, w ∈ lw_tbl) w hw) ((by decide +kernel : ∀ w ∈ u_ws RX3 TX3 5, goodWord w = true) w hw)
theorem inT4 : ∀ w ∈ u_ws RX4 TX4 1, w ∈ TG := fun w hw => TG_in ((by decide +kernel : ∀ w ∈ u_ws RX4 TX4 1, w ∈ lw_tbl) w hw) ((by decide +kernel : ∀ w ∈ u_ws RX4 TX4 1, goodWord w = true) w hw)
theorem inT5 : ∀ w ∈ u_ws RX5 TX5 12, w ∈ TG := fun w hw => TG_in ((by decide +kernel : ∀ w ∈ u_ws RX5 TX5 12, w ∈ lw_tbl) w hw) ((by decide +kernel : ∀ w ∈ u_ws RX5 TX5 12, goodWord w = true) w hw)
theorem inT6 : ∀ w ∈ u_ws RX6 TX6 9, w ∈ TG := fun w hw => TG_in ((by decide +kernel : ∀ w ∈ u_ws RX6 TX6 9, w ∈ lw_tbl) w hw) ((by decide +kernel : ∀ w ∈ u_ws RX6 TX6 9, goodWord w = true) w hw)
theorem inT7 : ∀ w ∈ u_ws RX7 TX7 15, w ∈ TG := fun w hw => TG_in ((by decide +kernel : ∀ w ∈ u_ws RX7 TX7 15, w ∈ lw_tbl) w hw) ((by decide +kernel : ∀ w ∈ u_ws RX7 TX7 15, goodWord w = true) w hw)
theorem hd_X0_by : yX0_by.cls ≠ "java/lang/invoke/MethodHandle" ∧ yX0_by.cls ≠ "java/lang/invoke/VarHandle" ∧ (parseMethodDescriptor yX0_by.desc).map (fun d => d.parameters.length) = some 1 := by decide +kernel
theorem hd_X0_gather : yX0_gather.cls ≠ "java/lang/invoke/MethodHandle" ∧ yX0_gather.cls ≠ "java/lang/invoke/VarHandle" ∧ (parseMethodDescriptor yX0_gather.desc).map (fun d => d.parameters.length) = some 2 := by decide +kernel
theorem hd_X0_quarrelCount : yX0_quarrelCount.cls ≠ "java/lang/invoke/MethodHandle" ∧ yX0_quarrelCount.cls ≠ "java/lang/invoke/VarHandle" ∧ (parseMethodDescriptor yX0_quarrelCount.desc).map (fun d => d.parameters.length) = some 1 := by decide +kernel
theorem hd_X0_settledNotch : yX0_settledNotch.cls ≠ "java/lang/invoke/MethodHandle" ∧ yX0_settledNotch.cls ≠ "java/lang/invoke/VarHandle" ∧ (parseMethodDescriptor yX0_settledNotch.desc).map (fun d => d.parameters.length) = some 1 := by decide +kernel
theorem hd_X0_settlesLike : yX0_settlesLike.cls ≠ "java/lang/invoke/MethodHandle" ∧ yX0_settlesLike.cls ≠ "java/lang/invoke/VarHandle" ∧ (parseMethodDescriptor yX0_settlesLike.desc).map (fun d => d.parameters.length) = some 2 := by decide +kernel
theorem hd_X1_size : yX1_size.cls ≠ "java/lang/invoke/MethodHandle" ∧ yX1_size.cls ≠ "java/lang/invoke/VarHandle" ∧ (parseMethodDescriptor yX1_size.desc).map (fun d => d.parameters.length) = some 0 := by decide +kernel
theorem hd_X1_stateAt : yX1_stateAt.cls ≠ "java/lang/invoke/MethodHandle" ∧ yX1_stateAt.cls ≠ "java/lang/invoke/VarHandle" ∧ (parseMethodDescriptor yX1_stateAt.desc).map (fun d => d.parameters.length) = some 1 := by decide +kernel
theorem hd_X2_hasWeekday : yX2_hasWeekday.cls ≠ "java/lang/invoke/MethodHandle" ∧ yX2_hasWeekday.cls ≠ "java/lang/invoke/VarHandle" ∧ (parseMethodDescriptor yX2_hasWeekday.desc).map (fun d => d.parameters.length) = some 0 := by decide +kernel
theorem hd_X2_isDigit : yX2_isDigit.cls ≠ "java/lang/invoke/MethodHandle" ∧ yX2_isDigit.cls ≠ "java/lang/invoke/VarHandle" ∧ (parseMethodDescriptor yX2_isDigit.desc).map (fun d => d.parameters.length) = some 1 := by decide +kernel
theorem hd_X2_mayEnd : yX2_mayEnd.cls ≠ "java/lang/invoke/MethodHandle" ∧ yX2_mayEnd.cls ≠ "java/lang/invoke/VarHandle" ∧ (parseMethodDescriptor yX2_mayEnd.desc).map (fun d => d.parameters.length) = some 0 := by decide +kernel
theorem hd_X2_reads : yX2_reads.cls ≠ "java/lang/invoke/MethodHandle" ∧ yX2_reads.cls ≠ "java/lang/invoke/VarHandle" ∧ (parseMethodDescriptor yX2_reads.desc).map (fun d => d.parameters.length) = some 1 := by decide +kernel
theorem hd_X2_readsBehindRule : yX2_readsBehindRule.cls ≠ "java/lang/invoke/MethodHandle" ∧ yX2_readsBehindRule.cls ≠ "java/lang/invoke/VarHandle" ∧ (parseMethodDescriptor yX2_readsBehindRule.desc).map (fun d => d.parameters.length) = some 1 := by decide +kernel
theorem hd_X2_readsComma : yX2_readsComma.cls ≠ "java/lang/invoke/MethodHandle" ∧ yX2_readsComma.cls ≠ "java/lang/invoke/VarHandle" ∧ (parseMethodDescriptor yX2_readsComma.desc).map (fun d => d.parameters.length) = some 1 := by decide +kernel
theorem hd_X2_readsFirstDigit : yX2_readsFirstDigit.cls ≠ "java/lang/invoke/MethodHandle" ∧ yX2_readsFirstDigit.cls ≠ "java/lang/invoke/VarHandle" ∧ (parseMethodDescriptor yX2_readsFirstDigit.desc).map (fun d => d.parameters.length) = some 1 := by decide +kernel
theorem hd_X2_readsNextDigit : yX2_readsNextDigit.cls ≠ "java/lang/invoke/MethodHandle" ∧ yX2_readsNextDigit.cls ≠ "java/lang/invoke/VarHandle" ∧ (parseMethodDescriptor yX2_readsNextDigit.desc).map (fun d => d.parameters.length) = some 1 := by decide +kernel
theorem hd_X2_readsOther : yX2_readsOther.cls ≠ "java/lang/invoke/MethodHandle" ∧ yX2_readsOther.cls ≠ "java/lang/invoke/VarHandle" ∧ (parseMethodDescriptor yX2_readsOther.desc).map (fun d => d.parameters.length) = some 3 := by decide +kernel
theorem hd_X2_readsRank : yX2_readsRank.cls ≠ "java/lang/invoke/MethodHandle" ∧ yX2_readsRank.cls ≠ "java/lang/invoke/VarHandle" ∧ (parseMethodDescriptor yX2_readsRank.desc).map (fun d => d.parameters.length) = some 1 := by decide +kernel
theorem hd_X2_readsRule : yX2_readsRule.cls ≠ "java/lang/invoke/MethodHandle" ∧ yX2_readsRule.cls ≠ "java/lang/invoke/VarHandle" ∧ (parseMethodDescriptor yX2_readsRule.desc).map (fun d => d.parameters.length) = some 1 := by decide +kernel
theorem hd_X2_readsSeparator : yX2_readsSeparator.cls ≠ "java/lang/invoke/MethodHandle" ∧ yX2_readsSeparator.cls ≠ "java/lang/invoke/VarHandle" ∧ (parseMethodDescriptor yX2_readsSeparator.desc).map (fun d => d.parameters.length) = some 1 := by decide +kernel
theorem hd_X2_readsSign : yX2_readsSign.cls ≠ "java/lang/invoke/MethodHandle" ∧ yX2_readsSign.cls ≠ "java/lang/invoke/VarHandle" ∧ (parseMethodDescriptor yX2_readsSign.desc).map (fun d => d.parameters.length) = some 1 := by decide +kernel
theorem hd_X2_start : yX2_start.cls ≠ "java/lang/invoke/MethodHandle" ∧ yX2_start.cls ≠ "java/lang/invoke/VarHandle" ∧ (parseMethodDescriptor yX2_start.desc).map (fun d => d.parameters.length) = some 0 := by decide +kernel
theorem hd_X3_cutNotches : yX3_cutNotches.cls ≠ "java/lang/invoke/MethodHandle" ∧ yX3_cutNotches.cls ≠ "java/lang/invoke/VarHandle" ∧ (parseMethodDescriptor yX3_cutNotches.desc).map (fun d => d.parameters.length) = some 2 := by decide +kernel
theorem hd_X3_dayByRule : yX3_dayByRule.cls ≠ "java/lang/invoke/MethodHandle" ∧ yX3_dayByRule.cls ≠ "java/lang/invoke/VarHandle" ∧ (parseMethodDescriptor yX3_dayByRule.desc).map (fun d => d.parameters.length) = some 2 := by decide +kernel
theorem hd_X3_hasNotch : yX3_hasNotch.cls ≠ "java/lang/invoke/MethodHandle" ∧ yX3_hasNotch.cls ≠ "java/lang/invoke/VarHandle" ∧ (parseMethodDescriptor yX3_hasNotch.desc).map (fun d => d.parameters.length) = some 2 := by decide +kernel
theorem hd_X3_movedCount : yX3_movedCount.cls ≠ "java/lang/invoke/MethodHandle" ∧ yX3_movedCount.cls ≠ "java/lang/invoke/VarHandle" ∧ (parseMethodDescriptor yX3_movedCount.desc).map (fun d => d.parameters.length) = some 1 := by decide +kernel
theorem hd_X3_orNone : yX3_orNone.cls ≠ "java/lang/invoke/MethodHandle" ∧ yX3_orNone.cls ≠ "java/lang/invoke/VarHandle" ∧ (parseMethodDescriptor yX3_orNone.desc).map (fun d => d.parameters.length) = some 1 := by decide +kernel
theorem hd_X3_reckon : yX3_reckon.cls ≠ "java/lang/invoke/MethodHandle" ∧ yX3_reckon.cls ≠ "java/lang/invoke/VarHandle" ∧ (parseMethodDescriptor yX3_reckon.desc).map (fun d => d.parameters.length) = some 3 := by decide +kernel
theorem hd_X3_weekdayFrom : yX3_weekdayFrom.cls ≠ "java/lang/invoke/MethodHandle" ∧ yX3_weekdayFrom.cls ≠ "java/lang/invoke/VarHandle" ∧ (parseMethodDescriptor yX3_weekdayFrom.desc).map (fun d => d.parameters.length) = some 2 := by decide +kernel
theorem hd_X3_weekdayPastMoon : yX3_weekdayPastMoon.cls ≠ "java/lang/invoke/MethodHandle" ∧ yX3_weekdayPastMoon.cls ≠ "java/lang/invoke/VarHandle" ∧ (parseMethodDescriptor yX3_weekdayPastMoon.desc).map (fun d => d.parameters.length) = some 2 := by decide +kernel
theorem hd_X4_at : yX4_at.cls ≠ "java/lang/invoke/MethodHandle" ∧ yX4_at.cls ≠ "java/lang/invoke/VarHandle" ∧ (parseMethodDescriptor yX4_at.desc).map (fun d => d.parameters.length) = some 1 := by decide +kernel
theorem hd_X4_copyFrom : yX4_copyFrom.cls ≠ "java/lang/invoke/MethodHandle" ∧ yX4_copyFrom.cls ≠ "java/lang/invoke/VarHandle" ∧ (parseMethodDescriptor yX4_copyFrom.desc).map (fun d => d.parameters.length) = some 1 := by decide +kernel
theorem hd_X4_put : yX4_put.cls ≠ "java/lang/invoke/MethodHandle" ∧ yX4_put.cls ≠ "java/lang/invoke/VarHandle" ∧ (parseMethodDescriptor yX4_put.desc).map (fun d => d.parameters.length) = some 2 := by decide +kernel
theorem hd_X4_putNowhere : yX4_putNowhere.cls ≠ "java/lang/invoke/MethodHandle" ∧ yX4_putNowhere.cls ≠ "java/lang/invoke/VarHandle" ∧ (parseMethodDescriptor yX4_putNowhere.desc).map (fun d => d.parameters.length) = some 0 := by decide +kernel
theorem hd_X5_addFeast : yX5_addFeast.cls ≠ "java/lang/invoke/MethodHandle" ∧ yX5_addFeast.cls ≠ "java/lang/invoke/VarHandle" ∧ (parseMethodDescriptor yX5_addFeast.desc).map (fun d => d.parameters.length) = some 1 := by decide +kernel
theorem hd_X5_copyFrom : yX5_copyFrom.cls ≠ "java/lang/invoke/MethodHandle" ∧ yX5_copyFrom.cls ≠ "java/lang/invoke/VarHandle" ∧ (parseMethodDescriptor yX5_copyFrom.desc).map (fun d => d.parameters.length) = some 1 := by decide +kernel
theorem hd_X5_copyStick : yX5_copyStick.cls ≠ "java/lang/invoke/MethodHandle" ∧ yX5_copyStick.cls ≠ "java/lang/invoke/VarHandle" ∧ (parseMethodDescriptor yX5_copyStick.desc).map (fun d => d.parameters.length) = some 2 := by decide +kernel
theorem hd_X5_notchesOfStick : yX5_notchesOfStick.cls ≠ "java/lang/invoke/MethodHandle" ∧ yX5_notchesOfStick.cls ≠ "java/lang/invoke/VarHandle" ∧ (parseMethodDescriptor yX5_notchesOfStick.desc).map (fun d => d.parameters.length) = some 1 := by decide +kernel
theorem hd_X5_stickNotch : yX5_stickNotch.cls ≠ "java/lang/invoke/MethodHandle" ∧ yX5_stickNotch.cls ≠ "java/lang/invoke/VarHandle" ∧ (parseMethodDescriptor yX5_stickNotch.desc).map (fun d => d.parameters.length) = some 2 := by decide +kernel
theorem hd_X6_addReadFeast : yX6_addReadFeast.cls ≠ "java/lang/invoke/MethodHandle" ∧ yX6_addReadFeast.cls ≠ "java/lang/invoke/VarHandle" ∧ (parseMethodDescriptor yX6_addReadFeast.desc).map (fun d => d.parameters.length) = some 0 := by decide +kernel
theorem hd_X6_bitsOfShare : yX6_bitsOfShare.cls ≠ "java/lang/invoke/MethodHandle" ∧ yX6_bitsOfShare.cls ≠ "java/lang/invoke/VarHandle" ∧ (parseMethodDescriptor yX6_bitsOfShare.desc).map (fun d => d.parameters.length) = some 1 := by decide +kernel
theorem hd_X6_calmestSlip : yX6_calmestSlip.cls ≠ "java/lang/invoke/MethodHandle" ∧ yX6_calmestSlip.cls ≠ "java/lang/invoke/VarHandle" ∧ (parseMethodDescriptor yX6_calmestSlip.desc).map (fun d => d.parameters.length) = some 2 := by decide +kernel
theorem hd_X6_daysIn : yX6_daysIn.cls ≠ "java/lang/invoke/MethodHandle" ∧ yX6_daysIn.cls ≠ "java/lang/invoke/VarHandle" ∧ (parseMethodDescriptor yX6_daysIn.desc).map (fun d => d.parameters.length) = some 1 := by decide +kernel
theorem hd_X6_feastProperty : yX6_feastProperty.cls ≠ "java/lang/invoke/MethodHandle" ∧ yX6_feastProperty.cls ≠ "java/lang/invoke/VarHandle" ∧ (parseMethodDescriptor yX6_feastProperty.desc).map (fun d => d.parameters.length) = some 2 := by decide +kernel
theorem hd_X6_freshPart : yX6_freshPart.cls ≠ "java/lang/invoke/MethodHandle" ∧ yX6_freshPart.cls ≠ "java/lang/invoke/VarHandle" ∧ (parseMethodDescriptor yX6_freshPart.desc).map (fun d => d.parameters.length) = some 0 := by decide +kernel
theorem hd_X6_gatherDigestCouncils : yX6_gatherDigestCouncils.cls ≠ "java/lang/invoke/MethodHandle" ∧ yX6_gatherDigestCouncils.cls ≠ "java/lang/invoke/VarHandle" ∧ (parseMethodDescriptor yX6_gatherDigestCouncils.desc).map (fun d => d.parameters.length) = some 0 := by decide +kernel
theorem hd_X6_isLeap : yX6_isLeap.cls ≠ "java/lang/invoke/MethodHandle" ∧ yX6_isLeap.cls ≠ "java/lang/invoke/VarHandle" ∧ (parseMethodDescriptor yX6_isLeap.desc).map (fun d => d.parameters.length) = some 1 := by decide +kernel
theorem hd_X6_mixed : yX6_mixed.cls ≠ "java/lang/invoke/MethodHandle" ∧ yX6_mixed.cls ≠ "java/lang/invoke/VarHandle" ∧ (parseMethodDescriptor yX6_mixed.desc).map (fun d => d.parameters.length) = some 2 := by decide +kernel
theorem hd_X6_mixedDays : yX6_mixedDays.cls ≠ "java/lang/invoke/MethodHandle" ∧ yX6_mixedDays.cls ≠ "java/lang/invoke/VarHandle" ∧ (parseMethodDescriptor yX6_mixedDays.desc).map (fun d => d.parameters.length) = some 3 := by decide +kernel
theorem hd_X6_mixedFeasts : yX6_mixedFeasts.cls ≠ "java/lang/invoke/MethodHandle" ∧ yX6_mixedFeasts.cls ≠ "java/lang/invoke/VarHandle" ∧ (parseMethodDescriptor yX6_mixedFeasts.desc).map (fun d => d.parameters.length) = some 1 := by decide +kernel
theorem hd_X6_mixedQuarrels : yX6_mixedQuarrels.cls ≠ "java/lang/invoke/MethodHandle" ∧ yX6_mixedQuarrels.cls ≠ "java/lang/invoke/VarHandle" ∧ (parseMethodDescriptor yX6_mixedQuarrels.desc).map (fun d => d.parameters.length) = some 1 := by decide +kernel
theorem hd_X6_moonAge : yX6_moonAge.cls ≠ "java/lang/invoke/MethodHandle" ∧ yX6_moonAge.cls ≠ "java/lang/invoke/VarHandle" ∧ (parseMethodDescriptor yX6_moonAge.desc).map (fun d => d.parameters.length) = some 2 := by decide +kernel
theorem hd_X6_moonShift : yX6_moonShift.cls ≠ "java/lang/invoke/MethodHandle" ∧ yX6_moonShift.cls ≠ "java/lang/invoke/VarHandle" ∧ (parseMethodDescriptor yX6_moonShift.desc).map (fun d => d.parameters.length) = some 3 := by decide +kernel
theorem hd_X6_newYearWeekday : yX6_newYearWeekday.cls ≠ "java/lang/invoke/MethodHandle" ∧ yX6_newYearWeekday.cls ≠ "java/lang/invoke/VarHandle" ∧ (parseMethodDescriptor yX6_newYearWeekday.desc).map (fun d => d.parameters.length) = some 1 := by decide +kernel
theorem hd_X6_nextAlike : yX6_nextAlike.cls ≠ "java/lang/invoke/MethodHandle" ∧ yX6_nextAlike.cls ≠ "java/lang/invoke/VarHandle" ∧ (parseMethodDescriptor yX6_nextAlike.desc).map (fun d => d.parameters.length) = some 1 := by decide +kernel
theorem hd_X6_numberOf : yX6_numberOf.cls ≠ "java/lang/invoke/MethodHandle" ∧ yX6_numberOf.cls ≠ "java/lang/invoke/VarHandle" ∧ (parseMethodDescriptor yX6_numberOf.desc).map (fun d => d.parameters.length) = some 1 := by decide +kernel
theorem hd_X6_outermost : yX6_outermost.cls ≠ "java/lang/invoke/MethodHandle" ∧ yX6_outermost.cls ≠ "java/lang/invoke/VarHandle" ∧ (parseMethodDescriptor yX6_outermost.desc).map (fun d => d.parameters.length) = some 4 := by decide +kernel
theorem hd_X6_signsReadWell : yX6_signsReadWell.cls ≠ "java/lang/invoke/MethodHandle" ∧ yX6_signsReadWell.cls ≠ "java/lang/invoke/VarHandle" ∧ (parseMethodDescriptor yX6_signsReadWell.desc).map (fun d => d.parameters.length) = some 0 := by decide +kernel
theorem hd_X6_staleFeasts : yX6_staleFeasts.cls ≠ "java/lang/invoke/MethodHandle" ∧ yX6_staleFeasts.cls ≠ "java/lang/invoke/VarHandle" ∧ (parseMethodDescriptor yX6_staleFeasts.desc).map (fun d => d.parameters.length) = some 2 := by decide +kernel
theorem hd_X6_stickProperty : yX6_stickProperty.cls ≠ "java/lang/invoke/MethodHandle" ∧ yX6_stickProperty.cls ≠ "java/lang/invoke/VarHandle" ∧ (parseMethodDescriptor yX6_stickProperty.desc).map (fun d => d.parameters.length) = some 2 := by decide +kernel
theorem hd_X7_aboutDay : yX7_aboutDay.cls ≠ "java/lang/invoke/MethodHandle" ∧ yX7_aboutDay.cls ≠ "java/lang/invoke/VarHandle" ∧ (parseMethodDescriptor yX7_aboutDay.desc).map (fun d => d.parameters.length) = some 3 := by decide +kernel
theorem hd_X7_aboutStick : yX7_aboutStick.cls ≠ "java/lang/invoke/MethodHandle" ∧ yX7_aboutStick.cls ≠ "java/lang/invoke/VarHandle" ∧ (parseMethodDescriptor yX7_aboutStick.desc).map (fun d => d.parameters.length) = some 2 := by decide +kernel
theorem hd_X7_adds : yX7_adds.cls ≠ "java/lang/invoke/MethodHandle" ∧ yX7_adds.cls ≠ "java/lang/invoke/VarHandle" ∧ (parseMethodDescriptor yX7_adds.desc).map (fun d => d.parameters.length) = some 0 := by decide +kernel
theorem hd_X7_age : yX7_age.cls ≠ "java/lang/invoke/MethodHandle" ∧ yX7_age.cls ≠ "java/lang/invoke/VarHandle" ∧ (parseMethodDescriptor yX7_age.desc).map (fun d => d.parameters.length) = some 3 := by decide +kernel
theorem hd_X7_allStale : yX7_allStale.cls ≠ "java/lang/invoke/MethodHandle" ∧ yX7_allStale.cls ≠ "java/lang/invoke/VarHandle" ∧ (parseMethodDescriptor yX7_allStale.desc).map (fun d => d.parameters.length) = some 0 := by decide +kernel
theorem hd_X7_bestSlip : yX7_bestSlip.cls ≠ "java/lang/invoke/MethodHandle" ∧ yX7_bestSlip.cls ≠ "java/lang/invoke/VarHandle" ∧ (parseMethodDescriptor yX7_bestSlip.desc).map (fun d => d.parameters.length) = some 2 := by decide +kernel
theorem hd_X7_bitsOf : yX7_bitsOf.cls ≠ "java/lang/invoke/MethodHandle" ∧ yX7_bitsOf.cls ≠ "java/lang/invoke/VarHandle" ∧ (parseMethodDescriptor yX7_bitsOf.desc).map (fun d => d.parameters.length) = some 1 := by decide +kernel
theorem hd_X7_counted : yX7_counted.cls ≠ "java/lang/invoke/MethodHandle" ∧ yX7_counted.cls ≠ "java/lang/invoke/VarHandle" ∧ (parseMethodDescriptor yX7_counted.desc).map (fun d => d.parameters.length) = some 1 := by decide +kernel
theorem hd_X7_dayOf : yX7_dayOf.cls ≠ "java/lang/invoke/MethodHandle" ∧ yX7_dayOf.cls ≠ "java/lang/invoke/VarHandle" ∧ (parseMethodDescriptor yX7_dayOf.desc).map (fun d => d.parameters.length) = some 4 := by decide +kernel
theorem hd_X7_daysOf : yX7_daysOf.cls ≠ "java/lang/invoke/MethodHandle" ∧ yX7_daysOf.cls ≠ "java/lang/invoke/VarHandle" ∧ (parseMethodDescriptor yX7_daysOf.desc).map (fun d => d.parameters.length) = some 1 := by decide +kernel
theorem hd_X7_digestFeast : yX7_digestFeast.cls ≠ "java/lang/invoke/MethodHandle" ∧ yX7_digestFeast.cls ≠ "java/lang/invoke/VarHandle" ∧ (parseMethodDescriptor yX7_digestFeast.desc).map (fun d => d.parameters.length) = some 1 := by decide +kernel
theorem hd_X7_digestOne : yX7_digestOne.cls ≠ "java/lang/invoke/MethodHandle" ∧ yX7_digestOne.cls ≠ "java/lang/invoke/VarHandle" ∧ (parseMethodDescriptor yX7_digestOne.desc).map (fun d => d.parameters.length) = some 1 := by decide +kernel
theorem hd_X7_feastOn : yX7_feastOn.cls ≠ "java/lang/invoke/MethodHandle" ∧ yX7_feastOn.cls ≠ "java/lang/invoke/VarHandle" ∧ (parseMethodDescriptor yX7_feastOn.desc).map (fun d => d.parameters.length) = some 2 := by decide +kernel
theorem hd_X7_findProper : yX7_findProper.cls ≠ "java/lang/invoke/MethodHandle" ∧ yX7_findProper.cls ≠ "java/lang/invoke/VarHandle" ∧ (parseMethodDescriptor yX7_findProper.desc).map (fun d => d.parameters.length) = some 2 := by decide +kernel
theorem hd_X7_firstFull : yX7_firstFull.cls ≠ "java/lang/invoke/MethodHandle" ∧ yX7_firstFull.cls ≠ "java/lang/invoke/VarHandle" ∧ (parseMethodDescriptor yX7_firstFull.desc).map (fun d => d.parameters.length) = some 3 := by decide +kernel
theorem hd_X7_firstWeekday : yX7_firstWeekday.cls ≠ "java/lang/invoke/MethodHandle" ∧ yX7_firstWeekday.cls ≠ "java/lang/invoke/VarHandle" ∧ (parseMethodDescriptor yX7_firstWeekday.desc).map (fun d => d.parameters.length) = some 3 := by decide +kernel
theorem hd_X7_fresh : yX7_fresh.cls ≠ "java/lang/invoke/MethodHandle" ∧ yX7_fresh.cls ≠ "java/lang/invoke/VarHandle" ∧ (parseMethodDescriptor yX7_fresh.desc).map (fun d => d.parameters.length) = some 0 := by decide +kernel
theorem hd_X7_go : yX7_go.cls ≠ "java/lang/invoke/MethodHandle" ∧ yX7_go.cls ≠ "java/lang/invoke/VarHandle" ∧ (parseMethodDescriptor yX7_go.desc).map (fun d => d.parameters.length) = some 1 := by decide +kernel
theorem hd_X7_holds : yX7_holds.cls ≠ "java/lang/invoke/MethodHandle" ∧ yX7_holds.cls ≠ "java/lang/invoke/VarHandle" ∧ (parseMethodDescriptor yX7_holds.desc).map (fun d => d.parameters.length) = some 1 := by decide +kernel
theorem hd_X7_in : yX7_in.cls ≠ "java/lang/invoke/MethodHandle" ∧ yX7_in.cls ≠ "java/lang/invoke/VarHandle" ∧ (parseMethodDescriptor yX7_in.desc).map (fun d => d.parameters.length) = some 3 := by decide +kernel
theorem hd_X7_isCarver : yX7_isCarver.cls ≠ "java/lang/invoke/MethodHandle" ∧ yX7_isCarver.cls ≠ "java/lang/invoke/VarHandle" ∧ (parseMethodDescriptor yX7_isCarver.desc).map (fun d => d.parameters.length) = some 1 := by decide +kernel
theorem hd_X7_isFeast : yX7_isFeast.cls ≠ "java/lang/invoke/MethodHandle" ∧ yX7_isFeast.cls ≠ "java/lang/invoke/VarHandle" ∧ (parseMethodDescriptor yX7_isFeast.desc).map (fun d => d.parameters.length) = some 1 := by decide +kernel
theorem hd_X7_isNext : yX7_isNext.cls ≠ "java/lang/invoke/MethodHandle" ∧ yX7_isNext.cls ≠ "java/lang/invoke/VarHandle" ∧ (parseMethodDescriptor yX7_isNext.desc).map (fun d => d.parameters.length) = some 1 := by decide +kernel
theorem hd_X7_isStick : yX7_isStick.cls ≠ "java/lang/invoke/MethodHandle" ∧ yX7_isStick.cls ≠ "java/lang/invoke/VarHandle" ∧ (parseMethodDescriptor yX7_isStick.desc).map (fun d => d.parameters.length) = some 1 := by decide +kernel
theorem hd_X7_isYear : yX7_isYear.cls ≠ "java/lang/invoke/MethodHandle" ∧ yX7_isYear.cls ≠ "java/lang/invoke/VarHandle" ∧ (parseMethodDescriptor yX7_isYear.desc).map (fun d => d.parameters.length) = some 1 := by decide +kernel
theorem hd_X7_lay : yX7_lay.cls ≠ "java/lang/invoke/MethodHandle" ∧ yX7_lay.cls ≠ "java/lang/invoke/VarHandle" ∧ (parseMethodDescriptor yX7_lay.desc).map (fun d => d.parameters.length) = some 2 := by decide +kernel
theorem hd_X7_layAll : yX7_layAll.cls ≠ "java/lang/invoke/MethodHandle" ∧ yX7_layAll.cls ≠ "java/lang/invoke/VarHandle" ∧ (parseMethodDescriptor yX7_layAll.desc).map (fun d => d.parameters.length) = some 1 := by decide +kernel
theorem hd_X7_movedBy : yX7_movedBy.cls ≠ "java/lang/invoke/MethodHandle" ∧ yX7_movedBy.cls ≠ "java/lang/invoke/VarHandle" ∧ (parseMethodDescriptor yX7_movedBy.desc).map (fun d => d.parameters.length) = some 2 := by decide +kernel
theorem hd_X7_nextAlike : yX7_nextAlike.cls ≠ "java/lang/invoke/MethodHandle" ∧ yX7_nextAlike.cls ≠ "java/lang/invoke/VarHandle" ∧ (parseMethodDescriptor yX7_nextAlike.desc).map (fun d => d.parameters.length) = some 1 := by decide +kernel
theorem hd_X7_number : yX7_number.cls ≠ "java/lang/invoke/MethodHandle" ∧ yX7_number.cls ≠ "java/lang/invoke/VarHandle" ∧ (parseMethodDescriptor yX7_number.desc).map (fun d => d.parameters.length) = some 1 := by decide +kernel
theorem hd_X7_of : yX7_of.cls ≠ "java/lang/invoke/MethodHandle" ∧ yX7_of.cls ≠ "java/lang/invoke/VarHandle" ∧ (parseMethodDescriptor yX7_of.desc).map (fun d => d.parameters.length) = some 2 := by decide +kernel
theorem hd_X7_ofFeast : yX7_ofFeast.cls ≠ "java/lang/invoke/MethodHandle" ∧ yX7_ofFeast.cls ≠ "java/lang/invoke/VarHandle" ∧ (parseMethodDescriptor yX7_ofFeast.desc).map (fun d => d.parameters.length) = some 2 := by decide +kernel
theorem hd_X7_ofStick : yX7_ofStick.cls ≠ "java/lang/invoke/MethodHandle" ∧ yX7_ofStick.cls ≠ "java/lang/invoke/VarHandle" ∧ (parseMethodDescriptor yX7_ofStick.desc).map (fun d => d.parameters.length) = some 2 := by decide +kernel
theorem hd_X7_outermost : yX7_outermost.cls ≠ "java/lang/invoke/MethodHandle" ∧ yX7_outermost.cls ≠ "java/lang/invoke/VarHandle" ∧ (parseMethodDescriptor yX7_outermost.desc).map (fun d => d.parameters.length) = some 4 := by decide +kernel
theorem hd_X7_puts : yX7_puts.cls ≠ "java/lang/invoke/MethodHandle" ∧ yX7_puts.cls ≠ "java/lang/invoke/VarHandle" ∧ (parseMethodDescriptor yX7_puts.desc).map (fun d => d.parameters.length) = some 2 := by decide +kernel
theorem hd_X7_quarrelsNow : yX7_quarrelsNow.cls ≠ "java/lang/invoke/MethodHandle" ∧ yX7_quarrelsNow.cls ≠ "java/lang/invoke/VarHandle" ∧ (parseMethodDescriptor yX7_quarrelsNow.desc).map (fun d => d.parameters.length) = some 0 := by decide +kernel
theorem hd_X7_quarrelsOf : yX7_quarrelsOf.cls ≠ "java/lang/invoke/MethodHandle" ∧ yX7_quarrelsOf.cls ≠ "java/lang/invoke/VarHandle" ∧ (parseMethodDescriptor yX7_quarrelsOf.desc).map (fun d => d.parameters.length) = some 1 := by decide +kernel
theorem hd_X7_read : yX7_read.cls ≠ "java/lang/invoke/MethodHandle" ∧ yX7_read.cls ≠ "java/lang/invoke/VarHandle" ∧ (parseMethodDescriptor yX7_read.desc).map (fun d => d.parameters.length) = some 0 := by decide +kernel
theorem hd_X7_save : yX7_save.cls ≠ "java/lang/invoke/MethodHandle" ∧ yX7_save.cls ≠ "java/lang/invoke/VarHandle" ∧ (parseMethodDescriptor yX7_save.desc).map (fun d => d.parameters.length) = some 0 := by decide +kernel
theorem hd_X7_settledBy : yX7_settledBy.cls ≠ "java/lang/invoke/MethodHandle" ∧ yX7_settledBy.cls ≠ "java/lang/invoke/VarHandle" ∧ (parseMethodDescriptor yX7_settledBy.desc).map (fun d => d.parameters.length) = some 1 := by decide +kernel
theorem hd_X7_settledOf : yX7_settledOf.cls ≠ "java/lang/invoke/MethodHandle" ∧ yX7_settledOf.cls ≠ "java/lang/invoke/VarHandle" ∧ (parseMethodDescriptor yX7_settledOf.desc).map (fun d => d.parameters.length) = some 2 := by decide +kernel
theorem hd_X7_sign : yX7_sign.cls ≠ "java/lang/invoke/MethodHandle" ∧ yX7_sign.cls ≠ "java/lang/invoke/VarHandle" ∧ (parseMethodDescriptor yX7_sign.desc).map (fun d => d.parameters.length) = some 2 := by decide +kernel
theorem hd_X7_size : yX7_size.cls ≠ "java/lang/invoke/MethodHandle" ∧ yX7_size.cls ≠ "java/lang/invoke/VarHandle" ∧ (parseMethodDescriptor yX7_size.desc).map (fun d => d.parameters.length) = some 1 := by decide +kernel
theorem hd_X7_someYear : yX7_someYear.cls ≠ "java/lang/invoke/MethodHandle" ∧ yX7_someYear.cls ≠ "java/lang/invoke/VarHandle" ∧ (parseMethodDescriptor yX7_someYear.desc).map (fun d => d.parameters.length) = some 1 := by decide +kernel
theorem hd_X7_staleOf : yX7_staleOf.cls ≠ "java/lang/invoke/MethodHandle" ∧ yX7_staleOf.cls ≠ "java/lang/invoke/VarHandle" ∧ (parseMethodDescriptor yX7_staleOf.desc).map (fun d => d.parameters.length) = some 1 := by decide +kernel
theorem hd_X7_weekday : yX7_weekday.cls ≠ "java/lang/invoke/MethodHandle" ∧ yX7_weekday.cls ≠ "java/lang/invoke/VarHandle" ∧ (parseMethodDescriptor yX7_weekday.desc).map (fun d => d.parameters.length) = some 2 := by decide +kernel
