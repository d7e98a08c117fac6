theorem ti_L : Cond.initialized RL ∈ TG := TG_in (List.mem_append_right _ (List.mem_of_getElem? (i := 0) (by decide +kernel))) (by decide +kernel)
theorem tw_1004 : Cond.methodLink RL 140 yX7_settled ∈ TG := TG_in (List.mem_append_right _ (List.mem_of_getElem? (i := 1004) (by decide +kernel))) (by decide +kernel)
theorem tw_1005 : Cond.instanceMethod yX7_settled ∈ TG := TG_in (List.mem_append_right _ (List.mem_of_getElem? (i := 1005) (by decide +kernel))) (by decide +kernel)
theorem tw_1006 : Cond.selects yX7_settled.cls yX7_settled yX7_settled ∈ TG := TG_in (List.mem_append_right _ (List.mem_of_getElem? (i := 1006) (by decide +kernel))) (by decide +kernel)
theorem tw_1007 : Cond.code yX7_settled cX7_settled 3 (some .int) ∈ TG := TG_in (List.mem_append_right _ (List.mem_of_getElem? (i := 1007) (by decide +kernel))) (by decide +kernel)
theorem tw_1012 : Cond.methodLink RL 143 yX7_quarrels ∈ TG := TG_in (List.mem_append_right _ (List.mem_of_getElem? (i := 1012) (by decide +kernel))) (by decide +kernel)
theorem tw_1013 : Cond.instanceMethod yX7_quarrels ∈ TG := TG_in (List.mem_append_right _ (List.mem_of_getElem? (i := 1013) (by decide +kernel))) (by decide +kernel)
theorem tw_1014 : Cond.selects yX7_quarrels.cls yX7_quarrels yX7_quarrels ∈ TG := TG_in (List.mem_append_right _ (List.mem_of_getElem? (i := 1014) (by decide +kernel))) (by decide +kernel)
theorem tw_1015 : Cond.code yX7_quarrels cX7_quarrels 2 (some .int) ∈ TG := TG_in (List.mem_append_right _ (List.mem_of_getElem? (i := 1015) (by decide +kernel))) (by decide +kernel)
theorem tw_1024 : Cond.methodLink RL 146 yX7_stick ∈ TG := TG_in (List.mem_append_right _ (List.mem_of_getElem? (i := 1024) (by decide +kernel))) (by decide +kernel)
theorem tw_1025 : Cond.instanceMethod yX7_stick ∈ TG := TG_in (List.mem_append_right _ (List.mem_of_getElem? (i := 1025) (by decide +kernel))) (by decide +kernel)
theorem tw_1026 : Cond.selects yX7_stick.cls yX7_stick yX7_stick ∈ TG := TG_in (List.mem_append_right _ (List.mem_of_getElem? (i := 1026) (by decide +kernel))) (by decide +kernel)
theorem tw_1027 : Cond.code yX7_stick cX7_stick 3 (some .int) ∈ TG := TG_in (List.mem_append_right _ (List.mem_of_getElem? (i := 1027) (by decide +kernel))) (by decide +kernel)
theorem tw_1036 : Cond.methodLink RL 149 yX7_count ∈ TG := TG_in (List.mem_append_right _ (List.mem_of_getElem? (i := 1036) (by decide +kernel))) (by decide +kernel)
theorem tw_1037 : Cond.instanceMethod yX7_count ∈ TG := TG_in (List.mem_append_right _ (List.mem_of_getElem? (i := 1037) (by decide +kernel))) (by decide +kernel)
theorem tw_1038 : Cond.selects yX7_count.cls yX7_count yX7_count ∈ TG := TG_in (List.mem_append_right _ (List.mem_of_getElem? (i := 1038) (by decide +kernel))) (by decide +kernel)
theorem tw_1039 : Cond.code yX7_count cX7_count 2 (some .int) ∈ TG := TG_in (List.mem_append_right _ (List.mem_of_getElem? (i := 1039) (by decide +kernel))) (by decide +kernel)
theorem tw_1048 : Cond.methodLink RL 152 yX7_range ∈ TG := TG_in (List.mem_append_right _ (List.mem_of_getElem? (i := 1048) (by decide +kernel))) (by decide +kernel)
theorem tw_1049 : Cond.instanceMethod yX7_range ∈ TG := TG_in (List.mem_append_right _ (List.mem_of_getElem? (i := 1049) (by decide +kernel))) (by decide +kernel)
theorem tw_1050 : Cond.selects yX7_range.cls yX7_range yX7_range ∈ TG := TG_in (List.mem_append_right _ (List.mem_of_getElem? (i := 1050) (by decide +kernel))) (by decide +kernel)
theorem tw_1051 : Cond.code yX7_range cX7_range 6 (some .int) ∈ TG := TG_in (List.mem_append_right _ (List.mem_of_getElem? (i := 1051) (by decide +kernel))) (by decide +kernel)
theorem tw_1056 : Cond.methodLink RL 155 yX7_alike ∈ TG := TG_in (List.mem_append_right _ (List.mem_of_getElem? (i := 1056) (by decide +kernel))) (by decide +kernel)
theorem tw_1057 : Cond.instanceMethod yX7_alike ∈ TG := TG_in (List.mem_append_right _ (List.mem_of_getElem? (i := 1057) (by decide +kernel))) (by decide +kernel)
theorem tw_1058 : Cond.selects yX7_alike.cls yX7_alike yX7_alike ∈ TG := TG_in (List.mem_append_right _ (List.mem_of_getElem? (i := 1058) (by decide +kernel))) (by decide +kernel)
theorem tw_1059 : Cond.code yX7_alike cX7_alike 2 (some .int) ∈ TG := TG_in (List.mem_append_right _ (List.mem_of_getElem? (i := 1059) (by decide +kernel))) (by decide +kernel)
theorem tw_1064 : Cond.methodLink RL 158 yX7_peace ∈ TG := TG_in (List.mem_append_right _ (List.mem_of_getElem? (i := 1064) (by decide +kernel))) (by decide +kernel)
theorem tw_1065 : Cond.instanceMethod yX7_peace ∈ TG := TG_in (List.mem_append_right _ (List.mem_of_getElem? (i := 1065) (by decide +kernel))) (by decide +kernel)
theorem tw_1066 : Cond.selects yX7_peace.cls yX7_peace yX7_peace ∈ TG := TG_in (List.mem_append_right _ (List.mem_of_getElem? (i := 1066) (by decide +kernel))) (by decide +kernel)
theorem tw_1067 : Cond.code yX7_peace cX7_peace 3 (some .int) ∈ TG := TG_in (List.mem_append_right _ (List.mem_of_getElem? (i := 1067) (by decide +kernel))) (by decide +kernel)
theorem tw_1075 : Cond.methodLink RL 161 yX7_moved ∈ TG := TG_in (List.mem_append_right _ (List.mem_of_getElem? (i := 1075) (by decide +kernel))) (by decide +kernel)
theorem tw_1076 : Cond.instanceMethod yX7_moved ∈ TG := TG_in (List.mem_append_right _ (List.mem_of_getElem? (i := 1076) (by decide +kernel))) (by decide +kernel)
theorem tw_1077 : Cond.selects yX7_moved.cls yX7_moved yX7_moved ∈ TG := TG_in (List.mem_append_right _ (List.mem_of_getElem? (i := 1077) (by decide +kernel))) (by decide +kernel)
theorem tw_1078 : Cond.code yX7_moved cX7_moved 3 (some .int) ∈ TG := TG_in (List.mem_append_right _ (List.mem_of_getElem? (i := 1078) (by decide +kernel))) (by decide +kernel)
theorem tw_1083 : Cond.methodLink RL 166 yX7_freshShare ∈ TG := TG_in (List.mem_append_right _ (List.mem_of_getElem? (i := 1083) (by decide +kernel))) (by decide +kernel)
theorem tw_1084 : Cond.instanceMethod yX7_freshShare ∈ TG := TG_in (List.mem_append_right _ (List.mem_of_getElem? (i := 1084) (by decide +kernel))) (by decide +kernel)
theorem tw_1085 : Cond.selects yX7_freshShare.cls yX7_freshShare yX7_freshShare ∈ TG := TG_in (List.mem_append_right _ (List.mem_of_getElem? (i := 1085) (by decide +kernel))) (by decide +kernel)
theorem tw_1086 : Cond.code yX7_freshShare cX7_freshShare 1 (some .double) ∈ TG := TG_in (List.mem_append_right _ (List.mem_of_getElem? (i := 1086) (by decide +kernel))) (by decide +kernel)
theorem tw_1091 : Cond.methodLink RL 171 yX7_digest ∈ TG := TG_in (List.mem_append_right _ (List.mem_of_getElem? (i := 1091) (by decide +kernel))) (by decide +kernel)
theorem tw_1092 : Cond.instanceMethod yX7_digest ∈ TG := TG_in (List.mem_append_right _ (List.mem_of_getElem? (i := 1092) (by decide +kernel))) (by decide +kernel)
theorem tw_1093 : Cond.selects yX7_digest.cls yX7_digest yX7_digest ∈ TG := TG_in (List.mem_append_right _ (List.mem_of_getElem? (i := 1093) (by decide +kernel))) (by decide +kernel)
theorem tw_1094 : Cond.code yX7_digest cX7_digest 3 (some .long) ∈ TG := TG_in (List.mem_append_right _ (List.mem_of_getElem? (i := 1094) (by decide +kernel))) (by decide +kernel)
theorem tw_224 : Cond.methodLink RL 116 yX6_clearBuffer ∈ TG := TG_in (List.mem_append_right _ (List.mem_of_getElem? (i := 224) (by decide +kernel))) (by decide +kernel)
theorem tw_225 : Cond.instanceMethod yX6_clearBuffer ∈ TG := TG_in (List.mem_append_right _ (List.mem_of_getElem? (i := 225) (by decide +kernel))) (by decide +kernel)
theorem tw_226 : Cond.selects yX6_clearBuffer.cls yX6_clearBuffer yX6_clearBuffer ∈ TG := TG_in (List.mem_append_right _ (List.mem_of_getElem? (i := 226) (by decide +kernel))) (by decide +kernel)
theorem tw_227 : Cond.code yX6_clearBuffer cX6_clearBuffer 2 (some .int) ∈ TG := TG_in (List.mem_append_right _ (List.mem_of_getElem? (i := 227) (by decide +kernel))) (by decide +kernel)
theorem tw_228 : Cond.methodLink RL 120 yX6_firstError ∈ TG := TG_in (List.mem_append_right _ (List.mem_of_getElem? (i := 228) (by decide +kernel))) (by decide +kernel)
theorem tw_229 : Cond.instanceMethod yX6_firstError ∈ TG := TG_in (List.mem_append_right _ (List.mem_of_getElem? (i := 229) (by decide +kernel))) (by decide +kernel)
theorem tw_230 : Cond.selects yX6_firstError.cls yX6_firstError yX6_firstError ∈ TG := TG_in (List.mem_append_right _ (List.mem_of_getElem? (i := 230) (by decide +kernel))) (by decide +kernel)
theorem tw_231 : Cond.code yX6_firstError cX6_firstError 1 (some .int) ∈ TG := TG_in (List.mem_append_right _ (List.mem_of_getElem? (i := 231) (by decide +kernel))) (by decide +kernel)
theorem tw_292 : Cond.methodLink RL 162 yX6_freshShare ∈ TG := TG_in (List.mem_append_right _ (List.mem_of_getElem? (i := 292) (by decide +kernel))) (by decide +kernel)
theorem tw_293 : Cond.instanceMethod yX6_freshShare ∈ TG := TG_in (List.mem_append_right _ (List.mem_of_getElem? (i := 293) (by decide +kernel))) (by decide +kernel)
theorem tw_294 : Cond.selects yX6_freshShare.cls yX6_freshShare yX6_freshShare ∈ TG := TG_in (List.mem_append_right _ (List.mem_of_getElem? (i := 294) (by decide +kernel))) (by decide +kernel)
theorem tw_295 : Cond.code yX6_freshShare cX6_freshShare 1 (some .double) ∈ TG := TG_in (List.mem_append_right _ (List.mem_of_getElem? (i := 295) (by decide +kernel))) (by decide +kernel)
theorem tw_361 : Cond.methodLink RL 167 yX6_digest ∈ TG := TG_in (List.mem_append_right _ (List.mem_of_getElem? (i := 361) (by decide +kernel))) (by decide +kernel)
theorem tw_362 : Cond.instanceMethod yX6_digest ∈ TG := TG_in (List.mem_append_right _ (List.mem_of_getElem? (i := 362) (by decide +kernel))) (by decide +kernel)
theorem tw_363 : Cond.selects yX6_digest.cls yX6_digest yX6_digest ∈ TG := TG_in (List.mem_append_right _ (List.mem_of_getElem? (i := 363) (by decide +kernel))) (by decide +kernel)
theorem tw_364 : Cond.code yX6_digest cX6_digest 5 (some .long) ∈ TG := TG_in (List.mem_append_right _ (List.mem_of_getElem? (i := 364) (by decide +kernel))) (by decide +kernel)
theorem tw_454 : Cond.methodLink RL 84 yL_proclaim ∈ TG := TG_in (List.mem_append_right _ (List.mem_of_getElem? (i := 454) (by decide +kernel))) (by decide +kernel)
theorem tw_455 : Cond.static yL_proclaim ∈ TG := TG_in (List.mem_append_right _ (List.mem_of_getElem? (i := 455) (by decide +kernel))) (by decide +kernel)
theorem tw_456 : Cond.codeWith yL_proclaim cL_proclaim 3 (some .int)  [((0), (8), (11), (13))] ∈ TG := TG_in (List.mem_append_right _ (List.mem_of_getElem? (i := 456) (by decide +kernel))) (by decide +kernel)
theorem tw_568 : Cond.methodLink RL 93 yL_forget ∈ TG := TG_in (List.mem_append_right _ (List.mem_of_getElem? (i := 568) (by decide +kernel))) (by decide +kernel)
theorem tw_569 : Cond.static yL_forget ∈ TG := TG_in (List.mem_append_right _ (List.mem_of_getElem? (i := 569) (by decide +kernel))) (by decide +kernel)
theorem tw_570 : Cond.codeWith yL_forget cL_forget 3 (some .int)  [((0), (8), (11), (18))] ∈ TG := TG_in (List.mem_append_right _ (List.mem_of_getElem? (i := 570) (by decide +kernel))) (by decide +kernel)
theorem tw_592 : Cond.methodLink RL 96 yL_rank ∈ TG := TG_in (List.mem_append_right _ (List.mem_of_getElem? (i := 592) (by decide +kernel))) (by decide +kernel)
theorem tw_593 : Cond.static yL_rank ∈ TG := TG_in (List.mem_append_right _ (List.mem_of_getElem? (i := 593) (by decide +kernel))) (by decide +kernel)
theorem tw_594 : Cond.codeWith yL_rank cL_rank 5 (some .int)  [((0), (10), (13), (24)), ((0), (10), (17), (13))] ∈ TG := TG_in (List.mem_append_right _ (List.mem_of_getElem? (i := 594) (by decide +kernel))) (by decide +kernel)
theorem tw_625 : Cond.methodLink RL 100 yL_teach ∈ TG := TG_in (List.mem_append_right _ (List.mem_of_getElem? (i := 625) (by decide +kernel))) (by decide +kernel)
theorem tw_626 : Cond.static yL_teach ∈ TG := TG_in (List.mem_append_right _ (List.mem_of_getElem? (i := 626) (by decide +kernel))) (by decide +kernel)
theorem tw_627 : Cond.codeWith yL_teach cL_teach 5 (some .int)  [((0), (10), (13), (13))] ∈ TG := TG_in (List.mem_append_right _ (List.mem_of_getElem? (i := 627) (by decide +kernel))) (by decide +kernel)
theorem tw_635 : Cond.methodLink RL 103 yL_carve ∈ TG := TG_in (List.mem_append_right _ (List.mem_of_getElem? (i := 635) (by decide +kernel))) (by decide +kernel)
theorem tw_636 : Cond.static yL_carve ∈ TG := TG_in (List.mem_append_right _ (List.mem_of_getElem? (i := 636) (by decide +kernel))) (by decide +kernel)
theorem tw_637 : Cond.codeWith yL_carve cL_carve 5 (some .int)  [((0), (10), (13), (13))] ∈ TG := TG_in (List.mem_append_right _ (List.mem_of_getElem? (i := 637) (by decide +kernel))) (by decide +kernel)
theorem tw_653 : Cond.methodLink RL 106 yL_burn ∈ TG := TG_in (List.mem_append_right _ (List.mem_of_getElem? (i := 653) (by decide +kernel))) (by decide +kernel)
theorem tw_654 : Cond.static yL_burn ∈ TG := TG_in (List.mem_append_right _ (List.mem_of_getElem? (i := 654) (by decide +kernel))) (by decide +kernel)
theorem tw_655 : Cond.codeWith yL_burn cL_burn 4 (some .int)  [((0), (9), (12), (24))] ∈ TG := TG_in (List.mem_append_right _ (List.mem_of_getElem? (i := 655) (by decide +kernel))) (by decide +kernel)
theorem tw_669 : Cond.methodLink RL 110 yL_set ∈ TG := TG_in (List.mem_append_right _ (List.mem_of_getElem? (i := 669) (by decide +kernel))) (by decide +kernel)
theorem tw_670 : Cond.static yL_set ∈ TG := TG_in (List.mem_append_right _ (List.mem_of_getElem? (i := 670) (by decide +kernel))) (by decide +kernel)
theorem tw_671 : Cond.codeWith yL_set cL_set 4 (some .int)  [((0), (9), (12), (13))] ∈ TG := TG_in (List.mem_append_right _ (List.mem_of_getElem? (i := 671) (by decide +kernel))) (by decide +kernel)
theorem tw_676 : Cond.methodLink RL 113 yL_append ∈ TG := TG_in (List.mem_append_right _ (List.mem_of_getElem? (i := 676) (by decide +kernel))) (by decide +kernel)
theorem tw_677 : Cond.static yL_append ∈ TG := TG_in (List.mem_append_right _ (List.mem_of_getElem? (i := 677) (by decide +kernel))) (by decide +kernel)
theorem tw_678 : Cond.codeWith yL_append cL_append 4 (some .int)  [((0), (9), (12), (13)), ((0), (9), (15), (18))] ∈ TG := TG_in (List.mem_append_right _ (List.mem_of_getElem? (i := 678) (by decide +kernel))) (by decide +kernel)
theorem tw_684 : Cond.methodLink RL 124 yL_undo ∈ TG := TG_in (List.mem_append_right _ (List.mem_of_getElem? (i := 684) (by decide +kernel))) (by decide +kernel)
theorem tw_685 : Cond.static yL_undo ∈ TG := TG_in (List.mem_append_right _ (List.mem_of_getElem? (i := 685) (by decide +kernel))) (by decide +kernel)
theorem tw_686 : Cond.codeWith yL_undo cL_undo 3 (some .int)  [((0), (8), (11), (18))] ∈ TG := TG_in (List.mem_append_right _ (List.mem_of_getElem? (i := 686) (by decide +kernel))) (by decide +kernel)
theorem tw_700 : Cond.methodLink RL 127 yL_day ∈ TG := TG_in (List.mem_append_right _ (List.mem_of_getElem? (i := 700) (by decide +kernel))) (by decide +kernel)
theorem tw_701 : Cond.static yL_day ∈ TG := TG_in (List.mem_append_right _ (List.mem_of_getElem? (i := 701) (by decide +kernel))) (by decide +kernel)
theorem tw_702 : Cond.codeWith yL_day cL_day 6 (some .int)  [((0), (12), (15), (13))] ∈ TG := TG_in (List.mem_append_right _ (List.mem_of_getElem? (i := 702) (by decide +kernel))) (by decide +kernel)
theorem tw_713 : Cond.methodLink RL 131 yL_feast ∈ TG := TG_in (List.mem_append_right _ (List.mem_of_getElem? (i := 713) (by decide +kernel))) (by decide +kernel)
theorem tw_714 : Cond.static yL_feast ∈ TG := TG_in (List.mem_append_right _ (List.mem_of_getElem? (i := 714) (by decide +kernel))) (by decide +kernel)
theorem tw_715 : Cond.codeWith yL_feast cL_feast 5 (some .int)  [((0), (10), (13), (24)), ((0), (10), (17), (13))] ∈ TG := TG_in (List.mem_append_right _ (List.mem_of_getElem? (i := 715) (by decide +kernel))) (by decide +kernel)
theorem tw_720 : Cond.methodLink RL 134 yL_when ∈ TG := TG_in (List.mem_append_right _ (List.mem_of_getElem? (i := 720) (by decide +kernel))) (by decide +kernel)
theorem tw_721 : Cond.static yL_when ∈ TG := TG_in (List.mem_append_right _ (List.mem_of_getElem? (i := 721) (by decide +kernel))) (by decide +kernel)
theorem tw_722 : Cond.codeWith yL_when cL_when 7 (some .int)  [((0), (14), (17), (24)), ((0), (14), (21), (13))] ∈ TG := TG_in (List.mem_append_right _ (List.mem_of_getElem? (i := 722) (by decide +kernel))) (by decide +kernel)
theorem tw_727 : Cond.methodLink RL 138 yL_settled ∈ TG := TG_in (List.mem_append_right _ (List.mem_of_getElem? (i := 727) (by decide +kernel))) (by decide +kernel)
theorem tw_728 : Cond.static yL_settled ∈ TG := TG_in (List.mem_append_right _ (List.mem_of_getElem? (i := 728) (by decide +kernel))) (by decide +kernel)
theorem tw_729 : Cond.codeWith yL_settled cL_settled 5 (some .int)  [((0), (10), (13), (24)), ((0), (10), (17), (13))] ∈ TG := TG_in (List.mem_append_right _ (List.mem_of_getElem? (i := 729) (by decide +kernel))) (by decide +kernel)
theorem tw_734 : Cond.methodLink RL 141 yL_quarrels ∈ TG := TG_in (List.mem_append_right _ (List.mem_of_getElem? (i := 734) (by decide +kernel))) (by decide +kernel)
theorem tw_735 : Cond.static yL_quarrels ∈ TG := TG_in (List.mem_append_right _ (List.mem_of_getElem? (i := 735) (by decide +kernel))) (by decide +kernel)
theorem tw_736 : Cond.codeWith yL_quarrels cL_quarrels 4 (some .int)  [((0), (9), (12), (13))] ∈ TG := TG_in (List.mem_append_right _ (List.mem_of_getElem? (i := 736) (by decide +kernel))) (by decide +kernel)
theorem tw_741 : Cond.methodLink RL 144 yL_stick ∈ TG := TG_in (List.mem_append_right _ (List.mem_of_getElem? (i := 741) (by decide +kernel))) (by decide +kernel)
theorem tw_742 : Cond.static yL_stick ∈ TG := TG_in (List.mem_append_right _ (List.mem_of_getElem? (i := 742) (by decide +kernel))) (by decide +kernel)
theorem tw_743 : Cond.codeWith yL_stick cL_stick 5 (some .int)  [((0), (10), (13), (24)), ((0), (10), (17), (13))] ∈ TG := TG_in (List.mem_append_right _ (List.mem_of_getElem? (i := 743) (by decide +kernel))) (by decide +kernel)
theorem tw_748 : Cond.methodLink RL 147 yL_count ∈ TG := TG_in (List.mem_append_right _ (List.mem_of_getElem? (i := 748) (by decide +kernel))) (by decide +kernel)
theorem tw_749 : Cond.static yL_count ∈ TG := TG_in (List.mem_append_right _ (List.mem_of_getElem? (i := 749) (by decide +kernel))) (by decide +kernel)
theorem tw_750 : Cond.codeWith yL_count cL_count 4 (some .int)  [((0), (9), (12), (13))] ∈ TG := TG_in (List.mem_append_right _ (List.mem_of_getElem? (i := 750) (by decide +kernel))) (by decide +kernel)
theorem tw_755 : Cond.methodLink RL 150 yL_range ∈ TG := TG_in (List.mem_append_right _ (List.mem_of_getElem? (i := 755) (by decide +kernel))) (by decide +kernel)
theorem tw_756 : Cond.static yL_range ∈ TG := TG_in (List.mem_append_right _ (List.mem_of_getElem? (i := 756) (by decide +kernel))) (by decide +kernel)
theorem tw_757 : Cond.codeWith yL_range cL_range 7 (some .int)  [((0), (14), (17), (24)), ((0), (14), (21), (13))] ∈ TG := TG_in (List.mem_append_right _ (List.mem_of_getElem? (i := 757) (by decide +kernel))) (by decide +kernel)
theorem tw_762 : Cond.methodLink RL 153 yL_alike ∈ TG := TG_in (List.mem_append_right _ (List.mem_of_getElem? (i := 762) (by decide +kernel))) (by decide +kernel)
theorem tw_763 : Cond.static yL_alike ∈ TG := TG_in (List.mem_append_right _ (List.mem_of_getElem? (i := 763) (by decide +kernel))) (by decide +kernel)
theorem tw_764 : Cond.codeWith yL_alike cL_alike 4 (some .int)  [((0), (9), (12), (13))] ∈ TG := TG_in (List.mem_append_right _ (List.mem_of_getElem? (i := 764) (by decide +kernel))) (by decide +kernel)
theorem tw_769 : Cond.methodLink RL 156 yL_peace ∈ TG := TG_in (List.mem_append_right _ (List.mem_of_getElem? (i := 769) (by decide +kernel))) (by decide +kernel)
theorem tw_770 : Cond.static yL_peace ∈ TG := TG_in (List.mem_append_right _ (List.mem_of_getElem? (i := 770) (by decide +kernel))) (by decide +kernel)
theorem tw_771 : Cond.codeWith yL_peace cL_peace 5 (some .int)  [((0), (10), (13), (13))] ∈ TG := TG_in (List.mem_append_right _ (List.mem_of_getElem? (i := 771) (by decide +kernel))) (by decide +kernel)
theorem tw_776 : Cond.methodLink RL 159 yL_moved ∈ TG := TG_in (List.mem_append_right _ (List.mem_of_getElem? (i := 776) (by decide +kernel))) (by decide +kernel)
theorem tw_777 : Cond.static yL_moved ∈ TG := TG_in (List.mem_append_right _ (List.mem_of_getElem? (i := 777) (by decide +kernel))) (by decide +kernel)
theorem tw_778 : Cond.codeWith yL_moved cL_moved 5 (some .int)  [((0), (10), (13), (13))] ∈ TG := TG_in (List.mem_append_right _ (List.mem_of_getElem? (i := 778) (by decide +kernel))) (by decide +kernel)
theorem tw_836 : Cond.methodLink RL 90 yX7_thrown ∈ TG := TG_in (List.mem_append_right _ (List.mem_of_getElem? (i := 836) (by decide +kernel))) (by decide +kernel)
theorem tw_837 : Cond.instanceMethod yX7_thrown ∈ TG := TG_in (List.mem_append_right _ (List.mem_of_getElem? (i := 837) (by decide +kernel))) (by decide +kernel)
theorem tw_838 : Cond.selects yX7_thrown.cls yX7_thrown yX7_thrown ∈ TG := TG_in (List.mem_append_right _ (List.mem_of_getElem? (i := 838) (by decide +kernel))) (by decide +kernel)
theorem tw_839 : Cond.code yX7_thrown cX7_thrown 1 (some .int) ∈ TG := TG_in (List.mem_append_right _ (List.mem_of_getElem? (i := 839) (by decide +kernel))) (by decide +kernel)
theorem tw_840 : Cond.methodLink RL 115 yX7_append ∈ TG := TG_in (List.mem_append_right _ (List.mem_of_getElem? (i := 840) (by decide +kernel))) (by decide +kernel)
theorem tw_841 : Cond.instanceMethod yX7_append ∈ TG := TG_in (List.mem_append_right _ (List.mem_of_getElem? (i := 841) (by decide +kernel))) (by decide +kernel)
theorem tw_842 : Cond.selects yX7_append.cls yX7_append yX7_append ∈ TG := TG_in (List.mem_append_right _ (List.mem_of_getElem? (i := 842) (by decide +kernel))) (by decide +kernel)
theorem tw_843 : Cond.code yX7_append cX7_append 2 (some .int) ∈ TG := TG_in (List.mem_append_right _ (List.mem_of_getElem? (i := 843) (by decide +kernel))) (by decide +kernel)
theorem tw_851 : Cond.methodLink RL 119 yX7_clearBuffer ∈ TG := TG_in (List.mem_append_right _ (List.mem_of_getElem? (i := 851) (by decide +kernel))) (by decide +kernel)
theorem tw_852 : Cond.instanceMethod yX7_clearBuffer ∈ TG := TG_in (List.mem_append_right _ (List.mem_of_getElem? (i := 852) (by decide +kernel))) (by decide +kernel)
theorem tw_853 : Cond.selects yX7_clearBuffer.cls yX7_clearBuffer yX7_clearBuffer ∈ TG := TG_in (List.mem_append_right _ (List.mem_of_getElem? (i := 853) (by decide +kernel))) (by decide +kernel)
theorem tw_854 : Cond.code yX7_clearBuffer cX7_clearBuffer 2 (some .int) ∈ TG := TG_in (List.mem_append_right _ (List.mem_of_getElem? (i := 854) (by decide +kernel))) (by decide +kernel)
theorem tw_855 : Cond.methodLink RL 123 yX7_firstError ∈ TG := TG_in (List.mem_append_right _ (List.mem_of_getElem? (i := 855) (by decide +kernel))) (by decide +kernel)
theorem tw_856 : Cond.instanceMethod yX7_firstError ∈ TG := TG_in (List.mem_append_right _ (List.mem_of_getElem? (i := 856) (by decide +kernel))) (by decide +kernel)
theorem tw_857 : Cond.selects yX7_firstError.cls yX7_firstError yX7_firstError ∈ TG := TG_in (List.mem_append_right _ (List.mem_of_getElem? (i := 857) (by decide +kernel))) (by decide +kernel)
theorem tw_858 : Cond.code yX7_firstError cX7_firstError 2 (some .int) ∈ TG := TG_in (List.mem_append_right _ (List.mem_of_getElem? (i := 858) (by decide +kernel))) (by decide +kernel)
theorem tw_886 : Cond.methodLink RL 89 yX7_proclaim ∈ TG := TG_in (List.mem_append_right _ (List.mem_of_getElem? (i := 886) (by decide +kernel))) (by decide +kernel)
theorem tw_887 : Cond.instanceMethod yX7_proclaim ∈ TG := TG_in (List.mem_append_right _ (List.mem_of_getElem? (i := 887) (by decide +kernel))) (by decide +kernel)
theorem tw_888 : Cond.selects yX7_proclaim.cls yX7_proclaim yX7_proclaim ∈ TG := TG_in (List.mem_append_right _ (List.mem_of_getElem? (i := 888) (by decide +kernel))) (by decide +kernel)
theorem tw_889 : Cond.code yX7_proclaim cX7_proclaim 3 (some .int) ∈ TG := TG_in (List.mem_append_right _ (List.mem_of_getElem? (i := 889) (by decide +kernel))) (by decide +kernel)
theorem tw_894 : Cond.methodLink RL 95 yX7_forget ∈ TG := TG_in (List.mem_append_right _ (List.mem_of_getElem? (i := 894) (by decide +kernel))) (by decide +kernel)
theorem tw_895 : Cond.instanceMethod yX7_forget ∈ TG := TG_in (List.mem_append_right _ (List.mem_of_getElem? (i := 895) (by decide +kernel))) (by decide +kernel)
theorem tw_896 : Cond.selects yX7_forget.cls yX7_forget yX7_forget ∈ TG := TG_in (List.mem_append_right _ (List.mem_of_getElem? (i := 896) (by decide +kernel))) (by decide +kernel)
theorem tw_897 : Cond.code yX7_forget cX7_forget 1 (some .int) ∈ TG := TG_in (List.mem_append_right _ (List.mem_of_getElem? (i := 897) (by decide +kernel))) (by decide +kernel)
theorem tw_898 : Cond.methodLink RL 99 yX7_rank ∈ TG := TG_in (List.mem_append_right _ (List.mem_of_getElem? (i := 898) (by decide +kernel))) (by decide +kernel)
theorem tw_899 : Cond.instanceMethod yX7_rank ∈ TG := TG_in (List.mem_append_right _ (List.mem_of_getElem? (i := 899) (by decide +kernel))) (by decide +kernel)
theorem tw_900 : Cond.selects yX7_rank.cls yX7_rank yX7_rank ∈ TG := TG_in (List.mem_append_right _ (List.mem_of_getElem? (i := 900) (by decide +kernel))) (by decide +kernel)
theorem tw_901 : Cond.code yX7_rank cX7_rank 3 (some .int) ∈ TG := TG_in (List.mem_append_right _ (List.mem_of_getElem? (i := 901) (by decide +kernel))) (by decide +kernel)
theorem tw_910 : Cond.methodLink RL 102 yX7_teach ∈ TG := TG_in (List.mem_append_right _ (List.mem_of_getElem? (i := 910) (by decide +kernel))) (by decide +kernel)
theorem tw_911 : Cond.instanceMethod yX7_teach ∈ TG := TG_in (List.mem_append_right _ (List.mem_of_getElem? (i := 911) (by decide +kernel))) (by decide +kernel)
theorem tw_912 : Cond.selects yX7_teach.cls yX7_teach yX7_teach ∈ TG := TG_in (List.mem_append_right _ (List.mem_of_getElem? (i := 912) (by decide +kernel))) (by decide +kernel)
theorem tw_913 : Cond.code yX7_teach cX7_teach 3 (some .int) ∈ TG := TG_in (List.mem_append_right _ (List.mem_of_getElem? (i := 913) (by decide +kernel))) (by decide +kernel)
theorem tw_917 : Cond.methodLink RL 112 yX7_set ∈ TG := TG_in (List.mem_append_right _ (List.mem_of_getElem? (i := 917) (by decide +kernel))) (by decide +kernel)
theorem tw_918 : Cond.instanceMethod yX7_set ∈ TG := TG_in (List.mem_append_right _ (List.mem_of_getElem? (i := 918) (by decide +kernel))) (by decide +kernel)
theorem tw_919 : Cond.selects yX7_set.cls yX7_set yX7_set ∈ TG := TG_in (List.mem_append_right _ (List.mem_of_getElem? (i := 919) (by decide +kernel))) (by decide +kernel)
theorem tw_920 : Cond.code yX7_set cX7_set 2 (some .int) ∈ TG := TG_in (List.mem_append_right _ (List.mem_of_getElem? (i := 920) (by decide +kernel))) (by decide +kernel)
theorem tw_921 : Cond.methodLink RL 105 yX7_carve ∈ TG := TG_in (List.mem_append_right _ (List.mem_of_getElem? (i := 921) (by decide +kernel))) (by decide +kernel)
theorem tw_922 : Cond.instanceMethod yX7_carve ∈ TG := TG_in (List.mem_append_right _ (List.mem_of_getElem? (i := 922) (by decide +kernel))) (by decide +kernel)
theorem tw_923 : Cond.selects yX7_carve.cls yX7_carve yX7_carve ∈ TG := TG_in (List.mem_append_right _ (List.mem_of_getElem? (i := 923) (by decide +kernel))) (by decide +kernel)
theorem tw_924 : Cond.code yX7_carve cX7_carve 6 (some .int) ∈ TG := TG_in (List.mem_append_right _ (List.mem_of_getElem? (i := 924) (by decide +kernel))) (by decide +kernel)
theorem tw_953 : Cond.methodLink RL 109 yX7_burn ∈ TG := TG_in (List.mem_append_right _ (List.mem_of_getElem? (i := 953) (by decide +kernel))) (by decide +kernel)
theorem tw_954 : Cond.instanceMethod yX7_burn ∈ TG := TG_in (List.mem_append_right _ (List.mem_of_getElem? (i := 954) (by decide +kernel))) (by decide +kernel)
theorem tw_955 : Cond.selects yX7_burn.cls yX7_burn yX7_burn ∈ TG := TG_in (List.mem_append_right _ (List.mem_of_getElem? (i := 955) (by decide +kernel))) (by decide +kernel)
theorem tw_956 : Cond.code yX7_burn cX7_burn 4 (some .int) ∈ TG := TG_in (List.mem_append_right _ (List.mem_of_getElem? (i := 956) (by decide +kernel))) (by decide +kernel)
theorem tw_964 : Cond.methodLink RL 126 yX7_undo ∈ TG := TG_in (List.mem_append_right _ (List.mem_of_getElem? (i := 964) (by decide +kernel))) (by decide +kernel)
theorem tw_965 : Cond.instanceMethod yX7_undo ∈ TG := TG_in (List.mem_append_right _ (List.mem_of_getElem? (i := 965) (by decide +kernel))) (by decide +kernel)
theorem tw_966 : Cond.selects yX7_undo.cls yX7_undo yX7_undo ∈ TG := TG_in (List.mem_append_right _ (List.mem_of_getElem? (i := 966) (by decide +kernel))) (by decide +kernel)
theorem tw_967 : Cond.code yX7_undo cX7_undo 2 (some .int) ∈ TG := TG_in (List.mem_append_right _ (List.mem_of_getElem? (i := 967) (by decide +kernel))) (by decide +kernel)
theorem tw_968 : Cond.methodLink RL 130 yX7_day ∈ TG := TG_in (List.mem_append_right _ (List.mem_of_getElem? (i := 968) (by decide +kernel))) (by decide +kernel)
theorem tw_969 : Cond.instanceMethod yX7_day ∈ TG := TG_in (List.mem_append_right _ (List.mem_of_getElem? (i := 969) (by decide +kernel))) (by decide +kernel)
theorem tw_970 : Cond.selects yX7_day.cls yX7_day yX7_day ∈ TG := TG_in (List.mem_append_right _ (List.mem_of_getElem? (i := 970) (by decide +kernel))) (by decide +kernel)
theorem tw_971 : Cond.code yX7_day cX7_day 4 (some .int) ∈ TG := TG_in (List.mem_append_right _ (List.mem_of_getElem? (i := 971) (by decide +kernel))) (by decide +kernel)
theorem tw_988 : Cond.methodLink RL 133 yX7_feast ∈ TG := TG_in (List.mem_append_right _ (List.mem_of_getElem? (i := 988) (by decide +kernel))) (by decide +kernel)
theorem tw_989 : Cond.instanceMethod yX7_feast ∈ TG := TG_in (List.mem_append_right _ (List.mem_of_getElem? (i := 989) (by decide +kernel))) (by decide +kernel)
theorem tw_990 : Cond.selects yX7_feast.cls yX7_feast yX7_feast ∈ TG := TG_in (List.mem_append_right _ (List.mem_of_getElem? (i := 990) (by decide +kernel))) (by decide +kernel)
theorem tw_991 : Cond.code yX7_feast cX7_feast 3 (some .int) ∈ TG := TG_in (List.mem_append_right _ (List.mem_of_getElem? (i := 991) (by decide +kernel))) (by decide +kernel)
theorem tw_996 : Cond.methodLink RL 137 yX7_when ∈ TG := TG_in (List.mem_append_right _ (List.mem_of_getElem? (i := 996) (by decide +kernel))) (by decide +kernel)
theorem tw_997 : Cond.instanceMethod yX7_when ∈ TG := TG_in (List.mem_append_right _ (List.mem_of_getElem? (i := 997) (by decide +kernel))) (by decide +kernel)
theorem tw_998 : Cond.selects yX7_when.cls yX7_when yX7_when ∈ TG := TG_in (List.mem_append_right _ (List.mem_of_getElem? (i := 998) (by decide +kernel))) (by decide +kernel)
theorem tw_999 : Cond.code yX7_when cX7_when 5 (some .int) ∈ TG := TG_in (List.mem_append_right _ (List.mem_of_getElem? (i := 999) (by decide +kernel))) (by decide +kernel)
theorem aA_235 : aln 235 = 1 := by decide +kernel
theorem hd_L_alike : yL_alike.cls ≠ "java/lang/invoke/MethodHandle" ∧ yL_alike.cls ≠ "java/lang/invoke/VarHandle" ∧ (parseMethodDescriptor yL_alike.desc).map (fun d => d.parameters.length) = some 3 := by decide +kernel
theorem hd_L_append : yL_append.cls ≠ "java/lang/invoke/MethodHandle" ∧ yL_append.cls ≠ "java/lang/invoke/VarHandle" ∧ (parseMethodDescriptor yL_append.desc).map (fun d => d.parameters.length) = some 3 := by decide +kernel
theorem hd_L_burn : yL_burn.cls ≠ "java/lang/invoke/MethodHandle" ∧ yL_burn.cls ≠ "java/lang/invoke/VarHandle" ∧ (parseMethodDescriptor yL_burn.desc).map (fun d => d.parameters.length) = some 3 := by decide +kernel
theorem hd_L_carve : yL_carve.cls ≠ "java/lang/invoke/MethodHandle" ∧ yL_carve.cls ≠ "java/lang/invoke/VarHandle" ∧ (parseMethodDescriptor yL_carve.desc).map (fun d => d.parameters.length) = some 4 := by decide +kernel
theorem hd_L_count : yL_count.cls ≠ "java/lang/invoke/MethodHandle" ∧ yL_count.cls ≠ "java/lang/invoke/VarHandle" ∧ (parseMethodDescriptor yL_count.desc).map (fun d => d.parameters.length) = some 3 := by decide +kernel
theorem hd_L_day : yL_day.cls ≠ "java/lang/invoke/MethodHandle" ∧ yL_day.cls ≠ "java/lang/invoke/VarHandle" ∧ (parseMethodDescriptor yL_day.desc).map (fun d => d.parameters.length) = some 5 := by decide +kernel
theorem hd_L_feast : yL_feast.cls ≠ "java/lang/invoke/MethodHandle" ∧ yL_feast.cls ≠ "java/lang/invoke/VarHandle" ∧ (parseMethodDescriptor yL_feast.desc).map (fun d => d.parameters.length) = some 4 := by decide +kernel
theorem hd_L_forget : yL_forget.cls ≠ "java/lang/invoke/MethodHandle" ∧ yL_forget.cls ≠ "java/lang/invoke/VarHandle" ∧ (parseMethodDescriptor yL_forget.desc).map (fun d => d.parameters.length) = some 2 := by decide +kernel
theorem hd_L_moved : yL_moved.cls ≠ "java/lang/invoke/MethodHandle" ∧ yL_moved.cls ≠ "java/lang/invoke/VarHandle" ∧ (parseMethodDescriptor yL_moved.desc).map (fun d => d.parameters.length) = some 4 := by decide +kernel
theorem hd_L_peace : yL_peace.cls ≠ "java/lang/invoke/MethodHandle" ∧ yL_peace.cls ≠ "java/lang/invoke/VarHandle" ∧ (parseMethodDescriptor yL_peace.desc).map (fun d => d.parameters.length) = some 4 := by decide +kernel
theorem hd_L_proclaim : yL_proclaim.cls ≠ "java/lang/invoke/MethodHandle" ∧ yL_proclaim.cls ≠ "java/lang/invoke/VarHandle" ∧ (parseMethodDescriptor yL_proclaim.desc).map (fun d => d.parameters.length) = some 2 := by decide +kernel
theorem hd_L_quarrels : yL_quarrels.cls ≠ "java/lang/invoke/MethodHandle" ∧ yL_quarrels.cls ≠ "java/lang/invoke/VarHandle" ∧ (parseMethodDescriptor yL_quarrels.desc).map (fun d => d.parameters.length) = some 3 := by decide +kernel
theorem hd_L_range : yL_range.cls ≠ "java/lang/invoke/MethodHandle" ∧ yL_range.cls ≠ "java/lang/invoke/VarHandle" ∧ (parseMethodDescriptor yL_range.desc).map (fun d => d.parameters.length) = some 6 := by decide +kernel
theorem hd_L_rank : yL_rank.cls ≠ "java/lang/invoke/MethodHandle" ∧ yL_rank.cls ≠ "java/lang/invoke/VarHandle" ∧ (parseMethodDescriptor yL_rank.desc).map (fun d => d.parameters.length) = some 4 := by decide +kernel
theorem hd_L_set : yL_set.cls ≠ "java/lang/invoke/MethodHandle" ∧ yL_set.cls ≠ "java/lang/invoke/VarHandle" ∧ (parseMethodDescriptor yL_set.desc).map (fun d => d.parameters.length) = some 3 := by decide +kernel
theorem hd_L_settled : yL_settled.cls ≠ "java/lang/invoke/MethodHandle" ∧ yL_settled.cls ≠ "java/lang/invoke/VarHandle" ∧ (parseMethodDescriptor yL_settled.desc).map (fun d => d.parameters.length) = some 4 := by decide +kernel
theorem hd_L_stick : yL_stick.cls ≠ "java/lang/invoke/MethodHandle" ∧ yL_stick.cls ≠ "java/lang/invoke/VarHandle" ∧ (parseMethodDescriptor yL_stick.desc).map (fun d => d.parameters.length) = some 4 := by decide +kernel
theorem hd_L_teach : yL_teach.cls ≠ "java/lang/invoke/MethodHandle" ∧ yL_teach.cls ≠ "java/lang/invoke/VarHandle" ∧ (parseMethodDescriptor yL_teach.desc).map (fun d => d.parameters.length) = some 4 := by decide +kernel
theorem hd_L_undo : yL_undo.cls ≠ "java/lang/invoke/MethodHandle" ∧ yL_undo.cls ≠ "java/lang/invoke/VarHandle" ∧ (parseMethodDescriptor yL_undo.desc).map (fun d => d.parameters.length) = some 2 := by decide +kernel
theorem hd_L_when : yL_when.cls ≠ "java/lang/invoke/MethodHandle" ∧ yL_when.cls ≠ "java/lang/invoke/VarHandle" ∧ (parseMethodDescriptor yL_when.desc).map (fun d => d.parameters.length) = some 6 := by decide +kernel
theorem hd_X6_clearBuffer : yX6_clearBuffer.cls ≠ "java/lang/invoke/MethodHandle" ∧ yX6_clearBuffer.cls ≠ "java/lang/invoke/VarHandle" ∧ (parseMethodDescriptor yX6_clearBuffer.desc).map (fun d => d.parameters.length) = some 0 := by decide +kernel
theorem hd_X6_digest : yX6_digest.cls ≠ "java/lang/invoke/MethodHandle" ∧ yX6_digest.cls ≠ "java/lang/invoke/VarHandle" ∧ (parseMethodDescriptor yX6_digest.desc).map (fun d => d.parameters.length) = some 0 := by decide +kernel
theorem hd_X6_firstError : yX6_firstError.cls ≠ "java/lang/invoke/MethodHandle" ∧ yX6_firstError.cls ≠ "java/lang/invoke/VarHandle" ∧ (parseMethodDescriptor yX6_firstError.desc).map (fun d => d.parameters.length) = some 0 := by decide +kernel
theorem hd_X6_freshShare : yX6_freshShare.cls ≠ "java/lang/invoke/MethodHandle" ∧ yX6_freshShare.cls ≠ "java/lang/invoke/VarHandle" ∧ (parseMethodDescriptor yX6_freshShare.desc).map (fun d => d.parameters.length) = some 0 := by decide +kernel
theorem hd_X7_alike : yX7_alike.cls ≠ "java/lang/invoke/MethodHandle" ∧ yX7_alike.cls ≠ "java/lang/invoke/VarHandle" ∧ (parseMethodDescriptor yX7_alike.desc).map (fun d => d.parameters.length) = some 1 := by decide +kernel
theorem hd_X7_append : yX7_append.cls ≠ "java/lang/invoke/MethodHandle" ∧ yX7_append.cls ≠ "java/lang/invoke/VarHandle" ∧ (parseMethodDescriptor yX7_append.desc).map (fun d => d.parameters.length) = some 1 := by decide +kernel
theorem hd_X7_burn : yX7_burn.cls ≠ "java/lang/invoke/MethodHandle" ∧ yX7_burn.cls ≠ "java/lang/invoke/VarHandle" ∧ (parseMethodDescriptor yX7_burn.desc).map (fun d => d.parameters.length) = some 1 := by decide +kernel
theorem hd_X7_carve : yX7_carve.cls ≠ "java/lang/invoke/MethodHandle" ∧ yX7_carve.cls ≠ "java/lang/invoke/VarHandle" ∧ (parseMethodDescriptor yX7_carve.desc).map (fun d => d.parameters.length) = some 2 := by decide +kernel
theorem hd_X7_clearBuffer : yX7_clearBuffer.cls ≠ "java/lang/invoke/MethodHandle" ∧ yX7_clearBuffer.cls ≠ "java/lang/invoke/VarHandle" ∧ (parseMethodDescriptor yX7_clearBuffer.desc).map (fun d => d.parameters.length) = some 0 := by decide +kernel
theorem hd_X7_count : yX7_count.cls ≠ "java/lang/invoke/MethodHandle" ∧ yX7_count.cls ≠ "java/lang/invoke/VarHandle" ∧ (parseMethodDescriptor yX7_count.desc).map (fun d => d.parameters.length) = some 1 := by decide +kernel
theorem hd_X7_day : yX7_day.cls ≠ "java/lang/invoke/MethodHandle" ∧ yX7_day.cls ≠ "java/lang/invoke/VarHandle" ∧ (parseMethodDescriptor yX7_day.desc).map (fun d => d.parameters.length) = some 3 := by decide +kernel
theorem hd_X7_digest : yX7_digest.cls ≠ "java/lang/invoke/MethodHandle" ∧ yX7_digest.cls ≠ "java/lang/invoke/VarHandle" ∧ (parseMethodDescriptor yX7_digest.desc).map (fun d => d.parameters.length) = some 0 := by decide +kernel
theorem hd_X7_feast : yX7_feast.cls ≠ "java/lang/invoke/MethodHandle" ∧ yX7_feast.cls ≠ "java/lang/invoke/VarHandle" ∧ (parseMethodDescriptor yX7_feast.desc).map (fun d => d.parameters.length) = some 2 := by decide +kernel
theorem hd_X7_firstError : yX7_firstError.cls ≠ "java/lang/invoke/MethodHandle" ∧ yX7_firstError.cls ≠ "java/lang/invoke/VarHandle" ∧ (parseMethodDescriptor yX7_firstError.desc).map (fun d => d.parameters.length) = some 0 := by decide +kernel
theorem hd_X7_forget : yX7_forget.cls ≠ "java/lang/invoke/MethodHandle" ∧ yX7_forget.cls ≠ "java/lang/invoke/VarHandle" ∧ (parseMethodDescriptor yX7_forget.desc).map (fun d => d.parameters.length) = some 0 := by decide +kernel
theorem hd_X7_freshShare : yX7_freshShare.cls ≠ "java/lang/invoke/MethodHandle" ∧ yX7_freshShare.cls ≠ "java/lang/invoke/VarHandle" ∧ (parseMethodDescriptor yX7_freshShare.desc).map (fun d => d.parameters.length) = some 0 := by decide +kernel
theorem hd_X7_moved : yX7_moved.cls ≠ "java/lang/invoke/MethodHandle" ∧ yX7_moved.cls ≠ "java/lang/invoke/VarHandle" ∧ (parseMethodDescriptor yX7_moved.desc).map (fun d => d.parameters.length) = some 2 := by decide +kernel
theorem hd_X7_peace : yX7_peace.cls ≠ "java/lang/invoke/MethodHandle" ∧ yX7_peace.cls ≠ "java/lang/invoke/VarHandle" ∧ (parseMethodDescriptor yX7_peace.desc).map (fun d => d.parameters.length) = some 2 := by decide +kernel
theorem hd_X7_proclaim : yX7_proclaim.cls ≠ "java/lang/invoke/MethodHandle" ∧ yX7_proclaim.cls ≠ "java/lang/invoke/VarHandle" ∧ (parseMethodDescriptor yX7_proclaim.desc).map (fun d => d.parameters.length) = some 0 := by decide +kernel
theorem hd_X7_quarrels : yX7_quarrels.cls ≠ "java/lang/invoke/MethodHandle" ∧ yX7_quarrels.cls ≠ "java/lang/invoke/VarHandle" ∧ (parseMethodDescriptor yX7_quarrels.desc).map (fun d => d.parameters.length) = some 1 := by decide +kernel
theorem hd_X7_range : yX7_range.cls ≠ "java/lang/invoke/MethodHandle" ∧ yX7_range.cls ≠ "java/lang/invoke/VarHandle" ∧ (parseMethodDescriptor yX7_range.desc).map (fun d => d.parameters.length) = some 4 := by decide +kernel
theorem hd_X7_rank : yX7_rank.cls ≠ "java/lang/invoke/MethodHandle" ∧ yX7_rank.cls ≠ "java/lang/invoke/VarHandle" ∧ (parseMethodDescriptor yX7_rank.desc).map (fun d => d.parameters.length) = some 2 := by decide +kernel
theorem hd_X7_set : yX7_set.cls ≠ "java/lang/invoke/MethodHandle" ∧ yX7_set.cls ≠ "java/lang/invoke/VarHandle" ∧ (parseMethodDescriptor yX7_set.desc).map (fun d => d.parameters.length) = some 1 := by decide +kernel
theorem hd_X7_settled : yX7_settled.cls ≠ "java/lang/invoke/MethodHandle" ∧ yX7_settled.cls ≠ "java/lang/invoke/VarHandle" ∧ (parseMethodDescriptor yX7_settled.desc).map (fun d => d.parameters.length) = some 2 := by decide +kernel
theorem hd_X7_stick : yX7_stick.cls ≠ "java/lang/invoke/MethodHandle" ∧ yX7_stick.cls ≠ "java/lang/invoke/VarHandle" ∧ (parseMethodDescriptor yX7_stick.desc).map (fun d => d.parameters.length) = some 2 := by decide +kernel
theorem hd_X7_teach : yX7_teach.cls ≠ "java/lang/invoke/MethodHandle" ∧ yX7_teach.cls ≠ "java/lang/invoke/VarHandle" ∧ (parseMethodDescriptor yX7_teach.desc).map (fun d => d.parameters.length) = some 2 := by decide +kernel
theorem hd_X7_thrown : yX7_thrown.cls ≠ "java/lang/invoke/MethodHandle" ∧ yX7_thrown.cls ≠ "java/lang/invoke/VarHandle" ∧ (parseMethodDescriptor yX7_thrown.desc).map (fun d => d.parameters.length) = some 0 := by decide +kernel
theorem hd_X7_undo : yX7_undo.cls ≠ "java/lang/invoke/MethodHandle" ∧ yX7_undo.cls ≠ "java/lang/invoke/VarHandle" ∧ (parseMethodDescriptor yX7_undo.desc).map (fun d => d.parameters.length) = some 0 := by decide +kernel
theorem hd_X7_when : yX7_when.cls ≠ "java/lang/invoke/MethodHandle" ∧ yX7_when.cls ≠ "java/lang/invoke/VarHandle" ∧ (parseMethodDescriptor yX7_when.desc).map (fun d => d.parameters.length) = some 4 := by decide +kernel
