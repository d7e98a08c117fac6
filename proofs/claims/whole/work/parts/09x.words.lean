/-! words of the tables; kinds -/
theorem tp_28 : Cond.selects yX6_bufferTellsFeasts.cls yX6_bufferTellsFeasts yX6_bufferTellsFeasts ∈ TG := TG_in (List.mem_append_left _ (List.mem_of_getElem? (i := 28) (by decide +kernel))) (by decide +kernel)
theorem tp_31 : Cond.selects yX6_addBufferedFeasts.cls yX6_addBufferedFeasts yX6_addBufferedFeasts ∈ TG := TG_in (List.mem_append_left _ (List.mem_of_getElem? (i := 31) (by decide +kernel))) (by decide +kernel)
theorem tp_33 : Cond.selects yX6_needFeast.cls yX6_needFeast yX6_needFeast ∈ TG := TG_in (List.mem_append_left _ (List.mem_of_getElem? (i := 33) (by decide +kernel))) (by decide +kernel)
theorem tp_35 : Cond.selects yX6_needStick.cls yX6_needStick yX6_needStick ∈ TG := TG_in (List.mem_append_left _ (List.mem_of_getElem? (i := 35) (by decide +kernel))) (by decide +kernel)
theorem tp_36 : Cond.selects yX6_lowestFeastOn.cls yX6_lowestFeastOn yX6_lowestFeastOn ∈ TG := TG_in (List.mem_append_left _ (List.mem_of_getElem? (i := 36) (by decide +kernel))) (by decide +kernel)
theorem tw_462 : Cond.methodLink RX6 68 yX6_bufferTellsFeasts ∈ TG := TG_in (List.mem_append_right _ (List.mem_of_getElem? (i := 462) (by decide +kernel))) (by decide +kernel)
theorem tw_464 : Cond.instanceMethod yX6_bufferTellsFeasts ∈ TG := TG_in (List.mem_append_right _ (List.mem_of_getElem? (i := 464) (by decide +kernel))) (by decide +kernel)
theorem tw_465 : Cond.code yX6_bufferTellsFeasts cX6_bufferTellsFeasts 1 (some .boolean) ∈ TG := TG_in (List.mem_append_right _ (List.mem_of_getElem? (i := 465) (by decide +kernel))) (by decide +kernel)
theorem tw_538 : Cond.methodLink RX6 79 yX1_save ∈ TG := TG_in (List.mem_append_right _ (List.mem_of_getElem? (i := 538) (by decide +kernel))) (by decide +kernel)
theorem tw_539 : Cond.instanceMethod yX1_save ∈ TG := TG_in (List.mem_append_right _ (List.mem_of_getElem? (i := 539) (by decide +kernel))) (by decide +kernel)
theorem tw_540 : Cond.selects yX1_save.cls yX1_save yX1_save ∈ TG := TG_in (List.mem_append_right _ (List.mem_of_getElem? (i := 540) (by decide +kernel))) (by decide +kernel)
theorem tw_541 : Cond.code yX1_save cX1_save 3 none ∈ TG := TG_in (List.mem_append_right _ (List.mem_of_getElem? (i := 541) (by decide +kernel))) (by decide +kernel)
theorem tw_555 : Cond.methodLink RX6 83 yX6_addBufferedFeasts ∈ TG := TG_in (List.mem_append_right _ (List.mem_of_getElem? (i := 555) (by decide +kernel))) (by decide +kernel)
theorem tw_557 : Cond.instanceMethod yX6_addBufferedFeasts ∈ TG := TG_in (List.mem_append_right _ (List.mem_of_getElem? (i := 557) (by decide +kernel))) (by decide +kernel)
theorem tw_558 : Cond.code yX6_addBufferedFeasts cX6_addBufferedFeasts 5 (some .int) ∈ TG := TG_in (List.mem_append_right _ (List.mem_of_getElem? (i := 558) (by decide +kernel))) (by decide +kernel)
theorem tw_600 : Cond.methodLink RX6 95 yX6_needFeast ∈ TG := TG_in (List.mem_append_right _ (List.mem_of_getElem? (i := 600) (by decide +kernel))) (by decide +kernel)
theorem tw_602 : Cond.instanceMethod yX6_needFeast ∈ TG := TG_in (List.mem_append_right _ (List.mem_of_getElem? (i := 602) (by decide +kernel))) (by decide +kernel)
theorem tw_603 : Cond.code yX6_needFeast cX6_needFeast 2 none ∈ TG := TG_in (List.mem_append_right _ (List.mem_of_getElem? (i := 603) (by decide +kernel))) (by decide +kernel)
theorem tw_620 : Cond.methodLink RX6 98 yX6_needWithin ∈ TG := TG_in (List.mem_append_right _ (List.mem_of_getElem? (i := 620) (by decide +kernel))) (by decide +kernel)
theorem tw_621 : Cond.static yX6_needWithin ∈ TG := TG_in (List.mem_append_right _ (List.mem_of_getElem? (i := 621) (by decide +kernel))) (by decide +kernel)
theorem tw_622 : Cond.code yX6_needWithin cX6_needWithin 3 none ∈ TG := TG_in (List.mem_append_right _ (List.mem_of_getElem? (i := 622) (by decide +kernel))) (by decide +kernel)
theorem tw_624 : Cond.methodLink RX6 109 yX4_put ∈ TG := TG_in (List.mem_append_right _ (List.mem_of_getElem? (i := 624) (by decide +kernel))) (by decide +kernel)
theorem tw_632 : Cond.methodLink RX6 113 yX6_needCarver ∈ TG := TG_in (List.mem_append_right _ (List.mem_of_getElem? (i := 632) (by decide +kernel))) (by decide +kernel)
theorem tw_633 : Cond.static yX6_needCarver ∈ TG := TG_in (List.mem_append_right _ (List.mem_of_getElem? (i := 633) (by decide +kernel))) (by decide +kernel)
theorem tw_634 : Cond.code yX6_needCarver cX6_needCarver 1 none ∈ TG := TG_in (List.mem_append_right _ (List.mem_of_getElem? (i := 634) (by decide +kernel))) (by decide +kernel)
theorem tw_642 : Cond.methodLink RX6 119 yX6_needYear ∈ TG := TG_in (List.mem_append_right _ (List.mem_of_getElem? (i := 642) (by decide +kernel))) (by decide +kernel)
theorem tw_643 : Cond.static yX6_needYear ∈ TG := TG_in (List.mem_append_right _ (List.mem_of_getElem? (i := 643) (by decide +kernel))) (by decide +kernel)
theorem tw_644 : Cond.code yX6_needYear cX6_needYear 1 none ∈ TG := TG_in (List.mem_append_right _ (List.mem_of_getElem? (i := 644) (by decide +kernel))) (by decide +kernel)
theorem tw_645 : Cond.methodLink RX6 129 yX5_addStick ∈ TG := TG_in (List.mem_append_right _ (List.mem_of_getElem? (i := 645) (by decide +kernel))) (by decide +kernel)
theorem tw_646 : Cond.instanceMethod yX5_addStick ∈ TG := TG_in (List.mem_append_right _ (List.mem_of_getElem? (i := 646) (by decide +kernel))) (by decide +kernel)
theorem tw_647 : Cond.selects yX5_addStick.cls yX5_addStick yX5_addStick ∈ TG := TG_in (List.mem_append_right _ (List.mem_of_getElem? (i := 647) (by decide +kernel))) (by decide +kernel)
theorem tw_648 : Cond.code yX5_addStick cX5_addStick 5 none ∈ TG := TG_in (List.mem_append_right _ (List.mem_of_getElem? (i := 648) (by decide +kernel))) (by decide +kernel)
theorem tw_660 : Cond.methodLink RX6 136 yX6_needStick ∈ TG := TG_in (List.mem_append_right _ (List.mem_of_getElem? (i := 660) (by decide +kernel))) (by decide +kernel)
theorem tw_662 : Cond.instanceMethod yX6_needStick ∈ TG := TG_in (List.mem_append_right _ (List.mem_of_getElem? (i := 662) (by decide +kernel))) (by decide +kernel)
theorem tw_663 : Cond.code yX6_needStick cX6_needStick 2 none ∈ TG := TG_in (List.mem_append_right _ (List.mem_of_getElem? (i := 663) (by decide +kernel))) (by decide +kernel)
theorem tw_665 : Cond.methodLink RX6 142 yX5_dropStick ∈ TG := TG_in (List.mem_append_right _ (List.mem_of_getElem? (i := 665) (by decide +kernel))) (by decide +kernel)
theorem tw_666 : Cond.instanceMethod yX5_dropStick ∈ TG := TG_in (List.mem_append_right _ (List.mem_of_getElem? (i := 666) (by decide +kernel))) (by decide +kernel)
theorem tw_667 : Cond.selects yX5_dropStick.cls yX5_dropStick yX5_dropStick ∈ TG := TG_in (List.mem_append_right _ (List.mem_of_getElem? (i := 667) (by decide +kernel))) (by decide +kernel)
theorem tw_668 : Cond.code yX5_dropStick cX5_dropStick 3 none ∈ TG := TG_in (List.mem_append_right _ (List.mem_of_getElem? (i := 668) (by decide +kernel))) (by decide +kernel)
theorem tw_691 : Cond.methodLink RX6 153 yX1_isEmpty ∈ TG := TG_in (List.mem_append_right _ (List.mem_of_getElem? (i := 691) (by decide +kernel))) (by decide +kernel)
theorem tw_692 : Cond.instanceMethod yX1_isEmpty ∈ TG := TG_in (List.mem_append_right _ (List.mem_of_getElem? (i := 692) (by decide +kernel))) (by decide +kernel)
theorem tw_693 : Cond.selects yX1_isEmpty.cls yX1_isEmpty yX1_isEmpty ∈ TG := TG_in (List.mem_append_right _ (List.mem_of_getElem? (i := 693) (by decide +kernel))) (by decide +kernel)
theorem tw_694 : Cond.code yX1_isEmpty cX1_isEmpty 1 (some .boolean) ∈ TG := TG_in (List.mem_append_right _ (List.mem_of_getElem? (i := 694) (by decide +kernel))) (by decide +kernel)
theorem tw_696 : Cond.methodLink RX6 158 yX1_restoreInto ∈ TG := TG_in (List.mem_append_right _ (List.mem_of_getElem? (i := 696) (by decide +kernel))) (by decide +kernel)
theorem tw_697 : Cond.instanceMethod yX1_restoreInto ∈ TG := TG_in (List.mem_append_right _ (List.mem_of_getElem? (i := 697) (by decide +kernel))) (by decide +kernel)
theorem tw_698 : Cond.selects yX1_restoreInto.cls yX1_restoreInto yX1_restoreInto ∈ TG := TG_in (List.mem_append_right _ (List.mem_of_getElem? (i := 698) (by decide +kernel))) (by decide +kernel)
theorem tw_699 : Cond.code yX1_restoreInto cX1_restoreInto 3 none ∈ TG := TG_in (List.mem_append_right _ (List.mem_of_getElem? (i := 699) (by decide +kernel))) (by decide +kernel)
theorem tw_707 : Cond.methodLink RX6 170 yX6_moonShift ∈ TG := TG_in (List.mem_append_right _ (List.mem_of_getElem? (i := 707) (by decide +kernel))) (by decide +kernel)
theorem tw_708 : Cond.methodLink RX6 174 yX6_moonAge ∈ TG := TG_in (List.mem_append_right _ (List.mem_of_getElem? (i := 708) (by decide +kernel))) (by decide +kernel)
theorem tw_709 : Cond.methodLink RX6 178 yX6_lowestFeastOn ∈ TG := TG_in (List.mem_append_right _ (List.mem_of_getElem? (i := 709) (by decide +kernel))) (by decide +kernel)
theorem tw_711 : Cond.instanceMethod yX6_lowestFeastOn ∈ TG := TG_in (List.mem_append_right _ (List.mem_of_getElem? (i := 711) (by decide +kernel))) (by decide +kernel)
theorem tw_712 : Cond.code yX6_lowestFeastOn cX6_lowestFeastOn 4 (some .int) ∈ TG := TG_in (List.mem_append_right _ (List.mem_of_getElem? (i := 712) (by decide +kernel))) (by decide +kernel)
theorem kA_140 : kd 140 = 4 := by decide +kernel
theorem hd_X1_isEmpty : yX1_isEmpty.cls ≠ "java/lang/invoke/MethodHandle" ∧ yX1_isEmpty.cls ≠ "java/lang/invoke/VarHandle" ∧ (parseMethodDescriptor yX1_isEmpty.desc).map (fun d => d.parameters.length) = some 0 := by decide +kernel
theorem hd_X1_restoreInto : yX1_restoreInto.cls ≠ "java/lang/invoke/MethodHandle" ∧ yX1_restoreInto.cls ≠ "java/lang/invoke/VarHandle" ∧ (parseMethodDescriptor yX1_restoreInto.desc).map (fun d => d.parameters.length) = some 1 := by decide +kernel
theorem hd_X1_save : yX1_save.cls ≠ "java/lang/invoke/MethodHandle" ∧ yX1_save.cls ≠ "java/lang/invoke/VarHandle" ∧ (parseMethodDescriptor yX1_save.desc).map (fun d => d.parameters.length) = some 1 := by decide +kernel
theorem hd_X5_addStick : yX5_addStick.cls ≠ "java/lang/invoke/MethodHandle" ∧ yX5_addStick.cls ≠ "java/lang/invoke/VarHandle" ∧ (parseMethodDescriptor yX5_addStick.desc).map (fun d => d.parameters.length) = some 3 := by decide +kernel
theorem hd_X5_dropStick : yX5_dropStick.cls ≠ "java/lang/invoke/MethodHandle" ∧ yX5_dropStick.cls ≠ "java/lang/invoke/VarHandle" ∧ (parseMethodDescriptor yX5_dropStick.desc).map (fun d => d.parameters.length) = some 1 := by decide +kernel
theorem hd_X6_addBufferedFeasts : yX6_addBufferedFeasts.cls ≠ "java/lang/invoke/MethodHandle" ∧ yX6_addBufferedFeasts.cls ≠ "java/lang/invoke/VarHandle" ∧ (parseMethodDescriptor yX6_addBufferedFeasts.desc).map (fun d => d.parameters.length) = some 0 := by decide +kernel
theorem hd_X6_bufferTellsFeasts : yX6_bufferTellsFeasts.cls ≠ "java/lang/invoke/MethodHandle" ∧ yX6_bufferTellsFeasts.cls ≠ "java/lang/invoke/VarHandle" ∧ (parseMethodDescriptor yX6_bufferTellsFeasts.desc).map (fun d => d.parameters.length) = some 0 := by decide +kernel
theorem hd_X6_lowestFeastOn : yX6_lowestFeastOn.cls ≠ "java/lang/invoke/MethodHandle" ∧ yX6_lowestFeastOn.cls ≠ "java/lang/invoke/VarHandle" ∧ (parseMethodDescriptor yX6_lowestFeastOn.desc).map (fun d => d.parameters.length) = some 2 := by decide +kernel
theorem hd_X6_needCarver : yX6_needCarver.cls ≠ "java/lang/invoke/MethodHandle" ∧ yX6_needCarver.cls ≠ "java/lang/invoke/VarHandle" ∧ (parseMethodDescriptor yX6_needCarver.desc).map (fun d => d.parameters.length) = some 1 := by decide +kernel
theorem hd_X6_needFeast : yX6_needFeast.cls ≠ "java/lang/invoke/MethodHandle" ∧ yX6_needFeast.cls ≠ "java/lang/invoke/VarHandle" ∧ (parseMethodDescriptor yX6_needFeast.desc).map (fun d => d.parameters.length) = some 1 := by decide +kernel
theorem hd_X6_needStick : yX6_needStick.cls ≠ "java/lang/invoke/MethodHandle" ∧ yX6_needStick.cls ≠ "java/lang/invoke/VarHandle" ∧ (parseMethodDescriptor yX6_needStick.desc).map (fun d => d.parameters.length) = some 1 := by decide +kernel
theorem hd_X6_needWithin : yX6_needWithin.cls ≠ "java/lang/invoke/MethodHandle" ∧ yX6_needWithin.cls ≠ "java/lang/invoke/VarHandle" ∧ (parseMethodDescriptor yX6_needWithin.desc).map (fun d => d.parameters.length) = some 3 := by decide +kernel
theorem hd_X6_needYear : yX6_needYear.cls ≠ "java/lang/invoke/MethodHandle" ∧ yX6_needYear.cls ≠ "java/lang/invoke/VarHandle" ∧ (parseMethodDescriptor yX6_needYear.desc).map (fun d => d.parameters.length) = some 1 := by decide +kernel
