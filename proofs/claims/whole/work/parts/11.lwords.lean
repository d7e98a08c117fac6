theorem hd_X6_alike : yX6_alike.cls ≠ "java/lang/invoke/MethodHandle" ∧ yX6_alike.cls ≠ "java/lang/invoke/VarHandle" ∧ (parseMethodDescriptor yX6_alike.desc).map (fun d => d.parameters.length) = some 1 := by decide +kernel
theorem hd_X6_append : yX6_append.cls ≠ "java/lang/invoke/MethodHandle" ∧ yX6_append.cls ≠ "java/lang/invoke/VarHandle" ∧ (parseMethodDescriptor yX6_append.desc).map (fun d => d.parameters.length) = some 1 := by decide +kernel
theorem hd_X6_burn : yX6_burn.cls ≠ "java/lang/invoke/MethodHandle" ∧ yX6_burn.cls ≠ "java/lang/invoke/VarHandle" ∧ (parseMethodDescriptor yX6_burn.desc).map (fun d => d.parameters.length) = some 1 := by decide +kernel
theorem hd_X6_carve : yX6_carve.cls ≠ "java/lang/invoke/MethodHandle" ∧ yX6_carve.cls ≠ "java/lang/invoke/VarHandle" ∧ (parseMethodDescriptor yX6_carve.desc).map (fun d => d.parameters.length) = some 2 := by decide +kernel
theorem hd_X6_count : yX6_count.cls ≠ "java/lang/invoke/MethodHandle" ∧ yX6_count.cls ≠ "java/lang/invoke/VarHandle" ∧ (parseMethodDescriptor yX6_count.desc).map (fun d => d.parameters.length) = some 1 := by decide +kernel
theorem hd_X6_day : yX6_day.cls ≠ "java/lang/invoke/MethodHandle" ∧ yX6_day.cls ≠ "java/lang/invoke/VarHandle" ∧ (parseMethodDescriptor yX6_day.desc).map (fun d => d.parameters.length) = some 3 := by decide +kernel
theorem hd_X6_feast : yX6_feast.cls ≠ "java/lang/invoke/MethodHandle" ∧ yX6_feast.cls ≠ "java/lang/invoke/VarHandle" ∧ (parseMethodDescriptor yX6_feast.desc).map (fun d => d.parameters.length) = some 2 := by decide +kernel
theorem hd_X6_forget : yX6_forget.cls ≠ "java/lang/invoke/MethodHandle" ∧ yX6_forget.cls ≠ "java/lang/invoke/VarHandle" ∧ (parseMethodDescriptor yX6_forget.desc).map (fun d => d.parameters.length) = some 0 := by decide +kernel
theorem hd_X6_moved : yX6_moved.cls ≠ "java/lang/invoke/MethodHandle" ∧ yX6_moved.cls ≠ "java/lang/invoke/VarHandle" ∧ (parseMethodDescriptor yX6_moved.desc).map (fun d => d.parameters.length) = some 2 := by decide +kernel
theorem hd_X6_peace : yX6_peace.cls ≠ "java/lang/invoke/MethodHandle" ∧ yX6_peace.cls ≠ "java/lang/invoke/VarHandle" ∧ (parseMethodDescriptor yX6_peace.desc).map (fun d => d.parameters.length) = some 2 := by decide +kernel
theorem hd_X6_proclaim : yX6_proclaim.cls ≠ "java/lang/invoke/MethodHandle" ∧ yX6_proclaim.cls ≠ "java/lang/invoke/VarHandle" ∧ (parseMethodDescriptor yX6_proclaim.desc).map (fun d => d.parameters.length) = some 0 := by decide +kernel
theorem hd_X6_quarrels : yX6_quarrels.cls ≠ "java/lang/invoke/MethodHandle" ∧ yX6_quarrels.cls ≠ "java/lang/invoke/VarHandle" ∧ (parseMethodDescriptor yX6_quarrels.desc).map (fun d => d.parameters.length) = some 1 := by decide +kernel
theorem hd_X6_range : yX6_range.cls ≠ "java/lang/invoke/MethodHandle" ∧ yX6_range.cls ≠ "java/lang/invoke/VarHandle" ∧ (parseMethodDescriptor yX6_range.desc).map (fun d => d.parameters.length) = some 4 := by decide +kernel
theorem hd_X6_rank : yX6_rank.cls ≠ "java/lang/invoke/MethodHandle" ∧ yX6_rank.cls ≠ "java/lang/invoke/VarHandle" ∧ (parseMethodDescriptor yX6_rank.desc).map (fun d => d.parameters.length) = some 2 := by decide +kernel
theorem hd_X6_set : yX6_set.cls ≠ "java/lang/invoke/MethodHandle" ∧ yX6_set.cls ≠ "java/lang/invoke/VarHandle" ∧ (parseMethodDescriptor yX6_set.desc).map (fun d => d.parameters.length) = some 1 := by decide +kernel
theorem hd_X6_settled : yX6_settled.cls ≠ "java/lang/invoke/MethodHandle" ∧ yX6_settled.cls ≠ "java/lang/invoke/VarHandle" ∧ (parseMethodDescriptor yX6_settled.desc).map (fun d => d.parameters.length) = some 2 := by decide +kernel
theorem hd_X6_stick : yX6_stick.cls ≠ "java/lang/invoke/MethodHandle" ∧ yX6_stick.cls ≠ "java/lang/invoke/VarHandle" ∧ (parseMethodDescriptor yX6_stick.desc).map (fun d => d.parameters.length) = some 2 := by decide +kernel
theorem hd_X6_teach : yX6_teach.cls ≠ "java/lang/invoke/MethodHandle" ∧ yX6_teach.cls ≠ "java/lang/invoke/VarHandle" ∧ (parseMethodDescriptor yX6_teach.desc).map (fun d => d.parameters.length) = some 2 := by decide +kernel
theorem hd_X6_undo : yX6_undo.cls ≠ "java/lang/invoke/MethodHandle" ∧ yX6_undo.cls ≠ "java/lang/invoke/VarHandle" ∧ (parseMethodDescriptor yX6_undo.desc).map (fun d => d.parameters.length) = some 0 := by decide +kernel
theorem hd_X6_when : yX6_when.cls ≠ "java/lang/invoke/MethodHandle" ∧ yX6_when.cls ≠ "java/lang/invoke/VarHandle" ∧ (parseMethodDescriptor yX6_when.desc).map (fun d => d.parameters.length) = some 4 := by decide +kernel
theorem tw_458 : Cond.methodLink RL 7 yX6_proclaim ∈ TG := TG_in (List.mem_append_right _ (List.mem_of_getElem? (i := 458) (by decide +kernel))) (by decide +kernel)
theorem tw_459 : Cond.instanceMethod yX6_proclaim ∈ TG := TG_in (List.mem_append_right _ (List.mem_of_getElem? (i := 459) (by decide +kernel))) (by decide +kernel)
theorem tw_460 : Cond.selects yX6_proclaim.cls yX6_proclaim yX6_proclaim ∈ TG := TG_in (List.mem_append_right _ (List.mem_of_getElem? (i := 460) (by decide +kernel))) (by decide +kernel)
theorem tw_461 : Cond.code yX6_proclaim cX6_proclaim 2 (some .int) ∈ TG := TG_in (List.mem_append_right _ (List.mem_of_getElem? (i := 461) (by decide +kernel))) (by decide +kernel)
theorem tw_572 : Cond.methodLink RL 15 yX6_forget ∈ TG := TG_in (List.mem_append_right _ (List.mem_of_getElem? (i := 572) (by decide +kernel))) (by decide +kernel)
theorem tw_573 : Cond.instanceMethod yX6_forget ∈ TG := TG_in (List.mem_append_right _ (List.mem_of_getElem? (i := 573) (by decide +kernel))) (by decide +kernel)
theorem tw_574 : Cond.selects yX6_forget.cls yX6_forget yX6_forget ∈ TG := TG_in (List.mem_append_right _ (List.mem_of_getElem? (i := 574) (by decide +kernel))) (by decide +kernel)
theorem tw_575 : Cond.code yX6_forget cX6_forget 1 (some .int) ∈ TG := TG_in (List.mem_append_right _ (List.mem_of_getElem? (i := 575) (by decide +kernel))) (by decide +kernel)
theorem tw_596 : Cond.methodLink RL 20 yX6_rank ∈ TG := TG_in (List.mem_append_right _ (List.mem_of_getElem? (i := 596) (by decide +kernel))) (by decide +kernel)
theorem tw_597 : Cond.instanceMethod yX6_rank ∈ TG := TG_in (List.mem_append_right _ (List.mem_of_getElem? (i := 597) (by decide +kernel))) (by decide +kernel)
theorem tw_598 : Cond.selects yX6_rank.cls yX6_rank yX6_rank ∈ TG := TG_in (List.mem_append_right _ (List.mem_of_getElem? (i := 598) (by decide +kernel))) (by decide +kernel)
theorem tw_599 : Cond.code yX6_rank cX6_rank 4 (some .int) ∈ TG := TG_in (List.mem_append_right _ (List.mem_of_getElem? (i := 599) (by decide +kernel))) (by decide +kernel)
theorem tw_628 : Cond.methodLink RL 26 yX6_teach ∈ TG := TG_in (List.mem_append_right _ (List.mem_of_getElem? (i := 628) (by decide +kernel))) (by decide +kernel)
theorem tw_629 : Cond.instanceMethod yX6_teach ∈ TG := TG_in (List.mem_append_right _ (List.mem_of_getElem? (i := 629) (by decide +kernel))) (by decide +kernel)
theorem tw_630 : Cond.selects yX6_teach.cls yX6_teach yX6_teach ∈ TG := TG_in (List.mem_append_right _ (List.mem_of_getElem? (i := 630) (by decide +kernel))) (by decide +kernel)
theorem tw_631 : Cond.code yX6_teach cX6_teach 4 (some .int) ∈ TG := TG_in (List.mem_append_right _ (List.mem_of_getElem? (i := 631) (by decide +kernel))) (by decide +kernel)
theorem tw_638 : Cond.methodLink RL 29 yX6_carve ∈ TG := TG_in (List.mem_append_right _ (List.mem_of_getElem? (i := 638) (by decide +kernel))) (by decide +kernel)
theorem tw_639 : Cond.instanceMethod yX6_carve ∈ TG := TG_in (List.mem_append_right _ (List.mem_of_getElem? (i := 639) (by decide +kernel))) (by decide +kernel)
theorem tw_640 : Cond.selects yX6_carve.cls yX6_carve yX6_carve ∈ TG := TG_in (List.mem_append_right _ (List.mem_of_getElem? (i := 640) (by decide +kernel))) (by decide +kernel)
theorem tw_641 : Cond.code yX6_carve cX6_carve 3 (some .int) ∈ TG := TG_in (List.mem_append_right _ (List.mem_of_getElem? (i := 641) (by decide +kernel))) (by decide +kernel)
theorem tw_656 : Cond.methodLink RL 32 yX6_burn ∈ TG := TG_in (List.mem_append_right _ (List.mem_of_getElem? (i := 656) (by decide +kernel))) (by decide +kernel)
theorem tw_657 : Cond.instanceMethod yX6_burn ∈ TG := TG_in (List.mem_append_right _ (List.mem_of_getElem? (i := 657) (by decide +kernel))) (by decide +kernel)
theorem tw_658 : Cond.selects yX6_burn.cls yX6_burn yX6_burn ∈ TG := TG_in (List.mem_append_right _ (List.mem_of_getElem? (i := 658) (by decide +kernel))) (by decide +kernel)
theorem tw_659 : Cond.code yX6_burn cX6_burn 3 (some .int) ∈ TG := TG_in (List.mem_append_right _ (List.mem_of_getElem? (i := 659) (by decide +kernel))) (by decide +kernel)
theorem tw_672 : Cond.methodLink RL 36 yX6_set ∈ TG := TG_in (List.mem_append_right _ (List.mem_of_getElem? (i := 672) (by decide +kernel))) (by decide +kernel)
theorem tw_673 : Cond.instanceMethod yX6_set ∈ TG := TG_in (List.mem_append_right _ (List.mem_of_getElem? (i := 673) (by decide +kernel))) (by decide +kernel)
theorem tw_674 : Cond.selects yX6_set.cls yX6_set yX6_set ∈ TG := TG_in (List.mem_append_right _ (List.mem_of_getElem? (i := 674) (by decide +kernel))) (by decide +kernel)
theorem tw_675 : Cond.code yX6_set cX6_set 3 (some .int) ∈ TG := TG_in (List.mem_append_right _ (List.mem_of_getElem? (i := 675) (by decide +kernel))) (by decide +kernel)
theorem tw_679 : Cond.methodLink RL 39 yX6_append ∈ TG := TG_in (List.mem_append_right _ (List.mem_of_getElem? (i := 679) (by decide +kernel))) (by decide +kernel)
theorem tw_680 : Cond.instanceMethod yX6_append ∈ TG := TG_in (List.mem_append_right _ (List.mem_of_getElem? (i := 680) (by decide +kernel))) (by decide +kernel)
theorem tw_681 : Cond.selects yX6_append.cls yX6_append yX6_append ∈ TG := TG_in (List.mem_append_right _ (List.mem_of_getElem? (i := 681) (by decide +kernel))) (by decide +kernel)
theorem tw_682 : Cond.code yX6_append cX6_append 2 (some .int) ∈ TG := TG_in (List.mem_append_right _ (List.mem_of_getElem? (i := 682) (by decide +kernel))) (by decide +kernel)
theorem tw_687 : Cond.methodLink RL 42 yX6_undo ∈ TG := TG_in (List.mem_append_right _ (List.mem_of_getElem? (i := 687) (by decide +kernel))) (by decide +kernel)
theorem tw_688 : Cond.instanceMethod yX6_undo ∈ TG := TG_in (List.mem_append_right _ (List.mem_of_getElem? (i := 688) (by decide +kernel))) (by decide +kernel)
theorem tw_689 : Cond.selects yX6_undo.cls yX6_undo yX6_undo ∈ TG := TG_in (List.mem_append_right _ (List.mem_of_getElem? (i := 689) (by decide +kernel))) (by decide +kernel)
theorem tw_690 : Cond.code yX6_undo cX6_undo 1 (some .int) ∈ TG := TG_in (List.mem_append_right _ (List.mem_of_getElem? (i := 690) (by decide +kernel))) (by decide +kernel)
theorem tw_703 : Cond.methodLink RL 45 yX6_day ∈ TG := TG_in (List.mem_append_right _ (List.mem_of_getElem? (i := 703) (by decide +kernel))) (by decide +kernel)
theorem tw_704 : Cond.instanceMethod yX6_day ∈ TG := TG_in (List.mem_append_right _ (List.mem_of_getElem? (i := 704) (by decide +kernel))) (by decide +kernel)
theorem tw_705 : Cond.selects yX6_day.cls yX6_day yX6_day ∈ TG := TG_in (List.mem_append_right _ (List.mem_of_getElem? (i := 705) (by decide +kernel))) (by decide +kernel)
theorem tw_706 : Cond.code yX6_day cX6_day 4 (some .int) ∈ TG := TG_in (List.mem_append_right _ (List.mem_of_getElem? (i := 706) (by decide +kernel))) (by decide +kernel)
theorem tw_716 : Cond.methodLink RL 49 yX6_feast ∈ TG := TG_in (List.mem_append_right _ (List.mem_of_getElem? (i := 716) (by decide +kernel))) (by decide +kernel)
theorem tw_717 : Cond.instanceMethod yX6_feast ∈ TG := TG_in (List.mem_append_right _ (List.mem_of_getElem? (i := 717) (by decide +kernel))) (by decide +kernel)
theorem tw_718 : Cond.selects yX6_feast.cls yX6_feast yX6_feast ∈ TG := TG_in (List.mem_append_right _ (List.mem_of_getElem? (i := 718) (by decide +kernel))) (by decide +kernel)
theorem tw_719 : Cond.code yX6_feast cX6_feast 3 (some .int) ∈ TG := TG_in (List.mem_append_right _ (List.mem_of_getElem? (i := 719) (by decide +kernel))) (by decide +kernel)
theorem tw_723 : Cond.methodLink RL 52 yX6_when ∈ TG := TG_in (List.mem_append_right _ (List.mem_of_getElem? (i := 723) (by decide +kernel))) (by decide +kernel)
theorem tw_724 : Cond.instanceMethod yX6_when ∈ TG := TG_in (List.mem_append_right _ (List.mem_of_getElem? (i := 724) (by decide +kernel))) (by decide +kernel)
theorem tw_725 : Cond.selects yX6_when.cls yX6_when yX6_when ∈ TG := TG_in (List.mem_append_right _ (List.mem_of_getElem? (i := 725) (by decide +kernel))) (by decide +kernel)
theorem tw_726 : Cond.code yX6_when cX6_when 5 (some .int) ∈ TG := TG_in (List.mem_append_right _ (List.mem_of_getElem? (i := 726) (by decide +kernel))) (by decide +kernel)
theorem tw_730 : Cond.methodLink RL 56 yX6_settled ∈ TG := TG_in (List.mem_append_right _ (List.mem_of_getElem? (i := 730) (by decide +kernel))) (by decide +kernel)
theorem tw_731 : Cond.instanceMethod yX6_settled ∈ TG := TG_in (List.mem_append_right _ (List.mem_of_getElem? (i := 731) (by decide +kernel))) (by decide +kernel)
theorem tw_732 : Cond.selects yX6_settled.cls yX6_settled yX6_settled ∈ TG := TG_in (List.mem_append_right _ (List.mem_of_getElem? (i := 732) (by decide +kernel))) (by decide +kernel)
theorem tw_733 : Cond.code yX6_settled cX6_settled 3 (some .int) ∈ TG := TG_in (List.mem_append_right _ (List.mem_of_getElem? (i := 733) (by decide +kernel))) (by decide +kernel)
theorem tw_737 : Cond.methodLink RL 59 yX6_quarrels ∈ TG := TG_in (List.mem_append_right _ (List.mem_of_getElem? (i := 737) (by decide +kernel))) (by decide +kernel)
theorem tw_738 : Cond.instanceMethod yX6_quarrels ∈ TG := TG_in (List.mem_append_right _ (List.mem_of_getElem? (i := 738) (by decide +kernel))) (by decide +kernel)
theorem tw_739 : Cond.selects yX6_quarrels.cls yX6_quarrels yX6_quarrels ∈ TG := TG_in (List.mem_append_right _ (List.mem_of_getElem? (i := 739) (by decide +kernel))) (by decide +kernel)
theorem tw_740 : Cond.code yX6_quarrels cX6_quarrels 2 (some .int) ∈ TG := TG_in (List.mem_append_right _ (List.mem_of_getElem? (i := 740) (by decide +kernel))) (by decide +kernel)
theorem tw_744 : Cond.methodLink RL 62 yX6_stick ∈ TG := TG_in (List.mem_append_right _ (List.mem_of_getElem? (i := 744) (by decide +kernel))) (by decide +kernel)
theorem tw_745 : Cond.instanceMethod yX6_stick ∈ TG := TG_in (List.mem_append_right _ (List.mem_of_getElem? (i := 745) (by decide +kernel))) (by decide +kernel)
theorem tw_746 : Cond.selects yX6_stick.cls yX6_stick yX6_stick ∈ TG := TG_in (List.mem_append_right _ (List.mem_of_getElem? (i := 746) (by decide +kernel))) (by decide +kernel)
theorem tw_747 : Cond.code yX6_stick cX6_stick 3 (some .int) ∈ TG := TG_in (List.mem_append_right _ (List.mem_of_getElem? (i := 747) (by decide +kernel))) (by decide +kernel)
theorem tw_751 : Cond.methodLink RL 65 yX6_count ∈ TG := TG_in (List.mem_append_right _ (List.mem_of_getElem? (i := 751) (by decide +kernel))) (by decide +kernel)
theorem tw_752 : Cond.instanceMethod yX6_count ∈ TG := TG_in (List.mem_append_right _ (List.mem_of_getElem? (i := 752) (by decide +kernel))) (by decide +kernel)
theorem tw_753 : Cond.selects yX6_count.cls yX6_count yX6_count ∈ TG := TG_in (List.mem_append_right _ (List.mem_of_getElem? (i := 753) (by decide +kernel))) (by decide +kernel)
theorem tw_754 : Cond.code yX6_count cX6_count 2 (some .int) ∈ TG := TG_in (List.mem_append_right _ (List.mem_of_getElem? (i := 754) (by decide +kernel))) (by decide +kernel)
theorem tw_758 : Cond.methodLink RL 68 yX6_range ∈ TG := TG_in (List.mem_append_right _ (List.mem_of_getElem? (i := 758) (by decide +kernel))) (by decide +kernel)
theorem tw_759 : Cond.instanceMethod yX6_range ∈ TG := TG_in (List.mem_append_right _ (List.mem_of_getElem? (i := 759) (by decide +kernel))) (by decide +kernel)
theorem tw_760 : Cond.selects yX6_range.cls yX6_range yX6_range ∈ TG := TG_in (List.mem_append_right _ (List.mem_of_getElem? (i := 760) (by decide +kernel))) (by decide +kernel)
theorem tw_761 : Cond.code yX6_range cX6_range 5 (some .int) ∈ TG := TG_in (List.mem_append_right _ (List.mem_of_getElem? (i := 761) (by decide +kernel))) (by decide +kernel)
theorem tw_765 : Cond.methodLink RL 71 yX6_alike ∈ TG := TG_in (List.mem_append_right _ (List.mem_of_getElem? (i := 765) (by decide +kernel))) (by decide +kernel)
theorem tw_766 : Cond.instanceMethod yX6_alike ∈ TG := TG_in (List.mem_append_right _ (List.mem_of_getElem? (i := 766) (by decide +kernel))) (by decide +kernel)
theorem tw_767 : Cond.selects yX6_alike.cls yX6_alike yX6_alike ∈ TG := TG_in (List.mem_append_right _ (List.mem_of_getElem? (i := 767) (by decide +kernel))) (by decide +kernel)
theorem tw_768 : Cond.code yX6_alike cX6_alike 2 (some .int) ∈ TG := TG_in (List.mem_append_right _ (List.mem_of_getElem? (i := 768) (by decide +kernel))) (by decide +kernel)
theorem tw_772 : Cond.methodLink RL 74 yX6_peace ∈ TG := TG_in (List.mem_append_right _ (List.mem_of_getElem? (i := 772) (by decide +kernel))) (by decide +kernel)
theorem tw_773 : Cond.instanceMethod yX6_peace ∈ TG := TG_in (List.mem_append_right _ (List.mem_of_getElem? (i := 773) (by decide +kernel))) (by decide +kernel)
theorem tw_774 : Cond.selects yX6_peace.cls yX6_peace yX6_peace ∈ TG := TG_in (List.mem_append_right _ (List.mem_of_getElem? (i := 774) (by decide +kernel))) (by decide +kernel)
theorem tw_775 : Cond.code yX6_peace cX6_peace 3 (some .int) ∈ TG := TG_in (List.mem_append_right _ (List.mem_of_getElem? (i := 775) (by decide +kernel))) (by decide +kernel)
theorem tw_779 : Cond.methodLink RL 77 yX6_moved ∈ TG := TG_in (List.mem_append_right _ (List.mem_of_getElem? (i := 779) (by decide +kernel))) (by decide +kernel)
theorem tw_780 : Cond.instanceMethod yX6_moved ∈ TG := TG_in (List.mem_append_right _ (List.mem_of_getElem? (i := 780) (by decide +kernel))) (by decide +kernel)
theorem tw_781 : Cond.selects yX6_moved.cls yX6_moved yX6_moved ∈ TG := TG_in (List.mem_append_right _ (List.mem_of_getElem? (i := 781) (by decide +kernel))) (by decide +kernel)
theorem tw_782 : Cond.code yX6_moved cX6_moved 3 (some .int) ∈ TG := TG_in (List.mem_append_right _ (List.mem_of_getElem? (i := 782) (by decide +kernel))) (by decide +kernel)
