theorem tw_404 : Cond.methodLink RL 96 yL_cell ∈ TG := TG_in (List.mem_append_right _ (List.mem_of_getElem? (i := 404) (by decide +kernel))) (by decide +kernel)
theorem tw_405 : Cond.static yL_cell ∈ TG := TG_in (List.mem_append_right _ (List.mem_of_getElem? (i := 405) (by decide +kernel))) (by decide +kernel)
theorem tw_406 : Cond.code yL_cell cL_cell 2 (some .int) ∈ TG := TG_in (List.mem_append_right _ (List.mem_of_getElem? (i := 406) (by decide +kernel))) (by decide +kernel)
theorem tw_411 : Cond.methodLink RL 100 yL_does ∈ TG := TG_in (List.mem_append_right _ (List.mem_of_getElem? (i := 411) (by decide +kernel))) (by decide +kernel)
theorem tw_412 : Cond.static yL_does ∈ TG := TG_in (List.mem_append_right _ (List.mem_of_getElem? (i := 412) (by decide +kernel))) (by decide +kernel)
theorem tw_413 : Cond.code yL_does cL_does 3 (some .int) ∈ TG := TG_in (List.mem_append_right _ (List.mem_of_getElem? (i := 413) (by decide +kernel))) (by decide +kernel)
theorem tw_588 : Cond.methodLink RL 104 yL_areNotchesSo ∈ TG := TG_in (List.mem_append_right _ (List.mem_of_getElem? (i := 588) (by decide +kernel))) (by decide +kernel)
theorem tw_589 : Cond.static yL_areNotchesSo ∈ TG := TG_in (List.mem_append_right _ (List.mem_of_getElem? (i := 589) (by decide +kernel))) (by decide +kernel)
theorem tw_590 : Cond.code yL_areNotchesSo cL_areNotchesSo 15 (some .boolean) ∈ TG := TG_in (List.mem_append_right _ (List.mem_of_getElem? (i := 590) (by decide +kernel))) (by decide +kernel)
theorem tw_640 : Cond.methodLink RL 108 yL_areQuarrelsSo ∈ TG := TG_in (List.mem_append_right _ (List.mem_of_getElem? (i := 640) (by decide +kernel))) (by decide +kernel)
theorem tw_641 : Cond.static yL_areQuarrelsSo ∈ TG := TG_in (List.mem_append_right _ (List.mem_of_getElem? (i := 641) (by decide +kernel))) (by decide +kernel)
theorem tw_642 : Cond.code yL_areQuarrelsSo cL_areQuarrelsSo 8 (some .boolean) ∈ TG := TG_in (List.mem_append_right _ (List.mem_of_getElem? (i := 642) (by decide +kernel))) (by decide +kernel)
theorem tw_655 : Cond.methodLink RL 112 yL_areSticksSo ∈ TG := TG_in (List.mem_append_right _ (List.mem_of_getElem? (i := 655) (by decide +kernel))) (by decide +kernel)
theorem tw_656 : Cond.static yL_areSticksSo ∈ TG := TG_in (List.mem_append_right _ (List.mem_of_getElem? (i := 656) (by decide +kernel))) (by decide +kernel)
theorem tw_657 : Cond.code yL_areSticksSo cL_areSticksSo 10 (some .boolean) ∈ TG := TG_in (List.mem_append_right _ (List.mem_of_getElem? (i := 657) (by decide +kernel))) (by decide +kernel)
theorem tw_666 : Cond.methodLink RL 116 yL_isPeaceSo ∈ TG := TG_in (List.mem_append_right _ (List.mem_of_getElem? (i := 666) (by decide +kernel))) (by decide +kernel)
theorem tw_667 : Cond.static yL_isPeaceSo ∈ TG := TG_in (List.mem_append_right _ (List.mem_of_getElem? (i := 667) (by decide +kernel))) (by decide +kernel)
theorem tw_668 : Cond.code yL_isPeaceSo cL_isPeaceSo 10 (some .boolean) ∈ TG := TG_in (List.mem_append_right _ (List.mem_of_getElem? (i := 668) (by decide +kernel))) (by decide +kernel)
theorem tw_691 : Cond.methodLink RL 119 yL_isAlikeSo ∈ TG := TG_in (List.mem_append_right _ (List.mem_of_getElem? (i := 691) (by decide +kernel))) (by decide +kernel)
theorem tw_692 : Cond.static yL_isAlikeSo ∈ TG := TG_in (List.mem_append_right _ (List.mem_of_getElem? (i := 692) (by decide +kernel))) (by decide +kernel)
theorem tw_693 : Cond.code yL_isAlikeSo cL_isAlikeSo 6 (some .boolean) ∈ TG := TG_in (List.mem_append_right _ (List.mem_of_getElem? (i := 693) (by decide +kernel))) (by decide +kernel)
theorem hd_L_areNotchesSo : yL_areNotchesSo.cls ≠ "java/lang/invoke/MethodHandle" ∧ yL_areNotchesSo.cls ≠ "java/lang/invoke/VarHandle" ∧ (parseMethodDescriptor yL_areNotchesSo.desc).map (fun d => d.parameters.length) = some 3 := by decide +kernel
theorem hd_L_areQuarrelsSo : yL_areQuarrelsSo.cls ≠ "java/lang/invoke/MethodHandle" ∧ yL_areQuarrelsSo.cls ≠ "java/lang/invoke/VarHandle" ∧ (parseMethodDescriptor yL_areQuarrelsSo.desc).map (fun d => d.parameters.length) = some 2 := by decide +kernel
theorem hd_L_areSticksSo : yL_areSticksSo.cls ≠ "java/lang/invoke/MethodHandle" ∧ yL_areSticksSo.cls ≠ "java/lang/invoke/VarHandle" ∧ (parseMethodDescriptor yL_areSticksSo.desc).map (fun d => d.parameters.length) = some 1 := by decide +kernel
theorem hd_L_cell : yL_cell.cls ≠ "java/lang/invoke/MethodHandle" ∧ yL_cell.cls ≠ "java/lang/invoke/VarHandle" ∧ (parseMethodDescriptor yL_cell.desc).map (fun d => d.parameters.length) = some 2 := by decide +kernel
theorem hd_L_does : yL_does.cls ≠ "java/lang/invoke/MethodHandle" ∧ yL_does.cls ≠ "java/lang/invoke/VarHandle" ∧ (parseMethodDescriptor yL_does.desc).map (fun d => d.parameters.length) = some 2 := by decide +kernel
theorem hd_L_isAlikeSo : yL_isAlikeSo.cls ≠ "java/lang/invoke/MethodHandle" ∧ yL_isAlikeSo.cls ≠ "java/lang/invoke/VarHandle" ∧ (parseMethodDescriptor yL_isAlikeSo.desc).map (fun d => d.parameters.length) = some 2 := by decide +kernel
theorem hd_L_isPeaceSo : yL_isPeaceSo.cls ≠ "java/lang/invoke/MethodHandle" ∧ yL_isPeaceSo.cls ≠ "java/lang/invoke/VarHandle" ∧ (parseMethodDescriptor yL_isPeaceSo.desc).map (fun d => d.parameters.length) = some 3 := by decide +kernel
