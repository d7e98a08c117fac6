theorem kN0_1 {c : Nat} (h : kd c = 0) : kd (c + 1) = 3 := (by decide +kernel : ∀ c, c < NC → kd c = 0 → kd (c + 1) = 3) c (kd_lt h (by decide)) h
theorem kN0_6 {c : Nat} (h : kd c = 0) : kd (c + 1 + 5) = 3 := (by decide +kernel : ∀ c, c < NC → kd c = 0 → kd (c + 6) = 3) c (kd_lt h (by decide)) h
theorem kN0_11 {c : Nat} (h : kd c = 0) : kd (c + 1 + 5 + 5) = 3 := (by decide +kernel : ∀ c, c < NC → kd c = 0 → kd (c + 11) = 3) c (kd_lt h (by decide)) h
theorem kN3_1 {c : Nat} (h : kd c = 3) : kd (c + 1) = 4 := (by decide +kernel : ∀ c, c < NC → kd c = 3 → kd (c + 1) = 4) c (kd_lt h (by decide)) h
theorem aN3_1 {c : Nat} (h : kd c = 3) : aln (c + 1 + 1) = 10 := (by decide +kernel : ∀ c, c < NC → kd c = 3 → aln (c + 1 + 1) = 10) c (kd_lt h (by decide)) h
theorem kN3_3 {c : Nat} (h : kd c = 3) : kd (c + 1 + 2) = 4 := (by decide +kernel : ∀ c, c < NC → kd c = 3 → kd (c + 3) = 4) c (kd_lt h (by decide)) h
theorem aN3_3 {c : Nat} (h : kd c = 3) : aln (c + 1 + 2 + 1) = 10 := (by decide +kernel : ∀ c, c < NC → kd c = 3 → aln (c + 3 + 1) = 10) c (kd_lt h (by decide)) h
theorem kN5_1 {c : Nat} (h : kd c = 5) : kd (c + 1) = 4 := (by decide +kernel : ∀ c, c < NC → kd c = 5 → kd (c + 1) = 4) c (kd_lt h (by decide)) h
theorem aN5_1 {c : Nat} (h : kd c = 5) : aln (c + 1 + 1) = 10 := (by decide +kernel : ∀ c, c < NC → kd c = 5 → aln (c + 1 + 1) = 10) c (kd_lt h (by decide)) h
theorem kN5_3 {c : Nat} (h : kd c = 5) : kd (c + 1 + 2) = 4 := (by decide +kernel : ∀ c, c < NC → kd c = 5 → kd (c + 3) = 4) c (kd_lt h (by decide)) h
theorem aN5_3 {c : Nat} (h : kd c = 5) : aln (c + 1 + 2 + 1) = 10 := (by decide +kernel : ∀ c, c < NC → kd c = 5 → aln (c + 3 + 1) = 10) c (kd_lt h (by decide)) h
theorem kN5_5 {c : Nat} (h : kd c = 5) : kd (c + 1 + 2 + 2) = 4 := (by decide +kernel : ∀ c, c < NC → kd c = 5 → kd (c + 5) = 4) c (kd_lt h (by decide)) h
theorem aN5_5 {c : Nat} (h : kd c = 5) : aln (c + 1 + 2 + 2 + 1) = 10 := (by decide +kernel : ∀ c, c < NC → kd c = 5 → aln (c + 5 + 1) = 10) c (kd_lt h (by decide)) h
theorem kN5_7 {c : Nat} (h : kd c = 5) : kd (c + 1 + 2 + 2 + 2) = 4 := (by decide +kernel : ∀ c, c < NC → kd c = 5 → kd (c + 7) = 4) c (kd_lt h (by decide)) h
theorem aN5_7 {c : Nat} (h : kd c = 5) : aln (c + 1 + 2 + 2 + 2 + 1) = 10 := (by decide +kernel : ∀ c, c < NC → kd c = 5 → aln (c + 7 + 1) = 10) c (kd_lt h (by decide)) h
theorem kN5_9 {c : Nat} (h : kd c = 5) : kd (c + 1 + 2 + 2 + 2 + 2) = 4 := (by decide +kernel : ∀ c, c < NC → kd c = 5 → kd (c + 9) = 4) c (kd_lt h (by decide)) h
theorem aN5_9 {c : Nat} (h : kd c = 5) : aln (c + 1 + 2 + 2 + 2 + 2 + 1) = 3 := (by decide +kernel : ∀ c, c < NC → kd c = 5 → aln (c + 9 + 1) = 3) c (kd_lt h (by decide)) h
theorem kN5_11 {c : Nat} (h : kd c = 5) : kd (c + 1 + 2 + 2 + 2 + 2 + 2) = 4 := (by decide +kernel : ∀ c, c < NC → kd c = 5 → kd (c + 11) = 4) c (kd_lt h (by decide)) h
theorem aN5_11 {c : Nat} (h : kd c = 5) : aln (c + 1 + 2 + 2 + 2 + 2 + 2 + 1) = 5 := (by decide +kernel : ∀ c, c < NC → kd c = 5 → aln (c + 11 + 1) = 5) c (kd_lt h (by decide)) h
theorem kN5_13 {c : Nat} (h : kd c = 5) : kd (c + 1 + 2 + 2 + 2 + 2 + 2 + 2) = 4 := (by decide +kernel : ∀ c, c < NC → kd c = 5 → kd (c + 13) = 4) c (kd_lt h (by decide)) h
theorem aN5_13 {c : Nat} (h : kd c = 5) : aln (c + 1 + 2 + 2 + 2 + 2 + 2 + 2 + 1) = 5 := (by decide +kernel : ∀ c, c < NC → kd c = 5 → aln (c + 13 + 1) = 5) c (kd_lt h (by decide)) h
theorem kN5_15 {c : Nat} (h : kd c = 5) : kd (c + 1 + 2 + 2 + 2 + 2 + 2 + 2 + 2) = 4 := (by decide +kernel : ∀ c, c < NC → kd c = 5 → kd (c + 15) = 4) c (kd_lt h (by decide)) h
theorem aN5_15 {c : Nat} (h : kd c = 5) : aln (c + 1 + 2 + 2 + 2 + 2 + 2 + 2 + 2 + 1) = 5 := (by decide +kernel : ∀ c, c < NC → kd c = 5 → aln (c + 15 + 1) = 5) c (kd_lt h (by decide)) h
theorem kN5_17 {c : Nat} (h : kd c = 5) : kd (c + 1 + 2 + 2 + 2 + 2 + 2 + 2 + 2 + 2) = 4 := (by decide +kernel : ∀ c, c < NC → kd c = 5 → kd (c + 17) = 4) c (kd_lt h (by decide)) h
theorem aN5_17 {c : Nat} (h : kd c = 5) : aln (c + 1 + 2 + 2 + 2 + 2 + 2 + 2 + 2 + 2 + 1) = 50 := (by decide +kernel : ∀ c, c < NC → kd c = 5 → aln (c + 17 + 1) = 50) c (kd_lt h (by decide)) h
theorem hc_3 : yX3_init.cls ≠ "java/lang/invoke/MethodHandle" ∧ yX3_init.cls ≠ "java/lang/invoke/VarHandle" ∧ (parseMethodDescriptor yX3_init.desc).map (fun d => d.parameters.length) = some 0 := by decide +kernel
theorem hc_4 : yX4_init.cls ≠ "java/lang/invoke/MethodHandle" ∧ yX4_init.cls ≠ "java/lang/invoke/VarHandle" ∧ (parseMethodDescriptor yX4_init.desc).map (fun d => d.parameters.length) = some 1 := by decide +kernel
theorem hc_5 : yX5_init.cls ≠ "java/lang/invoke/MethodHandle" ∧ yX5_init.cls ≠ "java/lang/invoke/VarHandle" ∧ (parseMethodDescriptor yX5_init.desc).map (fun d => d.parameters.length) = some 0 := by decide +kernel
theorem wa_int : Cond.arrayClass .int ∈ TG := TG_in (by decide +kernel) (by decide +kernel)
theorem wc_0_9 : Cond.classLink RX0 9 RX3 ∈ TG := TG_in (by decide +kernel) (by decide +kernel)
theorem wc_1_9 : Cond.classLink RX1 9 RX5 ∈ TG := TG_in (by decide +kernel) (by decide +kernel)
theorem wc_3_9 : Cond.classLink RX3 9 RX4 ∈ TG := TG_in (by decide +kernel) (by decide +kernel)
theorem wc_5_15 : Cond.classLink RX5 15 RX4 ∈ TG := TG_in (by decide +kernel) (by decide +kernel)
theorem wd_3 : Cond.code yX3_init cX3_init 1 none ∈ TG := TG_in (by decide +kernel) (by decide +kernel)
theorem wd_4 : Cond.code yX4_init cX4_init 2 none ∈ TG := TG_in (by decide +kernel) (by decide +kernel)
theorem wd_5 : Cond.code yX5_init cX5_init 1 none ∈ TG := TG_in (by decide +kernel) (by decide +kernel)
theorem wf_0_12 : Cond.fieldLink RX0 12 RX0 "first" "LRunicSticks$Reckoning;" ∈ TG := TG_in (by decide +kernel) (by decide +kernel)
theorem wf_0_18 : Cond.fieldLink RX0 18 RX0 "second" "LRunicSticks$Reckoning;" ∈ TG := TG_in (by decide +kernel) (by decide +kernel)
theorem wf_0_21 : Cond.fieldLink RX0 21 RX0 "third" "LRunicSticks$Reckoning;" ∈ TG := TG_in (by decide +kernel) (by decide +kernel)
theorem wf_1_11 : Cond.fieldLink RX1 11 RX1 "ring" "[LRunicSticks$State;" ∈ TG := TG_in (by decide +kernel) (by decide +kernel)
theorem wf_1_17 : Cond.fieldLink RX1 17 RX1 "oldest" "I" ∈ TG := TG_in (by decide +kernel) (by decide +kernel)
theorem wf_1_21 : Cond.fieldLink RX1 21 RX1 "saved" "I" ∈ TG := TG_in (by decide +kernel) (by decide +kernel)
theorem wf_3_14 : Cond.fieldLink RX3 14 RX3 "propers" "LRunicSticks$Row;" ∈ TG := TG_in (by decide +kernel) (by decide +kernel)
theorem wf_3_20 : Cond.fieldLink RX3 20 RX3 "notches" "LRunicSticks$Row;" ∈ TG := TG_in (by decide +kernel) (by decide +kernel)
theorem wf_4_9 : Cond.fieldLink RX4 9 RX4 "cells" "[I" ∈ TG := TG_in (by decide +kernel) (by decide +kernel)
theorem wf_5_20 : Cond.fieldLink RX5 20 RX5 "rules" "LRunicSticks$Row;" ∈ TG := TG_in (by decide +kernel) (by decide +kernel)
theorem wf_5_24 : Cond.fieldLink RX5 24 RX5 "ranks" "LRunicSticks$Row;" ∈ TG := TG_in (by decide +kernel) (by decide +kernel)
theorem wf_5_27 : Cond.fieldLink RX5 27 RX5 "days" "LRunicSticks$Row;" ∈ TG := TG_in (by decide +kernel) (by decide +kernel)
theorem wf_5_30 : Cond.fieldLink RX5 30 RX5 "others" "LRunicSticks$Row;" ∈ TG := TG_in (by decide +kernel) (by decide +kernel)
theorem wf_5_33 : Cond.fieldLink RX5 33 RX5 "slips" "LRunicSticks$Row;" ∈ TG := TG_in (by decide +kernel) (by decide +kernel)
theorem wf_5_36 : Cond.fieldLink RX5 36 RX5 "moonYears" "I" ∈ TG := TG_in (by decide +kernel) (by decide +kernel)
theorem wf_5_39 : Cond.fieldLink RX5 39 RX5 "sticks" "I" ∈ TG := TG_in (by decide +kernel) (by decide +kernel)
theorem wf_5_42 : Cond.fieldLink RX5 42 RX5 "stickYears" "LRunicSticks$Row;" ∈ TG := TG_in (by decide +kernel) (by decide +kernel)
theorem wf_5_45 : Cond.fieldLink RX5 45 RX5 "stickCarvers" "LRunicSticks$Row;" ∈ TG := TG_in (by decide +kernel) (by decide +kernel)
theorem wf_5_48 : Cond.fieldLink RX5 48 RX5 "stickFeasts" "LRunicSticks$Row;" ∈ TG := TG_in (by decide +kernel) (by decide +kernel)
theorem wf_5_51 : Cond.fieldLink RX5 51 RX5 "stickNotches" "LRunicSticks$Row;" ∈ TG := TG_in (by decide +kernel) (by decide +kernel)
theorem wf_5_9 : Cond.fieldLink RX5 9 RX5 "feasts" "I" ∈ TG := TG_in (by decide +kernel) (by decide +kernel)
theorem wi_3 : Cond.instantiable RX3 5 ∈ TG := TG_in (by decide +kernel) (by decide +kernel)
theorem wi_4 : Cond.instantiable RX4 1 ∈ TG := TG_in (by decide +kernel) (by decide +kernel)
theorem wi_5 : Cond.instantiable RX5 12 ∈ TG := TG_in (by decide +kernel) (by decide +kernel)
theorem wm_3_11 : Cond.methodLink RX3 11 yX4_init ∈ TG := TG_in (by decide +kernel) (by decide +kernel)
theorem wm_5_17 : Cond.methodLink RX5 17 yX4_init ∈ TG := TG_in (by decide +kernel) (by decide +kernel)
theorem wn_3 : Cond.instanceMethod yX3_init ∈ TG := TG_in (by decide +kernel) (by decide +kernel)
theorem wn_4 : Cond.instanceMethod yX4_init ∈ TG := TG_in (by decide +kernel) (by decide +kernel)
theorem wn_5 : Cond.instanceMethod yX5_init ∈ TG := TG_in (by decide +kernel) (by decide +kernel)
theorem wo2 : Cond.instanceMethod Lib.objectInit ∈ TG := TG_in (by decide +kernel) (by decide +kernel)
theorem wo3 : Cond.code Lib.objectInit ⟨#[0xb1]⟩ 1 none ∈ TG := TG_in (by decide +kernel) (by decide +kernel)
theorem wo_0 : Cond.methodLink RX0 3 Lib.objectInit ∈ TG := TG_in (by decide +kernel) (by decide +kernel)
theorem wo_1 : Cond.methodLink RX1 3 Lib.objectInit ∈ TG := TG_in (by decide +kernel) (by decide +kernel)
theorem wo_2 : Cond.methodLink RX2 3 Lib.objectInit ∈ TG := TG_in (by decide +kernel) (by decide +kernel)
theorem wo_3 : Cond.methodLink RX3 3 Lib.objectInit ∈ TG := TG_in (by decide +kernel) (by decide +kernel)
theorem wo_4 : Cond.methodLink RX4 3 Lib.objectInit ∈ TG := TG_in (by decide +kernel) (by decide +kernel)
theorem wo_5 : Cond.methodLink RX5 3 Lib.objectInit ∈ TG := TG_in (by decide +kernel) (by decide +kernel)
