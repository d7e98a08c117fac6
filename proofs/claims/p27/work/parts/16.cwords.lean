theorem kN0_1 {c : Nat} (h : kd c = 0) : kd (c + 1) = 3 := (by decide +kernel : ∀ c, c < NC → kd c = 0 → kd (c + 1) = 3) c (kd_lt h (by decide)) h
theorem kN0_6 {c : Nat} (h : kd c = 0) : kd (c + 1 + 5) = 3 := (by decide +kernel : ∀ c, c < NC → kd c = 0 → kd (c + 6) = 3) c (kd_lt h (by decide)) h
theorem kN0_11 {c : Nat} (h : kd c = 0) : kd (c + 1 + 5 + 5) = 3 := (by decide +kernel : ∀ c, c < NC → kd c = 0 → kd (c + 11) = 3) c (kd_lt h (by decide)) h
theorem kN3_1 {c : Nat} (h : kd c = 3) : kd (c + 1) = 4 := (by decide +kernel : ∀ c, c < NC → kd c = 3 → kd (c + 1) = 4) c (kd_lt h (by decide)) h
theorem aN3_1 {c : Nat} (h : kd c = 3) : aln (c + 1 + 1) = 10 := (by decide +kernel : ∀ c, c < NC → kd c = 3 → aln (c + 1 + 1) = 10) c (kd_lt h (by decide)) h
theorem kN3_3 {c : Nat} (h : kd c = 3) : kd (c + 1 + 2) = 4 := (by decide +kernel : ∀ c, c < NC → kd c = 3 → kd (c + 3) = 4) c (kd_lt h (by decide)) h
theorem aN3_3 {c : Nat} (h : kd c = 3) : aln (c + 1 + 2 + 1) = 10 := (by decide +kernel : ∀ c, c < NC → kd c = 3 → aln (c + 3 + 1) = 10) c (kd_lt h (by decide)) h
theorem kN5_1 {c : Nat} (h : kd c = 5) : kd (c + 1) = 4 := (by decide +kernel : ∀ c, c < NC → kd c = 5 → kd (c + 1) = 4) c (kd_lt h (by decide)) h
theorem aN5_1 {c : Nat} (h : kd c = 5) : aln (c + 1 + 1) = 10 := (by decide +kernel : ∀ c, c < NC → kd c = 5 → aln (c + 1 + 1) = 10) c (kd_lt h (by decide)) h
theorem kN5_3 {c : Nat} (h : kd c = 5) : kd (c + 1 + 2) = 4 := (by decide +kernel : ∀ c, c < NC → kd c = 5 → kd (c + 3) = 4) c (kd_lt h (by decide)) h
theorem aN5_3 {c : Nat} (h : kd c = 5) : aln (c + 1 + 2 + 1) = 10 := (by decide +kernel : ∀ c, c < NC → kd c = 5 → aln (c + 3 + 1) = 10) c (kd_lt h (by decide)) h
theorem kN5_5 {c : Nat} (h : kd c = 5) : kd (c + 1 + 2 + 2) = 4 := (by decide +kernel : ∀ c, c < NC → kd c = 5 → kd (c + 5) = 4) c (kd_lt h (by decide)) h
theorem aN5_5 {c : Nat} (h : kd c = 5) : aln (c + 1 + 2 + 2 + 1) = 10 := (by decide +kernel : ∀ c, c < NC → kd c = 5 → aln (c + 5 + 1) = 10) c (kd_lt h (by decide)) h
theorem kN5_7 {c : Nat} (h : kd c = 5) : kd (c + 1 + 2 + 2 + 2) = 4 := (by decide +kernel : ∀ c, c < NC → kd c = 5 → kd (c + 7) = 4) c (kd_lt h (by decide)) h
theorem aN5_7 {c : Nat} (h : kd c = 5) : aln (c + 1 + 2 + 2 + 2 + 1) = 10 := (by decide +kernel : ∀ c, c < NC → kd c = 5 → aln (c + 7 + 1) = 10) c (kd_lt h (by decide)) h
theorem kN5_9 {c : Nat} (h : kd c = 5) : kd (c + 1 + 2 + 2 + 2 + 2) = 4 := (by decide +kernel : ∀ c, c < NC → kd c = 5 → kd (c + 9) = 4) c (kd_lt h (by decide)) h
theorem aN5_9 {c : Nat} (h : kd c = 5) : aln (c + 1 + 2 + 2 + 2 + 2 + 1) = 3 := (by decide +kernel : ∀ c, c < NC → kd c = 5 → aln (c + 9 + 1) = 3) c (kd_lt h (by decide)) h
theorem kN5_11 {c : Nat} (h : kd c = 5) : kd (c + 1 + 2 + 2 + 2 + 2 + 2) = 4 := (by decide +kernel : ∀ c, c < NC → kd c = 5 → kd (c + 11) = 4) c (kd_lt h (by decide)) h
theorem aN5_11 {c : Nat} (h : kd c = 5) : aln (c + 1 + 2 + 2 + 2 + 2 + 2 + 1) = 5 := (by decide +kernel : ∀ c, c < NC → kd c = 5 → aln (c + 11 + 1) = 5) c (kd_lt h (by decide)) h
theorem kN5_13 {c : Nat} (h : kd c = 5) : kd (c + 1 + 2 + 2 + 2 + 2 + 2 + 2) = 4 := (by decide +kernel : ∀ c, c < NC → kd c = 5 → kd (c + 13) = 4) c (kd_lt h (by decide)) h
theorem aN5_13 {c : Nat} (h : kd c = 5) : aln (c + 1 + 2 + 2 + 2 + 2 + 2 + 2 + 1) = 5 := (by decide +kernel : ∀ c, c < NC → kd c = 5 → aln (c + 13 + 1) = 5) c (kd_lt h (by decide)) h
theorem kN5_15 {c : Nat} (h : kd c = 5) : kd (c + 1 + 2 + 2 + 2 + 2 + 2 + 2 + 2) = 4 := (by decide +kernel : ∀ c, c < NC → kd c = 5 → kd (c + 15) = 4) c (kd_lt h (by decide)) h
theorem aN5_15 {c : Nat} (h : kd c = 5) : aln (c + 1 + 2 + 2 + 2 + 2 + 2 + 2 + 2 + 1) = 5 := (by decide +kernel : ∀ c, c < NC → kd c = 5 → aln (c + 15 + 1) = 5) c (kd_lt h (by decide)) h
theorem kN5_17 {c : Nat} (h : kd c = 5) : kd (c + 1 + 2 + 2 + 2 + 2 + 2 + 2 + 2 + 2) = 4 := (by decide +kernel : ∀ c, c < NC → kd c = 5 → kd (c + 17) = 4) c (kd_lt h (by decide)) h
theorem aN5_17 {c : Nat} (h : kd c = 5) : aln (c + 1 + 2 + 2 + 2 + 2 + 2 + 2 + 2 + 2 + 1) = 50 := (by decide +kernel : ∀ c, c < NC → kd c = 5 → aln (c + 17 + 1) = 50) c (kd_lt h (by decide)) h
theorem hc_0 : yX0_init.cls ≠ "java/lang/invoke/MethodHandle" ∧ yX0_init.cls ≠ "java/lang/invoke/VarHandle" ∧ (parseMethodDescriptor yX0_init.desc).map (fun d => d.parameters.length) = some 0 := by decide +kernel
theorem hc_1 : yX1_init.cls ≠ "java/lang/invoke/MethodHandle" ∧ yX1_init.cls ≠ "java/lang/invoke/VarHandle" ∧ (parseMethodDescriptor yX1_init.desc).map (fun d => d.parameters.length) = some 0 := by decide +kernel
theorem hc_2 : yX2_init.cls ≠ "java/lang/invoke/MethodHandle" ∧ yX2_init.cls ≠ "java/lang/invoke/VarHandle" ∧ (parseMethodDescriptor yX2_init.desc).map (fun d => d.parameters.length) = some 0 := by decide +kernel
theorem hc_3 : yX3_init.cls ≠ "java/lang/invoke/MethodHandle" ∧ yX3_init.cls ≠ "java/lang/invoke/VarHandle" ∧ (parseMethodDescriptor yX3_init.desc).map (fun d => d.parameters.length) = some 0 := by decide +kernel
theorem hc_4 : yX4_init.cls ≠ "java/lang/invoke/MethodHandle" ∧ yX4_init.cls ≠ "java/lang/invoke/VarHandle" ∧ (parseMethodDescriptor yX4_init.desc).map (fun d => d.parameters.length) = some 1 := by decide +kernel
theorem hc_5 : yX5_init.cls ≠ "java/lang/invoke/MethodHandle" ∧ yX5_init.cls ≠ "java/lang/invoke/VarHandle" ∧ (parseMethodDescriptor yX5_init.desc).map (fun d => d.parameters.length) = some 0 := by decide +kernel
theorem wa_int : Cond.arrayClass .int ∈ TG := TG_in (by decide +kernel) (by decide +kernel)
theorem wc_0_9 : Cond.classLink RX0 9 RX3 ∈ TG := TG_in (by decide +kernel) (by decide +kernel)
theorem wc_1_9 : Cond.classLink RX1 9 RX5 ∈ TG := TG_in (by decide +kernel) (by decide +kernel)
theorem wc_3_9 : Cond.classLink RX3 9 RX4 ∈ TG := TG_in (by decide +kernel) (by decide +kernel)
theorem wc_5_15 : Cond.classLink RX5 15 RX4 ∈ TG := TG_in (by decide +kernel) (by decide +kernel)
theorem wc_6_16 : Cond.classLink RX6 16 RX1 ∈ TG := TG_in (by decide +kernel) (by decide +kernel)
theorem wc_6_23 : Cond.classLink RX6 23 RX4 ∈ TG := TG_in (by decide +kernel) (by decide +kernel)
theorem wc_6_32 : Cond.classLink RX6 32 RX2 ∈ TG := TG_in (by decide +kernel) (by decide +kernel)
theorem wc_6_39 : Cond.classLink RX6 39 RX3 ∈ TG := TG_in (by decide +kernel) (by decide +kernel)
theorem wc_6_46 : Cond.classLink RX6 46 RX0 ∈ TG := TG_in (by decide +kernel) (by decide +kernel)
theorem wc_6_9 : Cond.classLink RX6 9 RX5 ∈ TG := TG_in (by decide +kernel) (by decide +kernel)
theorem wd_0 : Cond.code yX0_init cX0_init 1 none ∈ TG := TG_in (by decide +kernel) (by decide +kernel)
theorem wd_1 : Cond.code yX1_init cX1_init 2 none ∈ TG := TG_in (by decide +kernel) (by decide +kernel)
theorem wd_2 : Cond.code yX2_init cX2_init 1 none ∈ TG := TG_in (by decide +kernel) (by decide +kernel)
theorem wd_3 : Cond.code yX3_init cX3_init 1 none ∈ TG := TG_in (by decide +kernel) (by decide +kernel)
theorem wd_4 : Cond.code yX4_init cX4_init 2 none ∈ TG := TG_in (by decide +kernel) (by decide +kernel)
theorem wd_5 : Cond.code yX5_init cX5_init 1 none ∈ TG := TG_in (by decide +kernel) (by decide +kernel)
theorem wf_0_12 : Cond.fieldLink RX0 12 RX0 "first" "LRunicSticks$Reckoning;" ∈ TG := TG_in (by decide +kernel) (by decide +kernel)
theorem wf_0_18 : Cond.fieldLink RX0 18 RX0 "second" "LRunicSticks$Reckoning;" ∈ TG := TG_in (by decide +kernel) (by decide +kernel)
theorem wf_0_21 : Cond.fieldLink RX0 21 RX0 "third" "LRunicSticks$Reckoning;" ∈ TG := TG_in (by decide +kernel) (by decide +kernel)
theorem wf_1_11 : Cond.fieldLink RX1 11 RX1 "ring" "[LRunicSticks$State;" ∈ TG := TG_in (by decide +kernel) (by decide +kernel)
theorem wf_1_17 : Cond.fieldLink RX1 17 RX1 "oldest" "I" ∈ TG := TG_in (by decide +kernel) (by decide +kernel)
theorem wf_1_21 : Cond.fieldLink RX1 21 RX1 "saved" "I" ∈ TG := TG_in (by decide +kernel) (by decide +kernel)
theorem wf_3_14 : Cond.fieldLink RX3 14 RX3 "propers" "LRunicSticks$Row;" ∈ TG := TG_in (by decide +kernel) (by decide +kernel)
theorem wf_3_20 : Cond.fieldLink RX3 20 RX3 "notches" "LRunicSticks$Row;" ∈ TG := TG_in (by decide +kernel) (by decide +kernel)
theorem wf_4_9 : Cond.fieldLink RX4 9 RX4 "cells" "[I" ∈ TG := TG_in (by decide +kernel) (by decide +kernel)
theorem wf_5_20 : Cond.fieldLink RX5 20 RX5 "rules" "LRunicSticks$Row;" ∈ TG := TG_in (by decide +kernel) (by decide +kernel)
theorem wf_5_24 : Cond.fieldLink RX5 24 RX5 "ranks" "LRunicSticks$Row;" ∈ TG := TG_in (by decide +kernel) (by decide +kernel)
theorem wf_5_27 : Cond.fieldLink RX5 27 RX5 "days" "LRunicSticks$Row;" ∈ TG := TG_in (by decide +kernel) (by decide +kernel)
theorem wf_5_30 : Cond.fieldLink RX5 30 RX5 "others" "LRunicSticks$Row;" ∈ TG := TG_in (by decide +kernel) (by decide +kernel)
theorem wf_5_33 : Cond.fieldLink RX5 33 RX5 "slips" "LRunicSticks$Row;" ∈ TG := TG_in (by decide +kernel) (by decide +kernel)
theorem wf_5_36 : Cond.fieldLink RX5 36 RX5 "moonYears" "I" ∈ TG := TG_in (by decide +kernel) (by decide +kernel)
theorem wf_5_39 : Cond.fieldLink RX5 39 RX5 "sticks" "I" ∈ TG := TG_in (by decide +kernel) (by decide +kernel)
theorem wf_5_42 : Cond.fieldLink RX5 42 RX5 "stickYears" "LRunicSticks$Row;" ∈ TG := TG_in (by decide +kernel) (by decide +kernel)
theorem wf_5_45 : Cond.fieldLink RX5 45 RX5 "stickCarvers" "LRunicSticks$Row;" ∈ TG := TG_in (by decide +kernel) (by decide +kernel)
theorem wf_5_48 : Cond.fieldLink RX5 48 RX5 "stickFeasts" "LRunicSticks$Row;" ∈ TG := TG_in (by decide +kernel) (by decide +kernel)
theorem wf_5_51 : Cond.fieldLink RX5 51 RX5 "stickNotches" "LRunicSticks$Row;" ∈ TG := TG_in (by decide +kernel) (by decide +kernel)
theorem wf_5_9 : Cond.fieldLink RX5 9 RX5 "feasts" "I" ∈ TG := TG_in (by decide +kernel) (by decide +kernel)
theorem wf_6_12 : Cond.fieldLink RX6 12 RX6 "now" "LRunicSticks$State;" ∈ TG := TG_in (by decide +kernel) (by decide +kernel)
theorem wf_6_19 : Cond.fieldLink RX6 19 RX6 "history" "LRunicSticks$History;" ∈ TG := TG_in (by decide +kernel) (by decide +kernel)
theorem wf_6_28 : Cond.fieldLink RX6 28 RX6 "buffer" "LRunicSticks$Row;" ∈ TG := TG_in (by decide +kernel) (by decide +kernel)
theorem wf_6_35 : Cond.fieldLink RX6 35 RX6 "reader" "LRunicSticks$Reader;" ∈ TG := TG_in (by decide +kernel) (by decide +kernel)
theorem wf_6_42 : Cond.fieldLink RX6 42 RX6 "reckoning" "LRunicSticks$Reckoning;" ∈ TG := TG_in (by decide +kernel) (by decide +kernel)
theorem wf_6_49 : Cond.fieldLink RX6 49 RX6 "council" "LRunicSticks$Council;" ∈ TG := TG_in (by decide +kernel) (by decide +kernel)
theorem wf_6_53 : Cond.fieldLink RX6 53 RX6 "rival" "LRunicSticks$Council;" ∈ TG := TG_in (by decide +kernel) (by decide +kernel)
theorem wf_6_56 : Cond.fieldLink RX6 56 RX6 "DIGEST_YEARS" "[I" ∈ TG := TG_in (by decide +kernel) (by decide +kernel)
theorem wf_6_60 : Cond.fieldLink RX6 60 RX6 "digestCouncils" "[LRunicSticks$Council;" ∈ TG := TG_in (by decide +kernel) (by decide +kernel)
theorem wf_6_64 : Cond.fieldLink RX6 64 RX6 "bufferLength" "I" ∈ TG := TG_in (by decide +kernel) (by decide +kernel)
theorem wi_0 : Cond.instantiable RX0 3 ∈ TG := TG_in (by decide +kernel) (by decide +kernel)
theorem wi_1 : Cond.instantiable RX1 3 ∈ TG := TG_in (by decide +kernel) (by decide +kernel)
theorem wi_2 : Cond.instantiable RX2 6 ∈ TG := TG_in (by decide +kernel) (by decide +kernel)
theorem wi_3 : Cond.instantiable RX3 5 ∈ TG := TG_in (by decide +kernel) (by decide +kernel)
theorem wi_4 : Cond.instantiable RX4 1 ∈ TG := TG_in (by decide +kernel) (by decide +kernel)
theorem wi_5 : Cond.instantiable RX5 12 ∈ TG := TG_in (by decide +kernel) (by decide +kernel)
theorem wm_3_11 : Cond.methodLink RX3 11 yX4_init ∈ TG := TG_in (by decide +kernel) (by decide +kernel)
theorem wm_5_17 : Cond.methodLink RX5 17 yX4_init ∈ TG := TG_in (by decide +kernel) (by decide +kernel)
theorem wm_6_18 : Cond.methodLink RX6 18 yX1_init ∈ TG := TG_in (by decide +kernel) (by decide +kernel)
theorem wm_6_25 : Cond.methodLink RX6 25 yX4_init ∈ TG := TG_in (by decide +kernel) (by decide +kernel)
theorem wn_0 : Cond.instanceMethod yX0_init ∈ TG := TG_in (by decide +kernel) (by decide +kernel)
theorem wn_1 : Cond.instanceMethod yX1_init ∈ TG := TG_in (by decide +kernel) (by decide +kernel)
theorem wn_2 : Cond.instanceMethod yX2_init ∈ TG := TG_in (by decide +kernel) (by decide +kernel)
theorem wn_3 : Cond.instanceMethod yX3_init ∈ TG := TG_in (by decide +kernel) (by decide +kernel)
theorem wn_4 : Cond.instanceMethod yX4_init ∈ TG := TG_in (by decide +kernel) (by decide +kernel)
theorem wn_5 : Cond.instanceMethod yX5_init ∈ TG := TG_in (by decide +kernel) (by decide +kernel)
theorem wo2 : Cond.instanceMethod Lib.objectInit ∈ TG := TG_in (by decide +kernel) (by decide +kernel)
theorem wo3 : Cond.code Lib.objectInit ⟨#[0xb1]⟩ 1 none ∈ TG := TG_in (by decide +kernel) (by decide +kernel)
theorem wo_0 : Cond.methodLink RX0 3 Lib.objectInit ∈ TG := TG_in (by decide +kernel) (by decide +kernel)
theorem wo_1 : Cond.methodLink RX1 3 Lib.objectInit ∈ TG := TG_in (by decide +kernel) (by decide +kernel)
theorem wo_2 : Cond.methodLink RX2 3 Lib.objectInit ∈ TG := TG_in (by decide +kernel) (by decide +kernel)
theorem wo_3 : Cond.methodLink RX3 3 Lib.objectInit ∈ TG := TG_in (by decide +kernel) (by decide +kernel)
theorem wo_4 : Cond.methodLink RX4 3 Lib.objectInit ∈ TG := TG_in (by decide +kernel) (by decide +kernel)
theorem wo_5 : Cond.methodLink RX5 3 Lib.objectInit ∈ TG := TG_in (by decide +kernel) (by decide +kernel)
theorem wo_6 : Cond.methodLink RX6 3 Lib.objectInit ∈ TG := TG_in (by decide +kernel) (by decide +kernel)
