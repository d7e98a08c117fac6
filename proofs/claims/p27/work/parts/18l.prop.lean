/-! properties of feasts and sticks, counts -/
def fpr (V : Nat → Int) (f w : Nat) : Int := if w = 0 then V (1 + 4 * f) else if w = 1 then V (2 + 4 * f) else if w = 2 then (if V (1 + 4 * f) = 3 then V (3 + 4 * f) + 90 else V (3 + 4 * f)) else V (4 + 4 * f)
theorem fpr_0 {V : Nat → Int} {f : Nat} : fpr V f 0 = V (1 + 4 * f) := rfl
theorem fpr_1 {V : Nat → Int} {f : Nat} : fpr V f 1 = V (2 + 4 * f) := rfl
theorem fpr_2a {V : Nat → Int} {f : Nat} (h : V (1 + 4 * f) = 3) : fpr V f 2 = V (3 + 4 * f) + 90 := by
  show (if V (1 + 4 * f) = 3 then V (3 + 4 * f) + 90 else V (3 + 4 * f)) = _
  rw [if_pos h]
theorem fpr_2b {V : Nat → Int} {f : Nat} (h : ¬ V (1 + 4 * f) = 3) : fpr V f 2 = V (3 + 4 * f) := by
  show (if V (1 + 4 * f) = 3 then V (3 + 4 * f) + 90 else V (3 + 4 * f)) = _
  rw [if_neg h]
theorem fpr_3 {V : Nat → Int} {f : Nat} : fpr V f 3 = V (4 + 4 * f) := rfl
theorem feastC {V : Nat → Int} {σ : St} {f w : Nat} (hI : IV V) (hS : RS σ 1 V) (hf : (f : Int) < V 0) (hw : w < 4) : f_X6_feastProperty (iI (f : Int)) (iI (w : Int)) σ = some (iI (fpr V f w), σ) := by
  have hn10 := hI.1
  obtain ⟨r1, r2, r3, r4⟩ := hS.2.2.2.2.1 f hf
  obtain ⟨a1, a2, a3, a4, a5, a6, a7, a8, -⟩ := hI.2.2.2.2.1 f hf
  have e0 : ((f : Int)).toNat = f := by omega
  have k1 := at_in (c := 2) (N := 10) rfl (by omega) (i := (f : Int)) (σ := σ) (by omega) (by omega)
  have k2 := at_in (c := 4) (N := 10) rfl (by omega) (i := (f : Int)) (σ := σ) (by omega) (by omega)
  have k3 := at_in (c := 6) (N := 10) rfl (by omega) (i := (f : Int)) (σ := σ) (by omega) (by omega)
  have k4 := at_in (c := 8) (N := 10) rfl (by omega) (i := (f : Int)) (σ := σ) (by omega) (by omega)
  rw [e0] at k1 k2 k3 k4
  rw [show σ.1 (2 + 1) f = _ from r1] at k1
  rw [show σ.1 (4 + 1) f = _ from r2] at k2
  rw [show σ.1 (6 + 1) f = _ from r3] at k3
  rw [show σ.1 (8 + 1) f = _ from r4] at k4
  unfold f_X6_feastProperty
  rcases (show w = 0 ∨ w = 1 ∨ w = 2 ∨ w = 3 by omega) with rfl | rfl | rfl | rfl
  · rw [fpr_0]
    simp (disch := omega) only [iI_lit, ofNat_iI, iI_add, iI_sub, iI_mul, iI_neg, iI_lt_t, iI_lt_f, iI_le_t, iI_le_f, iI_eq_t, iI_eq_f, iI_div, rm_iI, tc_iI, inB_iI, nz_iI, is01_0, is01_1, gd_tt, bd_mk, bv_mk, oc_mk, lt_mk, Bool.false_eq_true, ↓reduceIte, k1]
  · rw [fpr_1]
    simp (disch := omega) only [iI_lit, ofNat_iI, iI_add, iI_sub, iI_mul, iI_neg, iI_lt_t, iI_lt_f, iI_le_t, iI_le_f, iI_eq_t, iI_eq_f, iI_div, rm_iI, tc_iI, inB_iI, nz_iI, is01_0, is01_1, gd_tt, bd_mk, bv_mk, oc_mk, lt_mk, Bool.false_eq_true, ↓reduceIte, k2]
  · by_cases c : V (1 + 4 * f) = 3
    · rw [fpr_2a c]
      simp (disch := omega) only [iI_lit, ofNat_iI, iI_add, iI_sub, iI_mul, iI_neg, iI_lt_t, iI_lt_f, iI_le_t, iI_le_f, iI_eq_t, iI_eq_f, iI_div, rm_iI, tc_iI, inB_iI, nz_iI, is01_0, is01_1, gd_tt, bd_mk, bv_mk, oc_mk, lt_mk, Bool.false_eq_true, ↓reduceIte, k1, k3, c]
    · rw [fpr_2b c]
      simp (disch := omega) only [iI_lit, ofNat_iI, iI_add, iI_sub, iI_mul, iI_neg, iI_lt_t, iI_lt_f, iI_le_t, iI_le_f, iI_eq_t, iI_eq_f, iI_div, rm_iI, tc_iI, inB_iI, nz_iI, is01_0, is01_1, gd_tt, bd_mk, bv_mk, oc_mk, lt_mk, Bool.false_eq_true, ↓reduceIte, k1, k3]
  · rw [fpr_3]
    simp (disch := omega) only [iI_lit, ofNat_iI, iI_add, iI_sub, iI_mul, iI_neg, iI_lt_t, iI_lt_f, iI_le_t, iI_le_f, iI_eq_t, iI_eq_f, iI_div, rm_iI, tc_iI, inB_iI, nz_iI, is01_0, is01_1, gd_tt, bd_mk, bv_mk, oc_mk, lt_mk, Bool.false_eq_true, ↓reduceIte, k4]
def hasS (V : Nat → Int) (k f : Nat) : Bool := decide (stm V k f ≠ -1)
def ntS (V : Nat → Int) (k : Nat) : Int := cnN (hasS V k) 10
theorem notchesC {V : Nat → Int} {σ : St} {k : Nat} (hI : IV V) (hS : RS σ 1 V) (hk : (k : Int) < V 45) : f_X5_notchesOfStick 1 (iI (k : Int)) σ = some (iI (ntS V k), σ) := by
  have hk5 := hI.2.2.1
  obtain ⟨q1, q2, q3, q4⟩ := (hI.2.2.2.2.2 k hk).ex
  have hT := hS.2.2.2.2.2 k hk
  refine lpr (F := fun g j => f_X5_notchesOfStick_l4 g 1 (iI (k : Int)) (iI (cnN (hasS V k) j)) (iI (j : Int)) σ) (R := fun _ => some (iI (ntS V k), σ)) (n := 10) ?_ ?_ 10 FU 0 (by omega) (by simp only [FU]; omega)
  · intro g
    show f_X5_notchesOfStick_b4 _ _ _ _ _ _ = some (iI (cnN (hasS V k) 10), σ)
    unfold f_X5_notchesOfStick_b4
    simp (disch := omega) only [iI_lit, ofNat_iI, iI_add, iI_sub, iI_mul, iI_neg, iI_lt_t, iI_lt_f, iI_le_t, iI_le_f, iI_eq_t, iI_eq_f, iI_div, rm_iI, tc_iI, inB_iI, nz_iI, is01_0, is01_1, gd_tt, bd_mk, bv_mk, oc_mk, lt_mk, Bool.false_eq_true, ↓reduceIte]
  · intro g j hj h
    have h : f_X5_notchesOfStick_l4 g 1 (iI (k : Int)) (iI (cnN (hasS V k) (j + 1))) (iI ((j + 1 : Nat) : Int)) σ = some (iI (ntS V k), σ) := h
    have h2 := hT.n (f := j) (i := (k : Int) * 10 + (j : Int)) (by omega) (by omega)
    have k2 := at_in (c := 1 + 17) (N := 50) rfl (by omega) (i := (k : Int) * 10 + (j : Int)) (σ := σ) (by omega) (by omega)
    rw [h2] at k2
    have e1 : (j : Int) + 1 = ((j + 1 : Nat) : Int) := by omega
    have b2 := q4 j (by omega)
    show f_X5_notchesOfStick_b4 _ _ _ _ _ _ = some (iI (ntS V k), σ)
    unfold f_X5_notchesOfStick_b4 f_X5_stickNotch
    by_cases c1 : stm V k j = -1
    · rw [cnN_f (show hasS V k j = false from decide_eq_false (fun q => q c1))] at h
      simp (disch := omega) only [iI_lit, ofNat_iI, iI_add, iI_sub, iI_mul, iI_neg, iI_lt_t, iI_lt_f, iI_le_t, iI_le_f, iI_eq_t, iI_eq_f, iI_div, rm_iI, tc_iI, inB_iI, nz_iI, is01_0, is01_1, gd_tt, bd_mk, bv_mk, oc_mk, lt_mk, Bool.false_eq_true, ↓reduceIte, k2, c1, e1, h]
    · rw [cnN_t (show hasS V k j = true from decide_eq_true c1)] at h
      simp (disch := omega) only [iI_lit, ofNat_iI, iI_add, iI_sub, iI_mul, iI_neg, iI_lt_t, iI_lt_f, iI_le_t, iI_le_f, iI_eq_t, iI_eq_f, iI_div, rm_iI, tc_iI, inB_iI, nz_iI, is01_0, is01_1, gd_tt, bd_mk, bv_mk, oc_mk, lt_mk, Bool.false_eq_true, ↓reduceIte, k2, e1, h]
def spr (V : Nat → Int) (k w : Nat) : Int := if w = 0 then sty V k else if w = 1 then (stc V k : Int) else if w = 2 then ntS V k else if w = 3 then stS V k else stm V k (w - 4)
theorem spr_0 {V : Nat → Int} {k : Nat} : spr V k 0 = sty V k := rfl
theorem spr_1 {V : Nat → Int} {k : Nat} : spr V k 1 = (stc V k : Int) := rfl
theorem spr_2 {V : Nat → Int} {k : Nat} : spr V k 2 = ntS V k := rfl
theorem spr_3 {V : Nat → Int} {k : Nat} : spr V k 3 = stS V k := rfl
theorem spr_4 {V : Nat → Int} {k w : Nat} (h : 4 ≤ w) : spr V k w = stm V k (w - 4) := by
  unfold spr
  rw [if_neg (by omega), if_neg (by omega), if_neg (by omega), if_neg (by omega)]
theorem stickC {V : Nat → Int} {σ : St} {k w : Nat} (hI : IV V) (hS : RS σ 1 V) (hk : (k : Int) < V 45) (hw : w < 14) : ∃ τ, f_X6_stickProperty (iI (k : Int)) (iI (w : Int)) σ = some (iI (spr V k w), τ) ∧ Fr 139 144 σ τ := by
  have hk5 := hI.2.2.1
  obtain ⟨q1, q2, q3, q4⟩ := (hI.2.2.2.2.2 k hk).ex
  have hT := hS.2.2.2.2.2 k hk
  have e0 : ((k : Int)).toNat = k := by omega
  have k1 := at_in (c := 12) (N := 5) rfl (by omega) (i := (k : Int)) (σ := σ) (by omega) (by omega)
  have k2 := at_in (c := 14) (N := 5) rfl (by omega) (i := (k : Int)) (σ := σ) (by omega) (by omega)
  rw [e0] at k1 k2
  rw [show σ.1 (12 + 1) k = iI (sty V k) from hT.1] at k1
  rw [show σ.1 (14 + 1) k = _ from hT.2.1, q2.1] at k2
  have k3 := notchesC hI hS hk
  unfold f_X6_stickProperty
  rcases (show w = 0 ∨ w = 1 ∨ w = 2 ∨ w = 3 ∨ 4 ≤ w by omega) with rfl | rfl | rfl | rfl | h
  · refine ⟨σ, ?_, Fr.rfl⟩
    rw [spr_0]
    simp (disch := omega) only [iI_lit, ofNat_iI, iI_add, iI_sub, iI_mul, iI_neg, iI_lt_t, iI_lt_f, iI_le_t, iI_le_f, iI_eq_t, iI_eq_f, iI_div, rm_iI, tc_iI, inB_iI, nz_iI, is01_0, is01_1, gd_tt, bd_mk, bv_mk, oc_mk, lt_mk, Bool.false_eq_true, ↓reduceIte, k1]
  · refine ⟨σ, ?_, Fr.rfl⟩
    rw [spr_1]
    simp (disch := omega) only [iI_lit, ofNat_iI, iI_add, iI_sub, iI_mul, iI_neg, iI_lt_t, iI_lt_f, iI_le_t, iI_le_f, iI_eq_t, iI_eq_f, iI_div, rm_iI, tc_iI, inB_iI, nz_iI, is01_0, is01_1, gd_tt, bd_mk, bv_mk, oc_mk, lt_mk, Bool.false_eq_true, ↓reduceIte, k2]
  · refine ⟨σ, ?_, Fr.rfl⟩
    rw [spr_2]
    simp (disch := omega) only [iI_lit, ofNat_iI, iI_add, iI_sub, iI_mul, iI_neg, iI_lt_t, iI_lt_f, iI_le_t, iI_le_f, iI_eq_t, iI_eq_f, iI_div, rm_iI, tc_iI, inB_iI, nz_iI, is01_0, is01_1, gd_tt, bd_mk, bv_mk, oc_mk, lt_mk, Bool.false_eq_true, ↓reduceIte, k3]
  · obtain ⟨τ, x1, x2⟩ := stale_v (a := k) (m := 1) hI hS (by omega)
    rw [show smF V k 1 = stS V k from by show (0 : Int) + stS V (k + 0) = _; rw [Int.zero_add, Nat.add_zero]] at x1
    have e1 : (k : Int) + 1 = ((k + 1 : Nat) : Int) := by omega
    refine ⟨τ, ?_, x2⟩
    rw [spr_3]
    simp (disch := omega) only [iI_lit, ofNat_iI, iI_add, iI_sub, iI_mul, iI_neg, iI_lt_t, iI_lt_f, iI_le_t, iI_le_f, iI_eq_t, iI_eq_f, iI_div, rm_iI, tc_iI, inB_iI, nz_iI, is01_0, is01_1, gd_tt, bd_mk, bv_mk, oc_mk, lt_mk, Bool.false_eq_true, ↓reduceIte, e1, x1]
  · refine ⟨σ, ?_, Fr.rfl⟩
    have h2 := hT.n (f := w - 4) (i := (k : Int) * 10 + ((w : Int) - 4)) (by omega) (by omega)
    have k4 := at_in (c := 1 + 17) (N := 50) rfl (by omega) (i := (k : Int) * 10 + ((w : Int) - 4)) (σ := σ) (by omega) (by omega)
    rw [h2] at k4
    rw [spr_4 h]
    unfold f_X5_stickNotch
    simp (disch := omega) only [iI_lit, ofNat_iI, iI_add, iI_sub, iI_mul, iI_neg, iI_lt_t, iI_lt_f, iI_le_t, iI_le_f, iI_eq_t, iI_eq_f, iI_div, rm_iI, tc_iI, inB_iI, nz_iI, is01_0, is01_1, gd_tt, bd_mk, bv_mk, oc_mk, lt_mk, Bool.false_eq_true, ↓reduceIte, k4]
def nmb (V : Nat → Int) (m sv k : Nat) : Int := if k = 0 then V 0 else if k = 1 then V 45 else if k = 5 then V 44 else if k = 6 then smS V m else if k = 7 then (sv : Int) else V (39 + k) + 5
theorem nmb_0 {V : Nat → Int} {m sv k : Nat} (h : k = 0) : nmb V m sv k = V 0 := by rw [h]; rfl
theorem nmb_1 {V : Nat → Int} {m sv k : Nat} (h : k = 1) : nmb V m sv k = V 45 := by rw [h]; rfl
theorem nmb_5 {V : Nat → Int} {m sv k : Nat} (h : k = 5) : nmb V m sv k = V 44 := by rw [h]; rfl
theorem nmb_6 {V : Nat → Int} {m sv k : Nat} (h : k = 6) : nmb V m sv k = smS V m := by rw [h]; rfl
theorem nmb_7 {V : Nat → Int} {m sv k : Nat} (h : k = 7) : nmb V m sv k = (sv : Int) := by rw [h]; rfl
theorem nmb_x {V : Nat → Int} {m sv k : Nat} (h : k ≠ 0 ∧ k ≠ 1 ∧ k ≠ 5 ∧ k ≠ 6 ∧ k ≠ 7) : nmb V m sv k = V (39 + k) + 5 := by
  unfold nmb
  rw [if_neg h.1, if_neg h.2.1, if_neg h.2.2.1, if_neg h.2.2.2.1, if_neg h.2.2.2.2]
theorem numberC {V : Nat → Int} {σ : St} {m sv k : Nat} (hI : IV V) (hS : RS σ 1 V) (hm : V 45 = (m : Int)) (hv : σ.1 20 2 = iI (sv : Int)) (hk : k < 8) : ∃ τ, f_X6_numberOf (iI (k : Int)) σ = some (iI (nmb V m sv k), τ) ∧ Fr 139 144 σ τ := by
  have h5 := hI.2.2.1
  unfold f_X6_numberOf f_X1_size
  rcases (show k = 0 ∨ k = 1 ∨ k = 5 ∨ k = 6 ∨ k = 7 ∨ (k ≠ 0 ∧ k ≠ 1 ∧ k ≠ 5 ∧ k ≠ 6 ∧ k ≠ 7) by omega) with h | h | h | h | h | h
  · refine ⟨σ, ?_, Fr.rfl⟩
    rw [nmb_0 h]
    have r := hS.1
    simp (disch := omega) only [iI_lit, ofNat_iI, iI_add, iI_sub, iI_mul, iI_neg, iI_lt_t, iI_lt_f, iI_le_t, iI_le_f, iI_eq_t, iI_eq_f, iI_div, rm_iI, tc_iI, inB_iI, nz_iI, is01_0, is01_1, gd_tt, bd_mk, bv_mk, oc_mk, lt_mk, Bool.false_eq_true, ↓reduceIte, r]
  · refine ⟨σ, ?_, Fr.rfl⟩
    rw [nmb_1 h]
    have r := hS.2.2.1
    simp (disch := omega) only [iI_lit, ofNat_iI, iI_add, iI_sub, iI_mul, iI_neg, iI_lt_t, iI_lt_f, iI_le_t, iI_le_f, iI_eq_t, iI_eq_f, iI_div, rm_iI, tc_iI, inB_iI, nz_iI, is01_0, is01_1, gd_tt, bd_mk, bv_mk, oc_mk, lt_mk, Bool.false_eq_true, ↓reduceIte, r]
  · refine ⟨σ, ?_, Fr.rfl⟩
    rw [nmb_5 h]
    have r := hS.2.1
    simp (disch := omega) only [iI_lit, ofNat_iI, iI_add, iI_sub, iI_mul, iI_neg, iI_lt_t, iI_lt_f, iI_le_t, iI_le_f, iI_eq_t, iI_eq_f, iI_div, rm_iI, tc_iI, inB_iI, nz_iI, is01_0, is01_1, gd_tt, bd_mk, bv_mk, oc_mk, lt_mk, Bool.false_eq_true, ↓reduceIte, r]
  · obtain ⟨τ, x1, x2⟩ := stale_v (a := 0) (m := m) hI hS (by omega)
    rw [smF_0, Nat.zero_add] at x1
    have x1 : f_X6_staleFeasts (iI 0) (iI (m : Int)) σ = some (iI (smS V m), τ) := x1
    refine ⟨τ, ?_, x2⟩
    rw [nmb_6 h]
    have r := hS.2.2.1
    rw [hm] at r
    simp (disch := omega) only [iI_lit, ofNat_iI, iI_add, iI_sub, iI_mul, iI_neg, iI_lt_t, iI_lt_f, iI_le_t, iI_le_f, iI_eq_t, iI_eq_f, iI_div, rm_iI, tc_iI, inB_iI, nz_iI, is01_0, is01_1, gd_tt, bd_mk, bv_mk, oc_mk, lt_mk, Bool.false_eq_true, ↓reduceIte, r, x1]
  · refine ⟨σ, ?_, Fr.rfl⟩
    rw [nmb_7 h]
    simp (disch := omega) only [iI_lit, ofNat_iI, iI_add, iI_sub, iI_mul, iI_neg, iI_lt_t, iI_lt_f, iI_le_t, iI_le_f, iI_eq_t, iI_eq_f, iI_div, rm_iI, tc_iI, inB_iI, nz_iI, is01_0, is01_1, gd_tt, bd_mk, bv_mk, oc_mk, lt_mk, Bool.false_eq_true, ↓reduceIte, hv]
  · refine ⟨σ, ?_, Fr.rfl⟩
    rw [nmb_x h]
    have r : σ.1 (1 + 10) (k - 2) = _ := hS.2.2.2.1 (k - 2) (by omega)
    rw [show 41 + (k - 2) = 39 + k by omega] at r
    have k1 := at_in (c := 10) (N := 3) rfl (by omega) (i := (k : Int) - 2) (σ := σ) (by omega) (by omega)
    rw [show ((k : Int) - 2).toNat = k - 2 by omega, show σ.1 (10 + 1) (k - 2) = _ from r] at k1
    rcases (show k = 2 ∨ k = 3 ∨ k = 4 by omega) with h | h | h
    · simp (disch := omega) only [iI_lit, ofNat_iI, iI_add, iI_sub, iI_mul, iI_neg, iI_lt_t, iI_lt_f, iI_le_t, iI_le_f, iI_eq_t, iI_eq_f, iI_div, rm_iI, tc_iI, inB_iI, nz_iI, is01_0, is01_1, gd_tt, bd_mk, bv_mk, oc_mk, lt_mk, Bool.false_eq_true, ↓reduceIte, k1]
    · simp (disch := omega) only [iI_lit, ofNat_iI, iI_add, iI_sub, iI_mul, iI_neg, iI_lt_t, iI_lt_f, iI_le_t, iI_le_f, iI_eq_t, iI_eq_f, iI_div, rm_iI, tc_iI, inB_iI, nz_iI, is01_0, is01_1, gd_tt, bd_mk, bv_mk, oc_mk, lt_mk, Bool.false_eq_true, ↓reduceIte, k1]
    · simp (disch := omega) only [iI_lit, ofNat_iI, iI_add, iI_sub, iI_mul, iI_neg, iI_lt_t, iI_lt_f, iI_le_t, iI_le_f, iI_eq_t, iI_eq_f, iI_div, rm_iI, tc_iI, inB_iI, nz_iI, is01_0, is01_1, gd_tt, bd_mk, bv_mk, oc_mk, lt_mk, Bool.false_eq_true, ↓reduceIte, k1]
