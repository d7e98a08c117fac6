/-! each method as a function over the store -/
def f_X0_by (a0 : Nat) (x1 : Int32) (t0 : St) : Option (Option Nat × St) :=
  (if x1 = 1 then some (some (a0 + 6), t0) else (if x1 = 2 then some (some (a0 + 11), t0) else some (some (a0 + 1), t0)))
def f_X4_at (a0 : Nat) (x1 : Int32) (t0 : St) : Option (Int32 × St) :=
  (if x1 < 0 then some ((-1), t0) else (if (Int32.ofNat (aln (a0 + 1))) ≤ x1 then some ((-1), t0) else gd (inB x1 (aln (a0 + 1))) <| some ((t0.1 (a0 + 1) (tc x1)), t0)))
def f_X6_isLeap (x0 : Int32) (t0 : St) : Option (Int32 × St) :=
  (if (rm x0 4) = 0 then some (1, t0) else some (0, t0))
def f_X6_daysIn (x0 : Int32) (t0 : St) : Option (Int32 × St) :=
  bd (f_X6_isLeap x0 t0) fun x21 t22 => (if x21 = 0 then some (365, t22) else some (366, t22))
def f_X6_newYearWeekday (x0 : Int32) (t0 : St) : Option (Int32 × St) :=
  lt ((x0 + 3) / 4) fun x21 => some ((rm ((365 * x0) + x21) 7), t0)
def f_X6_moonShift_b11 (x0 : Int32) (x1 : Int32) (w0 : Int32) (t0 : St) : Option (Int32 × St) :=
  some (((((11 * (rm x0 19)) + w0) + x1) + 5), t0)
def f_X6_moonShift (x0 : Int32) (x1 : Int32) (x2 : Int32) (t0 : St) : Option (Int32 × St) :=
  (if x2 ≤ 0 then f_X6_moonShift_b11 x0 x1 0 t0 else gd (nz x2) <| f_X6_moonShift_b11 x0 x1 (x0 / x2) t0)
def f_X3_weekdayFrom (a0 : Nat) (x1 : Int32) (x2 : Int32) (t0 : St) : Option (Int32 × St) :=
  lt (rm ((t0.1 a0 3) + x1) 7) fun x21 => some ((x1 + (rm ((x2 + 7) - x21) 7)), t0)
def f_X6_moonAge (x0 : Int32) (x1 : Int32) (t0 : St) : Option (Int32 × St) :=
  some ((rm ((x0 + x1) + (x1 / 59)) 30), t0)
def f_X3_weekdayPastMoon_b2 (K2 : Nat → Int32 → Int32 → St → Option (Int32 × St)) (a0 : Nat) (x2 : Int32) (y3 : Int32) (t0 : St) : Option (Int32 × St) :=
  (if (t0.1 a0 2) ≤ y3 then some ((-1), t0) else bd (f_X6_moonAge (t0.1 a0 4) y3 t0) fun x22 t23 => (if x22 = 14 then bd (f_X3_weekdayFrom a0 (y3 + 1) x2 t23) fun x27 t28 => some (x27, t28) else lt (y3 + 1) fun x26 => K2 a0 x2 x26 t23))
def f_X3_weekdayPastMoon_l2 : Nat → Nat → Int32 → Int32 → St → Option (Int32 × St)
  | 0, _, _, _, _ => none
  | g + 1, a0, x2, y3, t0 => f_X3_weekdayPastMoon_b2 (f_X3_weekdayPastMoon_l2 g) a0 x2 y3 t0
def f_X3_weekdayPastMoon (a0 : Nat) (x1 : Int32) (x2 : Int32) (t0 : St) : Option (Int32 × St) :=
  f_X3_weekdayPastMoon_l2 FU a0 x2 x1 t0
def f_X3_dayByRule (a0 : Nat) (a1 : Nat) (x2 : Int32) (t0 : St) : Option (Int32 × St) :=
  bd (f_X4_at (a1 + 5) x2 t0) fun x21 t22 => bd (f_X4_at (a1 + 7) x2 t22) fun x24 t25 => bd (f_X4_at (a1 + 1) x2 t25) fun x27 t28 => (if x27 = 0 then some (x21, t28) else (if x27 = 1 then bd (f_X3_weekdayFrom a0 x21 x24 t28) fun x32 t33 => some (x32, t33) else (if x27 = 2 then bd (f_X3_weekdayPastMoon a0 x21 x24 t28) fun x36 t37 => some (x36, t37) else bd (f_X4_at (a0 + 1) x24 t28) fun x39 t40 => (if x39 = (-1) then some ((-1), t40) else bd (f_X4_at (a0 + 1) x24 t40) fun x43 t44 => some ((x43 + x21), t44)))))
def f_X3_orNone (a0 : Nat) (x1 : Int32) (t0 : St) : Option (Int32 × St) :=
  (if x1 < 0 then some ((-1), t0) else (if (t0.1 a0 2) ≤ x1 then some ((-1), t0) else some (x1, t0)))
def f_X4_put (a0 : Nat) (x1 : Int32) (x2 : Int32) (t0 : St) : Option (St) :=
  (if x1 < 0 then some t0 else (if (Int32.ofNat (aln (a0 + 1))) ≤ x1 then some t0 else gd (inB x1 (aln (a0 + 1))) <| lt (sI t0 (a0 + 1) (tc x1) x2) fun t24 => some t24))
def f_X4_putNowhere_b2 (K2 : Nat → Int32 → St → Option (St)) (a0 : Nat) (y1 : Int32) (t0 : St) : Option (St) :=
  (if (Int32.ofNat (aln (a0 + 1))) ≤ y1 then some t0 else gd (inB y1 (aln (a0 + 1))) <| lt (sI t0 (a0 + 1) (tc y1) (-1)) fun t23 => lt (y1 + 1) fun x24 => K2 a0 x24 t23)
def f_X4_putNowhere_l2 : Nat → Nat → Int32 → St → Option (St)
  | 0, _, _, _ => none
  | g + 1, a0, y1, t0 => f_X4_putNowhere_b2 (f_X4_putNowhere_l2 g) a0 y1 t0
def f_X4_putNowhere (a0 : Nat) (t0 : St) : Option (St) :=
  f_X4_putNowhere_l2 FU a0 0 t0
def f_X3_hasNotch_b2 (K2 : Nat → Int32 → Int32 → Int32 → St → Option (Int32 × St)) (a0 : Nat) (x1 : Int32) (x2 : Int32) (y3 : Int32) (t0 : St) : Option (Int32 × St) :=
  (if x2 ≤ y3 then some (0, t0) else bd (f_X4_at (a0 + 3) y3 t0) fun x22 t23 => (if x22 = x1 then some (1, t23) else lt (y3 + 1) fun x26 => K2 a0 x1 x2 x26 t23))
def f_X3_hasNotch_l2 : Nat → Nat → Int32 → Int32 → Int32 → St → Option (Int32 × St)
  | 0, _, _, _, _, _ => none
  | g + 1, a0, x1, x2, y3, t0 => f_X3_hasNotch_b2 (f_X3_hasNotch_l2 g) a0 x1 x2 y3 t0
def f_X3_hasNotch (a0 : Nat) (x1 : Int32) (x2 : Int32) (t0 : St) : Option (Int32 × St) :=
  f_X3_hasNotch_l2 FU a0 x1 x2 0 t0
def f_X3_cutNotches_b72 (K2 : Nat → Nat → Int32 → Int32 → St → Option (St)) (a0 : Nat) (a1 : Nat) (x2 : Int32) (y3 : Int32) (y4 : Int32) (t0 : St) : Option (St) :=
  bd (f_X3_orNone a0 y4 t0) fun x21 t22 => bv (f_X4_put (a0 + 3) y3 x21 t22) fun t25 => lt (y3 + 1) fun x27 => K2 a0 a1 x2 x27 t25
def f_X3_cutNotches_b41 (K2 : Nat → Nat → Int32 → Int32 → St → Option (St)) (K41 : Nat → Nat → Int32 → Int32 → Int32 → Int32 → St → Option (St)) (a0 : Nat) (a1 : Nat) (x2 : Int32) (y3 : Int32) (y4 : Int32) (y5 : Int32) (t0 : St) : Option (St) :=
  (if (t0.1 a1 0) ≤ y5 then f_X3_cutNotches_b72 K2 a0 a1 x2 y3 y4 t0 else bd (f_X3_hasNotch a0 y4 (t0.1 a1 0) t0) fun x29 t30 => (if x29 = 0 then f_X3_cutNotches_b72 K2 a0 a1 x2 y3 y4 t30 else lt (y4 + 1) fun x33 => lt (y5 + 1) fun x34 => K41 a0 a1 x2 y3 x33 x34 t30))
def f_X3_cutNotches_l41 (K2 : Nat → Nat → Int32 → Int32 → St → Option (St)) : Nat → Nat → Nat → Int32 → Int32 → Int32 → Int32 → St → Option (St)
  | 0, _, _, _, _, _, _, _ => none
  | g + 1, a0, a1, x2, y3, y4, y5, t0 => f_X3_cutNotches_b41 K2 (f_X3_cutNotches_l41 K2 g) a0 a1 x2 y3 y4 y5 t0
def f_X3_cutNotches_b2 (K2 : Nat → Nat → Int32 → Int32 → St → Option (St)) (a0 : Nat) (a1 : Nat) (x2 : Int32) (y3 : Int32) (t0 : St) : Option (St) :=
  (if (t0.1 a1 0) ≤ y3 then some t0 else bd (f_X4_at (a0 + 1) y3 t0) fun x36 t37 => (if x36 = (-1) then lt (y3 + 1) fun x40 => K2 a0 a1 x2 x40 t37 else bd (f_X4_at (a1 + 3) y3 t37) fun x41 t42 => (if x41 = x2 then f_X3_cutNotches_l41 K2 FU a0 a1 x2 y3 x36 0 t42 else lt (y3 + 1) fun x45 => K2 a0 a1 x2 x45 t42)))
def f_X3_cutNotches_l2 : Nat → Nat → Nat → Int32 → Int32 → St → Option (St)
  | 0, _, _, _, _, _ => none
  | g + 1, a0, a1, x2, y3, t0 => f_X3_cutNotches_b2 (f_X3_cutNotches_l2 g) a0 a1 x2 y3 t0
def f_X3_cutNotches (a0 : Nat) (a1 : Nat) (x2 : Int32) (t0 : St) : Option (St) :=
  f_X3_cutNotches_l2 FU a0 a1 x2 0 t0
def f_X3_reckon_b78 (K78 : Nat → Nat → Int32 → St → Option (St)) (a0 : Nat) (a1 : Nat) (y4 : Int32) (t0 : St) : Option (St) :=
  (if y4 < 0 then some t0 else bv (f_X3_cutNotches a0 a1 y4 t0) fun t23 => lt (y4 + (-1)) fun x25 => K78 a0 a1 x25 t23)
def f_X3_reckon_l78 : Nat → Nat → Nat → Int32 → St → Option (St)
  | 0, _, _, _, _ => none
  | g + 1, a0, a1, y4, t0 => f_X3_reckon_b78 (f_X3_reckon_l78 g) a0 a1 y4 t0
def f_X3_reckon_b32 (K32 : Nat → Nat → Int32 → St → Option (St)) (a0 : Nat) (a1 : Nat) (y4 : Int32) (t0 : St) : Option (St) :=
  (if (t0.1 a1 0) ≤ y4 then bv (f_X4_putNowhere (a0 + 3) t0) fun t28 => f_X3_reckon_l78 FU a0 a1 9 t28 else bd (f_X3_dayByRule a0 a1 y4 t0) fun x30 t31 => bd (f_X3_orNone a0 x30 t31) fun x33 t34 => bv (f_X4_put (a0 + 1) y4 x33 t34) fun t37 => lt (y4 + 1) fun x39 => K32 a0 a1 x39 t37)
def f_X3_reckon_l32 : Nat → Nat → Nat → Int32 → St → Option (St)
  | 0, _, _, _, _ => none
  | g + 1, a0, a1, y4, t0 => f_X3_reckon_b32 (f_X3_reckon_l32 g) a0 a1 y4 t0
def f_X3_reckon (a0 : Nat) (a1 : Nat) (x2 : Int32) (x3 : Int32) (t0 : St) : Option (St) :=
  bd (f_X6_daysIn x2 t0) fun x40 t41 => lt (sI t41 a0 2 x40) fun t43 => bd (f_X6_newYearWeekday x2 t43) fun x44 t45 => lt (sI t45 a0 3 x44) fun t47 => bd (f_X6_moonShift x2 x3 (t47.1 a1 6) t47) fun x48 t49 => lt (sI t49 a0 4 x48) fun t51 => f_X3_reckon_l32 FU a0 a1 0 t51
def f_X0_gather_b2 (K2 : Nat → Nat → Int32 → Int32 → St → Option (St)) (a0 : Nat) (a1 : Nat) (x2 : Int32) (y3 : Int32) (t0 : St) : Option (St) :=
  (if 3 ≤ y3 then some t0 else bd (f_X0_by a0 y3 t0) fun x22 t23 => oc x22 (none) fun a25 => gd (isN (kd a25) 3) <| bd (f_X4_at (a1 + 9) y3 t23) fun x27 t28 => bv (f_X3_reckon a25 a1 x2 x27 t28) fun t31 => lt (y3 + 1) fun x33 => K2 a0 a1 x2 x33 t31)
def f_X0_gather_l2 : Nat → Nat → Nat → Int32 → Int32 → St → Option (St)
  | 0, _, _, _, _, _ => none
  | g + 1, a0, a1, x2, y3, t0 => f_X0_gather_b2 (f_X0_gather_l2 g) a0 a1 x2 y3 t0
def f_X0_gather (a0 : Nat) (a1 : Nat) (x2 : Int32) (t0 : St) : Option (St) :=
  f_X0_gather_l2 FU a0 a1 x2 0 t0
def f_X0_settledNotch (a0 : Nat) (x1 : Int32) (t0 : St) : Option (Int32 × St) :=
  bd (f_X4_at ((a0 + 6) + 3) x1 t0) fun x21 t22 => bd (f_X4_at ((a0 + 11) + 3) x1 t22) fun x24 t25 => (if x21 = x24 then some (x21, t25) else bd (f_X4_at ((a0 + 1) + 3) x1 t25) fun x28 t29 => some (x28, t29))
def f_X0_quarrelCount_b4 (K4 : Nat → Int32 → Int32 → Int32 → St → Option (Int32 × St)) (a0 : Nat) (x1 : Int32) (y2 : Int32) (y3 : Int32) (t0 : St) : Option (Int32 × St) :=
  (if x1 ≤ y3 then some (y2, t0) else bd (f_X4_at ((a0 + 1) + 3) y3 t0) fun x22 t23 => bd (f_X4_at ((a0 + 6) + 3) y3 t23) fun x25 t26 => (if x22 = x25 then bd (f_X4_at ((a0 + 11) + 3) y3 t26) fun x31 t32 => (if x22 = x31 then lt (y3 + 1) fun x35 => K4 a0 x1 y2 x35 t32 else lt (y2 + 1) fun x36 => lt (y3 + 1) fun x37 => K4 a0 x1 x36 x37 t32) else lt (y2 + 1) fun x29 => lt (y3 + 1) fun x30 => K4 a0 x1 x29 x30 t26))
def f_X0_quarrelCount_l4 : Nat → Nat → Int32 → Int32 → Int32 → St → Option (Int32 × St)
  | 0, _, _, _, _, _ => none
  | g + 1, a0, x1, y2, y3, t0 => f_X0_quarrelCount_b4 (f_X0_quarrelCount_l4 g) a0 x1 y2 y3 t0
def f_X0_quarrelCount (a0 : Nat) (x1 : Int32) (t0 : St) : Option (Int32 × St) :=
  f_X0_quarrelCount_l4 FU a0 x1 0 0 t0
def f_X0_settlesLike_b2 (K2 : Nat → Nat → Int32 → Int32 → St → Option (Int32 × St)) (a0 : Nat) (a1 : Nat) (x2 : Int32) (y3 : Int32) (t0 : St) : Option (Int32 × St) :=
  (if x2 ≤ y3 then some (1, t0) else bd (f_X0_settledNotch a0 y3 t0) fun x22 t23 => bd (f_X0_settledNotch a1 y3 t23) fun x25 t26 => (if x22 = x25 then lt (y3 + 1) fun x29 => K2 a0 a1 x2 x29 t26 else some (0, t26)))
def f_X0_settlesLike_l2 : Nat → Nat → Nat → Int32 → Int32 → St → Option (Int32 × St)
  | 0, _, _, _, _, _ => none
  | g + 1, a0, a1, x2, y3, t0 => f_X0_settlesLike_b2 (f_X0_settlesLike_l2 g) a0 a1 x2 y3 t0
def f_X0_settlesLike (a0 : Nat) (a1 : Nat) (x2 : Int32) (t0 : St) : Option (Int32 × St) :=
  f_X0_settlesLike_l2 FU a0 a1 x2 0 t0
def f_X1_size (t0 : St) : Option (Int32 × St) :=
  some ((t0.1 20 2), t0)
def f_X1_isEmpty (t0 : St) : Option (Int32 × St) :=
  (if 0 < (t0.1 20 2) then some (0, t0) else some (1, t0))
def f_X1_stateAt (x1 : Int32) (t0 : St) : Option (Option Nat × St) :=
  lt (rm ((t0.1 20 1) + x1) 6) fun x21 => (if x21 < 0 then some (none, t0) else (if (Int32.ofNat 6) ≤ x21 then some (none, t0) else gd (inB x21 6) <| some (some (22 + 19 * tc x21), t0)))
def f_X4_copyFrom_b2 (K2 : Nat → Nat → Int32 → St → Option (St)) (a0 : Nat) (a1 : Nat) (y2 : Int32) (t0 : St) : Option (St) :=
  (if (Int32.ofNat (aln (a0 + 1))) ≤ y2 then some t0 else bd (f_X4_at a1 y2 t0) fun x22 t23 => gd (inB y2 (aln (a0 + 1))) <| lt (sI t23 (a0 + 1) (tc y2) x22) fun t26 => lt (y2 + 1) fun x27 => K2 a0 a1 x27 t26)
def f_X4_copyFrom_l2 : Nat → Nat → Nat → Int32 → St → Option (St)
  | 0, _, _, _, _ => none
  | g + 1, a0, a1, y2, t0 => f_X4_copyFrom_b2 (f_X4_copyFrom_l2 g) a0 a1 y2 t0
def f_X4_copyFrom (a0 : Nat) (a1 : Nat) (t0 : St) : Option (St) :=
  f_X4_copyFrom_l2 FU a0 a1 0 t0
def f_X5_copyFrom (a0 : Nat) (a1 : Nat) (t0 : St) : Option (St) :=
  lt (sI t0 a0 0 (t0.1 a1 0)) fun t21 => bv (f_X4_copyFrom (a0 + 1) (a1 + 1) t21) fun t23 => bv (f_X4_copyFrom (a0 + 3) (a1 + 3) t23) fun t26 => bv (f_X4_copyFrom (a0 + 5) (a1 + 5) t26) fun t29 => bv (f_X4_copyFrom (a0 + 7) (a1 + 7) t29) fun t32 => bv (f_X4_copyFrom (a0 + 9) (a1 + 9) t32) fun t35 => lt (sI t35 a0 6 (t35.1 a1 6)) fun t37 => lt (sI t37 a0 7 (t37.1 a1 7)) fun t38 => bv (f_X4_copyFrom (a0 + 11) (a1 + 11) t38) fun t40 => bv (f_X4_copyFrom (a0 + 13) (a1 + 13) t40) fun t43 => bv (f_X4_copyFrom (a0 + 15) (a1 + 15) t43) fun t46 => bv (f_X4_copyFrom (a0 + 17) (a1 + 17) t46) fun t49 => some t49
def f_X1_save_b50 (t0 : St) : Option (St) :=
  lt (sI t0 20 2 ((t0.1 20 2) + 1)) fun t21 => some t21
def f_X1_save_b32 (a1 : Nat) (t0 : St) : Option (St) :=
  bd (f_X1_stateAt (t0.1 20 2) t0) fun x22 t23 => oc x22 (f_X1_save_b50 t23) fun a25 => gd (isN (kd a25) 5) <| bv (f_X5_copyFrom a25 a1 t23) fun t28 => f_X1_save_b50 t28
def f_X1_save (a1 : Nat) (t0 : St) : Option (St) :=
  (if (t0.1 20 2) < 6 then f_X1_save_b32 a1 t0 else lt (sI t0 20 1 (rm ((t0.1 20 1) + 1) 6)) fun t31 => lt (sI t31 20 2 ((t31.1 20 2) - 1)) fun t32 => f_X1_save_b32 a1 t32)
def f_X1_restoreInto (a1 : Nat) (t0 : St) : Option (St) :=
  lt (sI t0 20 2 ((t0.1 20 2) - 1)) fun t21 => bd (f_X1_stateAt (t21.1 20 2) t21) fun x22 t23 => oc x22 (some t23) fun a25 => gd (isN (kd a25) 5) <| bv (f_X5_copyFrom a1 a25 t23) fun t28 => some t28
def f_X2_start (t0 : St) : Option (St) :=
  lt (sI t0 138 5 0) fun t21 => lt (sI t21 138 0 0) fun t22 => lt (sI t22 138 1 0) fun t23 => lt (sI t23 138 2 0) fun t24 => lt (sI t24 138 3 (-1)) fun t25 => lt (sI t25 138 4 0) fun t26 => some t26
def f_X2_hasWeekday (t0 : St) : Option (Int32 × St) :=
  (if (t0.1 138 0) = 1 then some (1, t0) else (if (t0.1 138 0) = 2 then some (1, t0) else some (0, t0)))
def f_X2_mayEnd (t0 : St) : Option (Int32 × St) :=
  (if (t0.1 138 5) = 6 then some (1, t0) else (if (t0.1 138 5) = 8 then some (1, t0) else (if (t0.1 138 5) = 4 then bd (f_X2_hasWeekday t0) fun x24 t25 => (if x24 = 0 then some (1, t25) else some (0, t25)) else some (0, t0))))
def f_X2_readsRule_b78 (t0 : St) : Option (Int32 × St) :=
  (if (t0.1 138 0) = 3 then lt (sI t0 138 5 1) fun t23 => some (1, t23) else lt (sI t0 138 5 3) fun t22 => some (1, t22))
def f_X2_readsRule (x1 : Int32) (t0 : St) : Option (Int32 × St) :=
  (if x1 = 97 then lt (sI t0 138 0 3) fun t25 => f_X2_readsRule_b78 t25 else (if x1 = 100 then lt (sI t0 138 0 0) fun t27 => f_X2_readsRule_b78 t27 else (if x1 = 109 then lt (sI t0 138 0 2) fun t29 => f_X2_readsRule_b78 t29 else (if x1 = 119 then lt (sI t0 138 0 1) fun t31 => f_X2_readsRule_b78 t31 else some (0, t0)))))
def f_X2_readsOther (x1 : Int32) (x2 : Int32) (x3 : Int32) (t0 : St) : Option (Int32 × St) :=
  (if x1 < 48 then some (0, t0) else (if x1 ≤ (48 + x2) then lt (sI t0 138 3 (x1 - 48)) fun t23 => lt (sI t23 138 5 x3) fun t24 => some (1, t24) else some (0, t0)))
def f_X2_readsSign_b26 (w0 : Int32) (t0 : St) : Option (Int32 × St) :=
  gd (is01 w0) <| lt (sI t0 138 2 w0) fun t21 => lt (sI t21 138 5 3) fun t23 => some (1, t23)
def f_X2_readsSign_b14 (x1 : Int32) (t0 : St) : Option (Int32 × St) :=
  (if x1 = 45 then f_X2_readsSign_b26 1 t0 else f_X2_readsSign_b26 0 t0)
def f_X2_readsSign (x1 : Int32) (t0 : St) : Option (Int32 × St) :=
  (if x1 = 43 then f_X2_readsSign_b14 x1 t0 else (if x1 = 45 then f_X2_readsSign_b14 x1 t0 else some (0, t0)))
def f_X2_isDigit (x0 : Int32) (t0 : St) : Option (Int32 × St) :=
  (if x0 < 48 then some (0, t0) else (if 57 < x0 then some (0, t0) else some (1, t0)))
def f_X2_readsFirstDigit (x1 : Int32) (t0 : St) : Option (Int32 × St) :=
  bd (f_X2_isDigit x1 t0) fun x21 t22 => (if x21 = 0 then some (0, t22) else lt (sI t22 138 1 (x1 - 48)) fun t25 => lt (sI t25 138 5 4) fun t26 => some (1, t26))
def f_X2_readsNextDigit_b29 (x1 : Int32) (y2 : Int32) (w0 : Int32) (t0 : St) : Option (Int32 × St) :=
  bd (f_X2_isDigit x1 t0) fun x21 t22 => (if x21 = 0 then some (0, t22) else (if (t22.1 138 1) = 0 then some (0, t22) else (if y2 ≤ w0 then lt (sI t22 138 1 y2) fun t27 => some (1, t27) else some (0, t22))))
def f_X2_readsNextDigit (x1 : Int32) (t0 : St) : Option (Int32 × St) :=
  lt ((((t0.1 138 1) * 10) + x1) - 48) fun x28 => (if (t0.1 138 0) = 3 then f_X2_readsNextDigit_b29 x1 x28 90 t0 else f_X2_readsNextDigit_b29 x1 x28 365 t0)
def f_X2_readsComma (x1 : Int32) (t0 : St) : Option (Int32 × St) :=
  (if x1 = 44 then lt (sI t0 138 5 5) fun t22 => some (1, t22) else some (0, t0))
def f_X2_readsSeparator (x1 : Int32) (t0 : St) : Option (Int32 × St) :=
  (if x1 = 59 then bv (f_X2_start t0) fun t23 => some (1, t23) else some (0, t0))
def f_X2_readsBehindRule (x1 : Int32) (t0 : St) : Option (Int32 × St) :=
  (if x1 = 94 then lt (sI t0 138 5 7) fun t22 => some (1, t22) else bd (f_X2_readsSeparator x1 t0) fun x23 t24 => gd (is01 x23) <| some (x23, t24))
def f_X2_readsRank (x1 : Int32) (t0 : St) : Option (Int32 × St) :=
  bd (f_X2_isDigit x1 t0) fun x21 t22 => (if x21 = 0 then some (0, t22) else lt (sI t22 138 4 (x1 - 48)) fun t25 => lt (sI t25 138 5 8) fun t26 => some (1, t26))
def f_X2_reads (x1 : Int32) (t0 : St) : Option (Int32 × St) :=
  (if (t0.1 138 5) = 0 then bd (f_X2_readsRule x1 t0) fun x22 t23 => gd (is01 x22) <| some (x22, t23) else (if (t0.1 138 5) = 1 then bd (f_X2_readsOther x1 9 2 t0) fun x27 t28 => gd (is01 x27) <| some (x27, t28) else (if (t0.1 138 5) = 2 then bd (f_X2_readsSign x1 t0) fun x32 t33 => gd (is01 x32) <| some (x32, t33) else (if (t0.1 138 5) = 3 then bd (f_X2_readsFirstDigit x1 t0) fun x37 t38 => gd (is01 x37) <| some (x37, t38) else (if (t0.1 138 5) = 4 then bd (f_X2_readsNextDigit x1 t0) fun x42 t43 => (if x42 = 0 then bd (f_X2_hasWeekday t43) fun x46 t47 => (if x46 = 0 then bd (f_X2_readsBehindRule x1 t47) fun x50 t51 => (if x50 = 0 then some (0, t51) else some (1, t51)) else bd (f_X2_readsComma x1 t47) fun x54 t55 => (if x54 = 0 then some (0, t55) else some (1, t55))) else some (1, t43)) else (if (t0.1 138 5) = 5 then bd (f_X2_readsOther x1 6 6 t0) fun x59 t60 => gd (is01 x59) <| some (x59, t60) else (if (t0.1 138 5) = 6 then bd (f_X2_readsBehindRule x1 t0) fun x64 t65 => gd (is01 x64) <| some (x64, t65) else (if (t0.1 138 5) = 7 then bd (f_X2_readsRank x1 t0) fun x69 t70 => gd (is01 x69) <| some (x69, t70) else bd (f_X2_readsSeparator x1 t0) fun x73 t74 => gd (is01 x73) <| some (x73, t74)))))))))
def f_X3_movedCount_b4 (K4 : Nat → Int32 → Int32 → Int32 → St → Option (Int32 × St)) (a0 : Nat) (x1 : Int32) (y2 : Int32) (y3 : Int32) (t0 : St) : Option (Int32 × St) :=
  (if x1 ≤ y3 then some (y2, t0) else bd (f_X4_at (a0 + 3) y3 t0) fun x22 t23 => (if x22 = (-1) then lt (y3 + 1) fun x26 => K4 a0 x1 y2 x26 t23 else bd (f_X4_at (a0 + 1) y3 t23) fun x27 t28 => (if x22 = x27 then lt (y3 + 1) fun x31 => K4 a0 x1 y2 x31 t28 else lt (y2 + 1) fun x32 => lt (y3 + 1) fun x33 => K4 a0 x1 x32 x33 t28)))
def f_X3_movedCount_l4 : Nat → Nat → Int32 → Int32 → Int32 → St → Option (Int32 × St)
  | 0, _, _, _, _, _ => none
  | g + 1, a0, x1, y2, y3, t0 => f_X3_movedCount_b4 (f_X3_movedCount_l4 g) a0 x1 y2 y3 t0
def f_X3_movedCount (a0 : Nat) (x1 : Int32) (t0 : St) : Option (Int32 × St) :=
  f_X3_movedCount_l4 FU a0 x1 0 0 t0
def f_X5_addFeast_b57 (a0 : Nat) (a1 : Nat) (w0 : Int32) (w1 : Int32) (t0 : St) : Option (St) :=
  bv (f_X4_put (a0 + 5) w1 w0 t0) fun t22 => bv (f_X4_put (a0 + 7) (t22.1 a0 0) (t22.1 a1 3) t22) fun t25 => lt (sI t25 a0 0 ((t25.1 a0 0) + 1)) fun t27 => some t27
def f_X5_addFeast (a0 : Nat) (a1 : Nat) (t0 : St) : Option (St) :=
  bv (f_X4_put (a0 + 1) (t0.1 a0 0) (t0.1 a1 0) t0) fun t29 => bv (f_X4_put (a0 + 3) (t29.1 a0 0) (t29.1 a1 4) t29) fun t32 => (if (t32.1 a1 2) = 0 then f_X5_addFeast_b57 a0 a1 (t32.1 a1 1) (t32.1 a0 0) t32 else f_X5_addFeast_b57 a0 a1 (-(t32.1 a1 1)) (t32.1 a0 0) t32)
def f_X5_stickNotch (a0 : Nat) (x1 : Int32) (x2 : Int32) (t0 : St) : Option (Int32 × St) :=
  bd (f_X4_at (a0 + 17) ((x1 * 10) + x2) t0) fun x21 t22 => some (x21, t22)
def f_X5_copyStick_b50 (K50 : Nat → Int32 → Int32 → Int32 → St → Option (St)) (a0 : Nat) (x1 : Int32) (x2 : Int32) (y3 : Int32) (t0 : St) : Option (St) :=
  (if 10 ≤ y3 then some t0 else bd (f_X5_stickNotch a0 x1 y3 t0) fun x22 t23 => bv (f_X4_put (a0 + 17) ((x2 * 10) + y3) x22 t23) fun t26 => lt (y3 + 1) fun x28 => K50 a0 x1 x2 x28 t26)
def f_X5_copyStick_l50 : Nat → Nat → Int32 → Int32 → Int32 → St → Option (St)
  | 0, _, _, _, _, _ => none
  | g + 1, a0, x1, x2, y3, t0 => f_X5_copyStick_b50 (f_X5_copyStick_l50 g) a0 x1 x2 y3 t0
def f_X5_copyStick (a0 : Nat) (x1 : Int32) (x2 : Int32) (t0 : St) : Option (St) :=
  bd (f_X4_at (a0 + 11) x1 t0) fun x29 t30 => bv (f_X4_put (a0 + 11) x2 x29 t30) fun t33 => bd (f_X4_at (a0 + 13) x1 t33) fun x35 t36 => bv (f_X4_put (a0 + 13) x2 x35 t36) fun t39 => bd (f_X4_at (a0 + 15) x1 t39) fun x41 t42 => bv (f_X4_put (a0 + 15) x2 x41 t42) fun t45 => f_X5_copyStick_l50 FU a0 x1 x2 0 t45
def f_X5_addStick_b80 (K80 : Nat → Nat → Int32 → St → Option (St)) (a0 : Nat) (a3 : Nat) (y4 : Int32) (t0 : St) : Option (St) :=
  (if 10 ≤ y4 then some t0 else bd (f_X4_at a3 y4 t0) fun x22 t23 => bv (f_X4_put (a0 + 17) y4 x22 t23) fun t26 => lt (y4 + 1) fun x28 => K80 a0 a3 x28 t26)
def f_X5_addStick_l80 : Nat → Nat → Nat → Int32 → St → Option (St)
  | 0, _, _, _, _ => none
  | g + 1, a0, a3, y4, t0 => f_X5_addStick_b80 (f_X5_addStick_l80 g) a0 a3 y4 t0
def f_X5_addStick_b26 (K26 : Nat → Int32 → Int32 → Nat → Int32 → St → Option (St)) (a0 : Nat) (x1 : Int32) (x2 : Int32) (a3 : Nat) (y4 : Int32) (t0 : St) : Option (St) :=
  (if y4 ≤ 0 then bv (f_X4_put (a0 + 11) 0 x1 t0) fun t31 => bv (f_X4_put (a0 + 13) 0 x2 t31) fun t34 => bv (f_X4_put (a0 + 15) 0 (t34.1 a0 0) t34) fun t37 => f_X5_addStick_l80 FU a0 a3 0 t37 else bv (f_X5_copyStick a0 (y4 - 1) y4 t0) fun t40 => lt (y4 + (-1)) fun x42 => K26 a0 x1 x2 a3 x42 t40)
def f_X5_addStick_l26 : Nat → Nat → Int32 → Int32 → Nat → Int32 → St → Option (St)
  | 0, _, _, _, _, _, _ => none
  | g + 1, a0, x1, x2, a3, y4, t0 => f_X5_addStick_b26 (f_X5_addStick_l26 g) a0 x1 x2 a3 y4 t0
def f_X5_addStick (a0 : Nat) (x1 : Int32) (x2 : Int32) (a3 : Nat) (t0 : St) : Option (St) :=
  (if 5 ≤ (t0.1 a0 7) then lt ((t0.1 a0 7) - 1) fun x44 => f_X5_addStick_l26 FU a0 x1 x2 a3 x44 t0 else lt (sI t0 a0 7 ((t0.1 a0 7) + 1)) fun t45 => lt ((t45.1 a0 7) - 1) fun x46 => f_X5_addStick_l26 FU a0 x1 x2 a3 x46 t45)
def f_X5_dropStick_b2 (K2 : Nat → Int32 → St → Option (St)) (a0 : Nat) (y2 : Int32) (t0 : St) : Option (St) :=
  (if ((t0.1 a0 7) - 1) ≤ y2 then lt (sI t0 a0 7 ((t0.1 a0 7) - 1)) fun t22 => some t22 else bv (f_X5_copyStick a0 (y2 + 1) y2 t0) fun t24 => lt (y2 + 1) fun x26 => K2 a0 x26 t24)
def f_X5_dropStick_l2 : Nat → Nat → Int32 → St → Option (St)
  | 0, _, _, _ => none
  | g + 1, a0, y2, t0 => f_X5_dropStick_b2 (f_X5_dropStick_l2 g) a0 y2 t0
def f_X5_dropStick (a0 : Nat) (x1 : Int32) (t0 : St) : Option (St) :=
  f_X5_dropStick_l2 FU a0 x1 t0
def f_X5_notchesOfStick_b4 (K4 : Nat → Int32 → Int32 → Int32 → St → Option (Int32 × St)) (a0 : Nat) (x1 : Int32) (y2 : Int32) (y3 : Int32) (t0 : St) : Option (Int32 × St) :=
  (if 10 ≤ y3 then some (y2, t0) else bd (f_X5_stickNotch a0 x1 y3 t0) fun x22 t23 => (if x22 = (-1) then lt (y3 + 1) fun x26 => K4 a0 x1 y2 x26 t23 else lt (y2 + 1) fun x27 => lt (y3 + 1) fun x28 => K4 a0 x1 x27 x28 t23))
def f_X5_notchesOfStick_l4 : Nat → Nat → Int32 → Int32 → Int32 → St → Option (Int32 × St)
  | 0, _, _, _, _, _ => none
  | g + 1, a0, x1, y2, y3, t0 => f_X5_notchesOfStick_b4 (f_X5_notchesOfStick_l4 g) a0 x1 y2 y3 t0
def f_X5_notchesOfStick (a0 : Nat) (x1 : Int32) (t0 : St) : Option (Int32 × St) :=
  f_X5_notchesOfStick_l4 FU a0 x1 0 0 t0
def f_X6_signsReadWell_b9 (K9 : Int32 → St → Option (Int32 × St)) (y1 : Int32) (t0 : St) : Option (Int32 × St) :=
  (if (t0.1 0 8) ≤ y1 then some ((t0.1 0 8), t0) else bd (f_X4_at 136 y1 t0) fun x22 t23 => bd (f_X2_reads x22 t23) fun x25 t26 => (if x25 = 0 then some (y1, t26) else lt (y1 + 1) fun x29 => K9 x29 t26))
def f_X6_signsReadWell_l9 : Nat → Int32 → St → Option (Int32 × St)
  | 0, _, _ => none
  | g + 1, y1, t0 => f_X6_signsReadWell_b9 (f_X6_signsReadWell_l9 g) y1 t0
def f_X6_signsReadWell (t0 : St) : Option (Int32 × St) :=
  bv (f_X2_start t0) fun t31 => f_X6_signsReadWell_l9 FU 0 t31
def f_X6_bufferTellsFeasts (t0 : St) : Option (Int32 × St) :=
  bd (f_X6_signsReadWell t0) fun x21 t22 => (if x21 = (t22.1 0 8) then bd (f_X2_mayEnd t22) fun x25 t26 => (if x25 = 0 then some (0, t26) else some (1, t26)) else some (0, t22))
def f_X6_addReadFeast_b33 (w0 : Int32) (t0 : St) : Option (Int32 × St) :=
  (if 10 ≤ (t0.1 1 0) then some (0, t0) else (if w0 = 0 then bv (f_X5_addFeast 1 138 t0) fun t24 => some (1, t24) else some (0, t0)))
def f_X6_addReadFeast_b32 (t0 : St) : Option (Int32 × St) :=
  f_X6_addReadFeast_b33 0 t0
def f_X6_addReadFeast (t0 : St) : Option (Int32 × St) :=
  (if (t0.1 138 0) = 3 then (if (t0.1 138 3) < (t0.1 1 0) then f_X6_addReadFeast_b32 t0 else f_X6_addReadFeast_b33 1 t0) else f_X6_addReadFeast_b32 t0)
def f_X6_addBufferedFeasts_b78 (y1 : Int32) (t0 : St) : Option (Int32 × St) :=
  some (((t0.1 1 0) - y1), t0)
def f_X6_addBufferedFeasts_b69 (y1 : Int32) (y2 : Int32) (t0 : St) : Option (Int32 × St) :=
  (if y2 = 0 then f_X6_addBufferedFeasts_b78 y1 t0 else bd (f_X6_addReadFeast t0) fun x22 t23 => f_X6_addBufferedFeasts_b78 y1 t23)
def f_X6_addBufferedFeasts_b53 (K19 : Int32 → Int32 → Int32 → St → Option (Int32 × St)) (y1 : Int32) (y2 : Int32) (y3 : Int32) (y4 : Int32) (t0 : St) : Option (Int32 × St) :=
  bd (f_X2_reads y4 t0) fun x25 t26 => lt (y3 + 1) fun x28 => K19 y1 y2 x28 t26
def f_X6_addBufferedFeasts_b19 (K19 : Int32 → Int32 → Int32 → St → Option (Int32 × St)) (y1 : Int32) (y2 : Int32) (y3 : Int32) (t0 : St) : Option (Int32 × St) :=
  (if (t0.1 0 8) ≤ y3 then f_X6_addBufferedFeasts_b69 y1 y2 t0 else (if y2 = 0 then f_X6_addBufferedFeasts_b69 y1 y2 t0 else bd (f_X4_at 136 y3 t0) fun x31 t32 => (if x31 = 59 then bd (f_X6_addReadFeast t32) fun x35 t36 => f_X6_addBufferedFeasts_b53 K19 y1 x35 y3 x31 t36 else f_X6_addBufferedFeasts_b53 K19 y1 y2 y3 x31 t32)))
def f_X6_addBufferedFeasts_l19 : Nat → Int32 → Int32 → Int32 → St → Option (Int32 × St)
  | 0, _, _, _, _ => none
  | g + 1, y1, y2, y3, t0 => f_X6_addBufferedFeasts_b19 (f_X6_addBufferedFeasts_l19 g) y1 y2 y3 t0
def f_X6_addBufferedFeasts (t0 : St) : Option (Int32 × St) :=
  lt (t0.1 1 0) fun x38 => bv (f_X2_start t0) fun t40 => f_X6_addBufferedFeasts_l19 FU x38 1 0 t40
def f_X6_proclaim (t0 : St) : Option (Int32 × St) :=
  bd (f_X6_bufferTellsFeasts t0) fun x21 t22 => (if x21 = 0 then none else bv (f_X1_save 1 t22) fun t26 => bd (f_X6_addBufferedFeasts t26) fun x28 t29 => lt (sI t29 0 8 0) fun t31 => some (x28, t31))
def f_X6_forget (t0 : St) : Option (Int32 × St) :=
  (if 0 < (t0.1 1 0) then bv (f_X1_save 1 t0) fun t23 => lt (sI t23 1 0 ((t23.1 1 0) - 1)) fun t25 => some ((t25.1 1 0), t25) else none)
def f_X6_needFeast (x1 : Int32) (t0 : St) : Option (St) :=
  (if x1 < 0 then none else (if x1 < (t0.1 1 0) then some t0 else none))
def f_X6_needWithin (x0 : Int32) (x1 : Int32) (x2 : Int32) (t0 : St) : Option (St) :=
  (if x0 < x1 then none else (if x0 ≤ x2 then some t0 else none))
def f_X6_rank (x1 : Int32) (x2 : Int32) (t0 : St) : Option (Int32 × St) :=
  bv (f_X6_needFeast x1 t0) fun t22 => bv (f_X6_needWithin x2 0 9 t22) fun t25 => bv (f_X1_save 1 t25) fun t28 => bd (f_X4_at 4 x1 t28) fun x30 t31 => bv (f_X4_put 4 x1 x2 t31) fun t34 => some (x30, t34)
def f_X6_needCarver (x0 : Int32) (t0 : St) : Option (St) :=
  bv (f_X6_needWithin x0 0 2 t0) fun t22 => some t22
def f_X6_teach (x1 : Int32) (x2 : Int32) (t0 : St) : Option (Int32 × St) :=
  bv (f_X6_needCarver x1 t0) fun t22 => bv (f_X6_needWithin x2 (-5) 5 t22) fun t25 => bv (f_X1_save 1 t25) fun t28 => bd (f_X4_at 10 x1 t28) fun x30 t31 => bv (f_X4_put 10 x1 x2 t31) fun t34 => some ((x30 + 5), t34)
def f_X6_needYear (x0 : Int32) (t0 : St) : Option (St) :=
  bv (f_X6_needWithin x0 0 999 t0) fun t22 => some t22
def f_X6_carve (x1 : Int32) (x2 : Int32) (t0 : St) : Option (Int32 × St) :=
  bv (f_X6_needYear x1 t0) fun t22 => bv (f_X6_needCarver x2 t22) fun t25 => bv (f_X1_save 1 t25) fun t28 => bd (f_X4_at 10 x2 t28) fun x30 t31 => bv (f_X3_reckon 139 1 x1 x30 t31) fun t34 => bv (f_X5_addStick 1 x1 x2 142 t34) fun t37 => bd (f_X5_notchesOfStick 1 0 t37) fun x39 t40 => some (x39, t40)
def f_X6_needStick (x1 : Int32) (t0 : St) : Option (St) :=
  (if x1 < 0 then none else (if x1 < (t0.1 1 7) then some t0 else none))
def f_X6_burn (x1 : Int32) (t0 : St) : Option (Int32 × St) :=
  bv (f_X6_needStick x1 t0) fun t22 => bv (f_X1_save 1 t22) fun t25 => bd (f_X4_at 12 x1 t25) fun x27 t28 => bv (f_X5_dropStick 1 x1 t28) fun t31 => some (x27, t31)
def f_X6_set (x1 : Int32) (t0 : St) : Option (Int32 × St) :=
  bv (f_X6_needWithin x1 50 400 t0) fun t22 => bv (f_X1_save 1 t22) fun t25 => lt (t25.1 1 6) fun x27 => lt (sI t25 1 6 x1) fun t28 => some (x27, t28)
def f_X6_append (x1 : Int32) (t0 : St) : Option (Int32 × St) :=
  bv (f_X6_needWithin x1 33 126 t0) fun t22 => (if (t22.1 0 8) < 60 then bv (f_X4_put 136 (t22.1 0 8) x1 t22) fun t26 => lt (sI t26 0 8 ((t26.1 0 8) + 1)) fun t28 => some ((t28.1 0 8), t28) else none)
def f_X6_undo (t0 : St) : Option (Int32 × St) :=
  bd (f_X1_isEmpty t0) fun x21 t22 => (if x21 = 0 then bv (f_X1_restoreInto 1 t22) fun t26 => bd (f_X1_size t26) fun x28 t29 => some (x28, t29) else none)
def f_X6_lowestFeastOn_b14 (K14 : Int32 → Int32 → St → Option (Int32 × St)) (x2 : Int32) (y3 : Int32) (t0 : St) : Option (Int32 × St) :=
  (if (t0.1 1 0) ≤ y3 then some ((-1), t0) else bd (f_X0_settledNotch 144 y3 t0) fun x22 t23 => (if x22 = x2 then some (y3, t23) else lt (y3 + 1) fun x26 => K14 x2 x26 t23))
def f_X6_lowestFeastOn_l14 : Nat → Int32 → Int32 → St → Option (Int32 × St)
  | 0, _, _, _ => none
  | g + 1, x2, y3, t0 => f_X6_lowestFeastOn_b14 (f_X6_lowestFeastOn_l14 g) x2 y3 t0
def f_X6_lowestFeastOn (x1 : Int32) (x2 : Int32) (t0 : St) : Option (Int32 × St) :=
  bv (f_X0_gather 144 1 x1 t0) fun t28 => f_X6_lowestFeastOn_l14 FU x2 0 t28
def f_X6_day (x1 : Int32) (x2 : Int32) (x3 : Int32) (t0 : St) : Option (Int32 × St) :=
  bv (f_X6_needYear x1 t0) fun t22 => bv (f_X6_needWithin x2 0 365 t22) fun t25 => bv (f_X6_needWithin x3 0 2 t25) fun t28 => bd (f_X6_daysIn x1 t28) fun x30 t31 => (if x2 < x30 then (if x3 = 0 then bd (f_X6_newYearWeekday x1 t31) fun x35 t36 => some ((rm (x35 + x2) 7), t36) else (if x3 = 1 then bd (f_X4_at 10 0 t31) fun x39 t40 => bd (f_X6_moonShift x1 x39 (t40.1 1 6) t40) fun x42 t43 => bd (f_X6_moonAge x42 x2 t43) fun x45 t46 => some (x45, t46) else bd (f_X6_lowestFeastOn x1 x2 t31) fun x48 t49 => some (x48, t49))) else some ((-1), t31))
def f_X6_feastProperty (x1 : Int32) (x2 : Int32) (t0 : St) : Option (Int32 × St) :=
  (if x2 = 0 then bd (f_X4_at 2 x1 t0) fun x22 t23 => some (x22, t23) else (if x2 = 1 then bd (f_X4_at 4 x1 t0) fun x26 t27 => some (x26, t27) else (if x2 = 2 then bd (f_X4_at 2 x1 t0) fun x30 t31 => (if x30 = 3 then bd (f_X4_at 6 x1 t31) fun x37 t38 => some ((x37 + 90), t38) else bd (f_X4_at 6 x1 t31) fun x34 t35 => some (x34, t35)) else bd (f_X4_at 8 x1 t0) fun x40 t41 => some (x40, t41))))
def f_X6_feast (x1 : Int32) (x2 : Int32) (t0 : St) : Option (Int32 × St) :=
  bv (f_X6_needFeast x1 t0) fun t22 => bv (f_X6_needWithin x2 0 3 t22) fun t25 => bd (f_X6_feastProperty x1 x2 t25) fun x27 t28 => some (x27, t28)
def f_X6_when (x1 : Int32) (x2 : Int32) (x3 : Int32) (x4 : Int32) (t0 : St) : Option (Int32 × St) :=
  bv (f_X6_needFeast x1 t0) fun t22 => bv (f_X6_needYear x2 t22) fun t25 => bv (f_X6_needCarver x3 t25) fun t28 => bd (f_X4_at 10 x3 t28) fun x30 t31 => bv (f_X3_reckon 139 1 x2 x30 t31) fun t34 => (if x4 = 0 then bd (f_X4_at 142 x1 t34) fun x37 t38 => some (x37, t38) else bd (f_X4_at 140 x1 t34) fun x40 t41 => some (x40, t41))
def f_X6_settled (x1 : Int32) (x2 : Int32) (t0 : St) : Option (Int32 × St) :=
  bv (f_X6_needFeast x1 t0) fun t22 => bv (f_X6_needYear x2 t22) fun t25 => bv (f_X0_gather 144 1 x2 t25) fun t28 => bd (f_X0_settledNotch 144 x1 t28) fun x30 t31 => some (x30, t31)
def f_X6_quarrels (x1 : Int32) (t0 : St) : Option (Int32 × St) :=
  bv (f_X6_needYear x1 t0) fun t22 => bv (f_X0_gather 144 1 x1 t22) fun t25 => bd (f_X0_quarrelCount 144 (t25.1 1 0) t25) fun x27 t28 => some (x27, t28)
def f_X6_staleFeasts_b97 (K5 : Int32 → Int32 → Int32 → St → Option (Int32 × St)) (K73 : Int32 → Int32 → Int32 → Int32 → Int32 → St → Option (Int32 × St)) (x2 : Int32) (y3 : Int32) (y4 : Int32) (y5 : Int32) (y6 : Int32) (w0 : Int32) (t0 : St) : Option (Int32 × St) :=
  (if w0 = 0 then bd (f_X4_at 142 y6 t0) fun x24 t25 => bd (f_X5_stickNotch 1 y4 y6 t25) fun x27 t28 => (if x24 = x27 then lt (y6 + 1) fun x31 => K73 x2 y3 y4 y5 x31 t28 else lt (y3 + 1) fun x32 => lt (y6 + 1) fun x33 => K73 x2 x32 y4 y5 x33 t28) else lt (y3 + 1) fun x22 => lt (y6 + 1) fun x23 => K73 x2 x22 y4 y5 x23 t0)
def f_X6_staleFeasts_b73 (K5 : Int32 → Int32 → Int32 → St → Option (Int32 × St)) (K73 : Int32 → Int32 → Int32 → Int32 → Int32 → St → Option (Int32 × St)) (x2 : Int32) (y3 : Int32) (y4 : Int32) (y5 : Int32) (y6 : Int32) (t0 : St) : Option (Int32 × St) :=
  (if y5 ≤ y6 then lt (y4 + 1) fun x35 => K5 x2 y3 x35 t0 else (if y6 < (t0.1 1 0) then f_X6_staleFeasts_b97 K5 K73 x2 y3 y4 y5 y6 0 t0 else f_X6_staleFeasts_b97 K5 K73 x2 y3 y4 y5 y6 1 t0))
def f_X6_staleFeasts_l73 (K5 : Int32 → Int32 → Int32 → St → Option (Int32 × St)) : Nat → Int32 → Int32 → Int32 → Int32 → Int32 → St → Option (Int32 × St)
  | 0, _, _, _, _, _, _ => none
  | g + 1, x2, y3, y4, y5, y6, t0 => f_X6_staleFeasts_b73 K5 (f_X6_staleFeasts_l73 K5 g) x2 y3 y4 y5 y6 t0
def f_X6_staleFeasts_b5 (K5 : Int32 → Int32 → Int32 → St → Option (Int32 × St)) (x2 : Int32) (y3 : Int32) (y4 : Int32) (t0 : St) : Option (Int32 × St) :=
  (if x2 ≤ y4 then some (y3, t0) else bd (f_X4_at 12 y4 t0) fun x38 t39 => bd (f_X4_at 14 y4 t39) fun x41 t42 => bd (f_X4_at 10 x41 t42) fun x44 t45 => bv (f_X3_reckon 139 1 x38 x44 t45) fun t48 => bd (f_X4_at 16 y4 t48) fun x50 t51 => f_X6_staleFeasts_l73 K5 FU x2 y3 y4 x50 0 t51)
def f_X6_staleFeasts_l5 : Nat → Int32 → Int32 → Int32 → St → Option (Int32 × St)
  | 0, _, _, _, _ => none
  | g + 1, x2, y3, y4, t0 => f_X6_staleFeasts_b5 (f_X6_staleFeasts_l5 g) x2 y3 y4 t0
def f_X6_staleFeasts (x1 : Int32) (x2 : Int32) (t0 : St) : Option (Int32 × St) :=
  f_X6_staleFeasts_l5 FU x2 0 x1 t0
def f_X6_stickProperty (x1 : Int32) (x2 : Int32) (t0 : St) : Option (Int32 × St) :=
  (if x2 = 0 then bd (f_X4_at 12 x1 t0) fun x22 t23 => some (x22, t23) else (if x2 = 1 then bd (f_X4_at 14 x1 t0) fun x26 t27 => some (x26, t27) else (if x2 = 2 then bd (f_X5_notchesOfStick 1 x1 t0) fun x30 t31 => some (x30, t31) else (if x2 = 3 then bd (f_X6_staleFeasts x1 (x1 + 1) t0) fun x34 t35 => some (x34, t35) else bd (f_X5_stickNotch 1 x1 (x2 - 4) t0) fun x37 t38 => some (x37, t38)))))
def f_X6_stick (x1 : Int32) (x2 : Int32) (t0 : St) : Option (Int32 × St) :=
  bv (f_X6_needStick x1 t0) fun t22 => bv (f_X6_needWithin x2 0 13 t22) fun t25 => bd (f_X6_stickProperty x1 x2 t25) fun x27 t28 => some (x27, t28)
def f_X6_numberOf (x1 : Int32) (t0 : St) : Option (Int32 × St) :=
  (if x1 = 0 then some ((t0.1 1 0), t0) else (if x1 = 1 then some ((t0.1 1 7), t0) else (if x1 = 2 then bd (f_X4_at 10 (x1 - 2) t0) fun x24 t25 => some ((x24 + 5), t25) else (if x1 = 3 then bd (f_X4_at 10 (x1 - 2) t0) fun x28 t29 => some ((x28 + 5), t29) else (if x1 = 4 then bd (f_X4_at 10 (x1 - 2) t0) fun x32 t33 => some ((x32 + 5), t33) else (if x1 = 5 then some ((t0.1 1 6), t0) else (if x1 = 6 then bd (f_X6_staleFeasts 0 (t0.1 1 7) t0) fun x37 t38 => some (x37, t38) else (if x1 = 7 then bd (f_X1_size t0) fun x41 t42 => some (x41, t42) else bd (f_X4_at 10 (x1 - 2) t0) fun x44 t45 => some ((x44 + 5), t45)))))))))
def f_X6_count (x1 : Int32) (t0 : St) : Option (Int32 × St) :=
  bv (f_X6_needWithin x1 0 7 t0) fun t22 => bd (f_X6_numberOf x1 t22) fun x24 t25 => some (x24, t25)
def f_X6_outermost_b6 (K6 : Int32 → Int32 → Int32 → Int32 → Int32 → Int32 → St → Option (Int32 × St)) (x1 : Int32) (x2 : Int32) (x3 : Int32) (x4 : Int32) (y5 : Int32) (y6 : Int32) (t0 : St) : Option (Int32 × St) :=
  (if (x2 + x3) ≤ y6 then some (y5, t0) else (if 999 < y6 then some (y5, t0) else bv (f_X0_gather 144 1 y6 t0) fun t24 => bd (f_X0_settledNotch 144 x1 t24) fun x26 t27 => (if x26 = (-1) then lt (y6 + 1) fun x30 => K6 x1 x2 x3 x4 y5 x30 t27 else (if y5 = (-1) then lt (y6 + 1) fun x32 => K6 x1 x2 x3 x4 x26 x32 t27 else (if x4 = 0 then (if y5 ≤ x26 then lt (y6 + 1) fun x35 => K6 x1 x2 x3 x4 y5 x35 t27 else lt (y6 + 1) fun x36 => K6 x1 x2 x3 x4 x26 x36 t27) else (if x26 ≤ y5 then lt (y6 + 1) fun x38 => K6 x1 x2 x3 x4 y5 x38 t27 else lt (y6 + 1) fun x39 => K6 x1 x2 x3 x4 x26 x39 t27))))))
def f_X6_outermost_l6 : Nat → Int32 → Int32 → Int32 → Int32 → Int32 → Int32 → St → Option (Int32 × St)
  | 0, _, _, _, _, _, _, _ => none
  | g + 1, x1, x2, x3, x4, y5, y6, t0 => f_X6_outermost_b6 (f_X6_outermost_l6 g) x1 x2 x3 x4 y5 y6 t0
def f_X6_outermost (x1 : Int32) (x2 : Int32) (x3 : Int32) (x4 : Int32) (t0 : St) : Option (Int32 × St) :=
  f_X6_outermost_l6 FU x1 x2 x3 x4 (-1) x2 t0
def f_X6_range (x1 : Int32) (x2 : Int32) (x3 : Int32) (x4 : Int32) (t0 : St) : Option (Int32 × St) :=
  bv (f_X6_needFeast x1 t0) fun t22 => bv (f_X6_needYear x2 t22) fun t25 => bv (f_X6_needWithin x3 1 40 t25) fun t28 => bd (f_X6_outermost x1 x2 x3 x4 t28) fun x30 t31 => some (x30, t31)
def f_X6_nextAlike_b16 (K16 : Int32 → Int32 → St → Option (Int32 × St)) (x1 : Int32) (y2 : Int32) (t0 : St) : Option (Int32 × St) :=
  (if (x1 + 100) < y2 then some ((-1), t0) else (if 999 < y2 then some ((-1), t0) else bd (f_X6_daysIn y2 t0) fun x23 t24 => bd (f_X6_daysIn x1 t24) fun x26 t27 => (if x23 = x26 then bd (f_X6_newYearWeekday y2 t27) fun x31 t32 => bd (f_X6_newYearWeekday x1 t32) fun x34 t35 => (if x31 = x34 then bv (f_X0_gather 160 1 y2 t35) fun t40 => bd (f_X0_settlesLike 160 144 (t40.1 1 0) t40) fun x42 t43 => (if x42 = 0 then lt (y2 + 1) fun x46 => K16 x1 x46 t43 else some (y2, t43)) else lt (y2 + 1) fun x38 => K16 x1 x38 t35) else lt (y2 + 1) fun x30 => K16 x1 x30 t27)))
def f_X6_nextAlike_l16 : Nat → Int32 → Int32 → St → Option (Int32 × St)
  | 0, _, _, _ => none
  | g + 1, x1, y2, t0 => f_X6_nextAlike_b16 (f_X6_nextAlike_l16 g) x1 y2 t0
def f_X6_nextAlike (x1 : Int32) (t0 : St) : Option (Int32 × St) :=
  bv (f_X0_gather 144 1 x1 t0) fun t48 => lt (x1 + 1) fun x50 => f_X6_nextAlike_l16 FU x1 x50 t48
def f_X6_alike (x1 : Int32) (t0 : St) : Option (Int32 × St) :=
  bv (f_X6_needYear x1 t0) fun t22 => bd (f_X6_nextAlike x1 t22) fun x24 t25 => some (x24, t25)
def f_X6_calmestSlip_b52 (K21 : Int32 → Int32 → Int32 → Int32 → Int32 → St → Option (Int32 × St)) (x1 : Int32) (x2 : Int32) (y3 : Int32) (y4 : Int32) (y5 : Int32) (w0 : Int32) (t0 : St) : Option (Int32 × St) :=
  bd (f_X0_by 144 x1 t0) fun x21 t22 => oc x21 (none) fun a24 => gd (isN (kd a24) 3) <| bv (f_X3_reckon a24 1 x2 w0 t22) fun t27 => bd (f_X0_quarrelCount 144 (t27.1 1 0) t27) fun x29 t30 => (if y4 ≤ x29 then lt (y5 + 1) fun x33 => K21 x1 x2 y3 y4 x33 t30 else lt (y5 + 1) fun x34 => K21 x1 x2 w0 x29 x34 t30)
def f_X6_calmestSlip_b21 (K21 : Int32 → Int32 → Int32 → Int32 → Int32 → St → Option (Int32 × St)) (x1 : Int32) (x2 : Int32) (y3 : Int32) (y4 : Int32) (y5 : Int32) (t0 : St) : Option (Int32 × St) :=
  (if 10 < y5 then some (y3, t0) else lt ((y5 + 1) / 2) fun x36 => (if (rm y5 2) = 1 then f_X6_calmestSlip_b52 K21 x1 x2 y3 y4 y5 (-x36) t0 else f_X6_calmestSlip_b52 K21 x1 x2 y3 y4 y5 x36 t0))
def f_X6_calmestSlip_l21 : Nat → Int32 → Int32 → Int32 → Int32 → Int32 → St → Option (Int32 × St)
  | 0, _, _, _, _, _, _ => none
  | g + 1, x1, x2, y3, y4, y5, t0 => f_X6_calmestSlip_b21 (f_X6_calmestSlip_l21 g) x1 x2 y3 y4 y5 t0
def f_X6_calmestSlip (x1 : Int32) (x2 : Int32) (t0 : St) : Option (Int32 × St) :=
  bv (f_X0_gather 144 1 x2 t0) fun t39 => f_X6_calmestSlip_l21 FU x1 x2 0 11 0 t39
def f_X6_peace (x1 : Int32) (x2 : Int32) (t0 : St) : Option (Int32 × St) :=
  bv (f_X6_needCarver x1 t0) fun t22 => bv (f_X6_needYear x2 t22) fun t25 => bd (f_X6_calmestSlip x1 x2 t25) fun x27 t28 => some ((x27 + 5), t28)
def f_X6_moved (x1 : Int32) (x2 : Int32) (t0 : St) : Option (Int32 × St) :=
  bv (f_X6_needYear x1 t0) fun t22 => bv (f_X6_needCarver x2 t22) fun t25 => bd (f_X4_at 10 x2 t25) fun x27 t28 => bv (f_X3_reckon 139 1 x1 x27 t28) fun t31 => bd (f_X3_movedCount 139 (t31.1 1 0) t31) fun x33 t34 => some (x33, t34)
def f_X6_freshPart_b4 (K4 : Int32 → Int32 → St → Option (UInt64 × St)) (y1 : Int32) (y2 : Int32) (t0 : St) : Option (UInt64 × St) :=
  (if (t0.1 1 7) ≤ y2 then (if 0 < y1 then bd (f_X6_staleFeasts 0 (t0.1 1 7) t0) fun x23 t24 => lt (y1 - x23) fun x26 => gd (okd (FP.ddiv (FP.i2d x26) (FP.i2d y1))) <| some ((FP.ddiv (FP.i2d x26) (FP.i2d y1)), t24) else some (4607182418800017408, t0)) else bd (f_X4_at 16 y2 t0) fun x28 t29 => lt (y1 + x28) fun x31 => lt (y2 + 1) fun x32 => K4 x31 x32 t29)
def f_X6_freshPart_l4 : Nat → Int32 → Int32 → St → Option (UInt64 × St)
  | 0, _, _, _ => none
  | g + 1, y1, y2, t0 => f_X6_freshPart_b4 (f_X6_freshPart_l4 g) y1 y2 t0
def f_X6_freshPart (t0 : St) : Option (UInt64 × St) :=
  f_X6_freshPart_l4 FU 0 0 t0
def f_X6_freshShare (t0 : St) : Option (UInt64 × St) :=
  bd (f_X6_freshPart t0) fun x21 t22 => some (x21, t22)
