/-! each method as a function over the store -/
def f_X0_by (a0 : Nat) (x1 : Int32) (t0 : St) : Option (Option Nat × St) :=
  (if x1 = 1 then some (some (a0 + 6), t0) else (if x1 = 2 then some (some (a0 + 11), t0) else some (some (a0 + 1), t0)))
def f_X4_at (a0 : Nat) (x1 : Int32) (t0 : St) : Option (Int32 × St) :=
  (if x1 < 0 then some ((-1), t0) else (if (Int32.ofNat (aln (a0 + 1))) ≤ x1 then some ((-1), t0) else gd (inB x1 (aln (a0 + 1))) <| some ((t0.1 (a0 + 1) (tc x1)), t0)))
def f_X6_isLeap (x0 : Int32) (t0 : St) : Option (Int32 × St) :=
  (if (rm x0 4) = 0 then some (1, t0) else some (0, t0))
def f_X6_daysIn (x0 : Int32) (t0 : St) : Option (Int32 × St) :=
  bd (f_X6_isLeap x0 t0) fun x21 t22 => (if x21 = 0 then some (365, t22) else some (366, t22))
def f_X6_newYearWeekday (x0 : Int32) (t0 : St) : Option (Int32 × St) :=
  lt ((x0 + 3) / 4) fun x21 => some ((rm ((365 * x0) + x21) 7), t0)
def f_X6_moonShift_b11 (x0 : Int32) (x1 : Int32) (w0 : Int32) (t0 : St) : Option (Int32 × St) :=
  some (((((11 * (rm x0 19)) + w0) + x1) + 5), t0)
def f_X6_moonShift (x0 : Int32) (x1 : Int32) (x2 : Int32) (t0 : St) : Option (Int32 × St) :=
  (if x2 ≤ 0 then f_X6_moonShift_b11 x0 x1 0 t0 else gd (nz x2) <| f_X6_moonShift_b11 x0 x1 (x0 / x2) t0)
def f_X3_weekdayFrom (a0 : Nat) (x1 : Int32) (x2 : Int32) (t0 : St) : Option (Int32 × St) :=
  lt (rm ((t0.1 a0 3) + x1) 7) fun x21 => some ((x1 + (rm ((x2 + 7) - x21) 7)), t0)
def f_X6_moonAge (x0 : Int32) (x1 : Int32) (t0 : St) : Option (Int32 × St) :=
  some ((rm ((x0 + x1) + (x1 / 59)) 30), t0)
def f_X3_weekdayPastMoon_b2 (K2 : Nat → Int32 → Int32 → St → Option (Int32 × St)) (a0 : Nat) (x2 : Int32) (y3 : Int32) (t0 : St) : Option (Int32 × St) :=
  (if (t0.1 a0 2) ≤ y3 then some ((-1), t0) else bd (f_X6_moonAge (t0.1 a0 4) y3 t0) fun x22 t23 => (if x22 = 14 then bd (f_X3_weekdayFrom a0 (y3 + 1) x2 t23) fun x27 t28 => some (x27, t28) else lt (y3 + 1) fun x26 => K2 a0 x2 x26 t23))
def f_X3_weekdayPastMoon_l2 : Nat → Nat → Int32 → Int32 → St → Option (Int32 × St)
  | 0, _, _, _, _ => none
  | g + 1, a0, x2, y3, t0 => f_X3_weekdayPastMoon_b2 (f_X3_weekdayPastMoon_l2 g) a0 x2 y3 t0
def f_X3_weekdayPastMoon (a0 : Nat) (x1 : Int32) (x2 : Int32) (t0 : St) : Option (Int32 × St) :=
  f_X3_weekdayPastMoon_l2 FU a0 x2 x1 t0
def f_X3_dayByRule (a0 : Nat) (a1 : Nat) (x2 : Int32) (t0 : St) : Option (Int32 × St) :=
  bd (f_X4_at (a1 + 5) x2 t0) fun x21 t22 => bd (f_X4_at (a1 + 7) x2 t22) fun x24 t25 => bd (f_X4_at (a1 + 1) x2 t25) fun x27 t28 => (if x27 = 0 then some (x21, t28) else (if x27 = 1 then bd (f_X3_weekdayFrom a0 x21 x24 t28) fun x32 t33 => some (x32, t33) else (if x27 = 2 then bd (f_X3_weekdayPastMoon a0 x21 x24 t28) fun x36 t37 => some (x36, t37) else bd (f_X4_at (a0 + 1) x24 t28) fun x39 t40 => (if x39 = (-1) then some ((-1), t40) else bd (f_X4_at (a0 + 1) x24 t40) fun x43 t44 => some ((x43 + x21), t44)))))
def f_X3_orNone (a0 : Nat) (x1 : Int32) (t0 : St) : Option (Int32 × St) :=
  (if x1 < 0 then some ((-1), t0) else (if (t0.1 a0 2) ≤ x1 then some ((-1), t0) else some (x1, t0)))
def f_X4_put (a0 : Nat) (x1 : Int32) (x2 : Int32) (t0 : St) : Option (St) :=
  (if x1 < 0 then some t0 else (if (Int32.ofNat (aln (a0 + 1))) ≤ x1 then some t0 else gd (inB x1 (aln (a0 + 1))) <| lt (sI t0 (a0 + 1) (tc x1) x2) fun t24 => some t24))
def f_X4_putNowhere_b2 (K2 : Nat → Int32 → St → Option (St)) (a0 : Nat) (y1 : Int32) (t0 : St) : Option (St) :=
  (if (Int32.ofNat (aln (a0 + 1))) ≤ y1 then some t0 else gd (inB y1 (aln (a0 + 1))) <| lt (sI t0 (a0 + 1) (tc y1) (-1)) fun t23 => lt (y1 + 1) fun x24 => K2 a0 x24 t23)
def f_X4_putNowhere_l2 : Nat → Nat → Int32 → St → Option (St)
  | 0, _, _, _ => none
  | g + 1, a0, y1, t0 => f_X4_putNowhere_b2 (f_X4_putNowhere_l2 g) a0 y1 t0
def f_X4_putNowhere (a0 : Nat) (t0 : St) : Option (St) :=
  f_X4_putNowhere_l2 FU a0 0 t0
def f_X3_hasNotch_b2 (K2 : Nat → Int32 → Int32 → Int32 → St → Option (Int32 × St)) (a0 : Nat) (x1 : Int32) (x2 : Int32) (y3 : Int32) (t0 : St) : Option (Int32 × St) :=
  (if x2 ≤ y3 then some (0, t0) else bd (f_X4_at (a0 + 3) y3 t0) fun x22 t23 => (if x22 = x1 then some (1, t23) else lt (y3 + 1) fun x26 => K2 a0 x1 x2 x26 t23))
def f_X3_hasNotch_l2 : Nat → Nat → Int32 → Int32 → Int32 → St → Option (Int32 × St)
  | 0, _, _, _, _, _ => none
  | g + 1, a0, x1, x2, y3, t0 => f_X3_hasNotch_b2 (f_X3_hasNotch_l2 g) a0 x1 x2 y3 t0
def f_X3_hasNotch (a0 : Nat) (x1 : Int32) (x2 : Int32) (t0 : St) : Option (Int32 × St) :=
  f_X3_hasNotch_l2 FU a0 x1 x2 0 t0
def f_X3_cutNotches_b72 (K2 : Nat → Nat → Int32 → Int32 → St → Option (St)) (a0 : Nat) (a1 : Nat) (x2 : Int32) (y3 : Int32) (y4 : Int32) (t0 : St) : Option (St) :=
  bd (f_X3_orNone a0 y4 t0) fun x21 t22 => bv (f_X4_put (a0 + 3) y3 x21 t22) fun t25 => lt (y3 + 1) fun x27 => K2 a0 a1 x2 x27 t25
def f_X3_cutNotches_b41 (K2 : Nat → Nat → Int32 → Int32 → St → Option (St)) (K41 : Nat → Nat → Int32 → Int32 → Int32 → Int32 → St → Option (St)) (a0 : Nat) (a1 : Nat) (x2 : Int32) (y3 : Int32) (y4 : Int32) (y5 : Int32) (t0 : St) : Option (St) :=
  (if (t0.1 a1 0) ≤ y5 then f_X3_cutNotches_b72 K2 a0 a1 x2 y3 y4 t0 else bd (f_X3_hasNotch a0 y4 (t0.1 a1 0) t0) fun x29 t30 => (if x29 = 0 then f_X3_cutNotches_b72 K2 a0 a1 x2 y3 y4 t30 else lt (y4 + 1) fun x33 => lt (y5 + 1) fun x34 => K41 a0 a1 x2 y3 x33 x34 t30))
def f_X3_cutNotches_l41 (K2 : Nat → Nat → Int32 → Int32 → St → Option (St)) : Nat → Nat → Nat → Int32 → Int32 → Int32 → Int32 → St → Option (St)
  | 0, _, _, _, _, _, _, _ => none
  | g + 1, a0, a1, x2, y3, y4, y5, t0 => f_X3_cutNotches_b41 K2 (f_X3_cutNotches_l41 K2 g) a0 a1 x2 y3 y4 y5 t0
def f_X3_cutNotches_b2 (K2 : Nat → Nat → Int32 → Int32 → St → Option (St)) (a0 : Nat) (a1 : Nat) (x2 : Int32) (y3 : Int32) (t0 : St) : Option (St) :=
  (if (t0.1 a1 0) ≤ y3 then some t0 else bd (f_X4_at (a0 + 1) y3 t0) fun x36 t37 => (if x36 = (-1) then lt (y3 + 1) fun x40 => K2 a0 a1 x2 x40 t37 else bd (f_X4_at (a1 + 3) y3 t37) fun x41 t42 => (if x41 = x2 then f_X3_cutNotches_l41 K2 FU a0 a1 x2 y3 x36 0 t42 else lt (y3 + 1) fun x45 => K2 a0 a1 x2 x45 t42)))
def f_X3_cutNotches_l2 : Nat → Nat → Nat → Int32 → Int32 → St → Option (St)
  | 0, _, _, _, _, _ => none
  | g + 1, a0, a1, x2, y3, t0 => f_X3_cutNotches_b2 (f_X3_cutNotches_l2 g) a0 a1 x2 y3 t0
def f_X3_cutNotches (a0 : Nat) (a1 : Nat) (x2 : Int32) (t0 : St) : Option (St) :=
  f_X3_cutNotches_l2 FU a0 a1 x2 0 t0
def f_X3_reckon_b78 (K78 : Nat → Nat → Int32 → St → Option (St)) (a0 : Nat) (a1 : Nat) (y4 : Int32) (t0 : St) : Option (St) :=
  (if y4 < 0 then some t0 else bv (f_X3_cutNotches a0 a1 y4 t0) fun t23 => lt (y4 + (-1)) fun x25 => K78 a0 a1 x25 t23)
def f_X3_reckon_l78 : Nat → Nat → Nat → Int32 → St → Option (St)
  | 0, _, _, _, _ => none
  | g + 1, a0, a1, y4, t0 => f_X3_reckon_b78 (f_X3_reckon_l78 g) a0 a1 y4 t0
def f_X3_reckon_b32 (K32 : Nat → Nat → Int32 → St → Option (St)) (a0 : Nat) (a1 : Nat) (y4 : Int32) (t0 : St) : Option (St) :=
  (if (t0.1 a1 0) ≤ y4 then bv (f_X4_putNowhere (a0 + 3) t0) fun t28 => f_X3_reckon_l78 FU a0 a1 9 t28 else bd (f_X3_dayByRule a0 a1 y4 t0) fun x30 t31 => bd (f_X3_orNone a0 x30 t31) fun x33 t34 => bv (f_X4_put (a0 + 1) y4 x33 t34) fun t37 => lt (y4 + 1) fun x39 => K32 a0 a1 x39 t37)
def f_X3_reckon_l32 : Nat → Nat → Nat → Int32 → St → Option (St)
  | 0, _, _, _, _ => none
  | g + 1, a0, a1, y4, t0 => f_X3_reckon_b32 (f_X3_reckon_l32 g) a0 a1 y4 t0
def f_X3_reckon (a0 : Nat) (a1 : Nat) (x2 : Int32) (x3 : Int32) (t0 : St) : Option (St) :=
  bd (f_X6_daysIn x2 t0) fun x40 t41 => lt (sI t41 a0 2 x40) fun t43 => bd (f_X6_newYearWeekday x2 t43) fun x44 t45 => lt (sI t45 a0 3 x44) fun t47 => bd (f_X6_moonShift x2 x3 (t47.1 a1 6) t47) fun x48 t49 => lt (sI t49 a0 4 x48) fun t51 => f_X3_reckon_l32 FU a0 a1 0 t51
def f_X0_gather_b2 (K2 : Nat → Nat → Int32 → Int32 → St → Option (St)) (a0 : Nat) (a1 : Nat) (x2 : Int32) (y3 : Int32) (t0 : St) : Option (St) :=
  (if 3 ≤ y3 then some t0 else bd (f_X0_by a0 y3 t0) fun x22 t23 => oc x22 (none) fun a25 => gd (isN (kd a25) 3) <| bd (f_X4_at (a1 + 9) y3 t23) fun x27 t28 => bv (f_X3_reckon a25 a1 x2 x27 t28) fun t31 => lt (y3 + 1) fun x33 => K2 a0 a1 x2 x33 t31)
def f_X0_gather_l2 : Nat → Nat → Nat → Int32 → Int32 → St → Option (St)
  | 0, _, _, _, _, _ => none
  | g + 1, a0, a1, x2, y3, t0 => f_X0_gather_b2 (f_X0_gather_l2 g) a0 a1 x2 y3 t0
def f_X0_gather (a0 : Nat) (a1 : Nat) (x2 : Int32) (t0 : St) : Option (St) :=
  f_X0_gather_l2 FU a0 a1 x2 0 t0
def f_X0_settledNotch (a0 : Nat) (x1 : Int32) (t0 : St) : Option (Int32 × St) :=
  bd (f_X4_at ((a0 + 6) + 3) x1 t0) fun x21 t22 => bd (f_X4_at ((a0 + 11) + 3) x1 t22) fun x24 t25 => (if x21 = x24 then some (x21, t25) else bd (f_X4_at ((a0 + 1) + 3) x1 t25) fun x28 t29 => some (x28, t29))
def f_X0_quarrelCount_b4 (K4 : Nat → Int32 → Int32 → Int32 → St → Option (Int32 × St)) (a0 : Nat) (x1 : Int32) (y2 : Int32) (y3 : Int32) (t0 : St) : Option (Int32 × St) :=
  (if x1 ≤ y3 then some (y2, t0) else bd (f_X4_at ((a0 + 1) + 3) y3 t0) fun x22 t23 => bd (f_X4_at ((a0 + 6) + 3) y3 t23) fun x25 t26 => (if x22 = x25 then bd (f_X4_at ((a0 + 11) + 3) y3 t26) fun x31 t32 => (if x22 = x31 then lt (y3 + 1) fun x35 => K4 a0 x1 y2 x35 t32 else lt (y2 + 1) fun x36 => lt (y3 + 1) fun x37 => K4 a0 x1 x36 x37 t32) else lt (y2 + 1) fun x29 => lt (y3 + 1) fun x30 => K4 a0 x1 x29 x30 t26))
def f_X0_quarrelCount_l4 : Nat → Nat → Int32 → Int32 → Int32 → St → Option (Int32 × St)
  | 0, _, _, _, _, _ => none
  | g + 1, a0, x1, y2, y3, t0 => f_X0_quarrelCount_b4 (f_X0_quarrelCount_l4 g) a0 x1 y2 y3 t0
def f_X0_quarrelCount (a0 : Nat) (x1 : Int32) (t0 : St) : Option (Int32 × St) :=
  f_X0_quarrelCount_l4 FU a0 x1 0 0 t0
def f_X0_settlesLike_b2 (K2 : Nat → Nat → Int32 → Int32 → St → Option (Int32 × St)) (a0 : Nat) (a1 : Nat) (x2 : Int32) (y3 : Int32) (t0 : St) : Option (Int32 × St) :=
  (if x2 ≤ y3 then some (1, t0) else bd (f_X0_settledNotch a0 y3 t0) fun x22 t23 => bd (f_X0_settledNotch a1 y3 t23) fun x25 t26 => (if x22 = x25 then lt (y3 + 1) fun x29 => K2 a0 a1 x2 x29 t26 else some (0, t26)))
def f_X0_settlesLike_l2 : Nat → Nat → Nat → Int32 → Int32 → St → Option (Int32 × St)
  | 0, _, _, _, _, _ => none
  | g + 1, a0, a1, x2, y3, t0 => f_X0_settlesLike_b2 (f_X0_settlesLike_l2 g) a0 a1 x2 y3 t0
def f_X0_settlesLike (a0 : Nat) (a1 : Nat) (x2 : Int32) (t0 : St) : Option (Int32 × St) :=
  f_X0_settlesLike_l2 FU a0 a1 x2 0 t0
def f_X1_size (t0 : St) : Option (Int32 × St) :=
  some ((t0.1 20 2), t0)
def f_X1_isEmpty (t0 : St) : Option (Int32 × St) :=
  (if 0 < (t0.1 20 2) then some (0, t0) else some (1, t0))
def f_X1_stateAt (x1 : Int32) (t0 : St) : Option (Option Nat × St) :=
  lt (rm ((t0.1 20 1) + x1) 6) fun x21 => (if x21 < 0 then some (none, t0) else (if (Int32.ofNat 6) ≤ x21 then some (none, t0) else gd (inB x21 6) <| some (some (22 + 19 * tc x21), t0)))
def f_X4_copyFrom_b2 (K2 : Nat → Nat → Int32 → St → Option (St)) (a0 : Nat) (a1 : Nat) (y2 : Int32) (t0 : St) : Option (St) :=
  (if (Int32.ofNat (aln (a0 + 1))) ≤ y2 then some t0 else bd (f_X4_at a1 y2 t0) fun x22 t23 => gd (inB y2 (aln (a0 + 1))) <| lt (sI t23 (a0 + 1) (tc y2) x22) fun t26 => lt (y2 + 1) fun x27 => K2 a0 a1 x27 t26)
def f_X4_copyFrom_l2 : Nat → Nat → Nat → Int32 → St → Option (St)
  | 0, _, _, _, _ => none
  | g + 1, a0, a1, y2, t0 => f_X4_copyFrom_b2 (f_X4_copyFrom_l2 g) a0 a1 y2 t0
def f_X4_copyFrom (a0 : Nat) (a1 : Nat) (t0 : St) : Option (St) :=
  f_X4_copyFrom_l2 FU a0 a1 0 t0
def f_X5_copyFrom (a0 : Nat) (a1 : Nat) (t0 : St) : Option (St) :=
  lt (sI t0 a0 0 (t0.1 a1 0)) fun t21 => bv (f_X4_copyFrom (a0 + 1) (a1 + 1) t21) fun t23 => bv (f_X4_copyFrom (a0 + 3) (a1 + 3) t23) fun t26 => bv (f_X4_copyFrom (a0 + 5) (a1 + 5) t26) fun t29 => bv (f_X4_copyFrom (a0 + 7) (a1 + 7) t29) fun t32 => bv (f_X4_copyFrom (a0 + 9) (a1 + 9) t32) fun t35 => lt (sI t35 a0 6 (t35.1 a1 6)) fun t37 => lt (sI t37 a0 7 (t37.1 a1 7)) fun t38 => bv (f_X4_copyFrom (a0 + 11) (a1 + 11) t38) fun t40 => bv (f_X4_copyFrom (a0 + 13) (a1 + 13) t40) fun t43 => bv (f_X4_copyFrom (a0 + 15) (a1 + 15) t43) fun t46 => bv (f_X4_copyFrom (a0 + 17) (a1 + 17) t46) fun t49 => some t49
def f_X1_save_b50 (t0 : St) : Option (St) :=
  lt (sI t0 20 2 ((t0.1 20 2) + 1)) fun t21 => some t21
def f_X1_save_b32 (a1 : Nat) (t0 : St) : Option (St) :=
  bd (f_X1_stateAt (t0.1 20 2) t0) fun x22 t23 => oc x22 (f_X1_save_b50 t23) fun a25 => gd (isN (kd a25) 5) <| bv (f_X5_copyFrom a25 a1 t23) fun t28 => f_X1_save_b50 t28
def f_X1_save (a1 : Nat) (t0 : St) : Option (St) :=
  (if (t0.1 20 2) < 6 then f_X1_save_b32 a1 t0 else lt (sI t0 20 1 (rm ((t0.1 20 1) + 1) 6)) fun t31 => lt (sI t31 20 2 ((t31.1 20 2) - 1)) fun t32 => f_X1_save_b32 a1 t32)
def f_X1_restoreInto (a1 : Nat) (t0 : St) : Option (St) :=
  lt (sI t0 20 2 ((t0.1 20 2) - 1)) fun t21 => bd (f_X1_stateAt (t21.1 20 2) t21) fun x22 t23 => oc x22 (some t23) fun a25 => gd (isN (kd a25) 5) <| bv (f_X5_copyFrom a1 a25 t23) fun t28 => some t28
def f_X2_start (t0 : St) : Option (St) :=
  lt (sI t0 138 5 0) fun t21 => lt (sI t21 138 0 0) fun t22 => lt (sI t22 138 1 0) fun t23 => lt (sI t23 138 2 0) fun t24 => lt (sI t24 138 3 (-1)) fun t25 => lt (sI t25 138 4 0) fun t26 => some t26
def f_X2_hasWeekday (t0 : St) : Option (Int32 × St) :=
  (if (t0.1 138 0) = 1 then some (1, t0) else (if (t0.1 138 0) = 2 then some (1, t0) else some (0, t0)))
def f_X2_mayEnd (t0 : St) : Option (Int32 × St) :=
  (if (t0.1 138 5) = 6 then some (1, t0) else (if (t0.1 138 5) = 8 then some (1, t0) else (if (t0.1 138 5) = 4 then bd (f_X2_hasWeekday t0) fun x24 t25 => (if x24 = 0 then some (1, t25) else some (0, t25)) else some (0, t0))))
def f_X2_readsRule_b78 (t0 : St) : Option (Int32 × St) :=
  (if (t0.1 138 0) = 3 then lt (sI t0 138 5 1) fun t23 => some (1, t23) else lt (sI t0 138 5 3) fun t22 => some (1, t22))
def f_X2_readsRule (x1 : Int32) (t0 : St) : Option (Int32 × St) :=
  (if x1 = 97 then lt (sI t0 138 0 3) fun t25 => f_X2_readsRule_b78 t25 else (if x1 = 100 then lt (sI t0 138 0 0) fun t27 => f_X2_readsRule_b78 t27 else (if x1 = 109 then lt (sI t0 138 0 2) fun t29 => f_X2_readsRule_b78 t29 else (if x1 = 119 then lt (sI t0 138 0 1) fun t31 => f_X2_readsRule_b78 t31 else some (0, t0)))))
def f_X2_readsOther (x1 : Int32) (x2 : Int32) (x3 : Int32) (t0 : St) : Option (Int32 × St) :=
  (if x1 < 48 then some (0, t0) else (if x1 ≤ (48 + x2) then lt (sI t0 138 3 (x1 - 48)) fun t23 => lt (sI t23 138 5 x3) fun t24 => some (1, t24) else some (0, t0)))
def f_X2_readsSign_b26 (w0 : Int32) (t0 : St) : Option (Int32 × St) :=
  gd (is01 w0) <| lt (sI t0 138 2 w0) fun t21 => lt (sI t21 138 5 3) fun t23 => some (1, t23)
def f_X2_readsSign_b14 (x1 : Int32) (t0 : St) : Option (Int32 × St) :=
  (if x1 = 45 then f_X2_readsSign_b26 1 t0 else f_X2_readsSign_b26 0 t0)
def f_X2_readsSign (x1 : Int32) (t0 : St) : Option (Int32 × St) :=
  (if x1 = 43 then f_X2_readsSign_b14 x1 t0 else (if x1 = 45 then f_X2_readsSign_b14 x1 t0 else some (0, t0)))
def f_X2_isDigit (x0 : Int32) (t0 : St) : Option (Int32 × St) :=
  (if x0 < 48 then some (0, t0) else (if 57 < x0 then some (0, t0) else some (1, t0)))
def f_X2_readsFirstDigit (x1 : Int32) (t0 : St) : Option (Int32 × St) :=
  bd (f_X2_isDigit x1 t0) fun x21 t22 => (if x21 = 0 then some (0, t22) else lt (sI t22 138 1 (x1 - 48)) fun t25 => lt (sI t25 138 5 4) fun t26 => some (1, t26))
def f_X2_readsNextDigit_b29 (x1 : Int32) (y2 : Int32) (w0 : Int32) (t0 : St) : Option (Int32 × St) :=
  bd (f_X2_isDigit x1 t0) fun x21 t22 => (if x21 = 0 then some (0, t22) else (if (t22.1 138 1) = 0 then some (0, t22) else (if y2 ≤ w0 then lt (sI t22 138 1 y2) fun t27 => some (1, t27) else some (0, t22))))
def f_X2_readsNextDigit (x1 : Int32) (t0 : St) : Option (Int32 × St) :=
  lt ((((t0.1 138 1) * 10) + x1) - 48) fun x28 => (if (t0.1 138 0) = 3 then f_X2_readsNextDigit_b29 x1 x28 90 t0 else f_X2_readsNextDigit_b29 x1 x28 365 t0)
def f_X2_readsComma (x1 : Int32) (t0 : St) : Option (Int32 × St) :=
  (if x1 = 44 then lt (sI t0 138 5 5) fun t22 => some (1, t22) else some (0, t0))
def f_X2_readsSeparator (x1 : Int32) (t0 : St) : Option (Int32 × St) :=
  (if x1 = 59 then bv (f_X2_start t0) fun t23 => some (1, t23) else some (0, t0))
def f_X2_readsBehindRule (x1 : Int32) (t0 : St) : Option (Int32 × St) :=
  (if x1 = 94 then lt (sI t0 138 5 7) fun t22 => some (1, t22) else bd (f_X2_readsSeparator x1 t0) fun x23 t24 => gd (is01 x23) <| some (x23, t24))
def f_X2_readsRank (x1 : Int32) (t0 : St) : Option (Int32 × St) :=
  bd (f_X2_isDigit x1 t0) fun x21 t22 => (if x21 = 0 then some (0, t22) else lt (sI t22 138 4 (x1 - 48)) fun t25 => lt (sI t25 138 5 8) fun t26 => some (1, t26))
def f_X2_reads (x1 : Int32) (t0 : St) : Option (Int32 × St) :=
  (if (t0.1 138 5) = 0 then bd (f_X2_readsRule x1 t0) fun x22 t23 => gd (is01 x22) <| some (x22, t23) else (if (t0.1 138 5) = 1 then bd (f_X2_readsOther x1 9 2 t0) fun x27 t28 => gd (is01 x27) <| some (x27, t28) else (if (t0.1 138 5) = 2 then bd (f_X2_readsSign x1 t0) fun x32 t33 => gd (is01 x32) <| some (x32, t33) else (if (t0.1 138 5) = 3 then bd (f_X2_readsFirstDigit x1 t0) fun x37 t38 => gd (is01 x37) <| some (x37, t38) else (if (t0.1 138 5) = 4 then bd (f_X2_readsNextDigit x1 t0) fun x42 t43 => (if x42 = 0 then bd (f_X2_hasWeekday t43) fun x46 t47 => (if x46 = 0 then bd (f_X2_readsBehindRule x1 t47) fun x50 t51 => (if x50 = 0 then some (0, t51) else some (1, t51)) else bd (f_X2_readsComma x1 t47) fun x54 t55 => (if x54 = 0 then some (0, t55) else some (1, t55))) else some (1, t43)) else (if (t0.1 138 5) = 5 then bd (f_X2_readsOther x1 6 6 t0) fun x59 t60 => gd (is01 x59) <| some (x59, t60) else (if (t0.1 138 5) = 6 then bd (f_X2_readsBehindRule x1 t0) fun x64 t65 => gd (is01 x64) <| some (x64, t65) else (if (t0.1 138 5) = 7 then bd (f_X2_readsRank x1 t0) fun x69 t70 => gd (is01 x69) <| some (x69, t70) else bd (f_X2_readsSeparator x1 t0) fun x73 t74 => gd (is01 x73) <| some (x73, t74)))))))))
def f_X3_movedCount_b4 (K4 : Nat → Int32 → Int32 → Int32 → St → Option (Int32 × St)) (a0 : Nat) (x1 : Int32) (y2 : Int32) (y3 : Int32) (t0 : St) : Option (Int32 × St) :=
  (if x1 ≤ y3 then some (y2, t0) else bd (f_X4_at (a0 + 3) y3 t0) fun x22 t23 => (if x22 = (-1) then lt (y3 + 1) fun x26 => K4 a0 x1 y2 x26 t23 else bd (f_X4_at (a0 + 1) y3 t23) fun x27 t28 => (if x22 = x27 then lt (y3 + 1) fun x31 => K4 a0 x1 y2 x31 t28 else lt (y2 + 1) fun x32 => lt (y3 + 1) fun x33 => K4 a0 x1 x32 x33 t28)))
def f_X3_movedCount_l4 : Nat → Nat → Int32 → Int32 → Int32 → St → Option (Int32 × St)
  | 0, _, _, _, _, _ => none
  | g + 1, a0, x1, y2, y3, t0 => f_X3_movedCount_b4 (f_X3_movedCount_l4 g) a0 x1 y2 y3 t0
def f_X3_movedCount (a0 : Nat) (x1 : Int32) (t0 : St) : Option (Int32 × St) :=
  f_X3_movedCount_l4 FU a0 x1 0 0 t0
def f_X5_addFeast_b57 (a0 : Nat) (a1 : Nat) (w0 : Int32) (w1 : Int32) (t0 : St) : Option (St) :=
  bv (f_X4_put (a0 + 5) w1 w0 t0) fun t22 => bv (f_X4_put (a0 + 7) (t22.1 a0 0) (t22.1 a1 3) t22) fun t25 => lt (sI t25 a0 0 ((t25.1 a0 0) + 1)) fun t27 => some t27
def f_X5_addFeast (a0 : Nat) (a1 : Nat) (t0 : St) : Option (St) :=
  bv (f_X4_put (a0 + 1) (t0.1 a0 0) (t0.1 a1 0) t0) fun t29 => bv (f_X4_put (a0 + 3) (t29.1 a0 0) (t29.1 a1 4) t29) fun t32 => (if (t32.1 a1 2) = 0 then f_X5_addFeast_b57 a0 a1 (t32.1 a1 1) (t32.1 a0 0) t32 else f_X5_addFeast_b57 a0 a1 (-(t32.1 a1 1)) (t32.1 a0 0) t32)
def f_X5_stickNotch (a0 : Nat) (x1 : Int32) (x2 : Int32) (t0 : St) : Option (Int32 × St) :=
  bd (f_X4_at (a0 + 17) ((x1 * 10) + x2) t0) fun x21 t22 => some (x21, t22)
def f_X5_copyStick_b50 (K50 : Nat → Int32 → Int32 → Int32 → St → Option (St)) (a0 : Nat) (x1 : Int32) (x2 : Int32) (y3 : Int32) (t0 : St) : Option (St) :=
  (if 10 ≤ y3 then some t0 else bd (f_X5_stickNotch a0 x1 y3 t0) fun x22 t23 => bv (f_X4_put (a0 + 17) ((x2 * 10) + y3) x22 t23) fun t26 => lt (y3 + 1) fun x28 => K50 a0 x1 x2 x28 t26)
def f_X5_copyStick_l50 : Nat → Nat → Int32 → Int32 → Int32 → St → Option (St)
  | 0, _, _, _, _, _ => none
  | g + 1, a0, x1, x2, y3, t0 => f_X5_copyStick_b50 (f_X5_copyStick_l50 g) a0 x1 x2 y3 t0
def f_X5_copyStick (a0 : Nat) (x1 : Int32) (x2 : Int32) (t0 : St) : Option (St) :=
  bd (f_X4_at (a0 + 11) x1 t0) fun x29 t30 => bv (f_X4_put (a0 + 11) x2 x29 t30) fun t33 => bd (f_X4_at (a0 + 13) x1 t33) fun x35 t36 => bv (f_X4_put (a0 + 13) x2 x35 t36) fun t39 => bd (f_X4_at (a0 + 15) x1 t39) fun x41 t42 => bv (f_X4_put (a0 + 15) x2 x41 t42) fun t45 => f_X5_copyStick_l50 FU a0 x1 x2 0 t45
def f_X5_addStick_b80 (K80 : Nat → Nat → Int32 → St → Option (St)) (a0 : Nat) (a3 : Nat) (y4 : Int32) (t0 : St) : Option (St) :=
  (if 10 ≤ y4 then some t0 else bd (f_X4_at a3 y4 t0) fun x22 t23 => bv (f_X4_put (a0 + 17) y4 x22 t23) fun t26 => lt (y4 + 1) fun x28 => K80 a0 a3 x28 t26)
def f_X5_addStick_l80 : Nat → Nat → Nat → Int32 → St → Option (St)
  | 0, _, _, _, _ => none
  | g + 1, a0, a3, y4, t0 => f_X5_addStick_b80 (f_X5_addStick_l80 g) a0 a3 y4 t0
def f_X5_addStick_b26 (K26 : Nat → Int32 → Int32 → Nat → Int32 → St → Option (St)) (a0 : Nat) (x1 : Int32) (x2 : Int32) (a3 : Nat) (y4 : Int32) (t0 : St) : Option (St) :=
  (if y4 ≤ 0 then bv (f_X4_put (a0 + 11) 0 x1 t0) fun t31 => bv (f_X4_put (a0 + 13) 0 x2 t31) fun t34 => bv (f_X4_put (a0 + 15) 0 (t34.1 a0 0) t34) fun t37 => f_X5_addStick_l80 FU a0 a3 0 t37 else bv (f_X5_copyStick a0 (y4 - 1) y4 t0) fun t40 => lt (y4 + (-1)) fun x42 => K26 a0 x1 x2 a3 x42 t40)
def f_X5_addStick_l26 : Nat → Nat → Int32 → Int32 → Nat → Int32 → St → Option (St)
  | 0, _, _, _, _, _, _ => none
  | g + 1, a0, x1, x2, a3, y4, t0 => f_X5_addStick_b26 (f_X5_addStick_l26 g) a0 x1 x2 a3 y4 t0
def f_X5_addStick (a0 : Nat) (x1 : Int32) (x2 : Int32) (a3 : Nat) (t0 : St) : Option (St) :=
  (if 5 ≤ (t0.1 a0 7) then lt ((t0.1 a0 7) - 1) fun x44 => f_X5_addStick_l26 FU a0 x1 x2 a3 x44 t0 else lt (sI t0 a0 7 ((t0.1 a0 7) + 1)) fun t45 => lt ((t45.1 a0 7) - 1) fun x46 => f_X5_addStick_l26 FU a0 x1 x2 a3 x46 t45)
def f_X5_dropStick_b2 (K2 : Nat → Int32 → St → Option (St)) (a0 : Nat) (y2 : Int32) (t0 : St) : Option (St) :=
  (if ((t0.1 a0 7) - 1) ≤ y2 then lt (sI t0 a0 7 ((t0.1 a0 7) - 1)) fun t22 => some t22 else bv (f_X5_copyStick a0 (y2 + 1) y2 t0) fun t24 => lt (y2 + 1) fun x26 => K2 a0 x26 t24)
def f_X5_dropStick_l2 : Nat → Nat → Int32 → St → Option (St)
  | 0, _, _, _ => none
  | g + 1, a0, y2, t0 => f_X5_dropStick_b2 (f_X5_dropStick_l2 g) a0 y2 t0
def f_X5_dropStick (a0 : Nat) (x1 : Int32) (t0 : St) : Option (St) :=
  f_X5_dropStick_l2 FU a0 x1 t0
def f_X5_notchesOfStick_b4 (K4 : Nat → Int32 → Int32 → Int32 → St → Option (Int32 × St)) (a0 : Nat) (x1 : Int32) (y2 : Int32) (y3 : Int32) (t0 : St) : Option (Int32 × St) :=
  (if 10 ≤ y3 then some (y2, t0) else bd (f_X5_stickNotch a0 x1 y3 t0) fun x22 t23 => (if x22 = (-1) then lt (y3 + 1) fun x26 => K4 a0 x1 y2 x26 t23 else lt (y2 + 1) fun x27 => lt (y3 + 1) fun x28 => K4 a0 x1 x27 x28 t23))
def f_X5_notchesOfStick_l4 : Nat → Nat → Int32 → Int32 → Int32 → St → Option (Int32 × St)
  | 0, _, _, _, _, _ => none
  | g + 1, a0, x1, y2, y3, t0 => f_X5_notchesOfStick_b4 (f_X5_notchesOfStick_l4 g) a0 x1 y2 y3 t0
def f_X5_notchesOfStick (a0 : Nat) (x1 : Int32) (t0 : St) : Option (Int32 × St) :=
  f_X5_notchesOfStick_l4 FU a0 x1 0 0 t0
def f_X6_clearBuffer (t0 : St) : Option (Int32 × St) :=
  lt (t0.1 0 8) fun x21 => lt (sI t0 0 8 0) fun t22 => some (x21, t22)
def f_X6_signsReadWell_b9 (K9 : Int32 → St → Option (Int32 × St)) (y1 : Int32) (t0 : St) : Option (Int32 × St) :=
  (if (t0.1 0 8) ≤ y1 then some ((t0.1 0 8), t0) else bd (f_X4_at 136 y1 t0) fun x22 t23 => bd (f_X2_reads x22 t23) fun x25 t26 => (if x25 = 0 then some (y1, t26) else lt (y1 + 1) fun x29 => K9 x29 t26))
def f_X6_signsReadWell_l9 : Nat → Int32 → St → Option (Int32 × St)
  | 0, _, _ => none
  | g + 1, y1, t0 => f_X6_signsReadWell_b9 (f_X6_signsReadWell_l9 g) y1 t0
def f_X6_signsReadWell (t0 : St) : Option (Int32 × St) :=
  bv (f_X2_start t0) fun t31 => f_X6_signsReadWell_l9 FU 0 t31
def f_X6_firstError (t0 : St) : Option (Int32 × St) :=
  bd (f_X6_signsReadWell t0) fun x21 t22 => some (x21, t22)
def f_X6_staleFeasts_b97 (K5 : Int32 → Int32 → Int32 → St → Option (Int32 × St)) (K73 : Int32 → Int32 → Int32 → Int32 → Int32 → St → Option (Int32 × St)) (x2 : Int32) (y3 : Int32) (y4 : Int32) (y5 : Int32) (y6 : Int32) (w0 : Int32) (t0 : St) : Option (Int32 × St) :=
  (if w0 = 0 then bd (f_X4_at 142 y6 t0) fun x24 t25 => bd (f_X5_stickNotch 1 y4 y6 t25) fun x27 t28 => (if x24 = x27 then lt (y6 + 1) fun x31 => K73 x2 y3 y4 y5 x31 t28 else lt (y3 + 1) fun x32 => lt (y6 + 1) fun x33 => K73 x2 x32 y4 y5 x33 t28) else lt (y3 + 1) fun x22 => lt (y6 + 1) fun x23 => K73 x2 x22 y4 y5 x23 t0)
def f_X6_staleFeasts_b73 (K5 : Int32 → Int32 → Int32 → St → Option (Int32 × St)) (K73 : Int32 → Int32 → Int32 → Int32 → Int32 → St → Option (Int32 × St)) (x2 : Int32) (y3 : Int32) (y4 : Int32) (y5 : Int32) (y6 : Int32) (t0 : St) : Option (Int32 × St) :=
  (if y5 ≤ y6 then lt (y4 + 1) fun x35 => K5 x2 y3 x35 t0 else (if y6 < (t0.1 1 0) then f_X6_staleFeasts_b97 K5 K73 x2 y3 y4 y5 y6 0 t0 else f_X6_staleFeasts_b97 K5 K73 x2 y3 y4 y5 y6 1 t0))
def f_X6_staleFeasts_l73 (K5 : Int32 → Int32 → Int32 → St → Option (Int32 × St)) : Nat → Int32 → Int32 → Int32 → Int32 → Int32 → St → Option (Int32 × St)
  | 0, _, _, _, _, _, _ => none
  | g + 1, x2, y3, y4, y5, y6, t0 => f_X6_staleFeasts_b73 K5 (f_X6_staleFeasts_l73 K5 g) x2 y3 y4 y5 y6 t0
def f_X6_staleFeasts_b5 (K5 : Int32 → Int32 → Int32 → St → Option (Int32 × St)) (x2 : Int32) (y3 : Int32) (y4 : Int32) (t0 : St) : Option (Int32 × St) :=
  (if x2 ≤ y4 then some (y3, t0) else bd (f_X4_at 12 y4 t0) fun x38 t39 => bd (f_X4_at 14 y4 t39) fun x41 t42 => bd (f_X4_at 10 x41 t42) fun x44 t45 => bv (f_X3_reckon 139 1 x38 x44 t45) fun t48 => bd (f_X4_at 16 y4 t48) fun x50 t51 => f_X6_staleFeasts_l73 K5 FU x2 y3 y4 x50 0 t51)
def f_X6_staleFeasts_l5 : Nat → Int32 → Int32 → Int32 → St → Option (Int32 × St)
  | 0, _, _, _, _ => none
  | g + 1, x2, y3, y4, t0 => f_X6_staleFeasts_b5 (f_X6_staleFeasts_l5 g) x2 y3 y4 t0
def f_X6_staleFeasts (x1 : Int32) (x2 : Int32) (t0 : St) : Option (Int32 × St) :=
  f_X6_staleFeasts_l5 FU x2 0 x1 t0
def f_X6_freshPart_b4 (K4 : Int32 → Int32 → St → Option (UInt64 × St)) (y1 : Int32) (y2 : Int32) (t0 : St) : Option (UInt64 × St) :=
  (if (t0.1 1 7) ≤ y2 then (if 0 < y1 then bd (f_X6_staleFeasts 0 (t0.1 1 7) t0) fun x23 t24 => lt (y1 - x23) fun x26 => gd (okd (FP.ddiv (FP.i2d x26) (FP.i2d y1))) <| some ((FP.ddiv (FP.i2d x26) (FP.i2d y1)), t24) else some (4607182418800017408, t0)) else bd (f_X4_at 16 y2 t0) fun x28 t29 => lt (y1 + x28) fun x31 => lt (y2 + 1) fun x32 => K4 x31 x32 t29)
def f_X6_freshPart_l4 : Nat → Int32 → Int32 → St → Option (UInt64 × St)
  | 0, _, _, _ => none
  | g + 1, y1, y2, t0 => f_X6_freshPart_b4 (f_X6_freshPart_l4 g) y1 y2 t0
def f_X6_freshPart (t0 : St) : Option (UInt64 × St) :=
  f_X6_freshPart_l4 FU 0 0 t0
def f_X6_freshShare (t0 : St) : Option (UInt64 × St) :=
  bd (f_X6_freshPart t0) fun x21 t22 => some (x21, t22)
def f_X6_numberOf (x1 : Int32) (t0 : St) : Option (Int32 × St) :=
  (if x1 = 0 then some ((t0.1 1 0), t0) else (if x1 = 1 then some ((t0.1 1 7), t0) else (if x1 = 2 then bd (f_X4_at 10 (x1 - 2) t0) fun x24 t25 => some ((x24 + 5), t25) else (if x1 = 3 then bd (f_X4_at 10 (x1 - 2) t0) fun x28 t29 => some ((x28 + 5), t29) else (if x1 = 4 then bd (f_X4_at 10 (x1 - 2) t0) fun x32 t33 => some ((x32 + 5), t33) else (if x1 = 5 then some ((t0.1 1 6), t0) else (if x1 = 6 then bd (f_X6_staleFeasts 0 (t0.1 1 7) t0) fun x37 t38 => some (x37, t38) else (if x1 = 7 then bd (f_X1_size t0) fun x41 t42 => some (x41, t42) else bd (f_X4_at 10 (x1 - 2) t0) fun x44 t45 => some ((x44 + 5), t45)))))))))
def f_X6_mixed (x0 : Int64) (x2 : Int64) (t0 : St) : Option (Int64 × St) :=
  some (((31 * x0) + x2), t0)
def f_X6_gatherDigestCouncils_b2 (K2 : Int32 → St → Option (St)) (y1 : Int32) (t0 : St) : Option (St) :=
  (if (Int32.ofNat 3) ≤ y1 then some t0 else (if 3 ≤ y1 then some t0 else gd (inB y1 3) <| lt (177 + 16 * tc y1) fun a24 => gd (inB y1 3) <| bv (f_X0_gather a24 1 (dyf (tc y1)) t0) fun t27 => lt (y1 + 1) fun x29 => K2 x29 t27))
def f_X6_gatherDigestCouncils_l2 : Nat → Int32 → St → Option (St)
  | 0, _, _ => none
  | g + 1, y1, t0 => f_X6_gatherDigestCouncils_b2 (f_X6_gatherDigestCouncils_l2 g) y1 t0
def f_X6_gatherDigestCouncils (t0 : St) : Option (St) :=
  f_X6_gatherDigestCouncils_l2 FU 0 t0
def f_X6_feastProperty (x1 : Int32) (x2 : Int32) (t0 : St) : Option (Int32 × St) :=
  (if x2 = 0 then bd (f_X4_at 2 x1 t0) fun x22 t23 => some (x22, t23) else (if x2 = 1 then bd (f_X4_at 4 x1 t0) fun x26 t27 => some (x26, t27) else (if x2 = 2 then bd (f_X4_at 2 x1 t0) fun x30 t31 => (if x30 = 3 then bd (f_X4_at 6 x1 t31) fun x37 t38 => some ((x37 + 90), t38) else bd (f_X4_at 6 x1 t31) fun x34 t35 => some (x34, t35)) else bd (f_X4_at 8 x1 t0) fun x40 t41 => some (x40, t41))))
def f_X6_mixedDays_b6 (K6 : Nat → Int32 → Int64 → Int32 → St → Option (Int64 × St)) (a2 : Nat) (x3 : Int32) (y4 : Int64) (y6 : Int32) (t0 : St) : Option (Int64 × St) :=
  (if 3 ≤ y6 then bd (f_X0_settledNotch a2 x3 t0) fun x22 t23 => bd (f_X6_mixed y4 ((x22 : Int32).toInt64) t23) fun x25 t26 => some (x25, t26) else bd (f_X0_by a2 y6 t0) fun x28 t29 => oc x28 (none) fun a31 => gd (isN (kd a31) 3) <| bd (f_X4_at (a31 + 1) x3 t29) fun x33 t34 => bd (f_X6_mixed y4 ((x33 : Int32).toInt64) t34) fun x36 t37 => bd (f_X0_by a2 y6 t37) fun x39 t40 => oc x39 (none) fun a42 => gd (isN (kd a42) 3) <| bd (f_X4_at (a42 + 3) x3 t40) fun x44 t45 => bd (f_X6_mixed x36 ((x44 : Int32).toInt64) t45) fun x47 t48 => lt (y6 + 1) fun x50 => K6 a2 x3 x47 x50 t48)
def f_X6_mixedDays_l6 : Nat → Nat → Int32 → Int64 → Int32 → St → Option (Int64 × St)
  | 0, _, _, _, _, _ => none
  | g + 1, a2, x3, y4, y6, t0 => f_X6_mixedDays_b6 (f_X6_mixedDays_l6 g) a2 x3 y4 y6 t0
def f_X6_mixedDays (x0 : Int64) (a2 : Nat) (x3 : Int32) (t0 : St) : Option (Int64 × St) :=
  f_X6_mixedDays_l6 FU a2 x3 x0 0 t0
def f_X6_mixedFeasts_b49 (K5 : Int64 → Int32 → St → Option (Int64 × St)) (K49 : Int64 → Int32 → Int32 → St → Option (Int64 × St)) (y3 : Int64) (y5 : Int32) (y6 : Int32) (t0 : St) : Option (Int64 × St) :=
  (if (Int32.ofNat 3) ≤ y6 then lt (y5 + 1) fun x22 => K5 y3 x22 t0 else gd (inB y6 3) <| lt (177 + 16 * tc y6) fun a24 => bd (f_X6_mixedDays y3 a24 y5 t0) fun x25 t26 => lt (y6 + 1) fun x28 => K49 x25 y5 x28 t26)
def f_X6_mixedFeasts_l49 (K5 : Int64 → Int32 → St → Option (Int64 × St)) : Nat → Int64 → Int32 → Int32 → St → Option (Int64 × St)
  | 0, _, _, _, _ => none
  | g + 1, y3, y5, y6, t0 => f_X6_mixedFeasts_b49 K5 (f_X6_mixedFeasts_l49 K5 g) y3 y5 y6 t0
def f_X6_mixedFeasts_b20 (K5 : Int64 → Int32 → St → Option (Int64 × St)) (K20 : Int64 → Int32 → Int32 → St → Option (Int64 × St)) (y3 : Int64) (y5 : Int32) (y6 : Int32) (t0 : St) : Option (Int64 × St) :=
  (if 3 < y6 then f_X6_mixedFeasts_l49 K5 FU y3 y5 0 t0 else bd (f_X6_feastProperty y5 y6 t0) fun x30 t31 => bd (f_X6_mixed y3 ((x30 : Int32).toInt64) t31) fun x33 t34 => lt (y6 + 1) fun x36 => K20 x33 y5 x36 t34)
def f_X6_mixedFeasts_l20 (K5 : Int64 → Int32 → St → Option (Int64 × St)) : Nat → Int64 → Int32 → Int32 → St → Option (Int64 × St)
  | 0, _, _, _, _ => none
  | g + 1, y3, y5, y6, t0 => f_X6_mixedFeasts_b20 K5 (f_X6_mixedFeasts_l20 K5 g) y3 y5 y6 t0
def f_X6_mixedFeasts_b5 (K5 : Int64 → Int32 → St → Option (Int64 × St)) (y3 : Int64) (y5 : Int32) (t0 : St) : Option (Int64 × St) :=
  (if (t0.1 1 0) ≤ y5 then some (y3, t0) else f_X6_mixedFeasts_l20 K5 FU y3 y5 0 t0)
def f_X6_mixedFeasts_l5 : Nat → Int64 → Int32 → St → Option (Int64 × St)
  | 0, _, _, _ => none
  | g + 1, y3, y5, t0 => f_X6_mixedFeasts_b5 (f_X6_mixedFeasts_l5 g) y3 y5 t0
def f_X6_mixedFeasts (x1 : Int64) (t0 : St) : Option (Int64 × St) :=
  f_X6_mixedFeasts_l5 FU x1 0 t0
def f_X6_mixedQuarrels_b50 (K5 : Int64 → Int32 → St → Option (Int64 × St)) (K50 : Int64 → Int32 → Nat → Int32 → St → Option (Int64 × St)) (y3 : Int64) (y5 : Int32) (a6 : Nat) (y7 : Int32) (t0 : St) : Option (Int64 × St) :=
  (if 3 ≤ y7 then lt (y5 + 1) fun x22 => K5 y3 x22 t0 else bd (f_X0_by a6 y7 t0) fun x23 t24 => oc x23 (none) fun a26 => gd (isN (kd a26) 3) <| bd (f_X3_movedCount a26 (t24.1 1 0) t24) fun x28 t29 => bd (f_X6_mixed y3 ((x28 : Int32).toInt64) t29) fun x31 t32 => lt (y7 + 1) fun x34 => K50 x31 y5 a6 x34 t32)
def f_X6_mixedQuarrels_l50 (K5 : Int64 → Int32 → St → Option (Int64 × St)) : Nat → Int64 → Int32 → Nat → Int32 → St → Option (Int64 × St)
  | 0, _, _, _, _, _ => none
  | g + 1, y3, y5, a6, y7, t0 => f_X6_mixedQuarrels_b50 K5 (f_X6_mixedQuarrels_l50 K5 g) y3 y5 a6 y7 t0
def f_X6_mixedQuarrels_b5 (K5 : Int64 → Int32 → St → Option (Int64 × St)) (y3 : Int64) (y5 : Int32) (t0 : St) : Option (Int64 × St) :=
  (if (Int32.ofNat 3) ≤ y5 then some (y3, t0) else gd (inB y5 3) <| lt (177 + 16 * tc y5) fun a37 => bd (f_X0_quarrelCount a37 (t0.1 1 0) t0) fun x38 t39 => bd (f_X6_mixed y3 ((x38 : Int32).toInt64) t39) fun x41 t42 => f_X6_mixedQuarrels_l50 K5 FU x41 y5 a37 0 t42)
def f_X6_mixedQuarrels_l5 : Nat → Int64 → Int32 → St → Option (Int64 × St)
  | 0, _, _, _ => none
  | g + 1, y3, y5, t0 => f_X6_mixedQuarrels_b5 (f_X6_mixedQuarrels_l5 g) y3 y5 t0
def f_X6_mixedQuarrels (x1 : Int64) (t0 : St) : Option (Int64 × St) :=
  f_X6_mixedQuarrels_l5 FU x1 0 t0
def f_X6_stickProperty (x1 : Int32) (x2 : Int32) (t0 : St) : Option (Int32 × St) :=
  (if x2 = 0 then bd (f_X4_at 12 x1 t0) fun x22 t23 => some (x22, t23) else (if x2 = 1 then bd (f_X4_at 14 x1 t0) fun x26 t27 => some (x26, t27) else (if x2 = 2 then bd (f_X5_notchesOfStick 1 x1 t0) fun x30 t31 => some (x30, t31) else (if x2 = 3 then bd (f_X6_staleFeasts x1 (x1 + 1) t0) fun x34 t35 => some (x34, t35) else bd (f_X5_stickNotch 1 x1 (x2 - 4) t0) fun x37 t38 => some (x37, t38)))))
def f_X6_nextAlike_b16 (K16 : Int32 → Int32 → St → Option (Int32 × St)) (x1 : Int32) (y2 : Int32) (t0 : St) : Option (Int32 × St) :=
  (if (x1 + 100) < y2 then some ((-1), t0) else (if 999 < y2 then some ((-1), t0) else bd (f_X6_daysIn y2 t0) fun x23 t24 => bd (f_X6_daysIn x1 t24) fun x26 t27 => (if x23 = x26 then bd (f_X6_newYearWeekday y2 t27) fun x31 t32 => bd (f_X6_newYearWeekday x1 t32) fun x34 t35 => (if x31 = x34 then bv (f_X0_gather 160 1 y2 t35) fun t40 => bd (f_X0_settlesLike 160 144 (t40.1 1 0) t40) fun x42 t43 => (if x42 = 0 then lt (y2 + 1) fun x46 => K16 x1 x46 t43 else some (y2, t43)) else lt (y2 + 1) fun x38 => K16 x1 x38 t35) else lt (y2 + 1) fun x30 => K16 x1 x30 t27)))
def f_X6_nextAlike_l16 : Nat → Int32 → Int32 → St → Option (Int32 × St)
  | 0, _, _, _ => none
  | g + 1, x1, y2, t0 => f_X6_nextAlike_b16 (f_X6_nextAlike_l16 g) x1 y2 t0
def f_X6_nextAlike (x1 : Int32) (t0 : St) : Option (Int32 × St) :=
  bv (f_X0_gather 144 1 x1 t0) fun t48 => lt (x1 + 1) fun x50 => f_X6_nextAlike_l16 FU x1 x50 t48
def f_X6_calmestSlip_b52 (K21 : Int32 → Int32 → Int32 → Int32 → Int32 → St → Option (Int32 × St)) (x1 : Int32) (x2 : Int32) (y3 : Int32) (y4 : Int32) (y5 : Int32) (w0 : Int32) (t0 : St) : Option (Int32 × St) :=
  bd (f_X0_by 144 x1 t0) fun x21 t22 => oc x21 (none) fun a24 => gd (isN (kd a24) 3) <| bv (f_X3_reckon a24 1 x2 w0 t22) fun t27 => bd (f_X0_quarrelCount 144 (t27.1 1 0) t27) fun x29 t30 => (if y4 ≤ x29 then lt (y5 + 1) fun x33 => K21 x1 x2 y3 y4 x33 t30 else lt (y5 + 1) fun x34 => K21 x1 x2 w0 x29 x34 t30)
def f_X6_calmestSlip_b21 (K21 : Int32 → Int32 → Int32 → Int32 → Int32 → St → Option (Int32 × St)) (x1 : Int32) (x2 : Int32) (y3 : Int32) (y4 : Int32) (y5 : Int32) (t0 : St) : Option (Int32 × St) :=
  (if 10 < y5 then some (y3, t0) else lt ((y5 + 1) / 2) fun x36 => (if (rm y5 2) = 1 then f_X6_calmestSlip_b52 K21 x1 x2 y3 y4 y5 (-x36) t0 else f_X6_calmestSlip_b52 K21 x1 x2 y3 y4 y5 x36 t0))
def f_X6_calmestSlip_l21 : Nat → Int32 → Int32 → Int32 → Int32 → Int32 → St → Option (Int32 × St)
  | 0, _, _, _, _, _, _ => none
  | g + 1, x1, x2, y3, y4, y5, t0 => f_X6_calmestSlip_b21 (f_X6_calmestSlip_l21 g) x1 x2 y3 y4 y5 t0
def f_X6_calmestSlip (x1 : Int32) (x2 : Int32) (t0 : St) : Option (Int32 × St) :=
  bv (f_X0_gather 144 1 x2 t0) fun t39 => f_X6_calmestSlip_l21 FU x1 x2 0 11 0 t39
def f_X6_outermost_b6 (K6 : Int32 → Int32 → Int32 → Int32 → Int32 → Int32 → St → Option (Int32 × St)) (x1 : Int32) (x2 : Int32) (x3 : Int32) (x4 : Int32) (y5 : Int32) (y6 : Int32) (t0 : St) : Option (Int32 × St) :=
  (if (x2 + x3) ≤ y6 then some (y5, t0) else (if 999 < y6 then some (y5, t0) else bv (f_X0_gather 144 1 y6 t0) fun t24 => bd (f_X0_settledNotch 144 x1 t24) fun x26 t27 => (if x26 = (-1) then lt (y6 + 1) fun x30 => K6 x1 x2 x3 x4 y5 x30 t27 else (if y5 = (-1) then lt (y6 + 1) fun x32 => K6 x1 x2 x3 x4 x26 x32 t27 else (if x4 = 0 then (if y5 ≤ x26 then lt (y6 + 1) fun x35 => K6 x1 x2 x3 x4 y5 x35 t27 else lt (y6 + 1) fun x36 => K6 x1 x2 x3 x4 x26 x36 t27) else (if x26 ≤ y5 then lt (y6 + 1) fun x38 => K6 x1 x2 x3 x4 y5 x38 t27 else lt (y6 + 1) fun x39 => K6 x1 x2 x3 x4 x26 x39 t27))))))
def f_X6_outermost_l6 : Nat → Int32 → Int32 → Int32 → Int32 → Int32 → Int32 → St → Option (Int32 × St)
  | 0, _, _, _, _, _, _, _ => none
  | g + 1, x1, x2, x3, x4, y5, y6, t0 => f_X6_outermost_b6 (f_X6_outermost_l6 g) x1 x2 x3 x4 y5 y6 t0
def f_X6_outermost (x1 : Int32) (x2 : Int32) (x3 : Int32) (x4 : Int32) (t0 : St) : Option (Int32 × St) :=
  f_X6_outermost_l6 FU x1 x2 x3 x4 (-1) x2 t0
def f_X6_bitsOfShare_b50 (y2 : UInt64) (y4 : Int64) (t0 : St) : Option (Int64 × St) :=
  gd (okd (FP.dsub y2 4607182418800017408)) <| gd (okd (FP.dmul (FP.dsub y2 4607182418800017408) 4841369599423283200)) <| some (((y4 <<< ((52 : Int32).toInt64 &&& 63)) + (FP.d2l (FP.dmul (FP.dsub y2 4607182418800017408) 4841369599423283200))), t0)
def f_X6_bitsOfShare_b18 (K18 : UInt64 → Int64 → Int32 → St → Option (Int64 × St)) (y2 : UInt64) (y4 : Int64) (y6 : Int32) (t0 : St) : Option (Int64 × St) :=
  (if 1022 ≤ y6 then f_X6_bitsOfShare_b50 y2 y4 t0 else (if 0 ≤ (Op.cmpValue (FP.dcmp y2 4607182418800017408) CmpOp.g) then f_X6_bitsOfShare_b50 y2 y4 t0 else gd (okd (FP.dmul y2 4611686018427387904)) <| lt (FP.dmul y2 4611686018427387904) fun x26 => lt (y4 - 1) fun x27 => lt (y6 + 1) fun x28 => K18 x26 x27 x28 t0))
def f_X6_bitsOfShare_l18 : Nat → UInt64 → Int64 → Int32 → St → Option (Int64 × St)
  | 0, _, _, _, _ => none
  | g + 1, y2, y4, y6, t0 => f_X6_bitsOfShare_b18 (f_X6_bitsOfShare_l18 g) y2 y4 y6 t0
def f_X6_bitsOfShare (x0 : UInt64) (t0 : St) : Option (Int64 × St) :=
  (if 0 < (Op.cmpValue (FP.dcmp x0 0) CmpOp.l) then f_X6_bitsOfShare_l18 FU x0 1023 0 t0 else some (0, t0))
def f_X6_digest_b186 (K186 : Int64 → Int32 → St → Option (Int64 × St)) (y1 : Int64) (y3 : Int32) (t0 : St) : Option (Int64 × St) :=
  (if (t0.1 0 8) ≤ y3 then some (y1, t0) else bd (f_X4_at 136 y3 t0) fun x22 t23 => bd (f_X6_mixed y1 ((x22 : Int32).toInt64) t23) fun x25 t26 => lt (y3 + 1) fun x28 => K186 x25 x28 t26)
def f_X6_digest_l186 : Nat → Int64 → Int32 → St → Option (Int64 × St)
  | 0, _, _, _ => none
  | g + 1, y1, y3, t0 => f_X6_digest_b186 (f_X6_digest_l186 g) y1 y3 t0
def f_X6_digest_b162 (y1 : Int64) (t0 : St) : Option (Int64 × St) :=
  bd (f_X6_freshPart t0) fun x29 t30 => bd (f_X6_bitsOfShare x29 t30) fun x32 t33 => bd (f_X6_mixed y1 x32 t33) fun x35 t36 => bd (f_X6_mixed x35 (((t36.1 0 8) : Int32).toInt64) t36) fun x38 t39 => f_X6_digest_l186 FU x38 0 t39
def f_X6_digest_b61 (K47 : Int64 → Int32 → St → Option (Int64 × St)) (K61 : Int64 → Int32 → Int32 → St → Option (Int64 × St)) (y1 : Int64) (y3 : Int32) (y4 : Int32) (t0 : St) : Option (Int64 × St) :=
  (if 13 < y4 then lt (y3 + 1) fun x42 => K47 y1 x42 t0 else bd (f_X6_stickProperty y3 y4 t0) fun x43 t44 => bd (f_X6_mixed y1 ((x43 : Int32).toInt64) t44) fun x46 t47 => lt (y4 + 1) fun x49 => K61 x46 y3 x49 t47)
def f_X6_digest_l61 (K47 : Int64 → Int32 → St → Option (Int64 × St)) : Nat → Int64 → Int32 → Int32 → St → Option (Int64 × St)
  | 0, _, _, _, _ => none
  | g + 1, y1, y3, y4, t0 => f_X6_digest_b61 K47 (f_X6_digest_l61 K47 g) y1 y3 y4 t0
def f_X6_digest_b47 (K47 : Int64 → Int32 → St → Option (Int64 × St)) (y1 : Int64) (y3 : Int32) (t0 : St) : Option (Int64 × St) :=
  (if (t0.1 1 7) ≤ y3 then bd (f_X6_nextAlike 20 t0) fun x51 t52 => bd (f_X6_mixed y1 ((x51 : Int32).toInt64) t52) fun x54 t55 => bd (f_X6_calmestSlip 1 100 t55) fun x57 t58 => bd (f_X6_mixed x54 (((x57 + 5) : Int32).toInt64) t58) fun x60 t61 => (if (t61.1 1 0) ≤ 0 then f_X6_digest_b162 x60 t61 else bd (f_X6_outermost 0 50 20 0 t61) fun x64 t65 => bd (f_X6_mixed x60 ((x64 : Int32).toInt64) t65) fun x67 t68 => bd (f_X6_outermost 0 50 20 1 t68) fun x70 t71 => bd (f_X6_mixed x67 ((x70 : Int32).toInt64) t71) fun x73 t74 => f_X6_digest_b162 x73 t74) else f_X6_digest_l61 K47 FU y1 y3 0 t0)
def f_X6_digest_l47 : Nat → Int64 → Int32 → St → Option (Int64 × St)
  | 0, _, _, _ => none
  | g + 1, y1, y3, t0 => f_X6_digest_b47 (f_X6_digest_l47 g) y1 y3 t0
def f_X6_digest_b6 (K6 : Int64 → Int32 → St → Option (Int64 × St)) (y1 : Int64) (y3 : Int32) (t0 : St) : Option (Int64 × St) :=
  (if 7 < y3 then bv (f_X6_gatherDigestCouncils t0) fun t78 => bd (f_X6_mixedFeasts y1 t78) fun x80 t81 => bd (f_X6_mixedQuarrels x80 t81) fun x83 t84 => f_X6_digest_l47 FU x83 0 t84 else bd (f_X6_numberOf y3 t0) fun x86 t87 => bd (f_X6_mixed y1 ((x86 : Int32).toInt64) t87) fun x89 t90 => lt (y3 + 1) fun x92 => K6 x89 x92 t90)
def f_X6_digest_l6 : Nat → Int64 → Int32 → St → Option (Int64 × St)
  | 0, _, _, _ => none
  | g + 1, y1, y3, t0 => f_X6_digest_b6 (f_X6_digest_l6 g) y1 y3 t0
def f_X6_digest (t0 : St) : Option (Int64 × St) :=
  f_X6_digest_l6 FU 2953 0 t0
def f_X6_bufferTellsFeasts (t0 : St) : Option (Int32 × St) :=
  bd (f_X6_signsReadWell t0) fun x21 t22 => (if x21 = (t22.1 0 8) then bd (f_X2_mayEnd t22) fun x25 t26 => (if x25 = 0 then some (0, t26) else some (1, t26)) else some (0, t22))
def f_X6_addReadFeast_b33 (w0 : Int32) (t0 : St) : Option (Int32 × St) :=
  (if 10 ≤ (t0.1 1 0) then some (0, t0) else (if w0 = 0 then bv (f_X5_addFeast 1 138 t0) fun t24 => some (1, t24) else some (0, t0)))
def f_X6_addReadFeast_b32 (t0 : St) : Option (Int32 × St) :=
  f_X6_addReadFeast_b33 0 t0
def f_X6_addReadFeast (t0 : St) : Option (Int32 × St) :=
  (if (t0.1 138 0) = 3 then (if (t0.1 138 3) < (t0.1 1 0) then f_X6_addReadFeast_b32 t0 else f_X6_addReadFeast_b33 1 t0) else f_X6_addReadFeast_b32 t0)
def f_X6_addBufferedFeasts_b78 (y1 : Int32) (t0 : St) : Option (Int32 × St) :=
  some (((t0.1 1 0) - y1), t0)
def f_X6_addBufferedFeasts_b69 (y1 : Int32) (y2 : Int32) (t0 : St) : Option (Int32 × St) :=
  (if y2 = 0 then f_X6_addBufferedFeasts_b78 y1 t0 else bd (f_X6_addReadFeast t0) fun x22 t23 => f_X6_addBufferedFeasts_b78 y1 t23)
def f_X6_addBufferedFeasts_b53 (K19 : Int32 → Int32 → Int32 → St → Option (Int32 × St)) (y1 : Int32) (y2 : Int32) (y3 : Int32) (y4 : Int32) (t0 : St) : Option (Int32 × St) :=
  bd (f_X2_reads y4 t0) fun x25 t26 => lt (y3 + 1) fun x28 => K19 y1 y2 x28 t26
def f_X6_addBufferedFeasts_b19 (K19 : Int32 → Int32 → Int32 → St → Option (Int32 × St)) (y1 : Int32) (y2 : Int32) (y3 : Int32) (t0 : St) : Option (Int32 × St) :=
  (if (t0.1 0 8) ≤ y3 then f_X6_addBufferedFeasts_b69 y1 y2 t0 else (if y2 = 0 then f_X6_addBufferedFeasts_b69 y1 y2 t0 else bd (f_X4_at 136 y3 t0) fun x31 t32 => (if x31 = 59 then bd (f_X6_addReadFeast t32) fun x35 t36 => f_X6_addBufferedFeasts_b53 K19 y1 x35 y3 x31 t36 else f_X6_addBufferedFeasts_b53 K19 y1 y2 y3 x31 t32)))
def f_X6_addBufferedFeasts_l19 : Nat → Int32 → Int32 → Int32 → St → Option (Int32 × St)
  | 0, _, _, _, _ => none
  | g + 1, y1, y2, y3, t0 => f_X6_addBufferedFeasts_b19 (f_X6_addBufferedFeasts_l19 g) y1 y2 y3 t0
def f_X6_addBufferedFeasts (t0 : St) : Option (Int32 × St) :=
  lt (t0.1 1 0) fun x38 => bv (f_X2_start t0) fun t40 => f_X6_addBufferedFeasts_l19 FU x38 1 0 t40
def f_X6_lowestFeastOn_b14 (K14 : Int32 → Int32 → St → Option (Int32 × St)) (x2 : Int32) (y3 : Int32) (t0 : St) : Option (Int32 × St) :=
  (if (t0.1 1 0) ≤ y3 then some ((-1), t0) else bd (f_X0_settledNotch 144 y3 t0) fun x22 t23 => (if x22 = x2 then some (y3, t23) else lt (y3 + 1) fun x26 => K14 x2 x26 t23))
def f_X6_lowestFeastOn_l14 : Nat → Int32 → Int32 → St → Option (Int32 × St)
  | 0, _, _, _ => none
  | g + 1, x2, y3, t0 => f_X6_lowestFeastOn_b14 (f_X6_lowestFeastOn_l14 g) x2 y3 t0
def f_X6_lowestFeastOn (x1 : Int32) (x2 : Int32) (t0 : St) : Option (Int32 × St) :=
  bv (f_X0_gather 144 1 x1 t0) fun t28 => f_X6_lowestFeastOn_l14 FU x2 0 t28
def f_X7_thrown (t0 : St) : Option (Int32 × St) :=
  some ((t0.1 225 0), t0)
def f_X7_in (x0 : Int32) (x1 : Int32) (x2 : Int32) (t0 : St) : Option (Int32 × St) :=
  (if x0 < x1 then some (0, t0) else (if x2 < x0 then some (0, t0) else some (1, t0)))
def f_X7_holds (x1 : Int32) (t0 : St) : Option (Int32 × St) :=
  lt (sI t0 225 0 x1) fun t21 => (if x1 = 0 then some (1, t21) else some (0, t21))
def f_X7_of (x0 : Int32) (x1 : Int32) (t0 : St) : Option (Int32 × St) :=
  some (((1 + (4 * x0)) + x1), t0)
def f_X7_ofStick (x0 : Int32) (x1 : Int32) (t0 : St) : Option (Int32 × St) :=
  some (((46 + (13 * x0)) + x1), t0)
def f_X7_isFeast (x1 : Int32) (t0 : St) : Option (Int32 × St) :=
  gd (inB 0 111) <| bd (f_X7_in x1 0 ((t0.1 226 (tc 0)) - 1) t0) fun x22 t23 => gd (is01 x22) <| some (x22, t23)
def f_X7_isYear (x0 : Int32) (t0 : St) : Option (Int32 × St) :=
  bd (f_X7_in x0 0 999 t0) fun x21 t22 => gd (is01 x21) <| some (x21, t22)
def f_X7_isCarver (x0 : Int32) (t0 : St) : Option (Int32 × St) :=
  bd (f_X7_in x0 0 2 t0) fun x21 t22 => gd (is01 x21) <| some (x21, t22)
def f_X7_save_b51 (K51 : Int32 → St → Option (St)) (y1 : Int32) (t0 : St) : Option (St) :=
  (if 111 ≤ y1 then lt (sI t0 225 3 ((t0.1 225 3) + 1)) fun t22 => some t22 else gd (inB y1 111) <| gd (inB ((111 * (t0.1 225 3)) + y1) 666) <| lt (sI t0 227 (tc ((111 * (t0.1 225 3)) + y1)) (t0.1 226 (tc y1))) fun t25 => lt (y1 + 1) fun x26 => K51 x26 t25)
def f_X7_save_l51 : Nat → Int32 → St → Option (St)
  | 0, _, _ => none
  | g + 1, y1, t0 => f_X7_save_b51 (f_X7_save_l51 g) y1 t0
def f_X7_save_b11 (K11 : Int32 → St → Option (St)) (y1 : Int32) (t0 : St) : Option (St) :=
  (if 555 ≤ y1 then lt (sI t0 225 3 ((t0.1 225 3) - 1)) fun t28 => f_X7_save_l51 FU 0 t28 else gd (inB (111 + y1) 666) <| gd (inB y1 666) <| lt (sI t0 227 (tc y1) (t0.1 227 (tc (111 + y1)))) fun t31 => lt (y1 + 1) fun x32 => K11 x32 t31)
def f_X7_save_l11 : Nat → Int32 → St → Option (St)
  | 0, _, _ => none
  | g + 1, y1, t0 => f_X7_save_b11 (f_X7_save_l11 g) y1 t0
def f_X7_save (t0 : St) : Option (St) :=
  (if (t0.1 225 3) = 6 then f_X7_save_l11 FU 0 t0 else f_X7_save_l51 FU 0 t0)
def f_X7_daysOf (x0 : Int32) (t0 : St) : Option (Int32 × St) :=
  (if (rm x0 4) = 0 then some (366, t0) else some (365, t0))
def f_X7_weekday (x0 : Int32) (x1 : Int32) (t0 : St) : Option (Int32 × St) :=
  some ((rm (((365 * x0) + ((x0 + 3) / 4)) + x1) 7), t0)
def f_X7_age (x1 : Int32) (x2 : Int32) (x3 : Int32) (t0 : St) : Option (Int32 × St) :=
  gd (inB 44 111) <| gd (nz (t0.1 226 (tc 44))) <| some ((rm ((((((11 * (rm x1 19)) + (x1 / (t0.1 226 (tc 44)))) + x3) + 5) + x2) + (x2 / 59)) 30), t0)
def f_X7_firstWeekday_b2 (K2 : Int32 → Int32 → Int32 → St → Option (Int32 × St)) (x0 : Int32) (x2 : Int32) (y3 : Int32) (t0 : St) : Option (Int32 × St) :=
  bd (f_X7_daysOf x0 t0) fun x21 t22 => (if x21 ≤ y3 then some ((-1), t22) else bd (f_X7_weekday x0 y3 t22) fun x25 t26 => (if x25 = x2 then some (y3, t26) else lt (y3 + 1) fun x29 => K2 x0 x2 x29 t26))
def f_X7_firstWeekday_l2 : Nat → Int32 → Int32 → Int32 → St → Option (Int32 × St)
  | 0, _, _, _, _ => none
  | g + 1, x0, x2, y3, t0 => f_X7_firstWeekday_b2 (f_X7_firstWeekday_l2 g) x0 x2 y3 t0
def f_X7_firstWeekday (x0 : Int32) (x1 : Int32) (x2 : Int32) (t0 : St) : Option (Int32 × St) :=
  f_X7_firstWeekday_l2 FU x0 x2 x1 t0
def f_X7_firstFull_b3 (K3 : Int32 → Int32 → Int32 → St → Option (Int32 × St)) (x1 : Int32) (x3 : Int32) (y4 : Int32) (t0 : St) : Option (Int32 × St) :=
  bd (f_X7_daysOf x1 t0) fun x21 t22 => (if x21 ≤ y4 then some ((-1), t22) else bd (f_X7_age x1 y4 x3 t22) fun x25 t26 => (if x25 = 14 then some (y4, t26) else lt (y4 + 1) fun x29 => K3 x1 x3 x29 t26))
def f_X7_firstFull_l3 : Nat → Int32 → Int32 → Int32 → St → Option (Int32 × St)
  | 0, _, _, _, _ => none
  | g + 1, x1, x3, y4, t0 => f_X7_firstFull_b3 (f_X7_firstFull_l3 g) x1 x3 y4 t0
def f_X7_firstFull (x1 : Int32) (x2 : Int32) (x3 : Int32) (t0 : St) : Option (Int32 × St) :=
  f_X7_firstFull_l3 FU x1 x3 x2 t0
def f_X7_findProper_b158 (K2 : Int32 → Int32 → Int32 → St → Option (St)) (x1 : Int32) (x2 : Int32) (y3 : Int32) (w0 : Int32) (t0 : St) : Option (St) :=
  bd (f_X7_daysOf x1 t0) fun x21 t22 => bd (f_X7_in w0 0 (x21 - 1) t22) fun x24 t25 => (if x24 = 0 then gd (inB y3 10) <| lt (sI t25 229 (tc y3) (-1)) fun t29 => lt (y3 + 1) fun x30 => K2 x1 x2 x30 t29 else gd (inB y3 10) <| lt (sI t25 229 (tc y3) w0) fun t32 => lt (y3 + 1) fun x33 => K2 x1 x2 x33 t32)
def f_X7_findProper_b85 (K2 : Int32 → Int32 → Int32 → St → Option (St)) (x1 : Int32) (x2 : Int32) (y3 : Int32) (y4 : Int32) (y5 : Int32) (y6 : Int32) (y7 : Int32) (w0 : Int32) (t0 : St) : Option (St) :=
  (if y6 = 0 then f_X7_findProper_b158 K2 x1 x2 y3 y4 t0 else (if y6 = 1 then bd (f_X7_firstWeekday x1 y4 y5 t0) fun x42 t43 => f_X7_findProper_b158 K2 x1 x2 y3 x42 t43 else (if y6 = 2 then (if y7 = (-1) then f_X7_findProper_b158 K2 x1 x2 y3 (-1) t0 else bd (f_X7_firstWeekday x1 (y7 + 1) y5 t0) fun x39 t40 => f_X7_findProper_b158 K2 x1 x2 y3 x39 t40) else (if w0 = (-1) then f_X7_findProper_b158 K2 x1 x2 y3 (-1) t0 else f_X7_findProper_b158 K2 x1 x2 y3 (w0 + y4) t0))))
def f_X7_findProper_b66 (K2 : Int32 → Int32 → Int32 → St → Option (St)) (x1 : Int32) (x2 : Int32) (y3 : Int32) (y4 : Int32) (y5 : Int32) (y6 : Int32) (w0 : Int32) (t0 : St) : Option (St) :=
  (if y6 = 3 then gd (inB y5 10) <| f_X7_findProper_b85 K2 x1 x2 y3 y4 y5 y6 w0 (t0.1 229 (tc y5)) t0 else f_X7_findProper_b85 K2 x1 x2 y3 y4 y5 y6 w0 (-1) t0)
def f_X7_findProper_b2 (K2 : Int32 → Int32 → Int32 → St → Option (St)) (x1 : Int32) (x2 : Int32) (y3 : Int32) (t0 : St) : Option (St) :=
  gd (inB 0 111) <| (if (t0.1 226 (tc 0)) ≤ y3 then some t0 else bd (f_X7_of y3 2 t0) fun x49 t50 => gd (inB x49 111) <| lt (t50.1 226 (tc x49)) fun x53 => bd (f_X7_of y3 3 t50) fun x54 t55 => gd (inB x54 111) <| lt (t55.1 226 (tc x54)) fun x58 => bd (f_X7_of y3 0 t55) fun x59 t60 => gd (inB x59 111) <| lt (t60.1 226 (tc x59)) fun x63 => (if x63 = 2 then bd (f_X7_firstFull x1 x53 x2 t60) fun x65 t66 => f_X7_findProper_b66 K2 x1 x2 y3 x53 x58 x63 x65 t66 else f_X7_findProper_b66 K2 x1 x2 y3 x53 x58 x63 (-1) t60))
def f_X7_findProper_l2 : Nat → Int32 → Int32 → Int32 → St → Option (St)
  | 0, _, _, _, _ => none
  | g + 1, x1, x2, y3, t0 => f_X7_findProper_b2 (f_X7_findProper_l2 g) x1 x2 y3 t0
def f_X7_findProper (x1 : Int32) (x2 : Int32) (t0 : St) : Option (St) :=
  f_X7_findProper_l2 FU x1 x2 0 t0
def f_X7_lay_b150 (K30 : Int32 → Int32 → St → Option (St)) (x1 : Int32) (y3 : Int32) (y4 : Int32) (y5 : Int32) (w0 : Int32) (w1 : Int32) (t0 : St) : Option (St) :=
  gd (inB w1 10) <| lt (sI t0 230 (tc w1) w0) fun t22 => gd (inB y4 10) <| (if (t22.1 230 (tc y4)) = (-1) then lt (y3 + 1) fun x25 => K30 x1 x25 t22 else gd (inB y5 366) <| lt (sI t22 231 (tc y5) 1) fun t27 => lt (y3 + 1) fun x28 => K30 x1 x28 t27)
def f_X7_lay_b129 (K30 : Int32 → Int32 → St → Option (St)) (x1 : Int32) (y3 : Int32) (y4 : Int32) (y5 : Int32) (t0 : St) : Option (St) :=
  bd (f_X7_daysOf x1 t0) fun x29 t30 => (if x29 ≤ y5 then f_X7_lay_b150 K30 x1 y3 y4 y5 (-1) y4 t30 else f_X7_lay_b150 K30 x1 y3 y4 y5 y5 y4 t30)
def f_X7_lay_b104 (K30 : Int32 → Int32 → St → Option (St)) (K104 : Int32 → Int32 → Int32 → Int32 → St → Option (St)) (x1 : Int32) (y3 : Int32) (y4 : Int32) (y5 : Int32) (t0 : St) : Option (St) :=
  bd (f_X7_daysOf x1 t0) fun x33 t34 => (if x33 ≤ y5 then f_X7_lay_b129 K30 x1 y3 y4 y5 t34 else gd (inB y5 366) <| (if (t34.1 231 (tc y5)) = 0 then f_X7_lay_b129 K30 x1 y3 y4 y5 t34 else lt (y5 + 1) fun x39 => K104 x1 y3 y4 x39 t34))
def f_X7_lay_l104 (K30 : Int32 → Int32 → St → Option (St)) : Nat → Int32 → Int32 → Int32 → Int32 → St → Option (St)
  | 0, _, _, _, _, _ => none
  | g + 1, x1, y3, y4, y5, t0 => f_X7_lay_b104 K30 (f_X7_lay_l104 K30 g) x1 y3 y4 y5 t0
def f_X7_lay_b30 (K30 : Int32 → Int32 → St → Option (St)) (x1 : Int32) (y3 : Int32) (t0 : St) : Option (St) :=
  gd (inB 0 111) <| (if (10 * (t0.1 226 (tc 0))) ≤ y3 then some t0 else gd (inB 0 111) <| gd (nz (t0.1 226 (tc 0))) <| lt (rm y3 (t0.1 226 (tc 0))) fun x44 => bd (f_X7_of x44 1 t0) fun x45 t46 => gd (inB x45 111) <| gd (inB 0 111) <| gd (nz (t46.1 226 (tc 0))) <| (if (t46.1 226 (tc x45)) = (9 - (y3 / (t46.1 226 (tc 0)))) then gd (inB x44 10) <| (if (t46.1 229 (tc x44)) = (-1) then f_X7_lay_l104 K30 FU x1 y3 x44 366 t46 else gd (inB x44 10) <| lt (t46.1 229 (tc x44)) fun x56 => f_X7_lay_l104 K30 FU x1 y3 x44 x56 t46) else lt (y3 + 1) fun x52 => K30 x1 x52 t46))
def f_X7_lay_l30 : Nat → Int32 → Int32 → St → Option (St)
  | 0, _, _, _ => none
  | g + 1, x1, y3, t0 => f_X7_lay_b30 (f_X7_lay_l30 g) x1 y3 t0
def f_X7_lay_b8 (K8 : Int32 → Int32 → St → Option (St)) (x1 : Int32) (y3 : Int32) (t0 : St) : Option (St) :=
  (if 366 ≤ y3 then f_X7_lay_l30 FU x1 0 t0 else gd (inB y3 366) <| lt (sI t0 231 (tc y3) 0) fun t59 => lt (y3 + 1) fun x60 => K8 x1 x60 t59)
def f_X7_lay_l8 : Nat → Int32 → Int32 → St → Option (St)
  | 0, _, _, _ => none
  | g + 1, x1, y3, t0 => f_X7_lay_b8 (f_X7_lay_l8 g) x1 y3 t0
def f_X7_lay (x1 : Int32) (x2 : Int32) (t0 : St) : Option (St) :=
  bv (f_X7_findProper x1 x2 t0) fun t62 => f_X7_lay_l8 FU x1 0 t62
def f_X7_layAll_b23 (K2 : Int32 → Int32 → St → Option (St)) (K23 : Int32 → Int32 → Int32 → St → Option (St)) (x1 : Int32) (y2 : Int32) (y3 : Int32) (t0 : St) : Option (St) :=
  gd (inB 0 111) <| (if (t0.1 226 (tc 0)) ≤ y3 then lt (y2 + 1) fun x23 => K2 x1 x23 t0 else gd (inB y3 10) <| gd (inB ((10 * y2) + y3) 30) <| lt (sI t0 232 (tc ((10 * y2) + y3)) (t0.1 230 (tc y3))) fun t26 => lt (y3 + 1) fun x27 => K23 x1 y2 x27 t26)
def f_X7_layAll_l23 (K2 : Int32 → Int32 → St → Option (St)) : Nat → Int32 → Int32 → Int32 → St → Option (St)
  | 0, _, _, _, _ => none
  | g + 1, x1, y2, y3, t0 => f_X7_layAll_b23 K2 (f_X7_layAll_l23 K2 g) x1 y2 y3 t0
def f_X7_layAll_b2 (K2 : Int32 → Int32 → St → Option (St)) (x1 : Int32) (y2 : Int32) (t0 : St) : Option (St) :=
  (if 3 ≤ y2 then some t0 else gd (inB (41 + y2) 111) <| bv (f_X7_lay x1 (t0.1 226 (tc (41 + y2))) t0) fun t31 => f_X7_layAll_l23 K2 FU x1 y2 0 t31)
def f_X7_layAll_l2 : Nat → Int32 → Int32 → St → Option (St)
  | 0, _, _, _ => none
  | g + 1, x1, y2, t0 => f_X7_layAll_b2 (f_X7_layAll_l2 g) x1 y2 t0
def f_X7_layAll (x1 : Int32) (t0 : St) : Option (St) :=
  f_X7_layAll_l2 FU x1 0 t0
def f_X7_settledBy (x1 : Int32) (t0 : St) : Option (Int32 × St) :=
  gd (inB (10 + x1) 30) <| gd (inB (20 + x1) 30) <| (if (t0.1 232 (tc (10 + x1))) = (t0.1 232 (tc (20 + x1))) then gd (inB (10 + x1) 30) <| some ((t0.1 232 (tc (10 + x1))), t0) else gd (inB x1 30) <| some ((t0.1 232 (tc x1)), t0))
def f_X7_quarrelsNow_b4 (K4 : Int32 → Int32 → St → Option (Int32 × St)) (y1 : Int32) (y2 : Int32) (t0 : St) : Option (Int32 × St) :=
  gd (inB 0 111) <| (if (t0.1 226 (tc 0)) ≤ y2 then some (y1, t0) else gd (inB y2 30) <| gd (inB (10 + y2) 30) <| (if (t0.1 232 (tc y2)) = (t0.1 232 (tc (10 + y2))) then gd (inB y2 30) <| gd (inB (20 + y2) 30) <| (if (t0.1 232 (tc y2)) = (t0.1 232 (tc (20 + y2))) then lt (y1 + 0) fun x33 => lt (y2 + 1) fun x34 => K4 x33 x34 t0 else lt (y1 + 1) fun x31 => lt (y2 + 1) fun x32 => K4 x31 x32 t0) else lt (y1 + 1) fun x26 => lt (y2 + 1) fun x27 => K4 x26 x27 t0))
def f_X7_quarrelsNow_l4 : Nat → Int32 → Int32 → St → Option (Int32 × St)
  | 0, _, _, _ => none
  | g + 1, y1, y2, t0 => f_X7_quarrelsNow_b4 (f_X7_quarrelsNow_l4 g) y1 y2 t0
def f_X7_quarrelsNow (t0 : St) : Option (Int32 × St) :=
  f_X7_quarrelsNow_l4 FU 0 0 t0
def f_X7_append_b30 (x1 : Int32) (w0 : Int32) (t0 : St) : Option (Int32 × St) :=
  bd (f_X7_holds w0 t0) fun x21 t22 => (if x21 = 0 then some (0, t22) else gd (inB (t22.1 225 5) 60) <| lt (sI t22 228 (tc (t22.1 225 5)) x1) fun t26 => lt (sI t26 225 5 ((t26.1 225 5) + 1)) fun t27 => some ((t27.1 225 5), t27))
def f_X7_append (x1 : Int32) (t0 : St) : Option (Int32 × St) :=
  bd (f_X7_in x1 33 126 t0) fun x28 t29 => (if x28 = 0 then f_X7_append_b30 x1 1 t29 else (if (t29.1 225 5) = 60 then f_X7_append_b30 x1 2 t29 else f_X7_append_b30 x1 0 t29))
def f_X7_clearBuffer (t0 : St) : Option (Int32 × St) :=
  lt (sI t0 225 0 0) fun t21 => lt (t21.1 225 5) fun x22 => lt (sI t21 225 5 0) fun t23 => some (x22, t23)
def f_X7_sign_b47 (y3 : Int32) (w0 : Int32) (t0 : St) : Option (Int32 × St) :=
  gd (is01 w0) <| lt (sI t0 225 11 w0) fun t21 => (if (t21.1 225 11) = 0 then lt (sI t21 225 10 ((t21.1 225 10) + 1)) fun t24 => some (y3, t24) else lt (sI t21 225 10 ((t21.1 225 10) + 0)) fun t25 => some (y3, t25))
def f_X7_sign_b24 (x1 : Int32) (x2 : Int32) (w0 : Int32) (t0 : St) : Option (Int32 × St) :=
  (if (t0.1 225 11) = 0 then bd (f_X7_in w0 x1 x2 t0) fun x27 t28 => (if x27 = 0 then f_X7_sign_b47 w0 1 t28 else f_X7_sign_b47 w0 0 t28) else f_X7_sign_b47 w0 1 t0)
def f_X7_sign (x1 : Int32) (x2 : Int32) (t0 : St) : Option (Int32 × St) :=
  (if (t0.1 225 5) ≤ (t0.1 225 10) then f_X7_sign_b24 x1 x2 0 t0 else gd (inB (t0.1 225 10) 60) <| f_X7_sign_b24 x1 x2 (t0.1 228 (tc (t0.1 225 10))) t0)
def f_X7_isNext (x1 : Int32) (t0 : St) : Option (Int32 × St) :=
  (if (t0.1 225 11) = 0 then (if (t0.1 225 5) ≤ (t0.1 225 10) then some (0, t0) else gd (inB (t0.1 225 10) 60) <| (if (t0.1 228 (tc (t0.1 225 10))) = x1 then some (1, t0) else some (0, t0))) else some (0, t0))
def f_X7_number_b12 (K12 : Int32 → Int32 → St → Option (Int32 × St)) (x1 : Int32) (y2 : Int32) (t0 : St) : Option (Int32 × St) :=
  (if (t0.1 225 11) = 0 then (if y2 ≤ 0 then some (y2, t0) else (if (t0.1 225 5) ≤ (t0.1 225 10) then some (y2, t0) else gd (inB (t0.1 225 10) 60) <| bd (f_X7_in (t0.1 228 (tc (t0.1 225 10))) 48 57 t0) fun x25 t26 => (if x25 = 0 then some (y2, t26) else gd (inB (t26.1 225 10) 60) <| (if x1 < (((10 * y2) + (t26.1 228 (tc (t26.1 225 10)))) - 48) then some (y2, t26) else bd (f_X7_sign 48 57 t26) fun x31 t32 => lt (((10 * y2) + x31) - 48) fun x34 => K12 x1 x34 t32)))) else some (y2, t0))
def f_X7_number_l12 : Nat → Int32 → Int32 → St → Option (Int32 × St)
  | 0, _, _, _ => none
  | g + 1, x1, y2, t0 => f_X7_number_b12 (f_X7_number_l12 g) x1 y2 t0
def f_X7_number (x1 : Int32) (t0 : St) : Option (Int32 × St) :=
  bd (f_X7_sign 48 57 t0) fun x35 t36 => lt (x35 - 48) fun x38 => f_X7_number_l12 FU x1 x38 t36
def f_X7_read_b258 (t0 : St) : Option (St) :=
  gd (inB 1 4) <| lt (sI t0 233 (tc 1) 0) fun t22 => bd (f_X7_isNext 94 t22) fun x23 t24 => (if x23 = 0 then some t24 else bd (f_X7_sign 94 94 t24) fun x27 t28 => bd (f_X7_sign 48 57 t28) fun x30 t31 => gd (inB 1 4) <| lt (sI t31 233 (tc 1) (x30 - 48)) fun t34 => some t34)
def f_X7_read_b183 (y2 : Int32) (w0 : Int32) (t0 : St) : Option (St) :=
  (if y2 = 0 then bd (f_X7_number 90 t0) fun x36 t37 => gd (inB 2 4) <| lt (sI t37 233 (tc 2) x36) fun t40 => f_X7_read_b258 t40 else bd (f_X7_number 90 t0) fun x41 t42 => gd (inB 2 4) <| lt (sI t42 233 (tc 2) (-x41)) fun t45 => f_X7_read_b258 t45)
def f_X7_read_b122 (y1 : Int32) (w0 : Int32) (t0 : St) : Option (St) :=
  gd (inB 0 4) <| lt (sI t0 233 (tc 0) w0) fun t47 => gd (inB 3 4) <| lt (sI t47 233 (tc 3) (-1)) fun t49 => (if y1 = 97 then bd (f_X7_sign 48 57 t49) fun x65 t66 => gd (inB 3 4) <| lt (sI t66 233 (tc 3) (x65 - 48)) fun t69 => bd (f_X7_isNext 45 t69) fun x70 t71 => (if x70 = 0 then bd (f_X7_sign 43 43 t71) fun x74 t75 => f_X7_read_b183 x70 x74 t75 else bd (f_X7_sign 45 45 t71) fun x77 t78 => f_X7_read_b183 x70 x77 t78) else bd (f_X7_number 365 t49) fun x51 t52 => gd (inB 2 4) <| lt (sI t52 233 (tc 2) x51) fun t55 => (if y1 = 100 then f_X7_read_b258 t55 else bd (f_X7_sign 44 44 t55) fun x57 t58 => bd (f_X7_sign 48 54 t58) fun x60 t61 => gd (inB 3 4) <| lt (sI t61 233 (tc 3) (x60 - 48)) fun t64 => f_X7_read_b258 t64))
def f_X7_read_b82 (y1 : Int32) (w0 : Int32) (w1 : Int32) (t0 : St) : Option (St) :=
  lt (sI t0 225 10 (w1 + w0)) fun t80 => (if y1 = 100 then f_X7_read_b122 y1 0 t80 else (if y1 = 119 then f_X7_read_b122 y1 1 t80 else (if y1 = 109 then f_X7_read_b122 y1 2 t80 else f_X7_read_b122 y1 3 t80)))
def f_X7_read_b62 (y1 : Int32) (w0 : Int32) (t0 : St) : Option (St) :=
  gd (is01 w0) <| lt (sI t0 225 11 w0) fun t84 => (if (t84.1 225 11) = 0 then f_X7_read_b82 y1 1 (t84.1 225 10) t84 else f_X7_read_b82 y1 0 (t84.1 225 10) t84)
def f_X7_read_b61 (y1 : Int32) (t0 : St) : Option (St) :=
  f_X7_read_b62 y1 0 t0
def f_X7_read_b24 (w0 : Int32) (t0 : St) : Option (St) :=
  (if (t0.1 225 11) = 0 then (if w0 = 100 then f_X7_read_b61 w0 t0 else (if w0 = 119 then f_X7_read_b61 w0 t0 else (if w0 = 109 then f_X7_read_b61 w0 t0 else (if w0 = 97 then f_X7_read_b61 w0 t0 else f_X7_read_b62 w0 1 t0)))) else f_X7_read_b62 w0 1 t0)
def f_X7_read (t0 : St) : Option (St) :=
  (if (t0.1 225 5) ≤ (t0.1 225 10) then f_X7_read_b24 0 t0 else gd (inB (t0.1 225 10) 60) <| f_X7_read_b24 (t0.1 228 (tc (t0.1 225 10))) t0)
def f_X7_adds_b72 (y2 : Int32) (t0 : St) : Option (Int32 × St) :=
  gd (inB 0 111) <| (if y2 = 0 then gd (inB 0 111) <| lt (sI t0 226 (tc 0) ((t0.1 226 (tc 0)) + 0)) fun t24 => gd (is01 y2) <| some (y2, t24) else gd (inB 0 111) <| lt (sI t0 226 (tc 0) ((t0.1 226 (tc 0)) + 1)) fun t27 => gd (is01 y2) <| some (y2, t27))
def f_X7_adds_b41 (K41 : Int32 → Int32 → Int32 → St → Option (Int32 × St)) (y1 : Int32) (y2 : Int32) (y3 : Int32) (t0 : St) : Option (Int32 × St) :=
  (if 4 ≤ y3 then f_X7_adds_b72 y2 t0 else (if y2 = 0 then f_X7_adds_b72 y2 t0 else bd (f_X7_of y1 y3 t0) fun x31 t32 => gd (inB y3 4) <| gd (inB x31 111) <| lt (sI t32 226 (tc x31) (t32.1 233 (tc y3))) fun t36 => lt (y3 + 1) fun x37 => K41 y1 y2 x37 t36))
def f_X7_adds_l41 : Nat → Int32 → Int32 → Int32 → St → Option (Int32 × St)
  | 0, _, _, _, _ => none
  | g + 1, y1, y2, y3, t0 => f_X7_adds_b41 (f_X7_adds_l41 g) y1 y2 y3 t0
def f_X7_adds (t0 : St) : Option (Int32 × St) :=
  gd (inB 0 111) <| lt (t0.1 226 (tc 0)) fun x39 => (if 10 ≤ x39 then f_X7_adds_l41 FU x39 0 0 t0 else gd (inB 0 4) <| (if (t0.1 233 (tc 0)) = 3 then gd (inB 3 4) <| (if x39 ≤ (t0.1 233 (tc 3)) then f_X7_adds_l41 FU x39 0 0 t0 else f_X7_adds_l41 FU x39 1 0 t0) else f_X7_adds_l41 FU x39 1 0 t0))
def f_X7_go_b85 (K14 : Int32 → Int32 → Int32 → St → Option (Int32 × St)) (x1 : Int32) (y2 : Int32) (w0 : Int32) (t0 : St) : Option (Int32 × St) :=
  (if w0 = 0 then K14 x1 y2 w0 t0 else bd (f_X7_sign 59 59 t0) fun x22 t23 => (if (t23.1 225 11) = 0 then K14 x1 y2 1 t23 else K14 x1 y2 0 t23))
def f_X7_go_b84 (K14 : Int32 → Int32 → Int32 → St → Option (Int32 × St)) (x1 : Int32) (y2 : Int32) (t0 : St) : Option (Int32 × St) :=
  f_X7_go_b85 K14 x1 y2 0 t0
def f_X7_go_b69 (K14 : Int32 → Int32 → Int32 → St → Option (Int32 × St)) (x1 : Int32) (y2 : Int32) (t0 : St) : Option (Int32 × St) :=
  (if (t0.1 225 5) ≤ (t0.1 225 10) then f_X7_go_b84 K14 x1 y2 t0 else f_X7_go_b85 K14 x1 y2 1 t0)
def f_X7_go_b51 (K14 : Int32 → Int32 → Int32 → St → Option (Int32 × St)) (x1 : Int32) (y4 : Int32) (w0 : Int32) (w1 : Int32) (t0 : St) : Option (Int32 × St) :=
  lt (w1 + w0) fun x27 => (if (t0.1 225 11) = 0 then (if y4 = 0 then (if x1 = 0 then f_X7_go_b69 K14 x1 x27 t0 else f_X7_go_b84 K14 x1 x27 t0) else f_X7_go_b69 K14 x1 x27 t0) else f_X7_go_b84 K14 x1 x27 t0)
def f_X7_go_b38 (K14 : Int32 → Int32 → Int32 → St → Option (Int32 × St)) (x1 : Int32) (y2 : Int32) (w0 : Int32) (t0 : St) : Option (Int32 × St) :=
  (if w0 = 0 then f_X7_go_b51 K14 x1 w0 0 y2 t0 else f_X7_go_b51 K14 x1 w0 1 y2 t0)
def f_X7_go_b37 (K14 : Int32 → Int32 → Int32 → St → Option (Int32 × St)) (x1 : Int32) (y2 : Int32) (t0 : St) : Option (Int32 × St) :=
  f_X7_go_b38 K14 x1 y2 0 t0
def f_X7_go_b14 (K14 : Int32 → Int32 → Int32 → St → Option (Int32 × St)) (x1 : Int32) (y2 : Int32) (y3 : Int32) (t0 : St) : Option (Int32 × St) :=
  (if y3 = 0 then some (y2, t0) else bv (f_X7_read t0) fun t34 => (if x1 = 0 then f_X7_go_b37 K14 x1 y2 t34 else bd (f_X7_adds t34) fun x37 t38 => (if x37 = 0 then f_X7_go_b37 K14 x1 y2 t38 else f_X7_go_b38 K14 x1 y2 1 t38)))
def f_X7_go_l14 : Nat → Int32 → Int32 → Int32 → St → Option (Int32 × St)
  | 0, _, _, _, _ => none
  | g + 1, x1, y2, y3, t0 => f_X7_go_b14 (f_X7_go_l14 g) x1 y2 y3 t0
def f_X7_go (x1 : Int32) (t0 : St) : Option (Int32 × St) :=
  lt (sI t0 225 10 0) fun t41 => lt (sI t41 225 11 0) fun t42 => f_X7_go_l14 FU x1 0 1 t42
def f_X7_firstError (t0 : St) : Option (Int32 × St) :=
  lt (sI t0 225 0 0) fun t21 => bd (f_X7_go 0 t21) fun x22 t23 => (if (t23.1 225 11) = 0 then some ((t23.1 225 5), t23) else some ((t23.1 225 10), t23))
def f_X7_proclaim_b19 (w0 : Int32) (t0 : St) : Option (Int32 × St) :=
  bd (f_X7_holds w0 t0) fun x21 t22 => (if x21 = 0 then some (0, t22) else bv (f_X7_save t22) fun t26 => bd (f_X7_go 1 t26) fun x28 t29 => lt (sI t29 225 5 0) fun t31 => some (x28, t31))
def f_X7_proclaim (t0 : St) : Option (Int32 × St) :=
  bd (f_X7_go 0 t0) fun x32 t33 => (if (t33.1 225 11) = 0 then f_X7_proclaim_b19 0 t33 else f_X7_proclaim_b19 1 t33)
def f_X7_forget_b15 (w0 : Int32) (t0 : St) : Option (Int32 × St) :=
  bd (f_X7_holds w0 t0) fun x21 t22 => (if x21 = 0 then some (0, t22) else bv (f_X7_save t22) fun t26 => gd (inB 0 111) <| gd (inB 0 111) <| lt (sI t26 226 (tc 0) ((t26.1 226 (tc 0)) - 1)) fun t30 => gd (inB 0 111) <| some ((t30.1 226 (tc 0)), t30))
def f_X7_forget (t0 : St) : Option (Int32 × St) :=
  gd (inB 0 111) <| (if (t0.1 226 (tc 0)) = 0 then f_X7_forget_b15 1 t0 else f_X7_forget_b15 0 t0)
def f_X7_puts (x1 : Int32) (x2 : Int32) (t0 : St) : Option (Int32 × St) :=
  bv (f_X7_save t0) fun t22 => gd (inB x1 111) <| lt (t22.1 226 (tc x1)) fun x25 => gd (inB x1 111) <| lt (sI t22 226 (tc x1) x2) fun t27 => some (x25, t27)
def f_X7_rank_b28 (x1 : Int32) (x2 : Int32) (w0 : Int32) (t0 : St) : Option (Int32 × St) :=
  bd (f_X7_holds w0 t0) fun x21 t22 => (if x21 = 0 then some (0, t22) else bd (f_X7_of x1 1 t22) fun x25 t26 => bd (f_X7_puts x25 x2 t26) fun x28 t29 => some (x28, t29))
def f_X7_rank (x1 : Int32) (x2 : Int32) (t0 : St) : Option (Int32 × St) :=
  bd (f_X7_isFeast x1 t0) fun x31 t32 => (if x31 = 0 then f_X7_rank_b28 x1 x2 1 t32 else bd (f_X7_in x2 0 9 t32) fun x35 t36 => (if x35 = 0 then f_X7_rank_b28 x1 x2 2 t36 else f_X7_rank_b28 x1 x2 0 t36))
def f_X7_teach_b23 (x1 : Int32) (x2 : Int32) (w0 : Int32) (t0 : St) : Option (Int32 × St) :=
  bd (f_X7_holds w0 t0) fun x21 t22 => (if x21 = 0 then some (0, t22) else bd (f_X7_puts (41 + x1) x2 t22) fun x25 t26 => some ((x25 + 5), t26))
def f_X7_teach_b22 (x1 : Int32) (x2 : Int32) (t0 : St) : Option (Int32 × St) :=
  f_X7_teach_b23 x1 x2 1 t0
def f_X7_teach (x1 : Int32) (x2 : Int32) (t0 : St) : Option (Int32 × St) :=
  bd (f_X7_isCarver x1 t0) fun x28 t29 => (if x28 = 0 then f_X7_teach_b22 x1 x2 t29 else bd (f_X7_in x2 (-5) 5 t29) fun x32 t33 => (if x32 = 0 then f_X7_teach_b22 x1 x2 t33 else f_X7_teach_b23 x1 x2 0 t33))
def f_X7_set_b18 (x1 : Int32) (w0 : Int32) (t0 : St) : Option (Int32 × St) :=
  bd (f_X7_holds w0 t0) fun x21 t22 => (if x21 = 0 then some (0, t22) else bd (f_X7_puts 44 x1 t22) fun x25 t26 => some (x25, t26))
def f_X7_set (x1 : Int32) (t0 : St) : Option (Int32 × St) :=
  bd (f_X7_in x1 50 400 t0) fun x28 t29 => (if x28 = 0 then f_X7_set_b18 x1 1 t29 else f_X7_set_b18 x1 0 t29)
def f_X7_carve_b171 (K142 : Int32 → Int32 → St → Option (Int32 × St)) (y3 : Int32) (y4 : Int32) (w0 : Int32) (t0 : St) : Option (Int32 × St) :=
  gd (inB (49 + y4) 111) <| lt (sI t0 226 (tc (49 + y4)) w0) fun t22 => (if w0 = (-1) then lt (y3 + 0) fun x26 => lt (y4 + 1) fun x27 => K142 x26 x27 t22 else lt (y3 + 1) fun x24 => lt (y4 + 1) fun x25 => K142 x24 x25 t22)
def f_X7_carve_b142 (K142 : Int32 → Int32 → St → Option (Int32 × St)) (y3 : Int32) (y4 : Int32) (t0 : St) : Option (Int32 × St) :=
  (if 10 ≤ y4 then some (y3, t0) else gd (inB 0 111) <| (if (t0.1 226 (tc 0)) ≤ y4 then f_X7_carve_b171 K142 y3 y4 (-1) t0 else gd (inB y4 10) <| f_X7_carve_b171 K142 y3 y4 (t0.1 230 (tc y4)) t0))
def f_X7_carve_l142 : Nat → Int32 → Int32 → St → Option (Int32 × St)
  | 0, _, _, _ => none
  | g + 1, y3, y4, t0 => f_X7_carve_b142 (f_X7_carve_l142 g) y3 y4 t0
def f_X7_carve_b92 (x1 : Int32) (x2 : Int32) (w0 : Int32) (w1 : Int32) (t0 : St) : Option (Int32 × St) :=
  gd (inB 45 111) <| lt (sI t0 226 (tc 45) (w1 + w0)) fun t33 => gd (inB (41 + x2) 111) <| bv (f_X7_lay x1 (t33.1 226 (tc (41 + x2))) t33) fun t36 => gd (inB 46 111) <| lt (sI t36 226 (tc 46) x1) fun t39 => gd (inB 47 111) <| lt (sI t39 226 (tc 47) x2) fun t41 => gd (inB 0 111) <| gd (inB 48 111) <| lt (sI t41 226 (tc 48) (t41.1 226 (tc 0))) fun t44 => f_X7_carve_l142 FU 0 0 t44
def f_X7_carve_b35 (K35 : Int32 → Int32 → Int32 → St → Option (Int32 × St)) (x1 : Int32) (x2 : Int32) (y3 : Int32) (t0 : St) : Option (Int32 × St) :=
  (if y3 < 13 then gd (inB 45 111) <| gd (inB 45 111) <| (if 5 ≤ (t0.1 226 (tc 45)) then f_X7_carve_b92 x1 x2 0 (t0.1 226 (tc 45)) t0 else f_X7_carve_b92 x1 x2 1 (t0.1 226 (tc 45)) t0) else gd (inB ((46 + y3) - 13) 111) <| gd (inB (46 + y3) 111) <| lt (sI t0 226 (tc (46 + y3)) (t0.1 226 (tc ((46 + y3) - 13)))) fun t51 => lt (y3 + (-1)) fun x52 => K35 x1 x2 x52 t51)
def f_X7_carve_l35 : Nat → Int32 → Int32 → Int32 → St → Option (Int32 × St)
  | 0, _, _, _, _ => none
  | g + 1, x1, x2, y3, t0 => f_X7_carve_b35 (f_X7_carve_l35 g) x1 x2 y3 t0
def f_X7_carve_b20 (x1 : Int32) (x2 : Int32) (w0 : Int32) (t0 : St) : Option (Int32 × St) :=
  bd (f_X7_holds w0 t0) fun x53 t54 => (if x53 = 0 then some (0, t54) else bv (f_X7_save t54) fun t58 => f_X7_carve_l35 FU x1 x2 64 t58)
def f_X7_carve_b19 (x1 : Int32) (x2 : Int32) (t0 : St) : Option (Int32 × St) :=
  f_X7_carve_b20 x1 x2 1 t0
def f_X7_carve (x1 : Int32) (x2 : Int32) (t0 : St) : Option (Int32 × St) :=
  bd (f_X7_isYear x1 t0) fun x60 t61 => (if x60 = 0 then f_X7_carve_b19 x1 x2 t61 else bd (f_X7_isCarver x2 t61) fun x64 t65 => (if x64 = 0 then f_X7_carve_b19 x1 x2 t65 else f_X7_carve_b20 x1 x2 0 t65))
def f_X7_isStick (x1 : Int32) (t0 : St) : Option (Int32 × St) :=
  gd (inB 45 111) <| bd (f_X7_in x1 0 ((t0.1 226 (tc 45)) - 1) t0) fun x22 t23 => gd (is01 x22) <| some (x22, t23)
def f_X7_burn_b54 (K54 : Int32 → Int32 → St → Option (Int32 × St)) (y2 : Int32) (y3 : Int32) (t0 : St) : Option (Int32 × St) :=
  gd (inB 45 111) <| bd (f_X7_ofStick (t0.1 226 (tc 45)) 0 t0) fun x22 t23 => (if x22 ≤ y3 then some (y2, t23) else gd (inB (y3 + 13) 111) <| gd (inB y3 111) <| lt (sI t23 226 (tc y3) (t23.1 226 (tc (y3 + 13)))) fun t28 => lt (y3 + 1) fun x29 => K54 y2 x29 t28)
def f_X7_burn_l54 : Nat → Int32 → Int32 → St → Option (Int32 × St)
  | 0, _, _, _ => none
  | g + 1, y2, y3, t0 => f_X7_burn_b54 (f_X7_burn_l54 g) y2 y3 t0
def f_X7_burn_b14 (x1 : Int32) (w0 : Int32) (t0 : St) : Option (Int32 × St) :=
  bd (f_X7_holds w0 t0) fun x30 t31 => (if x30 = 0 then some (0, t31) else bv (f_X7_save t31) fun t35 => bd (f_X7_ofStick x1 0 t35) fun x37 t38 => gd (inB x37 111) <| lt (t38.1 226 (tc x37)) fun x41 => gd (inB 45 111) <| gd (inB 45 111) <| lt (sI t38 226 (tc 45) ((t38.1 226 (tc 45)) - 1)) fun t44 => bd (f_X7_ofStick x1 0 t44) fun x45 t46 => f_X7_burn_l54 FU x41 x45 t46)
def f_X7_burn (x1 : Int32) (t0 : St) : Option (Int32 × St) :=
  bd (f_X7_isStick x1 t0) fun x48 t49 => (if x48 = 0 then f_X7_burn_b14 x1 1 t49 else f_X7_burn_b14 x1 0 t49)
def f_X7_undo_b33 (K33 : Int32 → St → Option (Int32 × St)) (y1 : Int32) (t0 : St) : Option (Int32 × St) :=
  (if 111 ≤ y1 then some ((t0.1 225 3), t0) else gd (inB ((111 * (t0.1 225 3)) + y1) 666) <| gd (inB y1 111) <| lt (sI t0 226 (tc y1) (t0.1 227 (tc ((111 * (t0.1 225 3)) + y1)))) fun t24 => lt (y1 + 1) fun x25 => K33 x25 t24)
def f_X7_undo_l33 : Nat → Int32 → St → Option (Int32 × St)
  | 0, _, _ => none
  | g + 1, y1, t0 => f_X7_undo_b33 (f_X7_undo_l33 g) y1 t0
def f_X7_undo_b13 (w0 : Int32) (t0 : St) : Option (Int32 × St) :=
  bd (f_X7_holds w0 t0) fun x26 t27 => (if x26 = 0 then some (0, t27) else lt (sI t27 225 3 ((t27.1 225 3) - 1)) fun t30 => f_X7_undo_l33 FU 0 t30)
def f_X7_undo (t0 : St) : Option (Int32 × St) :=
  (if (t0.1 225 3) ≤ 0 then f_X7_undo_b13 1 t0 else f_X7_undo_b13 0 t0)
def f_X7_feastOn_b7 (K7 : Int32 → Int32 → St → Option (Int32 × St)) (x2 : Int32) (y3 : Int32) (t0 : St) : Option (Int32 × St) :=
  gd (inB 0 111) <| (if (t0.1 226 (tc 0)) ≤ y3 then some ((-1), t0) else bd (f_X7_settledBy y3 t0) fun x23 t24 => (if x23 = x2 then some (y3, t24) else lt (y3 + 1) fun x27 => K7 x2 x27 t24))
def f_X7_feastOn_l7 : Nat → Int32 → Int32 → St → Option (Int32 × St)
  | 0, _, _, _ => none
  | g + 1, x2, y3, t0 => f_X7_feastOn_b7 (f_X7_feastOn_l7 g) x2 y3 t0
def f_X7_feastOn (x1 : Int32) (x2 : Int32) (t0 : St) : Option (Int32 × St) :=
  bv (f_X7_layAll x1 t0) fun t29 => f_X7_feastOn_l7 FU x2 0 t29
def f_X7_aboutDay (x1 : Int32) (x2 : Int32) (x3 : Int32) (t0 : St) : Option (Int32 × St) :=
  bd (f_X7_daysOf x1 t0) fun x21 t22 => (if x2 < x21 then (if x3 = 0 then bd (f_X7_weekday x1 x2 t22) fun x34 t35 => some (x34, t35) else (if x3 = 1 then gd (inB 41 111) <| bd (f_X7_age x1 x2 (t22.1 226 (tc 41)) t22) fun x31 t32 => some (x31, t32) else bd (f_X7_feastOn x1 x2 t22) fun x27 t28 => some (x27, t28))) else some ((-1), t22))
def f_X7_day_b33 (x1 : Int32) (x2 : Int32) (x3 : Int32) (w0 : Int32) (t0 : St) : Option (Int32 × St) :=
  bd (f_X7_holds w0 t0) fun x21 t22 => (if x21 = 0 then some (0, t22) else bd (f_X7_aboutDay x1 x2 x3 t22) fun x25 t26 => some (x25, t26))
def f_X7_day_b32 (x1 : Int32) (x2 : Int32) (x3 : Int32) (t0 : St) : Option (Int32 × St) :=
  f_X7_day_b33 x1 x2 x3 1 t0
def f_X7_day (x1 : Int32) (x2 : Int32) (x3 : Int32) (t0 : St) : Option (Int32 × St) :=
  bd (f_X7_isYear x1 t0) fun x28 t29 => (if x28 = 0 then f_X7_day_b32 x1 x2 x3 t29 else bd (f_X7_in x2 0 365 t29) fun x32 t33 => (if x32 = 0 then f_X7_day_b32 x1 x2 x3 t33 else bd (f_X7_in x3 0 2 t33) fun x36 t37 => (if x36 = 0 then f_X7_day_b32 x1 x2 x3 t37 else f_X7_day_b33 x1 x2 x3 0 t37)))
def f_X7_ofFeast (x1 : Int32) (x2 : Int32) (t0 : St) : Option (Int32 × St) :=
  bd (f_X7_of x1 x2 t0) fun x21 t22 => gd (inB x21 111) <| lt (t22.1 226 (tc x21)) fun x25 => (if x2 = 2 then bd (f_X7_of x1 0 t22) fun x27 t28 => gd (inB x27 111) <| (if (t28.1 226 (tc x27)) = 3 then some ((x25 + 90), t28) else some (x25, t28)) else some (x25, t22))
def f_X7_feast_b27 (x1 : Int32) (x2 : Int32) (w0 : Int32) (t0 : St) : Option (Int32 × St) :=
  bd (f_X7_holds w0 t0) fun x21 t22 => (if x21 = 0 then some (0, t22) else bd (f_X7_ofFeast x1 x2 t22) fun x25 t26 => some (x25, t26))
def f_X7_feast (x1 : Int32) (x2 : Int32) (t0 : St) : Option (Int32 × St) :=
  bd (f_X7_isFeast x1 t0) fun x28 t29 => (if x28 = 0 then f_X7_feast_b27 x1 x2 1 t29 else bd (f_X7_in x2 0 3 t29) fun x32 t33 => (if x32 = 0 then f_X7_feast_b27 x1 x2 2 t33 else f_X7_feast_b27 x1 x2 0 t33))
def f_X7_dayOf (x1 : Int32) (x2 : Int32) (x3 : Int32) (x4 : Int32) (t0 : St) : Option (Int32 × St) :=
  gd (inB (41 + x3) 111) <| bv (f_X7_lay x2 (t0.1 226 (tc (41 + x3))) t0) fun t23 => (if x4 = 0 then gd (inB x1 10) <| some ((t23.1 230 (tc x1)), t23) else gd (inB x1 10) <| some ((t23.1 229 (tc x1)), t23))
def f_X7_when_b32 (x1 : Int32) (x2 : Int32) (x3 : Int32) (x4 : Int32) (w0 : Int32) (t0 : St) : Option (Int32 × St) :=
  bd (f_X7_holds w0 t0) fun x21 t22 => (if x21 = 0 then some (0, t22) else bd (f_X7_dayOf x1 x2 x3 x4 t22) fun x25 t26 => some (x25, t26))
def f_X7_when (x1 : Int32) (x2 : Int32) (x3 : Int32) (x4 : Int32) (t0 : St) : Option (Int32 × St) :=
  bd (f_X7_isFeast x1 t0) fun x28 t29 => (if x28 = 0 then f_X7_when_b32 x1 x2 x3 x4 1 t29 else bd (f_X7_isYear x2 t29) fun x32 t33 => (if x32 = 0 then f_X7_when_b32 x1 x2 x3 x4 2 t33 else bd (f_X7_isCarver x3 t33) fun x36 t37 => (if x36 = 0 then f_X7_when_b32 x1 x2 x3 x4 2 t37 else f_X7_when_b32 x1 x2 x3 x4 0 t37)))
def f_X7_settledOf (x1 : Int32) (x2 : Int32) (t0 : St) : Option (Int32 × St) :=
  bv (f_X7_layAll x2 t0) fun t22 => bd (f_X7_settledBy x1 t22) fun x24 t25 => some (x24, t25)
def f_X7_settled_b25 (x1 : Int32) (x2 : Int32) (w0 : Int32) (t0 : St) : Option (Int32 × St) :=
  bd (f_X7_holds w0 t0) fun x21 t22 => (if x21 = 0 then some (0, t22) else bd (f_X7_settledOf x1 x2 t22) fun x25 t26 => some (x25, t26))
def f_X7_settled (x1 : Int32) (x2 : Int32) (t0 : St) : Option (Int32 × St) :=
  bd (f_X7_isFeast x1 t0) fun x28 t29 => (if x28 = 0 then f_X7_settled_b25 x1 x2 1 t29 else bd (f_X7_isYear x2 t29) fun x32 t33 => (if x32 = 0 then f_X7_settled_b25 x1 x2 2 t33 else f_X7_settled_b25 x1 x2 0 t33))
def f_X7_quarrelsOf (x1 : Int32) (t0 : St) : Option (Int32 × St) :=
  bv (f_X7_layAll x1 t0) fun t22 => bd (f_X7_quarrelsNow t22) fun x24 t25 => some (x24, t25)
def f_X7_quarrels_b13 (x1 : Int32) (w0 : Int32) (t0 : St) : Option (Int32 × St) :=
  bd (f_X7_holds w0 t0) fun x21 t22 => (if x21 = 0 then some (0, t22) else bd (f_X7_quarrelsOf x1 t22) fun x25 t26 => some (x25, t26))
def f_X7_quarrels (x1 : Int32) (t0 : St) : Option (Int32 × St) :=
  bd (f_X7_isYear x1 t0) fun x28 t29 => (if x28 = 0 then f_X7_quarrels_b13 x1 1 t29 else f_X7_quarrels_b13 x1 0 t29)
def f_X7_staleOf_b36 (K36 : Int32 → Int32 → Int32 → St → Option (Int32 × St)) (x1 : Int32) (y2 : Int32) (y3 : Int32) (t0 : St) : Option (Int32 × St) :=
  bd (f_X7_ofStick x1 2 t0) fun x21 t22 => gd (inB x21 111) <| (if (t22.1 226 (tc x21)) ≤ y3 then some (y2, t22) else gd (inB 0 111) <| (if (t22.1 226 (tc 0)) ≤ y3 then lt (y2 + 1) fun x28 => lt (y3 + 1) fun x29 => K36 x1 x28 x29 t22 else gd (inB y3 10) <| bd (f_X7_ofStick x1 (3 + y3) t22) fun x31 t32 => gd (inB x31 111) <| (if (t22.1 230 (tc y3)) = (t32.1 226 (tc x31)) then lt (y2 + 0) fun x36 => lt (y3 + 1) fun x37 => K36 x1 x36 x37 t32 else lt (y2 + 1) fun x38 => lt (y3 + 1) fun x39 => K36 x1 x38 x39 t32)))
def f_X7_staleOf_l36 : Nat → Int32 → Int32 → Int32 → St → Option (Int32 × St)
  | 0, _, _, _, _ => none
  | g + 1, x1, y2, y3, t0 => f_X7_staleOf_b36 (f_X7_staleOf_l36 g) x1 y2 y3 t0
def f_X7_staleOf (x1 : Int32) (t0 : St) : Option (Int32 × St) :=
  bd (f_X7_ofStick x1 0 t0) fun x40 t41 => gd (inB x40 111) <| bd (f_X7_ofStick x1 1 t41) fun x44 t45 => gd (inB x44 111) <| gd (inB (41 + (t45.1 226 (tc x44))) 111) <| bv (f_X7_lay (t41.1 226 (tc x40)) (t45.1 226 (tc (41 + (t45.1 226 (tc x44))))) t45) fun t50 => f_X7_staleOf_l36 FU x1 0 0 t50
def f_X7_aboutStick_b16 (K16 : Int32 → Int32 → Int32 → Int32 → St → Option (Int32 × St)) (x1 : Int32) (x2 : Int32) (y3 : Int32) (y4 : Int32) (t0 : St) : Option (Int32 × St) :=
  (if 10 ≤ y4 then (if 2 ≤ x2 then (if x2 = 2 then some (y3, t0) else bd (f_X7_ofStick x1 (x2 - 1) t0) fun x24 t25 => gd (inB x24 111) <| some ((t25.1 226 (tc x24)), t25)) else bd (f_X7_ofStick x1 x2 t0) fun x28 t29 => gd (inB x28 111) <| some ((t29.1 226 (tc x28)), t29)) else bd (f_X7_ofStick x1 (3 + y4) t0) fun x32 t33 => gd (inB x32 111) <| (if (t33.1 226 (tc x32)) = (-1) then lt (y3 + 0) fun x39 => lt (y4 + 1) fun x40 => K16 x1 x2 x39 x40 t33 else lt (y3 + 1) fun x37 => lt (y4 + 1) fun x38 => K16 x1 x2 x37 x38 t33))
def f_X7_aboutStick_l16 : Nat → Int32 → Int32 → Int32 → Int32 → St → Option (Int32 × St)
  | 0, _, _, _, _, _ => none
  | g + 1, x1, x2, y3, y4, t0 => f_X7_aboutStick_b16 (f_X7_aboutStick_l16 g) x1 x2 y3 y4 t0
def f_X7_aboutStick (x1 : Int32) (x2 : Int32) (t0 : St) : Option (Int32 × St) :=
  (if x2 = 3 then bd (f_X7_staleOf x1 t0) fun x42 t43 => some (x42, t43) else f_X7_aboutStick_l16 FU x1 x2 0 0 t0)
def f_X7_stick_b28 (x1 : Int32) (x2 : Int32) (w0 : Int32) (t0 : St) : Option (Int32 × St) :=
  bd (f_X7_holds w0 t0) fun x21 t22 => (if x21 = 0 then some (0, t22) else bd (f_X7_aboutStick x1 x2 t22) fun x25 t26 => some (x25, t26))
def f_X7_stick (x1 : Int32) (x2 : Int32) (t0 : St) : Option (Int32 × St) :=
  bd (f_X7_isStick x1 t0) fun x28 t29 => (if x28 = 0 then f_X7_stick_b28 x1 x2 1 t29 else bd (f_X7_in x2 0 13 t29) fun x32 t33 => (if x32 = 0 then f_X7_stick_b28 x1 x2 2 t33 else f_X7_stick_b28 x1 x2 0 t33))
def f_X7_allStale_b4 (K4 : Int32 → Int32 → St → Option (Int32 × St)) (y1 : Int32) (y2 : Int32) (t0 : St) : Option (Int32 × St) :=
  gd (inB 45 111) <| (if (t0.1 226 (tc 45)) ≤ y2 then some (y1, t0) else bd (f_X7_staleOf y2 t0) fun x23 t24 => lt (y1 + x23) fun x26 => lt (y2 + 1) fun x27 => K4 x26 x27 t24)
def f_X7_allStale_l4 : Nat → Int32 → Int32 → St → Option (Int32 × St)
  | 0, _, _, _ => none
  | g + 1, y1, y2, t0 => f_X7_allStale_b4 (f_X7_allStale_l4 g) y1 y2 t0
def f_X7_allStale (t0 : St) : Option (Int32 × St) :=
  f_X7_allStale_l4 FU 0 0 t0
def f_X7_counted (x1 : Int32) (t0 : St) : Option (Int32 × St) :=
  (if x1 = 0 then gd (inB 0 111) <| some ((t0.1 226 (tc 0)), t0) else (if x1 = 1 then gd (inB 45 111) <| some ((t0.1 226 (tc 45)), t0) else (if x1 = 2 then gd (inB ((41 + x1) - 2) 111) <| some (((t0.1 226 (tc ((41 + x1) - 2))) + 5), t0) else (if x1 = 3 then gd (inB ((41 + x1) - 2) 111) <| some (((t0.1 226 (tc ((41 + x1) - 2))) + 5), t0) else (if x1 = 4 then gd (inB ((41 + x1) - 2) 111) <| some (((t0.1 226 (tc ((41 + x1) - 2))) + 5), t0) else (if x1 = 5 then gd (inB 44 111) <| some ((t0.1 226 (tc 44)), t0) else (if x1 = 6 then bd (f_X7_allStale t0) fun x34 t35 => some (x34, t35) else some ((t0.1 225 3), t0))))))))
def f_X7_count_b16 (x1 : Int32) (w0 : Int32) (t0 : St) : Option (Int32 × St) :=
  bd (f_X7_holds w0 t0) fun x21 t22 => (if x21 = 0 then some (0, t22) else bd (f_X7_counted x1 t22) fun x25 t26 => some (x25, t26))
def f_X7_count (x1 : Int32) (t0 : St) : Option (Int32 × St) :=
  bd (f_X7_in x1 0 7 t0) fun x28 t29 => (if x28 = 0 then f_X7_count_b16 x1 1 t29 else f_X7_count_b16 x1 0 t29)
def f_X7_outermost_b70 (K6 : Int32 → Int32 → Int32 → Int32 → Int32 → Int32 → St → Option (Int32 × St)) (x1 : Int32) (x2 : Int32) (x3 : Int32) (x4 : Int32) (y5 : Int32) (y6 : Int32) (y7 : Int32) (w0 : Int32) (t0 : St) : Option (Int32 × St) :=
  (if w0 = 0 then lt (y6 + 1) fun x22 => K6 x1 x2 x3 x4 y5 x22 t0 else lt (y6 + 1) fun x23 => K6 x1 x2 x3 x4 y7 x23 t0)
def f_X7_outermost_b69 (K6 : Int32 → Int32 → Int32 → Int32 → Int32 → Int32 → St → Option (Int32 × St)) (x1 : Int32) (x2 : Int32) (x3 : Int32) (x4 : Int32) (y5 : Int32) (y6 : Int32) (y7 : Int32) (t0 : St) : Option (Int32 × St) :=
  f_X7_outermost_b70 K6 x1 x2 x3 x4 y5 y6 y7 0 t0
def f_X7_outermost_b6 (K6 : Int32 → Int32 → Int32 → Int32 → Int32 → Int32 → St → Option (Int32 × St)) (x1 : Int32) (x2 : Int32) (x3 : Int32) (x4 : Int32) (y5 : Int32) (y6 : Int32) (t0 : St) : Option (Int32 × St) :=
  (if (x2 + x3) ≤ y6 then some (y5, t0) else (if 999 < y6 then some (y5, t0) else bd (f_X7_settledOf x1 y6 t0) fun x26 t27 => (if x26 = (-1) then f_X7_outermost_b69 K6 x1 x2 x3 x4 y5 y6 x26 t27 else (if y5 = (-1) then f_X7_outermost_b70 K6 x1 x2 x3 x4 y5 y6 x26 1 t27 else (if x4 = 0 then (if y5 ≤ x26 then f_X7_outermost_b69 K6 x1 x2 x3 x4 y5 y6 x26 t27 else f_X7_outermost_b70 K6 x1 x2 x3 x4 y5 y6 x26 1 t27) else (if x26 ≤ y5 then f_X7_outermost_b69 K6 x1 x2 x3 x4 y5 y6 x26 t27 else f_X7_outermost_b70 K6 x1 x2 x3 x4 y5 y6 x26 1 t27))))))
def f_X7_outermost_l6 : Nat → Int32 → Int32 → Int32 → Int32 → Int32 → Int32 → St → Option (Int32 × St)
  | 0, _, _, _, _, _, _, _ => none
  | g + 1, x1, x2, x3, x4, y5, y6, t0 => f_X7_outermost_b6 (f_X7_outermost_l6 g) x1 x2 x3 x4 y5 y6 t0
def f_X7_outermost (x1 : Int32) (x2 : Int32) (x3 : Int32) (x4 : Int32) (t0 : St) : Option (Int32 × St) :=
  f_X7_outermost_l6 FU x1 x2 x3 x4 (-1) x2 t0
def f_X7_range_b34 (x1 : Int32) (x2 : Int32) (x3 : Int32) (x4 : Int32) (w0 : Int32) (t0 : St) : Option (Int32 × St) :=
  bd (f_X7_holds w0 t0) fun x21 t22 => (if x21 = 0 then some (0, t22) else bd (f_X7_outermost x1 x2 x3 x4 t22) fun x25 t26 => some (x25, t26))
def f_X7_range (x1 : Int32) (x2 : Int32) (x3 : Int32) (x4 : Int32) (t0 : St) : Option (Int32 × St) :=
  bd (f_X7_isFeast x1 t0) fun x28 t29 => (if x28 = 0 then f_X7_range_b34 x1 x2 x3 x4 1 t29 else bd (f_X7_isYear x2 t29) fun x32 t33 => (if x32 = 0 then f_X7_range_b34 x1 x2 x3 x4 2 t33 else bd (f_X7_in x3 1 40 t33) fun x36 t37 => (if x36 = 0 then f_X7_range_b34 x1 x2 x3 x4 2 t37 else f_X7_range_b34 x1 x2 x3 x4 0 t37)))
def f_X7_nextAlike_b87 (K38 : Int32 → Int32 → St → Option (Int32 × St)) (K87 : Int32 → Int32 → Int32 → Int32 → St → Option (Int32 × St)) (x1 : Int32) (y2 : Int32) (y3 : Int32) (y4 : Int32) (t0 : St) : Option (Int32 × St) :=
  gd (inB 0 111) <| (if (t0.1 226 (tc 0)) ≤ y4 then (if y3 = 0 then lt (y2 + 1) fun x24 => K38 x1 x24 t0 else some (y2, t0)) else (if y3 = 0 then lt (y4 + 1) fun x26 => K87 x1 y2 0 x26 t0 else bd (f_X7_settledBy y4 t0) fun x27 t28 => gd (inB y4 10) <| (if x27 = (t28.1 234 (tc y4)) then lt (y4 + 1) fun x33 => K87 x1 y2 1 x33 t28 else lt (y4 + 1) fun x32 => K87 x1 y2 0 x32 t28)))
def f_X7_nextAlike_l87 (K38 : Int32 → Int32 → St → Option (Int32 × St)) : Nat → Int32 → Int32 → Int32 → Int32 → St → Option (Int32 × St)
  | 0, _, _, _, _, _ => none
  | g + 1, x1, y2, y3, y4, t0 => f_X7_nextAlike_b87 K38 (f_X7_nextAlike_l87 K38 g) x1 y2 y3 y4 t0
def f_X7_nextAlike_b38 (K38 : Int32 → Int32 → St → Option (Int32 × St)) (x1 : Int32) (y2 : Int32) (t0 : St) : Option (Int32 × St) :=
  (if (x1 + 100) < y2 then some ((-1), t0) else (if 999 < y2 then some ((-1), t0) else bd (f_X7_daysOf y2 t0) fun x36 t37 => bd (f_X7_daysOf x1 t37) fun x39 t40 => (if x36 = x39 then bd (f_X7_weekday y2 0 t40) fun x44 t45 => bd (f_X7_weekday x1 0 t45) fun x47 t48 => (if x44 = x47 then bv (f_X7_layAll y2 t48) fun t53 => f_X7_nextAlike_l87 K38 FU x1 y2 1 0 t53 else lt (y2 + 1) fun x51 => K38 x1 x51 t48) else lt (y2 + 1) fun x43 => K38 x1 x43 t40)))
def f_X7_nextAlike_l38 : Nat → Int32 → Int32 → St → Option (Int32 × St)
  | 0, _, _, _ => none
  | g + 1, x1, y2, t0 => f_X7_nextAlike_b38 (f_X7_nextAlike_l38 g) x1 y2 t0
def f_X7_nextAlike_b7 (K7 : Int32 → Int32 → St → Option (Int32 × St)) (x1 : Int32) (y2 : Int32) (t0 : St) : Option (Int32 × St) :=
  gd (inB 0 111) <| (if (t0.1 226 (tc 0)) ≤ y2 then lt (x1 + 1) fun x57 => f_X7_nextAlike_l38 FU x1 x57 t0 else bd (f_X7_settledBy y2 t0) fun x58 t59 => gd (inB y2 10) <| lt (sI t59 234 (tc y2) x58) fun t62 => lt (y2 + 1) fun x63 => K7 x1 x63 t62)
def f_X7_nextAlike_l7 : Nat → Int32 → Int32 → St → Option (Int32 × St)
  | 0, _, _, _ => none
  | g + 1, x1, y2, t0 => f_X7_nextAlike_b7 (f_X7_nextAlike_l7 g) x1 y2 t0
def f_X7_nextAlike (x1 : Int32) (t0 : St) : Option (Int32 × St) :=
  bv (f_X7_layAll x1 t0) fun t65 => f_X7_nextAlike_l7 FU x1 0 t65
def f_X7_alike_b13 (x1 : Int32) (w0 : Int32) (t0 : St) : Option (Int32 × St) :=
  bd (f_X7_holds w0 t0) fun x21 t22 => (if x21 = 0 then some (0, t22) else bd (f_X7_nextAlike x1 t22) fun x25 t26 => some (x25, t26))
def f_X7_alike (x1 : Int32) (t0 : St) : Option (Int32 × St) :=
  bd (f_X7_isYear x1 t0) fun x28 t29 => (if x28 = 0 then f_X7_alike_b13 x1 1 t29 else f_X7_alike_b13 x1 0 t29)
def f_X7_size (x0 : Int32) (t0 : St) : Option (Int32 × St) :=
  (if 0 ≤ x0 then some (x0, t0) else some ((-x0), t0))
def f_X7_bestSlip_b98 (K21 : Int32 → Int32 → Int32 → Int32 → Int32 → Int32 → St → Option (Int32 × St)) (x1 : Int32) (x2 : Int32) (y3 : Int32) (y5 : Int32) (y6 : Int32) (y7 : Int32) (y8 : Int32) (w0 : Int32) (t0 : St) : Option (Int32 × St) :=
  (if y8 = 0 then lt (y6 + 1) fun x22 => K21 x1 x2 y3 w0 y5 x22 t0 else lt (y6 + 1) fun x23 => K21 x1 x2 y3 w0 y7 x23 t0)
def f_X7_bestSlip_b84 (K21 : Int32 → Int32 → Int32 → Int32 → Int32 → Int32 → St → Option (Int32 × St)) (x1 : Int32) (x2 : Int32) (y3 : Int32) (y4 : Int32) (y5 : Int32) (y6 : Int32) (y7 : Int32) (w0 : Int32) (t0 : St) : Option (Int32 × St) :=
  (if w0 = 0 then f_X7_bestSlip_b98 K21 x1 x2 y3 y5 y6 y7 w0 y4 t0 else f_X7_bestSlip_b98 K21 x1 x2 y3 y5 y6 y7 w0 y6 t0)
def f_X7_bestSlip_b83 (K21 : Int32 → Int32 → Int32 → Int32 → Int32 → Int32 → St → Option (Int32 × St)) (x1 : Int32) (x2 : Int32) (y3 : Int32) (y4 : Int32) (y5 : Int32) (y6 : Int32) (y7 : Int32) (t0 : St) : Option (Int32 × St) :=
  f_X7_bestSlip_b84 K21 x1 x2 y3 y4 y5 y6 y7 0 t0
def f_X7_bestSlip_b21 (K21 : Int32 → Int32 → Int32 → Int32 → Int32 → Int32 → St → Option (Int32 × St)) (x1 : Int32) (x2 : Int32) (y3 : Int32) (y4 : Int32) (y5 : Int32) (y6 : Int32) (t0 : St) : Option (Int32 × St) :=
  (if 5 < y6 then gd (inB (41 + x1) 111) <| lt (sI t0 226 (tc (41 + x1)) y3) fun t27 => some ((y4 + 5), t27) else gd (inB (41 + x1) 111) <| lt (sI t0 226 (tc (41 + x1)) y6) fun t29 => bd (f_X7_quarrelsOf x2 t29) fun x30 t31 => (if y4 = (-6) then f_X7_bestSlip_b84 K21 x1 x2 y3 y4 y5 y6 x30 1 t31 else (if x30 < y5 then f_X7_bestSlip_b84 K21 x1 x2 y3 y4 y5 y6 x30 1 t31 else (if x30 = y5 then bd (f_X7_size y6 t31) fun x36 t37 => bd (f_X7_size y4 t37) fun x39 t40 => (if x39 ≤ x36 then f_X7_bestSlip_b83 K21 x1 x2 y3 y4 y5 y6 x30 t40 else f_X7_bestSlip_b84 K21 x1 x2 y3 y4 y5 y6 x30 1 t40) else f_X7_bestSlip_b83 K21 x1 x2 y3 y4 y5 y6 x30 t31))))
def f_X7_bestSlip_l21 : Nat → Int32 → Int32 → Int32 → Int32 → Int32 → Int32 → St → Option (Int32 × St)
  | 0, _, _, _, _, _, _, _ => none
  | g + 1, x1, x2, y3, y4, y5, y6, t0 => f_X7_bestSlip_b21 (f_X7_bestSlip_l21 g) x1 x2 y3 y4 y5 y6 t0
def f_X7_bestSlip (x1 : Int32) (x2 : Int32) (t0 : St) : Option (Int32 × St) :=
  gd (inB (41 + x1) 111) <| lt (t0.1 226 (tc (41 + x1))) fun x44 => f_X7_bestSlip_l21 FU x1 x2 x44 (-6) 0 (-5) t0
def f_X7_peace_b20 (x1 : Int32) (x2 : Int32) (w0 : Int32) (t0 : St) : Option (Int32 × St) :=
  bd (f_X7_holds w0 t0) fun x21 t22 => (if x21 = 0 then some (0, t22) else bd (f_X7_bestSlip x1 x2 t22) fun x25 t26 => some (x25, t26))
def f_X7_peace_b19 (x1 : Int32) (x2 : Int32) (t0 : St) : Option (Int32 × St) :=
  f_X7_peace_b20 x1 x2 1 t0
def f_X7_peace (x1 : Int32) (x2 : Int32) (t0 : St) : Option (Int32 × St) :=
  bd (f_X7_isCarver x1 t0) fun x28 t29 => (if x28 = 0 then f_X7_peace_b19 x1 x2 t29 else bd (f_X7_isYear x2 t29) fun x32 t33 => (if x32 = 0 then f_X7_peace_b19 x1 x2 t33 else f_X7_peace_b20 x1 x2 0 t33))
def f_X7_movedBy_b19 (K19 : Int32 → Int32 → St → Option (Int32 × St)) (y3 : Int32) (y4 : Int32) (t0 : St) : Option (Int32 × St) :=
  gd (inB 0 111) <| (if (t0.1 226 (tc 0)) ≤ y4 then some (y3, t0) else gd (inB y4 10) <| (if (t0.1 230 (tc y4)) = (-1) then lt (y3 + 0) fun x25 => lt (y4 + 1) fun x26 => K19 x25 x26 t0 else gd (inB y4 10) <| gd (inB y4 10) <| (if (t0.1 230 (tc y4)) = (t0.1 229 (tc y4)) then lt (y3 + 0) fun x30 => lt (y4 + 1) fun x31 => K19 x30 x31 t0 else lt (y3 + 1) fun x32 => lt (y4 + 1) fun x33 => K19 x32 x33 t0)))
def f_X7_movedBy_l19 : Nat → Int32 → Int32 → St → Option (Int32 × St)
  | 0, _, _, _ => none
  | g + 1, y3, y4, t0 => f_X7_movedBy_b19 (f_X7_movedBy_l19 g) y3 y4 t0
def f_X7_movedBy (x1 : Int32) (x2 : Int32) (t0 : St) : Option (Int32 × St) :=
  gd (inB (41 + x2) 111) <| bv (f_X7_lay x1 (t0.1 226 (tc (41 + x2))) t0) fun t36 => f_X7_movedBy_l19 FU 0 0 t36
def f_X7_moved_b20 (x1 : Int32) (x2 : Int32) (w0 : Int32) (t0 : St) : Option (Int32 × St) :=
  bd (f_X7_holds w0 t0) fun x21 t22 => (if x21 = 0 then some (0, t22) else bd (f_X7_movedBy x1 x2 t22) fun x25 t26 => some (x25, t26))
def f_X7_moved_b19 (x1 : Int32) (x2 : Int32) (t0 : St) : Option (Int32 × St) :=
  f_X7_moved_b20 x1 x2 1 t0
def f_X7_moved (x1 : Int32) (x2 : Int32) (t0 : St) : Option (Int32 × St) :=
  bd (f_X7_isYear x1 t0) fun x28 t29 => (if x28 = 0 then f_X7_moved_b19 x1 x2 t29 else bd (f_X7_isCarver x2 t29) fun x32 t33 => (if x32 = 0 then f_X7_moved_b19 x1 x2 t33 else f_X7_moved_b20 x1 x2 0 t33))
def f_X7_fresh_b4 (K4 : Int32 → Int32 → St → Option (UInt64 × St)) (y1 : Int32) (y2 : Int32) (t0 : St) : Option (UInt64 × St) :=
  gd (inB 45 111) <| (if (t0.1 226 (tc 45)) ≤ y2 then (if y1 = 0 then some (4607182418800017408, t0) else bd (f_X7_allStale t0) fun x24 t25 => gd (okd (FP.ddiv (FP.i2d (y1 - x24)) (FP.i2d y1))) <| some ((FP.ddiv (FP.i2d (y1 - x24)) (FP.i2d y1)), t25)) else bd (f_X7_ofStick y2 2 t0) fun x28 t29 => gd (inB x28 111) <| lt (y1 + (t29.1 226 (tc x28))) fun x32 => lt (y2 + 1) fun x33 => K4 x32 x33 t29)
def f_X7_fresh_l4 : Nat → Int32 → Int32 → St → Option (UInt64 × St)
  | 0, _, _, _ => none
  | g + 1, y1, y2, t0 => f_X7_fresh_b4 (f_X7_fresh_l4 g) y1 y2 t0
def f_X7_fresh (t0 : St) : Option (UInt64 × St) :=
  f_X7_fresh_l4 FU 0 0 t0
def f_X7_freshShare (t0 : St) : Option (UInt64 × St) :=
  lt (sI t0 225 0 0) fun t21 => bd (f_X7_fresh t21) fun x22 t23 => some (x22, t23)
def f_X7_bitsOf_b15 (K15 : Int64 → UInt64 → St → Option (Int64 × St)) (y2 : Int64) (y4 : UInt64) (t0 : St) : Option (Int64 × St) :=
  (if 0 ≤ (Op.cmpValue (FP.dcmp y4 4607182418800017408) CmpOp.g) then gd (okd (FP.dsub y4 4607182418800017408)) <| gd (okd (FP.dmul (FP.dsub y4 4607182418800017408) 4841369599423283200)) <| some (((y2 * 4503599627370496) + (FP.d2l (FP.dmul (FP.dsub y4 4607182418800017408) 4841369599423283200))), t0) else gd (okd (FP.dmul y4 4611686018427387904)) <| lt (FP.dmul y4 4611686018427387904) fun x25 => lt (y2 - 1) fun x26 => K15 x26 x25 t0)
def f_X7_bitsOf_l15 : Nat → Int64 → UInt64 → St → Option (Int64 × St)
  | 0, _, _, _ => none
  | g + 1, y2, y4, t0 => f_X7_bitsOf_b15 (f_X7_bitsOf_l15 g) y2 y4 t0
def f_X7_bitsOf (x0 : UInt64) (t0 : St) : Option (Int64 × St) :=
  (if (Op.cmpValue (FP.dcmp x0 0) CmpOp.l) = 0 then some (0, t0) else f_X7_bitsOf_l15 FU 1023 x0 t0)
def f_X7_digestOne (x1 : Int64) (t0 : St) : Option (St) :=
  lt (sL t0 225 ((31 * (t0.2 225)) + x1)) fun t21 => some t21
def f_X7_someYear (x0 : Int32) (t0 : St) : Option (Int32 × St) :=
  (if x0 = 0 then some (0, t0) else (if x0 = 1 then some (100, t0) else some (777, t0)))
def f_X7_digestFeast_b33 (K26 : Int32 → Int32 → St → Option (St)) (K33 : Int32 → Int32 → Int32 → St → Option (St)) (x1 : Int32) (y2 : Int32) (y3 : Int32) (t0 : St) : Option (St) :=
  (if 3 ≤ y3 then bd (f_X7_someYear y2 t0) fun x22 t23 => bd (f_X7_settledOf x1 x22 t23) fun x25 t26 => bv (f_X7_digestOne ((x25 : Int32).toInt64) t26) fun t29 => lt (y2 + 1) fun x31 => K26 x1 x31 t29 else bd (f_X7_someYear y2 t0) fun x32 t33 => bd (f_X7_dayOf x1 x32 y3 1 t33) fun x35 t36 => bv (f_X7_digestOne ((x35 : Int32).toInt64) t36) fun t39 => bd (f_X7_someYear y2 t39) fun x41 t42 => bd (f_X7_dayOf x1 x41 y3 0 t42) fun x44 t45 => bv (f_X7_digestOne ((x44 : Int32).toInt64) t45) fun t48 => lt (y3 + 1) fun x50 => K33 x1 y2 x50 t48)
def f_X7_digestFeast_l33 (K26 : Int32 → Int32 → St → Option (St)) : Nat → Int32 → Int32 → Int32 → St → Option (St)
  | 0, _, _, _, _ => none
  | g + 1, x1, y2, y3, t0 => f_X7_digestFeast_b33 K26 (f_X7_digestFeast_l33 K26 g) x1 y2 y3 t0
def f_X7_digestFeast_b26 (K26 : Int32 → Int32 → St → Option (St)) (x1 : Int32) (y2 : Int32) (t0 : St) : Option (St) :=
  (if 3 ≤ y2 then some t0 else f_X7_digestFeast_l33 K26 FU x1 y2 0 t0)
def f_X7_digestFeast_l26 : Nat → Int32 → Int32 → St → Option (St)
  | 0, _, _, _ => none
  | g + 1, x1, y2, t0 => f_X7_digestFeast_b26 (f_X7_digestFeast_l26 g) x1 y2 t0
def f_X7_digestFeast_b2 (K2 : Int32 → Int32 → St → Option (St)) (x1 : Int32) (y2 : Int32) (t0 : St) : Option (St) :=
  (if 4 ≤ y2 then f_X7_digestFeast_l26 FU x1 0 t0 else bd (f_X7_ofFeast x1 y2 t0) fun x53 t54 => bv (f_X7_digestOne ((x53 : Int32).toInt64) t54) fun t57 => lt (y2 + 1) fun x59 => K2 x1 x59 t57)
def f_X7_digestFeast_l2 : Nat → Int32 → Int32 → St → Option (St)
  | 0, _, _, _ => none
  | g + 1, x1, y2, t0 => f_X7_digestFeast_b2 (f_X7_digestFeast_l2 g) x1 y2 t0
def f_X7_digestFeast (x1 : Int32) (t0 : St) : Option (St) :=
  f_X7_digestFeast_l2 FU x1 0 t0
def f_X7_digest_b240 (K240 : Int32 → St → Option (Int64 × St)) (y1 : Int32) (t0 : St) : Option (Int64 × St) :=
  (if (t0.1 225 5) ≤ y1 then some ((t0.2 225), t0) else gd (inB y1 60) <| bv (f_X7_digestOne (((t0.1 228 (tc y1)) : Int32).toInt64) t0) fun t24 => lt (y1 + 1) fun x26 => K240 x26 t24)
def f_X7_digest_l240 : Nat → Int32 → St → Option (Int64 × St)
  | 0, _, _ => none
  | g + 1, y1, t0 => f_X7_digest_b240 (f_X7_digest_l240 g) y1 t0
def f_X7_digest_b218 (t0 : St) : Option (Int64 × St) :=
  bd (f_X7_fresh t0) fun x27 t28 => bd (f_X7_bitsOf x27 t28) fun x30 t31 => bv (f_X7_digestOne x30 t31) fun t34 => bv (f_X7_digestOne (((t34.1 225 5) : Int32).toInt64) t34) fun t37 => f_X7_digest_l240 FU 0 t37
def f_X7_digest_b127 (K114 : Int32 → St → Option (Int64 × St)) (K127 : Int32 → Int32 → St → Option (Int64 × St)) (y1 : Int32) (y2 : Int32) (t0 : St) : Option (Int64 × St) :=
  (if 14 ≤ y2 then lt (y1 + 1) fun x40 => K114 x40 t0 else bd (f_X7_aboutStick y1 y2 t0) fun x41 t42 => bv (f_X7_digestOne ((x41 : Int32).toInt64) t42) fun t45 => lt (y2 + 1) fun x47 => K127 y1 x47 t45)
def f_X7_digest_l127 (K114 : Int32 → St → Option (Int64 × St)) : Nat → Int32 → Int32 → St → Option (Int64 × St)
  | 0, _, _, _ => none
  | g + 1, y1, y2, t0 => f_X7_digest_b127 K114 (f_X7_digest_l127 K114 g) y1 y2 t0
def f_X7_digest_b114 (K114 : Int32 → St → Option (Int64 × St)) (y1 : Int32) (t0 : St) : Option (Int64 × St) :=
  gd (inB 45 111) <| (if (t0.1 226 (tc 45)) ≤ y1 then bd (f_X7_nextAlike 20 t0) fun x50 t51 => bv (f_X7_digestOne ((x50 : Int32).toInt64) t51) fun t54 => bd (f_X7_bestSlip 1 100 t54) fun x56 t57 => bv (f_X7_digestOne ((x56 : Int32).toInt64) t57) fun t60 => gd (inB 0 111) <| (if (t60.1 226 (tc 0)) ≤ 0 then f_X7_digest_b218 t60 else bd (f_X7_outermost 0 50 20 0 t60) fun x64 t65 => bv (f_X7_digestOne ((x64 : Int32).toInt64) t65) fun t68 => bd (f_X7_outermost 0 50 20 1 t68) fun x70 t71 => bv (f_X7_digestOne ((x70 : Int32).toInt64) t71) fun t74 => f_X7_digest_b218 t74) else f_X7_digest_l127 K114 FU y1 0 t0)
def f_X7_digest_l114 : Nat → Int32 → St → Option (Int64 × St)
  | 0, _, _ => none
  | g + 1, y1, t0 => f_X7_digest_b114 (f_X7_digest_l114 g) y1 t0
def f_X7_digest_b81 (K61 : Int32 → St → Option (Int64 × St)) (K81 : Int32 → Int32 → St → Option (Int64 × St)) (y1 : Int32) (y2 : Int32) (t0 : St) : Option (Int64 × St) :=
  (if 3 ≤ y2 then lt (y1 + 1) fun x77 => K61 x77 t0 else bd (f_X7_someYear y1 t0) fun x78 t79 => bd (f_X7_movedBy x78 y2 t79) fun x81 t82 => bv (f_X7_digestOne ((x81 : Int32).toInt64) t82) fun t85 => lt (y2 + 1) fun x87 => K81 y1 x87 t85)
def f_X7_digest_l81 (K61 : Int32 → St → Option (Int64 × St)) : Nat → Int32 → Int32 → St → Option (Int64 × St)
  | 0, _, _, _ => none
  | g + 1, y1, y2, t0 => f_X7_digest_b81 K61 (f_X7_digest_l81 K61 g) y1 y2 t0
def f_X7_digest_b61 (K61 : Int32 → St → Option (Int64 × St)) (y1 : Int32) (t0 : St) : Option (Int64 × St) :=
  (if 3 ≤ y1 then f_X7_digest_l114 FU 0 t0 else bd (f_X7_someYear y1 t0) fun x89 t90 => bd (f_X7_quarrelsOf x89 t90) fun x92 t93 => bv (f_X7_digestOne ((x92 : Int32).toInt64) t93) fun t96 => f_X7_digest_l81 K61 FU y1 0 t96)
def f_X7_digest_l61 : Nat → Int32 → St → Option (Int64 × St)
  | 0, _, _ => none
  | g + 1, y1, t0 => f_X7_digest_b61 (f_X7_digest_l61 g) y1 t0
def f_X7_digest_b38 (K38 : Int32 → St → Option (Int64 × St)) (y1 : Int32) (t0 : St) : Option (Int64 × St) :=
  gd (inB 0 111) <| (if (t0.1 226 (tc 0)) ≤ y1 then f_X7_digest_l61 FU 0 t0 else bv (f_X7_digestFeast y1 t0) fun t101 => lt (y1 + 1) fun x103 => K38 x103 t101)
def f_X7_digest_l38 : Nat → Int32 → St → Option (Int64 × St)
  | 0, _, _ => none
  | g + 1, y1, t0 => f_X7_digest_b38 (f_X7_digest_l38 g) y1 t0
def f_X7_digest_b14 (K14 : Int32 → St → Option (Int64 × St)) (y1 : Int32) (t0 : St) : Option (Int64 × St) :=
  (if 8 ≤ y1 then f_X7_digest_l38 FU 0 t0 else bd (f_X7_counted y1 t0) fun x105 t106 => bv (f_X7_digestOne ((x105 : Int32).toInt64) t106) fun t109 => lt (y1 + 1) fun x111 => K14 x111 t109)
def f_X7_digest_l14 : Nat → Int32 → St → Option (Int64 × St)
  | 0, _, _ => none
  | g + 1, y1, t0 => f_X7_digest_b14 (f_X7_digest_l14 g) y1 t0
def f_X7_digest (t0 : St) : Option (Int64 × St) :=
  lt (sI t0 225 0 0) fun t112 => lt (sL t112 225 2953) fun t113 => f_X7_digest_l14 FU 0 t113
