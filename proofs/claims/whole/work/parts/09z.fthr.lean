def f_X6_proclaim (t0 : St) : Option (Ex (Int32 × St)) :=
  bd (f_X6_bufferTellsFeasts t0) fun x21 t22 => (if x21 = 0 then some (Sum.inl (exA, t22)) else bv (f_X1_save 1 t22) fun t26 => bd (f_X6_addBufferedFeasts t26) fun x28 t29 => lt (sI t29 0 8 0) fun t31 => some (Sum.inr (x28, t31)))
def f_X6_forget (t0 : St) : Option (Ex (Int32 × St)) :=
  (if 0 < (t0.1 1 0) then bv (f_X1_save 1 t0) fun t23 => lt (sI t23 1 0 ((t23.1 1 0) - 1)) fun t25 => some (Sum.inr ((t25.1 1 0), t25)) else some (Sum.inl (exS, t0)))
def f_X6_needFeast (x1 : Int32) (t0 : St) : Option (Ex St) :=
  (if x1 < 0 then some (Sum.inl (exI, t0)) else (if x1 < (t0.1 1 0) then some (Sum.inr t0) else some (Sum.inl (exI, t0))))
def f_X6_needWithin (x0 : Int32) (x1 : Int32) (x2 : Int32) (t0 : St) : Option (Ex St) :=
  (if x0 < x1 then some (Sum.inl (exA, t0)) else (if x0 ≤ x2 then some (Sum.inr t0) else some (Sum.inl (exA, t0))))
def f_X6_rank (x1 : Int32) (x2 : Int32) (t0 : St) : Option (Ex (Int32 × St)) :=
  bx (f_X6_needFeast x1 t0) fun t22 => bx (f_X6_needWithin x2 0 9 t22) fun t27 => bv (f_X1_save 1 t27) fun t32 => bd (f_X4_at 4 x1 t32) fun x34 t35 => bv (f_X4_put 4 x1 x2 t35) fun t38 => some (Sum.inr (x34, t38))
def f_X6_needCarver (x0 : Int32) (t0 : St) : Option (Ex St) :=
  bx (f_X6_needWithin x0 0 2 t0) fun t22 => some (Sum.inr t22)
def f_X6_teach (x1 : Int32) (x2 : Int32) (t0 : St) : Option (Ex (Int32 × St)) :=
  bx (f_X6_needCarver x1 t0) fun t22 => bx (f_X6_needWithin x2 (-5) 5 t22) fun t27 => bv (f_X1_save 1 t27) fun t32 => bd (f_X4_at 10 x1 t32) fun x34 t35 => bv (f_X4_put 10 x1 x2 t35) fun t38 => some (Sum.inr ((x34 + 5), t38))
def f_X6_needYear (x0 : Int32) (t0 : St) : Option (Ex St) :=
  bx (f_X6_needWithin x0 0 999 t0) fun t22 => some (Sum.inr t22)
def f_X6_carve (x1 : Int32) (x2 : Int32) (t0 : St) : Option (Ex (Int32 × St)) :=
  bx (f_X6_needYear x1 t0) fun t22 => bx (f_X6_needCarver x2 t22) fun t27 => bv (f_X1_save 1 t27) fun t32 => bd (f_X4_at 10 x2 t32) fun x34 t35 => bv (f_X3_reckon 139 1 x1 x34 t35) fun t38 => bv (f_X5_addStick 1 x1 x2 142 t38) fun t41 => bd (f_X5_notchesOfStick 1 0 t41) fun x43 t44 => some (Sum.inr (x43, t44))
def f_X6_needStick (x1 : Int32) (t0 : St) : Option (Ex St) :=
  (if x1 < 0 then some (Sum.inl (exI, t0)) else (if x1 < (t0.1 1 7) then some (Sum.inr t0) else some (Sum.inl (exI, t0))))
def f_X6_burn (x1 : Int32) (t0 : St) : Option (Ex (Int32 × St)) :=
  bx (f_X6_needStick x1 t0) fun t22 => bv (f_X1_save 1 t22) fun t27 => bd (f_X4_at 12 x1 t27) fun x29 t30 => bv (f_X5_dropStick 1 x1 t30) fun t33 => some (Sum.inr (x29, t33))
def f_X6_set (x1 : Int32) (t0 : St) : Option (Ex (Int32 × St)) :=
  bx (f_X6_needWithin x1 50 400 t0) fun t22 => bv (f_X1_save 1 t22) fun t27 => lt (t27.1 1 6) fun x29 => lt (sI t27 1 6 x1) fun t30 => some (Sum.inr (x29, t30))
def f_X6_append (x1 : Int32) (t0 : St) : Option (Ex (Int32 × St)) :=
  bx (f_X6_needWithin x1 33 126 t0) fun t22 => (if (t22.1 0 8) < 60 then bv (f_X4_put 136 (t22.1 0 8) x1 t22) fun t28 => lt (sI t28 0 8 ((t28.1 0 8) + 1)) fun t30 => some (Sum.inr ((t30.1 0 8), t30)) else some (Sum.inl (exS, t22)))
def f_X6_undo (t0 : St) : Option (Ex (Int32 × St)) :=
  bd (f_X1_isEmpty t0) fun x21 t22 => (if x21 = 0 then bv (f_X1_restoreInto 1 t22) fun t26 => bd (f_X1_size t26) fun x28 t29 => some (Sum.inr (x28, t29)) else some (Sum.inl (exS, t22)))
def f_X6_day (x1 : Int32) (x2 : Int32) (x3 : Int32) (t0 : St) : Option (Ex (Int32 × St)) :=
  bx (f_X6_needYear x1 t0) fun t22 => bx (f_X6_needWithin x2 0 365 t22) fun t27 => bx (f_X6_needWithin x3 0 2 t27) fun t32 => bd (f_X6_daysIn x1 t32) fun x36 t37 => (if x2 < x36 then (if x3 = 0 then bd (f_X6_newYearWeekday x1 t37) fun x41 t42 => some (Sum.inr ((rm (x41 + x2) 7), t42)) else (if x3 = 1 then bd (f_X4_at 10 0 t37) fun x45 t46 => bd (f_X6_moonShift x1 x45 (t46.1 1 6) t46) fun x48 t49 => bd (f_X6_moonAge x48 x2 t49) fun x51 t52 => some (Sum.inr (x51, t52)) else bd (f_X6_lowestFeastOn x1 x2 t37) fun x54 t55 => some (Sum.inr (x54, t55)))) else some (Sum.inr ((-1), t37)))
def f_X6_feast (x1 : Int32) (x2 : Int32) (t0 : St) : Option (Ex (Int32 × St)) :=
  bx (f_X6_needFeast x1 t0) fun t22 => bx (f_X6_needWithin x2 0 3 t22) fun t27 => bd (f_X6_feastProperty x1 x2 t27) fun x31 t32 => some (Sum.inr (x31, t32))
def f_X6_when (x1 : Int32) (x2 : Int32) (x3 : Int32) (x4 : Int32) (t0 : St) : Option (Ex (Int32 × St)) :=
  bx (f_X6_needFeast x1 t0) fun t22 => bx (f_X6_needYear x2 t22) fun t27 => bx (f_X6_needCarver x3 t27) fun t32 => bd (f_X4_at 10 x3 t32) fun x36 t37 => bv (f_X3_reckon 139 1 x2 x36 t37) fun t40 => (if x4 = 0 then bd (f_X4_at 142 x1 t40) fun x43 t44 => some (Sum.inr (x43, t44)) else bd (f_X4_at 140 x1 t40) fun x46 t47 => some (Sum.inr (x46, t47)))
def f_X6_settled (x1 : Int32) (x2 : Int32) (t0 : St) : Option (Ex (Int32 × St)) :=
  bx (f_X6_needFeast x1 t0) fun t22 => bx (f_X6_needYear x2 t22) fun t27 => bv (f_X0_gather 144 1 x2 t27) fun t32 => bd (f_X0_settledNotch 144 x1 t32) fun x34 t35 => some (Sum.inr (x34, t35))
def f_X6_quarrels (x1 : Int32) (t0 : St) : Option (Ex (Int32 × St)) :=
  bx (f_X6_needYear x1 t0) fun t22 => bv (f_X0_gather 144 1 x1 t22) fun t27 => bd (f_X0_quarrelCount 144 (t27.1 1 0) t27) fun x29 t30 => some (Sum.inr (x29, t30))
def f_X6_stick (x1 : Int32) (x2 : Int32) (t0 : St) : Option (Ex (Int32 × St)) :=
  bx (f_X6_needStick x1 t0) fun t22 => bx (f_X6_needWithin x2 0 13 t22) fun t27 => bd (f_X6_stickProperty x1 x2 t27) fun x31 t32 => some (Sum.inr (x31, t32))
def f_X6_count (x1 : Int32) (t0 : St) : Option (Ex (Int32 × St)) :=
  bx (f_X6_needWithin x1 0 7 t0) fun t22 => bd (f_X6_numberOf x1 t22) fun x26 t27 => some (Sum.inr (x26, t27))
def f_X6_range (x1 : Int32) (x2 : Int32) (x3 : Int32) (x4 : Int32) (t0 : St) : Option (Ex (Int32 × St)) :=
  bx (f_X6_needFeast x1 t0) fun t22 => bx (f_X6_needYear x2 t22) fun t27 => bx (f_X6_needWithin x3 1 40 t27) fun t32 => bd (f_X6_outermost x1 x2 x3 x4 t32) fun x36 t37 => some (Sum.inr (x36, t37))
def f_X6_alike (x1 : Int32) (t0 : St) : Option (Ex (Int32 × St)) :=
  bx (f_X6_needYear x1 t0) fun t22 => bd (f_X6_nextAlike x1 t22) fun x26 t27 => some (Sum.inr (x26, t27))
def f_X6_peace (x1 : Int32) (x2 : Int32) (t0 : St) : Option (Ex (Int32 × St)) :=
  bx (f_X6_needCarver x1 t0) fun t22 => bx (f_X6_needYear x2 t22) fun t27 => bd (f_X6_calmestSlip x1 x2 t27) fun x31 t32 => some (Sum.inr ((x31 + 5), t32))
def f_X6_moved (x1 : Int32) (x2 : Int32) (t0 : St) : Option (Ex (Int32 × St)) :=
  bx (f_X6_needYear x1 t0) fun t22 => bx (f_X6_needCarver x2 t22) fun t27 => bd (f_X4_at 10 x2 t27) fun x31 t32 => bv (f_X3_reckon 139 1 x1 x31 t32) fun t35 => bd (f_X3_movedCount 139 (t35.1 1 0) t35) fun x37 t38 => some (Sum.inr (x37, t38))
