/-! the reference reads a feast; its first way through the buffer -/
theorem PS.le {len : Nat} {b : Nat → Int} {σ : St} (h : WS len b σ) : ∃ e, PS σ e 1 ∧ e ≤ len ∧ WR len b e := by
  obtain ⟨e, h1, h2⟩ := h
  obtain ⟨q, h3, h4, h5⟩ := id h2
  exact ⟨e, h1, h4, h2⟩
section PR
variable {len : Nat} {b : Nat → Int} {σ : St}
theorem b183_w {e : Nat} {y w : Int32} (hB : BR σ len b) (hT : TX len b) (hP : PS σ e 1) (he : e ≤ len) : ∃ τ, f_X7_read_b183 y w σ = some τ ∧ FP σ τ ∧ PS τ e 1 := by
  obtain ⟨σ1, v, x1, x2, x3⟩ := number_w (x := iI 90) hB hT hP he
  have B1 := hB.fp x2.fp
  unfold f_X7_read_b183
  by_cases c : y = iI 0
  · have F2 : FP σ1 (sI σ1 233 2 v) := FP.s33
    obtain ⟨τ, y1, y2, y3⟩ := b258_w (B1.fp F2) hT x3.s33 he
    refine ⟨τ, ?_, (x2.fp.tr F2).tr y2, y3⟩
    simp only [iI_lit, c]
    simp (disch := omega) only [iI_lit, ofNat_iI, iI_add, iI_sub, iI_mul, iI_neg, iI_lt_t, iI_lt_f, iI_le_t, iI_le_f, iI_eq_t, iI_eq_f, iI_div, rm_iI, tc_iI, inB_iI, nz_iI, is01_0, is01_1, gd_tt, bd_mk, bv_mk, oc_mk, lt_mk, Bool.false_eq_true, ↓reduceIte, Int.reduceToNat, x1, y1]
  · have F2 : FP σ1 (sI σ1 233 2 (-v)) := FP.s33
    obtain ⟨τ, y1, y2, y3⟩ := b258_w (B1.fp F2) hT x3.s33 he
    refine ⟨τ, ?_, (x2.fp.tr F2).tr y2, y3⟩
    simp only [iI_lit]
    rw [if_neg c]
    simp (disch := omega) only [iI_lit, ofNat_iI, iI_add, iI_sub, iI_mul, iI_neg, iI_lt_t, iI_lt_f, iI_le_t, iI_le_f, iI_eq_t, iI_eq_f, iI_div, rm_iI, tc_iI, inB_iI, nz_iI, is01_0, is01_1, gd_tt, bd_mk, bv_mk, oc_mk, lt_mk, Bool.false_eq_true, ↓reduceIte, Int.reduceToNat, x1, y1]
theorem b122_w {e : Nat} {y w : Int32} (hB : BR σ len b) (hT : TX len b) (hP : PS σ e 1) (he : e ≤ len) : ∃ τ, f_X7_read_b122 y w σ = some τ ∧ FP σ τ ∧ PS τ e 1 := by
  obtain ⟨σ1, hσ1⟩ : ∃ σ1, σ1 = sI (sI σ 233 0 w) 233 3 (iI (-1)) := ⟨_, rfl⟩
  have F1 : FP σ σ1 := by rw [hσ1]; exact FP.s33.tr FP.s33
  have P1 : PS σ1 e 1 := by rw [hσ1]; exact hP.s33.s33
  have B1 := hB.fp F1
  unfold f_X7_read_b122
  by_cases c : y = iI 97
  · obtain ⟨σ2, v, x1, x2, x3⟩ := sign_w (lo := iI 48) (hi := iI 57) B1 hT P1 he
    obtain ⟨σ3, hσ3⟩ : ∃ σ3, σ3 = sI σ2 233 3 (v - iI 48) := ⟨_, rfl⟩
    have F3 : FP σ2 σ3 := by rw [hσ3]; exact FP.s33
    have P3 : PS σ3 e 1 := by rw [hσ3]; exact x3.s33
    have B3 := (B1.fp x2.fp).fp F3
    have n1 := isNext_w (c := iI 45) P3
    obtain ⟨σ4, u, y1, y2, y3⟩ := sign_w (lo := iI 43) (hi := iI 43) B3 hT P3 he
    obtain ⟨τ, z1, z2, z3⟩ := b183_w (y := iI 0) (w := u) (B3.fp y2.fp) hT y3 he
    refine ⟨τ, ?_, (((F1.tr x2.fp).tr F3).tr y2.fp).tr z2, z3⟩
    simp only [iI_lit, iI_neg, c]
    simp (disch := omega) only [iI_lit, ofNat_iI, iI_add, iI_sub, iI_mul, iI_neg, iI_lt_t, iI_lt_f, iI_le_t, iI_le_f, iI_eq_t, iI_eq_f, iI_div, rm_iI, tc_iI, inB_iI, nz_iI, is01_0, is01_1, gd_tt, bd_mk, bv_mk, oc_mk, lt_mk, Bool.false_eq_true, ↓reduceIte, Int.reduceToNat, ← hσ1, x1, ← hσ3, n1, y1, z1]
  · obtain ⟨σ2, v, x1, x2, x3⟩ := number_w (x := iI 365) B1 hT P1 he
    obtain ⟨σ3, hσ3⟩ : ∃ σ3, σ3 = sI σ2 233 2 v := ⟨_, rfl⟩
    have F3 : FP σ2 σ3 := by rw [hσ3]; exact FP.s33
    have P3 : PS σ3 e 1 := by rw [hσ3]; exact x3.s33
    have B3 := (B1.fp x2.fp).fp F3
    by_cases c2 : y = iI 100
    · obtain ⟨τ, z1, z2, z3⟩ := b258_w B3 hT P3 he
      refine ⟨τ, ?_, ((F1.tr x2.fp).tr F3).tr z2, z3⟩
      subst c2
      simp (disch := omega) only [iI_lit, ofNat_iI, iI_add, iI_sub, iI_mul, iI_neg, iI_lt_t, iI_lt_f, iI_le_t, iI_le_f, iI_eq_t, iI_eq_f, iI_div, rm_iI, tc_iI, inB_iI, nz_iI, is01_0, is01_1, gd_tt, bd_mk, bv_mk, oc_mk, lt_mk, Bool.false_eq_true, ↓reduceIte, Int.reduceToNat, ← hσ1, x1, ← hσ3, z1]
    · obtain ⟨σ4, u, y1, y2, y3⟩ := sign_w (lo := iI 44) (hi := iI 44) B3 hT P3 he
      obtain ⟨σ5, t, w1, w2, w3⟩ := sign_w (lo := iI 48) (hi := iI 54) (B3.fp y2.fp) hT y3 he
      obtain ⟨σ6, hσ6⟩ : ∃ σ6, σ6 = sI σ5 233 3 (t - iI 48) := ⟨_, rfl⟩
      have F6 : FP σ5 σ6 := by rw [hσ6]; exact FP.s33
      have P6 : PS σ6 e 1 := by rw [hσ6]; exact w3.s33
      obtain ⟨τ, z1, z2, z3⟩ := b258_w (((B3.fp y2.fp).fp w2.fp).fp F6) hT P6 he
      refine ⟨τ, ?_, (((((F1.tr x2.fp).tr F3).tr y2.fp).tr w2.fp).tr F6).tr z2, z3⟩
      simp only [iI_lit, iI_neg, c, c2, ↓reduceIte]
      simp (disch := omega) only [iI_lit, ofNat_iI, iI_add, iI_sub, iI_mul, iI_neg, iI_lt_t, iI_lt_f, iI_le_t, iI_le_f, iI_eq_t, iI_eq_f, iI_div, rm_iI, tc_iI, inB_iI, nz_iI, is01_0, is01_1, gd_tt, bd_mk, bv_mk, oc_mk, lt_mk, Bool.false_eq_true, ↓reduceIte, Int.reduceToNat, ← hσ1, x1, ← hσ3, y1, w1, ← hσ6, z1]
/-- behind the letter a -/
theorem b183_v {i i0 : Nat} {m o : Int} {w : Int32} (hm : m = 0 ∨ m = 1) (hB : BR σ len b) (hT : TX len b) (hP : PS σ i 0) (hi' : i ≤ len) (hN : NS b i0 i) (hq : rch b i = some (3, 3, 0, m, o, 0)) (t0 : σ.1 233 0 = iI 3) (t3 : σ.1 233 3 = iI o) : ∃ τ, f_X7_read_b183 (iI m) w σ = some τ ∧ FP σ τ ∧ (WS len b τ ∨ DN len b i0 τ) := by
  obtain ⟨σ1, v, x1, x2, x3⟩ := number_v hB hT hP hi' hN hq
  rw [show mst 3 = 90 from rfl] at x1
  have B1 := hB.fp x2.fp
  have c233 : σ1.1 233 = σ.1 233 := x2.1 233 (by omega)
  rcases x3 with x3 | ⟨e, n, p1, p2, p3, p4, p5, p6⟩
  · obtain ⟨e, p1, p2, p3⟩ := PS.le x3
    unfold f_X7_read_b183
    rcases hm with c | c
    · have F2 : FP σ1 (sI σ1 233 2 v) := FP.s33
      obtain ⟨τ, y1, y2, y3⟩ := b258_w (B1.fp F2) hT p1.s33 p2
      refine ⟨τ, ?_, (x2.fp.tr F2).tr y2, .inl ⟨e, y3, p3⟩⟩
      simp (disch := omega) only [iI_lit, ofNat_iI, iI_add, iI_sub, iI_mul, iI_neg, iI_lt_t, iI_lt_f, iI_le_t, iI_le_f, iI_eq_t, iI_eq_f, iI_div, rm_iI, tc_iI, inB_iI, nz_iI, is01_0, is01_1, gd_tt, bd_mk, bv_mk, oc_mk, lt_mk, Bool.false_eq_true, ↓reduceIte, Int.reduceToNat, c, x1, y1]
    · have F2 : FP σ1 (sI σ1 233 2 (-v)) := FP.s33
      obtain ⟨τ, y1, y2, y3⟩ := b258_w (B1.fp F2) hT p1.s33 p2
      refine ⟨τ, ?_, (x2.fp.tr F2).tr y2, .inl ⟨e, y3, p3⟩⟩
      simp (disch := omega) only [iI_lit, ofNat_iI, iI_add, iI_sub, iI_mul, iI_neg, iI_lt_t, iI_lt_f, iI_le_t, iI_le_f, iI_eq_t, iI_eq_f, iI_div, rm_iI, tc_iI, inB_iI, nz_iI, is01_0, is01_1, gd_tt, bd_mk, bv_mk, oc_mk, lt_mk, Bool.false_eq_true, ↓reduceIte, Int.reduceToNat, c, x1, y1]
  · have hE : mayE (4, 3, n, m, o, 0) := .inr (.inr ⟨rfl, by simp only; omega⟩)
    have hrd : e < len → rd (4, 3, n, m, o, 0) (b e) = bhd (4, 3, n, m, o, 0) (b e) := fun h => by
      rw [show rd (4, 3, n, m, o, 0) (b e) = (if (48 ≤ b e ∧ b e ≤ 57) ∧ n ≠ 0 ∧ n * 10 + b e - 48 ≤ mst 3 then some (4, 3, n * 10 + b e - 48, m, o, 0) else if (3 : Int) = 1 ∨ (3 : Int) = 2 then (if b e = 44 then some (5, 3, n, m, o, 0) else none) else bhd (4, 3, n, m, o, 0) (b e)) from rfl]
      rw [if_neg (p6 h), if_neg (by omega)]
    obtain ⟨σ2, hσ2⟩ : ∃ σ2, σ2 = sI σ1 233 2 (iI (if m = 0 then n else -n)) := ⟨_, rfl⟩
    have F2 : FP σ1 σ2 := by rw [hσ2]; exact FP.s33
    obtain ⟨τ, y1, y2, y3⟩ := b258_v (i0 := i0) (B1.fp F2) hT (by rw [hσ2]; exact p1.s33) p4 p5 p3 hE hrd (by rw [hσ2, sI_k (by omega), c233]; exact t0) (by rw [hσ2, sI_hit]) (by rw [hσ2, sI_k (by omega), c233]; exact t3)
    refine ⟨τ, ?_, (x2.fp.tr F2).tr y2, y3⟩
    unfold f_X7_read_b183
    rcases hm with c | c
    · rw [if_pos c] at hσ2
      simp (disch := omega) only [iI_lit, ofNat_iI, iI_add, iI_sub, iI_mul, iI_neg, iI_lt_t, iI_lt_f, iI_le_t, iI_le_f, iI_eq_t, iI_eq_f, iI_div, rm_iI, tc_iI, inB_iI, nz_iI, is01_0, is01_1, gd_tt, bd_mk, bv_mk, oc_mk, lt_mk, Bool.false_eq_true, ↓reduceIte, Int.reduceToNat, c, x1, p2, ← hσ2, y1]
    · rw [if_neg (by omega)] at hσ2
      simp (disch := omega) only [iI_lit, ofNat_iI, iI_add, iI_sub, iI_mul, iI_neg, iI_lt_t, iI_lt_f, iI_le_t, iI_le_f, iI_eq_t, iI_eq_f, iI_div, rm_iI, tc_iI, inB_iI, nz_iI, is01_0, is01_1, gd_tt, bd_mk, bv_mk, oc_mk, lt_mk, Bool.false_eq_true, ↓reduceIte, Int.reduceToNat, c, x1, p2, ← hσ2, y1]
theorem b122_a {i i0 : Nat} (hB : BR σ len b) (hT : TX len b) (hP : PS σ i 0) (hi' : i ≤ len) (hN : NS b i0 i) (hq : rch b i = some (1, 3, 0, 0, -1, 0)) : ∃ τ, f_X7_read_b122 (iI 97) (iI 3) σ = some τ ∧ FP σ τ ∧ (WS len b τ ∨ DN len b i0 τ) := by
  obtain ⟨σ1, hσ1⟩ : ∃ σ1, σ1 = sI (sI σ 233 0 (iI 3)) 233 3 (iI (-1)) := ⟨_, rfl⟩
  have F1 : FP σ σ1 := by rw [hσ1]; exact FP.s33.tr FP.s33
  have P1 : PS σ1 i 0 := by rw [hσ1]; exact hP.s33.s33
  have B1 := hB.fp F1
  have u0 : σ1.1 233 0 = iI 3 := by rw [hσ1, sI_k (by omega), sI_hit]
  have hl := hT.1
  unfold f_X7_read_b122
  by_cases c1 : i < len ∧ (48 ≤ b i ∧ b i ≤ 57)
  · obtain ⟨σ2, x1, x2, x3⟩ := sign_ok (lo := 48) (hi := 57) B1 hT P1 c1.1 c1.2 (by omega) (by omega)
    have q1 : rch b (i + 1) = some (2, 3, 0, 0, b i - 48, 0) := by rw [rch_s hq]; exact if_pos c1.2
    obtain ⟨σ3, hσ3⟩ : ∃ σ3, σ3 = sI σ2 233 3 (iI (b i - 48)) := ⟨_, rfl⟩
    have F3 : FP σ2 σ3 := by rw [hσ3]; exact FP.s33
    have P3 : PS σ3 (i + 1) 0 := by rw [hσ3]; exact x3.s33
    have B3 := (B1.fp x2.fp).fp F3
    have v0 : σ3.1 233 0 = iI 3 := by rw [hσ3, sI_k (by omega), x2.1 233 (by omega)]; exact u0
    have v3 : σ3.1 233 3 = iI (b i - 48) := by rw [hσ3, sI_hit]
    have N1 := hN.s (show b i ≠ 59 by omega)
    by_cases c2 : i + 1 < len ∧ b (i + 1) = 45
    · have n1 := isNext_t B3 hT P3 c2.1 c2.2
      obtain ⟨σ4, y1, y2, y3⟩ := sign_ok (lo := 45) (hi := 45) B3 hT P3 c2.1 (by omega) (by omega) (by omega)
      have q2 : rch b (i + 1 + 1) = some (3, 3, 0, 1, b i - 48, 0) := by rw [rch_s q1, c2.2]; exact rfl
      obtain ⟨τ, z1, z2, z3⟩ := b183_v (m := 1) (w := iI (b (i + 1))) (i0 := i0) (.inr rfl) (B3.fp y2.fp) hT y3 (by omega) (N1.s (by omega)) q2 (by rw [y2.1 233 (by omega)]; exact v0) (by rw [y2.1 233 (by omega)]; exact v3)
      refine ⟨τ, ?_, (((F1.tr x2.fp).tr F3).tr y2.fp).tr z2, z3⟩
      simp (disch := omega) only [iI_lit, ofNat_iI, iI_add, iI_sub, iI_mul, iI_neg, iI_lt_t, iI_lt_f, iI_le_t, iI_le_f, iI_eq_t, iI_eq_f, iI_div, rm_iI, tc_iI, inB_iI, nz_iI, is01_0, is01_1, gd_tt, bd_mk, bv_mk, oc_mk, lt_mk, Bool.false_eq_true, ↓reduceIte, Int.reduceToNat, ← hσ1, x1, ← hσ3, n1, y1, z1]
    · have n1 := isNext_f (c := 45) B3 hT P3 (by omega) (fun h q => c2 ⟨h, q⟩) (by omega)
      by_cases c3 : i + 1 < len ∧ b (i + 1) = 43
      · obtain ⟨σ4, y1, y2, y3⟩ := sign_ok (lo := 43) (hi := 43) B3 hT P3 c3.1 (by omega) (by omega) (by omega)
        have q2 : rch b (i + 1 + 1) = some (3, 3, 0, 0, b i - 48, 0) := by rw [rch_s q1, c3.2]; exact rfl
        obtain ⟨τ, z1, z2, z3⟩ := b183_v (m := 0) (w := iI (b (i + 1))) (i0 := i0) (.inl rfl) (B3.fp y2.fp) hT y3 (by omega) (N1.s (by omega)) q2 (by rw [y2.1 233 (by omega)]; exact v0) (by rw [y2.1 233 (by omega)]; exact v3)
        refine ⟨τ, ?_, (((F1.tr x2.fp).tr F3).tr y2.fp).tr z2, z3⟩
        simp (disch := omega) only [iI_lit, ofNat_iI, iI_add, iI_sub, iI_mul, iI_neg, iI_lt_t, iI_lt_f, iI_le_t, iI_le_f, iI_eq_t, iI_eq_f, iI_div, rm_iI, tc_iI, inB_iI, nz_iI, is01_0, is01_1, gd_tt, bd_mk, bv_mk, oc_mk, lt_mk, Bool.false_eq_true, ↓reduceIte, Int.reduceToNat, ← hσ1, x1, ← hσ3, n1, y1, z1]
      · obtain ⟨σ4, u, y1, y2, y3⟩ := sign_no (lo := 43) (hi := 43) B3 hT P3 (by omega) (fun h q => c3 ⟨h, by omega⟩) (by omega) (by omega) (by omega) (by omega)
        obtain ⟨τ, z1, z2, z3⟩ := b183_w (y := iI 0) (w := u) (B3.fp y2.fp) hT y3 (by omega)
        refine ⟨τ, ?_, (((F1.tr x2.fp).tr F3).tr y2.fp).tr z2, .inl ⟨i + 1, z3, _, q1, by omega, ?_⟩⟩
        · simp (disch := omega) only [iI_lit, ofNat_iI, iI_add, iI_sub, iI_mul, iI_neg, iI_lt_t, iI_lt_f, iI_le_t, iI_le_f, iI_eq_t, iI_eq_f, iI_div, rm_iI, tc_iI, inB_iI, nz_iI, is01_0, is01_1, gd_tt, bd_mk, bv_mk, oc_mk, lt_mk, Bool.false_eq_true, ↓reduceIte, Int.reduceToNat, ← hσ1, x1, ← hσ3, n1, y1, z1]
        · by_cases c4 : i + 1 = len
          · refine .inl ⟨c4, ?_⟩
            unfold mayE; simp only; omega
          · refine .inr ⟨by omega, ?_⟩
            rw [show rd (2, 3, 0, 0, b i - 48, 0) (b (i + 1)) = (if b (i + 1) = 43 then some (3, 3, 0, 0, b i - 48, 0) else if b (i + 1) = 45 then some (3, 3, 0, 1, b i - 48, 0) else none) from rfl]
            rw [if_neg (fun q => c3 ⟨by omega, q⟩), if_neg (fun q => c2 ⟨by omega, q⟩)]
  · obtain ⟨σ2, v, x1, x2, x3⟩ := sign_no (lo := 48) (hi := 57) B1 hT P1 hi' (fun h q => c1 ⟨h, q⟩) (by omega) (by omega) (by omega) (by omega)
    obtain ⟨σ3, hσ3⟩ : ∃ σ3, σ3 = sI σ2 233 3 (v - iI 48) := ⟨_, rfl⟩
    have F3 : FP σ2 σ3 := by rw [hσ3]; exact FP.s33
    have P3 : PS σ3 i 1 := by rw [hσ3]; exact x3.s33
    have B3 := (B1.fp x2.fp).fp F3
    have n1 := isNext_w (c := iI 45) P3
    obtain ⟨σ4, u, y1, y2, y3⟩ := sign_w (lo := iI 43) (hi := iI 43) B3 hT P3 hi'
    obtain ⟨τ, z1, z2, z3⟩ := b183_w (y := iI 0) (w := u) (B3.fp y2.fp) hT y3 hi'
    refine ⟨τ, ?_, (((F1.tr x2.fp).tr F3).tr y2.fp).tr z2, .inl ⟨i, z3, _, hq, hi', ?_⟩⟩
    · simp (disch := omega) only [iI_lit, ofNat_iI, iI_add, iI_sub, iI_mul, iI_neg, iI_lt_t, iI_lt_f, iI_le_t, iI_le_f, iI_eq_t, iI_eq_f, iI_div, rm_iI, tc_iI, inB_iI, nz_iI, is01_0, is01_1, gd_tt, bd_mk, bv_mk, oc_mk, lt_mk, Bool.false_eq_true, ↓reduceIte, Int.reduceToNat, ← hσ1, x1, ← hσ3, n1, y1, z1]
    · by_cases c4 : i = len
      · refine .inl ⟨c4, ?_⟩
        unfold mayE; simp only; omega
      · exact .inr ⟨by omega, if_neg (fun q => c1 ⟨by omega, q⟩)⟩
/-- behind d, w and m -/
theorem b122_n {i i0 : Nat} {y r : Int} (hy : (y = 100 ∧ r = 0) ∨ (y = 119 ∧ r = 1) ∨ (y = 109 ∧ r = 2)) (hB : BR σ len b) (hT : TX len b) (hP : PS σ i 0) (hi' : i ≤ len) (hN : NS b i0 i) (hq : rch b i = some (3, r, 0, 0, -1, 0)) : ∃ τ, f_X7_read_b122 (iI y) (iI r) σ = some τ ∧ FP σ τ ∧ (WS len b τ ∨ DN len b i0 τ) := by
  obtain ⟨σ1, hσ1⟩ : ∃ σ1, σ1 = sI (sI σ 233 0 (iI r)) 233 3 (iI (-1)) := ⟨_, rfl⟩
  have F1 : FP σ σ1 := by rw [hσ1]; exact FP.s33.tr FP.s33
  have P1 : PS σ1 i 0 := by rw [hσ1]; exact hP.s33.s33
  have B1 := hB.fp F1
  have u0 : σ1.1 233 0 = iI r := by rw [hσ1, sI_k (by omega), sI_hit]
  have u3 : σ1.1 233 3 = iI (-1) := by rw [hσ1, sI_hit]
  have hl := hT.1
  have hms : mst r = 365 := by unfold mst; rw [if_neg (by omega)]
  obtain ⟨σ2, v, x1, x2, x3⟩ := number_v B1 hT P1 hi' hN hq
  rw [hms] at x1
  obtain ⟨σ3, hσ3⟩ : ∃ σ3, σ3 = sI σ2 233 2 v := ⟨_, rfl⟩
  have F3 : FP σ2 σ3 := by rw [hσ3]; exact FP.s33
  have B3 := (B1.fp x2.fp).fp F3
  have v0 : σ3.1 233 0 = iI r := by rw [hσ3, sI_k (by omega), x2.1 233 (by omega)]; exact u0
  have v3 : σ3.1 233 3 = iI (-1) := by rw [hσ3, sI_k (by omega), x2.1 233 (by omega)]; exact u3
  have v2 : σ3.1 233 2 = v := by rw [hσ3, sI_hit]
  unfold f_X7_read_b122
  rcases x3 with x3 | ⟨e, n, p1, p2, p3, p4, p5, p6⟩
  · obtain ⟨e, p1, p2, p3⟩ := PS.le x3
    have P3 : PS σ3 e 1 := by rw [hσ3]; exact p1.s33
    by_cases c2 : y = 100
    · obtain ⟨τ, z1, z2, z3⟩ := b258_w B3 hT P3 p2
      refine ⟨τ, ?_, ((F1.tr x2.fp).tr F3).tr z2, .inl ⟨e, z3, p3⟩⟩
      simp (disch := omega) only [iI_lit, ofNat_iI, iI_add, iI_sub, iI_mul, iI_neg, iI_lt_t, iI_lt_f, iI_le_t, iI_le_f, iI_eq_t, iI_eq_f, iI_div, rm_iI, tc_iI, inB_iI, nz_iI, is01_0, is01_1, gd_tt, bd_mk, bv_mk, oc_mk, lt_mk, Bool.false_eq_true, ↓reduceIte, Int.reduceToNat, ← hσ1, x1, ← hσ3, z1]
    · obtain ⟨σ4, u, y1, y2, y3⟩ := sign_w (lo := iI 44) (hi := iI 44) B3 hT P3 p2
      obtain ⟨σ5, t, w1, w2, w3⟩ := sign_w (lo := iI 48) (hi := iI 54) (B3.fp y2.fp) hT y3 p2
      obtain ⟨σ6, hσ6⟩ : ∃ σ6, σ6 = sI σ5 233 3 (t - iI 48) := ⟨_, rfl⟩
      have F6 : FP σ5 σ6 := by rw [hσ6]; exact FP.s33
      have P6 : PS σ6 e 1 := by rw [hσ6]; exact w3.s33
      obtain ⟨τ, z1, z2, z3⟩ := b258_w (((B3.fp y2.fp).fp w2.fp).fp F6) hT P6 p2
      refine ⟨τ, ?_, (((((F1.tr x2.fp).tr F3).tr y2.fp).tr w2.fp).tr F6).tr z2, .inl ⟨e, z3, p3⟩⟩
      simp (disch := omega) only [iI_lit, ofNat_iI, iI_add, iI_sub, iI_mul, iI_neg, iI_lt_t, iI_lt_f, iI_le_t, iI_le_f, iI_eq_t, iI_eq_f, iI_div, rm_iI, tc_iI, inB_iI, nz_iI, is01_0, is01_1, gd_tt, bd_mk, bv_mk, oc_mk, lt_mk, Bool.false_eq_true, ↓reduceIte, Int.reduceToNat, ← hσ1, x1, ← hσ3, y1, w1, ← hσ6, z1]
  · have P3 : PS σ3 e 0 := by rw [hσ3]; exact p1.s33
    have rn : rd (4, r, n, 0, -1, 0) (b e) = (if (48 ≤ b e ∧ b e ≤ 57) ∧ n ≠ 0 ∧ n * 10 + b e - 48 ≤ mst r then some (4, r, n * 10 + b e - 48, 0, -1, 0) else if r = 1 ∨ r = 2 then (if b e = 44 then some (5, r, n, 0, -1, 0) else none) else bhd (4, r, n, 0, -1, 0) (b e)) := rfl
    by_cases c2 : y = 100
    · have hr : r = 0 := by omega
      have hE : mayE (4, r, n, 0, -1, 0) := .inr (.inr ⟨rfl, by simp only; omega⟩)
      obtain ⟨τ, z1, z2, z3⟩ := b258_v (i0 := i0) B3 hT P3 p4 p5 p3 hE (fun h => by rw [rn, if_neg (p6 h), if_neg (by omega)]) v0 (by rw [if_pos rfl, v2, p2]) v3
      refine ⟨τ, ?_, ((F1.tr x2.fp).tr F3).tr z2, z3⟩
      simp (disch := omega) only [iI_lit, ofNat_iI, iI_add, iI_sub, iI_mul, iI_neg, iI_lt_t, iI_lt_f, iI_le_t, iI_le_f, iI_eq_t, iI_eq_f, iI_div, rm_iI, tc_iI, inB_iI, nz_iI, is01_0, is01_1, gd_tt, bd_mk, bv_mk, oc_mk, lt_mk, Bool.false_eq_true, ↓reduceIte, Int.reduceToNat, ← hσ1, x1, ← hσ3, z1]
    · have hr : r = 1 ∨ r = 2 := by omega
      by_cases c3 : e < len ∧ b e = 44
      · obtain ⟨σ4, y1, y2, y3⟩ := sign_ok (lo := 44) (hi := 44) B3 hT P3 c3.1 (by omega) (by omega) (by omega)
        have q1 : rch b (e + 1) = some (5, r, n, 0, -1, 0) := by rw [rch_s p3, rn, if_neg (p6 c3.1), if_pos hr, if_pos c3.2]
        have N1 := p5.s (show b e ≠ 59 by omega)
        have B4 := B3.fp y2.fp
        by_cases c4 : e + 1 < len ∧ (48 ≤ b (e + 1) ∧ b (e + 1) ≤ 54)
        · obtain ⟨σ5, w1, w2, w3⟩ := sign_ok (lo := 48) (hi := 54) B4 hT y3 c4.1 c4.2 (by omega) (by omega)
          have q2 : rch b (e + 1 + 1) = some (6, r, n, 0, b (e + 1) - 48, 0) := by rw [rch_s q1]; exact if_pos c4.2
          obtain ⟨σ6, hσ6⟩ : ∃ σ6, σ6 = sI σ5 233 3 (iI (b (e + 1) - 48)) := ⟨_, rfl⟩
          have F6 : FP σ5 σ6 := by rw [hσ6]; exact FP.s33
          have P6 : PS σ6 (e + 1 + 1) 0 := by rw [hσ6]; exact w3.s33
          obtain ⟨τ, z1, z2, z3⟩ := b258_v (i0 := i0) ((B4.fp w2.fp).fp F6) hT P6 (by omega) (N1.s (by omega)) q2 (.inl rfl) (fun h => rfl) (by rw [hσ6, sI_k (by omega), w2.1 233 (by omega), y2.1 233 (by omega)]; exact v0) (by rw [if_pos rfl, hσ6, sI_k (by omega), w2.1 233 (by omega), y2.1 233 (by omega), v2, p2]) (by rw [hσ6, sI_hit])
          refine ⟨τ, ?_, (((((F1.tr x2.fp).tr F3).tr y2.fp).tr w2.fp).tr F6).tr z2, z3⟩
          simp (disch := omega) only [iI_lit, ofNat_iI, iI_add, iI_sub, iI_mul, iI_neg, iI_lt_t, iI_lt_f, iI_le_t, iI_le_f, iI_eq_t, iI_eq_f, iI_div, rm_iI, tc_iI, inB_iI, nz_iI, is01_0, is01_1, gd_tt, bd_mk, bv_mk, oc_mk, lt_mk, Bool.false_eq_true, ↓reduceIte, Int.reduceToNat, ← hσ1, x1, ← hσ3, y1, w1, ← hσ6, z1]
        · obtain ⟨σ5, t, w1, w2, w3⟩ := sign_no (lo := 48) (hi := 54) B4 hT y3 (by omega) (fun h q => c4 ⟨h, q⟩) (by omega) (by omega) (by omega) (by omega)
          obtain ⟨σ6, hσ6⟩ : ∃ σ6, σ6 = sI σ5 233 3 (t - iI 48) := ⟨_, rfl⟩
          have F6 : FP σ5 σ6 := by rw [hσ6]; exact FP.s33
          have P6 : PS σ6 (e + 1) 1 := by rw [hσ6]; exact w3.s33
          obtain ⟨τ, z1, z2, z3⟩ := b258_w ((B4.fp w2.fp).fp F6) hT P6 (by omega)
          refine ⟨τ, ?_, (((((F1.tr x2.fp).tr F3).tr y2.fp).tr w2.fp).tr F6).tr z2, .inl ⟨e + 1, z3, _, q1, by omega, ?_⟩⟩
          · simp (disch := omega) only [iI_lit, ofNat_iI, iI_add, iI_sub, iI_mul, iI_neg, iI_lt_t, iI_lt_f, iI_le_t, iI_le_f, iI_eq_t, iI_eq_f, iI_div, rm_iI, tc_iI, inB_iI, nz_iI, is01_0, is01_1, gd_tt, bd_mk, bv_mk, oc_mk, lt_mk, Bool.false_eq_true, ↓reduceIte, Int.reduceToNat, ← hσ1, x1, ← hσ3, y1, w1, ← hσ6, z1]
          · by_cases c5 : e + 1 = len
            · refine .inl ⟨c5, ?_⟩
              unfold mayE; simp only; omega
            · exact .inr ⟨by omega, if_neg (fun q => c4 ⟨by omega, q⟩)⟩
      · obtain ⟨σ4, u, y1, y2, y3⟩ := sign_no (lo := 44) (hi := 44) B3 hT P3 p4 (fun h q => c3 ⟨h, by omega⟩) (by omega) (by omega) (by omega) (by omega)
        obtain ⟨σ5, t, w1, w2, w3⟩ := sign_w (lo := iI 48) (hi := iI 54) (B3.fp y2.fp) hT y3 p4
        obtain ⟨σ6, hσ6⟩ : ∃ σ6, σ6 = sI σ5 233 3 (t - iI 48) := ⟨_, rfl⟩
        have F6 : FP σ5 σ6 := by rw [hσ6]; exact FP.s33
        have P6 : PS σ6 e 1 := by rw [hσ6]; exact w3.s33
        obtain ⟨τ, z1, z2, z3⟩ := b258_w (((B3.fp y2.fp).fp w2.fp).fp F6) hT P6 p4
        refine ⟨τ, ?_, (((((F1.tr x2.fp).tr F3).tr y2.fp).tr w2.fp).tr F6).tr z2, .inl ⟨e, z3, _, p3, p4, ?_⟩⟩
        · simp (disch := omega) only [iI_lit, ofNat_iI, iI_add, iI_sub, iI_mul, iI_neg, iI_lt_t, iI_lt_f, iI_le_t, iI_le_f, iI_eq_t, iI_eq_f, iI_div, rm_iI, tc_iI, inB_iI, nz_iI, is01_0, is01_1, gd_tt, bd_mk, bv_mk, oc_mk, lt_mk, Bool.false_eq_true, ↓reduceIte, Int.reduceToNat, ← hσ1, x1, ← hσ3, y1, w1, ← hσ6, z1]
        · by_cases c5 : e = len
          · refine .inl ⟨c5, ?_⟩
            unfold mayE; simp only; omega
          · have h5 : e < len := by omega
            exact .inr ⟨h5, by rw [rn, if_neg (p6 h5), if_pos hr, if_neg (fun q => c3 ⟨h5, q⟩)]⟩
theorem read_v {i : Nat} (hB : BR σ len b) (hT : TX len b) (hP : PS σ i 0) (hi' : i ≤ len) (hq : rch b i = some q0) : ∃ τ, f_X7_read σ = some τ ∧ FP σ τ ∧ (WS len b τ ∨ DN len b i τ) := by
  obtain ⟨p1, p2⟩ := id hP
  have r := hB.1
  have hl := hT.1
  have e1 : (i : Int) + 1 = ((i + 1 : Nat) : Int) := by omega
  have e0 : ((i : Int)).toNat = i := by omega
  -- the two ways on
  obtain ⟨σ1, hσ1⟩ : ∃ σ1, σ1 = sI (sI σ 225 11 (iI 0)) 225 10 (iI ((i + 1 : Nat) : Int)) := ⟨_, rfl⟩
  have F1 : FP σ σ1 := by rw [hσ1]; exact (FS.s11.tr FS.s10).fp
  have P1 : PS σ1 (i + 1) 0 := by rw [hσ1]; exact ⟨sI_hit _ _ _ _, by rw [sI_k (by omega), sI_hit]⟩
  have B1 := hB.fp F1
  obtain ⟨σ2, hσ2⟩ : ∃ σ2, σ2 = sI (sI σ 225 11 (iI 1)) 225 10 (iI (i : Int)) := ⟨_, rfl⟩
  have F2 : FP σ σ2 := by rw [hσ2]; exact (FS.s11.tr FS.s10).fp
  have P2 : PS σ2 i 1 := by rw [hσ2]; exact ⟨sI_hit _ _ _ _, by rw [sI_k (by omega), sI_hit]⟩
  have B2 := hB.fp F2
  have z1 : (sI σ 225 11 (iI 0)).1 225 10 = iI (i : Int) := by rw [sI_k (by omega)]; exact p1
  have z2 : (sI σ 225 11 (iI 1)).1 225 10 = iI (i : Int) := by rw [sI_k (by omega)]; exact p1
  have rq : ∀ c, rd q0 c = (if c = 97 then some (1, 3, 0, 0, -1, 0) else if c = 100 then some (3, 0, 0, 0, -1, 0) else if c = 109 then some (3, 2, 0, 0, -1, 0) else if c = 119 then some (3, 1, 0, 0, -1, 0) else none) := fun c => rfl
  have hW : (i < len → b i ≠ 97 ∧ b i ≠ 100 ∧ b i ≠ 109 ∧ b i ≠ 119) → WR len b i := by
    intro h
    refine ⟨q0, hq, hi', ?_⟩
    by_cases c : i = len
    · refine .inl ⟨c, ?_⟩
      unfold mayE q0; simp only; omega
    · obtain ⟨h1, h2, h3, h4⟩ := h (by omega)
      exact .inr ⟨by omega, by rw [rq, if_neg h1, if_neg h2, if_neg h3, if_neg h4]⟩
  have N0 : NS b i i := ⟨Nat.le_refl _, fun x h1 h2 => by omega⟩
  unfold f_X7_read
  by_cases c : len ≤ i
  · obtain ⟨τ, x1, x2, x3⟩ := b122_w (y := iI 0) (w := iI 3) B2 hT P2 hi'
    refine ⟨τ, ?_, F2.tr x2, .inl ⟨i, x3, hW (fun h => by omega)⟩⟩
    unfold f_X7_read_b24 f_X7_read_b62 f_X7_read_b82
    simp (disch := omega) only [iI_lit, ofNat_iI, iI_add, iI_sub, iI_mul, iI_neg, iI_lt_t, iI_lt_f, iI_le_t, iI_le_f, iI_eq_t, iI_eq_f, iI_div, rm_iI, tc_iI, inB_iI, nz_iI, is01_0, is01_1, gd_tt, bd_mk, bv_mk, oc_mk, lt_mk, Bool.false_eq_true, ↓reduceIte, r, p1, p2, sI_hit, z2, Int.add_zero, ← hσ2, x1]
  · have hi2 : i < len := by omega
    have r2 := hB.2 i hi2
    have ht := hT.2 i hi2
    by_cases c1 : b i = 97
    · have q1 : rch b (i + 1) = some (1, 3, 0, 0, -1, 0) := by rw [rch_s hq, rq, if_pos c1]
      obtain ⟨τ, x1, x2, x3⟩ := b122_a (i0 := i) B1 hT P1 (by omega) (N0.s (by omega)) q1
      refine ⟨τ, ?_, F1.tr x2, x3⟩
      unfold f_X7_read_b24 f_X7_read_b61 f_X7_read_b62 f_X7_read_b82
      simp (disch := omega) only [iI_lit, ofNat_iI, iI_add, iI_sub, iI_mul, iI_neg, iI_lt_t, iI_lt_f, iI_le_t, iI_le_f, iI_eq_t, iI_eq_f, iI_div, rm_iI, tc_iI, inB_iI, nz_iI, is01_0, is01_1, gd_tt, bd_mk, bv_mk, oc_mk, lt_mk, Bool.false_eq_true, ↓reduceIte, r, p1, p2, e0, r2, c1, sI_hit, z1, e1, ← hσ1, x1]
    · by_cases c2 : b i = 100
      · have q1 : rch b (i + 1) = some (3, 0, 0, 0, -1, 0) := by rw [rch_s hq, rq, if_neg c1, if_pos c2]
        obtain ⟨τ, x1, x2, x3⟩ := b122_n (i0 := i) (y := 100) (r := 0) (by omega) B1 hT P1 (by omega) (N0.s (by omega)) q1
        refine ⟨τ, ?_, F1.tr x2, x3⟩
        unfold f_X7_read_b24 f_X7_read_b61 f_X7_read_b62 f_X7_read_b82
        simp (disch := omega) only [iI_lit, ofNat_iI, iI_add, iI_sub, iI_mul, iI_neg, iI_lt_t, iI_lt_f, iI_le_t, iI_le_f, iI_eq_t, iI_eq_f, iI_div, rm_iI, tc_iI, inB_iI, nz_iI, is01_0, is01_1, gd_tt, bd_mk, bv_mk, oc_mk, lt_mk, Bool.false_eq_true, ↓reduceIte, r, p1, p2, e0, r2, c2, sI_hit, z1, e1, ← hσ1, x1]
      · by_cases c3 : b i = 109
        · have q1 : rch b (i + 1) = some (3, 2, 0, 0, -1, 0) := by rw [rch_s hq, rq, if_neg c1, if_neg c2, if_pos c3]
          obtain ⟨τ, x1, x2, x3⟩ := b122_n (i0 := i) (y := 109) (r := 2) (by omega) B1 hT P1 (by omega) (N0.s (by omega)) q1
          refine ⟨τ, ?_, F1.tr x2, x3⟩
          unfold f_X7_read_b24 f_X7_read_b61 f_X7_read_b62 f_X7_read_b82
          simp (disch := omega) only [iI_lit, ofNat_iI, iI_add, iI_sub, iI_mul, iI_neg, iI_lt_t, iI_lt_f, iI_le_t, iI_le_f, iI_eq_t, iI_eq_f, iI_div, rm_iI, tc_iI, inB_iI, nz_iI, is01_0, is01_1, gd_tt, bd_mk, bv_mk, oc_mk, lt_mk, Bool.false_eq_true, ↓reduceIte, r, p1, p2, e0, r2, c3, sI_hit, z1, e1, ← hσ1, x1]
        · by_cases c4 : b i = 119
          · have q1 : rch b (i + 1) = some (3, 1, 0, 0, -1, 0) := by rw [rch_s hq, rq, if_neg c1, if_neg c2, if_neg c3, if_pos c4]
            obtain ⟨τ, x1, x2, x3⟩ := b122_n (i0 := i) (y := 119) (r := 1) (by omega) B1 hT P1 (by omega) (N0.s (by omega)) q1
            refine ⟨τ, ?_, F1.tr x2, x3⟩
            unfold f_X7_read_b24 f_X7_read_b61 f_X7_read_b62 f_X7_read_b82
            simp (disch := omega) only [iI_lit, ofNat_iI, iI_add, iI_sub, iI_mul, iI_neg, iI_lt_t, iI_lt_f, iI_le_t, iI_le_f, iI_eq_t, iI_eq_f, iI_div, rm_iI, tc_iI, inB_iI, nz_iI, is01_0, is01_1, gd_tt, bd_mk, bv_mk, oc_mk, lt_mk, Bool.false_eq_true, ↓reduceIte, r, p1, p2, e0, r2, c4, sI_hit, z1, e1, ← hσ1, x1]
          · obtain ⟨τ, x1, x2, x3⟩ := b122_w (y := iI (b i)) (w := iI 3) B2 hT P2 hi'
            refine ⟨τ, ?_, F2.tr x2, .inl ⟨i, x3, hW (fun h => ⟨c1, c2, c3, c4⟩)⟩⟩
            unfold f_X7_read_b24 f_X7_read_b62 f_X7_read_b82
            simp (disch := omega) only [iI_lit, ofNat_iI, iI_add, iI_sub, iI_mul, iI_neg, iI_lt_t, iI_lt_f, iI_le_t, iI_le_f, iI_eq_t, iI_eq_f, iI_div, rm_iI, tc_iI, inB_iI, nz_iI, is01_0, is01_1, gd_tt, bd_mk, bv_mk, oc_mk, lt_mk, Bool.false_eq_true, ↓reduceIte, r, p1, p2, e0, r2, sI_hit, z2, Int.add_zero, ← hσ2, x1]
/-- the first way through: where the text is wrong, if it is -/
theorem go0_v (hB : BR σ len b) (hT : TX len b) : ∃ τ, f_X7_go (iI 0) σ = some (iI 0, τ) ∧ FP σ τ ∧ ((PS τ len 0 ∧ ∃ q, rch b len = some q ∧ mayE q) ∨ WS len b τ) := by
  obtain ⟨σ1, hσ1⟩ : ∃ σ1, σ1 = sI (sI σ 225 10 (iI 0)) 225 11 (iI 0) := ⟨_, rfl⟩
  have F1 : FP σ σ1 := by rw [hσ1]; exact (FS.s10.tr FS.s11).fp
  have P1 : PS σ1 0 0 := by rw [hσ1]; exact ⟨by rw [sI_k (by omega), sI_hit]; rfl, sI_hit _ _ _ _⟩
  have hl := hT.1
  obtain ⟨τ, ⟨h1, h2⟩, h3⟩ := wlp (F := fun g (s : Int × Nat × St) => f_X7_go_l14 g (iI 0) (iI 0) (iI s.1) s.2.2) (X := fun τ => some (iI 0, τ)) (fun s => if s.1 = 0 then 0 else len - s.2.1 + 1) (fun s => FP σ s.2.2 ∧ ((s.1 = 0 ∧ ((PS s.2.2 len 0 ∧ ∃ q, rch b len = some q ∧ mayE q) ∨ WS len b s.2.2)) ∨ (s.1 = 1 ∧ PS s.2.2 s.2.1 0 ∧ rch b s.2.1 = some q0 ∧ s.2.1 ≤ len))) (fun τ => FP σ τ ∧ ((PS τ len 0 ∧ ∃ q, rch b len = some q ∧ mayE q) ∨ WS len b τ)) (by
    rintro g ⟨f, i, τ⟩ ⟨hF, hc⟩
    simp only at hF hc
    rcases hc with ⟨c1, hc⟩ | ⟨c1, z1, z2, z3⟩
    · refine .inl ⟨τ, ⟨hF, hc⟩, ?_⟩
      show f_X7_go_b14 _ _ _ _ _ = some (iI 0, τ)
      unfold f_X7_go_b14
      simp (disch := omega) only [iI_lit, ofNat_iI, iI_add, iI_sub, iI_mul, iI_neg, iI_lt_t, iI_lt_f, iI_le_t, iI_le_f, iI_eq_t, iI_eq_f, iI_div, rm_iI, tc_iI, inB_iI, nz_iI, is01_0, is01_1, gd_tt, bd_mk, bv_mk, oc_mk, lt_mk, Bool.false_eq_true, ↓reduceIte, c1]
    · right
      have tB := hB.fp hF
      obtain ⟨υ, x1, x2, x3⟩ := read_v tB hT z1 z3 z2
      have uB := tB.fp x2
      rcases x3 with x3 | ⟨e, q, y1, y2, y3, y4, y5, y6, -⟩
      · have x3' := x3
        obtain ⟨e, w1, w2⟩ := x3
        refine ⟨(0, i, υ), ⟨hF.tr x2, .inl ⟨rfl, .inr x3'⟩⟩, by simp only [c1]; simp, ?_⟩
        have p2 := w1.2
        show f_X7_go_b14 _ _ _ _ _ = _
        unfold f_X7_go_b14 f_X7_go_b37 f_X7_go_b38 f_X7_go_b51 f_X7_go_b84 f_X7_go_b85
        simp (disch := omega) only [iI_lit, ofNat_iI, iI_add, iI_sub, iI_mul, iI_neg, iI_lt_t, iI_lt_f, iI_le_t, iI_le_f, iI_eq_t, iI_eq_f, iI_div, rm_iI, tc_iI, inB_iI, nz_iI, is01_0, is01_1, gd_tt, bd_mk, bv_mk, oc_mk, lt_mk, Bool.false_eq_true, ↓reduceIte, c1, x1, p2, Int.add_zero]
      · obtain ⟨p1, p2⟩ := id y1
        have r := uB.1
        by_cases c2 : len ≤ e
        · have he : e = len := by omega
          rw [he] at y1 y2
          refine ⟨(0, i, υ), ⟨hF.tr x2, .inl ⟨rfl, .inl ⟨y1, q, y2, y5⟩⟩⟩, by simp only [c1]; simp, ?_⟩
          show f_X7_go_b14 _ _ _ _ _ = _
          unfold f_X7_go_b14 f_X7_go_b37 f_X7_go_b38 f_X7_go_b51 f_X7_go_b69 f_X7_go_b84 f_X7_go_b85
          simp (disch := omega) only [iI_lit, ofNat_iI, iI_add, iI_sub, iI_mul, iI_neg, iI_lt_t, iI_lt_f, iI_le_t, iI_le_f, iI_eq_t, iI_eq_f, iI_div, rm_iI, tc_iI, inB_iI, nz_iI, is01_0, is01_1, gd_tt, bd_mk, bv_mk, oc_mk, lt_mk, Bool.false_eq_true, ↓reduceIte, c1, x1, p1, p2, r, Int.add_zero]
        · have he : e < len := by omega
          have hei : i ≤ e := y4.1
          by_cases c3 : b e = 59
          · obtain ⟨ω, w1, w2, w3⟩ := sign_ok (lo := 59) (hi := 59) uB hT y1 he (by omega) (by omega) (by omega)
            have q1 : rch b (e + 1) = some q0 := by
              rw [rch_s y2, c3]
              have hb := RB_x (rch_RB y2)
              obtain ⟨p, r, n, m, o, k⟩ := q
              unfold mayE at y5
              simp only at y5
              rcases y5 with rfl | rfl | ⟨rfl, h⟩
              · rfl
              · rfl
              · rw [show rd (4, r, n, m, o, k) 59 = (if (48 ≤ (59 : Int) ∧ (59 : Int) ≤ 57) ∧ n ≠ 0 ∧ n * 10 + 59 - 48 ≤ mst r then some (4, r, n * 10 + 59 - 48, m, o, k) else if r = 1 ∨ r = 2 then (if (59 : Int) = 44 then some (5, r, n, m, o, k) else none) else bhd (4, r, n, m, o, k) 59) from rfl]
                rw [if_neg (by omega), if_neg h]
                rfl
            have v2 := w3.2
            refine ⟨(1, e + 1, ω), ⟨(hF.tr x2).tr w2.fp, .inr ⟨rfl, w3, q1, by simp only; omega⟩⟩, by simp only [c1]; simp; omega, ?_⟩
            show f_X7_go_b14 _ _ _ _ _ = _
            unfold f_X7_go_b14 f_X7_go_b37 f_X7_go_b38 f_X7_go_b51 f_X7_go_b69 f_X7_go_b85
            simp (disch := omega) only [iI_lit, ofNat_iI, iI_add, iI_sub, iI_mul, iI_neg, iI_lt_t, iI_lt_f, iI_le_t, iI_le_f, iI_eq_t, iI_eq_f, iI_div, rm_iI, tc_iI, inB_iI, nz_iI, is01_0, is01_1, gd_tt, bd_mk, bv_mk, oc_mk, lt_mk, Bool.false_eq_true, ↓reduceIte, c1, x1, p1, p2, r, Int.add_zero, w1, v2]
          · obtain ⟨ω, v, w1, w2, w3⟩ := sign_no (lo := 59) (hi := 59) uB hT y1 y3 (fun h q => c3 (by omega)) (by omega) (by omega) (by omega) (by omega)
            have v2 := w3.2
            refine ⟨(0, i, ω), ⟨(hF.tr x2).tr w2.fp, .inl ⟨rfl, .inr ⟨e, w3, q, y2, y3, .inr ⟨he, y6 he c3⟩⟩⟩⟩, by simp only [c1]; simp, ?_⟩
            show f_X7_go_b14 _ _ _ _ _ = _
            unfold f_X7_go_b14 f_X7_go_b37 f_X7_go_b38 f_X7_go_b51 f_X7_go_b69 f_X7_go_b85
            simp (disch := omega) only [iI_lit, ofNat_iI, iI_add, iI_sub, iI_mul, iI_neg, iI_lt_t, iI_lt_f, iI_le_t, iI_le_f, iI_eq_t, iI_eq_f, iI_div, rm_iI, tc_iI, inB_iI, nz_iI, is01_0, is01_1, gd_tt, bd_mk, bv_mk, oc_mk, lt_mk, Bool.false_eq_true, ↓reduceIte, c1, x1, p1, p2, r, Int.add_zero, w1, v2]) FU (1, 0, σ1) ⟨F1, .inr ⟨rfl, P1, rfl, by simp⟩⟩ (by simp only [FU]; simp; omega)
  refine ⟨τ, ?_, h1, h2⟩
  unfold f_X7_go
  simp only [iI_lit, lt_mk]
  rw [← hσ1]
  exact h3
end PR
