/-! the other questions -/
section ASK
variable {σ : St} {V : Nat → Int} {o m : Nat} {W : Nat → Nat → Int} {len : Nat} {b : Nat → Int}
theorem rk_139 : RK 139 := by unfold RK; decide +kernel
theorem s_when {a y c p : Int} (ha : -2147483648 ≤ a ∧ a < 2147483648) (hy : -2147483648 ≤ y ∧ y < 2147483648) (hc : -2147483648 ≤ c ∧ c < 2147483648) (hp : p = 0 ∨ p = 1) (hP : IP V m W len b) (hC : IC σ V o m W len b) (hR : IR σ V m W len b) : STEP σ (f_L_when (iI a) (iI y) (iI c) (iI p) σ) (f_X7_when (iI a) (iI y) (iI c) (iI p)) := by
  have hI : INV σ := ⟨V, o, m, W, len, b, hP, hC, hR⟩
  obtain ⟨n, hn, hn10⟩ := hP.n
  have z0 : σ.1 1 0 = iI (n : Int) := by rw [hC.1.1, hn]
  by_cases c1 : 0 ≤ a ∧ a < n
  · by_cases c2 : 0 ≤ y ∧ y ≤ 999
    · by_cases c3 : 0 ≤ c ∧ c ≤ 2
      · obtain ⟨f, rfl⟩ : ∃ f : Nat, a = (f : Int) := ⟨a.toNat, by omega⟩
        obtain ⟨k, rfl⟩ : ∃ k : Nat, c = (k : Int) := ⟨c.toNat, by omega⟩
        have hk3 : k < 3 := by omega
        obtain ⟨τ1, x1, x2, x3⟩ := reckon_v (a0 := 139) (y := y) rk_139 (by omega) hP.1.1 hC.1 c2 (SL_b hP.1.1 hk3)
        have e0 : ((f : Int)).toNat = f := by omega
        have e1 : ((k : Int)).toNat = k := by omega
        have k1 := at_in (c := 10) (N := 3) rfl (by omega) (i := (k : Int)) (σ := σ) (by omega) (by omega)
        have k2 := at_in (c := 142) (N := 10) rfl (by omega) (i := (f : Int)) (σ := τ1) (by omega) (by omega)
        have k3 := at_in (c := 140) (N := 10) rfl (by omega) (i := (f : Int)) (σ := τ1) (by omega) (by omega)
        rw [e1, show σ.1 (10 + 1) k = iI (SL V k) from hC.1.2.2.2.1 k hk3] at k1
        rw [e0, show τ1.1 (142 + 1) f = iI (Nt V y (SL V k) f) from x3.2 f (by omega)] at k2
        rw [e0, show τ1.1 (140 + 1) f = iI (Pr V y (SL V k) f) from x3.1 f (by omega)] at k3
        rcases hp with rfl | rfl
        · refine STEP.ask (v := Nt V y (SL V k) f) (τ1 := τ1) hP hC hR (ok2 ?_) (x2.mo (by omega) (by omega)) (fun τ hT => ?_)
          · unfold f_X6_when
            simp only [(needFeast_v ha z0 hn10).1 c1, bx_r, (needYear_v hy σ).1 c2, (needCarver_v hc σ).1 c3, k1, bd_mk, x1, bv_mk, k2, iI_lit, ↓reduceIte]
          · obtain ⟨τ', y1, y2⟩ := (dayOf_v (y := y) hP.1.1 hT.s0.1 (by omega) hk3 c2 (σ := sI τ 225 0 (iI 0)) (f := f)).2
            refine ⟨τ', ?_, FQ.of y2 (by omega) (by omega)⟩
            unfold f_X7_when f_X7_when_b32
            simp (disch := omega) only [iI_lit, ofNat_iI, iI_add, iI_sub, iI_mul, iI_neg, iI_lt_t, iI_lt_f, iI_le_t, iI_le_f, iI_eq_t, iI_eq_f, iI_div, rm_iI, tc_iI, inB_iI, nz_iI, is01_0, is01_1, gd_tt, bd_mk, bv_mk, oc_mk, lt_mk, Bool.false_eq_true, ↓reduceIte, (isFeast_v ha (hT.z hn) hn10).1 c1, (isYear_v hy τ).1 c2, (isCarver_v hc τ).1 c3, holds_0, y1]
        · refine STEP.ask (v := Pr V y (SL V k) f) (τ1 := τ1) hP hC hR (ok2 ?_) (x2.mo (by omega) (by omega)) (fun τ hT => ?_)
          · unfold f_X6_when
            simp (disch := omega) only [iI_lit, ofNat_iI, iI_add, iI_sub, iI_mul, iI_neg, iI_lt_t, iI_lt_f, iI_le_t, iI_le_f, iI_eq_t, iI_eq_f, iI_div, rm_iI, tc_iI, inB_iI, nz_iI, is01_0, is01_1, gd_tt, bd_mk, bv_mk, oc_mk, lt_mk, Bool.false_eq_true, ↓reduceIte, (needFeast_v ha z0 hn10).1 c1, bx_r, (needYear_v hy σ).1 c2, (needCarver_v hc σ).1 c3, k1, x1, k3]
          · obtain ⟨τ', y1, y2⟩ := (dayOf_v (y := y) hP.1.1 hT.s0.1 (by omega) hk3 c2 (σ := sI τ 225 0 (iI 0)) (f := f)).1
            refine ⟨τ', ?_, FQ.of y2 (by omega) (by omega)⟩
            unfold f_X7_when f_X7_when_b32
            simp (disch := omega) only [iI_lit, ofNat_iI, iI_add, iI_sub, iI_mul, iI_neg, iI_lt_t, iI_lt_f, iI_le_t, iI_le_f, iI_eq_t, iI_eq_f, iI_div, rm_iI, tc_iI, inB_iI, nz_iI, is01_0, is01_1, gd_tt, bd_mk, bv_mk, oc_mk, lt_mk, Bool.false_eq_true, ↓reduceIte, (isFeast_v ha (hT.z hn) hn10).1 c1, (isYear_v hy τ).1 c2, (isCarver_v hc τ).1 c3, holds_0, y1]
      · refine STEP.fail (r := 2) hI (.inr rfl) (er2b exAI ?_) ?_
        · unfold f_X6_when
          simp only [(needFeast_v ha z0 hn10).1 c1, bx_r, (needYear_v hy σ).1 c2, (needCarver_v hc σ).2 c3, bx_l]
        · unfold f_X7_when f_X7_when_b32
          simp (disch := omega) only [iI_lit, ofNat_iI, iI_add, iI_sub, iI_mul, iI_neg, iI_lt_t, iI_lt_f, iI_le_t, iI_le_f, iI_eq_t, iI_eq_f, iI_div, rm_iI, tc_iI, inB_iI, nz_iI, is01_0, is01_1, gd_tt, bd_mk, bv_mk, oc_mk, lt_mk, Bool.false_eq_true, ↓reduceIte, (isFeast_v ha (hR.z hn) hn10).1 c1, (isYear_v hy σ).1 c2, (isCarver_v hc σ).2 c3, holds_2]
    · refine STEP.fail (r := 2) hI (.inr rfl) (er2b exAI ?_) ?_
      · unfold f_X6_when
        simp only [(needFeast_v ha z0 hn10).1 c1, bx_r, (needYear_v hy σ).2 c2, bx_l]
      · unfold f_X7_when f_X7_when_b32
        simp (disch := omega) only [iI_lit, ofNat_iI, iI_add, iI_sub, iI_mul, iI_neg, iI_lt_t, iI_lt_f, iI_le_t, iI_le_f, iI_eq_t, iI_eq_f, iI_div, rm_iI, tc_iI, inB_iI, nz_iI, is01_0, is01_1, gd_tt, bd_mk, bv_mk, oc_mk, lt_mk, Bool.false_eq_true, ↓reduceIte, (isFeast_v ha (hR.z hn) hn10).1 c1, (isYear_v hy σ).2 c2, holds_2]
  · refine STEP.fail (r := 1) hI (.inl rfl) (er2a ?_) ?_
    · unfold f_X6_when
      simp only [(needFeast_v ha z0 hn10).2 c1, bx_l]
    · unfold f_X7_when f_X7_when_b32
      simp (disch := omega) only [iI_lit, ofNat_iI, iI_add, iI_sub, iI_mul, iI_neg, iI_lt_t, iI_lt_f, iI_le_t, iI_le_f, iI_eq_t, iI_eq_f, iI_div, rm_iI, tc_iI, inB_iI, nz_iI, is01_0, is01_1, gd_tt, bd_mk, bv_mk, oc_mk, lt_mk, Bool.false_eq_true, ↓reduceIte, (isFeast_v ha (hR.z hn) hn10).2 c1, holds_1]
theorem s_settled {a y : Int} (ha : -2147483648 ≤ a ∧ a < 2147483648) (hy : -2147483648 ≤ y ∧ y < 2147483648) (hP : IP V m W len b) (hC : IC σ V o m W len b) (hR : IR σ V m W len b) : STEP σ (f_L_settled (iI a) (iI y) σ) (f_X7_settled (iI a) (iI y)) := by
  have hI : INV σ := ⟨V, o, m, W, len, b, hP, hC, hR⟩
  obtain ⟨n, hn, hn10⟩ := hP.n
  have z0 : σ.1 1 0 = iI (n : Int) := by rw [hC.1.1, hn]
  by_cases c1 : 0 ≤ a ∧ a < n
  · by_cases c2 : 0 ≤ y ∧ y ≤ 999
    · obtain ⟨f, rfl⟩ : ∃ f : Nat, a = (f : Int) := ⟨a.toNat, by omega⟩
      obtain ⟨τ1, x1, x2, x3⟩ := gather_v (a0 := 144) (y := y) ck_144 (by omega) hP.1.1 hC.1 c2
      have k1 := settledNotch_v (f := f) ck_144 x3 (by omega)
      refine STEP.ask (v := stl V y (SL V) f) (τ1 := τ1) hP hC hR (ok2 ?_) (x2.mo (by omega) (by omega)) (fun τ hT => ?_)
      · unfold f_X6_settled
        simp only [(needFeast_v ha z0 hn10).1 c1, bx_r, (needYear_v hy σ).1 c2, x1, bv_mk, k1, bd_mk]
      · obtain ⟨τ', y1, y2⟩ := settledOf_v (y := y) (f := f) hP.1.1 hT.s0.1 (by omega) c2 (σ := sI τ 225 0 (iI 0))
        refine ⟨τ', ?_, FQ.of y2 (by omega) (by omega)⟩
        unfold f_X7_settled f_X7_settled_b25
        simp (disch := omega) only [iI_lit, ofNat_iI, iI_add, iI_sub, iI_mul, iI_neg, iI_lt_t, iI_lt_f, iI_le_t, iI_le_f, iI_eq_t, iI_eq_f, iI_div, rm_iI, tc_iI, inB_iI, nz_iI, is01_0, is01_1, gd_tt, bd_mk, bv_mk, oc_mk, lt_mk, Bool.false_eq_true, ↓reduceIte, (isFeast_v ha (hT.z hn) hn10).1 c1, (isYear_v hy τ).1 c2, holds_0, y1]
    · refine STEP.fail (r := 2) hI (.inr rfl) (er2b exAI ?_) ?_
      · unfold f_X6_settled
        simp only [(needFeast_v ha z0 hn10).1 c1, bx_r, (needYear_v hy σ).2 c2, bx_l]
      · unfold f_X7_settled f_X7_settled_b25
        simp (disch := omega) only [iI_lit, ofNat_iI, iI_add, iI_sub, iI_mul, iI_neg, iI_lt_t, iI_lt_f, iI_le_t, iI_le_f, iI_eq_t, iI_eq_f, iI_div, rm_iI, tc_iI, inB_iI, nz_iI, is01_0, is01_1, gd_tt, bd_mk, bv_mk, oc_mk, lt_mk, Bool.false_eq_true, ↓reduceIte, (isFeast_v ha (hR.z hn) hn10).1 c1, (isYear_v hy σ).2 c2, holds_2]
  · refine STEP.fail (r := 1) hI (.inl rfl) (er2a ?_) ?_
    · unfold f_X6_settled
      simp only [(needFeast_v ha z0 hn10).2 c1, bx_l]
    · unfold f_X7_settled f_X7_settled_b25
      simp (disch := omega) only [iI_lit, ofNat_iI, iI_add, iI_sub, iI_mul, iI_neg, iI_lt_t, iI_lt_f, iI_le_t, iI_le_f, iI_eq_t, iI_eq_f, iI_div, rm_iI, tc_iI, inB_iI, nz_iI, is01_0, is01_1, gd_tt, bd_mk, bv_mk, oc_mk, lt_mk, Bool.false_eq_true, ↓reduceIte, (isFeast_v ha (hR.z hn) hn10).2 c1, holds_1]
theorem s_quarrels {y : Int} (hy : -2147483648 ≤ y ∧ y < 2147483648) (hP : IP V m W len b) (hC : IC σ V o m W len b) (hR : IR σ V m W len b) : STEP σ (f_L_quarrels (iI y) σ) (f_X7_quarrels (iI y)) := by
  have hI : INV σ := ⟨V, o, m, W, len, b, hP, hC, hR⟩
  obtain ⟨n, hn, hn10⟩ := hP.n
  have z0 : σ.1 1 0 = iI (n : Int) := by rw [hC.1.1, hn]
  by_cases c2 : 0 ≤ y ∧ y ≤ 999
  · obtain ⟨τ1, x1, x2, x3⟩ := gather_v (a0 := 144) (y := y) ck_144 (by omega) hP.1.1 hC.1 c2
    have k1 := quarrelCount_v (n := n) ck_144 x3 hn10
    have z1 : τ1.1 1 0 = iI (n : Int) := by rw [x2.at (by omega)]; exact z0
    refine STEP.ask (v := cnN (qrl V y (SL V)) n) (τ1 := τ1) hP hC hR (ok1 ?_) (x2.mo (by omega) (by omega)) (fun τ hT => ?_)
    · unfold f_X6_quarrels
      simp only [(needYear_v hy σ).1 c2, bx_r, x1, bv_mk, z1, k1, bd_mk]
    · obtain ⟨τ', y1, y2⟩ := quarrelsOf_v (y := y) hP.1.1 hT.s0.1 hn c2 (σ := sI τ 225 0 (iI 0))
      refine ⟨τ', ?_, FQ.of y2 (by omega) (by omega)⟩
      unfold f_X7_quarrels f_X7_quarrels_b13
      simp (disch := omega) only [iI_lit, ofNat_iI, iI_add, iI_sub, iI_mul, iI_neg, iI_lt_t, iI_lt_f, iI_le_t, iI_le_f, iI_eq_t, iI_eq_f, iI_div, rm_iI, tc_iI, inB_iI, nz_iI, is01_0, is01_1, gd_tt, bd_mk, bv_mk, oc_mk, lt_mk, Bool.false_eq_true, ↓reduceIte, (isYear_v hy τ).1 c2, holds_0, y1]
  · refine STEP.fail (r := 1) hI (.inl rfl) (er1 ?_) ?_
    · unfold f_X6_quarrels
      simp only [(needYear_v hy σ).2 c2, bx_l]
    · unfold f_X7_quarrels f_X7_quarrels_b13
      simp (disch := omega) only [iI_lit, ofNat_iI, iI_add, iI_sub, iI_mul, iI_neg, iI_lt_t, iI_lt_f, iI_le_t, iI_le_f, iI_eq_t, iI_eq_f, iI_div, rm_iI, tc_iI, inB_iI, nz_iI, is01_0, is01_1, gd_tt, bd_mk, bv_mk, oc_mk, lt_mk, Bool.false_eq_true, ↓reduceIte, (isYear_v hy σ).2 c2, holds_1]
theorem s_stick {a w : Int} (ha : -2147483648 ≤ a ∧ a < 2147483648) (hw : -2147483648 ≤ w ∧ w < 2147483648) (hP : IP V m W len b) (hC : IC σ V o m W len b) (hR : IR σ V m W len b) : STEP σ (f_L_stick (iI a) (iI w) σ) (f_X7_stick (iI a) (iI w)) := by
  have hI : INV σ := ⟨V, o, m, W, len, b, hP, hC, hR⟩
  obtain ⟨n, hn, hn10⟩ := hP.k
  have z0 : σ.1 1 7 = iI (n : Int) := by rw [hC.1.2.2.1, hn]
  by_cases c1 : 0 ≤ a ∧ a < n
  · by_cases c2 : 0 ≤ w ∧ w ≤ 13
    · obtain ⟨f, rfl⟩ : ∃ f : Nat, a = (f : Int) := ⟨a.toNat, by omega⟩
      obtain ⟨k, rfl⟩ : ∃ k : Nat, w = (k : Int) := ⟨w.toNat, by omega⟩
      obtain ⟨τ1, x1, x2⟩ := stickC (k := f) (w := k) hP.1.1 hC.1 (by omega) (by omega)
      refine STEP.ask (v := spr V f k) (τ1 := τ1) hP hC hR (ok2 ?_) (x2.mo (by omega) (by omega)) (fun τ hT => ?_)
      · unfold f_X6_stick
        simp only [iI_lit, (needStick_v ha z0 (by omega)).1 c1, bx_r, (needA (lo := 0) (hi := 13) hw (by omega) (by omega) σ).1 c2, x1, bd_mk]
      · obtain ⟨τ', y1, y2⟩ := stickR (k := f) (w := k) hP.1.1 hT.s0.1 (by omega) (by omega) (σ := sI τ 225 0 (iI 0))
        refine ⟨τ', ?_, FQ.of y2 (by omega) (by omega)⟩
        unfold f_X7_stick f_X7_stick_b28
        simp (disch := omega) only [iI_lit, ofNat_iI, iI_add, iI_sub, iI_mul, iI_neg, iI_lt_t, iI_lt_f, iI_le_t, iI_le_f, iI_eq_t, iI_eq_f, iI_div, rm_iI, tc_iI, inB_iI, nz_iI, is01_0, is01_1, gd_tt, bd_mk, bv_mk, oc_mk, lt_mk, Bool.false_eq_true, ↓reduceIte, (isStick_v ha (hT.k hn) (by omega)).1 c1, (inG (lo := 0) (hi := 13) hw (by omega) (by omega) τ).1 c2, holds_0, y1]
    · refine STEP.fail (r := 2) hI (.inr rfl) (er2b exAI ?_) ?_
      · unfold f_X6_stick
        simp only [iI_lit, (needStick_v ha z0 (by omega)).1 c1, bx_r, (needA (lo := 0) (hi := 13) hw (by omega) (by omega) σ).2 c2, bx_l]
      · unfold f_X7_stick f_X7_stick_b28
        simp (disch := omega) only [iI_lit, ofNat_iI, iI_add, iI_sub, iI_mul, iI_neg, iI_lt_t, iI_lt_f, iI_le_t, iI_le_f, iI_eq_t, iI_eq_f, iI_div, rm_iI, tc_iI, inB_iI, nz_iI, is01_0, is01_1, gd_tt, bd_mk, bv_mk, oc_mk, lt_mk, Bool.false_eq_true, ↓reduceIte, (isStick_v ha (hR.k hn) (by omega)).1 c1, (inG (lo := 0) (hi := 13) hw (by omega) (by omega) σ).2 c2, holds_2]
  · refine STEP.fail (r := 1) hI (.inl rfl) (er2a ?_) ?_
    · unfold f_X6_stick
      simp only [(needStick_v ha z0 (by omega)).2 c1, bx_l]
    · unfold f_X7_stick f_X7_stick_b28
      simp (disch := omega) only [iI_lit, ofNat_iI, iI_add, iI_sub, iI_mul, iI_neg, iI_lt_t, iI_lt_f, iI_le_t, iI_le_f, iI_eq_t, iI_eq_f, iI_div, rm_iI, tc_iI, inB_iI, nz_iI, is01_0, is01_1, gd_tt, bd_mk, bv_mk, oc_mk, lt_mk, Bool.false_eq_true, ↓reduceIte, (isStick_v ha (hR.k hn) (by omega)).2 c1, holds_1]
theorem s_count {w : Int} (hw : -2147483648 ≤ w ∧ w < 2147483648) (hP : IP V m W len b) (hC : IC σ V o m W len b) (hR : IR σ V m W len b) : STEP σ (f_L_count (iI w) σ) (f_X7_count (iI w)) := by
  have hI : INV σ := ⟨V, o, m, W, len, b, hP, hC, hR⟩
  obtain ⟨n, hn, hn10⟩ := hP.k
  by_cases c2 : 0 ≤ w ∧ w ≤ 7
  · obtain ⟨k, rfl⟩ : ∃ k : Nat, w = (k : Int) := ⟨w.toNat, by omega⟩
    obtain ⟨τ1, x1, x2⟩ := numberC (k := k) (sv := m) hP.1.1 hC.1 hn hC.2.1.2.1 (by omega)
    refine STEP.ask (v := nmb V n m k) (τ1 := τ1) hP hC hR (ok1 ?_) (x2.mo (by omega) (by omega)) (fun τ hT => ?_)
    · unfold f_X6_count
      simp only [iI_lit, (needA (lo := 0) (hi := 7) hw (by omega) (by omega) σ).1 c2, bx_r, x1, bd_mk]
    · obtain ⟨τ', y1, y2⟩ := countedR (k := k) (sv := m) hP.1.1 hT.s0.1 hn hT.s0.2.1.1 (by omega) (σ := sI τ 225 0 (iI 0))
      refine ⟨τ', ?_, FQ.of y2 (by omega) (by omega)⟩
      unfold f_X7_count f_X7_count_b16
      simp (disch := omega) only [iI_lit, ofNat_iI, iI_add, iI_sub, iI_mul, iI_neg, iI_lt_t, iI_lt_f, iI_le_t, iI_le_f, iI_eq_t, iI_eq_f, iI_div, rm_iI, tc_iI, inB_iI, nz_iI, is01_0, is01_1, gd_tt, bd_mk, bv_mk, oc_mk, lt_mk, Bool.false_eq_true, ↓reduceIte, (inG (lo := 0) (hi := 7) hw (by omega) (by omega) τ).1 c2, holds_0, y1]
  · refine STEP.fail (r := 1) hI (.inl rfl) (er1 ?_) ?_
    · unfold f_X6_count
      simp only [iI_lit, (needA (lo := 0) (hi := 7) hw (by omega) (by omega) σ).2 c2, bx_l]
    · unfold f_X7_count f_X7_count_b16
      simp (disch := omega) only [iI_lit, ofNat_iI, iI_add, iI_sub, iI_mul, iI_neg, iI_lt_t, iI_lt_f, iI_le_t, iI_le_f, iI_eq_t, iI_eq_f, iI_div, rm_iI, tc_iI, inB_iI, nz_iI, is01_0, is01_1, gd_tt, bd_mk, bv_mk, oc_mk, lt_mk, Bool.false_eq_true, ↓reduceIte, (inG (lo := 0) (hi := 7) hw (by omega) (by omega) σ).2 c2, holds_1]
theorem s_range {a y k p : Int} (ha : -2147483648 ≤ a ∧ a < 2147483648) (hy : -2147483648 ≤ y ∧ y < 2147483648) (hk : -2147483648 ≤ k ∧ k < 2147483648) (hp : p = 0 ∨ p = 1) (hP : IP V m W len b) (hC : IC σ V o m W len b) (hR : IR σ V m W len b) : STEP σ (f_L_range (iI a) (iI y) (iI k) (iI p) σ) (f_X7_range (iI a) (iI y) (iI k) (iI p)) := by
  have hI : INV σ := ⟨V, o, m, W, len, b, hP, hC, hR⟩
  obtain ⟨n, hn, hn10⟩ := hP.n
  have z0 : σ.1 1 0 = iI (n : Int) := by rw [hC.1.1, hn]
  by_cases c1 : 0 ≤ a ∧ a < n
  · by_cases c2 : 0 ≤ y ∧ y ≤ 999
    · by_cases c3 : 1 ≤ k ∧ k ≤ 40
      · obtain ⟨f, rfl⟩ : ∃ f : Nat, a = (f : Int) := ⟨a.toNat, by omega⟩
        obtain ⟨τ1, x1, x2⟩ := outC (f := f) (b := p) (y0 := y) (ys := k) hP.1.1 hC.1 (by omega) hp c2 c3
        refine STEP.ask (v := otm V f p y k) (τ1 := τ1) hP hC hR (ok2 ?_) (x2.mo (by omega) (by omega)) (fun τ hT => ?_)
        · unfold f_X6_range
          simp only [iI_lit, (needFeast_v ha z0 hn10).1 c1, bx_r, (needYear_v hy σ).1 c2, (needA (lo := 1) (hi := 40) hk (by omega) (by omega) σ).1 c3, x1, bd_mk]
        · obtain ⟨τ', y1, y2⟩ := outR (f := f) (b := p) (y0 := y) (ys := k) hP.1.1 hT.s0.1 (by omega) hp c2 c3 (σ := sI τ 225 0 (iI 0))
          refine ⟨τ', ?_, FQ.of y2 (by omega) (by omega)⟩
          unfold f_X7_range f_X7_range_b34
          simp (disch := omega) only [iI_lit, ofNat_iI, iI_add, iI_sub, iI_mul, iI_neg, iI_lt_t, iI_lt_f, iI_le_t, iI_le_f, iI_eq_t, iI_eq_f, iI_div, rm_iI, tc_iI, inB_iI, nz_iI, is01_0, is01_1, gd_tt, bd_mk, bv_mk, oc_mk, lt_mk, Bool.false_eq_true, ↓reduceIte, (isFeast_v ha (hT.z hn) hn10).1 c1, (isYear_v hy τ).1 c2, (inG (lo := 1) (hi := 40) hk (by omega) (by omega) τ).1 c3, holds_0, y1]
      · refine STEP.fail (r := 2) hI (.inr rfl) (er2b exAI ?_) ?_
        · unfold f_X6_range
          simp only [iI_lit, (needFeast_v ha z0 hn10).1 c1, bx_r, (needYear_v hy σ).1 c2, (needA (lo := 1) (hi := 40) hk (by omega) (by omega) σ).2 c3, bx_l]
        · unfold f_X7_range f_X7_range_b34
          simp (disch := omega) only [iI_lit, ofNat_iI, iI_add, iI_sub, iI_mul, iI_neg, iI_lt_t, iI_lt_f, iI_le_t, iI_le_f, iI_eq_t, iI_eq_f, iI_div, rm_iI, tc_iI, inB_iI, nz_iI, is01_0, is01_1, gd_tt, bd_mk, bv_mk, oc_mk, lt_mk, Bool.false_eq_true, ↓reduceIte, (isFeast_v ha (hR.z hn) hn10).1 c1, (isYear_v hy σ).1 c2, (inG (lo := 1) (hi := 40) hk (by omega) (by omega) σ).2 c3, holds_2]
    · refine STEP.fail (r := 2) hI (.inr rfl) (er2b exAI ?_) ?_
      · unfold f_X6_range
        simp only [(needFeast_v ha z0 hn10).1 c1, bx_r, (needYear_v hy σ).2 c2, bx_l]
      · unfold f_X7_range f_X7_range_b34
        simp (disch := omega) only [iI_lit, ofNat_iI, iI_add, iI_sub, iI_mul, iI_neg, iI_lt_t, iI_lt_f, iI_le_t, iI_le_f, iI_eq_t, iI_eq_f, iI_div, rm_iI, tc_iI, inB_iI, nz_iI, is01_0, is01_1, gd_tt, bd_mk, bv_mk, oc_mk, lt_mk, Bool.false_eq_true, ↓reduceIte, (isFeast_v ha (hR.z hn) hn10).1 c1, (isYear_v hy σ).2 c2, holds_2]
  · refine STEP.fail (r := 1) hI (.inl rfl) (er2a ?_) ?_
    · unfold f_X6_range
      simp only [(needFeast_v ha z0 hn10).2 c1, bx_l]
    · unfold f_X7_range f_X7_range_b34
      simp (disch := omega) only [iI_lit, ofNat_iI, iI_add, iI_sub, iI_mul, iI_neg, iI_lt_t, iI_lt_f, iI_le_t, iI_le_f, iI_eq_t, iI_eq_f, iI_div, rm_iI, tc_iI, inB_iI, nz_iI, is01_0, is01_1, gd_tt, bd_mk, bv_mk, oc_mk, lt_mk, Bool.false_eq_true, ↓reduceIte, (isFeast_v ha (hR.z hn) hn10).2 c1, holds_1]
theorem s_alike {y : Int} (hy : -2147483648 ≤ y ∧ y < 2147483648) (hP : IP V m W len b) (hC : IC σ V o m W len b) (hR : IR σ V m W len b) : STEP σ (f_L_alike (iI y) σ) (f_X7_alike (iI y)) := by
  have hI : INV σ := ⟨V, o, m, W, len, b, hP, hC, hR⟩
  obtain ⟨n, hn, hn10⟩ := hP.n
  by_cases c2 : 0 ≤ y ∧ y ≤ 999
  · obtain ⟨τ1, x1, x2⟩ := alikeC (y := y) hP.1.1 hC.1 hn c2
    refine STEP.ask (v := nal V y n 100 (y + 1)) (τ1 := τ1) hP hC hR (ok1 ?_) (x2.mo (by omega) (by omega)) (fun τ hT => ?_)
    · unfold f_X6_alike
      simp only [(needYear_v hy σ).1 c2, bx_r, x1, bd_mk]
    · obtain ⟨τ', y1, y2⟩ := alikeR (y := y) hP.1.1 hT.s0.1 hn c2 (σ := sI τ 225 0 (iI 0))
      refine ⟨τ', ?_, FQ.of y2 (by omega) (by omega)⟩
      unfold f_X7_alike f_X7_alike_b13
      simp (disch := omega) only [iI_lit, ofNat_iI, iI_add, iI_sub, iI_mul, iI_neg, iI_lt_t, iI_lt_f, iI_le_t, iI_le_f, iI_eq_t, iI_eq_f, iI_div, rm_iI, tc_iI, inB_iI, nz_iI, is01_0, is01_1, gd_tt, bd_mk, bv_mk, oc_mk, lt_mk, Bool.false_eq_true, ↓reduceIte, (isYear_v hy τ).1 c2, holds_0, y1]
  · refine STEP.fail (r := 1) hI (.inl rfl) (er1 ?_) ?_
    · unfold f_X6_alike
      simp only [(needYear_v hy σ).2 c2, bx_l]
    · unfold f_X7_alike f_X7_alike_b13
      simp (disch := omega) only [iI_lit, ofNat_iI, iI_add, iI_sub, iI_mul, iI_neg, iI_lt_t, iI_lt_f, iI_le_t, iI_le_f, iI_eq_t, iI_eq_f, iI_div, rm_iI, tc_iI, inB_iI, nz_iI, is01_0, is01_1, gd_tt, bd_mk, bv_mk, oc_mk, lt_mk, Bool.false_eq_true, ↓reduceIte, (isYear_v hy σ).2 c2, holds_1]
theorem s_peace {c y : Int} (hc : -2147483648 ≤ c ∧ c < 2147483648) (hy : -2147483648 ≤ y ∧ y < 2147483648) (hP : IP V m W len b) (hC : IC σ V o m W len b) (hR : IR σ V m W len b) : STEP σ (f_L_peace (iI c) (iI y) σ) (f_X7_peace (iI c) (iI y)) := by
  have hI : INV σ := ⟨V, o, m, W, len, b, hP, hC, hR⟩
  obtain ⟨n, hn, hn10⟩ := hP.n
  by_cases c1 : 0 ≤ c ∧ c ≤ 2
  · by_cases c2 : 0 ≤ y ∧ y ≤ 999
    · obtain ⟨k, rfl⟩ : ∃ k : Nat, c = (k : Int) := ⟨c.toNat, by omega⟩
      obtain ⟨τ1, x1, x2⟩ := calm_v (y := y) (c := k) hP.1.1 hC.1 hn (by omega) c2
      refine STEP.ask (v := pce V y k n + 5) (τ1 := τ1) hP hC hR (ok1 ?_) (x2.mo (by omega) (by omega)) (fun τ hT => ?_)
      · unfold f_X6_peace
        simp only [(needCarver_v hc σ).1 c1, bx_r, (needYear_v hy σ).1 c2, x1, bd_mk, iI_lit, iI_add]
      · obtain ⟨τ', y1, y2⟩ := best_v (y := y) (c := k) hP.1.1 hT.s0.1 hn (by omega) c2 (σ := sI τ 225 0 (iI 0))
        refine ⟨τ', ?_, FQ.of y2 (by omega) (by omega)⟩
        unfold f_X7_peace f_X7_peace_b20
        simp (disch := omega) only [iI_lit, ofNat_iI, iI_add, iI_sub, iI_mul, iI_neg, iI_lt_t, iI_lt_f, iI_le_t, iI_le_f, iI_eq_t, iI_eq_f, iI_div, rm_iI, tc_iI, inB_iI, nz_iI, is01_0, is01_1, gd_tt, bd_mk, bv_mk, oc_mk, lt_mk, Bool.false_eq_true, ↓reduceIte, (isCarver_v hc τ).1 c1, (isYear_v hy τ).1 c2, holds_0, y1]
    · refine STEP.fail (r := 1) hI (.inl rfl) (er1 ?_) ?_
      · unfold f_X6_peace
        simp only [(needCarver_v hc σ).1 c1, bx_r, (needYear_v hy σ).2 c2, bx_l]
      · unfold f_X7_peace f_X7_peace_b19 f_X7_peace_b20
        simp (disch := omega) only [iI_lit, ofNat_iI, iI_add, iI_sub, iI_mul, iI_neg, iI_lt_t, iI_lt_f, iI_le_t, iI_le_f, iI_eq_t, iI_eq_f, iI_div, rm_iI, tc_iI, inB_iI, nz_iI, is01_0, is01_1, gd_tt, bd_mk, bv_mk, oc_mk, lt_mk, Bool.false_eq_true, ↓reduceIte, (isCarver_v hc σ).1 c1, (isYear_v hy σ).2 c2, holds_1]
  · refine STEP.fail (r := 1) hI (.inl rfl) (er1 ?_) ?_
    · unfold f_X6_peace
      simp only [(needCarver_v hc σ).2 c1, bx_l]
    · unfold f_X7_peace f_X7_peace_b19 f_X7_peace_b20
      simp (disch := omega) only [iI_lit, ofNat_iI, iI_add, iI_sub, iI_mul, iI_neg, iI_lt_t, iI_lt_f, iI_le_t, iI_le_f, iI_eq_t, iI_eq_f, iI_div, rm_iI, tc_iI, inB_iI, nz_iI, is01_0, is01_1, gd_tt, bd_mk, bv_mk, oc_mk, lt_mk, Bool.false_eq_true, ↓reduceIte, (isCarver_v hc σ).2 c1, holds_1]
theorem s_moved {y c : Int} (hy : -2147483648 ≤ y ∧ y < 2147483648) (hc : -2147483648 ≤ c ∧ c < 2147483648) (hP : IP V m W len b) (hC : IC σ V o m W len b) (hR : IR σ V m W len b) : STEP σ (f_L_moved (iI y) (iI c) σ) (f_X7_moved (iI y) (iI c)) := by
  have hI : INV σ := ⟨V, o, m, W, len, b, hP, hC, hR⟩
  obtain ⟨n, hn, hn10⟩ := hP.n
  by_cases c2 : 0 ≤ y ∧ y ≤ 999
  · by_cases c1 : 0 ≤ c ∧ c ≤ 2
    · obtain ⟨k, rfl⟩ : ∃ k : Nat, c = (k : Int) := ⟨c.toNat, by omega⟩
      have hk3 : k < 3 := by omega
      obtain ⟨τ1, x1, x2, x3⟩ := reckon_v (a0 := 139) (y := y) rk_139 (by omega) hP.1.1 hC.1 c2 (SL_b hP.1.1 hk3)
      have e1 : ((k : Int)).toNat = k := by omega
      have k1 := at_in (c := 10) (N := 3) rfl (by omega) (i := (k : Int)) (σ := σ) (by omega) (by omega)
      rw [e1, show σ.1 (10 + 1) k = iI (SL V k) from hC.1.2.2.2.1 k hk3] at k1
      have z1 : τ1.1 1 0 = iI (n : Int) := by rw [x2.at (by omega), hC.1.1, hn]
      have k2 := movedCount_v (n := n) rk_139 x3 hn hn10
      refine STEP.ask (v := cnN (mvd V y (SL V k)) n) (τ1 := τ1) hP hC hR (ok1 ?_) (x2.mo (by omega) (by omega)) (fun τ hT => ?_)
      · unfold f_X6_moved
        simp only [(needYear_v hy σ).1 c2, bx_r, (needCarver_v hc σ).1 c1, k1, bd_mk, x1, bv_mk, z1, k2]
      · obtain ⟨τ', y1, y2⟩ := movedBy_v (y := y) (c := k) hP.1.1 hT.s0.1 hn c2 hk3 (σ := sI τ 225 0 (iI 0))
        refine ⟨τ', ?_, FQ.of y2 (by omega) (by omega)⟩
        unfold f_X7_moved f_X7_moved_b20
        simp (disch := omega) only [iI_lit, ofNat_iI, iI_add, iI_sub, iI_mul, iI_neg, iI_lt_t, iI_lt_f, iI_le_t, iI_le_f, iI_eq_t, iI_eq_f, iI_div, rm_iI, tc_iI, inB_iI, nz_iI, is01_0, is01_1, gd_tt, bd_mk, bv_mk, oc_mk, lt_mk, Bool.false_eq_true, ↓reduceIte, (isYear_v hy τ).1 c2, (isCarver_v hc τ).1 c1, holds_0, y1]
    · refine STEP.fail (r := 1) hI (.inl rfl) (er1 ?_) ?_
      · unfold f_X6_moved
        simp only [(needYear_v hy σ).1 c2, bx_r, (needCarver_v hc σ).2 c1, bx_l]
      · unfold f_X7_moved f_X7_moved_b19 f_X7_moved_b20
        simp (disch := omega) only [iI_lit, ofNat_iI, iI_add, iI_sub, iI_mul, iI_neg, iI_lt_t, iI_lt_f, iI_le_t, iI_le_f, iI_eq_t, iI_eq_f, iI_div, rm_iI, tc_iI, inB_iI, nz_iI, is01_0, is01_1, gd_tt, bd_mk, bv_mk, oc_mk, lt_mk, Bool.false_eq_true, ↓reduceIte, (isYear_v hy σ).1 c2, (isCarver_v hc σ).2 c1, holds_1]
  · refine STEP.fail (r := 1) hI (.inl rfl) (er1 ?_) ?_
    · unfold f_X6_moved
      simp only [(needYear_v hy σ).2 c2, bx_l]
    · unfold f_X7_moved f_X7_moved_b19 f_X7_moved_b20
      simp (disch := omega) only [iI_lit, ofNat_iI, iI_add, iI_sub, iI_mul, iI_neg, iI_lt_t, iI_lt_f, iI_le_t, iI_le_f, iI_eq_t, iI_eq_f, iI_div, rm_iI, tc_iI, inB_iI, nz_iI, is01_0, is01_1, gd_tt, bd_mk, bv_mk, oc_mk, lt_mk, Bool.false_eq_true, ↓reduceIte, (isYear_v hy σ).2 c2, holds_1]
/-- a day of a year -/
def dyV (V : Nat → Int) (n : Nat) (y d : Int) (w : Int) : Int := if d < dys y then (if w = 0 then (fwd y + d) % 7 else if w = 1 then agd (shf y (V 41) (V 44)) d else fst1 (lfP V y d) n 0) else -1
theorem s_day {y d w : Int} (hy : -2147483648 ≤ y ∧ y < 2147483648) (hd : -2147483648 ≤ d ∧ d < 2147483648) (hw : -2147483648 ≤ w ∧ w < 2147483648) (hP : IP V m W len b) (hC : IC σ V o m W len b) (hR : IR σ V m W len b) : STEP σ (f_L_day (iI y) (iI d) (iI w) σ) (f_X7_day (iI y) (iI d) (iI w)) := by
  have hI : INV σ := ⟨V, o, m, W, len, b, hP, hC, hR⟩
  obtain ⟨n, hn, hn10⟩ := hP.n
  by_cases c1 : 0 ≤ y ∧ y ≤ 999
  · by_cases c2 : 0 ≤ d ∧ d ≤ 365
    · by_cases c3 : 0 ≤ w ∧ w ≤ 2
      · have hDb := dys_b y
        have hwb := fwd_b y
        have hm := hP.1.1.2.1
        have hs := SL_b hP.1.1 (c := 0) (by omega)
        have hs' : -5 ≤ V 41 ∧ V 41 ≤ 5 := hs
        have hsb := shf_b (m := V 44) (s := V 41) c1.1 c1.2 (by omega) hs'.1 hs'.2
        have D1 := daysIn_v c1.1 (by omega) σ
        have N1 := (needYear_v hy σ).1 c1
        have N2 := (needA (lo := 0) (hi := 365) hd (by omega) (by omega) σ).1 c2
        have N3 := (needA (lo := 0) (hi := 2) hw (by omega) (by omega) σ).1 c3
        by_cases c4 : d < dys y
        · rcases (show w = 0 ∨ w = 1 ∨ w = 2 by omega) with q | q | q
          · refine STEP.ask (v := (fwd y + d) % 7) (τ1 := σ) hP hC hR (ok1 ?_) Fr.rfl (fun τ hT => ?_)
            · have k1 := nyw_v c1.1 (by omega) σ
              unfold f_X6_day
              rw [q] at N3 ⊢
              simp (disch := omega) only [iI_lit, ofNat_iI, iI_add, iI_sub, iI_mul, iI_neg, iI_lt_t, iI_lt_f, iI_le_t, iI_le_f, iI_eq_t, iI_eq_f, iI_div, rm_iI, tc_iI, inB_iI, nz_iI, is01_0, is01_1, gd_tt, bd_mk, bv_mk, oc_mk, lt_mk, Bool.false_eq_true, ↓reduceIte, N1, bx_r, N2, N3, D1, k1]
            · refine ⟨sI τ 225 0 (iI 0), ?_, FQ.of (lo := 229) (hi := 235) Fr.rfl (by omega) (by omega)⟩
              have k1 := weekday_v (y := y) (d := d) c1.1 (by omega) c2.1 (by omega) (sI τ 225 0 (iI 0))
              have k2 := daysOf_v c1.1 (by omega) (sI τ 225 0 (iI 0))
              have M1 := (isYear_v hy τ).1 c1
              have M2 := (inG (lo := 0) (hi := 365) hd (by omega) (by omega) τ).1 c2
              have M3 := (inG (lo := 0) (hi := 2) hw (by omega) (by omega) τ).1 c3
              unfold f_X7_day f_X7_day_b33 f_X7_aboutDay
              rw [q] at M3 ⊢
              simp (disch := omega) only [iI_lit, ofNat_iI, iI_add, iI_sub, iI_mul, iI_neg, iI_lt_t, iI_lt_f, iI_le_t, iI_le_f, iI_eq_t, iI_eq_f, iI_div, rm_iI, tc_iI, inB_iI, nz_iI, is01_0, is01_1, gd_tt, bd_mk, bv_mk, oc_mk, lt_mk, Bool.false_eq_true, ↓reduceIte, M1, M2, M3, holds_0, k2, k1]
          · refine STEP.ask (v := agd (shf y (V 41) (V 44)) d) (τ1 := σ) hP hC hR (ok1 ?_) Fr.rfl (fun τ hT => ?_)
            · have k1 := at_in (c := 10) (N := 3) rfl (by omega) (i := (0 : Int)) (σ := σ) (by omega) (by omega)
              rw [show σ.1 (10 + 1) (0 : Int).toNat = iI (V 41) from hC.1.2.2.2.1 0 (by omega)] at k1
              have k2 := hC.1.2.1
              have k3 := moonShift_v (y := y) (s := V 41) (m := V 44) c1.1 c1.2 (by omega) hm.2 σ
              have k4 := moonAge_v (h := shf y (V 41) (V 44)) (d := d) hsb.1 hsb.2 c2.1 (by omega) σ
              unfold f_X6_day
              rw [q] at N3 ⊢
              simp (disch := omega) only [iI_lit, ofNat_iI, iI_add, iI_sub, iI_mul, iI_neg, iI_lt_t, iI_lt_f, iI_le_t, iI_le_f, iI_eq_t, iI_eq_f, iI_div, rm_iI, tc_iI, inB_iI, nz_iI, is01_0, is01_1, gd_tt, bd_mk, bv_mk, oc_mk, lt_mk, Bool.false_eq_true, ↓reduceIte, N1, bx_r, N2, N3, D1, k1, k2, k3, k4]
            · refine ⟨sI τ 225 0 (iI 0), ?_, FQ.of (lo := 229) (hi := 235) Fr.rfl (by omega) (by omega)⟩
              have k1 := age_v (y := y) (d := d) (s := V 41) hT.s0.1 c1 c2.1 (by omega) hs' hm (σ := sI τ 225 0 (iI 0))
              have k2 := daysOf_v c1.1 (by omega) (sI τ 225 0 (iI 0))
              have k3 := (hT.s0 (w := iI 0)).1 41 (by omega)
              have M1 := (isYear_v hy τ).1 c1
              have M2 := (inG (lo := 0) (hi := 365) hd (by omega) (by omega) τ).1 c2
              have M3 := (inG (lo := 0) (hi := 2) hw (by omega) (by omega) τ).1 c3
              unfold f_X7_day f_X7_day_b33 f_X7_aboutDay
              rw [q] at M3 ⊢
              simp (disch := omega) only [iI_lit, ofNat_iI, iI_add, iI_sub, iI_mul, iI_neg, iI_lt_t, iI_lt_f, iI_le_t, iI_le_f, iI_eq_t, iI_eq_f, iI_div, rm_iI, tc_iI, inB_iI, nz_iI, is01_0, is01_1, gd_tt, bd_mk, bv_mk, oc_mk, lt_mk, Bool.false_eq_true, ↓reduceIte, Int.reduceToNat, M1, M2, M3, holds_0, k2, k3, k1]
          · obtain ⟨τ1, x1, x2⟩ := lowest_v (y := y) (d := d) hP.1.1 hC.1 hn c1 (by omega)
            refine STEP.ask (v := fst1 (lfP V y d) n 0) (τ1 := τ1) hP hC hR (ok1 ?_) (x2.mo (by omega) (by omega)) (fun τ hT => ?_)
            · unfold f_X6_day
              rw [q] at N3 ⊢
              simp (disch := omega) only [iI_lit, ofNat_iI, iI_add, iI_sub, iI_mul, iI_neg, iI_lt_t, iI_lt_f, iI_le_t, iI_le_f, iI_eq_t, iI_eq_f, iI_div, rm_iI, tc_iI, inB_iI, nz_iI, is01_0, is01_1, gd_tt, bd_mk, bv_mk, oc_mk, lt_mk, Bool.false_eq_true, ↓reduceIte, N1, bx_r, N2, N3, D1, x1]
            · obtain ⟨τ', y1, y2⟩ := feastOn_v (y := y) (d := d) hP.1.1 hT.s0.1 hn c1 (by omega) (σ := sI τ 225 0 (iI 0))
              refine ⟨τ', ?_, FQ.of y2 (by omega) (by omega)⟩
              have k2 := daysOf_v c1.1 (by omega) (sI τ 225 0 (iI 0))
              have M1 := (isYear_v hy τ).1 c1
              have M2 := (inG (lo := 0) (hi := 365) hd (by omega) (by omega) τ).1 c2
              have M3 := (inG (lo := 0) (hi := 2) hw (by omega) (by omega) τ).1 c3
              unfold f_X7_day f_X7_day_b33 f_X7_aboutDay
              rw [q] at M3 ⊢
              simp (disch := omega) only [iI_lit, ofNat_iI, iI_add, iI_sub, iI_mul, iI_neg, iI_lt_t, iI_lt_f, iI_le_t, iI_le_f, iI_eq_t, iI_eq_f, iI_div, rm_iI, tc_iI, inB_iI, nz_iI, is01_0, is01_1, gd_tt, bd_mk, bv_mk, oc_mk, lt_mk, Bool.false_eq_true, ↓reduceIte, M1, M2, M3, holds_0, k2, y1]
        · refine STEP.ask (v := -1) (τ1 := σ) hP hC hR (ok1 ?_) Fr.rfl (fun τ hT => ?_)
          · unfold f_X6_day
            simp (disch := omega) only [iI_lit, ofNat_iI, iI_add, iI_sub, iI_mul, iI_neg, iI_lt_t, iI_lt_f, iI_le_t, iI_le_f, iI_eq_t, iI_eq_f, iI_div, rm_iI, tc_iI, inB_iI, nz_iI, is01_0, is01_1, gd_tt, bd_mk, bv_mk, oc_mk, lt_mk, Bool.false_eq_true, ↓reduceIte, N1, bx_r, N2, N3, D1]
          · refine ⟨sI τ 225 0 (iI 0), ?_, FQ.of (lo := 229) (hi := 235) Fr.rfl (by omega) (by omega)⟩
            have k2 := daysOf_v c1.1 (by omega) (sI τ 225 0 (iI 0))
            have M1 := (isYear_v hy τ).1 c1
            have M2 := (inG (lo := 0) (hi := 365) hd (by omega) (by omega) τ).1 c2
            have M3 := (inG (lo := 0) (hi := 2) hw (by omega) (by omega) τ).1 c3
            unfold f_X7_day f_X7_day_b33 f_X7_aboutDay
            simp (disch := omega) only [iI_lit, ofNat_iI, iI_add, iI_sub, iI_mul, iI_neg, iI_lt_t, iI_lt_f, iI_le_t, iI_le_f, iI_eq_t, iI_eq_f, iI_div, rm_iI, tc_iI, inB_iI, nz_iI, is01_0, is01_1, gd_tt, bd_mk, bv_mk, oc_mk, lt_mk, Bool.false_eq_true, ↓reduceIte, M1, M2, M3, holds_0, k2]
      · refine STEP.fail (r := 1) hI (.inl rfl) (er1 ?_) ?_
        · unfold f_X6_day
          simp only [iI_lit, (needYear_v hy σ).1 c1, bx_r, (needA (lo := 0) (hi := 365) hd (by omega) (by omega) σ).1 c2, (needA (lo := 0) (hi := 2) hw (by omega) (by omega) σ).2 c3, bx_l]
        · unfold f_X7_day f_X7_day_b32 f_X7_day_b33
          simp (disch := omega) only [iI_lit, ofNat_iI, iI_add, iI_sub, iI_mul, iI_neg, iI_lt_t, iI_lt_f, iI_le_t, iI_le_f, iI_eq_t, iI_eq_f, iI_div, rm_iI, tc_iI, inB_iI, nz_iI, is01_0, is01_1, gd_tt, bd_mk, bv_mk, oc_mk, lt_mk, Bool.false_eq_true, ↓reduceIte, (isYear_v hy σ).1 c1, (inG (lo := 0) (hi := 365) hd (by omega) (by omega) σ).1 c2, (inG (lo := 0) (hi := 2) hw (by omega) (by omega) σ).2 c3, holds_1]
    · refine STEP.fail (r := 1) hI (.inl rfl) (er1 ?_) ?_
      · unfold f_X6_day
        simp only [iI_lit, (needYear_v hy σ).1 c1, bx_r, (needA (lo := 0) (hi := 365) hd (by omega) (by omega) σ).2 c2, bx_l]
      · unfold f_X7_day f_X7_day_b32 f_X7_day_b33
        simp (disch := omega) only [iI_lit, ofNat_iI, iI_add, iI_sub, iI_mul, iI_neg, iI_lt_t, iI_lt_f, iI_le_t, iI_le_f, iI_eq_t, iI_eq_f, iI_div, rm_iI, tc_iI, inB_iI, nz_iI, is01_0, is01_1, gd_tt, bd_mk, bv_mk, oc_mk, lt_mk, Bool.false_eq_true, ↓reduceIte, (isYear_v hy σ).1 c1, (inG (lo := 0) (hi := 365) hd (by omega) (by omega) σ).2 c2, holds_1]
  · refine STEP.fail (r := 1) hI (.inl rfl) (er1 ?_) ?_
    · unfold f_X6_day
      simp only [iI_lit, (needYear_v hy σ).2 c1, bx_l]
    · unfold f_X7_day f_X7_day_b32 f_X7_day_b33
      simp (disch := omega) only [iI_lit, ofNat_iI, iI_add, iI_sub, iI_mul, iI_neg, iI_lt_t, iI_lt_f, iI_le_t, iI_le_f, iI_eq_t, iI_eq_f, iI_div, rm_iI, tc_iI, inB_iI, nz_iI, is01_0, is01_1, gd_tt, bd_mk, bv_mk, oc_mk, lt_mk, Bool.false_eq_true, ↓reduceIte, (isYear_v hy σ).2 c1, holds_1]
end ASK
