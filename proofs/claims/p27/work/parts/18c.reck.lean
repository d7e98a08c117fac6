/-! the class reckons -/
theorem daysIn_v {y : Int} (h1 : 0 ≤ y) (h2 : y ≤ 2000) (σ : St) : f_X6_daysIn (iI y) σ = some (iI (dys y), σ) := by
  unfold f_X6_daysIn f_X6_isLeap dys
  by_cases h : y % 4 = 0
  · simp (disch := omega) only [iI_lit, ofNat_iI, iI_add, iI_sub, iI_mul, iI_neg, iI_lt_t, iI_lt_f, iI_le_t, iI_le_f, iI_eq_t, iI_eq_f, iI_div, rm_iI, tc_iI, inB_iI, nz_iI, is01_0, is01_1, gd_tt, bd_mk, bv_mk, oc_mk, lt_mk, Bool.false_eq_true, ↓reduceIte, h]
  · simp (disch := omega) only [iI_lit, ofNat_iI, iI_add, iI_sub, iI_mul, iI_neg, iI_lt_t, iI_lt_f, iI_le_t, iI_le_f, iI_eq_t, iI_eq_f, iI_div, rm_iI, tc_iI, inB_iI, nz_iI, is01_0, is01_1, gd_tt, bd_mk, bv_mk, oc_mk, lt_mk, Bool.false_eq_true, ↓reduceIte, h]
theorem nyw_v {y : Int} (h1 : 0 ≤ y) (h2 : y ≤ 2000) (σ : St) : f_X6_newYearWeekday (iI y) σ = some (iI (fwd y), σ) := by
  unfold f_X6_newYearWeekday fwd
  simp (disch := omega) only [iI_lit, ofNat_iI, iI_add, iI_sub, iI_mul, iI_neg, iI_lt_t, iI_lt_f, iI_le_t, iI_le_f, iI_eq_t, iI_eq_f, iI_div, rm_iI, tc_iI, inB_iI, nz_iI, is01_0, is01_1, gd_tt, bd_mk, bv_mk, oc_mk, lt_mk, Bool.false_eq_true, ↓reduceIte]
theorem moonShift_v {y s m : Int} (h1 : 0 ≤ y) (h2 : y ≤ 999) (h3 : 0 < m) (h4 : m ≤ 400) (σ : St) : f_X6_moonShift (iI y) (iI s) (iI m) σ = some (iI (shf y s m), σ) := by
  unfold f_X6_moonShift f_X6_moonShift_b11 shf
  simp (disch := omega) only [iI_lit, ofNat_iI, iI_add, iI_sub, iI_mul, iI_neg, iI_lt_t, iI_lt_f, iI_le_t, iI_le_f, iI_eq_t, iI_eq_f, iI_div, rm_iI, tc_iI, inB_iI, nz_iI, is01_0, is01_1, gd_tt, bd_mk, bv_mk, oc_mk, lt_mk, Bool.false_eq_true, ↓reduceIte]
theorem moonAge_v {h d : Int} (h1 : 0 ≤ h) (h2 : h ≤ 2000) (h3 : 0 ≤ d) (h4 : d ≤ 400) (σ : St) : f_X6_moonAge (iI h) (iI d) σ = some (iI (agd h d), σ) := by
  unfold f_X6_moonAge agd
  simp (disch := omega) only [iI_lit, ofNat_iI, iI_add, iI_sub, iI_mul, iI_neg, iI_lt_t, iI_lt_f, iI_le_t, iI_le_f, iI_eq_t, iI_eq_f, iI_div, rm_iI, tc_iI, inB_iI, nz_iI, is01_0, is01_1, gd_tt, bd_mk, bv_mk, oc_mk, lt_mk, Bool.false_eq_true, ↓reduceIte]
theorem weekdayFrom_v {a0 : Nat} {w d t : Int} {σ : St} (hw : σ.1 a0 3 = iI w) (h1 : 0 ≤ w ∧ w ≤ 6) (h3 : 0 ≤ d) (h4 : d ≤ 400) (h5 : 0 ≤ t) (h6 : t ≤ 6) : f_X3_weekdayFrom a0 (iI d) (iI t) σ = some (iI (wkf w d t), σ) := by
  unfold f_X3_weekdayFrom wkf
  rw [hw]
  simp (disch := omega) only [iI_lit, ofNat_iI, iI_add, iI_sub, iI_mul, iI_neg, iI_lt_t, iI_lt_f, iI_le_t, iI_le_f, iI_eq_t, iI_eq_f, iI_div, rm_iI, tc_iI, inB_iI, nz_iI, is01_0, is01_1, gd_tt, bd_mk, bv_mk, oc_mk, lt_mk, Bool.false_eq_true, ↓reduceIte]
theorem pastMoon_l {a0 : Nat} {w h D t : Int} {σ : St} (hD : σ.1 a0 2 = iI D) (hw : σ.1 a0 3 = iI w) (hh : σ.1 a0 4 = iI h) (hD1 : 365 ≤ D ∧ D ≤ 366) (h1 : 0 ≤ w ∧ w ≤ 6) (h2 : 0 ≤ h ∧ h ≤ 2000) (h5 : 0 ≤ t ∧ t ≤ 6) : ∀ (k g : Nat) (d : Int), 0 ≤ d → d ≤ 366 → (D - d).toNat < k → k ≤ g → f_X3_weekdayPastMoon_l2 g a0 (iI t) (iI d) σ = some (iI (pmn w t (ful h D k d)), σ) := by
  intro k
  induction k with
  | zero => intro g d _ _ h; omega
  | succ k ih =>
    intro g d hd0 hd hk hg
    obtain ⟨g, rfl⟩ : ∃ g', g = g' + 1 := ⟨g - 1, by omega⟩
    show f_X3_weekdayPastMoon_b2 _ _ _ _ _ = _
    unfold f_X3_weekdayPastMoon_b2 ful
    rw [hD, hh, moonAge_v h2.1 h2.2 hd0 (by omega)]
    have hb := agd_b h d
    by_cases c1 : D ≤ d
    · simp (disch := omega) only [iI_lit, ofNat_iI, iI_add, iI_sub, iI_mul, iI_neg, iI_lt_t, iI_lt_f, iI_le_t, iI_le_f, iI_eq_t, iI_eq_f, iI_div, rm_iI, tc_iI, inB_iI, nz_iI, is01_0, is01_1, gd_tt, bd_mk, bv_mk, oc_mk, lt_mk, Bool.false_eq_true, ↓reduceIte, c1, pmn]
    · by_cases c2 : agd h d = 14
      · have c3 : d ≠ -1 := by omega
        simp (disch := omega) only [iI_lit, ofNat_iI, iI_add, iI_sub, iI_mul, iI_neg, iI_lt_t, iI_lt_f, iI_le_t, iI_le_f, iI_eq_t, iI_eq_f, iI_div, rm_iI, tc_iI, inB_iI, nz_iI, is01_0, is01_1, gd_tt, bd_mk, bv_mk, oc_mk, lt_mk, Bool.false_eq_true, ↓reduceIte, c1, c2, c3, pmn, weekdayFrom_v hw h1 (d := d + 1) (by omega) (by omega) h5.1 h5.2]
      · simp (disch := omega) only [iI_lit, ofNat_iI, iI_add, iI_sub, iI_mul, iI_neg, iI_lt_t, iI_lt_f, iI_le_t, iI_le_f, iI_eq_t, iI_eq_f, iI_div, rm_iI, tc_iI, inB_iI, nz_iI, is01_0, is01_1, gd_tt, bd_mk, bv_mk, oc_mk, lt_mk, Bool.false_eq_true, ↓reduceIte, c1, c2, ih g (d + 1)]
theorem pastMoon_v {a0 : Nat} {w h D t d : Int} {σ : St} (hD : σ.1 a0 2 = iI D) (hw : σ.1 a0 3 = iI w) (hh : σ.1 a0 4 = iI h) (hD1 : 365 ≤ D ∧ D ≤ 366) (h1 : 0 ≤ w ∧ w ≤ 6) (h2 : 0 ≤ h ∧ h ≤ 2000) (h5 : 0 ≤ t ∧ t ≤ 6) (hd : 0 ≤ d ∧ d ≤ 366) : f_X3_weekdayPastMoon a0 (iI d) (iI t) σ = some (iI (pmn w t (ful h D 400 d)), σ) :=
  pastMoon_l hD hw hh hD1 h1 h2 h5 400 FU d hd.1 hd.2 (by omega) (by simp only [FU]; omega)
theorem orNone_v {a0 : Nat} {D x : Int} {σ : St} (hD : σ.1 a0 2 = iI D) (h1 : 365 ≤ D ∧ D ≤ 366) (h2 : -5000 ≤ x) (h3 : x ≤ 5000) : f_X3_orNone a0 (iI x) σ = some (iI (orN D x), σ) := by
  unfold f_X3_orNone orN
  rw [hD]
  by_cases c1 : x < 0
  · have c3 : ¬ (0 ≤ x ∧ x < D) := by omega
    simp (disch := omega) only [iI_lit, ofNat_iI, iI_add, iI_sub, iI_mul, iI_neg, iI_lt_t, iI_lt_f, iI_le_t, iI_le_f, iI_eq_t, iI_eq_f, iI_div, rm_iI, tc_iI, inB_iI, nz_iI, is01_0, is01_1, gd_tt, bd_mk, bv_mk, oc_mk, lt_mk, Bool.false_eq_true, ↓reduceIte, if_neg c3]
  · by_cases c2 : D ≤ x
    · have c3 : ¬ (0 ≤ x ∧ x < D) := by omega
      simp (disch := omega) only [iI_lit, ofNat_iI, iI_add, iI_sub, iI_mul, iI_neg, iI_lt_t, iI_lt_f, iI_le_t, iI_le_f, iI_eq_t, iI_eq_f, iI_div, rm_iI, tc_iI, inB_iI, nz_iI, is01_0, is01_1, gd_tt, bd_mk, bv_mk, oc_mk, lt_mk, Bool.false_eq_true, ↓reduceIte, if_neg c3]
    · have c3 : 0 ≤ x ∧ x < D := by omega
      simp (disch := omega) only [iI_lit, ofNat_iI, iI_add, iI_sub, iI_mul, iI_neg, iI_lt_t, iI_lt_f, iI_le_t, iI_le_f, iI_eq_t, iI_eq_f, iI_div, rm_iI, tc_iI, inB_iI, nz_iI, is01_0, is01_1, gd_tt, bd_mk, bv_mk, oc_mk, lt_mk, Bool.false_eq_true, ↓reduceIte, if_pos c3]
def RK (a0 : Nat) : Prop := aln (a0 + 1 + 1) = 10 ∧ aln (a0 + 3 + 1) = 10
/-- the head of a reckoning is laid -/
def RH (σ : St) (a0 : Nat) (y s m : Int) : Prop := σ.1 a0 2 = iI (dys y) ∧ σ.1 a0 3 = iI (fwd y) ∧ σ.1 a0 4 = iI (shf y s m)
theorem pmn_b {w t u : Int} (h : u = -1 ∨ (0 ≤ u ∧ u ≤ 366)) : -1 ≤ pmn w t u ∧ pmn w t u ≤ 380 := by
  unfold pmn
  split
  · omega
  · have := wkf_b w (u + 1) t; omega
theorem rawP_b {V : Nat → Int} {y s : Int} {p : Nat → Int} {f : Nat} (hF : IF V f) (hp : ∀ g, -1 ≤ p g ∧ p g ≤ 365) : -1000 ≤ rawP V y s p f ∧ rawP V y s p f ≤ 1000 := by
  obtain ⟨a1, a2, a3, a4, a5, a6, a7, a8, a9, a10, a11⟩ := hF
  unfold rawP
  have h1 := wkf_b (fwd y) (V (3 + 4 * f)) (V (4 + 4 * f))
  have h2 := dys_b y
  have h3 := hp (V (4 + 4 * f)).toNat
  split
  · omega
  · split
    · omega
    · split
      · have h4 : -1 ≤ pmn (fwd y) (V (4 + 4 * f)) (ful (shf y s (V 44)) (dys y) 400 (V (3 + 4 * f))) ∧ pmn (fwd y) (V (4 + 4 * f)) (ful (shf y s (V 44)) (dys y) 400 (V (3 + 4 * f))) ≤ 380 := by
          refine pmn_b ?_
          rcases ful_b (shf y s (V 44)) (dys y) 400 (V (3 + 4 * f)) with h5 | h5
          · exact .inl h5
          · exact .inr (by omega)
        omega
      · split <;> omega
theorem dayByRule_v {a0 f : Nat} {V : Nat → Int} {y s : Int} {p : Nat → Int} {σ : St} (hK : RK a0) (hH : RH σ a0 y s (V 44)) (hI : IF V f) (hm : 0 < V 44) (hy : 0 ≤ y ∧ y ≤ 999) (hs : -5 ≤ s ∧ s ≤ 5) (hR : RF σ 1 V f) (hf : f < 10) (hp : ∀ g, g < f → σ.1 (a0 + 1 + 1) g = iI (p g)) (hpb : ∀ g, -1 ≤ p g ∧ p g ≤ 365) : f_X3_dayByRule a0 1 (iI f) σ = some (iI (rawP V y s p f), σ) := by
  obtain ⟨a1, a2, a3, a4, a5, a6, a7, a8, a9, a10, a11⟩ := hI
  obtain ⟨r1, r2, r3, r4⟩ := hR
  unfold f_X3_dayByRule rawP
  rw [at_in (c := 1 + 5) (N := 10) rfl (by omega) (by omega) (by omega)]
  simp only [bd_mk]
  rw [at_in (c := 1 + 7) (N := 10) rfl (by omega) (by omega) (by omega)]
  simp only [bd_mk]
  rw [at_in (c := 1 + 1) (N := 10) rfl (by omega) (by omega) (by omega)]
  simp only [bd_mk]
  have e0 : ((f : Int)).toNat = f := by omega
  rw [e0]
  rw [show σ.1 (1 + 5 + 1) f = iI (V (3 + 4 * f)) from r3, show σ.1 (1 + 7 + 1) f = iI (V (4 + 4 * f)) from r4, show σ.1 (1 + 1 + 1) f = iI (V (1 + 4 * f)) from r1]
  have hsb := shf_b (m := V 44) hy.1 hy.2 hm hs.1 hs.2
  have hfb := fwd_b y
  have hdb := dys_b y
  by_cases c0 : V (1 + 4 * f) = 0
  · simp (disch := omega) only [iI_lit, ofNat_iI, iI_add, iI_sub, iI_mul, iI_neg, iI_lt_t, iI_lt_f, iI_le_t, iI_le_f, iI_eq_t, iI_eq_f, iI_div, rm_iI, tc_iI, inB_iI, nz_iI, is01_0, is01_1, gd_tt, bd_mk, bv_mk, oc_mk, lt_mk, Bool.false_eq_true, ↓reduceIte, c0]
  · by_cases c1 : V (1 + 4 * f) = 1
    · have h6 := a10 (.inl c1)
      have h7 := a9 (by omega)
      simp (disch := omega) only [iI_lit, ofNat_iI, iI_add, iI_sub, iI_mul, iI_neg, iI_lt_t, iI_lt_f, iI_le_t, iI_le_f, iI_eq_t, iI_eq_f, iI_div, rm_iI, tc_iI, inB_iI, nz_iI, is01_0, is01_1, gd_tt, bd_mk, bv_mk, oc_mk, lt_mk, Bool.false_eq_true, ↓reduceIte, c1, weekdayFrom_v hH.2.1 hfb h7 (by omega) h6.1 h6.2]
      simp (disch := omega) only [↓reduceIte, Int.reduceEq]
    · by_cases c2 : V (1 + 4 * f) = 2
      · have h6 := a10 (.inr c2)
        have h7 := a9 (by omega)
        simp (disch := omega) only [iI_lit, ofNat_iI, iI_add, iI_sub, iI_mul, iI_neg, iI_lt_t, iI_lt_f, iI_le_t, iI_le_f, iI_eq_t, iI_eq_f, iI_div, rm_iI, tc_iI, inB_iI, nz_iI, is01_0, is01_1, gd_tt, bd_mk, bv_mk, oc_mk, lt_mk, Bool.false_eq_true, ↓reduceIte, c2, pastMoon_v (t := V (4 + 4 * f)) (d := V (3 + 4 * f)) hH.1 hH.2.1 hH.2.2 hdb hfb hsb h6 (by omega)]
        simp (disch := omega) only [↓reduceIte, Int.reduceEq]
      · have c3 : V (1 + 4 * f) = 3 := by omega
        have h6 := a11 c3
        have h8 := hp (V (4 + 4 * f)).toNat (by omega)
        have h9 := hpb (V (4 + 4 * f)).toNat
        by_cases c4 : p (V (4 + 4 * f)).toNat = -1
        · simp (disch := omega) only [iI_lit, ofNat_iI, iI_add, iI_sub, iI_mul, iI_neg, iI_lt_t, iI_lt_f, iI_le_t, iI_le_f, iI_eq_t, iI_eq_f, iI_div, rm_iI, tc_iI, inB_iI, nz_iI, is01_0, is01_1, gd_tt, bd_mk, bv_mk, oc_mk, lt_mk, Bool.false_eq_true, ↓reduceIte, c3, c4, at_in (c := a0 + 1) (N := 10) hK.1, h8]
          simp (disch := omega) only [↓reduceIte, Int.reduceEq]
        · simp (disch := omega) only [iI_lit, ofNat_iI, iI_add, iI_sub, iI_mul, iI_neg, iI_lt_t, iI_lt_f, iI_le_t, iI_le_f, iI_eq_t, iI_eq_f, iI_div, rm_iI, tc_iI, inB_iI, nz_iI, is01_0, is01_1, gd_tt, bd_mk, bv_mk, oc_mk, lt_mk, Bool.false_eq_true, ↓reduceIte, c3, c4, at_in (c := a0 + 1) (N := 10) hK.1, h8]
          simp (disch := omega) only [↓reduceIte, Int.reduceEq]
theorem hasNotch_l {a0 n : Nat} {N : Nat → Int} {d : Int} {σ : St} (hK : RK a0) (hn : n ≤ 10) (hN : ∀ g, g < 10 → σ.1 (a0 + 3 + 1) g = iI (N g)) (hb : ∀ g, -1 ≤ N g ∧ N g ≤ 365) (hd : 0 ≤ d ∧ d ≤ 1000) : ∀ (k j g : Nat), j + k = n → k < g → f_X3_hasNotch_l2 g a0 (iI d) (iI n) (iI j) σ = some (iI (if hasF N d k j = true then 1 else 0), σ) := by
  intro k
  induction k with
  | zero =>
    intro j g hj hg
    obtain ⟨g, rfl⟩ : ∃ g', g = g' + 1 := ⟨g - 1, by omega⟩
    show f_X3_hasNotch_b2 _ _ _ _ _ _ = _
    unfold f_X3_hasNotch_b2 hasF
    simp (disch := omega) only [iI_lit, ofNat_iI, iI_add, iI_sub, iI_mul, iI_neg, iI_lt_t, iI_lt_f, iI_le_t, iI_le_f, iI_eq_t, iI_eq_f, iI_div, rm_iI, tc_iI, inB_iI, nz_iI, is01_0, is01_1, gd_tt, bd_mk, bv_mk, oc_mk, lt_mk, Bool.false_eq_true, ↓reduceIte, Bool.false_eq_true]
  | succ k ih =>
    intro j g hj hg
    obtain ⟨g, rfl⟩ : ∃ g', g = g' + 1 := ⟨g - 1, by omega⟩
    show f_X3_hasNotch_b2 _ _ _ _ _ _ = _
    unfold f_X3_hasNotch_b2 hasF
    have h1 := hb j
    have h2 := hN j (by omega)
    have e0 : ((j : Int)).toNat = j := by omega
    have h3 := ih (j + 1) g (by omega) (by omega)
    rw [show (((j + 1 : Nat)) : Int) = (j : Int) + 1 by omega] at h3
    by_cases c : N j = d
    · simp (disch := omega) only [iI_lit, ofNat_iI, iI_add, iI_sub, iI_mul, iI_neg, iI_lt_t, iI_lt_f, iI_le_t, iI_le_f, iI_eq_t, iI_eq_f, iI_div, rm_iI, tc_iI, inB_iI, nz_iI, is01_0, is01_1, gd_tt, bd_mk, bv_mk, oc_mk, lt_mk, Bool.false_eq_true, ↓reduceIte, at_in (c := a0 + 3) (N := 10) hK.2, e0, h2, c]
    · simp (disch := omega) only [iI_lit, ofNat_iI, iI_add, iI_sub, iI_mul, iI_neg, iI_lt_t, iI_lt_f, iI_le_t, iI_le_f, iI_eq_t, iI_eq_f, iI_div, rm_iI, tc_iI, inB_iI, nz_iI, is01_0, is01_1, gd_tt, bd_mk, bv_mk, oc_mk, lt_mk, Bool.false_eq_true, ↓reduceIte, at_in (c := a0 + 3) (N := 10) hK.2, e0, h2, c, h3]
theorem hasNotch_v {a0 n : Nat} {N : Nat → Int} {d : Int} {σ : St} (hK : RK a0) (hn : n ≤ 10) (hN : ∀ g, g < 10 → σ.1 (a0 + 3 + 1) g = iI (N g)) (hb : ∀ g, -1 ≤ N g ∧ N g ≤ 365) (hd : 0 ≤ d ∧ d ≤ 1000) : f_X3_hasNotch a0 (iI d) (iI n) σ = some (iI (if hasF N d n 0 = true then 1 else 0), σ) := by
  have h := hasNotch_l hK hn hN hb hd n 0 FU (by omega) (by simp only [FU]; omega)
  unfold f_X3_hasNotch
  simp only [iI_lit]
  exact h
theorem cut_l41 {K2 : Nat → Nat → Int32 → Int32 → St → Option St} {a0 n : Nat} {N : Nat → Int} {r : Int32} {y : Int32} {σ : St} (hK : RK a0) (hn : n ≤ 10) (hs : σ.1 1 0 = iI n) (hN : ∀ g, g < 10 → σ.1 (a0 + 3 + 1) g = iI (N g)) (hb : ∀ g, -1 ≤ N g ∧ N g ≤ 365) : ∀ (k j g : Nat) (d : Int), j + k = n → k < g → 0 ≤ d → d + k ≤ 900 → f_X3_cutNotches_l41 K2 g a0 1 r y (iI d) (iI j) σ = f_X3_cutNotches_b72 K2 a0 1 r y (iI (ufr N n k d)) σ := by
  intro k
  induction k with
  | zero =>
    intro j g d hj hg h0 h1
    obtain ⟨g, rfl⟩ : ∃ g', g = g' + 1 := ⟨g - 1, by omega⟩
    show f_X3_cutNotches_b41 _ _ _ _ _ _ _ _ _ = _
    unfold f_X3_cutNotches_b41 ufr
    rw [hs]
    simp (disch := omega) only [iI_lit, ofNat_iI, iI_add, iI_sub, iI_mul, iI_neg, iI_lt_t, iI_lt_f, iI_le_t, iI_le_f, iI_eq_t, iI_eq_f, iI_div, rm_iI, tc_iI, inB_iI, nz_iI, is01_0, is01_1, gd_tt, bd_mk, bv_mk, oc_mk, lt_mk, Bool.false_eq_true, ↓reduceIte]
  | succ k ih =>
    intro j g d hj hg h0 h1
    obtain ⟨g, rfl⟩ : ∃ g', g = g' + 1 := ⟨g - 1, by omega⟩
    show f_X3_cutNotches_b41 _ _ _ _ _ _ _ _ _ = _
    unfold f_X3_cutNotches_b41 ufr
    have h3 := ih (j + 1) g (d + 1) (by omega) (by omega) (by omega) (by omega)
    rw [show (((j + 1 : Nat)) : Int) = (j : Int) + 1 by omega] at h3
    rw [hs, hasNotch_v hK hn hN hb (by omega)]
    by_cases c : hasF N d n 0 = true
    · simp (disch := omega) only [iI_lit, ofNat_iI, iI_add, iI_sub, iI_mul, iI_neg, iI_lt_t, iI_lt_f, iI_le_t, iI_le_f, iI_eq_t, iI_eq_f, iI_div, rm_iI, tc_iI, inB_iI, nz_iI, is01_0, is01_1, gd_tt, bd_mk, bv_mk, oc_mk, lt_mk, Bool.false_eq_true, ↓reduceIte, c, h3]
    · simp (disch := omega) only [iI_lit, ofNat_iI, iI_add, iI_sub, iI_mul, iI_neg, iI_lt_t, iI_lt_f, iI_le_t, iI_le_f, iI_eq_t, iI_eq_f, iI_div, rm_iI, tc_iI, inB_iI, nz_iI, is01_0, is01_1, gd_tt, bd_mk, bv_mk, oc_mk, lt_mk, Bool.false_eq_true, ↓reduceIte, c, h3]
/-- what one rank's pass leaves -/
theorem cutNotches_v {a0 : Nat} {V : Nat → Int} {D : Int} {p N : Nat → Int} {r : Int} {σ : St} (hK : RK a0) (ha : 19 < a0) (hI : IV V) (hS : RS σ 1 V) (hD : σ.1 a0 2 = iI D) (hDb : 365 ≤ D ∧ D ≤ 366) (hp : ∀ g : Nat, g < (V 0).toNat → σ.1 (a0 + 1 + 1) g = iI (p g)) (hpb : ∀ g, -1 ≤ p g ∧ p g ≤ 365) (hN : ∀ g, g < 10 → σ.1 (a0 + 3 + 1) g = iI (N g)) (hb : ∀ g, -1 ≤ N g ∧ N g ≤ 365) (hr : -10 ≤ r ∧ r ≤ 10) :
    ∃ τ, f_X3_cutNotches a0 1 (iI r) σ = some τ ∧ Fr (a0 + 3 + 1) (a0 + 3 + 2) σ τ ∧ ∀ g, g < 10 → τ.1 (a0 + 3 + 1) g = iI (CR V D p N r (V 0).toNat g) := by
  obtain ⟨hI0, hI1, hI2, hI3, hI4, hI5⟩ := hI
  obtain ⟨n, hn⟩ : ∃ n, n = (V 0).toNat := ⟨_, rfl⟩
  rw [← hn] at hp ⊢
  have hnV : V 0 = (n : Int) := by omega
  have H := wlp (F := fun g (s : Nat × St) => f_X3_cutNotches_l2 g a0 1 (iI r) (iI s.1) s.2) (X := fun τ => some τ) (fun s => n - s.1) (fun s => s.1 ≤ n ∧ Fr (a0 + 3 + 1) (a0 + 3 + 2) σ s.2 ∧ ∀ g, g < 10 → s.2.1 (a0 + 3 + 1) g = iI (CR V D p N r s.1 g)) (fun τ => Fr (a0 + 3 + 1) (a0 + 3 + 2) σ τ ∧ ∀ g, g < 10 → τ.1 (a0 + 3 + 1) g = iI (CR V D p N r n g)) (by
    rintro g ⟨f, τ⟩ ⟨h0, hF, hv⟩
    simp only at h0 hv hF
    have t0 : τ.1 1 0 = iI n := by rw [hF.at (by omega), hS.1, hnV]
    have tD : τ.1 a0 2 = iI D := by rw [hF.at (by omega)]; exact hD
    have hcb := CR_b (V := V) (p := p) (N := N) (r := r) hDb.2 hb f
    rcases (show f = n ∨ f < n by omega) with h | h
    · subst h
      refine .inl ⟨τ, ⟨hF, hv⟩, ?_⟩
      show f_X3_cutNotches_b2 _ _ _ _ _ _ = _
      unfold f_X3_cutNotches_b2
      rw [t0]
      simp (disch := omega) only [iI_lit, ofNat_iI, iI_add, iI_sub, iI_mul, iI_neg, iI_lt_t, iI_lt_f, iI_le_t, iI_le_f, iI_eq_t, iI_eq_f, iI_div, rm_iI, tc_iI, inB_iI, nz_iI, is01_0, is01_1, gd_tt, bd_mk, bv_mk, oc_mk, lt_mk, Bool.false_eq_true, ↓reduceIte]
    · right
      have e0 : ((f : Int)).toNat = f := by omega
      have e1 : (f : Int) + 1 = ((f + 1 : Nat) : Int) := by omega
      have hpf := hpb f
      have tp : τ.1 (a0 + 1 + 1) f = iI (p f) := by rw [hF.at (by omega)]; exact hp f h
      have tr : τ.1 (1 + 3 + 1) f = iI (V (2 + 4 * f)) := by rw [hF.at (by omega)]; exact (hS.2.2.2.2.1 f (by omega)).2.1
      obtain ⟨i1, i2, i3, i4, -⟩ := hI4 f (by omega)
      by_cases c1 : p f = -1
      · refine ⟨(f + 1, τ), ⟨by simp only; omega, hF, fun g hg => ?_⟩, by simp only; omega, ?_⟩
        · rw [hv g hg]
          show _ = iI (stN V D p (CR V D p N r f) r f g)
          unfold stN
          rw [if_neg (fun h => h.1 c1)]
        · show f_X3_cutNotches_b2 _ _ _ _ _ _ = _
          unfold f_X3_cutNotches_b2
          rw [t0]
          simp (disch := omega) only [iI_lit, ofNat_iI, iI_add, iI_sub, iI_mul, iI_neg, iI_lt_t, iI_lt_f, iI_le_t, iI_le_f, iI_eq_t, iI_eq_f, iI_div, rm_iI, tc_iI, inB_iI, nz_iI, is01_0, is01_1, gd_tt, bd_mk, bv_mk, oc_mk, lt_mk, Bool.false_eq_true, ↓reduceIte, at_in (c := a0 + 1) (N := 10) hK.1, e0, tp, c1, e1]
      · by_cases c2 : V (2 + 4 * f) = r
        · obtain ⟨u, hu⟩ : ∃ u, u = ufr (CR V D p N r f) n n (p f) := ⟨_, rfl⟩
          have hub := ufr_b (CR V D p N r f) n n (p f)
          rw [← hu] at hub
          refine ⟨(f + 1, sI τ (a0 + 3 + 1) f (iI (orN D u))), ⟨by simp only; omega, hF.tr (Fr.sI (by omega) (by omega)), fun g hg => ?_⟩, by simp only; omega, ?_⟩
          · show _ = iI (stN V D p (CR V D p N r f) r f g)
            unfold stN
            rw [if_pos ⟨c1, c2⟩, ← hn, ← hu]
            by_cases hk : g = f
            · rw [hk, sI_hit, updf_at]
            · rw [sI_k hk, updf_ne hk]; exact hv g hg
          · show f_X3_cutNotches_b2 _ _ _ _ _ _ = _
            unfold f_X3_cutNotches_b2
            rw [t0]
            have h41 := cut_l41 (K2 := f_X3_cutNotches_l2 g) (r := iI r) (y := iI f) hK (by omega) t0 hv hcb n 0 FU (p f) (by omega) (by simp only [FU]; omega) (by omega) (by omega)
            rw [show (((0 : Nat)) : Int) = 0 from rfl] at h41
            simp (disch := omega) only [iI_lit, ofNat_iI, iI_add, iI_sub, iI_mul, iI_neg, iI_lt_t, iI_lt_f, iI_le_t, iI_le_f, iI_eq_t, iI_eq_f, iI_div, rm_iI, tc_iI, inB_iI, nz_iI, is01_0, is01_1, gd_tt, bd_mk, bv_mk, oc_mk, lt_mk, Bool.false_eq_true, ↓reduceIte, at_in (c := a0 + 1) (N := 10) hK.1, at_in (c := 1 + 3) (N := 10) rfl, e0, tp, tr, c1, c2, h41]
            unfold f_X3_cutNotches_b72
            rw [← hu, orNone_v tD hDb (by omega) (by omega)]
            simp (disch := omega) only [iI_lit, ofNat_iI, iI_add, iI_sub, iI_mul, iI_neg, iI_lt_t, iI_lt_f, iI_le_t, iI_le_f, iI_eq_t, iI_eq_f, iI_div, rm_iI, tc_iI, inB_iI, nz_iI, is01_0, is01_1, gd_tt, bd_mk, bv_mk, oc_mk, lt_mk, Bool.false_eq_true, ↓reduceIte, put_in (c := a0 + 3) (N := 10) hK.2, e0, e1]
        · refine ⟨(f + 1, τ), ⟨by simp only; omega, hF, fun g hg => ?_⟩, by simp only; omega, ?_⟩
          · rw [hv g hg]
            show _ = iI (stN V D p (CR V D p N r f) r f g)
            unfold stN
            rw [if_neg (fun h => c2 h.2)]
          · show f_X3_cutNotches_b2 _ _ _ _ _ _ = _
            unfold f_X3_cutNotches_b2
            rw [t0]
            simp (disch := omega) only [iI_lit, ofNat_iI, iI_add, iI_sub, iI_mul, iI_neg, iI_lt_t, iI_lt_f, iI_le_t, iI_le_f, iI_eq_t, iI_eq_f, iI_div, rm_iI, tc_iI, inB_iI, nz_iI, is01_0, is01_1, gd_tt, bd_mk, bv_mk, oc_mk, lt_mk, Bool.false_eq_true, ↓reduceIte, at_in (c := a0 + 1) (N := 10) hK.1, at_in (c := 1 + 3) (N := 10) rfl, e0, tp, tr, c1, c2, e1])
  obtain ⟨τ, ⟨h1, h2⟩, h3⟩ := H FU (0, σ) ⟨by simp, Fr.rfl, hN⟩ (by simp only [FU]; omega)
  exact ⟨τ, h3, h1, h2⟩
/-- a reckoning, as it lies in the cells behind a0 -/
def RG (σ : St) (a0 : Nat) (V : Nat → Int) (y s : Int) : Prop := (∀ g : Nat, g < (V 0).toNat → σ.1 (a0 + 2) g = iI (Pr V y s g)) ∧ (∀ g : Nat, g < 10 → σ.1 (a0 + 4) g = iI (Nt V y s g))
theorem RG.fr {σ τ : St} {a0 lo hi : Nat} {V : Nat → Int} {y s : Int} (h : RG σ a0 V y s) (e : Fr lo hi σ τ) (hc : a0 + 5 ≤ lo ∨ hi ≤ a0) : RG τ a0 V y s := by
  unfold RG; rw [e.at (by omega), e.at (by omega)]; exact h
theorem reckA {a0 n : Nat} {V : Nat → Int} {y s : Int} {σ1 : St} (hK : RK a0) (ha : 19 < a0) (hI : IV V) (hnV : V 0 = (n : Int)) (S1 : RS σ1 1 V) (hy : 0 ≤ y ∧ y ≤ 999) (hs : -5 ≤ s ∧ s ≤ 5) (H1 : RH σ1 a0 y s (V 44)) :
    ∃ τ, (Fr (a0 + 1 + 1) (a0 + 1 + 2) σ1 τ ∧ ∀ g, g < n → τ.1 (a0 + 1 + 1) g = iI (PT V y s n g)) ∧ f_X3_reckon_l32 FU a0 1 (iI 0) σ1 = bv (f_X4_putNowhere (a0 + 3) τ) fun t28 => f_X3_reckon_l78 FU a0 1 9 t28 := by
  obtain ⟨hI0, hI1, hI2, hI3, hI4, hI5⟩ := id hI
  have hdb := dys_b y
  have A := wlp (F := fun g (q : Nat × St) => f_X3_reckon_l32 g a0 1 (iI q.1) q.2) (X := fun τ => bv (f_X4_putNowhere (a0 + 3) τ) fun t28 => f_X3_reckon_l78 FU a0 1 9 t28) (fun q => n - q.1) (fun q => q.1 ≤ n ∧ Fr (a0 + 1 + 1) (a0 + 1 + 2) σ1 q.2 ∧ ∀ g, g < q.1 → q.2.1 (a0 + 1 + 1) g = iI (PT V y s q.1 g)) (fun τ => Fr (a0 + 1 + 1) (a0 + 1 + 2) σ1 τ ∧ ∀ g, g < n → τ.1 (a0 + 1 + 1) g = iI (PT V y s n g)) (by
    rintro g ⟨f, τ⟩ ⟨h0, hF, hv⟩
    simp only at h0 hv hF
    have t0 : τ.1 1 0 = iI n := by rw [hF.at (by omega), S1.1, hnV]
    rcases (show f = n ∨ f < n by omega) with h | h
    · subst h
      refine .inl ⟨τ, ⟨hF, hv⟩, ?_⟩
      show f_X3_reckon_b32 _ _ _ _ _ = _
      unfold f_X3_reckon_b32
      rw [t0]
      simp (disch := omega) only [iI_lit, ofNat_iI, iI_add, iI_sub, iI_mul, iI_neg, iI_lt_t, iI_lt_f, iI_le_t, iI_le_f, iI_eq_t, iI_eq_f, iI_div, rm_iI, tc_iI, inB_iI, nz_iI, is01_0, is01_1, gd_tt, bd_mk, bv_mk, oc_mk, lt_mk, Bool.false_eq_true, ↓reduceIte]
    · right
      have tH : RH τ a0 y s (V 44) := by unfold RH; rw [hF.at (by omega)]; exact H1
      have tF : RF τ 1 V f := (S1.fr hF (by omega)).2.2.2.2.1 f (by omega)
      have hIf := hI4 f (by omega)
      have hd := dayByRule_v hK tH hIf (by omega) hy hs tF (by omega) hv (PT_b V y s f)
      have hrb := rawP_b (y := y) (s := s) hIf (PT_b V y s f)
      have ho := orNone_v tH.1 hdb (x := rawP V y s (PT V y s f) f) (by omega) (by omega)
      have e0 : ((f : Int)).toNat = f := by omega
      have e1 : (f : Int) + 1 = ((f + 1 : Nat) : Int) := by omega
      refine ⟨(f + 1, sI τ (a0 + 1 + 1) f (iI (orN (dys y) (rawP V y s (PT V y s f) f)))), ⟨by simp only; omega, hF.tr (Fr.sI (by omega) (by omega)), fun g hg => ?_⟩, by simp only; omega, ?_⟩
      · show _ = iI (updf (PT V y s f) f _ g)
        by_cases hk : g = f
        · rw [hk, sI_hit, updf_at]
        · simp only at hg
          rw [sI_k hk, updf_ne hk]; exact hv g (by omega)
      · show f_X3_reckon_b32 _ _ _ _ _ = _
        unfold f_X3_reckon_b32
        rw [t0]
        simp (disch := omega) only [iI_lit, ofNat_iI, iI_add, iI_sub, iI_mul, iI_neg, iI_lt_t, iI_lt_f, iI_le_t, iI_le_f, iI_eq_t, iI_eq_f, iI_div, rm_iI, tc_iI, inB_iI, nz_iI, is01_0, is01_1, gd_tt, bd_mk, bv_mk, oc_mk, lt_mk, Bool.false_eq_true, ↓reduceIte, hd, ho, put_in (c := a0 + 1) (N := 10) hK.1, e0, e1])
  exact A FU (0, σ1) ⟨by simp, Fr.rfl, fun g hg => by simp only at hg; omega⟩ (by simp only [FU]; omega)
theorem reckB {a0 : Nat} {V : Nat → Int} {y s : Int} {σ3 : St} (hK : RK a0) (ha : 19 < a0) (hI : IV V) (S3 : RS σ3 1 V) (D3 : σ3.1 a0 2 = iI (dys y)) (P3 : ∀ g : Nat, g < (V 0).toNat → σ3.1 (a0 + 1 + 1) g = iI (Pr V y s g)) (N3 : ∀ g, g < 10 → σ3.1 (a0 + 3 + 1) g = iI (-1)) :
    ∃ τ, (Fr (a0 + 3 + 1) (a0 + 3 + 2) σ3 τ ∧ ∀ g, g < 10 → τ.1 (a0 + 3 + 1) g = iI (RR V (dys y) (Pr V y s) 10 g)) ∧ f_X3_reckon_l78 FU a0 1 (iI (9 - ((0 : Nat) : Int))) σ3 = some τ := by
  have hdb := dys_b y
  have Bq := wlp (F := fun g (q : Nat × St) => f_X3_reckon_l78 g a0 1 (iI (9 - (q.1 : Int))) q.2) (X := fun τ => some τ) (fun q => 10 - q.1) (fun q => q.1 ≤ 10 ∧ Fr (a0 + 3 + 1) (a0 + 3 + 2) σ3 q.2 ∧ ∀ g, g < 10 → q.2.1 (a0 + 3 + 1) g = iI (RR V (dys y) (Pr V y s) q.1 g)) (fun τ => Fr (a0 + 3 + 1) (a0 + 3 + 2) σ3 τ ∧ ∀ g, g < 10 → τ.1 (a0 + 3 + 1) g = iI (RR V (dys y) (Pr V y s) 10 g)) (by
    rintro g ⟨q, τ⟩ ⟨h0, hF, hv⟩
    simp only at h0 hv hF
    rcases (show q = 10 ∨ q < 10 by omega) with h | h
    · subst h
      refine .inl ⟨τ, ⟨hF, hv⟩, ?_⟩
      show f_X3_reckon_b78 _ _ _ _ _ = _
      unfold f_X3_reckon_b78
      simp (disch := omega) only [iI_lit, ofNat_iI, iI_add, iI_sub, iI_mul, iI_neg, iI_lt_t, iI_lt_f, iI_le_t, iI_le_f, iI_eq_t, iI_eq_f, iI_div, rm_iI, tc_iI, inB_iI, nz_iI, is01_0, is01_1, gd_tt, bd_mk, bv_mk, oc_mk, lt_mk, Bool.false_eq_true, ↓reduceIte]
    · right
      have tp : ∀ g : Nat, g < (V 0).toNat → τ.1 (a0 + 1 + 1) g = iI (Pr V y s g) := by rw [hF.at (by omega)]; exact P3
      obtain ⟨υ, h1, h2, h3⟩ := cutNotches_v (D := dys y) (p := Pr V y s) (N := RR V (dys y) (Pr V y s) q) (r := 9 - q) hK ha hI (S3.fr hF (by omega)) (by rw [hF.at (by omega)]; exact D3) hdb tp (Pr_b V y s) hv (RR_b hdb.2 q) (by omega)
      refine ⟨(q + 1, υ), ⟨by simp only; omega, hF.tr h2, h3⟩, by simp only; omega, ?_⟩
      show f_X3_reckon_b78 _ _ _ _ _ = _
      unfold f_X3_reckon_b78
      simp (disch := omega) only [iI_lit, ofNat_iI, iI_add, iI_sub, iI_mul, iI_neg, iI_lt_t, iI_lt_f, iI_le_t, iI_le_f, iI_eq_t, iI_eq_f, iI_div, rm_iI, tc_iI, inB_iI, nz_iI, is01_0, is01_1, gd_tt, bd_mk, bv_mk, oc_mk, lt_mk, Bool.false_eq_true, ↓reduceIte, h1]
      rw [show (9 : Int) - q + -1 = 9 - ((q + 1 : Nat) : Int) by omega])
  exact Bq FU (0, σ3) ⟨by simp, Fr.rfl, fun g hg => N3 g hg⟩ (by simp only [FU]; omega)
theorem reckon_v {a0 : Nat} {V : Nat → Int} {y s : Int} {σ : St} (hK : RK a0) (ha : 19 < a0) (hI : IV V) (hS : RS σ 1 V) (hy : 0 ≤ y ∧ y ≤ 999) (hs : -5 ≤ s ∧ s ≤ 5) :
    ∃ τ, f_X3_reckon a0 1 (iI y) (iI s) σ = some τ ∧ Fr a0 (a0 + 5) σ τ ∧ RG τ a0 V y s := by
  obtain ⟨hI0, hI1, hI2, hI3, hI4, hI5⟩ := id hI
  obtain ⟨n, hn⟩ : ∃ n, n = (V 0).toNat := ⟨_, rfl⟩
  have hnV : V 0 = (n : Int) := by omega
  have hdb := dys_b y
  unfold f_X3_reckon
  rw [daysIn_v hy.1 (by omega)]
  simp only [bd_mk, lt_mk]
  rw [nyw_v hy.1 (by omega)]
  simp only [bd_mk, lt_mk]
  have e6 : (sI (sI σ a0 2 (iI (dys y))) a0 3 (iI (fwd y))).1 1 6 = iI (V 44) := by rw [sI_c (by omega), sI_c (by omega)]; exact hS.2.1
  rw [e6, moonShift_v hy.1 hy.2 (by omega) hI1.2]
  simp only [bd_mk, lt_mk]
  obtain ⟨σ1, hσ1⟩ : ∃ σ1, σ1 = sI (sI (sI σ a0 2 (iI (dys y))) a0 3 (iI (fwd y))) a0 4 (iI (shf y s (V 44))) := ⟨_, rfl⟩
  rw [← hσ1]
  have F1 : Fr a0 (a0 + 1) σ σ1 := by
    rw [hσ1]; exact ((Fr.sI (Nat.le_refl _) (by omega)).tr (Fr.sI (Nat.le_refl _) (by omega))).tr (Fr.sI (Nat.le_refl _) (by omega))
  have H1 : RH σ1 a0 y s (V 44) := by
    rw [hσ1]
    refine ⟨?_, ?_, ?_⟩
    · rw [sI_k (by omega), sI_k (by omega), sI_hit]
    · rw [sI_k (by omega), sI_hit]
    · rw [sI_hit]
  have S1 : RS σ1 1 V := hS.fr F1 (by omega)
  -- the proper days
  obtain ⟨σ2, ⟨F2, P2⟩, E2⟩ := reckA hK ha hI hnV S1 hy hs H1
  obtain ⟨σ3, E3, F3, N3⟩ := putNowhere_v (c := a0 + 3) hK.2 (by omega) σ2
  -- the notches
  have P3 : ∀ g : Nat, g < (V 0).toNat → σ3.1 (a0 + 1 + 1) g = iI (Pr V y s g) := by
    intro g hg
    rw [F3.at (by omega)]; unfold Pr; rw [← hn] at hg ⊢; exact P2 g hg
  have S3 : RS σ3 1 V := (S1.fr F2 (by omega)).fr F3 (by omega)
  have D3 : σ3.1 a0 2 = iI (dys y) := by rw [F3.at (by omega), F2.at (by omega)]; exact H1.1
  obtain ⟨σ4, ⟨F4, N4⟩, E4⟩ := reckB hK ha hI S3 D3 P3 N3
  refine ⟨σ4, ?_, ?_, ?_, ?_⟩
  · simp only [iI_lit]
    rw [E2, E3]
    simp only [bv_mk, iI_lit]
    rw [show (9 : Int) - ((0 : Nat) : Int) = 9 by omega] at E4
    exact E4
  · exact (((F1.mo (Nat.le_refl _) (by omega)).tr (F2.mo (by omega) (by omega))).tr (F3.mo (by omega) (by omega))).tr (F4.mo (by omega) (by omega))
  · intro g hg
    rw [F4.at (by omega)]; exact P3 g hg
  · exact N4
