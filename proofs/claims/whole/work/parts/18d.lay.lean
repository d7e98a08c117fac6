/-! the reference lays -/
def RMv (σ : St) (V : Nat → Int) : Prop := ∀ k : Nat, k < 111 → σ.1 226 k = iI (V k)
theorem RMv.fr {σ τ : St} {lo hi : Nat} {V : Nat → Int} (h : RMv σ V) (e : Fr lo hi σ τ) (hc : 226 < lo ∨ hi ≤ 226) : RMv τ V := fun k hk => by rw [e.at (by omega)]; exact h k hk
theorem RMv.rd {σ : St} {V : Nat → Int} (h : RMv σ V) {e : Int} {k : Nat} (he : e = k) (hk : k < 111) : σ.1 226 e.toNat = iI (V k) := by
  have : e.toNat = k := by omega
  rw [this]; exact h k hk
theorem daysOf_v {y : Int} (h1 : 0 ≤ y) (h2 : y ≤ 2000) (σ : St) : f_X7_daysOf (iI y) σ = some (iI (dys y), σ) := by
  unfold f_X7_daysOf dys
  by_cases h : y % 4 = 0
  · simp (disch := omega) only [iI_lit, ofNat_iI, iI_add, iI_sub, iI_mul, iI_neg, iI_lt_t, iI_lt_f, iI_le_t, iI_le_f, iI_eq_t, iI_eq_f, iI_div, rm_iI, tc_iI, inB_iI, nz_iI, is01_0, is01_1, gd_tt, bd_mk, bv_mk, oc_mk, lt_mk, Bool.false_eq_true, ↓reduceIte, h]
  · simp (disch := omega) only [iI_lit, ofNat_iI, iI_add, iI_sub, iI_mul, iI_neg, iI_lt_t, iI_lt_f, iI_le_t, iI_le_f, iI_eq_t, iI_eq_f, iI_div, rm_iI, tc_iI, inB_iI, nz_iI, is01_0, is01_1, gd_tt, bd_mk, bv_mk, oc_mk, lt_mk, Bool.false_eq_true, ↓reduceIte, h]
theorem weekday_v {y d : Int} (h1 : 0 ≤ y) (h2 : y ≤ 2000) (h3 : 0 ≤ d) (h4 : d ≤ 1000) (σ : St) : f_X7_weekday (iI y) (iI d) σ = some (iI ((fwd y + d) % 7), σ) := by
  unfold f_X7_weekday fwd
  simp (disch := omega) only [iI_lit, ofNat_iI, iI_add, iI_sub, iI_mul, iI_neg, iI_lt_t, iI_lt_f, iI_le_t, iI_le_f, iI_eq_t, iI_eq_f, iI_div, rm_iI, tc_iI, inB_iI, nz_iI, is01_0, is01_1, gd_tt, bd_mk, bv_mk, oc_mk, lt_mk, Bool.false_eq_true, ↓reduceIte]
  rw [Int.emod_add_emod]
theorem age_v {y d s : Int} {V : Nat → Int} {σ : St} (hM : RMv σ V) (h1 : 0 ≤ y ∧ y ≤ 999) (h3 : 0 ≤ d) (h4 : d ≤ 1000) (hs : -5 ≤ s ∧ s ≤ 5) (hm : 50 ≤ V 44 ∧ V 44 ≤ 400) : f_X7_age (iI y) (iI d) (iI s) σ = some (iI (agd (shf y s (V 44)) d), σ) := by
  have hb := ydiv_b (m := V 44) h1.1 (by omega)
  unfold f_X7_age agd shf
  simp (disch := omega) only [iI_lit, ofNat_iI, iI_add, iI_sub, iI_mul, iI_neg, iI_lt_t, iI_lt_f, iI_le_t, iI_le_f, iI_eq_t, iI_eq_f, iI_div, rm_iI, tc_iI, inB_iI, nz_iI, is01_0, is01_1, gd_tt, bd_mk, bv_mk, oc_mk, lt_mk, Bool.false_eq_true, ↓reduceIte, Int.reduceToNat, hM 44 (by omega)]
def wfr (D c : Int) : Int := if c < D then c else -1
theorem firstWd_l {y D w d0 t : Int} {σ : St} (hy : 0 ≤ y ∧ y ≤ 999) (hD : D = dys y) (hw : w = fwd y) (ht : 0 ≤ t ∧ t ≤ 6) (hd0 : 0 ≤ d0 ∧ d0 ≤ 400) : ∀ (k g : Nat) (d : Int), d0 ≤ d → d ≤ wkf w d0 t → (D - d).toNat < k → k ≤ g → f_X7_firstWeekday_l2 g (iI y) (iI t) (iI d) σ = some (iI (wfr D (wkf w d0 t)), σ) := by
  have hDb := dys_b y
  have hwb := fwd_b y
  rw [← hD] at hDb
  rw [← hw] at hwb
  intro k
  induction k with
  | zero => intro g d _ _ h; omega
  | succ k ih =>
    intro g d h1 h2 hk hg
    obtain ⟨g, rfl⟩ : ∃ g', g = g' + 1 := ⟨g - 1, by omega⟩
    show f_X7_firstWeekday_b2 _ _ _ _ _ = _
    have hc := wkf_b w d0 t
    unfold f_X7_firstWeekday_b2
    rw [daysOf_v hy.1 (by omega), ← hD]
    by_cases c1 : D ≤ d
    · have c2 : ¬ wkf w d0 t < D := by omega
      simp (disch := omega) only [iI_lit, ofNat_iI, iI_add, iI_sub, iI_mul, iI_neg, iI_lt_t, iI_lt_f, iI_le_t, iI_le_f, iI_eq_t, iI_eq_f, iI_div, rm_iI, tc_iI, inB_iI, nz_iI, is01_0, is01_1, gd_tt, bd_mk, bv_mk, oc_mk, lt_mk, Bool.false_eq_true, ↓reduceIte, wfr, if_neg c2]
    · by_cases c2 : (w + d) % 7 = t
      · have c3 : d = wkf w d0 t := by unfold wkf at h2 ⊢; omega
        have c4 : wkf w d0 t < D := by omega
        simp (disch := omega) only [iI_lit, ofNat_iI, iI_add, iI_sub, iI_mul, iI_neg, iI_lt_t, iI_lt_f, iI_le_t, iI_le_f, iI_eq_t, iI_eq_f, iI_div, rm_iI, tc_iI, inB_iI, nz_iI, is01_0, is01_1, gd_tt, bd_mk, bv_mk, oc_mk, lt_mk, Bool.false_eq_true, ↓reduceIte, weekday_v hy.1, ← hw, c2, wfr, if_pos c4]
        rw [← c3]
      · have c3 : d ≠ wkf w d0 t := by unfold wkf; omega
        have h5 := ih g (d + 1) (by omega) (by omega) (by omega) (by omega)
        simp (disch := omega) only [iI_lit, ofNat_iI, iI_add, iI_sub, iI_mul, iI_neg, iI_lt_t, iI_lt_f, iI_le_t, iI_le_f, iI_eq_t, iI_eq_f, iI_div, rm_iI, tc_iI, inB_iI, nz_iI, is01_0, is01_1, gd_tt, bd_mk, bv_mk, oc_mk, lt_mk, Bool.false_eq_true, ↓reduceIte, weekday_v hy.1, ← hw, c2, h5]
theorem firstWd_v {y t d0 : Int} (σ : St) (hy : 0 ≤ y ∧ y ≤ 999) (ht : 0 ≤ t ∧ t ≤ 6) (hd0 : 0 ≤ d0 ∧ d0 ≤ 400) : f_X7_firstWeekday (iI y) (iI d0) (iI t) σ = some (iI (wfr (dys y) (wkf (fwd y) d0 t)), σ) := by
  have h := dys_b y
  exact firstWd_l hy rfl rfl ht hd0 1000 FU d0 (Int.le_refl _) (wkf_b _ _ _).1 (by omega) (by simp only [FU]; omega)
theorem firstFull_l {y s D : Int} {V : Nat → Int} {σ : St} (hM : RMv σ V) (hy : 0 ≤ y ∧ y ≤ 999) (hD : D = dys y) (hs : -5 ≤ s ∧ s ≤ 5) (hm : 50 ≤ V 44 ∧ V 44 ≤ 400) : ∀ (k g : Nat) (d : Int), 0 ≤ d → d ≤ 900 → (D - d).toNat < k → k ≤ g → f_X7_firstFull_l3 g (iI y) (iI s) (iI d) σ = some (iI (ful (shf y s (V 44)) D k d), σ) := by
  have hDb := dys_b y
  rw [← hD] at hDb
  intro k
  induction k with
  | zero => intro g d _ _ h; omega
  | succ k ih =>
    intro g d h1 h2 hk hg
    obtain ⟨g, rfl⟩ : ∃ g', g = g' + 1 := ⟨g - 1, by omega⟩
    show f_X7_firstFull_b3 _ _ _ _ _ = _
    unfold f_X7_firstFull_b3 ful
    rw [daysOf_v hy.1 (by omega), ← hD]
    have hb := agd_b (shf y s (V 44)) d
    by_cases c1 : D ≤ d
    · simp (disch := omega) only [iI_lit, ofNat_iI, iI_add, iI_sub, iI_mul, iI_neg, iI_lt_t, iI_lt_f, iI_le_t, iI_le_f, iI_eq_t, iI_eq_f, iI_div, rm_iI, tc_iI, inB_iI, nz_iI, is01_0, is01_1, gd_tt, bd_mk, bv_mk, oc_mk, lt_mk, Bool.false_eq_true, ↓reduceIte, c1]
    · have ha := age_v (d := d) hM hy h1 (by omega) hs hm
      by_cases c2 : agd (shf y s (V 44)) d = 14
      · simp (disch := omega) only [iI_lit, ofNat_iI, iI_add, iI_sub, iI_mul, iI_neg, iI_lt_t, iI_lt_f, iI_le_t, iI_le_f, iI_eq_t, iI_eq_f, iI_div, rm_iI, tc_iI, inB_iI, nz_iI, is01_0, is01_1, gd_tt, bd_mk, bv_mk, oc_mk, lt_mk, Bool.false_eq_true, ↓reduceIte, ha, c1, c2]
      · have h5 := ih g (d + 1) (by omega) (by omega) (by omega) (by omega)
        simp (disch := omega) only [iI_lit, ofNat_iI, iI_add, iI_sub, iI_mul, iI_neg, iI_lt_t, iI_lt_f, iI_le_t, iI_le_f, iI_eq_t, iI_eq_f, iI_div, rm_iI, tc_iI, inB_iI, nz_iI, is01_0, is01_1, gd_tt, bd_mk, bv_mk, oc_mk, lt_mk, Bool.false_eq_true, ↓reduceIte, ha, c1, c2, h5]
theorem firstFull_v {y s d : Int} {V : Nat → Int} {σ : St} (hM : RMv σ V) (hy : 0 ≤ y ∧ y ≤ 999) (hs : -5 ≤ s ∧ s ≤ 5) (hm : 50 ≤ V 44 ∧ V 44 ≤ 400) (hd : 0 ≤ d ∧ d ≤ 400) : f_X7_firstFull (iI y) (iI d) (iI s) σ = some (iI (ful (shf y s (V 44)) (dys y) 400 d), σ) := by
  have h := dys_b y
  exact firstFull_l hM hy rfl hs hm 400 FU d hd.1 (by omega) (by omega) (by simp only [FU]; omega)
theorem in_v {x a b : Int} (h1 : -10000 ≤ x ∧ x ≤ 10000) (h2 : -10000 ≤ a ∧ a ≤ 10000) (h3 : -10000 ≤ b ∧ b ≤ 10000) (σ : St) : f_X7_in (iI x) (iI a) (iI b) σ = some (iI (if a ≤ x ∧ x ≤ b then 1 else 0), σ) := by
  unfold f_X7_in
  by_cases c1 : x < a
  · have c3 : ¬ (a ≤ x ∧ x ≤ b) := by omega
    simp (disch := omega) only [iI_lit, ofNat_iI, iI_add, iI_sub, iI_mul, iI_neg, iI_lt_t, iI_lt_f, iI_le_t, iI_le_f, iI_eq_t, iI_eq_f, iI_div, rm_iI, tc_iI, inB_iI, nz_iI, is01_0, is01_1, gd_tt, bd_mk, bv_mk, oc_mk, lt_mk, Bool.false_eq_true, ↓reduceIte, if_neg c3]
  · by_cases c2 : b < x
    · have c3 : ¬ (a ≤ x ∧ x ≤ b) := by omega
      simp (disch := omega) only [iI_lit, ofNat_iI, iI_add, iI_sub, iI_mul, iI_neg, iI_lt_t, iI_lt_f, iI_le_t, iI_le_f, iI_eq_t, iI_eq_f, iI_div, rm_iI, tc_iI, inB_iI, nz_iI, is01_0, is01_1, gd_tt, bd_mk, bv_mk, oc_mk, lt_mk, Bool.false_eq_true, ↓reduceIte, if_neg c3]
    · have c3 : a ≤ x ∧ x ≤ b := by omega
      simp (disch := omega) only [iI_lit, ofNat_iI, iI_add, iI_sub, iI_mul, iI_neg, iI_lt_t, iI_lt_f, iI_le_t, iI_le_f, iI_eq_t, iI_eq_f, iI_div, rm_iI, tc_iI, inB_iI, nz_iI, is01_0, is01_1, gd_tt, bd_mk, bv_mk, oc_mk, lt_mk, Bool.false_eq_true, ↓reduceIte, if_pos c3]
theorem find158 {K2 : Int32 → Int32 → Int32 → St → Option St} {y x : Int} {s : Int32} {f : Nat} {σ : St} (hy : 0 ≤ y ∧ y ≤ 999) (hx : -1000 ≤ x ∧ x ≤ 1000) (hf : f < 10) : f_X7_findProper_b158 K2 (iI y) s (iI f) (iI x) σ = K2 (iI y) s (iI ((f + 1 : Nat) : Int)) (sI σ 229 f (iI (orN (dys y) x))) := by
  have h := dys_b y
  have e0 : ((f : Int)).toNat = f := by omega
  have e1 : (f : Int) + 1 = ((f + 1 : Nat) : Int) := by omega
  unfold f_X7_findProper_b158
  rw [daysOf_v hy.1 (by omega)]
  by_cases c : 0 ≤ x ∧ x < dys y
  · have c' : 0 ≤ x ∧ x ≤ dys y - 1 := by omega
    simp (disch := omega) only [iI_lit, ofNat_iI, iI_add, iI_sub, iI_mul, iI_neg, iI_lt_t, iI_lt_f, iI_le_t, iI_le_f, iI_eq_t, iI_eq_f, iI_div, rm_iI, tc_iI, inB_iI, nz_iI, is01_0, is01_1, gd_tt, bd_mk, bv_mk, oc_mk, lt_mk, Bool.false_eq_true, ↓reduceIte, in_v, if_pos c', e0, e1, orN, if_pos c]
  · have c' : ¬ (0 ≤ x ∧ x ≤ dys y - 1) := by omega
    simp (disch := omega) only [iI_lit, ofNat_iI, iI_add, iI_sub, iI_mul, iI_neg, iI_lt_t, iI_lt_f, iI_le_t, iI_le_f, iI_eq_t, iI_eq_f, iI_div, rm_iI, tc_iI, inB_iI, nz_iI, is01_0, is01_1, gd_tt, bd_mk, bv_mk, oc_mk, lt_mk, Bool.false_eq_true, ↓reduceIte, in_v, if_neg c', e0, e1, orN, if_neg c]
theorem orN_wfr {D c : Int} (h : 0 ≤ c) (hD : 0 < D) : orN D (wfr D c) = orN D c := by
  unfold wfr
  split
  · rfl
  · unfold orN; rw [if_neg (by omega), if_neg (by omega)]
theorem orN_m1 {D : Int} : orN D (-1) = -1 := by unfold orN; rw [if_neg (by omega)]
theorem find_step {K2 : Int32 → Int32 → Int32 → St → Option St} {y s : Int} {V : Nat → Int} {f : Nat} {σ : St} {p : Nat → Int} (hM : RMv σ V) (hI : IV V) (hfn : (f : Int) < V 0) (hy : 0 ≤ y ∧ y ≤ 999) (hs : -5 ≤ s ∧ s ≤ 5) (hp : ∀ g, g < f → σ.1 229 g = iI (p g)) (hpb : ∀ g, -1 ≤ p g ∧ p g ≤ 365) : f_X7_findProper_b2 K2 (iI y) (iI s) (iI f) σ = K2 (iI y) (iI s) (iI ((f + 1 : Nat) : Int)) (sI σ 229 f (iI (orN (dys y) (rawP V y s p f)))) := by
  obtain ⟨hI0, hI1, hI2, hI3, hI4, hI5⟩ := id hI
  obtain ⟨a1, a2, a3, a4, a5, a6, a7, a8, a9, a10, a11⟩ := hI4 f hfn
  have hDb := dys_b y
  have hwb := fwd_b y
  have m0 := hM 0 (by omega)
  have r1 := hM.rd (e := 1 + 4 * (f : Int) + 2) (k := 3 + 4 * f) (by omega) (by omega)
  have r2 := hM.rd (e := 1 + 4 * (f : Int) + 3) (k := 4 + 4 * f) (by omega) (by omega)
  have r3 := hM.rd (e := 1 + 4 * (f : Int) + 0) (k := 1 + 4 * f) (by omega) (by omega)
  unfold f_X7_findProper_b2 f_X7_of
  by_cases c2 : V (1 + 4 * f) = 2
  · have h6 := a10 (.inr c2)
    have h7 := a9 (by omega)
    have hful := firstFull_v (d := V (3 + 4 * f)) hM hy hs hI1 (by omega)
    have hfb := ful_b (shf y s (V 44)) (dys y) 400 (V (3 + 4 * f))
    obtain ⟨u, hu⟩ : ∃ u, u = ful (shf y s (V 44)) (dys y) 400 (V (3 + 4 * f)) := ⟨_, rfl⟩
    rw [← hu] at hful hfb
    simp (disch := omega) only [iI_lit, ofNat_iI, iI_add, iI_sub, iI_mul, iI_neg, iI_lt_t, iI_lt_f, iI_le_t, iI_le_f, iI_eq_t, iI_eq_f, iI_div, rm_iI, tc_iI, inB_iI, nz_iI, is01_0, is01_1, gd_tt, bd_mk, bv_mk, oc_mk, lt_mk, Bool.false_eq_true, ↓reduceIte, Int.reduceToNat, m0, r1, r2, r3, c2, hful]
    unfold f_X7_findProper_b66
    simp (disch := omega) only [iI_lit, ofNat_iI, iI_add, iI_sub, iI_mul, iI_neg, iI_lt_t, iI_lt_f, iI_le_t, iI_le_f, iI_eq_t, iI_eq_f, iI_div, rm_iI, tc_iI, inB_iI, nz_iI, is01_0, is01_1, gd_tt, bd_mk, bv_mk, oc_mk, lt_mk, Bool.false_eq_true, ↓reduceIte, c2]
    unfold f_X7_findProper_b85
    by_cases c4 : u = -1
    · simp (disch := omega) only [iI_lit, ofNat_iI, iI_add, iI_sub, iI_mul, iI_neg, iI_lt_t, iI_lt_f, iI_le_t, iI_le_f, iI_eq_t, iI_eq_f, iI_div, rm_iI, tc_iI, inB_iI, nz_iI, is01_0, is01_1, gd_tt, bd_mk, bv_mk, oc_mk, lt_mk, Bool.false_eq_true, ↓reduceIte, c2, c4]
      rw [find158 hy (by omega) (by omega)]
      unfold rawP
      simp (disch := omega) only [c2, ← hu, c4, pmn, ↓reduceIte, Int.reduceEq]
    · have hwd := firstWd_v (d0 := u + 1) (t := V (4 + 4 * f)) σ hy h6 (by omega)
      have hwk := wkf_b (fwd y) (u + 1) (V (4 + 4 * f))
      simp (disch := omega) only [iI_lit, ofNat_iI, iI_add, iI_sub, iI_mul, iI_neg, iI_lt_t, iI_lt_f, iI_le_t, iI_le_f, iI_eq_t, iI_eq_f, iI_div, rm_iI, tc_iI, inB_iI, nz_iI, is01_0, is01_1, gd_tt, bd_mk, bv_mk, oc_mk, lt_mk, Bool.false_eq_true, ↓reduceIte, c2, c4, hwd]
      rw [find158 hy (by unfold wfr; split <;> omega) (by omega)]
      unfold rawP
      simp (disch := omega) only [c2, ← hu, pmn, if_neg c4, ↓reduceIte, Int.reduceEq, orN_wfr]
  · have c2' : ¬ (iI (V (1 + 4 * f)) = iI 2) := by rw [iI_eq (by omega) (by omega) (by omega) (by omega)]; exact c2
    simp (disch := omega) only [iI_lit, ofNat_iI, iI_add, iI_sub, iI_mul, iI_neg, iI_lt_t, iI_lt_f, iI_le_t, iI_le_f, iI_eq_t, iI_eq_f, iI_div, rm_iI, tc_iI, inB_iI, nz_iI, is01_0, is01_1, gd_tt, bd_mk, bv_mk, oc_mk, lt_mk, Bool.false_eq_true, ↓reduceIte, Int.reduceToNat, m0, r1, r2, r3, c2]
    unfold f_X7_findProper_b66
    by_cases c3 : V (1 + 4 * f) = 3
    · have h6 := a11 c3
      have h8 := hp (V (4 + 4 * f)).toNat (by omega)
      have h9 := hpb (V (4 + 4 * f)).toNat
      simp (disch := omega) only [iI_lit, ofNat_iI, iI_add, iI_sub, iI_mul, iI_neg, iI_lt_t, iI_lt_f, iI_le_t, iI_le_f, iI_eq_t, iI_eq_f, iI_div, rm_iI, tc_iI, inB_iI, nz_iI, is01_0, is01_1, gd_tt, bd_mk, bv_mk, oc_mk, lt_mk, Bool.false_eq_true, ↓reduceIte, c3, h8]
      unfold f_X7_findProper_b85
      by_cases c4 : p (V (4 + 4 * f)).toNat = -1
      · simp (disch := omega) only [iI_lit, ofNat_iI, iI_add, iI_sub, iI_mul, iI_neg, iI_lt_t, iI_lt_f, iI_le_t, iI_le_f, iI_eq_t, iI_eq_f, iI_div, rm_iI, tc_iI, inB_iI, nz_iI, is01_0, is01_1, gd_tt, bd_mk, bv_mk, oc_mk, lt_mk, Bool.false_eq_true, ↓reduceIte, c3, c4]
        rw [find158 hy (by omega) (by omega)]
        unfold rawP
        simp (disch := omega) only [c3, c4, ↓reduceIte, Int.reduceEq]
      · simp (disch := omega) only [iI_lit, ofNat_iI, iI_add, iI_sub, iI_mul, iI_neg, iI_lt_t, iI_lt_f, iI_le_t, iI_le_f, iI_eq_t, iI_eq_f, iI_div, rm_iI, tc_iI, inB_iI, nz_iI, is01_0, is01_1, gd_tt, bd_mk, bv_mk, oc_mk, lt_mk, Bool.false_eq_true, ↓reduceIte, c3, c4]
        rw [find158 hy (by omega) (by omega)]
        unfold rawP
        simp (disch := omega) only [c3, if_neg c4, ↓reduceIte, Int.reduceEq]
    · simp (disch := omega) only [iI_lit, ofNat_iI, iI_add, iI_sub, iI_mul, iI_neg, iI_lt_t, iI_lt_f, iI_le_t, iI_le_f, iI_eq_t, iI_eq_f, iI_div, rm_iI, tc_iI, inB_iI, nz_iI, is01_0, is01_1, gd_tt, bd_mk, bv_mk, oc_mk, lt_mk, Bool.false_eq_true, ↓reduceIte, c3]
      unfold f_X7_findProper_b85
      by_cases c0 : V (1 + 4 * f) = 0
      · simp (disch := omega) only [iI_lit, ofNat_iI, iI_add, iI_sub, iI_mul, iI_neg, iI_lt_t, iI_lt_f, iI_le_t, iI_le_f, iI_eq_t, iI_eq_f, iI_div, rm_iI, tc_iI, inB_iI, nz_iI, is01_0, is01_1, gd_tt, bd_mk, bv_mk, oc_mk, lt_mk, Bool.false_eq_true, ↓reduceIte, c0]
        rw [find158 hy (by omega) (by omega)]
        unfold rawP
        simp (disch := omega) only [c0, ↓reduceIte, Int.reduceEq]
      · have c1 : V (1 + 4 * f) = 1 := by omega
        have h6 := a10 (.inl c1)
        have h7 := a9 (by omega)
        have hwd := firstWd_v (d0 := V (3 + 4 * f)) (t := V (4 + 4 * f)) σ hy h6 (by omega)
        have hwk := wkf_b (fwd y) (V (3 + 4 * f)) (V (4 + 4 * f))
        simp (disch := omega) only [iI_lit, ofNat_iI, iI_add, iI_sub, iI_mul, iI_neg, iI_lt_t, iI_lt_f, iI_le_t, iI_le_f, iI_eq_t, iI_eq_f, iI_div, rm_iI, tc_iI, inB_iI, nz_iI, is01_0, is01_1, gd_tt, bd_mk, bv_mk, oc_mk, lt_mk, Bool.false_eq_true, ↓reduceIte, c1, hwd]
        rw [find158 hy (by unfold wfr; split <;> omega) (by omega)]
        unfold rawP
        simp (disch := omega) only [c1, ↓reduceIte, Int.reduceEq, orN_wfr]
theorem findProper_v {y s : Int} {V : Nat → Int} {σ : St} (hM : RMv σ V) (hI : IV V) (hy : 0 ≤ y ∧ y ≤ 999) (hs : -5 ≤ s ∧ s ≤ 5) : ∃ τ, f_X7_findProper (iI y) (iI s) σ = some τ ∧ Fr 229 230 σ τ ∧ ∀ g : Nat, g < (V 0).toNat → τ.1 229 g = iI (Pr V y s g) := by
  obtain ⟨hI0, hI1, hI2, hI3, hI4, hI5⟩ := id hI
  obtain ⟨n, hn⟩ : ∃ n, n = (V 0).toNat := ⟨_, rfl⟩
  have hnV : V 0 = (n : Int) := by omega
  unfold Pr
  rw [← hn]
  have A := wlp (F := fun g (q : Nat × St) => f_X7_findProper_l2 g (iI y) (iI s) (iI q.1) q.2) (X := fun τ => some τ) (fun q => n - q.1) (fun q => q.1 ≤ n ∧ Fr 229 230 σ q.2 ∧ ∀ g, g < q.1 → q.2.1 229 g = iI (PT V y s q.1 g)) (fun τ => Fr 229 230 σ τ ∧ ∀ g, g < n → τ.1 229 g = iI (PT V y s n g)) (by
    rintro g ⟨f, τ⟩ ⟨h0, hF, hv⟩
    simp only at h0 hv hF
    have tM : RMv τ V := hM.fr hF (by omega)
    rcases (show f = n ∨ f < n by omega) with h | h
    · subst h
      refine .inl ⟨τ, ⟨hF, hv⟩, ?_⟩
      show f_X7_findProper_b2 _ _ _ _ _ = _
      unfold f_X7_findProper_b2
      have m0 := tM 0 (by omega)
      rw [hnV] at m0
      simp (disch := omega) only [iI_lit, ofNat_iI, iI_add, iI_sub, iI_mul, iI_neg, iI_lt_t, iI_lt_f, iI_le_t, iI_le_f, iI_eq_t, iI_eq_f, iI_div, rm_iI, tc_iI, inB_iI, nz_iI, is01_0, is01_1, gd_tt, bd_mk, bv_mk, oc_mk, lt_mk, Bool.false_eq_true, ↓reduceIte, Int.reduceToNat, m0]
    · right
      refine ⟨(f + 1, sI τ 229 f (iI (orN (dys y) (rawP V y s (PT V y s f) f)))), ⟨by simp only; omega, hF.tr (Fr.sI (by omega) (by omega)), fun g hg => ?_⟩, by simp only; omega, ?_⟩
      · show _ = iI (updf (PT V y s f) f _ g)
        by_cases hk : g = f
        · rw [hk, sI_hit, updf_at]
        · simp only at hg
          rw [sI_k hk, updf_ne hk]; exact hv g (by omega)
      · show f_X7_findProper_b2 _ _ _ _ _ = _
        exact find_step tM hI (by omega) hy hs hv (PT_b V y s f))
  obtain ⟨τ, ⟨h1, h2⟩, h3⟩ := A FU (0, σ) ⟨by simp, Fr.rfl, fun g hg => by simp only at hg; omega⟩ (by simp only [FU]; omega)
  exact ⟨τ, h3, h1, h2⟩
