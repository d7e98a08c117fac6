/-! what is asked over councils: the lowest feast, the outermost day, the next year alike -/
theorem SL_b {V : Nat → Int} (hI : IV V) {c : Nat} (hc : c < 3) : -5 ≤ SL V c ∧ SL V c ≤ 5 := hI.2.2.2.1 c hc
theorem IV.n {V : Nat → Int} (hI : IV V) : ∃ n : Nat, V 0 = (n : Int) ∧ n ≤ 10 ∧ (V 0).toNat = n := ⟨(V 0).toNat, by have := hI.1; omega, by have := hI.1; omega, rfl⟩
/-- the first place with P, from j on among k -/
def fst1 (P : Nat → Bool) : Nat → Nat → Int
  | 0, _ => -1
  | k + 1, j => if P j = true then (j : Int) else fst1 P k (j + 1)
theorem lpk {ρ : Type} {F : Nat → Nat → ρ} {R : Nat → Nat → ρ} {n : Nat} (last : ∀ g, F (g + 1) n = R 0 n) (step : ∀ g k j, j + (k + 1) = n → k < g → F g (j + 1) = R k (j + 1) → F (g + 1) j = R (k + 1) j) : ∀ (k g j : Nat), j + k = n → k < g → F g j = R k j := by
  intro k
  induction k with
  | zero =>
    intro g j h1 h2
    obtain ⟨g, rfl⟩ : ∃ g', g = g' + 1 := ⟨g - 1, by omega⟩
    rw [show j = n by omega]; exact last g
  | succ k ih =>
    intro g j h1 h2
    obtain ⟨g, rfl⟩ : ∃ g', g = g' + 1 := ⟨g - 1, by omega⟩
    exact step g k j (by omega) (by omega) (ih g (j + 1) (by omega) (by omega))
def lfP (V : Nat → Int) (y d : Int) (f : Nat) : Bool := decide (stl V y (SL V) f = d)
theorem lowest_v {V : Nat → Int} {y d : Int} {σ : St} {n : Nat} (hI : IV V) (hS : RS σ 1 V) (hn : V 0 = (n : Int)) (hy : 0 ≤ y ∧ y ≤ 999) (hd : 0 ≤ d ∧ d ≤ 400) : ∃ τ, f_X6_lowestFeastOn (iI y) (iI d) σ = some (iI (fst1 (lfP V y d) n 0), τ) ∧ Fr 144 160 σ τ := by
  have hn10 := hI.1
  obtain ⟨τ, x1, x2, x3⟩ := gather_v (a0 := 144) ck_144 (by omega) hI hS hy
  have m0 : τ.1 1 0 = iI (n : Int) := by rw [x2.at (by omega), hS.1, hn]
  have H := lpk (F := fun g j => f_X6_lowestFeastOn_l14 g (iI d) (iI (j : Int)) τ) (R := fun k j => some (iI (fst1 (lfP V y d) k j), τ)) (n := n) (by
    intro g
    show f_X6_lowestFeastOn_b14 _ _ _ _ = some (iI (-1), τ)
    unfold f_X6_lowestFeastOn_b14
    simp (disch := omega) only [iI_lit, ofNat_iI, iI_add, iI_sub, iI_mul, iI_neg, iI_lt_t, iI_lt_f, iI_le_t, iI_le_f, iI_eq_t, iI_eq_f, iI_div, rm_iI, tc_iI, inB_iI, nz_iI, is01_0, is01_1, gd_tt, bd_mk, bv_mk, oc_mk, lt_mk, Bool.false_eq_true, ↓reduceIte, m0]) (by
    intro g k j hj hg h
    have h : f_X6_lowestFeastOn_l14 g (iI d) (iI ((j + 1 : Nat) : Int)) τ = some (iI (fst1 (lfP V y d) k (j + 1)), τ) := h
    have k0 := settledNotch_v (f := j) ck_144 x3 (by omega)
    have b0 := stl_b V y (SL V) j
    have e1 : (j : Int) + 1 = ((j + 1 : Nat) : Int) := by omega
    show f_X6_lowestFeastOn_b14 _ _ _ _ = some (iI (if lfP V y d j = true then (j : Int) else fst1 (lfP V y d) k (j + 1)), τ)
    unfold f_X6_lowestFeastOn_b14
    by_cases c1 : stl V y (SL V) j = d
    · rw [if_pos (show lfP V y d j = true from decide_eq_true c1)]
      simp (disch := omega) only [iI_lit, ofNat_iI, iI_add, iI_sub, iI_mul, iI_neg, iI_lt_t, iI_lt_f, iI_le_t, iI_le_f, iI_eq_t, iI_eq_f, iI_div, rm_iI, tc_iI, inB_iI, nz_iI, is01_0, is01_1, gd_tt, bd_mk, bv_mk, oc_mk, lt_mk, Bool.false_eq_true, ↓reduceIte, m0, k0]
    · rw [if_neg (show ¬ lfP V y d j = true from fun q => c1 (of_decide_eq_true q))]
      simp (disch := omega) only [iI_lit, ofNat_iI, iI_add, iI_sub, iI_mul, iI_neg, iI_lt_t, iI_lt_f, iI_le_t, iI_le_f, iI_eq_t, iI_eq_f, iI_div, rm_iI, tc_iI, inB_iI, nz_iI, is01_0, is01_1, gd_tt, bd_mk, bv_mk, oc_mk, lt_mk, Bool.false_eq_true, ↓reduceIte, m0, k0, e1, h]) n FU 0 (by omega) (by simp only [FU]; omega)
  refine ⟨τ, ?_, x2⟩
  unfold f_X6_lowestFeastOn
  simp (disch := omega) only [iI_lit, ofNat_iI, iI_add, iI_sub, iI_mul, iI_neg, iI_lt_t, iI_lt_f, iI_le_t, iI_le_f, iI_eq_t, iI_eq_f, iI_div, rm_iI, tc_iI, inB_iI, nz_iI, is01_0, is01_1, gd_tt, bd_mk, bv_mk, oc_mk, lt_mk, Bool.false_eq_true, ↓reduceIte, x1]
  exact H
/-! the outermost -/
def exs (b fd x : Int) : Int := if x = -1 then fd else if fd = -1 then x else if b = 0 then (if fd ≤ x then fd else x) else if x ≤ fd then fd else x
def ext (V : Nat → Int) (f : Nat) (b : Int) : Nat → Int → Int → Int
  | 0, _, fd => fd
  | k + 1, z, fd => if 999 < z then fd else ext V f b k (z + 1) (exs b fd (stl V z (SL V) f))
theorem exs_b {b fd x : Int} (h1 : -1 ≤ fd ∧ fd ≤ 365) (h2 : -1 ≤ x ∧ x ≤ 365) : -1 ≤ exs b fd x ∧ exs b fd x ≤ 365 := by
  unfold exs
  split
  · exact h1
  · split
    · exact h2
    · split
      · split
        · exact h1
        · exact h2
      · split
        · exact h1
        · exact h2
theorem outC_v {V : Nat → Int} {f : Nat} {b y0 ys : Int} (hI : IV V) (hf : (f : Int) < V 0) (hb : b = 0 ∨ b = 1) (hy : 0 ≤ y0 ∧ y0 ≤ 999) (hys : 1 ≤ ys ∧ ys ≤ 40) : ∀ (k g : Nat) (z fd : Int) (σ : St), z + k = y0 + ys → k < g → y0 ≤ z → (-1 ≤ fd ∧ fd ≤ 365) → RS σ 1 V → ∃ τ, f_X6_outermost_l6 g (iI (f : Int)) (iI y0) (iI ys) (iI b) (iI fd) (iI z) σ = some (iI (ext V f b k z fd), τ) ∧ Fr 144 160 σ τ := by
  have hn10 := hI.1
  intro k
  induction k with
  | zero =>
    intro g z fd σ hz hg hz0 hfd hS
    obtain ⟨g, rfl⟩ : ∃ g', g = g' + 1 := ⟨g - 1, by omega⟩
    refine ⟨σ, ?_, Fr.rfl⟩
    show f_X6_outermost_b6 _ _ _ _ _ _ _ _ = some (iI fd, σ)
    unfold f_X6_outermost_b6
    simp (disch := omega) only [iI_lit, ofNat_iI, iI_add, iI_sub, iI_mul, iI_neg, iI_lt_t, iI_lt_f, iI_le_t, iI_le_f, iI_eq_t, iI_eq_f, iI_div, rm_iI, tc_iI, inB_iI, nz_iI, is01_0, is01_1, gd_tt, bd_mk, bv_mk, oc_mk, lt_mk, Bool.false_eq_true, ↓reduceIte]
  | succ k ih =>
    intro g z fd σ hz hg hz0 hfd hS
    obtain ⟨g, rfl⟩ : ∃ g', g = g' + 1 := ⟨g - 1, by omega⟩
    by_cases c0 : 999 < z
    · refine ⟨σ, ?_, Fr.rfl⟩
      show f_X6_outermost_b6 _ _ _ _ _ _ _ _ = some (iI (if 999 < z then fd else ext V f b k (z + 1) (exs b fd (stl V z (SL V) f))), σ)
      unfold f_X6_outermost_b6
      rw [if_pos c0]
      simp (disch := omega) only [iI_lit, ofNat_iI, iI_add, iI_sub, iI_mul, iI_neg, iI_lt_t, iI_lt_f, iI_le_t, iI_le_f, iI_eq_t, iI_eq_f, iI_div, rm_iI, tc_iI, inB_iI, nz_iI, is01_0, is01_1, gd_tt, bd_mk, bv_mk, oc_mk, lt_mk, Bool.false_eq_true, ↓reduceIte]
    · obtain ⟨τ, x1, x2, x3⟩ := gather_v (a0 := 144) (y := z) ck_144 (by omega) hI hS (by omega)
      have k0 := settledNotch_v (f := f) ck_144 x3 (by omega)
      have b0 := stl_b V z (SL V) f
      obtain ⟨x, hx⟩ : ∃ x, x = stl V z (SL V) f := ⟨_, rfl⟩
      rw [← hx] at k0 b0
      obtain ⟨υ, y1, y2⟩ := ih g (z + 1) (exs b fd x) τ (by omega) (by omega) (by omega) (exs_b hfd b0) (hS.fr x2 (by omega))
      refine ⟨υ, ?_, x2.tr y2⟩
      show f_X6_outermost_b6 _ _ _ _ _ _ _ _ = some (iI (if 999 < z then fd else ext V f b k (z + 1) (exs b fd (stl V z (SL V) f))), υ)
      unfold f_X6_outermost_b6
      rw [if_neg c0, ← hx, ← y1]
      unfold exs
      by_cases c1 : x = -1
      · simp (disch := omega) only [iI_lit, ofNat_iI, iI_add, iI_sub, iI_mul, iI_neg, iI_lt_t, iI_lt_f, iI_le_t, iI_le_f, iI_eq_t, iI_eq_f, iI_div, rm_iI, tc_iI, inB_iI, nz_iI, is01_0, is01_1, gd_tt, bd_mk, bv_mk, oc_mk, lt_mk, Bool.false_eq_true, ↓reduceIte, x1, k0, c1]
      · by_cases c2 : fd = -1
        · simp (disch := omega) only [iI_lit, ofNat_iI, iI_add, iI_sub, iI_mul, iI_neg, iI_lt_t, iI_lt_f, iI_le_t, iI_le_f, iI_eq_t, iI_eq_f, iI_div, rm_iI, tc_iI, inB_iI, nz_iI, is01_0, is01_1, gd_tt, bd_mk, bv_mk, oc_mk, lt_mk, Bool.false_eq_true, ↓reduceIte, x1, k0, c1, c2]
        · rcases hb with c3 | c3
          · by_cases c4 : fd ≤ x
            · simp (disch := omega) only [iI_lit, ofNat_iI, iI_add, iI_sub, iI_mul, iI_neg, iI_lt_t, iI_lt_f, iI_le_t, iI_le_f, iI_eq_t, iI_eq_f, iI_div, rm_iI, tc_iI, inB_iI, nz_iI, is01_0, is01_1, gd_tt, bd_mk, bv_mk, oc_mk, lt_mk, Bool.false_eq_true, ↓reduceIte, x1, k0, c1, c2, c3, c4]
            · simp (disch := omega) only [iI_lit, ofNat_iI, iI_add, iI_sub, iI_mul, iI_neg, iI_lt_t, iI_lt_f, iI_le_t, iI_le_f, iI_eq_t, iI_eq_f, iI_div, rm_iI, tc_iI, inB_iI, nz_iI, is01_0, is01_1, gd_tt, bd_mk, bv_mk, oc_mk, lt_mk, Bool.false_eq_true, ↓reduceIte, x1, k0, c1, c2, c3, c4]
          · by_cases c4 : x ≤ fd
            · simp (disch := omega) only [iI_lit, ofNat_iI, iI_add, iI_sub, iI_mul, iI_neg, iI_lt_t, iI_lt_f, iI_le_t, iI_le_f, iI_eq_t, iI_eq_f, iI_div, rm_iI, tc_iI, inB_iI, nz_iI, is01_0, is01_1, gd_tt, bd_mk, bv_mk, oc_mk, lt_mk, Bool.false_eq_true, ↓reduceIte, x1, k0, c1, c2, c3, c4, Int.one_ne_zero]
            · simp (disch := omega) only [iI_lit, ofNat_iI, iI_add, iI_sub, iI_mul, iI_neg, iI_lt_t, iI_lt_f, iI_le_t, iI_le_f, iI_eq_t, iI_eq_f, iI_div, rm_iI, tc_iI, inB_iI, nz_iI, is01_0, is01_1, gd_tt, bd_mk, bv_mk, oc_mk, lt_mk, Bool.false_eq_true, ↓reduceIte, x1, k0, c1, c2, c3, c4, Int.one_ne_zero]
def otm (V : Nat → Int) (f : Nat) (b y0 ys : Int) : Int := ext V f b ys.toNat y0 (-1)
theorem ext_b (V : Nat → Int) (f : Nat) (b : Int) : ∀ k z fd, (-1 ≤ fd ∧ fd ≤ 365) → -1 ≤ ext V f b k z fd ∧ ext V f b k z fd ≤ 365 := by
  intro k
  induction k with
  | zero => intro z fd h; exact h
  | succ k ih =>
    intro z fd h
    unfold ext
    split
    · exact h
    · exact ih _ _ (exs_b h (stl_b V z (SL V) f))
theorem outC {V : Nat → Int} {f : Nat} {b y0 ys : Int} {σ : St} (hI : IV V) (hS : RS σ 1 V) (hf : (f : Int) < V 0) (hb : b = 0 ∨ b = 1) (hy : 0 ≤ y0 ∧ y0 ≤ 999) (hys : 1 ≤ ys ∧ ys ≤ 40) : ∃ τ, f_X6_outermost (iI (f : Int)) (iI y0) (iI ys) (iI b) σ = some (iI (otm V f b y0 ys), τ) ∧ Fr 144 160 σ τ := by
  obtain ⟨τ, h1, h2⟩ := outC_v hI hf hb hy hys ys.toNat FU y0 (-1) σ (by omega) (by simp only [FU]; omega) (by omega) (by omega) hS
  refine ⟨τ, ?_, h2⟩
  unfold f_X6_outermost
  simp only [iI_lit, iI_neg]
  exact h1
/-! the next year alike -/
def allN (P : Nat → Bool) : Nat → Nat → Bool
  | 0, _ => true
  | k + 1, j => if P j = true then allN P k (j + 1) else false
def alP (V : Nat → Int) (y z : Int) (f : Nat) : Bool := decide (stl V z (SL V) f = stl V y (SL V) f)
def nal (V : Nat → Int) (y : Int) (n : Nat) : Nat → Int → Int
  | 0, _ => -1
  | k + 1, z => if 999 < z then -1 else if dys z = dys y ∧ fwd z = fwd y ∧ allN (alP V y z) n 0 = true then z else nal V y n k (z + 1)
theorem settlesLike_v {n : Nat} {V : Nat → Int} {y z : Int} {σ : St} (hR : CO σ 160 V z (SL V)) (hC : CO σ 144 V y (SL V)) (hn : n ≤ 10) : f_X0_settlesLike 160 144 (iI (n : Int)) σ = some (iI (if allN (alP V y z) n 0 = true then 1 else 0), σ) := by
  have H := lpk (F := fun g j => f_X0_settlesLike_l2 g 160 144 (iI (n : Int)) (iI (j : Int)) σ) (R := fun k j => some (iI (if allN (alP V y z) k j = true then 1 else 0), σ)) (n := n) (by
    intro g
    show f_X0_settlesLike_b2 _ _ _ _ _ _ = some (iI 1, σ)
    unfold f_X0_settlesLike_b2
    simp (disch := omega) only [iI_lit, ofNat_iI, iI_add, iI_sub, iI_mul, iI_neg, iI_lt_t, iI_lt_f, iI_le_t, iI_le_f, iI_eq_t, iI_eq_f, iI_div, rm_iI, tc_iI, inB_iI, nz_iI, is01_0, is01_1, gd_tt, bd_mk, bv_mk, oc_mk, lt_mk, Bool.false_eq_true, ↓reduceIte]) (by
    intro g k j hj hg h
    have h : f_X0_settlesLike_l2 g 160 144 (iI (n : Int)) (iI ((j + 1 : Nat) : Int)) σ = some (iI (if allN (alP V y z) k (j + 1) = true then 1 else 0), σ) := h
    have k0 := settledNotch_v (f := j) ck_160 hR (by omega)
    have k1 := settledNotch_v (f := j) ck_144 hC (by omega)
    have b0 := stl_b V y (SL V) j
    have b1 := stl_b V z (SL V) j
    have e1 : (j : Int) + 1 = ((j + 1 : Nat) : Int) := by omega
    show f_X0_settlesLike_b2 _ _ _ _ _ _ = some (iI (if (if alP V y z j = true then allN (alP V y z) k (j + 1) else false) = true then 1 else 0), σ)
    unfold f_X0_settlesLike_b2
    by_cases c1 : stl V z (SL V) j = stl V y (SL V) j
    · rw [if_pos (show alP V y z j = true from decide_eq_true c1)]
      simp (disch := omega) only [iI_lit, ofNat_iI, iI_add, iI_sub, iI_mul, iI_neg, iI_lt_t, iI_lt_f, iI_le_t, iI_le_f, iI_eq_t, iI_eq_f, iI_div, rm_iI, tc_iI, inB_iI, nz_iI, is01_0, is01_1, gd_tt, bd_mk, bv_mk, oc_mk, lt_mk, Bool.false_eq_true, ↓reduceIte, k0, k1, e1, h]
    · rw [if_neg (show ¬ alP V y z j = true from fun q => c1 (of_decide_eq_true q))]
      simp (disch := omega) only [iI_lit, ofNat_iI, iI_add, iI_sub, iI_mul, iI_neg, iI_lt_t, iI_lt_f, iI_le_t, iI_le_f, iI_eq_t, iI_eq_f, iI_div, rm_iI, tc_iI, inB_iI, nz_iI, is01_0, is01_1, gd_tt, bd_mk, bv_mk, oc_mk, lt_mk, Bool.false_eq_true, ↓reduceIte, k0, k1]) n FU 0 (by omega) (by simp only [FU]; omega)
  exact H
theorem alikeC_l {V : Nat → Int} {y : Int} {n : Nat} (hI : IV V) (hn : V 0 = (n : Int)) (hy : 0 ≤ y ∧ y ≤ 999) : ∀ (k g : Nat) (z : Int) (σ : St), z + k = y + 101 → k < g → y < z → RS σ 1 V → CO σ 144 V y (SL V) → ∃ τ, f_X6_nextAlike_l16 g (iI y) (iI z) σ = some (iI (nal V y n k z), τ) ∧ Fr 160 176 σ τ := by
  have hn10 := hI.1
  intro k
  induction k with
  | zero =>
    intro g z σ hz hg hz0 hS hC
    obtain ⟨g, rfl⟩ : ∃ g', g = g' + 1 := ⟨g - 1, by omega⟩
    refine ⟨σ, ?_, Fr.rfl⟩
    show f_X6_nextAlike_b16 _ _ _ _ = some (iI (-1), σ)
    unfold f_X6_nextAlike_b16
    simp (disch := omega) only [iI_lit, ofNat_iI, iI_add, iI_sub, iI_mul, iI_neg, iI_lt_t, iI_lt_f, iI_le_t, iI_le_f, iI_eq_t, iI_eq_f, iI_div, rm_iI, tc_iI, inB_iI, nz_iI, is01_0, is01_1, gd_tt, bd_mk, bv_mk, oc_mk, lt_mk, Bool.false_eq_true, ↓reduceIte]
  | succ k ih =>
    intro g z σ hz hg hz0 hS hC
    obtain ⟨g, rfl⟩ : ∃ g', g = g' + 1 := ⟨g - 1, by omega⟩
    by_cases c0 : 999 < z
    · refine ⟨σ, ?_, Fr.rfl⟩
      show f_X6_nextAlike_b16 _ _ _ _ = some (iI (if 999 < z then -1 else if dys z = dys y ∧ fwd z = fwd y ∧ allN (alP V y z) n 0 = true then z else nal V y n k (z + 1)), σ)
      unfold f_X6_nextAlike_b16
      rw [if_pos c0]
      simp (disch := omega) only [iI_lit, ofNat_iI, iI_add, iI_sub, iI_mul, iI_neg, iI_lt_t, iI_lt_f, iI_le_t, iI_le_f, iI_eq_t, iI_eq_f, iI_div, rm_iI, tc_iI, inB_iI, nz_iI, is01_0, is01_1, gd_tt, bd_mk, bv_mk, oc_mk, lt_mk, Bool.false_eq_true, ↓reduceIte]
    · have d1 := daysIn_v (y := z) (by omega) (by omega) σ
      have d2 := daysIn_v (y := y) (by omega) (by omega) σ
      have w1 := nyw_v (y := z) (by omega) (by omega) σ
      have w2 := nyw_v (y := y) (by omega) (by omega) σ
      have b1 := dys_b z
      have b2 := dys_b y
      have b3 := fwd_b z
      have b4 := fwd_b y
      by_cases c1 : dys z = dys y
      · by_cases c2 : fwd z = fwd y
        · obtain ⟨τ, x1, x2, x3⟩ := gather_v (a0 := 160) (y := z) ck_160 (by omega) hI hS (by omega)
          have m0 : τ.1 1 0 = iI (n : Int) := by rw [x2.at (by omega), hS.1, hn]
          have tC := hC.fr x2 (by omega)
          have k0 := settlesLike_v (n := n) x3 tC (by omega)
          by_cases c3 : allN (alP V y z) n 0 = true
          · refine ⟨τ, ?_, x2⟩
            show f_X6_nextAlike_b16 _ _ _ _ = some (iI (if 999 < z then -1 else if dys z = dys y ∧ fwd z = fwd y ∧ allN (alP V y z) n 0 = true then z else nal V y n k (z + 1)), τ)
            unfold f_X6_nextAlike_b16
            rw [if_neg c0, if_pos (show dys z = dys y ∧ fwd z = fwd y ∧ allN (alP V y z) n 0 = true from ⟨c1, c2, c3⟩)]
            rw [if_pos c3] at k0
            simp (disch := omega) only [iI_lit, ofNat_iI, iI_add, iI_sub, iI_mul, iI_neg, iI_lt_t, iI_lt_f, iI_le_t, iI_le_f, iI_eq_t, iI_eq_f, iI_div, rm_iI, tc_iI, inB_iI, nz_iI, is01_0, is01_1, gd_tt, bd_mk, bv_mk, oc_mk, lt_mk, Bool.false_eq_true, ↓reduceIte, d1, d2, w1, w2, x1, m0, k0]
          · obtain ⟨υ, y1, y2⟩ := ih g (z + 1) τ (by omega) (by omega) (by omega) (hS.fr x2 (by omega)) tC
            refine ⟨υ, ?_, x2.tr y2⟩
            show f_X6_nextAlike_b16 _ _ _ _ = some (iI (if 999 < z then -1 else if dys z = dys y ∧ fwd z = fwd y ∧ allN (alP V y z) n 0 = true then z else nal V y n k (z + 1)), υ)
            unfold f_X6_nextAlike_b16
            rw [if_neg c0, if_neg (show ¬ (dys z = dys y ∧ fwd z = fwd y ∧ allN (alP V y z) n 0 = true) from fun q => c3 q.2.2)]
            rw [if_neg c3] at k0
            simp (disch := omega) only [iI_lit, ofNat_iI, iI_add, iI_sub, iI_mul, iI_neg, iI_lt_t, iI_lt_f, iI_le_t, iI_le_f, iI_eq_t, iI_eq_f, iI_div, rm_iI, tc_iI, inB_iI, nz_iI, is01_0, is01_1, gd_tt, bd_mk, bv_mk, oc_mk, lt_mk, Bool.false_eq_true, ↓reduceIte, d1, d2, w1, w2, x1, m0, k0, y1]
        · obtain ⟨υ, y1, y2⟩ := ih g (z + 1) σ (by omega) (by omega) (by omega) hS hC
          refine ⟨υ, ?_, y2⟩
          show f_X6_nextAlike_b16 _ _ _ _ = some (iI (if 999 < z then -1 else if dys z = dys y ∧ fwd z = fwd y ∧ allN (alP V y z) n 0 = true then z else nal V y n k (z + 1)), υ)
          unfold f_X6_nextAlike_b16
          rw [if_neg c0, if_neg (show ¬ (dys z = dys y ∧ fwd z = fwd y ∧ allN (alP V y z) n 0 = true) from fun q => c2 q.2.1)]
          simp (disch := omega) only [iI_lit, ofNat_iI, iI_add, iI_sub, iI_mul, iI_neg, iI_lt_t, iI_lt_f, iI_le_t, iI_le_f, iI_eq_t, iI_eq_f, iI_div, rm_iI, tc_iI, inB_iI, nz_iI, is01_0, is01_1, gd_tt, bd_mk, bv_mk, oc_mk, lt_mk, Bool.false_eq_true, ↓reduceIte, d1, d2, w1, w2, y1]
      · obtain ⟨υ, y1, y2⟩ := ih g (z + 1) σ (by omega) (by omega) (by omega) hS hC
        refine ⟨υ, ?_, y2⟩
        show f_X6_nextAlike_b16 _ _ _ _ = some (iI (if 999 < z then -1 else if dys z = dys y ∧ fwd z = fwd y ∧ allN (alP V y z) n 0 = true then z else nal V y n k (z + 1)), υ)
        unfold f_X6_nextAlike_b16
        rw [if_neg c0, if_neg (show ¬ (dys z = dys y ∧ fwd z = fwd y ∧ allN (alP V y z) n 0 = true) from fun q => c1 q.1)]
        simp (disch := omega) only [iI_lit, ofNat_iI, iI_add, iI_sub, iI_mul, iI_neg, iI_lt_t, iI_lt_f, iI_le_t, iI_le_f, iI_eq_t, iI_eq_f, iI_div, rm_iI, tc_iI, inB_iI, nz_iI, is01_0, is01_1, gd_tt, bd_mk, bv_mk, oc_mk, lt_mk, Bool.false_eq_true, ↓reduceIte, d1, d2, y1]
theorem alikeC {V : Nat → Int} {y : Int} {n : Nat} {σ : St} (hI : IV V) (hS : RS σ 1 V) (hn : V 0 = (n : Int)) (hy : 0 ≤ y ∧ y ≤ 999) : ∃ τ, f_X6_nextAlike (iI y) σ = some (iI (nal V y n 100 (y + 1)), τ) ∧ Fr 144 176 σ τ := by
  obtain ⟨τ, x1, x2, x3⟩ := gather_v (a0 := 144) ck_144 (by omega) hI hS hy
  obtain ⟨υ, y1, y2⟩ := alikeC_l hI hn hy 100 FU (y + 1) τ (by omega) (by simp only [FU]; omega) (by omega) (hS.fr x2 (by omega)) x3
  refine ⟨υ, ?_, (x2.mo (by omega) (by omega)).tr (y2.mo (by omega) (by omega))⟩
  unfold f_X6_nextAlike
  simp (disch := omega) only [iI_lit, ofNat_iI, iI_add, iI_sub, iI_mul, iI_neg, iI_lt_t, iI_lt_f, iI_le_t, iI_le_f, iI_eq_t, iI_eq_f, iI_div, rm_iI, tc_iI, inB_iI, nz_iI, is01_0, is01_1, gd_tt, bd_mk, bv_mk, oc_mk, lt_mk, Bool.false_eq_true, ↓reduceIte, x1]
  exact y1
