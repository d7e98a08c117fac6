/-! the first check of the law: the notches -/
theorem days_v {y : Int} (h1 : 0 ≤ y) (h2 : y ≤ 2000) (σ : St) : f_L_days (iI y) σ = some (iI (dys y), σ) := by
  unfold f_L_days dys
  by_cases h : y % 4 = 0
  · simp (disch := omega) only [iI_lit, ofNat_iI, iI_add, iI_sub, iI_mul, iI_neg, iI_lt_t, iI_lt_f, iI_le_t, iI_le_f, iI_eq_t, iI_eq_f, iI_div, rm_iI, tc_iI, inB_iI, nz_iI, is01_0, is01_1, gd_tt, bd_mk, bv_mk, oc_mk, lt_mk, Bool.false_eq_true, ↓reduceIte, h]
  · simp (disch := omega) only [iI_lit, ofNat_iI, iI_add, iI_sub, iI_mul, iI_neg, iI_lt_t, iI_lt_f, iI_le_t, iI_le_f, iI_eq_t, iI_eq_f, iI_div, rm_iI, tc_iI, inB_iI, nz_iI, is01_0, is01_1, gd_tt, bd_mk, bv_mk, oc_mk, lt_mk, Bool.false_eq_true, ↓reduceIte, h]
section NOTCH
variable {V : Nat → Int} {m : Nat} {W : Nat → Nat → Int} {y : Int} {c n : Nat}
theorem a_rule {σ : St} {f : Nat} (hJ : JJ σ V m W) (hf : (f : Int) < V 0) : ∃ τ, f_X6_feast (iI (f : Int)) (iI 0) σ = some (iI (V (1 + 4 * f)), τ) ∧ JJ τ V m W := a_feast (w := 0) hJ hf (by omega)
theorem a_rank {σ : St} {f : Nat} (hJ : JJ σ V m W) (hf : (f : Int) < V 0) : ∃ τ, f_X6_feast (iI (f : Int)) (iI 1) σ = some (iI (V (2 + 4 * f)), τ) ∧ JJ τ V m W := a_feast (w := 1) hJ hf (by omega)
theorem a_fourth {σ : St} {f : Nat} (hJ : JJ σ V m W) (hf : (f : Int) < V 0) : ∃ τ, f_X6_feast (iI (f : Int)) (iI 3) σ = some (iI (V (4 + 4 * f)), τ) ∧ JJ τ V m W := a_feast (w := 3) hJ hf (by omega)
theorem n325 {K11 : Int32 → Int32 → Int32 → Int32 → Int32 → Int32 → St → Option (Int32 × St)} {K307 : Int32 → Int32 → Int32 → Int32 → Int32 → Int32 → Int32 → Int32 → Int32 → St → Option (Int32 × St)} {K325 : Int32 → Int32 → Int32 → Int32 → Int32 → Int32 → Int32 → Int32 → Int32 → Int32 → Int32 → St → Option (Int32 × St)} {x1 x2 y3 y4 y5 y7 y8 y11 y12 : Int32} {σ : St} {f j : Nat} (hn : V 0 = (n : Int)) (hf : f < n) (hj : j < n) (hJ : JJ σ V m W) : ∃ τ w, JJ τ V m W ∧ (w = 0 ∨ w = 1) ∧ (ahd V j f → w = 1) ∧ f_L_areNotchesSo_b325 K11 K307 K325 x1 x2 y3 y4 y5 (iI (f : Int)) y7 y8 y11 y12 (iI (j : Int)) σ = f_L_areNotchesSo_b381 K11 K307 K325 x1 x2 y3 y4 y5 (iI (f : Int)) y7 y8 y11 y12 (iI (j : Int)) (iI w) τ := by
  have hI := hJ.I
  have hn10 := hI.1
  obtain ⟨-, -, r1, r2, -⟩ := hI.2.2.2.2.1 f (by omega)
  obtain ⟨-, -, q1, q2, -⟩ := hI.2.2.2.2.1 j (by omega)
  obtain ⟨σ1, x1, J1⟩ := a_feasts hJ
  rw [hn] at x1
  obtain ⟨σ2, x2, J2⟩ := a_rank (f := j) J1 (by omega)
  obtain ⟨σ3, x3, J3⟩ := a_rank (f := f) J2 (by omega)
  obtain ⟨σ4, x4, J4⟩ := a_rank (f := j) J3 (by omega)
  obtain ⟨σ5, x5, J5⟩ := a_rank (f := f) J4 (by omega)
  by_cases c1 : V (2 + 4 * f) < V (2 + 4 * j)
  · refine ⟨σ3, 1, J3, .inr rfl, fun _ => rfl, ?_⟩
    unfold f_L_areNotchesSo_b325
    simp (disch := omega) only [iI_lit, ofNat_iI, iI_add, iI_sub, iI_mul, iI_neg, iI_lt_t, iI_lt_f, iI_le_t, iI_le_f, iI_eq_t, iI_eq_f, iI_div, rm_iI, tc_iI, inB_iI, nz_iI, is01_0, is01_1, gd_tt, bd_mk, bv_mk, oc_mk, lt_mk, Bool.false_eq_true, ↓reduceIte, x1, x2, x3]
  · by_cases c2 : V (2 + 4 * j) = V (2 + 4 * f)
    · by_cases c3 : f ≤ j
      · refine ⟨σ5, 0, J5, .inl rfl, fun h => ?_, ?_⟩
        · exfalso; rcases h with h | h <;> omega
        · unfold f_L_areNotchesSo_b325 f_L_areNotchesSo_b380
          simp (disch := omega) only [iI_lit, ofNat_iI, iI_add, iI_sub, iI_mul, iI_neg, iI_lt_t, iI_lt_f, iI_le_t, iI_le_f, iI_eq_t, iI_eq_f, iI_div, rm_iI, tc_iI, inB_iI, nz_iI, is01_0, is01_1, gd_tt, bd_mk, bv_mk, oc_mk, lt_mk, Bool.false_eq_true, ↓reduceIte, x1, x2, x3, x4, x5]
      · refine ⟨σ5, 1, J5, .inr rfl, fun _ => rfl, ?_⟩
        unfold f_L_areNotchesSo_b325
        simp (disch := omega) only [iI_lit, ofNat_iI, iI_add, iI_sub, iI_mul, iI_neg, iI_lt_t, iI_lt_f, iI_le_t, iI_le_f, iI_eq_t, iI_eq_f, iI_div, rm_iI, tc_iI, inB_iI, nz_iI, is01_0, is01_1, gd_tt, bd_mk, bv_mk, oc_mk, lt_mk, Bool.false_eq_true, ↓reduceIte, x1, x2, x3, x4, x5]
    · refine ⟨σ5, 0, J5, .inl rfl, fun h => ?_, ?_⟩
      · exfalso; rcases h with h | h <;> omega
      · unfold f_L_areNotchesSo_b325 f_L_areNotchesSo_b380
        simp (disch := omega) only [iI_lit, ofNat_iI, iI_add, iI_sub, iI_mul, iI_neg, iI_lt_t, iI_lt_f, iI_le_t, iI_le_f, iI_eq_t, iI_eq_f, iI_div, rm_iI, tc_iI, inB_iI, nz_iI, is01_0, is01_1, gd_tt, bd_mk, bv_mk, oc_mk, lt_mk, Bool.false_eq_true, ↓reduceIte, x1, x2, x3, x4, x5]
theorem n325_l {K11 : Int32 → Int32 → Int32 → Int32 → Int32 → Int32 → St → Option (Int32 × St)} {K307 : Int32 → Int32 → Int32 → Int32 → Int32 → Int32 → Int32 → Int32 → Int32 → St → Option (Int32 × St)} {y3 y4 y7 y8 : Int32} {f k0 : Nat} {d : Int} (hn : V 0 = (n : Int)) (hf : f < n) (hk0 : k0 < n) (ha : ahd V k0 f) (hd : Nt V y (SL V c) k0 = d) (hd0 : 0 ≤ d ∧ d ≤ 366) (hy : 0 ≤ y ∧ y ≤ 999) (hc : c < 3) : ∀ (k g j : Nat) (h : Int) (σ : St), j + k = n → k < g → (h = 1 ∨ (h = 0 ∧ j ≤ k0)) → JJ σ V m W → ∃ τ, JJ τ V m W ∧ f_L_areNotchesSo_l325 K11 K307 g (iI y) (iI (c : Int)) y3 y4 (iI 1) (iI (f : Int)) y7 y8 (iI d) (iI h) (iI (j : Int)) σ = K307 (iI y) (iI (c : Int)) y3 y4 (iI 1) (iI (f : Int)) y7 y8 (iI (d + 1)) τ := by
  intro k
  induction k with
  | zero =>
    intro g j h σ hj hg hh hJ
    obtain ⟨g, rfl⟩ : ∃ g', g = g' + 1 := ⟨g - 1, by omega⟩
    have hn10 := hJ.I.1
    obtain ⟨σ1, x1, J1⟩ := a_feasts hJ
    rw [hn] at x1
    have h1 : h = 1 := by omega
    refine ⟨σ1, J1, ?_⟩
    show f_L_areNotchesSo_b325 _ _ _ _ _ _ _ _ _ _ _ _ _ _ _ = _
    unfold f_L_areNotchesSo_b325
    simp (disch := omega) only [iI_lit, ofNat_iI, iI_add, iI_sub, iI_mul, iI_neg, iI_lt_t, iI_lt_f, iI_le_t, iI_le_f, iI_eq_t, iI_eq_f, iI_div, rm_iI, tc_iI, inB_iI, nz_iI, is01_0, is01_1, gd_tt, bd_mk, bv_mk, oc_mk, lt_mk, Bool.false_eq_true, ↓reduceIte, x1, h1]
  | succ k ih =>
    intro g j h σ hj hg hh hJ
    obtain ⟨g, rfl⟩ : ∃ g', g = g' + 1 := ⟨g - 1, by omega⟩
    have hn10 := hJ.I.1
    have e1 : (j : Int) + 1 = ((j + 1 : Nat) : Int) := by omega
    obtain ⟨σ1, w, J1, hw, hw1, x1⟩ := n325 (K11 := K11) (K307 := K307) (K325 := f_L_areNotchesSo_l325 K11 K307 g) (x1 := iI y) (x2 := iI (c : Int)) (y3 := y3) (y4 := y4) (y5 := iI 1) (y7 := y7) (y8 := y8) (y11 := iI d) (y12 := iI h) hn hf (show j < n by omega) hJ
    obtain ⟨σ2, x2, J2⟩ := a_notch (f := j) (k := c) J1 (by omega) hy hc
    have hb := Nt_b V y (SL V c) j
    have go : ∀ (h' : Int) (σ' : St), (h' = 1 ∨ (h' = 0 ∧ j + 1 ≤ k0)) → JJ σ' V m W → f_L_areNotchesSo_b381 K11 K307 (f_L_areNotchesSo_l325 K11 K307 g) (iI y) (iI (c : Int)) y3 y4 (iI 1) (iI (f : Int)) y7 y8 (iI d) (iI h) (iI (j : Int)) (iI w) σ1 = f_L_areNotchesSo_l325 K11 K307 g (iI y) (iI (c : Int)) y3 y4 (iI 1) (iI (f : Int)) y7 y8 (iI d) (iI h') (iI ((j + 1 : Nat) : Int)) σ' → ∃ τ, JJ τ V m W ∧ f_L_areNotchesSo_l325 K11 K307 (g + 1) (iI y) (iI (c : Int)) y3 y4 (iI 1) (iI (f : Int)) y7 y8 (iI d) (iI h) (iI (j : Int)) σ = K307 (iI y) (iI (c : Int)) y3 y4 (iI 1) (iI (f : Int)) y7 y8 (iI (d + 1)) τ := by
      intro h' σ' q1 q2 q3
      obtain ⟨τ, z1, z2⟩ := ih g (j + 1) h' σ' (by omega) (by omega) q1 q2
      exact ⟨τ, z1, (x1.trans q3).trans z2⟩
    rcases hh with h1 | ⟨h0, h2⟩
    · refine go 1 σ1 (.inl rfl) J1 ?_
      unfold f_L_areNotchesSo_b381
      simp (disch := omega) only [iI_lit, ofNat_iI, iI_add, iI_sub, iI_mul, iI_neg, iI_lt_t, iI_lt_f, iI_le_t, iI_le_f, iI_eq_t, iI_eq_f, iI_div, rm_iI, tc_iI, inB_iI, nz_iI, is01_0, is01_1, gd_tt, bd_mk, bv_mk, oc_mk, lt_mk, Bool.false_eq_true, ↓reduceIte, h1, e1]
    · rcases hw with w0 | w1
      · refine go 0 σ1 (.inr ⟨rfl, ?_⟩) J1 ?_
        · by_cases q : j = k0
          · rw [q] at hw1; have := hw1 ha; omega
          · omega
        · unfold f_L_areNotchesSo_b381
          simp (disch := omega) only [iI_lit, ofNat_iI, iI_add, iI_sub, iI_mul, iI_neg, iI_lt_t, iI_lt_f, iI_le_t, iI_le_f, iI_eq_t, iI_eq_f, iI_div, rm_iI, tc_iI, inB_iI, nz_iI, is01_0, is01_1, gd_tt, bd_mk, bv_mk, oc_mk, lt_mk, Bool.false_eq_true, ↓reduceIte, h0, w0, e1]
      · by_cases q : Nt V y (SL V c) j = d
        · refine go 1 σ2 (.inl rfl) J2 ?_
          unfold f_L_areNotchesSo_b381
          simp (disch := omega) only [iI_lit, ofNat_iI, iI_add, iI_sub, iI_mul, iI_neg, iI_lt_t, iI_lt_f, iI_le_t, iI_le_f, iI_eq_t, iI_eq_f, iI_div, rm_iI, tc_iI, inB_iI, nz_iI, is01_0, is01_1, gd_tt, bd_mk, bv_mk, oc_mk, lt_mk, Bool.false_eq_true, ↓reduceIte, h0, w1, x2, e1]
        · refine go 0 σ2 (.inr ⟨rfl, ?_⟩) J2 ?_
          · by_cases q2 : j = k0
            · rw [q2] at q; exact absurd hd q
            · omega
          · unfold f_L_areNotchesSo_b381
            simp (disch := omega) only [iI_lit, ofNat_iI, iI_add, iI_sub, iI_mul, iI_neg, iI_lt_t, iI_lt_f, iI_le_t, iI_le_f, iI_eq_t, iI_eq_f, iI_div, rm_iI, tc_iI, inB_iI, nz_iI, is01_0, is01_1, gd_tt, bd_mk, bv_mk, oc_mk, lt_mk, Bool.false_eq_true, ↓reduceIte, h0, w1, x2, e1]
theorem n307_l {K11 : Int32 → Int32 → Int32 → Int32 → Int32 → Int32 → St → Option (Int32 × St)} {y3 y4 : Int32} {f : Nat} {p nt : Int} (hn : V 0 = (n : Int)) (hf : f < n) (ep : p = Pr V y (SL V c) f) (en : nt = Nt V y (SL V c) f) (h1 : nt ≠ -1) (hy : 0 ≤ y ∧ y ≤ 999) (hc : c < 3) : ∀ (k g : Nat) (d : Int) (σ : St), d + k = nt → k < g → p ≤ d → JJ σ V m W → ∃ τ, JJ τ V m W ∧ f_L_areNotchesSo_l307 K11 g (iI y) (iI (c : Int)) y3 y4 (iI 1) (iI (f : Int)) (iI p) (iI nt) (iI d) σ = K11 (iI y) (iI (c : Int)) y3 y4 (iI 1) (iI ((f + 1 : Nat) : Int)) τ := by
  have e1 : (f : Int) + 1 = ((f + 1 : Nat) : Int) := by omega
  intro k
  induction k with
  | zero =>
    intro g d σ hd hg hp hJ
    obtain ⟨g, rfl⟩ : ∃ g', g = g' + 1 := ⟨g - 1, by omega⟩
    have hI := hJ.I
    have hn10 := hI.1
    have hb := nt_in hI hn hf (by rw [← en]; exact h1)
    rw [← ep, ← en] at hb
    have hD := dys_b y
    refine ⟨σ, hJ, ?_⟩
    show f_L_areNotchesSo_b307 _ _ _ _ _ _ _ _ _ _ _ _ = _
    unfold f_L_areNotchesSo_b307
    simp (disch := omega) only [iI_lit, ofNat_iI, iI_add, iI_sub, iI_mul, iI_neg, iI_lt_t, iI_lt_f, iI_le_t, iI_le_f, iI_eq_t, iI_eq_f, iI_div, rm_iI, tc_iI, inB_iI, nz_iI, is01_0, is01_1, gd_tt, bd_mk, bv_mk, oc_mk, lt_mk, Bool.false_eq_true, ↓reduceIte, e1]
  | succ k ih =>
    intro g d σ hd hg hp hJ
    obtain ⟨g, rfl⟩ : ∃ g', g = g' + 1 := ⟨g - 1, by omega⟩
    have hI := hJ.I
    have hn10 := hI.1
    have hb := nt_in hI hn hf (by rw [← en]; exact h1)
    obtain ⟨k0, b1, b2, b3⟩ := nt_bt hI hn hf (y := y) (s := SL V c) (by rw [← en]; exact h1) (d := d) (by omega) (by omega)
    rw [← ep, ← en] at hb
    have hD := dys_b y
    obtain ⟨σ1, J1, x1⟩ := n325_l (K11 := K11) (K307 := f_L_areNotchesSo_l307 K11 g) (y3 := y3) (y4 := y4) (y7 := iI p) (y8 := iI nt) hn hf b1 b2 b3 (by omega) hy hc n FU 0 0 σ (by omega) (by simp only [FU]; omega) (.inr ⟨rfl, by omega⟩) hJ
    obtain ⟨τ, J2, x2⟩ := ih g (d + 1) σ1 (by omega) (by omega) (by omega) J1
    have x1 : f_L_areNotchesSo_l325 K11 (f_L_areNotchesSo_l307 K11 g) FU (iI y) (iI (c : Int)) y3 y4 (iI 1) (iI (f : Int)) (iI p) (iI nt) (iI d) (iI 0) (iI 0) σ = _ := x1
    refine ⟨τ, J2, ?_⟩
    show f_L_areNotchesSo_b307 _ _ _ _ _ _ _ _ _ _ _ _ = _
    unfold f_L_areNotchesSo_b307
    simp (disch := omega) only [iI_lit, ofNat_iI, iI_add, iI_sub, iI_mul, iI_neg, iI_lt_t, iI_lt_f, iI_le_t, iI_le_f, iI_eq_t, iI_eq_f, iI_div, rm_iI, tc_iI, inB_iI, nz_iI, is01_0, is01_1, gd_tt, bd_mk, bv_mk, oc_mk, lt_mk, Bool.false_eq_true, ↓reduceIte, x1, x2]
theorem n307 {K11 : Int32 → Int32 → Int32 → Int32 → Int32 → Int32 → St → Option (Int32 × St)} {y3 y4 : Int32} {f : Nat} {p nt : Int} {σ : St} (hn : V 0 = (n : Int)) (hf : f < n) (ep : p = Pr V y (SL V c) f) (en : nt = Nt V y (SL V c) f) (hy : 0 ≤ y ∧ y ≤ 999) (hc : c < 3) (hJ : JJ σ V m W) : ∃ τ, JJ τ V m W ∧ f_L_areNotchesSo_l307 K11 FU (iI y) (iI (c : Int)) y3 y4 (iI 1) (iI (f : Int)) (iI p) (iI nt) (iI p) σ = K11 (iI y) (iI (c : Int)) y3 y4 (iI 1) (iI ((f + 1 : Nat) : Int)) τ := by
  have hb1 := Pr_b V y (SL V c) f
  have hb2 := Nt_b V y (SL V c) f
  rw [← ep] at hb1
  rw [← en] at hb2
  by_cases h1 : nt = -1
  · have e1 : (f : Int) + 1 = ((f + 1 : Nat) : Int) := by omega
    have hn10 := hJ.I.1
    refine ⟨σ, hJ, ?_⟩
    show f_L_areNotchesSo_b307 K11 (f_L_areNotchesSo_l307 K11 3999) _ _ _ _ _ _ _ _ _ _ = _
    unfold f_L_areNotchesSo_b307
    simp (disch := omega) only [iI_lit, ofNat_iI, iI_add, iI_sub, iI_mul, iI_neg, iI_lt_t, iI_lt_f, iI_le_t, iI_le_f, iI_eq_t, iI_eq_f, iI_div, rm_iI, tc_iI, inB_iI, nz_iI, is01_0, is01_1, gd_tt, bd_mk, bv_mk, oc_mk, lt_mk, Bool.false_eq_true, ↓reduceIte, e1]
  · have hb := nt_in hJ.I hn hf (by rw [← en]; exact h1)
    rw [← ep, ← en] at hb
    exact n307_l hn hf ep en h1 hy hc (nt - p).toNat FU p σ (by omega) (by simp only [FU]; omega) (Int.le_refl _) hJ
def topN (V : Nat → Int) (p t : Int) (f : Nat) : Int := if p < 0 then t else if t < 0 then (f : Int) else if V (2 + 4 * f) ≤ V (2 + 4 * t.toNat) then t else (f : Int)
theorem n265 {K11 : Int32 → Int32 → Int32 → Int32 → Int32 → Int32 → St → Option (Int32 × St)} {f : Nat} {p nt t w mv : Int} {σ : St} (hn : V 0 = (n : Int)) (hf : f < n) (ep : p = Pr V y (SL V c) f) (en : nt = Nt V y (SL V c) f) (hy : 0 ≤ y ∧ y ≤ 999) (hc : c < 3) (ht : -1 ≤ t ∧ t < f) (hJ : JJ σ V m W) : ∃ τ, JJ τ V m W ∧ f_L_areNotchesSo_b265 K11 (iI y) (iI (c : Int)) (iI t) (iI 1) (iI (f : Int)) (iI p) (iI nt) (iI w) (iI mv) σ = K11 (iI y) (iI (c : Int)) (iI (mv + w)) (iI (topN V p t f)) (iI 1) (iI ((f + 1 : Nat) : Int)) τ := by
  have hI := hJ.I
  have hn10 := hI.1
  have hb1 := Pr_b V y (SL V c) f
  rw [← ep] at hb1
  obtain ⟨-, -, r1, r2, -⟩ := hI.2.2.2.2.1 f (by omega)
  unfold topN
  by_cases c1 : p < 0
  · obtain ⟨τ, J1, x1⟩ := n307 (K11 := K11) (y3 := iI (mv + w)) (y4 := iI t) hn hf ep en hy hc hJ
    refine ⟨τ, J1, ?_⟩
    rw [if_pos c1]
    unfold f_L_areNotchesSo_b265
    simp (disch := omega) only [iI_lit, ofNat_iI, iI_add, iI_sub, iI_mul, iI_neg, iI_lt_t, iI_lt_f, iI_le_t, iI_le_f, iI_eq_t, iI_eq_f, iI_div, rm_iI, tc_iI, inB_iI, nz_iI, is01_0, is01_1, gd_tt, bd_mk, bv_mk, oc_mk, lt_mk, Bool.false_eq_true, ↓reduceIte, x1]
  · rw [if_neg c1]
    by_cases c2 : t < 0
    · obtain ⟨τ, J1, x1⟩ := n307 (K11 := K11) (y3 := iI (mv + w)) (y4 := iI (f : Int)) hn hf ep en hy hc hJ
      refine ⟨τ, J1, ?_⟩
      rw [if_pos c2]
      unfold f_L_areNotchesSo_b265
      simp (disch := omega) only [iI_lit, ofNat_iI, iI_add, iI_sub, iI_mul, iI_neg, iI_lt_t, iI_lt_f, iI_le_t, iI_le_f, iI_eq_t, iI_eq_f, iI_div, rm_iI, tc_iI, inB_iI, nz_iI, is01_0, is01_1, gd_tt, bd_mk, bv_mk, oc_mk, lt_mk, Bool.false_eq_true, ↓reduceIte, x1]
    · rw [if_neg c2]
      obtain ⟨t', rfl⟩ : ∃ t' : Nat, t = (t' : Int) := ⟨t.toNat, by omega⟩
      have e0 : ((t' : Int)).toNat = t' := by omega
      rw [e0]
      obtain ⟨-, -, q1, q2, -⟩ := hI.2.2.2.2.1 t' (by omega)
      obtain ⟨σ1, x1, J1⟩ := a_rank (f := f) hJ (by omega)
      obtain ⟨σ2, x2, J2⟩ := a_rank (f := t') J1 (by omega)
      by_cases c3 : V (2 + 4 * f) ≤ V (2 + 4 * t')
      · obtain ⟨τ, J3, x3⟩ := n307 (K11 := K11) (y3 := iI (mv + w)) (y4 := iI (t' : Int)) hn hf ep en hy hc J2
        refine ⟨τ, J3, ?_⟩
        rw [if_pos c3]
        unfold f_L_areNotchesSo_b265
        simp (disch := omega) only [iI_lit, ofNat_iI, iI_add, iI_sub, iI_mul, iI_neg, iI_lt_t, iI_lt_f, iI_le_t, iI_le_f, iI_eq_t, iI_eq_f, iI_div, rm_iI, tc_iI, inB_iI, nz_iI, is01_0, is01_1, gd_tt, bd_mk, bv_mk, oc_mk, lt_mk, Bool.false_eq_true, ↓reduceIte, x1, x2, x3]
      · obtain ⟨τ, J3, x3⟩ := n307 (K11 := K11) (y3 := iI (mv + w)) (y4 := iI (f : Int)) hn hf ep en hy hc J2
        refine ⟨τ, J3, ?_⟩
        rw [if_neg c3]
        unfold f_L_areNotchesSo_b265
        simp (disch := omega) only [iI_lit, ofNat_iI, iI_add, iI_sub, iI_mul, iI_neg, iI_lt_t, iI_lt_f, iI_le_t, iI_le_f, iI_eq_t, iI_eq_f, iI_div, rm_iI, tc_iI, inB_iI, nz_iI, is01_0, is01_1, gd_tt, bd_mk, bv_mk, oc_mk, lt_mk, Bool.false_eq_true, ↓reduceIte, x1, x2, x3]
def mvw (V : Nat → Int) (y s : Int) (f : Nat) : Int := if mvd V y s f = true then 1 else 0
theorem n201_l {K11 : Int32 → Int32 → Int32 → Int32 → Int32 → Int32 → St → Option (Int32 × St)} {f : Nat} {p nt t mv : Int} (hn : V 0 = (n : Int)) (hf : f < n) (ep : p = Pr V y (SL V c) f) (en : nt = Nt V y (SL V c) f) (hy : 0 ≤ y ∧ y ≤ 999) (hc : c < 3) : ∀ (k g j : Nat) (σ : St), j + k = f → k < g → JJ σ V m W → ∃ τ, JJ τ V m W ∧ f_L_areNotchesSo_l201 K11 g (iI y) (iI (c : Int)) (iI mv) (iI t) (iI 1) (iI (f : Int)) (iI p) (iI nt) (iI (j : Int)) σ = f_L_areNotchesSo_b265 K11 (iI y) (iI (c : Int)) (iI t) (iI 1) (iI (f : Int)) (iI p) (iI nt) (iI (mvw V y (SL V c) f)) (iI mv) τ := by
  have hb1 := Pr_b V y (SL V c) f
  have hb2 := Nt_b V y (SL V c) f
  rw [← ep] at hb1
  rw [← en] at hb2
  intro k
  induction k with
  | zero =>
    intro g j σ hj hg hJ
    obtain ⟨g, rfl⟩ : ∃ g', g = g' + 1 := ⟨g - 1, by omega⟩
    have hn10 := hJ.I.1
    refine ⟨σ, hJ, ?_⟩
    show f_L_areNotchesSo_b201 _ _ _ _ _ _ _ _ _ _ _ _ = _
    unfold f_L_areNotchesSo_b201 f_L_areNotchesSo_b264 mvw
    by_cases c1 : nt = -1
    · rw [mvd_f (V := V) (y := y) (s := SL V c) (f := f) (fun z => z.1 (by rw [← en]; exact c1))]
      simp (disch := omega) only [iI_lit, ofNat_iI, iI_add, iI_sub, iI_mul, iI_neg, iI_lt_t, iI_lt_f, iI_le_t, iI_le_f, iI_eq_t, iI_eq_f, iI_div, rm_iI, tc_iI, inB_iI, nz_iI, is01_0, is01_1, gd_tt, bd_mk, bv_mk, oc_mk, lt_mk, Bool.false_eq_true, ↓reduceIte, c1]
    · by_cases c2 : nt = p
      · rw [mvd_f (V := V) (y := y) (s := SL V c) (f := f) (fun z => z.2 (by rw [← en, ← ep]; exact c2))]
        simp (disch := omega) only [iI_lit, ofNat_iI, iI_add, iI_sub, iI_mul, iI_neg, iI_lt_t, iI_lt_f, iI_le_t, iI_le_f, iI_eq_t, iI_eq_f, iI_div, rm_iI, tc_iI, inB_iI, nz_iI, is01_0, is01_1, gd_tt, bd_mk, bv_mk, oc_mk, lt_mk, Bool.false_eq_true, ↓reduceIte, c2]
      · rw [mvd_t (V := V) (y := y) (s := SL V c) (f := f) ⟨by rw [← en]; exact c1, by rw [← en, ← ep]; exact c2⟩]
        simp (disch := omega) only [iI_lit, ofNat_iI, iI_add, iI_sub, iI_mul, iI_neg, iI_lt_t, iI_lt_f, iI_le_t, iI_le_f, iI_eq_t, iI_eq_f, iI_div, rm_iI, tc_iI, inB_iI, nz_iI, is01_0, is01_1, gd_tt, bd_mk, bv_mk, oc_mk, lt_mk, Bool.false_eq_true, ↓reduceIte]
  | succ k ih =>
    intro g j σ hj hg hJ
    obtain ⟨g, rfl⟩ : ∃ g', g = g' + 1 := ⟨g - 1, by omega⟩
    have hI := hJ.I
    have hn10 := hI.1
    have e1 : (j : Int) + 1 = ((j + 1 : Nat) : Int) := by omega
    by_cases c1 : nt = -1
    · obtain ⟨τ, J1, x1⟩ := ih g (j + 1) σ (by omega) (by omega) hJ
      refine ⟨τ, J1, ?_⟩
      rw [← x1]
      show f_L_areNotchesSo_b201 _ _ _ _ _ _ _ _ _ _ _ _ = _
      unfold f_L_areNotchesSo_b201
      simp (disch := omega) only [iI_lit, ofNat_iI, iI_add, iI_sub, iI_mul, iI_neg, iI_lt_t, iI_lt_f, iI_le_t, iI_le_f, iI_eq_t, iI_eq_f, iI_div, rm_iI, tc_iI, inB_iI, nz_iI, is01_0, is01_1, gd_tt, bd_mk, bv_mk, oc_mk, lt_mk, Bool.false_eq_true, ↓reduceIte, e1]
    · obtain ⟨σ1, x1, J1⟩ := a_notch (f := j) (k := c) hJ (by omega) hy hc
      have hb := Nt_b V y (SL V c) j
      have hne := nt_ne (k := j) (y := y) (s := SL V c) hI hn hf (by omega) (by omega) (by rw [← en]; exact c1)
      rw [← en] at hne
      obtain ⟨τ, J2, x2⟩ := ih g (j + 1) σ1 (by omega) (by omega) J1
      refine ⟨τ, J2, ?_⟩
      rw [← x2]
      show f_L_areNotchesSo_b201 _ _ _ _ _ _ _ _ _ _ _ _ = _
      unfold f_L_areNotchesSo_b201
      simp (disch := omega) only [iI_lit, ofNat_iI, iI_add, iI_sub, iI_mul, iI_neg, iI_lt_t, iI_lt_f, iI_le_t, iI_le_f, iI_eq_t, iI_eq_f, iI_div, rm_iI, tc_iI, inB_iI, nz_iI, is01_0, is01_1, gd_tt, bd_mk, bv_mk, oc_mk, lt_mk, Bool.false_eq_true, ↓reduceIte, x1, e1]
theorem n160 {K11 : Int32 → Int32 → Int32 → Int32 → Int32 → Int32 → St → Option (Int32 × St)} {f : Nat} {p nt t mv : Int} {σ : St} (hn : V 0 = (n : Int)) (hf : f < n) (ep : p = Pr V y (SL V c) f) (en : nt = Nt V y (SL V c) f) (hy : 0 ≤ y ∧ y ≤ 999) (hc : c < 3) (hJ : JJ σ V m W) : ∃ τ, JJ τ V m W ∧ f_L_areNotchesSo_b160 K11 (iI y) (iI (c : Int)) (iI mv) (iI t) (iI (f : Int)) (iI p) (iI nt) (iI (V (1 + 4 * f))) (iI 1) σ = f_L_areNotchesSo_b265 K11 (iI y) (iI (c : Int)) (iI t) (iI 1) (iI (f : Int)) (iI p) (iI nt) (iI (mvw V y (SL V c) f)) (iI mv) τ := by
  have hI := hJ.I
  have hn10 := hI.1
  have hb1 := Pr_b V y (SL V c) f
  rw [← ep] at hb1
  obtain ⟨r1, r2, -⟩ := hI.2.2.2.2.1 f (by omega)
  by_cases c1 : 1 < V (1 + 4 * f)
  · obtain ⟨τ, J1, x1⟩ := n201_l (K11 := K11) (t := t) (mv := mv) hn hf ep en hy hc f FU 0 σ (by omega) (by simp only [FU]; omega) hJ
    have x1 : f_L_areNotchesSo_l201 K11 FU (iI y) (iI (c : Int)) (iI mv) (iI t) (iI 1) (iI (f : Int)) (iI p) (iI nt) (iI 0) σ = _ := x1
    refine ⟨τ, J1, ?_⟩
    unfold f_L_areNotchesSo_b160
    simp (disch := omega) only [iI_lit, ofNat_iI, iI_add, iI_sub, iI_mul, iI_neg, iI_lt_t, iI_lt_f, iI_le_t, iI_le_f, iI_eq_t, iI_eq_f, iI_div, rm_iI, tc_iI, inB_iI, nz_iI, is01_0, is01_1, gd_tt, bd_mk, bv_mk, oc_mk, lt_mk, Bool.false_eq_true, ↓reduceIte, x1]
  · obtain ⟨σ1, x1, J1⟩ := a_proper (f := f) (k := (c + 1) % 3) hJ (by omega) hy (by omega)
    rw [pr_same (s := SL V c) hn hf (by omega), ← ep] at x1
    rw [show ((((c + 1) % 3 : Nat)) : Int) = ((c : Int) + 1) % 3 by omega] at x1
    obtain ⟨τ, J2, x2⟩ := n201_l (K11 := K11) (t := t) (mv := mv) hn hf ep en hy hc f FU 0 σ1 (by omega) (by simp only [FU]; omega) J1
    have x2 : f_L_areNotchesSo_l201 K11 FU (iI y) (iI (c : Int)) (iI mv) (iI t) (iI 1) (iI (f : Int)) (iI p) (iI nt) (iI 0) σ1 = _ := x2
    refine ⟨τ, J2, ?_⟩
    unfold f_L_areNotchesSo_b160
    simp (disch := omega) only [iI_lit, ofNat_iI, iI_add, iI_sub, iI_mul, iI_neg, iI_lt_t, iI_lt_f, iI_le_t, iI_le_f, iI_eq_t, iI_eq_f, iI_div, rm_iI, tc_iI, inB_iI, nz_iI, is01_0, is01_1, gd_tt, bd_mk, bv_mk, oc_mk, lt_mk, Bool.false_eq_true, ↓reduceIte, x1, x2]
theorem n120 {K11 : Int32 → Int32 → Int32 → Int32 → Int32 → Int32 → St → Option (Int32 × St)} {f : Nat} {p nt t mv : Int} {σ : St} (hn : V 0 = (n : Int)) (hf : f < n) (ep : p = Pr V y (SL V c) f) (hy : 0 ≤ y ∧ y ≤ 999) (hJ : JJ σ V m W) : ∃ τ, JJ τ V m W ∧ f_L_areNotchesSo_b120 K11 (iI y) (iI (c : Int)) (iI mv) (iI t) (iI (f : Int)) (iI p) (iI nt) (iI (V (1 + 4 * f))) σ = f_L_areNotchesSo_b160 K11 (iI y) (iI (c : Int)) (iI mv) (iI t) (iI (f : Int)) (iI p) (iI nt) (iI (V (1 + 4 * f))) (iI 1) τ := by
  have hI := hJ.I
  have hn10 := hI.1
  have hin := Pr_in V y (SL V c) f
  have hb1 := Pr_b V y (SL V c) f
  rw [← ep] at hb1 hin
  obtain ⟨r1, r2, -, -, -, -, r3, r4, -⟩ := hI.2.2.2.2.1 f (by omega)
  by_cases c0 : V (1 + 4 * f) = 1 ∨ V (1 + 4 * f) = 2
  · by_cases c1 : p < 0
    · refine ⟨σ, hJ, ?_⟩
      unfold f_L_areNotchesSo_b120 f_L_areNotchesSo_b132
      rcases c0 with c0 | c0
      · simp (disch := omega) only [iI_lit, ofNat_iI, iI_add, iI_sub, iI_mul, iI_neg, iI_lt_t, iI_lt_f, iI_le_t, iI_le_f, iI_eq_t, iI_eq_f, iI_div, rm_iI, tc_iI, inB_iI, nz_iI, is01_0, is01_1, gd_tt, bd_mk, bv_mk, oc_mk, lt_mk, Bool.false_eq_true, ↓reduceIte, c0]
      · simp (disch := omega) only [iI_lit, ofNat_iI, iI_add, iI_sub, iI_mul, iI_neg, iI_lt_t, iI_lt_f, iI_le_t, iI_le_f, iI_eq_t, iI_eq_f, iI_div, rm_iI, tc_iI, inB_iI, nz_iI, is01_0, is01_1, gd_tt, bd_mk, bv_mk, oc_mk, lt_mk, Bool.false_eq_true, ↓reduceIte, c0]
    · obtain ⟨σ1, x1, J1⟩ := a_weekday (d := p) hJ hy (by omega)
      obtain ⟨σ2, x2, J2⟩ := a_fourth (f := f) J1 (by omega)
      have hd := pr_day (y := y) (s := SL V c) hI hn hf c0 (by omega)
      rw [← ep] at hd
      rw [hd] at x1
      refine ⟨σ2, J2, ?_⟩
      unfold f_L_areNotchesSo_b120 f_L_areNotchesSo_b132
      rcases c0 with c0 | c0
      · simp (disch := omega) only [iI_lit, ofNat_iI, iI_add, iI_sub, iI_mul, iI_neg, iI_lt_t, iI_lt_f, iI_le_t, iI_le_f, iI_eq_t, iI_eq_f, iI_div, rm_iI, tc_iI, inB_iI, nz_iI, is01_0, is01_1, gd_tt, bd_mk, bv_mk, oc_mk, lt_mk, Bool.false_eq_true, ↓reduceIte, c0, x1, x2]
      · simp (disch := omega) only [iI_lit, ofNat_iI, iI_add, iI_sub, iI_mul, iI_neg, iI_lt_t, iI_lt_f, iI_le_t, iI_le_f, iI_eq_t, iI_eq_f, iI_div, rm_iI, tc_iI, inB_iI, nz_iI, is01_0, is01_1, gd_tt, bd_mk, bv_mk, oc_mk, lt_mk, Bool.false_eq_true, ↓reduceIte, c0, x1, x2]
  · refine ⟨σ, hJ, ?_⟩
    unfold f_L_areNotchesSo_b120
    simp (disch := omega) only [iI_lit, ofNat_iI, iI_add, iI_sub, iI_mul, iI_neg, iI_lt_t, iI_lt_f, iI_le_t, iI_le_f, iI_eq_t, iI_eq_f, iI_div, rm_iI, tc_iI, inB_iI, nz_iI, is01_0, is01_1, gd_tt, bd_mk, bv_mk, oc_mk, lt_mk, Bool.false_eq_true, ↓reduceIte]
theorem n11 {K11 : Int32 → Int32 → Int32 → Int32 → Int32 → Int32 → St → Option (Int32 × St)} {f : Nat} {t mv : Int} {σ : St} (hn : V 0 = (n : Int)) (hf : f < n) (hy : 0 ≤ y ∧ y ≤ 999) (hc : c < 3) (ht : -1 ≤ t ∧ t < f) (hJ : JJ σ V m W) : ∃ τ, JJ τ V m W ∧ f_L_areNotchesSo_b11 K11 (iI y) (iI (c : Int)) (iI mv) (iI t) (iI 1) (iI (f : Int)) σ = K11 (iI y) (iI (c : Int)) (iI (mv + mvw V y (SL V c) f)) (iI (topN V (Pr V y (SL V c) f) t f)) (iI 1) (iI ((f + 1 : Nat) : Int)) τ := by
  have hI := hJ.I
  have hn10 := hI.1
  have hD := dys_b y
  obtain ⟨p, ep⟩ : ∃ p, p = Pr V y (SL V c) f := ⟨_, rfl⟩
  obtain ⟨nt, en⟩ : ∃ nt, nt = Nt V y (SL V c) f := ⟨_, rfl⟩
  have hin := Pr_in V y (SL V c) f
  have hb2 := Nt_b V y (SL V c) f
  have hb3 : nt = -1 ∨ (0 ≤ p ∧ p ≤ nt ∧ nt < dys y) := by
    by_cases q : nt = -1
    · exact .inl q
    · right
      have := nt_in (y := y) (s := SL V c) hI hn hf (by rw [← en]; exact q)
      rw [← ep, ← en] at this
      exact this
  obtain ⟨σ1, x1, J1⟩ := a_feasts hJ
  rw [hn] at x1
  obtain ⟨σ2, x2, J2⟩ := a_proper (f := f) (k := c) J1 (by omega) hy hc
  obtain ⟨σ3, x3, J3⟩ := a_notch (f := f) (k := c) J2 (by omega) hy hc
  obtain ⟨σ4, x4, J4⟩ := a_rule (f := f) J3 (by omega)
  have D4 := days_v hy.1 (by omega) σ4
  rw [← ep] at x2 hin
  rw [← en] at x3 hb2
  obtain ⟨σ5, J5, x5⟩ := n120 (K11 := K11) (nt := nt) (t := t) (mv := mv) hn hf ep hy J4
  obtain ⟨σ6, J6, x6⟩ := n160 (K11 := K11) (t := t) (mv := mv) hn hf ep en hy hc J5
  obtain ⟨τ, J7, x7⟩ := n265 (K11 := K11) (w := mvw V y (SL V c) f) (mv := mv) hn hf ep en hy hc ht J6
  refine ⟨τ, J7, ?_⟩
  rw [← ep, ← x7, ← x6, ← x5]
  unfold f_L_areNotchesSo_b11 f_L_areNotchesSo_b70 f_L_areNotchesSo_b71
  rcases hin with q | q
  · have q2 : nt = -1 := by omega
    simp (disch := omega) only [iI_lit, ofNat_iI, iI_add, iI_sub, iI_mul, iI_neg, iI_lt_t, iI_lt_f, iI_le_t, iI_le_f, iI_eq_t, iI_eq_f, iI_div, rm_iI, tc_iI, inB_iI, nz_iI, is01_0, is01_1, gd_tt, bd_mk, bv_mk, oc_mk, lt_mk, Bool.false_eq_true, ↓reduceIte, x1, x2, x3, x4, q, q2]
  · by_cases q2 : nt = -1
    · simp (disch := omega) only [iI_lit, ofNat_iI, iI_add, iI_sub, iI_mul, iI_neg, iI_lt_t, iI_lt_f, iI_le_t, iI_le_f, iI_eq_t, iI_eq_f, iI_div, rm_iI, tc_iI, inB_iI, nz_iI, is01_0, is01_1, gd_tt, bd_mk, bv_mk, oc_mk, lt_mk, Bool.false_eq_true, ↓reduceIte, x1, x2, x3, x4, D4, q2]
    · simp (disch := omega) only [iI_lit, ofNat_iI, iI_add, iI_sub, iI_mul, iI_neg, iI_lt_t, iI_lt_f, iI_le_t, iI_le_f, iI_eq_t, iI_eq_f, iI_div, rm_iI, tc_iI, inB_iI, nz_iI, is01_0, is01_1, gd_tt, bd_mk, bv_mk, oc_mk, lt_mk, Bool.false_eq_true, ↓reduceIte, x1, x2, x3, x4, D4]
def TOP (V : Nat → Int) (p : Nat → Int) (t : Int) (f : Nat) : Prop := (t = -1 ∧ ∀ k, k < f → p k = -1) ∨ ∃ t' : Nat, t = (t' : Int) ∧ t' < f ∧ p t' ≠ -1 ∧ ∀ k, k < f → p k ≠ -1 → ¬ ahd V k t'
theorem TOP.b {p : Nat → Int} {t : Int} {f : Nat} (h : TOP V p t f) : -1 ≤ t ∧ t < f := by
  rcases h with ⟨h, -⟩ | ⟨t', h1, h2, -⟩ <;> omega
theorem TOP.s {p : Nat → Int} {t : Int} {f : Nat} (h : TOP V p t f) (hp : ∀ g, -1 ≤ p g) : TOP V p (topN V (p f) t f) (f + 1) := by
  have hpf := hp f
  unfold topN
  by_cases c1 : p f < 0
  · rw [if_pos c1]
    have c : p f = -1 := by omega
    rcases h with ⟨h1, h2⟩ | ⟨t', h1, h2, h3, h4⟩
    · refine .inl ⟨h1, fun k hk => ?_⟩
      by_cases q : k = f
      · rw [q]; exact c
      · exact h2 k (by omega)
    · refine .inr ⟨t', h1, by omega, h3, fun k hk hk2 => ?_⟩
      by_cases q : k = f
      · rw [q] at hk2; exact absurd c hk2
      · exact h4 k (by omega) hk2
  · rw [if_neg c1]
    rcases h with ⟨h1, h2⟩ | ⟨t', h1, h2, h3, h4⟩
    · rw [if_pos (by omega)]
      refine .inr ⟨f, rfl, by omega, by omega, fun k hk hk2 ha => ?_⟩
      have q : k = f := by
        by_cases q : k = f
        · exact q
        · exact absurd (h2 k (by omega)) hk2
      rw [q] at ha
      rcases ha with z | z <;> omega
    · rw [if_neg (by omega), show t.toNat = t' by omega]
      by_cases c2 : V (2 + 4 * f) ≤ V (2 + 4 * t')
      · rw [if_pos c2]
        refine .inr ⟨t', h1, by omega, h3, fun k hk hk2 ha => ?_⟩
        by_cases q : k = f
        · rw [q] at ha
          rcases ha with z | z <;> omega
        · exact h4 k (by omega) hk2 ha
      · rw [if_neg c2]
        refine .inr ⟨f, rfl, by omega, by omega, fun k hk hk2 ha => ?_⟩
        by_cases q : k = f
        · rw [q] at ha
          rcases ha with z | z <;> omega
        · refine h4 k (by omega) hk2 (.inl ?_)
          rcases ha with z | z <;> omega
theorem notches_v {σ : St} (hy : 0 ≤ y ∧ y ≤ 999) (hc : c < 3) (hJ : JJ σ V m W) : ∃ τ, f_L_areNotchesSo (iI y) (iI (c : Int)) σ = some (iI 1, τ) ∧ JJ τ V m W := by
  have hI := hJ.I
  obtain ⟨n, hn, hn10⟩ := hJ.n
  have H : ∀ (k g f : Nat) (t : Int) (σ : St), f + k = n → k < g → TOP V (Pr V y (SL V c)) t f → JJ σ V m W → ∃ τ, f_L_areNotchesSo_l11 g (iI y) (iI (c : Int)) (iI (cnN (mvd V y (SL V c)) f)) (iI t) (iI 1) (iI (f : Int)) σ = some (iI 1, τ) ∧ JJ τ V m W := by
    intro k
    induction k with
    | zero =>
      intro g f t σ hf hg ht hJ
      obtain ⟨g, rfl⟩ : ∃ g', g = g' + 1 := ⟨g - 1, by omega⟩
      have hfn : f = n := by omega
      subst hfn
      have htb := ht.b
      have hcb := cnN_b (mvd V y (SL V c)) f
      obtain ⟨σ1, x1, J1⟩ := a_feasts hJ
      rw [hn] at x1
      obtain ⟨σ2, x2, J2⟩ := a_moved (k := c) J1 hn hc hy
      rcases ht with ⟨t1, t2⟩ | ⟨t', t1, t2, t3, t4⟩
      · refine ⟨σ2, ?_, J2⟩
        show f_L_areNotchesSo_b11 _ _ _ _ _ _ _ _ = _
        unfold f_L_areNotchesSo_b11
        simp (disch := omega) only [iI_lit, ofNat_iI, iI_add, iI_sub, iI_mul, iI_neg, iI_lt_t, iI_lt_f, iI_le_t, iI_le_f, iI_eq_t, iI_eq_f, iI_div, rm_iI, tc_iI, inB_iI, nz_iI, is01_0, is01_1, gd_tt, bd_mk, bv_mk, oc_mk, lt_mk, Bool.false_eq_true, ↓reduceIte, x1, x2, t1]
      · obtain ⟨σ3, x3, J3⟩ := a_notch (f := t') (k := c) J2 (by omega) hy hc
        obtain ⟨σ4, x4, J4⟩ := a_proper (f := t') (k := c) J3 (by omega) hy hc
        have e := nt_top (y := y) (s := SL V c) hI hn t2 t3 (fun k k1 k2 => by
          by_cases q : Pr V y (SL V c) k = -1
          · exact q
          · exact absurd k2 (t4 k k1 q))
        have hb := Pr_b V y (SL V c) t'
        rw [e] at x3
        refine ⟨σ4, ?_, J4⟩
        show f_L_areNotchesSo_b11 _ _ _ _ _ _ _ _ = _
        unfold f_L_areNotchesSo_b11
        simp (disch := omega) only [iI_lit, ofNat_iI, iI_add, iI_sub, iI_mul, iI_neg, iI_lt_t, iI_lt_f, iI_le_t, iI_le_f, iI_eq_t, iI_eq_f, iI_div, rm_iI, tc_iI, inB_iI, nz_iI, is01_0, is01_1, gd_tt, bd_mk, bv_mk, oc_mk, lt_mk, Bool.false_eq_true, ↓reduceIte, x1, x2, t1, x3, x4]
    | succ k ih =>
      intro g f t σ hf hg ht hJ
      obtain ⟨g, rfl⟩ : ∃ g', g = g' + 1 := ⟨g - 1, by omega⟩
      obtain ⟨σ1, J1, x1⟩ := n11 (K11 := f_L_areNotchesSo_l11 g) (f := f) (mv := cnN (mvd V y (SL V c)) f) hn (by omega) hy hc ht.b hJ
      obtain ⟨τ, x2, J2⟩ := ih g (f + 1) _ σ1 (by omega) (by omega) (ht.s (fun g => (Pr_b V y (SL V c) g).1)) J1
      exact ⟨τ, x1.trans x2, J2⟩
  obtain ⟨τ, x1, J1⟩ := H n FU 0 (-1) σ (by omega) (by simp only [FU]; omega) (.inl ⟨rfl, fun k hk => by omega⟩) hJ
  refine ⟨τ, ?_, J1⟩
  unfold f_L_areNotchesSo
  simp only [iI_lit, iI_neg]
  exact x1
end NOTCH
