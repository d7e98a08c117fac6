/-! the law answers 1 on every script -/
section LAW
variable {V : Nat → Int} {m : Nat} {W : Nat → Nat → Int}
theorem cell_v {xs : Nat → Int32} {L : Nat} {j : Int} (hL : L ≤ 260) (hj : 0 ≤ j ∧ j ≤ 100) (σ : St) : ∃ x, f_L_cell xs L (iI j) σ = some (x, σ) := by
  unfold f_L_cell
  by_cases c : (L : Int) ≤ j
  · exact ⟨_, by rw [if_pos (by rw [ofNat_iI, iI_le_t c (by omega) (by omega)]; trivial)]⟩
  · refine ⟨xs (tc (iI j)), ?_⟩
    rw [if_neg (by rw [ofNat_iI, iI_le_f (by omega) (by omega) (by omega)]; exact fun h => h), inB_iI (by omega) (by omega) (by omega), gd_tt]
theorem w200 {xs : Nat → Int32} {L : Nat} {K : Int32 → St → Option Int32} {j y : Int} {σ : St} (hj : 0 ≤ j ∧ j ≤ 60) (hy : 0 ≤ y ∧ y ≤ 999) (hJ : JJ σ V m W) (hK : ∀ τ, JJ τ V m W → K (iI (j + 1)) τ = some 1) : f_L_law_b200 xs L K (iI j) (iI y) σ = some 1 := by
  unfold f_L_law_b200
  by_cases c : j % 9 = 4
  · obtain ⟨τ, x1, J1⟩ := alike_v hy hJ
    have k := hK τ J1
    simp (disch := omega) only [iI_lit, ofNat_iI, iI_add, iI_sub, iI_mul, iI_neg, iI_lt_t, iI_lt_f, iI_le_t, iI_le_f, iI_eq_t, iI_eq_f, iI_div, rm_iI, tc_iI, inB_iI, nz_iI, is01_0, is01_1, gd_tt, bd_mk, bv_mk, oc_mk, lt_mk, Bool.false_eq_true, ↓reduceIte, c, x1, k]
  · have k := hK σ hJ
    simp (disch := omega) only [iI_lit, ofNat_iI, iI_add, iI_sub, iI_mul, iI_neg, iI_lt_t, iI_lt_f, iI_le_t, iI_le_f, iI_eq_t, iI_eq_f, iI_div, rm_iI, tc_iI, inB_iI, nz_iI, is01_0, is01_1, gd_tt, bd_mk, bv_mk, oc_mk, lt_mk, Bool.false_eq_true, ↓reduceIte, k]
theorem w174 {xs : Nat → Int32} {L : Nat} {K : Int32 → St → Option Int32} {x : Int32} {j y : Int} {σ : St} (hj : 0 ≤ j ∧ j ≤ 60) (hy : 0 ≤ y ∧ y ≤ 999) (hJ : JJ σ V m W) (hK : ∀ τ m W, JJ τ V m W → K (iI (j + 1)) τ = some 1) : f_L_law_b174 xs L K (iI j) x (iI y) σ = some 1 := by
  obtain ⟨B, hB⟩ : ∃ B, x >>> ((6 : Int32) &&& 31) = B := ⟨_, rfl⟩
  unfold f_L_law_b174
  rw [hB]
  by_cases c : j % 11 = 7
  · obtain ⟨v, z1, z2, z3⟩ := low_v B (n := 3) (by omega) σ
    obtain ⟨v, rfl⟩ : ∃ v' : Nat, v = (v' : Int) := ⟨v.toNat, by omega⟩
    obtain ⟨τ, m', W', x1, J1⟩ := peace_v (c := v) hy (by omega) hJ
    have k := w200 (xs := xs) (L := L) (K := K) hj hy J1 (fun τ h => hK τ _ _ h)
    simp (disch := omega) only [iI_lit, ofNat_iI, iI_add, iI_sub, iI_mul, iI_neg, iI_lt_t, iI_lt_f, iI_le_t, iI_le_f, iI_eq_t, iI_eq_f, iI_div, rm_iI, tc_iI, inB_iI, nz_iI, is01_0, is01_1, gd_tt, bd_mk, bv_mk, oc_mk, lt_mk, Bool.false_eq_true, ↓reduceIte, c, z1, x1, k]
  · have k := w200 (xs := xs) (L := L) (K := K) hj hy hJ (fun τ h => hK τ _ _ h)
    simp (disch := omega) only [iI_lit, ofNat_iI, iI_add, iI_sub, iI_mul, iI_neg, iI_lt_t, iI_lt_f, iI_le_t, iI_le_f, iI_eq_t, iI_eq_f, iI_div, rm_iI, tc_iI, inB_iI, nz_iI, is01_0, is01_1, gd_tt, bd_mk, bv_mk, oc_mk, lt_mk, Bool.false_eq_true, ↓reduceIte, k]
theorem w151 {xs : Nat → Int32} {L : Nat} {K : Int32 → St → Option Int32} {x : Int32} {j y : Int} {σ : St} (hj : 0 ≤ j ∧ j ≤ 60) (hy : 0 ≤ y ∧ y ≤ 999) (hJ : JJ σ V m W) (hK : ∀ τ m W, JJ τ V m W → K (iI (j + 1)) τ = some 1) : f_L_law_b151 xs L K (iI j) x (iI y) σ = some 1 := by
  unfold f_L_law_b151
  obtain ⟨τ, x1, J1⟩ := quarrels_v hy hJ
  by_cases c : j % 4 = 2
  · obtain ⟨τ2, x2, J2⟩ := sticks_v J1
    have k := w174 (xs := xs) (L := L) (K := K) (x := x) hj hy J2 hK
    simp (disch := omega) only [iI_lit, ofNat_iI, iI_add, iI_sub, iI_mul, iI_neg, iI_lt_t, iI_lt_f, iI_le_t, iI_le_f, iI_eq_t, iI_eq_f, iI_div, rm_iI, tc_iI, inB_iI, nz_iI, is01_0, is01_1, gd_tt, bd_mk, bv_mk, oc_mk, lt_mk, Bool.false_eq_true, ↓reduceIte, c, x1, x2, k]
  · have k := w174 (xs := xs) (L := L) (K := K) (x := x) hj hy J1 hK
    simp (disch := omega) only [iI_lit, ofNat_iI, iI_add, iI_sub, iI_mul, iI_neg, iI_lt_t, iI_lt_f, iI_le_t, iI_le_f, iI_eq_t, iI_eq_f, iI_div, rm_iI, tc_iI, inB_iI, nz_iI, is01_0, is01_1, gd_tt, bd_mk, bv_mk, oc_mk, lt_mk, Bool.false_eq_true, ↓reduceIte, x1, k]
theorem w120 {xs : Nat → Int32} {L : Nat} {K : Int32 → St → Option Int32} {x : Int32} {j y : Int} {σ : St} (hj : 0 ≤ j ∧ j ≤ 60) (hy : 0 ≤ y ∧ y ≤ 999) (hJ : JJ σ V m W) (hK : ∀ τ m W, JJ τ V m W → K (iI (j + 1)) τ = some 1) : f_L_law_b120 xs L K (iI j) x (iI y) (iI 1) σ = some 1 := by
  obtain ⟨B, hB⟩ : ∃ B, x >>> ((8 : Int32) &&& 31) = B := ⟨_, rfl⟩
  unfold f_L_law_b120
  rw [hB]
  by_cases c : j % 2 = 1
  · obtain ⟨v, z1, z2, z3⟩ := low_v B (n := 3) (by omega) σ
    obtain ⟨v, rfl⟩ : ∃ v' : Nat, v = (v' : Int) := ⟨v.toNat, by omega⟩
    obtain ⟨τ, x1, J1⟩ := notches_v (c := v) hy (by omega) hJ
    have k := w151 (xs := xs) (L := L) (K := K) (x := x) hj hy J1 hK
    simp (disch := omega) only [iI_lit, ofNat_iI, iI_add, iI_sub, iI_mul, iI_neg, iI_lt_t, iI_lt_f, iI_le_t, iI_le_f, iI_eq_t, iI_eq_f, iI_div, rm_iI, tc_iI, inB_iI, nz_iI, is01_0, is01_1, gd_tt, bd_mk, bv_mk, oc_mk, lt_mk, Bool.false_eq_true, ↓reduceIte, c, z1, x1, k]
  · have k := w151 (xs := xs) (L := L) (K := K) (x := x) hj hy hJ hK
    simp (disch := omega) only [iI_lit, ofNat_iI, iI_add, iI_sub, iI_mul, iI_neg, iI_lt_t, iI_lt_f, iI_le_t, iI_le_f, iI_eq_t, iI_eq_f, iI_div, rm_iI, tc_iI, inB_iI, nz_iI, is01_0, is01_1, gd_tt, bd_mk, bv_mk, oc_mk, lt_mk, Bool.false_eq_true, ↓reduceIte, k]
theorem w10 {xs : Nat → Int32} {L : Nat} {K : Int32 → St → Option Int32} {j : Int} {σ : St} (hL : L ≤ 260) (hj : 0 ≤ j ∧ j < 52) (hJ : JJ σ V m W) (hK : ∀ τ V m W, JJ τ V m W → K (iI (j + 1)) τ = some 1) : f_L_law_b10 xs L K (iI j) σ = some 1 := by
  obtain ⟨x, x1⟩ := cell_v (xs := xs) hL (j := j) (by omega) σ
  obtain ⟨kd, hk, hkd1, hkd2⟩ := andM x 15 15 (by decide) (by omega)
  obtain ⟨σ1, x2, J1⟩ := a_feasts hJ
  have hn10 := hJ.I.1
  obtain ⟨g, τ, V', m', W', x3, J3, hg, g1, g2⟩ := does_v hk ⟨hkd1, by omega⟩ J1
  obtain ⟨B, hB⟩ : ∃ B, x >>> ((5 : Int32) &&& 31) = B := ⟨_, rfl⟩
  obtain ⟨y, z1, z2, z3⟩ := low_v B (n := 1000) (by omega) τ
  have hy : 0 ≤ y ∧ y ≤ 999 := by omega
  have k81 : f_L_law_b81 xs L K (iI j) x (iI kd) (iI g) (iI y) τ = some 1 := by
    unfold f_L_law_b81
    by_cases c1 : kd < 10
    · have k := w120 (xs := xs) (L := L) (K := K) (x := x) (by omega) hy J3 (fun τ m W h => hK τ _ _ _ h)
      simp (disch := omega) only [iI_lit, ofNat_iI, iI_add, iI_sub, iI_mul, iI_neg, iI_lt_t, iI_lt_f, iI_le_t, iI_le_f, iI_eq_t, iI_eq_f, iI_div, rm_iI, tc_iI, inB_iI, nz_iI, is01_0, is01_1, gd_tt, bd_mk, bv_mk, oc_mk, lt_mk, Bool.false_eq_true, ↓reduceIte, k]
    · by_cases c2 : 12 < kd
      · have k := w120 (xs := xs) (L := L) (K := K) (x := x) (by omega) hy J3 (fun τ m W h => hK τ _ _ _ h)
        simp (disch := omega) only [iI_lit, ofNat_iI, iI_add, iI_sub, iI_mul, iI_neg, iI_lt_t, iI_lt_f, iI_le_t, iI_le_f, iI_eq_t, iI_eq_f, iI_div, rm_iI, tc_iI, inB_iI, nz_iI, is01_0, is01_1, gd_tt, bd_mk, bv_mk, oc_mk, lt_mk, Bool.false_eq_true, ↓reduceIte, k]
      · obtain ⟨h1, h2, h3⟩ := g2 (by omega) (by omega)
        obtain ⟨τ1, y1, J4⟩ := a_stick (f := 0) (k := 3) J3 h1 (by omega)
        obtain ⟨τ2, y2, J5⟩ := a_stick (f := 0) (k := 2) J4 h1 (by omega)
        rw [h2] at y1
        rw [h3] at y2
        have y1 : f_X6_stick (iI 0) (iI 3) τ = some (iI 0, τ1) := y1
        have y2 : f_X6_stick (iI 0) (iI 2) τ1 = some (iI g, τ2) := y2
        have k := w120 (xs := xs) (L := L) (K := K) (x := x) (by omega) hy J5 (fun τ m W h => hK τ _ _ _ h)
        simp (disch := omega) only [iI_lit, ofNat_iI, iI_add, iI_sub, iI_mul, iI_neg, iI_lt_t, iI_lt_f, iI_le_t, iI_le_f, iI_eq_t, iI_eq_f, iI_div, rm_iI, tc_iI, inB_iI, nz_iI, is01_0, is01_1, gd_tt, bd_mk, bv_mk, oc_mk, lt_mk, Bool.false_eq_true, ↓reduceIte, y1, y2, k]
  unfold f_L_law_b10
  rw [if_neg (by rw [show (52 : Int32) = iI 52 from rfl, iI_le_f (by omega) (by omega) (by omega)]; exact fun h => h), x1, bd_mk, hk, lt_mk]
  simp only [hB]
  by_cases c1 : 4 < kd
  · simp (disch := omega) only [iI_lit, ofNat_iI, iI_add, iI_sub, iI_mul, iI_neg, iI_lt_t, iI_lt_f, iI_le_t, iI_le_f, iI_eq_t, iI_eq_f, iI_div, rm_iI, tc_iI, inB_iI, nz_iI, is01_0, is01_1, gd_tt, bd_mk, bv_mk, oc_mk, lt_mk, Bool.false_eq_true, ↓reduceIte, x2, x3, z1, k81]
  · have g1 := g1 (by omega)
    unfold f_L_law_b78
    by_cases c2 : V 0 < 10
    · rw [if_pos c2] at g1
      rw [g1] at x3 k81
      simp (disch := omega) only [iI_lit, ofNat_iI, iI_add, iI_sub, iI_mul, iI_neg, iI_lt_t, iI_lt_f, iI_le_t, iI_le_f, iI_eq_t, iI_eq_f, iI_div, rm_iI, tc_iI, inB_iI, nz_iI, is01_0, is01_1, gd_tt, bd_mk, bv_mk, oc_mk, lt_mk, Bool.false_eq_true, ↓reduceIte, x2, x3, z1, k81]
    · rw [if_neg c2] at g1
      rw [g1] at x3 k81
      simp (disch := omega) only [iI_lit, ofNat_iI, iI_add, iI_sub, iI_mul, iI_neg, iI_lt_t, iI_lt_f, iI_le_t, iI_le_f, iI_eq_t, iI_eq_f, iI_div, rm_iI, tc_iI, inB_iI, nz_iI, is01_0, is01_1, gd_tt, bd_mk, bv_mk, oc_mk, lt_mk, Bool.false_eq_true, ↓reduceIte, x2, x3, z1, k81]
end LAW
theorem JJ_0 : JJ s1 (fun k => if k = 44 then 300 else 0) 0 (fun _ _ => 0) := by
  refine ⟨⟨⟨⟨⟨?_, ?_, ?_, fun c hc => ?_, fun f hf => ?_, fun k hk => ?_⟩, fun k hk => ?_⟩, fun k f hk _ _ => ?_⟩, fun j hj => by omega, by omega, fun i hi => by omega⟩, 0, ⟨?_, ?_, ?_, fun c hc => ?_, fun f hf => ?_, fun k hk => ?_⟩, ⟨?_, ?_, by omega, by omega, fun j hj => by omega⟩, ?_, fun i hi => by omega⟩
  · simp
  · simp
  · simp
  · show -5 ≤ (if 41 + c = 44 then (300 : Int) else 0) ∧ (if 41 + c = 44 then (300 : Int) else 0) ≤ 5
    rw [if_neg (by omega)]; omega
  · simp at hf; omega
  · simp at hk; omega
  · unfold IK
    simp only
    rw [if_neg (by omega), if_neg (by omega), if_neg (by omega)]
    exact ⟨by omega, by omega, by omega, by omega, by omega, by omega, fun f hf => by rw [if_neg (by omega)]; omega⟩
  · simp at hk; omega
  · decide +kernel
  · decide +kernel
  · decide +kernel
  · rcases (show c = 0 ∨ c = 1 ∨ c = 2 by omega) with rfl | rfl | rfl <;> decide +kernel
  · simp at hf; omega
  · simp at hk; omega
  · decide +kernel
  · decide +kernel
  · decide +kernel
theorem law_pure (xs : Nat → Int32) {L : Nat} (hL : L ≤ 260) : f_L_law_l10 xs L FU 0 s1 = some 1 := by
  have H : ∀ (k g j : Nat) (σ : St) (V : Nat → Int) (m : Nat) (W : Nat → Nat → Int), j + k = 52 → k < g → JJ σ V m W → f_L_law_l10 xs L g (iI (j : Int)) σ = some 1 := by
    intro k
    induction k with
    | zero =>
      intro g j σ V m W hj hg hJ
      obtain ⟨g, rfl⟩ : ∃ g', g = g' + 1 := ⟨g - 1, by omega⟩
      have hj52 : j = 52 := by omega
      subst hj52
      show f_L_law_b10 _ _ _ (iI 52) _ = _
      unfold f_L_law_b10
      exact if_pos (by decide)
    | succ k ih =>
      intro g j σ V m W hj hg hJ
      obtain ⟨g, rfl⟩ : ∃ g', g = g' + 1 := ⟨g - 1, by omega⟩
      show f_L_law_b10 _ _ _ _ _ = _
      refine w10 hL (by omega) hJ (fun τ V m W h => ?_)
      rw [show (j : Int) + 1 = ((j + 1 : Nat) : Int) by omega]
      exact ih g (j + 1) τ V m W (by omega) (by omega) h
  exact H 52 FU 0 s1 _ _ _ (by omega) (by simp only [FU]; omega) JJ_0
