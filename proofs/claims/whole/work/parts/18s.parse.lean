/-! the reference's reading, told by the automaton -/
def PS (σ : St) (i : Nat) (w : Int) : Prop := σ.1 225 10 = iI (i : Int) ∧ σ.1 225 11 = iI w
/-- all as before but for the place and the fault; and with what is told -/
def FS (σ τ : St) : Prop := (∀ c, c ≠ 225 → τ.1 c = σ.1 c) ∧ (∀ j, j ≠ 10 → j ≠ 11 → τ.1 225 j = σ.1 225 j) ∧ τ.2 = σ.2
def FP (σ τ : St) : Prop := (∀ c, c ≠ 225 → c ≠ 233 → τ.1 c = σ.1 c) ∧ (∀ j, j ≠ 10 → j ≠ 11 → τ.1 225 j = σ.1 225 j) ∧ τ.2 = σ.2
theorem FS.rfl {σ : St} : FS σ σ := ⟨fun _ _ => Eq.refl _, fun _ _ _ => Eq.refl _, Eq.refl _⟩
theorem FS.tr {σ τ υ : St} (h : FS σ τ) (h' : FS τ υ) : FS σ υ := ⟨fun c hc => (h'.1 c hc).trans (h.1 c hc), fun j h1 h2 => (h'.2.1 j h1 h2).trans (h.2.1 j h1 h2), h'.2.2.trans h.2.2⟩
theorem FS.fp {σ τ : St} (h : FS σ τ) : FP σ τ := ⟨fun c hc _ => h.1 c hc, h.2.1, h.2.2⟩
theorem FP.rfl {σ : St} : FP σ σ := FS.rfl.fp
theorem FP.tr {σ τ υ : St} (h : FP σ τ) (h' : FP τ υ) : FP σ υ := ⟨fun c h1 h2 => (h'.1 c h1 h2).trans (h.1 c h1 h2), fun j h1 h2 => (h'.2.1 j h1 h2).trans (h.2.1 j h1 h2), h'.2.2.trans h.2.2⟩
theorem FS.s10 {σ : St} {v : Int32} : FS σ (sI σ 225 10 v) := ⟨fun c hc => sI_c hc, fun j h1 _ => sI_k h1, Eq.refl _⟩
theorem FS.s11 {σ : St} {v : Int32} : FS σ (sI σ 225 11 v) := ⟨fun c hc => sI_c hc, fun j _ h1 => sI_k h1, Eq.refl _⟩
theorem FP.s33 {σ : St} {j : Nat} {v : Int32} : FP σ (sI σ 233 j v) := ⟨fun c _ h2 => sI_c h2, fun j _ _ => by rw [sI_c (by omega)], Eq.refl _⟩
theorem PS.s33 {σ : St} {i j : Nat} {w : Int} {v : Int32} (h : PS σ i w) : PS (sI σ 233 j v) i w := by unfold PS; rw [sI_c (by omega)]; exact h
theorem BR.fp {σ τ : St} {len : Nat} {b : Nat → Int} (h : BR σ len b) (e : FP σ τ) : BR τ len b := ⟨by rw [e.2.1 5 (by omega) (by omega)]; exact h.1, fun i hi => by rw [e.1 228 (by omega) (by omega)]; exact h.2 i hi⟩
/-- the place at which the text is wrong -/
def WR (len : Nat) (b : Nat → Int) (e : Nat) : Prop := ∃ q, rch b e = some q ∧ e ≤ len ∧ ((e = len ∧ ¬ mayE q) ∨ (e < len ∧ rd q (b e) = none))
def WS (len : Nat) (b : Nat → Int) (σ : St) : Prop := ∃ e, PS σ e 1 ∧ WR len b e
theorem X7in_v {x a c : Int} (h1 : -10000 ≤ x ∧ x ≤ 10000) (h2 : -10000 ≤ a ∧ a ≤ 10000) (h3 : -10000 ≤ c ∧ c ≤ 10000) (σ : St) : (a ≤ x ∧ x ≤ c → f_X7_in (iI x) (iI a) (iI c) σ = some (iI 1, σ)) ∧ (¬ (a ≤ x ∧ x ≤ c) → f_X7_in (iI x) (iI a) (iI c) σ = some (iI 0, σ)) := by
  have h := in_v (x := x) (a := a) (b := c) h1 h2 h3 σ
  exact ⟨fun q => by rw [if_pos q] at h; exact h, fun q => by rw [if_neg q] at h; exact h⟩
section PR
variable {len : Nat} {b : Nat → Int} {σ : St}
theorem sign_w {e : Nat} {lo hi : Int32} (hB : BR σ len b) (hT : TX len b) (hP : PS σ e 1) (he : e ≤ len) : ∃ τ x, f_X7_sign lo hi σ = some (x, τ) ∧ FS σ τ ∧ PS τ e 1 := by
  obtain ⟨p1, p2⟩ := hP
  have r := hB.1
  have hl := hT.1
  have key : ∀ w0 : Int32, f_X7_sign_b24 lo hi w0 σ = some (w0, sI (sI σ 225 11 (iI 1)) 225 10 (iI (e : Int))) := by
    intro w0
    have z1 : (sI σ 225 11 (iI 1)).1 225 10 = iI (e : Int) := by rw [sI_k (by omega)]; exact p1
    unfold f_X7_sign_b24 f_X7_sign_b47
    simp (disch := omega) only [iI_lit, ofNat_iI, iI_add, iI_sub, iI_mul, iI_neg, iI_lt_t, iI_lt_f, iI_le_t, iI_le_f, iI_eq_t, iI_eq_f, iI_div, rm_iI, tc_iI, inB_iI, nz_iI, is01_0, is01_1, gd_tt, bd_mk, bv_mk, oc_mk, lt_mk, Bool.false_eq_true, ↓reduceIte, p2, sI_hit, z1, Int.add_zero]
  refine ⟨sI (sI σ 225 11 (iI 1)) 225 10 (iI (e : Int)), ?_⟩
  have hF : FS σ (sI (sI σ 225 11 (iI 1)) 225 10 (iI (e : Int))) := FS.s11.tr FS.s10
  have hQ : PS (sI (sI σ 225 11 (iI 1)) 225 10 (iI (e : Int))) e 1 := ⟨sI_hit _ _ _ _, by rw [sI_k (by omega), sI_hit]⟩
  unfold f_X7_sign
  by_cases c : len ≤ e
  · refine ⟨iI 0, ?_, hF, hQ⟩
    simp (disch := omega) only [iI_lit, ofNat_iI, iI_add, iI_sub, iI_mul, iI_neg, iI_lt_t, iI_lt_f, iI_le_t, iI_le_f, iI_eq_t, iI_eq_f, iI_div, rm_iI, tc_iI, inB_iI, nz_iI, is01_0, is01_1, gd_tt, bd_mk, bv_mk, oc_mk, lt_mk, Bool.false_eq_true, ↓reduceIte, r, p1, key]
  · refine ⟨σ.1 228 e, ?_, hF, hQ⟩
    have e0 : ((e : Int)).toNat = e := by omega
    simp (disch := omega) only [iI_lit, ofNat_iI, iI_add, iI_sub, iI_mul, iI_neg, iI_lt_t, iI_lt_f, iI_le_t, iI_le_f, iI_eq_t, iI_eq_f, iI_div, rm_iI, tc_iI, inB_iI, nz_iI, is01_0, is01_1, gd_tt, bd_mk, bv_mk, oc_mk, lt_mk, Bool.false_eq_true, ↓reduceIte, r, p1, e0, key]
theorem sign_ok {i : Nat} {lo hi : Int} (hB : BR σ len b) (hT : TX len b) (hP : PS σ i 0) (hi' : i < len) (hb : lo ≤ b i ∧ b i ≤ hi) (hl1 : 0 ≤ lo) (hl2 : hi ≤ 200) : ∃ τ, f_X7_sign (iI lo) (iI hi) σ = some (iI (b i), τ) ∧ FS σ τ ∧ PS τ (i + 1) 0 := by
  obtain ⟨p1, p2⟩ := hP
  have r := hB.1
  have r2 := hB.2 i hi'
  have hl := hT.1
  have ht := hT.2 i hi'
  have e0 : ((i : Int)).toNat = i := by omega
  have e1 : (i : Int) + 1 = ((i + 1 : Nat) : Int) := by omega
  have z0 := (X7in_v (x := b i) (a := lo) (c := hi) (by omega) (by omega) (by omega) σ).1 hb
  have z1 : (sI σ 225 11 (iI 0)).1 225 10 = iI (i : Int) := by rw [sI_k (by omega)]; exact p1
  refine ⟨sI (sI σ 225 11 (iI 0)) 225 10 (iI ((i + 1 : Nat) : Int)), ?_, FS.s11.tr FS.s10, sI_hit _ _ _ _, by rw [sI_k (by omega), sI_hit]⟩
  unfold f_X7_sign f_X7_sign_b24 f_X7_sign_b47
  simp (disch := omega) only [iI_lit, ofNat_iI, iI_add, iI_sub, iI_mul, iI_neg, iI_lt_t, iI_lt_f, iI_le_t, iI_le_f, iI_eq_t, iI_eq_f, iI_div, rm_iI, tc_iI, inB_iI, nz_iI, is01_0, is01_1, gd_tt, bd_mk, bv_mk, oc_mk, lt_mk, Bool.false_eq_true, ↓reduceIte, r, p1, p2, e0, r2, z0, sI_hit, z1, e1]
theorem sign_no {i : Nat} {lo hi : Int} (hB : BR σ len b) (hT : TX len b) (hP : PS σ i 0) (hi' : i ≤ len) (hb : i < len → ¬ (lo ≤ b i ∧ b i ≤ hi)) (hl1 : 0 < lo) (hl2 : hi ≤ 200) (hl3 : lo ≤ 200) (hl4 : 0 ≤ hi) : ∃ τ x, f_X7_sign (iI lo) (iI hi) σ = some (x, τ) ∧ FS σ τ ∧ PS τ i 1 := by
  obtain ⟨p1, p2⟩ := hP
  have r := hB.1
  have hl := hT.1
  have z1 : (sI σ 225 11 (iI 1)).1 225 10 = iI (i : Int) := by rw [sI_k (by omega)]; exact p1
  have hQ : PS (sI (sI σ 225 11 (iI 1)) 225 10 (iI (i : Int))) i 1 := ⟨sI_hit _ _ _ _, by rw [sI_k (by omega), sI_hit]⟩
  by_cases c : len ≤ i
  · have z0 := (X7in_v (x := 0) (a := lo) (c := hi) (by omega) (by omega) (by omega) σ).2 (by omega)
    refine ⟨sI (sI σ 225 11 (iI 1)) 225 10 (iI (i : Int)), iI 0, ?_, FS.s11.tr FS.s10, hQ⟩
    unfold f_X7_sign f_X7_sign_b24 f_X7_sign_b47
    simp (disch := omega) only [iI_lit, ofNat_iI, iI_add, iI_sub, iI_mul, iI_neg, iI_lt_t, iI_lt_f, iI_le_t, iI_le_f, iI_eq_t, iI_eq_f, iI_div, rm_iI, tc_iI, inB_iI, nz_iI, is01_0, is01_1, gd_tt, bd_mk, bv_mk, oc_mk, lt_mk, Bool.false_eq_true, ↓reduceIte, r, p1, p2, z0, sI_hit, z1, Int.add_zero]
  · have hi2 : i < len := by omega
    have r2 := hB.2 i hi2
    have ht := hT.2 i hi2
    have e0 : ((i : Int)).toNat = i := by omega
    have z0 := (X7in_v (x := b i) (a := lo) (c := hi) (by omega) (by omega) (by omega) σ).2 (hb hi2)
    refine ⟨sI (sI σ 225 11 (iI 1)) 225 10 (iI (i : Int)), iI (b i), ?_, FS.s11.tr FS.s10, hQ⟩
    unfold f_X7_sign f_X7_sign_b24 f_X7_sign_b47
    simp (disch := omega) only [iI_lit, ofNat_iI, iI_add, iI_sub, iI_mul, iI_neg, iI_lt_t, iI_lt_f, iI_le_t, iI_le_f, iI_eq_t, iI_eq_f, iI_div, rm_iI, tc_iI, inB_iI, nz_iI, is01_0, is01_1, gd_tt, bd_mk, bv_mk, oc_mk, lt_mk, Bool.false_eq_true, ↓reduceIte, r, p1, p2, e0, r2, z0, sI_hit, z1, Int.add_zero]
theorem isNext_t {i : Nat} {c : Int} (hB : BR σ len b) (hT : TX len b) (hP : PS σ i 0) (hi' : i < len) (hb : b i = c) : f_X7_isNext (iI c) σ = some (iI 1, σ) := by
  obtain ⟨p1, p2⟩ := hP
  have r := hB.1
  have r2 := hB.2 i hi'
  have hl := hT.1
  have e0 : ((i : Int)).toNat = i := by omega
  unfold f_X7_isNext
  simp (disch := omega) only [iI_lit, ofNat_iI, iI_add, iI_sub, iI_mul, iI_neg, iI_lt_t, iI_lt_f, iI_le_t, iI_le_f, iI_eq_t, iI_eq_f, iI_div, rm_iI, tc_iI, inB_iI, nz_iI, is01_0, is01_1, gd_tt, bd_mk, bv_mk, oc_mk, lt_mk, Bool.false_eq_true, ↓reduceIte, r, p1, p2, e0, r2, hb]
theorem isNext_f {i : Nat} {c : Int} (hB : BR σ len b) (hT : TX len b) (hP : PS σ i 0) (hi' : i ≤ len) (hb : i < len → b i ≠ c) (hc : 0 ≤ c ∧ c ≤ 200) : f_X7_isNext (iI c) σ = some (iI 0, σ) := by
  obtain ⟨p1, p2⟩ := hP
  have r := hB.1
  have hl := hT.1
  have e0 : ((i : Int)).toNat = i := by omega
  unfold f_X7_isNext
  by_cases c1 : len ≤ i
  · simp (disch := omega) only [iI_lit, ofNat_iI, iI_add, iI_sub, iI_mul, iI_neg, iI_lt_t, iI_lt_f, iI_le_t, iI_le_f, iI_eq_t, iI_eq_f, iI_div, rm_iI, tc_iI, inB_iI, nz_iI, is01_0, is01_1, gd_tt, bd_mk, bv_mk, oc_mk, lt_mk, Bool.false_eq_true, ↓reduceIte, r, p1, p2]
  · have hi2 : i < len := by omega
    have r2 := hB.2 i hi2
    have ht := hT.2 i hi2
    have h5 := hb hi2
    simp (disch := omega) only [iI_lit, ofNat_iI, iI_add, iI_sub, iI_mul, iI_neg, iI_lt_t, iI_lt_f, iI_le_t, iI_le_f, iI_eq_t, iI_eq_f, iI_div, rm_iI, tc_iI, inB_iI, nz_iI, is01_0, is01_1, gd_tt, bd_mk, bv_mk, oc_mk, lt_mk, Bool.false_eq_true, ↓reduceIte, r, p1, p2, e0, r2]
theorem isNext_w {e : Nat} {c : Int32} (hP : PS σ e 1) : f_X7_isNext c σ = some (iI 0, σ) := by
  obtain ⟨p1, p2⟩ := hP
  unfold f_X7_isNext
  simp (disch := omega) only [iI_lit, ofNat_iI, iI_add, iI_sub, iI_mul, iI_neg, iI_lt_t, iI_lt_f, iI_le_t, iI_le_f, iI_eq_t, iI_eq_f, iI_div, rm_iI, tc_iI, inB_iI, nz_iI, is01_0, is01_1, gd_tt, bd_mk, bv_mk, oc_mk, lt_mk, Bool.false_eq_true, ↓reduceIte, p2]
theorem number_w {e : Nat} {x : Int32} (hB : BR σ len b) (hT : TX len b) (hP : PS σ e 1) (he : e ≤ len) : ∃ τ y, f_X7_number x σ = some (y, τ) ∧ FS σ τ ∧ PS τ e 1 := by
  obtain ⟨τ, y, x1, x2, x3⟩ := sign_w (lo := iI 48) (hi := iI 57) hB hT hP he
  refine ⟨τ, y - iI 48, ?_, x2, x3⟩
  have p2 := x3.2
  have step : ∀ g v, f_X7_number_l12 (g + 1) x v τ = some (v, τ) := by
    intro g v
    show f_X7_number_b12 _ _ _ _ = _
    unfold f_X7_number_b12
    simp (disch := omega) only [iI_lit, ofNat_iI, iI_add, iI_sub, iI_mul, iI_neg, iI_lt_t, iI_lt_f, iI_le_t, iI_le_f, iI_eq_t, iI_eq_f, iI_div, rm_iI, tc_iI, inB_iI, nz_iI, is01_0, is01_1, gd_tt, bd_mk, bv_mk, oc_mk, lt_mk, Bool.false_eq_true, ↓reduceIte, p2]
  unfold f_X7_number
  rw [show FU = 3999 + 1 from rfl]
  simp only [iI_lit, x1, bd_mk, lt_mk]
  exact step _ _
/-- no end of a feast from i0 on up to e -/
def NS (b : Nat → Int) (i0 e : Nat) : Prop := i0 ≤ e ∧ ∀ x, i0 ≤ x → x < e → b x ≠ 59
theorem NS.s {i0 e : Nat} (h : NS b i0 e) (hb : b e ≠ 59) : NS b i0 (e + 1) := ⟨by have := h.1; omega, fun x h1 h2 => by
  by_cases c : x = e
  · rw [c]; exact hb
  · exact h.2 x h1 (by omega)⟩
theorem number_v {i i0 : Nat} {r n0 m o k : Int} (hB : BR σ len b) (hT : TX len b) (hP : PS σ i 0) (hi' : i ≤ len) (hN : NS b i0 i) (hq : rch b i = some (3, r, n0, m, o, k)) : ∃ τ x, f_X7_number (iI (mst r)) σ = some (x, τ) ∧ FS σ τ ∧ (WS len b τ ∨ ∃ e n, PS τ e 0 ∧ x = iI n ∧ rch b e = some (4, r, n, m, o, k) ∧ e ≤ len ∧ NS b i0 e ∧ (e < len → ¬ ((48 ≤ b e ∧ b e ≤ 57) ∧ n ≠ 0 ∧ n * 10 + b e - 48 ≤ mst r))) := by
  have hl := hT.1
  have hm : 90 ≤ mst r ∧ mst r ≤ 365 := by unfold mst; split <;> omega
  by_cases c1 : i < len ∧ (48 ≤ b i ∧ b i ≤ 57)
  · obtain ⟨σ1, x1, x2, x3⟩ := sign_ok (lo := 48) (hi := 57) hB hT hP c1.1 c1.2 (by omega) (by omega)
    have q1 : rch b (i + 1) = some (4, r, b i - 48, m, o, k) := by rw [rch_s hq]; exact if_pos c1.2
    obtain ⟨⟨e, n, τ⟩, ⟨h1, h2, h3, h4, h5, h6⟩, h7⟩ := wlp (F := fun g (s : Nat × Int × St) => f_X7_number_l12 g (iI (mst r)) (iI s.2.1) s.2.2) (X := fun (s : Nat × Int × St) => some (iI s.2.1, s.2.2)) (fun s => len - s.1) (fun s => PS s.2.2 s.1 0 ∧ FS σ s.2.2 ∧ rch b s.1 = some (4, r, s.2.1, m, o, k) ∧ s.1 ≤ len ∧ NS b i0 s.1) (fun s => PS s.2.2 s.1 0 ∧ FS σ s.2.2 ∧ rch b s.1 = some (4, r, s.2.1, m, o, k) ∧ s.1 ≤ len ∧ NS b i0 s.1 ∧ (s.1 < len → ¬ ((48 ≤ b s.1 ∧ b s.1 ≤ 57) ∧ s.2.1 ≠ 0 ∧ s.2.1 * 10 + b s.1 - 48 ≤ mst r))) (by
      rintro g ⟨j, n, τ⟩ ⟨z1, z2, z3, z4, z5⟩
      simp only at z1 z2 z3 z4 z5
      have tB := hB.fp z2.fp
      have rb := (RB_x (rch_RB z3)).2.2.1
      have r1 := tB.1
      obtain ⟨p1, p2⟩ := id z1
      by_cases d1 : n = 0
      · refine .inl ⟨(j, n, τ), ⟨z1, z2, z3, z4, z5, fun _ q => q.2.1 d1⟩, ?_⟩
        show f_X7_number_b12 _ _ _ _ = some (iI n, τ)
        unfold f_X7_number_b12
        simp (disch := omega) only [iI_lit, ofNat_iI, iI_add, iI_sub, iI_mul, iI_neg, iI_lt_t, iI_lt_f, iI_le_t, iI_le_f, iI_eq_t, iI_eq_f, iI_div, rm_iI, tc_iI, inB_iI, nz_iI, is01_0, is01_1, gd_tt, bd_mk, bv_mk, oc_mk, lt_mk, Bool.false_eq_true, ↓reduceIte, p2, d1]
      · by_cases d2 : len ≤ j
        · refine .inl ⟨(j, n, τ), ⟨z1, z2, z3, z4, z5, fun q => by simp only at q; omega⟩, ?_⟩
          show f_X7_number_b12 _ _ _ _ = some (iI n, τ)
          unfold f_X7_number_b12
          simp (disch := omega) only [iI_lit, ofNat_iI, iI_add, iI_sub, iI_mul, iI_neg, iI_lt_t, iI_lt_f, iI_le_t, iI_le_f, iI_eq_t, iI_eq_f, iI_div, rm_iI, tc_iI, inB_iI, nz_iI, is01_0, is01_1, gd_tt, bd_mk, bv_mk, oc_mk, lt_mk, Bool.false_eq_true, ↓reduceIte, p2, r1, p1]
        · have hj : j < len := by omega
          have r2 := tB.2 j hj
          have ht := hT.2 j hj
          have e0 : ((j : Int)).toNat = j := by omega
          by_cases d3 : 48 ≤ b j ∧ b j ≤ 57
          · have k0 := (X7in_v (x := b j) (a := 48) (c := 57) (by omega) (by omega) (by omega) τ).1 d3
            by_cases d4 : n * 10 + b j - 48 ≤ mst r
            · obtain ⟨υ, y1, y2, y3⟩ := sign_ok (lo := 48) (hi := 57) tB hT z1 hj d3 (by omega) (by omega)
              have e5 : 10 * n + b j - 48 = n * 10 + b j - 48 := by omega
              refine .inr ⟨(j + 1, n * 10 + b j - 48, υ), ⟨y3, z2.tr y2, by rw [rch_s z3]; exact if_pos (show (48 ≤ b j ∧ b j ≤ 57) ∧ n ≠ 0 ∧ n * 10 + b j - 48 ≤ mst r from ⟨d3, d1, d4⟩), by simp only; omega, z5.s (by omega)⟩, by simp only; omega, ?_⟩
              show f_X7_number_b12 _ _ _ _ = _
              unfold f_X7_number_b12
              simp (disch := omega) only [iI_lit, ofNat_iI, iI_add, iI_sub, iI_mul, iI_neg, iI_lt_t, iI_lt_f, iI_le_t, iI_le_f, iI_eq_t, iI_eq_f, iI_div, rm_iI, tc_iI, inB_iI, nz_iI, is01_0, is01_1, gd_tt, bd_mk, bv_mk, oc_mk, lt_mk, Bool.false_eq_true, ↓reduceIte, p2, r1, p1, e0, r2, k0, y1, e5]
            · refine .inl ⟨(j, n, τ), ⟨z1, z2, z3, z4, z5, fun _ q => d4 q.2.2⟩, ?_⟩
              show f_X7_number_b12 _ _ _ _ = some (iI n, τ)
              unfold f_X7_number_b12
              simp (disch := omega) only [iI_lit, ofNat_iI, iI_add, iI_sub, iI_mul, iI_neg, iI_lt_t, iI_lt_f, iI_le_t, iI_le_f, iI_eq_t, iI_eq_f, iI_div, rm_iI, tc_iI, inB_iI, nz_iI, is01_0, is01_1, gd_tt, bd_mk, bv_mk, oc_mk, lt_mk, Bool.false_eq_true, ↓reduceIte, p2, r1, p1, e0, r2, k0]
          · have k0 := (X7in_v (x := b j) (a := 48) (c := 57) (by omega) (by omega) (by omega) τ).2 d3
            refine .inl ⟨(j, n, τ), ⟨z1, z2, z3, z4, z5, fun _ q => d3 q.1⟩, ?_⟩
            show f_X7_number_b12 _ _ _ _ = some (iI n, τ)
            unfold f_X7_number_b12
            simp (disch := omega) only [iI_lit, ofNat_iI, iI_add, iI_sub, iI_mul, iI_neg, iI_lt_t, iI_lt_f, iI_le_t, iI_le_f, iI_eq_t, iI_eq_f, iI_div, rm_iI, tc_iI, inB_iI, nz_iI, is01_0, is01_1, gd_tt, bd_mk, bv_mk, oc_mk, lt_mk, Bool.false_eq_true, ↓reduceIte, p2, r1, p1, e0, r2, k0]) FU (i + 1, b i - 48, σ1) ⟨x3, x2, q1, by simp only; omega, hN.s (by omega)⟩ (by simp only [FU]; omega)
    refine ⟨τ, iI n, ?_, h2, .inr ⟨e, n, h1, rfl, h3, h4, h5, h6⟩⟩
    unfold f_X7_number
    simp (disch := omega) only [iI_lit, ofNat_iI, iI_add, iI_sub, iI_mul, iI_neg, iI_lt_t, iI_lt_f, iI_le_t, iI_le_f, iI_eq_t, iI_eq_f, iI_div, rm_iI, tc_iI, inB_iI, nz_iI, is01_0, is01_1, gd_tt, bd_mk, bv_mk, oc_mk, lt_mk, Bool.false_eq_true, ↓reduceIte, x1]
    exact h7
  · obtain ⟨σ1, x, x1, x2, x3⟩ := sign_no (lo := 48) (hi := 57) hB hT hP hi' (fun h q => c1 ⟨h, q⟩) (by omega) (by omega) (by omega) (by omega)
    have hW : WS len b σ1 := by
      refine ⟨i, x3, _, hq, hi', ?_⟩
      by_cases c2 : i = len
      · refine .inl ⟨c2, ?_⟩
        unfold mayE; simp only; omega
      · exact .inr ⟨by omega, if_neg (fun q => c1 ⟨by omega, q⟩)⟩
    have p2 := x3.2
    have step : ∀ g v, f_X7_number_l12 (g + 1) (iI (mst r)) v σ1 = some (v, σ1) := by
      intro g v
      show f_X7_number_b12 _ _ _ _ = _
      unfold f_X7_number_b12
      simp (disch := omega) only [iI_lit, ofNat_iI, iI_add, iI_sub, iI_mul, iI_neg, iI_lt_t, iI_lt_f, iI_le_t, iI_le_f, iI_eq_t, iI_eq_f, iI_div, rm_iI, tc_iI, inB_iI, nz_iI, is01_0, is01_1, gd_tt, bd_mk, bv_mk, oc_mk, lt_mk, Bool.false_eq_true, ↓reduceIte, p2]
    refine ⟨σ1, x - iI 48, ?_, x2, .inl hW⟩
    unfold f_X7_number
    rw [show FU = 3999 + 1 from rfl]
    simp only [iI_lit, x1, bd_mk, lt_mk]
    exact step _ _
/-- a feast has been read -/
def DN (len : Nat) (b : Nat → Int) (i0 : Nat) (σ : St) : Prop := ∃ e q, PS σ e 0 ∧ rch b e = some q ∧ e ≤ len ∧ NS b i0 e ∧ mayE q ∧ (e < len → b e ≠ 59 → rd q (b e) = none) ∧ σ.1 233 0 = iI q.2.1 ∧ σ.1 233 1 = iI q.2.2.2.2.2 ∧ σ.1 233 2 = iI (if q.2.2.2.1 = 0 then q.2.2.1 else -q.2.2.1) ∧ σ.1 233 3 = iI q.2.2.2.2.1
theorem b258_w {e : Nat} (hB : BR σ len b) (hT : TX len b) (hP : PS σ e 1) (he : e ≤ len) : ∃ τ, f_X7_read_b258 σ = some τ ∧ FP σ τ ∧ PS τ e 1 := by
  have h1 : PS (sI σ 233 1 (iI 0)) e 1 := hP.s33
  have n1 := isNext_w (c := iI 94) h1
  refine ⟨sI σ 233 1 (iI 0), ?_, FP.s33, h1⟩
  unfold f_X7_read_b258
  simp (disch := omega) only [iI_lit, ofNat_iI, iI_add, iI_sub, iI_mul, iI_neg, iI_lt_t, iI_lt_f, iI_le_t, iI_le_f, iI_eq_t, iI_eq_f, iI_div, rm_iI, tc_iI, inB_iI, nz_iI, is01_0, is01_1, gd_tt, bd_mk, bv_mk, oc_mk, lt_mk, Bool.false_eq_true, ↓reduceIte, Int.reduceToNat, n1]
theorem b258_v {i i0 : Nat} {p r n m o : Int} (hB : BR σ len b) (hT : TX len b) (hP : PS σ i 0) (hi' : i ≤ len) (hN : NS b i0 i) (hq : rch b i = some (p, r, n, m, o, 0)) (hE : mayE (p, r, n, m, o, 0)) (hrd : i < len → rd (p, r, n, m, o, 0) (b i) = bhd (p, r, n, m, o, 0) (b i)) (t0 : σ.1 233 0 = iI r) (t2 : σ.1 233 2 = iI (if m = 0 then n else -n)) (t3 : σ.1 233 3 = iI o) : ∃ τ, f_X7_read_b258 σ = some τ ∧ FP σ τ ∧ (WS len b τ ∨ DN len b i0 τ) := by
  obtain ⟨σ1, hσ1⟩ : ∃ σ1, σ1 = sI σ 233 1 (iI 0) := ⟨_, rfl⟩
  have P1 : PS σ1 i 0 := by rw [hσ1]; exact hP.s33
  have F1 : FP σ σ1 := by rw [hσ1]; exact FP.s33
  have B1 := hB.fp F1
  have u0 : σ1.1 233 0 = iI r := by rw [hσ1, sI_k (by omega)]; exact t0
  have u1 : σ1.1 233 1 = iI 0 := by rw [hσ1, sI_hit]
  have u2 : σ1.1 233 2 = iI (if m = 0 then n else -n) := by rw [hσ1, sI_k (by omega)]; exact t2
  have u3 : σ1.1 233 3 = iI o := by rw [hσ1, sI_k (by omega)]; exact t3
  unfold f_X7_read_b258
  by_cases c1 : i < len ∧ b i = 94
  · have n1 := isNext_t B1 hT P1 c1.1 c1.2
    obtain ⟨σ2, x1, x2, x3⟩ := sign_ok (lo := 94) (hi := 94) B1 hT P1 c1.1 (by omega) (by omega) (by omega)
    have B2 := B1.fp x2.fp
    have q1 : rch b (i + 1) = some (7, r, n, m, o, 0) := by rw [rch_s hq, hrd c1.1]; exact if_pos c1.2
    by_cases c2 : i + 1 < len ∧ (48 ≤ b (i + 1) ∧ b (i + 1) ≤ 57)
    · obtain ⟨σ3, y1, y2, y3⟩ := sign_ok (lo := 48) (hi := 57) B2 hT x3 c2.1 c2.2 (by omega) (by omega)
      have q2 : rch b (i + 1 + 1) = some (8, r, n, m, o, b (i + 1) - 48) := by rw [rch_s q1]; exact if_pos c2.2
      have cell : σ3.1 233 = σ1.1 233 := by rw [y2.1 233 (by omega), x2.1 233 (by omega)]
      refine ⟨sI σ3 233 1 (iI (b (i + 1) - 48)), ?_, ((F1.tr x2.fp).tr y2.fp).tr FP.s33, .inr ⟨i + 1 + 1, _, y3.s33, q2, by omega, (hN.s (by omega)).s (by omega), .inr (.inl rfl), fun _ h => if_neg h, ?_, ?_, ?_, ?_⟩⟩
      · simp (disch := omega) only [iI_lit, ofNat_iI, iI_add, iI_sub, iI_mul, iI_neg, iI_lt_t, iI_lt_f, iI_le_t, iI_le_f, iI_eq_t, iI_eq_f, iI_div, rm_iI, tc_iI, inB_iI, nz_iI, is01_0, is01_1, gd_tt, bd_mk, bv_mk, oc_mk, lt_mk, Bool.false_eq_true, ↓reduceIte, Int.reduceToNat, ← hσ1, n1, x1, y1]
      · rw [sI_k (by omega), cell]; exact u0
      · rw [sI_hit]
      · rw [sI_k (by omega), cell]; exact u2
      · rw [sI_k (by omega), cell]; exact u3
    · obtain ⟨σ3, x, y1, y2, y3⟩ := sign_no (lo := 48) (hi := 57) B2 hT x3 (by omega) (fun h q => c2 ⟨h, q⟩) (by omega) (by omega) (by omega) (by omega)
      refine ⟨sI σ3 233 1 (x - iI 48), ?_, ((F1.tr x2.fp).tr y2.fp).tr FP.s33, .inl ⟨i + 1, y3.s33, _, q1, by omega, ?_⟩⟩
      · simp (disch := omega) only [iI_lit, ofNat_iI, iI_add, iI_sub, iI_mul, iI_neg, iI_lt_t, iI_lt_f, iI_le_t, iI_le_f, iI_eq_t, iI_eq_f, iI_div, rm_iI, tc_iI, inB_iI, nz_iI, is01_0, is01_1, gd_tt, bd_mk, bv_mk, oc_mk, lt_mk, Bool.false_eq_true, ↓reduceIte, Int.reduceToNat, ← hσ1, n1, x1, y1]
      · by_cases c3 : i + 1 = len
        · refine .inl ⟨c3, ?_⟩
          unfold mayE; simp only; omega
        · exact .inr ⟨by omega, if_neg (fun q => c2 ⟨by omega, q⟩)⟩
  · have n1 := isNext_f (c := 94) B1 hT P1 hi' (fun h q => c1 ⟨h, q⟩) (by omega)
    refine ⟨σ1, ?_, F1, .inr ⟨i, _, P1, hq, hi', hN, hE, fun h1 h2 => ?_, u0, u1, u2, u3⟩⟩
    · simp (disch := omega) only [iI_lit, ofNat_iI, iI_add, iI_sub, iI_mul, iI_neg, iI_lt_t, iI_lt_f, iI_le_t, iI_le_f, iI_eq_t, iI_eq_f, iI_div, rm_iI, tc_iI, inB_iI, nz_iI, is01_0, is01_1, gd_tt, bd_mk, bv_mk, oc_mk, lt_mk, Bool.false_eq_true, ↓reduceIte, Int.reduceToNat, ← hσ1, n1]
    · rw [hrd h1]
      unfold bhd
      rw [if_neg (fun q => c1 ⟨h1, q⟩), if_neg h2]
end PR
