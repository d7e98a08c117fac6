/-! the digest of the reference -/
def Fdd (lo hi : Nat) (σ τ : St) : Prop := ∀ c, (c < lo ∨ hi ≤ c) → τ.1 c = σ.1 c
theorem Fdd.at {lo hi c : Nat} {σ τ : St} (h : Fdd lo hi σ τ) (hc : c < lo ∨ hi ≤ c) : τ.1 c = σ.1 c := h c hc
/-- what the digest has done: the cells of the reckonings alone, and the hash -/
def DQ (σ τ : St) (h : Int64) : Prop := Fdd 229 235 σ τ ∧ τ.2 225 = h
theorem RMv.dq {σ τ : St} {V : Nat → Int} {h : Int64} (hM : RMv σ V) (e : DQ σ τ h) : RMv τ V := fun k hk => by rw [e.1.at (by omega)]; exact hM k hk
theorem DQ.fr {σ τ υ : St} {h : Int64} {lo hi : Nat} (e : DQ σ τ h) (f : Fr lo hi τ υ) (h1 : 229 ≤ lo) (h2 : hi ≤ 235) : DQ σ υ h := ⟨fun c hc => (f.1 c (by omega)).trans (e.1 c hc), by rw [f.2]; exact e.2⟩
theorem DQ.st {σ τ : St} {h : Int64} (e : DQ σ τ h) (v : Int64) : DQ σ (sL τ 225 (mxl h v)) (mxl h v) := ⟨e.1, sL_at _ _ _⟩
theorem DQ.sv {σ τ : St} {h : Int64} (e : DQ σ τ h) (v : Int) : DQ σ (sL τ 225 (mx h v)) (mx h v) := ⟨e.1, sL_at _ _ _⟩
theorem DQ.on {σ τ : St} {h : Int64} (e : DQ σ τ h) (v : Int) : f_X7_digestOne (iI v).toInt64 τ = some (sL τ 225 (mx h v)) := by
  unfold f_X7_digestOne mx
  rw [e.2]
  rfl
theorem DQ.ol {σ τ : St} {h : Int64} (e : DQ σ τ h) (v : Int64) : f_X7_digestOne v τ = some (sL τ 225 (mxl h v)) := by
  unfold f_X7_digestOne mxl
  rw [e.2]
  rfl
theorem someYear_v {i : Nat} (hi : i < 3) (σ : St) : f_X7_someYear (iI (i : Int)) σ = some (iI (yr i), σ) := by
  unfold f_X7_someYear
  rcases (show i = 0 ∨ i = 1 ∨ i = 2 by omega) with rfl | rfl | rfl
  · rw [show yr 0 = 0 from rfl]
    simp (disch := omega) only [iI_lit, ofNat_iI, iI_add, iI_sub, iI_mul, iI_neg, iI_lt_t, iI_lt_f, iI_le_t, iI_le_f, iI_eq_t, iI_eq_f, iI_div, rm_iI, tc_iI, inB_iI, nz_iI, is01_0, is01_1, gd_tt, bd_mk, bv_mk, oc_mk, lt_mk, Bool.false_eq_true, ↓reduceIte]
  · rw [show yr 1 = 100 from rfl]
    simp (disch := omega) only [iI_lit, ofNat_iI, iI_add, iI_sub, iI_mul, iI_neg, iI_lt_t, iI_lt_f, iI_le_t, iI_le_f, iI_eq_t, iI_eq_f, iI_div, rm_iI, tc_iI, inB_iI, nz_iI, is01_0, is01_1, gd_tt, bd_mk, bv_mk, oc_mk, lt_mk, Bool.false_eq_true, ↓reduceIte]
  · rw [show yr 2 = 777 from rfl]
    simp (disch := omega) only [iI_lit, ofNat_iI, iI_add, iI_sub, iI_mul, iI_neg, iI_lt_t, iI_lt_f, iI_le_t, iI_le_f, iI_eq_t, iI_eq_f, iI_div, rm_iI, tc_iI, inB_iI, nz_iI, is01_0, is01_1, gd_tt, bd_mk, bv_mk, oc_mk, lt_mk, Bool.false_eq_true, ↓reduceIte]
theorem dayOf_v {V : Nat → Int} {y : Int} {f c : Nat} {σ : St} (hI : IV V) (hM : RMv σ V) (hf : (f : Int) < V 0) (hc : c < 3) (hy : 0 ≤ y ∧ y ≤ 999) : (∃ τ, f_X7_dayOf (iI (f : Int)) (iI y) (iI (c : Int)) (iI 1) σ = some (iI (Pr V y (SL V c) f), τ) ∧ Fr 229 232 σ τ) ∧ (∃ τ, f_X7_dayOf (iI (f : Int)) (iI y) (iI (c : Int)) (iI 0) σ = some (iI (Nt V y (SL V c) f), τ) ∧ Fr 229 232 σ τ) := by
  have hn10 := hI.1
  have r1 := hM.rd (e := 41 + (c : Int)) (k := 41 + c) (by omega) (by omega)
  rw [show V (41 + c) = SL V c from rfl] at r1
  obtain ⟨τ, x1, x2, x3⟩ := lay_v (y := y) hM hI hy (SL_b hI hc)
  have e0 : ((f : Int)).toNat = f := by omega
  have p1 := x3.1 f (by omega)
  have p2 := x3.2 f (by omega)
  refine ⟨⟨τ, ?_, x2⟩, ⟨τ, ?_, x2⟩⟩
  · unfold f_X7_dayOf
    simp (disch := omega) only [iI_lit, ofNat_iI, iI_add, iI_sub, iI_mul, iI_neg, iI_lt_t, iI_lt_f, iI_le_t, iI_le_f, iI_eq_t, iI_eq_f, iI_div, rm_iI, tc_iI, inB_iI, nz_iI, is01_0, is01_1, gd_tt, bd_mk, bv_mk, oc_mk, lt_mk, Bool.false_eq_true, ↓reduceIte, r1, x1, e0, p1]
  · unfold f_X7_dayOf
    simp (disch := omega) only [iI_lit, ofNat_iI, iI_add, iI_sub, iI_mul, iI_neg, iI_lt_t, iI_lt_f, iI_le_t, iI_le_f, iI_eq_t, iI_eq_f, iI_div, rm_iI, tc_iI, inB_iI, nz_iI, is01_0, is01_1, gd_tt, bd_mk, bv_mk, oc_mk, lt_mk, Bool.false_eq_true, ↓reduceIte, r1, x1, e0, p2]
theorem settledOf_v {V : Nat → Int} {y : Int} {f : Nat} {σ : St} (hI : IV V) (hM : RMv σ V) (hf : (f : Int) < V 0) (hy : 0 ≤ y ∧ y ≤ 999) : ∃ τ, f_X7_settledOf (iI (f : Int)) (iI y) σ = some (iI (stl V y (SL V) f), τ) ∧ Fr 229 233 σ τ := by
  obtain ⟨τ, x1, x2, x3⟩ := layAll_v hM hI hy
  have k0 := settledBy_v (f := f) hI x3 hf
  refine ⟨τ, ?_, x2⟩
  unfold f_X7_settledOf
  simp (disch := omega) only [iI_lit, ofNat_iI, iI_add, iI_sub, iI_mul, iI_neg, iI_lt_t, iI_lt_f, iI_le_t, iI_le_f, iI_eq_t, iI_eq_f, iI_div, rm_iI, tc_iI, inB_iI, nz_iI, is01_0, is01_1, gd_tt, bd_mk, bv_mk, oc_mk, lt_mk, Bool.false_eq_true, ↓reduceIte, x1, k0]
theorem quarrelsOf_v {V : Nat → Int} {y : Int} {n : Nat} {σ : St} (hI : IV V) (hM : RMv σ V) (hn : V 0 = (n : Int)) (hy : 0 ≤ y ∧ y ≤ 999) : ∃ τ, f_X7_quarrelsOf (iI y) σ = some (iI (cnN (qrl V y (SL V)) n), τ) ∧ Fr 229 233 σ τ := by
  obtain ⟨τ, x1, x2, x3⟩ := layAll_v hM hI hy
  have k0 := quarrelsNow_v hI (hM.fr x2 (by omega)) x3 hn
  refine ⟨τ, ?_, x2⟩
  unfold f_X7_quarrelsOf
  simp (disch := omega) only [iI_lit, ofNat_iI, iI_add, iI_sub, iI_mul, iI_neg, iI_lt_t, iI_lt_f, iI_le_t, iI_le_f, iI_eq_t, iI_eq_f, iI_div, rm_iI, tc_iI, inB_iI, nz_iI, is01_0, is01_1, gd_tt, bd_mk, bv_mk, oc_mk, lt_mk, Bool.false_eq_true, ↓reduceIte, x1, k0]
theorem dgf33 {K26 : Int32 → Int32 → St → Option St} {V : Nat → Int} {f i : Nat} {h : Int64} {σ σ0 : St} (hI : IV V) (hM : RMv σ0 V) (hf : (f : Int) < V 0) (hi : i < 3) (hQ : DQ σ0 σ h) : ∃ τ, DQ σ0 τ (yfS V f i h) ∧ f_X7_digestFeast_l33 K26 FU (iI (f : Int)) (iI (i : Int)) (iI ((0 : Nat) : Int)) σ = K26 (iI (f : Int)) (iI ((i + 1 : Nat) : Int)) τ := by
  have hyb := yr_b i
  have H := wlp (F := fun g (s : Nat × St) => f_X7_digestFeast_l33 K26 g (iI (f : Int)) (iI (i : Int)) (iI (s.1 : Int)) s.2) (X := fun τ => K26 (iI (f : Int)) (iI ((i + 1 : Nat) : Int)) τ) (fun s => 3 - s.1) (fun s => s.1 ≤ 3 ∧ DQ σ0 s.2 (itr (dyS V (yr i) f) s.1 h)) (fun τ => DQ σ0 τ (yfS V f i h)) (by
    rintro g ⟨c, τ⟩ ⟨h0, hD⟩
    simp only at h0 hD
    have sy := fun τ => someYear_v hi τ
    have tM := hM.dq hD
    rcases (show c = 3 ∨ c < 3 by omega) with q | q
    · subst q
      obtain ⟨υ, x1, x2⟩ := settledOf_v (y := yr i) (f := f) hI tM hf hyb
      have uD := hD.fr x2 (by omega) (by omega)
      have e1 : (i : Int) + 1 = ((i + 1 : Nat) : Int) := by omega
      refine .inl ⟨sL υ 225 (mx (itr (dyS V (yr i) f) 3 h) (stl V (yr i) (SL V) f)), uD.sv (stl V (yr i) (SL V) f), ?_⟩
      have o1 := uD.on (stl V (yr i) (SL V) f)
      show f_X7_digestFeast_b33 _ _ _ _ _ _ = _
      unfold f_X7_digestFeast_b33
      simp (disch := omega) only [iI_lit, ofNat_iI, iI_add, iI_sub, iI_mul, iI_neg, iI_lt_t, iI_lt_f, iI_le_t, iI_le_f, iI_eq_t, iI_eq_f, iI_div, rm_iI, tc_iI, inB_iI, nz_iI, is01_0, is01_1, gd_tt, bd_mk, bv_mk, oc_mk, lt_mk, Bool.false_eq_true, ↓reduceIte, sy, x1, o1, e1]
    · right
      obtain ⟨υ, x1, x2⟩ := (dayOf_v (y := yr i) (f := f) hI tM hf q hyb).1
      have uD := hD.fr x2 (by omega) (by omega)
      have o1 := uD.on (Pr V (yr i) (SL V c) f)
      have uD2 := uD.sv (Pr V (yr i) (SL V c) f)
      obtain ⟨ω, y1, y2⟩ := (dayOf_v (y := yr i) (f := f) hI (hM.dq uD2) hf q hyb).2
      have wD := uD2.fr y2 (by omega) (by omega)
      have o2 := wD.on (Nt V (yr i) (SL V c) f)
      have e1 : (c : Int) + 1 = ((c + 1 : Nat) : Int) := by omega
      refine ⟨(c + 1, sL ω 225 (mx (mx (itr (dyS V (yr i) f) c h) (Pr V (yr i) (SL V c) f)) (Nt V (yr i) (SL V c) f))), ⟨by simp only; omega, wD.sv (Nt V (yr i) (SL V c) f)⟩, by simp only; omega, ?_⟩
      show f_X7_digestFeast_b33 _ _ _ _ _ _ = _
      unfold f_X7_digestFeast_b33
      simp (disch := omega) only [iI_lit, ofNat_iI, iI_add, iI_sub, iI_mul, iI_neg, iI_lt_t, iI_lt_f, iI_le_t, iI_le_f, iI_eq_t, iI_eq_f, iI_div, rm_iI, tc_iI, inB_iI, nz_iI, is01_0, is01_1, gd_tt, bd_mk, bv_mk, oc_mk, lt_mk, Bool.false_eq_true, ↓reduceIte, sy, x1, o1, y1, o2, e1])
  obtain ⟨τ, h1, h2⟩ := H FU (0, σ) ⟨by simp, hQ⟩ (by simp only [FU]; omega)
  exact ⟨τ, h1, h2⟩
theorem dgf26 {V : Nat → Int} {f : Nat} {h : Int64} {σ σ0 : St} (hI : IV V) (hM : RMv σ0 V) (hf : (f : Int) < V 0) (hQ : DQ σ0 σ h) : ∃ τ, DQ σ0 τ (itr (yfS V f) 3 h) ∧ f_X7_digestFeast_l26 FU (iI (f : Int)) (iI ((0 : Nat) : Int)) σ = some τ := by
  have H := wlp (F := fun g (s : Nat × St) => f_X7_digestFeast_l26 g (iI (f : Int)) (iI (s.1 : Int)) s.2) (X := fun τ => some τ) (fun s => 3 - s.1) (fun s => s.1 ≤ 3 ∧ DQ σ0 s.2 (itr (yfS V f) s.1 h)) (fun τ => DQ σ0 τ (itr (yfS V f) 3 h)) (by
    rintro g ⟨i, τ⟩ ⟨h0, hD⟩
    simp only at h0 hD
    rcases (show i = 3 ∨ i < 3 by omega) with q | q
    · subst q
      refine .inl ⟨τ, hD, ?_⟩
      show f_X7_digestFeast_b26 _ _ _ _ = _
      unfold f_X7_digestFeast_b26
      simp (disch := omega) only [iI_lit, ofNat_iI, iI_add, iI_sub, iI_mul, iI_neg, iI_lt_t, iI_lt_f, iI_le_t, iI_le_f, iI_eq_t, iI_eq_f, iI_div, rm_iI, tc_iI, inB_iI, nz_iI, is01_0, is01_1, gd_tt, bd_mk, bv_mk, oc_mk, lt_mk, Bool.false_eq_true, ↓reduceIte]
    · right
      obtain ⟨υ, x1, x2⟩ := dgf33 (K26 := f_X7_digestFeast_l26 g) hI hM hf q hD
      refine ⟨(i + 1, υ), ⟨by simp only; omega, show DQ σ0 υ (itr (yfS V f) (i + 1) h) by rw [itr_s]; exact x1⟩, by simp only; omega, ?_⟩
      show f_X7_digestFeast_b26 _ _ _ _ = _
      unfold f_X7_digestFeast_b26
      simp (disch := omega) only [iI_lit, ofNat_iI, iI_add, iI_sub, iI_mul, iI_neg, iI_lt_t, iI_lt_f, iI_le_t, iI_le_f, iI_eq_t, iI_eq_f, iI_div, rm_iI, tc_iI, inB_iI, nz_iI, is01_0, is01_1, gd_tt, bd_mk, bv_mk, oc_mk, lt_mk, Bool.false_eq_true, ↓reduceIte]
      exact x2)
  obtain ⟨τ, h1, h2⟩ := H FU (0, σ) ⟨by simp, hQ⟩ (by simp only [FU]; omega)
  exact ⟨τ, h1, h2⟩
theorem dgf2 {V : Nat → Int} {f : Nat} {h : Int64} {σ σ0 : St} (hI : IV V) (hM : RMv σ0 V) (hf : (f : Int) < V 0) (hQ : DQ σ0 σ h) : ∃ τ, DQ σ0 τ (ftS V f h) ∧ f_X7_digestFeast (iI (f : Int)) σ = some τ := by
  have H := wlp (F := fun g (s : Nat × St) => f_X7_digestFeast_l2 g (iI (f : Int)) (iI (s.1 : Int)) s.2) (X := fun τ => f_X7_digestFeast_l26 FU (iI (f : Int)) (iI 0) τ) (fun s => 4 - s.1) (fun s => s.1 ≤ 4 ∧ DQ σ0 s.2 (itr (fpS V f) s.1 h)) (fun τ => DQ σ0 τ (itr (fpS V f) 4 h)) (by
    rintro g ⟨w, τ⟩ ⟨h0, hD⟩
    simp only at h0 hD
    rcases (show w = 4 ∨ w < 4 by omega) with q | q
    · subst q
      refine .inl ⟨τ, hD, ?_⟩
      show f_X7_digestFeast_b2 _ _ _ _ = _
      unfold f_X7_digestFeast_b2
      simp (disch := omega) only [iI_lit, ofNat_iI, iI_add, iI_sub, iI_mul, iI_neg, iI_lt_t, iI_lt_f, iI_le_t, iI_le_f, iI_eq_t, iI_eq_f, iI_div, rm_iI, tc_iI, inB_iI, nz_iI, is01_0, is01_1, gd_tt, bd_mk, bv_mk, oc_mk, lt_mk, Bool.false_eq_true, ↓reduceIte]
    · right
      have x1 := feastR (f := f) (w := w) hI (hM.dq hD) hf q
      have o1 := hD.on (fpr V f w)
      have e1 : (w : Int) + 1 = ((w + 1 : Nat) : Int) := by omega
      refine ⟨(w + 1, sL τ 225 (mx (itr (fpS V f) w h) (fpr V f w))), ⟨by simp only; omega, hD.sv (fpr V f w)⟩, by simp only; omega, ?_⟩
      show f_X7_digestFeast_b2 _ _ _ _ = _
      unfold f_X7_digestFeast_b2
      simp (disch := omega) only [iI_lit, ofNat_iI, iI_add, iI_sub, iI_mul, iI_neg, iI_lt_t, iI_lt_f, iI_le_t, iI_le_f, iI_eq_t, iI_eq_f, iI_div, rm_iI, tc_iI, inB_iI, nz_iI, is01_0, is01_1, gd_tt, bd_mk, bv_mk, oc_mk, lt_mk, Bool.false_eq_true, ↓reduceIte, x1, o1, e1])
  obtain ⟨τ, h1, h2⟩ := H FU (0, σ) ⟨by simp, hQ⟩ (by simp only [FU]; omega)
  obtain ⟨υ, y1, y2⟩ := dgf26 hI hM hf h1
  refine ⟨υ, y1, ?_⟩
  unfold f_X7_digestFeast
  simp only [iI_lit]
  exact h2.trans y2
theorem dg81 {K61 : Int32 → St → Option (Int64 × St)} {V : Nat → Int} {n i : Nat} {h : Int64} {σ σ0 : St} (hI : IV V) (hM : RMv σ0 V) (hn : V 0 = (n : Int)) (hi : i < 3) (hQ : DQ σ0 σ h) : ∃ τ, DQ σ0 τ (itr (mvS V n (yr i)) 3 h) ∧ f_X7_digest_l81 K61 FU (iI (i : Int)) (iI ((0 : Nat) : Int)) σ = K61 (iI ((i + 1 : Nat) : Int)) τ := by
  have hyb := yr_b i
  have H := wlp (F := fun g (s : Nat × St) => f_X7_digest_l81 K61 g (iI (i : Int)) (iI (s.1 : Int)) s.2) (X := fun τ => K61 (iI ((i + 1 : Nat) : Int)) τ) (fun s => 3 - s.1) (fun s => s.1 ≤ 3 ∧ DQ σ0 s.2 (itr (mvS V n (yr i)) s.1 h)) (fun τ => DQ σ0 τ (itr (mvS V n (yr i)) 3 h)) (by
    rintro g ⟨c, τ⟩ ⟨h0, hD⟩
    simp only at h0 hD
    have sy := fun τ => someYear_v hi τ
    have tM := hM.dq hD
    rcases (show c = 3 ∨ c < 3 by omega) with q | q
    · subst q
      have e1 : (i : Int) + 1 = ((i + 1 : Nat) : Int) := by omega
      refine .inl ⟨τ, hD, ?_⟩
      show f_X7_digest_b81 _ _ _ _ _ = _
      unfold f_X7_digest_b81
      simp (disch := omega) only [iI_lit, ofNat_iI, iI_add, iI_sub, iI_mul, iI_neg, iI_lt_t, iI_lt_f, iI_le_t, iI_le_f, iI_eq_t, iI_eq_f, iI_div, rm_iI, tc_iI, inB_iI, nz_iI, is01_0, is01_1, gd_tt, bd_mk, bv_mk, oc_mk, lt_mk, Bool.false_eq_true, ↓reduceIte, e1]
    · right
      obtain ⟨υ, x1, x2⟩ := movedBy_v (y := yr i) (c := c) hI tM hn hyb q
      have uD := hD.fr x2 (by omega) (by omega)
      have o1 := uD.on (cnN (mvd V (yr i) (SL V c)) n)
      have e1 : (c : Int) + 1 = ((c + 1 : Nat) : Int) := by omega
      refine ⟨(c + 1, sL υ 225 (mx (itr (mvS V n (yr i)) c h) (cnN (mvd V (yr i) (SL V c)) n))), ⟨by simp only; omega, uD.sv (cnN (mvd V (yr i) (SL V c)) n)⟩, by simp only; omega, ?_⟩
      show f_X7_digest_b81 _ _ _ _ _ = _
      unfold f_X7_digest_b81
      simp (disch := omega) only [iI_lit, ofNat_iI, iI_add, iI_sub, iI_mul, iI_neg, iI_lt_t, iI_lt_f, iI_le_t, iI_le_f, iI_eq_t, iI_eq_f, iI_div, rm_iI, tc_iI, inB_iI, nz_iI, is01_0, is01_1, gd_tt, bd_mk, bv_mk, oc_mk, lt_mk, Bool.false_eq_true, ↓reduceIte, sy, x1, o1, e1])
  obtain ⟨τ, h1, h2⟩ := H FU (0, σ) ⟨by simp, hQ⟩ (by simp only [FU]; omega)
  exact ⟨τ, h1, h2⟩
theorem dg127 {K114 : Int32 → St → Option (Int64 × St)} {V : Nat → Int} {k : Nat} {h : Int64} {σ σ0 : St} (hI : IV V) (hM : RMv σ0 V) (hk : (k : Int) < V 45) (hQ : DQ σ0 σ h) : ∃ τ, DQ σ0 τ (skS V k h) ∧ f_X7_digest_l127 K114 FU (iI (k : Int)) (iI ((0 : Nat) : Int)) σ = K114 (iI ((k + 1 : Nat) : Int)) τ := by
  have H := wlp (F := fun g (s : Nat × St) => f_X7_digest_l127 K114 g (iI (k : Int)) (iI (s.1 : Int)) s.2) (X := fun τ => K114 (iI ((k + 1 : Nat) : Int)) τ) (fun s => 14 - s.1) (fun s => s.1 ≤ 14 ∧ DQ σ0 s.2 (itr (spS V k) s.1 h)) (fun τ => DQ σ0 τ (itr (spS V k) 14 h)) (by
    rintro g ⟨w, τ⟩ ⟨h0, hD⟩
    simp only at h0 hD
    have tM := hM.dq hD
    rcases (show w = 14 ∨ w < 14 by omega) with q | q
    · subst q
      have e1 : (k : Int) + 1 = ((k + 1 : Nat) : Int) := by omega
      refine .inl ⟨τ, hD, ?_⟩
      show f_X7_digest_b127 _ _ _ _ _ = _
      unfold f_X7_digest_b127
      simp (disch := omega) only [iI_lit, ofNat_iI, iI_add, iI_sub, iI_mul, iI_neg, iI_lt_t, iI_lt_f, iI_le_t, iI_le_f, iI_eq_t, iI_eq_f, iI_div, rm_iI, tc_iI, inB_iI, nz_iI, is01_0, is01_1, gd_tt, bd_mk, bv_mk, oc_mk, lt_mk, Bool.false_eq_true, ↓reduceIte, e1]
    · right
      obtain ⟨υ, x1, x2⟩ := stickR (k := k) (w := w) hI tM hk q
      have uD := hD.fr x2 (by omega) (by omega)
      have o1 := uD.on (spr V k w)
      have e1 : (w : Int) + 1 = ((w + 1 : Nat) : Int) := by omega
      refine ⟨(w + 1, sL υ 225 (mx (itr (spS V k) w h) (spr V k w))), ⟨by simp only; omega, uD.sv (spr V k w)⟩, by simp only; omega, ?_⟩
      show f_X7_digest_b127 _ _ _ _ _ = _
      unfold f_X7_digest_b127
      simp (disch := omega) only [iI_lit, ofNat_iI, iI_add, iI_sub, iI_mul, iI_neg, iI_lt_t, iI_lt_f, iI_le_t, iI_le_f, iI_eq_t, iI_eq_f, iI_div, rm_iI, tc_iI, inB_iI, nz_iI, is01_0, is01_1, gd_tt, bd_mk, bv_mk, oc_mk, lt_mk, Bool.false_eq_true, ↓reduceIte, x1, o1, e1])
  obtain ⟨τ, h1, h2⟩ := H FU (0, σ) ⟨by simp, hQ⟩ (by simp only [FU]; omega)
  exact ⟨τ, h1, h2⟩
theorem dg240 {len : Nat} {b : Nat → Int} {h : Int64} {σ σ0 : St} (hB : BR σ0 len b) (hl : len ≤ 60) (hQ : DQ σ0 σ h) : ∃ τ, DQ σ0 τ (itr (bfS b) len h) ∧ f_X7_digest_l240 FU (iI ((0 : Nat) : Int)) σ = some (itr (bfS b) len h, τ) := by
  have H := wlp (F := fun g (s : Nat × St) => f_X7_digest_l240 g (iI (s.1 : Int)) s.2) (X := fun τ => some (itr (bfS b) len h, τ)) (fun s => len - s.1) (fun s => s.1 ≤ len ∧ DQ σ0 s.2 (itr (bfS b) s.1 h)) (fun τ => DQ σ0 τ (itr (bfS b) len h)) (by
    rintro g ⟨i, τ⟩ ⟨h0, hD⟩
    simp only at h0 hD
    have r : τ.1 225 5 = iI (len : Int) := by rw [hD.1.at (by omega)]; exact hB.1
    rcases (show i = len ∨ i < len by omega) with q | q
    · subst q
      refine .inl ⟨τ, hD, ?_⟩
      have r2 := hD.2
      show f_X7_digest_b240 _ _ _ = _
      unfold f_X7_digest_b240
      simp (disch := omega) only [iI_lit, ofNat_iI, iI_add, iI_sub, iI_mul, iI_neg, iI_lt_t, iI_lt_f, iI_le_t, iI_le_f, iI_eq_t, iI_eq_f, iI_div, rm_iI, tc_iI, inB_iI, nz_iI, is01_0, is01_1, gd_tt, bd_mk, bv_mk, oc_mk, lt_mk, Bool.false_eq_true, ↓reduceIte, r, r2]
    · right
      have o1 := hD.on (b i)
      have e0 : ((i : Int)).toNat = i := by omega
      have e1 : (i : Int) + 1 = ((i + 1 : Nat) : Int) := by omega
      have r2 : τ.1 228 i = iI (b i) := by rw [hD.1.at (by omega)]; exact hB.2 i q
      refine ⟨(i + 1, sL τ 225 (mx (itr (bfS b) i h) (b i))), ⟨by simp only; omega, hD.sv (b i)⟩, by simp only; omega, ?_⟩
      show f_X7_digest_b240 _ _ _ = _
      unfold f_X7_digest_b240
      simp (disch := omega) only [iI_lit, ofNat_iI, iI_add, iI_sub, iI_mul, iI_neg, iI_lt_t, iI_lt_f, iI_le_t, iI_le_f, iI_eq_t, iI_eq_f, iI_div, rm_iI, tc_iI, inB_iI, nz_iI, is01_0, is01_1, gd_tt, bd_mk, bv_mk, oc_mk, lt_mk, Bool.false_eq_true, ↓reduceIte, r, e0, r2, o1, e1])
  obtain ⟨τ, h1, h2⟩ := H FU (0, σ) ⟨by simp, hQ⟩ (by simp only [FU]; omega)
  exact ⟨τ, h1, h2⟩
theorem dg218 {V : Nat → Int} {m len : Nat} {b : Nat → Int} {h : Int64} {σ σ0 : St} (hI : IV V) (hM : RMv σ0 V) (hm : V 45 = (m : Int)) (hB : BR σ0 len b) (hl : len ≤ 60) (hQ : DQ σ0 σ h) : ∃ τ, DQ σ0 τ (itr (bfS b) len (mx (mxl h (btv (frs V m))) (len : Int))) ∧ f_X7_digest_b218 σ = some (itr (bfS b) len (mx (mxl h (btv (frs V m))) (len : Int)), τ) := by
  obtain ⟨τ, x1, x2⟩ := freshR hI (hM.dq hQ) hm
  have tD := hQ.fr x2 (by omega) (by omega)
  have hb := bitR_v (frs_ok hI hm) τ
  have o1 := tD.ol (btv (frs V m))
  have tD2 := tD.st (btv (frs V m))
  have r : (sL τ 225 (mxl h (btv (frs V m)))).1 225 5 = iI (len : Int) := by rw [tD2.1.at (by omega)]; exact hB.1
  have o2 := tD2.on (len : Int)
  obtain ⟨υ, y1, y2⟩ := dg240 hB hl (tD2.sv (len : Int))
  refine ⟨υ, y1, ?_⟩
  unfold f_X7_digest_b218
  simp (disch := omega) only [iI_lit, ofNat_iI, iI_add, iI_sub, iI_mul, iI_neg, iI_lt_t, iI_lt_f, iI_le_t, iI_le_f, iI_eq_t, iI_eq_f, iI_div, rm_iI, tc_iI, inB_iI, nz_iI, is01_0, is01_1, gd_tt, bd_mk, bv_mk, oc_mk, lt_mk, Bool.false_eq_true, ↓reduceIte, x1, hb, o1, r, o2]
  exact y2
theorem dg114t {V : Nat → Int} {n m len : Nat} {b : Nat → Int} {h : Int64} {σ σ0 : St} (hI : IV V) (hM : RMv σ0 V) (hn : V 0 = (n : Int)) (hm : V 45 = (m : Int)) (hB : BR σ0 len b) (hl : len ≤ 60) (hQ : DQ σ0 σ h) : ∃ τ, DQ σ0 τ (tlH V n m len b h) ∧ (bd (f_X7_nextAlike 20 σ) fun x50 t51 => bv (f_X7_digestOne ((x50 : Int32).toInt64) t51) fun t54 => bd (f_X7_bestSlip 1 100 t54) fun x56 t57 => bv (f_X7_digestOne ((x56 : Int32).toInt64) t57) fun t60 => gd (inB 0 111) <| (if (t60.1 226 (tc 0)) ≤ 0 then f_X7_digest_b218 t60 else bd (f_X7_outermost 0 50 20 0 t60) fun x64 t65 => bv (f_X7_digestOne ((x64 : Int32).toInt64) t65) fun t68 => bd (f_X7_outermost 0 50 20 1 t68) fun x70 t71 => bv (f_X7_digestOne ((x70 : Int32).toInt64) t71) fun t74 => f_X7_digest_b218 t74)) = some (tlH V n m len b h, τ) := by
  have hn10 := hI.1
  obtain ⟨σ1, a1, a2⟩ := alikeR (y := 20) hI (hM.dq hQ) hn (by omega)
  have D1 := hQ.fr a2 (by omega) (by omega)
  have o1 := D1.on (nal V 20 n 100 (20 + 1))
  have D1' := D1.sv (nal V 20 n 100 (20 + 1))
  obtain ⟨σ2, b1, b2⟩ := best_v (y := 100) (c := 1) hI (hM.dq D1') hn (by omega) (by omega)
  have b1 : f_X7_bestSlip (iI 1) (iI 100) (sL σ1 225 (mx h (nal V 20 n 100 (20 + 1)))) = some (iI (pce V 100 1 n + 5), σ2) := b1
  have D2 := D1'.fr b2 (by omega) (by omega)
  have o2 := D2.on (pce V 100 1 n + 5)
  have D2' := D2.sv (pce V 100 1 n + 5)
  have m0 := (hM.dq D2') 0 (by omega)
  rw [hn] at m0
  unfold tlH
  by_cases c : n = 0
  · rw [if_pos c]
    obtain ⟨σ3, c1, c2⟩ := dg218 hI hM hm hB hl D2'
    refine ⟨σ3, c1, ?_⟩
    simp (disch := omega) only [iI_lit, ofNat_iI, iI_add, iI_sub, iI_mul, iI_neg, iI_lt_t, iI_lt_f, iI_le_t, iI_le_f, iI_eq_t, iI_eq_f, iI_div, rm_iI, tc_iI, inB_iI, nz_iI, is01_0, is01_1, gd_tt, bd_mk, bv_mk, oc_mk, lt_mk, Bool.false_eq_true, ↓reduceIte, Int.reduceToNat, a1, o1, b1, o2, m0, c2]
  · rw [if_neg c]
    obtain ⟨σ3, c1, c2⟩ := outR (f := 0) (b := 0) (y0 := 50) (ys := 20) hI (hM.dq D2') (by omega) (.inl rfl) (by omega) (by omega)
    have c1 : f_X7_outermost (iI 0) (iI 50) (iI 20) (iI 0) (sL σ2 225 (mx (mx h (nal V 20 n 100 (20 + 1))) (pce V 100 1 n + 5))) = some (iI (otm V 0 0 50 20), σ3) := c1
    have D3 := D2'.fr c2 (by omega) (by omega)
    have o3 := D3.on (otm V 0 0 50 20)
    have D3' := D3.sv (otm V 0 0 50 20)
    obtain ⟨σ4, d1, d2⟩ := outR (f := 0) (b := 1) (y0 := 50) (ys := 20) hI (hM.dq D3') (by omega) (.inr rfl) (by omega) (by omega)
    have d1 : f_X7_outermost (iI 0) (iI 50) (iI 20) (iI 1) (sL σ3 225 (mx (mx (mx h (nal V 20 n 100 (20 + 1))) (pce V 100 1 n + 5)) (otm V 0 0 50 20))) = some (iI (otm V 0 1 50 20), σ4) := d1
    have D4 := D3'.fr d2 (by omega) (by omega)
    have o4 := D4.on (otm V 0 1 50 20)
    have D4' := D4.sv (otm V 0 1 50 20)
    obtain ⟨σ5, e1, e2⟩ := dg218 hI hM hm hB hl D4'
    refine ⟨σ5, e1, ?_⟩
    simp (disch := omega) only [iI_lit, ofNat_iI, iI_add, iI_sub, iI_mul, iI_neg, iI_lt_t, iI_lt_f, iI_le_t, iI_le_f, iI_eq_t, iI_eq_f, iI_div, rm_iI, tc_iI, inB_iI, nz_iI, is01_0, is01_1, gd_tt, bd_mk, bv_mk, oc_mk, lt_mk, Bool.false_eq_true, ↓reduceIte, Int.reduceToNat, a1, o1, b1, o2, m0, c1, o3, d1, o4, e2]
/-- what a digest, or another question that sets thrown, leaves of the reference -/
def FT (σ τ : St) : Prop := (∀ c, (c < 225 ∨ (225 < c ∧ c < 229) ∨ 235 ≤ c) → τ.1 c = σ.1 c) ∧ ∀ j, j ≠ 0 → τ.1 225 j = σ.1 225 j
theorem digestR {V : Nat → Int} {n m sv len : Nat} {b : Nat → Int} {σ : St} (hI : IV V) (hM : RMv σ V) (hn : V 0 = (n : Int)) (hm : V 45 = (m : Int)) (hv : σ.1 225 3 = iI (sv : Int)) (hB : BR σ len b) (hl : len ≤ 60) : ∃ τ, f_X7_digest σ = some (dig V n m sv len b, τ) ∧ FT σ τ := by
  have hk5 := hI.2.2.1
  have hn10 := hI.1
  obtain ⟨σ0, hσ0⟩ : ∃ σ0, σ0 = sL (sI σ 225 0 (iI 0)) 225 2953 := ⟨_, rfl⟩
  have M0 : RMv σ0 V := by rw [hσ0]; intro k hk; show (sI σ 225 0 (iI 0)).1 226 k = _; rw [sI_c (by omega)]; exact hM k hk
  have v0 : σ0.1 225 3 = iI (sv : Int) := by rw [hσ0]; show (sI σ 225 0 (iI 0)).1 225 3 = _; rw [sI_k (by omega)]; exact hv
  have B0 : BR σ0 len b := by
    rw [hσ0]
    refine ⟨?_, fun i hi => ?_⟩
    · show (sI σ 225 0 (iI 0)).1 225 5 = _; rw [sI_k (by omega)]; exact hB.1
    · show (sI σ 225 0 (iI 0)).1 228 i = _; rw [sI_c (by omega)]; exact hB.2 i hi
  have D0 : DQ σ0 σ0 2953 := ⟨fun _ _ => rfl, by rw [hσ0]; exact sL_at _ _ _⟩
  obtain ⟨σ1, D1, E1⟩ := wlp (F := fun g (s : Nat × St) => f_X7_digest_l14 g (iI (s.1 : Int)) s.2) (X := fun τ => f_X7_digest_l38 FU (iI 0) τ) (fun s => 8 - s.1) (fun s => s.1 ≤ 8 ∧ DQ σ0 s.2 (itr (nmS V m sv) s.1 2953)) (fun τ => DQ σ0 τ (itr (nmS V m sv) 8 2953)) (by
    rintro g ⟨k, τ⟩ ⟨h0, hD⟩
    simp only at h0 hD
    rcases (show k = 8 ∨ k < 8 by omega) with c | c
    · subst c
      refine .inl ⟨τ, hD, ?_⟩
      show f_X7_digest_b14 _ _ _ = _
      unfold f_X7_digest_b14
      simp (disch := omega) only [iI_lit, ofNat_iI, iI_add, iI_sub, iI_mul, iI_neg, iI_lt_t, iI_lt_f, iI_le_t, iI_le_f, iI_eq_t, iI_eq_f, iI_div, rm_iI, tc_iI, inB_iI, nz_iI, is01_0, is01_1, gd_tt, bd_mk, bv_mk, oc_mk, lt_mk, Bool.false_eq_true, ↓reduceIte]
    · right
      obtain ⟨υ, x1, x2⟩ := countedR (k := k) (sv := sv) hI (M0.dq hD) hm (by rw [hD.1.at (by omega)]; exact v0) c
      have uD := hD.fr x2 (by omega) (by omega)
      have o1 := uD.on (nmb V m sv k)
      have e1 : (k : Int) + 1 = ((k + 1 : Nat) : Int) := by omega
      refine ⟨(k + 1, sL υ 225 (mx (itr (nmS V m sv) k 2953) (nmb V m sv k))), ⟨by simp only; omega, uD.sv (nmb V m sv k)⟩, by simp only; omega, ?_⟩
      show f_X7_digest_b14 _ _ _ = _
      unfold f_X7_digest_b14
      simp (disch := omega) only [iI_lit, ofNat_iI, iI_add, iI_sub, iI_mul, iI_neg, iI_lt_t, iI_lt_f, iI_le_t, iI_le_f, iI_eq_t, iI_eq_f, iI_div, rm_iI, tc_iI, inB_iI, nz_iI, is01_0, is01_1, gd_tt, bd_mk, bv_mk, oc_mk, lt_mk, Bool.false_eq_true, ↓reduceIte, x1, o1, e1]) FU (0, σ0) ⟨by simp, D0⟩ (by simp only [FU]; omega)
  obtain ⟨h1, hh1⟩ : ∃ h1, h1 = itr (nmS V m sv) 8 2953 := ⟨_, rfl⟩
  rw [← hh1] at D1
  obtain ⟨σ2, D2, E2⟩ := wlp (F := fun g (s : Nat × St) => f_X7_digest_l38 g (iI (s.1 : Int)) s.2) (X := fun τ => f_X7_digest_l61 FU (iI 0) τ) (fun s => n - s.1) (fun s => s.1 ≤ n ∧ DQ σ0 s.2 (itr (ftS V) s.1 h1)) (fun τ => DQ σ0 τ (itr (ftS V) n h1)) (by
    rintro g ⟨f, τ⟩ ⟨h0, hD⟩
    simp only at h0 hD
    have m0 := (M0.dq hD) 0 (by omega)
    rw [hn] at m0
    rcases (show f = n ∨ f < n by omega) with c | c
    · subst c
      refine .inl ⟨τ, hD, ?_⟩
      show f_X7_digest_b38 _ _ _ = _
      unfold f_X7_digest_b38
      simp (disch := omega) only [iI_lit, ofNat_iI, iI_add, iI_sub, iI_mul, iI_neg, iI_lt_t, iI_lt_f, iI_le_t, iI_le_f, iI_eq_t, iI_eq_f, iI_div, rm_iI, tc_iI, inB_iI, nz_iI, is01_0, is01_1, gd_tt, bd_mk, bv_mk, oc_mk, lt_mk, Bool.false_eq_true, ↓reduceIte, Int.reduceToNat, m0]
    · right
      obtain ⟨υ, x1, x2⟩ := dgf2 (f := f) hI M0 (by omega) hD
      have e1 : (f : Int) + 1 = ((f + 1 : Nat) : Int) := by omega
      refine ⟨(f + 1, υ), ⟨by simp only; omega, show DQ σ0 υ (itr (ftS V) (f + 1) h1) by rw [itr_s]; exact x1⟩, by simp only; omega, ?_⟩
      show f_X7_digest_b38 _ _ _ = _
      unfold f_X7_digest_b38
      simp (disch := omega) only [iI_lit, ofNat_iI, iI_add, iI_sub, iI_mul, iI_neg, iI_lt_t, iI_lt_f, iI_le_t, iI_le_f, iI_eq_t, iI_eq_f, iI_div, rm_iI, tc_iI, inB_iI, nz_iI, is01_0, is01_1, gd_tt, bd_mk, bv_mk, oc_mk, lt_mk, Bool.false_eq_true, ↓reduceIte, Int.reduceToNat, m0, x2, e1]) FU (0, σ1) ⟨by simp, D1⟩ (by simp only [FU]; omega)
  obtain ⟨h2, hh2⟩ : ∃ h2, h2 = itr (ftS V) n h1 := ⟨_, rfl⟩
  rw [← hh2] at D2
  obtain ⟨σ3, D3, E3⟩ := wlp (F := fun g (s : Nat × St) => f_X7_digest_l61 g (iI (s.1 : Int)) s.2) (X := fun τ => f_X7_digest_l114 FU (iI 0) τ) (fun s => 3 - s.1) (fun s => s.1 ≤ 3 ∧ DQ σ0 s.2 (itr (qrS V n) s.1 h2)) (fun τ => DQ σ0 τ (itr (qrS V n) 3 h2)) (by
    rintro g ⟨i, τ⟩ ⟨h0, hD⟩
    simp only at h0 hD
    rcases (show i = 3 ∨ i < 3 by omega) with c | c
    · subst c
      refine .inl ⟨τ, hD, ?_⟩
      show f_X7_digest_b61 _ _ _ = _
      unfold f_X7_digest_b61
      simp (disch := omega) only [iI_lit, ofNat_iI, iI_add, iI_sub, iI_mul, iI_neg, iI_lt_t, iI_lt_f, iI_le_t, iI_le_f, iI_eq_t, iI_eq_f, iI_div, rm_iI, tc_iI, inB_iI, nz_iI, is01_0, is01_1, gd_tt, bd_mk, bv_mk, oc_mk, lt_mk, Bool.false_eq_true, ↓reduceIte]
    · right
      have sy := fun τ => someYear_v c τ
      obtain ⟨υ, x1, x2⟩ := quarrelsOf_v (y := yr i) hI (M0.dq hD) hn (yr_b i)
      have uD := hD.fr x2 (by omega) (by omega)
      have o1 := uD.on (cnN (qrl V (yr i) (SL V)) n)
      obtain ⟨ω, y1, y2⟩ := dg81 (K61 := f_X7_digest_l61 g) hI M0 hn c (uD.sv (cnN (qrl V (yr i) (SL V)) n))
      refine ⟨(i + 1, ω), ⟨by simp only; omega, show DQ σ0 ω (itr (qrS V n) (i + 1) h2) by rw [itr_s]; exact y1⟩, by simp only; omega, ?_⟩
      show f_X7_digest_b61 _ _ _ = _
      unfold f_X7_digest_b61
      simp (disch := omega) only [iI_lit, ofNat_iI, iI_add, iI_sub, iI_mul, iI_neg, iI_lt_t, iI_lt_f, iI_le_t, iI_le_f, iI_eq_t, iI_eq_f, iI_div, rm_iI, tc_iI, inB_iI, nz_iI, is01_0, is01_1, gd_tt, bd_mk, bv_mk, oc_mk, lt_mk, Bool.false_eq_true, ↓reduceIte, sy, x1, o1]
      exact y2) FU (0, σ2) ⟨by simp, D2⟩ (by simp only [FU]; omega)
  obtain ⟨h3, hh3⟩ : ∃ h3, h3 = itr (qrS V n) 3 h2 := ⟨_, rfl⟩
  rw [← hh3] at D3
  obtain ⟨σ4, D4, E4⟩ := wlp (F := fun g (s : Nat × St) => f_X7_digest_l114 g (iI (s.1 : Int)) s.2) (X := fun τ => (bd (f_X7_nextAlike 20 τ) fun x50 t51 => bv (f_X7_digestOne ((x50 : Int32).toInt64) t51) fun t54 => bd (f_X7_bestSlip 1 100 t54) fun x56 t57 => bv (f_X7_digestOne ((x56 : Int32).toInt64) t57) fun t60 => gd (inB 0 111) <| (if (t60.1 226 (tc 0)) ≤ 0 then f_X7_digest_b218 t60 else bd (f_X7_outermost 0 50 20 0 t60) fun x64 t65 => bv (f_X7_digestOne ((x64 : Int32).toInt64) t65) fun t68 => bd (f_X7_outermost 0 50 20 1 t68) fun x70 t71 => bv (f_X7_digestOne ((x70 : Int32).toInt64) t71) fun t74 => f_X7_digest_b218 t74))) (fun s => m - s.1) (fun s => s.1 ≤ m ∧ DQ σ0 s.2 (itr (skS V) s.1 h3)) (fun τ => DQ σ0 τ (itr (skS V) m h3)) (by
    rintro g ⟨k, τ⟩ ⟨h0, hD⟩
    simp only at h0 hD
    have m0 : τ.1 226 (tc 45) = iI (m : Int) := by
      have := (M0.dq hD) 45 (by omega)
      rw [hm] at this; exact this
    rcases (show k = m ∨ k < m by omega) with c | c
    · subst c
      refine .inl ⟨τ, hD, ?_⟩
      show f_X7_digest_b114 _ _ _ = _
      unfold f_X7_digest_b114
      rw [show inB 45 111 = true from rfl, gd_tt, if_pos (show τ.1 226 (tc 45) ≤ iI ((k : Nat) : Int) by rw [m0, iI_le (by omega) (by omega) (by omega) (by omega)]; omega)]
    · right
      obtain ⟨υ, x1, x2⟩ := dg127 (K114 := f_X7_digest_l114 g) (k := k) hI M0 (by omega) hD
      refine ⟨(k + 1, υ), ⟨by simp only; omega, show DQ σ0 υ (itr (skS V) (k + 1) h3) by rw [itr_s]; exact x1⟩, by simp only; omega, ?_⟩
      show f_X7_digest_b114 _ _ _ = _
      unfold f_X7_digest_b114
      rw [show inB 45 111 = true from rfl, gd_tt, if_neg (show ¬ (τ.1 226 (tc 45) ≤ iI ((k : Nat) : Int)) by rw [m0, iI_le (by omega) (by omega) (by omega) (by omega)]; omega)]
      exact x2) FU (0, σ3) ⟨by simp, D3⟩ (by simp only [FU]; omega)
  obtain ⟨σ5, D5, E5⟩ := dg114t hI M0 hn hm B0 hl D4
  refine ⟨σ5, ?_, fun c hc => ?_, fun j hj => ?_⟩
  · unfold dig
    rw [← hh1, ← hh2, ← hh3, ← E5]
    unfold f_X7_digest
    simp only [lt_mk, iI_lit]
    rw [← hσ0]
    exact E1.trans (E2.trans (E3.trans E4))
  · rw [D5.1.at (by omega), hσ0]; show (sI σ 225 0 (iI 0)).1 c = _; rw [sI_c (by omega)]
  · rw [D5.1.at (by omega), hσ0]; show (sI σ 225 0 (iI 0)).1 225 j = _; rw [sI_k hj]
