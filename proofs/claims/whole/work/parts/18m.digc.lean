/-! the digest of the class -/
def mxl (h v : Int64) : Int64 := 31 * h + v
def mx (h : Int64) (v : Int) : Int64 := 31 * h + (iI v).toInt64
def itr (st : Nat → Int64 → Int64) : Nat → Int64 → Int64
  | 0, h => h
  | k + 1, h => st k (itr st k h)
theorem itr_s (st : Nat → Int64 → Int64) (k : Nat) (h : Int64) : itr st (k + 1) h = st k (itr st k h) := rfl
def yr (i : Nat) : Int := if i = 0 then 0 else if i = 1 then 100 else 777
theorem yr_b (i : Nat) : 0 ≤ yr i ∧ yr i ≤ 999 := by unfold yr; split <;> (try split) <;> omega
theorem dyf_yr {i : Nat} (h : i < 3) : dyf i = iI (yr i) := by
  rcases (show i = 0 ∨ i = 1 ∨ i = 2 by omega) with rfl | rfl | rfl <;> decide +kernel
theorem mixed_v (h : Int64) (v : Int) (σ : St) : f_X6_mixed h (iI v).toInt64 σ = some (mx h v, σ) := rfl
theorem mixed_l (h v : Int64) (σ : St) : f_X6_mixed h v σ = some (mxl h v, σ) := rfl
def DC (σ : St) (V : Nat → Int) : Prop := ∀ i : Nat, i < 3 → CO σ (177 + 16 * i) V (yr i) (SL V)
theorem DC.fr {σ τ : St} {V : Nat → Int} {lo hi : Nat} (h : DC σ V) (e : Fr lo hi σ τ) (hc : hi ≤ 177) : DC τ V := fun i hi' => (h i hi').fr e (by omega)
theorem gatherDig_v {V : Nat → Int} {σ : St} (hI : IV V) (hS : RS σ 1 V) : ∃ τ, f_X6_gatherDigestCouncils σ = some τ ∧ Fr 177 225 σ τ ∧ DC τ V := by
  have H := wlp (F := fun g (s : Nat × St) => f_X6_gatherDigestCouncils_l2 g (iI (s.1 : Int)) s.2) (X := fun τ => some τ) (fun s => 3 - s.1) (fun s => s.1 ≤ 3 ∧ Fr 177 225 σ s.2 ∧ ∀ i : Nat, i < s.1 → CO s.2 (177 + 16 * i) V (yr i) (SL V)) (fun τ => Fr 177 225 σ τ ∧ DC τ V) (by
    rintro g ⟨i, τ⟩ ⟨h0, hF, hv⟩
    simp only at h0 hv hF
    rcases (show 3 ≤ i ∨ i < 3 by omega) with h | h
    · refine .inl ⟨τ, ⟨hF, fun d hd => hv d (by omega)⟩, ?_⟩
      show f_X6_gatherDigestCouncils_b2 _ _ _ = _
      unfold f_X6_gatherDigestCouncils_b2
      simp (disch := omega) only [iI_lit, ofNat_iI, iI_add, iI_sub, iI_mul, iI_neg, iI_lt_t, iI_lt_f, iI_le_t, iI_le_f, iI_eq_t, iI_eq_f, iI_div, rm_iI, tc_iI, inB_iI, nz_iI, is01_0, is01_1, gd_tt, bd_mk, bv_mk, oc_mk, lt_mk, Bool.false_eq_true, ↓reduceIte]
    · right
      have tS : RS τ 1 V := hS.fr hF (by omega)
      have e0 : ((i : Int)).toNat = i := by omega
      have e1 : (i : Int) + 1 = ((i + 1 : Nat) : Int) := by omega
      obtain ⟨υ, x1, x2, x3⟩ := gather_v (a0 := 177 + 16 * i) (y := yr i) (ck_dig i h) (by omega) hI tS (yr_b i)
      have hd := dyf_yr h
      refine ⟨(i + 1, υ), ⟨by simp only; omega, hF.tr (x2.mo (by omega) (by omega)), fun d hd => ?_⟩, by simp only; omega, ?_⟩
      · simp only at hd ⊢
        by_cases hk : d = i
        · rw [hk]; exact x3
        · exact (hv d (by omega)).fr x2 (by omega)
      · show f_X6_gatherDigestCouncils_b2 _ _ _ = _
        unfold f_X6_gatherDigestCouncils_b2
        simp (disch := omega) only [iI_lit, ofNat_iI, iI_add, iI_sub, iI_mul, iI_neg, iI_lt_t, iI_lt_f, iI_le_t, iI_le_f, iI_eq_t, iI_eq_f, iI_div, rm_iI, tc_iI, inB_iI, nz_iI, is01_0, is01_1, gd_tt, bd_mk, bv_mk, oc_mk, lt_mk, Bool.false_eq_true, ↓reduceIte, e0, hd, x1, e1])
  obtain ⟨τ, ⟨h1, h2⟩, h3⟩ := H FU (0, σ) ⟨by simp, Fr.rfl, fun g hg => by simp only at hg; omega⟩ (by simp only [FU]; omega)
  exact ⟨τ, h3, h1, h2⟩
def dyS (V : Nat → Int) (y : Int) (f : Nat) : Nat → Int64 → Int64 := fun c h => mx (mx h (Pr V y (SL V c) f)) (Nt V y (SL V c) f)
def dyH (V : Nat → Int) (y : Int) (f : Nat) (h : Int64) : Int64 := mx (itr (dyS V y f) 3 h) (stl V y (SL V) f)
theorem mixedDays_v {a2 f : Nat} {V : Nat → Int} {y : Int} {h : Int64} {σ : St} (hI : IV V) (hA : CK a2) (hC : CO σ a2 V y (SL V)) (hf : (f : Int) < V 0) : f_X6_mixedDays h a2 (iI (f : Int)) σ = some (dyH V y f h, σ) := by
  have hn10 := hI.1
  refine lpr (F := fun g j => f_X6_mixedDays_l6 g a2 (iI (f : Int)) (itr (dyS V y f) j h) (iI (j : Int)) σ) (R := fun _ => some (dyH V y f h, σ)) (n := 3) ?_ ?_ 3 FU 0 (by omega) (by simp only [FU]; omega)
  · intro g
    have k0 := settledNotch_v (f := f) hA hC (by omega)
    show f_X6_mixedDays_b6 _ _ _ _ _ _ = some (mx (itr (dyS V y f) 3 h) (stl V y (SL V) f), σ)
    unfold f_X6_mixedDays_b6
    simp (disch := omega) only [iI_lit, ofNat_iI, iI_add, iI_sub, iI_mul, iI_neg, iI_lt_t, iI_lt_f, iI_le_t, iI_le_f, iI_eq_t, iI_eq_f, iI_div, rm_iI, tc_iI, inB_iI, nz_iI, is01_0, is01_1, gd_tt, bd_mk, bv_mk, oc_mk, lt_mk, Bool.false_eq_true, ↓reduceIte, k0, mixed_v]
  · intro g j hj q
    have q : f_X6_mixedDays_l6 g a2 (iI (f : Int)) (mx (mx (itr (dyS V y f) j h) (Pr V y (SL V j) f)) (Nt V y (SL V j) f)) (iI ((j + 1 : Nat) : Int)) σ = some (dyH V y f h, σ) := q
    have e0 : ((f : Int)).toNat = f := by omega
    have e1 : (j : Int) + 1 = ((j + 1 : Nat) : Int) := by omega
    have h1 := hC.p (c := j) (f := f) (x := a2 + 1 + 5 * j + 1 + 1) hj (by omega) (by omega)
    have h2 := hC.n (c := j) (f := f) (x := a2 + 1 + 5 * j + 3 + 1) hj (by omega) (by omega)
    have k1 := at_in (c := a2 + 1 + 5 * j + 1) (N := 10) (hA.p hj rfl) (by omega) (i := (f : Int)) (σ := σ) (by omega) (by omega)
    have k2 := at_in (c := a2 + 1 + 5 * j + 3) (N := 10) (hA.n hj rfl) (by omega) (i := (f : Int)) (σ := σ) (by omega) (by omega)
    rw [e0] at k1 k2
    rw [h1] at k1
    rw [h2] at k2
    have hb := by_c (a0 := a2) hj σ
    have hk := isN_t (hA j hj).1
    show f_X6_mixedDays_b6 _ _ _ _ _ _ = some (dyH V y f h, σ)
    unfold f_X6_mixedDays_b6
    simp (disch := omega) only [iI_lit, ofNat_iI, iI_add, iI_sub, iI_mul, iI_neg, iI_lt_t, iI_lt_f, iI_le_t, iI_le_f, iI_eq_t, iI_eq_f, iI_div, rm_iI, tc_iI, inB_iI, nz_iI, is01_0, is01_1, gd_tt, bd_mk, bv_mk, oc_mk, lt_mk, Bool.false_eq_true, ↓reduceIte, hb, hk, k1, k2, mixed_v, e1, q]
def fpS (V : Nat → Int) (f : Nat) : Nat → Int64 → Int64 := fun w h => mx h (fpr V f w)
def yfS (V : Nat → Int) (f : Nat) : Nat → Int64 → Int64 := fun i h => dyH V (yr i) f h
def ftS (V : Nat → Int) : Nat → Int64 → Int64 := fun f h => itr (yfS V f) 3 (itr (fpS V f) 4 h)
theorem mixedFeasts_v {V : Nat → Int} {n : Nat} {h : Int64} {σ : St} (hI : IV V) (hS : RS σ 1 V) (hn : V 0 = (n : Int)) (hD : DC σ V) : f_X6_mixedFeasts h σ = some (itr (ftS V) n h, σ) := by
  have hn10 := hI.1
  have m0 : σ.1 1 0 = iI (n : Int) := by rw [hS.1, hn]
  refine lpr (F := fun g j => f_X6_mixedFeasts_l5 g (itr (ftS V) j h) (iI (j : Int)) σ) (R := fun _ => some (itr (ftS V) n h, σ)) (n := n) ?_ ?_ n FU 0 (by omega) (by simp only [FU]; omega)
  · intro g
    show f_X6_mixedFeasts_b5 _ _ _ _ = some (itr (ftS V) n h, σ)
    unfold f_X6_mixedFeasts_b5
    simp (disch := omega) only [iI_lit, ofNat_iI, iI_add, iI_sub, iI_mul, iI_neg, iI_lt_t, iI_lt_f, iI_le_t, iI_le_f, iI_eq_t, iI_eq_f, iI_div, rm_iI, tc_iI, inB_iI, nz_iI, is01_0, is01_1, gd_tt, bd_mk, bv_mk, oc_mk, lt_mk, Bool.false_eq_true, ↓reduceIte, m0]
  · intro g f hf q
    have q : f_X6_mixedFeasts_l5 g (itr (ftS V) (f + 1) h) (iI ((f + 1 : Nat) : Int)) σ = some (itr (ftS V) n h, σ) := q
    obtain ⟨h0, hh0⟩ : ∃ h0, h0 = itr (ftS V) f h := ⟨_, rfl⟩
    rw [itr_s, ← hh0, show ftS V f h0 = itr (yfS V f) 3 (itr (fpS V f) 4 h0) from rfl] at q
    have A49 : f_X6_mixedFeasts_l49 (f_X6_mixedFeasts_l5 g) FU (itr (fpS V f) 4 h0) (iI (f : Int)) (iI 0) σ = some (itr (ftS V) n h, σ) := by
      refine lpr (F := fun g' i => f_X6_mixedFeasts_l49 (f_X6_mixedFeasts_l5 g) g' (itr (yfS V f) i (itr (fpS V f) 4 h0)) (iI (f : Int)) (iI (i : Int)) σ) (R := fun _ => some (itr (ftS V) n h, σ)) (n := 3) ?_ ?_ 3 FU 0 (by omega) (by simp only [FU]; omega)
      · intro g'
        have e1 : (f : Int) + 1 = ((f + 1 : Nat) : Int) := by omega
        show f_X6_mixedFeasts_b49 _ _ _ _ _ _ = some (itr (ftS V) n h, σ)
        unfold f_X6_mixedFeasts_b49
        simp (disch := omega) only [iI_lit, ofNat_iI, iI_add, iI_sub, iI_mul, iI_neg, iI_lt_t, iI_lt_f, iI_le_t, iI_le_f, iI_eq_t, iI_eq_f, iI_div, rm_iI, tc_iI, inB_iI, nz_iI, is01_0, is01_1, gd_tt, bd_mk, bv_mk, oc_mk, lt_mk, Bool.false_eq_true, ↓reduceIte, e1, q]
      · intro g' i hi r
        have r : f_X6_mixedFeasts_l49 (f_X6_mixedFeasts_l5 g) g' (dyH V (yr i) f (itr (yfS V f) i (itr (fpS V f) 4 h0))) (iI (f : Int)) (iI ((i + 1 : Nat) : Int)) σ = some (itr (ftS V) n h, σ) := r
        have e0 : ((i : Int)).toNat = i := by omega
        have e1 : (i : Int) + 1 = ((i + 1 : Nat) : Int) := by omega
        have k0 := mixedDays_v (f := f) (h := itr (yfS V f) i (itr (fpS V f) 4 h0)) hI (ck_dig i hi) (hD i hi) (by omega)
        show f_X6_mixedFeasts_b49 _ _ _ _ _ _ = some (itr (ftS V) n h, σ)
        unfold f_X6_mixedFeasts_b49
        simp (disch := omega) only [iI_lit, ofNat_iI, iI_add, iI_sub, iI_mul, iI_neg, iI_lt_t, iI_lt_f, iI_le_t, iI_le_f, iI_eq_t, iI_eq_f, iI_div, rm_iI, tc_iI, inB_iI, nz_iI, is01_0, is01_1, gd_tt, bd_mk, bv_mk, oc_mk, lt_mk, Bool.false_eq_true, ↓reduceIte, e0, k0, e1, r]
    have A20 : f_X6_mixedFeasts_l20 (f_X6_mixedFeasts_l5 g) FU h0 (iI (f : Int)) (iI 0) σ = some (itr (ftS V) n h, σ) := by
      refine lpr (F := fun g' w => f_X6_mixedFeasts_l20 (f_X6_mixedFeasts_l5 g) g' (itr (fpS V f) w h0) (iI (f : Int)) (iI (w : Int)) σ) (R := fun _ => some (itr (ftS V) n h, σ)) (n := 4) ?_ ?_ 4 FU 0 (by omega) (by simp only [FU]; omega)
      · intro g'
        show f_X6_mixedFeasts_b20 _ _ _ _ _ _ = some (itr (ftS V) n h, σ)
        unfold f_X6_mixedFeasts_b20
        simp (disch := omega) only [iI_lit, ofNat_iI, iI_add, iI_sub, iI_mul, iI_neg, iI_lt_t, iI_lt_f, iI_le_t, iI_le_f, iI_eq_t, iI_eq_f, iI_div, rm_iI, tc_iI, inB_iI, nz_iI, is01_0, is01_1, gd_tt, bd_mk, bv_mk, oc_mk, lt_mk, Bool.false_eq_true, ↓reduceIte, A49]
      · intro g' w hw r
        have r : f_X6_mixedFeasts_l20 (f_X6_mixedFeasts_l5 g) g' (mx (itr (fpS V f) w h0) (fpr V f w)) (iI (f : Int)) (iI ((w + 1 : Nat) : Int)) σ = some (itr (ftS V) n h, σ) := r
        have e1 : (w : Int) + 1 = ((w + 1 : Nat) : Int) := by omega
        have k0 := feastC (f := f) (w := w) hI hS (by omega) hw
        show f_X6_mixedFeasts_b20 _ _ _ _ _ _ = some (itr (ftS V) n h, σ)
        unfold f_X6_mixedFeasts_b20
        simp (disch := omega) only [iI_lit, ofNat_iI, iI_add, iI_sub, iI_mul, iI_neg, iI_lt_t, iI_lt_f, iI_le_t, iI_le_f, iI_eq_t, iI_eq_f, iI_div, rm_iI, tc_iI, inB_iI, nz_iI, is01_0, is01_1, gd_tt, bd_mk, bv_mk, oc_mk, lt_mk, Bool.false_eq_true, ↓reduceIte, k0, mixed_v, e1, r]
    show f_X6_mixedFeasts_b5 _ _ _ _ = some (itr (ftS V) n h, σ)
    unfold f_X6_mixedFeasts_b5
    rw [← hh0]
    simp (disch := omega) only [iI_lit, ofNat_iI, iI_add, iI_sub, iI_mul, iI_neg, iI_lt_t, iI_lt_f, iI_le_t, iI_le_f, iI_eq_t, iI_eq_f, iI_div, rm_iI, tc_iI, inB_iI, nz_iI, is01_0, is01_1, gd_tt, bd_mk, bv_mk, oc_mk, lt_mk, Bool.false_eq_true, ↓reduceIte, m0, A20]
def mvS (V : Nat → Int) (n : Nat) (y : Int) : Nat → Int64 → Int64 := fun c h => mx h (cnN (mvd V y (SL V c)) n)
def qrS (V : Nat → Int) (n : Nat) : Nat → Int64 → Int64 := fun i h => itr (mvS V n (yr i)) 3 (mx h (cnN (qrl V (yr i) (SL V)) n))
theorem mixedQuarrels_v {V : Nat → Int} {n : Nat} {h : Int64} {σ : St} (hI : IV V) (hS : RS σ 1 V) (hn : V 0 = (n : Int)) (hD : DC σ V) : f_X6_mixedQuarrels h σ = some (itr (qrS V n) 3 h, σ) := by
  have hn10 := hI.1
  have m0 : σ.1 1 0 = iI (n : Int) := by rw [hS.1, hn]
  refine lpr (F := fun g j => f_X6_mixedQuarrels_l5 g (itr (qrS V n) j h) (iI (j : Int)) σ) (R := fun _ => some (itr (qrS V n) 3 h, σ)) (n := 3) ?_ ?_ 3 FU 0 (by omega) (by simp only [FU]; omega)
  · intro g
    show f_X6_mixedQuarrels_b5 _ _ _ _ = some (itr (qrS V n) 3 h, σ)
    unfold f_X6_mixedQuarrels_b5
    simp (disch := omega) only [iI_lit, ofNat_iI, iI_add, iI_sub, iI_mul, iI_neg, iI_lt_t, iI_lt_f, iI_le_t, iI_le_f, iI_eq_t, iI_eq_f, iI_div, rm_iI, tc_iI, inB_iI, nz_iI, is01_0, is01_1, gd_tt, bd_mk, bv_mk, oc_mk, lt_mk, Bool.false_eq_true, ↓reduceIte]
  · intro g i hi q
    obtain ⟨h0, hh0⟩ : ∃ h0, h0 = itr (qrS V n) i h := ⟨_, rfl⟩
    have q : f_X6_mixedQuarrels_l5 g (itr (qrS V n) (i + 1) h) (iI ((i + 1 : Nat) : Int)) σ = some (itr (qrS V n) 3 h, σ) := q
    rw [itr_s, ← hh0, show qrS V n i h0 = itr (mvS V n (yr i)) 3 (mx h0 (cnN (qrl V (yr i) (SL V)) n)) from rfl] at q
    obtain ⟨h1, hh1⟩ : ∃ h1, h1 = mx h0 (cnN (qrl V (yr i) (SL V)) n) := ⟨_, rfl⟩
    rw [← hh1] at q
    have e0 : ((i : Int)).toNat = i := by omega
    have A50 : f_X6_mixedQuarrels_l50 (f_X6_mixedQuarrels_l5 g) FU h1 (iI (i : Int)) (177 + 16 * i) (iI 0) σ = some (itr (qrS V n) 3 h, σ) := by
      refine lpr (F := fun g' c => f_X6_mixedQuarrels_l50 (f_X6_mixedQuarrels_l5 g) g' (itr (mvS V n (yr i)) c h1) (iI (i : Int)) (177 + 16 * i) (iI (c : Int)) σ) (R := fun _ => some (itr (qrS V n) 3 h, σ)) (n := 3) ?_ ?_ 3 FU 0 (by omega) (by simp only [FU]; omega)
      · intro g'
        have e1 : (i : Int) + 1 = ((i + 1 : Nat) : Int) := by omega
        show f_X6_mixedQuarrels_b50 _ _ _ _ _ _ _ = some (itr (qrS V n) 3 h, σ)
        unfold f_X6_mixedQuarrels_b50
        simp (disch := omega) only [iI_lit, ofNat_iI, iI_add, iI_sub, iI_mul, iI_neg, iI_lt_t, iI_lt_f, iI_le_t, iI_le_f, iI_eq_t, iI_eq_f, iI_div, rm_iI, tc_iI, inB_iI, nz_iI, is01_0, is01_1, gd_tt, bd_mk, bv_mk, oc_mk, lt_mk, Bool.false_eq_true, ↓reduceIte, e1, q]
      · intro g' c hc r
        have r : f_X6_mixedQuarrels_l50 (f_X6_mixedQuarrels_l5 g) g' (mx (itr (mvS V n (yr i)) c h1) (cnN (mvd V (yr i) (SL V c)) n)) (iI (i : Int)) (177 + 16 * i) (iI ((c + 1 : Nat) : Int)) σ = some (itr (qrS V n) 3 h, σ) := r
        have e1 : (c : Int) + 1 = ((c + 1 : Nat) : Int) := by omega
        have hb := by_c (a0 := 177 + 16 * i) hc σ
        have hk := isN_t (ck_dig i hi c hc).1
        have k0 := movedCount_v (n := n) (ck_dig i hi c hc).2 (hD i hi c hc) hn (by omega)
        show f_X6_mixedQuarrels_b50 _ _ _ _ _ _ _ = some (itr (qrS V n) 3 h, σ)
        unfold f_X6_mixedQuarrels_b50
        simp (disch := omega) only [iI_lit, ofNat_iI, iI_add, iI_sub, iI_mul, iI_neg, iI_lt_t, iI_lt_f, iI_le_t, iI_le_f, iI_eq_t, iI_eq_f, iI_div, rm_iI, tc_iI, inB_iI, nz_iI, is01_0, is01_1, gd_tt, bd_mk, bv_mk, oc_mk, lt_mk, Bool.false_eq_true, ↓reduceIte, hb, hk, m0, k0, mixed_v, e1, r]
    have k0 := quarrelCount_v (n := n) (ck_dig i hi) (hD i hi) (by omega)
    show f_X6_mixedQuarrels_b5 _ _ _ _ = some (itr (qrS V n) 3 h, σ)
    unfold f_X6_mixedQuarrels_b5
    rw [← hh0]
    simp (disch := omega) only [iI_lit, ofNat_iI, iI_add, iI_sub, iI_mul, iI_neg, iI_lt_t, iI_lt_f, iI_le_t, iI_le_f, iI_eq_t, iI_eq_f, iI_div, rm_iI, tc_iI, inB_iI, nz_iI, is01_0, is01_1, gd_tt, bd_mk, bv_mk, oc_mk, lt_mk, Bool.false_eq_true, ↓reduceIte, e0, m0, k0, mixed_v, ← hh1, A50]
/-- the buffer as it lies in the class, and in the reference -/
def BC (σ : St) (len : Nat) (b : Nat → Int) : Prop := σ.1 0 8 = iI (len : Int) ∧ ∀ i : Nat, i < len → σ.1 137 i = iI (b i)
def BR (σ : St) (len : Nat) (b : Nat → Int) : Prop := σ.1 225 5 = iI (len : Int) ∧ ∀ i : Nat, i < len → σ.1 228 i = iI (b i)
def spS (V : Nat → Int) (k : Nat) : Nat → Int64 → Int64 := fun w h => mx h (spr V k w)
def skS (V : Nat → Int) : Nat → Int64 → Int64 := fun k h => itr (spS V k) 14 h
def bfS (b : Nat → Int) : Nat → Int64 → Int64 := fun i h => mx h (b i)
noncomputable def tlH (V : Nat → Int) (n m len : Nat) (b : Nat → Int) (h : Int64) : Int64 := itr (bfS b) len (mx (mxl (if n = 0 then mx (mx h (nal V 20 n 100 (20 + 1))) (pce V 100 1 n + 5) else mx (mx (mx (mx h (nal V 20 n 100 (20 + 1))) (pce V 100 1 n + 5)) (otm V 0 0 50 20)) (otm V 0 1 50 20)) (btv (frs V m))) (len : Int))
def nmS (V : Nat → Int) (m sv : Nat) : Nat → Int64 → Int64 := fun k h => mx h (nmb V m sv k)
noncomputable def dig (V : Nat → Int) (n m sv len : Nat) (b : Nat → Int) : Int64 := tlH V n m len b (itr (skS V) m (itr (qrS V n) 3 (itr (ftS V) n (itr (nmS V m sv) 8 2953))))
theorem dig186 {len : Nat} {b : Nat → Int} {h : Int64} {σ : St} (hB : BC σ len b) (hl : len ≤ 60) : f_X6_digest_l186 FU h (iI 0) σ = some (itr (bfS b) len h, σ) := by
  refine lpr (F := fun g j => f_X6_digest_l186 g (itr (bfS b) j h) (iI (j : Int)) σ) (R := fun _ => some (itr (bfS b) len h, σ)) (n := len) ?_ ?_ len FU 0 (by omega) (by simp only [FU]; omega)
  · intro g
    show f_X6_digest_b186 _ _ _ _ = some (itr (bfS b) len h, σ)
    unfold f_X6_digest_b186
    have r := hB.1
    simp (disch := omega) only [iI_lit, ofNat_iI, iI_add, iI_sub, iI_mul, iI_neg, iI_lt_t, iI_lt_f, iI_le_t, iI_le_f, iI_eq_t, iI_eq_f, iI_div, rm_iI, tc_iI, inB_iI, nz_iI, is01_0, is01_1, gd_tt, bd_mk, bv_mk, oc_mk, lt_mk, Bool.false_eq_true, ↓reduceIte, r]
  · intro g j hj q
    have q : f_X6_digest_l186 g (mx (itr (bfS b) j h) (b j)) (iI ((j + 1 : Nat) : Int)) σ = some (itr (bfS b) len h, σ) := q
    have r := hB.1
    have e0 : ((j : Int)).toNat = j := by omega
    have e1 : (j : Int) + 1 = ((j + 1 : Nat) : Int) := by omega
    have k1 := at_in (c := 136) (N := 60) rfl (by omega) (i := (j : Int)) (σ := σ) (by omega) (by omega)
    rw [e0, show σ.1 (136 + 1) j = _ from hB.2 j hj] at k1
    show f_X6_digest_b186 _ _ _ _ = some (itr (bfS b) len h, σ)
    unfold f_X6_digest_b186
    simp (disch := omega) only [iI_lit, ofNat_iI, iI_add, iI_sub, iI_mul, iI_neg, iI_lt_t, iI_lt_f, iI_le_t, iI_le_f, iI_eq_t, iI_eq_f, iI_div, rm_iI, tc_iI, inB_iI, nz_iI, is01_0, is01_1, gd_tt, bd_mk, bv_mk, oc_mk, lt_mk, Bool.false_eq_true, ↓reduceIte, r, k1, mixed_v, e1, q]
theorem dig61 {K47 : Int64 → Int32 → St → Option (Int64 × St)} {V : Nat → Int} {k : Nat} {h : Int64} {σ : St} (hI : IV V) (hS : RS σ 1 V) (hk : (k : Int) < V 45) : ∃ τ, Fr 139 144 σ τ ∧ f_X6_digest_l61 K47 FU h (iI (k : Int)) (iI ((0 : Nat) : Int)) σ = K47 (skS V k h) (iI ((k + 1 : Nat) : Int)) τ := by
  have H := wlp (F := fun g (s : Nat × St) => f_X6_digest_l61 K47 g (itr (spS V k) s.1 h) (iI (k : Int)) (iI (s.1 : Int)) s.2) (X := fun τ => K47 (skS V k h) (iI ((k + 1 : Nat) : Int)) τ) (fun s => 14 - s.1) (fun s => s.1 ≤ 14 ∧ Fr 139 144 σ s.2) (fun τ => Fr 139 144 σ τ) (by
    rintro g ⟨w, τ⟩ ⟨h0, hF⟩
    simp only at h0 hF
    rcases (show w = 14 ∨ w < 14 by omega) with c | c
    · subst c
      refine .inl ⟨τ, hF, ?_⟩
      have e1 : (k : Int) + 1 = ((k + 1 : Nat) : Int) := by omega
      show f_X6_digest_b61 _ _ _ _ _ _ = K47 (itr (spS V k) 14 h) (iI ((k + 1 : Nat) : Int)) τ
      unfold f_X6_digest_b61
      simp (disch := omega) only [iI_lit, ofNat_iI, iI_add, iI_sub, iI_mul, iI_neg, iI_lt_t, iI_lt_f, iI_le_t, iI_le_f, iI_eq_t, iI_eq_f, iI_div, rm_iI, tc_iI, inB_iI, nz_iI, is01_0, is01_1, gd_tt, bd_mk, bv_mk, oc_mk, lt_mk, Bool.false_eq_true, ↓reduceIte, e1]
    · right
      obtain ⟨υ, x1, x2⟩ := stickC (k := k) (w := w) hI (hS.fr hF (by omega)) hk c
      have e1 : (w : Int) + 1 = ((w + 1 : Nat) : Int) := by omega
      refine ⟨(w + 1, υ), ⟨by simp only; omega, hF.tr x2⟩, by simp only; omega, ?_⟩
      show f_X6_digest_b61 _ _ _ _ _ _ = f_X6_digest_l61 K47 g (mx (itr (spS V k) w h) (spr V k w)) (iI (k : Int)) (iI ((w + 1 : Nat) : Int)) υ
      unfold f_X6_digest_b61
      simp (disch := omega) only [iI_lit, ofNat_iI, iI_add, iI_sub, iI_mul, iI_neg, iI_lt_t, iI_lt_f, iI_le_t, iI_le_f, iI_eq_t, iI_eq_f, iI_div, rm_iI, tc_iI, inB_iI, nz_iI, is01_0, is01_1, gd_tt, bd_mk, bv_mk, oc_mk, lt_mk, Bool.false_eq_true, ↓reduceIte, x1, mixed_v, e1])
  obtain ⟨τ, h1, h2⟩ := H FU (0, σ) ⟨by simp, Fr.rfl⟩ (by simp only [FU]; omega)
  exact ⟨τ, h1, h2⟩
theorem dig162 {V : Nat → Int} {m len : Nat} {b : Nat → Int} {h : Int64} {σ : St} (hI : IV V) (hS : RS σ 1 V) (hm : V 45 = (m : Int)) (hB : BC σ len b) (hl : len ≤ 60) : ∃ τ, f_X6_digest_b162 h σ = some (itr (bfS b) len (mx (mxl h (btv (frs V m))) (len : Int)), τ) ∧ Fr 139 225 σ τ := by
  obtain ⟨τ, x1, x2⟩ := freshC hI hS hm
  have hb := bitC_v (frs_ok hI hm) τ
  have tB : BC τ len b := ⟨by rw [x2.at (by omega)]; exact hB.1, fun i hi => by rw [x2.at (by omega)]; exact hB.2 i hi⟩
  have r := tB.1
  have k0 := dig186 (h := mx (mxl h (btv (frs V m))) (len : Int)) tB hl
  refine ⟨τ, ?_, x2.mo (by omega) (by omega)⟩
  unfold f_X6_digest_b162
  simp (disch := omega) only [iI_lit, ofNat_iI, iI_add, iI_sub, iI_mul, iI_neg, iI_lt_t, iI_lt_f, iI_le_t, iI_le_f, iI_eq_t, iI_eq_f, iI_div, rm_iI, tc_iI, inB_iI, nz_iI, is01_0, is01_1, gd_tt, bd_mk, bv_mk, oc_mk, lt_mk, Bool.false_eq_true, ↓reduceIte, x1, hb, mixed_l h, r, mixed_v, k0]
theorem digTail {V : Nat → Int} {n m len : Nat} {b : Nat → Int} {h : Int64} {σ : St} (hI : IV V) (hS : RS σ 1 V) (hn : V 0 = (n : Int)) (hm : V 45 = (m : Int)) (hB : BC σ len b) (hl : len ≤ 60) : ∃ τ, (bd (f_X6_nextAlike 20 σ) fun x51 t52 => bd (f_X6_mixed h ((x51 : Int32).toInt64) t52) fun x54 t55 => bd (f_X6_calmestSlip 1 100 t55) fun x57 t58 => bd (f_X6_mixed x54 (((x57 + 5) : Int32).toInt64) t58) fun x60 t61 => (if (t61.1 1 0) ≤ 0 then f_X6_digest_b162 x60 t61 else bd (f_X6_outermost 0 50 20 0 t61) fun x64 t65 => bd (f_X6_mixed x60 ((x64 : Int32).toInt64) t65) fun x67 t68 => bd (f_X6_outermost 0 50 20 1 t68) fun x70 t71 => bd (f_X6_mixed x67 ((x70 : Int32).toInt64) t71) fun x73 t74 => f_X6_digest_b162 x73 t74)) = some (tlH V n m len b h, τ) ∧ Fr 139 225 σ τ := by
  have hn10 := hI.1
  obtain ⟨σ1, a1, a2⟩ := alikeC (y := 20) hI hS hn (by omega)
  have S1 : RS σ1 1 V := hS.fr a2 (by omega)
  obtain ⟨σ2, b1, b2⟩ := calm_v (y := 100) (c := 1) hI S1 hn (by omega) (by omega)
  have b1 : f_X6_calmestSlip (iI 1) (iI 100) σ1 = some (iI (pce V 100 1 n), σ2) := b1
  have S2 : RS σ2 1 V := S1.fr b2 (by omega)
  have F2 : Fr 139 225 σ σ2 := (a2.mo (by omega) (by omega)).tr (b2.mo (by omega) (by omega))
  have m0 : σ2.1 1 0 = iI (n : Int) := by rw [S2.1, hn]
  have bB : ∀ {τ : St}, Fr 139 225 σ τ → BC τ len b := fun e => ⟨by rw [e.at (by omega)]; exact hB.1, fun i hi => by rw [e.at (by omega)]; exact hB.2 i hi⟩
  unfold tlH
  by_cases c : n = 0
  · rw [if_pos c]
    obtain ⟨σ3, c1, c2⟩ := dig162 (h := mx (mx h (nal V 20 n 100 (20 + 1))) (pce V 100 1 n + 5)) hI S2 hm (bB F2) hl
    refine ⟨σ3, ?_, F2.tr c2⟩
    simp (disch := omega) only [iI_lit, ofNat_iI, iI_add, iI_sub, iI_mul, iI_neg, iI_lt_t, iI_lt_f, iI_le_t, iI_le_f, iI_eq_t, iI_eq_f, iI_div, rm_iI, tc_iI, inB_iI, nz_iI, is01_0, is01_1, gd_tt, bd_mk, bv_mk, oc_mk, lt_mk, Bool.false_eq_true, ↓reduceIte, a1, mixed_v, b1, m0, c1]
  · rw [if_neg c]
    obtain ⟨σ3, c1, c2⟩ := outC (f := 0) (b := 0) (y0 := 50) (ys := 20) hI S2 (by omega) (.inl rfl) (by omega) (by omega)
    have c1 : f_X6_outermost (iI 0) (iI 50) (iI 20) (iI 0) σ2 = some (iI (otm V 0 0 50 20), σ3) := c1
    have S3 : RS σ3 1 V := S2.fr c2 (by omega)
    obtain ⟨σ4, d1, d2⟩ := outC (f := 0) (b := 1) (y0 := 50) (ys := 20) hI S3 (by omega) (.inr rfl) (by omega) (by omega)
    have d1 : f_X6_outermost (iI 0) (iI 50) (iI 20) (iI 1) σ3 = some (iI (otm V 0 1 50 20), σ4) := d1
    have S4 : RS σ4 1 V := S3.fr d2 (by omega)
    have F4 : Fr 139 225 σ σ4 := F2.tr ((c2.mo (by omega) (by omega)).tr (d2.mo (by omega) (by omega)))
    obtain ⟨σ5, e1, e2⟩ := dig162 (h := mx (mx (mx (mx h (nal V 20 n 100 (20 + 1))) (pce V 100 1 n + 5)) (otm V 0 0 50 20)) (otm V 0 1 50 20)) hI S4 hm (bB F4) hl
    refine ⟨σ5, ?_, F4.tr e2⟩
    simp (disch := omega) only [iI_lit, ofNat_iI, iI_add, iI_sub, iI_mul, iI_neg, iI_lt_t, iI_lt_f, iI_le_t, iI_le_f, iI_eq_t, iI_eq_f, iI_div, rm_iI, tc_iI, inB_iI, nz_iI, is01_0, is01_1, gd_tt, bd_mk, bv_mk, oc_mk, lt_mk, Bool.false_eq_true, ↓reduceIte, a1, mixed_v, b1, m0, c1, d1, e1]
theorem digestC {V : Nat → Int} {n m sv len : Nat} {b : Nat → Int} {σ : St} (hI : IV V) (hS : RS σ 1 V) (hn : V 0 = (n : Int)) (hm : V 45 = (m : Int)) (hv : σ.1 20 2 = iI (sv : Int)) (hB : BC σ len b) (hl : len ≤ 60) : ∃ τ, f_X6_digest σ = some (dig V n m sv len b, τ) ∧ Fr 139 225 σ τ := by
  have hk5 := hI.2.2.1
  -- the numbers
  obtain ⟨σ1, F1, E1⟩ := wlp (F := fun g (s : Nat × St) => f_X6_digest_l6 g (itr (nmS V m sv) s.1 2953) (iI (s.1 : Int)) s.2) (X := fun τ => bv (f_X6_gatherDigestCouncils τ) fun t78 => bd (f_X6_mixedFeasts (itr (nmS V m sv) 8 2953) t78) fun x80 t81 => bd (f_X6_mixedQuarrels x80 t81) fun x83 t84 => f_X6_digest_l47 FU x83 (iI 0) t84) (fun s => 8 - s.1) (fun s => s.1 ≤ 8 ∧ Fr 139 144 σ s.2) (fun τ => Fr 139 144 σ τ) (by
    rintro g ⟨k, τ⟩ ⟨h0, hF⟩
    simp only at h0 hF
    rcases (show k = 8 ∨ k < 8 by omega) with c | c
    · subst c
      refine .inl ⟨τ, hF, ?_⟩
      show f_X6_digest_b6 _ _ _ _ = _
      unfold f_X6_digest_b6
      simp (disch := omega) only [iI_lit, ofNat_iI, iI_add, iI_sub, iI_mul, iI_neg, iI_lt_t, iI_lt_f, iI_le_t, iI_le_f, iI_eq_t, iI_eq_f, iI_div, rm_iI, tc_iI, inB_iI, nz_iI, is01_0, is01_1, gd_tt, bd_mk, bv_mk, oc_mk, lt_mk, Bool.false_eq_true, ↓reduceIte]
    · right
      obtain ⟨υ, x1, x2⟩ := numberC (k := k) hI (hS.fr hF (by omega)) hm (by rw [hF.at (by omega)]; exact hv) c
      have e1 : (k : Int) + 1 = ((k + 1 : Nat) : Int) := by omega
      refine ⟨(k + 1, υ), ⟨by simp only; omega, hF.tr x2⟩, by simp only; omega, ?_⟩
      show f_X6_digest_b6 _ _ _ _ = f_X6_digest_l6 g (mx (itr (nmS V m sv) k 2953) (nmb V m sv k)) (iI ((k + 1 : Nat) : Int)) υ
      unfold f_X6_digest_b6
      simp (disch := omega) only [iI_lit, ofNat_iI, iI_add, iI_sub, iI_mul, iI_neg, iI_lt_t, iI_lt_f, iI_le_t, iI_le_f, iI_eq_t, iI_eq_f, iI_div, rm_iI, tc_iI, inB_iI, nz_iI, is01_0, is01_1, gd_tt, bd_mk, bv_mk, oc_mk, lt_mk, Bool.false_eq_true, ↓reduceIte, x1, mixed_v, e1]) FU (0, σ) ⟨by simp, Fr.rfl⟩ (by simp only [FU]; omega)
  have S1 : RS σ1 1 V := hS.fr F1 (by omega)
  obtain ⟨σ2, x1, x2, x3⟩ := gatherDig_v hI S1
  have S2 : RS σ2 1 V := S1.fr x2 (by omega)
  have y1 := mixedFeasts_v (h := itr (nmS V m sv) 8 2953) hI S2 hn x3
  have y2 := mixedQuarrels_v (h := itr (ftS V) n (itr (nmS V m sv) 8 2953)) hI S2 hn x3
  obtain ⟨h3, hh3⟩ : ∃ h3, h3 = itr (qrS V n) 3 (itr (ftS V) n (itr (nmS V m sv) 8 2953)) := ⟨_, rfl⟩
  rw [← hh3] at y2
  -- the sticks
  obtain ⟨σ3, F3, E3⟩ := wlp (F := fun g (s : Nat × St) => f_X6_digest_l47 g (itr (skS V) s.1 h3) (iI (s.1 : Int)) s.2) (X := fun τ => (bd (f_X6_nextAlike 20 τ) fun x51 t52 => bd (f_X6_mixed (itr (skS V) m h3) ((x51 : Int32).toInt64) t52) fun x54 t55 => bd (f_X6_calmestSlip 1 100 t55) fun x57 t58 => bd (f_X6_mixed x54 (((x57 + 5) : Int32).toInt64) t58) fun x60 t61 => (if (t61.1 1 0) ≤ 0 then f_X6_digest_b162 x60 t61 else bd (f_X6_outermost 0 50 20 0 t61) fun x64 t65 => bd (f_X6_mixed x60 ((x64 : Int32).toInt64) t65) fun x67 t68 => bd (f_X6_outermost 0 50 20 1 t68) fun x70 t71 => bd (f_X6_mixed x67 ((x70 : Int32).toInt64) t71) fun x73 t74 => f_X6_digest_b162 x73 t74))) (fun s => m - s.1) (fun s => s.1 ≤ m ∧ Fr 139 144 σ2 s.2) (fun τ => Fr 139 144 σ2 τ) (by
    rintro g ⟨k, τ⟩ ⟨h0, hF⟩
    simp only at h0 hF
    have tS : RS τ 1 V := S2.fr hF (by omega)
    have m0 : τ.1 1 7 = iI (m : Int) := by rw [tS.2.2.1, hm]
    rcases (show k = m ∨ k < m by omega) with c | c
    · subst c
      refine .inl ⟨τ, hF, ?_⟩
      show f_X6_digest_b47 _ _ _ _ = _
      unfold f_X6_digest_b47
      rw [if_pos (show τ.1 1 7 ≤ iI ((k : Nat) : Int) by rw [m0, iI_le (by omega) (by omega) (by omega) (by omega)]; omega)]
    · right
      obtain ⟨υ, x1, x2⟩ := dig61 (K47 := f_X6_digest_l47 g) (k := k) (h := itr (skS V) k h3) hI tS (by omega)
      refine ⟨(k + 1, υ), ⟨by simp only; omega, hF.tr x1⟩, by simp only; omega, ?_⟩
      show f_X6_digest_b47 _ _ _ _ = f_X6_digest_l47 g (skS V k (itr (skS V) k h3)) (iI ((k + 1 : Nat) : Int)) υ
      unfold f_X6_digest_b47
      rw [if_neg (show ¬ (τ.1 1 7 ≤ iI ((k : Nat) : Int)) by rw [m0, iI_le (by omega) (by omega) (by omega) (by omega)]; omega)]
      exact x2) FU (0, σ2) ⟨by simp, Fr.rfl⟩ (by simp only [FU]; omega)
  have F03 : Fr 139 225 σ σ3 := (F1.mo (by omega) (by omega)).tr ((x2.mo (by omega) (by omega)).tr (F3.mo (by omega) (by omega)))
  obtain ⟨σ4, z1, z2⟩ := digTail (h := itr (skS V) m h3) hI (S2.fr F3 (by omega)) hn hm ⟨by rw [F03.at (by omega)]; exact hB.1, fun i hi => by rw [F03.at (by omega)]; exact hB.2 i hi⟩ hl
  refine ⟨σ4, ?_, F03.tr z2⟩
  unfold dig
  rw [← hh3, ← z1, ← E3]
  unfold f_X6_digest
  refine E1.trans ?_
  simp only [x1, bv_mk, y1, bd_mk, y2]
  rfl
