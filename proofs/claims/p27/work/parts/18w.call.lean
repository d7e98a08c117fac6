/-! what holds between the calls -/
def IC (σ : St) (V : Nat → Int) (o m : Nat) (W : Nat → Nat → Int) (len : Nat) (b : Nat → Int) : Prop := RS σ 1 V ∧ HC σ o m W ∧ BC σ len b
theorem IC.mo {σ τ : St} {V : Nat → Int} {o m : Nat} {W : Nat → Nat → Int} {len : Nat} {b : Nat → Int} (h : IC σ V o m W len b) (e : ∀ c, c < 138 → τ.1 c = σ.1 c) : IC τ V o m W len b := by
  obtain ⟨h1, ⟨h2, h3, h4, h5, h6⟩, h7, h8⟩ := h
  refine ⟨h1.mo (fun c _ h => e c (by omega)), ⟨?_, ?_, h4, h5, fun j hj => (h6 j hj).mo (fun c h1 h2 => e c (by omega))⟩, ?_, fun i hi => ?_⟩
  · rw [e 20 (by omega)]; exact h2
  · rw [e 20 (by omega)]; exact h3
  · rw [e 0 (by omega)]; exact h7
  · rw [e 137 (by omega)]; exact h8 i hi
theorem IC.fr {σ τ : St} {V : Nat → Int} {o m lo hi : Nat} {W : Nat → Nat → Int} {len : Nat} {b : Nat → Int} (h : IC σ V o m W len b) (e : Fr lo hi σ τ) (hc : 138 ≤ lo) : IC τ V o m W len b := h.mo (fun c h1 => e.at (by omega))
/-- a stick has no notch of a feast that wasn't there -/
def IS (V : Nat → Int) : Prop := ∀ k f : Nat, (k : Int) < V 45 → stn V k ≤ f → f < 10 → stm V k f = -1
def IY (V : Nat → Int) : Prop := IZ V ∧ IS V
def JB (σ : St) (V : Nat → Int) (m : Nat) (W : Nat → Nat → Int) (len : Nat) (b : Nat → Int) : Prop := (IY V ∧ (∀ j, j < m → IY (W j)) ∧ TX len b) ∧ ∃ o, IC σ V o m W len b
abbrev b0 : Nat → Int := fun _ => 0
abbrev JJ (σ : St) (V : Nat → Int) (m : Nat) (W : Nat → Nat → Int) : Prop := JB σ V m W 0 b0
theorem iI_0 : iI 0 = 0 := rfl
theorem rk_139 : RK 139 := by unfold RK; decide +kernel
section CALL
variable {σ : St} {V : Nat → Int} {m : Nat} {W : Nat → Nat → Int} {len : Nat} {b : Nat → Int}
theorem JB.fr {τ : St} {lo hi : Nat} (h : JB σ V m W len b) (e : Fr lo hi σ τ) (hc : 138 ≤ lo) : JB τ V m W len b := by
  obtain ⟨h1, o, h2⟩ := h
  exact ⟨h1, o, h2.fr e hc⟩
theorem JB.I (h : JB σ V m W len b) : IV V := h.1.1.1.1
theorem JB.R (h : JB σ V m W len b) : RS σ 1 V := by
  obtain ⟨h1, o, h2⟩ := h
  exact h2.1
theorem JB.n (h : JB σ V m W len b) : ∃ n : Nat, V 0 = (n : Int) ∧ n ≤ 10 := ⟨(V 0).toNat, by have := h.I.1; omega, by have := h.I.1; omega⟩
theorem JB.k (h : JB σ V m W len b) : ∃ n : Nat, V 45 = (n : Int) ∧ n ≤ 5 := ⟨(V 45).toNat, by have := h.I.2.2.1; omega, by have := h.I.2.2.1; omega⟩
/-! arguments -/
theorem needA {a lo hi : Int} (h1 : lo ≤ a ∧ a ≤ hi) (h2 : -10000 ≤ lo ∧ lo ≤ 10000) (h3 : -10000 ≤ hi ∧ hi ≤ 10000) (σ : St) : f_X6_needWithin (iI a) (iI lo) (iI hi) σ = some σ := by
  unfold f_X6_needWithin
  simp (disch := omega) only [iI_lit, ofNat_iI, iI_add, iI_sub, iI_mul, iI_neg, iI_lt_t, iI_lt_f, iI_le_t, iI_le_f, iI_eq_t, iI_eq_f, iI_div, rm_iI, tc_iI, inB_iI, nz_iI, is01_0, is01_1, gd_tt, bd_mk, bv_mk, oc_mk, lt_mk, Bool.false_eq_true, ↓reduceIte]
theorem needYear_v {a : Int} (h1 : 0 ≤ a ∧ a ≤ 999) (σ : St) : f_X6_needYear (iI a) σ = some σ := by
  have h := needA (lo := 0) (hi := 999) h1 (by omega) (by omega) σ
  unfold f_X6_needYear
  simp (disch := omega) only [iI_lit, ofNat_iI, iI_add, iI_sub, iI_mul, iI_neg, iI_lt_t, iI_lt_f, iI_le_t, iI_le_f, iI_eq_t, iI_eq_f, iI_div, rm_iI, tc_iI, inB_iI, nz_iI, is01_0, is01_1, gd_tt, bd_mk, bv_mk, oc_mk, lt_mk, Bool.false_eq_true, ↓reduceIte, h]
theorem needCarver_v {a : Int} (h1 : 0 ≤ a ∧ a ≤ 2) (σ : St) : f_X6_needCarver (iI a) σ = some σ := by
  have h := needA (lo := 0) (hi := 2) h1 (by omega) (by omega) σ
  unfold f_X6_needCarver
  simp (disch := omega) only [iI_lit, ofNat_iI, iI_add, iI_sub, iI_mul, iI_neg, iI_lt_t, iI_lt_f, iI_le_t, iI_le_f, iI_eq_t, iI_eq_f, iI_div, rm_iI, tc_iI, inB_iI, nz_iI, is01_0, is01_1, gd_tt, bd_mk, bv_mk, oc_mk, lt_mk, Bool.false_eq_true, ↓reduceIte, h]
theorem needFeast_v {a : Int} {n : Nat} (hn : σ.1 1 0 = iI (n : Int)) (hn10 : n ≤ 10) (h1 : 0 ≤ a ∧ a < n) : f_X6_needFeast (iI a) σ = some σ := by
  unfold f_X6_needFeast
  simp (disch := omega) only [iI_lit, ofNat_iI, iI_add, iI_sub, iI_mul, iI_neg, iI_lt_t, iI_lt_f, iI_le_t, iI_le_f, iI_eq_t, iI_eq_f, iI_div, rm_iI, tc_iI, inB_iI, nz_iI, is01_0, is01_1, gd_tt, bd_mk, bv_mk, oc_mk, lt_mk, Bool.false_eq_true, ↓reduceIte, hn]
theorem needStick_v {a : Int} {n : Nat} (hn : σ.1 1 7 = iI (n : Int)) (hn10 : n ≤ 10) (h1 : 0 ≤ a ∧ a < n) : f_X6_needStick (iI a) σ = some σ := by
  unfold f_X6_needStick
  simp (disch := omega) only [iI_lit, ofNat_iI, iI_add, iI_sub, iI_mul, iI_neg, iI_lt_t, iI_lt_f, iI_le_t, iI_le_f, iI_eq_t, iI_eq_f, iI_div, rm_iI, tc_iI, inB_iI, nz_iI, is01_0, is01_1, gd_tt, bd_mk, bv_mk, oc_mk, lt_mk, Bool.false_eq_true, ↓reduceIte, hn]
/-! questions -/
theorem a_count {k n : Nat} (hJ : JB σ V m W len b) (hk : k < 8) (hn : V 45 = (n : Int)) : ∃ τ, f_X6_count (iI (k : Int)) σ = some (iI (nmb V n m k), τ) ∧ JB τ V m W len b := by
  have hI := hJ.I
  have hR := hJ.R
  have hJ' := hJ
  obtain ⟨h1, o, hC⟩ := hJ'
  obtain ⟨τ, x1, x2⟩ := numberC (k := k) (sv := m) hI hR hn hC.2.1.2.1 (by omega)
  have N1 := needA (a := (k : Int)) (lo := 0) (hi := 7) (by omega) (by omega) (by omega) σ
  refine ⟨τ, ?_, hJ.fr x2 (by omega)⟩
  unfold f_X6_count
  simp (disch := omega) only [iI_lit, ofNat_iI, iI_add, iI_sub, iI_mul, iI_neg, iI_lt_t, iI_lt_f, iI_le_t, iI_le_f, iI_eq_t, iI_eq_f, iI_div, rm_iI, tc_iI, inB_iI, nz_iI, is01_0, is01_1, gd_tt, bd_mk, bv_mk, oc_mk, lt_mk, Bool.false_eq_true, ↓reduceIte, N1, x1]
theorem a_feasts (hJ : JB σ V m W len b) : ∃ τ, f_X6_count (iI 0) σ = some (iI (V 0), τ) ∧ JB τ V m W len b := by
  obtain ⟨n, hn, -⟩ := hJ.k
  exact a_count (k := 0) hJ (by omega) hn
theorem a_sticks (hJ : JB σ V m W len b) : ∃ τ, f_X6_count (iI 1) σ = some (iI (V 45), τ) ∧ JB τ V m W len b := by
  obtain ⟨n, hn, -⟩ := hJ.k
  exact a_count (k := 1) hJ (by omega) hn
theorem a_slip {c : Nat} (hJ : JB σ V m W len b) (hc : c < 3) : ∃ τ, f_X6_count (iI ((2 + c : Nat) : Int)) σ = some (iI (SL V c + 5), τ) ∧ JB τ V m W len b := by
  obtain ⟨n, hn, -⟩ := hJ.k
  obtain ⟨τ, x1, x2⟩ := a_count (k := 2 + c) hJ (by omega) hn
  rw [nmb_x (by omega)] at x1
  rw [show V (39 + (2 + c)) = SL V c by unfold SL; congr 1; omega] at x1
  exact ⟨τ, x1, x2⟩
theorem a_stales {n : Nat} (hJ : JB σ V m W len b) (hn : V 45 = (n : Int)) : ∃ τ, f_X6_count (iI 6) σ = some (iI (smS V n), τ) ∧ JB τ V m W len b := a_count (k := 6) hJ (by omega) hn
theorem a_feast {f w : Nat} (hJ : JB σ V m W len b) (hf : (f : Int) < V 0) (hw : w < 4) : ∃ τ, f_X6_feast (iI (f : Int)) (iI (w : Int)) σ = some (iI (fpr V f w), τ) ∧ JB τ V m W len b := by
  obtain ⟨n, hn, hn10⟩ := hJ.n
  have z0 : σ.1 1 0 = iI (n : Int) := by rw [hJ.R.1, hn]
  have N1 := needFeast_v (a := (f : Int)) z0 hn10 (by omega)
  have N2 := needA (a := (w : Int)) (lo := 0) (hi := 3) (by omega) (by omega) (by omega) σ
  have x1 := feastC (f := f) (w := w) hJ.I hJ.R hf hw
  refine ⟨σ, ?_, hJ⟩
  unfold f_X6_feast
  simp (disch := omega) only [iI_lit, ofNat_iI, iI_add, iI_sub, iI_mul, iI_neg, iI_lt_t, iI_lt_f, iI_le_t, iI_le_f, iI_eq_t, iI_eq_f, iI_div, rm_iI, tc_iI, inB_iI, nz_iI, is01_0, is01_1, gd_tt, bd_mk, bv_mk, oc_mk, lt_mk, Bool.false_eq_true, ↓reduceIte, N1, N2, x1]
theorem a_when {f k : Nat} {y : Int} (hJ : JB σ V m W len b) (hf : (f : Int) < V 0) (hy : 0 ≤ y ∧ y ≤ 999) (hk3 : k < 3) : ∃ τ, f_X6_when (iI (f : Int)) (iI y) (iI (k : Int)) (iI 0) σ = some (iI (Nt V y (SL V k) f), τ) ∧ f_X6_when (iI (f : Int)) (iI y) (iI (k : Int)) (iI 1) σ = some (iI (Pr V y (SL V k) f), τ) ∧ JB τ V m W len b := by
  obtain ⟨n, hn, hn10⟩ := hJ.n
  have hI := hJ.I
  have hR := hJ.R
  have z0 : σ.1 1 0 = iI (n : Int) := by rw [hR.1, hn]
  have N1 := needFeast_v (a := (f : Int)) z0 hn10 (by omega)
  have N2 := needYear_v hy σ
  have N3 := needCarver_v (a := (k : Int)) (by omega) σ
  obtain ⟨τ1, x1, x2, x3⟩ := reckon_v (a0 := 139) (y := y) rk_139 (by omega) hI hR hy (SL_b hI hk3)
  have e0 : ((f : Int)).toNat = f := by omega
  have e1 : ((k : Int)).toNat = k := by omega
  have k1 := at_in (c := 10) (N := 3) rfl (by omega) (i := (k : Int)) (σ := σ) (by omega) (by omega)
  have k2 := at_in (c := 142) (N := 10) rfl (by omega) (i := (f : Int)) (σ := τ1) (by omega) (by omega)
  have k3 := at_in (c := 140) (N := 10) rfl (by omega) (i := (f : Int)) (σ := τ1) (by omega) (by omega)
  rw [e1, show σ.1 (10 + 1) k = iI (SL V k) from hR.2.2.2.1 k hk3] at k1
  rw [e0, show τ1.1 (142 + 1) f = iI (Nt V y (SL V k) f) from x3.2 f (by omega)] at k2
  rw [e0, show τ1.1 (140 + 1) f = iI (Pr V y (SL V k) f) from x3.1 f (by omega)] at k3
  refine ⟨τ1, ?_, ?_, hJ.fr x2 (by omega)⟩
  · unfold f_X6_when
    simp (disch := omega) only [iI_lit, ofNat_iI, iI_add, iI_sub, iI_mul, iI_neg, iI_lt_t, iI_lt_f, iI_le_t, iI_le_f, iI_eq_t, iI_eq_f, iI_div, rm_iI, tc_iI, inB_iI, nz_iI, is01_0, is01_1, gd_tt, bd_mk, bv_mk, oc_mk, lt_mk, Bool.false_eq_true, ↓reduceIte, N1, N2, N3, k1, x1, k2]
  · unfold f_X6_when
    simp (disch := omega) only [iI_lit, ofNat_iI, iI_add, iI_sub, iI_mul, iI_neg, iI_lt_t, iI_lt_f, iI_le_t, iI_le_f, iI_eq_t, iI_eq_f, iI_div, rm_iI, tc_iI, inB_iI, nz_iI, is01_0, is01_1, gd_tt, bd_mk, bv_mk, oc_mk, lt_mk, Bool.false_eq_true, ↓reduceIte, N1, N2, N3, k1, x1, k3]
theorem a_notch {f k : Nat} {y : Int} (hJ : JB σ V m W len b) (hf : (f : Int) < V 0) (hy : 0 ≤ y ∧ y ≤ 999) (hk3 : k < 3) : ∃ τ, f_X6_when (iI (f : Int)) (iI y) (iI (k : Int)) (iI 0) σ = some (iI (Nt V y (SL V k) f), τ) ∧ JB τ V m W len b := by
  obtain ⟨τ, x1, -, x3⟩ := a_when hJ hf hy hk3
  exact ⟨τ, x1, x3⟩
theorem a_proper {f k : Nat} {y : Int} (hJ : JB σ V m W len b) (hf : (f : Int) < V 0) (hy : 0 ≤ y ∧ y ≤ 999) (hk3 : k < 3) : ∃ τ, f_X6_when (iI (f : Int)) (iI y) (iI (k : Int)) (iI 1) σ = some (iI (Pr V y (SL V k) f), τ) ∧ JB τ V m W len b := by
  obtain ⟨τ, -, x2, x3⟩ := a_when hJ hf hy hk3
  exact ⟨τ, x2, x3⟩
theorem a_settled {f : Nat} {y : Int} (hJ : JB σ V m W len b) (hf : (f : Int) < V 0) (hy : 0 ≤ y ∧ y ≤ 999) : ∃ τ, f_X6_settled (iI (f : Int)) (iI y) σ = some (iI (stl V y (SL V) f), τ) ∧ JB τ V m W len b := by
  obtain ⟨n, hn, hn10⟩ := hJ.n
  have hI := hJ.I
  have z0 : σ.1 1 0 = iI (n : Int) := by rw [hJ.R.1, hn]
  have N1 := needFeast_v (a := (f : Int)) z0 hn10 (by omega)
  have N2 := needYear_v hy σ
  obtain ⟨τ1, x1, x2, x3⟩ := gather_v (a0 := 144) (y := y) ck_144 (by omega) hI hJ.R hy
  have k1 := settledNotch_v (f := f) ck_144 x3 (by omega)
  refine ⟨τ1, ?_, hJ.fr x2 (by omega)⟩
  unfold f_X6_settled
  simp (disch := omega) only [iI_lit, ofNat_iI, iI_add, iI_sub, iI_mul, iI_neg, iI_lt_t, iI_lt_f, iI_le_t, iI_le_f, iI_eq_t, iI_eq_f, iI_div, rm_iI, tc_iI, inB_iI, nz_iI, is01_0, is01_1, gd_tt, bd_mk, bv_mk, oc_mk, lt_mk, Bool.false_eq_true, ↓reduceIte, N1, N2, x1, k1]
theorem a_quarrels {n : Nat} {y : Int} (hJ : JB σ V m W len b) (hn : V 0 = (n : Int)) (hy : 0 ≤ y ∧ y ≤ 999) : ∃ τ, f_X6_quarrels (iI y) σ = some (iI (cnN (qrl V y (SL V)) n), τ) ∧ JB τ V m W len b := by
  have hI := hJ.I
  have hn10 : n ≤ 10 := by have := hI.1; omega
  have N2 := needYear_v hy σ
  obtain ⟨τ1, x1, x2, x3⟩ := gather_v (a0 := 144) (y := y) ck_144 (by omega) hI hJ.R hy
  have k1 := quarrelCount_v (n := n) ck_144 x3 hn10
  have z1 : τ1.1 1 0 = iI (n : Int) := by rw [x2.at (by omega), hJ.R.1, hn]
  refine ⟨τ1, ?_, hJ.fr x2 (by omega)⟩
  unfold f_X6_quarrels
  simp (disch := omega) only [iI_lit, ofNat_iI, iI_add, iI_sub, iI_mul, iI_neg, iI_lt_t, iI_lt_f, iI_le_t, iI_le_f, iI_eq_t, iI_eq_f, iI_div, rm_iI, tc_iI, inB_iI, nz_iI, is01_0, is01_1, gd_tt, bd_mk, bv_mk, oc_mk, lt_mk, Bool.false_eq_true, ↓reduceIte, N2, x1, z1, k1]
theorem a_stick {f k : Nat} (hJ : JB σ V m W len b) (hf : (f : Int) < V 45) (hk : k < 14) : ∃ τ, f_X6_stick (iI (f : Int)) (iI (k : Int)) σ = some (iI (spr V f k), τ) ∧ JB τ V m W len b := by
  obtain ⟨n, hn, hn5⟩ := hJ.k
  have z0 : σ.1 1 7 = iI (n : Int) := by rw [hJ.R.2.2.1, hn]
  have N1 := needStick_v (a := (f : Int)) z0 (by omega) (by omega)
  have N2 := needA (a := (k : Int)) (lo := 0) (hi := 13) (by omega) (by omega) (by omega) σ
  obtain ⟨τ1, x1, x2⟩ := stickC (k := f) (w := k) hJ.I hJ.R hf hk
  refine ⟨τ1, ?_, hJ.fr x2 (by omega)⟩
  unfold f_X6_stick
  simp (disch := omega) only [iI_lit, ofNat_iI, iI_add, iI_sub, iI_mul, iI_neg, iI_lt_t, iI_lt_f, iI_le_t, iI_le_f, iI_eq_t, iI_eq_f, iI_div, rm_iI, tc_iI, inB_iI, nz_iI, is01_0, is01_1, gd_tt, bd_mk, bv_mk, oc_mk, lt_mk, Bool.false_eq_true, ↓reduceIte, N1, N2, x1]
theorem a_range {f : Nat} {y ys p : Int} (hJ : JB σ V m W len b) (hf : (f : Int) < V 0) (hp : p = 0 ∨ p = 1) (hy : 0 ≤ y ∧ y ≤ 999) (hys : 1 ≤ ys ∧ ys ≤ 40) : ∃ τ, f_X6_range (iI (f : Int)) (iI y) (iI ys) (iI p) σ = some (iI (otm V f p y ys), τ) ∧ JB τ V m W len b := by
  obtain ⟨n, hn, hn10⟩ := hJ.n
  have z0 : σ.1 1 0 = iI (n : Int) := by rw [hJ.R.1, hn]
  have N1 := needFeast_v (a := (f : Int)) z0 hn10 (by omega)
  have N2 := needYear_v hy σ
  have N3 := needA (lo := 1) (hi := 40) hys (by omega) (by omega) σ
  obtain ⟨τ1, x1, x2⟩ := outC (f := f) (b := p) (y0 := y) (ys := ys) hJ.I hJ.R hf hp hy hys
  refine ⟨τ1, ?_, hJ.fr x2 (by omega)⟩
  unfold f_X6_range
  simp (disch := omega) only [iI_lit, ofNat_iI, iI_add, iI_sub, iI_mul, iI_neg, iI_lt_t, iI_lt_f, iI_le_t, iI_le_f, iI_eq_t, iI_eq_f, iI_div, rm_iI, tc_iI, inB_iI, nz_iI, is01_0, is01_1, gd_tt, bd_mk, bv_mk, oc_mk, lt_mk, Bool.false_eq_true, ↓reduceIte, N1, N2, N3, x1]
theorem a_alike {n : Nat} {y : Int} (hJ : JB σ V m W len b) (hn : V 0 = (n : Int)) (hy : 0 ≤ y ∧ y ≤ 999) : ∃ τ, f_X6_alike (iI y) σ = some (iI (nal V y n 100 (y + 1)), τ) ∧ JB τ V m W len b := by
  have N2 := needYear_v hy σ
  obtain ⟨τ1, x1, x2⟩ := alikeC (y := y) hJ.I hJ.R hn hy
  refine ⟨τ1, ?_, hJ.fr x2 (by omega)⟩
  unfold f_X6_alike
  simp (disch := omega) only [iI_lit, ofNat_iI, iI_add, iI_sub, iI_mul, iI_neg, iI_lt_t, iI_lt_f, iI_le_t, iI_le_f, iI_eq_t, iI_eq_f, iI_div, rm_iI, tc_iI, inB_iI, nz_iI, is01_0, is01_1, gd_tt, bd_mk, bv_mk, oc_mk, lt_mk, Bool.false_eq_true, ↓reduceIte, N2, x1]
theorem a_peace {n k : Nat} {y : Int} (hJ : JB σ V m W len b) (hn : V 0 = (n : Int)) (hk : k < 3) (hy : 0 ≤ y ∧ y ≤ 999) : ∃ τ, f_X6_peace (iI (k : Int)) (iI y) σ = some (iI (pce V y k n + 5), τ) ∧ JB τ V m W len b := by
  have N1 := needCarver_v (a := (k : Int)) (by omega) σ
  have N2 := needYear_v hy σ
  obtain ⟨τ1, x1, x2⟩ := calm_v (y := y) (c := k) hJ.I hJ.R hn hk hy
  refine ⟨τ1, ?_, hJ.fr x2 (by omega)⟩
  unfold f_X6_peace
  simp (disch := omega) only [iI_lit, ofNat_iI, iI_add, iI_sub, iI_mul, iI_neg, iI_lt_t, iI_lt_f, iI_le_t, iI_le_f, iI_eq_t, iI_eq_f, iI_div, rm_iI, tc_iI, inB_iI, nz_iI, is01_0, is01_1, gd_tt, bd_mk, bv_mk, oc_mk, lt_mk, Bool.false_eq_true, ↓reduceIte, N1, N2, x1]
theorem a_moved {n k : Nat} {y : Int} (hJ : JB σ V m W len b) (hn : V 0 = (n : Int)) (hk3 : k < 3) (hy : 0 ≤ y ∧ y ≤ 999) : ∃ τ, f_X6_moved (iI y) (iI (k : Int)) σ = some (iI (cnN (mvd V y (SL V k)) n), τ) ∧ JB τ V m W len b := by
  have hI := hJ.I
  have hR := hJ.R
  have hn10 : n ≤ 10 := by have := hI.1; omega
  have N1 := needCarver_v (a := (k : Int)) (by omega) σ
  have N2 := needYear_v hy σ
  obtain ⟨τ1, x1, x2, x3⟩ := reckon_v (a0 := 139) (y := y) rk_139 (by omega) hI hR hy (SL_b hI hk3)
  have e1 : ((k : Int)).toNat = k := by omega
  have k1 := at_in (c := 10) (N := 3) rfl (by omega) (i := (k : Int)) (σ := σ) (by omega) (by omega)
  rw [e1, show σ.1 (10 + 1) k = iI (SL V k) from hR.2.2.2.1 k hk3] at k1
  have z1 : τ1.1 1 0 = iI (n : Int) := by rw [x2.at (by omega), hR.1, hn]
  have k2 := movedCount_v (n := n) rk_139 x3 hn hn10
  refine ⟨τ1, ?_, hJ.fr x2 (by omega)⟩
  unfold f_X6_moved
  simp (disch := omega) only [iI_lit, ofNat_iI, iI_add, iI_sub, iI_mul, iI_neg, iI_lt_t, iI_lt_f, iI_le_t, iI_le_f, iI_eq_t, iI_eq_f, iI_div, rm_iI, tc_iI, inB_iI, nz_iI, is01_0, is01_1, gd_tt, bd_mk, bv_mk, oc_mk, lt_mk, Bool.false_eq_true, ↓reduceIte, N1, N2, k1, x1, z1, k2]
theorem a_share {n : Nat} (hJ : JB σ V m W len b) (hn : V 45 = (n : Int)) : ∃ τ, f_X6_freshShare σ = some (frs V n, τ) ∧ JB τ V m W len b := by
  obtain ⟨τ1, x1, x2⟩ := freshC hJ.I hJ.R hn
  refine ⟨τ1, ?_, hJ.fr x2 (by omega)⟩
  unfold f_X6_freshShare
  simp (disch := omega) only [iI_lit, ofNat_iI, iI_add, iI_sub, iI_mul, iI_neg, iI_lt_t, iI_lt_f, iI_le_t, iI_le_f, iI_eq_t, iI_eq_f, iI_div, rm_iI, tc_iI, inB_iI, nz_iI, is01_0, is01_1, gd_tt, bd_mk, bv_mk, oc_mk, lt_mk, Bool.false_eq_true, ↓reduceIte, x1, (shG_ok (frs_ok hJ.I hn)).1]
theorem a_weekday {y d : Int} (hJ : JB σ V m W len b) (hy : 0 ≤ y ∧ y ≤ 999) (hd : 0 ≤ d ∧ d < dys y) : ∃ τ, f_X6_day (iI y) (iI d) (iI 0) σ = some (iI ((fwd y + d) % 7), τ) ∧ JB τ V m W len b := by
  have hDb := dys_b y
  have hwb := fwd_b y
  have D1 := daysIn_v hy.1 (by omega) σ
  have N1 := needYear_v hy σ
  have N2 := needA (a := d) (lo := 0) (hi := 365) (by omega) (by omega) (by omega) σ
  have N3 := needA (a := 0) (lo := 0) (hi := 2) (by omega) (by omega) (by omega) σ
  have k1 := nyw_v hy.1 (by omega) σ
  refine ⟨σ, ?_, hJ⟩
  unfold f_X6_day
  simp (disch := omega) only [iI_lit, ofNat_iI, iI_add, iI_sub, iI_mul, iI_neg, iI_lt_t, iI_lt_f, iI_le_t, iI_le_f, iI_eq_t, iI_eq_f, iI_div, rm_iI, tc_iI, inB_iI, nz_iI, is01_0, is01_1, gd_tt, bd_mk, bv_mk, oc_mk, lt_mk, Bool.false_eq_true, ↓reduceIte, N1, N2, N3, D1, k1]
end CALL
