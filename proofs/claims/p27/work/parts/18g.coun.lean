/-! councils, and the reference's thirty notches -/
theorem lpr {ρ : Type} {F : Nat → Nat → ρ} {R : Nat → ρ} {n : Nat} (last : ∀ g, F (g + 1) n = R n) (step : ∀ g j, j < n → F g (j + 1) = R (j + 1) → F (g + 1) j = R j) : ∀ (k g j : Nat), j + k = n → k < g → F g j = R j := by
  intro k
  induction k with
  | zero =>
    intro g j h1 h2
    obtain ⟨g, rfl⟩ : ∃ g', g = g' + 1 := ⟨g - 1, by omega⟩
    rw [show j = n by omega]; exact last g
  | succ k ih =>
    intro g j h1 h2
    obtain ⟨g, rfl⟩ : ∃ g', g = g' + 1 := ⟨g - 1, by omega⟩
    exact step g j (by omega) (ih g (j + 1) (by omega) (by omega))
def cnN (P : Nat → Bool) : Nat → Int
  | 0 => 0
  | k + 1 => cnN P k + (if P k = true then 1 else 0)
theorem cnN_t {P : Nat → Bool} {k : Nat} (h : P k = true) : cnN P (k + 1) = cnN P k + 1 := by
  show cnN P k + _ = _
  rw [if_pos h]
theorem cnN_f {P : Nat → Bool} {k : Nat} (h : P k = false) : cnN P (k + 1) = cnN P k := by
  show cnN P k + _ = _
  rw [h]; simp
theorem cnN_b (P : Nat → Bool) (k : Nat) : 0 ≤ cnN P k ∧ cnN P k ≤ k := by
  induction k with
  | zero => show (0 : Int) ≤ 0 ∧ (0 : Int) ≤ ((0 : Nat) : Int); omega
  | succ k ih =>
    cases h : P k with
    | true => rw [cnN_t h]; omega
    | false => rw [cnN_f h]; omega
def CK (a0 : Nat) : Prop := ∀ c, c < 3 → kd (a0 + 1 + 5 * c) = 3 ∧ RK (a0 + 1 + 5 * c)
theorem ck_144 : CK 144 := by unfold CK RK; decide +kernel
theorem ck_160 : CK 160 := by unfold CK RK; decide +kernel
theorem ck_dig : ∀ k, k < 3 → CK (177 + 16 * k) := by unfold CK RK; decide +kernel
theorem CK.n {a0 c x : Nat} (h : CK a0) (hc : c < 3) (e : x = a0 + 1 + 5 * c + 3 + 1) : aln x = 10 := by rw [e]; exact (h c hc).2.2
theorem CK.p {a0 c x : Nat} (h : CK a0) (hc : c < 3) (e : x = a0 + 1 + 5 * c + 1 + 1) : aln x = 10 := by rw [e]; exact (h c hc).2.1
theorem by_c {a0 c : Nat} (hc : c < 3) (σ : St) : f_X0_by a0 (iI (c : Int)) σ = some (some (a0 + 1 + 5 * c), σ) := by
  unfold f_X0_by
  rcases (show c = 0 ∨ c = 1 ∨ c = 2 by omega) with rfl | rfl | rfl
  · rw [show a0 + 1 + 5 * 0 = a0 + 1 by omega]
    simp (disch := omega) only [iI_lit, ofNat_iI, iI_add, iI_sub, iI_mul, iI_neg, iI_lt_t, iI_lt_f, iI_le_t, iI_le_f, iI_eq_t, iI_eq_f, iI_div, rm_iI, tc_iI, inB_iI, nz_iI, is01_0, is01_1, gd_tt, bd_mk, bv_mk, oc_mk, lt_mk, Bool.false_eq_true, ↓reduceIte]
  · rw [show a0 + 1 + 5 * 1 = a0 + 6 by omega]
    simp (disch := omega) only [iI_lit, ofNat_iI, iI_add, iI_sub, iI_mul, iI_neg, iI_lt_t, iI_lt_f, iI_le_t, iI_le_f, iI_eq_t, iI_eq_f, iI_div, rm_iI, tc_iI, inB_iI, nz_iI, is01_0, is01_1, gd_tt, bd_mk, bv_mk, oc_mk, lt_mk, Bool.false_eq_true, ↓reduceIte]
  · rw [show a0 + 1 + 5 * 2 = a0 + 11 by omega]
    simp (disch := omega) only [iI_lit, ofNat_iI, iI_add, iI_sub, iI_mul, iI_neg, iI_lt_t, iI_lt_f, iI_le_t, iI_le_f, iI_eq_t, iI_eq_f, iI_div, rm_iI, tc_iI, inB_iI, nz_iI, is01_0, is01_1, gd_tt, bd_mk, bv_mk, oc_mk, lt_mk, Bool.false_eq_true, ↓reduceIte]
/-- the slips that stand -/
def SL (V : Nat → Int) : Nat → Int := fun c => V (41 + c)
def CO (σ : St) (a0 : Nat) (V : Nat → Int) (y : Int) (s : Nat → Int) : Prop := ∀ c : Nat, c < 3 → RG σ (a0 + 1 + 5 * c) V y (s c)
theorem CO.n {σ : St} {a0 : Nat} {V : Nat → Int} {y : Int} {s : Nat → Int} {c f x : Nat} (h : CO σ a0 V y s) (hc : c < 3) (hf : f < 10) (e : x = a0 + 1 + 5 * c + 4) : σ.1 x f = iI (Nt V y (s c) f) := by rw [e]; exact (h c hc).2 f hf
theorem CO.p {σ : St} {a0 : Nat} {V : Nat → Int} {y : Int} {s : Nat → Int} {c f x : Nat} (h : CO σ a0 V y s) (hc : c < 3) (hf : f < (V 0).toNat) (e : x = a0 + 1 + 5 * c + 2) : σ.1 x f = iI (Pr V y (s c) f) := by rw [e]; exact (h c hc).1 f hf
theorem CO.fr {σ τ : St} {a0 lo hi : Nat} {V : Nat → Int} {y : Int} {s : Nat → Int} (h : CO σ a0 V y s) (e : Fr lo hi σ τ) (hc : a0 + 16 ≤ lo ∨ hi ≤ a0) : CO τ a0 V y s := fun c h3 => (h c h3).fr e (by omega)
theorem gather_v {a0 : Nat} {V : Nat → Int} {y : Int} {σ : St} (hK : CK a0) (ha : 19 < a0) (hI : IV V) (hS : RS σ 1 V) (hy : 0 ≤ y ∧ y ≤ 999) : ∃ τ, f_X0_gather a0 1 (iI y) σ = some τ ∧ Fr a0 (a0 + 16) σ τ ∧ CO τ a0 V y (SL V) := by
  have H := wlp (F := fun g (s : Nat × St) => f_X0_gather_l2 g a0 1 (iI y) (iI (s.1 : Int)) s.2) (X := fun τ => some τ) (fun s => 3 - s.1) (fun s => s.1 ≤ 3 ∧ Fr a0 (a0 + 16) σ s.2 ∧ ∀ c : Nat, c < s.1 → RG s.2 (a0 + 1 + 5 * c) V y (SL V c)) (fun τ => Fr a0 (a0 + 16) σ τ ∧ CO τ a0 V y (SL V)) (by
    rintro g ⟨c, τ⟩ ⟨h0, hF, hv⟩
    simp only at h0 hv hF
    rcases (show 3 ≤ c ∨ c < 3 by omega) with h | h
    · refine .inl ⟨τ, ⟨hF, fun d hd => hv d (by omega)⟩, ?_⟩
      show f_X0_gather_b2 _ _ _ _ _ _ = _
      unfold f_X0_gather_b2
      simp (disch := omega) only [iI_lit, ofNat_iI, iI_add, iI_sub, iI_mul, iI_neg, iI_lt_t, iI_lt_f, iI_le_t, iI_le_f, iI_eq_t, iI_eq_f, iI_div, rm_iI, tc_iI, inB_iI, nz_iI, is01_0, is01_1, gd_tt, bd_mk, bv_mk, oc_mk, lt_mk, Bool.false_eq_true, ↓reduceIte]
    · right
      have tS : RS τ 1 V := hS.fr hF (by omega)
      have e0 : ((c : Int)).toNat = c := by omega
      have e1 : (c : Int) + 1 = ((c + 1 : Nat) : Int) := by omega
      have hs : τ.1 (1 + 9 + 1) c = iI (SL V c) := tS.2.2.2.1 c h
      have hsb : -5 ≤ SL V c ∧ SL V c ≤ 5 := hI.2.2.2.1 c h
      obtain ⟨υ, x1, x2, x3⟩ := reckon_v (a0 := a0 + 1 + 5 * c) (s := SL V c) (hK c h).2 (by omega) hI tS hy hsb
      refine ⟨(c + 1, υ), ⟨by simp only; omega, hF.tr (x2.mo (by omega) (by omega)), fun d hd => ?_⟩, by simp only; omega, ?_⟩
      · simp only at hd ⊢
        by_cases hk : d = c
        · rw [hk]; exact x3
        · exact (hv d (by omega)).fr x2 (by omega)
      · show f_X0_gather_b2 _ _ _ _ _ _ = _
        unfold f_X0_gather_b2
        rw [by_c h]
        simp (disch := omega) only [iI_lit, ofNat_iI, iI_add, iI_sub, iI_mul, iI_neg, iI_lt_t, iI_lt_f, iI_le_t, iI_le_f, iI_eq_t, iI_eq_f, iI_div, rm_iI, tc_iI, inB_iI, nz_iI, is01_0, is01_1, gd_tt, bd_mk, bv_mk, oc_mk, lt_mk, Bool.false_eq_true, ↓reduceIte, isN_t (hK c h).1, at_in (c := 1 + 9) (N := 3) rfl, e0, hs, x1, e1])
  obtain ⟨τ, ⟨h1, h2⟩, h3⟩ := H FU (0, σ) ⟨by simp, Fr.rfl, fun g hg => by simp only at hg; omega⟩ (by simp only [FU]; omega)
  exact ⟨τ, h3, h1, h2⟩
def stl (V : Nat → Int) (y : Int) (s : Nat → Int) (f : Nat) : Int := if Nt V y (s 1) f = Nt V y (s 2) f then Nt V y (s 1) f else Nt V y (s 0) f
theorem stl_b (V : Nat → Int) (y : Int) (s : Nat → Int) (f : Nat) : -1 ≤ stl V y s f ∧ stl V y s f ≤ 365 := by
  unfold stl
  split
  · exact Nt_b V y (s 1) f
  · exact Nt_b V y (s 0) f
theorem settledNotch_v {a0 f : Nat} {V : Nat → Int} {y : Int} {s : Nat → Int} {σ : St} (hA : CK a0) (hC : CO σ a0 V y s) (hf : f < 10) : f_X0_settledNotch a0 (iI (f : Int)) σ = some (iI (stl V y s f), σ) := by
  have h0 := hC.n (c := 0) (x := a0 + 1 + 3 + 1) (by omega) hf (by omega)
  have h1 := hC.n (c := 1) (x := a0 + 6 + 3 + 1) (by omega) hf (by omega)
  have h2 := hC.n (c := 2) (x := a0 + 11 + 3 + 1) (by omega) hf (by omega)
  have k0 := at_in (c := a0 + 1 + 3) (N := 10) (hA.n (c := 0) (by omega) (by omega)) (by omega) (i := (f : Int)) (σ := σ) (by omega) (by omega)
  have k1 := at_in (c := a0 + 6 + 3) (N := 10) (hA.n (c := 1) (by omega) (by omega)) (by omega) (i := (f : Int)) (σ := σ) (by omega) (by omega)
  have k2 := at_in (c := a0 + 11 + 3) (N := 10) (hA.n (c := 2) (by omega) (by omega)) (by omega) (i := (f : Int)) (σ := σ) (by omega) (by omega)
  have e0 : ((f : Int)).toNat = f := by omega
  rw [e0] at k0 k1 k2
  rw [h0] at k0
  rw [h1] at k1
  rw [h2] at k2
  have b0 := Nt_b V y (s 0) f
  have b1 := Nt_b V y (s 1) f
  have b2 := Nt_b V y (s 2) f
  unfold f_X0_settledNotch stl
  by_cases c : Nt V y (s 1) f = Nt V y (s 2) f
  · simp (disch := omega) only [iI_lit, ofNat_iI, iI_add, iI_sub, iI_mul, iI_neg, iI_lt_t, iI_lt_f, iI_le_t, iI_le_f, iI_eq_t, iI_eq_f, iI_div, rm_iI, tc_iI, inB_iI, nz_iI, is01_0, is01_1, gd_tt, bd_mk, bv_mk, oc_mk, lt_mk, Bool.false_eq_true, ↓reduceIte, k0, k1, k2, c]
  · simp (disch := omega) only [iI_lit, ofNat_iI, iI_add, iI_sub, iI_mul, iI_neg, iI_lt_t, iI_lt_f, iI_le_t, iI_le_f, iI_eq_t, iI_eq_f, iI_div, rm_iI, tc_iI, inB_iI, nz_iI, is01_0, is01_1, gd_tt, bd_mk, bv_mk, oc_mk, lt_mk, Bool.false_eq_true, ↓reduceIte, k0, k1, k2, c]
def qrl (V : Nat → Int) (y : Int) (s : Nat → Int) (f : Nat) : Bool := decide (¬ (Nt V y (s 0) f = Nt V y (s 1) f ∧ Nt V y (s 0) f = Nt V y (s 2) f))
theorem qrl_t {V : Nat → Int} {y : Int} {s : Nat → Int} {f : Nat} (h : ¬ (Nt V y (s 0) f = Nt V y (s 1) f ∧ Nt V y (s 0) f = Nt V y (s 2) f)) : qrl V y s f = true := decide_eq_true h
theorem qrl_f {V : Nat → Int} {y : Int} {s : Nat → Int} {f : Nat} (h : Nt V y (s 0) f = Nt V y (s 1) f ∧ Nt V y (s 0) f = Nt V y (s 2) f) : qrl V y s f = false := decide_eq_false (fun h' => h' h)
theorem quarrelCount_v {a0 n : Nat} {V : Nat → Int} {y : Int} {s : Nat → Int} {σ : St} (hA : CK a0) (hC : CO σ a0 V y s) (hn : n ≤ 10) : f_X0_quarrelCount a0 (iI (n : Int)) σ = some (iI (cnN (qrl V y s) n), σ) := by
  have H := lpr (F := fun g j => f_X0_quarrelCount_l4 g a0 (iI (n : Int)) (iI (cnN (qrl V y s) j)) (iI (j : Int)) σ) (R := fun _ => some (iI (cnN (qrl V y s) n), σ)) (n := n) (by
    intro g
    show f_X0_quarrelCount_b4 _ _ _ _ _ _ = _
    unfold f_X0_quarrelCount_b4
    simp (disch := omega) only [iI_lit, ofNat_iI, iI_add, iI_sub, iI_mul, iI_neg, iI_lt_t, iI_lt_f, iI_le_t, iI_le_f, iI_eq_t, iI_eq_f, iI_div, rm_iI, tc_iI, inB_iI, nz_iI, is01_0, is01_1, gd_tt, bd_mk, bv_mk, oc_mk, lt_mk, Bool.false_eq_true, ↓reduceIte]) (by
    intro g j hj h
    try simp only at h
    have h0 := hC.n (c := 0) (f := j) (x := a0 + 1 + 3 + 1) (by omega) (by omega) (by omega)
    have h1 := hC.n (c := 1) (f := j) (x := a0 + 6 + 3 + 1) (by omega) (by omega) (by omega)
    have h2 := hC.n (c := 2) (f := j) (x := a0 + 11 + 3 + 1) (by omega) (by omega) (by omega)
    have k0 := at_in (c := a0 + 1 + 3) (N := 10) (hA.n (c := 0) (by omega) (by omega)) (by omega) (i := (j : Int)) (σ := σ) (by omega) (by omega)
    have k1 := at_in (c := a0 + 6 + 3) (N := 10) (hA.n (c := 1) (by omega) (by omega)) (by omega) (i := (j : Int)) (σ := σ) (by omega) (by omega)
    have k2 := at_in (c := a0 + 11 + 3) (N := 10) (hA.n (c := 2) (by omega) (by omega)) (by omega) (i := (j : Int)) (σ := σ) (by omega) (by omega)
    have e0 : ((j : Int)).toNat = j := by omega
    have e1 : (j : Int) + 1 = ((j + 1 : Nat) : Int) := by omega
    rw [e0] at k0 k1 k2
    rw [h0] at k0
    rw [h1] at k1
    rw [h2] at k2
    have b0 := Nt_b V y (s 0) j
    have b1 := Nt_b V y (s 1) j
    have b2 := Nt_b V y (s 2) j
    show f_X0_quarrelCount_b4 _ _ _ _ _ _ = _
    unfold f_X0_quarrelCount_b4
    by_cases c1 : Nt V y (s 0) j = Nt V y (s 1) j
    · by_cases c2 : Nt V y (s 0) j = Nt V y (s 2) j
      · rw [cnN_f (qrl_f ⟨c1, c2⟩)] at h
        simp (disch := omega) only [iI_lit, ofNat_iI, iI_add, iI_sub, iI_mul, iI_neg, iI_lt_t, iI_lt_f, iI_le_t, iI_le_f, iI_eq_t, iI_eq_f, iI_div, rm_iI, tc_iI, inB_iI, nz_iI, is01_0, is01_1, gd_tt, bd_mk, bv_mk, oc_mk, lt_mk, Bool.false_eq_true, ↓reduceIte, k0, k1, k2, c1, c2, e1, h]
        all_goals exact h
      · rw [cnN_t (qrl_t (fun q => c2 q.2))] at h
        simp (disch := omega) only [iI_lit, ofNat_iI, iI_add, iI_sub, iI_mul, iI_neg, iI_lt_t, iI_lt_f, iI_le_t, iI_le_f, iI_eq_t, iI_eq_f, iI_div, rm_iI, tc_iI, inB_iI, nz_iI, is01_0, is01_1, gd_tt, bd_mk, bv_mk, oc_mk, lt_mk, Bool.false_eq_true, ↓reduceIte, k0, k1, k2, c1, c2, e1, h]
        all_goals exact h
    · rw [cnN_t (qrl_t (fun q => c1 q.1))] at h
      simp (disch := omega) only [iI_lit, ofNat_iI, iI_add, iI_sub, iI_mul, iI_neg, iI_lt_t, iI_lt_f, iI_le_t, iI_le_f, iI_eq_t, iI_eq_f, iI_div, rm_iI, tc_iI, inB_iI, nz_iI, is01_0, is01_1, gd_tt, bd_mk, bv_mk, oc_mk, lt_mk, Bool.false_eq_true, ↓reduceIte, k0, k1, k2, c1, e1, h]
      all_goals exact h) n FU 0 (by omega) (by simp only [FU]; omega)
  exact H
