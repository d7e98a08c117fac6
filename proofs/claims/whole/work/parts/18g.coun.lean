/-! councils, and the reference's thirty notches -/
theorem lpr {ρ : Type} {F : Nat → Nat → ρ} {R : Nat → ρ} {n : Nat} (last : ∀ g, F (g + 1) n = R n) (step : ∀ g j, j < n → F g (j + 1) = R (j + 1) → F (g + 1) j = R j) : ∀ (k g j : Nat), j + k = n → k < g → F g j = R j := by
  intro k
  induction k with
  | zero =>
    intro g j h1 h2
    obtain ⟨g, rfl⟩ : ∃ g', g = g' + 1 := ⟨g - 1, by omega⟩
    rw [show j = n by omega]; exact last g
  | succ k ih =>
    intro g j h1 h2
    obtain ⟨g, rfl⟩ : ∃ g', g = g' + 1 := ⟨g - 1, by omega⟩
    exact step g j (by omega) (ih g (j + 1) (by omega) (by omega))
def cnN (P : Nat → Bool) : Nat → Int
  | 0 => 0
  | k + 1 => cnN P k + (if P k = true then 1 else 0)
theorem cnN_t {P : Nat → Bool} {k : Nat} (h : P k = true) : cnN P (k + 1) = cnN P k + 1 := by
  show cnN P k + _ = _
  rw [if_pos h]
theorem cnN_f {P : Nat → Bool} {k : Nat} (h : P k = false) : cnN P (k + 1) = cnN P k := by
  show cnN P k + _ = _
  rw [h]; simp
theorem cnN_b (P : Nat → Bool) (k : Nat) : 0 ≤ cnN P k ∧ cnN P k ≤ k := by
  induction k with
  | zero => show (0 : Int) ≤ 0 ∧ (0 : Int) ≤ ((0 : Nat) : Int); omega
  | succ k ih =>
    cases h : P k with
    | true => rw [cnN_t h]; omega
    | false => rw [cnN_f h]; omega
def CK (a0 : Nat) : Prop := ∀ c, c < 3 → kd (a0 + 1 + 5 * c) = 3 ∧ RK (a0 + 1 + 5 * c)
theorem ck_144 : CK 144 := by unfold CK RK; decide +kernel
theorem ck_160 : CK 160 := by unfold CK RK; decide +kernel
theorem ck_dig : ∀ k, k < 3 → CK (177 + 16 * k) := by unfold CK RK; decide +kernel
theorem CK.n {a0 c x : Nat} (h : CK a0) (hc : c < 3) (e : x = a0 + 1 + 5 * c + 3 + 1) : aln x = 10 := by rw [e]; exact (h c hc).2.2
theorem CK.p {a0 c x : Nat} (h : CK a0) (hc : c < 3) (e : x = a0 + 1 + 5 * c + 1 + 1) : aln x = 10 := by rw [e]; exact (h c hc).2.1
theorem by_c {a0 c : Nat} (hc : c < 3) (σ : St) : f_X0_by a0 (iI (c : Int)) σ = some (some (a0 + 1 + 5 * c), σ) := by
  unfold f_X0_by
  rcases (show c = 0 ∨ c = 1 ∨ c = 2 by omega) with rfl | rfl | rfl
  · rw [show a0 + 1 + 5 * 0 = a0 + 1 by omega]
    simp (disch := omega) only [iI_lit, ofNat_iI, iI_add, iI_sub, iI_mul, iI_neg, iI_lt_t, iI_lt_f, iI_le_t, iI_le_f, iI_eq_t, iI_eq_f, iI_div, rm_iI, tc_iI, inB_iI, nz_iI, is01_0, is01_1, gd_tt, bd_mk, bv_mk, oc_mk, lt_mk, Bool.false_eq_true, ↓reduceIte]
  · rw [show a0 + 1 + 5 * 1 = a0 + 6 by omega]
    simp (disch := omega) only [iI_lit, ofNat_iI, iI_add, iI_sub, iI_mul, iI_neg, iI_lt_t, iI_lt_f, iI_le_t, iI_le_f, iI_eq_t, iI_eq_f, iI_div, rm_iI, tc_iI, inB_iI, nz_iI, is01_0, is01_1, gd_tt, bd_mk, bv_mk, oc_mk, lt_mk, Bool.false_eq_true, ↓reduceIte]
  · rw [show a0 + 1 + 5 * 2 = a0 + 11 by omega]
    simp (disch := omega) only [iI_lit, ofNat_iI, iI_add, iI_sub, iI_mul, iI_neg, iI_lt_t, iI_lt_f, iI_le_t, iI_le_f, iI_eq_t, iI_eq_f, iI_div, rm_iI, tc_iI, inB_iI, nz_iI, is01_0, is01_1, gd_tt, bd_mk, bv_mk, oc_mk, lt_mk, Bool.false_eq_true, ↓reduceIte]
/-- the slips that stand -/
def SL (V : Nat → Int) : Nat → Int := fun c => V (41 + c)
def CO (σ : St) (a0 : Nat) (V : Nat → Int) (y : Int) (s : Nat → Int) : Prop := ∀ c : Nat, c < 3 → RG σ (a0 + 1 + 5 * c) V y (s c)
theorem CO.n {σ : St} {a0 : Nat} {V : Nat → Int} {y : Int} {s : Nat → Int} {c f x : Nat} (h : CO σ a0 V y s) (hc : c < 3) (hf : f < 10) (e : x = a0 + 1 + 5 * c + 4) : σ.1 x f = iI (Nt V y (s c) f) := by rw [e]; exact (h c hc).2 f hf
theorem CO.p {σ : St} {a0 : Nat} {V : Nat → Int} {y : Int} {s : Nat → Int} {c f x : Nat} (h : CO σ a0 V y s) (hc : c < 3) (hf : f < (V 0).toNat) (e : x = a0 + 1 + 5 * c + 2) : σ.1 x f = iI (Pr V y (s c) f) := by rw [e]; exact (h c hc).1 f hf
theorem CO.fr {σ τ : St} {a0 lo hi : Nat} {V : Nat → Int} {y : Int} {s : Nat → Int} (h : CO σ a0 V y s) (e : Fr lo hi σ τ) (hc : a0 + 16 ≤ lo ∨ hi ≤ a0) : CO τ a0 V y s := fun c h3 => (h c h3).fr e (by omega)
theorem gather_v {a0 : Nat} {V : Nat → Int} {y : Int} {σ : St} (hK : CK a0) (ha : 19 < a0) (hI : IV V) (hS : RS σ 1 V) (hy : 0 ≤ y ∧ y ≤ 999) : ∃ τ, f_X0_gather a0 1 (iI y) σ = some τ ∧ Fr a0 (a0 + 16) σ τ ∧ CO τ a0 V y (SL V) := by
  have H := wlp (F := fun g (s : Nat × St) => f_X0_gather_l2 g a0 1 (iI y) (iI (s.1 : Int)) s.2) (X := fun τ => some τ) (fun s => 3 - s.1) (fun s => s.1 ≤ 3 ∧ Fr a0 (a0 + 16) σ s.2 ∧ ∀ c : Nat, c < s.1 → RG s.2 (a0 + 1 + 5 * c) V y (SL V c)) (fun τ => Fr a0 (a0 + 16) σ τ ∧ CO τ a0 V y (SL V)) (by
    rintro g ⟨c, τ⟩ ⟨h0, hF, hv⟩
    simp only at h0 hv hF
    rcases (show 3 ≤ c ∨ c < 3 by omega) with h | h
    · refine .inl ⟨τ, ⟨hF, fun d hd => hv d (by omega)⟩, ?_⟩
      show f_X0_gather_b2 _ _ _ _ _ _ = _
      unfold f_X0_gather_b2
      simp (disch := omega) only [iI_lit, ofNat_iI, iI_add, iI_sub, iI_mul, iI_neg, iI_lt_t, iI_lt_f, iI_le_t, iI_le_f, iI_eq_t, iI_eq_f, iI_div, rm_iI, tc_iI, inB_iI, nz_iI, is01_0, is01_1, gd_tt, bd_mk, bv_mk, oc_mk, lt_mk, Bool.false_eq_true, ↓reduceIte]
    · right
      have tS : RS τ 1 V := hS.fr hF (by omega)
      have e0 : ((c : Int)).toNat = c := by omega
      have e1 : (c : Int) + 1 = ((c + 1 : Nat) : Int) := by omega
      have hs : τ.1 (1 + 9 + 1) c = iI (SL V c) := tS.2.2.2.1 c h
      have hsb : -5 ≤ SL V c ∧ SL V c ≤ 5 := hI.2.2.2.1 c h
      obtain ⟨υ, x1, x2, x3⟩ := reckon_v (a0 := a0 + 1 + 5 * c) (s := SL V c) (hK c h).2 (by omega) hI tS hy hsb
      refine ⟨(c + 1, υ), ⟨by simp only; omega, hF.tr (x2.mo (by omega) (by omega)), fun d hd => ?_⟩, by simp only; omega, ?_⟩
      · simp only at hd ⊢
        by_cases hk : d = c
        · rw [hk]; exact x3
        · exact (hv d (by omega)).fr x2 (by omega)
      · show f_X0_gather_b2 _ _ _ _ _ _ = _
        unfold f_X0_gather_b2
        rw [by_c h]
        simp (disch := omega) only [iI_lit, ofNat_iI, iI_add, iI_sub, iI_mul, iI_neg, iI_lt_t, iI_lt_f, iI_le_t, iI_le_f, iI_eq_t, iI_eq_f, iI_div, rm_iI, tc_iI, inB_iI, nz_iI, is01_0, is01_1, gd_tt, bd_mk, bv_mk, oc_mk, lt_mk, Bool.false_eq_true, ↓reduceIte, isN_t (hK c h).1, at_in (c := 1 + 9) (N := 3) rfl, e0, hs, x1, e1])
  obtain ⟨τ, ⟨h1, h2⟩, h3⟩ := H FU (0, σ) ⟨by simp, Fr.rfl, fun g hg => by simp only at hg; omega⟩ (by simp only [FU]; omega)
  exact ⟨τ, h3, h1, h2⟩
def stl (V : Nat → Int) (y : Int) (s : Nat → Int) (f : Nat) : Int := if Nt V y (s 1) f = Nt V y (s 2) f then Nt V y (s 1) f else Nt V y (s 0) f
theorem stl_b (V : Nat → Int) (y : Int) (s : Nat → Int) (f : Nat) : -1 ≤ stl V y s f ∧ stl V y s f ≤ 365 := by
  unfold stl
  split
  · exact Nt_b V y (s 1) f
  · exact Nt_b V y (s 0) f
theorem settledNotch_v {a0 f : Nat} {V : Nat → Int} {y : Int} {s : Nat → Int} {σ : St} (hA : CK a0) (hC : CO σ a0 V y s) (hf : f < 10) : f_X0_settledNotch a0 (iI (f : Int)) σ = some (iI (stl V y s f), σ) := by
  have h0 := hC.n (c := 0) (x := a0 + 1 + 3 + 1) (by omega) hf (by omega)
  have h1 := hC.n (c := 1) (x := a0 + 6 + 3 + 1) (by omega) hf (by omega)
  have h2 := hC.n (c := 2) (x := a0 + 11 + 3 + 1) (by omega) hf (by omega)
  have k0 := at_in (c := a0 + 1 + 3) (N := 10) (hA.n (c := 0) (by omega) (by omega)) (by omega) (i := (f : Int)) (σ := σ) (by omega) (by omega)
  have k1 := at_in (c := a0 + 6 + 3) (N := 10) (hA.n (c := 1) (by omega) (by omega)) (by omega) (i := (f : Int)) (σ := σ) (by omega) (by omega)
  have k2 := at_in (c := a0 + 11 + 3) (N := 10) (hA.n (c := 2) (by omega) (by omega)) (by omega) (i := (f : Int)) (σ := σ) (by omega) (by omega)
  have e0 : ((f : Int)).toNat = f := by omega
  rw [e0] at k0 k1 k2
  rw [h0] at k0
  rw [h1] at k1
  rw [h2] at k2
  have b0 := Nt_b V y (s 0) f
  have b1 := Nt_b V y (s 1) f
  have b2 := Nt_b V y (s 2) f
  unfold f_X0_settledNotch stl
  by_cases c : Nt V y (s 1) f = Nt V y (s 2) f
  · simp (disch := omega) only [iI_lit, ofNat_iI, iI_add, iI_sub, iI_mul, iI_neg, iI_lt_t, iI_lt_f, iI_le_t, iI_le_f, iI_eq_t, iI_eq_f, iI_div, rm_iI, tc_iI, inB_iI, nz_iI, is01_0, is01_1, gd_tt, bd_mk, bv_mk, oc_mk, lt_mk, Bool.false_eq_true, ↓reduceIte, k0, k1, k2, c]
  · simp (disch := omega) only [iI_lit, ofNat_iI, iI_add, iI_sub, iI_mul, iI_neg, iI_lt_t, iI_lt_f, iI_le_t, iI_le_f, iI_eq_t, iI_eq_f, iI_div, rm_iI, tc_iI, inB_iI, nz_iI, is01_0, is01_1, gd_tt, bd_mk, bv_mk, oc_mk, lt_mk, Bool.false_eq_true, ↓reduceIte, k0, k1, k2, c]
def qrl (V : Nat → Int) (y : Int) (s : Nat → Int) (f : Nat) : Bool := decide (¬ (Nt V y (s 0) f = Nt V y (s 1) f ∧ Nt V y (s 0) f = Nt V y (s 2) f))
theorem qrl_t {V : Nat → Int} {y : Int} {s : Nat → Int} {f : Nat} (h : ¬ (Nt V y (s 0) f = Nt V y (s 1) f ∧ Nt V y (s 0) f = Nt V y (s 2) f)) : qrl V y s f = true := decide_eq_true h
theorem qrl_f {V : Nat → Int} {y : Int} {s : Nat → Int} {f : Nat} (h : Nt V y (s 0) f = Nt V y (s 1) f ∧ Nt V y (s 0) f = Nt V y (s 2) f) : qrl V y s f = false := decide_eq_false (fun h' => h' h)
theorem quarrelCount_v {a0 n : Nat} {V : Nat → Int} {y : Int} {s : Nat → Int} {σ : St} (hA : CK a0) (hC : CO σ a0 V y s) (hn : n ≤ 10) : f_X0_quarrelCount a0 (iI (n : Int)) σ = some (iI (cnN (qrl V y s) n), σ) := by
  have H := lpr (F := fun g j => f_X0_quarrelCount_l4 g a0 (iI (n : Int)) (iI (cnN (qrl V y s) j)) (iI (j : Int)) σ) (R := fun _ => some (iI (cnN (qrl V y s) n), σ)) (n := n) (by
    intro g
    show f_X0_quarrelCount_b4 _ _ _ _ _ _ = _
    unfold f_X0_quarrelCount_b4
    simp (disch := omega) only [iI_lit, ofNat_iI, iI_add, iI_sub, iI_mul, iI_neg, iI_lt_t, iI_lt_f, iI_le_t, iI_le_f, iI_eq_t, iI_eq_f, iI_div, rm_iI, tc_iI, inB_iI, nz_iI, is01_0, is01_1, gd_tt, bd_mk, bv_mk, oc_mk, lt_mk, Bool.false_eq_true, ↓reduceIte]) (by
    intro g j hj h
    try simp only at h
    have h0 := hC.n (c := 0) (f := j) (x := a0 + 1 + 3 + 1) (by omega) (by omega) (by omega)
    have h1 := hC.n (c := 1) (f := j) (x := a0 + 6 + 3 + 1) (by omega) (by omega) (by omega)
    have h2 := hC.n (c := 2) (f := j) (x := a0 + 11 + 3 + 1) (by omega) (by omega) (by omega)
    have k0 := at_in (c := a0 + 1 + 3) (N := 10) (hA.n (c := 0) (by omega) (by omega)) (by omega) (i := (j : Int)) (σ := σ) (by omega) (by omega)
    have k1 := at_in (c := a0 + 6 + 3) (N := 10) (hA.n (c := 1) (by omega) (by omega)) (by omega) (i := (j : Int)) (σ := σ) (by omega) (by omega)
    have k2 := at_in (c := a0 + 11 + 3) (N := 10) (hA.n (c := 2) (by omega) (by omega)) (by omega) (i := (j : Int)) (σ := σ) (by omega) (by omega)
    have e0 : ((j : Int)).toNat = j := by omega
    have e1 : (j : Int) + 1 = ((j + 1 : Nat) : Int) := by omega
    rw [e0] at k0 k1 k2
    rw [h0] at k0
    rw [h1] at k1
    rw [h2] at k2
    have b0 := Nt_b V y (s 0) j
    have b1 := Nt_b V y (s 1) j
    have b2 := Nt_b V y (s 2) j
    show f_X0_quarrelCount_b4 _ _ _ _ _ _ = _
    unfold f_X0_quarrelCount_b4
    by_cases c1 : Nt V y (s 0) j = Nt V y (s 1) j
    · by_cases c2 : Nt V y (s 0) j = Nt V y (s 2) j
      · rw [cnN_f (qrl_f ⟨c1, c2⟩)] at h
        simp (disch := omega) only [iI_lit, ofNat_iI, iI_add, iI_sub, iI_mul, iI_neg, iI_lt_t, iI_lt_f, iI_le_t, iI_le_f, iI_eq_t, iI_eq_f, iI_div, rm_iI, tc_iI, inB_iI, nz_iI, is01_0, is01_1, gd_tt, bd_mk, bv_mk, oc_mk, lt_mk, Bool.false_eq_true, ↓reduceIte, k0, k1, k2, c1, c2, e1, h]
        all_goals exact h
      · rw [cnN_t (qrl_t (fun q => c2 q.2))] at h
        simp (disch := omega) only [iI_lit, ofNat_iI, iI_add, iI_sub, iI_mul, iI_neg, iI_lt_t, iI_lt_f, iI_le_t, iI_le_f, iI_eq_t, iI_eq_f, iI_div, rm_iI, tc_iI, inB_iI, nz_iI, is01_0, is01_1, gd_tt, bd_mk, bv_mk, oc_mk, lt_mk, Bool.false_eq_true, ↓reduceIte, k0, k1, k2, c1, c2, e1, h]
        all_goals exact h
    · rw [cnN_t (qrl_t (fun q => c1 q.1))] at h
      simp (disch := omega) only [iI_lit, ofNat_iI, iI_add, iI_sub, iI_mul, iI_neg, iI_lt_t, iI_lt_f, iI_le_t, iI_le_f, iI_eq_t, iI_eq_f, iI_div, rm_iI, tc_iI, inB_iI, nz_iI, is01_0, is01_1, gd_tt, bd_mk, bv_mk, oc_mk, lt_mk, Bool.false_eq_true, ↓reduceIte, k0, k1, k2, c1, e1, h]
      all_goals exact h) n FU 0 (by omega) (by simp only [FU]; omega)
  exact H
/-! the same of the reference -/
def MA (σ : St) (V : Nat → Int) (y : Int) (s : Nat → Int) : Prop := ∀ c : Nat, c < 3 → ∀ g : Nat, g < (V 0).toNat → σ.1 232 (10 * c + g) = iI (Nt V y (s c) g)
theorem MA.at {σ : St} {V : Nat → Int} {y : Int} {s : Nat → Int} (h : MA σ V y s) {c g : Nat} {x : Int} (hc : c < 3) (hg : (g : Int) < V 0) (e : x = 10 * c + g) : σ.1 232 x.toNat = iI (Nt V y (s c) g) := by
  have : x.toNat = 10 * c + g := by omega
  rw [this]; exact h c hc g (by omega)
theorem layAll_in {K2 : Int32 → Int32 → St → Option St} {V : Nat → Int} {y : Int32} {s : Int} {ys : Int} {σ : St} {c n : Nat} (hM : RMv σ V) (hI : IV V) (hn : V 0 = (n : Int)) (hc : c < 3) (hG : MG σ V ys s) : ∃ τ, (Fr 232 233 σ τ ∧ (∀ g : Nat, g < n → τ.1 232 (10 * c + g) = iI (Nt V ys s g)) ∧ ∀ k, k < 10 * c → τ.1 232 k = σ.1 232 k) ∧ f_X7_layAll_l23 K2 FU y (iI (c : Int)) (iI ((0 : Nat) : Int)) σ = K2 y (iI ((c + 1 : Nat) : Int)) τ := by
  have hn10 : n ≤ 10 := by have := hI.1; omega
  have e2 : (c : Int) + 1 = ((c + 1 : Nat) : Int) := by omega
  have H := wlp (F := fun g (q : Nat × St) => f_X7_layAll_l23 K2 g y (iI (c : Int)) (iI (q.1 : Int)) q.2) (X := fun τ => K2 y (iI ((c + 1 : Nat) : Int)) τ) (fun q => n - q.1) (fun q => q.1 ≤ n ∧ Fr 232 233 σ q.2 ∧ (∀ g : Nat, g < q.1 → q.2.1 232 (10 * c + g) = iI (Nt V ys s g)) ∧ ∀ k, k < 10 * c → q.2.1 232 k = σ.1 232 k) (fun τ => Fr 232 233 σ τ ∧ (∀ g : Nat, g < n → τ.1 232 (10 * c + g) = iI (Nt V ys s g)) ∧ ∀ k, k < 10 * c → τ.1 232 k = σ.1 232 k) (by
    rintro g ⟨f, τ⟩ ⟨h0, hF, hv, hw⟩
    simp only at h0 hv hF hw
    have m0 := (hM.fr hF (by omega)) 0 (by omega)
    rw [hn] at m0
    have e0 : ((f : Int)).toNat = f := by omega
    have e1 : (f : Int) + 1 = ((f + 1 : Nat) : Int) := by omega
    rcases (show n ≤ f ∨ f < n by omega) with h | h
    · refine .inl ⟨τ, ⟨hF, fun d hd => hv d (by omega), hw⟩, ?_⟩
      show f_X7_layAll_b23 _ _ _ _ _ _ = _
      unfold f_X7_layAll_b23
      simp (disch := omega) only [iI_lit, ofNat_iI, iI_add, iI_sub, iI_mul, iI_neg, iI_lt_t, iI_lt_f, iI_le_t, iI_le_f, iI_eq_t, iI_eq_f, iI_div, rm_iI, tc_iI, inB_iI, nz_iI, is01_0, is01_1, gd_tt, bd_mk, bv_mk, oc_mk, lt_mk, Bool.false_eq_true, ↓reduceIte, Int.reduceToNat, m0, e2]
    · right
      have tg : τ.1 230 f = iI (Nt V ys s f) := by rw [hF.at (by omega)]; exact hG.2 f (by omega)
      have e3 : (10 * (c : Int) + (f : Int)).toNat = 10 * c + f := by omega
      refine ⟨(f + 1, sI τ 232 (10 * c + f) (iI (Nt V ys s f))), ⟨by simp only; omega, hF.tr (Fr.sI (by omega) (by omega)), fun d hd => ?_, fun k hk => ?_⟩, by simp only; omega, ?_⟩
      · simp only at hd ⊢
        by_cases hk : d = f
        · rw [hk, sI_hit]
        · rw [sI_k (by omega)]; exact hv d (by omega)
      · simp only
        rw [sI_k (by omega)]; exact hw k hk
      · show f_X7_layAll_b23 _ _ _ _ _ _ = _
        unfold f_X7_layAll_b23
        simp (disch := omega) only [iI_lit, ofNat_iI, iI_add, iI_sub, iI_mul, iI_neg, iI_lt_t, iI_lt_f, iI_le_t, iI_le_f, iI_eq_t, iI_eq_f, iI_div, rm_iI, tc_iI, inB_iI, nz_iI, is01_0, is01_1, gd_tt, bd_mk, bv_mk, oc_mk, lt_mk, Bool.false_eq_true, ↓reduceIte, Int.reduceToNat, m0, e0, e3, tg, e1])
  exact H FU (0, σ) ⟨by simp, Fr.rfl, fun g hg => by simp only at hg; omega, fun k hk => rfl⟩ (by simp only [FU]; omega)
theorem layAll_v {V : Nat → Int} {y : Int} {σ : St} (hM : RMv σ V) (hI : IV V) (hy : 0 ≤ y ∧ y ≤ 999) : ∃ τ, f_X7_layAll (iI y) σ = some τ ∧ Fr 229 233 σ τ ∧ MA τ V y (SL V) := by
  obtain ⟨n, hn⟩ : ∃ n, n = (V 0).toNat := ⟨_, rfl⟩
  have hnV : V 0 = (n : Int) := by have := hI.1; omega
  have hn10 : n ≤ 10 := by have := hI.1; omega
  have H := wlp (F := fun g (s : Nat × St) => f_X7_layAll_l2 g (iI y) (iI (s.1 : Int)) s.2) (X := fun τ => some τ) (fun s => 3 - s.1) (fun s => s.1 ≤ 3 ∧ Fr 229 233 σ s.2 ∧ ∀ c : Nat, c < s.1 → ∀ g : Nat, g < n → s.2.1 232 (10 * c + g) = iI (Nt V y (SL V c) g)) (fun τ => Fr 229 233 σ τ ∧ MA τ V y (SL V)) (by
    rintro g ⟨c, τ⟩ ⟨h0, hF, hv⟩
    simp only at h0 hv hF
    have tM : RMv τ V := hM.fr hF (by omega)
    rcases (show 3 ≤ c ∨ c < 3 by omega) with h | h
    · refine .inl ⟨τ, ⟨hF, fun d hd g hg => hv d (by omega) g (by omega)⟩, ?_⟩
      show f_X7_layAll_b2 _ _ _ _ = _
      unfold f_X7_layAll_b2
      simp (disch := omega) only [iI_lit, ofNat_iI, iI_add, iI_sub, iI_mul, iI_neg, iI_lt_t, iI_lt_f, iI_le_t, iI_le_f, iI_eq_t, iI_eq_f, iI_div, rm_iI, tc_iI, inB_iI, nz_iI, is01_0, is01_1, gd_tt, bd_mk, bv_mk, oc_mk, lt_mk, Bool.false_eq_true, ↓reduceIte]
    · right
      have hsb : -5 ≤ SL V c ∧ SL V c ≤ 5 := hI.2.2.2.1 c h
      have r1 := tM.rd (e := 41 + (c : Int)) (k := 41 + c) (by omega) (by omega)
      rw [show V (41 + c) = SL V c from rfl] at r1
      obtain ⟨υ, x1, x2, x3⟩ := lay_v (s := SL V c) tM hI hy hsb
      obtain ⟨ω, ⟨y1, y2, y3⟩, y4⟩ := layAll_in (K2 := f_X7_layAll_l2 g) (y := iI y) (tM.fr x2 (by omega)) hI hnV h x3
      refine ⟨(c + 1, ω), ⟨by simp only; omega, hF.tr ((x2.mo (by omega) (by omega)).tr (y1.mo (by omega) (by omega))), fun d hd g hg => ?_⟩, by simp only; omega, ?_⟩
      · simp only at hd ⊢
        by_cases hk : d = c
        · rw [hk]; exact y2 g hg
        · rw [y3 _ (by omega), x2.at (by omega)]; exact hv d (by omega) g hg
      · show f_X7_layAll_b2 _ _ _ _ = _
        unfold f_X7_layAll_b2
        simp (disch := omega) only [iI_lit, ofNat_iI, iI_add, iI_sub, iI_mul, iI_neg, iI_lt_t, iI_lt_f, iI_le_t, iI_le_f, iI_eq_t, iI_eq_f, iI_div, rm_iI, tc_iI, inB_iI, nz_iI, is01_0, is01_1, gd_tt, bd_mk, bv_mk, oc_mk, lt_mk, Bool.false_eq_true, ↓reduceIte, r1, x1]
        exact y4)
  obtain ⟨τ, ⟨h1, h2⟩, h3⟩ := H FU (0, σ) ⟨by simp, Fr.rfl, fun g hg => by simp only at hg; omega⟩ (by simp only [FU]; omega)
  exact ⟨τ, h3, h1, h2⟩
theorem settledBy_v {f : Nat} {V : Nat → Int} {y : Int} {s : Nat → Int} {σ : St} (hI : IV V) (hA : MA σ V y s) (hf : (f : Int) < V 0) : f_X7_settledBy (iI (f : Int)) σ = some (iI (stl V y s f), σ) := by
  have hn10 := hI.1
  have h0 := hA.at (c := 0) (g := f) (x := (f : Int)) (by omega) hf (by omega)
  have h1 := hA.at (c := 1) (g := f) (x := 10 + (f : Int)) (by omega) hf (by omega)
  have h2 := hA.at (c := 2) (g := f) (x := 20 + (f : Int)) (by omega) hf (by omega)
  have b0 := Nt_b V y (s 0) f
  have b1 := Nt_b V y (s 1) f
  have b2 := Nt_b V y (s 2) f
  unfold f_X7_settledBy stl
  by_cases c : Nt V y (s 1) f = Nt V y (s 2) f
  · simp (disch := omega) only [iI_lit, ofNat_iI, iI_add, iI_sub, iI_mul, iI_neg, iI_lt_t, iI_lt_f, iI_le_t, iI_le_f, iI_eq_t, iI_eq_f, iI_div, rm_iI, tc_iI, inB_iI, nz_iI, is01_0, is01_1, gd_tt, bd_mk, bv_mk, oc_mk, lt_mk, Bool.false_eq_true, ↓reduceIte, h0, h1, h2, c]
  · simp (disch := omega) only [iI_lit, ofNat_iI, iI_add, iI_sub, iI_mul, iI_neg, iI_lt_t, iI_lt_f, iI_le_t, iI_le_f, iI_eq_t, iI_eq_f, iI_div, rm_iI, tc_iI, inB_iI, nz_iI, is01_0, is01_1, gd_tt, bd_mk, bv_mk, oc_mk, lt_mk, Bool.false_eq_true, ↓reduceIte, h0, h1, h2, c]
theorem quarrelsNow_v {n : Nat} {V : Nat → Int} {y : Int} {s : Nat → Int} {σ : St} (hI : IV V) (hM : RMv σ V) (hA : MA σ V y s) (hn : V 0 = (n : Int)) : f_X7_quarrelsNow σ = some (iI (cnN (qrl V y s) n), σ) := by
  have hn10 := hI.1
  have m0 := hM 0 (by omega)
  rw [hn] at m0
  have H := lpr (F := fun g j => f_X7_quarrelsNow_l4 g (iI (cnN (qrl V y s) j)) (iI (j : Int)) σ) (R := fun _ => some (iI (cnN (qrl V y s) n), σ)) (n := n) (by
    intro g
    show f_X7_quarrelsNow_b4 _ _ _ _ = _
    unfold f_X7_quarrelsNow_b4
    simp (disch := omega) only [iI_lit, ofNat_iI, iI_add, iI_sub, iI_mul, iI_neg, iI_lt_t, iI_lt_f, iI_le_t, iI_le_f, iI_eq_t, iI_eq_f, iI_div, rm_iI, tc_iI, inB_iI, nz_iI, is01_0, is01_1, gd_tt, bd_mk, bv_mk, oc_mk, lt_mk, Bool.false_eq_true, ↓reduceIte, Int.reduceToNat, m0]) (by
    intro g j hj h
    try simp only at h
    have h0 := hA.at (c := 0) (g := j) (x := (j : Int)) (by omega) (by omega) (by omega)
    have h1 := hA.at (c := 1) (g := j) (x := 10 + (j : Int)) (by omega) (by omega) (by omega)
    have h2 := hA.at (c := 2) (g := j) (x := 20 + (j : Int)) (by omega) (by omega) (by omega)
    have e1 : (j : Int) + 1 = ((j + 1 : Nat) : Int) := by omega
    have b0 := Nt_b V y (s 0) j
    have b1 := Nt_b V y (s 1) j
    have b2 := Nt_b V y (s 2) j
    show f_X7_quarrelsNow_b4 _ _ _ _ = _
    unfold f_X7_quarrelsNow_b4
    by_cases c1 : Nt V y (s 0) j = Nt V y (s 1) j
    · by_cases c2 : Nt V y (s 0) j = Nt V y (s 2) j
      · rw [cnN_f (qrl_f ⟨c1, c2⟩)] at h
        simp (disch := omega) only [iI_lit, ofNat_iI, iI_add, iI_sub, iI_mul, iI_neg, iI_lt_t, iI_lt_f, iI_le_t, iI_le_f, iI_eq_t, iI_eq_f, iI_div, rm_iI, tc_iI, inB_iI, nz_iI, is01_0, is01_1, gd_tt, bd_mk, bv_mk, oc_mk, lt_mk, Bool.false_eq_true, ↓reduceIte, Int.reduceToNat, Int.add_zero, m0, h0, h1, h2, c1, c2, e1, h]
        all_goals exact h
      · rw [cnN_t (qrl_t (fun q => c2 q.2))] at h
        simp (disch := omega) only [iI_lit, ofNat_iI, iI_add, iI_sub, iI_mul, iI_neg, iI_lt_t, iI_lt_f, iI_le_t, iI_le_f, iI_eq_t, iI_eq_f, iI_div, rm_iI, tc_iI, inB_iI, nz_iI, is01_0, is01_1, gd_tt, bd_mk, bv_mk, oc_mk, lt_mk, Bool.false_eq_true, ↓reduceIte, Int.reduceToNat, m0, h0, h1, h2, c1, c2, e1, h]
        all_goals exact h
    · rw [cnN_t (qrl_t (fun q => c1 q.1))] at h
      simp (disch := omega) only [iI_lit, ofNat_iI, iI_add, iI_sub, iI_mul, iI_neg, iI_lt_t, iI_lt_f, iI_le_t, iI_le_f, iI_eq_t, iI_eq_f, iI_div, rm_iI, tc_iI, inB_iI, nz_iI, is01_0, is01_1, gd_tt, bd_mk, bv_mk, oc_mk, lt_mk, Bool.false_eq_true, ↓reduceIte, Int.reduceToNat, m0, h0, h1, h2, c1, e1, h]
      all_goals exact h) n FU 0 (by omega) (by simp only [FU]; omega)
  exact H
