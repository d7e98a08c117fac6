/-! the second and the third check: the quarrels, the sticks -/
theorem cnN_le {P Q : Nat → Bool} : ∀ {n : Nat}, (∀ f, f < n → P f = true → Q f = true) → cnN P n ≤ cnN Q n := by
  intro n
  induction n with
  | zero => intro _; exact Int.le_refl _
  | succ n ih =>
    intro h
    have h1 := ih (fun f hf => h f (by omega))
    have h2 := h n (by omega)
    show cnN P n + (if P n = true then 1 else 0) ≤ cnN Q n + (if Q n = true then 1 else 0)
    by_cases c : P n = true
    · rw [if_pos c, if_pos (h2 c)]; omega
    · rw [if_neg c]; split <;> omega
theorem cnN_more {P : Nat → Bool} {a : Nat} : ∀ {b : Nat}, a ≤ b → (∀ f, a ≤ f → f < b → P f = false) → cnN P b = cnN P a := by
  intro b
  induction b with
  | zero => intro h _; rw [show a = 0 by omega]
  | succ b ih =>
    intro h hh
    by_cases c : a = b + 1
    · rw [c]
    · rw [cnN_f (hh b (by omega) (by omega))]
      exact ih (by omega) (fun f h1 h2 => hh f h1 (by omega))
def qw (P : Nat → Bool) (f : Nat) : Int := if P f = true then 1 else 0
theorem qw_s (P : Nat → Bool) (f : Nat) : cnN P (f + 1) = cnN P f + qw P f := rfl
theorem qw_t {P : Nat → Bool} {f : Nat} (h : P f = true) : qw P f = 1 := if_pos h
theorem qw_f {P : Nat → Bool} {f : Nat} (h : P f = false) : qw P f = 0 := by unfold qw; rw [h]; rfl
section QUAR
variable {V : Nat → Int} {m : Nat} {W : Nat → Nat → Int} {y : Int} {n : Nat}
theorem u7 {K7 : Int32 → Int32 → Int32 → Int32 → St → Option (Int32 × St)} {f : Nat} {q : Int} {σ : St} (hn : V 0 = (n : Int)) (hf : f < n) (hy : 0 ≤ y ∧ y ≤ 999) (hJ : JJ σ V m W) : ∃ τ, JJ τ V m W ∧ f_L_areQuarrelsSo_b7 K7 (iI y) (iI q) (iI 1) (iI (f : Int)) σ = K7 (iI y) (iI (q + qw (qrl V y (SL V)) f)) (iI 1) (iI ((f + 1 : Nat) : Int)) τ := by
  have hn10 := hJ.I.1
  have e1 : (f : Int) + 1 = ((f + 1 : Nat) : Int) := by omega
  obtain ⟨σ1, x1, J1⟩ := a_feasts hJ
  rw [hn] at x1
  obtain ⟨σ2, x2, J2⟩ := a_notch (f := f) (k := 0) J1 (by omega) hy (by omega)
  obtain ⟨σ3, x3, J3⟩ := a_notch (f := f) (k := 1) J2 (by omega) hy (by omega)
  obtain ⟨σ4, x4, J4⟩ := a_notch (f := f) (k := 2) J3 (by omega) hy (by omega)
  have x2 : f_X6_when (iI (f : Int)) (iI y) (iI 0) (iI 0) σ1 = some (iI (Nt V y (SL V 0) f), σ2) := x2
  have x3 : f_X6_when (iI (f : Int)) (iI y) (iI 1) (iI 0) σ2 = some (iI (Nt V y (SL V 1) f), σ3) := x3
  have x4 : f_X6_when (iI (f : Int)) (iI y) (iI 2) (iI 0) σ3 = some (iI (Nt V y (SL V 2) f), σ4) := x4
  obtain ⟨σ5, x5, J5⟩ := a_settled (f := f) J4 (by omega) hy
  have b0 := Nt_b V y (SL V 0) f
  have b1 := Nt_b V y (SL V 1) f
  have b2 := Nt_b V y (SL V 2) f
  refine ⟨σ5, J5, ?_⟩
  unfold f_L_areQuarrelsSo_b7 f_L_areQuarrelsSo_b69 f_L_areQuarrelsSo_b70 f_L_areQuarrelsSo_b97
  unfold stl at x5
  by_cases c1 : Nt V y (SL V 0) f = Nt V y (SL V 1) f
  · by_cases c2 : Nt V y (SL V 1) f = Nt V y (SL V 2) f
    · rw [qw_f (qrl_f (V := V) (y := y) (s := SL V) (f := f) ⟨c1, c1.trans c2⟩)]
      rw [if_pos c2] at x5
      simp (disch := omega) only [iI_lit, ofNat_iI, iI_add, iI_sub, iI_mul, iI_neg, iI_lt_t, iI_lt_f, iI_le_t, iI_le_f, iI_eq_t, iI_eq_f, iI_div, rm_iI, tc_iI, inB_iI, nz_iI, is01_0, is01_1, gd_tt, bd_mk, bv_mk, oc_mk, lt_mk, Bool.false_eq_true, ↓reduceIte, x1, x2, x3, x4, x5, e1]
    · rw [qw_t (qrl_t (V := V) (y := y) (s := SL V) (f := f) (fun z => c2 (z.1.symm.trans z.2)))]
      rw [if_neg c2] at x5
      simp (disch := omega) only [iI_lit, ofNat_iI, iI_add, iI_sub, iI_mul, iI_neg, iI_lt_t, iI_lt_f, iI_le_t, iI_le_f, iI_eq_t, iI_eq_f, iI_div, rm_iI, tc_iI, inB_iI, nz_iI, is01_0, is01_1, gd_tt, bd_mk, bv_mk, oc_mk, lt_mk, Bool.false_eq_true, ↓reduceIte, x1, x2, x3, x4, x5, e1]
  · rw [qw_t (qrl_t (V := V) (y := y) (s := SL V) (f := f) (fun z => c1 z.1))]
    by_cases c2 : Nt V y (SL V 1) f = Nt V y (SL V 2) f
    · rw [if_pos c2] at x5
      simp (disch := omega) only [iI_lit, ofNat_iI, iI_add, iI_sub, iI_mul, iI_neg, iI_lt_t, iI_lt_f, iI_le_t, iI_le_f, iI_eq_t, iI_eq_f, iI_div, rm_iI, tc_iI, inB_iI, nz_iI, is01_0, is01_1, gd_tt, bd_mk, bv_mk, oc_mk, lt_mk, Bool.false_eq_true, ↓reduceIte, x1, x2, x3, x4, x5, e1]
    · rw [if_neg c2] at x5
      simp (disch := omega) only [iI_lit, ofNat_iI, iI_add, iI_sub, iI_mul, iI_neg, iI_lt_t, iI_lt_f, iI_le_t, iI_le_f, iI_eq_t, iI_eq_f, iI_div, rm_iI, tc_iI, inB_iI, nz_iI, is01_0, is01_1, gd_tt, bd_mk, bv_mk, oc_mk, lt_mk, Bool.false_eq_true, ↓reduceIte, x1, x2, x3, x4, x5, e1]
theorem quarrels_v {σ : St} (hy : 0 ≤ y ∧ y ≤ 999) (hJ : JJ σ V m W) : ∃ τ, f_L_areQuarrelsSo (iI y) σ = some (iI 1, τ) ∧ JJ τ V m W := by
  have hI := hJ.I
  obtain ⟨n, hn, hn10⟩ := hJ.n
  have H : ∀ (k g f : Nat) (σ : St), f + k = n → k < g → JJ σ V m W → ∃ τ, f_L_areQuarrelsSo_l7 g (iI y) (iI (cnN (qrl V y (SL V)) f)) (iI 1) (iI (f : Int)) σ = some (iI 1, τ) ∧ JJ τ V m W := by
    intro k
    induction k with
    | zero =>
      intro g f σ hf hg hJ
      obtain ⟨g, rfl⟩ : ∃ g', g = g' + 1 := ⟨g - 1, by omega⟩
      have hfn : f = n := by omega
      subst hfn
      have hcb := cnN_b (qrl V y (SL V)) f
      have s0 := SL_b hI (c := 0) (by omega)
      have s1 := SL_b hI (c := 1) (by omega)
      have s2 := SL_b hI (c := 2) (by omega)
      obtain ⟨σ1, x1, J1⟩ := a_feasts hJ
      rw [hn] at x1
      obtain ⟨σ2, x2, J2⟩ := a_quarrels J1 hn hy
      by_cases c0 : cnN (qrl V y (SL V)) f = 0
      · refine ⟨σ2, ?_, J2⟩
        show f_L_areQuarrelsSo_b7 _ _ _ _ _ _ = _
        rw [c0] at x2 ⊢
        unfold f_L_areQuarrelsSo_b7
        simp (disch := omega) only [iI_lit, ofNat_iI, iI_add, iI_sub, iI_mul, iI_neg, iI_lt_t, iI_lt_f, iI_le_t, iI_le_f, iI_eq_t, iI_eq_f, iI_div, rm_iI, tc_iI, inB_iI, nz_iI, is01_0, is01_1, gd_tt, bd_mk, bv_mk, oc_mk, lt_mk, Bool.false_eq_true, ↓reduceIte, x1, x2]
      · obtain ⟨σ3, x3, J3⟩ := a_slip (c := 0) J2 (by omega)
        obtain ⟨σ4, x4, J4⟩ := a_slip (c := 1) J3 (by omega)
        have x3 : f_X6_count (iI 2) σ2 = some (iI (SL V 0 + 5), σ3) := x3
        have x4 : f_X6_count (iI 3) σ3 = some (iI (SL V 1 + 5), σ4) := x4
        by_cases c1 : SL V 0 = SL V 1
        · obtain ⟨σ5, x5, J5⟩ := a_slip (c := 1) J4 (by omega)
          obtain ⟨σ6, x6, J6⟩ := a_slip (c := 2) J5 (by omega)
          have x5 : f_X6_count (iI 3) σ4 = some (iI (SL V 1 + 5), σ5) := x5
          have x6 : f_X6_count (iI 4) σ5 = some (iI (SL V 2 + 5), σ6) := x6
          have c2 : SL V 1 ≠ SL V 2 := by
            intro c2
            refine c0 (cnN_0 (fun g _ => qrl_f ⟨?_, ?_⟩))
            · rw [c1]
            · rw [c1, c2]
          refine ⟨σ6, ?_, J6⟩
          show f_L_areQuarrelsSo_b7 _ _ _ _ _ _ = _
          unfold f_L_areQuarrelsSo_b7
          simp (disch := omega) only [iI_lit, ofNat_iI, iI_add, iI_sub, iI_mul, iI_neg, iI_lt_t, iI_lt_f, iI_le_t, iI_le_f, iI_eq_t, iI_eq_f, iI_div, rm_iI, tc_iI, inB_iI, nz_iI, is01_0, is01_1, gd_tt, bd_mk, bv_mk, oc_mk, lt_mk, Bool.false_eq_true, ↓reduceIte, x1, x2, x3, x4, x5, x6]
        · refine ⟨σ4, ?_, J4⟩
          show f_L_areQuarrelsSo_b7 _ _ _ _ _ _ = _
          unfold f_L_areQuarrelsSo_b7
          simp (disch := omega) only [iI_lit, ofNat_iI, iI_add, iI_sub, iI_mul, iI_neg, iI_lt_t, iI_lt_f, iI_le_t, iI_le_f, iI_eq_t, iI_eq_f, iI_div, rm_iI, tc_iI, inB_iI, nz_iI, is01_0, is01_1, gd_tt, bd_mk, bv_mk, oc_mk, lt_mk, Bool.false_eq_true, ↓reduceIte, x1, x2, x3, x4]
    | succ k ih =>
      intro g f σ hf hg hJ
      obtain ⟨g, rfl⟩ : ∃ g', g = g' + 1 := ⟨g - 1, by omega⟩
      obtain ⟨σ1, J1, x1⟩ := u7 (K7 := f_L_areQuarrelsSo_l7 g) (f := f) (q := cnN (qrl V y (SL V)) f) hn (by omega) hy hJ
      obtain ⟨τ, x2, J2⟩ := ih g (f + 1) σ1 (by omega) (by omega) J1
      exact ⟨τ, x1.trans x2, J2⟩
  obtain ⟨τ, x1, J1⟩ := H n FU 0 σ (by omega) (by simp only [FU]; omega) hJ
  refine ⟨τ, ?_, J1⟩
  unfold f_L_areQuarrelsSo
  simp only [iI_lit]
  exact x1
/-! the sticks -/
def nw (V : Nat → Int) (k f : Nat) : Int := if (f : Int) < V 0 then Nt V (sty V k) (SL V (stc V k)) f else -1
def oth (V : Nat → Int) (k f : Nat) : Bool := decide (stm V k f ≠ -1 ∧ stm V k f ≠ nw V k f)
theorem oth_t {k f : Nat} (h : stm V k f ≠ -1 ∧ stm V k f ≠ nw V k f) : oth V k f = true := decide_eq_true h
theorem oth_f {k f : Nat} (h : ¬ (stm V k f ≠ -1 ∧ stm V k f ≠ nw V k f)) : oth V k f = false := decide_eq_false h
theorem oth_le {k : Nat} (hY : IY V) (hk : (k : Int) < V 45) : cnN (oth V k) 10 ≤ stS V k := by
  have hs := stn_b hY.1.1 hk
  rw [cnN_more (P := oth V k) (a := stn V k) (b := 10) hs (fun f h1 h2 => oth_f (fun z => z.1 (hY.2 k f hk h1 h2)))]
  refine cnN_le (fun f hf h => ?_)
  have h := of_decide_eq_true h
  refine stl0_t ?_
  by_cases c : V 0 ≤ (f : Int)
  · exact .inl c
  · right
    have h2 := h.2
    unfold nw at h2
    rw [if_pos (by omega)] at h2
    exact fun z => h2 z.symm
theorem v32 {K6 : Int32 → Int32 → Int32 → St → Option (Int32 × St)} {K32 : Int32 → Int32 → Int32 → Int32 → Int32 → Int32 → Int32 → St → Option (Int32 × St)} {y1 y2 : Int32} {k f : Nat} {a o : Int} {σ : St} (hn : V 0 = (n : Int)) (hk : (k : Int) < V 45) (hf : f < 10) (hJ : JJ σ V m W) : ∃ τ, JJ τ V m W ∧ f_L_areSticksSo_b32 K6 K32 y1 y2 (iI (k : Int)) (iI a) (iI (sty V k)) (iI o) (iI (f : Int)) σ = K32 y1 y2 (iI (k : Int)) (iI (a + qw (hasS V k) f)) (iI (sty V k)) (iI (o + qw (oth V k) f)) (iI ((f + 1 : Nat) : Int)) τ := by
  have hI := hJ.I
  have hn10 := hI.1
  have hk5 := hI.2.2.1
  obtain ⟨i1, ⟨i2, i3⟩, i4, i5⟩ := (hI.2.2.2.2.2 k hk).ex
  have hb := i5 f hf
  have e1 : (f : Int) + 1 = ((f + 1 : Nat) : Int) := by omega
  obtain ⟨σ1, x1, J1⟩ := a_stick (f := k) (k := 4 + f) hJ hk (by omega)
  rw [spr_4 (by omega), show 4 + f - 4 = f by omega, show ((4 + f : Nat) : Int) = 4 + (f : Int) by omega] at x1
  obtain ⟨σ2, x2, J2⟩ := a_feasts J1
  rw [hn] at x2
  have fin : ∀ τ, JJ τ V m W → f_L_areSticksSo_b32 K6 K32 y1 y2 (iI (k : Int)) (iI a) (iI (sty V k)) (iI o) (iI (f : Int)) σ = f_L_areSticksSo_b79 K6 K32 y1 y2 (iI (k : Int)) (iI a) (iI (sty V k)) (iI o) (iI (f : Int)) (iI (stm V k f)) (iI (nw V k f)) τ → ∃ τ, JJ τ V m W ∧ f_L_areSticksSo_b32 K6 K32 y1 y2 (iI (k : Int)) (iI a) (iI (sty V k)) (iI o) (iI (f : Int)) σ = K32 y1 y2 (iI (k : Int)) (iI (a + qw (hasS V k) f)) (iI (sty V k)) (iI (o + qw (oth V k) f)) (iI ((f + 1 : Nat) : Int)) τ := by
    intro τ J e
    have hb2 : -1 ≤ nw V k f ∧ nw V k f ≤ 365 := by
      unfold nw
      have := Nt_b V (sty V k) (SL V (stc V k)) f
      split <;> omega
    refine ⟨τ, J, e.trans ?_⟩
    unfold f_L_areSticksSo_b79 f_L_areSticksSo_b94
    by_cases c1 : stm V k f = -1
    · rw [qw_f (show hasS V k f = false from decide_eq_false (fun z => z c1)), qw_f (oth_f (V := V) (k := k) (f := f) (fun z => z.1 c1))]
      simp (disch := omega) only [iI_lit, ofNat_iI, iI_add, iI_sub, iI_mul, iI_neg, iI_lt_t, iI_lt_f, iI_le_t, iI_le_f, iI_eq_t, iI_eq_f, iI_div, rm_iI, tc_iI, inB_iI, nz_iI, is01_0, is01_1, gd_tt, bd_mk, bv_mk, oc_mk, lt_mk, Bool.false_eq_true, ↓reduceIte, c1, e1]
    · rw [qw_t (show hasS V k f = true from decide_eq_true c1)]
      by_cases c2 : stm V k f = nw V k f
      · rw [qw_f (oth_f (V := V) (k := k) (f := f) (fun z => z.2 c2))]
        simp (disch := omega) only [iI_lit, ofNat_iI, iI_add, iI_sub, iI_mul, iI_neg, iI_lt_t, iI_lt_f, iI_le_t, iI_le_f, iI_eq_t, iI_eq_f, iI_div, rm_iI, tc_iI, inB_iI, nz_iI, is01_0, is01_1, gd_tt, bd_mk, bv_mk, oc_mk, lt_mk, Bool.false_eq_true, ↓reduceIte, e1]
      · rw [qw_t (oth_t (V := V) (k := k) (f := f) ⟨c1, c2⟩)]
        simp (disch := omega) only [iI_lit, ofNat_iI, iI_add, iI_sub, iI_mul, iI_neg, iI_lt_t, iI_lt_f, iI_le_t, iI_le_f, iI_eq_t, iI_eq_f, iI_div, rm_iI, tc_iI, inB_iI, nz_iI, is01_0, is01_1, gd_tt, bd_mk, bv_mk, oc_mk, lt_mk, Bool.false_eq_true, ↓reduceIte, e1]
  by_cases c : f < n
  · obtain ⟨σ3, x3, J3⟩ := a_stick (f := k) (k := 1) J2 hk (by omega)
    have x3 : f_X6_stick (iI (k : Int)) (iI 1) σ2 = some (iI (stc V k : Int), σ3) := x3
    obtain ⟨σ4, x4, J4⟩ := a_notch (f := f) (k := stc V k) J3 (by omega) i1 i3
    refine fin σ4 J4 ?_
    unfold nw
    rw [if_pos (by omega)]
    unfold f_L_areSticksSo_b32
    simp (disch := omega) only [iI_lit, ofNat_iI, iI_add, iI_sub, iI_mul, iI_neg, iI_lt_t, iI_lt_f, iI_le_t, iI_le_f, iI_eq_t, iI_eq_f, iI_div, rm_iI, tc_iI, inB_iI, nz_iI, is01_0, is01_1, gd_tt, bd_mk, bv_mk, oc_mk, lt_mk, Bool.false_eq_true, ↓reduceIte, x1, x2, x3, x4]
  · refine fin σ2 J2 ?_
    unfold nw
    rw [if_neg (by omega)]
    unfold f_L_areSticksSo_b32
    simp (disch := omega) only [iI_lit, ofNat_iI, iI_add, iI_sub, iI_mul, iI_neg, iI_lt_t, iI_lt_f, iI_le_t, iI_le_f, iI_eq_t, iI_eq_f, iI_div, rm_iI, tc_iI, inB_iI, nz_iI, is01_0, is01_1, gd_tt, bd_mk, bv_mk, oc_mk, lt_mk, Bool.false_eq_true, ↓reduceIte, x1, x2]
theorem v32_l {K6 : Int32 → Int32 → Int32 → St → Option (Int32 × St)} {k : Nat} {sm : Int} (hn : V 0 = (n : Int)) (hk : (k : Int) < V 45) (hsm : 0 ≤ sm ∧ sm ≤ 1000) : ∀ (j g f : Nat) (σ : St), f + j = 10 → j < g → JJ σ V m W → ∃ τ, JJ τ V m W ∧ f_L_areSticksSo_l32 K6 g (iI sm) (iI 1) (iI (k : Int)) (iI (cnN (hasS V k) f)) (iI (sty V k)) (iI (cnN (oth V k) f)) (iI (f : Int)) σ = K6 (iI (sm + stS V k)) (iI 1) (iI ((k + 1 : Nat) : Int)) τ := by
  intro j
  induction j with
  | zero =>
    intro g f σ hf hg hJ
    obtain ⟨g, rfl⟩ : ∃ g', g = g' + 1 := ⟨g - 1, by omega⟩
    have hf10 : f = 10 := by omega
    subst hf10
    have hI := hJ.I
    have hk5 := hI.2.2.1
    have e1 : (k : Int) + 1 = ((k + 1 : Nat) : Int) := by omega
    have h1 := oth_le hJ.1.1 hk
    have h2 := cnN_b (oth V k) 10
    have h3 := cnN_b (hasS V k) 10
    have h4 := stS_b V k
    have h5 := stn_b hI hk
    obtain ⟨σ1, x1, J1⟩ := a_stick (f := k) (k := 3) hJ hk (by omega)
    have x1 : f_X6_stick (iI (k : Int)) (iI 3) σ = some (iI (stS V k), σ1) := x1
    obtain ⟨σ2, x2, J2⟩ := a_stick (f := k) (k := 2) J1 hk (by omega)
    have x2 : f_X6_stick (iI (k : Int)) (iI 2) σ1 = some (iI (cnN (hasS V k) 10), σ2) := x2
    obtain ⟨σ3, x3, J3⟩ := a_stick (f := k) (k := 3) J2 hk (by omega)
    have x3 : f_X6_stick (iI (k : Int)) (iI 3) σ2 = some (iI (stS V k), σ3) := x3
    refine ⟨σ3, J3, ?_⟩
    show f_L_areSticksSo_b32 _ _ _ _ _ _ _ _ (iI 10) _ = _
    unfold f_L_areSticksSo_b32
    simp (disch := omega) only [iI_lit, ofNat_iI, iI_add, iI_sub, iI_mul, iI_neg, iI_lt_t, iI_lt_f, iI_le_t, iI_le_f, iI_eq_t, iI_eq_f, iI_div, rm_iI, tc_iI, inB_iI, nz_iI, is01_0, is01_1, gd_tt, bd_mk, bv_mk, oc_mk, lt_mk, Bool.false_eq_true, ↓reduceIte, x1, x2, x3, e1]
  | succ j ih =>
    intro g f σ hf hg hJ
    obtain ⟨g, rfl⟩ : ∃ g', g = g' + 1 := ⟨g - 1, by omega⟩
    obtain ⟨σ1, J1, x1⟩ := v32 (K6 := K6) (K32 := f_L_areSticksSo_l32 K6 g) (y1 := iI sm) (y2 := iI 1) (a := cnN (hasS V k) f) (o := cnN (oth V k) f) hn hk (show f < 10 by omega) hJ
    obtain ⟨τ, J2, x2⟩ := ih g (f + 1) σ1 (by omega) (by omega) J1
    exact ⟨τ, J2, x1.trans x2⟩
theorem sticks_v {σ : St} (hJ : JJ σ V m W) : ∃ τ, f_L_areSticksSo σ = some (iI 1, τ) ∧ JJ τ V m W := by
  have hI := hJ.I
  obtain ⟨n, hn, hn10⟩ := hJ.n
  obtain ⟨ns, hns, hns5⟩ := hJ.k
  have H : ∀ (j g k : Nat) (σ : St), k + j = ns → j < g → JJ σ V m W → ∃ τ, f_L_areSticksSo_l6 g (iI (smS V k)) (iI 1) (iI (k : Int)) σ = some (iI 1, τ) ∧ JJ τ V m W := by
    intro j
    induction j with
    | zero =>
      intro g k σ hk hg hJ
      obtain ⟨g, rfl⟩ : ∃ g', g = g' + 1 := ⟨g - 1, by omega⟩
      have hkn : k = ns := by omega
      subst hkn
      have hb := smS_b (V := V) k (fun j hj => stn_b hI (by omega))
      have hG := shG_ok (frs_ok hI hns)
      obtain ⟨σ1, x1, J1⟩ := a_sticks hJ
      obtain ⟨σ2, x2, J2⟩ := a_stales J1 hns
      obtain ⟨σ3, x3, J3⟩ := a_sticks J2
      rw [hns] at x1 x3
      obtain ⟨σ4, x4, J4⟩ := a_share J3 hns
      obtain ⟨σ5, x5, J5⟩ := a_share J4 hns
      refine ⟨σ5, ?_, J5⟩
      have g1 := hG.2.1
      have g2 := hG.2.2
      rw [show (0 : Int32) = iI 0 from rfl] at g1 g2
      show f_L_areSticksSo_b6 _ _ _ _ _ = _
      unfold f_L_areSticksSo_b6
      simp (disch := omega) only [iI_lit, ofNat_iI, iI_add, iI_sub, iI_mul, iI_neg, iI_lt_t, iI_lt_f, iI_le_t, iI_le_f, iI_eq_t, iI_eq_f, iI_div, rm_iI, tc_iI, inB_iI, nz_iI, is01_0, is01_1, gd_tt, bd_mk, bv_mk, oc_mk, lt_mk, Bool.false_eq_true, ↓reduceIte, x1, x2, x3, x4, x5, g1, g2]
    | succ j ih =>
      intro g k σ hk hg hJ
      obtain ⟨g, rfl⟩ : ∃ g', g = g' + 1 := ⟨g - 1, by omega⟩
      have hb := smS_b (V := V) k (fun j hj => stn_b hI (by omega))
      obtain ⟨σ1, x1, J1⟩ := a_sticks hJ
      rw [hns] at x1
      obtain ⟨σ2, x2, J2⟩ := a_stick (f := k) (k := 0) J1 (by omega) (by omega)
      have x2 : f_X6_stick (iI (k : Int)) (iI 0) σ1 = some (iI (sty V k), σ2) := x2
      obtain ⟨σ3, J3, x3⟩ := v32_l (K6 := f_L_areSticksSo_l6 g) (k := k) (sm := smS V k) hn (by omega) (by omega) 10 FU 0 σ2 (by omega) (by simp only [FU]; omega) J2
      have x3 : f_L_areSticksSo_l32 (f_L_areSticksSo_l6 g) FU (iI (smS V k)) (iI 1) (iI (k : Int)) (iI 0) (iI (sty V k)) (iI 0) (iI 0) σ2 = _ := x3
      obtain ⟨τ, x4, J4⟩ := ih g (k + 1) σ3 (by omega) (by omega) J3
      have x4 : f_L_areSticksSo_l6 g (iI (smS V k + stS V k)) (iI 1) (iI ((k + 1 : Nat) : Int)) σ3 = some (iI 1, τ) := x4
      refine ⟨τ, ?_, J4⟩
      show f_L_areSticksSo_b6 _ _ _ _ _ = _
      unfold f_L_areSticksSo_b6
      simp (disch := omega) only [iI_lit, ofNat_iI, iI_add, iI_sub, iI_mul, iI_neg, iI_lt_t, iI_lt_f, iI_le_t, iI_le_f, iI_eq_t, iI_eq_f, iI_div, rm_iI, tc_iI, inB_iI, nz_iI, is01_0, is01_1, gd_tt, bd_mk, bv_mk, oc_mk, lt_mk, Bool.false_eq_true, ↓reduceIte, x1, x2, x3, x4]
  obtain ⟨τ, x1, J1⟩ := H ns FU 0 σ (by omega) (by simp only [FU]; omega) hJ
  refine ⟨τ, ?_, J1⟩
  unfold f_L_areSticksSo
  simp only [iI_lit]
  exact x1
end QUAR
