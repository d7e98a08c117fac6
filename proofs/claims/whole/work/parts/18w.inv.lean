/-! what holds between the calls; a step of the law -/
def IC (σ : St) (V : Nat → Int) (o m : Nat) (W : Nat → Nat → Int) (len : Nat) (b : Nat → Int) : Prop := RS σ 1 V ∧ HC σ o m W ∧ BC σ len b
def IR (σ : St) (V : Nat → Int) (m : Nat) (W : Nat → Nat → Int) (len : Nat) (b : Nat → Int) : Prop := RMv σ V ∧ HR σ m W ∧ BR σ len b
def IP (V : Nat → Int) (m : Nat) (W : Nat → Nat → Int) (len : Nat) (b : Nat → Int) : Prop := IZ V ∧ (∀ j, j < m → IZ (W j)) ∧ TX len b
def INV (σ : St) : Prop := ∃ V o m W len b, IP V m W len b ∧ IC σ V o m W len b ∧ IR σ V m W len b
theorem IC.mo {σ τ : St} {V : Nat → Int} {o m : Nat} {W : Nat → Nat → Int} {len : Nat} {b : Nat → Int} (h : IC σ V o m W len b) (e : ∀ c, c < 138 → τ.1 c = σ.1 c) : IC τ V o m W len b := by
  obtain ⟨h1, ⟨h2, h3, h4, h5, h6⟩, h7, h8⟩ := h
  refine ⟨h1.mo (fun c _ h => e c (by omega)), ⟨?_, ?_, h4, h5, fun j hj => (h6 j hj).mo (fun c h1 h2 => e c (by omega))⟩, ?_, fun i hi => ?_⟩
  · rw [e 20 (by omega)]; exact h2
  · rw [e 20 (by omega)]; exact h3
  · rw [e 0 (by omega)]; exact h7
  · rw [e 137 (by omega)]; exact h8 i hi
theorem IR.mo {σ τ : St} {V : Nat → Int} {m : Nat} {W : Nat → Nat → Int} {len : Nat} {b : Nat → Int} (h : IR σ V m W len b) (e : ∀ c, 226 ≤ c → c ≤ 228 → τ.1 c = σ.1 c) (e3 : τ.1 225 3 = σ.1 225 3) (e5 : τ.1 225 5 = σ.1 225 5) : IR τ V m W len b := by
  obtain ⟨h1, ⟨h2, h3⟩, h4, h5⟩ := h
  refine ⟨fun k hk => ?_, ⟨?_, fun j hj k hk => ?_⟩, ?_, fun i hi => ?_⟩
  · rw [e 226 (by omega) (by omega)]; exact h1 k hk
  · rw [e3]; exact h2
  · rw [e 227 (by omega) (by omega)]; exact h3 j hj k hk
  · rw [e5]; exact h4
  · rw [e 228 (by omega) (by omega)]; exact h5 i hi
theorem IC.fr {σ τ : St} {V : Nat → Int} {o m lo hi : Nat} {W : Nat → Nat → Int} {len : Nat} {b : Nat → Int} (h : IC σ V o m W len b) (e : Fr lo hi σ τ) (hc : 138 ≤ lo) : IC τ V o m W len b := h.mo (fun c h1 => e.at (by omega))
theorem IR.fr {σ τ : St} {V : Nat → Int} {m lo hi : Nat} {W : Nat → Nat → Int} {len : Nat} {b : Nat → Int} (h : IR σ V m W len b) (e : Fr lo hi σ τ) (hc : 229 ≤ lo ∨ hi ≤ 225) : IR τ V m W len b := h.mo (fun c h1 h2 => e.at (by omega)) (by rw [e.at (by omega)]) (by rw [e.at (by omega)])
def STEP (σ : St) (L : Option (Int32 × St)) (M : St → Option (Int32 × St)) : Prop := ∃ r τ v τ', L = some (r, τ) ∧ M τ = some (v, τ') ∧ τ'.1 225 0 = r ∧ (r = 0 → τ'.2 235 = v.toInt64) ∧ INV τ'
theorem iI_0 : iI 0 = 0 := rfl
theorem STEP.fail {σ : St} {L : Option (Int32 × St)} {M : St → Option (Int32 × St)} {r : Int} (hI : INV σ) (hr : r = 1 ∨ r = 2) (hL : L = some (iI r, σ)) (hM : M σ = some (iI 0, sI σ 225 0 (iI r))) : STEP σ L M := by
  refine ⟨iI r, σ, iI 0, sI σ 225 0 (iI r), hL, hM, sI_hit _ _ _ _, fun h => ?_, ?_⟩
  · exfalso
    rcases hr with rfl | rfl
    · exact absurd h (by decide)
    · exact absurd h (by decide)
  · obtain ⟨V, o, m, W, len, b, h1, h2, h3⟩ := hI
    exact ⟨V, o, m, W, len, b, h1, h2.mo (fun c hc => sI_c (by omega)), h3.mo (fun c h1 h2 => sI_c (by omega)) (sI_k (by omega)) (sI_k (by omega))⟩
/-- what a question leaves of the reference -/
def FQ (σ τ : St) : Prop := (∀ c, (c < 225 ∨ (225 < c ∧ c < 229) ∨ 235 ≤ c) → τ.1 c = σ.1 c) ∧ (∀ j, j ≠ 0 → τ.1 225 j = σ.1 225 j) ∧ τ.2 = σ.2 ∧ τ.1 225 0 = 0
theorem FQ.of {σ τ : St} {lo hi : Nat} (h : Fr lo hi (sI σ 225 0 (iI 0)) τ) (h1 : 229 ≤ lo) (h2 : hi ≤ 235) : FQ σ τ := by
  refine ⟨fun c hc => ?_, fun j hj => ?_, h.2, ?_⟩
  · rw [h.at (by omega), sI_c (by omega)]
  · rw [h.at (by omega), sI_k hj]
  · rw [h.at (by omega), sI_hit]; rfl
theorem STEP.ask {σ τ1 : St} {L : Option (Int32 × St)} {M : St → Option (Int32 × St)} {V : Nat → Int} {o m : Nat} {W : Nat → Nat → Int} {len : Nat} {b : Nat → Int} {v : Int} (hP : IP V m W len b) (hC : IC σ V o m W len b) (hR : IR σ V m W len b) (hL : L = some (0, sL τ1 235 (iI v).toInt64)) (F1 : Fr 138 225 σ τ1) (hM : ∀ τ, IR τ V m W len b → ∃ τ', M τ = some (iI v, τ') ∧ FQ τ τ') : STEP σ L M := by
  have R1 : IR (sL τ1 235 (iI v).toInt64) V m W len b := (hR.fr F1 (by omega)).mo (fun c _ _ => rfl) rfl rfl
  obtain ⟨τ', x1, x2, x3, x4, x5⟩ := hM _ R1
  refine ⟨0, _, _, τ', hL, x1, x5, fun _ => by rw [x4]; exact sL_at _ _ _, V, o, m, W, len, b, hP, ?_, ?_⟩
  · exact (hC.fr F1 (by omega)).mo (fun c hc => by rw [x2 c (by omega)]; rfl)
  · exact R1.mo (fun c h1 h2 => x2 c (by omega)) (x3 3 (by omega)) (x3 5 (by omega))
/-! arguments -/
theorem needA {a lo hi : Int} (h1 : -2147483648 ≤ a ∧ a < 2147483648) (h2 : -10000 ≤ lo ∧ lo ≤ 10000) (h3 : -10000 ≤ hi ∧ hi ≤ 10000) (σ : St) : (lo ≤ a ∧ a ≤ hi → f_X6_needWithin (iI a) (iI lo) (iI hi) σ = some (.inr σ)) ∧ (¬ (lo ≤ a ∧ a ≤ hi) → f_X6_needWithin (iI a) (iI lo) (iI hi) σ = some (.inl (exA, σ))) := by
  unfold f_X6_needWithin
  refine ⟨fun q => ?_, fun q => ?_⟩
  · simp (disch := omega) only [iI_lit, ofNat_iI, iI_add, iI_sub, iI_mul, iI_neg, iI_lt_t, iI_lt_f, iI_le_t, iI_le_f, iI_eq_t, iI_eq_f, iI_div, rm_iI, tc_iI, inB_iI, nz_iI, is01_0, is01_1, gd_tt, bd_mk, bv_mk, oc_mk, lt_mk, Bool.false_eq_true, ↓reduceIte]
  · by_cases c : a < lo
    · simp (disch := omega) only [iI_lit, ofNat_iI, iI_add, iI_sub, iI_mul, iI_neg, iI_lt_t, iI_lt_f, iI_le_t, iI_le_f, iI_eq_t, iI_eq_f, iI_div, rm_iI, tc_iI, inB_iI, nz_iI, is01_0, is01_1, gd_tt, bd_mk, bv_mk, oc_mk, lt_mk, Bool.false_eq_true, ↓reduceIte]
    · simp (disch := omega) only [iI_lit, ofNat_iI, iI_add, iI_sub, iI_mul, iI_neg, iI_lt_t, iI_lt_f, iI_le_t, iI_le_f, iI_eq_t, iI_eq_f, iI_div, rm_iI, tc_iI, inB_iI, nz_iI, is01_0, is01_1, gd_tt, bd_mk, bv_mk, oc_mk, lt_mk, Bool.false_eq_true, ↓reduceIte]
theorem inG {a lo hi : Int} (h1 : -2147483648 ≤ a ∧ a < 2147483648) (h2 : -10000 ≤ lo ∧ lo ≤ 10000) (h3 : -10000 ≤ hi ∧ hi ≤ 10000) (σ : St) : (lo ≤ a ∧ a ≤ hi → f_X7_in (iI a) (iI lo) (iI hi) σ = some (iI 1, σ)) ∧ (¬ (lo ≤ a ∧ a ≤ hi) → f_X7_in (iI a) (iI lo) (iI hi) σ = some (iI 0, σ)) := by
  unfold f_X7_in
  refine ⟨fun q => ?_, fun q => ?_⟩
  · simp (disch := omega) only [iI_lit, ofNat_iI, iI_add, iI_sub, iI_mul, iI_neg, iI_lt_t, iI_lt_f, iI_le_t, iI_le_f, iI_eq_t, iI_eq_f, iI_div, rm_iI, tc_iI, inB_iI, nz_iI, is01_0, is01_1, gd_tt, bd_mk, bv_mk, oc_mk, lt_mk, Bool.false_eq_true, ↓reduceIte]
  · by_cases c : a < lo
    · simp (disch := omega) only [iI_lit, ofNat_iI, iI_add, iI_sub, iI_mul, iI_neg, iI_lt_t, iI_lt_f, iI_le_t, iI_le_f, iI_eq_t, iI_eq_f, iI_div, rm_iI, tc_iI, inB_iI, nz_iI, is01_0, is01_1, gd_tt, bd_mk, bv_mk, oc_mk, lt_mk, Bool.false_eq_true, ↓reduceIte]
    · simp (disch := omega) only [iI_lit, ofNat_iI, iI_add, iI_sub, iI_mul, iI_neg, iI_lt_t, iI_lt_f, iI_le_t, iI_le_f, iI_eq_t, iI_eq_f, iI_div, rm_iI, tc_iI, inB_iI, nz_iI, is01_0, is01_1, gd_tt, bd_mk, bv_mk, oc_mk, lt_mk, Bool.false_eq_true, ↓reduceIte]
theorem needYear_v {a : Int} (h1 : -2147483648 ≤ a ∧ a < 2147483648) (σ : St) : (0 ≤ a ∧ a ≤ 999 → f_X6_needYear (iI a) σ = some (.inr σ)) ∧ (¬ (0 ≤ a ∧ a ≤ 999) → f_X6_needYear (iI a) σ = some (.inl (exA, σ))) := by
  have h := needA (lo := 0) (hi := 999) h1 (by omega) (by omega) σ
  unfold f_X6_needYear
  exact ⟨fun q => by simp only [iI_lit, h.1 q, bx_r], fun q => by simp only [iI_lit, h.2 q, bx_l]⟩
theorem needCarver_v {a : Int} (h1 : -2147483648 ≤ a ∧ a < 2147483648) (σ : St) : (0 ≤ a ∧ a ≤ 2 → f_X6_needCarver (iI a) σ = some (.inr σ)) ∧ (¬ (0 ≤ a ∧ a ≤ 2) → f_X6_needCarver (iI a) σ = some (.inl (exA, σ))) := by
  have h := needA (lo := 0) (hi := 2) h1 (by omega) (by omega) σ
  unfold f_X6_needCarver
  exact ⟨fun q => by simp only [iI_lit, h.1 q, bx_r], fun q => by simp only [iI_lit, h.2 q, bx_l]⟩
theorem needFeast_v {a : Int} {n : Nat} {σ : St} (h1 : -2147483648 ≤ a ∧ a < 2147483648) (hn : σ.1 1 0 = iI (n : Int)) (hn10 : n ≤ 10) : (0 ≤ a ∧ a < n → f_X6_needFeast (iI a) σ = some (.inr σ)) ∧ (¬ (0 ≤ a ∧ a < n) → f_X6_needFeast (iI a) σ = some (.inl (exI, σ))) := by
  unfold f_X6_needFeast
  refine ⟨fun q => ?_, fun q => ?_⟩
  · simp (disch := omega) only [iI_lit, ofNat_iI, iI_add, iI_sub, iI_mul, iI_neg, iI_lt_t, iI_lt_f, iI_le_t, iI_le_f, iI_eq_t, iI_eq_f, iI_div, rm_iI, tc_iI, inB_iI, nz_iI, is01_0, is01_1, gd_tt, bd_mk, bv_mk, oc_mk, lt_mk, Bool.false_eq_true, ↓reduceIte, hn]
  · by_cases c : a < 0
    · simp (disch := omega) only [iI_lit, ofNat_iI, iI_add, iI_sub, iI_mul, iI_neg, iI_lt_t, iI_lt_f, iI_le_t, iI_le_f, iI_eq_t, iI_eq_f, iI_div, rm_iI, tc_iI, inB_iI, nz_iI, is01_0, is01_1, gd_tt, bd_mk, bv_mk, oc_mk, lt_mk, Bool.false_eq_true, ↓reduceIte, hn]
    · simp (disch := omega) only [iI_lit, ofNat_iI, iI_add, iI_sub, iI_mul, iI_neg, iI_lt_t, iI_lt_f, iI_le_t, iI_le_f, iI_eq_t, iI_eq_f, iI_div, rm_iI, tc_iI, inB_iI, nz_iI, is01_0, is01_1, gd_tt, bd_mk, bv_mk, oc_mk, lt_mk, Bool.false_eq_true, ↓reduceIte, hn]
theorem needStick_v {a : Int} {n : Nat} {σ : St} (h1 : -2147483648 ≤ a ∧ a < 2147483648) (hn : σ.1 1 7 = iI (n : Int)) (hn10 : n ≤ 10) : (0 ≤ a ∧ a < n → f_X6_needStick (iI a) σ = some (.inr σ)) ∧ (¬ (0 ≤ a ∧ a < n) → f_X6_needStick (iI a) σ = some (.inl (exI, σ))) := by
  unfold f_X6_needStick
  refine ⟨fun q => ?_, fun q => ?_⟩
  · simp (disch := omega) only [iI_lit, ofNat_iI, iI_add, iI_sub, iI_mul, iI_neg, iI_lt_t, iI_lt_f, iI_le_t, iI_le_f, iI_eq_t, iI_eq_f, iI_div, rm_iI, tc_iI, inB_iI, nz_iI, is01_0, is01_1, gd_tt, bd_mk, bv_mk, oc_mk, lt_mk, Bool.false_eq_true, ↓reduceIte, hn]
  · by_cases c : a < 0
    · simp (disch := omega) only [iI_lit, ofNat_iI, iI_add, iI_sub, iI_mul, iI_neg, iI_lt_t, iI_lt_f, iI_le_t, iI_le_f, iI_eq_t, iI_eq_f, iI_div, rm_iI, tc_iI, inB_iI, nz_iI, is01_0, is01_1, gd_tt, bd_mk, bv_mk, oc_mk, lt_mk, Bool.false_eq_true, ↓reduceIte, hn]
    · simp (disch := omega) only [iI_lit, ofNat_iI, iI_add, iI_sub, iI_mul, iI_neg, iI_lt_t, iI_lt_f, iI_le_t, iI_le_f, iI_eq_t, iI_eq_f, iI_div, rm_iI, tc_iI, inB_iI, nz_iI, is01_0, is01_1, gd_tt, bd_mk, bv_mk, oc_mk, lt_mk, Bool.false_eq_true, ↓reduceIte, hn]
theorem isYear_v {a : Int} (h1 : -2147483648 ≤ a ∧ a < 2147483648) (σ : St) : (0 ≤ a ∧ a ≤ 999 → f_X7_isYear (iI a) σ = some (iI 1, σ)) ∧ (¬ (0 ≤ a ∧ a ≤ 999) → f_X7_isYear (iI a) σ = some (iI 0, σ)) := by
  have h := inG (lo := 0) (hi := 999) h1 (by omega) (by omega) σ
  unfold f_X7_isYear
  exact ⟨fun q => by simp only [iI_lit, h.1 q, bd_mk, is01_1, gd_tt], fun q => by simp only [iI_lit, h.2 q, bd_mk, is01_0, gd_tt]⟩
theorem isCarver_v {a : Int} (h1 : -2147483648 ≤ a ∧ a < 2147483648) (σ : St) : (0 ≤ a ∧ a ≤ 2 → f_X7_isCarver (iI a) σ = some (iI 1, σ)) ∧ (¬ (0 ≤ a ∧ a ≤ 2) → f_X7_isCarver (iI a) σ = some (iI 0, σ)) := by
  have h := inG (lo := 0) (hi := 2) h1 (by omega) (by omega) σ
  unfold f_X7_isCarver
  exact ⟨fun q => by simp only [iI_lit, h.1 q, bd_mk, is01_1, gd_tt], fun q => by simp only [iI_lit, h.2 q, bd_mk, is01_0, gd_tt]⟩
theorem isFeast_v {a : Int} {n : Nat} {σ : St} (h1 : -2147483648 ≤ a ∧ a < 2147483648) (hn : σ.1 226 0 = iI (n : Int)) (hn10 : n ≤ 10) : (0 ≤ a ∧ a < n → f_X7_isFeast (iI a) σ = some (iI 1, σ)) ∧ (¬ (0 ≤ a ∧ a < n) → f_X7_isFeast (iI a) σ = some (iI 0, σ)) := by
  have h := inG (lo := 0) (hi := (n : Int) - 1) h1 (by omega) (by omega) σ
  unfold f_X7_isFeast
  refine ⟨fun q => ?_, fun q => ?_⟩
  · have z := h.1 (by omega)
    simp (disch := omega) only [iI_lit, ofNat_iI, iI_add, iI_sub, iI_mul, iI_neg, iI_lt_t, iI_lt_f, iI_le_t, iI_le_f, iI_eq_t, iI_eq_f, iI_div, rm_iI, tc_iI, inB_iI, nz_iI, is01_0, is01_1, gd_tt, bd_mk, bv_mk, oc_mk, lt_mk, Bool.false_eq_true, ↓reduceIte, Int.reduceToNat, hn, z]
  · have z := h.2 (by omega)
    simp (disch := omega) only [iI_lit, ofNat_iI, iI_add, iI_sub, iI_mul, iI_neg, iI_lt_t, iI_lt_f, iI_le_t, iI_le_f, iI_eq_t, iI_eq_f, iI_div, rm_iI, tc_iI, inB_iI, nz_iI, is01_0, is01_1, gd_tt, bd_mk, bv_mk, oc_mk, lt_mk, Bool.false_eq_true, ↓reduceIte, Int.reduceToNat, hn, z]
theorem isStick_v {a : Int} {n : Nat} {σ : St} (h1 : -2147483648 ≤ a ∧ a < 2147483648) (hn : σ.1 226 45 = iI (n : Int)) (hn10 : n ≤ 10) : (0 ≤ a ∧ a < n → f_X7_isStick (iI a) σ = some (iI 1, σ)) ∧ (¬ (0 ≤ a ∧ a < n) → f_X7_isStick (iI a) σ = some (iI 0, σ)) := by
  have h := inG (lo := 0) (hi := (n : Int) - 1) h1 (by omega) (by omega) σ
  unfold f_X7_isStick
  refine ⟨fun q => ?_, fun q => ?_⟩
  · have z := h.1 (by omega)
    simp (disch := omega) only [iI_lit, ofNat_iI, iI_add, iI_sub, iI_mul, iI_neg, iI_lt_t, iI_lt_f, iI_le_t, iI_le_f, iI_eq_t, iI_eq_f, iI_div, rm_iI, tc_iI, inB_iI, nz_iI, is01_0, is01_1, gd_tt, bd_mk, bv_mk, oc_mk, lt_mk, Bool.false_eq_true, ↓reduceIte, Int.reduceToNat, hn, z]
  · have z := h.2 (by omega)
    simp (disch := omega) only [iI_lit, ofNat_iI, iI_add, iI_sub, iI_mul, iI_neg, iI_lt_t, iI_lt_f, iI_le_t, iI_le_f, iI_eq_t, iI_eq_f, iI_div, rm_iI, tc_iI, inB_iI, nz_iI, is01_0, is01_1, gd_tt, bd_mk, bv_mk, oc_mk, lt_mk, Bool.false_eq_true, ↓reduceIte, Int.reduceToNat, hn, z]
theorem holds_0 (σ : St) : f_X7_holds (iI 0) σ = some (iI 1, sI σ 225 0 (iI 0)) := by
  unfold f_X7_holds
  simp (disch := omega) only [iI_lit, ofNat_iI, iI_add, iI_sub, iI_mul, iI_neg, iI_lt_t, iI_lt_f, iI_le_t, iI_le_f, iI_eq_t, iI_eq_f, iI_div, rm_iI, tc_iI, inB_iI, nz_iI, is01_0, is01_1, gd_tt, bd_mk, bv_mk, oc_mk, lt_mk, Bool.false_eq_true, ↓reduceIte]
theorem holds_1 (σ : St) : f_X7_holds (iI 1) σ = some (iI 0, sI σ 225 0 (iI 1)) := by
  unfold f_X7_holds
  simp (disch := omega) only [iI_lit, ofNat_iI, iI_add, iI_sub, iI_mul, iI_neg, iI_lt_t, iI_lt_f, iI_le_t, iI_le_f, iI_eq_t, iI_eq_f, iI_div, rm_iI, tc_iI, inB_iI, nz_iI, is01_0, is01_1, gd_tt, bd_mk, bv_mk, oc_mk, lt_mk, Bool.false_eq_true, ↓reduceIte]
theorem holds_2 (σ : St) : f_X7_holds (iI 2) σ = some (iI 0, sI σ 225 0 (iI 2)) := by
  unfold f_X7_holds
  simp (disch := omega) only [iI_lit, ofNat_iI, iI_add, iI_sub, iI_mul, iI_neg, iI_lt_t, iI_lt_f, iI_le_t, iI_le_f, iI_eq_t, iI_eq_f, iI_div, rm_iI, tc_iI, inB_iI, nz_iI, is01_0, is01_1, gd_tt, bd_mk, bv_mk, oc_mk, lt_mk, Bool.false_eq_true, ↓reduceIte]
/-- the reference with thrown set, as before -/
theorem IR.s0 {σ : St} {V : Nat → Int} {m : Nat} {W : Nat → Nat → Int} {len : Nat} {b : Nat → Int} {w : Int32} (h : IR σ V m W len b) : IR (sI σ 225 0 w) V m W len b := h.mo (fun c h1 h2 => sI_c (by omega)) (sI_k (by omega)) (sI_k (by omega))
theorem IR.z {σ : St} {V : Nat → Int} {m n : Nat} {W : Nat → Nat → Int} {len : Nat} {b : Nat → Int} (h : IR σ V m W len b) (hn : V 0 = (n : Int)) : σ.1 226 0 = iI (n : Int) := by rw [h.1 0 (by omega), hn]
theorem IR.k {σ : St} {V : Nat → Int} {m n : Nat} {W : Nat → Nat → Int} {len : Nat} {b : Nat → Int} (h : IR σ V m W len b) (hn : V 45 = (n : Int)) : σ.1 226 45 = iI (n : Int) := by rw [h.1 45 (by omega), hn]
theorem ok1 {k : String} {x : Option (Ex (Int32 × St))} {v : Int32} {τ : St} (h : x = some (.inr (v, τ))) : wr1 k x = some (0, sL τ 235 v.toInt64) := by rw [h]; rfl
theorem ok2 {k k' : String} {x : Option (Ex (Int32 × St))} {v : Int32} {τ : St} (h : x = some (.inr (v, τ))) : wr2 k k' x = some (0, sL τ 235 v.toInt64) := by rw [h]; rfl
theorem er1 {k : String} {x : Option (Ex (Int32 × St))} {τ : St} (h : x = some (.inl (k, τ))) : wr1 k x = some (iI 1, τ) := by rw [h]; exact if_pos rfl
theorem er2a {k k' : String} {x : Option (Ex (Int32 × St))} {τ : St} (h : x = some (.inl (k, τ))) : wr2 k k' x = some (iI 1, τ) := by rw [h]; exact if_pos rfl
theorem er2b {k k' : String} {x : Option (Ex (Int32 × St))} {τ : St} (hk : k' ≠ k) (h : x = some (.inl (k', τ))) : wr2 k k' x = some (iI 2, τ) := by
  rw [h]
  show (if k' = k then some (1, τ) else if k' = k' then some (2, τ) else none) = _
  rw [if_neg hk, if_pos rfl]
  rfl
theorem exAI : exA ≠ exI := by decide
theorem exSA : exS ≠ exA := by decide
/-! questions -/
section ASK
variable {σ : St} {V : Nat → Int} {o m : Nat} {W : Nat → Nat → Int} {len : Nat} {b : Nat → Int}
theorem IP.n (h : IP V m W len b) : ∃ n : Nat, V 0 = (n : Int) ∧ n ≤ 10 := ⟨(V 0).toNat, by have := h.1.1.1; omega, by have := h.1.1.1; omega⟩
theorem IP.k (h : IP V m W len b) : ∃ n : Nat, V 45 = (n : Int) ∧ n ≤ 5 := ⟨(V 45).toNat, by have := h.1.1.2.2.1; omega, by have := h.1.1.2.2.1; omega⟩
theorem s_feast {a w : Int} (ha : -2147483648 ≤ a ∧ a < 2147483648) (hw : -2147483648 ≤ w ∧ w < 2147483648) (hP : IP V m W len b) (hC : IC σ V o m W len b) (hR : IR σ V m W len b) : STEP σ (f_L_feast (iI a) (iI w) σ) (f_X7_feast (iI a) (iI w)) := by
  have hI : INV σ := ⟨V, o, m, W, len, b, hP, hC, hR⟩
  obtain ⟨n, hn, hn10⟩ := hP.n
  have z0 : σ.1 1 0 = iI (n : Int) := by rw [hC.1.1, hn]
  by_cases c1 : 0 ≤ a ∧ a < n
  · by_cases c2 : 0 ≤ w ∧ w ≤ 3
    · obtain ⟨f, rfl⟩ : ∃ f : Nat, a = (f : Int) := ⟨a.toNat, by omega⟩
      obtain ⟨k, rfl⟩ : ∃ k : Nat, w = (k : Int) := ⟨w.toNat, by omega⟩
      refine STEP.ask (v := fpr V f k) (τ1 := σ) hP hC hR (ok2 ?_) Fr.rfl (fun τ hT => ?_)
      · have x1 := feastC (f := f) (w := k) hP.1.1 hC.1 (by omega) (by omega)
        unfold f_X6_feast
        simp only [iI_lit, (needFeast_v ha z0 hn10).1 c1, bx_r, (needA (lo := 0) (hi := 3) hw (by omega) (by omega) σ).1 c2, x1, bd_mk]
      · have x1 := feastR (f := f) (w := k) hP.1.1 hT.s0.1 (by omega) (by omega) (σ := sI τ 225 0 (iI 0))
        refine ⟨sI τ 225 0 (iI 0), ?_, FQ.of (lo := 229) (hi := 235) Fr.rfl (by omega) (by omega)⟩
        unfold f_X7_feast f_X7_feast_b27
        simp (disch := omega) only [iI_lit, ofNat_iI, iI_add, iI_sub, iI_mul, iI_neg, iI_lt_t, iI_lt_f, iI_le_t, iI_le_f, iI_eq_t, iI_eq_f, iI_div, rm_iI, tc_iI, inB_iI, nz_iI, is01_0, is01_1, gd_tt, bd_mk, bv_mk, oc_mk, lt_mk, Bool.false_eq_true, ↓reduceIte, (isFeast_v ha (hT.z hn) hn10).1 c1, (inG (lo := 0) (hi := 3) hw (by omega) (by omega) τ).1 c2, holds_0, x1]
    · refine STEP.fail (r := 2) hI (.inr rfl) (er2b exAI ?_) ?_
      · unfold f_X6_feast
        simp only [iI_lit, (needFeast_v ha z0 hn10).1 c1, bx_r, (needA (lo := 0) (hi := 3) hw (by omega) (by omega) σ).2 c2, bx_l]
      · unfold f_X7_feast f_X7_feast_b27
        simp (disch := omega) only [iI_lit, ofNat_iI, iI_add, iI_sub, iI_mul, iI_neg, iI_lt_t, iI_lt_f, iI_le_t, iI_le_f, iI_eq_t, iI_eq_f, iI_div, rm_iI, tc_iI, inB_iI, nz_iI, is01_0, is01_1, gd_tt, bd_mk, bv_mk, oc_mk, lt_mk, Bool.false_eq_true, ↓reduceIte, (isFeast_v ha (hR.z hn) hn10).1 c1, (inG (lo := 0) (hi := 3) hw (by omega) (by omega) σ).2 c2, holds_2]
  · refine STEP.fail (r := 1) hI (.inl rfl) (er2a ?_) ?_
    · unfold f_X6_feast
      simp only [iI_lit, (needFeast_v ha z0 hn10).2 c1, bx_l]
    · unfold f_X7_feast f_X7_feast_b27
      simp (disch := omega) only [iI_lit, ofNat_iI, iI_add, iI_sub, iI_mul, iI_neg, iI_lt_t, iI_lt_f, iI_le_t, iI_le_f, iI_eq_t, iI_eq_f, iI_div, rm_iI, tc_iI, inB_iI, nz_iI, is01_0, is01_1, gd_tt, bd_mk, bv_mk, oc_mk, lt_mk, Bool.false_eq_true, ↓reduceIte, (isFeast_v ha (hR.z hn) hn10).2 c1, holds_1]
end ASK
