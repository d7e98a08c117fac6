/-! the reader: an automaton of six numbers (place, rule, number, minus, other, rank) -/
abbrev Q6 : Type := Int × Int × Int × Int × Int × Int
def q0 : Q6 := (0, 0, 0, 0, -1, 0)
def bhd (q : Q6) (c : Int) : Option Q6 := if c = 94 then some (7, q.2) else if c = 59 then some q0 else none
def mst (r : Int) : Int := if r = 3 then 90 else 365
def rd (q : Q6) (c : Int) : Option Q6 :=
  if q.1 = 0 then (if c = 97 then some (1, 3, q.2.2) else if c = 100 then some (3, 0, q.2.2) else if c = 109 then some (3, 2, q.2.2) else if c = 119 then some (3, 1, q.2.2) else none)
  else if q.1 = 1 then (if 48 ≤ c ∧ c ≤ 57 then some (2, q.2.1, q.2.2.1, q.2.2.2.1, c - 48, q.2.2.2.2.2) else none)
  else if q.1 = 2 then (if c = 43 then some (3, q.2.1, q.2.2.1, 0, q.2.2.2.2) else if c = 45 then some (3, q.2.1, q.2.2.1, 1, q.2.2.2.2) else none)
  else if q.1 = 3 then (if 48 ≤ c ∧ c ≤ 57 then some (4, q.2.1, c - 48, q.2.2.2) else none)
  else if q.1 = 4 then (if (48 ≤ c ∧ c ≤ 57) ∧ q.2.2.1 ≠ 0 ∧ q.2.2.1 * 10 + c - 48 ≤ mst q.2.1 then some (4, q.2.1, q.2.2.1 * 10 + c - 48, q.2.2.2) else if q.2.1 = 1 ∨ q.2.1 = 2 then (if c = 44 then some (5, q.2) else none) else bhd q c)
  else if q.1 = 5 then (if 48 ≤ c ∧ c ≤ 54 then some (6, q.2.1, q.2.2.1, q.2.2.2.1, c - 48, q.2.2.2.2.2) else none)
  else if q.1 = 6 then bhd q c
  else if q.1 = 7 then (if 48 ≤ c ∧ c ≤ 57 then some (8, q.2.1, q.2.2.1, q.2.2.2.1, q.2.2.2.2.1, c - 48) else none)
  else if c = 59 then some q0 else none
def mayE (q : Q6) : Prop := q.1 = 6 ∨ q.1 = 8 ∨ (q.1 = 4 ∧ ¬ (q.2.1 = 1 ∨ q.2.1 = 2))
def RB (q : Q6) : Prop := (0 ≤ q.1 ∧ q.1 ≤ 8) ∧ (0 ≤ q.2.1 ∧ q.2.1 ≤ 3) ∧ (0 ≤ q.2.2.1 ∧ q.2.2.1 ≤ 365) ∧ (q.2.2.2.1 = 0 ∨ (q.2.2.2.1 = 1 ∧ q.2.1 = 3)) ∧ (-1 ≤ q.2.2.2.2.1 ∧ q.2.2.2.2.1 ≤ 9) ∧ (0 ≤ q.2.2.2.2.2 ∧ q.2.2.2.2.2 ≤ 9) ∧ ((q.1 = 1 ∨ q.1 = 2) → q.2.1 = 3) ∧ ((q.1 = 5 ∨ q.1 = 6) → (q.2.1 = 1 ∨ q.2.1 = 2)) ∧ (q.2.1 = 3 → 2 ≤ q.1 → 0 ≤ q.2.2.2.2.1) ∧ ((q.2.1 = 1 ∨ q.2.1 = 2) → 6 ≤ q.1 → 0 ≤ q.2.2.2.2.1 ∧ q.2.2.2.2.1 ≤ 6) ∧ (q.1 = 0 → q.2.1 = 0)
theorem RB_0 : RB q0 := by unfold RB q0; simp
theorem RB_m {p r n m o k : Int} (h1 : 0 ≤ p ∧ p ≤ 8) (h2 : 0 ≤ r ∧ r ≤ 3) (h3 : 0 ≤ n ∧ n ≤ 365) (h4 : m = 0 ∨ (m = 1 ∧ r = 3)) (h5 : -1 ≤ o ∧ o ≤ 9) (h6 : 0 ≤ k ∧ k ≤ 9) (h7 : (p ≠ 1 ∧ p ≠ 2) ∨ r = 3) (h8 : (p ≠ 5 ∧ p ≠ 6) ∨ r = 1 ∨ r = 2) (h9 : r ≠ 3 ∨ p < 2 ∨ 0 ≤ o) (h10 : (r ≠ 1 ∧ r ≠ 2) ∨ p < 6 ∨ (0 ≤ o ∧ o ≤ 6)) (h11 : p ≠ 0 ∨ r = 0) : RB (p, r, n, m, o, k) :=
  ⟨h1, h2, h3, h4, h5, h6, fun h => by simp only at h ⊢; omega, fun h => by simp only at h ⊢; omega, fun h h' => by simp only at h h' ⊢; omega, fun h h' => by simp only at h h' ⊢; omega, fun h => by simp only at h ⊢; omega⟩
theorem RB_x {p r n m o k : Int} (h : RB (p, r, n, m, o, k)) : (0 ≤ p ∧ p ≤ 8) ∧ (0 ≤ r ∧ r ≤ 3) ∧ (0 ≤ n ∧ n ≤ 365) ∧ (m = 0 ∨ (m = 1 ∧ r = 3)) ∧ (-1 ≤ o ∧ o ≤ 9) ∧ (0 ≤ k ∧ k ≤ 9) ∧ ((p ≠ 1 ∧ p ≠ 2) ∨ r = 3) ∧ ((p ≠ 5 ∧ p ≠ 6) ∨ r = 1 ∨ r = 2) ∧ (r ≠ 3 ∨ p < 2 ∨ 0 ≤ o) ∧ ((r ≠ 1 ∧ r ≠ 2) ∨ p < 6 ∨ (0 ≤ o ∧ o ≤ 6)) ∧ (p ≠ 0 ∨ r = 0) := by
  obtain ⟨h1, h2, h3, h4, h5, h6, h7, h8, h9, h10, h11⟩ := h
  simp only at h1 h2 h3 h4 h5 h6 h7 h8 h9 h10 h11
  refine ⟨h1, h2, h3, h4, h5, h6, ?_, ?_, ?_, ?_, ?_⟩
  · by_cases c : p = 1 ∨ p = 2
    · exact .inr (h7 c)
    · exact .inl (by omega)
  · by_cases c : p = 5 ∨ p = 6
    · exact .inr (h8 c)
    · exact .inl (by omega)
  · by_cases c : r = 3
    · by_cases c2 : 2 ≤ p
      · exact .inr (.inr (h9 c c2))
      · exact .inr (.inl (by omega))
    · exact .inl c
  · by_cases c : r = 1 ∨ r = 2
    · by_cases c2 : 6 ≤ p
      · exact .inr (.inr (h10 c c2))
      · exact .inr (.inl (by omega))
    · exact .inl (by omega)
  · by_cases c : p = 0
    · exact .inr (h11 c)
    · exact .inl c
theorem RB_s {q q' : Q6} {c : Int} (h : RB q) (e : rd q c = some q') : RB q' := by
  obtain ⟨p, r, n, m, o, k⟩ := q
  obtain ⟨h1, h2, h3, h4, h5, h6, h7, h8, h9, h10, h11⟩ := RB_x h
  unfold rd bhd at e
  simp only at e
  have hm : mst r ≤ 365 := by unfold mst; split <;> omega
  repeat' split at e
  all_goals first
    | (cases e; done)
    | (obtain rfl := Option.some.inj e; first | exact RB_0 | (apply RB_m <;> omega))
def RD (σ : St) (q : Q6) : Prop := σ.1 138 5 = iI q.1 ∧ σ.1 138 0 = iI q.2.1 ∧ σ.1 138 1 = iI q.2.2.1 ∧ σ.1 138 2 = iI q.2.2.2.1 ∧ σ.1 138 3 = iI q.2.2.2.2.1 ∧ σ.1 138 4 = iI q.2.2.2.2.2
theorem RD.fr {σ τ : St} {q : Q6} {lo hi : Nat} (h : RD σ q) (e : Fr lo hi σ τ) (hc : 138 < lo ∨ hi ≤ 138) : RD τ q := by unfold RD; rw [e.at (by omega)]; exact h
theorem sI_cc (σ : St) (c j : Nat) (v : Int32) (i : Nat) : (sI σ c j v).1 c i = if i = j then v else σ.1 c i := by
  by_cases h : i = j
  · rw [if_pos h, h, sI_hit]
  · rw [if_neg h, sI_k h]
theorem start_v (σ : St) : ∃ τ, f_X2_start σ = some τ ∧ Fr 138 139 σ τ ∧ RD τ q0 := by
  have F : ∀ (υ : St) (k : Nat) (v : Int32), Fr 138 139 υ (sI υ 138 k v) := fun υ k v => Fr.sI (by omega) (by omega)
  refine ⟨sI (sI (sI (sI (sI (sI σ 138 5 (iI 0)) 138 0 (iI 0)) 138 1 (iI 0)) 138 2 (iI 0)) 138 3 (iI (-1))) 138 4 (iI 0), ?_, (((((F _ _ _).tr (F _ _ _)).tr (F _ _ _)).tr (F _ _ _)).tr (F _ _ _)).tr (F _ _ _), ?_⟩
  · unfold f_X2_start
    simp (disch := omega) only [iI_lit, ofNat_iI, iI_add, iI_sub, iI_mul, iI_neg, iI_lt_t, iI_lt_f, iI_le_t, iI_le_f, iI_eq_t, iI_eq_f, iI_div, rm_iI, tc_iI, inB_iI, nz_iI, is01_0, is01_1, gd_tt, bd_mk, bv_mk, oc_mk, lt_mk, Bool.false_eq_true, ↓reduceIte]
  · refine ⟨?_, ?_, ?_, ?_, ?_, ?_⟩ <;> simp [sI_cc, q0]
theorem hasW_v {σ : St} {q : Q6} (hD : RD σ q) (hB : RB q) : f_X2_hasWeekday σ = some (iI (if q.2.1 = 1 ∨ q.2.1 = 2 then 1 else 0), σ) := by
  have r := hD.2.1
  have hb := hB.2.1
  unfold f_X2_hasWeekday
  by_cases c1 : q.2.1 = 1
  · rw [if_pos (show q.2.1 = 1 ∨ q.2.1 = 2 from .inl c1)]
    simp (disch := omega) only [iI_lit, ofNat_iI, iI_add, iI_sub, iI_mul, iI_neg, iI_lt_t, iI_lt_f, iI_le_t, iI_le_f, iI_eq_t, iI_eq_f, iI_div, rm_iI, tc_iI, inB_iI, nz_iI, is01_0, is01_1, gd_tt, bd_mk, bv_mk, oc_mk, lt_mk, Bool.false_eq_true, ↓reduceIte, r, c1]
  · by_cases c2 : q.2.1 = 2
    · rw [if_pos (show q.2.1 = 1 ∨ q.2.1 = 2 from .inr c2)]
      simp (disch := omega) only [iI_lit, ofNat_iI, iI_add, iI_sub, iI_mul, iI_neg, iI_lt_t, iI_lt_f, iI_le_t, iI_le_f, iI_eq_t, iI_eq_f, iI_div, rm_iI, tc_iI, inB_iI, nz_iI, is01_0, is01_1, gd_tt, bd_mk, bv_mk, oc_mk, lt_mk, Bool.false_eq_true, ↓reduceIte, r, c2]
    · rw [if_neg (show ¬ (q.2.1 = 1 ∨ q.2.1 = 2) by omega)]
      simp (disch := omega) only [iI_lit, ofNat_iI, iI_add, iI_sub, iI_mul, iI_neg, iI_lt_t, iI_lt_f, iI_le_t, iI_le_f, iI_eq_t, iI_eq_f, iI_div, rm_iI, tc_iI, inB_iI, nz_iI, is01_0, is01_1, gd_tt, bd_mk, bv_mk, oc_mk, lt_mk, Bool.false_eq_true, ↓reduceIte, r, c1, c2]
theorem mayEnd_v {σ : St} {q : Q6} (hD : RD σ q) (hB : RB q) : ∃ x, f_X2_mayEnd σ = some (iI x, σ) ∧ ((mayE q ∧ x = 1) ∨ (¬ mayE q ∧ x = 0)) := by
  have r := hD.1
  have hb := hB.1
  have hw := hasW_v hD hB
  unfold f_X2_mayEnd mayE
  by_cases c1 : q.1 = 6
  · refine ⟨1, ?_, .inl ⟨.inl c1, rfl⟩⟩
    simp (disch := omega) only [iI_lit, ofNat_iI, iI_add, iI_sub, iI_mul, iI_neg, iI_lt_t, iI_lt_f, iI_le_t, iI_le_f, iI_eq_t, iI_eq_f, iI_div, rm_iI, tc_iI, inB_iI, nz_iI, is01_0, is01_1, gd_tt, bd_mk, bv_mk, oc_mk, lt_mk, Bool.false_eq_true, ↓reduceIte, r, c1]
  · by_cases c2 : q.1 = 8
    · refine ⟨1, ?_, .inl ⟨.inr (.inl c2), rfl⟩⟩
      simp (disch := omega) only [iI_lit, ofNat_iI, iI_add, iI_sub, iI_mul, iI_neg, iI_lt_t, iI_lt_f, iI_le_t, iI_le_f, iI_eq_t, iI_eq_f, iI_div, rm_iI, tc_iI, inB_iI, nz_iI, is01_0, is01_1, gd_tt, bd_mk, bv_mk, oc_mk, lt_mk, Bool.false_eq_true, ↓reduceIte, r, c2]
    · by_cases c3 : q.1 = 4
      · by_cases c4 : q.2.1 = 1 ∨ q.2.1 = 2
        · rw [if_pos c4] at hw
          refine ⟨0, ?_, .inr ⟨by omega, rfl⟩⟩
          simp (disch := omega) only [iI_lit, ofNat_iI, iI_add, iI_sub, iI_mul, iI_neg, iI_lt_t, iI_lt_f, iI_le_t, iI_le_f, iI_eq_t, iI_eq_f, iI_div, rm_iI, tc_iI, inB_iI, nz_iI, is01_0, is01_1, gd_tt, bd_mk, bv_mk, oc_mk, lt_mk, Bool.false_eq_true, ↓reduceIte, r, c3, hw]
        · rw [if_neg c4] at hw
          refine ⟨1, ?_, .inl ⟨.inr (.inr ⟨c3, c4⟩), rfl⟩⟩
          simp (disch := omega) only [iI_lit, ofNat_iI, iI_add, iI_sub, iI_mul, iI_neg, iI_lt_t, iI_lt_f, iI_le_t, iI_le_f, iI_eq_t, iI_eq_f, iI_div, rm_iI, tc_iI, inB_iI, nz_iI, is01_0, is01_1, gd_tt, bd_mk, bv_mk, oc_mk, lt_mk, Bool.false_eq_true, ↓reduceIte, r, c3, hw]
      · refine ⟨0, ?_, .inr ⟨by omega, rfl⟩⟩
        simp (disch := omega) only [iI_lit, ofNat_iI, iI_add, iI_sub, iI_mul, iI_neg, iI_lt_t, iI_lt_f, iI_le_t, iI_le_f, iI_eq_t, iI_eq_f, iI_div, rm_iI, tc_iI, inB_iI, nz_iI, is01_0, is01_1, gd_tt, bd_mk, bv_mk, oc_mk, lt_mk, Bool.false_eq_true, ↓reduceIte, r, c1, c2, c3]
theorem isDigit_v {c : Int} (hc : 0 ≤ c ∧ c ≤ 200) (σ : St) : f_X2_isDigit (iI c) σ = some (iI (if 48 ≤ c ∧ c ≤ 57 then 1 else 0), σ) := by
  unfold f_X2_isDigit
  by_cases c1 : 48 ≤ c
  · by_cases c2 : c ≤ 57
    · rw [if_pos (show 48 ≤ c ∧ c ≤ 57 from ⟨c1, c2⟩)]
      simp (disch := omega) only [iI_lit, ofNat_iI, iI_add, iI_sub, iI_mul, iI_neg, iI_lt_t, iI_lt_f, iI_le_t, iI_le_f, iI_eq_t, iI_eq_f, iI_div, rm_iI, tc_iI, inB_iI, nz_iI, is01_0, is01_1, gd_tt, bd_mk, bv_mk, oc_mk, lt_mk, Bool.false_eq_true, ↓reduceIte]
    · rw [if_neg (show ¬ (48 ≤ c ∧ c ≤ 57) by omega)]
      simp (disch := omega) only [iI_lit, ofNat_iI, iI_add, iI_sub, iI_mul, iI_neg, iI_lt_t, iI_lt_f, iI_le_t, iI_le_f, iI_eq_t, iI_eq_f, iI_div, rm_iI, tc_iI, inB_iI, nz_iI, is01_0, is01_1, gd_tt, bd_mk, bv_mk, oc_mk, lt_mk, Bool.false_eq_true, ↓reduceIte]
  · rw [if_neg (show ¬ (48 ≤ c ∧ c ≤ 57) by omega)]
    simp (disch := omega) only [iI_lit, ofNat_iI, iI_add, iI_sub, iI_mul, iI_neg, iI_lt_t, iI_lt_f, iI_le_t, iI_le_f, iI_eq_t, iI_eq_f, iI_div, rm_iI, tc_iI, inB_iI, nz_iI, is01_0, is01_1, gd_tt, bd_mk, bv_mk, oc_mk, lt_mk, Bool.false_eq_true, ↓reduceIte]
theorem sep_v {c : Int} {σ : St} (hc : 0 ≤ c ∧ c ≤ 200) : ∃ τ x, f_X2_readsSeparator (iI c) σ = some (iI x, τ) ∧ Fr 138 139 σ τ ∧ ((c ≠ 59 ∧ x = 0 ∧ τ = σ) ∨ (c = 59 ∧ x = 1 ∧ RD τ q0)) := by
  unfold f_X2_readsSeparator
  by_cases c1 : c = 59
  · obtain ⟨τ, x1, x2, x3⟩ := start_v σ
    refine ⟨τ, 1, ?_, x2, .inr ⟨c1, rfl, x3⟩⟩
    simp (disch := omega) only [iI_lit, ofNat_iI, iI_add, iI_sub, iI_mul, iI_neg, iI_lt_t, iI_lt_f, iI_le_t, iI_le_f, iI_eq_t, iI_eq_f, iI_div, rm_iI, tc_iI, inB_iI, nz_iI, is01_0, is01_1, gd_tt, bd_mk, bv_mk, oc_mk, lt_mk, Bool.false_eq_true, ↓reduceIte, c1, x1]
  · refine ⟨σ, 0, ?_, Fr.rfl, .inl ⟨c1, rfl, rfl⟩⟩
    simp (disch := omega) only [iI_lit, ofNat_iI, iI_add, iI_sub, iI_mul, iI_neg, iI_lt_t, iI_lt_f, iI_le_t, iI_le_f, iI_eq_t, iI_eq_f, iI_div, rm_iI, tc_iI, inB_iI, nz_iI, is01_0, is01_1, gd_tt, bd_mk, bv_mk, oc_mk, lt_mk, Bool.false_eq_true, ↓reduceIte, c1]
theorem bhd_v {c : Int} {q : Q6} {σ : St} (hD : RD σ q) (hc : 0 ≤ c ∧ c ≤ 200) : ∃ τ x, f_X2_readsBehindRule (iI c) σ = some (iI x, τ) ∧ Fr 138 139 σ τ ∧ ((bhd q c = none ∧ x = 0) ∨ ∃ q', bhd q c = some q' ∧ x = 1 ∧ RD τ q') := by
  unfold f_X2_readsBehindRule
  by_cases c1 : c = 94
  · refine ⟨sI σ 138 5 (iI 7), 1, ?_, Fr.sI (by omega) (by omega), .inr ⟨(7, q.2), ?_, rfl, ?_⟩⟩
    · simp (disch := omega) only [iI_lit, ofNat_iI, iI_add, iI_sub, iI_mul, iI_neg, iI_lt_t, iI_lt_f, iI_le_t, iI_le_f, iI_eq_t, iI_eq_f, iI_div, rm_iI, tc_iI, inB_iI, nz_iI, is01_0, is01_1, gd_tt, bd_mk, bv_mk, oc_mk, lt_mk, Bool.false_eq_true, ↓reduceIte, c1]
    · unfold bhd; rw [if_pos c1]
    · obtain ⟨r1, r2, r3, r4, r5, r6⟩ := hD
      refine ⟨?_, ?_, ?_, ?_, ?_, ?_⟩ <;> simp [sI_cc, *]
  · obtain ⟨τ, x, y1, y2, y3⟩ := sep_v (σ := σ) hc
    refine ⟨τ, x, ?_, y2, ?_⟩
    · rcases y3 with ⟨z1, z2, z3⟩ | ⟨z1, z2, z3⟩
      · rw [z2] at y1
        simp (disch := omega) only [iI_lit, ofNat_iI, iI_add, iI_sub, iI_mul, iI_neg, iI_lt_t, iI_lt_f, iI_le_t, iI_le_f, iI_eq_t, iI_eq_f, iI_div, rm_iI, tc_iI, inB_iI, nz_iI, is01_0, is01_1, gd_tt, bd_mk, bv_mk, oc_mk, lt_mk, Bool.false_eq_true, ↓reduceIte, c1, y1, z2]
      · rw [z2] at y1
        simp (disch := omega) only [iI_lit, ofNat_iI, iI_add, iI_sub, iI_mul, iI_neg, iI_lt_t, iI_lt_f, iI_le_t, iI_le_f, iI_eq_t, iI_eq_f, iI_div, rm_iI, tc_iI, inB_iI, nz_iI, is01_0, is01_1, gd_tt, bd_mk, bv_mk, oc_mk, lt_mk, Bool.false_eq_true, ↓reduceIte, c1, y1, z2]
    · unfold bhd
      rw [if_neg c1]
      rcases y3 with ⟨z1, z2, z3⟩ | ⟨z1, z2, z3⟩
      · rw [if_neg z1]; exact .inl ⟨rfl, z2⟩
      · rw [if_pos z1]; exact .inr ⟨q0, rfl, z2, z3⟩
theorem reads_v {q : Q6} {c : Int} {σ : St} (hD : RD σ q) (hB : RB q) (hc : 33 ≤ c ∧ c ≤ 126) : ∃ τ x, f_X2_reads (iI c) σ = some (iI x, τ) ∧ Fr 138 139 σ τ ∧ ((rd q c = none ∧ x = 0) ∨ ∃ q', rd q c = some q' ∧ x = 1 ∧ RD τ q') := by
  have hw := hasW_v hD hB
  have hd := isDigit_v (c := c) (by omega) σ
  obtain ⟨p, r, n, m, o, k⟩ := q
  obtain ⟨h1, h2, h3, h4, h5, h6, h7, h8, h9, h10, h11⟩ := RB_x hB
  simp only at hw
  obtain ⟨r1, r2, r3, r4, r5, r6⟩ := id hD
  simp only at r1 r2 r3 r4 r5 r6
  have hm : mst r ≤ 365 := by unfold mst; split <;> omega
  have F : ∀ (υ : St) (k : Nat) (v : Int32), Fr 138 139 υ (sI υ 138 k v) := fun υ k v => Fr.sI (by omega) (by omega)
  rcases (show p = 0 ∨ p = 1 ∨ p = 2 ∨ p = 3 ∨ p = 4 ∨ p = 5 ∨ p = 6 ∨ p = 7 ∨ p = 8 by omega) with rfl | rfl | rfl | rfl | rfl | rfl | rfl | rfl | rfl
  · -- the rule
    rw [show rd (0, r, n, m, o, k) c = (if c = 97 then some (1, 3, n, m, o, k) else if c = 100 then some (3, 0, n, m, o, k) else if c = 109 then some (3, 2, n, m, o, k) else if c = 119 then some (3, 1, n, m, o, k) else none) from rfl]
    by_cases c1 : c = 97
    · refine ⟨sI (sI σ 138 0 (iI 3)) 138 5 (iI 1), 1, ?_, (F _ _ _).tr (F _ _ _), .inr ⟨_, if_pos c1, rfl, ?_⟩⟩
      · unfold f_X2_reads f_X2_readsRule f_X2_readsRule_b78
        simp (disch := omega) only [iI_lit, ofNat_iI, iI_add, iI_sub, iI_mul, iI_neg, iI_lt_t, iI_lt_f, iI_le_t, iI_le_f, iI_eq_t, iI_eq_f, iI_div, rm_iI, tc_iI, inB_iI, nz_iI, is01_0, is01_1, gd_tt, bd_mk, bv_mk, oc_mk, lt_mk, Bool.false_eq_true, ↓reduceIte, r1, c1, sI_hit]
      · refine ⟨?_, ?_, ?_, ?_, ?_, ?_⟩ <;> simp [sI_cc, *]
    · rw [if_neg c1]
      by_cases c2 : c = 100
      · refine ⟨sI (sI σ 138 0 (iI 0)) 138 5 (iI 3), 1, ?_, (F _ _ _).tr (F _ _ _), .inr ⟨_, if_pos c2, rfl, ?_⟩⟩
        · unfold f_X2_reads f_X2_readsRule f_X2_readsRule_b78
          simp (disch := omega) only [iI_lit, ofNat_iI, iI_add, iI_sub, iI_mul, iI_neg, iI_lt_t, iI_lt_f, iI_le_t, iI_le_f, iI_eq_t, iI_eq_f, iI_div, rm_iI, tc_iI, inB_iI, nz_iI, is01_0, is01_1, gd_tt, bd_mk, bv_mk, oc_mk, lt_mk, Bool.false_eq_true, ↓reduceIte, r1, c2, sI_hit]
        · refine ⟨?_, ?_, ?_, ?_, ?_, ?_⟩ <;> simp [sI_cc, *]
      · rw [if_neg c2]
        by_cases c3 : c = 109
        · refine ⟨sI (sI σ 138 0 (iI 2)) 138 5 (iI 3), 1, ?_, (F _ _ _).tr (F _ _ _), .inr ⟨_, if_pos c3, rfl, ?_⟩⟩
          · unfold f_X2_reads f_X2_readsRule f_X2_readsRule_b78
            simp (disch := omega) only [iI_lit, ofNat_iI, iI_add, iI_sub, iI_mul, iI_neg, iI_lt_t, iI_lt_f, iI_le_t, iI_le_f, iI_eq_t, iI_eq_f, iI_div, rm_iI, tc_iI, inB_iI, nz_iI, is01_0, is01_1, gd_tt, bd_mk, bv_mk, oc_mk, lt_mk, Bool.false_eq_true, ↓reduceIte, r1, c3, sI_hit]
          · refine ⟨?_, ?_, ?_, ?_, ?_, ?_⟩ <;> simp [sI_cc, *]
        · rw [if_neg c3]
          by_cases c4 : c = 119
          · refine ⟨sI (sI σ 138 0 (iI 1)) 138 5 (iI 3), 1, ?_, (F _ _ _).tr (F _ _ _), .inr ⟨_, if_pos c4, rfl, ?_⟩⟩
            · unfold f_X2_reads f_X2_readsRule f_X2_readsRule_b78
              simp (disch := omega) only [iI_lit, ofNat_iI, iI_add, iI_sub, iI_mul, iI_neg, iI_lt_t, iI_lt_f, iI_le_t, iI_le_f, iI_eq_t, iI_eq_f, iI_div, rm_iI, tc_iI, inB_iI, nz_iI, is01_0, is01_1, gd_tt, bd_mk, bv_mk, oc_mk, lt_mk, Bool.false_eq_true, ↓reduceIte, r1, c4, sI_hit]
            · refine ⟨?_, ?_, ?_, ?_, ?_, ?_⟩ <;> simp [sI_cc, *]
          · refine ⟨σ, 0, ?_, Fr.rfl, .inl ⟨if_neg c4, rfl⟩⟩
            unfold f_X2_reads f_X2_readsRule
            simp (disch := omega) only [iI_lit, ofNat_iI, iI_add, iI_sub, iI_mul, iI_neg, iI_lt_t, iI_lt_f, iI_le_t, iI_le_f, iI_eq_t, iI_eq_f, iI_div, rm_iI, tc_iI, inB_iI, nz_iI, is01_0, is01_1, gd_tt, bd_mk, bv_mk, oc_mk, lt_mk, Bool.false_eq_true, ↓reduceIte, r1, c1, c2, c3, c4]
  · rw [show rd (1, r, n, m, o, k) c = (if 48 ≤ c ∧ c ≤ 57 then some (2, r, n, m, c - 48, k) else none) from rfl]
    by_cases c1 : 48 ≤ c ∧ c ≤ 57
    · refine ⟨sI (sI σ 138 3 (iI (c - 48))) 138 5 (iI 2), 1, ?_, (F _ _ _).tr (F _ _ _), .inr ⟨_, if_pos c1, rfl, ?_⟩⟩
      · unfold f_X2_reads f_X2_readsOther
        simp (disch := omega) only [iI_lit, ofNat_iI, iI_add, iI_sub, iI_mul, iI_neg, iI_lt_t, iI_lt_f, iI_le_t, iI_le_f, iI_eq_t, iI_eq_f, iI_div, rm_iI, tc_iI, inB_iI, nz_iI, is01_0, is01_1, gd_tt, bd_mk, bv_mk, oc_mk, lt_mk, Bool.false_eq_true, ↓reduceIte, r1]
      · refine ⟨?_, ?_, ?_, ?_, ?_, ?_⟩ <;> simp [sI_cc, *]
    · refine ⟨σ, 0, ?_, Fr.rfl, .inl ⟨if_neg c1, rfl⟩⟩
      unfold f_X2_reads f_X2_readsOther
      by_cases c2 : c < 48
      · simp (disch := omega) only [iI_lit, ofNat_iI, iI_add, iI_sub, iI_mul, iI_neg, iI_lt_t, iI_lt_f, iI_le_t, iI_le_f, iI_eq_t, iI_eq_f, iI_div, rm_iI, tc_iI, inB_iI, nz_iI, is01_0, is01_1, gd_tt, bd_mk, bv_mk, oc_mk, lt_mk, Bool.false_eq_true, ↓reduceIte, r1]
      · simp (disch := omega) only [iI_lit, ofNat_iI, iI_add, iI_sub, iI_mul, iI_neg, iI_lt_t, iI_lt_f, iI_le_t, iI_le_f, iI_eq_t, iI_eq_f, iI_div, rm_iI, tc_iI, inB_iI, nz_iI, is01_0, is01_1, gd_tt, bd_mk, bv_mk, oc_mk, lt_mk, Bool.false_eq_true, ↓reduceIte, r1]
  · rw [show rd (2, r, n, m, o, k) c = (if c = 43 then some (3, r, n, 0, o, k) else if c = 45 then some (3, r, n, 1, o, k) else none) from rfl]
    by_cases c1 : c = 43
    · refine ⟨sI (sI σ 138 2 (iI 0)) 138 5 (iI 3), 1, ?_, (F _ _ _).tr (F _ _ _), .inr ⟨_, if_pos c1, rfl, ?_⟩⟩
      · unfold f_X2_reads f_X2_readsSign f_X2_readsSign_b14 f_X2_readsSign_b26
        simp (disch := omega) only [iI_lit, ofNat_iI, iI_add, iI_sub, iI_mul, iI_neg, iI_lt_t, iI_lt_f, iI_le_t, iI_le_f, iI_eq_t, iI_eq_f, iI_div, rm_iI, tc_iI, inB_iI, nz_iI, is01_0, is01_1, gd_tt, bd_mk, bv_mk, oc_mk, lt_mk, Bool.false_eq_true, ↓reduceIte, r1, c1]
      · refine ⟨?_, ?_, ?_, ?_, ?_, ?_⟩ <;> simp [sI_cc, *]
    · rw [if_neg c1]
      by_cases c2 : c = 45
      · refine ⟨sI (sI σ 138 2 (iI 1)) 138 5 (iI 3), 1, ?_, (F _ _ _).tr (F _ _ _), .inr ⟨_, if_pos c2, rfl, ?_⟩⟩
        · unfold f_X2_reads f_X2_readsSign f_X2_readsSign_b14 f_X2_readsSign_b26
          simp (disch := omega) only [iI_lit, ofNat_iI, iI_add, iI_sub, iI_mul, iI_neg, iI_lt_t, iI_lt_f, iI_le_t, iI_le_f, iI_eq_t, iI_eq_f, iI_div, rm_iI, tc_iI, inB_iI, nz_iI, is01_0, is01_1, gd_tt, bd_mk, bv_mk, oc_mk, lt_mk, Bool.false_eq_true, ↓reduceIte, r1, c2]
        · refine ⟨?_, ?_, ?_, ?_, ?_, ?_⟩ <;> simp [sI_cc, *]
      · refine ⟨σ, 0, ?_, Fr.rfl, .inl ⟨if_neg c2, rfl⟩⟩
        unfold f_X2_reads f_X2_readsSign
        simp (disch := omega) only [iI_lit, ofNat_iI, iI_add, iI_sub, iI_mul, iI_neg, iI_lt_t, iI_lt_f, iI_le_t, iI_le_f, iI_eq_t, iI_eq_f, iI_div, rm_iI, tc_iI, inB_iI, nz_iI, is01_0, is01_1, gd_tt, bd_mk, bv_mk, oc_mk, lt_mk, Bool.false_eq_true, ↓reduceIte, r1, c1, c2]
  · rw [show rd (3, r, n, m, o, k) c = (if 48 ≤ c ∧ c ≤ 57 then some (4, r, c - 48, m, o, k) else none) from rfl]
    by_cases c1 : 48 ≤ c ∧ c ≤ 57
    · rw [if_pos c1] at hd
      refine ⟨sI (sI σ 138 1 (iI (c - 48))) 138 5 (iI 4), 1, ?_, (F _ _ _).tr (F _ _ _), .inr ⟨_, if_pos c1, rfl, ?_⟩⟩
      · unfold f_X2_reads f_X2_readsFirstDigit
        simp (disch := omega) only [iI_lit, ofNat_iI, iI_add, iI_sub, iI_mul, iI_neg, iI_lt_t, iI_lt_f, iI_le_t, iI_le_f, iI_eq_t, iI_eq_f, iI_div, rm_iI, tc_iI, inB_iI, nz_iI, is01_0, is01_1, gd_tt, bd_mk, bv_mk, oc_mk, lt_mk, Bool.false_eq_true, ↓reduceIte, r1, hd]
      · refine ⟨?_, ?_, ?_, ?_, ?_, ?_⟩ <;> simp [sI_cc, *]
    · rw [if_neg c1] at hd
      refine ⟨σ, 0, ?_, Fr.rfl, .inl ⟨if_neg c1, rfl⟩⟩
      unfold f_X2_reads f_X2_readsFirstDigit
      simp (disch := omega) only [iI_lit, ofNat_iI, iI_add, iI_sub, iI_mul, iI_neg, iI_lt_t, iI_lt_f, iI_le_t, iI_le_f, iI_eq_t, iI_eq_f, iI_div, rm_iI, tc_iI, inB_iI, nz_iI, is01_0, is01_1, gd_tt, bd_mk, bv_mk, oc_mk, lt_mk, Bool.false_eq_true, ↓reduceIte, r1, hd]
  · -- in a number
    rw [show rd (4, r, n, m, o, k) c = (if (48 ≤ c ∧ c ≤ 57) ∧ n ≠ 0 ∧ n * 10 + c - 48 ≤ mst r then some (4, r, n * 10 + c - 48, m, o, k) else if r = 1 ∨ r = 2 then (if c = 44 then some (5, r, n, m, o, k) else none) else bhd (4, r, n, m, o, k) c) from rfl]
    have NX : f_X2_readsNextDigit (iI c) σ = if (48 ≤ c ∧ c ≤ 57) ∧ n ≠ 0 ∧ n * 10 + c - 48 ≤ mst r then some (iI 1, sI σ 138 1 (iI (n * 10 + c - 48))) else some (iI 0, σ) := by
      unfold f_X2_readsNextDigit f_X2_readsNextDigit_b29 mst
      by_cases c1 : 48 ≤ c ∧ c ≤ 57
      · rw [if_pos c1] at hd
        by_cases c2 : n = 0
        · rw [if_neg (show ¬ ((48 ≤ c ∧ c ≤ 57) ∧ n ≠ 0 ∧ n * 10 + c - 48 ≤ (if r = 3 then 90 else 365)) from fun q => q.2.1 c2)]
          by_cases c4 : r = 3
          · simp (disch := omega) only [iI_lit, ofNat_iI, iI_add, iI_sub, iI_mul, iI_neg, iI_lt_t, iI_lt_f, iI_le_t, iI_le_f, iI_eq_t, iI_eq_f, iI_div, rm_iI, tc_iI, inB_iI, nz_iI, is01_0, is01_1, gd_tt, bd_mk, bv_mk, oc_mk, lt_mk, Bool.false_eq_true, ↓reduceIte, r2, r3, c2, c4, hd]
          · simp (disch := omega) only [iI_lit, ofNat_iI, iI_add, iI_sub, iI_mul, iI_neg, iI_lt_t, iI_lt_f, iI_le_t, iI_le_f, iI_eq_t, iI_eq_f, iI_div, rm_iI, tc_iI, inB_iI, nz_iI, is01_0, is01_1, gd_tt, bd_mk, bv_mk, oc_mk, lt_mk, Bool.false_eq_true, ↓reduceIte, r2, r3, c2, hd]
        · by_cases c4 : r = 3
          · rw [if_pos c4]
            by_cases c3 : n * 10 + c - 48 ≤ 90
            · rw [if_pos ⟨c1, c2, c3⟩]
              simp (disch := omega) only [iI_lit, ofNat_iI, iI_add, iI_sub, iI_mul, iI_neg, iI_lt_t, iI_lt_f, iI_le_t, iI_le_f, iI_eq_t, iI_eq_f, iI_div, rm_iI, tc_iI, inB_iI, nz_iI, is01_0, is01_1, gd_tt, bd_mk, bv_mk, oc_mk, lt_mk, Bool.false_eq_true, ↓reduceIte, r2, r3, c4, hd]
            · rw [if_neg (fun q => c3 q.2.2)]
              simp (disch := omega) only [iI_lit, ofNat_iI, iI_add, iI_sub, iI_mul, iI_neg, iI_lt_t, iI_lt_f, iI_le_t, iI_le_f, iI_eq_t, iI_eq_f, iI_div, rm_iI, tc_iI, inB_iI, nz_iI, is01_0, is01_1, gd_tt, bd_mk, bv_mk, oc_mk, lt_mk, Bool.false_eq_true, ↓reduceIte, r2, r3, c4, hd]
          · rw [if_neg c4]
            by_cases c3 : n * 10 + c - 48 ≤ 365
            · rw [if_pos ⟨c1, c2, c3⟩]
              simp (disch := omega) only [iI_lit, ofNat_iI, iI_add, iI_sub, iI_mul, iI_neg, iI_lt_t, iI_lt_f, iI_le_t, iI_le_f, iI_eq_t, iI_eq_f, iI_div, rm_iI, tc_iI, inB_iI, nz_iI, is01_0, is01_1, gd_tt, bd_mk, bv_mk, oc_mk, lt_mk, Bool.false_eq_true, ↓reduceIte, r2, r3, hd]
            · rw [if_neg (fun q => c3 q.2.2)]
              simp (disch := omega) only [iI_lit, ofNat_iI, iI_add, iI_sub, iI_mul, iI_neg, iI_lt_t, iI_lt_f, iI_le_t, iI_le_f, iI_eq_t, iI_eq_f, iI_div, rm_iI, tc_iI, inB_iI, nz_iI, is01_0, is01_1, gd_tt, bd_mk, bv_mk, oc_mk, lt_mk, Bool.false_eq_true, ↓reduceIte, r2, r3, hd]
      · rw [if_neg c1] at hd
        rw [if_neg (fun q => c1 q.1)]
        by_cases c4 : r = 3
        · simp (disch := omega) only [iI_lit, ofNat_iI, iI_add, iI_sub, iI_mul, iI_neg, iI_lt_t, iI_lt_f, iI_le_t, iI_le_f, iI_eq_t, iI_eq_f, iI_div, rm_iI, tc_iI, inB_iI, nz_iI, is01_0, is01_1, gd_tt, bd_mk, bv_mk, oc_mk, lt_mk, Bool.false_eq_true, ↓reduceIte, r2, r3, c4, hd]
        · simp (disch := omega) only [iI_lit, ofNat_iI, iI_add, iI_sub, iI_mul, iI_neg, iI_lt_t, iI_lt_f, iI_le_t, iI_le_f, iI_eq_t, iI_eq_f, iI_div, rm_iI, tc_iI, inB_iI, nz_iI, is01_0, is01_1, gd_tt, bd_mk, bv_mk, oc_mk, lt_mk, Bool.false_eq_true, ↓reduceIte, r2, r3, hd]
    by_cases c1 : (48 ≤ c ∧ c ≤ 57) ∧ n ≠ 0 ∧ n * 10 + c - 48 ≤ mst r
    · rw [if_pos c1] at NX
      refine ⟨sI σ 138 1 (iI (n * 10 + c - 48)), 1, ?_, F _ _ _, .inr ⟨_, if_pos c1, rfl, ?_⟩⟩
      · unfold f_X2_reads
        simp (disch := omega) only [iI_lit, ofNat_iI, iI_add, iI_sub, iI_mul, iI_neg, iI_lt_t, iI_lt_f, iI_le_t, iI_le_f, iI_eq_t, iI_eq_f, iI_div, rm_iI, tc_iI, inB_iI, nz_iI, is01_0, is01_1, gd_tt, bd_mk, bv_mk, oc_mk, lt_mk, Bool.false_eq_true, ↓reduceIte, r1, NX]
      · refine ⟨?_, ?_, ?_, ?_, ?_, ?_⟩ <;> simp [sI_cc, r1, r2, r3, r4, r5, r6]
    · rw [if_neg c1] at NX
      rw [if_neg c1]
      by_cases c2 : r = 1 ∨ r = 2
      · rw [if_pos c2] at hw
        rw [if_pos c2]
        by_cases c3 : c = 44
        · refine ⟨sI σ 138 5 (iI 5), 1, ?_, F _ _ _, .inr ⟨_, if_pos c3, rfl, ?_⟩⟩
          · subst c3
            unfold f_X2_reads f_X2_readsComma
            simp (disch := omega) only [iI_lit, ofNat_iI, iI_add, iI_sub, iI_mul, iI_neg, iI_lt_t, iI_lt_f, iI_le_t, iI_le_f, iI_eq_t, iI_eq_f, iI_div, rm_iI, tc_iI, inB_iI, nz_iI, is01_0, is01_1, gd_tt, bd_mk, bv_mk, oc_mk, lt_mk, Bool.false_eq_true, ↓reduceIte, r1, NX, hw]
          · refine ⟨?_, ?_, ?_, ?_, ?_, ?_⟩ <;> simp [sI_cc, r1, r2, r3, r4, r5, r6]
        · refine ⟨σ, 0, ?_, Fr.rfl, .inl ⟨if_neg c3, rfl⟩⟩
          unfold f_X2_reads f_X2_readsComma
          simp (disch := omega) only [iI_lit, ofNat_iI, iI_add, iI_sub, iI_mul, iI_neg, iI_lt_t, iI_lt_f, iI_le_t, iI_le_f, iI_eq_t, iI_eq_f, iI_div, rm_iI, tc_iI, inB_iI, nz_iI, is01_0, is01_1, gd_tt, bd_mk, bv_mk, oc_mk, lt_mk, Bool.false_eq_true, ↓reduceIte, r1, NX, hw, c3]
      · rw [if_neg c2] at hw
        rw [if_neg c2]
        obtain ⟨τ, x, y1, y2, y3⟩ := bhd_v (c := c) hD (by omega)
        refine ⟨τ, x, ?_, y2, y3⟩
        unfold f_X2_reads
        rcases y3 with ⟨z1, z2⟩ | ⟨q', z1, z2, z3⟩
        · rw [z2] at y1 ⊢
          simp (disch := omega) only [iI_lit, ofNat_iI, iI_add, iI_sub, iI_mul, iI_neg, iI_lt_t, iI_lt_f, iI_le_t, iI_le_f, iI_eq_t, iI_eq_f, iI_div, rm_iI, tc_iI, inB_iI, nz_iI, is01_0, is01_1, gd_tt, bd_mk, bv_mk, oc_mk, lt_mk, Bool.false_eq_true, ↓reduceIte, r1, NX, hw, y1]
        · rw [z2] at y1 ⊢
          simp (disch := omega) only [iI_lit, ofNat_iI, iI_add, iI_sub, iI_mul, iI_neg, iI_lt_t, iI_lt_f, iI_le_t, iI_le_f, iI_eq_t, iI_eq_f, iI_div, rm_iI, tc_iI, inB_iI, nz_iI, is01_0, is01_1, gd_tt, bd_mk, bv_mk, oc_mk, lt_mk, Bool.false_eq_true, ↓reduceIte, r1, NX, hw, y1]
  · rw [show rd (5, r, n, m, o, k) c = (if 48 ≤ c ∧ c ≤ 54 then some (6, r, n, m, c - 48, k) else none) from rfl]
    by_cases c1 : 48 ≤ c ∧ c ≤ 54
    · refine ⟨sI (sI σ 138 3 (iI (c - 48))) 138 5 (iI 6), 1, ?_, (F _ _ _).tr (F _ _ _), .inr ⟨_, if_pos c1, rfl, ?_⟩⟩
      · unfold f_X2_reads f_X2_readsOther
        simp (disch := omega) only [iI_lit, ofNat_iI, iI_add, iI_sub, iI_mul, iI_neg, iI_lt_t, iI_lt_f, iI_le_t, iI_le_f, iI_eq_t, iI_eq_f, iI_div, rm_iI, tc_iI, inB_iI, nz_iI, is01_0, is01_1, gd_tt, bd_mk, bv_mk, oc_mk, lt_mk, Bool.false_eq_true, ↓reduceIte, r1]
      · refine ⟨?_, ?_, ?_, ?_, ?_, ?_⟩ <;> simp [sI_cc, *]
    · refine ⟨σ, 0, ?_, Fr.rfl, .inl ⟨if_neg c1, rfl⟩⟩
      unfold f_X2_reads f_X2_readsOther
      by_cases c2 : c < 48
      · simp (disch := omega) only [iI_lit, ofNat_iI, iI_add, iI_sub, iI_mul, iI_neg, iI_lt_t, iI_lt_f, iI_le_t, iI_le_f, iI_eq_t, iI_eq_f, iI_div, rm_iI, tc_iI, inB_iI, nz_iI, is01_0, is01_1, gd_tt, bd_mk, bv_mk, oc_mk, lt_mk, Bool.false_eq_true, ↓reduceIte, r1]
      · simp (disch := omega) only [iI_lit, ofNat_iI, iI_add, iI_sub, iI_mul, iI_neg, iI_lt_t, iI_lt_f, iI_le_t, iI_le_f, iI_eq_t, iI_eq_f, iI_div, rm_iI, tc_iI, inB_iI, nz_iI, is01_0, is01_1, gd_tt, bd_mk, bv_mk, oc_mk, lt_mk, Bool.false_eq_true, ↓reduceIte, r1]
  · obtain ⟨τ, x, y1, y2, y3⟩ := bhd_v (c := c) hD (by omega)
    refine ⟨τ, x, ?_, y2, y3⟩
    unfold f_X2_reads
    rcases y3 with ⟨z1, z2⟩ | ⟨q', z1, z2, z3⟩
    · rw [z2] at y1 ⊢
      simp (disch := omega) only [iI_lit, ofNat_iI, iI_add, iI_sub, iI_mul, iI_neg, iI_lt_t, iI_lt_f, iI_le_t, iI_le_f, iI_eq_t, iI_eq_f, iI_div, rm_iI, tc_iI, inB_iI, nz_iI, is01_0, is01_1, gd_tt, bd_mk, bv_mk, oc_mk, lt_mk, Bool.false_eq_true, ↓reduceIte, r1, y1]
    · rw [z2] at y1 ⊢
      simp (disch := omega) only [iI_lit, ofNat_iI, iI_add, iI_sub, iI_mul, iI_neg, iI_lt_t, iI_lt_f, iI_le_t, iI_le_f, iI_eq_t, iI_eq_f, iI_div, rm_iI, tc_iI, inB_iI, nz_iI, is01_0, is01_1, gd_tt, bd_mk, bv_mk, oc_mk, lt_mk, Bool.false_eq_true, ↓reduceIte, r1, y1]
  · rw [show rd (7, r, n, m, o, k) c = (if 48 ≤ c ∧ c ≤ 57 then some (8, r, n, m, o, c - 48) else none) from rfl]
    by_cases c1 : 48 ≤ c ∧ c ≤ 57
    · rw [if_pos c1] at hd
      refine ⟨sI (sI σ 138 4 (iI (c - 48))) 138 5 (iI 8), 1, ?_, (F _ _ _).tr (F _ _ _), .inr ⟨_, if_pos c1, rfl, ?_⟩⟩
      · unfold f_X2_reads f_X2_readsRank
        simp (disch := omega) only [iI_lit, ofNat_iI, iI_add, iI_sub, iI_mul, iI_neg, iI_lt_t, iI_lt_f, iI_le_t, iI_le_f, iI_eq_t, iI_eq_f, iI_div, rm_iI, tc_iI, inB_iI, nz_iI, is01_0, is01_1, gd_tt, bd_mk, bv_mk, oc_mk, lt_mk, Bool.false_eq_true, ↓reduceIte, r1, hd]
      · refine ⟨?_, ?_, ?_, ?_, ?_, ?_⟩ <;> simp [sI_cc, *]
    · rw [if_neg c1] at hd
      refine ⟨σ, 0, ?_, Fr.rfl, .inl ⟨if_neg c1, rfl⟩⟩
      unfold f_X2_reads f_X2_readsRank
      simp (disch := omega) only [iI_lit, ofNat_iI, iI_add, iI_sub, iI_mul, iI_neg, iI_lt_t, iI_lt_f, iI_le_t, iI_le_f, iI_eq_t, iI_eq_f, iI_div, rm_iI, tc_iI, inB_iI, nz_iI, is01_0, is01_1, gd_tt, bd_mk, bv_mk, oc_mk, lt_mk, Bool.false_eq_true, ↓reduceIte, r1, hd]
  · rw [show rd (8, r, n, m, o, k) c = (if c = 59 then some q0 else none) from rfl]
    obtain ⟨τ, x, y1, y2, y3⟩ := sep_v (σ := σ) (c := c) (by omega)
    refine ⟨τ, x, ?_, y2, ?_⟩
    · unfold f_X2_reads
      rcases y3 with ⟨z1, z2, z3⟩ | ⟨z1, z2, z3⟩
      · rw [z2] at y1 ⊢
        simp (disch := omega) only [iI_lit, ofNat_iI, iI_add, iI_sub, iI_mul, iI_neg, iI_lt_t, iI_lt_f, iI_le_t, iI_le_f, iI_eq_t, iI_eq_f, iI_div, rm_iI, tc_iI, inB_iI, nz_iI, is01_0, is01_1, gd_tt, bd_mk, bv_mk, oc_mk, lt_mk, Bool.false_eq_true, ↓reduceIte, r1, y1]
      · rw [z2] at y1 ⊢
        simp (disch := omega) only [iI_lit, ofNat_iI, iI_add, iI_sub, iI_mul, iI_neg, iI_lt_t, iI_lt_f, iI_le_t, iI_le_f, iI_eq_t, iI_eq_f, iI_div, rm_iI, tc_iI, inB_iI, nz_iI, is01_0, is01_1, gd_tt, bd_mk, bv_mk, oc_mk, lt_mk, Bool.false_eq_true, ↓reduceIte, r1, y1]
    · rcases y3 with ⟨z1, z2, z3⟩ | ⟨z1, z2, z3⟩
      · rw [if_neg z1]; exact .inl ⟨rfl, z2⟩
      · rw [if_pos z1]; exact .inr ⟨q0, rfl, z2, z3⟩
/-! the run over the buffer -/
def rch (b : Nat → Int) : Nat → Option Q6
  | 0 => some q0
  | i + 1 => match rch b i with
    | none => none
    | some q => rd q (b i)
theorem rch_s {b : Nat → Int} {i : Nat} {q : Q6} (h : rch b i = some q) : rch b (i + 1) = rd q (b i) := by
  show (match rch b i with | none => none | some q => rd q (b i)) = _
  rw [h]
theorem rch_n {b : Nat → Int} {i : Nat} (h : rch b i = none) : rch b (i + 1) = none := by
  show (match rch b i with | none => none | some q => rd q (b i)) = _
  rw [h]
theorem rch_up {b : Nat → Int} {i : Nat} (h : rch b i = none) : ∀ k, rch b (i + k) = none := by
  intro k
  induction k with
  | zero => exact h
  | succ k ih => exact rch_n ih
theorem rch_RB {b : Nat → Int} : ∀ {i : Nat} {q : Q6}, rch b i = some q → RB q := by
  intro i
  induction i with
  | zero => intro q h; obtain rfl := Option.some.inj h; exact RB_0
  | succ i ih =>
    intro q h
    cases h2 : rch b i with
    | none => rw [rch_n h2] at h; cases h
    | some q2 => rw [rch_s h2] at h; exact RB_s (ih h2) h
def TX (len : Nat) (b : Nat → Int) : Prop := len ≤ 60 ∧ ∀ i, i < len → 33 ≤ b i ∧ b i ≤ 126
/-- how far the class's reader comes -/
theorem wellC {len : Nat} {b : Nat → Int} {σ : St} (hB : BC σ len b) (hT : TX len b) : ∃ τ e q, f_X6_signsReadWell σ = some (iI ((e : Nat) : Int), τ) ∧ Fr 138 139 σ τ ∧ e ≤ len ∧ rch b e = some q ∧ ((e = len ∧ RD τ q) ∨ (e < len ∧ rd q (b e) = none)) := by
  obtain ⟨σ1, s1, s2, s3⟩ := start_v σ
  have r8 : ∀ {τ : St}, Fr 138 139 σ τ → τ.1 0 8 = iI (len : Int) ∧ ∀ i : Nat, i < len → τ.1 137 i = iI (b i) := fun e => ⟨by rw [e.at (by omega)]; exact hB.1, fun i hi => by rw [e.at (by omega)]; exact hB.2 i hi⟩
  have H := wlp (F := fun g (s : Nat × St) => f_X6_signsReadWell_l9 g (iI (s.1 : Int)) s.2) (X := fun (s : Nat × St) => some (iI ((s.1 : Nat) : Int), s.2)) (fun s => len - s.1) (fun s => s.1 ≤ len ∧ Fr 138 139 σ s.2 ∧ ∃ q, rch b s.1 = some q ∧ RD s.2 q) (fun s => Fr 138 139 σ s.2 ∧ s.1 ≤ len ∧ ∃ q, rch b s.1 = some q ∧ ((s.1 = len ∧ RD s.2 q) ∨ (s.1 < len ∧ rd q (b s.1) = none))) (by
    rintro g ⟨i, τ⟩ ⟨h0, hF, q, h1, h2⟩
    simp only at h0 hF h1 h2
    obtain ⟨t8, tb⟩ := r8 hF
    have hl := hT.1
    rcases (show i = len ∨ i < len by omega) with h | h
    · refine .inl ⟨(i, τ), ⟨hF, h0, q, h1, .inl ⟨h, h2⟩⟩, ?_⟩
      show f_X6_signsReadWell_b9 _ _ _ = some (iI ((i : Nat) : Int), τ)
      unfold f_X6_signsReadWell_b9
      simp (disch := omega) only [iI_lit, ofNat_iI, iI_add, iI_sub, iI_mul, iI_neg, iI_lt_t, iI_lt_f, iI_le_t, iI_le_f, iI_eq_t, iI_eq_f, iI_div, rm_iI, tc_iI, inB_iI, nz_iI, is01_0, is01_1, gd_tt, bd_mk, bv_mk, oc_mk, lt_mk, Bool.false_eq_true, ↓reduceIte, t8, h]
    · have k1 := at_in (c := 136) (N := 60) rfl (by omega) (i := (i : Int)) (σ := τ) (by omega) (by have := hT.1; omega)
      have e0 : ((i : Int)).toNat = i := by omega
      rw [e0, show τ.1 (136 + 1) i = _ from tb i h] at k1
      obtain ⟨υ, x, y1, y2, y3⟩ := reads_v h2 (rch_RB h1) (hT.2 i h)
      rcases y3 with ⟨z1, z2⟩ | ⟨q', z1, z2, z3⟩
      · refine .inl ⟨(i, υ), ⟨hF.tr y2, h0, q, h1, .inr ⟨h, z1⟩⟩, ?_⟩
        show f_X6_signsReadWell_b9 _ _ _ = some (iI ((i : Nat) : Int), υ)
        unfold f_X6_signsReadWell_b9
        rw [z2] at y1
        simp (disch := omega) only [iI_lit, ofNat_iI, iI_add, iI_sub, iI_mul, iI_neg, iI_lt_t, iI_lt_f, iI_le_t, iI_le_f, iI_eq_t, iI_eq_f, iI_div, rm_iI, tc_iI, inB_iI, nz_iI, is01_0, is01_1, gd_tt, bd_mk, bv_mk, oc_mk, lt_mk, Bool.false_eq_true, ↓reduceIte, t8, k1, y1]
      · have e1 : (i : Int) + 1 = ((i + 1 : Nat) : Int) := by omega
        refine .inr ⟨(i + 1, υ), ⟨by simp only; omega, hF.tr y2, q', by rw [rch_s h1]; exact z1, z3⟩, by simp only; omega, ?_⟩
        show f_X6_signsReadWell_b9 _ _ _ = _
        unfold f_X6_signsReadWell_b9
        rw [z2] at y1
        simp (disch := omega) only [iI_lit, ofNat_iI, iI_add, iI_sub, iI_mul, iI_neg, iI_lt_t, iI_lt_f, iI_le_t, iI_le_f, iI_eq_t, iI_eq_f, iI_div, rm_iI, tc_iI, inB_iI, nz_iI, is01_0, is01_1, gd_tt, bd_mk, bv_mk, oc_mk, lt_mk, Bool.false_eq_true, ↓reduceIte, t8, k1, y1, e1])
  obtain ⟨⟨e, τ⟩, ⟨h1, h2, q, h3, h4⟩, h5⟩ := H FU (0, σ1) ⟨by simp, s2, q0, rfl, s3⟩ (by have := hT.1; simp only [FU]; omega)
  refine ⟨τ, e, q, ?_, h1, h2, h3, h4⟩
  unfold f_X6_signsReadWell
  rw [s1]
  simp only [bv_mk, iI_lit]
  exact h5
