/-! the law types a feast -/
theorem andM (x M : Int32) (N : Nat) (h : M.toBitVec.toNat = N) (h2 : 2 * N < 4294967296) : ∃ a : Int, x &&& M = iI a ∧ 0 ≤ a ∧ a ≤ N := by
  have e1 : (x &&& M).toBitVec.toNat ≤ N := by rw [Int32.toBitVec_and, BitVec.toNat_and, h]; exact Nat.and_le_right
  have e2 : (x &&& M).toInt = ((x &&& M).toBitVec.toNat : Int) := by
    show (x &&& M).toBitVec.toInt = _
    rw [BitVec.toInt_eq_toNat_cond, if_pos (by omega)]
  exact ⟨(x &&& M).toInt, (toInt_iI _).symm, by omega, by omega⟩
theorem low_v (x : Int32) {n : Int} (hn : 0 < n ∧ n ≤ 2000) (σ : St) : ∃ r : Int, f_L_low x (iI n) σ = some (iI r, σ) ∧ 0 ≤ r ∧ r < n := by
  obtain ⟨a, h1, h2, h3⟩ := andM x 2147483647 2147483647 (by decide) (by omega)
  have hr := Int.emod_lt_of_pos a hn.1
  have hr0 := Int.emod_nonneg a (show n ≠ 0 by omega)
  refine ⟨a % n, ?_, hr0, hr⟩
  unfold f_L_low
  rw [h1, rm_iI h2 (by omega) hn.1 (by omega), nz_iI (by omega) (by omega) (by omega), gd_tt]
theorem rch_cong {b b' : Nat → Int} : ∀ {i : Nat}, (∀ x, x < i → b' x = b x) → rch b' i = rch b i := by
  intro i
  induction i with
  | zero => intro _; rfl
  | succ i ih =>
    intro h
    show (match rch b' i with | none => none | some q => rd q (b' i)) = (match rch b i with | none => none | some q => rd q (b i))
    rw [ih (fun x hx => h x (by omega)), h i (by omega)]
section TEXT
variable {σ : St} {V : Nat → Int} {m : Nat} {W : Nat → Nat → Int} {len : Nat} {b : Nat → Int} {q q' : Q6}
/-- a text that has been typed so far -/
def TB (σ : St) (V : Nat → Int) (m : Nat) (W : Nat → Nat → Int) (len : Nat) (q : Q6) : Prop := ∃ b, JB σ V m W len b ∧ rch b len = some q ∧ ∀ x, x < len → b x ≠ 59
theorem TB.app {a : Int} (h : TB σ V m W len q) (ha : 33 ≤ a ∧ a ≤ 126) (h59 : a ≠ 59) (hl : len < 60) (hq : rd q a = some q') : ∃ τ x, f_X6_append (iI a) σ = some (x, τ) ∧ TB τ V m W (len + 1) q' := by
  obtain ⟨b, h1, h2, h3⟩ := h
  obtain ⟨τ, x1, x2⟩ := g_append h1 ha hl
  refine ⟨τ, _, x1, updf b len a, x2, ?_, fun x hx => ?_⟩
  · have e : rch (updf b len a) len = some q := by rw [rch_cong (b := b) (fun x hx => updf_ne (by omega))]; exact h2
    rw [rch_s e, updf_at]; exact hq
  · by_cases c : x = len
    · rw [c, updf_at]; exact h59
    · rw [updf_ne c]; exact h3 x (by omega)
theorem TB.dig {v : Int} (h : TB σ V m W len q) (hv : 0 ≤ v ∧ v ≤ 9) (hl : len < 60) (hq : rd q (48 + v) = some q') : ∃ τ, f_L_number (iI v) σ = some τ ∧ TB τ V m W (len + 1) q' := by
  obtain ⟨τ, x, x1, x2⟩ := h.app (a := 48 + v) (by omega) (by omega) hl hq
  refine ⟨τ, ?_, x2⟩
  have e : v % 10 = v := by omega
  unfold f_L_number f_L_number_b18 f_L_number_b39
  simp (disch := omega) only [iI_lit, ofNat_iI, iI_add, iI_sub, iI_mul, iI_neg, iI_lt_t, iI_lt_f, iI_le_t, iI_le_f, iI_eq_t, iI_eq_f, iI_div, rm_iI, tc_iI, inB_iI, nz_iI, is01_0, is01_1, gd_tt, bd_mk, bv_mk, oc_mk, lt_mk, Bool.false_eq_true, ↓reduceIte, e, x1]
theorem rd3 {r n0 m o k v : Int} (hv : 0 ≤ v ∧ v ≤ 9) : rd (3, r, n0, m, o, k) (48 + v) = some (4, r, v, m, o, k) := by
  unfold rd
  simp (disch := omega) only [show ¬ ((3 : Int) = 0) by omega, show ¬ ((3 : Int) = 1) by omega, show ¬ ((3 : Int) = 2) by omega, ↓reduceIte]
  rw [if_pos (by omega), show 48 + v - 48 = v by omega]
theorem rd4 {r n0 m o k v : Int} (hv : 0 ≤ v ∧ v ≤ 9) (h0 : n0 ≠ 0) (h1 : n0 * 10 + v ≤ mst r) : rd (4, r, n0, m, o, k) (48 + v) = some (4, r, n0 * 10 + v, m, o, k) := by
  unfold rd
  simp (disch := omega) only [show ¬ ((4 : Int) = 0) by omega, show ¬ ((4 : Int) = 1) by omega, show ¬ ((4 : Int) = 2) by omega, show ¬ ((4 : Int) = 3) by omega, ↓reduceIte]
  rw [if_pos ⟨by omega, h0, by omega⟩, show n0 * 10 + (48 + v) - 48 = n0 * 10 + v by omega]
theorem TB.num {r n0 m0 o k v : Int} (h : TB σ V m W len (3, r, n0, m0, o, k)) (hv : 0 ≤ v ∧ v ≤ mst r) (hl : len + 3 ≤ 60) : ∃ τ len', f_L_number (iI v) σ = some τ ∧ len' ≤ len + 3 ∧ TB τ V m W len' (4, r, v, m0, o, k) := by
  have hm : mst r ≤ 365 := by unfold mst; split <;> omega
  by_cases c1 : v ≤ 9
  · obtain ⟨τ, x1, x2⟩ := h.dig ⟨hv.1, c1⟩ (by omega) (rd3 ⟨hv.1, c1⟩)
    exact ⟨τ, len + 1, x1, by omega, x2⟩
  · by_cases c2 : v ≤ 99
    · obtain ⟨τ1, y1, x1, x2⟩ := h.app (a := 48 + v / 10) (by omega) (by omega) (by omega) (rd3 (v := v / 10) (by omega))
      obtain ⟨τ2, y2, x3, x4⟩ := x2.app (a := 48 + v % 10) (by omega) (by omega) (by omega) (rd4 (v := v % 10) (by omega) (by omega) (by omega))
      rw [show v / 10 * 10 + v % 10 = v by omega] at x4
      have e : v / 10 % 10 = v / 10 := by omega
      refine ⟨τ2, len + 1 + 1, ?_, by omega, x4⟩
      unfold f_L_number f_L_number_b18 f_L_number_b39
      simp (disch := omega) only [iI_lit, ofNat_iI, iI_add, iI_sub, iI_mul, iI_neg, iI_lt_t, iI_lt_f, iI_le_t, iI_le_f, iI_eq_t, iI_eq_f, iI_div, rm_iI, tc_iI, inB_iI, nz_iI, is01_0, is01_1, gd_tt, bd_mk, bv_mk, oc_mk, lt_mk, Bool.false_eq_true, ↓reduceIte, e, x1, x3]
    · obtain ⟨τ1, y1, x1, x2⟩ := h.app (a := 48 + v / 100) (by omega) (by omega) (by omega) (rd3 (v := v / 100) (by omega))
      obtain ⟨τ2, y2, x3, x4⟩ := x2.app (a := 48 + v / 10 % 10) (by omega) (by omega) (by omega) (rd4 (v := v / 10 % 10) (by omega) (by omega) (by omega))
      obtain ⟨τ3, y3, x5, x6⟩ := x4.app (a := 48 + v % 10) (by omega) (by omega) (by omega) (rd4 (v := v % 10) (by omega) (by omega) (by omega))
      rw [show (v / 100 * 10 + v / 10 % 10) * 10 + v % 10 = v by omega] at x6
      refine ⟨τ3, len + 1 + 1 + 1, ?_, by omega, x6⟩
      unfold f_L_number f_L_number_b18 f_L_number_b39
      simp (disch := omega) only [iI_lit, ofNat_iI, iI_add, iI_sub, iI_mul, iI_neg, iI_lt_t, iI_lt_f, iI_le_t, iI_le_f, iI_eq_t, iI_eq_f, iI_div, rm_iI, tc_iI, inB_iI, nz_iI, is01_0, is01_1, gd_tt, bd_mk, bv_mk, oc_mk, lt_mk, Bool.false_eq_true, ↓reduceIte, x1, x3, x5]
/-- the end of a feast's text, perhaps with a rank -/
theorem typ172 {x : Int32} (h : TB σ V m W len q) (hE : mayE q) (h8 : q.1 ≠ 8) (hl : len + 2 ≤ 60) : ∃ τ len' q', f_L_typed_b172 x σ = some τ ∧ TB τ V m W len' q' ∧ mayE q' ∧ q'.2.1 = q.2.1 ∧ q'.2.2.2.2.1 = q.2.2.2.2.1 := by
  obtain ⟨B, hB⟩ : ∃ B, x >>> ((17 : Int32) &&& 31) = B := ⟨_, rfl⟩
  unfold f_L_typed_b172
  by_cases c : ((x >>> ((16 : Int32) &&& 31)) &&& 1) = 1
  · rw [if_pos c, hB]
    have e1 : rd q 94 = some (7, q.2) := by
      rcases hE with d | d | ⟨d, d2⟩
      · unfold rd bhd
        rw [d]
        simp
      · exact absurd d h8
      · unfold rd bhd
        rw [d]
        simp only [show ¬ ((4 : Int) = 0) by omega, show ¬ ((4 : Int) = 1) by omega, show ¬ ((4 : Int) = 2) by omega, show ¬ ((4 : Int) = 3) by omega, ↓reduceIte]
        rw [if_neg (fun z => by omega), if_neg d2]
    obtain ⟨τ1, y1, x1, x2⟩ := h.app (a := 94) (by omega) (by omega) (by omega) e1
    obtain ⟨v, z1, z2, z3⟩ := low_v B (n := 4) (by omega) τ1
    obtain ⟨τ2, x3, x4⟩ := x2.dig (v := v) (q' := (8, q.2.1, q.2.2.1, q.2.2.2.1, q.2.2.2.2.1, v)) (by omega) (by omega) (by
      unfold rd
      simp only [show ¬ ((7 : Int) = 0) by omega, show ¬ ((7 : Int) = 1) by omega, show ¬ ((7 : Int) = 2) by omega, show ¬ ((7 : Int) = 3) by omega, show ¬ ((7 : Int) = 4) by omega, show ¬ ((7 : Int) = 5) by omega, show ¬ ((7 : Int) = 6) by omega, ↓reduceIte]
      rw [if_pos (by omega), show 48 + v - 48 = v by omega])
    refine ⟨τ2, len + 1 + 1, _, ?_, x4, .inr (.inl rfl), rfl, rfl⟩
    simp (disch := omega) only [iI_lit, ofNat_iI, iI_add, iI_sub, iI_mul, iI_neg, iI_lt_t, iI_lt_f, iI_le_t, iI_le_f, iI_eq_t, iI_eq_f, iI_div, rm_iI, tc_iI, inB_iI, nz_iI, is01_0, is01_1, gd_tt, bd_mk, bv_mk, oc_mk, lt_mk, Bool.false_eq_true, ↓reduceIte, x1, z1, x3]
  · rw [if_neg c]
    exact ⟨σ, len, q, rfl, h, hE, rfl, rfl⟩
/-- behind the day: the weekday, the rank -/
theorem typ142 {x : Int32} {r n0 m0 o k : Int} (h : TB σ V m W len (4, r, n0, m0, o, k)) (hr : 0 ≤ r ∧ r ≤ 3) (hl : len + 4 ≤ 60) : ∃ τ len' q', f_L_typed_b142 x (iI r) σ = some τ ∧ TB τ V m W len' q' ∧ mayE q' ∧ q'.2.1 = r ∧ (r = 3 → q'.2.2.2.2.1 = o) := by
  by_cases c : r = 1 ∨ r = 2
  · have e1 : rd (4, r, n0, m0, o, k) 44 = some (5, r, n0, m0, o, k) := by
      unfold rd
      simp only [show ¬ ((4 : Int) = 0) by omega, show ¬ ((4 : Int) = 1) by omega, show ¬ ((4 : Int) = 2) by omega, show ¬ ((4 : Int) = 3) by omega, ↓reduceIte]
      rw [if_neg (fun z => by omega), if_pos c]
    obtain ⟨τ1, y1, x1, x2⟩ := h.app (a := 44) (by omega) (by omega) (by omega) e1
    obtain ⟨B, hB⟩ : ∃ B, x >>> ((13 : Int32) &&& 31) = B := ⟨_, rfl⟩
    obtain ⟨v, z1, z2, z3⟩ := low_v B (n := 7) (by omega) τ1
    obtain ⟨τ2, x3, x4⟩ := x2.dig (v := v) (q' := (6, r, n0, m0, v, k)) (by omega) (by omega) (by
      unfold rd
      simp only [show ¬ ((5 : Int) = 0) by omega, show ¬ ((5 : Int) = 1) by omega, show ¬ ((5 : Int) = 2) by omega, show ¬ ((5 : Int) = 3) by omega, show ¬ ((5 : Int) = 4) by omega, ↓reduceIte]
      rw [if_pos (by omega), show 48 + v - 48 = v by omega])
    obtain ⟨τ3, l3, q3, x5, x6, x7, x8, x9⟩ := typ172 (x := x) x4 (.inl rfl) (by simp) (by omega)
    refine ⟨τ3, l3, q3, ?_, x6, x7, x8, fun z => by omega⟩
    unfold f_L_typed_b142 f_L_typed_b152
    rw [hB]
    rcases c with rfl | rfl
    · simp (disch := omega) only [iI_lit, ofNat_iI, iI_add, iI_sub, iI_mul, iI_neg, iI_lt_t, iI_lt_f, iI_le_t, iI_le_f, iI_eq_t, iI_eq_f, iI_div, rm_iI, tc_iI, inB_iI, nz_iI, is01_0, is01_1, gd_tt, bd_mk, bv_mk, oc_mk, lt_mk, Bool.false_eq_true, ↓reduceIte, x1, z1, x3, x5]
    · simp (disch := omega) only [iI_lit, ofNat_iI, iI_add, iI_sub, iI_mul, iI_neg, iI_lt_t, iI_lt_f, iI_le_t, iI_le_f, iI_eq_t, iI_eq_f, iI_div, rm_iI, tc_iI, inB_iI, nz_iI, is01_0, is01_1, gd_tt, bd_mk, bv_mk, oc_mk, lt_mk, Bool.false_eq_true, ↓reduceIte, x1, z1, x3, x5]
  · obtain ⟨τ3, l3, q3, x5, x6, x7, x8, x9⟩ := typ172 (x := x) h (.inr (.inr ⟨rfl, c⟩)) (by simp) (by omega)
    refine ⟨τ3, l3, q3, ?_, x6, x7, x8, fun _ => x9⟩
    unfold f_L_typed_b142
    simp (disch := omega) only [iI_lit, ofNat_iI, iI_add, iI_sub, iI_mul, iI_neg, iI_lt_t, iI_lt_f, iI_le_t, iI_le_f, iI_eq_t, iI_eq_f, iI_div, rm_iI, tc_iI, inB_iI, nz_iI, is01_0, is01_1, gd_tt, bd_mk, bv_mk, oc_mk, lt_mk, Bool.false_eq_true, ↓reduceIte, x5]
theorem typ139 {x : Int32} {r o k v : Int} (h : TB σ V m W len (3, r, 0, 0, o, k)) (hr : 0 ≤ r ∧ r ≤ 2) (hv : 0 ≤ v ∧ v ≤ 365) (hl : len + 7 ≤ 60) : ∃ τ len' q', f_L_typed_b139 x (iI r) (iI v) σ = some τ ∧ TB τ V m W len' q' ∧ mayE q' ∧ q'.2.1 = r := by
  have hm : mst r = 365 := by unfold mst; rw [if_neg (by omega)]
  obtain ⟨τ1, l1, x1, x2, x3⟩ := h.num (v := v) (by omega) (by omega)
  obtain ⟨τ2, l2, q2, x4, x5, x6, x7, -⟩ := typ142 (x := x) x3 (by omega) (by omega)
  refine ⟨τ2, l2, q2, ?_, x5, x6, x7⟩
  unfold f_L_typed_b139
  rw [x1, bv_mk, x4]
theorem typ87 {x : Int32} {o k s : Int} (h : TB σ V m W len (2, 3, 0, 0, o, k)) (hs : s = 43 ∨ s = 45) (hl : len + 8 ≤ 60) : ∃ τ len' q', f_L_typed_b87 x (iI 3) (iI s) σ = some τ ∧ TB τ V m W len' q' ∧ mayE q' ∧ q'.2.1 = 3 ∧ q'.2.2.2.2.1 = o := by
  have e1 : ∃ m1, rd (2, 3, 0, 0, o, k) s = some (3, 3, 0, m1, o, k) := by
    rcases hs with rfl | rfl
    · exact ⟨0, by unfold rd; simp⟩
    · exact ⟨1, by unfold rd; simp⟩
  obtain ⟨m1, e1⟩ := e1
  obtain ⟨τ1, y1, x1, x2⟩ := h.app (a := s) (by omega) (by omega) (by omega) e1
  obtain ⟨B, hB⟩ : ∃ B, x >>> ((8 : Int32) &&& 31) = B := ⟨_, rfl⟩
  obtain ⟨v, z1, z2, z3⟩ := low_v B (n := 50) (by omega) τ1
  have hm : mst 3 = 90 := rfl
  obtain ⟨τ2, l2, x3, x4, x5⟩ := x2.num (v := v) (by omega) (by omega)
  obtain ⟨τ3, l3, q3, x6, x7, x8, x9, x10⟩ := typ142 (x := x) x5 (by omega) (by omega)
  refine ⟨τ3, l3, q3, ?_, x7, x8, x9, x10 rfl⟩
  unfold f_L_typed_b87
  rw [hB]
  simp (disch := omega) only [iI_lit, ofNat_iI, iI_add, iI_sub, iI_mul, iI_neg, iI_lt_t, iI_lt_f, iI_le_t, iI_le_f, iI_eq_t, iI_eq_f, iI_div, rm_iI, tc_iI, inB_iI, nz_iI, is01_0, is01_1, gd_tt, bd_mk, bv_mk, oc_mk, lt_mk, Bool.false_eq_true, ↓reduceIte, x1, z1, x3, x6]
theorem typ17 {x : Int32} {n r : Int} (hJ : JJ σ V m W) (hn : 0 ≤ n ∧ n ≤ 10) (hr : 0 ≤ r ∧ r ≤ 3) (h3 : r = 3 → 0 < n) : ∃ τ len' q', f_L_typed_b17 x (iI n) (iI r) σ = some τ ∧ TB τ V m W len' q' ∧ mayE q' ∧ (q'.2.1 = 3 → q'.2.2.2.2.1 < n) := by
  have h : TB σ V m W 0 q0 := ⟨b0, hJ, rfl, fun x hx => by omega⟩
  by_cases c3 : r = 3
  · subst c3
    have hn0 := h3 rfl
    obtain ⟨τ1, y1, x1, x2⟩ := h.app (a := 97) (q' := (1, 3, 0, 0, -1, 0)) (by omega) (by omega) (by omega) rfl
    obtain ⟨B, hB⟩ : ∃ B, x >>> ((3 : Int32) &&& 31) = B := ⟨_, rfl⟩
    obtain ⟨t7, ht, t1, t2⟩ := iI_ex ((x >>> ((7 : Int32) &&& 31)) &&& 1)
    obtain ⟨t3, ht3, -, -⟩ := iI_ex (B &&& 1)
    obtain ⟨B4, hB4⟩ : ∃ B, x >>> ((4 : Int32) &&& 31) = B := ⟨_, rfl⟩
    obtain ⟨v, z1, z2, z3⟩ := low_v B (n := n) (by omega) τ1
    obtain ⟨τ2, x3, x4⟩ := x2.dig (v := v) (q' := (2, 3, 0, 0, v, 0)) (by omega) (by omega) (by
      unfold rd
      simp only [show ¬ ((1 : Int) = 0) by omega, ↓reduceIte]
      rw [if_pos (by omega), show 48 + v - 48 = v by omega])
    have fin : ∀ s : Int, (s = 43 ∨ s = 45) → f_L_typed_b17 x (iI n) (iI 3) σ = f_L_typed_b87 x (iI 3) (iI s) τ2 → ∃ τ len' q', f_L_typed_b17 x (iI n) (iI 3) σ = some τ ∧ TB τ V m W len' q' ∧ mayE q' ∧ (q'.2.1 = 3 → q'.2.2.2.2.1 < n) := by
      intro s hs e
      obtain ⟨τ3, l3, q3, x5, x6, x7, x8, x9⟩ := typ87 (x := x) x4 hs (by omega)
      exact ⟨τ3, l3, q3, e.trans x5, x6, x7, fun _ => by omega⟩
    by_cases c7 : t7 = 0
    · refine fin 43 (.inl rfl) ?_
      unfold f_L_typed_b17 f_L_typed_b50
      rw [ht, hB, hB4, ht3]
      simp (disch := omega) only [iI_lit, ofNat_iI, iI_add, iI_sub, iI_mul, iI_neg, iI_lt_t, iI_lt_f, iI_le_t, iI_le_f, iI_eq_t, iI_eq_f, iI_div, rm_iI, tc_iI, inB_iI, nz_iI, is01_0, is01_1, gd_tt, bd_mk, bv_mk, oc_mk, lt_mk, Bool.false_eq_true, ↓reduceIte, x1, z1, x3]
    · refine fin 45 (.inr rfl) ?_
      unfold f_L_typed_b17 f_L_typed_b50
      rw [ht, hB, hB4, ht3]
      simp (disch := omega) only [iI_lit, ofNat_iI, iI_add, iI_sub, iI_mul, iI_neg, iI_lt_t, iI_lt_f, iI_le_t, iI_le_f, iI_eq_t, iI_eq_f, iI_div, rm_iI, tc_iI, inB_iI, nz_iI, is01_0, is01_1, gd_tt, bd_mk, bv_mk, oc_mk, lt_mk, Bool.false_eq_true, ↓reduceIte, x1, z1, x3]
  · obtain ⟨a, ha, e1, e2⟩ : ∃ a : Int, (a = 100 ∨ a = 119 ∨ a = 109) ∧ rd q0 a = some (3, r, 0, 0, -1, 0) ∧ f_L_typed_b17 x (iI n) (iI r) σ = f_L_typed_b50 x (iI n) (iI r) (iI a) σ := by
      rcases (show r = 0 ∨ r = 1 ∨ r = 2 by omega) with rfl | rfl | rfl
      · refine ⟨100, .inl rfl, rfl, ?_⟩
        unfold f_L_typed_b17
        simp (disch := omega) only [iI_lit, ofNat_iI, iI_add, iI_sub, iI_mul, iI_neg, iI_lt_t, iI_lt_f, iI_le_t, iI_le_f, iI_eq_t, iI_eq_f, iI_div, rm_iI, tc_iI, inB_iI, nz_iI, is01_0, is01_1, gd_tt, bd_mk, bv_mk, oc_mk, lt_mk, Bool.false_eq_true, ↓reduceIte]
      · refine ⟨119, .inr (.inl rfl), rfl, ?_⟩
        unfold f_L_typed_b17
        simp (disch := omega) only [iI_lit, ofNat_iI, iI_add, iI_sub, iI_mul, iI_neg, iI_lt_t, iI_lt_f, iI_le_t, iI_le_f, iI_eq_t, iI_eq_f, iI_div, rm_iI, tc_iI, inB_iI, nz_iI, is01_0, is01_1, gd_tt, bd_mk, bv_mk, oc_mk, lt_mk, Bool.false_eq_true, ↓reduceIte]
      · refine ⟨109, .inr (.inr rfl), rfl, ?_⟩
        unfold f_L_typed_b17
        simp (disch := omega) only [iI_lit, ofNat_iI, iI_add, iI_sub, iI_mul, iI_neg, iI_lt_t, iI_lt_f, iI_le_t, iI_le_f, iI_eq_t, iI_eq_f, iI_div, rm_iI, tc_iI, inB_iI, nz_iI, is01_0, is01_1, gd_tt, bd_mk, bv_mk, oc_mk, lt_mk, Bool.false_eq_true, ↓reduceIte]
    obtain ⟨τ1, y1, x1, x2⟩ := h.app (a := a) (by omega) (by omega) (by omega) e1
    have fin : ∀ v : Int, (0 ≤ v ∧ v ≤ 365) → f_L_typed_b50 x (iI n) (iI r) (iI a) σ = f_L_typed_b139 x (iI r) (iI v) τ1 → ∃ τ len' q', f_L_typed_b17 x (iI n) (iI r) σ = some τ ∧ TB τ V m W len' q' ∧ mayE q' ∧ (q'.2.1 = 3 → q'.2.2.2.2.1 < n) := by
      intro v hv e
      obtain ⟨τ3, l3, q3, x5, x6, x7, x8⟩ := typ139 (x := x) x2 (by omega) hv (by omega)
      exact ⟨τ3, l3, q3, (e2.trans e).trans x5, x6, x7, fun z => by omega⟩
    obtain ⟨t7, ht, t1, t2⟩ := iI_ex ((x >>> ((3 : Int32) &&& 31)) &&& 1)
    obtain ⟨B, hB⟩ : ∃ B, x >>> ((4 : Int32) &&& 31) = B := ⟨_, rfl⟩
    obtain ⟨B3, hB3⟩ : ∃ B, x >>> ((3 : Int32) &&& 31) = B := ⟨_, rfl⟩
    obtain ⟨T7, hT7⟩ : ∃ T, (x >>> ((7 : Int32) &&& 31)) &&& 1 = T := ⟨_, rfl⟩
    by_cases c7 : t7 = 0
    · obtain ⟨v, z1, z2, z3⟩ := low_v B (n := 366) (by omega) τ1
      refine fin v (by omega) ?_
      unfold f_L_typed_b50
      rw [ht, hB, hB3, hT7]
      simp (disch := omega) only [iI_lit, ofNat_iI, iI_add, iI_sub, iI_mul, iI_neg, iI_lt_t, iI_lt_f, iI_le_t, iI_le_f, iI_eq_t, iI_eq_f, iI_div, rm_iI, tc_iI, inB_iI, nz_iI, is01_0, is01_1, gd_tt, bd_mk, bv_mk, oc_mk, lt_mk, Bool.false_eq_true, ↓reduceIte, x1, z1]
    · obtain ⟨v, z1, z2, z3⟩ := low_v B (n := 20) (by omega) τ1
      refine fin (90 + v) (by omega) ?_
      unfold f_L_typed_b50
      rw [ht, hB, hB3, hT7]
      simp (disch := omega) only [iI_lit, ofNat_iI, iI_add, iI_sub, iI_mul, iI_neg, iI_lt_t, iI_lt_f, iI_le_t, iI_le_f, iI_eq_t, iI_eq_f, iI_div, rm_iI, tc_iI, inB_iI, nz_iI, is01_0, is01_1, gd_tt, bd_mk, bv_mk, oc_mk, lt_mk, Bool.false_eq_true, ↓reduceIte, x1, z1]
theorem typed_v {x : Int32} {n : Int} (hJ : JJ σ V m W) (hn : 0 ≤ n ∧ n ≤ 10) : ∃ τ len' q', f_L_typed x (iI n) σ = some τ ∧ TB τ V m W len' q' ∧ mayE q' ∧ (q'.2.1 = 3 → q'.2.2.2.2.1 < n) := by
  by_cases c : n = 0
  · obtain ⟨v, z1, z2, z3⟩ := low_v x (n := 3) (by omega) σ
    obtain ⟨τ, l, q, x1, x2, x3, x4⟩ := typ17 (x := x) (r := v) hJ hn (by omega) (by omega)
    refine ⟨τ, l, q, ?_, x2, x3, x4⟩
    unfold f_L_typed
    simp (disch := omega) only [iI_lit, ofNat_iI, iI_add, iI_sub, iI_mul, iI_neg, iI_lt_t, iI_lt_f, iI_le_t, iI_le_f, iI_eq_t, iI_eq_f, iI_div, rm_iI, tc_iI, inB_iI, nz_iI, is01_0, is01_1, gd_tt, bd_mk, bv_mk, oc_mk, lt_mk, Bool.false_eq_true, ↓reduceIte, z1, x1]
  · obtain ⟨v, z1, z2, z3⟩ := low_v x (n := 4) (by omega) σ
    obtain ⟨τ, l, q, x1, x2, x3, x4⟩ := typ17 (x := x) (r := v) hJ hn (by omega) (by omega)
    refine ⟨τ, l, q, ?_, x2, x3, x4⟩
    unfold f_L_typed
    simp (disch := omega) only [iI_lit, ofNat_iI, iI_add, iI_sub, iI_mul, iI_neg, iI_lt_t, iI_lt_f, iI_le_t, iI_le_f, iI_eq_t, iI_eq_f, iI_div, rm_iI, tc_iI, inB_iI, nz_iI, is01_0, is01_1, gd_tt, bd_mk, bv_mk, oc_mk, lt_mk, Bool.false_eq_true, ↓reduceIte, z1, x1]
end TEXT
