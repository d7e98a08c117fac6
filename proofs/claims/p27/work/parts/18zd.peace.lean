/-! the last two checks: peace, years alike -/
theorem sq_ok {b s : Int} (hb : -5 ≤ b ∧ b ≤ 5) (hs : -5 ≤ s ∧ s ≤ 5) (h : idx b ≤ idx s) : (b * b < s * s ∨ (s * s = b * b ∧ b ≤ s)) ∧ 0 ≤ b * b ∧ b * b ≤ 25 ∧ 0 ≤ s * s ∧ s * s ≤ 25 := by
  unfold idx at h
  rcases (show b = -5 ∨ b = -4 ∨ b = -3 ∨ b = -2 ∨ b = -1 ∨ b = 0 ∨ b = 1 ∨ b = 2 ∨ b = 3 ∨ b = 4 ∨ b = 5 by omega) with rfl | rfl | rfl | rfl | rfl | rfl | rfl | rfl | rfl | rfl | rfl <;>
  rcases (show s = -5 ∨ s = -4 ∨ s = -3 ∨ s = -2 ∨ s = -1 ∨ s = 0 ∨ s = 1 ∨ s = 2 ∨ s = 3 ∨ s = 4 ∨ s = 5 by omega) with rfl | rfl | rfl | rfl | rfl | rfl | rfl | rfl | rfl | rfl | rfl <;>
  simp at h ⊢
theorem sq_b {b : Int} (hb : -5 ≤ b ∧ b ≤ 5) : 0 ≤ b * b ∧ b * b ≤ 25 := (sq_ok hb hb (Int.le_refl _)).2.2.2
section PEACE
variable {V : Nat → Int} {m : Nat} {W : Nat → Nat → Int} {y : Int} {c n : Nat}
theorem pce_BS (hn10 : n ≤ 10) : BS V y c n (pce V y c n) := by
  have H : ∀ i : Nat, i ≤ 11 → ∃ best few, CI V y c n (i : Int) best few := by
    intro i
    induction i with
    | zero => intro _; exact ⟨0, 11, .inl ⟨rfl, rfl, rfl⟩⟩
    | succ i ih =>
      intro hi
      obtain ⟨best, few, h⟩ := ih (by omega)
      rw [show ((i + 1 : Nat) : Int) = (i : Int) + 1 by omega]
      by_cases c1 : few ≤ qf V y c n (slp (i : Int))
      · exact ⟨best, few, h.keep (by omega) hn10 c1⟩
      · exact ⟨_, _, h.take (by omega) c1⟩
  obtain ⟨best, few, h⟩ := H 11 (Nat.le_refl _)
  have h9 := h.done
  rw [← h9.eq]
  exact h9
theorem tqu {s : Int} {σ : St} (hn : V 0 = (n : Int)) (hy : 0 ≤ y ∧ y ≤ 999) (hc : c < 3) (hs : -5 ≤ s ∧ s ≤ 5) (hJ : JJ σ V m W) : ∃ τ1 τ2 τ3 k W', f_X6_teach (iI (c : Int)) (iI s) σ = some (iI (SL V c + 5), τ1) ∧ f_X6_quarrels (iI y) τ1 = some (iI (qf V y c n s), τ2) ∧ f_X6_undo τ2 = some (iI ((k : Nat) : Int), τ3) ∧ k ≤ 6 ∧ JJ τ3 V k W' := by
  have hI := hJ.I
  have hn10 := hI.1
  obtain ⟨τ1, x1, J1⟩ := g_teach hJ hc hs
  obtain ⟨τ2, x2, J2⟩ := a_quarrels (n := n) J1 (by rw [updf_ne (by omega)]; exact hn) hy
  obtain ⟨k, hk⟩ := svM_pos m
  obtain ⟨τ3, x3, J3⟩ := g_undo J2 hk
  have hl := svW_last m W V
  rw [hk, show k + 1 - 1 = k by omega] at hl
  rw [hl] at J3
  have hk6 : k ≤ 6 := by unfold svM at hk; split at hk <;> omega
  refine ⟨τ1, τ2, τ3, k, _, x1, ?_, x3, hk6, J3⟩
  rw [x2, SL_upd, qrl_cong (V := updf V (41 + c) s) (W := V) (by rw [updf_ne (by omega)]; omega) (updf_ne (by omega)) (fun k _ _ => updf_ne (by omega)) (updf_ne (by omega))]
  rfl
theorem p64 {b : Int} (hn : V 0 = (n : Int)) (hy : 0 ≤ y ∧ y ≤ 999) (hc : c < 3) (hB : BS V y c n b) : ∀ (i g : Nat) (s l : Int) (σ : St) (m : Nat) (W : Nat → Nat → Int), s + 2 * (i : Int) = 7 → i < g → -5 ≤ s → (0 ≤ l ∧ l ≤ 6) → JJ σ V m W → ∃ τ m' W', f_L_isPeaceSo_l64 g (iI (c : Int)) (iI y) (iI b) (iI (qf V y c n b)) (iI l) (iI 1) (iI s) σ = some (iI 1, τ) ∧ JJ τ V m' W' := by
  intro i
  induction i with
  | zero =>
    intro g s l σ m W hs hg hs5 hl hJ
    obtain ⟨g, rfl⟩ : ∃ g', g = g' + 1 := ⟨g - 1, by omega⟩
    refine ⟨σ, m, W, ?_, hJ⟩
    show f_L_isPeaceSo_b64 _ _ _ _ _ _ _ _ _ = _
    unfold f_L_isPeaceSo_b64
    simp (disch := omega) only [iI_lit, ofNat_iI, iI_add, iI_sub, iI_mul, iI_neg, iI_lt_t, iI_lt_f, iI_le_t, iI_le_f, iI_eq_t, iI_eq_f, iI_div, rm_iI, tc_iI, inB_iI, nz_iI, is01_0, is01_1, gd_tt, bd_mk, bv_mk, oc_mk, lt_mk, Bool.false_eq_true, ↓reduceIte]
  | succ i ih =>
    intro g s l σ m W hs hg hs5 hl hJ
    obtain ⟨g, rfl⟩ : ∃ g', g = g' + 1 := ⟨g - 1, by omega⟩
    have hn10 : n ≤ 10 := by have := hJ.I.1; omega
    have hb5 := hB.1
    obtain ⟨τ1, τ2, τ3, k, W3, x1, x2, x3, hk6, J3⟩ := tqu (s := s) hn hy hc (by omega) hJ
    obtain ⟨τ, m', W', x4, J4⟩ := ih g (s + 2) (k : Int) τ3 k W3 (by omega) (by omega) (by omega) (by omega) J3
    have h1 := hB.2 s (by omega) (by omega)
    unfold wt at h1
    have q1 := qf_b (V := V) (y := y) (c := c) (n := n) (s := b)
    have q2 := qf_b (V := V) (y := y) (c := c) (n := n) (s := s)
    have i1 : 0 ≤ idx b ∧ idx b ≤ 10 := by unfold idx; split <;> omega
    have i2 : 0 ≤ idx s ∧ idx s ≤ 10 := by unfold idx; split <;> omega
    obtain ⟨z1, z2⟩ := sq_b hb5
    obtain ⟨z3, z4⟩ := sq_b (b := s) (by omega)
    obtain ⟨bb, hbb⟩ : ∃ bb, bb = b * b := ⟨_, rfl⟩
    obtain ⟨ss, hss⟩ : ∃ ss, ss = s * s := ⟨_, rfl⟩
    rw [← hbb] at z1 z2
    rw [← hss] at z3 z4
    refine ⟨τ, m', W', ?_, J4⟩
    show f_L_isPeaceSo_b64 _ _ _ _ _ _ _ _ _ = _
    unfold f_L_isPeaceSo_b64
    by_cases c1 : qf V y c n b < qf V y c n s
    · simp (disch := omega) only [iI_lit, ofNat_iI, iI_add, iI_sub, iI_mul, iI_neg, iI_lt_t, iI_lt_f, iI_le_t, iI_le_f, iI_eq_t, iI_eq_f, iI_div, rm_iI, tc_iI, inB_iI, nz_iI, is01_0, is01_1, gd_tt, bd_mk, bv_mk, oc_mk, lt_mk, Bool.false_eq_true, ↓reduceIte, x1, x2, x3, x4]
    · have hs2 := (sq_ok hb5 (s := s) (by omega) (by omega)).1
      rw [← hbb, ← hss] at hs2
      rcases hs2 with c2 | ⟨c2, c3⟩
      · simp (disch := omega) only [iI_lit, ofNat_iI, iI_add, iI_sub, iI_mul, iI_neg, iI_lt_t, iI_lt_f, iI_le_t, iI_le_f, iI_eq_t, iI_eq_f, iI_div, rm_iI, tc_iI, inB_iI, nz_iI, is01_0, is01_1, gd_tt, bd_mk, bv_mk, oc_mk, lt_mk, Bool.false_eq_true, ↓reduceIte, x1, x2, x3, x4, ← hbb, ← hss]
      · simp (disch := omega) only [iI_lit, ofNat_iI, iI_add, iI_sub, iI_mul, iI_neg, iI_lt_t, iI_lt_f, iI_le_t, iI_le_f, iI_eq_t, iI_eq_f, iI_div, rm_iI, tc_iI, inB_iI, nz_iI, is01_0, is01_1, gd_tt, bd_mk, bv_mk, oc_mk, lt_mk, Bool.false_eq_true, ↓reduceIte, x1, x2, x3, x4, ← hbb, ← hss]
theorem peace_v {σ : St} (hy : 0 ≤ y ∧ y ≤ 999) (hc : c < 3) (hJ : JJ σ V m W) : ∃ τ m' W', f_L_isPeaceSo (iI (c : Int)) (iI y) σ = some (iI 1, τ) ∧ JJ τ V m' W' := by
  obtain ⟨n, hn, hn10⟩ := hJ.n
  have hB := pce_BS (V := V) (y := y) (c := c) hn10
  have hb5 := hB.1
  have hsl := SL_b hJ.I hc
  obtain ⟨b, hb⟩ : ∃ b, b = pce V y c n := ⟨_, rfl⟩
  obtain ⟨σ1, x1, J1⟩ := a_peace (k := c) hJ hn hc hy
  rw [← hb] at hB hb5 x1
  obtain ⟨τ1, τ2, τ3, k, W3, x2, x3, x4, hk6, J3⟩ := tqu (s := b) hn hy hc hb5 J1
  obtain ⟨σ4, x5, J4⟩ := a_slip J3 hc
  rw [show ((2 + c : Nat) : Int) = 2 + (c : Int) by omega] at x5
  obtain ⟨τ, m', W', x6, J6⟩ := p64 hn hy hc hB 6 FU (-5) (k : Int) σ4 _ _ (by omega) (by simp only [FU]; omega) (by omega) (by omega) J4
  refine ⟨τ, m', W', ?_, J6⟩
  unfold f_L_isPeaceSo
  simp (disch := omega) only [iI_lit, ofNat_iI, iI_add, iI_sub, iI_mul, iI_neg, iI_lt_t, iI_lt_f, iI_le_t, iI_le_f, iI_eq_t, iI_eq_f, iI_div, rm_iI, tc_iI, inB_iI, nz_iI, is01_0, is01_1, gd_tt, bd_mk, bv_mk, oc_mk, lt_mk, Bool.false_eq_true, ↓reduceIte, x1, show b + 5 - 5 = b by omega, x2, x3, x4, x5, x6]
/-! years alike -/
theorem allN_at {P : Nat → Bool} : ∀ {k j : Nat}, allN P k j = true → ∀ f, j ≤ f → f < j + k → P f = true := by
  intro k
  induction k with
  | zero => intro j _ f h1 h2; omega
  | succ k ih =>
    intro j h f h1 h2
    unfold allN at h
    by_cases c : P j = true
    · rw [if_pos c] at h
      by_cases q : f = j
      · rw [q]; exact c
      · exact ih h f (by omega) (by omega)
    · rw [if_neg c] at h; cases h
theorem nal_ok : ∀ (k : Nat) (z : Int), nal V y n k z = -1 ∨ (z ≤ nal V y n k z ∧ nal V y n k z < z + k ∧ nal V y n k z ≤ 999 ∧ dys (nal V y n k z) = dys y ∧ fwd (nal V y n k z) = fwd y ∧ allN (alP V y (nal V y n k z)) n 0 = true) := by
  intro k
  induction k with
  | zero => intro z; exact .inl rfl
  | succ k ih =>
    intro z
    unfold nal
    by_cases c1 : 999 < z
    · rw [if_pos c1]; exact .inl rfl
    · rw [if_neg c1]
      by_cases c2 : dys z = dys y ∧ fwd z = fwd y ∧ allN (alP V y z) n 0 = true
      · rw [if_pos c2]; exact .inr ⟨Int.le_refl _, by omega, by omega, c2.1, c2.2.1, c2.2.2⟩
      · rw [if_neg c2]
        rcases ih (z + 1) with h | ⟨h1, h2, h3⟩
        · exact .inl h
        · exact .inr ⟨by omega, by omega, h3⟩
/-- the earliest and the latest -/
def EL (a b : Int) : Prop := (a = -1 ∧ b = -1) ∨ (a ≠ -1 ∧ b ≠ -1 ∧ a ≤ b)
theorem EL.s {a b x : Int} (h : EL a b) : EL (exs 0 a x) (exs 1 b x) := by
  unfold exs
  by_cases c : x = -1
  · rw [if_pos c, if_pos c]; exact h
  · rw [if_neg c, if_neg c, if_pos rfl, if_neg (show ¬ (1 : Int) = 0 by omega)]
    rcases h with ⟨h1, h2⟩ | ⟨h1, h2, h3⟩
    · rw [if_pos h1, if_pos h2]; exact .inr ⟨c, c, Int.le_refl _⟩
    · rw [if_neg h1, if_neg h2]
      right
      split <;> split <;> omega
theorem ext_EL {f : Nat} : ∀ (k : Nat) (z a b : Int), EL a b → EL (ext V f 0 k z a) (ext V f 1 k z b) := by
  intro k
  induction k with
  | zero => intro z a b h; exact h
  | succ k ih =>
    intro z a b h
    unfold ext
    by_cases c : 999 < z
    · rw [if_pos c, if_pos c]; exact h
    · rw [if_neg c, if_neg c]; exact ih (z + 1) _ _ h.s
theorem ext_lo {f : Nat} : ∀ (k : Nat) (z a : Int), a ≠ -1 → ext V f 0 k z a ≠ -1 ∧ ext V f 0 k z a ≤ a := by
  intro k
  induction k with
  | zero => intro z a h; exact ⟨h, Int.le_refl _⟩
  | succ k ih =>
    intro z a h
    unfold ext
    by_cases c : 999 < z
    · rw [if_pos c]; exact ⟨h, Int.le_refl _⟩
    · rw [if_neg c]
      have e : exs 0 a (stl V z (SL V) f) ≠ -1 ∧ exs 0 a (stl V z (SL V) f) ≤ a := by
        unfold exs
        by_cases q : stl V z (SL V) f = -1
        · rw [if_pos q]; exact ⟨h, Int.le_refl _⟩
        · rw [if_neg q, if_neg h, if_pos rfl]; split <;> omega
      have h2 := ih (z + 1) _ e.1
      omega
theorem ext_hi {f : Nat} : ∀ (k : Nat) (z a : Int), a ≠ -1 → a ≤ ext V f 1 k z a := by
  intro k
  induction k with
  | zero => intro z a h; exact Int.le_refl _
  | succ k ih =>
    intro z a h
    unfold ext
    by_cases c : 999 < z
    · rw [if_pos c]; exact Int.le_refl _
    · rw [if_neg c]
      have e : exs 1 a (stl V z (SL V) f) ≠ -1 ∧ a ≤ exs 1 a (stl V z (SL V) f) := by
        unfold exs
        by_cases q : stl V z (SL V) f = -1
        · rw [if_pos q]; exact ⟨h, Int.le_refl _⟩
        · rw [if_neg q, if_neg h, if_neg (show ¬ (1 : Int) = 0 by omega)]; split <;> omega
      have h2 := ih (z + 1) _ e.1
      omega
theorem exs_n1 {b x : Int} : exs b (-1) x = x := by
  unfold exs
  by_cases q : x = -1
  · rw [if_pos q, q]
  · rw [if_neg q, if_pos rfl]
theorem otm_1 {f : Nat} (hy : 0 ≤ y ∧ y ≤ 999) : otm V f 0 y 1 = stl V y (SL V) f := by
  show (if 999 < y then (-1 : Int) else exs 0 (-1) (stl V y (SL V) f)) = _
  rw [if_neg (by omega), exs_n1]
theorem otm_20 {f : Nat} (hy : 0 ≤ y ∧ y ≤ 999) : (-1 ≤ otm V f 0 y 20 ∧ otm V f 0 y 20 ≤ 365) ∧ (-1 ≤ otm V f 1 y 20 ∧ otm V f 1 y 20 ≤ 365) ∧ otm V f 0 y 20 ≤ otm V f 1 y 20 ∧ (stl V y (SL V) f ≠ -1 → otm V f 0 y 20 ≤ stl V y (SL V) f ∧ stl V y (SL V) f ≤ otm V f 1 y 20) := by
  have e : ∀ b : Int, otm V f b y 20 = ext V f b 19 (y + 1) (stl V y (SL V) f) := by
    intro b
    show (if 999 < y then (-1 : Int) else ext V f b 19 (y + 1) (exs b (-1) (stl V y (SL V) f))) = _
    rw [if_neg (by omega), exs_n1]
  have hb := stl_b V y (SL V) f
  rw [e, e]
  refine ⟨ext_b V f 0 19 (y + 1) _ hb, ext_b V f 1 19 (y + 1) _ hb, ?_, fun h => ⟨(ext_lo 19 (y + 1) _ h).2, ext_hi 19 (y + 1) _ h⟩⟩
  have h : EL (stl V y (SL V) f) (stl V y (SL V) f) := by
    by_cases q : stl V y (SL V) f = -1
    · exact .inl ⟨q, q⟩
    · exact .inr ⟨q, q, Int.le_refl _⟩
  rcases ext_EL (V := V) (f := f) 19 (y + 1) _ _ h with ⟨h1, h2⟩ | ⟨h1, h2, h3⟩ <;> omega
theorem l70 {z : Int} (hn : V 0 = (n : Int)) (hy : 0 ≤ y ∧ y ≤ 999) (hz : 0 ≤ z ∧ z ≤ 999) (hA : ∀ f, f < n → stl V z (SL V) f = stl V y (SL V) f) : ∀ (k g f : Nat) (σ : St), f + k = n → k < g → JJ σ V m W → ∃ τ, f_L_isAlikeSo_l70 g (iI y) (iI z) (iI 1) (iI (f : Int)) σ = some (iI 1, τ) ∧ JJ τ V m W := by
  intro k
  induction k with
  | zero =>
    intro g f σ hf hg hJ
    obtain ⟨g, rfl⟩ : ∃ g', g = g' + 1 := ⟨g - 1, by omega⟩
    have hn10 := hJ.I.1
    obtain ⟨σ1, x1, J1⟩ := a_feasts hJ
    rw [hn] at x1
    refine ⟨σ1, ?_, J1⟩
    show f_L_isAlikeSo_b70 _ _ _ _ _ _ = _
    unfold f_L_isAlikeSo_b70
    simp (disch := omega) only [iI_lit, ofNat_iI, iI_add, iI_sub, iI_mul, iI_neg, iI_lt_t, iI_lt_f, iI_le_t, iI_le_f, iI_eq_t, iI_eq_f, iI_div, rm_iI, tc_iI, inB_iI, nz_iI, is01_0, is01_1, gd_tt, bd_mk, bv_mk, oc_mk, lt_mk, Bool.false_eq_true, ↓reduceIte, x1]
  | succ k ih =>
    intro g f σ hf hg hJ
    obtain ⟨g, rfl⟩ : ∃ g', g = g' + 1 := ⟨g - 1, by omega⟩
    have hn10 := hJ.I.1
    have hfn : (f : Int) < V 0 := by omega
    have e1 : (f : Int) + 1 = ((f + 1 : Nat) : Int) := by omega
    obtain ⟨σ1, x1, J1⟩ := a_feasts hJ
    rw [hn] at x1
    obtain ⟨σ2, x2, J2⟩ := a_range (f := f) (p := 0) (ys := 1) J1 hfn (.inl rfl) hy (by omega)
    obtain ⟨σ3, x3, J3⟩ := a_settled (f := f) J2 hfn hz
    obtain ⟨σ4, x4, J4⟩ := a_settled (f := f) J3 hfn hy
    obtain ⟨σ5, x5, J5⟩ := a_settled (f := f) J4 hfn hy
    obtain ⟨σ6, x6, J6⟩ := a_range (f := f) (p := 0) (ys := 20) J5 hfn (.inl rfl) hy (by omega)
    obtain ⟨σ7, x7, J7⟩ := a_range (f := f) (p := 1) (ys := 20) J6 hfn (.inr rfl) hy (by omega)
    obtain ⟨σ8, x8, J8⟩ := a_range (f := f) (p := 0) (ys := 20) J7 hfn (.inl rfl) hy (by omega)
    obtain ⟨σ9, x9, J9⟩ := a_range (f := f) (p := 1) (ys := 20) J8 hfn (.inr rfl) hy (by omega)
    rw [otm_1 hy] at x2
    rw [hA f (by omega)] at x3
    obtain ⟨b1, b2, b3, b4⟩ := otm_20 (V := V) (f := f) hy
    have hb := stl_b V y (SL V) f
    by_cases c : stl V y (SL V) f = -1
    · obtain ⟨τ, x10, J10⟩ := ih g (f + 1) σ7 (by omega) (by omega) J7
      refine ⟨τ, ?_, J10⟩
      show f_L_isAlikeSo_b70 _ _ _ _ _ _ = _
      unfold f_L_isAlikeSo_b70
      simp (disch := omega) only [iI_lit, ofNat_iI, iI_add, iI_sub, iI_mul, iI_neg, iI_lt_t, iI_lt_f, iI_le_t, iI_le_f, iI_eq_t, iI_eq_f, iI_div, rm_iI, tc_iI, inB_iI, nz_iI, is01_0, is01_1, gd_tt, bd_mk, bv_mk, oc_mk, lt_mk, Bool.false_eq_true, ↓reduceIte, x1, x2, x3, x4, x5, x6, x7, e1, x10]
    · have b5 := b4 c
      obtain ⟨τ, x10, J10⟩ := ih g (f + 1) σ9 (by omega) (by omega) J9
      refine ⟨τ, ?_, J10⟩
      show f_L_isAlikeSo_b70 _ _ _ _ _ _ = _
      unfold f_L_isAlikeSo_b70
      simp (disch := omega) only [iI_lit, ofNat_iI, iI_add, iI_sub, iI_mul, iI_neg, iI_lt_t, iI_lt_f, iI_le_t, iI_le_f, iI_eq_t, iI_eq_f, iI_div, rm_iI, tc_iI, inB_iI, nz_iI, is01_0, is01_1, gd_tt, bd_mk, bv_mk, oc_mk, lt_mk, Bool.false_eq_true, ↓reduceIte, x1, x2, x3, x4, x5, x6, x7, x8, x9, e1, x10]
theorem alike_v {σ : St} (hy : 0 ≤ y ∧ y ≤ 999) (hJ : JJ σ V m W) : ∃ τ, f_L_isAlikeSo (iI y) σ = some (iI 1, τ) ∧ JJ τ V m W := by
  obtain ⟨n, hn, hn10⟩ := hJ.n
  obtain ⟨σ1, x1, J1⟩ := a_alike hJ hn hy
  obtain ⟨z, hz⟩ : ∃ z, z = nal V y n 100 (y + 1) := ⟨_, rfl⟩
  have h := nal_ok (V := V) (y := y) (n := n) 100 (y + 1)
  rw [← hz] at h x1
  rcases h with h | ⟨h1, h2, h3, h4, h5, h6⟩
  · refine ⟨σ1, ?_, J1⟩
    unfold f_L_isAlikeSo
    simp (disch := omega) only [iI_lit, ofNat_iI, iI_add, iI_sub, iI_mul, iI_neg, iI_lt_t, iI_lt_f, iI_le_t, iI_le_f, iI_eq_t, iI_eq_f, iI_div, rm_iI, tc_iI, inB_iI, nz_iI, is01_0, is01_1, gd_tt, bd_mk, bv_mk, oc_mk, lt_mk, Bool.false_eq_true, ↓reduceIte, x1, h]
  · have hD := dys_b y
    have hw := fwd_b y
    have D1 := days_v (y := z) (by omega) (by omega) σ1
    have D2 := days_v (y := y) (by omega) (by omega) σ1
    obtain ⟨σ2, x2, J2⟩ := a_weekday (y := z) (d := 0) J1 (by omega) (by omega)
    obtain ⟨σ3, x3, J3⟩ := a_weekday (y := y) (d := 0) J2 hy (by omega)
    rw [h4] at D1
    rw [h5] at x2
    obtain ⟨τ, x4, J4⟩ := l70 (z := z) hn hy (by omega) (fun f hf => of_decide_eq_true (allN_at h6 f (by omega) (by omega))) n FU 0 σ3 (by omega) (by simp only [FU]; omega) J3
    have x4 : f_L_isAlikeSo_l70 FU (iI y) (iI z) (iI 1) (iI 0) σ3 = some (iI 1, τ) := x4
    refine ⟨τ, ?_, J4⟩
    unfold f_L_isAlikeSo
    simp (disch := omega) only [iI_lit, ofNat_iI, iI_add, iI_sub, iI_mul, iI_neg, iI_lt_t, iI_lt_f, iI_le_t, iI_le_f, iI_eq_t, iI_eq_f, iI_div, rm_iI, tc_iI, inB_iI, nz_iI, is01_0, is01_1, gd_tt, bd_mk, bv_mk, oc_mk, lt_mk, Bool.false_eq_true, ↓reduceIte, x1, D1, D2, x2, x3, x4]
end PEACE
