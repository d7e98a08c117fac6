/-! one step of the law's play -/
theorem cnN_0 {P : Nat → Bool} : ∀ {n : Nat}, (∀ f, f < n → P f = false) → cnN P n = 0 := by
  intro n
  induction n with
  | zero => intro _; rfl
  | succ n ih => intro h; rw [cnN_f (h n (by omega))]; exact ih (fun f hf => h f (by omega))
theorem cnN_cong {P Q : Nat → Bool} : ∀ {n : Nat}, (∀ f, f < n → P f = Q f) → cnN P n = cnN Q n := by
  intro n
  induction n with
  | zero => intro _; rfl
  | succ n ih =>
    intro h
    have h1 := ih (fun f hf => h f (by omega))
    have h2 := h n (by omega)
    show cnN P n + (if P n = true then 1 else 0) = cnN Q n + (if Q n = true then 1 else 0)
    rw [h1, h2]
theorem crv_lo {V : Nat → Int} {y : Int} {c : Nat} {N : Nat → Int} {k : Nat} (h : k < 45) : crv V y c N k = V k := by rw [crv_x (by omega), shV_lo (by omega) (by omega)]
theorem stS_crv {V : Nat → Int} {y : Int} {c : Nat} (hZ : IZ V) (hc : c < 3) : stS (crv V y c (Nt V y (SL V c))) 0 = 0 := by
  obtain ⟨V', hV⟩ : ∃ V', V' = crv V y c (Nt V y (SL V c)) := ⟨_, rfl⟩
  have hn10 := hZ.1.1
  have lo : ∀ k, k < 45 → V' k = V k := fun k hk => by rw [hV]; exact crv_lo hk
  have e1 : sty V' 0 = y := by rw [hV]; exact crv_46
  have e2 : stc V' 0 = c := by
    have h : V' (47 + 13 * 0) = (c : Int) := by rw [hV]; exact crv_47
    unfold stc; rw [h]; omega
  have e3 : stn V' 0 = (V 0).toNat := by
    have h : V' (48 + 13 * 0) = V 0 := by rw [hV]; exact crv_48
    unfold stn; rw [h]
  have e4 : ∀ f, f < 10 → stm V' 0 f = Nt V y (SL V c) f := fun f hf => by
    show V' (49 + f) = _
    rw [hV]; exact crv_N hf
  rw [← hV]
  unfold stS
  rw [e3]
  refine cnN_0 (fun f hf => stl0_f ?_)
  rintro (h | h)
  · rw [lo 0 (by omega)] at h; omega
  · refine h ?_
    rw [e1, e2, e4 f (by omega), show SL V' c = SL V c from lo _ (by omega)]
    rw [Nt_cong (V := V') (W := V) (by rw [lo 0 (by omega)]; omega) (lo 0 (by omega)) (fun k _ h2 => lo k (by omega)) (lo 44 (by omega))]
section DOES
variable {σ : St} {V : Nat → Int} {m : Nat} {W : Nat → Nat → Int} {len : Nat} {b : Nat → Int}
def DO (x : Int32) (kd : Int) (σ : St) (V : Nat → Int) : Prop := ∃ (g : Int) (τ : St) (V' : Nat → Int) (m' : Nat) (W' : Nat → Nat → Int), f_L_does x σ = some (iI g, τ) ∧ JJ τ V' m' W' ∧ (0 ≤ g ∧ g ≤ 1000) ∧ (kd ≤ 4 → g = if V 0 < 10 then 1 else 0) ∧ (10 ≤ kd → kd ≤ 12 → 0 < V' 45 ∧ spr V' 0 3 = 0 ∧ spr V' 0 2 = g)
set_option maxHeartbeats 2000000 in
theorem does_v {x : Int32} {kd : Int} (hk : x &&& 15 = iI kd) (hkd : 0 ≤ kd ∧ kd ≤ 15) (hJ : JJ σ V m W) : DO x kd σ V := by
  obtain ⟨n, hn, hn10⟩ := hJ.n
  obtain ⟨ns, hns, hns5⟩ := hJ.k
  obtain ⟨σ0, x0, J0⟩ := a_feasts hJ
  rw [hn] at x0
  obtain ⟨B4, hB4⟩ : ∃ B, x >>> ((4 : Int32) &&& 31) = B := ⟨_, rfl⟩
  obtain ⟨B6, hB6⟩ : ∃ B, x >>> ((6 : Int32) &&& 31) = B := ⟨_, rfl⟩
  obtain ⟨B8, hB8⟩ : ∃ B, x >>> ((8 : Int32) &&& 31) = B := ⟨_, rfl⟩
  obtain ⟨B14, hB14⟩ : ∃ B, x >>> ((14 : Int32) &&& 31) = B := ⟨_, rfl⟩
  obtain ⟨t5, ht5, t51, t52⟩ := iI_ex (B4 &&& 3)
  by_cases k4 : kd ≤ 4
  · obtain ⟨τ1, l1, q, x1, ⟨b1, y1, y2, y3⟩, x3, x4⟩ := typed_v (x := B4) (n := (n : Int)) J0 (by omega)
    obtain ⟨τ2, V', z1, z2, z3⟩ := g_proclaim y1 y2 x3 y3
    have hg : V' 0 - V 0 = if V 0 < 10 then 1 else 0 := by
      rcases z3 with ⟨c, rfl⟩ | ⟨c, rfl⟩
      · rw [adF_0, if_pos c.1]; omega
      · rw [if_neg (fun d => c ⟨d, fun e => by rw [hn]; exact x4 e⟩)]; omega
    have hb : 0 ≤ V' 0 - V 0 ∧ V' 0 - V 0 ≤ 1 := by rw [hg]; split <;> omega
    refine ⟨V' 0 - V 0, τ2, V', _, _, ?_, z2, by omega, fun _ => hg, fun h => by omega⟩
    unfold f_L_does
    rw [hk, hB4, hB6, hB8, hB14, ht5]
    rcases (show kd = 0 ∨ kd = 1 ∨ kd = 2 ∨ kd = 3 ∨ kd = 4 by omega) with rfl | rfl | rfl | rfl | rfl
    all_goals simp (disch := omega) only [iI_lit, ofNat_iI, iI_add, iI_sub, iI_mul, iI_neg, iI_lt_t, iI_lt_f, iI_le_t, iI_le_f, iI_eq_t, iI_eq_f, iI_div, rm_iI, tc_iI, inB_iI, nz_iI, is01_0, is01_1, gd_tt, bd_mk, bv_mk, oc_mk, lt_mk, Bool.false_eq_true, ↓reduceIte, x0, x1, z1]
  by_cases k5 : kd = 5
  · by_cases c : t5 = 0 ∧ 0 < n
    · obtain ⟨τ1, x1, x2⟩ := g_forget J0 hn c.2
      refine ⟨(n : Int) - 1, τ1, _, _, _, ?_, x2, by omega, fun h => by omega, fun h => by omega⟩
      unfold f_L_does
      rw [hk, hB4, hB6, hB8, hB14, ht5]
      simp (disch := omega) only [iI_lit, ofNat_iI, iI_add, iI_sub, iI_mul, iI_neg, iI_lt_t, iI_lt_f, iI_le_t, iI_le_f, iI_eq_t, iI_eq_f, iI_div, rm_iI, tc_iI, inB_iI, nz_iI, is01_0, is01_1, gd_tt, bd_mk, bv_mk, oc_mk, lt_mk, Bool.false_eq_true, ↓reduceIte, x0, k5, x1]
    · refine ⟨0, σ0, V, m, W, ?_, J0, by omega, fun h => by omega, fun h => by omega⟩
      unfold f_L_does
      rw [hk, hB4, hB6, hB8, hB14, ht5]
      by_cases c5 : t5 = 0
      · simp (disch := omega) only [iI_lit, ofNat_iI, iI_add, iI_sub, iI_mul, iI_neg, iI_lt_t, iI_lt_f, iI_le_t, iI_le_f, iI_eq_t, iI_eq_f, iI_div, rm_iI, tc_iI, inB_iI, nz_iI, is01_0, is01_1, gd_tt, bd_mk, bv_mk, oc_mk, lt_mk, Bool.false_eq_true, ↓reduceIte, x0, k5, c5]
      · simp (disch := omega) only [iI_lit, ofNat_iI, iI_add, iI_sub, iI_mul, iI_neg, iI_lt_t, iI_lt_f, iI_le_t, iI_le_f, iI_eq_t, iI_eq_f, iI_div, rm_iI, tc_iI, inB_iI, nz_iI, is01_0, is01_1, gd_tt, bd_mk, bv_mk, oc_mk, lt_mk, Bool.false_eq_true, ↓reduceIte, x0, k5]
  by_cases k7 : kd ≤ 7
  · by_cases c : 0 < n
    · obtain ⟨f, u1, u2, u3⟩ := low_v B4 (n := (n : Int)) (by omega) σ0
      obtain ⟨w, v1, v2, v3⟩ := low_v B8 (n := 10) (by omega) σ0
      obtain ⟨f, rfl⟩ : ∃ f' : Nat, f = (f' : Int) := ⟨f.toNat, by omega⟩
      obtain ⟨τ1, x1, x2⟩ := g_rank (f := f) (w := w) J0 (by omega) (by omega)
      have hb := hJ.I.2.2.2.2.1 f (by omega)
      refine ⟨V (2 + 4 * f), τ1, _, _, _, ?_, x2, ⟨hb.2.2.1, by have := hb.2.2.2.1; omega⟩, fun h => by omega, fun h => by omega⟩
      unfold f_L_does
      rw [hk, hB4, hB6, hB8, hB14, ht5]
      rcases (show kd = 6 ∨ kd = 7 by omega) with rfl | rfl
      all_goals simp (disch := omega) only [iI_lit, ofNat_iI, iI_add, iI_sub, iI_mul, iI_neg, iI_lt_t, iI_lt_f, iI_le_t, iI_le_f, iI_eq_t, iI_eq_f, iI_div, rm_iI, tc_iI, inB_iI, nz_iI, is01_0, is01_1, gd_tt, bd_mk, bv_mk, oc_mk, lt_mk, Bool.false_eq_true, ↓reduceIte, x0, u1, v1, x1]
    · refine ⟨0, σ0, V, m, W, ?_, J0, by omega, fun h => by omega, fun h => by omega⟩
      unfold f_L_does
      rw [hk, hB4, hB6, hB8, hB14, ht5]
      rcases (show kd = 6 ∨ kd = 7 by omega) with rfl | rfl
      all_goals simp (disch := omega) only [iI_lit, ofNat_iI, iI_add, iI_sub, iI_mul, iI_neg, iI_lt_t, iI_lt_f, iI_le_t, iI_le_f, iI_eq_t, iI_eq_f, iI_div, rm_iI, tc_iI, inB_iI, nz_iI, is01_0, is01_1, gd_tt, bd_mk, bv_mk, oc_mk, lt_mk, Bool.false_eq_true, ↓reduceIte, x0]
  by_cases k9 : kd ≤ 9
  · obtain ⟨c, u1, u2, u3⟩ := low_v B4 (n := 3) (by omega) σ0
    obtain ⟨w, v1, v2, v3⟩ := low_v B6 (n := 11) (by omega) σ0
    obtain ⟨c, rfl⟩ : ∃ f' : Nat, c = (f' : Int) := ⟨c.toNat, by omega⟩
    obtain ⟨τ1, x1, x2⟩ := g_teach (f := c) (w := w - 5) J0 (by omega) (by omega)
    have hb := SL_b hJ.I (c := c) (by omega)
    refine ⟨SL V c + 5, τ1, _, _, _, ?_, x2, by omega, fun h => by omega, fun h => by omega⟩
    unfold f_L_does
    rw [hk, hB4, hB6, hB8, hB14, ht5]
    rcases (show kd = 8 ∨ kd = 9 by omega) with rfl | rfl
    all_goals simp (disch := omega) only [iI_lit, ofNat_iI, iI_add, iI_sub, iI_mul, iI_neg, iI_lt_t, iI_lt_f, iI_le_t, iI_le_f, iI_eq_t, iI_eq_f, iI_div, rm_iI, tc_iI, inB_iI, nz_iI, is01_0, is01_1, gd_tt, bd_mk, bv_mk, oc_mk, lt_mk, Bool.false_eq_true, ↓reduceIte, x0, u1, v1, x1]
  by_cases k12 : kd ≤ 12
  · obtain ⟨y, u1, u2, u3⟩ := low_v B4 (n := 1000) (by omega) σ0
    obtain ⟨c, v1, v2, v3⟩ := low_v B14 (n := 3) (by omega) σ0
    obtain ⟨c, rfl⟩ : ∃ f' : Nat, c = (f' : Int) := ⟨c.toNat, by omega⟩
    obtain ⟨τ1, x1, x2⟩ := g_carve (y := y) (k := c) J0 (by omega) (by omega)
    have hb := cnN_b (hasS (crv V y c (Nt V y (SL V c))) 0) 10
    have hk5 := hJ.I.2.2.1
    refine ⟨ntS (crv V y c (Nt V y (SL V c))) 0, τ1, _, _, _, ?_, x2, by unfold ntS; omega, fun h => by omega, fun _ _ => ⟨?_, ?_, rfl⟩⟩
    · unfold f_L_does
      rw [hk, hB4, hB6, hB8, hB14, ht5]
      rcases (show kd = 10 ∨ kd = 11 ∨ kd = 12 by omega) with rfl | rfl | rfl
      all_goals simp (disch := omega) only [iI_lit, ofNat_iI, iI_add, iI_sub, iI_mul, iI_neg, iI_lt_t, iI_lt_f, iI_le_t, iI_le_f, iI_eq_t, iI_eq_f, iI_div, rm_iI, tc_iI, inB_iI, nz_iI, is01_0, is01_1, gd_tt, bd_mk, bv_mk, oc_mk, lt_mk, Bool.false_eq_true, ↓reduceIte, x0, u1, v1, x1]
    · rw [crv_x (by omega), shV_45]
      split <;> omega
    · exact stS_crv hJ.1.1.1 (by omega)
  by_cases k13 : kd = 13
  · obtain ⟨σ1, y1, J1⟩ := a_sticks J0
    rw [hns] at y1
    by_cases c : 0 < ns
    · obtain ⟨σ2, y2, J2⟩ := a_sticks J1
      rw [hns] at y2
      obtain ⟨s, u1, u2, u3⟩ := low_v B4 (n := (ns : Int)) (by omega) σ2
      obtain ⟨s, rfl⟩ : ∃ f' : Nat, s = (f' : Int) := ⟨s.toNat, by omega⟩
      obtain ⟨τ1, x1, x2⟩ := g_burn (s := s) J2 (by omega)
      have hb := (hJ.I.2.2.2.2.2 s (by omega)).ex.1
      refine ⟨sty V s, τ1, _, _, _, ?_, x2, by omega, fun h => by omega, fun h => by omega⟩
      unfold f_L_does
      rw [hk, hB4, hB6, hB8, hB14, ht5]
      simp (disch := omega) only [iI_lit, ofNat_iI, iI_add, iI_sub, iI_mul, iI_neg, iI_lt_t, iI_lt_f, iI_le_t, iI_le_f, iI_eq_t, iI_eq_f, iI_div, rm_iI, tc_iI, inB_iI, nz_iI, is01_0, is01_1, gd_tt, bd_mk, bv_mk, oc_mk, lt_mk, Bool.false_eq_true, ↓reduceIte, x0, k13, y1, y2, u1, x1]
    · refine ⟨0, σ1, V, m, W, ?_, J1, by omega, fun h => by omega, fun h => by omega⟩
      unfold f_L_does
      rw [hk, hB4, hB6, hB8, hB14, ht5]
      simp (disch := omega) only [iI_lit, ofNat_iI, iI_add, iI_sub, iI_mul, iI_neg, iI_lt_t, iI_lt_f, iI_le_t, iI_le_f, iI_eq_t, iI_eq_f, iI_div, rm_iI, tc_iI, inB_iI, nz_iI, is01_0, is01_1, gd_tt, bd_mk, bv_mk, oc_mk, lt_mk, Bool.false_eq_true, ↓reduceIte, x0, k13, y1]
  by_cases k14 : kd = 14
  · obtain ⟨w, u1, u2, u3⟩ := low_v B4 (n := 351) (by omega) σ0
    obtain ⟨τ1, x1, x2⟩ := g_set (w := 50 + w) J0 (by omega)
    have hb := hJ.I.2.1
    refine ⟨V 44, τ1, _, _, _, ?_, x2, by omega, fun h => by omega, fun h => by omega⟩
    unfold f_L_does
    rw [hk, hB4, hB6, hB8, hB14, ht5]
    simp (disch := omega) only [iI_lit, ofNat_iI, iI_add, iI_sub, iI_mul, iI_neg, iI_lt_t, iI_lt_f, iI_le_t, iI_le_f, iI_eq_t, iI_eq_f, iI_div, rm_iI, tc_iI, inB_iI, nz_iI, is01_0, is01_1, gd_tt, bd_mk, bv_mk, oc_mk, lt_mk, Bool.false_eq_true, ↓reduceIte, x0, k14, u1, x1]
  · have k15 : kd = 15 := by omega
    refine ⟨0, σ0, V, m, W, ?_, J0, by omega, fun h => by omega, fun h => by omega⟩
    unfold f_L_does
    rw [hk, hB4, hB6, hB8, hB14, ht5]
    simp (disch := omega) only [iI_lit, ofNat_iI, iI_add, iI_sub, iI_mul, iI_neg, iI_lt_t, iI_lt_f, iI_le_t, iI_le_f, iI_eq_t, iI_eq_f, iI_div, rm_iI, tc_iI, inB_iI, nz_iI, is01_0, is01_1, gd_tt, bd_mk, bv_mk, oc_mk, lt_mk, Bool.false_eq_true, ↓reduceIte, x0, k15]
end DOES
