/-! the law answers 1 on every script -/
section LAW
variable {σ : St}
theorem stepK {Lr : Option (Int32 × St)} {M : St → Option (Int32 × St)} (h : STEP σ Lr M) {K : St → Option Int32} (hK : ∀ τ, INV τ → K τ = some 1) : (bd Lr fun x t => bd (M t) fun y t' => bd (f_X7_thrown t') fun z t'' => (if z = x then (if x = 0 then gd (inB 0 1) <| (if (lg_cmp (t''.2 235) ((y : Int32).toInt64)) = 0 then K t'' else some 0) else K t'') else some 0)) = some 1 := by
  obtain ⟨r, τ, v, τ', h1, h2, h3, h4, h5⟩ := h
  rw [h1, bd_mk, h2, bd_mk]
  unfold f_X7_thrown
  rw [bd_mk, if_pos h3]
  by_cases c : r = 0
  · rw [if_pos c, show inB 0 1 = true from rfl, gd_tt, if_pos ((lg_cmp_eq _ _).mpr (h4 c))]
    exact hK τ' h5
  · rw [if_neg c]; exact hK τ' h5
theorem t_proclaim (hI : INV σ) : STEP σ (f_L_proclaim σ) f_X7_proclaim := by
  obtain ⟨V, o, m, W, len, b, h1, h2, h3⟩ := hI
  exact s_proclaim h1 h2 h3
theorem t_forget (hI : INV σ) : STEP σ (f_L_forget σ) f_X7_forget := by
  obtain ⟨V, o, m, W, len, b, h1, h2, h3⟩ := hI
  exact s_forget h1 h2 h3
theorem t_undo (hI : INV σ) : STEP σ (f_L_undo σ) f_X7_undo := by
  obtain ⟨V, o, m, W, len, b, h1, h2, h3⟩ := hI
  exact s_undo h1 h2 h3
theorem t_rank (x y : Int32) (hI : INV σ) : STEP σ (f_L_rank x y σ) (f_X7_rank x y) := by
  obtain ⟨V, o, m, W, len, b, h1, h2, h3⟩ := hI
  obtain ⟨a, rfl, ha⟩ := iI_ex x
  obtain ⟨c, rfl, hc⟩ := iI_ex y
  exact s_rank ha hc h1 h2 h3
theorem t_teach (x y : Int32) (hI : INV σ) : STEP σ (f_L_teach x y σ) (f_X7_teach x y) := by
  obtain ⟨V, o, m, W, len, b, h1, h2, h3⟩ := hI
  obtain ⟨a, rfl, ha⟩ := iI_ex x
  obtain ⟨c, rfl, hc⟩ := iI_ex y
  exact s_teach ha hc h1 h2 h3
theorem t_carve (x y : Int32) (hI : INV σ) : STEP σ (f_L_carve x y σ) (f_X7_carve x y) := by
  obtain ⟨V, o, m, W, len, b, h1, h2, h3⟩ := hI
  obtain ⟨a, rfl, ha⟩ := iI_ex x
  obtain ⟨c, rfl, hc⟩ := iI_ex y
  exact s_carve ha hc h1 h2 h3
theorem t_burn (x : Int32) (hI : INV σ) : STEP σ (f_L_burn x σ) (f_X7_burn x) := by
  obtain ⟨V, o, m, W, len, b, h1, h2, h3⟩ := hI
  obtain ⟨a, rfl, ha⟩ := iI_ex x
  exact s_burn ha h1 h2 h3
theorem t_setY (x : Int32) (hI : INV σ) : STEP σ (f_L_set x σ) (f_X7_set x) := by
  obtain ⟨V, o, m, W, len, b, h1, h2, h3⟩ := hI
  obtain ⟨a, rfl, ha⟩ := iI_ex x
  exact s_set ha h1 h2 h3
theorem t_append (x : Int32) (hI : INV σ) : STEP σ (f_L_append x σ) (f_X7_append x) := by
  obtain ⟨V, o, m, W, len, b, h1, h2, h3⟩ := hI
  obtain ⟨a, rfl, ha⟩ := iI_ex x
  exact s_append ha h1 h2 h3
theorem t_day (x y z : Int32) (hI : INV σ) : STEP σ (f_L_day x y z σ) (f_X7_day x y z) := by
  obtain ⟨V, o, m, W, len, b, h1, h2, h3⟩ := hI
  obtain ⟨a, rfl, ha⟩ := iI_ex x
  obtain ⟨c, rfl, hc⟩ := iI_ex y
  obtain ⟨d, rfl, hd⟩ := iI_ex z
  exact s_day ha hc hd h1 h2 h3
theorem t_feast (x y : Int32) (hI : INV σ) : STEP σ (f_L_feast x y σ) (f_X7_feast x y) := by
  obtain ⟨V, o, m, W, len, b, h1, h2, h3⟩ := hI
  obtain ⟨a, rfl, ha⟩ := iI_ex x
  obtain ⟨c, rfl, hc⟩ := iI_ex y
  exact s_feast ha hc h1 h2 h3
theorem t_when (x y z p : Int32) (hp : p = 0 ∨ p = 1) (hI : INV σ) : STEP σ (f_L_when x y z p σ) (f_X7_when x y z p) := by
  obtain ⟨V, o, m, W, len, b, h1, h2, h3⟩ := hI
  obtain ⟨a, rfl, ha⟩ := iI_ex x
  obtain ⟨c, rfl, hc⟩ := iI_ex y
  obtain ⟨d, rfl, hd⟩ := iI_ex z
  rcases hp with rfl | rfl
  · exact s_when (p := 0) ha hc hd (.inl rfl) h1 h2 h3
  · exact s_when (p := 1) ha hc hd (.inr rfl) h1 h2 h3
theorem t_settled (x y : Int32) (hI : INV σ) : STEP σ (f_L_settled x y σ) (f_X7_settled x y) := by
  obtain ⟨V, o, m, W, len, b, h1, h2, h3⟩ := hI
  obtain ⟨a, rfl, ha⟩ := iI_ex x
  obtain ⟨c, rfl, hc⟩ := iI_ex y
  exact s_settled ha hc h1 h2 h3
theorem t_quarrels (x : Int32) (hI : INV σ) : STEP σ (f_L_quarrels x σ) (f_X7_quarrels x) := by
  obtain ⟨V, o, m, W, len, b, h1, h2, h3⟩ := hI
  obtain ⟨a, rfl, ha⟩ := iI_ex x
  exact s_quarrels ha h1 h2 h3
theorem t_stick (x y : Int32) (hI : INV σ) : STEP σ (f_L_stick x y σ) (f_X7_stick x y) := by
  obtain ⟨V, o, m, W, len, b, h1, h2, h3⟩ := hI
  obtain ⟨a, rfl, ha⟩ := iI_ex x
  obtain ⟨c, rfl, hc⟩ := iI_ex y
  exact s_stick ha hc h1 h2 h3
theorem t_count (x : Int32) (hI : INV σ) : STEP σ (f_L_count x σ) (f_X7_count x) := by
  obtain ⟨V, o, m, W, len, b, h1, h2, h3⟩ := hI
  obtain ⟨a, rfl, ha⟩ := iI_ex x
  exact s_count ha h1 h2 h3
theorem t_range (x y z p : Int32) (hp : p = 0 ∨ p = 1) (hI : INV σ) : STEP σ (f_L_range x y z p σ) (f_X7_range x y z p) := by
  obtain ⟨V, o, m, W, len, b, h1, h2, h3⟩ := hI
  obtain ⟨a, rfl, ha⟩ := iI_ex x
  obtain ⟨c, rfl, hc⟩ := iI_ex y
  obtain ⟨d, rfl, hd⟩ := iI_ex z
  rcases hp with rfl | rfl
  · exact s_range (p := 0) ha hc hd (.inl rfl) h1 h2 h3
  · exact s_range (p := 1) ha hc hd (.inr rfl) h1 h2 h3
theorem t_alike (x : Int32) (hI : INV σ) : STEP σ (f_L_alike x σ) (f_X7_alike x) := by
  obtain ⟨V, o, m, W, len, b, h1, h2, h3⟩ := hI
  obtain ⟨a, rfl, ha⟩ := iI_ex x
  exact s_alike ha h1 h2 h3
theorem t_peace (x y : Int32) (hI : INV σ) : STEP σ (f_L_peace x y σ) (f_X7_peace x y) := by
  obtain ⟨V, o, m, W, len, b, h1, h2, h3⟩ := hI
  obtain ⟨a, rfl, ha⟩ := iI_ex x
  obtain ⟨c, rfl, hc⟩ := iI_ex y
  exact s_peace ha hc h1 h2 h3
theorem t_moved (x y : Int32) (hI : INV σ) : STEP σ (f_L_moved x y σ) (f_X7_moved x y) := by
  obtain ⟨V, o, m, W, len, b, h1, h2, h3⟩ := hI
  obtain ⟨a, rfl, ha⟩ := iI_ex x
  obtain ⟨c, rfl, hc⟩ := iI_ex y
  exact s_moved ha hc h1 h2 h3
set_option maxRecDepth 20000 in
set_option maxHeartbeats 4000000 in
theorem b23_ok {xs : Nat → Int32} {L j : Nat} {K : Int32 → St → Option Int32} (hL : L ≤ 2560) (hj : 5 * j + 5 ≤ L) (hI : INV σ) (hK : ∀ τ, INV τ → K (iI (5 * (j : Int)) + 5) τ = some 1) : f_L_law_b23 xs L K (iI (5 * (j : Int))) σ = some 1 := by
  obtain ⟨y, hy⟩ : ∃ y, y = iI (5 * (j : Int)) := ⟨_, rfl⟩
  have i0 : inB y L = true := by rw [hy]; exact inB_iI (by omega) (by omega) (by omega)
  have i1 : inB (y + 1) L = true := by rw [hy, show (1 : Int32) = iI 1 from rfl, iI_add]; exact inB_iI (by omega) (by omega) (by omega)
  have i2 : inB (y + 2) L = true := by rw [hy, show (2 : Int32) = iI 2 from rfl, iI_add]; exact inB_iI (by omega) (by omega) (by omega)
  have i3 : inB (y + 3) L = true := by rw [hy, show (3 : Int32) = iI 3 from rfl, iI_add]; exact inB_iI (by omega) (by omega) (by omega)
  have i4 : inB (y + 4) L = true := by rw [hy, show (4 : Int32) = iI 4 from rfl, iI_add]; exact inB_iI (by omega) (by omega) (by omega)
  have hend : ¬ ((Int32.ofNat L) - 5 < y) := by
    rw [hy, ofNat_iI, show (5 : Int32) = iI 5 from rfl, iI_sub, iI_lt (by omega) (by omega) (by omega) (by omega)]; omega
  rw [← hy] at hK ⊢
  have hK' : ∀ τ, INV τ → (lt (y + 5) fun x => K x τ) = some 1 := fun τ h => by rw [lt_mk]; exact hK τ h
  unfold f_L_law_b23
  rw [if_neg hend, i0, gd_tt]
  obtain ⟨op, hop⟩ : ∃ op, op = (xs (tc y)) &&& 31 := ⟨_, rfl⟩
  rw [← hop]
  by_cases c0 : op = 0
  · rw [if_pos c0]; exact stepK (t_proclaim hI) hK'
  rw [if_neg c0]
  by_cases c1 : op = 1
  · rw [if_pos c1]; exact stepK (t_forget hI) hK'
  rw [if_neg c1]
  by_cases c2 : op = 2
  · rw [if_pos c2]; simp only [i1, i2, gd_tt]; exact stepK (t_rank _ _ hI) hK'
  rw [if_neg c2]
  by_cases c3 : op = 3
  · rw [if_pos c3]; simp only [i1, i2, gd_tt]; exact stepK (t_teach _ _ hI) hK'
  rw [if_neg c3]
  by_cases c4 : op = 4
  · rw [if_pos c4]; simp only [i1, i2, gd_tt]; exact stepK (t_carve _ _ hI) hK'
  rw [if_neg c4]
  by_cases c5 : op = 5
  · rw [if_pos c5]; simp only [i1, gd_tt]; exact stepK (t_burn _ hI) hK'
  rw [if_neg c5]
  by_cases c6 : op = 6
  · rw [if_pos c6]; simp only [i1, gd_tt]; exact stepK (t_setY _ hI) hK'
  rw [if_neg c6]
  by_cases c7 : op = 7
  · rw [if_pos c7]; simp only [i1, gd_tt]; exact stepK (t_append _ hI) hK'
  rw [if_neg c7]
  by_cases c8 : op = 8
  · rw [if_pos c8]
    obtain ⟨V, o, m, W, len, b, h1, h2, h3⟩ := hI
    obtain ⟨v, τ, τ', x1, x2, x3⟩ := s_clear h1 h2 h3
    rw [x1, bd_mk, x2, bd_mk, if_pos rfl]
    exact hK' τ' x3
  rw [if_neg c8]
  by_cases c9 : op = 9
  · rw [if_pos c9]
    obtain ⟨V, o, m, W, len, b, h1, h2, h3⟩ := hI
    obtain ⟨v, τ, τ', x1, x2, x3⟩ := s_first h1 h2 h3
    rw [x1, bd_mk, x2, bd_mk, if_pos rfl]
    exact hK' τ' x3
  rw [if_neg c9]
  by_cases c10 : op = 10
  · rw [if_pos c10]; exact stepK (t_undo hI) hK'
  rw [if_neg c10]
  by_cases c11 : op = 11
  · rw [if_pos c11]; simp only [i1, i2, i3, gd_tt]; exact stepK (t_day _ _ _ hI) hK'
  rw [if_neg c11]
  by_cases c12 : op = 12
  · rw [if_pos c12]; simp only [i1, i2, gd_tt]; exact stepK (t_feast _ _ hI) hK'
  rw [if_neg c12]
  by_cases c13 : op = 13
  · rw [if_pos c13]
    simp only [i1, i2, i3, i4, gd_tt]
    by_cases d : xs (tc (y + 4)) = 0
    · rw [if_pos d]
      unfold f_L_law_b859 f_L_law_b898
      simp only [i1, i2, i3, i4, gd_tt, d, ↓reduceIte]
      exact stepK (t_when _ _ _ _ (.inl rfl) hI) hK'
    · rw [if_neg d]
      unfold f_L_law_b859 f_L_law_b898
      simp only [i1, i2, i3, i4, gd_tt, d, ↓reduceIte]
      exact stepK (t_when _ _ _ _ (.inr rfl) hI) hK'
  rw [if_neg c13]
  by_cases c14 : op = 14
  · rw [if_pos c14]; simp only [i1, i2, gd_tt]; exact stepK (t_settled _ _ hI) hK'
  rw [if_neg c14]
  by_cases c15 : op = 15
  · rw [if_pos c15]; simp only [i1, gd_tt]; exact stepK (t_quarrels _ hI) hK'
  rw [if_neg c15]
  by_cases c16 : op = 16
  · rw [if_pos c16]; simp only [i1, i2, gd_tt]; exact stepK (t_stick _ _ hI) hK'
  rw [if_neg c16]
  by_cases c17 : op = 17
  · rw [if_pos c17]; simp only [i1, gd_tt]; exact stepK (t_count _ hI) hK'
  rw [if_neg c17]
  by_cases c18 : op = 18
  · rw [if_pos c18]
    simp only [i1, i2, i3, i4, gd_tt]
    by_cases d : xs (tc (y + 4)) = 0
    · rw [if_pos d]
      unfold f_L_law_b1215 f_L_law_b1254
      simp only [i1, i2, i3, i4, gd_tt, d, ↓reduceIte]
      exact stepK (t_range _ _ _ _ (.inl rfl) hI) hK'
    · rw [if_neg d]
      unfold f_L_law_b1215 f_L_law_b1254
      simp only [i1, i2, i3, i4, gd_tt, d, ↓reduceIte]
      exact stepK (t_range _ _ _ _ (.inr rfl) hI) hK'
  rw [if_neg c18]
  by_cases c19 : op = 19
  · rw [if_pos c19]; simp only [i1, gd_tt]; exact stepK (t_alike _ hI) hK'
  rw [if_neg c19]
  by_cases c20 : op = 20
  · rw [if_pos c20]; simp only [i1, i2, gd_tt]; exact stepK (t_peace _ _ hI) hK'
  rw [if_neg c20]
  by_cases c21 : op = 21
  · rw [if_pos c21]; simp only [i1, i2, gd_tt]; exact stepK (t_moved _ _ hI) hK'
  rw [if_neg c21]
  by_cases c22 : op = 22
  · rw [if_pos c22]
    obtain ⟨V, o, m, W, len, b, h1, h2, h3⟩ := hI
    obtain ⟨v, τ, τ', x1, x2, x3, x4⟩ := s_share h1 h2 h3
    rw [x1, bd_mk, x2, bd_mk, if_pos x3]
    exact hK' τ' x4
  rw [if_neg c22]
  by_cases c23 : op = 23
  · rw [if_pos c23]
    obtain ⟨V, o, m, W, len, b, h1, h2, h3⟩ := hI
    obtain ⟨v, τ, τ', x1, x2, x3⟩ := s_digest h1 h2 h3
    rw [x1, bd_mk, x2, bd_mk, if_pos ((lg_cmp_eq _ _).mpr rfl)]
    exact hK' τ' x3
  rw [if_neg c23]
  exact hK' σ hI
end LAW
theorem INV_0 : INV s0 := by
  refine ⟨fun k => if k = 44 then 300 else 0, 0, 0, fun _ _ => 0, 0, fun _ => 0, ⟨⟨⟨?_, ?_, ?_, fun c hc => ?_, fun f hf => ?_, fun k hk => ?_⟩, fun k hk => ?_⟩, fun j hj => by omega, by omega, fun i hi => by omega⟩, ⟨⟨?_, ?_, ?_, fun c hc => ?_, fun f hf => ?_, fun k hk => ?_⟩, ⟨?_, ?_, by omega, by omega, fun j hj => by omega⟩, ?_, fun i hi => by omega⟩, ⟨fun k hk => ?_, ⟨?_, fun j hj => by omega⟩, ?_, fun i hi => by omega⟩⟩
  · simp
  · simp
  · simp
  · show -5 ≤ (if 41 + c = 44 then (300 : Int) else 0) ∧ (if 41 + c = 44 then (300 : Int) else 0) ≤ 5
    rw [if_neg (by omega)]; omega
  · simp at hf; omega
  · simp at hk; omega
  · unfold IK
    simp only
    rw [if_neg (by omega), if_neg (by omega), if_neg (by omega)]
    exact ⟨by omega, by omega, by omega, by omega, by omega, by omega, fun f hf => by rw [if_neg (by omega)]; omega⟩
  · decide +kernel
  · decide +kernel
  · decide +kernel
  · rcases (show c = 0 ∨ c = 1 ∨ c = 2 by omega) with rfl | rfl | rfl <;> decide +kernel
  · simp at hf; omega
  · simp at hk; omega
  · decide +kernel
  · decide +kernel
  · decide +kernel
  · have hk8 : kd 226 = 8 := by decide +kernel
    show (if kd 226 = 5 ∧ k = 6 then (300 : Int32) else if 226 = 226 ∧ k = 44 then 300 else 0) = iI (if k = 44 then 300 else 0)
    rw [hk8, if_neg (by omega)]
    by_cases c : k = 44
    · rw [if_pos ⟨rfl, c⟩, if_pos c]; rfl
    · rw [if_neg (by omega), if_neg c]; rfl
  · decide +kernel
  · decide +kernel
theorem law_pure (xs : Nat → Int32) {L : Nat} (hL : L ≤ 2560) : f_L_law_l23 xs L FU 0 s0 = some 1 := by
  have H : ∀ (k g j : Nat) (σ : St), INV σ → L < 5 * j + 5 * k → 5 * j ≤ L + 5 → k < g → f_L_law_l23 xs L g (iI (5 * (j : Int))) σ = some 1 := by
    intro k
    induction k with
    | zero =>
      intro g j σ hI h1 h2 h3
      obtain ⟨g, rfl⟩ : ∃ g', g = g' + 1 := ⟨g - 1, by omega⟩
      show f_L_law_b23 _ _ _ _ _ = _
      unfold f_L_law_b23
      rw [if_pos (show (Int32.ofNat L) - 5 < iI (5 * (j : Int)) by rw [ofNat_iI, show (5 : Int32) = iI 5 from rfl, iI_sub, iI_lt (by omega) (by omega) (by omega) (by omega)]; omega)]
    | succ k ih =>
      intro g j σ hI h1 h2 h3
      obtain ⟨g, rfl⟩ : ∃ g', g = g' + 1 := ⟨g - 1, by omega⟩
      show f_L_law_b23 _ _ _ _ _ = _
      by_cases c : 5 * j + 5 ≤ L
      · refine b23_ok hL c hI (fun τ hτ => ?_)
        have z := ih g (j + 1) τ hτ (by omega) (by omega) (by omega)
        rw [show (5 : Int32) = iI 5 from rfl, iI_add, show 5 * (j : Int) + 5 = 5 * ((j + 1 : Nat) : Int) by omega]
        exact z
      · unfold f_L_law_b23
        rw [if_pos (show (Int32.ofNat L) - 5 < iI (5 * (j : Int)) by rw [ofNat_iI, show (5 : Int32) = iI 5 from rfl, iI_sub, iI_lt (by omega) (by omega) (by omega) (by omega)]; omega)]
  exact H 600 FU 0 s0 INV_0 (by omega) (by omega) (by simp only [FU]; omega)
