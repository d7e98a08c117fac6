/-! what changes the state -/
theorem IS_of {V V' : Nat → Int} (h : IS V) (e : ∀ k, 45 ≤ k → V' k = V k) : IS V' := by
  intro k f hk h1 h2
  unfold stn at h1
  rw [e _ (by omega)] at hk h1
  unfold stm
  rw [e _ (by omega)]
  exact h k f hk h1 h2
section CHG
variable {σ : St} {V : Nat → Int} {m : Nat} {W : Nat → Nat → Int} {len : Nat} {b : Nat → Int}
theorem save_P (hY : IY V) (hW : ∀ j, j < m → IY (W j)) (hm : m ≤ 6) : ∀ j, j < svM m → IY (svW m W V j) := by
  intro j hj
  unfold svM at hj
  unfold svW
  by_cases c : m < 6
  · rw [if_pos c] at hj ⊢
    by_cases q : j = m
    · rw [if_pos q]; exact hY
    · rw [if_neg q]; exact hW j (by omega)
  · rw [if_neg c] at hj ⊢
    by_cases q : j = 5
    · rw [if_pos q]; exact hY
    · rw [if_neg q]; exact hW (j + 1) (by omega)
theorem svW_last (m : Nat) (W : Nat → Nat → Int) (V : Nat → Int) : svW m W V (svM m - 1) = V := by
  unfold svM svW
  by_cases c : m < 6
  · rw [if_pos c, if_pos c, if_pos (by omega)]
  · rw [if_neg c, if_neg c, if_pos (by omega)]
theorem svM_pos (m : Nat) : ∃ k, svM m = k + 1 := by
  unfold svM
  split
  · exact ⟨m, rfl⟩
  · exact ⟨5, rfl⟩
theorem save_C (hJ : JB σ V m W len b) : ∃ τ, f_X1_save 1 σ = some τ ∧ JB τ V (svM m) (svW m W V) len b ∧ Fr 20 136 σ τ := by
  obtain ⟨⟨h1, h2, h3⟩, o, hC⟩ := hJ
  obtain ⟨τ, o', x1, x2, x3⟩ := saveC h1.1.1 hC.1 hC.2.1
  refine ⟨τ, x1, ⟨⟨h1, save_P h1 h2 hC.2.1.2.2.2.1, h3⟩, o', hC.1.fr x2 (by omega), x3, ?_, fun i hi => ?_⟩, x2⟩
  · rw [x2.at (by omega)]; exact hC.2.2.1
  · rw [x2.at (by omega)]; exact hC.2.2.2 i hi
theorem JB.row {τ : St} {V' : Nat → Int} (h : JB σ V m W len b) (e : Fr 1 20 σ τ) (hS : RS τ 1 V') (hY : IY V') : JB τ V' m W len b := by
  obtain ⟨⟨h1, h2, h3⟩, o, hC⟩ := h
  refine ⟨⟨hY, h2, h3⟩, o, hS, hC.2.1.fr e (by omega), ?_, fun i hi => ?_⟩
  · rw [e.at (by omega)]; exact hC.2.2.1
  · rw [e.at (by omega)]; exact hC.2.2.2 i hi
theorem g_rank {f : Nat} {w : Int} (hJ : JB σ V m W len b) (hf : (f : Int) < V 0) (c2 : 0 ≤ w ∧ w ≤ 9) : ∃ τ, f_X6_rank (iI (f : Int)) (iI w) σ = some (iI (V (2 + 4 * f)), τ) ∧ JB τ (updf V (2 + 4 * f) w) (svM m) (svW m W V) len b := by
  obtain ⟨n, hn, hn10⟩ := hJ.n
  have hZ := hJ.1.1.1
  have hk5 := hZ.1.2.2.1
  have z0 : σ.1 1 0 = iI (n : Int) := by rw [hJ.R.1, hn]
  have N1 := needFeast_v (a := (f : Int)) z0 hn10 (by omega)
  have N2 := needA (lo := 0) (hi := 9) c2 (by omega) (by omega) σ
  have e0 : ((f : Int)).toNat = f := by omega
  obtain ⟨σ1, s1, s2, s3⟩ := save_C hJ
  have k1 := at_in (c := 4) (N := 10) rfl (by omega) (i := (f : Int)) (σ := σ1) (by omega) (by omega)
  have k2 := put_in (c := 4) (N := 10) rfl (by omega) (i := (f : Int)) (x := iI w) (σ := σ1) (by omega) (by omega)
  rw [e0, show σ1.1 (4 + 1) f = iI (V (2 + 4 * f)) from (s2.R.2.2.2.2.1 f (by omega)).2.1] at k1
  rw [e0] at k2
  have G : Fr 1 20 σ1 (sI σ1 (4 + 1) f (iI w)) := Fr.sI (by omega) (by omega)
  have Z' : IZ (updf V (2 + 4 * f) w) := by
    refine IZ_f hZ (fun k hk => updf_ne (by omega)) (by rw [updf_ne (by omega)]; exact hZ.1.1) (fun g hg => ?_)
    rw [updf_ne (by omega)] at hg
    have z := hZ.1.2.2.2.2.1 g hg
    unfold IF at z ⊢
    rw [updf_ne (show 1 + 4 * g ≠ 2 + 4 * f by omega), updf_ne (show 3 + 4 * g ≠ 2 + 4 * f by omega), updf_ne (show 4 + 4 * g ≠ 2 + 4 * f by omega)]
    by_cases q : g = f
    · rw [q, updf_at]; rw [q] at z
      exact ⟨z.1, z.2.1, c2.1, c2.2, z.2.2.2.2⟩
    · rw [updf_ne (show 2 + 4 * g ≠ 2 + 4 * f by omega)]; exact z
  have S' : RS (sI σ1 (4 + 1) f (iI w)) 1 (updf V (2 + 4 * f) w) := by
    obtain ⟨q1, q2, q3, q4, q5, q6⟩ := s2.R
    refine ⟨?_, ?_, ?_, fun c hc => ?_, fun g hg => ?_, fun k hk => ?_⟩
    · rw [sI_c (by omega), updf_ne (by omega)]; exact q1
    · rw [sI_c (by omega), updf_ne (by omega)]; exact q2
    · rw [sI_c (by omega), updf_ne (by omega)]; exact q3
    · rw [sI_c (by omega), updf_ne (by omega)]; exact q4 c hc
    · rw [updf_ne (by omega)] at hg
      obtain ⟨t1, t2, t3, t4⟩ := q5 g hg
      refine ⟨?_, ?_, ?_, ?_⟩
      · rw [sI_c (by omega), updf_ne (by omega)]; exact t1
      · show (sI σ1 (4 + 1) f (iI w)).1 (4 + 1) g = _
        by_cases q : g = f
        · rw [q, sI_hit, updf_at]
        · rw [sI_k q, updf_ne (by omega)]; exact t2
      · rw [sI_c (by omega), updf_ne (by omega)]; exact t3
      · rw [sI_c (by omega), updf_ne (by omega)]; exact t4
    · rw [updf_ne (by omega)] at hk
      have y : RTs σ1 k V k := q6 k hk
      exact RTs_of (RTs.fr y (Fr.sI (lo := 5) (hi := 6) (by omega) (by omega)) (by omega)) (fun x hx => updf_ne (by omega))
  refine ⟨sI σ1 (4 + 1) f (iI w), ?_, s2.row G S' ⟨Z', IS_of hJ.1.1.2 (fun k hk => updf_ne (by omega))⟩⟩
  unfold f_X6_rank
  simp (disch := omega) only [iI_lit, ofNat_iI, iI_add, iI_sub, iI_mul, iI_neg, iI_lt_t, iI_lt_f, iI_le_t, iI_le_f, iI_eq_t, iI_eq_f, iI_div, rm_iI, tc_iI, inB_iI, nz_iI, is01_0, is01_1, gd_tt, bd_mk, bv_mk, oc_mk, lt_mk, Bool.false_eq_true, ↓reduceIte, N1, N2, s1, k1, k2]
theorem g_teach {f : Nat} {w : Int} (hJ : JB σ V m W len b) (hf3 : f < 3) (c2 : -5 ≤ w ∧ w ≤ 5) : ∃ τ, f_X6_teach (iI (f : Int)) (iI w) σ = some (iI (SL V f + 5), τ) ∧ JB τ (updf V (41 + f) w) (svM m) (svW m W V) len b := by
  have hZ := hJ.1.1.1
  have hn10 := hZ.1.1
  have hk5 := hZ.1.2.2.1
  have N1 := needCarver_v (a := (f : Int)) (by omega) σ
  have N2 := needA (lo := -5) (hi := 5) c2 (by omega) (by omega) σ
  have e0 : ((f : Int)).toNat = f := by omega
  obtain ⟨σ1, s1, s2, s3⟩ := save_C hJ
  have k1 := at_in (c := 10) (N := 3) rfl (by omega) (i := (f : Int)) (σ := σ1) (by omega) (by omega)
  have k2 := put_in (c := 10) (N := 3) rfl (by omega) (i := (f : Int)) (x := iI w) (σ := σ1) (by omega) (by omega)
  rw [e0, show σ1.1 (10 + 1) f = iI (SL V f) from s2.R.2.2.2.1 f hf3] at k1
  rw [e0] at k2
  have G : Fr 1 20 σ1 (sI σ1 (10 + 1) f (iI w)) := Fr.sI (by omega) (by omega)
  have Z' : IZ (updf V (41 + f) w) := ⟨IV_slip hZ.1 hf3 c2, fun k hk => IK_of (hZ.2 k hk) (fun x hx => updf_ne (by omega))⟩
  have S' : RS (sI σ1 (10 + 1) f (iI w)) 1 (updf V (41 + f) w) := by
    obtain ⟨q1, q2, q3, q4, q5, q6⟩ := s2.R
    refine ⟨?_, ?_, ?_, fun c hc => ?_, fun g hg => ?_, fun k hk => ?_⟩
    · rw [sI_c (by omega), updf_ne (by omega)]; exact q1
    · rw [sI_c (by omega), updf_ne (by omega)]; exact q2
    · rw [sI_c (by omega), updf_ne (by omega)]; exact q3
    · show (sI σ1 (10 + 1) f (iI w)).1 (10 + 1) c = _
      by_cases q : c = f
      · rw [q, sI_hit, updf_at]
      · rw [sI_k q, updf_ne (by omega)]; exact q4 c hc
    · rw [updf_ne (by omega)] at hg
      obtain ⟨t1, t2, t3, t4⟩ := q5 g hg
      refine ⟨?_, ?_, ?_, ?_⟩
      · rw [sI_c (by omega), updf_ne (by omega)]; exact t1
      · rw [sI_c (by omega), updf_ne (by omega)]; exact t2
      · rw [sI_c (by omega), updf_ne (by omega)]; exact t3
      · rw [sI_c (by omega), updf_ne (by omega)]; exact t4
    · rw [updf_ne (by omega)] at hk
      have y : RTs σ1 k V k := q6 k hk
      exact RTs_of (RTs.fr y (Fr.sI (lo := 11) (hi := 12) (by omega) (by omega)) (by omega)) (fun x hx => updf_ne (by omega))
  refine ⟨sI σ1 (10 + 1) f (iI w), ?_, s2.row G S' ⟨Z', IS_of hJ.1.1.2 (fun k hk => updf_ne (by omega))⟩⟩
  unfold f_X6_teach
  simp (disch := omega) only [iI_lit, ofNat_iI, iI_add, iI_sub, iI_mul, iI_neg, iI_lt_t, iI_lt_f, iI_le_t, iI_le_f, iI_eq_t, iI_eq_f, iI_div, rm_iI, tc_iI, inB_iI, nz_iI, is01_0, is01_1, gd_tt, bd_mk, bv_mk, oc_mk, lt_mk, Bool.false_eq_true, ↓reduceIte, N1, N2, s1, k1, k2]
theorem g_set {w : Int} (hJ : JB σ V m W len b) (c2 : 50 ≤ w ∧ w ≤ 400) : ∃ τ, f_X6_set (iI w) σ = some (iI (V 44), τ) ∧ JB τ (updf V 44 w) (svM m) (svW m W V) len b := by
  have hZ := hJ.1.1.1
  have hn10 := hZ.1.1
  have hk5 := hZ.1.2.2.1
  have N1 := needA (lo := 50) (hi := 400) c2 (by omega) (by omega) σ
  obtain ⟨σ1, s1, s2, s3⟩ := save_C hJ
  have k1 := s2.R.2.1
  have G : Fr 1 20 σ1 (sI σ1 1 6 (iI w)) := Fr.sI (by omega) (by omega)
  have Z' : IZ (updf V 44 w) := by
    obtain ⟨⟨i1, i2, i3, i4, i5, i6⟩, hz⟩ := hZ
    have hk : ∀ k, k < 5 → IK (updf V 44 w) k := fun k hk => IK_of (hz k hk) (fun x hx => updf_ne (by omega))
    refine ⟨⟨?_, ?_, ?_, fun c hc => ?_, fun f hf => ?_, fun k hk2 => hk k (by rw [updf_ne (by omega)] at hk2; omega)⟩, hk⟩
    · rw [updf_ne (by omega)]; exact i1
    · rw [updf_at]; exact c2
    · rw [updf_ne (by omega)]; exact i3
    · rw [updf_ne (by omega)]; exact i4 c hc
    · rw [updf_ne (by omega)] at hf
      unfold IF
      rw [updf_ne (show 1 + 4 * f ≠ 44 by omega), updf_ne (show 2 + 4 * f ≠ 44 by omega), updf_ne (show 3 + 4 * f ≠ 44 by omega), updf_ne (show 4 + 4 * f ≠ 44 by omega)]
      exact i5 f hf
  have S' : RS (sI σ1 1 6 (iI w)) 1 (updf V 44 w) := by
    obtain ⟨q1, q2, q3, q4, q5, q6⟩ := s2.R
    refine ⟨?_, ?_, ?_, fun c hc => ?_, fun g hg => ?_, fun k hk => ?_⟩
    · rw [sI_k (by omega), updf_ne (by omega)]; exact q1
    · rw [sI_hit, updf_at]
    · rw [sI_k (by omega), updf_ne (by omega)]; exact q3
    · rw [sI_c (by omega), updf_ne (by omega)]; exact q4 c hc
    · rw [updf_ne (by omega)] at hg
      obtain ⟨t1, t2, t3, t4⟩ := q5 g hg
      refine ⟨?_, ?_, ?_, ?_⟩
      · rw [sI_c (by omega), updf_ne (by omega)]; exact t1
      · rw [sI_c (by omega), updf_ne (by omega)]; exact t2
      · rw [sI_c (by omega), updf_ne (by omega)]; exact t3
      · rw [sI_c (by omega), updf_ne (by omega)]; exact t4
    · rw [updf_ne (by omega)] at hk
      have y : RTs σ1 k V k := q6 k hk
      exact RTs_of (RTs.fr y (Fr.sI (lo := 1) (hi := 2) (by omega) (by omega)) (by omega)) (fun x hx => updf_ne (by omega))
  refine ⟨sI σ1 1 6 (iI w), ?_, s2.row G S' ⟨Z', IS_of hJ.1.1.2 (fun k hk => updf_ne (by omega))⟩⟩
  unfold f_X6_set
  simp (disch := omega) only [iI_lit, ofNat_iI, iI_add, iI_sub, iI_mul, iI_neg, iI_lt_t, iI_lt_f, iI_le_t, iI_le_f, iI_eq_t, iI_eq_f, iI_div, rm_iI, tc_iI, inB_iI, nz_iI, is01_0, is01_1, gd_tt, bd_mk, bv_mk, oc_mk, lt_mk, Bool.false_eq_true, ↓reduceIte, N1, s1, k1]
theorem g_forget {n : Nat} (hJ : JB σ V m W len b) (hn : V 0 = (n : Int)) (c1 : 0 < n) : ∃ τ, f_X6_forget σ = some (iI ((n : Int) - 1), τ) ∧ JB τ (updf V 0 ((n : Int) - 1)) (svM m) (svW m W V) len b := by
  have hZ := hJ.1.1.1
  have hn10 : n ≤ 10 := by have := hZ.1.1; omega
  have hk5 := hZ.1.2.2.1
  have z0 : σ.1 1 0 = iI (n : Int) := by rw [hJ.R.1, hn]
  obtain ⟨σ1, s1, s2, s3⟩ := save_C hJ
  have k1 := s2.R.1
  rw [hn] at k1
  have G : Fr 1 20 σ1 (sI σ1 1 0 (iI ((n : Int) - 1))) := Fr.sI (by omega) (by omega)
  have Z' : IZ (updf V 0 ((n : Int) - 1)) := by
    refine IZ_f hZ (fun k hk => updf_ne (by omega)) (by rw [updf_at]; omega) (fun g hg => ?_)
    rw [updf_at] at hg
    have z := hZ.1.2.2.2.2.1 g (by omega)
    unfold IF at z ⊢
    rw [updf_ne (show 1 + 4 * g ≠ 0 by omega), updf_ne (show 2 + 4 * g ≠ 0 by omega), updf_ne (show 3 + 4 * g ≠ 0 by omega), updf_ne (show 4 + 4 * g ≠ 0 by omega)]
    exact z
  have S' : RS (sI σ1 1 0 (iI ((n : Int) - 1))) 1 (updf V 0 ((n : Int) - 1)) := by
    obtain ⟨q1, q2, q3, q4, q5, q6⟩ := s2.R
    refine ⟨?_, ?_, ?_, fun c hc => ?_, fun g hg => ?_, fun k hk => ?_⟩
    · rw [sI_hit, updf_at]
    · rw [sI_k (by omega), updf_ne (by omega)]; exact q2
    · rw [sI_k (by omega), updf_ne (by omega)]; exact q3
    · rw [sI_c (by omega), updf_ne (by omega)]; exact q4 c hc
    · rw [updf_at] at hg
      obtain ⟨t1, t2, t3, t4⟩ := q5 g (by omega)
      refine ⟨?_, ?_, ?_, ?_⟩
      · rw [sI_c (by omega), updf_ne (by omega)]; exact t1
      · rw [sI_c (by omega), updf_ne (by omega)]; exact t2
      · rw [sI_c (by omega), updf_ne (by omega)]; exact t3
      · rw [sI_c (by omega), updf_ne (by omega)]; exact t4
    · rw [updf_ne (by omega)] at hk
      have y : RTs σ1 k V k := q6 k hk
      exact RTs_of (RTs.fr y (Fr.sI (lo := 1) (hi := 2) (by omega) (by omega)) (by omega)) (fun x hx => updf_ne (by omega))
  refine ⟨sI σ1 1 0 (iI ((n : Int) - 1)), ?_, s2.row G S' ⟨Z', IS_of hJ.1.1.2 (fun k hk => updf_ne (by omega))⟩⟩
  unfold f_X6_forget
  simp (disch := omega) only [iI_lit, ofNat_iI, iI_add, iI_sub, iI_mul, iI_neg, iI_lt_t, iI_lt_f, iI_le_t, iI_le_f, iI_eq_t, iI_eq_f, iI_div, rm_iI, tc_iI, inB_iI, nz_iI, is01_0, is01_1, gd_tt, bd_mk, bv_mk, oc_mk, lt_mk, Bool.false_eq_true, ↓reduceIte, z0, s1, k1, sI_hit]
theorem IS_crv {y : Int} {c : Nat} (hZ : IZ V) (h : IS V) : IS (crv V y c (Nt V y (SL V c))) := by
  have hk5 := hZ.1.2.2.1
  have h45 := sh45 hk5
  intro k f hk h1 h2
  rw [crv_x (by omega)] at hk
  rcases Nat.eq_zero_or_pos k with q | q
  · subst q
    have h1 : (V 0).toNat ≤ f := h1
    show crv V y c (Nt V y (SL V c)) (49 + f) = -1
    rw [crv_N h2]
    exact Nt_hi h1
  · obtain ⟨j, rfl⟩ : ∃ j, k = j + 1 := ⟨k - 1, by omega⟩
    have h1 : (crv V y c (Nt V y (SL V c)) (48 + 13 * (j + 1))).toNat ≤ f := h1
    rw [crv_x (by omega), shV_hi (by omega), show 48 + 13 * (j + 1) - 13 = 48 + 13 * j by omega] at h1
    show crv V y c (Nt V y (SL V c)) (49 + 13 * (j + 1) + f) = -1
    rw [crv_x (by omega), shV_hi (by omega), show 49 + 13 * (j + 1) + f - 13 = 49 + 13 * j + f by omega]
    exact h j f (by omega) h1 h2
theorem IS_brn {s : Nat} (h : IS V) (hs : (s : Int) < V 45) : IS (brn V s) := by
  intro k f hk h1 h2
  rw [brn_45] at hk
  have h1 : (brn V s (48 + 13 * k)).toNat ≤ f := h1
  show brn V s (49 + 13 * k + f) = -1
  by_cases q : k < s
  · rw [brn_lo (by omega) (by omega)] at h1 ⊢
    exact h k f (by omega) h1 h2
  · rw [brn_in (by omega) (by omega)] at h1 ⊢
    rw [show 48 + 13 * k + 13 = 48 + 13 * (k + 1) by omega] at h1
    rw [show 49 + 13 * k + f + 13 = 49 + 13 * (k + 1) + f by omega]
    exact h (k + 1) f (by omega) h1 h2
theorem g_carve {y : Int} {k : Nat} (hJ : JB σ V m W len b) (c2 : 0 ≤ y ∧ y ≤ 999) (hk3 : k < 3) : ∃ τ, f_X6_carve (iI y) (iI (k : Int)) σ = some (iI (ntS (crv V y k (Nt V y (SL V k))) 0), τ) ∧ JB τ (crv V y k (Nt V y (SL V k))) (svM m) (svW m W V) len b := by
  have hZ := hJ.1.1.1
  have hk5 := hZ.1.2.2.1
  have N1 := needYear_v c2 σ
  have N2 := needCarver_v (a := (k : Int)) (by omega) σ
  obtain ⟨σ1, s1, s2, s3⟩ := save_C hJ
  obtain ⟨σ2, x1, x2, x3⟩ := reckon_v (a0 := 139) (y := y) rk_139 (by omega) hZ.1 s2.R c2 (SL_b hZ.1 hk3)
  have C2 := s2.fr x2 (by omega)
  obtain ⟨σ3, y1, y2, y3⟩ := addC (y := y) (c := k) (N := Nt V y (SL V k)) hZ.1 C2.R (fun f hf => x3.2 f hf)
  have Z' : IZ (crv V y k (Nt V y (SL V k))) := crv_IZ hZ c2 hk3 (Nt_b V y (SL V k))
  have h45 := sh45 hk5
  have w1 := notchesC (k := 0) Z'.1 y3 (by rw [crv_x (by omega)]; omega)
  have w1 : f_X5_notchesOfStick 1 (iI 0) σ3 = some (iI (ntS (crv V y k (Nt V y (SL V k))) 0), σ3) := w1
  have e1 : ((k : Int)).toNat = k := by omega
  have k1 := at_in (c := 10) (N := 3) rfl (by omega) (i := (k : Int)) (σ := σ1) (by omega) (by omega)
  rw [e1, show σ1.1 (10 + 1) k = iI (SL V k) from s2.R.2.2.2.1 k hk3] at k1
  refine ⟨σ3, ?_, C2.row y2 y3 ⟨Z', IS_crv hZ hJ.1.1.2⟩⟩
  unfold f_X6_carve
  simp only [iI_lit, N1, N2, s1, bv_mk, k1, bd_mk, x1, y1, w1]
theorem g_burn {s : Nat} (hJ : JB σ V m W len b) (hs : (s : Int) < V 45) : ∃ τ, f_X6_burn (iI (s : Int)) σ = some (iI (sty V s), τ) ∧ JB τ (brn V s) (svM m) (svW m W V) len b := by
  obtain ⟨n, hn, hn5⟩ := hJ.k
  have hZ := hJ.1.1.1
  have z0 : σ.1 1 7 = iI (n : Int) := by rw [hJ.R.2.2.1, hn]
  have N1 := needStick_v (a := (s : Int)) z0 (by omega) (by omega)
  obtain ⟨σ1, s1, s2, s3⟩ := save_C hJ
  have e1 : ((s : Int)).toNat = s := by omega
  have k1 := at_in (c := 12) (N := 5) rfl (by omega) (i := (s : Int)) (σ := σ1) (by omega) (by omega)
  rw [e1, show σ1.1 (12 + 1) s = iI (sty V s) from (s2.R.2.2.2.2.2 s hs).1] at k1
  obtain ⟨σ2, x1, x2, x3⟩ := dropC hZ.1 s2.R hs
  refine ⟨σ2, ?_, s2.row x2 x3 ⟨brn_IZ hZ hs, IS_brn hJ.1.1.2 hs⟩⟩
  unfold f_X6_burn
  simp only [N1, s1, bv_mk, k1, bd_mk, x1]
theorem g_undo {k : Nat} (hJ : JB σ V m W len b) (hm : m = k + 1) : ∃ τ, f_X6_undo σ = some (iI (k : Int), τ) ∧ JB τ (W k) k W len b := by
  subst hm
  obtain ⟨⟨h1, h2, h3⟩, o, hC⟩ := hJ
  have hm6 := hC.2.1.2.2.2.1
  have z0 := hC.2.1.2.1
  obtain ⟨σ1, x1, x2, x3, x4⟩ := restoreC (h2 k (by omega)).1.1 hC.2.1
  have z2 := x4.2.1
  refine ⟨σ1, ?_, ⟨h2 k (by omega), fun j hj => h2 j (by omega), h3⟩, o, x3, x4, by rw [x2.at (by omega)]; exact hC.2.2.1, fun i hi => by rw [x2.at (by omega)]; exact hC.2.2.2 i hi⟩
  unfold f_X6_undo f_X1_isEmpty f_X1_size
  simp (disch := omega) only [iI_lit, ofNat_iI, iI_add, iI_sub, iI_mul, iI_neg, iI_lt_t, iI_lt_f, iI_le_t, iI_le_f, iI_eq_t, iI_eq_f, iI_div, rm_iI, tc_iI, inB_iI, nz_iI, is01_0, is01_1, gd_tt, bd_mk, bv_mk, oc_mk, lt_mk, Bool.false_eq_true, ↓reduceIte, z0, x1, z2]
theorem g_append {a : Int} (hJ : JB σ V m W len b) (c1 : 33 ≤ a ∧ a ≤ 126) (c2 : len < 60) : ∃ τ, f_X6_append (iI a) σ = some (iI ((len + 1 : Nat) : Int), τ) ∧ JB τ V m W (len + 1) (updf b len a) := by
  obtain ⟨⟨h1, h2, h3⟩, o, hC⟩ := hJ
  have z0 := hC.2.2.1
  have N1 := needA (lo := 33) (hi := 126) c1 (by omega) (by omega) σ
  have e0 : ((len : Int)).toNat = len := by omega
  have e1 : (len : Int) + 1 = ((len + 1 : Nat) : Int) := by omega
  have k1 := put_in (c := 136) (N := 60) rfl (by omega) (i := (len : Int)) (x := iI a) (σ := σ) (by omega) (by omega)
  rw [e0] at k1
  obtain ⟨σ1, hσ1⟩ : ∃ σ1, σ1 = sI σ 137 len (iI a) := ⟨_, rfl⟩
  rw [show sI σ (136 + 1) len (iI a) = σ1 from hσ1.symm] at k1
  have z2 : σ1.1 0 8 = iI (len : Int) := by rw [hσ1, sI_c (by omega)]; exact z0
  have T' : TX (len + 1) (updf b len a) := by
    refine ⟨by omega, fun i hi => ?_⟩
    by_cases q : i = len
    · rw [q, updf_at]; exact c1
    · rw [updf_ne q]; exact h3.2 i (by omega)
  refine ⟨sI σ1 0 8 (iI ((len + 1 : Nat) : Int)), ?_, ⟨h1, h2, T'⟩, o, ?_⟩
  · unfold f_X6_append
    simp (disch := omega) only [iI_lit, ofNat_iI, iI_add, iI_sub, iI_mul, iI_neg, iI_lt_t, iI_lt_f, iI_le_t, iI_le_f, iI_eq_t, iI_eq_f, iI_div, rm_iI, tc_iI, inB_iI, nz_iI, is01_0, is01_1, gd_tt, bd_mk, bv_mk, oc_mk, lt_mk, Bool.false_eq_true, ↓reduceIte, N1, z0, k1, z2, e1, sI_hit]
  · have e : ∀ c, 1 ≤ c → c < 137 → (sI σ1 0 8 (iI ((len + 1 : Nat) : Int))).1 c = σ.1 c := fun c h1 h2 => by rw [sI_c (by omega), hσ1, sI_c (by omega)]
    obtain ⟨q1, ⟨q2, q3, q4, q5, q6⟩, q7, q8⟩ := hC
    refine ⟨q1.mo (fun c hc1 hc2 => e c hc1 (by omega)), ⟨?_, ?_, q4, q5, fun j hj => (q6 j hj).mo (fun c hc1 hc2 => e c (by omega) (by omega))⟩, sI_hit _ _ _ _, fun i hi => ?_⟩
    · rw [e 20 (by omega) (by omega)]; exact q2
    · rw [e 20 (by omega) (by omega)]; exact q3
    · rw [sI_c (by omega), hσ1]
      by_cases q : i = len
      · rw [q, sI_hit, updf_at]
      · rw [sI_k q, updf_ne q]; exact q8 i (by omega)
theorem g_proclaim {q : Q6} (hJ : JB σ V m W len b) (hq : rch b len = some q) (cm : mayE q) (hs : ∀ x, x < len → b x ≠ 59) : ∃ τ V', f_X6_proclaim σ = some (iI (V' 0 - V 0), τ) ∧ JJ τ V' (svM m) (svW m W V) ∧ ((may V q ∧ V' = adF V q) ∨ (¬ may V q ∧ V' = V)) := by
  have hJ0 := hJ
  obtain ⟨⟨h1, h2, hT⟩, o, hC⟩ := hJ0
  have hl := hT.1
  have hn10 := h1.1.1.1
  have hB := rch_RB hq
  obtain ⟨σ1, e, q', x1, x2, x3, x4, x5⟩ := wellC hC.2.2 hT
  have ce : e = len ∧ RD σ1 q' := by
    rcases x5 with d | ⟨d, d2⟩
    · exact d
    · exfalso
      obtain ⟨q2, hq2⟩ := rch_tot hq (i := e + 1) (by omega)
      rw [rch_s x4, d2] at hq2; cases hq2
  obtain ⟨ce, hD⟩ := ce
  rw [ce, hq] at x4
  obtain rfl := Option.some.inj x4
  rw [ce] at x1
  have J1 := hJ.fr x2 (by omega)
  have z1 : σ1.1 0 8 = iI (len : Int) := by rw [x2.at (by omega)]; exact hC.2.2.1
  obtain ⟨x, m1, m2⟩ := mayEnd_v hD hB
  have hx : x = 1 := by
    rcases m2 with ⟨-, d⟩ | ⟨d, -⟩
    · exact d
    · exact absurd cm d
  rw [hx] at m1
  obtain ⟨σ2, s1, s2, s3⟩ := save_C J1
  obtain ⟨σ3, p1, p2, p3⟩ := start_v σ2
  have J3 := s2.fr p2 (by omega)
  obtain ⟨⟨g1, g2, g3⟩, o3, C3⟩ := J3
  have k1 := s2.R.1
  have B3 := C3.2.2
  obtain ⟨σ4, q4, y1, y2, y3, y4⟩ := segC (y := iI (V 0)) hT hq (Nat.le_refl len) len 0 (3999 - len + 1) q0 σ3 (by omega) (fun x _ h => hs x h) B3 rfl p3
  rw [hq] at y3
  obtain rfl := Option.some.inj y3
  rw [show 3999 - len + 1 + len = FU by simp only [FU]; omega] at y1
  have y1 : f_X6_addBufferedFeasts_l19 FU (iI (V 0)) (iI 1) (iI 0) σ3 = f_X6_addBufferedFeasts_l19 (3999 - len + 1) (iI (V 0)) (iI 1) (iI (len : Int)) σ4 := y1
  have S4 := C3.1.fr y2 (by omega)
  have B4 := B3.fa (y2.fa (by omega))
  have r := B4.1
  obtain ⟨σ5, v, w1, w2, w3⟩ := addReadC g1.1.1 S4 y4 hB
  have fin : ∃ V', IY V' ∧ RS σ5 1 V' ∧ f_X6_addBufferedFeasts_l19 (3999 - len + 1) (iI (V 0)) (iI 1) (iI (len : Int)) σ4 = some (iI (V' 0 - V 0), σ5) ∧ ((may V q ∧ V' = adF V q) ∨ (¬ may V q ∧ V' = V)) := by
    rcases w3 with ⟨u1, u2, u3⟩ | ⟨u1, u2, u3⟩
    · have r2 := u3.1
      have hm := u1.1
      rw [adF_0] at r2
      refine ⟨adF V q, ⟨adF_IZ g1.1 hB cm u1, IS_of g1.2 (fun k hk => adF_o (by omega) (by omega))⟩, u3, ?_, .inl ⟨u1, rfl⟩⟩
      show f_X6_addBufferedFeasts_b19 _ _ _ _ _ = _
      unfold f_X6_addBufferedFeasts_b19 f_X6_addBufferedFeasts_b69 f_X6_addBufferedFeasts_b78
      rw [u2] at w1
      rw [adF_0]
      simp (disch := omega) only [iI_lit, ofNat_iI, iI_add, iI_sub, iI_mul, iI_neg, iI_lt_t, iI_lt_f, iI_le_t, iI_le_f, iI_eq_t, iI_eq_f, iI_div, rm_iI, tc_iI, inB_iI, nz_iI, is01_0, is01_1, gd_tt, bd_mk, bv_mk, oc_mk, lt_mk, Bool.false_eq_true, ↓reduceIte, r, w1, r2]
    · have r2 := S4.1
      refine ⟨V, g1, by rw [u3]; exact S4, ?_, .inr ⟨u1, rfl⟩⟩
      show f_X6_addBufferedFeasts_b19 _ _ _ _ _ = _
      unfold f_X6_addBufferedFeasts_b19 f_X6_addBufferedFeasts_b69 f_X6_addBufferedFeasts_b78
      rw [u2, u3] at w1
      rw [u3]
      simp (disch := omega) only [iI_lit, ofNat_iI, iI_add, iI_sub, iI_mul, iI_neg, iI_lt_t, iI_lt_f, iI_le_t, iI_le_f, iI_eq_t, iI_eq_f, iI_div, rm_iI, tc_iI, inB_iI, nz_iI, is01_0, is01_1, gd_tt, bd_mk, bv_mk, oc_mk, lt_mk, Bool.false_eq_true, ↓reduceIte, r, w1, r2]
  obtain ⟨V', f1, f2, f3, f4⟩ := fin
  have F35 : FA σ3 σ5 := (y2.fa (by omega)).tr (w2.fa (by omega))
  refine ⟨sI σ5 0 8 (iI 0), V', ?_, ⟨⟨f1, g2, by omega, fun i hi => by omega⟩, o3, ?_⟩, f4⟩
  · unfold f_X6_proclaim f_X6_bufferTellsFeasts f_X6_addBufferedFeasts
    simp (disch := omega) only [iI_lit, ofNat_iI, iI_add, iI_sub, iI_mul, iI_neg, iI_lt_t, iI_lt_f, iI_le_t, iI_le_f, iI_eq_t, iI_eq_f, iI_div, rm_iI, tc_iI, inB_iI, nz_iI, is01_0, is01_1, gd_tt, bd_mk, bv_mk, oc_mk, lt_mk, Bool.false_eq_true, ↓reduceIte, x1, z1, m1, s1, k1, p1, y1, f3]
  · have e20 : ∀ c, 20 ≤ c → c < 138 → (sI σ5 0 8 (iI 0)).1 c = σ3.1 c := fun c h1 h2 => by rw [sI_c (by omega), F35 c (by omega)]
    obtain ⟨q2, q3, q4, q5, q6⟩ := C3.2.1
    refine ⟨f2.mo (fun c h1 h2 => sI_c (by omega)), ⟨?_, ?_, q4, q5, fun j hj => (q6 j hj).mo (fun c h1 h2 => e20 c (by omega) (by omega))⟩, sI_hit _ _ _ _, fun i hi => by omega⟩
    · rw [e20 20 (by omega) (by omega)]; exact q2
    · rw [e20 20 (by omega) (by omega)]; exact q3
end CHG
