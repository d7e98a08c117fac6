/-! burn, undo, the buffer, proclaim, the shares -/
section CHG
variable {σ : St} {V : Nat → Int} {o m : Nat} {W : Nat → Nat → Int} {len : Nat} {b : Nat → Int}
theorem s_burn {a : Int} (ha : -2147483648 ≤ a ∧ a < 2147483648) (hP : IP V m W len b) (hC : IC σ V o m W len b) (hR : IR σ V m W len b) : STEP σ (f_L_burn (iI a) σ) (f_X7_burn (iI a)) := by
  have hI : INV σ := ⟨V, o, m, W, len, b, hP, hC, hR⟩
  obtain ⟨n, hn, hn10⟩ := hP.k
  have hm6 := hC.2.1.2.2.2.1
  have hk5 := hP.1.1.2.2.1
  have z0 : σ.1 1 7 = iI (n : Int) := by rw [hC.1.2.2.1, hn]
  by_cases c1 : 0 ≤ a ∧ a < n
  · obtain ⟨s, rfl⟩ : ∃ s : Nat, a = (s : Int) := ⟨a.toNat, by omega⟩
    have hs : (s : Int) < V 45 := by omega
    obtain ⟨σ1, o', s1, s2, s3⟩ := save_C hP hC
    have e1 : ((s : Int)).toNat = s := by omega
    have k1 := at_in (c := 12) (N := 5) rfl (by omega) (i := (s : Int)) (σ := σ1) (by omega) (by omega)
    rw [e1, show σ1.1 (12 + 1) s = iI (sty V s) from (s2.1.2.2.2.2.2 s hs).1] at k1
    obtain ⟨σ2, x1, x2, x3⟩ := dropC hP.1.1 s2.1 hs
    refine STEP.chg (V' := brn V s) (o' := o') (m' := svM m) (W' := svW m W V) (len' := len) (b' := b) (v := sty V s) (τ1 := σ2) hR ⟨brn_IZ hP.1 hs, save_P hP, hP.2.2⟩ (ok1 ?_) (s2.row x2 x3) (fun c hc => by rw [x2.at (by omega), s3.at (by omega)]) (fun τ hT => ?_)
    · unfold f_X6_burn
      simp only [(needStick_v ha z0 (by omega)).1 c1, bx_r, s1, bv_mk, k1, bd_mk, x1]
    · obtain ⟨τ1, t1, t2, t3⟩ := save_R hm6 (hT.s0 (w := iI 0))
      have r1 := t2.1.rd (e := 46 + 13 * (s : Int) + 0) (k := 46 + 13 * s) (by omega) (by omega)
      rw [show V (46 + 13 * s) = sty V s from rfl] at r1
      have r45 := t2.1 45 (by omega)
      have e45 : iI (V 45) - iI 1 = iI (V 45 - 1) := iI_sub _ _
      obtain ⟨τ2, hτ2⟩ : ∃ τ2, τ2 = sI τ1 226 45 (iI (V 45 - 1)) := ⟨_, rfl⟩
      have M2 : RMv τ2 (updf V 45 (V 45 - 1)) := by rw [hτ2]; exact t2.1.up
      have F2 : Fr 226 227 τ1 τ2 := by rw [hτ2]; exact Fr.sI (by omega) (by omega)
      obtain ⟨τ3, y1, y2, y3⟩ := burn54 (yr := iI (sty V s)) hP.1.1 hs M2
      have FF : Fr 226 227 τ1 τ3 := F2.tr y2
      refine ⟨τ3, ?_, t2.row FF y3, fun c hc => ?_, ?_, ?_⟩
      · unfold f_X7_burn f_X7_burn_b14 f_X7_ofStick
        simp (disch := omega) only [iI_lit, ofNat_iI, iI_add, iI_sub, iI_mul, iI_neg, iI_lt_t, iI_lt_f, iI_le_t, iI_le_f, iI_eq_t, iI_eq_f, iI_div, rm_iI, tc_iI, inB_iI, nz_iI, is01_0, is01_1, gd_tt, bd_mk, bv_mk, oc_mk, lt_mk, Bool.false_eq_true, ↓reduceIte, (isStick_v ha (hT.k hn) (by omega)).1 c1, holds_0, t1, r1, Int.reduceToNat, r45, ← hτ2]
        exact y1
      · rw [FF.at (by omega), t3.1 c (by omega) (by omega), sI_c (by omega)]
      · rw [FF.2]; exact t3.2.2
      · rw [FF.at (by omega), t3.2.1 0 (by omega), sI_hit]; rfl
  · refine STEP.fail (r := 1) hI (.inl rfl) (er1 ?_) ?_
    · unfold f_X6_burn
      simp only [(needStick_v ha z0 (by omega)).2 c1, bx_l]
    · unfold f_X7_burn f_X7_burn_b14
      simp (disch := omega) only [iI_lit, ofNat_iI, iI_add, iI_sub, iI_mul, iI_neg, iI_lt_t, iI_lt_f, iI_le_t, iI_le_f, iI_eq_t, iI_eq_f, iI_div, rm_iI, tc_iI, inB_iI, nz_iI, is01_0, is01_1, gd_tt, bd_mk, bv_mk, oc_mk, lt_mk, Bool.false_eq_true, ↓reduceIte, (isStick_v ha (hR.k hn) (by omega)).2 c1, holds_1]
theorem s_undo (hP : IP V m W len b) (hC : IC σ V o m W len b) (hR : IR σ V m W len b) : STEP σ (f_L_undo σ) f_X7_undo := by
  have hI : INV σ := ⟨V, o, m, W, len, b, hP, hC, hR⟩
  have hm6 := hC.2.1.2.2.2.1
  have z0 := hC.2.1.2.1
  have z1 := hR.2.1.1
  by_cases c1 : m = 0
  · refine STEP.fail (r := 1) hI (.inl rfl) (er1 ?_) ?_
    · unfold f_X6_undo f_X1_isEmpty
      simp (disch := omega) only [iI_lit, ofNat_iI, iI_add, iI_sub, iI_mul, iI_neg, iI_lt_t, iI_lt_f, iI_le_t, iI_le_f, iI_eq_t, iI_eq_f, iI_div, rm_iI, tc_iI, inB_iI, nz_iI, is01_0, is01_1, gd_tt, bd_mk, bv_mk, oc_mk, lt_mk, Bool.false_eq_true, ↓reduceIte, z0, c1]
    · unfold f_X7_undo f_X7_undo_b13
      simp (disch := omega) only [iI_lit, ofNat_iI, iI_add, iI_sub, iI_mul, iI_neg, iI_lt_t, iI_lt_f, iI_le_t, iI_le_f, iI_eq_t, iI_eq_f, iI_div, rm_iI, tc_iI, inB_iI, nz_iI, is01_0, is01_1, gd_tt, bd_mk, bv_mk, oc_mk, lt_mk, Bool.false_eq_true, ↓reduceIte, z1, c1, holds_1]
  · obtain ⟨k, rfl⟩ : ∃ k, m = k + 1 := ⟨m - 1, by omega⟩
    obtain ⟨σ1, x1, x2, x3, x4⟩ := restoreC (hP.2.1 k (by omega)).1 hC.2.1
    have z2 := x4.2.1
    refine STEP.chg (V' := W k) (o' := o) (m' := k) (W' := W) (len' := len) (b' := b) (v := (k : Int)) (τ1 := σ1) hR ⟨hP.2.1 k (by omega), fun j hj => hP.2.1 j (by omega), hP.2.2⟩ (ok1 ?_) ⟨x3, x4, by rw [x2.at (by omega)]; exact hC.2.2.1, fun i hi => by rw [x2.at (by omega)]; exact hC.2.2.2 i hi⟩ (fun c hc => by rw [x2.at (by omega)]) (fun τ hT => ?_)
    · unfold f_X6_undo f_X1_isEmpty f_X1_size
      simp (disch := omega) only [iI_lit, ofNat_iI, iI_add, iI_sub, iI_mul, iI_neg, iI_lt_t, iI_lt_f, iI_le_t, iI_le_f, iI_eq_t, iI_eq_f, iI_div, rm_iI, tc_iI, inB_iI, nz_iI, is01_0, is01_1, gd_tt, bd_mk, bv_mk, oc_mk, lt_mk, Bool.false_eq_true, ↓reduceIte, z0, x1, z2]
    · have y0 := hT.2.1.1
      obtain ⟨τ1, hτ1⟩ : ∃ τ1, τ1 = sI (sI τ 225 0 (iI 0)) 225 3 (iI (k : Int)) := ⟨_, rfl⟩
      have y1 : (sI τ 225 0 (iI 0)).1 225 3 = iI ((k + 1 : Nat) : Int) := by rw [sI_k (by omega)]; exact y0
      have e1 : ((k + 1 : Nat) : Int) - 1 = (k : Int) := by omega
      have c227 : ∀ c, c ≠ 225 → τ1.1 c = τ.1 c := fun c hc => by rw [hτ1, sI_c hc, sI_c hc]
      have c225 : ∀ j, j ≠ 0 → j ≠ 3 → τ1.1 225 j = τ.1 225 j := fun j h1 h2 => by rw [hτ1, sI_k h2, sI_k h1]
      have d3 : τ1.1 225 3 = iI (k : Int) := by rw [hτ1, sI_hit]
      obtain ⟨τ2, u1, u2, u3⟩ := undo33 (W := W) (m := k) (σ := τ1) (by omega) d3 (fun i hi => by rw [c227 227 (by omega)]; exact hT.2.1.2 k (by omega) i hi)
      refine ⟨τ2, ?_, ⟨u3, ⟨?_, fun j hj i hi => ?_⟩, ?_, fun i hi => ?_⟩, fun c hc => ?_, ?_, ?_⟩
      · unfold f_X7_undo f_X7_undo_b13
        simp (disch := omega) only [iI_lit, ofNat_iI, iI_add, iI_sub, iI_mul, iI_neg, iI_lt_t, iI_lt_f, iI_le_t, iI_le_f, iI_eq_t, iI_eq_f, iI_div, rm_iI, tc_iI, inB_iI, nz_iI, is01_0, is01_1, gd_tt, bd_mk, bv_mk, oc_mk, lt_mk, Bool.false_eq_true, ↓reduceIte, y0, holds_0, y1, e1, ← hτ1]
        exact u1
      · rw [u2.at (by omega)]; exact d3
      · rw [u2.at (by omega), c227 227 (by omega)]; exact hT.2.1.2 j (by omega) i hi
      · rw [u2.at (by omega), c225 5 (by omega) (by omega)]; exact hT.2.2.1
      · rw [u2.at (by omega), c227 228 (by omega)]; exact hT.2.2.2 i hi
      · rw [u2.at (by omega), c227 c (by omega)]
      · rw [u2.2, hτ1]; rfl
      · rw [u2.at (by omega), hτ1, sI_k (by omega), sI_hit]; rfl
theorem s_append {a : Int} (ha : -2147483648 ≤ a ∧ a < 2147483648) (hP : IP V m W len b) (hC : IC σ V o m W len b) (hR : IR σ V m W len b) : STEP σ (f_L_append (iI a) σ) (f_X7_append (iI a)) := by
  have hI : INV σ := ⟨V, o, m, W, len, b, hP, hC, hR⟩
  have hl := hP.2.2.1
  have z0 := hC.2.2.1
  have z1 := hR.2.2.1
  by_cases c1 : 33 ≤ a ∧ a ≤ 126
  · by_cases c2 : len < 60
    · have e0 : ((len : Int)).toNat = len := by omega
      have e1 : (len : Int) + 1 = ((len + 1 : Nat) : Int) := by omega
      have k1 := put_in (c := 136) (N := 60) rfl (by omega) (i := (len : Int)) (x := iI a) (σ := σ) (by omega) (by omega)
      rw [e0] at k1
      obtain ⟨σ1, hσ1⟩ : ∃ σ1, σ1 = sI σ 137 len (iI a) := ⟨_, rfl⟩
      rw [show sI σ (136 + 1) len (iI a) = σ1 from hσ1.symm] at k1
      have z2 : σ1.1 0 8 = iI (len : Int) := by rw [hσ1, sI_c (by omega)]; exact z0
      have T' : TX (len + 1) (updf b len a) := by
        refine ⟨by omega, fun i hi => ?_⟩
        by_cases q : i = len
        · rw [q, updf_at]; exact c1
        · rw [updf_ne q]; exact hP.2.2.2 i (by omega)
      refine STEP.chg (V' := V) (o' := o) (m' := m) (W' := W) (len' := len + 1) (b' := updf b len a) (v := ((len + 1 : Nat) : Int)) (τ1 := sI σ1 0 8 (iI ((len + 1 : Nat) : Int))) hR ⟨hP.1, hP.2.1, T'⟩ (ok2 ?_) ?_ (fun c hc => by rw [sI_c (by omega), hσ1, sI_c (by omega)]) (fun τ hT => ?_)
      · unfold f_X6_append
        simp (disch := omega) only [iI_lit, ofNat_iI, iI_add, iI_sub, iI_mul, iI_neg, iI_lt_t, iI_lt_f, iI_le_t, iI_le_f, iI_eq_t, iI_eq_f, iI_div, rm_iI, tc_iI, inB_iI, nz_iI, is01_0, is01_1, gd_tt, bd_mk, bv_mk, oc_mk, lt_mk, Bool.false_eq_true, ↓reduceIte, (needA (lo := 33) (hi := 126) ha (by omega) (by omega) σ).1 c1, bx_r, z0, k1, z2, e1, sI_hit]
      · have e : ∀ c, 1 ≤ c → c < 137 → (sI σ1 0 8 (iI ((len + 1 : Nat) : Int))).1 c = σ.1 c := fun c h1 h2 => by rw [sI_c (by omega), hσ1, sI_c (by omega)]
        obtain ⟨h1, ⟨h2, h3, h4, h5, h6⟩, h7, h8⟩ := hC
        refine ⟨h1.mo (fun c hc1 hc2 => e c hc1 (by omega)), ⟨?_, ?_, h4, h5, fun j hj => (h6 j hj).mo (fun c hc1 hc2 => e c (by omega) (by omega))⟩, sI_hit _ _ _ _, fun i hi => ?_⟩
        · rw [e 20 (by omega) (by omega)]; exact h2
        · rw [e 20 (by omega) (by omega)]; exact h3
        · rw [sI_c (by omega), hσ1]
          by_cases q : i = len
          · rw [q, sI_hit, updf_at]
          · rw [sI_k q, updf_ne q]; exact h8 i (by omega)
      · have y0 := hT.2.2.1
        have y1 : (sI τ 225 0 (iI 0)).1 225 5 = iI (len : Int) := by rw [sI_k (by omega)]; exact y0
        obtain ⟨τ1, hτ1⟩ : ∃ τ1, τ1 = sI (sI τ 225 0 (iI 0)) 228 len (iI a) := ⟨_, rfl⟩
        have y2 : τ1.1 225 5 = iI (len : Int) := by rw [hτ1, sI_c (by omega)]; exact y1
        refine ⟨sI τ1 225 5 (iI ((len + 1 : Nat) : Int)), ?_, ⟨fun k hk => ?_, ⟨?_, fun j hj k hk => ?_⟩, sI_hit _ _ _ _, fun i hi => ?_⟩, fun c hc => ?_, ?_, ?_⟩
        · unfold f_X7_append f_X7_append_b30
          simp (disch := omega) only [iI_lit, ofNat_iI, iI_add, iI_sub, iI_mul, iI_neg, iI_lt_t, iI_lt_f, iI_le_t, iI_le_f, iI_eq_t, iI_eq_f, iI_div, rm_iI, tc_iI, inB_iI, nz_iI, is01_0, is01_1, gd_tt, bd_mk, bv_mk, oc_mk, lt_mk, Bool.false_eq_true, ↓reduceIte, (inG (lo := 33) (hi := 126) ha (by omega) (by omega) τ).1 c1, y0, holds_0, y1, e0, ← hτ1, y2, e1, sI_hit]
        · rw [sI_c (by omega), hτ1, sI_c (by omega), sI_c (by omega)]; exact hT.1 k hk
        · rw [sI_k (by omega), hτ1, sI_c (by omega), sI_k (by omega)]; exact hT.2.1.1
        · rw [sI_c (by omega), hτ1, sI_c (by omega), sI_c (by omega)]; exact hT.2.1.2 j hj k hk
        · rw [sI_c (by omega), hτ1]
          by_cases q : i = len
          · rw [q, sI_hit, updf_at]
          · rw [sI_k q, updf_ne q, sI_c (by omega)]; exact hT.2.2.2 i (by omega)
        · rw [sI_c (by omega), hτ1, sI_c (by omega), sI_c (by omega)]
        · rw [hτ1]; rfl
        · rw [sI_k (by omega), hτ1, sI_c (by omega), sI_hit]; rfl
    · have c3 : len = 60 := by omega
      refine STEP.fail (r := 2) hI (.inr rfl) (er2b exSA ?_) ?_
      · unfold f_X6_append
        simp (disch := omega) only [iI_lit, ofNat_iI, iI_add, iI_sub, iI_mul, iI_neg, iI_lt_t, iI_lt_f, iI_le_t, iI_le_f, iI_eq_t, iI_eq_f, iI_div, rm_iI, tc_iI, inB_iI, nz_iI, is01_0, is01_1, gd_tt, bd_mk, bv_mk, oc_mk, lt_mk, Bool.false_eq_true, ↓reduceIte, (needA (lo := 33) (hi := 126) ha (by omega) (by omega) σ).1 c1, bx_r, z0]
      · unfold f_X7_append f_X7_append_b30
        simp (disch := omega) only [iI_lit, ofNat_iI, iI_add, iI_sub, iI_mul, iI_neg, iI_lt_t, iI_lt_f, iI_le_t, iI_le_f, iI_eq_t, iI_eq_f, iI_div, rm_iI, tc_iI, inB_iI, nz_iI, is01_0, is01_1, gd_tt, bd_mk, bv_mk, oc_mk, lt_mk, Bool.false_eq_true, ↓reduceIte, (inG (lo := 33) (hi := 126) ha (by omega) (by omega) σ).1 c1, z1, holds_2]
  · refine STEP.fail (r := 1) hI (.inl rfl) (er2a ?_) ?_
    · unfold f_X6_append
      simp only [iI_lit, (needA (lo := 33) (hi := 126) ha (by omega) (by omega) σ).2 c1, bx_l]
    · unfold f_X7_append f_X7_append_b30
      simp (disch := omega) only [iI_lit, ofNat_iI, iI_add, iI_sub, iI_mul, iI_neg, iI_lt_t, iI_lt_f, iI_le_t, iI_le_f, iI_eq_t, iI_eq_f, iI_div, rm_iI, tc_iI, inB_iI, nz_iI, is01_0, is01_1, gd_tt, bd_mk, bv_mk, oc_mk, lt_mk, Bool.false_eq_true, ↓reduceIte, (inG (lo := 33) (hi := 126) ha (by omega) (by omega) σ).2 c1, holds_1]
/-- the class and the reference find the text wrong at the same place -/
theorem same_end {e1 : Nat} {q1 : Q6} (h1 : e1 ≤ len) (hq : rch b e1 = some q1) (hc : e1 = len ∨ (e1 < len ∧ rd q1 (b e1) = none)) {e2 : Nat} {q2 : Q6} (h2 : e2 ≤ len) (hq2 : rch b e2 = some q2) (hc2 : e2 = len ∨ (e2 < len ∧ rd q2 (b e2) = none)) : e1 = e2 := by
  rcases Nat.lt_trichotomy e1 e2 with c | c | c
  · exfalso
    rcases hc with d | ⟨d, d2⟩
    · omega
    · have h3 : rch b (e1 + 1) = none := by rw [rch_s hq]; exact d2
      have := rch_up h3 (e2 - (e1 + 1))
      rw [show e1 + 1 + (e2 - (e1 + 1)) = e2 by omega, hq2] at this; cases this
  · exact c
  · exfalso
    rcases hc2 with d | ⟨d, d2⟩
    · omega
    · have h3 : rch b (e2 + 1) = none := by rw [rch_s hq2]; exact d2
      have := rch_up h3 (e1 - (e2 + 1))
      rw [show e2 + 1 + (e1 - (e2 + 1)) = e1 by omega, hq] at this; cases this
theorem IR.fp {τ : St} (h : IR σ V m W len b) (e : FP σ τ) : IR τ V m W len b := h.mo (fun c h1 h2 => e.1 c (by omega) (by omega)) (e.2.1 3 (by omega) (by omega)) (e.2.1 5 (by omega) (by omega))
theorem s_proclaim (hP : IP V m W len b) (hC : IC σ V o m W len b) (hR : IR σ V m W len b) : STEP σ (f_L_proclaim σ) f_X7_proclaim := by
  have hm6 := hC.2.1.2.2.2.1
  have hT := hP.2.2
  have hl := hT.1
  obtain ⟨σ1, e, q, x1, x2, x3, x4, x5⟩ := wellC hC.2.2 hT
  have C1 := hC.fr x2 (by omega)
  have z1 := C1.2.2.1
  have e1c : e = len ∨ (e < len ∧ rd q (b e) = none) := by
    rcases x5 with ⟨d, -⟩ | d
    · exact .inl d
    · exact .inr d
  -- what the reference says
  have REF : ∀ τ, IR τ V m W len b → ∃ τ', f_X7_go (iI 0) τ = some (iI 0, τ') ∧ FP τ τ' ∧ ((τ'.1 225 11 = iI 0 ∧ e = len ∧ mayE q) ∨ (τ'.1 225 11 = iI 1 ∧ (e < len ∨ ¬ mayE q))) := by
    intro τ hIR
    obtain ⟨τ', y1, y2, y3⟩ := go0_v hIR.2.2 hT
    refine ⟨τ', y1, y2, ?_⟩
    rcases y3 with ⟨w1, q2, w2, w3⟩ | ⟨e2, w1, q2, w2, w3, w4⟩
    · have := same_end x3 x4 e1c (Nat.le_refl _) w2 (.inl rfl)
      rw [this, w2] at x4
      exact .inl ⟨w1.2, this, by rw [← Option.some.inj x4]; exact w3⟩
    · have he : e = e2 := same_end x3 x4 e1c w3 w2 (by rcases w4 with ⟨d, -⟩ | d; exact .inl d; exact .inr d)
      refine .inr ⟨w1.2, ?_⟩
      rw [← he, x4] at w2
      obtain rfl := Option.some.inj w2
      rcases w4 with ⟨d, d2⟩ | ⟨d, d2⟩
      · exact .inr d2
      · exact .inl (by omega)
  by_cases cok : e = len ∧ mayE q
  · obtain ⟨ce, cm⟩ := cok
    have hD : RD σ1 q := by
      rcases x5 with ⟨-, d⟩ | ⟨d, -⟩
      · exact d
      · omega
    obtain ⟨x, m1, m2⟩ := mayEnd_v hD (rch_RB x4)
    have hx : x = 1 := by
      rcases m2 with ⟨-, d⟩ | ⟨d, -⟩
      · exact d
      · exact absurd cm d
    rw [hx] at m1
    rw [ce] at x4 x1
    obtain ⟨σ2, o', s1, s2, s3⟩ := save_C hP C1
    obtain ⟨σ3, p1, p2, p3⟩ := start_v σ2
    have C3 := s2.fr p2 (by omega)
    obtain ⟨V', v1, v2, v3, v4⟩ := addBoth hT x4 cm (len + 1) 0 V (by omega) (by omega) rfl hP.1
    obtain ⟨σ4, w1, w2, w3⟩ := v3 FU (V 0) σ3 (by simp only [FU]; omega) C3.2.2 p3 C3.1
    have w1 : f_X6_addBufferedFeasts_l19 FU (iI (V 0)) (iI 1) (iI 0) σ3 = some (iI (V' 0 - V 0), σ4) := w1
    have k1 := s2.1.1
    refine STEP.chg (V' := V') (o' := o') (m' := svM m) (W' := svW m W V) (len' := 0) (b' := b) (v := V' 0 - V 0) (τ1 := sI σ4 0 8 (iI 0)) hR ⟨v1, save_P hP, by omega, fun i hi => by omega⟩ (ok1 ?_) ?_ (fun c hc => by rw [sI_c (by omega), w3 c (by omega), p2.at (by omega), s3.at (by omega), x2.at (by omega)]) (fun τ hIR => ?_)
    · unfold f_X6_proclaim f_X6_bufferTellsFeasts f_X6_addBufferedFeasts
      simp (disch := omega) only [iI_lit, ofNat_iI, iI_add, iI_sub, iI_mul, iI_neg, iI_lt_t, iI_lt_f, iI_le_t, iI_le_f, iI_eq_t, iI_eq_f, iI_div, rm_iI, tc_iI, inB_iI, nz_iI, is01_0, is01_1, gd_tt, bd_mk, bv_mk, oc_mk, lt_mk, Bool.false_eq_true, ↓reduceIte, x1, z1, m1, s1, k1, p1, w1]
    · have e20 : ∀ c, 20 ≤ c → c < 138 → (sI σ4 0 8 (iI 0)).1 c = σ3.1 c := fun c h1 h2 => by rw [sI_c (by omega), w3 c (by omega)]
      obtain ⟨h2, h3, h4, h5, h6⟩ := C3.2.1
      refine ⟨w2.mo (fun c h1 h2 => sI_c (by omega)), ⟨?_, ?_, h4, h5, fun j hj => (h6 j hj).mo (fun c h1 h2 => e20 c (by omega) (by omega))⟩, sI_hit _ _ _ _, fun i hi => by omega⟩
      · rw [e20 20 (by omega) (by omega)]; exact h2
      · rw [e20 20 (by omega) (by omega)]; exact h3
    · obtain ⟨τ1, y1, y2, y3⟩ := REF τ hIR
      rcases y3 with ⟨y3, -, -⟩ | ⟨-, y3⟩
      · have I1 := hIR.fp y2
        obtain ⟨τ2, t1, t2, t3⟩ := save_R hm6 (I1.s0 (w := iI 0))
        obtain ⟨τ3, hτ3⟩ : ∃ τ3, τ3 = sI (sI τ2 225 10 (iI 0)) 225 11 (iI 0) := ⟨_, rfl⟩
        have F3 : FP τ2 τ3 := by rw [hτ3]; exact (FS.s10.tr FS.s11).fp
        have P3 : PS τ3 0 0 := by rw [hτ3]; exact ⟨by rw [sI_k (by omega), sI_hit]; rfl, sI_hit _ _ _ _⟩
        have I3 := t2.fp F3
        obtain ⟨τ4, u1, u2, u3⟩ := v4 FU 0 τ3 (by simp only [FU]; omega) I3.2.2 P3 I3.1
        rw [Int.zero_add] at u1
        have G : ∀ c, c < 138 → τ4.1 c = τ.1 c := fun c hc => by rw [u3.1 c (by omega) (by omega) (by omega), F3.1 c (by omega) (by omega), t3.1 c (by omega) (by omega), sI_c (by omega), y2.1 c (by omega) (by omega)]
        refine ⟨sI τ4 225 5 (iI 0), ?_, ⟨fun k hk => ?_, ⟨?_, fun j hj k hk => ?_⟩, sI_hit _ _ _ _, fun i hi => by omega⟩, fun c hc => ?_, ?_, ?_⟩
        · unfold f_X7_proclaim f_X7_proclaim_b19
          have go1 : f_X7_go (iI 1) τ2 = some (iI (V' 0 - V 0), τ4) := by
            unfold f_X7_go
            simp only [iI_lit, lt_mk]
            rw [← hτ3]
            exact u1
          simp (disch := omega) only [iI_lit, ofNat_iI, iI_add, iI_sub, iI_mul, iI_neg, iI_lt_t, iI_lt_f, iI_le_t, iI_le_f, iI_eq_t, iI_eq_f, iI_div, rm_iI, tc_iI, inB_iI, nz_iI, is01_0, is01_1, gd_tt, bd_mk, bv_mk, oc_mk, lt_mk, Bool.false_eq_true, ↓reduceIte, y1, y3, holds_0, t1, go1]
        · rw [sI_c (by omega)]; exact u2 k hk
        · rw [sI_k (by omega), u3.2.1 3 (by omega) (by omega)]; exact I3.2.1.1
        · rw [sI_c (by omega), u3.1 227 (by omega) (by omega) (by omega)]; exact I3.2.1.2 j hj k hk
        · rw [sI_c (by omega)]; exact G c hc
        · show τ4.2 = τ.2
          rw [u3.2.2, F3.2.2, t3.2.2]; exact y2.2.2
        · rw [sI_k (by omega), u3.2.1 0 (by omega) (by omega), F3.2.1 0 (by omega) (by omega), t3.2.1 0 (by omega), sI_hit]; rfl
      · exfalso
        rcases y3 with d | d
        · omega
        · exact d cm
  · -- it doesn't tell feasts
    have hL : f_L_proclaim σ = some (iI 1, σ1) := by
      refine er1 ?_
      unfold f_X6_proclaim f_X6_bufferTellsFeasts
      by_cases ce : e = len
      · have hD : RD σ1 q := by
          rcases x5 with ⟨-, d⟩ | ⟨d, -⟩
          · exact d
          · omega
        obtain ⟨x, m1, m2⟩ := mayEnd_v hD (rch_RB x4)
        have hx : x = 0 := by
          rcases m2 with ⟨d, -⟩ | ⟨-, d⟩
          · exact absurd ⟨ce, d⟩ cok
          · exact d
        rw [hx] at m1
        rw [ce] at x1
        simp (disch := omega) only [iI_lit, ofNat_iI, iI_add, iI_sub, iI_mul, iI_neg, iI_lt_t, iI_lt_f, iI_le_t, iI_le_f, iI_eq_t, iI_eq_f, iI_div, rm_iI, tc_iI, inB_iI, nz_iI, is01_0, is01_1, gd_tt, bd_mk, bv_mk, oc_mk, lt_mk, Bool.false_eq_true, ↓reduceIte, x1, z1, m1]
      · simp (disch := omega) only [iI_lit, ofNat_iI, iI_add, iI_sub, iI_mul, iI_neg, iI_lt_t, iI_lt_f, iI_le_t, iI_le_f, iI_eq_t, iI_eq_f, iI_div, rm_iI, tc_iI, inB_iI, nz_iI, is01_0, is01_1, gd_tt, bd_mk, bv_mk, oc_mk, lt_mk, Bool.false_eq_true, ↓reduceIte, x1, z1]
    have R1 : IR σ1 V m W len b := hR.fr x2 (by omega)
    obtain ⟨τ1, y1, y2, y3⟩ := REF σ1 R1
    rcases y3 with ⟨-, y3⟩ | ⟨y3, -⟩
    · exact absurd y3 cok
    · refine ⟨iI 1, σ1, iI 0, sI τ1 225 0 (iI 1), hL, ?_, sI_hit _ _ _ _, fun h => absurd h (by decide), V, o, m, W, len, b, hP, ?_, (R1.fp y2).s0⟩
      · unfold f_X7_proclaim f_X7_proclaim_b19
        simp (disch := omega) only [iI_lit, ofNat_iI, iI_add, iI_sub, iI_mul, iI_neg, iI_lt_t, iI_lt_f, iI_le_t, iI_le_f, iI_eq_t, iI_eq_f, iI_div, rm_iI, tc_iI, inB_iI, nz_iI, is01_0, is01_1, gd_tt, bd_mk, bv_mk, oc_mk, lt_mk, Bool.false_eq_true, ↓reduceIte, y1, y3, holds_1]
      · exact C1.mo (fun c hc => by rw [sI_c (by omega), y2.1 c (by omega) (by omega)])
/-- the plain comparisons of the law -/
theorem s_clear (hP : IP V m W len b) (hC : IC σ V o m W len b) (hR : IR σ V m W len b) : ∃ v τ τ', f_X6_clearBuffer σ = some (v, τ) ∧ f_X7_clearBuffer τ = some (v, τ') ∧ INV τ' := by
  have z0 := hC.2.2.1
  have z1 := hR.2.2.1
  have hl := hP.2.2.1
  have y1 : (sI (sI σ 0 8 (iI 0)) 225 0 (iI 0)).1 225 5 = iI (len : Int) := by rw [sI_k (by omega), sI_c (by omega)]; exact z1
  refine ⟨iI (len : Int), sI σ 0 8 (iI 0), sI (sI (sI σ 0 8 (iI 0)) 225 0 (iI 0)) 225 5 (iI 0), ?_, ?_, V, o, m, W, 0, b, ⟨hP.1, hP.2.1, by omega, fun i hi => by omega⟩, ?_, ?_⟩
  · unfold f_X6_clearBuffer
    simp (disch := omega) only [iI_lit, ofNat_iI, iI_add, iI_sub, iI_mul, iI_neg, iI_lt_t, iI_lt_f, iI_le_t, iI_le_f, iI_eq_t, iI_eq_f, iI_div, rm_iI, tc_iI, inB_iI, nz_iI, is01_0, is01_1, gd_tt, bd_mk, bv_mk, oc_mk, lt_mk, Bool.false_eq_true, ↓reduceIte, z0]
  · unfold f_X7_clearBuffer
    simp (disch := omega) only [iI_lit, ofNat_iI, iI_add, iI_sub, iI_mul, iI_neg, iI_lt_t, iI_lt_f, iI_le_t, iI_le_f, iI_eq_t, iI_eq_f, iI_div, rm_iI, tc_iI, inB_iI, nz_iI, is01_0, is01_1, gd_tt, bd_mk, bv_mk, oc_mk, lt_mk, Bool.false_eq_true, ↓reduceIte, y1]
  · have e : ∀ c, 1 ≤ c → c < 138 → (sI (sI (sI σ 0 8 (iI 0)) 225 0 (iI 0)) 225 5 (iI 0)).1 c = σ.1 c := fun c h1 h2 => by rw [sI_c (by omega), sI_c (by omega), sI_c (by omega)]
    obtain ⟨h1, ⟨h2, h3, h4, h5, h6⟩, h7, h8⟩ := hC
    refine ⟨h1.mo (fun c hc1 hc2 => e c hc1 (by omega)), ⟨?_, ?_, h4, h5, fun j hj => (h6 j hj).mo (fun c hc1 hc2 => e c (by omega) (by omega))⟩, ?_, fun i hi => by omega⟩
    · rw [e 20 (by omega) (by omega)]; exact h2
    · rw [e 20 (by omega) (by omega)]; exact h3
    · rw [sI_c (by omega), sI_c (by omega), sI_hit]; rfl
  · refine ⟨fun k hk => ?_, ⟨?_, fun j hj k hk => ?_⟩, sI_hit _ _ _ _, fun i hi => by omega⟩
    · rw [sI_c (by omega), sI_c (by omega), sI_c (by omega)]; exact hR.1 k hk
    · rw [sI_k (by omega), sI_k (by omega), sI_c (by omega)]; exact hR.2.1.1
    · rw [sI_c (by omega), sI_c (by omega), sI_c (by omega)]; exact hR.2.1.2 j hj k hk
theorem s_first (hP : IP V m W len b) (hC : IC σ V o m W len b) (hR : IR σ V m W len b) : ∃ v τ τ', f_X6_firstError σ = some (v, τ) ∧ f_X7_firstError τ = some (v, τ') ∧ INV τ' := by
  have hT := hP.2.2
  have hl := hT.1
  obtain ⟨σ1, e, q, x1, x2, x3, x4, x5⟩ := wellC hC.2.2 hT
  have C1 := hC.fr x2 (by omega)
  have R1 := (hR.fr x2 (by omega)).s0 (w := iI 0)
  have e1c : e = len ∨ (e < len ∧ rd q (b e) = none) := by
    rcases x5 with ⟨d, -⟩ | d
    · exact .inl d
    · exact .inr d
  obtain ⟨τ1, y1, y2, y3⟩ := go0_v R1.2.2 hT
  have R2 := R1.fp y2
  refine ⟨iI (e : Int), σ1, τ1, ?_, ?_, V, o, m, W, len, b, hP, C1.mo (fun c hc => by rw [y2.1 c (by omega) (by omega), sI_c (by omega)]), R2⟩
  · unfold f_X6_firstError
    simp (disch := omega) only [iI_lit, ofNat_iI, iI_add, iI_sub, iI_mul, iI_neg, iI_lt_t, iI_lt_f, iI_le_t, iI_le_f, iI_eq_t, iI_eq_f, iI_div, rm_iI, tc_iI, inB_iI, nz_iI, is01_0, is01_1, gd_tt, bd_mk, bv_mk, oc_mk, lt_mk, Bool.false_eq_true, ↓reduceIte, x1]
  · have r5 := R2.2.2.1
    unfold f_X7_firstError
    rcases y3 with ⟨w1, q2, w2, w3⟩ | ⟨e2, w1, q2, w2, w3, w4⟩
    · have he := same_end x3 x4 e1c (Nat.le_refl _) w2 (.inl rfl)
      have p2 := w1.2
      simp (disch := omega) only [iI_lit, ofNat_iI, iI_add, iI_sub, iI_mul, iI_neg, iI_lt_t, iI_lt_f, iI_le_t, iI_le_f, iI_eq_t, iI_eq_f, iI_div, rm_iI, tc_iI, inB_iI, nz_iI, is01_0, is01_1, gd_tt, bd_mk, bv_mk, oc_mk, lt_mk, Bool.false_eq_true, ↓reduceIte, y1, p2, r5, he]
    · have he : e = e2 := same_end x3 x4 e1c w3 w2 (by rcases w4 with ⟨d, -⟩ | d; exact .inl d; exact .inr d)
      obtain ⟨p1, p2⟩ := w1
      simp (disch := omega) only [iI_lit, ofNat_iI, iI_add, iI_sub, iI_mul, iI_neg, iI_lt_t, iI_lt_f, iI_le_t, iI_le_f, iI_eq_t, iI_eq_f, iI_div, rm_iI, tc_iI, inB_iI, nz_iI, is01_0, is01_1, gd_tt, bd_mk, bv_mk, oc_mk, lt_mk, Bool.false_eq_true, ↓reduceIte, y1, p2, p1, he]
theorem s_share (hP : IP V m W len b) (hC : IC σ V o m W len b) (hR : IR σ V m W len b) : ∃ v τ τ', f_X6_freshShare σ = some (v, τ) ∧ f_X7_freshShare τ = some (v, τ') ∧ Op.cmpValue (FP.dcmp v v) CmpOp.l = 0 ∧ INV τ' := by
  obtain ⟨k, hk, hk5⟩ := hP.k
  obtain ⟨τ1, x1, x2⟩ := freshC hP.1.1 hC.1 hk
  have C1 := hC.fr x2 (by omega)
  have R1 := (hR.fr x2 (by omega)).s0 (w := iI 0)
  obtain ⟨τ2, y1, y2⟩ := freshR hP.1.1 R1.1 hk
  refine ⟨frs V k, τ1, τ2, ?_, ?_, (shG_ok (frs_ok hP.1.1 hk)).2.1, V, o, m, W, len, b, hP, C1.mo (fun c hc => by rw [y2.at (by omega), sI_c (by omega)]), R1.fr y2 (by omega)⟩
  · unfold f_X6_freshShare
    simp only [x1, bd_mk]
  · unfold f_X7_freshShare
    simp only [iI_lit, lt_mk, y1, bd_mk]
theorem s_digest (hP : IP V m W len b) (hC : IC σ V o m W len b) (hR : IR σ V m W len b) : ∃ v τ τ', f_X6_digest σ = some (v, τ) ∧ f_X7_digest τ = some (v, τ') ∧ INV τ' := by
  obtain ⟨n, hn, hn10⟩ := hP.n
  obtain ⟨k, hk, hk5⟩ := hP.k
  have hl := hP.2.2.1
  obtain ⟨τ1, x1, x2⟩ := digestC hP.1.1 hC.1 hn hk hC.2.1.2.1 hC.2.2 hl
  have C1 := hC.fr x2 (by omega)
  have R1 := hR.fr x2 (by omega)
  obtain ⟨τ2, y1, y2, y3⟩ := digestR hP.1.1 R1.1 hn hk R1.2.1.1 R1.2.2 hl
  exact ⟨_, τ1, τ2, x1, y1, V, o, m, W, len, b, hP, C1.mo (fun c hc => y2 c (by omega)), R1.mo (fun c h1 h2 => y2 c (by omega)) (y3 3 (by omega)) (y3 5 (by omega))⟩
end CHG
