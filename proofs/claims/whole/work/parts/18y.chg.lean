/-! what changes the state -/
theorem STEP.chg {σ τ1 : St} {L : Option (Int32 × St)} {M : St → Option (Int32 × St)} {V V' : Nat → Int} {m o' m' : Nat} {W W' : Nat → Nat → Int} {len len' : Nat} {b b' : Nat → Int} {v : Int} (hR : IR σ V m W len b) (hP' : IP V' m' W' len' b') (hL : L = some (0, sL τ1 235 (iI v).toInt64)) (hC' : IC τ1 V' o' m' W' len' b') (hF : ∀ c, 225 ≤ c → τ1.1 c = σ.1 c) (hM : ∀ τ, IR τ V m W len b → ∃ τ', M τ = some (iI v, τ') ∧ IR τ' V' m' W' len' b' ∧ (∀ c, c < 138 → τ'.1 c = τ.1 c) ∧ τ'.2 = τ.2 ∧ τ'.1 225 0 = 0) : STEP σ L M := by
  have R1 : IR (sL τ1 235 (iI v).toInt64) V m W len b := hR.mo (fun c h1 h2 => hF c (by omega)) (by show τ1.1 225 3 = _; rw [hF 225 (by omega)]) (by show τ1.1 225 5 = _; rw [hF 225 (by omega)])
  obtain ⟨τ', x1, x2, x3, x4, x5⟩ := hM _ R1
  refine ⟨0, _, _, τ', hL, x1, x5, fun _ => by rw [x4]; exact sL_at _ _ _, V', o', m', W', len', b', hP', ?_, x2⟩
  exact hC'.mo (fun c hc => by rw [x3 c hc]; rfl)
section CHG
variable {σ : St} {V : Nat → Int} {o m : Nat} {W : Nat → Nat → Int} {len : Nat} {b : Nat → Int}
theorem save_P (hP : IP V m W len b) : ∀ j, j < svM m → IZ (svW m W V j) := by
  intro j hj
  unfold svM at hj
  unfold svW
  by_cases c : m < 6
  · rw [if_pos c] at hj ⊢
    by_cases q : j = m
    · rw [if_pos q]; exact hP.1
    · rw [if_neg q]; exact hP.2.1 j (by omega)
  · rw [if_neg c] at hj ⊢
    by_cases q : j = 5
    · rw [if_pos q]; exact hP.1
    · rw [if_neg q]; exact hP.2.1 (j + 1) (by omega)
theorem save_C (hP : IP V m W len b) (hC : IC σ V o m W len b) : ∃ τ o', f_X1_save 1 σ = some τ ∧ IC τ V o' (svM m) (svW m W V) len b ∧ Fr 20 136 σ τ := by
  obtain ⟨τ, o', x1, x2, x3⟩ := saveC hP.1.1 hC.1 hC.2.1
  exact ⟨τ, o', x1, ⟨hC.1.fr x2 (by omega), x3, by rw [x2.at (by omega)]; exact hC.2.2.1, fun i hi => by rw [x2.at (by omega)]; exact hC.2.2.2 i hi⟩, x2⟩
theorem save_R (hm : m ≤ 6) (hR : IR σ V m W len b) : ∃ τ, f_X7_save σ = some τ ∧ IR τ V (svM m) (svW m W V) len b ∧ Fs σ τ := by
  obtain ⟨τ, x1, x2, x3⟩ := saveR hR.1 hm hR.2.1
  exact ⟨τ, x1, ⟨fun k hk => by rw [x2.1 226 (by omega) (by omega)]; exact hR.1 k hk, x3, by rw [x2.2.1 5 (by omega)]; exact hR.2.2.1, fun i hi => by rw [x2.1 228 (by omega) (by omega)]; exact hR.2.2.2 i hi⟩, x2⟩
/-- a change of the reference's row alone -/
theorem IR.row {τ : St} {V' : Nat → Int} (h : IR σ V m W len b) (e : Fr 226 227 σ τ) (hM : RMv τ V') : IR τ V' m W len b :=
  ⟨hM, ⟨by rw [e.at (by omega)]; exact h.2.1.1, fun j hj k hk => by rw [e.at (by omega)]; exact h.2.1.2 j hj k hk⟩, by rw [e.at (by omega)]; exact h.2.2.1, fun i hi => by rw [e.at (by omega)]; exact h.2.2.2 i hi⟩
theorem IC.row {τ : St} {V' : Nat → Int} (h : IC σ V o m W len b) (e : Fr 1 20 σ τ) (hS : RS τ 1 V') : IC τ V' o m W len b :=
  ⟨hS, h.2.1.fr e (by omega), by rw [e.at (by omega)]; exact h.2.2.1, fun i hi => by rw [e.at (by omega)]; exact h.2.2.2 i hi⟩
theorem RMv.up {V : Nat → Int} {k : Nat} {v : Int} (h : RMv σ V) : RMv (sI σ 226 k (iI v)) (updf V k v) := by
  intro j hj
  by_cases q : j = k
  · rw [q, sI_hit, updf_at]
  · rw [sI_k q, updf_ne q]; exact h j hj
theorem s_rank {a w : Int} (ha : -2147483648 ≤ a ∧ a < 2147483648) (hw : -2147483648 ≤ w ∧ w < 2147483648) (hP : IP V m W len b) (hC : IC σ V o m W len b) (hR : IR σ V m W len b) : STEP σ (f_L_rank (iI a) (iI w) σ) (f_X7_rank (iI a) (iI w)) := by
  have hI : INV σ := ⟨V, o, m, W, len, b, hP, hC, hR⟩
  obtain ⟨n, hn, hn10⟩ := hP.n
  have hm6 := hC.2.1.2.2.2.1
  have z0 : σ.1 1 0 = iI (n : Int) := by rw [hC.1.1, hn]
  by_cases c1 : 0 ≤ a ∧ a < n
  · by_cases c2 : 0 ≤ w ∧ w ≤ 9
    · obtain ⟨f, rfl⟩ : ∃ f : Nat, a = (f : Int) := ⟨a.toNat, by omega⟩
      have e0 : ((f : Int)).toNat = f := by omega
      obtain ⟨σ1, o', s1, s2, s3⟩ := save_C hP hC
      have k1 := at_in (c := 4) (N := 10) rfl (by omega) (i := (f : Int)) (σ := σ1) (by omega) (by omega)
      have k2 := put_in (c := 4) (N := 10) rfl (by omega) (i := (f : Int)) (x := iI w) (σ := σ1) (by omega) (by omega)
      rw [e0, show σ1.1 (4 + 1) f = iI (V (2 + 4 * f)) from (s2.1.2.2.2.2.1 f (by omega)).2.1] at k1
      rw [e0] at k2
      have G : Fr 1 20 σ1 (sI σ1 (4 + 1) f (iI w)) := Fr.sI (by omega) (by omega)
      have Z' : IZ (updf V (2 + 4 * f) w) := by
        refine IZ_f hP.1 (fun k hk => updf_ne (by omega)) (by rw [updf_ne (by omega)]; exact hP.1.1.1) (fun g hg => ?_)
        rw [updf_ne (by omega)] at hg
        have z := hP.1.1.2.2.2.2.1 g hg
        unfold IF at z ⊢
        rw [updf_ne (show 1 + 4 * g ≠ 2 + 4 * f by omega), updf_ne (show 3 + 4 * g ≠ 2 + 4 * f by omega), updf_ne (show 4 + 4 * g ≠ 2 + 4 * f by omega)]
        by_cases q : g = f
        · rw [q, updf_at]; rw [q] at z
          exact ⟨z.1, z.2.1, c2.1, c2.2, z.2.2.2.2⟩
        · rw [updf_ne (show 2 + 4 * g ≠ 2 + 4 * f by omega)]; exact z
      have S' : RS (sI σ1 (4 + 1) f (iI w)) 1 (updf V (2 + 4 * f) w) := by
        obtain ⟨q1, q2, q3, q4, q5, q6⟩ := s2.1
        refine ⟨?_, ?_, ?_, fun c hc => ?_, fun g hg => ?_, fun k hk => ?_⟩
        · rw [sI_c (by omega), updf_ne (by omega)]; exact q1
        · rw [sI_c (by omega), updf_ne (by omega)]; exact q2
        · rw [sI_c (by omega), updf_ne (by omega)]; exact q3
        · rw [sI_c (by omega), updf_ne (by omega)]; exact q4 c hc
        · rw [updf_ne (by omega)] at hg
          obtain ⟨t1, t2, t3, t4⟩ := q5 g hg
          refine ⟨?_, ?_, ?_, ?_⟩
          · rw [sI_c (by omega), updf_ne (by omega)]; exact t1
          · show (sI σ1 (4 + 1) f (iI w)).1 (4 + 1) g = _
            by_cases q : g = f
            · rw [q, sI_hit, updf_at]
            · rw [sI_k q, updf_ne (by omega)]; exact t2
          · rw [sI_c (by omega), updf_ne (by omega)]; exact t3
          · rw [sI_c (by omega), updf_ne (by omega)]; exact t4
        · rw [updf_ne (by omega)] at hk
          have y : RTs σ1 k V k := q6 k hk
          exact RTs_of (RTs.fr y (Fr.sI (lo := 5) (hi := 6) (by omega) (by omega)) (by omega)) (fun x hx => updf_ne (by omega))
      refine STEP.chg (V' := updf V (2 + 4 * f) w) (o' := o') (m' := svM m) (W' := svW m W V) (len' := len) (b' := b) (v := V (2 + 4 * f)) (τ1 := sI σ1 (4 + 1) f (iI w)) hR ⟨Z', save_P hP, hP.2.2⟩ (ok2 ?_) (s2.row G S') (fun c hc => by rw [sI_c (by omega), s3.at (by omega)]) (fun τ hT => ?_)
      · unfold f_X6_rank
        simp only [iI_lit, (needFeast_v ha z0 hn10).1 c1, bx_r, (needA (lo := 0) (hi := 9) hw (by omega) (by omega) σ).1 c2, s1, bv_mk, k1, bd_mk, k2]
      · obtain ⟨τ1, t1, t2, t3⟩ := save_R hm6 (hT.s0 (w := iI 0))
        have r1 := t2.1.rd (e := 1 + 4 * (f : Int) + 1) (k := 2 + 4 * f) (by omega) (by omega)
        have e1 : (1 + 4 * (f : Int) + 1).toNat = 2 + 4 * f := by omega
        rw [e1] at r1
        refine ⟨sI τ1 226 (2 + 4 * f) (iI w), ?_, t2.row (Fr.sI (by omega) (by omega)) t2.1.up, fun c hc => ?_, t3.2.2, ?_⟩
        · unfold f_X7_rank f_X7_rank_b28 f_X7_of f_X7_puts
          simp (disch := omega) only [iI_lit, ofNat_iI, iI_add, iI_sub, iI_mul, iI_neg, iI_lt_t, iI_lt_f, iI_le_t, iI_le_f, iI_eq_t, iI_eq_f, iI_div, rm_iI, tc_iI, inB_iI, nz_iI, is01_0, is01_1, gd_tt, bd_mk, bv_mk, oc_mk, lt_mk, Bool.false_eq_true, ↓reduceIte, (isFeast_v ha (hT.z hn) hn10).1 c1, (inG (lo := 0) (hi := 9) hw (by omega) (by omega) τ).1 c2, holds_0, t1, e1, r1]
        · rw [sI_c (by omega), t3.1 c (by omega) (by omega), sI_c (by omega)]
        · rw [sI_c (by omega), t3.2.1 0 (by omega), sI_hit]; rfl
    · refine STEP.fail (r := 2) hI (.inr rfl) (er2b exAI ?_) ?_
      · unfold f_X6_rank
        simp only [iI_lit, (needFeast_v ha z0 hn10).1 c1, bx_r, (needA (lo := 0) (hi := 9) hw (by omega) (by omega) σ).2 c2, bx_l]
      · unfold f_X7_rank f_X7_rank_b28
        simp (disch := omega) only [iI_lit, ofNat_iI, iI_add, iI_sub, iI_mul, iI_neg, iI_lt_t, iI_lt_f, iI_le_t, iI_le_f, iI_eq_t, iI_eq_f, iI_div, rm_iI, tc_iI, inB_iI, nz_iI, is01_0, is01_1, gd_tt, bd_mk, bv_mk, oc_mk, lt_mk, Bool.false_eq_true, ↓reduceIte, (isFeast_v ha (hR.z hn) hn10).1 c1, (inG (lo := 0) (hi := 9) hw (by omega) (by omega) σ).2 c2, holds_2]
  · refine STEP.fail (r := 1) hI (.inl rfl) (er2a ?_) ?_
    · unfold f_X6_rank
      simp only [(needFeast_v ha z0 hn10).2 c1, bx_l]
    · unfold f_X7_rank f_X7_rank_b28
      simp (disch := omega) only [iI_lit, ofNat_iI, iI_add, iI_sub, iI_mul, iI_neg, iI_lt_t, iI_lt_f, iI_le_t, iI_le_f, iI_eq_t, iI_eq_f, iI_div, rm_iI, tc_iI, inB_iI, nz_iI, is01_0, is01_1, gd_tt, bd_mk, bv_mk, oc_mk, lt_mk, Bool.false_eq_true, ↓reduceIte, (isFeast_v ha (hR.z hn) hn10).2 c1, holds_1]
theorem s_teach {a w : Int} (ha : -2147483648 ≤ a ∧ a < 2147483648) (hw : -2147483648 ≤ w ∧ w < 2147483648) (hP : IP V m W len b) (hC : IC σ V o m W len b) (hR : IR σ V m W len b) : STEP σ (f_L_teach (iI a) (iI w) σ) (f_X7_teach (iI a) (iI w)) := by
  have hI : INV σ := ⟨V, o, m, W, len, b, hP, hC, hR⟩
  have hm6 := hC.2.1.2.2.2.1
  have hn10 := hP.1.1.1
  have hk5 := hP.1.1.2.2.1
  by_cases c1 : 0 ≤ a ∧ a ≤ 2
  · by_cases c2 : -5 ≤ w ∧ w ≤ 5
    · obtain ⟨f, rfl⟩ : ∃ f : Nat, a = (f : Int) := ⟨a.toNat, by omega⟩
      have hf3 : f < 3 := by omega
      have e0 : ((f : Int)).toNat = f := by omega
      obtain ⟨σ1, o', s1, s2, s3⟩ := save_C hP hC
      have k1 := at_in (c := 10) (N := 3) rfl (by omega) (i := (f : Int)) (σ := σ1) (by omega) (by omega)
      have k2 := put_in (c := 10) (N := 3) rfl (by omega) (i := (f : Int)) (x := iI w) (σ := σ1) (by omega) (by omega)
      rw [e0, show σ1.1 (10 + 1) f = iI (V (41 + f)) from s2.1.2.2.2.1 f hf3] at k1
      rw [e0] at k2
      have G : Fr 1 20 σ1 (sI σ1 (10 + 1) f (iI w)) := Fr.sI (by omega) (by omega)
      have Z' : IZ (updf V (41 + f) w) := ⟨IV_slip hP.1.1 hf3 c2, fun k hk => IK_of (hP.1.2 k hk) (fun x hx => updf_ne (by omega))⟩
      have S' : RS (sI σ1 (10 + 1) f (iI w)) 1 (updf V (41 + f) w) := by
        obtain ⟨q1, q2, q3, q4, q5, q6⟩ := s2.1
        refine ⟨?_, ?_, ?_, fun c hc => ?_, fun g hg => ?_, fun k hk => ?_⟩
        · rw [sI_c (by omega), updf_ne (by omega)]; exact q1
        · rw [sI_c (by omega), updf_ne (by omega)]; exact q2
        · rw [sI_c (by omega), updf_ne (by omega)]; exact q3
        · show (sI σ1 (10 + 1) f (iI w)).1 (10 + 1) c = _
          by_cases q : c = f
          · rw [q, sI_hit, updf_at]
          · rw [sI_k q, updf_ne (by omega)]; exact q4 c hc
        · rw [updf_ne (by omega)] at hg
          obtain ⟨t1, t2, t3, t4⟩ := q5 g hg
          refine ⟨?_, ?_, ?_, ?_⟩
          · rw [sI_c (by omega), updf_ne (by omega)]; exact t1
          · rw [sI_c (by omega), updf_ne (by omega)]; exact t2
          · rw [sI_c (by omega), updf_ne (by omega)]; exact t3
          · rw [sI_c (by omega), updf_ne (by omega)]; exact t4
        · rw [updf_ne (by omega)] at hk
          have y : RTs σ1 k V k := q6 k hk
          exact RTs_of (RTs.fr y (Fr.sI (lo := 11) (hi := 12) (by omega) (by omega)) (by omega)) (fun x hx => updf_ne (by omega))
      refine STEP.chg (V' := updf V (41 + f) w) (o' := o') (m' := svM m) (W' := svW m W V) (len' := len) (b' := b) (v := V (41 + f) + 5) (τ1 := sI σ1 (10 + 1) f (iI w)) hR ⟨Z', save_P hP, hP.2.2⟩ (ok1 ?_) (s2.row G S') (fun c hc => by rw [sI_c (by omega), s3.at (by omega)]) (fun τ hT => ?_)
      · unfold f_X6_teach
        simp only [iI_lit, iI_neg, (needCarver_v ha σ).1 c1, bx_r, (needA (lo := -5) (hi := 5) hw (by omega) (by omega) σ).1 c2, s1, bv_mk, k1, bd_mk, k2, iI_add]
      · obtain ⟨τ1, t1, t2, t3⟩ := save_R hm6 (hT.s0 (w := iI 0))
        have r1 := t2.1.rd (e := 41 + (f : Int)) (k := 41 + f) (by omega) (by omega)
        have e1 : (41 + (f : Int)).toNat = 41 + f := by omega
        rw [e1] at r1
        refine ⟨sI τ1 226 (41 + f) (iI w), ?_, t2.row (Fr.sI (by omega) (by omega)) t2.1.up, fun c hc => ?_, t3.2.2, ?_⟩
        · unfold f_X7_teach f_X7_teach_b23 f_X7_puts
          simp (disch := omega) only [iI_lit, ofNat_iI, iI_add, iI_sub, iI_mul, iI_neg, iI_lt_t, iI_lt_f, iI_le_t, iI_le_f, iI_eq_t, iI_eq_f, iI_div, rm_iI, tc_iI, inB_iI, nz_iI, is01_0, is01_1, gd_tt, bd_mk, bv_mk, oc_mk, lt_mk, Bool.false_eq_true, ↓reduceIte, (isCarver_v ha τ).1 c1, (inG (lo := -5) (hi := 5) hw (by omega) (by omega) τ).1 c2, holds_0, t1, e1, r1]
        · rw [sI_c (by omega), t3.1 c (by omega) (by omega), sI_c (by omega)]
        · rw [sI_c (by omega), t3.2.1 0 (by omega), sI_hit]; rfl
    · refine STEP.fail (r := 1) hI (.inl rfl) (er1 ?_) ?_
      · unfold f_X6_teach
        simp only [iI_lit, iI_neg, (needCarver_v ha σ).1 c1, bx_r, (needA (lo := -5) (hi := 5) hw (by omega) (by omega) σ).2 c2, bx_l]
      · unfold f_X7_teach f_X7_teach_b22 f_X7_teach_b23
        simp (disch := omega) only [iI_lit, ofNat_iI, iI_add, iI_sub, iI_mul, iI_neg, iI_lt_t, iI_lt_f, iI_le_t, iI_le_f, iI_eq_t, iI_eq_f, iI_div, rm_iI, tc_iI, inB_iI, nz_iI, is01_0, is01_1, gd_tt, bd_mk, bv_mk, oc_mk, lt_mk, Bool.false_eq_true, ↓reduceIte, (isCarver_v ha σ).1 c1, (inG (lo := -5) (hi := 5) hw (by omega) (by omega) σ).2 c2, holds_1]
  · refine STEP.fail (r := 1) hI (.inl rfl) (er1 ?_) ?_
    · unfold f_X6_teach
      simp only [(needCarver_v ha σ).2 c1, bx_l]
    · unfold f_X7_teach f_X7_teach_b22 f_X7_teach_b23
      simp (disch := omega) only [iI_lit, ofNat_iI, iI_add, iI_sub, iI_mul, iI_neg, iI_lt_t, iI_lt_f, iI_le_t, iI_le_f, iI_eq_t, iI_eq_f, iI_div, rm_iI, tc_iI, inB_iI, nz_iI, is01_0, is01_1, gd_tt, bd_mk, bv_mk, oc_mk, lt_mk, Bool.false_eq_true, ↓reduceIte, (isCarver_v ha σ).2 c1, holds_1]
theorem s_set {w : Int} (hw : -2147483648 ≤ w ∧ w < 2147483648) (hP : IP V m W len b) (hC : IC σ V o m W len b) (hR : IR σ V m W len b) : STEP σ (f_L_set (iI w) σ) (f_X7_set (iI w)) := by
  have hI : INV σ := ⟨V, o, m, W, len, b, hP, hC, hR⟩
  have hm6 := hC.2.1.2.2.2.1
  have hn10 := hP.1.1.1
  have hk5 := hP.1.1.2.2.1
  by_cases c2 : 50 ≤ w ∧ w ≤ 400
  · obtain ⟨σ1, o', s1, s2, s3⟩ := save_C hP hC
    have k1 := s2.1.2.1
    have G : Fr 1 20 σ1 (sI σ1 1 6 (iI w)) := Fr.sI (by omega) (by omega)
    have Z' : IZ (updf V 44 w) := by
      obtain ⟨⟨i1, i2, i3, i4, i5, i6⟩, hz⟩ := hP.1
      have hk : ∀ k, k < 5 → IK (updf V 44 w) k := fun k hk => IK_of (hz k hk) (fun x hx => updf_ne (by omega))
      refine ⟨⟨?_, ?_, ?_, fun c hc => ?_, fun f hf => ?_, fun k hk2 => hk k (by rw [updf_ne (by omega)] at hk2; omega)⟩, hk⟩
      · rw [updf_ne (by omega)]; exact i1
      · rw [updf_at]; exact c2
      · rw [updf_ne (by omega)]; exact i3
      · rw [updf_ne (by omega)]; exact i4 c hc
      · rw [updf_ne (by omega)] at hf
        unfold IF
        rw [updf_ne (show 1 + 4 * f ≠ 44 by omega), updf_ne (show 2 + 4 * f ≠ 44 by omega), updf_ne (show 3 + 4 * f ≠ 44 by omega), updf_ne (show 4 + 4 * f ≠ 44 by omega)]
        exact i5 f hf
    have S' : RS (sI σ1 1 6 (iI w)) 1 (updf V 44 w) := by
      obtain ⟨q1, q2, q3, q4, q5, q6⟩ := s2.1
      refine ⟨?_, ?_, ?_, fun c hc => ?_, fun g hg => ?_, fun k hk => ?_⟩
      · rw [sI_k (by omega), updf_ne (by omega)]; exact q1
      · rw [sI_hit, updf_at]
      · rw [sI_k (by omega), updf_ne (by omega)]; exact q3
      · rw [sI_c (by omega), updf_ne (by omega)]; exact q4 c hc
      · rw [updf_ne (by omega)] at hg
        obtain ⟨t1, t2, t3, t4⟩ := q5 g hg
        refine ⟨?_, ?_, ?_, ?_⟩
        · rw [sI_c (by omega), updf_ne (by omega)]; exact t1
        · rw [sI_c (by omega), updf_ne (by omega)]; exact t2
        · rw [sI_c (by omega), updf_ne (by omega)]; exact t3
        · rw [sI_c (by omega), updf_ne (by omega)]; exact t4
      · rw [updf_ne (by omega)] at hk
        have y : RTs σ1 k V k := q6 k hk
        exact RTs_of (RTs.fr y (Fr.sI (lo := 1) (hi := 2) (by omega) (by omega)) (by omega)) (fun x hx => updf_ne (by omega))
    refine STEP.chg (V' := updf V 44 w) (o' := o') (m' := svM m) (W' := svW m W V) (len' := len) (b' := b) (v := V 44) (τ1 := sI σ1 1 6 (iI w)) hR ⟨Z', save_P hP, hP.2.2⟩ (ok1 ?_) (s2.row G S') (fun c hc => by rw [sI_c (by omega), s3.at (by omega)]) (fun τ hT => ?_)
    · unfold f_X6_set
      simp only [iI_lit, (needA (lo := 50) (hi := 400) hw (by omega) (by omega) σ).1 c2, bx_r, s1, bv_mk, lt_mk, k1]
    · obtain ⟨τ1, t1, t2, t3⟩ := save_R hm6 (hT.s0 (w := iI 0))
      have r1 := t2.1 44 (by omega)
      refine ⟨sI τ1 226 44 (iI w), ?_, t2.row (Fr.sI (by omega) (by omega)) t2.1.up, fun c hc => ?_, t3.2.2, ?_⟩
      · unfold f_X7_set f_X7_set_b18 f_X7_puts
        simp (disch := omega) only [iI_lit, ofNat_iI, iI_add, iI_sub, iI_mul, iI_neg, iI_lt_t, iI_lt_f, iI_le_t, iI_le_f, iI_eq_t, iI_eq_f, iI_div, rm_iI, tc_iI, inB_iI, nz_iI, is01_0, is01_1, gd_tt, bd_mk, bv_mk, oc_mk, lt_mk, Bool.false_eq_true, ↓reduceIte, (inG (lo := 50) (hi := 400) hw (by omega) (by omega) τ).1 c2, holds_0, t1, Int.reduceToNat, r1]
      · rw [sI_c (by omega), t3.1 c (by omega) (by omega), sI_c (by omega)]
      · rw [sI_c (by omega), t3.2.1 0 (by omega), sI_hit]; rfl
  · refine STEP.fail (r := 1) hI (.inl rfl) (er1 ?_) ?_
    · unfold f_X6_set
      simp only [iI_lit, (needA (lo := 50) (hi := 400) hw (by omega) (by omega) σ).2 c2, bx_l]
    · unfold f_X7_set f_X7_set_b18
      simp (disch := omega) only [iI_lit, ofNat_iI, iI_add, iI_sub, iI_mul, iI_neg, iI_lt_t, iI_lt_f, iI_le_t, iI_le_f, iI_eq_t, iI_eq_f, iI_div, rm_iI, tc_iI, inB_iI, nz_iI, is01_0, is01_1, gd_tt, bd_mk, bv_mk, oc_mk, lt_mk, Bool.false_eq_true, ↓reduceIte, (inG (lo := 50) (hi := 400) hw (by omega) (by omega) σ).2 c2, holds_1]
theorem s_forget (hP : IP V m W len b) (hC : IC σ V o m W len b) (hR : IR σ V m W len b) : STEP σ (f_L_forget σ) f_X7_forget := by
  have hI : INV σ := ⟨V, o, m, W, len, b, hP, hC, hR⟩
  have hm6 := hC.2.1.2.2.2.1
  have hk5 := hP.1.1.2.2.1
  obtain ⟨n, hn, hn10⟩ := hP.n
  have z0 : σ.1 1 0 = iI (n : Int) := by rw [hC.1.1, hn]
  by_cases c1 : n = 0
  · refine STEP.fail (r := 1) hI (.inl rfl) (er1 ?_) ?_
    · unfold f_X6_forget
      simp (disch := omega) only [iI_lit, ofNat_iI, iI_add, iI_sub, iI_mul, iI_neg, iI_lt_t, iI_lt_f, iI_le_t, iI_le_f, iI_eq_t, iI_eq_f, iI_div, rm_iI, tc_iI, inB_iI, nz_iI, is01_0, is01_1, gd_tt, bd_mk, bv_mk, oc_mk, lt_mk, Bool.false_eq_true, ↓reduceIte, z0, c1]
    · have z1 := hR.z hn
      unfold f_X7_forget f_X7_forget_b15
      simp (disch := omega) only [iI_lit, ofNat_iI, iI_add, iI_sub, iI_mul, iI_neg, iI_lt_t, iI_lt_f, iI_le_t, iI_le_f, iI_eq_t, iI_eq_f, iI_div, rm_iI, tc_iI, inB_iI, nz_iI, is01_0, is01_1, gd_tt, bd_mk, bv_mk, oc_mk, lt_mk, Bool.false_eq_true, ↓reduceIte, Int.reduceToNat, z1, c1, holds_1]
  · obtain ⟨σ1, o', s1, s2, s3⟩ := save_C hP hC
    have k1 := s2.1.1
    rw [hn] at k1
    have G : Fr 1 20 σ1 (sI σ1 1 0 (iI ((n : Int) - 1))) := Fr.sI (by omega) (by omega)
    have Z' : IZ (updf V 0 ((n : Int) - 1)) := by
      refine IZ_f hP.1 (fun k hk => updf_ne (by omega)) (by rw [updf_at]; omega) (fun g hg => ?_)
      rw [updf_at] at hg
      have z := hP.1.1.2.2.2.2.1 g (by omega)
      unfold IF at z ⊢
      rw [updf_ne (show 1 + 4 * g ≠ 0 by omega), updf_ne (show 2 + 4 * g ≠ 0 by omega), updf_ne (show 3 + 4 * g ≠ 0 by omega), updf_ne (show 4 + 4 * g ≠ 0 by omega)]
      exact z
    have S' : RS (sI σ1 1 0 (iI ((n : Int) - 1))) 1 (updf V 0 ((n : Int) - 1)) := by
      obtain ⟨q1, q2, q3, q4, q5, q6⟩ := s2.1
      refine ⟨?_, ?_, ?_, fun c hc => ?_, fun g hg => ?_, fun k hk => ?_⟩
      · rw [sI_hit, updf_at]
      · rw [sI_k (by omega), updf_ne (by omega)]; exact q2
      · rw [sI_k (by omega), updf_ne (by omega)]; exact q3
      · rw [sI_c (by omega), updf_ne (by omega)]; exact q4 c hc
      · rw [updf_at] at hg
        obtain ⟨t1, t2, t3, t4⟩ := q5 g (by omega)
        refine ⟨?_, ?_, ?_, ?_⟩
        · rw [sI_c (by omega), updf_ne (by omega)]; exact t1
        · rw [sI_c (by omega), updf_ne (by omega)]; exact t2
        · rw [sI_c (by omega), updf_ne (by omega)]; exact t3
        · rw [sI_c (by omega), updf_ne (by omega)]; exact t4
      · rw [updf_ne (by omega)] at hk
        have y : RTs σ1 k V k := q6 k hk
        exact RTs_of (RTs.fr y (Fr.sI (lo := 1) (hi := 2) (by omega) (by omega)) (by omega)) (fun x hx => updf_ne (by omega))
    refine STEP.chg (V' := updf V 0 ((n : Int) - 1)) (o' := o') (m' := svM m) (W' := svW m W V) (len' := len) (b' := b) (v := (n : Int) - 1) (τ1 := sI σ1 1 0 (iI ((n : Int) - 1))) hR ⟨Z', save_P hP, hP.2.2⟩ (ok1 ?_) (s2.row G S') (fun c hc => by rw [sI_c (by omega), s3.at (by omega)]) (fun τ hT => ?_)
    · unfold f_X6_forget
      simp (disch := omega) only [iI_lit, ofNat_iI, iI_add, iI_sub, iI_mul, iI_neg, iI_lt_t, iI_lt_f, iI_le_t, iI_le_f, iI_eq_t, iI_eq_f, iI_div, rm_iI, tc_iI, inB_iI, nz_iI, is01_0, is01_1, gd_tt, bd_mk, bv_mk, oc_mk, lt_mk, Bool.false_eq_true, ↓reduceIte, z0, s1, k1, sI_hit]
    · obtain ⟨τ1, t1, t2, t3⟩ := save_R hm6 (hT.s0 (w := iI 0))
      have r1 := t2.z hn
      have r2 := hT.z hn
      refine ⟨sI τ1 226 0 (iI ((n : Int) - 1)), ?_, t2.row (Fr.sI (by omega) (by omega)) t2.1.up, fun c hc => ?_, t3.2.2, ?_⟩
      · unfold f_X7_forget f_X7_forget_b15
        simp (disch := omega) only [iI_lit, ofNat_iI, iI_add, iI_sub, iI_mul, iI_neg, iI_lt_t, iI_lt_f, iI_le_t, iI_le_f, iI_eq_t, iI_eq_f, iI_div, rm_iI, tc_iI, inB_iI, nz_iI, is01_0, is01_1, gd_tt, bd_mk, bv_mk, oc_mk, lt_mk, Bool.false_eq_true, ↓reduceIte, Int.reduceToNat, r2, holds_0, t1, r1, sI_hit]
      · rw [sI_c (by omega), t3.1 c (by omega) (by omega), sI_c (by omega)]
      · rw [sI_c (by omega), t3.2.1 0 (by omega), sI_hit]; rfl
theorem s_carve {y c : Int} (hy : -2147483648 ≤ y ∧ y < 2147483648) (hc : -2147483648 ≤ c ∧ c < 2147483648) (hP : IP V m W len b) (hC : IC σ V o m W len b) (hR : IR σ V m W len b) : STEP σ (f_L_carve (iI y) (iI c) σ) (f_X7_carve (iI y) (iI c)) := by
  have hI : INV σ := ⟨V, o, m, W, len, b, hP, hC, hR⟩
  have hm6 := hC.2.1.2.2.2.1
  have hk5 := hP.1.1.2.2.1
  by_cases c2 : 0 ≤ y ∧ y ≤ 999
  · by_cases c1 : 0 ≤ c ∧ c ≤ 2
    · obtain ⟨k, rfl⟩ : ∃ k : Nat, c = (k : Int) := ⟨c.toNat, by omega⟩
      have hk3 : k < 3 := by omega
      obtain ⟨σ1, o', s1, s2, s3⟩ := save_C hP hC
      obtain ⟨σ2, x1, x2, x3⟩ := reckon_v (a0 := 139) (y := y) rk_139 (by omega) hP.1.1 s2.1 c2 (SL_b hP.1.1 hk3)
      have C2 := s2.fr x2 (by omega)
      obtain ⟨σ3, y1, y2, y3⟩ := addC (y := y) (c := k) (N := Nt V y (SL V k)) hP.1.1 C2.1 (fun f hf => x3.2 f hf)
      have Z' : IZ (crv V y k (Nt V y (SL V k))) := crv_IZ hP.1 c2 hk3 (Nt_b V y (SL V k))
      have h45 := sh45 hk5
      have w1 := notchesC (k := 0) Z'.1 y3 (by rw [crv_x (by omega)]; omega)
      have w1 : f_X5_notchesOfStick 1 (iI 0) σ3 = some (iI (ntS (crv V y k (Nt V y (SL V k))) 0), σ3) := w1
      have e1 : ((k : Int)).toNat = k := by omega
      have k1 := at_in (c := 10) (N := 3) rfl (by omega) (i := (k : Int)) (σ := σ1) (by omega) (by omega)
      rw [e1, show σ1.1 (10 + 1) k = iI (SL V k) from s2.1.2.2.2.1 k hk3] at k1
      refine STEP.chg (V' := crv V y k (Nt V y (SL V k))) (o' := o') (m' := svM m) (W' := svW m W V) (len' := len) (b' := b) (v := ntS (crv V y k (Nt V y (SL V k))) 0) (τ1 := σ3) hR ⟨Z', save_P hP, hP.2.2⟩ (ok1 ?_) (C2.row y2 y3) (fun d hd => by rw [y2.at (by omega), x2.at (by omega), s3.at (by omega)]) (fun τ hT => ?_)
      · unfold f_X6_carve
        simp only [iI_lit, (needYear_v hy σ).1 c2, bx_r, (needCarver_v hc σ).1 c1, s1, bv_mk, k1, bd_mk, x1, y1, w1]
      · obtain ⟨τ1, t1, t2, t3⟩ := save_R hm6 (hT.s0 (w := iI 0))
        obtain ⟨τ2, u1, u2, u3⟩ := carve35 (y := iI y) (c := iI (k : Int)) t2.1 hk5
        obtain ⟨τ3, v1, v2, v3⟩ := carve92 (y := y) (c := k) hP.1 c2 hk3 u3
        have F : ∀ d, (d < 226 ∨ (226 < d ∧ d < 229) ∨ 232 ≤ d) → τ3.1 d = τ1.1 d := by
          intro d hd
          exact (v2.1 d hd).trans ((u2.fg (by omega)).1 d hd)
        refine ⟨τ3, ?_, ⟨v3, ⟨?_, fun j hj i hi => ?_⟩, ?_, fun i hi => ?_⟩, fun d hd => ?_, ?_, ?_⟩
        · unfold f_X7_carve f_X7_carve_b20
          simp (disch := omega) only [iI_lit, ofNat_iI, iI_add, iI_sub, iI_mul, iI_neg, iI_lt_t, iI_lt_f, iI_le_t, iI_le_f, iI_eq_t, iI_eq_f, iI_div, rm_iI, tc_iI, inB_iI, nz_iI, is01_0, is01_1, gd_tt, bd_mk, bv_mk, oc_mk, lt_mk, Bool.false_eq_true, ↓reduceIte, (isYear_v hy τ).1 c2, (isCarver_v hc τ).1 c1, holds_0, t1]
          exact u1.trans v1
        · rw [F 225 (by omega)]; exact t2.2.1.1
        · rw [F 227 (by omega)]; exact t2.2.1.2 j hj i hi
        · rw [F 225 (by omega)]; exact t2.2.2.1
        · rw [F 228 (by omega)]; exact t2.2.2.2 i hi
        · rw [F d (by omega), t3.1 d (by omega) (by omega), sI_c (by omega)]
        · rw [v2.2, u2.2]; exact t3.2.2
        · rw [F 225 (by omega), t3.2.1 0 (by omega), sI_hit]; rfl
    · refine STEP.fail (r := 1) hI (.inl rfl) (er1 ?_) ?_
      · unfold f_X6_carve
        simp only [(needYear_v hy σ).1 c2, bx_r, (needCarver_v hc σ).2 c1, bx_l]
      · unfold f_X7_carve f_X7_carve_b19 f_X7_carve_b20
        simp (disch := omega) only [iI_lit, ofNat_iI, iI_add, iI_sub, iI_mul, iI_neg, iI_lt_t, iI_lt_f, iI_le_t, iI_le_f, iI_eq_t, iI_eq_f, iI_div, rm_iI, tc_iI, inB_iI, nz_iI, is01_0, is01_1, gd_tt, bd_mk, bv_mk, oc_mk, lt_mk, Bool.false_eq_true, ↓reduceIte, (isYear_v hy σ).1 c2, (isCarver_v hc σ).2 c1, holds_1]
  · refine STEP.fail (r := 1) hI (.inl rfl) (er1 ?_) ?_
    · unfold f_X6_carve
      simp only [(needYear_v hy σ).2 c2, bx_l]
    · unfold f_X7_carve f_X7_carve_b19 f_X7_carve_b20
      simp (disch := omega) only [iI_lit, ofNat_iI, iI_add, iI_sub, iI_mul, iI_neg, iI_lt_t, iI_lt_f, iI_le_t, iI_le_f, iI_eq_t, iI_eq_f, iI_div, rm_iI, tc_iI, inB_iI, nz_iI, is01_0, is01_1, gd_tt, bd_mk, bv_mk, oc_mk, lt_mk, Bool.false_eq_true, ↓reduceIte, (isYear_v hy σ).2 c2, holds_1]
end CHG
