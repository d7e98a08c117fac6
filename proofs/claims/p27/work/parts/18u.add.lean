/-! feasts are added -/
def dayQ (q : Q6) : Int := if q.2.2.2.1 = 0 then q.2.2.1 else -q.2.2.1
def adF (V : Nat → Int) (q : Q6) : Nat → Int := updf (updf (updf (updf (updf V (1 + 4 * (V 0).toNat) q.2.1) (2 + 4 * (V 0).toNat) q.2.2.2.2.2) (3 + 4 * (V 0).toNat) (dayQ q)) (4 + 4 * (V 0).toNat) q.2.2.2.2.1) 0 (V 0 + 1)
def may (V : Nat → Int) (q : Q6) : Prop := V 0 < 10 ∧ (q.2.1 = 3 → q.2.2.2.2.1 < V 0)
theorem adF_0 {V : Nat → Int} {q : Q6} : adF V q 0 = V 0 + 1 := updf_at _ _ _
theorem adF_o {V : Nat → Int} {q : Q6} {k : Nat} (h0 : k ≠ 0) (h : k < 1 + 4 * (V 0).toNat ∨ 4 + 4 * (V 0).toNat < k) : adF V q k = V k := by
  unfold adF
  rw [updf_ne h0, updf_ne (by omega), updf_ne (by omega), updf_ne (by omega), updf_ne (by omega)]
theorem adF_1 {V : Nat → Int} {q : Q6} {k : Nat} (h : k = 1 + 4 * (V 0).toNat) : adF V q k = q.2.1 := by
  unfold adF
  rw [h, updf_ne (by omega), updf_ne (by omega), updf_ne (by omega), updf_ne (by omega), updf_at]
theorem adF_2 {V : Nat → Int} {q : Q6} {k : Nat} (h : k = 2 + 4 * (V 0).toNat) : adF V q k = q.2.2.2.2.2 := by
  unfold adF
  rw [h, updf_ne (by omega), updf_ne (by omega), updf_ne (by omega), updf_at]
theorem adF_3 {V : Nat → Int} {q : Q6} {k : Nat} (h : k = 3 + 4 * (V 0).toNat) : adF V q k = dayQ q := by
  unfold adF
  rw [h, updf_ne (by omega), updf_ne (by omega), updf_at]
theorem adF_4 {V : Nat → Int} {q : Q6} {k : Nat} (h : k = 4 + 4 * (V 0).toNat) : adF V q k = q.2.2.2.2.1 := by
  unfold adF
  rw [h, updf_ne (by omega), updf_at]
/-- states that differ in nothing but feasts -/
theorem IZ_f {V W : Nat → Int} (h : IZ V) (e : ∀ k, 41 ≤ k → W k = V k) (h0 : 0 ≤ W 0 ∧ W 0 ≤ 10) (hf : ∀ f : Nat, (f : Int) < W 0 → IF W f) : IZ W := by
  obtain ⟨⟨i1, i2, i3, i4, i5, i6⟩, hz⟩ := h
  have hk : ∀ k, k < 5 → IK W k := fun k hk => IK_of (hz k hk) (fun x hx => e _ (by omega))
  refine ⟨⟨h0, ?_, ?_, fun c hc => ?_, hf, fun k hk2 => hk k (by rw [e 45 (by omega)] at hk2; omega)⟩, hk⟩
  · rw [e 44 (by omega)]; exact i2
  · rw [e 45 (by omega)]; exact i3
  · rw [e _ (by omega)]; exact i4 c hc
theorem adF_IZ {V : Nat → Int} {q : Q6} (h : IZ V) (hB : RB q) (hE : mayE q) (hm : may V q) : IZ (adF V q) := by
  have hn10 := h.1.1
  obtain ⟨n, hn⟩ : ∃ n : Nat, V 0 = (n : Int) := ⟨(V 0).toNat, by omega⟩
  have hT : (V 0).toNat = n := by omega
  refine IZ_f h (fun k hk => adF_o (by omega) (by have := hm.1; omega)) (by rw [adF_0]; have := hm.1; omega) (fun f hf => ?_)
  rw [adF_0] at hf
  by_cases c : f = n
  · obtain ⟨p, r, nn, m, o, k⟩ := q
    obtain ⟨h1, h2, h3, h4, h5, h6, h7, h8, h9, h10, h11⟩ := RB_x hB
    unfold IF
    rw [adF_1 (by omega), adF_2 (by omega), adF_3 (by omega), adF_4 (by omega)]
    unfold mayE at hE
    unfold may at hm
    simp only at hE hm ⊢
    have hd : -365 ≤ dayQ (p, r, nn, m, o, k) ∧ dayQ (p, r, nn, m, o, k) ≤ 365 ∧ (r ≠ 3 → 0 ≤ dayQ (p, r, nn, m, o, k)) := by
      unfold dayQ
      simp only
      split
      · exact ⟨by omega, by omega, fun _ => by omega⟩
      · exact ⟨by omega, by omega, fun hr => by omega⟩
    refine ⟨by omega, by omega, by omega, by omega, hd.1, hd.2.1, by omega, by omega, hd.2.2, fun hr => by omega, fun hr => ?_⟩
    have := hm.2 hr
    omega
  · have z := h.1.2.2.2.2.1 f (by omega)
    unfold IF at z ⊢
    rw [adF_o (by omega) (by omega), adF_o (by omega) (by omega), adF_o (by omega) (by omega), adF_o (by omega) (by omega)]
    exact z
theorem addReadC {V : Nat → Int} {q : Q6} {σ : St} (hI : IV V) (hS : RS σ 1 V) (hD : RD σ q) (hB : RB q) : ∃ τ x, f_X6_addReadFeast σ = some (iI x, τ) ∧ Fr 1 13 σ τ ∧ ((may V q ∧ x = 1 ∧ RS τ 1 (adF V q)) ∨ (¬ may V q ∧ x = 0 ∧ τ = σ)) := by
  have hn10 := hI.1
  obtain ⟨n, hn⟩ : ∃ n : Nat, V 0 = (n : Int) := ⟨(V 0).toNat, by omega⟩
  have hT : (V 0).toNat = n := by omega
  have m0 := hS.1
  rw [hn] at m0
  obtain ⟨p, r, nn, m, o, k⟩ := q
  obtain ⟨r1, r2, r3, r4, r5, r6⟩ := id hD
  obtain ⟨h1, h2, h3, h4, h5, h6, h7, h8, h9, h10, h11⟩ := RB_x hB
  simp only at r1 r2 r3 r4 r5 r6
  by_cases c : may V (p, r, nn, m, o, k)
  · have c' := c
    unfold may at c'
    simp only at c'
    have e0 : ((n : Int)).toNat = n := by omega
    obtain ⟨t1, g1⟩ : ∃ t1, t1 = sI σ 3 n (iI r) := ⟨_, rfl⟩
    obtain ⟨t2, g2⟩ : ∃ t2, t2 = sI t1 5 n (iI k) := ⟨_, rfl⟩
    obtain ⟨t3, g3⟩ : ∃ t3, t3 = sI t2 7 n (iI (dayQ (p, r, nn, m, o, k))) := ⟨_, rfl⟩
    obtain ⟨t4, g4⟩ : ∃ t4, t4 = sI t3 9 n (iI o) := ⟨_, rfl⟩
    obtain ⟨t5, g5⟩ : ∃ t5, t5 = sI t4 1 0 (iI ((n : Int) + 1)) := ⟨_, rfl⟩
    have G1 : Fr 3 4 σ t1 := by rw [g1]; exact Fr.sI (by omega) (by omega)
    have G2 : Fr 5 6 t1 t2 := by rw [g2]; exact Fr.sI (by omega) (by omega)
    have G3 : Fr 7 8 t2 t3 := by rw [g3]; exact Fr.sI (by omega) (by omega)
    have G4 : Fr 9 10 t3 t4 := by rw [g4]; exact Fr.sI (by omega) (by omega)
    have G5 : Fr 1 2 t4 t5 := by rw [g5]; exact Fr.sI (by omega) (by omega)
    have w1 := put_in (c := 1 + 1) (N := 10) rfl (by omega) (i := (n : Int)) (x := iI r) (σ := σ) (by omega) (by omega)
    have w2 := put_in (c := 1 + 3) (N := 10) rfl (by omega) (i := (n : Int)) (x := iI k) (σ := t1) (by omega) (by omega)
    have w3 := put_in (c := 1 + 5) (N := 10) rfl (by omega) (i := (n : Int)) (x := iI (dayQ (p, r, nn, m, o, k))) (σ := t2) (by omega) (by omega)
    have w4 := put_in (c := 1 + 7) (N := 10) rfl (by omega) (i := (n : Int)) (x := iI o) (σ := t3) (by omega) (by omega)
    rw [e0] at w1 w2 w3 w4
    rw [show sI σ (1 + 1 + 1) n (iI r) = t1 from g1.symm] at w1
    rw [show sI t1 (1 + 3 + 1) n (iI k) = t2 from g2.symm] at w2
    rw [show sI t2 (1 + 5 + 1) n (iI (dayQ (p, r, nn, m, o, k))) = t3 from g3.symm] at w3
    rw [show sI t3 (1 + 7 + 1) n (iI o) = t4 from g4.symm] at w4
    have a10 : t1.1 1 0 = iI (n : Int) := by rw [G1.at (by omega)]; exact m0
    have a14 : t1.1 138 4 = iI k := by rw [G1.at (by omega)]; exact r6
    have a20 : t2.1 1 0 = iI (n : Int) := by rw [G2.at (by omega)]; exact a10
    have a22 : t2.1 138 2 = iI m := by rw [G2.at (by omega), G1.at (by omega)]; exact r4
    have a21 : t2.1 138 1 = iI nn := by rw [G2.at (by omega), G1.at (by omega)]; exact r3
    have a30 : t3.1 1 0 = iI (n : Int) := by rw [G3.at (by omega)]; exact a20
    have a33 : t3.1 138 3 = iI o := by rw [G3.at (by omega), G2.at (by omega), G1.at (by omega)]; exact r5
    have a40 : t4.1 1 0 = iI (n : Int) := by rw [G4.at (by omega)]; exact a30
    have add : f_X5_addFeast 1 138 σ = some t5 := by
      unfold f_X5_addFeast f_X5_addFeast_b57
      unfold dayQ at w3
      simp only at w3
      rcases h4 with c4 | ⟨c4, -⟩
      · rw [if_pos c4] at w3
        simp (disch := omega) only [iI_lit, ofNat_iI, iI_add, iI_sub, iI_mul, iI_neg, iI_lt_t, iI_lt_f, iI_le_t, iI_le_f, iI_eq_t, iI_eq_f, iI_div, rm_iI, tc_iI, inB_iI, nz_iI, is01_0, is01_1, gd_tt, bd_mk, bv_mk, oc_mk, lt_mk, Bool.false_eq_true, ↓reduceIte, m0, r2, w1, a10, a14, w2, a20, a22, a21, c4, w3, a30, a33, w4, a40, ← g5]
      · rw [if_neg (by omega)] at w3
        simp (disch := omega) only [iI_lit, ofNat_iI, iI_add, iI_sub, iI_mul, iI_neg, iI_lt_t, iI_lt_f, iI_le_t, iI_le_f, iI_eq_t, iI_eq_f, iI_div, rm_iI, tc_iI, inB_iI, nz_iI, is01_0, is01_1, gd_tt, bd_mk, bv_mk, oc_mk, lt_mk, Bool.false_eq_true, ↓reduceIte, m0, r2, w1, a10, a14, w2, a20, a22, a21, c4, w3, a30, a33, w4, a40, ← g5]
    have FA : Fr 1 13 σ t5 := ((((G1.mo (by omega) (by omega)).tr (G2.mo (by omega) (by omega))).tr (G3.mo (by omega) (by omega))).tr (G4.mo (by omega) (by omega))).tr (G5.mo (by omega) (by omega))
    refine ⟨t5, 1, ?_, FA, .inl ⟨c, rfl, ?_⟩⟩
    · unfold f_X6_addReadFeast f_X6_addReadFeast_b32 f_X6_addReadFeast_b33
      by_cases c3 : r = 3
      · have := c'.2 c3
        simp (disch := omega) only [iI_lit, ofNat_iI, iI_add, iI_sub, iI_mul, iI_neg, iI_lt_t, iI_lt_f, iI_le_t, iI_le_f, iI_eq_t, iI_eq_f, iI_div, rm_iI, tc_iI, inB_iI, nz_iI, is01_0, is01_1, gd_tt, bd_mk, bv_mk, oc_mk, lt_mk, Bool.false_eq_true, ↓reduceIte, r2, c3, r5, m0, add]
      · simp (disch := omega) only [iI_lit, ofNat_iI, iI_add, iI_sub, iI_mul, iI_neg, iI_lt_t, iI_lt_f, iI_le_t, iI_le_f, iI_eq_t, iI_eq_f, iI_div, rm_iI, tc_iI, inB_iI, nz_iI, is01_0, is01_1, gd_tt, bd_mk, bv_mk, oc_mk, lt_mk, Bool.false_eq_true, ↓reduceIte, r2, r5, m0, add]
    · obtain ⟨s1, s2, s3, s4, s5, s6⟩ := hS
      have b3 : t5.1 3 = t1.1 3 := by rw [G5.at (by omega), G4.at (by omega), G3.at (by omega), G2.at (by omega)]
      have b5 : t5.1 5 = t2.1 5 := by rw [G5.at (by omega), G4.at (by omega), G3.at (by omega)]
      have b7 : t5.1 7 = t3.1 7 := by rw [G5.at (by omega), G4.at (by omega)]
      have b9 : t5.1 9 = t4.1 9 := by rw [G5.at (by omega)]
      have z1 : ∀ j, j ≠ 0 → t5.1 1 j = σ.1 1 j := fun j hj => by rw [g5, sI_k hj, G4.at (by omega), G3.at (by omega), G2.at (by omega), G1.at (by omega)]
      refine ⟨?_, ?_, ?_, fun d hd => ?_, fun f hf => ?_, fun j hj => ?_⟩
      · rw [g5, sI_hit, adF_0, hn]
      · rw [z1 6 (by omega), adF_o (by omega) (by omega)]; exact s2
      · rw [z1 7 (by omega), adF_o (by omega) (by omega)]; exact s3
      · rw [G5.at (by omega), G4.at (by omega), G3.at (by omega), G2.at (by omega), G1.at (by omega), adF_o (by omega) (by omega)]; exact s4 d hd
      · rw [adF_0] at hf
        by_cases q : f = n
        · refine ⟨?_, ?_, ?_, ?_⟩
          · rw [adF_1 (by omega)]
            show t5.1 3 f = _
            rw [b3, g1, q, sI_hit]
          · rw [adF_2 (by omega)]
            show t5.1 5 f = _
            rw [b5, g2, q, sI_hit]
          · rw [adF_3 (by omega)]
            show t5.1 7 f = _
            rw [b7, g3, q, sI_hit]
          · rw [adF_4 (by omega)]
            show t5.1 9 f = _
            rw [b9, g4, q, sI_hit]
        · obtain ⟨y1, y2, y3, y4⟩ := s5 f (by omega)
          refine ⟨?_, ?_, ?_, ?_⟩
          · rw [adF_o (by omega) (by omega)]
            show t5.1 3 f = _
            rw [b3, g1, sI_k q]; exact y1
          · rw [adF_o (by omega) (by omega)]
            show t5.1 5 f = _
            rw [b5, g2, sI_k q, G1.at (by omega)]; exact y2
          · rw [adF_o (by omega) (by omega)]
            show t5.1 7 f = _
            rw [b7, g3, sI_k q, G2.at (by omega), G1.at (by omega)]; exact y3
          · rw [adF_o (by omega) (by omega)]
            show t5.1 9 f = _
            rw [b9, g4, sI_k q, G3.at (by omega), G2.at (by omega), G1.at (by omega)]; exact y4
      · rw [adF_o (by omega) (by omega)] at hj
        have y : RTs σ j V j := s6 j hj
        have y5 : RTs t5 j V j := by
          unfold RTs
          rw [FA.at (by omega), FA.at (by omega), FA.at (by omega), FA.at (by omega)]; exact y
        exact RTs_of y5 (fun x hx => adF_o (by omega) (by omega))
  · refine ⟨σ, 0, ?_, Fr.rfl, .inr ⟨c, rfl, rfl⟩⟩
    unfold may at c
    simp only at c
    unfold f_X6_addReadFeast f_X6_addReadFeast_b32 f_X6_addReadFeast_b33
    by_cases c1 : V 0 < 10
    · have c3 : r = 3 := by
        by_cases q : r = 3
        · exact q
        · exact absurd ⟨c1, fun q' => absurd q' q⟩ c
      have c4 : ¬ o < V 0 := fun q => c ⟨c1, fun _ => q⟩
      simp (disch := omega) only [iI_lit, ofNat_iI, iI_add, iI_sub, iI_mul, iI_neg, iI_lt_t, iI_lt_f, iI_le_t, iI_le_f, iI_eq_t, iI_eq_f, iI_div, rm_iI, tc_iI, inB_iI, nz_iI, is01_0, is01_1, gd_tt, bd_mk, bv_mk, oc_mk, lt_mk, Bool.false_eq_true, ↓reduceIte, r2, c3, r5, m0]
    · by_cases c3 : r = 3
      · by_cases c4 : o < V 0
        · simp (disch := omega) only [iI_lit, ofNat_iI, iI_add, iI_sub, iI_mul, iI_neg, iI_lt_t, iI_lt_f, iI_le_t, iI_le_f, iI_eq_t, iI_eq_f, iI_div, rm_iI, tc_iI, inB_iI, nz_iI, is01_0, is01_1, gd_tt, bd_mk, bv_mk, oc_mk, lt_mk, Bool.false_eq_true, ↓reduceIte, r2, c3, r5, m0]
        · simp (disch := omega) only [iI_lit, ofNat_iI, iI_add, iI_sub, iI_mul, iI_neg, iI_lt_t, iI_lt_f, iI_le_t, iI_le_f, iI_eq_t, iI_eq_f, iI_div, rm_iI, tc_iI, inB_iI, nz_iI, is01_0, is01_1, gd_tt, bd_mk, bv_mk, oc_mk, lt_mk, Bool.false_eq_true, ↓reduceIte, r2, c3, r5, m0]
      · simp (disch := omega) only [iI_lit, ofNat_iI, iI_add, iI_sub, iI_mul, iI_neg, iI_lt_t, iI_lt_f, iI_le_t, iI_le_f, iI_eq_t, iI_eq_f, iI_div, rm_iI, tc_iI, inB_iI, nz_iI, is01_0, is01_1, gd_tt, bd_mk, bv_mk, oc_mk, lt_mk, Bool.false_eq_true, ↓reduceIte, r2, r5, m0]
