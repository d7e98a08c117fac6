/-! saved states -/
theorem rowCopy {c d N : Nat} (hA : aln (c + 1) = N) (hB : aln (d + 1) = N) (hN : N < 2000) (hcd : c ≠ d) (σ : St) : ∃ τ, f_X4_copyFrom c d σ = some τ ∧ Fr (c + 1) (c + 2) σ τ ∧ ∀ j : Nat, j < N → τ.1 (c + 1) j = σ.1 (d + 1) j := by
  have H := wlp (F := fun g (s : Nat × St) => f_X4_copyFrom_l2 g c d (iI (s.1 : Int)) s.2) (X := fun τ => some τ) (fun s => N - s.1) (fun s => s.1 ≤ N ∧ Fr (c + 1) (c + 2) σ s.2 ∧ ∀ j : Nat, j < s.1 → s.2.1 (c + 1) j = σ.1 (d + 1) j) (fun τ => Fr (c + 1) (c + 2) σ τ ∧ ∀ j : Nat, j < N → τ.1 (c + 1) j = σ.1 (d + 1) j) (by
    rintro g ⟨i, τ⟩ ⟨h0, hF, hv⟩
    simp only at h0 hv hF
    rcases (show i = N ∨ i < N by omega) with h | h
    · refine .inl ⟨τ, ⟨hF, fun j hj => hv j (by omega)⟩, ?_⟩
      show f_X4_copyFrom_b2 _ _ _ _ _ = _
      unfold f_X4_copyFrom_b2
      simp (disch := omega) only [iI_lit, ofNat_iI, iI_add, iI_sub, iI_mul, iI_neg, iI_lt_t, iI_lt_f, iI_le_t, iI_le_f, iI_eq_t, iI_eq_f, iI_div, rm_iI, tc_iI, inB_iI, nz_iI, is01_0, is01_1, gd_tt, bd_mk, bv_mk, oc_mk, lt_mk, Bool.false_eq_true, ↓reduceIte, hA]
    · right
      have k1 := at_in (c := d) (N := N) hB (by omega) (i := (i : Int)) (σ := τ) (by omega) (by omega)
      have e0 : ((i : Int)).toNat = i := by omega
      have e1 : (i : Int) + 1 = ((i + 1 : Nat) : Int) := by omega
      rw [e0, hF.at (by omega)] at k1
      refine ⟨(i + 1, sI τ (c + 1) i (σ.1 (d + 1) i)), ⟨by simp only; omega, hF.tr (Fr.sI (by omega) (by omega)), fun j hj => ?_⟩, by simp only; omega, ?_⟩
      · simp only at hj ⊢
        by_cases hk : j = i
        · rw [hk, sI_hit]
        · rw [sI_k hk]; exact hv j (by omega)
      · show f_X4_copyFrom_b2 _ _ _ _ _ = _
        unfold f_X4_copyFrom_b2
        simp (disch := omega) only [iI_lit, ofNat_iI, iI_add, iI_sub, iI_mul, iI_neg, iI_lt_t, iI_lt_f, iI_le_t, iI_le_f, iI_eq_t, iI_eq_f, iI_div, rm_iI, tc_iI, inB_iI, nz_iI, is01_0, is01_1, gd_tt, bd_mk, bv_mk, oc_mk, lt_mk, Bool.false_eq_true, ↓reduceIte, hA, k1, e0, e1])
  obtain ⟨τ, ⟨h1, h2⟩, h3⟩ := H FU (0, σ) ⟨by simp, Fr.rfl, fun j hj => by simp only at hj; omega⟩ (by simp only [FU]; omega)
  exact ⟨τ, h3, h1, h2⟩
/-- the shape of a state's cells -/
def SK (a : Nat) : Prop := aln (a + 1 + 1) = 10 ∧ aln (a + 3 + 1) = 10 ∧ aln (a + 5 + 1) = 10 ∧ aln (a + 7 + 1) = 10 ∧ aln (a + 9 + 1) = 3 ∧ aln (a + 11 + 1) = 5 ∧ aln (a + 13 + 1) = 5 ∧ aln (a + 15 + 1) = 5 ∧ aln (a + 17 + 1) = 50
theorem sk_1 : SK 1 := by unfold SK; decide +kernel
theorem sk_r : ∀ k, k < 6 → SK (22 + 19 * k) ∧ kd (22 + 19 * k) = 5 := by unfold SK; decide +kernel
theorem stateCopy {a d : Nat} {V : Nat → Int} {σ : St} (hA : SK a) (hD : SK d) (hI : IV V) (hS : RS σ d V) (hc : a + 19 ≤ d ∨ d + 19 ≤ a) : ∃ τ, f_X5_copyFrom a d σ = some τ ∧ Fr a (a + 19) σ τ ∧ RS τ a V := by
  obtain ⟨a1, a2, a3, a4, a5, a6, a7, a8, a9⟩ := hA
  obtain ⟨d1, d2, d3, d4, d5, d6, d7, d8, d9⟩ := hD
  obtain ⟨s1, s2, s3, s4, s5, s6⟩ := hS
  have hn10 := hI.1
  have hk5 := hI.2.2.1
  obtain ⟨t0, ht0⟩ : ∃ t0, t0 = sI σ a 0 (σ.1 d 0) := ⟨_, rfl⟩
  have G0 : Fr a (a + 1) σ t0 := by rw [ht0]; exact Fr.sI (by omega) (by omega)
  obtain ⟨t1, E1, G1, P1⟩ := rowCopy (c := a + 1) (d := d + 1) a1 d1 (by omega) (by omega) t0
  obtain ⟨t2, E2, G2, P2⟩ := rowCopy (c := a + 3) (d := d + 3) a2 d2 (by omega) (by omega) t1
  obtain ⟨t3, E3, G3, P3⟩ := rowCopy (c := a + 5) (d := d + 5) a3 d3 (by omega) (by omega) t2
  obtain ⟨t4, E4, G4, P4⟩ := rowCopy (c := a + 7) (d := d + 7) a4 d4 (by omega) (by omega) t3
  obtain ⟨t5, E5, G5, P5⟩ := rowCopy (c := a + 9) (d := d + 9) a5 d5 (by omega) (by omega) t4
  obtain ⟨t6, ht6⟩ : ∃ t6, t6 = sI t5 a 6 (t5.1 d 6) := ⟨_, rfl⟩
  have G6 : Fr a (a + 1) t5 t6 := by rw [ht6]; exact Fr.sI (by omega) (by omega)
  obtain ⟨t7, ht7⟩ : ∃ t7, t7 = sI t6 a 7 (t6.1 d 7) := ⟨_, rfl⟩
  have G7 : Fr a (a + 1) t6 t7 := by rw [ht7]; exact Fr.sI (by omega) (by omega)
  obtain ⟨t8, E8, G8, P8⟩ := rowCopy (c := a + 11) (d := d + 11) a6 d6 (by omega) (by omega) t7
  obtain ⟨t9, E9, G9, P9⟩ := rowCopy (c := a + 13) (d := d + 13) a7 d7 (by omega) (by omega) t8
  obtain ⟨u1, E10, G10, P10⟩ := rowCopy (c := a + 15) (d := d + 15) a8 d8 (by omega) (by omega) t9
  obtain ⟨u2, E11, G11, P11⟩ := rowCopy (c := a + 17) (d := d + 17) a9 d9 (by omega) (by omega) u1
  have HF : Fr a (a + 19) σ u2 := (((((((((((G0.mo (by omega) (by omega)).tr (G1.mo (by omega) (by omega))).tr (G2.mo (by omega) (by omega))).tr (G3.mo (by omega) (by omega))).tr (G4.mo (by omega) (by omega))).tr (G5.mo (by omega) (by omega))).tr (G6.mo (by omega) (by omega))).tr (G7.mo (by omega) (by omega))).tr (G8.mo (by omega) (by omega))).tr (G9.mo (by omega) (by omega))).tr (G10.mo (by omega) (by omega))).tr (G11.mo (by omega) (by omega))
  refine ⟨u2, ?_, HF, ?_, ?_, ?_, fun c h3 => ?_, fun f hf => ⟨?_, ?_, ?_, ?_⟩, fun k hk => ⟨?_, ?_, ?_, fun f hf => ?_⟩⟩
  · unfold f_X5_copyFrom
    simp only [lt_mk, ← ht0, E1, bv_mk, E2, E3, E4, E5, ← ht6, ← ht7, E8, E9, E10, E11]
  · rw [G11.at (by omega), G10.at (by omega), G9.at (by omega), G8.at (by omega), ht7, sI_k (by omega), ht6, sI_k (by omega), G5.at (by omega), G4.at (by omega), G3.at (by omega), G2.at (by omega), G1.at (by omega), ht0, sI_hit]
    exact s1
  · rw [G11.at (by omega), G10.at (by omega), G9.at (by omega), G8.at (by omega), ht7, sI_k (by omega), ht6, sI_hit, G5.at (by omega), G4.at (by omega), G3.at (by omega), G2.at (by omega), G1.at (by omega), G0.at (by omega)]
    exact s2
  · rw [G11.at (by omega), G10.at (by omega), G9.at (by omega), G8.at (by omega), ht7, sI_hit, G6.at (by omega), G5.at (by omega), G4.at (by omega), G3.at (by omega), G2.at (by omega), G1.at (by omega), G0.at (by omega)]
    exact s3
  · rw [G11.at (by omega), G10.at (by omega), G9.at (by omega), G8.at (by omega), G7.at (by omega), G6.at (by omega)]
    show t5.1 (a + 9 + 1) c = _
    rw [P5 c h3, G4.at (by omega), G3.at (by omega), G2.at (by omega), G1.at (by omega), G0.at (by omega)]
    exact s4 c h3
  · rw [G11.at (by omega), G10.at (by omega), G9.at (by omega), G8.at (by omega), G7.at (by omega), G6.at (by omega), G5.at (by omega), G4.at (by omega), G3.at (by omega), G2.at (by omega)]
    show t1.1 (a + 1 + 1) f = _
    rw [P1 f (by omega), G0.at (by omega)]
    exact (s5 f hf).1
  · rw [G11.at (by omega), G10.at (by omega), G9.at (by omega), G8.at (by omega), G7.at (by omega), G6.at (by omega), G5.at (by omega), G4.at (by omega), G3.at (by omega)]
    show t2.1 (a + 3 + 1) f = _
    rw [P2 f (by omega), G1.at (by omega), G0.at (by omega)]
    exact (s5 f hf).2.1
  · rw [G11.at (by omega), G10.at (by omega), G9.at (by omega), G8.at (by omega), G7.at (by omega), G6.at (by omega), G5.at (by omega), G4.at (by omega)]
    show t3.1 (a + 5 + 1) f = _
    rw [P3 f (by omega), G2.at (by omega), G1.at (by omega), G0.at (by omega)]
    exact (s5 f hf).2.2.1
  · rw [G11.at (by omega), G10.at (by omega), G9.at (by omega), G8.at (by omega), G7.at (by omega), G6.at (by omega), G5.at (by omega)]
    show t4.1 (a + 7 + 1) f = _
    rw [P4 f (by omega), G3.at (by omega), G2.at (by omega), G1.at (by omega), G0.at (by omega)]
    exact (s5 f hf).2.2.2
  · rw [G11.at (by omega), G10.at (by omega), G9.at (by omega)]
    show t8.1 (a + 11 + 1) k = _
    rw [P8 k (by omega), G7.at (by omega), G6.at (by omega), G5.at (by omega), G4.at (by omega), G3.at (by omega), G2.at (by omega), G1.at (by omega), G0.at (by omega)]
    exact (s6 k hk).1
  · rw [G11.at (by omega), G10.at (by omega)]
    show t9.1 (a + 13 + 1) k = _
    rw [P9 k (by omega), G8.at (by omega), G7.at (by omega), G6.at (by omega), G5.at (by omega), G4.at (by omega), G3.at (by omega), G2.at (by omega), G1.at (by omega), G0.at (by omega)]
    exact (s6 k hk).2.1
  · rw [G11.at (by omega)]
    show u1.1 (a + 15 + 1) k = _
    rw [P10 k (by omega), G9.at (by omega), G8.at (by omega), G7.at (by omega), G6.at (by omega), G5.at (by omega), G4.at (by omega), G3.at (by omega), G2.at (by omega), G1.at (by omega), G0.at (by omega)]
    exact (s6 k hk).2.2.1
  · show u2.1 (a + 17 + 1) (10 * k + f) = _
    rw [P11 (10 * k + f) (by omega), G10.at (by omega), G9.at (by omega), G8.at (by omega), G7.at (by omega), G6.at (by omega), G5.at (by omega), G4.at (by omega), G3.at (by omega), G2.at (by omega), G1.at (by omega), G0.at (by omega)]
    exact (s6 k hk).2.2.2 f hf
/-- the saved states in the class's ring: the oldest at o, m of them -/
def HC (σ : St) (o m : Nat) (W : Nat → Nat → Int) : Prop := σ.1 20 1 = iI (o : Int) ∧ σ.1 20 2 = iI (m : Int) ∧ o < 6 ∧ m ≤ 6 ∧ ∀ j : Nat, j < m → RS σ (22 + 19 * ((o + j) % 6)) (W j)
theorem HC.fr {σ τ : St} {o m lo hi : Nat} {W : Nat → Nat → Int} (h : HC σ o m W) (e : Fr lo hi σ τ) (hc : 136 ≤ lo ∨ hi ≤ 20) : HC τ o m W := by
  obtain ⟨h1, h2, h3, h4, h5⟩ := h
  refine ⟨?_, ?_, h3, h4, fun j hj => (h5 j hj).fr e (by omega)⟩
  · rw [e.at (by omega)]; exact h1
  · rw [e.at (by omega)]; exact h2
def svM (m : Nat) : Nat := if m < 6 then m + 1 else 6
def svW (m : Nat) (W : Nat → Nat → Int) (V : Nat → Int) : Nat → Nat → Int := fun j => if m < 6 then (if j = m then V else W j) else (if j = 5 then V else W (j + 1))
theorem save32 {σ : St} {V : Nat → Int} {o m : Nat} (hI : IV V) (hS : RS σ 1 V) (h1 : σ.1 20 1 = iI (o : Int)) (h2 : σ.1 20 2 = iI (m : Int)) (ho : o < 6) (hm : m < 6) : ∃ τ, f_X1_save_b32 1 σ = some (sI τ 20 2 (iI ((m + 1 : Nat) : Int))) ∧ Fr (22 + 19 * ((o + m) % 6)) (22 + 19 * ((o + m) % 6) + 19) σ τ ∧ RS τ (22 + 19 * ((o + m) % 6)) V := by
  obtain ⟨p, hp⟩ : ∃ p, p = (o + m) % 6 := ⟨_, rfl⟩
  have hp6 : p < 6 := by omega
  rw [← hp]
  obtain ⟨τ, x1, x2, x3⟩ := stateCopy (a := 22 + 19 * p) (d := 1) (sk_r p hp6).1 sk_1 hI hS (by omega)
  refine ⟨τ, ?_, x2, x3⟩
  have e0 : ((o : Int) + (m : Int)) % 6 = (p : Int) := by omega
  have e1 : (p : Int).toNat = p := by omega
  have e2 : (m : Int) + 1 = ((m + 1 : Nat) : Int) := by omega
  have r2 : τ.1 20 2 = iI (m : Int) := by rw [x2.at (by omega)]; exact h2
  unfold f_X1_save_b32 f_X1_stateAt f_X1_save_b50
  simp (disch := omega) only [iI_lit, ofNat_iI, iI_add, iI_sub, iI_mul, iI_neg, iI_lt_t, iI_lt_f, iI_le_t, iI_le_f, iI_eq_t, iI_eq_f, iI_div, rm_iI, tc_iI, inB_iI, nz_iI, is01_0, is01_1, gd_tt, bd_mk, bv_mk, oc_mk, lt_mk, Bool.false_eq_true, ↓reduceIte, h1, h2, e0, e1, isN_t (sk_r p hp6).2, x1, r2, e2]
theorem saveC {σ : St} {V : Nat → Int} {W : Nat → Nat → Int} {o m : Nat} (hI : IV V) (hS : RS σ 1 V) (hH : HC σ o m W) : ∃ τ o', f_X1_save 1 σ = some τ ∧ Fr 20 136 σ τ ∧ HC τ o' (svM m) (svW m W V) := by
  obtain ⟨h1, h2, h3, h4, h5⟩ := id hH
  by_cases c : m < 6
  · obtain ⟨τ, x1, x2, x3⟩ := save32 hI hS h1 h2 h3 c
    have F : Fr 20 136 σ (sI τ 20 2 (iI ((m + 1 : Nat) : Int))) := (x2.mo (by omega) (by omega)).tr (Fr.sI (by omega) (by omega))
    refine ⟨_, o, ?_, F, ?_, ?_, h3, ?_, fun j hj => ?_⟩
    · unfold f_X1_save
      simp (disch := omega) only [iI_lit, ofNat_iI, iI_add, iI_sub, iI_mul, iI_neg, iI_lt_t, iI_lt_f, iI_le_t, iI_le_f, iI_eq_t, iI_eq_f, iI_div, rm_iI, tc_iI, inB_iI, nz_iI, is01_0, is01_1, gd_tt, bd_mk, bv_mk, oc_mk, lt_mk, Bool.false_eq_true, ↓reduceIte, h2, x1]
    · rw [sI_k (by omega), x2.at (by omega)]; exact h1
    · rw [sI_hit]; unfold svM; rw [if_pos c]
    · unfold svM; split <;> omega
    · have hj : j < m + 1 := by unfold svM at hj; rw [if_pos c] at hj; exact hj
      unfold svW
      rw [if_pos c]
      refine RS.fr (lo := 20) (hi := 21) ?_ (Fr.sI (by omega) (by omega)) (by omega)
      by_cases q : j = m
      · rw [if_pos q, q]; exact x3
      · rw [if_neg q]; exact (h5 j (by omega)).fr x2 (by omega)
  · have hm6 : m = 6 := by omega
    subst hm6
    obtain ⟨σ1, hσ1⟩ : ∃ σ1, σ1 = sI (sI σ 20 1 (iI (((o + 1) % 6 : Nat) : Int))) 20 2 (iI ((5 : Nat) : Int)) := ⟨_, rfl⟩
    have F1 : Fr 20 21 σ σ1 := by rw [hσ1]; exact (Fr.sI (by omega) (by omega)).tr (Fr.sI (by omega) (by omega))
    have p1 : σ1.1 20 1 = iI (((o + 1) % 6 : Nat) : Int) := by rw [hσ1, sI_k (by omega), sI_hit]
    have p2 : σ1.1 20 2 = iI ((5 : Nat) : Int) := by rw [hσ1, sI_hit]
    obtain ⟨τ, x1, x2, x3⟩ := save32 (o := (o + 1) % 6) (m := 5) hI (hS.fr F1 (by omega)) p1 p2 (by omega) (by omega)
    have F : Fr 20 136 σ (sI τ 20 2 (iI ((5 + 1 : Nat) : Int))) := (F1.mo (by omega) (by omega)).tr ((x2.mo (by omega) (by omega)).tr (Fr.sI (by omega) (by omega)))
    refine ⟨_, (o + 1) % 6, ?_, F, ?_, ?_, by omega, by decide, fun j hj => ?_⟩
    · unfold f_X1_save
      have e0 : ((o : Int) + 1) % 6 = (((o + 1) % 6 : Nat) : Int) := by omega
      have e1 : ((6 : Nat) : Int) - 1 = ((5 : Nat) : Int) := by omega
      have e2 : (sI σ 20 1 (iI (((o + 1) % 6 : Nat) : Int))).1 20 2 = iI ((6 : Nat) : Int) := by rw [sI_k (by omega)]; exact h2
      simp (disch := omega) only [iI_lit, ofNat_iI, iI_add, iI_sub, iI_mul, iI_neg, iI_lt_t, iI_lt_f, iI_le_t, iI_le_f, iI_eq_t, iI_eq_f, iI_div, rm_iI, tc_iI, inB_iI, nz_iI, is01_0, is01_1, gd_tt, bd_mk, bv_mk, oc_mk, lt_mk, Bool.false_eq_true, ↓reduceIte, h1, h2, e0, e2, e1, ← hσ1, x1]
    · rw [sI_k (by omega), x2.at (by omega)]; exact p1
    · rw [sI_hit]; rfl
    · have hj : j < 6 := hj
      unfold svW
      rw [if_neg c]
      refine RS.fr (lo := 20) (hi := 21) ?_ (Fr.sI (by omega) (by omega)) (by omega)
      by_cases q : j = 5
      · rw [if_pos q, q]; exact x3
      · rw [if_neg q]
        have z := ((h5 (j + 1) (by omega)).fr F1 (by omega)).fr x2 (by omega)
        rw [show ((o + 1) % 6 + j) % 6 = (o + (j + 1)) % 6 by omega]
        exact z
theorem restoreC {σ : St} {W : Nat → Nat → Int} {o m : Nat} (hW : IV (W m)) (hH : HC σ o (m + 1) W) : ∃ τ, f_X1_restoreInto 1 σ = some τ ∧ Fr 1 21 σ τ ∧ RS τ 1 (W m) ∧ HC τ o m W := by
  obtain ⟨h1, h2, h3, h4, h5⟩ := id hH
  obtain ⟨p, hp⟩ : ∃ p, p = (o + m) % 6 := ⟨_, rfl⟩
  have hp6 : p < 6 := by omega
  have e2 : ((m + 1 : Nat) : Int) - 1 = (m : Int) := by omega
  obtain ⟨σ1, hσ1⟩ : ∃ σ1, σ1 = sI σ 20 2 (iI (m : Int)) := ⟨_, rfl⟩
  have F1 : Fr 20 21 σ σ1 := by rw [hσ1]; exact Fr.sI (by omega) (by omega)
  have p1 : σ1.1 20 1 = iI (o : Int) := by rw [hσ1, sI_k (by omega)]; exact h1
  have p2 : σ1.1 20 2 = iI (m : Int) := by rw [hσ1, sI_hit]
  have S1 : RS σ1 (22 + 19 * p) (W m) := by rw [hp]; exact (h5 m (by omega)).fr F1 (by omega)
  obtain ⟨τ, x1, x2, x3⟩ := stateCopy (a := 1) (d := 22 + 19 * p) sk_1 (sk_r p hp6).1 hW S1 (by omega)
  refine ⟨τ, ?_, (F1.mo (by omega) (by omega)).tr (x2.mo (by omega) (by omega)), x3, ?_, ?_, h3, by omega, fun j hj => ?_⟩
  · have e0 : ((o : Int) + (m : Int)) % 6 = (p : Int) := by omega
    have e1 : (p : Int).toNat = p := by omega
    unfold f_X1_restoreInto f_X1_stateAt
    simp (disch := omega) only [iI_lit, ofNat_iI, iI_add, iI_sub, iI_mul, iI_neg, iI_lt_t, iI_lt_f, iI_le_t, iI_le_f, iI_eq_t, iI_eq_f, iI_div, rm_iI, tc_iI, inB_iI, nz_iI, is01_0, is01_1, gd_tt, bd_mk, bv_mk, oc_mk, lt_mk, Bool.false_eq_true, ↓reduceIte, h2, e2, ← hσ1, p1, p2, e0, e1, isN_t (sk_r p hp6).2, x1]
  · rw [x2.at (by omega)]; exact p1
  · rw [x2.at (by omega)]; exact p2
  · exact ((h5 j (by omega)).fr F1 (by omega)).fr x2 (by omega)
