/-! a stick is carved -/
/-- all sticks one place on, the first place free -/
def shV (V : Nat → Int) : Nat → Int := fun k => if k = 45 then (if V 45 < 5 then V 45 + 1 else V 45) else if 59 ≤ k then V (k - 13) else V k
def crv (V : Nat → Int) (y : Int) (c : Nat) (N : Nat → Int) : Nat → Int := fun k => if k = 46 then y else if k = 47 then (c : Int) else if k = 48 then V 0 else if 49 ≤ k ∧ k < 59 then N (k - 49) else shV V k
theorem shV_lo {V : Nat → Int} {k : Nat} (h1 : k ≠ 45) (h2 : k < 59) : shV V k = V k := by
  unfold shV
  rw [if_neg h1, if_neg (by omega)]
theorem shV_hi {V : Nat → Int} {k : Nat} (h2 : 59 ≤ k) : shV V k = V (k - 13) := by
  unfold shV
  rw [if_neg (by omega), if_pos h2]
theorem shV_45 {V : Nat → Int} : shV V 45 = if V 45 < 5 then V 45 + 1 else V 45 := if_pos rfl
theorem crv_x {V : Nat → Int} {y : Int} {c : Nat} {N : Nat → Int} {k : Nat} (h : k < 46 ∨ 59 ≤ k) : crv V y c N k = shV V k := by
  unfold crv
  rw [if_neg (by omega), if_neg (by omega), if_neg (by omega), if_neg (by omega)]
theorem crv_46 {V : Nat → Int} {y : Int} {c : Nat} {N : Nat → Int} : crv V y c N 46 = y := rfl
theorem crv_47 {V : Nat → Int} {y : Int} {c : Nat} {N : Nat → Int} : crv V y c N 47 = (c : Int) := rfl
theorem crv_48 {V : Nat → Int} {y : Int} {c : Nat} {N : Nat → Int} : crv V y c N 48 = V 0 := rfl
theorem crv_N {V : Nat → Int} {y : Int} {c : Nat} {N : Nat → Int} {f : Nat} (h : f < 10) : crv V y c N (49 + f) = N f := by
  unfold crv
  rw [if_neg (by omega), if_neg (by omega), if_neg (by omega), if_pos (by omega), show 49 + f - 49 = f by omega]
theorem sh45 {V : Nat → Int} (h : 0 ≤ V 45 ∧ V 45 ≤ 5) : 1 ≤ shV V 45 ∧ shV V 45 ≤ 5 ∧ shV V 45 ≤ V 45 + 1 := by
  rw [shV_45]; split <;> omega
theorem shV_IZ {V : Nat → Int} (h : IZ V) : IZ (shV V) := by
  have h5 := h.1.2.2.1
  have h6 := sh45 h5
  refine IZ_of h (fun k hk => shV_lo (by omega) (by omega)) (by omega) (fun k hk => ?_)
  rcases (show k = 0 ∨ 1 ≤ k by omega) with c | c
  · exact IK_of (h.2 k hk) (fun x hx => shV_lo (by omega) (by omega))
  · exact IK_of (h.2 (k - 1) (by omega)) (fun x hx => by rw [shV_hi (by omega)]; congr 1; omega)
theorem crv_IZ {V : Nat → Int} {y : Int} {c : Nat} {N : Nat → Int} (h : IZ V) (hy : 0 ≤ y ∧ y ≤ 999) (hc : c < 3) (hN : ∀ f, -1 ≤ N f ∧ N f ≤ 365) : IZ (crv V y c N) := by
  have h5 := h.1.2.2.1
  have h6 := sh45 h5
  have hn10 := h.1.1
  refine IZ_of (shV_IZ h) (fun k hk => crv_x (by omega)) (by rw [crv_x (by omega)]; omega) (fun k hk => ?_)
  rcases (show k = 0 ∨ 1 ≤ k by omega) with q | q
  · subst q
    refine ⟨by rw [crv_46]; exact hy.1, by rw [crv_46]; exact hy.2, by rw [crv_47]; omega, by rw [crv_47]; omega, by rw [crv_48]; exact hn10.1, by rw [crv_48]; exact hn10.2, fun f hf => ?_⟩
    rw [show 49 + 13 * 0 + f = 49 + f by omega, crv_N hf]; exact hN f
  · exact IK_of ((shV_IZ h).2 k hk) (fun x hx => crv_x (by omega))
theorem addC {V : Nat → Int} {y : Int} {c : Nat} {N : Nat → Int} {σ : St} (hI : IV V) (hS : RS σ 1 V) (hN : ∀ f : Nat, f < 10 → σ.1 143 f = iI (N f)) : ∃ τ, f_X5_addStick 1 (iI y) (iI (c : Int)) 142 σ = some τ ∧ Fr 1 20 σ τ ∧ RS τ 1 (crv V y c N) := by
  have h5 := hI.2.2.1
  have h6 := sh45 h5
  obtain ⟨m, hm⟩ : ∃ m : Nat, V 45 = (m : Int) := ⟨(V 45).toNat, by omega⟩
  obtain ⟨q, hq⟩ : ∃ q : Nat, shV V 45 = ((q + 1 : Nat) : Int) := ⟨(shV V 45 - 1).toNat, by omega⟩
  have s7 := hS.2.2.1
  rw [hm] at s7
  -- the number
  obtain ⟨σ1, hE, F0, p7⟩ : ∃ σ1, f_X5_addStick 1 (iI y) (iI (c : Int)) 142 σ = f_X5_addStick_l26 FU 1 (iI y) (iI (c : Int)) 142 (iI (q : Int)) σ1 ∧ Fr 1 2 σ (sI σ1 1 7 (iI 0)) ∧ (σ1.1 1 7 = iI ((q + 1 : Nat) : Int) ∧ σ1.1 1 0 = σ.1 1 0 ∧ σ1.1 1 6 = σ.1 1 6 ∧ Fr 1 2 σ σ1) := by
    rw [shV_45] at hq
    by_cases c5 : V 45 < 5
    · rw [if_pos c5] at hq
      have e1 : (m : Int) + 1 = ((q + 1 : Nat) : Int) := by omega
      have e2 : ((q + 1 : Nat) : Int) - 1 = (q : Int) := by omega
      have z : (sI σ 1 7 (iI ((q + 1 : Nat) : Int))).1 1 7 = iI ((q + 1 : Nat) : Int) := sI_hit _ _ _ _
      refine ⟨sI σ 1 7 (iI ((q + 1 : Nat) : Int)), ?_, (Fr.sI (by omega) (by omega)).tr (Fr.sI (by omega) (by omega)), sI_hit _ _ _ _, sI_k (by omega), sI_k (by omega), Fr.sI (by omega) (by omega)⟩
      unfold f_X5_addStick
      simp (disch := omega) only [iI_lit, ofNat_iI, iI_add, iI_sub, iI_mul, iI_neg, iI_lt_t, iI_lt_f, iI_le_t, iI_le_f, iI_eq_t, iI_eq_f, iI_div, rm_iI, tc_iI, inB_iI, nz_iI, is01_0, is01_1, gd_tt, bd_mk, bv_mk, oc_mk, lt_mk, Bool.false_eq_true, ↓reduceIte, s7, e1, z, e2]
    · rw [if_neg c5] at hq
      have e2 : (m : Int) - 1 = (q : Int) := by omega
      refine ⟨σ, ?_, Fr.sI (by omega) (by omega), ?_, rfl, rfl, Fr.rfl⟩
      · unfold f_X5_addStick
        simp (disch := omega) only [iI_lit, ofNat_iI, iI_add, iI_sub, iI_mul, iI_neg, iI_lt_t, iI_lt_f, iI_le_t, iI_le_f, iI_eq_t, iI_eq_f, iI_div, rm_iI, tc_iI, inB_iI, nz_iI, is01_0, is01_1, gd_tt, bd_mk, bv_mk, oc_mk, lt_mk, Bool.false_eq_true, ↓reduceIte, s7, e2]
      · rw [s7, ← hm, hq]
  obtain ⟨p7, p0, p6, F1⟩ := p7
  have K0 : ∀ k : Nat, k < m → RTs σ1 k V k := fun k hk => RTs.fr (hS.2.2.2.2.2 k (by omega)) F1 (by omega)
  -- the sticks move
  obtain ⟨σ2, ⟨F2, K2⟩, E2⟩ := wlp (F := fun g (s : Nat × St) => f_X5_addStick_l26 g 1 (iI y) (iI (c : Int)) 142 (iI (s.1 : Int)) s.2) (X := fun τ => bv (f_X4_put (1 + 11) (iI 0) (iI y) τ) fun t31 => bv (f_X4_put (1 + 13) (iI 0) (iI (c : Int)) t31) fun t34 => bv (f_X4_put (1 + 15) (iI 0) (t34.1 1 0) t34) fun t37 => f_X5_addStick_l80 FU 1 142 (iI 0) t37) (fun s => s.1) (fun s => s.1 ≤ q ∧ Fr 13 20 σ1 s.2 ∧ ∀ k, k ≤ q → (s.1 < k → RTs s.2 k V (k - 1)) ∧ (k ≤ s.1 → k < m → RTs s.2 k V k)) (fun τ => Fr 13 20 σ1 τ ∧ ∀ k, k ≤ q → 0 < k → RTs τ k V (k - 1)) (by
    rintro g ⟨i, τ⟩ ⟨h0, hF, hv⟩
    simp only at h0 hv hF
    rcases (show i = 0 ∨ 0 < i by omega) with h | h
    · subst h
      refine .inl ⟨τ, ⟨hF, fun k hk h1 => (hv k hk).1 h1⟩, ?_⟩
      show f_X5_addStick_b26 _ _ _ _ _ _ _ = _
      unfold f_X5_addStick_b26
      simp (disch := omega) only [iI_lit, ofNat_iI, iI_add, iI_sub, iI_mul, iI_neg, iI_lt_t, iI_lt_f, iI_le_t, iI_le_f, iI_eq_t, iI_eq_f, iI_div, rm_iI, tc_iI, inB_iI, nz_iI, is01_0, is01_1, gd_tt, bd_mk, bv_mk, oc_mk, lt_mk, Bool.false_eq_true, ↓reduceIte]
    · right
      obtain ⟨υ, x1, x2, x3, x4⟩ := copyStick_v (a := i - 1) (b := i) (σ := τ) (by omega) (by omega) (by omega)
      have e1 : (i : Int) - 1 = ((i - 1 : Nat) : Int) := by omega
      have e2 : (i : Int) + -1 = ((i - 1 : Nat) : Int) := by omega
      refine ⟨(i - 1, υ), ⟨by simp only; omega, hF.tr x2, fun k hk => ⟨fun h1 => ?_, fun h1 h2 => ?_⟩⟩, by simp only; omega, ?_⟩
      · simp only at h1
        by_cases c1 : k = i
        · rw [c1]
          exact x3 V (i - 1) ((hv (i - 1) (by omega)).2 (by omega) (by omega))
        · exact x4 k V _ c1 ((hv k hk).1 (by omega))
      · simp only at h1
        exact x4 k V _ (by omega) ((hv k hk).2 (by omega) h2)
      · show f_X5_addStick_b26 _ _ _ _ _ _ _ = _
        unfold f_X5_addStick_b26
        simp (disch := omega) only [iI_lit, ofNat_iI, iI_add, iI_sub, iI_mul, iI_neg, iI_lt_t, iI_lt_f, iI_le_t, iI_le_f, iI_eq_t, iI_eq_f, iI_div, rm_iI, tc_iI, inB_iI, nz_iI, is01_0, is01_1, gd_tt, bd_mk, bv_mk, oc_mk, lt_mk, Bool.false_eq_true, ↓reduceIte, e1, e2, x1]) FU (q, σ1) ⟨by simp, Fr.rfl, fun k hk => ⟨fun h1 => by simp only at h1; omega, fun h1 h2 => K0 k h2⟩⟩ (by simp only [FU]; omega)
  -- the new one
  obtain ⟨t1, h1⟩ : ∃ t1, t1 = sI σ2 13 0 (iI y) := ⟨_, rfl⟩
  obtain ⟨t2, h2⟩ : ∃ t2, t2 = sI t1 15 0 (iI (c : Int)) := ⟨_, rfl⟩
  obtain ⟨t3, h3⟩ : ∃ t3, t3 = sI t2 17 0 (iI (V 0)) := ⟨_, rfl⟩
  have G1 : Fr 13 14 σ2 t1 := by rw [h1]; exact Fr.sI (by omega) (by omega)
  have G2 : Fr 15 16 t1 t2 := by rw [h2]; exact Fr.sI (by omega) (by omega)
  have G3 : Fr 17 18 t2 t3 := by rw [h3]; exact Fr.sI (by omega) (by omega)
  have w1 := put_in (c := 1 + 11) (N := 5) rfl (by omega) (i := (0 : Int)) (x := iI y) (σ := σ2) (by omega) (by omega)
  have w2 := put_in (c := 1 + 13) (N := 5) rfl (by omega) (i := (0 : Int)) (x := iI (c : Int)) (σ := t1) (by omega) (by omega)
  have w3 := put_in (c := 1 + 15) (N := 5) rfl (by omega) (i := (0 : Int)) (x := iI (V 0)) (σ := t2) (by omega) (by omega)
  rw [show sI σ2 (1 + 11 + 1) (0 : Int).toNat (iI y) = t1 from h1.symm] at w1
  rw [show sI t1 (1 + 13 + 1) (0 : Int).toNat (iI (c : Int)) = t2 from h2.symm] at w2
  rw [show sI t2 (1 + 15 + 1) (0 : Int).toNat (iI (V 0)) = t3 from h3.symm] at w3
  have r0 : t2.1 1 0 = iI (V 0) := by rw [G2.at (by omega), G1.at (by omega), F2.at (by omega), p0]; exact hS.1
  have N3 : ∀ f : Nat, f < 10 → t3.1 143 f = iI (N f) := by
    intro f hf
    rw [G3.at (by omega), G2.at (by omega), G1.at (by omega), F2.at (by omega), F1.at (by omega)]; exact hN f hf
  obtain ⟨τ, ⟨F4, L4, U4⟩, E4⟩ := wlp (F := fun g (s : Nat × St) => f_X5_addStick_l80 g 1 142 (iI (s.1 : Int)) s.2) (X := fun τ => some τ) (fun s => 10 - s.1) (fun s => s.1 ≤ 10 ∧ Fr 19 20 t3 s.2 ∧ (∀ f : Nat, f < s.1 → s.2.1 19 f = iI (N f)) ∧ ∀ x, 10 ≤ x → s.2.1 19 x = t3.1 19 x) (fun τ => Fr 19 20 t3 τ ∧ (∀ f : Nat, f < 10 → τ.1 19 f = iI (N f)) ∧ ∀ x, 10 ≤ x → τ.1 19 x = t3.1 19 x) (by
    rintro g ⟨f, τ⟩ ⟨z0, hF, hv, hw⟩
    simp only at z0 hv hF hw
    rcases (show f = 10 ∨ f < 10 by omega) with h | h
    · refine .inl ⟨τ, ⟨hF, fun d hd => hv d (by omega), hw⟩, ?_⟩
      show f_X5_addStick_b80 _ _ _ _ _ = _
      unfold f_X5_addStick_b80
      simp (disch := omega) only [iI_lit, ofNat_iI, iI_add, iI_sub, iI_mul, iI_neg, iI_lt_t, iI_lt_f, iI_le_t, iI_le_f, iI_eq_t, iI_eq_f, iI_div, rm_iI, tc_iI, inB_iI, nz_iI, is01_0, is01_1, gd_tt, bd_mk, bv_mk, oc_mk, lt_mk, Bool.false_eq_true, ↓reduceIte]
    · right
      have e0 : ((f : Int)).toNat = f := by omega
      have k1 := at_in (c := 142) (N := 10) rfl (by omega) (i := (f : Int)) (σ := τ) (by omega) (by omega)
      rw [e0, show τ.1 (142 + 1) f = iI (N f) by rw [hF.at (by omega)]; exact N3 f h] at k1
      have k2 := put_in (c := 1 + 17) (N := 50) rfl (by omega) (i := (f : Int)) (x := iI (N f)) (σ := τ) (by omega) (by omega)
      rw [e0] at k2
      have e3 : (f : Int) + 1 = ((f + 1 : Nat) : Int) := by omega
      refine ⟨(f + 1, sI τ 19 f (iI (N f))), ⟨by simp only; omega, hF.tr (Fr.sI (by omega) (by omega)), fun d hd => ?_, fun x hx => ?_⟩, by simp only; omega, ?_⟩
      · simp only at hd ⊢
        by_cases hk : d = f
        · rw [hk, sI_hit]
        · rw [sI_k (by omega)]; exact hv d (by omega)
      · simp only
        rw [sI_k (by omega)]; exact hw x hx
      · show f_X5_addStick_b80 _ _ _ _ _ = _
        unfold f_X5_addStick_b80
        simp (disch := omega) only [iI_lit, ofNat_iI, iI_add, iI_sub, iI_mul, iI_neg, iI_lt_t, iI_lt_f, iI_le_t, iI_le_f, iI_eq_t, iI_eq_f, iI_div, rm_iI, tc_iI, inB_iI, nz_iI, is01_0, is01_1, gd_tt, bd_mk, bv_mk, oc_mk, lt_mk, Bool.false_eq_true, ↓reduceIte, k1, k2, e3]) FU (0, t3) ⟨by simp, Fr.rfl, fun j hj => by simp only at hj; omega, fun j hj => rfl⟩ (by simp only [FU]; omega)
  have c13 : τ.1 13 = t1.1 13 := by rw [F4.at (by omega), G3.at (by omega), G2.at (by omega)]
  have c15 : τ.1 15 = t2.1 15 := by rw [F4.at (by omega), G3.at (by omega)]
  have c17 : τ.1 17 = t3.1 17 := by rw [F4.at (by omega)]
  have c19 : t3.1 19 = σ2.1 19 := by rw [G3.at (by omega), G2.at (by omega), G1.at (by omega)]
  have FA : Fr 13 20 σ1 τ := ((((F2.mo (by omega) (by omega)).tr (G1.mo (by omega) (by omega))).tr (G2.mo (by omega) (by omega))).tr (G3.mo (by omega) (by omega))).tr (F4.mo (by omega) (by omega))
  refine ⟨τ, ?_, (F1.mo (by omega) (by omega)).tr (FA.mo (by omega) (by omega)), ?_⟩
  · rw [hE]
    refine E2.trans ?_
    simp only [w1, bv_mk, w2, r0, w3]
    exact E4
  · refine RS_of hI hS (fun k hk => by rw [crv_x (by omega)]; exact shV_lo (by omega) (by omega)) (fun d h1 h2 => ?_) ?_ ?_ ?_ (fun k hk => ?_)
    · rw [FA.at (by omega), F1.at (by omega)]
    · rw [FA.at (by omega)]; exact p0
    · rw [FA.at (by omega)]; exact p6
    · rw [FA.at (by omega), crv_x (by omega), hq]; exact p7
    · rw [crv_x (by omega), hq] at hk
      rcases (show k = 0 ∨ 0 < k by omega) with z | z
      · subst z
        refine ⟨?_, ?_, ?_, fun f hf => ?_⟩
        · rw [c13, h1, sI_hit]; rfl
        · rw [c15, h2, sI_hit]; rfl
        · rw [c17, h3, sI_hit]; rfl
        · rw [show 10 * 0 + f = f by omega, show 49 + 13 * 0 + f = 49 + f by omega, L4 f hf, crv_N hf]
      · obtain ⟨r1, r2, r3, r4⟩ := K2 k (by omega) z
        have y1 : RTs τ k V (k - 1) := by
          refine ⟨?_, ?_, ?_, fun f hf => ?_⟩
          · rw [c13, h1, sI_k (by omega)]; exact r1
          · rw [c15, h2, sI_k (by omega), G1.at (by omega)]; exact r2
          · rw [c17, h3, sI_k (by omega), G2.at (by omega), G1.at (by omega)]; exact r3
          · rw [U4 _ (by omega), c19]; exact r4 f hf
        exact RTs_of y1 (fun x hx => by rw [crv_x (by omega), shV_hi (by omega)]; congr 1; omega)
