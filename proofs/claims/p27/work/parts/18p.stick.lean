/-! sticks are carved and burned -/
theorem CR_hi {V : Nat → Int} {D : Int} {p N : Nat → Int} {r : Int} : ∀ f g, f ≤ g → CR V D p N r f g = N g := by
  intro f
  induction f with
  | zero => intro g _; rfl
  | succ f ih =>
    intro g hg
    show stN V D p (CR V D p N r f) r f g = N g
    unfold stN
    split
    · rw [updf_ne (by omega)]; exact ih g (by omega)
    · exact ih g (by omega)
theorem Nt_hi {V : Nat → Int} {y s : Int} {g : Nat} (h : (V 0).toNat ≤ g) : Nt V y s g = -1 := by
  have H : ∀ q, RR V (dys y) (Pr V y s) q g = -1 := by
    intro q
    induction q with
    | zero => rfl
    | succ q ih =>
      show CR V (dys y) (Pr V y s) (RR V (dys y) (Pr V y s) q) (9 - q) (V 0).toNat g = -1
      rw [CR_hi _ _ h]; exact ih
  exact H 10
/-- the class's place k holds the stick j of V -/
def RTs (σ : St) (k : Nat) (V : Nat → Int) (j : Nat) : Prop := σ.1 13 k = iI (V (46 + 13 * j)) ∧ σ.1 15 k = iI (V (47 + 13 * j)) ∧ σ.1 17 k = iI (V (48 + 13 * j)) ∧ ∀ f : Nat, f < 10 → σ.1 19 (10 * k + f) = iI (V (49 + 13 * j + f))
theorem RTs.fr {σ τ : St} {k j lo hi : Nat} {V : Nat → Int} (h : RTs σ k V j) (e : Fr lo hi σ τ) (hc : 20 ≤ lo ∨ hi ≤ 13) : RTs τ k V j := by
  unfold RTs
  rw [e.at (by omega), e.at (by omega), e.at (by omega), e.at (by omega)]; exact h
theorem copyStick_v {a b : Nat} {σ : St} (ha : a < 5) (hb : b < 5) (hab : a ≠ b) : ∃ τ, f_X5_copyStick 1 (iI (a : Int)) (iI (b : Int)) σ = some τ ∧ Fr 13 20 σ τ ∧ (∀ V j, RTs σ a V j → RTs τ b V j) ∧ ∀ k V j, k ≠ b → RTs σ k V j → RTs τ k V j := by
  have e0 : ((a : Int)).toNat = a := by omega
  have e1 : ((b : Int)).toNat = b := by omega
  obtain ⟨t1, h1⟩ : ∃ t1, t1 = sI σ 13 b (σ.1 13 a) := ⟨_, rfl⟩
  obtain ⟨t2, h2⟩ : ∃ t2, t2 = sI t1 15 b (σ.1 15 a) := ⟨_, rfl⟩
  obtain ⟨t3, h3⟩ : ∃ t3, t3 = sI t2 17 b (σ.1 17 a) := ⟨_, rfl⟩
  have G1 : Fr 13 14 σ t1 := by rw [h1]; exact Fr.sI (by omega) (by omega)
  have G2 : Fr 15 16 t1 t2 := by rw [h2]; exact Fr.sI (by omega) (by omega)
  have G3 : Fr 17 18 t2 t3 := by rw [h3]; exact Fr.sI (by omega) (by omega)
  have q1 := at_in (c := 1 + 11) (N := 5) rfl (by omega) (i := (a : Int)) (σ := σ) (by omega) (by omega)
  have q2 := at_in (c := 1 + 13) (N := 5) rfl (by omega) (i := (a : Int)) (σ := t1) (by omega) (by omega)
  have q3 := at_in (c := 1 + 15) (N := 5) rfl (by omega) (i := (a : Int)) (σ := t2) (by omega) (by omega)
  rw [e0] at q1 q2 q3
  rw [show t1.1 (1 + 13 + 1) a = σ.1 15 a by rw [G1.at (by omega)]] at q2
  rw [show t2.1 (1 + 15 + 1) a = σ.1 17 a by rw [G2.at (by omega), G1.at (by omega)]] at q3
  have w1 := put_in (c := 1 + 11) (N := 5) rfl (by omega) (i := (b : Int)) (x := σ.1 13 a) (σ := σ) (by omega) (by omega)
  have w2 := put_in (c := 1 + 13) (N := 5) rfl (by omega) (i := (b : Int)) (x := σ.1 15 a) (σ := t1) (by omega) (by omega)
  have w3 := put_in (c := 1 + 15) (N := 5) rfl (by omega) (i := (b : Int)) (x := σ.1 17 a) (σ := t2) (by omega) (by omega)
  rw [e1] at w1 w2 w3
  rw [show sI σ (1 + 11 + 1) b (σ.1 13 a) = t1 from h1.symm] at w1
  rw [show sI t1 (1 + 13 + 1) b (σ.1 15 a) = t2 from h2.symm] at w2
  rw [show sI t2 (1 + 15 + 1) b (σ.1 17 a) = t3 from h3.symm] at w3
  have H := wlp (F := fun g (s : Nat × St) => f_X5_copyStick_l50 g 1 (iI (a : Int)) (iI (b : Int)) (iI (s.1 : Int)) s.2) (X := fun τ => some τ) (fun s => 10 - s.1) (fun s => s.1 ≤ 10 ∧ Fr 19 20 t3 s.2 ∧ (∀ f : Nat, f < s.1 → s.2.1 19 (10 * b + f) = t3.1 19 (10 * a + f)) ∧ ∀ x, (x < 10 * b ∨ 10 * b + 10 ≤ x) → s.2.1 19 x = t3.1 19 x) (fun τ => Fr 19 20 t3 τ ∧ (∀ f : Nat, f < 10 → τ.1 19 (10 * b + f) = t3.1 19 (10 * a + f)) ∧ ∀ x, (x < 10 * b ∨ 10 * b + 10 ≤ x) → τ.1 19 x = t3.1 19 x) (by
    rintro g ⟨f, τ⟩ ⟨z0, hF, hv, hw⟩
    simp only at z0 hv hF hw
    rcases (show f = 10 ∨ f < 10 by omega) with h | h
    · refine .inl ⟨τ, ⟨hF, fun d hd => hv d (by omega), hw⟩, ?_⟩
      show f_X5_copyStick_b50 _ _ _ _ _ _ = _
      unfold f_X5_copyStick_b50
      simp (disch := omega) only [iI_lit, ofNat_iI, iI_add, iI_sub, iI_mul, iI_neg, iI_lt_t, iI_lt_f, iI_le_t, iI_le_f, iI_eq_t, iI_eq_f, iI_div, rm_iI, tc_iI, inB_iI, nz_iI, is01_0, is01_1, gd_tt, bd_mk, bv_mk, oc_mk, lt_mk, Bool.false_eq_true, ↓reduceIte]
    · right
      have k1 := at_in (c := 1 + 17) (N := 50) rfl (by omega) (i := (a : Int) * 10 + (f : Int)) (σ := τ) (by omega) (by omega)
      rw [show ((a : Int) * 10 + (f : Int)).toNat = 10 * a + f by omega, show τ.1 (1 + 17 + 1) (10 * a + f) = t3.1 19 (10 * a + f) from hw _ (by omega)] at k1
      have k2 := put_in (c := 1 + 17) (N := 50) rfl (by omega) (i := (b : Int) * 10 + (f : Int)) (x := t3.1 19 (10 * a + f)) (σ := τ) (by omega) (by omega)
      rw [show ((b : Int) * 10 + (f : Int)).toNat = 10 * b + f by omega] at k2
      have e3 : (f : Int) + 1 = ((f + 1 : Nat) : Int) := by omega
      refine ⟨(f + 1, sI τ 19 (10 * b + f) (t3.1 19 (10 * a + f))), ⟨by simp only; omega, hF.tr (Fr.sI (by omega) (by omega)), fun d hd => ?_, fun x hx => ?_⟩, by simp only; omega, ?_⟩
      · simp only at hd ⊢
        by_cases hk : d = f
        · rw [hk, sI_hit]
        · rw [sI_k (by omega)]; exact hv d (by omega)
      · simp only
        rw [sI_k (by omega)]; exact hw x hx
      · show f_X5_copyStick_b50 _ _ _ _ _ _ = _
        unfold f_X5_copyStick_b50 f_X5_stickNotch
        simp (disch := omega) only [iI_lit, ofNat_iI, iI_add, iI_sub, iI_mul, iI_neg, iI_lt_t, iI_lt_f, iI_le_t, iI_le_f, iI_eq_t, iI_eq_f, iI_div, rm_iI, tc_iI, inB_iI, nz_iI, is01_0, is01_1, gd_tt, bd_mk, bv_mk, oc_mk, lt_mk, Bool.false_eq_true, ↓reduceIte, k1, k2, e3])
  obtain ⟨τ, ⟨h4, h5, h6⟩, h7⟩ := H FU (0, t3) ⟨by simp, Fr.rfl, fun j hj => by simp only at hj; omega, fun j hj => rfl⟩ (by simp only [FU]; omega)
  have c13 : τ.1 13 = t1.1 13 := by rw [h4.at (by omega), G3.at (by omega), G2.at (by omega)]
  have c15 : τ.1 15 = t2.1 15 := by rw [h4.at (by omega), G3.at (by omega)]
  have c17 : τ.1 17 = t3.1 17 := by rw [h4.at (by omega)]
  have c19 : t3.1 19 = σ.1 19 := by rw [G3.at (by omega), G2.at (by omega), G1.at (by omega)]
  refine ⟨τ, ?_, (((G1.mo (by omega) (by omega)).tr (G2.mo (by omega) (by omega))).tr (G3.mo (by omega) (by omega))).tr (h4.mo (by omega) (by omega)), fun V j r => ?_, fun k V j hk r => ?_⟩
  · unfold f_X5_copyStick
    simp only [q1, bd_mk, q2, q3, w1, w2, w3, bv_mk]
    simp only [iI_lit]
    exact h7
  · obtain ⟨r1, r2, r3, r4⟩ := r
    refine ⟨?_, ?_, ?_, fun f hf => ?_⟩
    · rw [c13, h1, sI_hit]; exact r1
    · rw [c15, h2, sI_hit]; exact r2
    · rw [c17, h3, sI_hit]; exact r3
    · rw [h5 f hf, c19]; exact r4 f hf
  · obtain ⟨r1, r2, r3, r4⟩ := r
    refine ⟨?_, ?_, ?_, fun f hf => ?_⟩
    · rw [c13, h1, sI_k hk]; exact r1
    · rw [c15, h2, sI_k hk, G1.at (by omega)]; exact r2
    · rw [c17, h3, sI_k hk, G2.at (by omega), G1.at (by omega)]; exact r3
    · rw [h6 _ (by omega), c19]; exact r4 f hf
/-- the stick s burned -/
def brn (V : Nat → Int) (s : Nat) : Nat → Int := fun k => if k = 45 then V 45 - 1 else if 46 + 13 * s ≤ k ∧ (k : Int) < 46 + 13 * (V 45 - 1) then V (k + 13) else V k
theorem brn_lo {V : Nat → Int} {s k : Nat} (h1 : k ≠ 45) (h2 : k < 46 + 13 * s) : brn V s k = V k := by
  unfold brn
  rw [if_neg h1, if_neg (by omega)]
theorem brn_in {V : Nat → Int} {s k : Nat} (h1 : 46 + 13 * s ≤ k) (h2 : (k : Int) < 46 + 13 * (V 45 - 1)) : brn V s k = V (k + 13) := by
  unfold brn
  rw [if_neg (by omega), if_pos ⟨h1, h2⟩]
theorem brn_hi {V : Nat → Int} {s k : Nat} (h1 : k ≠ 45) (h2 : 46 + 13 * (V 45 - 1) ≤ (k : Int)) : brn V s k = V k := by
  unfold brn
  rw [if_neg h1, if_neg (by omega)]
theorem brn_45 {V : Nat → Int} {s : Nat} : brn V s 45 = V 45 - 1 := if_pos rfl
theorem IK_of {V W : Nat → Int} {k j : Nat} (h : IK V j) (e : ∀ x, x < 13 → W (46 + 13 * k + x) = V (46 + 13 * j + x)) : IK W k := by
  obtain ⟨h1, h2, h3, h4, h5, h6, h7⟩ := h
  have e0 := e 0 (by omega)
  have e1 := e 1 (by omega)
  have e2 := e 2 (by omega)
  rw [show 46 + 13 * k + 0 = 46 + 13 * k by omega, show 46 + 13 * j + 0 = 46 + 13 * j by omega] at e0
  rw [show 46 + 13 * k + 1 = 47 + 13 * k by omega, show 46 + 13 * j + 1 = 47 + 13 * j by omega] at e1
  rw [show 46 + 13 * k + 2 = 48 + 13 * k by omega, show 46 + 13 * j + 2 = 48 + 13 * j by omega] at e2
  unfold IK
  rw [e0, e1, e2]
  refine ⟨h1, h2, h3, h4, h5, h6, fun f hf => ?_⟩
  have e3 := e (3 + f) (by omega)
  rw [show 46 + 13 * k + (3 + f) = 49 + 13 * k + f by omega, show 46 + 13 * j + (3 + f) = 49 + 13 * j + f by omega] at e3
  rw [e3]; exact h7 f hf
theorem RTs_of {σ : St} {V W : Nat → Int} {k j i : Nat} (h : RTs σ k V j) (e : ∀ x, x < 13 → W (46 + 13 * i + x) = V (46 + 13 * j + x)) : RTs σ k W i := by
  obtain ⟨h1, h2, h3, h4⟩ := h
  have e0 := e 0 (by omega)
  have e1 := e 1 (by omega)
  have e2 := e 2 (by omega)
  rw [show 46 + 13 * i + 0 = 46 + 13 * i by omega, show 46 + 13 * j + 0 = 46 + 13 * j by omega] at e0
  rw [show 46 + 13 * i + 1 = 47 + 13 * i by omega, show 46 + 13 * j + 1 = 47 + 13 * j by omega] at e1
  rw [show 46 + 13 * i + 2 = 48 + 13 * i by omega, show 46 + 13 * j + 2 = 48 + 13 * j by omega] at e2
  unfold RTs
  rw [e0, e1, e2]
  refine ⟨h1, h2, h3, fun f hf => ?_⟩
  have e3 := e (3 + f) (by omega)
  rw [show 46 + 13 * i + (3 + f) = 49 + 13 * i + f by omega, show 46 + 13 * j + (3 + f) = 49 + 13 * j + f by omega] at e3
  rw [e3]; exact h4 f hf
/-- every place of a stick holds something sound, also those that are not used -/
def IZ (V : Nat → Int) : Prop := IV V ∧ ∀ k, k < 5 → IK V k
/-- what does not speak of sticks, for two states that are alike there -/
theorem IZ_of {V W : Nat → Int} (h : IZ V) (e : ∀ k, k < 45 → W k = V k) (h45 : 0 ≤ W 45 ∧ W 45 ≤ 5) (hk : ∀ k, k < 5 → IK W k) : IZ W := by
  obtain ⟨⟨i1, i2, i3, i4, i5, i6⟩, hz⟩ := h
  refine ⟨⟨?_, ?_, h45, fun c hc => ?_, fun f hf => ?_, fun k hk2 => hk k (by omega)⟩, hk⟩
  · rw [e 0 (by omega)]; exact i1
  · rw [e 44 (by omega)]; exact i2
  · rw [e _ (by omega)]; exact i4 c hc
  · rw [e 0 (by omega)] at hf
    unfold IF
    rw [e (1 + 4 * f) (by omega), e (2 + 4 * f) (by omega), e (3 + 4 * f) (by omega), e (4 + 4 * f) (by omega)]
    exact i5 f hf
theorem RS_of {σ τ : St} {V W : Nat → Int} (hI : IV V) (h : RS σ 1 V) (e : ∀ k, k < 45 → W k = V k) (ec : ∀ c, 2 ≤ c → c < 13 → τ.1 c = σ.1 c) (e0 : τ.1 1 0 = σ.1 1 0) (e6 : τ.1 1 6 = σ.1 1 6) (e7 : τ.1 1 7 = iI (W 45)) (hk : ∀ k : Nat, (k : Int) < W 45 → RTs τ k W k) : RS τ 1 W := by
  obtain ⟨s1, s2, s3, s4, s5, s6⟩ := h
  have hn10 := hI.1
  refine ⟨?_, ?_, e7, fun c hc => ?_, fun f hf => ?_, hk⟩
  · rw [e0, e 0 (by omega)]; exact s1
  · rw [e6, e 44 (by omega)]; exact s2
  · rw [ec _ (by omega) (by omega), e _ (by omega)]; exact s4 c hc
  · rw [e 0 (by omega)] at hf
    unfold RF
    rw [e (1 + 4 * f) (by omega), e (2 + 4 * f) (by omega), e (3 + 4 * f) (by omega), e (4 + 4 * f) (by omega), ec _ (by omega) (by omega), ec _ (by omega) (by omega), ec _ (by omega) (by omega), ec _ (by omega) (by omega)]
    exact s5 f hf
theorem brn_IZ {V : Nat → Int} {s : Nat} (h : IZ V) (hs : (s : Int) < V 45) : IZ (brn V s) := by
  have h5 := h.1.2.2.1
  refine IZ_of h (fun k hk => brn_lo (by omega) (by omega)) (by rw [brn_45]; omega) (fun k hk => ?_)
  rcases (show k < s ∨ (s ≤ k ∧ (k : Int) < V 45 - 1) ∨ V 45 - 1 ≤ (k : Int) by omega) with c | c | c
  · exact IK_of (h.2 k hk) (fun x hx => brn_lo (by omega) (by omega))
  · exact IK_of (h.2 (k + 1) (by omega)) (fun x hx => by rw [brn_in (by omega) (by omega), show 46 + 13 * k + x + 13 = 46 + 13 * (k + 1) + x by omega])
  · exact IK_of (h.2 k hk) (fun x hx => brn_hi (by omega) (by omega))
theorem dropC {V : Nat → Int} {s : Nat} {σ : St} (hI : IV V) (hS : RS σ 1 V) (hs : (s : Int) < V 45) : ∃ τ, f_X5_dropStick 1 (iI (s : Int)) σ = some τ ∧ Fr 1 20 σ τ ∧ RS τ 1 (brn V s) := by
  have h5 := hI.2.2.1
  obtain ⟨m, hm⟩ : ∃ m : Nat, V 45 = (m : Int) := ⟨(V 45).toNat, by omega⟩
  have s7 := hS.2.2.1
  rw [hm] at s7
  obtain ⟨τ, ⟨F1, K1⟩, E1⟩ := wlp (F := fun g (q : Nat × St) => f_X5_dropStick_l2 g 1 (iI (q.1 : Int)) q.2) (X := fun τ => some (sI τ 1 7 (iI ((m : Int) - 1)))) (fun q => m - 1 - q.1) (fun q => (s ≤ q.1 ∧ q.1 ≤ m - 1) ∧ Fr 13 20 σ q.2 ∧ ∀ k, k < m → RTs q.2 k V (if s ≤ k ∧ k < q.1 then k + 1 else k)) (fun τ => Fr 13 20 σ τ ∧ ∀ k, k < m → RTs τ k V (if s ≤ k ∧ k < m - 1 then k + 1 else k)) (by
    rintro g ⟨i, τ⟩ ⟨h0, hF, hv⟩
    simp only at h0 hv hF
    have t7 : τ.1 1 7 = iI (m : Int) := by rw [hF.at (by omega)]; exact s7
    rcases (show i = m - 1 ∨ i < m - 1 by omega) with h | h
    · refine .inl ⟨τ, ⟨hF, by rw [← h]; exact hv⟩, ?_⟩
      have e1 : (i : Int) = (m : Int) - 1 := by omega
      show f_X5_dropStick_b2 _ _ _ _ = _
      unfold f_X5_dropStick_b2
      simp (disch := omega) only [iI_lit, ofNat_iI, iI_add, iI_sub, iI_mul, iI_neg, iI_lt_t, iI_lt_f, iI_le_t, iI_le_f, iI_eq_t, iI_eq_f, iI_div, rm_iI, tc_iI, inB_iI, nz_iI, is01_0, is01_1, gd_tt, bd_mk, bv_mk, oc_mk, lt_mk, Bool.false_eq_true, ↓reduceIte, t7, e1]
    · right
      obtain ⟨υ, x1, x2, x3, x4⟩ := copyStick_v (a := i + 1) (b := i) (σ := τ) (by omega) (by omega) (by omega)
      have e1 : (i : Int) + 1 = ((i + 1 : Nat) : Int) := by omega
      refine ⟨(i + 1, υ), ⟨by simp only; omega, hF.tr x2, fun k hk => ?_⟩, by simp only; omega, ?_⟩
      · simp only
        by_cases q : k = i
        · have z := hv (i + 1) (by omega)
          rw [if_neg (by omega)] at z
          rw [q, if_pos (by omega)]
          exact x3 V (i + 1) z
        · have z := x4 k V _ q (hv k hk)
          by_cases c : s ≤ k ∧ k < i
          · rw [if_pos c] at z; rw [if_pos (by omega)]; exact z
          · rw [if_neg c] at z; rw [if_neg (by omega)]; exact z
      · show f_X5_dropStick_b2 _ _ _ _ = _
        unfold f_X5_dropStick_b2
        simp (disch := omega) only [iI_lit, ofNat_iI, iI_add, iI_sub, iI_mul, iI_neg, iI_lt_t, iI_lt_f, iI_le_t, iI_le_f, iI_eq_t, iI_eq_f, iI_div, rm_iI, tc_iI, inB_iI, nz_iI, is01_0, is01_1, gd_tt, bd_mk, bv_mk, oc_mk, lt_mk, Bool.false_eq_true, ↓reduceIte, t7, e1, x1]) FU (s, σ) ⟨by simp only; omega, Fr.rfl, fun k hk => by rw [if_neg (by simp only; omega)]; exact hS.2.2.2.2.2 k (by omega)⟩ (by simp only [FU]; omega)
  have F2 : Fr 1 2 τ (sI τ 1 7 (iI ((m : Int) - 1))) := Fr.sI (by omega) (by omega)
  refine ⟨_, E1, (F1.mo (by omega) (by omega)).tr (F2.mo (by omega) (by omega)), ?_⟩
  refine RS_of hI hS (fun k hk => brn_lo (by omega) (by omega)) (fun c h1 h2 => ?_) ?_ ?_ ?_ (fun k hk => ?_)
  · rw [F2.at (by omega), F1.at (by omega)]
  · rw [sI_k (by omega), F1.at (by omega)]
  · rw [sI_k (by omega), F1.at (by omega)]
  · rw [sI_hit, brn_45, hm]
  · rw [brn_45] at hk
    have z := (K1 k (by omega)).fr F2 (by omega)
    by_cases c : s ≤ k
    · rw [if_pos (by omega)] at z
      exact RTs_of z (fun x hx => by rw [brn_in (by omega) (by omega), show 46 + 13 * k + x + 13 = 46 + 13 * (k + 1) + x by omega])
    · rw [if_neg (by omega)] at z
      exact RTs_of z (fun x hx => brn_lo (by omega) (by omega))
