/-! counts: moved, stale, notches of a stick -/
def mvd (V : Nat → Int) (y s : Int) (f : Nat) : Bool := decide (Nt V y s f ≠ -1 ∧ Nt V y s f ≠ Pr V y s f)
theorem mvd_t {V : Nat → Int} {y s : Int} {f : Nat} (h : Nt V y s f ≠ -1 ∧ Nt V y s f ≠ Pr V y s f) : mvd V y s f = true := decide_eq_true h
theorem mvd_f {V : Nat → Int} {y s : Int} {f : Nat} (h : ¬ (Nt V y s f ≠ -1 ∧ Nt V y s f ≠ Pr V y s f)) : mvd V y s f = false := decide_eq_false h
theorem movedCount_v {a0 n : Nat} {V : Nat → Int} {y s : Int} {σ : St} (hK : RK a0) (hG : RG σ a0 V y s) (hn : V 0 = (n : Int)) (hn10 : n ≤ 10) : f_X3_movedCount a0 (iI (n : Int)) σ = some (iI (cnN (mvd V y s) n), σ) := by
  have H := lpr (F := fun g j => f_X3_movedCount_l4 g a0 (iI (n : Int)) (iI (cnN (mvd V y s) j)) (iI (j : Int)) σ) (R := fun _ => some (iI (cnN (mvd V y s) n), σ)) (n := n) (by
    intro g
    show f_X3_movedCount_b4 _ _ _ _ _ _ = _
    unfold f_X3_movedCount_b4
    simp (disch := omega) only [iI_lit, ofNat_iI, iI_add, iI_sub, iI_mul, iI_neg, iI_lt_t, iI_lt_f, iI_le_t, iI_le_f, iI_eq_t, iI_eq_f, iI_div, rm_iI, tc_iI, inB_iI, nz_iI, is01_0, is01_1, gd_tt, bd_mk, bv_mk, oc_mk, lt_mk, Bool.false_eq_true, ↓reduceIte]) (by
    intro g j hj h
    try simp only at h
    have h0 : σ.1 (a0 + 1 + 1) j = iI (Pr V y s j) := hG.1 j (by omega)
    have h1 : σ.1 (a0 + 3 + 1) j = iI (Nt V y s j) := hG.2 j (by omega)
    have k0 := at_in (c := a0 + 1) (N := 10) hK.1 (by omega) (i := (j : Int)) (σ := σ) (by omega) (by omega)
    have k1 := at_in (c := a0 + 3) (N := 10) hK.2 (by omega) (i := (j : Int)) (σ := σ) (by omega) (by omega)
    have e0 : ((j : Int)).toNat = j := by omega
    have e1 : (j : Int) + 1 = ((j + 1 : Nat) : Int) := by omega
    rw [e0] at k0 k1
    rw [h0] at k0
    rw [h1] at k1
    have b0 := Pr_b V y s j
    have b1 := Nt_b V y s j
    show f_X3_movedCount_b4 _ _ _ _ _ _ = _
    unfold f_X3_movedCount_b4
    by_cases c1 : Nt V y s j = -1
    · rw [cnN_f (mvd_f (fun q => q.1 c1))] at h
      simp (disch := omega) only [iI_lit, ofNat_iI, iI_add, iI_sub, iI_mul, iI_neg, iI_lt_t, iI_lt_f, iI_le_t, iI_le_f, iI_eq_t, iI_eq_f, iI_div, rm_iI, tc_iI, inB_iI, nz_iI, is01_0, is01_1, gd_tt, bd_mk, bv_mk, oc_mk, lt_mk, Bool.false_eq_true, ↓reduceIte, k0, k1, c1, e1, h]
      all_goals exact h
    · by_cases c2 : Nt V y s j = Pr V y s j
      · rw [cnN_f (mvd_f (fun q => q.2 c2))] at h
        simp (disch := omega) only [iI_lit, ofNat_iI, iI_add, iI_sub, iI_mul, iI_neg, iI_lt_t, iI_lt_f, iI_le_t, iI_le_f, iI_eq_t, iI_eq_f, iI_div, rm_iI, tc_iI, inB_iI, nz_iI, is01_0, is01_1, gd_tt, bd_mk, bv_mk, oc_mk, lt_mk, Bool.false_eq_true, ↓reduceIte, k0, k1, e1, h]
        all_goals exact h
      · rw [cnN_t (mvd_t ⟨c1, c2⟩)] at h
        simp (disch := omega) only [iI_lit, ofNat_iI, iI_add, iI_sub, iI_mul, iI_neg, iI_lt_t, iI_lt_f, iI_le_t, iI_le_f, iI_eq_t, iI_eq_f, iI_div, rm_iI, tc_iI, inB_iI, nz_iI, is01_0, is01_1, gd_tt, bd_mk, bv_mk, oc_mk, lt_mk, Bool.false_eq_true, ↓reduceIte, k0, k1, e1, h]
        all_goals exact h) n FU 0 (by omega) (by simp only [FU]; omega)
  exact H
/-! sticks -/
def sty (V : Nat → Int) (k : Nat) : Int := V (46 + 13 * k)
def stc (V : Nat → Int) (k : Nat) : Nat := (V (47 + 13 * k)).toNat
def stn (V : Nat → Int) (k : Nat) : Nat := (V (48 + 13 * k)).toNat
def stm (V : Nat → Int) (k f : Nat) : Int := V (49 + 13 * k + f)
/-- is the feast f of the stick k stale -/
def stl0 (V : Nat → Int) (k f : Nat) : Bool := decide (V 0 ≤ (f : Int) ∨ Nt V (sty V k) (SL V (stc V k)) f ≠ stm V k f)
theorem stl0_t {V : Nat → Int} {k f : Nat} (h : V 0 ≤ (f : Int) ∨ Nt V (sty V k) (SL V (stc V k)) f ≠ stm V k f) : stl0 V k f = true := decide_eq_true h
theorem stl0_f {V : Nat → Int} {k f : Nat} (h : ¬ (V 0 ≤ (f : Int) ∨ Nt V (sty V k) (SL V (stc V k)) f ≠ stm V k f)) : stl0 V k f = false := decide_eq_false h
def stS (V : Nat → Int) (k : Nat) : Int := cnN (stl0 V k) (stn V k)
def smS (V : Nat → Int) : Nat → Int
  | 0 => 0
  | k + 1 => smS V k + stS V k
theorem IK.ex {V : Nat → Int} {k : Nat} (h : IK V k) : (0 ≤ sty V k ∧ sty V k ≤ 999) ∧ (V (47 + 13 * k) = (stc V k : Int) ∧ stc V k < 3) ∧ (V (48 + 13 * k) = (stn V k : Int) ∧ stn V k ≤ 10) ∧ ∀ f, f < 10 → -1 ≤ stm V k f ∧ stm V k f ≤ 365 := by
  obtain ⟨h1, h2, h3, h4, h5, h6, h7⟩ := h
  unfold sty stc stn stm
  exact ⟨⟨h1, h2⟩, ⟨by omega, by omega⟩, ⟨by omega, by omega⟩, h7⟩
theorem stS_b (V : Nat → Int) (k : Nat) : 0 ≤ stS V k ∧ stS V k ≤ stn V k := cnN_b _ _
theorem smS_b {V : Nat → Int} : ∀ k, (∀ j, j < k → stn V j ≤ 10) → 0 ≤ smS V k ∧ smS V k ≤ 10 * (k : Int) := by
  intro k
  induction k with
  | zero => intro _; show (0 : Int) ≤ 0 ∧ (0 : Int) ≤ 10 * ((0 : Nat) : Int); omega
  | succ k ih =>
    intro h
    have h1 := ih (fun j hj => h j (by omega))
    have h2 := stS_b V k
    have h3 := h k (by omega)
    show 0 ≤ smS V k + stS V k ∧ smS V k + stS V k ≤ _
    omega
theorem RT.n {σ : St} {V : Nat → Int} {k f : Nat} {i : Int} (h : RT σ 1 V k) (hf : f < 10) (e : i = 10 * k + f) : σ.1 (1 + 17 + 1) i.toNat = iI (stm V k f) := by
  have : i.toNat = 10 * k + f := by omega
  rw [this]; exact h.2.2.2 f hf
/-- the class's count of the stale feasts of the stick k, added to what stands -/
theorem stale73_v {K5 : Int32 → Int32 → Int32 → St → Option (Int32 × St)} {V : Nat → Int} {k : Nat} {x2 : Int32} {acc : Int} {σ : St} (hI : IV V) (hS : RS σ 1 V) (hk : (k : Int) < V 45) (hG : RG σ 139 V (sty V k) (SL V (stc V k))) : f_X6_staleFeasts_l73 K5 FU x2 (iI acc) (iI (k : Int)) (iI (stn V k : Int)) (iI ((0 : Nat) : Int)) σ = K5 x2 (iI (acc + stS V k)) (iI ((k + 1 : Nat) : Int)) σ := by
  obtain ⟨q1, q2, q3, q4⟩ := (hI.2.2.2.2.2 k hk).ex
  have hk5 := hI.2.2.1
  have hn10 := hI.1
  have hT := hS.2.2.2.2.2 k hk
  have r0 := hS.1
  obtain ⟨n, hn⟩ : ∃ n : Nat, V 0 = (n : Int) := ⟨(V 0).toNat, by omega⟩
  rw [hn] at r0
  have e2 : (k : Int) + 1 = ((k + 1 : Nat) : Int) := by omega
  obtain ⟨N, hN⟩ : ∃ N, N = stn V k := ⟨_, rfl⟩
  rw [← hN] at q3 ⊢
  have H := lpr (F := fun g j => f_X6_staleFeasts_l73 K5 g x2 (iI (acc + cnN (stl0 V k) j)) (iI (k : Int)) (iI (N : Int)) (iI (j : Int)) σ) (R := fun _ => K5 x2 (iI (acc + stS V k)) (iI ((k + 1 : Nat) : Int)) σ) (n := N) (by
    intro g
    show f_X6_staleFeasts_b73 _ _ _ _ _ _ _ _ = _
    unfold f_X6_staleFeasts_b73 stS
    rw [← hN]
    simp (disch := omega) only [iI_lit, ofNat_iI, iI_add, iI_sub, iI_mul, iI_neg, iI_lt_t, iI_lt_f, iI_le_t, iI_le_f, iI_eq_t, iI_eq_f, iI_div, rm_iI, tc_iI, inB_iI, nz_iI, is01_0, is01_1, gd_tt, bd_mk, bv_mk, oc_mk, lt_mk, Bool.false_eq_true, ↓reduceIte, e2]) (by
    intro g j hj h
    try simp only at h
    have h1 : σ.1 (139 + 4) j = iI (Nt V (sty V k) (SL V (stc V k)) j) := hG.2 j (by omega)
    have h2 := hT.n (f := j) (i := (k : Int) * 10 + (j : Int)) (by omega) (by omega)
    have k1 := at_in (c := 142) (N := 10) rfl (by omega) (i := (j : Int)) (σ := σ) (by omega) (by omega)
    have k2 := at_in (c := 1 + 17) (N := 50) rfl (by omega) (i := (k : Int) * 10 + (j : Int)) (σ := σ) (by omega) (by omega)
    have e0 : ((j : Int)).toNat = j := by omega
    have e1 : (j : Int) + 1 = ((j + 1 : Nat) : Int) := by omega
    rw [e0] at k1
    rw [show σ.1 (142 + 1) j = _ from h1] at k1
    rw [h2] at k2
    have b1 := Nt_b V (sty V k) (SL V (stc V k)) j
    have b2 := q4 j (by omega)
    show f_X6_staleFeasts_b73 _ _ _ _ _ _ _ _ = _
    unfold f_X6_staleFeasts_b73 f_X6_staleFeasts_b97 f_X5_stickNotch
    by_cases c1 : n ≤ j
    · rw [cnN_t (stl0_t (.inl (by omega)))] at h
      simp (disch := omega) only [iI_lit, ofNat_iI, iI_add, iI_sub, iI_mul, iI_neg, iI_lt_t, iI_lt_f, iI_le_t, iI_le_f, iI_eq_t, iI_eq_f, iI_div, rm_iI, tc_iI, inB_iI, nz_iI, is01_0, is01_1, gd_tt, bd_mk, bv_mk, oc_mk, lt_mk, Bool.false_eq_true, ↓reduceIte, r0, Int.add_assoc, e1, h]
      all_goals exact h
    · by_cases c2 : Nt V (sty V k) (SL V (stc V k)) j = stm V k j
      · rw [cnN_f (stl0_f (by rintro (q | q); omega; exact q c2))] at h
        simp (disch := omega) only [iI_lit, ofNat_iI, iI_add, iI_sub, iI_mul, iI_neg, iI_lt_t, iI_lt_f, iI_le_t, iI_le_f, iI_eq_t, iI_eq_f, iI_div, rm_iI, tc_iI, inB_iI, nz_iI, is01_0, is01_1, gd_tt, bd_mk, bv_mk, oc_mk, lt_mk, Bool.false_eq_true, ↓reduceIte, r0, k1, k2, e1, h]
        all_goals exact h
      · rw [cnN_t (stl0_t (.inr c2))] at h
        simp (disch := omega) only [iI_lit, ofNat_iI, iI_add, iI_sub, iI_mul, iI_neg, iI_lt_t, iI_lt_f, iI_le_t, iI_le_f, iI_eq_t, iI_eq_f, iI_div, rm_iI, tc_iI, inB_iI, nz_iI, is01_0, is01_1, gd_tt, bd_mk, bv_mk, oc_mk, lt_mk, Bool.false_eq_true, ↓reduceIte, r0, k1, k2, Int.add_assoc, e1, h]
        all_goals exact h) N FU 0 (by omega) (by simp only [FU]; omega)
  have H0 : f_X6_staleFeasts_l73 K5 FU x2 (iI (acc + 0)) (iI (k : Int)) (iI (N : Int)) (iI ((0 : Nat) : Int)) σ = _ := H
  rw [Int.add_zero] at H0
  exact H0
def smF (V : Nat → Int) (a : Nat) : Nat → Int
  | 0 => 0
  | k + 1 => smF V a k + stS V (a + k)
theorem smF_0 (V : Nat → Int) : ∀ k, smF V 0 k = smS V k := by
  intro k
  induction k with
  | zero => rfl
  | succ k ih => show smF V 0 k + stS V (0 + k) = smS V k + stS V k; rw [ih, Nat.zero_add]
theorem stale_v {V : Nat → Int} {a m : Nat} {σ : St} (hI : IV V) (hS : RS σ 1 V) (hm : ((a + m : Nat) : Int) ≤ V 45) : ∃ τ, f_X6_staleFeasts (iI (a : Int)) (iI ((a + m : Nat) : Int)) σ = some (iI (smF V a m), τ) ∧ Fr 139 144 σ τ := by
  have hk5 := hI.2.2.1
  have H := wlp (F := fun g (s : Nat × St) => f_X6_staleFeasts_l5 g (iI ((a + m : Nat) : Int)) (iI (smF V a s.1)) (iI ((a + s.1 : Nat) : Int)) s.2) (X := fun τ => some (iI (smF V a m), τ)) (fun s => m - s.1) (fun s => s.1 ≤ m ∧ Fr 139 144 σ s.2) (fun τ => Fr 139 144 σ τ) (by
    rintro g ⟨j, τ⟩ ⟨h0, hF⟩
    simp only at h0 hF
    rcases (show j = m ∨ j < m by omega) with h | h
    · subst h
      refine .inl ⟨τ, hF, ?_⟩
      show f_X6_staleFeasts_b5 _ _ _ _ _ = _
      unfold f_X6_staleFeasts_b5
      simp (disch := omega) only [iI_lit, ofNat_iI, iI_add, iI_sub, iI_mul, iI_neg, iI_lt_t, iI_lt_f, iI_le_t, iI_le_f, iI_eq_t, iI_eq_f, iI_div, rm_iI, tc_iI, inB_iI, nz_iI, is01_0, is01_1, gd_tt, bd_mk, bv_mk, oc_mk, lt_mk, Bool.false_eq_true, ↓reduceIte]
    · right
      have tS : RS τ 1 V := hS.fr hF (by omega)
      have hk : ((a + j : Nat) : Int) < V 45 := by omega
      obtain ⟨k, hkk⟩ : ∃ k, k = a + j := ⟨_, rfl⟩
      rw [← hkk] at hk
      obtain ⟨q1, q2, q3, q4⟩ := (hI.2.2.2.2.2 k hk).ex
      obtain ⟨t1, t2, t3, t4⟩ := tS.2.2.2.2.2 k hk
      have hsb : -5 ≤ SL V (stc V k) ∧ SL V (stc V k) ≤ 5 := hI.2.2.2.1 _ q2.2
      obtain ⟨υ, x1, x2, x3⟩ := reckon_v (a0 := 139) (y := sty V k) (s := SL V (stc V k)) (by unfold RK; decide +kernel) (by omega) hI tS q1 hsb
      have uS : RS υ 1 V := tS.fr x2 (by omega)
      have e0 : ((k : Int)).toNat = k := by omega
      have e1 : ((stc V k : Int)).toNat = stc V k := by omega
      have k1 := at_in (c := 12) (N := 5) rfl (by omega) (i := (k : Int)) (σ := τ) (by omega) (by omega)
      have k2 := at_in (c := 14) (N := 5) rfl (by omega) (i := (k : Int)) (σ := τ) (by omega) (by omega)
      have k3 := at_in (c := 10) (N := 3) rfl (by omega) (i := (stc V k : Int)) (σ := τ) (by omega) (by omega)
      have k4 := at_in (c := 16) (N := 5) rfl (by omega) (i := (k : Int)) (σ := υ) (by omega) (by omega)
      rw [e0] at k1 k2 k4
      rw [e1] at k3
      rw [show τ.1 (12 + 1) k = iI (sty V k) from t1] at k1
      rw [show τ.1 (14 + 1) k = _ from t2, q2.1] at k2
      rw [show τ.1 (10 + 1) (stc V k) = iI (SL V (stc V k)) from tS.2.2.2.1 _ q2.2] at k3
      rw [show υ.1 (16 + 1) k = _ from (uS.2.2.2.2.2 k hk).2.2.1, q3.1] at k4
      have z := stale73_v (K5 := f_X6_staleFeasts_l5 g) (x2 := iI ((a + m : Nat) : Int)) (acc := smF V a j) hI uS hk x3
      refine ⟨(j + 1, υ), ⟨by simp only; omega, hF.tr (x2.mo (by omega) (by omega))⟩, by simp only; omega, ?_⟩
      show f_X6_staleFeasts_b5 _ _ _ _ _ = _
      unfold f_X6_staleFeasts_b5
      try simp only
      rw [← hkk]
      simp (disch := omega) only [iI_lit, ofNat_iI, iI_add, iI_sub, iI_mul, iI_neg, iI_lt_t, iI_lt_f, iI_le_t, iI_le_f, iI_eq_t, iI_eq_f, iI_div, rm_iI, tc_iI, inB_iI, nz_iI, is01_0, is01_1, gd_tt, bd_mk, bv_mk, oc_mk, lt_mk, Bool.false_eq_true, ↓reduceIte, k1, k2, k3, k4, x1]
      rw [show smF V a (j + 1) = smF V a j + stS V k from by rw [hkk]; rfl, show a + (j + 1) = k + 1 by omega]
      exact z)
  obtain ⟨τ, h1, h2⟩ := H FU (0, σ) ⟨by simp, Fr.rfl⟩ (by simp only [FU]; omega)
  exact ⟨τ, h2, h1⟩
