/-! the second way through the buffer, of both -/
theorem sep_s {q q' : Q6} (hB : RB q) (h : rd q 59 = some q') : mayE q ∧ q' = q0 := by
  obtain ⟨p, r, n, m, o, k⟩ := q
  obtain ⟨h1, h2, h3, h4, h5, h6, h7, h8, h9, h10, h11⟩ := RB_x hB
  unfold rd bhd at h
  simp only at h
  unfold mayE
  simp only
  repeat' split at h
  all_goals first
    | (cases h; done)
    | (exfalso; omega)
    | (obtain rfl := Option.some.inj h; exact ⟨by omega, rfl⟩)
def nxt (b : Nat → Int) : Nat → Nat → Nat
  | 0, i => i
  | k + 1, i => if b i = 59 then i else nxt b k (i + 1)
theorem nxt_s (b : Nat → Int) : ∀ k i, i ≤ nxt b k i ∧ nxt b k i ≤ i + k ∧ (∀ x, i ≤ x → x < nxt b k i → b x ≠ 59) ∧ (nxt b k i < i + k → b (nxt b k i) = 59) := by
  intro k
  induction k with
  | zero => intro i; exact ⟨Nat.le_refl _, Nat.le_refl _, fun x h1 h2 => absurd h2 (by show ¬ x < i; omega), fun h => absurd h (by show ¬ i < i + 0; omega)⟩
  | succ k ih =>
    intro i
    unfold nxt
    by_cases c : b i = 59
    · rw [if_pos c]; exact ⟨Nat.le_refl _, by omega, fun x h1 h2 => by omega, fun _ => c⟩
    · rw [if_neg c]
      obtain ⟨h1, h2, h3, h4⟩ := ih (i + 1)
      refine ⟨by omega, by omega, fun x z1 z2 => ?_, fun z => h4 (by omega)⟩
      by_cases d : x = i
      · rw [d]; exact c
      · exact h3 x (by omega) z2
section PR
variable {len : Nat} {b : Nat → Int}
theorem rch_tot {qe : Q6} (h : rch b len = some qe) {i : Nat} (hi : i ≤ len) : ∃ q, rch b i = some q := by
  cases h2 : rch b i with
  | some q => exact ⟨q, rfl⟩
  | none =>
    have := rch_up h2 (len - i)
    rw [show i + (len - i) = len by omega, h] at this; cases this
/-- the class reads on to the end of a feast -/
theorem segC {qe : Q6} {y : Int32} (hT : TX len b) (hG : rch b len = some qe) {e : Nat} (he : e ≤ len) : ∀ (d j g : Nat) (q : Q6) (σ : St), j + d = e → (∀ x, j ≤ x → x < e → b x ≠ 59) → BC σ len b → rch b j = some q → RD σ q → ∃ τ q', f_X6_addBufferedFeasts_l19 (g + d) y (iI 1) (iI (j : Int)) σ = f_X6_addBufferedFeasts_l19 g y (iI 1) (iI (e : Int)) τ ∧ Fr 138 139 σ τ ∧ rch b e = some q' ∧ RD τ q' := by
  have hl := hT.1
  intro d
  induction d with
  | zero =>
    intro j g q σ hj hs hB hq hD
    have : j = e := by omega
    subst this
    exact ⟨σ, q, rfl, Fr.rfl, hq, hD⟩
  | succ d ih =>
    intro j g q σ hj hs hB hq hD
    obtain ⟨q2, hq2⟩ := rch_tot hG (i := j + 1) (by omega)
    have ht := hT.2 j (by omega)
    have hne := hs j (by omega) (by omega)
    obtain ⟨υ, x, y1, y2, y3⟩ := reads_v hD (rch_RB hq) ht
    rw [rch_s hq] at hq2
    rcases y3 with ⟨z1, z2⟩ | ⟨q', z1, z2, z3⟩
    · rw [z1] at hq2; cases hq2
    · rw [z2] at y1
      have e0 : ((j : Int)).toNat = j := by omega
      have e1 : (j : Int) + 1 = ((j + 1 : Nat) : Int) := by omega
      have k1 := at_in (c := 136) (N := 60) rfl (by omega) (i := (j : Int)) (σ := σ) (by omega) (by omega)
      rw [e0, show σ.1 (136 + 1) j = _ from hB.2 j (by omega)] at k1
      have r := hB.1
      obtain ⟨τ, q'', w1, w2, w3, w4⟩ := ih (j + 1) g q' υ (by omega) (fun x h1 h2 => hs x (by omega) h2) ⟨by rw [y2.at (by omega)]; exact hB.1, fun i hi => by rw [y2.at (by omega)]; exact hB.2 i hi⟩ (by rw [rch_s hq]; exact z1) z3
      refine ⟨τ, q'', ?_, y2.tr w2, w3, w4⟩
      rw [← w1]
      show f_X6_addBufferedFeasts_b19 _ _ _ _ _ = _
      unfold f_X6_addBufferedFeasts_b19 f_X6_addBufferedFeasts_b53
      simp (disch := omega) only [iI_lit, ofNat_iI, iI_add, iI_sub, iI_mul, iI_neg, iI_lt_t, iI_lt_f, iI_le_t, iI_le_f, iI_eq_t, iI_eq_f, iI_div, rm_iI, tc_iI, inB_iI, nz_iI, is01_0, is01_1, gd_tt, bd_mk, bv_mk, oc_mk, lt_mk, Bool.false_eq_true, ↓reduceIte, r, k1, y1, e1]
      rfl
/-- what the adding leaves of the class -/
def FA (σ τ : St) : Prop := ∀ c, (c = 0 ∨ (19 < c ∧ c ≠ 138)) → τ.1 c = σ.1 c
/-- and of the reference -/
def FB (σ τ : St) : Prop := (∀ c, c ≠ 225 → c ≠ 226 → c ≠ 233 → τ.1 c = σ.1 c) ∧ (∀ j, j ≠ 10 → j ≠ 11 → τ.1 225 j = σ.1 225 j) ∧ τ.2 = σ.2
theorem FA.tr {σ τ υ : St} (h : FA σ τ) (h' : FA τ υ) : FA σ υ := fun c hc => (h' c hc).trans (h c hc)
theorem FB.tr {σ τ υ : St} (h : FB σ τ) (h' : FB τ υ) : FB σ υ := ⟨fun c h1 h2 h3 => (h'.1 c h1 h2 h3).trans (h.1 c h1 h2 h3), fun j h1 h2 => (h'.2.1 j h1 h2).trans (h.2.1 j h1 h2), h'.2.2.trans h.2.2⟩
theorem Fr.fa {σ τ : St} {lo hi : Nat} (h : Fr lo hi σ τ) (hc : (1 ≤ lo ∧ hi ≤ 20) ∨ (138 ≤ lo ∧ hi ≤ 139)) : FA σ τ := fun c h1 => h.1 c (by omega)
theorem FP.fb {σ τ : St} (h : FP σ τ) : FB σ τ := ⟨fun c h1 _ h3 => h.1 c h1 h3, h.2.1, h.2.2⟩
theorem BC.fa {σ τ : St} (h : BC σ len b) (e : FA σ τ) : BC τ len b := ⟨by rw [e 0 (by omega)]; exact h.1, fun i hi => by rw [e 137 (by omega)]; exact h.2 i hi⟩
theorem BR.fb {σ τ : St} (h : BR σ len b) (e : FB σ τ) : BR τ len b := ⟨by rw [e.2.1 5 (by omega) (by omega)]; exact h.1, fun i hi => by rw [e.1 228 (by omega) (by omega) (by omega)]; exact h.2 i hi⟩
theorem addBoth {qe : Q6} (hT : TX len b) (hG : rch b len = some qe) (hE : mayE qe) : ∀ (k i : Nat) (V : Nat → Int), len - i < k → i ≤ len → rch b i = some q0 → IZ V → ∃ V', IZ V' ∧ V 0 ≤ V' 0 ∧
    (∀ (g : Nat) (before : Int) (σ : St), len - i + 3 ≤ g → BC σ len b → RD σ q0 → RS σ 1 V → ∃ τ, f_X6_addBufferedFeasts_l19 g (iI before) (iI 1) (iI (i : Int)) σ = some (iI (V' 0 - before), τ) ∧ RS τ 1 V' ∧ FA σ τ) ∧
    (∀ (g : Nat) (many : Int) (σ : St), len - i + 3 ≤ g → BR σ len b → PS σ i 0 → RMv σ V → ∃ τ, f_X7_go_l14 g (iI 1) (iI many) (iI 1) σ = some (iI (many + (V' 0 - V 0)), τ) ∧ RMv τ V' ∧ FB σ τ) := by
  have hl := hT.1
  intro k
  induction k with
  | zero => intro i V h; omega
  | succ k ih =>
    intro i V hk hi hq hZ
    have hn10 := hZ.1.1
    obtain ⟨e, he⟩ : ∃ e, e = nxt b (len - i) i := ⟨_, rfl⟩
    obtain ⟨n1, n2, n3, n4⟩ := nxt_s b (len - i) i
    rw [← he] at n1 n2 n3 n4
    rw [show i + (len - i) = len by omega] at n2 n4
    obtain ⟨q, hqe⟩ := rch_tot hG n2
    have hB := rch_RB hqe
    have hEq : mayE q := by
      by_cases c : e = len
      · rw [c, hG] at hqe; rw [← Option.some.inj hqe]; exact hE
      · obtain ⟨q2, hq2⟩ := rch_tot hG (i := e + 1) (by omega)
        rw [rch_s hqe, n4 (by omega)] at hq2
        exact (sep_s hB hq2).1
    -- the reference comes to the same end
    have RE : ∀ σ : St, BR σ len b → PS σ i 0 → ∃ τ, f_X7_read σ = some τ ∧ FP σ τ ∧ PS τ e 0 ∧ τ.1 233 0 = iI q.2.1 ∧ τ.1 233 1 = iI q.2.2.2.2.2 ∧ τ.1 233 2 = iI (dayQ q) ∧ τ.1 233 3 = iI q.2.2.2.2.1 := by
      intro σ hBR hP
      obtain ⟨τ, x1, x2, x3⟩ := read_v hBR hT hP hi hq
      refine ⟨τ, x1, x2, ?_⟩
      rcases x3 with ⟨e1, w1, q1, w2, w3, w4⟩ | ⟨e1, q1, w1, w2, w3, w4, w5, w6, w7, w8, w9, w10⟩
      · exfalso
        rcases w4 with ⟨w5, w6⟩ | ⟨w5, w6⟩
        · rw [w5, hG] at w2; exact w6 (by rw [← Option.some.inj w2]; exact hE)
        · obtain ⟨q2, hq2⟩ := rch_tot hG (i := e1 + 1) (by omega)
          rw [rch_s w2, w6] at hq2; cases hq2
      · have w11 : e1 = len ∨ b e1 = 59 := by
          by_cases c : e1 = len
          · exact .inl c
          · right
            by_cases d : b e1 = 59
            · exact d
            · exfalso
              obtain ⟨q2, hq2⟩ := rch_tot hG (i := e1 + 1) (by omega)
              rw [rch_s w2, w6 (by omega) d] at hq2; cases hq2
        have w12 : e1 = e := by
          rcases Nat.lt_trichotomy e1 e with c | c | c
          · exfalso
            rcases w11 with d | d
            · omega
            · exact n3 e1 w4.1 c d
          · exact c
          · exfalso
            exact w4.2 e n1 c (n4 (by omega))
        subst w12
        rw [hqe] at w2
        obtain rfl := Option.some.inj w2
        exact ⟨w1, w7, w8, w9, w10⟩
    by_cases cm : may V q
    · have Z1 := adF_IZ hZ hB hEq cm
      by_cases ce : e = len
      · -- the last one
        refine ⟨adF V q, Z1, by rw [adF_0]; omega, fun g before σ hg hBC hD hS => ?_, fun g many σ hg hBR hP hM => ?_⟩
        · obtain ⟨g', rfl⟩ : ∃ g', g = g' + 1 + (e - i) := ⟨g - 1 - (e - i), by omega⟩
          obtain ⟨σ1, q', y1, y2, y3, y4⟩ := segC (y := iI before) hT hG n2 (e - i) i (g' + 1) q0 σ (by omega) n3 hBC hq hD
          rw [hqe] at y3
          obtain rfl := Option.some.inj y3
          obtain ⟨σ2, x, z1, z2, z3⟩ := addReadC hZ.1 (hS.fr y2 (by omega)) y4 hB
          rcases z3 with ⟨-, z4, z5⟩ | ⟨z4, -⟩
          · have B1 := hBC.fa (y2.fa (by omega))
            have r := B1.1
            have r2 := z5.1
            refine ⟨σ2, ?_, z5, (y2.fa (by omega)).tr (z2.fa (by omega))⟩
            rw [y1]
            show f_X6_addBufferedFeasts_b19 _ _ _ _ _ = _
            unfold f_X6_addBufferedFeasts_b19 f_X6_addBufferedFeasts_b69 f_X6_addBufferedFeasts_b78
            rw [z4] at z1
            simp (disch := omega) only [iI_lit, ofNat_iI, iI_add, iI_sub, iI_mul, iI_neg, iI_lt_t, iI_lt_f, iI_le_t, iI_le_f, iI_eq_t, iI_eq_f, iI_div, rm_iI, tc_iI, inB_iI, nz_iI, is01_0, is01_1, gd_tt, bd_mk, bv_mk, oc_mk, lt_mk, Bool.false_eq_true, ↓reduceIte, r, ce, z1, r2]
          · exact absurd cm z4
        · obtain ⟨g', rfl⟩ : ∃ g', g = g' + 1 + 1 := ⟨g - 2, by omega⟩
          obtain ⟨σ1, x1, x2, x3, t0, t1, t2, t3⟩ := RE σ hBR hP
          have M1 : RMv σ1 V := fun j hj => by rw [x2.1 226 (by omega) (by omega)]; exact hM j hj
          obtain ⟨σ2, x, z1, z2, z3⟩ := addsR hZ.1 M1 hB t0 t1 t2 t3
          rcases z3 with ⟨-, z4, z5⟩ | ⟨z4, -⟩
          · have B1 := hBR.fp x2
            have r : σ2.1 225 5 = iI (len : Int) := by rw [z2.at (by omega)]; exact B1.1
            have p1 : σ2.1 225 10 = iI (e : Int) := by rw [z2.at (by omega)]; exact x3.1
            have p2 : σ2.1 225 11 = iI 0 := by rw [z2.at (by omega)]; exact x3.2
            refine ⟨σ2, ?_, z5, x2.fb.tr ⟨fun c h1 h2 h3 => z2.1 c (by omega), fun j h1 h2 => by rw [z2.at (by omega)], z2.2⟩⟩
            rw [z4] at z1
            have fin : ∀ v, f_X7_go_l14 (g' + 1) (iI 1) v (iI 0) σ2 = some (v, σ2) := by
              intro v
              show f_X7_go_b14 _ _ _ _ _ = _
              unfold f_X7_go_b14
              simp (disch := omega) only [iI_lit, ofNat_iI, iI_add, iI_sub, iI_mul, iI_neg, iI_lt_t, iI_lt_f, iI_le_t, iI_le_f, iI_eq_t, iI_eq_f, iI_div, rm_iI, tc_iI, inB_iI, nz_iI, is01_0, is01_1, gd_tt, bd_mk, bv_mk, oc_mk, lt_mk, Bool.false_eq_true, ↓reduceIte]
            show f_X7_go_b14 _ _ _ _ _ = _
            unfold f_X7_go_b14 f_X7_go_b38 f_X7_go_b51 f_X7_go_b69 f_X7_go_b84 f_X7_go_b85
            rw [adF_0, show many + (V 0 + 1 - V 0) = many + 1 by omega]
            simp (disch := omega) only [iI_lit, ofNat_iI, iI_add, iI_sub, iI_mul, iI_neg, iI_lt_t, iI_lt_f, iI_le_t, iI_le_f, iI_eq_t, iI_eq_f, iI_div, rm_iI, tc_iI, inB_iI, nz_iI, is01_0, is01_1, gd_tt, bd_mk, bv_mk, oc_mk, lt_mk, Bool.false_eq_true, ↓reduceIte, x1, z1, p1, p2, r, ce, fin]
          · exact absurd cm z4
      · -- and on behind the sign
        have he' : e < len := by omega
        have hb59 := n4 he'
        have hq1 : rch b (e + 1) = some q0 := by
          obtain ⟨q2, hq2⟩ := rch_tot hG (i := e + 1) (by omega)
          have h3 := hq2
          rw [rch_s hqe, hb59] at h3
          rw [hq2, (sep_s hB h3).2]
        obtain ⟨V', I1, I2, I3, I4⟩ := ih (e + 1) (adF V q) (by omega) (by omega) hq1 Z1
        rw [adF_0] at I2
        refine ⟨V', I1, by omega, fun g before σ hg hBC hD hS => ?_, fun g many σ hg hBR hP hM => ?_⟩
        · obtain ⟨g', rfl⟩ : ∃ g', g = g' + 1 + (e - i) := ⟨g - 1 - (e - i), by omega⟩
          obtain ⟨σ1, q', y1, y2, y3, y4⟩ := segC (y := iI before) hT hG n2 (e - i) i (g' + 1) q0 σ (by omega) n3 hBC hq hD
          rw [hqe] at y3
          obtain rfl := Option.some.inj y3
          obtain ⟨σ2, x, z1, z2, z3⟩ := addReadC hZ.1 (hS.fr y2 (by omega)) y4 hB
          rcases z3 with ⟨-, z4, z5⟩ | ⟨z4, -⟩
          · have B1 := hBC.fa (y2.fa (by omega))
            have r := B1.1
            have e0 : ((e : Int)).toNat = e := by omega
            have e1 : (e : Int) + 1 = ((e + 1 : Nat) : Int) := by omega
            have k1 := at_in (c := 136) (N := 60) rfl (by omega) (i := (e : Int)) (σ := σ1) (by omega) (by omega)
            rw [e0, show σ1.1 (136 + 1) e = _ from B1.2 e he', hb59] at k1
            obtain ⟨σ3, x', w1, w2, w3⟩ := reads_v (c := 59) (y4.fr z2 (by omega)) hB (by omega)
            rcases w3 with ⟨v1, v2⟩ | ⟨q', v1, v2, v3⟩
            · rw [rch_s hqe, hb59, v1] at hq1; cases hq1
            · have hq0 := (sep_s hB v1).2
              rw [hq0] at v3
              obtain ⟨τ, u1, u2, u3⟩ := I3 g' before σ3 (by omega) ((B1.fa (z2.fa (by omega))).fa (w2.fa (by omega))) v3 (z5.fr w2 (by omega))
              refine ⟨τ, ?_, u2, (((y2.fa (by omega)).tr (z2.fa (by omega))).tr (w2.fa (by omega))).tr u3⟩
              rw [y1]
              show f_X6_addBufferedFeasts_b19 _ _ _ _ _ = _
              unfold f_X6_addBufferedFeasts_b19 f_X6_addBufferedFeasts_b53
              rw [z4] at z1
              simp (disch := omega) only [iI_lit, ofNat_iI, iI_add, iI_sub, iI_mul, iI_neg, iI_lt_t, iI_lt_f, iI_le_t, iI_le_f, iI_eq_t, iI_eq_f, iI_div, rm_iI, tc_iI, inB_iI, nz_iI, is01_0, is01_1, gd_tt, bd_mk, bv_mk, oc_mk, lt_mk, Bool.false_eq_true, ↓reduceIte, r, k1, z1, w1, e1, u1]
          · exact absurd cm z4
        · obtain ⟨g', rfl⟩ : ∃ g', g = g' + 1 := ⟨g - 1, by omega⟩
          obtain ⟨σ1, x1, x2, x3, t0, t1, t2, t3⟩ := RE σ hBR hP
          have M1 : RMv σ1 V := fun j hj => by rw [x2.1 226 (by omega) (by omega)]; exact hM j hj
          obtain ⟨σ2, x, z1, z2, z3⟩ := addsR hZ.1 M1 hB t0 t1 t2 t3
          rcases z3 with ⟨-, z4, z5⟩ | ⟨z4, -⟩
          · have F2 : FB σ1 σ2 := ⟨fun c h1 h2 h3 => z2.1 c (by omega), fun j h1 h2 => by rw [z2.at (by omega)], z2.2⟩
            have B2 := (hBR.fp x2).fb F2
            have r := B2.1
            have p1 : σ2.1 225 10 = iI (e : Int) := by rw [z2.at (by omega)]; exact x3.1
            have p2 : σ2.1 225 11 = iI 0 := by rw [z2.at (by omega)]; exact x3.2
            obtain ⟨σ3, w1, w2, w3⟩ := sign_ok (lo := 59) (hi := 59) B2 hT ⟨p1, p2⟩ he' (by omega) (by omega) (by omega)
            have v2 := w3.2
            obtain ⟨τ, u1, u2, u3⟩ := I4 g' (many + 1) σ3 (by omega) (B2.fp w2.fp) w3 (fun j hj => by rw [w2.1 226 (by omega)]; exact z5 j hj)
            rw [adF_0, show many + 1 + (V' 0 - (V 0 + 1)) = many + (V' 0 - V 0) by omega] at u1
            refine ⟨τ, ?_, u2, ((x2.fb.tr F2).tr w2.fp.fb).tr u3⟩
            rw [z4] at z1
            show f_X7_go_b14 _ _ _ _ _ = _
            unfold f_X7_go_b14 f_X7_go_b38 f_X7_go_b51 f_X7_go_b69 f_X7_go_b85
            simp (disch := omega) only [iI_lit, ofNat_iI, iI_add, iI_sub, iI_mul, iI_neg, iI_lt_t, iI_lt_f, iI_le_t, iI_le_f, iI_eq_t, iI_eq_f, iI_div, rm_iI, tc_iI, inB_iI, nz_iI, is01_0, is01_1, gd_tt, bd_mk, bv_mk, oc_mk, lt_mk, Bool.false_eq_true, ↓reduceIte, x1, z1, p1, p2, r, w1, v2, u1]
          · exact absurd cm z4
    · -- it can't be added
      refine ⟨V, hZ, Int.le_refl _, fun g before σ hg hBC hD hS => ?_, fun g many σ hg hBR hP hM => ?_⟩
      · obtain ⟨g', rfl⟩ : ∃ g', g = g' + 1 + 1 + (e - i) := ⟨g - 2 - (e - i), by omega⟩
        obtain ⟨σ1, q', y1, y2, y3, y4⟩ := segC (y := iI before) hT hG n2 (e - i) i (g' + 1 + 1) q0 σ (by omega) n3 hBC hq hD
        rw [hqe] at y3
        obtain rfl := Option.some.inj y3
        have S1 := hS.fr y2 (by omega)
        obtain ⟨σ2, x, z1, z2, z3⟩ := addReadC hZ.1 S1 y4 hB
        rcases z3 with ⟨z4, -⟩ | ⟨-, z4, z5⟩
        · exact absurd z4 cm
        · subst z5
          rw [z4] at z1
          have B1 := hBC.fa (y2.fa (by omega))
          have r := B1.1
          have r0 := S1.1
          by_cases ce : e = len
          · refine ⟨_, ?_, S1, y2.fa (by omega)⟩
            rw [y1]
            show f_X6_addBufferedFeasts_b19 _ _ _ _ _ = _
            unfold f_X6_addBufferedFeasts_b19 f_X6_addBufferedFeasts_b69 f_X6_addBufferedFeasts_b78
            simp (disch := omega) only [iI_lit, ofNat_iI, iI_add, iI_sub, iI_mul, iI_neg, iI_lt_t, iI_lt_f, iI_le_t, iI_le_f, iI_eq_t, iI_eq_f, iI_div, rm_iI, tc_iI, inB_iI, nz_iI, is01_0, is01_1, gd_tt, bd_mk, bv_mk, oc_mk, lt_mk, Bool.false_eq_true, ↓reduceIte, r, ce, z1, r0]
          · have he' : e < len := by omega
            have hb59 := n4 he'
            have e0 : ((e : Int)).toNat = e := by omega
            have e1 : (e : Int) + 1 = ((e + 1 : Nat) : Int) := by omega
            have k1 := at_in (c := 136) (N := 60) rfl (by omega) (i := (e : Int)) (σ := σ2) (by omega) (by omega)
            rw [e0, show σ2.1 (136 + 1) e = _ from B1.2 e he', hb59] at k1
            obtain ⟨σ3, x', w1, w2, w3⟩ := reads_v (c := 59) y4 hB (by omega)
            have S3 := S1.fr w2 (by omega)
            have B3 := B1.fa (w2.fa (by omega))
            have r3 := B3.1
            have r4 := S3.1
            have fin : f_X6_addBufferedFeasts_l19 (g' + 1) (iI before) (iI 0) (iI ((e + 1 : Nat) : Int)) σ3 = some (iI (V 0 - before), σ3) := by
              show f_X6_addBufferedFeasts_b19 _ _ _ _ _ = _
              unfold f_X6_addBufferedFeasts_b19 f_X6_addBufferedFeasts_b69 f_X6_addBufferedFeasts_b78
              by_cases c7 : len ≤ e + 1
              · simp (disch := omega) only [iI_lit, ofNat_iI, iI_add, iI_sub, iI_mul, iI_neg, iI_lt_t, iI_lt_f, iI_le_t, iI_le_f, iI_eq_t, iI_eq_f, iI_div, rm_iI, tc_iI, inB_iI, nz_iI, is01_0, is01_1, gd_tt, bd_mk, bv_mk, oc_mk, lt_mk, Bool.false_eq_true, ↓reduceIte, r3, r4]
              · simp (disch := omega) only [iI_lit, ofNat_iI, iI_add, iI_sub, iI_mul, iI_neg, iI_lt_t, iI_lt_f, iI_le_t, iI_le_f, iI_eq_t, iI_eq_f, iI_div, rm_iI, tc_iI, inB_iI, nz_iI, is01_0, is01_1, gd_tt, bd_mk, bv_mk, oc_mk, lt_mk, Bool.false_eq_true, ↓reduceIte, r3, r4]
            refine ⟨σ3, ?_, S3, (y2.fa (by omega)).tr (w2.fa (by omega))⟩
            rw [y1]
            show f_X6_addBufferedFeasts_b19 _ _ _ _ _ = _
            unfold f_X6_addBufferedFeasts_b19 f_X6_addBufferedFeasts_b53
            simp (disch := omega) only [iI_lit, ofNat_iI, iI_add, iI_sub, iI_mul, iI_neg, iI_lt_t, iI_lt_f, iI_le_t, iI_le_f, iI_eq_t, iI_eq_f, iI_div, rm_iI, tc_iI, inB_iI, nz_iI, is01_0, is01_1, gd_tt, bd_mk, bv_mk, oc_mk, lt_mk, Bool.false_eq_true, ↓reduceIte, r, k1, z1, w1, e1, fin]
      · obtain ⟨g', rfl⟩ : ∃ g', g = g' + 1 + 1 := ⟨g - 2, by omega⟩
        obtain ⟨σ1, x1, x2, x3, t0, t1, t2, t3⟩ := RE σ hBR hP
        have M1 : RMv σ1 V := fun j hj => by rw [x2.1 226 (by omega) (by omega)]; exact hM j hj
        obtain ⟨σ2, x, z1, z2, z3⟩ := addsR hZ.1 M1 hB t0 t1 t2 t3
        rcases z3 with ⟨z4, -⟩ | ⟨-, z4, z5⟩
        · exact absurd z4 cm
        · have p2 : σ2.1 225 11 = iI 0 := by rw [z2.at (by omega)]; exact x3.2
          refine ⟨σ2, ?_, z5, x2.fb.tr ⟨fun c h1 h2 h3 => z2.1 c (by omega), fun j h1 h2 => by rw [z2.at (by omega)], z2.2⟩⟩
          rw [z4] at z1
          have fin : ∀ v, f_X7_go_l14 (g' + 1) (iI 1) v (iI 0) σ2 = some (v, σ2) := by
            intro v
            show f_X7_go_b14 _ _ _ _ _ = _
            unfold f_X7_go_b14
            simp (disch := omega) only [iI_lit, ofNat_iI, iI_add, iI_sub, iI_mul, iI_neg, iI_lt_t, iI_lt_f, iI_le_t, iI_le_f, iI_eq_t, iI_eq_f, iI_div, rm_iI, tc_iI, inB_iI, nz_iI, is01_0, is01_1, gd_tt, bd_mk, bv_mk, oc_mk, lt_mk, Bool.false_eq_true, ↓reduceIte]
          show f_X7_go_b14 _ _ _ _ _ = _
          unfold f_X7_go_b14 f_X7_go_b37 f_X7_go_b38 f_X7_go_b51 f_X7_go_b84 f_X7_go_b85
          rw [show many + (V 0 - V 0) = many by omega]
          simp (disch := omega) only [iI_lit, ofNat_iI, iI_add, iI_sub, iI_mul, iI_neg, iI_lt_t, iI_lt_f, iI_le_t, iI_le_f, iI_eq_t, iI_eq_f, iI_div, rm_iI, tc_iI, inB_iI, nz_iI, is01_0, is01_1, gd_tt, bd_mk, bv_mk, oc_mk, lt_mk, Bool.false_eq_true, ↓reduceIte, x1, z1, p2, Int.add_zero, fin]
end PR
