/-! the reference lays: its loops -/
theorem orN_b2 {D x : Int} (h : 0 < D) : -1 ≤ orN D x ∧ orN D x < D := by unfold orN; split <;> omega
theorem PT_b2 (V : Nat → Int) (y s : Int) (f g : Nat) : -1 ≤ PT V y s f g ∧ PT V y s f g < dys y := by
  have hd := dys_b y
  induction f with
  | zero => show -1 ≤ (-1 : Int) ∧ (-1 : Int) < dys y; omega
  | succ f ih =>
    show -1 ≤ updf _ _ _ g ∧ updf _ _ _ g < dys y
    by_cases h : g = f
    · rw [h, updf_at]; exact orN_b2 (by omega)
    · rw [updf_ne h]; exact ih
theorem stN_b2 {V : Nat → Int} {D : Int} {p N : Nat → Int} {r : Int} {f : Nat} (hD : 0 < D) (h : ∀ g, -1 ≤ N g ∧ N g < D) (g : Nat) : -1 ≤ stN V D p N r f g ∧ stN V D p N r f g < D := by
  unfold stN
  split
  · by_cases h1 : g = f
    · rw [h1, updf_at]; exact orN_b2 hD
    · rw [updf_ne h1]; exact h g
  · exact h g
theorem CR_b2 {V : Nat → Int} {D : Int} {p N : Nat → Int} {r : Int} (hD : 0 < D) (h : ∀ g, -1 ≤ N g ∧ N g < D) : ∀ f g, -1 ≤ CR V D p N r f g ∧ CR V D p N r f g < D := by
  intro f
  induction f with
  | zero => exact h
  | succ f ih => exact fun g => stN_b2 hD ih g
theorem RR_b2 {V : Nat → Int} {D : Int} {p : Nat → Int} (hD : 0 < D) : ∀ q g, -1 ≤ RR V D p q g ∧ RR V D p q g < D := by
  intro q
  induction q with
  | zero => intro g; show -1 ≤ (-1 : Int) ∧ (-1 : Int) < D; omega
  | succ q ih => exact fun g => CR_b2 hD ih _ g
theorem lay_clear (y : Int32) (σ : St) : ∃ τ, (Fr 231 232 σ τ ∧ ∀ d : Nat, d < 366 → τ.1 231 d = iI 0) ∧ f_X7_lay_l8 FU y (iI ((0 : Nat) : Int)) σ = f_X7_lay_l30 FU y (iI 0) τ := by
  have H := wlp (F := fun g (s : Nat × St) => f_X7_lay_l8 g y (iI (s.1 : Int)) s.2) (X := fun τ => f_X7_lay_l30 FU y (iI 0) τ) (fun s => 366 - s.1) (fun s => s.1 ≤ 366 ∧ Fr 231 232 σ s.2 ∧ ∀ d : Nat, d < s.1 → s.2.1 231 d = iI 0) (fun τ => Fr 231 232 σ τ ∧ ∀ d : Nat, d < 366 → τ.1 231 d = iI 0) (by
    rintro g ⟨i, τ⟩ ⟨h0, hF, hv⟩
    simp only at h0 hv hF
    have e0 : ((i : Int)).toNat = i := by omega
    have e1 : (i : Int) + 1 = ((i + 1 : Nat) : Int) := by omega
    rcases (show 366 ≤ i ∨ i < 366 by omega) with h | h
    · refine .inl ⟨τ, ⟨hF, fun d hd => hv d (by omega)⟩, ?_⟩
      show f_X7_lay_b8 _ _ _ _ = _
      unfold f_X7_lay_b8
      simp (disch := omega) only [iI_lit, ofNat_iI, iI_add, iI_sub, iI_mul, iI_neg, iI_lt_t, iI_lt_f, iI_le_t, iI_le_f, iI_eq_t, iI_eq_f, iI_div, rm_iI, tc_iI, inB_iI, nz_iI, is01_0, is01_1, gd_tt, bd_mk, bv_mk, oc_mk, lt_mk, Bool.false_eq_true, ↓reduceIte]
    · refine .inr ⟨(i + 1, sI τ 231 i (iI 0)), ⟨by simp only; omega, hF.tr (Fr.sI (by omega) (by omega)), fun d hd => ?_⟩, by simp only; omega, ?_⟩
      · simp only at hd ⊢
        by_cases hk : d = i
        · rw [hk, sI_hit]
        · rw [sI_k hk]; exact hv d (by omega)
      · show f_X7_lay_b8 _ _ _ _ = _
        unfold f_X7_lay_b8
        simp (disch := omega) only [iI_lit, ofNat_iI, iI_add, iI_sub, iI_mul, iI_neg, iI_lt_t, iI_lt_f, iI_le_t, iI_le_f, iI_eq_t, iI_eq_f, iI_div, rm_iI, tc_iI, inB_iI, nz_iI, is01_0, is01_1, gd_tt, bd_mk, bv_mk, oc_mk, lt_mk, Bool.false_eq_true, ↓reduceIte, e0, e1])
  exact H FU (0, σ) ⟨by simp, Fr.rfl, fun d hd => by simp only at hd; omega⟩ (by simp only [FU]; omega)
theorem RMv.fr2 {σ τ : St} {V : Nat → Int} {lo hi : Nat} (h : RMv σ V) (e : Fr lo hi σ τ) (hc : 226 < lo) : RMv τ V := h.fr e (.inl hc)
theorem lay_loop {y : Int} {V p : Nat → Int} {σ : St} {n : Nat} (hM : RMv σ V) (hI : IV V) (hn : V 0 = (n : Int)) (hy : 0 ≤ y ∧ y ≤ 999) (hp : ∀ g : Nat, g < n → σ.1 229 g = iI (p g)) (hpb : ∀ g, -1 ≤ p g ∧ p g < dys y) (hc : ∀ d : Nat, d < 366 → σ.1 231 d = iI 0) :
    ∃ τ, (Fr 230 232 σ τ ∧ ∀ g : Nat, g < n → τ.1 230 g = iI (RR V (dys y) p 10 g)) ∧ f_X7_lay_l30 FU (iI y) (iI ((0 : Nat) : Int)) σ = some τ := by
  have hDb := dys_b y
  have hn10 : n ≤ 10 := by have := hI.1; omega
  have H := wlp (F := fun g (s : Nat × Nat × Nat × St) => f_X7_lay_l30 g (iI y) (iI (s.1 : Int)) s.2.2.2) (X := fun τ => some τ) (fun s => 10 * n - s.1) (fun s => s.1 = s.2.1 * n + s.2.2.1 ∧ ((s.1 < 10 * n ∧ s.2.2.1 < n ∧ s.2.1 < 10) ∨ (s.1 = 10 * n ∧ s.2.1 = 10 ∧ s.2.2.1 = 0)) ∧ Fr 230 232 σ s.2.2.2 ∧ LI V n s.2.2.2 (CR V (dys y) p (RR V (dys y) p s.2.1) (9 - (s.2.1 : Int)) s.2.2.1) s.2.1 s.2.2.1) (fun τ => Fr 230 232 σ τ ∧ ∀ g : Nat, g < n → τ.1 230 g = iI (RR V (dys y) p 10 g)) (by
    rintro g ⟨k, q, f, τ⟩ ⟨hk, hc, hF, hL⟩
    simp only at hk hc hF hL
    have tM : RMv τ V := hM.fr hF (by omega)
    rcases hc with ⟨c1, c2, c3⟩ | ⟨c1, c2, c3⟩
    · right
      have hm1 : k % n = f := by rw [hk, Nat.add_comm, Nat.add_mul_mod_self_right, Nat.mod_eq_of_lt c2]
      have hm2 : k / n = q := by rw [hk, Nat.add_comm, Nat.add_mul_div_right _ _ (by omega), Nat.div_eq_of_lt c2, Nat.zero_add]
      have tp : ∀ g : Nat, g < n → τ.1 229 g = iI (p g) := by rw [hF.at (by omega)]; exact hp
      obtain ⟨τ', x1, x2, x3⟩ := lay_step (K30 := f_X7_lay_l30 g) (k := (k : Int)) tM hI hn c2 c3 hy tp hpb (CR_b2 (by omega) (RR_b2 (by omega) q) f) (by rw [← Int.natCast_emod, hm1]) (by rw [← Int.natCast_ediv, hm2]) (by omega) hL
      have hq1 : (q + 1) * n ≤ 10 * n := Nat.mul_le_mul_right n (by omega)
      have hq2 : (q + 1) * n = q * n + n := Nat.succ_mul q n
      have e1 : (k : Int) + 1 = ((k + 1 : Nat) : Int) := by omega
      rw [e1] at x1
      by_cases c4 : f + 1 < n
      · exact ⟨(k + 1, q, f + 1, τ'), ⟨by simp only; omega, .inl ⟨by simp only; omega, c4, c3⟩, hF.tr x2, x3⟩, by simp only; omega, x1⟩
      · have c5 : f + 1 = n := by omega
        have x4 : LI V n τ' (CR V (dys y) p (RR V (dys y) p (q + 1)) (9 - ((q + 1 : Nat) : Int)) 0) (q + 1) 0 := by
          have hN : RR V (dys y) p (q + 1) = stN V (dys y) p (CR V (dys y) p (RR V (dys y) p q) (9 - (q : Int)) f) (9 - (q : Int)) f := by
            show CR V (dys y) p (RR V (dys y) p q) (9 - (q : Int)) (V 0).toNat = _
            rw [hn, Int.toNat_natCast, ← c5]
            exact Eq.refl _
          show LI V n τ' (RR V (dys y) p (q + 1)) (q + 1) 0
          rw [hN]
          obtain ⟨y1, y2, y3⟩ := x3
          have hst : ∀ g, g < n → (LD V (q + 1) 0 g ↔ LD V q (f + 1) g) := by intro g hg; unfold LD; omega
          exact ⟨y1, fun g hg hl => y2 g hg ((hst g hg).mp hl), fun g hg hl => y3 g hg (fun h => hl ((hst g hg).mpr h))⟩
        refine ⟨(k + 1, q + 1, 0, τ'), ⟨by simp only; omega, ?_, hF.tr x2, x4⟩, by simp only; omega, x1⟩
        simp only
        by_cases c6 : q + 1 < 10
        · have hq3 : (q + 2) * n ≤ 10 * n := Nat.mul_le_mul_right n (by omega)
          have hq4 : (q + 2) * n = (q + 1) * n + n := Nat.succ_mul (q + 1) n
          exact .inl ⟨by omega, by omega, c6⟩
        · have c7 : q + 1 = 10 := by omega
          have hq3 : (q + 1) * n = 10 * n := by rw [c7]
          exact .inr ⟨by omega, c7, trivial⟩
    · left
      subst c2
      subst c3
      refine ⟨τ, ⟨hF, fun g hg => hL.2.1 g hg ?_⟩, ?_⟩
      · have := (hI.2.2.2.2.1 g (by omega)).2.2.1
        unfold LD; omega
      · show f_X7_lay_b30 _ _ _ _ = _
        unfold f_X7_lay_b30
        have m0 := tM 0 (by omega)
        rw [hn] at m0
        have c8 : (k : Int) = 10 * (n : Int) := by omega
        simp (disch := omega) only [iI_lit, ofNat_iI, iI_add, iI_sub, iI_mul, iI_neg, iI_lt_t, iI_lt_f, iI_le_t, iI_le_f, iI_eq_t, iI_eq_f, iI_div, rm_iI, tc_iI, inB_iI, nz_iI, is01_0, is01_1, gd_tt, bd_mk, bv_mk, oc_mk, lt_mk, Bool.false_eq_true, ↓reduceIte, Int.reduceToNat, m0, c8])
  rcases Nat.eq_zero_or_pos n with h0 | h0
  · exact H FU (0, 10, 0, σ) ⟨by simp [h0], .inr ⟨by simp [h0], rfl, rfl⟩, Fr.rfl, ⟨fun d hd => by rw [h0]; exact hc d hd, fun g hg => by omega, fun g hg => by omega⟩⟩ (by simp only [FU]; omega)
  · refine H FU (0, 0, 0, σ) ⟨by simp, .inl ⟨by simp only; omega, h0, by simp⟩, Fr.rfl, ⟨fun d hd => ?_, fun g hg hl => ?_, fun g hg hl => rfl⟩⟩ (by simp only [FU]; omega)
    · have : hasF (fun _ => -1) (d : Int) n 0 = false := by
        cases h9 : hasF (fun _ => -1) (d : Int) n 0 with
        | false => rfl
        | true => obtain ⟨g, -, -, h3⟩ := (hasF_iff _ _ _ _).mp h9; omega
      show σ.1 231 d = iI (if hasF (fun _ => -1) (d : Int) n 0 = true then 1 else 0)
      rw [this]; exact hc d hd
    · exfalso
      have := (hI.2.2.2.2.1 g (by omega)).2.2.2.1
      have hl : LD V 0 0 g := hl
      unfold LD at hl; omega
/-- a laying, as it lies in the reference's cells -/
def MG (σ : St) (V : Nat → Int) (y s : Int) : Prop := (∀ g : Nat, g < (V 0).toNat → σ.1 229 g = iI (Pr V y s g)) ∧ (∀ g : Nat, g < (V 0).toNat → σ.1 230 g = iI (Nt V y s g))
theorem lay_v {y s : Int} {V : Nat → Int} {σ : St} (hM : RMv σ V) (hI : IV V) (hy : 0 ≤ y ∧ y ≤ 999) (hs : -5 ≤ s ∧ s ≤ 5) : ∃ τ, f_X7_lay (iI y) (iI s) σ = some τ ∧ Fr 229 232 σ τ ∧ MG τ V y s := by
  obtain ⟨n, hn⟩ : ∃ n, n = (V 0).toNat := ⟨_, rfl⟩
  have hnV : V 0 = (n : Int) := by have := hI.1; omega
  obtain ⟨σ1, E1, F1, P1⟩ := findProper_v hM hI hy hs
  obtain ⟨σ2, ⟨F2, C2⟩, E2⟩ := lay_clear (iI y) σ1
  rw [← hn] at P1
  have M2 : RMv σ2 V := (hM.fr F1 (by omega)).fr F2 (by omega)
  have P2 : ∀ g : Nat, g < n → σ2.1 229 g = iI (Pr V y s g) := by intro g hg; rw [F2.at (by omega)]; exact P1 g hg
  obtain ⟨σ3, ⟨F3, N3⟩, E3⟩ := lay_loop M2 hI hnV hy P2 (PT_b2 V y s _) C2
  refine ⟨σ3, ?_, ((F1.mo (by omega) (by omega)).tr (F2.mo (by omega) (by omega))).tr (F3.mo (by omega) (by omega)), ?_, ?_⟩
  · unfold f_X7_lay
    rw [E1]
    simp only [bv_mk, iI_lit]
    exact E2.trans E3
  · rw [← hn]; intro g hg; rw [F3.at (by omega)]; exact P2 g hg
  · rw [← hn]; exact N3
