/-! the calmest slip -/
theorem rawP_cong {V W : Nat → Int} {y s : Int} {p : Nat → Int} {f : Nat} (h1 : ∀ k, 1 ≤ k → k ≤ 40 → V k = W k) (h44 : V 44 = W 44) (hf : f < 10) : rawP V y s p f = rawP W y s p f := by
  unfold rawP
  rw [h1 (1 + 4 * f) (by omega) (by omega), h1 (3 + 4 * f) (by omega) (by omega), h1 (4 + 4 * f) (by omega) (by omega), h44]
theorem PT_cong {V W : Nat → Int} {y s : Int} (h1 : ∀ k, 1 ≤ k → k ≤ 40 → V k = W k) (h44 : V 44 = W 44) : ∀ f, f ≤ 10 → PT V y s f = PT W y s f := by
  intro f
  induction f with
  | zero => intro _; rfl
  | succ f ih =>
    intro hf
    show updf (PT V y s f) f (orN (dys y) (rawP V y s (PT V y s f) f)) = updf (PT W y s f) f (orN (dys y) (rawP W y s (PT W y s f) f))
    rw [ih (by omega), rawP_cong h1 h44 (by omega)]
theorem CR_cong {V W : Nat → Int} {D : Int} {p N : Nat → Int} {r : Int} (h0 : V 0 = W 0) (h1 : ∀ k, 1 ≤ k → k ≤ 40 → V k = W k) : ∀ f, f ≤ 10 → CR V D p N r f = CR W D p N r f := by
  intro f
  induction f with
  | zero => intro _; rfl
  | succ f ih =>
    intro hf
    show stN V D p (CR V D p N r f) r f = stN W D p (CR W D p N r f) r f
    rw [ih (by omega)]
    unfold stN
    rw [h1 (2 + 4 * f) (by omega) (by omega), h0]
theorem RR_cong {V W : Nat → Int} {D : Int} {p : Nat → Int} (hb : V 0 ≤ 10) (h0 : V 0 = W 0) (h1 : ∀ k, 1 ≤ k → k ≤ 40 → V k = W k) : ∀ q, RR V D p q = RR W D p q := by
  intro q
  induction q with
  | zero => rfl
  | succ q ih =>
    show CR V D p (RR V D p q) (9 - q) (V 0).toNat = CR W D p (RR W D p q) (9 - q) (W 0).toNat
    rw [ih, ← h0, CR_cong h0 h1 _ (by omega)]
theorem Pr_cong {V W : Nat → Int} {y s : Int} (hb : V 0 ≤ 10) (h0 : V 0 = W 0) (h1 : ∀ k, 1 ≤ k → k ≤ 40 → V k = W k) (h44 : V 44 = W 44) : Pr V y s = Pr W y s := by
  unfold Pr
  rw [← h0, PT_cong h1 h44 _ (by omega)]
theorem Nt_cong {V W : Nat → Int} {y s : Int} (hb : V 0 ≤ 10) (h0 : V 0 = W 0) (h1 : ∀ k, 1 ≤ k → k ≤ 40 → V k = W k) (h44 : V 44 = W 44) : Nt V y s = Nt W y s := by
  unfold Nt
  rw [Pr_cong hb h0 h1 h44, RR_cong hb h0 h1]
def qf (V : Nat → Int) (y : Int) (c n : Nat) (s : Int) : Int := cnN (qrl V y (updf (SL V) c s)) n
def idx (s : Int) : Int := if s < 0 then -2 * s - 1 else 2 * s
def wt (V : Nat → Int) (y : Int) (c n : Nat) (s : Int) : Int := 100 * qf V y c n s + idx s
def BS (V : Nat → Int) (y : Int) (c n : Nat) (b : Int) : Prop := (-5 ≤ b ∧ b ≤ 5) ∧ ∀ s, -5 ≤ s → s ≤ 5 → wt V y c n b ≤ wt V y c n s
theorem BS.uq {V : Nat → Int} {y : Int} {c n : Nat} {b d : Int} (h : BS V y c n b) (h' : BS V y c n d) : b = d := by
  have h1 := h.2 d h'.1.1 h'.1.2
  have h2 := h'.2 b h.1.1 h.1.2
  have h3 := h.1
  have h4 := h'.1
  unfold wt at h1 h2
  have i1 : 0 ≤ idx b ∧ idx b ≤ 10 := by unfold idx; split <;> omega
  have i2 : 0 ≤ idx d ∧ idx d ≤ 10 := by unfold idx; split <;> omega
  have h5 : idx b = idx d := by omega
  unfold idx at h5
  split at h5 <;> split at h5 <;> omega
noncomputable def pce (V : Nat → Int) (y : Int) (c n : Nat) : Int := Classical.epsilon (fun b => BS V y c n b)
theorem BS.eq {V : Nat → Int} {y : Int} {c n : Nat} {b : Int} (h : BS V y c n b) : b = pce V y c n := h.uq (Classical.epsilon_spec (p := fun b => BS V y c n b) ⟨b, h⟩)
theorem qf_b {V : Nat → Int} {y : Int} {c n : Nat} {s : Int} : 0 ≤ qf V y c n s ∧ qf V y c n s ≤ n := cnN_b _ _
theorem updf_same (p : Nat → Int) (f : Nat) : updf p f (p f) = p := by
  funext g
  by_cases h : g = f
  · rw [h, updf_at]
  · rw [updf_ne h]
def slp (i : Int) : Int := if i % 2 = 1 then -((i + 1) / 2) else (i + 1) / 2
/-- what stands after some slips of the class's loop -/
def CI (V : Nat → Int) (y : Int) (c n : Nat) (i best few : Int) : Prop := (i = 0 ∧ best = 0 ∧ few = 11) ∨ (0 < i ∧ -5 ≤ best ∧ best ≤ 5 ∧ few = qf V y c n best ∧ idx best < i ∧ ∀ s, -5 ≤ s → s ≤ 5 → idx s < i → wt V y c n best ≤ wt V y c n s)
theorem CI.keep {V : Nat → Int} {y : Int} {c n : Nat} {i best few : Int} (h : CI V y c n i best few) (hi : 0 ≤ i ∧ i ≤ 10) (hn : n ≤ 10) (hf : few ≤ qf V y c n (slp i)) : CI V y c n (i + 1) best few := by
  have hq := qf_b (V := V) (y := y) (c := c) (n := n) (s := slp i)
  rcases h with ⟨h1, h2, h3⟩ | ⟨h1, h2, h3, h4, h5, h6⟩
  · omega
  · refine .inr ⟨by omega, h2, h3, h4, by omega, fun s hs1 hs2 hs3 => ?_⟩
    by_cases c1 : idx s < i
    · exact h6 s hs1 hs2 c1
    · have c2 : s = slp i := by unfold idx at hs3 c1; unfold slp; split <;> split at hs3 <;> omega
      have c3 : idx s = i := by omega
      unfold wt
      rw [c3]; rw [c2]; omega
theorem CI.take {V : Nat → Int} {y : Int} {c n : Nat} {i best few : Int} (h : CI V y c n i best few) (hi : 0 ≤ i ∧ i ≤ 10) (hf : ¬ few ≤ qf V y c n (slp i)) : CI V y c n (i + 1) (slp i) (qf V y c n (slp i)) := by
  have hs : -5 ≤ slp i ∧ slp i ≤ 5 ∧ idx (slp i) = i := by unfold idx slp; split <;> split <;> omega
  refine .inr ⟨by omega, hs.1, hs.2.1, rfl, by omega, fun s hs1 hs2 hs3 => ?_⟩
  by_cases c1 : idx s < i
  · rcases h with ⟨h1, h2, h3⟩ | ⟨h1, h2, h3, h4, h5, h6⟩
    · have : 0 ≤ idx s := by unfold idx; split <;> omega
      omega
    · have h7 := h6 s hs1 hs2 c1
      have i1 : 0 ≤ idx best := by unfold idx; split <;> omega
      unfold wt at h7 ⊢
      rw [hs.2.2]; omega
  · have c2 : s = slp i := by unfold idx at hs3 c1; unfold slp; split <;> split at hs3 <;> omega
    rw [c2]; exact Int.le_refl _
theorem CI.done {V : Nat → Int} {y : Int} {c n : Nat} {best few : Int} (h : CI V y c n 11 best few) : BS V y c n best := by
  rcases h with ⟨h1, h2, h3⟩ | ⟨h1, h2, h3, h4, h5, h6⟩
  · omega
  · refine ⟨⟨h2, h3⟩, fun s hs1 hs2 => h6 s hs1 hs2 ?_⟩
    unfold idx; split <;> omega
theorem calm_v {V : Nat → Int} {y : Int} {c n : Nat} {σ : St} (hI : IV V) (hS : RS σ 1 V) (hn : V 0 = (n : Int)) (hc : c < 3) (hy : 0 ≤ y ∧ y ≤ 999) : ∃ τ, f_X6_calmestSlip (iI (c : Int)) (iI y) σ = some (iI (pce V y c n), τ) ∧ Fr 144 160 σ τ := by
  have hn10 := hI.1
  obtain ⟨τ, x1, x2, x3⟩ := gather_v (a0 := 144) ck_144 (by omega) hI hS hy
  have x3 : CO τ 144 V y (updf (SL V) c (SL V c)) := by rw [updf_same]; exact x3
  have H := wlp (F := fun g (q : (Int × Int × Int) × St) => f_X6_calmestSlip_l21 g (iI (c : Int)) (iI y) (iI q.1.1) (iI q.1.2.1) (iI q.1.2.2) q.2) (X := fun υ => some (iI (pce V y c n), υ)) (fun q => (11 - q.1.2.2).toNat) (fun q => (0 ≤ q.1.2.2 ∧ q.1.2.2 ≤ 11) ∧ CI V y c n q.1.2.2 q.1.1 q.1.2.1 ∧ Fr 144 160 τ q.2 ∧ ∃ t, CO q.2 144 V y (updf (SL V) c t)) (fun υ => Fr 144 160 τ υ) (by
    rintro g ⟨⟨best, few, i⟩, υ⟩ ⟨h0, hC, hF, t, hO⟩
    simp only at h0 hC hF hO
    rcases (show i = 11 ∨ i ≤ 10 by omega) with h | h
    · subst h
      refine .inl ⟨υ, hF, ?_⟩
      show f_X6_calmestSlip_b21 _ _ _ _ _ _ _ = some (iI (pce V y c n), υ)
      rw [← hC.done.eq]
      unfold f_X6_calmestSlip_b21
      simp (disch := omega) only [iI_lit, ofNat_iI, iI_add, iI_sub, iI_mul, iI_neg, iI_lt_t, iI_lt_f, iI_le_t, iI_le_f, iI_eq_t, iI_eq_f, iI_div, rm_iI, tc_iI, inB_iI, nz_iI, is01_0, is01_1, gd_tt, bd_mk, bv_mk, oc_mk, lt_mk, Bool.false_eq_true, ↓reduceIte]
    · right
      have hs : -5 ≤ slp i ∧ slp i ≤ 5 := by unfold slp; split <;> omega
      have uS : RS υ 1 V := (hS.fr x2 (by omega)).fr hF (by omega)
      obtain ⟨ω, y1, y2, y3⟩ := reckon_v (a0 := 144 + 1 + 5 * c) (s := slp i) (ck_144 c hc).2 (by omega) hI uS hy hs
      have wO : CO ω 144 V y (updf (SL V) c (slp i)) := by
        intro d hd
        by_cases hk : d = c
        · rw [hk, updf_at]; exact y3
        · have := hO d hd
          rw [updf_ne hk] at this ⊢
          exact this.fr y2 (by omega)
      have k0 := quarrelCount_v (n := n) ck_144 wO (by omega)
      have m0 : ω.1 1 0 = iI (n : Int) := by rw [y2.at (by omega), uS.1, hn]
      have hq := qf_b (V := V) (y := y) (c := c) (n := n) (s := slp i)
      rw [show cnN (qrl V y (updf (SL V) c (slp i))) n = qf V y c n (slp i) from rfl] at k0
      have hfb : 0 ≤ few ∧ few ≤ 11 := by
        rcases hC with ⟨h1, h2, h3⟩ | ⟨h1, h2, h3, h4, h5, h6⟩
        · omega
        · have := qf_b (V := V) (y := y) (c := c) (n := n) (s := best); omega
      have hb := by_c (a0 := 144) hc υ
      have hk := isN_t (ck_144 c hc).1
      have fwd1 : f_X6_calmestSlip_l21 (g + 1) (iI (c : Int)) (iI y) (iI best) (iI few) (iI i) υ = f_X6_calmestSlip_b52 (f_X6_calmestSlip_l21 g) (iI (c : Int)) (iI y) (iI best) (iI few) (iI i) (iI (slp i)) υ := by
        show f_X6_calmestSlip_b21 _ _ _ _ _ _ _ = _
        unfold f_X6_calmestSlip_b21 slp
        by_cases c1 : i % 2 = 1
        · simp (disch := omega) only [iI_lit, ofNat_iI, iI_add, iI_sub, iI_mul, iI_neg, iI_lt_t, iI_lt_f, iI_le_t, iI_le_f, iI_eq_t, iI_eq_f, iI_div, rm_iI, tc_iI, inB_iI, nz_iI, is01_0, is01_1, gd_tt, bd_mk, bv_mk, oc_mk, lt_mk, Bool.false_eq_true, ↓reduceIte, c1]
        · simp (disch := omega) only [iI_lit, ofNat_iI, iI_add, iI_sub, iI_mul, iI_neg, iI_lt_t, iI_lt_f, iI_le_t, iI_le_f, iI_eq_t, iI_eq_f, iI_div, rm_iI, tc_iI, inB_iI, nz_iI, is01_0, is01_1, gd_tt, bd_mk, bv_mk, oc_mk, lt_mk, Bool.false_eq_true, ↓reduceIte, c1]
      by_cases c1 : few ≤ qf V y c n (slp i)
      · refine ⟨((best, few, i + 1), ω), ⟨by simp only; omega, hC.keep ⟨h0.1, h⟩ (by omega) c1, hF.tr (y2.mo (by omega) (by omega)), slp i, wO⟩, by simp only; omega, ?_⟩
        refine fwd1.trans ?_
        unfold f_X6_calmestSlip_b52
        simp (disch := omega) only [iI_lit, ofNat_iI, iI_add, iI_sub, iI_mul, iI_neg, iI_lt_t, iI_lt_f, iI_le_t, iI_le_f, iI_eq_t, iI_eq_f, iI_div, rm_iI, tc_iI, inB_iI, nz_iI, is01_0, is01_1, gd_tt, bd_mk, bv_mk, oc_mk, lt_mk, Bool.false_eq_true, ↓reduceIte, hb, hk, y1, m0, k0]
      · refine ⟨((slp i, qf V y c n (slp i), i + 1), ω), ⟨by simp only; omega, hC.take ⟨h0.1, h⟩ c1, hF.tr (y2.mo (by omega) (by omega)), slp i, wO⟩, by simp only; omega, ?_⟩
        refine fwd1.trans ?_
        unfold f_X6_calmestSlip_b52
        simp (disch := omega) only [iI_lit, ofNat_iI, iI_add, iI_sub, iI_mul, iI_neg, iI_lt_t, iI_lt_f, iI_le_t, iI_le_f, iI_eq_t, iI_eq_f, iI_div, rm_iI, tc_iI, inB_iI, nz_iI, is01_0, is01_1, gd_tt, bd_mk, bv_mk, oc_mk, lt_mk, Bool.false_eq_true, ↓reduceIte, hb, hk, y1, m0, k0])
  obtain ⟨υ, h1, h2⟩ := H FU ((0, 11, 0), τ) ⟨by simp, .inl ⟨rfl, rfl, rfl⟩, Fr.rfl, _, x3⟩ (by simp only [FU]; omega)
  refine ⟨υ, ?_, x2.tr h1⟩
  unfold f_X6_calmestSlip
  simp (disch := omega) only [iI_lit, ofNat_iI, iI_add, iI_sub, iI_mul, iI_neg, iI_lt_t, iI_lt_f, iI_le_t, iI_le_f, iI_eq_t, iI_eq_f, iI_div, rm_iI, tc_iI, inB_iI, nz_iI, is01_0, is01_1, gd_tt, bd_mk, bv_mk, oc_mk, lt_mk, Bool.false_eq_true, ↓reduceIte, x1]
  exact h2
/-! the reference -/
def RI (V : Nat → Int) (y : Int) (c n : Nat) (i best few : Int) : Prop := (i = -5 ∧ best = -6 ∧ few = 0) ∨ (-5 < i ∧ -5 ≤ best ∧ best < i ∧ few = qf V y c n best ∧ ∀ s, -5 ≤ s → s < i → wt V y c n best ≤ wt V y c n s)
def szz (t : Int) : Int := if 0 ≤ t then t else -t
theorem RI.keep {V : Nat → Int} {y : Int} {c n : Nat} {i best few : Int} (h : RI V y c n i best few) (hi : -5 ≤ i ∧ i ≤ 5) (h1 : best ≠ -6) (h2 : ¬ qf V y c n i < few) (h3 : qf V y c n i = few → szz best ≤ szz i) : RI V y c n (i + 1) best few := by
  rcases h with ⟨q1, q2, q3⟩ | ⟨q1, q2, q3, q4, q5⟩
  · omega
  · refine .inr ⟨by omega, q2, by omega, q4, fun s hs1 hs2 => ?_⟩
    by_cases c1 : s < i
    · exact q5 s hs1 c1
    · have c2 : s = i := by omega
      rw [c2]
      have i1 : 0 ≤ idx best ∧ idx best ≤ 10 := by unfold idx; split <;> omega
      have i2 : 0 ≤ idx i ∧ idx i ≤ 10 := by unfold idx; split <;> omega
      unfold wt
      by_cases c3 : qf V y c n i = few
      · have h4 := h3 c3
        have h5 : idx best ≤ idx i := by
          unfold szz at h4
          unfold idx
          split <;> split <;> split at h4 <;> split at h4 <;> omega
        omega
      · omega
theorem RI.take {V : Nat → Int} {y : Int} {c n : Nat} {i best few : Int} (h : RI V y c n i best few) (hi : -5 ≤ i ∧ i ≤ 5) (h1 : best = -6 ∨ qf V y c n i < few ∨ (qf V y c n i = few ∧ szz i < szz best)) : RI V y c n (i + 1) i (qf V y c n i) := by
  refine .inr ⟨by omega, hi.1, by omega, rfl, fun s hs1 hs2 => ?_⟩
  have i2 : 0 ≤ idx i ∧ idx i ≤ 10 := by unfold idx; split <;> omega
  by_cases c1 : s < i
  · rcases h with ⟨q1, q2, q3⟩ | ⟨q1, q2, q3, q4, q5⟩
    · omega
    · have h7 := q5 s hs1 c1
      have i1 : 0 ≤ idx best ∧ idx best ≤ 10 := by unfold idx; split <;> omega
      unfold wt at h7 ⊢
      rcases h1 with h1 | h1 | ⟨h1, h2⟩
      · omega
      · omega
      · have h5 : idx i ≤ idx best := by
          unfold szz at h2
          unfold idx
          split <;> split <;> split at h2 <;> split at h2 <;> omega
        omega
  · have c2 : s = i := by omega
    rw [c2]; exact Int.le_refl _
theorem RI.done {V : Nat → Int} {y : Int} {c n : Nat} {best few : Int} (h : RI V y c n 6 best few) : BS V y c n best := by
  rcases h with ⟨q1, q2, q3⟩ | ⟨q1, q2, q3, q4, q5⟩
  · omega
  · exact ⟨⟨q2, by omega⟩, fun s hs1 hs2 => q5 s hs1 (by omega)⟩
theorem qrl_cong {V W : Nat → Int} {y : Int} {s : Nat → Int} (hb : V 0 ≤ 10) (h0 : V 0 = W 0) (h1 : ∀ k, 1 ≤ k → k ≤ 40 → V k = W k) (h44 : V 44 = W 44) : qrl V y s = qrl W y s := by
  funext f
  unfold qrl
  rw [Nt_cong hb h0 h1 h44, Nt_cong (s := s 1) hb h0 h1 h44, Nt_cong (s := s 2) hb h0 h1 h44]
theorem SL_upd {V : Nat → Int} {c : Nat} {s : Int} : SL (updf V (41 + c) s) = updf (SL V) c s := by
  funext d
  show updf V (41 + c) s (41 + d) = _
  by_cases h : d = c
  · rw [h, updf_at, updf_at]
  · rw [updf_ne (by omega), updf_ne h]; rfl
theorem IV_slip {V : Nat → Int} {c : Nat} {s : Int} (hI : IV V) (hc : c < 3) (hs : -5 ≤ s ∧ s ≤ 5) : IV (updf V (41 + c) s) := by
  have hn10 := hI.1
  have hk5 := hI.2.2.1
  refine ⟨?_, ?_, ?_, ?_, ?_, ?_⟩
  · rw [updf_ne (by omega)]; exact hI.1
  · rw [updf_ne (by omega)]; exact hI.2.1
  · rw [updf_ne (by omega)]; exact hI.2.2.1
  · intro d hd
    by_cases h : d = c
    · rw [h, updf_at]; exact hs
    · rw [updf_ne (by omega)]; exact hI.2.2.2.1 d hd
  · intro f hf
    rw [updf_ne (by omega)] at hf
    unfold IF
    rw [updf_ne (show 1 + 4 * f ≠ 41 + c by omega), updf_ne (show 2 + 4 * f ≠ 41 + c by omega), updf_ne (show 3 + 4 * f ≠ 41 + c by omega), updf_ne (show 4 + 4 * f ≠ 41 + c by omega)]
    exact hI.2.2.2.2.1 f hf
  · intro k hk
    rw [updf_ne (by omega)] at hk
    unfold IK
    rw [updf_ne (show 46 + 13 * k ≠ 41 + c by omega), updf_ne (show 47 + 13 * k ≠ 41 + c by omega), updf_ne (show 48 + 13 * k ≠ 41 + c by omega)]
    obtain ⟨q1, q2, q3, q4, q5, q6, q7⟩ := hI.2.2.2.2.2 k hk
    exact ⟨q1, q2, q3, q4, q5, q6, fun f hf => by rw [updf_ne (by omega)]; exact q7 f hf⟩
