/-! the first free day: at most as many steps as notches -/
def cnt (N : Nat → Int) (d : Int) : Nat → Nat → Nat
  | 0, _ => 0
  | k + 1, j => (if d ≤ N j then 1 else 0) + cnt N d k (j + 1)
theorem cnt_le (N : Nat → Int) (d : Int) : ∀ k j, cnt N d k j ≤ k := by
  intro k
  induction k with
  | zero => intro j; exact Nat.le_refl _
  | succ k ih => intro j; unfold cnt; have := ih (j + 1); split <;> omega
theorem cnt_mo (N : Nat → Int) (d : Int) : ∀ k j, cnt N (d + 1) k j ≤ cnt N d k j := by
  intro k
  induction k with
  | zero => intro j; exact Nat.le_refl _
  | succ k ih =>
    intro j
    unfold cnt
    have h := ih (j + 1)
    by_cases c1 : d + 1 ≤ N j
    · rw [if_pos c1, if_pos (by omega)]; omega
    · rw [if_neg c1]; split <;> omega
theorem cnt_hit (N : Nat → Int) (d : Int) : ∀ k j, hasF N d k j = true → cnt N (d + 1) k j + 1 ≤ cnt N d k j := by
  intro k
  induction k with
  | zero => intro j h; cases h
  | succ k ih =>
    intro j h
    unfold hasF at h
    unfold cnt
    have hm := cnt_mo N d k (j + 1)
    by_cases c : N j = d
    · rw [if_neg (by omega), if_pos (by omega)]; omega
    · rw [if_neg c] at h
      have h5 := ih (j + 1) h
      by_cases c1 : d + 1 ≤ N j
      · rw [if_pos c1, if_pos (by omega)]; omega
      · rw [if_neg c1, if_neg (by omega)]; omega
theorem ufr_free (N : Nat → Int) (n : Nat) : ∀ (k : Nat) (d : Int), cnt N d n 0 ≤ k → hasF N (ufr N n k d) n 0 = false := by
  intro k
  induction k with
  | zero =>
    intro d h
    unfold ufr
    cases h5 : hasF N d n 0 with
    | false => rfl
    | true => have := cnt_hit N d n 0 h5; omega
  | succ k ih =>
    intro d h
    unfold ufr
    cases h5 : hasF N d n 0 with
    | false => simp only [Bool.false_eq_true, ↓reduceIte, h5]
    | true =>
      simp only [↓reduceIte]
      have := cnt_hit N d n 0 h5
      exact ih (d + 1) (by omega)
theorem ufr_run (N : Nat → Int) (n : Nat) : ∀ (k : Nat) (d x : Int), d ≤ x → x < ufr N n k d → hasF N x n 0 = true := by
  intro k
  induction k with
  | zero => intro d x h1 h2; unfold ufr at h2; omega
  | succ k ih =>
    intro d x h1 h2
    unfold ufr at h2
    cases h5 : hasF N d n 0 with
    | false => rw [h5] at h2; simp only [Bool.false_eq_true, ↓reduceIte] at h2; omega
    | true =>
      rw [h5] at h2
      simp only [↓reduceIte] at h2
      by_cases c : x = d
      · rw [c]; exact h5
      · exact ih (d + 1) x (by omega) h2
theorem hasF_upd {N : Nat → Int} {n f : Nat} {v x : Int} (hf : f < n) (hN : N f = -1) (hx : 0 ≤ x) : hasF (updf N f v) x n 0 = true ↔ (hasF N x n 0 = true ∨ x = v) := by
  rw [hasF_iff, hasF_iff]
  constructor
  · rintro ⟨g, h1, h2, h3⟩
    by_cases hk : g = f
    · rw [hk, updf_at] at h3; exact .inr h3.symm
    · rw [updf_ne hk] at h3; exact .inl ⟨g, h1, h2, h3⟩
  · rintro (⟨g, h1, h2, h3⟩ | h)
    · have hk : g ≠ f := by rintro rfl; omega
      exact ⟨g, h1, h2, by rw [updf_ne hk]; exact h3⟩
    · exact ⟨f, by omega, by omega, by rw [updf_at]; exact h.symm⟩
/-- the cut days are those of the notches -/
def CUT (σ : St) (N : Nat → Int) (n : Nat) : Prop := ∀ d : Nat, d < 366 → σ.1 231 d = iI (if hasF N d n 0 = true then 1 else 0)
theorem lay_104 {K30 : Int32 → Int32 → St → Option St} {y u : Int} {N : Nat → Int} {n : Nat} {k f : Int32} {σ : St} (hy : 0 ≤ y ∧ y ≤ 999) (hC : CUT σ N n) {d0 : Int} (hrun : ∀ x, d0 ≤ x → x < u → hasF N x n 0 = true) (hfree : hasF N u n 0 = false) (hb : ∀ g, N g < dys y) :
    ∀ (m g : Nat) (d : Int), 0 ≤ d → d0 ≤ d → d ≤ u → d ≤ 366 → (dys y - d).toNat < m → m ≤ g → ∃ e : Int, ((dys y ≤ e ∧ dys y ≤ u) ∨ (e < dys y ∧ e = u)) ∧ 0 ≤ e ∧ e ≤ 366 ∧ f_X7_lay_l104 K30 g (iI y) k f (iI d) σ = f_X7_lay_b129 K30 (iI y) k f (iI e) σ := by
  have hDb := dys_b y
  intro m
  induction m with
  | zero => intro g d _ _ _ _ h; omega
  | succ m ih =>
    intro g d h0 h1 h2 h3 hk hg
    obtain ⟨g, rfl⟩ : ∃ g', g = g' + 1 := ⟨g - 1, by omega⟩
    have e0 : ((d.toNat : Nat) : Int) = d := by omega
    by_cases c1 : dys y ≤ d
    · refine ⟨d, .inl ⟨c1, by omega⟩, h0, h3, ?_⟩
      show f_X7_lay_b104 _ _ _ _ _ _ _ = _
      unfold f_X7_lay_b104
      rw [daysOf_v hy.1 (by omega)]
      simp (disch := omega) only [iI_lit, ofNat_iI, iI_add, iI_sub, iI_mul, iI_neg, iI_lt_t, iI_lt_f, iI_le_t, iI_le_f, iI_eq_t, iI_eq_f, iI_div, rm_iI, tc_iI, inB_iI, nz_iI, is01_0, is01_1, gd_tt, bd_mk, bv_mk, oc_mk, lt_mk, Bool.false_eq_true, ↓reduceIte]
    · have hc := hC d.toNat (by omega)
      rw [e0] at hc
      cases c2 : hasF N d n 0 with
      | false =>
        have c3 : d = u := by
          rcases (show d = u ∨ d < u by omega) with h | h
          · exact h
          · have := hrun d h1 h; rw [c2] at this; cases this
        refine ⟨d, .inr ⟨by omega, c3⟩, h0, h3, ?_⟩
        show f_X7_lay_b104 _ _ _ _ _ _ _ = _
        unfold f_X7_lay_b104
        rw [daysOf_v hy.1 (by omega)]
        rw [c2] at hc
        simp (disch := omega) only [iI_lit, ofNat_iI, iI_add, iI_sub, iI_mul, iI_neg, iI_lt_t, iI_lt_f, iI_le_t, iI_le_f, iI_eq_t, iI_eq_f, iI_div, rm_iI, tc_iI, inB_iI, nz_iI, is01_0, is01_1, gd_tt, bd_mk, bv_mk, oc_mk, lt_mk, Bool.false_eq_true, ↓reduceIte, hc]
      | true =>
        have c3 : d ≠ u := by
          rintro rfl; rw [c2] at hfree; cases hfree
        obtain ⟨e, q1, q2, q3, q4⟩ := ih g (d + 1) (by omega) (by omega) (by omega) (by omega) (by omega) (by omega)
        refine ⟨e, q1, q2, q3, ?_⟩
        show f_X7_lay_b104 _ _ _ _ _ _ _ = _
        unfold f_X7_lay_b104
        rw [daysOf_v hy.1 (by omega)]
        rw [c2] at hc
        simp (disch := omega) only [iI_lit, ofNat_iI, iI_add, iI_sub, iI_mul, iI_neg, iI_lt_t, iI_lt_f, iI_le_t, iI_le_f, iI_eq_t, iI_eq_f, iI_div, rm_iI, tc_iI, inB_iI, nz_iI, is01_0, is01_1, gd_tt, bd_mk, bv_mk, oc_mk, lt_mk, Bool.false_eq_true, ↓reduceIte, hc]
        exact q4
/-- what has been laid when the passes stand at rank 9 - q, feast f -/
def LD (V : Nat → Int) (q f g : Nat) : Prop := 9 - V (2 + 4 * g) < q ∨ (9 - V (2 + 4 * g) = q ∧ g < f)
def LI (V : Nat → Int) (n : Nat) (τ : St) (N : Nat → Int) (q f : Nat) : Prop := CUT τ N n ∧ (∀ g : Nat, g < n → LD V q f g → τ.1 230 g = iI (N g)) ∧ (∀ g : Nat, g < n → ¬ LD V q f g → N g = -1)
theorem lay_step {K30 : Int32 → Int32 → St → Option St} {y : Int} {V p N : Nat → Int} {n q f : Nat} {k : Int} {τ : St} (hM : RMv τ V) (hI : IV V) (hn : V 0 = (n : Int)) (hf : f < n) (hq : q < 10) (hy : 0 ≤ y ∧ y ≤ 999) (hp : ∀ g : Nat, g < n → τ.1 229 g = iI (p g)) (hpb : ∀ g, -1 ≤ p g ∧ p g < dys y) (hNb : ∀ g, -1 ≤ N g ∧ N g < dys y) (hk1 : k % n = f) (hk2 : k / n = q) (hkb : 0 ≤ k ∧ k < 10 * n) (hL : LI V n τ N q f) :
    ∃ τ', f_X7_lay_b30 K30 (iI y) (iI k) τ = K30 (iI y) (iI (k + 1)) τ' ∧ Fr 230 232 τ τ' ∧ LI V n τ' (stN V (dys y) p N (9 - q) f) q (f + 1) := by
  obtain ⟨hI0, hI1, hI2, hI3, hI4, hI5⟩ := id hI
  obtain ⟨a1, a2, a3, a4, -⟩ := hI4 f (by omega)
  obtain ⟨L1, L2, L3⟩ := hL
  have hDb := dys_b y
  have m0 := hM 0 (by omega)
  rw [hn] at m0
  have e0 : ((f : Int)).toNat = f := by omega
  have r1 := hM.rd (e := 1 + 4 * (f : Int) + 1) (k := 2 + 4 * f) (by omega) (by omega)
  have hpf := hpb f
  have tp := hp f hf
  have hnb : (n : Int) ≤ 10 := by omega
  by_cases c1 : V (2 + 4 * f) = 9 - (q : Int)
  · have c1' : V (2 + 4 * f) = 9 - k / n := by rw [hk2]; exact c1
    have hLf : ¬ LD V q f f := by unfold LD; omega
    have hNf := L3 f hf hLf
    have hst : ∀ g, g ≠ f → (LD V q (f + 1) g ↔ LD V q f g) := by intro g hg; unfold LD; omega
    have hLf' : LD V q (f + 1) f := by unfold LD; omega
    -- the day that is found
    have fin : ∀ (v : Int) (τ' : St), f_X7_lay_b30 K30 (iI y) (iI k) τ = K30 (iI y) (iI (k + 1)) τ' → Fr 230 232 τ τ' → stN V (dys y) p N (9 - q) f = updf N f v → τ'.1 230 f = iI v → (∀ g, g ≠ f → τ'.1 230 g = τ.1 230 g) → (∀ d : Nat, d < 366 → τ'.1 231 d = if (d : Int) = v then iI 1 else τ.1 231 d) → ∃ τ', f_X7_lay_b30 K30 (iI y) (iI k) τ = K30 (iI y) (iI (k + 1)) τ' ∧ Fr 230 232 τ τ' ∧ LI V n τ' (stN V (dys y) p N (9 - q) f) q (f + 1) := by
      intro v τ' x1 x2 x3 x4 x5 x6
      refine ⟨τ', x1, x2, ?_⟩
      rw [x3]
      refine ⟨fun d hd => ?_, fun g hg hl => ?_, fun g hg hl => ?_⟩
      · have hu := hasF_upd (N := N) (n := n) (f := f) (v := v) (x := (d : Int)) hf hNf (by omega)
        rw [x6 d hd]
        by_cases z : (d : Int) = v
        · rw [if_pos z, if_pos (hu.mpr (.inr z))]
        · rw [if_neg z, L1 d hd]
          by_cases z2 : hasF N d n 0 = true
          · rw [if_pos z2, if_pos (hu.mpr (.inl z2))]
          · rw [if_neg z2, if_neg (fun h => (hu.mp h).elim z2 z)]
      · by_cases z : g = f
        · rw [z, updf_at]; exact x4
        · rw [updf_ne z, x5 g z]; exact L2 g hg ((hst g z).mp hl)
      · by_cases z : g = f
        · rw [z] at hl; exact absurd hLf' hl
        · rw [updf_ne z]; exact L3 g hg (fun h => hl ((hst g z).mpr h))
    have headP : f_X7_lay_b30 K30 (iI y) (iI k) τ = if p f = -1 then f_X7_lay_l104 K30 FU (iI y) (iI k) (iI f) (iI 366) τ else f_X7_lay_l104 K30 FU (iI y) (iI k) (iI f) (iI (p f)) τ := by
      unfold f_X7_lay_b30 f_X7_of
      by_cases c2 : p f = -1
      · simp (disch := omega) only [iI_lit, ofNat_iI, iI_add, iI_sub, iI_mul, iI_neg, iI_lt_t, iI_lt_f, iI_le_t, iI_le_f, iI_eq_t, iI_eq_f, iI_div, rm_iI, tc_iI, inB_iI, nz_iI, is01_0, is01_1, gd_tt, bd_mk, bv_mk, oc_mk, lt_mk, Bool.false_eq_true, ↓reduceIte, Int.reduceToNat, m0, hk1, hk2, r1, c1, e0, tp, c2]
      · simp (disch := omega) only [iI_lit, ofNat_iI, iI_add, iI_sub, iI_mul, iI_neg, iI_lt_t, iI_lt_f, iI_le_t, iI_le_f, iI_eq_t, iI_eq_f, iI_div, rm_iI, tc_iI, inB_iI, nz_iI, is01_0, is01_1, gd_tt, bd_mk, bv_mk, oc_mk, lt_mk, Bool.false_eq_true, ↓reduceIte, Int.reduceToNat, m0, hk1, hk2, r1, c1, e0, tp, c2]
    have tail : ∀ e : Int, 0 ≤ e → e ≤ 366 → dys y ≤ e → f_X7_lay_b129 K30 (iI y) (iI k) (iI f) (iI e) τ = K30 (iI y) (iI (k + 1)) (sI τ 230 f (iI (-1))) := by
      intro e h1 h2 h3
      unfold f_X7_lay_b129
      rw [daysOf_v hy.1 (by omega)]
      simp (disch := omega) only [iI_lit, ofNat_iI, iI_add, iI_sub, iI_mul, iI_neg, iI_lt_t, iI_lt_f, iI_le_t, iI_le_f, iI_eq_t, iI_eq_f, iI_div, rm_iI, tc_iI, inB_iI, nz_iI, is01_0, is01_1, gd_tt, bd_mk, bv_mk, oc_mk, lt_mk, Bool.false_eq_true, ↓reduceIte]
      unfold f_X7_lay_b150
      simp (disch := omega) only [iI_lit, ofNat_iI, iI_add, iI_sub, iI_mul, iI_neg, iI_lt_t, iI_lt_f, iI_le_t, iI_le_f, iI_eq_t, iI_eq_f, iI_div, rm_iI, tc_iI, inB_iI, nz_iI, is01_0, is01_1, gd_tt, bd_mk, bv_mk, oc_mk, lt_mk, Bool.false_eq_true, ↓reduceIte, e0, sI_hit]
    have tail2 : ∀ e : Int, 0 ≤ e → e < dys y → f_X7_lay_b129 K30 (iI y) (iI k) (iI f) (iI e) τ = K30 (iI y) (iI (k + 1)) (sI (sI τ 230 f (iI e)) 231 e.toNat (iI 1)) := by
      intro e h1 h3
      unfold f_X7_lay_b129
      rw [daysOf_v hy.1 (by omega)]
      simp (disch := omega) only [iI_lit, ofNat_iI, iI_add, iI_sub, iI_mul, iI_neg, iI_lt_t, iI_lt_f, iI_le_t, iI_le_f, iI_eq_t, iI_eq_f, iI_div, rm_iI, tc_iI, inB_iI, nz_iI, is01_0, is01_1, gd_tt, bd_mk, bv_mk, oc_mk, lt_mk, Bool.false_eq_true, ↓reduceIte]
      unfold f_X7_lay_b150
      simp (disch := omega) only [iI_lit, ofNat_iI, iI_add, iI_sub, iI_mul, iI_neg, iI_lt_t, iI_lt_f, iI_le_t, iI_le_f, iI_eq_t, iI_eq_f, iI_div, rm_iI, tc_iI, inB_iI, nz_iI, is01_0, is01_1, gd_tt, bd_mk, bv_mk, oc_mk, lt_mk, Bool.false_eq_true, ↓reduceIte, e0, sI_hit]
    have upd_same : updf N f (-1) = N := by
      funext g
      by_cases z : g = f
      · rw [z, updf_at, hNf]
      · rw [updf_ne z]
    by_cases c2 : p f = -1
    · have hN : stN V (dys y) p N (9 - q) f = updf N f (-1) := by
        unfold stN; rw [if_neg (fun h => h.1 c2), upd_same]
      obtain ⟨e, q1, q2, q3, q4⟩ := lay_104 (K30 := K30) (u := 366) (k := iI k) (f := iI f) (d0 := 366) hy L1 (fun x h1 h2 => by omega) (by
        cases h9 : hasF N 366 n 0 with
        | false => rfl
        | true =>
          obtain ⟨g, -, -, h3⟩ := (hasF_iff N 366 n 0).mp h9
          have := hNb g; omega) (fun g => (hNb g).2) 500 FU 366 (by omega) (by omega) (by omega) (by omega) (by omega) (by simp only [FU]; omega)
      refine fin (-1) (sI τ 230 f (iI (-1))) ?_ (Fr.sI (by omega) (by omega)) hN (sI_hit _ _ _ _) (fun g hg => sI_k hg) (fun d hd => ?_)
      · rw [headP, if_pos c2, q4]; exact tail e q2 q3 (by omega)
      · rw [if_neg (by omega), sI_c (by omega)]
    · obtain ⟨u, hu⟩ : ∃ u, u = ufr N n n (p f) := ⟨_, rfl⟩
      have hub := ufr_b N n n (p f)
      rw [← hu] at hub
      have hN : stN V (dys y) p N (9 - q) f = updf N f (orN (dys y) u) := by
        unfold stN; rw [if_pos ⟨c2, c1⟩, hn, Int.toNat_natCast, ← hu]
      obtain ⟨e, q1, q2, q3, q4⟩ := lay_104 (K30 := K30) (u := u) (k := iI k) (f := iI f) (d0 := p f) hy L1 (fun x h1 h2 => ufr_run N n n (p f) x h1 (by rw [← hu]; exact h2)) (by rw [hu]; exact ufr_free N n n (p f) (cnt_le _ _ _ _)) (fun g => (hNb g).2) 500 FU (p f) (by omega) (by omega) (by omega) (by omega) (by omega) (by simp only [FU]; omega)
      rcases q1 with ⟨h1, h2⟩ | ⟨h1, h2⟩
      · have ho : orN (dys y) u = -1 := by unfold orN; rw [if_neg (by omega)]
        rw [ho] at hN
        refine fin (-1) (sI τ 230 f (iI (-1))) ?_ (Fr.sI (by omega) (by omega)) hN (sI_hit _ _ _ _) (fun g hg => sI_k hg) (fun d hd => ?_)
        · rw [headP, if_neg c2, q4]; exact tail e q2 q3 h1
        · rw [if_neg (by omega), sI_c (by omega)]
      · have ho : orN (dys y) u = u := by unfold orN; rw [if_pos (by omega)]
        rw [ho] at hN
        rw [h2] at q4 h1 q2
        refine fin u (sI (sI τ 230 f (iI u)) 231 u.toNat (iI 1)) ?_ ((Fr.sI (by omega) (by omega)).tr (Fr.sI (by omega) (by omega))) hN ?_ (fun g hg => ?_) (fun d hd => ?_)
        · rw [headP, if_neg c2, q4]; exact tail2 u q2 h1
        · rw [sI_c (by omega), sI_hit]
        · rw [sI_c (by omega), sI_k hg]
        · by_cases z : (d : Int) = u
          · rw [if_pos z, show u.toNat = d by omega, sI_hit]
          · rw [if_neg z, sI_k (by omega), sI_c (by omega)]
  · refine ⟨τ, ?_, Fr.rfl, ?_⟩
    · unfold f_X7_lay_b30 f_X7_of
      simp (disch := omega) only [iI_lit, ofNat_iI, iI_add, iI_sub, iI_mul, iI_neg, iI_lt_t, iI_lt_f, iI_le_t, iI_le_f, iI_eq_t, iI_eq_f, iI_div, rm_iI, tc_iI, inB_iI, nz_iI, is01_0, is01_1, gd_tt, bd_mk, bv_mk, oc_mk, lt_mk, Bool.false_eq_true, ↓reduceIte, Int.reduceToNat, m0, hk1, hk2, r1, c1]
    · have hN : stN V (dys y) p N (9 - q) f = N := by unfold stN; rw [if_neg (fun h => c1 h.2)]
      rw [hN]
      have hst : ∀ g, (LD V q (f + 1) g ↔ LD V q f g) := by
        intro g
        by_cases z : g = f
        · rw [z]; unfold LD; omega
        · unfold LD; omega
      exact ⟨L1, fun g hg hl => L2 g hg ((hst g).mp hl), fun g hg hl => L3 g hg (fun h => hl ((hst g).mpr h))⟩
