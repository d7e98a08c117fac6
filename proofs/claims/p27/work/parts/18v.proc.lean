/-! the second way through the buffer, of both -/
theorem sep_s {q q' : Q6} (hB : RB q) (h : rd q 59 = some q') : mayE q ∧ q' = q0 := by
  obtain ⟨p, r, n, m, o, k⟩ := q
  obtain ⟨h1, h2, h3, h4, h5, h6, h7, h8, h9, h10, h11⟩ := RB_x hB
  unfold rd bhd at h
  simp only at h
  unfold mayE
  simp only
  repeat' split at h
  all_goals first
    | (cases h; done)
    | (exfalso; omega)
    | (obtain rfl := Option.some.inj h; exact ⟨by omega, rfl⟩)
def nxt (b : Nat → Int) : Nat → Nat → Nat
  | 0, i => i
  | k + 1, i => if b i = 59 then i else nxt b k (i + 1)
theorem nxt_s (b : Nat → Int) : ∀ k i, i ≤ nxt b k i ∧ nxt b k i ≤ i + k ∧ (∀ x, i ≤ x → x < nxt b k i → b x ≠ 59) ∧ (nxt b k i < i + k → b (nxt b k i) = 59) := by
  intro k
  induction k with
  | zero => intro i; exact ⟨Nat.le_refl _, Nat.le_refl _, fun x h1 h2 => absurd h2 (by show ¬ x < i; omega), fun h => absurd h (by show ¬ i < i + 0; omega)⟩
  | succ k ih =>
    intro i
    unfold nxt
    by_cases c : b i = 59
    · rw [if_pos c]; exact ⟨Nat.le_refl _, by omega, fun x h1 h2 => by omega, fun _ => c⟩
    · rw [if_neg c]
      obtain ⟨h1, h2, h3, h4⟩ := ih (i + 1)
      refine ⟨by omega, by omega, fun x z1 z2 => ?_, fun z => h4 (by omega)⟩
      by_cases d : x = i
      · rw [d]; exact c
      · exact h3 x (by omega) z2
section PR
variable {len : Nat} {b : Nat → Int}
theorem rch_tot {qe : Q6} (h : rch b len = some qe) {i : Nat} (hi : i ≤ len) : ∃ q, rch b i = some q := by
  cases h2 : rch b i with
  | some q => exact ⟨q, rfl⟩
  | none =>
    have := rch_up h2 (len - i)
    rw [show i + (len - i) = len by omega, h] at this; cases this
/-- the class reads on to the end of a feast -/
theorem segC {qe : Q6} {y : Int32} (hT : TX len b) (hG : rch b len = some qe) {e : Nat} (he : e ≤ len) : ∀ (d j g : Nat) (q : Q6) (σ : St), j + d = e → (∀ x, j ≤ x → x < e → b x ≠ 59) → BC σ len b → rch b j = some q → RD σ q → ∃ τ q', f_X6_addBufferedFeasts_l19 (g + d) y (iI 1) (iI (j : Int)) σ = f_X6_addBufferedFeasts_l19 g y (iI 1) (iI (e : Int)) τ ∧ Fr 138 139 σ τ ∧ rch b e = some q' ∧ RD τ q' := by
  have hl := hT.1
  intro d
  induction d with
  | zero =>
    intro j g q σ hj hs hB hq hD
    have : j = e := by omega
    subst this
    exact ⟨σ, q, rfl, Fr.rfl, hq, hD⟩
  | succ d ih =>
    intro j g q σ hj hs hB hq hD
    obtain ⟨q2, hq2⟩ := rch_tot hG (i := j + 1) (by omega)
    have ht := hT.2 j (by omega)
    have hne := hs j (by omega) (by omega)
    obtain ⟨υ, x, y1, y2, y3⟩ := reads_v hD (rch_RB hq) ht
    rw [rch_s hq] at hq2
    rcases y3 with ⟨z1, z2⟩ | ⟨q', z1, z2, z3⟩
    · rw [z1] at hq2; cases hq2
    · rw [z2] at y1
      have e0 : ((j : Int)).toNat = j := by omega
      have e1 : (j : Int) + 1 = ((j + 1 : Nat) : Int) := by omega
      have k1 := at_in (c := 136) (N := 60) rfl (by omega) (i := (j : Int)) (σ := σ) (by omega) (by omega)
      rw [e0, show σ.1 (136 + 1) j = _ from hB.2 j (by omega)] at k1
      have r := hB.1
      obtain ⟨τ, q'', w1, w2, w3, w4⟩ := ih (j + 1) g q' υ (by omega) (fun x h1 h2 => hs x (by omega) h2) ⟨by rw [y2.at (by omega)]; exact hB.1, fun i hi => by rw [y2.at (by omega)]; exact hB.2 i hi⟩ (by rw [rch_s hq]; exact z1) z3
      refine ⟨τ, q'', ?_, y2.tr w2, w3, w4⟩
      rw [← w1]
      show f_X6_addBufferedFeasts_b19 _ _ _ _ _ = _
      unfold f_X6_addBufferedFeasts_b19 f_X6_addBufferedFeasts_b53
      simp (disch := omega) only [iI_lit, ofNat_iI, iI_add, iI_sub, iI_mul, iI_neg, iI_lt_t, iI_lt_f, iI_le_t, iI_le_f, iI_eq_t, iI_eq_f, iI_div, rm_iI, tc_iI, inB_iI, nz_iI, is01_0, is01_1, gd_tt, bd_mk, bv_mk, oc_mk, lt_mk, Bool.false_eq_true, ↓reduceIte, r, k1, y1, e1]
      rfl
/-- what the adding leaves of the class -/
def FA (σ τ : St) : Prop := ∀ c, (c = 0 ∨ (19 < c ∧ c ≠ 138)) → τ.1 c = σ.1 c
theorem FA.tr {σ τ υ : St} (h : FA σ τ) (h' : FA τ υ) : FA σ υ := fun c hc => (h' c hc).trans (h c hc)
theorem Fr.fa {σ τ : St} {lo hi : Nat} (h : Fr lo hi σ τ) (hc : (1 ≤ lo ∧ hi ≤ 20) ∨ (138 ≤ lo ∧ hi ≤ 139)) : FA σ τ := fun c h1 => h.1 c (by omega)
theorem BC.fa {σ τ : St} (h : BC σ len b) (e : FA σ τ) : BC τ len b := ⟨by rw [e 0 (by omega)]; exact h.1, fun i hi => by rw [e 137 (by omega)]; exact h.2 i hi⟩
end PR
