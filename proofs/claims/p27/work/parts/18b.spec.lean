/-! what is to be answered: a state is seen as 111 integers (feasts; sticks) -/
def dys (y : Int) : Int := if y % 4 = 0 then 366 else 365
def fwd (y : Int) : Int := (365 * y + (y + 3) / 4) % 7
def shf (y s m : Int) : Int := 11 * (y % 19) + y / m + s + 5
def agd (h d : Int) : Int := (h + d + d / 59) % 30
def wkf (w d t : Int) : Int := d + (t + 7 - (w + d) % 7) % 7
def orN (D x : Int) : Int := if 0 ≤ x ∧ x < D then x else -1
def ful (h D : Int) : Nat → Int → Int
  | 0, _ => -1
  | k + 1, d => if D ≤ d then -1 else if agd h d = 14 then d else ful h D k (d + 1)
def pmn (w t u : Int) : Int := if u = -1 then -1 else wkf w (u + 1) t
def updf (p : Nat → Int) (f : Nat) (v : Int) : Nat → Int := fun g => if g = f then v else p g
def rawP (V : Nat → Int) (y s : Int) (p : Nat → Int) (f : Nat) : Int :=
  if V (1 + 4 * f) = 0 then V (3 + 4 * f) else if V (1 + 4 * f) = 1 then wkf (fwd y) (V (3 + 4 * f)) (V (4 + 4 * f)) else if V (1 + 4 * f) = 2 then pmn (fwd y) (V (4 + 4 * f)) (ful (shf y s (V 44)) (dys y) 400 (V (3 + 4 * f))) else if p (V (4 + 4 * f)).toNat = -1 then -1 else p (V (4 + 4 * f)).toNat + V (3 + 4 * f)
def PT (V : Nat → Int) (y s : Int) : Nat → Nat → Int
  | 0 => fun _ => -1
  | f + 1 => updf (PT V y s f) f (orN (dys y) (rawP V y s (PT V y s f) f))
def Pr (V : Nat → Int) (y s : Int) : Nat → Int := PT V y s (V 0).toNat
def hasF (N : Nat → Int) (d : Int) : Nat → Nat → Bool
  | 0, _ => false
  | k + 1, j => if N j = d then true else hasF N d k (j + 1)
def ufr (N : Nat → Int) (n : Nat) : Nat → Int → Int
  | 0, d => d
  | k + 1, d => if hasF N d n 0 = true then ufr N n k (d + 1) else d
def stN (V : Nat → Int) (D : Int) (p N : Nat → Int) (r : Int) (f : Nat) : Nat → Int :=
  if p f ≠ -1 ∧ V (2 + 4 * f) = r then updf N f (orN D (ufr N (V 0).toNat (V 0).toNat (p f))) else N
def CR (V : Nat → Int) (D : Int) (p N : Nat → Int) (r : Int) : Nat → Nat → Int
  | 0 => N
  | f + 1 => stN V D p (CR V D p N r f) r f
def RR (V : Nat → Int) (D : Int) (p : Nat → Int) : Nat → Nat → Int
  | 0 => fun _ => -1
  | q + 1 => CR V D p (RR V D p q) (9 - q) (V 0).toNat
def Nt (V : Nat → Int) (y s : Int) : Nat → Int := RR V (dys y) (Pr V y s) 10
/-! bounds -/
theorem updf_at (p : Nat → Int) (f : Nat) (v : Int) : updf p f v f = v := if_pos rfl
theorem updf_ne {p : Nat → Int} {f g : Nat} {v : Int} (h : g ≠ f) : updf p f v g = p g := if_neg h
theorem dys_b (y : Int) : 365 ≤ dys y ∧ dys y ≤ 366 := by unfold dys; split <;> omega
theorem fwd_b (y : Int) : 0 ≤ fwd y ∧ fwd y ≤ 6 := by unfold fwd; omega
theorem wkf_b (w d t : Int) : d ≤ wkf w d t ∧ wkf w d t ≤ d + 6 := by unfold wkf; omega
theorem orN_b {D x : Int} (h : D ≤ 366) : -1 ≤ orN D x ∧ orN D x ≤ 365 := by unfold orN; split <;> omega
theorem agd_b (h d : Int) : 0 ≤ agd h d ∧ agd h d ≤ 29 := by unfold agd; omega
theorem ydiv_b {y m : Int} (h1 : 0 ≤ y) (h2 : 0 < m) : 0 ≤ y / m ∧ y / m ≤ y := ⟨Int.ediv_nonneg h1 (by omega), Int.ediv_le_self m h1⟩
theorem shf_b {y s m : Int} (h1 : 0 ≤ y) (h2 : y ≤ 999) (h3 : 0 < m) (h4 : -5 ≤ s) (h5 : s ≤ 5) : 0 ≤ shf y s m ∧ shf y s m ≤ 2000 := by
  have := ydiv_b h1 h3
  unfold shf; omega
theorem ful_b (h D : Int) : ∀ (k : Nat) (d : Int), ful h D k d = -1 ∨ (d ≤ ful h D k d ∧ ful h D k d < D) := by
  intro k
  induction k with
  | zero => intro d; exact .inl rfl
  | succ k ih =>
    intro d
    unfold ful
    by_cases h1 : D ≤ d
    · rw [if_pos h1]; exact .inl rfl
    · rw [if_neg h1]
      by_cases h2 : agd h d = 14
      · rw [if_pos h2]; exact .inr ⟨Int.le_refl _, by omega⟩
      · rw [if_neg h2]
        rcases ih (d + 1) with h3 | ⟨h3, h4⟩
        · exact .inl h3
        · exact .inr ⟨by omega, h4⟩
theorem PT_b (V : Nat → Int) (y s : Int) (f g : Nat) : -1 ≤ PT V y s f g ∧ PT V y s f g ≤ 365 := by
  induction f with
  | zero => show -1 ≤ (-1 : Int) ∧ (-1 : Int) ≤ 365; omega
  | succ f ih =>
    show -1 ≤ updf _ _ _ g ∧ updf _ _ _ g ≤ 365
    by_cases h : g = f
    · rw [h, updf_at]; exact orN_b (dys_b y).2
    · rw [updf_ne h]; exact ih
theorem PT_lo (V : Nat → Int) (y s : Int) {f g : Nat} (h : g < f) : ∀ k, PT V y s (f + k) g = PT V y s f g := by
  intro k
  induction k with
  | zero => rfl
  | succ k ih =>
    show updf (PT V y s (f + k)) (f + k) _ g = _
    rw [updf_ne (by omega)]; exact ih
theorem PT_le (V : Nat → Int) (y s : Int) {f g n : Nat} (h : g < f) (hn : f ≤ n) : PT V y s n g = PT V y s f g := by
  have h1 := PT_lo V y s h (n - f)
  rwa [show f + (n - f) = n by omega] at h1
theorem stN_b {V : Nat → Int} {D : Int} {p N : Nat → Int} {r : Int} {f : Nat} (hD : D ≤ 366) (h : ∀ g, -1 ≤ N g ∧ N g ≤ 365) (g : Nat) : -1 ≤ stN V D p N r f g ∧ stN V D p N r f g ≤ 365 := by
  unfold stN
  split
  · by_cases h1 : g = f
    · rw [h1, updf_at]; exact orN_b hD
    · rw [updf_ne h1]; exact h g
  · exact h g
theorem CR_b {V : Nat → Int} {D : Int} {p N : Nat → Int} {r : Int} (hD : D ≤ 366) (h : ∀ g, -1 ≤ N g ∧ N g ≤ 365) : ∀ f g, -1 ≤ CR V D p N r f g ∧ CR V D p N r f g ≤ 365 := by
  intro f
  induction f with
  | zero => exact h
  | succ f ih => exact fun g => stN_b hD ih g
theorem RR_b {V : Nat → Int} {D : Int} {p : Nat → Int} (hD : D ≤ 366) : ∀ q g, -1 ≤ RR V D p q g ∧ RR V D p q g ≤ 365 := by
  intro q
  induction q with
  | zero => intro g; show -1 ≤ (-1 : Int) ∧ (-1 : Int) ≤ 365; omega
  | succ q ih => exact fun g => CR_b hD ih _ g
theorem Pr_b (V : Nat → Int) (y s : Int) (g : Nat) : -1 ≤ Pr V y s g ∧ Pr V y s g ≤ 365 := PT_b V y s _ g
theorem Nt_b (V : Nat → Int) (y s : Int) (g : Nat) : -1 ≤ Nt V y s g ∧ Nt V y s g ≤ 365 := RR_b (dys_b y).2 _ g
theorem ufr_b (N : Nat → Int) (n : Nat) : ∀ (k : Nat) (d : Int), d ≤ ufr N n k d ∧ ufr N n k d ≤ d + k := by
  intro k
  induction k with
  | zero => intro d; show d ≤ d ∧ d ≤ d + (0 : Nat); omega
  | succ k ih =>
    intro d
    unfold ufr
    split
    · have := ih (d + 1); omega
    · omega
theorem hasF_iff (N : Nat → Int) (d : Int) : ∀ k j, hasF N d k j = true ↔ ∃ g, j ≤ g ∧ g < j + k ∧ N g = d := by
  intro k
  induction k with
  | zero => intro j; constructor
            · intro h; cases h
            · rintro ⟨g, h1, h2, -⟩; omega
  | succ k ih =>
    intro j
    unfold hasF
    by_cases h : N j = d
    · rw [if_pos h]; exact ⟨fun _ => ⟨j, by omega, by omega, h⟩, fun _ => rfl⟩
    · rw [if_neg h, ih (j + 1)]
      constructor
      · rintro ⟨g, h1, h2, h3⟩; exact ⟨g, by omega, by omega, h3⟩
      · rintro ⟨g, h1, h2, h3⟩
        refine ⟨g, ?_, by omega, h3⟩
        rcases Nat.lt_or_ge j g with h4 | h4
        · omega
        · have : g = j := by omega
          rw [this] at h3; exact absurd h3 h
/-- what holds of a state -/
def IF (V : Nat → Int) (f : Nat) : Prop := 0 ≤ V (1 + 4 * f) ∧ V (1 + 4 * f) ≤ 3 ∧ 0 ≤ V (2 + 4 * f) ∧ V (2 + 4 * f) ≤ 9 ∧ -365 ≤ V (3 + 4 * f) ∧ V (3 + 4 * f) ≤ 365 ∧ -1 ≤ V (4 + 4 * f) ∧ V (4 + 4 * f) ≤ 9 ∧ (V (1 + 4 * f) ≠ 3 → 0 ≤ V (3 + 4 * f)) ∧ ((V (1 + 4 * f) = 1 ∨ V (1 + 4 * f) = 2) → 0 ≤ V (4 + 4 * f) ∧ V (4 + 4 * f) ≤ 6) ∧ (V (1 + 4 * f) = 3 → 0 ≤ V (4 + 4 * f) ∧ V (4 + 4 * f) < f)
def IK (V : Nat → Int) (k : Nat) : Prop := 0 ≤ V (46 + 13 * k) ∧ V (46 + 13 * k) ≤ 999 ∧ 0 ≤ V (47 + 13 * k) ∧ V (47 + 13 * k) ≤ 2 ∧ 0 ≤ V (48 + 13 * k) ∧ V (48 + 13 * k) ≤ 10 ∧ ∀ f : Nat, f < 10 → -1 ≤ V (49 + 13 * k + f) ∧ V (49 + 13 * k + f) ≤ 365
def IV (V : Nat → Int) : Prop := (0 ≤ V 0 ∧ V 0 ≤ 10) ∧ (50 ≤ V 44 ∧ V 44 ≤ 400) ∧ (0 ≤ V 45 ∧ V 45 ≤ 5) ∧ (∀ c : Nat, c < 3 → -5 ≤ V (41 + c) ∧ V (41 + c) ≤ 5) ∧ (∀ f : Nat, (f : Int) < V 0 → IF V f) ∧ (∀ k : Nat, (k : Int) < V 45 → IK V k)
/-- a state of the class at the cell o -/
def RF (σ : St) (o : Nat) (V : Nat → Int) (f : Nat) : Prop := σ.1 (o + 2) f = iI (V (1 + 4 * f)) ∧ σ.1 (o + 4) f = iI (V (2 + 4 * f)) ∧ σ.1 (o + 6) f = iI (V (3 + 4 * f)) ∧ σ.1 (o + 8) f = iI (V (4 + 4 * f))
def RT (σ : St) (o : Nat) (V : Nat → Int) (k : Nat) : Prop := σ.1 (o + 12) k = iI (V (46 + 13 * k)) ∧ σ.1 (o + 14) k = iI (V (47 + 13 * k)) ∧ σ.1 (o + 16) k = iI (V (48 + 13 * k)) ∧ ∀ f : Nat, f < 10 → σ.1 (o + 18) (10 * k + f) = iI (V (49 + 13 * k + f))
def RS (σ : St) (o : Nat) (V : Nat → Int) : Prop := σ.1 o 0 = iI (V 0) ∧ σ.1 o 6 = iI (V 44) ∧ σ.1 o 7 = iI (V 45) ∧ (∀ c : Nat, c < 3 → σ.1 (o + 10) c = iI (V (41 + c))) ∧ (∀ f : Nat, (f : Int) < V 0 → RF σ o V f) ∧ (∀ k : Nat, (k : Int) < V 45 → RT σ o V k)
theorem RS.mo {σ τ : St} {o : Nat} {V : Nat → Int} (h : RS σ o V) (e : ∀ c, o ≤ c → c < o + 19 → τ.1 c = σ.1 c) : RS τ o V := by
  obtain ⟨h1, h2, h3, h4, h5, h6⟩ := h
  have e' : ∀ j, j < 19 → τ.1 (o + j) = σ.1 (o + j) := fun j hj => e _ (by omega) (by omega)
  refine ⟨?_, ?_, ?_, fun c hc => ?_, fun f hf => ?_, fun k hk => ?_⟩
  · rw [e o (by omega) (by omega)]; exact h1
  · rw [e o (by omega) (by omega)]; exact h2
  · rw [e o (by omega) (by omega)]; exact h3
  · rw [e' 10 (by omega)]; exact h4 c hc
  · unfold RF; rw [e' 2 (by omega), e' 4 (by omega), e' 6 (by omega), e' 8 (by omega)]; exact h5 f hf
  · unfold RT; rw [e' 12 (by omega), e' 14 (by omega), e' 16 (by omega), e' 18 (by omega)]; exact h6 k hk
theorem RS.fr {σ τ : St} {o lo hi : Nat} {V : Nat → Int} (h : RS σ o V) (e : Fr lo hi σ τ) (hc : o + 19 ≤ lo ∨ hi ≤ o) : RS τ o V := h.mo (fun c h1 h2 => e.1 c (by omega))
