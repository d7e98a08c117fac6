/-! the notches: on the proper day or behind it, all days between taken by feasts ahead, no two alike; the first has its proper day -/
theorem pig : ∀ (n : Nat) (h : Nat → Nat), (∀ i, i < n + 1 → h i < n) → ∃ i j, i < j ∧ j < n + 1 ∧ h i = h j := by
  intro n
  induction n with
  | zero => intro h hh; have := hh 0 (by omega); omega
  | succ n ih =>
    intro h hh
    by_cases c : ∃ i, i < n + 1 ∧ h i = h (n + 1)
    · obtain ⟨i, h1, h2⟩ := c
      exact ⟨i, n + 1, by omega, by omega, h2⟩
    · have hl := hh (n + 1) (by omega)
      have nc : ∀ i, i < n + 1 → h i ≠ h (n + 1) := fun i hi e => c ⟨i, hi, e⟩
      obtain ⟨i, j, h1, h2, h3⟩ := ih (fun i => if h i = n then h (n + 1) else h i) (fun i hi => by
        have h4 := hh i (by omega)
        have h5 := nc i hi
        by_cases d : h i = n
        · rw [if_pos d]; omega
        · rw [if_neg d]; omega)
      have h5 := nc i (by omega)
      have h6 := nc j (by omega)
      refine ⟨i, j, h1, by omega, ?_⟩
      by_cases d : h i = n
      · by_cases e : h j = n
        · omega
        · rw [if_pos d, if_neg e] at h3; exact absurd h3.symm h6
      · by_cases e : h j = n
        · rw [if_neg d, if_pos e] at h3; exact absurd h3 h5
        · rw [if_neg d, if_neg e] at h3; exact h3
/-- not all of n days are taken by the others of n feasts -/
theorem room {n f : Nat} {N : Nat → Int} {d : Int} (hf : f < n) (h : ∀ i : Nat, i < n → ∃ g, g < n ∧ g ≠ f ∧ N g = d + (i : Int)) : False := by
  have hx : ∀ i : Nat, ∃ g : Nat, i < n → (g < n ∧ g ≠ f ∧ N g = d + (i : Int)) := by
    intro i
    by_cases c : i < n
    · obtain ⟨g, h1⟩ := h i c; exact ⟨g, fun _ => h1⟩
    · exact ⟨0, fun q => absurd q c⟩
  obtain ⟨k, hk⟩ := Classical.axiomOfChoice hx
  obtain ⟨n', rfl⟩ : ∃ n', n = n' + 1 := ⟨n - 1, by omega⟩
  obtain ⟨i, j, h1, h2, h3⟩ := pig n' (fun i => if f < k i then k i - 1 else k i) (fun i hi => by
    obtain ⟨a, b, -⟩ := hk i hi
    split <;> omega)
  obtain ⟨a1, b1, c1⟩ := hk i (by omega)
  obtain ⟨a2, b2, c2⟩ := hk j h2
  have h4 : k i = k j := by
    split at h3 <;> split at h3 <;> omega
  rw [h4] at c1
  omega
theorem ufr_tk (N : Nat → Int) (n : Nat) : ∀ (k : Nat) (d e : Int), d ≤ e → e < ufr N n k d → hasF N e n 0 = true := by
  intro k
  induction k with
  | zero => intro d e h1 h2; have h2 : e < d := h2; omega
  | succ k ih =>
    intro d e h1 h2
    unfold ufr at h2
    by_cases c : hasF N d n 0 = true
    · rw [if_pos c] at h2
      by_cases q : e = d
      · rw [q]; exact c
      · exact ih (d + 1) e (by omega) h2
    · rw [if_neg c] at h2; omega
theorem ufr_fr (N : Nat → Int) (n : Nat) : ∀ (k : Nat) (d : Int), hasF N (ufr N n k d) n 0 = false ∨ ufr N n k d = d + k := by
  intro k
  induction k with
  | zero => intro d; right; show d = d + ((0 : Nat) : Int); omega
  | succ k ih =>
    intro d
    unfold ufr
    by_cases c : hasF N d n 0 = true
    · rw [if_pos c]
      rcases ih (d + 1) with h | h
      · exact .inl h
      · right; omega
    · rw [if_neg c]
      left
      cases q : hasF N d n 0 with
      | true => exact absurd q c
      | false => rfl
theorem hasF_no {N : Nat → Int} {d : Int} {n : Nat} (h : hasF N d n 0 = false) {g : Nat} (hg : g < n) : N g ≠ d := fun e => by
  have := (hasF_iff N d n 0).mpr ⟨g, by omega, by omega, e⟩
  rw [h] at this; cases this
def ahd (V : Nat → Int) (k f : Nat) : Prop := V (2 + 4 * f) < V (2 + 4 * k) ∨ (V (2 + 4 * k) = V (2 + 4 * f) ∧ k < f)
def pdn (V : Nat → Int) (r : Int) (f g : Nat) : Prop := r < V (2 + 4 * g) ∨ (V (2 + 4 * g) = r ∧ g < f)
/-- what holds when the feasts ahead of (r, f) have their notches -/
def NI (V : Nat → Int) (D : Int) (p N : Nat → Int) (n : Nat) (r : Int) (f : Nat) : Prop :=
  (∀ g, g < n → ¬ pdn V r f g → N g = -1) ∧
  (∀ g, g < n → N g ≠ -1 → p g ≠ -1 ∧ p g ≤ N g ∧ N g < D ∧ ∀ d, p g ≤ d → d < N g → ∃ k, k < n ∧ ahd V k g ∧ N k = d) ∧
  (∀ g k, g < n → k < n → g ≠ k → N g ≠ -1 → N g ≠ N k) ∧
  (∀ g, g < n → pdn V r f g → p g ≠ -1 → (∀ k, k < n → ahd V k g → p k = -1) → N g = p g)
def PI (D : Int) (p : Nat → Int) : Prop := ∀ g, p g = -1 ∨ (0 ≤ p g ∧ p g < D)
theorem NI_st {V : Nat → Int} {D : Int} {p N : Nat → Int} {n f : Nat} {r : Int} (hV : V 0 = (n : Int)) (hp : PI D p) (hf : f < n) (h : NI V D p N n r f) : NI V D p (stN V D p N r f) n r (f + 1) := by
  obtain ⟨h1, h2, h3, h4⟩ := h
  have hn : (V 0).toNat = n := by omega
  have nf : ¬ pdn V r f f ∨ V (2 + 4 * f) ≠ r := by
    by_cases c : V (2 + 4 * f) = r
    · left
      rintro (q | q)
      · omega
      · omega
    · exact .inr c
  unfold stN
  by_cases c : p f ≠ -1 ∧ V (2 + 4 * f) = r
  · rw [if_pos c, hn]
    obtain ⟨c1, c2⟩ := c
    have hf1 : N f = -1 := h1 f hf (by rcases nf with q | q; exact q; exact absurd c2 q)
    have hpf : 0 ≤ p f ∧ p f < D := by rcases hp f with q | q; exact absurd q c1; exact q
    obtain ⟨u, hu⟩ : ∃ u, u = ufr N n n (p f) := ⟨_, rfl⟩
    have hub := ufr_b N n n (p f)
    have tk : ∀ e, p f ≤ e → e < u → ∃ k, k < n ∧ k ≠ f ∧ N k = e := by
      intro e q1 q2
      have q3 := ufr_tk N n n (p f) e q1 (by rw [← hu]; exact q2)
      obtain ⟨k, q4, q5, q6⟩ := (hasF_iff N e n 0).mp q3
      refine ⟨k, by omega, fun q => ?_, q6⟩
      rw [q, hf1] at q6; omega
    have fr : hasF N u n 0 = false := by
      rcases ufr_fr N n n (p f) with q | q
      · rw [hu]; exact q
      · exfalso
        refine room (N := N) (d := p f) hf (fun i hi => ?_)
        exact tk (p f + i) (by omega) (by rw [hu, q]; omega)
    rw [← hu] at hub ⊢
    have vf : updf N f (orN D u) f = orN D u := updf_at _ _ _
    have vg : ∀ g, g ≠ f → updf N f (orN D u) g = N g := fun g q => updf_ne q
    have vu : orN D u = -1 ∨ (orN D u = u ∧ u < D) := by
      unfold orN
      by_cases q : 0 ≤ u ∧ u < D
      · rw [if_pos q]; exact .inr ⟨rfl, q.2⟩
      · rw [if_neg q]; exact .inl rfl
    have pd : ∀ k, k < n → N k ≠ -1 → ahd V k f := by
      intro k q1 q2
      by_cases q3 : pdn V r f k
      · rcases q3 with q4 | q4
        · exact .inl (by omega)
        · exact .inr (by omega)
      · exact absurd (h1 k q1 q3) q2
    refine ⟨fun g g1 g2 => ?_, fun g g1 g2 => ?_, fun g k g1 k1 gk g2 => ?_, fun g g1 g2 g3 g4 => ?_⟩
    · have q : g ≠ f := fun q => g2 (.inr (by rw [q]; exact ⟨c2, by omega⟩))
      rw [vg g q]
      refine h1 g g1 (fun q2 => g2 ?_)
      rcases q2 with q3 | q3
      · exact .inl q3
      · exact .inr ⟨q3.1, by omega⟩
    · by_cases q : g = f
      · rw [q, vf] at g2 ⊢
        rcases vu with v | ⟨v, v2⟩
        · exact absurd v g2
        · rw [v]
          refine ⟨c1, hub.1, v2, fun d d1 d2 => ?_⟩
          obtain ⟨k, k1, k2, k3⟩ := tk d d1 d2
          exact ⟨k, k1, pd k k1 (by omega), by rw [updf_ne k2]; exact k3⟩
      · rw [vg g q] at g2 ⊢
        obtain ⟨q1, q2, q3, q4⟩ := h2 g g1 g2
        refine ⟨q1, q2, q3, fun d d1 d2 => ?_⟩
        obtain ⟨k, k1, k2, k3⟩ := q4 d d1 d2
        refine ⟨k, k1, k2, ?_⟩
        have hd : 0 ≤ d := by rcases hp g with z | z; exact absurd z q1; omega
        rw [vg k (fun z => by rw [z, hf1] at k3; omega)]; exact k3
    · by_cases q : g = f
      · rw [q, vf] at g2 ⊢
        rw [vg k (fun z => gk (by rw [q, z]))]
        rcases vu with v | ⟨v, -⟩
        · exact absurd v g2
        · rw [v]; exact fun z => hasF_no fr k1 z.symm
      · rw [vg g q] at g2 ⊢
        by_cases q2 : k = f
        · rw [q2, vf]
          rcases vu with v | ⟨v, -⟩
          · rw [v]; exact g2
          · rw [v]; exact hasF_no fr g1
        · rw [vg k q2]; exact h3 g k g1 k1 gk g2
    · by_cases q : g = f
      · rw [q] at g4 ⊢
        rw [vf]
        have e : hasF N (p f) n 0 = false := by
          cases z : hasF N (p f) n 0 with
          | false => rfl
          | true =>
            exfalso
            obtain ⟨k, k1, k2, k3⟩ := (hasF_iff N (p f) n 0).mp z
            have k4 : N k ≠ -1 := by omega
            have k5 := h2 k (by omega) k4
            exact k5.1 (g4 k (by omega) (pd k (by omega) k4))
        have e2 : u = p f := by
          rw [hu]
          obtain ⟨n', rfl⟩ : ∃ n', n = n' + 1 := ⟨n - 1, by omega⟩
          unfold ufr
          rw [if_neg (by rw [e]; exact Bool.false_ne_true)]
        rw [e2]
        unfold orN
        rw [if_pos hpf]
      · rw [vg g q]
        refine h4 g g1 ?_ g3 g4
        rcases g2 with z | z
        · exact .inl z
        · exact .inr ⟨z.1, by omega⟩
  · rw [if_neg c]
    have pq : ∀ g, g < n → pdn V r (f + 1) g → p g ≠ -1 → pdn V r f g := by
      intro g g1 g2 g3
      rcases g2 with z | z
      · exact .inl z
      · refine .inr ⟨z.1, ?_⟩
        by_cases q : g = f
        · exfalso; rw [q] at z g3; exact c ⟨g3, z.1⟩
        · omega
    refine ⟨fun g g1 g2 => h1 g g1 (fun z => g2 ?_), h2, h3, fun g g1 g2 g3 g4 => h4 g g1 (pq g g1 g2 g3) g3 g4⟩
    rcases z with y | y
    · exact .inl y
    · exact .inr ⟨y.1, by omega⟩
theorem NI_CR {V : Nat → Int} {D : Int} {p N : Nat → Int} {n : Nat} {r : Int} (hV : V 0 = (n : Int)) (hp : PI D p) (h : NI V D p N n r 0) : ∀ f, f ≤ n → NI V D p (CR V D p N r f) n r f := by
  intro f
  induction f with
  | zero => intro _; exact h
  | succ f ih => intro hf; exact NI_st hV hp (by omega) (ih (by omega))
theorem NI_dn {V : Nat → Int} {D : Int} {p N : Nat → Int} {n : Nat} {r : Int} (h : NI V D p N n r n) : NI V D p N n (r - 1) 0 := by
  obtain ⟨h1, h2, h3, h4⟩ := h
  refine ⟨fun g g1 g2 => h1 g g1 (fun z => g2 (.inl ?_)), h2, h3, fun g g1 g2 g3 g4 => h4 g g1 ?_ g3 g4⟩
  · rcases z with z | z <;> omega
  · rcases g2 with z | z
    · by_cases q : V (2 + 4 * g) = r
      · exact .inr ⟨q, g1⟩
      · exact .inl (by omega)
    · omega
theorem NI_RR {V : Nat → Int} {D : Int} {p : Nat → Int} {n : Nat} (hV : V 0 = (n : Int)) (hp : PI D p) (hr : ∀ g, g < n → V (2 + 4 * g) ≤ 9) : ∀ q : Nat, q ≤ 10 → NI V D p (RR V D p q) n (9 - (q : Int)) 0 := by
  intro q
  induction q with
  | zero =>
    intro _
    refine ⟨fun g g1 g2 => rfl, fun g g1 g2 => absurd rfl g2, fun g k g1 k1 gk g2 => absurd rfl g2, fun g g1 g2 _ _ => ?_⟩
    have := hr g g1
    rcases g2 with z | z <;> omega
  | succ q ih =>
    intro hq
    have h := NI_dn (NI_CR hV hp (ih (by omega)) n (Nat.le_refl n))
    show NI V D p (CR V D p (RR V D p q) (9 - (q : Int)) (V 0).toNat) n _ 0
    rw [show (V 0).toNat = n by omega, show (9 : Int) - ((q + 1 : Nat) : Int) = 9 - (q : Int) - 1 by omega]
    exact h
theorem PT_in (V : Nat → Int) (y s : Int) (f : Nat) : PI (dys y) (PT V y s f) := by
  induction f with
  | zero => intro g; exact .inl rfl
  | succ f ih =>
    intro g
    show updf _ _ _ g = -1 ∨ (0 ≤ updf _ _ _ g ∧ updf _ _ _ g < dys y)
    by_cases h : g = f
    · rw [h, updf_at]
      unfold orN
      split
      · next q => exact .inr q
      · exact .inl rfl
    · rw [updf_ne h]; exact ih g
theorem Pr_in (V : Nat → Int) (y s : Int) : PI (dys y) (Pr V y s) := PT_in V y s _
theorem Pr_at {V : Nat → Int} {y s : Int} {n g : Nat} (hV : V 0 = (n : Int)) (hg : g < n) : Pr V y s g = orN (dys y) (rawP V y s (PT V y s g) g) := by
  unfold Pr
  rw [show (V 0).toNat = n by omega, PT_le V y s (f := g + 1) (g := g) (n := n) (by omega) (by omega)]
  exact updf_at _ _ _
/-- the notches of the feasts -/
theorem Nt_ok {V : Nat → Int} {y s : Int} {n : Nat} (hI : IV V) (hV : V 0 = (n : Int)) : NI V (dys y) (Pr V y s) (Nt V y s) n (-1) 0 := by
  have h := NI_RR (p := Pr V y s) hV (Pr_in V y s) (fun g g1 => (hI.2.2.2.2.1 g (by omega)).2.2.2.1) 10 (by omega)
  rw [show (9 : Int) - ((10 : Nat) : Int) = -1 by omega] at h
  exact h
section NT
variable {V : Nat → Int} {y s : Int} {n : Nat}
theorem nt_in {g : Nat} (hI : IV V) (hV : V 0 = (n : Int)) (hg : g < n) (h : Nt V y s g ≠ -1) : 0 ≤ Pr V y s g ∧ Pr V y s g ≤ Nt V y s g ∧ Nt V y s g < dys y := by
  obtain ⟨a, b, c, -⟩ := (Nt_ok hI hV).2.1 g hg h
  have := Pr_in V y s g
  omega
theorem nt_bt {g : Nat} (hI : IV V) (hV : V 0 = (n : Int)) (hg : g < n) (h : Nt V y s g ≠ -1) {d : Int} (h1 : Pr V y s g ≤ d) (h2 : d < Nt V y s g) : ∃ k, k < n ∧ ahd V k g ∧ Nt V y s k = d := ((Nt_ok hI hV).2.1 g hg h).2.2.2 d h1 h2
theorem nt_ne {g k : Nat} (hI : IV V) (hV : V 0 = (n : Int)) (hg : g < n) (hk : k < n) (hgk : g ≠ k) (h : Nt V y s g ≠ -1) : Nt V y s g ≠ Nt V y s k := (Nt_ok hI hV).2.2.1 g k hg hk hgk h
theorem nt_top {g : Nat} (hI : IV V) (hV : V 0 = (n : Int)) (hg : g < n) (h : Pr V y s g ≠ -1) (ht : ∀ k, k < n → ahd V k g → Pr V y s k = -1) : Nt V y s g = Pr V y s g := by
  refine (Nt_ok hI hV).2.2.2 g hg (.inl ?_) h ht
  have := (hI.2.2.2.2.1 g (by omega)).2.2.1
  omega
/-- fixed days and weekdays are the same for all carvers -/
theorem pr_same {s' : Int} {g : Nat} (hV : V 0 = (n : Int)) (hg : g < n) (h : V (1 + 4 * g) = 0 ∨ V (1 + 4 * g) = 1) : Pr V y s' g = Pr V y s g := by
  rw [Pr_at hV hg, Pr_at hV hg]
  unfold rawP
  rcases h with h | h
  · rw [if_pos h, if_pos h]
  · rw [if_neg (by omega), if_pos h, if_neg (by omega), if_pos h]
theorem wkf_day {w d t : Int} (ht : 0 ≤ t ∧ t ≤ 6) : (w + wkf w d t) % 7 = t := by
  unfold wkf
  omega
theorem pr_day {g : Nat} (hI : IV V) (hV : V 0 = (n : Int)) (hg : g < n) (h : V (1 + 4 * g) = 1 ∨ V (1 + 4 * g) = 2) (hp : 0 ≤ Pr V y s g) : (fwd y + Pr V y s g) % 7 = V (4 + 4 * g) := by
  have ht := (hI.2.2.2.2.1 g (by omega)).2.2.2.2.2.2.2.2.2.1 h
  rw [Pr_at hV hg] at hp ⊢
  unfold orN at hp ⊢
  by_cases c : 0 ≤ rawP V y s (PT V y s g) g ∧ rawP V y s (PT V y s g) g < dys y
  · rw [if_pos c]
    have c1 := c.1
    unfold rawP at c1 ⊢
    rcases h with h | h
    · rw [if_neg (by omega), if_pos h]; exact wkf_day ht
    · rw [if_neg (by omega), if_neg (by omega), if_pos h] at c1 ⊢
      unfold pmn at c1 ⊢
      by_cases q : ful (shf y s (V 44)) (dys y) 400 (V (3 + 4 * g)) = -1
      · rw [if_pos q] at c1; omega
      · rw [if_neg q]; exact wkf_day ht
  · rw [if_neg c] at hp; omega
end NT
