/-! THE PURE HALF. numbers: an Int32 as iI of an integer; the store's reads; one rule for all loops -/
def iI (a : Int) : Int32 := Int32.ofInt a
theorem iI_lit (n : Nat) : (OfNat.ofNat n : Int32) = iI (OfNat.ofNat n : Int) := (Int32.ofInt_eq_ofNat (n := n)).symm
theorem ofNat_iI (n : Nat) : Int32.ofNat n = iI (n : Int) := (Int32.ofInt_eq_ofNat (n := n)).symm
theorem iI_add (a b : Int) : iI a + iI b = iI (a + b) := (Int32.ofInt_add a b).symm
theorem iI_sub (a b : Int) : iI a - iI b = iI (a - b) := (Int32.ofInt_sub a b).symm
theorem iI_mul (a b : Int) : iI a * iI b = iI (a * b) := (Int32.ofInt_mul a b).symm
theorem iI_neg (a : Int) : -iI a = iI (-a) := (Int32.ofInt_neg a).symm
theorem iI_toInt {a : Int} (h1 : -2147483648 ≤ a) (h2 : a < 2147483648) : (iI a).toInt = a := Int32.toInt_ofInt_of_le (by omega) (by omega)
theorem toInt_iI (x : Int32) : iI x.toInt = x := Int32.ofInt_toInt x
theorem iI_ex (x : Int32) : ∃ a : Int, x = iI a ∧ -2147483648 ≤ a ∧ a < 2147483648 := ⟨x.toInt, (toInt_iI x).symm, Int32.le_toInt x, Int32.toInt_lt x⟩
theorem iI_lt {a b : Int} (h1 : -2147483648 ≤ a) (h2 : a < 2147483648) (h3 : -2147483648 ≤ b) (h4 : b < 2147483648) : (iI a < iI b) = (a < b) := by
  rw [Int32.lt_iff_toInt_lt, iI_toInt h1 h2, iI_toInt h3 h4]
theorem iI_le {a b : Int} (h1 : -2147483648 ≤ a) (h2 : a < 2147483648) (h3 : -2147483648 ≤ b) (h4 : b < 2147483648) : (iI a ≤ iI b) = (a ≤ b) := by
  rw [Int32.le_iff_toInt_le, iI_toInt h1 h2, iI_toInt h3 h4]
theorem iI_eq {a b : Int} (h1 : -2147483648 ≤ a) (h2 : a < 2147483648) (h3 : -2147483648 ≤ b) (h4 : b < 2147483648) : (iI a = iI b) = (a = b) := by
  rw [← Int32.toInt_inj, iI_toInt h1 h2, iI_toInt h3 h4]
theorem iI_lt_t {a b : Int} (h : a < b) (h1 : -2147483648 ≤ a) (h4 : b < 2147483648) : (iI a < iI b) = True := by rw [iI_lt (by omega) (by omega) (by omega) (by omega)]; exact eq_true h
theorem iI_lt_f {a b : Int} (h : b ≤ a) (h1 : -2147483648 ≤ b) (h4 : a < 2147483648) : (iI a < iI b) = False := by rw [iI_lt (by omega) (by omega) (by omega) (by omega)]; exact eq_false (by omega)
theorem iI_le_t {a b : Int} (h : a ≤ b) (h1 : -2147483648 ≤ a) (h4 : b < 2147483648) : (iI a ≤ iI b) = True := by rw [iI_le (by omega) (by omega) (by omega) (by omega)]; exact eq_true h
theorem iI_le_f {a b : Int} (h : b < a) (h1 : -2147483648 ≤ b) (h4 : a < 2147483648) : (iI a ≤ iI b) = False := by rw [iI_le (by omega) (by omega) (by omega) (by omega)]; exact eq_false (by omega)
theorem iI_eq_t {a b : Int} (h : a = b) : (iI a = iI b) = True := by rw [h]; exact eq_true rfl
theorem iI_eq_f {a b : Int} (h : a ≠ b) (h1 : -2147483648 ≤ a) (h2 : a < 2147483648) (h3 : -2147483648 ≤ b) (h4 : b < 2147483648) : (iI a = iI b) = False := by rw [iI_eq h1 h2 h3 h4]; exact eq_false h
theorem iI_div {a b : Int} (h1 : 0 ≤ a) (h2 : a < 2147483648) (h3 : 0 < b) (h4 : b < 2147483648) : iI a / iI b = iI (a / b) := by
  have hq : a / b ≤ a := Int.ediv_le_self b h1
  have hq0 : 0 ≤ a / b := Int.ediv_nonneg h1 (by omega)
  apply Int32.toInt_inj.mp
  have hne : iI b ≠ -1 := by
    intro h
    have h9 : (iI b).toInt = (-1 : Int32).toInt := by rw [h]
    rw [iI_toInt (by omega) (by omega)] at h9
    have h8 : (-1 : Int32).toInt = -1 := by decide
    omega
  rw [Int32.toInt_div_of_ne_right _ _ hne, iI_toInt (by omega) h2, iI_toInt (by omega) h4, iI_toInt (by omega) (by omega), Int.tdiv_eq_ediv_of_nonneg h1]
theorem rm_iI {a b : Int} (h1 : 0 ≤ a) (h2 : a < 2147483648) (h3 : 0 < b) (h4 : b < 2147483648) : rm (iI a) (iI b) = iI (a % b) := by
  unfold rm
  rw [iI_div h1 h2 h3 h4, iI_mul, iI_sub, Int.emod_def, Int.mul_comm]
theorem tc_iI {a : Int} (h1 : 0 ≤ a) (h2 : a < 2147483648) : tc (iI a) = a.toNat := Int32.toNatClampNeg_ofInt_of_le (by omega) (by omega)
theorem inB_iI {a : Int} {n : Nat} (h1 : 0 ≤ a) (h2 : a < n) (h3 : n ≤ 2147483648) : inB (iI a) n = true := by
  have h5 : ¬ (iI a < 0) := by
    rw [show (0 : Int32) = iI 0 from iI_lit 0, iI_lt_f h1 (by omega) (by omega)]; exact fun h => h
  have h6 : tc (iI a) = a.toNat := tc_iI h1 (by omega)
  unfold inB
  refine decide_eq_true ?_
  rintro (h | h)
  · exact h5 h
  · have h7 : n ≤ tc (iI a) := h
    rw [h6] at h7; omega
theorem nz_iI {a : Int} (h : a ≠ 0) (h1 : -2147483648 ≤ a) (h2 : a < 2147483648) : nz (iI a) = true := by
  unfold nz
  refine decide_eq_true ?_
  rw [show (0 : Int32) = iI 0 from iI_lit 0, iI_eq_f h h1 h2 (by omega) (by omega)]; exact fun h => h
theorem is01_0 : is01 (iI 0) = true := by decide
theorem is01_1 : is01 (iI 1) = true := by decide
theorem isN_t {x k : Nat} (h : x = k) : isN x k = true := decide_eq_true h
theorem bd_mk {α β : Type} (a : α) (σ : St) (k : α → St → Option β) : bd (some (a, σ)) k = k a σ := by unfold bd; exact id (Eq.refl _)
theorem bv_mk {β : Type} (σ : St) (k : St → Option β) : bv (some σ) k = k σ := by unfold bv; exact id (Eq.refl _)
theorem gd_tt {β : Type} (k : Option β) : gd true k = k := by unfold gd; exact id (Eq.refl _)
theorem oc_mk {β : Type} (a : Nat) (x : Option β) (k : Nat → Option β) : oc (some a) x k = k a := by unfold oc; exact id (Eq.refl _)
theorem oc_no {β : Type} (x : Option β) (k : Nat → Option β) : oc none x k = x := by unfold oc; exact id (Eq.refl _)
theorem lt_mk {α β : Type} (a : α) (k : α → β) : lt a k = k a := by unfold lt; exact id (Eq.refl _)
theorem sI_hit (σ : St) (c k : Nat) (v : Int32) : (sI σ c k v).1 c k = v := by rw [sI_at]; exact if_pos rfl
theorem sI_k {σ : St} {c k j : Nat} {v : Int32} (h : j ≠ k) : (sI σ c k v).1 c j = σ.1 c j := by rw [sI_at]; exact if_neg h
theorem sI_c {σ : St} {c k d : Nat} {v : Int32} (h : d ≠ c) : (sI σ c k v).1 d = σ.1 d := if_neg h
theorem sI_eq {σ : St} {c k d j : Nat} {v : Int32} (h : d = c) (h' : j = k) : (sI σ c k v).1 d j = v := by subst h; subst h'; exact sI_hit σ d j v
/-- what may have changed -/
def Fr (lo hi : Nat) (σ τ : St) : Prop := (∀ c, (c < lo ∨ hi ≤ c) → τ.1 c = σ.1 c) ∧ τ.2 = σ.2
theorem Fr.rfl {lo hi : Nat} {σ : St} : Fr lo hi σ σ := ⟨fun _ _ => Eq.refl _, Eq.refl _⟩
theorem Fr.tr {lo hi : Nat} {σ τ υ : St} (h : Fr lo hi σ τ) (h' : Fr lo hi τ υ) : Fr lo hi σ υ := ⟨fun c hc => (h'.1 c hc).trans (h.1 c hc), h'.2.trans h.2⟩
theorem Fr.mo {lo hi lo' hi' : Nat} {σ τ : St} (h : Fr lo hi σ τ) (h1 : lo' ≤ lo) (h2 : hi ≤ hi') : Fr lo' hi' σ τ := ⟨fun c hc => h.1 c (by omega), h.2⟩
theorem Fr.sI {lo hi c k : Nat} {v : Int32} {σ : St} (h1 : lo ≤ c) (h2 : c < hi) : Fr lo hi σ (sI σ c k v) := ⟨fun d hd => sI_c (by omega), Eq.refl _⟩
theorem Fr.at {lo hi c : Nat} {σ τ : St} (h : Fr lo hi σ τ) (hc : c < lo ∨ hi ≤ c) : τ.1 c = σ.1 c := h.1 c hc
/-- the one rule for loops: a state s, a measure, what holds at each pass, what holds at the end -/
theorem wlp {γ δ ρ : Type} {F : Nat → γ → ρ} {X : δ → ρ} (μ : γ → Nat) (I : γ → Prop) (E : δ → Prop) (step : ∀ g s, I s → (∃ e, E e ∧ F (g + 1) s = X e) ∨ (∃ s', I s' ∧ μ s' < μ s ∧ F (g + 1) s = F g s')) : ∀ g s, I s → μ s < g → ∃ e, E e ∧ F g s = X e := by
  intro g
  induction g with
  | zero => intro s _ h; omega
  | succ g ih =>
    intro s hI h
    rcases step g s hI with ⟨e, h1, h2⟩ | ⟨s', h1, h2, h3⟩
    · exact ⟨e, h1, h2⟩
    · obtain ⟨e, h4, h5⟩ := ih s' h1 (by omega)
      exact ⟨e, h4, h3.trans h5⟩
/-! rows -/
theorem at_in {c N : Nat} (hA : aln (c + 1) = N) (hN : N < 2147483648) {i : Int} {σ : St} (h0 : 0 ≤ i) (h1 : i < N) : f_X4_at c (iI i) σ = some (σ.1 (c + 1) i.toNat, σ) := by
  unfold f_X4_at
  simp (disch := omega) only [hA, iI_lit, ofNat_iI, iI_lt_f, iI_le_f, inB_iI, tc_iI, gd_tt, ↓reduceIte]
theorem at_out {c N : Nat} (hA : aln (c + 1) = N) (hN : N < 2147483648) {i : Int} {σ : St} (h0 : i < 0 ∨ N ≤ i) (h1 : -2147483648 ≤ i) (h2 : i < 2147483648) : f_X4_at c (iI i) σ = some (iI (-1), σ) := by
  unfold f_X4_at
  rcases (show i < 0 ∨ 0 ≤ i by omega) with h | h
  · simp (disch := omega) only [hA, iI_lit, iI_neg, ofNat_iI, iI_lt_t, ↓reduceIte]
  · simp (disch := omega) only [hA, iI_lit, iI_neg, ofNat_iI, iI_lt_f, iI_le_t, ↓reduceIte]
theorem put_in {c N : Nat} (hA : aln (c + 1) = N) (hN : N < 2147483648) {i : Int} {x : Int32} {σ : St} (h0 : 0 ≤ i) (h1 : i < N) : f_X4_put c (iI i) x σ = some (sI σ (c + 1) i.toNat x) := by
  unfold f_X4_put
  simp (disch := omega) only [hA, iI_lit, ofNat_iI, iI_lt_f, iI_le_f, inB_iI, tc_iI, gd_tt, lt_mk, ↓reduceIte]
theorem putNowhere_v {c N : Nat} (hA : aln (c + 1) = N) (hN : N < 2000) (σ : St) : ∃ τ, f_X4_putNowhere c σ = some τ ∧ Fr (c + 1) (c + 2) σ τ ∧ ∀ j : Nat, j < N → τ.1 (c + 1) j = iI (-1) := by
  have H := wlp (F := fun g (s : Int × St) => f_X4_putNowhere_l2 g c (iI s.1) s.2) (X := fun τ => some τ) (fun s => ((N : Int) - s.1).toNat) (fun s => 0 ≤ s.1 ∧ s.1 ≤ N ∧ Fr (c + 1) (c + 2) σ s.2 ∧ ∀ j : Nat, j < s.1 → s.2.1 (c + 1) j = iI (-1)) (fun τ => Fr (c + 1) (c + 2) σ τ ∧ ∀ j : Nat, j < N → τ.1 (c + 1) j = iI (-1)) (by
    rintro g ⟨i, τ⟩ ⟨h0, h1, hF, hv⟩
    simp only at h0 h1 hv hF
    rcases (show i < N ∨ N ≤ i by omega) with h | h
    · refine .inr ⟨(i + 1, sI τ (c + 1) i.toNat (iI (-1))), ⟨by simp only; omega, by simp only; omega, hF.tr (Fr.sI (by omega) (by omega)), ?_⟩, by simp only; omega, ?_⟩
      · intro j hj
        simp only at hj ⊢
        by_cases hk : j = i.toNat
        · rw [hk, sI_hit]
        · rw [sI_k hk]; exact hv j (by omega)
      · show f_X4_putNowhere_b2 _ _ _ _ = _
        unfold f_X4_putNowhere_b2
        simp (disch := omega) only [hA, iI_lit, iI_neg, iI_add, ofNat_iI, iI_le_f, inB_iI, tc_iI, gd_tt, lt_mk, ↓reduceIte]
    · refine .inl ⟨τ, ⟨hF, fun j hj => hv j (by omega)⟩, ?_⟩
      show f_X4_putNowhere_b2 _ _ _ _ = _
      unfold f_X4_putNowhere_b2
      simp (disch := omega) only [hA, iI_lit, iI_neg, ofNat_iI, iI_le_t, ↓reduceIte])
  obtain ⟨τ, ⟨h1, h2⟩, h3⟩ := H FU (0, σ) ⟨by simp, by simp, Fr.rfl, fun j hj => by simp only at hj; omega⟩ (by simp only [FU]; omega)
  exact ⟨τ, h3, h1, h2⟩
