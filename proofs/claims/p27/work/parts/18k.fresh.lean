/-! the share -/
def sh (a b : Nat) : UInt64 := FP.ddiv (FP.i2d (iI (a : Int))) (FP.i2d (iI (b : Int)))
def shG (x : UInt64) : Bool := okd x && (decide (¬ (Op.cmpValue (FP.dcmp x 0) CmpOp.l) < 0) && decide (¬ 0 < (Op.cmpValue (FP.dcmp x 4607182418800017408) CmpOp.g)))
theorem shG_ok {x : UInt64} (h : shG x = true) : okd x = true ∧ ¬ (Op.cmpValue (FP.dcmp x 0) CmpOp.l) < 0 ∧ ¬ 0 < (Op.cmpValue (FP.dcmp x 4607182418800017408) CmpOp.g) := by
  unfold shG at h
  rw [Bool.and_eq_true, Bool.and_eq_true] at h
  exact ⟨h.1, of_decide_eq_true h.2.1, of_decide_eq_true h.2.2⟩
set_option maxRecDepth 100000 in
theorem sh_ok1 : ∀ b, b < 26 → ∀ a, a < 51 → b = 0 ∨ b < a ∨ shG (sh a b) = true := by decide +kernel
set_option maxRecDepth 100000 in
theorem sh_ok2 : ∀ b, b < 25 → ∀ a, a < 51 → (b + 26) < a ∨ shG (sh a (b + 26)) = true := by decide +kernel
theorem sh_ok {a b : Nat} (h1 : a ≤ b) (h2 : 0 < b) (h3 : b ≤ 50) : shG (sh a b) = true := by
  rcases Nat.lt_or_ge b 26 with h | h
  · rcases sh_ok1 b h a (by omega) with q | q | q
    · omega
    · omega
    · exact q
  · obtain ⟨d, rfl⟩ : ∃ d, b = d + 26 := ⟨b - 26, by omega⟩
    rcases sh_ok2 d (by omega) a (by omega) with q | q
    · omega
    · exact q
theorem sh_11 : sh 1 1 = 4607182418800017408 := by decide +kernel
def alS (V : Nat → Int) : Nat → Int
  | 0 => 0
  | k + 1 => alS V k + (stn V k : Int)
theorem alS_b {V : Nat → Int} : ∀ k, (∀ j, j < k → stn V j ≤ 10) → (0 ≤ smS V k ∧ smS V k ≤ alS V k) ∧ alS V k ≤ 10 * (k : Int) := by
  intro k
  induction k with
  | zero => intro _; show ((0 : Int) ≤ 0 ∧ (0 : Int) ≤ 0) ∧ (0 : Int) ≤ 10 * ((0 : Nat) : Int); omega
  | succ k ih =>
    intro h
    have h1 := ih (fun j hj => h j (by omega))
    have h2 := stS_b V k
    have h3 := h k (by omega)
    show (0 ≤ smS V k + stS V k ∧ smS V k + stS V k ≤ alS V k + (stn V k : Int)) ∧ alS V k + (stn V k : Int) ≤ _
    omega
theorem stn_b {V : Nat → Int} (hI : IV V) {k : Nat} (hk : (k : Int) < V 45) : stn V k ≤ 10 := (hI.2.2.2.2.2 k hk).ex.2.2.1.2
def frs (V : Nat → Int) (m : Nat) : UInt64 := if alS V m = 0 then sh 1 1 else sh (alS V m - smS V m).toNat (alS V m).toNat
theorem frs_ok {V : Nat → Int} {m : Nat} (hI : IV V) (hm : V 45 = (m : Int)) : shG (frs V m) = true := by
  have hb := alS_b m (fun j hj => stn_b hI (by omega))
  have h5 := hI.2.2.1
  unfold frs
  by_cases c : alS V m = 0
  · rw [if_pos c]; exact sh_ok (by omega) (by omega) (by omega)
  · rw [if_neg c]; exact sh_ok (by omega) (by omega) (by omega)
theorem freshC {V : Nat → Int} {σ : St} {m : Nat} (hI : IV V) (hS : RS σ 1 V) (hm : V 45 = (m : Int)) : ∃ τ, f_X6_freshPart σ = some (frs V m, τ) ∧ Fr 139 144 σ τ := by
  have hb := alS_b m (fun j hj => stn_b hI (by omega))
  have h5 := hI.2.2.1
  have hk := frs_ok hI hm
  have m0 : σ.1 1 7 = iI (m : Int) := by rw [hS.2.2.1, hm]
  obtain ⟨τ, x1, x2⟩ := stale_v (a := 0) (m := m) hI hS (by omega)
  rw [smF_0, Nat.zero_add] at x1
  have x1 : f_X6_staleFeasts (iI 0) (iI (m : Int)) σ = some (iI (smS V m), τ) := x1
  obtain ⟨υ, hυ⟩ : ∃ υ, υ = if alS V m = 0 then σ else τ := ⟨_, rfl⟩
  have hF : Fr 139 144 σ υ := by
    rw [hυ]
    split
    · exact Fr.rfl
    · exact x2
  refine ⟨υ, ?_, hF⟩
  refine lpr (F := fun g j => f_X6_freshPart_l4 g (iI (alS V j)) (iI (j : Int)) σ) (R := fun _ => some (frs V m, υ)) (n := m) ?_ ?_ m FU 0 (by omega) (by simp only [FU]; omega)
  · intro g
    show f_X6_freshPart_b4 _ _ _ _ = some (frs V m, υ)
    unfold f_X6_freshPart_b4
    by_cases c : alS V m = 0
    · rw [hυ, if_pos c]
      unfold frs
      rw [if_pos c, sh_11]
      simp (disch := omega) only [iI_lit, ofNat_iI, iI_add, iI_sub, iI_mul, iI_neg, iI_lt_t, iI_lt_f, iI_le_t, iI_le_f, iI_eq_t, iI_eq_f, iI_div, rm_iI, tc_iI, inB_iI, nz_iI, is01_0, is01_1, gd_tt, bd_mk, bv_mk, oc_mk, lt_mk, Bool.false_eq_true, ↓reduceIte, m0, c]
    · rw [hυ, if_neg c]
      have e1 : ((alS V m - smS V m).toNat : Int) = alS V m - smS V m := by omega
      have e2 : ((alS V m).toNat : Int) = alS V m := by omega
      have e3 : frs V m = FP.ddiv (FP.i2d (iI (alS V m - smS V m))) (FP.i2d (iI (alS V m))) := by
        unfold frs
        rw [if_neg c]
        unfold sh
        rw [e1, e2]
      have k1 := (shG_ok hk).1
      rw [e3] at k1 ⊢
      simp (disch := omega) only [iI_lit, ofNat_iI, iI_add, iI_sub, iI_mul, iI_neg, iI_lt_t, iI_lt_f, iI_le_t, iI_le_f, iI_eq_t, iI_eq_f, iI_div, rm_iI, tc_iI, inB_iI, nz_iI, is01_0, is01_1, gd_tt, bd_mk, bv_mk, oc_mk, lt_mk, Bool.false_eq_true, ↓reduceIte, m0, x1, k1]
  · intro g j hj h
    have h : f_X6_freshPart_l4 g (iI (alS V j + (stn V j : Int))) (iI ((j + 1 : Nat) : Int)) σ = some (frs V m, υ) := h
    obtain ⟨q1, q2, q3, q4⟩ := (hI.2.2.2.2.2 j (by omega)).ex
    have k1 := at_in (c := 16) (N := 5) rfl (by omega) (i := (j : Int)) (σ := σ) (by omega) (by omega)
    have e0 : ((j : Int)).toNat = j := by omega
    have e1 : (j : Int) + 1 = ((j + 1 : Nat) : Int) := by omega
    rw [e0, show σ.1 (16 + 1) j = _ from (hS.2.2.2.2.2 j (by omega)).2.2.1, q3.1] at k1
    show f_X6_freshPart_b4 _ _ _ _ = some (frs V m, υ)
    unfold f_X6_freshPart_b4
    simp (disch := omega) only [iI_lit, ofNat_iI, iI_add, iI_sub, iI_mul, iI_neg, iI_lt_t, iI_lt_f, iI_le_t, iI_le_f, iI_eq_t, iI_eq_f, iI_div, rm_iI, tc_iI, inB_iI, nz_iI, is01_0, is01_1, gd_tt, bd_mk, bv_mk, oc_mk, lt_mk, Bool.false_eq_true, ↓reduceIte, m0, k1, e1, h]
