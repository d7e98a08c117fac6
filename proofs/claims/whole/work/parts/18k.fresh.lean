/-! the share of the fresh, and its bits -/
def sh (a b : Nat) : UInt64 := FP.ddiv (FP.i2d (iI (a : Int))) (FP.i2d (iI (b : Int)))
def bF (p : UInt64) (q : Int64) : Option Int64 := if okd (FP.dsub p 4607182418800017408) = true then (if okd (FP.dmul (FP.dsub p 4607182418800017408) 4841369599423283200) = true then some q else none) else none
def bC : Nat → UInt64 → Int64 → Int32 → Option Int64
  | 0, _, _, _ => none
  | g + 1, x, e, k => if 1022 ≤ k then bF x ((e <<< ((52 : Int32).toInt64 &&& 63)) + (FP.d2l (FP.dmul (FP.dsub x 4607182418800017408) 4841369599423283200))) else if 0 ≤ (Op.cmpValue (FP.dcmp x 4607182418800017408) CmpOp.g) then bF x ((e <<< ((52 : Int32).toInt64 &&& 63)) + (FP.d2l (FP.dmul (FP.dsub x 4607182418800017408) 4841369599423283200))) else if okd (FP.dmul x 4611686018427387904) = true then bC g (FP.dmul x 4611686018427387904) (e - 1) (k + 1) else none
def bR : Nat → Int64 → UInt64 → Option Int64
  | 0, _, _ => none
  | g + 1, e, x => if 0 ≤ (Op.cmpValue (FP.dcmp x 4607182418800017408) CmpOp.g) then bF x ((e * 4503599627370496) + (FP.d2l (FP.dmul (FP.dsub x 4607182418800017408) 4841369599423283200))) else if okd (FP.dmul x 4611686018427387904) = true then bR g (e - 1) (FP.dmul x 4611686018427387904) else none
theorem bF_eq {β : Type} (p : UInt64) (q : Int64) (k : Option β) (f : Int64 → β) (h : k = some (f q)) : (gd (okd (FP.dsub p 4607182418800017408)) <| gd (okd (FP.dmul (FP.dsub p 4607182418800017408) 4841369599423283200)) <| k) = (bF p q).map f := by
  unfold gd bF
  by_cases c1 : okd (FP.dsub p 4607182418800017408) = true
  · by_cases c2 : okd (FP.dmul (FP.dsub p 4607182418800017408) 4841369599423283200) = true
    · rw [if_pos c1, if_pos c2, if_pos c1, if_pos c2, h]; rfl
    · rw [if_pos c1, if_neg c2, if_pos c1, if_neg c2]; rfl
  · rw [if_neg c1, if_neg c1]; rfl
theorem bC_eq (σ : St) : ∀ (g : Nat) (x : UInt64) (e : Int64) (k : Int32), f_X6_bitsOfShare_l18 g x e k σ = (bC g x e k).map (fun r => (r, σ)) := by
  intro g
  induction g with
  | zero => intro x e k; rfl
  | succ g ih =>
    intro x e k
    show f_X6_bitsOfShare_b18 _ _ _ _ _ = _
    unfold f_X6_bitsOfShare_b18 f_X6_bitsOfShare_b50 bC
    by_cases c1 : 1022 ≤ k
    · rw [if_pos c1, if_pos c1]; exact bF_eq _ _ _ _ rfl
    · rw [if_neg c1, if_neg c1]
      by_cases c2 : 0 ≤ (Op.cmpValue (FP.dcmp x 4607182418800017408) CmpOp.g)
      · rw [if_pos c2, if_pos c2]; exact bF_eq _ _ _ _ rfl
      · rw [if_neg c2, if_neg c2]
        by_cases c3 : okd (FP.dmul x 4611686018427387904) = true
        · rw [if_pos c3, c3]
          simp only [gd_tt, lt_mk]
          exact ih _ _ _
        · rw [if_neg c3]; unfold gd; rw [if_neg c3]; rfl
theorem bR_eq (σ : St) : ∀ (g : Nat) (e : Int64) (x : UInt64), f_X7_bitsOf_l15 g e x σ = (bR g e x).map (fun r => (r, σ)) := by
  intro g
  induction g with
  | zero => intro e x; rfl
  | succ g ih =>
    intro e x
    show f_X7_bitsOf_b15 _ _ _ _ = _
    unfold f_X7_bitsOf_b15 bR
    by_cases c2 : 0 ≤ (Op.cmpValue (FP.dcmp x 4607182418800017408) CmpOp.g)
    · rw [if_pos c2, if_pos c2]; exact bF_eq _ _ _ _ rfl
    · rw [if_neg c2, if_neg c2]
      by_cases c3 : okd (FP.dmul x 4611686018427387904) = true
      · rw [if_pos c3, c3]
        simp only [gd_tt, lt_mk]
        exact ih _ _
      · rw [if_neg c3]; unfold gd; rw [if_neg c3]; rfl
theorem bC_mo : ∀ (g : Nat) (x : UInt64) (e : Int64) (k : Int32) (r : Int64), bC g x e k = some r → bC (g + 1) x e k = some r := by
  intro g
  induction g with
  | zero => intro x e k r h; cases h
  | succ g ih =>
    intro x e k r h
    unfold bC at h ⊢
    by_cases c1 : 1022 ≤ k
    · rw [if_pos c1] at h ⊢; exact h
    · rw [if_neg c1] at h ⊢
      by_cases c2 : 0 ≤ (Op.cmpValue (FP.dcmp x 4607182418800017408) CmpOp.g)
      · rw [if_pos c2] at h ⊢; exact h
      · rw [if_neg c2] at h ⊢
        by_cases c3 : okd (FP.dmul x 4611686018427387904) = true
        · rw [if_pos c3] at h ⊢; exact ih _ _ _ _ h
        · rw [if_neg c3] at h; cases h
theorem bR_mo : ∀ (g : Nat) (e : Int64) (x : UInt64) (r : Int64), bR g e x = some r → bR (g + 1) e x = some r := by
  intro g
  induction g with
  | zero => intro e x r h; cases h
  | succ g ih =>
    intro e x r h
    unfold bR at h ⊢
    by_cases c2 : 0 ≤ (Op.cmpValue (FP.dcmp x 4607182418800017408) CmpOp.g)
    · rw [if_pos c2] at h ⊢; exact h
    · rw [if_neg c2] at h ⊢
      by_cases c3 : okd (FP.dmul x 4611686018427387904) = true
      · rw [if_pos c3] at h ⊢; exact ih _ _ _ h
      · rw [if_neg c3] at h; cases h
theorem bC_up {g : Nat} {x : UInt64} {e : Int64} {k : Int32} {r : Int64} (h : bC g x e k = some r) : ∀ j, bC (g + j) x e k = some r := by
  intro j
  induction j with
  | zero => exact h
  | succ j ih => exact bC_mo _ _ _ _ _ ih
theorem bR_up {g : Nat} {x : UInt64} {e : Int64} {r : Int64} (h : bR g e x = some r) : ∀ j, bR (g + j) e x = some r := by
  intro j
  induction j with
  | zero => exact h
  | succ j ih => exact bR_mo _ _ _ _ ih
def bitC (x : UInt64) : Option Int64 := if 0 < (Op.cmpValue (FP.dcmp x 0) CmpOp.l) then bC 10 x 1023 0 else some 0
def bitR (x : UInt64) : Option Int64 := if (Op.cmpValue (FP.dcmp x 0) CmpOp.l) = 0 then some 0 else bR 10 1023 x
def shG (x : UInt64) : Bool := okd x && (decide (Op.cmpValue (FP.dcmp x x) CmpOp.l = 0) && ((bitC x).isSome && decide (bitC x = bitR x)))
def btv (x : UInt64) : Int64 := (bitC x).getD 0
theorem shG_ok {x : UInt64} (h : shG x = true) : okd x = true ∧ Op.cmpValue (FP.dcmp x x) CmpOp.l = 0 ∧ bitC x = some (btv x) ∧ bitR x = some (btv x) := by
  unfold shG at h
  rw [Bool.and_eq_true, Bool.and_eq_true, Bool.and_eq_true] at h
  obtain ⟨h1, h2, h3, h4⟩ := h
  have h2 := of_decide_eq_true h2
  have h4 := of_decide_eq_true h4
  have h5 : bitC x = some (btv x) := by
    unfold btv
    cases hb : bitC x with
    | none => rw [hb] at h3; cases h3
    | some v => rfl
  exact ⟨h1, h2, h5, h4 ▸ h5⟩
theorem bitC_v {x : UInt64} (h : shG x = true) (σ : St) : f_X6_bitsOfShare x σ = some (btv x, σ) := by
  obtain ⟨h1, h2, h3, h4⟩ := shG_ok h
  unfold f_X6_bitsOfShare
  unfold bitC at h3
  by_cases c : 0 < (Op.cmpValue (FP.dcmp x 0) CmpOp.l)
  · rw [if_pos c] at h3 ⊢
    rw [show FU = 10 + 3990 from rfl, bC_eq, bC_up h3]; rfl
  · rw [if_neg c] at h3 ⊢
    rw [← Option.some.inj h3]
theorem bitR_v {x : UInt64} (h : shG x = true) (σ : St) : f_X7_bitsOf x σ = some (btv x, σ) := by
  obtain ⟨h1, h2, h3, h4⟩ := shG_ok h
  unfold f_X7_bitsOf
  unfold bitR at h4
  by_cases c : (Op.cmpValue (FP.dcmp x 0) CmpOp.l) = 0
  · rw [if_pos c] at h4 ⊢
    rw [← Option.some.inj h4]
  · rw [if_neg c] at h4 ⊢
    rw [show FU = 10 + 3990 from rfl, bR_eq, bR_up h4]; rfl
set_option maxRecDepth 100000 in
theorem sh_ok1 : ∀ b, b < 26 → ∀ a, a < 51 → b = 0 ∨ b < a ∨ shG (sh a b) = true := by decide +kernel
set_option maxRecDepth 100000 in
theorem sh_ok2 : ∀ b, b < 25 → ∀ a, a < 51 → (b + 26) < a ∨ shG (sh a (b + 26)) = true := by decide +kernel
theorem sh_ok {a b : Nat} (h1 : a ≤ b) (h2 : 0 < b) (h3 : b ≤ 50) : shG (sh a b) = true := by
  rcases Nat.lt_or_ge b 26 with h | h
  · rcases sh_ok1 b h a (by omega) with q | q | q
    · omega
    · omega
    · exact q
  · obtain ⟨d, rfl⟩ : ∃ d, b = d + 26 := ⟨b - 26, by omega⟩
    rcases sh_ok2 d (by omega) a (by omega) with q | q
    · omega
    · exact q
theorem sh_11 : sh 1 1 = 4607182418800017408 := by decide +kernel
def alS (V : Nat → Int) : Nat → Int
  | 0 => 0
  | k + 1 => alS V k + (stn V k : Int)
theorem alS_b {V : Nat → Int} : ∀ k, (∀ j, j < k → stn V j ≤ 10) → (0 ≤ smS V k ∧ smS V k ≤ alS V k) ∧ alS V k ≤ 10 * (k : Int) := by
  intro k
  induction k with
  | zero => intro _; show ((0 : Int) ≤ 0 ∧ (0 : Int) ≤ 0) ∧ (0 : Int) ≤ 10 * ((0 : Nat) : Int); omega
  | succ k ih =>
    intro h
    have h1 := ih (fun j hj => h j (by omega))
    have h2 := stS_b V k
    have h3 := h k (by omega)
    show (0 ≤ smS V k + stS V k ∧ smS V k + stS V k ≤ alS V k + (stn V k : Int)) ∧ alS V k + (stn V k : Int) ≤ _
    omega
theorem stn_b {V : Nat → Int} (hI : IV V) {k : Nat} (hk : (k : Int) < V 45) : stn V k ≤ 10 := (hI.2.2.2.2.2 k hk).ex.2.2.1.2
def frs (V : Nat → Int) (m : Nat) : UInt64 := if alS V m = 0 then sh 1 1 else sh (alS V m - smS V m).toNat (alS V m).toNat
theorem frs_ok {V : Nat → Int} {m : Nat} (hI : IV V) (hm : V 45 = (m : Int)) : shG (frs V m) = true := by
  have hb := alS_b m (fun j hj => stn_b hI (by omega))
  have h5 := hI.2.2.1
  unfold frs
  by_cases c : alS V m = 0
  · rw [if_pos c]; exact sh_ok (by omega) (by omega) (by omega)
  · rw [if_neg c]; exact sh_ok (by omega) (by omega) (by omega)
theorem freshC {V : Nat → Int} {σ : St} {m : Nat} (hI : IV V) (hS : RS σ 1 V) (hm : V 45 = (m : Int)) : ∃ τ, f_X6_freshPart σ = some (frs V m, τ) ∧ Fr 139 144 σ τ := by
  have hb := alS_b m (fun j hj => stn_b hI (by omega))
  have h5 := hI.2.2.1
  have hk := frs_ok hI hm
  have m0 : σ.1 1 7 = iI (m : Int) := by rw [hS.2.2.1, hm]
  obtain ⟨τ, x1, x2⟩ := stale_v (a := 0) (m := m) hI hS (by omega)
  rw [smF_0, Nat.zero_add] at x1
  have x1 : f_X6_staleFeasts (iI 0) (iI (m : Int)) σ = some (iI (smS V m), τ) := x1
  obtain ⟨υ, hυ⟩ : ∃ υ, υ = if alS V m = 0 then σ else τ := ⟨_, rfl⟩
  have hF : Fr 139 144 σ υ := by
    rw [hυ]
    split
    · exact Fr.rfl
    · exact x2
  refine ⟨υ, ?_, hF⟩
  refine lpr (F := fun g j => f_X6_freshPart_l4 g (iI (alS V j)) (iI (j : Int)) σ) (R := fun _ => some (frs V m, υ)) (n := m) ?_ ?_ m FU 0 (by omega) (by simp only [FU]; omega)
  · intro g
    show f_X6_freshPart_b4 _ _ _ _ = some (frs V m, υ)
    unfold f_X6_freshPart_b4
    by_cases c : alS V m = 0
    · rw [hυ, if_pos c]
      unfold frs
      rw [if_pos c, sh_11]
      simp (disch := omega) only [iI_lit, ofNat_iI, iI_add, iI_sub, iI_mul, iI_neg, iI_lt_t, iI_lt_f, iI_le_t, iI_le_f, iI_eq_t, iI_eq_f, iI_div, rm_iI, tc_iI, inB_iI, nz_iI, is01_0, is01_1, gd_tt, bd_mk, bv_mk, oc_mk, lt_mk, Bool.false_eq_true, ↓reduceIte, m0, c]
    · rw [hυ, if_neg c]
      have e1 : ((alS V m - smS V m).toNat : Int) = alS V m - smS V m := by omega
      have e2 : ((alS V m).toNat : Int) = alS V m := by omega
      have e3 : frs V m = FP.ddiv (FP.i2d (iI (alS V m - smS V m))) (FP.i2d (iI (alS V m))) := by
        unfold frs
        rw [if_neg c]
        unfold sh
        rw [e1, e2]
      have k1 := (shG_ok hk).1
      rw [e3] at k1 ⊢
      simp (disch := omega) only [iI_lit, ofNat_iI, iI_add, iI_sub, iI_mul, iI_neg, iI_lt_t, iI_lt_f, iI_le_t, iI_le_f, iI_eq_t, iI_eq_f, iI_div, rm_iI, tc_iI, inB_iI, nz_iI, is01_0, is01_1, gd_tt, bd_mk, bv_mk, oc_mk, lt_mk, Bool.false_eq_true, ↓reduceIte, m0, x1, k1]
  · intro g j hj h
    have h : f_X6_freshPart_l4 g (iI (alS V j + (stn V j : Int))) (iI ((j + 1 : Nat) : Int)) σ = some (frs V m, υ) := h
    obtain ⟨q1, q2, q3, q4⟩ := (hI.2.2.2.2.2 j (by omega)).ex
    have k1 := at_in (c := 16) (N := 5) rfl (by omega) (i := (j : Int)) (σ := σ) (by omega) (by omega)
    have e0 : ((j : Int)).toNat = j := by omega
    have e1 : (j : Int) + 1 = ((j + 1 : Nat) : Int) := by omega
    rw [e0, show σ.1 (16 + 1) j = _ from (hS.2.2.2.2.2 j (by omega)).2.2.1, q3.1] at k1
    show f_X6_freshPart_b4 _ _ _ _ = some (frs V m, υ)
    unfold f_X6_freshPart_b4
    simp (disch := omega) only [iI_lit, ofNat_iI, iI_add, iI_sub, iI_mul, iI_neg, iI_lt_t, iI_lt_f, iI_le_t, iI_le_f, iI_eq_t, iI_eq_f, iI_div, rm_iI, tc_iI, inB_iI, nz_iI, is01_0, is01_1, gd_tt, bd_mk, bv_mk, oc_mk, lt_mk, Bool.false_eq_true, ↓reduceIte, m0, k1, e1, h]
theorem freshR {V : Nat → Int} {σ : St} {m : Nat} (hI : IV V) (hM : RMv σ V) (hm : V 45 = (m : Int)) : ∃ τ, f_X7_fresh σ = some (frs V m, τ) ∧ Fr 229 232 σ τ := by
  have hb := alS_b m (fun j hj => stn_b hI (by omega))
  have h5 := hI.2.2.1
  have hk := frs_ok hI hm
  have m0 := hM 45 (by omega)
  rw [hm] at m0
  obtain ⟨τ, x1, x2⟩ := allStale_v hI hM hm
  obtain ⟨υ, hυ⟩ : ∃ υ, υ = if alS V m = 0 then σ else τ := ⟨_, rfl⟩
  have hF : Fr 229 232 σ υ := by
    rw [hυ]
    split
    · exact Fr.rfl
    · exact x2
  refine ⟨υ, ?_, hF⟩
  refine lpr (F := fun g j => f_X7_fresh_l4 g (iI (alS V j)) (iI (j : Int)) σ) (R := fun _ => some (frs V m, υ)) (n := m) ?_ ?_ m FU 0 (by omega) (by simp only [FU]; omega)
  · intro g
    show f_X7_fresh_b4 _ _ _ _ = some (frs V m, υ)
    unfold f_X7_fresh_b4
    by_cases c : alS V m = 0
    · rw [hυ, if_pos c]
      unfold frs
      rw [if_pos c, sh_11]
      simp (disch := omega) only [iI_lit, ofNat_iI, iI_add, iI_sub, iI_mul, iI_neg, iI_lt_t, iI_lt_f, iI_le_t, iI_le_f, iI_eq_t, iI_eq_f, iI_div, rm_iI, tc_iI, inB_iI, nz_iI, is01_0, is01_1, gd_tt, bd_mk, bv_mk, oc_mk, lt_mk, Bool.false_eq_true, ↓reduceIte, Int.reduceToNat, m0, c]
    · rw [hυ, if_neg c]
      have e1 : ((alS V m - smS V m).toNat : Int) = alS V m - smS V m := by omega
      have e2 : ((alS V m).toNat : Int) = alS V m := by omega
      have e3 : frs V m = FP.ddiv (FP.i2d (iI (alS V m - smS V m))) (FP.i2d (iI (alS V m))) := by
        unfold frs
        rw [if_neg c]
        unfold sh
        rw [e1, e2]
      have k1 := (shG_ok hk).1
      rw [e3] at k1 ⊢
      simp (disch := omega) only [iI_lit, ofNat_iI, iI_add, iI_sub, iI_mul, iI_neg, iI_lt_t, iI_lt_f, iI_le_t, iI_le_f, iI_eq_t, iI_eq_f, iI_div, rm_iI, tc_iI, inB_iI, nz_iI, is01_0, is01_1, gd_tt, bd_mk, bv_mk, oc_mk, lt_mk, Bool.false_eq_true, ↓reduceIte, Int.reduceToNat, m0, x1, k1]
  · intro g j hj h
    have h : f_X7_fresh_l4 g (iI (alS V j + (stn V j : Int))) (iI ((j + 1 : Nat) : Int)) σ = some (frs V m, υ) := h
    obtain ⟨q1, q2, q3, q4⟩ := (hI.2.2.2.2.2 j (by omega)).ex
    have hbj := alS_b j (fun i hi => stn_b hI (by omega))
    have r4 := hM.rd (e := 46 + 13 * (j : Int) + 2) (k := 48 + 13 * j) (by omega) (by omega)
    rw [q3.1] at r4
    have e1 : (j : Int) + 1 = ((j + 1 : Nat) : Int) := by omega
    show f_X7_fresh_b4 _ _ _ _ = some (frs V m, υ)
    unfold f_X7_fresh_b4 f_X7_ofStick
    simp (disch := omega) only [iI_lit, ofNat_iI, iI_add, iI_sub, iI_mul, iI_neg, iI_lt_t, iI_lt_f, iI_le_t, iI_le_f, iI_eq_t, iI_eq_f, iI_div, rm_iI, tc_iI, inB_iI, nz_iI, is01_0, is01_1, gd_tt, bd_mk, bv_mk, oc_mk, lt_mk, Bool.false_eq_true, ↓reduceIte, Int.reduceToNat, m0, r4, e1, h]
