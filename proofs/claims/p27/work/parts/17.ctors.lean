section JK
variable {G : GG} {B : Nat} {p : Program} {l : Launch} {e : Env} {R : Room} {s : State} {m : MethodId} {args : Array Value} {below : List Frame} {meth : Method} {c : Code} {k n9 : Nat} {Q : State → Prop} {nL pc n : Nat} {lv : List (Nat × Value)} {st : List Value} {A : Nat → va_E}
theorem k_eq {A2 : Nat → va_E} (h : A = A2) (kk : WC G B p l e R s m args below meth c k n9 Q nL pc lv st n A2) : WC G B p l e R s m args below meth c k n9 Q nL pc lv st n A := by rw [h]; exact kk
theorem s1z {j : Nat} (h : ¬ kd j = 5) : s1.1 j = fun _ => 0 := by
  funext k
  show (if kd j = 5 ∧ k = 6 then (300 : Int32) else 0) = 0
  rw [if_neg (fun q => h q.1)]
theorem s1s {j : Nat} (h : kd j = 5) : s1.1 j = fun k => if k = 6 then 300 else 0 := by
  funext k
  show (if kd j = 5 ∧ k = 6 then (300 : Int32) else 0) = _
  by_cases q : k = 6
  · rw [if_pos ⟨h, q⟩, if_pos q]
  · rw [if_neg (fun z => q z.2), if_neg q]
theorem mid_in (G : GG) (B : Nat) (A : Nat → va_E) (i j : Nat) (e e2 x : va_E) (h : i < j) : va_up (mid G B s1 (mid G B s1 A i e) j e2) i x = mid G B s1 (mid G B s1 A i x) j e2 := by
  funext q
  by_cases h1 : q = i
  · subst h1; simp [va_up, mid, h]
  · by_cases h2 : q < j
    · simp [va_up, mid, h1, h2]
    · simp [va_up, mid, h1, h2]
/-- a row of references that is being filled: the first y are there (and what lies beyond its end, which nobody sees) -/
def ringF (B b w N y : Nat) : Nat → Option Nat := fun j => if j < y ∨ N ≤ j then some (B + (b + w * j)) else none
theorem ringF_end (B b w N : Nat) : ringF B b w N N = fun j => some (B + (b + w * j)) := by
  funext j
  simp [ringF, show j < N ∨ N ≤ j by omega]
theorem ringF_step (B b w N y : Nat) : va_up (ringF B b w N y) y (some (B + (b + w * y))) = ringF B b w N (y + 1) := by
  funext j
  by_cases h : j = y
  · subst h; simp [va_up, ringF]
  · simp [va_up, ringF, h, show (j < y + 1) = (j < y) by apply propext; omega]
theorem arr_cell (cA : ClassId) (N : Nat) {f g : Nat → Option Nat} (h : ∀ j, j < N → f j = g j) : vp_cell cA (N, .inr (.inr (.inr (.inr f)))) = vp_cell cA (N, .inr (.inr (.inr (.inr g)))) := by
  rw [vp_cell_q, vp_cell_q]
  have e : (fun (j : Fin N) => va_rf (f j.val)) = fun j => va_rf (g j.val) := funext fun j => by rw [h j.val j.isLt]
  unfold arrV
  rw [e]
theorem k_arr {own : String} {cc : ByteArray} {dy : Nat} (C : Cx G B dy own cc nL p s m args c) {i N9 : Nat} {c9 : ClassId} {f g : Nat → Option Nat} (he : A i = .inl (c9, N9, .inr (.inr (.inr (.inr f))))) (h : ∀ j, j < N9 → f j = g j) (kk : WC G B p l e R s m args below meth c k n9 Q nL pc lv st n (va_up A i (.inl (c9, N9, .inr (.inr (.inr (.inr g))))))) : WC G B p l e R s m args below meth c k n9 Q nL pc lv st n A := fun H locs ls hP hS hl => kk H locs ls (by
  intro q x hx
  obtain ⟨hq, rfl⟩ := wg_of hx
  have h1 := hP q _ (wg_get B A hq)
  by_cases hj : q = i
  · subst hj
    have h1 : H[B + q]? = some (vp_cell c9 (N9, .inr (.inr (.inr (.inr f))))) := by rw [he] at h1; exact h1
    have e2 : va_up A q (.inl (c9, N9, .inr (.inr (.inr (.inr g))))) q = .inl (c9, N9, .inr (.inr (.inr (.inr g)))) := by simp [va_up]
    rw [e2]
    show H[B + q]? = some (vp_cell c9 (N9, .inr (.inr (.inr (.inr g)))))
    rw [h1, arr_cell c9 N9 h]
  · have e2 : va_up A i (.inl (c9, N9, .inr (.inr (.inr (.inr g))))) q = A q := by simp [va_up, hj]
    rw [e2]; exact h1) hS hl
end JK
set_option maxRecDepth 100000 in
set_option maxHeartbeats 4000000 in
theorem c_X4_init (l : Launch) (G : GG) (B dy : Nat) (i : Nat) (A : Nat → va_E) (x1 : Int32) (N9 : Nat) (hx : x1 = nI N9) (h0 : 0 < N9) (hN : N9 ≤ 1000) (k0 : kd i = 4) (k1 : kd (i + 1) = 8) (ka : aln (i + 1) = N9) (hA : A i = .inr (4, [.null])) : CtC l G B dy yX4_init cX4_init 2 1 12 1 N9 [.ref (B + i), .int x1] (i + 1) A (i + 2) (fin G B s1 A i) := by
  refine CtC_of (by decide +kernel) [(0, .ref (B + i)), (1, .int x1)] (Nat.le_of_ble_eq_true rfl) rfl ?_
  intro p e s m args below meth c C hr hlk hini X9 hz
  refine k_cong C (mid_0 G B s1 A hA) ?_
  refine k_aload_n C (q := 0) dX4_init_0 rfl rfl ?_
  refine k_obj C wo_4 wo2 wo3 ⟨Nat.le_of_ble_eq_true rfl, Nat.le_of_ble_eq_true rfl⟩ dX4_init_1 ?_
  refine k_aload_n C (q := 0) dX4_init_4 rfl rfl ?_
  refine k_iload_n C (q := 1) dX4_init_5 rfl rfl ?_
  refine k_if_le C (tgt := 13) dX4_init_6 (by decide) (fun c9 => absurd c9 (by rw [hx]; exact nI_nle h0 (by omega))) (fun _ => ?_)
  refine k_iload_n C (q := 1) dX4_init_9 rfl rfl ?_
  refine k_goto C (tgt := 14) dX4_init_10 (by decide) ?_
  refine k_newi C (by omega) wa_int hx hN ⟨Nat.le_refl 1, Nat.le_of_eq (Nat.zero_add N9)⟩ dX4_init_14 ?_
  refine k_eq (mid_new G B s1 A _ _ (by omega) (by rw [shp8 G B s1 k1, ka, s1z (by rw [k1]; decide)])) ?_
  refine k_putF C hini (i := i) (mid_at G B s1 A i _) (by omega) (ci := 4) rfl inT4 0 (by decide) wf_4_9 (fun _ h => h) tyX4 tyX4_ok nmX4 rfl rfl (ty := .array .int) (v := .ref (B + (i + 1))) (by decide +kernel) rfl rfl (Nat.le_of_ble_eq_true rfl) dX4_init_16 ?_
  refine k_eq (mid_up G B s1 A i _ _) ?_
  refine k_eq (mid_end G B s1 A (by rw [shp4 G B s1 k0]; rfl)) ?_
  exact k_vret C hr hlk ⟨Nat.le_refl 1, Nat.le_of_eq (Nat.zero_add N9)⟩ dX4_init_19
set_option maxRecDepth 100000 in
set_option maxHeartbeats 4000000 in
theorem c_X2_init (l : Launch) (G : GG) (B dy : Nat) (A : Nat → va_E) (hA : A 138 = .inr (2, [.int 0, .int 0, .int 0, .int 0, .int 0, .int 0])) : CtC l G B dy yX2_init cX2_init 1 1 12 0 0 [.ref (B + 138)] (139) A (139) (fin G B s1 A 138) := by
  refine CtC_of (by decide +kernel) [(0, .ref (B + 138))] (Nat.le_of_ble_eq_true rfl) rfl ?_
  intro p e s m args below meth c C hr hlk hini X9 hz
  refine k_cong C (mid_0 G B s1 A hA) ?_
  refine k_aload_n C (q := 0) dX2_init_0 rfl rfl ?_
  refine k_obj C wo_2 wo2 wo3 ⟨Nat.le_of_ble_eq_true rfl, Nat.le_of_ble_eq_true rfl⟩ dX2_init_1 ?_
  refine k_eq (mid_end G B s1 A (by rw [shp2 G B s1 kA_138]; rfl)) ?_
  exact k_vret C hr hlk ⟨Nat.le_of_ble_eq_true rfl, Nat.le_of_ble_eq_true rfl⟩ dX2_init_4
set_option maxRecDepth 100000 in
set_option maxHeartbeats 4000000 in
theorem c_X3_init (l : Launch) (G : GG) (B dy : Nat) (i : Nat) (A : Nat → va_E) (k0 : kd i = 3) (hA : A i = .inr (3, [.null, .null, .int 0, .int 0, .int 0])) : CtC l G B dy yX3_init cX3_init 1 2 33 4 22 [.ref (B + i)] (i + 1) A (i + 5) (fin G B s1 A i) := by
  refine CtC_of (by decide +kernel) [(0, .ref (B + i))] (Nat.le_of_ble_eq_true rfl) rfl ?_
  intro p e s m args below meth c C hr hlk hini X9 hz
  refine k_cong C (mid_0 G B s1 A hA) ?_
  refine k_aload_n C (q := 0) dX3_init_0 rfl rfl ?_
  refine k_obj C wo_3 wo2 wo3 ⟨Nat.le_of_ble_eq_true rfl, Nat.le_of_ble_eq_true rfl⟩ dX3_init_1 ?_
  refine k_aload_n C (q := 0) dX3_init_4 rfl rfl ?_
  refine k_new C (by omega) (ci := 4) (fs := [.null]) rfl inT4 tyX4 tyX4_ok wc_3_9 wi_4 ti_4 (fun j hj => by rcases (show j = 0 by omega) with rfl <;> rfl) ⟨Nat.le_of_ble_eq_true rfl, Nat.le_of_ble_eq_true rfl⟩ dX3_init_5 ?_
  refine k_dup C dX3_init_8 rfl ?_
  refine k_bipush C (v := 10) dX3_init_9 (by decide) ?_
  refine k_callI C X9 (by omega) (by omega) (As := [.int 10]) (c_X4_init l G B dy (i + 1) _ 10 10 rfl (by omega) (by omega) (kN3_1 k0) (kR4_1 (kN3_1 k0)) (aN3_1 k0) (by simp [va_up])) wm_3_11 wn_4 ti_4 wd_4 rfl hc_4 ⟨Nat.le_of_ble_eq_true rfl, Nat.le_of_ble_eq_true rfl⟩ ⟨Nat.le_of_ble_eq_true rfl, Nat.le_of_ble_eq_true rfl⟩ rfl rfl (Nat.le_of_ble_eq_true rfl) dX3_init_11 ?_
  refine k_eq (mid_fin G B s1 A _ _ (by omega)) ?_
  refine k_putF C hini (i := i) (mid_at G B s1 A i _) (by omega) (ci := 3) rfl inT3 0 (by decide) wf_3_14 (fun _ h => h) tyX3 tyX3_ok nmX3 rfl rfl (ty := .object "RunicSticks$Row") (v := .ref (B + (i + 1))) (by decide +kernel) rfl rfl (Nat.le_of_ble_eq_true rfl) dX3_init_14 ?_
  refine k_eq (mid_up G B s1 A i _ _) ?_
  refine k_aload_n C (q := 0) dX3_init_17 rfl rfl ?_
  refine k_new C (by omega) (ci := 4) (fs := [.null]) rfl inT4 tyX4 tyX4_ok wc_3_9 wi_4 ti_4 (fun j hj => by rcases (show j = 0 by omega) with rfl <;> rfl) ⟨Nat.le_of_ble_eq_true rfl, Nat.le_of_ble_eq_true rfl⟩ dX3_init_18 ?_
  refine k_dup C dX3_init_21 rfl ?_
  refine k_bipush C (v := 10) dX3_init_22 (by decide) ?_
  refine k_callI C X9 (by omega) (by omega) (As := [.int 10]) (c_X4_init l G B dy (i + 1 + 2) _ 10 10 rfl (by omega) (by omega) (kN3_3 k0) (kR4_1 (kN3_3 k0)) (aN3_3 k0) (by simp [va_up])) wm_3_11 wn_4 ti_4 wd_4 rfl hc_4 ⟨Nat.le_of_ble_eq_true rfl, Nat.le_of_ble_eq_true rfl⟩ ⟨Nat.le_of_ble_eq_true rfl, Nat.le_of_ble_eq_true rfl⟩ rfl rfl (Nat.le_of_ble_eq_true rfl) dX3_init_24 ?_
  refine k_eq (mid_fin G B s1 A _ _ (by omega)) ?_
  refine k_putF C hini (i := i) (mid_at G B s1 A i _) (by omega) (ci := 3) rfl inT3 1 (by decide) wf_3_20 (fun _ h => h) tyX3 tyX3_ok nmX3 rfl rfl (ty := .object "RunicSticks$Row") (v := .ref (B + (i + 1 + 2))) (by decide +kernel) rfl rfl (Nat.le_of_ble_eq_true rfl) dX3_init_27 ?_
  refine k_eq (mid_up G B s1 A i _ _) ?_
  refine k_eq (mid_end G B s1 A (by rw [shp3 G B s1 k0]; rw [s1z (by rw [k0]; decide)]; rfl)) ?_
  exact k_vret C hr hlk ⟨Nat.le_of_ble_eq_true rfl, Nat.le_of_ble_eq_true rfl⟩ dX3_init_30
set_option maxRecDepth 100000 in
set_option maxHeartbeats 4000000 in
theorem c_X5_init (l : Launch) (G : GG) (B dy : Nat) (i : Nat) (A : Nat → va_E) (k0 : kd i = 5) (hA : A i = .inr (5, [.int 0, .null, .null, .null, .null, .null, .int 0, .int 0, .null, .null, .null, .null])) : CtC l G B dy yX5_init cX5_init 1 2 33 18 117 [.ref (B + i)] (i + 1) A (i + 19) (fin G B s1 A i) := by
  refine CtC_of (by decide +kernel) [(0, .ref (B + i))] (Nat.le_of_ble_eq_true rfl) rfl ?_
  intro p e s m args below meth c C hr hlk hini X9 hz
  refine k_cong C (mid_0 G B s1 A hA) ?_
  refine k_aload_n C (q := 0) dX5_init_0 rfl rfl ?_
  refine k_obj C wo_5 wo2 wo3 ⟨Nat.le_of_ble_eq_true rfl, Nat.le_of_ble_eq_true rfl⟩ dX5_init_1 ?_
  refine k_aload_n C (q := 0) dX5_init_4 rfl rfl ?_
  refine k_iconst C (v := 0) dX5_init_5 (by decide) ?_
  refine k_put C (i := i) (mid_at G B s1 A i _) (by omega) (ci := 5) rfl inT5 0 (by decide) wf_5_9 (fun _ h => h) tyX5 tyX5_ok nmX5 rfl (ty := .int) (v := .int 0) (by decide +kernel) rfl rfl (Nat.le_of_ble_eq_true rfl) dX5_init_6 ?_
  refine k_eq (mid_up G B s1 A i _ _) ?_
  refine k_aload_n C (q := 0) dX5_init_9 rfl rfl ?_
  refine k_new C (by omega) (ci := 4) (fs := [.null]) rfl inT4 tyX4 tyX4_ok wc_5_15 wi_4 ti_4 (fun j hj => by rcases (show j = 0 by omega) with rfl <;> rfl) ⟨Nat.le_of_ble_eq_true rfl, Nat.le_of_ble_eq_true rfl⟩ dX5_init_10 ?_
  refine k_dup C dX5_init_13 rfl ?_
  refine k_bipush C (v := 10) dX5_init_14 (by decide) ?_
  refine k_callI C X9 (by omega) (by omega) (As := [.int 10]) (c_X4_init l G B dy (i + 1) _ 10 10 rfl (by omega) (by omega) (kN5_1 k0) (kR4_1 (kN5_1 k0)) (aN5_1 k0) (by simp [va_up])) wm_5_17 wn_4 ti_4 wd_4 rfl hc_4 ⟨Nat.le_of_ble_eq_true rfl, Nat.le_of_ble_eq_true rfl⟩ ⟨Nat.le_of_ble_eq_true rfl, Nat.le_of_ble_eq_true rfl⟩ rfl rfl (Nat.le_of_ble_eq_true rfl) dX5_init_16 ?_
  refine k_eq (mid_fin G B s1 A _ _ (by omega)) ?_
  refine k_putF C hini (i := i) (mid_at G B s1 A i _) (by omega) (ci := 5) rfl inT5 1 (by decide) wf_5_20 (fun _ h => h) tyX5 tyX5_ok nmX5 rfl rfl (ty := .object "RunicSticks$Row") (v := .ref (B + (i + 1))) (by decide +kernel) rfl rfl (Nat.le_of_ble_eq_true rfl) dX5_init_19 ?_
  refine k_eq (mid_up G B s1 A i _ _) ?_
  refine k_aload_n C (q := 0) dX5_init_22 rfl rfl ?_
  refine k_new C (by omega) (ci := 4) (fs := [.null]) rfl inT4 tyX4 tyX4_ok wc_5_15 wi_4 ti_4 (fun j hj => by rcases (show j = 0 by omega) with rfl <;> rfl) ⟨Nat.le_of_ble_eq_true rfl, Nat.le_of_ble_eq_true rfl⟩ dX5_init_23 ?_
  refine k_dup C dX5_init_26 rfl ?_
  refine k_bipush C (v := 10) dX5_init_27 (by decide) ?_
  refine k_callI C X9 (by omega) (by omega) (As := [.int 10]) (c_X4_init l G B dy (i + 1 + 2) _ 10 10 rfl (by omega) (by omega) (kN5_3 k0) (kR4_1 (kN5_3 k0)) (aN5_3 k0) (by simp [va_up])) wm_5_17 wn_4 ti_4 wd_4 rfl hc_4 ⟨Nat.le_of_ble_eq_true rfl, Nat.le_of_ble_eq_true rfl⟩ ⟨Nat.le_of_ble_eq_true rfl, Nat.le_of_ble_eq_true rfl⟩ rfl rfl (Nat.le_of_ble_eq_true rfl) dX5_init_29 ?_
  refine k_eq (mid_fin G B s1 A _ _ (by omega)) ?_
  refine k_putF C hini (i := i) (mid_at G B s1 A i _) (by omega) (ci := 5) rfl inT5 2 (by decide) wf_5_24 (fun _ h => h) tyX5 tyX5_ok nmX5 rfl rfl (ty := .object "RunicSticks$Row") (v := .ref (B + (i + 1 + 2))) (by decide +kernel) rfl rfl (Nat.le_of_ble_eq_true rfl) dX5_init_32 ?_
  refine k_eq (mid_up G B s1 A i _ _) ?_
  refine k_aload_n C (q := 0) dX5_init_35 rfl rfl ?_
  refine k_new C (by omega) (ci := 4) (fs := [.null]) rfl inT4 tyX4 tyX4_ok wc_5_15 wi_4 ti_4 (fun j hj => by rcases (show j = 0 by omega) with rfl <;> rfl) ⟨Nat.le_of_ble_eq_true rfl, Nat.le_of_ble_eq_true rfl⟩ dX5_init_36 ?_
  refine k_dup C dX5_init_39 rfl ?_
  refine k_bipush C (v := 10) dX5_init_40 (by decide) ?_
  refine k_callI C X9 (by omega) (by omega) (As := [.int 10]) (c_X4_init l G B dy (i + 1 + 2 + 2) _ 10 10 rfl (by omega) (by omega) (kN5_5 k0) (kR4_1 (kN5_5 k0)) (aN5_5 k0) (by simp [va_up])) wm_5_17 wn_4 ti_4 wd_4 rfl hc_4 ⟨Nat.le_of_ble_eq_true rfl, Nat.le_of_ble_eq_true rfl⟩ ⟨Nat.le_of_ble_eq_true rfl, Nat.le_of_ble_eq_true rfl⟩ rfl rfl (Nat.le_of_ble_eq_true rfl) dX5_init_42 ?_
  refine k_eq (mid_fin G B s1 A _ _ (by omega)) ?_
  refine k_putF C hini (i := i) (mid_at G B s1 A i _) (by omega) (ci := 5) rfl inT5 3 (by decide) wf_5_27 (fun _ h => h) tyX5 tyX5_ok nmX5 rfl rfl (ty := .object "RunicSticks$Row") (v := .ref (B + (i + 1 + 2 + 2))) (by decide +kernel) rfl rfl (Nat.le_of_ble_eq_true rfl) dX5_init_45 ?_
  refine k_eq (mid_up G B s1 A i _ _) ?_
  refine k_aload_n C (q := 0) dX5_init_48 rfl rfl ?_
  refine k_new C (by omega) (ci := 4) (fs := [.null]) rfl inT4 tyX4 tyX4_ok wc_5_15 wi_4 ti_4 (fun j hj => by rcases (show j = 0 by omega) with rfl <;> rfl) ⟨Nat.le_of_ble_eq_true rfl, Nat.le_of_ble_eq_true rfl⟩ dX5_init_49 ?_
  refine k_dup C dX5_init_52 rfl ?_
  refine k_bipush C (v := 10) dX5_init_53 (by decide) ?_
  refine k_callI C X9 (by omega) (by omega) (As := [.int 10]) (c_X4_init l G B dy (i + 1 + 2 + 2 + 2) _ 10 10 rfl (by omega) (by omega) (kN5_7 k0) (kR4_1 (kN5_7 k0)) (aN5_7 k0) (by simp [va_up])) wm_5_17 wn_4 ti_4 wd_4 rfl hc_4 ⟨Nat.le_of_ble_eq_true rfl, Nat.le_of_ble_eq_true rfl⟩ ⟨Nat.le_of_ble_eq_true rfl, Nat.le_of_ble_eq_true rfl⟩ rfl rfl (Nat.le_of_ble_eq_true rfl) dX5_init_55 ?_
  refine k_eq (mid_fin G B s1 A _ _ (by omega)) ?_
  refine k_putF C hini (i := i) (mid_at G B s1 A i _) (by omega) (ci := 5) rfl inT5 4 (by decide) wf_5_30 (fun _ h => h) tyX5 tyX5_ok nmX5 rfl rfl (ty := .object "RunicSticks$Row") (v := .ref (B + (i + 1 + 2 + 2 + 2))) (by decide +kernel) rfl rfl (Nat.le_of_ble_eq_true rfl) dX5_init_58 ?_
  refine k_eq (mid_up G B s1 A i _ _) ?_
  refine k_aload_n C (q := 0) dX5_init_61 rfl rfl ?_
  refine k_new C (by omega) (ci := 4) (fs := [.null]) rfl inT4 tyX4 tyX4_ok wc_5_15 wi_4 ti_4 (fun j hj => by rcases (show j = 0 by omega) with rfl <;> rfl) ⟨Nat.le_of_ble_eq_true rfl, Nat.le_of_ble_eq_true rfl⟩ dX5_init_62 ?_
  refine k_dup C dX5_init_65 rfl ?_
  refine k_iconst C (v := 3) dX5_init_66 (by decide) ?_
  refine k_callI C X9 (by omega) (by omega) (As := [.int 3]) (c_X4_init l G B dy (i + 1 + 2 + 2 + 2 + 2) _ 3 3 rfl (by omega) (by omega) (kN5_9 k0) (kR4_1 (kN5_9 k0)) (aN5_9 k0) (by simp [va_up])) wm_5_17 wn_4 ti_4 wd_4 rfl hc_4 ⟨Nat.le_of_ble_eq_true rfl, Nat.le_of_ble_eq_true rfl⟩ ⟨Nat.le_of_ble_eq_true rfl, Nat.le_of_ble_eq_true rfl⟩ rfl rfl (Nat.le_of_ble_eq_true rfl) dX5_init_67 ?_
  refine k_eq (mid_fin G B s1 A _ _ (by omega)) ?_
  refine k_putF C hini (i := i) (mid_at G B s1 A i _) (by omega) (ci := 5) rfl inT5 5 (by decide) wf_5_33 (fun _ h => h) tyX5 tyX5_ok nmX5 rfl rfl (ty := .object "RunicSticks$Row") (v := .ref (B + (i + 1 + 2 + 2 + 2 + 2))) (by decide +kernel) rfl rfl (Nat.le_of_ble_eq_true rfl) dX5_init_70 ?_
  refine k_eq (mid_up G B s1 A i _ _) ?_
  refine k_aload_n C (q := 0) dX5_init_73 rfl rfl ?_
  refine k_sipush C (v := 300) dX5_init_74 (by decide) ?_
  refine k_put C (i := i) (mid_at G B s1 A i _) (by omega) (ci := 5) rfl inT5 6 (by decide) wf_5_36 (fun _ h => h) tyX5 tyX5_ok nmX5 rfl (ty := .int) (v := .int 300) (by decide +kernel) rfl rfl (Nat.le_of_ble_eq_true rfl) dX5_init_77 ?_
  refine k_eq (mid_up G B s1 A i _ _) ?_
  refine k_aload_n C (q := 0) dX5_init_80 rfl rfl ?_
  refine k_iconst C (v := 0) dX5_init_81 (by decide) ?_
  refine k_put C (i := i) (mid_at G B s1 A i _) (by omega) (ci := 5) rfl inT5 7 (by decide) wf_5_39 (fun _ h => h) tyX5 tyX5_ok nmX5 rfl (ty := .int) (v := .int 0) (by decide +kernel) rfl rfl (Nat.le_of_ble_eq_true rfl) dX5_init_82 ?_
  refine k_eq (mid_up G B s1 A i _ _) ?_
  refine k_aload_n C (q := 0) dX5_init_85 rfl rfl ?_
  refine k_new C (by omega) (ci := 4) (fs := [.null]) rfl inT4 tyX4 tyX4_ok wc_5_15 wi_4 ti_4 (fun j hj => by rcases (show j = 0 by omega) with rfl <;> rfl) ⟨Nat.le_of_ble_eq_true rfl, Nat.le_of_ble_eq_true rfl⟩ dX5_init_86 ?_
  refine k_dup C dX5_init_89 rfl ?_
  refine k_iconst C (v := 5) dX5_init_90 (by decide) ?_
  refine k_callI C X9 (by omega) (by omega) (As := [.int 5]) (c_X4_init l G B dy (i + 1 + 2 + 2 + 2 + 2 + 2) _ 5 5 rfl (by omega) (by omega) (kN5_11 k0) (kR4_1 (kN5_11 k0)) (aN5_11 k0) (by simp [va_up])) wm_5_17 wn_4 ti_4 wd_4 rfl hc_4 ⟨Nat.le_of_ble_eq_true rfl, Nat.le_of_ble_eq_true rfl⟩ ⟨Nat.le_of_ble_eq_true rfl, Nat.le_of_ble_eq_true rfl⟩ rfl rfl (Nat.le_of_ble_eq_true rfl) dX5_init_91 ?_
  refine k_eq (mid_fin G B s1 A _ _ (by omega)) ?_
  refine k_putF C hini (i := i) (mid_at G B s1 A i _) (by omega) (ci := 5) rfl inT5 8 (by decide) wf_5_42 (fun _ h => h) tyX5 tyX5_ok nmX5 rfl rfl (ty := .object "RunicSticks$Row") (v := .ref (B + (i + 1 + 2 + 2 + 2 + 2 + 2))) (by decide +kernel) rfl rfl (Nat.le_of_ble_eq_true rfl) dX5_init_94 ?_
  refine k_eq (mid_up G B s1 A i _ _) ?_
  refine k_aload_n C (q := 0) dX5_init_97 rfl rfl ?_
  refine k_new C (by omega) (ci := 4) (fs := [.null]) rfl inT4 tyX4 tyX4_ok wc_5_15 wi_4 ti_4 (fun j hj => by rcases (show j = 0 by omega) with rfl <;> rfl) ⟨Nat.le_of_ble_eq_true rfl, Nat.le_of_ble_eq_true rfl⟩ dX5_init_98 ?_
  refine k_dup C dX5_init_101 rfl ?_
  refine k_iconst C (v := 5) dX5_init_102 (by decide) ?_
  refine k_callI C X9 (by omega) (by omega) (As := [.int 5]) (c_X4_init l G B dy (i + 1 + 2 + 2 + 2 + 2 + 2 + 2) _ 5 5 rfl (by omega) (by omega) (kN5_13 k0) (kR4_1 (kN5_13 k0)) (aN5_13 k0) (by simp [va_up])) wm_5_17 wn_4 ti_4 wd_4 rfl hc_4 ⟨Nat.le_of_ble_eq_true rfl, Nat.le_of_ble_eq_true rfl⟩ ⟨Nat.le_of_ble_eq_true rfl, Nat.le_of_ble_eq_true rfl⟩ rfl rfl (Nat.le_of_ble_eq_true rfl) dX5_init_103 ?_
  refine k_eq (mid_fin G B s1 A _ _ (by omega)) ?_
  refine k_putF C hini (i := i) (mid_at G B s1 A i _) (by omega) (ci := 5) rfl inT5 9 (by decide) wf_5_45 (fun _ h => h) tyX5 tyX5_ok nmX5 rfl rfl (ty := .object "RunicSticks$Row") (v := .ref (B + (i + 1 + 2 + 2 + 2 + 2 + 2 + 2))) (by decide +kernel) rfl rfl (Nat.le_of_ble_eq_true rfl) dX5_init_106 ?_
  refine k_eq (mid_up G B s1 A i _ _) ?_
  refine k_aload_n C (q := 0) dX5_init_109 rfl rfl ?_
  refine k_new C (by omega) (ci := 4) (fs := [.null]) rfl inT4 tyX4 tyX4_ok wc_5_15 wi_4 ti_4 (fun j hj => by rcases (show j = 0 by omega) with rfl <;> rfl) ⟨Nat.le_of_ble_eq_true rfl, Nat.le_of_ble_eq_true rfl⟩ dX5_init_110 ?_
  refine k_dup C dX5_init_113 rfl ?_
  refine k_iconst C (v := 5) dX5_init_114 (by decide) ?_
  refine k_callI C X9 (by omega) (by omega) (As := [.int 5]) (c_X4_init l G B dy (i + 1 + 2 + 2 + 2 + 2 + 2 + 2 + 2) _ 5 5 rfl (by omega) (by omega) (kN5_15 k0) (kR4_1 (kN5_15 k0)) (aN5_15 k0) (by simp [va_up])) wm_5_17 wn_4 ti_4 wd_4 rfl hc_4 ⟨Nat.le_of_ble_eq_true rfl, Nat.le_of_ble_eq_true rfl⟩ ⟨Nat.le_of_ble_eq_true rfl, Nat.le_of_ble_eq_true rfl⟩ rfl rfl (Nat.le_of_ble_eq_true rfl) dX5_init_115 ?_
  refine k_eq (mid_fin G B s1 A _ _ (by omega)) ?_
  refine k_putF C hini (i := i) (mid_at G B s1 A i _) (by omega) (ci := 5) rfl inT5 10 (by decide) wf_5_48 (fun _ h => h) tyX5 tyX5_ok nmX5 rfl rfl (ty := .object "RunicSticks$Row") (v := .ref (B + (i + 1 + 2 + 2 + 2 + 2 + 2 + 2 + 2))) (by decide +kernel) rfl rfl (Nat.le_of_ble_eq_true rfl) dX5_init_118 ?_
  refine k_eq (mid_up G B s1 A i _ _) ?_
  refine k_aload_n C (q := 0) dX5_init_121 rfl rfl ?_
  refine k_new C (by omega) (ci := 4) (fs := [.null]) rfl inT4 tyX4 tyX4_ok wc_5_15 wi_4 ti_4 (fun j hj => by rcases (show j = 0 by omega) with rfl <;> rfl) ⟨Nat.le_of_ble_eq_true rfl, Nat.le_of_ble_eq_true rfl⟩ dX5_init_122 ?_
  refine k_dup C dX5_init_125 rfl ?_
  refine k_bipush C (v := 50) dX5_init_126 (by decide) ?_
  refine k_callI C X9 (by omega) (by omega) (As := [.int 50]) (c_X4_init l G B dy (i + 1 + 2 + 2 + 2 + 2 + 2 + 2 + 2 + 2) _ 50 50 rfl (by omega) (by omega) (kN5_17 k0) (kR4_1 (kN5_17 k0)) (aN5_17 k0) (by simp [va_up])) wm_5_17 wn_4 ti_4 wd_4 rfl hc_4 ⟨Nat.le_of_ble_eq_true rfl, Nat.le_of_ble_eq_true rfl⟩ ⟨Nat.le_of_ble_eq_true rfl, Nat.le_of_ble_eq_true rfl⟩ rfl rfl (Nat.le_of_ble_eq_true rfl) dX5_init_128 ?_
  refine k_eq (mid_fin G B s1 A _ _ (by omega)) ?_
  refine k_putF C hini (i := i) (mid_at G B s1 A i _) (by omega) (ci := 5) rfl inT5 11 (by decide) wf_5_51 (fun _ h => h) tyX5 tyX5_ok nmX5 rfl rfl (ty := .object "RunicSticks$Row") (v := .ref (B + (i + 1 + 2 + 2 + 2 + 2 + 2 + 2 + 2 + 2))) (by decide +kernel) rfl rfl (Nat.le_of_ble_eq_true rfl) dX5_init_131 ?_
  refine k_eq (mid_up G B s1 A i _ _) ?_
  refine k_eq (mid_end G B s1 A (by rw [shp5 G B s1 k0]; rw [s1s k0]; rfl)) ?_
  exact k_vret C hr hlk ⟨Nat.le_of_ble_eq_true rfl, Nat.le_of_ble_eq_true rfl⟩ dX5_init_134
set_option maxRecDepth 100000 in
set_option maxHeartbeats 4000000 in
theorem c_X0_init (l : Launch) (G : GG) (B dy : Nat) (i : Nat) (A : Nat → va_E) (k0 : kd i = 0) (hA : A i = .inr (0, [.null, .null, .null])) : CtC l G B dy yX0_init cX0_init 1 3 53 15 81 [.ref (B + i)] (i + 1) A (i + 16) (fin G B s1 A i) := by
  refine CtC_of (by decide +kernel) [(0, .ref (B + i))] (Nat.le_of_ble_eq_true rfl) rfl ?_
  intro p e s m args below meth c C hr hlk hini X9 hz
  refine k_cong C (mid_0 G B s1 A hA) ?_
  refine k_aload_n C (q := 0) dX0_init_0 rfl rfl ?_
  refine k_obj C wo_0 wo2 wo3 ⟨Nat.le_of_ble_eq_true rfl, Nat.le_of_ble_eq_true rfl⟩ dX0_init_1 ?_
  refine k_aload_n C (q := 0) dX0_init_4 rfl rfl ?_
  refine k_new C (by omega) (ci := 3) (fs := [.null, .null, .int 0, .int 0, .int 0]) rfl inT3 tyX3 tyX3_ok wc_0_9 wi_3 ti_3 (fun j hj => by rcases (show j = 0 ∨ j = 1 ∨ j = 2 ∨ j = 3 ∨ j = 4 by omega) with rfl | rfl | rfl | rfl | rfl <;> rfl) ⟨Nat.le_of_ble_eq_true rfl, Nat.le_of_ble_eq_true rfl⟩ dX0_init_5 ?_
  refine k_dup C dX0_init_8 rfl ?_
  refine k_callIN C X9 (by omega) (by omega) (As := []) (c_X3_init l G B dy (i + 1) _ (kN0_1 k0) (by simp [va_up])) (host := RX6) (by decide +kernel : (RX0, 11, yX3_init, RX6) ∈ nestL) wn_3 ti_3 wd_3 rfl hc_3 ⟨Nat.le_of_ble_eq_true rfl, Nat.le_of_ble_eq_true rfl⟩ ⟨Nat.le_of_ble_eq_true rfl, Nat.le_of_ble_eq_true rfl⟩ rfl rfl (Nat.le_of_ble_eq_true rfl) dX0_init_9 ?_
  refine k_eq (mid_fin G B s1 A _ _ (by omega)) ?_
  refine k_putF C hini (i := i) (mid_at G B s1 A i _) (by omega) (ci := 0) rfl inT0 0 (by decide) wf_0_12 (fun _ h => h) tyX0 tyX0_ok nmX0 rfl rfl (ty := .object "RunicSticks$Reckoning") (v := .ref (B + (i + 1))) (by decide +kernel) rfl rfl (Nat.le_of_ble_eq_true rfl) dX0_init_12 ?_
  refine k_eq (mid_up G B s1 A i _ _) ?_
  refine k_aload_n C (q := 0) dX0_init_15 rfl rfl ?_
  refine k_new C (by omega) (ci := 3) (fs := [.null, .null, .int 0, .int 0, .int 0]) rfl inT3 tyX3 tyX3_ok wc_0_9 wi_3 ti_3 (fun j hj => by rcases (show j = 0 ∨ j = 1 ∨ j = 2 ∨ j = 3 ∨ j = 4 by omega) with rfl | rfl | rfl | rfl | rfl <;> rfl) ⟨Nat.le_of_ble_eq_true rfl, Nat.le_of_ble_eq_true rfl⟩ dX0_init_16 ?_
  refine k_dup C dX0_init_19 rfl ?_
  refine k_callIN C X9 (by omega) (by omega) (As := []) (c_X3_init l G B dy (i + 1 + 5) _ (kN0_6 k0) (by simp [va_up])) (host := RX6) (by decide +kernel : (RX0, 11, yX3_init, RX6) ∈ nestL) wn_3 ti_3 wd_3 rfl hc_3 ⟨Nat.le_of_ble_eq_true rfl, Nat.le_of_ble_eq_true rfl⟩ ⟨Nat.le_of_ble_eq_true rfl, Nat.le_of_ble_eq_true rfl⟩ rfl rfl (Nat.le_of_ble_eq_true rfl) dX0_init_20 ?_
  refine k_eq (mid_fin G B s1 A _ _ (by omega)) ?_
  refine k_putF C hini (i := i) (mid_at G B s1 A i _) (by omega) (ci := 0) rfl inT0 1 (by decide) wf_0_18 (fun _ h => h) tyX0 tyX0_ok nmX0 rfl rfl (ty := .object "RunicSticks$Reckoning") (v := .ref (B + (i + 1 + 5))) (by decide +kernel) rfl rfl (Nat.le_of_ble_eq_true rfl) dX0_init_23 ?_
  refine k_eq (mid_up G B s1 A i _ _) ?_
  refine k_aload_n C (q := 0) dX0_init_26 rfl rfl ?_
  refine k_new C (by omega) (ci := 3) (fs := [.null, .null, .int 0, .int 0, .int 0]) rfl inT3 tyX3 tyX3_ok wc_0_9 wi_3 ti_3 (fun j hj => by rcases (show j = 0 ∨ j = 1 ∨ j = 2 ∨ j = 3 ∨ j = 4 by omega) with rfl | rfl | rfl | rfl | rfl <;> rfl) ⟨Nat.le_of_ble_eq_true rfl, Nat.le_of_ble_eq_true rfl⟩ dX0_init_27 ?_
  refine k_dup C dX0_init_30 rfl ?_
  refine k_callIN C X9 (by omega) (by omega) (As := []) (c_X3_init l G B dy (i + 1 + 5 + 5) _ (kN0_11 k0) (by simp [va_up])) (host := RX6) (by decide +kernel : (RX0, 11, yX3_init, RX6) ∈ nestL) wn_3 ti_3 wd_3 rfl hc_3 ⟨Nat.le_of_ble_eq_true rfl, Nat.le_of_ble_eq_true rfl⟩ ⟨Nat.le_of_ble_eq_true rfl, Nat.le_of_ble_eq_true rfl⟩ rfl rfl (Nat.le_of_ble_eq_true rfl) dX0_init_31 ?_
  refine k_eq (mid_fin G B s1 A _ _ (by omega)) ?_
  refine k_putF C hini (i := i) (mid_at G B s1 A i _) (by omega) (ci := 0) rfl inT0 2 (by decide) wf_0_21 (fun _ h => h) tyX0 tyX0_ok nmX0 rfl rfl (ty := .object "RunicSticks$Reckoning") (v := .ref (B + (i + 1 + 5 + 5))) (by decide +kernel) rfl rfl (Nat.le_of_ble_eq_true rfl) dX0_init_34 ?_
  refine k_eq (mid_up G B s1 A i _ _) ?_
  refine k_eq (mid_end G B s1 A (by rw [shp0 G B s1 k0]; rfl)) ?_
  exact k_vret C hr hlk ⟨Nat.le_of_ble_eq_true rfl, Nat.le_of_ble_eq_true rfl⟩ dX0_init_37
set_option maxRecDepth 100000 in
set_option maxHeartbeats 4000000 in
theorem c_X1_init (l : Launch) (G : GG) (B dy : Nat) (A : Nat → va_E) (hA : A 20 = .inr (1, [.null, .int 0, .int 0])) : CtC l G B dy yX1_init cX1_init 2 3 53 115 780 [.ref (B + 20)] (21) A (136) (fin G B s1 A 20) := by
  refine CtC_of (by decide +kernel) [(0, .ref (B + 20))] (Nat.le_of_ble_eq_true rfl) rfl ?_
  intro p e s m args below meth c C hr hlk hini X9 hz
  refine k_cong C (mid_0 G B s1 A hA) ?_
  refine k_aload_n C (q := 0) dX1_init_0 rfl rfl ?_
  refine k_obj C wo_1 wo2 wo3 ⟨Nat.le_of_ble_eq_true rfl, Nat.le_of_ble_eq_true rfl⟩ dX1_init_1 ?_
  refine k_aload_n C (q := 0) dX1_init_4 rfl rfl ?_
  refine k_bipush C (v := 6) dX1_init_5 (by decide) ?_
  refine k_newqS C (by omega) X9 wc_1_9 (N9 := 6) rfl (by omega) ⟨Nat.le_of_ble_eq_true rfl, Nat.le_of_ble_eq_true rfl⟩ dX1_init_7 ?_
  refine k_cong C (A2 := mid G B s1 (mid G B s1 A 20 (.inr (1, [.null, .int 0, .int 0]))) 21 (.inl (G.2 1, 6, .inr (.inr (.inr (.inr (fun _ => none))))))) (fun j hj => by
    by_cases h1 : j = 21
    · subst h1; simp [va_up, mid]
    · simp [va_up, mid, h1, show j < 21 by omega]) ?_
  refine k_putF C hini (i := 20) (fs := [.null, .int 0, .int 0]) (by simp [mid]) (by omega) (ci := 1) rfl inT1 0 (by decide) wf_1_11 (fun _ h => h) tyX1 tyX1_ok nmX1 rfl rfl (ty := .array (.object "RunicSticks$State")) (v := .ref (B + 21)) (by decide +kernel) rfl rfl (Nat.le_of_ble_eq_true rfl) dX1_init_10 ?_
  refine k_eq (mid_in G B A 20 21 _ _ _ (by omega)) ?_
  refine k_aload_n C (q := 0) dX1_init_13 rfl rfl ?_
  refine k_iconst C (v := 0) dX1_init_14 (by decide) ?_
  refine k_put C (i := 20) (fs := [.ref (B + 21), .int 0, .int 0]) (by simp [mid]) (by omega) (ci := 1) rfl inT1 1 (by decide) wf_1_17 (fun _ h => h) tyX1 tyX1_ok nmX1 rfl (ty := .int) (v := .int 0) (by decide +kernel) rfl rfl (Nat.le_of_ble_eq_true rfl) dX1_init_15 ?_
  refine k_eq (mid_in G B A 20 21 _ _ _ (by omega)) ?_
  refine k_aload_n C (q := 0) dX1_init_18 rfl rfl ?_
  refine k_iconst C (v := 0) dX1_init_19 (by decide) ?_
  refine k_put C (i := 20) (fs := [.ref (B + 21), .int 0, .int 0]) (by simp [mid]) (by omega) (ci := 1) rfl inT1 2 (by decide) wf_1_21 (fun _ h => h) tyX1 tyX1_ok nmX1 rfl (ty := .int) (v := .int 0) (by decide +kernel) rfl rfl (Nat.le_of_ble_eq_true rfl) dX1_init_20 ?_
  refine k_eq (mid_in G B A 20 21 _ _ _ (by omega)) ?_
  refine k_arr C (i := 21) (c9 := G.2 1) (N9 := 6) (f := fun _ => none) (g := ringF B 22 19 6 0) (by simp [mid]) (fun j hj => by simp [ringF, show ¬ 6 ≤ j by omega]) ?_
  refine k_eq (mid_up G B s1 _ 21 _ _) ?_
  refine k_iconst C (v := 0) dX1_init_23 (by decide) ?_
  refine k_istore_n C [(0, .ref (B + 20)), (1, .int 0)] [1, 0] dX1_init_24 rfl (by decide) rfl ?_
  have J : ∀ (z y : Nat) (x : Int32) (k n9 n : Nat), y + z = 6 → x = nI y → k = 1 + 19 * y → n9 = 6 + 129 * y → n = 22 + 19 * y → WC G B p l e (RM 3 53 115 780) s m args below meth c k n9 (MQ below (PostC G B 136 (fin G B s1 A 20)) args s 115 780 (Ab B)) 2 25 [(0, .ref (B + 20)), (1, .int x)] [] n (mid G B s1 (mid G B s1 A 20 (.inr (1, [.ref (B + 21), .int 0, .int 0]))) 21 (.inl (G.2 1, 6, .inr (.inr (.inr (.inr (ringF B 22 19 6 y))))))) := by
    intro z
    induction z with
    | zero =>
      intro y x k n9 n hy hx hk hn9 hn
      have hy6 : y = 6 := by omega
      subst hy6
      refine k_iload_n C (q := 1) dX1_init_25 rfl rfl ?_
      refine k_aload_n C (q := 0) dX1_init_26 rfl rfl ?_
      refine k_get C (i := 20) (fs := [.ref (B + 21), .int 0, .int 0]) (by simp [mid]) (by omega) (ci := 1) rfl inT1 0 (by decide) wf_1_11 (fun _ h => h) rfl dX1_init_27 ?_
      refine k_alenS C (i := 21) (N9 := 6) (f := ringF B 22 19 6 6) (by simp [mid]) (by omega) dX1_init_30 ?_
      refine k_icmp_ge C (tgt := 53) dX1_init_31 (by decide) (fun _ => ?_) (fun c9 => absurd (by rw [hx]; decide) c9)
      subst hn
      refine k_cong C (A2 := fin G B s1 A 20) (fun j hj => by
        by_cases h1 : j = 21
        · subst h1; simp [mid, fin, shp11 G B s1 (show kd 21 = 11 by decide +kernel), show aln 21 = 6 by decide +kernel, ringF_end]
        · by_cases h2 : j = 20
          · subst h2; simp [mid, fin, shp1 G B s1 (show kd 20 = 1 by decide +kernel), s1z (show ¬ kd 20 = 5 by decide +kernel)]
          · by_cases h3 : j < 20
            · simp [mid, fin, h3, show j < 21 by omega]
            · simp [mid, fin, h1, h2, h3, show ¬ j < 21 by omega]) ?_
      exact k_vret C hr hlk ⟨by omega, by omega⟩ dX1_init_53
    | succ z ih =>
      intro y x k n9 n hy hx hk hn9 hn
      have hy6 : y < 6 := by omega
      refine k_iload_n C (q := 1) dX1_init_25 rfl rfl ?_
      refine k_aload_n C (q := 0) dX1_init_26 rfl rfl ?_
      refine k_get C (i := 20) (fs := [.ref (B + 21), .int 0, .int 0]) (by simp [mid]) (by omega) (ci := 1) rfl inT1 0 (by decide) wf_1_11 (fun _ h => h) rfl dX1_init_27 ?_
      refine k_alenS C (i := 21) (N9 := 6) (f := ringF B 22 19 6 y) (by simp [mid]) (by omega) dX1_init_30 ?_
      refine k_icmp_ge C (tgt := 53) dX1_init_31 (by decide) (fun c9 => absurd c9 (by rw [hx]; exact nI_ge hy6 (by omega))) (fun _ => ?_)
      refine k_aload_n C (q := 0) dX1_init_34 rfl rfl ?_
      refine k_get C (i := 20) (fs := [.ref (B + 21), .int 0, .int 0]) (by simp [mid]) (by omega) (ci := 1) rfl inT1 0 (by decide) wf_1_11 (fun _ h => h) rfl dX1_init_35 ?_
      refine k_iload_n C (q := 1) dX1_init_38 rfl rfl ?_
      refine k_new C (by omega) (ci := 5) (fs := [.int 0, .null, .null, .null, .null, .null, .int 0, .int 0, .null, .null, .null, .null]) rfl inT5 tyX5 tyX5_ok wc_1_9 wi_5 ti_5 (fun j hj => by rcases (show j = 0 ∨ j = 1 ∨ j = 2 ∨ j = 3 ∨ j = 4 ∨ j = 5 ∨ j = 6 ∨ j = 7 ∨ j = 8 ∨ j = 9 ∨ j = 10 ∨ j = 11 by omega) with rfl | rfl | rfl | rfl | rfl | rfl | rfl | rfl | rfl | rfl | rfl | rfl <;> rfl) ⟨show k + 1 ≤ 115 by omega, show n9 + 12 ≤ 780 by omega⟩ dX1_init_39 ?_
      refine k_dup C dX1_init_42 rfl ?_
      refine k_callIN C X9 (by omega) (by omega) (As := []) (c_X5_init l G B dy n _ (by rw [hn]; exact (by decide +kernel : ∀ j, j < 6 → kd (22 + 19 * j) = 5) y hy6) (by simp [va_up])) (host := RX6) (by decide +kernel : (RX1, 24, yX5_init, RX6) ∈ nestL) wn_5 ti_5 wd_5 rfl hc_5 ⟨Nat.le_of_ble_eq_true rfl, Nat.le_of_ble_eq_true rfl⟩ ⟨show k + 1 + 18 ≤ 115 by omega, show n9 + 12 + 117 ≤ 780 by omega⟩ rfl rfl (Nat.le_of_ble_eq_true rfl) dX1_init_43 ?_
      refine k_eq (mid_fin G B s1 _ _ _ (by omega)) ?_
      have k5 : kd n = 5 := by rw [hn]; exact (by decide +kernel : ∀ j, j < 6 → kd (22 + 19 * j) = 5) y hy6
      refine k_astS C (i := 21) (v := n) (N9 := 6) (f := ringF B 22 19 6 y) (by simp [mid]) (by omega) (vs := _) ((by simp [mid, show ¬ n < 21 by omega, show ¬ n = 21 by omega] : mid G B s1 (mid G B s1 A 20 (.inr (1, [.ref (B + 21), .int 0, .int 0]))) 21 (.inl (G.2 1, 6, .inr (.inr (.inr (.inr (ringF B 22 19 6 y)))))) n = shp G B s1 n).trans (shp5 G B s1 k5)) (by omega) (by rw [hx]; exact vp_in_nI hy6 (by omega)) dX1_init_46 ?_
      refine k_eq (mid_up G B s1 _ 21 _ _) ?_
      refine k_iinc C (q := 1) (v := x + 1) [(0, .ref (B + 20)), (1, .int (x + 1))] [1, 0] dX1_init_47 rfl rfl (by decide) rfl ?_
      refine k_goto C (tgt := 25) dX1_init_50 (by decide) ?_
      have e9 : va_up (ringF B 22 19 6 y) x.toNatClampNeg (some (B + n)) = ringF B 22 19 6 (y + 1) := by rw [hx, nI_clamp (by omega), hn]; exact ringF_step B 22 19 6 y
      rw [e9]
      exact ih (y + 1) (x + 1) _ _ _ (by omega) (by rw [hx]; exact nI_1 y) (by omega) (by omega) (by omega)
  exact J 6 0 0 _ _ _ rfl rfl rfl rfl rfl
set_option maxRecDepth 100000 in
set_option maxHeartbeats 4000000 in
theorem c_X6_init (l : Launch) (G : GG) (B dy : Nat) (A : Nat → va_E) (hA : A 0 = .inr (6, [.null, .null, .null, .null, .null, .null, .null, .null, .int 0])) : CtC l G B dy yX6_init cX6_init 2 4 74 224 1429 [.ref (B + 0)] (1) A (225) (fin G B s1 A 0) := by
  refine CtC_of (by decide +kernel) [(0, .ref (B + 0))] (Nat.le_of_ble_eq_true rfl) rfl ?_
  intro p e s m args below meth c C hr hlk hini X9 hz
  refine k_cong C (mid_0 G B s1 A hA) ?_
  refine k_aload_n C (q := 0) dX6_init_0 rfl rfl ?_
  refine k_obj C wo_6 wo2 wo3 ⟨Nat.le_of_ble_eq_true rfl, Nat.le_of_ble_eq_true rfl⟩ dX6_init_1 ?_
  refine k_aload_n C (q := 0) dX6_init_4 rfl rfl ?_
  refine k_new C (by omega) (ci := 5) (fs := [.int 0, .null, .null, .null, .null, .null, .int 0, .int 0, .null, .null, .null, .null]) rfl inT5 tyX5 tyX5_ok wc_6_9 wi_5 ti_5 (fun j hj => by rcases (show j = 0 ∨ j = 1 ∨ j = 2 ∨ j = 3 ∨ j = 4 ∨ j = 5 ∨ j = 6 ∨ j = 7 ∨ j = 8 ∨ j = 9 ∨ j = 10 ∨ j = 11 by omega) with rfl | rfl | rfl | rfl | rfl | rfl | rfl | rfl | rfl | rfl | rfl | rfl <;> rfl) ⟨Nat.le_of_ble_eq_true rfl, Nat.le_of_ble_eq_true rfl⟩ dX6_init_5 ?_
  refine k_dup C dX6_init_8 rfl ?_
  refine k_callIN C X9 (by omega) (by omega) (As := []) (c_X5_init l G B dy (1) _ (by decide +kernel) (by simp [va_up])) (host := RX6) (by decide +kernel : (RX6, 11, yX5_init, RX6) ∈ nestL) wn_5 ti_5 wd_5 rfl hc_5 ⟨Nat.le_of_ble_eq_true rfl, Nat.le_of_ble_eq_true rfl⟩ ⟨Nat.le_of_ble_eq_true rfl, Nat.le_of_ble_eq_true rfl⟩ rfl rfl (Nat.le_of_ble_eq_true rfl) dX6_init_9 ?_
  refine k_eq (mid_fin G B s1 A _ _ (by omega)) ?_
  refine k_putF C hini (i := 0) (mid_at G B s1 A 0 _) (by omega) (ci := 6) rfl inT6 0 (by decide) wf_6_12 (fun _ h => h) tyX6 tyX6_ok nmX6 rfl rfl (ty := .object "RunicSticks$State") (v := .ref (B + (1))) (by decide +kernel) rfl rfl (Nat.le_of_ble_eq_true rfl) dX6_init_12 ?_
  refine k_eq (mid_up G B s1 A 0 _ _) ?_
  refine k_aload_n C (q := 0) dX6_init_15 rfl rfl ?_
  refine k_new C (by omega) (ci := 1) (fs := [.null, .int 0, .int 0]) rfl inT1 tyX1 tyX1_ok wc_6_16 wi_1 ti_1 (fun j hj => by rcases (show j = 0 ∨ j = 1 ∨ j = 2 by omega) with rfl | rfl | rfl <;> rfl) ⟨Nat.le_of_ble_eq_true rfl, Nat.le_of_ble_eq_true rfl⟩ dX6_init_16 ?_
  refine k_dup C dX6_init_19 rfl ?_
  refine k_callI C X9 (by omega) (by omega) (As := []) (c_X1_init l G B dy _ (by simp [va_up])) wm_6_18 wn_1 ti_1 wd_1 rfl hc_1 ⟨Nat.le_of_ble_eq_true rfl, Nat.le_of_ble_eq_true rfl⟩ ⟨Nat.le_of_ble_eq_true rfl, Nat.le_of_ble_eq_true rfl⟩ rfl rfl (Nat.le_of_ble_eq_true rfl) dX6_init_20 ?_
  refine k_eq (mid_fin G B s1 A _ _ (by omega)) ?_
  refine k_putF C hini (i := 0) (mid_at G B s1 A 0 _) (by omega) (ci := 6) rfl inT6 1 (by decide) wf_6_19 (fun _ h => h) tyX6 tyX6_ok nmX6 rfl rfl (ty := .object "RunicSticks$History") (v := .ref (B + (1 + 19))) (by decide +kernel) rfl rfl (Nat.le_of_ble_eq_true rfl) dX6_init_23 ?_
  refine k_eq (mid_up G B s1 A 0 _ _) ?_
  refine k_aload_n C (q := 0) dX6_init_26 rfl rfl ?_
  refine k_new C (by omega) (ci := 4) (fs := [.null]) rfl inT4 tyX4 tyX4_ok wc_6_23 wi_4 ti_4 (fun j hj => by rcases (show j = 0 by omega) with rfl <;> rfl) ⟨Nat.le_of_ble_eq_true rfl, Nat.le_of_ble_eq_true rfl⟩ dX6_init_27 ?_
  refine k_dup C dX6_init_30 rfl ?_
  refine k_bipush C (v := 60) dX6_init_31 (by decide) ?_
  refine k_callI C X9 (by omega) (by omega) (As := [.int 60]) (c_X4_init l G B dy (1 + 19 + 116) _ 60 60 rfl (by omega) (by omega) (by decide +kernel) (by decide +kernel) (by decide +kernel) (by simp [va_up])) wm_6_25 wn_4 ti_4 wd_4 rfl hc_4 ⟨Nat.le_of_ble_eq_true rfl, Nat.le_of_ble_eq_true rfl⟩ ⟨Nat.le_of_ble_eq_true rfl, Nat.le_of_ble_eq_true rfl⟩ rfl rfl (Nat.le_of_ble_eq_true rfl) dX6_init_33 ?_
  refine k_eq (mid_fin G B s1 A _ _ (by omega)) ?_
  refine k_putF C hini (i := 0) (mid_at G B s1 A 0 _) (by omega) (ci := 6) rfl inT6 2 (by decide) wf_6_28 (fun _ h => h) tyX6 tyX6_ok nmX6 rfl rfl (ty := .object "RunicSticks$Row") (v := .ref (B + (1 + 19 + 116))) (by decide +kernel) rfl rfl (Nat.le_of_ble_eq_true rfl) dX6_init_36 ?_
  refine k_eq (mid_up G B s1 A 0 _ _) ?_
  refine k_aload_n C (q := 0) dX6_init_39 rfl rfl ?_
  refine k_new C (by omega) (ci := 2) (fs := [.int 0, .int 0, .int 0, .int 0, .int 0, .int 0]) rfl inT2 tyX2 tyX2_ok wc_6_32 wi_2 ti_2 (fun j hj => by rcases (show j = 0 ∨ j = 1 ∨ j = 2 ∨ j = 3 ∨ j = 4 ∨ j = 5 by omega) with rfl | rfl | rfl | rfl | rfl | rfl <;> rfl) ⟨Nat.le_of_ble_eq_true rfl, Nat.le_of_ble_eq_true rfl⟩ dX6_init_40 ?_
  refine k_dup C dX6_init_43 rfl ?_
  refine k_callIN C X9 (by omega) (by omega) (As := []) (c_X2_init l G B dy _ (by simp [va_up])) (host := RX6) (by decide +kernel : (RX6, 34, yX2_init, RX6) ∈ nestL) wn_2 ti_2 wd_2 rfl hc_2 ⟨Nat.le_of_ble_eq_true rfl, Nat.le_of_ble_eq_true rfl⟩ ⟨Nat.le_of_ble_eq_true rfl, Nat.le_of_ble_eq_true rfl⟩ rfl rfl (Nat.le_of_ble_eq_true rfl) dX6_init_44 ?_
  refine k_eq (mid_fin G B s1 A _ _ (by omega)) ?_
  refine k_putF C hini (i := 0) (mid_at G B s1 A 0 _) (by omega) (ci := 6) rfl inT6 3 (by decide) wf_6_35 (fun _ h => h) tyX6 tyX6_ok nmX6 rfl rfl (ty := .object "RunicSticks$Reader") (v := .ref (B + (1 + 19 + 116 + 2))) (by decide +kernel) rfl rfl (Nat.le_of_ble_eq_true rfl) dX6_init_47 ?_
  refine k_eq (mid_up G B s1 A 0 _ _) ?_
  refine k_aload_n C (q := 0) dX6_init_50 rfl rfl ?_
  refine k_new C (by omega) (ci := 3) (fs := [.null, .null, .int 0, .int 0, .int 0]) rfl inT3 tyX3 tyX3_ok wc_6_39 wi_3 ti_3 (fun j hj => by rcases (show j = 0 ∨ j = 1 ∨ j = 2 ∨ j = 3 ∨ j = 4 by omega) with rfl | rfl | rfl | rfl | rfl <;> rfl) ⟨Nat.le_of_ble_eq_true rfl, Nat.le_of_ble_eq_true rfl⟩ dX6_init_51 ?_
  refine k_dup C dX6_init_54 rfl ?_
  refine k_callIN C X9 (by omega) (by omega) (As := []) (c_X3_init l G B dy (1 + 19 + 116 + 2 + 1) _ (by decide +kernel) (by simp [va_up])) (host := RX6) (by decide +kernel : (RX6, 41, yX3_init, RX6) ∈ nestL) wn_3 ti_3 wd_3 rfl hc_3 ⟨Nat.le_of_ble_eq_true rfl, Nat.le_of_ble_eq_true rfl⟩ ⟨Nat.le_of_ble_eq_true rfl, Nat.le_of_ble_eq_true rfl⟩ rfl rfl (Nat.le_of_ble_eq_true rfl) dX6_init_55 ?_
  refine k_eq (mid_fin G B s1 A _ _ (by omega)) ?_
  refine k_putF C hini (i := 0) (mid_at G B s1 A 0 _) (by omega) (ci := 6) rfl inT6 4 (by decide) wf_6_42 (fun _ h => h) tyX6 tyX6_ok nmX6 rfl rfl (ty := .object "RunicSticks$Reckoning") (v := .ref (B + (1 + 19 + 116 + 2 + 1))) (by decide +kernel) rfl rfl (Nat.le_of_ble_eq_true rfl) dX6_init_58 ?_
  refine k_eq (mid_up G B s1 A 0 _ _) ?_
  refine k_aload_n C (q := 0) dX6_init_61 rfl rfl ?_
  refine k_new C (by omega) (ci := 0) (fs := [.null, .null, .null]) rfl inT0 tyX0 tyX0_ok wc_6_46 wi_0 ti_0 (fun j hj => by rcases (show j = 0 ∨ j = 1 ∨ j = 2 by omega) with rfl | rfl | rfl <;> rfl) ⟨Nat.le_of_ble_eq_true rfl, Nat.le_of_ble_eq_true rfl⟩ dX6_init_62 ?_
  refine k_dup C dX6_init_65 rfl ?_
  refine k_callIN C X9 (by omega) (by omega) (As := []) (c_X0_init l G B dy (1 + 19 + 116 + 2 + 1 + 5) _ (by decide +kernel) (by simp [va_up])) (host := RX6) (by decide +kernel : (RX6, 48, yX0_init, RX6) ∈ nestL) wn_0 ti_0 wd_0 rfl hc_0 ⟨Nat.le_of_ble_eq_true rfl, Nat.le_of_ble_eq_true rfl⟩ ⟨Nat.le_of_ble_eq_true rfl, Nat.le_of_ble_eq_true rfl⟩ rfl rfl (Nat.le_of_ble_eq_true rfl) dX6_init_66 ?_
  refine k_eq (mid_fin G B s1 A _ _ (by omega)) ?_
  refine k_putF C hini (i := 0) (mid_at G B s1 A 0 _) (by omega) (ci := 6) rfl inT6 5 (by decide) wf_6_49 (fun _ h => h) tyX6 tyX6_ok nmX6 rfl rfl (ty := .object "RunicSticks$Council") (v := .ref (B + (1 + 19 + 116 + 2 + 1 + 5))) (by decide +kernel) rfl rfl (Nat.le_of_ble_eq_true rfl) dX6_init_69 ?_
  refine k_eq (mid_up G B s1 A 0 _ _) ?_
  refine k_aload_n C (q := 0) dX6_init_72 rfl rfl ?_
  refine k_new C (by omega) (ci := 0) (fs := [.null, .null, .null]) rfl inT0 tyX0 tyX0_ok wc_6_46 wi_0 ti_0 (fun j hj => by rcases (show j = 0 ∨ j = 1 ∨ j = 2 by omega) with rfl | rfl | rfl <;> rfl) ⟨Nat.le_of_ble_eq_true rfl, Nat.le_of_ble_eq_true rfl⟩ dX6_init_73 ?_
  refine k_dup C dX6_init_76 rfl ?_
  refine k_callIN C X9 (by omega) (by omega) (As := []) (c_X0_init l G B dy (1 + 19 + 116 + 2 + 1 + 5 + 16) _ (by decide +kernel) (by simp [va_up])) (host := RX6) (by decide +kernel : (RX6, 48, yX0_init, RX6) ∈ nestL) wn_0 ti_0 wd_0 rfl hc_0 ⟨Nat.le_of_ble_eq_true rfl, Nat.le_of_ble_eq_true rfl⟩ ⟨Nat.le_of_ble_eq_true rfl, Nat.le_of_ble_eq_true rfl⟩ rfl rfl (Nat.le_of_ble_eq_true rfl) dX6_init_77 ?_
  refine k_eq (mid_fin G B s1 A _ _ (by omega)) ?_
  refine k_putF C hini (i := 0) (mid_at G B s1 A 0 _) (by omega) (ci := 6) rfl inT6 6 (by decide) wf_6_53 (fun _ h => h) tyX6 tyX6_ok nmX6 rfl rfl (ty := .object "RunicSticks$Council") (v := .ref (B + (1 + 19 + 116 + 2 + 1 + 5 + 16))) (by decide +kernel) rfl rfl (Nat.le_of_ble_eq_true rfl) dX6_init_80 ?_
  refine k_eq (mid_up G B s1 A 0 _ _) ?_
  refine k_eq (A2 := mid G B s1 A 0 (.inr (6, [.ref (B + 1), .ref (B + 20), .ref (B + 136), .ref (B + 138), .ref (B + 139), .ref (B + 144), .ref (B + 160), .null, .int 0]))) rfl ?_
  refine k_aload_n C (q := 0) dX6_init_83 rfl rfl ?_
  refine k_dy C wf_6_56 dX6_init_84 ?_
  refine k_dylen C dX6_init_87 ?_
  refine k_newqC C (by omega) X9 wc_6_46 (N9 := 3) rfl (by omega) ⟨Nat.le_of_ble_eq_true rfl, Nat.le_of_ble_eq_true rfl⟩ dX6_init_88 ?_
  refine k_cong C (A2 := mid G B s1 (mid G B s1 A 0 (.inr (6, [.ref (B + 1), .ref (B + 20), .ref (B + 136), .ref (B + 138), .ref (B + 139), .ref (B + 144), .ref (B + 160), .null, .int 0]))) 176 (.inl (G.2 2, 3, .inr (.inr (.inr (.inr (fun _ => none))))))) (fun j hj => by
    by_cases h1 : j = 176
    · subst h1; simp [va_up, mid]
    · simp [va_up, mid, h1, show j < 176 by omega]) ?_
  refine k_putF C hini (i := 0) (fs := [.ref (B + 1), .ref (B + 20), .ref (B + 136), .ref (B + 138), .ref (B + 139), .ref (B + 144), .ref (B + 160), .null, .int 0]) (by simp [mid]) (by omega) (ci := 6) rfl inT6 7 (by decide) wf_6_60 (fun _ h => h) tyX6 tyX6_ok nmX6 rfl rfl (ty := .array (.object "RunicSticks$Council")) (v := .ref (B + 176)) (by decide +kernel) rfl rfl (Nat.le_of_ble_eq_true rfl) dX6_init_91 ?_
  refine k_eq (mid_in G B A 0 176 _ _ _ (by omega)) ?_
  refine k_aload_n C (q := 0) dX6_init_94 rfl rfl ?_
  refine k_iconst C (v := 0) dX6_init_95 (by decide) ?_
  refine k_put C (i := 0) (fs := [.ref (B + 1), .ref (B + 20), .ref (B + 136), .ref (B + 138), .ref (B + 139), .ref (B + 144), .ref (B + 160), .ref (B + 176), .int 0]) (by simp [mid]) (by omega) (ci := 6) rfl inT6 8 (by decide) wf_6_64 (fun _ h => h) tyX6 tyX6_ok nmX6 rfl (ty := .int) (v := .int 0) (by decide +kernel) rfl rfl (Nat.le_of_ble_eq_true rfl) dX6_init_96 ?_
  refine k_eq (mid_in G B A 0 176 _ _ _ (by omega)) ?_
  refine k_arr C (i := 176) (c9 := G.2 2) (N9 := 3) (f := fun _ => none) (g := ringF B 177 16 3 0) (by simp [mid]) (fun j hj => by simp [ringF, show ¬ 3 ≤ j by omega]) ?_
  refine k_eq (mid_up G B s1 _ 176 _ _) ?_
  refine k_iconst C (v := 0) dX6_init_99 (by decide) ?_
  refine k_istore_n C [(0, .ref (B + 0)), (1, .int 0)] [1, 0] dX6_init_100 rfl (by decide) rfl ?_
  have J : ∀ (z y : Nat) (x : Int32) (k n9 n : Nat), y + z = 3 → x = nI y → k = 176 + 16 * y → n9 = 1177 + 84 * y → n = 177 + 16 * y → WC G B p l e (RM 4 74 224 1429) s m args below meth c k n9 (MQ below (PostC G B 225 (fin G B s1 A 0)) args s 224 1429 (Ab B)) 2 101 [(0, .ref (B + 0)), (1, .int x)] [] n (mid G B s1 (mid G B s1 A 0 (.inr (6, [.ref (B + 1), .ref (B + 20), .ref (B + 136), .ref (B + 138), .ref (B + 139), .ref (B + 144), .ref (B + 160), .ref (B + 176), .int 0]))) 176 (.inl (G.2 2, 3, .inr (.inr (.inr (.inr (ringF B 177 16 3 y))))))) := by
    intro z
    induction z with
    | zero =>
      intro y x k n9 n hy hx hk hn9 hn
      have hy6 : y = 3 := by omega
      subst hy6
      refine k_iload_n C (q := 1) dX6_init_101 rfl rfl ?_
      refine k_aload_n C (q := 0) dX6_init_102 rfl rfl ?_
      refine k_get C (i := 0) (fs := [.ref (B + 1), .ref (B + 20), .ref (B + 136), .ref (B + 138), .ref (B + 139), .ref (B + 144), .ref (B + 160), .ref (B + 176), .int 0]) (by simp [mid]) (by omega) (ci := 6) rfl inT6 7 (by decide) wf_6_60 (fun _ h => h) rfl dX6_init_103 ?_
      refine k_alenC C (i := 176) (N9 := 3) (f := ringF B 177 16 3 3) (by simp [mid]) (by omega) dX6_init_106 ?_
      refine k_icmp_ge C (tgt := 129) dX6_init_107 (by decide) (fun _ => ?_) (fun c9 => absurd (by rw [hx]; decide) c9)
      subst hn
      refine k_cong C (A2 := fin G B s1 A 0) (fun j hj => by
        by_cases h1 : j = 176
        · subst h1; simp [mid, fin, shp12 G B s1 (show kd 176 = 12 by decide +kernel), show aln 176 = 3 by decide +kernel, ringF_end]
        · by_cases h2 : j = 0
          · subst h2; simp [mid, fin, shp6 G B s1 (show kd 0 = 6 by decide +kernel), s1z (show ¬ kd 0 = 5 by decide +kernel)]
          · by_cases h3 : j < 176
            · simp [mid, fin, h2, h3]
            · simp [mid, fin, h1, h2, h3]) ?_
      exact k_vret C hr hlk ⟨by omega, by omega⟩ dX6_init_129
    | succ z ih =>
      intro y x k n9 n hy hx hk hn9 hn
      have hy6 : y < 3 := by omega
      refine k_iload_n C (q := 1) dX6_init_101 rfl rfl ?_
      refine k_aload_n C (q := 0) dX6_init_102 rfl rfl ?_
      refine k_get C (i := 0) (fs := [.ref (B + 1), .ref (B + 20), .ref (B + 136), .ref (B + 138), .ref (B + 139), .ref (B + 144), .ref (B + 160), .ref (B + 176), .int 0]) (by simp [mid]) (by omega) (ci := 6) rfl inT6 7 (by decide) wf_6_60 (fun _ h => h) rfl dX6_init_103 ?_
      refine k_alenC C (i := 176) (N9 := 3) (f := ringF B 177 16 3 y) (by simp [mid]) (by omega) dX6_init_106 ?_
      refine k_icmp_ge C (tgt := 129) dX6_init_107 (by decide) (fun c9 => absurd c9 (by rw [hx]; exact nI_ge hy6 (by omega))) (fun _ => ?_)
      refine k_aload_n C (q := 0) dX6_init_110 rfl rfl ?_
      refine k_get C (i := 0) (fs := [.ref (B + 1), .ref (B + 20), .ref (B + 136), .ref (B + 138), .ref (B + 139), .ref (B + 144), .ref (B + 160), .ref (B + 176), .int 0]) (by simp [mid]) (by omega) (ci := 6) rfl inT6 7 (by decide) wf_6_60 (fun _ h => h) rfl dX6_init_111 ?_
      refine k_iload_n C (q := 1) dX6_init_114 rfl rfl ?_
      refine k_new C (by omega) (ci := 0) (fs := [.null, .null, .null]) rfl inT0 tyX0 tyX0_ok wc_6_46 wi_0 ti_0 (fun j hj => by rcases (show j = 0 ∨ j = 1 ∨ j = 2 by omega) with rfl | rfl | rfl <;> rfl) ⟨show k + 1 ≤ 224 by omega, show n9 + 3 ≤ 1429 by omega⟩ dX6_init_115 ?_
      refine k_dup C dX6_init_118 rfl ?_
      refine k_callIN C X9 (by omega) (by omega) (As := []) (c_X0_init l G B dy n _ (by rw [hn]; exact (by decide +kernel : ∀ j, j < 3 → kd (177 + 16 * j) = 0) y hy6) (by simp [va_up])) (host := RX6) (by decide +kernel : (RX6, 48, yX0_init, RX6) ∈ nestL) wn_0 ti_0 wd_0 rfl hc_0 ⟨Nat.le_of_ble_eq_true rfl, Nat.le_of_ble_eq_true rfl⟩ ⟨show k + 1 + 15 ≤ 224 by omega, show n9 + 3 + 81 ≤ 1429 by omega⟩ rfl rfl (Nat.le_of_ble_eq_true rfl) dX6_init_119 ?_
      refine k_eq (mid_fin G B s1 _ _ _ (by omega)) ?_
      have k5 : kd n = 0 := by rw [hn]; exact (by decide +kernel : ∀ j, j < 3 → kd (177 + 16 * j) = 0) y hy6
      refine k_astC C (i := 176) (v := n) (N9 := 3) (f := ringF B 177 16 3 y) (by simp [mid]) (by omega) (vs := _) ((by simp [mid, show ¬ n < 176 by omega, show ¬ n = 176 by omega, show ¬ n = 0 by omega] : (mid G B s1 (mid G B s1 A 0 (.inr (6, [.ref (B + 1), .ref (B + 20), .ref (B + 136), .ref (B + 138), .ref (B + 139), .ref (B + 144), .ref (B + 160), .ref (B + 176), .int 0]))) 176 (.inl (G.2 2, 3, .inr (.inr (.inr (.inr (ringF B 177 16 3 y))))))) n = shp G B s1 n).trans (shp0 G B s1 k5)) (by omega) (by rw [hx]; exact vp_in_nI hy6 (by omega)) dX6_init_122 ?_
      refine k_eq (mid_up G B s1 _ 176 _ _) ?_
      refine k_iinc C (q := 1) (v := x + 1) [(0, .ref (B + 0)), (1, .int (x + 1))] [1, 0] dX6_init_123 rfl rfl (by decide) rfl ?_
      refine k_goto C (tgt := 101) dX6_init_126 (by decide) ?_
      have e9 : va_up (ringF B 177 16 3 y) x.toNatClampNeg (some (B + n)) = ringF B 177 16 3 (y + 1) := by rw [hx, nI_clamp (by omega), hn]; exact ringF_step B 177 16 3 y
      rw [e9]
      exact ih (y + 1) (x + 1) _ _ _ (by omega) (by rw [hx]; exact nI_1 y) (by omega) (by omega) (by omega)
  exact J 3 0 0 _ _ _ rfl rfl rfl rfl rfl
