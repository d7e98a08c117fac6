/-! FROM THE ENTRY: what the Statement gives of the start; the constructors; the loop -/
section JS
variable {G : GG} {B dy : Nat} {p : Program} {l : Launch} {e : Env} {R : Room} {s : State} {m : MethodId} {args : Array Value} {below : List Frame} {meth : Method} {c : Code} {k n9 : Nat} {Q : State → Prop} {nL pc n : Nat} {lv : List (Nat × Value)} {st : List Value} {A : Nat → va_E}
theorem wc_ww {σ : St} (h : ∀ j, j < NC → A j = shp G B σ j) (kk : WW G B p l e R s m args below meth c k n9 Q nL pc lv st σ) : WC G B p l e R s m args below meth c k n9 Q nL pc lv st NC A := fun H locs ls hP hS hl => kk H locs ls (by rw [← wg_wl, ← wg_cong h]; exact hP) hS hl
theorem st_prim {ty : FieldType} (h : (Cond.arrayClass ty).before args s = true) (hty : ∀ C, ty ≠ .object C) : ∃ cA, ArrOfT s cA ty ∧ va_RA s cA ty := by
  obtain ⟨cA, kA, comp, h1, h2, h3⟩ := Cond.arrayClass_spec h
  refine ⟨cA, fun n z => ⟨fun k h => ?_, kA, h2, comp, h3⟩, ?_⟩
  · cases h
  · cases ty with
    | object C => exact absurd rfl (hty C)
    | _ => exact h1
theorem st_obj {C : String} (h : (Cond.arrayOver (.object C)).before args s = true) : ∃ cA, ArrOfT s cA (.object C) ∧ va_RA s cA (.object C) := by
  obtain ⟨comp, cA, kA, h1, h2, h3, h4, h5⟩ := Cond.arrayOver_spec h
  exact ⟨cA, fun n z => ⟨fun k h => (by cases h), kA, h3, comp, h4⟩, kA, comp, h3, h4, h1, h5⟩
theorem st_len {t : Term} {v : Value} (h : (Term.length t).eval args s none [] s = some v) : ∃ a cell, t.eval args s none [] s = some (.ref a) ∧ s.arrayAt? a = some cell ∧ v = .int (nI cell.slots.size) ∧ cell.slots.size < 2147483648 := by
  obtain ⟨a, cell, q1, q2, q3⟩ := Term.length_spec h
  refine ⟨a, cell, q1, q2, q3, Nat.lt_of_not_le fun h9 => ?_⟩
  simp only [Term.eval, Option.bind_eq_bind, q1, Option.bind_some, q2] at h
  rw [if_neg (Nat.not_lt.mpr h9)] at h
  cases h
theorem st_dy (h1 : (Cond.arrayOf (.static RX6 "DIGEST_YEARS" "[I") .int).before args s = true) (h2 : (Cond.eq (.length (.static RX6 "DIGEST_YEARS" "[I")) (.int 3)).before args s = true)
    (h3 : (Cond.eq (.elem (.static RX6 "DIGEST_YEARS" "[I") (.int 0)) (.int 0)).before args s = true) (h4 : (Cond.eq (.elem (.static RX6 "DIGEST_YEARS" "[I") (.int 1)) (.int 100)).before args s = true) (h5 : (Cond.eq (.elem (.static RX6 "DIGEST_YEARS" "[I") (.int 2)) (.int 777)).before args s = true) :
    ∃ dy, (Term.static RX6 "DIGEST_YEARS" "[I").eval args s none [] s = some (.ref dy) ∧ va_X dy 3 dyf s s.heap ∧ dy < s.heap.size := by
  obtain ⟨w, e1, e2⟩ := Cond.eq_one (show (Cond.eq (.length (.static RX6 "DIGEST_YEARS" "[I")) (.int 3)).holds args s none s [] = true from h2)
  cases e2
  obtain ⟨b, cell, ht, harr, -⟩ := Term.length_spec e1
  obtain ⟨hcell, hkn, -, -⟩ := State.arrayAt?_spec harr
  have hof := (Cond.arrayOf_spec h1 ht hcell).1
  have el : ∀ (k : Nat) (v : Int32), k < 3 → (Cond.eq (.elem (.static RX6 "DIGEST_YEARS" "[I") (.int (nI k))) (.int v)).before args s = true → cell.slots[k]? = some (.int v) := by
    intro k v hk h
    obtain ⟨w, f1, f2⟩ := Cond.eq_one (show (Cond.eq (.elem (.static RX6 "DIGEST_YEARS" "[I") (.int (nI k))) (.int v)).holds args s none s [] = true from h)
    cases f2
    obtain ⟨b2, k2, cell2, q1, q2, q3, q4, q5⟩ := Term.elem_spec f1
    rw [ht] at q1; cases q1
    rw [harr] at q3; cases q3
    have q2' : some (Value.int (nI k)) = some (.int k2) := q2
    cases q2'
    rw [nI_clamp (by omega)] at q5
    exact q5
  have a0 := el 0 0 (by omega) h3
  have a1 := el 1 100 (by omega) h4
  have a2 := el 2 777 (by omega) h5
  have hsz : cell.slots.size = 3 := by
    obtain ⟨b3, cell3, r1, r2, r3, r4⟩ := st_len e1
    rw [ht] at r1; cases r1
    rw [harr] at r2; cases r2
    exact (nI_eq r4 (by omega)).mp (Value.int.inj r3).symm
  refine ⟨b, ht, ⟨cell, hcell, hof, hkn, hsz, fun j hj => ?_⟩, (Array.getElem?_eq_some_iff.mp hcell).1⟩
  rcases (show j = 0 ∨ j = 1 ∨ j = 2 by omega) with rfl | rfl | rfl
  · exact a0
  · exact a1
  · exact a2
end JS
set_option maxRecDepth 100000 in
set_option maxHeartbeats 8000000 in
theorem start_of {p : Program} {e : Env} {s : State} {m : MethodId} {below : List Frame} {meth : Method} {c : Code} (l : Launch) (hflags : l.flags = flags0) {b L : Nat} {xs : Nat → Int32} (hpure : f_L_law_l10 xs L FU 0 s1 = some 1) (C0 : lw_At p s m meth c b L xs) : W p l e room_1 s m #[Value.ref b] below meth c s.heap [] 0 0 (lw_Z below #[Value.ref b] s) (entryFrame m ([Value.ref b] : List Value).toArray 9) := by
  obtain ⟨hx, hb, hr, hml, hown, hts, hX, hbl, hlocks, hgv⟩ := id C0
  have hs := flat_of_before _ hgv
  have tgl : ∀ w ∈ TG, w.before #[Value.ref b] s = true := fun w h => hts w (List.mem_filter.mp h).1
  obtain ⟨c0, iS0, hKn0⟩ := u_known (C := RX0) (T := TX0) (N := 3) (n := 3) hts (fun w h => (List.mem_filter.mp (inT0 w h)).1) (hts (.instantiable RX0 3) (by decide +kernel))
  obtain ⟨c1, iS1, hKn1⟩ := u_known (C := RX1) (T := TX1) (N := 3) (n := 3) hts (fun w h => (List.mem_filter.mp (inT1 w h)).1) (hts (.instantiable RX1 3) (by decide +kernel))
  obtain ⟨c2, iS2, hKn2⟩ := u_known (C := RX2) (T := TX2) (N := 6) (n := 6) hts (fun w h => (List.mem_filter.mp (inT2 w h)).1) (hts (.instantiable RX2 6) (by decide +kernel))
  obtain ⟨c3, iS3, hKn3⟩ := u_known (C := RX3) (T := TX3) (N := 5) (n := 5) hts (fun w h => (List.mem_filter.mp (inT3 w h)).1) (hts (.instantiable RX3 5) (by decide +kernel))
  obtain ⟨c4, iS4, hKn4⟩ := u_known (C := RX4) (T := TX4) (N := 1) (n := 1) hts (fun w h => (List.mem_filter.mp (inT4 w h)).1) (hts (.instantiable RX4 1) (by decide +kernel))
  obtain ⟨c5, iS5, hKn5⟩ := u_known (C := RX5) (T := TX5) (N := 12) (n := 12) hts (fun w h => (List.mem_filter.mp (inT5 w h)).1) (hts (.instantiable RX5 12) (by decide +kernel))
  obtain ⟨c6, iS6, hKn6⟩ := u_known (C := RX6) (T := TX6) (N := 9) (n := 9) hts (fun w h => (List.mem_filter.mp (inT6 w h)).1) (hts (.instantiable RX6 9) (by decide +kernel))
  obtain ⟨dC, dI, hKc⟩ : ∃ (dC : Nat → ClassId) (dI : Nat → Nat → Nat), ∀ (k : Nat) (q : vw_C), vwCl[k]? = some q → u_Kn s q.1 q.2.1 q.2.2 (dC k) (dI k) := by
    refine ⟨fun k => if k = 0 then c0 else if k = 1 then c1 else if k = 2 then c2 else if k = 3 then c3 else if k = 4 then c4 else if k = 5 then c5 else if k = 6 then c6 else c0, fun k => if k = 0 then iS0 else if k = 1 then iS1 else if k = 2 then iS2 else if k = 3 then iS3 else if k = 4 then iS4 else if k = 5 then iS5 else if k = 6 then iS6 else iS0, ?_⟩
    intro k q hq
    match k, hq with
    | 0, hq => cases hq; exact hKn0
    | 1, hq => cases hq; exact hKn1
    | 2, hq => cases hq; exact hKn2
    | 3, hq => cases hq; exact hKn3
    | 4, hq => cases hq; exact hKn4
    | 5, hq => cases hq; exact hKn5
    | 6, hq => cases hq; exact hKn6
    | k + 7, hq => simp [vwCl] at hq
  obtain ⟨aI, tI⟩ := st_prim (tgl _ wa_int) (fun C h => by cases h)
  have oS : (Cond.arrayOver (.object RX5)).before #[Value.ref b] s = true := hts _ (by decide +kernel)
  have oC : (Cond.arrayOver (.object RX0)).before #[Value.ref b] s = true := hts _ (by decide +kernel)
  obtain ⟨aS, tS⟩ := st_obj oS
  obtain ⟨aC, tC⟩ := st_obj oC
  obtain ⟨G, hG⟩ : ∃ G : GG, G = ((dC, dI), fun k => if k = 0 then aI else if k = 1 then aS else aC) := ⟨_, rfl⟩
  have hK : va_K G.1 vwCl (tysG G) s := by
    subst hG
    refine ⟨hKc, fun k q hq => ?_⟩
    match k, hq with
    | 0, hq => cases hq; exact tI
    | 1, hq => cases hq; exact tS
    | 2, hq => cases hq; exact tC
    | k + 3, hq => simp [tysG] at hq
  obtain ⟨dy, dv, dX, dlt⟩ := st_dy (args := #[Value.ref b]) (s := s) (hs _ (by decide +kernel)) (hs _ (by decide +kernel)) (hs _ (by decide +kernel)) (hs _ (by decide +kernel)) (hs _ (by decide +kernel))
  obtain ⟨B, hB⟩ : ∃ B, B = s.heap.size := ⟨_, rfl⟩
  have hAb : ∀ a : Nat, a < s.heap.size → ¬ Ab B a := fun a h => Nat.not_le.mpr (by rw [hB]; exact h)
  have hXt : Xt B dy s := by
    refine ⟨fun q hq => ?_, va_Zof (hts (.laysStatic RX6 "DIGEST_YEARS" "[I") (by decide +kernel)) (tgl _ ti_6) dv hAb, dX, by rw [hB]; exact dlt⟩
    exact va_Nw.of rfl (hts _ ((by decide +kernel : ∀ q ∈ nestL, Cond.methodLinkNest q.1 q.2.1 q.2.2.1 q.2.2.2 ∈ lw_tbl) q hq))
  have hXc : Xc s := ⟨va_AO.of (A := #[Value.ref b]) oS, va_AO.of (A := #[Value.ref b]) oC⟩
  have C : Cx G B dy RL code 9 p s m #[Value.ref b] c := ⟨hx, hb, hml, hown, tgl, hK, hXt, by rw [hB]; exact Nat.le_refl _⟩
  have SB : ScrB B b L xs s := ⟨hX, hbl, hAb b hbl⟩
  have hz : s.heap.size = B := hB.symm
  have hl := lv_entry ([.ref b]) (n := 9) (Nat.le_of_ble_eq_true rfl)
  rw [lg_entry_eq]
  generalize (lg_sl ([.ref b]) ++ List.replicate (9 - (lg_sl ([.ref b])).length) Slot.unset).toArray = ls at hl ⊢
  have hl : lv_has ls 9 [(0, .ref b)] := hl
  suffices K : WC G B p l e room_1 s m #[Value.ref b] below meth c 0 0 (lw_Z below #[Value.ref b] s) 9 0 [(0, .ref b)] [] 0 (fun _ => .inr (99, [])) from K s.heap [] ls (fun k q h => by simp [wg] at h) va_S.rf hl
  refine k_new C (by omega) (ci := 6) (fs := [.null, .null, .null, .null, .null, .null, .null, .null, .int 0]) rfl inT6 tyX6 tyX6_ok (TG_in (by decide +kernel) (by decide +kernel) : Cond.classLink RL 9 RX6 ∈ TG) (TG_in (by decide +kernel) (by decide +kernel) : Cond.instantiable RX6 9 ∈ TG) ti_6 (fun j hj => by rcases (show j = 0 ∨ j = 1 ∨ j = 2 ∨ j = 3 ∨ j = 4 ∨ j = 5 ∨ j = 6 ∨ j = 7 ∨ j = 8 by omega) with rfl | rfl | rfl | rfl | rfl | rfl | rfl | rfl | rfl <;> rfl) ⟨Nat.le_of_ble_eq_true rfl, Nat.le_of_ble_eq_true rfl⟩ dL_law_0 ?_
  refine k_dup C dL_law_3 rfl ?_
  refine k_callI C hXc (by omega) (by omega) (As := []) (c_X6_init l G B dy _ (by simp [va_up])) (TG_in (by decide +kernel) (by decide +kernel) : Cond.methodLink RL 95 yX6_init ∈ TG) (TG_in (by decide +kernel) (by decide +kernel) : Cond.instanceMethod yX6_init ∈ TG) ti_6 (TG_in (by decide +kernel) (by decide +kernel) : Cond.code yX6_init cX6_init 2 none ∈ TG) rfl (by decide +kernel) ⟨Nat.le_of_ble_eq_true rfl, Nat.le_of_ble_eq_true rfl⟩ ⟨Nat.le_of_ble_eq_true rfl, Nat.le_of_ble_eq_true rfl⟩ rfl rfl (Nat.le_of_ble_eq_true rfl) dL_law_4 ?_
  refine k_astore_n C [(0, .ref b), (1, .ref (B + 0))] [1, 0] dL_law_7 rfl (by decide) rfl ?_
  refine k_iconst C (v := 0) dL_law_8 (by decide) ?_
  refine k_istore_n C [(0, .ref b), (1, .ref (B + 0)), (2, .int 0)] [1, 2, 0] dL_law_9 rfl (by decide) rfl ?_
  refine wc_ww (σ := s1) (fun j hj => ?_) ?_
  · simp [fin]
  · exact law_loop C hB hr hlocks SB (Nat.le_of_ble_eq_true rfl) (Nat.le_of_ble_eq_true rfl) FU 0 s1 hpure
