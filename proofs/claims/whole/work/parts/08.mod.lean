set_option maxRecDepth 100000 in
set_option maxHeartbeats 4000000 in
theorem c_X7_thrown (l : Launch) (G : GG) (B dy : Nat) (t0 : St) {r : Int32} {t9 : St} (h : f_X7_thrown t0 = some (r, t9)) : Ct l G B dy yX7_thrown cX7_thrown 1 (some .int) 0 0 0 0 [.ref (B + 225)] t0 (PostI G B r t9) := by
  refine Ct_of (by decide +kernel) [(0, .ref (B + 225))] (Nat.le_of_ble_eq_true rfl) rfl ?_
  intro p e s m args below meth c C hr hlk
  refine j_aload_n C (q := 0) dX7_thrown_0 rfl rfl ?_
  refine fg_X7_38 C (i := 225) kA_225 dX7_thrown_1 ?_
  exact j_iret C hr hlk h ⟨Nat.le_of_ble_eq_true rfl, Nat.le_of_ble_eq_true rfl⟩ dX7_thrown_4
set_option maxRecDepth 100000 in
set_option maxHeartbeats 4000000 in
theorem c_X7_in (l : Launch) (G : GG) (B dy : Nat) (x0 : Int32) (x1 : Int32) (x2 : Int32) (t0 : St) {r : Int32} {t9 : St} (h : f_X7_in x0 x1 x2 t0 = some (r, t9)) : Ct l G B dy yX7_in cX7_in 3 (some .boolean) 0 0 0 0 [.int x0, .int x1, .int x2] t0 (PostI G B r t9) := by
  refine Ct_of (by decide +kernel) [(0, .int x0), (1, .int x1), (2, .int x2)] (Nat.le_of_ble_eq_true rfl) rfl ?_
  intro p e s m args below meth c C hr hlk
  refine j_iload_n C (q := 0) dX7_in_0 rfl rfl ?_
  refine j_iload_n C (q := 1) dX7_in_1 rfl rfl ?_
  refine j_icmp_lt C (tgt := 14) dX7_in_2 (by decide) (fun c21 => ?_) (fun c21 => ?_)
  · have h := ite_t h c21
    refine j_iconst C (v := 0) dX7_in_14 (by decide) ?_
    exact j_zret C hr hlk (Or.inl rfl) h ⟨Nat.le_of_ble_eq_true rfl, Nat.le_of_ble_eq_true rfl⟩ dX7_in_15
  · have h := ite_f h c21
    refine j_iload_n C (q := 0) dX7_in_5 rfl rfl ?_
    refine j_iload_n C (q := 2) dX7_in_6 rfl rfl ?_
    refine j_icmp_gt C (tgt := 14) dX7_in_7 (by decide) (fun c22 => ?_) (fun c22 => ?_)
    · have h := ite_t h c22
      refine j_iconst C (v := 0) dX7_in_14 (by decide) ?_
      exact j_zret C hr hlk (Or.inl rfl) h ⟨Nat.le_of_ble_eq_true rfl, Nat.le_of_ble_eq_true rfl⟩ dX7_in_15
    · have h := ite_f h c22
      refine j_iconst C (v := 1) dX7_in_10 (by decide) ?_
      refine j_goto C (tgt := 15) dX7_in_11 (by decide) ?_
      exact j_zret C hr hlk (Or.inr rfl) h ⟨Nat.le_of_ble_eq_true rfl, Nat.le_of_ble_eq_true rfl⟩ dX7_in_15
set_option maxRecDepth 100000 in
set_option maxHeartbeats 4000000 in
theorem c_X7_holds (l : Launch) (G : GG) (B dy : Nat) (x1 : Int32) (t0 : St) {r : Int32} {t9 : St} (h : f_X7_holds x1 t0 = some (r, t9)) : Ct l G B dy yX7_holds cX7_holds 2 (some .boolean) 0 0 0 0 [.ref (B + 225), .int x1] t0 (PostI G B r t9) := by
  refine Ct_of (by decide +kernel) [(0, .ref (B + 225)), (1, .int x1)] (Nat.le_of_ble_eq_true rfl) rfl ?_
  intro p e s m args below meth c C hr hlk
  refine j_aload_n C (q := 0) dX7_holds_0 rfl rfl ?_
  refine j_iload_n C (q := 1) dX7_holds_1 rfl rfl ?_
  refine fp_X7_38 C (i := 225) kA_225 dX7_holds_2 ?_
  refine j_tops (fun t21 et21 => ?_)
  have h := lt_at h et21
  refine j_iload_n C (q := 1) dX7_holds_5 rfl rfl ?_
  refine j_if_ne C (tgt := 13) dX7_holds_6 (by decide) (fun c22 => ?_) (fun c22 => ?_)
  · have h := ite_t h c22
    refine j_iconst C (v := 1) dX7_holds_9 (by decide) ?_
    refine j_goto C (tgt := 14) dX7_holds_10 (by decide) ?_
    exact j_zret C hr hlk (Or.inr rfl) h ⟨Nat.le_of_ble_eq_true rfl, Nat.le_of_ble_eq_true rfl⟩ dX7_holds_14
  · have h := ite_f h c22
    refine j_iconst C (v := 0) dX7_holds_13 (by decide) ?_
    exact j_zret C hr hlk (Or.inl rfl) h ⟨Nat.le_of_ble_eq_true rfl, Nat.le_of_ble_eq_true rfl⟩ dX7_holds_14
set_option maxRecDepth 100000 in
set_option maxHeartbeats 4000000 in
theorem c_X7_of (l : Launch) (G : GG) (B dy : Nat) (x0 : Int32) (x1 : Int32) (t0 : St) {r : Int32} {t9 : St} (h : f_X7_of x0 x1 t0 = some (r, t9)) : Ct l G B dy yX7_of cX7_of 2 (some .int) 0 0 0 0 [.int x0, .int x1] t0 (PostI G B r t9) := by
  refine Ct_of (by decide +kernel) [(0, .int x0), (1, .int x1)] (Nat.le_of_ble_eq_true rfl) rfl ?_
  intro p e s m args below meth c C hr hlk
  refine j_iconst C (v := 1) dX7_of_0 (by decide) ?_
  refine j_iconst C (v := 4) dX7_of_1 (by decide) ?_
  refine j_iload_n C (q := 0) dX7_of_2 rfl rfl ?_
  refine j_imul C dX7_of_3 ?_
  refine j_iadd C dX7_of_4 ?_
  refine j_iload_n C (q := 1) dX7_of_5 rfl rfl ?_
  refine j_iadd C dX7_of_6 ?_
  exact j_iret C hr hlk h ⟨Nat.le_of_ble_eq_true rfl, Nat.le_of_ble_eq_true rfl⟩ dX7_of_7
set_option maxRecDepth 100000 in
set_option maxHeartbeats 4000000 in
theorem c_X7_ofStick (l : Launch) (G : GG) (B dy : Nat) (x0 : Int32) (x1 : Int32) (t0 : St) {r : Int32} {t9 : St} (h : f_X7_ofStick x0 x1 t0 = some (r, t9)) : Ct l G B dy yX7_ofStick cX7_ofStick 2 (some .int) 0 0 0 0 [.int x0, .int x1] t0 (PostI G B r t9) := by
  refine Ct_of (by decide +kernel) [(0, .int x0), (1, .int x1)] (Nat.le_of_ble_eq_true rfl) rfl ?_
  intro p e s m args below meth c C hr hlk
  refine j_bipush C (v := 46) dX7_ofStick_0 (by decide) ?_
  refine j_bipush C (v := 13) dX7_ofStick_2 (by decide) ?_
  refine j_iload_n C (q := 0) dX7_ofStick_4 rfl rfl ?_
  refine j_imul C dX7_ofStick_5 ?_
  refine j_iadd C dX7_ofStick_6 ?_
  refine j_iload_n C (q := 1) dX7_ofStick_7 rfl rfl ?_
  refine j_iadd C dX7_ofStick_8 ?_
  exact j_iret C hr hlk h ⟨Nat.le_of_ble_eq_true rfl, Nat.le_of_ble_eq_true rfl⟩ dX7_ofStick_9
set_option maxRecDepth 100000 in
set_option maxHeartbeats 4000000 in
theorem c_X7_isFeast (l : Launch) (G : GG) (B dy : Nat) (x1 : Int32) (t0 : St) {r : Int32} {t9 : St} (h : f_X7_isFeast x1 t0 = some (r, t9)) : Ct l G B dy yX7_isFeast cX7_isFeast 2 (some .boolean) 1 22 0 0 [.ref (B + 225), .int x1] t0 (PostI G B r t9) := by
  refine Ct_of (by decide +kernel) [(0, .ref (B + 225)), (1, .int x1)] (Nat.le_of_ble_eq_true rfl) rfl ?_
  intro p e s m args below meth c C hr hlk
  refine j_iload_n C (q := 1) dX7_isFeast_0 rfl rfl ?_
  refine j_iconst C (v := 0) dX7_isFeast_1 (by decide) ?_
  refine j_aload_n C (q := 0) dX7_isFeast_2 rfl rfl ?_
  refine fg_X7_7 C (i := 225) kA_225 dX7_isFeast_3 ?_
  refine j_iconst C (v := 0) dX7_isFeast_6 (by decide) ?_
  obtain ⟨g21, h⟩ := gd_some h
  refine j_iald C (i := 226) kA_226 (inA g21 aA_226) dX7_isFeast_7 ?_
  refine j_iconst C (v := 1) dX7_isFeast_8 (by decide) ?_
  refine j_isub C dX7_isFeast_9 ?_
  obtain ⟨x22, t23, e24, h⟩ := bd_some h
  refine j_callS_i C (i := 0) (As := [.int x1, .int 0, .int ((t0.1 226 (tc 0)) - 1)]) (rest := []) (c_X7_in l G B dy x1 0 ((t0.1 226 (tc 0)) - 1) _ e24) tw_844 tw_845 ti_7 tw_846 ⟨rfl, hd_X7_in⟩ ⟨Nat.le_of_ble_eq_true rfl, Nat.le_of_ble_eq_true rfl⟩ ⟨Nat.le_of_ble_eq_true rfl, Nat.le_of_ble_eq_true rfl⟩ rfl rfl (Nat.le_of_ble_eq_true rfl) dX7_isFeast_10 ?_
  obtain ⟨g25, h⟩ := gd_some h
  exact j_zret C hr hlk (is01_or g25) h ⟨Nat.le_of_ble_eq_true rfl, Nat.le_of_ble_eq_true rfl⟩ dX7_isFeast_13
set_option maxRecDepth 100000 in
set_option maxHeartbeats 4000000 in
theorem c_X7_isYear (l : Launch) (G : GG) (B dy : Nat) (x0 : Int32) (t0 : St) {r : Int32} {t9 : St} (h : f_X7_isYear x0 t0 = some (r, t9)) : Ct l G B dy yX7_isYear cX7_isYear 1 (some .boolean) 1 22 0 0 [.int x0] t0 (PostI G B r t9) := by
  refine Ct_of (by decide +kernel) [(0, .int x0)] (Nat.le_of_ble_eq_true rfl) rfl ?_
  intro p e s m args below meth c C hr hlk
  refine j_iload_n C (q := 0) dX7_isYear_0 rfl rfl ?_
  refine j_iconst C (v := 0) dX7_isYear_1 (by decide) ?_
  refine j_sipush C (v := 999) dX7_isYear_2 (by decide) ?_
  obtain ⟨x21, t22, e23, h⟩ := bd_some h
  refine j_callS_i C (i := 0) (As := [.int x0, .int 0, .int 999]) (rest := []) (c_X7_in l G B dy x0 0 999 _ e23) tw_844 tw_845 ti_7 tw_846 ⟨rfl, hd_X7_in⟩ ⟨Nat.le_of_ble_eq_true rfl, Nat.le_of_ble_eq_true rfl⟩ ⟨Nat.le_of_ble_eq_true rfl, Nat.le_of_ble_eq_true rfl⟩ rfl rfl (Nat.le_of_ble_eq_true rfl) dX7_isYear_5 ?_
  obtain ⟨g24, h⟩ := gd_some h
  exact j_zret C hr hlk (is01_or g24) h ⟨Nat.le_of_ble_eq_true rfl, Nat.le_of_ble_eq_true rfl⟩ dX7_isYear_8
set_option maxRecDepth 100000 in
set_option maxHeartbeats 4000000 in
theorem c_X7_isCarver (l : Launch) (G : GG) (B dy : Nat) (x0 : Int32) (t0 : St) {r : Int32} {t9 : St} (h : f_X7_isCarver x0 t0 = some (r, t9)) : Ct l G B dy yX7_isCarver cX7_isCarver 1 (some .boolean) 1 22 0 0 [.int x0] t0 (PostI G B r t9) := by
  refine Ct_of (by decide +kernel) [(0, .int x0)] (Nat.le_of_ble_eq_true rfl) rfl ?_
  intro p e s m args below meth c C hr hlk
  refine j_iload_n C (q := 0) dX7_isCarver_0 rfl rfl ?_
  refine j_iconst C (v := 0) dX7_isCarver_1 (by decide) ?_
  refine j_iconst C (v := 2) dX7_isCarver_2 (by decide) ?_
  obtain ⟨x21, t22, e23, h⟩ := bd_some h
  refine j_callS_i C (i := 0) (As := [.int x0, .int 0, .int 2]) (rest := []) (c_X7_in l G B dy x0 0 2 _ e23) tw_844 tw_845 ti_7 tw_846 ⟨rfl, hd_X7_in⟩ ⟨Nat.le_of_ble_eq_true rfl, Nat.le_of_ble_eq_true rfl⟩ ⟨Nat.le_of_ble_eq_true rfl, Nat.le_of_ble_eq_true rfl⟩ rfl rfl (Nat.le_of_ble_eq_true rfl) dX7_isCarver_3 ?_
  obtain ⟨g24, h⟩ := gd_some h
  exact j_zret C hr hlk (is01_or g24) h ⟨Nat.le_of_ble_eq_true rfl, Nat.le_of_ble_eq_true rfl⟩ dX7_isCarver_6
set_option maxRecDepth 100000 in
set_option maxHeartbeats 4000000 in
theorem c_X7_save (l : Launch) (G : GG) (B dy : Nat) (t0 : St) {t9 : St} (h : f_X7_save t0 = some t9) : Ct l G B dy yX7_save cX7_save 2 none 0 0 0 0 [.ref (B + 225)] t0 (PostV G B t9) := by
  refine Ct_of (by decide +kernel) [(0, .ref (B + 225))] (Nat.le_of_ble_eq_true rfl) rfl ?_
  intro p e s m args below meth c C hr hlk
  have J51 : ∀ (n51 : Nat) (y1 : Int32) (t0 : St), f_X7_save_l51 n51 y1 t0 = some t9 → WW G B p l e (RM 0 0 0 0) s m args below meth c 0 0 (MQ below (PostV G B t9) args s 0 0 (Ab B)) 2 51 [(0, .ref (B + 225)), (1, .int y1)] [] t0 := by
    intro n51
    induction n51 with
    | zero => intro y1 t0 h; exact (no_some h).elim
    | succ n51 ih51 =>
      try clear h
      intro y1 t0 h
      have h : f_X7_save_b51 (f_X7_save_l51 n51) y1 t0 = some t9 := h
      refine j_iload_n C (q := 1) dX7_save_51 rfl rfl ?_
      refine j_bipush C (v := 111) dX7_save_52 (by decide) ?_
      refine j_icmp_ge C (tgt := 83) dX7_save_54 (by decide) (fun c21 => ?_) (fun c21 => ?_)
      · have h := ite_t h c21
        refine j_aload_n C (q := 0) dX7_save_83 rfl rfl ?_
        refine j_dup C dX7_save_84 rfl ?_
        refine fg_X7_46 C (i := 225) kA_225 dX7_save_85 ?_
        refine j_iconst C (v := 1) dX7_save_88 (by decide) ?_
        refine j_iadd C dX7_save_89 ?_
        refine fp_X7_46 C (i := 225) kA_225 dX7_save_90 ?_
        refine j_tops (fun t22 et22 => ?_)
        have h := lt_at h et22
        exact j_vret C hr hlk h ⟨Nat.le_of_ble_eq_true rfl, Nat.le_of_ble_eq_true rfl⟩ dX7_save_93
      · have h := ite_f h c21
        refine j_aload_n C (q := 0) dX7_save_57 rfl rfl ?_
        refine fg_X7_13 C (i := 225) kA_225 dX7_save_58 ?_
        refine j_bipush C (v := 111) dX7_save_61 (by decide) ?_
        refine j_aload_n C (q := 0) dX7_save_63 rfl rfl ?_
        refine fg_X7_46 C (i := 225) kA_225 dX7_save_64 ?_
        refine j_imul C dX7_save_67 ?_
        refine j_iload_n C (q := 1) dX7_save_68 rfl rfl ?_
        refine j_iadd C dX7_save_69 ?_
        refine j_aload_n C (q := 0) dX7_save_70 rfl rfl ?_
        refine fg_X7_7 C (i := 225) kA_225 dX7_save_71 ?_
        refine j_iload_n C (q := 1) dX7_save_74 rfl rfl ?_
        obtain ⟨g23, h⟩ := gd_some h
        refine j_iald C (i := 226) kA_226 (inA g23 aA_226) dX7_save_75 ?_
        obtain ⟨g24, h⟩ := gd_some h
        refine j_iast C (i := 227) kA_227 (inA g24 aA_227) dX7_save_76 ?_
        refine j_tops (fun t25 et25 => ?_)
        have h := lt_at h et25
        obtain ⟨x26, ex26⟩ : ∃ y : Int32, y = (y1 + 1) := ⟨_, rfl⟩
        have h := lt_at h ex26
        refine j_iinc C (q := 1) [(0, .ref (B + 225)), (1, .int x26)] [1, 0] dX7_save_77 rfl (by rw [ex26]; rfl) (by decide) rfl ?_
        refine j_goto C (tgt := 51) dX7_save_80 (by decide) ?_
        exact ih51 x26 _ h
  have J11 : ∀ (n11 : Nat) (y1 : Int32) (t0 : St), f_X7_save_l11 n11 y1 t0 = some t9 → WW G B p l e (RM 0 0 0 0) s m args below meth c 0 0 (MQ below (PostV G B t9) args s 0 0 (Ab B)) 2 11 [(0, .ref (B + 225)), (1, .int y1)] [] t0 := by
    intro n11
    induction n11 with
    | zero => intro y1 t0 h; exact (no_some h).elim
    | succ n11 ih11 =>
      try clear h
      intro y1 t0 h
      have h : f_X7_save_b11 (f_X7_save_l11 n11) y1 t0 = some t9 := h
      refine j_iload_n C (q := 1) dX7_save_11 rfl rfl ?_
      refine j_sipush C (v := 555) dX7_save_12 (by decide) ?_
      refine j_icmp_ge C (tgt := 39) dX7_save_15 (by decide) (fun c27 => ?_) (fun c27 => ?_)
      · have h := ite_t h c27
        refine j_aload_n C (q := 0) dX7_save_39 rfl rfl ?_
        refine j_dup C dX7_save_40 rfl ?_
        refine fg_X7_46 C (i := 225) kA_225 dX7_save_41 ?_
        refine j_iconst C (v := 1) dX7_save_44 (by decide) ?_
        refine j_isub C dX7_save_45 ?_
        refine fp_X7_46 C (i := 225) kA_225 dX7_save_46 ?_
        refine j_tops (fun t28 et28 => ?_)
        have h := lt_at h et28
        refine j_iconst C (v := 0) dX7_save_49 (by decide) ?_
        refine j_istore_n C [(0, .ref (B + 225)), (1, .int 0)] [1, 0] dX7_save_50 rfl (by decide) rfl ?_
        exact J51 FU 0 _ h
      · have h := ite_f h c27
        refine j_aload_n C (q := 0) dX7_save_18 rfl rfl ?_
        refine fg_X7_13 C (i := 225) kA_225 dX7_save_19 ?_
        refine j_iload_n C (q := 1) dX7_save_22 rfl rfl ?_
        refine j_aload_n C (q := 0) dX7_save_23 rfl rfl ?_
        refine fg_X7_13 C (i := 225) kA_225 dX7_save_24 ?_
        refine j_bipush C (v := 111) dX7_save_27 (by decide) ?_
        refine j_iload_n C (q := 1) dX7_save_29 rfl rfl ?_
        refine j_iadd C dX7_save_30 ?_
        obtain ⟨g29, h⟩ := gd_some h
        refine j_iald C (i := 227) kA_227 (inA g29 aA_227) dX7_save_31 ?_
        obtain ⟨g30, h⟩ := gd_some h
        refine j_iast C (i := 227) kA_227 (inA g30 aA_227) dX7_save_32 ?_
        refine j_tops (fun t31 et31 => ?_)
        have h := lt_at h et31
        obtain ⟨x32, ex32⟩ : ∃ y : Int32, y = (y1 + 1) := ⟨_, rfl⟩
        have h := lt_at h ex32
        refine j_iinc C (q := 1) [(0, .ref (B + 225)), (1, .int x32)] [1, 0] dX7_save_33 rfl (by rw [ex32]; rfl) (by decide) rfl ?_
        refine j_goto C (tgt := 11) dX7_save_36 (by decide) ?_
        exact ih11 x32 _ h
  refine j_aload_n C (q := 0) dX7_save_0 rfl rfl ?_
  refine fg_X7_46 C (i := 225) kA_225 dX7_save_1 ?_
  refine j_bipush C (v := 6) dX7_save_4 (by decide) ?_
  refine j_icmp_ne C (tgt := 49) dX7_save_6 (by decide) (fun c33 => ?_) (fun c33 => ?_)
  · have h := ite_t h c33
    refine j_iconst C (v := 0) dX7_save_9 (by decide) ?_
    refine j_istore_n C [(0, .ref (B + 225)), (1, .int 0)] [1, 0] dX7_save_10 rfl (by decide) rfl ?_
    exact J11 FU 0 _ h
  · have h := ite_f h c33
    refine j_iconst C (v := 0) dX7_save_49 (by decide) ?_
    refine j_istore_n C [(0, .ref (B + 225)), (1, .int 0)] [1, 0] dX7_save_50 rfl (by decide) rfl ?_
    exact J51 FU 0 _ h
set_option maxRecDepth 100000 in
set_option maxHeartbeats 4000000 in
theorem c_X7_daysOf (l : Launch) (G : GG) (B dy : Nat) (x0 : Int32) (t0 : St) {r : Int32} {t9 : St} (h : f_X7_daysOf x0 t0 = some (r, t9)) : Ct l G B dy yX7_daysOf cX7_daysOf 1 (some .int) 0 0 0 0 [.int x0] t0 (PostI G B r t9) := by
  refine Ct_of (by decide +kernel) [(0, .int x0)] (Nat.le_of_ble_eq_true rfl) rfl ?_
  intro p e s m args below meth c C hr hlk
  refine j_iload_n C (q := 0) dX7_daysOf_0 rfl rfl ?_
  refine j_iconst C (v := 4) dX7_daysOf_1 (by decide) ?_
  refine j_irem C dX7_daysOf_2 (by decide) ?_
  refine j_if_ne C (tgt := 12) dX7_daysOf_3 (by decide) (fun c21 => ?_) (fun c21 => ?_)
  · have h := ite_t h c21
    refine j_sipush C (v := 366) dX7_daysOf_6 (by decide) ?_
    refine j_goto C (tgt := 15) dX7_daysOf_9 (by decide) ?_
    exact j_iret C hr hlk h ⟨Nat.le_of_ble_eq_true rfl, Nat.le_of_ble_eq_true rfl⟩ dX7_daysOf_15
  · have h := ite_f h c21
    refine j_sipush C (v := 365) dX7_daysOf_12 (by decide) ?_
    exact j_iret C hr hlk h ⟨Nat.le_of_ble_eq_true rfl, Nat.le_of_ble_eq_true rfl⟩ dX7_daysOf_15
set_option maxRecDepth 100000 in
set_option maxHeartbeats 4000000 in
theorem c_X7_weekday (l : Launch) (G : GG) (B dy : Nat) (x0 : Int32) (x1 : Int32) (t0 : St) {r : Int32} {t9 : St} (h : f_X7_weekday x0 x1 t0 = some (r, t9)) : Ct l G B dy yX7_weekday cX7_weekday 2 (some .int) 0 0 0 0 [.int x0, .int x1] t0 (PostI G B r t9) := by
  refine Ct_of (by decide +kernel) [(0, .int x0), (1, .int x1)] (Nat.le_of_ble_eq_true rfl) rfl ?_
  intro p e s m args below meth c C hr hlk
  refine j_sipush C (v := 365) dX7_weekday_0 (by decide) ?_
  refine j_iload_n C (q := 0) dX7_weekday_3 rfl rfl ?_
  refine j_imul C dX7_weekday_4 ?_
  refine j_iload_n C (q := 0) dX7_weekday_5 rfl rfl ?_
  refine j_iconst C (v := 3) dX7_weekday_6 (by decide) ?_
  refine j_iadd C dX7_weekday_7 ?_
  refine j_iconst C (v := 4) dX7_weekday_8 (by decide) ?_
  refine j_idiv C dX7_weekday_9 (by decide) ?_
  refine j_iadd C dX7_weekday_10 ?_
  refine j_iload_n C (q := 1) dX7_weekday_11 rfl rfl ?_
  refine j_iadd C dX7_weekday_12 ?_
  refine j_bipush C (v := 7) dX7_weekday_13 (by decide) ?_
  refine j_irem C dX7_weekday_15 (by decide) ?_
  exact j_iret C hr hlk h ⟨Nat.le_of_ble_eq_true rfl, Nat.le_of_ble_eq_true rfl⟩ dX7_weekday_16
set_option maxRecDepth 100000 in
set_option maxHeartbeats 4000000 in
theorem c_X7_age (l : Launch) (G : GG) (B dy : Nat) (x1 : Int32) (x2 : Int32) (x3 : Int32) (t0 : St) {r : Int32} {t9 : St} (h : f_X7_age x1 x2 x3 t0 = some (r, t9)) : Ct l G B dy yX7_age cX7_age 4 (some .int) 0 0 0 0 [.ref (B + 225), .int x1, .int x2, .int x3] t0 (PostI G B r t9) := by
  refine Ct_of (by decide +kernel) [(0, .ref (B + 225)), (1, .int x1), (2, .int x2), (3, .int x3)] (Nat.le_of_ble_eq_true rfl) rfl ?_
  intro p e s m args below meth c C hr hlk
  refine j_bipush C (v := 11) dX7_age_0 (by decide) ?_
  refine j_iload_n C (q := 1) dX7_age_2 rfl rfl ?_
  refine j_bipush C (v := 19) dX7_age_3 (by decide) ?_
  refine j_irem C dX7_age_5 (by decide) ?_
  refine j_imul C dX7_age_6 ?_
  refine j_iload_n C (q := 1) dX7_age_7 rfl rfl ?_
  refine j_aload_n C (q := 0) dX7_age_8 rfl rfl ?_
  refine fg_X7_7 C (i := 225) kA_225 dX7_age_9 ?_
  refine j_bipush C (v := 44) dX7_age_12 (by decide) ?_
  obtain ⟨g21, h⟩ := gd_some h
  refine j_iald C (i := 226) kA_226 (inA g21 aA_226) dX7_age_14 ?_
  obtain ⟨g22, h⟩ := gd_some h
  refine j_idiv C dX7_age_15 (nz_ne g22) ?_
  refine j_iadd C dX7_age_16 ?_
  refine j_iload_n C (q := 3) dX7_age_17 rfl rfl ?_
  refine j_iadd C dX7_age_18 ?_
  refine j_iconst C (v := 5) dX7_age_19 (by decide) ?_
  refine j_iadd C dX7_age_20 ?_
  refine j_iload_n C (q := 2) dX7_age_21 rfl rfl ?_
  refine j_iadd C dX7_age_22 ?_
  refine j_iload_n C (q := 2) dX7_age_23 rfl rfl ?_
  refine j_bipush C (v := 59) dX7_age_24 (by decide) ?_
  refine j_idiv C dX7_age_26 (by decide) ?_
  refine j_iadd C dX7_age_27 ?_
  refine j_bipush C (v := 30) dX7_age_28 (by decide) ?_
  refine j_irem C dX7_age_30 (by decide) ?_
  exact j_iret C hr hlk h ⟨Nat.le_of_ble_eq_true rfl, Nat.le_of_ble_eq_true rfl⟩ dX7_age_31
set_option maxRecDepth 100000 in
set_option maxHeartbeats 4000000 in
theorem c_X7_firstWeekday (l : Launch) (G : GG) (B dy : Nat) (x0 : Int32) (x1 : Int32) (x2 : Int32) (t0 : St) {r : Int32} {t9 : St} (h : f_X7_firstWeekday x0 x1 x2 t0 = some (r, t9)) : Ct l G B dy yX7_firstWeekday cX7_firstWeekday 4 (some .int) 1 21 0 0 [.int x0, .int x1, .int x2] t0 (PostI G B r t9) := by
  refine Ct_of (by decide +kernel) [(0, .int x0), (1, .int x1), (2, .int x2)] (Nat.le_of_ble_eq_true rfl) rfl ?_
  intro p e s m args below meth c C hr hlk
  have J2 : ∀ (n2 : Nat) (y3 : Int32) (t0 : St), f_X7_firstWeekday_l2 n2 x0 x2 y3 t0 = some (r, t9) → WW G B p l e (RM 1 21 0 0) s m args below meth c 0 0 (MQ below (PostI G B r t9) args s 0 0 (Ab B)) 4 2 [(0, .int x0), (2, .int x2), (3, .int y3)] [] t0 := by
    intro n2
    induction n2 with
    | zero => intro y3 t0 h; exact (no_some h).elim
    | succ n2 ih2 =>
      try clear h
      intro y3 t0 h
      have h : f_X7_firstWeekday_b2 (f_X7_firstWeekday_l2 n2) x0 x2 y3 t0 = some (r, t9) := h
      refine j_iload_n C (q := 2) dX7_firstWeekday_2 rfl rfl ?_
      refine j_iload_n C (q := 0) dX7_firstWeekday_3 rfl rfl ?_
      obtain ⟨x21, t22, e23, h⟩ := bd_some h
      refine j_callS_i C (i := 0) (As := [.int x0]) (rest := [.int y3]) (c_X7_daysOf l G B dy x0 _ e23) tw_940 tw_941 ti_7 tw_942 ⟨rfl, hd_X7_daysOf⟩ ⟨Nat.le_of_ble_eq_true rfl, Nat.le_of_ble_eq_true rfl⟩ ⟨Nat.le_of_ble_eq_true rfl, Nat.le_of_ble_eq_true rfl⟩ rfl rfl (Nat.le_of_ble_eq_true rfl) dX7_firstWeekday_4 ?_
      refine j_icmp_ge C (tgt := 27) dX7_firstWeekday_7 (by decide) (fun c24 => ?_) (fun c24 => ?_)
      · have h := ite_t h c24
        refine j_iconst C (v := (-1)) dX7_firstWeekday_27 (by decide) ?_
        exact j_iret C hr hlk h ⟨Nat.le_of_ble_eq_true rfl, Nat.le_of_ble_eq_true rfl⟩ dX7_firstWeekday_28
      · have h := ite_f h c24
        refine j_iload_n C (q := 0) dX7_firstWeekday_10 rfl rfl ?_
        refine j_iload_n C (q := 2) dX7_firstWeekday_11 rfl rfl ?_
        obtain ⟨x25, t26, e27, h⟩ := bd_some h
        refine j_callS_i C (i := 0) (As := [.int x0, .int y3]) (rest := []) (c_X7_weekday l G B dy x0 y3 _ e27) tw_950 tw_951 ti_7 tw_952 ⟨rfl, hd_X7_weekday⟩ ⟨Nat.le_of_ble_eq_true rfl, Nat.le_of_ble_eq_true rfl⟩ ⟨Nat.le_of_ble_eq_true rfl, Nat.le_of_ble_eq_true rfl⟩ rfl rfl (Nat.le_of_ble_eq_true rfl) dX7_firstWeekday_12 ?_
        refine j_iload_n C (q := 1) dX7_firstWeekday_15 rfl rfl ?_
        refine j_icmp_ne C (tgt := 21) dX7_firstWeekday_16 (by decide) (fun c28 => ?_) (fun c28 => ?_)
        · have h := ite_t h c28
          refine j_iload_n C (q := 2) dX7_firstWeekday_19 rfl rfl ?_
          exact j_iret C hr hlk h ⟨Nat.le_of_ble_eq_true rfl, Nat.le_of_ble_eq_true rfl⟩ dX7_firstWeekday_20
        · have h := ite_f h c28
          obtain ⟨x29, ex29⟩ : ∃ y : Int32, y = (y3 + 1) := ⟨_, rfl⟩
          have h := lt_at h ex29
          refine j_iinc C (q := 2) [(0, .int x0), (2, .int x2), (3, .int x29)] [1, 2, 0] dX7_firstWeekday_21 rfl (by rw [ex29]; rfl) (by decide) rfl ?_
          refine j_goto C (tgt := 2) dX7_firstWeekday_24 (by decide) ?_
          exact ih2 x29 _ h
  refine j_iload_n C (q := 1) dX7_firstWeekday_0 rfl rfl ?_
  refine j_istore_n C [(0, .int x0), (1, .int x1), (2, .int x2), (3, .int x1)] [1, 2, 3, 0] dX7_firstWeekday_1 rfl (by decide) rfl ?_
  refine j_sub [0, 2, 3] rfl ?_
  exact J2 FU x1 _ h
set_option maxRecDepth 100000 in
set_option maxHeartbeats 4000000 in
theorem c_X7_firstFull (l : Launch) (G : GG) (B dy : Nat) (x1 : Int32) (x2 : Int32) (x3 : Int32) (t0 : St) {r : Int32} {t9 : St} (h : f_X7_firstFull x1 x2 x3 t0 = some (r, t9)) : Ct l G B dy yX7_firstFull cX7_firstFull 5 (some .int) 1 23 0 0 [.ref (B + 225), .int x1, .int x2, .int x3] t0 (PostI G B r t9) := by
  refine Ct_of (by decide +kernel) [(0, .ref (B + 225)), (1, .int x1), (2, .int x2), (3, .int x3)] (Nat.le_of_ble_eq_true rfl) rfl ?_
  intro p e s m args below meth c C hr hlk
  have J3 : ∀ (n3 : Nat) (y4 : Int32) (t0 : St), f_X7_firstFull_l3 n3 x1 x3 y4 t0 = some (r, t9) → WW G B p l e (RM 1 23 0 0) s m args below meth c 0 0 (MQ below (PostI G B r t9) args s 0 0 (Ab B)) 5 3 [(0, .ref (B + 225)), (1, .int x1), (3, .int x3), (4, .int y4)] [] t0 := by
    intro n3
    induction n3 with
    | zero => intro y4 t0 h; exact (no_some h).elim
    | succ n3 ih3 =>
      try clear h
      intro y4 t0 h
      have h : f_X7_firstFull_b3 (f_X7_firstFull_l3 n3) x1 x3 y4 t0 = some (r, t9) := h
      refine j_iload C (q := 3) dX7_firstFull_3 rfl ?_
      refine j_iload_n C (q := 1) dX7_firstFull_5 rfl rfl ?_
      obtain ⟨x21, t22, e23, h⟩ := bd_some h
      refine j_callS_i C (i := 0) (As := [.int x1]) (rest := [.int y4]) (c_X7_daysOf l G B dy x1 _ e23) tw_940 tw_941 ti_7 tw_942 ⟨rfl, hd_X7_daysOf⟩ ⟨Nat.le_of_ble_eq_true rfl, Nat.le_of_ble_eq_true rfl⟩ ⟨Nat.le_of_ble_eq_true rfl, Nat.le_of_ble_eq_true rfl⟩ rfl rfl (Nat.le_of_ble_eq_true rfl) dX7_firstFull_6 ?_
      refine j_icmp_ge C (tgt := 34) dX7_firstFull_9 (by decide) (fun c24 => ?_) (fun c24 => ?_)
      · have h := ite_t h c24
        refine j_iconst C (v := (-1)) dX7_firstFull_34 (by decide) ?_
        exact j_iret C hr hlk h ⟨Nat.le_of_ble_eq_true rfl, Nat.le_of_ble_eq_true rfl⟩ dX7_firstFull_35
      · have h := ite_f h c24
        refine j_aload_n C (q := 0) dX7_firstFull_12 rfl rfl ?_
        refine j_iload_n C (q := 1) dX7_firstFull_13 rfl rfl ?_
        refine j_iload C (q := 3) dX7_firstFull_14 rfl ?_
        refine j_iload_n C (q := 2) dX7_firstFull_16 rfl rfl ?_
        obtain ⟨x25, t26, e27, h⟩ := bd_some h
        refine j_callV_i C (i := 225) (As := [.int x1, .int y4, .int x3]) (rest := []) (c_X7_age l G B dy x1 y4 x3 _ e27) (shp7 G B _ kA_225) (kd_lt kA_225 (by decide)) rfl tw_943 tw_945 tp_50 ti_7 tw_946 hd_X7_age ⟨Nat.le_of_ble_eq_true rfl, Nat.le_of_ble_eq_true rfl⟩ ⟨Nat.le_of_ble_eq_true rfl, Nat.le_of_ble_eq_true rfl⟩ rfl rfl (Nat.le_of_ble_eq_true rfl) dX7_firstFull_17 ?_
        refine j_bipush C (v := 14) dX7_firstFull_20 (by decide) ?_
        refine j_icmp_ne C (tgt := 28) dX7_firstFull_22 (by decide) (fun c28 => ?_) (fun c28 => ?_)
        · have h := ite_t h c28
          refine j_iload C (q := 3) dX7_firstFull_25 rfl ?_
          exact j_iret C hr hlk h ⟨Nat.le_of_ble_eq_true rfl, Nat.le_of_ble_eq_true rfl⟩ dX7_firstFull_27
        · have h := ite_f h c28
          obtain ⟨x29, ex29⟩ : ∃ y : Int32, y = (y4 + 1) := ⟨_, rfl⟩
          have h := lt_at h ex29
          refine j_iinc C (q := 3) [(0, .ref (B + 225)), (1, .int x1), (3, .int x3), (4, .int x29)] [1, 2, 3, 0] dX7_firstFull_28 rfl (by rw [ex29]; rfl) (by decide) rfl ?_
          refine j_goto C (tgt := 3) dX7_firstFull_31 (by decide) ?_
          exact ih3 x29 _ h
  refine j_iload_n C (q := 2) dX7_firstFull_0 rfl rfl ?_
  refine j_istore C [(0, .ref (B + 225)), (1, .int x1), (2, .int x2), (3, .int x3), (4, .int x2)] [1, 2, 3, 4, 0] dX7_firstFull_1 (by decide) rfl ?_
  refine j_sub [0, 1, 3, 4] rfl ?_
  exact J3 FU x2 _ h
set_option maxRecDepth 100000 in
set_option maxHeartbeats 4000000 in
theorem c_X7_findProper (l : Launch) (G : GG) (B dy : Nat) (x1 : Int32) (x2 : Int32) (t0 : St) {t9 : St} (h : f_X7_findProper x1 x2 t0 = some t9) : Ct l G B dy yX7_findProper cX7_findProper 10 none 2 47 0 0 [.ref (B + 225), .int x1, .int x2] t0 (PostV G B t9) := by
  refine Ct_of (by decide +kernel) [(0, .ref (B + 225)), (1, .int x1), (2, .int x2)] (Nat.le_of_ble_eq_true rfl) rfl ?_
  intro p e s m args below meth c C hr hlk
  have J2 : ∀ (n2 : Nat) (y3 : Int32) (t0 : St), f_X7_findProper_l2 n2 x1 x2 y3 t0 = some t9 → WW G B p l e (RM 2 47 0 0) s m args below meth c 0 0 (MQ below (PostV G B t9) args s 0 0 (Ab B)) 10 2 [(0, .ref (B + 225)), (1, .int x1), (2, .int x2), (3, .int y3)] [] t0 := by
    intro n2
    induction n2 with
    | zero => intro y3 t0 h; exact (no_some h).elim
    | succ n2 ih2 =>
      try clear h
      have J158 : ∀ (y3 : Int32) (w0 : Int32) (t0 : St), f_X7_findProper_b158 (f_X7_findProper_l2 n2) x1 x2 y3 w0 t0 = some t9 → WW G B p l e (RM 2 47 0 0) s m args below meth c 0 0 (MQ below (PostV G B t9) args s 0 0 (Ab B)) 10 158 [(0, .ref (B + 225)), (1, .int x1), (2, .int x2), (3, .int y3)] [.int w0] t0 := by
        intro y3 w0 t0 h
        refine j_istore C [(0, .ref (B + 225)), (1, .int x1), (2, .int x2), (3, .int y3), (9, .int w0)] [1, 2, 3, 4, 0] dX7_findProper_158 (by decide) rfl ?_
        refine j_aload_n C (q := 0) dX7_findProper_160 rfl rfl ?_
        refine fg_X7_19 C (i := 225) kA_225 dX7_findProper_161 ?_
        refine j_iload_n C (q := 3) dX7_findProper_164 rfl rfl ?_
        refine j_iload C (q := 4) dX7_findProper_165 rfl ?_
        refine j_iconst C (v := 0) dX7_findProper_167 (by decide) ?_
        refine j_iload_n C (q := 1) dX7_findProper_168 rfl rfl ?_
        obtain ⟨x21, t22, e23, h⟩ := bd_some h
        refine j_callS_i C (i := 0) (As := [.int x1]) (rest := [.int 0, .int w0, .int y3, .ref (B + 229)]) (c_X7_daysOf l G B dy x1 _ e23) tw_940 tw_941 ti_7 tw_942 ⟨rfl, hd_X7_daysOf⟩ ⟨Nat.le_of_ble_eq_true rfl, Nat.le_of_ble_eq_true rfl⟩ ⟨Nat.le_of_ble_eq_true rfl, Nat.le_of_ble_eq_true rfl⟩ rfl rfl (Nat.le_of_ble_eq_true rfl) dX7_findProper_169 ?_
        refine j_iconst C (v := 1) dX7_findProper_172 (by decide) ?_
        refine j_isub C dX7_findProper_173 ?_
        obtain ⟨x24, t25, e26, h⟩ := bd_some h
        refine j_callS_i C (i := 0) (As := [.int w0, .int 0, .int (x21 - 1)]) (rest := [.int y3, .ref (B + 229)]) (c_X7_in l G B dy w0 0 (x21 - 1) _ e26) tw_844 tw_845 ti_7 tw_846 ⟨rfl, hd_X7_in⟩ ⟨Nat.le_of_ble_eq_true rfl, Nat.le_of_ble_eq_true rfl⟩ ⟨Nat.le_of_ble_eq_true rfl, Nat.le_of_ble_eq_true rfl⟩ rfl rfl (Nat.le_of_ble_eq_true rfl) dX7_findProper_174 ?_
        refine j_if_eq C (tgt := 185) dX7_findProper_177 (by decide) (fun c27 => ?_) (fun c27 => ?_)
        · have h := ite_t h c27
          refine j_iconst C (v := (-1)) dX7_findProper_185 (by decide) ?_
          obtain ⟨g28, h⟩ := gd_some h
          refine j_iast C (i := 229) kA_229 (inA g28 aA_229) dX7_findProper_186 ?_
          refine j_tops (fun t29 et29 => ?_)
          have h := lt_at h et29
          obtain ⟨x30, ex30⟩ : ∃ y : Int32, y = (y3 + 1) := ⟨_, rfl⟩
          have h := lt_at h ex30
          refine j_iinc C (q := 3) [(0, .ref (B + 225)), (1, .int x1), (2, .int x2), (3, .int x30), (9, .int w0)] [1, 2, 3, 0, 4] dX7_findProper_187 rfl (by rw [ex30]; rfl) (by decide) rfl ?_
          refine j_goto C (tgt := 2) dX7_findProper_190 (by decide) ?_
          refine j_sub [0, 1, 2, 3] rfl ?_
          exact ih2 x30 _ h
        · have h := ite_f h c27
          refine j_iload C (q := 4) dX7_findProper_180 rfl ?_
          refine j_goto C (tgt := 186) dX7_findProper_182 (by decide) ?_
          obtain ⟨g31, h⟩ := gd_some h
          refine j_iast C (i := 229) kA_229 (inA g31 aA_229) dX7_findProper_186 ?_
          refine j_tops (fun t32 et32 => ?_)
          have h := lt_at h et32
          obtain ⟨x33, ex33⟩ : ∃ y : Int32, y = (y3 + 1) := ⟨_, rfl⟩
          have h := lt_at h ex33
          refine j_iinc C (q := 3) [(0, .ref (B + 225)), (1, .int x1), (2, .int x2), (3, .int x33), (9, .int w0)] [1, 2, 3, 0, 4] dX7_findProper_187 rfl (by rw [ex33]; rfl) (by decide) rfl ?_
          refine j_goto C (tgt := 2) dX7_findProper_190 (by decide) ?_
          refine j_sub [0, 1, 2, 3] rfl ?_
          exact ih2 x33 _ h
      have J85 : ∀ (y3 : Int32) (y4 : Int32) (y5 : Int32) (y6 : Int32) (y7 : Int32) (w0 : Int32) (t0 : St), f_X7_findProper_b85 (f_X7_findProper_l2 n2) x1 x2 y3 y4 y5 y6 y7 w0 t0 = some t9 → WW G B p l e (RM 2 47 0 0) s m args below meth c 0 0 (MQ below (PostV G B t9) args s 0 0 (Ab B)) 10 85 [(0, .ref (B + 225)), (1, .int x1), (2, .int x2), (3, .int y3), (4, .int y4), (5, .int y5), (6, .int y6), (7, .int y7)] [.int w0] t0 := by
        intro y3 y4 y5 y6 y7 w0 t0 h
        refine j_istore C [(0, .ref (B + 225)), (1, .int x1), (2, .int x2), (3, .int y3), (4, .int y4), (5, .int y5), (6, .int y6), (7, .int y7), (8, .int w0)] [1, 2, 3, 4, 5, 6, 7, 8, 0] dX7_findProper_85 (by decide) rfl ?_
        refine j_iload C (q := 6) dX7_findProper_87 rfl ?_
        refine j_if_ne C (tgt := 97) dX7_findProper_89 (by decide) (fun c34 => ?_) (fun c34 => ?_)
        · have h := ite_t h c34
          refine j_iload C (q := 4) dX7_findProper_92 rfl ?_
          refine j_goto C (tgt := 158) dX7_findProper_94 (by decide) ?_
          refine j_sub [0, 1, 2, 3] rfl ?_
          exact J158 y3 y4 _ h
        · have h := ite_f h c34
          refine j_iload C (q := 6) dX7_findProper_97 rfl ?_
          refine j_iconst C (v := 1) dX7_findProper_99 (by decide) ?_
          refine j_icmp_ne C (tgt := 114) dX7_findProper_100 (by decide) (fun c35 => ?_) (fun c35 => ?_)
          · have h := ite_t h c35
            refine j_iload_n C (q := 1) dX7_findProper_103 rfl rfl ?_
            refine j_iload C (q := 4) dX7_findProper_104 rfl ?_
            refine j_iload C (q := 5) dX7_findProper_106 rfl ?_
            obtain ⟨x42, t43, e44, h⟩ := bd_some h
            refine j_callS_i C (i := 0) (As := [.int x1, .int y4, .int y5]) (rest := []) (c_X7_firstWeekday l G B dy x1 y4 y5 _ e44) tw_947 tw_948 ti_7 tw_949 ⟨rfl, hd_X7_firstWeekday⟩ ⟨Nat.le_of_ble_eq_true rfl, Nat.le_of_ble_eq_true rfl⟩ ⟨Nat.le_of_ble_eq_true rfl, Nat.le_of_ble_eq_true rfl⟩ rfl rfl (Nat.le_of_ble_eq_true rfl) dX7_findProper_108 ?_
            refine j_goto C (tgt := 158) dX7_findProper_111 (by decide) ?_
            refine j_sub [0, 1, 2, 3] rfl ?_
            exact J158 y3 x42 _ h
          · have h := ite_f h c35
            refine j_iload C (q := 6) dX7_findProper_114 rfl ?_
            refine j_iconst C (v := 2) dX7_findProper_116 (by decide) ?_
            refine j_icmp_ne C (tgt := 143) dX7_findProper_117 (by decide) (fun c36 => ?_) (fun c36 => ?_)
            · have h := ite_t h c36
              refine j_iload C (q := 7) dX7_findProper_120 rfl ?_
              refine j_iconst C (v := (-1)) dX7_findProper_122 (by decide) ?_
              refine j_icmp_ne C (tgt := 130) dX7_findProper_123 (by decide) (fun c38 => ?_) (fun c38 => ?_)
              · have h := ite_t h c38
                refine j_iconst C (v := (-1)) dX7_findProper_126 (by decide) ?_
                refine j_goto C (tgt := 158) dX7_findProper_127 (by decide) ?_
                refine j_sub [0, 1, 2, 3] rfl ?_
                exact J158 y3 (-1) _ h
              · have h := ite_f h c38
                refine j_iload_n C (q := 1) dX7_findProper_130 rfl rfl ?_
                refine j_iload C (q := 7) dX7_findProper_131 rfl ?_
                refine j_iconst C (v := 1) dX7_findProper_133 (by decide) ?_
                refine j_iadd C dX7_findProper_134 ?_
                refine j_iload C (q := 5) dX7_findProper_135 rfl ?_
                obtain ⟨x39, t40, e41, h⟩ := bd_some h
                refine j_callS_i C (i := 0) (As := [.int x1, .int (y7 + 1), .int y5]) (rest := []) (c_X7_firstWeekday l G B dy x1 (y7 + 1) y5 _ e41) tw_947 tw_948 ti_7 tw_949 ⟨rfl, hd_X7_firstWeekday⟩ ⟨Nat.le_of_ble_eq_true rfl, Nat.le_of_ble_eq_true rfl⟩ ⟨Nat.le_of_ble_eq_true rfl, Nat.le_of_ble_eq_true rfl⟩ rfl rfl (Nat.le_of_ble_eq_true rfl) dX7_findProper_137 ?_
                refine j_goto C (tgt := 158) dX7_findProper_140 (by decide) ?_
                refine j_sub [0, 1, 2, 3] rfl ?_
                exact J158 y3 x39 _ h
            · have h := ite_f h c36
              refine j_iload C (q := 8) dX7_findProper_143 rfl ?_
              refine j_iconst C (v := (-1)) dX7_findProper_145 (by decide) ?_
              refine j_icmp_ne C (tgt := 153) dX7_findProper_146 (by decide) (fun c37 => ?_) (fun c37 => ?_)
              · have h := ite_t h c37
                refine j_iconst C (v := (-1)) dX7_findProper_149 (by decide) ?_
                refine j_goto C (tgt := 158) dX7_findProper_150 (by decide) ?_
                refine j_sub [0, 1, 2, 3] rfl ?_
                exact J158 y3 (-1) _ h
              · have h := ite_f h c37
                refine j_iload C (q := 8) dX7_findProper_153 rfl ?_
                refine j_iload C (q := 4) dX7_findProper_155 rfl ?_
                refine j_iadd C dX7_findProper_157 ?_
                refine j_sub [0, 1, 2, 3] rfl ?_
                exact J158 y3 (w0 + y4) _ h
      have J66 : ∀ (y3 : Int32) (y4 : Int32) (y5 : Int32) (y6 : Int32) (w0 : Int32) (t0 : St), f_X7_findProper_b66 (f_X7_findProper_l2 n2) x1 x2 y3 y4 y5 y6 w0 t0 = some t9 → WW G B p l e (RM 2 47 0 0) s m args below meth c 0 0 (MQ below (PostV G B t9) args s 0 0 (Ab B)) 10 66 [(0, .ref (B + 225)), (1, .int x1), (2, .int x2), (3, .int y3), (4, .int y4), (5, .int y5), (6, .int y6)] [.int w0] t0 := by
        intro y3 y4 y5 y6 w0 t0 h
        refine j_istore C [(0, .ref (B + 225)), (1, .int x1), (2, .int x2), (3, .int y3), (4, .int y4), (5, .int y5), (6, .int y6), (7, .int w0)] [1, 2, 3, 4, 5, 6, 7, 0] dX7_findProper_66 (by decide) rfl ?_
        refine j_iload C (q := 6) dX7_findProper_68 rfl ?_
        refine j_iconst C (v := 3) dX7_findProper_70 (by decide) ?_
        refine j_icmp_ne C (tgt := 84) dX7_findProper_71 (by decide) (fun c45 => ?_) (fun c45 => ?_)
        · have h := ite_t h c45
          refine j_aload_n C (q := 0) dX7_findProper_74 rfl rfl ?_
          refine fg_X7_19 C (i := 225) kA_225 dX7_findProper_75 ?_
          refine j_iload C (q := 5) dX7_findProper_78 rfl ?_
          obtain ⟨g46, h⟩ := gd_some h
          refine j_iald C (i := 229) kA_229 (inA g46 aA_229) dX7_findProper_80 ?_
          refine j_goto C (tgt := 85) dX7_findProper_81 (by decide) ?_
          exact J85 y3 y4 y5 y6 w0 (t0.1 229 (tc y5)) _ h
        · have h := ite_f h c45
          refine j_iconst C (v := (-1)) dX7_findProper_84 (by decide) ?_
          exact J85 y3 y4 y5 y6 w0 (-1) _ h
      intro y3 t0 h
      have h : f_X7_findProper_b2 (f_X7_findProper_l2 n2) x1 x2 y3 t0 = some t9 := h
      refine j_iload_n C (q := 3) dX7_findProper_2 rfl rfl ?_
      refine j_aload_n C (q := 0) dX7_findProper_3 rfl rfl ?_
      refine fg_X7_7 C (i := 225) kA_225 dX7_findProper_4 ?_
      refine j_iconst C (v := 0) dX7_findProper_7 (by decide) ?_
      obtain ⟨g47, h⟩ := gd_some h
      refine j_iald C (i := 226) kA_226 (inA g47 aA_226) dX7_findProper_8 ?_
      refine j_icmp_ge C (tgt := 193) dX7_findProper_9 (by decide) (fun c48 => ?_) (fun c48 => ?_)
      · have h := ite_t h c48
        exact j_vret C hr hlk h ⟨Nat.le_of_ble_eq_true rfl, Nat.le_of_ble_eq_true rfl⟩ dX7_findProper_193
      · have h := ite_f h c48
        refine j_aload_n C (q := 0) dX7_findProper_12 rfl rfl ?_
        refine fg_X7_7 C (i := 225) kA_225 dX7_findProper_13 ?_
        refine j_iload_n C (q := 3) dX7_findProper_16 rfl rfl ?_
        refine j_iconst C (v := 2) dX7_findProper_17 (by decide) ?_
        obtain ⟨x49, t50, e51, h⟩ := bd_some h
        refine j_callS_i C (i := 0) (As := [.int y3, .int 2]) (rest := [.ref (B + 226)]) (c_X7_of l G B dy y3 2 _ e51) tw_883 tw_884 ti_7 tw_885 ⟨rfl, hd_X7_of⟩ ⟨Nat.le_of_ble_eq_true rfl, Nat.le_of_ble_eq_true rfl⟩ ⟨Nat.le_of_ble_eq_true rfl, Nat.le_of_ble_eq_true rfl⟩ rfl rfl (Nat.le_of_ble_eq_true rfl) dX7_findProper_18 ?_
        obtain ⟨g52, h⟩ := gd_some h
        refine j_iald C (i := 226) kA_226 (inA g52 aA_226) dX7_findProper_21 ?_
        refine j_topi (fun x53 ex53 => ?_)
        have h := lt_at h ex53
        refine j_istore C [(0, .ref (B + 225)), (1, .int x1), (2, .int x2), (3, .int y3), (4, .int x53)] [1, 2, 3, 4, 0] dX7_findProper_22 (by decide) rfl ?_
        refine j_aload_n C (q := 0) dX7_findProper_24 rfl rfl ?_
        refine fg_X7_7 C (i := 225) kA_225 dX7_findProper_25 ?_
        refine j_iload_n C (q := 3) dX7_findProper_28 rfl rfl ?_
        refine j_iconst C (v := 3) dX7_findProper_29 (by decide) ?_
        obtain ⟨x54, t55, e56, h⟩ := bd_some h
        refine j_callS_i C (i := 0) (As := [.int y3, .int 3]) (rest := [.ref (B + 226)]) (c_X7_of l G B dy y3 3 _ e56) tw_883 tw_884 ti_7 tw_885 ⟨rfl, hd_X7_of⟩ ⟨Nat.le_of_ble_eq_true rfl, Nat.le_of_ble_eq_true rfl⟩ ⟨Nat.le_of_ble_eq_true rfl, Nat.le_of_ble_eq_true rfl⟩ rfl rfl (Nat.le_of_ble_eq_true rfl) dX7_findProper_30 ?_
        obtain ⟨g57, h⟩ := gd_some h
        refine j_iald C (i := 226) kA_226 (inA g57 aA_226) dX7_findProper_33 ?_
        refine j_topi (fun x58 ex58 => ?_)
        have h := lt_at h ex58
        refine j_istore C [(0, .ref (B + 225)), (1, .int x1), (2, .int x2), (3, .int y3), (4, .int x53), (5, .int x58)] [1, 2, 3, 4, 5, 0] dX7_findProper_34 (by decide) rfl ?_
        refine j_aload_n C (q := 0) dX7_findProper_36 rfl rfl ?_
        refine fg_X7_7 C (i := 225) kA_225 dX7_findProper_37 ?_
        refine j_iload_n C (q := 3) dX7_findProper_40 rfl rfl ?_
        refine j_iconst C (v := 0) dX7_findProper_41 (by decide) ?_
        obtain ⟨x59, t60, e61, h⟩ := bd_some h
        refine j_callS_i C (i := 0) (As := [.int y3, .int 0]) (rest := [.ref (B + 226)]) (c_X7_of l G B dy y3 0 _ e61) tw_883 tw_884 ti_7 tw_885 ⟨rfl, hd_X7_of⟩ ⟨Nat.le_of_ble_eq_true rfl, Nat.le_of_ble_eq_true rfl⟩ ⟨Nat.le_of_ble_eq_true rfl, Nat.le_of_ble_eq_true rfl⟩ rfl rfl (Nat.le_of_ble_eq_true rfl) dX7_findProper_42 ?_
        obtain ⟨g62, h⟩ := gd_some h
        refine j_iald C (i := 226) kA_226 (inA g62 aA_226) dX7_findProper_45 ?_
        refine j_topi (fun x63 ex63 => ?_)
        have h := lt_at h ex63
        refine j_istore C [(0, .ref (B + 225)), (1, .int x1), (2, .int x2), (3, .int y3), (4, .int x53), (5, .int x58), (6, .int x63)] [1, 2, 3, 4, 5, 6, 0] dX7_findProper_46 (by decide) rfl ?_
        refine j_iload C (q := 6) dX7_findProper_48 rfl ?_
        refine j_iconst C (v := 2) dX7_findProper_50 (by decide) ?_
        refine j_icmp_ne C (tgt := 65) dX7_findProper_51 (by decide) (fun c64 => ?_) (fun c64 => ?_)
        · have h := ite_t h c64
          refine j_aload_n C (q := 0) dX7_findProper_54 rfl rfl ?_
          refine j_iload_n C (q := 1) dX7_findProper_55 rfl rfl ?_
          refine j_iload C (q := 4) dX7_findProper_56 rfl ?_
          refine j_iload_n C (q := 2) dX7_findProper_58 rfl rfl ?_
          obtain ⟨x65, t66, e67, h⟩ := bd_some h
          refine j_callV_i C (i := 225) (As := [.int x1, .int x53, .int x2]) (rest := []) (c_X7_firstFull l G B dy x1 x53 x2 _ e67) (shp7 G B _ kA_225) (kd_lt kA_225 (by decide)) rfl tw_936 tw_938 tp_49 ti_7 tw_939 hd_X7_firstFull ⟨Nat.le_of_ble_eq_true rfl, Nat.le_of_ble_eq_true rfl⟩ ⟨Nat.le_of_ble_eq_true rfl, Nat.le_of_ble_eq_true rfl⟩ rfl rfl (Nat.le_of_ble_eq_true rfl) dX7_findProper_59 ?_
          refine j_goto C (tgt := 66) dX7_findProper_62 (by decide) ?_
          exact J66 y3 x53 x58 x63 x65 _ h
        · have h := ite_f h c64
          refine j_iconst C (v := (-1)) dX7_findProper_65 (by decide) ?_
          exact J66 y3 x53 x58 x63 (-1) _ h
  refine j_iconst C (v := 0) dX7_findProper_0 (by decide) ?_
  refine j_istore_n C [(0, .ref (B + 225)), (1, .int x1), (2, .int x2), (3, .int 0)] [1, 2, 3, 0] dX7_findProper_1 rfl (by decide) rfl ?_
  exact J2 FU 0 _ h
set_option maxRecDepth 100000 in
set_option maxHeartbeats 4000000 in
theorem c_X7_lay (l : Launch) (G : GG) (B dy : Nat) (x1 : Int32) (x2 : Int32) (t0 : St) {t9 : St} (h : f_X7_lay x1 x2 t0 = some t9) : Ct l G B dy yX7_lay cX7_lay 6 none 3 76 0 0 [.ref (B + 225), .int x1, .int x2] t0 (PostV G B t9) := by
  refine Ct_of (by decide +kernel) [(0, .ref (B + 225)), (1, .int x1), (2, .int x2)] (Nat.le_of_ble_eq_true rfl) rfl ?_
  intro p e s m args below meth c C hr hlk
  have J30 : ∀ (n30 : Nat) (y3 : Int32) (t0 : St), f_X7_lay_l30 n30 x1 y3 t0 = some t9 → WW G B p l e (RM 3 76 0 0) s m args below meth c 0 0 (MQ below (PostV G B t9) args s 0 0 (Ab B)) 6 30 [(0, .ref (B + 225)), (1, .int x1), (3, .int y3)] [] t0 := by
    intro n30
    induction n30 with
    | zero => intro y3 t0 h; exact (no_some h).elim
    | succ n30 ih30 =>
      try clear h
      have J150 : ∀ (y3 : Int32) (y4 : Int32) (y5 : Int32) (w0 : Int32) (w1 : Int32) (t0 : St), f_X7_lay_b150 (f_X7_lay_l30 n30) x1 y3 y4 y5 w0 w1 t0 = some t9 → WW G B p l e (RM 3 76 0 0) s m args below meth c 0 0 (MQ below (PostV G B t9) args s 0 0 (Ab B)) 6 150 [(0, .ref (B + 225)), (1, .int x1), (3, .int y3), (4, .int y4), (5, .int y5)] [.int w0, .int w1, .ref (B + 230)] t0 := by
        intro y3 y4 y5 w0 w1 t0 h
        obtain ⟨g21, h⟩ := gd_some h
        refine j_iast C (i := 230) kA_230 (inA g21 aA_230) dX7_lay_150 ?_
        refine j_tops (fun t22 et22 => ?_)
        have h := lt_at h et22
        refine j_aload_n C (q := 0) dX7_lay_151 rfl rfl ?_
        refine fg_X7_22 C (i := 225) kA_225 dX7_lay_152 ?_
        refine j_iload C (q := 3) dX7_lay_155 rfl ?_
        obtain ⟨g23, h⟩ := gd_some h
        refine j_iald C (i := 230) kA_230 (inA g23 aA_230) dX7_lay_157 ?_
        refine j_iconst C (v := (-1)) dX7_lay_158 (by decide) ?_
        refine j_icmp_eq C (tgt := 170) dX7_lay_159 (by decide) (fun c24 => ?_) (fun c24 => ?_)
        · have h := ite_t h c24
          obtain ⟨x25, ex25⟩ : ∃ y : Int32, y = (y3 + 1) := ⟨_, rfl⟩
          have h := lt_at h ex25
          refine j_iinc C (q := 2) [(0, .ref (B + 225)), (1, .int x1), (3, .int x25), (4, .int y4), (5, .int y5)] [1, 2, 0, 3, 4] dX7_lay_170 rfl (by rw [ex25]; rfl) (by decide) rfl ?_
          refine j_goto C (tgt := 30) dX7_lay_173 (by decide) ?_
          refine j_sub [0, 1, 2] rfl ?_
          exact ih30 x25 _ h
        · have h := ite_f h c24
          refine j_aload_n C (q := 0) dX7_lay_162 rfl rfl ?_
          refine fg_X7_25 C (i := 225) kA_225 dX7_lay_163 ?_
          refine j_iload C (q := 4) dX7_lay_166 rfl ?_
          refine j_iconst C (v := 1) dX7_lay_168 (by decide) ?_
          obtain ⟨g26, h⟩ := gd_some h
          refine j_zast C (i := 231) kA_231 (inA g26 aA_231) (Or.inr rfl) dX7_lay_169 ?_
          refine j_tops (fun t27 et27 => ?_)
          have h := lt_at h et27
          obtain ⟨x28, ex28⟩ : ∃ y : Int32, y = (y3 + 1) := ⟨_, rfl⟩
          have h := lt_at h ex28
          refine j_iinc C (q := 2) [(0, .ref (B + 225)), (1, .int x1), (3, .int x28), (4, .int y4), (5, .int y5)] [1, 2, 0, 3, 4] dX7_lay_170 rfl (by rw [ex28]; rfl) (by decide) rfl ?_
          refine j_goto C (tgt := 30) dX7_lay_173 (by decide) ?_
          refine j_sub [0, 1, 2] rfl ?_
          exact ih30 x28 _ h
      have J129 : ∀ (y3 : Int32) (y4 : Int32) (y5 : Int32) (t0 : St), f_X7_lay_b129 (f_X7_lay_l30 n30) x1 y3 y4 y5 t0 = some t9 → WW G B p l e (RM 3 76 0 0) s m args below meth c 0 0 (MQ below (PostV G B t9) args s 0 0 (Ab B)) 6 129 [(0, .ref (B + 225)), (1, .int x1), (3, .int y3), (4, .int y4), (5, .int y5)] [] t0 := by
        intro y3 y4 y5 t0 h
        refine j_aload_n C (q := 0) dX7_lay_129 rfl rfl ?_
        refine fg_X7_22 C (i := 225) kA_225 dX7_lay_130 ?_
        refine j_iload C (q := 3) dX7_lay_133 rfl ?_
        refine j_iload C (q := 4) dX7_lay_135 rfl ?_
        refine j_iload_n C (q := 1) dX7_lay_137 rfl rfl ?_
        obtain ⟨x29, t30, e31, h⟩ := bd_some h
        refine j_callS_i C (i := 0) (As := [.int x1]) (rest := [.int y5, .int y4, .ref (B + 230)]) (c_X7_daysOf l G B dy x1 _ e31) tw_940 tw_941 ti_7 tw_942 ⟨rfl, hd_X7_daysOf⟩ ⟨Nat.le_of_ble_eq_true rfl, Nat.le_of_ble_eq_true rfl⟩ ⟨Nat.le_of_ble_eq_true rfl, Nat.le_of_ble_eq_true rfl⟩ rfl rfl (Nat.le_of_ble_eq_true rfl) dX7_lay_138 ?_
        refine j_icmp_ge C (tgt := 149) dX7_lay_141 (by decide) (fun c32 => ?_) (fun c32 => ?_)
        · have h := ite_t h c32
          refine j_iconst C (v := (-1)) dX7_lay_149 (by decide) ?_
          exact J150 y3 y4 y5 (-1) y4 _ h
        · have h := ite_f h c32
          refine j_iload C (q := 4) dX7_lay_144 rfl ?_
          refine j_goto C (tgt := 150) dX7_lay_146 (by decide) ?_
          exact J150 y3 y4 y5 y5 y4 _ h
      have J104 : ∀ (n104 : Nat) (y3 : Int32) (y4 : Int32) (y5 : Int32) (t0 : St), f_X7_lay_l104 (f_X7_lay_l30 n30) n104 x1 y3 y4 y5 t0 = some t9 → WW G B p l e (RM 3 76 0 0) s m args below meth c 0 0 (MQ below (PostV G B t9) args s 0 0 (Ab B)) 6 104 [(0, .ref (B + 225)), (1, .int x1), (3, .int y3), (4, .int y4), (5, .int y5)] [] t0 := by
        intro n104
        induction n104 with
        | zero => intro y3 y4 y5 t0 h; exact (no_some h).elim
        | succ n104 ih104 =>
          try clear h
          intro y3 y4 y5 t0 h
          have h : f_X7_lay_b104 (f_X7_lay_l30 n30) (f_X7_lay_l104 (f_X7_lay_l30 n30) n104) x1 y3 y4 y5 t0 = some t9 := h
          refine j_iload C (q := 4) dX7_lay_104 rfl ?_
          refine j_iload_n C (q := 1) dX7_lay_106 rfl rfl ?_
          obtain ⟨x33, t34, e35, h⟩ := bd_some h
          refine j_callS_i C (i := 0) (As := [.int x1]) (rest := [.int y5]) (c_X7_daysOf l G B dy x1 _ e35) tw_940 tw_941 ti_7 tw_942 ⟨rfl, hd_X7_daysOf⟩ ⟨Nat.le_of_ble_eq_true rfl, Nat.le_of_ble_eq_true rfl⟩ ⟨Nat.le_of_ble_eq_true rfl, Nat.le_of_ble_eq_true rfl⟩ rfl rfl (Nat.le_of_ble_eq_true rfl) dX7_lay_107 ?_
          refine j_icmp_ge C (tgt := 129) dX7_lay_110 (by decide) (fun c36 => ?_) (fun c36 => ?_)
          · have h := ite_t h c36
            exact J129 y3 y4 y5 _ h
          · have h := ite_f h c36
            refine j_aload_n C (q := 0) dX7_lay_113 rfl rfl ?_
            refine fg_X7_25 C (i := 225) kA_225 dX7_lay_114 ?_
            refine j_iload C (q := 4) dX7_lay_117 rfl ?_
            obtain ⟨g37, h⟩ := gd_some h
            refine j_zald C (i := 231) kA_231 (inA g37 aA_231) dX7_lay_119 ?_
            refine j_if_eq C (tgt := 129) dX7_lay_120 (by decide) (fun c38 => ?_) (fun c38 => ?_)
            · have h := ite_t h c38
              exact J129 y3 y4 y5 _ h
            · have h := ite_f h c38
              obtain ⟨x39, ex39⟩ : ∃ y : Int32, y = (y5 + 1) := ⟨_, rfl⟩
              have h := lt_at h ex39
              refine j_iinc C (q := 4) [(0, .ref (B + 225)), (1, .int x1), (3, .int y3), (4, .int y4), (5, .int x39)] [1, 2, 3, 4, 0] dX7_lay_123 rfl (by rw [ex39]; rfl) (by decide) rfl ?_
              refine j_goto C (tgt := 104) dX7_lay_126 (by decide) ?_
              exact ih104 y3 y4 x39 _ h
      intro y3 t0 h
      have h : f_X7_lay_b30 (f_X7_lay_l30 n30) x1 y3 t0 = some t9 := h
      refine j_iload_n C (q := 2) dX7_lay_30 rfl rfl ?_
      refine j_bipush C (v := 10) dX7_lay_31 (by decide) ?_
      refine j_aload_n C (q := 0) dX7_lay_33 rfl rfl ?_
      refine fg_X7_7 C (i := 225) kA_225 dX7_lay_34 ?_
      refine j_iconst C (v := 0) dX7_lay_37 (by decide) ?_
      obtain ⟨g40, h⟩ := gd_some h
      refine j_iald C (i := 226) kA_226 (inA g40 aA_226) dX7_lay_38 ?_
      refine j_imul C dX7_lay_39 ?_
      refine j_icmp_ge C (tgt := 176) dX7_lay_40 (by decide) (fun c41 => ?_) (fun c41 => ?_)
      · have h := ite_t h c41
        exact j_vret C hr hlk h ⟨Nat.le_of_ble_eq_true rfl, Nat.le_of_ble_eq_true rfl⟩ dX7_lay_176
      · have h := ite_f h c41
        refine j_iload_n C (q := 2) dX7_lay_43 rfl rfl ?_
        refine j_aload_n C (q := 0) dX7_lay_44 rfl rfl ?_
        refine fg_X7_7 C (i := 225) kA_225 dX7_lay_45 ?_
        refine j_iconst C (v := 0) dX7_lay_48 (by decide) ?_
        obtain ⟨g42, h⟩ := gd_some h
        refine j_iald C (i := 226) kA_226 (inA g42 aA_226) dX7_lay_49 ?_
        obtain ⟨g43, h⟩ := gd_some h
        refine j_irem C dX7_lay_50 (nz_ne g43) ?_
        refine j_topi (fun x44 ex44 => ?_)
        have h := lt_at h ex44
        refine j_istore C [(0, .ref (B + 225)), (1, .int x1), (3, .int y3), (4, .int x44)] [1, 2, 3, 0] dX7_lay_51 (by decide) rfl ?_
        refine j_aload_n C (q := 0) dX7_lay_53 rfl rfl ?_
        refine fg_X7_7 C (i := 225) kA_225 dX7_lay_54 ?_
        refine j_iload C (q := 3) dX7_lay_57 rfl ?_
        refine j_iconst C (v := 1) dX7_lay_59 (by decide) ?_
        obtain ⟨x45, t46, e47, h⟩ := bd_some h
        refine j_callS_i C (i := 0) (As := [.int x44, .int 1]) (rest := [.ref (B + 226)]) (c_X7_of l G B dy x44 1 _ e47) tw_883 tw_884 ti_7 tw_885 ⟨rfl, hd_X7_of⟩ ⟨Nat.le_of_ble_eq_true rfl, Nat.le_of_ble_eq_true rfl⟩ ⟨Nat.le_of_ble_eq_true rfl, Nat.le_of_ble_eq_true rfl⟩ rfl rfl (Nat.le_of_ble_eq_true rfl) dX7_lay_60 ?_
        obtain ⟨g48, h⟩ := gd_some h
        refine j_iald C (i := 226) kA_226 (inA g48 aA_226) dX7_lay_63 ?_
        refine j_bipush C (v := 9) dX7_lay_64 (by decide) ?_
        refine j_iload_n C (q := 2) dX7_lay_66 rfl rfl ?_
        refine j_aload_n C (q := 0) dX7_lay_67 rfl rfl ?_
        refine fg_X7_7 C (i := 225) kA_225 dX7_lay_68 ?_
        refine j_iconst C (v := 0) dX7_lay_71 (by decide) ?_
        obtain ⟨g49, h⟩ := gd_some h
        refine j_iald C (i := 226) kA_226 (inA g49 aA_226) dX7_lay_72 ?_
        obtain ⟨g50, h⟩ := gd_some h
        refine j_idiv C dX7_lay_73 (nz_ne g50) ?_
        refine j_isub C dX7_lay_74 ?_
        refine j_icmp_ne C (tgt := 170) dX7_lay_75 (by decide) (fun c51 => ?_) (fun c51 => ?_)
        · have h := ite_t h c51
          refine j_aload_n C (q := 0) dX7_lay_78 rfl rfl ?_
          refine fg_X7_19 C (i := 225) kA_225 dX7_lay_79 ?_
          refine j_iload C (q := 3) dX7_lay_82 rfl ?_
          obtain ⟨g53, h⟩ := gd_some h
          refine j_iald C (i := 229) kA_229 (inA g53 aA_229) dX7_lay_84 ?_
          refine j_iconst C (v := (-1)) dX7_lay_85 (by decide) ?_
          refine j_icmp_ne C (tgt := 95) dX7_lay_86 (by decide) (fun c54 => ?_) (fun c54 => ?_)
          · have h := ite_t h c54
            refine j_sipush C (v := 366) dX7_lay_89 (by decide) ?_
            refine j_goto C (tgt := 102) dX7_lay_92 (by decide) ?_
            refine j_istore C [(0, .ref (B + 225)), (1, .int x1), (3, .int y3), (4, .int x44), (5, .int 366)] [1, 2, 3, 4, 0] dX7_lay_102 (by decide) rfl ?_
            exact J104 FU y3 x44 366 _ h
          · have h := ite_f h c54
            refine j_aload_n C (q := 0) dX7_lay_95 rfl rfl ?_
            refine fg_X7_19 C (i := 225) kA_225 dX7_lay_96 ?_
            refine j_iload C (q := 3) dX7_lay_99 rfl ?_
            obtain ⟨g55, h⟩ := gd_some h
            refine j_iald C (i := 229) kA_229 (inA g55 aA_229) dX7_lay_101 ?_
            refine j_topi (fun x56 ex56 => ?_)
            have h := lt_at h ex56
            refine j_istore C [(0, .ref (B + 225)), (1, .int x1), (3, .int y3), (4, .int x44), (5, .int x56)] [1, 2, 3, 4, 0] dX7_lay_102 (by decide) rfl ?_
            exact J104 FU y3 x44 x56 _ h
        · have h := ite_f h c51
          obtain ⟨x52, ex52⟩ : ∃ y : Int32, y = (y3 + 1) := ⟨_, rfl⟩
          have h := lt_at h ex52
          refine j_iinc C (q := 2) [(0, .ref (B + 225)), (1, .int x1), (3, .int x52), (4, .int x44)] [1, 2, 0, 3] dX7_lay_170 rfl (by rw [ex52]; rfl) (by decide) rfl ?_
          refine j_goto C (tgt := 30) dX7_lay_173 (by decide) ?_
          refine j_sub [0, 1, 2] rfl ?_
          exact ih30 x52 _ h
  have J8 : ∀ (n8 : Nat) (y3 : Int32) (t0 : St), f_X7_lay_l8 n8 x1 y3 t0 = some t9 → WW G B p l e (RM 3 76 0 0) s m args below meth c 0 0 (MQ below (PostV G B t9) args s 0 0 (Ab B)) 6 8 [(0, .ref (B + 225)), (1, .int x1), (3, .int y3)] [] t0 := by
    intro n8
    induction n8 with
    | zero => intro y3 t0 h; exact (no_some h).elim
    | succ n8 ih8 =>
      try clear h
      intro y3 t0 h
      have h : f_X7_lay_b8 (f_X7_lay_l8 n8) x1 y3 t0 = some t9 := h
      refine j_iload_n C (q := 2) dX7_lay_8 rfl rfl ?_
      refine j_sipush C (v := 366) dX7_lay_9 (by decide) ?_
      refine j_icmp_ge C (tgt := 28) dX7_lay_12 (by decide) (fun c57 => ?_) (fun c57 => ?_)
      · have h := ite_t h c57
        refine j_iconst C (v := 0) dX7_lay_28 (by decide) ?_
        refine j_istore_n C [(0, .ref (B + 225)), (1, .int x1), (3, .int 0)] [1, 2, 0] dX7_lay_29 rfl (by decide) rfl ?_
        exact J30 FU 0 _ h
      · have h := ite_f h c57
        refine j_aload_n C (q := 0) dX7_lay_15 rfl rfl ?_
        refine fg_X7_25 C (i := 225) kA_225 dX7_lay_16 ?_
        refine j_iload_n C (q := 2) dX7_lay_19 rfl rfl ?_
        refine j_iconst C (v := 0) dX7_lay_20 (by decide) ?_
        obtain ⟨g58, h⟩ := gd_some h
        refine j_zast C (i := 231) kA_231 (inA g58 aA_231) (Or.inl rfl) dX7_lay_21 ?_
        refine j_tops (fun t59 et59 => ?_)
        have h := lt_at h et59
        obtain ⟨x60, ex60⟩ : ∃ y : Int32, y = (y3 + 1) := ⟨_, rfl⟩
        have h := lt_at h ex60
        refine j_iinc C (q := 2) [(0, .ref (B + 225)), (1, .int x1), (3, .int x60)] [1, 2, 0] dX7_lay_22 rfl (by rw [ex60]; rfl) (by decide) rfl ?_
        refine j_goto C (tgt := 8) dX7_lay_25 (by decide) ?_
        exact ih8 x60 _ h
  refine j_aload_n C (q := 0) dX7_lay_0 rfl rfl ?_
  refine j_iload_n C (q := 1) dX7_lay_1 rfl rfl ?_
  refine j_iload_n C (q := 2) dX7_lay_2 rfl rfl ?_
  obtain ⟨t62, e63, h⟩ := bv_some h
  refine j_callV_v C (i := 225) (As := [.int x1, .int x2]) (rest := []) (c_X7_findProper l G B dy x1 x2 _ e63) (shp7 G B _ kA_225) (kd_lt kA_225 (by decide)) rfl tw_932 tw_934 tp_48 ti_7 tw_935 hd_X7_findProper ⟨Nat.le_of_ble_eq_true rfl, Nat.le_of_ble_eq_true rfl⟩ ⟨Nat.le_of_ble_eq_true rfl, Nat.le_of_ble_eq_true rfl⟩ rfl rfl (Nat.le_of_ble_eq_true rfl) dX7_lay_3 ?_
  refine j_iconst C (v := 0) dX7_lay_6 (by decide) ?_
  refine j_istore_n C [(0, .ref (B + 225)), (1, .int x1), (2, .int x2), (3, .int 0)] [1, 2, 3, 0] dX7_lay_7 rfl (by decide) rfl ?_
  refine j_sub [0, 1, 3] rfl ?_
  exact J8 FU 0 _ h
set_option maxRecDepth 100000 in
set_option maxHeartbeats 4000000 in
theorem c_X7_layAll (l : Launch) (G : GG) (B dy : Nat) (x1 : Int32) (t0 : St) {t9 : St} (h : f_X7_layAll x1 t0 = some t9) : Ct l G B dy yX7_layAll cX7_layAll 4 none 4 101 0 0 [.ref (B + 225), .int x1] t0 (PostV G B t9) := by
  refine Ct_of (by decide +kernel) [(0, .ref (B + 225)), (1, .int x1)] (Nat.le_of_ble_eq_true rfl) rfl ?_
  intro p e s m args below meth c C hr hlk
  have J2 : ∀ (n2 : Nat) (y2 : Int32) (t0 : St), f_X7_layAll_l2 n2 x1 y2 t0 = some t9 → WW G B p l e (RM 4 101 0 0) s m args below meth c 0 0 (MQ below (PostV G B t9) args s 0 0 (Ab B)) 4 2 [(0, .ref (B + 225)), (1, .int x1), (2, .int y2)] [] t0 := by
    intro n2
    induction n2 with
    | zero => intro y2 t0 h; exact (no_some h).elim
    | succ n2 ih2 =>
      try clear h
      have J23 : ∀ (n23 : Nat) (y2 : Int32) (y3 : Int32) (t0 : St), f_X7_layAll_l23 (f_X7_layAll_l2 n2) n23 x1 y2 y3 t0 = some t9 → WW G B p l e (RM 4 101 0 0) s m args below meth c 0 0 (MQ below (PostV G B t9) args s 0 0 (Ab B)) 4 23 [(0, .ref (B + 225)), (1, .int x1), (2, .int y2), (3, .int y3)] [] t0 := by
        intro n23
        induction n23 with
        | zero => intro y2 y3 t0 h; exact (no_some h).elim
        | succ n23 ih23 =>
          try clear h
          intro y2 y3 t0 h
          have h : f_X7_layAll_b23 (f_X7_layAll_l2 n2) (f_X7_layAll_l23 (f_X7_layAll_l2 n2) n23) x1 y2 y3 t0 = some t9 := h
          refine j_iload_n C (q := 3) dX7_layAll_23 rfl rfl ?_
          refine j_aload_n C (q := 0) dX7_layAll_24 rfl rfl ?_
          refine fg_X7_7 C (i := 225) kA_225 dX7_layAll_25 ?_
          refine j_iconst C (v := 0) dX7_layAll_28 (by decide) ?_
          obtain ⟨g21, h⟩ := gd_some h
          refine j_iald C (i := 226) kA_226 (inA g21 aA_226) dX7_layAll_29 ?_
          refine j_icmp_ge C (tgt := 56) dX7_layAll_30 (by decide) (fun c22 => ?_) (fun c22 => ?_)
          · have h := ite_t h c22
            obtain ⟨x23, ex23⟩ : ∃ y : Int32, y = (y2 + 1) := ⟨_, rfl⟩
            have h := lt_at h ex23
            refine j_iinc C (q := 2) [(0, .ref (B + 225)), (1, .int x1), (2, .int x23), (3, .int y3)] [1, 2, 0, 3] dX7_layAll_56 rfl (by rw [ex23]; rfl) (by decide) rfl ?_
            refine j_goto C (tgt := 2) dX7_layAll_59 (by decide) ?_
            refine j_sub [0, 1, 2] rfl ?_
            exact ih2 x23 _ h
          · have h := ite_f h c22
            refine j_aload_n C (q := 0) dX7_layAll_33 rfl rfl ?_
            refine fg_X7_29 C (i := 225) kA_225 dX7_layAll_34 ?_
            refine j_bipush C (v := 10) dX7_layAll_37 (by decide) ?_
            refine j_iload_n C (q := 2) dX7_layAll_39 rfl rfl ?_
            refine j_imul C dX7_layAll_40 ?_
            refine j_iload_n C (q := 3) dX7_layAll_41 rfl rfl ?_
            refine j_iadd C dX7_layAll_42 ?_
            refine j_aload_n C (q := 0) dX7_layAll_43 rfl rfl ?_
            refine fg_X7_22 C (i := 225) kA_225 dX7_layAll_44 ?_
            refine j_iload_n C (q := 3) dX7_layAll_47 rfl rfl ?_
            obtain ⟨g24, h⟩ := gd_some h
            refine j_iald C (i := 230) kA_230 (inA g24 aA_230) dX7_layAll_48 ?_
            obtain ⟨g25, h⟩ := gd_some h
            refine j_iast C (i := 232) kA_232 (inA g25 aA_232) dX7_layAll_49 ?_
            refine j_tops (fun t26 et26 => ?_)
            have h := lt_at h et26
            obtain ⟨x27, ex27⟩ : ∃ y : Int32, y = (y3 + 1) := ⟨_, rfl⟩
            have h := lt_at h ex27
            refine j_iinc C (q := 3) [(0, .ref (B + 225)), (1, .int x1), (2, .int y2), (3, .int x27)] [1, 2, 3, 0] dX7_layAll_50 rfl (by rw [ex27]; rfl) (by decide) rfl ?_
            refine j_goto C (tgt := 23) dX7_layAll_53 (by decide) ?_
            exact ih23 y2 x27 _ h
      intro y2 t0 h
      have h : f_X7_layAll_b2 (f_X7_layAll_l2 n2) x1 y2 t0 = some t9 := h
      refine j_iload_n C (q := 2) dX7_layAll_2 rfl rfl ?_
      refine j_iconst C (v := 3) dX7_layAll_3 (by decide) ?_
      refine j_icmp_ge C (tgt := 62) dX7_layAll_4 (by decide) (fun c28 => ?_) (fun c28 => ?_)
      · have h := ite_t h c28
        exact j_vret C hr hlk h ⟨Nat.le_of_ble_eq_true rfl, Nat.le_of_ble_eq_true rfl⟩ dX7_layAll_62
      · have h := ite_f h c28
        refine j_aload_n C (q := 0) dX7_layAll_7 rfl rfl ?_
        refine j_iload_n C (q := 1) dX7_layAll_8 rfl rfl ?_
        refine j_aload_n C (q := 0) dX7_layAll_9 rfl rfl ?_
        refine fg_X7_7 C (i := 225) kA_225 dX7_layAll_10 ?_
        refine j_bipush C (v := 41) dX7_layAll_13 (by decide) ?_
        refine j_iload_n C (q := 2) dX7_layAll_15 rfl rfl ?_
        refine j_iadd C dX7_layAll_16 ?_
        obtain ⟨g29, h⟩ := gd_some h
        refine j_iald C (i := 226) kA_226 (inA g29 aA_226) dX7_layAll_17 ?_
        obtain ⟨t31, e32, h⟩ := bv_some h
        refine j_callV_v C (i := 225) (As := [.int x1, .int (t0.1 226 (tc (41 + y2)))]) (rest := []) (c_X7_lay l G B dy x1 (t0.1 226 (tc (41 + y2))) _ e32) (shp7 G B _ kA_225) (kd_lt kA_225 (by decide)) rfl tw_928 tw_930 tp_47 ti_7 tw_931 hd_X7_lay ⟨Nat.le_of_ble_eq_true rfl, Nat.le_of_ble_eq_true rfl⟩ ⟨Nat.le_of_ble_eq_true rfl, Nat.le_of_ble_eq_true rfl⟩ rfl rfl (Nat.le_of_ble_eq_true rfl) dX7_layAll_18 ?_
        refine j_iconst C (v := 0) dX7_layAll_21 (by decide) ?_
        refine j_istore_n C [(0, .ref (B + 225)), (1, .int x1), (2, .int y2), (3, .int 0)] [1, 2, 3, 0] dX7_layAll_22 rfl (by decide) rfl ?_
        exact J23 FU y2 0 _ h
  refine j_iconst C (v := 0) dX7_layAll_0 (by decide) ?_
  refine j_istore_n C [(0, .ref (B + 225)), (1, .int x1), (2, .int 0)] [1, 2, 0] dX7_layAll_1 rfl (by decide) rfl ?_
  exact J2 FU 0 _ h
set_option maxRecDepth 100000 in
set_option maxHeartbeats 4000000 in
theorem c_X7_settledBy (l : Launch) (G : GG) (B dy : Nat) (x1 : Int32) (t0 : St) {r : Int32} {t9 : St} (h : f_X7_settledBy x1 t0 = some (r, t9)) : Ct l G B dy yX7_settledBy cX7_settledBy 2 (some .int) 0 0 0 0 [.ref (B + 225), .int x1] t0 (PostI G B r t9) := by
  refine Ct_of (by decide +kernel) [(0, .ref (B + 225)), (1, .int x1)] (Nat.le_of_ble_eq_true rfl) rfl ?_
  intro p e s m args below meth c C hr hlk
  refine j_aload_n C (q := 0) dX7_settledBy_0 rfl rfl ?_
  refine fg_X7_29 C (i := 225) kA_225 dX7_settledBy_1 ?_
  refine j_bipush C (v := 10) dX7_settledBy_4 (by decide) ?_
  refine j_iload_n C (q := 1) dX7_settledBy_6 rfl rfl ?_
  refine j_iadd C dX7_settledBy_7 ?_
  obtain ⟨g21, h⟩ := gd_some h
  refine j_iald C (i := 232) kA_232 (inA g21 aA_232) dX7_settledBy_8 ?_
  refine j_aload_n C (q := 0) dX7_settledBy_9 rfl rfl ?_
  refine fg_X7_29 C (i := 225) kA_225 dX7_settledBy_10 ?_
  refine j_bipush C (v := 20) dX7_settledBy_13 (by decide) ?_
  refine j_iload_n C (q := 1) dX7_settledBy_15 rfl rfl ?_
  refine j_iadd C dX7_settledBy_16 ?_
  obtain ⟨g22, h⟩ := gd_some h
  refine j_iald C (i := 232) kA_232 (inA g22 aA_232) dX7_settledBy_17 ?_
  refine j_icmp_ne C (tgt := 33) dX7_settledBy_18 (by decide) (fun c23 => ?_) (fun c23 => ?_)
  · have h := ite_t h c23
    refine j_aload_n C (q := 0) dX7_settledBy_21 rfl rfl ?_
    refine fg_X7_29 C (i := 225) kA_225 dX7_settledBy_22 ?_
    refine j_bipush C (v := 10) dX7_settledBy_25 (by decide) ?_
    refine j_iload_n C (q := 1) dX7_settledBy_27 rfl rfl ?_
    refine j_iadd C dX7_settledBy_28 ?_
    obtain ⟨g25, h⟩ := gd_some h
    refine j_iald C (i := 232) kA_232 (inA g25 aA_232) dX7_settledBy_29 ?_
    refine j_goto C (tgt := 39) dX7_settledBy_30 (by decide) ?_
    exact j_iret C hr hlk h ⟨Nat.le_of_ble_eq_true rfl, Nat.le_of_ble_eq_true rfl⟩ dX7_settledBy_39
  · have h := ite_f h c23
    refine j_aload_n C (q := 0) dX7_settledBy_33 rfl rfl ?_
    refine fg_X7_29 C (i := 225) kA_225 dX7_settledBy_34 ?_
    refine j_iload_n C (q := 1) dX7_settledBy_37 rfl rfl ?_
    obtain ⟨g24, h⟩ := gd_some h
    refine j_iald C (i := 232) kA_232 (inA g24 aA_232) dX7_settledBy_38 ?_
    exact j_iret C hr hlk h ⟨Nat.le_of_ble_eq_true rfl, Nat.le_of_ble_eq_true rfl⟩ dX7_settledBy_39
set_option maxRecDepth 100000 in
set_option maxHeartbeats 4000000 in
theorem c_X7_quarrelsNow (l : Launch) (G : GG) (B dy : Nat) (t0 : St) {r : Int32} {t9 : St} (h : f_X7_quarrelsNow t0 = some (r, t9)) : Ct l G B dy yX7_quarrelsNow cX7_quarrelsNow 3 (some .int) 0 0 0 0 [.ref (B + 225)] t0 (PostI G B r t9) := by
  refine Ct_of (by decide +kernel) [(0, .ref (B + 225))] (Nat.le_of_ble_eq_true rfl) rfl ?_
  intro p e s m args below meth c C hr hlk
  have J4 : ∀ (n4 : Nat) (y1 : Int32) (y2 : Int32) (t0 : St), f_X7_quarrelsNow_l4 n4 y1 y2 t0 = some (r, t9) → WW G B p l e (RM 0 0 0 0) s m args below meth c 0 0 (MQ below (PostI G B r t9) args s 0 0 (Ab B)) 3 4 [(0, .ref (B + 225)), (1, .int y1), (2, .int y2)] [] t0 := by
    intro n4
    induction n4 with
    | zero => intro y1 y2 t0 h; exact (no_some h).elim
    | succ n4 ih4 =>
      try clear h
      intro y1 y2 t0 h
      have h : f_X7_quarrelsNow_b4 (f_X7_quarrelsNow_l4 n4) y1 y2 t0 = some (r, t9) := h
      refine j_iload_n C (q := 2) dX7_quarrelsNow_4 rfl rfl ?_
      refine j_aload_n C (q := 0) dX7_quarrelsNow_5 rfl rfl ?_
      refine fg_X7_7 C (i := 225) kA_225 dX7_quarrelsNow_6 ?_
      refine j_iconst C (v := 0) dX7_quarrelsNow_9 (by decide) ?_
      obtain ⟨g21, h⟩ := gd_some h
      refine j_iald C (i := 226) kA_226 (inA g21 aA_226) dX7_quarrelsNow_10 ?_
      refine j_icmp_ge C (tgt := 64) dX7_quarrelsNow_11 (by decide) (fun c22 => ?_) (fun c22 => ?_)
      · have h := ite_t h c22
        refine j_iload_n C (q := 1) dX7_quarrelsNow_64 rfl rfl ?_
        exact j_iret C hr hlk h ⟨Nat.le_of_ble_eq_true rfl, Nat.le_of_ble_eq_true rfl⟩ dX7_quarrelsNow_65
      · have h := ite_f h c22
        refine j_iload_n C (q := 1) dX7_quarrelsNow_14 rfl rfl ?_
        refine j_aload_n C (q := 0) dX7_quarrelsNow_15 rfl rfl ?_
        refine fg_X7_29 C (i := 225) kA_225 dX7_quarrelsNow_16 ?_
        refine j_iload_n C (q := 2) dX7_quarrelsNow_19 rfl rfl ?_
        obtain ⟨g23, h⟩ := gd_some h
        refine j_iald C (i := 232) kA_232 (inA g23 aA_232) dX7_quarrelsNow_20 ?_
        refine j_aload_n C (q := 0) dX7_quarrelsNow_21 rfl rfl ?_
        refine fg_X7_29 C (i := 225) kA_225 dX7_quarrelsNow_22 ?_
        refine j_bipush C (v := 10) dX7_quarrelsNow_25 (by decide) ?_
        refine j_iload_n C (q := 2) dX7_quarrelsNow_27 rfl rfl ?_
        refine j_iadd C dX7_quarrelsNow_28 ?_
        obtain ⟨g24, h⟩ := gd_some h
        refine j_iald C (i := 232) kA_232 (inA g24 aA_232) dX7_quarrelsNow_29 ?_
        refine j_icmp_ne C (tgt := 55) dX7_quarrelsNow_30 (by decide) (fun c25 => ?_) (fun c25 => ?_)
        · have h := ite_t h c25
          refine j_aload_n C (q := 0) dX7_quarrelsNow_33 rfl rfl ?_
          refine fg_X7_29 C (i := 225) kA_225 dX7_quarrelsNow_34 ?_
          refine j_iload_n C (q := 2) dX7_quarrelsNow_37 rfl rfl ?_
          obtain ⟨g28, h⟩ := gd_some h
          refine j_iald C (i := 232) kA_232 (inA g28 aA_232) dX7_quarrelsNow_38 ?_
          refine j_aload_n C (q := 0) dX7_quarrelsNow_39 rfl rfl ?_
          refine fg_X7_29 C (i := 225) kA_225 dX7_quarrelsNow_40 ?_
          refine j_bipush C (v := 20) dX7_quarrelsNow_43 (by decide) ?_
          refine j_iload_n C (q := 2) dX7_quarrelsNow_45 rfl rfl ?_
          refine j_iadd C dX7_quarrelsNow_46 ?_
          obtain ⟨g29, h⟩ := gd_some h
          refine j_iald C (i := 232) kA_232 (inA g29 aA_232) dX7_quarrelsNow_47 ?_
          refine j_icmp_ne C (tgt := 55) dX7_quarrelsNow_48 (by decide) (fun c30 => ?_) (fun c30 => ?_)
          · have h := ite_t h c30
            refine j_iconst C (v := 0) dX7_quarrelsNow_51 (by decide) ?_
            refine j_goto C (tgt := 56) dX7_quarrelsNow_52 (by decide) ?_
            refine j_iadd C dX7_quarrelsNow_56 ?_
            refine j_topi (fun x33 ex33 => ?_)
            have h := lt_at h ex33
            refine j_istore_n C [(0, .ref (B + 225)), (1, .int x33), (2, .int y2)] [1, 0, 2] dX7_quarrelsNow_57 rfl (by decide) rfl ?_
            obtain ⟨x34, ex34⟩ : ∃ y : Int32, y = (y2 + 1) := ⟨_, rfl⟩
            have h := lt_at h ex34
            refine j_iinc C (q := 2) [(0, .ref (B + 225)), (1, .int x33), (2, .int x34)] [1, 2, 0] dX7_quarrelsNow_58 rfl (by rw [ex34]; rfl) (by decide) rfl ?_
            refine j_goto C (tgt := 4) dX7_quarrelsNow_61 (by decide) ?_
            exact ih4 x33 x34 _ h
          · have h := ite_f h c30
            refine j_iconst C (v := 1) dX7_quarrelsNow_55 (by decide) ?_
            refine j_iadd C dX7_quarrelsNow_56 ?_
            refine j_topi (fun x31 ex31 => ?_)
            have h := lt_at h ex31
            refine j_istore_n C [(0, .ref (B + 225)), (1, .int x31), (2, .int y2)] [1, 0, 2] dX7_quarrelsNow_57 rfl (by decide) rfl ?_
            obtain ⟨x32, ex32⟩ : ∃ y : Int32, y = (y2 + 1) := ⟨_, rfl⟩
            have h := lt_at h ex32
            refine j_iinc C (q := 2) [(0, .ref (B + 225)), (1, .int x31), (2, .int x32)] [1, 2, 0] dX7_quarrelsNow_58 rfl (by rw [ex32]; rfl) (by decide) rfl ?_
            refine j_goto C (tgt := 4) dX7_quarrelsNow_61 (by decide) ?_
            exact ih4 x31 x32 _ h
        · have h := ite_f h c25
          refine j_iconst C (v := 1) dX7_quarrelsNow_55 (by decide) ?_
          refine j_iadd C dX7_quarrelsNow_56 ?_
          refine j_topi (fun x26 ex26 => ?_)
          have h := lt_at h ex26
          refine j_istore_n C [(0, .ref (B + 225)), (1, .int x26), (2, .int y2)] [1, 0, 2] dX7_quarrelsNow_57 rfl (by decide) rfl ?_
          obtain ⟨x27, ex27⟩ : ∃ y : Int32, y = (y2 + 1) := ⟨_, rfl⟩
          have h := lt_at h ex27
          refine j_iinc C (q := 2) [(0, .ref (B + 225)), (1, .int x26), (2, .int x27)] [1, 2, 0] dX7_quarrelsNow_58 rfl (by rw [ex27]; rfl) (by decide) rfl ?_
          refine j_goto C (tgt := 4) dX7_quarrelsNow_61 (by decide) ?_
          exact ih4 x26 x27 _ h
  refine j_iconst C (v := 0) dX7_quarrelsNow_0 (by decide) ?_
  refine j_istore_n C [(0, .ref (B + 225)), (1, .int 0)] [1, 0] dX7_quarrelsNow_1 rfl (by decide) rfl ?_
  refine j_iconst C (v := 0) dX7_quarrelsNow_2 (by decide) ?_
  refine j_istore_n C [(0, .ref (B + 225)), (1, .int 0), (2, .int 0)] [1, 2, 0] dX7_quarrelsNow_3 rfl (by decide) rfl ?_
  exact J4 FU 0 0 _ h
set_option maxRecDepth 100000 in
set_option maxHeartbeats 4000000 in
theorem c_X7_append (l : Launch) (G : GG) (B dy : Nat) (x1 : Int32) (t0 : St) {r : Int32} {t9 : St} (h : f_X7_append x1 t0 = some (r, t9)) : Ct l G B dy yX7_append cX7_append 2 (some .int) 1 22 0 0 [.ref (B + 225), .int x1] t0 (PostI G B r t9) := by
  refine Ct_of (by decide +kernel) [(0, .ref (B + 225)), (1, .int x1)] (Nat.le_of_ble_eq_true rfl) rfl ?_
  intro p e s m args below meth c C hr hlk
  have J30 : ∀ (w0 : Int32) (t0 : St), f_X7_append_b30 x1 w0 t0 = some (r, t9) → WW G B p l e (RM 1 22 0 0) s m args below meth c 0 0 (MQ below (PostI G B r t9) args s 0 0 (Ab B)) 2 30 [(0, .ref (B + 225)), (1, .int x1)] [.int w0, .ref (B + 225)] t0 := by
    intro w0 t0 h
    obtain ⟨x21, t22, e23, h⟩ := bd_some h
    refine j_callV_i C (i := 225) (As := [.int w0]) (rest := []) (c_X7_holds l G B dy w0 _ e23) (shp7 G B _ kA_225) (kd_lt kA_225 (by decide)) rfl tw_847 tw_849 tp_37 ti_7 tw_850 hd_X7_holds ⟨Nat.le_of_ble_eq_true rfl, Nat.le_of_ble_eq_true rfl⟩ ⟨Nat.le_of_ble_eq_true rfl, Nat.le_of_ble_eq_true rfl⟩ rfl rfl (Nat.le_of_ble_eq_true rfl) dX7_append_30 ?_
    refine j_if_ne C (tgt := 38) dX7_append_33 (by decide) (fun c24 => ?_) (fun c24 => ?_)
    · have h := ite_t h c24
      refine j_iconst C (v := 0) dX7_append_36 (by decide) ?_
      exact j_iret C hr hlk h ⟨Nat.le_of_ble_eq_true rfl, Nat.le_of_ble_eq_true rfl⟩ dX7_append_37
    · have h := ite_f h c24
      refine j_aload_n C (q := 0) dX7_append_38 rfl rfl ?_
      refine fg_X7_16 C (i := 225) kA_225 dX7_append_39 ?_
      refine j_aload_n C (q := 0) dX7_append_42 rfl rfl ?_
      refine fg_X7_77 C (i := 225) kA_225 dX7_append_43 ?_
      refine j_iload_n C (q := 1) dX7_append_46 rfl rfl ?_
      obtain ⟨g25, h⟩ := gd_some h
      refine j_iast C (i := 228) kA_228 (inA g25 aA_228) dX7_append_47 ?_
      refine j_tops (fun t26 et26 => ?_)
      have h := lt_at h et26
      refine j_aload_n C (q := 0) dX7_append_48 rfl rfl ?_
      refine j_dup C dX7_append_49 rfl ?_
      refine fg_X7_77 C (i := 225) kA_225 dX7_append_50 ?_
      refine j_iconst C (v := 1) dX7_append_53 (by decide) ?_
      refine j_iadd C dX7_append_54 ?_
      refine fp_X7_77 C (i := 225) kA_225 dX7_append_55 ?_
      refine j_tops (fun t27 et27 => ?_)
      have h := lt_at h et27
      refine j_aload_n C (q := 0) dX7_append_58 rfl rfl ?_
      refine fg_X7_77 C (i := 225) kA_225 dX7_append_59 ?_
      exact j_iret C hr hlk h ⟨Nat.le_of_ble_eq_true rfl, Nat.le_of_ble_eq_true rfl⟩ dX7_append_62
  refine j_aload_n C (q := 0) dX7_append_0 rfl rfl ?_
  refine j_iload_n C (q := 1) dX7_append_1 rfl rfl ?_
  refine j_bipush C (v := 33) dX7_append_2 (by decide) ?_
  refine j_bipush C (v := 126) dX7_append_4 (by decide) ?_
  obtain ⟨x28, t29, e30, h⟩ := bd_some h
  refine j_callS_i C (i := 0) (As := [.int x1, .int 33, .int 126]) (rest := [.ref (B + 225)]) (c_X7_in l G B dy x1 33 126 _ e30) tw_844 tw_845 ti_7 tw_846 ⟨rfl, hd_X7_in⟩ ⟨Nat.le_of_ble_eq_true rfl, Nat.le_of_ble_eq_true rfl⟩ ⟨Nat.le_of_ble_eq_true rfl, Nat.le_of_ble_eq_true rfl⟩ rfl rfl (Nat.le_of_ble_eq_true rfl) dX7_append_6 ?_
  refine j_if_ne C (tgt := 16) dX7_append_9 (by decide) (fun c31 => ?_) (fun c31 => ?_)
  · have h := ite_t h c31
    refine j_iconst C (v := 1) dX7_append_12 (by decide) ?_
    refine j_goto C (tgt := 30) dX7_append_13 (by decide) ?_
    exact J30 1 _ h
  · have h := ite_f h c31
    refine j_aload_n C (q := 0) dX7_append_16 rfl rfl ?_
    refine fg_X7_77 C (i := 225) kA_225 dX7_append_17 ?_
    refine j_bipush C (v := 60) dX7_append_20 (by decide) ?_
    refine j_icmp_ne C (tgt := 29) dX7_append_22 (by decide) (fun c32 => ?_) (fun c32 => ?_)
    · have h := ite_t h c32
      refine j_iconst C (v := 2) dX7_append_25 (by decide) ?_
      refine j_goto C (tgt := 30) dX7_append_26 (by decide) ?_
      exact J30 2 _ h
    · have h := ite_f h c32
      refine j_iconst C (v := 0) dX7_append_29 (by decide) ?_
      exact J30 0 _ h
set_option maxRecDepth 100000 in
set_option maxHeartbeats 4000000 in
theorem c_X7_clearBuffer (l : Launch) (G : GG) (B dy : Nat) (t0 : St) {r : Int32} {t9 : St} (h : f_X7_clearBuffer t0 = some (r, t9)) : Ct l G B dy yX7_clearBuffer cX7_clearBuffer 2 (some .int) 0 0 0 0 [.ref (B + 225)] t0 (PostI G B r t9) := by
  refine Ct_of (by decide +kernel) [(0, .ref (B + 225))] (Nat.le_of_ble_eq_true rfl) rfl ?_
  intro p e s m args below meth c C hr hlk
  refine j_aload_n C (q := 0) dX7_clearBuffer_0 rfl rfl ?_
  refine j_iconst C (v := 0) dX7_clearBuffer_1 (by decide) ?_
  refine fp_X7_38 C (i := 225) kA_225 dX7_clearBuffer_2 ?_
  refine j_tops (fun t21 et21 => ?_)
  have h := lt_at h et21
  refine j_aload_n C (q := 0) dX7_clearBuffer_5 rfl rfl ?_
  refine fg_X7_77 C (i := 225) kA_225 dX7_clearBuffer_6 ?_
  refine j_topi (fun x22 ex22 => ?_)
  have h := lt_at h ex22
  refine j_istore_n C [(0, .ref (B + 225)), (1, .int x22)] [1, 0] dX7_clearBuffer_9 rfl (by decide) rfl ?_
  refine j_aload_n C (q := 0) dX7_clearBuffer_10 rfl rfl ?_
  refine j_iconst C (v := 0) dX7_clearBuffer_11 (by decide) ?_
  refine fp_X7_77 C (i := 225) kA_225 dX7_clearBuffer_12 ?_
  refine j_tops (fun t23 et23 => ?_)
  have h := lt_at h et23
  refine j_iload_n C (q := 1) dX7_clearBuffer_15 rfl rfl ?_
  exact j_iret C hr hlk h ⟨Nat.le_of_ble_eq_true rfl, Nat.le_of_ble_eq_true rfl⟩ dX7_clearBuffer_16
set_option maxRecDepth 100000 in
set_option maxHeartbeats 4000000 in
theorem c_X7_sign (l : Launch) (G : GG) (B dy : Nat) (x1 : Int32) (x2 : Int32) (t0 : St) {r : Int32} {t9 : St} (h : f_X7_sign x1 x2 t0 = some (r, t9)) : Ct l G B dy yX7_sign cX7_sign 4 (some .int) 1 22 0 0 [.ref (B + 225), .int x1, .int x2] t0 (PostI G B r t9) := by
  refine Ct_of (by decide +kernel) [(0, .ref (B + 225)), (1, .int x1), (2, .int x2)] (Nat.le_of_ble_eq_true rfl) rfl ?_
  intro p e s m args below meth c C hr hlk
  have J47 : ∀ (y3 : Int32) (w0 : Int32) (t0 : St), f_X7_sign_b47 y3 w0 t0 = some (r, t9) → WW G B p l e (RM 1 22 0 0) s m args below meth c 0 0 (MQ below (PostI G B r t9) args s 0 0 (Ab B)) 4 47 [(0, .ref (B + 225)), (3, .int y3)] [.int w0, .ref (B + 225)] t0 := by
    intro y3 w0 t0 h
    obtain ⟨g22, h⟩ := gd_some h
    refine fp_X7_87 C (i := 225) kA_225 (is01_or g22) dX7_sign_47 ?_
    refine j_tops (fun t21 et21 => ?_)
    have h := lt_at h et21
    refine j_aload_n C (q := 0) dX7_sign_50 rfl rfl ?_
    refine j_dup C dX7_sign_51 rfl ?_
    refine fg_X7_84 C (i := 225) kA_225 dX7_sign_52 ?_
    refine j_aload_n C (q := 0) dX7_sign_55 rfl rfl ?_
    refine fg_X7_87 C (i := 225) kA_225 dX7_sign_56 ?_
    refine j_if_eq C (tgt := 66) dX7_sign_59 (by decide) (fun c23 => ?_) (fun c23 => ?_)
    · have h := ite_t h c23
      refine j_iconst C (v := 1) dX7_sign_66 (by decide) ?_
      refine j_iadd C dX7_sign_67 ?_
      refine fp_X7_84 C (i := 225) kA_225 dX7_sign_68 ?_
      refine j_tops (fun t24 et24 => ?_)
      have h := lt_at h et24
      refine j_iload_n C (q := 1) dX7_sign_71 rfl rfl ?_
      exact j_iret C hr hlk h ⟨Nat.le_of_ble_eq_true rfl, Nat.le_of_ble_eq_true rfl⟩ dX7_sign_72
    · have h := ite_f h c23
      refine j_iconst C (v := 0) dX7_sign_62 (by decide) ?_
      refine j_goto C (tgt := 67) dX7_sign_63 (by decide) ?_
      refine j_iadd C dX7_sign_67 ?_
      refine fp_X7_84 C (i := 225) kA_225 dX7_sign_68 ?_
      refine j_tops (fun t25 et25 => ?_)
      have h := lt_at h et25
      refine j_iload_n C (q := 1) dX7_sign_71 rfl rfl ?_
      exact j_iret C hr hlk h ⟨Nat.le_of_ble_eq_true rfl, Nat.le_of_ble_eq_true rfl⟩ dX7_sign_72
  have J24 : ∀ (w0 : Int32) (t0 : St), f_X7_sign_b24 x1 x2 w0 t0 = some (r, t9) → WW G B p l e (RM 1 22 0 0) s m args below meth c 0 0 (MQ below (PostI G B r t9) args s 0 0 (Ab B)) 4 24 [(0, .ref (B + 225)), (1, .int x1), (2, .int x2)] [.int w0] t0 := by
    intro w0 t0 h
    refine j_istore_n C [(0, .ref (B + 225)), (1, .int x1), (2, .int x2), (3, .int w0)] [1, 2, 3, 0] dX7_sign_24 rfl (by decide) rfl ?_
    refine j_aload_n C (q := 0) dX7_sign_25 rfl rfl ?_
    refine j_aload_n C (q := 0) dX7_sign_26 rfl rfl ?_
    refine fg_X7_87 C (i := 225) kA_225 dX7_sign_27 ?_
    refine j_if_ne C (tgt := 42) dX7_sign_30 (by decide) (fun c26 => ?_) (fun c26 => ?_)
    · have h := ite_t h c26
      refine j_iload_n C (q := 3) dX7_sign_33 rfl rfl ?_
      refine j_iload_n C (q := 1) dX7_sign_34 rfl rfl ?_
      refine j_iload_n C (q := 2) dX7_sign_35 rfl rfl ?_
      obtain ⟨x27, t28, e29, h⟩ := bd_some h
      refine j_callS_i C (i := 0) (As := [.int w0, .int x1, .int x2]) (rest := [.ref (B + 225)]) (c_X7_in l G B dy w0 x1 x2 _ e29) tw_844 tw_845 ti_7 tw_846 ⟨rfl, hd_X7_in⟩ ⟨Nat.le_of_ble_eq_true rfl, Nat.le_of_ble_eq_true rfl⟩ ⟨Nat.le_of_ble_eq_true rfl, Nat.le_of_ble_eq_true rfl⟩ rfl rfl (Nat.le_of_ble_eq_true rfl) dX7_sign_36 ?_
      refine j_if_ne C (tgt := 46) dX7_sign_39 (by decide) (fun c30 => ?_) (fun c30 => ?_)
      · have h := ite_t h c30
        refine j_iconst C (v := 1) dX7_sign_42 (by decide) ?_
        refine j_goto C (tgt := 47) dX7_sign_43 (by decide) ?_
        refine j_sub [0, 3] rfl ?_
        exact J47 w0 1 _ h
      · have h := ite_f h c30
        refine j_iconst C (v := 0) dX7_sign_46 (by decide) ?_
        refine j_sub [0, 3] rfl ?_
        exact J47 w0 0 _ h
    · have h := ite_f h c26
      refine j_iconst C (v := 1) dX7_sign_42 (by decide) ?_
      refine j_goto C (tgt := 47) dX7_sign_43 (by decide) ?_
      refine j_sub [0, 3] rfl ?_
      exact J47 w0 1 _ h
  refine j_aload_n C (q := 0) dX7_sign_0 rfl rfl ?_
  refine fg_X7_84 C (i := 225) kA_225 dX7_sign_1 ?_
  refine j_aload_n C (q := 0) dX7_sign_4 rfl rfl ?_
  refine fg_X7_77 C (i := 225) kA_225 dX7_sign_5 ?_
  refine j_icmp_ge C (tgt := 23) dX7_sign_8 (by decide) (fun c31 => ?_) (fun c31 => ?_)
  · have h := ite_t h c31
    refine j_iconst C (v := 0) dX7_sign_23 (by decide) ?_
    exact J24 0 _ h
  · have h := ite_f h c31
    refine j_aload_n C (q := 0) dX7_sign_11 rfl rfl ?_
    refine fg_X7_16 C (i := 225) kA_225 dX7_sign_12 ?_
    refine j_aload_n C (q := 0) dX7_sign_15 rfl rfl ?_
    refine fg_X7_84 C (i := 225) kA_225 dX7_sign_16 ?_
    obtain ⟨g32, h⟩ := gd_some h
    refine j_iald C (i := 228) kA_228 (inA g32 aA_228) dX7_sign_19 ?_
    refine j_goto C (tgt := 24) dX7_sign_20 (by decide) ?_
    exact J24 (t0.1 228 (tc (t0.1 225 10))) _ h
set_option maxRecDepth 100000 in
set_option maxHeartbeats 4000000 in
theorem c_X7_isNext (l : Launch) (G : GG) (B dy : Nat) (x1 : Int32) (t0 : St) {r : Int32} {t9 : St} (h : f_X7_isNext x1 t0 = some (r, t9)) : Ct l G B dy yX7_isNext cX7_isNext 2 (some .boolean) 0 0 0 0 [.ref (B + 225), .int x1] t0 (PostI G B r t9) := by
  refine Ct_of (by decide +kernel) [(0, .ref (B + 225)), (1, .int x1)] (Nat.le_of_ble_eq_true rfl) rfl ?_
  intro p e s m args below meth c C hr hlk
  refine j_aload_n C (q := 0) dX7_isNext_0 rfl rfl ?_
  refine fg_X7_87 C (i := 225) kA_225 dX7_isNext_1 ?_
  refine j_if_ne C (tgt := 35) dX7_isNext_4 (by decide) (fun c21 => ?_) (fun c21 => ?_)
  · have h := ite_t h c21
    refine j_aload_n C (q := 0) dX7_isNext_7 rfl rfl ?_
    refine fg_X7_84 C (i := 225) kA_225 dX7_isNext_8 ?_
    refine j_aload_n C (q := 0) dX7_isNext_11 rfl rfl ?_
    refine fg_X7_77 C (i := 225) kA_225 dX7_isNext_12 ?_
    refine j_icmp_ge C (tgt := 35) dX7_isNext_15 (by decide) (fun c22 => ?_) (fun c22 => ?_)
    · have h := ite_t h c22
      refine j_iconst C (v := 0) dX7_isNext_35 (by decide) ?_
      exact j_zret C hr hlk (Or.inl rfl) h ⟨Nat.le_of_ble_eq_true rfl, Nat.le_of_ble_eq_true rfl⟩ dX7_isNext_36
    · have h := ite_f h c22
      refine j_aload_n C (q := 0) dX7_isNext_18 rfl rfl ?_
      refine fg_X7_16 C (i := 225) kA_225 dX7_isNext_19 ?_
      refine j_aload_n C (q := 0) dX7_isNext_22 rfl rfl ?_
      refine fg_X7_84 C (i := 225) kA_225 dX7_isNext_23 ?_
      obtain ⟨g23, h⟩ := gd_some h
      refine j_iald C (i := 228) kA_228 (inA g23 aA_228) dX7_isNext_26 ?_
      refine j_iload_n C (q := 1) dX7_isNext_27 rfl rfl ?_
      refine j_icmp_ne C (tgt := 35) dX7_isNext_28 (by decide) (fun c24 => ?_) (fun c24 => ?_)
      · have h := ite_t h c24
        refine j_iconst C (v := 1) dX7_isNext_31 (by decide) ?_
        refine j_goto C (tgt := 36) dX7_isNext_32 (by decide) ?_
        exact j_zret C hr hlk (Or.inr rfl) h ⟨Nat.le_of_ble_eq_true rfl, Nat.le_of_ble_eq_true rfl⟩ dX7_isNext_36
      · have h := ite_f h c24
        refine j_iconst C (v := 0) dX7_isNext_35 (by decide) ?_
        exact j_zret C hr hlk (Or.inl rfl) h ⟨Nat.le_of_ble_eq_true rfl, Nat.le_of_ble_eq_true rfl⟩ dX7_isNext_36
  · have h := ite_f h c21
    refine j_iconst C (v := 0) dX7_isNext_35 (by decide) ?_
    exact j_zret C hr hlk (Or.inl rfl) h ⟨Nat.le_of_ble_eq_true rfl, Nat.le_of_ble_eq_true rfl⟩ dX7_isNext_36
set_option maxRecDepth 100000 in
set_option maxHeartbeats 4000000 in
theorem c_X7_number (l : Launch) (G : GG) (B dy : Nat) (x1 : Int32) (t0 : St) {r : Int32} {t9 : St} (h : f_X7_number x1 t0 = some (r, t9)) : Ct l G B dy yX7_number cX7_number 3 (some .int) 2 45 0 0 [.ref (B + 225), .int x1] t0 (PostI G B r t9) := by
  refine Ct_of (by decide +kernel) [(0, .ref (B + 225)), (1, .int x1)] (Nat.le_of_ble_eq_true rfl) rfl ?_
  intro p e s m args below meth c C hr hlk
  have J12 : ∀ (n12 : Nat) (y2 : Int32) (t0 : St), f_X7_number_l12 n12 x1 y2 t0 = some (r, t9) → WW G B p l e (RM 2 45 0 0) s m args below meth c 0 0 (MQ below (PostI G B r t9) args s 0 0 (Ab B)) 3 12 [(0, .ref (B + 225)), (1, .int x1), (2, .int y2)] [] t0 := by
    intro n12
    induction n12 with
    | zero => intro y2 t0 h; exact (no_some h).elim
    | succ n12 ih12 =>
      try clear h
      intro y2 t0 h
      have h : f_X7_number_b12 (f_X7_number_l12 n12) x1 y2 t0 = some (r, t9) := h
      refine j_aload_n C (q := 0) dX7_number_12 rfl rfl ?_
      refine fg_X7_87 C (i := 225) kA_225 dX7_number_13 ?_
      refine j_if_ne C (tgt := 94) dX7_number_16 (by decide) (fun c21 => ?_) (fun c21 => ?_)
      · have h := ite_t h c21
        refine j_iload_n C (q := 2) dX7_number_19 rfl rfl ?_
        refine j_if_le C (tgt := 94) dX7_number_20 (by decide) (fun c22 => ?_) (fun c22 => ?_)
        · have h := ite_t h c22
          refine j_iload_n C (q := 2) dX7_number_94 rfl rfl ?_
          exact j_iret C hr hlk h ⟨Nat.le_of_ble_eq_true rfl, Nat.le_of_ble_eq_true rfl⟩ dX7_number_95
        · have h := ite_f h c22
          refine j_aload_n C (q := 0) dX7_number_23 rfl rfl ?_
          refine fg_X7_84 C (i := 225) kA_225 dX7_number_24 ?_
          refine j_aload_n C (q := 0) dX7_number_27 rfl rfl ?_
          refine fg_X7_77 C (i := 225) kA_225 dX7_number_28 ?_
          refine j_icmp_ge C (tgt := 94) dX7_number_31 (by decide) (fun c23 => ?_) (fun c23 => ?_)
          · have h := ite_t h c23
            refine j_iload_n C (q := 2) dX7_number_94 rfl rfl ?_
            exact j_iret C hr hlk h ⟨Nat.le_of_ble_eq_true rfl, Nat.le_of_ble_eq_true rfl⟩ dX7_number_95
          · have h := ite_f h c23
            refine j_aload_n C (q := 0) dX7_number_34 rfl rfl ?_
            refine fg_X7_16 C (i := 225) kA_225 dX7_number_35 ?_
            refine j_aload_n C (q := 0) dX7_number_38 rfl rfl ?_
            refine fg_X7_84 C (i := 225) kA_225 dX7_number_39 ?_
            obtain ⟨g24, h⟩ := gd_some h
            refine j_iald C (i := 228) kA_228 (inA g24 aA_228) dX7_number_42 ?_
            refine j_bipush C (v := 48) dX7_number_43 (by decide) ?_
            refine j_bipush C (v := 57) dX7_number_45 (by decide) ?_
            obtain ⟨x25, t26, e27, h⟩ := bd_some h
            refine j_callS_i C (i := 0) (As := [.int (t0.1 228 (tc (t0.1 225 10))), .int 48, .int 57]) (rest := []) (c_X7_in l G B dy (t0.1 228 (tc (t0.1 225 10))) 48 57 _ e27) tw_844 tw_845 ti_7 tw_846 ⟨rfl, hd_X7_in⟩ ⟨Nat.le_of_ble_eq_true rfl, Nat.le_of_ble_eq_true rfl⟩ ⟨Nat.le_of_ble_eq_true rfl, Nat.le_of_ble_eq_true rfl⟩ rfl rfl (Nat.le_of_ble_eq_true rfl) dX7_number_47 ?_
            refine j_if_eq C (tgt := 94) dX7_number_50 (by decide) (fun c28 => ?_) (fun c28 => ?_)
            · have h := ite_t h c28
              refine j_iload_n C (q := 2) dX7_number_94 rfl rfl ?_
              exact j_iret C hr hlk h ⟨Nat.le_of_ble_eq_true rfl, Nat.le_of_ble_eq_true rfl⟩ dX7_number_95
            · have h := ite_f h c28
              refine j_bipush C (v := 10) dX7_number_53 (by decide) ?_
              refine j_iload_n C (q := 2) dX7_number_55 rfl rfl ?_
              refine j_imul C dX7_number_56 ?_
              refine j_aload_n C (q := 0) dX7_number_57 rfl rfl ?_
              refine fg_X7_16 C (i := 225) kA_225 dX7_number_58 ?_
              refine j_aload_n C (q := 0) dX7_number_61 rfl rfl ?_
              refine fg_X7_84 C (i := 225) kA_225 dX7_number_62 ?_
              obtain ⟨g29, h⟩ := gd_some h
              refine j_iald C (i := 228) kA_228 (inA g29 aA_228) dX7_number_65 ?_
              refine j_iadd C dX7_number_66 ?_
              refine j_bipush C (v := 48) dX7_number_67 (by decide) ?_
              refine j_isub C dX7_number_69 ?_
              refine j_iload_n C (q := 1) dX7_number_70 rfl rfl ?_
              refine j_icmp_gt C (tgt := 94) dX7_number_71 (by decide) (fun c30 => ?_) (fun c30 => ?_)
              · have h := ite_t h c30
                refine j_iload_n C (q := 2) dX7_number_94 rfl rfl ?_
                exact j_iret C hr hlk h ⟨Nat.le_of_ble_eq_true rfl, Nat.le_of_ble_eq_true rfl⟩ dX7_number_95
              · have h := ite_f h c30
                refine j_bipush C (v := 10) dX7_number_74 (by decide) ?_
                refine j_iload_n C (q := 2) dX7_number_76 rfl rfl ?_
                refine j_imul C dX7_number_77 ?_
                refine j_aload_n C (q := 0) dX7_number_78 rfl rfl ?_
                refine j_bipush C (v := 48) dX7_number_79 (by decide) ?_
                refine j_bipush C (v := 57) dX7_number_81 (by decide) ?_
                obtain ⟨x31, t32, e33, h⟩ := bd_some h
                refine j_callV_i C (i := 225) (As := [.int 48, .int 57]) (rest := [.int (10 * y2)]) (c_X7_sign l G B dy 48 57 _ e33) (shp7 G B _ kA_225) (kd_lt kA_225 (by decide)) rfl tw_867 tw_869 tp_40 ti_7 tw_870 hd_X7_sign ⟨Nat.le_of_ble_eq_true rfl, Nat.le_of_ble_eq_true rfl⟩ ⟨Nat.le_of_ble_eq_true rfl, Nat.le_of_ble_eq_true rfl⟩ rfl rfl (Nat.le_of_ble_eq_true rfl) dX7_number_83 ?_
                refine j_iadd C dX7_number_86 ?_
                refine j_bipush C (v := 48) dX7_number_87 (by decide) ?_
                refine j_isub C dX7_number_89 ?_
                refine j_topi (fun x34 ex34 => ?_)
                have h := lt_at h ex34
                refine j_istore_n C [(0, .ref (B + 225)), (1, .int x1), (2, .int x34)] [1, 2, 0] dX7_number_90 rfl (by decide) rfl ?_
                refine j_goto C (tgt := 12) dX7_number_91 (by decide) ?_
                exact ih12 x34 _ h
      · have h := ite_f h c21
        refine j_iload_n C (q := 2) dX7_number_94 rfl rfl ?_
        exact j_iret C hr hlk h ⟨Nat.le_of_ble_eq_true rfl, Nat.le_of_ble_eq_true rfl⟩ dX7_number_95
  refine j_aload_n C (q := 0) dX7_number_0 rfl rfl ?_
  refine j_bipush C (v := 48) dX7_number_1 (by decide) ?_
  refine j_bipush C (v := 57) dX7_number_3 (by decide) ?_
  obtain ⟨x35, t36, e37, h⟩ := bd_some h
  refine j_callV_i C (i := 225) (As := [.int 48, .int 57]) (rest := []) (c_X7_sign l G B dy 48 57 _ e37) (shp7 G B _ kA_225) (kd_lt kA_225 (by decide)) rfl tw_867 tw_869 tp_40 ti_7 tw_870 hd_X7_sign ⟨Nat.le_of_ble_eq_true rfl, Nat.le_of_ble_eq_true rfl⟩ ⟨Nat.le_of_ble_eq_true rfl, Nat.le_of_ble_eq_true rfl⟩ rfl rfl (Nat.le_of_ble_eq_true rfl) dX7_number_5 ?_
  refine j_bipush C (v := 48) dX7_number_8 (by decide) ?_
  refine j_isub C dX7_number_10 ?_
  refine j_topi (fun x38 ex38 => ?_)
  have h := lt_at h ex38
  refine j_istore_n C [(0, .ref (B + 225)), (1, .int x1), (2, .int x38)] [1, 2, 0] dX7_number_11 rfl (by decide) rfl ?_
  exact J12 FU x38 _ h
set_option maxRecDepth 100000 in
set_option maxHeartbeats 4000000 in
theorem c_X7_read (l : Launch) (G : GG) (B dy : Nat) (t0 : St) {t9 : St} (h : f_X7_read t0 = some t9) : Ct l G B dy yX7_read cX7_read 4 none 3 67 0 0 [.ref (B + 225)] t0 (PostV G B t9) := by
  refine Ct_of (by decide +kernel) [(0, .ref (B + 225))] (Nat.le_of_ble_eq_true rfl) rfl ?_
  intro p e s m args below meth c C hr hlk
  have J258 : ∀ (t0 : St), f_X7_read_b258 t0 = some t9 → WW G B p l e (RM 3 67 0 0) s m args below meth c 0 0 (MQ below (PostV G B t9) args s 0 0 (Ab B)) 4 258 [(0, .ref (B + 225))] [] t0 := by
    intro t0 h
    refine j_aload_n C (q := 0) dX7_read_258 rfl rfl ?_
    refine fg_X7_32 C (i := 225) kA_225 dX7_read_259 ?_
    refine j_iconst C (v := 1) dX7_read_262 (by decide) ?_
    refine j_iconst C (v := 0) dX7_read_263 (by decide) ?_
    obtain ⟨g21, h⟩ := gd_some h
    refine j_iast C (i := 233) kA_233 (inA g21 aA_233) dX7_read_264 ?_
    refine j_tops (fun t22 et22 => ?_)
    have h := lt_at h et22
    refine j_aload_n C (q := 0) dX7_read_265 rfl rfl ?_
    refine j_bipush C (v := 94) dX7_read_266 (by decide) ?_
    obtain ⟨x23, t24, e25, h⟩ := bd_some h
    refine j_callV_i C (i := 225) (As := [.int 94]) (rest := []) (c_X7_isNext l G B dy 94 _ e25) (shp7 G B _ kA_225) (kd_lt kA_225 (by decide)) rfl tw_871 tw_873 tp_41 ti_7 tw_874 hd_X7_isNext ⟨Nat.le_of_ble_eq_true rfl, Nat.le_of_ble_eq_true rfl⟩ ⟨Nat.le_of_ble_eq_true rfl, Nat.le_of_ble_eq_true rfl⟩ rfl rfl (Nat.le_of_ble_eq_true rfl) dX7_read_268 ?_
    refine j_if_eq C (tgt := 300) dX7_read_271 (by decide) (fun c26 => ?_) (fun c26 => ?_)
    · have h := ite_t h c26
      exact j_vret C hr hlk h ⟨Nat.le_of_ble_eq_true rfl, Nat.le_of_ble_eq_true rfl⟩ dX7_read_300
    · have h := ite_f h c26
      refine j_aload_n C (q := 0) dX7_read_274 rfl rfl ?_
      refine j_bipush C (v := 94) dX7_read_275 (by decide) ?_
      refine j_bipush C (v := 94) dX7_read_277 (by decide) ?_
      obtain ⟨x27, t28, e29, h⟩ := bd_some h
      refine j_callV_i C (i := 225) (As := [.int 94, .int 94]) (rest := []) (c_X7_sign l G B dy 94 94 _ e29) (shp7 G B _ kA_225) (kd_lt kA_225 (by decide)) rfl tw_867 tw_869 tp_40 ti_7 tw_870 hd_X7_sign ⟨Nat.le_of_ble_eq_true rfl, Nat.le_of_ble_eq_true rfl⟩ ⟨Nat.le_of_ble_eq_true rfl, Nat.le_of_ble_eq_true rfl⟩ rfl rfl (Nat.le_of_ble_eq_true rfl) dX7_read_279 ?_
      refine j_istore_n C [(0, .ref (B + 225)), (2, .int x27)] [1, 0] dX7_read_282 rfl (by decide) rfl ?_
      refine j_aload_n C (q := 0) dX7_read_283 rfl rfl ?_
      refine fg_X7_32 C (i := 225) kA_225 dX7_read_284 ?_
      refine j_iconst C (v := 1) dX7_read_287 (by decide) ?_
      refine j_aload_n C (q := 0) dX7_read_288 rfl rfl ?_
      refine j_bipush C (v := 48) dX7_read_289 (by decide) ?_
      refine j_bipush C (v := 57) dX7_read_291 (by decide) ?_
      obtain ⟨x30, t31, e32, h⟩ := bd_some h
      refine j_callV_i C (i := 225) (As := [.int 48, .int 57]) (rest := [.int 1, .ref (B + 233)]) (c_X7_sign l G B dy 48 57 _ e32) (shp7 G B _ kA_225) (kd_lt kA_225 (by decide)) rfl tw_867 tw_869 tp_40 ti_7 tw_870 hd_X7_sign ⟨Nat.le_of_ble_eq_true rfl, Nat.le_of_ble_eq_true rfl⟩ ⟨Nat.le_of_ble_eq_true rfl, Nat.le_of_ble_eq_true rfl⟩ rfl rfl (Nat.le_of_ble_eq_true rfl) dX7_read_293 ?_
      refine j_bipush C (v := 48) dX7_read_296 (by decide) ?_
      refine j_isub C dX7_read_298 ?_
      obtain ⟨g33, h⟩ := gd_some h
      refine j_iast C (i := 233) kA_233 (inA g33 aA_233) dX7_read_299 ?_
      refine j_tops (fun t34 et34 => ?_)
      have h := lt_at h et34
      exact j_vret C hr hlk h ⟨Nat.le_of_ble_eq_true rfl, Nat.le_of_ble_eq_true rfl⟩ dX7_read_300
  have J183 : ∀ (y2 : Int32) (w0 : Int32) (t0 : St), f_X7_read_b183 y2 w0 t0 = some t9 → WW G B p l e (RM 3 67 0 0) s m args below meth c 0 0 (MQ below (PostV G B t9) args s 0 0 (Ab B)) 4 183 [(0, .ref (B + 225)), (2, .int y2)] [.int w0] t0 := by
    intro y2 w0 t0 h
    refine j_istore_n C [(0, .ref (B + 225)), (2, .int y2), (3, .int w0)] [1, 2, 0] dX7_read_183 rfl (by decide) rfl ?_
    refine j_aload_n C (q := 0) dX7_read_184 rfl rfl ?_
    refine fg_X7_32 C (i := 225) kA_225 dX7_read_185 ?_
    refine j_iconst C (v := 2) dX7_read_188 (by decide) ?_
    refine j_iload_n C (q := 1) dX7_read_189 rfl rfl ?_
    refine j_if_eq C (tgt := 203) dX7_read_190 (by decide) (fun c35 => ?_) (fun c35 => ?_)
    · have h := ite_t h c35
      refine j_aload_n C (q := 0) dX7_read_203 rfl rfl ?_
      refine j_bipush C (v := 90) dX7_read_204 (by decide) ?_
      obtain ⟨x36, t37, e38, h⟩ := bd_some h
      refine j_callV_i C (i := 225) (As := [.int 90]) (rest := [.int 2, .ref (B + 233)]) (c_X7_number l G B dy 90 _ e38) (shp7 G B _ kA_225) (kd_lt kA_225 (by decide)) rfl tw_875 tw_877 tp_42 ti_7 tw_878 hd_X7_number ⟨Nat.le_of_ble_eq_true rfl, Nat.le_of_ble_eq_true rfl⟩ ⟨Nat.le_of_ble_eq_true rfl, Nat.le_of_ble_eq_true rfl⟩ rfl rfl (Nat.le_of_ble_eq_true rfl) dX7_read_206 ?_
      obtain ⟨g39, h⟩ := gd_some h
      refine j_iast C (i := 233) kA_233 (inA g39 aA_233) dX7_read_209 ?_
      refine j_tops (fun t40 et40 => ?_)
      have h := lt_at h et40
      refine j_goto C (tgt := 258) dX7_read_210 (by decide) ?_
      refine j_sub [0] rfl ?_
      exact J258 _ h
    · have h := ite_f h c35
      refine j_aload_n C (q := 0) dX7_read_193 rfl rfl ?_
      refine j_bipush C (v := 90) dX7_read_194 (by decide) ?_
      obtain ⟨x41, t42, e43, h⟩ := bd_some h
      refine j_callV_i C (i := 225) (As := [.int 90]) (rest := [.int 2, .ref (B + 233)]) (c_X7_number l G B dy 90 _ e43) (shp7 G B _ kA_225) (kd_lt kA_225 (by decide)) rfl tw_875 tw_877 tp_42 ti_7 tw_878 hd_X7_number ⟨Nat.le_of_ble_eq_true rfl, Nat.le_of_ble_eq_true rfl⟩ ⟨Nat.le_of_ble_eq_true rfl, Nat.le_of_ble_eq_true rfl⟩ rfl rfl (Nat.le_of_ble_eq_true rfl) dX7_read_196 ?_
      refine j_ineg C dX7_read_199 ?_
      refine j_goto C (tgt := 209) dX7_read_200 (by decide) ?_
      obtain ⟨g44, h⟩ := gd_some h
      refine j_iast C (i := 233) kA_233 (inA g44 aA_233) dX7_read_209 ?_
      refine j_tops (fun t45 et45 => ?_)
      have h := lt_at h et45
      refine j_goto C (tgt := 258) dX7_read_210 (by decide) ?_
      refine j_sub [0] rfl ?_
      exact J258 _ h
  have J122 : ∀ (y1 : Int32) (w0 : Int32) (t0 : St), f_X7_read_b122 y1 w0 t0 = some t9 → WW G B p l e (RM 3 67 0 0) s m args below meth c 0 0 (MQ below (PostV G B t9) args s 0 0 (Ab B)) 4 122 [(0, .ref (B + 225)), (1, .int y1)] [.int w0, .int 0, .ref (B + 233)] t0 := by
    intro y1 w0 t0 h
    obtain ⟨g46, h⟩ := gd_some h
    refine j_iast C (i := 233) kA_233 (inA g46 aA_233) dX7_read_122 ?_
    refine j_tops (fun t47 et47 => ?_)
    have h := lt_at h et47
    refine j_aload_n C (q := 0) dX7_read_123 rfl rfl ?_
    refine fg_X7_32 C (i := 225) kA_225 dX7_read_124 ?_
    refine j_iconst C (v := 3) dX7_read_127 (by decide) ?_
    refine j_iconst C (v := (-1)) dX7_read_128 (by decide) ?_
    obtain ⟨g48, h⟩ := gd_some h
    refine j_iast C (i := 233) kA_233 (inA g48 aA_233) dX7_read_129 ?_
    refine j_tops (fun t49 et49 => ?_)
    have h := lt_at h et49
    refine j_iload_n C (q := 1) dX7_read_130 rfl rfl ?_
    refine j_bipush C (v := 97) dX7_read_131 (by decide) ?_
    refine j_icmp_ne C (tgt := 213) dX7_read_133 (by decide) (fun c50 => ?_) (fun c50 => ?_)
    · have h := ite_t h c50
      refine j_aload_n C (q := 0) dX7_read_136 rfl rfl ?_
      refine fg_X7_32 C (i := 225) kA_225 dX7_read_137 ?_
      refine j_iconst C (v := 3) dX7_read_140 (by decide) ?_
      refine j_aload_n C (q := 0) dX7_read_141 rfl rfl ?_
      refine j_bipush C (v := 48) dX7_read_142 (by decide) ?_
      refine j_bipush C (v := 57) dX7_read_144 (by decide) ?_
      obtain ⟨x65, t66, e67, h⟩ := bd_some h
      refine j_callV_i C (i := 225) (As := [.int 48, .int 57]) (rest := [.int 3, .ref (B + 233)]) (c_X7_sign l G B dy 48 57 _ e67) (shp7 G B _ kA_225) (kd_lt kA_225 (by decide)) rfl tw_867 tw_869 tp_40 ti_7 tw_870 hd_X7_sign ⟨Nat.le_of_ble_eq_true rfl, Nat.le_of_ble_eq_true rfl⟩ ⟨Nat.le_of_ble_eq_true rfl, Nat.le_of_ble_eq_true rfl⟩ rfl rfl (Nat.le_of_ble_eq_true rfl) dX7_read_146 ?_
      refine j_bipush C (v := 48) dX7_read_149 (by decide) ?_
      refine j_isub C dX7_read_151 ?_
      obtain ⟨g68, h⟩ := gd_some h
      refine j_iast C (i := 233) kA_233 (inA g68 aA_233) dX7_read_152 ?_
      refine j_tops (fun t69 et69 => ?_)
      have h := lt_at h et69
      refine j_aload_n C (q := 0) dX7_read_153 rfl rfl ?_
      refine j_bipush C (v := 45) dX7_read_154 (by decide) ?_
      obtain ⟨x70, t71, e72, h⟩ := bd_some h
      refine j_callV_i C (i := 225) (As := [.int 45]) (rest := []) (c_X7_isNext l G B dy 45 _ e72) (shp7 G B _ kA_225) (kd_lt kA_225 (by decide)) rfl tw_871 tw_873 tp_41 ti_7 tw_874 hd_X7_isNext ⟨Nat.le_of_ble_eq_true rfl, Nat.le_of_ble_eq_true rfl⟩ ⟨Nat.le_of_ble_eq_true rfl, Nat.le_of_ble_eq_true rfl⟩ rfl rfl (Nat.le_of_ble_eq_true rfl) dX7_read_156 ?_
      refine j_istore_n C [(0, .ref (B + 225)), (1, .int y1), (2, .int x70)] [1, 2, 0] dX7_read_159 rfl (by decide) rfl ?_
      refine j_iload_n C (q := 2) dX7_read_160 rfl rfl ?_
      refine j_if_eq C (tgt := 175) dX7_read_161 (by decide) (fun c73 => ?_) (fun c73 => ?_)
      · have h := ite_t h c73
        refine j_aload_n C (q := 0) dX7_read_175 rfl rfl ?_
        refine j_bipush C (v := 43) dX7_read_176 (by decide) ?_
        refine j_bipush C (v := 43) dX7_read_178 (by decide) ?_
        obtain ⟨x74, t75, e76, h⟩ := bd_some h
        refine j_callV_i C (i := 225) (As := [.int 43, .int 43]) (rest := []) (c_X7_sign l G B dy 43 43 _ e76) (shp7 G B _ kA_225) (kd_lt kA_225 (by decide)) rfl tw_867 tw_869 tp_40 ti_7 tw_870 hd_X7_sign ⟨Nat.le_of_ble_eq_true rfl, Nat.le_of_ble_eq_true rfl⟩ ⟨Nat.le_of_ble_eq_true rfl, Nat.le_of_ble_eq_true rfl⟩ rfl rfl (Nat.le_of_ble_eq_true rfl) dX7_read_180 ?_
        refine j_sub [0, 2] rfl ?_
        exact J183 x70 x74 _ h
      · have h := ite_f h c73
        refine j_aload_n C (q := 0) dX7_read_164 rfl rfl ?_
        refine j_bipush C (v := 45) dX7_read_165 (by decide) ?_
        refine j_bipush C (v := 45) dX7_read_167 (by decide) ?_
        obtain ⟨x77, t78, e79, h⟩ := bd_some h
        refine j_callV_i C (i := 225) (As := [.int 45, .int 45]) (rest := []) (c_X7_sign l G B dy 45 45 _ e79) (shp7 G B _ kA_225) (kd_lt kA_225 (by decide)) rfl tw_867 tw_869 tp_40 ti_7 tw_870 hd_X7_sign ⟨Nat.le_of_ble_eq_true rfl, Nat.le_of_ble_eq_true rfl⟩ ⟨Nat.le_of_ble_eq_true rfl, Nat.le_of_ble_eq_true rfl⟩ rfl rfl (Nat.le_of_ble_eq_true rfl) dX7_read_169 ?_
        refine j_goto C (tgt := 183) dX7_read_172 (by decide) ?_
        refine j_sub [0, 2] rfl ?_
        exact J183 x70 x77 _ h
    · have h := ite_f h c50
      refine j_aload_n C (q := 0) dX7_read_213 rfl rfl ?_
      refine fg_X7_32 C (i := 225) kA_225 dX7_read_214 ?_
      refine j_iconst C (v := 2) dX7_read_217 (by decide) ?_
      refine j_aload_n C (q := 0) dX7_read_218 rfl rfl ?_
      refine j_sipush C (v := 365) dX7_read_219 (by decide) ?_
      obtain ⟨x51, t52, e53, h⟩ := bd_some h
      refine j_callV_i C (i := 225) (As := [.int 365]) (rest := [.int 2, .ref (B + 233)]) (c_X7_number l G B dy 365 _ e53) (shp7 G B _ kA_225) (kd_lt kA_225 (by decide)) rfl tw_875 tw_877 tp_42 ti_7 tw_878 hd_X7_number ⟨Nat.le_of_ble_eq_true rfl, Nat.le_of_ble_eq_true rfl⟩ ⟨Nat.le_of_ble_eq_true rfl, Nat.le_of_ble_eq_true rfl⟩ rfl rfl (Nat.le_of_ble_eq_true rfl) dX7_read_222 ?_
      obtain ⟨g54, h⟩ := gd_some h
      refine j_iast C (i := 233) kA_233 (inA g54 aA_233) dX7_read_225 ?_
      refine j_tops (fun t55 et55 => ?_)
      have h := lt_at h et55
      refine j_iload_n C (q := 1) dX7_read_226 rfl rfl ?_
      refine j_bipush C (v := 100) dX7_read_227 (by decide) ?_
      refine j_icmp_eq C (tgt := 258) dX7_read_229 (by decide) (fun c56 => ?_) (fun c56 => ?_)
      · have h := ite_t h c56
        refine j_sub [0] rfl ?_
        exact J258 _ h
      · have h := ite_f h c56
        refine j_aload_n C (q := 0) dX7_read_232 rfl rfl ?_
        refine j_bipush C (v := 44) dX7_read_233 (by decide) ?_
        refine j_bipush C (v := 44) dX7_read_235 (by decide) ?_
        obtain ⟨x57, t58, e59, h⟩ := bd_some h
        refine j_callV_i C (i := 225) (As := [.int 44, .int 44]) (rest := []) (c_X7_sign l G B dy 44 44 _ e59) (shp7 G B _ kA_225) (kd_lt kA_225 (by decide)) rfl tw_867 tw_869 tp_40 ti_7 tw_870 hd_X7_sign ⟨Nat.le_of_ble_eq_true rfl, Nat.le_of_ble_eq_true rfl⟩ ⟨Nat.le_of_ble_eq_true rfl, Nat.le_of_ble_eq_true rfl⟩ rfl rfl (Nat.le_of_ble_eq_true rfl) dX7_read_237 ?_
        refine j_istore_n C [(0, .ref (B + 225)), (1, .int y1), (2, .int x57)] [1, 2, 0] dX7_read_240 rfl (by decide) rfl ?_
        refine j_aload_n C (q := 0) dX7_read_241 rfl rfl ?_
        refine fg_X7_32 C (i := 225) kA_225 dX7_read_242 ?_
        refine j_iconst C (v := 3) dX7_read_245 (by decide) ?_
        refine j_aload_n C (q := 0) dX7_read_246 rfl rfl ?_
        refine j_bipush C (v := 48) dX7_read_247 (by decide) ?_
        refine j_bipush C (v := 54) dX7_read_249 (by decide) ?_
        obtain ⟨x60, t61, e62, h⟩ := bd_some h
        refine j_callV_i C (i := 225) (As := [.int 48, .int 54]) (rest := [.int 3, .ref (B + 233)]) (c_X7_sign l G B dy 48 54 _ e62) (shp7 G B _ kA_225) (kd_lt kA_225 (by decide)) rfl tw_867 tw_869 tp_40 ti_7 tw_870 hd_X7_sign ⟨Nat.le_of_ble_eq_true rfl, Nat.le_of_ble_eq_true rfl⟩ ⟨Nat.le_of_ble_eq_true rfl, Nat.le_of_ble_eq_true rfl⟩ rfl rfl (Nat.le_of_ble_eq_true rfl) dX7_read_251 ?_
        refine j_bipush C (v := 48) dX7_read_254 (by decide) ?_
        refine j_isub C dX7_read_256 ?_
        obtain ⟨g63, h⟩ := gd_some h
        refine j_iast C (i := 233) kA_233 (inA g63 aA_233) dX7_read_257 ?_
        refine j_tops (fun t64 et64 => ?_)
        have h := lt_at h et64
        refine j_sub [0] rfl ?_
        exact J258 _ h
  have J82 : ∀ (y1 : Int32) (w0 : Int32) (w1 : Int32) (t0 : St), f_X7_read_b82 y1 w0 w1 t0 = some t9 → WW G B p l e (RM 3 67 0 0) s m args below meth c 0 0 (MQ below (PostV G B t9) args s 0 0 (Ab B)) 4 82 [(0, .ref (B + 225)), (1, .int y1)] [.int w0, .int w1, .ref (B + 225)] t0 := by
    intro y1 w0 w1 t0 h
    refine j_iadd C dX7_read_82 ?_
    refine fp_X7_84 C (i := 225) kA_225 dX7_read_83 ?_
    refine j_tops (fun t80 et80 => ?_)
    have h := lt_at h et80
    refine j_aload_n C (q := 0) dX7_read_86 rfl rfl ?_
    refine fg_X7_32 C (i := 225) kA_225 dX7_read_87 ?_
    refine j_iconst C (v := 0) dX7_read_90 (by decide) ?_
    refine j_iload_n C (q := 1) dX7_read_91 rfl rfl ?_
    refine j_bipush C (v := 100) dX7_read_92 (by decide) ?_
    refine j_icmp_ne C (tgt := 101) dX7_read_94 (by decide) (fun c81 => ?_) (fun c81 => ?_)
    · have h := ite_t h c81
      refine j_iconst C (v := 0) dX7_read_97 (by decide) ?_
      refine j_goto C (tgt := 122) dX7_read_98 (by decide) ?_
      exact J122 y1 0 _ h
    · have h := ite_f h c81
      refine j_iload_n C (q := 1) dX7_read_101 rfl rfl ?_
      refine j_bipush C (v := 119) dX7_read_102 (by decide) ?_
      refine j_icmp_ne C (tgt := 111) dX7_read_104 (by decide) (fun c82 => ?_) (fun c82 => ?_)
      · have h := ite_t h c82
        refine j_iconst C (v := 1) dX7_read_107 (by decide) ?_
        refine j_goto C (tgt := 122) dX7_read_108 (by decide) ?_
        exact J122 y1 1 _ h
      · have h := ite_f h c82
        refine j_iload_n C (q := 1) dX7_read_111 rfl rfl ?_
        refine j_bipush C (v := 109) dX7_read_112 (by decide) ?_
        refine j_icmp_ne C (tgt := 121) dX7_read_114 (by decide) (fun c83 => ?_) (fun c83 => ?_)
        · have h := ite_t h c83
          refine j_iconst C (v := 2) dX7_read_117 (by decide) ?_
          refine j_goto C (tgt := 122) dX7_read_118 (by decide) ?_
          exact J122 y1 2 _ h
        · have h := ite_f h c83
          refine j_iconst C (v := 3) dX7_read_121 (by decide) ?_
          exact J122 y1 3 _ h
  have J62 : ∀ (y1 : Int32) (w0 : Int32) (t0 : St), f_X7_read_b62 y1 w0 t0 = some t9 → WW G B p l e (RM 3 67 0 0) s m args below meth c 0 0 (MQ below (PostV G B t9) args s 0 0 (Ab B)) 4 62 [(0, .ref (B + 225)), (1, .int y1)] [.int w0, .ref (B + 225)] t0 := by
    intro y1 w0 t0 h
    obtain ⟨g85, h⟩ := gd_some h
    refine fp_X7_87 C (i := 225) kA_225 (is01_or g85) dX7_read_62 ?_
    refine j_tops (fun t84 et84 => ?_)
    have h := lt_at h et84
    refine j_aload_n C (q := 0) dX7_read_65 rfl rfl ?_
    refine j_dup C dX7_read_66 rfl ?_
    refine fg_X7_84 C (i := 225) kA_225 dX7_read_67 ?_
    refine j_aload_n C (q := 0) dX7_read_70 rfl rfl ?_
    refine fg_X7_87 C (i := 225) kA_225 dX7_read_71 ?_
    refine j_if_eq C (tgt := 81) dX7_read_74 (by decide) (fun c86 => ?_) (fun c86 => ?_)
    · have h := ite_t h c86
      refine j_iconst C (v := 1) dX7_read_81 (by decide) ?_
      exact J82 y1 1 (t84.1 225 10) _ h
    · have h := ite_f h c86
      refine j_iconst C (v := 0) dX7_read_77 (by decide) ?_
      refine j_goto C (tgt := 82) dX7_read_78 (by decide) ?_
      exact J82 y1 0 (t84.1 225 10) _ h
  have J61 : ∀ (y1 : Int32) (t0 : St), f_X7_read_b61 y1 t0 = some t9 → WW G B p l e (RM 3 67 0 0) s m args below meth c 0 0 (MQ below (PostV G B t9) args s 0 0 (Ab B)) 4 61 [(0, .ref (B + 225)), (1, .int y1)] [.ref (B + 225)] t0 := by
    intro y1 t0 h
    refine j_iconst C (v := 0) dX7_read_61 (by decide) ?_
    exact J62 y1 0 _ h
  have J24 : ∀ (w0 : Int32) (t0 : St), f_X7_read_b24 w0 t0 = some t9 → WW G B p l e (RM 3 67 0 0) s m args below meth c 0 0 (MQ below (PostV G B t9) args s 0 0 (Ab B)) 4 24 [(0, .ref (B + 225))] [.int w0] t0 := by
    intro w0 t0 h
    refine j_istore_n C [(0, .ref (B + 225)), (1, .int w0)] [1, 0] dX7_read_24 rfl (by decide) rfl ?_
    refine j_aload_n C (q := 0) dX7_read_25 rfl rfl ?_
    refine j_aload_n C (q := 0) dX7_read_26 rfl rfl ?_
    refine fg_X7_87 C (i := 225) kA_225 dX7_read_27 ?_
    refine j_if_ne C (tgt := 57) dX7_read_30 (by decide) (fun c87 => ?_) (fun c87 => ?_)
    · have h := ite_t h c87
      refine j_iload_n C (q := 1) dX7_read_33 rfl rfl ?_
      refine j_bipush C (v := 100) dX7_read_34 (by decide) ?_
      refine j_icmp_eq C (tgt := 61) dX7_read_36 (by decide) (fun c88 => ?_) (fun c88 => ?_)
      · have h := ite_t h c88
        exact J61 w0 _ h
      · have h := ite_f h c88
        refine j_iload_n C (q := 1) dX7_read_39 rfl rfl ?_
        refine j_bipush C (v := 119) dX7_read_40 (by decide) ?_
        refine j_icmp_eq C (tgt := 61) dX7_read_42 (by decide) (fun c89 => ?_) (fun c89 => ?_)
        · have h := ite_t h c89
          exact J61 w0 _ h
        · have h := ite_f h c89
          refine j_iload_n C (q := 1) dX7_read_45 rfl rfl ?_
          refine j_bipush C (v := 109) dX7_read_46 (by decide) ?_
          refine j_icmp_eq C (tgt := 61) dX7_read_48 (by decide) (fun c90 => ?_) (fun c90 => ?_)
          · have h := ite_t h c90
            exact J61 w0 _ h
          · have h := ite_f h c90
            refine j_iload_n C (q := 1) dX7_read_51 rfl rfl ?_
            refine j_bipush C (v := 97) dX7_read_52 (by decide) ?_
            refine j_icmp_eq C (tgt := 61) dX7_read_54 (by decide) (fun c91 => ?_) (fun c91 => ?_)
            · have h := ite_t h c91
              exact J61 w0 _ h
            · have h := ite_f h c91
              refine j_iconst C (v := 1) dX7_read_57 (by decide) ?_
              refine j_goto C (tgt := 62) dX7_read_58 (by decide) ?_
              exact J62 w0 1 _ h
    · have h := ite_f h c87
      refine j_iconst C (v := 1) dX7_read_57 (by decide) ?_
      refine j_goto C (tgt := 62) dX7_read_58 (by decide) ?_
      exact J62 w0 1 _ h
  refine j_aload_n C (q := 0) dX7_read_0 rfl rfl ?_
  refine fg_X7_84 C (i := 225) kA_225 dX7_read_1 ?_
  refine j_aload_n C (q := 0) dX7_read_4 rfl rfl ?_
  refine fg_X7_77 C (i := 225) kA_225 dX7_read_5 ?_
  refine j_icmp_ge C (tgt := 23) dX7_read_8 (by decide) (fun c92 => ?_) (fun c92 => ?_)
  · have h := ite_t h c92
    refine j_iconst C (v := 0) dX7_read_23 (by decide) ?_
    exact J24 0 _ h
  · have h := ite_f h c92
    refine j_aload_n C (q := 0) dX7_read_11 rfl rfl ?_
    refine fg_X7_16 C (i := 225) kA_225 dX7_read_12 ?_
    refine j_aload_n C (q := 0) dX7_read_15 rfl rfl ?_
    refine fg_X7_84 C (i := 225) kA_225 dX7_read_16 ?_
    obtain ⟨g93, h⟩ := gd_some h
    refine j_iald C (i := 228) kA_228 (inA g93 aA_228) dX7_read_19 ?_
    refine j_goto C (tgt := 24) dX7_read_20 (by decide) ?_
    exact J24 (t0.1 228 (tc (t0.1 225 10))) _ h
set_option maxRecDepth 100000 in
set_option maxHeartbeats 4000000 in
theorem c_X7_adds (l : Launch) (G : GG) (B dy : Nat) (t0 : St) {r : Int32} {t9 : St} (h : f_X7_adds t0 = some (r, t9)) : Ct l G B dy yX7_adds cX7_adds 4 (some .boolean) 1 21 0 0 [.ref (B + 225)] t0 (PostI G B r t9) := by
  refine Ct_of (by decide +kernel) [(0, .ref (B + 225))] (Nat.le_of_ble_eq_true rfl) rfl ?_
  intro p e s m args below meth c C hr hlk
  have J72 : ∀ (y2 : Int32) (t0 : St), f_X7_adds_b72 y2 t0 = some (r, t9) → WW G B p l e (RM 1 21 0 0) s m args below meth c 0 0 (MQ below (PostI G B r t9) args s 0 0 (Ab B)) 4 72 [(0, .ref (B + 225)), (2, .int y2)] [] t0 := by
    intro y2 t0 h
    refine j_aload_n C (q := 0) dX7_adds_72 rfl rfl ?_
    refine fg_X7_7 C (i := 225) kA_225 dX7_adds_73 ?_
    refine j_iconst C (v := 0) dX7_adds_76 (by decide) ?_
    refine j_dup2 C dX7_adds_77 rfl rfl ?_
    obtain ⟨g21, h⟩ := gd_some h
    refine j_iald C (i := 226) kA_226 (inA g21 aA_226) dX7_adds_78 ?_
    refine j_iload_n C (q := 1) dX7_adds_79 rfl rfl ?_
    refine j_if_eq C (tgt := 87) dX7_adds_80 (by decide) (fun c22 => ?_) (fun c22 => ?_)
    · have h := ite_t h c22
      refine j_iconst C (v := 0) dX7_adds_87 (by decide) ?_
      refine j_iadd C dX7_adds_88 ?_
      obtain ⟨g23, h⟩ := gd_some h
      refine j_iast C (i := 226) kA_226 (inA g23 aA_226) dX7_adds_89 ?_
      refine j_tops (fun t24 et24 => ?_)
      have h := lt_at h et24
      refine j_iload_n C (q := 1) dX7_adds_90 rfl rfl ?_
      obtain ⟨g25, h⟩ := gd_some h
      exact j_zret C hr hlk (is01_or g25) h ⟨Nat.le_of_ble_eq_true rfl, Nat.le_of_ble_eq_true rfl⟩ dX7_adds_91
    · have h := ite_f h c22
      refine j_iconst C (v := 1) dX7_adds_83 (by decide) ?_
      refine j_goto C (tgt := 88) dX7_adds_84 (by decide) ?_
      refine j_iadd C dX7_adds_88 ?_
      obtain ⟨g26, h⟩ := gd_some h
      refine j_iast C (i := 226) kA_226 (inA g26 aA_226) dX7_adds_89 ?_
      refine j_tops (fun t27 et27 => ?_)
      have h := lt_at h et27
      refine j_iload_n C (q := 1) dX7_adds_90 rfl rfl ?_
      obtain ⟨g28, h⟩ := gd_some h
      exact j_zret C hr hlk (is01_or g28) h ⟨Nat.le_of_ble_eq_true rfl, Nat.le_of_ble_eq_true rfl⟩ dX7_adds_91
  have J41 : ∀ (n41 : Nat) (y1 : Int32) (y2 : Int32) (y3 : Int32) (t0 : St), f_X7_adds_l41 n41 y1 y2 y3 t0 = some (r, t9) → WW G B p l e (RM 1 21 0 0) s m args below meth c 0 0 (MQ below (PostI G B r t9) args s 0 0 (Ab B)) 4 41 [(0, .ref (B + 225)), (1, .int y1), (2, .int y2), (3, .int y3)] [] t0 := by
    intro n41
    induction n41 with
    | zero => intro y1 y2 y3 t0 h; exact (no_some h).elim
    | succ n41 ih41 =>
      try clear h
      intro y1 y2 y3 t0 h
      have h : f_X7_adds_b41 (f_X7_adds_l41 n41) y1 y2 y3 t0 = some (r, t9) := h
      refine j_iload_n C (q := 3) dX7_adds_41 rfl rfl ?_
      refine j_iconst C (v := 4) dX7_adds_42 (by decide) ?_
      refine j_icmp_ge C (tgt := 72) dX7_adds_43 (by decide) (fun c29 => ?_) (fun c29 => ?_)
      · have h := ite_t h c29
        refine j_sub [0, 2] rfl ?_
        exact J72 y2 _ h
      · have h := ite_f h c29
        refine j_iload_n C (q := 2) dX7_adds_46 rfl rfl ?_
        refine j_if_eq C (tgt := 72) dX7_adds_47 (by decide) (fun c30 => ?_) (fun c30 => ?_)
        · have h := ite_t h c30
          refine j_sub [0, 2] rfl ?_
          exact J72 y2 _ h
        · have h := ite_f h c30
          refine j_aload_n C (q := 0) dX7_adds_50 rfl rfl ?_
          refine fg_X7_7 C (i := 225) kA_225 dX7_adds_51 ?_
          refine j_iload_n C (q := 1) dX7_adds_54 rfl rfl ?_
          refine j_iload_n C (q := 3) dX7_adds_55 rfl rfl ?_
          obtain ⟨x31, t32, e33, h⟩ := bd_some h
          refine j_callS_i C (i := 0) (As := [.int y1, .int y3]) (rest := [.ref (B + 226)]) (c_X7_of l G B dy y1 y3 _ e33) tw_883 tw_884 ti_7 tw_885 ⟨rfl, hd_X7_of⟩ ⟨Nat.le_of_ble_eq_true rfl, Nat.le_of_ble_eq_true rfl⟩ ⟨Nat.le_of_ble_eq_true rfl, Nat.le_of_ble_eq_true rfl⟩ rfl rfl (Nat.le_of_ble_eq_true rfl) dX7_adds_56 ?_
          refine j_aload_n C (q := 0) dX7_adds_59 rfl rfl ?_
          refine fg_X7_32 C (i := 225) kA_225 dX7_adds_60 ?_
          refine j_iload_n C (q := 3) dX7_adds_63 rfl rfl ?_
          obtain ⟨g34, h⟩ := gd_some h
          refine j_iald C (i := 233) kA_233 (inA g34 aA_233) dX7_adds_64 ?_
          obtain ⟨g35, h⟩ := gd_some h
          refine j_iast C (i := 226) kA_226 (inA g35 aA_226) dX7_adds_65 ?_
          refine j_tops (fun t36 et36 => ?_)
          have h := lt_at h et36
          obtain ⟨x37, ex37⟩ : ∃ y : Int32, y = (y3 + 1) := ⟨_, rfl⟩
          have h := lt_at h ex37
          refine j_iinc C (q := 3) [(0, .ref (B + 225)), (1, .int y1), (2, .int y2), (3, .int x37)] [1, 2, 3, 0] dX7_adds_66 rfl (by rw [ex37]; rfl) (by decide) rfl ?_
          refine j_goto C (tgt := 41) dX7_adds_69 (by decide) ?_
          exact ih41 y1 y2 x37 _ h
  refine j_aload_n C (q := 0) dX7_adds_0 rfl rfl ?_
  refine fg_X7_7 C (i := 225) kA_225 dX7_adds_1 ?_
  refine j_iconst C (v := 0) dX7_adds_4 (by decide) ?_
  obtain ⟨g38, h⟩ := gd_some h
  refine j_iald C (i := 226) kA_226 (inA g38 aA_226) dX7_adds_5 ?_
  refine j_topi (fun x39 ex39 => ?_)
  have h := lt_at h ex39
  refine j_istore_n C [(0, .ref (B + 225)), (1, .int x39)] [1, 0] dX7_adds_6 rfl (by decide) rfl ?_
  refine j_iload_n C (q := 1) dX7_adds_7 rfl rfl ?_
  refine j_bipush C (v := 10) dX7_adds_8 (by decide) ?_
  refine j_icmp_ge C (tgt := 37) dX7_adds_10 (by decide) (fun c40 => ?_) (fun c40 => ?_)
  · have h := ite_t h c40
    refine j_iconst C (v := 0) dX7_adds_37 (by decide) ?_
    refine j_istore_n C [(0, .ref (B + 225)), (1, .int x39), (2, .int 0)] [1, 2, 0] dX7_adds_38 rfl (by decide) rfl ?_
    refine j_iconst C (v := 0) dX7_adds_39 (by decide) ?_
    refine j_istore_n C [(0, .ref (B + 225)), (1, .int x39), (2, .int 0), (3, .int 0)] [1, 2, 3, 0] dX7_adds_40 rfl (by decide) rfl ?_
    exact J41 FU x39 0 0 _ h
  · have h := ite_f h c40
    refine j_aload_n C (q := 0) dX7_adds_13 rfl rfl ?_
    refine fg_X7_32 C (i := 225) kA_225 dX7_adds_14 ?_
    refine j_iconst C (v := 0) dX7_adds_17 (by decide) ?_
    obtain ⟨g41, h⟩ := gd_some h
    refine j_iald C (i := 233) kA_233 (inA g41 aA_233) dX7_adds_18 ?_
    refine j_iconst C (v := 3) dX7_adds_19 (by decide) ?_
    refine j_icmp_ne C (tgt := 33) dX7_adds_20 (by decide) (fun c42 => ?_) (fun c42 => ?_)
    · have h := ite_t h c42
      refine j_aload_n C (q := 0) dX7_adds_23 rfl rfl ?_
      refine fg_X7_32 C (i := 225) kA_225 dX7_adds_24 ?_
      refine j_iconst C (v := 3) dX7_adds_27 (by decide) ?_
      obtain ⟨g43, h⟩ := gd_some h
      refine j_iald C (i := 233) kA_233 (inA g43 aA_233) dX7_adds_28 ?_
      refine j_iload_n C (q := 1) dX7_adds_29 rfl rfl ?_
      refine j_icmp_ge C (tgt := 37) dX7_adds_30 (by decide) (fun c44 => ?_) (fun c44 => ?_)
      · have h := ite_t h c44
        refine j_iconst C (v := 0) dX7_adds_37 (by decide) ?_
        refine j_istore_n C [(0, .ref (B + 225)), (1, .int x39), (2, .int 0)] [1, 2, 0] dX7_adds_38 rfl (by decide) rfl ?_
        refine j_iconst C (v := 0) dX7_adds_39 (by decide) ?_
        refine j_istore_n C [(0, .ref (B + 225)), (1, .int x39), (2, .int 0), (3, .int 0)] [1, 2, 3, 0] dX7_adds_40 rfl (by decide) rfl ?_
        exact J41 FU x39 0 0 _ h
      · have h := ite_f h c44
        refine j_iconst C (v := 1) dX7_adds_33 (by decide) ?_
        refine j_goto C (tgt := 38) dX7_adds_34 (by decide) ?_
        refine j_istore_n C [(0, .ref (B + 225)), (1, .int x39), (2, .int 1)] [1, 2, 0] dX7_adds_38 rfl (by decide) rfl ?_
        refine j_iconst C (v := 0) dX7_adds_39 (by decide) ?_
        refine j_istore_n C [(0, .ref (B + 225)), (1, .int x39), (2, .int 1), (3, .int 0)] [1, 2, 3, 0] dX7_adds_40 rfl (by decide) rfl ?_
        exact J41 FU x39 1 0 _ h
    · have h := ite_f h c42
      refine j_iconst C (v := 1) dX7_adds_33 (by decide) ?_
      refine j_goto C (tgt := 38) dX7_adds_34 (by decide) ?_
      refine j_istore_n C [(0, .ref (B + 225)), (1, .int x39), (2, .int 1)] [1, 2, 0] dX7_adds_38 rfl (by decide) rfl ?_
      refine j_iconst C (v := 0) dX7_adds_39 (by decide) ?_
      refine j_istore_n C [(0, .ref (B + 225)), (1, .int x39), (2, .int 1), (3, .int 0)] [1, 2, 3, 0] dX7_adds_40 rfl (by decide) rfl ?_
      exact J41 FU x39 1 0 _ h
set_option maxRecDepth 100000 in
set_option maxHeartbeats 4000000 in
theorem c_X7_go (l : Launch) (G : GG) (B dy : Nat) (x1 : Int32) (t0 : St) {r : Int32} {t9 : St} (h : f_X7_go x1 t0 = some (r, t9)) : Ct l G B dy yX7_go cX7_go 6 (some .int) 4 90 0 0 [.ref (B + 225), .int x1] t0 (PostI G B r t9) := by
  refine Ct_of (by decide +kernel) [(0, .ref (B + 225)), (1, .int x1)] (Nat.le_of_ble_eq_true rfl) rfl ?_
  intro p e s m args below meth c C hr hlk
  have J14 : ∀ (n14 : Nat) (y2 : Int32) (y3 : Int32) (t0 : St), f_X7_go_l14 n14 x1 y2 y3 t0 = some (r, t9) → WW G B p l e (RM 4 90 0 0) s m args below meth c 0 0 (MQ below (PostI G B r t9) args s 0 0 (Ab B)) 6 14 [(0, .ref (B + 225)), (1, .int x1), (2, .int y2), (3, .int y3)] [] t0 := by
    intro n14
    induction n14 with
    | zero => intro y2 y3 t0 h; exact (no_some h).elim
    | succ n14 ih14 =>
      try clear h
      have J85 : ∀ (y2 : Int32) (w0 : Int32) (t0 : St), f_X7_go_b85 (f_X7_go_l14 n14) x1 y2 w0 t0 = some (r, t9) → WW G B p l e (RM 4 90 0 0) s m args below meth c 0 0 (MQ below (PostI G B r t9) args s 0 0 (Ab B)) 6 85 [(0, .ref (B + 225)), (1, .int x1), (2, .int y2)] [.int w0] t0 := by
        intro y2 w0 t0 h
        refine j_istore_n C [(0, .ref (B + 225)), (1, .int x1), (2, .int y2), (3, .int w0)] [1, 2, 3, 0] dX7_go_85 rfl (by decide) rfl ?_
        refine j_iload_n C (q := 3) dX7_go_86 rfl rfl ?_
        refine j_if_eq C (tgt := 113) dX7_go_87 (by decide) (fun c21 => ?_) (fun c21 => ?_)
        · have h := ite_t h c21
          refine j_goto C (tgt := 14) dX7_go_113 (by decide) ?_
          exact ih14 y2 w0 _ h
        · have h := ite_f h c21
          refine j_aload_n C (q := 0) dX7_go_90 rfl rfl ?_
          refine j_bipush C (v := 59) dX7_go_91 (by decide) ?_
          refine j_bipush C (v := 59) dX7_go_93 (by decide) ?_
          obtain ⟨x22, t23, e24, h⟩ := bd_some h
          refine j_callV_i C (i := 225) (As := [.int 59, .int 59]) (rest := []) (c_X7_sign l G B dy 59 59 _ e24) (shp7 G B _ kA_225) (kd_lt kA_225 (by decide)) rfl tw_867 tw_869 tp_40 ti_7 tw_870 hd_X7_sign ⟨Nat.le_of_ble_eq_true rfl, Nat.le_of_ble_eq_true rfl⟩ ⟨Nat.le_of_ble_eq_true rfl, Nat.le_of_ble_eq_true rfl⟩ rfl rfl (Nat.le_of_ble_eq_true rfl) dX7_go_95 ?_
          refine j_istore C [(0, .ref (B + 225)), (1, .int x1), (2, .int y2), (3, .int w0), (5, .int x22)] [1, 2, 3, 4, 0] dX7_go_98 (by decide) rfl ?_
          refine j_aload_n C (q := 0) dX7_go_100 rfl rfl ?_
          refine fg_X7_87 C (i := 225) kA_225 dX7_go_101 ?_
          refine j_if_ne C (tgt := 111) dX7_go_104 (by decide) (fun c25 => ?_) (fun c25 => ?_)
          · have h := ite_t h c25
            refine j_iconst C (v := 1) dX7_go_107 (by decide) ?_
            refine j_goto C (tgt := 112) dX7_go_108 (by decide) ?_
            refine j_istore_n C [(0, .ref (B + 225)), (1, .int x1), (2, .int y2), (3, .int 1), (5, .int x22)] [1, 2, 3, 0, 4] dX7_go_112 rfl (by decide) rfl ?_
            refine j_goto C (tgt := 14) dX7_go_113 (by decide) ?_
            refine j_sub [0, 1, 2, 3] rfl ?_
            exact ih14 y2 1 _ h
          · have h := ite_f h c25
            refine j_iconst C (v := 0) dX7_go_111 (by decide) ?_
            refine j_istore_n C [(0, .ref (B + 225)), (1, .int x1), (2, .int y2), (3, .int 0), (5, .int x22)] [1, 2, 3, 0, 4] dX7_go_112 rfl (by decide) rfl ?_
            refine j_goto C (tgt := 14) dX7_go_113 (by decide) ?_
            refine j_sub [0, 1, 2, 3] rfl ?_
            exact ih14 y2 0 _ h
      have J84 : ∀ (y2 : Int32) (t0 : St), f_X7_go_b84 (f_X7_go_l14 n14) x1 y2 t0 = some (r, t9) → WW G B p l e (RM 4 90 0 0) s m args below meth c 0 0 (MQ below (PostI G B r t9) args s 0 0 (Ab B)) 6 84 [(0, .ref (B + 225)), (1, .int x1), (2, .int y2)] [] t0 := by
        intro y2 t0 h
        refine j_iconst C (v := 0) dX7_go_84 (by decide) ?_
        exact J85 y2 0 _ h
      have J69 : ∀ (y2 : Int32) (t0 : St), f_X7_go_b69 (f_X7_go_l14 n14) x1 y2 t0 = some (r, t9) → WW G B p l e (RM 4 90 0 0) s m args below meth c 0 0 (MQ below (PostI G B r t9) args s 0 0 (Ab B)) 6 69 [(0, .ref (B + 225)), (1, .int x1), (2, .int y2)] [] t0 := by
        intro y2 t0 h
        refine j_aload_n C (q := 0) dX7_go_69 rfl rfl ?_
        refine fg_X7_84 C (i := 225) kA_225 dX7_go_70 ?_
        refine j_aload_n C (q := 0) dX7_go_73 rfl rfl ?_
        refine fg_X7_77 C (i := 225) kA_225 dX7_go_74 ?_
        refine j_icmp_ge C (tgt := 84) dX7_go_77 (by decide) (fun c26 => ?_) (fun c26 => ?_)
        · have h := ite_t h c26
          exact J84 y2 _ h
        · have h := ite_f h c26
          refine j_iconst C (v := 1) dX7_go_80 (by decide) ?_
          refine j_goto C (tgt := 85) dX7_go_81 (by decide) ?_
          exact J85 y2 1 _ h
      have J51 : ∀ (y4 : Int32) (w0 : Int32) (w1 : Int32) (t0 : St), f_X7_go_b51 (f_X7_go_l14 n14) x1 y4 w0 w1 t0 = some (r, t9) → WW G B p l e (RM 4 90 0 0) s m args below meth c 0 0 (MQ below (PostI G B r t9) args s 0 0 (Ab B)) 6 51 [(0, .ref (B + 225)), (1, .int x1), (4, .int y4)] [.int w0, .int w1] t0 := by
        intro y4 w0 w1 t0 h
        refine j_iadd C dX7_go_51 ?_
        refine j_topi (fun x27 ex27 => ?_)
        have h := lt_at h ex27
        refine j_istore_n C [(0, .ref (B + 225)), (1, .int x1), (2, .int x27), (4, .int y4)] [1, 2, 0, 3] dX7_go_52 rfl (by decide) rfl ?_
        refine j_aload_n C (q := 0) dX7_go_53 rfl rfl ?_
        refine fg_X7_87 C (i := 225) kA_225 dX7_go_54 ?_
        refine j_if_ne C (tgt := 84) dX7_go_57 (by decide) (fun c28 => ?_) (fun c28 => ?_)
        · have h := ite_t h c28
          refine j_iload C (q := 3) dX7_go_60 rfl ?_
          refine j_if_ne C (tgt := 69) dX7_go_62 (by decide) (fun c29 => ?_) (fun c29 => ?_)
          · have h := ite_t h c29
            refine j_iload_n C (q := 1) dX7_go_65 rfl rfl ?_
            refine j_if_ne C (tgt := 84) dX7_go_66 (by decide) (fun c30 => ?_) (fun c30 => ?_)
            · have h := ite_t h c30
              refine j_sub [0, 1, 2] rfl ?_
              exact J69 x27 _ h
            · have h := ite_f h c30
              refine j_sub [0, 1, 2] rfl ?_
              exact J84 x27 _ h
          · have h := ite_f h c29
            refine j_sub [0, 1, 2] rfl ?_
            exact J69 x27 _ h
        · have h := ite_f h c28
          refine j_sub [0, 1, 2] rfl ?_
          exact J84 x27 _ h
      have J38 : ∀ (y2 : Int32) (w0 : Int32) (t0 : St), f_X7_go_b38 (f_X7_go_l14 n14) x1 y2 w0 t0 = some (r, t9) → WW G B p l e (RM 4 90 0 0) s m args below meth c 0 0 (MQ below (PostI G B r t9) args s 0 0 (Ab B)) 6 38 [(0, .ref (B + 225)), (1, .int x1), (2, .int y2)] [.int w0] t0 := by
        intro y2 w0 t0 h
        refine j_istore C [(0, .ref (B + 225)), (1, .int x1), (2, .int y2), (4, .int w0)] [1, 2, 3, 0] dX7_go_38 (by decide) rfl ?_
        refine j_iload_n C (q := 2) dX7_go_40 rfl rfl ?_
        refine j_iload C (q := 3) dX7_go_41 rfl ?_
        refine j_if_eq C (tgt := 50) dX7_go_43 (by decide) (fun c31 => ?_) (fun c31 => ?_)
        · have h := ite_t h c31
          refine j_iconst C (v := 0) dX7_go_50 (by decide) ?_
          refine j_sub [0, 1, 3] rfl ?_
          exact J51 w0 0 y2 _ h
        · have h := ite_f h c31
          refine j_iconst C (v := 1) dX7_go_46 (by decide) ?_
          refine j_goto C (tgt := 51) dX7_go_47 (by decide) ?_
          refine j_sub [0, 1, 3] rfl ?_
          exact J51 w0 1 y2 _ h
      have J37 : ∀ (y2 : Int32) (t0 : St), f_X7_go_b37 (f_X7_go_l14 n14) x1 y2 t0 = some (r, t9) → WW G B p l e (RM 4 90 0 0) s m args below meth c 0 0 (MQ below (PostI G B r t9) args s 0 0 (Ab B)) 6 37 [(0, .ref (B + 225)), (1, .int x1), (2, .int y2)] [] t0 := by
        intro y2 t0 h
        refine j_iconst C (v := 0) dX7_go_37 (by decide) ?_
        exact J38 y2 0 _ h
      intro y2 y3 t0 h
      have h : f_X7_go_b14 (f_X7_go_l14 n14) x1 y2 y3 t0 = some (r, t9) := h
      refine j_iload_n C (q := 3) dX7_go_14 rfl rfl ?_
      refine j_if_eq C (tgt := 116) dX7_go_15 (by decide) (fun c32 => ?_) (fun c32 => ?_)
      · have h := ite_t h c32
        refine j_iload_n C (q := 2) dX7_go_116 rfl rfl ?_
        exact j_iret C hr hlk h ⟨Nat.le_of_ble_eq_true rfl, Nat.le_of_ble_eq_true rfl⟩ dX7_go_117
      · have h := ite_f h c32
        refine j_aload_n C (q := 0) dX7_go_18 rfl rfl ?_
        obtain ⟨t34, e35, h⟩ := bv_some h
        refine j_callV_v C (i := 225) (As := []) (rest := []) (c_X7_read l G B dy _ e35) (shp7 G B _ kA_225) (kd_lt kA_225 (by decide)) rfl tw_863 tw_865 tp_39 ti_7 tw_866 hd_X7_read ⟨Nat.le_of_ble_eq_true rfl, Nat.le_of_ble_eq_true rfl⟩ ⟨Nat.le_of_ble_eq_true rfl, Nat.le_of_ble_eq_true rfl⟩ rfl rfl (Nat.le_of_ble_eq_true rfl) dX7_go_19 ?_
        refine j_iload_n C (q := 1) dX7_go_22 rfl rfl ?_
        refine j_if_eq C (tgt := 37) dX7_go_23 (by decide) (fun c36 => ?_) (fun c36 => ?_)
        · have h := ite_t h c36
          refine j_sub [0, 1, 2] rfl ?_
          exact J37 y2 _ h
        · have h := ite_f h c36
          refine j_aload_n C (q := 0) dX7_go_26 rfl rfl ?_
          obtain ⟨x37, t38, e39, h⟩ := bd_some h
          refine j_callV_i C (i := 225) (As := []) (rest := []) (c_X7_adds l G B dy _ e39) (shp7 G B _ kA_225) (kd_lt kA_225 (by decide)) rfl tw_879 tw_881 tp_43 ti_7 tw_882 hd_X7_adds ⟨Nat.le_of_ble_eq_true rfl, Nat.le_of_ble_eq_true rfl⟩ ⟨Nat.le_of_ble_eq_true rfl, Nat.le_of_ble_eq_true rfl⟩ rfl rfl (Nat.le_of_ble_eq_true rfl) dX7_go_27 ?_
          refine j_if_eq C (tgt := 37) dX7_go_30 (by decide) (fun c40 => ?_) (fun c40 => ?_)
          · have h := ite_t h c40
            refine j_sub [0, 1, 2] rfl ?_
            exact J37 y2 _ h
          · have h := ite_f h c40
            refine j_iconst C (v := 1) dX7_go_33 (by decide) ?_
            refine j_goto C (tgt := 38) dX7_go_34 (by decide) ?_
            refine j_sub [0, 1, 2] rfl ?_
            exact J38 y2 1 _ h
  refine j_aload_n C (q := 0) dX7_go_0 rfl rfl ?_
  refine j_iconst C (v := 0) dX7_go_1 (by decide) ?_
  refine fp_X7_84 C (i := 225) kA_225 dX7_go_2 ?_
  refine j_tops (fun t41 et41 => ?_)
  have h := lt_at h et41
  refine j_aload_n C (q := 0) dX7_go_5 rfl rfl ?_
  refine j_iconst C (v := 0) dX7_go_6 (by decide) ?_
  refine fp_X7_87 C (i := 225) kA_225 (Or.inl rfl) dX7_go_7 ?_
  refine j_tops (fun t42 et42 => ?_)
  have h := lt_at h et42
  refine j_iconst C (v := 0) dX7_go_10 (by decide) ?_
  refine j_istore_n C [(0, .ref (B + 225)), (1, .int x1), (2, .int 0)] [1, 2, 0] dX7_go_11 rfl (by decide) rfl ?_
  refine j_iconst C (v := 1) dX7_go_12 (by decide) ?_
  refine j_istore_n C [(0, .ref (B + 225)), (1, .int x1), (2, .int 0), (3, .int 1)] [1, 2, 3, 0] dX7_go_13 rfl (by decide) rfl ?_
  exact J14 FU 0 1 _ h
set_option maxRecDepth 100000 in
set_option maxHeartbeats 4000000 in
theorem c_X7_firstError (l : Launch) (G : GG) (B dy : Nat) (t0 : St) {r : Int32} {t9 : St} (h : f_X7_firstError t0 = some (r, t9)) : Ct l G B dy yX7_firstError cX7_firstError 2 (some .int) 5 115 0 0 [.ref (B + 225)] t0 (PostI G B r t9) := by
  refine Ct_of (by decide +kernel) [(0, .ref (B + 225))] (Nat.le_of_ble_eq_true rfl) rfl ?_
  intro p e s m args below meth c C hr hlk
  refine j_aload_n C (q := 0) dX7_firstError_0 rfl rfl ?_
  refine j_iconst C (v := 0) dX7_firstError_1 (by decide) ?_
  refine fp_X7_38 C (i := 225) kA_225 dX7_firstError_2 ?_
  refine j_tops (fun t21 et21 => ?_)
  have h := lt_at h et21
  refine j_aload_n C (q := 0) dX7_firstError_5 rfl rfl ?_
  refine j_iconst C (v := 0) dX7_firstError_6 (by decide) ?_
  obtain ⟨x22, t23, e24, h⟩ := bd_some h
  refine j_callV_i C (i := 225) (As := [.int 0]) (rest := []) (c_X7_go l G B dy 0 _ e24) (shp7 G B _ kA_225) (kd_lt kA_225 (by decide)) rfl tw_859 tw_861 tp_38 ti_7 tw_862 hd_X7_go ⟨Nat.le_of_ble_eq_true rfl, Nat.le_of_ble_eq_true rfl⟩ ⟨Nat.le_of_ble_eq_true rfl, Nat.le_of_ble_eq_true rfl⟩ rfl rfl (Nat.le_of_ble_eq_true rfl) dX7_firstError_7 ?_
  refine j_istore_n C [(0, .ref (B + 225)), (1, .int x22)] [1, 0] dX7_firstError_10 rfl (by decide) rfl ?_
  refine j_aload_n C (q := 0) dX7_firstError_11 rfl rfl ?_
  refine fg_X7_87 C (i := 225) kA_225 dX7_firstError_12 ?_
  refine j_if_eq C (tgt := 25) dX7_firstError_15 (by decide) (fun c25 => ?_) (fun c25 => ?_)
  · have h := ite_t h c25
    refine j_aload_n C (q := 0) dX7_firstError_25 rfl rfl ?_
    refine fg_X7_77 C (i := 225) kA_225 dX7_firstError_26 ?_
    exact j_iret C hr hlk h ⟨Nat.le_of_ble_eq_true rfl, Nat.le_of_ble_eq_true rfl⟩ dX7_firstError_29
  · have h := ite_f h c25
    refine j_aload_n C (q := 0) dX7_firstError_18 rfl rfl ?_
    refine fg_X7_84 C (i := 225) kA_225 dX7_firstError_19 ?_
    refine j_goto C (tgt := 29) dX7_firstError_22 (by decide) ?_
    exact j_iret C hr hlk h ⟨Nat.le_of_ble_eq_true rfl, Nat.le_of_ble_eq_true rfl⟩ dX7_firstError_29
set_option maxRecDepth 100000 in
set_option maxHeartbeats 4000000 in
theorem c_X7_proclaim (l : Launch) (G : GG) (B dy : Nat) (t0 : St) {r : Int32} {t9 : St} (h : f_X7_proclaim t0 = some (r, t9)) : Ct l G B dy yX7_proclaim cX7_proclaim 3 (some .int) 5 115 0 0 [.ref (B + 225)] t0 (PostI G B r t9) := by
  refine Ct_of (by decide +kernel) [(0, .ref (B + 225))] (Nat.le_of_ble_eq_true rfl) rfl ?_
  intro p e s m args below meth c C hr hlk
  have J19 : ∀ (w0 : Int32) (t0 : St), f_X7_proclaim_b19 w0 t0 = some (r, t9) → WW G B p l e (RM 5 115 0 0) s m args below meth c 0 0 (MQ below (PostI G B r t9) args s 0 0 (Ab B)) 3 19 [(0, .ref (B + 225))] [.int w0, .ref (B + 225)] t0 := by
    intro w0 t0 h
    obtain ⟨x21, t22, e23, h⟩ := bd_some h
    refine j_callV_i C (i := 225) (As := [.int w0]) (rest := []) (c_X7_holds l G B dy w0 _ e23) (shp7 G B _ kA_225) (kd_lt kA_225 (by decide)) rfl tw_847 tw_849 tp_37 ti_7 tw_850 hd_X7_holds ⟨Nat.le_of_ble_eq_true rfl, Nat.le_of_ble_eq_true rfl⟩ ⟨Nat.le_of_ble_eq_true rfl, Nat.le_of_ble_eq_true rfl⟩ rfl rfl (Nat.le_of_ble_eq_true rfl) dX7_proclaim_19 ?_
    refine j_if_ne C (tgt := 27) dX7_proclaim_22 (by decide) (fun c24 => ?_) (fun c24 => ?_)
    · have h := ite_t h c24
      refine j_iconst C (v := 0) dX7_proclaim_25 (by decide) ?_
      exact j_iret C hr hlk h ⟨Nat.le_of_ble_eq_true rfl, Nat.le_of_ble_eq_true rfl⟩ dX7_proclaim_26
    · have h := ite_f h c24
      refine j_aload_n C (q := 0) dX7_proclaim_27 rfl rfl ?_
      obtain ⟨t26, e27, h⟩ := bv_some h
      refine j_callV_v C (i := 225) (As := []) (rest := []) (c_X7_save l G B dy _ e27) (shp7 G B _ kA_225) (kd_lt kA_225 (by decide)) rfl tw_890 tw_892 tp_44 ti_7 tw_893 hd_X7_save ⟨Nat.le_of_ble_eq_true rfl, Nat.le_of_ble_eq_true rfl⟩ ⟨Nat.le_of_ble_eq_true rfl, Nat.le_of_ble_eq_true rfl⟩ rfl rfl (Nat.le_of_ble_eq_true rfl) dX7_proclaim_28 ?_
      refine j_aload_n C (q := 0) dX7_proclaim_31 rfl rfl ?_
      refine j_iconst C (v := 1) dX7_proclaim_32 (by decide) ?_
      obtain ⟨x28, t29, e30, h⟩ := bd_some h
      refine j_callV_i C (i := 225) (As := [.int 1]) (rest := []) (c_X7_go l G B dy 1 _ e30) (shp7 G B _ kA_225) (kd_lt kA_225 (by decide)) rfl tw_859 tw_861 tp_38 ti_7 tw_862 hd_X7_go ⟨Nat.le_of_ble_eq_true rfl, Nat.le_of_ble_eq_true rfl⟩ ⟨Nat.le_of_ble_eq_true rfl, Nat.le_of_ble_eq_true rfl⟩ rfl rfl (Nat.le_of_ble_eq_true rfl) dX7_proclaim_33 ?_
      refine j_istore_n C [(0, .ref (B + 225)), (2, .int x28)] [1, 0] dX7_proclaim_36 rfl (by decide) rfl ?_
      refine j_aload_n C (q := 0) dX7_proclaim_37 rfl rfl ?_
      refine j_iconst C (v := 0) dX7_proclaim_38 (by decide) ?_
      refine fp_X7_77 C (i := 225) kA_225 dX7_proclaim_39 ?_
      refine j_tops (fun t31 et31 => ?_)
      have h := lt_at h et31
      refine j_iload_n C (q := 1) dX7_proclaim_42 rfl rfl ?_
      exact j_iret C hr hlk h ⟨Nat.le_of_ble_eq_true rfl, Nat.le_of_ble_eq_true rfl⟩ dX7_proclaim_43
  refine j_aload_n C (q := 0) dX7_proclaim_0 rfl rfl ?_
  refine j_iconst C (v := 0) dX7_proclaim_1 (by decide) ?_
  obtain ⟨x32, t33, e34, h⟩ := bd_some h
  refine j_callV_i C (i := 225) (As := [.int 0]) (rest := []) (c_X7_go l G B dy 0 _ e34) (shp7 G B _ kA_225) (kd_lt kA_225 (by decide)) rfl tw_859 tw_861 tp_38 ti_7 tw_862 hd_X7_go ⟨Nat.le_of_ble_eq_true rfl, Nat.le_of_ble_eq_true rfl⟩ ⟨Nat.le_of_ble_eq_true rfl, Nat.le_of_ble_eq_true rfl⟩ rfl rfl (Nat.le_of_ble_eq_true rfl) dX7_proclaim_2 ?_
  refine j_istore_n C [(0, .ref (B + 225)), (1, .int x32)] [1, 0] dX7_proclaim_5 rfl (by decide) rfl ?_
  refine j_aload_n C (q := 0) dX7_proclaim_6 rfl rfl ?_
  refine j_aload_n C (q := 0) dX7_proclaim_7 rfl rfl ?_
  refine fg_X7_87 C (i := 225) kA_225 dX7_proclaim_8 ?_
  refine j_if_eq C (tgt := 18) dX7_proclaim_11 (by decide) (fun c35 => ?_) (fun c35 => ?_)
  · have h := ite_t h c35
    refine j_iconst C (v := 0) dX7_proclaim_18 (by decide) ?_
    refine j_sub [0] rfl ?_
    exact J19 0 _ h
  · have h := ite_f h c35
    refine j_iconst C (v := 1) dX7_proclaim_14 (by decide) ?_
    refine j_goto C (tgt := 19) dX7_proclaim_15 (by decide) ?_
    refine j_sub [0] rfl ?_
    exact J19 1 _ h
set_option maxRecDepth 100000 in
set_option maxHeartbeats 4000000 in
theorem c_X7_forget (l : Launch) (G : GG) (B dy : Nat) (t0 : St) {r : Int32} {t9 : St} (h : f_X7_forget t0 = some (r, t9)) : Ct l G B dy yX7_forget cX7_forget 1 (some .int) 1 21 0 0 [.ref (B + 225)] t0 (PostI G B r t9) := by
  refine Ct_of (by decide +kernel) [(0, .ref (B + 225))] (Nat.le_of_ble_eq_true rfl) rfl ?_
  intro p e s m args below meth c C hr hlk
  have J15 : ∀ (w0 : Int32) (t0 : St), f_X7_forget_b15 w0 t0 = some (r, t9) → WW G B p l e (RM 1 21 0 0) s m args below meth c 0 0 (MQ below (PostI G B r t9) args s 0 0 (Ab B)) 1 15 [(0, .ref (B + 225))] [.int w0, .ref (B + 225)] t0 := by
    intro w0 t0 h
    obtain ⟨x21, t22, e23, h⟩ := bd_some h
    refine j_callV_i C (i := 225) (As := [.int w0]) (rest := []) (c_X7_holds l G B dy w0 _ e23) (shp7 G B _ kA_225) (kd_lt kA_225 (by decide)) rfl tw_847 tw_849 tp_37 ti_7 tw_850 hd_X7_holds ⟨Nat.le_of_ble_eq_true rfl, Nat.le_of_ble_eq_true rfl⟩ ⟨Nat.le_of_ble_eq_true rfl, Nat.le_of_ble_eq_true rfl⟩ rfl rfl (Nat.le_of_ble_eq_true rfl) dX7_forget_15 ?_
    refine j_if_ne C (tgt := 23) dX7_forget_18 (by decide) (fun c24 => ?_) (fun c24 => ?_)
    · have h := ite_t h c24
      refine j_iconst C (v := 0) dX7_forget_21 (by decide) ?_
      exact j_iret C hr hlk h ⟨Nat.le_of_ble_eq_true rfl, Nat.le_of_ble_eq_true rfl⟩ dX7_forget_22
    · have h := ite_f h c24
      refine j_aload_n C (q := 0) dX7_forget_23 rfl rfl ?_
      obtain ⟨t26, e27, h⟩ := bv_some h
      refine j_callV_v C (i := 225) (As := []) (rest := []) (c_X7_save l G B dy _ e27) (shp7 G B _ kA_225) (kd_lt kA_225 (by decide)) rfl tw_890 tw_892 tp_44 ti_7 tw_893 hd_X7_save ⟨Nat.le_of_ble_eq_true rfl, Nat.le_of_ble_eq_true rfl⟩ ⟨Nat.le_of_ble_eq_true rfl, Nat.le_of_ble_eq_true rfl⟩ rfl rfl (Nat.le_of_ble_eq_true rfl) dX7_forget_24 ?_
      refine j_aload_n C (q := 0) dX7_forget_27 rfl rfl ?_
      refine fg_X7_7 C (i := 225) kA_225 dX7_forget_28 ?_
      refine j_iconst C (v := 0) dX7_forget_31 (by decide) ?_
      refine j_dup2 C dX7_forget_32 rfl rfl ?_
      obtain ⟨g28, h⟩ := gd_some h
      refine j_iald C (i := 226) kA_226 (inA g28 aA_226) dX7_forget_33 ?_
      refine j_iconst C (v := 1) dX7_forget_34 (by decide) ?_
      refine j_isub C dX7_forget_35 ?_
      obtain ⟨g29, h⟩ := gd_some h
      refine j_iast C (i := 226) kA_226 (inA g29 aA_226) dX7_forget_36 ?_
      refine j_tops (fun t30 et30 => ?_)
      have h := lt_at h et30
      refine j_aload_n C (q := 0) dX7_forget_37 rfl rfl ?_
      refine fg_X7_7 C (i := 225) kA_225 dX7_forget_38 ?_
      refine j_iconst C (v := 0) dX7_forget_41 (by decide) ?_
      obtain ⟨g31, h⟩ := gd_some h
      refine j_iald C (i := 226) kA_226 (inA g31 aA_226) dX7_forget_42 ?_
      exact j_iret C hr hlk h ⟨Nat.le_of_ble_eq_true rfl, Nat.le_of_ble_eq_true rfl⟩ dX7_forget_43
  refine j_aload_n C (q := 0) dX7_forget_0 rfl rfl ?_
  refine j_aload_n C (q := 0) dX7_forget_1 rfl rfl ?_
  refine fg_X7_7 C (i := 225) kA_225 dX7_forget_2 ?_
  refine j_iconst C (v := 0) dX7_forget_5 (by decide) ?_
  obtain ⟨g32, h⟩ := gd_some h
  refine j_iald C (i := 226) kA_226 (inA g32 aA_226) dX7_forget_6 ?_
  refine j_if_ne C (tgt := 14) dX7_forget_7 (by decide) (fun c33 => ?_) (fun c33 => ?_)
  · have h := ite_t h c33
    refine j_iconst C (v := 1) dX7_forget_10 (by decide) ?_
    refine j_goto C (tgt := 15) dX7_forget_11 (by decide) ?_
    exact J15 1 _ h
  · have h := ite_f h c33
    refine j_iconst C (v := 0) dX7_forget_14 (by decide) ?_
    exact J15 0 _ h
set_option maxRecDepth 100000 in
set_option maxHeartbeats 4000000 in
theorem c_X7_puts (l : Launch) (G : GG) (B dy : Nat) (x1 : Int32) (x2 : Int32) (t0 : St) {r : Int32} {t9 : St} (h : f_X7_puts x1 x2 t0 = some (r, t9)) : Ct l G B dy yX7_puts cX7_puts 4 (some .int) 1 21 0 0 [.ref (B + 225), .int x1, .int x2] t0 (PostI G B r t9) := by
  refine Ct_of (by decide +kernel) [(0, .ref (B + 225)), (1, .int x1), (2, .int x2)] (Nat.le_of_ble_eq_true rfl) rfl ?_
  intro p e s m args below meth c C hr hlk
  refine j_aload_n C (q := 0) dX7_puts_0 rfl rfl ?_
  obtain ⟨t22, e23, h⟩ := bv_some h
  refine j_callV_v C (i := 225) (As := []) (rest := []) (c_X7_save l G B dy _ e23) (shp7 G B _ kA_225) (kd_lt kA_225 (by decide)) rfl tw_890 tw_892 tp_44 ti_7 tw_893 hd_X7_save ⟨Nat.le_of_ble_eq_true rfl, Nat.le_of_ble_eq_true rfl⟩ ⟨Nat.le_of_ble_eq_true rfl, Nat.le_of_ble_eq_true rfl⟩ rfl rfl (Nat.le_of_ble_eq_true rfl) dX7_puts_1 ?_
  refine j_aload_n C (q := 0) dX7_puts_4 rfl rfl ?_
  refine fg_X7_7 C (i := 225) kA_225 dX7_puts_5 ?_
  refine j_iload_n C (q := 1) dX7_puts_8 rfl rfl ?_
  obtain ⟨g24, h⟩ := gd_some h
  refine j_iald C (i := 226) kA_226 (inA g24 aA_226) dX7_puts_9 ?_
  refine j_topi (fun x25 ex25 => ?_)
  have h := lt_at h ex25
  refine j_istore_n C [(0, .ref (B + 225)), (1, .int x1), (2, .int x2), (3, .int x25)] [1, 2, 3, 0] dX7_puts_10 rfl (by decide) rfl ?_
  refine j_aload_n C (q := 0) dX7_puts_11 rfl rfl ?_
  refine fg_X7_7 C (i := 225) kA_225 dX7_puts_12 ?_
  refine j_iload_n C (q := 1) dX7_puts_15 rfl rfl ?_
  refine j_iload_n C (q := 2) dX7_puts_16 rfl rfl ?_
  obtain ⟨g26, h⟩ := gd_some h
  refine j_iast C (i := 226) kA_226 (inA g26 aA_226) dX7_puts_17 ?_
  refine j_tops (fun t27 et27 => ?_)
  have h := lt_at h et27
  refine j_iload_n C (q := 3) dX7_puts_18 rfl rfl ?_
  exact j_iret C hr hlk h ⟨Nat.le_of_ble_eq_true rfl, Nat.le_of_ble_eq_true rfl⟩ dX7_puts_19
set_option maxRecDepth 100000 in
set_option maxHeartbeats 4000000 in
theorem c_X7_rank (l : Launch) (G : GG) (B dy : Nat) (x1 : Int32) (x2 : Int32) (t0 : St) {r : Int32} {t9 : St} (h : f_X7_rank x1 x2 t0 = some (r, t9)) : Ct l G B dy yX7_rank cX7_rank 3 (some .int) 2 44 0 0 [.ref (B + 225), .int x1, .int x2] t0 (PostI G B r t9) := by
  refine Ct_of (by decide +kernel) [(0, .ref (B + 225)), (1, .int x1), (2, .int x2)] (Nat.le_of_ble_eq_true rfl) rfl ?_
  intro p e s m args below meth c C hr hlk
  have J28 : ∀ (w0 : Int32) (t0 : St), f_X7_rank_b28 x1 x2 w0 t0 = some (r, t9) → WW G B p l e (RM 2 44 0 0) s m args below meth c 0 0 (MQ below (PostI G B r t9) args s 0 0 (Ab B)) 3 28 [(0, .ref (B + 225)), (1, .int x1), (2, .int x2)] [.int w0, .ref (B + 225)] t0 := by
    intro w0 t0 h
    obtain ⟨x21, t22, e23, h⟩ := bd_some h
    refine j_callV_i C (i := 225) (As := [.int w0]) (rest := []) (c_X7_holds l G B dy w0 _ e23) (shp7 G B _ kA_225) (kd_lt kA_225 (by decide)) rfl tw_847 tw_849 tp_37 ti_7 tw_850 hd_X7_holds ⟨Nat.le_of_ble_eq_true rfl, Nat.le_of_ble_eq_true rfl⟩ ⟨Nat.le_of_ble_eq_true rfl, Nat.le_of_ble_eq_true rfl⟩ rfl rfl (Nat.le_of_ble_eq_true rfl) dX7_rank_28 ?_
    refine j_if_eq C (tgt := 47) dX7_rank_31 (by decide) (fun c24 => ?_) (fun c24 => ?_)
    · have h := ite_t h c24
      refine j_iconst C (v := 0) dX7_rank_47 (by decide) ?_
      exact j_iret C hr hlk h ⟨Nat.le_of_ble_eq_true rfl, Nat.le_of_ble_eq_true rfl⟩ dX7_rank_48
    · have h := ite_f h c24
      refine j_aload_n C (q := 0) dX7_rank_34 rfl rfl ?_
      refine j_iload_n C (q := 1) dX7_rank_35 rfl rfl ?_
      refine j_iconst C (v := 1) dX7_rank_36 (by decide) ?_
      obtain ⟨x25, t26, e27, h⟩ := bd_some h
      refine j_callS_i C (i := 0) (As := [.int x1, .int 1]) (rest := [.ref (B + 225)]) (c_X7_of l G B dy x1 1 _ e27) tw_883 tw_884 ti_7 tw_885 ⟨rfl, hd_X7_of⟩ ⟨Nat.le_of_ble_eq_true rfl, Nat.le_of_ble_eq_true rfl⟩ ⟨Nat.le_of_ble_eq_true rfl, Nat.le_of_ble_eq_true rfl⟩ rfl rfl (Nat.le_of_ble_eq_true rfl) dX7_rank_37 ?_
      refine j_iload_n C (q := 2) dX7_rank_40 rfl rfl ?_
      obtain ⟨x28, t29, e30, h⟩ := bd_some h
      refine j_callV_i C (i := 225) (As := [.int x25, .int x2]) (rest := []) (c_X7_puts l G B dy x25 x2 _ e30) (shp7 G B _ kA_225) (kd_lt kA_225 (by decide)) rfl tw_906 tw_908 tp_46 ti_7 tw_909 hd_X7_puts ⟨Nat.le_of_ble_eq_true rfl, Nat.le_of_ble_eq_true rfl⟩ ⟨Nat.le_of_ble_eq_true rfl, Nat.le_of_ble_eq_true rfl⟩ rfl rfl (Nat.le_of_ble_eq_true rfl) dX7_rank_41 ?_
      refine j_goto C (tgt := 48) dX7_rank_44 (by decide) ?_
      exact j_iret C hr hlk h ⟨Nat.le_of_ble_eq_true rfl, Nat.le_of_ble_eq_true rfl⟩ dX7_rank_48
  refine j_aload_n C (q := 0) dX7_rank_0 rfl rfl ?_
  refine j_aload_n C (q := 0) dX7_rank_1 rfl rfl ?_
  refine j_iload_n C (q := 1) dX7_rank_2 rfl rfl ?_
  obtain ⟨x31, t32, e33, h⟩ := bd_some h
  refine j_callV_i C (i := 225) (As := [.int x1]) (rest := [.ref (B + 225)]) (c_X7_isFeast l G B dy x1 _ e33) (shp7 G B _ kA_225) (kd_lt kA_225 (by decide)) rfl tw_902 tw_904 tp_45 ti_7 tw_905 hd_X7_isFeast ⟨Nat.le_of_ble_eq_true rfl, Nat.le_of_ble_eq_true rfl⟩ ⟨Nat.le_of_ble_eq_true rfl, Nat.le_of_ble_eq_true rfl⟩ rfl rfl (Nat.le_of_ble_eq_true rfl) dX7_rank_3 ?_
  refine j_if_ne C (tgt := 13) dX7_rank_6 (by decide) (fun c34 => ?_) (fun c34 => ?_)
  · have h := ite_t h c34
    refine j_iconst C (v := 1) dX7_rank_9 (by decide) ?_
    refine j_goto C (tgt := 28) dX7_rank_10 (by decide) ?_
    exact J28 1 _ h
  · have h := ite_f h c34
    refine j_iload_n C (q := 2) dX7_rank_13 rfl rfl ?_
    refine j_iconst C (v := 0) dX7_rank_14 (by decide) ?_
    refine j_bipush C (v := 9) dX7_rank_15 (by decide) ?_
    obtain ⟨x35, t36, e37, h⟩ := bd_some h
    refine j_callS_i C (i := 0) (As := [.int x2, .int 0, .int 9]) (rest := [.ref (B + 225)]) (c_X7_in l G B dy x2 0 9 _ e37) tw_844 tw_845 ti_7 tw_846 ⟨rfl, hd_X7_in⟩ ⟨Nat.le_of_ble_eq_true rfl, Nat.le_of_ble_eq_true rfl⟩ ⟨Nat.le_of_ble_eq_true rfl, Nat.le_of_ble_eq_true rfl⟩ rfl rfl (Nat.le_of_ble_eq_true rfl) dX7_rank_17 ?_
    refine j_if_ne C (tgt := 27) dX7_rank_20 (by decide) (fun c38 => ?_) (fun c38 => ?_)
    · have h := ite_t h c38
      refine j_iconst C (v := 2) dX7_rank_23 (by decide) ?_
      refine j_goto C (tgt := 28) dX7_rank_24 (by decide) ?_
      exact J28 2 _ h
    · have h := ite_f h c38
      refine j_iconst C (v := 0) dX7_rank_27 (by decide) ?_
      exact J28 0 _ h
set_option maxRecDepth 100000 in
set_option maxHeartbeats 4000000 in
theorem c_X7_teach (l : Launch) (G : GG) (B dy : Nat) (x1 : Int32) (x2 : Int32) (t0 : St) {r : Int32} {t9 : St} (h : f_X7_teach x1 x2 t0 = some (r, t9)) : Ct l G B dy yX7_teach cX7_teach 3 (some .int) 2 44 0 0 [.ref (B + 225), .int x1, .int x2] t0 (PostI G B r t9) := by
  refine Ct_of (by decide +kernel) [(0, .ref (B + 225)), (1, .int x1), (2, .int x2)] (Nat.le_of_ble_eq_true rfl) rfl ?_
  intro p e s m args below meth c C hr hlk
  have J23 : ∀ (w0 : Int32) (t0 : St), f_X7_teach_b23 x1 x2 w0 t0 = some (r, t9) → WW G B p l e (RM 2 44 0 0) s m args below meth c 0 0 (MQ below (PostI G B r t9) args s 0 0 (Ab B)) 3 23 [(0, .ref (B + 225)), (1, .int x1), (2, .int x2)] [.int w0, .ref (B + 225)] t0 := by
    intro w0 t0 h
    obtain ⟨x21, t22, e23, h⟩ := bd_some h
    refine j_callV_i C (i := 225) (As := [.int w0]) (rest := []) (c_X7_holds l G B dy w0 _ e23) (shp7 G B _ kA_225) (kd_lt kA_225 (by decide)) rfl tw_847 tw_849 tp_37 ti_7 tw_850 hd_X7_holds ⟨Nat.le_of_ble_eq_true rfl, Nat.le_of_ble_eq_true rfl⟩ ⟨Nat.le_of_ble_eq_true rfl, Nat.le_of_ble_eq_true rfl⟩ rfl rfl (Nat.le_of_ble_eq_true rfl) dX7_teach_23 ?_
    refine j_if_eq C (tgt := 43) dX7_teach_26 (by decide) (fun c24 => ?_) (fun c24 => ?_)
    · have h := ite_t h c24
      refine j_iconst C (v := 0) dX7_teach_43 (by decide) ?_
      exact j_iret C hr hlk h ⟨Nat.le_of_ble_eq_true rfl, Nat.le_of_ble_eq_true rfl⟩ dX7_teach_44
    · have h := ite_f h c24
      refine j_aload_n C (q := 0) dX7_teach_29 rfl rfl ?_
      refine j_bipush C (v := 41) dX7_teach_30 (by decide) ?_
      refine j_iload_n C (q := 1) dX7_teach_32 rfl rfl ?_
      refine j_iadd C dX7_teach_33 ?_
      refine j_iload_n C (q := 2) dX7_teach_34 rfl rfl ?_
      obtain ⟨x25, t26, e27, h⟩ := bd_some h
      refine j_callV_i C (i := 225) (As := [.int (41 + x1), .int x2]) (rest := []) (c_X7_puts l G B dy (41 + x1) x2 _ e27) (shp7 G B _ kA_225) (kd_lt kA_225 (by decide)) rfl tw_906 tw_908 tp_46 ti_7 tw_909 hd_X7_puts ⟨Nat.le_of_ble_eq_true rfl, Nat.le_of_ble_eq_true rfl⟩ ⟨Nat.le_of_ble_eq_true rfl, Nat.le_of_ble_eq_true rfl⟩ rfl rfl (Nat.le_of_ble_eq_true rfl) dX7_teach_35 ?_
      refine j_iconst C (v := 5) dX7_teach_38 (by decide) ?_
      refine j_iadd C dX7_teach_39 ?_
      refine j_goto C (tgt := 44) dX7_teach_40 (by decide) ?_
      exact j_iret C hr hlk h ⟨Nat.le_of_ble_eq_true rfl, Nat.le_of_ble_eq_true rfl⟩ dX7_teach_44
  have J22 : ∀ (t0 : St), f_X7_teach_b22 x1 x2 t0 = some (r, t9) → WW G B p l e (RM 2 44 0 0) s m args below meth c 0 0 (MQ below (PostI G B r t9) args s 0 0 (Ab B)) 3 22 [(0, .ref (B + 225)), (1, .int x1), (2, .int x2)] [.ref (B + 225)] t0 := by
    intro t0 h
    refine j_iconst C (v := 1) dX7_teach_22 (by decide) ?_
    exact J23 1 _ h
  refine j_aload_n C (q := 0) dX7_teach_0 rfl rfl ?_
  refine j_iload_n C (q := 1) dX7_teach_1 rfl rfl ?_
  obtain ⟨x28, t29, e30, h⟩ := bd_some h
  refine j_callS_i C (i := 0) (As := [.int x1]) (rest := [.ref (B + 225)]) (c_X7_isCarver l G B dy x1 _ e30) tw_914 tw_915 ti_7 tw_916 ⟨rfl, hd_X7_isCarver⟩ ⟨Nat.le_of_ble_eq_true rfl, Nat.le_of_ble_eq_true rfl⟩ ⟨Nat.le_of_ble_eq_true rfl, Nat.le_of_ble_eq_true rfl⟩ rfl rfl (Nat.le_of_ble_eq_true rfl) dX7_teach_2 ?_
  refine j_if_eq C (tgt := 22) dX7_teach_5 (by decide) (fun c31 => ?_) (fun c31 => ?_)
  · have h := ite_t h c31
    exact J22 _ h
  · have h := ite_f h c31
    refine j_iload_n C (q := 2) dX7_teach_8 rfl rfl ?_
    refine j_bipush C (v := (-5)) dX7_teach_9 (by decide) ?_
    refine j_iconst C (v := 5) dX7_teach_11 (by decide) ?_
    obtain ⟨x32, t33, e34, h⟩ := bd_some h
    refine j_callS_i C (i := 0) (As := [.int x2, .int (-5), .int 5]) (rest := [.ref (B + 225)]) (c_X7_in l G B dy x2 (-5) 5 _ e34) tw_844 tw_845 ti_7 tw_846 ⟨rfl, hd_X7_in⟩ ⟨Nat.le_of_ble_eq_true rfl, Nat.le_of_ble_eq_true rfl⟩ ⟨Nat.le_of_ble_eq_true rfl, Nat.le_of_ble_eq_true rfl⟩ rfl rfl (Nat.le_of_ble_eq_true rfl) dX7_teach_12 ?_
    refine j_if_eq C (tgt := 22) dX7_teach_15 (by decide) (fun c35 => ?_) (fun c35 => ?_)
    · have h := ite_t h c35
      exact J22 _ h
    · have h := ite_f h c35
      refine j_iconst C (v := 0) dX7_teach_18 (by decide) ?_
      refine j_goto C (tgt := 23) dX7_teach_19 (by decide) ?_
      exact J23 0 _ h
set_option maxRecDepth 100000 in
set_option maxHeartbeats 4000000 in
theorem c_X7_set (l : Launch) (G : GG) (B dy : Nat) (x1 : Int32) (t0 : St) {r : Int32} {t9 : St} (h : f_X7_set x1 t0 = some (r, t9)) : Ct l G B dy yX7_set cX7_set 2 (some .int) 2 44 0 0 [.ref (B + 225), .int x1] t0 (PostI G B r t9) := by
  refine Ct_of (by decide +kernel) [(0, .ref (B + 225)), (1, .int x1)] (Nat.le_of_ble_eq_true rfl) rfl ?_
  intro p e s m args below meth c C hr hlk
  have J18 : ∀ (w0 : Int32) (t0 : St), f_X7_set_b18 x1 w0 t0 = some (r, t9) → WW G B p l e (RM 2 44 0 0) s m args below meth c 0 0 (MQ below (PostI G B r t9) args s 0 0 (Ab B)) 2 18 [(0, .ref (B + 225)), (1, .int x1)] [.int w0, .ref (B + 225)] t0 := by
    intro w0 t0 h
    obtain ⟨x21, t22, e23, h⟩ := bd_some h
    refine j_callV_i C (i := 225) (As := [.int w0]) (rest := []) (c_X7_holds l G B dy w0 _ e23) (shp7 G B _ kA_225) (kd_lt kA_225 (by decide)) rfl tw_847 tw_849 tp_37 ti_7 tw_850 hd_X7_holds ⟨Nat.le_of_ble_eq_true rfl, Nat.le_of_ble_eq_true rfl⟩ ⟨Nat.le_of_ble_eq_true rfl, Nat.le_of_ble_eq_true rfl⟩ rfl rfl (Nat.le_of_ble_eq_true rfl) dX7_set_18 ?_
    refine j_if_eq C (tgt := 34) dX7_set_21 (by decide) (fun c24 => ?_) (fun c24 => ?_)
    · have h := ite_t h c24
      refine j_iconst C (v := 0) dX7_set_34 (by decide) ?_
      exact j_iret C hr hlk h ⟨Nat.le_of_ble_eq_true rfl, Nat.le_of_ble_eq_true rfl⟩ dX7_set_35
    · have h := ite_f h c24
      refine j_aload_n C (q := 0) dX7_set_24 rfl rfl ?_
      refine j_bipush C (v := 44) dX7_set_25 (by decide) ?_
      refine j_iload_n C (q := 1) dX7_set_27 rfl rfl ?_
      obtain ⟨x25, t26, e27, h⟩ := bd_some h
      refine j_callV_i C (i := 225) (As := [.int 44, .int x1]) (rest := []) (c_X7_puts l G B dy 44 x1 _ e27) (shp7 G B _ kA_225) (kd_lt kA_225 (by decide)) rfl tw_906 tw_908 tp_46 ti_7 tw_909 hd_X7_puts ⟨Nat.le_of_ble_eq_true rfl, Nat.le_of_ble_eq_true rfl⟩ ⟨Nat.le_of_ble_eq_true rfl, Nat.le_of_ble_eq_true rfl⟩ rfl rfl (Nat.le_of_ble_eq_true rfl) dX7_set_28 ?_
      refine j_goto C (tgt := 35) dX7_set_31 (by decide) ?_
      exact j_iret C hr hlk h ⟨Nat.le_of_ble_eq_true rfl, Nat.le_of_ble_eq_true rfl⟩ dX7_set_35
  refine j_aload_n C (q := 0) dX7_set_0 rfl rfl ?_
  refine j_iload_n C (q := 1) dX7_set_1 rfl rfl ?_
  refine j_bipush C (v := 50) dX7_set_2 (by decide) ?_
  refine j_sipush C (v := 400) dX7_set_4 (by decide) ?_
  obtain ⟨x28, t29, e30, h⟩ := bd_some h
  refine j_callS_i C (i := 0) (As := [.int x1, .int 50, .int 400]) (rest := [.ref (B + 225)]) (c_X7_in l G B dy x1 50 400 _ e30) tw_844 tw_845 ti_7 tw_846 ⟨rfl, hd_X7_in⟩ ⟨Nat.le_of_ble_eq_true rfl, Nat.le_of_ble_eq_true rfl⟩ ⟨Nat.le_of_ble_eq_true rfl, Nat.le_of_ble_eq_true rfl⟩ rfl rfl (Nat.le_of_ble_eq_true rfl) dX7_set_7 ?_
  refine j_if_eq C (tgt := 17) dX7_set_10 (by decide) (fun c31 => ?_) (fun c31 => ?_)
  · have h := ite_t h c31
    refine j_iconst C (v := 1) dX7_set_17 (by decide) ?_
    exact J18 1 _ h
  · have h := ite_f h c31
    refine j_iconst C (v := 0) dX7_set_13 (by decide) ?_
    refine j_goto C (tgt := 18) dX7_set_14 (by decide) ?_
    exact J18 0 _ h
set_option maxRecDepth 100000 in
set_option maxHeartbeats 4000000 in
theorem c_X7_carve (l : Launch) (G : GG) (B dy : Nat) (x1 : Int32) (x2 : Int32) (t0 : St) {r : Int32} {t9 : St} (h : f_X7_carve x1 x2 t0 = some (r, t9)) : Ct l G B dy yX7_carve cX7_carve 6 (some .int) 4 101 0 0 [.ref (B + 225), .int x1, .int x2] t0 (PostI G B r t9) := by
  refine Ct_of (by decide +kernel) [(0, .ref (B + 225)), (1, .int x1), (2, .int x2)] (Nat.le_of_ble_eq_true rfl) rfl ?_
  intro p e s m args below meth c C hr hlk
  have J142 : ∀ (n142 : Nat) (y3 : Int32) (y4 : Int32) (t0 : St), f_X7_carve_l142 n142 y3 y4 t0 = some (r, t9) → WW G B p l e (RM 4 101 0 0) s m args below meth c 0 0 (MQ below (PostI G B r t9) args s 0 0 (Ab B)) 6 142 [(0, .ref (B + 225)), (3, .int y3), (4, .int y4)] [] t0 := by
    intro n142
    induction n142 with
    | zero => intro y3 y4 t0 h; exact (no_some h).elim
    | succ n142 ih142 =>
      try clear h
      have J171 : ∀ (y3 : Int32) (y4 : Int32) (w0 : Int32) (t0 : St), f_X7_carve_b171 (f_X7_carve_l142 n142) y3 y4 w0 t0 = some (r, t9) → WW G B p l e (RM 4 101 0 0) s m args below meth c 0 0 (MQ below (PostI G B r t9) args s 0 0 (Ab B)) 6 171 [(0, .ref (B + 225)), (3, .int y3), (4, .int y4)] [.int w0] t0 := by
        intro y3 y4 w0 t0 h
        refine j_istore C [(0, .ref (B + 225)), (3, .int y3), (4, .int y4), (5, .int w0)] [1, 2, 3, 0] dX7_carve_171 (by decide) rfl ?_
        refine j_aload_n C (q := 0) dX7_carve_173 rfl rfl ?_
        refine fg_X7_7 C (i := 225) kA_225 dX7_carve_174 ?_
        refine j_bipush C (v := 49) dX7_carve_177 (by decide) ?_
        refine j_iload C (q := 2) dX7_carve_179 rfl ?_
        refine j_iadd C dX7_carve_181 ?_
        refine j_iload C (q := 3) dX7_carve_182 rfl ?_
        obtain ⟨g21, h⟩ := gd_some h
        refine j_iast C (i := 226) kA_226 (inA g21 aA_226) dX7_carve_184 ?_
        refine j_tops (fun t22 et22 => ?_)
        have h := lt_at h et22
        refine j_iload_n C (q := 1) dX7_carve_185 rfl rfl ?_
        refine j_iload C (q := 3) dX7_carve_186 rfl ?_
        refine j_iconst C (v := (-1)) dX7_carve_188 (by decide) ?_
        refine j_icmp_ne C (tgt := 196) dX7_carve_189 (by decide) (fun c23 => ?_) (fun c23 => ?_)
        · have h := ite_t h c23
          refine j_iconst C (v := 0) dX7_carve_192 (by decide) ?_
          refine j_goto C (tgt := 197) dX7_carve_193 (by decide) ?_
          refine j_iadd C dX7_carve_197 ?_
          refine j_topi (fun x26 ex26 => ?_)
          have h := lt_at h ex26
          refine j_istore_n C [(0, .ref (B + 225)), (3, .int x26), (4, .int y4), (5, .int w0)] [1, 0, 2, 3] dX7_carve_198 rfl (by decide) rfl ?_
          obtain ⟨x27, ex27⟩ : ∃ y : Int32, y = (y4 + 1) := ⟨_, rfl⟩
          have h := lt_at h ex27
          refine j_iinc C (q := 2) [(0, .ref (B + 225)), (3, .int x26), (4, .int x27), (5, .int w0)] [1, 2, 0, 3] dX7_carve_199 rfl (by rw [ex27]; rfl) (by decide) rfl ?_
          refine j_goto C (tgt := 142) dX7_carve_202 (by decide) ?_
          refine j_sub [0, 1, 2] rfl ?_
          exact ih142 x26 x27 _ h
        · have h := ite_f h c23
          refine j_iconst C (v := 1) dX7_carve_196 (by decide) ?_
          refine j_iadd C dX7_carve_197 ?_
          refine j_topi (fun x24 ex24 => ?_)
          have h := lt_at h ex24
          refine j_istore_n C [(0, .ref (B + 225)), (3, .int x24), (4, .int y4), (5, .int w0)] [1, 0, 2, 3] dX7_carve_198 rfl (by decide) rfl ?_
          obtain ⟨x25, ex25⟩ : ∃ y : Int32, y = (y4 + 1) := ⟨_, rfl⟩
          have h := lt_at h ex25
          refine j_iinc C (q := 2) [(0, .ref (B + 225)), (3, .int x24), (4, .int x25), (5, .int w0)] [1, 2, 0, 3] dX7_carve_199 rfl (by rw [ex25]; rfl) (by decide) rfl ?_
          refine j_goto C (tgt := 142) dX7_carve_202 (by decide) ?_
          refine j_sub [0, 1, 2] rfl ?_
          exact ih142 x24 x25 _ h
      intro y3 y4 t0 h
      have h : f_X7_carve_b142 (f_X7_carve_l142 n142) y3 y4 t0 = some (r, t9) := h
      refine j_iload C (q := 2) dX7_carve_142 rfl ?_
      refine j_bipush C (v := 10) dX7_carve_144 (by decide) ?_
      refine j_icmp_ge C (tgt := 205) dX7_carve_146 (by decide) (fun c28 => ?_) (fun c28 => ?_)
      · have h := ite_t h c28
        refine j_iload_n C (q := 1) dX7_carve_205 rfl rfl ?_
        exact j_iret C hr hlk h ⟨Nat.le_of_ble_eq_true rfl, Nat.le_of_ble_eq_true rfl⟩ dX7_carve_206
      · have h := ite_f h c28
        refine j_iload C (q := 2) dX7_carve_149 rfl ?_
        refine j_aload_n C (q := 0) dX7_carve_151 rfl rfl ?_
        refine fg_X7_7 C (i := 225) kA_225 dX7_carve_152 ?_
        refine j_iconst C (v := 0) dX7_carve_155 (by decide) ?_
        obtain ⟨g29, h⟩ := gd_some h
        refine j_iald C (i := 226) kA_226 (inA g29 aA_226) dX7_carve_156 ?_
        refine j_icmp_ge C (tgt := 170) dX7_carve_157 (by decide) (fun c30 => ?_) (fun c30 => ?_)
        · have h := ite_t h c30
          refine j_iconst C (v := (-1)) dX7_carve_170 (by decide) ?_
          exact J171 y3 y4 (-1) _ h
        · have h := ite_f h c30
          refine j_aload_n C (q := 0) dX7_carve_160 rfl rfl ?_
          refine fg_X7_22 C (i := 225) kA_225 dX7_carve_161 ?_
          refine j_iload C (q := 2) dX7_carve_164 rfl ?_
          obtain ⟨g31, h⟩ := gd_some h
          refine j_iald C (i := 230) kA_230 (inA g31 aA_230) dX7_carve_166 ?_
          refine j_goto C (tgt := 171) dX7_carve_167 (by decide) ?_
          exact J171 y3 y4 (t0.1 230 (tc y4)) _ h
  have J92 : ∀ (w0 : Int32) (w1 : Int32) (t0 : St), f_X7_carve_b92 x1 x2 w0 w1 t0 = some (r, t9) → WW G B p l e (RM 4 101 0 0) s m args below meth c 0 0 (MQ below (PostI G B r t9) args s 0 0 (Ab B)) 6 92 [(0, .ref (B + 225)), (1, .int x1), (2, .int x2)] [.int w0, .int w1, .int 45, .ref (B + 226)] t0 := by
    intro w0 w1 t0 h
    refine j_iadd C dX7_carve_92 ?_
    obtain ⟨g32, h⟩ := gd_some h
    refine j_iast C (i := 226) kA_226 (inA g32 aA_226) dX7_carve_93 ?_
    refine j_tops (fun t33 et33 => ?_)
    have h := lt_at h et33
    refine j_aload_n C (q := 0) dX7_carve_94 rfl rfl ?_
    refine j_iload_n C (q := 1) dX7_carve_95 rfl rfl ?_
    refine j_aload_n C (q := 0) dX7_carve_96 rfl rfl ?_
    refine fg_X7_7 C (i := 225) kA_225 dX7_carve_97 ?_
    refine j_bipush C (v := 41) dX7_carve_100 (by decide) ?_
    refine j_iload_n C (q := 2) dX7_carve_102 rfl rfl ?_
    refine j_iadd C dX7_carve_103 ?_
    obtain ⟨g34, h⟩ := gd_some h
    refine j_iald C (i := 226) kA_226 (inA g34 aA_226) dX7_carve_104 ?_
    obtain ⟨t36, e37, h⟩ := bv_some h
    refine j_callV_v C (i := 225) (As := [.int x1, .int (t33.1 226 (tc (41 + x2)))]) (rest := []) (c_X7_lay l G B dy x1 (t33.1 226 (tc (41 + x2))) _ e37) (shp7 G B _ kA_225) (kd_lt kA_225 (by decide)) rfl tw_928 tw_930 tp_47 ti_7 tw_931 hd_X7_lay ⟨Nat.le_of_ble_eq_true rfl, Nat.le_of_ble_eq_true rfl⟩ ⟨Nat.le_of_ble_eq_true rfl, Nat.le_of_ble_eq_true rfl⟩ rfl rfl (Nat.le_of_ble_eq_true rfl) dX7_carve_105 ?_
    refine j_aload_n C (q := 0) dX7_carve_108 rfl rfl ?_
    refine fg_X7_7 C (i := 225) kA_225 dX7_carve_109 ?_
    refine j_bipush C (v := 46) dX7_carve_112 (by decide) ?_
    refine j_iload_n C (q := 1) dX7_carve_114 rfl rfl ?_
    obtain ⟨g38, h⟩ := gd_some h
    refine j_iast C (i := 226) kA_226 (inA g38 aA_226) dX7_carve_115 ?_
    refine j_tops (fun t39 et39 => ?_)
    have h := lt_at h et39
    refine j_aload_n C (q := 0) dX7_carve_116 rfl rfl ?_
    refine fg_X7_7 C (i := 225) kA_225 dX7_carve_117 ?_
    refine j_bipush C (v := 47) dX7_carve_120 (by decide) ?_
    refine j_iload_n C (q := 2) dX7_carve_122 rfl rfl ?_
    obtain ⟨g40, h⟩ := gd_some h
    refine j_iast C (i := 226) kA_226 (inA g40 aA_226) dX7_carve_123 ?_
    refine j_tops (fun t41 et41 => ?_)
    have h := lt_at h et41
    refine j_aload_n C (q := 0) dX7_carve_124 rfl rfl ?_
    refine fg_X7_7 C (i := 225) kA_225 dX7_carve_125 ?_
    refine j_bipush C (v := 48) dX7_carve_128 (by decide) ?_
    refine j_aload_n C (q := 0) dX7_carve_130 rfl rfl ?_
    refine fg_X7_7 C (i := 225) kA_225 dX7_carve_131 ?_
    refine j_iconst C (v := 0) dX7_carve_134 (by decide) ?_
    obtain ⟨g42, h⟩ := gd_some h
    refine j_iald C (i := 226) kA_226 (inA g42 aA_226) dX7_carve_135 ?_
    obtain ⟨g43, h⟩ := gd_some h
    refine j_iast C (i := 226) kA_226 (inA g43 aA_226) dX7_carve_136 ?_
    refine j_tops (fun t44 et44 => ?_)
    have h := lt_at h et44
    refine j_iconst C (v := 0) dX7_carve_137 (by decide) ?_
    refine j_istore_n C [(0, .ref (B + 225)), (1, .int x1), (2, .int x2), (3, .int 0)] [1, 2, 3, 0] dX7_carve_138 rfl (by decide) rfl ?_
    refine j_iconst C (v := 0) dX7_carve_139 (by decide) ?_
    refine j_istore C [(0, .ref (B + 225)), (1, .int x1), (2, .int x2), (3, .int 0), (4, .int 0)] [1, 2, 3, 4, 0] dX7_carve_140 (by decide) rfl ?_
    refine j_sub [0, 3, 4] rfl ?_
    exact J142 FU 0 0 _ h
  have J35 : ∀ (n35 : Nat) (y3 : Int32) (t0 : St), f_X7_carve_l35 n35 x1 x2 y3 t0 = some (r, t9) → WW G B p l e (RM 4 101 0 0) s m args below meth c 0 0 (MQ below (PostI G B r t9) args s 0 0 (Ab B)) 6 35 [(0, .ref (B + 225)), (1, .int x1), (2, .int x2), (3, .int y3)] [] t0 := by
    intro n35
    induction n35 with
    | zero => intro y3 t0 h; exact (no_some h).elim
    | succ n35 ih35 =>
      try clear h
      intro y3 t0 h
      have h : f_X7_carve_b35 (f_X7_carve_l35 n35) x1 x2 y3 t0 = some (r, t9) := h
      refine j_iload_n C (q := 3) dX7_carve_35 rfl rfl ?_
      refine j_bipush C (v := 13) dX7_carve_36 (by decide) ?_
      refine j_icmp_lt C (tgt := 68) dX7_carve_38 (by decide) (fun c45 => ?_) (fun c45 => ?_)
      · have h := ite_t h c45
        refine j_aload_n C (q := 0) dX7_carve_68 rfl rfl ?_
        refine fg_X7_7 C (i := 225) kA_225 dX7_carve_69 ?_
        refine j_bipush C (v := 45) dX7_carve_72 (by decide) ?_
        refine j_dup2 C dX7_carve_74 rfl rfl ?_
        obtain ⟨g46, h⟩ := gd_some h
        refine j_iald C (i := 226) kA_226 (inA g46 aA_226) dX7_carve_75 ?_
        refine j_aload_n C (q := 0) dX7_carve_76 rfl rfl ?_
        refine fg_X7_7 C (i := 225) kA_225 dX7_carve_77 ?_
        refine j_bipush C (v := 45) dX7_carve_80 (by decide) ?_
        obtain ⟨g47, h⟩ := gd_some h
        refine j_iald C (i := 226) kA_226 (inA g47 aA_226) dX7_carve_82 ?_
        refine j_iconst C (v := 5) dX7_carve_83 (by decide) ?_
        refine j_icmp_ge C (tgt := 91) dX7_carve_84 (by decide) (fun c48 => ?_) (fun c48 => ?_)
        · have h := ite_t h c48
          refine j_iconst C (v := 0) dX7_carve_91 (by decide) ?_
          refine j_sub [0, 1, 2] rfl ?_
          exact J92 0 (t0.1 226 (tc 45)) _ h
        · have h := ite_f h c48
          refine j_iconst C (v := 1) dX7_carve_87 (by decide) ?_
          refine j_goto C (tgt := 92) dX7_carve_88 (by decide) ?_
          refine j_sub [0, 1, 2] rfl ?_
          exact J92 1 (t0.1 226 (tc 45)) _ h
      · have h := ite_f h c45
        refine j_aload_n C (q := 0) dX7_carve_41 rfl rfl ?_
        refine fg_X7_7 C (i := 225) kA_225 dX7_carve_42 ?_
        refine j_bipush C (v := 46) dX7_carve_45 (by decide) ?_
        refine j_iload_n C (q := 3) dX7_carve_47 rfl rfl ?_
        refine j_iadd C dX7_carve_48 ?_
        refine j_aload_n C (q := 0) dX7_carve_49 rfl rfl ?_
        refine fg_X7_7 C (i := 225) kA_225 dX7_carve_50 ?_
        refine j_bipush C (v := 46) dX7_carve_53 (by decide) ?_
        refine j_iload_n C (q := 3) dX7_carve_55 rfl rfl ?_
        refine j_iadd C dX7_carve_56 ?_
        refine j_bipush C (v := 13) dX7_carve_57 (by decide) ?_
        refine j_isub C dX7_carve_59 ?_
        obtain ⟨g49, h⟩ := gd_some h
        refine j_iald C (i := 226) kA_226 (inA g49 aA_226) dX7_carve_60 ?_
        obtain ⟨g50, h⟩ := gd_some h
        refine j_iast C (i := 226) kA_226 (inA g50 aA_226) dX7_carve_61 ?_
        refine j_tops (fun t51 et51 => ?_)
        have h := lt_at h et51
        obtain ⟨x52, ex52⟩ : ∃ y : Int32, y = (y3 + (-1)) := ⟨_, rfl⟩
        have h := lt_at h ex52
        refine j_iinc C (q := 3) [(0, .ref (B + 225)), (1, .int x1), (2, .int x2), (3, .int x52)] [1, 2, 3, 0] dX7_carve_62 rfl (by rw [ex52]; rfl) (by decide) rfl ?_
        refine j_goto C (tgt := 35) dX7_carve_65 (by decide) ?_
        exact ih35 x52 _ h
  have J20 : ∀ (w0 : Int32) (t0 : St), f_X7_carve_b20 x1 x2 w0 t0 = some (r, t9) → WW G B p l e (RM 4 101 0 0) s m args below meth c 0 0 (MQ below (PostI G B r t9) args s 0 0 (Ab B)) 6 20 [(0, .ref (B + 225)), (1, .int x1), (2, .int x2)] [.int w0, .ref (B + 225)] t0 := by
    intro w0 t0 h
    obtain ⟨x53, t54, e55, h⟩ := bd_some h
    refine j_callV_i C (i := 225) (As := [.int w0]) (rest := []) (c_X7_holds l G B dy w0 _ e55) (shp7 G B _ kA_225) (kd_lt kA_225 (by decide)) rfl tw_847 tw_849 tp_37 ti_7 tw_850 hd_X7_holds ⟨Nat.le_of_ble_eq_true rfl, Nat.le_of_ble_eq_true rfl⟩ ⟨Nat.le_of_ble_eq_true rfl, Nat.le_of_ble_eq_true rfl⟩ rfl rfl (Nat.le_of_ble_eq_true rfl) dX7_carve_20 ?_
    refine j_if_ne C (tgt := 28) dX7_carve_23 (by decide) (fun c56 => ?_) (fun c56 => ?_)
    · have h := ite_t h c56
      refine j_iconst C (v := 0) dX7_carve_26 (by decide) ?_
      exact j_iret C hr hlk h ⟨Nat.le_of_ble_eq_true rfl, Nat.le_of_ble_eq_true rfl⟩ dX7_carve_27
    · have h := ite_f h c56
      refine j_aload_n C (q := 0) dX7_carve_28 rfl rfl ?_
      obtain ⟨t58, e59, h⟩ := bv_some h
      refine j_callV_v C (i := 225) (As := []) (rest := []) (c_X7_save l G B dy _ e59) (shp7 G B _ kA_225) (kd_lt kA_225 (by decide)) rfl tw_890 tw_892 tp_44 ti_7 tw_893 hd_X7_save ⟨Nat.le_of_ble_eq_true rfl, Nat.le_of_ble_eq_true rfl⟩ ⟨Nat.le_of_ble_eq_true rfl, Nat.le_of_ble_eq_true rfl⟩ rfl rfl (Nat.le_of_ble_eq_true rfl) dX7_carve_29 ?_
      refine j_bipush C (v := 64) dX7_carve_32 (by decide) ?_
      refine j_istore_n C [(0, .ref (B + 225)), (1, .int x1), (2, .int x2), (3, .int 64)] [1, 2, 3, 0] dX7_carve_34 rfl (by decide) rfl ?_
      exact J35 FU 64 _ h
  have J19 : ∀ (t0 : St), f_X7_carve_b19 x1 x2 t0 = some (r, t9) → WW G B p l e (RM 4 101 0 0) s m args below meth c 0 0 (MQ below (PostI G B r t9) args s 0 0 (Ab B)) 6 19 [(0, .ref (B + 225)), (1, .int x1), (2, .int x2)] [.ref (B + 225)] t0 := by
    intro t0 h
    refine j_iconst C (v := 1) dX7_carve_19 (by decide) ?_
    exact J20 1 _ h
  refine j_aload_n C (q := 0) dX7_carve_0 rfl rfl ?_
  refine j_iload_n C (q := 1) dX7_carve_1 rfl rfl ?_
  obtain ⟨x60, t61, e62, h⟩ := bd_some h
  refine j_callS_i C (i := 0) (As := [.int x1]) (rest := [.ref (B + 225)]) (c_X7_isYear l G B dy x1 _ e62) tw_925 tw_926 ti_7 tw_927 ⟨rfl, hd_X7_isYear⟩ ⟨Nat.le_of_ble_eq_true rfl, Nat.le_of_ble_eq_true rfl⟩ ⟨Nat.le_of_ble_eq_true rfl, Nat.le_of_ble_eq_true rfl⟩ rfl rfl (Nat.le_of_ble_eq_true rfl) dX7_carve_2 ?_
  refine j_if_eq C (tgt := 19) dX7_carve_5 (by decide) (fun c63 => ?_) (fun c63 => ?_)
  · have h := ite_t h c63
    exact J19 _ h
  · have h := ite_f h c63
    refine j_iload_n C (q := 2) dX7_carve_8 rfl rfl ?_
    obtain ⟨x64, t65, e66, h⟩ := bd_some h
    refine j_callS_i C (i := 0) (As := [.int x2]) (rest := [.ref (B + 225)]) (c_X7_isCarver l G B dy x2 _ e66) tw_914 tw_915 ti_7 tw_916 ⟨rfl, hd_X7_isCarver⟩ ⟨Nat.le_of_ble_eq_true rfl, Nat.le_of_ble_eq_true rfl⟩ ⟨Nat.le_of_ble_eq_true rfl, Nat.le_of_ble_eq_true rfl⟩ rfl rfl (Nat.le_of_ble_eq_true rfl) dX7_carve_9 ?_
    refine j_if_eq C (tgt := 19) dX7_carve_12 (by decide) (fun c67 => ?_) (fun c67 => ?_)
    · have h := ite_t h c67
      exact J19 _ h
    · have h := ite_f h c67
      refine j_iconst C (v := 0) dX7_carve_15 (by decide) ?_
      refine j_goto C (tgt := 20) dX7_carve_16 (by decide) ?_
      exact J20 0 _ h
set_option maxRecDepth 100000 in
set_option maxHeartbeats 4000000 in
theorem c_X7_isStick (l : Launch) (G : GG) (B dy : Nat) (x1 : Int32) (t0 : St) {r : Int32} {t9 : St} (h : f_X7_isStick x1 t0 = some (r, t9)) : Ct l G B dy yX7_isStick cX7_isStick 2 (some .boolean) 1 22 0 0 [.ref (B + 225), .int x1] t0 (PostI G B r t9) := by
  refine Ct_of (by decide +kernel) [(0, .ref (B + 225)), (1, .int x1)] (Nat.le_of_ble_eq_true rfl) rfl ?_
  intro p e s m args below meth c C hr hlk
  refine j_iload_n C (q := 1) dX7_isStick_0 rfl rfl ?_
  refine j_iconst C (v := 0) dX7_isStick_1 (by decide) ?_
  refine j_aload_n C (q := 0) dX7_isStick_2 rfl rfl ?_
  refine fg_X7_7 C (i := 225) kA_225 dX7_isStick_3 ?_
  refine j_bipush C (v := 45) dX7_isStick_6 (by decide) ?_
  obtain ⟨g21, h⟩ := gd_some h
  refine j_iald C (i := 226) kA_226 (inA g21 aA_226) dX7_isStick_8 ?_
  refine j_iconst C (v := 1) dX7_isStick_9 (by decide) ?_
  refine j_isub C dX7_isStick_10 ?_
  obtain ⟨x22, t23, e24, h⟩ := bd_some h
  refine j_callS_i C (i := 0) (As := [.int x1, .int 0, .int ((t0.1 226 (tc 45)) - 1)]) (rest := []) (c_X7_in l G B dy x1 0 ((t0.1 226 (tc 45)) - 1) _ e24) tw_844 tw_845 ti_7 tw_846 ⟨rfl, hd_X7_in⟩ ⟨Nat.le_of_ble_eq_true rfl, Nat.le_of_ble_eq_true rfl⟩ ⟨Nat.le_of_ble_eq_true rfl, Nat.le_of_ble_eq_true rfl⟩ rfl rfl (Nat.le_of_ble_eq_true rfl) dX7_isStick_11 ?_
  obtain ⟨g25, h⟩ := gd_some h
  exact j_zret C hr hlk (is01_or g25) h ⟨Nat.le_of_ble_eq_true rfl, Nat.le_of_ble_eq_true rfl⟩ dX7_isStick_14
set_option maxRecDepth 100000 in
set_option maxHeartbeats 4000000 in
theorem c_X7_burn (l : Launch) (G : GG) (B dy : Nat) (x1 : Int32) (t0 : St) {r : Int32} {t9 : St} (h : f_X7_burn x1 t0 = some (r, t9)) : Ct l G B dy yX7_burn cX7_burn 4 (some .int) 2 43 0 0 [.ref (B + 225), .int x1] t0 (PostI G B r t9) := by
  refine Ct_of (by decide +kernel) [(0, .ref (B + 225)), (1, .int x1)] (Nat.le_of_ble_eq_true rfl) rfl ?_
  intro p e s m args below meth c C hr hlk
  have J54 : ∀ (n54 : Nat) (y2 : Int32) (y3 : Int32) (t0 : St), f_X7_burn_l54 n54 y2 y3 t0 = some (r, t9) → WW G B p l e (RM 2 43 0 0) s m args below meth c 0 0 (MQ below (PostI G B r t9) args s 0 0 (Ab B)) 4 54 [(0, .ref (B + 225)), (2, .int y2), (3, .int y3)] [] t0 := by
    intro n54
    induction n54 with
    | zero => intro y2 y3 t0 h; exact (no_some h).elim
    | succ n54 ih54 =>
      try clear h
      intro y2 y3 t0 h
      have h : f_X7_burn_b54 (f_X7_burn_l54 n54) y2 y3 t0 = some (r, t9) := h
      refine j_iload_n C (q := 2) dX7_burn_54 rfl rfl ?_
      refine j_aload_n C (q := 0) dX7_burn_55 rfl rfl ?_
      refine fg_X7_7 C (i := 225) kA_225 dX7_burn_56 ?_
      refine j_bipush C (v := 45) dX7_burn_59 (by decide) ?_
      obtain ⟨g21, h⟩ := gd_some h
      refine j_iald C (i := 226) kA_226 (inA g21 aA_226) dX7_burn_61 ?_
      refine j_iconst C (v := 0) dX7_burn_62 (by decide) ?_
      obtain ⟨x22, t23, e24, h⟩ := bd_some h
      refine j_callS_i C (i := 0) (As := [.int (t0.1 226 (tc 45)), .int 0]) (rest := [.int y3]) (c_X7_ofStick l G B dy (t0.1 226 (tc 45)) 0 _ e24) tw_961 tw_962 ti_7 tw_963 ⟨rfl, hd_X7_ofStick⟩ ⟨Nat.le_of_ble_eq_true rfl, Nat.le_of_ble_eq_true rfl⟩ ⟨Nat.le_of_ble_eq_true rfl, Nat.le_of_ble_eq_true rfl⟩ rfl rfl (Nat.le_of_ble_eq_true rfl) dX7_burn_63 ?_
      refine j_icmp_ge C (tgt := 90) dX7_burn_66 (by decide) (fun c25 => ?_) (fun c25 => ?_)
      · have h := ite_t h c25
        refine j_iload_n C (q := 1) dX7_burn_90 rfl rfl ?_
        exact j_iret C hr hlk h ⟨Nat.le_of_ble_eq_true rfl, Nat.le_of_ble_eq_true rfl⟩ dX7_burn_91
      · have h := ite_f h c25
        refine j_aload_n C (q := 0) dX7_burn_69 rfl rfl ?_
        refine fg_X7_7 C (i := 225) kA_225 dX7_burn_70 ?_
        refine j_iload_n C (q := 2) dX7_burn_73 rfl rfl ?_
        refine j_aload_n C (q := 0) dX7_burn_74 rfl rfl ?_
        refine fg_X7_7 C (i := 225) kA_225 dX7_burn_75 ?_
        refine j_iload_n C (q := 2) dX7_burn_78 rfl rfl ?_
        refine j_bipush C (v := 13) dX7_burn_79 (by decide) ?_
        refine j_iadd C dX7_burn_81 ?_
        obtain ⟨g26, h⟩ := gd_some h
        refine j_iald C (i := 226) kA_226 (inA g26 aA_226) dX7_burn_82 ?_
        obtain ⟨g27, h⟩ := gd_some h
        refine j_iast C (i := 226) kA_226 (inA g27 aA_226) dX7_burn_83 ?_
        refine j_tops (fun t28 et28 => ?_)
        have h := lt_at h et28
        obtain ⟨x29, ex29⟩ : ∃ y : Int32, y = (y3 + 1) := ⟨_, rfl⟩
        have h := lt_at h ex29
        refine j_iinc C (q := 2) [(0, .ref (B + 225)), (2, .int y2), (3, .int x29)] [1, 2, 0] dX7_burn_84 rfl (by rw [ex29]; rfl) (by decide) rfl ?_
        refine j_goto C (tgt := 54) dX7_burn_87 (by decide) ?_
        exact ih54 y2 x29 _ h
  have J14 : ∀ (w0 : Int32) (t0 : St), f_X7_burn_b14 x1 w0 t0 = some (r, t9) → WW G B p l e (RM 2 43 0 0) s m args below meth c 0 0 (MQ below (PostI G B r t9) args s 0 0 (Ab B)) 4 14 [(0, .ref (B + 225)), (1, .int x1)] [.int w0, .ref (B + 225)] t0 := by
    intro w0 t0 h
    obtain ⟨x30, t31, e32, h⟩ := bd_some h
    refine j_callV_i C (i := 225) (As := [.int w0]) (rest := []) (c_X7_holds l G B dy w0 _ e32) (shp7 G B _ kA_225) (kd_lt kA_225 (by decide)) rfl tw_847 tw_849 tp_37 ti_7 tw_850 hd_X7_holds ⟨Nat.le_of_ble_eq_true rfl, Nat.le_of_ble_eq_true rfl⟩ ⟨Nat.le_of_ble_eq_true rfl, Nat.le_of_ble_eq_true rfl⟩ rfl rfl (Nat.le_of_ble_eq_true rfl) dX7_burn_14 ?_
    refine j_if_ne C (tgt := 22) dX7_burn_17 (by decide) (fun c33 => ?_) (fun c33 => ?_)
    · have h := ite_t h c33
      refine j_iconst C (v := 0) dX7_burn_20 (by decide) ?_
      exact j_iret C hr hlk h ⟨Nat.le_of_ble_eq_true rfl, Nat.le_of_ble_eq_true rfl⟩ dX7_burn_21
    · have h := ite_f h c33
      refine j_aload_n C (q := 0) dX7_burn_22 rfl rfl ?_
      obtain ⟨t35, e36, h⟩ := bv_some h
      refine j_callV_v C (i := 225) (As := []) (rest := []) (c_X7_save l G B dy _ e36) (shp7 G B _ kA_225) (kd_lt kA_225 (by decide)) rfl tw_890 tw_892 tp_44 ti_7 tw_893 hd_X7_save ⟨Nat.le_of_ble_eq_true rfl, Nat.le_of_ble_eq_true rfl⟩ ⟨Nat.le_of_ble_eq_true rfl, Nat.le_of_ble_eq_true rfl⟩ rfl rfl (Nat.le_of_ble_eq_true rfl) dX7_burn_23 ?_
      refine j_aload_n C (q := 0) dX7_burn_26 rfl rfl ?_
      refine fg_X7_7 C (i := 225) kA_225 dX7_burn_27 ?_
      refine j_iload_n C (q := 1) dX7_burn_30 rfl rfl ?_
      refine j_iconst C (v := 0) dX7_burn_31 (by decide) ?_
      obtain ⟨x37, t38, e39, h⟩ := bd_some h
      refine j_callS_i C (i := 0) (As := [.int x1, .int 0]) (rest := [.ref (B + 226)]) (c_X7_ofStick l G B dy x1 0 _ e39) tw_961 tw_962 ti_7 tw_963 ⟨rfl, hd_X7_ofStick⟩ ⟨Nat.le_of_ble_eq_true rfl, Nat.le_of_ble_eq_true rfl⟩ ⟨Nat.le_of_ble_eq_true rfl, Nat.le_of_ble_eq_true rfl⟩ rfl rfl (Nat.le_of_ble_eq_true rfl) dX7_burn_32 ?_
      obtain ⟨g40, h⟩ := gd_some h
      refine j_iald C (i := 226) kA_226 (inA g40 aA_226) dX7_burn_35 ?_
      refine j_topi (fun x41 ex41 => ?_)
      have h := lt_at h ex41
      refine j_istore_n C [(0, .ref (B + 225)), (1, .int x1), (2, .int x41)] [1, 2, 0] dX7_burn_36 rfl (by decide) rfl ?_
      refine j_aload_n C (q := 0) dX7_burn_37 rfl rfl ?_
      refine fg_X7_7 C (i := 225) kA_225 dX7_burn_38 ?_
      refine j_bipush C (v := 45) dX7_burn_41 (by decide) ?_
      refine j_dup2 C dX7_burn_43 rfl rfl ?_
      obtain ⟨g42, h⟩ := gd_some h
      refine j_iald C (i := 226) kA_226 (inA g42 aA_226) dX7_burn_44 ?_
      refine j_iconst C (v := 1) dX7_burn_45 (by decide) ?_
      refine j_isub C dX7_burn_46 ?_
      obtain ⟨g43, h⟩ := gd_some h
      refine j_iast C (i := 226) kA_226 (inA g43 aA_226) dX7_burn_47 ?_
      refine j_tops (fun t44 et44 => ?_)
      have h := lt_at h et44
      refine j_iload_n C (q := 1) dX7_burn_48 rfl rfl ?_
      refine j_iconst C (v := 0) dX7_burn_49 (by decide) ?_
      obtain ⟨x45, t46, e47, h⟩ := bd_some h
      refine j_callS_i C (i := 0) (As := [.int x1, .int 0]) (rest := []) (c_X7_ofStick l G B dy x1 0 _ e47) tw_961 tw_962 ti_7 tw_963 ⟨rfl, hd_X7_ofStick⟩ ⟨Nat.le_of_ble_eq_true rfl, Nat.le_of_ble_eq_true rfl⟩ ⟨Nat.le_of_ble_eq_true rfl, Nat.le_of_ble_eq_true rfl⟩ rfl rfl (Nat.le_of_ble_eq_true rfl) dX7_burn_50 ?_
      refine j_istore_n C [(0, .ref (B + 225)), (1, .int x1), (2, .int x41), (3, .int x45)] [1, 2, 3, 0] dX7_burn_53 rfl (by decide) rfl ?_
      refine j_sub [0, 2, 3] rfl ?_
      exact J54 FU x41 x45 _ h
  refine j_aload_n C (q := 0) dX7_burn_0 rfl rfl ?_
  refine j_aload_n C (q := 0) dX7_burn_1 rfl rfl ?_
  refine j_iload_n C (q := 1) dX7_burn_2 rfl rfl ?_
  obtain ⟨x48, t49, e50, h⟩ := bd_some h
  refine j_callV_i C (i := 225) (As := [.int x1]) (rest := [.ref (B + 225)]) (c_X7_isStick l G B dy x1 _ e50) (shp7 G B _ kA_225) (kd_lt kA_225 (by decide)) rfl tw_957 tw_959 tp_51 ti_7 tw_960 hd_X7_isStick ⟨Nat.le_of_ble_eq_true rfl, Nat.le_of_ble_eq_true rfl⟩ ⟨Nat.le_of_ble_eq_true rfl, Nat.le_of_ble_eq_true rfl⟩ rfl rfl (Nat.le_of_ble_eq_true rfl) dX7_burn_3 ?_
  refine j_if_eq C (tgt := 13) dX7_burn_6 (by decide) (fun c51 => ?_) (fun c51 => ?_)
  · have h := ite_t h c51
    refine j_iconst C (v := 1) dX7_burn_13 (by decide) ?_
    exact J14 1 _ h
  · have h := ite_f h c51
    refine j_iconst C (v := 0) dX7_burn_9 (by decide) ?_
    refine j_goto C (tgt := 14) dX7_burn_10 (by decide) ?_
    exact J14 0 _ h
set_option maxRecDepth 100000 in
set_option maxHeartbeats 4000000 in
theorem c_X7_undo (l : Launch) (G : GG) (B dy : Nat) (t0 : St) {r : Int32} {t9 : St} (h : f_X7_undo t0 = some (r, t9)) : Ct l G B dy yX7_undo cX7_undo 2 (some .int) 1 21 0 0 [.ref (B + 225)] t0 (PostI G B r t9) := by
  refine Ct_of (by decide +kernel) [(0, .ref (B + 225))] (Nat.le_of_ble_eq_true rfl) rfl ?_
  intro p e s m args below meth c C hr hlk
  have J33 : ∀ (n33 : Nat) (y1 : Int32) (t0 : St), f_X7_undo_l33 n33 y1 t0 = some (r, t9) → WW G B p l e (RM 1 21 0 0) s m args below meth c 0 0 (MQ below (PostI G B r t9) args s 0 0 (Ab B)) 2 33 [(0, .ref (B + 225)), (1, .int y1)] [] t0 := by
    intro n33
    induction n33 with
    | zero => intro y1 t0 h; exact (no_some h).elim
    | succ n33 ih33 =>
      try clear h
      intro y1 t0 h
      have h : f_X7_undo_b33 (f_X7_undo_l33 n33) y1 t0 = some (r, t9) := h
      refine j_iload_n C (q := 1) dX7_undo_33 rfl rfl ?_
      refine j_bipush C (v := 111) dX7_undo_34 (by decide) ?_
      refine j_icmp_ge C (tgt := 65) dX7_undo_36 (by decide) (fun c21 => ?_) (fun c21 => ?_)
      · have h := ite_t h c21
        refine j_aload_n C (q := 0) dX7_undo_65 rfl rfl ?_
        refine fg_X7_46 C (i := 225) kA_225 dX7_undo_66 ?_
        exact j_iret C hr hlk h ⟨Nat.le_of_ble_eq_true rfl, Nat.le_of_ble_eq_true rfl⟩ dX7_undo_69
      · have h := ite_f h c21
        refine j_aload_n C (q := 0) dX7_undo_39 rfl rfl ?_
        refine fg_X7_7 C (i := 225) kA_225 dX7_undo_40 ?_
        refine j_iload_n C (q := 1) dX7_undo_43 rfl rfl ?_
        refine j_aload_n C (q := 0) dX7_undo_44 rfl rfl ?_
        refine fg_X7_13 C (i := 225) kA_225 dX7_undo_45 ?_
        refine j_bipush C (v := 111) dX7_undo_48 (by decide) ?_
        refine j_aload_n C (q := 0) dX7_undo_50 rfl rfl ?_
        refine fg_X7_46 C (i := 225) kA_225 dX7_undo_51 ?_
        refine j_imul C dX7_undo_54 ?_
        refine j_iload_n C (q := 1) dX7_undo_55 rfl rfl ?_
        refine j_iadd C dX7_undo_56 ?_
        obtain ⟨g22, h⟩ := gd_some h
        refine j_iald C (i := 227) kA_227 (inA g22 aA_227) dX7_undo_57 ?_
        obtain ⟨g23, h⟩ := gd_some h
        refine j_iast C (i := 226) kA_226 (inA g23 aA_226) dX7_undo_58 ?_
        refine j_tops (fun t24 et24 => ?_)
        have h := lt_at h et24
        obtain ⟨x25, ex25⟩ : ∃ y : Int32, y = (y1 + 1) := ⟨_, rfl⟩
        have h := lt_at h ex25
        refine j_iinc C (q := 1) [(0, .ref (B + 225)), (1, .int x25)] [1, 0] dX7_undo_59 rfl (by rw [ex25]; rfl) (by decide) rfl ?_
        refine j_goto C (tgt := 33) dX7_undo_62 (by decide) ?_
        exact ih33 x25 _ h
  have J13 : ∀ (w0 : Int32) (t0 : St), f_X7_undo_b13 w0 t0 = some (r, t9) → WW G B p l e (RM 1 21 0 0) s m args below meth c 0 0 (MQ below (PostI G B r t9) args s 0 0 (Ab B)) 2 13 [(0, .ref (B + 225))] [.int w0, .ref (B + 225)] t0 := by
    intro w0 t0 h
    obtain ⟨x26, t27, e28, h⟩ := bd_some h
    refine j_callV_i C (i := 225) (As := [.int w0]) (rest := []) (c_X7_holds l G B dy w0 _ e28) (shp7 G B _ kA_225) (kd_lt kA_225 (by decide)) rfl tw_847 tw_849 tp_37 ti_7 tw_850 hd_X7_holds ⟨Nat.le_of_ble_eq_true rfl, Nat.le_of_ble_eq_true rfl⟩ ⟨Nat.le_of_ble_eq_true rfl, Nat.le_of_ble_eq_true rfl⟩ rfl rfl (Nat.le_of_ble_eq_true rfl) dX7_undo_13 ?_
    refine j_if_ne C (tgt := 21) dX7_undo_16 (by decide) (fun c29 => ?_) (fun c29 => ?_)
    · have h := ite_t h c29
      refine j_iconst C (v := 0) dX7_undo_19 (by decide) ?_
      exact j_iret C hr hlk h ⟨Nat.le_of_ble_eq_true rfl, Nat.le_of_ble_eq_true rfl⟩ dX7_undo_20
    · have h := ite_f h c29
      refine j_aload_n C (q := 0) dX7_undo_21 rfl rfl ?_
      refine j_dup C dX7_undo_22 rfl ?_
      refine fg_X7_46 C (i := 225) kA_225 dX7_undo_23 ?_
      refine j_iconst C (v := 1) dX7_undo_26 (by decide) ?_
      refine j_isub C dX7_undo_27 ?_
      refine fp_X7_46 C (i := 225) kA_225 dX7_undo_28 ?_
      refine j_tops (fun t30 et30 => ?_)
      have h := lt_at h et30
      refine j_iconst C (v := 0) dX7_undo_31 (by decide) ?_
      refine j_istore_n C [(0, .ref (B + 225)), (1, .int 0)] [1, 0] dX7_undo_32 rfl (by decide) rfl ?_
      exact J33 FU 0 _ h
  refine j_aload_n C (q := 0) dX7_undo_0 rfl rfl ?_
  refine j_aload_n C (q := 0) dX7_undo_1 rfl rfl ?_
  refine fg_X7_46 C (i := 225) kA_225 dX7_undo_2 ?_
  refine j_if_le C (tgt := 12) dX7_undo_5 (by decide) (fun c31 => ?_) (fun c31 => ?_)
  · have h := ite_t h c31
    refine j_iconst C (v := 1) dX7_undo_12 (by decide) ?_
    exact J13 1 _ h
  · have h := ite_f h c31
    refine j_iconst C (v := 0) dX7_undo_8 (by decide) ?_
    refine j_goto C (tgt := 13) dX7_undo_9 (by decide) ?_
    exact J13 0 _ h
set_option maxRecDepth 100000 in
set_option maxHeartbeats 4000000 in
theorem c_X7_feastOn (l : Launch) (G : GG) (B dy : Nat) (x1 : Int32) (x2 : Int32) (t0 : St) {r : Int32} {t9 : St} (h : f_X7_feastOn x1 x2 t0 = some (r, t9)) : Ct l G B dy yX7_feastOn cX7_feastOn 4 (some .int) 5 124 0 0 [.ref (B + 225), .int x1, .int x2] t0 (PostI G B r t9) := by
  refine Ct_of (by decide +kernel) [(0, .ref (B + 225)), (1, .int x1), (2, .int x2)] (Nat.le_of_ble_eq_true rfl) rfl ?_
  intro p e s m args below meth c C hr hlk
  have J7 : ∀ (n7 : Nat) (y3 : Int32) (t0 : St), f_X7_feastOn_l7 n7 x2 y3 t0 = some (r, t9) → WW G B p l e (RM 5 124 0 0) s m args below meth c 0 0 (MQ below (PostI G B r t9) args s 0 0 (Ab B)) 4 7 [(0, .ref (B + 225)), (2, .int x2), (3, .int y3)] [] t0 := by
    intro n7
    induction n7 with
    | zero => intro y3 t0 h; exact (no_some h).elim
    | succ n7 ih7 =>
      try clear h
      intro y3 t0 h
      have h : f_X7_feastOn_b7 (f_X7_feastOn_l7 n7) x2 y3 t0 = some (r, t9) := h
      refine j_iload_n C (q := 2) dX7_feastOn_7 rfl rfl ?_
      refine j_aload_n C (q := 0) dX7_feastOn_8 rfl rfl ?_
      refine fg_X7_7 C (i := 225) kA_225 dX7_feastOn_9 ?_
      refine j_iconst C (v := 0) dX7_feastOn_12 (by decide) ?_
      obtain ⟨g21, h⟩ := gd_some h
      refine j_iald C (i := 226) kA_226 (inA g21 aA_226) dX7_feastOn_13 ?_
      refine j_icmp_ge C (tgt := 34) dX7_feastOn_14 (by decide) (fun c22 => ?_) (fun c22 => ?_)
      · have h := ite_t h c22
        refine j_iconst C (v := (-1)) dX7_feastOn_34 (by decide) ?_
        exact j_iret C hr hlk h ⟨Nat.le_of_ble_eq_true rfl, Nat.le_of_ble_eq_true rfl⟩ dX7_feastOn_35
      · have h := ite_f h c22
        refine j_aload_n C (q := 0) dX7_feastOn_17 rfl rfl ?_
        refine j_iload_n C (q := 2) dX7_feastOn_18 rfl rfl ?_
        obtain ⟨x23, t24, e25, h⟩ := bd_some h
        refine j_callV_i C (i := 225) (As := [.int y3]) (rest := []) (c_X7_settledBy l G B dy y3 _ e25) (shp7 G B _ kA_225) (kd_lt kA_225 (by decide)) rfl tw_984 tw_986 tp_55 ti_7 tw_987 hd_X7_settledBy ⟨Nat.le_of_ble_eq_true rfl, Nat.le_of_ble_eq_true rfl⟩ ⟨Nat.le_of_ble_eq_true rfl, Nat.le_of_ble_eq_true rfl⟩ rfl rfl (Nat.le_of_ble_eq_true rfl) dX7_feastOn_19 ?_
        refine j_iload_n C (q := 1) dX7_feastOn_22 rfl rfl ?_
        refine j_icmp_ne C (tgt := 28) dX7_feastOn_23 (by decide) (fun c26 => ?_) (fun c26 => ?_)
        · have h := ite_t h c26
          refine j_iload_n C (q := 2) dX7_feastOn_26 rfl rfl ?_
          exact j_iret C hr hlk h ⟨Nat.le_of_ble_eq_true rfl, Nat.le_of_ble_eq_true rfl⟩ dX7_feastOn_27
        · have h := ite_f h c26
          obtain ⟨x27, ex27⟩ : ∃ y : Int32, y = (y3 + 1) := ⟨_, rfl⟩
          have h := lt_at h ex27
          refine j_iinc C (q := 2) [(0, .ref (B + 225)), (2, .int x2), (3, .int x27)] [1, 2, 0] dX7_feastOn_28 rfl (by rw [ex27]; rfl) (by decide) rfl ?_
          refine j_goto C (tgt := 7) dX7_feastOn_31 (by decide) ?_
          exact ih7 x27 _ h
  refine j_aload_n C (q := 0) dX7_feastOn_0 rfl rfl ?_
  refine j_iload_n C (q := 1) dX7_feastOn_1 rfl rfl ?_
  obtain ⟨t29, e30, h⟩ := bv_some h
  refine j_callV_v C (i := 225) (As := [.int x1]) (rest := []) (c_X7_layAll l G B dy x1 _ e30) (shp7 G B _ kA_225) (kd_lt kA_225 (by decide)) rfl tw_980 tw_982 tp_54 ti_7 tw_983 hd_X7_layAll ⟨Nat.le_of_ble_eq_true rfl, Nat.le_of_ble_eq_true rfl⟩ ⟨Nat.le_of_ble_eq_true rfl, Nat.le_of_ble_eq_true rfl⟩ rfl rfl (Nat.le_of_ble_eq_true rfl) dX7_feastOn_2 ?_
  refine j_iconst C (v := 0) dX7_feastOn_5 (by decide) ?_
  refine j_istore_n C [(0, .ref (B + 225)), (1, .int x1), (2, .int x2), (3, .int 0)] [1, 2, 3, 0] dX7_feastOn_6 rfl (by decide) rfl ?_
  refine j_sub [0, 2, 3] rfl ?_
  exact J7 FU 0 _ h
set_option maxRecDepth 100000 in
set_option maxHeartbeats 4000000 in
theorem c_X7_aboutDay (l : Launch) (G : GG) (B dy : Nat) (x1 : Int32) (x2 : Int32) (x3 : Int32) (t0 : St) {r : Int32} {t9 : St} (h : f_X7_aboutDay x1 x2 x3 t0 = some (r, t9)) : Ct l G B dy yX7_aboutDay cX7_aboutDay 4 (some .int) 6 147 0 0 [.ref (B + 225), .int x1, .int x2, .int x3] t0 (PostI G B r t9) := by
  refine Ct_of (by decide +kernel) [(0, .ref (B + 225)), (1, .int x1), (2, .int x2), (3, .int x3)] (Nat.le_of_ble_eq_true rfl) rfl ?_
  intro p e s m args below meth c C hr hlk
  refine j_iload_n C (q := 2) dX7_aboutDay_0 rfl rfl ?_
  refine j_iload_n C (q := 1) dX7_aboutDay_1 rfl rfl ?_
  obtain ⟨x21, t22, e23, h⟩ := bd_some h
  refine j_callS_i C (i := 0) (As := [.int x1]) (rest := [.int x2]) (c_X7_daysOf l G B dy x1 _ e23) tw_940 tw_941 ti_7 tw_942 ⟨rfl, hd_X7_daysOf⟩ ⟨Nat.le_of_ble_eq_true rfl, Nat.le_of_ble_eq_true rfl⟩ ⟨Nat.le_of_ble_eq_true rfl, Nat.le_of_ble_eq_true rfl⟩ rfl rfl (Nat.le_of_ble_eq_true rfl) dX7_aboutDay_2 ?_
  refine j_icmp_lt C (tgt := 12) dX7_aboutDay_5 (by decide) (fun c24 => ?_) (fun c24 => ?_)
  · have h := ite_t h c24
    refine j_iload_n C (q := 3) dX7_aboutDay_12 rfl rfl ?_
    refine j_if_ne C (tgt := 24) dX7_aboutDay_13 (by decide) (fun c25 => ?_) (fun c25 => ?_)
    · have h := ite_t h c25
      refine j_iload_n C (q := 1) dX7_aboutDay_16 rfl rfl ?_
      refine j_iload_n C (q := 2) dX7_aboutDay_17 rfl rfl ?_
      obtain ⟨x34, t35, e36, h⟩ := bd_some h
      refine j_callS_i C (i := 0) (As := [.int x1, .int x2]) (rest := []) (c_X7_weekday l G B dy x1 x2 _ e36) tw_950 tw_951 ti_7 tw_952 ⟨rfl, hd_X7_weekday⟩ ⟨Nat.le_of_ble_eq_true rfl, Nat.le_of_ble_eq_true rfl⟩ ⟨Nat.le_of_ble_eq_true rfl, Nat.le_of_ble_eq_true rfl⟩ rfl rfl (Nat.le_of_ble_eq_true rfl) dX7_aboutDay_18 ?_
      refine j_goto C (tgt := 51) dX7_aboutDay_21 (by decide) ?_
      exact j_iret C hr hlk h ⟨Nat.le_of_ble_eq_true rfl, Nat.le_of_ble_eq_true rfl⟩ dX7_aboutDay_51
    · have h := ite_f h c25
      refine j_iload_n C (q := 3) dX7_aboutDay_24 rfl rfl ?_
      refine j_iconst C (v := 1) dX7_aboutDay_25 (by decide) ?_
      refine j_icmp_ne C (tgt := 45) dX7_aboutDay_26 (by decide) (fun c26 => ?_) (fun c26 => ?_)
      · have h := ite_t h c26
        refine j_aload_n C (q := 0) dX7_aboutDay_29 rfl rfl ?_
        refine j_iload_n C (q := 1) dX7_aboutDay_30 rfl rfl ?_
        refine j_iload_n C (q := 2) dX7_aboutDay_31 rfl rfl ?_
        refine j_aload_n C (q := 0) dX7_aboutDay_32 rfl rfl ?_
        refine fg_X7_7 C (i := 225) kA_225 dX7_aboutDay_33 ?_
        refine j_bipush C (v := 41) dX7_aboutDay_36 (by decide) ?_
        obtain ⟨g30, h⟩ := gd_some h
        refine j_iald C (i := 226) kA_226 (inA g30 aA_226) dX7_aboutDay_38 ?_
        obtain ⟨x31, t32, e33, h⟩ := bd_some h
        refine j_callV_i C (i := 225) (As := [.int x1, .int x2, .int (t22.1 226 (tc 41))]) (rest := []) (c_X7_age l G B dy x1 x2 (t22.1 226 (tc 41)) _ e33) (shp7 G B _ kA_225) (kd_lt kA_225 (by decide)) rfl tw_943 tw_945 tp_50 ti_7 tw_946 hd_X7_age ⟨Nat.le_of_ble_eq_true rfl, Nat.le_of_ble_eq_true rfl⟩ ⟨Nat.le_of_ble_eq_true rfl, Nat.le_of_ble_eq_true rfl⟩ rfl rfl (Nat.le_of_ble_eq_true rfl) dX7_aboutDay_39 ?_
        refine j_goto C (tgt := 51) dX7_aboutDay_42 (by decide) ?_
        exact j_iret C hr hlk h ⟨Nat.le_of_ble_eq_true rfl, Nat.le_of_ble_eq_true rfl⟩ dX7_aboutDay_51
      · have h := ite_f h c26
        refine j_aload_n C (q := 0) dX7_aboutDay_45 rfl rfl ?_
        refine j_iload_n C (q := 1) dX7_aboutDay_46 rfl rfl ?_
        refine j_iload_n C (q := 2) dX7_aboutDay_47 rfl rfl ?_
        obtain ⟨x27, t28, e29, h⟩ := bd_some h
        refine j_callV_i C (i := 225) (As := [.int x1, .int x2]) (rest := []) (c_X7_feastOn l G B dy x1 x2 _ e29) (shp7 G B _ kA_225) (kd_lt kA_225 (by decide)) rfl tw_976 tw_978 tp_53 ti_7 tw_979 hd_X7_feastOn ⟨Nat.le_of_ble_eq_true rfl, Nat.le_of_ble_eq_true rfl⟩ ⟨Nat.le_of_ble_eq_true rfl, Nat.le_of_ble_eq_true rfl⟩ rfl rfl (Nat.le_of_ble_eq_true rfl) dX7_aboutDay_48 ?_
        exact j_iret C hr hlk h ⟨Nat.le_of_ble_eq_true rfl, Nat.le_of_ble_eq_true rfl⟩ dX7_aboutDay_51
  · have h := ite_f h c24
    refine j_iconst C (v := (-1)) dX7_aboutDay_8 (by decide) ?_
    refine j_goto C (tgt := 51) dX7_aboutDay_9 (by decide) ?_
    exact j_iret C hr hlk h ⟨Nat.le_of_ble_eq_true rfl, Nat.le_of_ble_eq_true rfl⟩ dX7_aboutDay_51
set_option maxRecDepth 100000 in
set_option maxHeartbeats 4000000 in
theorem c_X7_day (l : Launch) (G : GG) (B dy : Nat) (x1 : Int32) (x2 : Int32) (x3 : Int32) (t0 : St) {r : Int32} {t9 : St} (h : f_X7_day x1 x2 x3 t0 = some (r, t9)) : Ct l G B dy yX7_day cX7_day 4 (some .int) 7 170 0 0 [.ref (B + 225), .int x1, .int x2, .int x3] t0 (PostI G B r t9) := by
  refine Ct_of (by decide +kernel) [(0, .ref (B + 225)), (1, .int x1), (2, .int x2), (3, .int x3)] (Nat.le_of_ble_eq_true rfl) rfl ?_
  intro p e s m args below meth c C hr hlk
  have J33 : ∀ (w0 : Int32) (t0 : St), f_X7_day_b33 x1 x2 x3 w0 t0 = some (r, t9) → WW G B p l e (RM 7 170 0 0) s m args below meth c 0 0 (MQ below (PostI G B r t9) args s 0 0 (Ab B)) 4 33 [(0, .ref (B + 225)), (1, .int x1), (2, .int x2), (3, .int x3)] [.int w0, .ref (B + 225)] t0 := by
    intro w0 t0 h
    obtain ⟨x21, t22, e23, h⟩ := bd_some h
    refine j_callV_i C (i := 225) (As := [.int w0]) (rest := []) (c_X7_holds l G B dy w0 _ e23) (shp7 G B _ kA_225) (kd_lt kA_225 (by decide)) rfl tw_847 tw_849 tp_37 ti_7 tw_850 hd_X7_holds ⟨Nat.le_of_ble_eq_true rfl, Nat.le_of_ble_eq_true rfl⟩ ⟨Nat.le_of_ble_eq_true rfl, Nat.le_of_ble_eq_true rfl⟩ rfl rfl (Nat.le_of_ble_eq_true rfl) dX7_day_33 ?_
    refine j_if_eq C (tgt := 49) dX7_day_36 (by decide) (fun c24 => ?_) (fun c24 => ?_)
    · have h := ite_t h c24
      refine j_iconst C (v := 0) dX7_day_49 (by decide) ?_
      exact j_iret C hr hlk h ⟨Nat.le_of_ble_eq_true rfl, Nat.le_of_ble_eq_true rfl⟩ dX7_day_50
    · have h := ite_f h c24
      refine j_aload_n C (q := 0) dX7_day_39 rfl rfl ?_
      refine j_iload_n C (q := 1) dX7_day_40 rfl rfl ?_
      refine j_iload_n C (q := 2) dX7_day_41 rfl rfl ?_
      refine j_iload_n C (q := 3) dX7_day_42 rfl rfl ?_
      obtain ⟨x25, t26, e27, h⟩ := bd_some h
      refine j_callV_i C (i := 225) (As := [.int x1, .int x2, .int x3]) (rest := []) (c_X7_aboutDay l G B dy x1 x2 x3 _ e27) (shp7 G B _ kA_225) (kd_lt kA_225 (by decide)) rfl tw_972 tw_974 tp_52 ti_7 tw_975 hd_X7_aboutDay ⟨Nat.le_of_ble_eq_true rfl, Nat.le_of_ble_eq_true rfl⟩ ⟨Nat.le_of_ble_eq_true rfl, Nat.le_of_ble_eq_true rfl⟩ rfl rfl (Nat.le_of_ble_eq_true rfl) dX7_day_43 ?_
      refine j_goto C (tgt := 50) dX7_day_46 (by decide) ?_
      exact j_iret C hr hlk h ⟨Nat.le_of_ble_eq_true rfl, Nat.le_of_ble_eq_true rfl⟩ dX7_day_50
  have J32 : ∀ (t0 : St), f_X7_day_b32 x1 x2 x3 t0 = some (r, t9) → WW G B p l e (RM 7 170 0 0) s m args below meth c 0 0 (MQ below (PostI G B r t9) args s 0 0 (Ab B)) 4 32 [(0, .ref (B + 225)), (1, .int x1), (2, .int x2), (3, .int x3)] [.ref (B + 225)] t0 := by
    intro t0 h
    refine j_iconst C (v := 1) dX7_day_32 (by decide) ?_
    exact J33 1 _ h
  refine j_aload_n C (q := 0) dX7_day_0 rfl rfl ?_
  refine j_iload_n C (q := 1) dX7_day_1 rfl rfl ?_
  obtain ⟨x28, t29, e30, h⟩ := bd_some h
  refine j_callS_i C (i := 0) (As := [.int x1]) (rest := [.ref (B + 225)]) (c_X7_isYear l G B dy x1 _ e30) tw_925 tw_926 ti_7 tw_927 ⟨rfl, hd_X7_isYear⟩ ⟨Nat.le_of_ble_eq_true rfl, Nat.le_of_ble_eq_true rfl⟩ ⟨Nat.le_of_ble_eq_true rfl, Nat.le_of_ble_eq_true rfl⟩ rfl rfl (Nat.le_of_ble_eq_true rfl) dX7_day_2 ?_
  refine j_if_eq C (tgt := 32) dX7_day_5 (by decide) (fun c31 => ?_) (fun c31 => ?_)
  · have h := ite_t h c31
    exact J32 _ h
  · have h := ite_f h c31
    refine j_iload_n C (q := 2) dX7_day_8 rfl rfl ?_
    refine j_iconst C (v := 0) dX7_day_9 (by decide) ?_
    refine j_sipush C (v := 365) dX7_day_10 (by decide) ?_
    obtain ⟨x32, t33, e34, h⟩ := bd_some h
    refine j_callS_i C (i := 0) (As := [.int x2, .int 0, .int 365]) (rest := [.ref (B + 225)]) (c_X7_in l G B dy x2 0 365 _ e34) tw_844 tw_845 ti_7 tw_846 ⟨rfl, hd_X7_in⟩ ⟨Nat.le_of_ble_eq_true rfl, Nat.le_of_ble_eq_true rfl⟩ ⟨Nat.le_of_ble_eq_true rfl, Nat.le_of_ble_eq_true rfl⟩ rfl rfl (Nat.le_of_ble_eq_true rfl) dX7_day_13 ?_
    refine j_if_eq C (tgt := 32) dX7_day_16 (by decide) (fun c35 => ?_) (fun c35 => ?_)
    · have h := ite_t h c35
      exact J32 _ h
    · have h := ite_f h c35
      refine j_iload_n C (q := 3) dX7_day_19 rfl rfl ?_
      refine j_iconst C (v := 0) dX7_day_20 (by decide) ?_
      refine j_iconst C (v := 2) dX7_day_21 (by decide) ?_
      obtain ⟨x36, t37, e38, h⟩ := bd_some h
      refine j_callS_i C (i := 0) (As := [.int x3, .int 0, .int 2]) (rest := [.ref (B + 225)]) (c_X7_in l G B dy x3 0 2 _ e38) tw_844 tw_845 ti_7 tw_846 ⟨rfl, hd_X7_in⟩ ⟨Nat.le_of_ble_eq_true rfl, Nat.le_of_ble_eq_true rfl⟩ ⟨Nat.le_of_ble_eq_true rfl, Nat.le_of_ble_eq_true rfl⟩ rfl rfl (Nat.le_of_ble_eq_true rfl) dX7_day_22 ?_
      refine j_if_eq C (tgt := 32) dX7_day_25 (by decide) (fun c39 => ?_) (fun c39 => ?_)
      · have h := ite_t h c39
        exact J32 _ h
      · have h := ite_f h c39
        refine j_iconst C (v := 0) dX7_day_28 (by decide) ?_
        refine j_goto C (tgt := 33) dX7_day_29 (by decide) ?_
        exact J33 0 _ h
set_option maxRecDepth 100000 in
set_option maxHeartbeats 4000000 in
theorem c_X7_ofFeast (l : Launch) (G : GG) (B dy : Nat) (x1 : Int32) (x2 : Int32) (t0 : St) {r : Int32} {t9 : St} (h : f_X7_ofFeast x1 x2 t0 = some (r, t9)) : Ct l G B dy yX7_ofFeast cX7_ofFeast 4 (some .int) 1 21 0 0 [.ref (B + 225), .int x1, .int x2] t0 (PostI G B r t9) := by
  refine Ct_of (by decide +kernel) [(0, .ref (B + 225)), (1, .int x1), (2, .int x2)] (Nat.le_of_ble_eq_true rfl) rfl ?_
  intro p e s m args below meth c C hr hlk
  refine j_aload_n C (q := 0) dX7_ofFeast_0 rfl rfl ?_
  refine fg_X7_7 C (i := 225) kA_225 dX7_ofFeast_1 ?_
  refine j_iload_n C (q := 1) dX7_ofFeast_4 rfl rfl ?_
  refine j_iload_n C (q := 2) dX7_ofFeast_5 rfl rfl ?_
  obtain ⟨x21, t22, e23, h⟩ := bd_some h
  refine j_callS_i C (i := 0) (As := [.int x1, .int x2]) (rest := [.ref (B + 226)]) (c_X7_of l G B dy x1 x2 _ e23) tw_883 tw_884 ti_7 tw_885 ⟨rfl, hd_X7_of⟩ ⟨Nat.le_of_ble_eq_true rfl, Nat.le_of_ble_eq_true rfl⟩ ⟨Nat.le_of_ble_eq_true rfl, Nat.le_of_ble_eq_true rfl⟩ rfl rfl (Nat.le_of_ble_eq_true rfl) dX7_ofFeast_6 ?_
  obtain ⟨g24, h⟩ := gd_some h
  refine j_iald C (i := 226) kA_226 (inA g24 aA_226) dX7_ofFeast_9 ?_
  refine j_topi (fun x25 ex25 => ?_)
  have h := lt_at h ex25
  refine j_istore_n C [(0, .ref (B + 225)), (1, .int x1), (2, .int x2), (3, .int x25)] [1, 2, 3, 0] dX7_ofFeast_10 rfl (by decide) rfl ?_
  refine j_iload_n C (q := 2) dX7_ofFeast_11 rfl rfl ?_
  refine j_iconst C (v := 2) dX7_ofFeast_12 (by decide) ?_
  refine j_icmp_ne C (tgt := 37) dX7_ofFeast_13 (by decide) (fun c26 => ?_) (fun c26 => ?_)
  · have h := ite_t h c26
    refine j_aload_n C (q := 0) dX7_ofFeast_16 rfl rfl ?_
    refine fg_X7_7 C (i := 225) kA_225 dX7_ofFeast_17 ?_
    refine j_iload_n C (q := 1) dX7_ofFeast_20 rfl rfl ?_
    refine j_iconst C (v := 0) dX7_ofFeast_21 (by decide) ?_
    obtain ⟨x27, t28, e29, h⟩ := bd_some h
    refine j_callS_i C (i := 0) (As := [.int x1, .int 0]) (rest := [.ref (B + 226)]) (c_X7_of l G B dy x1 0 _ e29) tw_883 tw_884 ti_7 tw_885 ⟨rfl, hd_X7_of⟩ ⟨Nat.le_of_ble_eq_true rfl, Nat.le_of_ble_eq_true rfl⟩ ⟨Nat.le_of_ble_eq_true rfl, Nat.le_of_ble_eq_true rfl⟩ rfl rfl (Nat.le_of_ble_eq_true rfl) dX7_ofFeast_22 ?_
    obtain ⟨g30, h⟩ := gd_some h
    refine j_iald C (i := 226) kA_226 (inA g30 aA_226) dX7_ofFeast_25 ?_
    refine j_iconst C (v := 3) dX7_ofFeast_26 (by decide) ?_
    refine j_icmp_ne C (tgt := 37) dX7_ofFeast_27 (by decide) (fun c31 => ?_) (fun c31 => ?_)
    · have h := ite_t h c31
      refine j_iload_n C (q := 3) dX7_ofFeast_30 rfl rfl ?_
      refine j_bipush C (v := 90) dX7_ofFeast_31 (by decide) ?_
      refine j_iadd C dX7_ofFeast_33 ?_
      refine j_goto C (tgt := 38) dX7_ofFeast_34 (by decide) ?_
      exact j_iret C hr hlk h ⟨Nat.le_of_ble_eq_true rfl, Nat.le_of_ble_eq_true rfl⟩ dX7_ofFeast_38
    · have h := ite_f h c31
      refine j_iload_n C (q := 3) dX7_ofFeast_37 rfl rfl ?_
      exact j_iret C hr hlk h ⟨Nat.le_of_ble_eq_true rfl, Nat.le_of_ble_eq_true rfl⟩ dX7_ofFeast_38
  · have h := ite_f h c26
    refine j_iload_n C (q := 3) dX7_ofFeast_37 rfl rfl ?_
    exact j_iret C hr hlk h ⟨Nat.le_of_ble_eq_true rfl, Nat.le_of_ble_eq_true rfl⟩ dX7_ofFeast_38
set_option maxRecDepth 100000 in
set_option maxHeartbeats 4000000 in
theorem c_X7_feast (l : Launch) (G : GG) (B dy : Nat) (x1 : Int32) (x2 : Int32) (t0 : St) {r : Int32} {t9 : St} (h : f_X7_feast x1 x2 t0 = some (r, t9)) : Ct l G B dy yX7_feast cX7_feast 3 (some .int) 2 44 0 0 [.ref (B + 225), .int x1, .int x2] t0 (PostI G B r t9) := by
  refine Ct_of (by decide +kernel) [(0, .ref (B + 225)), (1, .int x1), (2, .int x2)] (Nat.le_of_ble_eq_true rfl) rfl ?_
  intro p e s m args below meth c C hr hlk
  have J27 : ∀ (w0 : Int32) (t0 : St), f_X7_feast_b27 x1 x2 w0 t0 = some (r, t9) → WW G B p l e (RM 2 44 0 0) s m args below meth c 0 0 (MQ below (PostI G B r t9) args s 0 0 (Ab B)) 3 27 [(0, .ref (B + 225)), (1, .int x1), (2, .int x2)] [.int w0, .ref (B + 225)] t0 := by
    intro w0 t0 h
    obtain ⟨x21, t22, e23, h⟩ := bd_some h
    refine j_callV_i C (i := 225) (As := [.int w0]) (rest := []) (c_X7_holds l G B dy w0 _ e23) (shp7 G B _ kA_225) (kd_lt kA_225 (by decide)) rfl tw_847 tw_849 tp_37 ti_7 tw_850 hd_X7_holds ⟨Nat.le_of_ble_eq_true rfl, Nat.le_of_ble_eq_true rfl⟩ ⟨Nat.le_of_ble_eq_true rfl, Nat.le_of_ble_eq_true rfl⟩ rfl rfl (Nat.le_of_ble_eq_true rfl) dX7_feast_27 ?_
    refine j_if_eq C (tgt := 42) dX7_feast_30 (by decide) (fun c24 => ?_) (fun c24 => ?_)
    · have h := ite_t h c24
      refine j_iconst C (v := 0) dX7_feast_42 (by decide) ?_
      exact j_iret C hr hlk h ⟨Nat.le_of_ble_eq_true rfl, Nat.le_of_ble_eq_true rfl⟩ dX7_feast_43
    · have h := ite_f h c24
      refine j_aload_n C (q := 0) dX7_feast_33 rfl rfl ?_
      refine j_iload_n C (q := 1) dX7_feast_34 rfl rfl ?_
      refine j_iload_n C (q := 2) dX7_feast_35 rfl rfl ?_
      obtain ⟨x25, t26, e27, h⟩ := bd_some h
      refine j_callV_i C (i := 225) (As := [.int x1, .int x2]) (rest := []) (c_X7_ofFeast l G B dy x1 x2 _ e27) (shp7 G B _ kA_225) (kd_lt kA_225 (by decide)) rfl tw_992 tw_994 tp_56 ti_7 tw_995 hd_X7_ofFeast ⟨Nat.le_of_ble_eq_true rfl, Nat.le_of_ble_eq_true rfl⟩ ⟨Nat.le_of_ble_eq_true rfl, Nat.le_of_ble_eq_true rfl⟩ rfl rfl (Nat.le_of_ble_eq_true rfl) dX7_feast_36 ?_
      refine j_goto C (tgt := 43) dX7_feast_39 (by decide) ?_
      exact j_iret C hr hlk h ⟨Nat.le_of_ble_eq_true rfl, Nat.le_of_ble_eq_true rfl⟩ dX7_feast_43
  refine j_aload_n C (q := 0) dX7_feast_0 rfl rfl ?_
  refine j_aload_n C (q := 0) dX7_feast_1 rfl rfl ?_
  refine j_iload_n C (q := 1) dX7_feast_2 rfl rfl ?_
  obtain ⟨x28, t29, e30, h⟩ := bd_some h
  refine j_callV_i C (i := 225) (As := [.int x1]) (rest := [.ref (B + 225)]) (c_X7_isFeast l G B dy x1 _ e30) (shp7 G B _ kA_225) (kd_lt kA_225 (by decide)) rfl tw_902 tw_904 tp_45 ti_7 tw_905 hd_X7_isFeast ⟨Nat.le_of_ble_eq_true rfl, Nat.le_of_ble_eq_true rfl⟩ ⟨Nat.le_of_ble_eq_true rfl, Nat.le_of_ble_eq_true rfl⟩ rfl rfl (Nat.le_of_ble_eq_true rfl) dX7_feast_3 ?_
  refine j_if_ne C (tgt := 13) dX7_feast_6 (by decide) (fun c31 => ?_) (fun c31 => ?_)
  · have h := ite_t h c31
    refine j_iconst C (v := 1) dX7_feast_9 (by decide) ?_
    refine j_goto C (tgt := 27) dX7_feast_10 (by decide) ?_
    exact J27 1 _ h
  · have h := ite_f h c31
    refine j_iload_n C (q := 2) dX7_feast_13 rfl rfl ?_
    refine j_iconst C (v := 0) dX7_feast_14 (by decide) ?_
    refine j_iconst C (v := 3) dX7_feast_15 (by decide) ?_
    obtain ⟨x32, t33, e34, h⟩ := bd_some h
    refine j_callS_i C (i := 0) (As := [.int x2, .int 0, .int 3]) (rest := [.ref (B + 225)]) (c_X7_in l G B dy x2 0 3 _ e34) tw_844 tw_845 ti_7 tw_846 ⟨rfl, hd_X7_in⟩ ⟨Nat.le_of_ble_eq_true rfl, Nat.le_of_ble_eq_true rfl⟩ ⟨Nat.le_of_ble_eq_true rfl, Nat.le_of_ble_eq_true rfl⟩ rfl rfl (Nat.le_of_ble_eq_true rfl) dX7_feast_16 ?_
    refine j_if_ne C (tgt := 26) dX7_feast_19 (by decide) (fun c35 => ?_) (fun c35 => ?_)
    · have h := ite_t h c35
      refine j_iconst C (v := 2) dX7_feast_22 (by decide) ?_
      refine j_goto C (tgt := 27) dX7_feast_23 (by decide) ?_
      exact J27 2 _ h
    · have h := ite_f h c35
      refine j_iconst C (v := 0) dX7_feast_26 (by decide) ?_
      exact J27 0 _ h
set_option maxRecDepth 100000 in
set_option maxHeartbeats 4000000 in
theorem c_X7_dayOf (l : Launch) (G : GG) (B dy : Nat) (x1 : Int32) (x2 : Int32) (x3 : Int32) (x4 : Int32) (t0 : St) {r : Int32} {t9 : St} (h : f_X7_dayOf x1 x2 x3 x4 t0 = some (r, t9)) : Ct l G B dy yX7_dayOf cX7_dayOf 5 (some .int) 4 101 0 0 [.ref (B + 225), .int x1, .int x2, .int x3, .int x4] t0 (PostI G B r t9) := by
  refine Ct_of (by decide +kernel) [(0, .ref (B + 225)), (1, .int x1), (2, .int x2), (3, .int x3), (4, .int x4)] (Nat.le_of_ble_eq_true rfl) rfl ?_
  intro p e s m args below meth c C hr hlk
  refine j_aload_n C (q := 0) dX7_dayOf_0 rfl rfl ?_
  refine j_iload_n C (q := 2) dX7_dayOf_1 rfl rfl ?_
  refine j_aload_n C (q := 0) dX7_dayOf_2 rfl rfl ?_
  refine fg_X7_7 C (i := 225) kA_225 dX7_dayOf_3 ?_
  refine j_bipush C (v := 41) dX7_dayOf_6 (by decide) ?_
  refine j_iload_n C (q := 3) dX7_dayOf_8 rfl rfl ?_
  refine j_iadd C dX7_dayOf_9 ?_
  obtain ⟨g21, h⟩ := gd_some h
  refine j_iald C (i := 226) kA_226 (inA g21 aA_226) dX7_dayOf_10 ?_
  obtain ⟨t23, e24, h⟩ := bv_some h
  refine j_callV_v C (i := 225) (As := [.int x2, .int (t0.1 226 (tc (41 + x3)))]) (rest := []) (c_X7_lay l G B dy x2 (t0.1 226 (tc (41 + x3))) _ e24) (shp7 G B _ kA_225) (kd_lt kA_225 (by decide)) rfl tw_928 tw_930 tp_47 ti_7 tw_931 hd_X7_lay ⟨Nat.le_of_ble_eq_true rfl, Nat.le_of_ble_eq_true rfl⟩ ⟨Nat.le_of_ble_eq_true rfl, Nat.le_of_ble_eq_true rfl⟩ rfl rfl (Nat.le_of_ble_eq_true rfl) dX7_dayOf_11 ?_
  refine j_iload C (q := 4) dX7_dayOf_14 rfl ?_
  refine j_if_eq C (tgt := 28) dX7_dayOf_16 (by decide) (fun c25 => ?_) (fun c25 => ?_)
  · have h := ite_t h c25
    refine j_aload_n C (q := 0) dX7_dayOf_28 rfl rfl ?_
    refine fg_X7_22 C (i := 225) kA_225 dX7_dayOf_29 ?_
    refine j_iload_n C (q := 1) dX7_dayOf_32 rfl rfl ?_
    obtain ⟨g26, h⟩ := gd_some h
    refine j_iald C (i := 230) kA_230 (inA g26 aA_230) dX7_dayOf_33 ?_
    exact j_iret C hr hlk h ⟨Nat.le_of_ble_eq_true rfl, Nat.le_of_ble_eq_true rfl⟩ dX7_dayOf_34
  · have h := ite_f h c25
    refine j_aload_n C (q := 0) dX7_dayOf_19 rfl rfl ?_
    refine fg_X7_19 C (i := 225) kA_225 dX7_dayOf_20 ?_
    refine j_iload_n C (q := 1) dX7_dayOf_23 rfl rfl ?_
    obtain ⟨g27, h⟩ := gd_some h
    refine j_iald C (i := 229) kA_229 (inA g27 aA_229) dX7_dayOf_24 ?_
    refine j_goto C (tgt := 34) dX7_dayOf_25 (by decide) ?_
    exact j_iret C hr hlk h ⟨Nat.le_of_ble_eq_true rfl, Nat.le_of_ble_eq_true rfl⟩ dX7_dayOf_34
set_option maxRecDepth 100000 in
set_option maxHeartbeats 4000000 in
theorem c_X7_when (l : Launch) (G : GG) (B dy : Nat) (x1 : Int32) (x2 : Int32) (x3 : Int32) (x4 : Int32) (t0 : St) {r : Int32} {t9 : St} (h : f_X7_when x1 x2 x3 x4 t0 = some (r, t9)) : Ct l G B dy yX7_when cX7_when 5 (some .int) 5 125 0 0 [.ref (B + 225), .int x1, .int x2, .int x3, .int x4] t0 (PostI G B r t9) := by
  refine Ct_of (by decide +kernel) [(0, .ref (B + 225)), (1, .int x1), (2, .int x2), (3, .int x3), (4, .int x4)] (Nat.le_of_ble_eq_true rfl) rfl ?_
  intro p e s m args below meth c C hr hlk
  have J32 : ∀ (w0 : Int32) (t0 : St), f_X7_when_b32 x1 x2 x3 x4 w0 t0 = some (r, t9) → WW G B p l e (RM 5 125 0 0) s m args below meth c 0 0 (MQ below (PostI G B r t9) args s 0 0 (Ab B)) 5 32 [(0, .ref (B + 225)), (1, .int x1), (2, .int x2), (3, .int x3), (4, .int x4)] [.int w0, .ref (B + 225)] t0 := by
    intro w0 t0 h
    obtain ⟨x21, t22, e23, h⟩ := bd_some h
    refine j_callV_i C (i := 225) (As := [.int w0]) (rest := []) (c_X7_holds l G B dy w0 _ e23) (shp7 G B _ kA_225) (kd_lt kA_225 (by decide)) rfl tw_847 tw_849 tp_37 ti_7 tw_850 hd_X7_holds ⟨Nat.le_of_ble_eq_true rfl, Nat.le_of_ble_eq_true rfl⟩ ⟨Nat.le_of_ble_eq_true rfl, Nat.le_of_ble_eq_true rfl⟩ rfl rfl (Nat.le_of_ble_eq_true rfl) dX7_when_32 ?_
    refine j_if_eq C (tgt := 50) dX7_when_35 (by decide) (fun c24 => ?_) (fun c24 => ?_)
    · have h := ite_t h c24
      refine j_iconst C (v := 0) dX7_when_50 (by decide) ?_
      exact j_iret C hr hlk h ⟨Nat.le_of_ble_eq_true rfl, Nat.le_of_ble_eq_true rfl⟩ dX7_when_51
    · have h := ite_f h c24
      refine j_aload_n C (q := 0) dX7_when_38 rfl rfl ?_
      refine j_iload_n C (q := 1) dX7_when_39 rfl rfl ?_
      refine j_iload_n C (q := 2) dX7_when_40 rfl rfl ?_
      refine j_iload_n C (q := 3) dX7_when_41 rfl rfl ?_
      refine j_iload C (q := 4) dX7_when_42 rfl ?_
      obtain ⟨x25, t26, e27, h⟩ := bd_some h
      refine j_callV_i C (i := 225) (As := [.int x1, .int x2, .int x3, .int x4]) (rest := []) (c_X7_dayOf l G B dy x1 x2 x3 x4 _ e27) (shp7 G B _ kA_225) (kd_lt kA_225 (by decide)) rfl tw_1000 tw_1002 tp_57 ti_7 tw_1003 hd_X7_dayOf ⟨Nat.le_of_ble_eq_true rfl, Nat.le_of_ble_eq_true rfl⟩ ⟨Nat.le_of_ble_eq_true rfl, Nat.le_of_ble_eq_true rfl⟩ rfl rfl (Nat.le_of_ble_eq_true rfl) dX7_when_44 ?_
      refine j_goto C (tgt := 51) dX7_when_47 (by decide) ?_
      exact j_iret C hr hlk h ⟨Nat.le_of_ble_eq_true rfl, Nat.le_of_ble_eq_true rfl⟩ dX7_when_51
  refine j_aload_n C (q := 0) dX7_when_0 rfl rfl ?_
  refine j_aload_n C (q := 0) dX7_when_1 rfl rfl ?_
  refine j_iload_n C (q := 1) dX7_when_2 rfl rfl ?_
  obtain ⟨x28, t29, e30, h⟩ := bd_some h
  refine j_callV_i C (i := 225) (As := [.int x1]) (rest := [.ref (B + 225)]) (c_X7_isFeast l G B dy x1 _ e30) (shp7 G B _ kA_225) (kd_lt kA_225 (by decide)) rfl tw_902 tw_904 tp_45 ti_7 tw_905 hd_X7_isFeast ⟨Nat.le_of_ble_eq_true rfl, Nat.le_of_ble_eq_true rfl⟩ ⟨Nat.le_of_ble_eq_true rfl, Nat.le_of_ble_eq_true rfl⟩ rfl rfl (Nat.le_of_ble_eq_true rfl) dX7_when_3 ?_
  refine j_if_ne C (tgt := 13) dX7_when_6 (by decide) (fun c31 => ?_) (fun c31 => ?_)
  · have h := ite_t h c31
    refine j_iconst C (v := 1) dX7_when_9 (by decide) ?_
    refine j_goto C (tgt := 32) dX7_when_10 (by decide) ?_
    exact J32 1 _ h
  · have h := ite_f h c31
    refine j_iload_n C (q := 2) dX7_when_13 rfl rfl ?_
    obtain ⟨x32, t33, e34, h⟩ := bd_some h
    refine j_callS_i C (i := 0) (As := [.int x2]) (rest := [.ref (B + 225)]) (c_X7_isYear l G B dy x2 _ e34) tw_925 tw_926 ti_7 tw_927 ⟨rfl, hd_X7_isYear⟩ ⟨Nat.le_of_ble_eq_true rfl, Nat.le_of_ble_eq_true rfl⟩ ⟨Nat.le_of_ble_eq_true rfl, Nat.le_of_ble_eq_true rfl⟩ rfl rfl (Nat.le_of_ble_eq_true rfl) dX7_when_14 ?_
    refine j_if_eq C (tgt := 27) dX7_when_17 (by decide) (fun c35 => ?_) (fun c35 => ?_)
    · have h := ite_t h c35
      refine j_iconst C (v := 2) dX7_when_27 (by decide) ?_
      refine j_goto C (tgt := 32) dX7_when_28 (by decide) ?_
      exact J32 2 _ h
    · have h := ite_f h c35
      refine j_iload_n C (q := 3) dX7_when_20 rfl rfl ?_
      obtain ⟨x36, t37, e38, h⟩ := bd_some h
      refine j_callS_i C (i := 0) (As := [.int x3]) (rest := [.ref (B + 225)]) (c_X7_isCarver l G B dy x3 _ e38) tw_914 tw_915 ti_7 tw_916 ⟨rfl, hd_X7_isCarver⟩ ⟨Nat.le_of_ble_eq_true rfl, Nat.le_of_ble_eq_true rfl⟩ ⟨Nat.le_of_ble_eq_true rfl, Nat.le_of_ble_eq_true rfl⟩ rfl rfl (Nat.le_of_ble_eq_true rfl) dX7_when_21 ?_
      refine j_if_ne C (tgt := 31) dX7_when_24 (by decide) (fun c39 => ?_) (fun c39 => ?_)
      · have h := ite_t h c39
        refine j_iconst C (v := 2) dX7_when_27 (by decide) ?_
        refine j_goto C (tgt := 32) dX7_when_28 (by decide) ?_
        exact J32 2 _ h
      · have h := ite_f h c39
        refine j_iconst C (v := 0) dX7_when_31 (by decide) ?_
        exact J32 0 _ h
set_option maxRecDepth 100000 in
set_option maxHeartbeats 4000000 in
theorem c_X7_settledOf (l : Launch) (G : GG) (B dy : Nat) (x1 : Int32) (x2 : Int32) (t0 : St) {r : Int32} {t9 : St} (h : f_X7_settledOf x1 x2 t0 = some (r, t9)) : Ct l G B dy yX7_settledOf cX7_settledOf 3 (some .int) 5 124 0 0 [.ref (B + 225), .int x1, .int x2] t0 (PostI G B r t9) := by
  refine Ct_of (by decide +kernel) [(0, .ref (B + 225)), (1, .int x1), (2, .int x2)] (Nat.le_of_ble_eq_true rfl) rfl ?_
  intro p e s m args below meth c C hr hlk
  refine j_aload_n C (q := 0) dX7_settledOf_0 rfl rfl ?_
  refine j_iload_n C (q := 2) dX7_settledOf_1 rfl rfl ?_
  obtain ⟨t22, e23, h⟩ := bv_some h
  refine j_callV_v C (i := 225) (As := [.int x2]) (rest := []) (c_X7_layAll l G B dy x2 _ e23) (shp7 G B _ kA_225) (kd_lt kA_225 (by decide)) rfl tw_980 tw_982 tp_54 ti_7 tw_983 hd_X7_layAll ⟨Nat.le_of_ble_eq_true rfl, Nat.le_of_ble_eq_true rfl⟩ ⟨Nat.le_of_ble_eq_true rfl, Nat.le_of_ble_eq_true rfl⟩ rfl rfl (Nat.le_of_ble_eq_true rfl) dX7_settledOf_2 ?_
  refine j_aload_n C (q := 0) dX7_settledOf_5 rfl rfl ?_
  refine j_iload_n C (q := 1) dX7_settledOf_6 rfl rfl ?_
  obtain ⟨x24, t25, e26, h⟩ := bd_some h
  refine j_callV_i C (i := 225) (As := [.int x1]) (rest := []) (c_X7_settledBy l G B dy x1 _ e26) (shp7 G B _ kA_225) (kd_lt kA_225 (by decide)) rfl tw_984 tw_986 tp_55 ti_7 tw_987 hd_X7_settledBy ⟨Nat.le_of_ble_eq_true rfl, Nat.le_of_ble_eq_true rfl⟩ ⟨Nat.le_of_ble_eq_true rfl, Nat.le_of_ble_eq_true rfl⟩ rfl rfl (Nat.le_of_ble_eq_true rfl) dX7_settledOf_7 ?_
  exact j_iret C hr hlk h ⟨Nat.le_of_ble_eq_true rfl, Nat.le_of_ble_eq_true rfl⟩ dX7_settledOf_10
set_option maxRecDepth 100000 in
set_option maxHeartbeats 4000000 in
theorem c_X7_settled (l : Launch) (G : GG) (B dy : Nat) (x1 : Int32) (x2 : Int32) (t0 : St) {r : Int32} {t9 : St} (h : f_X7_settled x1 x2 t0 = some (r, t9)) : Ct l G B dy yX7_settled cX7_settled 3 (some .int) 6 146 0 0 [.ref (B + 225), .int x1, .int x2] t0 (PostI G B r t9) := by
  refine Ct_of (by decide +kernel) [(0, .ref (B + 225)), (1, .int x1), (2, .int x2)] (Nat.le_of_ble_eq_true rfl) rfl ?_
  intro p e s m args below meth c C hr hlk
  have J25 : ∀ (w0 : Int32) (t0 : St), f_X7_settled_b25 x1 x2 w0 t0 = some (r, t9) → WW G B p l e (RM 6 146 0 0) s m args below meth c 0 0 (MQ below (PostI G B r t9) args s 0 0 (Ab B)) 3 25 [(0, .ref (B + 225)), (1, .int x1), (2, .int x2)] [.int w0, .ref (B + 225)] t0 := by
    intro w0 t0 h
    obtain ⟨x21, t22, e23, h⟩ := bd_some h
    refine j_callV_i C (i := 225) (As := [.int w0]) (rest := []) (c_X7_holds l G B dy w0 _ e23) (shp7 G B _ kA_225) (kd_lt kA_225 (by decide)) rfl tw_847 tw_849 tp_37 ti_7 tw_850 hd_X7_holds ⟨Nat.le_of_ble_eq_true rfl, Nat.le_of_ble_eq_true rfl⟩ ⟨Nat.le_of_ble_eq_true rfl, Nat.le_of_ble_eq_true rfl⟩ rfl rfl (Nat.le_of_ble_eq_true rfl) dX7_settled_25 ?_
    refine j_if_eq C (tgt := 40) dX7_settled_28 (by decide) (fun c24 => ?_) (fun c24 => ?_)
    · have h := ite_t h c24
      refine j_iconst C (v := 0) dX7_settled_40 (by decide) ?_
      exact j_iret C hr hlk h ⟨Nat.le_of_ble_eq_true rfl, Nat.le_of_ble_eq_true rfl⟩ dX7_settled_41
    · have h := ite_f h c24
      refine j_aload_n C (q := 0) dX7_settled_31 rfl rfl ?_
      refine j_iload_n C (q := 1) dX7_settled_32 rfl rfl ?_
      refine j_iload_n C (q := 2) dX7_settled_33 rfl rfl ?_
      obtain ⟨x25, t26, e27, h⟩ := bd_some h
      refine j_callV_i C (i := 225) (As := [.int x1, .int x2]) (rest := []) (c_X7_settledOf l G B dy x1 x2 _ e27) (shp7 G B _ kA_225) (kd_lt kA_225 (by decide)) rfl tw_1008 tw_1010 tp_58 ti_7 tw_1011 hd_X7_settledOf ⟨Nat.le_of_ble_eq_true rfl, Nat.le_of_ble_eq_true rfl⟩ ⟨Nat.le_of_ble_eq_true rfl, Nat.le_of_ble_eq_true rfl⟩ rfl rfl (Nat.le_of_ble_eq_true rfl) dX7_settled_34 ?_
      refine j_goto C (tgt := 41) dX7_settled_37 (by decide) ?_
      exact j_iret C hr hlk h ⟨Nat.le_of_ble_eq_true rfl, Nat.le_of_ble_eq_true rfl⟩ dX7_settled_41
  refine j_aload_n C (q := 0) dX7_settled_0 rfl rfl ?_
  refine j_aload_n C (q := 0) dX7_settled_1 rfl rfl ?_
  refine j_iload_n C (q := 1) dX7_settled_2 rfl rfl ?_
  obtain ⟨x28, t29, e30, h⟩ := bd_some h
  refine j_callV_i C (i := 225) (As := [.int x1]) (rest := [.ref (B + 225)]) (c_X7_isFeast l G B dy x1 _ e30) (shp7 G B _ kA_225) (kd_lt kA_225 (by decide)) rfl tw_902 tw_904 tp_45 ti_7 tw_905 hd_X7_isFeast ⟨Nat.le_of_ble_eq_true rfl, Nat.le_of_ble_eq_true rfl⟩ ⟨Nat.le_of_ble_eq_true rfl, Nat.le_of_ble_eq_true rfl⟩ rfl rfl (Nat.le_of_ble_eq_true rfl) dX7_settled_3 ?_
  refine j_if_ne C (tgt := 13) dX7_settled_6 (by decide) (fun c31 => ?_) (fun c31 => ?_)
  · have h := ite_t h c31
    refine j_iconst C (v := 1) dX7_settled_9 (by decide) ?_
    refine j_goto C (tgt := 25) dX7_settled_10 (by decide) ?_
    exact J25 1 _ h
  · have h := ite_f h c31
    refine j_iload_n C (q := 2) dX7_settled_13 rfl rfl ?_
    obtain ⟨x32, t33, e34, h⟩ := bd_some h
    refine j_callS_i C (i := 0) (As := [.int x2]) (rest := [.ref (B + 225)]) (c_X7_isYear l G B dy x2 _ e34) tw_925 tw_926 ti_7 tw_927 ⟨rfl, hd_X7_isYear⟩ ⟨Nat.le_of_ble_eq_true rfl, Nat.le_of_ble_eq_true rfl⟩ ⟨Nat.le_of_ble_eq_true rfl, Nat.le_of_ble_eq_true rfl⟩ rfl rfl (Nat.le_of_ble_eq_true rfl) dX7_settled_14 ?_
    refine j_if_ne C (tgt := 24) dX7_settled_17 (by decide) (fun c35 => ?_) (fun c35 => ?_)
    · have h := ite_t h c35
      refine j_iconst C (v := 2) dX7_settled_20 (by decide) ?_
      refine j_goto C (tgt := 25) dX7_settled_21 (by decide) ?_
      exact J25 2 _ h
    · have h := ite_f h c35
      refine j_iconst C (v := 0) dX7_settled_24 (by decide) ?_
      exact J25 0 _ h
set_option maxRecDepth 100000 in
set_option maxHeartbeats 4000000 in
theorem c_X7_quarrelsOf (l : Launch) (G : GG) (B dy : Nat) (x1 : Int32) (t0 : St) {r : Int32} {t9 : St} (h : f_X7_quarrelsOf x1 t0 = some (r, t9)) : Ct l G B dy yX7_quarrelsOf cX7_quarrelsOf 2 (some .int) 5 124 0 0 [.ref (B + 225), .int x1] t0 (PostI G B r t9) := by
  refine Ct_of (by decide +kernel) [(0, .ref (B + 225)), (1, .int x1)] (Nat.le_of_ble_eq_true rfl) rfl ?_
  intro p e s m args below meth c C hr hlk
  refine j_aload_n C (q := 0) dX7_quarrelsOf_0 rfl rfl ?_
  refine j_iload_n C (q := 1) dX7_quarrelsOf_1 rfl rfl ?_
  obtain ⟨t22, e23, h⟩ := bv_some h
  refine j_callV_v C (i := 225) (As := [.int x1]) (rest := []) (c_X7_layAll l G B dy x1 _ e23) (shp7 G B _ kA_225) (kd_lt kA_225 (by decide)) rfl tw_980 tw_982 tp_54 ti_7 tw_983 hd_X7_layAll ⟨Nat.le_of_ble_eq_true rfl, Nat.le_of_ble_eq_true rfl⟩ ⟨Nat.le_of_ble_eq_true rfl, Nat.le_of_ble_eq_true rfl⟩ rfl rfl (Nat.le_of_ble_eq_true rfl) dX7_quarrelsOf_2 ?_
  refine j_aload_n C (q := 0) dX7_quarrelsOf_5 rfl rfl ?_
  obtain ⟨x24, t25, e26, h⟩ := bd_some h
  refine j_callV_i C (i := 225) (As := []) (rest := []) (c_X7_quarrelsNow l G B dy _ e26) (shp7 G B _ kA_225) (kd_lt kA_225 (by decide)) rfl tw_1020 tw_1022 tp_60 ti_7 tw_1023 hd_X7_quarrelsNow ⟨Nat.le_of_ble_eq_true rfl, Nat.le_of_ble_eq_true rfl⟩ ⟨Nat.le_of_ble_eq_true rfl, Nat.le_of_ble_eq_true rfl⟩ rfl rfl (Nat.le_of_ble_eq_true rfl) dX7_quarrelsOf_6 ?_
  exact j_iret C hr hlk h ⟨Nat.le_of_ble_eq_true rfl, Nat.le_of_ble_eq_true rfl⟩ dX7_quarrelsOf_9
set_option maxRecDepth 100000 in
set_option maxHeartbeats 4000000 in
theorem c_X7_quarrels (l : Launch) (G : GG) (B dy : Nat) (x1 : Int32) (t0 : St) {r : Int32} {t9 : St} (h : f_X7_quarrels x1 t0 = some (r, t9)) : Ct l G B dy yX7_quarrels cX7_quarrels 2 (some .int) 6 145 0 0 [.ref (B + 225), .int x1] t0 (PostI G B r t9) := by
  refine Ct_of (by decide +kernel) [(0, .ref (B + 225)), (1, .int x1)] (Nat.le_of_ble_eq_true rfl) rfl ?_
  intro p e s m args below meth c C hr hlk
  have J13 : ∀ (w0 : Int32) (t0 : St), f_X7_quarrels_b13 x1 w0 t0 = some (r, t9) → WW G B p l e (RM 6 145 0 0) s m args below meth c 0 0 (MQ below (PostI G B r t9) args s 0 0 (Ab B)) 2 13 [(0, .ref (B + 225)), (1, .int x1)] [.int w0, .ref (B + 225)] t0 := by
    intro w0 t0 h
    obtain ⟨x21, t22, e23, h⟩ := bd_some h
    refine j_callV_i C (i := 225) (As := [.int w0]) (rest := []) (c_X7_holds l G B dy w0 _ e23) (shp7 G B _ kA_225) (kd_lt kA_225 (by decide)) rfl tw_847 tw_849 tp_37 ti_7 tw_850 hd_X7_holds ⟨Nat.le_of_ble_eq_true rfl, Nat.le_of_ble_eq_true rfl⟩ ⟨Nat.le_of_ble_eq_true rfl, Nat.le_of_ble_eq_true rfl⟩ rfl rfl (Nat.le_of_ble_eq_true rfl) dX7_quarrels_13 ?_
    refine j_if_eq C (tgt := 27) dX7_quarrels_16 (by decide) (fun c24 => ?_) (fun c24 => ?_)
    · have h := ite_t h c24
      refine j_iconst C (v := 0) dX7_quarrels_27 (by decide) ?_
      exact j_iret C hr hlk h ⟨Nat.le_of_ble_eq_true rfl, Nat.le_of_ble_eq_true rfl⟩ dX7_quarrels_28
    · have h := ite_f h c24
      refine j_aload_n C (q := 0) dX7_quarrels_19 rfl rfl ?_
      refine j_iload_n C (q := 1) dX7_quarrels_20 rfl rfl ?_
      obtain ⟨x25, t26, e27, h⟩ := bd_some h
      refine j_callV_i C (i := 225) (As := [.int x1]) (rest := []) (c_X7_quarrelsOf l G B dy x1 _ e27) (shp7 G B _ kA_225) (kd_lt kA_225 (by decide)) rfl tw_1016 tw_1018 tp_59 ti_7 tw_1019 hd_X7_quarrelsOf ⟨Nat.le_of_ble_eq_true rfl, Nat.le_of_ble_eq_true rfl⟩ ⟨Nat.le_of_ble_eq_true rfl, Nat.le_of_ble_eq_true rfl⟩ rfl rfl (Nat.le_of_ble_eq_true rfl) dX7_quarrels_21 ?_
      refine j_goto C (tgt := 28) dX7_quarrels_24 (by decide) ?_
      exact j_iret C hr hlk h ⟨Nat.le_of_ble_eq_true rfl, Nat.le_of_ble_eq_true rfl⟩ dX7_quarrels_28
  refine j_aload_n C (q := 0) dX7_quarrels_0 rfl rfl ?_
  refine j_iload_n C (q := 1) dX7_quarrels_1 rfl rfl ?_
  obtain ⟨x28, t29, e30, h⟩ := bd_some h
  refine j_callS_i C (i := 0) (As := [.int x1]) (rest := [.ref (B + 225)]) (c_X7_isYear l G B dy x1 _ e30) tw_925 tw_926 ti_7 tw_927 ⟨rfl, hd_X7_isYear⟩ ⟨Nat.le_of_ble_eq_true rfl, Nat.le_of_ble_eq_true rfl⟩ ⟨Nat.le_of_ble_eq_true rfl, Nat.le_of_ble_eq_true rfl⟩ rfl rfl (Nat.le_of_ble_eq_true rfl) dX7_quarrels_2 ?_
  refine j_if_eq C (tgt := 12) dX7_quarrels_5 (by decide) (fun c31 => ?_) (fun c31 => ?_)
  · have h := ite_t h c31
    refine j_iconst C (v := 1) dX7_quarrels_12 (by decide) ?_
    exact J13 1 _ h
  · have h := ite_f h c31
    refine j_iconst C (v := 0) dX7_quarrels_8 (by decide) ?_
    refine j_goto C (tgt := 13) dX7_quarrels_9 (by decide) ?_
    exact J13 0 _ h
set_option maxRecDepth 100000 in
set_option maxHeartbeats 4000000 in
theorem c_X7_staleOf (l : Launch) (G : GG) (B dy : Nat) (x1 : Int32) (t0 : St) {r : Int32} {t9 : St} (h : f_X7_staleOf x1 t0 = some (r, t9)) : Ct l G B dy yX7_staleOf cX7_staleOf 4 (some .int) 4 101 0 0 [.ref (B + 225), .int x1] t0 (PostI G B r t9) := by
  refine Ct_of (by decide +kernel) [(0, .ref (B + 225)), (1, .int x1)] (Nat.le_of_ble_eq_true rfl) rfl ?_
  intro p e s m args below meth c C hr hlk
  have J36 : ∀ (n36 : Nat) (y2 : Int32) (y3 : Int32) (t0 : St), f_X7_staleOf_l36 n36 x1 y2 y3 t0 = some (r, t9) → WW G B p l e (RM 4 101 0 0) s m args below meth c 0 0 (MQ below (PostI G B r t9) args s 0 0 (Ab B)) 4 36 [(0, .ref (B + 225)), (1, .int x1), (2, .int y2), (3, .int y3)] [] t0 := by
    intro n36
    induction n36 with
    | zero => intro y2 y3 t0 h; exact (no_some h).elim
    | succ n36 ih36 =>
      try clear h
      intro y2 y3 t0 h
      have h : f_X7_staleOf_b36 (f_X7_staleOf_l36 n36) x1 y2 y3 t0 = some (r, t9) := h
      refine j_iload_n C (q := 3) dX7_staleOf_36 rfl rfl ?_
      refine j_aload_n C (q := 0) dX7_staleOf_37 rfl rfl ?_
      refine fg_X7_7 C (i := 225) kA_225 dX7_staleOf_38 ?_
      refine j_iload_n C (q := 1) dX7_staleOf_41 rfl rfl ?_
      refine j_iconst C (v := 2) dX7_staleOf_42 (by decide) ?_
      obtain ⟨x21, t22, e23, h⟩ := bd_some h
      refine j_callS_i C (i := 0) (As := [.int x1, .int 2]) (rest := [.ref (B + 226), .int y3]) (c_X7_ofStick l G B dy x1 2 _ e23) tw_961 tw_962 ti_7 tw_963 ⟨rfl, hd_X7_ofStick⟩ ⟨Nat.le_of_ble_eq_true rfl, Nat.le_of_ble_eq_true rfl⟩ ⟨Nat.le_of_ble_eq_true rfl, Nat.le_of_ble_eq_true rfl⟩ rfl rfl (Nat.le_of_ble_eq_true rfl) dX7_staleOf_43 ?_
      obtain ⟨g24, h⟩ := gd_some h
      refine j_iald C (i := 226) kA_226 (inA g24 aA_226) dX7_staleOf_46 ?_
      refine j_icmp_ge C (tgt := 95) dX7_staleOf_47 (by decide) (fun c25 => ?_) (fun c25 => ?_)
      · have h := ite_t h c25
        refine j_iload_n C (q := 2) dX7_staleOf_95 rfl rfl ?_
        exact j_iret C hr hlk h ⟨Nat.le_of_ble_eq_true rfl, Nat.le_of_ble_eq_true rfl⟩ dX7_staleOf_96
      · have h := ite_f h c25
        refine j_iload_n C (q := 2) dX7_staleOf_50 rfl rfl ?_
        refine j_iload_n C (q := 3) dX7_staleOf_51 rfl rfl ?_
        refine j_aload_n C (q := 0) dX7_staleOf_52 rfl rfl ?_
        refine fg_X7_7 C (i := 225) kA_225 dX7_staleOf_53 ?_
        refine j_iconst C (v := 0) dX7_staleOf_56 (by decide) ?_
        obtain ⟨g26, h⟩ := gd_some h
        refine j_iald C (i := 226) kA_226 (inA g26 aA_226) dX7_staleOf_57 ?_
        refine j_icmp_ge C (tgt := 82) dX7_staleOf_58 (by decide) (fun c27 => ?_) (fun c27 => ?_)
        · have h := ite_t h c27
          refine j_iconst C (v := 1) dX7_staleOf_82 (by decide) ?_
          refine j_goto C (tgt := 87) dX7_staleOf_83 (by decide) ?_
          refine j_iadd C dX7_staleOf_87 ?_
          refine j_topi (fun x28 ex28 => ?_)
          have h := lt_at h ex28
          refine j_istore_n C [(0, .ref (B + 225)), (1, .int x1), (2, .int x28), (3, .int y3)] [1, 2, 0, 3] dX7_staleOf_88 rfl (by decide) rfl ?_
          obtain ⟨x29, ex29⟩ : ∃ y : Int32, y = (y3 + 1) := ⟨_, rfl⟩
          have h := lt_at h ex29
          refine j_iinc C (q := 3) [(0, .ref (B + 225)), (1, .int x1), (2, .int x28), (3, .int x29)] [1, 2, 3, 0] dX7_staleOf_89 rfl (by rw [ex29]; rfl) (by decide) rfl ?_
          refine j_goto C (tgt := 36) dX7_staleOf_92 (by decide) ?_
          exact ih36 x28 x29 _ h
        · have h := ite_f h c27
          refine j_aload_n C (q := 0) dX7_staleOf_61 rfl rfl ?_
          refine fg_X7_22 C (i := 225) kA_225 dX7_staleOf_62 ?_
          refine j_iload_n C (q := 3) dX7_staleOf_65 rfl rfl ?_
          obtain ⟨g30, h⟩ := gd_some h
          refine j_iald C (i := 230) kA_230 (inA g30 aA_230) dX7_staleOf_66 ?_
          refine j_aload_n C (q := 0) dX7_staleOf_67 rfl rfl ?_
          refine fg_X7_7 C (i := 225) kA_225 dX7_staleOf_68 ?_
          refine j_iload_n C (q := 1) dX7_staleOf_71 rfl rfl ?_
          refine j_iconst C (v := 3) dX7_staleOf_72 (by decide) ?_
          refine j_iload_n C (q := 3) dX7_staleOf_73 rfl rfl ?_
          refine j_iadd C dX7_staleOf_74 ?_
          obtain ⟨x31, t32, e33, h⟩ := bd_some h
          refine j_callS_i C (i := 0) (As := [.int x1, .int (3 + y3)]) (rest := [.ref (B + 226), .int (t22.1 230 (tc y3)), .int y2]) (c_X7_ofStick l G B dy x1 (3 + y3) _ e33) tw_961 tw_962 ti_7 tw_963 ⟨rfl, hd_X7_ofStick⟩ ⟨Nat.le_of_ble_eq_true rfl, Nat.le_of_ble_eq_true rfl⟩ ⟨Nat.le_of_ble_eq_true rfl, Nat.le_of_ble_eq_true rfl⟩ rfl rfl (Nat.le_of_ble_eq_true rfl) dX7_staleOf_75 ?_
          obtain ⟨g34, h⟩ := gd_some h
          refine j_iald C (i := 226) kA_226 (inA g34 aA_226) dX7_staleOf_78 ?_
          refine j_icmp_eq C (tgt := 86) dX7_staleOf_79 (by decide) (fun c35 => ?_) (fun c35 => ?_)
          · have h := ite_t h c35
            refine j_iconst C (v := 0) dX7_staleOf_86 (by decide) ?_
            refine j_iadd C dX7_staleOf_87 ?_
            refine j_topi (fun x36 ex36 => ?_)
            have h := lt_at h ex36
            refine j_istore_n C [(0, .ref (B + 225)), (1, .int x1), (2, .int x36), (3, .int y3)] [1, 2, 0, 3] dX7_staleOf_88 rfl (by decide) rfl ?_
            obtain ⟨x37, ex37⟩ : ∃ y : Int32, y = (y3 + 1) := ⟨_, rfl⟩
            have h := lt_at h ex37
            refine j_iinc C (q := 3) [(0, .ref (B + 225)), (1, .int x1), (2, .int x36), (3, .int x37)] [1, 2, 3, 0] dX7_staleOf_89 rfl (by rw [ex37]; rfl) (by decide) rfl ?_
            refine j_goto C (tgt := 36) dX7_staleOf_92 (by decide) ?_
            exact ih36 x36 x37 _ h
          · have h := ite_f h c35
            refine j_iconst C (v := 1) dX7_staleOf_82 (by decide) ?_
            refine j_goto C (tgt := 87) dX7_staleOf_83 (by decide) ?_
            refine j_iadd C dX7_staleOf_87 ?_
            refine j_topi (fun x38 ex38 => ?_)
            have h := lt_at h ex38
            refine j_istore_n C [(0, .ref (B + 225)), (1, .int x1), (2, .int x38), (3, .int y3)] [1, 2, 0, 3] dX7_staleOf_88 rfl (by decide) rfl ?_
            obtain ⟨x39, ex39⟩ : ∃ y : Int32, y = (y3 + 1) := ⟨_, rfl⟩
            have h := lt_at h ex39
            refine j_iinc C (q := 3) [(0, .ref (B + 225)), (1, .int x1), (2, .int x38), (3, .int x39)] [1, 2, 3, 0] dX7_staleOf_89 rfl (by rw [ex39]; rfl) (by decide) rfl ?_
            refine j_goto C (tgt := 36) dX7_staleOf_92 (by decide) ?_
            exact ih36 x38 x39 _ h
  refine j_aload_n C (q := 0) dX7_staleOf_0 rfl rfl ?_
  refine j_aload_n C (q := 0) dX7_staleOf_1 rfl rfl ?_
  refine fg_X7_7 C (i := 225) kA_225 dX7_staleOf_2 ?_
  refine j_iload_n C (q := 1) dX7_staleOf_5 rfl rfl ?_
  refine j_iconst C (v := 0) dX7_staleOf_6 (by decide) ?_
  obtain ⟨x40, t41, e42, h⟩ := bd_some h
  refine j_callS_i C (i := 0) (As := [.int x1, .int 0]) (rest := [.ref (B + 226), .ref (B + 225)]) (c_X7_ofStick l G B dy x1 0 _ e42) tw_961 tw_962 ti_7 tw_963 ⟨rfl, hd_X7_ofStick⟩ ⟨Nat.le_of_ble_eq_true rfl, Nat.le_of_ble_eq_true rfl⟩ ⟨Nat.le_of_ble_eq_true rfl, Nat.le_of_ble_eq_true rfl⟩ rfl rfl (Nat.le_of_ble_eq_true rfl) dX7_staleOf_7 ?_
  obtain ⟨g43, h⟩ := gd_some h
  refine j_iald C (i := 226) kA_226 (inA g43 aA_226) dX7_staleOf_10 ?_
  refine j_aload_n C (q := 0) dX7_staleOf_11 rfl rfl ?_
  refine fg_X7_7 C (i := 225) kA_225 dX7_staleOf_12 ?_
  refine j_bipush C (v := 41) dX7_staleOf_15 (by decide) ?_
  refine j_aload_n C (q := 0) dX7_staleOf_17 rfl rfl ?_
  refine fg_X7_7 C (i := 225) kA_225 dX7_staleOf_18 ?_
  refine j_iload_n C (q := 1) dX7_staleOf_21 rfl rfl ?_
  refine j_iconst C (v := 1) dX7_staleOf_22 (by decide) ?_
  obtain ⟨x44, t45, e46, h⟩ := bd_some h
  refine j_callS_i C (i := 0) (As := [.int x1, .int 1]) (rest := [.ref (B + 226), .int 41, .ref (B + 226), .int (t41.1 226 (tc x40)), .ref (B + 225)]) (c_X7_ofStick l G B dy x1 1 _ e46) tw_961 tw_962 ti_7 tw_963 ⟨rfl, hd_X7_ofStick⟩ ⟨Nat.le_of_ble_eq_true rfl, Nat.le_of_ble_eq_true rfl⟩ ⟨Nat.le_of_ble_eq_true rfl, Nat.le_of_ble_eq_true rfl⟩ rfl rfl (Nat.le_of_ble_eq_true rfl) dX7_staleOf_23 ?_
  obtain ⟨g47, h⟩ := gd_some h
  refine j_iald C (i := 226) kA_226 (inA g47 aA_226) dX7_staleOf_26 ?_
  refine j_iadd C dX7_staleOf_27 ?_
  obtain ⟨g48, h⟩ := gd_some h
  refine j_iald C (i := 226) kA_226 (inA g48 aA_226) dX7_staleOf_28 ?_
  obtain ⟨t50, e51, h⟩ := bv_some h
  refine j_callV_v C (i := 225) (As := [.int (t41.1 226 (tc x40)), .int (t45.1 226 (tc (41 + (t45.1 226 (tc x44)))))]) (rest := []) (c_X7_lay l G B dy (t41.1 226 (tc x40)) (t45.1 226 (tc (41 + (t45.1 226 (tc x44))))) _ e51) (shp7 G B _ kA_225) (kd_lt kA_225 (by decide)) rfl tw_928 tw_930 tp_47 ti_7 tw_931 hd_X7_lay ⟨Nat.le_of_ble_eq_true rfl, Nat.le_of_ble_eq_true rfl⟩ ⟨Nat.le_of_ble_eq_true rfl, Nat.le_of_ble_eq_true rfl⟩ rfl rfl (Nat.le_of_ble_eq_true rfl) dX7_staleOf_29 ?_
  refine j_iconst C (v := 0) dX7_staleOf_32 (by decide) ?_
  refine j_istore_n C [(0, .ref (B + 225)), (1, .int x1), (2, .int 0)] [1, 2, 0] dX7_staleOf_33 rfl (by decide) rfl ?_
  refine j_iconst C (v := 0) dX7_staleOf_34 (by decide) ?_
  refine j_istore_n C [(0, .ref (B + 225)), (1, .int x1), (2, .int 0), (3, .int 0)] [1, 2, 3, 0] dX7_staleOf_35 rfl (by decide) rfl ?_
  exact J36 FU 0 0 _ h
set_option maxRecDepth 100000 in
set_option maxHeartbeats 4000000 in
theorem c_X7_aboutStick (l : Launch) (G : GG) (B dy : Nat) (x1 : Int32) (x2 : Int32) (t0 : St) {r : Int32} {t9 : St} (h : f_X7_aboutStick x1 x2 t0 = some (r, t9)) : Ct l G B dy yX7_aboutStick cX7_aboutStick 5 (some .int) 5 124 0 0 [.ref (B + 225), .int x1, .int x2] t0 (PostI G B r t9) := by
  refine Ct_of (by decide +kernel) [(0, .ref (B + 225)), (1, .int x1), (2, .int x2)] (Nat.le_of_ble_eq_true rfl) rfl ?_
  intro p e s m args below meth c C hr hlk
  have J16 : ∀ (n16 : Nat) (y3 : Int32) (y4 : Int32) (t0 : St), f_X7_aboutStick_l16 n16 x1 x2 y3 y4 t0 = some (r, t9) → WW G B p l e (RM 5 124 0 0) s m args below meth c 0 0 (MQ below (PostI G B r t9) args s 0 0 (Ab B)) 5 16 [(0, .ref (B + 225)), (1, .int x1), (2, .int x2), (3, .int y3), (4, .int y4)] [] t0 := by
    intro n16
    induction n16 with
    | zero => intro y3 y4 t0 h; exact (no_some h).elim
    | succ n16 ih16 =>
      try clear h
      intro y3 y4 t0 h
      have h : f_X7_aboutStick_b16 (f_X7_aboutStick_l16 n16) x1 x2 y3 y4 t0 = some (r, t9) := h
      refine j_iload C (q := 4) dX7_aboutStick_16 rfl ?_
      refine j_bipush C (v := 10) dX7_aboutStick_18 (by decide) ?_
      refine j_icmp_ge C (tgt := 54) dX7_aboutStick_20 (by decide) (fun c21 => ?_) (fun c21 => ?_)
      · have h := ite_t h c21
        refine j_iload_n C (q := 2) dX7_aboutStick_54 rfl rfl ?_
        refine j_iconst C (v := 2) dX7_aboutStick_55 (by decide) ?_
        refine j_icmp_ge C (tgt := 72) dX7_aboutStick_56 (by decide) (fun c22 => ?_) (fun c22 => ?_)
        · have h := ite_t h c22
          refine j_iload_n C (q := 2) dX7_aboutStick_72 rfl rfl ?_
          refine j_iconst C (v := 2) dX7_aboutStick_73 (by decide) ?_
          refine j_icmp_ne C (tgt := 81) dX7_aboutStick_74 (by decide) (fun c23 => ?_) (fun c23 => ?_)
          · have h := ite_t h c23
            refine j_iload_n C (q := 3) dX7_aboutStick_77 rfl rfl ?_
            refine j_goto C (tgt := 93) dX7_aboutStick_78 (by decide) ?_
            exact j_iret C hr hlk h ⟨Nat.le_of_ble_eq_true rfl, Nat.le_of_ble_eq_true rfl⟩ dX7_aboutStick_93
          · have h := ite_f h c23
            refine j_aload_n C (q := 0) dX7_aboutStick_81 rfl rfl ?_
            refine fg_X7_7 C (i := 225) kA_225 dX7_aboutStick_82 ?_
            refine j_iload_n C (q := 1) dX7_aboutStick_85 rfl rfl ?_
            refine j_iload_n C (q := 2) dX7_aboutStick_86 rfl rfl ?_
            refine j_iconst C (v := 1) dX7_aboutStick_87 (by decide) ?_
            refine j_isub C dX7_aboutStick_88 ?_
            obtain ⟨x24, t25, e26, h⟩ := bd_some h
            refine j_callS_i C (i := 0) (As := [.int x1, .int (x2 - 1)]) (rest := [.ref (B + 226)]) (c_X7_ofStick l G B dy x1 (x2 - 1) _ e26) tw_961 tw_962 ti_7 tw_963 ⟨rfl, hd_X7_ofStick⟩ ⟨Nat.le_of_ble_eq_true rfl, Nat.le_of_ble_eq_true rfl⟩ ⟨Nat.le_of_ble_eq_true rfl, Nat.le_of_ble_eq_true rfl⟩ rfl rfl (Nat.le_of_ble_eq_true rfl) dX7_aboutStick_89 ?_
            obtain ⟨g27, h⟩ := gd_some h
            refine j_iald C (i := 226) kA_226 (inA g27 aA_226) dX7_aboutStick_92 ?_
            exact j_iret C hr hlk h ⟨Nat.le_of_ble_eq_true rfl, Nat.le_of_ble_eq_true rfl⟩ dX7_aboutStick_93
        · have h := ite_f h c22
          refine j_aload_n C (q := 0) dX7_aboutStick_59 rfl rfl ?_
          refine fg_X7_7 C (i := 225) kA_225 dX7_aboutStick_60 ?_
          refine j_iload_n C (q := 1) dX7_aboutStick_63 rfl rfl ?_
          refine j_iload_n C (q := 2) dX7_aboutStick_64 rfl rfl ?_
          obtain ⟨x28, t29, e30, h⟩ := bd_some h
          refine j_callS_i C (i := 0) (As := [.int x1, .int x2]) (rest := [.ref (B + 226)]) (c_X7_ofStick l G B dy x1 x2 _ e30) tw_961 tw_962 ti_7 tw_963 ⟨rfl, hd_X7_ofStick⟩ ⟨Nat.le_of_ble_eq_true rfl, Nat.le_of_ble_eq_true rfl⟩ ⟨Nat.le_of_ble_eq_true rfl, Nat.le_of_ble_eq_true rfl⟩ rfl rfl (Nat.le_of_ble_eq_true rfl) dX7_aboutStick_65 ?_
          obtain ⟨g31, h⟩ := gd_some h
          refine j_iald C (i := 226) kA_226 (inA g31 aA_226) dX7_aboutStick_68 ?_
          refine j_goto C (tgt := 93) dX7_aboutStick_69 (by decide) ?_
          exact j_iret C hr hlk h ⟨Nat.le_of_ble_eq_true rfl, Nat.le_of_ble_eq_true rfl⟩ dX7_aboutStick_93
      · have h := ite_f h c21
        refine j_iload_n C (q := 3) dX7_aboutStick_23 rfl rfl ?_
        refine j_aload_n C (q := 0) dX7_aboutStick_24 rfl rfl ?_
        refine fg_X7_7 C (i := 225) kA_225 dX7_aboutStick_25 ?_
        refine j_iload_n C (q := 1) dX7_aboutStick_28 rfl rfl ?_
        refine j_iconst C (v := 3) dX7_aboutStick_29 (by decide) ?_
        refine j_iload C (q := 4) dX7_aboutStick_30 rfl ?_
        refine j_iadd C dX7_aboutStick_32 ?_
        obtain ⟨x32, t33, e34, h⟩ := bd_some h
        refine j_callS_i C (i := 0) (As := [.int x1, .int (3 + y4)]) (rest := [.ref (B + 226), .int y3]) (c_X7_ofStick l G B dy x1 (3 + y4) _ e34) tw_961 tw_962 ti_7 tw_963 ⟨rfl, hd_X7_ofStick⟩ ⟨Nat.le_of_ble_eq_true rfl, Nat.le_of_ble_eq_true rfl⟩ ⟨Nat.le_of_ble_eq_true rfl, Nat.le_of_ble_eq_true rfl⟩ rfl rfl (Nat.le_of_ble_eq_true rfl) dX7_aboutStick_33 ?_
        obtain ⟨g35, h⟩ := gd_some h
        refine j_iald C (i := 226) kA_226 (inA g35 aA_226) dX7_aboutStick_36 ?_
        refine j_iconst C (v := (-1)) dX7_aboutStick_37 (by decide) ?_
        refine j_icmp_ne C (tgt := 45) dX7_aboutStick_38 (by decide) (fun c36 => ?_) (fun c36 => ?_)
        · have h := ite_t h c36
          refine j_iconst C (v := 0) dX7_aboutStick_41 (by decide) ?_
          refine j_goto C (tgt := 46) dX7_aboutStick_42 (by decide) ?_
          refine j_iadd C dX7_aboutStick_46 ?_
          refine j_topi (fun x39 ex39 => ?_)
          have h := lt_at h ex39
          refine j_istore_n C [(0, .ref (B + 225)), (1, .int x1), (2, .int x2), (3, .int x39), (4, .int y4)] [1, 2, 3, 0, 4] dX7_aboutStick_47 rfl (by decide) rfl ?_
          obtain ⟨x40, ex40⟩ : ∃ y : Int32, y = (y4 + 1) := ⟨_, rfl⟩
          have h := lt_at h ex40
          refine j_iinc C (q := 4) [(0, .ref (B + 225)), (1, .int x1), (2, .int x2), (3, .int x39), (4, .int x40)] [1, 2, 3, 4, 0] dX7_aboutStick_48 rfl (by rw [ex40]; rfl) (by decide) rfl ?_
          refine j_goto C (tgt := 16) dX7_aboutStick_51 (by decide) ?_
          exact ih16 x39 x40 _ h
        · have h := ite_f h c36
          refine j_iconst C (v := 1) dX7_aboutStick_45 (by decide) ?_
          refine j_iadd C dX7_aboutStick_46 ?_
          refine j_topi (fun x37 ex37 => ?_)
          have h := lt_at h ex37
          refine j_istore_n C [(0, .ref (B + 225)), (1, .int x1), (2, .int x2), (3, .int x37), (4, .int y4)] [1, 2, 3, 0, 4] dX7_aboutStick_47 rfl (by decide) rfl ?_
          obtain ⟨x38, ex38⟩ : ∃ y : Int32, y = (y4 + 1) := ⟨_, rfl⟩
          have h := lt_at h ex38
          refine j_iinc C (q := 4) [(0, .ref (B + 225)), (1, .int x1), (2, .int x2), (3, .int x37), (4, .int x38)] [1, 2, 3, 4, 0] dX7_aboutStick_48 rfl (by rw [ex38]; rfl) (by decide) rfl ?_
          refine j_goto C (tgt := 16) dX7_aboutStick_51 (by decide) ?_
          exact ih16 x37 x38 _ h
  refine j_iload_n C (q := 2) dX7_aboutStick_0 rfl rfl ?_
  refine j_iconst C (v := 3) dX7_aboutStick_1 (by decide) ?_
  refine j_icmp_ne C (tgt := 11) dX7_aboutStick_2 (by decide) (fun c41 => ?_) (fun c41 => ?_)
  · have h := ite_t h c41
    refine j_aload_n C (q := 0) dX7_aboutStick_5 rfl rfl ?_
    refine j_iload_n C (q := 1) dX7_aboutStick_6 rfl rfl ?_
    obtain ⟨x42, t43, e44, h⟩ := bd_some h
    refine j_callV_i C (i := 225) (As := [.int x1]) (rest := []) (c_X7_staleOf l G B dy x1 _ e44) (shp7 G B _ kA_225) (kd_lt kA_225 (by decide)) rfl tw_1032 tw_1034 tp_62 ti_7 tw_1035 hd_X7_staleOf ⟨Nat.le_of_ble_eq_true rfl, Nat.le_of_ble_eq_true rfl⟩ ⟨Nat.le_of_ble_eq_true rfl, Nat.le_of_ble_eq_true rfl⟩ rfl rfl (Nat.le_of_ble_eq_true rfl) dX7_aboutStick_7 ?_
    exact j_iret C hr hlk h ⟨Nat.le_of_ble_eq_true rfl, Nat.le_of_ble_eq_true rfl⟩ dX7_aboutStick_10
  · have h := ite_f h c41
    refine j_iconst C (v := 0) dX7_aboutStick_11 (by decide) ?_
    refine j_istore_n C [(0, .ref (B + 225)), (1, .int x1), (2, .int x2), (3, .int 0)] [1, 2, 3, 0] dX7_aboutStick_12 rfl (by decide) rfl ?_
    refine j_iconst C (v := 0) dX7_aboutStick_13 (by decide) ?_
    refine j_istore C [(0, .ref (B + 225)), (1, .int x1), (2, .int x2), (3, .int 0), (4, .int 0)] [1, 2, 3, 4, 0] dX7_aboutStick_14 (by decide) rfl ?_
    exact J16 FU 0 0 _ h
set_option maxRecDepth 100000 in
set_option maxHeartbeats 4000000 in
theorem c_X7_stick (l : Launch) (G : GG) (B dy : Nat) (x1 : Int32) (x2 : Int32) (t0 : St) {r : Int32} {t9 : St} (h : f_X7_stick x1 x2 t0 = some (r, t9)) : Ct l G B dy yX7_stick cX7_stick 3 (some .int) 6 148 0 0 [.ref (B + 225), .int x1, .int x2] t0 (PostI G B r t9) := by
  refine Ct_of (by decide +kernel) [(0, .ref (B + 225)), (1, .int x1), (2, .int x2)] (Nat.le_of_ble_eq_true rfl) rfl ?_
  intro p e s m args below meth c C hr hlk
  have J28 : ∀ (w0 : Int32) (t0 : St), f_X7_stick_b28 x1 x2 w0 t0 = some (r, t9) → WW G B p l e (RM 6 148 0 0) s m args below meth c 0 0 (MQ below (PostI G B r t9) args s 0 0 (Ab B)) 3 28 [(0, .ref (B + 225)), (1, .int x1), (2, .int x2)] [.int w0, .ref (B + 225)] t0 := by
    intro w0 t0 h
    obtain ⟨x21, t22, e23, h⟩ := bd_some h
    refine j_callV_i C (i := 225) (As := [.int w0]) (rest := []) (c_X7_holds l G B dy w0 _ e23) (shp7 G B _ kA_225) (kd_lt kA_225 (by decide)) rfl tw_847 tw_849 tp_37 ti_7 tw_850 hd_X7_holds ⟨Nat.le_of_ble_eq_true rfl, Nat.le_of_ble_eq_true rfl⟩ ⟨Nat.le_of_ble_eq_true rfl, Nat.le_of_ble_eq_true rfl⟩ rfl rfl (Nat.le_of_ble_eq_true rfl) dX7_stick_28 ?_
    refine j_if_eq C (tgt := 43) dX7_stick_31 (by decide) (fun c24 => ?_) (fun c24 => ?_)
    · have h := ite_t h c24
      refine j_iconst C (v := 0) dX7_stick_43 (by decide) ?_
      exact j_iret C hr hlk h ⟨Nat.le_of_ble_eq_true rfl, Nat.le_of_ble_eq_true rfl⟩ dX7_stick_44
    · have h := ite_f h c24
      refine j_aload_n C (q := 0) dX7_stick_34 rfl rfl ?_
      refine j_iload_n C (q := 1) dX7_stick_35 rfl rfl ?_
      refine j_iload_n C (q := 2) dX7_stick_36 rfl rfl ?_
      obtain ⟨x25, t26, e27, h⟩ := bd_some h
      refine j_callV_i C (i := 225) (As := [.int x1, .int x2]) (rest := []) (c_X7_aboutStick l G B dy x1 x2 _ e27) (shp7 G B _ kA_225) (kd_lt kA_225 (by decide)) rfl tw_1028 tw_1030 tp_61 ti_7 tw_1031 hd_X7_aboutStick ⟨Nat.le_of_ble_eq_true rfl, Nat.le_of_ble_eq_true rfl⟩ ⟨Nat.le_of_ble_eq_true rfl, Nat.le_of_ble_eq_true rfl⟩ rfl rfl (Nat.le_of_ble_eq_true rfl) dX7_stick_37 ?_
      refine j_goto C (tgt := 44) dX7_stick_40 (by decide) ?_
      exact j_iret C hr hlk h ⟨Nat.le_of_ble_eq_true rfl, Nat.le_of_ble_eq_true rfl⟩ dX7_stick_44
  refine j_aload_n C (q := 0) dX7_stick_0 rfl rfl ?_
  refine j_aload_n C (q := 0) dX7_stick_1 rfl rfl ?_
  refine j_iload_n C (q := 1) dX7_stick_2 rfl rfl ?_
  obtain ⟨x28, t29, e30, h⟩ := bd_some h
  refine j_callV_i C (i := 225) (As := [.int x1]) (rest := [.ref (B + 225)]) (c_X7_isStick l G B dy x1 _ e30) (shp7 G B _ kA_225) (kd_lt kA_225 (by decide)) rfl tw_957 tw_959 tp_51 ti_7 tw_960 hd_X7_isStick ⟨Nat.le_of_ble_eq_true rfl, Nat.le_of_ble_eq_true rfl⟩ ⟨Nat.le_of_ble_eq_true rfl, Nat.le_of_ble_eq_true rfl⟩ rfl rfl (Nat.le_of_ble_eq_true rfl) dX7_stick_3 ?_
  refine j_if_ne C (tgt := 13) dX7_stick_6 (by decide) (fun c31 => ?_) (fun c31 => ?_)
  · have h := ite_t h c31
    refine j_iconst C (v := 1) dX7_stick_9 (by decide) ?_
    refine j_goto C (tgt := 28) dX7_stick_10 (by decide) ?_
    exact J28 1 _ h
  · have h := ite_f h c31
    refine j_iload_n C (q := 2) dX7_stick_13 rfl rfl ?_
    refine j_iconst C (v := 0) dX7_stick_14 (by decide) ?_
    refine j_bipush C (v := 13) dX7_stick_15 (by decide) ?_
    obtain ⟨x32, t33, e34, h⟩ := bd_some h
    refine j_callS_i C (i := 0) (As := [.int x2, .int 0, .int 13]) (rest := [.ref (B + 225)]) (c_X7_in l G B dy x2 0 13 _ e34) tw_844 tw_845 ti_7 tw_846 ⟨rfl, hd_X7_in⟩ ⟨Nat.le_of_ble_eq_true rfl, Nat.le_of_ble_eq_true rfl⟩ ⟨Nat.le_of_ble_eq_true rfl, Nat.le_of_ble_eq_true rfl⟩ rfl rfl (Nat.le_of_ble_eq_true rfl) dX7_stick_17 ?_
    refine j_if_ne C (tgt := 27) dX7_stick_20 (by decide) (fun c35 => ?_) (fun c35 => ?_)
    · have h := ite_t h c35
      refine j_iconst C (v := 2) dX7_stick_23 (by decide) ?_
      refine j_goto C (tgt := 28) dX7_stick_24 (by decide) ?_
      exact J28 2 _ h
    · have h := ite_f h c35
      refine j_iconst C (v := 0) dX7_stick_27 (by decide) ?_
      exact J28 0 _ h
set_option maxRecDepth 100000 in
set_option maxHeartbeats 4000000 in
theorem c_X7_allStale (l : Launch) (G : GG) (B dy : Nat) (t0 : St) {r : Int32} {t9 : St} (h : f_X7_allStale t0 = some (r, t9)) : Ct l G B dy yX7_allStale cX7_allStale 3 (some .int) 5 124 0 0 [.ref (B + 225)] t0 (PostI G B r t9) := by
  refine Ct_of (by decide +kernel) [(0, .ref (B + 225))] (Nat.le_of_ble_eq_true rfl) rfl ?_
  intro p e s m args below meth c C hr hlk
  have J4 : ∀ (n4 : Nat) (y1 : Int32) (y2 : Int32) (t0 : St), f_X7_allStale_l4 n4 y1 y2 t0 = some (r, t9) → WW G B p l e (RM 5 124 0 0) s m args below meth c 0 0 (MQ below (PostI G B r t9) args s 0 0 (Ab B)) 3 4 [(0, .ref (B + 225)), (1, .int y1), (2, .int y2)] [] t0 := by
    intro n4
    induction n4 with
    | zero => intro y1 y2 t0 h; exact (no_some h).elim
    | succ n4 ih4 =>
      try clear h
      intro y1 y2 t0 h
      have h : f_X7_allStale_b4 (f_X7_allStale_l4 n4) y1 y2 t0 = some (r, t9) := h
      refine j_iload_n C (q := 2) dX7_allStale_4 rfl rfl ?_
      refine j_aload_n C (q := 0) dX7_allStale_5 rfl rfl ?_
      refine fg_X7_7 C (i := 225) kA_225 dX7_allStale_6 ?_
      refine j_bipush C (v := 45) dX7_allStale_9 (by decide) ?_
      obtain ⟨g21, h⟩ := gd_some h
      refine j_iald C (i := 226) kA_226 (inA g21 aA_226) dX7_allStale_11 ?_
      refine j_icmp_ge C (tgt := 29) dX7_allStale_12 (by decide) (fun c22 => ?_) (fun c22 => ?_)
      · have h := ite_t h c22
        refine j_iload_n C (q := 1) dX7_allStale_29 rfl rfl ?_
        exact j_iret C hr hlk h ⟨Nat.le_of_ble_eq_true rfl, Nat.le_of_ble_eq_true rfl⟩ dX7_allStale_30
      · have h := ite_f h c22
        refine j_iload_n C (q := 1) dX7_allStale_15 rfl rfl ?_
        refine j_aload_n C (q := 0) dX7_allStale_16 rfl rfl ?_
        refine j_iload_n C (q := 2) dX7_allStale_17 rfl rfl ?_
        obtain ⟨x23, t24, e25, h⟩ := bd_some h
        refine j_callV_i C (i := 225) (As := [.int y2]) (rest := [.int y1]) (c_X7_staleOf l G B dy y2 _ e25) (shp7 G B _ kA_225) (kd_lt kA_225 (by decide)) rfl tw_1032 tw_1034 tp_62 ti_7 tw_1035 hd_X7_staleOf ⟨Nat.le_of_ble_eq_true rfl, Nat.le_of_ble_eq_true rfl⟩ ⟨Nat.le_of_ble_eq_true rfl, Nat.le_of_ble_eq_true rfl⟩ rfl rfl (Nat.le_of_ble_eq_true rfl) dX7_allStale_18 ?_
        refine j_iadd C dX7_allStale_21 ?_
        refine j_topi (fun x26 ex26 => ?_)
        have h := lt_at h ex26
        refine j_istore_n C [(0, .ref (B + 225)), (1, .int x26), (2, .int y2)] [1, 0, 2] dX7_allStale_22 rfl (by decide) rfl ?_
        obtain ⟨x27, ex27⟩ : ∃ y : Int32, y = (y2 + 1) := ⟨_, rfl⟩
        have h := lt_at h ex27
        refine j_iinc C (q := 2) [(0, .ref (B + 225)), (1, .int x26), (2, .int x27)] [1, 2, 0] dX7_allStale_23 rfl (by rw [ex27]; rfl) (by decide) rfl ?_
        refine j_goto C (tgt := 4) dX7_allStale_26 (by decide) ?_
        exact ih4 x26 x27 _ h
  refine j_iconst C (v := 0) dX7_allStale_0 (by decide) ?_
  refine j_istore_n C [(0, .ref (B + 225)), (1, .int 0)] [1, 0] dX7_allStale_1 rfl (by decide) rfl ?_
  refine j_iconst C (v := 0) dX7_allStale_2 (by decide) ?_
  refine j_istore_n C [(0, .ref (B + 225)), (1, .int 0), (2, .int 0)] [1, 2, 0] dX7_allStale_3 rfl (by decide) rfl ?_
  exact J4 FU 0 0 _ h
set_option maxRecDepth 100000 in
set_option maxHeartbeats 4000000 in
theorem c_X7_counted (l : Launch) (G : GG) (B dy : Nat) (x1 : Int32) (t0 : St) {r : Int32} {t9 : St} (h : f_X7_counted x1 t0 = some (r, t9)) : Ct l G B dy yX7_counted cX7_counted 2 (some .int) 6 146 0 0 [.ref (B + 225), .int x1] t0 (PostI G B r t9) := by
  refine Ct_of (by decide +kernel) [(0, .ref (B + 225)), (1, .int x1)] (Nat.le_of_ble_eq_true rfl) rfl ?_
  intro p e s m args below meth c C hr hlk
  refine j_iload_n C (q := 1) dX7_counted_0 rfl rfl ?_
  by_cases c21 : x1 = 0
  · have h := ite_t h c21
    refine j_tableIn C (tgt := 44) dX7_counted_1 (by rw [c21]; decide) (by rw [c21]; decide) (by rw [c21]; rfl) (by decide) ?_
    refine j_aload_n C (q := 0) dX7_counted_44 rfl rfl ?_
    refine fg_X7_7 C (i := 225) kA_225 dX7_counted_45 ?_
    refine j_iconst C (v := 0) dX7_counted_48 (by decide) ?_
    obtain ⟨g22, h⟩ := gd_some h
    refine j_iald C (i := 226) kA_226 (inA g22 aA_226) dX7_counted_49 ?_
    exact j_iret C hr hlk h ⟨Nat.le_of_ble_eq_true rfl, Nat.le_of_ble_eq_true rfl⟩ dX7_counted_50
  · have h := ite_f h c21
    by_cases c23 : x1 = 1
    · have h := ite_t h c23
      refine j_tableIn C (tgt := 51) dX7_counted_1 (by rw [c23]; decide) (by rw [c23]; decide) (by rw [c23]; rfl) (by decide) ?_
      refine j_aload_n C (q := 0) dX7_counted_51 rfl rfl ?_
      refine fg_X7_7 C (i := 225) kA_225 dX7_counted_52 ?_
      refine j_bipush C (v := 45) dX7_counted_55 (by decide) ?_
      obtain ⟨g24, h⟩ := gd_some h
      refine j_iald C (i := 226) kA_226 (inA g24 aA_226) dX7_counted_57 ?_
      exact j_iret C hr hlk h ⟨Nat.le_of_ble_eq_true rfl, Nat.le_of_ble_eq_true rfl⟩ dX7_counted_58
    · have h := ite_f h c23
      by_cases c25 : x1 = 2
      · have h := ite_t h c25
        refine j_tableIn C (tgt := 59) dX7_counted_1 (by rw [c25]; decide) (by rw [c25]; decide) (by rw [c25]; rfl) (by decide) ?_
        refine j_aload_n C (q := 0) dX7_counted_59 rfl rfl ?_
        refine fg_X7_7 C (i := 225) kA_225 dX7_counted_60 ?_
        refine j_bipush C (v := 41) dX7_counted_63 (by decide) ?_
        refine j_iload_n C (q := 1) dX7_counted_65 rfl rfl ?_
        refine j_iadd C dX7_counted_66 ?_
        refine j_iconst C (v := 2) dX7_counted_67 (by decide) ?_
        refine j_isub C dX7_counted_68 ?_
        obtain ⟨g26, h⟩ := gd_some h
        refine j_iald C (i := 226) kA_226 (inA g26 aA_226) dX7_counted_69 ?_
        refine j_iconst C (v := 5) dX7_counted_70 (by decide) ?_
        refine j_iadd C dX7_counted_71 ?_
        exact j_iret C hr hlk h ⟨Nat.le_of_ble_eq_true rfl, Nat.le_of_ble_eq_true rfl⟩ dX7_counted_72
      · have h := ite_f h c25
        by_cases c27 : x1 = 3
        · have h := ite_t h c27
          refine j_tableIn C (tgt := 59) dX7_counted_1 (by rw [c27]; decide) (by rw [c27]; decide) (by rw [c27]; rfl) (by decide) ?_
          refine j_aload_n C (q := 0) dX7_counted_59 rfl rfl ?_
          refine fg_X7_7 C (i := 225) kA_225 dX7_counted_60 ?_
          refine j_bipush C (v := 41) dX7_counted_63 (by decide) ?_
          refine j_iload_n C (q := 1) dX7_counted_65 rfl rfl ?_
          refine j_iadd C dX7_counted_66 ?_
          refine j_iconst C (v := 2) dX7_counted_67 (by decide) ?_
          refine j_isub C dX7_counted_68 ?_
          obtain ⟨g28, h⟩ := gd_some h
          refine j_iald C (i := 226) kA_226 (inA g28 aA_226) dX7_counted_69 ?_
          refine j_iconst C (v := 5) dX7_counted_70 (by decide) ?_
          refine j_iadd C dX7_counted_71 ?_
          exact j_iret C hr hlk h ⟨Nat.le_of_ble_eq_true rfl, Nat.le_of_ble_eq_true rfl⟩ dX7_counted_72
        · have h := ite_f h c27
          by_cases c29 : x1 = 4
          · have h := ite_t h c29
            refine j_tableIn C (tgt := 59) dX7_counted_1 (by rw [c29]; decide) (by rw [c29]; decide) (by rw [c29]; rfl) (by decide) ?_
            refine j_aload_n C (q := 0) dX7_counted_59 rfl rfl ?_
            refine fg_X7_7 C (i := 225) kA_225 dX7_counted_60 ?_
            refine j_bipush C (v := 41) dX7_counted_63 (by decide) ?_
            refine j_iload_n C (q := 1) dX7_counted_65 rfl rfl ?_
            refine j_iadd C dX7_counted_66 ?_
            refine j_iconst C (v := 2) dX7_counted_67 (by decide) ?_
            refine j_isub C dX7_counted_68 ?_
            obtain ⟨g30, h⟩ := gd_some h
            refine j_iald C (i := 226) kA_226 (inA g30 aA_226) dX7_counted_69 ?_
            refine j_iconst C (v := 5) dX7_counted_70 (by decide) ?_
            refine j_iadd C dX7_counted_71 ?_
            exact j_iret C hr hlk h ⟨Nat.le_of_ble_eq_true rfl, Nat.le_of_ble_eq_true rfl⟩ dX7_counted_72
          · have h := ite_f h c29
            by_cases c31 : x1 = 5
            · have h := ite_t h c31
              refine j_tableIn C (tgt := 73) dX7_counted_1 (by rw [c31]; decide) (by rw [c31]; decide) (by rw [c31]; rfl) (by decide) ?_
              refine j_aload_n C (q := 0) dX7_counted_73 rfl rfl ?_
              refine fg_X7_7 C (i := 225) kA_225 dX7_counted_74 ?_
              refine j_bipush C (v := 44) dX7_counted_77 (by decide) ?_
              obtain ⟨g32, h⟩ := gd_some h
              refine j_iald C (i := 226) kA_226 (inA g32 aA_226) dX7_counted_79 ?_
              exact j_iret C hr hlk h ⟨Nat.le_of_ble_eq_true rfl, Nat.le_of_ble_eq_true rfl⟩ dX7_counted_80
            · have h := ite_f h c31
              by_cases c33 : x1 = 6
              · have h := ite_t h c33
                refine j_tableIn C (tgt := 81) dX7_counted_1 (by rw [c33]; decide) (by rw [c33]; decide) (by rw [c33]; rfl) (by decide) ?_
                refine j_aload_n C (q := 0) dX7_counted_81 rfl rfl ?_
                obtain ⟨x34, t35, e36, h⟩ := bd_some h
                refine j_callV_i C (i := 225) (As := []) (rest := []) (c_X7_allStale l G B dy _ e36) (shp7 G B _ kA_225) (kd_lt kA_225 (by decide)) rfl tw_1044 tw_1046 tp_64 ti_7 tw_1047 hd_X7_allStale ⟨Nat.le_of_ble_eq_true rfl, Nat.le_of_ble_eq_true rfl⟩ ⟨Nat.le_of_ble_eq_true rfl, Nat.le_of_ble_eq_true rfl⟩ rfl rfl (Nat.le_of_ble_eq_true rfl) dX7_counted_82 ?_
                exact j_iret C hr hlk h ⟨Nat.le_of_ble_eq_true rfl, Nat.le_of_ble_eq_true rfl⟩ dX7_counted_85
              · have h := ite_f h c33
                have nc21 := lv_neT c21 (show (0 : Int32).toInt = 0 by decide)
                have nc23 := lv_neT c23 (show (1 : Int32).toInt = 1 by decide)
                have nc25 := lv_neT c25 (show (2 : Int32).toInt = 2 by decide)
                have nc27 := lv_neT c27 (show (3 : Int32).toInt = 3 by decide)
                have nc29 := lv_neT c29 (show (4 : Int32).toInt = 4 by decide)
                have nc31 := lv_neT c31 (show (5 : Int32).toInt = 5 by decide)
                have nc33 := lv_neT c33 (show (6 : Int32).toInt = 6 by decide)
                refine j_tableOut C (tgt := 86) dX7_counted_1 (by omega) (by decide) ?_
                refine j_aload_n C (q := 0) dX7_counted_86 rfl rfl ?_
                refine fg_X7_46 C (i := 225) kA_225 dX7_counted_87 ?_
                exact j_iret C hr hlk h ⟨Nat.le_of_ble_eq_true rfl, Nat.le_of_ble_eq_true rfl⟩ dX7_counted_90
set_option maxRecDepth 100000 in
set_option maxHeartbeats 4000000 in
theorem c_X7_count (l : Launch) (G : GG) (B dy : Nat) (x1 : Int32) (t0 : St) {r : Int32} {t9 : St} (h : f_X7_count x1 t0 = some (r, t9)) : Ct l G B dy yX7_count cX7_count 2 (some .int) 7 167 0 0 [.ref (B + 225), .int x1] t0 (PostI G B r t9) := by
  refine Ct_of (by decide +kernel) [(0, .ref (B + 225)), (1, .int x1)] (Nat.le_of_ble_eq_true rfl) rfl ?_
  intro p e s m args below meth c C hr hlk
  have J16 : ∀ (w0 : Int32) (t0 : St), f_X7_count_b16 x1 w0 t0 = some (r, t9) → WW G B p l e (RM 7 167 0 0) s m args below meth c 0 0 (MQ below (PostI G B r t9) args s 0 0 (Ab B)) 2 16 [(0, .ref (B + 225)), (1, .int x1)] [.int w0, .ref (B + 225)] t0 := by
    intro w0 t0 h
    obtain ⟨x21, t22, e23, h⟩ := bd_some h
    refine j_callV_i C (i := 225) (As := [.int w0]) (rest := []) (c_X7_holds l G B dy w0 _ e23) (shp7 G B _ kA_225) (kd_lt kA_225 (by decide)) rfl tw_847 tw_849 tp_37 ti_7 tw_850 hd_X7_holds ⟨Nat.le_of_ble_eq_true rfl, Nat.le_of_ble_eq_true rfl⟩ ⟨Nat.le_of_ble_eq_true rfl, Nat.le_of_ble_eq_true rfl⟩ rfl rfl (Nat.le_of_ble_eq_true rfl) dX7_count_16 ?_
    refine j_if_eq C (tgt := 30) dX7_count_19 (by decide) (fun c24 => ?_) (fun c24 => ?_)
    · have h := ite_t h c24
      refine j_iconst C (v := 0) dX7_count_30 (by decide) ?_
      exact j_iret C hr hlk h ⟨Nat.le_of_ble_eq_true rfl, Nat.le_of_ble_eq_true rfl⟩ dX7_count_31
    · have h := ite_f h c24
      refine j_aload_n C (q := 0) dX7_count_22 rfl rfl ?_
      refine j_iload_n C (q := 1) dX7_count_23 rfl rfl ?_
      obtain ⟨x25, t26, e27, h⟩ := bd_some h
      refine j_callV_i C (i := 225) (As := [.int x1]) (rest := []) (c_X7_counted l G B dy x1 _ e27) (shp7 G B _ kA_225) (kd_lt kA_225 (by decide)) rfl tw_1040 tw_1042 tp_63 ti_7 tw_1043 hd_X7_counted ⟨Nat.le_of_ble_eq_true rfl, Nat.le_of_ble_eq_true rfl⟩ ⟨Nat.le_of_ble_eq_true rfl, Nat.le_of_ble_eq_true rfl⟩ rfl rfl (Nat.le_of_ble_eq_true rfl) dX7_count_24 ?_
      refine j_goto C (tgt := 31) dX7_count_27 (by decide) ?_
      exact j_iret C hr hlk h ⟨Nat.le_of_ble_eq_true rfl, Nat.le_of_ble_eq_true rfl⟩ dX7_count_31
  refine j_aload_n C (q := 0) dX7_count_0 rfl rfl ?_
  refine j_iload_n C (q := 1) dX7_count_1 rfl rfl ?_
  refine j_iconst C (v := 0) dX7_count_2 (by decide) ?_
  refine j_bipush C (v := 7) dX7_count_3 (by decide) ?_
  obtain ⟨x28, t29, e30, h⟩ := bd_some h
  refine j_callS_i C (i := 0) (As := [.int x1, .int 0, .int 7]) (rest := [.ref (B + 225)]) (c_X7_in l G B dy x1 0 7 _ e30) tw_844 tw_845 ti_7 tw_846 ⟨rfl, hd_X7_in⟩ ⟨Nat.le_of_ble_eq_true rfl, Nat.le_of_ble_eq_true rfl⟩ ⟨Nat.le_of_ble_eq_true rfl, Nat.le_of_ble_eq_true rfl⟩ rfl rfl (Nat.le_of_ble_eq_true rfl) dX7_count_5 ?_
  refine j_if_eq C (tgt := 15) dX7_count_8 (by decide) (fun c31 => ?_) (fun c31 => ?_)
  · have h := ite_t h c31
    refine j_iconst C (v := 1) dX7_count_15 (by decide) ?_
    exact J16 1 _ h
  · have h := ite_f h c31
    refine j_iconst C (v := 0) dX7_count_11 (by decide) ?_
    refine j_goto C (tgt := 16) dX7_count_12 (by decide) ?_
    exact J16 0 _ h
set_option maxRecDepth 100000 in
set_option maxHeartbeats 4000000 in
theorem c_X7_outermost (l : Launch) (G : GG) (B dy : Nat) (x1 : Int32) (x2 : Int32) (x3 : Int32) (x4 : Int32) (t0 : St) {r : Int32} {t9 : St} (h : f_X7_outermost x1 x2 x3 x4 t0 = some (r, t9)) : Ct l G B dy yX7_outermost cX7_outermost 9 (some .int) 6 146 0 0 [.ref (B + 225), .int x1, .int x2, .int x3, .int x4] t0 (PostI G B r t9) := by
  refine Ct_of (by decide +kernel) [(0, .ref (B + 225)), (1, .int x1), (2, .int x2), (3, .int x3), (4, .int x4)] (Nat.le_of_ble_eq_true rfl) rfl ?_
  intro p e s m args below meth c C hr hlk
  have J6 : ∀ (n6 : Nat) (y5 : Int32) (y6 : Int32) (t0 : St), f_X7_outermost_l6 n6 x1 x2 x3 x4 y5 y6 t0 = some (r, t9) → WW G B p l e (RM 6 146 0 0) s m args below meth c 0 0 (MQ below (PostI G B r t9) args s 0 0 (Ab B)) 9 6 [(0, .ref (B + 225)), (1, .int x1), (2, .int x2), (3, .int x3), (4, .int x4), (5, .int y5), (6, .int y6)] [] t0 := by
    intro n6
    induction n6 with
    | zero => intro y5 y6 t0 h; exact (no_some h).elim
    | succ n6 ih6 =>
      try clear h
      have J70 : ∀ (y5 : Int32) (y6 : Int32) (y7 : Int32) (w0 : Int32) (t0 : St), f_X7_outermost_b70 (f_X7_outermost_l6 n6) x1 x2 x3 x4 y5 y6 y7 w0 t0 = some (r, t9) → WW G B p l e (RM 6 146 0 0) s m args below meth c 0 0 (MQ below (PostI G B r t9) args s 0 0 (Ab B)) 9 70 [(0, .ref (B + 225)), (1, .int x1), (2, .int x2), (3, .int x3), (4, .int x4), (5, .int y5), (6, .int y6), (7, .int y7)] [.int w0] t0 := by
        intro y5 y6 y7 w0 t0 h
        refine j_istore C [(0, .ref (B + 225)), (1, .int x1), (2, .int x2), (3, .int x3), (4, .int x4), (5, .int y5), (6, .int y6), (7, .int y7), (8, .int w0)] [1, 2, 3, 4, 5, 6, 7, 8, 0] dX7_outermost_70 (by decide) rfl ?_
        refine j_iload C (q := 8) dX7_outermost_72 rfl ?_
        refine j_if_eq C (tgt := 82) dX7_outermost_74 (by decide) (fun c21 => ?_) (fun c21 => ?_)
        · have h := ite_t h c21
          refine j_iload C (q := 5) dX7_outermost_82 rfl ?_
          refine j_istore C [(0, .ref (B + 225)), (1, .int x1), (2, .int x2), (3, .int x3), (4, .int x4), (5, .int y5), (6, .int y6), (7, .int y7), (8, .int w0)] [1, 2, 3, 4, 5, 0, 6, 7, 8] dX7_outermost_84 (by decide) rfl ?_
          obtain ⟨x22, ex22⟩ : ∃ y : Int32, y = (y6 + 1) := ⟨_, rfl⟩
          have h := lt_at h ex22
          refine j_iinc C (q := 6) [(0, .ref (B + 225)), (1, .int x1), (2, .int x2), (3, .int x3), (4, .int x4), (5, .int y5), (6, .int x22), (7, .int y7), (8, .int w0)] [1, 2, 3, 4, 5, 6, 0, 7, 8] dX7_outermost_86 rfl (by rw [ex22]; rfl) (by decide) rfl ?_
          refine j_goto C (tgt := 6) dX7_outermost_89 (by decide) ?_
          refine j_sub [0, 1, 2, 3, 4, 5, 6] rfl ?_
          exact ih6 y5 x22 _ h
        · have h := ite_f h c21
          refine j_iload C (q := 7) dX7_outermost_77 rfl ?_
          refine j_goto C (tgt := 84) dX7_outermost_79 (by decide) ?_
          refine j_istore C [(0, .ref (B + 225)), (1, .int x1), (2, .int x2), (3, .int x3), (4, .int x4), (5, .int y7), (6, .int y6), (7, .int y7), (8, .int w0)] [1, 2, 3, 4, 5, 0, 6, 7, 8] dX7_outermost_84 (by decide) rfl ?_
          obtain ⟨x23, ex23⟩ : ∃ y : Int32, y = (y6 + 1) := ⟨_, rfl⟩
          have h := lt_at h ex23
          refine j_iinc C (q := 6) [(0, .ref (B + 225)), (1, .int x1), (2, .int x2), (3, .int x3), (4, .int x4), (5, .int y7), (6, .int x23), (7, .int y7), (8, .int w0)] [1, 2, 3, 4, 5, 6, 0, 7, 8] dX7_outermost_86 rfl (by rw [ex23]; rfl) (by decide) rfl ?_
          refine j_goto C (tgt := 6) dX7_outermost_89 (by decide) ?_
          refine j_sub [0, 1, 2, 3, 4, 5, 6] rfl ?_
          exact ih6 y7 x23 _ h
      have J69 : ∀ (y5 : Int32) (y6 : Int32) (y7 : Int32) (t0 : St), f_X7_outermost_b69 (f_X7_outermost_l6 n6) x1 x2 x3 x4 y5 y6 y7 t0 = some (r, t9) → WW G B p l e (RM 6 146 0 0) s m args below meth c 0 0 (MQ below (PostI G B r t9) args s 0 0 (Ab B)) 9 69 [(0, .ref (B + 225)), (1, .int x1), (2, .int x2), (3, .int x3), (4, .int x4), (5, .int y5), (6, .int y6), (7, .int y7)] [] t0 := by
        intro y5 y6 y7 t0 h
        refine j_iconst C (v := 0) dX7_outermost_69 (by decide) ?_
        exact J70 y5 y6 y7 0 _ h
      intro y5 y6 t0 h
      have h : f_X7_outermost_b6 (f_X7_outermost_l6 n6) x1 x2 x3 x4 y5 y6 t0 = some (r, t9) := h
      refine j_iload C (q := 6) dX7_outermost_6 rfl ?_
      refine j_iload_n C (q := 2) dX7_outermost_8 rfl rfl ?_
      refine j_iload_n C (q := 3) dX7_outermost_9 rfl rfl ?_
      refine j_iadd C dX7_outermost_10 ?_
      refine j_icmp_ge C (tgt := 92) dX7_outermost_11 (by decide) (fun c24 => ?_) (fun c24 => ?_)
      · have h := ite_t h c24
        refine j_iload C (q := 5) dX7_outermost_92 rfl ?_
        exact j_iret C hr hlk h ⟨Nat.le_of_ble_eq_true rfl, Nat.le_of_ble_eq_true rfl⟩ dX7_outermost_94
      · have h := ite_f h c24
        refine j_iload C (q := 6) dX7_outermost_14 rfl ?_
        refine j_sipush C (v := 999) dX7_outermost_16 (by decide) ?_
        refine j_icmp_gt C (tgt := 92) dX7_outermost_19 (by decide) (fun c25 => ?_) (fun c25 => ?_)
        · have h := ite_t h c25
          refine j_iload C (q := 5) dX7_outermost_92 rfl ?_
          exact j_iret C hr hlk h ⟨Nat.le_of_ble_eq_true rfl, Nat.le_of_ble_eq_true rfl⟩ dX7_outermost_94
        · have h := ite_f h c25
          refine j_aload_n C (q := 0) dX7_outermost_22 rfl rfl ?_
          refine j_iload_n C (q := 1) dX7_outermost_23 rfl rfl ?_
          refine j_iload C (q := 6) dX7_outermost_24 rfl ?_
          obtain ⟨x26, t27, e28, h⟩ := bd_some h
          refine j_callV_i C (i := 225) (As := [.int x1, .int y6]) (rest := []) (c_X7_settledOf l G B dy x1 y6 _ e28) (shp7 G B _ kA_225) (kd_lt kA_225 (by decide)) rfl tw_1008 tw_1010 tp_58 ti_7 tw_1011 hd_X7_settledOf ⟨Nat.le_of_ble_eq_true rfl, Nat.le_of_ble_eq_true rfl⟩ ⟨Nat.le_of_ble_eq_true rfl, Nat.le_of_ble_eq_true rfl⟩ rfl rfl (Nat.le_of_ble_eq_true rfl) dX7_outermost_26 ?_
          refine j_istore C [(0, .ref (B + 225)), (1, .int x1), (2, .int x2), (3, .int x3), (4, .int x4), (5, .int y5), (6, .int y6), (7, .int x26)] [1, 2, 3, 4, 5, 6, 7, 0] dX7_outermost_29 (by decide) rfl ?_
          refine j_iload C (q := 7) dX7_outermost_31 rfl ?_
          refine j_iconst C (v := (-1)) dX7_outermost_33 (by decide) ?_
          refine j_icmp_eq C (tgt := 69) dX7_outermost_34 (by decide) (fun c29 => ?_) (fun c29 => ?_)
          · have h := ite_t h c29
            exact J69 y5 y6 x26 _ h
          · have h := ite_f h c29
            refine j_iload C (q := 5) dX7_outermost_37 rfl ?_
            refine j_iconst C (v := (-1)) dX7_outermost_39 (by decide) ?_
            refine j_icmp_eq C (tgt := 65) dX7_outermost_40 (by decide) (fun c30 => ?_) (fun c30 => ?_)
            · have h := ite_t h c30
              refine j_iconst C (v := 1) dX7_outermost_65 (by decide) ?_
              refine j_goto C (tgt := 70) dX7_outermost_66 (by decide) ?_
              exact J70 y5 y6 x26 1 _ h
            · have h := ite_f h c30
              refine j_iload C (q := 4) dX7_outermost_43 rfl ?_
              refine j_if_eq C (tgt := 58) dX7_outermost_45 (by decide) (fun c31 => ?_) (fun c31 => ?_)
              · have h := ite_t h c31
                refine j_iload C (q := 7) dX7_outermost_58 rfl ?_
                refine j_iload C (q := 5) dX7_outermost_60 rfl ?_
                refine j_icmp_ge C (tgt := 69) dX7_outermost_62 (by decide) (fun c32 => ?_) (fun c32 => ?_)
                · have h := ite_t h c32
                  exact J69 y5 y6 x26 _ h
                · have h := ite_f h c32
                  refine j_iconst C (v := 1) dX7_outermost_65 (by decide) ?_
                  refine j_goto C (tgt := 70) dX7_outermost_66 (by decide) ?_
                  exact J70 y5 y6 x26 1 _ h
              · have h := ite_f h c31
                refine j_iload C (q := 7) dX7_outermost_48 rfl ?_
                refine j_iload C (q := 5) dX7_outermost_50 rfl ?_
                refine j_icmp_le C (tgt := 69) dX7_outermost_52 (by decide) (fun c33 => ?_) (fun c33 => ?_)
                · have h := ite_t h c33
                  exact J69 y5 y6 x26 _ h
                · have h := ite_f h c33
                  refine j_goto C (tgt := 65) dX7_outermost_55 (by decide) ?_
                  refine j_iconst C (v := 1) dX7_outermost_65 (by decide) ?_
                  refine j_goto C (tgt := 70) dX7_outermost_66 (by decide) ?_
                  exact J70 y5 y6 x26 1 _ h
  refine j_iconst C (v := (-1)) dX7_outermost_0 (by decide) ?_
  refine j_istore C [(0, .ref (B + 225)), (1, .int x1), (2, .int x2), (3, .int x3), (4, .int x4), (5, .int (-1))] [1, 2, 3, 4, 5, 0] dX7_outermost_1 (by decide) rfl ?_
  refine j_iload_n C (q := 2) dX7_outermost_3 rfl rfl ?_
  refine j_istore C [(0, .ref (B + 225)), (1, .int x1), (2, .int x2), (3, .int x3), (4, .int x4), (5, .int (-1)), (6, .int x2)] [1, 2, 3, 4, 5, 6, 0] dX7_outermost_4 (by decide) rfl ?_
  exact J6 FU (-1) x2 _ h
set_option maxRecDepth 100000 in
set_option maxHeartbeats 4000000 in
theorem c_X7_range (l : Launch) (G : GG) (B dy : Nat) (x1 : Int32) (x2 : Int32) (x3 : Int32) (x4 : Int32) (t0 : St) {r : Int32} {t9 : St} (h : f_X7_range x1 x2 x3 x4 t0 = some (r, t9)) : Ct l G B dy yX7_range cX7_range 6 (some .int) 7 174 0 0 [.ref (B + 225), .int x1, .int x2, .int x3, .int x4] t0 (PostI G B r t9) := by
  refine Ct_of (by decide +kernel) [(0, .ref (B + 225)), (1, .int x1), (2, .int x2), (3, .int x3), (4, .int x4)] (Nat.le_of_ble_eq_true rfl) rfl ?_
  intro p e s m args below meth c C hr hlk
  have J34 : ∀ (w0 : Int32) (t0 : St), f_X7_range_b34 x1 x2 x3 x4 w0 t0 = some (r, t9) → WW G B p l e (RM 7 174 0 0) s m args below meth c 0 0 (MQ below (PostI G B r t9) args s 0 0 (Ab B)) 6 34 [(0, .ref (B + 225)), (1, .int x1), (2, .int x2), (3, .int x3), (4, .int x4)] [.int w0] t0 := by
    intro w0 t0 h
    refine j_istore C [(0, .ref (B + 225)), (1, .int x1), (2, .int x2), (3, .int x3), (4, .int x4), (5, .int w0)] [1, 2, 3, 4, 5, 0] dX7_range_34 (by decide) rfl ?_
    refine j_aload_n C (q := 0) dX7_range_36 rfl rfl ?_
    refine j_iload C (q := 5) dX7_range_37 rfl ?_
    obtain ⟨x21, t22, e23, h⟩ := bd_some h
    refine j_callV_i C (i := 225) (As := [.int w0]) (rest := []) (c_X7_holds l G B dy w0 _ e23) (shp7 G B _ kA_225) (kd_lt kA_225 (by decide)) rfl tw_847 tw_849 tp_37 ti_7 tw_850 hd_X7_holds ⟨Nat.le_of_ble_eq_true rfl, Nat.le_of_ble_eq_true rfl⟩ ⟨Nat.le_of_ble_eq_true rfl, Nat.le_of_ble_eq_true rfl⟩ rfl rfl (Nat.le_of_ble_eq_true rfl) dX7_range_39 ?_
    refine j_if_eq C (tgt := 57) dX7_range_42 (by decide) (fun c24 => ?_) (fun c24 => ?_)
    · have h := ite_t h c24
      refine j_iconst C (v := 0) dX7_range_57 (by decide) ?_
      exact j_iret C hr hlk h ⟨Nat.le_of_ble_eq_true rfl, Nat.le_of_ble_eq_true rfl⟩ dX7_range_58
    · have h := ite_f h c24
      refine j_aload_n C (q := 0) dX7_range_45 rfl rfl ?_
      refine j_iload_n C (q := 1) dX7_range_46 rfl rfl ?_
      refine j_iload_n C (q := 2) dX7_range_47 rfl rfl ?_
      refine j_iload_n C (q := 3) dX7_range_48 rfl rfl ?_
      refine j_iload C (q := 4) dX7_range_49 rfl ?_
      obtain ⟨x25, t26, e27, h⟩ := bd_some h
      refine j_callV_i C (i := 225) (As := [.int x1, .int x2, .int x3, .int x4]) (rest := []) (c_X7_outermost l G B dy x1 x2 x3 x4 _ e27) (shp7 G B _ kA_225) (kd_lt kA_225 (by decide)) rfl tw_1052 tw_1054 tp_65 ti_7 tw_1055 hd_X7_outermost ⟨Nat.le_of_ble_eq_true rfl, Nat.le_of_ble_eq_true rfl⟩ ⟨Nat.le_of_ble_eq_true rfl, Nat.le_of_ble_eq_true rfl⟩ rfl rfl (Nat.le_of_ble_eq_true rfl) dX7_range_51 ?_
      refine j_goto C (tgt := 58) dX7_range_54 (by decide) ?_
      exact j_iret C hr hlk h ⟨Nat.le_of_ble_eq_true rfl, Nat.le_of_ble_eq_true rfl⟩ dX7_range_58
  refine j_aload_n C (q := 0) dX7_range_0 rfl rfl ?_
  refine j_iload_n C (q := 1) dX7_range_1 rfl rfl ?_
  obtain ⟨x28, t29, e30, h⟩ := bd_some h
  refine j_callV_i C (i := 225) (As := [.int x1]) (rest := []) (c_X7_isFeast l G B dy x1 _ e30) (shp7 G B _ kA_225) (kd_lt kA_225 (by decide)) rfl tw_902 tw_904 tp_45 ti_7 tw_905 hd_X7_isFeast ⟨Nat.le_of_ble_eq_true rfl, Nat.le_of_ble_eq_true rfl⟩ ⟨Nat.le_of_ble_eq_true rfl, Nat.le_of_ble_eq_true rfl⟩ rfl rfl (Nat.le_of_ble_eq_true rfl) dX7_range_2 ?_
  refine j_if_ne C (tgt := 12) dX7_range_5 (by decide) (fun c31 => ?_) (fun c31 => ?_)
  · have h := ite_t h c31
    refine j_iconst C (v := 1) dX7_range_8 (by decide) ?_
    refine j_goto C (tgt := 34) dX7_range_9 (by decide) ?_
    exact J34 1 _ h
  · have h := ite_f h c31
    refine j_iload_n C (q := 2) dX7_range_12 rfl rfl ?_
    obtain ⟨x32, t33, e34, h⟩ := bd_some h
    refine j_callS_i C (i := 0) (As := [.int x2]) (rest := []) (c_X7_isYear l G B dy x2 _ e34) tw_925 tw_926 ti_7 tw_927 ⟨rfl, hd_X7_isYear⟩ ⟨Nat.le_of_ble_eq_true rfl, Nat.le_of_ble_eq_true rfl⟩ ⟨Nat.le_of_ble_eq_true rfl, Nat.le_of_ble_eq_true rfl⟩ rfl rfl (Nat.le_of_ble_eq_true rfl) dX7_range_13 ?_
    refine j_if_eq C (tgt := 29) dX7_range_16 (by decide) (fun c35 => ?_) (fun c35 => ?_)
    · have h := ite_t h c35
      refine j_iconst C (v := 2) dX7_range_29 (by decide) ?_
      refine j_goto C (tgt := 34) dX7_range_30 (by decide) ?_
      exact J34 2 _ h
    · have h := ite_f h c35
      refine j_iload_n C (q := 3) dX7_range_19 rfl rfl ?_
      refine j_iconst C (v := 1) dX7_range_20 (by decide) ?_
      refine j_bipush C (v := 40) dX7_range_21 (by decide) ?_
      obtain ⟨x36, t37, e38, h⟩ := bd_some h
      refine j_callS_i C (i := 0) (As := [.int x3, .int 1, .int 40]) (rest := []) (c_X7_in l G B dy x3 1 40 _ e38) tw_844 tw_845 ti_7 tw_846 ⟨rfl, hd_X7_in⟩ ⟨Nat.le_of_ble_eq_true rfl, Nat.le_of_ble_eq_true rfl⟩ ⟨Nat.le_of_ble_eq_true rfl, Nat.le_of_ble_eq_true rfl⟩ rfl rfl (Nat.le_of_ble_eq_true rfl) dX7_range_23 ?_
      refine j_if_ne C (tgt := 33) dX7_range_26 (by decide) (fun c39 => ?_) (fun c39 => ?_)
      · have h := ite_t h c39
        refine j_iconst C (v := 2) dX7_range_29 (by decide) ?_
        refine j_goto C (tgt := 34) dX7_range_30 (by decide) ?_
        exact J34 2 _ h
      · have h := ite_f h c39
        refine j_iconst C (v := 0) dX7_range_33 (by decide) ?_
        exact J34 0 _ h
set_option maxRecDepth 100000 in
set_option maxHeartbeats 4000000 in
theorem c_X7_nextAlike (l : Launch) (G : GG) (B dy : Nat) (x1 : Int32) (t0 : St) {r : Int32} {t9 : St} (h : f_X7_nextAlike x1 t0 = some (r, t9)) : Ct l G B dy yX7_nextAlike cX7_nextAlike 5 (some .int) 5 124 0 0 [.ref (B + 225), .int x1] t0 (PostI G B r t9) := by
  refine Ct_of (by decide +kernel) [(0, .ref (B + 225)), (1, .int x1)] (Nat.le_of_ble_eq_true rfl) rfl ?_
  intro p e s m args below meth c C hr hlk
  have J38 : ∀ (n38 : Nat) (y2 : Int32) (t0 : St), f_X7_nextAlike_l38 n38 x1 y2 t0 = some (r, t9) → WW G B p l e (RM 5 124 0 0) s m args below meth c 0 0 (MQ below (PostI G B r t9) args s 0 0 (Ab B)) 5 38 [(0, .ref (B + 225)), (1, .int x1), (2, .int y2)] [] t0 := by
    intro n38
    induction n38 with
    | zero => intro y2 t0 h; exact (no_some h).elim
    | succ n38 ih38 =>
      try clear h
      have J87 : ∀ (n87 : Nat) (y2 : Int32) (y3 : Int32) (y4 : Int32) (t0 : St), f_X7_nextAlike_l87 (f_X7_nextAlike_l38 n38) n87 x1 y2 y3 y4 t0 = some (r, t9) → WW G B p l e (RM 5 124 0 0) s m args below meth c 0 0 (MQ below (PostI G B r t9) args s 0 0 (Ab B)) 5 87 [(0, .ref (B + 225)), (1, .int x1), (2, .int y2), (3, .int y3), (4, .int y4)] [] t0 := by
        intro n87
        induction n87 with
        | zero => intro y2 y3 y4 t0 h; exact (no_some h).elim
        | succ n87 ih87 =>
          try clear h
          intro y2 y3 y4 t0 h
          have h : f_X7_nextAlike_b87 (f_X7_nextAlike_l38 n38) (f_X7_nextAlike_l87 (f_X7_nextAlike_l38 n38) n87) x1 y2 y3 y4 t0 = some (r, t9) := h
          refine j_iload C (q := 4) dX7_nextAlike_87 rfl ?_
          refine j_aload_n C (q := 0) dX7_nextAlike_89 rfl rfl ?_
          refine fg_X7_7 C (i := 225) kA_225 dX7_nextAlike_90 ?_
          refine j_iconst C (v := 0) dX7_nextAlike_93 (by decide) ?_
          obtain ⟨g21, h⟩ := gd_some h
          refine j_iald C (i := 226) kA_226 (inA g21 aA_226) dX7_nextAlike_94 ?_
          refine j_icmp_ge C (tgt := 130) dX7_nextAlike_95 (by decide) (fun c22 => ?_) (fun c22 => ?_)
          · have h := ite_t h c22
            refine j_iload_n C (q := 3) dX7_nextAlike_130 rfl rfl ?_
            refine j_if_eq C (tgt := 136) dX7_nextAlike_131 (by decide) (fun c23 => ?_) (fun c23 => ?_)
            · have h := ite_t h c23
              obtain ⟨x24, ex24⟩ : ∃ y : Int32, y = (y2 + 1) := ⟨_, rfl⟩
              have h := lt_at h ex24
              refine j_iinc C (q := 2) [(0, .ref (B + 225)), (1, .int x1), (2, .int x24), (3, .int y3), (4, .int y4)] [1, 2, 0, 3, 4] dX7_nextAlike_136 rfl (by rw [ex24]; rfl) (by decide) rfl ?_
              refine j_goto C (tgt := 38) dX7_nextAlike_139 (by decide) ?_
              refine j_sub [0, 1, 2] rfl ?_
              exact ih38 x24 _ h
            · have h := ite_f h c23
              refine j_iload_n C (q := 2) dX7_nextAlike_134 rfl rfl ?_
              exact j_iret C hr hlk h ⟨Nat.le_of_ble_eq_true rfl, Nat.le_of_ble_eq_true rfl⟩ dX7_nextAlike_135
          · have h := ite_f h c22
            refine j_iload_n C (q := 3) dX7_nextAlike_98 rfl rfl ?_
            refine j_if_eq C (tgt := 122) dX7_nextAlike_99 (by decide) (fun c25 => ?_) (fun c25 => ?_)
            · have h := ite_t h c25
              refine j_iconst C (v := 0) dX7_nextAlike_122 (by decide) ?_
              refine j_istore_n C [(0, .ref (B + 225)), (1, .int x1), (2, .int y2), (3, .int 0), (4, .int y4)] [1, 2, 3, 0, 4] dX7_nextAlike_123 rfl (by decide) rfl ?_
              obtain ⟨x26, ex26⟩ : ∃ y : Int32, y = (y4 + 1) := ⟨_, rfl⟩
              have h := lt_at h ex26
              refine j_iinc C (q := 4) [(0, .ref (B + 225)), (1, .int x1), (2, .int y2), (3, .int 0), (4, .int x26)] [1, 2, 3, 4, 0] dX7_nextAlike_124 rfl (by rw [ex26]; rfl) (by decide) rfl ?_
              refine j_goto C (tgt := 87) dX7_nextAlike_127 (by decide) ?_
              exact ih87 y2 0 x26 _ h
            · have h := ite_f h c25
              refine j_aload_n C (q := 0) dX7_nextAlike_102 rfl rfl ?_
              refine j_iload C (q := 4) dX7_nextAlike_103 rfl ?_
              obtain ⟨x27, t28, e29, h⟩ := bd_some h
              refine j_callV_i C (i := 225) (As := [.int y4]) (rest := []) (c_X7_settledBy l G B dy y4 _ e29) (shp7 G B _ kA_225) (kd_lt kA_225 (by decide)) rfl tw_984 tw_986 tp_55 ti_7 tw_987 hd_X7_settledBy ⟨Nat.le_of_ble_eq_true rfl, Nat.le_of_ble_eq_true rfl⟩ ⟨Nat.le_of_ble_eq_true rfl, Nat.le_of_ble_eq_true rfl⟩ rfl rfl (Nat.le_of_ble_eq_true rfl) dX7_nextAlike_105 ?_
              refine j_aload_n C (q := 0) dX7_nextAlike_108 rfl rfl ?_
              refine fg_X7_35 C (i := 225) kA_225 dX7_nextAlike_109 ?_
              refine j_iload C (q := 4) dX7_nextAlike_112 rfl ?_
              obtain ⟨g30, h⟩ := gd_some h
              refine j_iald C (i := 234) kA_234 (inA g30 aA_234) dX7_nextAlike_114 ?_
              refine j_icmp_ne C (tgt := 122) dX7_nextAlike_115 (by decide) (fun c31 => ?_) (fun c31 => ?_)
              · have h := ite_t h c31
                refine j_iconst C (v := 1) dX7_nextAlike_118 (by decide) ?_
                refine j_goto C (tgt := 123) dX7_nextAlike_119 (by decide) ?_
                refine j_istore_n C [(0, .ref (B + 225)), (1, .int x1), (2, .int y2), (3, .int 1), (4, .int y4)] [1, 2, 3, 0, 4] dX7_nextAlike_123 rfl (by decide) rfl ?_
                obtain ⟨x33, ex33⟩ : ∃ y : Int32, y = (y4 + 1) := ⟨_, rfl⟩
                have h := lt_at h ex33
                refine j_iinc C (q := 4) [(0, .ref (B + 225)), (1, .int x1), (2, .int y2), (3, .int 1), (4, .int x33)] [1, 2, 3, 4, 0] dX7_nextAlike_124 rfl (by rw [ex33]; rfl) (by decide) rfl ?_
                refine j_goto C (tgt := 87) dX7_nextAlike_127 (by decide) ?_
                exact ih87 y2 1 x33 _ h
              · have h := ite_f h c31
                refine j_iconst C (v := 0) dX7_nextAlike_122 (by decide) ?_
                refine j_istore_n C [(0, .ref (B + 225)), (1, .int x1), (2, .int y2), (3, .int 0), (4, .int y4)] [1, 2, 3, 0, 4] dX7_nextAlike_123 rfl (by decide) rfl ?_
                obtain ⟨x32, ex32⟩ : ∃ y : Int32, y = (y4 + 1) := ⟨_, rfl⟩
                have h := lt_at h ex32
                refine j_iinc C (q := 4) [(0, .ref (B + 225)), (1, .int x1), (2, .int y2), (3, .int 0), (4, .int x32)] [1, 2, 3, 4, 0] dX7_nextAlike_124 rfl (by rw [ex32]; rfl) (by decide) rfl ?_
                refine j_goto C (tgt := 87) dX7_nextAlike_127 (by decide) ?_
                exact ih87 y2 0 x32 _ h
      intro y2 t0 h
      have h : f_X7_nextAlike_b38 (f_X7_nextAlike_l38 n38) x1 y2 t0 = some (r, t9) := h
      refine j_iload_n C (q := 2) dX7_nextAlike_38 rfl rfl ?_
      refine j_iload_n C (q := 1) dX7_nextAlike_39 rfl rfl ?_
      refine j_bipush C (v := 100) dX7_nextAlike_40 (by decide) ?_
      refine j_iadd C dX7_nextAlike_42 ?_
      refine j_icmp_gt C (tgt := 142) dX7_nextAlike_43 (by decide) (fun c34 => ?_) (fun c34 => ?_)
      · have h := ite_t h c34
        refine j_iconst C (v := (-1)) dX7_nextAlike_142 (by decide) ?_
        exact j_iret C hr hlk h ⟨Nat.le_of_ble_eq_true rfl, Nat.le_of_ble_eq_true rfl⟩ dX7_nextAlike_143
      · have h := ite_f h c34
        refine j_iload_n C (q := 2) dX7_nextAlike_46 rfl rfl ?_
        refine j_sipush C (v := 999) dX7_nextAlike_47 (by decide) ?_
        refine j_icmp_gt C (tgt := 142) dX7_nextAlike_50 (by decide) (fun c35 => ?_) (fun c35 => ?_)
        · have h := ite_t h c35
          refine j_iconst C (v := (-1)) dX7_nextAlike_142 (by decide) ?_
          exact j_iret C hr hlk h ⟨Nat.le_of_ble_eq_true rfl, Nat.le_of_ble_eq_true rfl⟩ dX7_nextAlike_143
        · have h := ite_f h c35
          refine j_iload_n C (q := 2) dX7_nextAlike_53 rfl rfl ?_
          obtain ⟨x36, t37, e38, h⟩ := bd_some h
          refine j_callS_i C (i := 0) (As := [.int y2]) (rest := []) (c_X7_daysOf l G B dy y2 _ e38) tw_940 tw_941 ti_7 tw_942 ⟨rfl, hd_X7_daysOf⟩ ⟨Nat.le_of_ble_eq_true rfl, Nat.le_of_ble_eq_true rfl⟩ ⟨Nat.le_of_ble_eq_true rfl, Nat.le_of_ble_eq_true rfl⟩ rfl rfl (Nat.le_of_ble_eq_true rfl) dX7_nextAlike_54 ?_
          refine j_iload_n C (q := 1) dX7_nextAlike_57 rfl rfl ?_
          obtain ⟨x39, t40, e41, h⟩ := bd_some h
          refine j_callS_i C (i := 0) (As := [.int x1]) (rest := [.int x36]) (c_X7_daysOf l G B dy x1 _ e41) tw_940 tw_941 ti_7 tw_942 ⟨rfl, hd_X7_daysOf⟩ ⟨Nat.le_of_ble_eq_true rfl, Nat.le_of_ble_eq_true rfl⟩ ⟨Nat.le_of_ble_eq_true rfl, Nat.le_of_ble_eq_true rfl⟩ rfl rfl (Nat.le_of_ble_eq_true rfl) dX7_nextAlike_58 ?_
          refine j_icmp_ne C (tgt := 136) dX7_nextAlike_61 (by decide) (fun c42 => ?_) (fun c42 => ?_)
          · have h := ite_t h c42
            refine j_iload_n C (q := 2) dX7_nextAlike_64 rfl rfl ?_
            refine j_iconst C (v := 0) dX7_nextAlike_65 (by decide) ?_
            obtain ⟨x44, t45, e46, h⟩ := bd_some h
            refine j_callS_i C (i := 0) (As := [.int y2, .int 0]) (rest := []) (c_X7_weekday l G B dy y2 0 _ e46) tw_950 tw_951 ti_7 tw_952 ⟨rfl, hd_X7_weekday⟩ ⟨Nat.le_of_ble_eq_true rfl, Nat.le_of_ble_eq_true rfl⟩ ⟨Nat.le_of_ble_eq_true rfl, Nat.le_of_ble_eq_true rfl⟩ rfl rfl (Nat.le_of_ble_eq_true rfl) dX7_nextAlike_66 ?_
            refine j_iload_n C (q := 1) dX7_nextAlike_69 rfl rfl ?_
            refine j_iconst C (v := 0) dX7_nextAlike_70 (by decide) ?_
            obtain ⟨x47, t48, e49, h⟩ := bd_some h
            refine j_callS_i C (i := 0) (As := [.int x1, .int 0]) (rest := [.int x44]) (c_X7_weekday l G B dy x1 0 _ e49) tw_950 tw_951 ti_7 tw_952 ⟨rfl, hd_X7_weekday⟩ ⟨Nat.le_of_ble_eq_true rfl, Nat.le_of_ble_eq_true rfl⟩ ⟨Nat.le_of_ble_eq_true rfl, Nat.le_of_ble_eq_true rfl⟩ rfl rfl (Nat.le_of_ble_eq_true rfl) dX7_nextAlike_71 ?_
            refine j_icmp_ne C (tgt := 136) dX7_nextAlike_74 (by decide) (fun c50 => ?_) (fun c50 => ?_)
            · have h := ite_t h c50
              refine j_aload_n C (q := 0) dX7_nextAlike_77 rfl rfl ?_
              refine j_iload_n C (q := 2) dX7_nextAlike_78 rfl rfl ?_
              obtain ⟨t53, e54, h⟩ := bv_some h
              refine j_callV_v C (i := 225) (As := [.int y2]) (rest := []) (c_X7_layAll l G B dy y2 _ e54) (shp7 G B _ kA_225) (kd_lt kA_225 (by decide)) rfl tw_980 tw_982 tp_54 ti_7 tw_983 hd_X7_layAll ⟨Nat.le_of_ble_eq_true rfl, Nat.le_of_ble_eq_true rfl⟩ ⟨Nat.le_of_ble_eq_true rfl, Nat.le_of_ble_eq_true rfl⟩ rfl rfl (Nat.le_of_ble_eq_true rfl) dX7_nextAlike_79 ?_
              refine j_iconst C (v := 1) dX7_nextAlike_82 (by decide) ?_
              refine j_istore_n C [(0, .ref (B + 225)), (1, .int x1), (2, .int y2), (3, .int 1)] [1, 2, 3, 0] dX7_nextAlike_83 rfl (by decide) rfl ?_
              refine j_iconst C (v := 0) dX7_nextAlike_84 (by decide) ?_
              refine j_istore C [(0, .ref (B + 225)), (1, .int x1), (2, .int y2), (3, .int 1), (4, .int 0)] [1, 2, 3, 4, 0] dX7_nextAlike_85 (by decide) rfl ?_
              exact J87 FU y2 1 0 _ h
            · have h := ite_f h c50
              obtain ⟨x51, ex51⟩ : ∃ y : Int32, y = (y2 + 1) := ⟨_, rfl⟩
              have h := lt_at h ex51
              refine j_iinc C (q := 2) [(0, .ref (B + 225)), (1, .int x1), (2, .int x51)] [1, 2, 0] dX7_nextAlike_136 rfl (by rw [ex51]; rfl) (by decide) rfl ?_
              refine j_goto C (tgt := 38) dX7_nextAlike_139 (by decide) ?_
              exact ih38 x51 _ h
          · have h := ite_f h c42
            obtain ⟨x43, ex43⟩ : ∃ y : Int32, y = (y2 + 1) := ⟨_, rfl⟩
            have h := lt_at h ex43
            refine j_iinc C (q := 2) [(0, .ref (B + 225)), (1, .int x1), (2, .int x43)] [1, 2, 0] dX7_nextAlike_136 rfl (by rw [ex43]; rfl) (by decide) rfl ?_
            refine j_goto C (tgt := 38) dX7_nextAlike_139 (by decide) ?_
            exact ih38 x43 _ h
  have J7 : ∀ (n7 : Nat) (y2 : Int32) (t0 : St), f_X7_nextAlike_l7 n7 x1 y2 t0 = some (r, t9) → WW G B p l e (RM 5 124 0 0) s m args below meth c 0 0 (MQ below (PostI G B r t9) args s 0 0 (Ab B)) 5 7 [(0, .ref (B + 225)), (1, .int x1), (2, .int y2)] [] t0 := by
    intro n7
    induction n7 with
    | zero => intro y2 t0 h; exact (no_some h).elim
    | succ n7 ih7 =>
      try clear h
      intro y2 t0 h
      have h : f_X7_nextAlike_b7 (f_X7_nextAlike_l7 n7) x1 y2 t0 = some (r, t9) := h
      refine j_iload_n C (q := 2) dX7_nextAlike_7 rfl rfl ?_
      refine j_aload_n C (q := 0) dX7_nextAlike_8 rfl rfl ?_
      refine fg_X7_7 C (i := 225) kA_225 dX7_nextAlike_9 ?_
      refine j_iconst C (v := 0) dX7_nextAlike_12 (by decide) ?_
      obtain ⟨g55, h⟩ := gd_some h
      refine j_iald C (i := 226) kA_226 (inA g55 aA_226) dX7_nextAlike_13 ?_
      refine j_icmp_ge C (tgt := 34) dX7_nextAlike_14 (by decide) (fun c56 => ?_) (fun c56 => ?_)
      · have h := ite_t h c56
        refine j_iload_n C (q := 1) dX7_nextAlike_34 rfl rfl ?_
        refine j_iconst C (v := 1) dX7_nextAlike_35 (by decide) ?_
        refine j_iadd C dX7_nextAlike_36 ?_
        refine j_topi (fun x57 ex57 => ?_)
        have h := lt_at h ex57
        refine j_istore_n C [(0, .ref (B + 225)), (1, .int x1), (2, .int x57)] [1, 2, 0] dX7_nextAlike_37 rfl (by decide) rfl ?_
        exact J38 FU x57 _ h
      · have h := ite_f h c56
        refine j_aload_n C (q := 0) dX7_nextAlike_17 rfl rfl ?_
        refine fg_X7_35 C (i := 225) kA_225 dX7_nextAlike_18 ?_
        refine j_iload_n C (q := 2) dX7_nextAlike_21 rfl rfl ?_
        refine j_aload_n C (q := 0) dX7_nextAlike_22 rfl rfl ?_
        refine j_iload_n C (q := 2) dX7_nextAlike_23 rfl rfl ?_
        obtain ⟨x58, t59, e60, h⟩ := bd_some h
        refine j_callV_i C (i := 225) (As := [.int y2]) (rest := [.int y2, .ref (B + 234)]) (c_X7_settledBy l G B dy y2 _ e60) (shp7 G B _ kA_225) (kd_lt kA_225 (by decide)) rfl tw_984 tw_986 tp_55 ti_7 tw_987 hd_X7_settledBy ⟨Nat.le_of_ble_eq_true rfl, Nat.le_of_ble_eq_true rfl⟩ ⟨Nat.le_of_ble_eq_true rfl, Nat.le_of_ble_eq_true rfl⟩ rfl rfl (Nat.le_of_ble_eq_true rfl) dX7_nextAlike_24 ?_
        obtain ⟨g61, h⟩ := gd_some h
        refine j_iast C (i := 234) kA_234 (inA g61 aA_234) dX7_nextAlike_27 ?_
        refine j_tops (fun t62 et62 => ?_)
        have h := lt_at h et62
        obtain ⟨x63, ex63⟩ : ∃ y : Int32, y = (y2 + 1) := ⟨_, rfl⟩
        have h := lt_at h ex63
        refine j_iinc C (q := 2) [(0, .ref (B + 225)), (1, .int x1), (2, .int x63)] [1, 2, 0] dX7_nextAlike_28 rfl (by rw [ex63]; rfl) (by decide) rfl ?_
        refine j_goto C (tgt := 7) dX7_nextAlike_31 (by decide) ?_
        exact ih7 x63 _ h
  refine j_aload_n C (q := 0) dX7_nextAlike_0 rfl rfl ?_
  refine j_iload_n C (q := 1) dX7_nextAlike_1 rfl rfl ?_
  obtain ⟨t65, e66, h⟩ := bv_some h
  refine j_callV_v C (i := 225) (As := [.int x1]) (rest := []) (c_X7_layAll l G B dy x1 _ e66) (shp7 G B _ kA_225) (kd_lt kA_225 (by decide)) rfl tw_980 tw_982 tp_54 ti_7 tw_983 hd_X7_layAll ⟨Nat.le_of_ble_eq_true rfl, Nat.le_of_ble_eq_true rfl⟩ ⟨Nat.le_of_ble_eq_true rfl, Nat.le_of_ble_eq_true rfl⟩ rfl rfl (Nat.le_of_ble_eq_true rfl) dX7_nextAlike_2 ?_
  refine j_iconst C (v := 0) dX7_nextAlike_5 (by decide) ?_
  refine j_istore_n C [(0, .ref (B + 225)), (1, .int x1), (2, .int 0)] [1, 2, 0] dX7_nextAlike_6 rfl (by decide) rfl ?_
  exact J7 FU 0 _ h
set_option maxRecDepth 100000 in
set_option maxHeartbeats 4000000 in
theorem c_X7_alike (l : Launch) (G : GG) (B dy : Nat) (x1 : Int32) (t0 : St) {r : Int32} {t9 : St} (h : f_X7_alike x1 t0 = some (r, t9)) : Ct l G B dy yX7_alike cX7_alike 2 (some .int) 6 148 0 0 [.ref (B + 225), .int x1] t0 (PostI G B r t9) := by
  refine Ct_of (by decide +kernel) [(0, .ref (B + 225)), (1, .int x1)] (Nat.le_of_ble_eq_true rfl) rfl ?_
  intro p e s m args below meth c C hr hlk
  have J13 : ∀ (w0 : Int32) (t0 : St), f_X7_alike_b13 x1 w0 t0 = some (r, t9) → WW G B p l e (RM 6 148 0 0) s m args below meth c 0 0 (MQ below (PostI G B r t9) args s 0 0 (Ab B)) 2 13 [(0, .ref (B + 225)), (1, .int x1)] [.int w0, .ref (B + 225)] t0 := by
    intro w0 t0 h
    obtain ⟨x21, t22, e23, h⟩ := bd_some h
    refine j_callV_i C (i := 225) (As := [.int w0]) (rest := []) (c_X7_holds l G B dy w0 _ e23) (shp7 G B _ kA_225) (kd_lt kA_225 (by decide)) rfl tw_847 tw_849 tp_37 ti_7 tw_850 hd_X7_holds ⟨Nat.le_of_ble_eq_true rfl, Nat.le_of_ble_eq_true rfl⟩ ⟨Nat.le_of_ble_eq_true rfl, Nat.le_of_ble_eq_true rfl⟩ rfl rfl (Nat.le_of_ble_eq_true rfl) dX7_alike_13 ?_
    refine j_if_eq C (tgt := 27) dX7_alike_16 (by decide) (fun c24 => ?_) (fun c24 => ?_)
    · have h := ite_t h c24
      refine j_iconst C (v := 0) dX7_alike_27 (by decide) ?_
      exact j_iret C hr hlk h ⟨Nat.le_of_ble_eq_true rfl, Nat.le_of_ble_eq_true rfl⟩ dX7_alike_28
    · have h := ite_f h c24
      refine j_aload_n C (q := 0) dX7_alike_19 rfl rfl ?_
      refine j_iload_n C (q := 1) dX7_alike_20 rfl rfl ?_
      obtain ⟨x25, t26, e27, h⟩ := bd_some h
      refine j_callV_i C (i := 225) (As := [.int x1]) (rest := []) (c_X7_nextAlike l G B dy x1 _ e27) (shp7 G B _ kA_225) (kd_lt kA_225 (by decide)) rfl tw_1060 tw_1062 tp_66 ti_7 tw_1063 hd_X7_nextAlike ⟨Nat.le_of_ble_eq_true rfl, Nat.le_of_ble_eq_true rfl⟩ ⟨Nat.le_of_ble_eq_true rfl, Nat.le_of_ble_eq_true rfl⟩ rfl rfl (Nat.le_of_ble_eq_true rfl) dX7_alike_21 ?_
      refine j_goto C (tgt := 28) dX7_alike_24 (by decide) ?_
      exact j_iret C hr hlk h ⟨Nat.le_of_ble_eq_true rfl, Nat.le_of_ble_eq_true rfl⟩ dX7_alike_28
  refine j_aload_n C (q := 0) dX7_alike_0 rfl rfl ?_
  refine j_iload_n C (q := 1) dX7_alike_1 rfl rfl ?_
  obtain ⟨x28, t29, e30, h⟩ := bd_some h
  refine j_callS_i C (i := 0) (As := [.int x1]) (rest := [.ref (B + 225)]) (c_X7_isYear l G B dy x1 _ e30) tw_925 tw_926 ti_7 tw_927 ⟨rfl, hd_X7_isYear⟩ ⟨Nat.le_of_ble_eq_true rfl, Nat.le_of_ble_eq_true rfl⟩ ⟨Nat.le_of_ble_eq_true rfl, Nat.le_of_ble_eq_true rfl⟩ rfl rfl (Nat.le_of_ble_eq_true rfl) dX7_alike_2 ?_
  refine j_if_eq C (tgt := 12) dX7_alike_5 (by decide) (fun c31 => ?_) (fun c31 => ?_)
  · have h := ite_t h c31
    refine j_iconst C (v := 1) dX7_alike_12 (by decide) ?_
    exact J13 1 _ h
  · have h := ite_f h c31
    refine j_iconst C (v := 0) dX7_alike_8 (by decide) ?_
    refine j_goto C (tgt := 13) dX7_alike_9 (by decide) ?_
    exact J13 0 _ h
set_option maxRecDepth 100000 in
set_option maxHeartbeats 4000000 in
theorem c_X7_size (l : Launch) (G : GG) (B dy : Nat) (x0 : Int32) (t0 : St) {r : Int32} {t9 : St} (h : f_X7_size x0 t0 = some (r, t9)) : Ct l G B dy yX7_size cX7_size 1 (some .int) 0 0 0 0 [.int x0] t0 (PostI G B r t9) := by
  refine Ct_of (by decide +kernel) [(0, .int x0)] (Nat.le_of_ble_eq_true rfl) rfl ?_
  intro p e s m args below meth c C hr hlk
  refine j_iload_n C (q := 0) dX7_size_0 rfl rfl ?_
  refine j_if_ge C (tgt := 9) dX7_size_1 (by decide) (fun c21 => ?_) (fun c21 => ?_)
  · have h := ite_t h c21
    refine j_iload_n C (q := 0) dX7_size_9 rfl rfl ?_
    exact j_iret C hr hlk h ⟨Nat.le_of_ble_eq_true rfl, Nat.le_of_ble_eq_true rfl⟩ dX7_size_10
  · have h := ite_f h c21
    refine j_iload_n C (q := 0) dX7_size_4 rfl rfl ?_
    refine j_ineg C dX7_size_5 ?_
    refine j_goto C (tgt := 10) dX7_size_6 (by decide) ?_
    exact j_iret C hr hlk h ⟨Nat.le_of_ble_eq_true rfl, Nat.le_of_ble_eq_true rfl⟩ dX7_size_10
set_option maxRecDepth 100000 in
set_option maxHeartbeats 4000000 in
theorem c_X7_bestSlip (l : Launch) (G : GG) (B dy : Nat) (x1 : Int32) (x2 : Int32) (t0 : St) {r : Int32} {t9 : St} (h : f_X7_bestSlip x1 x2 t0 = some (r, t9)) : Ct l G B dy yX7_bestSlip cX7_bestSlip 9 (some .int) 6 145 0 0 [.ref (B + 225), .int x1, .int x2] t0 (PostI G B r t9) := by
  refine Ct_of (by decide +kernel) [(0, .ref (B + 225)), (1, .int x1), (2, .int x2)] (Nat.le_of_ble_eq_true rfl) rfl ?_
  intro p e s m args below meth c C hr hlk
  have J21 : ∀ (n21 : Nat) (y3 : Int32) (y4 : Int32) (y5 : Int32) (y6 : Int32) (t0 : St), f_X7_bestSlip_l21 n21 x1 x2 y3 y4 y5 y6 t0 = some (r, t9) → WW G B p l e (RM 6 145 0 0) s m args below meth c 0 0 (MQ below (PostI G B r t9) args s 0 0 (Ab B)) 9 21 [(0, .ref (B + 225)), (1, .int x1), (2, .int x2), (3, .int y3), (4, .int y4), (5, .int y5), (6, .int y6)] [] t0 := by
    intro n21
    induction n21 with
    | zero => intro y3 y4 y5 y6 t0 h; exact (no_some h).elim
    | succ n21 ih21 =>
      try clear h
      have J98 : ∀ (y3 : Int32) (y5 : Int32) (y6 : Int32) (y7 : Int32) (y8 : Int32) (w0 : Int32) (t0 : St), f_X7_bestSlip_b98 (f_X7_bestSlip_l21 n21) x1 x2 y3 y5 y6 y7 y8 w0 t0 = some (r, t9) → WW G B p l e (RM 6 145 0 0) s m args below meth c 0 0 (MQ below (PostI G B r t9) args s 0 0 (Ab B)) 9 98 [(0, .ref (B + 225)), (1, .int x1), (2, .int x2), (3, .int y3), (5, .int y5), (6, .int y6), (7, .int y7), (8, .int y8)] [.int w0] t0 := by
        intro y3 y5 y6 y7 y8 w0 t0 h
        refine j_istore C [(0, .ref (B + 225)), (1, .int x1), (2, .int x2), (3, .int y3), (4, .int w0), (5, .int y5), (6, .int y6), (7, .int y7), (8, .int y8)] [1, 2, 3, 4, 0, 5, 6, 7, 8] dX7_bestSlip_98 (by decide) rfl ?_
        refine j_iload C (q := 8) dX7_bestSlip_100 rfl ?_
        refine j_if_eq C (tgt := 110) dX7_bestSlip_102 (by decide) (fun c21 => ?_) (fun c21 => ?_)
        · have h := ite_t h c21
          refine j_iload C (q := 5) dX7_bestSlip_110 rfl ?_
          refine j_istore C [(0, .ref (B + 225)), (1, .int x1), (2, .int x2), (3, .int y3), (4, .int w0), (5, .int y5), (6, .int y6), (7, .int y7), (8, .int y8)] [1, 2, 3, 4, 5, 0, 6, 7, 8] dX7_bestSlip_112 (by decide) rfl ?_
          obtain ⟨x22, ex22⟩ : ∃ y : Int32, y = (y6 + 1) := ⟨_, rfl⟩
          have h := lt_at h ex22
          refine j_iinc C (q := 6) [(0, .ref (B + 225)), (1, .int x1), (2, .int x2), (3, .int y3), (4, .int w0), (5, .int y5), (6, .int x22), (7, .int y7), (8, .int y8)] [1, 2, 3, 4, 5, 6, 0, 7, 8] dX7_bestSlip_114 rfl (by rw [ex22]; rfl) (by decide) rfl ?_
          refine j_goto C (tgt := 21) dX7_bestSlip_117 (by decide) ?_
          refine j_sub [0, 1, 2, 3, 4, 5, 6] rfl ?_
          exact ih21 y3 w0 y5 x22 _ h
        · have h := ite_f h c21
          refine j_iload C (q := 7) dX7_bestSlip_105 rfl ?_
          refine j_goto C (tgt := 112) dX7_bestSlip_107 (by decide) ?_
          refine j_istore C [(0, .ref (B + 225)), (1, .int x1), (2, .int x2), (3, .int y3), (4, .int w0), (5, .int y7), (6, .int y6), (7, .int y7), (8, .int y8)] [1, 2, 3, 4, 5, 0, 6, 7, 8] dX7_bestSlip_112 (by decide) rfl ?_
          obtain ⟨x23, ex23⟩ : ∃ y : Int32, y = (y6 + 1) := ⟨_, rfl⟩
          have h := lt_at h ex23
          refine j_iinc C (q := 6) [(0, .ref (B + 225)), (1, .int x1), (2, .int x2), (3, .int y3), (4, .int w0), (5, .int y7), (6, .int x23), (7, .int y7), (8, .int y8)] [1, 2, 3, 4, 5, 6, 0, 7, 8] dX7_bestSlip_114 rfl (by rw [ex23]; rfl) (by decide) rfl ?_
          refine j_goto C (tgt := 21) dX7_bestSlip_117 (by decide) ?_
          refine j_sub [0, 1, 2, 3, 4, 5, 6] rfl ?_
          exact ih21 y3 w0 y7 x23 _ h
      have J84 : ∀ (y3 : Int32) (y4 : Int32) (y5 : Int32) (y6 : Int32) (y7 : Int32) (w0 : Int32) (t0 : St), f_X7_bestSlip_b84 (f_X7_bestSlip_l21 n21) x1 x2 y3 y4 y5 y6 y7 w0 t0 = some (r, t9) → WW G B p l e (RM 6 145 0 0) s m args below meth c 0 0 (MQ below (PostI G B r t9) args s 0 0 (Ab B)) 9 84 [(0, .ref (B + 225)), (1, .int x1), (2, .int x2), (3, .int y3), (4, .int y4), (5, .int y5), (6, .int y6), (7, .int y7)] [.int w0] t0 := by
        intro y3 y4 y5 y6 y7 w0 t0 h
        refine j_istore C [(0, .ref (B + 225)), (1, .int x1), (2, .int x2), (3, .int y3), (4, .int y4), (5, .int y5), (6, .int y6), (7, .int y7), (8, .int w0)] [1, 2, 3, 4, 5, 6, 7, 8, 0] dX7_bestSlip_84 (by decide) rfl ?_
        refine j_iload C (q := 8) dX7_bestSlip_86 rfl ?_
        refine j_if_eq C (tgt := 96) dX7_bestSlip_88 (by decide) (fun c24 => ?_) (fun c24 => ?_)
        · have h := ite_t h c24
          refine j_iload C (q := 4) dX7_bestSlip_96 rfl ?_
          refine j_sub [0, 1, 2, 3, 5, 6, 7, 8] rfl ?_
          exact J98 y3 y5 y6 y7 w0 y4 _ h
        · have h := ite_f h c24
          refine j_iload C (q := 6) dX7_bestSlip_91 rfl ?_
          refine j_goto C (tgt := 98) dX7_bestSlip_93 (by decide) ?_
          refine j_sub [0, 1, 2, 3, 5, 6, 7, 8] rfl ?_
          exact J98 y3 y5 y6 y7 w0 y6 _ h
      have J83 : ∀ (y3 : Int32) (y4 : Int32) (y5 : Int32) (y6 : Int32) (y7 : Int32) (t0 : St), f_X7_bestSlip_b83 (f_X7_bestSlip_l21 n21) x1 x2 y3 y4 y5 y6 y7 t0 = some (r, t9) → WW G B p l e (RM 6 145 0 0) s m args below meth c 0 0 (MQ below (PostI G B r t9) args s 0 0 (Ab B)) 9 83 [(0, .ref (B + 225)), (1, .int x1), (2, .int x2), (3, .int y3), (4, .int y4), (5, .int y5), (6, .int y6), (7, .int y7)] [] t0 := by
        intro y3 y4 y5 y6 y7 t0 h
        refine j_iconst C (v := 0) dX7_bestSlip_83 (by decide) ?_
        exact J84 y3 y4 y5 y6 y7 0 _ h
      intro y3 y4 y5 y6 t0 h
      have h : f_X7_bestSlip_b21 (f_X7_bestSlip_l21 n21) x1 x2 y3 y4 y5 y6 t0 = some (r, t9) := h
      refine j_iload C (q := 6) dX7_bestSlip_21 rfl ?_
      refine j_iconst C (v := 5) dX7_bestSlip_23 (by decide) ?_
      refine j_icmp_gt C (tgt := 120) dX7_bestSlip_24 (by decide) (fun c25 => ?_) (fun c25 => ?_)
      · have h := ite_t h c25
        refine j_aload_n C (q := 0) dX7_bestSlip_120 rfl rfl ?_
        refine fg_X7_7 C (i := 225) kA_225 dX7_bestSlip_121 ?_
        refine j_bipush C (v := 41) dX7_bestSlip_124 (by decide) ?_
        refine j_iload_n C (q := 1) dX7_bestSlip_126 rfl rfl ?_
        refine j_iadd C dX7_bestSlip_127 ?_
        refine j_iload_n C (q := 3) dX7_bestSlip_128 rfl rfl ?_
        obtain ⟨g26, h⟩ := gd_some h
        refine j_iast C (i := 226) kA_226 (inA g26 aA_226) dX7_bestSlip_129 ?_
        refine j_tops (fun t27 et27 => ?_)
        have h := lt_at h et27
        refine j_iload C (q := 4) dX7_bestSlip_130 rfl ?_
        refine j_iconst C (v := 5) dX7_bestSlip_132 (by decide) ?_
        refine j_iadd C dX7_bestSlip_133 ?_
        exact j_iret C hr hlk h ⟨Nat.le_of_ble_eq_true rfl, Nat.le_of_ble_eq_true rfl⟩ dX7_bestSlip_134
      · have h := ite_f h c25
        refine j_aload_n C (q := 0) dX7_bestSlip_27 rfl rfl ?_
        refine fg_X7_7 C (i := 225) kA_225 dX7_bestSlip_28 ?_
        refine j_bipush C (v := 41) dX7_bestSlip_31 (by decide) ?_
        refine j_iload_n C (q := 1) dX7_bestSlip_33 rfl rfl ?_
        refine j_iadd C dX7_bestSlip_34 ?_
        refine j_iload C (q := 6) dX7_bestSlip_35 rfl ?_
        obtain ⟨g28, h⟩ := gd_some h
        refine j_iast C (i := 226) kA_226 (inA g28 aA_226) dX7_bestSlip_37 ?_
        refine j_tops (fun t29 et29 => ?_)
        have h := lt_at h et29
        refine j_aload_n C (q := 0) dX7_bestSlip_38 rfl rfl ?_
        refine j_iload_n C (q := 2) dX7_bestSlip_39 rfl rfl ?_
        obtain ⟨x30, t31, e32, h⟩ := bd_some h
        refine j_callV_i C (i := 225) (As := [.int x2]) (rest := []) (c_X7_quarrelsOf l G B dy x2 _ e32) (shp7 G B _ kA_225) (kd_lt kA_225 (by decide)) rfl tw_1016 tw_1018 tp_59 ti_7 tw_1019 hd_X7_quarrelsOf ⟨Nat.le_of_ble_eq_true rfl, Nat.le_of_ble_eq_true rfl⟩ ⟨Nat.le_of_ble_eq_true rfl, Nat.le_of_ble_eq_true rfl⟩ rfl rfl (Nat.le_of_ble_eq_true rfl) dX7_bestSlip_40 ?_
        refine j_istore C [(0, .ref (B + 225)), (1, .int x1), (2, .int x2), (3, .int y3), (4, .int y4), (5, .int y5), (6, .int y6), (7, .int x30)] [1, 2, 3, 4, 5, 6, 7, 0] dX7_bestSlip_43 (by decide) rfl ?_
        refine j_iload C (q := 4) dX7_bestSlip_45 rfl ?_
        refine j_bipush C (v := (-6)) dX7_bestSlip_47 (by decide) ?_
        refine j_icmp_eq C (tgt := 79) dX7_bestSlip_49 (by decide) (fun c33 => ?_) (fun c33 => ?_)
        · have h := ite_t h c33
          refine j_iconst C (v := 1) dX7_bestSlip_79 (by decide) ?_
          refine j_goto C (tgt := 84) dX7_bestSlip_80 (by decide) ?_
          exact J84 y3 y4 y5 y6 x30 1 _ h
        · have h := ite_f h c33
          refine j_iload C (q := 7) dX7_bestSlip_52 rfl ?_
          refine j_iload C (q := 5) dX7_bestSlip_54 rfl ?_
          refine j_icmp_lt C (tgt := 79) dX7_bestSlip_56 (by decide) (fun c34 => ?_) (fun c34 => ?_)
          · have h := ite_t h c34
            refine j_iconst C (v := 1) dX7_bestSlip_79 (by decide) ?_
            refine j_goto C (tgt := 84) dX7_bestSlip_80 (by decide) ?_
            exact J84 y3 y4 y5 y6 x30 1 _ h
          · have h := ite_f h c34
            refine j_iload C (q := 7) dX7_bestSlip_59 rfl ?_
            refine j_iload C (q := 5) dX7_bestSlip_61 rfl ?_
            refine j_icmp_ne C (tgt := 83) dX7_bestSlip_63 (by decide) (fun c35 => ?_) (fun c35 => ?_)
            · have h := ite_t h c35
              refine j_iload C (q := 6) dX7_bestSlip_66 rfl ?_
              obtain ⟨x36, t37, e38, h⟩ := bd_some h
              refine j_callS_i C (i := 0) (As := [.int y6]) (rest := []) (c_X7_size l G B dy y6 _ e38) tw_1072 tw_1073 ti_7 tw_1074 ⟨rfl, hd_X7_size⟩ ⟨Nat.le_of_ble_eq_true rfl, Nat.le_of_ble_eq_true rfl⟩ ⟨Nat.le_of_ble_eq_true rfl, Nat.le_of_ble_eq_true rfl⟩ rfl rfl (Nat.le_of_ble_eq_true rfl) dX7_bestSlip_68 ?_
              refine j_iload C (q := 4) dX7_bestSlip_71 rfl ?_
              obtain ⟨x39, t40, e41, h⟩ := bd_some h
              refine j_callS_i C (i := 0) (As := [.int y4]) (rest := [.int x36]) (c_X7_size l G B dy y4 _ e41) tw_1072 tw_1073 ti_7 tw_1074 ⟨rfl, hd_X7_size⟩ ⟨Nat.le_of_ble_eq_true rfl, Nat.le_of_ble_eq_true rfl⟩ ⟨Nat.le_of_ble_eq_true rfl, Nat.le_of_ble_eq_true rfl⟩ rfl rfl (Nat.le_of_ble_eq_true rfl) dX7_bestSlip_73 ?_
              refine j_icmp_ge C (tgt := 83) dX7_bestSlip_76 (by decide) (fun c42 => ?_) (fun c42 => ?_)
              · have h := ite_t h c42
                exact J83 y3 y4 y5 y6 x30 _ h
              · have h := ite_f h c42
                refine j_iconst C (v := 1) dX7_bestSlip_79 (by decide) ?_
                refine j_goto C (tgt := 84) dX7_bestSlip_80 (by decide) ?_
                exact J84 y3 y4 y5 y6 x30 1 _ h
            · have h := ite_f h c35
              exact J83 y3 y4 y5 y6 x30 _ h
  refine j_aload_n C (q := 0) dX7_bestSlip_0 rfl rfl ?_
  refine fg_X7_7 C (i := 225) kA_225 dX7_bestSlip_1 ?_
  refine j_bipush C (v := 41) dX7_bestSlip_4 (by decide) ?_
  refine j_iload_n C (q := 1) dX7_bestSlip_6 rfl rfl ?_
  refine j_iadd C dX7_bestSlip_7 ?_
  obtain ⟨g43, h⟩ := gd_some h
  refine j_iald C (i := 226) kA_226 (inA g43 aA_226) dX7_bestSlip_8 ?_
  refine j_topi (fun x44 ex44 => ?_)
  have h := lt_at h ex44
  refine j_istore_n C [(0, .ref (B + 225)), (1, .int x1), (2, .int x2), (3, .int x44)] [1, 2, 3, 0] dX7_bestSlip_9 rfl (by decide) rfl ?_
  refine j_bipush C (v := (-6)) dX7_bestSlip_10 (by decide) ?_
  refine j_istore C [(0, .ref (B + 225)), (1, .int x1), (2, .int x2), (3, .int x44), (4, .int (-6))] [1, 2, 3, 4, 0] dX7_bestSlip_12 (by decide) rfl ?_
  refine j_iconst C (v := 0) dX7_bestSlip_14 (by decide) ?_
  refine j_istore C [(0, .ref (B + 225)), (1, .int x1), (2, .int x2), (3, .int x44), (4, .int (-6)), (5, .int 0)] [1, 2, 3, 4, 5, 0] dX7_bestSlip_15 (by decide) rfl ?_
  refine j_bipush C (v := (-5)) dX7_bestSlip_17 (by decide) ?_
  refine j_istore C [(0, .ref (B + 225)), (1, .int x1), (2, .int x2), (3, .int x44), (4, .int (-6)), (5, .int 0), (6, .int (-5))] [1, 2, 3, 4, 5, 6, 0] dX7_bestSlip_19 (by decide) rfl ?_
  exact J21 FU x44 (-6) 0 (-5) _ h
set_option maxRecDepth 100000 in
set_option maxHeartbeats 4000000 in
theorem c_X7_peace (l : Launch) (G : GG) (B dy : Nat) (x1 : Int32) (x2 : Int32) (t0 : St) {r : Int32} {t9 : St} (h : f_X7_peace x1 x2 t0 = some (r, t9)) : Ct l G B dy yX7_peace cX7_peace 3 (some .int) 7 173 0 0 [.ref (B + 225), .int x1, .int x2] t0 (PostI G B r t9) := by
  refine Ct_of (by decide +kernel) [(0, .ref (B + 225)), (1, .int x1), (2, .int x2)] (Nat.le_of_ble_eq_true rfl) rfl ?_
  intro p e s m args below meth c C hr hlk
  have J20 : ∀ (w0 : Int32) (t0 : St), f_X7_peace_b20 x1 x2 w0 t0 = some (r, t9) → WW G B p l e (RM 7 173 0 0) s m args below meth c 0 0 (MQ below (PostI G B r t9) args s 0 0 (Ab B)) 3 20 [(0, .ref (B + 225)), (1, .int x1), (2, .int x2)] [.int w0, .ref (B + 225)] t0 := by
    intro w0 t0 h
    obtain ⟨x21, t22, e23, h⟩ := bd_some h
    refine j_callV_i C (i := 225) (As := [.int w0]) (rest := []) (c_X7_holds l G B dy w0 _ e23) (shp7 G B _ kA_225) (kd_lt kA_225 (by decide)) rfl tw_847 tw_849 tp_37 ti_7 tw_850 hd_X7_holds ⟨Nat.le_of_ble_eq_true rfl, Nat.le_of_ble_eq_true rfl⟩ ⟨Nat.le_of_ble_eq_true rfl, Nat.le_of_ble_eq_true rfl⟩ rfl rfl (Nat.le_of_ble_eq_true rfl) dX7_peace_20 ?_
    refine j_if_eq C (tgt := 35) dX7_peace_23 (by decide) (fun c24 => ?_) (fun c24 => ?_)
    · have h := ite_t h c24
      refine j_iconst C (v := 0) dX7_peace_35 (by decide) ?_
      exact j_iret C hr hlk h ⟨Nat.le_of_ble_eq_true rfl, Nat.le_of_ble_eq_true rfl⟩ dX7_peace_36
    · have h := ite_f h c24
      refine j_aload_n C (q := 0) dX7_peace_26 rfl rfl ?_
      refine j_iload_n C (q := 1) dX7_peace_27 rfl rfl ?_
      refine j_iload_n C (q := 2) dX7_peace_28 rfl rfl ?_
      obtain ⟨x25, t26, e27, h⟩ := bd_some h
      refine j_callV_i C (i := 225) (As := [.int x1, .int x2]) (rest := []) (c_X7_bestSlip l G B dy x1 x2 _ e27) (shp7 G B _ kA_225) (kd_lt kA_225 (by decide)) rfl tw_1068 tw_1070 tp_67 ti_7 tw_1071 hd_X7_bestSlip ⟨Nat.le_of_ble_eq_true rfl, Nat.le_of_ble_eq_true rfl⟩ ⟨Nat.le_of_ble_eq_true rfl, Nat.le_of_ble_eq_true rfl⟩ rfl rfl (Nat.le_of_ble_eq_true rfl) dX7_peace_29 ?_
      refine j_goto C (tgt := 36) dX7_peace_32 (by decide) ?_
      exact j_iret C hr hlk h ⟨Nat.le_of_ble_eq_true rfl, Nat.le_of_ble_eq_true rfl⟩ dX7_peace_36
  have J19 : ∀ (t0 : St), f_X7_peace_b19 x1 x2 t0 = some (r, t9) → WW G B p l e (RM 7 173 0 0) s m args below meth c 0 0 (MQ below (PostI G B r t9) args s 0 0 (Ab B)) 3 19 [(0, .ref (B + 225)), (1, .int x1), (2, .int x2)] [.ref (B + 225)] t0 := by
    intro t0 h
    refine j_iconst C (v := 1) dX7_peace_19 (by decide) ?_
    exact J20 1 _ h
  refine j_aload_n C (q := 0) dX7_peace_0 rfl rfl ?_
  refine j_iload_n C (q := 1) dX7_peace_1 rfl rfl ?_
  obtain ⟨x28, t29, e30, h⟩ := bd_some h
  refine j_callS_i C (i := 0) (As := [.int x1]) (rest := [.ref (B + 225)]) (c_X7_isCarver l G B dy x1 _ e30) tw_914 tw_915 ti_7 tw_916 ⟨rfl, hd_X7_isCarver⟩ ⟨Nat.le_of_ble_eq_true rfl, Nat.le_of_ble_eq_true rfl⟩ ⟨Nat.le_of_ble_eq_true rfl, Nat.le_of_ble_eq_true rfl⟩ rfl rfl (Nat.le_of_ble_eq_true rfl) dX7_peace_2 ?_
  refine j_if_eq C (tgt := 19) dX7_peace_5 (by decide) (fun c31 => ?_) (fun c31 => ?_)
  · have h := ite_t h c31
    exact J19 _ h
  · have h := ite_f h c31
    refine j_iload_n C (q := 2) dX7_peace_8 rfl rfl ?_
    obtain ⟨x32, t33, e34, h⟩ := bd_some h
    refine j_callS_i C (i := 0) (As := [.int x2]) (rest := [.ref (B + 225)]) (c_X7_isYear l G B dy x2 _ e34) tw_925 tw_926 ti_7 tw_927 ⟨rfl, hd_X7_isYear⟩ ⟨Nat.le_of_ble_eq_true rfl, Nat.le_of_ble_eq_true rfl⟩ ⟨Nat.le_of_ble_eq_true rfl, Nat.le_of_ble_eq_true rfl⟩ rfl rfl (Nat.le_of_ble_eq_true rfl) dX7_peace_9 ?_
    refine j_if_eq C (tgt := 19) dX7_peace_12 (by decide) (fun c35 => ?_) (fun c35 => ?_)
    · have h := ite_t h c35
      exact J19 _ h
    · have h := ite_f h c35
      refine j_iconst C (v := 0) dX7_peace_15 (by decide) ?_
      refine j_goto C (tgt := 20) dX7_peace_16 (by decide) ?_
      exact J20 0 _ h
set_option maxRecDepth 100000 in
set_option maxHeartbeats 4000000 in
theorem c_X7_movedBy (l : Launch) (G : GG) (B dy : Nat) (x1 : Int32) (x2 : Int32) (t0 : St) {r : Int32} {t9 : St} (h : f_X7_movedBy x1 x2 t0 = some (r, t9)) : Ct l G B dy yX7_movedBy cX7_movedBy 5 (some .int) 4 101 0 0 [.ref (B + 225), .int x1, .int x2] t0 (PostI G B r t9) := by
  refine Ct_of (by decide +kernel) [(0, .ref (B + 225)), (1, .int x1), (2, .int x2)] (Nat.le_of_ble_eq_true rfl) rfl ?_
  intro p e s m args below meth c C hr hlk
  have J19 : ∀ (n19 : Nat) (y3 : Int32) (y4 : Int32) (t0 : St), f_X7_movedBy_l19 n19 y3 y4 t0 = some (r, t9) → WW G B p l e (RM 4 101 0 0) s m args below meth c 0 0 (MQ below (PostI G B r t9) args s 0 0 (Ab B)) 5 19 [(0, .ref (B + 225)), (3, .int y3), (4, .int y4)] [] t0 := by
    intro n19
    induction n19 with
    | zero => intro y3 y4 t0 h; exact (no_some h).elim
    | succ n19 ih19 =>
      try clear h
      intro y3 y4 t0 h
      have h : f_X7_movedBy_b19 (f_X7_movedBy_l19 n19) y3 y4 t0 = some (r, t9) := h
      refine j_iload C (q := 2) dX7_movedBy_19 rfl ?_
      refine j_aload_n C (q := 0) dX7_movedBy_21 rfl rfl ?_
      refine fg_X7_7 C (i := 225) kA_225 dX7_movedBy_22 ?_
      refine j_iconst C (v := 0) dX7_movedBy_25 (by decide) ?_
      obtain ⟨g21, h⟩ := gd_some h
      refine j_iald C (i := 226) kA_226 (inA g21 aA_226) dX7_movedBy_26 ?_
      refine j_icmp_ge C (tgt := 72) dX7_movedBy_27 (by decide) (fun c22 => ?_) (fun c22 => ?_)
      · have h := ite_t h c22
        refine j_iload_n C (q := 1) dX7_movedBy_72 rfl rfl ?_
        exact j_iret C hr hlk h ⟨Nat.le_of_ble_eq_true rfl, Nat.le_of_ble_eq_true rfl⟩ dX7_movedBy_73
      · have h := ite_f h c22
        refine j_iload_n C (q := 1) dX7_movedBy_30 rfl rfl ?_
        refine j_aload_n C (q := 0) dX7_movedBy_31 rfl rfl ?_
        refine fg_X7_22 C (i := 225) kA_225 dX7_movedBy_32 ?_
        refine j_iload C (q := 2) dX7_movedBy_35 rfl ?_
        obtain ⟨g23, h⟩ := gd_some h
        refine j_iald C (i := 230) kA_230 (inA g23 aA_230) dX7_movedBy_37 ?_
        refine j_iconst C (v := (-1)) dX7_movedBy_38 (by decide) ?_
        refine j_icmp_eq C (tgt := 63) dX7_movedBy_39 (by decide) (fun c24 => ?_) (fun c24 => ?_)
        · have h := ite_t h c24
          refine j_iconst C (v := 0) dX7_movedBy_63 (by decide) ?_
          refine j_iadd C dX7_movedBy_64 ?_
          refine j_topi (fun x25 ex25 => ?_)
          have h := lt_at h ex25
          refine j_istore_n C [(0, .ref (B + 225)), (3, .int x25), (4, .int y4)] [1, 0, 2] dX7_movedBy_65 rfl (by decide) rfl ?_
          obtain ⟨x26, ex26⟩ : ∃ y : Int32, y = (y4 + 1) := ⟨_, rfl⟩
          have h := lt_at h ex26
          refine j_iinc C (q := 2) [(0, .ref (B + 225)), (3, .int x25), (4, .int x26)] [1, 2, 0] dX7_movedBy_66 rfl (by rw [ex26]; rfl) (by decide) rfl ?_
          refine j_goto C (tgt := 19) dX7_movedBy_69 (by decide) ?_
          exact ih19 x25 x26 _ h
        · have h := ite_f h c24
          refine j_aload_n C (q := 0) dX7_movedBy_42 rfl rfl ?_
          refine fg_X7_22 C (i := 225) kA_225 dX7_movedBy_43 ?_
          refine j_iload C (q := 2) dX7_movedBy_46 rfl ?_
          obtain ⟨g27, h⟩ := gd_some h
          refine j_iald C (i := 230) kA_230 (inA g27 aA_230) dX7_movedBy_48 ?_
          refine j_aload_n C (q := 0) dX7_movedBy_49 rfl rfl ?_
          refine fg_X7_19 C (i := 225) kA_225 dX7_movedBy_50 ?_
          refine j_iload C (q := 2) dX7_movedBy_53 rfl ?_
          obtain ⟨g28, h⟩ := gd_some h
          refine j_iald C (i := 229) kA_229 (inA g28 aA_229) dX7_movedBy_55 ?_
          refine j_icmp_eq C (tgt := 63) dX7_movedBy_56 (by decide) (fun c29 => ?_) (fun c29 => ?_)
          · have h := ite_t h c29
            refine j_iconst C (v := 0) dX7_movedBy_63 (by decide) ?_
            refine j_iadd C dX7_movedBy_64 ?_
            refine j_topi (fun x30 ex30 => ?_)
            have h := lt_at h ex30
            refine j_istore_n C [(0, .ref (B + 225)), (3, .int x30), (4, .int y4)] [1, 0, 2] dX7_movedBy_65 rfl (by decide) rfl ?_
            obtain ⟨x31, ex31⟩ : ∃ y : Int32, y = (y4 + 1) := ⟨_, rfl⟩
            have h := lt_at h ex31
            refine j_iinc C (q := 2) [(0, .ref (B + 225)), (3, .int x30), (4, .int x31)] [1, 2, 0] dX7_movedBy_66 rfl (by rw [ex31]; rfl) (by decide) rfl ?_
            refine j_goto C (tgt := 19) dX7_movedBy_69 (by decide) ?_
            exact ih19 x30 x31 _ h
          · have h := ite_f h c29
            refine j_iconst C (v := 1) dX7_movedBy_59 (by decide) ?_
            refine j_goto C (tgt := 64) dX7_movedBy_60 (by decide) ?_
            refine j_iadd C dX7_movedBy_64 ?_
            refine j_topi (fun x32 ex32 => ?_)
            have h := lt_at h ex32
            refine j_istore_n C [(0, .ref (B + 225)), (3, .int x32), (4, .int y4)] [1, 0, 2] dX7_movedBy_65 rfl (by decide) rfl ?_
            obtain ⟨x33, ex33⟩ : ∃ y : Int32, y = (y4 + 1) := ⟨_, rfl⟩
            have h := lt_at h ex33
            refine j_iinc C (q := 2) [(0, .ref (B + 225)), (3, .int x32), (4, .int x33)] [1, 2, 0] dX7_movedBy_66 rfl (by rw [ex33]; rfl) (by decide) rfl ?_
            refine j_goto C (tgt := 19) dX7_movedBy_69 (by decide) ?_
            exact ih19 x32 x33 _ h
  refine j_aload_n C (q := 0) dX7_movedBy_0 rfl rfl ?_
  refine j_iload_n C (q := 1) dX7_movedBy_1 rfl rfl ?_
  refine j_aload_n C (q := 0) dX7_movedBy_2 rfl rfl ?_
  refine fg_X7_7 C (i := 225) kA_225 dX7_movedBy_3 ?_
  refine j_bipush C (v := 41) dX7_movedBy_6 (by decide) ?_
  refine j_iload_n C (q := 2) dX7_movedBy_8 rfl rfl ?_
  refine j_iadd C dX7_movedBy_9 ?_
  obtain ⟨g34, h⟩ := gd_some h
  refine j_iald C (i := 226) kA_226 (inA g34 aA_226) dX7_movedBy_10 ?_
  obtain ⟨t36, e37, h⟩ := bv_some h
  refine j_callV_v C (i := 225) (As := [.int x1, .int (t0.1 226 (tc (41 + x2)))]) (rest := []) (c_X7_lay l G B dy x1 (t0.1 226 (tc (41 + x2))) _ e37) (shp7 G B _ kA_225) (kd_lt kA_225 (by decide)) rfl tw_928 tw_930 tp_47 ti_7 tw_931 hd_X7_lay ⟨Nat.le_of_ble_eq_true rfl, Nat.le_of_ble_eq_true rfl⟩ ⟨Nat.le_of_ble_eq_true rfl, Nat.le_of_ble_eq_true rfl⟩ rfl rfl (Nat.le_of_ble_eq_true rfl) dX7_movedBy_11 ?_
  refine j_iconst C (v := 0) dX7_movedBy_14 (by decide) ?_
  refine j_istore_n C [(0, .ref (B + 225)), (1, .int x1), (2, .int x2), (3, .int 0)] [1, 2, 3, 0] dX7_movedBy_15 rfl (by decide) rfl ?_
  refine j_iconst C (v := 0) dX7_movedBy_16 (by decide) ?_
  refine j_istore C [(0, .ref (B + 225)), (1, .int x1), (2, .int x2), (3, .int 0), (4, .int 0)] [1, 2, 3, 4, 0] dX7_movedBy_17 (by decide) rfl ?_
  refine j_sub [0, 3, 4] rfl ?_
  exact J19 FU 0 0 _ h
set_option maxRecDepth 100000 in
set_option maxHeartbeats 4000000 in
theorem c_X7_moved (l : Launch) (G : GG) (B dy : Nat) (x1 : Int32) (x2 : Int32) (t0 : St) {r : Int32} {t9 : St} (h : f_X7_moved x1 x2 t0 = some (r, t9)) : Ct l G B dy yX7_moved cX7_moved 3 (some .int) 5 125 0 0 [.ref (B + 225), .int x1, .int x2] t0 (PostI G B r t9) := by
  refine Ct_of (by decide +kernel) [(0, .ref (B + 225)), (1, .int x1), (2, .int x2)] (Nat.le_of_ble_eq_true rfl) rfl ?_
  intro p e s m args below meth c C hr hlk
  have J20 : ∀ (w0 : Int32) (t0 : St), f_X7_moved_b20 x1 x2 w0 t0 = some (r, t9) → WW G B p l e (RM 5 125 0 0) s m args below meth c 0 0 (MQ below (PostI G B r t9) args s 0 0 (Ab B)) 3 20 [(0, .ref (B + 225)), (1, .int x1), (2, .int x2)] [.int w0, .ref (B + 225)] t0 := by
    intro w0 t0 h
    obtain ⟨x21, t22, e23, h⟩ := bd_some h
    refine j_callV_i C (i := 225) (As := [.int w0]) (rest := []) (c_X7_holds l G B dy w0 _ e23) (shp7 G B _ kA_225) (kd_lt kA_225 (by decide)) rfl tw_847 tw_849 tp_37 ti_7 tw_850 hd_X7_holds ⟨Nat.le_of_ble_eq_true rfl, Nat.le_of_ble_eq_true rfl⟩ ⟨Nat.le_of_ble_eq_true rfl, Nat.le_of_ble_eq_true rfl⟩ rfl rfl (Nat.le_of_ble_eq_true rfl) dX7_moved_20 ?_
    refine j_if_eq C (tgt := 35) dX7_moved_23 (by decide) (fun c24 => ?_) (fun c24 => ?_)
    · have h := ite_t h c24
      refine j_iconst C (v := 0) dX7_moved_35 (by decide) ?_
      exact j_iret C hr hlk h ⟨Nat.le_of_ble_eq_true rfl, Nat.le_of_ble_eq_true rfl⟩ dX7_moved_36
    · have h := ite_f h c24
      refine j_aload_n C (q := 0) dX7_moved_26 rfl rfl ?_
      refine j_iload_n C (q := 1) dX7_moved_27 rfl rfl ?_
      refine j_iload_n C (q := 2) dX7_moved_28 rfl rfl ?_
      obtain ⟨x25, t26, e27, h⟩ := bd_some h
      refine j_callV_i C (i := 225) (As := [.int x1, .int x2]) (rest := []) (c_X7_movedBy l G B dy x1 x2 _ e27) (shp7 G B _ kA_225) (kd_lt kA_225 (by decide)) rfl tw_1079 tw_1081 tp_68 ti_7 tw_1082 hd_X7_movedBy ⟨Nat.le_of_ble_eq_true rfl, Nat.le_of_ble_eq_true rfl⟩ ⟨Nat.le_of_ble_eq_true rfl, Nat.le_of_ble_eq_true rfl⟩ rfl rfl (Nat.le_of_ble_eq_true rfl) dX7_moved_29 ?_
      refine j_goto C (tgt := 36) dX7_moved_32 (by decide) ?_
      exact j_iret C hr hlk h ⟨Nat.le_of_ble_eq_true rfl, Nat.le_of_ble_eq_true rfl⟩ dX7_moved_36
  have J19 : ∀ (t0 : St), f_X7_moved_b19 x1 x2 t0 = some (r, t9) → WW G B p l e (RM 5 125 0 0) s m args below meth c 0 0 (MQ below (PostI G B r t9) args s 0 0 (Ab B)) 3 19 [(0, .ref (B + 225)), (1, .int x1), (2, .int x2)] [.ref (B + 225)] t0 := by
    intro t0 h
    refine j_iconst C (v := 1) dX7_moved_19 (by decide) ?_
    exact J20 1 _ h
  refine j_aload_n C (q := 0) dX7_moved_0 rfl rfl ?_
  refine j_iload_n C (q := 1) dX7_moved_1 rfl rfl ?_
  obtain ⟨x28, t29, e30, h⟩ := bd_some h
  refine j_callS_i C (i := 0) (As := [.int x1]) (rest := [.ref (B + 225)]) (c_X7_isYear l G B dy x1 _ e30) tw_925 tw_926 ti_7 tw_927 ⟨rfl, hd_X7_isYear⟩ ⟨Nat.le_of_ble_eq_true rfl, Nat.le_of_ble_eq_true rfl⟩ ⟨Nat.le_of_ble_eq_true rfl, Nat.le_of_ble_eq_true rfl⟩ rfl rfl (Nat.le_of_ble_eq_true rfl) dX7_moved_2 ?_
  refine j_if_eq C (tgt := 19) dX7_moved_5 (by decide) (fun c31 => ?_) (fun c31 => ?_)
  · have h := ite_t h c31
    exact J19 _ h
  · have h := ite_f h c31
    refine j_iload_n C (q := 2) dX7_moved_8 rfl rfl ?_
    obtain ⟨x32, t33, e34, h⟩ := bd_some h
    refine j_callS_i C (i := 0) (As := [.int x2]) (rest := [.ref (B + 225)]) (c_X7_isCarver l G B dy x2 _ e34) tw_914 tw_915 ti_7 tw_916 ⟨rfl, hd_X7_isCarver⟩ ⟨Nat.le_of_ble_eq_true rfl, Nat.le_of_ble_eq_true rfl⟩ ⟨Nat.le_of_ble_eq_true rfl, Nat.le_of_ble_eq_true rfl⟩ rfl rfl (Nat.le_of_ble_eq_true rfl) dX7_moved_9 ?_
    refine j_if_eq C (tgt := 19) dX7_moved_12 (by decide) (fun c35 => ?_) (fun c35 => ?_)
    · have h := ite_t h c35
      exact J19 _ h
    · have h := ite_f h c35
      refine j_iconst C (v := 0) dX7_moved_15 (by decide) ?_
      refine j_goto C (tgt := 20) dX7_moved_16 (by decide) ?_
      exact J20 0 _ h
set_option maxRecDepth 100000 in
set_option maxHeartbeats 4000000 in
theorem c_X7_fresh (l : Launch) (G : GG) (B dy : Nat) (t0 : St) {r : UInt64} {t9 : St} (h : f_X7_fresh t0 = some (r, t9)) : Ct l G B dy yX7_fresh cX7_fresh 3 (some .double) 6 146 0 0 [.ref (B + 225)] t0 (PostD G B r t9) := by
  refine Ct_of (by decide +kernel) [(0, .ref (B + 225))] (Nat.le_of_ble_eq_true rfl) rfl ?_
  intro p e s m args below meth c C hr hlk
  have J4 : ∀ (n4 : Nat) (y1 : Int32) (y2 : Int32) (t0 : St), f_X7_fresh_l4 n4 y1 y2 t0 = some (r, t9) → WW G B p l e (RM 6 146 0 0) s m args below meth c 0 0 (MQ below (PostD G B r t9) args s 0 0 (Ab B)) 3 4 [(0, .ref (B + 225)), (1, .int y1), (2, .int y2)] [] t0 := by
    intro n4
    induction n4 with
    | zero => intro y1 y2 t0 h; exact (no_some h).elim
    | succ n4 ih4 =>
      try clear h
      intro y1 y2 t0 h
      have h : f_X7_fresh_b4 (f_X7_fresh_l4 n4) y1 y2 t0 = some (r, t9) := h
      refine j_iload_n C (q := 2) dX7_fresh_4 rfl rfl ?_
      refine j_aload_n C (q := 0) dX7_fresh_5 rfl rfl ?_
      refine fg_X7_7 C (i := 225) kA_225 dX7_fresh_6 ?_
      refine j_bipush C (v := 45) dX7_fresh_9 (by decide) ?_
      obtain ⟨g21, h⟩ := gd_some h
      refine j_iald C (i := 226) kA_226 (inA g21 aA_226) dX7_fresh_11 ?_
      refine j_icmp_ge C (tgt := 34) dX7_fresh_12 (by decide) (fun c22 => ?_) (fun c22 => ?_)
      · have h := ite_t h c22
        refine j_iload_n C (q := 1) dX7_fresh_34 rfl rfl ?_
        refine j_if_ne C (tgt := 42) dX7_fresh_35 (by decide) (fun c23 => ?_) (fun c23 => ?_)
        · have h := ite_t h c23
          refine j_dconst1 C dX7_fresh_38 ?_
          refine j_goto C (tgt := 52) dX7_fresh_39 (by decide) ?_
          exact j_dret C hr hlk h ⟨Nat.le_of_ble_eq_true rfl, Nat.le_of_ble_eq_true rfl⟩ dX7_fresh_52
        · have h := ite_f h c23
          refine j_iload_n C (q := 1) dX7_fresh_42 rfl rfl ?_
          refine j_aload_n C (q := 0) dX7_fresh_43 rfl rfl ?_
          obtain ⟨x24, t25, e26, h⟩ := bd_some h
          refine j_callV_i C (i := 225) (As := []) (rest := [.int y1]) (c_X7_allStale l G B dy _ e26) (shp7 G B _ kA_225) (kd_lt kA_225 (by decide)) rfl tw_1044 tw_1046 tp_64 ti_7 tw_1047 hd_X7_allStale ⟨Nat.le_of_ble_eq_true rfl, Nat.le_of_ble_eq_true rfl⟩ ⟨Nat.le_of_ble_eq_true rfl, Nat.le_of_ble_eq_true rfl⟩ rfl rfl (Nat.le_of_ble_eq_true rfl) dX7_fresh_44 ?_
          refine j_isub C dX7_fresh_47 ?_
          refine j_i2d C dX7_fresh_48 ?_
          refine j_iload_n C (q := 1) dX7_fresh_49 rfl rfl ?_
          refine j_i2d C dX7_fresh_50 ?_
          obtain ⟨g27, h⟩ := gd_some h
          refine j_ddiv C dX7_fresh_51 (okd_n g27) ?_
          exact j_dret C hr hlk h ⟨Nat.le_of_ble_eq_true rfl, Nat.le_of_ble_eq_true rfl⟩ dX7_fresh_52
      · have h := ite_f h c22
        refine j_iload_n C (q := 1) dX7_fresh_15 rfl rfl ?_
        refine j_aload_n C (q := 0) dX7_fresh_16 rfl rfl ?_
        refine fg_X7_7 C (i := 225) kA_225 dX7_fresh_17 ?_
        refine j_iload_n C (q := 2) dX7_fresh_20 rfl rfl ?_
        refine j_iconst C (v := 2) dX7_fresh_21 (by decide) ?_
        obtain ⟨x28, t29, e30, h⟩ := bd_some h
        refine j_callS_i C (i := 0) (As := [.int y2, .int 2]) (rest := [.ref (B + 226), .int y1]) (c_X7_ofStick l G B dy y2 2 _ e30) tw_961 tw_962 ti_7 tw_963 ⟨rfl, hd_X7_ofStick⟩ ⟨Nat.le_of_ble_eq_true rfl, Nat.le_of_ble_eq_true rfl⟩ ⟨Nat.le_of_ble_eq_true rfl, Nat.le_of_ble_eq_true rfl⟩ rfl rfl (Nat.le_of_ble_eq_true rfl) dX7_fresh_22 ?_
        obtain ⟨g31, h⟩ := gd_some h
        refine j_iald C (i := 226) kA_226 (inA g31 aA_226) dX7_fresh_25 ?_
        refine j_iadd C dX7_fresh_26 ?_
        refine j_topi (fun x32 ex32 => ?_)
        have h := lt_at h ex32
        refine j_istore_n C [(0, .ref (B + 225)), (1, .int x32), (2, .int y2)] [1, 0, 2] dX7_fresh_27 rfl (by decide) rfl ?_
        obtain ⟨x33, ex33⟩ : ∃ y : Int32, y = (y2 + 1) := ⟨_, rfl⟩
        have h := lt_at h ex33
        refine j_iinc C (q := 2) [(0, .ref (B + 225)), (1, .int x32), (2, .int x33)] [1, 2, 0] dX7_fresh_28 rfl (by rw [ex33]; rfl) (by decide) rfl ?_
        refine j_goto C (tgt := 4) dX7_fresh_31 (by decide) ?_
        exact ih4 x32 x33 _ h
  refine j_iconst C (v := 0) dX7_fresh_0 (by decide) ?_
  refine j_istore_n C [(0, .ref (B + 225)), (1, .int 0)] [1, 0] dX7_fresh_1 rfl (by decide) rfl ?_
  refine j_iconst C (v := 0) dX7_fresh_2 (by decide) ?_
  refine j_istore_n C [(0, .ref (B + 225)), (1, .int 0), (2, .int 0)] [1, 2, 0] dX7_fresh_3 rfl (by decide) rfl ?_
  exact J4 FU 0 0 _ h
set_option maxRecDepth 100000 in
set_option maxHeartbeats 4000000 in
theorem c_X7_freshShare (l : Launch) (G : GG) (B dy : Nat) (t0 : St) {r : UInt64} {t9 : St} (h : f_X7_freshShare t0 = some (r, t9)) : Ct l G B dy yX7_freshShare cX7_freshShare 1 (some .double) 7 168 0 0 [.ref (B + 225)] t0 (PostD G B r t9) := by
  refine Ct_of (by decide +kernel) [(0, .ref (B + 225))] (Nat.le_of_ble_eq_true rfl) rfl ?_
  intro p e s m args below meth c C hr hlk
  refine j_aload_n C (q := 0) dX7_freshShare_0 rfl rfl ?_
  refine j_iconst C (v := 0) dX7_freshShare_1 (by decide) ?_
  refine fp_X7_38 C (i := 225) kA_225 dX7_freshShare_2 ?_
  refine j_tops (fun t21 et21 => ?_)
  have h := lt_at h et21
  refine j_aload_n C (q := 0) dX7_freshShare_5 rfl rfl ?_
  obtain ⟨x22, t23, e24, h⟩ := bd_some h
  refine j_callV_d C (i := 225) (As := []) (rest := []) (c_X7_fresh l G B dy _ e24) (shp7 G B _ kA_225) (kd_lt kA_225 (by decide)) rfl tw_1087 tw_1089 tp_69 ti_7 tw_1090 hd_X7_fresh ⟨Nat.le_of_ble_eq_true rfl, Nat.le_of_ble_eq_true rfl⟩ ⟨Nat.le_of_ble_eq_true rfl, Nat.le_of_ble_eq_true rfl⟩ rfl rfl (Nat.le_of_ble_eq_true rfl) dX7_freshShare_6 ?_
  exact j_dret C hr hlk h ⟨Nat.le_of_ble_eq_true rfl, Nat.le_of_ble_eq_true rfl⟩ dX7_freshShare_9
set_option maxRecDepth 100000 in
set_option maxHeartbeats 4000000 in
theorem c_X7_bitsOf (l : Launch) (G : GG) (B dy : Nat) (x0 : UInt64) (t0 : St) {r : Int64} {t9 : St} (h : f_X7_bitsOf x0 t0 = some (r, t9)) : Ct l G B dy yX7_bitsOf cX7_bitsOf 6 (some .long) 0 0 0 0 [.double x0] t0 (PostL G B r t9) := by
  refine Ct_of (by decide +kernel) [(0, .double x0)] (Nat.le_of_ble_eq_true rfl) rfl ?_
  intro p e s m args below meth c C hr hlk
  have J15 : ∀ (n15 : Nat) (y2 : Int64) (y4 : UInt64) (t0 : St), f_X7_bitsOf_l15 n15 y2 y4 t0 = some (r, t9) → WW G B p l e (RM 0 0 0 0) s m args below meth c 0 0 (MQ below (PostL G B r t9) args s 0 0 (Ab B)) 6 15 [(2, .long y2), (4, .double y4)] [] t0 := by
    intro n15
    induction n15 with
    | zero => intro y2 y4 t0 h; exact (no_some h).elim
    | succ n15 ih15 =>
      try clear h
      intro y2 y4 t0 h
      have h : f_X7_bitsOf_b15 (f_X7_bitsOf_l15 n15) y2 y4 t0 = some (r, t9) := h
      refine j_dload C (q := 1) dX7_bitsOf_15 rfl ?_
      refine j_dconst1 C dX7_bitsOf_17 ?_
      refine j_dcmp C dX7_bitsOf_18 ?_
      refine j_if_ge C (tgt := 37) dX7_bitsOf_19 (by decide) (fun c21 => ?_) (fun c21 => ?_)
      · have h := ite_t h c21
        refine j_lload_n C (q := 0) dX7_bitsOf_37 rfl rfl ?_
        refine j_ldc2 C tw_1113 dX7_bitsOf_38 ?_
        refine j_lmul C dX7_bitsOf_41 ?_
        refine j_dload C (q := 1) dX7_bitsOf_42 rfl ?_
        refine j_dconst1 C dX7_bitsOf_44 ?_
        obtain ⟨g22, h⟩ := gd_some h
        refine j_dsub C dX7_bitsOf_45 (okd_n g22) ?_
        refine j_ldc2d C tw_1114 dX7_bitsOf_46 ?_
        obtain ⟨g23, h⟩ := gd_some h
        refine j_dmul C dX7_bitsOf_49 (okd_n g23) ?_
        refine j_d2l C dX7_bitsOf_50 ?_
        refine j_ladd C dX7_bitsOf_51 ?_
        exact j_lret C hr hlk h ⟨Nat.le_of_ble_eq_true rfl, Nat.le_of_ble_eq_true rfl⟩ dX7_bitsOf_52
      · have h := ite_f h c21
        refine j_dload C (q := 1) dX7_bitsOf_22 rfl ?_
        refine j_ldc2d C tw_1112 dX7_bitsOf_24 ?_
        obtain ⟨g24, h⟩ := gd_some h
        refine j_dmul C dX7_bitsOf_27 (okd_n g24) ?_
        refine j_topd (fun x25 ex25 => ?_)
        have h := lt_at h ex25
        refine j_dstore C [(2, .long y2), (4, .double x25)] [1, 0] dX7_bitsOf_28 (by decide) rfl ?_
        refine j_lload_n C (q := 0) dX7_bitsOf_30 rfl rfl ?_
        refine j_lconst C (v := 1) dX7_bitsOf_31 (by decide) ?_
        refine j_lsub C dX7_bitsOf_32 ?_
        refine j_topl (fun x26 ex26 => ?_)
        have h := lt_at h ex26
        refine j_lstore_n C [(2, .long x26), (4, .double x25)] [0, 1] dX7_bitsOf_33 rfl (by decide) rfl ?_
        refine j_goto C (tgt := 15) dX7_bitsOf_34 (by decide) ?_
        exact ih15 x26 x25 _ h
  refine j_dload_n C (q := 0) dX7_bitsOf_0 rfl rfl ?_
  refine j_dconst0 C dX7_bitsOf_1 ?_
  refine j_dcmp C dX7_bitsOf_2 ?_
  refine j_if_ne C (tgt := 8) dX7_bitsOf_3 (by decide) (fun c27 => ?_) (fun c27 => ?_)
  · have h := ite_t h c27
    refine j_lconst C (v := 0) dX7_bitsOf_6 (by decide) ?_
    exact j_lret C hr hlk h ⟨Nat.le_of_ble_eq_true rfl, Nat.le_of_ble_eq_true rfl⟩ dX7_bitsOf_7
  · have h := ite_f h c27
    refine j_ldc2 C tw_1111 dX7_bitsOf_8 ?_
    refine j_lstore_n C [(0, .double x0), (2, .long 1023)] [1, 0] dX7_bitsOf_11 rfl (by decide) rfl ?_
    refine j_dload_n C (q := 0) dX7_bitsOf_12 rfl rfl ?_
    refine j_dstore C [(0, .double x0), (2, .long 1023), (4, .double x0)] [1, 2, 0] dX7_bitsOf_13 (by decide) rfl ?_
    refine j_sub [1, 2] rfl ?_
    exact J15 FU 1023 x0 _ h
set_option maxRecDepth 100000 in
set_option maxHeartbeats 4000000 in
theorem c_X7_digestOne (l : Launch) (G : GG) (B dy : Nat) (x1 : Int64) (t0 : St) {t9 : St} (h : f_X7_digestOne x1 t0 = some t9) : Ct l G B dy yX7_digestOne cX7_digestOne 3 none 0 0 0 0 [.ref (B + 225), .long x1] t0 (PostV G B t9) := by
  refine Ct_of (by decide +kernel) [(0, .ref (B + 225)), (1, .long x1)] (Nat.le_of_ble_eq_true rfl) rfl ?_
  intro p e s m args below meth c C hr hlk
  refine j_aload_n C (q := 0) dX7_digestOne_0 rfl rfl ?_
  refine j_ldc2 C tw_1100 dX7_digestOne_1 ?_
  refine j_aload_n C (q := 0) dX7_digestOne_4 rfl rfl ?_
  refine fg_X7_203 C (i := 225) kA_225 dX7_digestOne_5 ?_
  refine j_lmul C dX7_digestOne_8 ?_
  refine j_lload_n C (q := 1) dX7_digestOne_9 rfl rfl ?_
  refine j_ladd C dX7_digestOne_10 ?_
  refine fp_X7_203 C (i := 225) kA_225 dX7_digestOne_11 ?_
  refine j_tops (fun t21 et21 => ?_)
  have h := lt_at h et21
  exact j_vret C hr hlk h ⟨Nat.le_of_ble_eq_true rfl, Nat.le_of_ble_eq_true rfl⟩ dX7_digestOne_14
set_option maxRecDepth 100000 in
set_option maxHeartbeats 4000000 in
theorem c_X7_someYear (l : Launch) (G : GG) (B dy : Nat) (x0 : Int32) (t0 : St) {r : Int32} {t9 : St} (h : f_X7_someYear x0 t0 = some (r, t9)) : Ct l G B dy yX7_someYear cX7_someYear 1 (some .int) 0 0 0 0 [.int x0] t0 (PostI G B r t9) := by
  refine Ct_of (by decide +kernel) [(0, .int x0)] (Nat.le_of_ble_eq_true rfl) rfl ?_
  intro p e s m args below meth c C hr hlk
  refine j_iload_n C (q := 0) dX7_someYear_0 rfl rfl ?_
  refine j_if_ne C (tgt := 8) dX7_someYear_1 (by decide) (fun c21 => ?_) (fun c21 => ?_)
  · have h := ite_t h c21
    refine j_iconst C (v := 0) dX7_someYear_4 (by decide) ?_
    refine j_goto C (tgt := 21) dX7_someYear_5 (by decide) ?_
    exact j_iret C hr hlk h ⟨Nat.le_of_ble_eq_true rfl, Nat.le_of_ble_eq_true rfl⟩ dX7_someYear_21
  · have h := ite_f h c21
    refine j_iload_n C (q := 0) dX7_someYear_8 rfl rfl ?_
    refine j_iconst C (v := 1) dX7_someYear_9 (by decide) ?_
    refine j_icmp_ne C (tgt := 18) dX7_someYear_10 (by decide) (fun c22 => ?_) (fun c22 => ?_)
    · have h := ite_t h c22
      refine j_bipush C (v := 100) dX7_someYear_13 (by decide) ?_
      refine j_goto C (tgt := 21) dX7_someYear_15 (by decide) ?_
      exact j_iret C hr hlk h ⟨Nat.le_of_ble_eq_true rfl, Nat.le_of_ble_eq_true rfl⟩ dX7_someYear_21
    · have h := ite_f h c22
      refine j_sipush C (v := 777) dX7_someYear_18 (by decide) ?_
      exact j_iret C hr hlk h ⟨Nat.le_of_ble_eq_true rfl, Nat.le_of_ble_eq_true rfl⟩ dX7_someYear_21
set_option maxRecDepth 100000 in
set_option maxHeartbeats 4000000 in
theorem c_X7_digestFeast (l : Launch) (G : GG) (B dy : Nat) (x1 : Int32) (t0 : St) {t9 : St} (h : f_X7_digestFeast x1 t0 = some t9) : Ct l G B dy yX7_digestFeast cX7_digestFeast 4 none 6 146 0 0 [.ref (B + 225), .int x1] t0 (PostV G B t9) := by
  refine Ct_of (by decide +kernel) [(0, .ref (B + 225)), (1, .int x1)] (Nat.le_of_ble_eq_true rfl) rfl ?_
  intro p e s m args below meth c C hr hlk
  have J26 : ∀ (n26 : Nat) (y2 : Int32) (t0 : St), f_X7_digestFeast_l26 n26 x1 y2 t0 = some t9 → WW G B p l e (RM 6 146 0 0) s m args below meth c 0 0 (MQ below (PostV G B t9) args s 0 0 (Ab B)) 4 26 [(0, .ref (B + 225)), (1, .int x1), (2, .int y2)] [] t0 := by
    intro n26
    induction n26 with
    | zero => intro y2 t0 h; exact (no_some h).elim
    | succ n26 ih26 =>
      try clear h
      have J33 : ∀ (n33 : Nat) (y2 : Int32) (y3 : Int32) (t0 : St), f_X7_digestFeast_l33 (f_X7_digestFeast_l26 n26) n33 x1 y2 y3 t0 = some t9 → WW G B p l e (RM 6 146 0 0) s m args below meth c 0 0 (MQ below (PostV G B t9) args s 0 0 (Ab B)) 4 33 [(0, .ref (B + 225)), (1, .int x1), (2, .int y2), (3, .int y3)] [] t0 := by
        intro n33
        induction n33 with
        | zero => intro y2 y3 t0 h; exact (no_some h).elim
        | succ n33 ih33 =>
          try clear h
          intro y2 y3 t0 h
          have h : f_X7_digestFeast_b33 (f_X7_digestFeast_l26 n26) (f_X7_digestFeast_l33 (f_X7_digestFeast_l26 n26) n33) x1 y2 y3 t0 = some t9 := h
          refine j_iload_n C (q := 3) dX7_digestFeast_33 rfl rfl ?_
          refine j_iconst C (v := 3) dX7_digestFeast_34 (by decide) ?_
          refine j_icmp_ge C (tgt := 76) dX7_digestFeast_35 (by decide) (fun c21 => ?_) (fun c21 => ?_)
          · have h := ite_t h c21
            refine j_aload_n C (q := 0) dX7_digestFeast_76 rfl rfl ?_
            refine j_aload_n C (q := 0) dX7_digestFeast_77 rfl rfl ?_
            refine j_iload_n C (q := 1) dX7_digestFeast_78 rfl rfl ?_
            refine j_iload_n C (q := 2) dX7_digestFeast_79 rfl rfl ?_
            obtain ⟨x22, t23, e24, h⟩ := bd_some h
            refine j_callS_i C (i := 0) (As := [.int y2]) (rest := [.int x1, .ref (B + 225), .ref (B + 225)]) (c_X7_someYear l G B dy y2 _ e24) tw_1105 tw_1106 ti_7 tw_1107 ⟨rfl, hd_X7_someYear⟩ ⟨Nat.le_of_ble_eq_true rfl, Nat.le_of_ble_eq_true rfl⟩ ⟨Nat.le_of_ble_eq_true rfl, Nat.le_of_ble_eq_true rfl⟩ rfl rfl (Nat.le_of_ble_eq_true rfl) dX7_digestFeast_80 ?_
            obtain ⟨x25, t26, e27, h⟩ := bd_some h
            refine j_callV_i C (i := 225) (As := [.int x1, .int x22]) (rest := [.ref (B + 225)]) (c_X7_settledOf l G B dy x1 x22 _ e27) (shp7 G B _ kA_225) (kd_lt kA_225 (by decide)) rfl tw_1008 tw_1010 tp_58 ti_7 tw_1011 hd_X7_settledOf ⟨Nat.le_of_ble_eq_true rfl, Nat.le_of_ble_eq_true rfl⟩ ⟨Nat.le_of_ble_eq_true rfl, Nat.le_of_ble_eq_true rfl⟩ rfl rfl (Nat.le_of_ble_eq_true rfl) dX7_digestFeast_83 ?_
            refine j_i2l C dX7_digestFeast_86 ?_
            obtain ⟨t29, e30, h⟩ := bv_some h
            refine j_callV_v C (i := 225) (As := [.long ((x25 : Int32).toInt64)]) (rest := []) (c_X7_digestOne l G B dy ((x25 : Int32).toInt64) _ e30) (shp7 G B _ kA_225) (kd_lt kA_225 (by decide)) rfl tw_1096 tw_1098 tp_70 ti_7 tw_1099 hd_X7_digestOne ⟨Nat.le_of_ble_eq_true rfl, Nat.le_of_ble_eq_true rfl⟩ ⟨Nat.le_of_ble_eq_true rfl, Nat.le_of_ble_eq_true rfl⟩ rfl rfl (Nat.le_of_ble_eq_true rfl) dX7_digestFeast_87 ?_
            obtain ⟨x31, ex31⟩ : ∃ y : Int32, y = (y2 + 1) := ⟨_, rfl⟩
            have h := lt_at h ex31
            refine j_iinc C (q := 2) [(0, .ref (B + 225)), (1, .int x1), (2, .int x31), (3, .int y3)] [1, 2, 0, 3] dX7_digestFeast_90 rfl (by rw [ex31]; rfl) (by decide) rfl ?_
            refine j_goto C (tgt := 26) dX7_digestFeast_93 (by decide) ?_
            refine j_sub [0, 1, 2] rfl ?_
            exact ih26 x31 _ h
          · have h := ite_f h c21
            refine j_aload_n C (q := 0) dX7_digestFeast_38 rfl rfl ?_
            refine j_aload_n C (q := 0) dX7_digestFeast_39 rfl rfl ?_
            refine j_iload_n C (q := 1) dX7_digestFeast_40 rfl rfl ?_
            refine j_iload_n C (q := 2) dX7_digestFeast_41 rfl rfl ?_
            obtain ⟨x32, t33, e34, h⟩ := bd_some h
            refine j_callS_i C (i := 0) (As := [.int y2]) (rest := [.int x1, .ref (B + 225), .ref (B + 225)]) (c_X7_someYear l G B dy y2 _ e34) tw_1105 tw_1106 ti_7 tw_1107 ⟨rfl, hd_X7_someYear⟩ ⟨Nat.le_of_ble_eq_true rfl, Nat.le_of_ble_eq_true rfl⟩ ⟨Nat.le_of_ble_eq_true rfl, Nat.le_of_ble_eq_true rfl⟩ rfl rfl (Nat.le_of_ble_eq_true rfl) dX7_digestFeast_42 ?_
            refine j_iload_n C (q := 3) dX7_digestFeast_45 rfl rfl ?_
            refine j_iconst C (v := 1) dX7_digestFeast_46 (by decide) ?_
            obtain ⟨x35, t36, e37, h⟩ := bd_some h
            refine j_callV_i C (i := 225) (As := [.int x1, .int x32, .int y3, .int 1]) (rest := [.ref (B + 225)]) (c_X7_dayOf l G B dy x1 x32 y3 1 _ e37) (shp7 G B _ kA_225) (kd_lt kA_225 (by decide)) rfl tw_1000 tw_1002 tp_57 ti_7 tw_1003 hd_X7_dayOf ⟨Nat.le_of_ble_eq_true rfl, Nat.le_of_ble_eq_true rfl⟩ ⟨Nat.le_of_ble_eq_true rfl, Nat.le_of_ble_eq_true rfl⟩ rfl rfl (Nat.le_of_ble_eq_true rfl) dX7_digestFeast_47 ?_
            refine j_i2l C dX7_digestFeast_50 ?_
            obtain ⟨t39, e40, h⟩ := bv_some h
            refine j_callV_v C (i := 225) (As := [.long ((x35 : Int32).toInt64)]) (rest := []) (c_X7_digestOne l G B dy ((x35 : Int32).toInt64) _ e40) (shp7 G B _ kA_225) (kd_lt kA_225 (by decide)) rfl tw_1096 tw_1098 tp_70 ti_7 tw_1099 hd_X7_digestOne ⟨Nat.le_of_ble_eq_true rfl, Nat.le_of_ble_eq_true rfl⟩ ⟨Nat.le_of_ble_eq_true rfl, Nat.le_of_ble_eq_true rfl⟩ rfl rfl (Nat.le_of_ble_eq_true rfl) dX7_digestFeast_51 ?_
            refine j_aload_n C (q := 0) dX7_digestFeast_54 rfl rfl ?_
            refine j_aload_n C (q := 0) dX7_digestFeast_55 rfl rfl ?_
            refine j_iload_n C (q := 1) dX7_digestFeast_56 rfl rfl ?_
            refine j_iload_n C (q := 2) dX7_digestFeast_57 rfl rfl ?_
            obtain ⟨x41, t42, e43, h⟩ := bd_some h
            refine j_callS_i C (i := 0) (As := [.int y2]) (rest := [.int x1, .ref (B + 225), .ref (B + 225)]) (c_X7_someYear l G B dy y2 _ e43) tw_1105 tw_1106 ti_7 tw_1107 ⟨rfl, hd_X7_someYear⟩ ⟨Nat.le_of_ble_eq_true rfl, Nat.le_of_ble_eq_true rfl⟩ ⟨Nat.le_of_ble_eq_true rfl, Nat.le_of_ble_eq_true rfl⟩ rfl rfl (Nat.le_of_ble_eq_true rfl) dX7_digestFeast_58 ?_
            refine j_iload_n C (q := 3) dX7_digestFeast_61 rfl rfl ?_
            refine j_iconst C (v := 0) dX7_digestFeast_62 (by decide) ?_
            obtain ⟨x44, t45, e46, h⟩ := bd_some h
            refine j_callV_i C (i := 225) (As := [.int x1, .int x41, .int y3, .int 0]) (rest := [.ref (B + 225)]) (c_X7_dayOf l G B dy x1 x41 y3 0 _ e46) (shp7 G B _ kA_225) (kd_lt kA_225 (by decide)) rfl tw_1000 tw_1002 tp_57 ti_7 tw_1003 hd_X7_dayOf ⟨Nat.le_of_ble_eq_true rfl, Nat.le_of_ble_eq_true rfl⟩ ⟨Nat.le_of_ble_eq_true rfl, Nat.le_of_ble_eq_true rfl⟩ rfl rfl (Nat.le_of_ble_eq_true rfl) dX7_digestFeast_63 ?_
            refine j_i2l C dX7_digestFeast_66 ?_
            obtain ⟨t48, e49, h⟩ := bv_some h
            refine j_callV_v C (i := 225) (As := [.long ((x44 : Int32).toInt64)]) (rest := []) (c_X7_digestOne l G B dy ((x44 : Int32).toInt64) _ e49) (shp7 G B _ kA_225) (kd_lt kA_225 (by decide)) rfl tw_1096 tw_1098 tp_70 ti_7 tw_1099 hd_X7_digestOne ⟨Nat.le_of_ble_eq_true rfl, Nat.le_of_ble_eq_true rfl⟩ ⟨Nat.le_of_ble_eq_true rfl, Nat.le_of_ble_eq_true rfl⟩ rfl rfl (Nat.le_of_ble_eq_true rfl) dX7_digestFeast_67 ?_
            obtain ⟨x50, ex50⟩ : ∃ y : Int32, y = (y3 + 1) := ⟨_, rfl⟩
            have h := lt_at h ex50
            refine j_iinc C (q := 3) [(0, .ref (B + 225)), (1, .int x1), (2, .int y2), (3, .int x50)] [1, 2, 3, 0] dX7_digestFeast_70 rfl (by rw [ex50]; rfl) (by decide) rfl ?_
            refine j_goto C (tgt := 33) dX7_digestFeast_73 (by decide) ?_
            exact ih33 y2 x50 _ h
      intro y2 t0 h
      have h : f_X7_digestFeast_b26 (f_X7_digestFeast_l26 n26) x1 y2 t0 = some t9 := h
      refine j_iload_n C (q := 2) dX7_digestFeast_26 rfl rfl ?_
      refine j_iconst C (v := 3) dX7_digestFeast_27 (by decide) ?_
      refine j_icmp_ge C (tgt := 96) dX7_digestFeast_28 (by decide) (fun c51 => ?_) (fun c51 => ?_)
      · have h := ite_t h c51
        exact j_vret C hr hlk h ⟨Nat.le_of_ble_eq_true rfl, Nat.le_of_ble_eq_true rfl⟩ dX7_digestFeast_96
      · have h := ite_f h c51
        refine j_iconst C (v := 0) dX7_digestFeast_31 (by decide) ?_
        refine j_istore_n C [(0, .ref (B + 225)), (1, .int x1), (2, .int y2), (3, .int 0)] [1, 2, 3, 0] dX7_digestFeast_32 rfl (by decide) rfl ?_
        exact J33 FU y2 0 _ h
  have J2 : ∀ (n2 : Nat) (y2 : Int32) (t0 : St), f_X7_digestFeast_l2 n2 x1 y2 t0 = some t9 → WW G B p l e (RM 6 146 0 0) s m args below meth c 0 0 (MQ below (PostV G B t9) args s 0 0 (Ab B)) 4 2 [(0, .ref (B + 225)), (1, .int x1), (2, .int y2)] [] t0 := by
    intro n2
    induction n2 with
    | zero => intro y2 t0 h; exact (no_some h).elim
    | succ n2 ih2 =>
      try clear h
      intro y2 t0 h
      have h : f_X7_digestFeast_b2 (f_X7_digestFeast_l2 n2) x1 y2 t0 = some t9 := h
      refine j_iload_n C (q := 2) dX7_digestFeast_2 rfl rfl ?_
      refine j_iconst C (v := 4) dX7_digestFeast_3 (by decide) ?_
      refine j_icmp_ge C (tgt := 24) dX7_digestFeast_4 (by decide) (fun c52 => ?_) (fun c52 => ?_)
      · have h := ite_t h c52
        refine j_iconst C (v := 0) dX7_digestFeast_24 (by decide) ?_
        refine j_istore_n C [(0, .ref (B + 225)), (1, .int x1), (2, .int 0)] [1, 2, 0] dX7_digestFeast_25 rfl (by decide) rfl ?_
        exact J26 FU 0 _ h
      · have h := ite_f h c52
        refine j_aload_n C (q := 0) dX7_digestFeast_7 rfl rfl ?_
        refine j_aload_n C (q := 0) dX7_digestFeast_8 rfl rfl ?_
        refine j_iload_n C (q := 1) dX7_digestFeast_9 rfl rfl ?_
        refine j_iload_n C (q := 2) dX7_digestFeast_10 rfl rfl ?_
        obtain ⟨x53, t54, e55, h⟩ := bd_some h
        refine j_callV_i C (i := 225) (As := [.int x1, .int y2]) (rest := [.ref (B + 225)]) (c_X7_ofFeast l G B dy x1 y2 _ e55) (shp7 G B _ kA_225) (kd_lt kA_225 (by decide)) rfl tw_992 tw_994 tp_56 ti_7 tw_995 hd_X7_ofFeast ⟨Nat.le_of_ble_eq_true rfl, Nat.le_of_ble_eq_true rfl⟩ ⟨Nat.le_of_ble_eq_true rfl, Nat.le_of_ble_eq_true rfl⟩ rfl rfl (Nat.le_of_ble_eq_true rfl) dX7_digestFeast_11 ?_
        refine j_i2l C dX7_digestFeast_14 ?_
        obtain ⟨t57, e58, h⟩ := bv_some h
        refine j_callV_v C (i := 225) (As := [.long ((x53 : Int32).toInt64)]) (rest := []) (c_X7_digestOne l G B dy ((x53 : Int32).toInt64) _ e58) (shp7 G B _ kA_225) (kd_lt kA_225 (by decide)) rfl tw_1096 tw_1098 tp_70 ti_7 tw_1099 hd_X7_digestOne ⟨Nat.le_of_ble_eq_true rfl, Nat.le_of_ble_eq_true rfl⟩ ⟨Nat.le_of_ble_eq_true rfl, Nat.le_of_ble_eq_true rfl⟩ rfl rfl (Nat.le_of_ble_eq_true rfl) dX7_digestFeast_15 ?_
        obtain ⟨x59, ex59⟩ : ∃ y : Int32, y = (y2 + 1) := ⟨_, rfl⟩
        have h := lt_at h ex59
        refine j_iinc C (q := 2) [(0, .ref (B + 225)), (1, .int x1), (2, .int x59)] [1, 2, 0] dX7_digestFeast_18 rfl (by rw [ex59]; rfl) (by decide) rfl ?_
        refine j_goto C (tgt := 2) dX7_digestFeast_21 (by decide) ?_
        exact ih2 x59 _ h
  refine j_iconst C (v := 0) dX7_digestFeast_0 (by decide) ?_
  refine j_istore_n C [(0, .ref (B + 225)), (1, .int x1), (2, .int 0)] [1, 2, 0] dX7_digestFeast_1 rfl (by decide) rfl ?_
  exact J2 FU 0 _ h
set_option maxRecDepth 100000 in
set_option maxHeartbeats 4000000 in
theorem c_X7_digest (l : Launch) (G : GG) (B dy : Nat) (t0 : St) {r : Int64} {t9 : St} (h : f_X7_digest t0 = some (r, t9)) : Ct l G B dy yX7_digest cX7_digest 3 (some .long) 7 174 0 0 [.ref (B + 225)] t0 (PostL G B r t9) := by
  refine Ct_of (by decide +kernel) [(0, .ref (B + 225))] (Nat.le_of_ble_eq_true rfl) rfl ?_
  intro p e s m args below meth c C hr hlk
  have J240 : ∀ (n240 : Nat) (y1 : Int32) (t0 : St), f_X7_digest_l240 n240 y1 t0 = some (r, t9) → WW G B p l e (RM 7 174 0 0) s m args below meth c 0 0 (MQ below (PostL G B r t9) args s 0 0 (Ab B)) 3 240 [(0, .ref (B + 225)), (1, .int y1)] [] t0 := by
    intro n240
    induction n240 with
    | zero => intro y1 t0 h; exact (no_some h).elim
    | succ n240 ih240 =>
      try clear h
      intro y1 t0 h
      have h : f_X7_digest_b240 (f_X7_digest_l240 n240) y1 t0 = some (r, t9) := h
      refine j_iload_n C (q := 1) dX7_digest_240 rfl rfl ?_
      refine j_aload_n C (q := 0) dX7_digest_241 rfl rfl ?_
      refine fg_X7_77 C (i := 225) kA_225 dX7_digest_242 ?_
      refine j_icmp_ge C (tgt := 265) dX7_digest_245 (by decide) (fun c21 => ?_) (fun c21 => ?_)
      · have h := ite_t h c21
        refine j_aload_n C (q := 0) dX7_digest_265 rfl rfl ?_
        refine fg_X7_203 C (i := 225) kA_225 dX7_digest_266 ?_
        exact j_lret C hr hlk h ⟨Nat.le_of_ble_eq_true rfl, Nat.le_of_ble_eq_true rfl⟩ dX7_digest_269
      · have h := ite_f h c21
        refine j_aload_n C (q := 0) dX7_digest_248 rfl rfl ?_
        refine j_aload_n C (q := 0) dX7_digest_249 rfl rfl ?_
        refine fg_X7_16 C (i := 225) kA_225 dX7_digest_250 ?_
        refine j_iload_n C (q := 1) dX7_digest_253 rfl rfl ?_
        obtain ⟨g22, h⟩ := gd_some h
        refine j_iald C (i := 228) kA_228 (inA g22 aA_228) dX7_digest_254 ?_
        refine j_i2l C dX7_digest_255 ?_
        obtain ⟨t24, e25, h⟩ := bv_some h
        refine j_callV_v C (i := 225) (As := [.long (((t0.1 228 (tc y1)) : Int32).toInt64)]) (rest := []) (c_X7_digestOne l G B dy (((t0.1 228 (tc y1)) : Int32).toInt64) _ e25) (shp7 G B _ kA_225) (kd_lt kA_225 (by decide)) rfl tw_1096 tw_1098 tp_70 ti_7 tw_1099 hd_X7_digestOne ⟨Nat.le_of_ble_eq_true rfl, Nat.le_of_ble_eq_true rfl⟩ ⟨Nat.le_of_ble_eq_true rfl, Nat.le_of_ble_eq_true rfl⟩ rfl rfl (Nat.le_of_ble_eq_true rfl) dX7_digest_256 ?_
        obtain ⟨x26, ex26⟩ : ∃ y : Int32, y = (y1 + 1) := ⟨_, rfl⟩
        have h := lt_at h ex26
        refine j_iinc C (q := 1) [(0, .ref (B + 225)), (1, .int x26)] [1, 0] dX7_digest_259 rfl (by rw [ex26]; rfl) (by decide) rfl ?_
        refine j_goto C (tgt := 240) dX7_digest_262 (by decide) ?_
        exact ih240 x26 _ h
  have J218 : ∀ (t0 : St), f_X7_digest_b218 t0 = some (r, t9) → WW G B p l e (RM 7 174 0 0) s m args below meth c 0 0 (MQ below (PostL G B r t9) args s 0 0 (Ab B)) 3 218 [(0, .ref (B + 225))] [] t0 := by
    intro t0 h
    refine j_aload_n C (q := 0) dX7_digest_218 rfl rfl ?_
    refine j_aload_n C (q := 0) dX7_digest_219 rfl rfl ?_
    obtain ⟨x27, t28, e29, h⟩ := bd_some h
    refine j_callV_d C (i := 225) (As := []) (rest := [.ref (B + 225)]) (c_X7_fresh l G B dy _ e29) (shp7 G B _ kA_225) (kd_lt kA_225 (by decide)) rfl tw_1087 tw_1089 tp_69 ti_7 tw_1090 hd_X7_fresh ⟨Nat.le_of_ble_eq_true rfl, Nat.le_of_ble_eq_true rfl⟩ ⟨Nat.le_of_ble_eq_true rfl, Nat.le_of_ble_eq_true rfl⟩ rfl rfl (Nat.le_of_ble_eq_true rfl) dX7_digest_220 ?_
    obtain ⟨x30, t31, e32, h⟩ := bd_some h
    refine j_callS_l C (i := 0) (As := [.double x27]) (rest := [.ref (B + 225)]) (c_X7_bitsOf l G B dy x27 _ e32) tw_1108 tw_1109 ti_7 tw_1110 ⟨rfl, hd_X7_bitsOf⟩ ⟨Nat.le_of_ble_eq_true rfl, Nat.le_of_ble_eq_true rfl⟩ ⟨Nat.le_of_ble_eq_true rfl, Nat.le_of_ble_eq_true rfl⟩ rfl rfl (Nat.le_of_ble_eq_true rfl) dX7_digest_223 ?_
    obtain ⟨t34, e35, h⟩ := bv_some h
    refine j_callV_v C (i := 225) (As := [.long x30]) (rest := []) (c_X7_digestOne l G B dy x30 _ e35) (shp7 G B _ kA_225) (kd_lt kA_225 (by decide)) rfl tw_1096 tw_1098 tp_70 ti_7 tw_1099 hd_X7_digestOne ⟨Nat.le_of_ble_eq_true rfl, Nat.le_of_ble_eq_true rfl⟩ ⟨Nat.le_of_ble_eq_true rfl, Nat.le_of_ble_eq_true rfl⟩ rfl rfl (Nat.le_of_ble_eq_true rfl) dX7_digest_226 ?_
    refine j_aload_n C (q := 0) dX7_digest_229 rfl rfl ?_
    refine j_aload_n C (q := 0) dX7_digest_230 rfl rfl ?_
    refine fg_X7_77 C (i := 225) kA_225 dX7_digest_231 ?_
    refine j_i2l C dX7_digest_234 ?_
    obtain ⟨t37, e38, h⟩ := bv_some h
    refine j_callV_v C (i := 225) (As := [.long (((t34.1 225 5) : Int32).toInt64)]) (rest := []) (c_X7_digestOne l G B dy (((t34.1 225 5) : Int32).toInt64) _ e38) (shp7 G B _ kA_225) (kd_lt kA_225 (by decide)) rfl tw_1096 tw_1098 tp_70 ti_7 tw_1099 hd_X7_digestOne ⟨Nat.le_of_ble_eq_true rfl, Nat.le_of_ble_eq_true rfl⟩ ⟨Nat.le_of_ble_eq_true rfl, Nat.le_of_ble_eq_true rfl⟩ rfl rfl (Nat.le_of_ble_eq_true rfl) dX7_digest_235 ?_
    refine j_iconst C (v := 0) dX7_digest_238 (by decide) ?_
    refine j_istore_n C [(0, .ref (B + 225)), (1, .int 0)] [1, 0] dX7_digest_239 rfl (by decide) rfl ?_
    exact J240 FU 0 _ h
  have J114 : ∀ (n114 : Nat) (y1 : Int32) (t0 : St), f_X7_digest_l114 n114 y1 t0 = some (r, t9) → WW G B p l e (RM 7 174 0 0) s m args below meth c 0 0 (MQ below (PostL G B r t9) args s 0 0 (Ab B)) 3 114 [(0, .ref (B + 225)), (1, .int y1)] [] t0 := by
    intro n114
    induction n114 with
    | zero => intro y1 t0 h; exact (no_some h).elim
    | succ n114 ih114 =>
      try clear h
      have J127 : ∀ (n127 : Nat) (y1 : Int32) (y2 : Int32) (t0 : St), f_X7_digest_l127 (f_X7_digest_l114 n114) n127 y1 y2 t0 = some (r, t9) → WW G B p l e (RM 7 174 0 0) s m args below meth c 0 0 (MQ below (PostL G B r t9) args s 0 0 (Ab B)) 3 127 [(0, .ref (B + 225)), (1, .int y1), (2, .int y2)] [] t0 := by
        intro n127
        induction n127 with
        | zero => intro y1 y2 t0 h; exact (no_some h).elim
        | succ n127 ih127 =>
          try clear h
          intro y1 y2 t0 h
          have h : f_X7_digest_b127 (f_X7_digest_l114 n114) (f_X7_digest_l127 (f_X7_digest_l114 n114) n127) y1 y2 t0 = some (r, t9) := h
          refine j_iload_n C (q := 2) dX7_digest_127 rfl rfl ?_
          refine j_bipush C (v := 14) dX7_digest_128 (by decide) ?_
          refine j_icmp_ge C (tgt := 150) dX7_digest_130 (by decide) (fun c39 => ?_) (fun c39 => ?_)
          · have h := ite_t h c39
            obtain ⟨x40, ex40⟩ : ∃ y : Int32, y = (y1 + 1) := ⟨_, rfl⟩
            have h := lt_at h ex40
            refine j_iinc C (q := 1) [(0, .ref (B + 225)), (1, .int x40), (2, .int y2)] [1, 0, 2] dX7_digest_150 rfl (by rw [ex40]; rfl) (by decide) rfl ?_
            refine j_goto C (tgt := 114) dX7_digest_153 (by decide) ?_
            refine j_sub [0, 1] rfl ?_
            exact ih114 x40 _ h
          · have h := ite_f h c39
            refine j_aload_n C (q := 0) dX7_digest_133 rfl rfl ?_
            refine j_aload_n C (q := 0) dX7_digest_134 rfl rfl ?_
            refine j_iload_n C (q := 1) dX7_digest_135 rfl rfl ?_
            refine j_iload_n C (q := 2) dX7_digest_136 rfl rfl ?_
            obtain ⟨x41, t42, e43, h⟩ := bd_some h
            refine j_callV_i C (i := 225) (As := [.int y1, .int y2]) (rest := [.ref (B + 225)]) (c_X7_aboutStick l G B dy y1 y2 _ e43) (shp7 G B _ kA_225) (kd_lt kA_225 (by decide)) rfl tw_1028 tw_1030 tp_61 ti_7 tw_1031 hd_X7_aboutStick ⟨Nat.le_of_ble_eq_true rfl, Nat.le_of_ble_eq_true rfl⟩ ⟨Nat.le_of_ble_eq_true rfl, Nat.le_of_ble_eq_true rfl⟩ rfl rfl (Nat.le_of_ble_eq_true rfl) dX7_digest_137 ?_
            refine j_i2l C dX7_digest_140 ?_
            obtain ⟨t45, e46, h⟩ := bv_some h
            refine j_callV_v C (i := 225) (As := [.long ((x41 : Int32).toInt64)]) (rest := []) (c_X7_digestOne l G B dy ((x41 : Int32).toInt64) _ e46) (shp7 G B _ kA_225) (kd_lt kA_225 (by decide)) rfl tw_1096 tw_1098 tp_70 ti_7 tw_1099 hd_X7_digestOne ⟨Nat.le_of_ble_eq_true rfl, Nat.le_of_ble_eq_true rfl⟩ ⟨Nat.le_of_ble_eq_true rfl, Nat.le_of_ble_eq_true rfl⟩ rfl rfl (Nat.le_of_ble_eq_true rfl) dX7_digest_141 ?_
            obtain ⟨x47, ex47⟩ : ∃ y : Int32, y = (y2 + 1) := ⟨_, rfl⟩
            have h := lt_at h ex47
            refine j_iinc C (q := 2) [(0, .ref (B + 225)), (1, .int y1), (2, .int x47)] [1, 2, 0] dX7_digest_144 rfl (by rw [ex47]; rfl) (by decide) rfl ?_
            refine j_goto C (tgt := 127) dX7_digest_147 (by decide) ?_
            exact ih127 y1 x47 _ h
      intro y1 t0 h
      have h : f_X7_digest_b114 (f_X7_digest_l114 n114) y1 t0 = some (r, t9) := h
      refine j_iload_n C (q := 1) dX7_digest_114 rfl rfl ?_
      refine j_aload_n C (q := 0) dX7_digest_115 rfl rfl ?_
      refine fg_X7_7 C (i := 225) kA_225 dX7_digest_116 ?_
      refine j_bipush C (v := 45) dX7_digest_119 (by decide) ?_
      obtain ⟨g48, h⟩ := gd_some h
      refine j_iald C (i := 226) kA_226 (inA g48 aA_226) dX7_digest_121 ?_
      refine j_icmp_ge C (tgt := 156) dX7_digest_122 (by decide) (fun c49 => ?_) (fun c49 => ?_)
      · have h := ite_t h c49
        refine j_aload_n C (q := 0) dX7_digest_156 rfl rfl ?_
        refine j_aload_n C (q := 0) dX7_digest_157 rfl rfl ?_
        refine j_bipush C (v := 20) dX7_digest_158 (by decide) ?_
        obtain ⟨x50, t51, e52, h⟩ := bd_some h
        refine j_callV_i C (i := 225) (As := [.int 20]) (rest := [.ref (B + 225)]) (c_X7_nextAlike l G B dy 20 _ e52) (shp7 G B _ kA_225) (kd_lt kA_225 (by decide)) rfl tw_1060 tw_1062 tp_66 ti_7 tw_1063 hd_X7_nextAlike ⟨Nat.le_of_ble_eq_true rfl, Nat.le_of_ble_eq_true rfl⟩ ⟨Nat.le_of_ble_eq_true rfl, Nat.le_of_ble_eq_true rfl⟩ rfl rfl (Nat.le_of_ble_eq_true rfl) dX7_digest_160 ?_
        refine j_i2l C dX7_digest_163 ?_
        obtain ⟨t54, e55, h⟩ := bv_some h
        refine j_callV_v C (i := 225) (As := [.long ((x50 : Int32).toInt64)]) (rest := []) (c_X7_digestOne l G B dy ((x50 : Int32).toInt64) _ e55) (shp7 G B _ kA_225) (kd_lt kA_225 (by decide)) rfl tw_1096 tw_1098 tp_70 ti_7 tw_1099 hd_X7_digestOne ⟨Nat.le_of_ble_eq_true rfl, Nat.le_of_ble_eq_true rfl⟩ ⟨Nat.le_of_ble_eq_true rfl, Nat.le_of_ble_eq_true rfl⟩ rfl rfl (Nat.le_of_ble_eq_true rfl) dX7_digest_164 ?_
        refine j_aload_n C (q := 0) dX7_digest_167 rfl rfl ?_
        refine j_aload_n C (q := 0) dX7_digest_168 rfl rfl ?_
        refine j_iconst C (v := 1) dX7_digest_169 (by decide) ?_
        refine j_bipush C (v := 100) dX7_digest_170 (by decide) ?_
        obtain ⟨x56, t57, e58, h⟩ := bd_some h
        refine j_callV_i C (i := 225) (As := [.int 1, .int 100]) (rest := [.ref (B + 225)]) (c_X7_bestSlip l G B dy 1 100 _ e58) (shp7 G B _ kA_225) (kd_lt kA_225 (by decide)) rfl tw_1068 tw_1070 tp_67 ti_7 tw_1071 hd_X7_bestSlip ⟨Nat.le_of_ble_eq_true rfl, Nat.le_of_ble_eq_true rfl⟩ ⟨Nat.le_of_ble_eq_true rfl, Nat.le_of_ble_eq_true rfl⟩ rfl rfl (Nat.le_of_ble_eq_true rfl) dX7_digest_172 ?_
        refine j_i2l C dX7_digest_175 ?_
        obtain ⟨t60, e61, h⟩ := bv_some h
        refine j_callV_v C (i := 225) (As := [.long ((x56 : Int32).toInt64)]) (rest := []) (c_X7_digestOne l G B dy ((x56 : Int32).toInt64) _ e61) (shp7 G B _ kA_225) (kd_lt kA_225 (by decide)) rfl tw_1096 tw_1098 tp_70 ti_7 tw_1099 hd_X7_digestOne ⟨Nat.le_of_ble_eq_true rfl, Nat.le_of_ble_eq_true rfl⟩ ⟨Nat.le_of_ble_eq_true rfl, Nat.le_of_ble_eq_true rfl⟩ rfl rfl (Nat.le_of_ble_eq_true rfl) dX7_digest_176 ?_
        refine j_aload_n C (q := 0) dX7_digest_179 rfl rfl ?_
        refine fg_X7_7 C (i := 225) kA_225 dX7_digest_180 ?_
        refine j_iconst C (v := 0) dX7_digest_183 (by decide) ?_
        obtain ⟨g62, h⟩ := gd_some h
        refine j_iald C (i := 226) kA_226 (inA g62 aA_226) dX7_digest_184 ?_
        refine j_if_le C (tgt := 218) dX7_digest_185 (by decide) (fun c63 => ?_) (fun c63 => ?_)
        · have h := ite_t h c63
          refine j_sub [0] rfl ?_
          exact J218 _ h
        · have h := ite_f h c63
          refine j_aload_n C (q := 0) dX7_digest_188 rfl rfl ?_
          refine j_aload_n C (q := 0) dX7_digest_189 rfl rfl ?_
          refine j_iconst C (v := 0) dX7_digest_190 (by decide) ?_
          refine j_bipush C (v := 50) dX7_digest_191 (by decide) ?_
          refine j_bipush C (v := 20) dX7_digest_193 (by decide) ?_
          refine j_iconst C (v := 0) dX7_digest_195 (by decide) ?_
          obtain ⟨x64, t65, e66, h⟩ := bd_some h
          refine j_callV_i C (i := 225) (As := [.int 0, .int 50, .int 20, .int 0]) (rest := [.ref (B + 225)]) (c_X7_outermost l G B dy 0 50 20 0 _ e66) (shp7 G B _ kA_225) (kd_lt kA_225 (by decide)) rfl tw_1052 tw_1054 tp_65 ti_7 tw_1055 hd_X7_outermost ⟨Nat.le_of_ble_eq_true rfl, Nat.le_of_ble_eq_true rfl⟩ ⟨Nat.le_of_ble_eq_true rfl, Nat.le_of_ble_eq_true rfl⟩ rfl rfl (Nat.le_of_ble_eq_true rfl) dX7_digest_196 ?_
          refine j_i2l C dX7_digest_199 ?_
          obtain ⟨t68, e69, h⟩ := bv_some h
          refine j_callV_v C (i := 225) (As := [.long ((x64 : Int32).toInt64)]) (rest := []) (c_X7_digestOne l G B dy ((x64 : Int32).toInt64) _ e69) (shp7 G B _ kA_225) (kd_lt kA_225 (by decide)) rfl tw_1096 tw_1098 tp_70 ti_7 tw_1099 hd_X7_digestOne ⟨Nat.le_of_ble_eq_true rfl, Nat.le_of_ble_eq_true rfl⟩ ⟨Nat.le_of_ble_eq_true rfl, Nat.le_of_ble_eq_true rfl⟩ rfl rfl (Nat.le_of_ble_eq_true rfl) dX7_digest_200 ?_
          refine j_aload_n C (q := 0) dX7_digest_203 rfl rfl ?_
          refine j_aload_n C (q := 0) dX7_digest_204 rfl rfl ?_
          refine j_iconst C (v := 0) dX7_digest_205 (by decide) ?_
          refine j_bipush C (v := 50) dX7_digest_206 (by decide) ?_
          refine j_bipush C (v := 20) dX7_digest_208 (by decide) ?_
          refine j_iconst C (v := 1) dX7_digest_210 (by decide) ?_
          obtain ⟨x70, t71, e72, h⟩ := bd_some h
          refine j_callV_i C (i := 225) (As := [.int 0, .int 50, .int 20, .int 1]) (rest := [.ref (B + 225)]) (c_X7_outermost l G B dy 0 50 20 1 _ e72) (shp7 G B _ kA_225) (kd_lt kA_225 (by decide)) rfl tw_1052 tw_1054 tp_65 ti_7 tw_1055 hd_X7_outermost ⟨Nat.le_of_ble_eq_true rfl, Nat.le_of_ble_eq_true rfl⟩ ⟨Nat.le_of_ble_eq_true rfl, Nat.le_of_ble_eq_true rfl⟩ rfl rfl (Nat.le_of_ble_eq_true rfl) dX7_digest_211 ?_
          refine j_i2l C dX7_digest_214 ?_
          obtain ⟨t74, e75, h⟩ := bv_some h
          refine j_callV_v C (i := 225) (As := [.long ((x70 : Int32).toInt64)]) (rest := []) (c_X7_digestOne l G B dy ((x70 : Int32).toInt64) _ e75) (shp7 G B _ kA_225) (kd_lt kA_225 (by decide)) rfl tw_1096 tw_1098 tp_70 ti_7 tw_1099 hd_X7_digestOne ⟨Nat.le_of_ble_eq_true rfl, Nat.le_of_ble_eq_true rfl⟩ ⟨Nat.le_of_ble_eq_true rfl, Nat.le_of_ble_eq_true rfl⟩ rfl rfl (Nat.le_of_ble_eq_true rfl) dX7_digest_215 ?_
          refine j_sub [0] rfl ?_
          exact J218 _ h
      · have h := ite_f h c49
        refine j_iconst C (v := 0) dX7_digest_125 (by decide) ?_
        refine j_istore_n C [(0, .ref (B + 225)), (1, .int y1), (2, .int 0)] [1, 2, 0] dX7_digest_126 rfl (by decide) rfl ?_
        exact J127 FU y1 0 _ h
  have J61 : ∀ (n61 : Nat) (y1 : Int32) (t0 : St), f_X7_digest_l61 n61 y1 t0 = some (r, t9) → WW G B p l e (RM 7 174 0 0) s m args below meth c 0 0 (MQ below (PostL G B r t9) args s 0 0 (Ab B)) 3 61 [(0, .ref (B + 225)), (1, .int y1)] [] t0 := by
    intro n61
    induction n61 with
    | zero => intro y1 t0 h; exact (no_some h).elim
    | succ n61 ih61 =>
      try clear h
      have J81 : ∀ (n81 : Nat) (y1 : Int32) (y2 : Int32) (t0 : St), f_X7_digest_l81 (f_X7_digest_l61 n61) n81 y1 y2 t0 = some (r, t9) → WW G B p l e (RM 7 174 0 0) s m args below meth c 0 0 (MQ below (PostL G B r t9) args s 0 0 (Ab B)) 3 81 [(0, .ref (B + 225)), (1, .int y1), (2, .int y2)] [] t0 := by
        intro n81
        induction n81 with
        | zero => intro y1 y2 t0 h; exact (no_some h).elim
        | succ n81 ih81 =>
          try clear h
          intro y1 y2 t0 h
          have h : f_X7_digest_b81 (f_X7_digest_l61 n61) (f_X7_digest_l81 (f_X7_digest_l61 n61) n81) y1 y2 t0 = some (r, t9) := h
          refine j_iload_n C (q := 2) dX7_digest_81 rfl rfl ?_
          refine j_iconst C (v := 3) dX7_digest_82 (by decide) ?_
          refine j_icmp_ge C (tgt := 106) dX7_digest_83 (by decide) (fun c76 => ?_) (fun c76 => ?_)
          · have h := ite_t h c76
            obtain ⟨x77, ex77⟩ : ∃ y : Int32, y = (y1 + 1) := ⟨_, rfl⟩
            have h := lt_at h ex77
            refine j_iinc C (q := 1) [(0, .ref (B + 225)), (1, .int x77), (2, .int y2)] [1, 0, 2] dX7_digest_106 rfl (by rw [ex77]; rfl) (by decide) rfl ?_
            refine j_goto C (tgt := 61) dX7_digest_109 (by decide) ?_
            refine j_sub [0, 1] rfl ?_
            exact ih61 x77 _ h
          · have h := ite_f h c76
            refine j_aload_n C (q := 0) dX7_digest_86 rfl rfl ?_
            refine j_aload_n C (q := 0) dX7_digest_87 rfl rfl ?_
            refine j_iload_n C (q := 1) dX7_digest_88 rfl rfl ?_
            obtain ⟨x78, t79, e80, h⟩ := bd_some h
            refine j_callS_i C (i := 0) (As := [.int y1]) (rest := [.ref (B + 225), .ref (B + 225)]) (c_X7_someYear l G B dy y1 _ e80) tw_1105 tw_1106 ti_7 tw_1107 ⟨rfl, hd_X7_someYear⟩ ⟨Nat.le_of_ble_eq_true rfl, Nat.le_of_ble_eq_true rfl⟩ ⟨Nat.le_of_ble_eq_true rfl, Nat.le_of_ble_eq_true rfl⟩ rfl rfl (Nat.le_of_ble_eq_true rfl) dX7_digest_89 ?_
            refine j_iload_n C (q := 2) dX7_digest_92 rfl rfl ?_
            obtain ⟨x81, t82, e83, h⟩ := bd_some h
            refine j_callV_i C (i := 225) (As := [.int x78, .int y2]) (rest := [.ref (B + 225)]) (c_X7_movedBy l G B dy x78 y2 _ e83) (shp7 G B _ kA_225) (kd_lt kA_225 (by decide)) rfl tw_1079 tw_1081 tp_68 ti_7 tw_1082 hd_X7_movedBy ⟨Nat.le_of_ble_eq_true rfl, Nat.le_of_ble_eq_true rfl⟩ ⟨Nat.le_of_ble_eq_true rfl, Nat.le_of_ble_eq_true rfl⟩ rfl rfl (Nat.le_of_ble_eq_true rfl) dX7_digest_93 ?_
            refine j_i2l C dX7_digest_96 ?_
            obtain ⟨t85, e86, h⟩ := bv_some h
            refine j_callV_v C (i := 225) (As := [.long ((x81 : Int32).toInt64)]) (rest := []) (c_X7_digestOne l G B dy ((x81 : Int32).toInt64) _ e86) (shp7 G B _ kA_225) (kd_lt kA_225 (by decide)) rfl tw_1096 tw_1098 tp_70 ti_7 tw_1099 hd_X7_digestOne ⟨Nat.le_of_ble_eq_true rfl, Nat.le_of_ble_eq_true rfl⟩ ⟨Nat.le_of_ble_eq_true rfl, Nat.le_of_ble_eq_true rfl⟩ rfl rfl (Nat.le_of_ble_eq_true rfl) dX7_digest_97 ?_
            obtain ⟨x87, ex87⟩ : ∃ y : Int32, y = (y2 + 1) := ⟨_, rfl⟩
            have h := lt_at h ex87
            refine j_iinc C (q := 2) [(0, .ref (B + 225)), (1, .int y1), (2, .int x87)] [1, 2, 0] dX7_digest_100 rfl (by rw [ex87]; rfl) (by decide) rfl ?_
            refine j_goto C (tgt := 81) dX7_digest_103 (by decide) ?_
            exact ih81 y1 x87 _ h
      intro y1 t0 h
      have h : f_X7_digest_b61 (f_X7_digest_l61 n61) y1 t0 = some (r, t9) := h
      refine j_iload_n C (q := 1) dX7_digest_61 rfl rfl ?_
      refine j_iconst C (v := 3) dX7_digest_62 (by decide) ?_
      refine j_icmp_ge C (tgt := 112) dX7_digest_63 (by decide) (fun c88 => ?_) (fun c88 => ?_)
      · have h := ite_t h c88
        refine j_iconst C (v := 0) dX7_digest_112 (by decide) ?_
        refine j_istore_n C [(0, .ref (B + 225)), (1, .int 0)] [1, 0] dX7_digest_113 rfl (by decide) rfl ?_
        exact J114 FU 0 _ h
      · have h := ite_f h c88
        refine j_aload_n C (q := 0) dX7_digest_66 rfl rfl ?_
        refine j_aload_n C (q := 0) dX7_digest_67 rfl rfl ?_
        refine j_iload_n C (q := 1) dX7_digest_68 rfl rfl ?_
        obtain ⟨x89, t90, e91, h⟩ := bd_some h
        refine j_callS_i C (i := 0) (As := [.int y1]) (rest := [.ref (B + 225), .ref (B + 225)]) (c_X7_someYear l G B dy y1 _ e91) tw_1105 tw_1106 ti_7 tw_1107 ⟨rfl, hd_X7_someYear⟩ ⟨Nat.le_of_ble_eq_true rfl, Nat.le_of_ble_eq_true rfl⟩ ⟨Nat.le_of_ble_eq_true rfl, Nat.le_of_ble_eq_true rfl⟩ rfl rfl (Nat.le_of_ble_eq_true rfl) dX7_digest_69 ?_
        obtain ⟨x92, t93, e94, h⟩ := bd_some h
        refine j_callV_i C (i := 225) (As := [.int x89]) (rest := [.ref (B + 225)]) (c_X7_quarrelsOf l G B dy x89 _ e94) (shp7 G B _ kA_225) (kd_lt kA_225 (by decide)) rfl tw_1016 tw_1018 tp_59 ti_7 tw_1019 hd_X7_quarrelsOf ⟨Nat.le_of_ble_eq_true rfl, Nat.le_of_ble_eq_true rfl⟩ ⟨Nat.le_of_ble_eq_true rfl, Nat.le_of_ble_eq_true rfl⟩ rfl rfl (Nat.le_of_ble_eq_true rfl) dX7_digest_72 ?_
        refine j_i2l C dX7_digest_75 ?_
        obtain ⟨t96, e97, h⟩ := bv_some h
        refine j_callV_v C (i := 225) (As := [.long ((x92 : Int32).toInt64)]) (rest := []) (c_X7_digestOne l G B dy ((x92 : Int32).toInt64) _ e97) (shp7 G B _ kA_225) (kd_lt kA_225 (by decide)) rfl tw_1096 tw_1098 tp_70 ti_7 tw_1099 hd_X7_digestOne ⟨Nat.le_of_ble_eq_true rfl, Nat.le_of_ble_eq_true rfl⟩ ⟨Nat.le_of_ble_eq_true rfl, Nat.le_of_ble_eq_true rfl⟩ rfl rfl (Nat.le_of_ble_eq_true rfl) dX7_digest_76 ?_
        refine j_iconst C (v := 0) dX7_digest_79 (by decide) ?_
        refine j_istore_n C [(0, .ref (B + 225)), (1, .int y1), (2, .int 0)] [1, 2, 0] dX7_digest_80 rfl (by decide) rfl ?_
        exact J81 FU y1 0 _ h
  have J38 : ∀ (n38 : Nat) (y1 : Int32) (t0 : St), f_X7_digest_l38 n38 y1 t0 = some (r, t9) → WW G B p l e (RM 7 174 0 0) s m args below meth c 0 0 (MQ below (PostL G B r t9) args s 0 0 (Ab B)) 3 38 [(0, .ref (B + 225)), (1, .int y1)] [] t0 := by
    intro n38
    induction n38 with
    | zero => intro y1 t0 h; exact (no_some h).elim
    | succ n38 ih38 =>
      try clear h
      intro y1 t0 h
      have h : f_X7_digest_b38 (f_X7_digest_l38 n38) y1 t0 = some (r, t9) := h
      refine j_iload_n C (q := 1) dX7_digest_38 rfl rfl ?_
      refine j_aload_n C (q := 0) dX7_digest_39 rfl rfl ?_
      refine fg_X7_7 C (i := 225) kA_225 dX7_digest_40 ?_
      refine j_iconst C (v := 0) dX7_digest_43 (by decide) ?_
      obtain ⟨g98, h⟩ := gd_some h
      refine j_iald C (i := 226) kA_226 (inA g98 aA_226) dX7_digest_44 ?_
      refine j_icmp_ge C (tgt := 59) dX7_digest_45 (by decide) (fun c99 => ?_) (fun c99 => ?_)
      · have h := ite_t h c99
        refine j_iconst C (v := 0) dX7_digest_59 (by decide) ?_
        refine j_istore_n C [(0, .ref (B + 225)), (1, .int 0)] [1, 0] dX7_digest_60 rfl (by decide) rfl ?_
        exact J61 FU 0 _ h
      · have h := ite_f h c99
        refine j_aload_n C (q := 0) dX7_digest_48 rfl rfl ?_
        refine j_iload_n C (q := 1) dX7_digest_49 rfl rfl ?_
        obtain ⟨t101, e102, h⟩ := bv_some h
        refine j_callV_v C (i := 225) (As := [.int y1]) (rest := []) (c_X7_digestFeast l G B dy y1 _ e102) (shp7 G B _ kA_225) (kd_lt kA_225 (by decide)) rfl tw_1101 tw_1103 tp_71 ti_7 tw_1104 hd_X7_digestFeast ⟨Nat.le_of_ble_eq_true rfl, Nat.le_of_ble_eq_true rfl⟩ ⟨Nat.le_of_ble_eq_true rfl, Nat.le_of_ble_eq_true rfl⟩ rfl rfl (Nat.le_of_ble_eq_true rfl) dX7_digest_50 ?_
        obtain ⟨x103, ex103⟩ : ∃ y : Int32, y = (y1 + 1) := ⟨_, rfl⟩
        have h := lt_at h ex103
        refine j_iinc C (q := 1) [(0, .ref (B + 225)), (1, .int x103)] [1, 0] dX7_digest_53 rfl (by rw [ex103]; rfl) (by decide) rfl ?_
        refine j_goto C (tgt := 38) dX7_digest_56 (by decide) ?_
        exact ih38 x103 _ h
  have J14 : ∀ (n14 : Nat) (y1 : Int32) (t0 : St), f_X7_digest_l14 n14 y1 t0 = some (r, t9) → WW G B p l e (RM 7 174 0 0) s m args below meth c 0 0 (MQ below (PostL G B r t9) args s 0 0 (Ab B)) 3 14 [(0, .ref (B + 225)), (1, .int y1)] [] t0 := by
    intro n14
    induction n14 with
    | zero => intro y1 t0 h; exact (no_some h).elim
    | succ n14 ih14 =>
      try clear h
      intro y1 t0 h
      have h : f_X7_digest_b14 (f_X7_digest_l14 n14) y1 t0 = some (r, t9) := h
      refine j_iload_n C (q := 1) dX7_digest_14 rfl rfl ?_
      refine j_bipush C (v := 8) dX7_digest_15 (by decide) ?_
      refine j_icmp_ge C (tgt := 36) dX7_digest_17 (by decide) (fun c104 => ?_) (fun c104 => ?_)
      · have h := ite_t h c104
        refine j_iconst C (v := 0) dX7_digest_36 (by decide) ?_
        refine j_istore_n C [(0, .ref (B + 225)), (1, .int 0)] [1, 0] dX7_digest_37 rfl (by decide) rfl ?_
        exact J38 FU 0 _ h
      · have h := ite_f h c104
        refine j_aload_n C (q := 0) dX7_digest_20 rfl rfl ?_
        refine j_aload_n C (q := 0) dX7_digest_21 rfl rfl ?_
        refine j_iload_n C (q := 1) dX7_digest_22 rfl rfl ?_
        obtain ⟨x105, t106, e107, h⟩ := bd_some h
        refine j_callV_i C (i := 225) (As := [.int y1]) (rest := [.ref (B + 225)]) (c_X7_counted l G B dy y1 _ e107) (shp7 G B _ kA_225) (kd_lt kA_225 (by decide)) rfl tw_1040 tw_1042 tp_63 ti_7 tw_1043 hd_X7_counted ⟨Nat.le_of_ble_eq_true rfl, Nat.le_of_ble_eq_true rfl⟩ ⟨Nat.le_of_ble_eq_true rfl, Nat.le_of_ble_eq_true rfl⟩ rfl rfl (Nat.le_of_ble_eq_true rfl) dX7_digest_23 ?_
        refine j_i2l C dX7_digest_26 ?_
        obtain ⟨t109, e110, h⟩ := bv_some h
        refine j_callV_v C (i := 225) (As := [.long ((x105 : Int32).toInt64)]) (rest := []) (c_X7_digestOne l G B dy ((x105 : Int32).toInt64) _ e110) (shp7 G B _ kA_225) (kd_lt kA_225 (by decide)) rfl tw_1096 tw_1098 tp_70 ti_7 tw_1099 hd_X7_digestOne ⟨Nat.le_of_ble_eq_true rfl, Nat.le_of_ble_eq_true rfl⟩ ⟨Nat.le_of_ble_eq_true rfl, Nat.le_of_ble_eq_true rfl⟩ rfl rfl (Nat.le_of_ble_eq_true rfl) dX7_digest_27 ?_
        obtain ⟨x111, ex111⟩ : ∃ y : Int32, y = (y1 + 1) := ⟨_, rfl⟩
        have h := lt_at h ex111
        refine j_iinc C (q := 1) [(0, .ref (B + 225)), (1, .int x111)] [1, 0] dX7_digest_30 rfl (by rw [ex111]; rfl) (by decide) rfl ?_
        refine j_goto C (tgt := 14) dX7_digest_33 (by decide) ?_
        exact ih14 x111 _ h
  refine j_aload_n C (q := 0) dX7_digest_0 rfl rfl ?_
  refine j_iconst C (v := 0) dX7_digest_1 (by decide) ?_
  refine fp_X7_38 C (i := 225) kA_225 dX7_digest_2 ?_
  refine j_tops (fun t112 et112 => ?_)
  have h := lt_at h et112
  refine j_aload_n C (q := 0) dX7_digest_5 rfl rfl ?_
  refine j_ldc2 C tw_1095 dX7_digest_6 ?_
  refine fp_X7_203 C (i := 225) kA_225 dX7_digest_9 ?_
  refine j_tops (fun t113 et113 => ?_)
  have h := lt_at h et113
  refine j_iconst C (v := 0) dX7_digest_12 (by decide) ?_
  refine j_istore_n C [(0, .ref (B + 225)), (1, .int 0)] [1, 0] dX7_digest_13 rfl (by decide) rfl ?_
  exact J14 FU 0 _ h
