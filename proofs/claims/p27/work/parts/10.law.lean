set_option maxRecDepth 100000 in
set_option maxHeartbeats 4000000 in
theorem c_L_low (l : Launch) (G : GG) (B dy : Nat) (x0 : Int32) (x1 : Int32) (t0 : St) {r : Int32} {t9 : St} (h : f_L_low x0 x1 t0 = some (r, t9)) : Ct l G B dy yL_low cL_low 2 (some .int) 0 0 0 0 [.int x0, .int x1] t0 (PostI G B r t9) := by
  refine Ct_of (by decide +kernel) [(0, .int x0), (1, .int x1)] (Nat.le_of_ble_eq_true rfl) rfl ?_
  intro p e s m args below meth c C hr hlk
  refine j_iload_n C (q := 0) dL_low_0 rfl rfl ?_
  refine j_ldci C tw_410 dL_low_1 ?_
  refine j_iand C dL_low_3 ?_
  refine j_iload_n C (q := 1) dL_low_4 rfl rfl ?_
  obtain ⟨g21, h⟩ := gd_some h
  refine j_irem C dL_low_5 (nz_ne g21) ?_
  exact j_iret C hr hlk h ⟨Nat.le_of_ble_eq_true rfl, Nat.le_of_ble_eq_true rfl⟩ dL_low_6
set_option maxRecDepth 100000 in
set_option maxHeartbeats 4000000 in
theorem c_L_number (l : Launch) (G : GG) (B dy : Nat) (x1 : Int32) (t0 : St) {t9 : St} (h : f_L_number x1 t0 = some t9) : Ct l G B dy yL_number cL_number 2 none 2 43 0 0 [.ref (B + 0), .int x1] t0 (PostV G B t9) := by
  refine Ct_of (by decide +kernel) [(0, .ref (B + 0)), (1, .int x1)] (Nat.le_of_ble_eq_true rfl) rfl ?_
  intro p e s m args below meth c C hr hlk
  have J39 : ∀ (t0 : St), f_L_number_b39 x1 t0 = some t9 → WW G B p l e (RM 2 43 0 0) s m args below meth c 0 0 (MQ below (PostV G B t9) args s 0 0 (Ab B)) 2 39 [(0, .ref (B + 0)), (1, .int x1)] [] t0 := by
    intro t0 h
    refine j_aload_n C (q := 0) dL_number_39 rfl rfl ?_
    refine j_bipush C (v := 48) dL_number_40 (by decide) ?_
    refine j_iload_n C (q := 1) dL_number_42 rfl rfl ?_
    refine j_bipush C (v := 10) dL_number_43 (by decide) ?_
    refine j_irem C dL_number_45 (by decide) ?_
    refine j_iadd C dL_number_46 ?_
    obtain ⟨x21, t22, e23, h⟩ := bd_some h
    refine j_callV_i C (i := 0) (As := [.int (48 + (rm x1 10))]) (rest := []) (c_X6_append l G B dy (48 + (rm x1 10)) _ e23) (shp6 G B _ kA_0) (kd_lt kA_0 (by decide)) rfl tw_417 tw_418 tw_419 ti_6 tw_420 hd_X6_append ⟨Nat.le_of_ble_eq_true rfl, Nat.le_of_ble_eq_true rfl⟩ ⟨Nat.le_of_ble_eq_true rfl, Nat.le_of_ble_eq_true rfl⟩ rfl rfl (Nat.le_of_ble_eq_true rfl) dL_number_47 ?_
    refine j_pop C dL_number_50 rfl ?_
    exact j_vret C hr hlk h ⟨Nat.le_of_ble_eq_true rfl, Nat.le_of_ble_eq_true rfl⟩ dL_number_51
  have J18 : ∀ (t0 : St), f_L_number_b18 x1 t0 = some t9 → WW G B p l e (RM 2 43 0 0) s m args below meth c 0 0 (MQ below (PostV G B t9) args s 0 0 (Ab B)) 2 18 [(0, .ref (B + 0)), (1, .int x1)] [] t0 := by
    intro t0 h
    refine j_iload_n C (q := 1) dL_number_18 rfl rfl ?_
    refine j_bipush C (v := 9) dL_number_19 (by decide) ?_
    refine j_icmp_le C (tgt := 39) dL_number_21 (by decide) (fun c24 => ?_) (fun c24 => ?_)
    · have h := ite_t h c24
      exact J39 _ h
    · have h := ite_f h c24
      refine j_aload_n C (q := 0) dL_number_24 rfl rfl ?_
      refine j_bipush C (v := 48) dL_number_25 (by decide) ?_
      refine j_iload_n C (q := 1) dL_number_27 rfl rfl ?_
      refine j_bipush C (v := 10) dL_number_28 (by decide) ?_
      refine j_idiv C dL_number_30 (by decide) ?_
      refine j_bipush C (v := 10) dL_number_31 (by decide) ?_
      refine j_irem C dL_number_33 (by decide) ?_
      refine j_iadd C dL_number_34 ?_
      obtain ⟨x25, t26, e27, h⟩ := bd_some h
      refine j_callV_i C (i := 0) (As := [.int (48 + (rm (x1 / 10) 10))]) (rest := []) (c_X6_append l G B dy (48 + (rm (x1 / 10) 10)) _ e27) (shp6 G B _ kA_0) (kd_lt kA_0 (by decide)) rfl tw_417 tw_418 tw_419 ti_6 tw_420 hd_X6_append ⟨Nat.le_of_ble_eq_true rfl, Nat.le_of_ble_eq_true rfl⟩ ⟨Nat.le_of_ble_eq_true rfl, Nat.le_of_ble_eq_true rfl⟩ rfl rfl (Nat.le_of_ble_eq_true rfl) dL_number_35 ?_
      refine j_pop C dL_number_38 rfl ?_
      exact J39 _ h
  refine j_iload_n C (q := 1) dL_number_0 rfl rfl ?_
  refine j_bipush C (v := 99) dL_number_1 (by decide) ?_
  refine j_icmp_le C (tgt := 18) dL_number_3 (by decide) (fun c28 => ?_) (fun c28 => ?_)
  · have h := ite_t h c28
    exact J18 _ h
  · have h := ite_f h c28
    refine j_aload_n C (q := 0) dL_number_6 rfl rfl ?_
    refine j_bipush C (v := 48) dL_number_7 (by decide) ?_
    refine j_iload_n C (q := 1) dL_number_9 rfl rfl ?_
    refine j_bipush C (v := 100) dL_number_10 (by decide) ?_
    refine j_idiv C dL_number_12 (by decide) ?_
    refine j_iadd C dL_number_13 ?_
    obtain ⟨x29, t30, e31, h⟩ := bd_some h
    refine j_callV_i C (i := 0) (As := [.int (48 + (x1 / 100))]) (rest := []) (c_X6_append l G B dy (48 + (x1 / 100)) _ e31) (shp6 G B _ kA_0) (kd_lt kA_0 (by decide)) rfl tw_417 tw_418 tw_419 ti_6 tw_420 hd_X6_append ⟨Nat.le_of_ble_eq_true rfl, Nat.le_of_ble_eq_true rfl⟩ ⟨Nat.le_of_ble_eq_true rfl, Nat.le_of_ble_eq_true rfl⟩ rfl rfl (Nat.le_of_ble_eq_true rfl) dL_number_14 ?_
    refine j_pop C dL_number_17 rfl ?_
    exact J18 _ h
set_option maxRecDepth 100000 in
set_option maxHeartbeats 4000000 in
theorem c_L_typed (l : Launch) (G : GG) (B dy : Nat) (x1 : Int32) (x2 : Int32) (t0 : St) {t9 : St} (h : f_L_typed x1 x2 t0 = some t9) : Ct l G B dy yL_typed cL_typed 4 none 3 64 0 0 [.ref (B + 0), .int x1, .int x2] t0 (PostV G B t9) := by
  refine Ct_of (by decide +kernel) [(0, .ref (B + 0)), (1, .int x1), (2, .int x2)] (Nat.le_of_ble_eq_true rfl) rfl ?_
  intro p e s m args below meth c C hr hlk
  have J172 : ∀ (t0 : St), f_L_typed_b172 x1 t0 = some t9 → WW G B p l e (RM 3 64 0 0) s m args below meth c 0 0 (MQ below (PostV G B t9) args s 0 0 (Ab B)) 4 172 [(0, .ref (B + 0)), (1, .int x1)] [] t0 := by
    intro t0 h
    refine j_iload_n C (q := 1) dL_typed_172 rfl rfl ?_
    refine j_bipush C (v := 16) dL_typed_173 (by decide) ?_
    refine j_ishr C dL_typed_175 ?_
    refine j_iconst C (v := 1) dL_typed_176 (by decide) ?_
    refine j_iand C dL_typed_177 ?_
    refine j_iconst C (v := 1) dL_typed_178 (by decide) ?_
    refine j_icmp_ne C (tgt := 201) dL_typed_179 (by decide) (fun c21 => ?_) (fun c21 => ?_)
    · have h := ite_t h c21
      refine j_aload_n C (q := 0) dL_typed_182 rfl rfl ?_
      refine j_bipush C (v := 94) dL_typed_183 (by decide) ?_
      obtain ⟨x22, t23, e24, h⟩ := bd_some h
      refine j_callV_i C (i := 0) (As := [.int 94]) (rest := []) (c_X6_append l G B dy 94 _ e24) (shp6 G B _ kA_0) (kd_lt kA_0 (by decide)) rfl tw_417 tw_418 tw_419 ti_6 tw_420 hd_X6_append ⟨Nat.le_of_ble_eq_true rfl, Nat.le_of_ble_eq_true rfl⟩ ⟨Nat.le_of_ble_eq_true rfl, Nat.le_of_ble_eq_true rfl⟩ rfl rfl (Nat.le_of_ble_eq_true rfl) dL_typed_185 ?_
      refine j_pop C dL_typed_188 rfl ?_
      refine j_aload_n C (q := 0) dL_typed_189 rfl rfl ?_
      refine j_iload_n C (q := 1) dL_typed_190 rfl rfl ?_
      refine j_bipush C (v := 17) dL_typed_191 (by decide) ?_
      refine j_ishr C dL_typed_193 ?_
      refine j_iconst C (v := 4) dL_typed_194 (by decide) ?_
      obtain ⟨x25, t26, e27, h⟩ := bd_some h
      refine j_callS_i C (i := 0) (As := [.int (x1 >>> ((17 : Int32) &&& 31)), .int 4]) (rest := [.ref (B + 0)]) (c_L_low l G B dy (x1 >>> ((17 : Int32) &&& 31)) 4 _ e27) tw_407 tw_408 ti_L tw_409 ⟨rfl, hd_L_low⟩ ⟨Nat.le_of_ble_eq_true rfl, Nat.le_of_ble_eq_true rfl⟩ ⟨Nat.le_of_ble_eq_true rfl, Nat.le_of_ble_eq_true rfl⟩ rfl rfl (Nat.le_of_ble_eq_true rfl) dL_typed_195 ?_
      obtain ⟨t29, e30, h⟩ := bv_some h
      refine j_callS_v C (i := 0) (As := [.ref (B + 0), .int x25]) (rest := []) (c_L_number l G B dy x25 _ e30) tw_438 tw_439 ti_L tw_440 ⟨rfl, hd_L_number⟩ ⟨Nat.le_of_ble_eq_true rfl, Nat.le_of_ble_eq_true rfl⟩ ⟨Nat.le_of_ble_eq_true rfl, Nat.le_of_ble_eq_true rfl⟩ rfl rfl (Nat.le_of_ble_eq_true rfl) dL_typed_198 ?_
      exact j_vret C hr hlk h ⟨Nat.le_of_ble_eq_true rfl, Nat.le_of_ble_eq_true rfl⟩ dL_typed_201
    · have h := ite_f h c21
      exact j_vret C hr hlk h ⟨Nat.le_of_ble_eq_true rfl, Nat.le_of_ble_eq_true rfl⟩ dL_typed_201
  have J152 : ∀ (t0 : St), f_L_typed_b152 x1 t0 = some t9 → WW G B p l e (RM 3 64 0 0) s m args below meth c 0 0 (MQ below (PostV G B t9) args s 0 0 (Ab B)) 4 152 [(0, .ref (B + 0)), (1, .int x1)] [] t0 := by
    intro t0 h
    refine j_aload_n C (q := 0) dL_typed_152 rfl rfl ?_
    refine j_bipush C (v := 44) dL_typed_153 (by decide) ?_
    obtain ⟨x31, t32, e33, h⟩ := bd_some h
    refine j_callV_i C (i := 0) (As := [.int 44]) (rest := []) (c_X6_append l G B dy 44 _ e33) (shp6 G B _ kA_0) (kd_lt kA_0 (by decide)) rfl tw_417 tw_418 tw_419 ti_6 tw_420 hd_X6_append ⟨Nat.le_of_ble_eq_true rfl, Nat.le_of_ble_eq_true rfl⟩ ⟨Nat.le_of_ble_eq_true rfl, Nat.le_of_ble_eq_true rfl⟩ rfl rfl (Nat.le_of_ble_eq_true rfl) dL_typed_155 ?_
    refine j_pop C dL_typed_158 rfl ?_
    refine j_aload_n C (q := 0) dL_typed_159 rfl rfl ?_
    refine j_iload_n C (q := 1) dL_typed_160 rfl rfl ?_
    refine j_bipush C (v := 13) dL_typed_161 (by decide) ?_
    refine j_ishr C dL_typed_163 ?_
    refine j_bipush C (v := 7) dL_typed_164 (by decide) ?_
    obtain ⟨x34, t35, e36, h⟩ := bd_some h
    refine j_callS_i C (i := 0) (As := [.int (x1 >>> ((13 : Int32) &&& 31)), .int 7]) (rest := [.ref (B + 0)]) (c_L_low l G B dy (x1 >>> ((13 : Int32) &&& 31)) 7 _ e36) tw_407 tw_408 ti_L tw_409 ⟨rfl, hd_L_low⟩ ⟨Nat.le_of_ble_eq_true rfl, Nat.le_of_ble_eq_true rfl⟩ ⟨Nat.le_of_ble_eq_true rfl, Nat.le_of_ble_eq_true rfl⟩ rfl rfl (Nat.le_of_ble_eq_true rfl) dL_typed_166 ?_
    obtain ⟨t38, e39, h⟩ := bv_some h
    refine j_callS_v C (i := 0) (As := [.ref (B + 0), .int x34]) (rest := []) (c_L_number l G B dy x34 _ e39) tw_438 tw_439 ti_L tw_440 ⟨rfl, hd_L_number⟩ ⟨Nat.le_of_ble_eq_true rfl, Nat.le_of_ble_eq_true rfl⟩ ⟨Nat.le_of_ble_eq_true rfl, Nat.le_of_ble_eq_true rfl⟩ rfl rfl (Nat.le_of_ble_eq_true rfl) dL_typed_169 ?_
    exact J172 _ h
  have J142 : ∀ (y3 : Int32) (t0 : St), f_L_typed_b142 x1 y3 t0 = some t9 → WW G B p l e (RM 3 64 0 0) s m args below meth c 0 0 (MQ below (PostV G B t9) args s 0 0 (Ab B)) 4 142 [(0, .ref (B + 0)), (1, .int x1), (3, .int y3)] [] t0 := by
    intro y3 t0 h
    refine j_iload_n C (q := 2) dL_typed_142 rfl rfl ?_
    refine j_iconst C (v := 1) dL_typed_143 (by decide) ?_
    refine j_icmp_eq C (tgt := 152) dL_typed_144 (by decide) (fun c40 => ?_) (fun c40 => ?_)
    · have h := ite_t h c40
      refine j_sub [0, 1] rfl ?_
      exact J152 _ h
    · have h := ite_f h c40
      refine j_iload_n C (q := 2) dL_typed_147 rfl rfl ?_
      refine j_iconst C (v := 2) dL_typed_148 (by decide) ?_
      refine j_icmp_ne C (tgt := 172) dL_typed_149 (by decide) (fun c41 => ?_) (fun c41 => ?_)
      · have h := ite_t h c41
        refine j_sub [0, 1] rfl ?_
        exact J152 _ h
      · have h := ite_f h c41
        refine j_sub [0, 1] rfl ?_
        exact J172 _ h
  have J139 : ∀ (y3 : Int32) (w0 : Int32) (t0 : St), f_L_typed_b139 x1 y3 w0 t0 = some t9 → WW G B p l e (RM 3 64 0 0) s m args below meth c 0 0 (MQ below (PostV G B t9) args s 0 0 (Ab B)) 4 139 [(0, .ref (B + 0)), (1, .int x1), (3, .int y3)] [.int w0, .ref (B + 0)] t0 := by
    intro y3 w0 t0 h
    obtain ⟨t43, e44, h⟩ := bv_some h
    refine j_callS_v C (i := 0) (As := [.ref (B + 0), .int w0]) (rest := []) (c_L_number l G B dy w0 _ e44) tw_438 tw_439 ti_L tw_440 ⟨rfl, hd_L_number⟩ ⟨Nat.le_of_ble_eq_true rfl, Nat.le_of_ble_eq_true rfl⟩ ⟨Nat.le_of_ble_eq_true rfl, Nat.le_of_ble_eq_true rfl⟩ rfl rfl (Nat.le_of_ble_eq_true rfl) dL_typed_139 ?_
    exact J142 y3 _ h
  have J87 : ∀ (y3 : Int32) (w0 : Int32) (t0 : St), f_L_typed_b87 x1 y3 w0 t0 = some t9 → WW G B p l e (RM 3 64 0 0) s m args below meth c 0 0 (MQ below (PostV G B t9) args s 0 0 (Ab B)) 4 87 [(0, .ref (B + 0)), (1, .int x1), (3, .int y3)] [.int w0, .ref (B + 0)] t0 := by
    intro y3 w0 t0 h
    obtain ⟨x45, t46, e47, h⟩ := bd_some h
    refine j_callV_i C (i := 0) (As := [.int w0]) (rest := []) (c_X6_append l G B dy w0 _ e47) (shp6 G B _ kA_0) (kd_lt kA_0 (by decide)) rfl tw_417 tw_418 tw_419 ti_6 tw_420 hd_X6_append ⟨Nat.le_of_ble_eq_true rfl, Nat.le_of_ble_eq_true rfl⟩ ⟨Nat.le_of_ble_eq_true rfl, Nat.le_of_ble_eq_true rfl⟩ rfl rfl (Nat.le_of_ble_eq_true rfl) dL_typed_87 ?_
    refine j_pop C dL_typed_90 rfl ?_
    refine j_aload_n C (q := 0) dL_typed_91 rfl rfl ?_
    refine j_iload_n C (q := 1) dL_typed_92 rfl rfl ?_
    refine j_bipush C (v := 8) dL_typed_93 (by decide) ?_
    refine j_ishr C dL_typed_95 ?_
    refine j_bipush C (v := 50) dL_typed_96 (by decide) ?_
    obtain ⟨x48, t49, e50, h⟩ := bd_some h
    refine j_callS_i C (i := 0) (As := [.int (x1 >>> ((8 : Int32) &&& 31)), .int 50]) (rest := [.ref (B + 0)]) (c_L_low l G B dy (x1 >>> ((8 : Int32) &&& 31)) 50 _ e50) tw_407 tw_408 ti_L tw_409 ⟨rfl, hd_L_low⟩ ⟨Nat.le_of_ble_eq_true rfl, Nat.le_of_ble_eq_true rfl⟩ ⟨Nat.le_of_ble_eq_true rfl, Nat.le_of_ble_eq_true rfl⟩ rfl rfl (Nat.le_of_ble_eq_true rfl) dL_typed_98 ?_
    obtain ⟨t52, e53, h⟩ := bv_some h
    refine j_callS_v C (i := 0) (As := [.ref (B + 0), .int x48]) (rest := []) (c_L_number l G B dy x48 _ e53) tw_438 tw_439 ti_L tw_440 ⟨rfl, hd_L_number⟩ ⟨Nat.le_of_ble_eq_true rfl, Nat.le_of_ble_eq_true rfl⟩ ⟨Nat.le_of_ble_eq_true rfl, Nat.le_of_ble_eq_true rfl⟩ rfl rfl (Nat.le_of_ble_eq_true rfl) dL_typed_101 ?_
    refine j_goto C (tgt := 142) dL_typed_104 (by decide) ?_
    exact J142 y3 _ h
  have J50 : ∀ (y3 : Int32) (w0 : Int32) (t0 : St), f_L_typed_b50 x1 x2 y3 w0 t0 = some t9 → WW G B p l e (RM 3 64 0 0) s m args below meth c 0 0 (MQ below (PostV G B t9) args s 0 0 (Ab B)) 4 50 [(0, .ref (B + 0)), (1, .int x1), (2, .int x2), (3, .int y3)] [.int w0, .ref (B + 0)] t0 := by
    intro y3 w0 t0 h
    obtain ⟨x54, t55, e56, h⟩ := bd_some h
    refine j_callV_i C (i := 0) (As := [.int w0]) (rest := []) (c_X6_append l G B dy w0 _ e56) (shp6 G B _ kA_0) (kd_lt kA_0 (by decide)) rfl tw_417 tw_418 tw_419 ti_6 tw_420 hd_X6_append ⟨Nat.le_of_ble_eq_true rfl, Nat.le_of_ble_eq_true rfl⟩ ⟨Nat.le_of_ble_eq_true rfl, Nat.le_of_ble_eq_true rfl⟩ rfl rfl (Nat.le_of_ble_eq_true rfl) dL_typed_50 ?_
    refine j_pop C dL_typed_53 rfl ?_
    refine j_iload_n C (q := 3) dL_typed_54 rfl rfl ?_
    refine j_iconst C (v := 3) dL_typed_55 (by decide) ?_
    refine j_icmp_ne C (tgt := 107) dL_typed_56 (by decide) (fun c57 => ?_) (fun c57 => ?_)
    · have h := ite_t h c57
      refine j_aload_n C (q := 0) dL_typed_59 rfl rfl ?_
      refine j_iload_n C (q := 1) dL_typed_60 rfl rfl ?_
      refine j_iconst C (v := 3) dL_typed_61 (by decide) ?_
      refine j_ishr C dL_typed_62 ?_
      refine j_iload_n C (q := 2) dL_typed_63 rfl rfl ?_
      obtain ⟨x65, t66, e67, h⟩ := bd_some h
      refine j_callS_i C (i := 0) (As := [.int (x1 >>> ((3 : Int32) &&& 31)), .int x2]) (rest := [.ref (B + 0)]) (c_L_low l G B dy (x1 >>> ((3 : Int32) &&& 31)) x2 _ e67) tw_407 tw_408 ti_L tw_409 ⟨rfl, hd_L_low⟩ ⟨Nat.le_of_ble_eq_true rfl, Nat.le_of_ble_eq_true rfl⟩ ⟨Nat.le_of_ble_eq_true rfl, Nat.le_of_ble_eq_true rfl⟩ rfl rfl (Nat.le_of_ble_eq_true rfl) dL_typed_64 ?_
      obtain ⟨t69, e70, h⟩ := bv_some h
      refine j_callS_v C (i := 0) (As := [.ref (B + 0), .int x65]) (rest := []) (c_L_number l G B dy x65 _ e70) tw_438 tw_439 ti_L tw_440 ⟨rfl, hd_L_number⟩ ⟨Nat.le_of_ble_eq_true rfl, Nat.le_of_ble_eq_true rfl⟩ ⟨Nat.le_of_ble_eq_true rfl, Nat.le_of_ble_eq_true rfl⟩ rfl rfl (Nat.le_of_ble_eq_true rfl) dL_typed_67 ?_
      refine j_aload_n C (q := 0) dL_typed_70 rfl rfl ?_
      refine j_iload_n C (q := 1) dL_typed_71 rfl rfl ?_
      refine j_bipush C (v := 7) dL_typed_72 (by decide) ?_
      refine j_ishr C dL_typed_74 ?_
      refine j_iconst C (v := 1) dL_typed_75 (by decide) ?_
      refine j_iand C dL_typed_76 ?_
      refine j_if_ne C (tgt := 85) dL_typed_77 (by decide) (fun c71 => ?_) (fun c71 => ?_)
      · have h := ite_t h c71
        refine j_bipush C (v := 43) dL_typed_80 (by decide) ?_
        refine j_goto C (tgt := 87) dL_typed_82 (by decide) ?_
        refine j_sub [0, 1, 3] rfl ?_
        exact J87 y3 43 _ h
      · have h := ite_f h c71
        refine j_bipush C (v := 45) dL_typed_85 (by decide) ?_
        refine j_sub [0, 1, 3] rfl ?_
        exact J87 y3 45 _ h
    · have h := ite_f h c57
      refine j_aload_n C (q := 0) dL_typed_107 rfl rfl ?_
      refine j_iload_n C (q := 1) dL_typed_108 rfl rfl ?_
      refine j_iconst C (v := 3) dL_typed_109 (by decide) ?_
      refine j_ishr C dL_typed_110 ?_
      refine j_iconst C (v := 1) dL_typed_111 (by decide) ?_
      refine j_iand C dL_typed_112 ?_
      refine j_if_ne C (tgt := 128) dL_typed_113 (by decide) (fun c58 => ?_) (fun c58 => ?_)
      · have h := ite_t h c58
        refine j_iload_n C (q := 1) dL_typed_116 rfl rfl ?_
        refine j_iconst C (v := 4) dL_typed_117 (by decide) ?_
        refine j_ishr C dL_typed_118 ?_
        refine j_sipush C (v := 366) dL_typed_119 (by decide) ?_
        obtain ⟨x62, t63, e64, h⟩ := bd_some h
        refine j_callS_i C (i := 0) (As := [.int (x1 >>> ((4 : Int32) &&& 31)), .int 366]) (rest := [.ref (B + 0)]) (c_L_low l G B dy (x1 >>> ((4 : Int32) &&& 31)) 366 _ e64) tw_407 tw_408 ti_L tw_409 ⟨rfl, hd_L_low⟩ ⟨Nat.le_of_ble_eq_true rfl, Nat.le_of_ble_eq_true rfl⟩ ⟨Nat.le_of_ble_eq_true rfl, Nat.le_of_ble_eq_true rfl⟩ rfl rfl (Nat.le_of_ble_eq_true rfl) dL_typed_122 ?_
        refine j_goto C (tgt := 139) dL_typed_125 (by decide) ?_
        refine j_sub [0, 1, 3] rfl ?_
        exact J139 y3 x62 _ h
      · have h := ite_f h c58
        refine j_bipush C (v := 90) dL_typed_128 (by decide) ?_
        refine j_iload_n C (q := 1) dL_typed_130 rfl rfl ?_
        refine j_iconst C (v := 4) dL_typed_131 (by decide) ?_
        refine j_ishr C dL_typed_132 ?_
        refine j_bipush C (v := 20) dL_typed_133 (by decide) ?_
        obtain ⟨x59, t60, e61, h⟩ := bd_some h
        refine j_callS_i C (i := 0) (As := [.int (x1 >>> ((4 : Int32) &&& 31)), .int 20]) (rest := [.int 90, .ref (B + 0)]) (c_L_low l G B dy (x1 >>> ((4 : Int32) &&& 31)) 20 _ e61) tw_407 tw_408 ti_L tw_409 ⟨rfl, hd_L_low⟩ ⟨Nat.le_of_ble_eq_true rfl, Nat.le_of_ble_eq_true rfl⟩ ⟨Nat.le_of_ble_eq_true rfl, Nat.le_of_ble_eq_true rfl⟩ rfl rfl (Nat.le_of_ble_eq_true rfl) dL_typed_135 ?_
        refine j_iadd C dL_typed_138 ?_
        refine j_sub [0, 1, 3] rfl ?_
        exact J139 y3 (90 + x59) _ h
  have J17 : ∀ (w0 : Int32) (t0 : St), f_L_typed_b17 x1 x2 w0 t0 = some t9 → WW G B p l e (RM 3 64 0 0) s m args below meth c 0 0 (MQ below (PostV G B t9) args s 0 0 (Ab B)) 4 17 [(0, .ref (B + 0)), (1, .int x1), (2, .int x2)] [.int w0] t0 := by
    intro w0 t0 h
    refine j_istore_n C [(0, .ref (B + 0)), (1, .int x1), (2, .int x2), (3, .int w0)] [1, 2, 3, 0] dL_typed_17 rfl (by decide) rfl ?_
    refine j_aload_n C (q := 0) dL_typed_18 rfl rfl ?_
    refine j_iload_n C (q := 3) dL_typed_19 rfl rfl ?_
    refine j_if_ne C (tgt := 28) dL_typed_20 (by decide) (fun c72 => ?_) (fun c72 => ?_)
    · have h := ite_t h c72
      refine j_bipush C (v := 100) dL_typed_23 (by decide) ?_
      refine j_goto C (tgt := 50) dL_typed_25 (by decide) ?_
      exact J50 w0 100 _ h
    · have h := ite_f h c72
      refine j_iload_n C (q := 3) dL_typed_28 rfl rfl ?_
      refine j_iconst C (v := 1) dL_typed_29 (by decide) ?_
      refine j_icmp_ne C (tgt := 38) dL_typed_30 (by decide) (fun c73 => ?_) (fun c73 => ?_)
      · have h := ite_t h c73
        refine j_bipush C (v := 119) dL_typed_33 (by decide) ?_
        refine j_goto C (tgt := 50) dL_typed_35 (by decide) ?_
        exact J50 w0 119 _ h
      · have h := ite_f h c73
        refine j_iload_n C (q := 3) dL_typed_38 rfl rfl ?_
        refine j_iconst C (v := 2) dL_typed_39 (by decide) ?_
        refine j_icmp_ne C (tgt := 48) dL_typed_40 (by decide) (fun c74 => ?_) (fun c74 => ?_)
        · have h := ite_t h c74
          refine j_bipush C (v := 109) dL_typed_43 (by decide) ?_
          refine j_goto C (tgt := 50) dL_typed_45 (by decide) ?_
          exact J50 w0 109 _ h
        · have h := ite_f h c74
          refine j_bipush C (v := 97) dL_typed_48 (by decide) ?_
          exact J50 w0 97 _ h
  refine j_iload_n C (q := 2) dL_typed_0 rfl rfl ?_
  refine j_if_ne C (tgt := 12) dL_typed_1 (by decide) (fun c75 => ?_) (fun c75 => ?_)
  · have h := ite_t h c75
    refine j_iload_n C (q := 1) dL_typed_4 rfl rfl ?_
    refine j_iconst C (v := 3) dL_typed_5 (by decide) ?_
    obtain ⟨x79, t80, e81, h⟩ := bd_some h
    refine j_callS_i C (i := 0) (As := [.int x1, .int 3]) (rest := []) (c_L_low l G B dy x1 3 _ e81) tw_407 tw_408 ti_L tw_409 ⟨rfl, hd_L_low⟩ ⟨Nat.le_of_ble_eq_true rfl, Nat.le_of_ble_eq_true rfl⟩ ⟨Nat.le_of_ble_eq_true rfl, Nat.le_of_ble_eq_true rfl⟩ rfl rfl (Nat.le_of_ble_eq_true rfl) dL_typed_6 ?_
    refine j_goto C (tgt := 17) dL_typed_9 (by decide) ?_
    exact J17 x79 _ h
  · have h := ite_f h c75
    refine j_iload_n C (q := 1) dL_typed_12 rfl rfl ?_
    refine j_iconst C (v := 4) dL_typed_13 (by decide) ?_
    obtain ⟨x76, t77, e78, h⟩ := bd_some h
    refine j_callS_i C (i := 0) (As := [.int x1, .int 4]) (rest := []) (c_L_low l G B dy x1 4 _ e78) tw_407 tw_408 ti_L tw_409 ⟨rfl, hd_L_low⟩ ⟨Nat.le_of_ble_eq_true rfl, Nat.le_of_ble_eq_true rfl⟩ ⟨Nat.le_of_ble_eq_true rfl, Nat.le_of_ble_eq_true rfl⟩ rfl rfl (Nat.le_of_ble_eq_true rfl) dL_typed_14 ?_
    exact J17 x76 _ h
set_option maxRecDepth 100000 in
set_option maxHeartbeats 4000000 in
theorem c_L_does (l : Launch) (G : GG) (B dy : Nat) (x1 : Int32) (t0 : St) {r : Int32} {t9 : St} (h : f_L_does x1 t0 = some (r, t9)) : Ct l G B dy yL_does cL_does 3 (some .int) 7 163 0 0 [.ref (B + 0), .int x1] t0 (PostI G B r t9) := by
  refine Ct_of (by decide +kernel) [(0, .ref (B + 0)), (1, .int x1)] (Nat.le_of_ble_eq_true rfl) rfl ?_
  intro p e s m args below meth c C hr hlk
  refine j_aload_n C (q := 0) dL_does_0 rfl rfl ?_
  refine j_iconst C (v := 0) dL_does_1 (by decide) ?_
  obtain ⟨x21, t22, e23, h⟩ := bd_some h
  refine j_callV_i C (i := 0) (As := [.int 0]) (rest := []) (c_X6_count l G B dy 0 _ e23) (shp6 G B _ kA_0) (kd_lt kA_0 (by decide)) rfl tw_392 tw_393 tw_394 ti_6 tw_395 hd_X6_count ⟨Nat.le_of_ble_eq_true rfl, Nat.le_of_ble_eq_true rfl⟩ ⟨Nat.le_of_ble_eq_true rfl, Nat.le_of_ble_eq_true rfl⟩ rfl rfl (Nat.le_of_ble_eq_true rfl) dL_does_2 ?_
  refine j_istore_n C [(0, .ref (B + 0)), (1, .int x1), (2, .int x21)] [1, 2, 0] dL_does_5 rfl (by decide) rfl ?_
  refine j_iload_n C (q := 1) dL_does_6 rfl rfl ?_
  refine j_bipush C (v := 15) dL_does_7 (by decide) ?_
  refine j_iand C dL_does_9 ?_
  by_cases c24 : (x1 &&& 15) = 0
  · have h := ite_t h c24
    refine j_tableIn C (tgt := 84) dL_does_10 (by rw [c24]; decide) (by rw [c24]; decide) (by rw [c24]; rfl) (by decide) ?_
    refine j_aload_n C (q := 0) dL_does_84 rfl rfl ?_
    refine j_iload_n C (q := 1) dL_does_85 rfl rfl ?_
    refine j_iconst C (v := 4) dL_does_86 (by decide) ?_
    refine j_ishr C dL_does_87 ?_
    refine j_iload_n C (q := 2) dL_does_88 rfl rfl ?_
    obtain ⟨t26, e27, h⟩ := bv_some h
    refine j_callS_v C (i := 0) (As := [.ref (B + 0), .int (x1 >>> ((4 : Int32) &&& 31)), .int x21]) (rest := []) (c_L_typed l G B dy (x1 >>> ((4 : Int32) &&& 31)) x21 _ e27) tw_414 tw_415 ti_L tw_416 ⟨rfl, hd_L_typed⟩ ⟨Nat.le_of_ble_eq_true rfl, Nat.le_of_ble_eq_true rfl⟩ ⟨Nat.le_of_ble_eq_true rfl, Nat.le_of_ble_eq_true rfl⟩ rfl rfl (Nat.le_of_ble_eq_true rfl) dL_does_89 ?_
    refine j_aload_n C (q := 0) dL_does_92 rfl rfl ?_
    obtain ⟨x28, t29, e30, h⟩ := bd_some h
    refine j_callV_i C (i := 0) (As := []) (rest := []) (c_X6_proclaim l G B dy _ e30) (shp6 G B _ kA_0) (kd_lt kA_0 (by decide)) rfl tw_441 tw_442 tw_443 ti_6 tw_444 hd_X6_proclaim ⟨Nat.le_of_ble_eq_true rfl, Nat.le_of_ble_eq_true rfl⟩ ⟨Nat.le_of_ble_eq_true rfl, Nat.le_of_ble_eq_true rfl⟩ rfl rfl (Nat.le_of_ble_eq_true rfl) dL_does_93 ?_
    exact j_iret C hr hlk h ⟨Nat.le_of_ble_eq_true rfl, Nat.le_of_ble_eq_true rfl⟩ dL_does_96
  · have h := ite_f h c24
    by_cases c31 : (x1 &&& 15) = 1
    · have h := ite_t h c31
      refine j_tableIn C (tgt := 84) dL_does_10 (by rw [c31]; decide) (by rw [c31]; decide) (by rw [c31]; rfl) (by decide) ?_
      refine j_aload_n C (q := 0) dL_does_84 rfl rfl ?_
      refine j_iload_n C (q := 1) dL_does_85 rfl rfl ?_
      refine j_iconst C (v := 4) dL_does_86 (by decide) ?_
      refine j_ishr C dL_does_87 ?_
      refine j_iload_n C (q := 2) dL_does_88 rfl rfl ?_
      obtain ⟨t33, e34, h⟩ := bv_some h
      refine j_callS_v C (i := 0) (As := [.ref (B + 0), .int (x1 >>> ((4 : Int32) &&& 31)), .int x21]) (rest := []) (c_L_typed l G B dy (x1 >>> ((4 : Int32) &&& 31)) x21 _ e34) tw_414 tw_415 ti_L tw_416 ⟨rfl, hd_L_typed⟩ ⟨Nat.le_of_ble_eq_true rfl, Nat.le_of_ble_eq_true rfl⟩ ⟨Nat.le_of_ble_eq_true rfl, Nat.le_of_ble_eq_true rfl⟩ rfl rfl (Nat.le_of_ble_eq_true rfl) dL_does_89 ?_
      refine j_aload_n C (q := 0) dL_does_92 rfl rfl ?_
      obtain ⟨x35, t36, e37, h⟩ := bd_some h
      refine j_callV_i C (i := 0) (As := []) (rest := []) (c_X6_proclaim l G B dy _ e37) (shp6 G B _ kA_0) (kd_lt kA_0 (by decide)) rfl tw_441 tw_442 tw_443 ti_6 tw_444 hd_X6_proclaim ⟨Nat.le_of_ble_eq_true rfl, Nat.le_of_ble_eq_true rfl⟩ ⟨Nat.le_of_ble_eq_true rfl, Nat.le_of_ble_eq_true rfl⟩ rfl rfl (Nat.le_of_ble_eq_true rfl) dL_does_93 ?_
      exact j_iret C hr hlk h ⟨Nat.le_of_ble_eq_true rfl, Nat.le_of_ble_eq_true rfl⟩ dL_does_96
    · have h := ite_f h c31
      by_cases c38 : (x1 &&& 15) = 2
      · have h := ite_t h c38
        refine j_tableIn C (tgt := 84) dL_does_10 (by rw [c38]; decide) (by rw [c38]; decide) (by rw [c38]; rfl) (by decide) ?_
        refine j_aload_n C (q := 0) dL_does_84 rfl rfl ?_
        refine j_iload_n C (q := 1) dL_does_85 rfl rfl ?_
        refine j_iconst C (v := 4) dL_does_86 (by decide) ?_
        refine j_ishr C dL_does_87 ?_
        refine j_iload_n C (q := 2) dL_does_88 rfl rfl ?_
        obtain ⟨t40, e41, h⟩ := bv_some h
        refine j_callS_v C (i := 0) (As := [.ref (B + 0), .int (x1 >>> ((4 : Int32) &&& 31)), .int x21]) (rest := []) (c_L_typed l G B dy (x1 >>> ((4 : Int32) &&& 31)) x21 _ e41) tw_414 tw_415 ti_L tw_416 ⟨rfl, hd_L_typed⟩ ⟨Nat.le_of_ble_eq_true rfl, Nat.le_of_ble_eq_true rfl⟩ ⟨Nat.le_of_ble_eq_true rfl, Nat.le_of_ble_eq_true rfl⟩ rfl rfl (Nat.le_of_ble_eq_true rfl) dL_does_89 ?_
        refine j_aload_n C (q := 0) dL_does_92 rfl rfl ?_
        obtain ⟨x42, t43, e44, h⟩ := bd_some h
        refine j_callV_i C (i := 0) (As := []) (rest := []) (c_X6_proclaim l G B dy _ e44) (shp6 G B _ kA_0) (kd_lt kA_0 (by decide)) rfl tw_441 tw_442 tw_443 ti_6 tw_444 hd_X6_proclaim ⟨Nat.le_of_ble_eq_true rfl, Nat.le_of_ble_eq_true rfl⟩ ⟨Nat.le_of_ble_eq_true rfl, Nat.le_of_ble_eq_true rfl⟩ rfl rfl (Nat.le_of_ble_eq_true rfl) dL_does_93 ?_
        exact j_iret C hr hlk h ⟨Nat.le_of_ble_eq_true rfl, Nat.le_of_ble_eq_true rfl⟩ dL_does_96
      · have h := ite_f h c38
        by_cases c45 : (x1 &&& 15) = 3
        · have h := ite_t h c45
          refine j_tableIn C (tgt := 84) dL_does_10 (by rw [c45]; decide) (by rw [c45]; decide) (by rw [c45]; rfl) (by decide) ?_
          refine j_aload_n C (q := 0) dL_does_84 rfl rfl ?_
          refine j_iload_n C (q := 1) dL_does_85 rfl rfl ?_
          refine j_iconst C (v := 4) dL_does_86 (by decide) ?_
          refine j_ishr C dL_does_87 ?_
          refine j_iload_n C (q := 2) dL_does_88 rfl rfl ?_
          obtain ⟨t47, e48, h⟩ := bv_some h
          refine j_callS_v C (i := 0) (As := [.ref (B + 0), .int (x1 >>> ((4 : Int32) &&& 31)), .int x21]) (rest := []) (c_L_typed l G B dy (x1 >>> ((4 : Int32) &&& 31)) x21 _ e48) tw_414 tw_415 ti_L tw_416 ⟨rfl, hd_L_typed⟩ ⟨Nat.le_of_ble_eq_true rfl, Nat.le_of_ble_eq_true rfl⟩ ⟨Nat.le_of_ble_eq_true rfl, Nat.le_of_ble_eq_true rfl⟩ rfl rfl (Nat.le_of_ble_eq_true rfl) dL_does_89 ?_
          refine j_aload_n C (q := 0) dL_does_92 rfl rfl ?_
          obtain ⟨x49, t50, e51, h⟩ := bd_some h
          refine j_callV_i C (i := 0) (As := []) (rest := []) (c_X6_proclaim l G B dy _ e51) (shp6 G B _ kA_0) (kd_lt kA_0 (by decide)) rfl tw_441 tw_442 tw_443 ti_6 tw_444 hd_X6_proclaim ⟨Nat.le_of_ble_eq_true rfl, Nat.le_of_ble_eq_true rfl⟩ ⟨Nat.le_of_ble_eq_true rfl, Nat.le_of_ble_eq_true rfl⟩ rfl rfl (Nat.le_of_ble_eq_true rfl) dL_does_93 ?_
          exact j_iret C hr hlk h ⟨Nat.le_of_ble_eq_true rfl, Nat.le_of_ble_eq_true rfl⟩ dL_does_96
        · have h := ite_f h c45
          by_cases c52 : (x1 &&& 15) = 4
          · have h := ite_t h c52
            refine j_tableIn C (tgt := 84) dL_does_10 (by rw [c52]; decide) (by rw [c52]; decide) (by rw [c52]; rfl) (by decide) ?_
            refine j_aload_n C (q := 0) dL_does_84 rfl rfl ?_
            refine j_iload_n C (q := 1) dL_does_85 rfl rfl ?_
            refine j_iconst C (v := 4) dL_does_86 (by decide) ?_
            refine j_ishr C dL_does_87 ?_
            refine j_iload_n C (q := 2) dL_does_88 rfl rfl ?_
            obtain ⟨t54, e55, h⟩ := bv_some h
            refine j_callS_v C (i := 0) (As := [.ref (B + 0), .int (x1 >>> ((4 : Int32) &&& 31)), .int x21]) (rest := []) (c_L_typed l G B dy (x1 >>> ((4 : Int32) &&& 31)) x21 _ e55) tw_414 tw_415 ti_L tw_416 ⟨rfl, hd_L_typed⟩ ⟨Nat.le_of_ble_eq_true rfl, Nat.le_of_ble_eq_true rfl⟩ ⟨Nat.le_of_ble_eq_true rfl, Nat.le_of_ble_eq_true rfl⟩ rfl rfl (Nat.le_of_ble_eq_true rfl) dL_does_89 ?_
            refine j_aload_n C (q := 0) dL_does_92 rfl rfl ?_
            obtain ⟨x56, t57, e58, h⟩ := bd_some h
            refine j_callV_i C (i := 0) (As := []) (rest := []) (c_X6_proclaim l G B dy _ e58) (shp6 G B _ kA_0) (kd_lt kA_0 (by decide)) rfl tw_441 tw_442 tw_443 ti_6 tw_444 hd_X6_proclaim ⟨Nat.le_of_ble_eq_true rfl, Nat.le_of_ble_eq_true rfl⟩ ⟨Nat.le_of_ble_eq_true rfl, Nat.le_of_ble_eq_true rfl⟩ rfl rfl (Nat.le_of_ble_eq_true rfl) dL_does_93 ?_
            exact j_iret C hr hlk h ⟨Nat.le_of_ble_eq_true rfl, Nat.le_of_ble_eq_true rfl⟩ dL_does_96
          · have h := ite_f h c52
            by_cases c59 : (x1 &&& 15) = 5
            · have h := ite_t h c59
              refine j_tableIn C (tgt := 97) dL_does_10 (by rw [c59]; decide) (by rw [c59]; decide) (by rw [c59]; rfl) (by decide) ?_
              refine j_iload_n C (q := 1) dL_does_97 rfl rfl ?_
              refine j_iconst C (v := 4) dL_does_98 (by decide) ?_
              refine j_ishr C dL_does_99 ?_
              refine j_iconst C (v := 3) dL_does_100 (by decide) ?_
              refine j_iand C dL_does_101 ?_
              refine j_if_ne C (tgt := 116) dL_does_102 (by decide) (fun c60 => ?_) (fun c60 => ?_)
              · have h := ite_t h c60
                refine j_iload_n C (q := 2) dL_does_105 rfl rfl ?_
                refine j_if_le C (tgt := 116) dL_does_106 (by decide) (fun c61 => ?_) (fun c61 => ?_)
                · have h := ite_t h c61
                  refine j_iconst C (v := 0) dL_does_116 (by decide) ?_
                  exact j_iret C hr hlk h ⟨Nat.le_of_ble_eq_true rfl, Nat.le_of_ble_eq_true rfl⟩ dL_does_117
                · have h := ite_f h c61
                  refine j_aload_n C (q := 0) dL_does_109 rfl rfl ?_
                  obtain ⟨x62, t63, e64, h⟩ := bd_some h
                  refine j_callV_i C (i := 0) (As := []) (rest := []) (c_X6_forget l G B dy _ e64) (shp6 G B _ kA_0) (kd_lt kA_0 (by decide)) rfl tw_540 tw_541 tw_542 ti_6 tw_543 hd_X6_forget ⟨Nat.le_of_ble_eq_true rfl, Nat.le_of_ble_eq_true rfl⟩ ⟨Nat.le_of_ble_eq_true rfl, Nat.le_of_ble_eq_true rfl⟩ rfl rfl (Nat.le_of_ble_eq_true rfl) dL_does_110 ?_
                  refine j_goto C (tgt := 117) dL_does_113 (by decide) ?_
                  exact j_iret C hr hlk h ⟨Nat.le_of_ble_eq_true rfl, Nat.le_of_ble_eq_true rfl⟩ dL_does_117
              · have h := ite_f h c60
                refine j_iconst C (v := 0) dL_does_116 (by decide) ?_
                exact j_iret C hr hlk h ⟨Nat.le_of_ble_eq_true rfl, Nat.le_of_ble_eq_true rfl⟩ dL_does_117
            · have h := ite_f h c59
              by_cases c65 : (x1 &&& 15) = 6
              · have h := ite_t h c65
                refine j_tableIn C (tgt := 118) dL_does_10 (by rw [c65]; decide) (by rw [c65]; decide) (by rw [c65]; rfl) (by decide) ?_
                refine j_iload_n C (q := 2) dL_does_118 rfl rfl ?_
                refine j_if_le C (tgt := 145) dL_does_119 (by decide) (fun c66 => ?_) (fun c66 => ?_)
                · have h := ite_t h c66
                  refine j_iconst C (v := 0) dL_does_145 (by decide) ?_
                  exact j_iret C hr hlk h ⟨Nat.le_of_ble_eq_true rfl, Nat.le_of_ble_eq_true rfl⟩ dL_does_146
                · have h := ite_f h c66
                  refine j_aload_n C (q := 0) dL_does_122 rfl rfl ?_
                  refine j_iload_n C (q := 1) dL_does_123 rfl rfl ?_
                  refine j_iconst C (v := 4) dL_does_124 (by decide) ?_
                  refine j_ishr C dL_does_125 ?_
                  refine j_iload_n C (q := 2) dL_does_126 rfl rfl ?_
                  obtain ⟨x67, t68, e69, h⟩ := bd_some h
                  refine j_callS_i C (i := 0) (As := [.int (x1 >>> ((4 : Int32) &&& 31)), .int x21]) (rest := [.ref (B + 0)]) (c_L_low l G B dy (x1 >>> ((4 : Int32) &&& 31)) x21 _ e69) tw_407 tw_408 ti_L tw_409 ⟨rfl, hd_L_low⟩ ⟨Nat.le_of_ble_eq_true rfl, Nat.le_of_ble_eq_true rfl⟩ ⟨Nat.le_of_ble_eq_true rfl, Nat.le_of_ble_eq_true rfl⟩ rfl rfl (Nat.le_of_ble_eq_true rfl) dL_does_127 ?_
                  refine j_iload_n C (q := 1) dL_does_130 rfl rfl ?_
                  refine j_bipush C (v := 8) dL_does_131 (by decide) ?_
                  refine j_ishr C dL_does_133 ?_
                  refine j_bipush C (v := 10) dL_does_134 (by decide) ?_
                  obtain ⟨x70, t71, e72, h⟩ := bd_some h
                  refine j_callS_i C (i := 0) (As := [.int (x1 >>> ((8 : Int32) &&& 31)), .int 10]) (rest := [.int x67, .ref (B + 0)]) (c_L_low l G B dy (x1 >>> ((8 : Int32) &&& 31)) 10 _ e72) tw_407 tw_408 ti_L tw_409 ⟨rfl, hd_L_low⟩ ⟨Nat.le_of_ble_eq_true rfl, Nat.le_of_ble_eq_true rfl⟩ ⟨Nat.le_of_ble_eq_true rfl, Nat.le_of_ble_eq_true rfl⟩ rfl rfl (Nat.le_of_ble_eq_true rfl) dL_does_136 ?_
                  obtain ⟨x73, t74, e75, h⟩ := bd_some h
                  refine j_callV_i C (i := 0) (As := [.int x67, .int x70]) (rest := []) (c_X6_rank l G B dy x67 x70 _ e75) (shp6 G B _ kA_0) (kd_lt kA_0 (by decide)) rfl tw_545 tw_546 tw_547 ti_6 tw_548 hd_X6_rank ⟨Nat.le_of_ble_eq_true rfl, Nat.le_of_ble_eq_true rfl⟩ ⟨Nat.le_of_ble_eq_true rfl, Nat.le_of_ble_eq_true rfl⟩ rfl rfl (Nat.le_of_ble_eq_true rfl) dL_does_139 ?_
                  refine j_goto C (tgt := 146) dL_does_142 (by decide) ?_
                  exact j_iret C hr hlk h ⟨Nat.le_of_ble_eq_true rfl, Nat.le_of_ble_eq_true rfl⟩ dL_does_146
              · have h := ite_f h c65
                by_cases c76 : (x1 &&& 15) = 7
                · have h := ite_t h c76
                  refine j_tableIn C (tgt := 118) dL_does_10 (by rw [c76]; decide) (by rw [c76]; decide) (by rw [c76]; rfl) (by decide) ?_
                  refine j_iload_n C (q := 2) dL_does_118 rfl rfl ?_
                  refine j_if_le C (tgt := 145) dL_does_119 (by decide) (fun c77 => ?_) (fun c77 => ?_)
                  · have h := ite_t h c77
                    refine j_iconst C (v := 0) dL_does_145 (by decide) ?_
                    exact j_iret C hr hlk h ⟨Nat.le_of_ble_eq_true rfl, Nat.le_of_ble_eq_true rfl⟩ dL_does_146
                  · have h := ite_f h c77
                    refine j_aload_n C (q := 0) dL_does_122 rfl rfl ?_
                    refine j_iload_n C (q := 1) dL_does_123 rfl rfl ?_
                    refine j_iconst C (v := 4) dL_does_124 (by decide) ?_
                    refine j_ishr C dL_does_125 ?_
                    refine j_iload_n C (q := 2) dL_does_126 rfl rfl ?_
                    obtain ⟨x78, t79, e80, h⟩ := bd_some h
                    refine j_callS_i C (i := 0) (As := [.int (x1 >>> ((4 : Int32) &&& 31)), .int x21]) (rest := [.ref (B + 0)]) (c_L_low l G B dy (x1 >>> ((4 : Int32) &&& 31)) x21 _ e80) tw_407 tw_408 ti_L tw_409 ⟨rfl, hd_L_low⟩ ⟨Nat.le_of_ble_eq_true rfl, Nat.le_of_ble_eq_true rfl⟩ ⟨Nat.le_of_ble_eq_true rfl, Nat.le_of_ble_eq_true rfl⟩ rfl rfl (Nat.le_of_ble_eq_true rfl) dL_does_127 ?_
                    refine j_iload_n C (q := 1) dL_does_130 rfl rfl ?_
                    refine j_bipush C (v := 8) dL_does_131 (by decide) ?_
                    refine j_ishr C dL_does_133 ?_
                    refine j_bipush C (v := 10) dL_does_134 (by decide) ?_
                    obtain ⟨x81, t82, e83, h⟩ := bd_some h
                    refine j_callS_i C (i := 0) (As := [.int (x1 >>> ((8 : Int32) &&& 31)), .int 10]) (rest := [.int x78, .ref (B + 0)]) (c_L_low l G B dy (x1 >>> ((8 : Int32) &&& 31)) 10 _ e83) tw_407 tw_408 ti_L tw_409 ⟨rfl, hd_L_low⟩ ⟨Nat.le_of_ble_eq_true rfl, Nat.le_of_ble_eq_true rfl⟩ ⟨Nat.le_of_ble_eq_true rfl, Nat.le_of_ble_eq_true rfl⟩ rfl rfl (Nat.le_of_ble_eq_true rfl) dL_does_136 ?_
                    obtain ⟨x84, t85, e86, h⟩ := bd_some h
                    refine j_callV_i C (i := 0) (As := [.int x78, .int x81]) (rest := []) (c_X6_rank l G B dy x78 x81 _ e86) (shp6 G B _ kA_0) (kd_lt kA_0 (by decide)) rfl tw_545 tw_546 tw_547 ti_6 tw_548 hd_X6_rank ⟨Nat.le_of_ble_eq_true rfl, Nat.le_of_ble_eq_true rfl⟩ ⟨Nat.le_of_ble_eq_true rfl, Nat.le_of_ble_eq_true rfl⟩ rfl rfl (Nat.le_of_ble_eq_true rfl) dL_does_139 ?_
                    refine j_goto C (tgt := 146) dL_does_142 (by decide) ?_
                    exact j_iret C hr hlk h ⟨Nat.le_of_ble_eq_true rfl, Nat.le_of_ble_eq_true rfl⟩ dL_does_146
                · have h := ite_f h c76
                  by_cases c87 : (x1 &&& 15) = 8
                  · have h := ite_t h c87
                    refine j_tableIn C (tgt := 147) dL_does_10 (by rw [c87]; decide) (by rw [c87]; decide) (by rw [c87]; rfl) (by decide) ?_
                    refine j_aload_n C (q := 0) dL_does_147 rfl rfl ?_
                    refine j_iload_n C (q := 1) dL_does_148 rfl rfl ?_
                    refine j_iconst C (v := 4) dL_does_149 (by decide) ?_
                    refine j_ishr C dL_does_150 ?_
                    refine j_iconst C (v := 3) dL_does_151 (by decide) ?_
                    obtain ⟨x88, t89, e90, h⟩ := bd_some h
                    refine j_callS_i C (i := 0) (As := [.int (x1 >>> ((4 : Int32) &&& 31)), .int 3]) (rest := [.ref (B + 0)]) (c_L_low l G B dy (x1 >>> ((4 : Int32) &&& 31)) 3 _ e90) tw_407 tw_408 ti_L tw_409 ⟨rfl, hd_L_low⟩ ⟨Nat.le_of_ble_eq_true rfl, Nat.le_of_ble_eq_true rfl⟩ ⟨Nat.le_of_ble_eq_true rfl, Nat.le_of_ble_eq_true rfl⟩ rfl rfl (Nat.le_of_ble_eq_true rfl) dL_does_152 ?_
                    refine j_iload_n C (q := 1) dL_does_155 rfl rfl ?_
                    refine j_bipush C (v := 6) dL_does_156 (by decide) ?_
                    refine j_ishr C dL_does_158 ?_
                    refine j_bipush C (v := 11) dL_does_159 (by decide) ?_
                    obtain ⟨x91, t92, e93, h⟩ := bd_some h
                    refine j_callS_i C (i := 0) (As := [.int (x1 >>> ((6 : Int32) &&& 31)), .int 11]) (rest := [.int x88, .ref (B + 0)]) (c_L_low l G B dy (x1 >>> ((6 : Int32) &&& 31)) 11 _ e93) tw_407 tw_408 ti_L tw_409 ⟨rfl, hd_L_low⟩ ⟨Nat.le_of_ble_eq_true rfl, Nat.le_of_ble_eq_true rfl⟩ ⟨Nat.le_of_ble_eq_true rfl, Nat.le_of_ble_eq_true rfl⟩ rfl rfl (Nat.le_of_ble_eq_true rfl) dL_does_161 ?_
                    refine j_iconst C (v := 5) dL_does_164 (by decide) ?_
                    refine j_isub C dL_does_165 ?_
                    obtain ⟨x94, t95, e96, h⟩ := bd_some h
                    refine j_callV_i C (i := 0) (As := [.int x88, .int (x91 - 5)]) (rest := []) (c_X6_teach l G B dy x88 (x91 - 5) _ e96) (shp6 G B _ kA_0) (kd_lt kA_0 (by decide)) rfl tw_554 tw_555 tw_556 ti_6 tw_557 hd_X6_teach ⟨Nat.le_of_ble_eq_true rfl, Nat.le_of_ble_eq_true rfl⟩ ⟨Nat.le_of_ble_eq_true rfl, Nat.le_of_ble_eq_true rfl⟩ rfl rfl (Nat.le_of_ble_eq_true rfl) dL_does_166 ?_
                    exact j_iret C hr hlk h ⟨Nat.le_of_ble_eq_true rfl, Nat.le_of_ble_eq_true rfl⟩ dL_does_169
                  · have h := ite_f h c87
                    by_cases c97 : (x1 &&& 15) = 9
                    · have h := ite_t h c97
                      refine j_tableIn C (tgt := 147) dL_does_10 (by rw [c97]; decide) (by rw [c97]; decide) (by rw [c97]; rfl) (by decide) ?_
                      refine j_aload_n C (q := 0) dL_does_147 rfl rfl ?_
                      refine j_iload_n C (q := 1) dL_does_148 rfl rfl ?_
                      refine j_iconst C (v := 4) dL_does_149 (by decide) ?_
                      refine j_ishr C dL_does_150 ?_
                      refine j_iconst C (v := 3) dL_does_151 (by decide) ?_
                      obtain ⟨x98, t99, e100, h⟩ := bd_some h
                      refine j_callS_i C (i := 0) (As := [.int (x1 >>> ((4 : Int32) &&& 31)), .int 3]) (rest := [.ref (B + 0)]) (c_L_low l G B dy (x1 >>> ((4 : Int32) &&& 31)) 3 _ e100) tw_407 tw_408 ti_L tw_409 ⟨rfl, hd_L_low⟩ ⟨Nat.le_of_ble_eq_true rfl, Nat.le_of_ble_eq_true rfl⟩ ⟨Nat.le_of_ble_eq_true rfl, Nat.le_of_ble_eq_true rfl⟩ rfl rfl (Nat.le_of_ble_eq_true rfl) dL_does_152 ?_
                      refine j_iload_n C (q := 1) dL_does_155 rfl rfl ?_
                      refine j_bipush C (v := 6) dL_does_156 (by decide) ?_
                      refine j_ishr C dL_does_158 ?_
                      refine j_bipush C (v := 11) dL_does_159 (by decide) ?_
                      obtain ⟨x101, t102, e103, h⟩ := bd_some h
                      refine j_callS_i C (i := 0) (As := [.int (x1 >>> ((6 : Int32) &&& 31)), .int 11]) (rest := [.int x98, .ref (B + 0)]) (c_L_low l G B dy (x1 >>> ((6 : Int32) &&& 31)) 11 _ e103) tw_407 tw_408 ti_L tw_409 ⟨rfl, hd_L_low⟩ ⟨Nat.le_of_ble_eq_true rfl, Nat.le_of_ble_eq_true rfl⟩ ⟨Nat.le_of_ble_eq_true rfl, Nat.le_of_ble_eq_true rfl⟩ rfl rfl (Nat.le_of_ble_eq_true rfl) dL_does_161 ?_
                      refine j_iconst C (v := 5) dL_does_164 (by decide) ?_
                      refine j_isub C dL_does_165 ?_
                      obtain ⟨x104, t105, e106, h⟩ := bd_some h
                      refine j_callV_i C (i := 0) (As := [.int x98, .int (x101 - 5)]) (rest := []) (c_X6_teach l G B dy x98 (x101 - 5) _ e106) (shp6 G B _ kA_0) (kd_lt kA_0 (by decide)) rfl tw_554 tw_555 tw_556 ti_6 tw_557 hd_X6_teach ⟨Nat.le_of_ble_eq_true rfl, Nat.le_of_ble_eq_true rfl⟩ ⟨Nat.le_of_ble_eq_true rfl, Nat.le_of_ble_eq_true rfl⟩ rfl rfl (Nat.le_of_ble_eq_true rfl) dL_does_166 ?_
                      exact j_iret C hr hlk h ⟨Nat.le_of_ble_eq_true rfl, Nat.le_of_ble_eq_true rfl⟩ dL_does_169
                    · have h := ite_f h c97
                      by_cases c107 : (x1 &&& 15) = 10
                      · have h := ite_t h c107
                        refine j_tableIn C (tgt := 170) dL_does_10 (by rw [c107]; decide) (by rw [c107]; decide) (by rw [c107]; rfl) (by decide) ?_
                        refine j_aload_n C (q := 0) dL_does_170 rfl rfl ?_
                        refine j_iload_n C (q := 1) dL_does_171 rfl rfl ?_
                        refine j_iconst C (v := 4) dL_does_172 (by decide) ?_
                        refine j_ishr C dL_does_173 ?_
                        refine j_sipush C (v := 1000) dL_does_174 (by decide) ?_
                        obtain ⟨x108, t109, e110, h⟩ := bd_some h
                        refine j_callS_i C (i := 0) (As := [.int (x1 >>> ((4 : Int32) &&& 31)), .int 1000]) (rest := [.ref (B + 0)]) (c_L_low l G B dy (x1 >>> ((4 : Int32) &&& 31)) 1000 _ e110) tw_407 tw_408 ti_L tw_409 ⟨rfl, hd_L_low⟩ ⟨Nat.le_of_ble_eq_true rfl, Nat.le_of_ble_eq_true rfl⟩ ⟨Nat.le_of_ble_eq_true rfl, Nat.le_of_ble_eq_true rfl⟩ rfl rfl (Nat.le_of_ble_eq_true rfl) dL_does_177 ?_
                        refine j_iload_n C (q := 1) dL_does_180 rfl rfl ?_
                        refine j_bipush C (v := 14) dL_does_181 (by decide) ?_
                        refine j_ishr C dL_does_183 ?_
                        refine j_iconst C (v := 3) dL_does_184 (by decide) ?_
                        obtain ⟨x111, t112, e113, h⟩ := bd_some h
                        refine j_callS_i C (i := 0) (As := [.int (x1 >>> ((14 : Int32) &&& 31)), .int 3]) (rest := [.int x108, .ref (B + 0)]) (c_L_low l G B dy (x1 >>> ((14 : Int32) &&& 31)) 3 _ e113) tw_407 tw_408 ti_L tw_409 ⟨rfl, hd_L_low⟩ ⟨Nat.le_of_ble_eq_true rfl, Nat.le_of_ble_eq_true rfl⟩ ⟨Nat.le_of_ble_eq_true rfl, Nat.le_of_ble_eq_true rfl⟩ rfl rfl (Nat.le_of_ble_eq_true rfl) dL_does_185 ?_
                        obtain ⟨x114, t115, e116, h⟩ := bd_some h
                        refine j_callV_i C (i := 0) (As := [.int x108, .int x111]) (rest := []) (c_X6_carve l G B dy x108 x111 _ e116) (shp6 G B _ kA_0) (kd_lt kA_0 (by decide)) rfl tw_561 tw_562 tw_563 ti_6 tw_564 hd_X6_carve ⟨Nat.le_of_ble_eq_true rfl, Nat.le_of_ble_eq_true rfl⟩ ⟨Nat.le_of_ble_eq_true rfl, Nat.le_of_ble_eq_true rfl⟩ rfl rfl (Nat.le_of_ble_eq_true rfl) dL_does_188 ?_
                        exact j_iret C hr hlk h ⟨Nat.le_of_ble_eq_true rfl, Nat.le_of_ble_eq_true rfl⟩ dL_does_191
                      · have h := ite_f h c107
                        by_cases c117 : (x1 &&& 15) = 11
                        · have h := ite_t h c117
                          refine j_tableIn C (tgt := 170) dL_does_10 (by rw [c117]; decide) (by rw [c117]; decide) (by rw [c117]; rfl) (by decide) ?_
                          refine j_aload_n C (q := 0) dL_does_170 rfl rfl ?_
                          refine j_iload_n C (q := 1) dL_does_171 rfl rfl ?_
                          refine j_iconst C (v := 4) dL_does_172 (by decide) ?_
                          refine j_ishr C dL_does_173 ?_
                          refine j_sipush C (v := 1000) dL_does_174 (by decide) ?_
                          obtain ⟨x118, t119, e120, h⟩ := bd_some h
                          refine j_callS_i C (i := 0) (As := [.int (x1 >>> ((4 : Int32) &&& 31)), .int 1000]) (rest := [.ref (B + 0)]) (c_L_low l G B dy (x1 >>> ((4 : Int32) &&& 31)) 1000 _ e120) tw_407 tw_408 ti_L tw_409 ⟨rfl, hd_L_low⟩ ⟨Nat.le_of_ble_eq_true rfl, Nat.le_of_ble_eq_true rfl⟩ ⟨Nat.le_of_ble_eq_true rfl, Nat.le_of_ble_eq_true rfl⟩ rfl rfl (Nat.le_of_ble_eq_true rfl) dL_does_177 ?_
                          refine j_iload_n C (q := 1) dL_does_180 rfl rfl ?_
                          refine j_bipush C (v := 14) dL_does_181 (by decide) ?_
                          refine j_ishr C dL_does_183 ?_
                          refine j_iconst C (v := 3) dL_does_184 (by decide) ?_
                          obtain ⟨x121, t122, e123, h⟩ := bd_some h
                          refine j_callS_i C (i := 0) (As := [.int (x1 >>> ((14 : Int32) &&& 31)), .int 3]) (rest := [.int x118, .ref (B + 0)]) (c_L_low l G B dy (x1 >>> ((14 : Int32) &&& 31)) 3 _ e123) tw_407 tw_408 ti_L tw_409 ⟨rfl, hd_L_low⟩ ⟨Nat.le_of_ble_eq_true rfl, Nat.le_of_ble_eq_true rfl⟩ ⟨Nat.le_of_ble_eq_true rfl, Nat.le_of_ble_eq_true rfl⟩ rfl rfl (Nat.le_of_ble_eq_true rfl) dL_does_185 ?_
                          obtain ⟨x124, t125, e126, h⟩ := bd_some h
                          refine j_callV_i C (i := 0) (As := [.int x118, .int x121]) (rest := []) (c_X6_carve l G B dy x118 x121 _ e126) (shp6 G B _ kA_0) (kd_lt kA_0 (by decide)) rfl tw_561 tw_562 tw_563 ti_6 tw_564 hd_X6_carve ⟨Nat.le_of_ble_eq_true rfl, Nat.le_of_ble_eq_true rfl⟩ ⟨Nat.le_of_ble_eq_true rfl, Nat.le_of_ble_eq_true rfl⟩ rfl rfl (Nat.le_of_ble_eq_true rfl) dL_does_188 ?_
                          exact j_iret C hr hlk h ⟨Nat.le_of_ble_eq_true rfl, Nat.le_of_ble_eq_true rfl⟩ dL_does_191
                        · have h := ite_f h c117
                          by_cases c127 : (x1 &&& 15) = 12
                          · have h := ite_t h c127
                            refine j_tableIn C (tgt := 170) dL_does_10 (by rw [c127]; decide) (by rw [c127]; decide) (by rw [c127]; rfl) (by decide) ?_
                            refine j_aload_n C (q := 0) dL_does_170 rfl rfl ?_
                            refine j_iload_n C (q := 1) dL_does_171 rfl rfl ?_
                            refine j_iconst C (v := 4) dL_does_172 (by decide) ?_
                            refine j_ishr C dL_does_173 ?_
                            refine j_sipush C (v := 1000) dL_does_174 (by decide) ?_
                            obtain ⟨x128, t129, e130, h⟩ := bd_some h
                            refine j_callS_i C (i := 0) (As := [.int (x1 >>> ((4 : Int32) &&& 31)), .int 1000]) (rest := [.ref (B + 0)]) (c_L_low l G B dy (x1 >>> ((4 : Int32) &&& 31)) 1000 _ e130) tw_407 tw_408 ti_L tw_409 ⟨rfl, hd_L_low⟩ ⟨Nat.le_of_ble_eq_true rfl, Nat.le_of_ble_eq_true rfl⟩ ⟨Nat.le_of_ble_eq_true rfl, Nat.le_of_ble_eq_true rfl⟩ rfl rfl (Nat.le_of_ble_eq_true rfl) dL_does_177 ?_
                            refine j_iload_n C (q := 1) dL_does_180 rfl rfl ?_
                            refine j_bipush C (v := 14) dL_does_181 (by decide) ?_
                            refine j_ishr C dL_does_183 ?_
                            refine j_iconst C (v := 3) dL_does_184 (by decide) ?_
                            obtain ⟨x131, t132, e133, h⟩ := bd_some h
                            refine j_callS_i C (i := 0) (As := [.int (x1 >>> ((14 : Int32) &&& 31)), .int 3]) (rest := [.int x128, .ref (B + 0)]) (c_L_low l G B dy (x1 >>> ((14 : Int32) &&& 31)) 3 _ e133) tw_407 tw_408 ti_L tw_409 ⟨rfl, hd_L_low⟩ ⟨Nat.le_of_ble_eq_true rfl, Nat.le_of_ble_eq_true rfl⟩ ⟨Nat.le_of_ble_eq_true rfl, Nat.le_of_ble_eq_true rfl⟩ rfl rfl (Nat.le_of_ble_eq_true rfl) dL_does_185 ?_
                            obtain ⟨x134, t135, e136, h⟩ := bd_some h
                            refine j_callV_i C (i := 0) (As := [.int x128, .int x131]) (rest := []) (c_X6_carve l G B dy x128 x131 _ e136) (shp6 G B _ kA_0) (kd_lt kA_0 (by decide)) rfl tw_561 tw_562 tw_563 ti_6 tw_564 hd_X6_carve ⟨Nat.le_of_ble_eq_true rfl, Nat.le_of_ble_eq_true rfl⟩ ⟨Nat.le_of_ble_eq_true rfl, Nat.le_of_ble_eq_true rfl⟩ rfl rfl (Nat.le_of_ble_eq_true rfl) dL_does_188 ?_
                            exact j_iret C hr hlk h ⟨Nat.le_of_ble_eq_true rfl, Nat.le_of_ble_eq_true rfl⟩ dL_does_191
                          · have h := ite_f h c127
                            by_cases c137 : (x1 &&& 15) = 13
                            · have h := ite_t h c137
                              refine j_tableIn C (tgt := 192) dL_does_10 (by rw [c137]; decide) (by rw [c137]; decide) (by rw [c137]; rfl) (by decide) ?_
                              refine j_aload_n C (q := 0) dL_does_192 rfl rfl ?_
                              refine j_iconst C (v := 1) dL_does_193 (by decide) ?_
                              obtain ⟨x138, t139, e140, h⟩ := bd_some h
                              refine j_callV_i C (i := 0) (As := [.int 1]) (rest := []) (c_X6_count l G B dy 1 _ e140) (shp6 G B _ kA_0) (kd_lt kA_0 (by decide)) rfl tw_392 tw_393 tw_394 ti_6 tw_395 hd_X6_count ⟨Nat.le_of_ble_eq_true rfl, Nat.le_of_ble_eq_true rfl⟩ ⟨Nat.le_of_ble_eq_true rfl, Nat.le_of_ble_eq_true rfl⟩ rfl rfl (Nat.le_of_ble_eq_true rfl) dL_does_194 ?_
                              refine j_if_le C (tgt := 218) dL_does_197 (by decide) (fun c141 => ?_) (fun c141 => ?_)
                              · have h := ite_t h c141
                                refine j_iconst C (v := 0) dL_does_218 (by decide) ?_
                                exact j_iret C hr hlk h ⟨Nat.le_of_ble_eq_true rfl, Nat.le_of_ble_eq_true rfl⟩ dL_does_219
                              · have h := ite_f h c141
                                refine j_aload_n C (q := 0) dL_does_200 rfl rfl ?_
                                refine j_iload_n C (q := 1) dL_does_201 rfl rfl ?_
                                refine j_iconst C (v := 4) dL_does_202 (by decide) ?_
                                refine j_ishr C dL_does_203 ?_
                                refine j_aload_n C (q := 0) dL_does_204 rfl rfl ?_
                                refine j_iconst C (v := 1) dL_does_205 (by decide) ?_
                                obtain ⟨x142, t143, e144, h⟩ := bd_some h
                                refine j_callV_i C (i := 0) (As := [.int 1]) (rest := [.int (x1 >>> ((4 : Int32) &&& 31)), .ref (B + 0)]) (c_X6_count l G B dy 1 _ e144) (shp6 G B _ kA_0) (kd_lt kA_0 (by decide)) rfl tw_392 tw_393 tw_394 ti_6 tw_395 hd_X6_count ⟨Nat.le_of_ble_eq_true rfl, Nat.le_of_ble_eq_true rfl⟩ ⟨Nat.le_of_ble_eq_true rfl, Nat.le_of_ble_eq_true rfl⟩ rfl rfl (Nat.le_of_ble_eq_true rfl) dL_does_206 ?_
                                obtain ⟨x145, t146, e147, h⟩ := bd_some h
                                refine j_callS_i C (i := 0) (As := [.int (x1 >>> ((4 : Int32) &&& 31)), .int x142]) (rest := [.ref (B + 0)]) (c_L_low l G B dy (x1 >>> ((4 : Int32) &&& 31)) x142 _ e147) tw_407 tw_408 ti_L tw_409 ⟨rfl, hd_L_low⟩ ⟨Nat.le_of_ble_eq_true rfl, Nat.le_of_ble_eq_true rfl⟩ ⟨Nat.le_of_ble_eq_true rfl, Nat.le_of_ble_eq_true rfl⟩ rfl rfl (Nat.le_of_ble_eq_true rfl) dL_does_209 ?_
                                obtain ⟨x148, t149, e150, h⟩ := bd_some h
                                refine j_callV_i C (i := 0) (As := [.int x145]) (rest := []) (c_X6_burn l G B dy x145 _ e150) (shp6 G B _ kA_0) (kd_lt kA_0 (by decide)) rfl tw_576 tw_577 tw_578 ti_6 tw_579 hd_X6_burn ⟨Nat.le_of_ble_eq_true rfl, Nat.le_of_ble_eq_true rfl⟩ ⟨Nat.le_of_ble_eq_true rfl, Nat.le_of_ble_eq_true rfl⟩ rfl rfl (Nat.le_of_ble_eq_true rfl) dL_does_212 ?_
                                refine j_goto C (tgt := 219) dL_does_215 (by decide) ?_
                                exact j_iret C hr hlk h ⟨Nat.le_of_ble_eq_true rfl, Nat.le_of_ble_eq_true rfl⟩ dL_does_219
                            · have h := ite_f h c137
                              by_cases c151 : (x1 &&& 15) = 14
                              · have h := ite_t h c151
                                refine j_tableIn C (tgt := 220) dL_does_10 (by rw [c151]; decide) (by rw [c151]; decide) (by rw [c151]; rfl) (by decide) ?_
                                refine j_aload_n C (q := 0) dL_does_220 rfl rfl ?_
                                refine j_bipush C (v := 50) dL_does_221 (by decide) ?_
                                refine j_iload_n C (q := 1) dL_does_223 rfl rfl ?_
                                refine j_iconst C (v := 4) dL_does_224 (by decide) ?_
                                refine j_ishr C dL_does_225 ?_
                                refine j_sipush C (v := 351) dL_does_226 (by decide) ?_
                                obtain ⟨x152, t153, e154, h⟩ := bd_some h
                                refine j_callS_i C (i := 0) (As := [.int (x1 >>> ((4 : Int32) &&& 31)), .int 351]) (rest := [.int 50, .ref (B + 0)]) (c_L_low l G B dy (x1 >>> ((4 : Int32) &&& 31)) 351 _ e154) tw_407 tw_408 ti_L tw_409 ⟨rfl, hd_L_low⟩ ⟨Nat.le_of_ble_eq_true rfl, Nat.le_of_ble_eq_true rfl⟩ ⟨Nat.le_of_ble_eq_true rfl, Nat.le_of_ble_eq_true rfl⟩ rfl rfl (Nat.le_of_ble_eq_true rfl) dL_does_229 ?_
                                refine j_iadd C dL_does_232 ?_
                                obtain ⟨x155, t156, e157, h⟩ := bd_some h
                                refine j_callV_i C (i := 0) (As := [.int (50 + x152)]) (rest := []) (c_X6_set l G B dy (50 + x152) _ e157) (shp6 G B _ kA_0) (kd_lt kA_0 (by decide)) rfl tw_584 tw_585 tw_586 ti_6 tw_587 hd_X6_set ⟨Nat.le_of_ble_eq_true rfl, Nat.le_of_ble_eq_true rfl⟩ ⟨Nat.le_of_ble_eq_true rfl, Nat.le_of_ble_eq_true rfl⟩ rfl rfl (Nat.le_of_ble_eq_true rfl) dL_does_233 ?_
                                exact j_iret C hr hlk h ⟨Nat.le_of_ble_eq_true rfl, Nat.le_of_ble_eq_true rfl⟩ dL_does_236
                              · have h := ite_f h c151
                                have nc24 := lv_neT c24 (show (0 : Int32).toInt = 0 by decide)
                                have nc31 := lv_neT c31 (show (1 : Int32).toInt = 1 by decide)
                                have nc38 := lv_neT c38 (show (2 : Int32).toInt = 2 by decide)
                                have nc45 := lv_neT c45 (show (3 : Int32).toInt = 3 by decide)
                                have nc52 := lv_neT c52 (show (4 : Int32).toInt = 4 by decide)
                                have nc59 := lv_neT c59 (show (5 : Int32).toInt = 5 by decide)
                                have nc65 := lv_neT c65 (show (6 : Int32).toInt = 6 by decide)
                                have nc76 := lv_neT c76 (show (7 : Int32).toInt = 7 by decide)
                                have nc87 := lv_neT c87 (show (8 : Int32).toInt = 8 by decide)
                                have nc97 := lv_neT c97 (show (9 : Int32).toInt = 9 by decide)
                                have nc107 := lv_neT c107 (show (10 : Int32).toInt = 10 by decide)
                                have nc117 := lv_neT c117 (show (11 : Int32).toInt = 11 by decide)
                                have nc127 := lv_neT c127 (show (12 : Int32).toInt = 12 by decide)
                                have nc137 := lv_neT c137 (show (13 : Int32).toInt = 13 by decide)
                                have nc151 := lv_neT c151 (show (14 : Int32).toInt = 14 by decide)
                                refine j_tableOut C (x := (x1 &&& 15)) (tgt := 237) dL_does_10 (by omega) (by decide) ?_
                                refine j_iconst C (v := 0) dL_does_237 (by decide) ?_
                                exact j_iret C hr hlk h ⟨Nat.le_of_ble_eq_true rfl, Nat.le_of_ble_eq_true rfl⟩ dL_does_238
set_option maxRecDepth 100000 in
set_option maxHeartbeats 4000000 in
theorem c_L_days (l : Launch) (G : GG) (B dy : Nat) (x0 : Int32) (t0 : St) {r : Int32} {t9 : St} (h : f_L_days x0 t0 = some (r, t9)) : Ct l G B dy yL_days cL_days 1 (some .int) 0 0 0 0 [.int x0] t0 (PostI G B r t9) := by
  refine Ct_of (by decide +kernel) [(0, .int x0)] (Nat.le_of_ble_eq_true rfl) rfl ?_
  intro p e s m args below meth c C hr hlk
  refine j_iload_n C (q := 0) dL_days_0 rfl rfl ?_
  refine j_iconst C (v := 4) dL_days_1 (by decide) ?_
  refine j_irem C dL_days_2 (by decide) ?_
  refine j_if_ne C (tgt := 12) dL_days_3 (by decide) (fun c21 => ?_) (fun c21 => ?_)
  · have h := ite_t h c21
    refine j_sipush C (v := 366) dL_days_6 (by decide) ?_
    refine j_goto C (tgt := 15) dL_days_9 (by decide) ?_
    exact j_iret C hr hlk h ⟨Nat.le_of_ble_eq_true rfl, Nat.le_of_ble_eq_true rfl⟩ dL_days_15
  · have h := ite_f h c21
    refine j_sipush C (v := 365) dL_days_12 (by decide) ?_
    exact j_iret C hr hlk h ⟨Nat.le_of_ble_eq_true rfl, Nat.le_of_ble_eq_true rfl⟩ dL_days_15
set_option maxRecDepth 100000 in
set_option maxHeartbeats 4000000 in
theorem c_L_areNotchesSo (l : Launch) (G : GG) (B dy : Nat) (x1 : Int32) (x2 : Int32) (t0 : St) {r : Int32} {t9 : St} (h : f_L_areNotchesSo x1 x2 t0 = some (r, t9)) : Ct l G B dy yL_areNotchesSo cL_areNotchesSo 15 (some .boolean) 7 163 0 0 [.ref (B + 0), .int x1, .int x2] t0 (PostI G B r t9) := by
  refine Ct_of (by decide +kernel) [(0, .ref (B + 0)), (1, .int x1), (2, .int x2)] (Nat.le_of_ble_eq_true rfl) rfl ?_
  intro p e s m args below meth c C hr hlk
  have J11 : ∀ (n11 : Nat) (y3 : Int32) (y4 : Int32) (y5 : Int32) (y6 : Int32) (t0 : St), f_L_areNotchesSo_l11 n11 x1 x2 y3 y4 y5 y6 t0 = some (r, t9) → WW G B p l e (RM 7 163 0 0) s m args below meth c 0 0 (MQ below (PostI G B r t9) args s 0 0 (Ab B)) 15 11 [(0, .ref (B + 0)), (1, .int x1), (2, .int x2), (3, .int y3), (4, .int y4), (5, .int y5), (6, .int y6)] [] t0 := by
    intro n11
    induction n11 with
    | zero => intro y3 y4 y5 y6 t0 h; exact (no_some h).elim
    | succ n11 ih11 =>
      try clear h
      have J307 : ∀ (n307 : Nat) (y3 : Int32) (y4 : Int32) (y5 : Int32) (y6 : Int32) (y7 : Int32) (y8 : Int32) (y11 : Int32) (t0 : St), f_L_areNotchesSo_l307 (f_L_areNotchesSo_l11 n11) n307 x1 x2 y3 y4 y5 y6 y7 y8 y11 t0 = some (r, t9) → WW G B p l e (RM 7 163 0 0) s m args below meth c 0 0 (MQ below (PostI G B r t9) args s 0 0 (Ab B)) 15 307 [(0, .ref (B + 0)), (1, .int x1), (2, .int x2), (3, .int y3), (4, .int y4), (5, .int y5), (6, .int y6), (7, .int y7), (8, .int y8), (11, .int y11)] [] t0 := by
        intro n307
        induction n307 with
        | zero => intro y3 y4 y5 y6 y7 y8 y11 t0 h; exact (no_some h).elim
        | succ n307 ih307 =>
          try clear h
          have J325 : ∀ (n325 : Nat) (y3 : Int32) (y4 : Int32) (y5 : Int32) (y6 : Int32) (y7 : Int32) (y8 : Int32) (y11 : Int32) (y12 : Int32) (y13 : Int32) (t0 : St), f_L_areNotchesSo_l325 (f_L_areNotchesSo_l11 n11) (f_L_areNotchesSo_l307 (f_L_areNotchesSo_l11 n11) n307) n325 x1 x2 y3 y4 y5 y6 y7 y8 y11 y12 y13 t0 = some (r, t9) → WW G B p l e (RM 7 163 0 0) s m args below meth c 0 0 (MQ below (PostI G B r t9) args s 0 0 (Ab B)) 15 325 [(0, .ref (B + 0)), (1, .int x1), (2, .int x2), (3, .int y3), (4, .int y4), (5, .int y5), (6, .int y6), (7, .int y7), (8, .int y8), (11, .int y11), (12, .int y12), (13, .int y13)] [] t0 := by
            intro n325
            induction n325 with
            | zero => intro y3 y4 y5 y6 y7 y8 y11 y12 y13 t0 h; exact (no_some h).elim
            | succ n325 ih325 =>
              try clear h
              have J381 : ∀ (y3 : Int32) (y4 : Int32) (y5 : Int32) (y6 : Int32) (y7 : Int32) (y8 : Int32) (y11 : Int32) (y12 : Int32) (y13 : Int32) (w0 : Int32) (t0 : St), f_L_areNotchesSo_b381 (f_L_areNotchesSo_l11 n11) (f_L_areNotchesSo_l307 (f_L_areNotchesSo_l11 n11) n307) (f_L_areNotchesSo_l325 (f_L_areNotchesSo_l11 n11) (f_L_areNotchesSo_l307 (f_L_areNotchesSo_l11 n11) n307) n325) x1 x2 y3 y4 y5 y6 y7 y8 y11 y12 y13 w0 t0 = some (r, t9) → WW G B p l e (RM 7 163 0 0) s m args below meth c 0 0 (MQ below (PostI G B r t9) args s 0 0 (Ab B)) 15 381 [(0, .ref (B + 0)), (1, .int x1), (2, .int x2), (3, .int y3), (4, .int y4), (5, .int y5), (6, .int y6), (7, .int y7), (8, .int y8), (11, .int y11), (12, .int y12), (13, .int y13)] [.int w0] t0 := by
                intro y3 y4 y5 y6 y7 y8 y11 y12 y13 w0 t0 h
                refine j_istore C [(0, .ref (B + 0)), (1, .int x1), (2, .int x2), (3, .int y3), (4, .int y4), (5, .int y5), (6, .int y6), (7, .int y7), (8, .int y8), (11, .int y11), (12, .int y12), (13, .int y13), (14, .int w0)] [1, 2, 3, 4, 5, 6, 7, 8, 9, 10, 11, 12, 0] dL_areNotchesSo_381 (by decide) rfl ?_
                refine j_iload C (q := 10) dL_areNotchesSo_383 rfl ?_
                refine j_if_ne C (tgt := 407) dL_areNotchesSo_385 (by decide) (fun c21 => ?_) (fun c21 => ?_)
                · have h := ite_t h c21
                  refine j_iload C (q := 12) dL_areNotchesSo_388 rfl ?_
                  refine j_if_eq C (tgt := 411) dL_areNotchesSo_390 (by decide) (fun c23 => ?_) (fun c23 => ?_)
                  · have h := ite_t h c23
                    refine j_iconst C (v := 0) dL_areNotchesSo_411 (by decide) ?_
                    refine j_istore C [(0, .ref (B + 0)), (1, .int x1), (2, .int x2), (3, .int y3), (4, .int y4), (5, .int y5), (6, .int y6), (7, .int y7), (8, .int y8), (11, .int y11), (12, .int 0), (13, .int y13), (14, .int w0)] [1, 2, 3, 4, 5, 6, 7, 8, 9, 10, 0, 11, 12] dL_areNotchesSo_412 (by decide) rfl ?_
                    obtain ⟨x24, ex24⟩ : ∃ y : Int32, y = (y13 + 1) := ⟨_, rfl⟩
                    have h := lt_at h ex24
                    refine j_iinc C (q := 11) [(0, .ref (B + 0)), (1, .int x1), (2, .int x2), (3, .int y3), (4, .int y4), (5, .int y5), (6, .int y6), (7, .int y7), (8, .int y8), (11, .int y11), (12, .int 0), (13, .int x24), (14, .int w0)] [1, 2, 3, 4, 5, 6, 7, 8, 9, 10, 11, 0, 12] dL_areNotchesSo_414 rfl (by rw [ex24]; rfl) (by decide) rfl ?_
                    refine j_goto C (tgt := 325) dL_areNotchesSo_417 (by decide) ?_
                    refine j_sub [0, 1, 2, 3, 4, 5, 6, 7, 8, 9, 10, 11] rfl ?_
                    exact ih325 y3 y4 y5 y6 y7 y8 y11 0 x24 _ h
                  · have h := ite_f h c23
                    refine j_aload_n C (q := 0) dL_areNotchesSo_393 rfl rfl ?_
                    refine j_iload C (q := 11) dL_areNotchesSo_394 rfl ?_
                    refine j_iload_n C (q := 1) dL_areNotchesSo_396 rfl rfl ?_
                    refine j_iload_n C (q := 2) dL_areNotchesSo_397 rfl rfl ?_
                    refine j_iconst C (v := 0) dL_areNotchesSo_398 (by decide) ?_
                    obtain ⟨x25, t26, e27, h⟩ := bd_some h
                    refine j_callV_i C (i := 0) (As := [.int y13, .int x1, .int x2, .int 0]) (rest := []) (c_X6_when l G B dy y13 x1 x2 0 _ e27) (shp6 G B _ kA_0) (kd_lt kA_0 (by decide)) rfl tw_591 tw_592 tw_593 ti_6 tw_594 hd_X6_when ⟨Nat.le_of_ble_eq_true rfl, Nat.le_of_ble_eq_true rfl⟩ ⟨Nat.le_of_ble_eq_true rfl, Nat.le_of_ble_eq_true rfl⟩ rfl rfl (Nat.le_of_ble_eq_true rfl) dL_areNotchesSo_399 ?_
                    refine j_iload C (q := 9) dL_areNotchesSo_402 rfl ?_
                    refine j_icmp_ne C (tgt := 411) dL_areNotchesSo_404 (by decide) (fun c28 => ?_) (fun c28 => ?_)
                    · have h := ite_t h c28
                      refine j_iconst C (v := 1) dL_areNotchesSo_407 (by decide) ?_
                      refine j_goto C (tgt := 412) dL_areNotchesSo_408 (by decide) ?_
                      refine j_istore C [(0, .ref (B + 0)), (1, .int x1), (2, .int x2), (3, .int y3), (4, .int y4), (5, .int y5), (6, .int y6), (7, .int y7), (8, .int y8), (11, .int y11), (12, .int 1), (13, .int y13), (14, .int w0)] [1, 2, 3, 4, 5, 6, 7, 8, 9, 10, 0, 11, 12] dL_areNotchesSo_412 (by decide) rfl ?_
                      obtain ⟨x30, ex30⟩ : ∃ y : Int32, y = (y13 + 1) := ⟨_, rfl⟩
                      have h := lt_at h ex30
                      refine j_iinc C (q := 11) [(0, .ref (B + 0)), (1, .int x1), (2, .int x2), (3, .int y3), (4, .int y4), (5, .int y5), (6, .int y6), (7, .int y7), (8, .int y8), (11, .int y11), (12, .int 1), (13, .int x30), (14, .int w0)] [1, 2, 3, 4, 5, 6, 7, 8, 9, 10, 11, 0, 12] dL_areNotchesSo_414 rfl (by rw [ex30]; rfl) (by decide) rfl ?_
                      refine j_goto C (tgt := 325) dL_areNotchesSo_417 (by decide) ?_
                      refine j_sub [0, 1, 2, 3, 4, 5, 6, 7, 8, 9, 10, 11] rfl ?_
                      exact ih325 y3 y4 y5 y6 y7 y8 y11 1 x30 _ h
                    · have h := ite_f h c28
                      refine j_iconst C (v := 0) dL_areNotchesSo_411 (by decide) ?_
                      refine j_istore C [(0, .ref (B + 0)), (1, .int x1), (2, .int x2), (3, .int y3), (4, .int y4), (5, .int y5), (6, .int y6), (7, .int y7), (8, .int y8), (11, .int y11), (12, .int 0), (13, .int y13), (14, .int w0)] [1, 2, 3, 4, 5, 6, 7, 8, 9, 10, 0, 11, 12] dL_areNotchesSo_412 (by decide) rfl ?_
                      obtain ⟨x29, ex29⟩ : ∃ y : Int32, y = (y13 + 1) := ⟨_, rfl⟩
                      have h := lt_at h ex29
                      refine j_iinc C (q := 11) [(0, .ref (B + 0)), (1, .int x1), (2, .int x2), (3, .int y3), (4, .int y4), (5, .int y5), (6, .int y6), (7, .int y7), (8, .int y8), (11, .int y11), (12, .int 0), (13, .int x29), (14, .int w0)] [1, 2, 3, 4, 5, 6, 7, 8, 9, 10, 11, 0, 12] dL_areNotchesSo_414 rfl (by rw [ex29]; rfl) (by decide) rfl ?_
                      refine j_goto C (tgt := 325) dL_areNotchesSo_417 (by decide) ?_
                      refine j_sub [0, 1, 2, 3, 4, 5, 6, 7, 8, 9, 10, 11] rfl ?_
                      exact ih325 y3 y4 y5 y6 y7 y8 y11 0 x29 _ h
                · have h := ite_f h c21
                  refine j_iconst C (v := 1) dL_areNotchesSo_407 (by decide) ?_
                  refine j_goto C (tgt := 412) dL_areNotchesSo_408 (by decide) ?_
                  refine j_istore C [(0, .ref (B + 0)), (1, .int x1), (2, .int x2), (3, .int y3), (4, .int y4), (5, .int y5), (6, .int y6), (7, .int y7), (8, .int y8), (11, .int y11), (12, .int 1), (13, .int y13), (14, .int w0)] [1, 2, 3, 4, 5, 6, 7, 8, 9, 10, 0, 11, 12] dL_areNotchesSo_412 (by decide) rfl ?_
                  obtain ⟨x22, ex22⟩ : ∃ y : Int32, y = (y13 + 1) := ⟨_, rfl⟩
                  have h := lt_at h ex22
                  refine j_iinc C (q := 11) [(0, .ref (B + 0)), (1, .int x1), (2, .int x2), (3, .int y3), (4, .int y4), (5, .int y5), (6, .int y6), (7, .int y7), (8, .int y8), (11, .int y11), (12, .int 1), (13, .int x22), (14, .int w0)] [1, 2, 3, 4, 5, 6, 7, 8, 9, 10, 11, 0, 12] dL_areNotchesSo_414 rfl (by rw [ex22]; rfl) (by decide) rfl ?_
                  refine j_goto C (tgt := 325) dL_areNotchesSo_417 (by decide) ?_
                  refine j_sub [0, 1, 2, 3, 4, 5, 6, 7, 8, 9, 10, 11] rfl ?_
                  exact ih325 y3 y4 y5 y6 y7 y8 y11 1 x22 _ h
              have J380 : ∀ (y3 : Int32) (y4 : Int32) (y5 : Int32) (y6 : Int32) (y7 : Int32) (y8 : Int32) (y11 : Int32) (y12 : Int32) (y13 : Int32) (t0 : St), f_L_areNotchesSo_b380 (f_L_areNotchesSo_l11 n11) (f_L_areNotchesSo_l307 (f_L_areNotchesSo_l11 n11) n307) (f_L_areNotchesSo_l325 (f_L_areNotchesSo_l11 n11) (f_L_areNotchesSo_l307 (f_L_areNotchesSo_l11 n11) n307) n325) x1 x2 y3 y4 y5 y6 y7 y8 y11 y12 y13 t0 = some (r, t9) → WW G B p l e (RM 7 163 0 0) s m args below meth c 0 0 (MQ below (PostI G B r t9) args s 0 0 (Ab B)) 15 380 [(0, .ref (B + 0)), (1, .int x1), (2, .int x2), (3, .int y3), (4, .int y4), (5, .int y5), (6, .int y6), (7, .int y7), (8, .int y8), (11, .int y11), (12, .int y12), (13, .int y13)] [] t0 := by
                intro y3 y4 y5 y6 y7 y8 y11 y12 y13 t0 h
                refine j_iconst C (v := 0) dL_areNotchesSo_380 (by decide) ?_
                exact J381 y3 y4 y5 y6 y7 y8 y11 y12 y13 0 _ h
              intro y3 y4 y5 y6 y7 y8 y11 y12 y13 t0 h
              have h : f_L_areNotchesSo_b325 (f_L_areNotchesSo_l11 n11) (f_L_areNotchesSo_l307 (f_L_areNotchesSo_l11 n11) n307) (f_L_areNotchesSo_l325 (f_L_areNotchesSo_l11 n11) (f_L_areNotchesSo_l307 (f_L_areNotchesSo_l11 n11) n307) n325) x1 x2 y3 y4 y5 y6 y7 y8 y11 y12 y13 t0 = some (r, t9) := h
              refine j_iload C (q := 11) dL_areNotchesSo_325 rfl ?_
              refine j_aload_n C (q := 0) dL_areNotchesSo_327 rfl rfl ?_
              refine j_iconst C (v := 0) dL_areNotchesSo_328 (by decide) ?_
              obtain ⟨x31, t32, e33, h⟩ := bd_some h
              refine j_callV_i C (i := 0) (As := [.int 0]) (rest := [.int y13]) (c_X6_count l G B dy 0 _ e33) (shp6 G B _ kA_0) (kd_lt kA_0 (by decide)) rfl tw_392 tw_393 tw_394 ti_6 tw_395 hd_X6_count ⟨Nat.le_of_ble_eq_true rfl, Nat.le_of_ble_eq_true rfl⟩ ⟨Nat.le_of_ble_eq_true rfl, Nat.le_of_ble_eq_true rfl⟩ rfl rfl (Nat.le_of_ble_eq_true rfl) dL_areNotchesSo_329 ?_
              refine j_icmp_ge C (tgt := 420) dL_areNotchesSo_332 (by decide) (fun c34 => ?_) (fun c34 => ?_)
              · have h := ite_t h c34
                refine j_iload C (q := 5) dL_areNotchesSo_420 rfl ?_
                refine j_if_eq C (tgt := 434) dL_areNotchesSo_422 (by decide) (fun c35 => ?_) (fun c35 => ?_)
                · have h := ite_t h c35
                  refine j_iconst C (v := 0) dL_areNotchesSo_434 (by decide) ?_
                  refine j_istore C [(0, .ref (B + 0)), (1, .int x1), (2, .int x2), (3, .int y3), (4, .int y4), (5, .int 0), (6, .int y6), (7, .int y7), (8, .int y8), (11, .int y11), (12, .int y12), (13, .int y13)] [1, 2, 3, 4, 5, 0, 6, 7, 8, 9, 10, 11] dL_areNotchesSo_435 (by decide) rfl ?_
                  obtain ⟨x36, ex36⟩ : ∃ y : Int32, y = (y11 + 1) := ⟨_, rfl⟩
                  have h := lt_at h ex36
                  refine j_iinc C (q := 9) [(0, .ref (B + 0)), (1, .int x1), (2, .int x2), (3, .int y3), (4, .int y4), (5, .int 0), (6, .int y6), (7, .int y7), (8, .int y8), (11, .int x36), (12, .int y12), (13, .int y13)] [1, 2, 3, 4, 5, 6, 7, 8, 9, 0, 10, 11] dL_areNotchesSo_437 rfl (by rw [ex36]; rfl) (by decide) rfl ?_
                  refine j_goto C (tgt := 307) dL_areNotchesSo_440 (by decide) ?_
                  refine j_sub [0, 1, 2, 3, 4, 5, 6, 7, 8, 9] rfl ?_
                  exact ih307 y3 y4 0 y6 y7 y8 x36 _ h
                · have h := ite_f h c35
                  refine j_iload C (q := 10) dL_areNotchesSo_425 rfl ?_
                  refine j_if_eq C (tgt := 434) dL_areNotchesSo_427 (by decide) (fun c37 => ?_) (fun c37 => ?_)
                  · have h := ite_t h c37
                    refine j_iconst C (v := 0) dL_areNotchesSo_434 (by decide) ?_
                    refine j_istore C [(0, .ref (B + 0)), (1, .int x1), (2, .int x2), (3, .int y3), (4, .int y4), (5, .int 0), (6, .int y6), (7, .int y7), (8, .int y8), (11, .int y11), (12, .int y12), (13, .int y13)] [1, 2, 3, 4, 5, 0, 6, 7, 8, 9, 10, 11] dL_areNotchesSo_435 (by decide) rfl ?_
                    obtain ⟨x38, ex38⟩ : ∃ y : Int32, y = (y11 + 1) := ⟨_, rfl⟩
                    have h := lt_at h ex38
                    refine j_iinc C (q := 9) [(0, .ref (B + 0)), (1, .int x1), (2, .int x2), (3, .int y3), (4, .int y4), (5, .int 0), (6, .int y6), (7, .int y7), (8, .int y8), (11, .int x38), (12, .int y12), (13, .int y13)] [1, 2, 3, 4, 5, 6, 7, 8, 9, 0, 10, 11] dL_areNotchesSo_437 rfl (by rw [ex38]; rfl) (by decide) rfl ?_
                    refine j_goto C (tgt := 307) dL_areNotchesSo_440 (by decide) ?_
                    refine j_sub [0, 1, 2, 3, 4, 5, 6, 7, 8, 9] rfl ?_
                    exact ih307 y3 y4 0 y6 y7 y8 x38 _ h
                  · have h := ite_f h c37
                    refine j_iconst C (v := 1) dL_areNotchesSo_430 (by decide) ?_
                    refine j_goto C (tgt := 435) dL_areNotchesSo_431 (by decide) ?_
                    refine j_istore C [(0, .ref (B + 0)), (1, .int x1), (2, .int x2), (3, .int y3), (4, .int y4), (5, .int 1), (6, .int y6), (7, .int y7), (8, .int y8), (11, .int y11), (12, .int y12), (13, .int y13)] [1, 2, 3, 4, 5, 0, 6, 7, 8, 9, 10, 11] dL_areNotchesSo_435 (by decide) rfl ?_
                    obtain ⟨x39, ex39⟩ : ∃ y : Int32, y = (y11 + 1) := ⟨_, rfl⟩
                    have h := lt_at h ex39
                    refine j_iinc C (q := 9) [(0, .ref (B + 0)), (1, .int x1), (2, .int x2), (3, .int y3), (4, .int y4), (5, .int 1), (6, .int y6), (7, .int y7), (8, .int y8), (11, .int x39), (12, .int y12), (13, .int y13)] [1, 2, 3, 4, 5, 6, 7, 8, 9, 0, 10, 11] dL_areNotchesSo_437 rfl (by rw [ex39]; rfl) (by decide) rfl ?_
                    refine j_goto C (tgt := 307) dL_areNotchesSo_440 (by decide) ?_
                    refine j_sub [0, 1, 2, 3, 4, 5, 6, 7, 8, 9] rfl ?_
                    exact ih307 y3 y4 1 y6 y7 y8 x39 _ h
              · have h := ite_f h c34
                refine j_aload_n C (q := 0) dL_areNotchesSo_335 rfl rfl ?_
                refine j_iload C (q := 11) dL_areNotchesSo_336 rfl ?_
                refine j_iconst C (v := 1) dL_areNotchesSo_338 (by decide) ?_
                obtain ⟨x40, t41, e42, h⟩ := bd_some h
                refine j_callV_i C (i := 0) (As := [.int y13, .int 1]) (rest := []) (c_X6_feast l G B dy y13 1 _ e42) (shp6 G B _ kA_0) (kd_lt kA_0 (by decide)) rfl tw_595 tw_596 tw_597 ti_6 tw_598 hd_X6_feast ⟨Nat.le_of_ble_eq_true rfl, Nat.le_of_ble_eq_true rfl⟩ ⟨Nat.le_of_ble_eq_true rfl, Nat.le_of_ble_eq_true rfl⟩ rfl rfl (Nat.le_of_ble_eq_true rfl) dL_areNotchesSo_339 ?_
                refine j_aload_n C (q := 0) dL_areNotchesSo_342 rfl rfl ?_
                refine j_iload C (q := 6) dL_areNotchesSo_343 rfl ?_
                refine j_iconst C (v := 1) dL_areNotchesSo_345 (by decide) ?_
                obtain ⟨x43, t44, e45, h⟩ := bd_some h
                refine j_callV_i C (i := 0) (As := [.int y6, .int 1]) (rest := [.int x40]) (c_X6_feast l G B dy y6 1 _ e45) (shp6 G B _ kA_0) (kd_lt kA_0 (by decide)) rfl tw_595 tw_596 tw_597 ti_6 tw_598 hd_X6_feast ⟨Nat.le_of_ble_eq_true rfl, Nat.le_of_ble_eq_true rfl⟩ ⟨Nat.le_of_ble_eq_true rfl, Nat.le_of_ble_eq_true rfl⟩ rfl rfl (Nat.le_of_ble_eq_true rfl) dL_areNotchesSo_346 ?_
                refine j_icmp_gt C (tgt := 376) dL_areNotchesSo_349 (by decide) (fun c46 => ?_) (fun c46 => ?_)
                · have h := ite_t h c46
                  refine j_iconst C (v := 1) dL_areNotchesSo_376 (by decide) ?_
                  refine j_goto C (tgt := 381) dL_areNotchesSo_377 (by decide) ?_
                  exact J381 y3 y4 y5 y6 y7 y8 y11 y12 y13 1 _ h
                · have h := ite_f h c46
                  refine j_aload_n C (q := 0) dL_areNotchesSo_352 rfl rfl ?_
                  refine j_iload C (q := 11) dL_areNotchesSo_353 rfl ?_
                  refine j_iconst C (v := 1) dL_areNotchesSo_355 (by decide) ?_
                  obtain ⟨x47, t48, e49, h⟩ := bd_some h
                  refine j_callV_i C (i := 0) (As := [.int y13, .int 1]) (rest := []) (c_X6_feast l G B dy y13 1 _ e49) (shp6 G B _ kA_0) (kd_lt kA_0 (by decide)) rfl tw_595 tw_596 tw_597 ti_6 tw_598 hd_X6_feast ⟨Nat.le_of_ble_eq_true rfl, Nat.le_of_ble_eq_true rfl⟩ ⟨Nat.le_of_ble_eq_true rfl, Nat.le_of_ble_eq_true rfl⟩ rfl rfl (Nat.le_of_ble_eq_true rfl) dL_areNotchesSo_356 ?_
                  refine j_aload_n C (q := 0) dL_areNotchesSo_359 rfl rfl ?_
                  refine j_iload C (q := 6) dL_areNotchesSo_360 rfl ?_
                  refine j_iconst C (v := 1) dL_areNotchesSo_362 (by decide) ?_
                  obtain ⟨x50, t51, e52, h⟩ := bd_some h
                  refine j_callV_i C (i := 0) (As := [.int y6, .int 1]) (rest := [.int x47]) (c_X6_feast l G B dy y6 1 _ e52) (shp6 G B _ kA_0) (kd_lt kA_0 (by decide)) rfl tw_595 tw_596 tw_597 ti_6 tw_598 hd_X6_feast ⟨Nat.le_of_ble_eq_true rfl, Nat.le_of_ble_eq_true rfl⟩ ⟨Nat.le_of_ble_eq_true rfl, Nat.le_of_ble_eq_true rfl⟩ rfl rfl (Nat.le_of_ble_eq_true rfl) dL_areNotchesSo_363 ?_
                  refine j_icmp_ne C (tgt := 380) dL_areNotchesSo_366 (by decide) (fun c53 => ?_) (fun c53 => ?_)
                  · have h := ite_t h c53
                    refine j_iload C (q := 11) dL_areNotchesSo_369 rfl ?_
                    refine j_iload C (q := 6) dL_areNotchesSo_371 rfl ?_
                    refine j_icmp_ge C (tgt := 380) dL_areNotchesSo_373 (by decide) (fun c54 => ?_) (fun c54 => ?_)
                    · have h := ite_t h c54
                      exact J380 y3 y4 y5 y6 y7 y8 y11 y12 y13 _ h
                    · have h := ite_f h c54
                      refine j_iconst C (v := 1) dL_areNotchesSo_376 (by decide) ?_
                      refine j_goto C (tgt := 381) dL_areNotchesSo_377 (by decide) ?_
                      exact J381 y3 y4 y5 y6 y7 y8 y11 y12 y13 1 _ h
                  · have h := ite_f h c53
                    exact J380 y3 y4 y5 y6 y7 y8 y11 y12 y13 _ h
          intro y3 y4 y5 y6 y7 y8 y11 t0 h
          have h : f_L_areNotchesSo_b307 (f_L_areNotchesSo_l11 n11) (f_L_areNotchesSo_l307 (f_L_areNotchesSo_l11 n11) n307) x1 x2 y3 y4 y5 y6 y7 y8 y11 t0 = some (r, t9) := h
          refine j_iload C (q := 9) dL_areNotchesSo_307 rfl ?_
          refine j_iload C (q := 8) dL_areNotchesSo_309 rfl ?_
          refine j_icmp_ge C (tgt := 443) dL_areNotchesSo_311 (by decide) (fun c55 => ?_) (fun c55 => ?_)
          · have h := ite_t h c55
            obtain ⟨x56, ex56⟩ : ∃ y : Int32, y = (y6 + 1) := ⟨_, rfl⟩
            have h := lt_at h ex56
            refine j_iinc C (q := 6) [(0, .ref (B + 0)), (1, .int x1), (2, .int x2), (3, .int y3), (4, .int y4), (5, .int y5), (6, .int x56), (7, .int y7), (8, .int y8), (11, .int y11)] [1, 2, 3, 4, 5, 6, 0, 7, 8, 9] dL_areNotchesSo_443 rfl (by rw [ex56]; rfl) (by decide) rfl ?_
            refine j_goto C (tgt := 11) dL_areNotchesSo_446 (by decide) ?_
            refine j_sub [0, 1, 2, 3, 4, 5, 6] rfl ?_
            exact ih11 y3 y4 y5 x56 _ h
          · have h := ite_f h c55
            refine j_iload C (q := 7) dL_areNotchesSo_314 rfl ?_
            refine j_if_lt C (tgt := 443) dL_areNotchesSo_316 (by decide) (fun c57 => ?_) (fun c57 => ?_)
            · have h := ite_t h c57
              obtain ⟨x58, ex58⟩ : ∃ y : Int32, y = (y6 + 1) := ⟨_, rfl⟩
              have h := lt_at h ex58
              refine j_iinc C (q := 6) [(0, .ref (B + 0)), (1, .int x1), (2, .int x2), (3, .int y3), (4, .int y4), (5, .int y5), (6, .int x58), (7, .int y7), (8, .int y8), (11, .int y11)] [1, 2, 3, 4, 5, 6, 0, 7, 8, 9] dL_areNotchesSo_443 rfl (by rw [ex58]; rfl) (by decide) rfl ?_
              refine j_goto C (tgt := 11) dL_areNotchesSo_446 (by decide) ?_
              refine j_sub [0, 1, 2, 3, 4, 5, 6] rfl ?_
              exact ih11 y3 y4 y5 x58 _ h
            · have h := ite_f h c57
              refine j_iconst C (v := 0) dL_areNotchesSo_319 (by decide) ?_
              refine j_istore C [(0, .ref (B + 0)), (1, .int x1), (2, .int x2), (3, .int y3), (4, .int y4), (5, .int y5), (6, .int y6), (7, .int y7), (8, .int y8), (11, .int y11), (12, .int 0)] [1, 2, 3, 4, 5, 6, 7, 8, 9, 10, 0] dL_areNotchesSo_320 (by decide) rfl ?_
              refine j_iconst C (v := 0) dL_areNotchesSo_322 (by decide) ?_
              refine j_istore C [(0, .ref (B + 0)), (1, .int x1), (2, .int x2), (3, .int y3), (4, .int y4), (5, .int y5), (6, .int y6), (7, .int y7), (8, .int y8), (11, .int y11), (12, .int 0), (13, .int 0)] [1, 2, 3, 4, 5, 6, 7, 8, 9, 10, 11, 0] dL_areNotchesSo_323 (by decide) rfl ?_
              exact J325 FU y3 y4 y5 y6 y7 y8 y11 0 0 _ h
      have J265 : ∀ (y4 : Int32) (y5 : Int32) (y6 : Int32) (y7 : Int32) (y8 : Int32) (w0 : Int32) (w1 : Int32) (t0 : St), f_L_areNotchesSo_b265 (f_L_areNotchesSo_l11 n11) x1 x2 y4 y5 y6 y7 y8 w0 w1 t0 = some (r, t9) → WW G B p l e (RM 7 163 0 0) s m args below meth c 0 0 (MQ below (PostI G B r t9) args s 0 0 (Ab B)) 15 265 [(0, .ref (B + 0)), (1, .int x1), (2, .int x2), (4, .int y4), (5, .int y5), (6, .int y6), (7, .int y7), (8, .int y8)] [.int w0, .int w1] t0 := by
        intro y4 y5 y6 y7 y8 w0 w1 t0 h
        refine j_iadd C dL_areNotchesSo_265 ?_
        refine j_topi (fun x59 ex59 => ?_)
        have h := lt_at h ex59
        refine j_istore_n C [(0, .ref (B + 0)), (1, .int x1), (2, .int x2), (3, .int x59), (4, .int y4), (5, .int y5), (6, .int y6), (7, .int y7), (8, .int y8)] [1, 2, 3, 0, 4, 5, 6, 7, 8] dL_areNotchesSo_266 rfl (by decide) rfl ?_
        refine j_iload C (q := 7) dL_areNotchesSo_267 rfl ?_
        refine j_if_lt C (tgt := 299) dL_areNotchesSo_269 (by decide) (fun c60 => ?_) (fun c60 => ?_)
        · have h := ite_t h c60
          refine j_iload C (q := 4) dL_areNotchesSo_299 rfl ?_
          refine j_istore C [(0, .ref (B + 0)), (1, .int x1), (2, .int x2), (3, .int x59), (4, .int y4), (5, .int y5), (6, .int y6), (7, .int y7), (8, .int y8)] [1, 2, 3, 4, 0, 5, 6, 7, 8] dL_areNotchesSo_301 (by decide) rfl ?_
          refine j_iload C (q := 7) dL_areNotchesSo_303 rfl ?_
          refine j_istore C [(0, .ref (B + 0)), (1, .int x1), (2, .int x2), (3, .int x59), (4, .int y4), (5, .int y5), (6, .int y6), (7, .int y7), (8, .int y8), (11, .int y7)] [1, 2, 3, 4, 5, 6, 7, 8, 9, 0] dL_areNotchesSo_305 (by decide) rfl ?_
          exact J307 FU x59 y4 y5 y6 y7 y8 y7 _ h
        · have h := ite_f h c60
          refine j_iload C (q := 4) dL_areNotchesSo_272 rfl ?_
          refine j_if_lt C (tgt := 294) dL_areNotchesSo_274 (by decide) (fun c61 => ?_) (fun c61 => ?_)
          · have h := ite_t h c61
            refine j_iload C (q := 6) dL_areNotchesSo_294 rfl ?_
            refine j_goto C (tgt := 301) dL_areNotchesSo_296 (by decide) ?_
            refine j_istore C [(0, .ref (B + 0)), (1, .int x1), (2, .int x2), (3, .int x59), (4, .int y6), (5, .int y5), (6, .int y6), (7, .int y7), (8, .int y8)] [1, 2, 3, 4, 0, 5, 6, 7, 8] dL_areNotchesSo_301 (by decide) rfl ?_
            refine j_iload C (q := 7) dL_areNotchesSo_303 rfl ?_
            refine j_istore C [(0, .ref (B + 0)), (1, .int x1), (2, .int x2), (3, .int x59), (4, .int y6), (5, .int y5), (6, .int y6), (7, .int y7), (8, .int y8), (11, .int y7)] [1, 2, 3, 4, 5, 6, 7, 8, 9, 0] dL_areNotchesSo_305 (by decide) rfl ?_
            exact J307 FU x59 y6 y5 y6 y7 y8 y7 _ h
          · have h := ite_f h c61
            refine j_aload_n C (q := 0) dL_areNotchesSo_277 rfl rfl ?_
            refine j_iload C (q := 6) dL_areNotchesSo_278 rfl ?_
            refine j_iconst C (v := 1) dL_areNotchesSo_280 (by decide) ?_
            obtain ⟨x62, t63, e64, h⟩ := bd_some h
            refine j_callV_i C (i := 0) (As := [.int y6, .int 1]) (rest := []) (c_X6_feast l G B dy y6 1 _ e64) (shp6 G B _ kA_0) (kd_lt kA_0 (by decide)) rfl tw_595 tw_596 tw_597 ti_6 tw_598 hd_X6_feast ⟨Nat.le_of_ble_eq_true rfl, Nat.le_of_ble_eq_true rfl⟩ ⟨Nat.le_of_ble_eq_true rfl, Nat.le_of_ble_eq_true rfl⟩ rfl rfl (Nat.le_of_ble_eq_true rfl) dL_areNotchesSo_281 ?_
            refine j_aload_n C (q := 0) dL_areNotchesSo_284 rfl rfl ?_
            refine j_iload C (q := 4) dL_areNotchesSo_285 rfl ?_
            refine j_iconst C (v := 1) dL_areNotchesSo_287 (by decide) ?_
            obtain ⟨x65, t66, e67, h⟩ := bd_some h
            refine j_callV_i C (i := 0) (As := [.int y4, .int 1]) (rest := [.int x62]) (c_X6_feast l G B dy y4 1 _ e67) (shp6 G B _ kA_0) (kd_lt kA_0 (by decide)) rfl tw_595 tw_596 tw_597 ti_6 tw_598 hd_X6_feast ⟨Nat.le_of_ble_eq_true rfl, Nat.le_of_ble_eq_true rfl⟩ ⟨Nat.le_of_ble_eq_true rfl, Nat.le_of_ble_eq_true rfl⟩ rfl rfl (Nat.le_of_ble_eq_true rfl) dL_areNotchesSo_288 ?_
            refine j_icmp_le C (tgt := 299) dL_areNotchesSo_291 (by decide) (fun c68 => ?_) (fun c68 => ?_)
            · have h := ite_t h c68
              refine j_iload C (q := 4) dL_areNotchesSo_299 rfl ?_
              refine j_istore C [(0, .ref (B + 0)), (1, .int x1), (2, .int x2), (3, .int x59), (4, .int y4), (5, .int y5), (6, .int y6), (7, .int y7), (8, .int y8)] [1, 2, 3, 4, 0, 5, 6, 7, 8] dL_areNotchesSo_301 (by decide) rfl ?_
              refine j_iload C (q := 7) dL_areNotchesSo_303 rfl ?_
              refine j_istore C [(0, .ref (B + 0)), (1, .int x1), (2, .int x2), (3, .int x59), (4, .int y4), (5, .int y5), (6, .int y6), (7, .int y7), (8, .int y8), (11, .int y7)] [1, 2, 3, 4, 5, 6, 7, 8, 9, 0] dL_areNotchesSo_305 (by decide) rfl ?_
              exact J307 FU x59 y4 y5 y6 y7 y8 y7 _ h
            · have h := ite_f h c68
              refine j_iload C (q := 6) dL_areNotchesSo_294 rfl ?_
              refine j_goto C (tgt := 301) dL_areNotchesSo_296 (by decide) ?_
              refine j_istore C [(0, .ref (B + 0)), (1, .int x1), (2, .int x2), (3, .int x59), (4, .int y6), (5, .int y5), (6, .int y6), (7, .int y7), (8, .int y8)] [1, 2, 3, 4, 0, 5, 6, 7, 8] dL_areNotchesSo_301 (by decide) rfl ?_
              refine j_iload C (q := 7) dL_areNotchesSo_303 rfl ?_
              refine j_istore C [(0, .ref (B + 0)), (1, .int x1), (2, .int x2), (3, .int x59), (4, .int y6), (5, .int y5), (6, .int y6), (7, .int y7), (8, .int y8), (11, .int y7)] [1, 2, 3, 4, 5, 6, 7, 8, 9, 0] dL_areNotchesSo_305 (by decide) rfl ?_
              exact J307 FU x59 y6 y5 y6 y7 y8 y7 _ h
      have J264 : ∀ (y4 : Int32) (y5 : Int32) (y6 : Int32) (y7 : Int32) (y8 : Int32) (w0 : Int32) (t0 : St), f_L_areNotchesSo_b264 (f_L_areNotchesSo_l11 n11) x1 x2 y4 y5 y6 y7 y8 w0 t0 = some (r, t9) → WW G B p l e (RM 7 163 0 0) s m args below meth c 0 0 (MQ below (PostI G B r t9) args s 0 0 (Ab B)) 15 264 [(0, .ref (B + 0)), (1, .int x1), (2, .int x2), (4, .int y4), (5, .int y5), (6, .int y6), (7, .int y7), (8, .int y8)] [.int w0] t0 := by
        intro y4 y5 y6 y7 y8 w0 t0 h
        refine j_iconst C (v := 0) dL_areNotchesSo_264 (by decide) ?_
        exact J265 y4 y5 y6 y7 y8 0 w0 _ h
      have J201 : ∀ (n201 : Nat) (y3 : Int32) (y4 : Int32) (y5 : Int32) (y6 : Int32) (y7 : Int32) (y8 : Int32) (y11 : Int32) (t0 : St), f_L_areNotchesSo_l201 (f_L_areNotchesSo_l11 n11) n201 x1 x2 y3 y4 y5 y6 y7 y8 y11 t0 = some (r, t9) → WW G B p l e (RM 7 163 0 0) s m args below meth c 0 0 (MQ below (PostI G B r t9) args s 0 0 (Ab B)) 15 201 [(0, .ref (B + 0)), (1, .int x1), (2, .int x2), (3, .int y3), (4, .int y4), (5, .int y5), (6, .int y6), (7, .int y7), (8, .int y8), (11, .int y11)] [] t0 := by
        intro n201
        induction n201 with
        | zero => intro y3 y4 y5 y6 y7 y8 y11 t0 h; exact (no_some h).elim
        | succ n201 ih201 =>
          try clear h
          intro y3 y4 y5 y6 y7 y8 y11 t0 h
          have h : f_L_areNotchesSo_b201 (f_L_areNotchesSo_l11 n11) (f_L_areNotchesSo_l201 (f_L_areNotchesSo_l11 n11) n201) x1 x2 y3 y4 y5 y6 y7 y8 y11 t0 = some (r, t9) := h
          refine j_iload C (q := 9) dL_areNotchesSo_201 rfl ?_
          refine j_iload C (q := 6) dL_areNotchesSo_203 rfl ?_
          refine j_icmp_ge C (tgt := 246) dL_areNotchesSo_205 (by decide) (fun c69 => ?_) (fun c69 => ?_)
          · have h := ite_t h c69
            refine j_iload_n C (q := 3) dL_areNotchesSo_246 rfl rfl ?_
            refine j_iload C (q := 8) dL_areNotchesSo_247 rfl ?_
            refine j_iconst C (v := (-1)) dL_areNotchesSo_249 (by decide) ?_
            refine j_icmp_eq C (tgt := 264) dL_areNotchesSo_250 (by decide) (fun c70 => ?_) (fun c70 => ?_)
            · have h := ite_t h c70
              refine j_sub [0, 1, 2, 4, 5, 6, 7, 8] rfl ?_
              exact J264 y4 y5 y6 y7 y8 y3 _ h
            · have h := ite_f h c70
              refine j_iload C (q := 8) dL_areNotchesSo_253 rfl ?_
              refine j_iload C (q := 7) dL_areNotchesSo_255 rfl ?_
              refine j_icmp_eq C (tgt := 264) dL_areNotchesSo_257 (by decide) (fun c71 => ?_) (fun c71 => ?_)
              · have h := ite_t h c71
                refine j_sub [0, 1, 2, 4, 5, 6, 7, 8] rfl ?_
                exact J264 y4 y5 y6 y7 y8 y3 _ h
              · have h := ite_f h c71
                refine j_iconst C (v := 1) dL_areNotchesSo_260 (by decide) ?_
                refine j_goto C (tgt := 265) dL_areNotchesSo_261 (by decide) ?_
                refine j_sub [0, 1, 2, 4, 5, 6, 7, 8] rfl ?_
                exact J265 y4 y5 y6 y7 y8 1 y3 _ h
          · have h := ite_f h c69
            refine j_iload C (q := 5) dL_areNotchesSo_208 rfl ?_
            refine j_if_eq C (tgt := 237) dL_areNotchesSo_210 (by decide) (fun c72 => ?_) (fun c72 => ?_)
            · have h := ite_t h c72
              refine j_iconst C (v := 0) dL_areNotchesSo_237 (by decide) ?_
              refine j_istore C [(0, .ref (B + 0)), (1, .int x1), (2, .int x2), (3, .int y3), (4, .int y4), (5, .int 0), (6, .int y6), (7, .int y7), (8, .int y8), (11, .int y11)] [1, 2, 3, 4, 5, 0, 6, 7, 8, 9] dL_areNotchesSo_238 (by decide) rfl ?_
              obtain ⟨x73, ex73⟩ : ∃ y : Int32, y = (y11 + 1) := ⟨_, rfl⟩
              have h := lt_at h ex73
              refine j_iinc C (q := 9) [(0, .ref (B + 0)), (1, .int x1), (2, .int x2), (3, .int y3), (4, .int y4), (5, .int 0), (6, .int y6), (7, .int y7), (8, .int y8), (11, .int x73)] [1, 2, 3, 4, 5, 6, 7, 8, 9, 0] dL_areNotchesSo_240 rfl (by rw [ex73]; rfl) (by decide) rfl ?_
              refine j_goto C (tgt := 201) dL_areNotchesSo_243 (by decide) ?_
              exact ih201 y3 y4 0 y6 y7 y8 x73 _ h
            · have h := ite_f h c72
              refine j_iload C (q := 8) dL_areNotchesSo_213 rfl ?_
              refine j_iconst C (v := (-1)) dL_areNotchesSo_215 (by decide) ?_
              refine j_icmp_eq C (tgt := 233) dL_areNotchesSo_216 (by decide) (fun c74 => ?_) (fun c74 => ?_)
              · have h := ite_t h c74
                refine j_iconst C (v := 1) dL_areNotchesSo_233 (by decide) ?_
                refine j_goto C (tgt := 238) dL_areNotchesSo_234 (by decide) ?_
                refine j_istore C [(0, .ref (B + 0)), (1, .int x1), (2, .int x2), (3, .int y3), (4, .int y4), (5, .int 1), (6, .int y6), (7, .int y7), (8, .int y8), (11, .int y11)] [1, 2, 3, 4, 5, 0, 6, 7, 8, 9] dL_areNotchesSo_238 (by decide) rfl ?_
                obtain ⟨x75, ex75⟩ : ∃ y : Int32, y = (y11 + 1) := ⟨_, rfl⟩
                have h := lt_at h ex75
                refine j_iinc C (q := 9) [(0, .ref (B + 0)), (1, .int x1), (2, .int x2), (3, .int y3), (4, .int y4), (5, .int 1), (6, .int y6), (7, .int y7), (8, .int y8), (11, .int x75)] [1, 2, 3, 4, 5, 6, 7, 8, 9, 0] dL_areNotchesSo_240 rfl (by rw [ex75]; rfl) (by decide) rfl ?_
                refine j_goto C (tgt := 201) dL_areNotchesSo_243 (by decide) ?_
                exact ih201 y3 y4 1 y6 y7 y8 x75 _ h
              · have h := ite_f h c74
                refine j_iload C (q := 8) dL_areNotchesSo_219 rfl ?_
                refine j_aload_n C (q := 0) dL_areNotchesSo_221 rfl rfl ?_
                refine j_iload C (q := 9) dL_areNotchesSo_222 rfl ?_
                refine j_iload_n C (q := 1) dL_areNotchesSo_224 rfl rfl ?_
                refine j_iload_n C (q := 2) dL_areNotchesSo_225 rfl rfl ?_
                refine j_iconst C (v := 0) dL_areNotchesSo_226 (by decide) ?_
                obtain ⟨x76, t77, e78, h⟩ := bd_some h
                refine j_callV_i C (i := 0) (As := [.int y11, .int x1, .int x2, .int 0]) (rest := [.int y8]) (c_X6_when l G B dy y11 x1 x2 0 _ e78) (shp6 G B _ kA_0) (kd_lt kA_0 (by decide)) rfl tw_591 tw_592 tw_593 ti_6 tw_594 hd_X6_when ⟨Nat.le_of_ble_eq_true rfl, Nat.le_of_ble_eq_true rfl⟩ ⟨Nat.le_of_ble_eq_true rfl, Nat.le_of_ble_eq_true rfl⟩ rfl rfl (Nat.le_of_ble_eq_true rfl) dL_areNotchesSo_227 ?_
                refine j_icmp_eq C (tgt := 237) dL_areNotchesSo_230 (by decide) (fun c79 => ?_) (fun c79 => ?_)
                · have h := ite_t h c79
                  refine j_iconst C (v := 0) dL_areNotchesSo_237 (by decide) ?_
                  refine j_istore C [(0, .ref (B + 0)), (1, .int x1), (2, .int x2), (3, .int y3), (4, .int y4), (5, .int 0), (6, .int y6), (7, .int y7), (8, .int y8), (11, .int y11)] [1, 2, 3, 4, 5, 0, 6, 7, 8, 9] dL_areNotchesSo_238 (by decide) rfl ?_
                  obtain ⟨x80, ex80⟩ : ∃ y : Int32, y = (y11 + 1) := ⟨_, rfl⟩
                  have h := lt_at h ex80
                  refine j_iinc C (q := 9) [(0, .ref (B + 0)), (1, .int x1), (2, .int x2), (3, .int y3), (4, .int y4), (5, .int 0), (6, .int y6), (7, .int y7), (8, .int y8), (11, .int x80)] [1, 2, 3, 4, 5, 6, 7, 8, 9, 0] dL_areNotchesSo_240 rfl (by rw [ex80]; rfl) (by decide) rfl ?_
                  refine j_goto C (tgt := 201) dL_areNotchesSo_243 (by decide) ?_
                  exact ih201 y3 y4 0 y6 y7 y8 x80 _ h
                · have h := ite_f h c79
                  refine j_iconst C (v := 1) dL_areNotchesSo_233 (by decide) ?_
                  refine j_goto C (tgt := 238) dL_areNotchesSo_234 (by decide) ?_
                  refine j_istore C [(0, .ref (B + 0)), (1, .int x1), (2, .int x2), (3, .int y3), (4, .int y4), (5, .int 1), (6, .int y6), (7, .int y7), (8, .int y8), (11, .int y11)] [1, 2, 3, 4, 5, 0, 6, 7, 8, 9] dL_areNotchesSo_238 (by decide) rfl ?_
                  obtain ⟨x81, ex81⟩ : ∃ y : Int32, y = (y11 + 1) := ⟨_, rfl⟩
                  have h := lt_at h ex81
                  refine j_iinc C (q := 9) [(0, .ref (B + 0)), (1, .int x1), (2, .int x2), (3, .int y3), (4, .int y4), (5, .int 1), (6, .int y6), (7, .int y7), (8, .int y8), (11, .int x81)] [1, 2, 3, 4, 5, 6, 7, 8, 9, 0] dL_areNotchesSo_240 rfl (by rw [ex81]; rfl) (by decide) rfl ?_
                  refine j_goto C (tgt := 201) dL_areNotchesSo_243 (by decide) ?_
                  exact ih201 y3 y4 1 y6 y7 y8 x81 _ h
      have J160 : ∀ (y3 : Int32) (y4 : Int32) (y6 : Int32) (y7 : Int32) (y8 : Int32) (y9 : Int32) (w0 : Int32) (t0 : St), f_L_areNotchesSo_b160 (f_L_areNotchesSo_l11 n11) x1 x2 y3 y4 y6 y7 y8 y9 w0 t0 = some (r, t9) → WW G B p l e (RM 7 163 0 0) s m args below meth c 0 0 (MQ below (PostI G B r t9) args s 0 0 (Ab B)) 15 160 [(0, .ref (B + 0)), (1, .int x1), (2, .int x2), (3, .int y3), (4, .int y4), (6, .int y6), (7, .int y7), (8, .int y8), (9, .int y9)] [.int w0] t0 := by
        intro y3 y4 y6 y7 y8 y9 w0 t0 h
        refine j_istore C [(0, .ref (B + 0)), (1, .int x1), (2, .int x2), (3, .int y3), (4, .int y4), (5, .int w0), (6, .int y6), (7, .int y7), (8, .int y8), (9, .int y9)] [1, 2, 3, 4, 5, 0, 6, 7, 8, 9] dL_areNotchesSo_160 (by decide) rfl ?_
        refine j_iload C (q := 5) dL_areNotchesSo_162 rfl ?_
        refine j_if_eq C (tgt := 195) dL_areNotchesSo_164 (by decide) (fun c82 => ?_) (fun c82 => ?_)
        · have h := ite_t h c82
          refine j_iconst C (v := 0) dL_areNotchesSo_195 (by decide) ?_
          refine j_istore C [(0, .ref (B + 0)), (1, .int x1), (2, .int x2), (3, .int y3), (4, .int y4), (5, .int 0), (6, .int y6), (7, .int y7), (8, .int y8), (9, .int y9)] [1, 2, 3, 4, 5, 0, 6, 7, 8, 9] dL_areNotchesSo_196 (by decide) rfl ?_
          refine j_iconst C (v := 0) dL_areNotchesSo_198 (by decide) ?_
          refine j_istore C [(0, .ref (B + 0)), (1, .int x1), (2, .int x2), (3, .int y3), (4, .int y4), (5, .int 0), (6, .int y6), (7, .int y7), (8, .int y8), (9, .int y9), (11, .int 0)] [1, 2, 3, 4, 5, 6, 7, 8, 9, 10, 0] dL_areNotchesSo_199 (by decide) rfl ?_
          refine j_sub [0, 1, 2, 3, 4, 5, 6, 7, 8, 10] rfl ?_
          exact J201 FU y3 y4 0 y6 y7 y8 0 _ h
        · have h := ite_f h c82
          refine j_iload C (q := 9) dL_areNotchesSo_167 rfl ?_
          refine j_iconst C (v := 1) dL_areNotchesSo_169 (by decide) ?_
          refine j_icmp_gt C (tgt := 191) dL_areNotchesSo_170 (by decide) (fun c83 => ?_) (fun c83 => ?_)
          · have h := ite_t h c83
            refine j_iconst C (v := 1) dL_areNotchesSo_191 (by decide) ?_
            refine j_goto C (tgt := 196) dL_areNotchesSo_192 (by decide) ?_
            refine j_istore C [(0, .ref (B + 0)), (1, .int x1), (2, .int x2), (3, .int y3), (4, .int y4), (5, .int 1), (6, .int y6), (7, .int y7), (8, .int y8), (9, .int y9)] [1, 2, 3, 4, 5, 0, 6, 7, 8, 9] dL_areNotchesSo_196 (by decide) rfl ?_
            refine j_iconst C (v := 0) dL_areNotchesSo_198 (by decide) ?_
            refine j_istore C [(0, .ref (B + 0)), (1, .int x1), (2, .int x2), (3, .int y3), (4, .int y4), (5, .int 1), (6, .int y6), (7, .int y7), (8, .int y8), (9, .int y9), (11, .int 0)] [1, 2, 3, 4, 5, 6, 7, 8, 9, 10, 0] dL_areNotchesSo_199 (by decide) rfl ?_
            refine j_sub [0, 1, 2, 3, 4, 5, 6, 7, 8, 10] rfl ?_
            exact J201 FU y3 y4 1 y6 y7 y8 0 _ h
          · have h := ite_f h c83
            refine j_aload_n C (q := 0) dL_areNotchesSo_173 rfl rfl ?_
            refine j_iload C (q := 6) dL_areNotchesSo_174 rfl ?_
            refine j_iload_n C (q := 1) dL_areNotchesSo_176 rfl rfl ?_
            refine j_iload_n C (q := 2) dL_areNotchesSo_177 rfl rfl ?_
            refine j_iconst C (v := 1) dL_areNotchesSo_178 (by decide) ?_
            refine j_iadd C dL_areNotchesSo_179 ?_
            refine j_iconst C (v := 3) dL_areNotchesSo_180 (by decide) ?_
            refine j_irem C dL_areNotchesSo_181 (by decide) ?_
            refine j_iconst C (v := 1) dL_areNotchesSo_182 (by decide) ?_
            obtain ⟨x84, t85, e86, h⟩ := bd_some h
            refine j_callV_i C (i := 0) (As := [.int y6, .int x1, .int (rm (x2 + 1) 3), .int 1]) (rest := []) (c_X6_when l G B dy y6 x1 (rm (x2 + 1) 3) 1 _ e86) (shp6 G B _ kA_0) (kd_lt kA_0 (by decide)) rfl tw_591 tw_592 tw_593 ti_6 tw_594 hd_X6_when ⟨Nat.le_of_ble_eq_true rfl, Nat.le_of_ble_eq_true rfl⟩ ⟨Nat.le_of_ble_eq_true rfl, Nat.le_of_ble_eq_true rfl⟩ rfl rfl (Nat.le_of_ble_eq_true rfl) dL_areNotchesSo_183 ?_
            refine j_iload C (q := 7) dL_areNotchesSo_186 rfl ?_
            refine j_icmp_ne C (tgt := 195) dL_areNotchesSo_188 (by decide) (fun c87 => ?_) (fun c87 => ?_)
            · have h := ite_t h c87
              refine j_iconst C (v := 1) dL_areNotchesSo_191 (by decide) ?_
              refine j_goto C (tgt := 196) dL_areNotchesSo_192 (by decide) ?_
              refine j_istore C [(0, .ref (B + 0)), (1, .int x1), (2, .int x2), (3, .int y3), (4, .int y4), (5, .int 1), (6, .int y6), (7, .int y7), (8, .int y8), (9, .int y9)] [1, 2, 3, 4, 5, 0, 6, 7, 8, 9] dL_areNotchesSo_196 (by decide) rfl ?_
              refine j_iconst C (v := 0) dL_areNotchesSo_198 (by decide) ?_
              refine j_istore C [(0, .ref (B + 0)), (1, .int x1), (2, .int x2), (3, .int y3), (4, .int y4), (5, .int 1), (6, .int y6), (7, .int y7), (8, .int y8), (9, .int y9), (11, .int 0)] [1, 2, 3, 4, 5, 6, 7, 8, 9, 10, 0] dL_areNotchesSo_199 (by decide) rfl ?_
              refine j_sub [0, 1, 2, 3, 4, 5, 6, 7, 8, 10] rfl ?_
              exact J201 FU y3 y4 1 y6 y7 y8 0 _ h
            · have h := ite_f h c87
              refine j_iconst C (v := 0) dL_areNotchesSo_195 (by decide) ?_
              refine j_istore C [(0, .ref (B + 0)), (1, .int x1), (2, .int x2), (3, .int y3), (4, .int y4), (5, .int 0), (6, .int y6), (7, .int y7), (8, .int y8), (9, .int y9)] [1, 2, 3, 4, 5, 0, 6, 7, 8, 9] dL_areNotchesSo_196 (by decide) rfl ?_
              refine j_iconst C (v := 0) dL_areNotchesSo_198 (by decide) ?_
              refine j_istore C [(0, .ref (B + 0)), (1, .int x1), (2, .int x2), (3, .int y3), (4, .int y4), (5, .int 0), (6, .int y6), (7, .int y7), (8, .int y8), (9, .int y9), (11, .int 0)] [1, 2, 3, 4, 5, 6, 7, 8, 9, 10, 0] dL_areNotchesSo_199 (by decide) rfl ?_
              refine j_sub [0, 1, 2, 3, 4, 5, 6, 7, 8, 10] rfl ?_
              exact J201 FU y3 y4 0 y6 y7 y8 0 _ h
      have J159 : ∀ (y3 : Int32) (y4 : Int32) (y6 : Int32) (y7 : Int32) (y8 : Int32) (y9 : Int32) (t0 : St), f_L_areNotchesSo_b159 (f_L_areNotchesSo_l11 n11) x1 x2 y3 y4 y6 y7 y8 y9 t0 = some (r, t9) → WW G B p l e (RM 7 163 0 0) s m args below meth c 0 0 (MQ below (PostI G B r t9) args s 0 0 (Ab B)) 15 159 [(0, .ref (B + 0)), (1, .int x1), (2, .int x2), (3, .int y3), (4, .int y4), (6, .int y6), (7, .int y7), (8, .int y8), (9, .int y9)] [] t0 := by
        intro y3 y4 y6 y7 y8 y9 t0 h
        refine j_iconst C (v := 0) dL_areNotchesSo_159 (by decide) ?_
        exact J160 y3 y4 y6 y7 y8 y9 0 _ h
      have J132 : ∀ (y3 : Int32) (y4 : Int32) (y6 : Int32) (y7 : Int32) (y8 : Int32) (y9 : Int32) (t0 : St), f_L_areNotchesSo_b132 (f_L_areNotchesSo_l11 n11) x1 x2 y3 y4 y6 y7 y8 y9 t0 = some (r, t9) → WW G B p l e (RM 7 163 0 0) s m args below meth c 0 0 (MQ below (PostI G B r t9) args s 0 0 (Ab B)) 15 132 [(0, .ref (B + 0)), (1, .int x1), (2, .int x2), (3, .int y3), (4, .int y4), (6, .int y6), (7, .int y7), (8, .int y8), (9, .int y9)] [] t0 := by
        intro y3 y4 y6 y7 y8 y9 t0 h
        refine j_iload C (q := 6) dL_areNotchesSo_132 rfl ?_
        refine j_if_lt C (tgt := 155) dL_areNotchesSo_134 (by decide) (fun c88 => ?_) (fun c88 => ?_)
        · have h := ite_t h c88
          refine j_iconst C (v := 1) dL_areNotchesSo_155 (by decide) ?_
          refine j_goto C (tgt := 160) dL_areNotchesSo_156 (by decide) ?_
          exact J160 y3 y4 y6 y7 y8 y9 1 _ h
        · have h := ite_f h c88
          refine j_aload_n C (q := 0) dL_areNotchesSo_137 rfl rfl ?_
          refine j_iload_n C (q := 1) dL_areNotchesSo_138 rfl rfl ?_
          refine j_iload C (q := 6) dL_areNotchesSo_139 rfl ?_
          refine j_iconst C (v := 0) dL_areNotchesSo_141 (by decide) ?_
          obtain ⟨x89, t90, e91, h⟩ := bd_some h
          refine j_callV_i C (i := 0) (As := [.int x1, .int y7, .int 0]) (rest := []) (c_X6_day l G B dy x1 y7 0 _ e91) (shp6 G B _ kA_0) (kd_lt kA_0 (by decide)) rfl tw_606 tw_607 tw_608 ti_6 tw_609 hd_X6_day ⟨Nat.le_of_ble_eq_true rfl, Nat.le_of_ble_eq_true rfl⟩ ⟨Nat.le_of_ble_eq_true rfl, Nat.le_of_ble_eq_true rfl⟩ rfl rfl (Nat.le_of_ble_eq_true rfl) dL_areNotchesSo_142 ?_
          refine j_aload_n C (q := 0) dL_areNotchesSo_145 rfl rfl ?_
          refine j_iload C (q := 5) dL_areNotchesSo_146 rfl ?_
          refine j_iconst C (v := 3) dL_areNotchesSo_148 (by decide) ?_
          obtain ⟨x92, t93, e94, h⟩ := bd_some h
          refine j_callV_i C (i := 0) (As := [.int y6, .int 3]) (rest := [.int x89]) (c_X6_feast l G B dy y6 3 _ e94) (shp6 G B _ kA_0) (kd_lt kA_0 (by decide)) rfl tw_595 tw_596 tw_597 ti_6 tw_598 hd_X6_feast ⟨Nat.le_of_ble_eq_true rfl, Nat.le_of_ble_eq_true rfl⟩ ⟨Nat.le_of_ble_eq_true rfl, Nat.le_of_ble_eq_true rfl⟩ rfl rfl (Nat.le_of_ble_eq_true rfl) dL_areNotchesSo_149 ?_
          refine j_icmp_ne C (tgt := 159) dL_areNotchesSo_152 (by decide) (fun c95 => ?_) (fun c95 => ?_)
          · have h := ite_t h c95
            refine j_iconst C (v := 1) dL_areNotchesSo_155 (by decide) ?_
            refine j_goto C (tgt := 160) dL_areNotchesSo_156 (by decide) ?_
            exact J160 y3 y4 y6 y7 y8 y9 1 _ h
          · have h := ite_f h c95
            exact J159 y3 y4 y6 y7 y8 y9 _ h
      have J120 : ∀ (y3 : Int32) (y4 : Int32) (y6 : Int32) (y7 : Int32) (y8 : Int32) (y9 : Int32) (t0 : St), f_L_areNotchesSo_b120 (f_L_areNotchesSo_l11 n11) x1 x2 y3 y4 y6 y7 y8 y9 t0 = some (r, t9) → WW G B p l e (RM 7 163 0 0) s m args below meth c 0 0 (MQ below (PostI G B r t9) args s 0 0 (Ab B)) 15 120 [(0, .ref (B + 0)), (1, .int x1), (2, .int x2), (3, .int y3), (4, .int y4), (6, .int y6), (7, .int y7), (8, .int y8), (9, .int y9)] [] t0 := by
        intro y3 y4 y6 y7 y8 y9 t0 h
        refine j_iload C (q := 8) dL_areNotchesSo_120 rfl ?_
        refine j_iconst C (v := 1) dL_areNotchesSo_122 (by decide) ?_
        refine j_icmp_eq C (tgt := 132) dL_areNotchesSo_123 (by decide) (fun c96 => ?_) (fun c96 => ?_)
        · have h := ite_t h c96
          exact J132 y3 y4 y6 y7 y8 y9 _ h
        · have h := ite_f h c96
          refine j_iload C (q := 8) dL_areNotchesSo_126 rfl ?_
          refine j_iconst C (v := 2) dL_areNotchesSo_128 (by decide) ?_
          refine j_icmp_ne C (tgt := 155) dL_areNotchesSo_129 (by decide) (fun c97 => ?_) (fun c97 => ?_)
          · have h := ite_t h c97
            exact J132 y3 y4 y6 y7 y8 y9 _ h
          · have h := ite_f h c97
            refine j_iconst C (v := 1) dL_areNotchesSo_155 (by decide) ?_
            refine j_goto C (tgt := 160) dL_areNotchesSo_156 (by decide) ?_
            exact J160 y3 y4 y6 y7 y8 y9 1 _ h
      have J71 : ∀ (y3 : Int32) (y4 : Int32) (y5 : Int32) (y6 : Int32) (y7 : Int32) (y8 : Int32) (y9 : Int32) (w0 : Int32) (t0 : St), f_L_areNotchesSo_b71 (f_L_areNotchesSo_l11 n11) x1 x2 y3 y4 y5 y6 y7 y8 y9 w0 t0 = some (r, t9) → WW G B p l e (RM 7 163 0 0) s m args below meth c 0 0 (MQ below (PostI G B r t9) args s 0 0 (Ab B)) 15 71 [(0, .ref (B + 0)), (1, .int x1), (2, .int x2), (3, .int y3), (4, .int y4), (5, .int y5), (6, .int y6), (7, .int y7), (8, .int y8), (9, .int y9)] [.int w0] t0 := by
        intro y3 y4 y5 y6 y7 y8 y9 w0 t0 h
        refine j_istore C [(0, .ref (B + 0)), (1, .int x1), (2, .int x2), (3, .int y3), (4, .int y4), (5, .int y5), (6, .int y6), (7, .int y7), (8, .int y8), (9, .int y9), (10, .int w0)] [1, 2, 3, 4, 5, 6, 7, 8, 9, 10, 0] dL_areNotchesSo_71 (by decide) rfl ?_
        refine j_iload C (q := 5) dL_areNotchesSo_73 rfl ?_
        refine j_if_eq C (tgt := 159) dL_areNotchesSo_75 (by decide) (fun c98 => ?_) (fun c98 => ?_)
        · have h := ite_t h c98
          refine j_sub [0, 1, 2, 3, 4, 6, 7, 8, 9] rfl ?_
          exact J159 y3 y4 y6 y7 y8 y9 _ h
        · have h := ite_f h c98
          refine j_iload C (q := 7) dL_areNotchesSo_78 rfl ?_
          refine j_iconst C (v := (-1)) dL_areNotchesSo_80 (by decide) ?_
          refine j_icmp_ne C (tgt := 93) dL_areNotchesSo_81 (by decide) (fun c99 => ?_) (fun c99 => ?_)
          · have h := ite_t h c99
            refine j_iload C (q := 8) dL_areNotchesSo_84 rfl ?_
            refine j_iconst C (v := (-1)) dL_areNotchesSo_86 (by decide) ?_
            refine j_icmp_ne C (tgt := 159) dL_areNotchesSo_87 (by decide) (fun c107 => ?_) (fun c107 => ?_)
            · have h := ite_t h c107
              refine j_goto C (tgt := 120) dL_areNotchesSo_90 (by decide) ?_
              refine j_sub [0, 1, 2, 3, 4, 6, 7, 8, 9] rfl ?_
              exact J120 y3 y4 y6 y7 y8 y9 _ h
            · have h := ite_f h c107
              refine j_sub [0, 1, 2, 3, 4, 6, 7, 8, 9] rfl ?_
              exact J159 y3 y4 y6 y7 y8 y9 _ h
          · have h := ite_f h c99
            refine j_iload C (q := 10) dL_areNotchesSo_93 rfl ?_
            refine j_if_eq C (tgt := 159) dL_areNotchesSo_95 (by decide) (fun c100 => ?_) (fun c100 => ?_)
            · have h := ite_t h c100
              refine j_sub [0, 1, 2, 3, 4, 6, 7, 8, 9] rfl ?_
              exact J159 y3 y4 y6 y7 y8 y9 _ h
            · have h := ite_f h c100
              refine j_iload C (q := 8) dL_areNotchesSo_98 rfl ?_
              refine j_iconst C (v := (-1)) dL_areNotchesSo_100 (by decide) ?_
              refine j_icmp_eq C (tgt := 120) dL_areNotchesSo_101 (by decide) (fun c101 => ?_) (fun c101 => ?_)
              · have h := ite_t h c101
                refine j_sub [0, 1, 2, 3, 4, 6, 7, 8, 9] rfl ?_
                exact J120 y3 y4 y6 y7 y8 y9 _ h
              · have h := ite_f h c101
                refine j_iload C (q := 8) dL_areNotchesSo_104 rfl ?_
                refine j_iload C (q := 7) dL_areNotchesSo_106 rfl ?_
                refine j_icmp_lt C (tgt := 159) dL_areNotchesSo_108 (by decide) (fun c102 => ?_) (fun c102 => ?_)
                · have h := ite_t h c102
                  refine j_sub [0, 1, 2, 3, 4, 6, 7, 8, 9] rfl ?_
                  exact J159 y3 y4 y6 y7 y8 y9 _ h
                · have h := ite_f h c102
                  refine j_iload C (q := 8) dL_areNotchesSo_111 rfl ?_
                  refine j_iload_n C (q := 1) dL_areNotchesSo_113 rfl rfl ?_
                  obtain ⟨x103, t104, e105, h⟩ := bd_some h
                  refine j_callS_i C (i := 0) (As := [.int x1]) (rest := [.int y8]) (c_L_days l G B dy x1 _ e105) tw_603 tw_604 ti_L tw_605 ⟨rfl, hd_L_days⟩ ⟨Nat.le_of_ble_eq_true rfl, Nat.le_of_ble_eq_true rfl⟩ ⟨Nat.le_of_ble_eq_true rfl, Nat.le_of_ble_eq_true rfl⟩ rfl rfl (Nat.le_of_ble_eq_true rfl) dL_areNotchesSo_114 ?_
                  refine j_icmp_ge C (tgt := 159) dL_areNotchesSo_117 (by decide) (fun c106 => ?_) (fun c106 => ?_)
                  · have h := ite_t h c106
                    refine j_sub [0, 1, 2, 3, 4, 6, 7, 8, 9] rfl ?_
                    exact J159 y3 y4 y6 y7 y8 y9 _ h
                  · have h := ite_f h c106
                    refine j_sub [0, 1, 2, 3, 4, 6, 7, 8, 9] rfl ?_
                    exact J120 y3 y4 y6 y7 y8 y9 _ h
      have J70 : ∀ (y3 : Int32) (y4 : Int32) (y5 : Int32) (y6 : Int32) (y7 : Int32) (y8 : Int32) (y9 : Int32) (t0 : St), f_L_areNotchesSo_b70 (f_L_areNotchesSo_l11 n11) x1 x2 y3 y4 y5 y6 y7 y8 y9 t0 = some (r, t9) → WW G B p l e (RM 7 163 0 0) s m args below meth c 0 0 (MQ below (PostI G B r t9) args s 0 0 (Ab B)) 15 70 [(0, .ref (B + 0)), (1, .int x1), (2, .int x2), (3, .int y3), (4, .int y4), (5, .int y5), (6, .int y6), (7, .int y7), (8, .int y8), (9, .int y9)] [] t0 := by
        intro y3 y4 y5 y6 y7 y8 y9 t0 h
        refine j_iconst C (v := 0) dL_areNotchesSo_70 (by decide) ?_
        exact J71 y3 y4 y5 y6 y7 y8 y9 0 _ h
      intro y3 y4 y5 y6 t0 h
      have h : f_L_areNotchesSo_b11 (f_L_areNotchesSo_l11 n11) x1 x2 y3 y4 y5 y6 t0 = some (r, t9) := h
      refine j_iload C (q := 6) dL_areNotchesSo_11 rfl ?_
      refine j_aload_n C (q := 0) dL_areNotchesSo_13 rfl rfl ?_
      refine j_iconst C (v := 0) dL_areNotchesSo_14 (by decide) ?_
      obtain ⟨x108, t109, e110, h⟩ := bd_some h
      refine j_callV_i C (i := 0) (As := [.int 0]) (rest := [.int y6]) (c_X6_count l G B dy 0 _ e110) (shp6 G B _ kA_0) (kd_lt kA_0 (by decide)) rfl tw_392 tw_393 tw_394 ti_6 tw_395 hd_X6_count ⟨Nat.le_of_ble_eq_true rfl, Nat.le_of_ble_eq_true rfl⟩ ⟨Nat.le_of_ble_eq_true rfl, Nat.le_of_ble_eq_true rfl⟩ rfl rfl (Nat.le_of_ble_eq_true rfl) dL_areNotchesSo_15 ?_
      refine j_icmp_ge C (tgt := 449) dL_areNotchesSo_18 (by decide) (fun c111 => ?_) (fun c111 => ?_)
      · have h := ite_t h c111
        refine j_iload C (q := 5) dL_areNotchesSo_449 rfl ?_
        refine j_if_eq C (tgt := 494) dL_areNotchesSo_451 (by decide) (fun c112 => ?_) (fun c112 => ?_)
        · have h := ite_t h c112
          refine j_iconst C (v := 0) dL_areNotchesSo_494 (by decide) ?_
          exact j_zret C hr hlk (Or.inl rfl) h ⟨Nat.le_of_ble_eq_true rfl, Nat.le_of_ble_eq_true rfl⟩ dL_areNotchesSo_495
        · have h := ite_f h c112
          refine j_iload_n C (q := 3) dL_areNotchesSo_454 rfl rfl ?_
          refine j_aload_n C (q := 0) dL_areNotchesSo_455 rfl rfl ?_
          refine j_iload_n C (q := 1) dL_areNotchesSo_456 rfl rfl ?_
          refine j_iload_n C (q := 2) dL_areNotchesSo_457 rfl rfl ?_
          obtain ⟨x113, t114, e115, h⟩ := bd_some h
          refine j_callV_i C (i := 0) (As := [.int x1, .int x2]) (rest := [.int y3]) (c_X6_moved l G B dy x1 x2 _ e115) (shp6 G B _ kA_0) (kd_lt kA_0 (by decide)) rfl tw_632 tw_633 tw_634 ti_6 tw_635 hd_X6_moved ⟨Nat.le_of_ble_eq_true rfl, Nat.le_of_ble_eq_true rfl⟩ ⟨Nat.le_of_ble_eq_true rfl, Nat.le_of_ble_eq_true rfl⟩ rfl rfl (Nat.le_of_ble_eq_true rfl) dL_areNotchesSo_458 ?_
          refine j_icmp_ne C (tgt := 494) dL_areNotchesSo_461 (by decide) (fun c116 => ?_) (fun c116 => ?_)
          · have h := ite_t h c116
            refine j_iload C (q := 4) dL_areNotchesSo_464 rfl ?_
            refine j_if_lt C (tgt := 490) dL_areNotchesSo_466 (by decide) (fun c117 => ?_) (fun c117 => ?_)
            · have h := ite_t h c117
              refine j_iconst C (v := 1) dL_areNotchesSo_490 (by decide) ?_
              refine j_goto C (tgt := 495) dL_areNotchesSo_491 (by decide) ?_
              exact j_zret C hr hlk (Or.inr rfl) h ⟨Nat.le_of_ble_eq_true rfl, Nat.le_of_ble_eq_true rfl⟩ dL_areNotchesSo_495
            · have h := ite_f h c117
              refine j_aload_n C (q := 0) dL_areNotchesSo_469 rfl rfl ?_
              refine j_iload C (q := 4) dL_areNotchesSo_470 rfl ?_
              refine j_iload_n C (q := 1) dL_areNotchesSo_472 rfl rfl ?_
              refine j_iload_n C (q := 2) dL_areNotchesSo_473 rfl rfl ?_
              refine j_iconst C (v := 0) dL_areNotchesSo_474 (by decide) ?_
              obtain ⟨x118, t119, e120, h⟩ := bd_some h
              refine j_callV_i C (i := 0) (As := [.int y4, .int x1, .int x2, .int 0]) (rest := []) (c_X6_when l G B dy y4 x1 x2 0 _ e120) (shp6 G B _ kA_0) (kd_lt kA_0 (by decide)) rfl tw_591 tw_592 tw_593 ti_6 tw_594 hd_X6_when ⟨Nat.le_of_ble_eq_true rfl, Nat.le_of_ble_eq_true rfl⟩ ⟨Nat.le_of_ble_eq_true rfl, Nat.le_of_ble_eq_true rfl⟩ rfl rfl (Nat.le_of_ble_eq_true rfl) dL_areNotchesSo_475 ?_
              refine j_aload_n C (q := 0) dL_areNotchesSo_478 rfl rfl ?_
              refine j_iload C (q := 4) dL_areNotchesSo_479 rfl ?_
              refine j_iload_n C (q := 1) dL_areNotchesSo_481 rfl rfl ?_
              refine j_iload_n C (q := 2) dL_areNotchesSo_482 rfl rfl ?_
              refine j_iconst C (v := 1) dL_areNotchesSo_483 (by decide) ?_
              obtain ⟨x121, t122, e123, h⟩ := bd_some h
              refine j_callV_i C (i := 0) (As := [.int y4, .int x1, .int x2, .int 1]) (rest := [.int x118]) (c_X6_when l G B dy y4 x1 x2 1 _ e123) (shp6 G B _ kA_0) (kd_lt kA_0 (by decide)) rfl tw_591 tw_592 tw_593 ti_6 tw_594 hd_X6_when ⟨Nat.le_of_ble_eq_true rfl, Nat.le_of_ble_eq_true rfl⟩ ⟨Nat.le_of_ble_eq_true rfl, Nat.le_of_ble_eq_true rfl⟩ rfl rfl (Nat.le_of_ble_eq_true rfl) dL_areNotchesSo_484 ?_
              refine j_icmp_ne C (tgt := 494) dL_areNotchesSo_487 (by decide) (fun c124 => ?_) (fun c124 => ?_)
              · have h := ite_t h c124
                refine j_iconst C (v := 1) dL_areNotchesSo_490 (by decide) ?_
                refine j_goto C (tgt := 495) dL_areNotchesSo_491 (by decide) ?_
                exact j_zret C hr hlk (Or.inr rfl) h ⟨Nat.le_of_ble_eq_true rfl, Nat.le_of_ble_eq_true rfl⟩ dL_areNotchesSo_495
              · have h := ite_f h c124
                refine j_iconst C (v := 0) dL_areNotchesSo_494 (by decide) ?_
                exact j_zret C hr hlk (Or.inl rfl) h ⟨Nat.le_of_ble_eq_true rfl, Nat.le_of_ble_eq_true rfl⟩ dL_areNotchesSo_495
          · have h := ite_f h c116
            refine j_iconst C (v := 0) dL_areNotchesSo_494 (by decide) ?_
            exact j_zret C hr hlk (Or.inl rfl) h ⟨Nat.le_of_ble_eq_true rfl, Nat.le_of_ble_eq_true rfl⟩ dL_areNotchesSo_495
      · have h := ite_f h c111
        refine j_aload_n C (q := 0) dL_areNotchesSo_21 rfl rfl ?_
        refine j_iload C (q := 6) dL_areNotchesSo_22 rfl ?_
        refine j_iload_n C (q := 1) dL_areNotchesSo_24 rfl rfl ?_
        refine j_iload_n C (q := 2) dL_areNotchesSo_25 rfl rfl ?_
        refine j_iconst C (v := 1) dL_areNotchesSo_26 (by decide) ?_
        obtain ⟨x125, t126, e127, h⟩ := bd_some h
        refine j_callV_i C (i := 0) (As := [.int y6, .int x1, .int x2, .int 1]) (rest := []) (c_X6_when l G B dy y6 x1 x2 1 _ e127) (shp6 G B _ kA_0) (kd_lt kA_0 (by decide)) rfl tw_591 tw_592 tw_593 ti_6 tw_594 hd_X6_when ⟨Nat.le_of_ble_eq_true rfl, Nat.le_of_ble_eq_true rfl⟩ ⟨Nat.le_of_ble_eq_true rfl, Nat.le_of_ble_eq_true rfl⟩ rfl rfl (Nat.le_of_ble_eq_true rfl) dL_areNotchesSo_27 ?_
        refine j_istore C [(0, .ref (B + 0)), (1, .int x1), (2, .int x2), (3, .int y3), (4, .int y4), (5, .int y5), (6, .int y6), (7, .int x125)] [1, 2, 3, 4, 5, 6, 7, 0] dL_areNotchesSo_30 (by decide) rfl ?_
        refine j_aload_n C (q := 0) dL_areNotchesSo_32 rfl rfl ?_
        refine j_iload C (q := 6) dL_areNotchesSo_33 rfl ?_
        refine j_iload_n C (q := 1) dL_areNotchesSo_35 rfl rfl ?_
        refine j_iload_n C (q := 2) dL_areNotchesSo_36 rfl rfl ?_
        refine j_iconst C (v := 0) dL_areNotchesSo_37 (by decide) ?_
        obtain ⟨x128, t129, e130, h⟩ := bd_some h
        refine j_callV_i C (i := 0) (As := [.int y6, .int x1, .int x2, .int 0]) (rest := []) (c_X6_when l G B dy y6 x1 x2 0 _ e130) (shp6 G B _ kA_0) (kd_lt kA_0 (by decide)) rfl tw_591 tw_592 tw_593 ti_6 tw_594 hd_X6_when ⟨Nat.le_of_ble_eq_true rfl, Nat.le_of_ble_eq_true rfl⟩ ⟨Nat.le_of_ble_eq_true rfl, Nat.le_of_ble_eq_true rfl⟩ rfl rfl (Nat.le_of_ble_eq_true rfl) dL_areNotchesSo_38 ?_
        refine j_istore C [(0, .ref (B + 0)), (1, .int x1), (2, .int x2), (3, .int y3), (4, .int y4), (5, .int y5), (6, .int y6), (7, .int x125), (8, .int x128)] [1, 2, 3, 4, 5, 6, 7, 8, 0] dL_areNotchesSo_41 (by decide) rfl ?_
        refine j_aload_n C (q := 0) dL_areNotchesSo_43 rfl rfl ?_
        refine j_iload C (q := 6) dL_areNotchesSo_44 rfl ?_
        refine j_iconst C (v := 0) dL_areNotchesSo_46 (by decide) ?_
        obtain ⟨x131, t132, e133, h⟩ := bd_some h
        refine j_callV_i C (i := 0) (As := [.int y6, .int 0]) (rest := []) (c_X6_feast l G B dy y6 0 _ e133) (shp6 G B _ kA_0) (kd_lt kA_0 (by decide)) rfl tw_595 tw_596 tw_597 ti_6 tw_598 hd_X6_feast ⟨Nat.le_of_ble_eq_true rfl, Nat.le_of_ble_eq_true rfl⟩ ⟨Nat.le_of_ble_eq_true rfl, Nat.le_of_ble_eq_true rfl⟩ rfl rfl (Nat.le_of_ble_eq_true rfl) dL_areNotchesSo_47 ?_
        refine j_istore C [(0, .ref (B + 0)), (1, .int x1), (2, .int x2), (3, .int y3), (4, .int y4), (5, .int y5), (6, .int y6), (7, .int x125), (8, .int x128), (9, .int x131)] [1, 2, 3, 4, 5, 6, 7, 8, 9, 0] dL_areNotchesSo_50 (by decide) rfl ?_
        refine j_iload C (q := 7) dL_areNotchesSo_52 rfl ?_
        refine j_if_lt C (tgt := 70) dL_areNotchesSo_54 (by decide) (fun c134 => ?_) (fun c134 => ?_)
        · have h := ite_t h c134
          exact J70 y3 y4 y5 y6 x125 x128 x131 _ h
        · have h := ite_f h c134
          refine j_iload C (q := 7) dL_areNotchesSo_57 rfl ?_
          refine j_iload_n C (q := 1) dL_areNotchesSo_59 rfl rfl ?_
          obtain ⟨x135, t136, e137, h⟩ := bd_some h
          refine j_callS_i C (i := 0) (As := [.int x1]) (rest := [.int x125]) (c_L_days l G B dy x1 _ e137) tw_603 tw_604 ti_L tw_605 ⟨rfl, hd_L_days⟩ ⟨Nat.le_of_ble_eq_true rfl, Nat.le_of_ble_eq_true rfl⟩ ⟨Nat.le_of_ble_eq_true rfl, Nat.le_of_ble_eq_true rfl⟩ rfl rfl (Nat.le_of_ble_eq_true rfl) dL_areNotchesSo_60 ?_
          refine j_icmp_ge C (tgt := 70) dL_areNotchesSo_63 (by decide) (fun c138 => ?_) (fun c138 => ?_)
          · have h := ite_t h c138
            exact J70 y3 y4 y5 y6 x125 x128 x131 _ h
          · have h := ite_f h c138
            refine j_iconst C (v := 1) dL_areNotchesSo_66 (by decide) ?_
            refine j_goto C (tgt := 71) dL_areNotchesSo_67 (by decide) ?_
            exact J71 y3 y4 y5 y6 x125 x128 x131 1 _ h
  refine j_iconst C (v := 0) dL_areNotchesSo_0 (by decide) ?_
  refine j_istore_n C [(0, .ref (B + 0)), (1, .int x1), (2, .int x2), (3, .int 0)] [1, 2, 3, 0] dL_areNotchesSo_1 rfl (by decide) rfl ?_
  refine j_iconst C (v := (-1)) dL_areNotchesSo_2 (by decide) ?_
  refine j_istore C [(0, .ref (B + 0)), (1, .int x1), (2, .int x2), (3, .int 0), (4, .int (-1))] [1, 2, 3, 4, 0] dL_areNotchesSo_3 (by decide) rfl ?_
  refine j_iconst C (v := 1) dL_areNotchesSo_5 (by decide) ?_
  refine j_istore C [(0, .ref (B + 0)), (1, .int x1), (2, .int x2), (3, .int 0), (4, .int (-1)), (5, .int 1)] [1, 2, 3, 4, 5, 0] dL_areNotchesSo_6 (by decide) rfl ?_
  refine j_iconst C (v := 0) dL_areNotchesSo_8 (by decide) ?_
  refine j_istore C [(0, .ref (B + 0)), (1, .int x1), (2, .int x2), (3, .int 0), (4, .int (-1)), (5, .int 1), (6, .int 0)] [1, 2, 3, 4, 5, 6, 0] dL_areNotchesSo_9 (by decide) rfl ?_
  exact J11 FU 0 (-1) 1 0 _ h
set_option maxRecDepth 100000 in
set_option maxHeartbeats 4000000 in
theorem c_L_areQuarrelsSo (l : Launch) (G : GG) (B dy : Nat) (x1 : Int32) (t0 : St) {r : Int32} {t9 : St} (h : f_L_areQuarrelsSo x1 t0 = some (r, t9)) : Ct l G B dy yL_areQuarrelsSo cL_areQuarrelsSo 8 (some .boolean) 7 163 0 0 [.ref (B + 0), .int x1] t0 (PostI G B r t9) := by
  refine Ct_of (by decide +kernel) [(0, .ref (B + 0)), (1, .int x1)] (Nat.le_of_ble_eq_true rfl) rfl ?_
  intro p e s m args below meth c C hr hlk
  have J7 : ∀ (n7 : Nat) (y2 : Int32) (y3 : Int32) (y4 : Int32) (t0 : St), f_L_areQuarrelsSo_l7 n7 x1 y2 y3 y4 t0 = some (r, t9) → WW G B p l e (RM 7 163 0 0) s m args below meth c 0 0 (MQ below (PostI G B r t9) args s 0 0 (Ab B)) 8 7 [(0, .ref (B + 0)), (1, .int x1), (2, .int y2), (3, .int y3), (4, .int y4)] [] t0 := by
    intro n7
    induction n7 with
    | zero => intro y2 y3 y4 t0 h; exact (no_some h).elim
    | succ n7 ih7 =>
      try clear h
      have J97 : ∀ (y2 : Int32) (y4 : Int32) (w0 : Int32) (w1 : Int32) (t0 : St), f_L_areQuarrelsSo_b97 (f_L_areQuarrelsSo_l7 n7) x1 y2 y4 w0 w1 t0 = some (r, t9) → WW G B p l e (RM 7 163 0 0) s m args below meth c 0 0 (MQ below (PostI G B r t9) args s 0 0 (Ab B)) 8 97 [(0, .ref (B + 0)), (1, .int x1), (2, .int y2), (4, .int y4)] [.int w0, .int w1] t0 := by
        intro y2 y4 w0 w1 t0 h
        refine j_icmp_ne C (tgt := 104) dL_areQuarrelsSo_97 (by decide) (fun c21 => ?_) (fun c21 => ?_)
        · have h := ite_t h c21
          refine j_iconst C (v := 1) dL_areQuarrelsSo_100 (by decide) ?_
          refine j_goto C (tgt := 105) dL_areQuarrelsSo_101 (by decide) ?_
          refine j_istore_n C [(0, .ref (B + 0)), (1, .int x1), (2, .int y2), (3, .int 1), (4, .int y4)] [1, 2, 3, 0, 4] dL_areQuarrelsSo_105 rfl (by decide) rfl ?_
          obtain ⟨x23, ex23⟩ : ∃ y : Int32, y = (y4 + 1) := ⟨_, rfl⟩
          have h := lt_at h ex23
          refine j_iinc C (q := 4) [(0, .ref (B + 0)), (1, .int x1), (2, .int y2), (3, .int 1), (4, .int x23)] [1, 2, 3, 4, 0] dL_areQuarrelsSo_106 rfl (by rw [ex23]; rfl) (by decide) rfl ?_
          refine j_goto C (tgt := 7) dL_areQuarrelsSo_109 (by decide) ?_
          exact ih7 y2 1 x23 _ h
        · have h := ite_f h c21
          refine j_iconst C (v := 0) dL_areQuarrelsSo_104 (by decide) ?_
          refine j_istore_n C [(0, .ref (B + 0)), (1, .int x1), (2, .int y2), (3, .int 0), (4, .int y4)] [1, 2, 3, 0, 4] dL_areQuarrelsSo_105 rfl (by decide) rfl ?_
          obtain ⟨x22, ex22⟩ : ∃ y : Int32, y = (y4 + 1) := ⟨_, rfl⟩
          have h := lt_at h ex22
          refine j_iinc C (q := 4) [(0, .ref (B + 0)), (1, .int x1), (2, .int y2), (3, .int 0), (4, .int x22)] [1, 2, 3, 4, 0] dL_areQuarrelsSo_106 rfl (by rw [ex22]; rfl) (by decide) rfl ?_
          refine j_goto C (tgt := 7) dL_areQuarrelsSo_109 (by decide) ?_
          exact ih7 y2 0 x22 _ h
      have J70 : ∀ (y3 : Int32) (y4 : Int32) (y5 : Int32) (y6 : Int32) (y7 : Int32) (w0 : Int32) (w1 : Int32) (t0 : St), f_L_areQuarrelsSo_b70 (f_L_areQuarrelsSo_l7 n7) x1 y3 y4 y5 y6 y7 w0 w1 t0 = some (r, t9) → WW G B p l e (RM 7 163 0 0) s m args below meth c 0 0 (MQ below (PostI G B r t9) args s 0 0 (Ab B)) 8 70 [(0, .ref (B + 0)), (1, .int x1), (3, .int y3), (4, .int y4), (5, .int y5), (6, .int y6), (7, .int y7)] [.int w0, .int w1] t0 := by
        intro y3 y4 y5 y6 y7 w0 w1 t0 h
        refine j_iadd C dL_areQuarrelsSo_70 ?_
        refine j_topi (fun x24 ex24 => ?_)
        have h := lt_at h ex24
        refine j_istore_n C [(0, .ref (B + 0)), (1, .int x1), (2, .int x24), (3, .int y3), (4, .int y4), (5, .int y5), (6, .int y6), (7, .int y7)] [1, 2, 0, 3, 4, 5, 6, 7] dL_areQuarrelsSo_71 rfl (by decide) rfl ?_
        refine j_iload_n C (q := 3) dL_areQuarrelsSo_72 rfl rfl ?_
        refine j_if_eq C (tgt := 104) dL_areQuarrelsSo_73 (by decide) (fun c25 => ?_) (fun c25 => ?_)
        · have h := ite_t h c25
          refine j_iconst C (v := 0) dL_areQuarrelsSo_104 (by decide) ?_
          refine j_istore_n C [(0, .ref (B + 0)), (1, .int x1), (2, .int x24), (3, .int 0), (4, .int y4), (5, .int y5), (6, .int y6), (7, .int y7)] [1, 2, 3, 0, 4, 5, 6, 7] dL_areQuarrelsSo_105 rfl (by decide) rfl ?_
          obtain ⟨x26, ex26⟩ : ∃ y : Int32, y = (y4 + 1) := ⟨_, rfl⟩
          have h := lt_at h ex26
          refine j_iinc C (q := 4) [(0, .ref (B + 0)), (1, .int x1), (2, .int x24), (3, .int 0), (4, .int x26), (5, .int y5), (6, .int y6), (7, .int y7)] [1, 2, 3, 4, 0, 5, 6, 7] dL_areQuarrelsSo_106 rfl (by rw [ex26]; rfl) (by decide) rfl ?_
          refine j_goto C (tgt := 7) dL_areQuarrelsSo_109 (by decide) ?_
          refine j_sub [0, 1, 2, 3, 4] rfl ?_
          exact ih7 x24 0 x26 _ h
        · have h := ite_f h c25
          refine j_aload_n C (q := 0) dL_areQuarrelsSo_76 rfl rfl ?_
          refine j_iload C (q := 4) dL_areQuarrelsSo_77 rfl ?_
          refine j_iload_n C (q := 1) dL_areQuarrelsSo_79 rfl rfl ?_
          obtain ⟨x27, t28, e29, h⟩ := bd_some h
          refine j_callV_i C (i := 0) (As := [.int y4, .int x1]) (rest := []) (c_X6_settled l G B dy y4 x1 _ e29) (shp6 G B _ kA_0) (kd_lt kA_0 (by decide)) rfl tw_643 tw_644 tw_645 ti_6 tw_646 hd_X6_settled ⟨Nat.le_of_ble_eq_true rfl, Nat.le_of_ble_eq_true rfl⟩ ⟨Nat.le_of_ble_eq_true rfl, Nat.le_of_ble_eq_true rfl⟩ rfl rfl (Nat.le_of_ble_eq_true rfl) dL_areQuarrelsSo_80 ?_
          refine j_iload C (q := 6) dL_areQuarrelsSo_83 rfl ?_
          refine j_iload C (q := 7) dL_areQuarrelsSo_85 rfl ?_
          refine j_icmp_ne C (tgt := 95) dL_areQuarrelsSo_87 (by decide) (fun c30 => ?_) (fun c30 => ?_)
          · have h := ite_t h c30
            refine j_iload C (q := 6) dL_areQuarrelsSo_90 rfl ?_
            refine j_goto C (tgt := 97) dL_areQuarrelsSo_92 (by decide) ?_
            refine j_sub [0, 1, 2, 4] rfl ?_
            exact J97 x24 y4 y6 x27 _ h
          · have h := ite_f h c30
            refine j_iload C (q := 5) dL_areQuarrelsSo_95 rfl ?_
            refine j_sub [0, 1, 2, 4] rfl ?_
            exact J97 x24 y4 y5 x27 _ h
      have J69 : ∀ (y3 : Int32) (y4 : Int32) (y5 : Int32) (y6 : Int32) (y7 : Int32) (w0 : Int32) (t0 : St), f_L_areQuarrelsSo_b69 (f_L_areQuarrelsSo_l7 n7) x1 y3 y4 y5 y6 y7 w0 t0 = some (r, t9) → WW G B p l e (RM 7 163 0 0) s m args below meth c 0 0 (MQ below (PostI G B r t9) args s 0 0 (Ab B)) 8 69 [(0, .ref (B + 0)), (1, .int x1), (3, .int y3), (4, .int y4), (5, .int y5), (6, .int y6), (7, .int y7)] [.int w0] t0 := by
        intro y3 y4 y5 y6 y7 w0 t0 h
        refine j_iconst C (v := 1) dL_areQuarrelsSo_69 (by decide) ?_
        exact J70 y3 y4 y5 y6 y7 1 w0 _ h
      intro y2 y3 y4 t0 h
      have h : f_L_areQuarrelsSo_b7 (f_L_areQuarrelsSo_l7 n7) x1 y2 y3 y4 t0 = some (r, t9) := h
      refine j_iload C (q := 4) dL_areQuarrelsSo_7 rfl ?_
      refine j_aload_n C (q := 0) dL_areQuarrelsSo_9 rfl rfl ?_
      refine j_iconst C (v := 0) dL_areQuarrelsSo_10 (by decide) ?_
      obtain ⟨x31, t32, e33, h⟩ := bd_some h
      refine j_callV_i C (i := 0) (As := [.int 0]) (rest := [.int y4]) (c_X6_count l G B dy 0 _ e33) (shp6 G B _ kA_0) (kd_lt kA_0 (by decide)) rfl tw_392 tw_393 tw_394 ti_6 tw_395 hd_X6_count ⟨Nat.le_of_ble_eq_true rfl, Nat.le_of_ble_eq_true rfl⟩ ⟨Nat.le_of_ble_eq_true rfl, Nat.le_of_ble_eq_true rfl⟩ rfl rfl (Nat.le_of_ble_eq_true rfl) dL_areQuarrelsSo_11 ?_
      refine j_icmp_ge C (tgt := 112) dL_areQuarrelsSo_14 (by decide) (fun c34 => ?_) (fun c34 => ?_)
      · have h := ite_t h c34
        refine j_iload_n C (q := 3) dL_areQuarrelsSo_112 rfl rfl ?_
        refine j_if_eq C (tgt := 159) dL_areQuarrelsSo_113 (by decide) (fun c35 => ?_) (fun c35 => ?_)
        · have h := ite_t h c35
          refine j_iconst C (v := 0) dL_areQuarrelsSo_159 (by decide) ?_
          exact j_zret C hr hlk (Or.inl rfl) h ⟨Nat.le_of_ble_eq_true rfl, Nat.le_of_ble_eq_true rfl⟩ dL_areQuarrelsSo_160
        · have h := ite_f h c35
          refine j_iload_n C (q := 2) dL_areQuarrelsSo_116 rfl rfl ?_
          refine j_aload_n C (q := 0) dL_areQuarrelsSo_117 rfl rfl ?_
          refine j_iload_n C (q := 1) dL_areQuarrelsSo_118 rfl rfl ?_
          obtain ⟨x36, t37, e38, h⟩ := bd_some h
          refine j_callV_i C (i := 0) (As := [.int x1]) (rest := [.int y2]) (c_X6_quarrels l G B dy x1 _ e38) (shp6 G B _ kA_0) (kd_lt kA_0 (by decide)) rfl tw_647 tw_648 tw_649 ti_6 tw_650 hd_X6_quarrels ⟨Nat.le_of_ble_eq_true rfl, Nat.le_of_ble_eq_true rfl⟩ ⟨Nat.le_of_ble_eq_true rfl, Nat.le_of_ble_eq_true rfl⟩ rfl rfl (Nat.le_of_ble_eq_true rfl) dL_areQuarrelsSo_119 ?_
          refine j_icmp_ne C (tgt := 159) dL_areQuarrelsSo_122 (by decide) (fun c39 => ?_) (fun c39 => ?_)
          · have h := ite_t h c39
            refine j_iload_n C (q := 2) dL_areQuarrelsSo_125 rfl rfl ?_
            refine j_if_eq C (tgt := 155) dL_areQuarrelsSo_126 (by decide) (fun c40 => ?_) (fun c40 => ?_)
            · have h := ite_t h c40
              refine j_iconst C (v := 1) dL_areQuarrelsSo_155 (by decide) ?_
              refine j_goto C (tgt := 160) dL_areQuarrelsSo_156 (by decide) ?_
              exact j_zret C hr hlk (Or.inr rfl) h ⟨Nat.le_of_ble_eq_true rfl, Nat.le_of_ble_eq_true rfl⟩ dL_areQuarrelsSo_160
            · have h := ite_f h c40
              refine j_aload_n C (q := 0) dL_areQuarrelsSo_129 rfl rfl ?_
              refine j_iconst C (v := 2) dL_areQuarrelsSo_130 (by decide) ?_
              obtain ⟨x41, t42, e43, h⟩ := bd_some h
              refine j_callV_i C (i := 0) (As := [.int 2]) (rest := []) (c_X6_count l G B dy 2 _ e43) (shp6 G B _ kA_0) (kd_lt kA_0 (by decide)) rfl tw_392 tw_393 tw_394 ti_6 tw_395 hd_X6_count ⟨Nat.le_of_ble_eq_true rfl, Nat.le_of_ble_eq_true rfl⟩ ⟨Nat.le_of_ble_eq_true rfl, Nat.le_of_ble_eq_true rfl⟩ rfl rfl (Nat.le_of_ble_eq_true rfl) dL_areQuarrelsSo_131 ?_
              refine j_aload_n C (q := 0) dL_areQuarrelsSo_134 rfl rfl ?_
              refine j_iconst C (v := 3) dL_areQuarrelsSo_135 (by decide) ?_
              obtain ⟨x44, t45, e46, h⟩ := bd_some h
              refine j_callV_i C (i := 0) (As := [.int 3]) (rest := [.int x41]) (c_X6_count l G B dy 3 _ e46) (shp6 G B _ kA_0) (kd_lt kA_0 (by decide)) rfl tw_392 tw_393 tw_394 ti_6 tw_395 hd_X6_count ⟨Nat.le_of_ble_eq_true rfl, Nat.le_of_ble_eq_true rfl⟩ ⟨Nat.le_of_ble_eq_true rfl, Nat.le_of_ble_eq_true rfl⟩ rfl rfl (Nat.le_of_ble_eq_true rfl) dL_areQuarrelsSo_136 ?_
              refine j_icmp_ne C (tgt := 155) dL_areQuarrelsSo_139 (by decide) (fun c47 => ?_) (fun c47 => ?_)
              · have h := ite_t h c47
                refine j_aload_n C (q := 0) dL_areQuarrelsSo_142 rfl rfl ?_
                refine j_iconst C (v := 3) dL_areQuarrelsSo_143 (by decide) ?_
                obtain ⟨x48, t49, e50, h⟩ := bd_some h
                refine j_callV_i C (i := 0) (As := [.int 3]) (rest := []) (c_X6_count l G B dy 3 _ e50) (shp6 G B _ kA_0) (kd_lt kA_0 (by decide)) rfl tw_392 tw_393 tw_394 ti_6 tw_395 hd_X6_count ⟨Nat.le_of_ble_eq_true rfl, Nat.le_of_ble_eq_true rfl⟩ ⟨Nat.le_of_ble_eq_true rfl, Nat.le_of_ble_eq_true rfl⟩ rfl rfl (Nat.le_of_ble_eq_true rfl) dL_areQuarrelsSo_144 ?_
                refine j_aload_n C (q := 0) dL_areQuarrelsSo_147 rfl rfl ?_
                refine j_iconst C (v := 4) dL_areQuarrelsSo_148 (by decide) ?_
                obtain ⟨x51, t52, e53, h⟩ := bd_some h
                refine j_callV_i C (i := 0) (As := [.int 4]) (rest := [.int x48]) (c_X6_count l G B dy 4 _ e53) (shp6 G B _ kA_0) (kd_lt kA_0 (by decide)) rfl tw_392 tw_393 tw_394 ti_6 tw_395 hd_X6_count ⟨Nat.le_of_ble_eq_true rfl, Nat.le_of_ble_eq_true rfl⟩ ⟨Nat.le_of_ble_eq_true rfl, Nat.le_of_ble_eq_true rfl⟩ rfl rfl (Nat.le_of_ble_eq_true rfl) dL_areQuarrelsSo_149 ?_
                refine j_icmp_eq C (tgt := 159) dL_areQuarrelsSo_152 (by decide) (fun c54 => ?_) (fun c54 => ?_)
                · have h := ite_t h c54
                  refine j_iconst C (v := 0) dL_areQuarrelsSo_159 (by decide) ?_
                  exact j_zret C hr hlk (Or.inl rfl) h ⟨Nat.le_of_ble_eq_true rfl, Nat.le_of_ble_eq_true rfl⟩ dL_areQuarrelsSo_160
                · have h := ite_f h c54
                  refine j_iconst C (v := 1) dL_areQuarrelsSo_155 (by decide) ?_
                  refine j_goto C (tgt := 160) dL_areQuarrelsSo_156 (by decide) ?_
                  exact j_zret C hr hlk (Or.inr rfl) h ⟨Nat.le_of_ble_eq_true rfl, Nat.le_of_ble_eq_true rfl⟩ dL_areQuarrelsSo_160
              · have h := ite_f h c47
                refine j_iconst C (v := 1) dL_areQuarrelsSo_155 (by decide) ?_
                refine j_goto C (tgt := 160) dL_areQuarrelsSo_156 (by decide) ?_
                exact j_zret C hr hlk (Or.inr rfl) h ⟨Nat.le_of_ble_eq_true rfl, Nat.le_of_ble_eq_true rfl⟩ dL_areQuarrelsSo_160
          · have h := ite_f h c39
            refine j_iconst C (v := 0) dL_areQuarrelsSo_159 (by decide) ?_
            exact j_zret C hr hlk (Or.inl rfl) h ⟨Nat.le_of_ble_eq_true rfl, Nat.le_of_ble_eq_true rfl⟩ dL_areQuarrelsSo_160
      · have h := ite_f h c34
        refine j_aload_n C (q := 0) dL_areQuarrelsSo_17 rfl rfl ?_
        refine j_iload C (q := 4) dL_areQuarrelsSo_18 rfl ?_
        refine j_iload_n C (q := 1) dL_areQuarrelsSo_20 rfl rfl ?_
        refine j_iconst C (v := 0) dL_areQuarrelsSo_21 (by decide) ?_
        refine j_iconst C (v := 0) dL_areQuarrelsSo_22 (by decide) ?_
        obtain ⟨x55, t56, e57, h⟩ := bd_some h
        refine j_callV_i C (i := 0) (As := [.int y4, .int x1, .int 0, .int 0]) (rest := []) (c_X6_when l G B dy y4 x1 0 0 _ e57) (shp6 G B _ kA_0) (kd_lt kA_0 (by decide)) rfl tw_591 tw_592 tw_593 ti_6 tw_594 hd_X6_when ⟨Nat.le_of_ble_eq_true rfl, Nat.le_of_ble_eq_true rfl⟩ ⟨Nat.le_of_ble_eq_true rfl, Nat.le_of_ble_eq_true rfl⟩ rfl rfl (Nat.le_of_ble_eq_true rfl) dL_areQuarrelsSo_23 ?_
        refine j_istore C [(0, .ref (B + 0)), (1, .int x1), (2, .int y2), (3, .int y3), (4, .int y4), (5, .int x55)] [1, 2, 3, 4, 5, 0] dL_areQuarrelsSo_26 (by decide) rfl ?_
        refine j_aload_n C (q := 0) dL_areQuarrelsSo_28 rfl rfl ?_
        refine j_iload C (q := 4) dL_areQuarrelsSo_29 rfl ?_
        refine j_iload_n C (q := 1) dL_areQuarrelsSo_31 rfl rfl ?_
        refine j_iconst C (v := 1) dL_areQuarrelsSo_32 (by decide) ?_
        refine j_iconst C (v := 0) dL_areQuarrelsSo_33 (by decide) ?_
        obtain ⟨x58, t59, e60, h⟩ := bd_some h
        refine j_callV_i C (i := 0) (As := [.int y4, .int x1, .int 1, .int 0]) (rest := []) (c_X6_when l G B dy y4 x1 1 0 _ e60) (shp6 G B _ kA_0) (kd_lt kA_0 (by decide)) rfl tw_591 tw_592 tw_593 ti_6 tw_594 hd_X6_when ⟨Nat.le_of_ble_eq_true rfl, Nat.le_of_ble_eq_true rfl⟩ ⟨Nat.le_of_ble_eq_true rfl, Nat.le_of_ble_eq_true rfl⟩ rfl rfl (Nat.le_of_ble_eq_true rfl) dL_areQuarrelsSo_34 ?_
        refine j_istore C [(0, .ref (B + 0)), (1, .int x1), (2, .int y2), (3, .int y3), (4, .int y4), (5, .int x55), (6, .int x58)] [1, 2, 3, 4, 5, 6, 0] dL_areQuarrelsSo_37 (by decide) rfl ?_
        refine j_aload_n C (q := 0) dL_areQuarrelsSo_39 rfl rfl ?_
        refine j_iload C (q := 4) dL_areQuarrelsSo_40 rfl ?_
        refine j_iload_n C (q := 1) dL_areQuarrelsSo_42 rfl rfl ?_
        refine j_iconst C (v := 2) dL_areQuarrelsSo_43 (by decide) ?_
        refine j_iconst C (v := 0) dL_areQuarrelsSo_44 (by decide) ?_
        obtain ⟨x61, t62, e63, h⟩ := bd_some h
        refine j_callV_i C (i := 0) (As := [.int y4, .int x1, .int 2, .int 0]) (rest := []) (c_X6_when l G B dy y4 x1 2 0 _ e63) (shp6 G B _ kA_0) (kd_lt kA_0 (by decide)) rfl tw_591 tw_592 tw_593 ti_6 tw_594 hd_X6_when ⟨Nat.le_of_ble_eq_true rfl, Nat.le_of_ble_eq_true rfl⟩ ⟨Nat.le_of_ble_eq_true rfl, Nat.le_of_ble_eq_true rfl⟩ rfl rfl (Nat.le_of_ble_eq_true rfl) dL_areQuarrelsSo_45 ?_
        refine j_istore C [(0, .ref (B + 0)), (1, .int x1), (2, .int y2), (3, .int y3), (4, .int y4), (5, .int x55), (6, .int x58), (7, .int x61)] [1, 2, 3, 4, 5, 6, 7, 0] dL_areQuarrelsSo_48 (by decide) rfl ?_
        refine j_iload_n C (q := 2) dL_areQuarrelsSo_50 rfl rfl ?_
        refine j_iload C (q := 5) dL_areQuarrelsSo_51 rfl ?_
        refine j_iload C (q := 6) dL_areQuarrelsSo_53 rfl ?_
        refine j_icmp_ne C (tgt := 69) dL_areQuarrelsSo_55 (by decide) (fun c64 => ?_) (fun c64 => ?_)
        · have h := ite_t h c64
          refine j_iload C (q := 6) dL_areQuarrelsSo_58 rfl ?_
          refine j_iload C (q := 7) dL_areQuarrelsSo_60 rfl ?_
          refine j_icmp_ne C (tgt := 69) dL_areQuarrelsSo_62 (by decide) (fun c65 => ?_) (fun c65 => ?_)
          · have h := ite_t h c65
            refine j_iconst C (v := 0) dL_areQuarrelsSo_65 (by decide) ?_
            refine j_goto C (tgt := 70) dL_areQuarrelsSo_66 (by decide) ?_
            refine j_sub [0, 1, 3, 4, 5, 6, 7] rfl ?_
            exact J70 y3 y4 x55 x58 x61 0 y2 _ h
          · have h := ite_f h c65
            refine j_sub [0, 1, 3, 4, 5, 6, 7] rfl ?_
            exact J69 y3 y4 x55 x58 x61 y2 _ h
        · have h := ite_f h c64
          refine j_sub [0, 1, 3, 4, 5, 6, 7] rfl ?_
          exact J69 y3 y4 x55 x58 x61 y2 _ h
  refine j_iconst C (v := 0) dL_areQuarrelsSo_0 (by decide) ?_
  refine j_istore_n C [(0, .ref (B + 0)), (1, .int x1), (2, .int 0)] [1, 2, 0] dL_areQuarrelsSo_1 rfl (by decide) rfl ?_
  refine j_iconst C (v := 1) dL_areQuarrelsSo_2 (by decide) ?_
  refine j_istore_n C [(0, .ref (B + 0)), (1, .int x1), (2, .int 0), (3, .int 1)] [1, 2, 3, 0] dL_areQuarrelsSo_3 rfl (by decide) rfl ?_
  refine j_iconst C (v := 0) dL_areQuarrelsSo_4 (by decide) ?_
  refine j_istore C [(0, .ref (B + 0)), (1, .int x1), (2, .int 0), (3, .int 1), (4, .int 0)] [1, 2, 3, 4, 0] dL_areQuarrelsSo_5 (by decide) rfl ?_
  exact J7 FU 0 1 0 _ h
set_option maxRecDepth 100000 in
set_option maxHeartbeats 4000000 in
theorem c_L_areSticksSo (l : Launch) (G : GG) (B dy : Nat) (t0 : St) {r : Int32} {t9 : St} (h : f_L_areSticksSo t0 = some (r, t9)) : Ct l G B dy yL_areSticksSo cL_areSticksSo 10 (some .boolean) 7 165 0 0 [.ref (B + 0)] t0 (PostI G B r t9) := by
  refine Ct_of (by decide +kernel) [(0, .ref (B + 0))] (Nat.le_of_ble_eq_true rfl) rfl ?_
  intro p e s m args below meth c C hr hlk
  have J6 : ∀ (n6 : Nat) (y1 : Int32) (y2 : Int32) (y3 : Int32) (t0 : St), f_L_areSticksSo_l6 n6 y1 y2 y3 t0 = some (r, t9) → WW G B p l e (RM 7 165 0 0) s m args below meth c 0 0 (MQ below (PostI G B r t9) args s 0 0 (Ab B)) 10 6 [(0, .ref (B + 0)), (1, .int y1), (2, .int y2), (3, .int y3)] [] t0 := by
    intro n6
    induction n6 with
    | zero => intro y1 y2 y3 t0 h; exact (no_some h).elim
    | succ n6 ih6 =>
      try clear h
      have J32 : ∀ (n32 : Nat) (y1 : Int32) (y2 : Int32) (y3 : Int32) (y4 : Int32) (y5 : Int32) (y6 : Int32) (y7 : Int32) (t0 : St), f_L_areSticksSo_l32 (f_L_areSticksSo_l6 n6) n32 y1 y2 y3 y4 y5 y6 y7 t0 = some (r, t9) → WW G B p l e (RM 7 165 0 0) s m args below meth c 0 0 (MQ below (PostI G B r t9) args s 0 0 (Ab B)) 10 32 [(0, .ref (B + 0)), (1, .int y1), (2, .int y2), (3, .int y3), (4, .int y4), (5, .int y5), (6, .int y6), (7, .int y7)] [] t0 := by
        intro n32
        induction n32 with
        | zero => intro y1 y2 y3 y4 y5 y6 y7 t0 h; exact (no_some h).elim
        | succ n32 ih32 =>
          try clear h
          have J94 : ∀ (y1 : Int32) (y2 : Int32) (y3 : Int32) (y5 : Int32) (y6 : Int32) (y7 : Int32) (y8 : Int32) (y9 : Int32) (w0 : Int32) (w1 : Int32) (t0 : St), f_L_areSticksSo_b94 (f_L_areSticksSo_l6 n6) (f_L_areSticksSo_l32 (f_L_areSticksSo_l6 n6) n32) y1 y2 y3 y5 y6 y7 y8 y9 w0 w1 t0 = some (r, t9) → WW G B p l e (RM 7 165 0 0) s m args below meth c 0 0 (MQ below (PostI G B r t9) args s 0 0 (Ab B)) 10 94 [(0, .ref (B + 0)), (1, .int y1), (2, .int y2), (3, .int y3), (5, .int y5), (6, .int y6), (7, .int y7), (8, .int y8), (9, .int y9)] [.int w0, .int w1] t0 := by
            intro y1 y2 y3 y5 y6 y7 y8 y9 w0 w1 t0 h
            refine j_iadd C dL_areSticksSo_94 ?_
            refine j_topi (fun x21 ex21 => ?_)
            have h := lt_at h ex21
            refine j_istore C [(0, .ref (B + 0)), (1, .int y1), (2, .int y2), (3, .int y3), (4, .int x21), (5, .int y5), (6, .int y6), (7, .int y7), (8, .int y8), (9, .int y9)] [1, 2, 3, 4, 0, 5, 6, 7, 8, 9] dL_areSticksSo_95 (by decide) rfl ?_
            refine j_iload C (q := 6) dL_areSticksSo_97 rfl ?_
            refine j_iload C (q := 8) dL_areSticksSo_99 rfl ?_
            refine j_iconst C (v := (-1)) dL_areSticksSo_101 (by decide) ?_
            refine j_icmp_eq C (tgt := 116) dL_areSticksSo_102 (by decide) (fun c22 => ?_) (fun c22 => ?_)
            · have h := ite_t h c22
              refine j_iconst C (v := 0) dL_areSticksSo_116 (by decide) ?_
              refine j_iadd C dL_areSticksSo_117 ?_
              refine j_topi (fun x23 ex23 => ?_)
              have h := lt_at h ex23
              refine j_istore C [(0, .ref (B + 0)), (1, .int y1), (2, .int y2), (3, .int y3), (4, .int x21), (5, .int y5), (6, .int x23), (7, .int y7), (8, .int y8), (9, .int y9)] [1, 2, 3, 4, 5, 6, 0, 7, 8, 9] dL_areSticksSo_118 (by decide) rfl ?_
              obtain ⟨x24, ex24⟩ : ∃ y : Int32, y = (y7 + 1) := ⟨_, rfl⟩
              have h := lt_at h ex24
              refine j_iinc C (q := 7) [(0, .ref (B + 0)), (1, .int y1), (2, .int y2), (3, .int y3), (4, .int x21), (5, .int y5), (6, .int x23), (7, .int x24), (8, .int y8), (9, .int y9)] [1, 2, 3, 4, 5, 6, 7, 0, 8, 9] dL_areSticksSo_120 rfl (by rw [ex24]; rfl) (by decide) rfl ?_
              refine j_goto C (tgt := 32) dL_areSticksSo_123 (by decide) ?_
              refine j_sub [0, 1, 2, 3, 4, 5, 6, 7] rfl ?_
              exact ih32 y1 y2 y3 x21 y5 x23 x24 _ h
            · have h := ite_f h c22
              refine j_iload C (q := 8) dL_areSticksSo_105 rfl ?_
              refine j_iload C (q := 9) dL_areSticksSo_107 rfl ?_
              refine j_icmp_eq C (tgt := 116) dL_areSticksSo_109 (by decide) (fun c25 => ?_) (fun c25 => ?_)
              · have h := ite_t h c25
                refine j_iconst C (v := 0) dL_areSticksSo_116 (by decide) ?_
                refine j_iadd C dL_areSticksSo_117 ?_
                refine j_topi (fun x26 ex26 => ?_)
                have h := lt_at h ex26
                refine j_istore C [(0, .ref (B + 0)), (1, .int y1), (2, .int y2), (3, .int y3), (4, .int x21), (5, .int y5), (6, .int x26), (7, .int y7), (8, .int y8), (9, .int y9)] [1, 2, 3, 4, 5, 6, 0, 7, 8, 9] dL_areSticksSo_118 (by decide) rfl ?_
                obtain ⟨x27, ex27⟩ : ∃ y : Int32, y = (y7 + 1) := ⟨_, rfl⟩
                have h := lt_at h ex27
                refine j_iinc C (q := 7) [(0, .ref (B + 0)), (1, .int y1), (2, .int y2), (3, .int y3), (4, .int x21), (5, .int y5), (6, .int x26), (7, .int x27), (8, .int y8), (9, .int y9)] [1, 2, 3, 4, 5, 6, 7, 0, 8, 9] dL_areSticksSo_120 rfl (by rw [ex27]; rfl) (by decide) rfl ?_
                refine j_goto C (tgt := 32) dL_areSticksSo_123 (by decide) ?_
                refine j_sub [0, 1, 2, 3, 4, 5, 6, 7] rfl ?_
                exact ih32 y1 y2 y3 x21 y5 x26 x27 _ h
              · have h := ite_f h c25
                refine j_iconst C (v := 1) dL_areSticksSo_112 (by decide) ?_
                refine j_goto C (tgt := 117) dL_areSticksSo_113 (by decide) ?_
                refine j_iadd C dL_areSticksSo_117 ?_
                refine j_topi (fun x28 ex28 => ?_)
                have h := lt_at h ex28
                refine j_istore C [(0, .ref (B + 0)), (1, .int y1), (2, .int y2), (3, .int y3), (4, .int x21), (5, .int y5), (6, .int x28), (7, .int y7), (8, .int y8), (9, .int y9)] [1, 2, 3, 4, 5, 6, 0, 7, 8, 9] dL_areSticksSo_118 (by decide) rfl ?_
                obtain ⟨x29, ex29⟩ : ∃ y : Int32, y = (y7 + 1) := ⟨_, rfl⟩
                have h := lt_at h ex29
                refine j_iinc C (q := 7) [(0, .ref (B + 0)), (1, .int y1), (2, .int y2), (3, .int y3), (4, .int x21), (5, .int y5), (6, .int x28), (7, .int x29), (8, .int y8), (9, .int y9)] [1, 2, 3, 4, 5, 6, 7, 0, 8, 9] dL_areSticksSo_120 rfl (by rw [ex29]; rfl) (by decide) rfl ?_
                refine j_goto C (tgt := 32) dL_areSticksSo_123 (by decide) ?_
                refine j_sub [0, 1, 2, 3, 4, 5, 6, 7] rfl ?_
                exact ih32 y1 y2 y3 x21 y5 x28 x29 _ h
          have J79 : ∀ (y1 : Int32) (y2 : Int32) (y3 : Int32) (y4 : Int32) (y5 : Int32) (y6 : Int32) (y7 : Int32) (y8 : Int32) (w0 : Int32) (t0 : St), f_L_areSticksSo_b79 (f_L_areSticksSo_l6 n6) (f_L_areSticksSo_l32 (f_L_areSticksSo_l6 n6) n32) y1 y2 y3 y4 y5 y6 y7 y8 w0 t0 = some (r, t9) → WW G B p l e (RM 7 165 0 0) s m args below meth c 0 0 (MQ below (PostI G B r t9) args s 0 0 (Ab B)) 10 79 [(0, .ref (B + 0)), (1, .int y1), (2, .int y2), (3, .int y3), (4, .int y4), (5, .int y5), (6, .int y6), (7, .int y7), (8, .int y8)] [.int w0] t0 := by
            intro y1 y2 y3 y4 y5 y6 y7 y8 w0 t0 h
            refine j_istore C [(0, .ref (B + 0)), (1, .int y1), (2, .int y2), (3, .int y3), (4, .int y4), (5, .int y5), (6, .int y6), (7, .int y7), (8, .int y8), (9, .int w0)] [1, 2, 3, 4, 5, 6, 7, 8, 9, 0] dL_areSticksSo_79 (by decide) rfl ?_
            refine j_iload C (q := 4) dL_areSticksSo_81 rfl ?_
            refine j_iload C (q := 8) dL_areSticksSo_83 rfl ?_
            refine j_iconst C (v := (-1)) dL_areSticksSo_85 (by decide) ?_
            refine j_icmp_ne C (tgt := 93) dL_areSticksSo_86 (by decide) (fun c30 => ?_) (fun c30 => ?_)
            · have h := ite_t h c30
              refine j_iconst C (v := 0) dL_areSticksSo_89 (by decide) ?_
              refine j_goto C (tgt := 94) dL_areSticksSo_90 (by decide) ?_
              refine j_sub [0, 1, 2, 3, 5, 6, 7, 8, 9] rfl ?_
              exact J94 y1 y2 y3 y5 y6 y7 y8 w0 0 y4 _ h
            · have h := ite_f h c30
              refine j_iconst C (v := 1) dL_areSticksSo_93 (by decide) ?_
              refine j_sub [0, 1, 2, 3, 5, 6, 7, 8, 9] rfl ?_
              exact J94 y1 y2 y3 y5 y6 y7 y8 w0 1 y4 _ h
          intro y1 y2 y3 y4 y5 y6 y7 t0 h
          have h : f_L_areSticksSo_b32 (f_L_areSticksSo_l6 n6) (f_L_areSticksSo_l32 (f_L_areSticksSo_l6 n6) n32) y1 y2 y3 y4 y5 y6 y7 t0 = some (r, t9) := h
          refine j_iload C (q := 7) dL_areSticksSo_32 rfl ?_
          refine j_bipush C (v := 10) dL_areSticksSo_34 (by decide) ?_
          refine j_icmp_ge C (tgt := 126) dL_areSticksSo_36 (by decide) (fun c31 => ?_) (fun c31 => ?_)
          · have h := ite_t h c31
            refine j_iload_n C (q := 1) dL_areSticksSo_126 rfl rfl ?_
            refine j_aload_n C (q := 0) dL_areSticksSo_127 rfl rfl ?_
            refine j_iload_n C (q := 3) dL_areSticksSo_128 rfl rfl ?_
            refine j_iconst C (v := 3) dL_areSticksSo_129 (by decide) ?_
            obtain ⟨x32, t33, e34, h⟩ := bd_some h
            refine j_callV_i C (i := 0) (As := [.int y3, .int 3]) (rest := [.int y1]) (c_X6_stick l G B dy y3 3 _ e34) (shp6 G B _ kA_0) (kd_lt kA_0 (by decide)) rfl tw_223 tw_224 tw_225 ti_6 tw_226 hd_X6_stick ⟨Nat.le_of_ble_eq_true rfl, Nat.le_of_ble_eq_true rfl⟩ ⟨Nat.le_of_ble_eq_true rfl, Nat.le_of_ble_eq_true rfl⟩ rfl rfl (Nat.le_of_ble_eq_true rfl) dL_areSticksSo_130 ?_
            refine j_iadd C dL_areSticksSo_133 ?_
            refine j_topi (fun x35 ex35 => ?_)
            have h := lt_at h ex35
            refine j_istore_n C [(0, .ref (B + 0)), (1, .int x35), (2, .int y2), (3, .int y3), (4, .int y4), (5, .int y5), (6, .int y6), (7, .int y7)] [1, 0, 2, 3, 4, 5, 6, 7] dL_areSticksSo_134 rfl (by decide) rfl ?_
            refine j_iload_n C (q := 2) dL_areSticksSo_135 rfl rfl ?_
            refine j_if_eq C (tgt := 165) dL_areSticksSo_136 (by decide) (fun c36 => ?_) (fun c36 => ?_)
            · have h := ite_t h c36
              refine j_iconst C (v := 0) dL_areSticksSo_165 (by decide) ?_
              refine j_istore_n C [(0, .ref (B + 0)), (1, .int x35), (2, .int 0), (3, .int y3), (4, .int y4), (5, .int y5), (6, .int y6), (7, .int y7)] [1, 2, 0, 3, 4, 5, 6, 7] dL_areSticksSo_166 rfl (by decide) rfl ?_
              obtain ⟨x37, ex37⟩ : ∃ y : Int32, y = (y3 + 1) := ⟨_, rfl⟩
              have h := lt_at h ex37
              refine j_iinc C (q := 3) [(0, .ref (B + 0)), (1, .int x35), (2, .int 0), (3, .int x37), (4, .int y4), (5, .int y5), (6, .int y6), (7, .int y7)] [1, 2, 3, 0, 4, 5, 6, 7] dL_areSticksSo_167 rfl (by rw [ex37]; rfl) (by decide) rfl ?_
              refine j_goto C (tgt := 6) dL_areSticksSo_170 (by decide) ?_
              refine j_sub [0, 1, 2, 3] rfl ?_
              exact ih6 x35 0 x37 _ h
            · have h := ite_f h c36
              refine j_iload C (q := 4) dL_areSticksSo_139 rfl ?_
              refine j_aload_n C (q := 0) dL_areSticksSo_141 rfl rfl ?_
              refine j_iload_n C (q := 3) dL_areSticksSo_142 rfl rfl ?_
              refine j_iconst C (v := 2) dL_areSticksSo_143 (by decide) ?_
              obtain ⟨x38, t39, e40, h⟩ := bd_some h
              refine j_callV_i C (i := 0) (As := [.int y3, .int 2]) (rest := [.int y4]) (c_X6_stick l G B dy y3 2 _ e40) (shp6 G B _ kA_0) (kd_lt kA_0 (by decide)) rfl tw_223 tw_224 tw_225 ti_6 tw_226 hd_X6_stick ⟨Nat.le_of_ble_eq_true rfl, Nat.le_of_ble_eq_true rfl⟩ ⟨Nat.le_of_ble_eq_true rfl, Nat.le_of_ble_eq_true rfl⟩ rfl rfl (Nat.le_of_ble_eq_true rfl) dL_areSticksSo_144 ?_
              refine j_icmp_ne C (tgt := 165) dL_areSticksSo_147 (by decide) (fun c41 => ?_) (fun c41 => ?_)
              · have h := ite_t h c41
                refine j_aload_n C (q := 0) dL_areSticksSo_150 rfl rfl ?_
                refine j_iload_n C (q := 3) dL_areSticksSo_151 rfl rfl ?_
                refine j_iconst C (v := 3) dL_areSticksSo_152 (by decide) ?_
                obtain ⟨x43, t44, e45, h⟩ := bd_some h
                refine j_callV_i C (i := 0) (As := [.int y3, .int 3]) (rest := []) (c_X6_stick l G B dy y3 3 _ e45) (shp6 G B _ kA_0) (kd_lt kA_0 (by decide)) rfl tw_223 tw_224 tw_225 ti_6 tw_226 hd_X6_stick ⟨Nat.le_of_ble_eq_true rfl, Nat.le_of_ble_eq_true rfl⟩ ⟨Nat.le_of_ble_eq_true rfl, Nat.le_of_ble_eq_true rfl⟩ rfl rfl (Nat.le_of_ble_eq_true rfl) dL_areSticksSo_153 ?_
                refine j_iload C (q := 6) dL_areSticksSo_156 rfl ?_
                refine j_icmp_lt C (tgt := 165) dL_areSticksSo_158 (by decide) (fun c46 => ?_) (fun c46 => ?_)
                · have h := ite_t h c46
                  refine j_iconst C (v := 0) dL_areSticksSo_165 (by decide) ?_
                  refine j_istore_n C [(0, .ref (B + 0)), (1, .int x35), (2, .int 0), (3, .int y3), (4, .int y4), (5, .int y5), (6, .int y6), (7, .int y7)] [1, 2, 0, 3, 4, 5, 6, 7] dL_areSticksSo_166 rfl (by decide) rfl ?_
                  obtain ⟨x47, ex47⟩ : ∃ y : Int32, y = (y3 + 1) := ⟨_, rfl⟩
                  have h := lt_at h ex47
                  refine j_iinc C (q := 3) [(0, .ref (B + 0)), (1, .int x35), (2, .int 0), (3, .int x47), (4, .int y4), (5, .int y5), (6, .int y6), (7, .int y7)] [1, 2, 3, 0, 4, 5, 6, 7] dL_areSticksSo_167 rfl (by rw [ex47]; rfl) (by decide) rfl ?_
                  refine j_goto C (tgt := 6) dL_areSticksSo_170 (by decide) ?_
                  refine j_sub [0, 1, 2, 3] rfl ?_
                  exact ih6 x35 0 x47 _ h
                · have h := ite_f h c46
                  refine j_iconst C (v := 1) dL_areSticksSo_161 (by decide) ?_
                  refine j_goto C (tgt := 166) dL_areSticksSo_162 (by decide) ?_
                  refine j_istore_n C [(0, .ref (B + 0)), (1, .int x35), (2, .int 1), (3, .int y3), (4, .int y4), (5, .int y5), (6, .int y6), (7, .int y7)] [1, 2, 0, 3, 4, 5, 6, 7] dL_areSticksSo_166 rfl (by decide) rfl ?_
                  obtain ⟨x48, ex48⟩ : ∃ y : Int32, y = (y3 + 1) := ⟨_, rfl⟩
                  have h := lt_at h ex48
                  refine j_iinc C (q := 3) [(0, .ref (B + 0)), (1, .int x35), (2, .int 1), (3, .int x48), (4, .int y4), (5, .int y5), (6, .int y6), (7, .int y7)] [1, 2, 3, 0, 4, 5, 6, 7] dL_areSticksSo_167 rfl (by rw [ex48]; rfl) (by decide) rfl ?_
                  refine j_goto C (tgt := 6) dL_areSticksSo_170 (by decide) ?_
                  refine j_sub [0, 1, 2, 3] rfl ?_
                  exact ih6 x35 1 x48 _ h
              · have h := ite_f h c41
                refine j_iconst C (v := 0) dL_areSticksSo_165 (by decide) ?_
                refine j_istore_n C [(0, .ref (B + 0)), (1, .int x35), (2, .int 0), (3, .int y3), (4, .int y4), (5, .int y5), (6, .int y6), (7, .int y7)] [1, 2, 0, 3, 4, 5, 6, 7] dL_areSticksSo_166 rfl (by decide) rfl ?_
                obtain ⟨x42, ex42⟩ : ∃ y : Int32, y = (y3 + 1) := ⟨_, rfl⟩
                have h := lt_at h ex42
                refine j_iinc C (q := 3) [(0, .ref (B + 0)), (1, .int x35), (2, .int 0), (3, .int x42), (4, .int y4), (5, .int y5), (6, .int y6), (7, .int y7)] [1, 2, 3, 0, 4, 5, 6, 7] dL_areSticksSo_167 rfl (by rw [ex42]; rfl) (by decide) rfl ?_
                refine j_goto C (tgt := 6) dL_areSticksSo_170 (by decide) ?_
                refine j_sub [0, 1, 2, 3] rfl ?_
                exact ih6 x35 0 x42 _ h
          · have h := ite_f h c31
            refine j_aload_n C (q := 0) dL_areSticksSo_39 rfl rfl ?_
            refine j_iload_n C (q := 3) dL_areSticksSo_40 rfl rfl ?_
            refine j_iconst C (v := 4) dL_areSticksSo_41 (by decide) ?_
            refine j_iload C (q := 7) dL_areSticksSo_42 rfl ?_
            refine j_iadd C dL_areSticksSo_44 ?_
            obtain ⟨x49, t50, e51, h⟩ := bd_some h
            refine j_callV_i C (i := 0) (As := [.int y3, .int (4 + y7)]) (rest := []) (c_X6_stick l G B dy y3 (4 + y7) _ e51) (shp6 G B _ kA_0) (kd_lt kA_0 (by decide)) rfl tw_223 tw_224 tw_225 ti_6 tw_226 hd_X6_stick ⟨Nat.le_of_ble_eq_true rfl, Nat.le_of_ble_eq_true rfl⟩ ⟨Nat.le_of_ble_eq_true rfl, Nat.le_of_ble_eq_true rfl⟩ rfl rfl (Nat.le_of_ble_eq_true rfl) dL_areSticksSo_45 ?_
            refine j_istore C [(0, .ref (B + 0)), (1, .int y1), (2, .int y2), (3, .int y3), (4, .int y4), (5, .int y5), (6, .int y6), (7, .int y7), (8, .int x49)] [1, 2, 3, 4, 5, 6, 7, 8, 0] dL_areSticksSo_48 (by decide) rfl ?_
            refine j_iload C (q := 7) dL_areSticksSo_50 rfl ?_
            refine j_aload_n C (q := 0) dL_areSticksSo_52 rfl rfl ?_
            refine j_iconst C (v := 0) dL_areSticksSo_53 (by decide) ?_
            obtain ⟨x52, t53, e54, h⟩ := bd_some h
            refine j_callV_i C (i := 0) (As := [.int 0]) (rest := [.int y7]) (c_X6_count l G B dy 0 _ e54) (shp6 G B _ kA_0) (kd_lt kA_0 (by decide)) rfl tw_392 tw_393 tw_394 ti_6 tw_395 hd_X6_count ⟨Nat.le_of_ble_eq_true rfl, Nat.le_of_ble_eq_true rfl⟩ ⟨Nat.le_of_ble_eq_true rfl, Nat.le_of_ble_eq_true rfl⟩ rfl rfl (Nat.le_of_ble_eq_true rfl) dL_areSticksSo_54 ?_
            refine j_icmp_ge C (tgt := 78) dL_areSticksSo_57 (by decide) (fun c55 => ?_) (fun c55 => ?_)
            · have h := ite_t h c55
              refine j_iconst C (v := (-1)) dL_areSticksSo_78 (by decide) ?_
              exact J79 y1 y2 y3 y4 y5 y6 y7 x49 (-1) _ h
            · have h := ite_f h c55
              refine j_aload_n C (q := 0) dL_areSticksSo_60 rfl rfl ?_
              refine j_iload C (q := 7) dL_areSticksSo_61 rfl ?_
              refine j_iload C (q := 5) dL_areSticksSo_63 rfl ?_
              refine j_aload_n C (q := 0) dL_areSticksSo_65 rfl rfl ?_
              refine j_iload_n C (q := 3) dL_areSticksSo_66 rfl rfl ?_
              refine j_iconst C (v := 1) dL_areSticksSo_67 (by decide) ?_
              obtain ⟨x56, t57, e58, h⟩ := bd_some h
              refine j_callV_i C (i := 0) (As := [.int y3, .int 1]) (rest := [.int y5, .int y7, .ref (B + 0)]) (c_X6_stick l G B dy y3 1 _ e58) (shp6 G B _ kA_0) (kd_lt kA_0 (by decide)) rfl tw_223 tw_224 tw_225 ti_6 tw_226 hd_X6_stick ⟨Nat.le_of_ble_eq_true rfl, Nat.le_of_ble_eq_true rfl⟩ ⟨Nat.le_of_ble_eq_true rfl, Nat.le_of_ble_eq_true rfl⟩ rfl rfl (Nat.le_of_ble_eq_true rfl) dL_areSticksSo_68 ?_
              refine j_iconst C (v := 0) dL_areSticksSo_71 (by decide) ?_
              obtain ⟨x59, t60, e61, h⟩ := bd_some h
              refine j_callV_i C (i := 0) (As := [.int y7, .int y5, .int x56, .int 0]) (rest := []) (c_X6_when l G B dy y7 y5 x56 0 _ e61) (shp6 G B _ kA_0) (kd_lt kA_0 (by decide)) rfl tw_591 tw_592 tw_593 ti_6 tw_594 hd_X6_when ⟨Nat.le_of_ble_eq_true rfl, Nat.le_of_ble_eq_true rfl⟩ ⟨Nat.le_of_ble_eq_true rfl, Nat.le_of_ble_eq_true rfl⟩ rfl rfl (Nat.le_of_ble_eq_true rfl) dL_areSticksSo_72 ?_
              refine j_goto C (tgt := 79) dL_areSticksSo_75 (by decide) ?_
              exact J79 y1 y2 y3 y4 y5 y6 y7 x49 x59 _ h
      intro y1 y2 y3 t0 h
      have h : f_L_areSticksSo_b6 (f_L_areSticksSo_l6 n6) y1 y2 y3 t0 = some (r, t9) := h
      refine j_iload_n C (q := 3) dL_areSticksSo_6 rfl rfl ?_
      refine j_aload_n C (q := 0) dL_areSticksSo_7 rfl rfl ?_
      refine j_iconst C (v := 1) dL_areSticksSo_8 (by decide) ?_
      obtain ⟨x62, t63, e64, h⟩ := bd_some h
      refine j_callV_i C (i := 0) (As := [.int 1]) (rest := [.int y3]) (c_X6_count l G B dy 1 _ e64) (shp6 G B _ kA_0) (kd_lt kA_0 (by decide)) rfl tw_392 tw_393 tw_394 ti_6 tw_395 hd_X6_count ⟨Nat.le_of_ble_eq_true rfl, Nat.le_of_ble_eq_true rfl⟩ ⟨Nat.le_of_ble_eq_true rfl, Nat.le_of_ble_eq_true rfl⟩ rfl rfl (Nat.le_of_ble_eq_true rfl) dL_areSticksSo_9 ?_
      refine j_icmp_ge C (tgt := 173) dL_areSticksSo_12 (by decide) (fun c65 => ?_) (fun c65 => ?_)
      · have h := ite_t h c65
        refine j_iload_n C (q := 2) dL_areSticksSo_173 rfl rfl ?_
        refine j_if_eq C (tgt := 218) dL_areSticksSo_174 (by decide) (fun c66 => ?_) (fun c66 => ?_)
        · have h := ite_t h c66
          refine j_iconst C (v := 0) dL_areSticksSo_218 (by decide) ?_
          exact j_zret C hr hlk (Or.inl rfl) h ⟨Nat.le_of_ble_eq_true rfl, Nat.le_of_ble_eq_true rfl⟩ dL_areSticksSo_219
        · have h := ite_f h c66
          refine j_iload_n C (q := 1) dL_areSticksSo_177 rfl rfl ?_
          refine j_aload_n C (q := 0) dL_areSticksSo_178 rfl rfl ?_
          refine j_bipush C (v := 6) dL_areSticksSo_179 (by decide) ?_
          obtain ⟨x67, t68, e69, h⟩ := bd_some h
          refine j_callV_i C (i := 0) (As := [.int 6]) (rest := [.int y1]) (c_X6_count l G B dy 6 _ e69) (shp6 G B _ kA_0) (kd_lt kA_0 (by decide)) rfl tw_392 tw_393 tw_394 ti_6 tw_395 hd_X6_count ⟨Nat.le_of_ble_eq_true rfl, Nat.le_of_ble_eq_true rfl⟩ ⟨Nat.le_of_ble_eq_true rfl, Nat.le_of_ble_eq_true rfl⟩ rfl rfl (Nat.le_of_ble_eq_true rfl) dL_areSticksSo_181 ?_
          refine j_icmp_ne C (tgt := 218) dL_areSticksSo_184 (by decide) (fun c70 => ?_) (fun c70 => ?_)
          · have h := ite_t h c70
            refine j_aload_n C (q := 0) dL_areSticksSo_187 rfl rfl ?_
            refine j_iconst C (v := 1) dL_areSticksSo_188 (by decide) ?_
            obtain ⟨x71, t72, e73, h⟩ := bd_some h
            refine j_callV_i C (i := 0) (As := [.int 1]) (rest := []) (c_X6_count l G B dy 1 _ e73) (shp6 G B _ kA_0) (kd_lt kA_0 (by decide)) rfl tw_392 tw_393 tw_394 ti_6 tw_395 hd_X6_count ⟨Nat.le_of_ble_eq_true rfl, Nat.le_of_ble_eq_true rfl⟩ ⟨Nat.le_of_ble_eq_true rfl, Nat.le_of_ble_eq_true rfl⟩ rfl rfl (Nat.le_of_ble_eq_true rfl) dL_areSticksSo_189 ?_
            refine j_iconst C (v := 5) dL_areSticksSo_192 (by decide) ?_
            refine j_icmp_gt C (tgt := 218) dL_areSticksSo_193 (by decide) (fun c74 => ?_) (fun c74 => ?_)
            · have h := ite_t h c74
              refine j_iconst C (v := 0) dL_areSticksSo_218 (by decide) ?_
              exact j_zret C hr hlk (Or.inl rfl) h ⟨Nat.le_of_ble_eq_true rfl, Nat.le_of_ble_eq_true rfl⟩ dL_areSticksSo_219
            · have h := ite_f h c74
              refine j_aload_n C (q := 0) dL_areSticksSo_196 rfl rfl ?_
              obtain ⟨x75, t76, e77, h⟩ := bd_some h
              refine j_callV_d C (i := 0) (As := []) (rest := []) (c_X6_freshShare l G B dy _ e77) (shp6 G B _ kA_0) (kd_lt kA_0 (by decide)) rfl tw_658 tw_659 tw_660 ti_6 tw_661 hd_X6_freshShare ⟨Nat.le_of_ble_eq_true rfl, Nat.le_of_ble_eq_true rfl⟩ ⟨Nat.le_of_ble_eq_true rfl, Nat.le_of_ble_eq_true rfl⟩ rfl rfl (Nat.le_of_ble_eq_true rfl) dL_areSticksSo_197 ?_
              refine j_dconst0 C dL_areSticksSo_200 ?_
              refine j_dcmp C dL_areSticksSo_201 ?_
              refine j_if_lt C (tgt := 218) dL_areSticksSo_202 (by decide) (fun c78 => ?_) (fun c78 => ?_)
              · have h := ite_t h c78
                refine j_iconst C (v := 0) dL_areSticksSo_218 (by decide) ?_
                exact j_zret C hr hlk (Or.inl rfl) h ⟨Nat.le_of_ble_eq_true rfl, Nat.le_of_ble_eq_true rfl⟩ dL_areSticksSo_219
              · have h := ite_f h c78
                refine j_aload_n C (q := 0) dL_areSticksSo_205 rfl rfl ?_
                obtain ⟨x79, t80, e81, h⟩ := bd_some h
                refine j_callV_d C (i := 0) (As := []) (rest := []) (c_X6_freshShare l G B dy _ e81) (shp6 G B _ kA_0) (kd_lt kA_0 (by decide)) rfl tw_658 tw_659 tw_660 ti_6 tw_661 hd_X6_freshShare ⟨Nat.le_of_ble_eq_true rfl, Nat.le_of_ble_eq_true rfl⟩ ⟨Nat.le_of_ble_eq_true rfl, Nat.le_of_ble_eq_true rfl⟩ rfl rfl (Nat.le_of_ble_eq_true rfl) dL_areSticksSo_206 ?_
                refine j_dconst1 C dL_areSticksSo_209 ?_
                refine j_dcmp C dL_areSticksSo_210 ?_
                refine j_if_gt C (tgt := 218) dL_areSticksSo_211 (by decide) (fun c82 => ?_) (fun c82 => ?_)
                · have h := ite_t h c82
                  refine j_iconst C (v := 0) dL_areSticksSo_218 (by decide) ?_
                  exact j_zret C hr hlk (Or.inl rfl) h ⟨Nat.le_of_ble_eq_true rfl, Nat.le_of_ble_eq_true rfl⟩ dL_areSticksSo_219
                · have h := ite_f h c82
                  refine j_iconst C (v := 1) dL_areSticksSo_214 (by decide) ?_
                  refine j_goto C (tgt := 219) dL_areSticksSo_215 (by decide) ?_
                  exact j_zret C hr hlk (Or.inr rfl) h ⟨Nat.le_of_ble_eq_true rfl, Nat.le_of_ble_eq_true rfl⟩ dL_areSticksSo_219
          · have h := ite_f h c70
            refine j_iconst C (v := 0) dL_areSticksSo_218 (by decide) ?_
            exact j_zret C hr hlk (Or.inl rfl) h ⟨Nat.le_of_ble_eq_true rfl, Nat.le_of_ble_eq_true rfl⟩ dL_areSticksSo_219
      · have h := ite_f h c65
        refine j_iconst C (v := 0) dL_areSticksSo_15 (by decide) ?_
        refine j_istore C [(0, .ref (B + 0)), (1, .int y1), (2, .int y2), (3, .int y3), (4, .int 0)] [1, 2, 3, 4, 0] dL_areSticksSo_16 (by decide) rfl ?_
        refine j_aload_n C (q := 0) dL_areSticksSo_18 rfl rfl ?_
        refine j_iload_n C (q := 3) dL_areSticksSo_19 rfl rfl ?_
        refine j_iconst C (v := 0) dL_areSticksSo_20 (by decide) ?_
        obtain ⟨x83, t84, e85, h⟩ := bd_some h
        refine j_callV_i C (i := 0) (As := [.int y3, .int 0]) (rest := []) (c_X6_stick l G B dy y3 0 _ e85) (shp6 G B _ kA_0) (kd_lt kA_0 (by decide)) rfl tw_223 tw_224 tw_225 ti_6 tw_226 hd_X6_stick ⟨Nat.le_of_ble_eq_true rfl, Nat.le_of_ble_eq_true rfl⟩ ⟨Nat.le_of_ble_eq_true rfl, Nat.le_of_ble_eq_true rfl⟩ rfl rfl (Nat.le_of_ble_eq_true rfl) dL_areSticksSo_21 ?_
        refine j_istore C [(0, .ref (B + 0)), (1, .int y1), (2, .int y2), (3, .int y3), (4, .int 0), (5, .int x83)] [1, 2, 3, 4, 5, 0] dL_areSticksSo_24 (by decide) rfl ?_
        refine j_iconst C (v := 0) dL_areSticksSo_26 (by decide) ?_
        refine j_istore C [(0, .ref (B + 0)), (1, .int y1), (2, .int y2), (3, .int y3), (4, .int 0), (5, .int x83), (6, .int 0)] [1, 2, 3, 4, 5, 6, 0] dL_areSticksSo_27 (by decide) rfl ?_
        refine j_iconst C (v := 0) dL_areSticksSo_29 (by decide) ?_
        refine j_istore C [(0, .ref (B + 0)), (1, .int y1), (2, .int y2), (3, .int y3), (4, .int 0), (5, .int x83), (6, .int 0), (7, .int 0)] [1, 2, 3, 4, 5, 6, 7, 0] dL_areSticksSo_30 (by decide) rfl ?_
        exact J32 FU y1 y2 y3 0 x83 0 0 _ h
  refine j_iconst C (v := 0) dL_areSticksSo_0 (by decide) ?_
  refine j_istore_n C [(0, .ref (B + 0)), (1, .int 0)] [1, 0] dL_areSticksSo_1 rfl (by decide) rfl ?_
  refine j_iconst C (v := 1) dL_areSticksSo_2 (by decide) ?_
  refine j_istore_n C [(0, .ref (B + 0)), (1, .int 0), (2, .int 1)] [1, 2, 0] dL_areSticksSo_3 rfl (by decide) rfl ?_
  refine j_iconst C (v := 0) dL_areSticksSo_4 (by decide) ?_
  refine j_istore_n C [(0, .ref (B + 0)), (1, .int 0), (2, .int 1), (3, .int 0)] [1, 2, 3, 0] dL_areSticksSo_5 rfl (by decide) rfl ?_
  exact J6 FU 0 1 0 _ h
set_option maxRecDepth 100000 in
set_option maxHeartbeats 4000000 in
theorem c_L_isPeaceSo (l : Launch) (G : GG) (B dy : Nat) (x1 : Int32) (x2 : Int32) (t0 : St) {r : Int32} {t9 : St} (h : f_L_isPeaceSo x1 x2 t0 = some (r, t9)) : Ct l G B dy yL_isPeaceSo cL_isPeaceSo 10 (some .boolean) 7 167 0 0 [.ref (B + 0), .int x1, .int x2] t0 (PostI G B r t9) := by
  refine Ct_of (by decide +kernel) [(0, .ref (B + 0)), (1, .int x1), (2, .int x2)] (Nat.le_of_ble_eq_true rfl) rfl ?_
  intro p e s m args below meth c C hr hlk
  have J64 : ∀ (n64 : Nat) (y3 : Int32) (y5 : Int32) (y6 : Int32) (y7 : Int32) (y8 : Int32) (t0 : St), f_L_isPeaceSo_l64 n64 x1 x2 y3 y5 y6 y7 y8 t0 = some (r, t9) → WW G B p l e (RM 7 167 0 0) s m args below meth c 0 0 (MQ below (PostI G B r t9) args s 0 0 (Ab B)) 10 64 [(0, .ref (B + 0)), (1, .int x1), (2, .int x2), (3, .int y3), (5, .int y5), (6, .int y6), (7, .int y7), (8, .int y8)] [] t0 := by
    intro n64
    induction n64 with
    | zero => intro y3 y5 y6 y7 y8 t0 h; exact (no_some h).elim
    | succ n64 ih64 =>
      try clear h
      intro y3 y5 y6 y7 y8 t0 h
      have h : f_L_isPeaceSo_b64 (f_L_isPeaceSo_l64 n64) x1 x2 y3 y5 y6 y7 y8 t0 = some (r, t9) := h
      refine j_iload C (q := 7) dL_isPeaceSo_64 rfl ?_
      refine j_bipush C (v := 6) dL_isPeaceSo_66 (by decide) ?_
      refine j_icmp_ge C (tgt := 153) dL_isPeaceSo_68 (by decide) (fun c21 => ?_) (fun c21 => ?_)
      · have h := ite_t h c21
        refine j_iload C (q := 6) dL_isPeaceSo_153 rfl ?_
        refine j_if_eq C (tgt := 167) dL_isPeaceSo_155 (by decide) (fun c22 => ?_) (fun c22 => ?_)
        · have h := ite_t h c22
          refine j_iconst C (v := 0) dL_isPeaceSo_167 (by decide) ?_
          exact j_zret C hr hlk (Or.inl rfl) h ⟨Nat.le_of_ble_eq_true rfl, Nat.le_of_ble_eq_true rfl⟩ dL_isPeaceSo_168
        · have h := ite_f h c22
          refine j_iload C (q := 5) dL_isPeaceSo_158 rfl ?_
          refine j_if_lt C (tgt := 167) dL_isPeaceSo_160 (by decide) (fun c23 => ?_) (fun c23 => ?_)
          · have h := ite_t h c23
            refine j_iconst C (v := 0) dL_isPeaceSo_167 (by decide) ?_
            exact j_zret C hr hlk (Or.inl rfl) h ⟨Nat.le_of_ble_eq_true rfl, Nat.le_of_ble_eq_true rfl⟩ dL_isPeaceSo_168
          · have h := ite_f h c23
            refine j_iconst C (v := 1) dL_isPeaceSo_163 (by decide) ?_
            refine j_goto C (tgt := 168) dL_isPeaceSo_164 (by decide) ?_
            exact j_zret C hr hlk (Or.inr rfl) h ⟨Nat.le_of_ble_eq_true rfl, Nat.le_of_ble_eq_true rfl⟩ dL_isPeaceSo_168
      · have h := ite_f h c21
        refine j_aload_n C (q := 0) dL_isPeaceSo_71 rfl rfl ?_
        refine j_iload_n C (q := 1) dL_isPeaceSo_72 rfl rfl ?_
        refine j_iload C (q := 7) dL_isPeaceSo_73 rfl ?_
        obtain ⟨x24, t25, e26, h⟩ := bd_some h
        refine j_callV_i C (i := 0) (As := [.int x1, .int y8]) (rest := []) (c_X6_teach l G B dy x1 y8 _ e26) (shp6 G B _ kA_0) (kd_lt kA_0 (by decide)) rfl tw_554 tw_555 tw_556 ti_6 tw_557 hd_X6_teach ⟨Nat.le_of_ble_eq_true rfl, Nat.le_of_ble_eq_true rfl⟩ ⟨Nat.le_of_ble_eq_true rfl, Nat.le_of_ble_eq_true rfl⟩ rfl rfl (Nat.le_of_ble_eq_true rfl) dL_isPeaceSo_75 ?_
        refine j_istore C [(0, .ref (B + 0)), (1, .int x1), (2, .int x2), (3, .int y3), (4, .int x24), (5, .int y5), (6, .int y6), (7, .int y7), (8, .int y8)] [1, 2, 3, 4, 0, 5, 6, 7, 8] dL_isPeaceSo_78 (by decide) rfl ?_
        refine j_aload_n C (q := 0) dL_isPeaceSo_80 rfl rfl ?_
        refine j_iload_n C (q := 2) dL_isPeaceSo_81 rfl rfl ?_
        obtain ⟨x27, t28, e29, h⟩ := bd_some h
        refine j_callV_i C (i := 0) (As := [.int x2]) (rest := []) (c_X6_quarrels l G B dy x2 _ e29) (shp6 G B _ kA_0) (kd_lt kA_0 (by decide)) rfl tw_647 tw_648 tw_649 ti_6 tw_650 hd_X6_quarrels ⟨Nat.le_of_ble_eq_true rfl, Nat.le_of_ble_eq_true rfl⟩ ⟨Nat.le_of_ble_eq_true rfl, Nat.le_of_ble_eq_true rfl⟩ rfl rfl (Nat.le_of_ble_eq_true rfl) dL_isPeaceSo_82 ?_
        refine j_istore C [(0, .ref (B + 0)), (1, .int x1), (2, .int x2), (3, .int y3), (4, .int x24), (5, .int y5), (6, .int y6), (7, .int y7), (8, .int y8), (9, .int x27)] [1, 2, 3, 4, 5, 6, 7, 8, 9, 0] dL_isPeaceSo_85 (by decide) rfl ?_
        refine j_aload_n C (q := 0) dL_isPeaceSo_87 rfl rfl ?_
        obtain ⟨x30, t31, e32, h⟩ := bd_some h
        refine j_callV_i C (i := 0) (As := []) (rest := []) (c_X6_undo l G B dy _ e32) (shp6 G B _ kA_0) (kd_lt kA_0 (by decide)) rfl tw_678 tw_679 tw_680 ti_6 tw_681 hd_X6_undo ⟨Nat.le_of_ble_eq_true rfl, Nat.le_of_ble_eq_true rfl⟩ ⟨Nat.le_of_ble_eq_true rfl, Nat.le_of_ble_eq_true rfl⟩ rfl rfl (Nat.le_of_ble_eq_true rfl) dL_isPeaceSo_88 ?_
        refine j_istore C [(0, .ref (B + 0)), (1, .int x1), (2, .int x2), (3, .int y3), (4, .int x24), (5, .int y5), (6, .int x30), (7, .int y7), (8, .int y8), (9, .int x27)] [1, 2, 3, 4, 5, 6, 0, 7, 8, 9] dL_isPeaceSo_91 (by decide) rfl ?_
        refine j_iload C (q := 7) dL_isPeaceSo_93 rfl ?_
        refine j_if_eq C (tgt := 144) dL_isPeaceSo_95 (by decide) (fun c33 => ?_) (fun c33 => ?_)
        · have h := ite_t h c33
          refine j_iconst C (v := 0) dL_isPeaceSo_144 (by decide) ?_
          refine j_istore C [(0, .ref (B + 0)), (1, .int x1), (2, .int x2), (3, .int y3), (4, .int x24), (5, .int y5), (6, .int x30), (7, .int 0), (8, .int y8), (9, .int x27)] [1, 2, 3, 4, 5, 6, 7, 0, 8, 9] dL_isPeaceSo_145 (by decide) rfl ?_
          obtain ⟨x34, ex34⟩ : ∃ y : Int32, y = (y8 + 2) := ⟨_, rfl⟩
          have h := lt_at h ex34
          refine j_iinc C (q := 8) [(0, .ref (B + 0)), (1, .int x1), (2, .int x2), (3, .int y3), (4, .int x24), (5, .int y5), (6, .int x30), (7, .int 0), (8, .int x34), (9, .int x27)] [1, 2, 3, 4, 5, 6, 7, 8, 0, 9] dL_isPeaceSo_147 rfl (by rw [ex34]; rfl) (by decide) rfl ?_
          refine j_goto C (tgt := 64) dL_isPeaceSo_150 (by decide) ?_
          refine j_sub [0, 1, 2, 3, 5, 6, 7, 8] rfl ?_
          exact ih64 y3 y5 x30 0 x34 _ h
        · have h := ite_f h c33
          refine j_iload C (q := 9) dL_isPeaceSo_98 rfl ?_
          refine j_iload C (q := 5) dL_isPeaceSo_100 rfl ?_
          refine j_icmp_lt C (tgt := 144) dL_isPeaceSo_102 (by decide) (fun c35 => ?_) (fun c35 => ?_)
          · have h := ite_t h c35
            refine j_iconst C (v := 0) dL_isPeaceSo_144 (by decide) ?_
            refine j_istore C [(0, .ref (B + 0)), (1, .int x1), (2, .int x2), (3, .int y3), (4, .int x24), (5, .int y5), (6, .int x30), (7, .int 0), (8, .int y8), (9, .int x27)] [1, 2, 3, 4, 5, 6, 7, 0, 8, 9] dL_isPeaceSo_145 (by decide) rfl ?_
            obtain ⟨x36, ex36⟩ : ∃ y : Int32, y = (y8 + 2) := ⟨_, rfl⟩
            have h := lt_at h ex36
            refine j_iinc C (q := 8) [(0, .ref (B + 0)), (1, .int x1), (2, .int x2), (3, .int y3), (4, .int x24), (5, .int y5), (6, .int x30), (7, .int 0), (8, .int x36), (9, .int x27)] [1, 2, 3, 4, 5, 6, 7, 8, 0, 9] dL_isPeaceSo_147 rfl (by rw [ex36]; rfl) (by decide) rfl ?_
            refine j_goto C (tgt := 64) dL_isPeaceSo_150 (by decide) ?_
            refine j_sub [0, 1, 2, 3, 5, 6, 7, 8] rfl ?_
            exact ih64 y3 y5 x30 0 x36 _ h
          · have h := ite_f h c35
            refine j_iload C (q := 9) dL_isPeaceSo_105 rfl ?_
            refine j_iload C (q := 5) dL_isPeaceSo_107 rfl ?_
            refine j_icmp_gt C (tgt := 140) dL_isPeaceSo_109 (by decide) (fun c37 => ?_) (fun c37 => ?_)
            · have h := ite_t h c37
              refine j_iconst C (v := 1) dL_isPeaceSo_140 (by decide) ?_
              refine j_goto C (tgt := 145) dL_isPeaceSo_141 (by decide) ?_
              refine j_istore C [(0, .ref (B + 0)), (1, .int x1), (2, .int x2), (3, .int y3), (4, .int x24), (5, .int y5), (6, .int x30), (7, .int 1), (8, .int y8), (9, .int x27)] [1, 2, 3, 4, 5, 6, 7, 0, 8, 9] dL_isPeaceSo_145 (by decide) rfl ?_
              obtain ⟨x38, ex38⟩ : ∃ y : Int32, y = (y8 + 2) := ⟨_, rfl⟩
              have h := lt_at h ex38
              refine j_iinc C (q := 8) [(0, .ref (B + 0)), (1, .int x1), (2, .int x2), (3, .int y3), (4, .int x24), (5, .int y5), (6, .int x30), (7, .int 1), (8, .int x38), (9, .int x27)] [1, 2, 3, 4, 5, 6, 7, 8, 0, 9] dL_isPeaceSo_147 rfl (by rw [ex38]; rfl) (by decide) rfl ?_
              refine j_goto C (tgt := 64) dL_isPeaceSo_150 (by decide) ?_
              refine j_sub [0, 1, 2, 3, 5, 6, 7, 8] rfl ?_
              exact ih64 y3 y5 x30 1 x38 _ h
            · have h := ite_f h c37
              refine j_iload C (q := 8) dL_isPeaceSo_112 rfl ?_
              refine j_iload C (q := 8) dL_isPeaceSo_114 rfl ?_
              refine j_imul C dL_isPeaceSo_116 ?_
              refine j_iload_n C (q := 3) dL_isPeaceSo_117 rfl rfl ?_
              refine j_iload_n C (q := 3) dL_isPeaceSo_118 rfl rfl ?_
              refine j_imul C dL_isPeaceSo_119 ?_
              refine j_icmp_gt C (tgt := 140) dL_isPeaceSo_120 (by decide) (fun c39 => ?_) (fun c39 => ?_)
              · have h := ite_t h c39
                refine j_iconst C (v := 1) dL_isPeaceSo_140 (by decide) ?_
                refine j_goto C (tgt := 145) dL_isPeaceSo_141 (by decide) ?_
                refine j_istore C [(0, .ref (B + 0)), (1, .int x1), (2, .int x2), (3, .int y3), (4, .int x24), (5, .int y5), (6, .int x30), (7, .int 1), (8, .int y8), (9, .int x27)] [1, 2, 3, 4, 5, 6, 7, 0, 8, 9] dL_isPeaceSo_145 (by decide) rfl ?_
                obtain ⟨x40, ex40⟩ : ∃ y : Int32, y = (y8 + 2) := ⟨_, rfl⟩
                have h := lt_at h ex40
                refine j_iinc C (q := 8) [(0, .ref (B + 0)), (1, .int x1), (2, .int x2), (3, .int y3), (4, .int x24), (5, .int y5), (6, .int x30), (7, .int 1), (8, .int x40), (9, .int x27)] [1, 2, 3, 4, 5, 6, 7, 8, 0, 9] dL_isPeaceSo_147 rfl (by rw [ex40]; rfl) (by decide) rfl ?_
                refine j_goto C (tgt := 64) dL_isPeaceSo_150 (by decide) ?_
                refine j_sub [0, 1, 2, 3, 5, 6, 7, 8] rfl ?_
                exact ih64 y3 y5 x30 1 x40 _ h
              · have h := ite_f h c39
                refine j_iload C (q := 8) dL_isPeaceSo_123 rfl ?_
                refine j_iload C (q := 8) dL_isPeaceSo_125 rfl ?_
                refine j_imul C dL_isPeaceSo_127 ?_
                refine j_iload_n C (q := 3) dL_isPeaceSo_128 rfl rfl ?_
                refine j_iload_n C (q := 3) dL_isPeaceSo_129 rfl rfl ?_
                refine j_imul C dL_isPeaceSo_130 ?_
                refine j_icmp_ne C (tgt := 144) dL_isPeaceSo_131 (by decide) (fun c41 => ?_) (fun c41 => ?_)
                · have h := ite_t h c41
                  refine j_iload_n C (q := 3) dL_isPeaceSo_134 rfl rfl ?_
                  refine j_iload C (q := 8) dL_isPeaceSo_135 rfl ?_
                  refine j_icmp_gt C (tgt := 144) dL_isPeaceSo_137 (by decide) (fun c43 => ?_) (fun c43 => ?_)
                  · have h := ite_t h c43
                    refine j_iconst C (v := 0) dL_isPeaceSo_144 (by decide) ?_
                    refine j_istore C [(0, .ref (B + 0)), (1, .int x1), (2, .int x2), (3, .int y3), (4, .int x24), (5, .int y5), (6, .int x30), (7, .int 0), (8, .int y8), (9, .int x27)] [1, 2, 3, 4, 5, 6, 7, 0, 8, 9] dL_isPeaceSo_145 (by decide) rfl ?_
                    obtain ⟨x44, ex44⟩ : ∃ y : Int32, y = (y8 + 2) := ⟨_, rfl⟩
                    have h := lt_at h ex44
                    refine j_iinc C (q := 8) [(0, .ref (B + 0)), (1, .int x1), (2, .int x2), (3, .int y3), (4, .int x24), (5, .int y5), (6, .int x30), (7, .int 0), (8, .int x44), (9, .int x27)] [1, 2, 3, 4, 5, 6, 7, 8, 0, 9] dL_isPeaceSo_147 rfl (by rw [ex44]; rfl) (by decide) rfl ?_
                    refine j_goto C (tgt := 64) dL_isPeaceSo_150 (by decide) ?_
                    refine j_sub [0, 1, 2, 3, 5, 6, 7, 8] rfl ?_
                    exact ih64 y3 y5 x30 0 x44 _ h
                  · have h := ite_f h c43
                    refine j_iconst C (v := 1) dL_isPeaceSo_140 (by decide) ?_
                    refine j_goto C (tgt := 145) dL_isPeaceSo_141 (by decide) ?_
                    refine j_istore C [(0, .ref (B + 0)), (1, .int x1), (2, .int x2), (3, .int y3), (4, .int x24), (5, .int y5), (6, .int x30), (7, .int 1), (8, .int y8), (9, .int x27)] [1, 2, 3, 4, 5, 6, 7, 0, 8, 9] dL_isPeaceSo_145 (by decide) rfl ?_
                    obtain ⟨x45, ex45⟩ : ∃ y : Int32, y = (y8 + 2) := ⟨_, rfl⟩
                    have h := lt_at h ex45
                    refine j_iinc C (q := 8) [(0, .ref (B + 0)), (1, .int x1), (2, .int x2), (3, .int y3), (4, .int x24), (5, .int y5), (6, .int x30), (7, .int 1), (8, .int x45), (9, .int x27)] [1, 2, 3, 4, 5, 6, 7, 8, 0, 9] dL_isPeaceSo_147 rfl (by rw [ex45]; rfl) (by decide) rfl ?_
                    refine j_goto C (tgt := 64) dL_isPeaceSo_150 (by decide) ?_
                    refine j_sub [0, 1, 2, 3, 5, 6, 7, 8] rfl ?_
                    exact ih64 y3 y5 x30 1 x45 _ h
                · have h := ite_f h c41
                  refine j_iconst C (v := 0) dL_isPeaceSo_144 (by decide) ?_
                  refine j_istore C [(0, .ref (B + 0)), (1, .int x1), (2, .int x2), (3, .int y3), (4, .int x24), (5, .int y5), (6, .int x30), (7, .int 0), (8, .int y8), (9, .int x27)] [1, 2, 3, 4, 5, 6, 7, 0, 8, 9] dL_isPeaceSo_145 (by decide) rfl ?_
                  obtain ⟨x42, ex42⟩ : ∃ y : Int32, y = (y8 + 2) := ⟨_, rfl⟩
                  have h := lt_at h ex42
                  refine j_iinc C (q := 8) [(0, .ref (B + 0)), (1, .int x1), (2, .int x2), (3, .int y3), (4, .int x24), (5, .int y5), (6, .int x30), (7, .int 0), (8, .int x42), (9, .int x27)] [1, 2, 3, 4, 5, 6, 7, 8, 0, 9] dL_isPeaceSo_147 rfl (by rw [ex42]; rfl) (by decide) rfl ?_
                  refine j_goto C (tgt := 64) dL_isPeaceSo_150 (by decide) ?_
                  refine j_sub [0, 1, 2, 3, 5, 6, 7, 8] rfl ?_
                  exact ih64 y3 y5 x30 0 x42 _ h
  refine j_aload_n C (q := 0) dL_isPeaceSo_0 rfl rfl ?_
  refine j_iload_n C (q := 1) dL_isPeaceSo_1 rfl rfl ?_
  refine j_iload_n C (q := 2) dL_isPeaceSo_2 rfl rfl ?_
  obtain ⟨x46, t47, e48, h⟩ := bd_some h
  refine j_callV_i C (i := 0) (As := [.int x1, .int x2]) (rest := []) (c_X6_peace l G B dy x1 x2 _ e48) (shp6 G B _ kA_0) (kd_lt kA_0 (by decide)) rfl tw_669 tw_670 tw_671 ti_6 tw_672 hd_X6_peace ⟨Nat.le_of_ble_eq_true rfl, Nat.le_of_ble_eq_true rfl⟩ ⟨Nat.le_of_ble_eq_true rfl, Nat.le_of_ble_eq_true rfl⟩ rfl rfl (Nat.le_of_ble_eq_true rfl) dL_isPeaceSo_3 ?_
  refine j_iconst C (v := 5) dL_isPeaceSo_6 (by decide) ?_
  refine j_isub C dL_isPeaceSo_7 ?_
  refine j_topi (fun x49 ex49 => ?_)
  have h := lt_at h ex49
  refine j_istore_n C [(0, .ref (B + 0)), (1, .int x1), (2, .int x2), (3, .int x49)] [1, 2, 3, 0] dL_isPeaceSo_8 rfl (by decide) rfl ?_
  refine j_aload_n C (q := 0) dL_isPeaceSo_9 rfl rfl ?_
  refine j_iload_n C (q := 1) dL_isPeaceSo_10 rfl rfl ?_
  refine j_iload_n C (q := 3) dL_isPeaceSo_11 rfl rfl ?_
  obtain ⟨x50, t51, e52, h⟩ := bd_some h
  refine j_callV_i C (i := 0) (As := [.int x1, .int x49]) (rest := []) (c_X6_teach l G B dy x1 x49 _ e52) (shp6 G B _ kA_0) (kd_lt kA_0 (by decide)) rfl tw_554 tw_555 tw_556 ti_6 tw_557 hd_X6_teach ⟨Nat.le_of_ble_eq_true rfl, Nat.le_of_ble_eq_true rfl⟩ ⟨Nat.le_of_ble_eq_true rfl, Nat.le_of_ble_eq_true rfl⟩ rfl rfl (Nat.le_of_ble_eq_true rfl) dL_isPeaceSo_12 ?_
  refine j_istore C [(0, .ref (B + 0)), (1, .int x1), (2, .int x2), (3, .int x49), (4, .int x50)] [1, 2, 3, 4, 0] dL_isPeaceSo_15 (by decide) rfl ?_
  refine j_aload_n C (q := 0) dL_isPeaceSo_17 rfl rfl ?_
  refine j_iload_n C (q := 2) dL_isPeaceSo_18 rfl rfl ?_
  obtain ⟨x53, t54, e55, h⟩ := bd_some h
  refine j_callV_i C (i := 0) (As := [.int x2]) (rest := []) (c_X6_quarrels l G B dy x2 _ e55) (shp6 G B _ kA_0) (kd_lt kA_0 (by decide)) rfl tw_647 tw_648 tw_649 ti_6 tw_650 hd_X6_quarrels ⟨Nat.le_of_ble_eq_true rfl, Nat.le_of_ble_eq_true rfl⟩ ⟨Nat.le_of_ble_eq_true rfl, Nat.le_of_ble_eq_true rfl⟩ rfl rfl (Nat.le_of_ble_eq_true rfl) dL_isPeaceSo_19 ?_
  refine j_istore C [(0, .ref (B + 0)), (1, .int x1), (2, .int x2), (3, .int x49), (4, .int x50), (5, .int x53)] [1, 2, 3, 4, 5, 0] dL_isPeaceSo_22 (by decide) rfl ?_
  refine j_aload_n C (q := 0) dL_isPeaceSo_24 rfl rfl ?_
  obtain ⟨x56, t57, e58, h⟩ := bd_some h
  refine j_callV_i C (i := 0) (As := []) (rest := []) (c_X6_undo l G B dy _ e58) (shp6 G B _ kA_0) (kd_lt kA_0 (by decide)) rfl tw_678 tw_679 tw_680 ti_6 tw_681 hd_X6_undo ⟨Nat.le_of_ble_eq_true rfl, Nat.le_of_ble_eq_true rfl⟩ ⟨Nat.le_of_ble_eq_true rfl, Nat.le_of_ble_eq_true rfl⟩ rfl rfl (Nat.le_of_ble_eq_true rfl) dL_isPeaceSo_25 ?_
  refine j_istore C [(0, .ref (B + 0)), (1, .int x1), (2, .int x2), (3, .int x49), (4, .int x50), (5, .int x53), (6, .int x56)] [1, 2, 3, 4, 5, 6, 0] dL_isPeaceSo_28 (by decide) rfl ?_
  refine j_iload_n C (q := 3) dL_isPeaceSo_30 rfl rfl ?_
  refine j_bipush C (v := (-5)) dL_isPeaceSo_31 (by decide) ?_
  refine j_icmp_lt C (tgt := 57) dL_isPeaceSo_33 (by decide) (fun c59 => ?_) (fun c59 => ?_)
  · have h := ite_t h c59
    refine j_iconst C (v := 0) dL_isPeaceSo_57 (by decide) ?_
    refine j_istore C [(0, .ref (B + 0)), (1, .int x1), (2, .int x2), (3, .int x49), (4, .int x50), (5, .int x53), (6, .int x56), (7, .int 0)] [1, 2, 3, 4, 5, 6, 7, 0] dL_isPeaceSo_58 (by decide) rfl ?_
    refine j_bipush C (v := (-5)) dL_isPeaceSo_60 (by decide) ?_
    refine j_istore C [(0, .ref (B + 0)), (1, .int x1), (2, .int x2), (3, .int x49), (4, .int x50), (5, .int x53), (6, .int x56), (7, .int 0), (8, .int (-5))] [1, 2, 3, 4, 5, 6, 7, 8, 0] dL_isPeaceSo_62 (by decide) rfl ?_
    refine j_sub [0, 1, 2, 3, 5, 6, 7, 8] rfl ?_
    exact J64 FU x49 x53 x56 0 (-5) _ h
  · have h := ite_f h c59
    refine j_iload_n C (q := 3) dL_isPeaceSo_36 rfl rfl ?_
    refine j_iconst C (v := 5) dL_isPeaceSo_37 (by decide) ?_
    refine j_icmp_gt C (tgt := 57) dL_isPeaceSo_38 (by decide) (fun c60 => ?_) (fun c60 => ?_)
    · have h := ite_t h c60
      refine j_iconst C (v := 0) dL_isPeaceSo_57 (by decide) ?_
      refine j_istore C [(0, .ref (B + 0)), (1, .int x1), (2, .int x2), (3, .int x49), (4, .int x50), (5, .int x53), (6, .int x56), (7, .int 0)] [1, 2, 3, 4, 5, 6, 7, 0] dL_isPeaceSo_58 (by decide) rfl ?_
      refine j_bipush C (v := (-5)) dL_isPeaceSo_60 (by decide) ?_
      refine j_istore C [(0, .ref (B + 0)), (1, .int x1), (2, .int x2), (3, .int x49), (4, .int x50), (5, .int x53), (6, .int x56), (7, .int 0), (8, .int (-5))] [1, 2, 3, 4, 5, 6, 7, 8, 0] dL_isPeaceSo_62 (by decide) rfl ?_
      refine j_sub [0, 1, 2, 3, 5, 6, 7, 8] rfl ?_
      exact J64 FU x49 x53 x56 0 (-5) _ h
    · have h := ite_f h c60
      refine j_iload C (q := 4) dL_isPeaceSo_41 rfl ?_
      refine j_aload_n C (q := 0) dL_isPeaceSo_43 rfl rfl ?_
      refine j_iconst C (v := 2) dL_isPeaceSo_44 (by decide) ?_
      refine j_iload_n C (q := 1) dL_isPeaceSo_45 rfl rfl ?_
      refine j_iadd C dL_isPeaceSo_46 ?_
      obtain ⟨x61, t62, e63, h⟩ := bd_some h
      refine j_callV_i C (i := 0) (As := [.int (2 + x1)]) (rest := [.int x50]) (c_X6_count l G B dy (2 + x1) _ e63) (shp6 G B _ kA_0) (kd_lt kA_0 (by decide)) rfl tw_392 tw_393 tw_394 ti_6 tw_395 hd_X6_count ⟨Nat.le_of_ble_eq_true rfl, Nat.le_of_ble_eq_true rfl⟩ ⟨Nat.le_of_ble_eq_true rfl, Nat.le_of_ble_eq_true rfl⟩ rfl rfl (Nat.le_of_ble_eq_true rfl) dL_isPeaceSo_47 ?_
      refine j_icmp_ne C (tgt := 57) dL_isPeaceSo_50 (by decide) (fun c64 => ?_) (fun c64 => ?_)
      · have h := ite_t h c64
        refine j_iconst C (v := 1) dL_isPeaceSo_53 (by decide) ?_
        refine j_goto C (tgt := 58) dL_isPeaceSo_54 (by decide) ?_
        refine j_istore C [(0, .ref (B + 0)), (1, .int x1), (2, .int x2), (3, .int x49), (4, .int x50), (5, .int x53), (6, .int x56), (7, .int 1)] [1, 2, 3, 4, 5, 6, 7, 0] dL_isPeaceSo_58 (by decide) rfl ?_
        refine j_bipush C (v := (-5)) dL_isPeaceSo_60 (by decide) ?_
        refine j_istore C [(0, .ref (B + 0)), (1, .int x1), (2, .int x2), (3, .int x49), (4, .int x50), (5, .int x53), (6, .int x56), (7, .int 1), (8, .int (-5))] [1, 2, 3, 4, 5, 6, 7, 8, 0] dL_isPeaceSo_62 (by decide) rfl ?_
        refine j_sub [0, 1, 2, 3, 5, 6, 7, 8] rfl ?_
        exact J64 FU x49 x53 x56 1 (-5) _ h
      · have h := ite_f h c64
        refine j_iconst C (v := 0) dL_isPeaceSo_57 (by decide) ?_
        refine j_istore C [(0, .ref (B + 0)), (1, .int x1), (2, .int x2), (3, .int x49), (4, .int x50), (5, .int x53), (6, .int x56), (7, .int 0)] [1, 2, 3, 4, 5, 6, 7, 0] dL_isPeaceSo_58 (by decide) rfl ?_
        refine j_bipush C (v := (-5)) dL_isPeaceSo_60 (by decide) ?_
        refine j_istore C [(0, .ref (B + 0)), (1, .int x1), (2, .int x2), (3, .int x49), (4, .int x50), (5, .int x53), (6, .int x56), (7, .int 0), (8, .int (-5))] [1, 2, 3, 4, 5, 6, 7, 8, 0] dL_isPeaceSo_62 (by decide) rfl ?_
        refine j_sub [0, 1, 2, 3, 5, 6, 7, 8] rfl ?_
        exact J64 FU x49 x53 x56 0 (-5) _ h
set_option maxRecDepth 100000 in
set_option maxHeartbeats 4000000 in
theorem c_L_isAlikeSo (l : Launch) (G : GG) (B dy : Nat) (x1 : Int32) (t0 : St) {r : Int32} {t9 : St} (h : f_L_isAlikeSo x1 t0 = some (r, t9)) : Ct l G B dy yL_isAlikeSo cL_isAlikeSo 6 (some .boolean) 7 168 0 0 [.ref (B + 0), .int x1] t0 (PostI G B r t9) := by
  refine Ct_of (by decide +kernel) [(0, .ref (B + 0)), (1, .int x1)] (Nat.le_of_ble_eq_true rfl) rfl ?_
  intro p e s m args below meth c C hr hlk
  have J70 : ∀ (n70 : Nat) (y2 : Int32) (y3 : Int32) (y4 : Int32) (t0 : St), f_L_isAlikeSo_l70 n70 x1 y2 y3 y4 t0 = some (r, t9) → WW G B p l e (RM 7 168 0 0) s m args below meth c 0 0 (MQ below (PostI G B r t9) args s 0 0 (Ab B)) 6 70 [(0, .ref (B + 0)), (1, .int x1), (2, .int y2), (3, .int y3), (4, .int y4)] [] t0 := by
    intro n70
    induction n70 with
    | zero => intro y2 y3 y4 t0 h; exact (no_some h).elim
    | succ n70 ih70 =>
      try clear h
      intro y2 y3 y4 t0 h
      have h : f_L_isAlikeSo_b70 (f_L_isAlikeSo_l70 n70) x1 y2 y3 y4 t0 = some (r, t9) := h
      refine j_iload C (q := 4) dL_isAlikeSo_70 rfl ?_
      refine j_aload_n C (q := 0) dL_isAlikeSo_72 rfl rfl ?_
      refine j_iconst C (v := 0) dL_isAlikeSo_73 (by decide) ?_
      obtain ⟨x21, t22, e23, h⟩ := bd_some h
      refine j_callV_i C (i := 0) (As := [.int 0]) (rest := [.int y4]) (c_X6_count l G B dy 0 _ e23) (shp6 G B _ kA_0) (kd_lt kA_0 (by decide)) rfl tw_392 tw_393 tw_394 ti_6 tw_395 hd_X6_count ⟨Nat.le_of_ble_eq_true rfl, Nat.le_of_ble_eq_true rfl⟩ ⟨Nat.le_of_ble_eq_true rfl, Nat.le_of_ble_eq_true rfl⟩ rfl rfl (Nat.le_of_ble_eq_true rfl) dL_isAlikeSo_74 ?_
      refine j_icmp_ge C (tgt := 194) dL_isAlikeSo_77 (by decide) (fun c24 => ?_) (fun c24 => ?_)
      · have h := ite_t h c24
        refine j_iload_n C (q := 3) dL_isAlikeSo_194 rfl rfl ?_
        obtain ⟨g25, h⟩ := gd_some h
        exact j_zret C hr hlk (is01_or g25) h ⟨Nat.le_of_ble_eq_true rfl, Nat.le_of_ble_eq_true rfl⟩ dL_isAlikeSo_195
      · have h := ite_f h c24
        refine j_aload_n C (q := 0) dL_isAlikeSo_80 rfl rfl ?_
        refine j_iload C (q := 4) dL_isAlikeSo_81 rfl ?_
        refine j_iload_n C (q := 1) dL_isAlikeSo_83 rfl rfl ?_
        refine j_iconst C (v := 1) dL_isAlikeSo_84 (by decide) ?_
        refine j_iconst C (v := 0) dL_isAlikeSo_85 (by decide) ?_
        obtain ⟨x26, t27, e28, h⟩ := bd_some h
        refine j_callV_i C (i := 0) (As := [.int y4, .int x1, .int 1, .int 0]) (rest := []) (c_X6_range l G B dy y4 x1 1 0 _ e28) (shp6 G B _ kA_0) (kd_lt kA_0 (by decide)) rfl tw_707 tw_708 tw_709 ti_6 tw_710 hd_X6_range ⟨Nat.le_of_ble_eq_true rfl, Nat.le_of_ble_eq_true rfl⟩ ⟨Nat.le_of_ble_eq_true rfl, Nat.le_of_ble_eq_true rfl⟩ rfl rfl (Nat.le_of_ble_eq_true rfl) dL_isAlikeSo_86 ?_
        refine j_istore C [(0, .ref (B + 0)), (1, .int x1), (2, .int y2), (3, .int y3), (4, .int y4), (5, .int x26)] [1, 2, 3, 4, 5, 0] dL_isAlikeSo_89 (by decide) rfl ?_
        refine j_iload_n C (q := 3) dL_isAlikeSo_91 rfl rfl ?_
        refine j_if_eq C (tgt := 186) dL_isAlikeSo_92 (by decide) (fun c29 => ?_) (fun c29 => ?_)
        · have h := ite_t h c29
          refine j_iconst C (v := 0) dL_isAlikeSo_186 (by decide) ?_
          refine j_istore_n C [(0, .ref (B + 0)), (1, .int x1), (2, .int y2), (3, .int 0), (4, .int y4), (5, .int x26)] [1, 2, 3, 0, 4, 5] dL_isAlikeSo_187 rfl (by decide) rfl ?_
          obtain ⟨x30, ex30⟩ : ∃ y : Int32, y = (y4 + 1) := ⟨_, rfl⟩
          have h := lt_at h ex30
          refine j_iinc C (q := 4) [(0, .ref (B + 0)), (1, .int x1), (2, .int y2), (3, .int 0), (4, .int x30), (5, .int x26)] [1, 2, 3, 4, 0, 5] dL_isAlikeSo_188 rfl (by rw [ex30]; rfl) (by decide) rfl ?_
          refine j_goto C (tgt := 70) dL_isAlikeSo_191 (by decide) ?_
          refine j_sub [0, 1, 2, 3, 4] rfl ?_
          exact ih70 y2 0 x30 _ h
        · have h := ite_f h c29
          refine j_aload_n C (q := 0) dL_isAlikeSo_95 rfl rfl ?_
          refine j_iload C (q := 4) dL_isAlikeSo_96 rfl ?_
          refine j_iload_n C (q := 2) dL_isAlikeSo_98 rfl rfl ?_
          obtain ⟨x31, t32, e33, h⟩ := bd_some h
          refine j_callV_i C (i := 0) (As := [.int y4, .int y2]) (rest := []) (c_X6_settled l G B dy y4 y2 _ e33) (shp6 G B _ kA_0) (kd_lt kA_0 (by decide)) rfl tw_643 tw_644 tw_645 ti_6 tw_646 hd_X6_settled ⟨Nat.le_of_ble_eq_true rfl, Nat.le_of_ble_eq_true rfl⟩ ⟨Nat.le_of_ble_eq_true rfl, Nat.le_of_ble_eq_true rfl⟩ rfl rfl (Nat.le_of_ble_eq_true rfl) dL_isAlikeSo_99 ?_
          refine j_aload_n C (q := 0) dL_isAlikeSo_102 rfl rfl ?_
          refine j_iload C (q := 4) dL_isAlikeSo_103 rfl ?_
          refine j_iload_n C (q := 1) dL_isAlikeSo_105 rfl rfl ?_
          obtain ⟨x34, t35, e36, h⟩ := bd_some h
          refine j_callV_i C (i := 0) (As := [.int y4, .int x1]) (rest := [.int x31]) (c_X6_settled l G B dy y4 x1 _ e36) (shp6 G B _ kA_0) (kd_lt kA_0 (by decide)) rfl tw_643 tw_644 tw_645 ti_6 tw_646 hd_X6_settled ⟨Nat.le_of_ble_eq_true rfl, Nat.le_of_ble_eq_true rfl⟩ ⟨Nat.le_of_ble_eq_true rfl, Nat.le_of_ble_eq_true rfl⟩ rfl rfl (Nat.le_of_ble_eq_true rfl) dL_isAlikeSo_106 ?_
          refine j_icmp_ne C (tgt := 186) dL_isAlikeSo_109 (by decide) (fun c37 => ?_) (fun c37 => ?_)
          · have h := ite_t h c37
            refine j_iload C (q := 5) dL_isAlikeSo_112 rfl ?_
            refine j_aload_n C (q := 0) dL_isAlikeSo_114 rfl rfl ?_
            refine j_iload C (q := 4) dL_isAlikeSo_115 rfl ?_
            refine j_iload_n C (q := 1) dL_isAlikeSo_117 rfl rfl ?_
            obtain ⟨x39, t40, e41, h⟩ := bd_some h
            refine j_callV_i C (i := 0) (As := [.int y4, .int x1]) (rest := [.int x26]) (c_X6_settled l G B dy y4 x1 _ e41) (shp6 G B _ kA_0) (kd_lt kA_0 (by decide)) rfl tw_643 tw_644 tw_645 ti_6 tw_646 hd_X6_settled ⟨Nat.le_of_ble_eq_true rfl, Nat.le_of_ble_eq_true rfl⟩ ⟨Nat.le_of_ble_eq_true rfl, Nat.le_of_ble_eq_true rfl⟩ rfl rfl (Nat.le_of_ble_eq_true rfl) dL_isAlikeSo_118 ?_
            refine j_icmp_ne C (tgt := 186) dL_isAlikeSo_121 (by decide) (fun c42 => ?_) (fun c42 => ?_)
            · have h := ite_t h c42
              refine j_aload_n C (q := 0) dL_isAlikeSo_124 rfl rfl ?_
              refine j_iload C (q := 4) dL_isAlikeSo_125 rfl ?_
              refine j_iload_n C (q := 1) dL_isAlikeSo_127 rfl rfl ?_
              refine j_bipush C (v := 20) dL_isAlikeSo_128 (by decide) ?_
              refine j_iconst C (v := 0) dL_isAlikeSo_130 (by decide) ?_
              obtain ⟨x44, t45, e46, h⟩ := bd_some h
              refine j_callV_i C (i := 0) (As := [.int y4, .int x1, .int 20, .int 0]) (rest := []) (c_X6_range l G B dy y4 x1 20 0 _ e46) (shp6 G B _ kA_0) (kd_lt kA_0 (by decide)) rfl tw_707 tw_708 tw_709 ti_6 tw_710 hd_X6_range ⟨Nat.le_of_ble_eq_true rfl, Nat.le_of_ble_eq_true rfl⟩ ⟨Nat.le_of_ble_eq_true rfl, Nat.le_of_ble_eq_true rfl⟩ rfl rfl (Nat.le_of_ble_eq_true rfl) dL_isAlikeSo_131 ?_
              refine j_aload_n C (q := 0) dL_isAlikeSo_134 rfl rfl ?_
              refine j_iload C (q := 4) dL_isAlikeSo_135 rfl ?_
              refine j_iload_n C (q := 1) dL_isAlikeSo_137 rfl rfl ?_
              refine j_bipush C (v := 20) dL_isAlikeSo_138 (by decide) ?_
              refine j_iconst C (v := 1) dL_isAlikeSo_140 (by decide) ?_
              obtain ⟨x47, t48, e49, h⟩ := bd_some h
              refine j_callV_i C (i := 0) (As := [.int y4, .int x1, .int 20, .int 1]) (rest := [.int x44]) (c_X6_range l G B dy y4 x1 20 1 _ e49) (shp6 G B _ kA_0) (kd_lt kA_0 (by decide)) rfl tw_707 tw_708 tw_709 ti_6 tw_710 hd_X6_range ⟨Nat.le_of_ble_eq_true rfl, Nat.le_of_ble_eq_true rfl⟩ ⟨Nat.le_of_ble_eq_true rfl, Nat.le_of_ble_eq_true rfl⟩ rfl rfl (Nat.le_of_ble_eq_true rfl) dL_isAlikeSo_141 ?_
              refine j_icmp_gt C (tgt := 186) dL_isAlikeSo_144 (by decide) (fun c50 => ?_) (fun c50 => ?_)
              · have h := ite_t h c50
                refine j_iconst C (v := 0) dL_isAlikeSo_186 (by decide) ?_
                refine j_istore_n C [(0, .ref (B + 0)), (1, .int x1), (2, .int y2), (3, .int 0), (4, .int y4), (5, .int x26)] [1, 2, 3, 0, 4, 5] dL_isAlikeSo_187 rfl (by decide) rfl ?_
                obtain ⟨x51, ex51⟩ : ∃ y : Int32, y = (y4 + 1) := ⟨_, rfl⟩
                have h := lt_at h ex51
                refine j_iinc C (q := 4) [(0, .ref (B + 0)), (1, .int x1), (2, .int y2), (3, .int 0), (4, .int x51), (5, .int x26)] [1, 2, 3, 4, 0, 5] dL_isAlikeSo_188 rfl (by rw [ex51]; rfl) (by decide) rfl ?_
                refine j_goto C (tgt := 70) dL_isAlikeSo_191 (by decide) ?_
                refine j_sub [0, 1, 2, 3, 4] rfl ?_
                exact ih70 y2 0 x51 _ h
              · have h := ite_f h c50
                refine j_iload C (q := 5) dL_isAlikeSo_147 rfl ?_
                refine j_if_lt C (tgt := 182) dL_isAlikeSo_149 (by decide) (fun c52 => ?_) (fun c52 => ?_)
                · have h := ite_t h c52
                  refine j_iconst C (v := 1) dL_isAlikeSo_182 (by decide) ?_
                  refine j_goto C (tgt := 187) dL_isAlikeSo_183 (by decide) ?_
                  refine j_istore_n C [(0, .ref (B + 0)), (1, .int x1), (2, .int y2), (3, .int 1), (4, .int y4), (5, .int x26)] [1, 2, 3, 0, 4, 5] dL_isAlikeSo_187 rfl (by decide) rfl ?_
                  obtain ⟨x53, ex53⟩ : ∃ y : Int32, y = (y4 + 1) := ⟨_, rfl⟩
                  have h := lt_at h ex53
                  refine j_iinc C (q := 4) [(0, .ref (B + 0)), (1, .int x1), (2, .int y2), (3, .int 1), (4, .int x53), (5, .int x26)] [1, 2, 3, 4, 0, 5] dL_isAlikeSo_188 rfl (by rw [ex53]; rfl) (by decide) rfl ?_
                  refine j_goto C (tgt := 70) dL_isAlikeSo_191 (by decide) ?_
                  refine j_sub [0, 1, 2, 3, 4] rfl ?_
                  exact ih70 y2 1 x53 _ h
                · have h := ite_f h c52
                  refine j_aload_n C (q := 0) dL_isAlikeSo_152 rfl rfl ?_
                  refine j_iload C (q := 4) dL_isAlikeSo_153 rfl ?_
                  refine j_iload_n C (q := 1) dL_isAlikeSo_155 rfl rfl ?_
                  refine j_bipush C (v := 20) dL_isAlikeSo_156 (by decide) ?_
                  refine j_iconst C (v := 0) dL_isAlikeSo_158 (by decide) ?_
                  obtain ⟨x54, t55, e56, h⟩ := bd_some h
                  refine j_callV_i C (i := 0) (As := [.int y4, .int x1, .int 20, .int 0]) (rest := []) (c_X6_range l G B dy y4 x1 20 0 _ e56) (shp6 G B _ kA_0) (kd_lt kA_0 (by decide)) rfl tw_707 tw_708 tw_709 ti_6 tw_710 hd_X6_range ⟨Nat.le_of_ble_eq_true rfl, Nat.le_of_ble_eq_true rfl⟩ ⟨Nat.le_of_ble_eq_true rfl, Nat.le_of_ble_eq_true rfl⟩ rfl rfl (Nat.le_of_ble_eq_true rfl) dL_isAlikeSo_159 ?_
                  refine j_iload C (q := 5) dL_isAlikeSo_162 rfl ?_
                  refine j_icmp_gt C (tgt := 186) dL_isAlikeSo_164 (by decide) (fun c57 => ?_) (fun c57 => ?_)
                  · have h := ite_t h c57
                    refine j_iconst C (v := 0) dL_isAlikeSo_186 (by decide) ?_
                    refine j_istore_n C [(0, .ref (B + 0)), (1, .int x1), (2, .int y2), (3, .int 0), (4, .int y4), (5, .int x26)] [1, 2, 3, 0, 4, 5] dL_isAlikeSo_187 rfl (by decide) rfl ?_
                    obtain ⟨x58, ex58⟩ : ∃ y : Int32, y = (y4 + 1) := ⟨_, rfl⟩
                    have h := lt_at h ex58
                    refine j_iinc C (q := 4) [(0, .ref (B + 0)), (1, .int x1), (2, .int y2), (3, .int 0), (4, .int x58), (5, .int x26)] [1, 2, 3, 4, 0, 5] dL_isAlikeSo_188 rfl (by rw [ex58]; rfl) (by decide) rfl ?_
                    refine j_goto C (tgt := 70) dL_isAlikeSo_191 (by decide) ?_
                    refine j_sub [0, 1, 2, 3, 4] rfl ?_
                    exact ih70 y2 0 x58 _ h
                  · have h := ite_f h c57
                    refine j_aload_n C (q := 0) dL_isAlikeSo_167 rfl rfl ?_
                    refine j_iload C (q := 4) dL_isAlikeSo_168 rfl ?_
                    refine j_iload_n C (q := 1) dL_isAlikeSo_170 rfl rfl ?_
                    refine j_bipush C (v := 20) dL_isAlikeSo_171 (by decide) ?_
                    refine j_iconst C (v := 1) dL_isAlikeSo_173 (by decide) ?_
                    obtain ⟨x59, t60, e61, h⟩ := bd_some h
                    refine j_callV_i C (i := 0) (As := [.int y4, .int x1, .int 20, .int 1]) (rest := []) (c_X6_range l G B dy y4 x1 20 1 _ e61) (shp6 G B _ kA_0) (kd_lt kA_0 (by decide)) rfl tw_707 tw_708 tw_709 ti_6 tw_710 hd_X6_range ⟨Nat.le_of_ble_eq_true rfl, Nat.le_of_ble_eq_true rfl⟩ ⟨Nat.le_of_ble_eq_true rfl, Nat.le_of_ble_eq_true rfl⟩ rfl rfl (Nat.le_of_ble_eq_true rfl) dL_isAlikeSo_174 ?_
                    refine j_iload C (q := 5) dL_isAlikeSo_177 rfl ?_
                    refine j_icmp_lt C (tgt := 186) dL_isAlikeSo_179 (by decide) (fun c62 => ?_) (fun c62 => ?_)
                    · have h := ite_t h c62
                      refine j_iconst C (v := 0) dL_isAlikeSo_186 (by decide) ?_
                      refine j_istore_n C [(0, .ref (B + 0)), (1, .int x1), (2, .int y2), (3, .int 0), (4, .int y4), (5, .int x26)] [1, 2, 3, 0, 4, 5] dL_isAlikeSo_187 rfl (by decide) rfl ?_
                      obtain ⟨x63, ex63⟩ : ∃ y : Int32, y = (y4 + 1) := ⟨_, rfl⟩
                      have h := lt_at h ex63
                      refine j_iinc C (q := 4) [(0, .ref (B + 0)), (1, .int x1), (2, .int y2), (3, .int 0), (4, .int x63), (5, .int x26)] [1, 2, 3, 4, 0, 5] dL_isAlikeSo_188 rfl (by rw [ex63]; rfl) (by decide) rfl ?_
                      refine j_goto C (tgt := 70) dL_isAlikeSo_191 (by decide) ?_
                      refine j_sub [0, 1, 2, 3, 4] rfl ?_
                      exact ih70 y2 0 x63 _ h
                    · have h := ite_f h c62
                      refine j_iconst C (v := 1) dL_isAlikeSo_182 (by decide) ?_
                      refine j_goto C (tgt := 187) dL_isAlikeSo_183 (by decide) ?_
                      refine j_istore_n C [(0, .ref (B + 0)), (1, .int x1), (2, .int y2), (3, .int 1), (4, .int y4), (5, .int x26)] [1, 2, 3, 0, 4, 5] dL_isAlikeSo_187 rfl (by decide) rfl ?_
                      obtain ⟨x64, ex64⟩ : ∃ y : Int32, y = (y4 + 1) := ⟨_, rfl⟩
                      have h := lt_at h ex64
                      refine j_iinc C (q := 4) [(0, .ref (B + 0)), (1, .int x1), (2, .int y2), (3, .int 1), (4, .int x64), (5, .int x26)] [1, 2, 3, 4, 0, 5] dL_isAlikeSo_188 rfl (by rw [ex64]; rfl) (by decide) rfl ?_
                      refine j_goto C (tgt := 70) dL_isAlikeSo_191 (by decide) ?_
                      refine j_sub [0, 1, 2, 3, 4] rfl ?_
                      exact ih70 y2 1 x64 _ h
            · have h := ite_f h c42
              refine j_iconst C (v := 0) dL_isAlikeSo_186 (by decide) ?_
              refine j_istore_n C [(0, .ref (B + 0)), (1, .int x1), (2, .int y2), (3, .int 0), (4, .int y4), (5, .int x26)] [1, 2, 3, 0, 4, 5] dL_isAlikeSo_187 rfl (by decide) rfl ?_
              obtain ⟨x43, ex43⟩ : ∃ y : Int32, y = (y4 + 1) := ⟨_, rfl⟩
              have h := lt_at h ex43
              refine j_iinc C (q := 4) [(0, .ref (B + 0)), (1, .int x1), (2, .int y2), (3, .int 0), (4, .int x43), (5, .int x26)] [1, 2, 3, 4, 0, 5] dL_isAlikeSo_188 rfl (by rw [ex43]; rfl) (by decide) rfl ?_
              refine j_goto C (tgt := 70) dL_isAlikeSo_191 (by decide) ?_
              refine j_sub [0, 1, 2, 3, 4] rfl ?_
              exact ih70 y2 0 x43 _ h
          · have h := ite_f h c37
            refine j_iconst C (v := 0) dL_isAlikeSo_186 (by decide) ?_
            refine j_istore_n C [(0, .ref (B + 0)), (1, .int x1), (2, .int y2), (3, .int 0), (4, .int y4), (5, .int x26)] [1, 2, 3, 0, 4, 5] dL_isAlikeSo_187 rfl (by decide) rfl ?_
            obtain ⟨x38, ex38⟩ : ∃ y : Int32, y = (y4 + 1) := ⟨_, rfl⟩
            have h := lt_at h ex38
            refine j_iinc C (q := 4) [(0, .ref (B + 0)), (1, .int x1), (2, .int y2), (3, .int 0), (4, .int x38), (5, .int x26)] [1, 2, 3, 4, 0, 5] dL_isAlikeSo_188 rfl (by rw [ex38]; rfl) (by decide) rfl ?_
            refine j_goto C (tgt := 70) dL_isAlikeSo_191 (by decide) ?_
            refine j_sub [0, 1, 2, 3, 4] rfl ?_
            exact ih70 y2 0 x38 _ h
  refine j_aload_n C (q := 0) dL_isAlikeSo_0 rfl rfl ?_
  refine j_iload_n C (q := 1) dL_isAlikeSo_1 rfl rfl ?_
  obtain ⟨x65, t66, e67, h⟩ := bd_some h
  refine j_callV_i C (i := 0) (As := [.int x1]) (rest := []) (c_X6_alike l G B dy x1 _ e67) (shp6 G B _ kA_0) (kd_lt kA_0 (by decide)) rfl tw_694 tw_695 tw_696 ti_6 tw_697 hd_X6_alike ⟨Nat.le_of_ble_eq_true rfl, Nat.le_of_ble_eq_true rfl⟩ ⟨Nat.le_of_ble_eq_true rfl, Nat.le_of_ble_eq_true rfl⟩ rfl rfl (Nat.le_of_ble_eq_true rfl) dL_isAlikeSo_2 ?_
  refine j_istore_n C [(0, .ref (B + 0)), (1, .int x1), (2, .int x65)] [1, 2, 0] dL_isAlikeSo_5 rfl (by decide) rfl ?_
  refine j_iload_n C (q := 2) dL_isAlikeSo_6 rfl rfl ?_
  refine j_iconst C (v := (-1)) dL_isAlikeSo_7 (by decide) ?_
  refine j_icmp_ne C (tgt := 13) dL_isAlikeSo_8 (by decide) (fun c68 => ?_) (fun c68 => ?_)
  · have h := ite_t h c68
    refine j_iconst C (v := 1) dL_isAlikeSo_11 (by decide) ?_
    exact j_zret C hr hlk (Or.inr rfl) h ⟨Nat.le_of_ble_eq_true rfl, Nat.le_of_ble_eq_true rfl⟩ dL_isAlikeSo_12
  · have h := ite_f h c68
    refine j_iload_n C (q := 2) dL_isAlikeSo_13 rfl rfl ?_
    refine j_iload_n C (q := 1) dL_isAlikeSo_14 rfl rfl ?_
    refine j_icmp_le C (tgt := 65) dL_isAlikeSo_15 (by decide) (fun c69 => ?_) (fun c69 => ?_)
    · have h := ite_t h c69
      refine j_iconst C (v := 0) dL_isAlikeSo_65 (by decide) ?_
      refine j_istore_n C [(0, .ref (B + 0)), (1, .int x1), (2, .int x65), (3, .int 0)] [1, 2, 3, 0] dL_isAlikeSo_66 rfl (by decide) rfl ?_
      refine j_iconst C (v := 0) dL_isAlikeSo_67 (by decide) ?_
      refine j_istore C [(0, .ref (B + 0)), (1, .int x1), (2, .int x65), (3, .int 0), (4, .int 0)] [1, 2, 3, 4, 0] dL_isAlikeSo_68 (by decide) rfl ?_
      exact J70 FU x65 0 0 _ h
    · have h := ite_f h c69
      refine j_iload_n C (q := 2) dL_isAlikeSo_18 rfl rfl ?_
      refine j_iload_n C (q := 1) dL_isAlikeSo_19 rfl rfl ?_
      refine j_bipush C (v := 100) dL_isAlikeSo_20 (by decide) ?_
      refine j_iadd C dL_isAlikeSo_22 ?_
      refine j_icmp_gt C (tgt := 65) dL_isAlikeSo_23 (by decide) (fun c70 => ?_) (fun c70 => ?_)
      · have h := ite_t h c70
        refine j_iconst C (v := 0) dL_isAlikeSo_65 (by decide) ?_
        refine j_istore_n C [(0, .ref (B + 0)), (1, .int x1), (2, .int x65), (3, .int 0)] [1, 2, 3, 0] dL_isAlikeSo_66 rfl (by decide) rfl ?_
        refine j_iconst C (v := 0) dL_isAlikeSo_67 (by decide) ?_
        refine j_istore C [(0, .ref (B + 0)), (1, .int x1), (2, .int x65), (3, .int 0), (4, .int 0)] [1, 2, 3, 4, 0] dL_isAlikeSo_68 (by decide) rfl ?_
        exact J70 FU x65 0 0 _ h
      · have h := ite_f h c70
        refine j_iload_n C (q := 2) dL_isAlikeSo_26 rfl rfl ?_
        refine j_sipush C (v := 1000) dL_isAlikeSo_27 (by decide) ?_
        refine j_icmp_ge C (tgt := 65) dL_isAlikeSo_30 (by decide) (fun c71 => ?_) (fun c71 => ?_)
        · have h := ite_t h c71
          refine j_iconst C (v := 0) dL_isAlikeSo_65 (by decide) ?_
          refine j_istore_n C [(0, .ref (B + 0)), (1, .int x1), (2, .int x65), (3, .int 0)] [1, 2, 3, 0] dL_isAlikeSo_66 rfl (by decide) rfl ?_
          refine j_iconst C (v := 0) dL_isAlikeSo_67 (by decide) ?_
          refine j_istore C [(0, .ref (B + 0)), (1, .int x1), (2, .int x65), (3, .int 0), (4, .int 0)] [1, 2, 3, 4, 0] dL_isAlikeSo_68 (by decide) rfl ?_
          exact J70 FU x65 0 0 _ h
        · have h := ite_f h c71
          refine j_iload_n C (q := 2) dL_isAlikeSo_33 rfl rfl ?_
          obtain ⟨x72, t73, e74, h⟩ := bd_some h
          refine j_callS_i C (i := 0) (As := [.int x65]) (rest := []) (c_L_days l G B dy x65 _ e74) tw_603 tw_604 ti_L tw_605 ⟨rfl, hd_L_days⟩ ⟨Nat.le_of_ble_eq_true rfl, Nat.le_of_ble_eq_true rfl⟩ ⟨Nat.le_of_ble_eq_true rfl, Nat.le_of_ble_eq_true rfl⟩ rfl rfl (Nat.le_of_ble_eq_true rfl) dL_isAlikeSo_34 ?_
          refine j_iload_n C (q := 1) dL_isAlikeSo_37 rfl rfl ?_
          obtain ⟨x75, t76, e77, h⟩ := bd_some h
          refine j_callS_i C (i := 0) (As := [.int x1]) (rest := [.int x72]) (c_L_days l G B dy x1 _ e77) tw_603 tw_604 ti_L tw_605 ⟨rfl, hd_L_days⟩ ⟨Nat.le_of_ble_eq_true rfl, Nat.le_of_ble_eq_true rfl⟩ ⟨Nat.le_of_ble_eq_true rfl, Nat.le_of_ble_eq_true rfl⟩ rfl rfl (Nat.le_of_ble_eq_true rfl) dL_isAlikeSo_38 ?_
          refine j_icmp_ne C (tgt := 65) dL_isAlikeSo_41 (by decide) (fun c78 => ?_) (fun c78 => ?_)
          · have h := ite_t h c78
            refine j_aload_n C (q := 0) dL_isAlikeSo_44 rfl rfl ?_
            refine j_iload_n C (q := 2) dL_isAlikeSo_45 rfl rfl ?_
            refine j_iconst C (v := 0) dL_isAlikeSo_46 (by decide) ?_
            refine j_iconst C (v := 0) dL_isAlikeSo_47 (by decide) ?_
            obtain ⟨x79, t80, e81, h⟩ := bd_some h
            refine j_callV_i C (i := 0) (As := [.int x65, .int 0, .int 0]) (rest := []) (c_X6_day l G B dy x65 0 0 _ e81) (shp6 G B _ kA_0) (kd_lt kA_0 (by decide)) rfl tw_606 tw_607 tw_608 ti_6 tw_609 hd_X6_day ⟨Nat.le_of_ble_eq_true rfl, Nat.le_of_ble_eq_true rfl⟩ ⟨Nat.le_of_ble_eq_true rfl, Nat.le_of_ble_eq_true rfl⟩ rfl rfl (Nat.le_of_ble_eq_true rfl) dL_isAlikeSo_48 ?_
            refine j_aload_n C (q := 0) dL_isAlikeSo_51 rfl rfl ?_
            refine j_iload_n C (q := 1) dL_isAlikeSo_52 rfl rfl ?_
            refine j_iconst C (v := 0) dL_isAlikeSo_53 (by decide) ?_
            refine j_iconst C (v := 0) dL_isAlikeSo_54 (by decide) ?_
            obtain ⟨x82, t83, e84, h⟩ := bd_some h
            refine j_callV_i C (i := 0) (As := [.int x1, .int 0, .int 0]) (rest := [.int x79]) (c_X6_day l G B dy x1 0 0 _ e84) (shp6 G B _ kA_0) (kd_lt kA_0 (by decide)) rfl tw_606 tw_607 tw_608 ti_6 tw_609 hd_X6_day ⟨Nat.le_of_ble_eq_true rfl, Nat.le_of_ble_eq_true rfl⟩ ⟨Nat.le_of_ble_eq_true rfl, Nat.le_of_ble_eq_true rfl⟩ rfl rfl (Nat.le_of_ble_eq_true rfl) dL_isAlikeSo_55 ?_
            refine j_icmp_ne C (tgt := 65) dL_isAlikeSo_58 (by decide) (fun c85 => ?_) (fun c85 => ?_)
            · have h := ite_t h c85
              refine j_iconst C (v := 1) dL_isAlikeSo_61 (by decide) ?_
              refine j_goto C (tgt := 66) dL_isAlikeSo_62 (by decide) ?_
              refine j_istore_n C [(0, .ref (B + 0)), (1, .int x1), (2, .int x65), (3, .int 1)] [1, 2, 3, 0] dL_isAlikeSo_66 rfl (by decide) rfl ?_
              refine j_iconst C (v := 0) dL_isAlikeSo_67 (by decide) ?_
              refine j_istore C [(0, .ref (B + 0)), (1, .int x1), (2, .int x65), (3, .int 1), (4, .int 0)] [1, 2, 3, 4, 0] dL_isAlikeSo_68 (by decide) rfl ?_
              exact J70 FU x65 1 0 _ h
            · have h := ite_f h c85
              refine j_iconst C (v := 0) dL_isAlikeSo_65 (by decide) ?_
              refine j_istore_n C [(0, .ref (B + 0)), (1, .int x1), (2, .int x65), (3, .int 0)] [1, 2, 3, 0] dL_isAlikeSo_66 rfl (by decide) rfl ?_
              refine j_iconst C (v := 0) dL_isAlikeSo_67 (by decide) ?_
              refine j_istore C [(0, .ref (B + 0)), (1, .int x1), (2, .int x65), (3, .int 0), (4, .int 0)] [1, 2, 3, 4, 0] dL_isAlikeSo_68 (by decide) rfl ?_
              exact J70 FU x65 0 0 _ h
          · have h := ite_f h c78
            refine j_iconst C (v := 0) dL_isAlikeSo_65 (by decide) ?_
            refine j_istore_n C [(0, .ref (B + 0)), (1, .int x1), (2, .int x65), (3, .int 0)] [1, 2, 3, 0] dL_isAlikeSo_66 rfl (by decide) rfl ?_
            refine j_iconst C (v := 0) dL_isAlikeSo_67 (by decide) ?_
            refine j_istore C [(0, .ref (B + 0)), (1, .int x1), (2, .int x65), (3, .int 0), (4, .int 0)] [1, 2, 3, 4, 0] dL_isAlikeSo_68 (by decide) rfl ?_
            exact J70 FU x65 0 0 _ h
