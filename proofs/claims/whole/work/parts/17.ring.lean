noncomputable def f_X2_become (t_norm : Int32) (t_sideY : Int64) (t_sideZ : Int64) (t_divisor : Int64) (t_size : Int32) (l1 : Int64) (l3 : Int64) (l5 : Int64) : Option (Int32 × Int64 × Int64 × Int64 × Int32) :=
  bnd1 (f_J9_abs_067f4 l5) fun r_c19_0 => (
   some (r_c19_0.toInt32, l1, l3, l5, 0)
  )
set_option maxHeartbeats 4000000 in
set_option maxRecDepth 100000 in
theorem c_X2_become (l : Launch) (D : va_G) (R : va_W) (h_t : Nat) (z_t_0 : Value) (z_t_1 : Value) (z_t_2 : Value) (t_norm : Int32) (t_sideY : Int64) (t_sideZ : Int64) (t_divisor : Int64) (t_size : Int32) (z_t_8 : Value) (z_t_9 : Value) (z_t_10 : Value) (z_t_11 : Value) (z_t_12 : Value) (z_t_13 : Value) (l1 : Int64) (l3 : Int64) (l5 : Int64) (o_t_norm : Int32) (o_t_sideY : Int64) (o_t_sideZ : Int64) (o_t_divisor : Int64) (o_t_size : Int32)  (h : f_X2_become t_norm t_sideY t_sideZ t_divisor t_size l1 l3 l5 = some (o_t_norm, o_t_sideY, o_t_sideZ, o_t_divisor, o_t_size)) (sz : Nat) : Met l yX2_become (WD yX2_become cX2_become 7 none) ({ frames := 1, cells := 0, slots := 0, locals := 21 }) (va_Pc [.ref h_t, .long l1, .long l3, .long l5] (PcW D [] ((h_t, .inr (2, [z_t_0, z_t_1, z_t_2, .int t_norm, .long t_sideY, .long t_sideZ, .long t_divisor, .int t_size, z_t_8, z_t_9, z_t_10, z_t_11, z_t_12, z_t_13])) :: R) sz)) (QV D ((h_t, .inr (2, [z_t_0, z_t_1, z_t_2, .int o_t_norm, .long o_t_sideY, .long o_t_sideZ, .long o_t_divisor, .int o_t_size, z_t_8, z_t_9, z_t_10, z_t_11, z_t_12, z_t_13])) :: R) (va_A ((h_t, .inr (2, [z_t_0, z_t_1, z_t_2, .int t_norm, .long t_sideY, .long t_sideZ, .long t_divisor, .int t_size, z_t_8, z_t_9, z_t_10, z_t_11, z_t_12, z_t_13])) :: R) sz)) 0 0 (va_A ((h_t, .inr (2, [z_t_0, z_t_1, z_t_2, .int t_norm, .long t_sideY, .long t_sideZ, .long t_divisor, .int t_size, z_t_8, z_t_9, z_t_10, z_t_11, z_t_12, z_t_13])) :: R) sz) := by
  refine ct_start (QF := fun A => QV D ((h_t, .inr (2, [z_t_0, z_t_1, z_t_2, .int o_t_norm, .long o_t_sideY, .long o_t_sideZ, .long o_t_divisor, .int o_t_size, z_t_8, z_t_9, z_t_10, z_t_11, z_t_12, z_t_13])) :: R) A) ?_ ?_ ?_
  · decide +kernel
  · exact Nat.le_of_ble_eq_true rfl
  intro p e s m args below meth c A ls S hr hlk hnm hS hA hP hD hK hN hl
  have S : CallFix p m c cX2_become 7 s args AL "DigitBench$Ring" := S
  have hx := S.1
  have hb := S.2.1
  have hown := S.2.2.2.1
  have ha := S.2.2.2.2
  have hl : lv_has ls 7 [(0, .ref h_t), (1, .long l1), (3, .long l3), (5, .long l5)] := hl
  unfold f_X2_become at h
  refine lv_aload_n hx hb dX2_become_0 rfl (lv_at hl 0 rfl) ?_
  refine lv_lload_n hx hb dX2_become_1 rfl (lv_at hl 1 rfl) ?_
  refine va_put (D := D) (ci := 2) (v := .long l1) (ty := .long) (C := RX2) (T := TX2) (N := 14) hx hb ha ix2 tyX2 tyX2_ok nmX2 hown hK hP hD hS 0 rfl rfl 4 (by decide) (ha _ q356) (fun _ h9 => h9) rfl (by decide +kernel) rfl rfl (Nat.le_of_ble_eq_true rfl) dX2_become_2 (fun H locs hP hD hS => ?_)
  have hP : va_P D vwCl ((h_t, .inr (2, [z_t_0, z_t_1, z_t_2, .int t_norm, .long l1, .long t_sideZ, .long t_divisor, .int t_size, z_t_8, z_t_9, z_t_10, z_t_11, z_t_12, z_t_13])) :: R) H := hP
  have hD : va_D A ((h_t, .inr (2, [z_t_0, z_t_1, z_t_2, .int t_norm, .long l1, .long t_sideZ, .long t_divisor, .int t_size, z_t_8, z_t_9, z_t_10, z_t_11, z_t_12, z_t_13])) :: R) := hD
  refine lv_aload_n hx hb dX2_become_5 rfl (lv_at hl 0 rfl) ?_
  refine lv_lload_n hx hb dX2_become_6 rfl (lv_at hl 2 rfl) ?_
  refine va_put (D := D) (ci := 2) (v := .long l3) (ty := .long) (C := RX2) (T := TX2) (N := 14) hx hb ha ix2 tyX2 tyX2_ok nmX2 hown hK hP hD hS 0 rfl rfl 5 (by decide) (ha _ q357) (fun _ h9 => h9) rfl (by decide +kernel) rfl rfl (Nat.le_of_ble_eq_true rfl) dX2_become_7 (fun H locs hP hD hS => ?_)
  have hP : va_P D vwCl ((h_t, .inr (2, [z_t_0, z_t_1, z_t_2, .int t_norm, .long l1, .long l3, .long t_divisor, .int t_size, z_t_8, z_t_9, z_t_10, z_t_11, z_t_12, z_t_13])) :: R) H := hP
  have hD : va_D A ((h_t, .inr (2, [z_t_0, z_t_1, z_t_2, .int t_norm, .long l1, .long l3, .long t_divisor, .int t_size, z_t_8, z_t_9, z_t_10, z_t_11, z_t_12, z_t_13])) :: R) := hD
  refine lv_aload_n hx hb dX2_become_10 rfl (lv_at hl 0 rfl) ?_
  refine lv_lload hx hb dX2_become_11 (lv_at hl 3 rfl) ?_
  refine va_put (D := D) (ci := 2) (v := .long l5) (ty := .long) (C := RX2) (T := TX2) (N := 14) hx hb ha ix2 tyX2 tyX2_ok nmX2 hown hK hP hD hS 0 rfl rfl 6 (by decide) (ha _ q358) (fun _ h9 => h9) rfl (by decide +kernel) rfl rfl (Nat.le_of_ble_eq_true rfl) dX2_become_13 (fun H locs hP hD hS => ?_)
  have hP : va_P D vwCl ((h_t, .inr (2, [z_t_0, z_t_1, z_t_2, .int t_norm, .long l1, .long l3, .long l5, .int t_size, z_t_8, z_t_9, z_t_10, z_t_11, z_t_12, z_t_13])) :: R) H := hP
  have hD : va_D A ((h_t, .inr (2, [z_t_0, z_t_1, z_t_2, .int t_norm, .long l1, .long l3, .long l5, .int t_size, z_t_8, z_t_9, z_t_10, z_t_11, z_t_12, z_t_13])) :: R) := hD
  refine lv_aload_n hx hb dX2_become_16 rfl (lv_at hl 0 rfl) ?_
  refine lv_lload hx hb dX2_become_17 (lv_at hl 3 rfl) ?_
  obtain ⟨r_c19_0, e_c19_0, h⟩ := bnd1_ok h
  refine cl_l (rn_s (As := [.long l5]) (rest := [.ref h_t]) S (c_J9_abs_067f4 l D ((h_t, .inr (2, [z_t_0, z_t_1, z_t_2, .int t_norm, .long l1, .long l3, .long l5, .int t_size, z_t_8, z_t_9, z_t_10, z_t_11, z_t_12, z_t_13])) :: R) l5 r_c19_0 e_c19_0 _) q328 q329 q58 q330 nd_J9_abs_067f4 ⟨Nat.le_of_ble_eq_true rfl, Nat.le_of_ble_eq_true rfl⟩ rfl rfl hP hD (hK.sub (tys' := []) [] rfl) hN rfl hl.1 rfl (Nat.le_of_ble_eq_true rfl) dX2_become_19 ⟨Nat.le_of_ble_eq_true rfl, Nat.le_of_ble_eq_true rfl⟩) hS hA hD (fun H locs hP hD hS => ?_)
  have hP : va_P D vwCl ((h_t, .inr (2, [z_t_0, z_t_1, z_t_2, .int t_norm, .long l1, .long l3, .long l5, .int t_size, z_t_8, z_t_9, z_t_10, z_t_11, z_t_12, z_t_13])) :: R) H := hP
  have hD : va_D A ((h_t, .inr (2, [z_t_0, z_t_1, z_t_2, .int t_norm, .long l1, .long l3, .long l5, .int t_size, z_t_8, z_t_9, z_t_10, z_t_11, z_t_12, z_t_13])) :: R) := hD
  refine lv_l2i (v := r_c19_0.toInt32) hx hb dX2_become_22 rfl ?_
  refine va_put (D := D) (ci := 2) (v := .int r_c19_0.toInt32) (ty := .int) (C := RX2) (T := TX2) (N := 14) hx hb ha ix2 tyX2 tyX2_ok nmX2 hown hK hP hD hS 0 rfl rfl 3 (by decide) (ha _ q354) (fun _ h9 => h9) rfl (by decide +kernel) rfl rfl (Nat.le_of_ble_eq_true rfl) dX2_become_23 (fun H locs hP hD hS => ?_)
  have hP : va_P D vwCl ((h_t, .inr (2, [z_t_0, z_t_1, z_t_2, .int r_c19_0.toInt32, .long l1, .long l3, .long l5, .int t_size, z_t_8, z_t_9, z_t_10, z_t_11, z_t_12, z_t_13])) :: R) H := hP
  have hD : va_D A ((h_t, .inr (2, [z_t_0, z_t_1, z_t_2, .int r_c19_0.toInt32, .long l1, .long l3, .long l5, .int t_size, z_t_8, z_t_9, z_t_10, z_t_11, z_t_12, z_t_13])) :: R) := hD
  refine lv_aload_n hx hb dX2_become_26 rfl (lv_at hl 0 rfl) ?_
  refine lv_iconst (v := 0) hx hb dX2_become_27 (by decide) ?_
  refine va_put (D := D) (ci := 2) (v := .int 0) (ty := .int) (C := RX2) (T := TX2) (N := 14) hx hb ha ix2 tyX2 tyX2_ok nmX2 hown hK hP hD hS 0 rfl rfl 7 (by decide) (ha _ q359) (fun _ h9 => h9) rfl (by decide +kernel) rfl rfl (Nat.le_of_ble_eq_true rfl) dX2_become_28 (fun H locs hP hD hS => ?_)
  have hP : va_P D vwCl ((h_t, .inr (2, [z_t_0, z_t_1, z_t_2, .int r_c19_0.toInt32, .long l1, .long l3, .long l5, .int 0, z_t_8, z_t_9, z_t_10, z_t_11, z_t_12, z_t_13])) :: R) H := hP
  have hD : va_D A ((h_t, .inr (2, [z_t_0, z_t_1, z_t_2, .int r_c19_0.toInt32, .long l1, .long l3, .long l5, .int 0, z_t_8, z_t_9, z_t_10, z_t_11, z_t_12, z_t_13])) :: R) := hD
  cases h
  exact rt_v S hr hlk hP hD hS dX2_become_31
noncomputable def f_X2_becomeSingle (t_parts : Int32) (t_p : Int32) (t_q : Int32) (t_norm : Int32) (t_sideY : Int64) (t_sideZ : Int64) (t_divisor : Int64) (t_size : Int32) (l1 : Int32) : Option (Int32 × Int32 × Int32 × Int32 × Int32 × Int64 × Int64 × Int64 × Int32) :=
  bnd1 (f_X11_isBeyond l1.toInt64 25) fun r_c5_0 => (
   if r_c5_0 = 0 then (
    bnd1 (f_X11_isBeyond l1.toInt64 1) fun r_c14_2 => (
     if r_c14_2 = 0 then (
      some (0, t_parts, t_p, t_q, t_norm, t_sideY, t_sideZ, t_divisor, t_size)
     ) else (
      bnd5 (f_X2_become t_norm t_sideY t_sideZ t_divisor t_size 1 0 l1.toInt64) fun t_norm_c42_4 t_sideY_c42_4 t_sideZ_c42_4 t_divisor_c42_4 t_size_c42_4 => (
       some (1, 1, 0, 0, t_norm_c42_4, t_sideY_c42_4, t_sideZ_c42_4, t_divisor_c42_4, t_size_c42_4)
      )
     )
    )
   ) else (
    some (0, t_parts, t_p, t_q, t_norm, t_sideY, t_sideZ, t_divisor, t_size)
   )
  )
set_option maxHeartbeats 4000000 in
set_option maxRecDepth 100000 in
theorem c_X2_becomeSingle (l : Launch) (D : va_G) (R : va_W) (h_t : Nat) (t_parts : Int32) (t_p : Int32) (t_q : Int32) (t_norm : Int32) (t_sideY : Int64) (t_sideZ : Int64) (t_divisor : Int64) (t_size : Int32) (z_t_8 : Value) (z_t_9 : Value) (z_t_10 : Value) (z_t_11 : Value) (z_t_12 : Value) (z_t_13 : Value) (l1 : Int32) (r : Int32) (o_t_parts : Int32) (o_t_p : Int32) (o_t_q : Int32) (o_t_norm : Int32) (o_t_sideY : Int64) (o_t_sideZ : Int64) (o_t_divisor : Int64) (o_t_size : Int32)  (h : f_X2_becomeSingle t_parts t_p t_q t_norm t_sideY t_sideZ t_divisor t_size l1 = some (r, o_t_parts, o_t_p, o_t_q, o_t_norm, o_t_sideY, o_t_sideZ, o_t_divisor, o_t_size)) (sz : Nat) : Met l yX2_becomeSingle (WD yX2_becomeSingle cX2_becomeSingle 2 (some .boolean)) ({ frames := 2, cells := 0, slots := 0, locals := 47 }) (va_Pc [.ref h_t, .int l1] (PcW D [] ((h_t, .inr (2, [.int t_parts, .int t_p, .int t_q, .int t_norm, .long t_sideY, .long t_sideZ, .long t_divisor, .int t_size, z_t_8, z_t_9, z_t_10, z_t_11, z_t_12, z_t_13])) :: R) sz)) (QZ D r ((h_t, .inr (2, [.int o_t_parts, .int o_t_p, .int o_t_q, .int o_t_norm, .long o_t_sideY, .long o_t_sideZ, .long o_t_divisor, .int o_t_size, z_t_8, z_t_9, z_t_10, z_t_11, z_t_12, z_t_13])) :: R) (va_A ((h_t, .inr (2, [.int t_parts, .int t_p, .int t_q, .int t_norm, .long t_sideY, .long t_sideZ, .long t_divisor, .int t_size, z_t_8, z_t_9, z_t_10, z_t_11, z_t_12, z_t_13])) :: R) sz)) 0 0 (va_A ((h_t, .inr (2, [.int t_parts, .int t_p, .int t_q, .int t_norm, .long t_sideY, .long t_sideZ, .long t_divisor, .int t_size, z_t_8, z_t_9, z_t_10, z_t_11, z_t_12, z_t_13])) :: R) sz) := by
  refine ct_start (QF := fun A => QZ D r ((h_t, .inr (2, [.int o_t_parts, .int o_t_p, .int o_t_q, .int o_t_norm, .long o_t_sideY, .long o_t_sideZ, .long o_t_divisor, .int o_t_size, z_t_8, z_t_9, z_t_10, z_t_11, z_t_12, z_t_13])) :: R) A) ?_ ?_ ?_
  · decide +kernel
  · exact Nat.le_of_ble_eq_true rfl
  intro p e s m args below meth c A ls S hr hlk hnm hS hA hP hD hK hN hl
  have S : CallFix p m c cX2_becomeSingle 2 s args AL "DigitBench$Ring" := S
  have hx := S.1
  have hb := S.2.1
  have hown := S.2.2.2.1
  have ha := S.2.2.2.2
  have hl : lv_has ls 2 [(0, .ref h_t), (1, .int l1)] := hl
  unfold f_X2_becomeSingle at h
  refine lv_iload_n hx hb dX2_becomeSingle_0 rfl (lv_at hl 1 rfl) ?_
  refine lv_i2l (v := l1.toInt64) hx hb dX2_becomeSingle_1 rfl ?_
  refine lv_ldc2 (v := 25) hx hb hown (ha _ q320) dX2_becomeSingle_2 ?_
  obtain ⟨r_c5_0, e_c5_0, h⟩ := bnd1_ok h
  refine cl_z (rn_sn (As := [.long l1.toInt64, .long 25]) (rest := []) S (c_X11_isBeyond l D ((h_t, .inr (2, [.int t_parts, .int t_p, .int t_q, .int t_norm, .long t_sideY, .long t_sideZ, .long t_divisor, .int t_size, z_t_8, z_t_9, z_t_10, z_t_11, z_t_12, z_t_13])) :: R) l1.toInt64 25 r_c5_0 e_c5_0 _) (hN.n8) q322 q48 q323 nd_X11_isBeyond ⟨Nat.le_of_ble_eq_true rfl, Nat.le_of_ble_eq_true rfl⟩ rfl rfl hP hD (hK.sub (tys' := []) [] rfl) hN rfl hl.1 rfl (Nat.le_of_ble_eq_true rfl) dX2_becomeSingle_5 ⟨Nat.le_of_ble_eq_true rfl, Nat.le_of_ble_eq_true rfl⟩) hS hA hD (fun H locs hP hD hS z_c5_0 => ?_)
  have hP : va_P D vwCl ((h_t, .inr (2, [.int t_parts, .int t_p, .int t_q, .int t_norm, .long t_sideY, .long t_sideZ, .long t_divisor, .int t_size, z_t_8, z_t_9, z_t_10, z_t_11, z_t_12, z_t_13])) :: R) H := hP
  have hD : va_D A ((h_t, .inr (2, [.int t_parts, .int t_p, .int t_q, .int t_norm, .long t_sideY, .long t_sideZ, .long t_divisor, .int t_size, z_t_8, z_t_9, z_t_10, z_t_11, z_t_12, z_t_13])) :: R) := hD
  refine lv_if_ne (tgt := 20) hx hb dX2_becomeSingle_8 (by decide) (fun c2 => ?_) (fun c2 => ?_)
  · have h := br_neg c2 h
    refine lv_iconst (v := 0) hx hb dX2_becomeSingle_20 (by decide) ?_
    cases h
    exact rt_z S hr hlk hP hD hS (by decide) dX2_becomeSingle_21
  · have h := br_pos c2 h
    refine lv_iload_n hx hb dX2_becomeSingle_11 rfl (lv_at hl 1 rfl) ?_
    refine lv_i2l (v := l1.toInt64) hx hb dX2_becomeSingle_12 rfl ?_
    refine lv_lconst (v := 1) hx hb dX2_becomeSingle_13 (by decide) ?_
    obtain ⟨r_c14_2, e_c14_2, h⟩ := bnd1_ok h
    refine cl_z (rn_sn (As := [.long l1.toInt64, .long 1]) (rest := []) S (c_X11_isBeyond l D ((h_t, .inr (2, [.int t_parts, .int t_p, .int t_q, .int t_norm, .long t_sideY, .long t_sideZ, .long t_divisor, .int t_size, z_t_8, z_t_9, z_t_10, z_t_11, z_t_12, z_t_13])) :: R) l1.toInt64 1 r_c14_2 e_c14_2 _) (hN.n8) q322 q48 q323 nd_X11_isBeyond ⟨Nat.le_of_ble_eq_true rfl, Nat.le_of_ble_eq_true rfl⟩ rfl rfl hP hD (hK.sub (tys' := []) [] rfl) hN rfl hl.1 rfl (Nat.le_of_ble_eq_true rfl) dX2_becomeSingle_14 ⟨Nat.le_of_ble_eq_true rfl, Nat.le_of_ble_eq_true rfl⟩) hS hA hD (fun H locs hP hD hS z_c14_2 => ?_)
    have hP : va_P D vwCl ((h_t, .inr (2, [.int t_parts, .int t_p, .int t_q, .int t_norm, .long t_sideY, .long t_sideZ, .long t_divisor, .int t_size, z_t_8, z_t_9, z_t_10, z_t_11, z_t_12, z_t_13])) :: R) H := hP
    have hD : va_D A ((h_t, .inr (2, [.int t_parts, .int t_p, .int t_q, .int t_norm, .long t_sideY, .long t_sideZ, .long t_divisor, .int t_size, z_t_8, z_t_9, z_t_10, z_t_11, z_t_12, z_t_13])) :: R) := hD
    refine lv_if_ne (tgt := 22) hx hb dX2_becomeSingle_17 (by decide) (fun c4 => ?_) (fun c4 => ?_)
    · have h := br_neg c4 h
      refine lv_aload_n hx hb dX2_becomeSingle_22 rfl (lv_at hl 0 rfl) ?_
      refine lv_iconst (v := 1) hx hb dX2_becomeSingle_23 (by decide) ?_
      refine va_put (D := D) (ci := 2) (v := .int 1) (ty := .int) (C := RX2) (T := TX2) (N := 14) hx hb ha ix2 tyX2 tyX2_ok nmX2 hown hK hP hD hS 0 rfl rfl 0 (by decide) (ha _ q350) (fun _ h9 => h9) rfl (by decide +kernel) rfl rfl (Nat.le_of_ble_eq_true rfl) dX2_becomeSingle_24 (fun H locs hP hD hS => ?_)
      have hP : va_P D vwCl ((h_t, .inr (2, [.int 1, .int t_p, .int t_q, .int t_norm, .long t_sideY, .long t_sideZ, .long t_divisor, .int t_size, z_t_8, z_t_9, z_t_10, z_t_11, z_t_12, z_t_13])) :: R) H := hP
      have hD : va_D A ((h_t, .inr (2, [.int 1, .int t_p, .int t_q, .int t_norm, .long t_sideY, .long t_sideZ, .long t_divisor, .int t_size, z_t_8, z_t_9, z_t_10, z_t_11, z_t_12, z_t_13])) :: R) := hD
      refine lv_aload_n hx hb dX2_becomeSingle_27 rfl (lv_at hl 0 rfl) ?_
      refine lv_iconst (v := 0) hx hb dX2_becomeSingle_28 (by decide) ?_
      refine va_put (D := D) (ci := 2) (v := .int 0) (ty := .int) (C := RX2) (T := TX2) (N := 14) hx hb ha ix2 tyX2 tyX2_ok nmX2 hown hK hP hD hS 0 rfl rfl 1 (by decide) (ha _ q352) (fun _ h9 => h9) rfl (by decide +kernel) rfl rfl (Nat.le_of_ble_eq_true rfl) dX2_becomeSingle_29 (fun H locs hP hD hS => ?_)
      have hP : va_P D vwCl ((h_t, .inr (2, [.int 1, .int 0, .int t_q, .int t_norm, .long t_sideY, .long t_sideZ, .long t_divisor, .int t_size, z_t_8, z_t_9, z_t_10, z_t_11, z_t_12, z_t_13])) :: R) H := hP
      have hD : va_D A ((h_t, .inr (2, [.int 1, .int 0, .int t_q, .int t_norm, .long t_sideY, .long t_sideZ, .long t_divisor, .int t_size, z_t_8, z_t_9, z_t_10, z_t_11, z_t_12, z_t_13])) :: R) := hD
      refine lv_aload_n hx hb dX2_becomeSingle_32 rfl (lv_at hl 0 rfl) ?_
      refine lv_iconst (v := 0) hx hb dX2_becomeSingle_33 (by decide) ?_
      refine va_put (D := D) (ci := 2) (v := .int 0) (ty := .int) (C := RX2) (T := TX2) (N := 14) hx hb ha ix2 tyX2 tyX2_ok nmX2 hown hK hP hD hS 0 rfl rfl 2 (by decide) (ha _ q353) (fun _ h9 => h9) rfl (by decide +kernel) rfl rfl (Nat.le_of_ble_eq_true rfl) dX2_becomeSingle_34 (fun H locs hP hD hS => ?_)
      have hP : va_P D vwCl ((h_t, .inr (2, [.int 1, .int 0, .int 0, .int t_norm, .long t_sideY, .long t_sideZ, .long t_divisor, .int t_size, z_t_8, z_t_9, z_t_10, z_t_11, z_t_12, z_t_13])) :: R) H := hP
      have hD : va_D A ((h_t, .inr (2, [.int 1, .int 0, .int 0, .int t_norm, .long t_sideY, .long t_sideZ, .long t_divisor, .int t_size, z_t_8, z_t_9, z_t_10, z_t_11, z_t_12, z_t_13])) :: R) := hD
      refine lv_aload_n hx hb dX2_becomeSingle_37 rfl (lv_at hl 0 rfl) ?_
      refine lv_lconst (v := 1) hx hb dX2_becomeSingle_38 (by decide) ?_
      refine lv_lconst (v := 0) hx hb dX2_becomeSingle_39 (by decide) ?_
      refine lv_iload_n hx hb dX2_becomeSingle_40 rfl (lv_at hl 1 rfl) ?_
      refine lv_i2l (v := l1.toInt64) hx hb dX2_becomeSingle_41 rfl ?_
      obtain ⟨t_norm_c42_4, t_sideY_c42_4, t_sideZ_c42_4, t_divisor_c42_4, t_size_c42_4, e_c42_4, h⟩ := bnd5_ok h
      refine cl_v (rn_v (ci := 2) (As := [.long 1, .long 0, .long l1.toInt64]) (rest := []) S (c_X2_become l D (R) h_t (.int 1) (.int 0) (.int 0) t_norm t_sideY t_sideZ t_divisor t_size (z_t_8) (z_t_9) (z_t_10) (z_t_11) (z_t_12) (z_t_13) 1 0 l1.toInt64 t_norm_c42_4 t_sideY_c42_4 t_sideZ_c42_4 t_divisor_c42_4 t_size_c42_4 e_c42_4 _) q324 q326 q2 q57 q327 nd_X2_become ⟨Nat.le_of_ble_eq_true rfl, Nat.le_of_ble_eq_true rfl⟩ rfl rfl hP hD (hK.sub (tys' := []) [] rfl) hN rfl ⟨0, _, rfl⟩ rfl hl.1 rfl (Nat.le_of_ble_eq_true rfl) dX2_becomeSingle_42 ⟨Nat.le_of_ble_eq_true rfl, Nat.le_of_ble_eq_true rfl⟩) hS hA hD (fun H locs hP hD hS => ?_)
      have hP : va_P D vwCl ((h_t, .inr (2, [.int 1, .int 0, .int 0, .int t_norm_c42_4, .long t_sideY_c42_4, .long t_sideZ_c42_4, .long t_divisor_c42_4, .int t_size_c42_4, z_t_8, z_t_9, z_t_10, z_t_11, z_t_12, z_t_13])) :: R) H := hP
      have hD : va_D A ((h_t, .inr (2, [.int 1, .int 0, .int 0, .int t_norm_c42_4, .long t_sideY_c42_4, .long t_sideZ_c42_4, .long t_divisor_c42_4, .int t_size_c42_4, z_t_8, z_t_9, z_t_10, z_t_11, z_t_12, z_t_13])) :: R) := hD
      refine lv_iconst (v := 1) hx hb dX2_becomeSingle_45 (by decide) ?_
      cases h
      exact rt_z S hr hlk hP hD hS (by decide) dX2_becomeSingle_46
    · have h := br_pos c4 h
      refine lv_iconst (v := 0) hx hb dX2_becomeSingle_20 (by decide) ?_
      cases h
      exact rt_z S hr hlk hP hD hS (by decide) dX2_becomeSingle_21
noncomputable def f_X2_becomeDouble (t_parts : Int32) (t_p : Int32) (t_q : Int32) (t_norm : Int32) (t_sideY : Int64) (t_sideZ : Int64) (t_divisor : Int64) (t_size : Int32) (l1 : Int32) (l2 : Int32) (l3 : Int32) (l4 : Int32) : Option (Int32 × Int32 × Int32 × Int32 × Int32 × Int64 × Int64 × Int64 × Int32) :=
  bnd1 (f_X11_isBeyond l1.toInt64 9) fun r_c5_0 => (
   if r_c5_0 = 0 then (
    bnd1 (f_X11_isBeyond l2.toInt64 9) fun r_c16_2 => (
     if r_c16_2 = 0 then (
      bnd1 (f_X11_isBeyond l3.toInt64 100000) fun r_c27_4 => (
       if r_c27_4 = 0 then (
        bnd1 (f_X11_isBeyond l4.toInt64 100000) fun r_c39_6 => (
         if r_c39_6 = 0 then (
          bnd1 (f_X11_isBeyond (((l3.toInt64 * l3.toInt64) + ((l1.toInt64 * l3.toInt64) * l4.toInt64)) - ((l2.toInt64 * l4.toInt64) * l4.toInt64)) 25) fun r_c80_8 => (
           if r_c80_8 = 0 then (
            bnd1 (f_X11_isBeyond (((l3.toInt64 * l3.toInt64) + ((l1.toInt64 * l3.toInt64) * l4.toInt64)) - ((l2.toInt64 * l4.toInt64) * l4.toInt64)) 1) fun r_c89_10 => (
             if r_c89_10 = 0 then (
              some (0, t_parts, t_p, t_q, t_norm, t_sideY, t_sideZ, t_divisor, t_size)
             ) else (
              bnd5 (f_X2_become t_norm t_sideY t_sideZ t_divisor t_size (l3.toInt64 + (l1.toInt64 * l4.toInt64)) ((-l4).toInt64) (((l3.toInt64 * l3.toInt64) + ((l1.toInt64 * l3.toInt64) * l4.toInt64)) - ((l2.toInt64 * l4.toInt64) * l4.toInt64))) fun t_norm_c128_12 t_sideY_c128_12 t_sideZ_c128_12 t_divisor_c128_12 t_size_c128_12 => (
               some (1, 2, l1, l2, t_norm_c128_12, t_sideY_c128_12, t_sideZ_c128_12, t_divisor_c128_12, t_size_c128_12)
              )
             )
            )
           ) else (
            some (0, t_parts, t_p, t_q, t_norm, t_sideY, t_sideZ, t_divisor, t_size)
           )
          )
         ) else (
          some (0, t_parts, t_p, t_q, t_norm, t_sideY, t_sideZ, t_divisor, t_size)
         )
        )
       ) else (
        some (0, t_parts, t_p, t_q, t_norm, t_sideY, t_sideZ, t_divisor, t_size)
       )
      )
     ) else (
      some (0, t_parts, t_p, t_q, t_norm, t_sideY, t_sideZ, t_divisor, t_size)
     )
    )
   ) else (
    some (0, t_parts, t_p, t_q, t_norm, t_sideY, t_sideZ, t_divisor, t_size)
   )
  )
set_option maxHeartbeats 4000000 in
set_option maxRecDepth 100000 in
theorem c_X2_becomeDouble (l : Launch) (D : va_G) (R : va_W) (h_t : Nat) (t_parts : Int32) (t_p : Int32) (t_q : Int32) (t_norm : Int32) (t_sideY : Int64) (t_sideZ : Int64) (t_divisor : Int64) (t_size : Int32) (z_t_8 : Value) (z_t_9 : Value) (z_t_10 : Value) (z_t_11 : Value) (z_t_12 : Value) (z_t_13 : Value) (l1 : Int32) (l2 : Int32) (l3 : Int32) (l4 : Int32) (r : Int32) (o_t_parts : Int32) (o_t_p : Int32) (o_t_q : Int32) (o_t_norm : Int32) (o_t_sideY : Int64) (o_t_sideZ : Int64) (o_t_divisor : Int64) (o_t_size : Int32)  (h : f_X2_becomeDouble t_parts t_p t_q t_norm t_sideY t_sideZ t_divisor t_size l1 l2 l3 l4 = some (r, o_t_parts, o_t_p, o_t_q, o_t_norm, o_t_sideY, o_t_sideZ, o_t_divisor, o_t_size)) (sz : Nat) : Met l yX2_becomeDouble (WD yX2_becomeDouble cX2_becomeDouble 7 (some .boolean)) ({ frames := 2, cells := 0, slots := 0, locals := 47 }) (va_Pc [.ref h_t, .int l1, .int l2, .int l3, .int l4] (PcW D [] ((h_t, .inr (2, [.int t_parts, .int t_p, .int t_q, .int t_norm, .long t_sideY, .long t_sideZ, .long t_divisor, .int t_size, z_t_8, z_t_9, z_t_10, z_t_11, z_t_12, z_t_13])) :: R) sz)) (QZ D r ((h_t, .inr (2, [.int o_t_parts, .int o_t_p, .int o_t_q, .int o_t_norm, .long o_t_sideY, .long o_t_sideZ, .long o_t_divisor, .int o_t_size, z_t_8, z_t_9, z_t_10, z_t_11, z_t_12, z_t_13])) :: R) (va_A ((h_t, .inr (2, [.int t_parts, .int t_p, .int t_q, .int t_norm, .long t_sideY, .long t_sideZ, .long t_divisor, .int t_size, z_t_8, z_t_9, z_t_10, z_t_11, z_t_12, z_t_13])) :: R) sz)) 0 0 (va_A ((h_t, .inr (2, [.int t_parts, .int t_p, .int t_q, .int t_norm, .long t_sideY, .long t_sideZ, .long t_divisor, .int t_size, z_t_8, z_t_9, z_t_10, z_t_11, z_t_12, z_t_13])) :: R) sz) := by
  refine ct_start (QF := fun A => QZ D r ((h_t, .inr (2, [.int o_t_parts, .int o_t_p, .int o_t_q, .int o_t_norm, .long o_t_sideY, .long o_t_sideZ, .long o_t_divisor, .int o_t_size, z_t_8, z_t_9, z_t_10, z_t_11, z_t_12, z_t_13])) :: R) A) ?_ ?_ ?_
  · decide +kernel
  · exact Nat.le_of_ble_eq_true rfl
  intro p e s m args below meth c A ls S hr hlk hnm hS hA hP hD hK hN hl
  have S : CallFix p m c cX2_becomeDouble 7 s args AL "DigitBench$Ring" := S
  have hx := S.1
  have hb := S.2.1
  have hown := S.2.2.2.1
  have ha := S.2.2.2.2
  have hl : lv_has ls 7 [(0, .ref h_t), (1, .int l1), (2, .int l2), (3, .int l3), (4, .int l4)] := hl
  unfold f_X2_becomeDouble at h
  refine lv_iload_n hx hb dX2_becomeDouble_0 rfl (lv_at hl 1 rfl) ?_
  refine lv_i2l (v := l1.toInt64) hx hb dX2_becomeDouble_1 rfl ?_
  refine lv_ldc2 (v := 9) hx hb hown (ha _ q738) dX2_becomeDouble_2 ?_
  obtain ⟨r_c5_0, e_c5_0, h⟩ := bnd1_ok h
  refine cl_z (rn_sn (As := [.long l1.toInt64, .long 9]) (rest := []) S (c_X11_isBeyond l D ((h_t, .inr (2, [.int t_parts, .int t_p, .int t_q, .int t_norm, .long t_sideY, .long t_sideZ, .long t_divisor, .int t_size, z_t_8, z_t_9, z_t_10, z_t_11, z_t_12, z_t_13])) :: R) l1.toInt64 9 r_c5_0 e_c5_0 _) (hN.n8) q322 q48 q323 nd_X11_isBeyond ⟨Nat.le_of_ble_eq_true rfl, Nat.le_of_ble_eq_true rfl⟩ rfl rfl hP hD (hK.sub (tys' := []) [] rfl) hN rfl hl.1 rfl (Nat.le_of_ble_eq_true rfl) dX2_becomeDouble_5 ⟨Nat.le_of_ble_eq_true rfl, Nat.le_of_ble_eq_true rfl⟩) hS hA hD (fun H locs hP hD hS z_c5_0 => ?_)
  have hP : va_P D vwCl ((h_t, .inr (2, [.int t_parts, .int t_p, .int t_q, .int t_norm, .long t_sideY, .long t_sideZ, .long t_divisor, .int t_size, z_t_8, z_t_9, z_t_10, z_t_11, z_t_12, z_t_13])) :: R) H := hP
  have hD : va_D A ((h_t, .inr (2, [.int t_parts, .int t_p, .int t_q, .int t_norm, .long t_sideY, .long t_sideZ, .long t_divisor, .int t_size, z_t_8, z_t_9, z_t_10, z_t_11, z_t_12, z_t_13])) :: R) := hD
  refine lv_if_ne (tgt := 45) hx hb dX2_becomeDouble_8 (by decide) (fun c2 => ?_) (fun c2 => ?_)
  · have h := br_neg c2 h
    refine lv_iconst (v := 0) hx hb dX2_becomeDouble_45 (by decide) ?_
    cases h
    exact rt_z S hr hlk hP hD hS (by decide) dX2_becomeDouble_46
  · have h := br_pos c2 h
    refine lv_iload_n hx hb dX2_becomeDouble_11 rfl (lv_at hl 2 rfl) ?_
    refine lv_i2l (v := l2.toInt64) hx hb dX2_becomeDouble_12 rfl ?_
    refine lv_ldc2 (v := 9) hx hb hown (ha _ q738) dX2_becomeDouble_13 ?_
    obtain ⟨r_c16_2, e_c16_2, h⟩ := bnd1_ok h
    refine cl_z (rn_sn (As := [.long l2.toInt64, .long 9]) (rest := []) S (c_X11_isBeyond l D ((h_t, .inr (2, [.int t_parts, .int t_p, .int t_q, .int t_norm, .long t_sideY, .long t_sideZ, .long t_divisor, .int t_size, z_t_8, z_t_9, z_t_10, z_t_11, z_t_12, z_t_13])) :: R) l2.toInt64 9 r_c16_2 e_c16_2 _) (hN.n8) q322 q48 q323 nd_X11_isBeyond ⟨Nat.le_of_ble_eq_true rfl, Nat.le_of_ble_eq_true rfl⟩ rfl rfl hP hD (hK.sub (tys' := []) [] rfl) hN rfl hl.1 rfl (Nat.le_of_ble_eq_true rfl) dX2_becomeDouble_16 ⟨Nat.le_of_ble_eq_true rfl, Nat.le_of_ble_eq_true rfl⟩) hS hA hD (fun H locs hP hD hS z_c16_2 => ?_)
    have hP : va_P D vwCl ((h_t, .inr (2, [.int t_parts, .int t_p, .int t_q, .int t_norm, .long t_sideY, .long t_sideZ, .long t_divisor, .int t_size, z_t_8, z_t_9, z_t_10, z_t_11, z_t_12, z_t_13])) :: R) H := hP
    have hD : va_D A ((h_t, .inr (2, [.int t_parts, .int t_p, .int t_q, .int t_norm, .long t_sideY, .long t_sideZ, .long t_divisor, .int t_size, z_t_8, z_t_9, z_t_10, z_t_11, z_t_12, z_t_13])) :: R) := hD
    refine lv_if_ne (tgt := 45) hx hb dX2_becomeDouble_19 (by decide) (fun c4 => ?_) (fun c4 => ?_)
    · have h := br_neg c4 h
      refine lv_iconst (v := 0) hx hb dX2_becomeDouble_45 (by decide) ?_
      cases h
      exact rt_z S hr hlk hP hD hS (by decide) dX2_becomeDouble_46
    · have h := br_pos c4 h
      refine lv_iload_n hx hb dX2_becomeDouble_22 rfl (lv_at hl 3 rfl) ?_
      refine lv_i2l (v := l3.toInt64) hx hb dX2_becomeDouble_23 rfl ?_
      refine lv_ldc2 (v := 100000) hx hb hown (ha _ q739) dX2_becomeDouble_24 ?_
      obtain ⟨r_c27_4, e_c27_4, h⟩ := bnd1_ok h
      refine cl_z (rn_sn (As := [.long l3.toInt64, .long 100000]) (rest := []) S (c_X11_isBeyond l D ((h_t, .inr (2, [.int t_parts, .int t_p, .int t_q, .int t_norm, .long t_sideY, .long t_sideZ, .long t_divisor, .int t_size, z_t_8, z_t_9, z_t_10, z_t_11, z_t_12, z_t_13])) :: R) l3.toInt64 100000 r_c27_4 e_c27_4 _) (hN.n8) q322 q48 q323 nd_X11_isBeyond ⟨Nat.le_of_ble_eq_true rfl, Nat.le_of_ble_eq_true rfl⟩ rfl rfl hP hD (hK.sub (tys' := []) [] rfl) hN rfl hl.1 rfl (Nat.le_of_ble_eq_true rfl) dX2_becomeDouble_27 ⟨Nat.le_of_ble_eq_true rfl, Nat.le_of_ble_eq_true rfl⟩) hS hA hD (fun H locs hP hD hS z_c27_4 => ?_)
      have hP : va_P D vwCl ((h_t, .inr (2, [.int t_parts, .int t_p, .int t_q, .int t_norm, .long t_sideY, .long t_sideZ, .long t_divisor, .int t_size, z_t_8, z_t_9, z_t_10, z_t_11, z_t_12, z_t_13])) :: R) H := hP
      have hD : va_D A ((h_t, .inr (2, [.int t_parts, .int t_p, .int t_q, .int t_norm, .long t_sideY, .long t_sideZ, .long t_divisor, .int t_size, z_t_8, z_t_9, z_t_10, z_t_11, z_t_12, z_t_13])) :: R) := hD
      refine lv_if_ne (tgt := 45) hx hb dX2_becomeDouble_30 (by decide) (fun c6 => ?_) (fun c6 => ?_)
      · have h := br_neg c6 h
        refine lv_iconst (v := 0) hx hb dX2_becomeDouble_45 (by decide) ?_
        cases h
        exact rt_z S hr hlk hP hD hS (by decide) dX2_becomeDouble_46
      · have h := br_pos c6 h
        refine lv_iload hx hb dX2_becomeDouble_33 (lv_at hl 4 rfl) ?_
        refine lv_i2l (v := l4.toInt64) hx hb dX2_becomeDouble_35 rfl ?_
        refine lv_ldc2 (v := 100000) hx hb hown (ha _ q739) dX2_becomeDouble_36 ?_
        obtain ⟨r_c39_6, e_c39_6, h⟩ := bnd1_ok h
        refine cl_z (rn_sn (As := [.long l4.toInt64, .long 100000]) (rest := []) S (c_X11_isBeyond l D ((h_t, .inr (2, [.int t_parts, .int t_p, .int t_q, .int t_norm, .long t_sideY, .long t_sideZ, .long t_divisor, .int t_size, z_t_8, z_t_9, z_t_10, z_t_11, z_t_12, z_t_13])) :: R) l4.toInt64 100000 r_c39_6 e_c39_6 _) (hN.n8) q322 q48 q323 nd_X11_isBeyond ⟨Nat.le_of_ble_eq_true rfl, Nat.le_of_ble_eq_true rfl⟩ rfl rfl hP hD (hK.sub (tys' := []) [] rfl) hN rfl hl.1 rfl (Nat.le_of_ble_eq_true rfl) dX2_becomeDouble_39 ⟨Nat.le_of_ble_eq_true rfl, Nat.le_of_ble_eq_true rfl⟩) hS hA hD (fun H locs hP hD hS z_c39_6 => ?_)
        have hP : va_P D vwCl ((h_t, .inr (2, [.int t_parts, .int t_p, .int t_q, .int t_norm, .long t_sideY, .long t_sideZ, .long t_divisor, .int t_size, z_t_8, z_t_9, z_t_10, z_t_11, z_t_12, z_t_13])) :: R) H := hP
        have hD : va_D A ((h_t, .inr (2, [.int t_parts, .int t_p, .int t_q, .int t_norm, .long t_sideY, .long t_sideZ, .long t_divisor, .int t_size, z_t_8, z_t_9, z_t_10, z_t_11, z_t_12, z_t_13])) :: R) := hD
        refine lv_if_eq (tgt := 47) hx hb dX2_becomeDouble_42 (by decide) (fun c8 => ?_) (fun c8 => ?_)
        · have h := br_pos c8 h
          refine lv_iload_n hx hb dX2_becomeDouble_47 rfl (lv_at hl 3 rfl) ?_
          refine lv_i2l (v := l3.toInt64) hx hb dX2_becomeDouble_48 rfl ?_
          refine lv_iload_n hx hb dX2_becomeDouble_49 rfl (lv_at hl 3 rfl) ?_
          refine lv_i2l (v := l3.toInt64) hx hb dX2_becomeDouble_50 rfl ?_
          refine lv_lmul hx hb dX2_becomeDouble_51 ?_
          refine lv_iload_n hx hb dX2_becomeDouble_52 rfl (lv_at hl 1 rfl) ?_
          refine lv_i2l (v := l1.toInt64) hx hb dX2_becomeDouble_53 rfl ?_
          refine lv_iload_n hx hb dX2_becomeDouble_54 rfl (lv_at hl 3 rfl) ?_
          refine lv_i2l (v := l3.toInt64) hx hb dX2_becomeDouble_55 rfl ?_
          refine lv_lmul hx hb dX2_becomeDouble_56 ?_
          refine lv_iload hx hb dX2_becomeDouble_57 (lv_at hl 4 rfl) ?_
          refine lv_i2l (v := l4.toInt64) hx hb dX2_becomeDouble_59 rfl ?_
          refine lv_lmul hx hb dX2_becomeDouble_60 ?_
          refine lv_ladd hx hb dX2_becomeDouble_61 ?_
          refine lv_iload_n hx hb dX2_becomeDouble_62 rfl (lv_at hl 2 rfl) ?_
          refine lv_i2l (v := l2.toInt64) hx hb dX2_becomeDouble_63 rfl ?_
          refine lv_iload hx hb dX2_becomeDouble_64 (lv_at hl 4 rfl) ?_
          refine lv_i2l (v := l4.toInt64) hx hb dX2_becomeDouble_66 rfl ?_
          refine lv_lmul hx hb dX2_becomeDouble_67 ?_
          refine lv_iload hx hb dX2_becomeDouble_68 (lv_at hl 4 rfl) ?_
          refine lv_i2l (v := l4.toInt64) hx hb dX2_becomeDouble_70 rfl ?_
          refine lv_lmul hx hb dX2_becomeDouble_71 ?_
          refine lv_lsub hx hb dX2_becomeDouble_72 ?_
          refine lv_lstore (lv' := [(5, .long (((l3.toInt64 * l3.toInt64) + ((l1.toInt64 * l3.toInt64) * l4.toInt64)) - ((l2.toInt64 * l4.toInt64) * l4.toInt64))), (0, .ref h_t), (1, .int l1), (2, .int l2), (3, .int l3), (4, .int l4)]) hx hb dX2_becomeDouble_73 hl (by decide) rfl (fun ls hl => ?_)
          refine lv_lload hx hb dX2_becomeDouble_75 (lv_at hl 0 rfl) ?_
          refine lv_ldc2 (v := 25) hx hb hown (ha _ q320) dX2_becomeDouble_77 ?_
          obtain ⟨r_c80_8, e_c80_8, h⟩ := bnd1_ok h
          refine cl_z (rn_sn (As := [.long (((l3.toInt64 * l3.toInt64) + ((l1.toInt64 * l3.toInt64) * l4.toInt64)) - ((l2.toInt64 * l4.toInt64) * l4.toInt64)), .long 25]) (rest := []) S (c_X11_isBeyond l D ((h_t, .inr (2, [.int t_parts, .int t_p, .int t_q, .int t_norm, .long t_sideY, .long t_sideZ, .long t_divisor, .int t_size, z_t_8, z_t_9, z_t_10, z_t_11, z_t_12, z_t_13])) :: R) (((l3.toInt64 * l3.toInt64) + ((l1.toInt64 * l3.toInt64) * l4.toInt64)) - ((l2.toInt64 * l4.toInt64) * l4.toInt64)) 25 r_c80_8 e_c80_8 _) (hN.n8) q322 q48 q323 nd_X11_isBeyond ⟨Nat.le_of_ble_eq_true rfl, Nat.le_of_ble_eq_true rfl⟩ rfl rfl hP hD (hK.sub (tys' := []) [] rfl) hN rfl hl.1 rfl (Nat.le_of_ble_eq_true rfl) dX2_becomeDouble_80 ⟨Nat.le_of_ble_eq_true rfl, Nat.le_of_ble_eq_true rfl⟩) hS hA hD (fun H locs hP hD hS z_c80_8 => ?_)
          have hP : va_P D vwCl ((h_t, .inr (2, [.int t_parts, .int t_p, .int t_q, .int t_norm, .long t_sideY, .long t_sideZ, .long t_divisor, .int t_size, z_t_8, z_t_9, z_t_10, z_t_11, z_t_12, z_t_13])) :: R) H := hP
          have hD : va_D A ((h_t, .inr (2, [.int t_parts, .int t_p, .int t_q, .int t_norm, .long t_sideY, .long t_sideZ, .long t_divisor, .int t_size, z_t_8, z_t_9, z_t_10, z_t_11, z_t_12, z_t_13])) :: R) := hD
          refine lv_if_ne (tgt := 95) hx hb dX2_becomeDouble_83 (by decide) (fun c10 => ?_) (fun c10 => ?_)
          · have h := br_neg c10 h
            refine lv_iconst (v := 0) hx hb dX2_becomeDouble_95 (by decide) ?_
            cases h
            exact rt_z S hr hlk hP hD hS (by decide) dX2_becomeDouble_96
          · have h := br_pos c10 h
            refine lv_lload hx hb dX2_becomeDouble_86 (lv_at hl 0 rfl) ?_
            refine lv_lconst (v := 1) hx hb dX2_becomeDouble_88 (by decide) ?_
            obtain ⟨r_c89_10, e_c89_10, h⟩ := bnd1_ok h
            refine cl_z (rn_sn (As := [.long (((l3.toInt64 * l3.toInt64) + ((l1.toInt64 * l3.toInt64) * l4.toInt64)) - ((l2.toInt64 * l4.toInt64) * l4.toInt64)), .long 1]) (rest := []) S (c_X11_isBeyond l D ((h_t, .inr (2, [.int t_parts, .int t_p, .int t_q, .int t_norm, .long t_sideY, .long t_sideZ, .long t_divisor, .int t_size, z_t_8, z_t_9, z_t_10, z_t_11, z_t_12, z_t_13])) :: R) (((l3.toInt64 * l3.toInt64) + ((l1.toInt64 * l3.toInt64) * l4.toInt64)) - ((l2.toInt64 * l4.toInt64) * l4.toInt64)) 1 r_c89_10 e_c89_10 _) (hN.n8) q322 q48 q323 nd_X11_isBeyond ⟨Nat.le_of_ble_eq_true rfl, Nat.le_of_ble_eq_true rfl⟩ rfl rfl hP hD (hK.sub (tys' := []) [] rfl) hN rfl hl.1 rfl (Nat.le_of_ble_eq_true rfl) dX2_becomeDouble_89 ⟨Nat.le_of_ble_eq_true rfl, Nat.le_of_ble_eq_true rfl⟩) hS hA hD (fun H locs hP hD hS z_c89_10 => ?_)
            have hP : va_P D vwCl ((h_t, .inr (2, [.int t_parts, .int t_p, .int t_q, .int t_norm, .long t_sideY, .long t_sideZ, .long t_divisor, .int t_size, z_t_8, z_t_9, z_t_10, z_t_11, z_t_12, z_t_13])) :: R) H := hP
            have hD : va_D A ((h_t, .inr (2, [.int t_parts, .int t_p, .int t_q, .int t_norm, .long t_sideY, .long t_sideZ, .long t_divisor, .int t_size, z_t_8, z_t_9, z_t_10, z_t_11, z_t_12, z_t_13])) :: R) := hD
            refine lv_if_ne (tgt := 97) hx hb dX2_becomeDouble_92 (by decide) (fun c12 => ?_) (fun c12 => ?_)
            · have h := br_neg c12 h
              refine lv_aload_n hx hb dX2_becomeDouble_97 rfl (lv_at hl 1 rfl) ?_
              refine lv_iconst (v := 2) hx hb dX2_becomeDouble_98 (by decide) ?_
              refine va_put (D := D) (ci := 2) (v := .int 2) (ty := .int) (C := RX2) (T := TX2) (N := 14) hx hb ha ix2 tyX2 tyX2_ok nmX2 hown hK hP hD hS 0 rfl rfl 0 (by decide) (ha _ q350) (fun _ h9 => h9) rfl (by decide +kernel) rfl rfl (Nat.le_of_ble_eq_true rfl) dX2_becomeDouble_99 (fun H locs hP hD hS => ?_)
              have hP : va_P D vwCl ((h_t, .inr (2, [.int 2, .int t_p, .int t_q, .int t_norm, .long t_sideY, .long t_sideZ, .long t_divisor, .int t_size, z_t_8, z_t_9, z_t_10, z_t_11, z_t_12, z_t_13])) :: R) H := hP
              have hD : va_D A ((h_t, .inr (2, [.int 2, .int t_p, .int t_q, .int t_norm, .long t_sideY, .long t_sideZ, .long t_divisor, .int t_size, z_t_8, z_t_9, z_t_10, z_t_11, z_t_12, z_t_13])) :: R) := hD
              refine lv_aload_n hx hb dX2_becomeDouble_102 rfl (lv_at hl 1 rfl) ?_
              refine lv_iload_n hx hb dX2_becomeDouble_103 rfl (lv_at hl 2 rfl) ?_
              refine va_put (D := D) (ci := 2) (v := .int l1) (ty := .int) (C := RX2) (T := TX2) (N := 14) hx hb ha ix2 tyX2 tyX2_ok nmX2 hown hK hP hD hS 0 rfl rfl 1 (by decide) (ha _ q352) (fun _ h9 => h9) rfl (by decide +kernel) rfl rfl (Nat.le_of_ble_eq_true rfl) dX2_becomeDouble_104 (fun H locs hP hD hS => ?_)
              have hP : va_P D vwCl ((h_t, .inr (2, [.int 2, .int l1, .int t_q, .int t_norm, .long t_sideY, .long t_sideZ, .long t_divisor, .int t_size, z_t_8, z_t_9, z_t_10, z_t_11, z_t_12, z_t_13])) :: R) H := hP
              have hD : va_D A ((h_t, .inr (2, [.int 2, .int l1, .int t_q, .int t_norm, .long t_sideY, .long t_sideZ, .long t_divisor, .int t_size, z_t_8, z_t_9, z_t_10, z_t_11, z_t_12, z_t_13])) :: R) := hD
              refine lv_aload_n hx hb dX2_becomeDouble_107 rfl (lv_at hl 1 rfl) ?_
              refine lv_iload_n hx hb dX2_becomeDouble_108 rfl (lv_at hl 3 rfl) ?_
              refine va_put (D := D) (ci := 2) (v := .int l2) (ty := .int) (C := RX2) (T := TX2) (N := 14) hx hb ha ix2 tyX2 tyX2_ok nmX2 hown hK hP hD hS 0 rfl rfl 2 (by decide) (ha _ q353) (fun _ h9 => h9) rfl (by decide +kernel) rfl rfl (Nat.le_of_ble_eq_true rfl) dX2_becomeDouble_109 (fun H locs hP hD hS => ?_)
              have hP : va_P D vwCl ((h_t, .inr (2, [.int 2, .int l1, .int l2, .int t_norm, .long t_sideY, .long t_sideZ, .long t_divisor, .int t_size, z_t_8, z_t_9, z_t_10, z_t_11, z_t_12, z_t_13])) :: R) H := hP
              have hD : va_D A ((h_t, .inr (2, [.int 2, .int l1, .int l2, .int t_norm, .long t_sideY, .long t_sideZ, .long t_divisor, .int t_size, z_t_8, z_t_9, z_t_10, z_t_11, z_t_12, z_t_13])) :: R) := hD
              refine lv_aload_n hx hb dX2_becomeDouble_112 rfl (lv_at hl 1 rfl) ?_
              refine lv_iload_n hx hb dX2_becomeDouble_113 rfl (lv_at hl 4 rfl) ?_
              refine lv_i2l (v := l3.toInt64) hx hb dX2_becomeDouble_114 rfl ?_
              refine lv_iload_n hx hb dX2_becomeDouble_115 rfl (lv_at hl 2 rfl) ?_
              refine lv_i2l (v := l1.toInt64) hx hb dX2_becomeDouble_116 rfl ?_
              refine lv_iload hx hb dX2_becomeDouble_117 (lv_at hl 5 rfl) ?_
              refine lv_i2l (v := l4.toInt64) hx hb dX2_becomeDouble_119 rfl ?_
              refine lv_lmul hx hb dX2_becomeDouble_120 ?_
              refine lv_ladd hx hb dX2_becomeDouble_121 ?_
              refine lv_iload hx hb dX2_becomeDouble_122 (lv_at hl 5 rfl) ?_
              refine lv_ineg hx hb dX2_becomeDouble_124 ?_
              refine lv_i2l (v := (-l4).toInt64) hx hb dX2_becomeDouble_125 rfl ?_
              refine lv_lload hx hb dX2_becomeDouble_126 (lv_at hl 0 rfl) ?_
              obtain ⟨t_norm_c128_12, t_sideY_c128_12, t_sideZ_c128_12, t_divisor_c128_12, t_size_c128_12, e_c128_12, h⟩ := bnd5_ok h
              refine cl_v (rn_v (ci := 2) (As := [.long (l3.toInt64 + (l1.toInt64 * l4.toInt64)), .long (-l4).toInt64, .long (((l3.toInt64 * l3.toInt64) + ((l1.toInt64 * l3.toInt64) * l4.toInt64)) - ((l2.toInt64 * l4.toInt64) * l4.toInt64))]) (rest := []) S (c_X2_become l D (R) h_t (.int 2) (.int l1) (.int l2) t_norm t_sideY t_sideZ t_divisor t_size (z_t_8) (z_t_9) (z_t_10) (z_t_11) (z_t_12) (z_t_13) (l3.toInt64 + (l1.toInt64 * l4.toInt64)) ((-l4).toInt64) (((l3.toInt64 * l3.toInt64) + ((l1.toInt64 * l3.toInt64) * l4.toInt64)) - ((l2.toInt64 * l4.toInt64) * l4.toInt64)) t_norm_c128_12 t_sideY_c128_12 t_sideZ_c128_12 t_divisor_c128_12 t_size_c128_12 e_c128_12 _) q324 q326 q2 q57 q327 nd_X2_become ⟨Nat.le_of_ble_eq_true rfl, Nat.le_of_ble_eq_true rfl⟩ rfl rfl hP hD (hK.sub (tys' := []) [] rfl) hN rfl ⟨0, _, rfl⟩ rfl hl.1 rfl (Nat.le_of_ble_eq_true rfl) dX2_becomeDouble_128 ⟨Nat.le_of_ble_eq_true rfl, Nat.le_of_ble_eq_true rfl⟩) hS hA hD (fun H locs hP hD hS => ?_)
              have hP : va_P D vwCl ((h_t, .inr (2, [.int 2, .int l1, .int l2, .int t_norm_c128_12, .long t_sideY_c128_12, .long t_sideZ_c128_12, .long t_divisor_c128_12, .int t_size_c128_12, z_t_8, z_t_9, z_t_10, z_t_11, z_t_12, z_t_13])) :: R) H := hP
              have hD : va_D A ((h_t, .inr (2, [.int 2, .int l1, .int l2, .int t_norm_c128_12, .long t_sideY_c128_12, .long t_sideZ_c128_12, .long t_divisor_c128_12, .int t_size_c128_12, z_t_8, z_t_9, z_t_10, z_t_11, z_t_12, z_t_13])) :: R) := hD
              refine lv_iconst (v := 1) hx hb dX2_becomeDouble_131 (by decide) ?_
              cases h
              exact rt_z S hr hlk hP hD hS (by decide) dX2_becomeDouble_132
            · have h := br_pos c12 h
              refine lv_iconst (v := 0) hx hb dX2_becomeDouble_95 (by decide) ?_
              cases h
              exact rt_z S hr hlk hP hD hS (by decide) dX2_becomeDouble_96
        · have h := br_neg c8 h
          refine lv_iconst (v := 0) hx hb dX2_becomeDouble_45 (by decide) ?_
          cases h
          exact rt_z S hr hlk hP hD hS (by decide) dX2_becomeDouble_46
noncomputable def f_X2_zOf (t_parts : Int32) (p1_size : Int32) (p1_bytes : Nat → Int32) (l2 : Int32) : Option (Int32) :=
  if t_parts = 1 then (
   some 0
  ) else (
   bnd1 (f_X7_at p1_size p1_bytes ((l2 * t_parts) + 1)) fun r_c21_1 => (
    some r_c21_1
   )
  )
set_option maxHeartbeats 4000000 in
set_option maxRecDepth 100000 in
theorem c_X2_zOf (l : Launch) (D : va_G) (R : va_W) (h_t : Nat) (t_parts : Int32) (z_t_1 : Value) (z_t_2 : Value) (z_t_3 : Value) (z_t_4 : Value) (z_t_5 : Value) (z_t_6 : Value) (z_t_7 : Value) (z_t_8 : Value) (z_t_9 : Value) (z_t_10 : Value) (z_t_11 : Value) (z_t_12 : Value) (z_t_13 : Value) (h_p1 : Nat) (p1_size : Int32) (h_p1_bytes : Nat) (k_p1_bytes : ClassId) (p1_bytes : Nat → Int32) (l2 : Int32) (r : Int32)  (h : f_X2_zOf t_parts p1_size p1_bytes l2 = some r) (sz : Nat) : Met l yX2_zOf (WD yX2_zOf cX2_zOf 3 (some .int)) ({ frames := 1, cells := 0, slots := 0, locals := 21 }) (va_Pc [.ref h_t, .ref h_p1, .int l2] (PcW D [(k_p1_bytes, .byte)] ((h_t, .inr (2, [.int t_parts, z_t_1, z_t_2, z_t_3, z_t_4, z_t_5, z_t_6, z_t_7, z_t_8, z_t_9, z_t_10, z_t_11, z_t_12, z_t_13])) :: (h_p1, .inr (7, [.ref h_p1_bytes, .int p1_size])) :: (h_p1_bytes, .inl (k_p1_bytes, 200, .inl p1_bytes)) :: R) sz)) (QI D r ((h_t, .inr (2, [.int t_parts, z_t_1, z_t_2, z_t_3, z_t_4, z_t_5, z_t_6, z_t_7, z_t_8, z_t_9, z_t_10, z_t_11, z_t_12, z_t_13])) :: (h_p1, .inr (7, [.ref h_p1_bytes, .int p1_size])) :: (h_p1_bytes, .inl (k_p1_bytes, 200, .inl p1_bytes)) :: R) (va_A ((h_t, .inr (2, [.int t_parts, z_t_1, z_t_2, z_t_3, z_t_4, z_t_5, z_t_6, z_t_7, z_t_8, z_t_9, z_t_10, z_t_11, z_t_12, z_t_13])) :: (h_p1, .inr (7, [.ref h_p1_bytes, .int p1_size])) :: (h_p1_bytes, .inl (k_p1_bytes, 200, .inl p1_bytes)) :: R) sz)) 0 0 (va_A ((h_t, .inr (2, [.int t_parts, z_t_1, z_t_2, z_t_3, z_t_4, z_t_5, z_t_6, z_t_7, z_t_8, z_t_9, z_t_10, z_t_11, z_t_12, z_t_13])) :: (h_p1, .inr (7, [.ref h_p1_bytes, .int p1_size])) :: (h_p1_bytes, .inl (k_p1_bytes, 200, .inl p1_bytes)) :: R) sz) := by
  refine ct_start (QF := fun A => QI D r ((h_t, .inr (2, [.int t_parts, z_t_1, z_t_2, z_t_3, z_t_4, z_t_5, z_t_6, z_t_7, z_t_8, z_t_9, z_t_10, z_t_11, z_t_12, z_t_13])) :: (h_p1, .inr (7, [.ref h_p1_bytes, .int p1_size])) :: (h_p1_bytes, .inl (k_p1_bytes, 200, .inl p1_bytes)) :: R) A) ?_ ?_ ?_
  · decide +kernel
  · exact Nat.le_of_ble_eq_true rfl
  intro p e s m args below meth c A ls S hr hlk hnm hS hA hP hD hK hN hl
  have S : CallFix p m c cX2_zOf 3 s args AL "DigitBench$Ring" := S
  have hx := S.1
  have hb := S.2.1
  have hown := S.2.2.2.1
  have ha := S.2.2.2.2
  have hl : lv_has ls 3 [(0, .ref h_t), (1, .ref h_p1), (2, .int l2)] := hl
  unfold f_X2_zOf at h
  refine lv_aload_n hx hb dX2_zOf_0 rfl (lv_at hl 0 rfl) ?_
  refine va_get (D := D) (ci := 2) (v := .int t_parts) (C := RX2) (T := TX2) (N := 14) hx hb ha ix2 hown hK hP 0 rfl rfl 0 (by decide) (ha _ q350) (fun _ h9 => h9) rfl dX2_zOf_1 ?_
  refine lv_iconst (v := 1) hx hb dX2_zOf_4 (by decide) ?_
  refine lv_icmp_ne (tgt := 12) hx hb dX2_zOf_5 (by decide) (fun c1 => ?_) (fun c1 => ?_)
  · have h := br_neg c1 h
    refine lv_aload_n hx hb dX2_zOf_12 rfl (lv_at hl 1 rfl) ?_
    refine lv_iload_n hx hb dX2_zOf_13 rfl (lv_at hl 2 rfl) ?_
    refine lv_aload_n hx hb dX2_zOf_14 rfl (lv_at hl 0 rfl) ?_
    refine va_get (D := D) (ci := 2) (v := .int t_parts) (C := RX2) (T := TX2) (N := 14) hx hb ha ix2 hown hK hP 0 rfl rfl 0 (by decide) (ha _ q350) (fun _ h9 => h9) rfl dX2_zOf_15 ?_
    refine lv_imul hx hb dX2_zOf_18 ?_
    refine lv_iconst (v := 1) hx hb dX2_zOf_19 (by decide) ?_
    refine lv_iadd hx hb dX2_zOf_20 ?_
    obtain ⟨r_c21_1, e_c21_1, h⟩ := bnd1_ok h
    have hP : va_P D vwCl ((h_p1, .inr (7, [.ref h_p1_bytes, .int p1_size])) :: (h_p1_bytes, .inl (k_p1_bytes, 200, .inl p1_bytes)) :: (h_t, .inr (2, [.int t_parts, z_t_1, z_t_2, z_t_3, z_t_4, z_t_5, z_t_6, z_t_7, z_t_8, z_t_9, z_t_10, z_t_11, z_t_12, z_t_13])) :: R) _ := pm_P [1, 2, 0] 3 hP
    have hD : va_D A ((h_p1, .inr (7, [.ref h_p1_bytes, .int p1_size])) :: (h_p1_bytes, .inl (k_p1_bytes, 200, .inl p1_bytes)) :: (h_t, .inr (2, [.int t_parts, z_t_1, z_t_2, z_t_3, z_t_4, z_t_5, z_t_6, z_t_7, z_t_8, z_t_9, z_t_10, z_t_11, z_t_12, z_t_13])) :: R) := pm_D (X := [(h_p1, .inr (7, [.ref h_p1_bytes, .int p1_size])), (h_p1_bytes, .inl (k_p1_bytes, 200, .inl p1_bytes)), (h_t, .inr (2, [.int t_parts, z_t_1, z_t_2, z_t_3, z_t_4, z_t_5, z_t_6, z_t_7, z_t_8, z_t_9, z_t_10, z_t_11, z_t_12, z_t_13]))]) [1, 2, 0] 3 (by decide) (by decide) rfl hD
    refine cl_i (rn_v (ci := 7) (As := [.int ((l2 * t_parts) + 1)]) (rest := []) S (c_X7_at l D ((h_t, .inr (2, [.int t_parts, z_t_1, z_t_2, z_t_3, z_t_4, z_t_5, z_t_6, z_t_7, z_t_8, z_t_9, z_t_10, z_t_11, z_t_12, z_t_13])) :: R) h_p1 p1_size h_p1_bytes k_p1_bytes p1_bytes ((l2 * t_parts) + 1) r_c21_1 e_c21_1 _) q752 q652 q653 q49 q654 nd_X7_at ⟨Nat.le_of_ble_eq_true rfl, Nat.le_of_ble_eq_true rfl⟩ rfl rfl hP hD (hK.sub (tys' := [(k_p1_bytes, .byte)]) [0] rfl) hN rfl ⟨0, _, rfl⟩ rfl hl.1 rfl (Nat.le_of_ble_eq_true rfl) dX2_zOf_21 ⟨Nat.le_of_ble_eq_true rfl, Nat.le_of_ble_eq_true rfl⟩) hS hA hD (fun H locs hP hD hS => ?_)
    have hP : va_P D vwCl ((h_t, .inr (2, [.int t_parts, z_t_1, z_t_2, z_t_3, z_t_4, z_t_5, z_t_6, z_t_7, z_t_8, z_t_9, z_t_10, z_t_11, z_t_12, z_t_13])) :: (h_p1, .inr (7, [.ref h_p1_bytes, .int p1_size])) :: (h_p1_bytes, .inl (k_p1_bytes, 200, .inl p1_bytes)) :: R) H := pm_P [2, 0, 1] 3 hP
    have hD : va_D A ((h_t, .inr (2, [.int t_parts, z_t_1, z_t_2, z_t_3, z_t_4, z_t_5, z_t_6, z_t_7, z_t_8, z_t_9, z_t_10, z_t_11, z_t_12, z_t_13])) :: (h_p1, .inr (7, [.ref h_p1_bytes, .int p1_size])) :: (h_p1_bytes, .inl (k_p1_bytes, 200, .inl p1_bytes)) :: R) := pm_D (X := [(h_t, .inr (2, [.int t_parts, z_t_1, z_t_2, z_t_3, z_t_4, z_t_5, z_t_6, z_t_7, z_t_8, z_t_9, z_t_10, z_t_11, z_t_12, z_t_13])), (h_p1, .inr (7, [.ref h_p1_bytes, .int p1_size])), (h_p1_bytes, .inl (k_p1_bytes, 200, .inl p1_bytes))]) [2, 0, 1] 3 (by decide) (by decide) rfl hD
    cases h
    exact rt_i S hr hlk hP hD hS dX2_zOf_24
  · have h := br_pos c1 h
    refine lv_iconst (v := 0) hx hb dX2_zOf_8 (by decide) ?_
    refine lv_goto (tgt := 24) hx hb dX2_zOf_9 (by decide) ?_
    cases h
    exact rt_i S hr hlk hP hD hS dX2_zOf_24
noncomputable def f_X2_timesSideY (t_q : Int32) (t_sideY : Int64) (t_sideZ : Int64) (l1 : Int64) (l3 : Int64) : Option (Int64) :=
  some ((l1 * t_sideY) + ((t_q.toInt64 * l3) * t_sideZ))
set_option maxHeartbeats 4000000 in
set_option maxRecDepth 100000 in
theorem c_X2_timesSideY (l : Launch) (D : va_G) (R : va_W) (h_t : Nat) (z_t_0 : Value) (z_t_1 : Value) (t_q : Int32) (z_t_3 : Value) (t_sideY : Int64) (t_sideZ : Int64) (z_t_6 : Value) (z_t_7 : Value) (z_t_8 : Value) (z_t_9 : Value) (z_t_10 : Value) (z_t_11 : Value) (z_t_12 : Value) (z_t_13 : Value) (l1 : Int64) (l3 : Int64) (r : Int64)  (h : f_X2_timesSideY t_q t_sideY t_sideZ l1 l3 = some r) (sz : Nat) : Met l yX2_timesSideY (WD yX2_timesSideY cX2_timesSideY 5 (some .long)) ({ frames := 0, cells := 0, slots := 0, locals := 0 }) (va_Pc [.ref h_t, .long l1, .long l3] (PcW D [] ((h_t, .inr (2, [z_t_0, z_t_1, .int t_q, z_t_3, .long t_sideY, .long t_sideZ, z_t_6, z_t_7, z_t_8, z_t_9, z_t_10, z_t_11, z_t_12, z_t_13])) :: R) sz)) (QL D r ((h_t, .inr (2, [z_t_0, z_t_1, .int t_q, z_t_3, .long t_sideY, .long t_sideZ, z_t_6, z_t_7, z_t_8, z_t_9, z_t_10, z_t_11, z_t_12, z_t_13])) :: R) (va_A ((h_t, .inr (2, [z_t_0, z_t_1, .int t_q, z_t_3, .long t_sideY, .long t_sideZ, z_t_6, z_t_7, z_t_8, z_t_9, z_t_10, z_t_11, z_t_12, z_t_13])) :: R) sz)) 0 0 (va_A ((h_t, .inr (2, [z_t_0, z_t_1, .int t_q, z_t_3, .long t_sideY, .long t_sideZ, z_t_6, z_t_7, z_t_8, z_t_9, z_t_10, z_t_11, z_t_12, z_t_13])) :: R) sz) := by
  refine ct_start (QF := fun A => QL D r ((h_t, .inr (2, [z_t_0, z_t_1, .int t_q, z_t_3, .long t_sideY, .long t_sideZ, z_t_6, z_t_7, z_t_8, z_t_9, z_t_10, z_t_11, z_t_12, z_t_13])) :: R) A) ?_ ?_ ?_
  · decide +kernel
  · exact Nat.le_of_ble_eq_true rfl
  intro p e s m args below meth c A ls S hr hlk hnm hS hA hP hD hK hN hl
  have S : CallFix p m c cX2_timesSideY 5 s args AL "DigitBench$Ring" := S
  have hx := S.1
  have hb := S.2.1
  have hown := S.2.2.2.1
  have ha := S.2.2.2.2
  have hl : lv_has ls 5 [(0, .ref h_t), (1, .long l1), (3, .long l3)] := hl
  unfold f_X2_timesSideY at h
  refine lv_lload_n hx hb dX2_timesSideY_0 rfl (lv_at hl 1 rfl) ?_
  refine lv_aload_n hx hb dX2_timesSideY_1 rfl (lv_at hl 0 rfl) ?_
  refine va_get (D := D) (ci := 2) (v := .long t_sideY) (C := RX2) (T := TX2) (N := 14) hx hb ha ix2 hown hK hP 0 rfl rfl 4 (by decide) (ha _ q356) (fun _ h9 => h9) rfl dX2_timesSideY_2 ?_
  refine lv_lmul hx hb dX2_timesSideY_5 ?_
  refine lv_aload_n hx hb dX2_timesSideY_6 rfl (lv_at hl 0 rfl) ?_
  refine va_get (D := D) (ci := 2) (v := .int t_q) (C := RX2) (T := TX2) (N := 14) hx hb ha ix2 hown hK hP 0 rfl rfl 2 (by decide) (ha _ q353) (fun _ h9 => h9) rfl dX2_timesSideY_7 ?_
  refine lv_i2l (v := t_q.toInt64) hx hb dX2_timesSideY_10 rfl ?_
  refine lv_lload_n hx hb dX2_timesSideY_11 rfl (lv_at hl 2 rfl) ?_
  refine lv_lmul hx hb dX2_timesSideY_12 ?_
  refine lv_aload_n hx hb dX2_timesSideY_13 rfl (lv_at hl 0 rfl) ?_
  refine va_get (D := D) (ci := 2) (v := .long t_sideZ) (C := RX2) (T := TX2) (N := 14) hx hb ha ix2 hown hK hP 0 rfl rfl 5 (by decide) (ha _ q357) (fun _ h9 => h9) rfl dX2_timesSideY_14 ?_
  refine lv_lmul hx hb dX2_timesSideY_17 ?_
  refine lv_ladd hx hb dX2_timesSideY_18 ?_
  cases h
  exact rt_l S hr hlk hP hD hS dX2_timesSideY_19
noncomputable def f_X2_timesSideZ (t_p : Int32) (t_sideY : Int64) (t_sideZ : Int64) (l1 : Int64) (l3 : Int64) : Option (Int64) :=
  some (((l1 * t_sideZ) + (l3 * t_sideY)) + ((t_p.toInt64 * l3) * t_sideZ))
set_option maxHeartbeats 4000000 in
set_option maxRecDepth 100000 in
theorem c_X2_timesSideZ (l : Launch) (D : va_G) (R : va_W) (h_t : Nat) (z_t_0 : Value) (t_p : Int32) (z_t_2 : Value) (z_t_3 : Value) (t_sideY : Int64) (t_sideZ : Int64) (z_t_6 : Value) (z_t_7 : Value) (z_t_8 : Value) (z_t_9 : Value) (z_t_10 : Value) (z_t_11 : Value) (z_t_12 : Value) (z_t_13 : Value) (l1 : Int64) (l3 : Int64) (r : Int64)  (h : f_X2_timesSideZ t_p t_sideY t_sideZ l1 l3 = some r) (sz : Nat) : Met l yX2_timesSideZ (WD yX2_timesSideZ cX2_timesSideZ 5 (some .long)) ({ frames := 0, cells := 0, slots := 0, locals := 0 }) (va_Pc [.ref h_t, .long l1, .long l3] (PcW D [] ((h_t, .inr (2, [z_t_0, .int t_p, z_t_2, z_t_3, .long t_sideY, .long t_sideZ, z_t_6, z_t_7, z_t_8, z_t_9, z_t_10, z_t_11, z_t_12, z_t_13])) :: R) sz)) (QL D r ((h_t, .inr (2, [z_t_0, .int t_p, z_t_2, z_t_3, .long t_sideY, .long t_sideZ, z_t_6, z_t_7, z_t_8, z_t_9, z_t_10, z_t_11, z_t_12, z_t_13])) :: R) (va_A ((h_t, .inr (2, [z_t_0, .int t_p, z_t_2, z_t_3, .long t_sideY, .long t_sideZ, z_t_6, z_t_7, z_t_8, z_t_9, z_t_10, z_t_11, z_t_12, z_t_13])) :: R) sz)) 0 0 (va_A ((h_t, .inr (2, [z_t_0, .int t_p, z_t_2, z_t_3, .long t_sideY, .long t_sideZ, z_t_6, z_t_7, z_t_8, z_t_9, z_t_10, z_t_11, z_t_12, z_t_13])) :: R) sz) := by
  refine ct_start (QF := fun A => QL D r ((h_t, .inr (2, [z_t_0, .int t_p, z_t_2, z_t_3, .long t_sideY, .long t_sideZ, z_t_6, z_t_7, z_t_8, z_t_9, z_t_10, z_t_11, z_t_12, z_t_13])) :: R) A) ?_ ?_ ?_
  · decide +kernel
  · exact Nat.le_of_ble_eq_true rfl
  intro p e s m args below meth c A ls S hr hlk hnm hS hA hP hD hK hN hl
  have S : CallFix p m c cX2_timesSideZ 5 s args AL "DigitBench$Ring" := S
  have hx := S.1
  have hb := S.2.1
  have hown := S.2.2.2.1
  have ha := S.2.2.2.2
  have hl : lv_has ls 5 [(0, .ref h_t), (1, .long l1), (3, .long l3)] := hl
  unfold f_X2_timesSideZ at h
  refine lv_lload_n hx hb dX2_timesSideZ_0 rfl (lv_at hl 1 rfl) ?_
  refine lv_aload_n hx hb dX2_timesSideZ_1 rfl (lv_at hl 0 rfl) ?_
  refine va_get (D := D) (ci := 2) (v := .long t_sideZ) (C := RX2) (T := TX2) (N := 14) hx hb ha ix2 hown hK hP 0 rfl rfl 5 (by decide) (ha _ q357) (fun _ h9 => h9) rfl dX2_timesSideZ_2 ?_
  refine lv_lmul hx hb dX2_timesSideZ_5 ?_
  refine lv_lload_n hx hb dX2_timesSideZ_6 rfl (lv_at hl 2 rfl) ?_
  refine lv_aload_n hx hb dX2_timesSideZ_7 rfl (lv_at hl 0 rfl) ?_
  refine va_get (D := D) (ci := 2) (v := .long t_sideY) (C := RX2) (T := TX2) (N := 14) hx hb ha ix2 hown hK hP 0 rfl rfl 4 (by decide) (ha _ q356) (fun _ h9 => h9) rfl dX2_timesSideZ_8 ?_
  refine lv_lmul hx hb dX2_timesSideZ_11 ?_
  refine lv_ladd hx hb dX2_timesSideZ_12 ?_
  refine lv_aload_n hx hb dX2_timesSideZ_13 rfl (lv_at hl 0 rfl) ?_
  refine va_get (D := D) (ci := 2) (v := .int t_p) (C := RX2) (T := TX2) (N := 14) hx hb ha ix2 hown hK hP 0 rfl rfl 1 (by decide) (ha _ q352) (fun _ h9 => h9) rfl dX2_timesSideZ_14 ?_
  refine lv_i2l (v := t_p.toInt64) hx hb dX2_timesSideZ_17 rfl ?_
  refine lv_lload_n hx hb dX2_timesSideZ_18 rfl (lv_at hl 2 rfl) ?_
  refine lv_lmul hx hb dX2_timesSideZ_19 ?_
  refine lv_aload_n hx hb dX2_timesSideZ_20 rfl (lv_at hl 0 rfl) ?_
  refine va_get (D := D) (ci := 2) (v := .long t_sideZ) (C := RX2) (T := TX2) (N := 14) hx hb ha ix2 hown hK hP 0 rfl rfl 5 (by decide) (ha _ q357) (fun _ h9 => h9) rfl dX2_timesSideZ_21 ?_
  refine lv_lmul hx hb dX2_timesSideZ_24 ?_
  refine lv_ladd hx hb dX2_timesSideZ_25 ?_
  cases h
  exact rt_l S hr hlk hP hD hS dX2_timesSideZ_26
noncomputable def f_X2_keyOf (t_p : Int32) (t_q : Int32) (t_norm : Int32) (t_sideY : Int64) (t_sideZ : Int64) (l1 : Int64) (l3 : Int64) : Option (Int32) :=
  if 0 < t_norm then (
   bnd1 (f_X2_timesSideY t_q t_sideY t_sideZ l1 l3) fun r_c12_1 => (
    bnd1 (f_J9_floorMod_f86c9 r_c12_1 t_norm.toInt64) fun r_c20_2 => (
     bnd1 (f_X2_timesSideZ t_p t_sideY t_sideZ l1 l3) fun r_c28_3 => (
      bnd1 (f_J9_floorMod_f86c9 r_c28_3 t_norm.toInt64) fun r_c36_4 => (
       some (((r_c20_2 * t_norm.toInt64) + r_c36_4).toInt32)
      )
     )
    )
   )
  ) else (
   some 0
  )
set_option maxHeartbeats 4000000 in
set_option maxRecDepth 100000 in
theorem c_X2_keyOf (l : Launch) (D : va_G) (R : va_W) (h_t : Nat) (z_t_0 : Value) (t_p : Int32) (t_q : Int32) (t_norm : Int32) (t_sideY : Int64) (t_sideZ : Int64) (z_t_6 : Value) (z_t_7 : Value) (z_t_8 : Value) (z_t_9 : Value) (z_t_10 : Value) (z_t_11 : Value) (z_t_12 : Value) (z_t_13 : Value) (l1 : Int64) (l3 : Int64) (r : Int32)  (h : f_X2_keyOf t_p t_q t_norm t_sideY t_sideZ l1 l3 = some r) (sz : Nat) : Met l yX2_keyOf (WD yX2_keyOf cX2_keyOf 9 (some .int)) ({ frames := 1, cells := 0, slots := 0, locals := 25 }) (va_Pc [.ref h_t, .long l1, .long l3] (PcW D [] ((h_t, .inr (2, [z_t_0, .int t_p, .int t_q, .int t_norm, .long t_sideY, .long t_sideZ, z_t_6, z_t_7, z_t_8, z_t_9, z_t_10, z_t_11, z_t_12, z_t_13])) :: R) sz)) (QI D r ((h_t, .inr (2, [z_t_0, .int t_p, .int t_q, .int t_norm, .long t_sideY, .long t_sideZ, z_t_6, z_t_7, z_t_8, z_t_9, z_t_10, z_t_11, z_t_12, z_t_13])) :: R) (va_A ((h_t, .inr (2, [z_t_0, .int t_p, .int t_q, .int t_norm, .long t_sideY, .long t_sideZ, z_t_6, z_t_7, z_t_8, z_t_9, z_t_10, z_t_11, z_t_12, z_t_13])) :: R) sz)) 0 0 (va_A ((h_t, .inr (2, [z_t_0, .int t_p, .int t_q, .int t_norm, .long t_sideY, .long t_sideZ, z_t_6, z_t_7, z_t_8, z_t_9, z_t_10, z_t_11, z_t_12, z_t_13])) :: R) sz) := by
  refine ct_start (QF := fun A => QI D r ((h_t, .inr (2, [z_t_0, .int t_p, .int t_q, .int t_norm, .long t_sideY, .long t_sideZ, z_t_6, z_t_7, z_t_8, z_t_9, z_t_10, z_t_11, z_t_12, z_t_13])) :: R) A) ?_ ?_ ?_
  · decide +kernel
  · exact Nat.le_of_ble_eq_true rfl
  intro p e s m args below meth c A ls S hr hlk hnm hS hA hP hD hK hN hl
  have S : CallFix p m c cX2_keyOf 9 s args AL "DigitBench$Ring" := S
  have hx := S.1
  have hb := S.2.1
  have hown := S.2.2.2.1
  have ha := S.2.2.2.2
  have hl : lv_has ls 9 [(0, .ref h_t), (1, .long l1), (3, .long l3)] := hl
  unfold f_X2_keyOf at h
  refine lv_aload_n hx hb dX2_keyOf_0 rfl (lv_at hl 0 rfl) ?_
  refine va_get (D := D) (ci := 2) (v := .int t_norm) (C := RX2) (T := TX2) (N := 14) hx hb ha ix2 hown hK hP 0 rfl rfl 3 (by decide) (ha _ q354) (fun _ h9 => h9) rfl dX2_keyOf_1 ?_
  refine lv_if_gt (tgt := 9) hx hb dX2_keyOf_4 (by decide) (fun c1 => ?_) (fun c1 => ?_)
  · have h := br_pos c1 h
    refine lv_aload_n hx hb dX2_keyOf_9 rfl (lv_at hl 0 rfl) ?_
    refine lv_lload_n hx hb dX2_keyOf_10 rfl (lv_at hl 1 rfl) ?_
    refine lv_lload_n hx hb dX2_keyOf_11 rfl (lv_at hl 2 rfl) ?_
    obtain ⟨r_c12_1, e_c12_1, h⟩ := bnd1_ok h
    refine cl_l (rn_v (ci := 2) (As := [.long l1, .long l3]) (rest := []) S (c_X2_timesSideY l D (R) h_t (z_t_0) (.int t_p) t_q (.int t_norm) t_sideY t_sideZ (z_t_6) (z_t_7) (z_t_8) (z_t_9) (z_t_10) (z_t_11) (z_t_12) (z_t_13) l1 l3 r_c12_1 e_c12_1 _) q335 q337 q4 q57 q338 nd_X2_timesSideY ⟨Nat.le_of_ble_eq_true rfl, Nat.le_of_ble_eq_true rfl⟩ rfl rfl hP hD (hK.sub (tys' := []) [] rfl) hN rfl ⟨0, _, rfl⟩ rfl hl.1 rfl (Nat.le_of_ble_eq_true rfl) dX2_keyOf_12 ⟨Nat.le_of_ble_eq_true rfl, Nat.le_of_ble_eq_true rfl⟩) hS hA hD (fun H locs hP hD hS => ?_)
    have hP : va_P D vwCl ((h_t, .inr (2, [z_t_0, .int t_p, .int t_q, .int t_norm, .long t_sideY, .long t_sideZ, z_t_6, z_t_7, z_t_8, z_t_9, z_t_10, z_t_11, z_t_12, z_t_13])) :: R) H := hP
    have hD : va_D A ((h_t, .inr (2, [z_t_0, .int t_p, .int t_q, .int t_norm, .long t_sideY, .long t_sideZ, z_t_6, z_t_7, z_t_8, z_t_9, z_t_10, z_t_11, z_t_12, z_t_13])) :: R) := hD
    refine lv_aload_n hx hb dX2_keyOf_15 rfl (lv_at hl 0 rfl) ?_
    refine va_get (D := D) (ci := 2) (v := .int t_norm) (C := RX2) (T := TX2) (N := 14) hx hb ha ix2 hown hK hP 0 rfl rfl 3 (by decide) (ha _ q354) (fun _ h9 => h9) rfl dX2_keyOf_16 ?_
    refine lv_i2l (v := t_norm.toInt64) hx hb dX2_keyOf_19 rfl ?_
    obtain ⟨r_c20_2, e_c20_2, h⟩ := bnd1_ok h
    refine cl_l (rn_s (As := [.long r_c12_1, .long t_norm.toInt64]) (rest := []) S (c_J9_floorMod_f86c9 l D ((h_t, .inr (2, [z_t_0, .int t_p, .int t_q, .int t_norm, .long t_sideY, .long t_sideZ, z_t_6, z_t_7, z_t_8, z_t_9, z_t_10, z_t_11, z_t_12, z_t_13])) :: R) r_c12_1 t_norm.toInt64 r_c20_2 e_c20_2 _) q339 q340 q58 q341 nd_J9_floorMod_f86c9 ⟨Nat.le_of_ble_eq_true rfl, Nat.le_of_ble_eq_true rfl⟩ rfl rfl hP hD (hK.sub (tys' := []) [] rfl) hN rfl hl.1 rfl (Nat.le_of_ble_eq_true rfl) dX2_keyOf_20 ⟨Nat.le_of_ble_eq_true rfl, Nat.le_of_ble_eq_true rfl⟩) hS hA hD (fun H locs hP hD hS => ?_)
    have hP : va_P D vwCl ((h_t, .inr (2, [z_t_0, .int t_p, .int t_q, .int t_norm, .long t_sideY, .long t_sideZ, z_t_6, z_t_7, z_t_8, z_t_9, z_t_10, z_t_11, z_t_12, z_t_13])) :: R) H := hP
    have hD : va_D A ((h_t, .inr (2, [z_t_0, .int t_p, .int t_q, .int t_norm, .long t_sideY, .long t_sideZ, z_t_6, z_t_7, z_t_8, z_t_9, z_t_10, z_t_11, z_t_12, z_t_13])) :: R) := hD
    refine lv_lstore (lv' := [(5, .long r_c20_2), (0, .ref h_t), (1, .long l1), (3, .long l3)]) hx hb dX2_keyOf_23 hl (by decide) rfl (fun ls hl => ?_)
    refine lv_aload_n hx hb dX2_keyOf_25 rfl (lv_at hl 1 rfl) ?_
    refine lv_lload_n hx hb dX2_keyOf_26 rfl (lv_at hl 2 rfl) ?_
    refine lv_lload_n hx hb dX2_keyOf_27 rfl (lv_at hl 3 rfl) ?_
    obtain ⟨r_c28_3, e_c28_3, h⟩ := bnd1_ok h
    refine cl_l (rn_v (ci := 2) (As := [.long l1, .long l3]) (rest := []) S (c_X2_timesSideZ l D (R) h_t (z_t_0) t_p (.int t_q) (.int t_norm) t_sideY t_sideZ (z_t_6) (z_t_7) (z_t_8) (z_t_9) (z_t_10) (z_t_11) (z_t_12) (z_t_13) l1 l3 r_c28_3 e_c28_3 _) q342 q344 q5 q57 q345 nd_X2_timesSideZ ⟨Nat.le_of_ble_eq_true rfl, Nat.le_of_ble_eq_true rfl⟩ rfl rfl hP hD (hK.sub (tys' := []) [] rfl) hN rfl ⟨0, _, rfl⟩ rfl hl.1 rfl (Nat.le_of_ble_eq_true rfl) dX2_keyOf_28 ⟨Nat.le_of_ble_eq_true rfl, Nat.le_of_ble_eq_true rfl⟩) hS hA hD (fun H locs hP hD hS => ?_)
    have hP : va_P D vwCl ((h_t, .inr (2, [z_t_0, .int t_p, .int t_q, .int t_norm, .long t_sideY, .long t_sideZ, z_t_6, z_t_7, z_t_8, z_t_9, z_t_10, z_t_11, z_t_12, z_t_13])) :: R) H := hP
    have hD : va_D A ((h_t, .inr (2, [z_t_0, .int t_p, .int t_q, .int t_norm, .long t_sideY, .long t_sideZ, z_t_6, z_t_7, z_t_8, z_t_9, z_t_10, z_t_11, z_t_12, z_t_13])) :: R) := hD
    refine lv_aload_n hx hb dX2_keyOf_31 rfl (lv_at hl 1 rfl) ?_
    refine va_get (D := D) (ci := 2) (v := .int t_norm) (C := RX2) (T := TX2) (N := 14) hx hb ha ix2 hown hK hP 0 rfl rfl 3 (by decide) (ha _ q354) (fun _ h9 => h9) rfl dX2_keyOf_32 ?_
    refine lv_i2l (v := t_norm.toInt64) hx hb dX2_keyOf_35 rfl ?_
    obtain ⟨r_c36_4, e_c36_4, h⟩ := bnd1_ok h
    refine cl_l (rn_s (As := [.long r_c28_3, .long t_norm.toInt64]) (rest := []) S (c_J9_floorMod_f86c9 l D ((h_t, .inr (2, [z_t_0, .int t_p, .int t_q, .int t_norm, .long t_sideY, .long t_sideZ, z_t_6, z_t_7, z_t_8, z_t_9, z_t_10, z_t_11, z_t_12, z_t_13])) :: R) r_c28_3 t_norm.toInt64 r_c36_4 e_c36_4 _) q339 q340 q58 q341 nd_J9_floorMod_f86c9 ⟨Nat.le_of_ble_eq_true rfl, Nat.le_of_ble_eq_true rfl⟩ rfl rfl hP hD (hK.sub (tys' := []) [] rfl) hN rfl hl.1 rfl (Nat.le_of_ble_eq_true rfl) dX2_keyOf_36 ⟨Nat.le_of_ble_eq_true rfl, Nat.le_of_ble_eq_true rfl⟩) hS hA hD (fun H locs hP hD hS => ?_)
    have hP : va_P D vwCl ((h_t, .inr (2, [z_t_0, .int t_p, .int t_q, .int t_norm, .long t_sideY, .long t_sideZ, z_t_6, z_t_7, z_t_8, z_t_9, z_t_10, z_t_11, z_t_12, z_t_13])) :: R) H := hP
    have hD : va_D A ((h_t, .inr (2, [z_t_0, .int t_p, .int t_q, .int t_norm, .long t_sideY, .long t_sideZ, z_t_6, z_t_7, z_t_8, z_t_9, z_t_10, z_t_11, z_t_12, z_t_13])) :: R) := hD
    refine lv_lstore (lv' := [(7, .long r_c36_4), (5, .long r_c20_2), (0, .ref h_t), (1, .long l1), (3, .long l3)]) hx hb dX2_keyOf_39 hl (by decide) rfl (fun ls hl => ?_)
    refine lv_lload hx hb dX2_keyOf_41 (lv_at hl 1 rfl) ?_
    refine lv_aload_n hx hb dX2_keyOf_43 rfl (lv_at hl 2 rfl) ?_
    refine va_get (D := D) (ci := 2) (v := .int t_norm) (C := RX2) (T := TX2) (N := 14) hx hb ha ix2 hown hK hP 0 rfl rfl 3 (by decide) (ha _ q354) (fun _ h9 => h9) rfl dX2_keyOf_44 ?_
    refine lv_i2l (v := t_norm.toInt64) hx hb dX2_keyOf_47 rfl ?_
    refine lv_lmul hx hb dX2_keyOf_48 ?_
    refine lv_lload hx hb dX2_keyOf_49 (lv_at hl 0 rfl) ?_
    refine lv_ladd hx hb dX2_keyOf_51 ?_
    refine lv_l2i (v := ((r_c20_2 * t_norm.toInt64) + r_c36_4).toInt32) hx hb dX2_keyOf_52 rfl ?_
    cases h
    exact rt_i S hr hlk hP hD hS dX2_keyOf_53
  · have h := br_neg c1 h
    refine lv_iconst (v := 0) hx hb dX2_keyOf_7 (by decide) ?_
    cases h
    exact rt_i S hr hlk hP hD hS dX2_keyOf_8
noncomputable def f_X2_fillKeys_L46 (l2 : Int32) (t_keys : Nat → Int32) : Nat → Int32 →  Option (Nat)
  | 0, _ => none
  | n + 1, l3 => (
    if l2 ≤ l3 then (
     some 1
    ) else (
     gd (ixb l3 25) (
      gd (ixb l2 25) (
       if (t_keys l3.toNatClampNeg) = (t_keys l2.toNatClampNeg) then (
        some 0
       ) else (
        f_X2_fillKeys_L46 l2 t_keys n (l3 + 1)
       )
      )
     )
    ))
noncomputable def f_X2_fillKeys_L2 (t_parts : Int32) (t_p : Int32) (t_q : Int32) (t_norm : Int32) (t_sideY : Int64) (t_sideZ : Int64) (p1_size : Int32) (p1_bytes : Nat → Int32) : Nat → Int32 → (Nat → Int32) →  Option (Nat × (Nat → Int32))
  | 0, _, _ => none
  | n + 1, l2, t_keys => (
    if t_norm ≤ l2 then (
     some (1, t_keys)
    ) else (
     if 25 ≤ l2 then (
      some (1, t_keys)
     ) else (
      bnd1 (f_X7_at p1_size p1_bytes (l2 * t_parts)) fun r_c29_2 => (
       bnd1 (f_X2_zOf t_parts p1_size p1_bytes l2) fun r_c36_3 => (
        bnd1 (f_X2_keyOf t_p t_q t_norm t_sideY t_sideZ r_c29_2.toInt64 r_c36_3.toInt64) fun r_c40_4 => (
         gd (ixb l2 25) (
          bnd1 (f_X2_fillKeys_L46 l2 (upd t_keys l2.toNatClampNeg r_c40_4) FU 0) fun tg_L46_10 => (
           if tg_L46_10 = 0 then (
            some (0, (upd t_keys l2.toNatClampNeg r_c40_4))
           ) else (
            f_X2_fillKeys_L2 t_parts t_p t_q t_norm t_sideY t_sideZ p1_size p1_bytes n (l2 + 1) (upd t_keys l2.toNatClampNeg r_c40_4)
           )
          )
         )
        )
       )
      )
     )
    ))
noncomputable def f_X2_fillKeys (t_parts : Int32) (t_p : Int32) (t_q : Int32) (t_norm : Int32) (t_sideY : Int64) (t_sideZ : Int64) (t_keys : Nat → Int32) (p1_size : Int32) (p1_bytes : Nat → Int32) : Option (Int32 × (Nat → Int32)) :=
  bnd2 (f_X2_fillKeys_L2 t_parts t_p t_q t_norm t_sideY t_sideZ p1_size p1_bytes FU 0 t_keys) fun tg_L2_11 x_t_keys_L2_11 => (
   if tg_L2_11 = 0 then (
    some (0, x_t_keys_L2_11)
   ) else (
    some (1, x_t_keys_L2_11)
   )
  )
set_option maxHeartbeats 4000000 in
set_option maxRecDepth 100000 in
theorem c_X2_fillKeys (l : Launch) (D : va_G) (R : va_W) (h_t : Nat) (t_parts : Int32) (t_p : Int32) (t_q : Int32) (t_norm : Int32) (t_sideY : Int64) (t_sideZ : Int64) (z_t_6 : Value) (z_t_7 : Value) (z_t_8 : Value) (z_t_9 : Value) (z_t_11 : Value) (z_t_12 : Value) (z_t_13 : Value) (h_t_keys : Nat) (k_t_keys : ClassId) (t_keys : Nat → Int32) (h_p1 : Nat) (p1_size : Int32) (h_p1_bytes : Nat) (k_p1_bytes : ClassId) (p1_bytes : Nat → Int32) (r : Int32) (o_t_keys : Nat → Int32)  (h : f_X2_fillKeys t_parts t_p t_q t_norm t_sideY t_sideZ t_keys p1_size p1_bytes = some (r, o_t_keys)) (sz : Nat) : Met l yX2_fillKeys (WD yX2_fillKeys cX2_fillKeys 4 (some .boolean)) ({ frames := 2, cells := 0, slots := 0, locals := 53 }) (va_Pc [.ref h_t, .ref h_p1] (PcW D [(k_t_keys, .int), (k_p1_bytes, .byte)] ((h_t, .inr (2, [.int t_parts, .int t_p, .int t_q, .int t_norm, .long t_sideY, .long t_sideZ, z_t_6, z_t_7, z_t_8, z_t_9, .ref h_t_keys, z_t_11, z_t_12, z_t_13])) :: (h_t_keys, .inl (k_t_keys, 25, .inl t_keys)) :: (h_p1, .inr (7, [.ref h_p1_bytes, .int p1_size])) :: (h_p1_bytes, .inl (k_p1_bytes, 200, .inl p1_bytes)) :: R) sz)) (QZ D r ((h_t, .inr (2, [.int t_parts, .int t_p, .int t_q, .int t_norm, .long t_sideY, .long t_sideZ, z_t_6, z_t_7, z_t_8, z_t_9, .ref h_t_keys, z_t_11, z_t_12, z_t_13])) :: (h_t_keys, .inl (k_t_keys, 25, .inl o_t_keys)) :: (h_p1, .inr (7, [.ref h_p1_bytes, .int p1_size])) :: (h_p1_bytes, .inl (k_p1_bytes, 200, .inl p1_bytes)) :: R) (va_A ((h_t, .inr (2, [.int t_parts, .int t_p, .int t_q, .int t_norm, .long t_sideY, .long t_sideZ, z_t_6, z_t_7, z_t_8, z_t_9, .ref h_t_keys, z_t_11, z_t_12, z_t_13])) :: (h_t_keys, .inl (k_t_keys, 25, .inl t_keys)) :: (h_p1, .inr (7, [.ref h_p1_bytes, .int p1_size])) :: (h_p1_bytes, .inl (k_p1_bytes, 200, .inl p1_bytes)) :: R) sz)) 0 0 (va_A ((h_t, .inr (2, [.int t_parts, .int t_p, .int t_q, .int t_norm, .long t_sideY, .long t_sideZ, z_t_6, z_t_7, z_t_8, z_t_9, .ref h_t_keys, z_t_11, z_t_12, z_t_13])) :: (h_t_keys, .inl (k_t_keys, 25, .inl t_keys)) :: (h_p1, .inr (7, [.ref h_p1_bytes, .int p1_size])) :: (h_p1_bytes, .inl (k_p1_bytes, 200, .inl p1_bytes)) :: R) sz) := by
  refine ct_start (QF := fun A => QZ D r ((h_t, .inr (2, [.int t_parts, .int t_p, .int t_q, .int t_norm, .long t_sideY, .long t_sideZ, z_t_6, z_t_7, z_t_8, z_t_9, .ref h_t_keys, z_t_11, z_t_12, z_t_13])) :: (h_t_keys, .inl (k_t_keys, 25, .inl o_t_keys)) :: (h_p1, .inr (7, [.ref h_p1_bytes, .int p1_size])) :: (h_p1_bytes, .inl (k_p1_bytes, 200, .inl p1_bytes)) :: R) A) ?_ ?_ ?_
  · decide +kernel
  · exact Nat.le_of_ble_eq_true rfl
  intro p e s m args below meth c A ls S hr hlk hnm hS hA hP hD hK hN hl
  have S : CallFix p m c cX2_fillKeys 4 s args AL "DigitBench$Ring" := S
  have hx := S.1
  have hb := S.2.1
  have hown := S.2.2.2.1
  have ha := S.2.2.2.2
  have hl : lv_has ls 4 [(0, .ref h_t), (1, .ref h_p1)] := hl
  have L46 : ∀ (Q : State → Prop) (n : Nat) (l2 : Int32) (l3 : Int32) (t_keys : Nat → Int32) (tg : Nat), f_X2_fillKeys_L46 l2 t_keys n l3 = some tg → ∀ (H : Heap) (locs : List Loc) (ls : Array Slot), va_P D vwCl ((h_t, .inr (2, [.int t_parts, .int t_p, .int t_q, .int t_norm, .long t_sideY, .long t_sideZ, z_t_6, z_t_7, z_t_8, z_t_9, .ref h_t_keys, z_t_11, z_t_12, z_t_13])) :: (h_t_keys, .inl (k_t_keys, 25, .inl t_keys)) :: (h_p1, .inr (7, [.ref h_p1_bytes, .int p1_size])) :: (h_p1_bytes, .inl (k_p1_bytes, 200, .inl p1_bytes)) :: R) H → va_D A ((h_t, .inr (2, [.int t_parts, .int t_p, .int t_q, .int t_norm, .long t_sideY, .long t_sideZ, z_t_6, z_t_7, z_t_8, z_t_9, .ref h_t_keys, z_t_11, z_t_12, z_t_13])) :: (h_t_keys, .inl (k_t_keys, 25, .inl t_keys)) :: (h_p1, .inr (7, [.ref h_p1_bytes, .int p1_size])) :: (h_p1_bytes, .inl (k_p1_bytes, 200, .inl p1_bytes)) :: R) → va_S A s.heap H locs → lv_has ls 4 [(0, .ref h_t), (1, .ref h_p1), (2, .int l2), (3, .int l3)] → (tg = 0 → ∀ (H : Heap) (locs : List Loc) (ls : Array Slot), va_P D vwCl ((h_t, .inr (2, [.int t_parts, .int t_p, .int t_q, .int t_norm, .long t_sideY, .long t_sideZ, z_t_6, z_t_7, z_t_8, z_t_9, .ref h_t_keys, z_t_11, z_t_12, z_t_13])) :: (h_t_keys, .inl (k_t_keys, 25, .inl t_keys)) :: (h_p1, .inr (7, [.ref h_p1_bytes, .int p1_size])) :: (h_p1_bytes, .inl (k_p1_bytes, 200, .inl p1_bytes)) :: R) H → va_D A ((h_t, .inr (2, [.int t_parts, .int t_p, .int t_q, .int t_norm, .long t_sideY, .long t_sideZ, z_t_6, z_t_7, z_t_8, z_t_9, .ref h_t_keys, z_t_11, z_t_12, z_t_13])) :: (h_t_keys, .inl (k_t_keys, 25, .inl t_keys)) :: (h_p1, .inr (7, [.ref h_p1_bytes, .int p1_size])) :: (h_p1_bytes, .inl (k_p1_bytes, 200, .inl p1_bytes)) :: R) → va_S A s.heap H locs → lv_has ls 4 [] → W p l e { frames := 2, cells := 0, slots := 0, locals := 53 } s m args below meth c H locs 0 0 Q (F0 m 66 ls [])) → (tg = 1 → ∀ (H : Heap) (locs : List Loc) (ls : Array Slot), va_P D vwCl ((h_t, .inr (2, [.int t_parts, .int t_p, .int t_q, .int t_norm, .long t_sideY, .long t_sideZ, z_t_6, z_t_7, z_t_8, z_t_9, .ref h_t_keys, z_t_11, z_t_12, z_t_13])) :: (h_t_keys, .inl (k_t_keys, 25, .inl t_keys)) :: (h_p1, .inr (7, [.ref h_p1_bytes, .int p1_size])) :: (h_p1_bytes, .inl (k_p1_bytes, 200, .inl p1_bytes)) :: R) H → va_D A ((h_t, .inr (2, [.int t_parts, .int t_p, .int t_q, .int t_norm, .long t_sideY, .long t_sideZ, z_t_6, z_t_7, z_t_8, z_t_9, .ref h_t_keys, z_t_11, z_t_12, z_t_13])) :: (h_t_keys, .inl (k_t_keys, 25, .inl t_keys)) :: (h_p1, .inr (7, [.ref h_p1_bytes, .int p1_size])) :: (h_p1_bytes, .inl (k_p1_bytes, 200, .inl p1_bytes)) :: R) → va_S A s.heap H locs → lv_has ls 4 [(0, .ref h_t), (1, .ref h_p1), (2, .int l2)] → W p l e { frames := 2, cells := 0, slots := 0, locals := 53 } s m args below meth c H locs 0 0 Q (F0 m 74 ls [])) → W p l e { frames := 2, cells := 0, slots := 0, locals := 53 } s m args below meth c H locs 0 0 Q (F0 m 46 ls []) := by
    intro Q n
    induction n with
    | zero =>
      intro l2 l3 t_keys tg h
      rw [f_X2_fillKeys_L46] at h; cases h
    | succ n ih =>
      intro l2 l3 t_keys tg h H locs ls hP hD hS hl kk0 kk1
      rw [f_X2_fillKeys_L46] at h
      refine lv_iload_n hx hb dX2_fillKeys_46 rfl (lv_at hl 3 rfl) ?_
      refine lv_iload_n hx hb dX2_fillKeys_47 rfl (lv_at hl 2 rfl) ?_
      refine lv_icmp_ge (tgt := 74) hx hb dX2_fillKeys_48 (by decide) (fun c7 => ?_) (fun c7 => ?_)
      · have h := br_pos c7 h
        cases h
        exact kk1 rfl _ _ _ hP hD hS (lv_sub hl [0, 1, 2] rfl)
      · have h := br_neg c7 h
        refine lv_aload_n hx hb dX2_fillKeys_51 rfl (lv_at hl 0 rfl) ?_
        refine va_get (D := D) (ci := 2) (v := .ref h_t_keys) (C := RX2) (T := TX2) (N := 14) hx hb ha ix2 hown hK hP 0 rfl rfl 10 (by decide) (ha _ q363) (fun _ h9 => h9) rfl dX2_fillKeys_52 ?_
        refine lv_iload_n hx hb dX2_fillKeys_55 rfl (lv_at hl 3 rfl) ?_
        obtain ⟨i8, h⟩ := ix_ok h
        refine va_iald hx hb hK hP 1 0 rfl rfl i8 dX2_fillKeys_56 ?_
        refine lv_aload_n hx hb dX2_fillKeys_57 rfl (lv_at hl 0 rfl) ?_
        refine va_get (D := D) (ci := 2) (v := .ref h_t_keys) (C := RX2) (T := TX2) (N := 14) hx hb ha ix2 hown hK hP 0 rfl rfl 10 (by decide) (ha _ q363) (fun _ h9 => h9) rfl dX2_fillKeys_58 ?_
        refine lv_iload_n hx hb dX2_fillKeys_61 rfl (lv_at hl 2 rfl) ?_
        obtain ⟨i9, h⟩ := ix_ok h
        refine va_iald hx hb hK hP 1 0 rfl rfl i9 dX2_fillKeys_62 ?_
        refine lv_icmp_ne (tgt := 68) hx hb dX2_fillKeys_63 (by decide) (fun c10 => ?_) (fun c10 => ?_)
        · have h := br_neg c10 h
          refine lv_iinc (v := (l3 + 1)) (lv' := [(3, .int (l3 + 1)), (0, .ref h_t), (1, .ref h_p1), (2, .int l2)]) hx hb dX2_fillKeys_68 hl (k := 3) rfl rfl (by decide) rfl (fun ls hl => ?_)
          refine lv_goto (tgt := 46) hx hb dX2_fillKeys_71 (by decide) ?_
          exact ih l2 (l3 + 1) t_keys _ h _ _ _ hP hD hS (lv_sub hl [1, 2, 3, 0] rfl) kk0 kk1
        · have h := br_pos c10 h
          cases h
          exact kk0 rfl _ _ _ hP hD hS (lv_sub hl [] rfl)
  have L2 : ∀ (Q : State → Prop) (n : Nat) (l2 : Int32) (t_keys : Nat → Int32) (tg : Nat) (x_t_keys : Nat → Int32), f_X2_fillKeys_L2 t_parts t_p t_q t_norm t_sideY t_sideZ p1_size p1_bytes n l2 t_keys = some (tg, x_t_keys) → ∀ (H : Heap) (locs : List Loc) (ls : Array Slot), va_P D vwCl ((h_t, .inr (2, [.int t_parts, .int t_p, .int t_q, .int t_norm, .long t_sideY, .long t_sideZ, z_t_6, z_t_7, z_t_8, z_t_9, .ref h_t_keys, z_t_11, z_t_12, z_t_13])) :: (h_t_keys, .inl (k_t_keys, 25, .inl t_keys)) :: (h_p1, .inr (7, [.ref h_p1_bytes, .int p1_size])) :: (h_p1_bytes, .inl (k_p1_bytes, 200, .inl p1_bytes)) :: R) H → va_D A ((h_t, .inr (2, [.int t_parts, .int t_p, .int t_q, .int t_norm, .long t_sideY, .long t_sideZ, z_t_6, z_t_7, z_t_8, z_t_9, .ref h_t_keys, z_t_11, z_t_12, z_t_13])) :: (h_t_keys, .inl (k_t_keys, 25, .inl t_keys)) :: (h_p1, .inr (7, [.ref h_p1_bytes, .int p1_size])) :: (h_p1_bytes, .inl (k_p1_bytes, 200, .inl p1_bytes)) :: R) → va_S A s.heap H locs → lv_has ls 4 [(0, .ref h_t), (1, .ref h_p1), (2, .int l2)] → (tg = 0 → ∀ (H : Heap) (locs : List Loc) (ls : Array Slot), va_P D vwCl ((h_t, .inr (2, [.int t_parts, .int t_p, .int t_q, .int t_norm, .long t_sideY, .long t_sideZ, z_t_6, z_t_7, z_t_8, z_t_9, .ref h_t_keys, z_t_11, z_t_12, z_t_13])) :: (h_t_keys, .inl (k_t_keys, 25, .inl x_t_keys)) :: (h_p1, .inr (7, [.ref h_p1_bytes, .int p1_size])) :: (h_p1_bytes, .inl (k_p1_bytes, 200, .inl p1_bytes)) :: R) H → va_D A ((h_t, .inr (2, [.int t_parts, .int t_p, .int t_q, .int t_norm, .long t_sideY, .long t_sideZ, z_t_6, z_t_7, z_t_8, z_t_9, .ref h_t_keys, z_t_11, z_t_12, z_t_13])) :: (h_t_keys, .inl (k_t_keys, 25, .inl x_t_keys)) :: (h_p1, .inr (7, [.ref h_p1_bytes, .int p1_size])) :: (h_p1_bytes, .inl (k_p1_bytes, 200, .inl p1_bytes)) :: R) → va_S A s.heap H locs → lv_has ls 4 [] → W p l e { frames := 2, cells := 0, slots := 0, locals := 53 } s m args below meth c H locs 0 0 Q (F0 m 66 ls [])) → (tg = 1 → ∀ (H : Heap) (locs : List Loc) (ls : Array Slot), va_P D vwCl ((h_t, .inr (2, [.int t_parts, .int t_p, .int t_q, .int t_norm, .long t_sideY, .long t_sideZ, z_t_6, z_t_7, z_t_8, z_t_9, .ref h_t_keys, z_t_11, z_t_12, z_t_13])) :: (h_t_keys, .inl (k_t_keys, 25, .inl x_t_keys)) :: (h_p1, .inr (7, [.ref h_p1_bytes, .int p1_size])) :: (h_p1_bytes, .inl (k_p1_bytes, 200, .inl p1_bytes)) :: R) H → va_D A ((h_t, .inr (2, [.int t_parts, .int t_p, .int t_q, .int t_norm, .long t_sideY, .long t_sideZ, z_t_6, z_t_7, z_t_8, z_t_9, .ref h_t_keys, z_t_11, z_t_12, z_t_13])) :: (h_t_keys, .inl (k_t_keys, 25, .inl x_t_keys)) :: (h_p1, .inr (7, [.ref h_p1_bytes, .int p1_size])) :: (h_p1_bytes, .inl (k_p1_bytes, 200, .inl p1_bytes)) :: R) → va_S A s.heap H locs → lv_has ls 4 [] → W p l e { frames := 2, cells := 0, slots := 0, locals := 53 } s m args below meth c H locs 0 0 Q (F0 m 80 ls [])) → W p l e { frames := 2, cells := 0, slots := 0, locals := 53 } s m args below meth c H locs 0 0 Q (F0 m 2 ls []) := by
    intro Q n
    induction n with
    | zero =>
      intro l2 t_keys tg x_t_keys h
      rw [f_X2_fillKeys_L2] at h; cases h
    | succ n ih =>
      intro l2 t_keys tg x_t_keys h H locs ls hP hD hS hl kk0 kk1
      rw [f_X2_fillKeys_L2] at h
      refine lv_iload_n hx hb dX2_fillKeys_2 rfl (lv_at hl 2 rfl) ?_
      refine lv_aload_n hx hb dX2_fillKeys_3 rfl (lv_at hl 0 rfl) ?_
      refine va_get (D := D) (ci := 2) (v := .int t_norm) (C := RX2) (T := TX2) (N := 14) hx hb ha ix2 hown hK hP 0 rfl rfl 3 (by decide) (ha _ q354) (fun _ h9 => h9) rfl dX2_fillKeys_4 ?_
      refine lv_icmp_ge (tgt := 80) hx hb dX2_fillKeys_7 (by decide) (fun c1 => ?_) (fun c1 => ?_)
      · have h := br_pos c1 h
        cases h
        exact kk1 rfl _ _ _ hP hD hS (lv_sub hl [] rfl)
      · have h := br_neg c1 h
        refine lv_iload_n hx hb dX2_fillKeys_10 rfl (lv_at hl 2 rfl) ?_
        refine lv_bipush (v := 25) hx hb dX2_fillKeys_11 (by decide) ?_
        refine lv_icmp_ge (tgt := 80) hx hb dX2_fillKeys_13 (by decide) (fun c2 => ?_) (fun c2 => ?_)
        · have h := br_pos c2 h
          cases h
          exact kk1 rfl _ _ _ hP hD hS (lv_sub hl [] rfl)
        · have h := br_neg c2 h
          refine lv_aload_n hx hb dX2_fillKeys_16 rfl (lv_at hl 0 rfl) ?_
          refine va_get (D := D) (ci := 2) (v := .ref h_t_keys) (C := RX2) (T := TX2) (N := 14) hx hb ha ix2 hown hK hP 0 rfl rfl 10 (by decide) (ha _ q363) (fun _ h9 => h9) rfl dX2_fillKeys_17 ?_
          refine lv_iload_n hx hb dX2_fillKeys_20 rfl (lv_at hl 2 rfl) ?_
          refine lv_aload_n hx hb dX2_fillKeys_21 rfl (lv_at hl 0 rfl) ?_
          refine lv_aload_n hx hb dX2_fillKeys_22 rfl (lv_at hl 1 rfl) ?_
          refine lv_iload_n hx hb dX2_fillKeys_23 rfl (lv_at hl 2 rfl) ?_
          refine lv_aload_n hx hb dX2_fillKeys_24 rfl (lv_at hl 0 rfl) ?_
          refine va_get (D := D) (ci := 2) (v := .int t_parts) (C := RX2) (T := TX2) (N := 14) hx hb ha ix2 hown hK hP 0 rfl rfl 0 (by decide) (ha _ q350) (fun _ h9 => h9) rfl dX2_fillKeys_25 ?_
          refine lv_imul hx hb dX2_fillKeys_28 ?_
          obtain ⟨r_c29_2, e_c29_2, h⟩ := bnd1_ok h
          have hP : va_P D vwCl ((h_p1, .inr (7, [.ref h_p1_bytes, .int p1_size])) :: (h_p1_bytes, .inl (k_p1_bytes, 200, .inl p1_bytes)) :: (h_t, .inr (2, [.int t_parts, .int t_p, .int t_q, .int t_norm, .long t_sideY, .long t_sideZ, z_t_6, z_t_7, z_t_8, z_t_9, .ref h_t_keys, z_t_11, z_t_12, z_t_13])) :: (h_t_keys, .inl (k_t_keys, 25, .inl t_keys)) :: R) _ := pm_P [2, 3, 0, 1] 4 hP
          have hD : va_D A ((h_p1, .inr (7, [.ref h_p1_bytes, .int p1_size])) :: (h_p1_bytes, .inl (k_p1_bytes, 200, .inl p1_bytes)) :: (h_t, .inr (2, [.int t_parts, .int t_p, .int t_q, .int t_norm, .long t_sideY, .long t_sideZ, z_t_6, z_t_7, z_t_8, z_t_9, .ref h_t_keys, z_t_11, z_t_12, z_t_13])) :: (h_t_keys, .inl (k_t_keys, 25, .inl t_keys)) :: R) := pm_D (X := [(h_p1, .inr (7, [.ref h_p1_bytes, .int p1_size])), (h_p1_bytes, .inl (k_p1_bytes, 200, .inl p1_bytes)), (h_t, .inr (2, [.int t_parts, .int t_p, .int t_q, .int t_norm, .long t_sideY, .long t_sideZ, z_t_6, z_t_7, z_t_8, z_t_9, .ref h_t_keys, z_t_11, z_t_12, z_t_13])), (h_t_keys, .inl (k_t_keys, 25, .inl t_keys))]) [2, 3, 0, 1] 4 (by decide) (by decide) rfl hD
          refine cl_i (rn_v (ci := 7) (As := [.int (l2 * t_parts)]) (rest := [.ref h_t, .int l2, .ref h_t_keys]) S (c_X7_at l D ((h_t, .inr (2, [.int t_parts, .int t_p, .int t_q, .int t_norm, .long t_sideY, .long t_sideZ, z_t_6, z_t_7, z_t_8, z_t_9, .ref h_t_keys, z_t_11, z_t_12, z_t_13])) :: (h_t_keys, .inl (k_t_keys, 25, .inl t_keys)) :: R) h_p1 p1_size h_p1_bytes k_p1_bytes p1_bytes (l2 * t_parts) r_c29_2 e_c29_2 _) q752 q652 q653 q49 q654 nd_X7_at ⟨Nat.le_of_ble_eq_true rfl, Nat.le_of_ble_eq_true rfl⟩ rfl rfl hP hD (hK.sub (tys' := [(k_p1_bytes, .byte)]) [1] rfl) hN rfl ⟨0, _, rfl⟩ rfl hl.1 rfl (Nat.le_of_ble_eq_true rfl) dX2_fillKeys_29 ⟨Nat.le_of_ble_eq_true rfl, Nat.le_of_ble_eq_true rfl⟩) hS hA hD (fun H locs hP hD hS => ?_)
          have hP : va_P D vwCl ((h_t, .inr (2, [.int t_parts, .int t_p, .int t_q, .int t_norm, .long t_sideY, .long t_sideZ, z_t_6, z_t_7, z_t_8, z_t_9, .ref h_t_keys, z_t_11, z_t_12, z_t_13])) :: (h_t_keys, .inl (k_t_keys, 25, .inl t_keys)) :: (h_p1, .inr (7, [.ref h_p1_bytes, .int p1_size])) :: (h_p1_bytes, .inl (k_p1_bytes, 200, .inl p1_bytes)) :: R) H := pm_P [2, 3, 0, 1] 4 hP
          have hD : va_D A ((h_t, .inr (2, [.int t_parts, .int t_p, .int t_q, .int t_norm, .long t_sideY, .long t_sideZ, z_t_6, z_t_7, z_t_8, z_t_9, .ref h_t_keys, z_t_11, z_t_12, z_t_13])) :: (h_t_keys, .inl (k_t_keys, 25, .inl t_keys)) :: (h_p1, .inr (7, [.ref h_p1_bytes, .int p1_size])) :: (h_p1_bytes, .inl (k_p1_bytes, 200, .inl p1_bytes)) :: R) := pm_D (X := [(h_t, .inr (2, [.int t_parts, .int t_p, .int t_q, .int t_norm, .long t_sideY, .long t_sideZ, z_t_6, z_t_7, z_t_8, z_t_9, .ref h_t_keys, z_t_11, z_t_12, z_t_13])), (h_t_keys, .inl (k_t_keys, 25, .inl t_keys)), (h_p1, .inr (7, [.ref h_p1_bytes, .int p1_size])), (h_p1_bytes, .inl (k_p1_bytes, 200, .inl p1_bytes))]) [2, 3, 0, 1] 4 (by decide) (by decide) rfl hD
          refine lv_i2l (v := r_c29_2.toInt64) hx hb dX2_fillKeys_32 rfl ?_
          refine lv_aload_n hx hb dX2_fillKeys_33 rfl (lv_at hl 0 rfl) ?_
          refine lv_aload_n hx hb dX2_fillKeys_34 rfl (lv_at hl 1 rfl) ?_
          refine lv_iload_n hx hb dX2_fillKeys_35 rfl (lv_at hl 2 rfl) ?_
          obtain ⟨r_c36_3, e_c36_3, h⟩ := bnd1_ok h
          have hP : va_P D vwCl ((h_t, .inr (2, [.int t_parts, .int t_p, .int t_q, .int t_norm, .long t_sideY, .long t_sideZ, z_t_6, z_t_7, z_t_8, z_t_9, .ref h_t_keys, z_t_11, z_t_12, z_t_13])) :: (h_p1, .inr (7, [.ref h_p1_bytes, .int p1_size])) :: (h_p1_bytes, .inl (k_p1_bytes, 200, .inl p1_bytes)) :: (h_t_keys, .inl (k_t_keys, 25, .inl t_keys)) :: R) _ := pm_P [0, 2, 3, 1] 4 hP
          have hD : va_D A ((h_t, .inr (2, [.int t_parts, .int t_p, .int t_q, .int t_norm, .long t_sideY, .long t_sideZ, z_t_6, z_t_7, z_t_8, z_t_9, .ref h_t_keys, z_t_11, z_t_12, z_t_13])) :: (h_p1, .inr (7, [.ref h_p1_bytes, .int p1_size])) :: (h_p1_bytes, .inl (k_p1_bytes, 200, .inl p1_bytes)) :: (h_t_keys, .inl (k_t_keys, 25, .inl t_keys)) :: R) := pm_D (X := [(h_t, .inr (2, [.int t_parts, .int t_p, .int t_q, .int t_norm, .long t_sideY, .long t_sideZ, z_t_6, z_t_7, z_t_8, z_t_9, .ref h_t_keys, z_t_11, z_t_12, z_t_13])), (h_p1, .inr (7, [.ref h_p1_bytes, .int p1_size])), (h_p1_bytes, .inl (k_p1_bytes, 200, .inl p1_bytes)), (h_t_keys, .inl (k_t_keys, 25, .inl t_keys))]) [0, 2, 3, 1] 4 (by decide) (by decide) rfl hD
          refine cl_i (rn_v (ci := 2) (As := [.ref h_p1, .int l2]) (rest := [.long r_c29_2.toInt64, .ref h_t, .int l2, .ref h_t_keys]) S (c_X2_zOf l D ((h_t_keys, .inl (k_t_keys, 25, .inl t_keys)) :: R) h_t t_parts (.int t_p) (.int t_q) (.int t_norm) (.long t_sideY) (.long t_sideZ) (z_t_6) (z_t_7) (z_t_8) (z_t_9) (.ref h_t_keys) (z_t_11) (z_t_12) (z_t_13) h_p1 p1_size h_p1_bytes k_p1_bytes p1_bytes l2 r_c36_3 e_c36_3 _) q753 q755 q19 q57 q756 nd_X2_zOf ⟨Nat.le_of_ble_eq_true rfl, Nat.le_of_ble_eq_true rfl⟩ rfl rfl hP hD (hK.sub (tys' := [(k_p1_bytes, .byte)]) [1] rfl) hN rfl ⟨0, _, rfl⟩ rfl hl.1 rfl (Nat.le_of_ble_eq_true rfl) dX2_fillKeys_36 ⟨Nat.le_of_ble_eq_true rfl, Nat.le_of_ble_eq_true rfl⟩) hS hA hD (fun H locs hP hD hS => ?_)
          have hP : va_P D vwCl ((h_t, .inr (2, [.int t_parts, .int t_p, .int t_q, .int t_norm, .long t_sideY, .long t_sideZ, z_t_6, z_t_7, z_t_8, z_t_9, .ref h_t_keys, z_t_11, z_t_12, z_t_13])) :: (h_t_keys, .inl (k_t_keys, 25, .inl t_keys)) :: (h_p1, .inr (7, [.ref h_p1_bytes, .int p1_size])) :: (h_p1_bytes, .inl (k_p1_bytes, 200, .inl p1_bytes)) :: R) H := pm_P [0, 3, 1, 2] 4 hP
          have hD : va_D A ((h_t, .inr (2, [.int t_parts, .int t_p, .int t_q, .int t_norm, .long t_sideY, .long t_sideZ, z_t_6, z_t_7, z_t_8, z_t_9, .ref h_t_keys, z_t_11, z_t_12, z_t_13])) :: (h_t_keys, .inl (k_t_keys, 25, .inl t_keys)) :: (h_p1, .inr (7, [.ref h_p1_bytes, .int p1_size])) :: (h_p1_bytes, .inl (k_p1_bytes, 200, .inl p1_bytes)) :: R) := pm_D (X := [(h_t, .inr (2, [.int t_parts, .int t_p, .int t_q, .int t_norm, .long t_sideY, .long t_sideZ, z_t_6, z_t_7, z_t_8, z_t_9, .ref h_t_keys, z_t_11, z_t_12, z_t_13])), (h_t_keys, .inl (k_t_keys, 25, .inl t_keys)), (h_p1, .inr (7, [.ref h_p1_bytes, .int p1_size])), (h_p1_bytes, .inl (k_p1_bytes, 200, .inl p1_bytes))]) [0, 3, 1, 2] 4 (by decide) (by decide) rfl hD
          refine lv_i2l (v := r_c36_3.toInt64) hx hb dX2_fillKeys_39 rfl ?_
          obtain ⟨r_c40_4, e_c40_4, h⟩ := bnd1_ok h
          refine cl_i (rn_v (ci := 2) (As := [.long r_c29_2.toInt64, .long r_c36_3.toInt64]) (rest := [.int l2, .ref h_t_keys]) S (c_X2_keyOf l D ((h_t_keys, .inl (k_t_keys, 25, .inl t_keys)) :: (h_p1, .inr (7, [.ref h_p1_bytes, .int p1_size])) :: (h_p1_bytes, .inl (k_p1_bytes, 200, .inl p1_bytes)) :: R) h_t (.int t_parts) t_p t_q t_norm t_sideY t_sideZ (z_t_6) (z_t_7) (z_t_8) (z_t_9) (.ref h_t_keys) (z_t_11) (z_t_12) (z_t_13) r_c29_2.toInt64 r_c36_3.toInt64 r_c40_4 e_c40_4 _) q331 q333 q3 q57 q334 nd_X2_keyOf ⟨Nat.le_of_ble_eq_true rfl, Nat.le_of_ble_eq_true rfl⟩ rfl rfl hP hD (hK.sub (tys' := []) [] rfl) hN rfl ⟨0, _, rfl⟩ rfl hl.1 rfl (Nat.le_of_ble_eq_true rfl) dX2_fillKeys_40 ⟨Nat.le_of_ble_eq_true rfl, Nat.le_of_ble_eq_true rfl⟩) hS hA hD (fun H locs hP hD hS => ?_)
          have hP : va_P D vwCl ((h_t, .inr (2, [.int t_parts, .int t_p, .int t_q, .int t_norm, .long t_sideY, .long t_sideZ, z_t_6, z_t_7, z_t_8, z_t_9, .ref h_t_keys, z_t_11, z_t_12, z_t_13])) :: (h_t_keys, .inl (k_t_keys, 25, .inl t_keys)) :: (h_p1, .inr (7, [.ref h_p1_bytes, .int p1_size])) :: (h_p1_bytes, .inl (k_p1_bytes, 200, .inl p1_bytes)) :: R) H := hP
          have hD : va_D A ((h_t, .inr (2, [.int t_parts, .int t_p, .int t_q, .int t_norm, .long t_sideY, .long t_sideZ, z_t_6, z_t_7, z_t_8, z_t_9, .ref h_t_keys, z_t_11, z_t_12, z_t_13])) :: (h_t_keys, .inl (k_t_keys, 25, .inl t_keys)) :: (h_p1, .inr (7, [.ref h_p1_bytes, .int p1_size])) :: (h_p1_bytes, .inl (k_p1_bytes, 200, .inl p1_bytes)) :: R) := hD
          obtain ⟨i6, h⟩ := ix_ok h
          refine va_iast hx hb hK hP hD hS 1 0 rfl rfl i6 dX2_fillKeys_43 (fun H locs hP hD hS => ?_)
          have hP : va_P D vwCl ((h_t, .inr (2, [.int t_parts, .int t_p, .int t_q, .int t_norm, .long t_sideY, .long t_sideZ, z_t_6, z_t_7, z_t_8, z_t_9, .ref h_t_keys, z_t_11, z_t_12, z_t_13])) :: (h_t_keys, .inl (k_t_keys, 25, .inl (upd t_keys l2.toNatClampNeg r_c40_4))) :: (h_p1, .inr (7, [.ref h_p1_bytes, .int p1_size])) :: (h_p1_bytes, .inl (k_p1_bytes, 200, .inl p1_bytes)) :: R) H := hP
          have hD : va_D A ((h_t, .inr (2, [.int t_parts, .int t_p, .int t_q, .int t_norm, .long t_sideY, .long t_sideZ, z_t_6, z_t_7, z_t_8, z_t_9, .ref h_t_keys, z_t_11, z_t_12, z_t_13])) :: (h_t_keys, .inl (k_t_keys, 25, .inl (upd t_keys l2.toNatClampNeg r_c40_4))) :: (h_p1, .inr (7, [.ref h_p1_bytes, .int p1_size])) :: (h_p1_bytes, .inl (k_p1_bytes, 200, .inl p1_bytes)) :: R) := hD
          refine lv_iconst (v := 0) hx hb dX2_fillKeys_44 (by decide) ?_
          refine lv_istore_n (lv' := [(3, .int 0), (0, .ref h_t), (1, .ref h_p1), (2, .int l2)]) hx hb dX2_fillKeys_45 rfl hl (by decide) rfl (fun ls hl => ?_)
          obtain ⟨tg_L46_10, e_L46_10, h⟩ := bnd1_ok h
          refine L46 _ _ l2 0 (upd t_keys l2.toNatClampNeg r_c40_4) tg_L46_10 e_L46_10 _ _ _ hP hD hS (lv_sub hl [1, 2, 3, 0] rfl) ?_ ?_
          · intro q9 H locs ls hP hD hS hl
            have h := br_pos q9 h
            cases h
            exact kk0 rfl _ _ _ hP hD hS (lv_sub hl [] rfl)
          · intro q9 H locs ls hP hD hS hl
            have h := br_neg (by rw [q9]; decide) h
            refine lv_iinc (v := (l2 + 1)) (lv' := [(2, .int (l2 + 1)), (0, .ref h_t), (1, .ref h_p1)]) hx hb dX2_fillKeys_74 hl (k := 2) rfl rfl (by decide) rfl (fun ls hl => ?_)
            refine lv_goto (tgt := 2) hx hb dX2_fillKeys_77 (by decide) ?_
            exact ih (l2 + 1) (upd t_keys l2.toNatClampNeg r_c40_4) _ _ h _ _ _ hP hD hS (lv_sub hl [1, 2, 0] rfl) kk0 kk1
  unfold f_X2_fillKeys at h
  refine lv_iconst (v := 0) hx hb dX2_fillKeys_0 (by decide) ?_
  refine lv_istore_n (lv' := [(2, .int 0), (0, .ref h_t), (1, .ref h_p1)]) hx hb dX2_fillKeys_1 rfl hl (by decide) rfl (fun ls hl => ?_)
  obtain ⟨tg_L2_11, x_t_keys_L2_11, e_L2_11, h⟩ := bnd2_ok h
  refine L2 _ _ 0 t_keys tg_L2_11 x_t_keys_L2_11 e_L2_11 _ _ _ hP hD hS (lv_sub hl [1, 2, 0] rfl) ?_ ?_
  · intro q9 H locs ls hP hD hS hl
    have h := br_pos q9 h
    refine lv_iconst (v := 0) hx hb dX2_fillKeys_66 (by decide) ?_
    cases h
    exact rt_z S hr hlk hP hD hS (by decide) dX2_fillKeys_67
  · intro q9 H locs ls hP hD hS hl
    have h := br_neg (by rw [q9]; decide) h
    refine lv_iconst (v := 1) hx hb dX2_fillKeys_80 (by decide) ?_
    cases h
    exact rt_z S hr hlk hP hD hS (by decide) dX2_fillKeys_81
noncomputable def f_X2_keepDigits_L2 (t_norm : Int32) (t_keys : Nat → Int32) : Nat → Int32 → (Nat → Int32) →  Option ((Nat → Int32))
  | 0, _, _ => none
  | n + 1, l1, t_digitOfKey => (
    if t_norm ≤ l1 then (
     some t_digitOfKey
    ) else (
     if 25 ≤ l1 then (
      some t_digitOfKey
     ) else (
      gd (ixb l1 25) (
       if (t_keys l1.toNatClampNeg) < 0 then (
        f_X2_keepDigits_L2 t_norm t_keys n (l1 + 1) t_digitOfKey
       ) else (
        if 625 ≤ (t_keys l1.toNatClampNeg) then (
         f_X2_keepDigits_L2 t_norm t_keys n (l1 + 1) t_digitOfKey
        ) else (
         gd (ixb (t_keys l1.toNatClampNeg) 625) (
          f_X2_keepDigits_L2 t_norm t_keys n (l1 + 1) (upd t_digitOfKey (t_keys l1.toNatClampNeg).toNatClampNeg l1)
         )
        )
       )
      )
     )
    ))
noncomputable def f_X2_keepDigits (t_norm : Int32) (t_size : Int32) (t_keys : Nat → Int32) (t_digitOfKey : Nat → Int32) : Option (Int32 × (Nat → Int32)) :=
  bnd1 (f_X2_keepDigits_L2 t_norm t_keys FU 0 t_digitOfKey) fun x_t_digitOfKey_L2_6 => (
   some (t_norm, x_t_digitOfKey_L2_6)
  )
set_option maxHeartbeats 4000000 in
set_option maxRecDepth 100000 in
theorem c_X2_keepDigits (l : Launch) (D : va_G) (R : va_W) (h_t : Nat) (z_t_0 : Value) (z_t_1 : Value) (z_t_2 : Value) (t_norm : Int32) (z_t_4 : Value) (z_t_5 : Value) (z_t_6 : Value) (t_size : Int32) (z_t_8 : Value) (z_t_9 : Value) (z_t_12 : Value) (z_t_13 : Value) (h_t_keys : Nat) (k_t_keys : ClassId) (t_keys : Nat → Int32) (h_t_digitOfKey : Nat) (k_t_digitOfKey : ClassId) (t_digitOfKey : Nat → Int32) (o_t_size : Int32) (o_t_digitOfKey : Nat → Int32)  (h : f_X2_keepDigits t_norm t_size t_keys t_digitOfKey = some (o_t_size, o_t_digitOfKey)) (sz : Nat) : Met l yX2_keepDigits (WD yX2_keepDigits cX2_keepDigits 3 none) ({ frames := 0, cells := 0, slots := 0, locals := 0 }) (va_Pc [.ref h_t] (PcW D [(k_t_keys, .int), (k_t_digitOfKey, .int)] ((h_t, .inr (2, [z_t_0, z_t_1, z_t_2, .int t_norm, z_t_4, z_t_5, z_t_6, .int t_size, z_t_8, z_t_9, .ref h_t_keys, .ref h_t_digitOfKey, z_t_12, z_t_13])) :: (h_t_keys, .inl (k_t_keys, 25, .inl t_keys)) :: (h_t_digitOfKey, .inl (k_t_digitOfKey, 625, .inl t_digitOfKey)) :: R) sz)) (QV D ((h_t, .inr (2, [z_t_0, z_t_1, z_t_2, .int t_norm, z_t_4, z_t_5, z_t_6, .int o_t_size, z_t_8, z_t_9, .ref h_t_keys, .ref h_t_digitOfKey, z_t_12, z_t_13])) :: (h_t_keys, .inl (k_t_keys, 25, .inl t_keys)) :: (h_t_digitOfKey, .inl (k_t_digitOfKey, 625, .inl o_t_digitOfKey)) :: R) (va_A ((h_t, .inr (2, [z_t_0, z_t_1, z_t_2, .int t_norm, z_t_4, z_t_5, z_t_6, .int t_size, z_t_8, z_t_9, .ref h_t_keys, .ref h_t_digitOfKey, z_t_12, z_t_13])) :: (h_t_keys, .inl (k_t_keys, 25, .inl t_keys)) :: (h_t_digitOfKey, .inl (k_t_digitOfKey, 625, .inl t_digitOfKey)) :: R) sz)) 0 0 (va_A ((h_t, .inr (2, [z_t_0, z_t_1, z_t_2, .int t_norm, z_t_4, z_t_5, z_t_6, .int t_size, z_t_8, z_t_9, .ref h_t_keys, .ref h_t_digitOfKey, z_t_12, z_t_13])) :: (h_t_keys, .inl (k_t_keys, 25, .inl t_keys)) :: (h_t_digitOfKey, .inl (k_t_digitOfKey, 625, .inl t_digitOfKey)) :: R) sz) := by
  refine ct_start (QF := fun A => QV D ((h_t, .inr (2, [z_t_0, z_t_1, z_t_2, .int t_norm, z_t_4, z_t_5, z_t_6, .int o_t_size, z_t_8, z_t_9, .ref h_t_keys, .ref h_t_digitOfKey, z_t_12, z_t_13])) :: (h_t_keys, .inl (k_t_keys, 25, .inl t_keys)) :: (h_t_digitOfKey, .inl (k_t_digitOfKey, 625, .inl o_t_digitOfKey)) :: R) A) ?_ ?_ ?_
  · decide +kernel
  · exact Nat.le_of_ble_eq_true rfl
  intro p e s m args below meth c A ls S hr hlk hnm hS hA hP hD hK hN hl
  have S : CallFix p m c cX2_keepDigits 3 s args AL "DigitBench$Ring" := S
  have hx := S.1
  have hb := S.2.1
  have hown := S.2.2.2.1
  have ha := S.2.2.2.2
  have hl : lv_has ls 3 [(0, .ref h_t)] := hl
  have L2 : ∀ (Q : State → Prop) (n : Nat) (l1 : Int32) (t_size : Int32) (t_digitOfKey : Nat → Int32) (x_t_digitOfKey : Nat → Int32), f_X2_keepDigits_L2 t_norm t_keys n l1 t_digitOfKey = some x_t_digitOfKey → ∀ (H : Heap) (locs : List Loc) (ls : Array Slot), va_P D vwCl ((h_t, .inr (2, [z_t_0, z_t_1, z_t_2, .int t_norm, z_t_4, z_t_5, z_t_6, .int t_size, z_t_8, z_t_9, .ref h_t_keys, .ref h_t_digitOfKey, z_t_12, z_t_13])) :: (h_t_keys, .inl (k_t_keys, 25, .inl t_keys)) :: (h_t_digitOfKey, .inl (k_t_digitOfKey, 625, .inl t_digitOfKey)) :: R) H → va_D A ((h_t, .inr (2, [z_t_0, z_t_1, z_t_2, .int t_norm, z_t_4, z_t_5, z_t_6, .int t_size, z_t_8, z_t_9, .ref h_t_keys, .ref h_t_digitOfKey, z_t_12, z_t_13])) :: (h_t_keys, .inl (k_t_keys, 25, .inl t_keys)) :: (h_t_digitOfKey, .inl (k_t_digitOfKey, 625, .inl t_digitOfKey)) :: R) → va_S A s.heap H locs → lv_has ls 3 [(0, .ref h_t), (1, .int l1)] → (∀ (H : Heap) (locs : List Loc) (ls : Array Slot), va_P D vwCl ((h_t, .inr (2, [z_t_0, z_t_1, z_t_2, .int t_norm, z_t_4, z_t_5, z_t_6, .int t_size, z_t_8, z_t_9, .ref h_t_keys, .ref h_t_digitOfKey, z_t_12, z_t_13])) :: (h_t_keys, .inl (k_t_keys, 25, .inl t_keys)) :: (h_t_digitOfKey, .inl (k_t_digitOfKey, 625, .inl x_t_digitOfKey)) :: R) H → va_D A ((h_t, .inr (2, [z_t_0, z_t_1, z_t_2, .int t_norm, z_t_4, z_t_5, z_t_6, .int t_size, z_t_8, z_t_9, .ref h_t_keys, .ref h_t_digitOfKey, z_t_12, z_t_13])) :: (h_t_keys, .inl (k_t_keys, 25, .inl t_keys)) :: (h_t_digitOfKey, .inl (k_t_digitOfKey, 625, .inl x_t_digitOfKey)) :: R) → va_S A s.heap H locs → lv_has ls 3 [(0, .ref h_t)] → W p l e { frames := 0, cells := 0, slots := 0, locals := 0 } s m args below meth c H locs 0 0 Q (F0 m 49 ls [])) → W p l e { frames := 0, cells := 0, slots := 0, locals := 0 } s m args below meth c H locs 0 0 Q (F0 m 2 ls []) := by
    intro Q n
    induction n with
    | zero =>
      intro l1 t_size t_digitOfKey x_t_digitOfKey h
      rw [f_X2_keepDigits_L2] at h; cases h
    | succ n ih =>
      intro l1 t_size t_digitOfKey x_t_digitOfKey h H locs ls hP hD hS hl kk0
      rw [f_X2_keepDigits_L2] at h
      refine lv_iload_n hx hb dX2_keepDigits_2 rfl (lv_at hl 1 rfl) ?_
      refine lv_aload_n hx hb dX2_keepDigits_3 rfl (lv_at hl 0 rfl) ?_
      refine va_get (D := D) (ci := 2) (v := .int t_norm) (C := RX2) (T := TX2) (N := 14) hx hb ha ix2 hown hK hP 0 rfl rfl 3 (by decide) (ha _ q354) (fun _ h9 => h9) rfl dX2_keepDigits_4 ?_
      refine lv_icmp_ge (tgt := 49) hx hb dX2_keepDigits_7 (by decide) (fun c1 => ?_) (fun c1 => ?_)
      · have h := br_pos c1 h
        cases h
        exact kk0 _ _ _ hP hD hS (lv_sub hl [0] rfl)
      · have h := br_neg c1 h
        refine lv_iload_n hx hb dX2_keepDigits_10 rfl (lv_at hl 1 rfl) ?_
        refine lv_bipush (v := 25) hx hb dX2_keepDigits_11 (by decide) ?_
        refine lv_icmp_ge (tgt := 49) hx hb dX2_keepDigits_13 (by decide) (fun c2 => ?_) (fun c2 => ?_)
        · have h := br_pos c2 h
          cases h
          exact kk0 _ _ _ hP hD hS (lv_sub hl [0] rfl)
        · have h := br_neg c2 h
          refine lv_aload_n hx hb dX2_keepDigits_16 rfl (lv_at hl 0 rfl) ?_
          refine va_get (D := D) (ci := 2) (v := .ref h_t_keys) (C := RX2) (T := TX2) (N := 14) hx hb ha ix2 hown hK hP 0 rfl rfl 10 (by decide) (ha _ q363) (fun _ h9 => h9) rfl dX2_keepDigits_17 ?_
          refine lv_iload_n hx hb dX2_keepDigits_20 rfl (lv_at hl 1 rfl) ?_
          obtain ⟨i3, h⟩ := ix_ok h
          refine va_iald hx hb hK hP 1 0 rfl rfl i3 dX2_keepDigits_21 ?_
          refine lv_istore_n (lv' := [(2, .int (t_keys l1.toNatClampNeg)), (0, .ref h_t), (1, .int l1)]) hx hb dX2_keepDigits_22 rfl hl (by decide) rfl (fun ls hl => ?_)
          refine lv_iload_n hx hb dX2_keepDigits_23 rfl (lv_at hl 0 rfl) ?_
          refine lv_if_lt (tgt := 43) hx hb dX2_keepDigits_24 (by decide) (fun c4 => ?_) (fun c4 => ?_)
          · have h := br_pos c4 h
            refine lv_iinc (v := (l1 + 1)) (lv' := [(1, .int (l1 + 1)), (2, .int (t_keys l1.toNatClampNeg)), (0, .ref h_t)]) hx hb dX2_keepDigits_43 hl (k := 2) rfl rfl (by decide) rfl (fun ls hl => ?_)
            refine lv_goto (tgt := 2) hx hb dX2_keepDigits_46 (by decide) ?_
            exact ih (l1 + 1) t_size t_digitOfKey _ h _ _ _ hP hD hS (lv_sub hl [2, 0] rfl) kk0
          · have h := br_neg c4 h
            refine lv_iload_n hx hb dX2_keepDigits_27 rfl (lv_at hl 0 rfl) ?_
            refine lv_aload_n hx hb dX2_keepDigits_28 rfl (lv_at hl 1 rfl) ?_
            refine va_get (D := D) (ci := 2) (v := .ref h_t_digitOfKey) (C := RX2) (T := TX2) (N := 14) hx hb ha ix2 hown hK hP 0 rfl rfl 11 (by decide) (ha _ q364) (fun _ h9 => h9) rfl dX2_keepDigits_29 ?_
            refine va_alen (v := 625) hx hb hK hP 2 1 rfl rfl rfl dX2_keepDigits_32 ?_
            refine lv_icmp_ge (tgt := 43) hx hb dX2_keepDigits_33 (by decide) (fun c5 => ?_) (fun c5 => ?_)
            · have h := br_pos c5 h
              refine lv_iinc (v := (l1 + 1)) (lv' := [(1, .int (l1 + 1)), (2, .int (t_keys l1.toNatClampNeg)), (0, .ref h_t)]) hx hb dX2_keepDigits_43 hl (k := 2) rfl rfl (by decide) rfl (fun ls hl => ?_)
              refine lv_goto (tgt := 2) hx hb dX2_keepDigits_46 (by decide) ?_
              exact ih (l1 + 1) t_size t_digitOfKey _ h _ _ _ hP hD hS (lv_sub hl [2, 0] rfl) kk0
            · have h := br_neg c5 h
              refine lv_aload_n hx hb dX2_keepDigits_36 rfl (lv_at hl 1 rfl) ?_
              refine va_get (D := D) (ci := 2) (v := .ref h_t_digitOfKey) (C := RX2) (T := TX2) (N := 14) hx hb ha ix2 hown hK hP 0 rfl rfl 11 (by decide) (ha _ q364) (fun _ h9 => h9) rfl dX2_keepDigits_37 ?_
              refine lv_iload_n hx hb dX2_keepDigits_40 rfl (lv_at hl 0 rfl) ?_
              refine lv_iload_n hx hb dX2_keepDigits_41 rfl (lv_at hl 2 rfl) ?_
              obtain ⟨i6, h⟩ := ix_ok h
              refine va_iast hx hb hK hP hD hS 2 1 rfl rfl i6 dX2_keepDigits_42 (fun H locs hP hD hS => ?_)
              have hP : va_P D vwCl ((h_t, .inr (2, [z_t_0, z_t_1, z_t_2, .int t_norm, z_t_4, z_t_5, z_t_6, .int t_size, z_t_8, z_t_9, .ref h_t_keys, .ref h_t_digitOfKey, z_t_12, z_t_13])) :: (h_t_keys, .inl (k_t_keys, 25, .inl t_keys)) :: (h_t_digitOfKey, .inl (k_t_digitOfKey, 625, .inl (upd t_digitOfKey (t_keys l1.toNatClampNeg).toNatClampNeg l1))) :: R) H := hP
              have hD : va_D A ((h_t, .inr (2, [z_t_0, z_t_1, z_t_2, .int t_norm, z_t_4, z_t_5, z_t_6, .int t_size, z_t_8, z_t_9, .ref h_t_keys, .ref h_t_digitOfKey, z_t_12, z_t_13])) :: (h_t_keys, .inl (k_t_keys, 25, .inl t_keys)) :: (h_t_digitOfKey, .inl (k_t_digitOfKey, 625, .inl (upd t_digitOfKey (t_keys l1.toNatClampNeg).toNatClampNeg l1))) :: R) := hD
              refine lv_iinc (v := (l1 + 1)) (lv' := [(1, .int (l1 + 1)), (2, .int (t_keys l1.toNatClampNeg)), (0, .ref h_t)]) hx hb dX2_keepDigits_43 hl (k := 2) rfl rfl (by decide) rfl (fun ls hl => ?_)
              refine lv_goto (tgt := 2) hx hb dX2_keepDigits_46 (by decide) ?_
              exact ih (l1 + 1) t_size (upd t_digitOfKey (t_keys l1.toNatClampNeg).toNatClampNeg l1) _ h _ _ _ hP hD hS (lv_sub hl [2, 0] rfl) kk0
  unfold f_X2_keepDigits at h
  refine lv_iconst (v := 0) hx hb dX2_keepDigits_0 (by decide) ?_
  refine lv_istore_n (lv' := [(1, .int 0), (0, .ref h_t)]) hx hb dX2_keepDigits_1 rfl hl (by decide) rfl (fun ls hl => ?_)
  obtain ⟨x_t_digitOfKey_L2_6, e_L2_6, h⟩ := bnd1_ok h
  refine L2 _ _ 0 t_size t_digitOfKey x_t_digitOfKey_L2_6 e_L2_6 _ _ _ hP hD hS (lv_sub hl [1, 0] rfl) ?_
  intro H locs ls hP hD hS hl
  refine lv_aload_n hx hb dX2_keepDigits_49 rfl (lv_at hl 0 rfl) ?_
  refine lv_aload_n hx hb dX2_keepDigits_50 rfl (lv_at hl 0 rfl) ?_
  refine va_get (D := D) (ci := 2) (v := .int t_norm) (C := RX2) (T := TX2) (N := 14) hx hb ha ix2 hown hK hP 0 rfl rfl 3 (by decide) (ha _ q354) (fun _ h9 => h9) rfl dX2_keepDigits_51 ?_
  refine va_put (D := D) (ci := 2) (v := .int t_norm) (ty := .int) (C := RX2) (T := TX2) (N := 14) hx hb ha ix2 tyX2 tyX2_ok nmX2 hown hK hP hD hS 0 rfl rfl 7 (by decide) (ha _ q359) (fun _ h9 => h9) rfl (by decide +kernel) rfl rfl (Nat.le_of_ble_eq_true rfl) dX2_keepDigits_54 (fun H locs hP hD hS => ?_)
  have hP : va_P D vwCl ((h_t, .inr (2, [z_t_0, z_t_1, z_t_2, .int t_norm, z_t_4, z_t_5, z_t_6, .int t_norm, z_t_8, z_t_9, .ref h_t_keys, .ref h_t_digitOfKey, z_t_12, z_t_13])) :: (h_t_keys, .inl (k_t_keys, 25, .inl t_keys)) :: (h_t_digitOfKey, .inl (k_t_digitOfKey, 625, .inl x_t_digitOfKey_L2_6)) :: R) H := hP
  have hD : va_D A ((h_t, .inr (2, [z_t_0, z_t_1, z_t_2, .int t_norm, z_t_4, z_t_5, z_t_6, .int t_norm, z_t_8, z_t_9, .ref h_t_keys, .ref h_t_digitOfKey, z_t_12, z_t_13])) :: (h_t_keys, .inl (k_t_keys, 25, .inl t_keys)) :: (h_t_digitOfKey, .inl (k_t_digitOfKey, 625, .inl x_t_digitOfKey_L2_6)) :: R) := hD
  cases h
  exact rt_v S hr hlk hP hD hS dX2_keepDigits_57
noncomputable def f_X2_takeDigits_L28 (t_parts : Int32) (t_norm : Int32) (p1_size : Int32) (p1_bytes : Nat → Int32) : Nat → Int32 → (Nat → Int32) → (Nat → Int32) →  Option ((Nat → Int32) × (Nat → Int32))
  | 0, _, _, _ => none
  | n + 1, l2, t_digitY, t_digitZ => (
    if t_norm ≤ l2 then (
     some (t_digitY, t_digitZ)
    ) else (
     if 25 ≤ l2 then (
      some (t_digitY, t_digitZ)
     ) else (
      bnd1 (f_X7_at p1_size p1_bytes (l2 * t_parts)) fun r_c54_5 => (
       gd (ixb l2 25) (
        bnd1 (f_X2_zOf t_parts p1_size p1_bytes l2) fun r_c66_7 => (
         gd (ixb l2 25) (
          f_X2_takeDigits_L28 t_parts t_norm p1_size p1_bytes n (l2 + 1) (upd t_digitY l2.toNatClampNeg r_c54_5) (upd t_digitZ l2.toNatClampNeg r_c66_7)
         )
        )
       )
      )
     )
    ))
noncomputable def f_X2_takeDigits (t_parts : Int32) (t_p : Int32) (t_q : Int32) (t_norm : Int32) (t_sideY : Int64) (t_sideZ : Int64) (t_size : Int32) (t_digitY : Nat → Int32) (t_digitZ : Nat → Int32) (t_keys : Nat → Int32) (t_digitOfKey : Nat → Int32) (p1_size : Int32) (p1_bytes : Nat → Int32) : Option (Int32 × Int32 × (Nat → Int32) × (Nat → Int32) × (Nat → Int32) × (Nat → Int32)) :=
  if p1_size = (t_norm * t_parts) then (
   bnd2 (f_X2_fillKeys t_parts t_p t_q t_norm t_sideY t_sideZ t_keys p1_size p1_bytes) fun r_c18_1 t_keys_c18_1 => (
    if r_c18_1 = 0 then (
     some (0, t_size, t_digitY, t_digitZ, t_keys_c18_1, t_digitOfKey)
    ) else (
     bnd2 (f_X2_takeDigits_L28 t_parts t_norm p1_size p1_bytes FU 0 t_digitY t_digitZ) fun x_t_digitY_L28_9 x_t_digitZ_L28_9 => (
      bnd2 (f_X2_keepDigits t_norm t_size t_keys_c18_1 t_digitOfKey) fun t_size_c77_10 t_digitOfKey_c77_10 => (
       some (1, t_size_c77_10, x_t_digitY_L28_9, x_t_digitZ_L28_9, t_keys_c18_1, t_digitOfKey_c77_10)
      )
     )
    )
   )
  ) else (
   some (0, t_size, t_digitY, t_digitZ, t_keys, t_digitOfKey)
  )
set_option maxHeartbeats 4000000 in
set_option maxRecDepth 100000 in
theorem c_X2_takeDigits (l : Launch) (D : va_G) (R : va_W) (h_t : Nat) (t_parts : Int32) (t_p : Int32) (t_q : Int32) (t_norm : Int32) (t_sideY : Int64) (t_sideZ : Int64) (z_t_6 : Value) (t_size : Int32) (z_t_12 : Value) (z_t_13 : Value) (h_t_digitY : Nat) (k_t_digitY : ClassId) (t_digitY : Nat → Int32) (h_t_digitZ : Nat) (k_t_digitZ : ClassId) (t_digitZ : Nat → Int32) (h_t_keys : Nat) (k_t_keys : ClassId) (t_keys : Nat → Int32) (h_t_digitOfKey : Nat) (k_t_digitOfKey : ClassId) (t_digitOfKey : Nat → Int32) (h_p1 : Nat) (p1_size : Int32) (h_p1_bytes : Nat) (k_p1_bytes : ClassId) (p1_bytes : Nat → Int32) (r : Int32) (o_t_size : Int32) (o_t_digitY : Nat → Int32) (o_t_digitZ : Nat → Int32) (o_t_keys : Nat → Int32) (o_t_digitOfKey : Nat → Int32)  (h : f_X2_takeDigits t_parts t_p t_q t_norm t_sideY t_sideZ t_size t_digitY t_digitZ t_keys t_digitOfKey p1_size p1_bytes = some (r, o_t_size, o_t_digitY, o_t_digitZ, o_t_keys, o_t_digitOfKey)) (sz : Nat) : Met l yX2_takeDigits (WD yX2_takeDigits cX2_takeDigits 3 (some .boolean)) ({ frames := 3, cells := 0, slots := 0, locals := 76 }) (va_Pc [.ref h_t, .ref h_p1] (PcW D [(k_t_digitY, .int), (k_t_digitZ, .int), (k_t_keys, .int), (k_t_digitOfKey, .int), (k_p1_bytes, .byte)] ((h_t, .inr (2, [.int t_parts, .int t_p, .int t_q, .int t_norm, .long t_sideY, .long t_sideZ, z_t_6, .int t_size, .ref h_t_digitY, .ref h_t_digitZ, .ref h_t_keys, .ref h_t_digitOfKey, z_t_12, z_t_13])) :: (h_t_digitY, .inl (k_t_digitY, 25, .inl t_digitY)) :: (h_t_digitZ, .inl (k_t_digitZ, 25, .inl t_digitZ)) :: (h_t_keys, .inl (k_t_keys, 25, .inl t_keys)) :: (h_t_digitOfKey, .inl (k_t_digitOfKey, 625, .inl t_digitOfKey)) :: (h_p1, .inr (7, [.ref h_p1_bytes, .int p1_size])) :: (h_p1_bytes, .inl (k_p1_bytes, 200, .inl p1_bytes)) :: R) sz)) (QZ D r ((h_t, .inr (2, [.int t_parts, .int t_p, .int t_q, .int t_norm, .long t_sideY, .long t_sideZ, z_t_6, .int o_t_size, .ref h_t_digitY, .ref h_t_digitZ, .ref h_t_keys, .ref h_t_digitOfKey, z_t_12, z_t_13])) :: (h_t_digitY, .inl (k_t_digitY, 25, .inl o_t_digitY)) :: (h_t_digitZ, .inl (k_t_digitZ, 25, .inl o_t_digitZ)) :: (h_t_keys, .inl (k_t_keys, 25, .inl o_t_keys)) :: (h_t_digitOfKey, .inl (k_t_digitOfKey, 625, .inl o_t_digitOfKey)) :: (h_p1, .inr (7, [.ref h_p1_bytes, .int p1_size])) :: (h_p1_bytes, .inl (k_p1_bytes, 200, .inl p1_bytes)) :: R) (va_A ((h_t, .inr (2, [.int t_parts, .int t_p, .int t_q, .int t_norm, .long t_sideY, .long t_sideZ, z_t_6, .int t_size, .ref h_t_digitY, .ref h_t_digitZ, .ref h_t_keys, .ref h_t_digitOfKey, z_t_12, z_t_13])) :: (h_t_digitY, .inl (k_t_digitY, 25, .inl t_digitY)) :: (h_t_digitZ, .inl (k_t_digitZ, 25, .inl t_digitZ)) :: (h_t_keys, .inl (k_t_keys, 25, .inl t_keys)) :: (h_t_digitOfKey, .inl (k_t_digitOfKey, 625, .inl t_digitOfKey)) :: (h_p1, .inr (7, [.ref h_p1_bytes, .int p1_size])) :: (h_p1_bytes, .inl (k_p1_bytes, 200, .inl p1_bytes)) :: R) sz)) 0 0 (va_A ((h_t, .inr (2, [.int t_parts, .int t_p, .int t_q, .int t_norm, .long t_sideY, .long t_sideZ, z_t_6, .int t_size, .ref h_t_digitY, .ref h_t_digitZ, .ref h_t_keys, .ref h_t_digitOfKey, z_t_12, z_t_13])) :: (h_t_digitY, .inl (k_t_digitY, 25, .inl t_digitY)) :: (h_t_digitZ, .inl (k_t_digitZ, 25, .inl t_digitZ)) :: (h_t_keys, .inl (k_t_keys, 25, .inl t_keys)) :: (h_t_digitOfKey, .inl (k_t_digitOfKey, 625, .inl t_digitOfKey)) :: (h_p1, .inr (7, [.ref h_p1_bytes, .int p1_size])) :: (h_p1_bytes, .inl (k_p1_bytes, 200, .inl p1_bytes)) :: R) sz) := by
  refine ct_start (QF := fun A => QZ D r ((h_t, .inr (2, [.int t_parts, .int t_p, .int t_q, .int t_norm, .long t_sideY, .long t_sideZ, z_t_6, .int o_t_size, .ref h_t_digitY, .ref h_t_digitZ, .ref h_t_keys, .ref h_t_digitOfKey, z_t_12, z_t_13])) :: (h_t_digitY, .inl (k_t_digitY, 25, .inl o_t_digitY)) :: (h_t_digitZ, .inl (k_t_digitZ, 25, .inl o_t_digitZ)) :: (h_t_keys, .inl (k_t_keys, 25, .inl o_t_keys)) :: (h_t_digitOfKey, .inl (k_t_digitOfKey, 625, .inl o_t_digitOfKey)) :: (h_p1, .inr (7, [.ref h_p1_bytes, .int p1_size])) :: (h_p1_bytes, .inl (k_p1_bytes, 200, .inl p1_bytes)) :: R) A) ?_ ?_ ?_
  · decide +kernel
  · exact Nat.le_of_ble_eq_true rfl
  intro p e s m args below meth c A ls S hr hlk hnm hS hA hP hD hK hN hl
  have S : CallFix p m c cX2_takeDigits 3 s args AL "DigitBench$Ring" := S
  have hx := S.1
  have hb := S.2.1
  have hown := S.2.2.2.1
  have ha := S.2.2.2.2
  have hl : lv_has ls 3 [(0, .ref h_t), (1, .ref h_p1)] := hl
  have L28 : ∀ (Q : State → Prop) (n : Nat) (l2 : Int32) (t_size : Int32) (t_digitY : Nat → Int32) (t_digitZ : Nat → Int32) (t_keys : Nat → Int32) (t_digitOfKey : Nat → Int32) (x_t_digitY : Nat → Int32) (x_t_digitZ : Nat → Int32), f_X2_takeDigits_L28 t_parts t_norm p1_size p1_bytes n l2 t_digitY t_digitZ = some (x_t_digitY, x_t_digitZ) → ∀ (H : Heap) (locs : List Loc) (ls : Array Slot), va_P D vwCl ((h_t, .inr (2, [.int t_parts, .int t_p, .int t_q, .int t_norm, .long t_sideY, .long t_sideZ, z_t_6, .int t_size, .ref h_t_digitY, .ref h_t_digitZ, .ref h_t_keys, .ref h_t_digitOfKey, z_t_12, z_t_13])) :: (h_t_digitY, .inl (k_t_digitY, 25, .inl t_digitY)) :: (h_t_digitZ, .inl (k_t_digitZ, 25, .inl t_digitZ)) :: (h_t_keys, .inl (k_t_keys, 25, .inl t_keys)) :: (h_t_digitOfKey, .inl (k_t_digitOfKey, 625, .inl t_digitOfKey)) :: (h_p1, .inr (7, [.ref h_p1_bytes, .int p1_size])) :: (h_p1_bytes, .inl (k_p1_bytes, 200, .inl p1_bytes)) :: R) H → va_D A ((h_t, .inr (2, [.int t_parts, .int t_p, .int t_q, .int t_norm, .long t_sideY, .long t_sideZ, z_t_6, .int t_size, .ref h_t_digitY, .ref h_t_digitZ, .ref h_t_keys, .ref h_t_digitOfKey, z_t_12, z_t_13])) :: (h_t_digitY, .inl (k_t_digitY, 25, .inl t_digitY)) :: (h_t_digitZ, .inl (k_t_digitZ, 25, .inl t_digitZ)) :: (h_t_keys, .inl (k_t_keys, 25, .inl t_keys)) :: (h_t_digitOfKey, .inl (k_t_digitOfKey, 625, .inl t_digitOfKey)) :: (h_p1, .inr (7, [.ref h_p1_bytes, .int p1_size])) :: (h_p1_bytes, .inl (k_p1_bytes, 200, .inl p1_bytes)) :: R) → va_S A s.heap H locs → lv_has ls 3 [(0, .ref h_t), (1, .ref h_p1), (2, .int l2)] → (∀ (H : Heap) (locs : List Loc) (ls : Array Slot), va_P D vwCl ((h_t, .inr (2, [.int t_parts, .int t_p, .int t_q, .int t_norm, .long t_sideY, .long t_sideZ, z_t_6, .int t_size, .ref h_t_digitY, .ref h_t_digitZ, .ref h_t_keys, .ref h_t_digitOfKey, z_t_12, z_t_13])) :: (h_t_digitY, .inl (k_t_digitY, 25, .inl x_t_digitY)) :: (h_t_digitZ, .inl (k_t_digitZ, 25, .inl x_t_digitZ)) :: (h_t_keys, .inl (k_t_keys, 25, .inl t_keys)) :: (h_t_digitOfKey, .inl (k_t_digitOfKey, 625, .inl t_digitOfKey)) :: (h_p1, .inr (7, [.ref h_p1_bytes, .int p1_size])) :: (h_p1_bytes, .inl (k_p1_bytes, 200, .inl p1_bytes)) :: R) H → va_D A ((h_t, .inr (2, [.int t_parts, .int t_p, .int t_q, .int t_norm, .long t_sideY, .long t_sideZ, z_t_6, .int t_size, .ref h_t_digitY, .ref h_t_digitZ, .ref h_t_keys, .ref h_t_digitOfKey, z_t_12, z_t_13])) :: (h_t_digitY, .inl (k_t_digitY, 25, .inl x_t_digitY)) :: (h_t_digitZ, .inl (k_t_digitZ, 25, .inl x_t_digitZ)) :: (h_t_keys, .inl (k_t_keys, 25, .inl t_keys)) :: (h_t_digitOfKey, .inl (k_t_digitOfKey, 625, .inl t_digitOfKey)) :: (h_p1, .inr (7, [.ref h_p1_bytes, .int p1_size])) :: (h_p1_bytes, .inl (k_p1_bytes, 200, .inl p1_bytes)) :: R) → va_S A s.heap H locs → lv_has ls 3 [(0, .ref h_t)] → W p l e { frames := 3, cells := 0, slots := 0, locals := 76 } s m args below meth c H locs 0 0 Q (F0 m 76 ls [])) → W p l e { frames := 3, cells := 0, slots := 0, locals := 76 } s m args below meth c H locs 0 0 Q (F0 m 28 ls []) := by
    intro Q n
    induction n with
    | zero =>
      intro l2 t_size t_digitY t_digitZ t_keys t_digitOfKey x_t_digitY x_t_digitZ h
      rw [f_X2_takeDigits_L28] at h; cases h
    | succ n ih =>
      intro l2 t_size t_digitY t_digitZ t_keys t_digitOfKey x_t_digitY x_t_digitZ h H locs ls hP hD hS hl kk0
      rw [f_X2_takeDigits_L28] at h
      refine lv_iload_n hx hb dX2_takeDigits_28 rfl (lv_at hl 2 rfl) ?_
      refine lv_aload_n hx hb dX2_takeDigits_29 rfl (lv_at hl 0 rfl) ?_
      refine va_get (D := D) (ci := 2) (v := .int t_norm) (C := RX2) (T := TX2) (N := 14) hx hb ha ix2 hown hK hP 0 rfl rfl 3 (by decide) (ha _ q354) (fun _ h9 => h9) rfl dX2_takeDigits_30 ?_
      refine lv_icmp_ge (tgt := 76) hx hb dX2_takeDigits_33 (by decide) (fun c4 => ?_) (fun c4 => ?_)
      · have h := br_pos c4 h
        cases h
        exact kk0 _ _ _ hP hD hS (lv_sub hl [0] rfl)
      · have h := br_neg c4 h
        refine lv_iload_n hx hb dX2_takeDigits_36 rfl (lv_at hl 2 rfl) ?_
        refine lv_bipush (v := 25) hx hb dX2_takeDigits_37 (by decide) ?_
        refine lv_icmp_ge (tgt := 76) hx hb dX2_takeDigits_39 (by decide) (fun c5 => ?_) (fun c5 => ?_)
        · have h := br_pos c5 h
          cases h
          exact kk0 _ _ _ hP hD hS (lv_sub hl [0] rfl)
        · have h := br_neg c5 h
          refine lv_aload_n hx hb dX2_takeDigits_42 rfl (lv_at hl 0 rfl) ?_
          refine va_get (D := D) (ci := 2) (v := .ref h_t_digitY) (C := RX2) (T := TX2) (N := 14) hx hb ha ix2 hown hK hP 0 rfl rfl 8 (by decide) (ha _ q361) (fun _ h9 => h9) rfl dX2_takeDigits_43 ?_
          refine lv_iload_n hx hb dX2_takeDigits_46 rfl (lv_at hl 2 rfl) ?_
          refine lv_aload_n hx hb dX2_takeDigits_47 rfl (lv_at hl 1 rfl) ?_
          refine lv_iload_n hx hb dX2_takeDigits_48 rfl (lv_at hl 2 rfl) ?_
          refine lv_aload_n hx hb dX2_takeDigits_49 rfl (lv_at hl 0 rfl) ?_
          refine va_get (D := D) (ci := 2) (v := .int t_parts) (C := RX2) (T := TX2) (N := 14) hx hb ha ix2 hown hK hP 0 rfl rfl 0 (by decide) (ha _ q350) (fun _ h9 => h9) rfl dX2_takeDigits_50 ?_
          refine lv_imul hx hb dX2_takeDigits_53 ?_
          obtain ⟨r_c54_5, e_c54_5, h⟩ := bnd1_ok h
          have hP : va_P D vwCl ((h_p1, .inr (7, [.ref h_p1_bytes, .int p1_size])) :: (h_p1_bytes, .inl (k_p1_bytes, 200, .inl p1_bytes)) :: (h_t, .inr (2, [.int t_parts, .int t_p, .int t_q, .int t_norm, .long t_sideY, .long t_sideZ, z_t_6, .int t_size, .ref h_t_digitY, .ref h_t_digitZ, .ref h_t_keys, .ref h_t_digitOfKey, z_t_12, z_t_13])) :: (h_t_digitY, .inl (k_t_digitY, 25, .inl t_digitY)) :: (h_t_digitZ, .inl (k_t_digitZ, 25, .inl t_digitZ)) :: (h_t_keys, .inl (k_t_keys, 25, .inl t_keys)) :: (h_t_digitOfKey, .inl (k_t_digitOfKey, 625, .inl t_digitOfKey)) :: R) _ := pm_P [5, 6, 0, 1, 2, 3, 4] 7 hP
          have hD : va_D A ((h_p1, .inr (7, [.ref h_p1_bytes, .int p1_size])) :: (h_p1_bytes, .inl (k_p1_bytes, 200, .inl p1_bytes)) :: (h_t, .inr (2, [.int t_parts, .int t_p, .int t_q, .int t_norm, .long t_sideY, .long t_sideZ, z_t_6, .int t_size, .ref h_t_digitY, .ref h_t_digitZ, .ref h_t_keys, .ref h_t_digitOfKey, z_t_12, z_t_13])) :: (h_t_digitY, .inl (k_t_digitY, 25, .inl t_digitY)) :: (h_t_digitZ, .inl (k_t_digitZ, 25, .inl t_digitZ)) :: (h_t_keys, .inl (k_t_keys, 25, .inl t_keys)) :: (h_t_digitOfKey, .inl (k_t_digitOfKey, 625, .inl t_digitOfKey)) :: R) := pm_D (X := [(h_p1, .inr (7, [.ref h_p1_bytes, .int p1_size])), (h_p1_bytes, .inl (k_p1_bytes, 200, .inl p1_bytes)), (h_t, .inr (2, [.int t_parts, .int t_p, .int t_q, .int t_norm, .long t_sideY, .long t_sideZ, z_t_6, .int t_size, .ref h_t_digitY, .ref h_t_digitZ, .ref h_t_keys, .ref h_t_digitOfKey, z_t_12, z_t_13])), (h_t_digitY, .inl (k_t_digitY, 25, .inl t_digitY)), (h_t_digitZ, .inl (k_t_digitZ, 25, .inl t_digitZ)), (h_t_keys, .inl (k_t_keys, 25, .inl t_keys)), (h_t_digitOfKey, .inl (k_t_digitOfKey, 625, .inl t_digitOfKey))]) [5, 6, 0, 1, 2, 3, 4] 7 (by decide) (by decide) rfl hD
          refine cl_i (rn_v (ci := 7) (As := [.int (l2 * t_parts)]) (rest := [.int l2, .ref h_t_digitY]) S (c_X7_at l D ((h_t, .inr (2, [.int t_parts, .int t_p, .int t_q, .int t_norm, .long t_sideY, .long t_sideZ, z_t_6, .int t_size, .ref h_t_digitY, .ref h_t_digitZ, .ref h_t_keys, .ref h_t_digitOfKey, z_t_12, z_t_13])) :: (h_t_digitY, .inl (k_t_digitY, 25, .inl t_digitY)) :: (h_t_digitZ, .inl (k_t_digitZ, 25, .inl t_digitZ)) :: (h_t_keys, .inl (k_t_keys, 25, .inl t_keys)) :: (h_t_digitOfKey, .inl (k_t_digitOfKey, 625, .inl t_digitOfKey)) :: R) h_p1 p1_size h_p1_bytes k_p1_bytes p1_bytes (l2 * t_parts) r_c54_5 e_c54_5 _) q752 q652 q653 q49 q654 nd_X7_at ⟨Nat.le_of_ble_eq_true rfl, Nat.le_of_ble_eq_true rfl⟩ rfl rfl hP hD (hK.sub (tys' := [(k_p1_bytes, .byte)]) [4] rfl) hN rfl ⟨0, _, rfl⟩ rfl hl.1 rfl (Nat.le_of_ble_eq_true rfl) dX2_takeDigits_54 ⟨Nat.le_of_ble_eq_true rfl, Nat.le_of_ble_eq_true rfl⟩) hS hA hD (fun H locs hP hD hS => ?_)
          have hP : va_P D vwCl ((h_t, .inr (2, [.int t_parts, .int t_p, .int t_q, .int t_norm, .long t_sideY, .long t_sideZ, z_t_6, .int t_size, .ref h_t_digitY, .ref h_t_digitZ, .ref h_t_keys, .ref h_t_digitOfKey, z_t_12, z_t_13])) :: (h_t_digitY, .inl (k_t_digitY, 25, .inl t_digitY)) :: (h_t_digitZ, .inl (k_t_digitZ, 25, .inl t_digitZ)) :: (h_t_keys, .inl (k_t_keys, 25, .inl t_keys)) :: (h_t_digitOfKey, .inl (k_t_digitOfKey, 625, .inl t_digitOfKey)) :: (h_p1, .inr (7, [.ref h_p1_bytes, .int p1_size])) :: (h_p1_bytes, .inl (k_p1_bytes, 200, .inl p1_bytes)) :: R) H := pm_P [2, 3, 4, 5, 6, 0, 1] 7 hP
          have hD : va_D A ((h_t, .inr (2, [.int t_parts, .int t_p, .int t_q, .int t_norm, .long t_sideY, .long t_sideZ, z_t_6, .int t_size, .ref h_t_digitY, .ref h_t_digitZ, .ref h_t_keys, .ref h_t_digitOfKey, z_t_12, z_t_13])) :: (h_t_digitY, .inl (k_t_digitY, 25, .inl t_digitY)) :: (h_t_digitZ, .inl (k_t_digitZ, 25, .inl t_digitZ)) :: (h_t_keys, .inl (k_t_keys, 25, .inl t_keys)) :: (h_t_digitOfKey, .inl (k_t_digitOfKey, 625, .inl t_digitOfKey)) :: (h_p1, .inr (7, [.ref h_p1_bytes, .int p1_size])) :: (h_p1_bytes, .inl (k_p1_bytes, 200, .inl p1_bytes)) :: R) := pm_D (X := [(h_t, .inr (2, [.int t_parts, .int t_p, .int t_q, .int t_norm, .long t_sideY, .long t_sideZ, z_t_6, .int t_size, .ref h_t_digitY, .ref h_t_digitZ, .ref h_t_keys, .ref h_t_digitOfKey, z_t_12, z_t_13])), (h_t_digitY, .inl (k_t_digitY, 25, .inl t_digitY)), (h_t_digitZ, .inl (k_t_digitZ, 25, .inl t_digitZ)), (h_t_keys, .inl (k_t_keys, 25, .inl t_keys)), (h_t_digitOfKey, .inl (k_t_digitOfKey, 625, .inl t_digitOfKey)), (h_p1, .inr (7, [.ref h_p1_bytes, .int p1_size])), (h_p1_bytes, .inl (k_p1_bytes, 200, .inl p1_bytes))]) [2, 3, 4, 5, 6, 0, 1] 7 (by decide) (by decide) rfl hD
          obtain ⟨i7, h⟩ := ix_ok h
          refine va_iast hx hb hK hP hD hS 1 0 rfl rfl i7 dX2_takeDigits_57 (fun H locs hP hD hS => ?_)
          have hP : va_P D vwCl ((h_t, .inr (2, [.int t_parts, .int t_p, .int t_q, .int t_norm, .long t_sideY, .long t_sideZ, z_t_6, .int t_size, .ref h_t_digitY, .ref h_t_digitZ, .ref h_t_keys, .ref h_t_digitOfKey, z_t_12, z_t_13])) :: (h_t_digitY, .inl (k_t_digitY, 25, .inl (upd t_digitY l2.toNatClampNeg r_c54_5))) :: (h_t_digitZ, .inl (k_t_digitZ, 25, .inl t_digitZ)) :: (h_t_keys, .inl (k_t_keys, 25, .inl t_keys)) :: (h_t_digitOfKey, .inl (k_t_digitOfKey, 625, .inl t_digitOfKey)) :: (h_p1, .inr (7, [.ref h_p1_bytes, .int p1_size])) :: (h_p1_bytes, .inl (k_p1_bytes, 200, .inl p1_bytes)) :: R) H := hP
          have hD : va_D A ((h_t, .inr (2, [.int t_parts, .int t_p, .int t_q, .int t_norm, .long t_sideY, .long t_sideZ, z_t_6, .int t_size, .ref h_t_digitY, .ref h_t_digitZ, .ref h_t_keys, .ref h_t_digitOfKey, z_t_12, z_t_13])) :: (h_t_digitY, .inl (k_t_digitY, 25, .inl (upd t_digitY l2.toNatClampNeg r_c54_5))) :: (h_t_digitZ, .inl (k_t_digitZ, 25, .inl t_digitZ)) :: (h_t_keys, .inl (k_t_keys, 25, .inl t_keys)) :: (h_t_digitOfKey, .inl (k_t_digitOfKey, 625, .inl t_digitOfKey)) :: (h_p1, .inr (7, [.ref h_p1_bytes, .int p1_size])) :: (h_p1_bytes, .inl (k_p1_bytes, 200, .inl p1_bytes)) :: R) := hD
          refine lv_aload_n hx hb dX2_takeDigits_58 rfl (lv_at hl 0 rfl) ?_
          refine va_get (D := D) (ci := 2) (v := .ref h_t_digitZ) (C := RX2) (T := TX2) (N := 14) hx hb ha ix2 hown hK hP 0 rfl rfl 9 (by decide) (ha _ q362) (fun _ h9 => h9) rfl dX2_takeDigits_59 ?_
          refine lv_iload_n hx hb dX2_takeDigits_62 rfl (lv_at hl 2 rfl) ?_
          refine lv_aload_n hx hb dX2_takeDigits_63 rfl (lv_at hl 0 rfl) ?_
          refine lv_aload_n hx hb dX2_takeDigits_64 rfl (lv_at hl 1 rfl) ?_
          refine lv_iload_n hx hb dX2_takeDigits_65 rfl (lv_at hl 2 rfl) ?_
          obtain ⟨r_c66_7, e_c66_7, h⟩ := bnd1_ok h
          have hP : va_P D vwCl ((h_t, .inr (2, [.int t_parts, .int t_p, .int t_q, .int t_norm, .long t_sideY, .long t_sideZ, z_t_6, .int t_size, .ref h_t_digitY, .ref h_t_digitZ, .ref h_t_keys, .ref h_t_digitOfKey, z_t_12, z_t_13])) :: (h_p1, .inr (7, [.ref h_p1_bytes, .int p1_size])) :: (h_p1_bytes, .inl (k_p1_bytes, 200, .inl p1_bytes)) :: (h_t_digitY, .inl (k_t_digitY, 25, .inl (upd t_digitY l2.toNatClampNeg r_c54_5))) :: (h_t_digitZ, .inl (k_t_digitZ, 25, .inl t_digitZ)) :: (h_t_keys, .inl (k_t_keys, 25, .inl t_keys)) :: (h_t_digitOfKey, .inl (k_t_digitOfKey, 625, .inl t_digitOfKey)) :: R) _ := pm_P [0, 5, 6, 1, 2, 3, 4] 7 hP
          have hD : va_D A ((h_t, .inr (2, [.int t_parts, .int t_p, .int t_q, .int t_norm, .long t_sideY, .long t_sideZ, z_t_6, .int t_size, .ref h_t_digitY, .ref h_t_digitZ, .ref h_t_keys, .ref h_t_digitOfKey, z_t_12, z_t_13])) :: (h_p1, .inr (7, [.ref h_p1_bytes, .int p1_size])) :: (h_p1_bytes, .inl (k_p1_bytes, 200, .inl p1_bytes)) :: (h_t_digitY, .inl (k_t_digitY, 25, .inl (upd t_digitY l2.toNatClampNeg r_c54_5))) :: (h_t_digitZ, .inl (k_t_digitZ, 25, .inl t_digitZ)) :: (h_t_keys, .inl (k_t_keys, 25, .inl t_keys)) :: (h_t_digitOfKey, .inl (k_t_digitOfKey, 625, .inl t_digitOfKey)) :: R) := pm_D (X := [(h_t, .inr (2, [.int t_parts, .int t_p, .int t_q, .int t_norm, .long t_sideY, .long t_sideZ, z_t_6, .int t_size, .ref h_t_digitY, .ref h_t_digitZ, .ref h_t_keys, .ref h_t_digitOfKey, z_t_12, z_t_13])), (h_p1, .inr (7, [.ref h_p1_bytes, .int p1_size])), (h_p1_bytes, .inl (k_p1_bytes, 200, .inl p1_bytes)), (h_t_digitY, .inl (k_t_digitY, 25, .inl (upd t_digitY l2.toNatClampNeg r_c54_5))), (h_t_digitZ, .inl (k_t_digitZ, 25, .inl t_digitZ)), (h_t_keys, .inl (k_t_keys, 25, .inl t_keys)), (h_t_digitOfKey, .inl (k_t_digitOfKey, 625, .inl t_digitOfKey))]) [0, 5, 6, 1, 2, 3, 4] 7 (by decide) (by decide) rfl hD
          refine cl_i (rn_v (ci := 2) (As := [.ref h_p1, .int l2]) (rest := [.int l2, .ref h_t_digitZ]) S (c_X2_zOf l D ((h_t_digitY, .inl (k_t_digitY, 25, .inl (upd t_digitY l2.toNatClampNeg r_c54_5))) :: (h_t_digitZ, .inl (k_t_digitZ, 25, .inl t_digitZ)) :: (h_t_keys, .inl (k_t_keys, 25, .inl t_keys)) :: (h_t_digitOfKey, .inl (k_t_digitOfKey, 625, .inl t_digitOfKey)) :: R) h_t t_parts (.int t_p) (.int t_q) (.int t_norm) (.long t_sideY) (.long t_sideZ) (z_t_6) (.int t_size) (.ref h_t_digitY) (.ref h_t_digitZ) (.ref h_t_keys) (.ref h_t_digitOfKey) (z_t_12) (z_t_13) h_p1 p1_size h_p1_bytes k_p1_bytes p1_bytes l2 r_c66_7 e_c66_7 _) q753 q755 q19 q57 q756 nd_X2_zOf ⟨Nat.le_of_ble_eq_true rfl, Nat.le_of_ble_eq_true rfl⟩ rfl rfl hP hD (hK.sub (tys' := [(k_p1_bytes, .byte)]) [4] rfl) hN rfl ⟨0, _, rfl⟩ rfl hl.1 rfl (Nat.le_of_ble_eq_true rfl) dX2_takeDigits_66 ⟨Nat.le_of_ble_eq_true rfl, Nat.le_of_ble_eq_true rfl⟩) hS hA hD (fun H locs hP hD hS => ?_)
          have hP : va_P D vwCl ((h_t, .inr (2, [.int t_parts, .int t_p, .int t_q, .int t_norm, .long t_sideY, .long t_sideZ, z_t_6, .int t_size, .ref h_t_digitY, .ref h_t_digitZ, .ref h_t_keys, .ref h_t_digitOfKey, z_t_12, z_t_13])) :: (h_t_digitY, .inl (k_t_digitY, 25, .inl (upd t_digitY l2.toNatClampNeg r_c54_5))) :: (h_t_digitZ, .inl (k_t_digitZ, 25, .inl t_digitZ)) :: (h_t_keys, .inl (k_t_keys, 25, .inl t_keys)) :: (h_t_digitOfKey, .inl (k_t_digitOfKey, 625, .inl t_digitOfKey)) :: (h_p1, .inr (7, [.ref h_p1_bytes, .int p1_size])) :: (h_p1_bytes, .inl (k_p1_bytes, 200, .inl p1_bytes)) :: R) H := pm_P [0, 3, 4, 5, 6, 1, 2] 7 hP
          have hD : va_D A ((h_t, .inr (2, [.int t_parts, .int t_p, .int t_q, .int t_norm, .long t_sideY, .long t_sideZ, z_t_6, .int t_size, .ref h_t_digitY, .ref h_t_digitZ, .ref h_t_keys, .ref h_t_digitOfKey, z_t_12, z_t_13])) :: (h_t_digitY, .inl (k_t_digitY, 25, .inl (upd t_digitY l2.toNatClampNeg r_c54_5))) :: (h_t_digitZ, .inl (k_t_digitZ, 25, .inl t_digitZ)) :: (h_t_keys, .inl (k_t_keys, 25, .inl t_keys)) :: (h_t_digitOfKey, .inl (k_t_digitOfKey, 625, .inl t_digitOfKey)) :: (h_p1, .inr (7, [.ref h_p1_bytes, .int p1_size])) :: (h_p1_bytes, .inl (k_p1_bytes, 200, .inl p1_bytes)) :: R) := pm_D (X := [(h_t, .inr (2, [.int t_parts, .int t_p, .int t_q, .int t_norm, .long t_sideY, .long t_sideZ, z_t_6, .int t_size, .ref h_t_digitY, .ref h_t_digitZ, .ref h_t_keys, .ref h_t_digitOfKey, z_t_12, z_t_13])), (h_t_digitY, .inl (k_t_digitY, 25, .inl (upd t_digitY l2.toNatClampNeg r_c54_5))), (h_t_digitZ, .inl (k_t_digitZ, 25, .inl t_digitZ)), (h_t_keys, .inl (k_t_keys, 25, .inl t_keys)), (h_t_digitOfKey, .inl (k_t_digitOfKey, 625, .inl t_digitOfKey)), (h_p1, .inr (7, [.ref h_p1_bytes, .int p1_size])), (h_p1_bytes, .inl (k_p1_bytes, 200, .inl p1_bytes))]) [0, 3, 4, 5, 6, 1, 2] 7 (by decide) (by decide) rfl hD
          obtain ⟨i9, h⟩ := ix_ok h
          refine va_iast hx hb hK hP hD hS 2 1 rfl rfl i9 dX2_takeDigits_69 (fun H locs hP hD hS => ?_)
          have hP : va_P D vwCl ((h_t, .inr (2, [.int t_parts, .int t_p, .int t_q, .int t_norm, .long t_sideY, .long t_sideZ, z_t_6, .int t_size, .ref h_t_digitY, .ref h_t_digitZ, .ref h_t_keys, .ref h_t_digitOfKey, z_t_12, z_t_13])) :: (h_t_digitY, .inl (k_t_digitY, 25, .inl (upd t_digitY l2.toNatClampNeg r_c54_5))) :: (h_t_digitZ, .inl (k_t_digitZ, 25, .inl (upd t_digitZ l2.toNatClampNeg r_c66_7))) :: (h_t_keys, .inl (k_t_keys, 25, .inl t_keys)) :: (h_t_digitOfKey, .inl (k_t_digitOfKey, 625, .inl t_digitOfKey)) :: (h_p1, .inr (7, [.ref h_p1_bytes, .int p1_size])) :: (h_p1_bytes, .inl (k_p1_bytes, 200, .inl p1_bytes)) :: R) H := hP
          have hD : va_D A ((h_t, .inr (2, [.int t_parts, .int t_p, .int t_q, .int t_norm, .long t_sideY, .long t_sideZ, z_t_6, .int t_size, .ref h_t_digitY, .ref h_t_digitZ, .ref h_t_keys, .ref h_t_digitOfKey, z_t_12, z_t_13])) :: (h_t_digitY, .inl (k_t_digitY, 25, .inl (upd t_digitY l2.toNatClampNeg r_c54_5))) :: (h_t_digitZ, .inl (k_t_digitZ, 25, .inl (upd t_digitZ l2.toNatClampNeg r_c66_7))) :: (h_t_keys, .inl (k_t_keys, 25, .inl t_keys)) :: (h_t_digitOfKey, .inl (k_t_digitOfKey, 625, .inl t_digitOfKey)) :: (h_p1, .inr (7, [.ref h_p1_bytes, .int p1_size])) :: (h_p1_bytes, .inl (k_p1_bytes, 200, .inl p1_bytes)) :: R) := hD
          refine lv_iinc (v := (l2 + 1)) (lv' := [(2, .int (l2 + 1)), (0, .ref h_t), (1, .ref h_p1)]) hx hb dX2_takeDigits_70 hl (k := 2) rfl rfl (by decide) rfl (fun ls hl => ?_)
          refine lv_goto (tgt := 28) hx hb dX2_takeDigits_73 (by decide) ?_
          exact ih (l2 + 1) t_size (upd t_digitY l2.toNatClampNeg r_c54_5) (upd t_digitZ l2.toNatClampNeg r_c66_7) t_keys t_digitOfKey _ _ h _ _ _ hP hD hS (lv_sub hl [1, 2, 0] rfl) kk0
  unfold f_X2_takeDigits at h
  refine lv_aload_n hx hb dX2_takeDigits_0 rfl (lv_at hl 1 rfl) ?_
  refine va_get (D := D) (ci := 7) (v := .int p1_size) (C := RX7) (T := TX7) (N := 2) hx hb ha ix7 hown hK hP 5 rfl rfl 1 (by decide) (ha _ q84) (fun _ h9 => h9) rfl dX2_takeDigits_1 ?_
  refine lv_aload_n hx hb dX2_takeDigits_4 rfl (lv_at hl 0 rfl) ?_
  refine va_get (D := D) (ci := 2) (v := .int t_norm) (C := RX2) (T := TX2) (N := 14) hx hb ha ix2 hown hK hP 0 rfl rfl 3 (by decide) (ha _ q354) (fun _ h9 => h9) rfl dX2_takeDigits_5 ?_
  refine lv_aload_n hx hb dX2_takeDigits_8 rfl (lv_at hl 0 rfl) ?_
  refine va_get (D := D) (ci := 2) (v := .int t_parts) (C := RX2) (T := TX2) (N := 14) hx hb ha ix2 hown hK hP 0 rfl rfl 0 (by decide) (ha _ q350) (fun _ h9 => h9) rfl dX2_takeDigits_9 ?_
  refine lv_imul hx hb dX2_takeDigits_12 ?_
  refine lv_icmp_ne (tgt := 24) hx hb dX2_takeDigits_13 (by decide) (fun c1 => ?_) (fun c1 => ?_)
  · have h := br_neg c1 h
    refine lv_iconst (v := 0) hx hb dX2_takeDigits_24 (by decide) ?_
    cases h
    exact rt_z S hr hlk hP hD hS (by decide) dX2_takeDigits_25
  · have h := br_pos c1 h
    refine lv_aload_n hx hb dX2_takeDigits_16 rfl (lv_at hl 0 rfl) ?_
    refine lv_aload_n hx hb dX2_takeDigits_17 rfl (lv_at hl 1 rfl) ?_
    obtain ⟨r_c18_1, t_keys_c18_1, e_c18_1, h⟩ := bnd2_ok h
    have hP : va_P D vwCl ((h_t, .inr (2, [.int t_parts, .int t_p, .int t_q, .int t_norm, .long t_sideY, .long t_sideZ, z_t_6, .int t_size, .ref h_t_digitY, .ref h_t_digitZ, .ref h_t_keys, .ref h_t_digitOfKey, z_t_12, z_t_13])) :: (h_t_keys, .inl (k_t_keys, 25, .inl t_keys)) :: (h_p1, .inr (7, [.ref h_p1_bytes, .int p1_size])) :: (h_p1_bytes, .inl (k_p1_bytes, 200, .inl p1_bytes)) :: (h_t_digitY, .inl (k_t_digitY, 25, .inl t_digitY)) :: (h_t_digitZ, .inl (k_t_digitZ, 25, .inl t_digitZ)) :: (h_t_digitOfKey, .inl (k_t_digitOfKey, 625, .inl t_digitOfKey)) :: R) _ := pm_P [0, 3, 5, 6, 1, 2, 4] 7 hP
    have hD : va_D A ((h_t, .inr (2, [.int t_parts, .int t_p, .int t_q, .int t_norm, .long t_sideY, .long t_sideZ, z_t_6, .int t_size, .ref h_t_digitY, .ref h_t_digitZ, .ref h_t_keys, .ref h_t_digitOfKey, z_t_12, z_t_13])) :: (h_t_keys, .inl (k_t_keys, 25, .inl t_keys)) :: (h_p1, .inr (7, [.ref h_p1_bytes, .int p1_size])) :: (h_p1_bytes, .inl (k_p1_bytes, 200, .inl p1_bytes)) :: (h_t_digitY, .inl (k_t_digitY, 25, .inl t_digitY)) :: (h_t_digitZ, .inl (k_t_digitZ, 25, .inl t_digitZ)) :: (h_t_digitOfKey, .inl (k_t_digitOfKey, 625, .inl t_digitOfKey)) :: R) := pm_D (X := [(h_t, .inr (2, [.int t_parts, .int t_p, .int t_q, .int t_norm, .long t_sideY, .long t_sideZ, z_t_6, .int t_size, .ref h_t_digitY, .ref h_t_digitZ, .ref h_t_keys, .ref h_t_digitOfKey, z_t_12, z_t_13])), (h_t_keys, .inl (k_t_keys, 25, .inl t_keys)), (h_p1, .inr (7, [.ref h_p1_bytes, .int p1_size])), (h_p1_bytes, .inl (k_p1_bytes, 200, .inl p1_bytes)), (h_t_digitY, .inl (k_t_digitY, 25, .inl t_digitY)), (h_t_digitZ, .inl (k_t_digitZ, 25, .inl t_digitZ)), (h_t_digitOfKey, .inl (k_t_digitOfKey, 625, .inl t_digitOfKey))]) [0, 3, 5, 6, 1, 2, 4] 7 (by decide) (by decide) rfl hD
    refine cl_z (rn_v (ci := 2) (As := [.ref h_p1]) (rest := []) S (c_X2_fillKeys l D ((h_t_digitY, .inl (k_t_digitY, 25, .inl t_digitY)) :: (h_t_digitZ, .inl (k_t_digitZ, 25, .inl t_digitZ)) :: (h_t_digitOfKey, .inl (k_t_digitOfKey, 625, .inl t_digitOfKey)) :: R) h_t t_parts t_p t_q t_norm t_sideY t_sideZ (z_t_6) (.int t_size) (.ref h_t_digitY) (.ref h_t_digitZ) (.ref h_t_digitOfKey) (z_t_12) (z_t_13) h_t_keys k_t_keys t_keys h_p1 p1_size h_p1_bytes k_p1_bytes p1_bytes r_c18_1 t_keys_c18_1 e_c18_1 _) q748 q750 q18 q57 q751 nd_X2_fillKeys ⟨Nat.le_of_ble_eq_true rfl, Nat.le_of_ble_eq_true rfl⟩ rfl rfl hP hD (hK.sub (tys' := [(k_t_keys, .int), (k_p1_bytes, .byte)]) [2, 4] rfl) hN rfl ⟨0, _, rfl⟩ rfl hl.1 rfl (Nat.le_of_ble_eq_true rfl) dX2_takeDigits_18 ⟨Nat.le_of_ble_eq_true rfl, Nat.le_of_ble_eq_true rfl⟩) hS hA hD (fun H locs hP hD hS z_c18_1 => ?_)
    have hP : va_P D vwCl ((h_t, .inr (2, [.int t_parts, .int t_p, .int t_q, .int t_norm, .long t_sideY, .long t_sideZ, z_t_6, .int t_size, .ref h_t_digitY, .ref h_t_digitZ, .ref h_t_keys, .ref h_t_digitOfKey, z_t_12, z_t_13])) :: (h_t_digitY, .inl (k_t_digitY, 25, .inl t_digitY)) :: (h_t_digitZ, .inl (k_t_digitZ, 25, .inl t_digitZ)) :: (h_t_keys, .inl (k_t_keys, 25, .inl t_keys_c18_1)) :: (h_t_digitOfKey, .inl (k_t_digitOfKey, 625, .inl t_digitOfKey)) :: (h_p1, .inr (7, [.ref h_p1_bytes, .int p1_size])) :: (h_p1_bytes, .inl (k_p1_bytes, 200, .inl p1_bytes)) :: R) H := pm_P [0, 4, 5, 1, 6, 2, 3] 7 hP
    have hD : va_D A ((h_t, .inr (2, [.int t_parts, .int t_p, .int t_q, .int t_norm, .long t_sideY, .long t_sideZ, z_t_6, .int t_size, .ref h_t_digitY, .ref h_t_digitZ, .ref h_t_keys, .ref h_t_digitOfKey, z_t_12, z_t_13])) :: (h_t_digitY, .inl (k_t_digitY, 25, .inl t_digitY)) :: (h_t_digitZ, .inl (k_t_digitZ, 25, .inl t_digitZ)) :: (h_t_keys, .inl (k_t_keys, 25, .inl t_keys_c18_1)) :: (h_t_digitOfKey, .inl (k_t_digitOfKey, 625, .inl t_digitOfKey)) :: (h_p1, .inr (7, [.ref h_p1_bytes, .int p1_size])) :: (h_p1_bytes, .inl (k_p1_bytes, 200, .inl p1_bytes)) :: R) := pm_D (X := [(h_t, .inr (2, [.int t_parts, .int t_p, .int t_q, .int t_norm, .long t_sideY, .long t_sideZ, z_t_6, .int t_size, .ref h_t_digitY, .ref h_t_digitZ, .ref h_t_keys, .ref h_t_digitOfKey, z_t_12, z_t_13])), (h_t_digitY, .inl (k_t_digitY, 25, .inl t_digitY)), (h_t_digitZ, .inl (k_t_digitZ, 25, .inl t_digitZ)), (h_t_keys, .inl (k_t_keys, 25, .inl t_keys_c18_1)), (h_t_digitOfKey, .inl (k_t_digitOfKey, 625, .inl t_digitOfKey)), (h_p1, .inr (7, [.ref h_p1_bytes, .int p1_size])), (h_p1_bytes, .inl (k_p1_bytes, 200, .inl p1_bytes))]) [0, 4, 5, 1, 6, 2, 3] 7 (by decide) (by decide) rfl hD
    refine lv_if_ne (tgt := 26) hx hb dX2_takeDigits_21 (by decide) (fun c3 => ?_) (fun c3 => ?_)
    · have h := br_neg c3 h
      refine lv_iconst (v := 0) hx hb dX2_takeDigits_26 (by decide) ?_
      refine lv_istore_n (lv' := [(2, .int 0), (0, .ref h_t), (1, .ref h_p1)]) hx hb dX2_takeDigits_27 rfl hl (by decide) rfl (fun ls hl => ?_)
      obtain ⟨x_t_digitY_L28_9, x_t_digitZ_L28_9, e_L28_9, h⟩ := bnd2_ok h
      refine L28 _ _ 0 t_size t_digitY t_digitZ t_keys_c18_1 t_digitOfKey x_t_digitY_L28_9 x_t_digitZ_L28_9 e_L28_9 _ _ _ hP hD hS (lv_sub hl [1, 2, 0] rfl) ?_
      intro H locs ls hP hD hS hl
      refine lv_aload_n hx hb dX2_takeDigits_76 rfl (lv_at hl 0 rfl) ?_
      obtain ⟨t_size_c77_10, t_digitOfKey_c77_10, e_c77_10, h⟩ := bnd2_ok h
      have hP : va_P D vwCl ((h_t, .inr (2, [.int t_parts, .int t_p, .int t_q, .int t_norm, .long t_sideY, .long t_sideZ, z_t_6, .int t_size, .ref h_t_digitY, .ref h_t_digitZ, .ref h_t_keys, .ref h_t_digitOfKey, z_t_12, z_t_13])) :: (h_t_keys, .inl (k_t_keys, 25, .inl t_keys_c18_1)) :: (h_t_digitOfKey, .inl (k_t_digitOfKey, 625, .inl t_digitOfKey)) :: (h_t_digitY, .inl (k_t_digitY, 25, .inl x_t_digitY_L28_9)) :: (h_t_digitZ, .inl (k_t_digitZ, 25, .inl x_t_digitZ_L28_9)) :: (h_p1, .inr (7, [.ref h_p1_bytes, .int p1_size])) :: (h_p1_bytes, .inl (k_p1_bytes, 200, .inl p1_bytes)) :: R) _ := pm_P [0, 3, 4, 1, 2, 5, 6] 7 hP
      have hD : va_D A ((h_t, .inr (2, [.int t_parts, .int t_p, .int t_q, .int t_norm, .long t_sideY, .long t_sideZ, z_t_6, .int t_size, .ref h_t_digitY, .ref h_t_digitZ, .ref h_t_keys, .ref h_t_digitOfKey, z_t_12, z_t_13])) :: (h_t_keys, .inl (k_t_keys, 25, .inl t_keys_c18_1)) :: (h_t_digitOfKey, .inl (k_t_digitOfKey, 625, .inl t_digitOfKey)) :: (h_t_digitY, .inl (k_t_digitY, 25, .inl x_t_digitY_L28_9)) :: (h_t_digitZ, .inl (k_t_digitZ, 25, .inl x_t_digitZ_L28_9)) :: (h_p1, .inr (7, [.ref h_p1_bytes, .int p1_size])) :: (h_p1_bytes, .inl (k_p1_bytes, 200, .inl p1_bytes)) :: R) := pm_D (X := [(h_t, .inr (2, [.int t_parts, .int t_p, .int t_q, .int t_norm, .long t_sideY, .long t_sideZ, z_t_6, .int t_size, .ref h_t_digitY, .ref h_t_digitZ, .ref h_t_keys, .ref h_t_digitOfKey, z_t_12, z_t_13])), (h_t_keys, .inl (k_t_keys, 25, .inl t_keys_c18_1)), (h_t_digitOfKey, .inl (k_t_digitOfKey, 625, .inl t_digitOfKey)), (h_t_digitY, .inl (k_t_digitY, 25, .inl x_t_digitY_L28_9)), (h_t_digitZ, .inl (k_t_digitZ, 25, .inl x_t_digitZ_L28_9)), (h_p1, .inr (7, [.ref h_p1_bytes, .int p1_size])), (h_p1_bytes, .inl (k_p1_bytes, 200, .inl p1_bytes))]) [0, 3, 4, 1, 2, 5, 6] 7 (by decide) (by decide) rfl hD
      refine cl_v (rn_v (ci := 2) (As := []) (rest := []) S (c_X2_keepDigits l D ((h_t_digitY, .inl (k_t_digitY, 25, .inl x_t_digitY_L28_9)) :: (h_t_digitZ, .inl (k_t_digitZ, 25, .inl x_t_digitZ_L28_9)) :: (h_p1, .inr (7, [.ref h_p1_bytes, .int p1_size])) :: (h_p1_bytes, .inl (k_p1_bytes, 200, .inl p1_bytes)) :: R) h_t (.int t_parts) (.int t_p) (.int t_q) t_norm (.long t_sideY) (.long t_sideZ) (z_t_6) t_size (.ref h_t_digitY) (.ref h_t_digitZ) (z_t_12) (z_t_13) h_t_keys k_t_keys t_keys_c18_1 h_t_digitOfKey k_t_digitOfKey t_digitOfKey t_size_c77_10 t_digitOfKey_c77_10 e_c77_10 _) q346 q348 q6 q57 q349 nd_X2_keepDigits ⟨Nat.le_of_ble_eq_true rfl, Nat.le_of_ble_eq_true rfl⟩ rfl rfl hP hD (hK.sub (tys' := [(k_t_keys, .int), (k_t_digitOfKey, .int)]) [2, 3] rfl) hN rfl ⟨0, _, rfl⟩ rfl hl.1 rfl (Nat.le_of_ble_eq_true rfl) dX2_takeDigits_77 ⟨Nat.le_of_ble_eq_true rfl, Nat.le_of_ble_eq_true rfl⟩) hS hA hD (fun H locs hP hD hS => ?_)
      have hP : va_P D vwCl ((h_t, .inr (2, [.int t_parts, .int t_p, .int t_q, .int t_norm, .long t_sideY, .long t_sideZ, z_t_6, .int t_size_c77_10, .ref h_t_digitY, .ref h_t_digitZ, .ref h_t_keys, .ref h_t_digitOfKey, z_t_12, z_t_13])) :: (h_t_digitY, .inl (k_t_digitY, 25, .inl x_t_digitY_L28_9)) :: (h_t_digitZ, .inl (k_t_digitZ, 25, .inl x_t_digitZ_L28_9)) :: (h_t_keys, .inl (k_t_keys, 25, .inl t_keys_c18_1)) :: (h_t_digitOfKey, .inl (k_t_digitOfKey, 625, .inl t_digitOfKey_c77_10)) :: (h_p1, .inr (7, [.ref h_p1_bytes, .int p1_size])) :: (h_p1_bytes, .inl (k_p1_bytes, 200, .inl p1_bytes)) :: R) H := pm_P [0, 3, 4, 1, 2, 5, 6] 7 hP
      have hD : va_D A ((h_t, .inr (2, [.int t_parts, .int t_p, .int t_q, .int t_norm, .long t_sideY, .long t_sideZ, z_t_6, .int t_size_c77_10, .ref h_t_digitY, .ref h_t_digitZ, .ref h_t_keys, .ref h_t_digitOfKey, z_t_12, z_t_13])) :: (h_t_digitY, .inl (k_t_digitY, 25, .inl x_t_digitY_L28_9)) :: (h_t_digitZ, .inl (k_t_digitZ, 25, .inl x_t_digitZ_L28_9)) :: (h_t_keys, .inl (k_t_keys, 25, .inl t_keys_c18_1)) :: (h_t_digitOfKey, .inl (k_t_digitOfKey, 625, .inl t_digitOfKey_c77_10)) :: (h_p1, .inr (7, [.ref h_p1_bytes, .int p1_size])) :: (h_p1_bytes, .inl (k_p1_bytes, 200, .inl p1_bytes)) :: R) := pm_D (X := [(h_t, .inr (2, [.int t_parts, .int t_p, .int t_q, .int t_norm, .long t_sideY, .long t_sideZ, z_t_6, .int t_size_c77_10, .ref h_t_digitY, .ref h_t_digitZ, .ref h_t_keys, .ref h_t_digitOfKey, z_t_12, z_t_13])), (h_t_digitY, .inl (k_t_digitY, 25, .inl x_t_digitY_L28_9)), (h_t_digitZ, .inl (k_t_digitZ, 25, .inl x_t_digitZ_L28_9)), (h_t_keys, .inl (k_t_keys, 25, .inl t_keys_c18_1)), (h_t_digitOfKey, .inl (k_t_digitOfKey, 625, .inl t_digitOfKey_c77_10)), (h_p1, .inr (7, [.ref h_p1_bytes, .int p1_size])), (h_p1_bytes, .inl (k_p1_bytes, 200, .inl p1_bytes))]) [0, 3, 4, 1, 2, 5, 6] 7 (by decide) (by decide) rfl hD
      refine lv_iconst (v := 1) hx hb dX2_takeDigits_80 (by decide) ?_
      cases h
      exact rt_z S hr hlk hP hD hS (by decide) dX2_takeDigits_81
    · have h := br_pos c3 h
      refine lv_iconst (v := 0) hx hb dX2_takeDigits_24 (by decide) ?_
      cases h
      exact rt_z S hr hlk hP hD hS (by decide) dX2_takeDigits_25
noncomputable def f_X2_step (t_p : Int32) (t_q : Int32) (t_norm : Int32) (t_sideY : Int64) (t_sideZ : Int64) (t_divisor : Int64) (t_nextY : Int64) (t_nextZ : Int64) (t_digitY : Nat → Int32) (t_digitZ : Nat → Int32) (t_digitOfKey : Nat → Int32) (l1 : Int64) (l3 : Int64) : Option (Int32 × Int64 × Int64) :=
  bnd1 (f_X2_keyOf t_p t_q t_norm t_sideY t_sideZ l1 l3) fun r_c3_0 => (
   if r_c3_0 < 0 then (
    if t_divisor = 0 then (
     some (0, t_nextY, t_nextZ)
    ) else (
     gd (ixb 0 25) (
      gd (ixb 0 25) (
       bnd1 (f_X2_timesSideY t_q t_sideY t_sideZ (l1 - (t_digitY (0 : Int32).toNatClampNeg).toInt64) (l3 - (t_digitZ (0 : Int32).toNatClampNeg).toInt64)) fun r_c87_7 => (
        gd (nzL t_divisor) (
         bnd1 (f_X2_timesSideZ t_p t_sideY t_sideZ (l1 - (t_digitY (0 : Int32).toNatClampNeg).toInt64) (l3 - (t_digitZ (0 : Int32).toNatClampNeg).toInt64)) fun r_c104_9 => (
          gd (nzL t_divisor) (
           some (0, (r_c87_7 / t_divisor), (r_c104_9 / t_divisor))
          )
         )
        )
       )
      )
     )
    )
   ) else (
    if 625 ≤ r_c3_0 then (
     if t_divisor = 0 then (
      some (0, t_nextY, t_nextZ)
     ) else (
      gd (ixb 0 25) (
       gd (ixb 0 25) (
        bnd1 (f_X2_timesSideY t_q t_sideY t_sideZ (l1 - (t_digitY (0 : Int32).toNatClampNeg).toInt64) (l3 - (t_digitZ (0 : Int32).toNatClampNeg).toInt64)) fun r_c87_17 => (
         gd (nzL t_divisor) (
          bnd1 (f_X2_timesSideZ t_p t_sideY t_sideZ (l1 - (t_digitY (0 : Int32).toNatClampNeg).toInt64) (l3 - (t_digitZ (0 : Int32).toNatClampNeg).toInt64)) fun r_c104_19 => (
           gd (nzL t_divisor) (
            some (0, (r_c87_17 / t_divisor), (r_c104_19 / t_divisor))
           )
          )
         )
        )
       )
      )
     )
    ) else (
     gd (ixb r_c3_0 625) (
      if (t_digitOfKey r_c3_0.toNatClampNeg) < 0 then (
       some ((t_digitOfKey r_c3_0.toNatClampNeg), t_nextY, t_nextZ)
      ) else (
       if 25 ≤ (t_digitOfKey r_c3_0.toNatClampNeg) then (
        some ((t_digitOfKey r_c3_0.toNatClampNeg), t_nextY, t_nextZ)
       ) else (
        if t_divisor = 0 then (
         some ((t_digitOfKey r_c3_0.toNatClampNeg), t_nextY, t_nextZ)
        ) else (
         gd (ixb (t_digitOfKey r_c3_0.toNatClampNeg) 25) (
          gd (ixb (t_digitOfKey r_c3_0.toNatClampNeg) 25) (
           bnd1 (f_X2_timesSideY t_q t_sideY t_sideZ (l1 - (t_digitY (t_digitOfKey r_c3_0.toNatClampNeg).toNatClampNeg).toInt64) (l3 - (t_digitZ (t_digitOfKey r_c3_0.toNatClampNeg).toNatClampNeg).toInt64)) fun r_c87_27 => (
            gd (nzL t_divisor) (
             bnd1 (f_X2_timesSideZ t_p t_sideY t_sideZ (l1 - (t_digitY (t_digitOfKey r_c3_0.toNatClampNeg).toNatClampNeg).toInt64) (l3 - (t_digitZ (t_digitOfKey r_c3_0.toNatClampNeg).toNatClampNeg).toInt64)) fun r_c104_29 => (
              gd (nzL t_divisor) (
               some ((t_digitOfKey r_c3_0.toNatClampNeg), (r_c87_27 / t_divisor), (r_c104_29 / t_divisor))
              )
             )
            )
           )
          )
         )
        )
       )
      )
     )
    )
   )
  )
set_option maxHeartbeats 4000000 in
set_option maxRecDepth 100000 in
theorem c_X2_step (l : Launch) (D : va_G) (R : va_W) (h_t : Nat) (z_t_0 : Value) (t_p : Int32) (t_q : Int32) (t_norm : Int32) (t_sideY : Int64) (t_sideZ : Int64) (t_divisor : Int64) (z_t_7 : Value) (z_t_10 : Value) (t_nextY : Int64) (t_nextZ : Int64) (h_t_digitY : Nat) (k_t_digitY : ClassId) (t_digitY : Nat → Int32) (h_t_digitZ : Nat) (k_t_digitZ : ClassId) (t_digitZ : Nat → Int32) (h_t_digitOfKey : Nat) (k_t_digitOfKey : ClassId) (t_digitOfKey : Nat → Int32) (l1 : Int64) (l3 : Int64) (r : Int32) (o_t_nextY : Int64) (o_t_nextZ : Int64)  (h : f_X2_step t_p t_q t_norm t_sideY t_sideZ t_divisor t_nextY t_nextZ t_digitY t_digitZ t_digitOfKey l1 l3 = some (r, o_t_nextY, o_t_nextZ)) (sz : Nat) : Met l yX2_step (WD yX2_step cX2_step 11 (some .int)) ({ frames := 2, cells := 0, slots := 0, locals := 53 }) (va_Pc [.ref h_t, .long l1, .long l3] (PcW D [(k_t_digitY, .int), (k_t_digitZ, .int), (k_t_digitOfKey, .int)] ((h_t, .inr (2, [z_t_0, .int t_p, .int t_q, .int t_norm, .long t_sideY, .long t_sideZ, .long t_divisor, z_t_7, .ref h_t_digitY, .ref h_t_digitZ, z_t_10, .ref h_t_digitOfKey, .long t_nextY, .long t_nextZ])) :: (h_t_digitY, .inl (k_t_digitY, 25, .inl t_digitY)) :: (h_t_digitZ, .inl (k_t_digitZ, 25, .inl t_digitZ)) :: (h_t_digitOfKey, .inl (k_t_digitOfKey, 625, .inl t_digitOfKey)) :: R) sz)) (QI D r ((h_t, .inr (2, [z_t_0, .int t_p, .int t_q, .int t_norm, .long t_sideY, .long t_sideZ, .long t_divisor, z_t_7, .ref h_t_digitY, .ref h_t_digitZ, z_t_10, .ref h_t_digitOfKey, .long o_t_nextY, .long o_t_nextZ])) :: (h_t_digitY, .inl (k_t_digitY, 25, .inl t_digitY)) :: (h_t_digitZ, .inl (k_t_digitZ, 25, .inl t_digitZ)) :: (h_t_digitOfKey, .inl (k_t_digitOfKey, 625, .inl t_digitOfKey)) :: R) (va_A ((h_t, .inr (2, [z_t_0, .int t_p, .int t_q, .int t_norm, .long t_sideY, .long t_sideZ, .long t_divisor, z_t_7, .ref h_t_digitY, .ref h_t_digitZ, z_t_10, .ref h_t_digitOfKey, .long t_nextY, .long t_nextZ])) :: (h_t_digitY, .inl (k_t_digitY, 25, .inl t_digitY)) :: (h_t_digitZ, .inl (k_t_digitZ, 25, .inl t_digitZ)) :: (h_t_digitOfKey, .inl (k_t_digitOfKey, 625, .inl t_digitOfKey)) :: R) sz)) 0 0 (va_A ((h_t, .inr (2, [z_t_0, .int t_p, .int t_q, .int t_norm, .long t_sideY, .long t_sideZ, .long t_divisor, z_t_7, .ref h_t_digitY, .ref h_t_digitZ, z_t_10, .ref h_t_digitOfKey, .long t_nextY, .long t_nextZ])) :: (h_t_digitY, .inl (k_t_digitY, 25, .inl t_digitY)) :: (h_t_digitZ, .inl (k_t_digitZ, 25, .inl t_digitZ)) :: (h_t_digitOfKey, .inl (k_t_digitOfKey, 625, .inl t_digitOfKey)) :: R) sz) := by
  refine ct_start (QF := fun A => QI D r ((h_t, .inr (2, [z_t_0, .int t_p, .int t_q, .int t_norm, .long t_sideY, .long t_sideZ, .long t_divisor, z_t_7, .ref h_t_digitY, .ref h_t_digitZ, z_t_10, .ref h_t_digitOfKey, .long o_t_nextY, .long o_t_nextZ])) :: (h_t_digitY, .inl (k_t_digitY, 25, .inl t_digitY)) :: (h_t_digitZ, .inl (k_t_digitZ, 25, .inl t_digitZ)) :: (h_t_digitOfKey, .inl (k_t_digitOfKey, 625, .inl t_digitOfKey)) :: R) A) ?_ ?_ ?_
  · decide +kernel
  · exact Nat.le_of_ble_eq_true rfl
  intro p e s m args below meth c A ls S hr hlk hnm hS hA hP hD hK hN hl
  have S : CallFix p m c cX2_step 11 s args AL "DigitBench$Ring" := S
  have hx := S.1
  have hb := S.2.1
  have hown := S.2.2.2.1
  have ha := S.2.2.2.2
  have hl : lv_has ls 11 [(0, .ref h_t), (1, .long l1), (3, .long l3)] := hl
  unfold f_X2_step at h
  refine lv_aload_n hx hb dX2_step_0 rfl (lv_at hl 0 rfl) ?_
  refine lv_lload_n hx hb dX2_step_1 rfl (lv_at hl 1 rfl) ?_
  refine lv_lload_n hx hb dX2_step_2 rfl (lv_at hl 2 rfl) ?_
  obtain ⟨r_c3_0, e_c3_0, h⟩ := bnd1_ok h
  refine cl_i (rn_v (ci := 2) (As := [.long l1, .long l3]) (rest := []) S (c_X2_keyOf l D ((h_t_digitY, .inl (k_t_digitY, 25, .inl t_digitY)) :: (h_t_digitZ, .inl (k_t_digitZ, 25, .inl t_digitZ)) :: (h_t_digitOfKey, .inl (k_t_digitOfKey, 625, .inl t_digitOfKey)) :: R) h_t (z_t_0) t_p t_q t_norm t_sideY t_sideZ (.long t_divisor) (z_t_7) (.ref h_t_digitY) (.ref h_t_digitZ) (z_t_10) (.ref h_t_digitOfKey) (.long t_nextY) (.long t_nextZ) l1 l3 r_c3_0 e_c3_0 _) q331 q333 q3 q57 q334 nd_X2_keyOf ⟨Nat.le_of_ble_eq_true rfl, Nat.le_of_ble_eq_true rfl⟩ rfl rfl hP hD (hK.sub (tys' := []) [] rfl) hN rfl ⟨0, _, rfl⟩ rfl hl.1 rfl (Nat.le_of_ble_eq_true rfl) dX2_step_3 ⟨Nat.le_of_ble_eq_true rfl, Nat.le_of_ble_eq_true rfl⟩) hS hA hD (fun H locs hP hD hS => ?_)
  have hP : va_P D vwCl ((h_t, .inr (2, [z_t_0, .int t_p, .int t_q, .int t_norm, .long t_sideY, .long t_sideZ, .long t_divisor, z_t_7, .ref h_t_digitY, .ref h_t_digitZ, z_t_10, .ref h_t_digitOfKey, .long t_nextY, .long t_nextZ])) :: (h_t_digitY, .inl (k_t_digitY, 25, .inl t_digitY)) :: (h_t_digitZ, .inl (k_t_digitZ, 25, .inl t_digitZ)) :: (h_t_digitOfKey, .inl (k_t_digitOfKey, 625, .inl t_digitOfKey)) :: R) H := hP
  have hD : va_D A ((h_t, .inr (2, [z_t_0, .int t_p, .int t_q, .int t_norm, .long t_sideY, .long t_sideZ, .long t_divisor, z_t_7, .ref h_t_digitY, .ref h_t_digitZ, z_t_10, .ref h_t_digitOfKey, .long t_nextY, .long t_nextZ])) :: (h_t_digitY, .inl (k_t_digitY, 25, .inl t_digitY)) :: (h_t_digitZ, .inl (k_t_digitZ, 25, .inl t_digitZ)) :: (h_t_digitOfKey, .inl (k_t_digitOfKey, 625, .inl t_digitOfKey)) :: R) := hD
  refine lv_istore (lv' := [(5, .int r_c3_0), (0, .ref h_t), (1, .long l1), (3, .long l3)]) hx hb dX2_step_6 hl (by decide) rfl (fun ls hl => ?_)
  refine lv_iload hx hb dX2_step_8 (lv_at hl 0 rfl) ?_
  refine lv_if_lt (tgt := 33) hx hb dX2_step_10 (by decide) (fun c2 => ?_) (fun c2 => ?_)
  · have h := br_pos c2 h
    refine lv_iconst (v := 0) hx hb dX2_step_33 (by decide) ?_
    refine lv_istore (lv' := [(6, .int 0), (5, .int r_c3_0), (0, .ref h_t), (1, .long l1), (3, .long l3)]) hx hb dX2_step_34 hl (by decide) rfl (fun ls hl => ?_)
    refine lv_iload hx hb dX2_step_36 (lv_at hl 0 rfl) ?_
    refine lv_if_lt (tgt := 115) hx hb dX2_step_38 (by decide) (fun c3 => ?_) (fun c3 => ?_)
    · exact absurd c3 (by decide)
    · refine lv_iload hx hb dX2_step_41 (lv_at hl 0 rfl) ?_
      refine lv_bipush (v := 25) hx hb dX2_step_43 (by decide) ?_
      refine lv_icmp_ge (tgt := 115) hx hb dX2_step_45 (by decide) (fun c4 => ?_) (fun c4 => ?_)
      · exact absurd c4 (by decide)
      · refine lv_aload_n hx hb dX2_step_48 rfl (lv_at hl 2 rfl) ?_
        refine va_get (D := D) (ci := 2) (v := .long t_divisor) (C := RX2) (T := TX2) (N := 14) hx hb ha ix2 hown hK hP 0 rfl rfl 6 (by decide) (ha _ q358) (fun _ h9 => h9) rfl dX2_step_49 ?_
        refine lv_lconst (v := 0) hx hb dX2_step_52 (by decide) ?_
        refine xl_eq (tgt := 115) hx hb dX2_step_53 dX2_step_54 (by decide) (fun c5 => ?_) (fun c5 => ?_)
        · have h := br_pos c5 h
          refine lv_iload hx hb dX2_step_115 (lv_at hl 0 rfl) ?_
          cases h
          exact rt_i S hr hlk hP hD hS dX2_step_117
        · have h := br_neg c5 h
          refine lv_lload_n hx hb dX2_step_57 rfl (lv_at hl 3 rfl) ?_
          refine lv_aload_n hx hb dX2_step_58 rfl (lv_at hl 2 rfl) ?_
          refine va_get (D := D) (ci := 2) (v := .ref h_t_digitY) (C := RX2) (T := TX2) (N := 14) hx hb ha ix2 hown hK hP 0 rfl rfl 8 (by decide) (ha _ q361) (fun _ h9 => h9) rfl dX2_step_59 ?_
          refine lv_iload hx hb dX2_step_62 (lv_at hl 0 rfl) ?_
          obtain ⟨i6, h⟩ := ix_ok h
          refine va_iald hx hb hK hP 1 0 rfl rfl i6 dX2_step_64 ?_
          refine lv_i2l (v := (t_digitY (0 : Int32).toNatClampNeg).toInt64) hx hb dX2_step_65 rfl ?_
          refine lv_lsub hx hb dX2_step_66 ?_
          refine lv_lstore (lv' := [(7, .long (l1 - (t_digitY (0 : Int32).toNatClampNeg).toInt64)), (6, .int 0), (5, .int r_c3_0), (0, .ref h_t), (1, .long l1), (3, .long l3)]) hx hb dX2_step_67 hl (by decide) rfl (fun ls hl => ?_)
          refine lv_lload_n hx hb dX2_step_69 rfl (lv_at hl 5 rfl) ?_
          refine lv_aload_n hx hb dX2_step_70 rfl (lv_at hl 3 rfl) ?_
          refine va_get (D := D) (ci := 2) (v := .ref h_t_digitZ) (C := RX2) (T := TX2) (N := 14) hx hb ha ix2 hown hK hP 0 rfl rfl 9 (by decide) (ha _ q362) (fun _ h9 => h9) rfl dX2_step_71 ?_
          refine lv_iload hx hb dX2_step_74 (lv_at hl 1 rfl) ?_
          obtain ⟨i7, h⟩ := ix_ok h
          refine va_iald hx hb hK hP 2 1 rfl rfl i7 dX2_step_76 ?_
          refine lv_i2l (v := (t_digitZ (0 : Int32).toNatClampNeg).toInt64) hx hb dX2_step_77 rfl ?_
          refine lv_lsub hx hb dX2_step_78 ?_
          refine lv_lstore (lv' := [(9, .long (l3 - (t_digitZ (0 : Int32).toNatClampNeg).toInt64)), (7, .long (l1 - (t_digitY (0 : Int32).toNatClampNeg).toInt64)), (6, .int 0), (5, .int r_c3_0), (0, .ref h_t), (1, .long l1), (3, .long l3)]) hx hb dX2_step_79 hl (by decide) rfl (fun ls hl => ?_)
          refine lv_aload_n hx hb dX2_step_81 rfl (lv_at hl 4 rfl) ?_
          refine lv_aload_n hx hb dX2_step_82 rfl (lv_at hl 4 rfl) ?_
          refine lv_lload hx hb dX2_step_83 (lv_at hl 1 rfl) ?_
          refine lv_lload hx hb dX2_step_85 (lv_at hl 0 rfl) ?_
          obtain ⟨r_c87_7, e_c87_7, h⟩ := bnd1_ok h
          refine cl_l (rn_v (ci := 2) (As := [.long (l1 - (t_digitY (0 : Int32).toNatClampNeg).toInt64), .long (l3 - (t_digitZ (0 : Int32).toNatClampNeg).toInt64)]) (rest := [.ref h_t]) S (c_X2_timesSideY l D ((h_t_digitY, .inl (k_t_digitY, 25, .inl t_digitY)) :: (h_t_digitZ, .inl (k_t_digitZ, 25, .inl t_digitZ)) :: (h_t_digitOfKey, .inl (k_t_digitOfKey, 625, .inl t_digitOfKey)) :: R) h_t (z_t_0) (.int t_p) t_q (.int t_norm) t_sideY t_sideZ (.long t_divisor) (z_t_7) (.ref h_t_digitY) (.ref h_t_digitZ) (z_t_10) (.ref h_t_digitOfKey) (.long t_nextY) (.long t_nextZ) (l1 - (t_digitY (0 : Int32).toNatClampNeg).toInt64) (l3 - (t_digitZ (0 : Int32).toNatClampNeg).toInt64) r_c87_7 e_c87_7 _) q335 q337 q4 q57 q338 nd_X2_timesSideY ⟨Nat.le_of_ble_eq_true rfl, Nat.le_of_ble_eq_true rfl⟩ rfl rfl hP hD (hK.sub (tys' := []) [] rfl) hN rfl ⟨0, _, rfl⟩ rfl hl.1 rfl (Nat.le_of_ble_eq_true rfl) dX2_step_87 ⟨Nat.le_of_ble_eq_true rfl, Nat.le_of_ble_eq_true rfl⟩) hS hA hD (fun H locs hP hD hS => ?_)
          have hP : va_P D vwCl ((h_t, .inr (2, [z_t_0, .int t_p, .int t_q, .int t_norm, .long t_sideY, .long t_sideZ, .long t_divisor, z_t_7, .ref h_t_digitY, .ref h_t_digitZ, z_t_10, .ref h_t_digitOfKey, .long t_nextY, .long t_nextZ])) :: (h_t_digitY, .inl (k_t_digitY, 25, .inl t_digitY)) :: (h_t_digitZ, .inl (k_t_digitZ, 25, .inl t_digitZ)) :: (h_t_digitOfKey, .inl (k_t_digitOfKey, 625, .inl t_digitOfKey)) :: R) H := hP
          have hD : va_D A ((h_t, .inr (2, [z_t_0, .int t_p, .int t_q, .int t_norm, .long t_sideY, .long t_sideZ, .long t_divisor, z_t_7, .ref h_t_digitY, .ref h_t_digitZ, z_t_10, .ref h_t_digitOfKey, .long t_nextY, .long t_nextZ])) :: (h_t_digitY, .inl (k_t_digitY, 25, .inl t_digitY)) :: (h_t_digitZ, .inl (k_t_digitZ, 25, .inl t_digitZ)) :: (h_t_digitOfKey, .inl (k_t_digitOfKey, 625, .inl t_digitOfKey)) :: R) := hD
          refine lv_aload_n hx hb dX2_step_90 rfl (lv_at hl 4 rfl) ?_
          refine va_get (D := D) (ci := 2) (v := .long t_divisor) (C := RX2) (T := TX2) (N := 14) hx hb ha ix2 hown hK hP 0 rfl rfl 6 (by decide) (ha _ q358) (fun _ h9 => h9) rfl dX2_step_91 ?_
          obtain ⟨n9, h⟩ := nzL_ok h
          refine lv_ldiv hx hb dX2_step_94 n9 ?_
          refine va_put (D := D) (ci := 2) (v := .long (r_c87_7 / t_divisor)) (ty := .long) (C := RX2) (T := TX2) (N := 14) hx hb ha ix2 tyX2 tyX2_ok nmX2 hown hK hP hD hS 0 rfl rfl 12 (by decide) (ha _ q366) (fun _ h9 => h9) rfl (by decide +kernel) rfl rfl (Nat.le_of_ble_eq_true rfl) dX2_step_95 (fun H locs hP hD hS => ?_)
          have hP : va_P D vwCl ((h_t, .inr (2, [z_t_0, .int t_p, .int t_q, .int t_norm, .long t_sideY, .long t_sideZ, .long t_divisor, z_t_7, .ref h_t_digitY, .ref h_t_digitZ, z_t_10, .ref h_t_digitOfKey, .long (r_c87_7 / t_divisor), .long t_nextZ])) :: (h_t_digitY, .inl (k_t_digitY, 25, .inl t_digitY)) :: (h_t_digitZ, .inl (k_t_digitZ, 25, .inl t_digitZ)) :: (h_t_digitOfKey, .inl (k_t_digitOfKey, 625, .inl t_digitOfKey)) :: R) H := hP
          have hD : va_D A ((h_t, .inr (2, [z_t_0, .int t_p, .int t_q, .int t_norm, .long t_sideY, .long t_sideZ, .long t_divisor, z_t_7, .ref h_t_digitY, .ref h_t_digitZ, z_t_10, .ref h_t_digitOfKey, .long (r_c87_7 / t_divisor), .long t_nextZ])) :: (h_t_digitY, .inl (k_t_digitY, 25, .inl t_digitY)) :: (h_t_digitZ, .inl (k_t_digitZ, 25, .inl t_digitZ)) :: (h_t_digitOfKey, .inl (k_t_digitOfKey, 625, .inl t_digitOfKey)) :: R) := hD
          refine lv_aload_n hx hb dX2_step_98 rfl (lv_at hl 4 rfl) ?_
          refine lv_aload_n hx hb dX2_step_99 rfl (lv_at hl 4 rfl) ?_
          refine lv_lload hx hb dX2_step_100 (lv_at hl 1 rfl) ?_
          refine lv_lload hx hb dX2_step_102 (lv_at hl 0 rfl) ?_
          obtain ⟨r_c104_9, e_c104_9, h⟩ := bnd1_ok h
          refine cl_l (rn_v (ci := 2) (As := [.long (l1 - (t_digitY (0 : Int32).toNatClampNeg).toInt64), .long (l3 - (t_digitZ (0 : Int32).toNatClampNeg).toInt64)]) (rest := [.ref h_t]) S (c_X2_timesSideZ l D ((h_t_digitY, .inl (k_t_digitY, 25, .inl t_digitY)) :: (h_t_digitZ, .inl (k_t_digitZ, 25, .inl t_digitZ)) :: (h_t_digitOfKey, .inl (k_t_digitOfKey, 625, .inl t_digitOfKey)) :: R) h_t (z_t_0) t_p (.int t_q) (.int t_norm) t_sideY t_sideZ (.long t_divisor) (z_t_7) (.ref h_t_digitY) (.ref h_t_digitZ) (z_t_10) (.ref h_t_digitOfKey) (.long (r_c87_7 / t_divisor)) (.long t_nextZ) (l1 - (t_digitY (0 : Int32).toNatClampNeg).toInt64) (l3 - (t_digitZ (0 : Int32).toNatClampNeg).toInt64) r_c104_9 e_c104_9 _) q342 q344 q5 q57 q345 nd_X2_timesSideZ ⟨Nat.le_of_ble_eq_true rfl, Nat.le_of_ble_eq_true rfl⟩ rfl rfl hP hD (hK.sub (tys' := []) [] rfl) hN rfl ⟨0, _, rfl⟩ rfl hl.1 rfl (Nat.le_of_ble_eq_true rfl) dX2_step_104 ⟨Nat.le_of_ble_eq_true rfl, Nat.le_of_ble_eq_true rfl⟩) hS hA hD (fun H locs hP hD hS => ?_)
          have hP : va_P D vwCl ((h_t, .inr (2, [z_t_0, .int t_p, .int t_q, .int t_norm, .long t_sideY, .long t_sideZ, .long t_divisor, z_t_7, .ref h_t_digitY, .ref h_t_digitZ, z_t_10, .ref h_t_digitOfKey, .long (r_c87_7 / t_divisor), .long t_nextZ])) :: (h_t_digitY, .inl (k_t_digitY, 25, .inl t_digitY)) :: (h_t_digitZ, .inl (k_t_digitZ, 25, .inl t_digitZ)) :: (h_t_digitOfKey, .inl (k_t_digitOfKey, 625, .inl t_digitOfKey)) :: R) H := hP
          have hD : va_D A ((h_t, .inr (2, [z_t_0, .int t_p, .int t_q, .int t_norm, .long t_sideY, .long t_sideZ, .long t_divisor, z_t_7, .ref h_t_digitY, .ref h_t_digitZ, z_t_10, .ref h_t_digitOfKey, .long (r_c87_7 / t_divisor), .long t_nextZ])) :: (h_t_digitY, .inl (k_t_digitY, 25, .inl t_digitY)) :: (h_t_digitZ, .inl (k_t_digitZ, 25, .inl t_digitZ)) :: (h_t_digitOfKey, .inl (k_t_digitOfKey, 625, .inl t_digitOfKey)) :: R) := hD
          refine lv_aload_n hx hb dX2_step_107 rfl (lv_at hl 4 rfl) ?_
          refine va_get (D := D) (ci := 2) (v := .long t_divisor) (C := RX2) (T := TX2) (N := 14) hx hb ha ix2 hown hK hP 0 rfl rfl 6 (by decide) (ha _ q358) (fun _ h9 => h9) rfl dX2_step_108 ?_
          obtain ⟨n11, h⟩ := nzL_ok h
          refine lv_ldiv hx hb dX2_step_111 n11 ?_
          refine va_put (D := D) (ci := 2) (v := .long (r_c104_9 / t_divisor)) (ty := .long) (C := RX2) (T := TX2) (N := 14) hx hb ha ix2 tyX2 tyX2_ok nmX2 hown hK hP hD hS 0 rfl rfl 13 (by decide) (ha _ q368) (fun _ h9 => h9) rfl (by decide +kernel) rfl rfl (Nat.le_of_ble_eq_true rfl) dX2_step_112 (fun H locs hP hD hS => ?_)
          have hP : va_P D vwCl ((h_t, .inr (2, [z_t_0, .int t_p, .int t_q, .int t_norm, .long t_sideY, .long t_sideZ, .long t_divisor, z_t_7, .ref h_t_digitY, .ref h_t_digitZ, z_t_10, .ref h_t_digitOfKey, .long (r_c87_7 / t_divisor), .long (r_c104_9 / t_divisor)])) :: (h_t_digitY, .inl (k_t_digitY, 25, .inl t_digitY)) :: (h_t_digitZ, .inl (k_t_digitZ, 25, .inl t_digitZ)) :: (h_t_digitOfKey, .inl (k_t_digitOfKey, 625, .inl t_digitOfKey)) :: R) H := hP
          have hD : va_D A ((h_t, .inr (2, [z_t_0, .int t_p, .int t_q, .int t_norm, .long t_sideY, .long t_sideZ, .long t_divisor, z_t_7, .ref h_t_digitY, .ref h_t_digitZ, z_t_10, .ref h_t_digitOfKey, .long (r_c87_7 / t_divisor), .long (r_c104_9 / t_divisor)])) :: (h_t_digitY, .inl (k_t_digitY, 25, .inl t_digitY)) :: (h_t_digitZ, .inl (k_t_digitZ, 25, .inl t_digitZ)) :: (h_t_digitOfKey, .inl (k_t_digitOfKey, 625, .inl t_digitOfKey)) :: R) := hD
          refine lv_iload hx hb dX2_step_115 (lv_at hl 2 rfl) ?_
          cases h
          exact rt_i S hr hlk hP hD hS dX2_step_117
  · have h := br_neg c2 h
    refine lv_iload hx hb dX2_step_13 (lv_at hl 0 rfl) ?_
    refine lv_aload_n hx hb dX2_step_15 rfl (lv_at hl 1 rfl) ?_
    refine va_get (D := D) (ci := 2) (v := .ref h_t_digitOfKey) (C := RX2) (T := TX2) (N := 14) hx hb ha ix2 hown hK hP 0 rfl rfl 11 (by decide) (ha _ q364) (fun _ h9 => h9) rfl dX2_step_16 ?_
    refine va_alen (v := 625) hx hb hK hP 3 2 rfl rfl rfl dX2_step_19 ?_
    refine lv_icmp_ge (tgt := 33) hx hb dX2_step_20 (by decide) (fun c12 => ?_) (fun c12 => ?_)
    · have h := br_pos c12 h
      refine lv_iconst (v := 0) hx hb dX2_step_33 (by decide) ?_
      refine lv_istore (lv' := [(6, .int 0), (5, .int r_c3_0), (0, .ref h_t), (1, .long l1), (3, .long l3)]) hx hb dX2_step_34 hl (by decide) rfl (fun ls hl => ?_)
      refine lv_iload hx hb dX2_step_36 (lv_at hl 0 rfl) ?_
      refine lv_if_lt (tgt := 115) hx hb dX2_step_38 (by decide) (fun c13 => ?_) (fun c13 => ?_)
      · exact absurd c13 (by decide)
      · refine lv_iload hx hb dX2_step_41 (lv_at hl 0 rfl) ?_
        refine lv_bipush (v := 25) hx hb dX2_step_43 (by decide) ?_
        refine lv_icmp_ge (tgt := 115) hx hb dX2_step_45 (by decide) (fun c14 => ?_) (fun c14 => ?_)
        · exact absurd c14 (by decide)
        · refine lv_aload_n hx hb dX2_step_48 rfl (lv_at hl 2 rfl) ?_
          refine va_get (D := D) (ci := 2) (v := .long t_divisor) (C := RX2) (T := TX2) (N := 14) hx hb ha ix2 hown hK hP 0 rfl rfl 6 (by decide) (ha _ q358) (fun _ h9 => h9) rfl dX2_step_49 ?_
          refine lv_lconst (v := 0) hx hb dX2_step_52 (by decide) ?_
          refine xl_eq (tgt := 115) hx hb dX2_step_53 dX2_step_54 (by decide) (fun c15 => ?_) (fun c15 => ?_)
          · have h := br_pos c15 h
            refine lv_iload hx hb dX2_step_115 (lv_at hl 0 rfl) ?_
            cases h
            exact rt_i S hr hlk hP hD hS dX2_step_117
          · have h := br_neg c15 h
            refine lv_lload_n hx hb dX2_step_57 rfl (lv_at hl 3 rfl) ?_
            refine lv_aload_n hx hb dX2_step_58 rfl (lv_at hl 2 rfl) ?_
            refine va_get (D := D) (ci := 2) (v := .ref h_t_digitY) (C := RX2) (T := TX2) (N := 14) hx hb ha ix2 hown hK hP 0 rfl rfl 8 (by decide) (ha _ q361) (fun _ h9 => h9) rfl dX2_step_59 ?_
            refine lv_iload hx hb dX2_step_62 (lv_at hl 0 rfl) ?_
            obtain ⟨i16, h⟩ := ix_ok h
            refine va_iald hx hb hK hP 1 0 rfl rfl i16 dX2_step_64 ?_
            refine lv_i2l (v := (t_digitY (0 : Int32).toNatClampNeg).toInt64) hx hb dX2_step_65 rfl ?_
            refine lv_lsub hx hb dX2_step_66 ?_
            refine lv_lstore (lv' := [(7, .long (l1 - (t_digitY (0 : Int32).toNatClampNeg).toInt64)), (6, .int 0), (5, .int r_c3_0), (0, .ref h_t), (1, .long l1), (3, .long l3)]) hx hb dX2_step_67 hl (by decide) rfl (fun ls hl => ?_)
            refine lv_lload_n hx hb dX2_step_69 rfl (lv_at hl 5 rfl) ?_
            refine lv_aload_n hx hb dX2_step_70 rfl (lv_at hl 3 rfl) ?_
            refine va_get (D := D) (ci := 2) (v := .ref h_t_digitZ) (C := RX2) (T := TX2) (N := 14) hx hb ha ix2 hown hK hP 0 rfl rfl 9 (by decide) (ha _ q362) (fun _ h9 => h9) rfl dX2_step_71 ?_
            refine lv_iload hx hb dX2_step_74 (lv_at hl 1 rfl) ?_
            obtain ⟨i17, h⟩ := ix_ok h
            refine va_iald hx hb hK hP 2 1 rfl rfl i17 dX2_step_76 ?_
            refine lv_i2l (v := (t_digitZ (0 : Int32).toNatClampNeg).toInt64) hx hb dX2_step_77 rfl ?_
            refine lv_lsub hx hb dX2_step_78 ?_
            refine lv_lstore (lv' := [(9, .long (l3 - (t_digitZ (0 : Int32).toNatClampNeg).toInt64)), (7, .long (l1 - (t_digitY (0 : Int32).toNatClampNeg).toInt64)), (6, .int 0), (5, .int r_c3_0), (0, .ref h_t), (1, .long l1), (3, .long l3)]) hx hb dX2_step_79 hl (by decide) rfl (fun ls hl => ?_)
            refine lv_aload_n hx hb dX2_step_81 rfl (lv_at hl 4 rfl) ?_
            refine lv_aload_n hx hb dX2_step_82 rfl (lv_at hl 4 rfl) ?_
            refine lv_lload hx hb dX2_step_83 (lv_at hl 1 rfl) ?_
            refine lv_lload hx hb dX2_step_85 (lv_at hl 0 rfl) ?_
            obtain ⟨r_c87_17, e_c87_17, h⟩ := bnd1_ok h
            refine cl_l (rn_v (ci := 2) (As := [.long (l1 - (t_digitY (0 : Int32).toNatClampNeg).toInt64), .long (l3 - (t_digitZ (0 : Int32).toNatClampNeg).toInt64)]) (rest := [.ref h_t]) S (c_X2_timesSideY l D ((h_t_digitY, .inl (k_t_digitY, 25, .inl t_digitY)) :: (h_t_digitZ, .inl (k_t_digitZ, 25, .inl t_digitZ)) :: (h_t_digitOfKey, .inl (k_t_digitOfKey, 625, .inl t_digitOfKey)) :: R) h_t (z_t_0) (.int t_p) t_q (.int t_norm) t_sideY t_sideZ (.long t_divisor) (z_t_7) (.ref h_t_digitY) (.ref h_t_digitZ) (z_t_10) (.ref h_t_digitOfKey) (.long t_nextY) (.long t_nextZ) (l1 - (t_digitY (0 : Int32).toNatClampNeg).toInt64) (l3 - (t_digitZ (0 : Int32).toNatClampNeg).toInt64) r_c87_17 e_c87_17 _) q335 q337 q4 q57 q338 nd_X2_timesSideY ⟨Nat.le_of_ble_eq_true rfl, Nat.le_of_ble_eq_true rfl⟩ rfl rfl hP hD (hK.sub (tys' := []) [] rfl) hN rfl ⟨0, _, rfl⟩ rfl hl.1 rfl (Nat.le_of_ble_eq_true rfl) dX2_step_87 ⟨Nat.le_of_ble_eq_true rfl, Nat.le_of_ble_eq_true rfl⟩) hS hA hD (fun H locs hP hD hS => ?_)
            have hP : va_P D vwCl ((h_t, .inr (2, [z_t_0, .int t_p, .int t_q, .int t_norm, .long t_sideY, .long t_sideZ, .long t_divisor, z_t_7, .ref h_t_digitY, .ref h_t_digitZ, z_t_10, .ref h_t_digitOfKey, .long t_nextY, .long t_nextZ])) :: (h_t_digitY, .inl (k_t_digitY, 25, .inl t_digitY)) :: (h_t_digitZ, .inl (k_t_digitZ, 25, .inl t_digitZ)) :: (h_t_digitOfKey, .inl (k_t_digitOfKey, 625, .inl t_digitOfKey)) :: R) H := hP
            have hD : va_D A ((h_t, .inr (2, [z_t_0, .int t_p, .int t_q, .int t_norm, .long t_sideY, .long t_sideZ, .long t_divisor, z_t_7, .ref h_t_digitY, .ref h_t_digitZ, z_t_10, .ref h_t_digitOfKey, .long t_nextY, .long t_nextZ])) :: (h_t_digitY, .inl (k_t_digitY, 25, .inl t_digitY)) :: (h_t_digitZ, .inl (k_t_digitZ, 25, .inl t_digitZ)) :: (h_t_digitOfKey, .inl (k_t_digitOfKey, 625, .inl t_digitOfKey)) :: R) := hD
            refine lv_aload_n hx hb dX2_step_90 rfl (lv_at hl 4 rfl) ?_
            refine va_get (D := D) (ci := 2) (v := .long t_divisor) (C := RX2) (T := TX2) (N := 14) hx hb ha ix2 hown hK hP 0 rfl rfl 6 (by decide) (ha _ q358) (fun _ h9 => h9) rfl dX2_step_91 ?_
            obtain ⟨n19, h⟩ := nzL_ok h
            refine lv_ldiv hx hb dX2_step_94 n19 ?_
            refine va_put (D := D) (ci := 2) (v := .long (r_c87_17 / t_divisor)) (ty := .long) (C := RX2) (T := TX2) (N := 14) hx hb ha ix2 tyX2 tyX2_ok nmX2 hown hK hP hD hS 0 rfl rfl 12 (by decide) (ha _ q366) (fun _ h9 => h9) rfl (by decide +kernel) rfl rfl (Nat.le_of_ble_eq_true rfl) dX2_step_95 (fun H locs hP hD hS => ?_)
            have hP : va_P D vwCl ((h_t, .inr (2, [z_t_0, .int t_p, .int t_q, .int t_norm, .long t_sideY, .long t_sideZ, .long t_divisor, z_t_7, .ref h_t_digitY, .ref h_t_digitZ, z_t_10, .ref h_t_digitOfKey, .long (r_c87_17 / t_divisor), .long t_nextZ])) :: (h_t_digitY, .inl (k_t_digitY, 25, .inl t_digitY)) :: (h_t_digitZ, .inl (k_t_digitZ, 25, .inl t_digitZ)) :: (h_t_digitOfKey, .inl (k_t_digitOfKey, 625, .inl t_digitOfKey)) :: R) H := hP
            have hD : va_D A ((h_t, .inr (2, [z_t_0, .int t_p, .int t_q, .int t_norm, .long t_sideY, .long t_sideZ, .long t_divisor, z_t_7, .ref h_t_digitY, .ref h_t_digitZ, z_t_10, .ref h_t_digitOfKey, .long (r_c87_17 / t_divisor), .long t_nextZ])) :: (h_t_digitY, .inl (k_t_digitY, 25, .inl t_digitY)) :: (h_t_digitZ, .inl (k_t_digitZ, 25, .inl t_digitZ)) :: (h_t_digitOfKey, .inl (k_t_digitOfKey, 625, .inl t_digitOfKey)) :: R) := hD
            refine lv_aload_n hx hb dX2_step_98 rfl (lv_at hl 4 rfl) ?_
            refine lv_aload_n hx hb dX2_step_99 rfl (lv_at hl 4 rfl) ?_
            refine lv_lload hx hb dX2_step_100 (lv_at hl 1 rfl) ?_
            refine lv_lload hx hb dX2_step_102 (lv_at hl 0 rfl) ?_
            obtain ⟨r_c104_19, e_c104_19, h⟩ := bnd1_ok h
            refine cl_l (rn_v (ci := 2) (As := [.long (l1 - (t_digitY (0 : Int32).toNatClampNeg).toInt64), .long (l3 - (t_digitZ (0 : Int32).toNatClampNeg).toInt64)]) (rest := [.ref h_t]) S (c_X2_timesSideZ l D ((h_t_digitY, .inl (k_t_digitY, 25, .inl t_digitY)) :: (h_t_digitZ, .inl (k_t_digitZ, 25, .inl t_digitZ)) :: (h_t_digitOfKey, .inl (k_t_digitOfKey, 625, .inl t_digitOfKey)) :: R) h_t (z_t_0) t_p (.int t_q) (.int t_norm) t_sideY t_sideZ (.long t_divisor) (z_t_7) (.ref h_t_digitY) (.ref h_t_digitZ) (z_t_10) (.ref h_t_digitOfKey) (.long (r_c87_17 / t_divisor)) (.long t_nextZ) (l1 - (t_digitY (0 : Int32).toNatClampNeg).toInt64) (l3 - (t_digitZ (0 : Int32).toNatClampNeg).toInt64) r_c104_19 e_c104_19 _) q342 q344 q5 q57 q345 nd_X2_timesSideZ ⟨Nat.le_of_ble_eq_true rfl, Nat.le_of_ble_eq_true rfl⟩ rfl rfl hP hD (hK.sub (tys' := []) [] rfl) hN rfl ⟨0, _, rfl⟩ rfl hl.1 rfl (Nat.le_of_ble_eq_true rfl) dX2_step_104 ⟨Nat.le_of_ble_eq_true rfl, Nat.le_of_ble_eq_true rfl⟩) hS hA hD (fun H locs hP hD hS => ?_)
            have hP : va_P D vwCl ((h_t, .inr (2, [z_t_0, .int t_p, .int t_q, .int t_norm, .long t_sideY, .long t_sideZ, .long t_divisor, z_t_7, .ref h_t_digitY, .ref h_t_digitZ, z_t_10, .ref h_t_digitOfKey, .long (r_c87_17 / t_divisor), .long t_nextZ])) :: (h_t_digitY, .inl (k_t_digitY, 25, .inl t_digitY)) :: (h_t_digitZ, .inl (k_t_digitZ, 25, .inl t_digitZ)) :: (h_t_digitOfKey, .inl (k_t_digitOfKey, 625, .inl t_digitOfKey)) :: R) H := hP
            have hD : va_D A ((h_t, .inr (2, [z_t_0, .int t_p, .int t_q, .int t_norm, .long t_sideY, .long t_sideZ, .long t_divisor, z_t_7, .ref h_t_digitY, .ref h_t_digitZ, z_t_10, .ref h_t_digitOfKey, .long (r_c87_17 / t_divisor), .long t_nextZ])) :: (h_t_digitY, .inl (k_t_digitY, 25, .inl t_digitY)) :: (h_t_digitZ, .inl (k_t_digitZ, 25, .inl t_digitZ)) :: (h_t_digitOfKey, .inl (k_t_digitOfKey, 625, .inl t_digitOfKey)) :: R) := hD
            refine lv_aload_n hx hb dX2_step_107 rfl (lv_at hl 4 rfl) ?_
            refine va_get (D := D) (ci := 2) (v := .long t_divisor) (C := RX2) (T := TX2) (N := 14) hx hb ha ix2 hown hK hP 0 rfl rfl 6 (by decide) (ha _ q358) (fun _ h9 => h9) rfl dX2_step_108 ?_
            obtain ⟨n21, h⟩ := nzL_ok h
            refine lv_ldiv hx hb dX2_step_111 n21 ?_
            refine va_put (D := D) (ci := 2) (v := .long (r_c104_19 / t_divisor)) (ty := .long) (C := RX2) (T := TX2) (N := 14) hx hb ha ix2 tyX2 tyX2_ok nmX2 hown hK hP hD hS 0 rfl rfl 13 (by decide) (ha _ q368) (fun _ h9 => h9) rfl (by decide +kernel) rfl rfl (Nat.le_of_ble_eq_true rfl) dX2_step_112 (fun H locs hP hD hS => ?_)
            have hP : va_P D vwCl ((h_t, .inr (2, [z_t_0, .int t_p, .int t_q, .int t_norm, .long t_sideY, .long t_sideZ, .long t_divisor, z_t_7, .ref h_t_digitY, .ref h_t_digitZ, z_t_10, .ref h_t_digitOfKey, .long (r_c87_17 / t_divisor), .long (r_c104_19 / t_divisor)])) :: (h_t_digitY, .inl (k_t_digitY, 25, .inl t_digitY)) :: (h_t_digitZ, .inl (k_t_digitZ, 25, .inl t_digitZ)) :: (h_t_digitOfKey, .inl (k_t_digitOfKey, 625, .inl t_digitOfKey)) :: R) H := hP
            have hD : va_D A ((h_t, .inr (2, [z_t_0, .int t_p, .int t_q, .int t_norm, .long t_sideY, .long t_sideZ, .long t_divisor, z_t_7, .ref h_t_digitY, .ref h_t_digitZ, z_t_10, .ref h_t_digitOfKey, .long (r_c87_17 / t_divisor), .long (r_c104_19 / t_divisor)])) :: (h_t_digitY, .inl (k_t_digitY, 25, .inl t_digitY)) :: (h_t_digitZ, .inl (k_t_digitZ, 25, .inl t_digitZ)) :: (h_t_digitOfKey, .inl (k_t_digitOfKey, 625, .inl t_digitOfKey)) :: R) := hD
            refine lv_iload hx hb dX2_step_115 (lv_at hl 2 rfl) ?_
            cases h
            exact rt_i S hr hlk hP hD hS dX2_step_117
    · have h := br_neg c12 h
      refine lv_aload_n hx hb dX2_step_23 rfl (lv_at hl 1 rfl) ?_
      refine va_get (D := D) (ci := 2) (v := .ref h_t_digitOfKey) (C := RX2) (T := TX2) (N := 14) hx hb ha ix2 hown hK hP 0 rfl rfl 11 (by decide) (ha _ q364) (fun _ h9 => h9) rfl dX2_step_24 ?_
      refine lv_iload hx hb dX2_step_27 (lv_at hl 0 rfl) ?_
      obtain ⟨i22, h⟩ := ix_ok h
      refine va_iald hx hb hK hP 3 2 rfl rfl i22 dX2_step_29 ?_
      refine lv_goto (tgt := 34) hx hb dX2_step_30 (by decide) ?_
      refine lv_istore (lv' := [(6, .int (t_digitOfKey r_c3_0.toNatClampNeg)), (5, .int r_c3_0), (0, .ref h_t), (1, .long l1), (3, .long l3)]) hx hb dX2_step_34 hl (by decide) rfl (fun ls hl => ?_)
      refine lv_iload hx hb dX2_step_36 (lv_at hl 0 rfl) ?_
      refine lv_if_lt (tgt := 115) hx hb dX2_step_38 (by decide) (fun c23 => ?_) (fun c23 => ?_)
      · have h := br_pos c23 h
        refine lv_iload hx hb dX2_step_115 (lv_at hl 0 rfl) ?_
        cases h
        exact rt_i S hr hlk hP hD hS dX2_step_117
      · have h := br_neg c23 h
        refine lv_iload hx hb dX2_step_41 (lv_at hl 0 rfl) ?_
        refine lv_bipush (v := 25) hx hb dX2_step_43 (by decide) ?_
        refine lv_icmp_ge (tgt := 115) hx hb dX2_step_45 (by decide) (fun c24 => ?_) (fun c24 => ?_)
        · have h := br_pos c24 h
          refine lv_iload hx hb dX2_step_115 (lv_at hl 0 rfl) ?_
          cases h
          exact rt_i S hr hlk hP hD hS dX2_step_117
        · have h := br_neg c24 h
          refine lv_aload_n hx hb dX2_step_48 rfl (lv_at hl 2 rfl) ?_
          refine va_get (D := D) (ci := 2) (v := .long t_divisor) (C := RX2) (T := TX2) (N := 14) hx hb ha ix2 hown hK hP 0 rfl rfl 6 (by decide) (ha _ q358) (fun _ h9 => h9) rfl dX2_step_49 ?_
          refine lv_lconst (v := 0) hx hb dX2_step_52 (by decide) ?_
          refine xl_eq (tgt := 115) hx hb dX2_step_53 dX2_step_54 (by decide) (fun c25 => ?_) (fun c25 => ?_)
          · have h := br_pos c25 h
            refine lv_iload hx hb dX2_step_115 (lv_at hl 0 rfl) ?_
            cases h
            exact rt_i S hr hlk hP hD hS dX2_step_117
          · have h := br_neg c25 h
            refine lv_lload_n hx hb dX2_step_57 rfl (lv_at hl 3 rfl) ?_
            refine lv_aload_n hx hb dX2_step_58 rfl (lv_at hl 2 rfl) ?_
            refine va_get (D := D) (ci := 2) (v := .ref h_t_digitY) (C := RX2) (T := TX2) (N := 14) hx hb ha ix2 hown hK hP 0 rfl rfl 8 (by decide) (ha _ q361) (fun _ h9 => h9) rfl dX2_step_59 ?_
            refine lv_iload hx hb dX2_step_62 (lv_at hl 0 rfl) ?_
            obtain ⟨i26, h⟩ := ix_ok h
            refine va_iald hx hb hK hP 1 0 rfl rfl i26 dX2_step_64 ?_
            refine lv_i2l (v := (t_digitY (t_digitOfKey r_c3_0.toNatClampNeg).toNatClampNeg).toInt64) hx hb dX2_step_65 rfl ?_
            refine lv_lsub hx hb dX2_step_66 ?_
            refine lv_lstore (lv' := [(7, .long (l1 - (t_digitY (t_digitOfKey r_c3_0.toNatClampNeg).toNatClampNeg).toInt64)), (6, .int (t_digitOfKey r_c3_0.toNatClampNeg)), (5, .int r_c3_0), (0, .ref h_t), (1, .long l1), (3, .long l3)]) hx hb dX2_step_67 hl (by decide) rfl (fun ls hl => ?_)
            refine lv_lload_n hx hb dX2_step_69 rfl (lv_at hl 5 rfl) ?_
            refine lv_aload_n hx hb dX2_step_70 rfl (lv_at hl 3 rfl) ?_
            refine va_get (D := D) (ci := 2) (v := .ref h_t_digitZ) (C := RX2) (T := TX2) (N := 14) hx hb ha ix2 hown hK hP 0 rfl rfl 9 (by decide) (ha _ q362) (fun _ h9 => h9) rfl dX2_step_71 ?_
            refine lv_iload hx hb dX2_step_74 (lv_at hl 1 rfl) ?_
            obtain ⟨i27, h⟩ := ix_ok h
            refine va_iald hx hb hK hP 2 1 rfl rfl i27 dX2_step_76 ?_
            refine lv_i2l (v := (t_digitZ (t_digitOfKey r_c3_0.toNatClampNeg).toNatClampNeg).toInt64) hx hb dX2_step_77 rfl ?_
            refine lv_lsub hx hb dX2_step_78 ?_
            refine lv_lstore (lv' := [(9, .long (l3 - (t_digitZ (t_digitOfKey r_c3_0.toNatClampNeg).toNatClampNeg).toInt64)), (7, .long (l1 - (t_digitY (t_digitOfKey r_c3_0.toNatClampNeg).toNatClampNeg).toInt64)), (6, .int (t_digitOfKey r_c3_0.toNatClampNeg)), (5, .int r_c3_0), (0, .ref h_t), (1, .long l1), (3, .long l3)]) hx hb dX2_step_79 hl (by decide) rfl (fun ls hl => ?_)
            refine lv_aload_n hx hb dX2_step_81 rfl (lv_at hl 4 rfl) ?_
            refine lv_aload_n hx hb dX2_step_82 rfl (lv_at hl 4 rfl) ?_
            refine lv_lload hx hb dX2_step_83 (lv_at hl 1 rfl) ?_
            refine lv_lload hx hb dX2_step_85 (lv_at hl 0 rfl) ?_
            obtain ⟨r_c87_27, e_c87_27, h⟩ := bnd1_ok h
            refine cl_l (rn_v (ci := 2) (As := [.long (l1 - (t_digitY (t_digitOfKey r_c3_0.toNatClampNeg).toNatClampNeg).toInt64), .long (l3 - (t_digitZ (t_digitOfKey r_c3_0.toNatClampNeg).toNatClampNeg).toInt64)]) (rest := [.ref h_t]) S (c_X2_timesSideY l D ((h_t_digitY, .inl (k_t_digitY, 25, .inl t_digitY)) :: (h_t_digitZ, .inl (k_t_digitZ, 25, .inl t_digitZ)) :: (h_t_digitOfKey, .inl (k_t_digitOfKey, 625, .inl t_digitOfKey)) :: R) h_t (z_t_0) (.int t_p) t_q (.int t_norm) t_sideY t_sideZ (.long t_divisor) (z_t_7) (.ref h_t_digitY) (.ref h_t_digitZ) (z_t_10) (.ref h_t_digitOfKey) (.long t_nextY) (.long t_nextZ) (l1 - (t_digitY (t_digitOfKey r_c3_0.toNatClampNeg).toNatClampNeg).toInt64) (l3 - (t_digitZ (t_digitOfKey r_c3_0.toNatClampNeg).toNatClampNeg).toInt64) r_c87_27 e_c87_27 _) q335 q337 q4 q57 q338 nd_X2_timesSideY ⟨Nat.le_of_ble_eq_true rfl, Nat.le_of_ble_eq_true rfl⟩ rfl rfl hP hD (hK.sub (tys' := []) [] rfl) hN rfl ⟨0, _, rfl⟩ rfl hl.1 rfl (Nat.le_of_ble_eq_true rfl) dX2_step_87 ⟨Nat.le_of_ble_eq_true rfl, Nat.le_of_ble_eq_true rfl⟩) hS hA hD (fun H locs hP hD hS => ?_)
            have hP : va_P D vwCl ((h_t, .inr (2, [z_t_0, .int t_p, .int t_q, .int t_norm, .long t_sideY, .long t_sideZ, .long t_divisor, z_t_7, .ref h_t_digitY, .ref h_t_digitZ, z_t_10, .ref h_t_digitOfKey, .long t_nextY, .long t_nextZ])) :: (h_t_digitY, .inl (k_t_digitY, 25, .inl t_digitY)) :: (h_t_digitZ, .inl (k_t_digitZ, 25, .inl t_digitZ)) :: (h_t_digitOfKey, .inl (k_t_digitOfKey, 625, .inl t_digitOfKey)) :: R) H := hP
            have hD : va_D A ((h_t, .inr (2, [z_t_0, .int t_p, .int t_q, .int t_norm, .long t_sideY, .long t_sideZ, .long t_divisor, z_t_7, .ref h_t_digitY, .ref h_t_digitZ, z_t_10, .ref h_t_digitOfKey, .long t_nextY, .long t_nextZ])) :: (h_t_digitY, .inl (k_t_digitY, 25, .inl t_digitY)) :: (h_t_digitZ, .inl (k_t_digitZ, 25, .inl t_digitZ)) :: (h_t_digitOfKey, .inl (k_t_digitOfKey, 625, .inl t_digitOfKey)) :: R) := hD
            refine lv_aload_n hx hb dX2_step_90 rfl (lv_at hl 4 rfl) ?_
            refine va_get (D := D) (ci := 2) (v := .long t_divisor) (C := RX2) (T := TX2) (N := 14) hx hb ha ix2 hown hK hP 0 rfl rfl 6 (by decide) (ha _ q358) (fun _ h9 => h9) rfl dX2_step_91 ?_
            obtain ⟨n29, h⟩ := nzL_ok h
            refine lv_ldiv hx hb dX2_step_94 n29 ?_
            refine va_put (D := D) (ci := 2) (v := .long (r_c87_27 / t_divisor)) (ty := .long) (C := RX2) (T := TX2) (N := 14) hx hb ha ix2 tyX2 tyX2_ok nmX2 hown hK hP hD hS 0 rfl rfl 12 (by decide) (ha _ q366) (fun _ h9 => h9) rfl (by decide +kernel) rfl rfl (Nat.le_of_ble_eq_true rfl) dX2_step_95 (fun H locs hP hD hS => ?_)
            have hP : va_P D vwCl ((h_t, .inr (2, [z_t_0, .int t_p, .int t_q, .int t_norm, .long t_sideY, .long t_sideZ, .long t_divisor, z_t_7, .ref h_t_digitY, .ref h_t_digitZ, z_t_10, .ref h_t_digitOfKey, .long (r_c87_27 / t_divisor), .long t_nextZ])) :: (h_t_digitY, .inl (k_t_digitY, 25, .inl t_digitY)) :: (h_t_digitZ, .inl (k_t_digitZ, 25, .inl t_digitZ)) :: (h_t_digitOfKey, .inl (k_t_digitOfKey, 625, .inl t_digitOfKey)) :: R) H := hP
            have hD : va_D A ((h_t, .inr (2, [z_t_0, .int t_p, .int t_q, .int t_norm, .long t_sideY, .long t_sideZ, .long t_divisor, z_t_7, .ref h_t_digitY, .ref h_t_digitZ, z_t_10, .ref h_t_digitOfKey, .long (r_c87_27 / t_divisor), .long t_nextZ])) :: (h_t_digitY, .inl (k_t_digitY, 25, .inl t_digitY)) :: (h_t_digitZ, .inl (k_t_digitZ, 25, .inl t_digitZ)) :: (h_t_digitOfKey, .inl (k_t_digitOfKey, 625, .inl t_digitOfKey)) :: R) := hD
            refine lv_aload_n hx hb dX2_step_98 rfl (lv_at hl 4 rfl) ?_
            refine lv_aload_n hx hb dX2_step_99 rfl (lv_at hl 4 rfl) ?_
            refine lv_lload hx hb dX2_step_100 (lv_at hl 1 rfl) ?_
            refine lv_lload hx hb dX2_step_102 (lv_at hl 0 rfl) ?_
            obtain ⟨r_c104_29, e_c104_29, h⟩ := bnd1_ok h
            refine cl_l (rn_v (ci := 2) (As := [.long (l1 - (t_digitY (t_digitOfKey r_c3_0.toNatClampNeg).toNatClampNeg).toInt64), .long (l3 - (t_digitZ (t_digitOfKey r_c3_0.toNatClampNeg).toNatClampNeg).toInt64)]) (rest := [.ref h_t]) S (c_X2_timesSideZ l D ((h_t_digitY, .inl (k_t_digitY, 25, .inl t_digitY)) :: (h_t_digitZ, .inl (k_t_digitZ, 25, .inl t_digitZ)) :: (h_t_digitOfKey, .inl (k_t_digitOfKey, 625, .inl t_digitOfKey)) :: R) h_t (z_t_0) t_p (.int t_q) (.int t_norm) t_sideY t_sideZ (.long t_divisor) (z_t_7) (.ref h_t_digitY) (.ref h_t_digitZ) (z_t_10) (.ref h_t_digitOfKey) (.long (r_c87_27 / t_divisor)) (.long t_nextZ) (l1 - (t_digitY (t_digitOfKey r_c3_0.toNatClampNeg).toNatClampNeg).toInt64) (l3 - (t_digitZ (t_digitOfKey r_c3_0.toNatClampNeg).toNatClampNeg).toInt64) r_c104_29 e_c104_29 _) q342 q344 q5 q57 q345 nd_X2_timesSideZ ⟨Nat.le_of_ble_eq_true rfl, Nat.le_of_ble_eq_true rfl⟩ rfl rfl hP hD (hK.sub (tys' := []) [] rfl) hN rfl ⟨0, _, rfl⟩ rfl hl.1 rfl (Nat.le_of_ble_eq_true rfl) dX2_step_104 ⟨Nat.le_of_ble_eq_true rfl, Nat.le_of_ble_eq_true rfl⟩) hS hA hD (fun H locs hP hD hS => ?_)
            have hP : va_P D vwCl ((h_t, .inr (2, [z_t_0, .int t_p, .int t_q, .int t_norm, .long t_sideY, .long t_sideZ, .long t_divisor, z_t_7, .ref h_t_digitY, .ref h_t_digitZ, z_t_10, .ref h_t_digitOfKey, .long (r_c87_27 / t_divisor), .long t_nextZ])) :: (h_t_digitY, .inl (k_t_digitY, 25, .inl t_digitY)) :: (h_t_digitZ, .inl (k_t_digitZ, 25, .inl t_digitZ)) :: (h_t_digitOfKey, .inl (k_t_digitOfKey, 625, .inl t_digitOfKey)) :: R) H := hP
            have hD : va_D A ((h_t, .inr (2, [z_t_0, .int t_p, .int t_q, .int t_norm, .long t_sideY, .long t_sideZ, .long t_divisor, z_t_7, .ref h_t_digitY, .ref h_t_digitZ, z_t_10, .ref h_t_digitOfKey, .long (r_c87_27 / t_divisor), .long t_nextZ])) :: (h_t_digitY, .inl (k_t_digitY, 25, .inl t_digitY)) :: (h_t_digitZ, .inl (k_t_digitZ, 25, .inl t_digitZ)) :: (h_t_digitOfKey, .inl (k_t_digitOfKey, 625, .inl t_digitOfKey)) :: R) := hD
            refine lv_aload_n hx hb dX2_step_107 rfl (lv_at hl 4 rfl) ?_
            refine va_get (D := D) (ci := 2) (v := .long t_divisor) (C := RX2) (T := TX2) (N := 14) hx hb ha ix2 hown hK hP 0 rfl rfl 6 (by decide) (ha _ q358) (fun _ h9 => h9) rfl dX2_step_108 ?_
            obtain ⟨n31, h⟩ := nzL_ok h
            refine lv_ldiv hx hb dX2_step_111 n31 ?_
            refine va_put (D := D) (ci := 2) (v := .long (r_c104_29 / t_divisor)) (ty := .long) (C := RX2) (T := TX2) (N := 14) hx hb ha ix2 tyX2 tyX2_ok nmX2 hown hK hP hD hS 0 rfl rfl 13 (by decide) (ha _ q368) (fun _ h9 => h9) rfl (by decide +kernel) rfl rfl (Nat.le_of_ble_eq_true rfl) dX2_step_112 (fun H locs hP hD hS => ?_)
            have hP : va_P D vwCl ((h_t, .inr (2, [z_t_0, .int t_p, .int t_q, .int t_norm, .long t_sideY, .long t_sideZ, .long t_divisor, z_t_7, .ref h_t_digitY, .ref h_t_digitZ, z_t_10, .ref h_t_digitOfKey, .long (r_c87_27 / t_divisor), .long (r_c104_29 / t_divisor)])) :: (h_t_digitY, .inl (k_t_digitY, 25, .inl t_digitY)) :: (h_t_digitZ, .inl (k_t_digitZ, 25, .inl t_digitZ)) :: (h_t_digitOfKey, .inl (k_t_digitOfKey, 625, .inl t_digitOfKey)) :: R) H := hP
            have hD : va_D A ((h_t, .inr (2, [z_t_0, .int t_p, .int t_q, .int t_norm, .long t_sideY, .long t_sideZ, .long t_divisor, z_t_7, .ref h_t_digitY, .ref h_t_digitZ, z_t_10, .ref h_t_digitOfKey, .long (r_c87_27 / t_divisor), .long (r_c104_29 / t_divisor)])) :: (h_t_digitY, .inl (k_t_digitY, 25, .inl t_digitY)) :: (h_t_digitZ, .inl (k_t_digitZ, 25, .inl t_digitZ)) :: (h_t_digitOfKey, .inl (k_t_digitOfKey, 625, .inl t_digitOfKey)) :: R) := hD
            refine lv_iload hx hb dX2_step_115 (lv_at hl 2 rfl) ?_
            cases h
            exact rt_i S hr hlk hP hD hS dX2_step_117
