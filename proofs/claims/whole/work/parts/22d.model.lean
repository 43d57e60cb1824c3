def f_X12_whole_L9 (l1 : Int64) (l3 : Int64) (l5 : Int64) (t_a : Int32) (t_b : Int32) (t_root : Int32) : Nat → Int64 → Int64 → Int32 →  Option (Int64 × Int64 × Int32)
  | 0, _, _, _ => none
  | n + 1, l7, l9, l11 => (
    bnd1 (f_X12_sign t_a t_root (l1 - ((l9 * t_b.toInt64) * l5)) (l3 - ((l7 + (l9 * t_a.toInt64)) * l5))) fun r_c47_0 => (
     if 0 ≤ r_c47_0 then (
      f_X12_whole_L9 l1 l3 l5 t_a t_b t_root n (l9 * t_b.toInt64) (l7 + (l9 * t_a.toInt64)) (l11 + 1)
     ) else (
      some (l7, l9, l11)
     )
    ))
def f_X12_whole_L95 (l5 : Int64) (l7 : Int64) (l9 : Int64) (t_a : Int32) (t_root : Int32) : Nat → Int64 → Int64 → Int64 →  Option (Int64 × Int64 × Int64)
  | 0, _, _, _ => none
  | n + 1, l12, l14, l16 => (
    bnd1 (f_X12_sign t_a t_root (l12 - (l7 * l5)) (l14 - (l9 * l5))) fun r_c112_4 => (
     if r_c112_4 < 0 then (
      some (l12, l14, l16)
     ) else (
      f_X12_whole_L95 l5 l7 l9 t_a t_root n (l12 - (l7 * l5)) (l14 - (l9 * l5)) (l16 + 1)
     )
    ))
def f_X12_whole_L87 (l5 : Int64) (t_a : Int32) (t_b : Int32) (t_root : Int32) : Nat → Int64 → Int64 → Int32 → Int64 → Int64 → Int32 → (Nat → Int64) →  Option (Int64 × Int64 × Int32 × (Nat → Int64))
  | 0, _, _, _, _, _, _, _ => none
  | n + 1, l7, l9, l11, l12, l14, t_digitMany, t_digit => (
    if l11 < 0 then (
     some (l12, l14, t_digitMany, t_digit)
    ) else (
     bnd3 (f_X12_whole_L95 l5 l7 l9 t_a t_root FU l12 l14 0) fun x12_L95_6 x14_L95_6 x16_L95_6 => (
      gd (ixb t_digitMany 500) (
       gd (nzL t_b.toInt64) (
        gd (nzL t_b.toInt64) (
         f_X12_whole_L87 l5 t_a t_b t_root n (l9 - (t_a.toInt64 * (l7 / t_b.toInt64))) (l7 / t_b.toInt64) (l11 + (-1)) x12_L95_6 x14_L95_6 (t_digitMany + 1) (vp_updL t_digit t_digitMany.toNatClampNeg x16_L95_6)
        )
       )
      )
     )
    ))
def f_X12_whole (t_a : Int32) (t_b : Int32) (t_root : Int32) (t_top : Int32) (t_digitMany : Int32) (t_digit : Nat → Int64) (t_leftU : Nat → Int64) (t_leftV : Nat → Int64) (l1 : Int64) (l3 : Int64) (l5 : Int64) : Option (Int32 × Int32 × (Nat → Int64) × (Nat → Int64) × (Nat → Int64)) :=
  bnd3 (f_X12_whole_L9 l1 l3 l5 t_a t_b t_root FU 1 0 0) fun x7_L9_2 x9_L9_2 x11_L9_2 => (
   bnd4 (f_X12_whole_L87 l5 t_a t_b t_root FU x7_L9_2 x9_L9_2 x11_L9_2 l1 l3 0 t_digit) fun x12_L87_10 x14_L87_10 x_t_digitMany_L87_10 x_t_digit_L87_10 => (
    gd (ixb 0 401) (
     gd (ixb 0 401) (
      some (x11_L9_2, x_t_digitMany_L87_10, x_t_digit_L87_10, (vp_updL t_leftU (0 : Int32).toNatClampNeg x12_L87_10), (vp_updL t_leftV (0 : Int32).toNatClampNeg x14_L87_10))
     )
    )
   )
  )
set_option maxHeartbeats 4000000 in
set_option maxRecDepth 100000 in
theorem c_X12_whole (l : Launch) (D : va_G) (R : va_W) (h_t : Nat) (z_t_0 : Value) (z_t_1 : Value) (z_t_2 : Value) (t_a : Int32) (t_b : Int32) (t_root : Int32) (z_t_6 : Value) (z_t_7 : Value) (z_t_8 : Value) (z_t_9 : Value) (z_t_10 : Value) (z_t_11 : Value) (z_t_12 : Value) (z_t_13 : Value) (z_t_14 : Value) (t_top : Int32) (z_t_16 : Value) (z_t_17 : Value) (t_digitMany : Int32) (z_t_22 : Value) (z_t_23 : Value) (z_t_24 : Value) (z_t_25 : Value) (z_t_26 : Value) (z_t_27 : Value) (z_t_28 : Value) (z_t_29 : Value) (z_t_30 : Value) (z_t_31 : Value) (z_t_32 : Value) (z_t_33 : Value) (z_t_34 : Value) (z_t_35 : Value) (z_t_36 : Value) (z_t_37 : Value) (z_t_38 : Value) (z_t_39 : Value) (z_t_40 : Value) (z_t_41 : Value) (z_t_42 : Value) (z_t_43 : Value) (z_t_44 : Value) (z_t_45 : Value) (z_t_46 : Value) (z_t_47 : Value) (z_t_48 : Value) (z_t_49 : Value) (z_t_50 : Value) (z_t_51 : Value) (z_t_52 : Value) (z_t_53 : Value) (z_t_54 : Value) (z_t_55 : Value) (z_t_56 : Value) (z_t_57 : Value) (z_t_58 : Value) (z_t_59 : Value) (z_t_60 : Value) (h_t_digit : Nat) (k_t_digit : ClassId) (t_digit : Nat → Int64) (h_t_leftU : Nat) (k_t_leftU : ClassId) (t_leftU : Nat → Int64) (h_t_leftV : Nat) (k_t_leftV : ClassId) (t_leftV : Nat → Int64) (l1 : Int64) (l3 : Int64) (l5 : Int64) (o_t_top : Int32) (o_t_digitMany : Int32) (o_t_digit : Nat → Int64) (o_t_leftU : Nat → Int64) (o_t_leftV : Nat → Int64)  (h : f_X12_whole t_a t_b t_root t_top t_digitMany t_digit t_leftU t_leftV l1 l3 l5 = some (o_t_top, o_t_digitMany, o_t_digit, o_t_leftU, o_t_leftV)) (sz : Nat) : Met l yX12_whole (WD yX12_whole cX12_whole 20 none) ({ frames := 1, cells := 0, slots := 0, locals := 28 }) (va_Pc [.ref h_t, .long l1, .long l3, .long l5] (PcW D [(k_t_digit, .long), (k_t_leftU, .long), (k_t_leftV, .long)] ((h_t, .inr (12, [z_t_0, z_t_1, z_t_2, .int t_a, .int t_b, .int t_root, z_t_6, z_t_7, z_t_8, z_t_9, z_t_10, z_t_11, z_t_12, z_t_13, z_t_14, .int t_top, z_t_16, z_t_17, .int t_digitMany, .ref h_t_digit, .ref h_t_leftU, .ref h_t_leftV, z_t_22, z_t_23, z_t_24, z_t_25, z_t_26, z_t_27, z_t_28, z_t_29, z_t_30, z_t_31, z_t_32, z_t_33, z_t_34, z_t_35, z_t_36, z_t_37, z_t_38, z_t_39, z_t_40, z_t_41, z_t_42, z_t_43, z_t_44, z_t_45, z_t_46, z_t_47, z_t_48, z_t_49, z_t_50, z_t_51, z_t_52, z_t_53, z_t_54, z_t_55, z_t_56, z_t_57, z_t_58, z_t_59, z_t_60])) :: (h_t_digit, .inl (k_t_digit, 500, .inr (.inl t_digit))) :: (h_t_leftU, .inl (k_t_leftU, 401, .inr (.inl t_leftU))) :: (h_t_leftV, .inl (k_t_leftV, 401, .inr (.inl t_leftV))) :: R) sz)) (QV D ((h_t, .inr (12, [z_t_0, z_t_1, z_t_2, .int t_a, .int t_b, .int t_root, z_t_6, z_t_7, z_t_8, z_t_9, z_t_10, z_t_11, z_t_12, z_t_13, z_t_14, .int o_t_top, z_t_16, z_t_17, .int o_t_digitMany, .ref h_t_digit, .ref h_t_leftU, .ref h_t_leftV, z_t_22, z_t_23, z_t_24, z_t_25, z_t_26, z_t_27, z_t_28, z_t_29, z_t_30, z_t_31, z_t_32, z_t_33, z_t_34, z_t_35, z_t_36, z_t_37, z_t_38, z_t_39, z_t_40, z_t_41, z_t_42, z_t_43, z_t_44, z_t_45, z_t_46, z_t_47, z_t_48, z_t_49, z_t_50, z_t_51, z_t_52, z_t_53, z_t_54, z_t_55, z_t_56, z_t_57, z_t_58, z_t_59, z_t_60])) :: (h_t_digit, .inl (k_t_digit, 500, .inr (.inl o_t_digit))) :: (h_t_leftU, .inl (k_t_leftU, 401, .inr (.inl o_t_leftU))) :: (h_t_leftV, .inl (k_t_leftV, 401, .inr (.inl o_t_leftV))) :: R) (va_A ((h_t, .inr (12, [z_t_0, z_t_1, z_t_2, .int t_a, .int t_b, .int t_root, z_t_6, z_t_7, z_t_8, z_t_9, z_t_10, z_t_11, z_t_12, z_t_13, z_t_14, .int t_top, z_t_16, z_t_17, .int t_digitMany, .ref h_t_digit, .ref h_t_leftU, .ref h_t_leftV, z_t_22, z_t_23, z_t_24, z_t_25, z_t_26, z_t_27, z_t_28, z_t_29, z_t_30, z_t_31, z_t_32, z_t_33, z_t_34, z_t_35, z_t_36, z_t_37, z_t_38, z_t_39, z_t_40, z_t_41, z_t_42, z_t_43, z_t_44, z_t_45, z_t_46, z_t_47, z_t_48, z_t_49, z_t_50, z_t_51, z_t_52, z_t_53, z_t_54, z_t_55, z_t_56, z_t_57, z_t_58, z_t_59, z_t_60])) :: (h_t_digit, .inl (k_t_digit, 500, .inr (.inl t_digit))) :: (h_t_leftU, .inl (k_t_leftU, 401, .inr (.inl t_leftU))) :: (h_t_leftV, .inl (k_t_leftV, 401, .inr (.inl t_leftV))) :: R) sz)) 0 0 (va_A ((h_t, .inr (12, [z_t_0, z_t_1, z_t_2, .int t_a, .int t_b, .int t_root, z_t_6, z_t_7, z_t_8, z_t_9, z_t_10, z_t_11, z_t_12, z_t_13, z_t_14, .int t_top, z_t_16, z_t_17, .int t_digitMany, .ref h_t_digit, .ref h_t_leftU, .ref h_t_leftV, z_t_22, z_t_23, z_t_24, z_t_25, z_t_26, z_t_27, z_t_28, z_t_29, z_t_30, z_t_31, z_t_32, z_t_33, z_t_34, z_t_35, z_t_36, z_t_37, z_t_38, z_t_39, z_t_40, z_t_41, z_t_42, z_t_43, z_t_44, z_t_45, z_t_46, z_t_47, z_t_48, z_t_49, z_t_50, z_t_51, z_t_52, z_t_53, z_t_54, z_t_55, z_t_56, z_t_57, z_t_58, z_t_59, z_t_60])) :: (h_t_digit, .inl (k_t_digit, 500, .inr (.inl t_digit))) :: (h_t_leftU, .inl (k_t_leftU, 401, .inr (.inl t_leftU))) :: (h_t_leftV, .inl (k_t_leftV, 401, .inr (.inl t_leftV))) :: R) sz) := by
  refine ct_start (QF := fun A => QV D ((h_t, .inr (12, [z_t_0, z_t_1, z_t_2, .int t_a, .int t_b, .int t_root, z_t_6, z_t_7, z_t_8, z_t_9, z_t_10, z_t_11, z_t_12, z_t_13, z_t_14, .int o_t_top, z_t_16, z_t_17, .int o_t_digitMany, .ref h_t_digit, .ref h_t_leftU, .ref h_t_leftV, z_t_22, z_t_23, z_t_24, z_t_25, z_t_26, z_t_27, z_t_28, z_t_29, z_t_30, z_t_31, z_t_32, z_t_33, z_t_34, z_t_35, z_t_36, z_t_37, z_t_38, z_t_39, z_t_40, z_t_41, z_t_42, z_t_43, z_t_44, z_t_45, z_t_46, z_t_47, z_t_48, z_t_49, z_t_50, z_t_51, z_t_52, z_t_53, z_t_54, z_t_55, z_t_56, z_t_57, z_t_58, z_t_59, z_t_60])) :: (h_t_digit, .inl (k_t_digit, 500, .inr (.inl o_t_digit))) :: (h_t_leftU, .inl (k_t_leftU, 401, .inr (.inl o_t_leftU))) :: (h_t_leftV, .inl (k_t_leftV, 401, .inr (.inl o_t_leftV))) :: R) A) ?_ ?_ ?_
  · decide +kernel
  · exact Nat.le_of_ble_eq_true rfl
  intro p e s m args below meth c A ls S hr hlk hnm hS hA hP hD hK hN hl
  have S : CallFix p m c cX12_whole 20 s args AL "DigitBenchModel" := S
  have hx := S.1
  have hb := S.2.1
  have hown := S.2.2.2.1
  have ha := S.2.2.2.2
  have hl : lv_has ls 20 [(0, .ref h_t), (1, .long l1), (3, .long l3), (5, .long l5)] := hl
  have L9 : ∀ (Q : State → Prop) (n : Nat) (l1 : Int64) (l3 : Int64) (l5 : Int64) (l7 : Int64) (l9 : Int64) (l11 : Int32) (t_top : Int32) (t_digitMany : Int32) (t_digit : Nat → Int64) (t_leftU : Nat → Int64) (t_leftV : Nat → Int64) (x7 : Int64) (x9 : Int64) (x11 : Int32), f_X12_whole_L9 l1 l3 l5 t_a t_b t_root n l7 l9 l11 = some (x7, x9, x11) → ∀ (H : Heap) (locs : List Loc) (ls : Array Slot), va_P D vwCl ((h_t, .inr (12, [z_t_0, z_t_1, z_t_2, .int t_a, .int t_b, .int t_root, z_t_6, z_t_7, z_t_8, z_t_9, z_t_10, z_t_11, z_t_12, z_t_13, z_t_14, .int t_top, z_t_16, z_t_17, .int t_digitMany, .ref h_t_digit, .ref h_t_leftU, .ref h_t_leftV, z_t_22, z_t_23, z_t_24, z_t_25, z_t_26, z_t_27, z_t_28, z_t_29, z_t_30, z_t_31, z_t_32, z_t_33, z_t_34, z_t_35, z_t_36, z_t_37, z_t_38, z_t_39, z_t_40, z_t_41, z_t_42, z_t_43, z_t_44, z_t_45, z_t_46, z_t_47, z_t_48, z_t_49, z_t_50, z_t_51, z_t_52, z_t_53, z_t_54, z_t_55, z_t_56, z_t_57, z_t_58, z_t_59, z_t_60])) :: (h_t_digit, .inl (k_t_digit, 500, .inr (.inl t_digit))) :: (h_t_leftU, .inl (k_t_leftU, 401, .inr (.inl t_leftU))) :: (h_t_leftV, .inl (k_t_leftV, 401, .inr (.inl t_leftV))) :: R) H → va_D A ((h_t, .inr (12, [z_t_0, z_t_1, z_t_2, .int t_a, .int t_b, .int t_root, z_t_6, z_t_7, z_t_8, z_t_9, z_t_10, z_t_11, z_t_12, z_t_13, z_t_14, .int t_top, z_t_16, z_t_17, .int t_digitMany, .ref h_t_digit, .ref h_t_leftU, .ref h_t_leftV, z_t_22, z_t_23, z_t_24, z_t_25, z_t_26, z_t_27, z_t_28, z_t_29, z_t_30, z_t_31, z_t_32, z_t_33, z_t_34, z_t_35, z_t_36, z_t_37, z_t_38, z_t_39, z_t_40, z_t_41, z_t_42, z_t_43, z_t_44, z_t_45, z_t_46, z_t_47, z_t_48, z_t_49, z_t_50, z_t_51, z_t_52, z_t_53, z_t_54, z_t_55, z_t_56, z_t_57, z_t_58, z_t_59, z_t_60])) :: (h_t_digit, .inl (k_t_digit, 500, .inr (.inl t_digit))) :: (h_t_leftU, .inl (k_t_leftU, 401, .inr (.inl t_leftU))) :: (h_t_leftV, .inl (k_t_leftV, 401, .inr (.inl t_leftV))) :: R) → va_S A s.heap H locs → lv_has ls 20 [(0, .ref h_t), (1, .long l1), (3, .long l3), (5, .long l5), (7, .long l7), (9, .long l9), (11, .int l11)] → (∀ (H : Heap) (locs : List Loc) (ls : Array Slot), va_P D vwCl ((h_t, .inr (12, [z_t_0, z_t_1, z_t_2, .int t_a, .int t_b, .int t_root, z_t_6, z_t_7, z_t_8, z_t_9, z_t_10, z_t_11, z_t_12, z_t_13, z_t_14, .int t_top, z_t_16, z_t_17, .int t_digitMany, .ref h_t_digit, .ref h_t_leftU, .ref h_t_leftV, z_t_22, z_t_23, z_t_24, z_t_25, z_t_26, z_t_27, z_t_28, z_t_29, z_t_30, z_t_31, z_t_32, z_t_33, z_t_34, z_t_35, z_t_36, z_t_37, z_t_38, z_t_39, z_t_40, z_t_41, z_t_42, z_t_43, z_t_44, z_t_45, z_t_46, z_t_47, z_t_48, z_t_49, z_t_50, z_t_51, z_t_52, z_t_53, z_t_54, z_t_55, z_t_56, z_t_57, z_t_58, z_t_59, z_t_60])) :: (h_t_digit, .inl (k_t_digit, 500, .inr (.inl t_digit))) :: (h_t_leftU, .inl (k_t_leftU, 401, .inr (.inl t_leftU))) :: (h_t_leftV, .inl (k_t_leftV, 401, .inr (.inl t_leftV))) :: R) H → va_D A ((h_t, .inr (12, [z_t_0, z_t_1, z_t_2, .int t_a, .int t_b, .int t_root, z_t_6, z_t_7, z_t_8, z_t_9, z_t_10, z_t_11, z_t_12, z_t_13, z_t_14, .int t_top, z_t_16, z_t_17, .int t_digitMany, .ref h_t_digit, .ref h_t_leftU, .ref h_t_leftV, z_t_22, z_t_23, z_t_24, z_t_25, z_t_26, z_t_27, z_t_28, z_t_29, z_t_30, z_t_31, z_t_32, z_t_33, z_t_34, z_t_35, z_t_36, z_t_37, z_t_38, z_t_39, z_t_40, z_t_41, z_t_42, z_t_43, z_t_44, z_t_45, z_t_46, z_t_47, z_t_48, z_t_49, z_t_50, z_t_51, z_t_52, z_t_53, z_t_54, z_t_55, z_t_56, z_t_57, z_t_58, z_t_59, z_t_60])) :: (h_t_digit, .inl (k_t_digit, 500, .inr (.inl t_digit))) :: (h_t_leftU, .inl (k_t_leftU, 401, .inr (.inl t_leftU))) :: (h_t_leftV, .inl (k_t_leftV, 401, .inr (.inl t_leftV))) :: R) → va_S A s.heap H locs → lv_has ls 20 [(0, .ref h_t), (1, .long l1), (3, .long l3), (5, .long l5), (7, .long x7), (9, .long x9), (11, .int x11)] → W p l e { frames := 1, cells := 0, slots := 0, locals := 28 } s m args below meth c H locs 0 0 Q (F0 m 53 ls [])) → W p l e { frames := 1, cells := 0, slots := 0, locals := 28 } s m args below meth c H locs 0 0 Q (F0 m 9 ls []) := by
    intro Q n
    induction n with
    | zero =>
      intro l1 l3 l5 l7 l9 l11 t_top t_digitMany t_digit t_leftU t_leftV x7 x9 x11 h
      rw [f_X12_whole_L9] at h; cases h
    | succ n ih =>
      intro l1 l3 l5 l7 l9 l11 t_top t_digitMany t_digit t_leftU t_leftV x7 x9 x11 h H locs ls hP hD hS hl kk0
      rw [f_X12_whole_L9] at h
      refine lv_lload hx hb dX12_whole_9 (lv_at hl 5 rfl) ?_
      refine lv_aload_n hx hb dX12_whole_11 rfl (lv_at hl 0 rfl) ?_
      refine va_get (D := D) (ci := 12) (v := .int t_b) (C := RX12) (T := TX12) (N := 61) hx hb ha ix12 hown hK hP 0 rfl rfl 4 (by decide) (ha _ q964) (fun _ h9 => h9) rfl dX12_whole_12 ?_
      refine lv_i2l (v := t_b.toInt64) hx hb dX12_whole_15 rfl ?_
      refine lv_lmul hx hb dX12_whole_16 ?_
      refine lv_lstore (lv' := [(12, .long (l9 * t_b.toInt64)), (0, .ref h_t), (1, .long l1), (3, .long l3), (5, .long l5), (7, .long l7), (9, .long l9), (11, .int l11)]) hx hb dX12_whole_17 hl (by decide) rfl (fun ls hl => ?_)
      refine lv_lload hx hb dX12_whole_19 (lv_at hl 5 rfl) ?_
      refine lv_lload hx hb dX12_whole_21 (lv_at hl 6 rfl) ?_
      refine lv_aload_n hx hb dX12_whole_23 rfl (lv_at hl 1 rfl) ?_
      refine va_get (D := D) (ci := 12) (v := .int t_a) (C := RX12) (T := TX12) (N := 61) hx hb ha ix12 hown hK hP 0 rfl rfl 3 (by decide) (ha _ q963) (fun _ h9 => h9) rfl dX12_whole_24 ?_
      refine lv_i2l (v := t_a.toInt64) hx hb dX12_whole_27 rfl ?_
      refine lv_lmul hx hb dX12_whole_28 ?_
      refine lv_ladd hx hb dX12_whole_29 ?_
      refine lv_lstore (lv' := [(14, .long (l7 + (l9 * t_a.toInt64))), (12, .long (l9 * t_b.toInt64)), (0, .ref h_t), (1, .long l1), (3, .long l3), (5, .long l5), (7, .long l7), (9, .long l9), (11, .int l11)]) hx hb dX12_whole_30 hl (by decide) rfl (fun ls hl => ?_)
      refine lv_aload_n hx hb dX12_whole_32 rfl (lv_at hl 2 rfl) ?_
      refine lv_lload_n hx hb dX12_whole_33 rfl (lv_at hl 3 rfl) ?_
      refine lv_lload hx hb dX12_whole_34 (lv_at hl 1 rfl) ?_
      refine lv_lload hx hb dX12_whole_36 (lv_at hl 5 rfl) ?_
      refine lv_lmul hx hb dX12_whole_38 ?_
      refine lv_lsub hx hb dX12_whole_39 ?_
      refine lv_lload_n hx hb dX12_whole_40 rfl (lv_at hl 4 rfl) ?_
      refine lv_lload hx hb dX12_whole_41 (lv_at hl 0 rfl) ?_
      refine lv_lload hx hb dX12_whole_43 (lv_at hl 5 rfl) ?_
      refine lv_lmul hx hb dX12_whole_45 ?_
      refine lv_lsub hx hb dX12_whole_46 ?_
      obtain ⟨r_c47_0, e_c47_0, h⟩ := bnd1_ok h
      refine cl_i (rn_v (ci := 12) (As := [.long (l1 - ((l9 * t_b.toInt64) * l5)), .long (l3 - ((l7 + (l9 * t_a.toInt64)) * l5))]) (rest := []) S (c_X12_sign l D ((h_t_digit, .inl (k_t_digit, 500, .inr (.inl t_digit))) :: (h_t_leftU, .inl (k_t_leftU, 401, .inr (.inl t_leftU))) :: (h_t_leftV, .inl (k_t_leftV, 401, .inr (.inl t_leftV))) :: R) h_t (z_t_0) (z_t_1) (z_t_2) t_a (.int t_b) t_root (z_t_6) (z_t_7) (z_t_8) (z_t_9) (z_t_10) (z_t_11) (z_t_12) (z_t_13) (z_t_14) (.int t_top) (z_t_16) (z_t_17) (.int t_digitMany) (.ref h_t_digit) (.ref h_t_leftU) (.ref h_t_leftV) (z_t_22) (z_t_23) (z_t_24) (z_t_25) (z_t_26) (z_t_27) (z_t_28) (z_t_29) (z_t_30) (z_t_31) (z_t_32) (z_t_33) (z_t_34) (z_t_35) (z_t_36) (z_t_37) (z_t_38) (z_t_39) (z_t_40) (z_t_41) (z_t_42) (z_t_43) (z_t_44) (z_t_45) (z_t_46) (z_t_47) (z_t_48) (z_t_49) (z_t_50) (z_t_51) (z_t_52) (z_t_53) (z_t_54) (z_t_55) (z_t_56) (z_t_57) (z_t_58) (z_t_59) (z_t_60) (l1 - ((l9 * t_b.toInt64) * l5)) (l3 - ((l7 + (l9 * t_a.toInt64)) * l5)) r_c47_0 e_c47_0 _) q1222 q1224 q35 q61 q1225 nd_X12_sign ⟨Nat.le_of_ble_eq_true rfl, Nat.le_of_ble_eq_true rfl⟩ rfl rfl hP hD (hK.sub (tys' := []) [] rfl) hN rfl ⟨0, _, rfl⟩ rfl hl.1 rfl (Nat.le_of_ble_eq_true rfl) dX12_whole_47 ⟨Nat.le_of_ble_eq_true rfl, Nat.le_of_ble_eq_true rfl⟩) hS hA hD (fun H locs hP hD hS => ?_)
      have hP : va_P D vwCl ((h_t, .inr (12, [z_t_0, z_t_1, z_t_2, .int t_a, .int t_b, .int t_root, z_t_6, z_t_7, z_t_8, z_t_9, z_t_10, z_t_11, z_t_12, z_t_13, z_t_14, .int t_top, z_t_16, z_t_17, .int t_digitMany, .ref h_t_digit, .ref h_t_leftU, .ref h_t_leftV, z_t_22, z_t_23, z_t_24, z_t_25, z_t_26, z_t_27, z_t_28, z_t_29, z_t_30, z_t_31, z_t_32, z_t_33, z_t_34, z_t_35, z_t_36, z_t_37, z_t_38, z_t_39, z_t_40, z_t_41, z_t_42, z_t_43, z_t_44, z_t_45, z_t_46, z_t_47, z_t_48, z_t_49, z_t_50, z_t_51, z_t_52, z_t_53, z_t_54, z_t_55, z_t_56, z_t_57, z_t_58, z_t_59, z_t_60])) :: (h_t_digit, .inl (k_t_digit, 500, .inr (.inl t_digit))) :: (h_t_leftU, .inl (k_t_leftU, 401, .inr (.inl t_leftU))) :: (h_t_leftV, .inl (k_t_leftV, 401, .inr (.inl t_leftV))) :: R) H := hP
      have hD : va_D A ((h_t, .inr (12, [z_t_0, z_t_1, z_t_2, .int t_a, .int t_b, .int t_root, z_t_6, z_t_7, z_t_8, z_t_9, z_t_10, z_t_11, z_t_12, z_t_13, z_t_14, .int t_top, z_t_16, z_t_17, .int t_digitMany, .ref h_t_digit, .ref h_t_leftU, .ref h_t_leftV, z_t_22, z_t_23, z_t_24, z_t_25, z_t_26, z_t_27, z_t_28, z_t_29, z_t_30, z_t_31, z_t_32, z_t_33, z_t_34, z_t_35, z_t_36, z_t_37, z_t_38, z_t_39, z_t_40, z_t_41, z_t_42, z_t_43, z_t_44, z_t_45, z_t_46, z_t_47, z_t_48, z_t_49, z_t_50, z_t_51, z_t_52, z_t_53, z_t_54, z_t_55, z_t_56, z_t_57, z_t_58, z_t_59, z_t_60])) :: (h_t_digit, .inl (k_t_digit, 500, .inr (.inl t_digit))) :: (h_t_leftU, .inl (k_t_leftU, 401, .inr (.inl t_leftU))) :: (h_t_leftV, .inl (k_t_leftV, 401, .inr (.inl t_leftV))) :: R) := hD
      refine lv_if_ge (tgt := 56) hx hb dX12_whole_50 (by decide) (fun c2 => ?_) (fun c2 => ?_)
      · have h := br_pos c2 h
        refine lv_lload hx hb dX12_whole_56 (lv_at hl 1 rfl) ?_
        refine lv_lstore (lv' := [(7, .long (l9 * t_b.toInt64)), (14, .long (l7 + (l9 * t_a.toInt64))), (12, .long (l9 * t_b.toInt64)), (0, .ref h_t), (1, .long l1), (3, .long l3), (5, .long l5), (9, .long l9), (11, .int l11)]) hx hb dX12_whole_58 hl (by decide) rfl (fun ls hl => ?_)
        refine lv_lload hx hb dX12_whole_60 (lv_at hl 1 rfl) ?_
        refine lv_lstore (lv' := [(9, .long (l7 + (l9 * t_a.toInt64))), (7, .long (l9 * t_b.toInt64)), (14, .long (l7 + (l9 * t_a.toInt64))), (12, .long (l9 * t_b.toInt64)), (0, .ref h_t), (1, .long l1), (3, .long l3), (5, .long l5), (11, .int l11)]) hx hb dX12_whole_62 hl (by decide) rfl (fun ls hl => ?_)
        refine lv_iinc (v := (l11 + 1)) (lv' := [(11, .int (l11 + 1)), (9, .long (l7 + (l9 * t_a.toInt64))), (7, .long (l9 * t_b.toInt64)), (14, .long (l7 + (l9 * t_a.toInt64))), (12, .long (l9 * t_b.toInt64)), (0, .ref h_t), (1, .long l1), (3, .long l3), (5, .long l5)]) hx hb dX12_whole_64 hl (k := 8) rfl rfl (by decide) rfl (fun ls hl => ?_)
        refine lv_goto (tgt := 9) hx hb dX12_whole_67 (by decide) ?_
        exact ih l1 l3 l5 (l9 * t_b.toInt64) (l7 + (l9 * t_a.toInt64)) (l11 + 1) t_top t_digitMany t_digit t_leftU t_leftV _ _ _ h _ _ _ hP hD hS (lv_sub hl [5, 6, 7, 8, 2, 1, 0] rfl) kk0
      · have h := br_neg c2 h
        cases h
        exact kk0 _ _ _ hP hD hS (lv_sub hl [2, 3, 4, 5, 6, 7, 8] rfl)
  have L95 : ∀ (Q : State → Prop) (n : Nat) (l5 : Int64) (l7 : Int64) (l9 : Int64) (l11 : Int32) (l12 : Int64) (l14 : Int64) (l16 : Int64) (t_top : Int32) (t_digitMany : Int32) (t_digit : Nat → Int64) (t_leftU : Nat → Int64) (t_leftV : Nat → Int64) (x12 : Int64) (x14 : Int64) (x16 : Int64), f_X12_whole_L95 l5 l7 l9 t_a t_root n l12 l14 l16 = some (x12, x14, x16) → ∀ (H : Heap) (locs : List Loc) (ls : Array Slot), va_P D vwCl ((h_t, .inr (12, [z_t_0, z_t_1, z_t_2, .int t_a, .int t_b, .int t_root, z_t_6, z_t_7, z_t_8, z_t_9, z_t_10, z_t_11, z_t_12, z_t_13, z_t_14, .int t_top, z_t_16, z_t_17, .int t_digitMany, .ref h_t_digit, .ref h_t_leftU, .ref h_t_leftV, z_t_22, z_t_23, z_t_24, z_t_25, z_t_26, z_t_27, z_t_28, z_t_29, z_t_30, z_t_31, z_t_32, z_t_33, z_t_34, z_t_35, z_t_36, z_t_37, z_t_38, z_t_39, z_t_40, z_t_41, z_t_42, z_t_43, z_t_44, z_t_45, z_t_46, z_t_47, z_t_48, z_t_49, z_t_50, z_t_51, z_t_52, z_t_53, z_t_54, z_t_55, z_t_56, z_t_57, z_t_58, z_t_59, z_t_60])) :: (h_t_digit, .inl (k_t_digit, 500, .inr (.inl t_digit))) :: (h_t_leftU, .inl (k_t_leftU, 401, .inr (.inl t_leftU))) :: (h_t_leftV, .inl (k_t_leftV, 401, .inr (.inl t_leftV))) :: R) H → va_D A ((h_t, .inr (12, [z_t_0, z_t_1, z_t_2, .int t_a, .int t_b, .int t_root, z_t_6, z_t_7, z_t_8, z_t_9, z_t_10, z_t_11, z_t_12, z_t_13, z_t_14, .int t_top, z_t_16, z_t_17, .int t_digitMany, .ref h_t_digit, .ref h_t_leftU, .ref h_t_leftV, z_t_22, z_t_23, z_t_24, z_t_25, z_t_26, z_t_27, z_t_28, z_t_29, z_t_30, z_t_31, z_t_32, z_t_33, z_t_34, z_t_35, z_t_36, z_t_37, z_t_38, z_t_39, z_t_40, z_t_41, z_t_42, z_t_43, z_t_44, z_t_45, z_t_46, z_t_47, z_t_48, z_t_49, z_t_50, z_t_51, z_t_52, z_t_53, z_t_54, z_t_55, z_t_56, z_t_57, z_t_58, z_t_59, z_t_60])) :: (h_t_digit, .inl (k_t_digit, 500, .inr (.inl t_digit))) :: (h_t_leftU, .inl (k_t_leftU, 401, .inr (.inl t_leftU))) :: (h_t_leftV, .inl (k_t_leftV, 401, .inr (.inl t_leftV))) :: R) → va_S A s.heap H locs → lv_has ls 20 [(0, .ref h_t), (5, .long l5), (7, .long l7), (9, .long l9), (11, .int l11), (12, .long l12), (14, .long l14), (16, .long l16)] → (∀ (H : Heap) (locs : List Loc) (ls : Array Slot), va_P D vwCl ((h_t, .inr (12, [z_t_0, z_t_1, z_t_2, .int t_a, .int t_b, .int t_root, z_t_6, z_t_7, z_t_8, z_t_9, z_t_10, z_t_11, z_t_12, z_t_13, z_t_14, .int t_top, z_t_16, z_t_17, .int t_digitMany, .ref h_t_digit, .ref h_t_leftU, .ref h_t_leftV, z_t_22, z_t_23, z_t_24, z_t_25, z_t_26, z_t_27, z_t_28, z_t_29, z_t_30, z_t_31, z_t_32, z_t_33, z_t_34, z_t_35, z_t_36, z_t_37, z_t_38, z_t_39, z_t_40, z_t_41, z_t_42, z_t_43, z_t_44, z_t_45, z_t_46, z_t_47, z_t_48, z_t_49, z_t_50, z_t_51, z_t_52, z_t_53, z_t_54, z_t_55, z_t_56, z_t_57, z_t_58, z_t_59, z_t_60])) :: (h_t_digit, .inl (k_t_digit, 500, .inr (.inl t_digit))) :: (h_t_leftU, .inl (k_t_leftU, 401, .inr (.inl t_leftU))) :: (h_t_leftV, .inl (k_t_leftV, 401, .inr (.inl t_leftV))) :: R) H → va_D A ((h_t, .inr (12, [z_t_0, z_t_1, z_t_2, .int t_a, .int t_b, .int t_root, z_t_6, z_t_7, z_t_8, z_t_9, z_t_10, z_t_11, z_t_12, z_t_13, z_t_14, .int t_top, z_t_16, z_t_17, .int t_digitMany, .ref h_t_digit, .ref h_t_leftU, .ref h_t_leftV, z_t_22, z_t_23, z_t_24, z_t_25, z_t_26, z_t_27, z_t_28, z_t_29, z_t_30, z_t_31, z_t_32, z_t_33, z_t_34, z_t_35, z_t_36, z_t_37, z_t_38, z_t_39, z_t_40, z_t_41, z_t_42, z_t_43, z_t_44, z_t_45, z_t_46, z_t_47, z_t_48, z_t_49, z_t_50, z_t_51, z_t_52, z_t_53, z_t_54, z_t_55, z_t_56, z_t_57, z_t_58, z_t_59, z_t_60])) :: (h_t_digit, .inl (k_t_digit, 500, .inr (.inl t_digit))) :: (h_t_leftU, .inl (k_t_leftU, 401, .inr (.inl t_leftU))) :: (h_t_leftV, .inl (k_t_leftV, 401, .inr (.inl t_leftV))) :: R) → va_S A s.heap H locs → lv_has ls 20 [(0, .ref h_t), (5, .long l5), (7, .long l7), (9, .long l9), (11, .int l11), (12, .long x12), (14, .long x14), (16, .long x16)] → W p l e { frames := 1, cells := 0, slots := 0, locals := 28 } s m args below meth c H locs 0 0 Q (F0 m 147 ls [])) → W p l e { frames := 1, cells := 0, slots := 0, locals := 28 } s m args below meth c H locs 0 0 Q (F0 m 95 ls []) := by
    intro Q n
    induction n with
    | zero =>
      intro l5 l7 l9 l11 l12 l14 l16 t_top t_digitMany t_digit t_leftU t_leftV x12 x14 x16 h
      rw [f_X12_whole_L95] at h; cases h
    | succ n ih =>
      intro l5 l7 l9 l11 l12 l14 l16 t_top t_digitMany t_digit t_leftU t_leftV x12 x14 x16 h H locs ls hP hD hS hl kk0
      rw [f_X12_whole_L95] at h
      refine lv_aload_n hx hb dX12_whole_95 rfl (lv_at hl 0 rfl) ?_
      refine lv_lload hx hb dX12_whole_96 (lv_at hl 5 rfl) ?_
      refine lv_lload hx hb dX12_whole_98 (lv_at hl 2 rfl) ?_
      refine lv_lload hx hb dX12_whole_100 (lv_at hl 1 rfl) ?_
      refine lv_lmul hx hb dX12_whole_102 ?_
      refine lv_lsub hx hb dX12_whole_103 ?_
      refine lv_lload hx hb dX12_whole_104 (lv_at hl 6 rfl) ?_
      refine lv_lload hx hb dX12_whole_106 (lv_at hl 3 rfl) ?_
      refine lv_lload hx hb dX12_whole_108 (lv_at hl 1 rfl) ?_
      refine lv_lmul hx hb dX12_whole_110 ?_
      refine lv_lsub hx hb dX12_whole_111 ?_
      obtain ⟨r_c112_4, e_c112_4, h⟩ := bnd1_ok h
      refine cl_i (rn_v (ci := 12) (As := [.long (l12 - (l7 * l5)), .long (l14 - (l9 * l5))]) (rest := []) S (c_X12_sign l D ((h_t_digit, .inl (k_t_digit, 500, .inr (.inl t_digit))) :: (h_t_leftU, .inl (k_t_leftU, 401, .inr (.inl t_leftU))) :: (h_t_leftV, .inl (k_t_leftV, 401, .inr (.inl t_leftV))) :: R) h_t (z_t_0) (z_t_1) (z_t_2) t_a (.int t_b) t_root (z_t_6) (z_t_7) (z_t_8) (z_t_9) (z_t_10) (z_t_11) (z_t_12) (z_t_13) (z_t_14) (.int t_top) (z_t_16) (z_t_17) (.int t_digitMany) (.ref h_t_digit) (.ref h_t_leftU) (.ref h_t_leftV) (z_t_22) (z_t_23) (z_t_24) (z_t_25) (z_t_26) (z_t_27) (z_t_28) (z_t_29) (z_t_30) (z_t_31) (z_t_32) (z_t_33) (z_t_34) (z_t_35) (z_t_36) (z_t_37) (z_t_38) (z_t_39) (z_t_40) (z_t_41) (z_t_42) (z_t_43) (z_t_44) (z_t_45) (z_t_46) (z_t_47) (z_t_48) (z_t_49) (z_t_50) (z_t_51) (z_t_52) (z_t_53) (z_t_54) (z_t_55) (z_t_56) (z_t_57) (z_t_58) (z_t_59) (z_t_60) (l12 - (l7 * l5)) (l14 - (l9 * l5)) r_c112_4 e_c112_4 _) q1222 q1224 q35 q61 q1225 nd_X12_sign ⟨Nat.le_of_ble_eq_true rfl, Nat.le_of_ble_eq_true rfl⟩ rfl rfl hP hD (hK.sub (tys' := []) [] rfl) hN rfl ⟨0, _, rfl⟩ rfl hl.1 rfl (Nat.le_of_ble_eq_true rfl) dX12_whole_112 ⟨Nat.le_of_ble_eq_true rfl, Nat.le_of_ble_eq_true rfl⟩) hS hA hD (fun H locs hP hD hS => ?_)
      have hP : va_P D vwCl ((h_t, .inr (12, [z_t_0, z_t_1, z_t_2, .int t_a, .int t_b, .int t_root, z_t_6, z_t_7, z_t_8, z_t_9, z_t_10, z_t_11, z_t_12, z_t_13, z_t_14, .int t_top, z_t_16, z_t_17, .int t_digitMany, .ref h_t_digit, .ref h_t_leftU, .ref h_t_leftV, z_t_22, z_t_23, z_t_24, z_t_25, z_t_26, z_t_27, z_t_28, z_t_29, z_t_30, z_t_31, z_t_32, z_t_33, z_t_34, z_t_35, z_t_36, z_t_37, z_t_38, z_t_39, z_t_40, z_t_41, z_t_42, z_t_43, z_t_44, z_t_45, z_t_46, z_t_47, z_t_48, z_t_49, z_t_50, z_t_51, z_t_52, z_t_53, z_t_54, z_t_55, z_t_56, z_t_57, z_t_58, z_t_59, z_t_60])) :: (h_t_digit, .inl (k_t_digit, 500, .inr (.inl t_digit))) :: (h_t_leftU, .inl (k_t_leftU, 401, .inr (.inl t_leftU))) :: (h_t_leftV, .inl (k_t_leftV, 401, .inr (.inl t_leftV))) :: R) H := hP
      have hD : va_D A ((h_t, .inr (12, [z_t_0, z_t_1, z_t_2, .int t_a, .int t_b, .int t_root, z_t_6, z_t_7, z_t_8, z_t_9, z_t_10, z_t_11, z_t_12, z_t_13, z_t_14, .int t_top, z_t_16, z_t_17, .int t_digitMany, .ref h_t_digit, .ref h_t_leftU, .ref h_t_leftV, z_t_22, z_t_23, z_t_24, z_t_25, z_t_26, z_t_27, z_t_28, z_t_29, z_t_30, z_t_31, z_t_32, z_t_33, z_t_34, z_t_35, z_t_36, z_t_37, z_t_38, z_t_39, z_t_40, z_t_41, z_t_42, z_t_43, z_t_44, z_t_45, z_t_46, z_t_47, z_t_48, z_t_49, z_t_50, z_t_51, z_t_52, z_t_53, z_t_54, z_t_55, z_t_56, z_t_57, z_t_58, z_t_59, z_t_60])) :: (h_t_digit, .inl (k_t_digit, 500, .inr (.inl t_digit))) :: (h_t_leftU, .inl (k_t_leftU, 401, .inr (.inl t_leftU))) :: (h_t_leftV, .inl (k_t_leftV, 401, .inr (.inl t_leftV))) :: R) := hD
      refine lv_if_lt (tgt := 147) hx hb dX12_whole_115 (by decide) (fun c6 => ?_) (fun c6 => ?_)
      · have h := br_pos c6 h
        cases h
        exact kk0 _ _ _ hP hD hS (lv_sub hl [0, 1, 2, 3, 4, 5, 6, 7] rfl)
      · have h := br_neg c6 h
        refine lv_lload hx hb dX12_whole_118 (lv_at hl 5 rfl) ?_
        refine lv_lload hx hb dX12_whole_120 (lv_at hl 2 rfl) ?_
        refine lv_lload hx hb dX12_whole_122 (lv_at hl 1 rfl) ?_
        refine lv_lmul hx hb dX12_whole_124 ?_
        refine lv_lsub hx hb dX12_whole_125 ?_
        refine lv_lstore (lv' := [(12, .long (l12 - (l7 * l5))), (0, .ref h_t), (5, .long l5), (7, .long l7), (9, .long l9), (11, .int l11), (14, .long l14), (16, .long l16)]) hx hb dX12_whole_126 hl (by decide) rfl (fun ls hl => ?_)
        refine lv_lload hx hb dX12_whole_128 (lv_at hl 6 rfl) ?_
        refine lv_lload hx hb dX12_whole_130 (lv_at hl 4 rfl) ?_
        refine lv_lload hx hb dX12_whole_132 (lv_at hl 2 rfl) ?_
        refine lv_lmul hx hb dX12_whole_134 ?_
        refine lv_lsub hx hb dX12_whole_135 ?_
        refine lv_lstore (lv' := [(14, .long (l14 - (l9 * l5))), (12, .long (l12 - (l7 * l5))), (0, .ref h_t), (5, .long l5), (7, .long l7), (9, .long l9), (11, .int l11), (16, .long l16)]) hx hb dX12_whole_136 hl (by decide) rfl (fun ls hl => ?_)
        refine lv_lload hx hb dX12_whole_138 (lv_at hl 7 rfl) ?_
        refine lv_lconst (v := 1) hx hb dX12_whole_140 (by decide) ?_
        refine lv_ladd hx hb dX12_whole_141 ?_
        refine lv_lstore (lv' := [(16, .long (l16 + 1)), (14, .long (l14 - (l9 * l5))), (12, .long (l12 - (l7 * l5))), (0, .ref h_t), (5, .long l5), (7, .long l7), (9, .long l9), (11, .int l11)]) hx hb dX12_whole_142 hl (by decide) rfl (fun ls hl => ?_)
        refine lv_goto (tgt := 95) hx hb dX12_whole_144 (by decide) ?_
        exact ih l5 l7 l9 l11 (l12 - (l7 * l5)) (l14 - (l9 * l5)) (l16 + 1) t_top t_digitMany t_digit t_leftU t_leftV _ _ _ h _ _ _ hP hD hS (lv_sub hl [3, 4, 5, 6, 7, 2, 1, 0] rfl) kk0
  have L87 : ∀ (Q : State → Prop) (n : Nat) (l5 : Int64) (l7 : Int64) (l9 : Int64) (l11 : Int32) (l12 : Int64) (l14 : Int64) (t_top : Int32) (t_digitMany : Int32) (t_digit : Nat → Int64) (t_leftU : Nat → Int64) (t_leftV : Nat → Int64) (x12 : Int64) (x14 : Int64) (x_t_digitMany : Int32) (x_t_digit : Nat → Int64), f_X12_whole_L87 l5 t_a t_b t_root n l7 l9 l11 l12 l14 t_digitMany t_digit = some (x12, x14, x_t_digitMany, x_t_digit) → ∀ (H : Heap) (locs : List Loc) (ls : Array Slot), va_P D vwCl ((h_t, .inr (12, [z_t_0, z_t_1, z_t_2, .int t_a, .int t_b, .int t_root, z_t_6, z_t_7, z_t_8, z_t_9, z_t_10, z_t_11, z_t_12, z_t_13, z_t_14, .int t_top, z_t_16, z_t_17, .int t_digitMany, .ref h_t_digit, .ref h_t_leftU, .ref h_t_leftV, z_t_22, z_t_23, z_t_24, z_t_25, z_t_26, z_t_27, z_t_28, z_t_29, z_t_30, z_t_31, z_t_32, z_t_33, z_t_34, z_t_35, z_t_36, z_t_37, z_t_38, z_t_39, z_t_40, z_t_41, z_t_42, z_t_43, z_t_44, z_t_45, z_t_46, z_t_47, z_t_48, z_t_49, z_t_50, z_t_51, z_t_52, z_t_53, z_t_54, z_t_55, z_t_56, z_t_57, z_t_58, z_t_59, z_t_60])) :: (h_t_digit, .inl (k_t_digit, 500, .inr (.inl t_digit))) :: (h_t_leftU, .inl (k_t_leftU, 401, .inr (.inl t_leftU))) :: (h_t_leftV, .inl (k_t_leftV, 401, .inr (.inl t_leftV))) :: R) H → va_D A ((h_t, .inr (12, [z_t_0, z_t_1, z_t_2, .int t_a, .int t_b, .int t_root, z_t_6, z_t_7, z_t_8, z_t_9, z_t_10, z_t_11, z_t_12, z_t_13, z_t_14, .int t_top, z_t_16, z_t_17, .int t_digitMany, .ref h_t_digit, .ref h_t_leftU, .ref h_t_leftV, z_t_22, z_t_23, z_t_24, z_t_25, z_t_26, z_t_27, z_t_28, z_t_29, z_t_30, z_t_31, z_t_32, z_t_33, z_t_34, z_t_35, z_t_36, z_t_37, z_t_38, z_t_39, z_t_40, z_t_41, z_t_42, z_t_43, z_t_44, z_t_45, z_t_46, z_t_47, z_t_48, z_t_49, z_t_50, z_t_51, z_t_52, z_t_53, z_t_54, z_t_55, z_t_56, z_t_57, z_t_58, z_t_59, z_t_60])) :: (h_t_digit, .inl (k_t_digit, 500, .inr (.inl t_digit))) :: (h_t_leftU, .inl (k_t_leftU, 401, .inr (.inl t_leftU))) :: (h_t_leftV, .inl (k_t_leftV, 401, .inr (.inl t_leftV))) :: R) → va_S A s.heap H locs → lv_has ls 20 [(0, .ref h_t), (5, .long l5), (7, .long l7), (9, .long l9), (11, .int l11), (12, .long l12), (14, .long l14)] → (∀ (H : Heap) (locs : List Loc) (ls : Array Slot), va_P D vwCl ((h_t, .inr (12, [z_t_0, z_t_1, z_t_2, .int t_a, .int t_b, .int t_root, z_t_6, z_t_7, z_t_8, z_t_9, z_t_10, z_t_11, z_t_12, z_t_13, z_t_14, .int t_top, z_t_16, z_t_17, .int x_t_digitMany, .ref h_t_digit, .ref h_t_leftU, .ref h_t_leftV, z_t_22, z_t_23, z_t_24, z_t_25, z_t_26, z_t_27, z_t_28, z_t_29, z_t_30, z_t_31, z_t_32, z_t_33, z_t_34, z_t_35, z_t_36, z_t_37, z_t_38, z_t_39, z_t_40, z_t_41, z_t_42, z_t_43, z_t_44, z_t_45, z_t_46, z_t_47, z_t_48, z_t_49, z_t_50, z_t_51, z_t_52, z_t_53, z_t_54, z_t_55, z_t_56, z_t_57, z_t_58, z_t_59, z_t_60])) :: (h_t_digit, .inl (k_t_digit, 500, .inr (.inl x_t_digit))) :: (h_t_leftU, .inl (k_t_leftU, 401, .inr (.inl t_leftU))) :: (h_t_leftV, .inl (k_t_leftV, 401, .inr (.inl t_leftV))) :: R) H → va_D A ((h_t, .inr (12, [z_t_0, z_t_1, z_t_2, .int t_a, .int t_b, .int t_root, z_t_6, z_t_7, z_t_8, z_t_9, z_t_10, z_t_11, z_t_12, z_t_13, z_t_14, .int t_top, z_t_16, z_t_17, .int x_t_digitMany, .ref h_t_digit, .ref h_t_leftU, .ref h_t_leftV, z_t_22, z_t_23, z_t_24, z_t_25, z_t_26, z_t_27, z_t_28, z_t_29, z_t_30, z_t_31, z_t_32, z_t_33, z_t_34, z_t_35, z_t_36, z_t_37, z_t_38, z_t_39, z_t_40, z_t_41, z_t_42, z_t_43, z_t_44, z_t_45, z_t_46, z_t_47, z_t_48, z_t_49, z_t_50, z_t_51, z_t_52, z_t_53, z_t_54, z_t_55, z_t_56, z_t_57, z_t_58, z_t_59, z_t_60])) :: (h_t_digit, .inl (k_t_digit, 500, .inr (.inl x_t_digit))) :: (h_t_leftU, .inl (k_t_leftU, 401, .inr (.inl t_leftU))) :: (h_t_leftV, .inl (k_t_leftV, 401, .inr (.inl t_leftV))) :: R) → va_S A s.heap H locs → lv_has ls 20 [(0, .ref h_t), (12, .long x12), (14, .long x14)] → W p l e { frames := 1, cells := 0, slots := 0, locals := 28 } s m args below meth c H locs 0 0 Q (F0 m 207 ls [])) → W p l e { frames := 1, cells := 0, slots := 0, locals := 28 } s m args below meth c H locs 0 0 Q (F0 m 87 ls []) := by
    intro Q n
    induction n with
    | zero =>
      intro l5 l7 l9 l11 l12 l14 t_top t_digitMany t_digit t_leftU t_leftV x12 x14 x_t_digitMany x_t_digit h
      rw [f_X12_whole_L87] at h; cases h
    | succ n ih =>
      intro l5 l7 l9 l11 l12 l14 t_top t_digitMany t_digit t_leftU t_leftV x12 x14 x_t_digitMany x_t_digit h H locs ls hP hD hS hl kk0
      rw [f_X12_whole_L87] at h
      refine lv_iload hx hb dX12_whole_87 (lv_at hl 4 rfl) ?_
      refine lv_if_lt (tgt := 207) hx hb dX12_whole_89 (by decide) (fun c4 => ?_) (fun c4 => ?_)
      · have h := br_pos c4 h
        cases h
        exact kk0 _ _ _ hP hD hS (lv_sub hl [0, 5, 6] rfl)
      · have h := br_neg c4 h
        refine lv_lconst (v := 0) hx hb dX12_whole_92 (by decide) ?_
        refine lv_lstore (lv' := [(16, .long 0), (0, .ref h_t), (5, .long l5), (7, .long l7), (9, .long l9), (11, .int l11), (12, .long l12), (14, .long l14)]) hx hb dX12_whole_93 hl (by decide) rfl (fun ls hl => ?_)
        obtain ⟨x12_L95_6, x14_L95_6, x16_L95_6, e_L95_6, h⟩ := bnd3_ok h
        refine L95 _ _ l5 l7 l9 l11 l12 l14 0 t_top t_digitMany t_digit t_leftU t_leftV x12_L95_6 x14_L95_6 x16_L95_6 e_L95_6 _ _ _ hP hD hS (lv_sub hl [1, 2, 3, 4, 5, 6, 7, 0] rfl) ?_
        intro H locs ls hP hD hS hl
        refine lv_aload_n hx hb dX12_whole_147 rfl (lv_at hl 0 rfl) ?_
        refine va_get (D := D) (ci := 12) (v := .ref h_t_digit) (C := RX12) (T := TX12) (N := 61) hx hb ha ix12 hown hK hP 0 rfl rfl 19 (by decide) (ha _ q979) (fun _ h9 => h9) rfl dX12_whole_148 ?_
        refine lv_aload_n hx hb dX12_whole_151 rfl (lv_at hl 0 rfl) ?_
        refine va_get (D := D) (ci := 12) (v := .int t_digitMany) (C := RX12) (T := TX12) (N := 61) hx hb ha ix12 hown hK hP 0 rfl rfl 18 (by decide) (ha _ q978) (fun _ h9 => h9) rfl dX12_whole_152 ?_
        refine lv_lload hx hb dX12_whole_155 (lv_at hl 7 rfl) ?_
        obtain ⟨i8, h⟩ := ix_ok h
        refine va_last hx hb hK hP hD hS 1 0 rfl rfl i8 dX12_whole_157 (fun H locs hP hD hS => ?_)
        have hP : va_P D vwCl ((h_t, .inr (12, [z_t_0, z_t_1, z_t_2, .int t_a, .int t_b, .int t_root, z_t_6, z_t_7, z_t_8, z_t_9, z_t_10, z_t_11, z_t_12, z_t_13, z_t_14, .int t_top, z_t_16, z_t_17, .int t_digitMany, .ref h_t_digit, .ref h_t_leftU, .ref h_t_leftV, z_t_22, z_t_23, z_t_24, z_t_25, z_t_26, z_t_27, z_t_28, z_t_29, z_t_30, z_t_31, z_t_32, z_t_33, z_t_34, z_t_35, z_t_36, z_t_37, z_t_38, z_t_39, z_t_40, z_t_41, z_t_42, z_t_43, z_t_44, z_t_45, z_t_46, z_t_47, z_t_48, z_t_49, z_t_50, z_t_51, z_t_52, z_t_53, z_t_54, z_t_55, z_t_56, z_t_57, z_t_58, z_t_59, z_t_60])) :: (h_t_digit, .inl (k_t_digit, 500, .inr (.inl (vp_updL t_digit t_digitMany.toNatClampNeg x16_L95_6)))) :: (h_t_leftU, .inl (k_t_leftU, 401, .inr (.inl t_leftU))) :: (h_t_leftV, .inl (k_t_leftV, 401, .inr (.inl t_leftV))) :: R) H := hP
        have hD : va_D A ((h_t, .inr (12, [z_t_0, z_t_1, z_t_2, .int t_a, .int t_b, .int t_root, z_t_6, z_t_7, z_t_8, z_t_9, z_t_10, z_t_11, z_t_12, z_t_13, z_t_14, .int t_top, z_t_16, z_t_17, .int t_digitMany, .ref h_t_digit, .ref h_t_leftU, .ref h_t_leftV, z_t_22, z_t_23, z_t_24, z_t_25, z_t_26, z_t_27, z_t_28, z_t_29, z_t_30, z_t_31, z_t_32, z_t_33, z_t_34, z_t_35, z_t_36, z_t_37, z_t_38, z_t_39, z_t_40, z_t_41, z_t_42, z_t_43, z_t_44, z_t_45, z_t_46, z_t_47, z_t_48, z_t_49, z_t_50, z_t_51, z_t_52, z_t_53, z_t_54, z_t_55, z_t_56, z_t_57, z_t_58, z_t_59, z_t_60])) :: (h_t_digit, .inl (k_t_digit, 500, .inr (.inl (vp_updL t_digit t_digitMany.toNatClampNeg x16_L95_6)))) :: (h_t_leftU, .inl (k_t_leftU, 401, .inr (.inl t_leftU))) :: (h_t_leftV, .inl (k_t_leftV, 401, .inr (.inl t_leftV))) :: R) := hD
        refine lv_aload_n hx hb dX12_whole_158 rfl (lv_at hl 0 rfl) ?_
        refine lv_dup hx hb dX12_whole_159 rfl ?_
        refine va_get (D := D) (ci := 12) (v := .int t_digitMany) (C := RX12) (T := TX12) (N := 61) hx hb ha ix12 hown hK hP 0 rfl rfl 18 (by decide) (ha _ q978) (fun _ h9 => h9) rfl dX12_whole_160 ?_
        refine lv_iconst (v := 1) hx hb dX12_whole_163 (by decide) ?_
        refine lv_iadd hx hb dX12_whole_164 ?_
        refine va_put (D := D) (ci := 12) (v := .int (t_digitMany + 1)) (ty := .int) (C := RX12) (T := TX12) (N := 61) hx hb ha ix12 tyX12 tyX12_ok nmX12 hown hK hP hD hS 0 rfl rfl 18 (by decide) (ha _ q978) (fun _ h9 => h9) rfl (by decide +kernel) rfl rfl (Nat.le_of_ble_eq_true rfl) dX12_whole_165 (fun H locs hP hD hS => ?_)
        have hP : va_P D vwCl ((h_t, .inr (12, [z_t_0, z_t_1, z_t_2, .int t_a, .int t_b, .int t_root, z_t_6, z_t_7, z_t_8, z_t_9, z_t_10, z_t_11, z_t_12, z_t_13, z_t_14, .int t_top, z_t_16, z_t_17, .int (t_digitMany + 1), .ref h_t_digit, .ref h_t_leftU, .ref h_t_leftV, z_t_22, z_t_23, z_t_24, z_t_25, z_t_26, z_t_27, z_t_28, z_t_29, z_t_30, z_t_31, z_t_32, z_t_33, z_t_34, z_t_35, z_t_36, z_t_37, z_t_38, z_t_39, z_t_40, z_t_41, z_t_42, z_t_43, z_t_44, z_t_45, z_t_46, z_t_47, z_t_48, z_t_49, z_t_50, z_t_51, z_t_52, z_t_53, z_t_54, z_t_55, z_t_56, z_t_57, z_t_58, z_t_59, z_t_60])) :: (h_t_digit, .inl (k_t_digit, 500, .inr (.inl (vp_updL t_digit t_digitMany.toNatClampNeg x16_L95_6)))) :: (h_t_leftU, .inl (k_t_leftU, 401, .inr (.inl t_leftU))) :: (h_t_leftV, .inl (k_t_leftV, 401, .inr (.inl t_leftV))) :: R) H := hP
        have hD : va_D A ((h_t, .inr (12, [z_t_0, z_t_1, z_t_2, .int t_a, .int t_b, .int t_root, z_t_6, z_t_7, z_t_8, z_t_9, z_t_10, z_t_11, z_t_12, z_t_13, z_t_14, .int t_top, z_t_16, z_t_17, .int (t_digitMany + 1), .ref h_t_digit, .ref h_t_leftU, .ref h_t_leftV, z_t_22, z_t_23, z_t_24, z_t_25, z_t_26, z_t_27, z_t_28, z_t_29, z_t_30, z_t_31, z_t_32, z_t_33, z_t_34, z_t_35, z_t_36, z_t_37, z_t_38, z_t_39, z_t_40, z_t_41, z_t_42, z_t_43, z_t_44, z_t_45, z_t_46, z_t_47, z_t_48, z_t_49, z_t_50, z_t_51, z_t_52, z_t_53, z_t_54, z_t_55, z_t_56, z_t_57, z_t_58, z_t_59, z_t_60])) :: (h_t_digit, .inl (k_t_digit, 500, .inr (.inl (vp_updL t_digit t_digitMany.toNatClampNeg x16_L95_6)))) :: (h_t_leftU, .inl (k_t_leftU, 401, .inr (.inl t_leftU))) :: (h_t_leftV, .inl (k_t_leftV, 401, .inr (.inl t_leftV))) :: R) := hD
        refine lv_lload hx hb dX12_whole_168 (lv_at hl 2 rfl) ?_
        refine lv_lstore (lv' := [(18, .long l7), (0, .ref h_t), (5, .long l5), (7, .long l7), (9, .long l9), (11, .int l11), (12, .long x12_L95_6), (14, .long x14_L95_6), (16, .long x16_L95_6)]) hx hb dX12_whole_170 hl (by decide) rfl (fun ls hl => ?_)
        refine lv_lload hx hb dX12_whole_172 (lv_at hl 4 rfl) ?_
        refine lv_aload_n hx hb dX12_whole_174 rfl (lv_at hl 1 rfl) ?_
        refine va_get (D := D) (ci := 12) (v := .int t_a) (C := RX12) (T := TX12) (N := 61) hx hb ha ix12 hown hK hP 0 rfl rfl 3 (by decide) (ha _ q963) (fun _ h9 => h9) rfl dX12_whole_175 ?_
        refine lv_i2l (v := t_a.toInt64) hx hb dX12_whole_178 rfl ?_
        refine lv_lload hx hb dX12_whole_179 (lv_at hl 0 rfl) ?_
        refine lv_aload_n hx hb dX12_whole_181 rfl (lv_at hl 1 rfl) ?_
        refine va_get (D := D) (ci := 12) (v := .int t_b) (C := RX12) (T := TX12) (N := 61) hx hb ha ix12 hown hK hP 0 rfl rfl 4 (by decide) (ha _ q964) (fun _ h9 => h9) rfl dX12_whole_182 ?_
        refine lv_i2l (v := t_b.toInt64) hx hb dX12_whole_185 rfl ?_
        obtain ⟨n9, h⟩ := nzL_ok h
        refine lv_ldiv hx hb dX12_whole_186 n9 ?_
        refine lv_lmul hx hb dX12_whole_187 ?_
        refine lv_lsub hx hb dX12_whole_188 ?_
        refine lv_lstore (lv' := [(7, .long (l9 - (t_a.toInt64 * (l7 / t_b.toInt64)))), (18, .long l7), (0, .ref h_t), (5, .long l5), (9, .long l9), (11, .int l11), (12, .long x12_L95_6), (14, .long x14_L95_6), (16, .long x16_L95_6)]) hx hb dX12_whole_189 hl (by decide) rfl (fun ls hl => ?_)
        refine lv_lload hx hb dX12_whole_191 (lv_at hl 1 rfl) ?_
        refine lv_aload_n hx hb dX12_whole_193 rfl (lv_at hl 2 rfl) ?_
        refine va_get (D := D) (ci := 12) (v := .int t_b) (C := RX12) (T := TX12) (N := 61) hx hb ha ix12 hown hK hP 0 rfl rfl 4 (by decide) (ha _ q964) (fun _ h9 => h9) rfl dX12_whole_194 ?_
        refine lv_i2l (v := t_b.toInt64) hx hb dX12_whole_197 rfl ?_
        obtain ⟨n10, h⟩ := nzL_ok h
        refine lv_ldiv hx hb dX12_whole_198 n10 ?_
        refine lv_lstore (lv' := [(9, .long (l7 / t_b.toInt64)), (7, .long (l9 - (t_a.toInt64 * (l7 / t_b.toInt64)))), (18, .long l7), (0, .ref h_t), (5, .long l5), (11, .int l11), (12, .long x12_L95_6), (14, .long x14_L95_6), (16, .long x16_L95_6)]) hx hb dX12_whole_199 hl (by decide) rfl (fun ls hl => ?_)
        refine lv_iinc (v := (l11 + (-1))) (lv' := [(11, .int (l11 + (-1))), (9, .long (l7 / t_b.toInt64)), (7, .long (l9 - (t_a.toInt64 * (l7 / t_b.toInt64)))), (18, .long l7), (0, .ref h_t), (5, .long l5), (12, .long x12_L95_6), (14, .long x14_L95_6), (16, .long x16_L95_6)]) hx hb dX12_whole_201 hl (k := 5) rfl rfl (by decide) rfl (fun ls hl => ?_)
        refine lv_goto (tgt := 87) hx hb dX12_whole_204 (by decide) ?_
        exact ih l5 (l9 - (t_a.toInt64 * (l7 / t_b.toInt64))) (l7 / t_b.toInt64) (l11 + (-1)) x12_L95_6 x14_L95_6 t_top (t_digitMany + 1) (vp_updL t_digit t_digitMany.toNatClampNeg x16_L95_6) t_leftU t_leftV _ _ _ _ h _ _ _ hP hD hS (lv_sub hl [4, 5, 2, 1, 0, 6, 7] rfl) kk0
  unfold f_X12_whole at h
  refine lv_lconst (v := 1) hx hb dX12_whole_0 (by decide) ?_
  refine lv_lstore (lv' := [(7, .long 1), (0, .ref h_t), (1, .long l1), (3, .long l3), (5, .long l5)]) hx hb dX12_whole_1 hl (by decide) rfl (fun ls hl => ?_)
  refine lv_lconst (v := 0) hx hb dX12_whole_3 (by decide) ?_
  refine lv_lstore (lv' := [(9, .long 0), (7, .long 1), (0, .ref h_t), (1, .long l1), (3, .long l3), (5, .long l5)]) hx hb dX12_whole_4 hl (by decide) rfl (fun ls hl => ?_)
  refine lv_iconst (v := 0) hx hb dX12_whole_6 (by decide) ?_
  refine lv_istore (lv' := [(11, .int 0), (9, .long 0), (7, .long 1), (0, .ref h_t), (1, .long l1), (3, .long l3), (5, .long l5)]) hx hb dX12_whole_7 hl (by decide) rfl (fun ls hl => ?_)
  obtain ⟨x7_L9_2, x9_L9_2, x11_L9_2, e_L9_2, h⟩ := bnd3_ok h
  refine L9 _ _ l1 l3 l5 1 0 0 t_top t_digitMany t_digit t_leftU t_leftV x7_L9_2 x9_L9_2 x11_L9_2 e_L9_2 _ _ _ hP hD hS (lv_sub hl [3, 4, 5, 6, 2, 1, 0] rfl) ?_
  intro H locs ls hP hD hS hl
  refine lv_goto (tgt := 70) hx hb dX12_whole_53 (by decide) ?_
  refine lv_aload_n hx hb dX12_whole_70 rfl (lv_at hl 0 rfl) ?_
  refine lv_iload hx hb dX12_whole_71 (lv_at hl 6 rfl) ?_
  refine va_put (D := D) (ci := 12) (v := .int x11_L9_2) (ty := .int) (C := RX12) (T := TX12) (N := 61) hx hb ha ix12 tyX12 tyX12_ok nmX12 hown hK hP hD hS 0 rfl rfl 15 (by decide) (ha _ q975) (fun _ h9 => h9) rfl (by decide +kernel) rfl rfl (Nat.le_of_ble_eq_true rfl) dX12_whole_73 (fun H locs hP hD hS => ?_)
  have hP : va_P D vwCl ((h_t, .inr (12, [z_t_0, z_t_1, z_t_2, .int t_a, .int t_b, .int t_root, z_t_6, z_t_7, z_t_8, z_t_9, z_t_10, z_t_11, z_t_12, z_t_13, z_t_14, .int x11_L9_2, z_t_16, z_t_17, .int t_digitMany, .ref h_t_digit, .ref h_t_leftU, .ref h_t_leftV, z_t_22, z_t_23, z_t_24, z_t_25, z_t_26, z_t_27, z_t_28, z_t_29, z_t_30, z_t_31, z_t_32, z_t_33, z_t_34, z_t_35, z_t_36, z_t_37, z_t_38, z_t_39, z_t_40, z_t_41, z_t_42, z_t_43, z_t_44, z_t_45, z_t_46, z_t_47, z_t_48, z_t_49, z_t_50, z_t_51, z_t_52, z_t_53, z_t_54, z_t_55, z_t_56, z_t_57, z_t_58, z_t_59, z_t_60])) :: (h_t_digit, .inl (k_t_digit, 500, .inr (.inl t_digit))) :: (h_t_leftU, .inl (k_t_leftU, 401, .inr (.inl t_leftU))) :: (h_t_leftV, .inl (k_t_leftV, 401, .inr (.inl t_leftV))) :: R) H := hP
  have hD : va_D A ((h_t, .inr (12, [z_t_0, z_t_1, z_t_2, .int t_a, .int t_b, .int t_root, z_t_6, z_t_7, z_t_8, z_t_9, z_t_10, z_t_11, z_t_12, z_t_13, z_t_14, .int x11_L9_2, z_t_16, z_t_17, .int t_digitMany, .ref h_t_digit, .ref h_t_leftU, .ref h_t_leftV, z_t_22, z_t_23, z_t_24, z_t_25, z_t_26, z_t_27, z_t_28, z_t_29, z_t_30, z_t_31, z_t_32, z_t_33, z_t_34, z_t_35, z_t_36, z_t_37, z_t_38, z_t_39, z_t_40, z_t_41, z_t_42, z_t_43, z_t_44, z_t_45, z_t_46, z_t_47, z_t_48, z_t_49, z_t_50, z_t_51, z_t_52, z_t_53, z_t_54, z_t_55, z_t_56, z_t_57, z_t_58, z_t_59, z_t_60])) :: (h_t_digit, .inl (k_t_digit, 500, .inr (.inl t_digit))) :: (h_t_leftU, .inl (k_t_leftU, 401, .inr (.inl t_leftU))) :: (h_t_leftV, .inl (k_t_leftV, 401, .inr (.inl t_leftV))) :: R) := hD
  refine lv_aload_n hx hb dX12_whole_76 rfl (lv_at hl 0 rfl) ?_
  refine lv_iconst (v := 0) hx hb dX12_whole_77 (by decide) ?_
  refine va_put (D := D) (ci := 12) (v := .int 0) (ty := .int) (C := RX12) (T := TX12) (N := 61) hx hb ha ix12 tyX12 tyX12_ok nmX12 hown hK hP hD hS 0 rfl rfl 18 (by decide) (ha _ q978) (fun _ h9 => h9) rfl (by decide +kernel) rfl rfl (Nat.le_of_ble_eq_true rfl) dX12_whole_78 (fun H locs hP hD hS => ?_)
  have hP : va_P D vwCl ((h_t, .inr (12, [z_t_0, z_t_1, z_t_2, .int t_a, .int t_b, .int t_root, z_t_6, z_t_7, z_t_8, z_t_9, z_t_10, z_t_11, z_t_12, z_t_13, z_t_14, .int x11_L9_2, z_t_16, z_t_17, .int 0, .ref h_t_digit, .ref h_t_leftU, .ref h_t_leftV, z_t_22, z_t_23, z_t_24, z_t_25, z_t_26, z_t_27, z_t_28, z_t_29, z_t_30, z_t_31, z_t_32, z_t_33, z_t_34, z_t_35, z_t_36, z_t_37, z_t_38, z_t_39, z_t_40, z_t_41, z_t_42, z_t_43, z_t_44, z_t_45, z_t_46, z_t_47, z_t_48, z_t_49, z_t_50, z_t_51, z_t_52, z_t_53, z_t_54, z_t_55, z_t_56, z_t_57, z_t_58, z_t_59, z_t_60])) :: (h_t_digit, .inl (k_t_digit, 500, .inr (.inl t_digit))) :: (h_t_leftU, .inl (k_t_leftU, 401, .inr (.inl t_leftU))) :: (h_t_leftV, .inl (k_t_leftV, 401, .inr (.inl t_leftV))) :: R) H := hP
  have hD : va_D A ((h_t, .inr (12, [z_t_0, z_t_1, z_t_2, .int t_a, .int t_b, .int t_root, z_t_6, z_t_7, z_t_8, z_t_9, z_t_10, z_t_11, z_t_12, z_t_13, z_t_14, .int x11_L9_2, z_t_16, z_t_17, .int 0, .ref h_t_digit, .ref h_t_leftU, .ref h_t_leftV, z_t_22, z_t_23, z_t_24, z_t_25, z_t_26, z_t_27, z_t_28, z_t_29, z_t_30, z_t_31, z_t_32, z_t_33, z_t_34, z_t_35, z_t_36, z_t_37, z_t_38, z_t_39, z_t_40, z_t_41, z_t_42, z_t_43, z_t_44, z_t_45, z_t_46, z_t_47, z_t_48, z_t_49, z_t_50, z_t_51, z_t_52, z_t_53, z_t_54, z_t_55, z_t_56, z_t_57, z_t_58, z_t_59, z_t_60])) :: (h_t_digit, .inl (k_t_digit, 500, .inr (.inl t_digit))) :: (h_t_leftU, .inl (k_t_leftU, 401, .inr (.inl t_leftU))) :: (h_t_leftV, .inl (k_t_leftV, 401, .inr (.inl t_leftV))) :: R) := hD
  refine lv_lload_n hx hb dX12_whole_81 rfl (lv_at hl 1 rfl) ?_
  refine lv_lstore (lv' := [(12, .long l1), (0, .ref h_t), (1, .long l1), (3, .long l3), (5, .long l5), (7, .long x7_L9_2), (9, .long x9_L9_2), (11, .int x11_L9_2)]) hx hb dX12_whole_82 hl (by decide) rfl (fun ls hl => ?_)
  refine lv_lload_n hx hb dX12_whole_84 rfl (lv_at hl 3 rfl) ?_
  refine lv_lstore (lv' := [(14, .long l3), (12, .long l1), (0, .ref h_t), (1, .long l1), (3, .long l3), (5, .long l5), (7, .long x7_L9_2), (9, .long x9_L9_2), (11, .int x11_L9_2)]) hx hb dX12_whole_85 hl (by decide) rfl (fun ls hl => ?_)
  obtain ⟨x12_L87_10, x14_L87_10, x_t_digitMany_L87_10, x_t_digit_L87_10, e_L87_10, h⟩ := bnd4_ok h
  refine L87 _ _ l5 x7_L9_2 x9_L9_2 x11_L9_2 l1 l3 x11_L9_2 0 t_digit t_leftU t_leftV x12_L87_10 x14_L87_10 x_t_digitMany_L87_10 x_t_digit_L87_10 e_L87_10 _ _ _ hP hD hS (lv_sub hl [2, 5, 6, 7, 8, 1, 0] rfl) ?_
  intro H locs ls hP hD hS hl
  refine lv_aload_n hx hb dX12_whole_207 rfl (lv_at hl 0 rfl) ?_
  refine va_get (D := D) (ci := 12) (v := .ref h_t_leftU) (C := RX12) (T := TX12) (N := 61) hx hb ha ix12 hown hK hP 0 rfl rfl 20 (by decide) (ha _ q980) (fun _ h9 => h9) rfl dX12_whole_208 ?_
  refine lv_iconst (v := 0) hx hb dX12_whole_211 (by decide) ?_
  refine lv_lload hx hb dX12_whole_212 (lv_at hl 1 rfl) ?_
  obtain ⟨i12, h⟩ := ix_ok h
  refine va_last hx hb hK hP hD hS 2 1 rfl rfl i12 dX12_whole_214 (fun H locs hP hD hS => ?_)
  have hP : va_P D vwCl ((h_t, .inr (12, [z_t_0, z_t_1, z_t_2, .int t_a, .int t_b, .int t_root, z_t_6, z_t_7, z_t_8, z_t_9, z_t_10, z_t_11, z_t_12, z_t_13, z_t_14, .int x11_L9_2, z_t_16, z_t_17, .int x_t_digitMany_L87_10, .ref h_t_digit, .ref h_t_leftU, .ref h_t_leftV, z_t_22, z_t_23, z_t_24, z_t_25, z_t_26, z_t_27, z_t_28, z_t_29, z_t_30, z_t_31, z_t_32, z_t_33, z_t_34, z_t_35, z_t_36, z_t_37, z_t_38, z_t_39, z_t_40, z_t_41, z_t_42, z_t_43, z_t_44, z_t_45, z_t_46, z_t_47, z_t_48, z_t_49, z_t_50, z_t_51, z_t_52, z_t_53, z_t_54, z_t_55, z_t_56, z_t_57, z_t_58, z_t_59, z_t_60])) :: (h_t_digit, .inl (k_t_digit, 500, .inr (.inl x_t_digit_L87_10))) :: (h_t_leftU, .inl (k_t_leftU, 401, .inr (.inl (vp_updL t_leftU (0 : Int32).toNatClampNeg x12_L87_10)))) :: (h_t_leftV, .inl (k_t_leftV, 401, .inr (.inl t_leftV))) :: R) H := hP
  have hD : va_D A ((h_t, .inr (12, [z_t_0, z_t_1, z_t_2, .int t_a, .int t_b, .int t_root, z_t_6, z_t_7, z_t_8, z_t_9, z_t_10, z_t_11, z_t_12, z_t_13, z_t_14, .int x11_L9_2, z_t_16, z_t_17, .int x_t_digitMany_L87_10, .ref h_t_digit, .ref h_t_leftU, .ref h_t_leftV, z_t_22, z_t_23, z_t_24, z_t_25, z_t_26, z_t_27, z_t_28, z_t_29, z_t_30, z_t_31, z_t_32, z_t_33, z_t_34, z_t_35, z_t_36, z_t_37, z_t_38, z_t_39, z_t_40, z_t_41, z_t_42, z_t_43, z_t_44, z_t_45, z_t_46, z_t_47, z_t_48, z_t_49, z_t_50, z_t_51, z_t_52, z_t_53, z_t_54, z_t_55, z_t_56, z_t_57, z_t_58, z_t_59, z_t_60])) :: (h_t_digit, .inl (k_t_digit, 500, .inr (.inl x_t_digit_L87_10))) :: (h_t_leftU, .inl (k_t_leftU, 401, .inr (.inl (vp_updL t_leftU (0 : Int32).toNatClampNeg x12_L87_10)))) :: (h_t_leftV, .inl (k_t_leftV, 401, .inr (.inl t_leftV))) :: R) := hD
  refine lv_aload_n hx hb dX12_whole_215 rfl (lv_at hl 0 rfl) ?_
  refine va_get (D := D) (ci := 12) (v := .ref h_t_leftV) (C := RX12) (T := TX12) (N := 61) hx hb ha ix12 hown hK hP 0 rfl rfl 21 (by decide) (ha _ q981) (fun _ h9 => h9) rfl dX12_whole_216 ?_
  refine lv_iconst (v := 0) hx hb dX12_whole_219 (by decide) ?_
  refine lv_lload hx hb dX12_whole_220 (lv_at hl 2 rfl) ?_
  obtain ⟨i13, h⟩ := ix_ok h
  refine va_last hx hb hK hP hD hS 3 2 rfl rfl i13 dX12_whole_222 (fun H locs hP hD hS => ?_)
  have hP : va_P D vwCl ((h_t, .inr (12, [z_t_0, z_t_1, z_t_2, .int t_a, .int t_b, .int t_root, z_t_6, z_t_7, z_t_8, z_t_9, z_t_10, z_t_11, z_t_12, z_t_13, z_t_14, .int x11_L9_2, z_t_16, z_t_17, .int x_t_digitMany_L87_10, .ref h_t_digit, .ref h_t_leftU, .ref h_t_leftV, z_t_22, z_t_23, z_t_24, z_t_25, z_t_26, z_t_27, z_t_28, z_t_29, z_t_30, z_t_31, z_t_32, z_t_33, z_t_34, z_t_35, z_t_36, z_t_37, z_t_38, z_t_39, z_t_40, z_t_41, z_t_42, z_t_43, z_t_44, z_t_45, z_t_46, z_t_47, z_t_48, z_t_49, z_t_50, z_t_51, z_t_52, z_t_53, z_t_54, z_t_55, z_t_56, z_t_57, z_t_58, z_t_59, z_t_60])) :: (h_t_digit, .inl (k_t_digit, 500, .inr (.inl x_t_digit_L87_10))) :: (h_t_leftU, .inl (k_t_leftU, 401, .inr (.inl (vp_updL t_leftU (0 : Int32).toNatClampNeg x12_L87_10)))) :: (h_t_leftV, .inl (k_t_leftV, 401, .inr (.inl (vp_updL t_leftV (0 : Int32).toNatClampNeg x14_L87_10)))) :: R) H := hP
  have hD : va_D A ((h_t, .inr (12, [z_t_0, z_t_1, z_t_2, .int t_a, .int t_b, .int t_root, z_t_6, z_t_7, z_t_8, z_t_9, z_t_10, z_t_11, z_t_12, z_t_13, z_t_14, .int x11_L9_2, z_t_16, z_t_17, .int x_t_digitMany_L87_10, .ref h_t_digit, .ref h_t_leftU, .ref h_t_leftV, z_t_22, z_t_23, z_t_24, z_t_25, z_t_26, z_t_27, z_t_28, z_t_29, z_t_30, z_t_31, z_t_32, z_t_33, z_t_34, z_t_35, z_t_36, z_t_37, z_t_38, z_t_39, z_t_40, z_t_41, z_t_42, z_t_43, z_t_44, z_t_45, z_t_46, z_t_47, z_t_48, z_t_49, z_t_50, z_t_51, z_t_52, z_t_53, z_t_54, z_t_55, z_t_56, z_t_57, z_t_58, z_t_59, z_t_60])) :: (h_t_digit, .inl (k_t_digit, 500, .inr (.inl x_t_digit_L87_10))) :: (h_t_leftU, .inl (k_t_leftU, 401, .inr (.inl (vp_updL t_leftU (0 : Int32).toNatClampNeg x12_L87_10)))) :: (h_t_leftV, .inl (k_t_leftV, 401, .inr (.inl (vp_updL t_leftV (0 : Int32).toNatClampNeg x14_L87_10)))) :: R) := hD
  cases h
  exact rt_v S hr hlk hP hD hS dX12_whole_223
