noncomputable def f_X12_thrown (t_thrown : Int32) : Option (Int32) :=
  some t_thrown
set_option maxHeartbeats 4000000 in
set_option maxRecDepth 100000 in
theorem c_X12_thrown (l : Launch) (D : va_G) (R : va_W) (h_t : Nat) (t_thrown : Int32) (z_t_1 : Value) (z_t_2 : Value) (z_t_3 : Value) (z_t_4 : Value) (z_t_5 : Value) (z_t_6 : Value) (z_t_7 : Value) (z_t_8 : Value) (z_t_9 : Value) (z_t_10 : Value) (z_t_11 : Value) (z_t_12 : Value) (z_t_13 : Value) (z_t_14 : Value) (z_t_15 : Value) (z_t_16 : Value) (z_t_17 : Value) (z_t_18 : Value) (z_t_19 : Value) (z_t_20 : Value) (z_t_21 : Value) (z_t_22 : Value) (z_t_23 : Value) (z_t_24 : Value) (z_t_25 : Value) (z_t_26 : Value) (z_t_27 : Value) (z_t_28 : Value) (z_t_29 : Value) (z_t_30 : Value) (z_t_31 : Value) (z_t_32 : Value) (z_t_33 : Value) (z_t_34 : Value) (z_t_35 : Value) (z_t_36 : Value) (z_t_37 : Value) (z_t_38 : Value) (z_t_39 : Value) (z_t_40 : Value) (z_t_41 : Value) (z_t_42 : Value) (z_t_43 : Value) (z_t_44 : Value) (z_t_45 : Value) (z_t_46 : Value) (z_t_47 : Value) (z_t_48 : Value) (z_t_49 : Value) (z_t_50 : Value) (z_t_51 : Value) (z_t_52 : Value) (z_t_53 : Value) (z_t_54 : Value) (z_t_55 : Value) (z_t_56 : Value) (z_t_57 : Value) (z_t_58 : Value) (z_t_59 : Value) (z_t_60 : Value) (r : Int32)  (h : f_X12_thrown t_thrown = some r) (sz : Nat) : Met l yX12_thrown (WD yX12_thrown cX12_thrown 1 (some .int)) ({ frames := 0, cells := 0, slots := 0, locals := 0 }) (va_Pc [.ref h_t] (PcW D [] ((h_t, .inr (12, (.int t_thrown :: z_t_1 :: z_t_2 :: z_t_3 :: z_t_4 :: z_t_5 :: z_t_6 :: z_t_7 :: z_t_8 :: z_t_9 :: z_t_10 :: z_t_11 :: z_t_12 :: z_t_13 :: z_t_14 :: z_t_15 :: z_t_16 :: z_t_17 :: z_t_18 :: z_t_19 :: z_t_20 :: z_t_21 :: z_t_22 :: z_t_23 :: z_t_24 :: z_t_25 :: z_t_26 :: z_t_27 :: z_t_28 :: z_t_29 :: z_t_30 :: z_t_31 :: z_t_32 :: z_t_33 :: z_t_34 :: z_t_35 :: z_t_36 :: z_t_37 :: z_t_38 :: z_t_39 :: z_t_40 :: z_t_41 :: z_t_42 :: z_t_43 :: z_t_44 :: z_t_45 :: z_t_46 :: z_t_47 :: z_t_48 :: z_t_49 :: z_t_50 :: z_t_51 :: z_t_52 :: z_t_53 :: z_t_54 :: z_t_55 :: z_t_56 :: z_t_57 :: z_t_58 :: z_t_59 :: z_t_60 :: []))) :: R) sz)) (QI D r ((h_t, .inr (12, (.int t_thrown :: z_t_1 :: z_t_2 :: z_t_3 :: z_t_4 :: z_t_5 :: z_t_6 :: z_t_7 :: z_t_8 :: z_t_9 :: z_t_10 :: z_t_11 :: z_t_12 :: z_t_13 :: z_t_14 :: z_t_15 :: z_t_16 :: z_t_17 :: z_t_18 :: z_t_19 :: z_t_20 :: z_t_21 :: z_t_22 :: z_t_23 :: z_t_24 :: z_t_25 :: z_t_26 :: z_t_27 :: z_t_28 :: z_t_29 :: z_t_30 :: z_t_31 :: z_t_32 :: z_t_33 :: z_t_34 :: z_t_35 :: z_t_36 :: z_t_37 :: z_t_38 :: z_t_39 :: z_t_40 :: z_t_41 :: z_t_42 :: z_t_43 :: z_t_44 :: z_t_45 :: z_t_46 :: z_t_47 :: z_t_48 :: z_t_49 :: z_t_50 :: z_t_51 :: z_t_52 :: z_t_53 :: z_t_54 :: z_t_55 :: z_t_56 :: z_t_57 :: z_t_58 :: z_t_59 :: z_t_60 :: []))) :: R) (va_A ((h_t, .inr (12, (.int t_thrown :: z_t_1 :: z_t_2 :: z_t_3 :: z_t_4 :: z_t_5 :: z_t_6 :: z_t_7 :: z_t_8 :: z_t_9 :: z_t_10 :: z_t_11 :: z_t_12 :: z_t_13 :: z_t_14 :: z_t_15 :: z_t_16 :: z_t_17 :: z_t_18 :: z_t_19 :: z_t_20 :: z_t_21 :: z_t_22 :: z_t_23 :: z_t_24 :: z_t_25 :: z_t_26 :: z_t_27 :: z_t_28 :: z_t_29 :: z_t_30 :: z_t_31 :: z_t_32 :: z_t_33 :: z_t_34 :: z_t_35 :: z_t_36 :: z_t_37 :: z_t_38 :: z_t_39 :: z_t_40 :: z_t_41 :: z_t_42 :: z_t_43 :: z_t_44 :: z_t_45 :: z_t_46 :: z_t_47 :: z_t_48 :: z_t_49 :: z_t_50 :: z_t_51 :: z_t_52 :: z_t_53 :: z_t_54 :: z_t_55 :: z_t_56 :: z_t_57 :: z_t_58 :: z_t_59 :: z_t_60 :: []))) :: R) sz)) 0 0 (va_A ((h_t, .inr (12, (.int t_thrown :: z_t_1 :: z_t_2 :: z_t_3 :: z_t_4 :: z_t_5 :: z_t_6 :: z_t_7 :: z_t_8 :: z_t_9 :: z_t_10 :: z_t_11 :: z_t_12 :: z_t_13 :: z_t_14 :: z_t_15 :: z_t_16 :: z_t_17 :: z_t_18 :: z_t_19 :: z_t_20 :: z_t_21 :: z_t_22 :: z_t_23 :: z_t_24 :: z_t_25 :: z_t_26 :: z_t_27 :: z_t_28 :: z_t_29 :: z_t_30 :: z_t_31 :: z_t_32 :: z_t_33 :: z_t_34 :: z_t_35 :: z_t_36 :: z_t_37 :: z_t_38 :: z_t_39 :: z_t_40 :: z_t_41 :: z_t_42 :: z_t_43 :: z_t_44 :: z_t_45 :: z_t_46 :: z_t_47 :: z_t_48 :: z_t_49 :: z_t_50 :: z_t_51 :: z_t_52 :: z_t_53 :: z_t_54 :: z_t_55 :: z_t_56 :: z_t_57 :: z_t_58 :: z_t_59 :: z_t_60 :: []))) :: R) sz) := by
  refine ct_start (QF := fun A => QI D r ((h_t, .inr (12, (.int t_thrown :: z_t_1 :: z_t_2 :: z_t_3 :: z_t_4 :: z_t_5 :: z_t_6 :: z_t_7 :: z_t_8 :: z_t_9 :: z_t_10 :: z_t_11 :: z_t_12 :: z_t_13 :: z_t_14 :: z_t_15 :: z_t_16 :: z_t_17 :: z_t_18 :: z_t_19 :: z_t_20 :: z_t_21 :: z_t_22 :: z_t_23 :: z_t_24 :: z_t_25 :: z_t_26 :: z_t_27 :: z_t_28 :: z_t_29 :: z_t_30 :: z_t_31 :: z_t_32 :: z_t_33 :: z_t_34 :: z_t_35 :: z_t_36 :: z_t_37 :: z_t_38 :: z_t_39 :: z_t_40 :: z_t_41 :: z_t_42 :: z_t_43 :: z_t_44 :: z_t_45 :: z_t_46 :: z_t_47 :: z_t_48 :: z_t_49 :: z_t_50 :: z_t_51 :: z_t_52 :: z_t_53 :: z_t_54 :: z_t_55 :: z_t_56 :: z_t_57 :: z_t_58 :: z_t_59 :: z_t_60 :: []))) :: R) A) ?_ ?_ ?_
  · decide +kernel
  · exact Nat.le_of_ble_eq_true rfl
  intro p e s m args below meth c A ls S hr hlk hnm hS hA hP hD hK hN hl
  have S : CallFix p m c cX12_thrown 1 s args AL "DigitBenchModel" := S
  have hx := S.1
  have hb := S.2.1
  have hown := S.2.2.2.1
  have ha := S.2.2.2.2
  have hl : lv_has ls 1 [(0, .ref h_t)] := hl
  unfold f_X12_thrown at h
  refine lv_aload_n hx hb dX12_thrown_0 rfl (lv_at hl 0 rfl) ?_
  refine va_get (D := D) (ci := 12) (v := .int t_thrown) (C := RX12) (T := TX12) (N := 61) hx hb ha ix12 hown hK hP 0 rfl rfl 0 (by decide) (ha _ q960) (fun _ h9 => h9) rfl dX12_thrown_1 ?_
  cases h
  exact rt_i S hr hlk hP hD hS dX12_thrown_4
noncomputable def f_X12_throwsIf (t_thrown : Int32) (l1 : Int32) : Option (Int32 × Int32) :=
  if l1 = 0 then (
   some (l1, 0)
  ) else (
   some (l1, 1)
  )
set_option maxHeartbeats 4000000 in
set_option maxRecDepth 100000 in
theorem c_X12_throwsIf (l : Launch) (D : va_G) (R : va_W) (h_t : Nat) (t_thrown : Int32) (z_t_1 : Value) (z_t_2 : Value) (z_t_3 : Value) (z_t_4 : Value) (z_t_5 : Value) (z_t_6 : Value) (z_t_7 : Value) (z_t_8 : Value) (z_t_9 : Value) (z_t_10 : Value) (z_t_11 : Value) (z_t_12 : Value) (z_t_13 : Value) (z_t_14 : Value) (z_t_15 : Value) (z_t_16 : Value) (z_t_17 : Value) (z_t_18 : Value) (z_t_19 : Value) (z_t_20 : Value) (z_t_21 : Value) (z_t_22 : Value) (z_t_23 : Value) (z_t_24 : Value) (z_t_25 : Value) (z_t_26 : Value) (z_t_27 : Value) (z_t_28 : Value) (z_t_29 : Value) (z_t_30 : Value) (z_t_31 : Value) (z_t_32 : Value) (z_t_33 : Value) (z_t_34 : Value) (z_t_35 : Value) (z_t_36 : Value) (z_t_37 : Value) (z_t_38 : Value) (z_t_39 : Value) (z_t_40 : Value) (z_t_41 : Value) (z_t_42 : Value) (z_t_43 : Value) (z_t_44 : Value) (z_t_45 : Value) (z_t_46 : Value) (z_t_47 : Value) (z_t_48 : Value) (z_t_49 : Value) (z_t_50 : Value) (z_t_51 : Value) (z_t_52 : Value) (z_t_53 : Value) (z_t_54 : Value) (z_t_55 : Value) (z_t_56 : Value) (z_t_57 : Value) (z_t_58 : Value) (z_t_59 : Value) (z_t_60 : Value) (l1 : Int32) (r : Int32) (o_t_thrown : Int32) (hz_1 : narrow .boolean (.int l1) = .int l1) (h : f_X12_throwsIf t_thrown l1 = some (r, o_t_thrown)) (sz : Nat) : Met l yX12_throwsIf (WD yX12_throwsIf cX12_throwsIf 2 (some .boolean)) ({ frames := 0, cells := 0, slots := 0, locals := 0 }) (va_Pc [.ref h_t, .int l1] (PcW D [] ((h_t, .inr (12, (.int t_thrown :: z_t_1 :: z_t_2 :: z_t_3 :: z_t_4 :: z_t_5 :: z_t_6 :: z_t_7 :: z_t_8 :: z_t_9 :: z_t_10 :: z_t_11 :: z_t_12 :: z_t_13 :: z_t_14 :: z_t_15 :: z_t_16 :: z_t_17 :: z_t_18 :: z_t_19 :: z_t_20 :: z_t_21 :: z_t_22 :: z_t_23 :: z_t_24 :: z_t_25 :: z_t_26 :: z_t_27 :: z_t_28 :: z_t_29 :: z_t_30 :: z_t_31 :: z_t_32 :: z_t_33 :: z_t_34 :: z_t_35 :: z_t_36 :: z_t_37 :: z_t_38 :: z_t_39 :: z_t_40 :: z_t_41 :: z_t_42 :: z_t_43 :: z_t_44 :: z_t_45 :: z_t_46 :: z_t_47 :: z_t_48 :: z_t_49 :: z_t_50 :: z_t_51 :: z_t_52 :: z_t_53 :: z_t_54 :: z_t_55 :: z_t_56 :: z_t_57 :: z_t_58 :: z_t_59 :: z_t_60 :: []))) :: R) sz)) (QZ D r ((h_t, .inr (12, (.int o_t_thrown :: z_t_1 :: z_t_2 :: z_t_3 :: z_t_4 :: z_t_5 :: z_t_6 :: z_t_7 :: z_t_8 :: z_t_9 :: z_t_10 :: z_t_11 :: z_t_12 :: z_t_13 :: z_t_14 :: z_t_15 :: z_t_16 :: z_t_17 :: z_t_18 :: z_t_19 :: z_t_20 :: z_t_21 :: z_t_22 :: z_t_23 :: z_t_24 :: z_t_25 :: z_t_26 :: z_t_27 :: z_t_28 :: z_t_29 :: z_t_30 :: z_t_31 :: z_t_32 :: z_t_33 :: z_t_34 :: z_t_35 :: z_t_36 :: z_t_37 :: z_t_38 :: z_t_39 :: z_t_40 :: z_t_41 :: z_t_42 :: z_t_43 :: z_t_44 :: z_t_45 :: z_t_46 :: z_t_47 :: z_t_48 :: z_t_49 :: z_t_50 :: z_t_51 :: z_t_52 :: z_t_53 :: z_t_54 :: z_t_55 :: z_t_56 :: z_t_57 :: z_t_58 :: z_t_59 :: z_t_60 :: []))) :: R) (va_A ((h_t, .inr (12, (.int t_thrown :: z_t_1 :: z_t_2 :: z_t_3 :: z_t_4 :: z_t_5 :: z_t_6 :: z_t_7 :: z_t_8 :: z_t_9 :: z_t_10 :: z_t_11 :: z_t_12 :: z_t_13 :: z_t_14 :: z_t_15 :: z_t_16 :: z_t_17 :: z_t_18 :: z_t_19 :: z_t_20 :: z_t_21 :: z_t_22 :: z_t_23 :: z_t_24 :: z_t_25 :: z_t_26 :: z_t_27 :: z_t_28 :: z_t_29 :: z_t_30 :: z_t_31 :: z_t_32 :: z_t_33 :: z_t_34 :: z_t_35 :: z_t_36 :: z_t_37 :: z_t_38 :: z_t_39 :: z_t_40 :: z_t_41 :: z_t_42 :: z_t_43 :: z_t_44 :: z_t_45 :: z_t_46 :: z_t_47 :: z_t_48 :: z_t_49 :: z_t_50 :: z_t_51 :: z_t_52 :: z_t_53 :: z_t_54 :: z_t_55 :: z_t_56 :: z_t_57 :: z_t_58 :: z_t_59 :: z_t_60 :: []))) :: R) sz)) 0 0 (va_A ((h_t, .inr (12, (.int t_thrown :: z_t_1 :: z_t_2 :: z_t_3 :: z_t_4 :: z_t_5 :: z_t_6 :: z_t_7 :: z_t_8 :: z_t_9 :: z_t_10 :: z_t_11 :: z_t_12 :: z_t_13 :: z_t_14 :: z_t_15 :: z_t_16 :: z_t_17 :: z_t_18 :: z_t_19 :: z_t_20 :: z_t_21 :: z_t_22 :: z_t_23 :: z_t_24 :: z_t_25 :: z_t_26 :: z_t_27 :: z_t_28 :: z_t_29 :: z_t_30 :: z_t_31 :: z_t_32 :: z_t_33 :: z_t_34 :: z_t_35 :: z_t_36 :: z_t_37 :: z_t_38 :: z_t_39 :: z_t_40 :: z_t_41 :: z_t_42 :: z_t_43 :: z_t_44 :: z_t_45 :: z_t_46 :: z_t_47 :: z_t_48 :: z_t_49 :: z_t_50 :: z_t_51 :: z_t_52 :: z_t_53 :: z_t_54 :: z_t_55 :: z_t_56 :: z_t_57 :: z_t_58 :: z_t_59 :: z_t_60 :: []))) :: R) sz) := by
  refine ct_start (QF := fun A => QZ D r ((h_t, .inr (12, (.int o_t_thrown :: z_t_1 :: z_t_2 :: z_t_3 :: z_t_4 :: z_t_5 :: z_t_6 :: z_t_7 :: z_t_8 :: z_t_9 :: z_t_10 :: z_t_11 :: z_t_12 :: z_t_13 :: z_t_14 :: z_t_15 :: z_t_16 :: z_t_17 :: z_t_18 :: z_t_19 :: z_t_20 :: z_t_21 :: z_t_22 :: z_t_23 :: z_t_24 :: z_t_25 :: z_t_26 :: z_t_27 :: z_t_28 :: z_t_29 :: z_t_30 :: z_t_31 :: z_t_32 :: z_t_33 :: z_t_34 :: z_t_35 :: z_t_36 :: z_t_37 :: z_t_38 :: z_t_39 :: z_t_40 :: z_t_41 :: z_t_42 :: z_t_43 :: z_t_44 :: z_t_45 :: z_t_46 :: z_t_47 :: z_t_48 :: z_t_49 :: z_t_50 :: z_t_51 :: z_t_52 :: z_t_53 :: z_t_54 :: z_t_55 :: z_t_56 :: z_t_57 :: z_t_58 :: z_t_59 :: z_t_60 :: []))) :: R) A) ?_ ?_ ?_
  · decide +kernel
  · exact Nat.le_of_ble_eq_true rfl
  intro p e s m args below meth c A ls S hr hlk hnm hS hA hP hD hK hN hl
  have S : CallFix p m c cX12_throwsIf 2 s args AL "DigitBenchModel" := S
  have hx := S.1
  have hb := S.2.1
  have hown := S.2.2.2.1
  have ha := S.2.2.2.2
  have hl : lv_has ls 2 [(0, .ref h_t), (1, .int l1)] := hl
  unfold f_X12_throwsIf at h
  refine lv_aload_n hx hb dX12_throwsIf_0 rfl (lv_at hl 0 rfl) ?_
  refine lv_iload_n hx hb dX12_throwsIf_1 rfl (lv_at hl 1 rfl) ?_
  refine lv_if_eq (tgt := 9) hx hb dX12_throwsIf_2 (by decide) (fun c1 => ?_) (fun c1 => ?_)
  · have h := br_pos c1 h
    refine lv_iconst (v := 0) hx hb dX12_throwsIf_9 (by decide) ?_
    refine va_put (D := D) (ci := 12) (v := .int 0) (ty := .int) (C := RX12) (T := TX12) (N := 61) hx hb ha ix12 tyX12 tyX12_ok nmX12 hown hK hP hD hS 0 rfl rfl 0 (by decide) (ha _ q960) (fun _ h9 => h9) rfl (by decide +kernel) rfl rfl (Nat.le_of_ble_eq_true rfl) dX12_throwsIf_10 (fun H locs hP hD hS => ?_)
    have hP : va_P D vwCl ((h_t, .inr (12, (.int 0 :: z_t_1 :: z_t_2 :: z_t_3 :: z_t_4 :: z_t_5 :: z_t_6 :: z_t_7 :: z_t_8 :: z_t_9 :: z_t_10 :: z_t_11 :: z_t_12 :: z_t_13 :: z_t_14 :: z_t_15 :: z_t_16 :: z_t_17 :: z_t_18 :: z_t_19 :: z_t_20 :: z_t_21 :: z_t_22 :: z_t_23 :: z_t_24 :: z_t_25 :: z_t_26 :: z_t_27 :: z_t_28 :: z_t_29 :: z_t_30 :: z_t_31 :: z_t_32 :: z_t_33 :: z_t_34 :: z_t_35 :: z_t_36 :: z_t_37 :: z_t_38 :: z_t_39 :: z_t_40 :: z_t_41 :: z_t_42 :: z_t_43 :: z_t_44 :: z_t_45 :: z_t_46 :: z_t_47 :: z_t_48 :: z_t_49 :: z_t_50 :: z_t_51 :: z_t_52 :: z_t_53 :: z_t_54 :: z_t_55 :: z_t_56 :: z_t_57 :: z_t_58 :: z_t_59 :: z_t_60 :: []))) :: R) H := hP
    have hD : va_D A ((h_t, .inr (12, (.int 0 :: z_t_1 :: z_t_2 :: z_t_3 :: z_t_4 :: z_t_5 :: z_t_6 :: z_t_7 :: z_t_8 :: z_t_9 :: z_t_10 :: z_t_11 :: z_t_12 :: z_t_13 :: z_t_14 :: z_t_15 :: z_t_16 :: z_t_17 :: z_t_18 :: z_t_19 :: z_t_20 :: z_t_21 :: z_t_22 :: z_t_23 :: z_t_24 :: z_t_25 :: z_t_26 :: z_t_27 :: z_t_28 :: z_t_29 :: z_t_30 :: z_t_31 :: z_t_32 :: z_t_33 :: z_t_34 :: z_t_35 :: z_t_36 :: z_t_37 :: z_t_38 :: z_t_39 :: z_t_40 :: z_t_41 :: z_t_42 :: z_t_43 :: z_t_44 :: z_t_45 :: z_t_46 :: z_t_47 :: z_t_48 :: z_t_49 :: z_t_50 :: z_t_51 :: z_t_52 :: z_t_53 :: z_t_54 :: z_t_55 :: z_t_56 :: z_t_57 :: z_t_58 :: z_t_59 :: z_t_60 :: []))) :: R) := hD
    refine lv_iload_n hx hb dX12_throwsIf_13 rfl (lv_at hl 1 rfl) ?_
    cases h
    exact rt_z S hr hlk hP hD hS hz_1 dX12_throwsIf_14
  · have h := br_neg c1 h
    refine lv_iconst (v := 1) hx hb dX12_throwsIf_5 (by decide) ?_
    refine lv_goto (tgt := 10) hx hb dX12_throwsIf_6 (by decide) ?_
    refine va_put (D := D) (ci := 12) (v := .int 1) (ty := .int) (C := RX12) (T := TX12) (N := 61) hx hb ha ix12 tyX12 tyX12_ok nmX12 hown hK hP hD hS 0 rfl rfl 0 (by decide) (ha _ q960) (fun _ h9 => h9) rfl (by decide +kernel) rfl rfl (Nat.le_of_ble_eq_true rfl) dX12_throwsIf_10 (fun H locs hP hD hS => ?_)
    have hP : va_P D vwCl ((h_t, .inr (12, (.int 1 :: z_t_1 :: z_t_2 :: z_t_3 :: z_t_4 :: z_t_5 :: z_t_6 :: z_t_7 :: z_t_8 :: z_t_9 :: z_t_10 :: z_t_11 :: z_t_12 :: z_t_13 :: z_t_14 :: z_t_15 :: z_t_16 :: z_t_17 :: z_t_18 :: z_t_19 :: z_t_20 :: z_t_21 :: z_t_22 :: z_t_23 :: z_t_24 :: z_t_25 :: z_t_26 :: z_t_27 :: z_t_28 :: z_t_29 :: z_t_30 :: z_t_31 :: z_t_32 :: z_t_33 :: z_t_34 :: z_t_35 :: z_t_36 :: z_t_37 :: z_t_38 :: z_t_39 :: z_t_40 :: z_t_41 :: z_t_42 :: z_t_43 :: z_t_44 :: z_t_45 :: z_t_46 :: z_t_47 :: z_t_48 :: z_t_49 :: z_t_50 :: z_t_51 :: z_t_52 :: z_t_53 :: z_t_54 :: z_t_55 :: z_t_56 :: z_t_57 :: z_t_58 :: z_t_59 :: z_t_60 :: []))) :: R) H := hP
    have hD : va_D A ((h_t, .inr (12, (.int 1 :: z_t_1 :: z_t_2 :: z_t_3 :: z_t_4 :: z_t_5 :: z_t_6 :: z_t_7 :: z_t_8 :: z_t_9 :: z_t_10 :: z_t_11 :: z_t_12 :: z_t_13 :: z_t_14 :: z_t_15 :: z_t_16 :: z_t_17 :: z_t_18 :: z_t_19 :: z_t_20 :: z_t_21 :: z_t_22 :: z_t_23 :: z_t_24 :: z_t_25 :: z_t_26 :: z_t_27 :: z_t_28 :: z_t_29 :: z_t_30 :: z_t_31 :: z_t_32 :: z_t_33 :: z_t_34 :: z_t_35 :: z_t_36 :: z_t_37 :: z_t_38 :: z_t_39 :: z_t_40 :: z_t_41 :: z_t_42 :: z_t_43 :: z_t_44 :: z_t_45 :: z_t_46 :: z_t_47 :: z_t_48 :: z_t_49 :: z_t_50 :: z_t_51 :: z_t_52 :: z_t_53 :: z_t_54 :: z_t_55 :: z_t_56 :: z_t_57 :: z_t_58 :: z_t_59 :: z_t_60 :: []))) :: R) := hD
    refine lv_iload_n hx hb dX12_throwsIf_13 rfl (lv_at hl 1 rfl) ?_
    cases h
    exact rt_z S hr hlk hP hD hS hz_1 dX12_throwsIf_14
noncomputable def f_X12_four_L3 (l1 : Int32) : Nat → Int32 → Int32 → (Nat → Int32) →  Option (Int32 × (Nat → Int32))
  | 0, _, _, _ => none
  | n + 1, l2, t_length, t_tape => (
    if l2 < 0 then (
     some (t_length, t_tape)
    ) else (
     gd (ixb t_length 200) (
      f_X12_four_L3 l1 n (l2 + (-8)) (t_length + 1) (upd t_tape t_length.toNatClampNeg (vp_nar .byte ((l1 >>> (l2 &&& 31)).toInt8.toInt32)))
     )
    ))
noncomputable def f_X12_four (t_length : Int32) (t_tape : Nat → Int32) (l1 : Int32) : Option (Int32 × (Nat → Int32)) :=
  bnd2 (f_X12_four_L3 l1 FU 24 t_length t_tape) fun x_t_length_L3_2 x_t_tape_L3_2 => (
   some (x_t_length_L3_2, x_t_tape_L3_2)
  )
set_option maxHeartbeats 4000000 in
set_option maxRecDepth 100000 in
theorem c_X12_four (l : Launch) (D : va_G) (R : va_W) (h_t : Nat) (z_t_0 : Value) (t_length : Int32) (z_t_3 : Value) (z_t_4 : Value) (z_t_5 : Value) (z_t_6 : Value) (z_t_7 : Value) (z_t_8 : Value) (z_t_9 : Value) (z_t_10 : Value) (z_t_11 : Value) (z_t_12 : Value) (z_t_13 : Value) (z_t_14 : Value) (z_t_15 : Value) (z_t_16 : Value) (z_t_17 : Value) (z_t_18 : Value) (z_t_19 : Value) (z_t_20 : Value) (z_t_21 : Value) (z_t_22 : Value) (z_t_23 : Value) (z_t_24 : Value) (z_t_25 : Value) (z_t_26 : Value) (z_t_27 : Value) (z_t_28 : Value) (z_t_29 : Value) (z_t_30 : Value) (z_t_31 : Value) (z_t_32 : Value) (z_t_33 : Value) (z_t_34 : Value) (z_t_35 : Value) (z_t_36 : Value) (z_t_37 : Value) (z_t_38 : Value) (z_t_39 : Value) (z_t_40 : Value) (z_t_41 : Value) (z_t_42 : Value) (z_t_43 : Value) (z_t_44 : Value) (z_t_45 : Value) (z_t_46 : Value) (z_t_47 : Value) (z_t_48 : Value) (z_t_49 : Value) (z_t_50 : Value) (z_t_51 : Value) (z_t_52 : Value) (z_t_53 : Value) (z_t_54 : Value) (z_t_55 : Value) (z_t_56 : Value) (z_t_57 : Value) (z_t_58 : Value) (z_t_59 : Value) (z_t_60 : Value) (h_t_tape : Nat) (k_t_tape : ClassId) (t_tape : Nat → Int32) (l1 : Int32) (o_t_length : Int32) (o_t_tape : Nat → Int32)  (h : f_X12_four t_length t_tape l1 = some (o_t_length, o_t_tape)) (sz : Nat) : Met l yX12_four (WD yX12_four cX12_four 3 none) ({ frames := 0, cells := 0, slots := 0, locals := 0 }) (va_Pc [.ref h_t, .int l1] (PcW D [(k_t_tape, .byte)] ((h_t, .inr (12, (z_t_0 :: .ref h_t_tape :: .int t_length :: z_t_3 :: z_t_4 :: z_t_5 :: z_t_6 :: z_t_7 :: z_t_8 :: z_t_9 :: z_t_10 :: z_t_11 :: z_t_12 :: z_t_13 :: z_t_14 :: z_t_15 :: z_t_16 :: z_t_17 :: z_t_18 :: z_t_19 :: z_t_20 :: z_t_21 :: z_t_22 :: z_t_23 :: z_t_24 :: z_t_25 :: z_t_26 :: z_t_27 :: z_t_28 :: z_t_29 :: z_t_30 :: z_t_31 :: z_t_32 :: z_t_33 :: z_t_34 :: z_t_35 :: z_t_36 :: z_t_37 :: z_t_38 :: z_t_39 :: z_t_40 :: z_t_41 :: z_t_42 :: z_t_43 :: z_t_44 :: z_t_45 :: z_t_46 :: z_t_47 :: z_t_48 :: z_t_49 :: z_t_50 :: z_t_51 :: z_t_52 :: z_t_53 :: z_t_54 :: z_t_55 :: z_t_56 :: z_t_57 :: z_t_58 :: z_t_59 :: z_t_60 :: []))) :: (h_t_tape, .inl (k_t_tape, 200, .inl t_tape)) :: R) sz)) (QV D ((h_t, .inr (12, (z_t_0 :: .ref h_t_tape :: .int o_t_length :: z_t_3 :: z_t_4 :: z_t_5 :: z_t_6 :: z_t_7 :: z_t_8 :: z_t_9 :: z_t_10 :: z_t_11 :: z_t_12 :: z_t_13 :: z_t_14 :: z_t_15 :: z_t_16 :: z_t_17 :: z_t_18 :: z_t_19 :: z_t_20 :: z_t_21 :: z_t_22 :: z_t_23 :: z_t_24 :: z_t_25 :: z_t_26 :: z_t_27 :: z_t_28 :: z_t_29 :: z_t_30 :: z_t_31 :: z_t_32 :: z_t_33 :: z_t_34 :: z_t_35 :: z_t_36 :: z_t_37 :: z_t_38 :: z_t_39 :: z_t_40 :: z_t_41 :: z_t_42 :: z_t_43 :: z_t_44 :: z_t_45 :: z_t_46 :: z_t_47 :: z_t_48 :: z_t_49 :: z_t_50 :: z_t_51 :: z_t_52 :: z_t_53 :: z_t_54 :: z_t_55 :: z_t_56 :: z_t_57 :: z_t_58 :: z_t_59 :: z_t_60 :: []))) :: (h_t_tape, .inl (k_t_tape, 200, .inl o_t_tape)) :: R) (va_A ((h_t, .inr (12, (z_t_0 :: .ref h_t_tape :: .int t_length :: z_t_3 :: z_t_4 :: z_t_5 :: z_t_6 :: z_t_7 :: z_t_8 :: z_t_9 :: z_t_10 :: z_t_11 :: z_t_12 :: z_t_13 :: z_t_14 :: z_t_15 :: z_t_16 :: z_t_17 :: z_t_18 :: z_t_19 :: z_t_20 :: z_t_21 :: z_t_22 :: z_t_23 :: z_t_24 :: z_t_25 :: z_t_26 :: z_t_27 :: z_t_28 :: z_t_29 :: z_t_30 :: z_t_31 :: z_t_32 :: z_t_33 :: z_t_34 :: z_t_35 :: z_t_36 :: z_t_37 :: z_t_38 :: z_t_39 :: z_t_40 :: z_t_41 :: z_t_42 :: z_t_43 :: z_t_44 :: z_t_45 :: z_t_46 :: z_t_47 :: z_t_48 :: z_t_49 :: z_t_50 :: z_t_51 :: z_t_52 :: z_t_53 :: z_t_54 :: z_t_55 :: z_t_56 :: z_t_57 :: z_t_58 :: z_t_59 :: z_t_60 :: []))) :: (h_t_tape, .inl (k_t_tape, 200, .inl t_tape)) :: R) sz)) 0 0 (va_A ((h_t, .inr (12, (z_t_0 :: .ref h_t_tape :: .int t_length :: z_t_3 :: z_t_4 :: z_t_5 :: z_t_6 :: z_t_7 :: z_t_8 :: z_t_9 :: z_t_10 :: z_t_11 :: z_t_12 :: z_t_13 :: z_t_14 :: z_t_15 :: z_t_16 :: z_t_17 :: z_t_18 :: z_t_19 :: z_t_20 :: z_t_21 :: z_t_22 :: z_t_23 :: z_t_24 :: z_t_25 :: z_t_26 :: z_t_27 :: z_t_28 :: z_t_29 :: z_t_30 :: z_t_31 :: z_t_32 :: z_t_33 :: z_t_34 :: z_t_35 :: z_t_36 :: z_t_37 :: z_t_38 :: z_t_39 :: z_t_40 :: z_t_41 :: z_t_42 :: z_t_43 :: z_t_44 :: z_t_45 :: z_t_46 :: z_t_47 :: z_t_48 :: z_t_49 :: z_t_50 :: z_t_51 :: z_t_52 :: z_t_53 :: z_t_54 :: z_t_55 :: z_t_56 :: z_t_57 :: z_t_58 :: z_t_59 :: z_t_60 :: []))) :: (h_t_tape, .inl (k_t_tape, 200, .inl t_tape)) :: R) sz) := by
  refine ct_start (QF := fun A => QV D ((h_t, .inr (12, (z_t_0 :: .ref h_t_tape :: .int o_t_length :: z_t_3 :: z_t_4 :: z_t_5 :: z_t_6 :: z_t_7 :: z_t_8 :: z_t_9 :: z_t_10 :: z_t_11 :: z_t_12 :: z_t_13 :: z_t_14 :: z_t_15 :: z_t_16 :: z_t_17 :: z_t_18 :: z_t_19 :: z_t_20 :: z_t_21 :: z_t_22 :: z_t_23 :: z_t_24 :: z_t_25 :: z_t_26 :: z_t_27 :: z_t_28 :: z_t_29 :: z_t_30 :: z_t_31 :: z_t_32 :: z_t_33 :: z_t_34 :: z_t_35 :: z_t_36 :: z_t_37 :: z_t_38 :: z_t_39 :: z_t_40 :: z_t_41 :: z_t_42 :: z_t_43 :: z_t_44 :: z_t_45 :: z_t_46 :: z_t_47 :: z_t_48 :: z_t_49 :: z_t_50 :: z_t_51 :: z_t_52 :: z_t_53 :: z_t_54 :: z_t_55 :: z_t_56 :: z_t_57 :: z_t_58 :: z_t_59 :: z_t_60 :: []))) :: (h_t_tape, .inl (k_t_tape, 200, .inl o_t_tape)) :: R) A) ?_ ?_ ?_
  · decide +kernel
  · exact Nat.le_of_ble_eq_true rfl
  intro p e s m args below meth c A ls S hr hlk hnm hS hA hP hD hK hN hl
  have S : CallFix p m c cX12_four 3 s args AL "DigitBenchModel" := S
  have hx := S.1
  have hb := S.2.1
  have hown := S.2.2.2.1
  have ha := S.2.2.2.2
  have hl : lv_has ls 3 [(0, .ref h_t), (1, .int l1)] := hl
  have L3 : ∀ (Q : State → Prop) (n : Nat) (l1 : Int32) (l2 : Int32) (t_length : Int32) (t_tape : Nat → Int32) (x_t_length : Int32) (x_t_tape : Nat → Int32), f_X12_four_L3 l1 n l2 t_length t_tape = some (x_t_length, x_t_tape) → ∀ (H : Heap) (locs : List Loc) (ls : Array Slot), va_P D vwCl ((h_t, .inr (12, (z_t_0 :: .ref h_t_tape :: .int t_length :: z_t_3 :: z_t_4 :: z_t_5 :: z_t_6 :: z_t_7 :: z_t_8 :: z_t_9 :: z_t_10 :: z_t_11 :: z_t_12 :: z_t_13 :: z_t_14 :: z_t_15 :: z_t_16 :: z_t_17 :: z_t_18 :: z_t_19 :: z_t_20 :: z_t_21 :: z_t_22 :: z_t_23 :: z_t_24 :: z_t_25 :: z_t_26 :: z_t_27 :: z_t_28 :: z_t_29 :: z_t_30 :: z_t_31 :: z_t_32 :: z_t_33 :: z_t_34 :: z_t_35 :: z_t_36 :: z_t_37 :: z_t_38 :: z_t_39 :: z_t_40 :: z_t_41 :: z_t_42 :: z_t_43 :: z_t_44 :: z_t_45 :: z_t_46 :: z_t_47 :: z_t_48 :: z_t_49 :: z_t_50 :: z_t_51 :: z_t_52 :: z_t_53 :: z_t_54 :: z_t_55 :: z_t_56 :: z_t_57 :: z_t_58 :: z_t_59 :: z_t_60 :: []))) :: (h_t_tape, .inl (k_t_tape, 200, .inl t_tape)) :: R) H → va_D A ((h_t, .inr (12, (z_t_0 :: .ref h_t_tape :: .int t_length :: z_t_3 :: z_t_4 :: z_t_5 :: z_t_6 :: z_t_7 :: z_t_8 :: z_t_9 :: z_t_10 :: z_t_11 :: z_t_12 :: z_t_13 :: z_t_14 :: z_t_15 :: z_t_16 :: z_t_17 :: z_t_18 :: z_t_19 :: z_t_20 :: z_t_21 :: z_t_22 :: z_t_23 :: z_t_24 :: z_t_25 :: z_t_26 :: z_t_27 :: z_t_28 :: z_t_29 :: z_t_30 :: z_t_31 :: z_t_32 :: z_t_33 :: z_t_34 :: z_t_35 :: z_t_36 :: z_t_37 :: z_t_38 :: z_t_39 :: z_t_40 :: z_t_41 :: z_t_42 :: z_t_43 :: z_t_44 :: z_t_45 :: z_t_46 :: z_t_47 :: z_t_48 :: z_t_49 :: z_t_50 :: z_t_51 :: z_t_52 :: z_t_53 :: z_t_54 :: z_t_55 :: z_t_56 :: z_t_57 :: z_t_58 :: z_t_59 :: z_t_60 :: []))) :: (h_t_tape, .inl (k_t_tape, 200, .inl t_tape)) :: R) → va_S A s.heap H locs → lv_has ls 3 [(0, .ref h_t), (1, .int l1), (2, .int l2)] → (∀ (H : Heap) (locs : List Loc) (ls : Array Slot), va_P D vwCl ((h_t, .inr (12, (z_t_0 :: .ref h_t_tape :: .int x_t_length :: z_t_3 :: z_t_4 :: z_t_5 :: z_t_6 :: z_t_7 :: z_t_8 :: z_t_9 :: z_t_10 :: z_t_11 :: z_t_12 :: z_t_13 :: z_t_14 :: z_t_15 :: z_t_16 :: z_t_17 :: z_t_18 :: z_t_19 :: z_t_20 :: z_t_21 :: z_t_22 :: z_t_23 :: z_t_24 :: z_t_25 :: z_t_26 :: z_t_27 :: z_t_28 :: z_t_29 :: z_t_30 :: z_t_31 :: z_t_32 :: z_t_33 :: z_t_34 :: z_t_35 :: z_t_36 :: z_t_37 :: z_t_38 :: z_t_39 :: z_t_40 :: z_t_41 :: z_t_42 :: z_t_43 :: z_t_44 :: z_t_45 :: z_t_46 :: z_t_47 :: z_t_48 :: z_t_49 :: z_t_50 :: z_t_51 :: z_t_52 :: z_t_53 :: z_t_54 :: z_t_55 :: z_t_56 :: z_t_57 :: z_t_58 :: z_t_59 :: z_t_60 :: []))) :: (h_t_tape, .inl (k_t_tape, 200, .inl x_t_tape)) :: R) H → va_D A ((h_t, .inr (12, (z_t_0 :: .ref h_t_tape :: .int x_t_length :: z_t_3 :: z_t_4 :: z_t_5 :: z_t_6 :: z_t_7 :: z_t_8 :: z_t_9 :: z_t_10 :: z_t_11 :: z_t_12 :: z_t_13 :: z_t_14 :: z_t_15 :: z_t_16 :: z_t_17 :: z_t_18 :: z_t_19 :: z_t_20 :: z_t_21 :: z_t_22 :: z_t_23 :: z_t_24 :: z_t_25 :: z_t_26 :: z_t_27 :: z_t_28 :: z_t_29 :: z_t_30 :: z_t_31 :: z_t_32 :: z_t_33 :: z_t_34 :: z_t_35 :: z_t_36 :: z_t_37 :: z_t_38 :: z_t_39 :: z_t_40 :: z_t_41 :: z_t_42 :: z_t_43 :: z_t_44 :: z_t_45 :: z_t_46 :: z_t_47 :: z_t_48 :: z_t_49 :: z_t_50 :: z_t_51 :: z_t_52 :: z_t_53 :: z_t_54 :: z_t_55 :: z_t_56 :: z_t_57 :: z_t_58 :: z_t_59 :: z_t_60 :: []))) :: (h_t_tape, .inl (k_t_tape, 200, .inl x_t_tape)) :: R) → va_S A s.heap H locs → lv_has ls 3 [] → W p l e { frames := 0, cells := 0, slots := 0, locals := 0 } s m args below meth c H locs 0 0 Q (F0 m 36 ls [])) → W p l e { frames := 0, cells := 0, slots := 0, locals := 0 } s m args below meth c H locs 0 0 Q (F0 m 3 ls []) := by
    intro Q n
    induction n with
    | zero =>
      intro l1 l2 t_length t_tape x_t_length x_t_tape h
      rw [f_X12_four_L3] at h; cases h
    | succ n ih =>
      intro l1 l2 t_length t_tape x_t_length x_t_tape h H locs ls hP hD hS hl kk0
      rw [f_X12_four_L3] at h
      refine lv_iload_n hx hb dX12_four_3 rfl (lv_at hl 2 rfl) ?_
      refine lv_if_lt (tgt := 36) hx hb dX12_four_4 (by decide) (fun c1 => ?_) (fun c1 => ?_)
      · have h := br_pos c1 h
        cases h
        exact kk0 _ _ _ hP hD hS (lv_sub hl [] rfl)
      · have h := br_neg c1 h
        refine lv_aload_n hx hb dX12_four_7 rfl (lv_at hl 0 rfl) ?_
        refine va_get (D := D) (ci := 12) (v := .ref h_t_tape) (C := RX12) (T := TX12) (N := 61) hx hb ha ix12 hown hK hP 0 rfl rfl 1 (by decide) (ha _ q961) (fun _ h9 => h9) rfl dX12_four_8 ?_
        refine lv_aload_n hx hb dX12_four_11 rfl (lv_at hl 0 rfl) ?_
        refine va_get (D := D) (ci := 12) (v := .int t_length) (C := RX12) (T := TX12) (N := 61) hx hb ha ix12 hown hK hP 0 rfl rfl 2 (by decide) (ha _ q962) (fun _ h9 => h9) rfl dX12_four_12 ?_
        refine lv_iload_n hx hb dX12_four_15 rfl (lv_at hl 1 rfl) ?_
        refine lv_iload_n hx hb dX12_four_16 rfl (lv_at hl 2 rfl) ?_
        refine lv_ishr hx hb dX12_four_17 ?_
        refine lv_i2b (v := (l1 >>> (l2 &&& 31)).toInt8.toInt32) hx hb dX12_four_18 rfl ?_
        obtain ⟨i2, h⟩ := ix_ok h
        refine va_bast hx hb hK hP hD hS 1 0 rfl rfl i2 dX12_four_19 (fun H locs hP hD hS => ?_)
        have hP : va_P D vwCl ((h_t, .inr (12, (z_t_0 :: .ref h_t_tape :: .int t_length :: z_t_3 :: z_t_4 :: z_t_5 :: z_t_6 :: z_t_7 :: z_t_8 :: z_t_9 :: z_t_10 :: z_t_11 :: z_t_12 :: z_t_13 :: z_t_14 :: z_t_15 :: z_t_16 :: z_t_17 :: z_t_18 :: z_t_19 :: z_t_20 :: z_t_21 :: z_t_22 :: z_t_23 :: z_t_24 :: z_t_25 :: z_t_26 :: z_t_27 :: z_t_28 :: z_t_29 :: z_t_30 :: z_t_31 :: z_t_32 :: z_t_33 :: z_t_34 :: z_t_35 :: z_t_36 :: z_t_37 :: z_t_38 :: z_t_39 :: z_t_40 :: z_t_41 :: z_t_42 :: z_t_43 :: z_t_44 :: z_t_45 :: z_t_46 :: z_t_47 :: z_t_48 :: z_t_49 :: z_t_50 :: z_t_51 :: z_t_52 :: z_t_53 :: z_t_54 :: z_t_55 :: z_t_56 :: z_t_57 :: z_t_58 :: z_t_59 :: z_t_60 :: []))) :: (h_t_tape, .inl (k_t_tape, 200, .inl (upd t_tape t_length.toNatClampNeg (vp_nar .byte ((l1 >>> (l2 &&& 31)).toInt8.toInt32))))) :: R) H := hP
        have hD : va_D A ((h_t, .inr (12, (z_t_0 :: .ref h_t_tape :: .int t_length :: z_t_3 :: z_t_4 :: z_t_5 :: z_t_6 :: z_t_7 :: z_t_8 :: z_t_9 :: z_t_10 :: z_t_11 :: z_t_12 :: z_t_13 :: z_t_14 :: z_t_15 :: z_t_16 :: z_t_17 :: z_t_18 :: z_t_19 :: z_t_20 :: z_t_21 :: z_t_22 :: z_t_23 :: z_t_24 :: z_t_25 :: z_t_26 :: z_t_27 :: z_t_28 :: z_t_29 :: z_t_30 :: z_t_31 :: z_t_32 :: z_t_33 :: z_t_34 :: z_t_35 :: z_t_36 :: z_t_37 :: z_t_38 :: z_t_39 :: z_t_40 :: z_t_41 :: z_t_42 :: z_t_43 :: z_t_44 :: z_t_45 :: z_t_46 :: z_t_47 :: z_t_48 :: z_t_49 :: z_t_50 :: z_t_51 :: z_t_52 :: z_t_53 :: z_t_54 :: z_t_55 :: z_t_56 :: z_t_57 :: z_t_58 :: z_t_59 :: z_t_60 :: []))) :: (h_t_tape, .inl (k_t_tape, 200, .inl (upd t_tape t_length.toNatClampNeg (vp_nar .byte ((l1 >>> (l2 &&& 31)).toInt8.toInt32))))) :: R) := hD
        refine lv_aload_n hx hb dX12_four_20 rfl (lv_at hl 0 rfl) ?_
        refine lv_dup hx hb dX12_four_21 rfl ?_
        refine va_get (D := D) (ci := 12) (v := .int t_length) (C := RX12) (T := TX12) (N := 61) hx hb ha ix12 hown hK hP 0 rfl rfl 2 (by decide) (ha _ q962) (fun _ h9 => h9) rfl dX12_four_22 ?_
        refine lv_iconst (v := 1) hx hb dX12_four_25 (by decide) ?_
        refine lv_iadd hx hb dX12_four_26 ?_
        refine va_put (D := D) (ci := 12) (v := .int (t_length + 1)) (ty := .int) (C := RX12) (T := TX12) (N := 61) hx hb ha ix12 tyX12 tyX12_ok nmX12 hown hK hP hD hS 0 rfl rfl 2 (by decide) (ha _ q962) (fun _ h9 => h9) rfl (by decide +kernel) rfl rfl (Nat.le_of_ble_eq_true rfl) dX12_four_27 (fun H locs hP hD hS => ?_)
        have hP : va_P D vwCl ((h_t, .inr (12, (z_t_0 :: .ref h_t_tape :: .int (t_length + 1) :: z_t_3 :: z_t_4 :: z_t_5 :: z_t_6 :: z_t_7 :: z_t_8 :: z_t_9 :: z_t_10 :: z_t_11 :: z_t_12 :: z_t_13 :: z_t_14 :: z_t_15 :: z_t_16 :: z_t_17 :: z_t_18 :: z_t_19 :: z_t_20 :: z_t_21 :: z_t_22 :: z_t_23 :: z_t_24 :: z_t_25 :: z_t_26 :: z_t_27 :: z_t_28 :: z_t_29 :: z_t_30 :: z_t_31 :: z_t_32 :: z_t_33 :: z_t_34 :: z_t_35 :: z_t_36 :: z_t_37 :: z_t_38 :: z_t_39 :: z_t_40 :: z_t_41 :: z_t_42 :: z_t_43 :: z_t_44 :: z_t_45 :: z_t_46 :: z_t_47 :: z_t_48 :: z_t_49 :: z_t_50 :: z_t_51 :: z_t_52 :: z_t_53 :: z_t_54 :: z_t_55 :: z_t_56 :: z_t_57 :: z_t_58 :: z_t_59 :: z_t_60 :: []))) :: (h_t_tape, .inl (k_t_tape, 200, .inl (upd t_tape t_length.toNatClampNeg (vp_nar .byte ((l1 >>> (l2 &&& 31)).toInt8.toInt32))))) :: R) H := hP
        have hD : va_D A ((h_t, .inr (12, (z_t_0 :: .ref h_t_tape :: .int (t_length + 1) :: z_t_3 :: z_t_4 :: z_t_5 :: z_t_6 :: z_t_7 :: z_t_8 :: z_t_9 :: z_t_10 :: z_t_11 :: z_t_12 :: z_t_13 :: z_t_14 :: z_t_15 :: z_t_16 :: z_t_17 :: z_t_18 :: z_t_19 :: z_t_20 :: z_t_21 :: z_t_22 :: z_t_23 :: z_t_24 :: z_t_25 :: z_t_26 :: z_t_27 :: z_t_28 :: z_t_29 :: z_t_30 :: z_t_31 :: z_t_32 :: z_t_33 :: z_t_34 :: z_t_35 :: z_t_36 :: z_t_37 :: z_t_38 :: z_t_39 :: z_t_40 :: z_t_41 :: z_t_42 :: z_t_43 :: z_t_44 :: z_t_45 :: z_t_46 :: z_t_47 :: z_t_48 :: z_t_49 :: z_t_50 :: z_t_51 :: z_t_52 :: z_t_53 :: z_t_54 :: z_t_55 :: z_t_56 :: z_t_57 :: z_t_58 :: z_t_59 :: z_t_60 :: []))) :: (h_t_tape, .inl (k_t_tape, 200, .inl (upd t_tape t_length.toNatClampNeg (vp_nar .byte ((l1 >>> (l2 &&& 31)).toInt8.toInt32))))) :: R) := hD
        refine lv_iinc (v := (l2 + (-8))) (lv' := [(2, .int (l2 + (-8))), (0, .ref h_t), (1, .int l1)]) hx hb dX12_four_30 hl (k := 2) rfl rfl (by decide) rfl (fun ls hl => ?_)
        refine lv_goto (tgt := 3) hx hb dX12_four_33 (by decide) ?_
        exact ih l1 (l2 + (-8)) (t_length + 1) (upd t_tape t_length.toNatClampNeg (vp_nar .byte ((l1 >>> (l2 &&& 31)).toInt8.toInt32))) _ _ h _ _ _ hP hD hS (lv_sub hl [1, 2, 0] rfl) kk0
  unfold f_X12_four at h
  refine lv_bipush (v := 24) hx hb dX12_four_0 (by decide) ?_
  refine lv_istore_n (lv' := [(2, .int 24), (0, .ref h_t), (1, .int l1)]) hx hb dX12_four_2 rfl hl (by decide) rfl (fun ls hl => ?_)
  obtain ⟨x_t_length_L3_2, x_t_tape_L3_2, e_L3_2, h⟩ := bnd2_ok h
  refine L3 _ _ l1 24 t_length t_tape x_t_length_L3_2 x_t_tape_L3_2 e_L3_2 _ _ _ hP hD hS (lv_sub hl [1, 2, 0] rfl) ?_
  intro H locs ls hP hD hS hl
  cases h
  exact rt_v S hr hlk hP hD hS dX12_four_36
noncomputable def f_X12_feed (t_thrown : Int32) (t_length : Int32) (t_tape : Nat → Int32) (l1 : Int32) (l2 : Int32) (l3 : Int32) (l4 : Int32) (l5 : Int32) : Option (Int32 × Int32 × Int32 × (Nat → Int32)) :=
  if (t_length + 20) ≤ 200 then (
   bnd2 (f_X12_four t_length t_tape l1) fun t_length_c22_1 t_tape_c22_1 => (
    bnd2 (f_X12_four t_length_c22_1 t_tape_c22_1 l2) fun t_length_c27_2 t_tape_c27_2 => (
     bnd2 (f_X12_four t_length_c27_2 t_tape_c27_2 l3) fun t_length_c32_3 t_tape_c32_3 => (
      bnd2 (f_X12_four t_length_c32_3 t_tape_c32_3 l4) fun t_length_c38_4 t_tape_c38_4 => (
       bnd2 (f_X12_four t_length_c38_4 t_tape_c38_4 l5) fun t_length_c44_5 t_tape_c44_5 => (
        some (t_length_c44_5, 0, t_length_c44_5, t_tape_c44_5)
       )
      )
     )
    )
   )
  ) else (
   some ((-1), 0, t_length, t_tape)
  )
set_option maxHeartbeats 4000000 in
set_option maxRecDepth 100000 in
theorem c_X12_feed (l : Launch) (D : va_G) (R : va_W) (h_t : Nat) (t_thrown : Int32) (t_length : Int32) (z_t_3 : Value) (z_t_4 : Value) (z_t_5 : Value) (z_t_6 : Value) (z_t_7 : Value) (z_t_8 : Value) (z_t_9 : Value) (z_t_10 : Value) (z_t_11 : Value) (z_t_12 : Value) (z_t_13 : Value) (z_t_14 : Value) (z_t_15 : Value) (z_t_16 : Value) (z_t_17 : Value) (z_t_18 : Value) (z_t_19 : Value) (z_t_20 : Value) (z_t_21 : Value) (z_t_22 : Value) (z_t_23 : Value) (z_t_24 : Value) (z_t_25 : Value) (z_t_26 : Value) (z_t_27 : Value) (z_t_28 : Value) (z_t_29 : Value) (z_t_30 : Value) (z_t_31 : Value) (z_t_32 : Value) (z_t_33 : Value) (z_t_34 : Value) (z_t_35 : Value) (z_t_36 : Value) (z_t_37 : Value) (z_t_38 : Value) (z_t_39 : Value) (z_t_40 : Value) (z_t_41 : Value) (z_t_42 : Value) (z_t_43 : Value) (z_t_44 : Value) (z_t_45 : Value) (z_t_46 : Value) (z_t_47 : Value) (z_t_48 : Value) (z_t_49 : Value) (z_t_50 : Value) (z_t_51 : Value) (z_t_52 : Value) (z_t_53 : Value) (z_t_54 : Value) (z_t_55 : Value) (z_t_56 : Value) (z_t_57 : Value) (z_t_58 : Value) (z_t_59 : Value) (z_t_60 : Value) (h_t_tape : Nat) (k_t_tape : ClassId) (t_tape : Nat → Int32) (l1 : Int32) (l2 : Int32) (l3 : Int32) (l4 : Int32) (l5 : Int32) (r : Int32) (o_t_thrown : Int32) (o_t_length : Int32) (o_t_tape : Nat → Int32)  (h : f_X12_feed t_thrown t_length t_tape l1 l2 l3 l4 l5 = some (r, o_t_thrown, o_t_length, o_t_tape)) (sz : Nat) : Met l yX12_feed (WD yX12_feed cX12_feed 6 (some .int)) ({ frames := 1, cells := 0, slots := 0, locals := 22 }) (va_Pc [.ref h_t, .int l1, .int l2, .int l3, .int l4, .int l5] (PcW D [(k_t_tape, .byte)] ((h_t, .inr (12, (.int t_thrown :: .ref h_t_tape :: .int t_length :: z_t_3 :: z_t_4 :: z_t_5 :: z_t_6 :: z_t_7 :: z_t_8 :: z_t_9 :: z_t_10 :: z_t_11 :: z_t_12 :: z_t_13 :: z_t_14 :: z_t_15 :: z_t_16 :: z_t_17 :: z_t_18 :: z_t_19 :: z_t_20 :: z_t_21 :: z_t_22 :: z_t_23 :: z_t_24 :: z_t_25 :: z_t_26 :: z_t_27 :: z_t_28 :: z_t_29 :: z_t_30 :: z_t_31 :: z_t_32 :: z_t_33 :: z_t_34 :: z_t_35 :: z_t_36 :: z_t_37 :: z_t_38 :: z_t_39 :: z_t_40 :: z_t_41 :: z_t_42 :: z_t_43 :: z_t_44 :: z_t_45 :: z_t_46 :: z_t_47 :: z_t_48 :: z_t_49 :: z_t_50 :: z_t_51 :: z_t_52 :: z_t_53 :: z_t_54 :: z_t_55 :: z_t_56 :: z_t_57 :: z_t_58 :: z_t_59 :: z_t_60 :: []))) :: (h_t_tape, .inl (k_t_tape, 200, .inl t_tape)) :: R) sz)) (QI D r ((h_t, .inr (12, (.int o_t_thrown :: .ref h_t_tape :: .int o_t_length :: z_t_3 :: z_t_4 :: z_t_5 :: z_t_6 :: z_t_7 :: z_t_8 :: z_t_9 :: z_t_10 :: z_t_11 :: z_t_12 :: z_t_13 :: z_t_14 :: z_t_15 :: z_t_16 :: z_t_17 :: z_t_18 :: z_t_19 :: z_t_20 :: z_t_21 :: z_t_22 :: z_t_23 :: z_t_24 :: z_t_25 :: z_t_26 :: z_t_27 :: z_t_28 :: z_t_29 :: z_t_30 :: z_t_31 :: z_t_32 :: z_t_33 :: z_t_34 :: z_t_35 :: z_t_36 :: z_t_37 :: z_t_38 :: z_t_39 :: z_t_40 :: z_t_41 :: z_t_42 :: z_t_43 :: z_t_44 :: z_t_45 :: z_t_46 :: z_t_47 :: z_t_48 :: z_t_49 :: z_t_50 :: z_t_51 :: z_t_52 :: z_t_53 :: z_t_54 :: z_t_55 :: z_t_56 :: z_t_57 :: z_t_58 :: z_t_59 :: z_t_60 :: []))) :: (h_t_tape, .inl (k_t_tape, 200, .inl o_t_tape)) :: R) (va_A ((h_t, .inr (12, (.int t_thrown :: .ref h_t_tape :: .int t_length :: z_t_3 :: z_t_4 :: z_t_5 :: z_t_6 :: z_t_7 :: z_t_8 :: z_t_9 :: z_t_10 :: z_t_11 :: z_t_12 :: z_t_13 :: z_t_14 :: z_t_15 :: z_t_16 :: z_t_17 :: z_t_18 :: z_t_19 :: z_t_20 :: z_t_21 :: z_t_22 :: z_t_23 :: z_t_24 :: z_t_25 :: z_t_26 :: z_t_27 :: z_t_28 :: z_t_29 :: z_t_30 :: z_t_31 :: z_t_32 :: z_t_33 :: z_t_34 :: z_t_35 :: z_t_36 :: z_t_37 :: z_t_38 :: z_t_39 :: z_t_40 :: z_t_41 :: z_t_42 :: z_t_43 :: z_t_44 :: z_t_45 :: z_t_46 :: z_t_47 :: z_t_48 :: z_t_49 :: z_t_50 :: z_t_51 :: z_t_52 :: z_t_53 :: z_t_54 :: z_t_55 :: z_t_56 :: z_t_57 :: z_t_58 :: z_t_59 :: z_t_60 :: []))) :: (h_t_tape, .inl (k_t_tape, 200, .inl t_tape)) :: R) sz)) 0 0 (va_A ((h_t, .inr (12, (.int t_thrown :: .ref h_t_tape :: .int t_length :: z_t_3 :: z_t_4 :: z_t_5 :: z_t_6 :: z_t_7 :: z_t_8 :: z_t_9 :: z_t_10 :: z_t_11 :: z_t_12 :: z_t_13 :: z_t_14 :: z_t_15 :: z_t_16 :: z_t_17 :: z_t_18 :: z_t_19 :: z_t_20 :: z_t_21 :: z_t_22 :: z_t_23 :: z_t_24 :: z_t_25 :: z_t_26 :: z_t_27 :: z_t_28 :: z_t_29 :: z_t_30 :: z_t_31 :: z_t_32 :: z_t_33 :: z_t_34 :: z_t_35 :: z_t_36 :: z_t_37 :: z_t_38 :: z_t_39 :: z_t_40 :: z_t_41 :: z_t_42 :: z_t_43 :: z_t_44 :: z_t_45 :: z_t_46 :: z_t_47 :: z_t_48 :: z_t_49 :: z_t_50 :: z_t_51 :: z_t_52 :: z_t_53 :: z_t_54 :: z_t_55 :: z_t_56 :: z_t_57 :: z_t_58 :: z_t_59 :: z_t_60 :: []))) :: (h_t_tape, .inl (k_t_tape, 200, .inl t_tape)) :: R) sz) := by
  refine ct_start (QF := fun A => QI D r ((h_t, .inr (12, (.int o_t_thrown :: .ref h_t_tape :: .int o_t_length :: z_t_3 :: z_t_4 :: z_t_5 :: z_t_6 :: z_t_7 :: z_t_8 :: z_t_9 :: z_t_10 :: z_t_11 :: z_t_12 :: z_t_13 :: z_t_14 :: z_t_15 :: z_t_16 :: z_t_17 :: z_t_18 :: z_t_19 :: z_t_20 :: z_t_21 :: z_t_22 :: z_t_23 :: z_t_24 :: z_t_25 :: z_t_26 :: z_t_27 :: z_t_28 :: z_t_29 :: z_t_30 :: z_t_31 :: z_t_32 :: z_t_33 :: z_t_34 :: z_t_35 :: z_t_36 :: z_t_37 :: z_t_38 :: z_t_39 :: z_t_40 :: z_t_41 :: z_t_42 :: z_t_43 :: z_t_44 :: z_t_45 :: z_t_46 :: z_t_47 :: z_t_48 :: z_t_49 :: z_t_50 :: z_t_51 :: z_t_52 :: z_t_53 :: z_t_54 :: z_t_55 :: z_t_56 :: z_t_57 :: z_t_58 :: z_t_59 :: z_t_60 :: []))) :: (h_t_tape, .inl (k_t_tape, 200, .inl o_t_tape)) :: R) A) ?_ ?_ ?_
  · decide +kernel
  · exact Nat.le_of_ble_eq_true rfl
  intro p e s m args below meth c A ls S hr hlk hnm hS hA hP hD hK hN hl
  have S : CallFix p m c cX12_feed 6 s args AL "DigitBenchModel" := S
  have hx := S.1
  have hb := S.2.1
  have hown := S.2.2.2.1
  have ha := S.2.2.2.2
  have hl : lv_has ls 6 [(0, .ref h_t), (1, .int l1), (2, .int l2), (3, .int l3), (4, .int l4), (5, .int l5)] := hl
  unfold f_X12_feed at h
  refine lv_aload_n hx hb dX12_feed_0 rfl (lv_at hl 0 rfl) ?_
  refine lv_iconst (v := 0) hx hb dX12_feed_1 (by decide) ?_
  refine va_put (D := D) (ci := 12) (v := .int 0) (ty := .int) (C := RX12) (T := TX12) (N := 61) hx hb ha ix12 tyX12 tyX12_ok nmX12 hown hK hP hD hS 0 rfl rfl 0 (by decide) (ha _ q960) (fun _ h9 => h9) rfl (by decide +kernel) rfl rfl (Nat.le_of_ble_eq_true rfl) dX12_feed_2 (fun H locs hP hD hS => ?_)
  have hP : va_P D vwCl ((h_t, .inr (12, (.int 0 :: .ref h_t_tape :: .int t_length :: z_t_3 :: z_t_4 :: z_t_5 :: z_t_6 :: z_t_7 :: z_t_8 :: z_t_9 :: z_t_10 :: z_t_11 :: z_t_12 :: z_t_13 :: z_t_14 :: z_t_15 :: z_t_16 :: z_t_17 :: z_t_18 :: z_t_19 :: z_t_20 :: z_t_21 :: z_t_22 :: z_t_23 :: z_t_24 :: z_t_25 :: z_t_26 :: z_t_27 :: z_t_28 :: z_t_29 :: z_t_30 :: z_t_31 :: z_t_32 :: z_t_33 :: z_t_34 :: z_t_35 :: z_t_36 :: z_t_37 :: z_t_38 :: z_t_39 :: z_t_40 :: z_t_41 :: z_t_42 :: z_t_43 :: z_t_44 :: z_t_45 :: z_t_46 :: z_t_47 :: z_t_48 :: z_t_49 :: z_t_50 :: z_t_51 :: z_t_52 :: z_t_53 :: z_t_54 :: z_t_55 :: z_t_56 :: z_t_57 :: z_t_58 :: z_t_59 :: z_t_60 :: []))) :: (h_t_tape, .inl (k_t_tape, 200, .inl t_tape)) :: R) H := hP
  have hD : va_D A ((h_t, .inr (12, (.int 0 :: .ref h_t_tape :: .int t_length :: z_t_3 :: z_t_4 :: z_t_5 :: z_t_6 :: z_t_7 :: z_t_8 :: z_t_9 :: z_t_10 :: z_t_11 :: z_t_12 :: z_t_13 :: z_t_14 :: z_t_15 :: z_t_16 :: z_t_17 :: z_t_18 :: z_t_19 :: z_t_20 :: z_t_21 :: z_t_22 :: z_t_23 :: z_t_24 :: z_t_25 :: z_t_26 :: z_t_27 :: z_t_28 :: z_t_29 :: z_t_30 :: z_t_31 :: z_t_32 :: z_t_33 :: z_t_34 :: z_t_35 :: z_t_36 :: z_t_37 :: z_t_38 :: z_t_39 :: z_t_40 :: z_t_41 :: z_t_42 :: z_t_43 :: z_t_44 :: z_t_45 :: z_t_46 :: z_t_47 :: z_t_48 :: z_t_49 :: z_t_50 :: z_t_51 :: z_t_52 :: z_t_53 :: z_t_54 :: z_t_55 :: z_t_56 :: z_t_57 :: z_t_58 :: z_t_59 :: z_t_60 :: []))) :: (h_t_tape, .inl (k_t_tape, 200, .inl t_tape)) :: R) := hD
  refine lv_aload_n hx hb dX12_feed_5 rfl (lv_at hl 0 rfl) ?_
  refine va_get (D := D) (ci := 12) (v := .int t_length) (C := RX12) (T := TX12) (N := 61) hx hb ha ix12 hown hK hP 0 rfl rfl 2 (by decide) (ha _ q962) (fun _ h9 => h9) rfl dX12_feed_6 ?_
  refine lv_bipush (v := 20) hx hb dX12_feed_9 (by decide) ?_
  refine lv_iadd hx hb dX12_feed_11 ?_
  refine lv_sipush (v := 200) hx hb dX12_feed_12 (by decide) ?_
  refine lv_icmp_le (tgt := 20) hx hb dX12_feed_15 (by decide) (fun c1 => ?_) (fun c1 => ?_)
  · have h := br_pos c1 h
    refine lv_aload_n hx hb dX12_feed_20 rfl (lv_at hl 0 rfl) ?_
    refine lv_iload_n hx hb dX12_feed_21 rfl (lv_at hl 1 rfl) ?_
    obtain ⟨t_length_c22_1, t_tape_c22_1, e_c22_1, h⟩ := bnd2_ok h
    refine cl_v (rn_v (ci := 12) (As := [.int l1]) (rest := []) S (c_X12_four l D (R) h_t (.int 0) t_length (z_t_3) (z_t_4) (z_t_5) (z_t_6) (z_t_7) (z_t_8) (z_t_9) (z_t_10) (z_t_11) (z_t_12) (z_t_13) (z_t_14) (z_t_15) (z_t_16) (z_t_17) (z_t_18) (z_t_19) (z_t_20) (z_t_21) (z_t_22) (z_t_23) (z_t_24) (z_t_25) (z_t_26) (z_t_27) (z_t_28) (z_t_29) (z_t_30) (z_t_31) (z_t_32) (z_t_33) (z_t_34) (z_t_35) (z_t_36) (z_t_37) (z_t_38) (z_t_39) (z_t_40) (z_t_41) (z_t_42) (z_t_43) (z_t_44) (z_t_45) (z_t_46) (z_t_47) (z_t_48) (z_t_49) (z_t_50) (z_t_51) (z_t_52) (z_t_53) (z_t_54) (z_t_55) (z_t_56) (z_t_57) (z_t_58) (z_t_59) (z_t_60) h_t_tape k_t_tape t_tape l1 t_length_c22_1 t_tape_c22_1 e_c22_1 _) q1153 q1155 q26 q61 q1156 nd_X12_four ⟨Nat.le_of_ble_eq_true rfl, Nat.le_of_ble_eq_true rfl⟩ rfl rfl hP hD (hK.sub (tys' := [(k_t_tape, .byte)]) [0] rfl) hN rfl ⟨0, _, rfl⟩ rfl hl.1 rfl (Nat.le_of_ble_eq_true rfl) dX12_feed_22 ⟨Nat.le_of_ble_eq_true rfl, Nat.le_of_ble_eq_true rfl⟩) hS hA hD (fun H locs hP hD hS => ?_)
    have hP : va_P D vwCl ((h_t, .inr (12, (.int 0 :: .ref h_t_tape :: .int t_length_c22_1 :: z_t_3 :: z_t_4 :: z_t_5 :: z_t_6 :: z_t_7 :: z_t_8 :: z_t_9 :: z_t_10 :: z_t_11 :: z_t_12 :: z_t_13 :: z_t_14 :: z_t_15 :: z_t_16 :: z_t_17 :: z_t_18 :: z_t_19 :: z_t_20 :: z_t_21 :: z_t_22 :: z_t_23 :: z_t_24 :: z_t_25 :: z_t_26 :: z_t_27 :: z_t_28 :: z_t_29 :: z_t_30 :: z_t_31 :: z_t_32 :: z_t_33 :: z_t_34 :: z_t_35 :: z_t_36 :: z_t_37 :: z_t_38 :: z_t_39 :: z_t_40 :: z_t_41 :: z_t_42 :: z_t_43 :: z_t_44 :: z_t_45 :: z_t_46 :: z_t_47 :: z_t_48 :: z_t_49 :: z_t_50 :: z_t_51 :: z_t_52 :: z_t_53 :: z_t_54 :: z_t_55 :: z_t_56 :: z_t_57 :: z_t_58 :: z_t_59 :: z_t_60 :: []))) :: (h_t_tape, .inl (k_t_tape, 200, .inl t_tape_c22_1)) :: R) H := hP
    have hD : va_D A ((h_t, .inr (12, (.int 0 :: .ref h_t_tape :: .int t_length_c22_1 :: z_t_3 :: z_t_4 :: z_t_5 :: z_t_6 :: z_t_7 :: z_t_8 :: z_t_9 :: z_t_10 :: z_t_11 :: z_t_12 :: z_t_13 :: z_t_14 :: z_t_15 :: z_t_16 :: z_t_17 :: z_t_18 :: z_t_19 :: z_t_20 :: z_t_21 :: z_t_22 :: z_t_23 :: z_t_24 :: z_t_25 :: z_t_26 :: z_t_27 :: z_t_28 :: z_t_29 :: z_t_30 :: z_t_31 :: z_t_32 :: z_t_33 :: z_t_34 :: z_t_35 :: z_t_36 :: z_t_37 :: z_t_38 :: z_t_39 :: z_t_40 :: z_t_41 :: z_t_42 :: z_t_43 :: z_t_44 :: z_t_45 :: z_t_46 :: z_t_47 :: z_t_48 :: z_t_49 :: z_t_50 :: z_t_51 :: z_t_52 :: z_t_53 :: z_t_54 :: z_t_55 :: z_t_56 :: z_t_57 :: z_t_58 :: z_t_59 :: z_t_60 :: []))) :: (h_t_tape, .inl (k_t_tape, 200, .inl t_tape_c22_1)) :: R) := hD
    refine lv_aload_n hx hb dX12_feed_25 rfl (lv_at hl 0 rfl) ?_
    refine lv_iload_n hx hb dX12_feed_26 rfl (lv_at hl 2 rfl) ?_
    obtain ⟨t_length_c27_2, t_tape_c27_2, e_c27_2, h⟩ := bnd2_ok h
    refine cl_v (rn_v (ci := 12) (As := [.int l2]) (rest := []) S (c_X12_four l D (R) h_t (.int 0) t_length_c22_1 (z_t_3) (z_t_4) (z_t_5) (z_t_6) (z_t_7) (z_t_8) (z_t_9) (z_t_10) (z_t_11) (z_t_12) (z_t_13) (z_t_14) (z_t_15) (z_t_16) (z_t_17) (z_t_18) (z_t_19) (z_t_20) (z_t_21) (z_t_22) (z_t_23) (z_t_24) (z_t_25) (z_t_26) (z_t_27) (z_t_28) (z_t_29) (z_t_30) (z_t_31) (z_t_32) (z_t_33) (z_t_34) (z_t_35) (z_t_36) (z_t_37) (z_t_38) (z_t_39) (z_t_40) (z_t_41) (z_t_42) (z_t_43) (z_t_44) (z_t_45) (z_t_46) (z_t_47) (z_t_48) (z_t_49) (z_t_50) (z_t_51) (z_t_52) (z_t_53) (z_t_54) (z_t_55) (z_t_56) (z_t_57) (z_t_58) (z_t_59) (z_t_60) h_t_tape k_t_tape t_tape_c22_1 l2 t_length_c27_2 t_tape_c27_2 e_c27_2 _) q1153 q1155 q26 q61 q1156 nd_X12_four ⟨Nat.le_of_ble_eq_true rfl, Nat.le_of_ble_eq_true rfl⟩ rfl rfl hP hD (hK.sub (tys' := [(k_t_tape, .byte)]) [0] rfl) hN rfl ⟨0, _, rfl⟩ rfl hl.1 rfl (Nat.le_of_ble_eq_true rfl) dX12_feed_27 ⟨Nat.le_of_ble_eq_true rfl, Nat.le_of_ble_eq_true rfl⟩) hS hA hD (fun H locs hP hD hS => ?_)
    have hP : va_P D vwCl ((h_t, .inr (12, (.int 0 :: .ref h_t_tape :: .int t_length_c27_2 :: z_t_3 :: z_t_4 :: z_t_5 :: z_t_6 :: z_t_7 :: z_t_8 :: z_t_9 :: z_t_10 :: z_t_11 :: z_t_12 :: z_t_13 :: z_t_14 :: z_t_15 :: z_t_16 :: z_t_17 :: z_t_18 :: z_t_19 :: z_t_20 :: z_t_21 :: z_t_22 :: z_t_23 :: z_t_24 :: z_t_25 :: z_t_26 :: z_t_27 :: z_t_28 :: z_t_29 :: z_t_30 :: z_t_31 :: z_t_32 :: z_t_33 :: z_t_34 :: z_t_35 :: z_t_36 :: z_t_37 :: z_t_38 :: z_t_39 :: z_t_40 :: z_t_41 :: z_t_42 :: z_t_43 :: z_t_44 :: z_t_45 :: z_t_46 :: z_t_47 :: z_t_48 :: z_t_49 :: z_t_50 :: z_t_51 :: z_t_52 :: z_t_53 :: z_t_54 :: z_t_55 :: z_t_56 :: z_t_57 :: z_t_58 :: z_t_59 :: z_t_60 :: []))) :: (h_t_tape, .inl (k_t_tape, 200, .inl t_tape_c27_2)) :: R) H := hP
    have hD : va_D A ((h_t, .inr (12, (.int 0 :: .ref h_t_tape :: .int t_length_c27_2 :: z_t_3 :: z_t_4 :: z_t_5 :: z_t_6 :: z_t_7 :: z_t_8 :: z_t_9 :: z_t_10 :: z_t_11 :: z_t_12 :: z_t_13 :: z_t_14 :: z_t_15 :: z_t_16 :: z_t_17 :: z_t_18 :: z_t_19 :: z_t_20 :: z_t_21 :: z_t_22 :: z_t_23 :: z_t_24 :: z_t_25 :: z_t_26 :: z_t_27 :: z_t_28 :: z_t_29 :: z_t_30 :: z_t_31 :: z_t_32 :: z_t_33 :: z_t_34 :: z_t_35 :: z_t_36 :: z_t_37 :: z_t_38 :: z_t_39 :: z_t_40 :: z_t_41 :: z_t_42 :: z_t_43 :: z_t_44 :: z_t_45 :: z_t_46 :: z_t_47 :: z_t_48 :: z_t_49 :: z_t_50 :: z_t_51 :: z_t_52 :: z_t_53 :: z_t_54 :: z_t_55 :: z_t_56 :: z_t_57 :: z_t_58 :: z_t_59 :: z_t_60 :: []))) :: (h_t_tape, .inl (k_t_tape, 200, .inl t_tape_c27_2)) :: R) := hD
    refine lv_aload_n hx hb dX12_feed_30 rfl (lv_at hl 0 rfl) ?_
    refine lv_iload_n hx hb dX12_feed_31 rfl (lv_at hl 3 rfl) ?_
    obtain ⟨t_length_c32_3, t_tape_c32_3, e_c32_3, h⟩ := bnd2_ok h
    refine cl_v (rn_v (ci := 12) (As := [.int l3]) (rest := []) S (c_X12_four l D (R) h_t (.int 0) t_length_c27_2 (z_t_3) (z_t_4) (z_t_5) (z_t_6) (z_t_7) (z_t_8) (z_t_9) (z_t_10) (z_t_11) (z_t_12) (z_t_13) (z_t_14) (z_t_15) (z_t_16) (z_t_17) (z_t_18) (z_t_19) (z_t_20) (z_t_21) (z_t_22) (z_t_23) (z_t_24) (z_t_25) (z_t_26) (z_t_27) (z_t_28) (z_t_29) (z_t_30) (z_t_31) (z_t_32) (z_t_33) (z_t_34) (z_t_35) (z_t_36) (z_t_37) (z_t_38) (z_t_39) (z_t_40) (z_t_41) (z_t_42) (z_t_43) (z_t_44) (z_t_45) (z_t_46) (z_t_47) (z_t_48) (z_t_49) (z_t_50) (z_t_51) (z_t_52) (z_t_53) (z_t_54) (z_t_55) (z_t_56) (z_t_57) (z_t_58) (z_t_59) (z_t_60) h_t_tape k_t_tape t_tape_c27_2 l3 t_length_c32_3 t_tape_c32_3 e_c32_3 _) q1153 q1155 q26 q61 q1156 nd_X12_four ⟨Nat.le_of_ble_eq_true rfl, Nat.le_of_ble_eq_true rfl⟩ rfl rfl hP hD (hK.sub (tys' := [(k_t_tape, .byte)]) [0] rfl) hN rfl ⟨0, _, rfl⟩ rfl hl.1 rfl (Nat.le_of_ble_eq_true rfl) dX12_feed_32 ⟨Nat.le_of_ble_eq_true rfl, Nat.le_of_ble_eq_true rfl⟩) hS hA hD (fun H locs hP hD hS => ?_)
    have hP : va_P D vwCl ((h_t, .inr (12, (.int 0 :: .ref h_t_tape :: .int t_length_c32_3 :: z_t_3 :: z_t_4 :: z_t_5 :: z_t_6 :: z_t_7 :: z_t_8 :: z_t_9 :: z_t_10 :: z_t_11 :: z_t_12 :: z_t_13 :: z_t_14 :: z_t_15 :: z_t_16 :: z_t_17 :: z_t_18 :: z_t_19 :: z_t_20 :: z_t_21 :: z_t_22 :: z_t_23 :: z_t_24 :: z_t_25 :: z_t_26 :: z_t_27 :: z_t_28 :: z_t_29 :: z_t_30 :: z_t_31 :: z_t_32 :: z_t_33 :: z_t_34 :: z_t_35 :: z_t_36 :: z_t_37 :: z_t_38 :: z_t_39 :: z_t_40 :: z_t_41 :: z_t_42 :: z_t_43 :: z_t_44 :: z_t_45 :: z_t_46 :: z_t_47 :: z_t_48 :: z_t_49 :: z_t_50 :: z_t_51 :: z_t_52 :: z_t_53 :: z_t_54 :: z_t_55 :: z_t_56 :: z_t_57 :: z_t_58 :: z_t_59 :: z_t_60 :: []))) :: (h_t_tape, .inl (k_t_tape, 200, .inl t_tape_c32_3)) :: R) H := hP
    have hD : va_D A ((h_t, .inr (12, (.int 0 :: .ref h_t_tape :: .int t_length_c32_3 :: z_t_3 :: z_t_4 :: z_t_5 :: z_t_6 :: z_t_7 :: z_t_8 :: z_t_9 :: z_t_10 :: z_t_11 :: z_t_12 :: z_t_13 :: z_t_14 :: z_t_15 :: z_t_16 :: z_t_17 :: z_t_18 :: z_t_19 :: z_t_20 :: z_t_21 :: z_t_22 :: z_t_23 :: z_t_24 :: z_t_25 :: z_t_26 :: z_t_27 :: z_t_28 :: z_t_29 :: z_t_30 :: z_t_31 :: z_t_32 :: z_t_33 :: z_t_34 :: z_t_35 :: z_t_36 :: z_t_37 :: z_t_38 :: z_t_39 :: z_t_40 :: z_t_41 :: z_t_42 :: z_t_43 :: z_t_44 :: z_t_45 :: z_t_46 :: z_t_47 :: z_t_48 :: z_t_49 :: z_t_50 :: z_t_51 :: z_t_52 :: z_t_53 :: z_t_54 :: z_t_55 :: z_t_56 :: z_t_57 :: z_t_58 :: z_t_59 :: z_t_60 :: []))) :: (h_t_tape, .inl (k_t_tape, 200, .inl t_tape_c32_3)) :: R) := hD
    refine lv_aload_n hx hb dX12_feed_35 rfl (lv_at hl 0 rfl) ?_
    refine lv_iload hx hb dX12_feed_36 (lv_at hl 4 rfl) ?_
    obtain ⟨t_length_c38_4, t_tape_c38_4, e_c38_4, h⟩ := bnd2_ok h
    refine cl_v (rn_v (ci := 12) (As := [.int l4]) (rest := []) S (c_X12_four l D (R) h_t (.int 0) t_length_c32_3 (z_t_3) (z_t_4) (z_t_5) (z_t_6) (z_t_7) (z_t_8) (z_t_9) (z_t_10) (z_t_11) (z_t_12) (z_t_13) (z_t_14) (z_t_15) (z_t_16) (z_t_17) (z_t_18) (z_t_19) (z_t_20) (z_t_21) (z_t_22) (z_t_23) (z_t_24) (z_t_25) (z_t_26) (z_t_27) (z_t_28) (z_t_29) (z_t_30) (z_t_31) (z_t_32) (z_t_33) (z_t_34) (z_t_35) (z_t_36) (z_t_37) (z_t_38) (z_t_39) (z_t_40) (z_t_41) (z_t_42) (z_t_43) (z_t_44) (z_t_45) (z_t_46) (z_t_47) (z_t_48) (z_t_49) (z_t_50) (z_t_51) (z_t_52) (z_t_53) (z_t_54) (z_t_55) (z_t_56) (z_t_57) (z_t_58) (z_t_59) (z_t_60) h_t_tape k_t_tape t_tape_c32_3 l4 t_length_c38_4 t_tape_c38_4 e_c38_4 _) q1153 q1155 q26 q61 q1156 nd_X12_four ⟨Nat.le_of_ble_eq_true rfl, Nat.le_of_ble_eq_true rfl⟩ rfl rfl hP hD (hK.sub (tys' := [(k_t_tape, .byte)]) [0] rfl) hN rfl ⟨0, _, rfl⟩ rfl hl.1 rfl (Nat.le_of_ble_eq_true rfl) dX12_feed_38 ⟨Nat.le_of_ble_eq_true rfl, Nat.le_of_ble_eq_true rfl⟩) hS hA hD (fun H locs hP hD hS => ?_)
    have hP : va_P D vwCl ((h_t, .inr (12, (.int 0 :: .ref h_t_tape :: .int t_length_c38_4 :: z_t_3 :: z_t_4 :: z_t_5 :: z_t_6 :: z_t_7 :: z_t_8 :: z_t_9 :: z_t_10 :: z_t_11 :: z_t_12 :: z_t_13 :: z_t_14 :: z_t_15 :: z_t_16 :: z_t_17 :: z_t_18 :: z_t_19 :: z_t_20 :: z_t_21 :: z_t_22 :: z_t_23 :: z_t_24 :: z_t_25 :: z_t_26 :: z_t_27 :: z_t_28 :: z_t_29 :: z_t_30 :: z_t_31 :: z_t_32 :: z_t_33 :: z_t_34 :: z_t_35 :: z_t_36 :: z_t_37 :: z_t_38 :: z_t_39 :: z_t_40 :: z_t_41 :: z_t_42 :: z_t_43 :: z_t_44 :: z_t_45 :: z_t_46 :: z_t_47 :: z_t_48 :: z_t_49 :: z_t_50 :: z_t_51 :: z_t_52 :: z_t_53 :: z_t_54 :: z_t_55 :: z_t_56 :: z_t_57 :: z_t_58 :: z_t_59 :: z_t_60 :: []))) :: (h_t_tape, .inl (k_t_tape, 200, .inl t_tape_c38_4)) :: R) H := hP
    have hD : va_D A ((h_t, .inr (12, (.int 0 :: .ref h_t_tape :: .int t_length_c38_4 :: z_t_3 :: z_t_4 :: z_t_5 :: z_t_6 :: z_t_7 :: z_t_8 :: z_t_9 :: z_t_10 :: z_t_11 :: z_t_12 :: z_t_13 :: z_t_14 :: z_t_15 :: z_t_16 :: z_t_17 :: z_t_18 :: z_t_19 :: z_t_20 :: z_t_21 :: z_t_22 :: z_t_23 :: z_t_24 :: z_t_25 :: z_t_26 :: z_t_27 :: z_t_28 :: z_t_29 :: z_t_30 :: z_t_31 :: z_t_32 :: z_t_33 :: z_t_34 :: z_t_35 :: z_t_36 :: z_t_37 :: z_t_38 :: z_t_39 :: z_t_40 :: z_t_41 :: z_t_42 :: z_t_43 :: z_t_44 :: z_t_45 :: z_t_46 :: z_t_47 :: z_t_48 :: z_t_49 :: z_t_50 :: z_t_51 :: z_t_52 :: z_t_53 :: z_t_54 :: z_t_55 :: z_t_56 :: z_t_57 :: z_t_58 :: z_t_59 :: z_t_60 :: []))) :: (h_t_tape, .inl (k_t_tape, 200, .inl t_tape_c38_4)) :: R) := hD
    refine lv_aload_n hx hb dX12_feed_41 rfl (lv_at hl 0 rfl) ?_
    refine lv_iload hx hb dX12_feed_42 (lv_at hl 5 rfl) ?_
    obtain ⟨t_length_c44_5, t_tape_c44_5, e_c44_5, h⟩ := bnd2_ok h
    refine cl_v (rn_v (ci := 12) (As := [.int l5]) (rest := []) S (c_X12_four l D (R) h_t (.int 0) t_length_c38_4 (z_t_3) (z_t_4) (z_t_5) (z_t_6) (z_t_7) (z_t_8) (z_t_9) (z_t_10) (z_t_11) (z_t_12) (z_t_13) (z_t_14) (z_t_15) (z_t_16) (z_t_17) (z_t_18) (z_t_19) (z_t_20) (z_t_21) (z_t_22) (z_t_23) (z_t_24) (z_t_25) (z_t_26) (z_t_27) (z_t_28) (z_t_29) (z_t_30) (z_t_31) (z_t_32) (z_t_33) (z_t_34) (z_t_35) (z_t_36) (z_t_37) (z_t_38) (z_t_39) (z_t_40) (z_t_41) (z_t_42) (z_t_43) (z_t_44) (z_t_45) (z_t_46) (z_t_47) (z_t_48) (z_t_49) (z_t_50) (z_t_51) (z_t_52) (z_t_53) (z_t_54) (z_t_55) (z_t_56) (z_t_57) (z_t_58) (z_t_59) (z_t_60) h_t_tape k_t_tape t_tape_c38_4 l5 t_length_c44_5 t_tape_c44_5 e_c44_5 _) q1153 q1155 q26 q61 q1156 nd_X12_four ⟨Nat.le_of_ble_eq_true rfl, Nat.le_of_ble_eq_true rfl⟩ rfl rfl hP hD (hK.sub (tys' := [(k_t_tape, .byte)]) [0] rfl) hN rfl ⟨0, _, rfl⟩ rfl hl.1 rfl (Nat.le_of_ble_eq_true rfl) dX12_feed_44 ⟨Nat.le_of_ble_eq_true rfl, Nat.le_of_ble_eq_true rfl⟩) hS hA hD (fun H locs hP hD hS => ?_)
    have hP : va_P D vwCl ((h_t, .inr (12, (.int 0 :: .ref h_t_tape :: .int t_length_c44_5 :: z_t_3 :: z_t_4 :: z_t_5 :: z_t_6 :: z_t_7 :: z_t_8 :: z_t_9 :: z_t_10 :: z_t_11 :: z_t_12 :: z_t_13 :: z_t_14 :: z_t_15 :: z_t_16 :: z_t_17 :: z_t_18 :: z_t_19 :: z_t_20 :: z_t_21 :: z_t_22 :: z_t_23 :: z_t_24 :: z_t_25 :: z_t_26 :: z_t_27 :: z_t_28 :: z_t_29 :: z_t_30 :: z_t_31 :: z_t_32 :: z_t_33 :: z_t_34 :: z_t_35 :: z_t_36 :: z_t_37 :: z_t_38 :: z_t_39 :: z_t_40 :: z_t_41 :: z_t_42 :: z_t_43 :: z_t_44 :: z_t_45 :: z_t_46 :: z_t_47 :: z_t_48 :: z_t_49 :: z_t_50 :: z_t_51 :: z_t_52 :: z_t_53 :: z_t_54 :: z_t_55 :: z_t_56 :: z_t_57 :: z_t_58 :: z_t_59 :: z_t_60 :: []))) :: (h_t_tape, .inl (k_t_tape, 200, .inl t_tape_c44_5)) :: R) H := hP
    have hD : va_D A ((h_t, .inr (12, (.int 0 :: .ref h_t_tape :: .int t_length_c44_5 :: z_t_3 :: z_t_4 :: z_t_5 :: z_t_6 :: z_t_7 :: z_t_8 :: z_t_9 :: z_t_10 :: z_t_11 :: z_t_12 :: z_t_13 :: z_t_14 :: z_t_15 :: z_t_16 :: z_t_17 :: z_t_18 :: z_t_19 :: z_t_20 :: z_t_21 :: z_t_22 :: z_t_23 :: z_t_24 :: z_t_25 :: z_t_26 :: z_t_27 :: z_t_28 :: z_t_29 :: z_t_30 :: z_t_31 :: z_t_32 :: z_t_33 :: z_t_34 :: z_t_35 :: z_t_36 :: z_t_37 :: z_t_38 :: z_t_39 :: z_t_40 :: z_t_41 :: z_t_42 :: z_t_43 :: z_t_44 :: z_t_45 :: z_t_46 :: z_t_47 :: z_t_48 :: z_t_49 :: z_t_50 :: z_t_51 :: z_t_52 :: z_t_53 :: z_t_54 :: z_t_55 :: z_t_56 :: z_t_57 :: z_t_58 :: z_t_59 :: z_t_60 :: []))) :: (h_t_tape, .inl (k_t_tape, 200, .inl t_tape_c44_5)) :: R) := hD
    refine lv_aload_n hx hb dX12_feed_47 rfl (lv_at hl 0 rfl) ?_
    refine va_get (D := D) (ci := 12) (v := .int t_length_c44_5) (C := RX12) (T := TX12) (N := 61) hx hb ha ix12 hown hK hP 0 rfl rfl 2 (by decide) (ha _ q962) (fun _ h9 => h9) rfl dX12_feed_48 ?_
    cases h
    exact rt_i S hr hlk hP hD hS dX12_feed_51
  · have h := br_neg c1 h
    refine lv_iconst (v := (-1)) hx hb dX12_feed_18 (by decide) ?_
    cases h
    exact rt_i S hr hlk hP hD hS dX12_feed_19
noncomputable def f_X12_end (t_thrown : Int32) (t_length : Int32) (l1 : Int32) : Option (Int32 × Int32 × Int32) :=
  if l1 < 0 then (
   some (0, 0, t_length)
  ) else (
   if l1 ≤ t_length then (
    some (1, 0, l1)
   ) else (
    some (0, 0, t_length)
   )
  )
set_option maxHeartbeats 4000000 in
set_option maxRecDepth 100000 in
theorem c_X12_end (l : Launch) (D : va_G) (R : va_W) (h_t : Nat) (t_thrown : Int32) (z_t_1 : Value) (t_length : Int32) (z_t_3 : Value) (z_t_4 : Value) (z_t_5 : Value) (z_t_6 : Value) (z_t_7 : Value) (z_t_8 : Value) (z_t_9 : Value) (z_t_10 : Value) (z_t_11 : Value) (z_t_12 : Value) (z_t_13 : Value) (z_t_14 : Value) (z_t_15 : Value) (z_t_16 : Value) (z_t_17 : Value) (z_t_18 : Value) (z_t_19 : Value) (z_t_20 : Value) (z_t_21 : Value) (z_t_22 : Value) (z_t_23 : Value) (z_t_24 : Value) (z_t_25 : Value) (z_t_26 : Value) (z_t_27 : Value) (z_t_28 : Value) (z_t_29 : Value) (z_t_30 : Value) (z_t_31 : Value) (z_t_32 : Value) (z_t_33 : Value) (z_t_34 : Value) (z_t_35 : Value) (z_t_36 : Value) (z_t_37 : Value) (z_t_38 : Value) (z_t_39 : Value) (z_t_40 : Value) (z_t_41 : Value) (z_t_42 : Value) (z_t_43 : Value) (z_t_44 : Value) (z_t_45 : Value) (z_t_46 : Value) (z_t_47 : Value) (z_t_48 : Value) (z_t_49 : Value) (z_t_50 : Value) (z_t_51 : Value) (z_t_52 : Value) (z_t_53 : Value) (z_t_54 : Value) (z_t_55 : Value) (z_t_56 : Value) (z_t_57 : Value) (z_t_58 : Value) (z_t_59 : Value) (z_t_60 : Value) (l1 : Int32) (r : Int32) (o_t_thrown : Int32) (o_t_length : Int32)  (h : f_X12_end t_thrown t_length l1 = some (r, o_t_thrown, o_t_length)) (sz : Nat) : Met l yX12_end (WD yX12_end cX12_end 2 (some .boolean)) ({ frames := 0, cells := 0, slots := 0, locals := 0 }) (va_Pc [.ref h_t, .int l1] (PcW D [] ((h_t, .inr (12, (.int t_thrown :: z_t_1 :: .int t_length :: z_t_3 :: z_t_4 :: z_t_5 :: z_t_6 :: z_t_7 :: z_t_8 :: z_t_9 :: z_t_10 :: z_t_11 :: z_t_12 :: z_t_13 :: z_t_14 :: z_t_15 :: z_t_16 :: z_t_17 :: z_t_18 :: z_t_19 :: z_t_20 :: z_t_21 :: z_t_22 :: z_t_23 :: z_t_24 :: z_t_25 :: z_t_26 :: z_t_27 :: z_t_28 :: z_t_29 :: z_t_30 :: z_t_31 :: z_t_32 :: z_t_33 :: z_t_34 :: z_t_35 :: z_t_36 :: z_t_37 :: z_t_38 :: z_t_39 :: z_t_40 :: z_t_41 :: z_t_42 :: z_t_43 :: z_t_44 :: z_t_45 :: z_t_46 :: z_t_47 :: z_t_48 :: z_t_49 :: z_t_50 :: z_t_51 :: z_t_52 :: z_t_53 :: z_t_54 :: z_t_55 :: z_t_56 :: z_t_57 :: z_t_58 :: z_t_59 :: z_t_60 :: []))) :: R) sz)) (QZ D r ((h_t, .inr (12, (.int o_t_thrown :: z_t_1 :: .int o_t_length :: z_t_3 :: z_t_4 :: z_t_5 :: z_t_6 :: z_t_7 :: z_t_8 :: z_t_9 :: z_t_10 :: z_t_11 :: z_t_12 :: z_t_13 :: z_t_14 :: z_t_15 :: z_t_16 :: z_t_17 :: z_t_18 :: z_t_19 :: z_t_20 :: z_t_21 :: z_t_22 :: z_t_23 :: z_t_24 :: z_t_25 :: z_t_26 :: z_t_27 :: z_t_28 :: z_t_29 :: z_t_30 :: z_t_31 :: z_t_32 :: z_t_33 :: z_t_34 :: z_t_35 :: z_t_36 :: z_t_37 :: z_t_38 :: z_t_39 :: z_t_40 :: z_t_41 :: z_t_42 :: z_t_43 :: z_t_44 :: z_t_45 :: z_t_46 :: z_t_47 :: z_t_48 :: z_t_49 :: z_t_50 :: z_t_51 :: z_t_52 :: z_t_53 :: z_t_54 :: z_t_55 :: z_t_56 :: z_t_57 :: z_t_58 :: z_t_59 :: z_t_60 :: []))) :: R) (va_A ((h_t, .inr (12, (.int t_thrown :: z_t_1 :: .int t_length :: z_t_3 :: z_t_4 :: z_t_5 :: z_t_6 :: z_t_7 :: z_t_8 :: z_t_9 :: z_t_10 :: z_t_11 :: z_t_12 :: z_t_13 :: z_t_14 :: z_t_15 :: z_t_16 :: z_t_17 :: z_t_18 :: z_t_19 :: z_t_20 :: z_t_21 :: z_t_22 :: z_t_23 :: z_t_24 :: z_t_25 :: z_t_26 :: z_t_27 :: z_t_28 :: z_t_29 :: z_t_30 :: z_t_31 :: z_t_32 :: z_t_33 :: z_t_34 :: z_t_35 :: z_t_36 :: z_t_37 :: z_t_38 :: z_t_39 :: z_t_40 :: z_t_41 :: z_t_42 :: z_t_43 :: z_t_44 :: z_t_45 :: z_t_46 :: z_t_47 :: z_t_48 :: z_t_49 :: z_t_50 :: z_t_51 :: z_t_52 :: z_t_53 :: z_t_54 :: z_t_55 :: z_t_56 :: z_t_57 :: z_t_58 :: z_t_59 :: z_t_60 :: []))) :: R) sz)) 0 0 (va_A ((h_t, .inr (12, (.int t_thrown :: z_t_1 :: .int t_length :: z_t_3 :: z_t_4 :: z_t_5 :: z_t_6 :: z_t_7 :: z_t_8 :: z_t_9 :: z_t_10 :: z_t_11 :: z_t_12 :: z_t_13 :: z_t_14 :: z_t_15 :: z_t_16 :: z_t_17 :: z_t_18 :: z_t_19 :: z_t_20 :: z_t_21 :: z_t_22 :: z_t_23 :: z_t_24 :: z_t_25 :: z_t_26 :: z_t_27 :: z_t_28 :: z_t_29 :: z_t_30 :: z_t_31 :: z_t_32 :: z_t_33 :: z_t_34 :: z_t_35 :: z_t_36 :: z_t_37 :: z_t_38 :: z_t_39 :: z_t_40 :: z_t_41 :: z_t_42 :: z_t_43 :: z_t_44 :: z_t_45 :: z_t_46 :: z_t_47 :: z_t_48 :: z_t_49 :: z_t_50 :: z_t_51 :: z_t_52 :: z_t_53 :: z_t_54 :: z_t_55 :: z_t_56 :: z_t_57 :: z_t_58 :: z_t_59 :: z_t_60 :: []))) :: R) sz) := by
  refine ct_start (QF := fun A => QZ D r ((h_t, .inr (12, (.int o_t_thrown :: z_t_1 :: .int o_t_length :: z_t_3 :: z_t_4 :: z_t_5 :: z_t_6 :: z_t_7 :: z_t_8 :: z_t_9 :: z_t_10 :: z_t_11 :: z_t_12 :: z_t_13 :: z_t_14 :: z_t_15 :: z_t_16 :: z_t_17 :: z_t_18 :: z_t_19 :: z_t_20 :: z_t_21 :: z_t_22 :: z_t_23 :: z_t_24 :: z_t_25 :: z_t_26 :: z_t_27 :: z_t_28 :: z_t_29 :: z_t_30 :: z_t_31 :: z_t_32 :: z_t_33 :: z_t_34 :: z_t_35 :: z_t_36 :: z_t_37 :: z_t_38 :: z_t_39 :: z_t_40 :: z_t_41 :: z_t_42 :: z_t_43 :: z_t_44 :: z_t_45 :: z_t_46 :: z_t_47 :: z_t_48 :: z_t_49 :: z_t_50 :: z_t_51 :: z_t_52 :: z_t_53 :: z_t_54 :: z_t_55 :: z_t_56 :: z_t_57 :: z_t_58 :: z_t_59 :: z_t_60 :: []))) :: R) A) ?_ ?_ ?_
  · decide +kernel
  · exact Nat.le_of_ble_eq_true rfl
  intro p e s m args below meth c A ls S hr hlk hnm hS hA hP hD hK hN hl
  have S : CallFix p m c cX12_end 2 s args AL "DigitBenchModel" := S
  have hx := S.1
  have hb := S.2.1
  have hown := S.2.2.2.1
  have ha := S.2.2.2.2
  have hl : lv_has ls 2 [(0, .ref h_t), (1, .int l1)] := hl
  unfold f_X12_end at h
  refine lv_aload_n hx hb dX12_end_0 rfl (lv_at hl 0 rfl) ?_
  refine lv_iconst (v := 0) hx hb dX12_end_1 (by decide) ?_
  refine va_put (D := D) (ci := 12) (v := .int 0) (ty := .int) (C := RX12) (T := TX12) (N := 61) hx hb ha ix12 tyX12 tyX12_ok nmX12 hown hK hP hD hS 0 rfl rfl 0 (by decide) (ha _ q960) (fun _ h9 => h9) rfl (by decide +kernel) rfl rfl (Nat.le_of_ble_eq_true rfl) dX12_end_2 (fun H locs hP hD hS => ?_)
  have hP : va_P D vwCl ((h_t, .inr (12, (.int 0 :: z_t_1 :: .int t_length :: z_t_3 :: z_t_4 :: z_t_5 :: z_t_6 :: z_t_7 :: z_t_8 :: z_t_9 :: z_t_10 :: z_t_11 :: z_t_12 :: z_t_13 :: z_t_14 :: z_t_15 :: z_t_16 :: z_t_17 :: z_t_18 :: z_t_19 :: z_t_20 :: z_t_21 :: z_t_22 :: z_t_23 :: z_t_24 :: z_t_25 :: z_t_26 :: z_t_27 :: z_t_28 :: z_t_29 :: z_t_30 :: z_t_31 :: z_t_32 :: z_t_33 :: z_t_34 :: z_t_35 :: z_t_36 :: z_t_37 :: z_t_38 :: z_t_39 :: z_t_40 :: z_t_41 :: z_t_42 :: z_t_43 :: z_t_44 :: z_t_45 :: z_t_46 :: z_t_47 :: z_t_48 :: z_t_49 :: z_t_50 :: z_t_51 :: z_t_52 :: z_t_53 :: z_t_54 :: z_t_55 :: z_t_56 :: z_t_57 :: z_t_58 :: z_t_59 :: z_t_60 :: []))) :: R) H := hP
  have hD : va_D A ((h_t, .inr (12, (.int 0 :: z_t_1 :: .int t_length :: z_t_3 :: z_t_4 :: z_t_5 :: z_t_6 :: z_t_7 :: z_t_8 :: z_t_9 :: z_t_10 :: z_t_11 :: z_t_12 :: z_t_13 :: z_t_14 :: z_t_15 :: z_t_16 :: z_t_17 :: z_t_18 :: z_t_19 :: z_t_20 :: z_t_21 :: z_t_22 :: z_t_23 :: z_t_24 :: z_t_25 :: z_t_26 :: z_t_27 :: z_t_28 :: z_t_29 :: z_t_30 :: z_t_31 :: z_t_32 :: z_t_33 :: z_t_34 :: z_t_35 :: z_t_36 :: z_t_37 :: z_t_38 :: z_t_39 :: z_t_40 :: z_t_41 :: z_t_42 :: z_t_43 :: z_t_44 :: z_t_45 :: z_t_46 :: z_t_47 :: z_t_48 :: z_t_49 :: z_t_50 :: z_t_51 :: z_t_52 :: z_t_53 :: z_t_54 :: z_t_55 :: z_t_56 :: z_t_57 :: z_t_58 :: z_t_59 :: z_t_60 :: []))) :: R) := hD
  refine lv_iload_n hx hb dX12_end_5 rfl (lv_at hl 1 rfl) ?_
  refine lv_if_lt (tgt := 17) hx hb dX12_end_6 (by decide) (fun c1 => ?_) (fun c1 => ?_)
  · have h := br_pos c1 h
    refine lv_iconst (v := 0) hx hb dX12_end_17 (by decide) ?_
    cases h
    exact rt_z S hr hlk hP hD hS (by decide) dX12_end_18
  · have h := br_neg c1 h
    refine lv_iload_n hx hb dX12_end_9 rfl (lv_at hl 1 rfl) ?_
    refine lv_aload_n hx hb dX12_end_10 rfl (lv_at hl 0 rfl) ?_
    refine va_get (D := D) (ci := 12) (v := .int t_length) (C := RX12) (T := TX12) (N := 61) hx hb ha ix12 hown hK hP 0 rfl rfl 2 (by decide) (ha _ q962) (fun _ h9 => h9) rfl dX12_end_11 ?_
    refine lv_icmp_le (tgt := 19) hx hb dX12_end_14 (by decide) (fun c2 => ?_) (fun c2 => ?_)
    · have h := br_pos c2 h
      refine lv_aload_n hx hb dX12_end_19 rfl (lv_at hl 0 rfl) ?_
      refine lv_iload_n hx hb dX12_end_20 rfl (lv_at hl 1 rfl) ?_
      refine va_put (D := D) (ci := 12) (v := .int l1) (ty := .int) (C := RX12) (T := TX12) (N := 61) hx hb ha ix12 tyX12 tyX12_ok nmX12 hown hK hP hD hS 0 rfl rfl 2 (by decide) (ha _ q962) (fun _ h9 => h9) rfl (by decide +kernel) rfl rfl (Nat.le_of_ble_eq_true rfl) dX12_end_21 (fun H locs hP hD hS => ?_)
      have hP : va_P D vwCl ((h_t, .inr (12, (.int 0 :: z_t_1 :: .int l1 :: z_t_3 :: z_t_4 :: z_t_5 :: z_t_6 :: z_t_7 :: z_t_8 :: z_t_9 :: z_t_10 :: z_t_11 :: z_t_12 :: z_t_13 :: z_t_14 :: z_t_15 :: z_t_16 :: z_t_17 :: z_t_18 :: z_t_19 :: z_t_20 :: z_t_21 :: z_t_22 :: z_t_23 :: z_t_24 :: z_t_25 :: z_t_26 :: z_t_27 :: z_t_28 :: z_t_29 :: z_t_30 :: z_t_31 :: z_t_32 :: z_t_33 :: z_t_34 :: z_t_35 :: z_t_36 :: z_t_37 :: z_t_38 :: z_t_39 :: z_t_40 :: z_t_41 :: z_t_42 :: z_t_43 :: z_t_44 :: z_t_45 :: z_t_46 :: z_t_47 :: z_t_48 :: z_t_49 :: z_t_50 :: z_t_51 :: z_t_52 :: z_t_53 :: z_t_54 :: z_t_55 :: z_t_56 :: z_t_57 :: z_t_58 :: z_t_59 :: z_t_60 :: []))) :: R) H := hP
      have hD : va_D A ((h_t, .inr (12, (.int 0 :: z_t_1 :: .int l1 :: z_t_3 :: z_t_4 :: z_t_5 :: z_t_6 :: z_t_7 :: z_t_8 :: z_t_9 :: z_t_10 :: z_t_11 :: z_t_12 :: z_t_13 :: z_t_14 :: z_t_15 :: z_t_16 :: z_t_17 :: z_t_18 :: z_t_19 :: z_t_20 :: z_t_21 :: z_t_22 :: z_t_23 :: z_t_24 :: z_t_25 :: z_t_26 :: z_t_27 :: z_t_28 :: z_t_29 :: z_t_30 :: z_t_31 :: z_t_32 :: z_t_33 :: z_t_34 :: z_t_35 :: z_t_36 :: z_t_37 :: z_t_38 :: z_t_39 :: z_t_40 :: z_t_41 :: z_t_42 :: z_t_43 :: z_t_44 :: z_t_45 :: z_t_46 :: z_t_47 :: z_t_48 :: z_t_49 :: z_t_50 :: z_t_51 :: z_t_52 :: z_t_53 :: z_t_54 :: z_t_55 :: z_t_56 :: z_t_57 :: z_t_58 :: z_t_59 :: z_t_60 :: []))) :: R) := hD
      refine lv_iconst (v := 1) hx hb dX12_end_24 (by decide) ?_
      cases h
      exact rt_z S hr hlk hP hD hS (by decide) dX12_end_25
    · have h := br_neg c2 h
      refine lv_iconst (v := 0) hx hb dX12_end_17 (by decide) ?_
      cases h
      exact rt_z S hr hlk hP hD hS (by decide) dX12_end_18
noncomputable def f_X12_taken (t_length : Int32) : Option (Int32 × Int32) :=
  some (t_length, 0)
set_option maxHeartbeats 4000000 in
set_option maxRecDepth 100000 in
theorem c_X12_taken (l : Launch) (D : va_G) (R : va_W) (h_t : Nat) (z_t_0 : Value) (z_t_1 : Value) (t_length : Int32) (z_t_3 : Value) (z_t_4 : Value) (z_t_5 : Value) (z_t_6 : Value) (z_t_7 : Value) (z_t_8 : Value) (z_t_9 : Value) (z_t_10 : Value) (z_t_11 : Value) (z_t_12 : Value) (z_t_13 : Value) (z_t_14 : Value) (z_t_15 : Value) (z_t_16 : Value) (z_t_17 : Value) (z_t_18 : Value) (z_t_19 : Value) (z_t_20 : Value) (z_t_21 : Value) (z_t_22 : Value) (z_t_23 : Value) (z_t_24 : Value) (z_t_25 : Value) (z_t_26 : Value) (z_t_27 : Value) (z_t_28 : Value) (z_t_29 : Value) (z_t_30 : Value) (z_t_31 : Value) (z_t_32 : Value) (z_t_33 : Value) (z_t_34 : Value) (z_t_35 : Value) (z_t_36 : Value) (z_t_37 : Value) (z_t_38 : Value) (z_t_39 : Value) (z_t_40 : Value) (z_t_41 : Value) (z_t_42 : Value) (z_t_43 : Value) (z_t_44 : Value) (z_t_45 : Value) (z_t_46 : Value) (z_t_47 : Value) (z_t_48 : Value) (z_t_49 : Value) (z_t_50 : Value) (z_t_51 : Value) (z_t_52 : Value) (z_t_53 : Value) (z_t_54 : Value) (z_t_55 : Value) (z_t_56 : Value) (z_t_57 : Value) (z_t_58 : Value) (z_t_59 : Value) (z_t_60 : Value) (r : Int32) (o_t_length : Int32)  (h : f_X12_taken t_length = some (r, o_t_length)) (sz : Nat) : Met l yX12_taken (WD yX12_taken cX12_taken 2 (some .int)) ({ frames := 0, cells := 0, slots := 0, locals := 0 }) (va_Pc [.ref h_t] (PcW D [] ((h_t, .inr (12, (z_t_0 :: z_t_1 :: .int t_length :: z_t_3 :: z_t_4 :: z_t_5 :: z_t_6 :: z_t_7 :: z_t_8 :: z_t_9 :: z_t_10 :: z_t_11 :: z_t_12 :: z_t_13 :: z_t_14 :: z_t_15 :: z_t_16 :: z_t_17 :: z_t_18 :: z_t_19 :: z_t_20 :: z_t_21 :: z_t_22 :: z_t_23 :: z_t_24 :: z_t_25 :: z_t_26 :: z_t_27 :: z_t_28 :: z_t_29 :: z_t_30 :: z_t_31 :: z_t_32 :: z_t_33 :: z_t_34 :: z_t_35 :: z_t_36 :: z_t_37 :: z_t_38 :: z_t_39 :: z_t_40 :: z_t_41 :: z_t_42 :: z_t_43 :: z_t_44 :: z_t_45 :: z_t_46 :: z_t_47 :: z_t_48 :: z_t_49 :: z_t_50 :: z_t_51 :: z_t_52 :: z_t_53 :: z_t_54 :: z_t_55 :: z_t_56 :: z_t_57 :: z_t_58 :: z_t_59 :: z_t_60 :: []))) :: R) sz)) (QI D r ((h_t, .inr (12, (z_t_0 :: z_t_1 :: .int o_t_length :: z_t_3 :: z_t_4 :: z_t_5 :: z_t_6 :: z_t_7 :: z_t_8 :: z_t_9 :: z_t_10 :: z_t_11 :: z_t_12 :: z_t_13 :: z_t_14 :: z_t_15 :: z_t_16 :: z_t_17 :: z_t_18 :: z_t_19 :: z_t_20 :: z_t_21 :: z_t_22 :: z_t_23 :: z_t_24 :: z_t_25 :: z_t_26 :: z_t_27 :: z_t_28 :: z_t_29 :: z_t_30 :: z_t_31 :: z_t_32 :: z_t_33 :: z_t_34 :: z_t_35 :: z_t_36 :: z_t_37 :: z_t_38 :: z_t_39 :: z_t_40 :: z_t_41 :: z_t_42 :: z_t_43 :: z_t_44 :: z_t_45 :: z_t_46 :: z_t_47 :: z_t_48 :: z_t_49 :: z_t_50 :: z_t_51 :: z_t_52 :: z_t_53 :: z_t_54 :: z_t_55 :: z_t_56 :: z_t_57 :: z_t_58 :: z_t_59 :: z_t_60 :: []))) :: R) (va_A ((h_t, .inr (12, (z_t_0 :: z_t_1 :: .int t_length :: z_t_3 :: z_t_4 :: z_t_5 :: z_t_6 :: z_t_7 :: z_t_8 :: z_t_9 :: z_t_10 :: z_t_11 :: z_t_12 :: z_t_13 :: z_t_14 :: z_t_15 :: z_t_16 :: z_t_17 :: z_t_18 :: z_t_19 :: z_t_20 :: z_t_21 :: z_t_22 :: z_t_23 :: z_t_24 :: z_t_25 :: z_t_26 :: z_t_27 :: z_t_28 :: z_t_29 :: z_t_30 :: z_t_31 :: z_t_32 :: z_t_33 :: z_t_34 :: z_t_35 :: z_t_36 :: z_t_37 :: z_t_38 :: z_t_39 :: z_t_40 :: z_t_41 :: z_t_42 :: z_t_43 :: z_t_44 :: z_t_45 :: z_t_46 :: z_t_47 :: z_t_48 :: z_t_49 :: z_t_50 :: z_t_51 :: z_t_52 :: z_t_53 :: z_t_54 :: z_t_55 :: z_t_56 :: z_t_57 :: z_t_58 :: z_t_59 :: z_t_60 :: []))) :: R) sz)) 0 0 (va_A ((h_t, .inr (12, (z_t_0 :: z_t_1 :: .int t_length :: z_t_3 :: z_t_4 :: z_t_5 :: z_t_6 :: z_t_7 :: z_t_8 :: z_t_9 :: z_t_10 :: z_t_11 :: z_t_12 :: z_t_13 :: z_t_14 :: z_t_15 :: z_t_16 :: z_t_17 :: z_t_18 :: z_t_19 :: z_t_20 :: z_t_21 :: z_t_22 :: z_t_23 :: z_t_24 :: z_t_25 :: z_t_26 :: z_t_27 :: z_t_28 :: z_t_29 :: z_t_30 :: z_t_31 :: z_t_32 :: z_t_33 :: z_t_34 :: z_t_35 :: z_t_36 :: z_t_37 :: z_t_38 :: z_t_39 :: z_t_40 :: z_t_41 :: z_t_42 :: z_t_43 :: z_t_44 :: z_t_45 :: z_t_46 :: z_t_47 :: z_t_48 :: z_t_49 :: z_t_50 :: z_t_51 :: z_t_52 :: z_t_53 :: z_t_54 :: z_t_55 :: z_t_56 :: z_t_57 :: z_t_58 :: z_t_59 :: z_t_60 :: []))) :: R) sz) := by
  refine ct_start (QF := fun A => QI D r ((h_t, .inr (12, (z_t_0 :: z_t_1 :: .int o_t_length :: z_t_3 :: z_t_4 :: z_t_5 :: z_t_6 :: z_t_7 :: z_t_8 :: z_t_9 :: z_t_10 :: z_t_11 :: z_t_12 :: z_t_13 :: z_t_14 :: z_t_15 :: z_t_16 :: z_t_17 :: z_t_18 :: z_t_19 :: z_t_20 :: z_t_21 :: z_t_22 :: z_t_23 :: z_t_24 :: z_t_25 :: z_t_26 :: z_t_27 :: z_t_28 :: z_t_29 :: z_t_30 :: z_t_31 :: z_t_32 :: z_t_33 :: z_t_34 :: z_t_35 :: z_t_36 :: z_t_37 :: z_t_38 :: z_t_39 :: z_t_40 :: z_t_41 :: z_t_42 :: z_t_43 :: z_t_44 :: z_t_45 :: z_t_46 :: z_t_47 :: z_t_48 :: z_t_49 :: z_t_50 :: z_t_51 :: z_t_52 :: z_t_53 :: z_t_54 :: z_t_55 :: z_t_56 :: z_t_57 :: z_t_58 :: z_t_59 :: z_t_60 :: []))) :: R) A) ?_ ?_ ?_
  · decide +kernel
  · exact Nat.le_of_ble_eq_true rfl
  intro p e s m args below meth c A ls S hr hlk hnm hS hA hP hD hK hN hl
  have S : CallFix p m c cX12_taken 2 s args AL "DigitBenchModel" := S
  have hx := S.1
  have hb := S.2.1
  have hown := S.2.2.2.1
  have ha := S.2.2.2.2
  have hl : lv_has ls 2 [(0, .ref h_t)] := hl
  unfold f_X12_taken at h
  refine lv_aload_n hx hb dX12_taken_0 rfl (lv_at hl 0 rfl) ?_
  refine va_get (D := D) (ci := 12) (v := .int t_length) (C := RX12) (T := TX12) (N := 61) hx hb ha ix12 hown hK hP 0 rfl rfl 2 (by decide) (ha _ q962) (fun _ h9 => h9) rfl dX12_taken_1 ?_
  refine lv_istore_n (lv' := [(1, .int t_length), (0, .ref h_t)]) hx hb dX12_taken_4 rfl hl (by decide) rfl (fun ls hl => ?_)
  refine lv_aload_n hx hb dX12_taken_5 rfl (lv_at hl 1 rfl) ?_
  refine lv_iconst (v := 0) hx hb dX12_taken_6 (by decide) ?_
  refine va_put (D := D) (ci := 12) (v := .int 0) (ty := .int) (C := RX12) (T := TX12) (N := 61) hx hb ha ix12 tyX12 tyX12_ok nmX12 hown hK hP hD hS 0 rfl rfl 2 (by decide) (ha _ q962) (fun _ h9 => h9) rfl (by decide +kernel) rfl rfl (Nat.le_of_ble_eq_true rfl) dX12_taken_7 (fun H locs hP hD hS => ?_)
  have hP : va_P D vwCl ((h_t, .inr (12, (z_t_0 :: z_t_1 :: .int 0 :: z_t_3 :: z_t_4 :: z_t_5 :: z_t_6 :: z_t_7 :: z_t_8 :: z_t_9 :: z_t_10 :: z_t_11 :: z_t_12 :: z_t_13 :: z_t_14 :: z_t_15 :: z_t_16 :: z_t_17 :: z_t_18 :: z_t_19 :: z_t_20 :: z_t_21 :: z_t_22 :: z_t_23 :: z_t_24 :: z_t_25 :: z_t_26 :: z_t_27 :: z_t_28 :: z_t_29 :: z_t_30 :: z_t_31 :: z_t_32 :: z_t_33 :: z_t_34 :: z_t_35 :: z_t_36 :: z_t_37 :: z_t_38 :: z_t_39 :: z_t_40 :: z_t_41 :: z_t_42 :: z_t_43 :: z_t_44 :: z_t_45 :: z_t_46 :: z_t_47 :: z_t_48 :: z_t_49 :: z_t_50 :: z_t_51 :: z_t_52 :: z_t_53 :: z_t_54 :: z_t_55 :: z_t_56 :: z_t_57 :: z_t_58 :: z_t_59 :: z_t_60 :: []))) :: R) H := hP
  have hD : va_D A ((h_t, .inr (12, (z_t_0 :: z_t_1 :: .int 0 :: z_t_3 :: z_t_4 :: z_t_5 :: z_t_6 :: z_t_7 :: z_t_8 :: z_t_9 :: z_t_10 :: z_t_11 :: z_t_12 :: z_t_13 :: z_t_14 :: z_t_15 :: z_t_16 :: z_t_17 :: z_t_18 :: z_t_19 :: z_t_20 :: z_t_21 :: z_t_22 :: z_t_23 :: z_t_24 :: z_t_25 :: z_t_26 :: z_t_27 :: z_t_28 :: z_t_29 :: z_t_30 :: z_t_31 :: z_t_32 :: z_t_33 :: z_t_34 :: z_t_35 :: z_t_36 :: z_t_37 :: z_t_38 :: z_t_39 :: z_t_40 :: z_t_41 :: z_t_42 :: z_t_43 :: z_t_44 :: z_t_45 :: z_t_46 :: z_t_47 :: z_t_48 :: z_t_49 :: z_t_50 :: z_t_51 :: z_t_52 :: z_t_53 :: z_t_54 :: z_t_55 :: z_t_56 :: z_t_57 :: z_t_58 :: z_t_59 :: z_t_60 :: []))) :: R) := hD
  refine lv_iload_n hx hb dX12_taken_10 rfl (lv_at hl 0 rfl) ?_
  cases h
  exact rt_i S hr hlk hP hD hS dX12_taken_11
noncomputable def f_X12_isSquare_L2 (l0 : Int32) : Nat → Int32 →  Option (Nat)
  | 0, _ => none
  | n + 1, l1 => (
    if l0 < (l1 * l1) then (
     some 1
    ) else (
     if (l1 * l1) = l0 then (
      some 0
     ) else (
      f_X12_isSquare_L2 l0 n (l1 + 1)
     )
    ))
noncomputable def f_X12_isSquare (l0 : Int32) : Option (Int32) :=
  bnd1 (f_X12_isSquare_L2 l0 FU 0) fun tg_L2_2 => (
   if tg_L2_2 = 0 then (
    some 1
   ) else (
    some 0
   )
  )
set_option maxHeartbeats 4000000 in
set_option maxRecDepth 100000 in
theorem c_X12_isSquare (l : Launch) (D : va_G) (R : va_W) (l0 : Int32) (r : Int32)  (h : f_X12_isSquare l0 = some r) (sz : Nat) : Met l yX12_isSquare (WD yX12_isSquare cX12_isSquare 2 (some .boolean)) ({ frames := 0, cells := 0, slots := 0, locals := 0 }) (va_Pc [.int l0] (PcW D [] (R) sz)) (QZ D r (R) (va_A (R) sz)) 0 0 (va_A (R) sz) := by
  refine ct_start (QF := fun A => QZ D r (R) A) ?_ ?_ ?_
  · decide +kernel
  · exact Nat.le_of_ble_eq_true rfl
  intro p e s m args below meth c A ls S hr hlk hnm hS hA hP hD hK hN hl
  have S : CallFix p m c cX12_isSquare 2 s args AL "DigitBenchModel" := S
  have hx := S.1
  have hb := S.2.1
  have hown := S.2.2.2.1
  have ha := S.2.2.2.2
  have hl : lv_has ls 2 [(0, .int l0)] := hl
  have L2 : ∀ (Q : State → Prop) (n : Nat) (l0 : Int32) (l1 : Int32)  (tg : Nat), f_X12_isSquare_L2 l0 n l1 = some tg → ∀ (H : Heap) (locs : List Loc) (ls : Array Slot), va_P D vwCl (R) H → va_D A (R) → va_S A s.heap H locs → lv_has ls 2 [(0, .int l0), (1, .int l1)] → (tg = 0 → ∀ (H : Heap) (locs : List Loc) (ls : Array Slot), va_P D vwCl (R) H → va_D A (R) → va_S A s.heap H locs → lv_has ls 2 [] → W p l e { frames := 0, cells := 0, slots := 0, locals := 0 } s m args below meth c H locs 0 0 Q (F0 m 16 ls [])) → (tg = 1 → ∀ (H : Heap) (locs : List Loc) (ls : Array Slot), va_P D vwCl (R) H → va_D A (R) → va_S A s.heap H locs → lv_has ls 2 [] → W p l e { frames := 0, cells := 0, slots := 0, locals := 0 } s m args below meth c H locs 0 0 Q (F0 m 24 ls [])) → W p l e { frames := 0, cells := 0, slots := 0, locals := 0 } s m args below meth c H locs 0 0 Q (F0 m 2 ls []) := by
    intro Q n
    induction n with
    | zero =>
      intro l0 l1 tg h
      rw [f_X12_isSquare_L2] at h; cases h
    | succ n ih =>
      intro l0 l1 tg h H locs ls hP hD hS hl kk0 kk1
      rw [f_X12_isSquare_L2] at h
      refine lv_iload_n hx hb dX12_isSquare_2 rfl (lv_at hl 1 rfl) ?_
      refine lv_iload_n hx hb dX12_isSquare_3 rfl (lv_at hl 1 rfl) ?_
      refine lv_imul hx hb dX12_isSquare_4 ?_
      refine lv_iload_n hx hb dX12_isSquare_5 rfl (lv_at hl 0 rfl) ?_
      refine lv_icmp_gt (tgt := 24) hx hb dX12_isSquare_6 (by decide) (fun c1 => ?_) (fun c1 => ?_)
      · have h := br_pos c1 h
        cases h
        exact kk1 rfl _ _ _ hP hD hS (lv_sub hl [] rfl)
      · have h := br_neg c1 h
        refine lv_iload_n hx hb dX12_isSquare_9 rfl (lv_at hl 1 rfl) ?_
        refine lv_iload_n hx hb dX12_isSquare_10 rfl (lv_at hl 1 rfl) ?_
        refine lv_imul hx hb dX12_isSquare_11 ?_
        refine lv_iload_n hx hb dX12_isSquare_12 rfl (lv_at hl 0 rfl) ?_
        refine lv_icmp_ne (tgt := 18) hx hb dX12_isSquare_13 (by decide) (fun c2 => ?_) (fun c2 => ?_)
        · have h := br_neg c2 h
          refine lv_iinc (v := (l1 + 1)) (lv' := [(1, .int (l1 + 1)), (0, .int l0)]) hx hb dX12_isSquare_18 hl (k := 1) rfl rfl (by decide) rfl (fun ls hl => ?_)
          refine lv_goto (tgt := 2) hx hb dX12_isSquare_21 (by decide) ?_
          exact ih l0 (l1 + 1) _ h _ _ _ hP hD hS (lv_sub hl [1, 0] rfl) kk0 kk1
        · have h := br_pos c2 h
          cases h
          exact kk0 rfl _ _ _ hP hD hS (lv_sub hl [] rfl)
  unfold f_X12_isSquare at h
  refine lv_iconst (v := 0) hx hb dX12_isSquare_0 (by decide) ?_
  refine lv_istore_n (lv' := [(1, .int 0), (0, .int l0)]) hx hb dX12_isSquare_1 rfl hl (by decide) rfl (fun ls hl => ?_)
  obtain ⟨tg_L2_2, e_L2_2, h⟩ := bnd1_ok h
  refine L2 _ _ l0 0 tg_L2_2 e_L2_2 _ _ _ hP hD hS (lv_sub hl [1, 0] rfl) ?_ ?_
  · intro q9 H locs ls hP hD hS hl
    have h := br_pos q9 h
    refine lv_iconst (v := 1) hx hb dX12_isSquare_16 (by decide) ?_
    cases h
    exact rt_z S hr hlk hP hD hS (by decide) dX12_isSquare_17
  · intro q9 H locs ls hP hD hS hl
    have h := br_neg (by rw [q9]; decide) h
    refine lv_iconst (v := 0) hx hb dX12_isSquare_24 (by decide) ?_
    cases h
    exact rt_z S hr hlk hP hD hS (by decide) dX12_isSquare_25
noncomputable def f_X12_base_L95  : Nat → Int32 → (Nat → Int32) →  Option ((Nat → Int32))
  | 0, _, _ => none
  | n + 1, l3, t_has => (
    if 10 ≤ l3 then (
     some t_has
    ) else (
     gd (ixb l3 10) (
      f_X12_base_L95 n (l3 + 1) (upd t_has l3.toNatClampNeg (vp_nar .boolean 0))
     )
    ))
noncomputable def f_X12_base (t_thrown : Int32) (t_a : Int32) (t_b : Int32) (t_root : Int32) (t_isTold : Int32) (t_has : Nat → Int32) (l1 : Int32) (l2 : Int32) : Option (Int32 × Int32 × Int32 × Int32 × Int32 × Int32 × (Nat → Int32)) :=
  if l1 < 1 then (
   some (0, 0, t_a, t_b, t_root, t_isTold, t_has)
  ) else (
   if 9 < l1 then (
    some (0, 0, t_a, t_b, t_root, t_isTold, t_has)
   ) else (
    if l2 < (-8) then (
     some (0, 0, t_a, t_b, t_root, t_isTold, t_has)
    ) else (
     if 9 < l2 then (
      some (0, 0, t_a, t_b, t_root, t_isTold, t_has)
     ) else (
      if l2 = 0 then (
       some (0, 0, t_a, t_b, t_root, t_isTold, t_has)
      ) else (
       if l1 < l2 then (
        some (0, 0, t_a, t_b, t_root, t_isTold, t_has)
       ) else (
        if 0 ≤ l2 then (
         bnd1 (f_X12_isSquare ((l1 * l1) + (4 * l2))) fun r_c55_7 => (
          if r_c55_7 = 0 then (
           bnd1 (f_X12_base_L95 FU 0 t_has) fun x_t_has_L95_11 => (
            some (1, 0, l1, l2, ((l1 * l1) + (4 * l2)), 0, x_t_has_L95_11)
           )
          ) else (
           some (0, 0, t_a, t_b, t_root, t_isTold, t_has)
          )
         )
        ) else (
         if (l1 + l2) < 2 then (
          some (0, 0, t_a, t_b, t_root, t_isTold, t_has)
         ) else (
          bnd1 (f_X12_isSquare ((l1 * l1) + (4 * l2))) fun r_c55_13 => (
           if r_c55_13 = 0 then (
            bnd1 (f_X12_base_L95 FU 0 t_has) fun x_t_has_L95_15 => (
             some (1, 0, l1, l2, ((l1 * l1) + (4 * l2)), 0, x_t_has_L95_15)
            )
           ) else (
            some (0, 0, t_a, t_b, t_root, t_isTold, t_has)
           )
          )
         )
        )
       )
      )
     )
    )
   )
  )
set_option maxHeartbeats 4000000 in
set_option maxRecDepth 100000 in
theorem c_X12_base (l : Launch) (D : va_G) (R : va_W) (h_t : Nat) (t_thrown : Int32) (z_t_1 : Value) (z_t_2 : Value) (t_a : Int32) (t_b : Int32) (t_root : Int32) (z_t_7 : Value) (z_t_8 : Value) (z_t_9 : Value) (z_t_10 : Value) (z_t_11 : Value) (z_t_12 : Value) (t_isTold : Int32) (z_t_14 : Value) (z_t_15 : Value) (z_t_16 : Value) (z_t_17 : Value) (z_t_18 : Value) (z_t_19 : Value) (z_t_20 : Value) (z_t_21 : Value) (z_t_22 : Value) (z_t_23 : Value) (z_t_24 : Value) (z_t_25 : Value) (z_t_26 : Value) (z_t_27 : Value) (z_t_28 : Value) (z_t_29 : Value) (z_t_30 : Value) (z_t_31 : Value) (z_t_32 : Value) (z_t_33 : Value) (z_t_34 : Value) (z_t_35 : Value) (z_t_36 : Value) (z_t_37 : Value) (z_t_38 : Value) (z_t_39 : Value) (z_t_40 : Value) (z_t_41 : Value) (z_t_42 : Value) (z_t_43 : Value) (z_t_44 : Value) (z_t_45 : Value) (z_t_46 : Value) (z_t_47 : Value) (z_t_48 : Value) (z_t_49 : Value) (z_t_50 : Value) (z_t_51 : Value) (z_t_52 : Value) (z_t_53 : Value) (z_t_54 : Value) (z_t_55 : Value) (z_t_56 : Value) (z_t_57 : Value) (z_t_58 : Value) (z_t_59 : Value) (z_t_60 : Value) (h_t_has : Nat) (k_t_has : ClassId) (t_has : Nat → Int32) (l1 : Int32) (l2 : Int32) (r : Int32) (o_t_thrown : Int32) (o_t_a : Int32) (o_t_b : Int32) (o_t_root : Int32) (o_t_isTold : Int32) (o_t_has : Nat → Int32)  (h : f_X12_base t_thrown t_a t_b t_root t_isTold t_has l1 l2 = some (r, o_t_thrown, o_t_a, o_t_b, o_t_root, o_t_isTold, o_t_has)) (sz : Nat) : Met l yX12_base (WD yX12_base cX12_base 4 (some .boolean)) ({ frames := 1, cells := 0, slots := 0, locals := 21 }) (va_Pc [.ref h_t, .int l1, .int l2] (PcW D [(k_t_has, .boolean)] ((h_t, .inr (12, (.int t_thrown :: z_t_1 :: z_t_2 :: .int t_a :: .int t_b :: .int t_root :: .ref h_t_has :: z_t_7 :: z_t_8 :: z_t_9 :: z_t_10 :: z_t_11 :: z_t_12 :: .int t_isTold :: z_t_14 :: z_t_15 :: z_t_16 :: z_t_17 :: z_t_18 :: z_t_19 :: z_t_20 :: z_t_21 :: z_t_22 :: z_t_23 :: z_t_24 :: z_t_25 :: z_t_26 :: z_t_27 :: z_t_28 :: z_t_29 :: z_t_30 :: z_t_31 :: z_t_32 :: z_t_33 :: z_t_34 :: z_t_35 :: z_t_36 :: z_t_37 :: z_t_38 :: z_t_39 :: z_t_40 :: z_t_41 :: z_t_42 :: z_t_43 :: z_t_44 :: z_t_45 :: z_t_46 :: z_t_47 :: z_t_48 :: z_t_49 :: z_t_50 :: z_t_51 :: z_t_52 :: z_t_53 :: z_t_54 :: z_t_55 :: z_t_56 :: z_t_57 :: z_t_58 :: z_t_59 :: z_t_60 :: []))) :: (h_t_has, .inl (k_t_has, 10, .inl t_has)) :: R) sz)) (QZ D r ((h_t, .inr (12, (.int o_t_thrown :: z_t_1 :: z_t_2 :: .int o_t_a :: .int o_t_b :: .int o_t_root :: .ref h_t_has :: z_t_7 :: z_t_8 :: z_t_9 :: z_t_10 :: z_t_11 :: z_t_12 :: .int o_t_isTold :: z_t_14 :: z_t_15 :: z_t_16 :: z_t_17 :: z_t_18 :: z_t_19 :: z_t_20 :: z_t_21 :: z_t_22 :: z_t_23 :: z_t_24 :: z_t_25 :: z_t_26 :: z_t_27 :: z_t_28 :: z_t_29 :: z_t_30 :: z_t_31 :: z_t_32 :: z_t_33 :: z_t_34 :: z_t_35 :: z_t_36 :: z_t_37 :: z_t_38 :: z_t_39 :: z_t_40 :: z_t_41 :: z_t_42 :: z_t_43 :: z_t_44 :: z_t_45 :: z_t_46 :: z_t_47 :: z_t_48 :: z_t_49 :: z_t_50 :: z_t_51 :: z_t_52 :: z_t_53 :: z_t_54 :: z_t_55 :: z_t_56 :: z_t_57 :: z_t_58 :: z_t_59 :: z_t_60 :: []))) :: (h_t_has, .inl (k_t_has, 10, .inl o_t_has)) :: R) (va_A ((h_t, .inr (12, (.int t_thrown :: z_t_1 :: z_t_2 :: .int t_a :: .int t_b :: .int t_root :: .ref h_t_has :: z_t_7 :: z_t_8 :: z_t_9 :: z_t_10 :: z_t_11 :: z_t_12 :: .int t_isTold :: z_t_14 :: z_t_15 :: z_t_16 :: z_t_17 :: z_t_18 :: z_t_19 :: z_t_20 :: z_t_21 :: z_t_22 :: z_t_23 :: z_t_24 :: z_t_25 :: z_t_26 :: z_t_27 :: z_t_28 :: z_t_29 :: z_t_30 :: z_t_31 :: z_t_32 :: z_t_33 :: z_t_34 :: z_t_35 :: z_t_36 :: z_t_37 :: z_t_38 :: z_t_39 :: z_t_40 :: z_t_41 :: z_t_42 :: z_t_43 :: z_t_44 :: z_t_45 :: z_t_46 :: z_t_47 :: z_t_48 :: z_t_49 :: z_t_50 :: z_t_51 :: z_t_52 :: z_t_53 :: z_t_54 :: z_t_55 :: z_t_56 :: z_t_57 :: z_t_58 :: z_t_59 :: z_t_60 :: []))) :: (h_t_has, .inl (k_t_has, 10, .inl t_has)) :: R) sz)) 0 0 (va_A ((h_t, .inr (12, (.int t_thrown :: z_t_1 :: z_t_2 :: .int t_a :: .int t_b :: .int t_root :: .ref h_t_has :: z_t_7 :: z_t_8 :: z_t_9 :: z_t_10 :: z_t_11 :: z_t_12 :: .int t_isTold :: z_t_14 :: z_t_15 :: z_t_16 :: z_t_17 :: z_t_18 :: z_t_19 :: z_t_20 :: z_t_21 :: z_t_22 :: z_t_23 :: z_t_24 :: z_t_25 :: z_t_26 :: z_t_27 :: z_t_28 :: z_t_29 :: z_t_30 :: z_t_31 :: z_t_32 :: z_t_33 :: z_t_34 :: z_t_35 :: z_t_36 :: z_t_37 :: z_t_38 :: z_t_39 :: z_t_40 :: z_t_41 :: z_t_42 :: z_t_43 :: z_t_44 :: z_t_45 :: z_t_46 :: z_t_47 :: z_t_48 :: z_t_49 :: z_t_50 :: z_t_51 :: z_t_52 :: z_t_53 :: z_t_54 :: z_t_55 :: z_t_56 :: z_t_57 :: z_t_58 :: z_t_59 :: z_t_60 :: []))) :: (h_t_has, .inl (k_t_has, 10, .inl t_has)) :: R) sz) := by
  refine ct_start (QF := fun A => QZ D r ((h_t, .inr (12, (.int o_t_thrown :: z_t_1 :: z_t_2 :: .int o_t_a :: .int o_t_b :: .int o_t_root :: .ref h_t_has :: z_t_7 :: z_t_8 :: z_t_9 :: z_t_10 :: z_t_11 :: z_t_12 :: .int o_t_isTold :: z_t_14 :: z_t_15 :: z_t_16 :: z_t_17 :: z_t_18 :: z_t_19 :: z_t_20 :: z_t_21 :: z_t_22 :: z_t_23 :: z_t_24 :: z_t_25 :: z_t_26 :: z_t_27 :: z_t_28 :: z_t_29 :: z_t_30 :: z_t_31 :: z_t_32 :: z_t_33 :: z_t_34 :: z_t_35 :: z_t_36 :: z_t_37 :: z_t_38 :: z_t_39 :: z_t_40 :: z_t_41 :: z_t_42 :: z_t_43 :: z_t_44 :: z_t_45 :: z_t_46 :: z_t_47 :: z_t_48 :: z_t_49 :: z_t_50 :: z_t_51 :: z_t_52 :: z_t_53 :: z_t_54 :: z_t_55 :: z_t_56 :: z_t_57 :: z_t_58 :: z_t_59 :: z_t_60 :: []))) :: (h_t_has, .inl (k_t_has, 10, .inl o_t_has)) :: R) A) ?_ ?_ ?_
  · decide +kernel
  · exact Nat.le_of_ble_eq_true rfl
  intro p e s m args below meth c A ls S hr hlk hnm hS hA hP hD hK hN hl
  have S : CallFix p m c cX12_base 4 s args AL "DigitBenchModel" := S
  have hx := S.1
  have hb := S.2.1
  have hown := S.2.2.2.1
  have ha := S.2.2.2.2
  have hl : lv_has ls 4 [(0, .ref h_t), (1, .int l1), (2, .int l2)] := hl
  have L95 : ∀ (Q : State → Prop) (n : Nat) (l3 : Int32) (t_thrown : Int32) (t_a : Int32) (t_b : Int32) (t_root : Int32) (t_isTold : Int32) (t_has : Nat → Int32) (x_t_has : Nat → Int32), f_X12_base_L95 n l3 t_has = some x_t_has → ∀ (H : Heap) (locs : List Loc) (ls : Array Slot), va_P D vwCl ((h_t, .inr (12, (.int t_thrown :: z_t_1 :: z_t_2 :: .int t_a :: .int t_b :: .int t_root :: .ref h_t_has :: z_t_7 :: z_t_8 :: z_t_9 :: z_t_10 :: z_t_11 :: z_t_12 :: .int t_isTold :: z_t_14 :: z_t_15 :: z_t_16 :: z_t_17 :: z_t_18 :: z_t_19 :: z_t_20 :: z_t_21 :: z_t_22 :: z_t_23 :: z_t_24 :: z_t_25 :: z_t_26 :: z_t_27 :: z_t_28 :: z_t_29 :: z_t_30 :: z_t_31 :: z_t_32 :: z_t_33 :: z_t_34 :: z_t_35 :: z_t_36 :: z_t_37 :: z_t_38 :: z_t_39 :: z_t_40 :: z_t_41 :: z_t_42 :: z_t_43 :: z_t_44 :: z_t_45 :: z_t_46 :: z_t_47 :: z_t_48 :: z_t_49 :: z_t_50 :: z_t_51 :: z_t_52 :: z_t_53 :: z_t_54 :: z_t_55 :: z_t_56 :: z_t_57 :: z_t_58 :: z_t_59 :: z_t_60 :: []))) :: (h_t_has, .inl (k_t_has, 10, .inl t_has)) :: R) H → va_D A ((h_t, .inr (12, (.int t_thrown :: z_t_1 :: z_t_2 :: .int t_a :: .int t_b :: .int t_root :: .ref h_t_has :: z_t_7 :: z_t_8 :: z_t_9 :: z_t_10 :: z_t_11 :: z_t_12 :: .int t_isTold :: z_t_14 :: z_t_15 :: z_t_16 :: z_t_17 :: z_t_18 :: z_t_19 :: z_t_20 :: z_t_21 :: z_t_22 :: z_t_23 :: z_t_24 :: z_t_25 :: z_t_26 :: z_t_27 :: z_t_28 :: z_t_29 :: z_t_30 :: z_t_31 :: z_t_32 :: z_t_33 :: z_t_34 :: z_t_35 :: z_t_36 :: z_t_37 :: z_t_38 :: z_t_39 :: z_t_40 :: z_t_41 :: z_t_42 :: z_t_43 :: z_t_44 :: z_t_45 :: z_t_46 :: z_t_47 :: z_t_48 :: z_t_49 :: z_t_50 :: z_t_51 :: z_t_52 :: z_t_53 :: z_t_54 :: z_t_55 :: z_t_56 :: z_t_57 :: z_t_58 :: z_t_59 :: z_t_60 :: []))) :: (h_t_has, .inl (k_t_has, 10, .inl t_has)) :: R) → va_S A s.heap H locs → lv_has ls 4 [(0, .ref h_t), (3, .int l3)] → (∀ (H : Heap) (locs : List Loc) (ls : Array Slot), va_P D vwCl ((h_t, .inr (12, (.int t_thrown :: z_t_1 :: z_t_2 :: .int t_a :: .int t_b :: .int t_root :: .ref h_t_has :: z_t_7 :: z_t_8 :: z_t_9 :: z_t_10 :: z_t_11 :: z_t_12 :: .int t_isTold :: z_t_14 :: z_t_15 :: z_t_16 :: z_t_17 :: z_t_18 :: z_t_19 :: z_t_20 :: z_t_21 :: z_t_22 :: z_t_23 :: z_t_24 :: z_t_25 :: z_t_26 :: z_t_27 :: z_t_28 :: z_t_29 :: z_t_30 :: z_t_31 :: z_t_32 :: z_t_33 :: z_t_34 :: z_t_35 :: z_t_36 :: z_t_37 :: z_t_38 :: z_t_39 :: z_t_40 :: z_t_41 :: z_t_42 :: z_t_43 :: z_t_44 :: z_t_45 :: z_t_46 :: z_t_47 :: z_t_48 :: z_t_49 :: z_t_50 :: z_t_51 :: z_t_52 :: z_t_53 :: z_t_54 :: z_t_55 :: z_t_56 :: z_t_57 :: z_t_58 :: z_t_59 :: z_t_60 :: []))) :: (h_t_has, .inl (k_t_has, 10, .inl x_t_has)) :: R) H → va_D A ((h_t, .inr (12, (.int t_thrown :: z_t_1 :: z_t_2 :: .int t_a :: .int t_b :: .int t_root :: .ref h_t_has :: z_t_7 :: z_t_8 :: z_t_9 :: z_t_10 :: z_t_11 :: z_t_12 :: .int t_isTold :: z_t_14 :: z_t_15 :: z_t_16 :: z_t_17 :: z_t_18 :: z_t_19 :: z_t_20 :: z_t_21 :: z_t_22 :: z_t_23 :: z_t_24 :: z_t_25 :: z_t_26 :: z_t_27 :: z_t_28 :: z_t_29 :: z_t_30 :: z_t_31 :: z_t_32 :: z_t_33 :: z_t_34 :: z_t_35 :: z_t_36 :: z_t_37 :: z_t_38 :: z_t_39 :: z_t_40 :: z_t_41 :: z_t_42 :: z_t_43 :: z_t_44 :: z_t_45 :: z_t_46 :: z_t_47 :: z_t_48 :: z_t_49 :: z_t_50 :: z_t_51 :: z_t_52 :: z_t_53 :: z_t_54 :: z_t_55 :: z_t_56 :: z_t_57 :: z_t_58 :: z_t_59 :: z_t_60 :: []))) :: (h_t_has, .inl (k_t_has, 10, .inl x_t_has)) :: R) → va_S A s.heap H locs → lv_has ls 4 [(0, .ref h_t)] → W p l e { frames := 1, cells := 0, slots := 0, locals := 21 } s m args below meth c H locs 0 0 Q (F0 m 114 ls [])) → W p l e { frames := 1, cells := 0, slots := 0, locals := 21 } s m args below meth c H locs 0 0 Q (F0 m 95 ls []) := by
    intro Q n
    induction n with
    | zero =>
      intro l3 t_thrown t_a t_b t_root t_isTold t_has x_t_has h
      rw [f_X12_base_L95] at h; cases h
    | succ n ih =>
      intro l3 t_thrown t_a t_b t_root t_isTold t_has x_t_has h H locs ls hP hD hS hl kk0
      rw [f_X12_base_L95] at h
      refine lv_iload_n hx hb dX12_base_95 rfl (lv_at hl 1 rfl) ?_
      refine lv_bipush (v := 10) hx hb dX12_base_96 (by decide) ?_
      refine lv_icmp_ge (tgt := 114) hx hb dX12_base_98 (by decide) (fun c10 => ?_) (fun c10 => ?_)
      · have h := br_pos c10 h
        cases h
        exact kk0 _ _ _ hP hD hS (lv_sub hl [0] rfl)
      · have h := br_neg c10 h
        refine lv_aload_n hx hb dX12_base_101 rfl (lv_at hl 0 rfl) ?_
        refine va_get (D := D) (ci := 12) (v := .ref h_t_has) (C := RX12) (T := TX12) (N := 61) hx hb ha ix12 hown hK hP 0 rfl rfl 6 (by decide) (ha _ q966) (fun _ h9 => h9) rfl dX12_base_102 ?_
        refine lv_iload_n hx hb dX12_base_105 rfl (lv_at hl 1 rfl) ?_
        refine lv_iconst (v := 0) hx hb dX12_base_106 (by decide) ?_
        obtain ⟨i11, h⟩ := ix_ok h
        refine va_zast hx hb hK hP hD hS 1 0 rfl rfl i11 dX12_base_107 (fun H locs hP hD hS => ?_)
        have hP : va_P D vwCl ((h_t, .inr (12, (.int t_thrown :: z_t_1 :: z_t_2 :: .int t_a :: .int t_b :: .int t_root :: .ref h_t_has :: z_t_7 :: z_t_8 :: z_t_9 :: z_t_10 :: z_t_11 :: z_t_12 :: .int t_isTold :: z_t_14 :: z_t_15 :: z_t_16 :: z_t_17 :: z_t_18 :: z_t_19 :: z_t_20 :: z_t_21 :: z_t_22 :: z_t_23 :: z_t_24 :: z_t_25 :: z_t_26 :: z_t_27 :: z_t_28 :: z_t_29 :: z_t_30 :: z_t_31 :: z_t_32 :: z_t_33 :: z_t_34 :: z_t_35 :: z_t_36 :: z_t_37 :: z_t_38 :: z_t_39 :: z_t_40 :: z_t_41 :: z_t_42 :: z_t_43 :: z_t_44 :: z_t_45 :: z_t_46 :: z_t_47 :: z_t_48 :: z_t_49 :: z_t_50 :: z_t_51 :: z_t_52 :: z_t_53 :: z_t_54 :: z_t_55 :: z_t_56 :: z_t_57 :: z_t_58 :: z_t_59 :: z_t_60 :: []))) :: (h_t_has, .inl (k_t_has, 10, .inl (upd t_has l3.toNatClampNeg (vp_nar .boolean 0)))) :: R) H := hP
        have hD : va_D A ((h_t, .inr (12, (.int t_thrown :: z_t_1 :: z_t_2 :: .int t_a :: .int t_b :: .int t_root :: .ref h_t_has :: z_t_7 :: z_t_8 :: z_t_9 :: z_t_10 :: z_t_11 :: z_t_12 :: .int t_isTold :: z_t_14 :: z_t_15 :: z_t_16 :: z_t_17 :: z_t_18 :: z_t_19 :: z_t_20 :: z_t_21 :: z_t_22 :: z_t_23 :: z_t_24 :: z_t_25 :: z_t_26 :: z_t_27 :: z_t_28 :: z_t_29 :: z_t_30 :: z_t_31 :: z_t_32 :: z_t_33 :: z_t_34 :: z_t_35 :: z_t_36 :: z_t_37 :: z_t_38 :: z_t_39 :: z_t_40 :: z_t_41 :: z_t_42 :: z_t_43 :: z_t_44 :: z_t_45 :: z_t_46 :: z_t_47 :: z_t_48 :: z_t_49 :: z_t_50 :: z_t_51 :: z_t_52 :: z_t_53 :: z_t_54 :: z_t_55 :: z_t_56 :: z_t_57 :: z_t_58 :: z_t_59 :: z_t_60 :: []))) :: (h_t_has, .inl (k_t_has, 10, .inl (upd t_has l3.toNatClampNeg (vp_nar .boolean 0)))) :: R) := hD
        refine lv_iinc (v := (l3 + 1)) (lv' := [(3, .int (l3 + 1)), (0, .ref h_t)]) hx hb dX12_base_108 hl (k := 1) rfl rfl (by decide) rfl (fun ls hl => ?_)
        refine lv_goto (tgt := 95) hx hb dX12_base_111 (by decide) ?_
        exact ih (l3 + 1) t_thrown t_a t_b t_root t_isTold (upd t_has l3.toNatClampNeg (vp_nar .boolean 0)) _ h _ _ _ hP hD hS (lv_sub hl [1, 0] rfl) kk0
  unfold f_X12_base at h
  refine lv_aload_n hx hb dX12_base_0 rfl (lv_at hl 0 rfl) ?_
  refine lv_iconst (v := 0) hx hb dX12_base_1 (by decide) ?_
  refine va_put (D := D) (ci := 12) (v := .int 0) (ty := .int) (C := RX12) (T := TX12) (N := 61) hx hb ha ix12 tyX12 tyX12_ok nmX12 hown hK hP hD hS 0 rfl rfl 0 (by decide) (ha _ q960) (fun _ h9 => h9) rfl (by decide +kernel) rfl rfl (Nat.le_of_ble_eq_true rfl) dX12_base_2 (fun H locs hP hD hS => ?_)
  have hP : va_P D vwCl ((h_t, .inr (12, (.int 0 :: z_t_1 :: z_t_2 :: .int t_a :: .int t_b :: .int t_root :: .ref h_t_has :: z_t_7 :: z_t_8 :: z_t_9 :: z_t_10 :: z_t_11 :: z_t_12 :: .int t_isTold :: z_t_14 :: z_t_15 :: z_t_16 :: z_t_17 :: z_t_18 :: z_t_19 :: z_t_20 :: z_t_21 :: z_t_22 :: z_t_23 :: z_t_24 :: z_t_25 :: z_t_26 :: z_t_27 :: z_t_28 :: z_t_29 :: z_t_30 :: z_t_31 :: z_t_32 :: z_t_33 :: z_t_34 :: z_t_35 :: z_t_36 :: z_t_37 :: z_t_38 :: z_t_39 :: z_t_40 :: z_t_41 :: z_t_42 :: z_t_43 :: z_t_44 :: z_t_45 :: z_t_46 :: z_t_47 :: z_t_48 :: z_t_49 :: z_t_50 :: z_t_51 :: z_t_52 :: z_t_53 :: z_t_54 :: z_t_55 :: z_t_56 :: z_t_57 :: z_t_58 :: z_t_59 :: z_t_60 :: []))) :: (h_t_has, .inl (k_t_has, 10, .inl t_has)) :: R) H := hP
  have hD : va_D A ((h_t, .inr (12, (.int 0 :: z_t_1 :: z_t_2 :: .int t_a :: .int t_b :: .int t_root :: .ref h_t_has :: z_t_7 :: z_t_8 :: z_t_9 :: z_t_10 :: z_t_11 :: z_t_12 :: .int t_isTold :: z_t_14 :: z_t_15 :: z_t_16 :: z_t_17 :: z_t_18 :: z_t_19 :: z_t_20 :: z_t_21 :: z_t_22 :: z_t_23 :: z_t_24 :: z_t_25 :: z_t_26 :: z_t_27 :: z_t_28 :: z_t_29 :: z_t_30 :: z_t_31 :: z_t_32 :: z_t_33 :: z_t_34 :: z_t_35 :: z_t_36 :: z_t_37 :: z_t_38 :: z_t_39 :: z_t_40 :: z_t_41 :: z_t_42 :: z_t_43 :: z_t_44 :: z_t_45 :: z_t_46 :: z_t_47 :: z_t_48 :: z_t_49 :: z_t_50 :: z_t_51 :: z_t_52 :: z_t_53 :: z_t_54 :: z_t_55 :: z_t_56 :: z_t_57 :: z_t_58 :: z_t_59 :: z_t_60 :: []))) :: (h_t_has, .inl (k_t_has, 10, .inl t_has)) :: R) := hD
  refine lv_iload_n hx hb dX12_base_5 rfl (lv_at hl 1 rfl) ?_
  refine lv_iconst (v := 1) hx hb dX12_base_6 (by decide) ?_
  refine lv_icmp_lt (tgt := 61) hx hb dX12_base_7 (by decide) (fun c1 => ?_) (fun c1 => ?_)
  · have h := br_pos c1 h
    refine lv_iconst (v := 0) hx hb dX12_base_61 (by decide) ?_
    cases h
    exact rt_z S hr hlk hP hD hS (by decide) dX12_base_62
  · have h := br_neg c1 h
    refine lv_iload_n hx hb dX12_base_10 rfl (lv_at hl 1 rfl) ?_
    refine lv_bipush (v := 9) hx hb dX12_base_11 (by decide) ?_
    refine lv_icmp_gt (tgt := 61) hx hb dX12_base_13 (by decide) (fun c2 => ?_) (fun c2 => ?_)
    · have h := br_pos c2 h
      refine lv_iconst (v := 0) hx hb dX12_base_61 (by decide) ?_
      cases h
      exact rt_z S hr hlk hP hD hS (by decide) dX12_base_62
    · have h := br_neg c2 h
      refine lv_iload_n hx hb dX12_base_16 rfl (lv_at hl 2 rfl) ?_
      refine lv_bipush (v := (-8)) hx hb dX12_base_17 (by decide) ?_
      refine lv_icmp_lt (tgt := 61) hx hb dX12_base_19 (by decide) (fun c3 => ?_) (fun c3 => ?_)
      · have h := br_pos c3 h
        refine lv_iconst (v := 0) hx hb dX12_base_61 (by decide) ?_
        cases h
        exact rt_z S hr hlk hP hD hS (by decide) dX12_base_62
      · have h := br_neg c3 h
        refine lv_iload_n hx hb dX12_base_22 rfl (lv_at hl 2 rfl) ?_
        refine lv_bipush (v := 9) hx hb dX12_base_23 (by decide) ?_
        refine lv_icmp_gt (tgt := 61) hx hb dX12_base_25 (by decide) (fun c4 => ?_) (fun c4 => ?_)
        · have h := br_pos c4 h
          refine lv_iconst (v := 0) hx hb dX12_base_61 (by decide) ?_
          cases h
          exact rt_z S hr hlk hP hD hS (by decide) dX12_base_62
        · have h := br_neg c4 h
          refine lv_iload_n hx hb dX12_base_28 rfl (lv_at hl 2 rfl) ?_
          refine lv_if_eq (tgt := 61) hx hb dX12_base_29 (by decide) (fun c5 => ?_) (fun c5 => ?_)
          · have h := br_pos c5 h
            refine lv_iconst (v := 0) hx hb dX12_base_61 (by decide) ?_
            cases h
            exact rt_z S hr hlk hP hD hS (by decide) dX12_base_62
          · have h := br_neg c5 h
            refine lv_iload_n hx hb dX12_base_32 rfl (lv_at hl 2 rfl) ?_
            refine lv_iload_n hx hb dX12_base_33 rfl (lv_at hl 1 rfl) ?_
            refine lv_icmp_gt (tgt := 61) hx hb dX12_base_34 (by decide) (fun c6 => ?_) (fun c6 => ?_)
            · have h := br_pos c6 h
              refine lv_iconst (v := 0) hx hb dX12_base_61 (by decide) ?_
              cases h
              exact rt_z S hr hlk hP hD hS (by decide) dX12_base_62
            · have h := br_neg c6 h
              refine lv_iload_n hx hb dX12_base_37 rfl (lv_at hl 2 rfl) ?_
              refine lv_if_ge (tgt := 48) hx hb dX12_base_38 (by decide) (fun c7 => ?_) (fun c7 => ?_)
              · have h := br_pos c7 h
                refine lv_iload_n hx hb dX12_base_48 rfl (lv_at hl 1 rfl) ?_
                refine lv_iload_n hx hb dX12_base_49 rfl (lv_at hl 1 rfl) ?_
                refine lv_imul hx hb dX12_base_50 ?_
                refine lv_iconst (v := 4) hx hb dX12_base_51 (by decide) ?_
                refine lv_iload_n hx hb dX12_base_52 rfl (lv_at hl 2 rfl) ?_
                refine lv_imul hx hb dX12_base_53 ?_
                refine lv_iadd hx hb dX12_base_54 ?_
                obtain ⟨r_c55_7, e_c55_7, h⟩ := bnd1_ok h
                refine cl_z (rn_s (As := [.int ((l1 * l1) + (4 * l2))]) (rest := []) S (c_X12_isSquare l D ((h_t, .inr (12, (.int 0 :: z_t_1 :: z_t_2 :: .int t_a :: .int t_b :: .int t_root :: .ref h_t_has :: z_t_7 :: z_t_8 :: z_t_9 :: z_t_10 :: z_t_11 :: z_t_12 :: .int t_isTold :: z_t_14 :: z_t_15 :: z_t_16 :: z_t_17 :: z_t_18 :: z_t_19 :: z_t_20 :: z_t_21 :: z_t_22 :: z_t_23 :: z_t_24 :: z_t_25 :: z_t_26 :: z_t_27 :: z_t_28 :: z_t_29 :: z_t_30 :: z_t_31 :: z_t_32 :: z_t_33 :: z_t_34 :: z_t_35 :: z_t_36 :: z_t_37 :: z_t_38 :: z_t_39 :: z_t_40 :: z_t_41 :: z_t_42 :: z_t_43 :: z_t_44 :: z_t_45 :: z_t_46 :: z_t_47 :: z_t_48 :: z_t_49 :: z_t_50 :: z_t_51 :: z_t_52 :: z_t_53 :: z_t_54 :: z_t_55 :: z_t_56 :: z_t_57 :: z_t_58 :: z_t_59 :: z_t_60 :: []))) :: (h_t_has, .inl (k_t_has, 10, .inl t_has)) :: R) ((l1 * l1) + (4 * l2)) r_c55_7 e_c55_7 _) q1165 q1166 q61 q1167 nd_X12_isSquare ⟨Nat.le_of_ble_eq_true rfl, Nat.le_of_ble_eq_true rfl⟩ rfl rfl hP hD (hK.sub (tys' := []) [] rfl) hN rfl hl.1 rfl (Nat.le_of_ble_eq_true rfl) dX12_base_55 ⟨Nat.le_of_ble_eq_true rfl, Nat.le_of_ble_eq_true rfl⟩) hS hA hD (fun H locs hP hD hS z_c55_7 => ?_)
                have hP : va_P D vwCl ((h_t, .inr (12, (.int 0 :: z_t_1 :: z_t_2 :: .int t_a :: .int t_b :: .int t_root :: .ref h_t_has :: z_t_7 :: z_t_8 :: z_t_9 :: z_t_10 :: z_t_11 :: z_t_12 :: .int t_isTold :: z_t_14 :: z_t_15 :: z_t_16 :: z_t_17 :: z_t_18 :: z_t_19 :: z_t_20 :: z_t_21 :: z_t_22 :: z_t_23 :: z_t_24 :: z_t_25 :: z_t_26 :: z_t_27 :: z_t_28 :: z_t_29 :: z_t_30 :: z_t_31 :: z_t_32 :: z_t_33 :: z_t_34 :: z_t_35 :: z_t_36 :: z_t_37 :: z_t_38 :: z_t_39 :: z_t_40 :: z_t_41 :: z_t_42 :: z_t_43 :: z_t_44 :: z_t_45 :: z_t_46 :: z_t_47 :: z_t_48 :: z_t_49 :: z_t_50 :: z_t_51 :: z_t_52 :: z_t_53 :: z_t_54 :: z_t_55 :: z_t_56 :: z_t_57 :: z_t_58 :: z_t_59 :: z_t_60 :: []))) :: (h_t_has, .inl (k_t_has, 10, .inl t_has)) :: R) H := hP
                have hD : va_D A ((h_t, .inr (12, (.int 0 :: z_t_1 :: z_t_2 :: .int t_a :: .int t_b :: .int t_root :: .ref h_t_has :: z_t_7 :: z_t_8 :: z_t_9 :: z_t_10 :: z_t_11 :: z_t_12 :: .int t_isTold :: z_t_14 :: z_t_15 :: z_t_16 :: z_t_17 :: z_t_18 :: z_t_19 :: z_t_20 :: z_t_21 :: z_t_22 :: z_t_23 :: z_t_24 :: z_t_25 :: z_t_26 :: z_t_27 :: z_t_28 :: z_t_29 :: z_t_30 :: z_t_31 :: z_t_32 :: z_t_33 :: z_t_34 :: z_t_35 :: z_t_36 :: z_t_37 :: z_t_38 :: z_t_39 :: z_t_40 :: z_t_41 :: z_t_42 :: z_t_43 :: z_t_44 :: z_t_45 :: z_t_46 :: z_t_47 :: z_t_48 :: z_t_49 :: z_t_50 :: z_t_51 :: z_t_52 :: z_t_53 :: z_t_54 :: z_t_55 :: z_t_56 :: z_t_57 :: z_t_58 :: z_t_59 :: z_t_60 :: []))) :: (h_t_has, .inl (k_t_has, 10, .inl t_has)) :: R) := hD
                refine lv_if_eq (tgt := 63) hx hb dX12_base_58 (by decide) (fun c9 => ?_) (fun c9 => ?_)
                · have h := br_pos c9 h
                  refine lv_aload_n hx hb dX12_base_63 rfl (lv_at hl 0 rfl) ?_
                  refine lv_iload_n hx hb dX12_base_64 rfl (lv_at hl 1 rfl) ?_
                  refine va_put (D := D) (ci := 12) (v := .int l1) (ty := .int) (C := RX12) (T := TX12) (N := 61) hx hb ha ix12 tyX12 tyX12_ok nmX12 hown hK hP hD hS 0 rfl rfl 3 (by decide) (ha _ q963) (fun _ h9 => h9) rfl (by decide +kernel) rfl rfl (Nat.le_of_ble_eq_true rfl) dX12_base_65 (fun H locs hP hD hS => ?_)
                  have hP : va_P D vwCl ((h_t, .inr (12, (.int 0 :: z_t_1 :: z_t_2 :: .int l1 :: .int t_b :: .int t_root :: .ref h_t_has :: z_t_7 :: z_t_8 :: z_t_9 :: z_t_10 :: z_t_11 :: z_t_12 :: .int t_isTold :: z_t_14 :: z_t_15 :: z_t_16 :: z_t_17 :: z_t_18 :: z_t_19 :: z_t_20 :: z_t_21 :: z_t_22 :: z_t_23 :: z_t_24 :: z_t_25 :: z_t_26 :: z_t_27 :: z_t_28 :: z_t_29 :: z_t_30 :: z_t_31 :: z_t_32 :: z_t_33 :: z_t_34 :: z_t_35 :: z_t_36 :: z_t_37 :: z_t_38 :: z_t_39 :: z_t_40 :: z_t_41 :: z_t_42 :: z_t_43 :: z_t_44 :: z_t_45 :: z_t_46 :: z_t_47 :: z_t_48 :: z_t_49 :: z_t_50 :: z_t_51 :: z_t_52 :: z_t_53 :: z_t_54 :: z_t_55 :: z_t_56 :: z_t_57 :: z_t_58 :: z_t_59 :: z_t_60 :: []))) :: (h_t_has, .inl (k_t_has, 10, .inl t_has)) :: R) H := hP
                  have hD : va_D A ((h_t, .inr (12, (.int 0 :: z_t_1 :: z_t_2 :: .int l1 :: .int t_b :: .int t_root :: .ref h_t_has :: z_t_7 :: z_t_8 :: z_t_9 :: z_t_10 :: z_t_11 :: z_t_12 :: .int t_isTold :: z_t_14 :: z_t_15 :: z_t_16 :: z_t_17 :: z_t_18 :: z_t_19 :: z_t_20 :: z_t_21 :: z_t_22 :: z_t_23 :: z_t_24 :: z_t_25 :: z_t_26 :: z_t_27 :: z_t_28 :: z_t_29 :: z_t_30 :: z_t_31 :: z_t_32 :: z_t_33 :: z_t_34 :: z_t_35 :: z_t_36 :: z_t_37 :: z_t_38 :: z_t_39 :: z_t_40 :: z_t_41 :: z_t_42 :: z_t_43 :: z_t_44 :: z_t_45 :: z_t_46 :: z_t_47 :: z_t_48 :: z_t_49 :: z_t_50 :: z_t_51 :: z_t_52 :: z_t_53 :: z_t_54 :: z_t_55 :: z_t_56 :: z_t_57 :: z_t_58 :: z_t_59 :: z_t_60 :: []))) :: (h_t_has, .inl (k_t_has, 10, .inl t_has)) :: R) := hD
                  refine lv_aload_n hx hb dX12_base_68 rfl (lv_at hl 0 rfl) ?_
                  refine lv_iload_n hx hb dX12_base_69 rfl (lv_at hl 2 rfl) ?_
                  refine va_put (D := D) (ci := 12) (v := .int l2) (ty := .int) (C := RX12) (T := TX12) (N := 61) hx hb ha ix12 tyX12 tyX12_ok nmX12 hown hK hP hD hS 0 rfl rfl 4 (by decide) (ha _ q964) (fun _ h9 => h9) rfl (by decide +kernel) rfl rfl (Nat.le_of_ble_eq_true rfl) dX12_base_70 (fun H locs hP hD hS => ?_)
                  have hP : va_P D vwCl ((h_t, .inr (12, (.int 0 :: z_t_1 :: z_t_2 :: .int l1 :: .int l2 :: .int t_root :: .ref h_t_has :: z_t_7 :: z_t_8 :: z_t_9 :: z_t_10 :: z_t_11 :: z_t_12 :: .int t_isTold :: z_t_14 :: z_t_15 :: z_t_16 :: z_t_17 :: z_t_18 :: z_t_19 :: z_t_20 :: z_t_21 :: z_t_22 :: z_t_23 :: z_t_24 :: z_t_25 :: z_t_26 :: z_t_27 :: z_t_28 :: z_t_29 :: z_t_30 :: z_t_31 :: z_t_32 :: z_t_33 :: z_t_34 :: z_t_35 :: z_t_36 :: z_t_37 :: z_t_38 :: z_t_39 :: z_t_40 :: z_t_41 :: z_t_42 :: z_t_43 :: z_t_44 :: z_t_45 :: z_t_46 :: z_t_47 :: z_t_48 :: z_t_49 :: z_t_50 :: z_t_51 :: z_t_52 :: z_t_53 :: z_t_54 :: z_t_55 :: z_t_56 :: z_t_57 :: z_t_58 :: z_t_59 :: z_t_60 :: []))) :: (h_t_has, .inl (k_t_has, 10, .inl t_has)) :: R) H := hP
                  have hD : va_D A ((h_t, .inr (12, (.int 0 :: z_t_1 :: z_t_2 :: .int l1 :: .int l2 :: .int t_root :: .ref h_t_has :: z_t_7 :: z_t_8 :: z_t_9 :: z_t_10 :: z_t_11 :: z_t_12 :: .int t_isTold :: z_t_14 :: z_t_15 :: z_t_16 :: z_t_17 :: z_t_18 :: z_t_19 :: z_t_20 :: z_t_21 :: z_t_22 :: z_t_23 :: z_t_24 :: z_t_25 :: z_t_26 :: z_t_27 :: z_t_28 :: z_t_29 :: z_t_30 :: z_t_31 :: z_t_32 :: z_t_33 :: z_t_34 :: z_t_35 :: z_t_36 :: z_t_37 :: z_t_38 :: z_t_39 :: z_t_40 :: z_t_41 :: z_t_42 :: z_t_43 :: z_t_44 :: z_t_45 :: z_t_46 :: z_t_47 :: z_t_48 :: z_t_49 :: z_t_50 :: z_t_51 :: z_t_52 :: z_t_53 :: z_t_54 :: z_t_55 :: z_t_56 :: z_t_57 :: z_t_58 :: z_t_59 :: z_t_60 :: []))) :: (h_t_has, .inl (k_t_has, 10, .inl t_has)) :: R) := hD
                  refine lv_aload_n hx hb dX12_base_73 rfl (lv_at hl 0 rfl) ?_
                  refine lv_aload_n hx hb dX12_base_74 rfl (lv_at hl 0 rfl) ?_
                  refine va_get (D := D) (ci := 12) (v := .int l1) (C := RX12) (T := TX12) (N := 61) hx hb ha ix12 hown hK hP 0 rfl rfl 3 (by decide) (ha _ q963) (fun _ h9 => h9) rfl dX12_base_75 ?_
                  refine lv_aload_n hx hb dX12_base_78 rfl (lv_at hl 0 rfl) ?_
                  refine va_get (D := D) (ci := 12) (v := .int l1) (C := RX12) (T := TX12) (N := 61) hx hb ha ix12 hown hK hP 0 rfl rfl 3 (by decide) (ha _ q963) (fun _ h9 => h9) rfl dX12_base_79 ?_
                  refine lv_imul hx hb dX12_base_82 ?_
                  refine lv_iconst (v := 4) hx hb dX12_base_83 (by decide) ?_
                  refine lv_aload_n hx hb dX12_base_84 rfl (lv_at hl 0 rfl) ?_
                  refine va_get (D := D) (ci := 12) (v := .int l2) (C := RX12) (T := TX12) (N := 61) hx hb ha ix12 hown hK hP 0 rfl rfl 4 (by decide) (ha _ q964) (fun _ h9 => h9) rfl dX12_base_85 ?_
                  refine lv_imul hx hb dX12_base_88 ?_
                  refine lv_iadd hx hb dX12_base_89 ?_
                  refine va_put (D := D) (ci := 12) (v := .int ((l1 * l1) + (4 * l2))) (ty := .int) (C := RX12) (T := TX12) (N := 61) hx hb ha ix12 tyX12 tyX12_ok nmX12 hown hK hP hD hS 0 rfl rfl 5 (by decide) (ha _ q965) (fun _ h9 => h9) rfl (by decide +kernel) rfl rfl (Nat.le_of_ble_eq_true rfl) dX12_base_90 (fun H locs hP hD hS => ?_)
                  have hP : va_P D vwCl ((h_t, .inr (12, (.int 0 :: z_t_1 :: z_t_2 :: .int l1 :: .int l2 :: .int ((l1 * l1) + (4 * l2)) :: .ref h_t_has :: z_t_7 :: z_t_8 :: z_t_9 :: z_t_10 :: z_t_11 :: z_t_12 :: .int t_isTold :: z_t_14 :: z_t_15 :: z_t_16 :: z_t_17 :: z_t_18 :: z_t_19 :: z_t_20 :: z_t_21 :: z_t_22 :: z_t_23 :: z_t_24 :: z_t_25 :: z_t_26 :: z_t_27 :: z_t_28 :: z_t_29 :: z_t_30 :: z_t_31 :: z_t_32 :: z_t_33 :: z_t_34 :: z_t_35 :: z_t_36 :: z_t_37 :: z_t_38 :: z_t_39 :: z_t_40 :: z_t_41 :: z_t_42 :: z_t_43 :: z_t_44 :: z_t_45 :: z_t_46 :: z_t_47 :: z_t_48 :: z_t_49 :: z_t_50 :: z_t_51 :: z_t_52 :: z_t_53 :: z_t_54 :: z_t_55 :: z_t_56 :: z_t_57 :: z_t_58 :: z_t_59 :: z_t_60 :: []))) :: (h_t_has, .inl (k_t_has, 10, .inl t_has)) :: R) H := hP
                  have hD : va_D A ((h_t, .inr (12, (.int 0 :: z_t_1 :: z_t_2 :: .int l1 :: .int l2 :: .int ((l1 * l1) + (4 * l2)) :: .ref h_t_has :: z_t_7 :: z_t_8 :: z_t_9 :: z_t_10 :: z_t_11 :: z_t_12 :: .int t_isTold :: z_t_14 :: z_t_15 :: z_t_16 :: z_t_17 :: z_t_18 :: z_t_19 :: z_t_20 :: z_t_21 :: z_t_22 :: z_t_23 :: z_t_24 :: z_t_25 :: z_t_26 :: z_t_27 :: z_t_28 :: z_t_29 :: z_t_30 :: z_t_31 :: z_t_32 :: z_t_33 :: z_t_34 :: z_t_35 :: z_t_36 :: z_t_37 :: z_t_38 :: z_t_39 :: z_t_40 :: z_t_41 :: z_t_42 :: z_t_43 :: z_t_44 :: z_t_45 :: z_t_46 :: z_t_47 :: z_t_48 :: z_t_49 :: z_t_50 :: z_t_51 :: z_t_52 :: z_t_53 :: z_t_54 :: z_t_55 :: z_t_56 :: z_t_57 :: z_t_58 :: z_t_59 :: z_t_60 :: []))) :: (h_t_has, .inl (k_t_has, 10, .inl t_has)) :: R) := hD
                  refine lv_iconst (v := 0) hx hb dX12_base_93 (by decide) ?_
                  refine lv_istore_n (lv' := [(3, .int 0), (0, .ref h_t), (1, .int l1), (2, .int l2)]) hx hb dX12_base_94 rfl hl (by decide) rfl (fun ls hl => ?_)
                  obtain ⟨x_t_has_L95_11, e_L95_11, h⟩ := bnd1_ok h
                  refine L95 _ _ 0 0 l1 l2 ((l1 * l1) + (4 * l2)) t_isTold t_has x_t_has_L95_11 e_L95_11 _ _ _ hP hD hS (lv_sub hl [1, 0] rfl) ?_
                  intro H locs ls hP hD hS hl
                  refine lv_aload_n hx hb dX12_base_114 rfl (lv_at hl 0 rfl) ?_
                  refine lv_iconst (v := 0) hx hb dX12_base_115 (by decide) ?_
                  refine va_put (D := D) (ci := 12) (v := .int 0) (ty := .boolean) (C := RX12) (T := TX12) (N := 61) hx hb ha ix12 tyX12 tyX12_ok nmX12 hown hK hP hD hS 0 rfl rfl 13 (by decide) (ha _ q973) (fun _ h9 => h9) rfl (by decide +kernel) (by decide +kernel) (by decide +kernel) (Nat.le_of_ble_eq_true rfl) dX12_base_116 (fun H locs hP hD hS => ?_)
                  have hP : va_P D vwCl ((h_t, .inr (12, (.int 0 :: z_t_1 :: z_t_2 :: .int l1 :: .int l2 :: .int ((l1 * l1) + (4 * l2)) :: .ref h_t_has :: z_t_7 :: z_t_8 :: z_t_9 :: z_t_10 :: z_t_11 :: z_t_12 :: .int 0 :: z_t_14 :: z_t_15 :: z_t_16 :: z_t_17 :: z_t_18 :: z_t_19 :: z_t_20 :: z_t_21 :: z_t_22 :: z_t_23 :: z_t_24 :: z_t_25 :: z_t_26 :: z_t_27 :: z_t_28 :: z_t_29 :: z_t_30 :: z_t_31 :: z_t_32 :: z_t_33 :: z_t_34 :: z_t_35 :: z_t_36 :: z_t_37 :: z_t_38 :: z_t_39 :: z_t_40 :: z_t_41 :: z_t_42 :: z_t_43 :: z_t_44 :: z_t_45 :: z_t_46 :: z_t_47 :: z_t_48 :: z_t_49 :: z_t_50 :: z_t_51 :: z_t_52 :: z_t_53 :: z_t_54 :: z_t_55 :: z_t_56 :: z_t_57 :: z_t_58 :: z_t_59 :: z_t_60 :: []))) :: (h_t_has, .inl (k_t_has, 10, .inl x_t_has_L95_11)) :: R) H := hP
                  have hD : va_D A ((h_t, .inr (12, (.int 0 :: z_t_1 :: z_t_2 :: .int l1 :: .int l2 :: .int ((l1 * l1) + (4 * l2)) :: .ref h_t_has :: z_t_7 :: z_t_8 :: z_t_9 :: z_t_10 :: z_t_11 :: z_t_12 :: .int 0 :: z_t_14 :: z_t_15 :: z_t_16 :: z_t_17 :: z_t_18 :: z_t_19 :: z_t_20 :: z_t_21 :: z_t_22 :: z_t_23 :: z_t_24 :: z_t_25 :: z_t_26 :: z_t_27 :: z_t_28 :: z_t_29 :: z_t_30 :: z_t_31 :: z_t_32 :: z_t_33 :: z_t_34 :: z_t_35 :: z_t_36 :: z_t_37 :: z_t_38 :: z_t_39 :: z_t_40 :: z_t_41 :: z_t_42 :: z_t_43 :: z_t_44 :: z_t_45 :: z_t_46 :: z_t_47 :: z_t_48 :: z_t_49 :: z_t_50 :: z_t_51 :: z_t_52 :: z_t_53 :: z_t_54 :: z_t_55 :: z_t_56 :: z_t_57 :: z_t_58 :: z_t_59 :: z_t_60 :: []))) :: (h_t_has, .inl (k_t_has, 10, .inl x_t_has_L95_11)) :: R) := hD
                  refine lv_iconst (v := 1) hx hb dX12_base_119 (by decide) ?_
                  cases h
                  exact rt_z S hr hlk hP hD hS (by decide) dX12_base_120
                · have h := br_neg c9 h
                  refine lv_iconst (v := 0) hx hb dX12_base_61 (by decide) ?_
                  cases h
                  exact rt_z S hr hlk hP hD hS (by decide) dX12_base_62
              · have h := br_neg c7 h
                refine lv_iload_n hx hb dX12_base_41 rfl (lv_at hl 1 rfl) ?_
                refine lv_iload_n hx hb dX12_base_42 rfl (lv_at hl 2 rfl) ?_
                refine lv_iadd hx hb dX12_base_43 ?_
                refine lv_iconst (v := 2) hx hb dX12_base_44 (by decide) ?_
                refine lv_icmp_lt (tgt := 61) hx hb dX12_base_45 (by decide) (fun c13 => ?_) (fun c13 => ?_)
                · have h := br_pos c13 h
                  refine lv_iconst (v := 0) hx hb dX12_base_61 (by decide) ?_
                  cases h
                  exact rt_z S hr hlk hP hD hS (by decide) dX12_base_62
                · have h := br_neg c13 h
                  refine lv_iload_n hx hb dX12_base_48 rfl (lv_at hl 1 rfl) ?_
                  refine lv_iload_n hx hb dX12_base_49 rfl (lv_at hl 1 rfl) ?_
                  refine lv_imul hx hb dX12_base_50 ?_
                  refine lv_iconst (v := 4) hx hb dX12_base_51 (by decide) ?_
                  refine lv_iload_n hx hb dX12_base_52 rfl (lv_at hl 2 rfl) ?_
                  refine lv_imul hx hb dX12_base_53 ?_
                  refine lv_iadd hx hb dX12_base_54 ?_
                  obtain ⟨r_c55_13, e_c55_13, h⟩ := bnd1_ok h
                  refine cl_z (rn_s (As := [.int ((l1 * l1) + (4 * l2))]) (rest := []) S (c_X12_isSquare l D ((h_t, .inr (12, (.int 0 :: z_t_1 :: z_t_2 :: .int t_a :: .int t_b :: .int t_root :: .ref h_t_has :: z_t_7 :: z_t_8 :: z_t_9 :: z_t_10 :: z_t_11 :: z_t_12 :: .int t_isTold :: z_t_14 :: z_t_15 :: z_t_16 :: z_t_17 :: z_t_18 :: z_t_19 :: z_t_20 :: z_t_21 :: z_t_22 :: z_t_23 :: z_t_24 :: z_t_25 :: z_t_26 :: z_t_27 :: z_t_28 :: z_t_29 :: z_t_30 :: z_t_31 :: z_t_32 :: z_t_33 :: z_t_34 :: z_t_35 :: z_t_36 :: z_t_37 :: z_t_38 :: z_t_39 :: z_t_40 :: z_t_41 :: z_t_42 :: z_t_43 :: z_t_44 :: z_t_45 :: z_t_46 :: z_t_47 :: z_t_48 :: z_t_49 :: z_t_50 :: z_t_51 :: z_t_52 :: z_t_53 :: z_t_54 :: z_t_55 :: z_t_56 :: z_t_57 :: z_t_58 :: z_t_59 :: z_t_60 :: []))) :: (h_t_has, .inl (k_t_has, 10, .inl t_has)) :: R) ((l1 * l1) + (4 * l2)) r_c55_13 e_c55_13 _) q1165 q1166 q61 q1167 nd_X12_isSquare ⟨Nat.le_of_ble_eq_true rfl, Nat.le_of_ble_eq_true rfl⟩ rfl rfl hP hD (hK.sub (tys' := []) [] rfl) hN rfl hl.1 rfl (Nat.le_of_ble_eq_true rfl) dX12_base_55 ⟨Nat.le_of_ble_eq_true rfl, Nat.le_of_ble_eq_true rfl⟩) hS hA hD (fun H locs hP hD hS z_c55_13 => ?_)
                  have hP : va_P D vwCl ((h_t, .inr (12, (.int 0 :: z_t_1 :: z_t_2 :: .int t_a :: .int t_b :: .int t_root :: .ref h_t_has :: z_t_7 :: z_t_8 :: z_t_9 :: z_t_10 :: z_t_11 :: z_t_12 :: .int t_isTold :: z_t_14 :: z_t_15 :: z_t_16 :: z_t_17 :: z_t_18 :: z_t_19 :: z_t_20 :: z_t_21 :: z_t_22 :: z_t_23 :: z_t_24 :: z_t_25 :: z_t_26 :: z_t_27 :: z_t_28 :: z_t_29 :: z_t_30 :: z_t_31 :: z_t_32 :: z_t_33 :: z_t_34 :: z_t_35 :: z_t_36 :: z_t_37 :: z_t_38 :: z_t_39 :: z_t_40 :: z_t_41 :: z_t_42 :: z_t_43 :: z_t_44 :: z_t_45 :: z_t_46 :: z_t_47 :: z_t_48 :: z_t_49 :: z_t_50 :: z_t_51 :: z_t_52 :: z_t_53 :: z_t_54 :: z_t_55 :: z_t_56 :: z_t_57 :: z_t_58 :: z_t_59 :: z_t_60 :: []))) :: (h_t_has, .inl (k_t_has, 10, .inl t_has)) :: R) H := hP
                  have hD : va_D A ((h_t, .inr (12, (.int 0 :: z_t_1 :: z_t_2 :: .int t_a :: .int t_b :: .int t_root :: .ref h_t_has :: z_t_7 :: z_t_8 :: z_t_9 :: z_t_10 :: z_t_11 :: z_t_12 :: .int t_isTold :: z_t_14 :: z_t_15 :: z_t_16 :: z_t_17 :: z_t_18 :: z_t_19 :: z_t_20 :: z_t_21 :: z_t_22 :: z_t_23 :: z_t_24 :: z_t_25 :: z_t_26 :: z_t_27 :: z_t_28 :: z_t_29 :: z_t_30 :: z_t_31 :: z_t_32 :: z_t_33 :: z_t_34 :: z_t_35 :: z_t_36 :: z_t_37 :: z_t_38 :: z_t_39 :: z_t_40 :: z_t_41 :: z_t_42 :: z_t_43 :: z_t_44 :: z_t_45 :: z_t_46 :: z_t_47 :: z_t_48 :: z_t_49 :: z_t_50 :: z_t_51 :: z_t_52 :: z_t_53 :: z_t_54 :: z_t_55 :: z_t_56 :: z_t_57 :: z_t_58 :: z_t_59 :: z_t_60 :: []))) :: (h_t_has, .inl (k_t_has, 10, .inl t_has)) :: R) := hD
                  refine lv_if_eq (tgt := 63) hx hb dX12_base_58 (by decide) (fun c15 => ?_) (fun c15 => ?_)
                  · have h := br_pos c15 h
                    refine lv_aload_n hx hb dX12_base_63 rfl (lv_at hl 0 rfl) ?_
                    refine lv_iload_n hx hb dX12_base_64 rfl (lv_at hl 1 rfl) ?_
                    refine va_put (D := D) (ci := 12) (v := .int l1) (ty := .int) (C := RX12) (T := TX12) (N := 61) hx hb ha ix12 tyX12 tyX12_ok nmX12 hown hK hP hD hS 0 rfl rfl 3 (by decide) (ha _ q963) (fun _ h9 => h9) rfl (by decide +kernel) rfl rfl (Nat.le_of_ble_eq_true rfl) dX12_base_65 (fun H locs hP hD hS => ?_)
                    have hP : va_P D vwCl ((h_t, .inr (12, (.int 0 :: z_t_1 :: z_t_2 :: .int l1 :: .int t_b :: .int t_root :: .ref h_t_has :: z_t_7 :: z_t_8 :: z_t_9 :: z_t_10 :: z_t_11 :: z_t_12 :: .int t_isTold :: z_t_14 :: z_t_15 :: z_t_16 :: z_t_17 :: z_t_18 :: z_t_19 :: z_t_20 :: z_t_21 :: z_t_22 :: z_t_23 :: z_t_24 :: z_t_25 :: z_t_26 :: z_t_27 :: z_t_28 :: z_t_29 :: z_t_30 :: z_t_31 :: z_t_32 :: z_t_33 :: z_t_34 :: z_t_35 :: z_t_36 :: z_t_37 :: z_t_38 :: z_t_39 :: z_t_40 :: z_t_41 :: z_t_42 :: z_t_43 :: z_t_44 :: z_t_45 :: z_t_46 :: z_t_47 :: z_t_48 :: z_t_49 :: z_t_50 :: z_t_51 :: z_t_52 :: z_t_53 :: z_t_54 :: z_t_55 :: z_t_56 :: z_t_57 :: z_t_58 :: z_t_59 :: z_t_60 :: []))) :: (h_t_has, .inl (k_t_has, 10, .inl t_has)) :: R) H := hP
                    have hD : va_D A ((h_t, .inr (12, (.int 0 :: z_t_1 :: z_t_2 :: .int l1 :: .int t_b :: .int t_root :: .ref h_t_has :: z_t_7 :: z_t_8 :: z_t_9 :: z_t_10 :: z_t_11 :: z_t_12 :: .int t_isTold :: z_t_14 :: z_t_15 :: z_t_16 :: z_t_17 :: z_t_18 :: z_t_19 :: z_t_20 :: z_t_21 :: z_t_22 :: z_t_23 :: z_t_24 :: z_t_25 :: z_t_26 :: z_t_27 :: z_t_28 :: z_t_29 :: z_t_30 :: z_t_31 :: z_t_32 :: z_t_33 :: z_t_34 :: z_t_35 :: z_t_36 :: z_t_37 :: z_t_38 :: z_t_39 :: z_t_40 :: z_t_41 :: z_t_42 :: z_t_43 :: z_t_44 :: z_t_45 :: z_t_46 :: z_t_47 :: z_t_48 :: z_t_49 :: z_t_50 :: z_t_51 :: z_t_52 :: z_t_53 :: z_t_54 :: z_t_55 :: z_t_56 :: z_t_57 :: z_t_58 :: z_t_59 :: z_t_60 :: []))) :: (h_t_has, .inl (k_t_has, 10, .inl t_has)) :: R) := hD
                    refine lv_aload_n hx hb dX12_base_68 rfl (lv_at hl 0 rfl) ?_
                    refine lv_iload_n hx hb dX12_base_69 rfl (lv_at hl 2 rfl) ?_
                    refine va_put (D := D) (ci := 12) (v := .int l2) (ty := .int) (C := RX12) (T := TX12) (N := 61) hx hb ha ix12 tyX12 tyX12_ok nmX12 hown hK hP hD hS 0 rfl rfl 4 (by decide) (ha _ q964) (fun _ h9 => h9) rfl (by decide +kernel) rfl rfl (Nat.le_of_ble_eq_true rfl) dX12_base_70 (fun H locs hP hD hS => ?_)
                    have hP : va_P D vwCl ((h_t, .inr (12, (.int 0 :: z_t_1 :: z_t_2 :: .int l1 :: .int l2 :: .int t_root :: .ref h_t_has :: z_t_7 :: z_t_8 :: z_t_9 :: z_t_10 :: z_t_11 :: z_t_12 :: .int t_isTold :: z_t_14 :: z_t_15 :: z_t_16 :: z_t_17 :: z_t_18 :: z_t_19 :: z_t_20 :: z_t_21 :: z_t_22 :: z_t_23 :: z_t_24 :: z_t_25 :: z_t_26 :: z_t_27 :: z_t_28 :: z_t_29 :: z_t_30 :: z_t_31 :: z_t_32 :: z_t_33 :: z_t_34 :: z_t_35 :: z_t_36 :: z_t_37 :: z_t_38 :: z_t_39 :: z_t_40 :: z_t_41 :: z_t_42 :: z_t_43 :: z_t_44 :: z_t_45 :: z_t_46 :: z_t_47 :: z_t_48 :: z_t_49 :: z_t_50 :: z_t_51 :: z_t_52 :: z_t_53 :: z_t_54 :: z_t_55 :: z_t_56 :: z_t_57 :: z_t_58 :: z_t_59 :: z_t_60 :: []))) :: (h_t_has, .inl (k_t_has, 10, .inl t_has)) :: R) H := hP
                    have hD : va_D A ((h_t, .inr (12, (.int 0 :: z_t_1 :: z_t_2 :: .int l1 :: .int l2 :: .int t_root :: .ref h_t_has :: z_t_7 :: z_t_8 :: z_t_9 :: z_t_10 :: z_t_11 :: z_t_12 :: .int t_isTold :: z_t_14 :: z_t_15 :: z_t_16 :: z_t_17 :: z_t_18 :: z_t_19 :: z_t_20 :: z_t_21 :: z_t_22 :: z_t_23 :: z_t_24 :: z_t_25 :: z_t_26 :: z_t_27 :: z_t_28 :: z_t_29 :: z_t_30 :: z_t_31 :: z_t_32 :: z_t_33 :: z_t_34 :: z_t_35 :: z_t_36 :: z_t_37 :: z_t_38 :: z_t_39 :: z_t_40 :: z_t_41 :: z_t_42 :: z_t_43 :: z_t_44 :: z_t_45 :: z_t_46 :: z_t_47 :: z_t_48 :: z_t_49 :: z_t_50 :: z_t_51 :: z_t_52 :: z_t_53 :: z_t_54 :: z_t_55 :: z_t_56 :: z_t_57 :: z_t_58 :: z_t_59 :: z_t_60 :: []))) :: (h_t_has, .inl (k_t_has, 10, .inl t_has)) :: R) := hD
                    refine lv_aload_n hx hb dX12_base_73 rfl (lv_at hl 0 rfl) ?_
                    refine lv_aload_n hx hb dX12_base_74 rfl (lv_at hl 0 rfl) ?_
                    refine va_get (D := D) (ci := 12) (v := .int l1) (C := RX12) (T := TX12) (N := 61) hx hb ha ix12 hown hK hP 0 rfl rfl 3 (by decide) (ha _ q963) (fun _ h9 => h9) rfl dX12_base_75 ?_
                    refine lv_aload_n hx hb dX12_base_78 rfl (lv_at hl 0 rfl) ?_
                    refine va_get (D := D) (ci := 12) (v := .int l1) (C := RX12) (T := TX12) (N := 61) hx hb ha ix12 hown hK hP 0 rfl rfl 3 (by decide) (ha _ q963) (fun _ h9 => h9) rfl dX12_base_79 ?_
                    refine lv_imul hx hb dX12_base_82 ?_
                    refine lv_iconst (v := 4) hx hb dX12_base_83 (by decide) ?_
                    refine lv_aload_n hx hb dX12_base_84 rfl (lv_at hl 0 rfl) ?_
                    refine va_get (D := D) (ci := 12) (v := .int l2) (C := RX12) (T := TX12) (N := 61) hx hb ha ix12 hown hK hP 0 rfl rfl 4 (by decide) (ha _ q964) (fun _ h9 => h9) rfl dX12_base_85 ?_
                    refine lv_imul hx hb dX12_base_88 ?_
                    refine lv_iadd hx hb dX12_base_89 ?_
                    refine va_put (D := D) (ci := 12) (v := .int ((l1 * l1) + (4 * l2))) (ty := .int) (C := RX12) (T := TX12) (N := 61) hx hb ha ix12 tyX12 tyX12_ok nmX12 hown hK hP hD hS 0 rfl rfl 5 (by decide) (ha _ q965) (fun _ h9 => h9) rfl (by decide +kernel) rfl rfl (Nat.le_of_ble_eq_true rfl) dX12_base_90 (fun H locs hP hD hS => ?_)
                    have hP : va_P D vwCl ((h_t, .inr (12, (.int 0 :: z_t_1 :: z_t_2 :: .int l1 :: .int l2 :: .int ((l1 * l1) + (4 * l2)) :: .ref h_t_has :: z_t_7 :: z_t_8 :: z_t_9 :: z_t_10 :: z_t_11 :: z_t_12 :: .int t_isTold :: z_t_14 :: z_t_15 :: z_t_16 :: z_t_17 :: z_t_18 :: z_t_19 :: z_t_20 :: z_t_21 :: z_t_22 :: z_t_23 :: z_t_24 :: z_t_25 :: z_t_26 :: z_t_27 :: z_t_28 :: z_t_29 :: z_t_30 :: z_t_31 :: z_t_32 :: z_t_33 :: z_t_34 :: z_t_35 :: z_t_36 :: z_t_37 :: z_t_38 :: z_t_39 :: z_t_40 :: z_t_41 :: z_t_42 :: z_t_43 :: z_t_44 :: z_t_45 :: z_t_46 :: z_t_47 :: z_t_48 :: z_t_49 :: z_t_50 :: z_t_51 :: z_t_52 :: z_t_53 :: z_t_54 :: z_t_55 :: z_t_56 :: z_t_57 :: z_t_58 :: z_t_59 :: z_t_60 :: []))) :: (h_t_has, .inl (k_t_has, 10, .inl t_has)) :: R) H := hP
                    have hD : va_D A ((h_t, .inr (12, (.int 0 :: z_t_1 :: z_t_2 :: .int l1 :: .int l2 :: .int ((l1 * l1) + (4 * l2)) :: .ref h_t_has :: z_t_7 :: z_t_8 :: z_t_9 :: z_t_10 :: z_t_11 :: z_t_12 :: .int t_isTold :: z_t_14 :: z_t_15 :: z_t_16 :: z_t_17 :: z_t_18 :: z_t_19 :: z_t_20 :: z_t_21 :: z_t_22 :: z_t_23 :: z_t_24 :: z_t_25 :: z_t_26 :: z_t_27 :: z_t_28 :: z_t_29 :: z_t_30 :: z_t_31 :: z_t_32 :: z_t_33 :: z_t_34 :: z_t_35 :: z_t_36 :: z_t_37 :: z_t_38 :: z_t_39 :: z_t_40 :: z_t_41 :: z_t_42 :: z_t_43 :: z_t_44 :: z_t_45 :: z_t_46 :: z_t_47 :: z_t_48 :: z_t_49 :: z_t_50 :: z_t_51 :: z_t_52 :: z_t_53 :: z_t_54 :: z_t_55 :: z_t_56 :: z_t_57 :: z_t_58 :: z_t_59 :: z_t_60 :: []))) :: (h_t_has, .inl (k_t_has, 10, .inl t_has)) :: R) := hD
                    refine lv_iconst (v := 0) hx hb dX12_base_93 (by decide) ?_
                    refine lv_istore_n (lv' := [(3, .int 0), (0, .ref h_t), (1, .int l1), (2, .int l2)]) hx hb dX12_base_94 rfl hl (by decide) rfl (fun ls hl => ?_)
                    obtain ⟨x_t_has_L95_15, e_L95_15, h⟩ := bnd1_ok h
                    refine L95 _ _ 0 0 l1 l2 ((l1 * l1) + (4 * l2)) t_isTold t_has x_t_has_L95_15 e_L95_15 _ _ _ hP hD hS (lv_sub hl [1, 0] rfl) ?_
                    intro H locs ls hP hD hS hl
                    refine lv_aload_n hx hb dX12_base_114 rfl (lv_at hl 0 rfl) ?_
                    refine lv_iconst (v := 0) hx hb dX12_base_115 (by decide) ?_
                    refine va_put (D := D) (ci := 12) (v := .int 0) (ty := .boolean) (C := RX12) (T := TX12) (N := 61) hx hb ha ix12 tyX12 tyX12_ok nmX12 hown hK hP hD hS 0 rfl rfl 13 (by decide) (ha _ q973) (fun _ h9 => h9) rfl (by decide +kernel) (by decide +kernel) (by decide +kernel) (Nat.le_of_ble_eq_true rfl) dX12_base_116 (fun H locs hP hD hS => ?_)
                    have hP : va_P D vwCl ((h_t, .inr (12, (.int 0 :: z_t_1 :: z_t_2 :: .int l1 :: .int l2 :: .int ((l1 * l1) + (4 * l2)) :: .ref h_t_has :: z_t_7 :: z_t_8 :: z_t_9 :: z_t_10 :: z_t_11 :: z_t_12 :: .int 0 :: z_t_14 :: z_t_15 :: z_t_16 :: z_t_17 :: z_t_18 :: z_t_19 :: z_t_20 :: z_t_21 :: z_t_22 :: z_t_23 :: z_t_24 :: z_t_25 :: z_t_26 :: z_t_27 :: z_t_28 :: z_t_29 :: z_t_30 :: z_t_31 :: z_t_32 :: z_t_33 :: z_t_34 :: z_t_35 :: z_t_36 :: z_t_37 :: z_t_38 :: z_t_39 :: z_t_40 :: z_t_41 :: z_t_42 :: z_t_43 :: z_t_44 :: z_t_45 :: z_t_46 :: z_t_47 :: z_t_48 :: z_t_49 :: z_t_50 :: z_t_51 :: z_t_52 :: z_t_53 :: z_t_54 :: z_t_55 :: z_t_56 :: z_t_57 :: z_t_58 :: z_t_59 :: z_t_60 :: []))) :: (h_t_has, .inl (k_t_has, 10, .inl x_t_has_L95_15)) :: R) H := hP
                    have hD : va_D A ((h_t, .inr (12, (.int 0 :: z_t_1 :: z_t_2 :: .int l1 :: .int l2 :: .int ((l1 * l1) + (4 * l2)) :: .ref h_t_has :: z_t_7 :: z_t_8 :: z_t_9 :: z_t_10 :: z_t_11 :: z_t_12 :: .int 0 :: z_t_14 :: z_t_15 :: z_t_16 :: z_t_17 :: z_t_18 :: z_t_19 :: z_t_20 :: z_t_21 :: z_t_22 :: z_t_23 :: z_t_24 :: z_t_25 :: z_t_26 :: z_t_27 :: z_t_28 :: z_t_29 :: z_t_30 :: z_t_31 :: z_t_32 :: z_t_33 :: z_t_34 :: z_t_35 :: z_t_36 :: z_t_37 :: z_t_38 :: z_t_39 :: z_t_40 :: z_t_41 :: z_t_42 :: z_t_43 :: z_t_44 :: z_t_45 :: z_t_46 :: z_t_47 :: z_t_48 :: z_t_49 :: z_t_50 :: z_t_51 :: z_t_52 :: z_t_53 :: z_t_54 :: z_t_55 :: z_t_56 :: z_t_57 :: z_t_58 :: z_t_59 :: z_t_60 :: []))) :: (h_t_has, .inl (k_t_has, 10, .inl x_t_has_L95_15)) :: R) := hD
                    refine lv_iconst (v := 1) hx hb dX12_base_119 (by decide) ?_
                    cases h
                    exact rt_z S hr hlk hP hD hS (by decide) dX12_base_120
                  · have h := br_neg c15 h
                    refine lv_iconst (v := 0) hx hb dX12_base_61 (by decide) ?_
                    cases h
                    exact rt_z S hr hlk hP hD hS (by decide) dX12_base_62
noncomputable def f_X12_sign (t_a : Int32) (t_root : Int32) (l1 : Int64) (l3 : Int64) : Option (Int32) :=
  if ((2 * l1) + (l3 * t_a.toInt64)) = 0 then (
   if l3 = 0 then (
    some 0
   ) else (
    if ((2 * l1) + (l3 * t_a.toInt64)) < 0 then (
     if 0 < ((2 * l1) + (l3 * t_a.toInt64)) then (
      if ((((2 * l1) + (l3 * t_a.toInt64)) * ((2 * l1) + (l3 * t_a.toInt64))) - ((l3 * l3) * t_root.toInt64)) ≤ 0 then (
       if ((2 * l1) + (l3 * t_a.toInt64)) ≤ 0 then (
        some 1
       ) else (
        some (-1)
       )
      ) else (
       if ((2 * l1) + (l3 * t_a.toInt64)) ≤ 0 then (
        some (-1)
       ) else (
        some 1
       )
      )
     ) else (
      if 0 < l3 then (
       if ((((2 * l1) + (l3 * t_a.toInt64)) * ((2 * l1) + (l3 * t_a.toInt64))) - ((l3 * l3) * t_root.toInt64)) ≤ 0 then (
        if ((2 * l1) + (l3 * t_a.toInt64)) ≤ 0 then (
         some 1
        ) else (
         some (-1)
        )
       ) else (
        if ((2 * l1) + (l3 * t_a.toInt64)) ≤ 0 then (
         some (-1)
        ) else (
         some 1
        )
       )
      ) else (
       some (-1)
      )
     )
    ) else (
     if l3 < 0 then (
      if 0 < ((2 * l1) + (l3 * t_a.toInt64)) then (
       if ((((2 * l1) + (l3 * t_a.toInt64)) * ((2 * l1) + (l3 * t_a.toInt64))) - ((l3 * l3) * t_root.toInt64)) ≤ 0 then (
        if ((2 * l1) + (l3 * t_a.toInt64)) ≤ 0 then (
         some 1
        ) else (
         some (-1)
        )
       ) else (
        if ((2 * l1) + (l3 * t_a.toInt64)) ≤ 0 then (
         some (-1)
        ) else (
         some 1
        )
       )
      ) else (
       if 0 < l3 then (
        if ((((2 * l1) + (l3 * t_a.toInt64)) * ((2 * l1) + (l3 * t_a.toInt64))) - ((l3 * l3) * t_root.toInt64)) ≤ 0 then (
         if ((2 * l1) + (l3 * t_a.toInt64)) ≤ 0 then (
          some 1
         ) else (
          some (-1)
         )
        ) else (
         if ((2 * l1) + (l3 * t_a.toInt64)) ≤ 0 then (
          some (-1)
         ) else (
          some 1
         )
        )
       ) else (
        some (-1)
       )
      )
     ) else (
      some 1
     )
    )
   )
  ) else (
   if ((2 * l1) + (l3 * t_a.toInt64)) < 0 then (
    if 0 < ((2 * l1) + (l3 * t_a.toInt64)) then (
     if ((((2 * l1) + (l3 * t_a.toInt64)) * ((2 * l1) + (l3 * t_a.toInt64))) - ((l3 * l3) * t_root.toInt64)) ≤ 0 then (
      if ((2 * l1) + (l3 * t_a.toInt64)) ≤ 0 then (
       some 1
      ) else (
       some (-1)
      )
     ) else (
      if ((2 * l1) + (l3 * t_a.toInt64)) ≤ 0 then (
       some (-1)
      ) else (
       some 1
      )
     )
    ) else (
     if 0 < l3 then (
      if ((((2 * l1) + (l3 * t_a.toInt64)) * ((2 * l1) + (l3 * t_a.toInt64))) - ((l3 * l3) * t_root.toInt64)) ≤ 0 then (
       if ((2 * l1) + (l3 * t_a.toInt64)) ≤ 0 then (
        some 1
       ) else (
        some (-1)
       )
      ) else (
       if ((2 * l1) + (l3 * t_a.toInt64)) ≤ 0 then (
        some (-1)
       ) else (
        some 1
       )
      )
     ) else (
      some (-1)
     )
    )
   ) else (
    if l3 < 0 then (
     if 0 < ((2 * l1) + (l3 * t_a.toInt64)) then (
      if ((((2 * l1) + (l3 * t_a.toInt64)) * ((2 * l1) + (l3 * t_a.toInt64))) - ((l3 * l3) * t_root.toInt64)) ≤ 0 then (
       if ((2 * l1) + (l3 * t_a.toInt64)) ≤ 0 then (
        some 1
       ) else (
        some (-1)
       )
      ) else (
       if ((2 * l1) + (l3 * t_a.toInt64)) ≤ 0 then (
        some (-1)
       ) else (
        some 1
       )
      )
     ) else (
      if 0 < l3 then (
       if ((((2 * l1) + (l3 * t_a.toInt64)) * ((2 * l1) + (l3 * t_a.toInt64))) - ((l3 * l3) * t_root.toInt64)) ≤ 0 then (
        if ((2 * l1) + (l3 * t_a.toInt64)) ≤ 0 then (
         some 1
        ) else (
         some (-1)
        )
       ) else (
        if ((2 * l1) + (l3 * t_a.toInt64)) ≤ 0 then (
         some (-1)
        ) else (
         some 1
        )
       )
      ) else (
       some (-1)
      )
     )
    ) else (
     some 1
    )
   )
  )
set_option maxHeartbeats 4000000 in
set_option maxRecDepth 100000 in
theorem c_X12_sign (l : Launch) (D : va_G) (R : va_W) (h_t : Nat) (z_t_0 : Value) (z_t_1 : Value) (z_t_2 : Value) (t_a : Int32) (z_t_4 : Value) (t_root : Int32) (z_t_6 : Value) (z_t_7 : Value) (z_t_8 : Value) (z_t_9 : Value) (z_t_10 : Value) (z_t_11 : Value) (z_t_12 : Value) (z_t_13 : Value) (z_t_14 : Value) (z_t_15 : Value) (z_t_16 : Value) (z_t_17 : Value) (z_t_18 : Value) (z_t_19 : Value) (z_t_20 : Value) (z_t_21 : Value) (z_t_22 : Value) (z_t_23 : Value) (z_t_24 : Value) (z_t_25 : Value) (z_t_26 : Value) (z_t_27 : Value) (z_t_28 : Value) (z_t_29 : Value) (z_t_30 : Value) (z_t_31 : Value) (z_t_32 : Value) (z_t_33 : Value) (z_t_34 : Value) (z_t_35 : Value) (z_t_36 : Value) (z_t_37 : Value) (z_t_38 : Value) (z_t_39 : Value) (z_t_40 : Value) (z_t_41 : Value) (z_t_42 : Value) (z_t_43 : Value) (z_t_44 : Value) (z_t_45 : Value) (z_t_46 : Value) (z_t_47 : Value) (z_t_48 : Value) (z_t_49 : Value) (z_t_50 : Value) (z_t_51 : Value) (z_t_52 : Value) (z_t_53 : Value) (z_t_54 : Value) (z_t_55 : Value) (z_t_56 : Value) (z_t_57 : Value) (z_t_58 : Value) (z_t_59 : Value) (z_t_60 : Value) (l1 : Int64) (l3 : Int64) (r : Int32)  (h : f_X12_sign t_a t_root l1 l3 = some r) (sz : Nat) : Met l yX12_sign (WD yX12_sign cX12_sign 9 (some .int)) ({ frames := 0, cells := 0, slots := 0, locals := 0 }) (va_Pc [.ref h_t, .long l1, .long l3] (PcW D [] ((h_t, .inr (12, (z_t_0 :: z_t_1 :: z_t_2 :: .int t_a :: z_t_4 :: .int t_root :: z_t_6 :: z_t_7 :: z_t_8 :: z_t_9 :: z_t_10 :: z_t_11 :: z_t_12 :: z_t_13 :: z_t_14 :: z_t_15 :: z_t_16 :: z_t_17 :: z_t_18 :: z_t_19 :: z_t_20 :: z_t_21 :: z_t_22 :: z_t_23 :: z_t_24 :: z_t_25 :: z_t_26 :: z_t_27 :: z_t_28 :: z_t_29 :: z_t_30 :: z_t_31 :: z_t_32 :: z_t_33 :: z_t_34 :: z_t_35 :: z_t_36 :: z_t_37 :: z_t_38 :: z_t_39 :: z_t_40 :: z_t_41 :: z_t_42 :: z_t_43 :: z_t_44 :: z_t_45 :: z_t_46 :: z_t_47 :: z_t_48 :: z_t_49 :: z_t_50 :: z_t_51 :: z_t_52 :: z_t_53 :: z_t_54 :: z_t_55 :: z_t_56 :: z_t_57 :: z_t_58 :: z_t_59 :: z_t_60 :: []))) :: R) sz)) (QI D r ((h_t, .inr (12, (z_t_0 :: z_t_1 :: z_t_2 :: .int t_a :: z_t_4 :: .int t_root :: z_t_6 :: z_t_7 :: z_t_8 :: z_t_9 :: z_t_10 :: z_t_11 :: z_t_12 :: z_t_13 :: z_t_14 :: z_t_15 :: z_t_16 :: z_t_17 :: z_t_18 :: z_t_19 :: z_t_20 :: z_t_21 :: z_t_22 :: z_t_23 :: z_t_24 :: z_t_25 :: z_t_26 :: z_t_27 :: z_t_28 :: z_t_29 :: z_t_30 :: z_t_31 :: z_t_32 :: z_t_33 :: z_t_34 :: z_t_35 :: z_t_36 :: z_t_37 :: z_t_38 :: z_t_39 :: z_t_40 :: z_t_41 :: z_t_42 :: z_t_43 :: z_t_44 :: z_t_45 :: z_t_46 :: z_t_47 :: z_t_48 :: z_t_49 :: z_t_50 :: z_t_51 :: z_t_52 :: z_t_53 :: z_t_54 :: z_t_55 :: z_t_56 :: z_t_57 :: z_t_58 :: z_t_59 :: z_t_60 :: []))) :: R) (va_A ((h_t, .inr (12, (z_t_0 :: z_t_1 :: z_t_2 :: .int t_a :: z_t_4 :: .int t_root :: z_t_6 :: z_t_7 :: z_t_8 :: z_t_9 :: z_t_10 :: z_t_11 :: z_t_12 :: z_t_13 :: z_t_14 :: z_t_15 :: z_t_16 :: z_t_17 :: z_t_18 :: z_t_19 :: z_t_20 :: z_t_21 :: z_t_22 :: z_t_23 :: z_t_24 :: z_t_25 :: z_t_26 :: z_t_27 :: z_t_28 :: z_t_29 :: z_t_30 :: z_t_31 :: z_t_32 :: z_t_33 :: z_t_34 :: z_t_35 :: z_t_36 :: z_t_37 :: z_t_38 :: z_t_39 :: z_t_40 :: z_t_41 :: z_t_42 :: z_t_43 :: z_t_44 :: z_t_45 :: z_t_46 :: z_t_47 :: z_t_48 :: z_t_49 :: z_t_50 :: z_t_51 :: z_t_52 :: z_t_53 :: z_t_54 :: z_t_55 :: z_t_56 :: z_t_57 :: z_t_58 :: z_t_59 :: z_t_60 :: []))) :: R) sz)) 0 0 (va_A ((h_t, .inr (12, (z_t_0 :: z_t_1 :: z_t_2 :: .int t_a :: z_t_4 :: .int t_root :: z_t_6 :: z_t_7 :: z_t_8 :: z_t_9 :: z_t_10 :: z_t_11 :: z_t_12 :: z_t_13 :: z_t_14 :: z_t_15 :: z_t_16 :: z_t_17 :: z_t_18 :: z_t_19 :: z_t_20 :: z_t_21 :: z_t_22 :: z_t_23 :: z_t_24 :: z_t_25 :: z_t_26 :: z_t_27 :: z_t_28 :: z_t_29 :: z_t_30 :: z_t_31 :: z_t_32 :: z_t_33 :: z_t_34 :: z_t_35 :: z_t_36 :: z_t_37 :: z_t_38 :: z_t_39 :: z_t_40 :: z_t_41 :: z_t_42 :: z_t_43 :: z_t_44 :: z_t_45 :: z_t_46 :: z_t_47 :: z_t_48 :: z_t_49 :: z_t_50 :: z_t_51 :: z_t_52 :: z_t_53 :: z_t_54 :: z_t_55 :: z_t_56 :: z_t_57 :: z_t_58 :: z_t_59 :: z_t_60 :: []))) :: R) sz) := by
  refine ct_start (QF := fun A => QI D r ((h_t, .inr (12, (z_t_0 :: z_t_1 :: z_t_2 :: .int t_a :: z_t_4 :: .int t_root :: z_t_6 :: z_t_7 :: z_t_8 :: z_t_9 :: z_t_10 :: z_t_11 :: z_t_12 :: z_t_13 :: z_t_14 :: z_t_15 :: z_t_16 :: z_t_17 :: z_t_18 :: z_t_19 :: z_t_20 :: z_t_21 :: z_t_22 :: z_t_23 :: z_t_24 :: z_t_25 :: z_t_26 :: z_t_27 :: z_t_28 :: z_t_29 :: z_t_30 :: z_t_31 :: z_t_32 :: z_t_33 :: z_t_34 :: z_t_35 :: z_t_36 :: z_t_37 :: z_t_38 :: z_t_39 :: z_t_40 :: z_t_41 :: z_t_42 :: z_t_43 :: z_t_44 :: z_t_45 :: z_t_46 :: z_t_47 :: z_t_48 :: z_t_49 :: z_t_50 :: z_t_51 :: z_t_52 :: z_t_53 :: z_t_54 :: z_t_55 :: z_t_56 :: z_t_57 :: z_t_58 :: z_t_59 :: z_t_60 :: []))) :: R) A) ?_ ?_ ?_
  · decide +kernel
  · exact Nat.le_of_ble_eq_true rfl
  intro p e s m args below meth c A ls S hr hlk hnm hS hA hP hD hK hN hl
  have S : CallFix p m c cX12_sign 9 s args AL "DigitBenchModel" := S
  have hx := S.1
  have hb := S.2.1
  have hown := S.2.2.2.1
  have ha := S.2.2.2.2
  have hl : lv_has ls 9 [(0, .ref h_t), (1, .long l1), (3, .long l3)] := hl
  unfold f_X12_sign at h
  refine lv_ldc2 (v := 2) hx hb hown (ha _ q1226) dX12_sign_0 ?_
  refine lv_lload_n hx hb dX12_sign_3 rfl (lv_at hl 1 rfl) ?_
  refine lv_lmul hx hb dX12_sign_4 ?_
  refine lv_lload_n hx hb dX12_sign_5 rfl (lv_at hl 2 rfl) ?_
  refine lv_aload_n hx hb dX12_sign_6 rfl (lv_at hl 0 rfl) ?_
  refine va_get (D := D) (ci := 12) (v := .int t_a) (C := RX12) (T := TX12) (N := 61) hx hb ha ix12 hown hK hP 0 rfl rfl 3 (by decide) (ha _ q963) (fun _ h9 => h9) rfl dX12_sign_7 ?_
  refine lv_i2l (v := t_a.toInt64) hx hb dX12_sign_10 rfl ?_
  refine lv_lmul hx hb dX12_sign_11 ?_
  refine lv_ladd hx hb dX12_sign_12 ?_
  refine lv_lstore (lv' := [(5, .long ((2 * l1) + (l3 * t_a.toInt64))), (0, .ref h_t), (1, .long l1), (3, .long l3)]) hx hb dX12_sign_13 hl (by decide) rfl (fun ls hl => ?_)
  refine lv_lload hx hb dX12_sign_15 (lv_at hl 0 rfl) ?_
  refine lv_lconst (v := 0) hx hb dX12_sign_17 (by decide) ?_
  refine xl_ne (tgt := 30) hx hb dX12_sign_18 dX12_sign_19 (by decide) (fun c1 => ?_) (fun c1 => ?_)
  · have h := br_neg c1 h
    refine lv_lload hx hb dX12_sign_30 (lv_at hl 0 rfl) ?_
    refine lv_lconst (v := 0) hx hb dX12_sign_32 (by decide) ?_
    refine xl_lt (tgt := 45) hx hb dX12_sign_33 dX12_sign_34 (by decide) (fun c37 => ?_) (fun c37 => ?_)
    · have h := br_pos c37 h
      refine lv_lload hx hb dX12_sign_45 (lv_at hl 0 rfl) ?_
      refine lv_lconst (v := 0) hx hb dX12_sign_47 (by decide) ?_
      refine xl_gt (tgt := 60) hx hb dX12_sign_48 dX12_sign_49 (by decide) (fun c38 => ?_) (fun c38 => ?_)
      · have h := br_pos c38 h
        refine lv_lload hx hb dX12_sign_60 (lv_at hl 0 rfl) ?_
        refine lv_lload hx hb dX12_sign_62 (lv_at hl 0 rfl) ?_
        refine lv_lmul hx hb dX12_sign_64 ?_
        refine lv_lload_n hx hb dX12_sign_65 rfl (lv_at hl 3 rfl) ?_
        refine lv_lload_n hx hb dX12_sign_66 rfl (lv_at hl 3 rfl) ?_
        refine lv_lmul hx hb dX12_sign_67 ?_
        refine lv_aload_n hx hb dX12_sign_68 rfl (lv_at hl 1 rfl) ?_
        refine va_get (D := D) (ci := 12) (v := .int t_root) (C := RX12) (T := TX12) (N := 61) hx hb ha ix12 hown hK hP 0 rfl rfl 5 (by decide) (ha _ q965) (fun _ h9 => h9) rfl dX12_sign_69 ?_
        refine lv_i2l (v := t_root.toInt64) hx hb dX12_sign_72 rfl ?_
        refine lv_lmul hx hb dX12_sign_73 ?_
        refine lv_lsub hx hb dX12_sign_74 ?_
        refine lv_lstore (lv' := [(7, .long ((((2 * l1) + (l3 * t_a.toInt64)) * ((2 * l1) + (l3 * t_a.toInt64))) - ((l3 * l3) * t_root.toInt64))), (5, .long ((2 * l1) + (l3 * t_a.toInt64))), (0, .ref h_t), (1, .long l1), (3, .long l3)]) hx hb dX12_sign_75 hl (by decide) rfl (fun ls hl => ?_)
        refine lv_lload hx hb dX12_sign_77 (lv_at hl 0 rfl) ?_
        refine lv_lconst (v := 0) hx hb dX12_sign_79 (by decide) ?_
        refine xl_le (tgt := 88) hx hb dX12_sign_80 dX12_sign_81 (by decide) (fun c39 => ?_) (fun c39 => ?_)
        · have h := br_pos c39 h
          refine lv_iconst (v := 0) hx hb dX12_sign_88 (by decide) ?_
          refine lv_lload hx hb dX12_sign_89 (lv_at hl 1 rfl) ?_
          refine lv_lconst (v := 0) hx hb dX12_sign_91 (by decide) ?_
          refine xl_le (tgt := 100) hx hb dX12_sign_92 dX12_sign_93 (by decide) (fun c40 => ?_) (fun c40 => ?_)
          · have h := br_pos c40 h
            refine lv_iconst (v := 0) hx hb dX12_sign_100 (by decide) ?_
            refine lv_icmp_ne (tgt := 108) hx hb dX12_sign_101 (by decide) (fun c41 => ?_) (fun c41 => ?_)
            · exact absurd c41 (by decide)
            · refine lv_iconst (v := 1) hx hb dX12_sign_104 (by decide) ?_
              refine lv_goto (tgt := 109) hx hb dX12_sign_105 (by decide) ?_
              cases h
              exact rt_i S hr hlk hP hD hS dX12_sign_109
          · have h := br_neg c40 h
            refine lv_iconst (v := 1) hx hb dX12_sign_96 (by decide) ?_
            refine lv_goto (tgt := 101) hx hb dX12_sign_97 (by decide) ?_
            refine lv_icmp_ne (tgt := 108) hx hb dX12_sign_101 (by decide) (fun c42 => ?_) (fun c42 => ?_)
            · refine lv_iconst (v := (-1)) hx hb dX12_sign_108 (by decide) ?_
              cases h
              exact rt_i S hr hlk hP hD hS dX12_sign_109
            · exact absurd c42 (by decide)
        · have h := br_neg c39 h
          refine lv_iconst (v := 1) hx hb dX12_sign_84 (by decide) ?_
          refine lv_goto (tgt := 89) hx hb dX12_sign_85 (by decide) ?_
          refine lv_lload hx hb dX12_sign_89 (lv_at hl 1 rfl) ?_
          refine lv_lconst (v := 0) hx hb dX12_sign_91 (by decide) ?_
          refine xl_le (tgt := 100) hx hb dX12_sign_92 dX12_sign_93 (by decide) (fun c43 => ?_) (fun c43 => ?_)
          · have h := br_pos c43 h
            refine lv_iconst (v := 0) hx hb dX12_sign_100 (by decide) ?_
            refine lv_icmp_ne (tgt := 108) hx hb dX12_sign_101 (by decide) (fun c44 => ?_) (fun c44 => ?_)
            · refine lv_iconst (v := (-1)) hx hb dX12_sign_108 (by decide) ?_
              cases h
              exact rt_i S hr hlk hP hD hS dX12_sign_109
            · exact absurd c44 (by decide)
          · have h := br_neg c43 h
            refine lv_iconst (v := 1) hx hb dX12_sign_96 (by decide) ?_
            refine lv_goto (tgt := 101) hx hb dX12_sign_97 (by decide) ?_
            refine lv_icmp_ne (tgt := 108) hx hb dX12_sign_101 (by decide) (fun c45 => ?_) (fun c45 => ?_)
            · exact absurd c45 (by decide)
            · refine lv_iconst (v := 1) hx hb dX12_sign_104 (by decide) ?_
              refine lv_goto (tgt := 109) hx hb dX12_sign_105 (by decide) ?_
              cases h
              exact rt_i S hr hlk hP hD hS dX12_sign_109
      · have h := br_neg c38 h
        refine lv_lload_n hx hb dX12_sign_52 rfl (lv_at hl 3 rfl) ?_
        refine lv_lconst (v := 0) hx hb dX12_sign_53 (by decide) ?_
        refine xl_gt (tgt := 60) hx hb dX12_sign_54 dX12_sign_55 (by decide) (fun c46 => ?_) (fun c46 => ?_)
        · have h := br_pos c46 h
          refine lv_lload hx hb dX12_sign_60 (lv_at hl 0 rfl) ?_
          refine lv_lload hx hb dX12_sign_62 (lv_at hl 0 rfl) ?_
          refine lv_lmul hx hb dX12_sign_64 ?_
          refine lv_lload_n hx hb dX12_sign_65 rfl (lv_at hl 3 rfl) ?_
          refine lv_lload_n hx hb dX12_sign_66 rfl (lv_at hl 3 rfl) ?_
          refine lv_lmul hx hb dX12_sign_67 ?_
          refine lv_aload_n hx hb dX12_sign_68 rfl (lv_at hl 1 rfl) ?_
          refine va_get (D := D) (ci := 12) (v := .int t_root) (C := RX12) (T := TX12) (N := 61) hx hb ha ix12 hown hK hP 0 rfl rfl 5 (by decide) (ha _ q965) (fun _ h9 => h9) rfl dX12_sign_69 ?_
          refine lv_i2l (v := t_root.toInt64) hx hb dX12_sign_72 rfl ?_
          refine lv_lmul hx hb dX12_sign_73 ?_
          refine lv_lsub hx hb dX12_sign_74 ?_
          refine lv_lstore (lv' := [(7, .long ((((2 * l1) + (l3 * t_a.toInt64)) * ((2 * l1) + (l3 * t_a.toInt64))) - ((l3 * l3) * t_root.toInt64))), (5, .long ((2 * l1) + (l3 * t_a.toInt64))), (0, .ref h_t), (1, .long l1), (3, .long l3)]) hx hb dX12_sign_75 hl (by decide) rfl (fun ls hl => ?_)
          refine lv_lload hx hb dX12_sign_77 (lv_at hl 0 rfl) ?_
          refine lv_lconst (v := 0) hx hb dX12_sign_79 (by decide) ?_
          refine xl_le (tgt := 88) hx hb dX12_sign_80 dX12_sign_81 (by decide) (fun c47 => ?_) (fun c47 => ?_)
          · have h := br_pos c47 h
            refine lv_iconst (v := 0) hx hb dX12_sign_88 (by decide) ?_
            refine lv_lload hx hb dX12_sign_89 (lv_at hl 1 rfl) ?_
            refine lv_lconst (v := 0) hx hb dX12_sign_91 (by decide) ?_
            refine xl_le (tgt := 100) hx hb dX12_sign_92 dX12_sign_93 (by decide) (fun c48 => ?_) (fun c48 => ?_)
            · have h := br_pos c48 h
              refine lv_iconst (v := 0) hx hb dX12_sign_100 (by decide) ?_
              refine lv_icmp_ne (tgt := 108) hx hb dX12_sign_101 (by decide) (fun c49 => ?_) (fun c49 => ?_)
              · exact absurd c49 (by decide)
              · refine lv_iconst (v := 1) hx hb dX12_sign_104 (by decide) ?_
                refine lv_goto (tgt := 109) hx hb dX12_sign_105 (by decide) ?_
                cases h
                exact rt_i S hr hlk hP hD hS dX12_sign_109
            · have h := br_neg c48 h
              refine lv_iconst (v := 1) hx hb dX12_sign_96 (by decide) ?_
              refine lv_goto (tgt := 101) hx hb dX12_sign_97 (by decide) ?_
              refine lv_icmp_ne (tgt := 108) hx hb dX12_sign_101 (by decide) (fun c50 => ?_) (fun c50 => ?_)
              · refine lv_iconst (v := (-1)) hx hb dX12_sign_108 (by decide) ?_
                cases h
                exact rt_i S hr hlk hP hD hS dX12_sign_109
              · exact absurd c50 (by decide)
          · have h := br_neg c47 h
            refine lv_iconst (v := 1) hx hb dX12_sign_84 (by decide) ?_
            refine lv_goto (tgt := 89) hx hb dX12_sign_85 (by decide) ?_
            refine lv_lload hx hb dX12_sign_89 (lv_at hl 1 rfl) ?_
            refine lv_lconst (v := 0) hx hb dX12_sign_91 (by decide) ?_
            refine xl_le (tgt := 100) hx hb dX12_sign_92 dX12_sign_93 (by decide) (fun c51 => ?_) (fun c51 => ?_)
            · have h := br_pos c51 h
              refine lv_iconst (v := 0) hx hb dX12_sign_100 (by decide) ?_
              refine lv_icmp_ne (tgt := 108) hx hb dX12_sign_101 (by decide) (fun c52 => ?_) (fun c52 => ?_)
              · refine lv_iconst (v := (-1)) hx hb dX12_sign_108 (by decide) ?_
                cases h
                exact rt_i S hr hlk hP hD hS dX12_sign_109
              · exact absurd c52 (by decide)
            · have h := br_neg c51 h
              refine lv_iconst (v := 1) hx hb dX12_sign_96 (by decide) ?_
              refine lv_goto (tgt := 101) hx hb dX12_sign_97 (by decide) ?_
              refine lv_icmp_ne (tgt := 108) hx hb dX12_sign_101 (by decide) (fun c53 => ?_) (fun c53 => ?_)
              · exact absurd c53 (by decide)
              · refine lv_iconst (v := 1) hx hb dX12_sign_104 (by decide) ?_
                refine lv_goto (tgt := 109) hx hb dX12_sign_105 (by decide) ?_
                cases h
                exact rt_i S hr hlk hP hD hS dX12_sign_109
        · have h := br_neg c46 h
          refine lv_iconst (v := (-1)) hx hb dX12_sign_58 (by decide) ?_
          cases h
          exact rt_i S hr hlk hP hD hS dX12_sign_59
    · have h := br_neg c37 h
      refine lv_lload_n hx hb dX12_sign_37 rfl (lv_at hl 3 rfl) ?_
      refine lv_lconst (v := 0) hx hb dX12_sign_38 (by decide) ?_
      refine xl_lt (tgt := 45) hx hb dX12_sign_39 dX12_sign_40 (by decide) (fun c54 => ?_) (fun c54 => ?_)
      · have h := br_pos c54 h
        refine lv_lload hx hb dX12_sign_45 (lv_at hl 0 rfl) ?_
        refine lv_lconst (v := 0) hx hb dX12_sign_47 (by decide) ?_
        refine xl_gt (tgt := 60) hx hb dX12_sign_48 dX12_sign_49 (by decide) (fun c55 => ?_) (fun c55 => ?_)
        · have h := br_pos c55 h
          refine lv_lload hx hb dX12_sign_60 (lv_at hl 0 rfl) ?_
          refine lv_lload hx hb dX12_sign_62 (lv_at hl 0 rfl) ?_
          refine lv_lmul hx hb dX12_sign_64 ?_
          refine lv_lload_n hx hb dX12_sign_65 rfl (lv_at hl 3 rfl) ?_
          refine lv_lload_n hx hb dX12_sign_66 rfl (lv_at hl 3 rfl) ?_
          refine lv_lmul hx hb dX12_sign_67 ?_
          refine lv_aload_n hx hb dX12_sign_68 rfl (lv_at hl 1 rfl) ?_
          refine va_get (D := D) (ci := 12) (v := .int t_root) (C := RX12) (T := TX12) (N := 61) hx hb ha ix12 hown hK hP 0 rfl rfl 5 (by decide) (ha _ q965) (fun _ h9 => h9) rfl dX12_sign_69 ?_
          refine lv_i2l (v := t_root.toInt64) hx hb dX12_sign_72 rfl ?_
          refine lv_lmul hx hb dX12_sign_73 ?_
          refine lv_lsub hx hb dX12_sign_74 ?_
          refine lv_lstore (lv' := [(7, .long ((((2 * l1) + (l3 * t_a.toInt64)) * ((2 * l1) + (l3 * t_a.toInt64))) - ((l3 * l3) * t_root.toInt64))), (5, .long ((2 * l1) + (l3 * t_a.toInt64))), (0, .ref h_t), (1, .long l1), (3, .long l3)]) hx hb dX12_sign_75 hl (by decide) rfl (fun ls hl => ?_)
          refine lv_lload hx hb dX12_sign_77 (lv_at hl 0 rfl) ?_
          refine lv_lconst (v := 0) hx hb dX12_sign_79 (by decide) ?_
          refine xl_le (tgt := 88) hx hb dX12_sign_80 dX12_sign_81 (by decide) (fun c56 => ?_) (fun c56 => ?_)
          · have h := br_pos c56 h
            refine lv_iconst (v := 0) hx hb dX12_sign_88 (by decide) ?_
            refine lv_lload hx hb dX12_sign_89 (lv_at hl 1 rfl) ?_
            refine lv_lconst (v := 0) hx hb dX12_sign_91 (by decide) ?_
            refine xl_le (tgt := 100) hx hb dX12_sign_92 dX12_sign_93 (by decide) (fun c57 => ?_) (fun c57 => ?_)
            · have h := br_pos c57 h
              refine lv_iconst (v := 0) hx hb dX12_sign_100 (by decide) ?_
              refine lv_icmp_ne (tgt := 108) hx hb dX12_sign_101 (by decide) (fun c58 => ?_) (fun c58 => ?_)
              · exact absurd c58 (by decide)
              · refine lv_iconst (v := 1) hx hb dX12_sign_104 (by decide) ?_
                refine lv_goto (tgt := 109) hx hb dX12_sign_105 (by decide) ?_
                cases h
                exact rt_i S hr hlk hP hD hS dX12_sign_109
            · have h := br_neg c57 h
              refine lv_iconst (v := 1) hx hb dX12_sign_96 (by decide) ?_
              refine lv_goto (tgt := 101) hx hb dX12_sign_97 (by decide) ?_
              refine lv_icmp_ne (tgt := 108) hx hb dX12_sign_101 (by decide) (fun c59 => ?_) (fun c59 => ?_)
              · refine lv_iconst (v := (-1)) hx hb dX12_sign_108 (by decide) ?_
                cases h
                exact rt_i S hr hlk hP hD hS dX12_sign_109
              · exact absurd c59 (by decide)
          · have h := br_neg c56 h
            refine lv_iconst (v := 1) hx hb dX12_sign_84 (by decide) ?_
            refine lv_goto (tgt := 89) hx hb dX12_sign_85 (by decide) ?_
            refine lv_lload hx hb dX12_sign_89 (lv_at hl 1 rfl) ?_
            refine lv_lconst (v := 0) hx hb dX12_sign_91 (by decide) ?_
            refine xl_le (tgt := 100) hx hb dX12_sign_92 dX12_sign_93 (by decide) (fun c60 => ?_) (fun c60 => ?_)
            · have h := br_pos c60 h
              refine lv_iconst (v := 0) hx hb dX12_sign_100 (by decide) ?_
              refine lv_icmp_ne (tgt := 108) hx hb dX12_sign_101 (by decide) (fun c61 => ?_) (fun c61 => ?_)
              · refine lv_iconst (v := (-1)) hx hb dX12_sign_108 (by decide) ?_
                cases h
                exact rt_i S hr hlk hP hD hS dX12_sign_109
              · exact absurd c61 (by decide)
            · have h := br_neg c60 h
              refine lv_iconst (v := 1) hx hb dX12_sign_96 (by decide) ?_
              refine lv_goto (tgt := 101) hx hb dX12_sign_97 (by decide) ?_
              refine lv_icmp_ne (tgt := 108) hx hb dX12_sign_101 (by decide) (fun c62 => ?_) (fun c62 => ?_)
              · exact absurd c62 (by decide)
              · refine lv_iconst (v := 1) hx hb dX12_sign_104 (by decide) ?_
                refine lv_goto (tgt := 109) hx hb dX12_sign_105 (by decide) ?_
                cases h
                exact rt_i S hr hlk hP hD hS dX12_sign_109
        · have h := br_neg c55 h
          refine lv_lload_n hx hb dX12_sign_52 rfl (lv_at hl 3 rfl) ?_
          refine lv_lconst (v := 0) hx hb dX12_sign_53 (by decide) ?_
          refine xl_gt (tgt := 60) hx hb dX12_sign_54 dX12_sign_55 (by decide) (fun c63 => ?_) (fun c63 => ?_)
          · have h := br_pos c63 h
            refine lv_lload hx hb dX12_sign_60 (lv_at hl 0 rfl) ?_
            refine lv_lload hx hb dX12_sign_62 (lv_at hl 0 rfl) ?_
            refine lv_lmul hx hb dX12_sign_64 ?_
            refine lv_lload_n hx hb dX12_sign_65 rfl (lv_at hl 3 rfl) ?_
            refine lv_lload_n hx hb dX12_sign_66 rfl (lv_at hl 3 rfl) ?_
            refine lv_lmul hx hb dX12_sign_67 ?_
            refine lv_aload_n hx hb dX12_sign_68 rfl (lv_at hl 1 rfl) ?_
            refine va_get (D := D) (ci := 12) (v := .int t_root) (C := RX12) (T := TX12) (N := 61) hx hb ha ix12 hown hK hP 0 rfl rfl 5 (by decide) (ha _ q965) (fun _ h9 => h9) rfl dX12_sign_69 ?_
            refine lv_i2l (v := t_root.toInt64) hx hb dX12_sign_72 rfl ?_
            refine lv_lmul hx hb dX12_sign_73 ?_
            refine lv_lsub hx hb dX12_sign_74 ?_
            refine lv_lstore (lv' := [(7, .long ((((2 * l1) + (l3 * t_a.toInt64)) * ((2 * l1) + (l3 * t_a.toInt64))) - ((l3 * l3) * t_root.toInt64))), (5, .long ((2 * l1) + (l3 * t_a.toInt64))), (0, .ref h_t), (1, .long l1), (3, .long l3)]) hx hb dX12_sign_75 hl (by decide) rfl (fun ls hl => ?_)
            refine lv_lload hx hb dX12_sign_77 (lv_at hl 0 rfl) ?_
            refine lv_lconst (v := 0) hx hb dX12_sign_79 (by decide) ?_
            refine xl_le (tgt := 88) hx hb dX12_sign_80 dX12_sign_81 (by decide) (fun c64 => ?_) (fun c64 => ?_)
            · have h := br_pos c64 h
              refine lv_iconst (v := 0) hx hb dX12_sign_88 (by decide) ?_
              refine lv_lload hx hb dX12_sign_89 (lv_at hl 1 rfl) ?_
              refine lv_lconst (v := 0) hx hb dX12_sign_91 (by decide) ?_
              refine xl_le (tgt := 100) hx hb dX12_sign_92 dX12_sign_93 (by decide) (fun c65 => ?_) (fun c65 => ?_)
              · have h := br_pos c65 h
                refine lv_iconst (v := 0) hx hb dX12_sign_100 (by decide) ?_
                refine lv_icmp_ne (tgt := 108) hx hb dX12_sign_101 (by decide) (fun c66 => ?_) (fun c66 => ?_)
                · exact absurd c66 (by decide)
                · refine lv_iconst (v := 1) hx hb dX12_sign_104 (by decide) ?_
                  refine lv_goto (tgt := 109) hx hb dX12_sign_105 (by decide) ?_
                  cases h
                  exact rt_i S hr hlk hP hD hS dX12_sign_109
              · have h := br_neg c65 h
                refine lv_iconst (v := 1) hx hb dX12_sign_96 (by decide) ?_
                refine lv_goto (tgt := 101) hx hb dX12_sign_97 (by decide) ?_
                refine lv_icmp_ne (tgt := 108) hx hb dX12_sign_101 (by decide) (fun c67 => ?_) (fun c67 => ?_)
                · refine lv_iconst (v := (-1)) hx hb dX12_sign_108 (by decide) ?_
                  cases h
                  exact rt_i S hr hlk hP hD hS dX12_sign_109
                · exact absurd c67 (by decide)
            · have h := br_neg c64 h
              refine lv_iconst (v := 1) hx hb dX12_sign_84 (by decide) ?_
              refine lv_goto (tgt := 89) hx hb dX12_sign_85 (by decide) ?_
              refine lv_lload hx hb dX12_sign_89 (lv_at hl 1 rfl) ?_
              refine lv_lconst (v := 0) hx hb dX12_sign_91 (by decide) ?_
              refine xl_le (tgt := 100) hx hb dX12_sign_92 dX12_sign_93 (by decide) (fun c68 => ?_) (fun c68 => ?_)
              · have h := br_pos c68 h
                refine lv_iconst (v := 0) hx hb dX12_sign_100 (by decide) ?_
                refine lv_icmp_ne (tgt := 108) hx hb dX12_sign_101 (by decide) (fun c69 => ?_) (fun c69 => ?_)
                · refine lv_iconst (v := (-1)) hx hb dX12_sign_108 (by decide) ?_
                  cases h
                  exact rt_i S hr hlk hP hD hS dX12_sign_109
                · exact absurd c69 (by decide)
              · have h := br_neg c68 h
                refine lv_iconst (v := 1) hx hb dX12_sign_96 (by decide) ?_
                refine lv_goto (tgt := 101) hx hb dX12_sign_97 (by decide) ?_
                refine lv_icmp_ne (tgt := 108) hx hb dX12_sign_101 (by decide) (fun c70 => ?_) (fun c70 => ?_)
                · exact absurd c70 (by decide)
                · refine lv_iconst (v := 1) hx hb dX12_sign_104 (by decide) ?_
                  refine lv_goto (tgt := 109) hx hb dX12_sign_105 (by decide) ?_
                  cases h
                  exact rt_i S hr hlk hP hD hS dX12_sign_109
          · have h := br_neg c63 h
            refine lv_iconst (v := (-1)) hx hb dX12_sign_58 (by decide) ?_
            cases h
            exact rt_i S hr hlk hP hD hS dX12_sign_59
      · have h := br_neg c54 h
        refine lv_iconst (v := 1) hx hb dX12_sign_43 (by decide) ?_
        cases h
        exact rt_i S hr hlk hP hD hS dX12_sign_44
  · have h := br_pos c1 h
    refine lv_lload_n hx hb dX12_sign_22 rfl (lv_at hl 3 rfl) ?_
    refine lv_lconst (v := 0) hx hb dX12_sign_23 (by decide) ?_
    refine xl_ne (tgt := 30) hx hb dX12_sign_24 dX12_sign_25 (by decide) (fun c2 => ?_) (fun c2 => ?_)
    · have h := br_neg c2 h
      refine lv_lload hx hb dX12_sign_30 (lv_at hl 0 rfl) ?_
      refine lv_lconst (v := 0) hx hb dX12_sign_32 (by decide) ?_
      refine xl_lt (tgt := 45) hx hb dX12_sign_33 dX12_sign_34 (by decide) (fun c3 => ?_) (fun c3 => ?_)
      · have h := br_pos c3 h
        refine lv_lload hx hb dX12_sign_45 (lv_at hl 0 rfl) ?_
        refine lv_lconst (v := 0) hx hb dX12_sign_47 (by decide) ?_
        refine xl_gt (tgt := 60) hx hb dX12_sign_48 dX12_sign_49 (by decide) (fun c4 => ?_) (fun c4 => ?_)
        · have h := br_pos c4 h
          refine lv_lload hx hb dX12_sign_60 (lv_at hl 0 rfl) ?_
          refine lv_lload hx hb dX12_sign_62 (lv_at hl 0 rfl) ?_
          refine lv_lmul hx hb dX12_sign_64 ?_
          refine lv_lload_n hx hb dX12_sign_65 rfl (lv_at hl 3 rfl) ?_
          refine lv_lload_n hx hb dX12_sign_66 rfl (lv_at hl 3 rfl) ?_
          refine lv_lmul hx hb dX12_sign_67 ?_
          refine lv_aload_n hx hb dX12_sign_68 rfl (lv_at hl 1 rfl) ?_
          refine va_get (D := D) (ci := 12) (v := .int t_root) (C := RX12) (T := TX12) (N := 61) hx hb ha ix12 hown hK hP 0 rfl rfl 5 (by decide) (ha _ q965) (fun _ h9 => h9) rfl dX12_sign_69 ?_
          refine lv_i2l (v := t_root.toInt64) hx hb dX12_sign_72 rfl ?_
          refine lv_lmul hx hb dX12_sign_73 ?_
          refine lv_lsub hx hb dX12_sign_74 ?_
          refine lv_lstore (lv' := [(7, .long ((((2 * l1) + (l3 * t_a.toInt64)) * ((2 * l1) + (l3 * t_a.toInt64))) - ((l3 * l3) * t_root.toInt64))), (5, .long ((2 * l1) + (l3 * t_a.toInt64))), (0, .ref h_t), (1, .long l1), (3, .long l3)]) hx hb dX12_sign_75 hl (by decide) rfl (fun ls hl => ?_)
          refine lv_lload hx hb dX12_sign_77 (lv_at hl 0 rfl) ?_
          refine lv_lconst (v := 0) hx hb dX12_sign_79 (by decide) ?_
          refine xl_le (tgt := 88) hx hb dX12_sign_80 dX12_sign_81 (by decide) (fun c5 => ?_) (fun c5 => ?_)
          · have h := br_pos c5 h
            refine lv_iconst (v := 0) hx hb dX12_sign_88 (by decide) ?_
            refine lv_lload hx hb dX12_sign_89 (lv_at hl 1 rfl) ?_
            refine lv_lconst (v := 0) hx hb dX12_sign_91 (by decide) ?_
            refine xl_le (tgt := 100) hx hb dX12_sign_92 dX12_sign_93 (by decide) (fun c6 => ?_) (fun c6 => ?_)
            · have h := br_pos c6 h
              refine lv_iconst (v := 0) hx hb dX12_sign_100 (by decide) ?_
              refine lv_icmp_ne (tgt := 108) hx hb dX12_sign_101 (by decide) (fun c7 => ?_) (fun c7 => ?_)
              · exact absurd c7 (by decide)
              · refine lv_iconst (v := 1) hx hb dX12_sign_104 (by decide) ?_
                refine lv_goto (tgt := 109) hx hb dX12_sign_105 (by decide) ?_
                cases h
                exact rt_i S hr hlk hP hD hS dX12_sign_109
            · have h := br_neg c6 h
              refine lv_iconst (v := 1) hx hb dX12_sign_96 (by decide) ?_
              refine lv_goto (tgt := 101) hx hb dX12_sign_97 (by decide) ?_
              refine lv_icmp_ne (tgt := 108) hx hb dX12_sign_101 (by decide) (fun c8 => ?_) (fun c8 => ?_)
              · refine lv_iconst (v := (-1)) hx hb dX12_sign_108 (by decide) ?_
                cases h
                exact rt_i S hr hlk hP hD hS dX12_sign_109
              · exact absurd c8 (by decide)
          · have h := br_neg c5 h
            refine lv_iconst (v := 1) hx hb dX12_sign_84 (by decide) ?_
            refine lv_goto (tgt := 89) hx hb dX12_sign_85 (by decide) ?_
            refine lv_lload hx hb dX12_sign_89 (lv_at hl 1 rfl) ?_
            refine lv_lconst (v := 0) hx hb dX12_sign_91 (by decide) ?_
            refine xl_le (tgt := 100) hx hb dX12_sign_92 dX12_sign_93 (by decide) (fun c9 => ?_) (fun c9 => ?_)
            · have h := br_pos c9 h
              refine lv_iconst (v := 0) hx hb dX12_sign_100 (by decide) ?_
              refine lv_icmp_ne (tgt := 108) hx hb dX12_sign_101 (by decide) (fun c10 => ?_) (fun c10 => ?_)
              · refine lv_iconst (v := (-1)) hx hb dX12_sign_108 (by decide) ?_
                cases h
                exact rt_i S hr hlk hP hD hS dX12_sign_109
              · exact absurd c10 (by decide)
            · have h := br_neg c9 h
              refine lv_iconst (v := 1) hx hb dX12_sign_96 (by decide) ?_
              refine lv_goto (tgt := 101) hx hb dX12_sign_97 (by decide) ?_
              refine lv_icmp_ne (tgt := 108) hx hb dX12_sign_101 (by decide) (fun c11 => ?_) (fun c11 => ?_)
              · exact absurd c11 (by decide)
              · refine lv_iconst (v := 1) hx hb dX12_sign_104 (by decide) ?_
                refine lv_goto (tgt := 109) hx hb dX12_sign_105 (by decide) ?_
                cases h
                exact rt_i S hr hlk hP hD hS dX12_sign_109
        · have h := br_neg c4 h
          refine lv_lload_n hx hb dX12_sign_52 rfl (lv_at hl 3 rfl) ?_
          refine lv_lconst (v := 0) hx hb dX12_sign_53 (by decide) ?_
          refine xl_gt (tgt := 60) hx hb dX12_sign_54 dX12_sign_55 (by decide) (fun c12 => ?_) (fun c12 => ?_)
          · have h := br_pos c12 h
            refine lv_lload hx hb dX12_sign_60 (lv_at hl 0 rfl) ?_
            refine lv_lload hx hb dX12_sign_62 (lv_at hl 0 rfl) ?_
            refine lv_lmul hx hb dX12_sign_64 ?_
            refine lv_lload_n hx hb dX12_sign_65 rfl (lv_at hl 3 rfl) ?_
            refine lv_lload_n hx hb dX12_sign_66 rfl (lv_at hl 3 rfl) ?_
            refine lv_lmul hx hb dX12_sign_67 ?_
            refine lv_aload_n hx hb dX12_sign_68 rfl (lv_at hl 1 rfl) ?_
            refine va_get (D := D) (ci := 12) (v := .int t_root) (C := RX12) (T := TX12) (N := 61) hx hb ha ix12 hown hK hP 0 rfl rfl 5 (by decide) (ha _ q965) (fun _ h9 => h9) rfl dX12_sign_69 ?_
            refine lv_i2l (v := t_root.toInt64) hx hb dX12_sign_72 rfl ?_
            refine lv_lmul hx hb dX12_sign_73 ?_
            refine lv_lsub hx hb dX12_sign_74 ?_
            refine lv_lstore (lv' := [(7, .long ((((2 * l1) + (l3 * t_a.toInt64)) * ((2 * l1) + (l3 * t_a.toInt64))) - ((l3 * l3) * t_root.toInt64))), (5, .long ((2 * l1) + (l3 * t_a.toInt64))), (0, .ref h_t), (1, .long l1), (3, .long l3)]) hx hb dX12_sign_75 hl (by decide) rfl (fun ls hl => ?_)
            refine lv_lload hx hb dX12_sign_77 (lv_at hl 0 rfl) ?_
            refine lv_lconst (v := 0) hx hb dX12_sign_79 (by decide) ?_
            refine xl_le (tgt := 88) hx hb dX12_sign_80 dX12_sign_81 (by decide) (fun c13 => ?_) (fun c13 => ?_)
            · have h := br_pos c13 h
              refine lv_iconst (v := 0) hx hb dX12_sign_88 (by decide) ?_
              refine lv_lload hx hb dX12_sign_89 (lv_at hl 1 rfl) ?_
              refine lv_lconst (v := 0) hx hb dX12_sign_91 (by decide) ?_
              refine xl_le (tgt := 100) hx hb dX12_sign_92 dX12_sign_93 (by decide) (fun c14 => ?_) (fun c14 => ?_)
              · have h := br_pos c14 h
                refine lv_iconst (v := 0) hx hb dX12_sign_100 (by decide) ?_
                refine lv_icmp_ne (tgt := 108) hx hb dX12_sign_101 (by decide) (fun c15 => ?_) (fun c15 => ?_)
                · exact absurd c15 (by decide)
                · refine lv_iconst (v := 1) hx hb dX12_sign_104 (by decide) ?_
                  refine lv_goto (tgt := 109) hx hb dX12_sign_105 (by decide) ?_
                  cases h
                  exact rt_i S hr hlk hP hD hS dX12_sign_109
              · have h := br_neg c14 h
                refine lv_iconst (v := 1) hx hb dX12_sign_96 (by decide) ?_
                refine lv_goto (tgt := 101) hx hb dX12_sign_97 (by decide) ?_
                refine lv_icmp_ne (tgt := 108) hx hb dX12_sign_101 (by decide) (fun c16 => ?_) (fun c16 => ?_)
                · refine lv_iconst (v := (-1)) hx hb dX12_sign_108 (by decide) ?_
                  cases h
                  exact rt_i S hr hlk hP hD hS dX12_sign_109
                · exact absurd c16 (by decide)
            · have h := br_neg c13 h
              refine lv_iconst (v := 1) hx hb dX12_sign_84 (by decide) ?_
              refine lv_goto (tgt := 89) hx hb dX12_sign_85 (by decide) ?_
              refine lv_lload hx hb dX12_sign_89 (lv_at hl 1 rfl) ?_
              refine lv_lconst (v := 0) hx hb dX12_sign_91 (by decide) ?_
              refine xl_le (tgt := 100) hx hb dX12_sign_92 dX12_sign_93 (by decide) (fun c17 => ?_) (fun c17 => ?_)
              · have h := br_pos c17 h
                refine lv_iconst (v := 0) hx hb dX12_sign_100 (by decide) ?_
                refine lv_icmp_ne (tgt := 108) hx hb dX12_sign_101 (by decide) (fun c18 => ?_) (fun c18 => ?_)
                · refine lv_iconst (v := (-1)) hx hb dX12_sign_108 (by decide) ?_
                  cases h
                  exact rt_i S hr hlk hP hD hS dX12_sign_109
                · exact absurd c18 (by decide)
              · have h := br_neg c17 h
                refine lv_iconst (v := 1) hx hb dX12_sign_96 (by decide) ?_
                refine lv_goto (tgt := 101) hx hb dX12_sign_97 (by decide) ?_
                refine lv_icmp_ne (tgt := 108) hx hb dX12_sign_101 (by decide) (fun c19 => ?_) (fun c19 => ?_)
                · exact absurd c19 (by decide)
                · refine lv_iconst (v := 1) hx hb dX12_sign_104 (by decide) ?_
                  refine lv_goto (tgt := 109) hx hb dX12_sign_105 (by decide) ?_
                  cases h
                  exact rt_i S hr hlk hP hD hS dX12_sign_109
          · have h := br_neg c12 h
            refine lv_iconst (v := (-1)) hx hb dX12_sign_58 (by decide) ?_
            cases h
            exact rt_i S hr hlk hP hD hS dX12_sign_59
      · have h := br_neg c3 h
        refine lv_lload_n hx hb dX12_sign_37 rfl (lv_at hl 3 rfl) ?_
        refine lv_lconst (v := 0) hx hb dX12_sign_38 (by decide) ?_
        refine xl_lt (tgt := 45) hx hb dX12_sign_39 dX12_sign_40 (by decide) (fun c20 => ?_) (fun c20 => ?_)
        · have h := br_pos c20 h
          refine lv_lload hx hb dX12_sign_45 (lv_at hl 0 rfl) ?_
          refine lv_lconst (v := 0) hx hb dX12_sign_47 (by decide) ?_
          refine xl_gt (tgt := 60) hx hb dX12_sign_48 dX12_sign_49 (by decide) (fun c21 => ?_) (fun c21 => ?_)
          · have h := br_pos c21 h
            refine lv_lload hx hb dX12_sign_60 (lv_at hl 0 rfl) ?_
            refine lv_lload hx hb dX12_sign_62 (lv_at hl 0 rfl) ?_
            refine lv_lmul hx hb dX12_sign_64 ?_
            refine lv_lload_n hx hb dX12_sign_65 rfl (lv_at hl 3 rfl) ?_
            refine lv_lload_n hx hb dX12_sign_66 rfl (lv_at hl 3 rfl) ?_
            refine lv_lmul hx hb dX12_sign_67 ?_
            refine lv_aload_n hx hb dX12_sign_68 rfl (lv_at hl 1 rfl) ?_
            refine va_get (D := D) (ci := 12) (v := .int t_root) (C := RX12) (T := TX12) (N := 61) hx hb ha ix12 hown hK hP 0 rfl rfl 5 (by decide) (ha _ q965) (fun _ h9 => h9) rfl dX12_sign_69 ?_
            refine lv_i2l (v := t_root.toInt64) hx hb dX12_sign_72 rfl ?_
            refine lv_lmul hx hb dX12_sign_73 ?_
            refine lv_lsub hx hb dX12_sign_74 ?_
            refine lv_lstore (lv' := [(7, .long ((((2 * l1) + (l3 * t_a.toInt64)) * ((2 * l1) + (l3 * t_a.toInt64))) - ((l3 * l3) * t_root.toInt64))), (5, .long ((2 * l1) + (l3 * t_a.toInt64))), (0, .ref h_t), (1, .long l1), (3, .long l3)]) hx hb dX12_sign_75 hl (by decide) rfl (fun ls hl => ?_)
            refine lv_lload hx hb dX12_sign_77 (lv_at hl 0 rfl) ?_
            refine lv_lconst (v := 0) hx hb dX12_sign_79 (by decide) ?_
            refine xl_le (tgt := 88) hx hb dX12_sign_80 dX12_sign_81 (by decide) (fun c22 => ?_) (fun c22 => ?_)
            · have h := br_pos c22 h
              refine lv_iconst (v := 0) hx hb dX12_sign_88 (by decide) ?_
              refine lv_lload hx hb dX12_sign_89 (lv_at hl 1 rfl) ?_
              refine lv_lconst (v := 0) hx hb dX12_sign_91 (by decide) ?_
              refine xl_le (tgt := 100) hx hb dX12_sign_92 dX12_sign_93 (by decide) (fun c23 => ?_) (fun c23 => ?_)
              · have h := br_pos c23 h
                refine lv_iconst (v := 0) hx hb dX12_sign_100 (by decide) ?_
                refine lv_icmp_ne (tgt := 108) hx hb dX12_sign_101 (by decide) (fun c24 => ?_) (fun c24 => ?_)
                · exact absurd c24 (by decide)
                · refine lv_iconst (v := 1) hx hb dX12_sign_104 (by decide) ?_
                  refine lv_goto (tgt := 109) hx hb dX12_sign_105 (by decide) ?_
                  cases h
                  exact rt_i S hr hlk hP hD hS dX12_sign_109
              · have h := br_neg c23 h
                refine lv_iconst (v := 1) hx hb dX12_sign_96 (by decide) ?_
                refine lv_goto (tgt := 101) hx hb dX12_sign_97 (by decide) ?_
                refine lv_icmp_ne (tgt := 108) hx hb dX12_sign_101 (by decide) (fun c25 => ?_) (fun c25 => ?_)
                · refine lv_iconst (v := (-1)) hx hb dX12_sign_108 (by decide) ?_
                  cases h
                  exact rt_i S hr hlk hP hD hS dX12_sign_109
                · exact absurd c25 (by decide)
            · have h := br_neg c22 h
              refine lv_iconst (v := 1) hx hb dX12_sign_84 (by decide) ?_
              refine lv_goto (tgt := 89) hx hb dX12_sign_85 (by decide) ?_
              refine lv_lload hx hb dX12_sign_89 (lv_at hl 1 rfl) ?_
              refine lv_lconst (v := 0) hx hb dX12_sign_91 (by decide) ?_
              refine xl_le (tgt := 100) hx hb dX12_sign_92 dX12_sign_93 (by decide) (fun c26 => ?_) (fun c26 => ?_)
              · have h := br_pos c26 h
                refine lv_iconst (v := 0) hx hb dX12_sign_100 (by decide) ?_
                refine lv_icmp_ne (tgt := 108) hx hb dX12_sign_101 (by decide) (fun c27 => ?_) (fun c27 => ?_)
                · refine lv_iconst (v := (-1)) hx hb dX12_sign_108 (by decide) ?_
                  cases h
                  exact rt_i S hr hlk hP hD hS dX12_sign_109
                · exact absurd c27 (by decide)
              · have h := br_neg c26 h
                refine lv_iconst (v := 1) hx hb dX12_sign_96 (by decide) ?_
                refine lv_goto (tgt := 101) hx hb dX12_sign_97 (by decide) ?_
                refine lv_icmp_ne (tgt := 108) hx hb dX12_sign_101 (by decide) (fun c28 => ?_) (fun c28 => ?_)
                · exact absurd c28 (by decide)
                · refine lv_iconst (v := 1) hx hb dX12_sign_104 (by decide) ?_
                  refine lv_goto (tgt := 109) hx hb dX12_sign_105 (by decide) ?_
                  cases h
                  exact rt_i S hr hlk hP hD hS dX12_sign_109
          · have h := br_neg c21 h
            refine lv_lload_n hx hb dX12_sign_52 rfl (lv_at hl 3 rfl) ?_
            refine lv_lconst (v := 0) hx hb dX12_sign_53 (by decide) ?_
            refine xl_gt (tgt := 60) hx hb dX12_sign_54 dX12_sign_55 (by decide) (fun c29 => ?_) (fun c29 => ?_)
            · have h := br_pos c29 h
              refine lv_lload hx hb dX12_sign_60 (lv_at hl 0 rfl) ?_
              refine lv_lload hx hb dX12_sign_62 (lv_at hl 0 rfl) ?_
              refine lv_lmul hx hb dX12_sign_64 ?_
              refine lv_lload_n hx hb dX12_sign_65 rfl (lv_at hl 3 rfl) ?_
              refine lv_lload_n hx hb dX12_sign_66 rfl (lv_at hl 3 rfl) ?_
              refine lv_lmul hx hb dX12_sign_67 ?_
              refine lv_aload_n hx hb dX12_sign_68 rfl (lv_at hl 1 rfl) ?_
              refine va_get (D := D) (ci := 12) (v := .int t_root) (C := RX12) (T := TX12) (N := 61) hx hb ha ix12 hown hK hP 0 rfl rfl 5 (by decide) (ha _ q965) (fun _ h9 => h9) rfl dX12_sign_69 ?_
              refine lv_i2l (v := t_root.toInt64) hx hb dX12_sign_72 rfl ?_
              refine lv_lmul hx hb dX12_sign_73 ?_
              refine lv_lsub hx hb dX12_sign_74 ?_
              refine lv_lstore (lv' := [(7, .long ((((2 * l1) + (l3 * t_a.toInt64)) * ((2 * l1) + (l3 * t_a.toInt64))) - ((l3 * l3) * t_root.toInt64))), (5, .long ((2 * l1) + (l3 * t_a.toInt64))), (0, .ref h_t), (1, .long l1), (3, .long l3)]) hx hb dX12_sign_75 hl (by decide) rfl (fun ls hl => ?_)
              refine lv_lload hx hb dX12_sign_77 (lv_at hl 0 rfl) ?_
              refine lv_lconst (v := 0) hx hb dX12_sign_79 (by decide) ?_
              refine xl_le (tgt := 88) hx hb dX12_sign_80 dX12_sign_81 (by decide) (fun c30 => ?_) (fun c30 => ?_)
              · have h := br_pos c30 h
                refine lv_iconst (v := 0) hx hb dX12_sign_88 (by decide) ?_
                refine lv_lload hx hb dX12_sign_89 (lv_at hl 1 rfl) ?_
                refine lv_lconst (v := 0) hx hb dX12_sign_91 (by decide) ?_
                refine xl_le (tgt := 100) hx hb dX12_sign_92 dX12_sign_93 (by decide) (fun c31 => ?_) (fun c31 => ?_)
                · have h := br_pos c31 h
                  refine lv_iconst (v := 0) hx hb dX12_sign_100 (by decide) ?_
                  refine lv_icmp_ne (tgt := 108) hx hb dX12_sign_101 (by decide) (fun c32 => ?_) (fun c32 => ?_)
                  · exact absurd c32 (by decide)
                  · refine lv_iconst (v := 1) hx hb dX12_sign_104 (by decide) ?_
                    refine lv_goto (tgt := 109) hx hb dX12_sign_105 (by decide) ?_
                    cases h
                    exact rt_i S hr hlk hP hD hS dX12_sign_109
                · have h := br_neg c31 h
                  refine lv_iconst (v := 1) hx hb dX12_sign_96 (by decide) ?_
                  refine lv_goto (tgt := 101) hx hb dX12_sign_97 (by decide) ?_
                  refine lv_icmp_ne (tgt := 108) hx hb dX12_sign_101 (by decide) (fun c33 => ?_) (fun c33 => ?_)
                  · refine lv_iconst (v := (-1)) hx hb dX12_sign_108 (by decide) ?_
                    cases h
                    exact rt_i S hr hlk hP hD hS dX12_sign_109
                  · exact absurd c33 (by decide)
              · have h := br_neg c30 h
                refine lv_iconst (v := 1) hx hb dX12_sign_84 (by decide) ?_
                refine lv_goto (tgt := 89) hx hb dX12_sign_85 (by decide) ?_
                refine lv_lload hx hb dX12_sign_89 (lv_at hl 1 rfl) ?_
                refine lv_lconst (v := 0) hx hb dX12_sign_91 (by decide) ?_
                refine xl_le (tgt := 100) hx hb dX12_sign_92 dX12_sign_93 (by decide) (fun c34 => ?_) (fun c34 => ?_)
                · have h := br_pos c34 h
                  refine lv_iconst (v := 0) hx hb dX12_sign_100 (by decide) ?_
                  refine lv_icmp_ne (tgt := 108) hx hb dX12_sign_101 (by decide) (fun c35 => ?_) (fun c35 => ?_)
                  · refine lv_iconst (v := (-1)) hx hb dX12_sign_108 (by decide) ?_
                    cases h
                    exact rt_i S hr hlk hP hD hS dX12_sign_109
                  · exact absurd c35 (by decide)
                · have h := br_neg c34 h
                  refine lv_iconst (v := 1) hx hb dX12_sign_96 (by decide) ?_
                  refine lv_goto (tgt := 101) hx hb dX12_sign_97 (by decide) ?_
                  refine lv_icmp_ne (tgt := 108) hx hb dX12_sign_101 (by decide) (fun c36 => ?_) (fun c36 => ?_)
                  · exact absurd c36 (by decide)
                  · refine lv_iconst (v := 1) hx hb dX12_sign_104 (by decide) ?_
                    refine lv_goto (tgt := 109) hx hb dX12_sign_105 (by decide) ?_
                    cases h
                    exact rt_i S hr hlk hP hD hS dX12_sign_109
            · have h := br_neg c29 h
              refine lv_iconst (v := (-1)) hx hb dX12_sign_58 (by decide) ?_
              cases h
              exact rt_i S hr hlk hP hD hS dX12_sign_59
        · have h := br_neg c20 h
          refine lv_iconst (v := 1) hx hb dX12_sign_43 (by decide) ?_
          cases h
          exact rt_i S hr hlk hP hD hS dX12_sign_44
    · have h := br_pos c2 h
      refine lv_iconst (v := 0) hx hb dX12_sign_28 (by decide) ?_
      cases h
      exact rt_i S hr hlk hP hD hS dX12_sign_29
