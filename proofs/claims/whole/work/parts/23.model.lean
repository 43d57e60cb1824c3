noncomputable def f_X12_told (t_thrown : Int32) (t_isTold : Int32) (t_top : Int32) (t_ahead : Int32) (t_round : Int32) (l1 : Int32) : Option (Int32 × Int32) :=
  if t_isTold = 0 then (
   some ((-1), 0)
  ) else (
   if l1 = 0 then (
    some (t_top, 0)
   ) else (
    if l1 = 1 then (
     some (t_ahead, 0)
    ) else (
     if l1 = 2 then (
      some (t_round, 0)
     ) else (
      some ((-1), 0)
     )
    )
   )
  )
set_option maxHeartbeats 4000000 in
set_option maxRecDepth 100000 in
theorem c_X12_told (l : Launch) (D : va_G) (R : va_W) (h_t : Nat) (t_thrown : Int32) (z_t_1 : Value) (z_t_2 : Value) (z_t_3 : Value) (z_t_4 : Value) (z_t_5 : Value) (z_t_6 : Value) (z_t_7 : Value) (z_t_8 : Value) (z_t_9 : Value) (z_t_10 : Value) (z_t_11 : Value) (z_t_12 : Value) (t_isTold : Int32) (z_t_14 : Value) (t_top : Int32) (t_ahead : Int32) (t_round : Int32) (z_t_18 : Value) (z_t_19 : Value) (z_t_20 : Value) (z_t_21 : Value) (z_t_22 : Value) (z_t_23 : Value) (z_t_24 : Value) (z_t_25 : Value) (z_t_26 : Value) (z_t_27 : Value) (z_t_28 : Value) (z_t_29 : Value) (z_t_30 : Value) (z_t_31 : Value) (z_t_32 : Value) (z_t_33 : Value) (z_t_34 : Value) (z_t_35 : Value) (z_t_36 : Value) (z_t_37 : Value) (z_t_38 : Value) (z_t_39 : Value) (z_t_40 : Value) (z_t_41 : Value) (z_t_42 : Value) (z_t_43 : Value) (z_t_44 : Value) (z_t_45 : Value) (z_t_46 : Value) (z_t_47 : Value) (z_t_48 : Value) (z_t_49 : Value) (z_t_50 : Value) (z_t_51 : Value) (z_t_52 : Value) (z_t_53 : Value) (z_t_54 : Value) (z_t_55 : Value) (z_t_56 : Value) (z_t_57 : Value) (z_t_58 : Value) (z_t_59 : Value) (z_t_60 : Value) (l1 : Int32) (r : Int32) (o_t_thrown : Int32)  (h : f_X12_told t_thrown t_isTold t_top t_ahead t_round l1 = some (r, o_t_thrown)) (sz : Nat) : Met l yX12_told (WD yX12_told cX12_told 2 (some .int)) ({ frames := 0, cells := 0, slots := 0, locals := 0 }) (va_Pc [.ref h_t, .int l1] (PcW D [] ((h_t, .inr (12, (.int t_thrown :: z_t_1 :: z_t_2 :: z_t_3 :: z_t_4 :: z_t_5 :: z_t_6 :: z_t_7 :: z_t_8 :: z_t_9 :: z_t_10 :: z_t_11 :: z_t_12 :: .int t_isTold :: z_t_14 :: .int t_top :: .int t_ahead :: .int t_round :: z_t_18 :: z_t_19 :: z_t_20 :: z_t_21 :: z_t_22 :: z_t_23 :: z_t_24 :: z_t_25 :: z_t_26 :: z_t_27 :: z_t_28 :: z_t_29 :: z_t_30 :: z_t_31 :: z_t_32 :: z_t_33 :: z_t_34 :: z_t_35 :: z_t_36 :: z_t_37 :: z_t_38 :: z_t_39 :: z_t_40 :: z_t_41 :: z_t_42 :: z_t_43 :: z_t_44 :: z_t_45 :: z_t_46 :: z_t_47 :: z_t_48 :: z_t_49 :: z_t_50 :: z_t_51 :: z_t_52 :: z_t_53 :: z_t_54 :: z_t_55 :: z_t_56 :: z_t_57 :: z_t_58 :: z_t_59 :: z_t_60 :: []))) :: R) sz)) (QI D r ((h_t, .inr (12, (.int o_t_thrown :: z_t_1 :: z_t_2 :: z_t_3 :: z_t_4 :: z_t_5 :: z_t_6 :: z_t_7 :: z_t_8 :: z_t_9 :: z_t_10 :: z_t_11 :: z_t_12 :: .int t_isTold :: z_t_14 :: .int t_top :: .int t_ahead :: .int t_round :: z_t_18 :: z_t_19 :: z_t_20 :: z_t_21 :: z_t_22 :: z_t_23 :: z_t_24 :: z_t_25 :: z_t_26 :: z_t_27 :: z_t_28 :: z_t_29 :: z_t_30 :: z_t_31 :: z_t_32 :: z_t_33 :: z_t_34 :: z_t_35 :: z_t_36 :: z_t_37 :: z_t_38 :: z_t_39 :: z_t_40 :: z_t_41 :: z_t_42 :: z_t_43 :: z_t_44 :: z_t_45 :: z_t_46 :: z_t_47 :: z_t_48 :: z_t_49 :: z_t_50 :: z_t_51 :: z_t_52 :: z_t_53 :: z_t_54 :: z_t_55 :: z_t_56 :: z_t_57 :: z_t_58 :: z_t_59 :: z_t_60 :: []))) :: R) (va_A ((h_t, .inr (12, (.int t_thrown :: z_t_1 :: z_t_2 :: z_t_3 :: z_t_4 :: z_t_5 :: z_t_6 :: z_t_7 :: z_t_8 :: z_t_9 :: z_t_10 :: z_t_11 :: z_t_12 :: .int t_isTold :: z_t_14 :: .int t_top :: .int t_ahead :: .int t_round :: z_t_18 :: z_t_19 :: z_t_20 :: z_t_21 :: z_t_22 :: z_t_23 :: z_t_24 :: z_t_25 :: z_t_26 :: z_t_27 :: z_t_28 :: z_t_29 :: z_t_30 :: z_t_31 :: z_t_32 :: z_t_33 :: z_t_34 :: z_t_35 :: z_t_36 :: z_t_37 :: z_t_38 :: z_t_39 :: z_t_40 :: z_t_41 :: z_t_42 :: z_t_43 :: z_t_44 :: z_t_45 :: z_t_46 :: z_t_47 :: z_t_48 :: z_t_49 :: z_t_50 :: z_t_51 :: z_t_52 :: z_t_53 :: z_t_54 :: z_t_55 :: z_t_56 :: z_t_57 :: z_t_58 :: z_t_59 :: z_t_60 :: []))) :: R) sz)) 0 0 (va_A ((h_t, .inr (12, (.int t_thrown :: z_t_1 :: z_t_2 :: z_t_3 :: z_t_4 :: z_t_5 :: z_t_6 :: z_t_7 :: z_t_8 :: z_t_9 :: z_t_10 :: z_t_11 :: z_t_12 :: .int t_isTold :: z_t_14 :: .int t_top :: .int t_ahead :: .int t_round :: z_t_18 :: z_t_19 :: z_t_20 :: z_t_21 :: z_t_22 :: z_t_23 :: z_t_24 :: z_t_25 :: z_t_26 :: z_t_27 :: z_t_28 :: z_t_29 :: z_t_30 :: z_t_31 :: z_t_32 :: z_t_33 :: z_t_34 :: z_t_35 :: z_t_36 :: z_t_37 :: z_t_38 :: z_t_39 :: z_t_40 :: z_t_41 :: z_t_42 :: z_t_43 :: z_t_44 :: z_t_45 :: z_t_46 :: z_t_47 :: z_t_48 :: z_t_49 :: z_t_50 :: z_t_51 :: z_t_52 :: z_t_53 :: z_t_54 :: z_t_55 :: z_t_56 :: z_t_57 :: z_t_58 :: z_t_59 :: z_t_60 :: []))) :: R) sz) := by
  refine ct_start (QF := fun A => QI D r ((h_t, .inr (12, (.int o_t_thrown :: z_t_1 :: z_t_2 :: z_t_3 :: z_t_4 :: z_t_5 :: z_t_6 :: z_t_7 :: z_t_8 :: z_t_9 :: z_t_10 :: z_t_11 :: z_t_12 :: .int t_isTold :: z_t_14 :: .int t_top :: .int t_ahead :: .int t_round :: z_t_18 :: z_t_19 :: z_t_20 :: z_t_21 :: z_t_22 :: z_t_23 :: z_t_24 :: z_t_25 :: z_t_26 :: z_t_27 :: z_t_28 :: z_t_29 :: z_t_30 :: z_t_31 :: z_t_32 :: z_t_33 :: z_t_34 :: z_t_35 :: z_t_36 :: z_t_37 :: z_t_38 :: z_t_39 :: z_t_40 :: z_t_41 :: z_t_42 :: z_t_43 :: z_t_44 :: z_t_45 :: z_t_46 :: z_t_47 :: z_t_48 :: z_t_49 :: z_t_50 :: z_t_51 :: z_t_52 :: z_t_53 :: z_t_54 :: z_t_55 :: z_t_56 :: z_t_57 :: z_t_58 :: z_t_59 :: z_t_60 :: []))) :: R) A) ?_ ?_ ?_
  · decide +kernel
  · exact Nat.le_of_ble_eq_true rfl
  intro p e s m args below meth c A ls S hr hlk hnm hS hA hP hD hK hN hl
  have S : CallFix p m c cX12_told 2 s args AL "DigitBenchModel" := S
  have hx := S.1
  have hb := S.2.1
  have hown := S.2.2.2.1
  have ha := S.2.2.2.2
  have hl : lv_has ls 2 [(0, .ref h_t), (1, .int l1)] := hl
  unfold f_X12_told at h
  refine lv_aload_n hx hb dX12_told_0 rfl (lv_at hl 0 rfl) ?_
  refine lv_iconst (v := 0) hx hb dX12_told_1 (by decide) ?_
  refine va_put (D := D) (ci := 12) (v := .int 0) (ty := .int) (C := RX12) (T := TX12) (N := 61) hx hb ha ix12 tyX12 tyX12_ok nmX12 hown hK hP hD hS 0 rfl rfl 0 (by decide) (ha _ q960) (fun _ h9 => h9) rfl (by decide +kernel) rfl rfl (Nat.le_of_ble_eq_true rfl) dX12_told_2 (fun H locs hP hD hS => ?_)
  have hP : va_P D vwCl ((h_t, .inr (12, (.int 0 :: z_t_1 :: z_t_2 :: z_t_3 :: z_t_4 :: z_t_5 :: z_t_6 :: z_t_7 :: z_t_8 :: z_t_9 :: z_t_10 :: z_t_11 :: z_t_12 :: .int t_isTold :: z_t_14 :: .int t_top :: .int t_ahead :: .int t_round :: z_t_18 :: z_t_19 :: z_t_20 :: z_t_21 :: z_t_22 :: z_t_23 :: z_t_24 :: z_t_25 :: z_t_26 :: z_t_27 :: z_t_28 :: z_t_29 :: z_t_30 :: z_t_31 :: z_t_32 :: z_t_33 :: z_t_34 :: z_t_35 :: z_t_36 :: z_t_37 :: z_t_38 :: z_t_39 :: z_t_40 :: z_t_41 :: z_t_42 :: z_t_43 :: z_t_44 :: z_t_45 :: z_t_46 :: z_t_47 :: z_t_48 :: z_t_49 :: z_t_50 :: z_t_51 :: z_t_52 :: z_t_53 :: z_t_54 :: z_t_55 :: z_t_56 :: z_t_57 :: z_t_58 :: z_t_59 :: z_t_60 :: []))) :: R) H := hP
  have hD : va_D A ((h_t, .inr (12, (.int 0 :: z_t_1 :: z_t_2 :: z_t_3 :: z_t_4 :: z_t_5 :: z_t_6 :: z_t_7 :: z_t_8 :: z_t_9 :: z_t_10 :: z_t_11 :: z_t_12 :: .int t_isTold :: z_t_14 :: .int t_top :: .int t_ahead :: .int t_round :: z_t_18 :: z_t_19 :: z_t_20 :: z_t_21 :: z_t_22 :: z_t_23 :: z_t_24 :: z_t_25 :: z_t_26 :: z_t_27 :: z_t_28 :: z_t_29 :: z_t_30 :: z_t_31 :: z_t_32 :: z_t_33 :: z_t_34 :: z_t_35 :: z_t_36 :: z_t_37 :: z_t_38 :: z_t_39 :: z_t_40 :: z_t_41 :: z_t_42 :: z_t_43 :: z_t_44 :: z_t_45 :: z_t_46 :: z_t_47 :: z_t_48 :: z_t_49 :: z_t_50 :: z_t_51 :: z_t_52 :: z_t_53 :: z_t_54 :: z_t_55 :: z_t_56 :: z_t_57 :: z_t_58 :: z_t_59 :: z_t_60 :: []))) :: R) := hD
  refine lv_aload_n hx hb dX12_told_5 rfl (lv_at hl 0 rfl) ?_
  refine va_get (D := D) (ci := 12) (v := .int t_isTold) (C := RX12) (T := TX12) (N := 61) hx hb ha ix12 hown hK hP 0 rfl rfl 13 (by decide) (ha _ q973) (fun _ h9 => h9) rfl dX12_told_6 ?_
  refine lv_if_ne (tgt := 14) hx hb dX12_told_9 (by decide) (fun c1 => ?_) (fun c1 => ?_)
  · have h := br_neg c1 h
    refine lv_iload_n hx hb dX12_told_14 rfl (lv_at hl 1 rfl) ?_
    refine lv_if_ne (tgt := 25) hx hb dX12_told_15 (by decide) (fun c2 => ?_) (fun c2 => ?_)
    · have h := br_neg c2 h
      refine lv_iload_n hx hb dX12_told_25 rfl (lv_at hl 1 rfl) ?_
      refine lv_iconst (v := 1) hx hb dX12_told_26 (by decide) ?_
      refine lv_icmp_ne (tgt := 37) hx hb dX12_told_27 (by decide) (fun c3 => ?_) (fun c3 => ?_)
      · have h := br_neg c3 h
        refine lv_iload_n hx hb dX12_told_37 rfl (lv_at hl 1 rfl) ?_
        refine lv_iconst (v := 2) hx hb dX12_told_38 (by decide) ?_
        refine lv_icmp_ne (tgt := 49) hx hb dX12_told_39 (by decide) (fun c4 => ?_) (fun c4 => ?_)
        · have h := br_neg c4 h
          refine lv_iconst (v := (-1)) hx hb dX12_told_49 (by decide) ?_
          cases h
          exact rt_i S hr hlk hP hD hS dX12_told_50
        · have h := br_pos c4 h
          refine lv_aload_n hx hb dX12_told_42 rfl (lv_at hl 0 rfl) ?_
          refine va_get (D := D) (ci := 12) (v := .int t_round) (C := RX12) (T := TX12) (N := 61) hx hb ha ix12 hown hK hP 0 rfl rfl 17 (by decide) (ha _ q977) (fun _ h9 => h9) rfl dX12_told_43 ?_
          refine lv_goto (tgt := 50) hx hb dX12_told_46 (by decide) ?_
          cases h
          exact rt_i S hr hlk hP hD hS dX12_told_50
      · have h := br_pos c3 h
        refine lv_aload_n hx hb dX12_told_30 rfl (lv_at hl 0 rfl) ?_
        refine va_get (D := D) (ci := 12) (v := .int t_ahead) (C := RX12) (T := TX12) (N := 61) hx hb ha ix12 hown hK hP 0 rfl rfl 16 (by decide) (ha _ q976) (fun _ h9 => h9) rfl dX12_told_31 ?_
        refine lv_goto (tgt := 50) hx hb dX12_told_34 (by decide) ?_
        cases h
        exact rt_i S hr hlk hP hD hS dX12_told_50
    · have h := br_pos c2 h
      refine lv_aload_n hx hb dX12_told_18 rfl (lv_at hl 0 rfl) ?_
      refine va_get (D := D) (ci := 12) (v := .int t_top) (C := RX12) (T := TX12) (N := 61) hx hb ha ix12 hown hK hP 0 rfl rfl 15 (by decide) (ha _ q975) (fun _ h9 => h9) rfl dX12_told_19 ?_
      refine lv_goto (tgt := 50) hx hb dX12_told_22 (by decide) ?_
      cases h
      exact rt_i S hr hlk hP hD hS dX12_told_50
  · have h := br_pos c1 h
    refine lv_iconst (v := (-1)) hx hb dX12_told_12 (by decide) ?_
    cases h
    exact rt_i S hr hlk hP hD hS dX12_told_13
noncomputable def f_X12_digit (t_thrown : Int32) (t_isTold : Int32) (t_result : Int32) (t_top : Int32) (t_ahead : Int32) (t_round : Int32) (t_digit : Nat → Int64) (l1 : Int32) : Option (Int32 × Int32) :=
  if t_isTold = 0 then (
   some ((-1), 0)
  ) else (
   if l1 ≤ t_top then (
    if l1 < 0 then (
     if (-l1.toInt64) ≤ t_ahead.toInt64 then (
      if (-l1.toInt64) ≤ (t_ahead + t_round).toInt64 then (
       gd (ixb (t_top + (-l1.toInt64).toInt32) 500) (
        some ((t_digit (t_top + (-l1.toInt64).toInt32).toNatClampNeg).toInt32, 0)
       )
      ) else (
       if t_result = 2 then (
        some ((-1), 0)
       ) else (
        some (0, 0)
       )
      )
     ) else (
      if t_round ≤ 0 then (
       if (-l1.toInt64) ≤ (t_ahead + t_round).toInt64 then (
        gd (ixb (t_top + (-l1.toInt64).toInt32) 500) (
         some ((t_digit (t_top + (-l1.toInt64).toInt32).toNatClampNeg).toInt32, 0)
        )
       ) else (
        if t_result = 2 then (
         some ((-1), 0)
        ) else (
         some (0, 0)
        )
       )
      ) else (
       gd (nzL t_round.toInt64) (
        if ((t_ahead.toInt64 + 1) + ((((-l1.toInt64) - t_ahead.toInt64) - 1) - (((-l1.toInt64) - t_ahead.toInt64) - 1) / t_round.toInt64 * t_round.toInt64)) ≤ (t_ahead + t_round).toInt64 then (
         gd (ixb (t_top + ((t_ahead.toInt64 + 1) + ((((-l1.toInt64) - t_ahead.toInt64) - 1) - (((-l1.toInt64) - t_ahead.toInt64) - 1) / t_round.toInt64 * t_round.toInt64)).toInt32) 500) (
          some ((t_digit (t_top + ((t_ahead.toInt64 + 1) + ((((-l1.toInt64) - t_ahead.toInt64) - 1) - (((-l1.toInt64) - t_ahead.toInt64) - 1) / t_round.toInt64 * t_round.toInt64)).toInt32).toNatClampNeg).toInt32, 0)
         )
        ) else (
         if t_result = 2 then (
          some ((-1), 0)
         ) else (
          some (0, 0)
         )
        )
       )
      )
     )
    ) else (
     gd (ixb (t_top - l1) 500) (
      some ((t_digit (t_top - l1).toNatClampNeg).toInt32, 0)
     )
    )
   ) else (
    some (0, 0)
   )
  )
set_option maxHeartbeats 4000000 in
set_option maxRecDepth 100000 in
theorem c_X12_digit (l : Launch) (D : va_G) (R : va_W) (h_t : Nat) (t_thrown : Int32) (z_t_1 : Value) (z_t_2 : Value) (z_t_3 : Value) (z_t_4 : Value) (z_t_5 : Value) (z_t_6 : Value) (z_t_7 : Value) (z_t_8 : Value) (z_t_9 : Value) (z_t_10 : Value) (z_t_11 : Value) (z_t_12 : Value) (t_isTold : Int32) (t_result : Int32) (t_top : Int32) (t_ahead : Int32) (t_round : Int32) (z_t_18 : Value) (z_t_20 : Value) (z_t_21 : Value) (z_t_22 : Value) (z_t_23 : Value) (z_t_24 : Value) (z_t_25 : Value) (z_t_26 : Value) (z_t_27 : Value) (z_t_28 : Value) (z_t_29 : Value) (z_t_30 : Value) (z_t_31 : Value) (z_t_32 : Value) (z_t_33 : Value) (z_t_34 : Value) (z_t_35 : Value) (z_t_36 : Value) (z_t_37 : Value) (z_t_38 : Value) (z_t_39 : Value) (z_t_40 : Value) (z_t_41 : Value) (z_t_42 : Value) (z_t_43 : Value) (z_t_44 : Value) (z_t_45 : Value) (z_t_46 : Value) (z_t_47 : Value) (z_t_48 : Value) (z_t_49 : Value) (z_t_50 : Value) (z_t_51 : Value) (z_t_52 : Value) (z_t_53 : Value) (z_t_54 : Value) (z_t_55 : Value) (z_t_56 : Value) (z_t_57 : Value) (z_t_58 : Value) (z_t_59 : Value) (z_t_60 : Value) (h_t_digit : Nat) (k_t_digit : ClassId) (t_digit : Nat → Int64) (l1 : Int32) (r : Int32) (o_t_thrown : Int32)  (h : f_X12_digit t_thrown t_isTold t_result t_top t_ahead t_round t_digit l1 = some (r, o_t_thrown)) (sz : Nat) : Met l yX12_digit (WD yX12_digit cX12_digit 4 (some .int)) ({ frames := 0, cells := 0, slots := 0, locals := 0 }) (va_Pc [.ref h_t, .int l1] (PcW D [(k_t_digit, .long)] ((h_t, .inr (12, (.int t_thrown :: z_t_1 :: z_t_2 :: z_t_3 :: z_t_4 :: z_t_5 :: z_t_6 :: z_t_7 :: z_t_8 :: z_t_9 :: z_t_10 :: z_t_11 :: z_t_12 :: .int t_isTold :: .int t_result :: .int t_top :: .int t_ahead :: .int t_round :: z_t_18 :: .ref h_t_digit :: z_t_20 :: z_t_21 :: z_t_22 :: z_t_23 :: z_t_24 :: z_t_25 :: z_t_26 :: z_t_27 :: z_t_28 :: z_t_29 :: z_t_30 :: z_t_31 :: z_t_32 :: z_t_33 :: z_t_34 :: z_t_35 :: z_t_36 :: z_t_37 :: z_t_38 :: z_t_39 :: z_t_40 :: z_t_41 :: z_t_42 :: z_t_43 :: z_t_44 :: z_t_45 :: z_t_46 :: z_t_47 :: z_t_48 :: z_t_49 :: z_t_50 :: z_t_51 :: z_t_52 :: z_t_53 :: z_t_54 :: z_t_55 :: z_t_56 :: z_t_57 :: z_t_58 :: z_t_59 :: z_t_60 :: []))) :: (h_t_digit, .inl (k_t_digit, 500, .inr (.inl t_digit))) :: R) sz)) (QI D r ((h_t, .inr (12, (.int o_t_thrown :: z_t_1 :: z_t_2 :: z_t_3 :: z_t_4 :: z_t_5 :: z_t_6 :: z_t_7 :: z_t_8 :: z_t_9 :: z_t_10 :: z_t_11 :: z_t_12 :: .int t_isTold :: .int t_result :: .int t_top :: .int t_ahead :: .int t_round :: z_t_18 :: .ref h_t_digit :: z_t_20 :: z_t_21 :: z_t_22 :: z_t_23 :: z_t_24 :: z_t_25 :: z_t_26 :: z_t_27 :: z_t_28 :: z_t_29 :: z_t_30 :: z_t_31 :: z_t_32 :: z_t_33 :: z_t_34 :: z_t_35 :: z_t_36 :: z_t_37 :: z_t_38 :: z_t_39 :: z_t_40 :: z_t_41 :: z_t_42 :: z_t_43 :: z_t_44 :: z_t_45 :: z_t_46 :: z_t_47 :: z_t_48 :: z_t_49 :: z_t_50 :: z_t_51 :: z_t_52 :: z_t_53 :: z_t_54 :: z_t_55 :: z_t_56 :: z_t_57 :: z_t_58 :: z_t_59 :: z_t_60 :: []))) :: (h_t_digit, .inl (k_t_digit, 500, .inr (.inl t_digit))) :: R) (va_A ((h_t, .inr (12, (.int t_thrown :: z_t_1 :: z_t_2 :: z_t_3 :: z_t_4 :: z_t_5 :: z_t_6 :: z_t_7 :: z_t_8 :: z_t_9 :: z_t_10 :: z_t_11 :: z_t_12 :: .int t_isTold :: .int t_result :: .int t_top :: .int t_ahead :: .int t_round :: z_t_18 :: .ref h_t_digit :: z_t_20 :: z_t_21 :: z_t_22 :: z_t_23 :: z_t_24 :: z_t_25 :: z_t_26 :: z_t_27 :: z_t_28 :: z_t_29 :: z_t_30 :: z_t_31 :: z_t_32 :: z_t_33 :: z_t_34 :: z_t_35 :: z_t_36 :: z_t_37 :: z_t_38 :: z_t_39 :: z_t_40 :: z_t_41 :: z_t_42 :: z_t_43 :: z_t_44 :: z_t_45 :: z_t_46 :: z_t_47 :: z_t_48 :: z_t_49 :: z_t_50 :: z_t_51 :: z_t_52 :: z_t_53 :: z_t_54 :: z_t_55 :: z_t_56 :: z_t_57 :: z_t_58 :: z_t_59 :: z_t_60 :: []))) :: (h_t_digit, .inl (k_t_digit, 500, .inr (.inl t_digit))) :: R) sz)) 0 0 (va_A ((h_t, .inr (12, (.int t_thrown :: z_t_1 :: z_t_2 :: z_t_3 :: z_t_4 :: z_t_5 :: z_t_6 :: z_t_7 :: z_t_8 :: z_t_9 :: z_t_10 :: z_t_11 :: z_t_12 :: .int t_isTold :: .int t_result :: .int t_top :: .int t_ahead :: .int t_round :: z_t_18 :: .ref h_t_digit :: z_t_20 :: z_t_21 :: z_t_22 :: z_t_23 :: z_t_24 :: z_t_25 :: z_t_26 :: z_t_27 :: z_t_28 :: z_t_29 :: z_t_30 :: z_t_31 :: z_t_32 :: z_t_33 :: z_t_34 :: z_t_35 :: z_t_36 :: z_t_37 :: z_t_38 :: z_t_39 :: z_t_40 :: z_t_41 :: z_t_42 :: z_t_43 :: z_t_44 :: z_t_45 :: z_t_46 :: z_t_47 :: z_t_48 :: z_t_49 :: z_t_50 :: z_t_51 :: z_t_52 :: z_t_53 :: z_t_54 :: z_t_55 :: z_t_56 :: z_t_57 :: z_t_58 :: z_t_59 :: z_t_60 :: []))) :: (h_t_digit, .inl (k_t_digit, 500, .inr (.inl t_digit))) :: R) sz) := by
  refine ct_start (QF := fun A => QI D r ((h_t, .inr (12, (.int o_t_thrown :: z_t_1 :: z_t_2 :: z_t_3 :: z_t_4 :: z_t_5 :: z_t_6 :: z_t_7 :: z_t_8 :: z_t_9 :: z_t_10 :: z_t_11 :: z_t_12 :: .int t_isTold :: .int t_result :: .int t_top :: .int t_ahead :: .int t_round :: z_t_18 :: .ref h_t_digit :: z_t_20 :: z_t_21 :: z_t_22 :: z_t_23 :: z_t_24 :: z_t_25 :: z_t_26 :: z_t_27 :: z_t_28 :: z_t_29 :: z_t_30 :: z_t_31 :: z_t_32 :: z_t_33 :: z_t_34 :: z_t_35 :: z_t_36 :: z_t_37 :: z_t_38 :: z_t_39 :: z_t_40 :: z_t_41 :: z_t_42 :: z_t_43 :: z_t_44 :: z_t_45 :: z_t_46 :: z_t_47 :: z_t_48 :: z_t_49 :: z_t_50 :: z_t_51 :: z_t_52 :: z_t_53 :: z_t_54 :: z_t_55 :: z_t_56 :: z_t_57 :: z_t_58 :: z_t_59 :: z_t_60 :: []))) :: (h_t_digit, .inl (k_t_digit, 500, .inr (.inl t_digit))) :: R) A) ?_ ?_ ?_
  · decide +kernel
  · exact Nat.le_of_ble_eq_true rfl
  intro p e s m args below meth c A ls S hr hlk hnm hS hA hP hD hK hN hl
  have S : CallFix p m c cX12_digit 4 s args AL "DigitBenchModel" := S
  have hx := S.1
  have hb := S.2.1
  have hown := S.2.2.2.1
  have ha := S.2.2.2.2
  have hl : lv_has ls 4 [(0, .ref h_t), (1, .int l1)] := hl
  unfold f_X12_digit at h
  refine lv_aload_n hx hb dX12_digit_0 rfl (lv_at hl 0 rfl) ?_
  refine lv_iconst (v := 0) hx hb dX12_digit_1 (by decide) ?_
  refine va_put (D := D) (ci := 12) (v := .int 0) (ty := .int) (C := RX12) (T := TX12) (N := 61) hx hb ha ix12 tyX12 tyX12_ok nmX12 hown hK hP hD hS 0 rfl rfl 0 (by decide) (ha _ q960) (fun _ h9 => h9) rfl (by decide +kernel) rfl rfl (Nat.le_of_ble_eq_true rfl) dX12_digit_2 (fun H locs hP hD hS => ?_)
  have hP : va_P D vwCl ((h_t, .inr (12, (.int 0 :: z_t_1 :: z_t_2 :: z_t_3 :: z_t_4 :: z_t_5 :: z_t_6 :: z_t_7 :: z_t_8 :: z_t_9 :: z_t_10 :: z_t_11 :: z_t_12 :: .int t_isTold :: .int t_result :: .int t_top :: .int t_ahead :: .int t_round :: z_t_18 :: .ref h_t_digit :: z_t_20 :: z_t_21 :: z_t_22 :: z_t_23 :: z_t_24 :: z_t_25 :: z_t_26 :: z_t_27 :: z_t_28 :: z_t_29 :: z_t_30 :: z_t_31 :: z_t_32 :: z_t_33 :: z_t_34 :: z_t_35 :: z_t_36 :: z_t_37 :: z_t_38 :: z_t_39 :: z_t_40 :: z_t_41 :: z_t_42 :: z_t_43 :: z_t_44 :: z_t_45 :: z_t_46 :: z_t_47 :: z_t_48 :: z_t_49 :: z_t_50 :: z_t_51 :: z_t_52 :: z_t_53 :: z_t_54 :: z_t_55 :: z_t_56 :: z_t_57 :: z_t_58 :: z_t_59 :: z_t_60 :: []))) :: (h_t_digit, .inl (k_t_digit, 500, .inr (.inl t_digit))) :: R) H := hP
  have hD : va_D A ((h_t, .inr (12, (.int 0 :: z_t_1 :: z_t_2 :: z_t_3 :: z_t_4 :: z_t_5 :: z_t_6 :: z_t_7 :: z_t_8 :: z_t_9 :: z_t_10 :: z_t_11 :: z_t_12 :: .int t_isTold :: .int t_result :: .int t_top :: .int t_ahead :: .int t_round :: z_t_18 :: .ref h_t_digit :: z_t_20 :: z_t_21 :: z_t_22 :: z_t_23 :: z_t_24 :: z_t_25 :: z_t_26 :: z_t_27 :: z_t_28 :: z_t_29 :: z_t_30 :: z_t_31 :: z_t_32 :: z_t_33 :: z_t_34 :: z_t_35 :: z_t_36 :: z_t_37 :: z_t_38 :: z_t_39 :: z_t_40 :: z_t_41 :: z_t_42 :: z_t_43 :: z_t_44 :: z_t_45 :: z_t_46 :: z_t_47 :: z_t_48 :: z_t_49 :: z_t_50 :: z_t_51 :: z_t_52 :: z_t_53 :: z_t_54 :: z_t_55 :: z_t_56 :: z_t_57 :: z_t_58 :: z_t_59 :: z_t_60 :: []))) :: (h_t_digit, .inl (k_t_digit, 500, .inr (.inl t_digit))) :: R) := hD
  refine lv_aload_n hx hb dX12_digit_5 rfl (lv_at hl 0 rfl) ?_
  refine va_get (D := D) (ci := 12) (v := .int t_isTold) (C := RX12) (T := TX12) (N := 61) hx hb ha ix12 hown hK hP 0 rfl rfl 13 (by decide) (ha _ q973) (fun _ h9 => h9) rfl dX12_digit_6 ?_
  refine lv_if_ne (tgt := 14) hx hb dX12_digit_9 (by decide) (fun c1 => ?_) (fun c1 => ?_)
  · have h := br_neg c1 h
    refine lv_iload_n hx hb dX12_digit_14 rfl (lv_at hl 1 rfl) ?_
    refine lv_aload_n hx hb dX12_digit_15 rfl (lv_at hl 0 rfl) ?_
    refine va_get (D := D) (ci := 12) (v := .int t_top) (C := RX12) (T := TX12) (N := 61) hx hb ha ix12 hown hK hP 0 rfl rfl 15 (by decide) (ha _ q975) (fun _ h9 => h9) rfl dX12_digit_16 ?_
    refine lv_icmp_le (tgt := 24) hx hb dX12_digit_19 (by decide) (fun c2 => ?_) (fun c2 => ?_)
    · have h := br_pos c2 h
      refine lv_iload_n hx hb dX12_digit_24 rfl (lv_at hl 1 rfl) ?_
      refine lv_if_lt (tgt := 41) hx hb dX12_digit_25 (by decide) (fun c3 => ?_) (fun c3 => ?_)
      · have h := br_pos c3 h
        refine lv_iload_n hx hb dX12_digit_41 rfl (lv_at hl 1 rfl) ?_
        refine lv_i2l (v := l1.toInt64) hx hb dX12_digit_42 rfl ?_
        refine lv_lneg hx hb dX12_digit_43 ?_
        refine lv_lstore_n (lv' := [(2, .long (-l1.toInt64)), (0, .ref h_t), (1, .int l1)]) hx hb dX12_digit_44 rfl hl (by decide) rfl (fun ls hl => ?_)
        refine lv_lload_n hx hb dX12_digit_45 rfl (lv_at hl 0 rfl) ?_
        refine lv_aload_n hx hb dX12_digit_46 rfl (lv_at hl 1 rfl) ?_
        refine va_get (D := D) (ci := 12) (v := .int t_ahead) (C := RX12) (T := TX12) (N := 61) hx hb ha ix12 hown hK hP 0 rfl rfl 16 (by decide) (ha _ q976) (fun _ h9 => h9) rfl dX12_digit_47 ?_
        refine lv_i2l (v := t_ahead.toInt64) hx hb dX12_digit_50 rfl ?_
        refine xl_le (tgt := 86) hx hb dX12_digit_51 dX12_digit_52 (by decide) (fun c4 => ?_) (fun c4 => ?_)
        · have h := br_pos c4 h
          refine lv_lload_n hx hb dX12_digit_86 rfl (lv_at hl 0 rfl) ?_
          refine lv_aload_n hx hb dX12_digit_87 rfl (lv_at hl 1 rfl) ?_
          refine va_get (D := D) (ci := 12) (v := .int t_ahead) (C := RX12) (T := TX12) (N := 61) hx hb ha ix12 hown hK hP 0 rfl rfl 16 (by decide) (ha _ q976) (fun _ h9 => h9) rfl dX12_digit_88 ?_
          refine lv_aload_n hx hb dX12_digit_91 rfl (lv_at hl 1 rfl) ?_
          refine va_get (D := D) (ci := 12) (v := .int t_round) (C := RX12) (T := TX12) (N := 61) hx hb ha ix12 hown hK hP 0 rfl rfl 17 (by decide) (ha _ q977) (fun _ h9 => h9) rfl dX12_digit_92 ?_
          refine lv_iadd hx hb dX12_digit_95 ?_
          refine lv_i2l (v := (t_ahead + t_round).toInt64) hx hb dX12_digit_96 rfl ?_
          refine xl_le (tgt := 115) hx hb dX12_digit_97 dX12_digit_98 (by decide) (fun c5 => ?_) (fun c5 => ?_)
          · have h := br_pos c5 h
            refine lv_aload_n hx hb dX12_digit_115 rfl (lv_at hl 1 rfl) ?_
            refine va_get (D := D) (ci := 12) (v := .ref h_t_digit) (C := RX12) (T := TX12) (N := 61) hx hb ha ix12 hown hK hP 0 rfl rfl 19 (by decide) (ha _ q979) (fun _ h9 => h9) rfl dX12_digit_116 ?_
            refine lv_aload_n hx hb dX12_digit_119 rfl (lv_at hl 1 rfl) ?_
            refine va_get (D := D) (ci := 12) (v := .int t_top) (C := RX12) (T := TX12) (N := 61) hx hb ha ix12 hown hK hP 0 rfl rfl 15 (by decide) (ha _ q975) (fun _ h9 => h9) rfl dX12_digit_120 ?_
            refine lv_lload_n hx hb dX12_digit_123 rfl (lv_at hl 0 rfl) ?_
            refine lv_l2i (v := (-l1.toInt64).toInt32) hx hb dX12_digit_124 rfl ?_
            refine lv_iadd hx hb dX12_digit_125 ?_
            obtain ⟨i6, h⟩ := ix_ok h
            refine va_lald hx hb hK hP 1 0 rfl rfl i6 dX12_digit_126 ?_
            refine lv_l2i (v := (t_digit (t_top + (-l1.toInt64).toInt32).toNatClampNeg).toInt32) hx hb dX12_digit_127 rfl ?_
            cases h
            exact rt_i S hr hlk hP hD hS dX12_digit_128
          · have h := br_neg c5 h
            refine lv_aload_n hx hb dX12_digit_101 rfl (lv_at hl 1 rfl) ?_
            refine va_get (D := D) (ci := 12) (v := .int t_result) (C := RX12) (T := TX12) (N := 61) hx hb ha ix12 hown hK hP 0 rfl rfl 14 (by decide) (ha _ q974) (fun _ h9 => h9) rfl dX12_digit_102 ?_
            refine lv_iconst (v := 2) hx hb dX12_digit_105 (by decide) ?_
            refine lv_icmp_ne (tgt := 113) hx hb dX12_digit_106 (by decide) (fun c7 => ?_) (fun c7 => ?_)
            · have h := br_neg c7 h
              refine lv_iconst (v := 0) hx hb dX12_digit_113 (by decide) ?_
              cases h
              exact rt_i S hr hlk hP hD hS dX12_digit_114
            · have h := br_pos c7 h
              refine lv_iconst (v := (-1)) hx hb dX12_digit_109 (by decide) ?_
              refine lv_goto (tgt := 114) hx hb dX12_digit_110 (by decide) ?_
              cases h
              exact rt_i S hr hlk hP hD hS dX12_digit_114
        · have h := br_neg c4 h
          refine lv_aload_n hx hb dX12_digit_55 rfl (lv_at hl 1 rfl) ?_
          refine va_get (D := D) (ci := 12) (v := .int t_round) (C := RX12) (T := TX12) (N := 61) hx hb ha ix12 hown hK hP 0 rfl rfl 17 (by decide) (ha _ q977) (fun _ h9 => h9) rfl dX12_digit_56 ?_
          refine lv_if_le (tgt := 86) hx hb dX12_digit_59 (by decide) (fun c8 => ?_) (fun c8 => ?_)
          · have h := br_pos c8 h
            refine lv_lload_n hx hb dX12_digit_86 rfl (lv_at hl 0 rfl) ?_
            refine lv_aload_n hx hb dX12_digit_87 rfl (lv_at hl 1 rfl) ?_
            refine va_get (D := D) (ci := 12) (v := .int t_ahead) (C := RX12) (T := TX12) (N := 61) hx hb ha ix12 hown hK hP 0 rfl rfl 16 (by decide) (ha _ q976) (fun _ h9 => h9) rfl dX12_digit_88 ?_
            refine lv_aload_n hx hb dX12_digit_91 rfl (lv_at hl 1 rfl) ?_
            refine va_get (D := D) (ci := 12) (v := .int t_round) (C := RX12) (T := TX12) (N := 61) hx hb ha ix12 hown hK hP 0 rfl rfl 17 (by decide) (ha _ q977) (fun _ h9 => h9) rfl dX12_digit_92 ?_
            refine lv_iadd hx hb dX12_digit_95 ?_
            refine lv_i2l (v := (t_ahead + t_round).toInt64) hx hb dX12_digit_96 rfl ?_
            refine xl_le (tgt := 115) hx hb dX12_digit_97 dX12_digit_98 (by decide) (fun c9 => ?_) (fun c9 => ?_)
            · have h := br_pos c9 h
              refine lv_aload_n hx hb dX12_digit_115 rfl (lv_at hl 1 rfl) ?_
              refine va_get (D := D) (ci := 12) (v := .ref h_t_digit) (C := RX12) (T := TX12) (N := 61) hx hb ha ix12 hown hK hP 0 rfl rfl 19 (by decide) (ha _ q979) (fun _ h9 => h9) rfl dX12_digit_116 ?_
              refine lv_aload_n hx hb dX12_digit_119 rfl (lv_at hl 1 rfl) ?_
              refine va_get (D := D) (ci := 12) (v := .int t_top) (C := RX12) (T := TX12) (N := 61) hx hb ha ix12 hown hK hP 0 rfl rfl 15 (by decide) (ha _ q975) (fun _ h9 => h9) rfl dX12_digit_120 ?_
              refine lv_lload_n hx hb dX12_digit_123 rfl (lv_at hl 0 rfl) ?_
              refine lv_l2i (v := (-l1.toInt64).toInt32) hx hb dX12_digit_124 rfl ?_
              refine lv_iadd hx hb dX12_digit_125 ?_
              obtain ⟨i10, h⟩ := ix_ok h
              refine va_lald hx hb hK hP 1 0 rfl rfl i10 dX12_digit_126 ?_
              refine lv_l2i (v := (t_digit (t_top + (-l1.toInt64).toInt32).toNatClampNeg).toInt32) hx hb dX12_digit_127 rfl ?_
              cases h
              exact rt_i S hr hlk hP hD hS dX12_digit_128
            · have h := br_neg c9 h
              refine lv_aload_n hx hb dX12_digit_101 rfl (lv_at hl 1 rfl) ?_
              refine va_get (D := D) (ci := 12) (v := .int t_result) (C := RX12) (T := TX12) (N := 61) hx hb ha ix12 hown hK hP 0 rfl rfl 14 (by decide) (ha _ q974) (fun _ h9 => h9) rfl dX12_digit_102 ?_
              refine lv_iconst (v := 2) hx hb dX12_digit_105 (by decide) ?_
              refine lv_icmp_ne (tgt := 113) hx hb dX12_digit_106 (by decide) (fun c11 => ?_) (fun c11 => ?_)
              · have h := br_neg c11 h
                refine lv_iconst (v := 0) hx hb dX12_digit_113 (by decide) ?_
                cases h
                exact rt_i S hr hlk hP hD hS dX12_digit_114
              · have h := br_pos c11 h
                refine lv_iconst (v := (-1)) hx hb dX12_digit_109 (by decide) ?_
                refine lv_goto (tgt := 114) hx hb dX12_digit_110 (by decide) ?_
                cases h
                exact rt_i S hr hlk hP hD hS dX12_digit_114
          · have h := br_neg c8 h
            refine lv_aload_n hx hb dX12_digit_62 rfl (lv_at hl 1 rfl) ?_
            refine va_get (D := D) (ci := 12) (v := .int t_ahead) (C := RX12) (T := TX12) (N := 61) hx hb ha ix12 hown hK hP 0 rfl rfl 16 (by decide) (ha _ q976) (fun _ h9 => h9) rfl dX12_digit_63 ?_
            refine lv_i2l (v := t_ahead.toInt64) hx hb dX12_digit_66 rfl ?_
            refine lv_lconst (v := 1) hx hb dX12_digit_67 (by decide) ?_
            refine lv_ladd hx hb dX12_digit_68 ?_
            refine lv_lload_n hx hb dX12_digit_69 rfl (lv_at hl 0 rfl) ?_
            refine lv_aload_n hx hb dX12_digit_70 rfl (lv_at hl 1 rfl) ?_
            refine va_get (D := D) (ci := 12) (v := .int t_ahead) (C := RX12) (T := TX12) (N := 61) hx hb ha ix12 hown hK hP 0 rfl rfl 16 (by decide) (ha _ q976) (fun _ h9 => h9) rfl dX12_digit_71 ?_
            refine lv_i2l (v := t_ahead.toInt64) hx hb dX12_digit_74 rfl ?_
            refine lv_lsub hx hb dX12_digit_75 ?_
            refine lv_lconst (v := 1) hx hb dX12_digit_76 (by decide) ?_
            refine lv_lsub hx hb dX12_digit_77 ?_
            refine lv_aload_n hx hb dX12_digit_78 rfl (lv_at hl 1 rfl) ?_
            refine va_get (D := D) (ci := 12) (v := .int t_round) (C := RX12) (T := TX12) (N := 61) hx hb ha ix12 hown hK hP 0 rfl rfl 17 (by decide) (ha _ q977) (fun _ h9 => h9) rfl dX12_digit_79 ?_
            refine lv_i2l (v := t_round.toInt64) hx hb dX12_digit_82 rfl ?_
            obtain ⟨n12, h⟩ := nzL_ok h
            refine lv_lrem hx hb dX12_digit_83 n12 ?_
            refine lv_ladd hx hb dX12_digit_84 ?_
            refine lv_lstore_n (lv' := [(2, .long ((t_ahead.toInt64 + 1) + ((((-l1.toInt64) - t_ahead.toInt64) - 1) - (((-l1.toInt64) - t_ahead.toInt64) - 1) / t_round.toInt64 * t_round.toInt64))), (0, .ref h_t), (1, .int l1)]) hx hb dX12_digit_85 rfl hl (by decide) rfl (fun ls hl => ?_)
            refine lv_lload_n hx hb dX12_digit_86 rfl (lv_at hl 0 rfl) ?_
            refine lv_aload_n hx hb dX12_digit_87 rfl (lv_at hl 1 rfl) ?_
            refine va_get (D := D) (ci := 12) (v := .int t_ahead) (C := RX12) (T := TX12) (N := 61) hx hb ha ix12 hown hK hP 0 rfl rfl 16 (by decide) (ha _ q976) (fun _ h9 => h9) rfl dX12_digit_88 ?_
            refine lv_aload_n hx hb dX12_digit_91 rfl (lv_at hl 1 rfl) ?_
            refine va_get (D := D) (ci := 12) (v := .int t_round) (C := RX12) (T := TX12) (N := 61) hx hb ha ix12 hown hK hP 0 rfl rfl 17 (by decide) (ha _ q977) (fun _ h9 => h9) rfl dX12_digit_92 ?_
            refine lv_iadd hx hb dX12_digit_95 ?_
            refine lv_i2l (v := (t_ahead + t_round).toInt64) hx hb dX12_digit_96 rfl ?_
            refine xl_le (tgt := 115) hx hb dX12_digit_97 dX12_digit_98 (by decide) (fun c13 => ?_) (fun c13 => ?_)
            · have h := br_pos c13 h
              refine lv_aload_n hx hb dX12_digit_115 rfl (lv_at hl 1 rfl) ?_
              refine va_get (D := D) (ci := 12) (v := .ref h_t_digit) (C := RX12) (T := TX12) (N := 61) hx hb ha ix12 hown hK hP 0 rfl rfl 19 (by decide) (ha _ q979) (fun _ h9 => h9) rfl dX12_digit_116 ?_
              refine lv_aload_n hx hb dX12_digit_119 rfl (lv_at hl 1 rfl) ?_
              refine va_get (D := D) (ci := 12) (v := .int t_top) (C := RX12) (T := TX12) (N := 61) hx hb ha ix12 hown hK hP 0 rfl rfl 15 (by decide) (ha _ q975) (fun _ h9 => h9) rfl dX12_digit_120 ?_
              refine lv_lload_n hx hb dX12_digit_123 rfl (lv_at hl 0 rfl) ?_
              refine lv_l2i (v := ((t_ahead.toInt64 + 1) + ((((-l1.toInt64) - t_ahead.toInt64) - 1) - (((-l1.toInt64) - t_ahead.toInt64) - 1) / t_round.toInt64 * t_round.toInt64)).toInt32) hx hb dX12_digit_124 rfl ?_
              refine lv_iadd hx hb dX12_digit_125 ?_
              obtain ⟨i14, h⟩ := ix_ok h
              refine va_lald hx hb hK hP 1 0 rfl rfl i14 dX12_digit_126 ?_
              refine lv_l2i (v := (t_digit (t_top + ((t_ahead.toInt64 + 1) + ((((-l1.toInt64) - t_ahead.toInt64) - 1) - (((-l1.toInt64) - t_ahead.toInt64) - 1) / t_round.toInt64 * t_round.toInt64)).toInt32).toNatClampNeg).toInt32) hx hb dX12_digit_127 rfl ?_
              cases h
              exact rt_i S hr hlk hP hD hS dX12_digit_128
            · have h := br_neg c13 h
              refine lv_aload_n hx hb dX12_digit_101 rfl (lv_at hl 1 rfl) ?_
              refine va_get (D := D) (ci := 12) (v := .int t_result) (C := RX12) (T := TX12) (N := 61) hx hb ha ix12 hown hK hP 0 rfl rfl 14 (by decide) (ha _ q974) (fun _ h9 => h9) rfl dX12_digit_102 ?_
              refine lv_iconst (v := 2) hx hb dX12_digit_105 (by decide) ?_
              refine lv_icmp_ne (tgt := 113) hx hb dX12_digit_106 (by decide) (fun c15 => ?_) (fun c15 => ?_)
              · have h := br_neg c15 h
                refine lv_iconst (v := 0) hx hb dX12_digit_113 (by decide) ?_
                cases h
                exact rt_i S hr hlk hP hD hS dX12_digit_114
              · have h := br_pos c15 h
                refine lv_iconst (v := (-1)) hx hb dX12_digit_109 (by decide) ?_
                refine lv_goto (tgt := 114) hx hb dX12_digit_110 (by decide) ?_
                cases h
                exact rt_i S hr hlk hP hD hS dX12_digit_114
      · have h := br_neg c3 h
        refine lv_aload_n hx hb dX12_digit_28 rfl (lv_at hl 0 rfl) ?_
        refine va_get (D := D) (ci := 12) (v := .ref h_t_digit) (C := RX12) (T := TX12) (N := 61) hx hb ha ix12 hown hK hP 0 rfl rfl 19 (by decide) (ha _ q979) (fun _ h9 => h9) rfl dX12_digit_29 ?_
        refine lv_aload_n hx hb dX12_digit_32 rfl (lv_at hl 0 rfl) ?_
        refine va_get (D := D) (ci := 12) (v := .int t_top) (C := RX12) (T := TX12) (N := 61) hx hb ha ix12 hown hK hP 0 rfl rfl 15 (by decide) (ha _ q975) (fun _ h9 => h9) rfl dX12_digit_33 ?_
        refine lv_iload_n hx hb dX12_digit_36 rfl (lv_at hl 1 rfl) ?_
        refine lv_isub hx hb dX12_digit_37 ?_
        obtain ⟨i16, h⟩ := ix_ok h
        refine va_lald hx hb hK hP 1 0 rfl rfl i16 dX12_digit_38 ?_
        refine lv_l2i (v := (t_digit (t_top - l1).toNatClampNeg).toInt32) hx hb dX12_digit_39 rfl ?_
        cases h
        exact rt_i S hr hlk hP hD hS dX12_digit_40
    · have h := br_neg c2 h
      refine lv_iconst (v := 0) hx hb dX12_digit_22 (by decide) ?_
      cases h
      exact rt_i S hr hlk hP hD hS dX12_digit_23
  · have h := br_pos c1 h
    refine lv_iconst (v := (-1)) hx hb dX12_digit_12 (by decide) ?_
    cases h
    exact rt_i S hr hlk hP hD hS dX12_digit_13
noncomputable def f_X12_power_L11 (l1 : Int32) (t_a : Int32) (t_b : Int32) : Nat → Int32 → Int32 → Int64 → Int64 → Int64 →  Option (Int32 × Int64 × Int64 × Int64)
  | 0, _, _, _, _, _ => none
  | n + 1, l2, l3, t_u, t_v, t_d => (
    if 0 ≤ l1 then (
     if l1 ≤ l3 then (
      some (l2, t_u, t_v, t_d)
     ) else (
      if l2 = 0 then (
       some (l2, t_u, t_v, t_d)
      ) else (
       if l1 ≤ 0 then (
        bnd3 (f_X12_times t_a t_b t_u t_v t_d ((-t_a).toInt64) 1 t_b.toInt64) fun t_u_c56_5 t_v_c56_5 t_d_c56_5 => (
         bnd1 (f_X12_isNumber t_u_c56_5 t_v_c56_5 t_d_c56_5) fun r_c60_6 => (
          f_X12_power_L11 l1 t_a t_b n r_c60_6 (l3 + 1) t_u_c56_5 t_v_c56_5 t_d_c56_5
         )
        )
       ) else (
        bnd3 (f_X12_times t_a t_b t_u t_v t_d 0 1 1) fun t_u_c37_7 t_v_c37_7 t_d_c37_7 => (
         bnd1 (f_X12_isNumber t_u_c37_7 t_v_c37_7 t_d_c37_7) fun r_c60_8 => (
          f_X12_power_L11 l1 t_a t_b n r_c60_8 (l3 + 1) t_u_c37_7 t_v_c37_7 t_d_c37_7
         )
        )
       )
      )
     )
    ) else (
     if (-l1) ≤ l3 then (
      some (l2, t_u, t_v, t_d)
     ) else (
      if l2 = 0 then (
       some (l2, t_u, t_v, t_d)
      ) else (
       if l1 ≤ 0 then (
        bnd3 (f_X12_times t_a t_b t_u t_v t_d ((-t_a).toInt64) 1 t_b.toInt64) fun t_u_c56_12 t_v_c56_12 t_d_c56_12 => (
         bnd1 (f_X12_isNumber t_u_c56_12 t_v_c56_12 t_d_c56_12) fun r_c60_13 => (
          f_X12_power_L11 l1 t_a t_b n r_c60_13 (l3 + 1) t_u_c56_12 t_v_c56_12 t_d_c56_12
         )
        )
       ) else (
        bnd3 (f_X12_times t_a t_b t_u t_v t_d 0 1 1) fun t_u_c37_14 t_v_c37_14 t_d_c37_14 => (
         bnd1 (f_X12_isNumber t_u_c37_14 t_v_c37_14 t_d_c37_14) fun r_c60_15 => (
          f_X12_power_L11 l1 t_a t_b n r_c60_15 (l3 + 1) t_u_c37_14 t_v_c37_14 t_d_c37_14
         )
        )
       )
      )
     )
    ))
noncomputable def f_X12_power (t_a : Int32) (t_b : Int32) (t_u : Int64) (t_v : Int64) (t_d : Int64) (l1 : Int32) : Option (Int32 × Int64 × Int64 × Int64) :=
  bnd3 (f_X12_set t_u t_v t_d 1 0 1) fun t_u_c4_0 t_v_c4_0 t_d_c4_0 => (
   bnd4 (f_X12_power_L11 l1 t_a t_b FU 1 0 t_u_c4_0 t_v_c4_0 t_d_c4_0) fun x2_L11_16 x_t_u_L11_16 x_t_v_L11_16 x_t_d_L11_16 => (
    gd (bz x2_L11_16) (
     some (x2_L11_16, x_t_u_L11_16, x_t_v_L11_16, x_t_d_L11_16)
    )
   )
  )
set_option maxHeartbeats 4000000 in
set_option maxRecDepth 100000 in
theorem c_X12_power (l : Launch) (D : va_G) (R : va_W) (h_t : Nat) (z_t_0 : Value) (z_t_1 : Value) (z_t_2 : Value) (t_a : Int32) (t_b : Int32) (z_t_5 : Value) (z_t_6 : Value) (z_t_7 : Value) (z_t_8 : Value) (z_t_9 : Value) (t_u : Int64) (t_v : Int64) (t_d : Int64) (z_t_13 : Value) (z_t_14 : Value) (z_t_15 : Value) (z_t_16 : Value) (z_t_17 : Value) (z_t_18 : Value) (z_t_19 : Value) (z_t_20 : Value) (z_t_21 : Value) (z_t_22 : Value) (z_t_23 : Value) (z_t_24 : Value) (z_t_25 : Value) (z_t_26 : Value) (z_t_27 : Value) (z_t_28 : Value) (z_t_29 : Value) (z_t_30 : Value) (z_t_31 : Value) (z_t_32 : Value) (z_t_33 : Value) (z_t_34 : Value) (z_t_35 : Value) (z_t_36 : Value) (z_t_37 : Value) (z_t_38 : Value) (z_t_39 : Value) (z_t_40 : Value) (z_t_41 : Value) (z_t_42 : Value) (z_t_43 : Value) (z_t_44 : Value) (z_t_45 : Value) (z_t_46 : Value) (z_t_47 : Value) (z_t_48 : Value) (z_t_49 : Value) (z_t_50 : Value) (z_t_51 : Value) (z_t_52 : Value) (z_t_53 : Value) (z_t_54 : Value) (z_t_55 : Value) (z_t_56 : Value) (z_t_57 : Value) (z_t_58 : Value) (z_t_59 : Value) (z_t_60 : Value) (l1 : Int32) (r : Int32) (o_t_u : Int64) (o_t_v : Int64) (o_t_d : Int64)  (h : f_X12_power t_a t_b t_u t_v t_d l1 = some (r, o_t_u, o_t_v, o_t_d)) (sz : Nat) : Met l yX12_power (WD yX12_power cX12_power 4 (some .boolean)) ({ frames := 3, cells := 0, slots := 0, locals := 83 }) (va_Pc [.ref h_t, .int l1] (PcW D [] ((h_t, .inr (12, (z_t_0 :: z_t_1 :: z_t_2 :: .int t_a :: .int t_b :: z_t_5 :: z_t_6 :: z_t_7 :: z_t_8 :: z_t_9 :: .long t_u :: .long t_v :: .long t_d :: z_t_13 :: z_t_14 :: z_t_15 :: z_t_16 :: z_t_17 :: z_t_18 :: z_t_19 :: z_t_20 :: z_t_21 :: z_t_22 :: z_t_23 :: z_t_24 :: z_t_25 :: z_t_26 :: z_t_27 :: z_t_28 :: z_t_29 :: z_t_30 :: z_t_31 :: z_t_32 :: z_t_33 :: z_t_34 :: z_t_35 :: z_t_36 :: z_t_37 :: z_t_38 :: z_t_39 :: z_t_40 :: z_t_41 :: z_t_42 :: z_t_43 :: z_t_44 :: z_t_45 :: z_t_46 :: z_t_47 :: z_t_48 :: z_t_49 :: z_t_50 :: z_t_51 :: z_t_52 :: z_t_53 :: z_t_54 :: z_t_55 :: z_t_56 :: z_t_57 :: z_t_58 :: z_t_59 :: z_t_60 :: []))) :: R) sz)) (QZ D r ((h_t, .inr (12, (z_t_0 :: z_t_1 :: z_t_2 :: .int t_a :: .int t_b :: z_t_5 :: z_t_6 :: z_t_7 :: z_t_8 :: z_t_9 :: .long o_t_u :: .long o_t_v :: .long o_t_d :: z_t_13 :: z_t_14 :: z_t_15 :: z_t_16 :: z_t_17 :: z_t_18 :: z_t_19 :: z_t_20 :: z_t_21 :: z_t_22 :: z_t_23 :: z_t_24 :: z_t_25 :: z_t_26 :: z_t_27 :: z_t_28 :: z_t_29 :: z_t_30 :: z_t_31 :: z_t_32 :: z_t_33 :: z_t_34 :: z_t_35 :: z_t_36 :: z_t_37 :: z_t_38 :: z_t_39 :: z_t_40 :: z_t_41 :: z_t_42 :: z_t_43 :: z_t_44 :: z_t_45 :: z_t_46 :: z_t_47 :: z_t_48 :: z_t_49 :: z_t_50 :: z_t_51 :: z_t_52 :: z_t_53 :: z_t_54 :: z_t_55 :: z_t_56 :: z_t_57 :: z_t_58 :: z_t_59 :: z_t_60 :: []))) :: R) (va_A ((h_t, .inr (12, (z_t_0 :: z_t_1 :: z_t_2 :: .int t_a :: .int t_b :: z_t_5 :: z_t_6 :: z_t_7 :: z_t_8 :: z_t_9 :: .long t_u :: .long t_v :: .long t_d :: z_t_13 :: z_t_14 :: z_t_15 :: z_t_16 :: z_t_17 :: z_t_18 :: z_t_19 :: z_t_20 :: z_t_21 :: z_t_22 :: z_t_23 :: z_t_24 :: z_t_25 :: z_t_26 :: z_t_27 :: z_t_28 :: z_t_29 :: z_t_30 :: z_t_31 :: z_t_32 :: z_t_33 :: z_t_34 :: z_t_35 :: z_t_36 :: z_t_37 :: z_t_38 :: z_t_39 :: z_t_40 :: z_t_41 :: z_t_42 :: z_t_43 :: z_t_44 :: z_t_45 :: z_t_46 :: z_t_47 :: z_t_48 :: z_t_49 :: z_t_50 :: z_t_51 :: z_t_52 :: z_t_53 :: z_t_54 :: z_t_55 :: z_t_56 :: z_t_57 :: z_t_58 :: z_t_59 :: z_t_60 :: []))) :: R) sz)) 0 0 (va_A ((h_t, .inr (12, (z_t_0 :: z_t_1 :: z_t_2 :: .int t_a :: .int t_b :: z_t_5 :: z_t_6 :: z_t_7 :: z_t_8 :: z_t_9 :: .long t_u :: .long t_v :: .long t_d :: z_t_13 :: z_t_14 :: z_t_15 :: z_t_16 :: z_t_17 :: z_t_18 :: z_t_19 :: z_t_20 :: z_t_21 :: z_t_22 :: z_t_23 :: z_t_24 :: z_t_25 :: z_t_26 :: z_t_27 :: z_t_28 :: z_t_29 :: z_t_30 :: z_t_31 :: z_t_32 :: z_t_33 :: z_t_34 :: z_t_35 :: z_t_36 :: z_t_37 :: z_t_38 :: z_t_39 :: z_t_40 :: z_t_41 :: z_t_42 :: z_t_43 :: z_t_44 :: z_t_45 :: z_t_46 :: z_t_47 :: z_t_48 :: z_t_49 :: z_t_50 :: z_t_51 :: z_t_52 :: z_t_53 :: z_t_54 :: z_t_55 :: z_t_56 :: z_t_57 :: z_t_58 :: z_t_59 :: z_t_60 :: []))) :: R) sz) := by
  refine ct_start (QF := fun A => QZ D r ((h_t, .inr (12, (z_t_0 :: z_t_1 :: z_t_2 :: .int t_a :: .int t_b :: z_t_5 :: z_t_6 :: z_t_7 :: z_t_8 :: z_t_9 :: .long o_t_u :: .long o_t_v :: .long o_t_d :: z_t_13 :: z_t_14 :: z_t_15 :: z_t_16 :: z_t_17 :: z_t_18 :: z_t_19 :: z_t_20 :: z_t_21 :: z_t_22 :: z_t_23 :: z_t_24 :: z_t_25 :: z_t_26 :: z_t_27 :: z_t_28 :: z_t_29 :: z_t_30 :: z_t_31 :: z_t_32 :: z_t_33 :: z_t_34 :: z_t_35 :: z_t_36 :: z_t_37 :: z_t_38 :: z_t_39 :: z_t_40 :: z_t_41 :: z_t_42 :: z_t_43 :: z_t_44 :: z_t_45 :: z_t_46 :: z_t_47 :: z_t_48 :: z_t_49 :: z_t_50 :: z_t_51 :: z_t_52 :: z_t_53 :: z_t_54 :: z_t_55 :: z_t_56 :: z_t_57 :: z_t_58 :: z_t_59 :: z_t_60 :: []))) :: R) A) ?_ ?_ ?_
  · decide +kernel
  · exact Nat.le_of_ble_eq_true rfl
  intro p e s m args below meth c A ls S hr hlk hnm hS hA hP hD hK hN hl
  have S : CallFix p m c cX12_power 4 s args AL "DigitBenchModel" := S
  have hx := S.1
  have hb := S.2.1
  have hown := S.2.2.2.1
  have ha := S.2.2.2.2
  have hl : lv_has ls 4 [(0, .ref h_t), (1, .int l1)] := hl
  have L11 : ∀ (Q : State → Prop) (n : Nat) (l1 : Int32) (l2 : Int32) (l3 : Int32) (t_u : Int64) (t_v : Int64) (t_d : Int64) (x2 : Int32) (x_t_u : Int64) (x_t_v : Int64) (x_t_d : Int64), f_X12_power_L11 l1 t_a t_b n l2 l3 t_u t_v t_d = some (x2, x_t_u, x_t_v, x_t_d) → ∀ (H : Heap) (locs : List Loc) (ls : Array Slot), va_P D vwCl ((h_t, .inr (12, (z_t_0 :: z_t_1 :: z_t_2 :: .int t_a :: .int t_b :: z_t_5 :: z_t_6 :: z_t_7 :: z_t_8 :: z_t_9 :: .long t_u :: .long t_v :: .long t_d :: z_t_13 :: z_t_14 :: z_t_15 :: z_t_16 :: z_t_17 :: z_t_18 :: z_t_19 :: z_t_20 :: z_t_21 :: z_t_22 :: z_t_23 :: z_t_24 :: z_t_25 :: z_t_26 :: z_t_27 :: z_t_28 :: z_t_29 :: z_t_30 :: z_t_31 :: z_t_32 :: z_t_33 :: z_t_34 :: z_t_35 :: z_t_36 :: z_t_37 :: z_t_38 :: z_t_39 :: z_t_40 :: z_t_41 :: z_t_42 :: z_t_43 :: z_t_44 :: z_t_45 :: z_t_46 :: z_t_47 :: z_t_48 :: z_t_49 :: z_t_50 :: z_t_51 :: z_t_52 :: z_t_53 :: z_t_54 :: z_t_55 :: z_t_56 :: z_t_57 :: z_t_58 :: z_t_59 :: z_t_60 :: []))) :: R) H → va_D A ((h_t, .inr (12, (z_t_0 :: z_t_1 :: z_t_2 :: .int t_a :: .int t_b :: z_t_5 :: z_t_6 :: z_t_7 :: z_t_8 :: z_t_9 :: .long t_u :: .long t_v :: .long t_d :: z_t_13 :: z_t_14 :: z_t_15 :: z_t_16 :: z_t_17 :: z_t_18 :: z_t_19 :: z_t_20 :: z_t_21 :: z_t_22 :: z_t_23 :: z_t_24 :: z_t_25 :: z_t_26 :: z_t_27 :: z_t_28 :: z_t_29 :: z_t_30 :: z_t_31 :: z_t_32 :: z_t_33 :: z_t_34 :: z_t_35 :: z_t_36 :: z_t_37 :: z_t_38 :: z_t_39 :: z_t_40 :: z_t_41 :: z_t_42 :: z_t_43 :: z_t_44 :: z_t_45 :: z_t_46 :: z_t_47 :: z_t_48 :: z_t_49 :: z_t_50 :: z_t_51 :: z_t_52 :: z_t_53 :: z_t_54 :: z_t_55 :: z_t_56 :: z_t_57 :: z_t_58 :: z_t_59 :: z_t_60 :: []))) :: R) → va_S A s.heap H locs → lv_has ls 4 [(0, .ref h_t), (1, .int l1), (2, .int l2), (3, .int l3)] → (∀ (H : Heap) (locs : List Loc) (ls : Array Slot), va_P D vwCl ((h_t, .inr (12, (z_t_0 :: z_t_1 :: z_t_2 :: .int t_a :: .int t_b :: z_t_5 :: z_t_6 :: z_t_7 :: z_t_8 :: z_t_9 :: .long x_t_u :: .long x_t_v :: .long x_t_d :: z_t_13 :: z_t_14 :: z_t_15 :: z_t_16 :: z_t_17 :: z_t_18 :: z_t_19 :: z_t_20 :: z_t_21 :: z_t_22 :: z_t_23 :: z_t_24 :: z_t_25 :: z_t_26 :: z_t_27 :: z_t_28 :: z_t_29 :: z_t_30 :: z_t_31 :: z_t_32 :: z_t_33 :: z_t_34 :: z_t_35 :: z_t_36 :: z_t_37 :: z_t_38 :: z_t_39 :: z_t_40 :: z_t_41 :: z_t_42 :: z_t_43 :: z_t_44 :: z_t_45 :: z_t_46 :: z_t_47 :: z_t_48 :: z_t_49 :: z_t_50 :: z_t_51 :: z_t_52 :: z_t_53 :: z_t_54 :: z_t_55 :: z_t_56 :: z_t_57 :: z_t_58 :: z_t_59 :: z_t_60 :: []))) :: R) H → va_D A ((h_t, .inr (12, (z_t_0 :: z_t_1 :: z_t_2 :: .int t_a :: .int t_b :: z_t_5 :: z_t_6 :: z_t_7 :: z_t_8 :: z_t_9 :: .long x_t_u :: .long x_t_v :: .long x_t_d :: z_t_13 :: z_t_14 :: z_t_15 :: z_t_16 :: z_t_17 :: z_t_18 :: z_t_19 :: z_t_20 :: z_t_21 :: z_t_22 :: z_t_23 :: z_t_24 :: z_t_25 :: z_t_26 :: z_t_27 :: z_t_28 :: z_t_29 :: z_t_30 :: z_t_31 :: z_t_32 :: z_t_33 :: z_t_34 :: z_t_35 :: z_t_36 :: z_t_37 :: z_t_38 :: z_t_39 :: z_t_40 :: z_t_41 :: z_t_42 :: z_t_43 :: z_t_44 :: z_t_45 :: z_t_46 :: z_t_47 :: z_t_48 :: z_t_49 :: z_t_50 :: z_t_51 :: z_t_52 :: z_t_53 :: z_t_54 :: z_t_55 :: z_t_56 :: z_t_57 :: z_t_58 :: z_t_59 :: z_t_60 :: []))) :: R) → va_S A s.heap H locs → lv_has ls 4 [(2, .int x2)] → W p l e { frames := 3, cells := 0, slots := 0, locals := 83 } s m args below meth c H locs 0 0 Q (F0 m 70 ls [])) → W p l e { frames := 3, cells := 0, slots := 0, locals := 83 } s m args below meth c H locs 0 0 Q (F0 m 11 ls []) := by
    intro Q n
    induction n with
    | zero =>
      intro l1 l2 l3 t_u t_v t_d x2 x_t_u x_t_v x_t_d h
      rw [f_X12_power_L11] at h; cases h
    | succ n ih =>
      intro l1 l2 l3 t_u t_v t_d x2 x_t_u x_t_v x_t_d h H locs ls hP hD hS hl kk0
      rw [f_X12_power_L11] at h
      refine lv_iload_n hx hb dX12_power_11 rfl (lv_at hl 3 rfl) ?_
      refine lv_iload_n hx hb dX12_power_12 rfl (lv_at hl 1 rfl) ?_
      refine lv_if_ge (tgt := 21) hx hb dX12_power_13 (by decide) (fun c2 => ?_) (fun c2 => ?_)
      · have h := br_pos c2 h
        refine lv_iload_n hx hb dX12_power_21 rfl (lv_at hl 1 rfl) ?_
        refine lv_icmp_ge (tgt := 70) hx hb dX12_power_22 (by decide) (fun c3 => ?_) (fun c3 => ?_)
        · have h := br_pos c3 h
          cases h
          exact kk0 _ _ _ hP hD hS (lv_sub hl [2] rfl)
        · have h := br_neg c3 h
          refine lv_iload_n hx hb dX12_power_25 rfl (lv_at hl 2 rfl) ?_
          refine lv_if_eq (tgt := 70) hx hb dX12_power_26 (by decide) (fun c4 => ?_) (fun c4 => ?_)
          · have h := br_pos c4 h
            cases h
            exact kk0 _ _ _ hP hD hS (lv_sub hl [2] rfl)
          · have h := br_neg c4 h
            refine lv_iload_n hx hb dX12_power_29 rfl (lv_at hl 1 rfl) ?_
            refine lv_if_le (tgt := 43) hx hb dX12_power_30 (by decide) (fun c5 => ?_) (fun c5 => ?_)
            · have h := br_pos c5 h
              refine lv_aload_n hx hb dX12_power_43 rfl (lv_at hl 0 rfl) ?_
              refine lv_aload_n hx hb dX12_power_44 rfl (lv_at hl 0 rfl) ?_
              refine va_get (D := D) (ci := 12) (v := .int t_a) (C := RX12) (T := TX12) (N := 61) hx hb ha ix12 hown hK hP 0 rfl rfl 3 (by decide) (ha _ q963) (fun _ h9 => h9) rfl dX12_power_45 ?_
              refine lv_ineg hx hb dX12_power_48 ?_
              refine lv_i2l (v := (-t_a).toInt64) hx hb dX12_power_49 rfl ?_
              refine lv_lconst (v := 1) hx hb dX12_power_50 (by decide) ?_
              refine lv_aload_n hx hb dX12_power_51 rfl (lv_at hl 0 rfl) ?_
              refine va_get (D := D) (ci := 12) (v := .int t_b) (C := RX12) (T := TX12) (N := 61) hx hb ha ix12 hown hK hP 0 rfl rfl 4 (by decide) (ha _ q964) (fun _ h9 => h9) rfl dX12_power_52 ?_
              refine lv_i2l (v := t_b.toInt64) hx hb dX12_power_55 rfl ?_
              obtain ⟨t_u_c56_5, t_v_c56_5, t_d_c56_5, e_c56_5, h⟩ := bnd3_ok h
              refine cl_v (rn_v (ci := 12) (As := [.long (-t_a).toInt64, .long 1, .long t_b.toInt64]) (rest := []) S (c_X12_times l D (R) h_t (z_t_0) (z_t_1) (z_t_2) t_a t_b (z_t_5) (z_t_6) (z_t_7) (z_t_8) (z_t_9) t_u t_v t_d (z_t_13) (z_t_14) (z_t_15) (z_t_16) (z_t_17) (z_t_18) (z_t_19) (z_t_20) (z_t_21) (z_t_22) (z_t_23) (z_t_24) (z_t_25) (z_t_26) (z_t_27) (z_t_28) (z_t_29) (z_t_30) (z_t_31) (z_t_32) (z_t_33) (z_t_34) (z_t_35) (z_t_36) (z_t_37) (z_t_38) (z_t_39) (z_t_40) (z_t_41) (z_t_42) (z_t_43) (z_t_44) (z_t_45) (z_t_46) (z_t_47) (z_t_48) (z_t_49) (z_t_50) (z_t_51) (z_t_52) (z_t_53) (z_t_54) (z_t_55) (z_t_56) (z_t_57) (z_t_58) (z_t_59) (z_t_60) ((-t_a).toInt64) 1 t_b.toInt64 t_u_c56_5 t_v_c56_5 t_d_c56_5 e_c56_5 _) q1202 q1204 q32 q61 q1205 nd_X12_times ⟨Nat.le_of_ble_eq_true rfl, Nat.le_of_ble_eq_true rfl⟩ rfl rfl hP hD (hK.sub (tys' := []) [] rfl) hN rfl ⟨0, _, rfl⟩ rfl hl.1 rfl (Nat.le_of_ble_eq_true rfl) dX12_power_56 ⟨Nat.le_of_ble_eq_true rfl, Nat.le_of_ble_eq_true rfl⟩) hS hA hD (fun H locs hP hD hS => ?_)
              have hP : va_P D vwCl ((h_t, .inr (12, (z_t_0 :: z_t_1 :: z_t_2 :: .int t_a :: .int t_b :: z_t_5 :: z_t_6 :: z_t_7 :: z_t_8 :: z_t_9 :: .long t_u_c56_5 :: .long t_v_c56_5 :: .long t_d_c56_5 :: z_t_13 :: z_t_14 :: z_t_15 :: z_t_16 :: z_t_17 :: z_t_18 :: z_t_19 :: z_t_20 :: z_t_21 :: z_t_22 :: z_t_23 :: z_t_24 :: z_t_25 :: z_t_26 :: z_t_27 :: z_t_28 :: z_t_29 :: z_t_30 :: z_t_31 :: z_t_32 :: z_t_33 :: z_t_34 :: z_t_35 :: z_t_36 :: z_t_37 :: z_t_38 :: z_t_39 :: z_t_40 :: z_t_41 :: z_t_42 :: z_t_43 :: z_t_44 :: z_t_45 :: z_t_46 :: z_t_47 :: z_t_48 :: z_t_49 :: z_t_50 :: z_t_51 :: z_t_52 :: z_t_53 :: z_t_54 :: z_t_55 :: z_t_56 :: z_t_57 :: z_t_58 :: z_t_59 :: z_t_60 :: []))) :: R) H := hP
              have hD : va_D A ((h_t, .inr (12, (z_t_0 :: z_t_1 :: z_t_2 :: .int t_a :: .int t_b :: z_t_5 :: z_t_6 :: z_t_7 :: z_t_8 :: z_t_9 :: .long t_u_c56_5 :: .long t_v_c56_5 :: .long t_d_c56_5 :: z_t_13 :: z_t_14 :: z_t_15 :: z_t_16 :: z_t_17 :: z_t_18 :: z_t_19 :: z_t_20 :: z_t_21 :: z_t_22 :: z_t_23 :: z_t_24 :: z_t_25 :: z_t_26 :: z_t_27 :: z_t_28 :: z_t_29 :: z_t_30 :: z_t_31 :: z_t_32 :: z_t_33 :: z_t_34 :: z_t_35 :: z_t_36 :: z_t_37 :: z_t_38 :: z_t_39 :: z_t_40 :: z_t_41 :: z_t_42 :: z_t_43 :: z_t_44 :: z_t_45 :: z_t_46 :: z_t_47 :: z_t_48 :: z_t_49 :: z_t_50 :: z_t_51 :: z_t_52 :: z_t_53 :: z_t_54 :: z_t_55 :: z_t_56 :: z_t_57 :: z_t_58 :: z_t_59 :: z_t_60 :: []))) :: R) := hD
              refine lv_aload_n hx hb dX12_power_59 rfl (lv_at hl 0 rfl) ?_
              obtain ⟨r_c60_6, e_c60_6, h⟩ := bnd1_ok h
              refine cl_z (rn_v (ci := 12) (As := []) (rest := []) S (c_X12_isNumber l D (R) h_t (z_t_0) (z_t_1) (z_t_2) (.int t_a) (.int t_b) (z_t_5) (z_t_6) (z_t_7) (z_t_8) (z_t_9) t_u_c56_5 t_v_c56_5 t_d_c56_5 (z_t_13) (z_t_14) (z_t_15) (z_t_16) (z_t_17) (z_t_18) (z_t_19) (z_t_20) (z_t_21) (z_t_22) (z_t_23) (z_t_24) (z_t_25) (z_t_26) (z_t_27) (z_t_28) (z_t_29) (z_t_30) (z_t_31) (z_t_32) (z_t_33) (z_t_34) (z_t_35) (z_t_36) (z_t_37) (z_t_38) (z_t_39) (z_t_40) (z_t_41) (z_t_42) (z_t_43) (z_t_44) (z_t_45) (z_t_46) (z_t_47) (z_t_48) (z_t_49) (z_t_50) (z_t_51) (z_t_52) (z_t_53) (z_t_54) (z_t_55) (z_t_56) (z_t_57) (z_t_58) (z_t_59) (z_t_60) r_c60_6 e_c60_6 _) q1183 q1185 q29 q61 q1186 nd_X12_isNumber ⟨Nat.le_of_ble_eq_true rfl, Nat.le_of_ble_eq_true rfl⟩ rfl rfl hP hD (hK.sub (tys' := []) [] rfl) hN rfl ⟨0, _, rfl⟩ rfl hl.1 rfl (Nat.le_of_ble_eq_true rfl) dX12_power_60 ⟨Nat.le_of_ble_eq_true rfl, Nat.le_of_ble_eq_true rfl⟩) hS hA hD (fun H locs hP hD hS z_c60_6 => ?_)
              have hP : va_P D vwCl ((h_t, .inr (12, (z_t_0 :: z_t_1 :: z_t_2 :: .int t_a :: .int t_b :: z_t_5 :: z_t_6 :: z_t_7 :: z_t_8 :: z_t_9 :: .long t_u_c56_5 :: .long t_v_c56_5 :: .long t_d_c56_5 :: z_t_13 :: z_t_14 :: z_t_15 :: z_t_16 :: z_t_17 :: z_t_18 :: z_t_19 :: z_t_20 :: z_t_21 :: z_t_22 :: z_t_23 :: z_t_24 :: z_t_25 :: z_t_26 :: z_t_27 :: z_t_28 :: z_t_29 :: z_t_30 :: z_t_31 :: z_t_32 :: z_t_33 :: z_t_34 :: z_t_35 :: z_t_36 :: z_t_37 :: z_t_38 :: z_t_39 :: z_t_40 :: z_t_41 :: z_t_42 :: z_t_43 :: z_t_44 :: z_t_45 :: z_t_46 :: z_t_47 :: z_t_48 :: z_t_49 :: z_t_50 :: z_t_51 :: z_t_52 :: z_t_53 :: z_t_54 :: z_t_55 :: z_t_56 :: z_t_57 :: z_t_58 :: z_t_59 :: z_t_60 :: []))) :: R) H := hP
              have hD : va_D A ((h_t, .inr (12, (z_t_0 :: z_t_1 :: z_t_2 :: .int t_a :: .int t_b :: z_t_5 :: z_t_6 :: z_t_7 :: z_t_8 :: z_t_9 :: .long t_u_c56_5 :: .long t_v_c56_5 :: .long t_d_c56_5 :: z_t_13 :: z_t_14 :: z_t_15 :: z_t_16 :: z_t_17 :: z_t_18 :: z_t_19 :: z_t_20 :: z_t_21 :: z_t_22 :: z_t_23 :: z_t_24 :: z_t_25 :: z_t_26 :: z_t_27 :: z_t_28 :: z_t_29 :: z_t_30 :: z_t_31 :: z_t_32 :: z_t_33 :: z_t_34 :: z_t_35 :: z_t_36 :: z_t_37 :: z_t_38 :: z_t_39 :: z_t_40 :: z_t_41 :: z_t_42 :: z_t_43 :: z_t_44 :: z_t_45 :: z_t_46 :: z_t_47 :: z_t_48 :: z_t_49 :: z_t_50 :: z_t_51 :: z_t_52 :: z_t_53 :: z_t_54 :: z_t_55 :: z_t_56 :: z_t_57 :: z_t_58 :: z_t_59 :: z_t_60 :: []))) :: R) := hD
              refine lv_istore_n (lv' := [(2, .int r_c60_6), (0, .ref h_t), (1, .int l1), (3, .int l3)]) hx hb dX12_power_63 rfl hl (by decide) rfl (fun ls hl => ?_)
              refine lv_iinc (v := (l3 + 1)) (lv' := [(3, .int (l3 + 1)), (2, .int r_c60_6), (0, .ref h_t), (1, .int l1)]) hx hb dX12_power_64 hl (k := 3) rfl rfl (by decide) rfl (fun ls hl => ?_)
              refine lv_goto (tgt := 11) hx hb dX12_power_67 (by decide) ?_
              exact ih l1 r_c60_6 (l3 + 1) t_u_c56_5 t_v_c56_5 t_d_c56_5 _ _ _ _ h _ _ _ hP hD hS (lv_sub hl [2, 3, 1, 0] rfl) kk0
            · have h := br_neg c5 h
              refine lv_aload_n hx hb dX12_power_33 rfl (lv_at hl 0 rfl) ?_
              refine lv_lconst (v := 0) hx hb dX12_power_34 (by decide) ?_
              refine lv_lconst (v := 1) hx hb dX12_power_35 (by decide) ?_
              refine lv_lconst (v := 1) hx hb dX12_power_36 (by decide) ?_
              obtain ⟨t_u_c37_7, t_v_c37_7, t_d_c37_7, e_c37_7, h⟩ := bnd3_ok h
              refine cl_v (rn_v (ci := 12) (As := [.long 0, .long 1, .long 1]) (rest := []) S (c_X12_times l D (R) h_t (z_t_0) (z_t_1) (z_t_2) t_a t_b (z_t_5) (z_t_6) (z_t_7) (z_t_8) (z_t_9) t_u t_v t_d (z_t_13) (z_t_14) (z_t_15) (z_t_16) (z_t_17) (z_t_18) (z_t_19) (z_t_20) (z_t_21) (z_t_22) (z_t_23) (z_t_24) (z_t_25) (z_t_26) (z_t_27) (z_t_28) (z_t_29) (z_t_30) (z_t_31) (z_t_32) (z_t_33) (z_t_34) (z_t_35) (z_t_36) (z_t_37) (z_t_38) (z_t_39) (z_t_40) (z_t_41) (z_t_42) (z_t_43) (z_t_44) (z_t_45) (z_t_46) (z_t_47) (z_t_48) (z_t_49) (z_t_50) (z_t_51) (z_t_52) (z_t_53) (z_t_54) (z_t_55) (z_t_56) (z_t_57) (z_t_58) (z_t_59) (z_t_60) 0 1 1 t_u_c37_7 t_v_c37_7 t_d_c37_7 e_c37_7 _) q1202 q1204 q32 q61 q1205 nd_X12_times ⟨Nat.le_of_ble_eq_true rfl, Nat.le_of_ble_eq_true rfl⟩ rfl rfl hP hD (hK.sub (tys' := []) [] rfl) hN rfl ⟨0, _, rfl⟩ rfl hl.1 rfl (Nat.le_of_ble_eq_true rfl) dX12_power_37 ⟨Nat.le_of_ble_eq_true rfl, Nat.le_of_ble_eq_true rfl⟩) hS hA hD (fun H locs hP hD hS => ?_)
              have hP : va_P D vwCl ((h_t, .inr (12, (z_t_0 :: z_t_1 :: z_t_2 :: .int t_a :: .int t_b :: z_t_5 :: z_t_6 :: z_t_7 :: z_t_8 :: z_t_9 :: .long t_u_c37_7 :: .long t_v_c37_7 :: .long t_d_c37_7 :: z_t_13 :: z_t_14 :: z_t_15 :: z_t_16 :: z_t_17 :: z_t_18 :: z_t_19 :: z_t_20 :: z_t_21 :: z_t_22 :: z_t_23 :: z_t_24 :: z_t_25 :: z_t_26 :: z_t_27 :: z_t_28 :: z_t_29 :: z_t_30 :: z_t_31 :: z_t_32 :: z_t_33 :: z_t_34 :: z_t_35 :: z_t_36 :: z_t_37 :: z_t_38 :: z_t_39 :: z_t_40 :: z_t_41 :: z_t_42 :: z_t_43 :: z_t_44 :: z_t_45 :: z_t_46 :: z_t_47 :: z_t_48 :: z_t_49 :: z_t_50 :: z_t_51 :: z_t_52 :: z_t_53 :: z_t_54 :: z_t_55 :: z_t_56 :: z_t_57 :: z_t_58 :: z_t_59 :: z_t_60 :: []))) :: R) H := hP
              have hD : va_D A ((h_t, .inr (12, (z_t_0 :: z_t_1 :: z_t_2 :: .int t_a :: .int t_b :: z_t_5 :: z_t_6 :: z_t_7 :: z_t_8 :: z_t_9 :: .long t_u_c37_7 :: .long t_v_c37_7 :: .long t_d_c37_7 :: z_t_13 :: z_t_14 :: z_t_15 :: z_t_16 :: z_t_17 :: z_t_18 :: z_t_19 :: z_t_20 :: z_t_21 :: z_t_22 :: z_t_23 :: z_t_24 :: z_t_25 :: z_t_26 :: z_t_27 :: z_t_28 :: z_t_29 :: z_t_30 :: z_t_31 :: z_t_32 :: z_t_33 :: z_t_34 :: z_t_35 :: z_t_36 :: z_t_37 :: z_t_38 :: z_t_39 :: z_t_40 :: z_t_41 :: z_t_42 :: z_t_43 :: z_t_44 :: z_t_45 :: z_t_46 :: z_t_47 :: z_t_48 :: z_t_49 :: z_t_50 :: z_t_51 :: z_t_52 :: z_t_53 :: z_t_54 :: z_t_55 :: z_t_56 :: z_t_57 :: z_t_58 :: z_t_59 :: z_t_60 :: []))) :: R) := hD
              refine lv_goto (tgt := 59) hx hb dX12_power_40 (by decide) ?_
              refine lv_aload_n hx hb dX12_power_59 rfl (lv_at hl 0 rfl) ?_
              obtain ⟨r_c60_8, e_c60_8, h⟩ := bnd1_ok h
              refine cl_z (rn_v (ci := 12) (As := []) (rest := []) S (c_X12_isNumber l D (R) h_t (z_t_0) (z_t_1) (z_t_2) (.int t_a) (.int t_b) (z_t_5) (z_t_6) (z_t_7) (z_t_8) (z_t_9) t_u_c37_7 t_v_c37_7 t_d_c37_7 (z_t_13) (z_t_14) (z_t_15) (z_t_16) (z_t_17) (z_t_18) (z_t_19) (z_t_20) (z_t_21) (z_t_22) (z_t_23) (z_t_24) (z_t_25) (z_t_26) (z_t_27) (z_t_28) (z_t_29) (z_t_30) (z_t_31) (z_t_32) (z_t_33) (z_t_34) (z_t_35) (z_t_36) (z_t_37) (z_t_38) (z_t_39) (z_t_40) (z_t_41) (z_t_42) (z_t_43) (z_t_44) (z_t_45) (z_t_46) (z_t_47) (z_t_48) (z_t_49) (z_t_50) (z_t_51) (z_t_52) (z_t_53) (z_t_54) (z_t_55) (z_t_56) (z_t_57) (z_t_58) (z_t_59) (z_t_60) r_c60_8 e_c60_8 _) q1183 q1185 q29 q61 q1186 nd_X12_isNumber ⟨Nat.le_of_ble_eq_true rfl, Nat.le_of_ble_eq_true rfl⟩ rfl rfl hP hD (hK.sub (tys' := []) [] rfl) hN rfl ⟨0, _, rfl⟩ rfl hl.1 rfl (Nat.le_of_ble_eq_true rfl) dX12_power_60 ⟨Nat.le_of_ble_eq_true rfl, Nat.le_of_ble_eq_true rfl⟩) hS hA hD (fun H locs hP hD hS z_c60_8 => ?_)
              have hP : va_P D vwCl ((h_t, .inr (12, (z_t_0 :: z_t_1 :: z_t_2 :: .int t_a :: .int t_b :: z_t_5 :: z_t_6 :: z_t_7 :: z_t_8 :: z_t_9 :: .long t_u_c37_7 :: .long t_v_c37_7 :: .long t_d_c37_7 :: z_t_13 :: z_t_14 :: z_t_15 :: z_t_16 :: z_t_17 :: z_t_18 :: z_t_19 :: z_t_20 :: z_t_21 :: z_t_22 :: z_t_23 :: z_t_24 :: z_t_25 :: z_t_26 :: z_t_27 :: z_t_28 :: z_t_29 :: z_t_30 :: z_t_31 :: z_t_32 :: z_t_33 :: z_t_34 :: z_t_35 :: z_t_36 :: z_t_37 :: z_t_38 :: z_t_39 :: z_t_40 :: z_t_41 :: z_t_42 :: z_t_43 :: z_t_44 :: z_t_45 :: z_t_46 :: z_t_47 :: z_t_48 :: z_t_49 :: z_t_50 :: z_t_51 :: z_t_52 :: z_t_53 :: z_t_54 :: z_t_55 :: z_t_56 :: z_t_57 :: z_t_58 :: z_t_59 :: z_t_60 :: []))) :: R) H := hP
              have hD : va_D A ((h_t, .inr (12, (z_t_0 :: z_t_1 :: z_t_2 :: .int t_a :: .int t_b :: z_t_5 :: z_t_6 :: z_t_7 :: z_t_8 :: z_t_9 :: .long t_u_c37_7 :: .long t_v_c37_7 :: .long t_d_c37_7 :: z_t_13 :: z_t_14 :: z_t_15 :: z_t_16 :: z_t_17 :: z_t_18 :: z_t_19 :: z_t_20 :: z_t_21 :: z_t_22 :: z_t_23 :: z_t_24 :: z_t_25 :: z_t_26 :: z_t_27 :: z_t_28 :: z_t_29 :: z_t_30 :: z_t_31 :: z_t_32 :: z_t_33 :: z_t_34 :: z_t_35 :: z_t_36 :: z_t_37 :: z_t_38 :: z_t_39 :: z_t_40 :: z_t_41 :: z_t_42 :: z_t_43 :: z_t_44 :: z_t_45 :: z_t_46 :: z_t_47 :: z_t_48 :: z_t_49 :: z_t_50 :: z_t_51 :: z_t_52 :: z_t_53 :: z_t_54 :: z_t_55 :: z_t_56 :: z_t_57 :: z_t_58 :: z_t_59 :: z_t_60 :: []))) :: R) := hD
              refine lv_istore_n (lv' := [(2, .int r_c60_8), (0, .ref h_t), (1, .int l1), (3, .int l3)]) hx hb dX12_power_63 rfl hl (by decide) rfl (fun ls hl => ?_)
              refine lv_iinc (v := (l3 + 1)) (lv' := [(3, .int (l3 + 1)), (2, .int r_c60_8), (0, .ref h_t), (1, .int l1)]) hx hb dX12_power_64 hl (k := 3) rfl rfl (by decide) rfl (fun ls hl => ?_)
              refine lv_goto (tgt := 11) hx hb dX12_power_67 (by decide) ?_
              exact ih l1 r_c60_8 (l3 + 1) t_u_c37_7 t_v_c37_7 t_d_c37_7 _ _ _ _ h _ _ _ hP hD hS (lv_sub hl [2, 3, 1, 0] rfl) kk0
      · have h := br_neg c2 h
        refine lv_iload_n hx hb dX12_power_16 rfl (lv_at hl 1 rfl) ?_
        refine lv_ineg hx hb dX12_power_17 ?_
        refine lv_goto (tgt := 22) hx hb dX12_power_18 (by decide) ?_
        refine lv_icmp_ge (tgt := 70) hx hb dX12_power_22 (by decide) (fun c10 => ?_) (fun c10 => ?_)
        · have h := br_pos c10 h
          cases h
          exact kk0 _ _ _ hP hD hS (lv_sub hl [2] rfl)
        · have h := br_neg c10 h
          refine lv_iload_n hx hb dX12_power_25 rfl (lv_at hl 2 rfl) ?_
          refine lv_if_eq (tgt := 70) hx hb dX12_power_26 (by decide) (fun c11 => ?_) (fun c11 => ?_)
          · have h := br_pos c11 h
            cases h
            exact kk0 _ _ _ hP hD hS (lv_sub hl [2] rfl)
          · have h := br_neg c11 h
            refine lv_iload_n hx hb dX12_power_29 rfl (lv_at hl 1 rfl) ?_
            refine lv_if_le (tgt := 43) hx hb dX12_power_30 (by decide) (fun c12 => ?_) (fun c12 => ?_)
            · have h := br_pos c12 h
              refine lv_aload_n hx hb dX12_power_43 rfl (lv_at hl 0 rfl) ?_
              refine lv_aload_n hx hb dX12_power_44 rfl (lv_at hl 0 rfl) ?_
              refine va_get (D := D) (ci := 12) (v := .int t_a) (C := RX12) (T := TX12) (N := 61) hx hb ha ix12 hown hK hP 0 rfl rfl 3 (by decide) (ha _ q963) (fun _ h9 => h9) rfl dX12_power_45 ?_
              refine lv_ineg hx hb dX12_power_48 ?_
              refine lv_i2l (v := (-t_a).toInt64) hx hb dX12_power_49 rfl ?_
              refine lv_lconst (v := 1) hx hb dX12_power_50 (by decide) ?_
              refine lv_aload_n hx hb dX12_power_51 rfl (lv_at hl 0 rfl) ?_
              refine va_get (D := D) (ci := 12) (v := .int t_b) (C := RX12) (T := TX12) (N := 61) hx hb ha ix12 hown hK hP 0 rfl rfl 4 (by decide) (ha _ q964) (fun _ h9 => h9) rfl dX12_power_52 ?_
              refine lv_i2l (v := t_b.toInt64) hx hb dX12_power_55 rfl ?_
              obtain ⟨t_u_c56_12, t_v_c56_12, t_d_c56_12, e_c56_12, h⟩ := bnd3_ok h
              refine cl_v (rn_v (ci := 12) (As := [.long (-t_a).toInt64, .long 1, .long t_b.toInt64]) (rest := []) S (c_X12_times l D (R) h_t (z_t_0) (z_t_1) (z_t_2) t_a t_b (z_t_5) (z_t_6) (z_t_7) (z_t_8) (z_t_9) t_u t_v t_d (z_t_13) (z_t_14) (z_t_15) (z_t_16) (z_t_17) (z_t_18) (z_t_19) (z_t_20) (z_t_21) (z_t_22) (z_t_23) (z_t_24) (z_t_25) (z_t_26) (z_t_27) (z_t_28) (z_t_29) (z_t_30) (z_t_31) (z_t_32) (z_t_33) (z_t_34) (z_t_35) (z_t_36) (z_t_37) (z_t_38) (z_t_39) (z_t_40) (z_t_41) (z_t_42) (z_t_43) (z_t_44) (z_t_45) (z_t_46) (z_t_47) (z_t_48) (z_t_49) (z_t_50) (z_t_51) (z_t_52) (z_t_53) (z_t_54) (z_t_55) (z_t_56) (z_t_57) (z_t_58) (z_t_59) (z_t_60) ((-t_a).toInt64) 1 t_b.toInt64 t_u_c56_12 t_v_c56_12 t_d_c56_12 e_c56_12 _) q1202 q1204 q32 q61 q1205 nd_X12_times ⟨Nat.le_of_ble_eq_true rfl, Nat.le_of_ble_eq_true rfl⟩ rfl rfl hP hD (hK.sub (tys' := []) [] rfl) hN rfl ⟨0, _, rfl⟩ rfl hl.1 rfl (Nat.le_of_ble_eq_true rfl) dX12_power_56 ⟨Nat.le_of_ble_eq_true rfl, Nat.le_of_ble_eq_true rfl⟩) hS hA hD (fun H locs hP hD hS => ?_)
              have hP : va_P D vwCl ((h_t, .inr (12, (z_t_0 :: z_t_1 :: z_t_2 :: .int t_a :: .int t_b :: z_t_5 :: z_t_6 :: z_t_7 :: z_t_8 :: z_t_9 :: .long t_u_c56_12 :: .long t_v_c56_12 :: .long t_d_c56_12 :: z_t_13 :: z_t_14 :: z_t_15 :: z_t_16 :: z_t_17 :: z_t_18 :: z_t_19 :: z_t_20 :: z_t_21 :: z_t_22 :: z_t_23 :: z_t_24 :: z_t_25 :: z_t_26 :: z_t_27 :: z_t_28 :: z_t_29 :: z_t_30 :: z_t_31 :: z_t_32 :: z_t_33 :: z_t_34 :: z_t_35 :: z_t_36 :: z_t_37 :: z_t_38 :: z_t_39 :: z_t_40 :: z_t_41 :: z_t_42 :: z_t_43 :: z_t_44 :: z_t_45 :: z_t_46 :: z_t_47 :: z_t_48 :: z_t_49 :: z_t_50 :: z_t_51 :: z_t_52 :: z_t_53 :: z_t_54 :: z_t_55 :: z_t_56 :: z_t_57 :: z_t_58 :: z_t_59 :: z_t_60 :: []))) :: R) H := hP
              have hD : va_D A ((h_t, .inr (12, (z_t_0 :: z_t_1 :: z_t_2 :: .int t_a :: .int t_b :: z_t_5 :: z_t_6 :: z_t_7 :: z_t_8 :: z_t_9 :: .long t_u_c56_12 :: .long t_v_c56_12 :: .long t_d_c56_12 :: z_t_13 :: z_t_14 :: z_t_15 :: z_t_16 :: z_t_17 :: z_t_18 :: z_t_19 :: z_t_20 :: z_t_21 :: z_t_22 :: z_t_23 :: z_t_24 :: z_t_25 :: z_t_26 :: z_t_27 :: z_t_28 :: z_t_29 :: z_t_30 :: z_t_31 :: z_t_32 :: z_t_33 :: z_t_34 :: z_t_35 :: z_t_36 :: z_t_37 :: z_t_38 :: z_t_39 :: z_t_40 :: z_t_41 :: z_t_42 :: z_t_43 :: z_t_44 :: z_t_45 :: z_t_46 :: z_t_47 :: z_t_48 :: z_t_49 :: z_t_50 :: z_t_51 :: z_t_52 :: z_t_53 :: z_t_54 :: z_t_55 :: z_t_56 :: z_t_57 :: z_t_58 :: z_t_59 :: z_t_60 :: []))) :: R) := hD
              refine lv_aload_n hx hb dX12_power_59 rfl (lv_at hl 0 rfl) ?_
              obtain ⟨r_c60_13, e_c60_13, h⟩ := bnd1_ok h
              refine cl_z (rn_v (ci := 12) (As := []) (rest := []) S (c_X12_isNumber l D (R) h_t (z_t_0) (z_t_1) (z_t_2) (.int t_a) (.int t_b) (z_t_5) (z_t_6) (z_t_7) (z_t_8) (z_t_9) t_u_c56_12 t_v_c56_12 t_d_c56_12 (z_t_13) (z_t_14) (z_t_15) (z_t_16) (z_t_17) (z_t_18) (z_t_19) (z_t_20) (z_t_21) (z_t_22) (z_t_23) (z_t_24) (z_t_25) (z_t_26) (z_t_27) (z_t_28) (z_t_29) (z_t_30) (z_t_31) (z_t_32) (z_t_33) (z_t_34) (z_t_35) (z_t_36) (z_t_37) (z_t_38) (z_t_39) (z_t_40) (z_t_41) (z_t_42) (z_t_43) (z_t_44) (z_t_45) (z_t_46) (z_t_47) (z_t_48) (z_t_49) (z_t_50) (z_t_51) (z_t_52) (z_t_53) (z_t_54) (z_t_55) (z_t_56) (z_t_57) (z_t_58) (z_t_59) (z_t_60) r_c60_13 e_c60_13 _) q1183 q1185 q29 q61 q1186 nd_X12_isNumber ⟨Nat.le_of_ble_eq_true rfl, Nat.le_of_ble_eq_true rfl⟩ rfl rfl hP hD (hK.sub (tys' := []) [] rfl) hN rfl ⟨0, _, rfl⟩ rfl hl.1 rfl (Nat.le_of_ble_eq_true rfl) dX12_power_60 ⟨Nat.le_of_ble_eq_true rfl, Nat.le_of_ble_eq_true rfl⟩) hS hA hD (fun H locs hP hD hS z_c60_13 => ?_)
              have hP : va_P D vwCl ((h_t, .inr (12, (z_t_0 :: z_t_1 :: z_t_2 :: .int t_a :: .int t_b :: z_t_5 :: z_t_6 :: z_t_7 :: z_t_8 :: z_t_9 :: .long t_u_c56_12 :: .long t_v_c56_12 :: .long t_d_c56_12 :: z_t_13 :: z_t_14 :: z_t_15 :: z_t_16 :: z_t_17 :: z_t_18 :: z_t_19 :: z_t_20 :: z_t_21 :: z_t_22 :: z_t_23 :: z_t_24 :: z_t_25 :: z_t_26 :: z_t_27 :: z_t_28 :: z_t_29 :: z_t_30 :: z_t_31 :: z_t_32 :: z_t_33 :: z_t_34 :: z_t_35 :: z_t_36 :: z_t_37 :: z_t_38 :: z_t_39 :: z_t_40 :: z_t_41 :: z_t_42 :: z_t_43 :: z_t_44 :: z_t_45 :: z_t_46 :: z_t_47 :: z_t_48 :: z_t_49 :: z_t_50 :: z_t_51 :: z_t_52 :: z_t_53 :: z_t_54 :: z_t_55 :: z_t_56 :: z_t_57 :: z_t_58 :: z_t_59 :: z_t_60 :: []))) :: R) H := hP
              have hD : va_D A ((h_t, .inr (12, (z_t_0 :: z_t_1 :: z_t_2 :: .int t_a :: .int t_b :: z_t_5 :: z_t_6 :: z_t_7 :: z_t_8 :: z_t_9 :: .long t_u_c56_12 :: .long t_v_c56_12 :: .long t_d_c56_12 :: z_t_13 :: z_t_14 :: z_t_15 :: z_t_16 :: z_t_17 :: z_t_18 :: z_t_19 :: z_t_20 :: z_t_21 :: z_t_22 :: z_t_23 :: z_t_24 :: z_t_25 :: z_t_26 :: z_t_27 :: z_t_28 :: z_t_29 :: z_t_30 :: z_t_31 :: z_t_32 :: z_t_33 :: z_t_34 :: z_t_35 :: z_t_36 :: z_t_37 :: z_t_38 :: z_t_39 :: z_t_40 :: z_t_41 :: z_t_42 :: z_t_43 :: z_t_44 :: z_t_45 :: z_t_46 :: z_t_47 :: z_t_48 :: z_t_49 :: z_t_50 :: z_t_51 :: z_t_52 :: z_t_53 :: z_t_54 :: z_t_55 :: z_t_56 :: z_t_57 :: z_t_58 :: z_t_59 :: z_t_60 :: []))) :: R) := hD
              refine lv_istore_n (lv' := [(2, .int r_c60_13), (0, .ref h_t), (1, .int l1), (3, .int l3)]) hx hb dX12_power_63 rfl hl (by decide) rfl (fun ls hl => ?_)
              refine lv_iinc (v := (l3 + 1)) (lv' := [(3, .int (l3 + 1)), (2, .int r_c60_13), (0, .ref h_t), (1, .int l1)]) hx hb dX12_power_64 hl (k := 3) rfl rfl (by decide) rfl (fun ls hl => ?_)
              refine lv_goto (tgt := 11) hx hb dX12_power_67 (by decide) ?_
              exact ih l1 r_c60_13 (l3 + 1) t_u_c56_12 t_v_c56_12 t_d_c56_12 _ _ _ _ h _ _ _ hP hD hS (lv_sub hl [2, 3, 1, 0] rfl) kk0
            · have h := br_neg c12 h
              refine lv_aload_n hx hb dX12_power_33 rfl (lv_at hl 0 rfl) ?_
              refine lv_lconst (v := 0) hx hb dX12_power_34 (by decide) ?_
              refine lv_lconst (v := 1) hx hb dX12_power_35 (by decide) ?_
              refine lv_lconst (v := 1) hx hb dX12_power_36 (by decide) ?_
              obtain ⟨t_u_c37_14, t_v_c37_14, t_d_c37_14, e_c37_14, h⟩ := bnd3_ok h
              refine cl_v (rn_v (ci := 12) (As := [.long 0, .long 1, .long 1]) (rest := []) S (c_X12_times l D (R) h_t (z_t_0) (z_t_1) (z_t_2) t_a t_b (z_t_5) (z_t_6) (z_t_7) (z_t_8) (z_t_9) t_u t_v t_d (z_t_13) (z_t_14) (z_t_15) (z_t_16) (z_t_17) (z_t_18) (z_t_19) (z_t_20) (z_t_21) (z_t_22) (z_t_23) (z_t_24) (z_t_25) (z_t_26) (z_t_27) (z_t_28) (z_t_29) (z_t_30) (z_t_31) (z_t_32) (z_t_33) (z_t_34) (z_t_35) (z_t_36) (z_t_37) (z_t_38) (z_t_39) (z_t_40) (z_t_41) (z_t_42) (z_t_43) (z_t_44) (z_t_45) (z_t_46) (z_t_47) (z_t_48) (z_t_49) (z_t_50) (z_t_51) (z_t_52) (z_t_53) (z_t_54) (z_t_55) (z_t_56) (z_t_57) (z_t_58) (z_t_59) (z_t_60) 0 1 1 t_u_c37_14 t_v_c37_14 t_d_c37_14 e_c37_14 _) q1202 q1204 q32 q61 q1205 nd_X12_times ⟨Nat.le_of_ble_eq_true rfl, Nat.le_of_ble_eq_true rfl⟩ rfl rfl hP hD (hK.sub (tys' := []) [] rfl) hN rfl ⟨0, _, rfl⟩ rfl hl.1 rfl (Nat.le_of_ble_eq_true rfl) dX12_power_37 ⟨Nat.le_of_ble_eq_true rfl, Nat.le_of_ble_eq_true rfl⟩) hS hA hD (fun H locs hP hD hS => ?_)
              have hP : va_P D vwCl ((h_t, .inr (12, (z_t_0 :: z_t_1 :: z_t_2 :: .int t_a :: .int t_b :: z_t_5 :: z_t_6 :: z_t_7 :: z_t_8 :: z_t_9 :: .long t_u_c37_14 :: .long t_v_c37_14 :: .long t_d_c37_14 :: z_t_13 :: z_t_14 :: z_t_15 :: z_t_16 :: z_t_17 :: z_t_18 :: z_t_19 :: z_t_20 :: z_t_21 :: z_t_22 :: z_t_23 :: z_t_24 :: z_t_25 :: z_t_26 :: z_t_27 :: z_t_28 :: z_t_29 :: z_t_30 :: z_t_31 :: z_t_32 :: z_t_33 :: z_t_34 :: z_t_35 :: z_t_36 :: z_t_37 :: z_t_38 :: z_t_39 :: z_t_40 :: z_t_41 :: z_t_42 :: z_t_43 :: z_t_44 :: z_t_45 :: z_t_46 :: z_t_47 :: z_t_48 :: z_t_49 :: z_t_50 :: z_t_51 :: z_t_52 :: z_t_53 :: z_t_54 :: z_t_55 :: z_t_56 :: z_t_57 :: z_t_58 :: z_t_59 :: z_t_60 :: []))) :: R) H := hP
              have hD : va_D A ((h_t, .inr (12, (z_t_0 :: z_t_1 :: z_t_2 :: .int t_a :: .int t_b :: z_t_5 :: z_t_6 :: z_t_7 :: z_t_8 :: z_t_9 :: .long t_u_c37_14 :: .long t_v_c37_14 :: .long t_d_c37_14 :: z_t_13 :: z_t_14 :: z_t_15 :: z_t_16 :: z_t_17 :: z_t_18 :: z_t_19 :: z_t_20 :: z_t_21 :: z_t_22 :: z_t_23 :: z_t_24 :: z_t_25 :: z_t_26 :: z_t_27 :: z_t_28 :: z_t_29 :: z_t_30 :: z_t_31 :: z_t_32 :: z_t_33 :: z_t_34 :: z_t_35 :: z_t_36 :: z_t_37 :: z_t_38 :: z_t_39 :: z_t_40 :: z_t_41 :: z_t_42 :: z_t_43 :: z_t_44 :: z_t_45 :: z_t_46 :: z_t_47 :: z_t_48 :: z_t_49 :: z_t_50 :: z_t_51 :: z_t_52 :: z_t_53 :: z_t_54 :: z_t_55 :: z_t_56 :: z_t_57 :: z_t_58 :: z_t_59 :: z_t_60 :: []))) :: R) := hD
              refine lv_goto (tgt := 59) hx hb dX12_power_40 (by decide) ?_
              refine lv_aload_n hx hb dX12_power_59 rfl (lv_at hl 0 rfl) ?_
              obtain ⟨r_c60_15, e_c60_15, h⟩ := bnd1_ok h
              refine cl_z (rn_v (ci := 12) (As := []) (rest := []) S (c_X12_isNumber l D (R) h_t (z_t_0) (z_t_1) (z_t_2) (.int t_a) (.int t_b) (z_t_5) (z_t_6) (z_t_7) (z_t_8) (z_t_9) t_u_c37_14 t_v_c37_14 t_d_c37_14 (z_t_13) (z_t_14) (z_t_15) (z_t_16) (z_t_17) (z_t_18) (z_t_19) (z_t_20) (z_t_21) (z_t_22) (z_t_23) (z_t_24) (z_t_25) (z_t_26) (z_t_27) (z_t_28) (z_t_29) (z_t_30) (z_t_31) (z_t_32) (z_t_33) (z_t_34) (z_t_35) (z_t_36) (z_t_37) (z_t_38) (z_t_39) (z_t_40) (z_t_41) (z_t_42) (z_t_43) (z_t_44) (z_t_45) (z_t_46) (z_t_47) (z_t_48) (z_t_49) (z_t_50) (z_t_51) (z_t_52) (z_t_53) (z_t_54) (z_t_55) (z_t_56) (z_t_57) (z_t_58) (z_t_59) (z_t_60) r_c60_15 e_c60_15 _) q1183 q1185 q29 q61 q1186 nd_X12_isNumber ⟨Nat.le_of_ble_eq_true rfl, Nat.le_of_ble_eq_true rfl⟩ rfl rfl hP hD (hK.sub (tys' := []) [] rfl) hN rfl ⟨0, _, rfl⟩ rfl hl.1 rfl (Nat.le_of_ble_eq_true rfl) dX12_power_60 ⟨Nat.le_of_ble_eq_true rfl, Nat.le_of_ble_eq_true rfl⟩) hS hA hD (fun H locs hP hD hS z_c60_15 => ?_)
              have hP : va_P D vwCl ((h_t, .inr (12, (z_t_0 :: z_t_1 :: z_t_2 :: .int t_a :: .int t_b :: z_t_5 :: z_t_6 :: z_t_7 :: z_t_8 :: z_t_9 :: .long t_u_c37_14 :: .long t_v_c37_14 :: .long t_d_c37_14 :: z_t_13 :: z_t_14 :: z_t_15 :: z_t_16 :: z_t_17 :: z_t_18 :: z_t_19 :: z_t_20 :: z_t_21 :: z_t_22 :: z_t_23 :: z_t_24 :: z_t_25 :: z_t_26 :: z_t_27 :: z_t_28 :: z_t_29 :: z_t_30 :: z_t_31 :: z_t_32 :: z_t_33 :: z_t_34 :: z_t_35 :: z_t_36 :: z_t_37 :: z_t_38 :: z_t_39 :: z_t_40 :: z_t_41 :: z_t_42 :: z_t_43 :: z_t_44 :: z_t_45 :: z_t_46 :: z_t_47 :: z_t_48 :: z_t_49 :: z_t_50 :: z_t_51 :: z_t_52 :: z_t_53 :: z_t_54 :: z_t_55 :: z_t_56 :: z_t_57 :: z_t_58 :: z_t_59 :: z_t_60 :: []))) :: R) H := hP
              have hD : va_D A ((h_t, .inr (12, (z_t_0 :: z_t_1 :: z_t_2 :: .int t_a :: .int t_b :: z_t_5 :: z_t_6 :: z_t_7 :: z_t_8 :: z_t_9 :: .long t_u_c37_14 :: .long t_v_c37_14 :: .long t_d_c37_14 :: z_t_13 :: z_t_14 :: z_t_15 :: z_t_16 :: z_t_17 :: z_t_18 :: z_t_19 :: z_t_20 :: z_t_21 :: z_t_22 :: z_t_23 :: z_t_24 :: z_t_25 :: z_t_26 :: z_t_27 :: z_t_28 :: z_t_29 :: z_t_30 :: z_t_31 :: z_t_32 :: z_t_33 :: z_t_34 :: z_t_35 :: z_t_36 :: z_t_37 :: z_t_38 :: z_t_39 :: z_t_40 :: z_t_41 :: z_t_42 :: z_t_43 :: z_t_44 :: z_t_45 :: z_t_46 :: z_t_47 :: z_t_48 :: z_t_49 :: z_t_50 :: z_t_51 :: z_t_52 :: z_t_53 :: z_t_54 :: z_t_55 :: z_t_56 :: z_t_57 :: z_t_58 :: z_t_59 :: z_t_60 :: []))) :: R) := hD
              refine lv_istore_n (lv' := [(2, .int r_c60_15), (0, .ref h_t), (1, .int l1), (3, .int l3)]) hx hb dX12_power_63 rfl hl (by decide) rfl (fun ls hl => ?_)
              refine lv_iinc (v := (l3 + 1)) (lv' := [(3, .int (l3 + 1)), (2, .int r_c60_15), (0, .ref h_t), (1, .int l1)]) hx hb dX12_power_64 hl (k := 3) rfl rfl (by decide) rfl (fun ls hl => ?_)
              refine lv_goto (tgt := 11) hx hb dX12_power_67 (by decide) ?_
              exact ih l1 r_c60_15 (l3 + 1) t_u_c37_14 t_v_c37_14 t_d_c37_14 _ _ _ _ h _ _ _ hP hD hS (lv_sub hl [2, 3, 1, 0] rfl) kk0
  unfold f_X12_power at h
  refine lv_aload_n hx hb dX12_power_0 rfl (lv_at hl 0 rfl) ?_
  refine lv_lconst (v := 1) hx hb dX12_power_1 (by decide) ?_
  refine lv_lconst (v := 0) hx hb dX12_power_2 (by decide) ?_
  refine lv_lconst (v := 1) hx hb dX12_power_3 (by decide) ?_
  obtain ⟨t_u_c4_0, t_v_c4_0, t_d_c4_0, e_c4_0, h⟩ := bnd3_ok h
  refine cl_v (rn_v (ci := 12) (As := [.long 1, .long 0, .long 1]) (rest := []) S (c_X12_set l D (R) h_t (z_t_0) (z_t_1) (z_t_2) (.int t_a) (.int t_b) (z_t_5) (z_t_6) (z_t_7) (z_t_8) (z_t_9) t_u t_v t_d (z_t_13) (z_t_14) (z_t_15) (z_t_16) (z_t_17) (z_t_18) (z_t_19) (z_t_20) (z_t_21) (z_t_22) (z_t_23) (z_t_24) (z_t_25) (z_t_26) (z_t_27) (z_t_28) (z_t_29) (z_t_30) (z_t_31) (z_t_32) (z_t_33) (z_t_34) (z_t_35) (z_t_36) (z_t_37) (z_t_38) (z_t_39) (z_t_40) (z_t_41) (z_t_42) (z_t_43) (z_t_44) (z_t_45) (z_t_46) (z_t_47) (z_t_48) (z_t_49) (z_t_50) (z_t_51) (z_t_52) (z_t_53) (z_t_54) (z_t_55) (z_t_56) (z_t_57) (z_t_58) (z_t_59) (z_t_60) 1 0 1 t_u_c4_0 t_v_c4_0 t_d_c4_0 e_c4_0 _) q1172 q1174 q27 q61 q1175 nd_X12_set ⟨Nat.le_of_ble_eq_true rfl, Nat.le_of_ble_eq_true rfl⟩ rfl rfl hP hD (hK.sub (tys' := []) [] rfl) hN rfl ⟨0, _, rfl⟩ rfl hl.1 rfl (Nat.le_of_ble_eq_true rfl) dX12_power_4 ⟨Nat.le_of_ble_eq_true rfl, Nat.le_of_ble_eq_true rfl⟩) hS hA hD (fun H locs hP hD hS => ?_)
  have hP : va_P D vwCl ((h_t, .inr (12, (z_t_0 :: z_t_1 :: z_t_2 :: .int t_a :: .int t_b :: z_t_5 :: z_t_6 :: z_t_7 :: z_t_8 :: z_t_9 :: .long t_u_c4_0 :: .long t_v_c4_0 :: .long t_d_c4_0 :: z_t_13 :: z_t_14 :: z_t_15 :: z_t_16 :: z_t_17 :: z_t_18 :: z_t_19 :: z_t_20 :: z_t_21 :: z_t_22 :: z_t_23 :: z_t_24 :: z_t_25 :: z_t_26 :: z_t_27 :: z_t_28 :: z_t_29 :: z_t_30 :: z_t_31 :: z_t_32 :: z_t_33 :: z_t_34 :: z_t_35 :: z_t_36 :: z_t_37 :: z_t_38 :: z_t_39 :: z_t_40 :: z_t_41 :: z_t_42 :: z_t_43 :: z_t_44 :: z_t_45 :: z_t_46 :: z_t_47 :: z_t_48 :: z_t_49 :: z_t_50 :: z_t_51 :: z_t_52 :: z_t_53 :: z_t_54 :: z_t_55 :: z_t_56 :: z_t_57 :: z_t_58 :: z_t_59 :: z_t_60 :: []))) :: R) H := hP
  have hD : va_D A ((h_t, .inr (12, (z_t_0 :: z_t_1 :: z_t_2 :: .int t_a :: .int t_b :: z_t_5 :: z_t_6 :: z_t_7 :: z_t_8 :: z_t_9 :: .long t_u_c4_0 :: .long t_v_c4_0 :: .long t_d_c4_0 :: z_t_13 :: z_t_14 :: z_t_15 :: z_t_16 :: z_t_17 :: z_t_18 :: z_t_19 :: z_t_20 :: z_t_21 :: z_t_22 :: z_t_23 :: z_t_24 :: z_t_25 :: z_t_26 :: z_t_27 :: z_t_28 :: z_t_29 :: z_t_30 :: z_t_31 :: z_t_32 :: z_t_33 :: z_t_34 :: z_t_35 :: z_t_36 :: z_t_37 :: z_t_38 :: z_t_39 :: z_t_40 :: z_t_41 :: z_t_42 :: z_t_43 :: z_t_44 :: z_t_45 :: z_t_46 :: z_t_47 :: z_t_48 :: z_t_49 :: z_t_50 :: z_t_51 :: z_t_52 :: z_t_53 :: z_t_54 :: z_t_55 :: z_t_56 :: z_t_57 :: z_t_58 :: z_t_59 :: z_t_60 :: []))) :: R) := hD
  refine lv_iconst (v := 1) hx hb dX12_power_7 (by decide) ?_
  refine lv_istore_n (lv' := [(2, .int 1), (0, .ref h_t), (1, .int l1)]) hx hb dX12_power_8 rfl hl (by decide) rfl (fun ls hl => ?_)
  refine lv_iconst (v := 0) hx hb dX12_power_9 (by decide) ?_
  refine lv_istore_n (lv' := [(3, .int 0), (2, .int 1), (0, .ref h_t), (1, .int l1)]) hx hb dX12_power_10 rfl hl (by decide) rfl (fun ls hl => ?_)
  obtain ⟨x2_L11_16, x_t_u_L11_16, x_t_v_L11_16, x_t_d_L11_16, e_L11_16, h⟩ := bnd4_ok h
  refine L11 _ _ l1 1 0 t_u_c4_0 t_v_c4_0 t_d_c4_0 x2_L11_16 x_t_u_L11_16 x_t_v_L11_16 x_t_d_L11_16 e_L11_16 _ _ _ hP hD hS (lv_sub hl [2, 3, 1, 0] rfl) ?_
  intro H locs ls hP hD hS hl
  refine lv_iload_n hx hb dX12_power_70 rfl (lv_at hl 0 rfl) ?_
  obtain ⟨z18, h⟩ := bz_ok h
  cases h
  exact rt_z S hr hlk hP hD hS z18 dX12_power_71
noncomputable def f_X12_summed_L18 (l1 : Int32) (l2 : Int32) (l3 : Int32) (t_a : Int32) (t_b : Int32) (t_tape : Nat → Int32) : Nat → Int32 → Int64 → Int64 → Int64 → Int64 → Int64 → Int64 →  Option (Nat × Int64 × Int64 × Int64 × Int64 × Int64 × Int64)
  | 0, _, _, _, _, _, _, _ => none
  | n + 1, l4, t_u, t_v, t_d, t_sumU, t_sumV, t_sumD => (
    if l2 ≤ l4 then (
     some (1, t_u, t_v, t_d, t_sumU, t_sumV, t_sumD)
    ) else (
     bnd4 (f_X12_power t_a t_b t_u t_v t_d (l3 - l4)) fun r_c29_1 t_u_c29_1 t_v_c29_1 t_d_c29_1 => (
      if r_c29_1 = 0 then (
       some (0, t_u_c29_1, t_v_c29_1, t_d_c29_1, t_sumU, t_sumV, t_sumD)
      ) else (
       gd (ixb (l1 + l4) 200) (
        bnd3 (f_X12_plus (t_u_c29_1 * (t_tape (l1 + l4).toNatClampNeg).toInt64) (t_v_c29_1 * (t_tape (l1 + l4).toNatClampNeg).toInt64) t_d_c29_1 t_sumU t_sumV t_sumD) fun t_u_c84_4 t_v_c84_4 t_d_c84_4 => (
         f_X12_summed_L18 l1 l2 l3 t_a t_b t_tape n (l4 + 1) t_u_c84_4 t_v_c84_4 t_d_c84_4 t_u_c84_4 t_v_c84_4 t_d_c84_4
        )
       )
      )
     )
    ))
noncomputable def f_X12_summed (t_a : Int32) (t_b : Int32) (t_u : Int64) (t_v : Int64) (t_d : Int64) (t_sumU : Int64) (t_sumV : Int64) (t_sumD : Int64) (t_tape : Nat → Int32) (l1 : Int32) (l2 : Int32) (l3 : Int32) : Option (Int32 × Int64 × Int64 × Int64 × Int64 × Int64 × Int64) :=
  bnd7 (f_X12_summed_L18 l1 l2 l3 t_a t_b t_tape FU 0 t_u t_v t_d 0 0 1) fun tg_L18_5 x_t_u_L18_5 x_t_v_L18_5 x_t_d_L18_5 x_t_sumU_L18_5 x_t_sumV_L18_5 x_t_sumD_L18_5 => (
   if tg_L18_5 = 0 then (
    some (0, x_t_u_L18_5, x_t_v_L18_5, x_t_d_L18_5, x_t_sumU_L18_5, x_t_sumV_L18_5, x_t_sumD_L18_5)
   ) else (
    bnd3 (f_X12_set x_t_u_L18_5 x_t_v_L18_5 x_t_d_L18_5 x_t_sumU_L18_5 x_t_sumV_L18_5 x_t_sumD_L18_5) fun t_u_c130_6 t_v_c130_6 t_d_c130_6 => (
     bnd1 (f_X12_isNumber t_u_c130_6 t_v_c130_6 t_d_c130_6) fun r_c134_7 => (
      some (r_c134_7, t_u_c130_6, t_v_c130_6, t_d_c130_6, x_t_sumU_L18_5, x_t_sumV_L18_5, x_t_sumD_L18_5)
     )
    )
   )
  )
set_option maxHeartbeats 4000000 in
set_option maxRecDepth 100000 in
theorem c_X12_summed (l : Launch) (D : va_G) (R : va_W) (h_t : Nat) (z_t_0 : Value) (z_t_2 : Value) (t_a : Int32) (t_b : Int32) (z_t_5 : Value) (z_t_6 : Value) (z_t_7 : Value) (z_t_8 : Value) (z_t_9 : Value) (t_u : Int64) (t_v : Int64) (t_d : Int64) (z_t_13 : Value) (z_t_14 : Value) (z_t_15 : Value) (z_t_16 : Value) (z_t_17 : Value) (z_t_18 : Value) (z_t_19 : Value) (z_t_20 : Value) (z_t_21 : Value) (t_sumU : Int64) (t_sumV : Int64) (t_sumD : Int64) (z_t_25 : Value) (z_t_26 : Value) (z_t_27 : Value) (z_t_28 : Value) (z_t_29 : Value) (z_t_30 : Value) (z_t_31 : Value) (z_t_32 : Value) (z_t_33 : Value) (z_t_34 : Value) (z_t_35 : Value) (z_t_36 : Value) (z_t_37 : Value) (z_t_38 : Value) (z_t_39 : Value) (z_t_40 : Value) (z_t_41 : Value) (z_t_42 : Value) (z_t_43 : Value) (z_t_44 : Value) (z_t_45 : Value) (z_t_46 : Value) (z_t_47 : Value) (z_t_48 : Value) (z_t_49 : Value) (z_t_50 : Value) (z_t_51 : Value) (z_t_52 : Value) (z_t_53 : Value) (z_t_54 : Value) (z_t_55 : Value) (z_t_56 : Value) (z_t_57 : Value) (z_t_58 : Value) (z_t_59 : Value) (z_t_60 : Value) (h_t_tape : Nat) (k_t_tape : ClassId) (t_tape : Nat → Int32) (l1 : Int32) (l2 : Int32) (l3 : Int32) (r : Int32) (o_t_u : Int64) (o_t_v : Int64) (o_t_d : Int64) (o_t_sumU : Int64) (o_t_sumV : Int64) (o_t_sumD : Int64)  (h : f_X12_summed t_a t_b t_u t_v t_d t_sumU t_sumV t_sumD t_tape l1 l2 l3 = some (r, o_t_u, o_t_v, o_t_d, o_t_sumU, o_t_sumV, o_t_sumD)) (sz : Nat) : Met l yX12_summed (WD yX12_summed cX12_summed 7 (some .boolean)) ({ frames := 4, cells := 0, slots := 0, locals := 106 }) (va_Pc [.ref h_t, .int l1, .int l2, .int l3] (PcW D [(k_t_tape, .byte)] ((h_t, .inr (12, (z_t_0 :: .ref h_t_tape :: z_t_2 :: .int t_a :: .int t_b :: z_t_5 :: z_t_6 :: z_t_7 :: z_t_8 :: z_t_9 :: .long t_u :: .long t_v :: .long t_d :: z_t_13 :: z_t_14 :: z_t_15 :: z_t_16 :: z_t_17 :: z_t_18 :: z_t_19 :: z_t_20 :: z_t_21 :: .long t_sumU :: .long t_sumV :: .long t_sumD :: z_t_25 :: z_t_26 :: z_t_27 :: z_t_28 :: z_t_29 :: z_t_30 :: z_t_31 :: z_t_32 :: z_t_33 :: z_t_34 :: z_t_35 :: z_t_36 :: z_t_37 :: z_t_38 :: z_t_39 :: z_t_40 :: z_t_41 :: z_t_42 :: z_t_43 :: z_t_44 :: z_t_45 :: z_t_46 :: z_t_47 :: z_t_48 :: z_t_49 :: z_t_50 :: z_t_51 :: z_t_52 :: z_t_53 :: z_t_54 :: z_t_55 :: z_t_56 :: z_t_57 :: z_t_58 :: z_t_59 :: z_t_60 :: []))) :: (h_t_tape, .inl (k_t_tape, 200, .inl t_tape)) :: R) sz)) (QZ D r ((h_t, .inr (12, (z_t_0 :: .ref h_t_tape :: z_t_2 :: .int t_a :: .int t_b :: z_t_5 :: z_t_6 :: z_t_7 :: z_t_8 :: z_t_9 :: .long o_t_u :: .long o_t_v :: .long o_t_d :: z_t_13 :: z_t_14 :: z_t_15 :: z_t_16 :: z_t_17 :: z_t_18 :: z_t_19 :: z_t_20 :: z_t_21 :: .long o_t_sumU :: .long o_t_sumV :: .long o_t_sumD :: z_t_25 :: z_t_26 :: z_t_27 :: z_t_28 :: z_t_29 :: z_t_30 :: z_t_31 :: z_t_32 :: z_t_33 :: z_t_34 :: z_t_35 :: z_t_36 :: z_t_37 :: z_t_38 :: z_t_39 :: z_t_40 :: z_t_41 :: z_t_42 :: z_t_43 :: z_t_44 :: z_t_45 :: z_t_46 :: z_t_47 :: z_t_48 :: z_t_49 :: z_t_50 :: z_t_51 :: z_t_52 :: z_t_53 :: z_t_54 :: z_t_55 :: z_t_56 :: z_t_57 :: z_t_58 :: z_t_59 :: z_t_60 :: []))) :: (h_t_tape, .inl (k_t_tape, 200, .inl t_tape)) :: R) (va_A ((h_t, .inr (12, (z_t_0 :: .ref h_t_tape :: z_t_2 :: .int t_a :: .int t_b :: z_t_5 :: z_t_6 :: z_t_7 :: z_t_8 :: z_t_9 :: .long t_u :: .long t_v :: .long t_d :: z_t_13 :: z_t_14 :: z_t_15 :: z_t_16 :: z_t_17 :: z_t_18 :: z_t_19 :: z_t_20 :: z_t_21 :: .long t_sumU :: .long t_sumV :: .long t_sumD :: z_t_25 :: z_t_26 :: z_t_27 :: z_t_28 :: z_t_29 :: z_t_30 :: z_t_31 :: z_t_32 :: z_t_33 :: z_t_34 :: z_t_35 :: z_t_36 :: z_t_37 :: z_t_38 :: z_t_39 :: z_t_40 :: z_t_41 :: z_t_42 :: z_t_43 :: z_t_44 :: z_t_45 :: z_t_46 :: z_t_47 :: z_t_48 :: z_t_49 :: z_t_50 :: z_t_51 :: z_t_52 :: z_t_53 :: z_t_54 :: z_t_55 :: z_t_56 :: z_t_57 :: z_t_58 :: z_t_59 :: z_t_60 :: []))) :: (h_t_tape, .inl (k_t_tape, 200, .inl t_tape)) :: R) sz)) 0 0 (va_A ((h_t, .inr (12, (z_t_0 :: .ref h_t_tape :: z_t_2 :: .int t_a :: .int t_b :: z_t_5 :: z_t_6 :: z_t_7 :: z_t_8 :: z_t_9 :: .long t_u :: .long t_v :: .long t_d :: z_t_13 :: z_t_14 :: z_t_15 :: z_t_16 :: z_t_17 :: z_t_18 :: z_t_19 :: z_t_20 :: z_t_21 :: .long t_sumU :: .long t_sumV :: .long t_sumD :: z_t_25 :: z_t_26 :: z_t_27 :: z_t_28 :: z_t_29 :: z_t_30 :: z_t_31 :: z_t_32 :: z_t_33 :: z_t_34 :: z_t_35 :: z_t_36 :: z_t_37 :: z_t_38 :: z_t_39 :: z_t_40 :: z_t_41 :: z_t_42 :: z_t_43 :: z_t_44 :: z_t_45 :: z_t_46 :: z_t_47 :: z_t_48 :: z_t_49 :: z_t_50 :: z_t_51 :: z_t_52 :: z_t_53 :: z_t_54 :: z_t_55 :: z_t_56 :: z_t_57 :: z_t_58 :: z_t_59 :: z_t_60 :: []))) :: (h_t_tape, .inl (k_t_tape, 200, .inl t_tape)) :: R) sz) := by
  refine ct_start (QF := fun A => QZ D r ((h_t, .inr (12, (z_t_0 :: .ref h_t_tape :: z_t_2 :: .int t_a :: .int t_b :: z_t_5 :: z_t_6 :: z_t_7 :: z_t_8 :: z_t_9 :: .long o_t_u :: .long o_t_v :: .long o_t_d :: z_t_13 :: z_t_14 :: z_t_15 :: z_t_16 :: z_t_17 :: z_t_18 :: z_t_19 :: z_t_20 :: z_t_21 :: .long o_t_sumU :: .long o_t_sumV :: .long o_t_sumD :: z_t_25 :: z_t_26 :: z_t_27 :: z_t_28 :: z_t_29 :: z_t_30 :: z_t_31 :: z_t_32 :: z_t_33 :: z_t_34 :: z_t_35 :: z_t_36 :: z_t_37 :: z_t_38 :: z_t_39 :: z_t_40 :: z_t_41 :: z_t_42 :: z_t_43 :: z_t_44 :: z_t_45 :: z_t_46 :: z_t_47 :: z_t_48 :: z_t_49 :: z_t_50 :: z_t_51 :: z_t_52 :: z_t_53 :: z_t_54 :: z_t_55 :: z_t_56 :: z_t_57 :: z_t_58 :: z_t_59 :: z_t_60 :: []))) :: (h_t_tape, .inl (k_t_tape, 200, .inl t_tape)) :: R) A) ?_ ?_ ?_
  · decide +kernel
  · exact Nat.le_of_ble_eq_true rfl
  intro p e s m args below meth c A ls S hr hlk hnm hS hA hP hD hK hN hl
  have S : CallFix p m c cX12_summed 7 s args AL "DigitBenchModel" := S
  have hx := S.1
  have hb := S.2.1
  have hown := S.2.2.2.1
  have ha := S.2.2.2.2
  have hl : lv_has ls 7 [(0, .ref h_t), (1, .int l1), (2, .int l2), (3, .int l3)] := hl
  have L18 : ∀ (Q : State → Prop) (n : Nat) (l1 : Int32) (l2 : Int32) (l3 : Int32) (l4 : Int32) (t_u : Int64) (t_v : Int64) (t_d : Int64) (t_sumU : Int64) (t_sumV : Int64) (t_sumD : Int64) (tg : Nat) (x_t_u : Int64) (x_t_v : Int64) (x_t_d : Int64) (x_t_sumU : Int64) (x_t_sumV : Int64) (x_t_sumD : Int64), f_X12_summed_L18 l1 l2 l3 t_a t_b t_tape n l4 t_u t_v t_d t_sumU t_sumV t_sumD = some (tg, x_t_u, x_t_v, x_t_d, x_t_sumU, x_t_sumV, x_t_sumD) → ∀ (H : Heap) (locs : List Loc) (ls : Array Slot), va_P D vwCl ((h_t, .inr (12, (z_t_0 :: .ref h_t_tape :: z_t_2 :: .int t_a :: .int t_b :: z_t_5 :: z_t_6 :: z_t_7 :: z_t_8 :: z_t_9 :: .long t_u :: .long t_v :: .long t_d :: z_t_13 :: z_t_14 :: z_t_15 :: z_t_16 :: z_t_17 :: z_t_18 :: z_t_19 :: z_t_20 :: z_t_21 :: .long t_sumU :: .long t_sumV :: .long t_sumD :: z_t_25 :: z_t_26 :: z_t_27 :: z_t_28 :: z_t_29 :: z_t_30 :: z_t_31 :: z_t_32 :: z_t_33 :: z_t_34 :: z_t_35 :: z_t_36 :: z_t_37 :: z_t_38 :: z_t_39 :: z_t_40 :: z_t_41 :: z_t_42 :: z_t_43 :: z_t_44 :: z_t_45 :: z_t_46 :: z_t_47 :: z_t_48 :: z_t_49 :: z_t_50 :: z_t_51 :: z_t_52 :: z_t_53 :: z_t_54 :: z_t_55 :: z_t_56 :: z_t_57 :: z_t_58 :: z_t_59 :: z_t_60 :: []))) :: (h_t_tape, .inl (k_t_tape, 200, .inl t_tape)) :: R) H → va_D A ((h_t, .inr (12, (z_t_0 :: .ref h_t_tape :: z_t_2 :: .int t_a :: .int t_b :: z_t_5 :: z_t_6 :: z_t_7 :: z_t_8 :: z_t_9 :: .long t_u :: .long t_v :: .long t_d :: z_t_13 :: z_t_14 :: z_t_15 :: z_t_16 :: z_t_17 :: z_t_18 :: z_t_19 :: z_t_20 :: z_t_21 :: .long t_sumU :: .long t_sumV :: .long t_sumD :: z_t_25 :: z_t_26 :: z_t_27 :: z_t_28 :: z_t_29 :: z_t_30 :: z_t_31 :: z_t_32 :: z_t_33 :: z_t_34 :: z_t_35 :: z_t_36 :: z_t_37 :: z_t_38 :: z_t_39 :: z_t_40 :: z_t_41 :: z_t_42 :: z_t_43 :: z_t_44 :: z_t_45 :: z_t_46 :: z_t_47 :: z_t_48 :: z_t_49 :: z_t_50 :: z_t_51 :: z_t_52 :: z_t_53 :: z_t_54 :: z_t_55 :: z_t_56 :: z_t_57 :: z_t_58 :: z_t_59 :: z_t_60 :: []))) :: (h_t_tape, .inl (k_t_tape, 200, .inl t_tape)) :: R) → va_S A s.heap H locs → lv_has ls 7 [(0, .ref h_t), (1, .int l1), (2, .int l2), (3, .int l3), (4, .int l4)] → (tg = 0 → ∀ (H : Heap) (locs : List Loc) (ls : Array Slot), va_P D vwCl ((h_t, .inr (12, (z_t_0 :: .ref h_t_tape :: z_t_2 :: .int t_a :: .int t_b :: z_t_5 :: z_t_6 :: z_t_7 :: z_t_8 :: z_t_9 :: .long x_t_u :: .long x_t_v :: .long x_t_d :: z_t_13 :: z_t_14 :: z_t_15 :: z_t_16 :: z_t_17 :: z_t_18 :: z_t_19 :: z_t_20 :: z_t_21 :: .long x_t_sumU :: .long x_t_sumV :: .long x_t_sumD :: z_t_25 :: z_t_26 :: z_t_27 :: z_t_28 :: z_t_29 :: z_t_30 :: z_t_31 :: z_t_32 :: z_t_33 :: z_t_34 :: z_t_35 :: z_t_36 :: z_t_37 :: z_t_38 :: z_t_39 :: z_t_40 :: z_t_41 :: z_t_42 :: z_t_43 :: z_t_44 :: z_t_45 :: z_t_46 :: z_t_47 :: z_t_48 :: z_t_49 :: z_t_50 :: z_t_51 :: z_t_52 :: z_t_53 :: z_t_54 :: z_t_55 :: z_t_56 :: z_t_57 :: z_t_58 :: z_t_59 :: z_t_60 :: []))) :: (h_t_tape, .inl (k_t_tape, 200, .inl t_tape)) :: R) H → va_D A ((h_t, .inr (12, (z_t_0 :: .ref h_t_tape :: z_t_2 :: .int t_a :: .int t_b :: z_t_5 :: z_t_6 :: z_t_7 :: z_t_8 :: z_t_9 :: .long x_t_u :: .long x_t_v :: .long x_t_d :: z_t_13 :: z_t_14 :: z_t_15 :: z_t_16 :: z_t_17 :: z_t_18 :: z_t_19 :: z_t_20 :: z_t_21 :: .long x_t_sumU :: .long x_t_sumV :: .long x_t_sumD :: z_t_25 :: z_t_26 :: z_t_27 :: z_t_28 :: z_t_29 :: z_t_30 :: z_t_31 :: z_t_32 :: z_t_33 :: z_t_34 :: z_t_35 :: z_t_36 :: z_t_37 :: z_t_38 :: z_t_39 :: z_t_40 :: z_t_41 :: z_t_42 :: z_t_43 :: z_t_44 :: z_t_45 :: z_t_46 :: z_t_47 :: z_t_48 :: z_t_49 :: z_t_50 :: z_t_51 :: z_t_52 :: z_t_53 :: z_t_54 :: z_t_55 :: z_t_56 :: z_t_57 :: z_t_58 :: z_t_59 :: z_t_60 :: []))) :: (h_t_tape, .inl (k_t_tape, 200, .inl t_tape)) :: R) → va_S A s.heap H locs → lv_has ls 7 [] → W p l e { frames := 4, cells := 0, slots := 0, locals := 106 } s m args below meth c H locs 0 0 Q (F0 m 35 ls [])) → (tg = 1 → ∀ (H : Heap) (locs : List Loc) (ls : Array Slot), va_P D vwCl ((h_t, .inr (12, (z_t_0 :: .ref h_t_tape :: z_t_2 :: .int t_a :: .int t_b :: z_t_5 :: z_t_6 :: z_t_7 :: z_t_8 :: z_t_9 :: .long x_t_u :: .long x_t_v :: .long x_t_d :: z_t_13 :: z_t_14 :: z_t_15 :: z_t_16 :: z_t_17 :: z_t_18 :: z_t_19 :: z_t_20 :: z_t_21 :: .long x_t_sumU :: .long x_t_sumV :: .long x_t_sumD :: z_t_25 :: z_t_26 :: z_t_27 :: z_t_28 :: z_t_29 :: z_t_30 :: z_t_31 :: z_t_32 :: z_t_33 :: z_t_34 :: z_t_35 :: z_t_36 :: z_t_37 :: z_t_38 :: z_t_39 :: z_t_40 :: z_t_41 :: z_t_42 :: z_t_43 :: z_t_44 :: z_t_45 :: z_t_46 :: z_t_47 :: z_t_48 :: z_t_49 :: z_t_50 :: z_t_51 :: z_t_52 :: z_t_53 :: z_t_54 :: z_t_55 :: z_t_56 :: z_t_57 :: z_t_58 :: z_t_59 :: z_t_60 :: []))) :: (h_t_tape, .inl (k_t_tape, 200, .inl t_tape)) :: R) H → va_D A ((h_t, .inr (12, (z_t_0 :: .ref h_t_tape :: z_t_2 :: .int t_a :: .int t_b :: z_t_5 :: z_t_6 :: z_t_7 :: z_t_8 :: z_t_9 :: .long x_t_u :: .long x_t_v :: .long x_t_d :: z_t_13 :: z_t_14 :: z_t_15 :: z_t_16 :: z_t_17 :: z_t_18 :: z_t_19 :: z_t_20 :: z_t_21 :: .long x_t_sumU :: .long x_t_sumV :: .long x_t_sumD :: z_t_25 :: z_t_26 :: z_t_27 :: z_t_28 :: z_t_29 :: z_t_30 :: z_t_31 :: z_t_32 :: z_t_33 :: z_t_34 :: z_t_35 :: z_t_36 :: z_t_37 :: z_t_38 :: z_t_39 :: z_t_40 :: z_t_41 :: z_t_42 :: z_t_43 :: z_t_44 :: z_t_45 :: z_t_46 :: z_t_47 :: z_t_48 :: z_t_49 :: z_t_50 :: z_t_51 :: z_t_52 :: z_t_53 :: z_t_54 :: z_t_55 :: z_t_56 :: z_t_57 :: z_t_58 :: z_t_59 :: z_t_60 :: []))) :: (h_t_tape, .inl (k_t_tape, 200, .inl t_tape)) :: R) → va_S A s.heap H locs → lv_has ls 7 [(0, .ref h_t)] → W p l e { frames := 4, cells := 0, slots := 0, locals := 106 } s m args below meth c H locs 0 0 Q (F0 m 117 ls [])) → W p l e { frames := 4, cells := 0, slots := 0, locals := 106 } s m args below meth c H locs 0 0 Q (F0 m 18 ls []) := by
    intro Q n
    induction n with
    | zero =>
      intro l1 l2 l3 l4 t_u t_v t_d t_sumU t_sumV t_sumD tg x_t_u x_t_v x_t_d x_t_sumU x_t_sumV x_t_sumD h
      rw [f_X12_summed_L18] at h; cases h
    | succ n ih =>
      intro l1 l2 l3 l4 t_u t_v t_d t_sumU t_sumV t_sumD tg x_t_u x_t_v x_t_d x_t_sumU x_t_sumV x_t_sumD h H locs ls hP hD hS hl kk0 kk1
      rw [f_X12_summed_L18] at h
      refine lv_iload hx hb dX12_summed_18 (lv_at hl 4 rfl) ?_
      refine lv_iload_n hx hb dX12_summed_20 rfl (lv_at hl 2 rfl) ?_
      refine lv_icmp_ge (tgt := 117) hx hb dX12_summed_21 (by decide) (fun c1 => ?_) (fun c1 => ?_)
      · have h := br_pos c1 h
        cases h
        exact kk1 rfl _ _ _ hP hD hS (lv_sub hl [0] rfl)
      · have h := br_neg c1 h
        refine lv_aload_n hx hb dX12_summed_24 rfl (lv_at hl 0 rfl) ?_
        refine lv_iload_n hx hb dX12_summed_25 rfl (lv_at hl 3 rfl) ?_
        refine lv_iload hx hb dX12_summed_26 (lv_at hl 4 rfl) ?_
        refine lv_isub hx hb dX12_summed_28 ?_
        obtain ⟨r_c29_1, t_u_c29_1, t_v_c29_1, t_d_c29_1, e_c29_1, h⟩ := bnd4_ok h
        refine cl_z (rn_v (ci := 12) (As := [.int (l3 - l4)]) (rest := []) S (c_X12_power l D ((h_t_tape, .inl (k_t_tape, 200, .inl t_tape)) :: R) h_t (z_t_0) (.ref h_t_tape) (z_t_2) t_a t_b (z_t_5) (z_t_6) (z_t_7) (z_t_8) (z_t_9) t_u t_v t_d (z_t_13) (z_t_14) (z_t_15) (z_t_16) (z_t_17) (z_t_18) (z_t_19) (z_t_20) (z_t_21) (.long t_sumU) (.long t_sumV) (.long t_sumD) (z_t_25) (z_t_26) (z_t_27) (z_t_28) (z_t_29) (z_t_30) (z_t_31) (z_t_32) (z_t_33) (z_t_34) (z_t_35) (z_t_36) (z_t_37) (z_t_38) (z_t_39) (z_t_40) (z_t_41) (z_t_42) (z_t_43) (z_t_44) (z_t_45) (z_t_46) (z_t_47) (z_t_48) (z_t_49) (z_t_50) (z_t_51) (z_t_52) (z_t_53) (z_t_54) (z_t_55) (z_t_56) (z_t_57) (z_t_58) (z_t_59) (z_t_60) (l3 - l4) r_c29_1 t_u_c29_1 t_v_c29_1 t_d_c29_1 e_c29_1 _) q1263 q1265 q40 q61 q1266 nd_X12_power ⟨Nat.le_of_ble_eq_true rfl, Nat.le_of_ble_eq_true rfl⟩ rfl rfl hP hD (hK.sub (tys' := []) [] rfl) hN rfl ⟨0, _, rfl⟩ rfl hl.1 rfl (Nat.le_of_ble_eq_true rfl) dX12_summed_29 ⟨Nat.le_of_ble_eq_true rfl, Nat.le_of_ble_eq_true rfl⟩) hS hA hD (fun H locs hP hD hS z_c29_1 => ?_)
        have hP : va_P D vwCl ((h_t, .inr (12, (z_t_0 :: .ref h_t_tape :: z_t_2 :: .int t_a :: .int t_b :: z_t_5 :: z_t_6 :: z_t_7 :: z_t_8 :: z_t_9 :: .long t_u_c29_1 :: .long t_v_c29_1 :: .long t_d_c29_1 :: z_t_13 :: z_t_14 :: z_t_15 :: z_t_16 :: z_t_17 :: z_t_18 :: z_t_19 :: z_t_20 :: z_t_21 :: .long t_sumU :: .long t_sumV :: .long t_sumD :: z_t_25 :: z_t_26 :: z_t_27 :: z_t_28 :: z_t_29 :: z_t_30 :: z_t_31 :: z_t_32 :: z_t_33 :: z_t_34 :: z_t_35 :: z_t_36 :: z_t_37 :: z_t_38 :: z_t_39 :: z_t_40 :: z_t_41 :: z_t_42 :: z_t_43 :: z_t_44 :: z_t_45 :: z_t_46 :: z_t_47 :: z_t_48 :: z_t_49 :: z_t_50 :: z_t_51 :: z_t_52 :: z_t_53 :: z_t_54 :: z_t_55 :: z_t_56 :: z_t_57 :: z_t_58 :: z_t_59 :: z_t_60 :: []))) :: (h_t_tape, .inl (k_t_tape, 200, .inl t_tape)) :: R) H := hP
        have hD : va_D A ((h_t, .inr (12, (z_t_0 :: .ref h_t_tape :: z_t_2 :: .int t_a :: .int t_b :: z_t_5 :: z_t_6 :: z_t_7 :: z_t_8 :: z_t_9 :: .long t_u_c29_1 :: .long t_v_c29_1 :: .long t_d_c29_1 :: z_t_13 :: z_t_14 :: z_t_15 :: z_t_16 :: z_t_17 :: z_t_18 :: z_t_19 :: z_t_20 :: z_t_21 :: .long t_sumU :: .long t_sumV :: .long t_sumD :: z_t_25 :: z_t_26 :: z_t_27 :: z_t_28 :: z_t_29 :: z_t_30 :: z_t_31 :: z_t_32 :: z_t_33 :: z_t_34 :: z_t_35 :: z_t_36 :: z_t_37 :: z_t_38 :: z_t_39 :: z_t_40 :: z_t_41 :: z_t_42 :: z_t_43 :: z_t_44 :: z_t_45 :: z_t_46 :: z_t_47 :: z_t_48 :: z_t_49 :: z_t_50 :: z_t_51 :: z_t_52 :: z_t_53 :: z_t_54 :: z_t_55 :: z_t_56 :: z_t_57 :: z_t_58 :: z_t_59 :: z_t_60 :: []))) :: (h_t_tape, .inl (k_t_tape, 200, .inl t_tape)) :: R) := hD
        refine lv_if_ne (tgt := 37) hx hb dX12_summed_32 (by decide) (fun c3 => ?_) (fun c3 => ?_)
        · have h := br_neg c3 h
          refine lv_aload_n hx hb dX12_summed_37 rfl (lv_at hl 0 rfl) ?_
          refine va_get (D := D) (ci := 12) (v := .ref h_t_tape) (C := RX12) (T := TX12) (N := 61) hx hb ha ix12 hown hK hP 0 rfl rfl 1 (by decide) (ha _ q961) (fun _ h9 => h9) rfl dX12_summed_38 ?_
          refine lv_iload_n hx hb dX12_summed_41 rfl (lv_at hl 1 rfl) ?_
          refine lv_iload hx hb dX12_summed_42 (lv_at hl 4 rfl) ?_
          refine lv_iadd hx hb dX12_summed_44 ?_
          obtain ⟨i4, h⟩ := ix_ok h
          refine va_bald hx hb hK hP 1 0 rfl rfl i4 dX12_summed_45 ?_
          refine lv_i2l (v := (t_tape (l1 + l4).toNatClampNeg).toInt64) hx hb dX12_summed_46 rfl ?_
          refine lv_lstore (lv' := [(5, .long (t_tape (l1 + l4).toNatClampNeg).toInt64), (0, .ref h_t), (1, .int l1), (2, .int l2), (3, .int l3), (4, .int l4)]) hx hb dX12_summed_47 hl (by decide) rfl (fun ls hl => ?_)
          refine lv_aload_n hx hb dX12_summed_49 rfl (lv_at hl 1 rfl) ?_
          refine lv_dup hx hb dX12_summed_50 rfl ?_
          refine va_get (D := D) (ci := 12) (v := .long t_u_c29_1) (C := RX12) (T := TX12) (N := 61) hx hb ha ix12 hown hK hP 0 rfl rfl 10 (by decide) (ha _ q970) (fun _ h9 => h9) rfl dX12_summed_51 ?_
          refine lv_lload hx hb dX12_summed_54 (lv_at hl 0 rfl) ?_
          refine lv_lmul hx hb dX12_summed_56 ?_
          refine va_put (D := D) (ci := 12) (v := .long (t_u_c29_1 * (t_tape (l1 + l4).toNatClampNeg).toInt64)) (ty := .long) (C := RX12) (T := TX12) (N := 61) hx hb ha ix12 tyX12 tyX12_ok nmX12 hown hK hP hD hS 0 rfl rfl 10 (by decide) (ha _ q970) (fun _ h9 => h9) rfl (by decide +kernel) rfl rfl (Nat.le_of_ble_eq_true rfl) dX12_summed_57 (fun H locs hP hD hS => ?_)
          have hP : va_P D vwCl ((h_t, .inr (12, (z_t_0 :: .ref h_t_tape :: z_t_2 :: .int t_a :: .int t_b :: z_t_5 :: z_t_6 :: z_t_7 :: z_t_8 :: z_t_9 :: .long (t_u_c29_1 * (t_tape (l1 + l4).toNatClampNeg).toInt64) :: .long t_v_c29_1 :: .long t_d_c29_1 :: z_t_13 :: z_t_14 :: z_t_15 :: z_t_16 :: z_t_17 :: z_t_18 :: z_t_19 :: z_t_20 :: z_t_21 :: .long t_sumU :: .long t_sumV :: .long t_sumD :: z_t_25 :: z_t_26 :: z_t_27 :: z_t_28 :: z_t_29 :: z_t_30 :: z_t_31 :: z_t_32 :: z_t_33 :: z_t_34 :: z_t_35 :: z_t_36 :: z_t_37 :: z_t_38 :: z_t_39 :: z_t_40 :: z_t_41 :: z_t_42 :: z_t_43 :: z_t_44 :: z_t_45 :: z_t_46 :: z_t_47 :: z_t_48 :: z_t_49 :: z_t_50 :: z_t_51 :: z_t_52 :: z_t_53 :: z_t_54 :: z_t_55 :: z_t_56 :: z_t_57 :: z_t_58 :: z_t_59 :: z_t_60 :: []))) :: (h_t_tape, .inl (k_t_tape, 200, .inl t_tape)) :: R) H := hP
          have hD : va_D A ((h_t, .inr (12, (z_t_0 :: .ref h_t_tape :: z_t_2 :: .int t_a :: .int t_b :: z_t_5 :: z_t_6 :: z_t_7 :: z_t_8 :: z_t_9 :: .long (t_u_c29_1 * (t_tape (l1 + l4).toNatClampNeg).toInt64) :: .long t_v_c29_1 :: .long t_d_c29_1 :: z_t_13 :: z_t_14 :: z_t_15 :: z_t_16 :: z_t_17 :: z_t_18 :: z_t_19 :: z_t_20 :: z_t_21 :: .long t_sumU :: .long t_sumV :: .long t_sumD :: z_t_25 :: z_t_26 :: z_t_27 :: z_t_28 :: z_t_29 :: z_t_30 :: z_t_31 :: z_t_32 :: z_t_33 :: z_t_34 :: z_t_35 :: z_t_36 :: z_t_37 :: z_t_38 :: z_t_39 :: z_t_40 :: z_t_41 :: z_t_42 :: z_t_43 :: z_t_44 :: z_t_45 :: z_t_46 :: z_t_47 :: z_t_48 :: z_t_49 :: z_t_50 :: z_t_51 :: z_t_52 :: z_t_53 :: z_t_54 :: z_t_55 :: z_t_56 :: z_t_57 :: z_t_58 :: z_t_59 :: z_t_60 :: []))) :: (h_t_tape, .inl (k_t_tape, 200, .inl t_tape)) :: R) := hD
          refine lv_aload_n hx hb dX12_summed_60 rfl (lv_at hl 1 rfl) ?_
          refine lv_dup hx hb dX12_summed_61 rfl ?_
          refine va_get (D := D) (ci := 12) (v := .long t_v_c29_1) (C := RX12) (T := TX12) (N := 61) hx hb ha ix12 hown hK hP 0 rfl rfl 11 (by decide) (ha _ q971) (fun _ h9 => h9) rfl dX12_summed_62 ?_
          refine lv_lload hx hb dX12_summed_65 (lv_at hl 0 rfl) ?_
          refine lv_lmul hx hb dX12_summed_67 ?_
          refine va_put (D := D) (ci := 12) (v := .long (t_v_c29_1 * (t_tape (l1 + l4).toNatClampNeg).toInt64)) (ty := .long) (C := RX12) (T := TX12) (N := 61) hx hb ha ix12 tyX12 tyX12_ok nmX12 hown hK hP hD hS 0 rfl rfl 11 (by decide) (ha _ q971) (fun _ h9 => h9) rfl (by decide +kernel) rfl rfl (Nat.le_of_ble_eq_true rfl) dX12_summed_68 (fun H locs hP hD hS => ?_)
          have hP : va_P D vwCl ((h_t, .inr (12, (z_t_0 :: .ref h_t_tape :: z_t_2 :: .int t_a :: .int t_b :: z_t_5 :: z_t_6 :: z_t_7 :: z_t_8 :: z_t_9 :: .long (t_u_c29_1 * (t_tape (l1 + l4).toNatClampNeg).toInt64) :: .long (t_v_c29_1 * (t_tape (l1 + l4).toNatClampNeg).toInt64) :: .long t_d_c29_1 :: z_t_13 :: z_t_14 :: z_t_15 :: z_t_16 :: z_t_17 :: z_t_18 :: z_t_19 :: z_t_20 :: z_t_21 :: .long t_sumU :: .long t_sumV :: .long t_sumD :: z_t_25 :: z_t_26 :: z_t_27 :: z_t_28 :: z_t_29 :: z_t_30 :: z_t_31 :: z_t_32 :: z_t_33 :: z_t_34 :: z_t_35 :: z_t_36 :: z_t_37 :: z_t_38 :: z_t_39 :: z_t_40 :: z_t_41 :: z_t_42 :: z_t_43 :: z_t_44 :: z_t_45 :: z_t_46 :: z_t_47 :: z_t_48 :: z_t_49 :: z_t_50 :: z_t_51 :: z_t_52 :: z_t_53 :: z_t_54 :: z_t_55 :: z_t_56 :: z_t_57 :: z_t_58 :: z_t_59 :: z_t_60 :: []))) :: (h_t_tape, .inl (k_t_tape, 200, .inl t_tape)) :: R) H := hP
          have hD : va_D A ((h_t, .inr (12, (z_t_0 :: .ref h_t_tape :: z_t_2 :: .int t_a :: .int t_b :: z_t_5 :: z_t_6 :: z_t_7 :: z_t_8 :: z_t_9 :: .long (t_u_c29_1 * (t_tape (l1 + l4).toNatClampNeg).toInt64) :: .long (t_v_c29_1 * (t_tape (l1 + l4).toNatClampNeg).toInt64) :: .long t_d_c29_1 :: z_t_13 :: z_t_14 :: z_t_15 :: z_t_16 :: z_t_17 :: z_t_18 :: z_t_19 :: z_t_20 :: z_t_21 :: .long t_sumU :: .long t_sumV :: .long t_sumD :: z_t_25 :: z_t_26 :: z_t_27 :: z_t_28 :: z_t_29 :: z_t_30 :: z_t_31 :: z_t_32 :: z_t_33 :: z_t_34 :: z_t_35 :: z_t_36 :: z_t_37 :: z_t_38 :: z_t_39 :: z_t_40 :: z_t_41 :: z_t_42 :: z_t_43 :: z_t_44 :: z_t_45 :: z_t_46 :: z_t_47 :: z_t_48 :: z_t_49 :: z_t_50 :: z_t_51 :: z_t_52 :: z_t_53 :: z_t_54 :: z_t_55 :: z_t_56 :: z_t_57 :: z_t_58 :: z_t_59 :: z_t_60 :: []))) :: (h_t_tape, .inl (k_t_tape, 200, .inl t_tape)) :: R) := hD
          refine lv_aload_n hx hb dX12_summed_71 rfl (lv_at hl 1 rfl) ?_
          refine lv_aload_n hx hb dX12_summed_72 rfl (lv_at hl 1 rfl) ?_
          refine va_get (D := D) (ci := 12) (v := .long t_sumU) (C := RX12) (T := TX12) (N := 61) hx hb ha ix12 hown hK hP 0 rfl rfl 22 (by decide) (ha _ q982) (fun _ h9 => h9) rfl dX12_summed_73 ?_
          refine lv_aload_n hx hb dX12_summed_76 rfl (lv_at hl 1 rfl) ?_
          refine va_get (D := D) (ci := 12) (v := .long t_sumV) (C := RX12) (T := TX12) (N := 61) hx hb ha ix12 hown hK hP 0 rfl rfl 23 (by decide) (ha _ q983) (fun _ h9 => h9) rfl dX12_summed_77 ?_
          refine lv_aload_n hx hb dX12_summed_80 rfl (lv_at hl 1 rfl) ?_
          refine va_get (D := D) (ci := 12) (v := .long t_sumD) (C := RX12) (T := TX12) (N := 61) hx hb ha ix12 hown hK hP 0 rfl rfl 24 (by decide) (ha _ q984) (fun _ h9 => h9) rfl dX12_summed_81 ?_
          obtain ⟨t_u_c84_4, t_v_c84_4, t_d_c84_4, e_c84_4, h⟩ := bnd3_ok h
          refine cl_v (rn_v (ci := 12) (As := [.long t_sumU, .long t_sumV, .long t_sumD]) (rest := []) S (c_X12_plus l D ((h_t_tape, .inl (k_t_tape, 200, .inl t_tape)) :: R) h_t (z_t_0) (.ref h_t_tape) (z_t_2) (.int t_a) (.int t_b) (z_t_5) (z_t_6) (z_t_7) (z_t_8) (z_t_9) (t_u_c29_1 * (t_tape (l1 + l4).toNatClampNeg).toInt64) (t_v_c29_1 * (t_tape (l1 + l4).toNatClampNeg).toInt64) t_d_c29_1 (z_t_13) (z_t_14) (z_t_15) (z_t_16) (z_t_17) (z_t_18) (z_t_19) (z_t_20) (z_t_21) (.long t_sumU) (.long t_sumV) (.long t_sumD) (z_t_25) (z_t_26) (z_t_27) (z_t_28) (z_t_29) (z_t_30) (z_t_31) (z_t_32) (z_t_33) (z_t_34) (z_t_35) (z_t_36) (z_t_37) (z_t_38) (z_t_39) (z_t_40) (z_t_41) (z_t_42) (z_t_43) (z_t_44) (z_t_45) (z_t_46) (z_t_47) (z_t_48) (z_t_49) (z_t_50) (z_t_51) (z_t_52) (z_t_53) (z_t_54) (z_t_55) (z_t_56) (z_t_57) (z_t_58) (z_t_59) (z_t_60) t_sumU t_sumV t_sumD t_u_c84_4 t_v_c84_4 t_d_c84_4 e_c84_4 _) q1198 q1200 q31 q61 q1201 nd_X12_plus ⟨Nat.le_of_ble_eq_true rfl, Nat.le_of_ble_eq_true rfl⟩ rfl rfl hP hD (hK.sub (tys' := []) [] rfl) hN rfl ⟨0, _, rfl⟩ rfl hl.1 rfl (Nat.le_of_ble_eq_true rfl) dX12_summed_84 ⟨Nat.le_of_ble_eq_true rfl, Nat.le_of_ble_eq_true rfl⟩) hS hA hD (fun H locs hP hD hS => ?_)
          have hP : va_P D vwCl ((h_t, .inr (12, (z_t_0 :: .ref h_t_tape :: z_t_2 :: .int t_a :: .int t_b :: z_t_5 :: z_t_6 :: z_t_7 :: z_t_8 :: z_t_9 :: .long t_u_c84_4 :: .long t_v_c84_4 :: .long t_d_c84_4 :: z_t_13 :: z_t_14 :: z_t_15 :: z_t_16 :: z_t_17 :: z_t_18 :: z_t_19 :: z_t_20 :: z_t_21 :: .long t_sumU :: .long t_sumV :: .long t_sumD :: z_t_25 :: z_t_26 :: z_t_27 :: z_t_28 :: z_t_29 :: z_t_30 :: z_t_31 :: z_t_32 :: z_t_33 :: z_t_34 :: z_t_35 :: z_t_36 :: z_t_37 :: z_t_38 :: z_t_39 :: z_t_40 :: z_t_41 :: z_t_42 :: z_t_43 :: z_t_44 :: z_t_45 :: z_t_46 :: z_t_47 :: z_t_48 :: z_t_49 :: z_t_50 :: z_t_51 :: z_t_52 :: z_t_53 :: z_t_54 :: z_t_55 :: z_t_56 :: z_t_57 :: z_t_58 :: z_t_59 :: z_t_60 :: []))) :: (h_t_tape, .inl (k_t_tape, 200, .inl t_tape)) :: R) H := hP
          have hD : va_D A ((h_t, .inr (12, (z_t_0 :: .ref h_t_tape :: z_t_2 :: .int t_a :: .int t_b :: z_t_5 :: z_t_6 :: z_t_7 :: z_t_8 :: z_t_9 :: .long t_u_c84_4 :: .long t_v_c84_4 :: .long t_d_c84_4 :: z_t_13 :: z_t_14 :: z_t_15 :: z_t_16 :: z_t_17 :: z_t_18 :: z_t_19 :: z_t_20 :: z_t_21 :: .long t_sumU :: .long t_sumV :: .long t_sumD :: z_t_25 :: z_t_26 :: z_t_27 :: z_t_28 :: z_t_29 :: z_t_30 :: z_t_31 :: z_t_32 :: z_t_33 :: z_t_34 :: z_t_35 :: z_t_36 :: z_t_37 :: z_t_38 :: z_t_39 :: z_t_40 :: z_t_41 :: z_t_42 :: z_t_43 :: z_t_44 :: z_t_45 :: z_t_46 :: z_t_47 :: z_t_48 :: z_t_49 :: z_t_50 :: z_t_51 :: z_t_52 :: z_t_53 :: z_t_54 :: z_t_55 :: z_t_56 :: z_t_57 :: z_t_58 :: z_t_59 :: z_t_60 :: []))) :: (h_t_tape, .inl (k_t_tape, 200, .inl t_tape)) :: R) := hD
          refine lv_aload_n hx hb dX12_summed_87 rfl (lv_at hl 1 rfl) ?_
          refine lv_aload_n hx hb dX12_summed_88 rfl (lv_at hl 1 rfl) ?_
          refine va_get (D := D) (ci := 12) (v := .long t_u_c84_4) (C := RX12) (T := TX12) (N := 61) hx hb ha ix12 hown hK hP 0 rfl rfl 10 (by decide) (ha _ q970) (fun _ h9 => h9) rfl dX12_summed_89 ?_
          refine va_put (D := D) (ci := 12) (v := .long t_u_c84_4) (ty := .long) (C := RX12) (T := TX12) (N := 61) hx hb ha ix12 tyX12 tyX12_ok nmX12 hown hK hP hD hS 0 rfl rfl 22 (by decide) (ha _ q982) (fun _ h9 => h9) rfl (by decide +kernel) rfl rfl (Nat.le_of_ble_eq_true rfl) dX12_summed_92 (fun H locs hP hD hS => ?_)
          have hP : va_P D vwCl ((h_t, .inr (12, (z_t_0 :: .ref h_t_tape :: z_t_2 :: .int t_a :: .int t_b :: z_t_5 :: z_t_6 :: z_t_7 :: z_t_8 :: z_t_9 :: .long t_u_c84_4 :: .long t_v_c84_4 :: .long t_d_c84_4 :: z_t_13 :: z_t_14 :: z_t_15 :: z_t_16 :: z_t_17 :: z_t_18 :: z_t_19 :: z_t_20 :: z_t_21 :: .long t_u_c84_4 :: .long t_sumV :: .long t_sumD :: z_t_25 :: z_t_26 :: z_t_27 :: z_t_28 :: z_t_29 :: z_t_30 :: z_t_31 :: z_t_32 :: z_t_33 :: z_t_34 :: z_t_35 :: z_t_36 :: z_t_37 :: z_t_38 :: z_t_39 :: z_t_40 :: z_t_41 :: z_t_42 :: z_t_43 :: z_t_44 :: z_t_45 :: z_t_46 :: z_t_47 :: z_t_48 :: z_t_49 :: z_t_50 :: z_t_51 :: z_t_52 :: z_t_53 :: z_t_54 :: z_t_55 :: z_t_56 :: z_t_57 :: z_t_58 :: z_t_59 :: z_t_60 :: []))) :: (h_t_tape, .inl (k_t_tape, 200, .inl t_tape)) :: R) H := hP
          have hD : va_D A ((h_t, .inr (12, (z_t_0 :: .ref h_t_tape :: z_t_2 :: .int t_a :: .int t_b :: z_t_5 :: z_t_6 :: z_t_7 :: z_t_8 :: z_t_9 :: .long t_u_c84_4 :: .long t_v_c84_4 :: .long t_d_c84_4 :: z_t_13 :: z_t_14 :: z_t_15 :: z_t_16 :: z_t_17 :: z_t_18 :: z_t_19 :: z_t_20 :: z_t_21 :: .long t_u_c84_4 :: .long t_sumV :: .long t_sumD :: z_t_25 :: z_t_26 :: z_t_27 :: z_t_28 :: z_t_29 :: z_t_30 :: z_t_31 :: z_t_32 :: z_t_33 :: z_t_34 :: z_t_35 :: z_t_36 :: z_t_37 :: z_t_38 :: z_t_39 :: z_t_40 :: z_t_41 :: z_t_42 :: z_t_43 :: z_t_44 :: z_t_45 :: z_t_46 :: z_t_47 :: z_t_48 :: z_t_49 :: z_t_50 :: z_t_51 :: z_t_52 :: z_t_53 :: z_t_54 :: z_t_55 :: z_t_56 :: z_t_57 :: z_t_58 :: z_t_59 :: z_t_60 :: []))) :: (h_t_tape, .inl (k_t_tape, 200, .inl t_tape)) :: R) := hD
          refine lv_aload_n hx hb dX12_summed_95 rfl (lv_at hl 1 rfl) ?_
          refine lv_aload_n hx hb dX12_summed_96 rfl (lv_at hl 1 rfl) ?_
          refine va_get (D := D) (ci := 12) (v := .long t_v_c84_4) (C := RX12) (T := TX12) (N := 61) hx hb ha ix12 hown hK hP 0 rfl rfl 11 (by decide) (ha _ q971) (fun _ h9 => h9) rfl dX12_summed_97 ?_
          refine va_put (D := D) (ci := 12) (v := .long t_v_c84_4) (ty := .long) (C := RX12) (T := TX12) (N := 61) hx hb ha ix12 tyX12 tyX12_ok nmX12 hown hK hP hD hS 0 rfl rfl 23 (by decide) (ha _ q983) (fun _ h9 => h9) rfl (by decide +kernel) rfl rfl (Nat.le_of_ble_eq_true rfl) dX12_summed_100 (fun H locs hP hD hS => ?_)
          have hP : va_P D vwCl ((h_t, .inr (12, (z_t_0 :: .ref h_t_tape :: z_t_2 :: .int t_a :: .int t_b :: z_t_5 :: z_t_6 :: z_t_7 :: z_t_8 :: z_t_9 :: .long t_u_c84_4 :: .long t_v_c84_4 :: .long t_d_c84_4 :: z_t_13 :: z_t_14 :: z_t_15 :: z_t_16 :: z_t_17 :: z_t_18 :: z_t_19 :: z_t_20 :: z_t_21 :: .long t_u_c84_4 :: .long t_v_c84_4 :: .long t_sumD :: z_t_25 :: z_t_26 :: z_t_27 :: z_t_28 :: z_t_29 :: z_t_30 :: z_t_31 :: z_t_32 :: z_t_33 :: z_t_34 :: z_t_35 :: z_t_36 :: z_t_37 :: z_t_38 :: z_t_39 :: z_t_40 :: z_t_41 :: z_t_42 :: z_t_43 :: z_t_44 :: z_t_45 :: z_t_46 :: z_t_47 :: z_t_48 :: z_t_49 :: z_t_50 :: z_t_51 :: z_t_52 :: z_t_53 :: z_t_54 :: z_t_55 :: z_t_56 :: z_t_57 :: z_t_58 :: z_t_59 :: z_t_60 :: []))) :: (h_t_tape, .inl (k_t_tape, 200, .inl t_tape)) :: R) H := hP
          have hD : va_D A ((h_t, .inr (12, (z_t_0 :: .ref h_t_tape :: z_t_2 :: .int t_a :: .int t_b :: z_t_5 :: z_t_6 :: z_t_7 :: z_t_8 :: z_t_9 :: .long t_u_c84_4 :: .long t_v_c84_4 :: .long t_d_c84_4 :: z_t_13 :: z_t_14 :: z_t_15 :: z_t_16 :: z_t_17 :: z_t_18 :: z_t_19 :: z_t_20 :: z_t_21 :: .long t_u_c84_4 :: .long t_v_c84_4 :: .long t_sumD :: z_t_25 :: z_t_26 :: z_t_27 :: z_t_28 :: z_t_29 :: z_t_30 :: z_t_31 :: z_t_32 :: z_t_33 :: z_t_34 :: z_t_35 :: z_t_36 :: z_t_37 :: z_t_38 :: z_t_39 :: z_t_40 :: z_t_41 :: z_t_42 :: z_t_43 :: z_t_44 :: z_t_45 :: z_t_46 :: z_t_47 :: z_t_48 :: z_t_49 :: z_t_50 :: z_t_51 :: z_t_52 :: z_t_53 :: z_t_54 :: z_t_55 :: z_t_56 :: z_t_57 :: z_t_58 :: z_t_59 :: z_t_60 :: []))) :: (h_t_tape, .inl (k_t_tape, 200, .inl t_tape)) :: R) := hD
          refine lv_aload_n hx hb dX12_summed_103 rfl (lv_at hl 1 rfl) ?_
          refine lv_aload_n hx hb dX12_summed_104 rfl (lv_at hl 1 rfl) ?_
          refine va_get (D := D) (ci := 12) (v := .long t_d_c84_4) (C := RX12) (T := TX12) (N := 61) hx hb ha ix12 hown hK hP 0 rfl rfl 12 (by decide) (ha _ q972) (fun _ h9 => h9) rfl dX12_summed_105 ?_
          refine va_put (D := D) (ci := 12) (v := .long t_d_c84_4) (ty := .long) (C := RX12) (T := TX12) (N := 61) hx hb ha ix12 tyX12 tyX12_ok nmX12 hown hK hP hD hS 0 rfl rfl 24 (by decide) (ha _ q984) (fun _ h9 => h9) rfl (by decide +kernel) rfl rfl (Nat.le_of_ble_eq_true rfl) dX12_summed_108 (fun H locs hP hD hS => ?_)
          have hP : va_P D vwCl ((h_t, .inr (12, (z_t_0 :: .ref h_t_tape :: z_t_2 :: .int t_a :: .int t_b :: z_t_5 :: z_t_6 :: z_t_7 :: z_t_8 :: z_t_9 :: .long t_u_c84_4 :: .long t_v_c84_4 :: .long t_d_c84_4 :: z_t_13 :: z_t_14 :: z_t_15 :: z_t_16 :: z_t_17 :: z_t_18 :: z_t_19 :: z_t_20 :: z_t_21 :: .long t_u_c84_4 :: .long t_v_c84_4 :: .long t_d_c84_4 :: z_t_25 :: z_t_26 :: z_t_27 :: z_t_28 :: z_t_29 :: z_t_30 :: z_t_31 :: z_t_32 :: z_t_33 :: z_t_34 :: z_t_35 :: z_t_36 :: z_t_37 :: z_t_38 :: z_t_39 :: z_t_40 :: z_t_41 :: z_t_42 :: z_t_43 :: z_t_44 :: z_t_45 :: z_t_46 :: z_t_47 :: z_t_48 :: z_t_49 :: z_t_50 :: z_t_51 :: z_t_52 :: z_t_53 :: z_t_54 :: z_t_55 :: z_t_56 :: z_t_57 :: z_t_58 :: z_t_59 :: z_t_60 :: []))) :: (h_t_tape, .inl (k_t_tape, 200, .inl t_tape)) :: R) H := hP
          have hD : va_D A ((h_t, .inr (12, (z_t_0 :: .ref h_t_tape :: z_t_2 :: .int t_a :: .int t_b :: z_t_5 :: z_t_6 :: z_t_7 :: z_t_8 :: z_t_9 :: .long t_u_c84_4 :: .long t_v_c84_4 :: .long t_d_c84_4 :: z_t_13 :: z_t_14 :: z_t_15 :: z_t_16 :: z_t_17 :: z_t_18 :: z_t_19 :: z_t_20 :: z_t_21 :: .long t_u_c84_4 :: .long t_v_c84_4 :: .long t_d_c84_4 :: z_t_25 :: z_t_26 :: z_t_27 :: z_t_28 :: z_t_29 :: z_t_30 :: z_t_31 :: z_t_32 :: z_t_33 :: z_t_34 :: z_t_35 :: z_t_36 :: z_t_37 :: z_t_38 :: z_t_39 :: z_t_40 :: z_t_41 :: z_t_42 :: z_t_43 :: z_t_44 :: z_t_45 :: z_t_46 :: z_t_47 :: z_t_48 :: z_t_49 :: z_t_50 :: z_t_51 :: z_t_52 :: z_t_53 :: z_t_54 :: z_t_55 :: z_t_56 :: z_t_57 :: z_t_58 :: z_t_59 :: z_t_60 :: []))) :: (h_t_tape, .inl (k_t_tape, 200, .inl t_tape)) :: R) := hD
          refine lv_iinc (v := (l4 + 1)) (lv' := [(4, .int (l4 + 1)), (5, .long (t_tape (l1 + l4).toNatClampNeg).toInt64), (0, .ref h_t), (1, .int l1), (2, .int l2), (3, .int l3)]) hx hb dX12_summed_111 hl (k := 5) rfl rfl (by decide) rfl (fun ls hl => ?_)
          refine lv_goto (tgt := 18) hx hb dX12_summed_114 (by decide) ?_
          exact ih l1 l2 l3 (l4 + 1) t_u_c84_4 t_v_c84_4 t_d_c84_4 t_u_c84_4 t_v_c84_4 t_d_c84_4 _ _ _ _ _ _ _ h _ _ _ hP hD hS (lv_sub hl [2, 3, 4, 5, 0] rfl) kk0 kk1
        · have h := br_pos c3 h
          cases h
          exact kk0 rfl _ _ _ hP hD hS (lv_sub hl [] rfl)
  unfold f_X12_summed at h
  refine lv_aload_n hx hb dX12_summed_0 rfl (lv_at hl 0 rfl) ?_
  refine lv_lconst (v := 0) hx hb dX12_summed_1 (by decide) ?_
  refine va_put (D := D) (ci := 12) (v := .long 0) (ty := .long) (C := RX12) (T := TX12) (N := 61) hx hb ha ix12 tyX12 tyX12_ok nmX12 hown hK hP hD hS 0 rfl rfl 22 (by decide) (ha _ q982) (fun _ h9 => h9) rfl (by decide +kernel) rfl rfl (Nat.le_of_ble_eq_true rfl) dX12_summed_2 (fun H locs hP hD hS => ?_)
  have hP : va_P D vwCl ((h_t, .inr (12, (z_t_0 :: .ref h_t_tape :: z_t_2 :: .int t_a :: .int t_b :: z_t_5 :: z_t_6 :: z_t_7 :: z_t_8 :: z_t_9 :: .long t_u :: .long t_v :: .long t_d :: z_t_13 :: z_t_14 :: z_t_15 :: z_t_16 :: z_t_17 :: z_t_18 :: z_t_19 :: z_t_20 :: z_t_21 :: .long 0 :: .long t_sumV :: .long t_sumD :: z_t_25 :: z_t_26 :: z_t_27 :: z_t_28 :: z_t_29 :: z_t_30 :: z_t_31 :: z_t_32 :: z_t_33 :: z_t_34 :: z_t_35 :: z_t_36 :: z_t_37 :: z_t_38 :: z_t_39 :: z_t_40 :: z_t_41 :: z_t_42 :: z_t_43 :: z_t_44 :: z_t_45 :: z_t_46 :: z_t_47 :: z_t_48 :: z_t_49 :: z_t_50 :: z_t_51 :: z_t_52 :: z_t_53 :: z_t_54 :: z_t_55 :: z_t_56 :: z_t_57 :: z_t_58 :: z_t_59 :: z_t_60 :: []))) :: (h_t_tape, .inl (k_t_tape, 200, .inl t_tape)) :: R) H := hP
  have hD : va_D A ((h_t, .inr (12, (z_t_0 :: .ref h_t_tape :: z_t_2 :: .int t_a :: .int t_b :: z_t_5 :: z_t_6 :: z_t_7 :: z_t_8 :: z_t_9 :: .long t_u :: .long t_v :: .long t_d :: z_t_13 :: z_t_14 :: z_t_15 :: z_t_16 :: z_t_17 :: z_t_18 :: z_t_19 :: z_t_20 :: z_t_21 :: .long 0 :: .long t_sumV :: .long t_sumD :: z_t_25 :: z_t_26 :: z_t_27 :: z_t_28 :: z_t_29 :: z_t_30 :: z_t_31 :: z_t_32 :: z_t_33 :: z_t_34 :: z_t_35 :: z_t_36 :: z_t_37 :: z_t_38 :: z_t_39 :: z_t_40 :: z_t_41 :: z_t_42 :: z_t_43 :: z_t_44 :: z_t_45 :: z_t_46 :: z_t_47 :: z_t_48 :: z_t_49 :: z_t_50 :: z_t_51 :: z_t_52 :: z_t_53 :: z_t_54 :: z_t_55 :: z_t_56 :: z_t_57 :: z_t_58 :: z_t_59 :: z_t_60 :: []))) :: (h_t_tape, .inl (k_t_tape, 200, .inl t_tape)) :: R) := hD
  refine lv_aload_n hx hb dX12_summed_5 rfl (lv_at hl 0 rfl) ?_
  refine lv_lconst (v := 0) hx hb dX12_summed_6 (by decide) ?_
  refine va_put (D := D) (ci := 12) (v := .long 0) (ty := .long) (C := RX12) (T := TX12) (N := 61) hx hb ha ix12 tyX12 tyX12_ok nmX12 hown hK hP hD hS 0 rfl rfl 23 (by decide) (ha _ q983) (fun _ h9 => h9) rfl (by decide +kernel) rfl rfl (Nat.le_of_ble_eq_true rfl) dX12_summed_7 (fun H locs hP hD hS => ?_)
  have hP : va_P D vwCl ((h_t, .inr (12, (z_t_0 :: .ref h_t_tape :: z_t_2 :: .int t_a :: .int t_b :: z_t_5 :: z_t_6 :: z_t_7 :: z_t_8 :: z_t_9 :: .long t_u :: .long t_v :: .long t_d :: z_t_13 :: z_t_14 :: z_t_15 :: z_t_16 :: z_t_17 :: z_t_18 :: z_t_19 :: z_t_20 :: z_t_21 :: .long 0 :: .long 0 :: .long t_sumD :: z_t_25 :: z_t_26 :: z_t_27 :: z_t_28 :: z_t_29 :: z_t_30 :: z_t_31 :: z_t_32 :: z_t_33 :: z_t_34 :: z_t_35 :: z_t_36 :: z_t_37 :: z_t_38 :: z_t_39 :: z_t_40 :: z_t_41 :: z_t_42 :: z_t_43 :: z_t_44 :: z_t_45 :: z_t_46 :: z_t_47 :: z_t_48 :: z_t_49 :: z_t_50 :: z_t_51 :: z_t_52 :: z_t_53 :: z_t_54 :: z_t_55 :: z_t_56 :: z_t_57 :: z_t_58 :: z_t_59 :: z_t_60 :: []))) :: (h_t_tape, .inl (k_t_tape, 200, .inl t_tape)) :: R) H := hP
  have hD : va_D A ((h_t, .inr (12, (z_t_0 :: .ref h_t_tape :: z_t_2 :: .int t_a :: .int t_b :: z_t_5 :: z_t_6 :: z_t_7 :: z_t_8 :: z_t_9 :: .long t_u :: .long t_v :: .long t_d :: z_t_13 :: z_t_14 :: z_t_15 :: z_t_16 :: z_t_17 :: z_t_18 :: z_t_19 :: z_t_20 :: z_t_21 :: .long 0 :: .long 0 :: .long t_sumD :: z_t_25 :: z_t_26 :: z_t_27 :: z_t_28 :: z_t_29 :: z_t_30 :: z_t_31 :: z_t_32 :: z_t_33 :: z_t_34 :: z_t_35 :: z_t_36 :: z_t_37 :: z_t_38 :: z_t_39 :: z_t_40 :: z_t_41 :: z_t_42 :: z_t_43 :: z_t_44 :: z_t_45 :: z_t_46 :: z_t_47 :: z_t_48 :: z_t_49 :: z_t_50 :: z_t_51 :: z_t_52 :: z_t_53 :: z_t_54 :: z_t_55 :: z_t_56 :: z_t_57 :: z_t_58 :: z_t_59 :: z_t_60 :: []))) :: (h_t_tape, .inl (k_t_tape, 200, .inl t_tape)) :: R) := hD
  refine lv_aload_n hx hb dX12_summed_10 rfl (lv_at hl 0 rfl) ?_
  refine lv_lconst (v := 1) hx hb dX12_summed_11 (by decide) ?_
  refine va_put (D := D) (ci := 12) (v := .long 1) (ty := .long) (C := RX12) (T := TX12) (N := 61) hx hb ha ix12 tyX12 tyX12_ok nmX12 hown hK hP hD hS 0 rfl rfl 24 (by decide) (ha _ q984) (fun _ h9 => h9) rfl (by decide +kernel) rfl rfl (Nat.le_of_ble_eq_true rfl) dX12_summed_12 (fun H locs hP hD hS => ?_)
  have hP : va_P D vwCl ((h_t, .inr (12, (z_t_0 :: .ref h_t_tape :: z_t_2 :: .int t_a :: .int t_b :: z_t_5 :: z_t_6 :: z_t_7 :: z_t_8 :: z_t_9 :: .long t_u :: .long t_v :: .long t_d :: z_t_13 :: z_t_14 :: z_t_15 :: z_t_16 :: z_t_17 :: z_t_18 :: z_t_19 :: z_t_20 :: z_t_21 :: .long 0 :: .long 0 :: .long 1 :: z_t_25 :: z_t_26 :: z_t_27 :: z_t_28 :: z_t_29 :: z_t_30 :: z_t_31 :: z_t_32 :: z_t_33 :: z_t_34 :: z_t_35 :: z_t_36 :: z_t_37 :: z_t_38 :: z_t_39 :: z_t_40 :: z_t_41 :: z_t_42 :: z_t_43 :: z_t_44 :: z_t_45 :: z_t_46 :: z_t_47 :: z_t_48 :: z_t_49 :: z_t_50 :: z_t_51 :: z_t_52 :: z_t_53 :: z_t_54 :: z_t_55 :: z_t_56 :: z_t_57 :: z_t_58 :: z_t_59 :: z_t_60 :: []))) :: (h_t_tape, .inl (k_t_tape, 200, .inl t_tape)) :: R) H := hP
  have hD : va_D A ((h_t, .inr (12, (z_t_0 :: .ref h_t_tape :: z_t_2 :: .int t_a :: .int t_b :: z_t_5 :: z_t_6 :: z_t_7 :: z_t_8 :: z_t_9 :: .long t_u :: .long t_v :: .long t_d :: z_t_13 :: z_t_14 :: z_t_15 :: z_t_16 :: z_t_17 :: z_t_18 :: z_t_19 :: z_t_20 :: z_t_21 :: .long 0 :: .long 0 :: .long 1 :: z_t_25 :: z_t_26 :: z_t_27 :: z_t_28 :: z_t_29 :: z_t_30 :: z_t_31 :: z_t_32 :: z_t_33 :: z_t_34 :: z_t_35 :: z_t_36 :: z_t_37 :: z_t_38 :: z_t_39 :: z_t_40 :: z_t_41 :: z_t_42 :: z_t_43 :: z_t_44 :: z_t_45 :: z_t_46 :: z_t_47 :: z_t_48 :: z_t_49 :: z_t_50 :: z_t_51 :: z_t_52 :: z_t_53 :: z_t_54 :: z_t_55 :: z_t_56 :: z_t_57 :: z_t_58 :: z_t_59 :: z_t_60 :: []))) :: (h_t_tape, .inl (k_t_tape, 200, .inl t_tape)) :: R) := hD
  refine lv_iconst (v := 0) hx hb dX12_summed_15 (by decide) ?_
  refine lv_istore (lv' := [(4, .int 0), (0, .ref h_t), (1, .int l1), (2, .int l2), (3, .int l3)]) hx hb dX12_summed_16 hl (by decide) rfl (fun ls hl => ?_)
  obtain ⟨tg_L18_5, x_t_u_L18_5, x_t_v_L18_5, x_t_d_L18_5, x_t_sumU_L18_5, x_t_sumV_L18_5, x_t_sumD_L18_5, e_L18_5, h⟩ := bnd7_ok h
  refine L18 _ _ l1 l2 l3 0 t_u t_v t_d 0 0 1 tg_L18_5 x_t_u_L18_5 x_t_v_L18_5 x_t_d_L18_5 x_t_sumU_L18_5 x_t_sumV_L18_5 x_t_sumD_L18_5 e_L18_5 _ _ _ hP hD hS (lv_sub hl [1, 2, 3, 4, 0] rfl) ?_ ?_
  · intro q9 H locs ls hP hD hS hl
    have h := br_pos q9 h
    refine lv_iconst (v := 0) hx hb dX12_summed_35 (by decide) ?_
    cases h
    exact rt_z S hr hlk hP hD hS (by decide) dX12_summed_36
  · intro q9 H locs ls hP hD hS hl
    have h := br_neg (by rw [q9]; decide) h
    refine lv_aload_n hx hb dX12_summed_117 rfl (lv_at hl 0 rfl) ?_
    refine lv_aload_n hx hb dX12_summed_118 rfl (lv_at hl 0 rfl) ?_
    refine va_get (D := D) (ci := 12) (v := .long x_t_sumU_L18_5) (C := RX12) (T := TX12) (N := 61) hx hb ha ix12 hown hK hP 0 rfl rfl 22 (by decide) (ha _ q982) (fun _ h9 => h9) rfl dX12_summed_119 ?_
    refine lv_aload_n hx hb dX12_summed_122 rfl (lv_at hl 0 rfl) ?_
    refine va_get (D := D) (ci := 12) (v := .long x_t_sumV_L18_5) (C := RX12) (T := TX12) (N := 61) hx hb ha ix12 hown hK hP 0 rfl rfl 23 (by decide) (ha _ q983) (fun _ h9 => h9) rfl dX12_summed_123 ?_
    refine lv_aload_n hx hb dX12_summed_126 rfl (lv_at hl 0 rfl) ?_
    refine va_get (D := D) (ci := 12) (v := .long x_t_sumD_L18_5) (C := RX12) (T := TX12) (N := 61) hx hb ha ix12 hown hK hP 0 rfl rfl 24 (by decide) (ha _ q984) (fun _ h9 => h9) rfl dX12_summed_127 ?_
    obtain ⟨t_u_c130_6, t_v_c130_6, t_d_c130_6, e_c130_6, h⟩ := bnd3_ok h
    refine cl_v (rn_v (ci := 12) (As := [.long x_t_sumU_L18_5, .long x_t_sumV_L18_5, .long x_t_sumD_L18_5]) (rest := []) S (c_X12_set l D ((h_t_tape, .inl (k_t_tape, 200, .inl t_tape)) :: R) h_t (z_t_0) (.ref h_t_tape) (z_t_2) (.int t_a) (.int t_b) (z_t_5) (z_t_6) (z_t_7) (z_t_8) (z_t_9) x_t_u_L18_5 x_t_v_L18_5 x_t_d_L18_5 (z_t_13) (z_t_14) (z_t_15) (z_t_16) (z_t_17) (z_t_18) (z_t_19) (z_t_20) (z_t_21) (.long x_t_sumU_L18_5) (.long x_t_sumV_L18_5) (.long x_t_sumD_L18_5) (z_t_25) (z_t_26) (z_t_27) (z_t_28) (z_t_29) (z_t_30) (z_t_31) (z_t_32) (z_t_33) (z_t_34) (z_t_35) (z_t_36) (z_t_37) (z_t_38) (z_t_39) (z_t_40) (z_t_41) (z_t_42) (z_t_43) (z_t_44) (z_t_45) (z_t_46) (z_t_47) (z_t_48) (z_t_49) (z_t_50) (z_t_51) (z_t_52) (z_t_53) (z_t_54) (z_t_55) (z_t_56) (z_t_57) (z_t_58) (z_t_59) (z_t_60) x_t_sumU_L18_5 x_t_sumV_L18_5 x_t_sumD_L18_5 t_u_c130_6 t_v_c130_6 t_d_c130_6 e_c130_6 _) q1172 q1174 q27 q61 q1175 nd_X12_set ⟨Nat.le_of_ble_eq_true rfl, Nat.le_of_ble_eq_true rfl⟩ rfl rfl hP hD (hK.sub (tys' := []) [] rfl) hN rfl ⟨0, _, rfl⟩ rfl hl.1 rfl (Nat.le_of_ble_eq_true rfl) dX12_summed_130 ⟨Nat.le_of_ble_eq_true rfl, Nat.le_of_ble_eq_true rfl⟩) hS hA hD (fun H locs hP hD hS => ?_)
    have hP : va_P D vwCl ((h_t, .inr (12, (z_t_0 :: .ref h_t_tape :: z_t_2 :: .int t_a :: .int t_b :: z_t_5 :: z_t_6 :: z_t_7 :: z_t_8 :: z_t_9 :: .long t_u_c130_6 :: .long t_v_c130_6 :: .long t_d_c130_6 :: z_t_13 :: z_t_14 :: z_t_15 :: z_t_16 :: z_t_17 :: z_t_18 :: z_t_19 :: z_t_20 :: z_t_21 :: .long x_t_sumU_L18_5 :: .long x_t_sumV_L18_5 :: .long x_t_sumD_L18_5 :: z_t_25 :: z_t_26 :: z_t_27 :: z_t_28 :: z_t_29 :: z_t_30 :: z_t_31 :: z_t_32 :: z_t_33 :: z_t_34 :: z_t_35 :: z_t_36 :: z_t_37 :: z_t_38 :: z_t_39 :: z_t_40 :: z_t_41 :: z_t_42 :: z_t_43 :: z_t_44 :: z_t_45 :: z_t_46 :: z_t_47 :: z_t_48 :: z_t_49 :: z_t_50 :: z_t_51 :: z_t_52 :: z_t_53 :: z_t_54 :: z_t_55 :: z_t_56 :: z_t_57 :: z_t_58 :: z_t_59 :: z_t_60 :: []))) :: (h_t_tape, .inl (k_t_tape, 200, .inl t_tape)) :: R) H := hP
    have hD : va_D A ((h_t, .inr (12, (z_t_0 :: .ref h_t_tape :: z_t_2 :: .int t_a :: .int t_b :: z_t_5 :: z_t_6 :: z_t_7 :: z_t_8 :: z_t_9 :: .long t_u_c130_6 :: .long t_v_c130_6 :: .long t_d_c130_6 :: z_t_13 :: z_t_14 :: z_t_15 :: z_t_16 :: z_t_17 :: z_t_18 :: z_t_19 :: z_t_20 :: z_t_21 :: .long x_t_sumU_L18_5 :: .long x_t_sumV_L18_5 :: .long x_t_sumD_L18_5 :: z_t_25 :: z_t_26 :: z_t_27 :: z_t_28 :: z_t_29 :: z_t_30 :: z_t_31 :: z_t_32 :: z_t_33 :: z_t_34 :: z_t_35 :: z_t_36 :: z_t_37 :: z_t_38 :: z_t_39 :: z_t_40 :: z_t_41 :: z_t_42 :: z_t_43 :: z_t_44 :: z_t_45 :: z_t_46 :: z_t_47 :: z_t_48 :: z_t_49 :: z_t_50 :: z_t_51 :: z_t_52 :: z_t_53 :: z_t_54 :: z_t_55 :: z_t_56 :: z_t_57 :: z_t_58 :: z_t_59 :: z_t_60 :: []))) :: (h_t_tape, .inl (k_t_tape, 200, .inl t_tape)) :: R) := hD
    refine lv_aload_n hx hb dX12_summed_133 rfl (lv_at hl 0 rfl) ?_
    obtain ⟨r_c134_7, e_c134_7, h⟩ := bnd1_ok h
    refine cl_z (rn_v (ci := 12) (As := []) (rest := []) S (c_X12_isNumber l D ((h_t_tape, .inl (k_t_tape, 200, .inl t_tape)) :: R) h_t (z_t_0) (.ref h_t_tape) (z_t_2) (.int t_a) (.int t_b) (z_t_5) (z_t_6) (z_t_7) (z_t_8) (z_t_9) t_u_c130_6 t_v_c130_6 t_d_c130_6 (z_t_13) (z_t_14) (z_t_15) (z_t_16) (z_t_17) (z_t_18) (z_t_19) (z_t_20) (z_t_21) (.long x_t_sumU_L18_5) (.long x_t_sumV_L18_5) (.long x_t_sumD_L18_5) (z_t_25) (z_t_26) (z_t_27) (z_t_28) (z_t_29) (z_t_30) (z_t_31) (z_t_32) (z_t_33) (z_t_34) (z_t_35) (z_t_36) (z_t_37) (z_t_38) (z_t_39) (z_t_40) (z_t_41) (z_t_42) (z_t_43) (z_t_44) (z_t_45) (z_t_46) (z_t_47) (z_t_48) (z_t_49) (z_t_50) (z_t_51) (z_t_52) (z_t_53) (z_t_54) (z_t_55) (z_t_56) (z_t_57) (z_t_58) (z_t_59) (z_t_60) r_c134_7 e_c134_7 _) q1183 q1185 q29 q61 q1186 nd_X12_isNumber ⟨Nat.le_of_ble_eq_true rfl, Nat.le_of_ble_eq_true rfl⟩ rfl rfl hP hD (hK.sub (tys' := []) [] rfl) hN rfl ⟨0, _, rfl⟩ rfl hl.1 rfl (Nat.le_of_ble_eq_true rfl) dX12_summed_134 ⟨Nat.le_of_ble_eq_true rfl, Nat.le_of_ble_eq_true rfl⟩) hS hA hD (fun H locs hP hD hS z_c134_7 => ?_)
    have hP : va_P D vwCl ((h_t, .inr (12, (z_t_0 :: .ref h_t_tape :: z_t_2 :: .int t_a :: .int t_b :: z_t_5 :: z_t_6 :: z_t_7 :: z_t_8 :: z_t_9 :: .long t_u_c130_6 :: .long t_v_c130_6 :: .long t_d_c130_6 :: z_t_13 :: z_t_14 :: z_t_15 :: z_t_16 :: z_t_17 :: z_t_18 :: z_t_19 :: z_t_20 :: z_t_21 :: .long x_t_sumU_L18_5 :: .long x_t_sumV_L18_5 :: .long x_t_sumD_L18_5 :: z_t_25 :: z_t_26 :: z_t_27 :: z_t_28 :: z_t_29 :: z_t_30 :: z_t_31 :: z_t_32 :: z_t_33 :: z_t_34 :: z_t_35 :: z_t_36 :: z_t_37 :: z_t_38 :: z_t_39 :: z_t_40 :: z_t_41 :: z_t_42 :: z_t_43 :: z_t_44 :: z_t_45 :: z_t_46 :: z_t_47 :: z_t_48 :: z_t_49 :: z_t_50 :: z_t_51 :: z_t_52 :: z_t_53 :: z_t_54 :: z_t_55 :: z_t_56 :: z_t_57 :: z_t_58 :: z_t_59 :: z_t_60 :: []))) :: (h_t_tape, .inl (k_t_tape, 200, .inl t_tape)) :: R) H := hP
    have hD : va_D A ((h_t, .inr (12, (z_t_0 :: .ref h_t_tape :: z_t_2 :: .int t_a :: .int t_b :: z_t_5 :: z_t_6 :: z_t_7 :: z_t_8 :: z_t_9 :: .long t_u_c130_6 :: .long t_v_c130_6 :: .long t_d_c130_6 :: z_t_13 :: z_t_14 :: z_t_15 :: z_t_16 :: z_t_17 :: z_t_18 :: z_t_19 :: z_t_20 :: z_t_21 :: .long x_t_sumU_L18_5 :: .long x_t_sumV_L18_5 :: .long x_t_sumD_L18_5 :: z_t_25 :: z_t_26 :: z_t_27 :: z_t_28 :: z_t_29 :: z_t_30 :: z_t_31 :: z_t_32 :: z_t_33 :: z_t_34 :: z_t_35 :: z_t_36 :: z_t_37 :: z_t_38 :: z_t_39 :: z_t_40 :: z_t_41 :: z_t_42 :: z_t_43 :: z_t_44 :: z_t_45 :: z_t_46 :: z_t_47 :: z_t_48 :: z_t_49 :: z_t_50 :: z_t_51 :: z_t_52 :: z_t_53 :: z_t_54 :: z_t_55 :: z_t_56 :: z_t_57 :: z_t_58 :: z_t_59 :: z_t_60 :: []))) :: (h_t_tape, .inl (k_t_tape, 200, .inl t_tape)) :: R) := hD
    cases h
    exact rt_z S hr hlk hP hD hS z_c134_7 dX12_summed_137
noncomputable def f_X12_value (t_thrown : Int32) (t_length : Int32) (t_a : Int32) (t_b : Int32) (t_u : Int64) (t_v : Int64) (t_d : Int64) (t_sumU : Int64) (t_sumV : Int64) (t_sumD : Int64) (t_tape : Nat → Int32) (t_has : Nat → Int32) (t_us : Nat → Int32) (t_vs : Nat → Int32) (t_ds : Nat → Int32) (l1 : Int32) (l2 : Int32) (l3 : Int32) : Option (Int32 × Int32 × Int32 × Int64 × Int64 × Int64 × Int64 × Int64 × Int64 × (Nat → Int32) × (Nat → Int32) × (Nat → Int32) × (Nat → Int32)) :=
  bnd2 (f_X12_taken t_length) fun r_c6_0 t_length_c6_0 => (
   if l1 < 0 then (
    some (0, 0, t_length_c6_0, t_u, t_v, t_d, t_sumU, t_sumV, t_sumD, t_has, t_us, t_vs, t_ds)
   ) else (
    if 10 ≤ l1 then (
     some (0, 0, t_length_c6_0, t_u, t_v, t_d, t_sumU, t_sumV, t_sumD, t_has, t_us, t_vs, t_ds)
    ) else (
     if l2 < 0 then (
      some (0, 0, t_length_c6_0, t_u, t_v, t_d, t_sumU, t_sumV, t_sumD, t_has, t_us, t_vs, t_ds)
     ) else (
      if r_c6_0 < l2 then (
       some (0, 0, t_length_c6_0, t_u, t_v, t_d, t_sumU, t_sumV, t_sumD, t_has, t_us, t_vs, t_ds)
      ) else (
       if l3 < 0 then (
        some (0, 0, t_length_c6_0, t_u, t_v, t_d, t_sumU, t_sumV, t_sumD, t_has, t_us, t_vs, t_ds)
       ) else (
        if l3 ≤ l2 then (
         bnd7 (f_X12_summed t_a t_b t_u t_v t_d t_sumU t_sumV t_sumD t_tape 0 (r_c6_0 - l3) ((r_c6_0 - l2) - 1)) fun r_c54_7 t_u_c54_7 t_v_c54_7 t_d_c54_7 t_sumU_c54_7 t_sumV_c54_7 t_sumD_c54_7 => (
          if r_c54_7 = 0 then (
           some (0, 0, t_length_c6_0, t_u_c54_7, t_v_c54_7, t_d_c54_7, t_sumU_c54_7, t_sumV_c54_7, t_sumD_c54_7, t_has, t_us, t_vs, t_ds)
          ) else (
           if l3 = 0 then (
            bnd5 (f_X12_put t_u_c54_7 t_v_c54_7 t_d_c54_7 t_has t_us t_vs t_ds l1) fun r_c68_10 t_has_c68_10 t_us_c68_10 t_vs_c68_10 t_ds_c68_10 => (
             some (r_c68_10, 0, t_length_c6_0, t_u_c54_7, t_v_c54_7, t_d_c54_7, t_sumU_c54_7, t_sumV_c54_7, t_sumD_c54_7, t_has_c68_10, t_us_c68_10, t_vs_c68_10, t_ds_c68_10)
            )
           ) else (
            bnd7 (f_X12_summed t_a t_b t_u_c54_7 t_v_c54_7 t_d_c54_7 t_sumU_c54_7 t_sumV_c54_7 t_sumD_c54_7 t_tape (r_c6_0 - l3) l3 (l3 - 1)) fun r_c99_11 t_u_c99_11 t_v_c99_11 t_d_c99_11 t_sumU_c99_11 t_sumV_c99_11 t_sumD_c99_11 => (
             if r_c99_11 = 0 then (
              some (0, 0, t_length_c6_0, t_u_c99_11, t_v_c99_11, t_d_c99_11, t_sumU_c99_11, t_sumV_c99_11, t_sumD_c99_11, t_has, t_us, t_vs, t_ds)
             ) else (
              bnd4 (f_X12_power t_a t_b t_u_c99_11 t_v_c99_11 t_d_c99_11 l3) fun r_c127_13 t_u_c127_13 t_v_c127_13 t_d_c127_13 => (
               if r_c127_13 = 0 then (
                some (0, 0, t_length_c6_0, t_u_c127_13, t_v_c127_13, t_d_c127_13, t_sumU_c99_11, t_sumV_c99_11, t_sumD_c99_11, t_has, t_us, t_vs, t_ds)
               ) else (
                bnd3 (f_X12_set t_u_c127_13 t_v_c127_13 t_d_c127_13 (t_u_c127_13 - 1) t_v_c127_13 1) fun t_u_c147_15 t_v_c147_15 t_d_c147_15 => (
                 bnd1 (f_X12_isNumber t_u_c147_15 t_v_c147_15 t_d_c147_15) fun r_c151_16 => (
                  if r_c151_16 = 0 then (
                   some (0, 0, t_length_c6_0, t_u_c147_15, t_v_c147_15, t_d_c147_15, t_sumU_c99_11, t_sumV_c99_11, t_sumD_c99_11, t_has, t_us, t_vs, t_ds)
                  ) else (
                   bnd3 (f_X12_set t_u_c147_15 t_v_c147_15 t_d_c147_15 t_u_c99_11 t_v_c99_11 t_d_c99_11) fun t_u_c178_18 t_v_c178_18 t_d_c178_18 => (
                    bnd3 (f_X12_by t_a t_b t_u_c178_18 t_v_c178_18 t_d_c178_18 t_u_c147_15 t_v_c147_15 1) fun t_u_c187_19 t_v_c187_19 t_d_c187_19 => (
                     bnd1 (f_X12_isNumber t_u_c187_19 t_v_c187_19 t_d_c187_19) fun r_c191_20 => (
                      if r_c191_20 = 0 then (
                       some (0, 0, t_length_c6_0, t_u_c187_19, t_v_c187_19, t_d_c187_19, t_sumU_c99_11, t_sumV_c99_11, t_sumD_c99_11, t_has, t_us, t_vs, t_ds)
                      ) else (
                       bnd4 (f_X12_power t_a t_b t_u_c187_19 t_v_c187_19 t_d_c187_19 (l3 - l2)) fun r_c221_22 t_u_c221_22 t_v_c221_22 t_d_c221_22 => (
                        if r_c221_22 = 0 then (
                         some (0, 0, t_length_c6_0, t_u_c221_22, t_v_c221_22, t_d_c221_22, t_sumU_c99_11, t_sumV_c99_11, t_sumD_c99_11, t_has, t_us, t_vs, t_ds)
                        ) else (
                         bnd3 (f_X12_times t_a t_b t_u_c221_22 t_v_c221_22 t_d_c221_22 t_u_c187_19 t_v_c187_19 t_d_c187_19) fun t_u_c236_24 t_v_c236_24 t_d_c236_24 => (
                          bnd1 (f_X12_isNumber t_u_c236_24 t_v_c236_24 t_d_c236_24) fun r_c240_25 => (
                           if r_c240_25 = 0 then (
                            some (0, 0, t_length_c6_0, t_u_c236_24, t_v_c236_24, t_d_c236_24, t_sumU_c99_11, t_sumV_c99_11, t_sumD_c99_11, t_has, t_us, t_vs, t_ds)
                           ) else (
                            bnd3 (f_X12_plus t_u_c236_24 t_v_c236_24 t_d_c236_24 t_u_c54_7 t_v_c54_7 t_d_c54_7) fun t_u_c255_27 t_v_c255_27 t_d_c255_27 => (
                             bnd5 (f_X12_put t_u_c255_27 t_v_c255_27 t_d_c255_27 t_has t_us t_vs t_ds l1) fun r_c260_28 t_has_c260_28 t_us_c260_28 t_vs_c260_28 t_ds_c260_28 => (
                              some (r_c260_28, 0, t_length_c6_0, t_u_c255_27, t_v_c255_27, t_d_c255_27, t_sumU_c99_11, t_sumV_c99_11, t_sumD_c99_11, t_has_c260_28, t_us_c260_28, t_vs_c260_28, t_ds_c260_28)
                             )
                            )
                           )
                          )
                         )
                        )
                       )
                      )
                     )
                    )
                   )
                  )
                 )
                )
               )
              )
             )
            )
           )
          )
         )
        ) else (
         some (0, 0, t_length_c6_0, t_u, t_v, t_d, t_sumU, t_sumV, t_sumD, t_has, t_us, t_vs, t_ds)
        )
       )
      )
     )
    )
   )
  )
set_option maxHeartbeats 4000000 in
set_option maxRecDepth 100000 in
theorem c_X12_value (l : Launch) (D : va_G) (R : va_W) (h_t : Nat) (t_thrown : Int32) (t_length : Int32) (t_a : Int32) (t_b : Int32) (z_t_5 : Value) (t_u : Int64) (t_v : Int64) (t_d : Int64) (z_t_13 : Value) (z_t_14 : Value) (z_t_15 : Value) (z_t_16 : Value) (z_t_17 : Value) (z_t_18 : Value) (z_t_19 : Value) (z_t_20 : Value) (z_t_21 : Value) (t_sumU : Int64) (t_sumV : Int64) (t_sumD : Int64) (z_t_25 : Value) (z_t_26 : Value) (z_t_27 : Value) (z_t_28 : Value) (z_t_29 : Value) (z_t_30 : Value) (z_t_31 : Value) (z_t_32 : Value) (z_t_33 : Value) (z_t_34 : Value) (z_t_35 : Value) (z_t_36 : Value) (z_t_37 : Value) (z_t_38 : Value) (z_t_39 : Value) (z_t_40 : Value) (z_t_41 : Value) (z_t_42 : Value) (z_t_43 : Value) (z_t_44 : Value) (z_t_45 : Value) (z_t_46 : Value) (z_t_47 : Value) (z_t_48 : Value) (z_t_49 : Value) (z_t_50 : Value) (z_t_51 : Value) (z_t_52 : Value) (z_t_53 : Value) (z_t_54 : Value) (z_t_55 : Value) (z_t_56 : Value) (z_t_57 : Value) (z_t_58 : Value) (z_t_59 : Value) (z_t_60 : Value) (h_t_tape : Nat) (k_t_tape : ClassId) (t_tape : Nat → Int32) (h_t_has : Nat) (k_t_has : ClassId) (t_has : Nat → Int32) (h_t_us : Nat) (k_t_us : ClassId) (t_us : Nat → Int32) (h_t_vs : Nat) (k_t_vs : ClassId) (t_vs : Nat → Int32) (h_t_ds : Nat) (k_t_ds : ClassId) (t_ds : Nat → Int32) (l1 : Int32) (l2 : Int32) (l3 : Int32) (r : Int32) (o_t_thrown : Int32) (o_t_length : Int32) (o_t_u : Int64) (o_t_v : Int64) (o_t_d : Int64) (o_t_sumU : Int64) (o_t_sumV : Int64) (o_t_sumD : Int64) (o_t_has : Nat → Int32) (o_t_us : Nat → Int32) (o_t_vs : Nat → Int32) (o_t_ds : Nat → Int32)  (h : f_X12_value t_thrown t_length t_a t_b t_u t_v t_d t_sumU t_sumV t_sumD t_tape t_has t_us t_vs t_ds l1 l2 l3 = some (r, o_t_thrown, o_t_length, o_t_u, o_t_v, o_t_d, o_t_sumU, o_t_sumV, o_t_sumD, o_t_has, o_t_us, o_t_vs, o_t_ds)) (sz : Nat) : Met l yX12_value (WD yX12_value cX12_value 21 (some .boolean)) ({ frames := 5, cells := 0, slots := 0, locals := 132 }) (va_Pc [.ref h_t, .int l1, .int l2, .int l3] (PcW D [(k_t_tape, .byte), (k_t_has, .boolean), (k_t_us, .int), (k_t_vs, .int), (k_t_ds, .int)] ((h_t, .inr (12, (.int t_thrown :: .ref h_t_tape :: .int t_length :: .int t_a :: .int t_b :: z_t_5 :: .ref h_t_has :: .ref h_t_us :: .ref h_t_vs :: .ref h_t_ds :: .long t_u :: .long t_v :: .long t_d :: z_t_13 :: z_t_14 :: z_t_15 :: z_t_16 :: z_t_17 :: z_t_18 :: z_t_19 :: z_t_20 :: z_t_21 :: .long t_sumU :: .long t_sumV :: .long t_sumD :: z_t_25 :: z_t_26 :: z_t_27 :: z_t_28 :: z_t_29 :: z_t_30 :: z_t_31 :: z_t_32 :: z_t_33 :: z_t_34 :: z_t_35 :: z_t_36 :: z_t_37 :: z_t_38 :: z_t_39 :: z_t_40 :: z_t_41 :: z_t_42 :: z_t_43 :: z_t_44 :: z_t_45 :: z_t_46 :: z_t_47 :: z_t_48 :: z_t_49 :: z_t_50 :: z_t_51 :: z_t_52 :: z_t_53 :: z_t_54 :: z_t_55 :: z_t_56 :: z_t_57 :: z_t_58 :: z_t_59 :: z_t_60 :: []))) :: (h_t_tape, .inl (k_t_tape, 200, .inl t_tape)) :: (h_t_has, .inl (k_t_has, 10, .inl t_has)) :: (h_t_us, .inl (k_t_us, 10, .inl t_us)) :: (h_t_vs, .inl (k_t_vs, 10, .inl t_vs)) :: (h_t_ds, .inl (k_t_ds, 10, .inl t_ds)) :: R) sz)) (QZ D r ((h_t, .inr (12, (.int o_t_thrown :: .ref h_t_tape :: .int o_t_length :: .int t_a :: .int t_b :: z_t_5 :: .ref h_t_has :: .ref h_t_us :: .ref h_t_vs :: .ref h_t_ds :: .long o_t_u :: .long o_t_v :: .long o_t_d :: z_t_13 :: z_t_14 :: z_t_15 :: z_t_16 :: z_t_17 :: z_t_18 :: z_t_19 :: z_t_20 :: z_t_21 :: .long o_t_sumU :: .long o_t_sumV :: .long o_t_sumD :: z_t_25 :: z_t_26 :: z_t_27 :: z_t_28 :: z_t_29 :: z_t_30 :: z_t_31 :: z_t_32 :: z_t_33 :: z_t_34 :: z_t_35 :: z_t_36 :: z_t_37 :: z_t_38 :: z_t_39 :: z_t_40 :: z_t_41 :: z_t_42 :: z_t_43 :: z_t_44 :: z_t_45 :: z_t_46 :: z_t_47 :: z_t_48 :: z_t_49 :: z_t_50 :: z_t_51 :: z_t_52 :: z_t_53 :: z_t_54 :: z_t_55 :: z_t_56 :: z_t_57 :: z_t_58 :: z_t_59 :: z_t_60 :: []))) :: (h_t_tape, .inl (k_t_tape, 200, .inl t_tape)) :: (h_t_has, .inl (k_t_has, 10, .inl o_t_has)) :: (h_t_us, .inl (k_t_us, 10, .inl o_t_us)) :: (h_t_vs, .inl (k_t_vs, 10, .inl o_t_vs)) :: (h_t_ds, .inl (k_t_ds, 10, .inl o_t_ds)) :: R) (va_A ((h_t, .inr (12, (.int t_thrown :: .ref h_t_tape :: .int t_length :: .int t_a :: .int t_b :: z_t_5 :: .ref h_t_has :: .ref h_t_us :: .ref h_t_vs :: .ref h_t_ds :: .long t_u :: .long t_v :: .long t_d :: z_t_13 :: z_t_14 :: z_t_15 :: z_t_16 :: z_t_17 :: z_t_18 :: z_t_19 :: z_t_20 :: z_t_21 :: .long t_sumU :: .long t_sumV :: .long t_sumD :: z_t_25 :: z_t_26 :: z_t_27 :: z_t_28 :: z_t_29 :: z_t_30 :: z_t_31 :: z_t_32 :: z_t_33 :: z_t_34 :: z_t_35 :: z_t_36 :: z_t_37 :: z_t_38 :: z_t_39 :: z_t_40 :: z_t_41 :: z_t_42 :: z_t_43 :: z_t_44 :: z_t_45 :: z_t_46 :: z_t_47 :: z_t_48 :: z_t_49 :: z_t_50 :: z_t_51 :: z_t_52 :: z_t_53 :: z_t_54 :: z_t_55 :: z_t_56 :: z_t_57 :: z_t_58 :: z_t_59 :: z_t_60 :: []))) :: (h_t_tape, .inl (k_t_tape, 200, .inl t_tape)) :: (h_t_has, .inl (k_t_has, 10, .inl t_has)) :: (h_t_us, .inl (k_t_us, 10, .inl t_us)) :: (h_t_vs, .inl (k_t_vs, 10, .inl t_vs)) :: (h_t_ds, .inl (k_t_ds, 10, .inl t_ds)) :: R) sz)) 0 0 (va_A ((h_t, .inr (12, (.int t_thrown :: .ref h_t_tape :: .int t_length :: .int t_a :: .int t_b :: z_t_5 :: .ref h_t_has :: .ref h_t_us :: .ref h_t_vs :: .ref h_t_ds :: .long t_u :: .long t_v :: .long t_d :: z_t_13 :: z_t_14 :: z_t_15 :: z_t_16 :: z_t_17 :: z_t_18 :: z_t_19 :: z_t_20 :: z_t_21 :: .long t_sumU :: .long t_sumV :: .long t_sumD :: z_t_25 :: z_t_26 :: z_t_27 :: z_t_28 :: z_t_29 :: z_t_30 :: z_t_31 :: z_t_32 :: z_t_33 :: z_t_34 :: z_t_35 :: z_t_36 :: z_t_37 :: z_t_38 :: z_t_39 :: z_t_40 :: z_t_41 :: z_t_42 :: z_t_43 :: z_t_44 :: z_t_45 :: z_t_46 :: z_t_47 :: z_t_48 :: z_t_49 :: z_t_50 :: z_t_51 :: z_t_52 :: z_t_53 :: z_t_54 :: z_t_55 :: z_t_56 :: z_t_57 :: z_t_58 :: z_t_59 :: z_t_60 :: []))) :: (h_t_tape, .inl (k_t_tape, 200, .inl t_tape)) :: (h_t_has, .inl (k_t_has, 10, .inl t_has)) :: (h_t_us, .inl (k_t_us, 10, .inl t_us)) :: (h_t_vs, .inl (k_t_vs, 10, .inl t_vs)) :: (h_t_ds, .inl (k_t_ds, 10, .inl t_ds)) :: R) sz) := by
  refine ct_start (QF := fun A => QZ D r ((h_t, .inr (12, (.int o_t_thrown :: .ref h_t_tape :: .int o_t_length :: .int t_a :: .int t_b :: z_t_5 :: .ref h_t_has :: .ref h_t_us :: .ref h_t_vs :: .ref h_t_ds :: .long o_t_u :: .long o_t_v :: .long o_t_d :: z_t_13 :: z_t_14 :: z_t_15 :: z_t_16 :: z_t_17 :: z_t_18 :: z_t_19 :: z_t_20 :: z_t_21 :: .long o_t_sumU :: .long o_t_sumV :: .long o_t_sumD :: z_t_25 :: z_t_26 :: z_t_27 :: z_t_28 :: z_t_29 :: z_t_30 :: z_t_31 :: z_t_32 :: z_t_33 :: z_t_34 :: z_t_35 :: z_t_36 :: z_t_37 :: z_t_38 :: z_t_39 :: z_t_40 :: z_t_41 :: z_t_42 :: z_t_43 :: z_t_44 :: z_t_45 :: z_t_46 :: z_t_47 :: z_t_48 :: z_t_49 :: z_t_50 :: z_t_51 :: z_t_52 :: z_t_53 :: z_t_54 :: z_t_55 :: z_t_56 :: z_t_57 :: z_t_58 :: z_t_59 :: z_t_60 :: []))) :: (h_t_tape, .inl (k_t_tape, 200, .inl t_tape)) :: (h_t_has, .inl (k_t_has, 10, .inl o_t_has)) :: (h_t_us, .inl (k_t_us, 10, .inl o_t_us)) :: (h_t_vs, .inl (k_t_vs, 10, .inl o_t_vs)) :: (h_t_ds, .inl (k_t_ds, 10, .inl o_t_ds)) :: R) A) ?_ ?_ ?_
  · decide +kernel
  · exact Nat.le_of_ble_eq_true rfl
  intro p e s m args below meth c A ls S hr hlk hnm hS hA hP hD hK hN hl
  have S : CallFix p m c cX12_value 21 s args AL "DigitBenchModel" := S
  have hx := S.1
  have hb := S.2.1
  have hown := S.2.2.2.1
  have ha := S.2.2.2.2
  have hl : lv_has ls 21 [(0, .ref h_t), (1, .int l1), (2, .int l2), (3, .int l3)] := hl
  unfold f_X12_value at h
  refine lv_aload_n hx hb dX12_value_0 rfl (lv_at hl 0 rfl) ?_
  refine lv_iconst (v := 0) hx hb dX12_value_1 (by decide) ?_
  refine va_put (D := D) (ci := 12) (v := .int 0) (ty := .int) (C := RX12) (T := TX12) (N := 61) hx hb ha ix12 tyX12 tyX12_ok nmX12 hown hK hP hD hS 0 rfl rfl 0 (by decide) (ha _ q960) (fun _ h9 => h9) rfl (by decide +kernel) rfl rfl (Nat.le_of_ble_eq_true rfl) dX12_value_2 (fun H locs hP hD hS => ?_)
  have hP : va_P D vwCl ((h_t, .inr (12, (.int 0 :: .ref h_t_tape :: .int t_length :: .int t_a :: .int t_b :: z_t_5 :: .ref h_t_has :: .ref h_t_us :: .ref h_t_vs :: .ref h_t_ds :: .long t_u :: .long t_v :: .long t_d :: z_t_13 :: z_t_14 :: z_t_15 :: z_t_16 :: z_t_17 :: z_t_18 :: z_t_19 :: z_t_20 :: z_t_21 :: .long t_sumU :: .long t_sumV :: .long t_sumD :: z_t_25 :: z_t_26 :: z_t_27 :: z_t_28 :: z_t_29 :: z_t_30 :: z_t_31 :: z_t_32 :: z_t_33 :: z_t_34 :: z_t_35 :: z_t_36 :: z_t_37 :: z_t_38 :: z_t_39 :: z_t_40 :: z_t_41 :: z_t_42 :: z_t_43 :: z_t_44 :: z_t_45 :: z_t_46 :: z_t_47 :: z_t_48 :: z_t_49 :: z_t_50 :: z_t_51 :: z_t_52 :: z_t_53 :: z_t_54 :: z_t_55 :: z_t_56 :: z_t_57 :: z_t_58 :: z_t_59 :: z_t_60 :: []))) :: (h_t_tape, .inl (k_t_tape, 200, .inl t_tape)) :: (h_t_has, .inl (k_t_has, 10, .inl t_has)) :: (h_t_us, .inl (k_t_us, 10, .inl t_us)) :: (h_t_vs, .inl (k_t_vs, 10, .inl t_vs)) :: (h_t_ds, .inl (k_t_ds, 10, .inl t_ds)) :: R) H := hP
  have hD : va_D A ((h_t, .inr (12, (.int 0 :: .ref h_t_tape :: .int t_length :: .int t_a :: .int t_b :: z_t_5 :: .ref h_t_has :: .ref h_t_us :: .ref h_t_vs :: .ref h_t_ds :: .long t_u :: .long t_v :: .long t_d :: z_t_13 :: z_t_14 :: z_t_15 :: z_t_16 :: z_t_17 :: z_t_18 :: z_t_19 :: z_t_20 :: z_t_21 :: .long t_sumU :: .long t_sumV :: .long t_sumD :: z_t_25 :: z_t_26 :: z_t_27 :: z_t_28 :: z_t_29 :: z_t_30 :: z_t_31 :: z_t_32 :: z_t_33 :: z_t_34 :: z_t_35 :: z_t_36 :: z_t_37 :: z_t_38 :: z_t_39 :: z_t_40 :: z_t_41 :: z_t_42 :: z_t_43 :: z_t_44 :: z_t_45 :: z_t_46 :: z_t_47 :: z_t_48 :: z_t_49 :: z_t_50 :: z_t_51 :: z_t_52 :: z_t_53 :: z_t_54 :: z_t_55 :: z_t_56 :: z_t_57 :: z_t_58 :: z_t_59 :: z_t_60 :: []))) :: (h_t_tape, .inl (k_t_tape, 200, .inl t_tape)) :: (h_t_has, .inl (k_t_has, 10, .inl t_has)) :: (h_t_us, .inl (k_t_us, 10, .inl t_us)) :: (h_t_vs, .inl (k_t_vs, 10, .inl t_vs)) :: (h_t_ds, .inl (k_t_ds, 10, .inl t_ds)) :: R) := hD
  refine lv_aload_n hx hb dX12_value_5 rfl (lv_at hl 0 rfl) ?_
  obtain ⟨r_c6_0, t_length_c6_0, e_c6_0, h⟩ := bnd2_ok h
  refine cl_i (rn_v (ci := 12) (As := []) (rest := []) S (c_X12_taken l D ((h_t_tape, .inl (k_t_tape, 200, .inl t_tape)) :: (h_t_has, .inl (k_t_has, 10, .inl t_has)) :: (h_t_us, .inl (k_t_us, 10, .inl t_us)) :: (h_t_vs, .inl (k_t_vs, 10, .inl t_vs)) :: (h_t_ds, .inl (k_t_ds, 10, .inl t_ds)) :: R) h_t (.int 0) (.ref h_t_tape) t_length (.int t_a) (.int t_b) (z_t_5) (.ref h_t_has) (.ref h_t_us) (.ref h_t_vs) (.ref h_t_ds) (.long t_u) (.long t_v) (.long t_d) (z_t_13) (z_t_14) (z_t_15) (z_t_16) (z_t_17) (z_t_18) (z_t_19) (z_t_20) (z_t_21) (.long t_sumU) (.long t_sumV) (.long t_sumD) (z_t_25) (z_t_26) (z_t_27) (z_t_28) (z_t_29) (z_t_30) (z_t_31) (z_t_32) (z_t_33) (z_t_34) (z_t_35) (z_t_36) (z_t_37) (z_t_38) (z_t_39) (z_t_40) (z_t_41) (z_t_42) (z_t_43) (z_t_44) (z_t_45) (z_t_46) (z_t_47) (z_t_48) (z_t_49) (z_t_50) (z_t_51) (z_t_52) (z_t_53) (z_t_54) (z_t_55) (z_t_56) (z_t_57) (z_t_58) (z_t_59) (z_t_60) r_c6_0 t_length_c6_0 e_c6_0 _) q1255 q1257 q38 q61 q1258 nd_X12_taken ⟨Nat.le_of_ble_eq_true rfl, Nat.le_of_ble_eq_true rfl⟩ rfl rfl hP hD (hK.sub (tys' := []) [] rfl) hN rfl ⟨0, _, rfl⟩ rfl hl.1 rfl (Nat.le_of_ble_eq_true rfl) dX12_value_6 ⟨Nat.le_of_ble_eq_true rfl, Nat.le_of_ble_eq_true rfl⟩) hS hA hD (fun H locs hP hD hS => ?_)
  have hP : va_P D vwCl ((h_t, .inr (12, (.int 0 :: .ref h_t_tape :: .int t_length_c6_0 :: .int t_a :: .int t_b :: z_t_5 :: .ref h_t_has :: .ref h_t_us :: .ref h_t_vs :: .ref h_t_ds :: .long t_u :: .long t_v :: .long t_d :: z_t_13 :: z_t_14 :: z_t_15 :: z_t_16 :: z_t_17 :: z_t_18 :: z_t_19 :: z_t_20 :: z_t_21 :: .long t_sumU :: .long t_sumV :: .long t_sumD :: z_t_25 :: z_t_26 :: z_t_27 :: z_t_28 :: z_t_29 :: z_t_30 :: z_t_31 :: z_t_32 :: z_t_33 :: z_t_34 :: z_t_35 :: z_t_36 :: z_t_37 :: z_t_38 :: z_t_39 :: z_t_40 :: z_t_41 :: z_t_42 :: z_t_43 :: z_t_44 :: z_t_45 :: z_t_46 :: z_t_47 :: z_t_48 :: z_t_49 :: z_t_50 :: z_t_51 :: z_t_52 :: z_t_53 :: z_t_54 :: z_t_55 :: z_t_56 :: z_t_57 :: z_t_58 :: z_t_59 :: z_t_60 :: []))) :: (h_t_tape, .inl (k_t_tape, 200, .inl t_tape)) :: (h_t_has, .inl (k_t_has, 10, .inl t_has)) :: (h_t_us, .inl (k_t_us, 10, .inl t_us)) :: (h_t_vs, .inl (k_t_vs, 10, .inl t_vs)) :: (h_t_ds, .inl (k_t_ds, 10, .inl t_ds)) :: R) H := hP
  have hD : va_D A ((h_t, .inr (12, (.int 0 :: .ref h_t_tape :: .int t_length_c6_0 :: .int t_a :: .int t_b :: z_t_5 :: .ref h_t_has :: .ref h_t_us :: .ref h_t_vs :: .ref h_t_ds :: .long t_u :: .long t_v :: .long t_d :: z_t_13 :: z_t_14 :: z_t_15 :: z_t_16 :: z_t_17 :: z_t_18 :: z_t_19 :: z_t_20 :: z_t_21 :: .long t_sumU :: .long t_sumV :: .long t_sumD :: z_t_25 :: z_t_26 :: z_t_27 :: z_t_28 :: z_t_29 :: z_t_30 :: z_t_31 :: z_t_32 :: z_t_33 :: z_t_34 :: z_t_35 :: z_t_36 :: z_t_37 :: z_t_38 :: z_t_39 :: z_t_40 :: z_t_41 :: z_t_42 :: z_t_43 :: z_t_44 :: z_t_45 :: z_t_46 :: z_t_47 :: z_t_48 :: z_t_49 :: z_t_50 :: z_t_51 :: z_t_52 :: z_t_53 :: z_t_54 :: z_t_55 :: z_t_56 :: z_t_57 :: z_t_58 :: z_t_59 :: z_t_60 :: []))) :: (h_t_tape, .inl (k_t_tape, 200, .inl t_tape)) :: (h_t_has, .inl (k_t_has, 10, .inl t_has)) :: (h_t_us, .inl (k_t_us, 10, .inl t_us)) :: (h_t_vs, .inl (k_t_vs, 10, .inl t_vs)) :: (h_t_ds, .inl (k_t_ds, 10, .inl t_ds)) :: R) := hD
  refine lv_istore (lv' := [(4, .int r_c6_0), (0, .ref h_t), (1, .int l1), (2, .int l2), (3, .int l3)]) hx hb dX12_value_9 hl (by decide) rfl (fun ls hl => ?_)
  refine lv_iload_n hx hb dX12_value_11 rfl (lv_at hl 2 rfl) ?_
  refine lv_if_lt (tgt := 40) hx hb dX12_value_12 (by decide) (fun c2 => ?_) (fun c2 => ?_)
  · have h := br_pos c2 h
    refine lv_iconst (v := 0) hx hb dX12_value_40 (by decide) ?_
    cases h
    exact rt_z S hr hlk hP hD hS (by decide) dX12_value_41
  · have h := br_neg c2 h
    refine lv_iload_n hx hb dX12_value_15 rfl (lv_at hl 2 rfl) ?_
    refine lv_bipush (v := 10) hx hb dX12_value_16 (by decide) ?_
    refine lv_icmp_ge (tgt := 40) hx hb dX12_value_18 (by decide) (fun c3 => ?_) (fun c3 => ?_)
    · have h := br_pos c3 h
      refine lv_iconst (v := 0) hx hb dX12_value_40 (by decide) ?_
      cases h
      exact rt_z S hr hlk hP hD hS (by decide) dX12_value_41
    · have h := br_neg c3 h
      refine lv_iload_n hx hb dX12_value_21 rfl (lv_at hl 3 rfl) ?_
      refine lv_if_lt (tgt := 40) hx hb dX12_value_22 (by decide) (fun c4 => ?_) (fun c4 => ?_)
      · have h := br_pos c4 h
        refine lv_iconst (v := 0) hx hb dX12_value_40 (by decide) ?_
        cases h
        exact rt_z S hr hlk hP hD hS (by decide) dX12_value_41
      · have h := br_neg c4 h
        refine lv_iload_n hx hb dX12_value_25 rfl (lv_at hl 3 rfl) ?_
        refine lv_iload hx hb dX12_value_26 (lv_at hl 0 rfl) ?_
        refine lv_icmp_gt (tgt := 40) hx hb dX12_value_28 (by decide) (fun c5 => ?_) (fun c5 => ?_)
        · have h := br_pos c5 h
          refine lv_iconst (v := 0) hx hb dX12_value_40 (by decide) ?_
          cases h
          exact rt_z S hr hlk hP hD hS (by decide) dX12_value_41
        · have h := br_neg c5 h
          refine lv_iload_n hx hb dX12_value_31 rfl (lv_at hl 4 rfl) ?_
          refine lv_if_lt (tgt := 40) hx hb dX12_value_32 (by decide) (fun c6 => ?_) (fun c6 => ?_)
          · have h := br_pos c6 h
            refine lv_iconst (v := 0) hx hb dX12_value_40 (by decide) ?_
            cases h
            exact rt_z S hr hlk hP hD hS (by decide) dX12_value_41
          · have h := br_neg c6 h
            refine lv_iload_n hx hb dX12_value_35 rfl (lv_at hl 4 rfl) ?_
            refine lv_iload_n hx hb dX12_value_36 rfl (lv_at hl 3 rfl) ?_
            refine lv_icmp_le (tgt := 42) hx hb dX12_value_37 (by decide) (fun c7 => ?_) (fun c7 => ?_)
            · have h := br_pos c7 h
              refine lv_aload_n hx hb dX12_value_42 rfl (lv_at hl 1 rfl) ?_
              refine lv_iconst (v := 0) hx hb dX12_value_43 (by decide) ?_
              refine lv_iload hx hb dX12_value_44 (lv_at hl 0 rfl) ?_
              refine lv_iload_n hx hb dX12_value_46 rfl (lv_at hl 4 rfl) ?_
              refine lv_isub hx hb dX12_value_47 ?_
              refine lv_iload hx hb dX12_value_48 (lv_at hl 0 rfl) ?_
              refine lv_iload_n hx hb dX12_value_50 rfl (lv_at hl 3 rfl) ?_
              refine lv_isub hx hb dX12_value_51 ?_
              refine lv_iconst (v := 1) hx hb dX12_value_52 (by decide) ?_
              refine lv_isub hx hb dX12_value_53 ?_
              obtain ⟨r_c54_7, t_u_c54_7, t_v_c54_7, t_d_c54_7, t_sumU_c54_7, t_sumV_c54_7, t_sumD_c54_7, e_c54_7, h⟩ := bnd7_ok h
              refine cl_z (rn_v (ci := 12) (As := [.int 0, .int (r_c6_0 - l3), .int ((r_c6_0 - l2) - 1)]) (rest := []) S (c_X12_summed l D ((h_t_has, .inl (k_t_has, 10, .inl t_has)) :: (h_t_us, .inl (k_t_us, 10, .inl t_us)) :: (h_t_vs, .inl (k_t_vs, 10, .inl t_vs)) :: (h_t_ds, .inl (k_t_ds, 10, .inl t_ds)) :: R) h_t (.int 0) (.int t_length_c6_0) t_a t_b (z_t_5) (.ref h_t_has) (.ref h_t_us) (.ref h_t_vs) (.ref h_t_ds) t_u t_v t_d (z_t_13) (z_t_14) (z_t_15) (z_t_16) (z_t_17) (z_t_18) (z_t_19) (z_t_20) (z_t_21) t_sumU t_sumV t_sumD (z_t_25) (z_t_26) (z_t_27) (z_t_28) (z_t_29) (z_t_30) (z_t_31) (z_t_32) (z_t_33) (z_t_34) (z_t_35) (z_t_36) (z_t_37) (z_t_38) (z_t_39) (z_t_40) (z_t_41) (z_t_42) (z_t_43) (z_t_44) (z_t_45) (z_t_46) (z_t_47) (z_t_48) (z_t_49) (z_t_50) (z_t_51) (z_t_52) (z_t_53) (z_t_54) (z_t_55) (z_t_56) (z_t_57) (z_t_58) (z_t_59) (z_t_60) h_t_tape k_t_tape t_tape 0 (r_c6_0 - l3) ((r_c6_0 - l2) - 1) r_c54_7 t_u_c54_7 t_v_c54_7 t_d_c54_7 t_sumU_c54_7 t_sumV_c54_7 t_sumD_c54_7 e_c54_7 _) q1259 q1261 q39 q61 q1262 nd_X12_summed ⟨Nat.le_of_ble_eq_true rfl, Nat.le_of_ble_eq_true rfl⟩ rfl rfl hP hD (hK.sub (tys' := [(k_t_tape, .byte)]) [0] rfl) hN rfl ⟨0, _, rfl⟩ rfl hl.1 rfl (Nat.le_of_ble_eq_true rfl) dX12_value_54 ⟨Nat.le_of_ble_eq_true rfl, Nat.le_of_ble_eq_true rfl⟩) hS hA hD (fun H locs hP hD hS z_c54_7 => ?_)
              have hP : va_P D vwCl ((h_t, .inr (12, (.int 0 :: .ref h_t_tape :: .int t_length_c6_0 :: .int t_a :: .int t_b :: z_t_5 :: .ref h_t_has :: .ref h_t_us :: .ref h_t_vs :: .ref h_t_ds :: .long t_u_c54_7 :: .long t_v_c54_7 :: .long t_d_c54_7 :: z_t_13 :: z_t_14 :: z_t_15 :: z_t_16 :: z_t_17 :: z_t_18 :: z_t_19 :: z_t_20 :: z_t_21 :: .long t_sumU_c54_7 :: .long t_sumV_c54_7 :: .long t_sumD_c54_7 :: z_t_25 :: z_t_26 :: z_t_27 :: z_t_28 :: z_t_29 :: z_t_30 :: z_t_31 :: z_t_32 :: z_t_33 :: z_t_34 :: z_t_35 :: z_t_36 :: z_t_37 :: z_t_38 :: z_t_39 :: z_t_40 :: z_t_41 :: z_t_42 :: z_t_43 :: z_t_44 :: z_t_45 :: z_t_46 :: z_t_47 :: z_t_48 :: z_t_49 :: z_t_50 :: z_t_51 :: z_t_52 :: z_t_53 :: z_t_54 :: z_t_55 :: z_t_56 :: z_t_57 :: z_t_58 :: z_t_59 :: z_t_60 :: []))) :: (h_t_tape, .inl (k_t_tape, 200, .inl t_tape)) :: (h_t_has, .inl (k_t_has, 10, .inl t_has)) :: (h_t_us, .inl (k_t_us, 10, .inl t_us)) :: (h_t_vs, .inl (k_t_vs, 10, .inl t_vs)) :: (h_t_ds, .inl (k_t_ds, 10, .inl t_ds)) :: R) H := hP
              have hD : va_D A ((h_t, .inr (12, (.int 0 :: .ref h_t_tape :: .int t_length_c6_0 :: .int t_a :: .int t_b :: z_t_5 :: .ref h_t_has :: .ref h_t_us :: .ref h_t_vs :: .ref h_t_ds :: .long t_u_c54_7 :: .long t_v_c54_7 :: .long t_d_c54_7 :: z_t_13 :: z_t_14 :: z_t_15 :: z_t_16 :: z_t_17 :: z_t_18 :: z_t_19 :: z_t_20 :: z_t_21 :: .long t_sumU_c54_7 :: .long t_sumV_c54_7 :: .long t_sumD_c54_7 :: z_t_25 :: z_t_26 :: z_t_27 :: z_t_28 :: z_t_29 :: z_t_30 :: z_t_31 :: z_t_32 :: z_t_33 :: z_t_34 :: z_t_35 :: z_t_36 :: z_t_37 :: z_t_38 :: z_t_39 :: z_t_40 :: z_t_41 :: z_t_42 :: z_t_43 :: z_t_44 :: z_t_45 :: z_t_46 :: z_t_47 :: z_t_48 :: z_t_49 :: z_t_50 :: z_t_51 :: z_t_52 :: z_t_53 :: z_t_54 :: z_t_55 :: z_t_56 :: z_t_57 :: z_t_58 :: z_t_59 :: z_t_60 :: []))) :: (h_t_tape, .inl (k_t_tape, 200, .inl t_tape)) :: (h_t_has, .inl (k_t_has, 10, .inl t_has)) :: (h_t_us, .inl (k_t_us, 10, .inl t_us)) :: (h_t_vs, .inl (k_t_vs, 10, .inl t_vs)) :: (h_t_ds, .inl (k_t_ds, 10, .inl t_ds)) :: R) := hD
              refine lv_if_ne (tgt := 62) hx hb dX12_value_57 (by decide) (fun c9 => ?_) (fun c9 => ?_)
              · have h := br_neg c9 h
                refine lv_iload_n hx hb dX12_value_62 rfl (lv_at hl 4 rfl) ?_
                refine lv_if_ne (tgt := 72) hx hb dX12_value_63 (by decide) (fun c10 => ?_) (fun c10 => ?_)
                · have h := br_neg c10 h
                  refine lv_aload_n hx hb dX12_value_72 rfl (lv_at hl 1 rfl) ?_
                  refine va_get (D := D) (ci := 12) (v := .long t_u_c54_7) (C := RX12) (T := TX12) (N := 61) hx hb ha ix12 hown hK hP 0 rfl rfl 10 (by decide) (ha _ q970) (fun _ h9 => h9) rfl dX12_value_73 ?_
                  refine lv_lstore (lv' := [(5, .long t_u_c54_7), (4, .int r_c6_0), (0, .ref h_t), (1, .int l1), (2, .int l2), (3, .int l3)]) hx hb dX12_value_76 hl (by decide) rfl (fun ls hl => ?_)
                  refine lv_aload_n hx hb dX12_value_78 rfl (lv_at hl 2 rfl) ?_
                  refine va_get (D := D) (ci := 12) (v := .long t_v_c54_7) (C := RX12) (T := TX12) (N := 61) hx hb ha ix12 hown hK hP 0 rfl rfl 11 (by decide) (ha _ q971) (fun _ h9 => h9) rfl dX12_value_79 ?_
                  refine lv_lstore (lv' := [(7, .long t_v_c54_7), (5, .long t_u_c54_7), (4, .int r_c6_0), (0, .ref h_t), (1, .int l1), (2, .int l2), (3, .int l3)]) hx hb dX12_value_82 hl (by decide) rfl (fun ls hl => ?_)
                  refine lv_aload_n hx hb dX12_value_84 rfl (lv_at hl 3 rfl) ?_
                  refine va_get (D := D) (ci := 12) (v := .long t_d_c54_7) (C := RX12) (T := TX12) (N := 61) hx hb ha ix12 hown hK hP 0 rfl rfl 12 (by decide) (ha _ q972) (fun _ h9 => h9) rfl dX12_value_85 ?_
                  refine lv_lstore (lv' := [(9, .long t_d_c54_7), (7, .long t_v_c54_7), (5, .long t_u_c54_7), (4, .int r_c6_0), (0, .ref h_t), (1, .int l1), (2, .int l2), (3, .int l3)]) hx hb dX12_value_88 hl (by decide) rfl (fun ls hl => ?_)
                  refine lv_aload_n hx hb dX12_value_90 rfl (lv_at hl 4 rfl) ?_
                  refine lv_iload hx hb dX12_value_91 (lv_at hl 3 rfl) ?_
                  refine lv_iload_n hx hb dX12_value_93 rfl (lv_at hl 7 rfl) ?_
                  refine lv_isub hx hb dX12_value_94 ?_
                  refine lv_iload_n hx hb dX12_value_95 rfl (lv_at hl 7 rfl) ?_
                  refine lv_iload_n hx hb dX12_value_96 rfl (lv_at hl 7 rfl) ?_
                  refine lv_iconst (v := 1) hx hb dX12_value_97 (by decide) ?_
                  refine lv_isub hx hb dX12_value_98 ?_
                  obtain ⟨r_c99_11, t_u_c99_11, t_v_c99_11, t_d_c99_11, t_sumU_c99_11, t_sumV_c99_11, t_sumD_c99_11, e_c99_11, h⟩ := bnd7_ok h
                  refine cl_z (rn_v (ci := 12) (As := [.int (r_c6_0 - l3), .int l3, .int (l3 - 1)]) (rest := []) S (c_X12_summed l D ((h_t_has, .inl (k_t_has, 10, .inl t_has)) :: (h_t_us, .inl (k_t_us, 10, .inl t_us)) :: (h_t_vs, .inl (k_t_vs, 10, .inl t_vs)) :: (h_t_ds, .inl (k_t_ds, 10, .inl t_ds)) :: R) h_t (.int 0) (.int t_length_c6_0) t_a t_b (z_t_5) (.ref h_t_has) (.ref h_t_us) (.ref h_t_vs) (.ref h_t_ds) t_u_c54_7 t_v_c54_7 t_d_c54_7 (z_t_13) (z_t_14) (z_t_15) (z_t_16) (z_t_17) (z_t_18) (z_t_19) (z_t_20) (z_t_21) t_sumU_c54_7 t_sumV_c54_7 t_sumD_c54_7 (z_t_25) (z_t_26) (z_t_27) (z_t_28) (z_t_29) (z_t_30) (z_t_31) (z_t_32) (z_t_33) (z_t_34) (z_t_35) (z_t_36) (z_t_37) (z_t_38) (z_t_39) (z_t_40) (z_t_41) (z_t_42) (z_t_43) (z_t_44) (z_t_45) (z_t_46) (z_t_47) (z_t_48) (z_t_49) (z_t_50) (z_t_51) (z_t_52) (z_t_53) (z_t_54) (z_t_55) (z_t_56) (z_t_57) (z_t_58) (z_t_59) (z_t_60) h_t_tape k_t_tape t_tape (r_c6_0 - l3) l3 (l3 - 1) r_c99_11 t_u_c99_11 t_v_c99_11 t_d_c99_11 t_sumU_c99_11 t_sumV_c99_11 t_sumD_c99_11 e_c99_11 _) q1259 q1261 q39 q61 q1262 nd_X12_summed ⟨Nat.le_of_ble_eq_true rfl, Nat.le_of_ble_eq_true rfl⟩ rfl rfl hP hD (hK.sub (tys' := [(k_t_tape, .byte)]) [0] rfl) hN rfl ⟨0, _, rfl⟩ rfl hl.1 rfl (Nat.le_of_ble_eq_true rfl) dX12_value_99 ⟨Nat.le_of_ble_eq_true rfl, Nat.le_of_ble_eq_true rfl⟩) hS hA hD (fun H locs hP hD hS z_c99_11 => ?_)
                  have hP : va_P D vwCl ((h_t, .inr (12, (.int 0 :: .ref h_t_tape :: .int t_length_c6_0 :: .int t_a :: .int t_b :: z_t_5 :: .ref h_t_has :: .ref h_t_us :: .ref h_t_vs :: .ref h_t_ds :: .long t_u_c99_11 :: .long t_v_c99_11 :: .long t_d_c99_11 :: z_t_13 :: z_t_14 :: z_t_15 :: z_t_16 :: z_t_17 :: z_t_18 :: z_t_19 :: z_t_20 :: z_t_21 :: .long t_sumU_c99_11 :: .long t_sumV_c99_11 :: .long t_sumD_c99_11 :: z_t_25 :: z_t_26 :: z_t_27 :: z_t_28 :: z_t_29 :: z_t_30 :: z_t_31 :: z_t_32 :: z_t_33 :: z_t_34 :: z_t_35 :: z_t_36 :: z_t_37 :: z_t_38 :: z_t_39 :: z_t_40 :: z_t_41 :: z_t_42 :: z_t_43 :: z_t_44 :: z_t_45 :: z_t_46 :: z_t_47 :: z_t_48 :: z_t_49 :: z_t_50 :: z_t_51 :: z_t_52 :: z_t_53 :: z_t_54 :: z_t_55 :: z_t_56 :: z_t_57 :: z_t_58 :: z_t_59 :: z_t_60 :: []))) :: (h_t_tape, .inl (k_t_tape, 200, .inl t_tape)) :: (h_t_has, .inl (k_t_has, 10, .inl t_has)) :: (h_t_us, .inl (k_t_us, 10, .inl t_us)) :: (h_t_vs, .inl (k_t_vs, 10, .inl t_vs)) :: (h_t_ds, .inl (k_t_ds, 10, .inl t_ds)) :: R) H := hP
                  have hD : va_D A ((h_t, .inr (12, (.int 0 :: .ref h_t_tape :: .int t_length_c6_0 :: .int t_a :: .int t_b :: z_t_5 :: .ref h_t_has :: .ref h_t_us :: .ref h_t_vs :: .ref h_t_ds :: .long t_u_c99_11 :: .long t_v_c99_11 :: .long t_d_c99_11 :: z_t_13 :: z_t_14 :: z_t_15 :: z_t_16 :: z_t_17 :: z_t_18 :: z_t_19 :: z_t_20 :: z_t_21 :: .long t_sumU_c99_11 :: .long t_sumV_c99_11 :: .long t_sumD_c99_11 :: z_t_25 :: z_t_26 :: z_t_27 :: z_t_28 :: z_t_29 :: z_t_30 :: z_t_31 :: z_t_32 :: z_t_33 :: z_t_34 :: z_t_35 :: z_t_36 :: z_t_37 :: z_t_38 :: z_t_39 :: z_t_40 :: z_t_41 :: z_t_42 :: z_t_43 :: z_t_44 :: z_t_45 :: z_t_46 :: z_t_47 :: z_t_48 :: z_t_49 :: z_t_50 :: z_t_51 :: z_t_52 :: z_t_53 :: z_t_54 :: z_t_55 :: z_t_56 :: z_t_57 :: z_t_58 :: z_t_59 :: z_t_60 :: []))) :: (h_t_tape, .inl (k_t_tape, 200, .inl t_tape)) :: (h_t_has, .inl (k_t_has, 10, .inl t_has)) :: (h_t_us, .inl (k_t_us, 10, .inl t_us)) :: (h_t_vs, .inl (k_t_vs, 10, .inl t_vs)) :: (h_t_ds, .inl (k_t_ds, 10, .inl t_ds)) :: R) := hD
                  refine lv_if_ne (tgt := 107) hx hb dX12_value_102 (by decide) (fun c13 => ?_) (fun c13 => ?_)
                  · have h := br_neg c13 h
                    refine lv_aload_n hx hb dX12_value_107 rfl (lv_at hl 4 rfl) ?_
                    refine va_get (D := D) (ci := 12) (v := .long t_u_c99_11) (C := RX12) (T := TX12) (N := 61) hx hb ha ix12 hown hK hP 0 rfl rfl 10 (by decide) (ha _ q970) (fun _ h9 => h9) rfl dX12_value_108 ?_
                    refine lv_lstore (lv' := [(11, .long t_u_c99_11), (9, .long t_d_c54_7), (7, .long t_v_c54_7), (5, .long t_u_c54_7), (4, .int r_c6_0), (0, .ref h_t), (1, .int l1), (2, .int l2), (3, .int l3)]) hx hb dX12_value_111 hl (by decide) rfl (fun ls hl => ?_)
                    refine lv_aload_n hx hb dX12_value_113 rfl (lv_at hl 5 rfl) ?_
                    refine va_get (D := D) (ci := 12) (v := .long t_v_c99_11) (C := RX12) (T := TX12) (N := 61) hx hb ha ix12 hown hK hP 0 rfl rfl 11 (by decide) (ha _ q971) (fun _ h9 => h9) rfl dX12_value_114 ?_
                    refine lv_lstore (lv' := [(13, .long t_v_c99_11), (11, .long t_u_c99_11), (9, .long t_d_c54_7), (7, .long t_v_c54_7), (5, .long t_u_c54_7), (4, .int r_c6_0), (0, .ref h_t), (1, .int l1), (2, .int l2), (3, .int l3)]) hx hb dX12_value_117 hl (by decide) rfl (fun ls hl => ?_)
                    refine lv_aload_n hx hb dX12_value_119 rfl (lv_at hl 6 rfl) ?_
                    refine va_get (D := D) (ci := 12) (v := .long t_d_c99_11) (C := RX12) (T := TX12) (N := 61) hx hb ha ix12 hown hK hP 0 rfl rfl 12 (by decide) (ha _ q972) (fun _ h9 => h9) rfl dX12_value_120 ?_
                    refine lv_lstore (lv' := [(15, .long t_d_c99_11), (13, .long t_v_c99_11), (11, .long t_u_c99_11), (9, .long t_d_c54_7), (7, .long t_v_c54_7), (5, .long t_u_c54_7), (4, .int r_c6_0), (0, .ref h_t), (1, .int l1), (2, .int l2), (3, .int l3)]) hx hb dX12_value_123 hl (by decide) rfl (fun ls hl => ?_)
                    refine lv_aload_n hx hb dX12_value_125 rfl (lv_at hl 7 rfl) ?_
                    refine lv_iload_n hx hb dX12_value_126 rfl (lv_at hl 10 rfl) ?_
                    obtain ⟨r_c127_13, t_u_c127_13, t_v_c127_13, t_d_c127_13, e_c127_13, h⟩ := bnd4_ok h
                    refine cl_z (rn_v (ci := 12) (As := [.int l3]) (rest := []) S (c_X12_power l D ((h_t_tape, .inl (k_t_tape, 200, .inl t_tape)) :: (h_t_has, .inl (k_t_has, 10, .inl t_has)) :: (h_t_us, .inl (k_t_us, 10, .inl t_us)) :: (h_t_vs, .inl (k_t_vs, 10, .inl t_vs)) :: (h_t_ds, .inl (k_t_ds, 10, .inl t_ds)) :: R) h_t (.int 0) (.ref h_t_tape) (.int t_length_c6_0) t_a t_b (z_t_5) (.ref h_t_has) (.ref h_t_us) (.ref h_t_vs) (.ref h_t_ds) t_u_c99_11 t_v_c99_11 t_d_c99_11 (z_t_13) (z_t_14) (z_t_15) (z_t_16) (z_t_17) (z_t_18) (z_t_19) (z_t_20) (z_t_21) (.long t_sumU_c99_11) (.long t_sumV_c99_11) (.long t_sumD_c99_11) (z_t_25) (z_t_26) (z_t_27) (z_t_28) (z_t_29) (z_t_30) (z_t_31) (z_t_32) (z_t_33) (z_t_34) (z_t_35) (z_t_36) (z_t_37) (z_t_38) (z_t_39) (z_t_40) (z_t_41) (z_t_42) (z_t_43) (z_t_44) (z_t_45) (z_t_46) (z_t_47) (z_t_48) (z_t_49) (z_t_50) (z_t_51) (z_t_52) (z_t_53) (z_t_54) (z_t_55) (z_t_56) (z_t_57) (z_t_58) (z_t_59) (z_t_60) l3 r_c127_13 t_u_c127_13 t_v_c127_13 t_d_c127_13 e_c127_13 _) q1263 q1265 q40 q61 q1266 nd_X12_power ⟨Nat.le_of_ble_eq_true rfl, Nat.le_of_ble_eq_true rfl⟩ rfl rfl hP hD (hK.sub (tys' := []) [] rfl) hN rfl ⟨0, _, rfl⟩ rfl hl.1 rfl (Nat.le_of_ble_eq_true rfl) dX12_value_127 ⟨Nat.le_of_ble_eq_true rfl, Nat.le_of_ble_eq_true rfl⟩) hS hA hD (fun H locs hP hD hS z_c127_13 => ?_)
                    have hP : va_P D vwCl ((h_t, .inr (12, (.int 0 :: .ref h_t_tape :: .int t_length_c6_0 :: .int t_a :: .int t_b :: z_t_5 :: .ref h_t_has :: .ref h_t_us :: .ref h_t_vs :: .ref h_t_ds :: .long t_u_c127_13 :: .long t_v_c127_13 :: .long t_d_c127_13 :: z_t_13 :: z_t_14 :: z_t_15 :: z_t_16 :: z_t_17 :: z_t_18 :: z_t_19 :: z_t_20 :: z_t_21 :: .long t_sumU_c99_11 :: .long t_sumV_c99_11 :: .long t_sumD_c99_11 :: z_t_25 :: z_t_26 :: z_t_27 :: z_t_28 :: z_t_29 :: z_t_30 :: z_t_31 :: z_t_32 :: z_t_33 :: z_t_34 :: z_t_35 :: z_t_36 :: z_t_37 :: z_t_38 :: z_t_39 :: z_t_40 :: z_t_41 :: z_t_42 :: z_t_43 :: z_t_44 :: z_t_45 :: z_t_46 :: z_t_47 :: z_t_48 :: z_t_49 :: z_t_50 :: z_t_51 :: z_t_52 :: z_t_53 :: z_t_54 :: z_t_55 :: z_t_56 :: z_t_57 :: z_t_58 :: z_t_59 :: z_t_60 :: []))) :: (h_t_tape, .inl (k_t_tape, 200, .inl t_tape)) :: (h_t_has, .inl (k_t_has, 10, .inl t_has)) :: (h_t_us, .inl (k_t_us, 10, .inl t_us)) :: (h_t_vs, .inl (k_t_vs, 10, .inl t_vs)) :: (h_t_ds, .inl (k_t_ds, 10, .inl t_ds)) :: R) H := hP
                    have hD : va_D A ((h_t, .inr (12, (.int 0 :: .ref h_t_tape :: .int t_length_c6_0 :: .int t_a :: .int t_b :: z_t_5 :: .ref h_t_has :: .ref h_t_us :: .ref h_t_vs :: .ref h_t_ds :: .long t_u_c127_13 :: .long t_v_c127_13 :: .long t_d_c127_13 :: z_t_13 :: z_t_14 :: z_t_15 :: z_t_16 :: z_t_17 :: z_t_18 :: z_t_19 :: z_t_20 :: z_t_21 :: .long t_sumU_c99_11 :: .long t_sumV_c99_11 :: .long t_sumD_c99_11 :: z_t_25 :: z_t_26 :: z_t_27 :: z_t_28 :: z_t_29 :: z_t_30 :: z_t_31 :: z_t_32 :: z_t_33 :: z_t_34 :: z_t_35 :: z_t_36 :: z_t_37 :: z_t_38 :: z_t_39 :: z_t_40 :: z_t_41 :: z_t_42 :: z_t_43 :: z_t_44 :: z_t_45 :: z_t_46 :: z_t_47 :: z_t_48 :: z_t_49 :: z_t_50 :: z_t_51 :: z_t_52 :: z_t_53 :: z_t_54 :: z_t_55 :: z_t_56 :: z_t_57 :: z_t_58 :: z_t_59 :: z_t_60 :: []))) :: (h_t_tape, .inl (k_t_tape, 200, .inl t_tape)) :: (h_t_has, .inl (k_t_has, 10, .inl t_has)) :: (h_t_us, .inl (k_t_us, 10, .inl t_us)) :: (h_t_vs, .inl (k_t_vs, 10, .inl t_vs)) :: (h_t_ds, .inl (k_t_ds, 10, .inl t_ds)) :: R) := hD
                    refine lv_if_ne (tgt := 135) hx hb dX12_value_130 (by decide) (fun c15 => ?_) (fun c15 => ?_)
                    · have h := br_neg c15 h
                      refine lv_aload_n hx hb dX12_value_135 rfl (lv_at hl 7 rfl) ?_
                      refine lv_aload_n hx hb dX12_value_136 rfl (lv_at hl 7 rfl) ?_
                      refine va_get (D := D) (ci := 12) (v := .long t_u_c127_13) (C := RX12) (T := TX12) (N := 61) hx hb ha ix12 hown hK hP 0 rfl rfl 10 (by decide) (ha _ q970) (fun _ h9 => h9) rfl dX12_value_137 ?_
                      refine lv_lconst (v := 1) hx hb dX12_value_140 (by decide) ?_
                      refine lv_lsub hx hb dX12_value_141 ?_
                      refine lv_aload_n hx hb dX12_value_142 rfl (lv_at hl 7 rfl) ?_
                      refine va_get (D := D) (ci := 12) (v := .long t_v_c127_13) (C := RX12) (T := TX12) (N := 61) hx hb ha ix12 hown hK hP 0 rfl rfl 11 (by decide) (ha _ q971) (fun _ h9 => h9) rfl dX12_value_143 ?_
                      refine lv_lconst (v := 1) hx hb dX12_value_146 (by decide) ?_
                      obtain ⟨t_u_c147_15, t_v_c147_15, t_d_c147_15, e_c147_15, h⟩ := bnd3_ok h
                      refine cl_v (rn_v (ci := 12) (As := [.long (t_u_c127_13 - 1), .long t_v_c127_13, .long 1]) (rest := []) S (c_X12_set l D ((h_t_tape, .inl (k_t_tape, 200, .inl t_tape)) :: (h_t_has, .inl (k_t_has, 10, .inl t_has)) :: (h_t_us, .inl (k_t_us, 10, .inl t_us)) :: (h_t_vs, .inl (k_t_vs, 10, .inl t_vs)) :: (h_t_ds, .inl (k_t_ds, 10, .inl t_ds)) :: R) h_t (.int 0) (.ref h_t_tape) (.int t_length_c6_0) (.int t_a) (.int t_b) (z_t_5) (.ref h_t_has) (.ref h_t_us) (.ref h_t_vs) (.ref h_t_ds) t_u_c127_13 t_v_c127_13 t_d_c127_13 (z_t_13) (z_t_14) (z_t_15) (z_t_16) (z_t_17) (z_t_18) (z_t_19) (z_t_20) (z_t_21) (.long t_sumU_c99_11) (.long t_sumV_c99_11) (.long t_sumD_c99_11) (z_t_25) (z_t_26) (z_t_27) (z_t_28) (z_t_29) (z_t_30) (z_t_31) (z_t_32) (z_t_33) (z_t_34) (z_t_35) (z_t_36) (z_t_37) (z_t_38) (z_t_39) (z_t_40) (z_t_41) (z_t_42) (z_t_43) (z_t_44) (z_t_45) (z_t_46) (z_t_47) (z_t_48) (z_t_49) (z_t_50) (z_t_51) (z_t_52) (z_t_53) (z_t_54) (z_t_55) (z_t_56) (z_t_57) (z_t_58) (z_t_59) (z_t_60) (t_u_c127_13 - 1) t_v_c127_13 1 t_u_c147_15 t_v_c147_15 t_d_c147_15 e_c147_15 _) q1172 q1174 q27 q61 q1175 nd_X12_set ⟨Nat.le_of_ble_eq_true rfl, Nat.le_of_ble_eq_true rfl⟩ rfl rfl hP hD (hK.sub (tys' := []) [] rfl) hN rfl ⟨0, _, rfl⟩ rfl hl.1 rfl (Nat.le_of_ble_eq_true rfl) dX12_value_147 ⟨Nat.le_of_ble_eq_true rfl, Nat.le_of_ble_eq_true rfl⟩) hS hA hD (fun H locs hP hD hS => ?_)
                      have hP : va_P D vwCl ((h_t, .inr (12, (.int 0 :: .ref h_t_tape :: .int t_length_c6_0 :: .int t_a :: .int t_b :: z_t_5 :: .ref h_t_has :: .ref h_t_us :: .ref h_t_vs :: .ref h_t_ds :: .long t_u_c147_15 :: .long t_v_c147_15 :: .long t_d_c147_15 :: z_t_13 :: z_t_14 :: z_t_15 :: z_t_16 :: z_t_17 :: z_t_18 :: z_t_19 :: z_t_20 :: z_t_21 :: .long t_sumU_c99_11 :: .long t_sumV_c99_11 :: .long t_sumD_c99_11 :: z_t_25 :: z_t_26 :: z_t_27 :: z_t_28 :: z_t_29 :: z_t_30 :: z_t_31 :: z_t_32 :: z_t_33 :: z_t_34 :: z_t_35 :: z_t_36 :: z_t_37 :: z_t_38 :: z_t_39 :: z_t_40 :: z_t_41 :: z_t_42 :: z_t_43 :: z_t_44 :: z_t_45 :: z_t_46 :: z_t_47 :: z_t_48 :: z_t_49 :: z_t_50 :: z_t_51 :: z_t_52 :: z_t_53 :: z_t_54 :: z_t_55 :: z_t_56 :: z_t_57 :: z_t_58 :: z_t_59 :: z_t_60 :: []))) :: (h_t_tape, .inl (k_t_tape, 200, .inl t_tape)) :: (h_t_has, .inl (k_t_has, 10, .inl t_has)) :: (h_t_us, .inl (k_t_us, 10, .inl t_us)) :: (h_t_vs, .inl (k_t_vs, 10, .inl t_vs)) :: (h_t_ds, .inl (k_t_ds, 10, .inl t_ds)) :: R) H := hP
                      have hD : va_D A ((h_t, .inr (12, (.int 0 :: .ref h_t_tape :: .int t_length_c6_0 :: .int t_a :: .int t_b :: z_t_5 :: .ref h_t_has :: .ref h_t_us :: .ref h_t_vs :: .ref h_t_ds :: .long t_u_c147_15 :: .long t_v_c147_15 :: .long t_d_c147_15 :: z_t_13 :: z_t_14 :: z_t_15 :: z_t_16 :: z_t_17 :: z_t_18 :: z_t_19 :: z_t_20 :: z_t_21 :: .long t_sumU_c99_11 :: .long t_sumV_c99_11 :: .long t_sumD_c99_11 :: z_t_25 :: z_t_26 :: z_t_27 :: z_t_28 :: z_t_29 :: z_t_30 :: z_t_31 :: z_t_32 :: z_t_33 :: z_t_34 :: z_t_35 :: z_t_36 :: z_t_37 :: z_t_38 :: z_t_39 :: z_t_40 :: z_t_41 :: z_t_42 :: z_t_43 :: z_t_44 :: z_t_45 :: z_t_46 :: z_t_47 :: z_t_48 :: z_t_49 :: z_t_50 :: z_t_51 :: z_t_52 :: z_t_53 :: z_t_54 :: z_t_55 :: z_t_56 :: z_t_57 :: z_t_58 :: z_t_59 :: z_t_60 :: []))) :: (h_t_tape, .inl (k_t_tape, 200, .inl t_tape)) :: (h_t_has, .inl (k_t_has, 10, .inl t_has)) :: (h_t_us, .inl (k_t_us, 10, .inl t_us)) :: (h_t_vs, .inl (k_t_vs, 10, .inl t_vs)) :: (h_t_ds, .inl (k_t_ds, 10, .inl t_ds)) :: R) := hD
                      refine lv_aload_n hx hb dX12_value_150 rfl (lv_at hl 7 rfl) ?_
                      obtain ⟨r_c151_16, e_c151_16, h⟩ := bnd1_ok h
                      refine cl_z (rn_v (ci := 12) (As := []) (rest := []) S (c_X12_isNumber l D ((h_t_tape, .inl (k_t_tape, 200, .inl t_tape)) :: (h_t_has, .inl (k_t_has, 10, .inl t_has)) :: (h_t_us, .inl (k_t_us, 10, .inl t_us)) :: (h_t_vs, .inl (k_t_vs, 10, .inl t_vs)) :: (h_t_ds, .inl (k_t_ds, 10, .inl t_ds)) :: R) h_t (.int 0) (.ref h_t_tape) (.int t_length_c6_0) (.int t_a) (.int t_b) (z_t_5) (.ref h_t_has) (.ref h_t_us) (.ref h_t_vs) (.ref h_t_ds) t_u_c147_15 t_v_c147_15 t_d_c147_15 (z_t_13) (z_t_14) (z_t_15) (z_t_16) (z_t_17) (z_t_18) (z_t_19) (z_t_20) (z_t_21) (.long t_sumU_c99_11) (.long t_sumV_c99_11) (.long t_sumD_c99_11) (z_t_25) (z_t_26) (z_t_27) (z_t_28) (z_t_29) (z_t_30) (z_t_31) (z_t_32) (z_t_33) (z_t_34) (z_t_35) (z_t_36) (z_t_37) (z_t_38) (z_t_39) (z_t_40) (z_t_41) (z_t_42) (z_t_43) (z_t_44) (z_t_45) (z_t_46) (z_t_47) (z_t_48) (z_t_49) (z_t_50) (z_t_51) (z_t_52) (z_t_53) (z_t_54) (z_t_55) (z_t_56) (z_t_57) (z_t_58) (z_t_59) (z_t_60) r_c151_16 e_c151_16 _) q1183 q1185 q29 q61 q1186 nd_X12_isNumber ⟨Nat.le_of_ble_eq_true rfl, Nat.le_of_ble_eq_true rfl⟩ rfl rfl hP hD (hK.sub (tys' := []) [] rfl) hN rfl ⟨0, _, rfl⟩ rfl hl.1 rfl (Nat.le_of_ble_eq_true rfl) dX12_value_151 ⟨Nat.le_of_ble_eq_true rfl, Nat.le_of_ble_eq_true rfl⟩) hS hA hD (fun H locs hP hD hS z_c151_16 => ?_)
                      have hP : va_P D vwCl ((h_t, .inr (12, (.int 0 :: .ref h_t_tape :: .int t_length_c6_0 :: .int t_a :: .int t_b :: z_t_5 :: .ref h_t_has :: .ref h_t_us :: .ref h_t_vs :: .ref h_t_ds :: .long t_u_c147_15 :: .long t_v_c147_15 :: .long t_d_c147_15 :: z_t_13 :: z_t_14 :: z_t_15 :: z_t_16 :: z_t_17 :: z_t_18 :: z_t_19 :: z_t_20 :: z_t_21 :: .long t_sumU_c99_11 :: .long t_sumV_c99_11 :: .long t_sumD_c99_11 :: z_t_25 :: z_t_26 :: z_t_27 :: z_t_28 :: z_t_29 :: z_t_30 :: z_t_31 :: z_t_32 :: z_t_33 :: z_t_34 :: z_t_35 :: z_t_36 :: z_t_37 :: z_t_38 :: z_t_39 :: z_t_40 :: z_t_41 :: z_t_42 :: z_t_43 :: z_t_44 :: z_t_45 :: z_t_46 :: z_t_47 :: z_t_48 :: z_t_49 :: z_t_50 :: z_t_51 :: z_t_52 :: z_t_53 :: z_t_54 :: z_t_55 :: z_t_56 :: z_t_57 :: z_t_58 :: z_t_59 :: z_t_60 :: []))) :: (h_t_tape, .inl (k_t_tape, 200, .inl t_tape)) :: (h_t_has, .inl (k_t_has, 10, .inl t_has)) :: (h_t_us, .inl (k_t_us, 10, .inl t_us)) :: (h_t_vs, .inl (k_t_vs, 10, .inl t_vs)) :: (h_t_ds, .inl (k_t_ds, 10, .inl t_ds)) :: R) H := hP
                      have hD : va_D A ((h_t, .inr (12, (.int 0 :: .ref h_t_tape :: .int t_length_c6_0 :: .int t_a :: .int t_b :: z_t_5 :: .ref h_t_has :: .ref h_t_us :: .ref h_t_vs :: .ref h_t_ds :: .long t_u_c147_15 :: .long t_v_c147_15 :: .long t_d_c147_15 :: z_t_13 :: z_t_14 :: z_t_15 :: z_t_16 :: z_t_17 :: z_t_18 :: z_t_19 :: z_t_20 :: z_t_21 :: .long t_sumU_c99_11 :: .long t_sumV_c99_11 :: .long t_sumD_c99_11 :: z_t_25 :: z_t_26 :: z_t_27 :: z_t_28 :: z_t_29 :: z_t_30 :: z_t_31 :: z_t_32 :: z_t_33 :: z_t_34 :: z_t_35 :: z_t_36 :: z_t_37 :: z_t_38 :: z_t_39 :: z_t_40 :: z_t_41 :: z_t_42 :: z_t_43 :: z_t_44 :: z_t_45 :: z_t_46 :: z_t_47 :: z_t_48 :: z_t_49 :: z_t_50 :: z_t_51 :: z_t_52 :: z_t_53 :: z_t_54 :: z_t_55 :: z_t_56 :: z_t_57 :: z_t_58 :: z_t_59 :: z_t_60 :: []))) :: (h_t_tape, .inl (k_t_tape, 200, .inl t_tape)) :: (h_t_has, .inl (k_t_has, 10, .inl t_has)) :: (h_t_us, .inl (k_t_us, 10, .inl t_us)) :: (h_t_vs, .inl (k_t_vs, 10, .inl t_vs)) :: (h_t_ds, .inl (k_t_ds, 10, .inl t_ds)) :: R) := hD
                      refine lv_if_ne (tgt := 159) hx hb dX12_value_154 (by decide) (fun c18 => ?_) (fun c18 => ?_)
                      · have h := br_neg c18 h
                        refine lv_aload_n hx hb dX12_value_159 rfl (lv_at hl 7 rfl) ?_
                        refine va_get (D := D) (ci := 12) (v := .long t_u_c147_15) (C := RX12) (T := TX12) (N := 61) hx hb ha ix12 hown hK hP 0 rfl rfl 10 (by decide) (ha _ q970) (fun _ h9 => h9) rfl dX12_value_160 ?_
                        refine lv_lstore (lv' := [(17, .long t_u_c147_15), (15, .long t_d_c99_11), (13, .long t_v_c99_11), (11, .long t_u_c99_11), (9, .long t_d_c54_7), (7, .long t_v_c54_7), (5, .long t_u_c54_7), (4, .int r_c6_0), (0, .ref h_t), (1, .int l1), (2, .int l2), (3, .int l3)]) hx hb dX12_value_163 hl (by decide) rfl (fun ls hl => ?_)
                        refine lv_aload_n hx hb dX12_value_165 rfl (lv_at hl 8 rfl) ?_
                        refine va_get (D := D) (ci := 12) (v := .long t_v_c147_15) (C := RX12) (T := TX12) (N := 61) hx hb ha ix12 hown hK hP 0 rfl rfl 11 (by decide) (ha _ q971) (fun _ h9 => h9) rfl dX12_value_166 ?_
                        refine lv_lstore (lv' := [(19, .long t_v_c147_15), (17, .long t_u_c147_15), (15, .long t_d_c99_11), (13, .long t_v_c99_11), (11, .long t_u_c99_11), (9, .long t_d_c54_7), (7, .long t_v_c54_7), (5, .long t_u_c54_7), (4, .int r_c6_0), (0, .ref h_t), (1, .int l1), (2, .int l2), (3, .int l3)]) hx hb dX12_value_169 hl (by decide) rfl (fun ls hl => ?_)
                        refine lv_aload_n hx hb dX12_value_171 rfl (lv_at hl 9 rfl) ?_
                        refine lv_lload hx hb dX12_value_172 (lv_at hl 4 rfl) ?_
                        refine lv_lload hx hb dX12_value_174 (lv_at hl 3 rfl) ?_
                        refine lv_lload hx hb dX12_value_176 (lv_at hl 2 rfl) ?_
                        obtain ⟨t_u_c178_18, t_v_c178_18, t_d_c178_18, e_c178_18, h⟩ := bnd3_ok h
                        refine cl_v (rn_v (ci := 12) (As := [.long t_u_c99_11, .long t_v_c99_11, .long t_d_c99_11]) (rest := []) S (c_X12_set l D ((h_t_tape, .inl (k_t_tape, 200, .inl t_tape)) :: (h_t_has, .inl (k_t_has, 10, .inl t_has)) :: (h_t_us, .inl (k_t_us, 10, .inl t_us)) :: (h_t_vs, .inl (k_t_vs, 10, .inl t_vs)) :: (h_t_ds, .inl (k_t_ds, 10, .inl t_ds)) :: R) h_t (.int 0) (.ref h_t_tape) (.int t_length_c6_0) (.int t_a) (.int t_b) (z_t_5) (.ref h_t_has) (.ref h_t_us) (.ref h_t_vs) (.ref h_t_ds) t_u_c147_15 t_v_c147_15 t_d_c147_15 (z_t_13) (z_t_14) (z_t_15) (z_t_16) (z_t_17) (z_t_18) (z_t_19) (z_t_20) (z_t_21) (.long t_sumU_c99_11) (.long t_sumV_c99_11) (.long t_sumD_c99_11) (z_t_25) (z_t_26) (z_t_27) (z_t_28) (z_t_29) (z_t_30) (z_t_31) (z_t_32) (z_t_33) (z_t_34) (z_t_35) (z_t_36) (z_t_37) (z_t_38) (z_t_39) (z_t_40) (z_t_41) (z_t_42) (z_t_43) (z_t_44) (z_t_45) (z_t_46) (z_t_47) (z_t_48) (z_t_49) (z_t_50) (z_t_51) (z_t_52) (z_t_53) (z_t_54) (z_t_55) (z_t_56) (z_t_57) (z_t_58) (z_t_59) (z_t_60) t_u_c99_11 t_v_c99_11 t_d_c99_11 t_u_c178_18 t_v_c178_18 t_d_c178_18 e_c178_18 _) q1172 q1174 q27 q61 q1175 nd_X12_set ⟨Nat.le_of_ble_eq_true rfl, Nat.le_of_ble_eq_true rfl⟩ rfl rfl hP hD (hK.sub (tys' := []) [] rfl) hN rfl ⟨0, _, rfl⟩ rfl hl.1 rfl (Nat.le_of_ble_eq_true rfl) dX12_value_178 ⟨Nat.le_of_ble_eq_true rfl, Nat.le_of_ble_eq_true rfl⟩) hS hA hD (fun H locs hP hD hS => ?_)
                        have hP : va_P D vwCl ((h_t, .inr (12, (.int 0 :: .ref h_t_tape :: .int t_length_c6_0 :: .int t_a :: .int t_b :: z_t_5 :: .ref h_t_has :: .ref h_t_us :: .ref h_t_vs :: .ref h_t_ds :: .long t_u_c178_18 :: .long t_v_c178_18 :: .long t_d_c178_18 :: z_t_13 :: z_t_14 :: z_t_15 :: z_t_16 :: z_t_17 :: z_t_18 :: z_t_19 :: z_t_20 :: z_t_21 :: .long t_sumU_c99_11 :: .long t_sumV_c99_11 :: .long t_sumD_c99_11 :: z_t_25 :: z_t_26 :: z_t_27 :: z_t_28 :: z_t_29 :: z_t_30 :: z_t_31 :: z_t_32 :: z_t_33 :: z_t_34 :: z_t_35 :: z_t_36 :: z_t_37 :: z_t_38 :: z_t_39 :: z_t_40 :: z_t_41 :: z_t_42 :: z_t_43 :: z_t_44 :: z_t_45 :: z_t_46 :: z_t_47 :: z_t_48 :: z_t_49 :: z_t_50 :: z_t_51 :: z_t_52 :: z_t_53 :: z_t_54 :: z_t_55 :: z_t_56 :: z_t_57 :: z_t_58 :: z_t_59 :: z_t_60 :: []))) :: (h_t_tape, .inl (k_t_tape, 200, .inl t_tape)) :: (h_t_has, .inl (k_t_has, 10, .inl t_has)) :: (h_t_us, .inl (k_t_us, 10, .inl t_us)) :: (h_t_vs, .inl (k_t_vs, 10, .inl t_vs)) :: (h_t_ds, .inl (k_t_ds, 10, .inl t_ds)) :: R) H := hP
                        have hD : va_D A ((h_t, .inr (12, (.int 0 :: .ref h_t_tape :: .int t_length_c6_0 :: .int t_a :: .int t_b :: z_t_5 :: .ref h_t_has :: .ref h_t_us :: .ref h_t_vs :: .ref h_t_ds :: .long t_u_c178_18 :: .long t_v_c178_18 :: .long t_d_c178_18 :: z_t_13 :: z_t_14 :: z_t_15 :: z_t_16 :: z_t_17 :: z_t_18 :: z_t_19 :: z_t_20 :: z_t_21 :: .long t_sumU_c99_11 :: .long t_sumV_c99_11 :: .long t_sumD_c99_11 :: z_t_25 :: z_t_26 :: z_t_27 :: z_t_28 :: z_t_29 :: z_t_30 :: z_t_31 :: z_t_32 :: z_t_33 :: z_t_34 :: z_t_35 :: z_t_36 :: z_t_37 :: z_t_38 :: z_t_39 :: z_t_40 :: z_t_41 :: z_t_42 :: z_t_43 :: z_t_44 :: z_t_45 :: z_t_46 :: z_t_47 :: z_t_48 :: z_t_49 :: z_t_50 :: z_t_51 :: z_t_52 :: z_t_53 :: z_t_54 :: z_t_55 :: z_t_56 :: z_t_57 :: z_t_58 :: z_t_59 :: z_t_60 :: []))) :: (h_t_tape, .inl (k_t_tape, 200, .inl t_tape)) :: (h_t_has, .inl (k_t_has, 10, .inl t_has)) :: (h_t_us, .inl (k_t_us, 10, .inl t_us)) :: (h_t_vs, .inl (k_t_vs, 10, .inl t_vs)) :: (h_t_ds, .inl (k_t_ds, 10, .inl t_ds)) :: R) := hD
                        refine lv_aload_n hx hb dX12_value_181 rfl (lv_at hl 9 rfl) ?_
                        refine lv_lload hx hb dX12_value_182 (lv_at hl 1 rfl) ?_
                        refine lv_lload hx hb dX12_value_184 (lv_at hl 0 rfl) ?_
                        refine lv_lconst (v := 1) hx hb dX12_value_186 (by decide) ?_
                        obtain ⟨t_u_c187_19, t_v_c187_19, t_d_c187_19, e_c187_19, h⟩ := bnd3_ok h
                        refine cl_v (rn_v (ci := 12) (As := [.long t_u_c147_15, .long t_v_c147_15, .long 1]) (rest := []) S (c_X12_by l D ((h_t_tape, .inl (k_t_tape, 200, .inl t_tape)) :: (h_t_has, .inl (k_t_has, 10, .inl t_has)) :: (h_t_us, .inl (k_t_us, 10, .inl t_us)) :: (h_t_vs, .inl (k_t_vs, 10, .inl t_vs)) :: (h_t_ds, .inl (k_t_ds, 10, .inl t_ds)) :: R) h_t (.int 0) (.ref h_t_tape) (.int t_length_c6_0) t_a t_b (z_t_5) (.ref h_t_has) (.ref h_t_us) (.ref h_t_vs) (.ref h_t_ds) t_u_c178_18 t_v_c178_18 t_d_c178_18 (z_t_13) (z_t_14) (z_t_15) (z_t_16) (z_t_17) (z_t_18) (z_t_19) (z_t_20) (z_t_21) (.long t_sumU_c99_11) (.long t_sumV_c99_11) (.long t_sumD_c99_11) (z_t_25) (z_t_26) (z_t_27) (z_t_28) (z_t_29) (z_t_30) (z_t_31) (z_t_32) (z_t_33) (z_t_34) (z_t_35) (z_t_36) (z_t_37) (z_t_38) (z_t_39) (z_t_40) (z_t_41) (z_t_42) (z_t_43) (z_t_44) (z_t_45) (z_t_46) (z_t_47) (z_t_48) (z_t_49) (z_t_50) (z_t_51) (z_t_52) (z_t_53) (z_t_54) (z_t_55) (z_t_56) (z_t_57) (z_t_58) (z_t_59) (z_t_60) t_u_c147_15 t_v_c147_15 1 t_u_c187_19 t_v_c187_19 t_d_c187_19 e_c187_19 _) q1206 q1208 q33 q61 q1209 nd_X12_by ⟨Nat.le_of_ble_eq_true rfl, Nat.le_of_ble_eq_true rfl⟩ rfl rfl hP hD (hK.sub (tys' := []) [] rfl) hN rfl ⟨0, _, rfl⟩ rfl hl.1 rfl (Nat.le_of_ble_eq_true rfl) dX12_value_187 ⟨Nat.le_of_ble_eq_true rfl, Nat.le_of_ble_eq_true rfl⟩) hS hA hD (fun H locs hP hD hS => ?_)
                        have hP : va_P D vwCl ((h_t, .inr (12, (.int 0 :: .ref h_t_tape :: .int t_length_c6_0 :: .int t_a :: .int t_b :: z_t_5 :: .ref h_t_has :: .ref h_t_us :: .ref h_t_vs :: .ref h_t_ds :: .long t_u_c187_19 :: .long t_v_c187_19 :: .long t_d_c187_19 :: z_t_13 :: z_t_14 :: z_t_15 :: z_t_16 :: z_t_17 :: z_t_18 :: z_t_19 :: z_t_20 :: z_t_21 :: .long t_sumU_c99_11 :: .long t_sumV_c99_11 :: .long t_sumD_c99_11 :: z_t_25 :: z_t_26 :: z_t_27 :: z_t_28 :: z_t_29 :: z_t_30 :: z_t_31 :: z_t_32 :: z_t_33 :: z_t_34 :: z_t_35 :: z_t_36 :: z_t_37 :: z_t_38 :: z_t_39 :: z_t_40 :: z_t_41 :: z_t_42 :: z_t_43 :: z_t_44 :: z_t_45 :: z_t_46 :: z_t_47 :: z_t_48 :: z_t_49 :: z_t_50 :: z_t_51 :: z_t_52 :: z_t_53 :: z_t_54 :: z_t_55 :: z_t_56 :: z_t_57 :: z_t_58 :: z_t_59 :: z_t_60 :: []))) :: (h_t_tape, .inl (k_t_tape, 200, .inl t_tape)) :: (h_t_has, .inl (k_t_has, 10, .inl t_has)) :: (h_t_us, .inl (k_t_us, 10, .inl t_us)) :: (h_t_vs, .inl (k_t_vs, 10, .inl t_vs)) :: (h_t_ds, .inl (k_t_ds, 10, .inl t_ds)) :: R) H := hP
                        have hD : va_D A ((h_t, .inr (12, (.int 0 :: .ref h_t_tape :: .int t_length_c6_0 :: .int t_a :: .int t_b :: z_t_5 :: .ref h_t_has :: .ref h_t_us :: .ref h_t_vs :: .ref h_t_ds :: .long t_u_c187_19 :: .long t_v_c187_19 :: .long t_d_c187_19 :: z_t_13 :: z_t_14 :: z_t_15 :: z_t_16 :: z_t_17 :: z_t_18 :: z_t_19 :: z_t_20 :: z_t_21 :: .long t_sumU_c99_11 :: .long t_sumV_c99_11 :: .long t_sumD_c99_11 :: z_t_25 :: z_t_26 :: z_t_27 :: z_t_28 :: z_t_29 :: z_t_30 :: z_t_31 :: z_t_32 :: z_t_33 :: z_t_34 :: z_t_35 :: z_t_36 :: z_t_37 :: z_t_38 :: z_t_39 :: z_t_40 :: z_t_41 :: z_t_42 :: z_t_43 :: z_t_44 :: z_t_45 :: z_t_46 :: z_t_47 :: z_t_48 :: z_t_49 :: z_t_50 :: z_t_51 :: z_t_52 :: z_t_53 :: z_t_54 :: z_t_55 :: z_t_56 :: z_t_57 :: z_t_58 :: z_t_59 :: z_t_60 :: []))) :: (h_t_tape, .inl (k_t_tape, 200, .inl t_tape)) :: (h_t_has, .inl (k_t_has, 10, .inl t_has)) :: (h_t_us, .inl (k_t_us, 10, .inl t_us)) :: (h_t_vs, .inl (k_t_vs, 10, .inl t_vs)) :: (h_t_ds, .inl (k_t_ds, 10, .inl t_ds)) :: R) := hD
                        refine lv_aload_n hx hb dX12_value_190 rfl (lv_at hl 9 rfl) ?_
                        obtain ⟨r_c191_20, e_c191_20, h⟩ := bnd1_ok h
                        refine cl_z (rn_v (ci := 12) (As := []) (rest := []) S (c_X12_isNumber l D ((h_t_tape, .inl (k_t_tape, 200, .inl t_tape)) :: (h_t_has, .inl (k_t_has, 10, .inl t_has)) :: (h_t_us, .inl (k_t_us, 10, .inl t_us)) :: (h_t_vs, .inl (k_t_vs, 10, .inl t_vs)) :: (h_t_ds, .inl (k_t_ds, 10, .inl t_ds)) :: R) h_t (.int 0) (.ref h_t_tape) (.int t_length_c6_0) (.int t_a) (.int t_b) (z_t_5) (.ref h_t_has) (.ref h_t_us) (.ref h_t_vs) (.ref h_t_ds) t_u_c187_19 t_v_c187_19 t_d_c187_19 (z_t_13) (z_t_14) (z_t_15) (z_t_16) (z_t_17) (z_t_18) (z_t_19) (z_t_20) (z_t_21) (.long t_sumU_c99_11) (.long t_sumV_c99_11) (.long t_sumD_c99_11) (z_t_25) (z_t_26) (z_t_27) (z_t_28) (z_t_29) (z_t_30) (z_t_31) (z_t_32) (z_t_33) (z_t_34) (z_t_35) (z_t_36) (z_t_37) (z_t_38) (z_t_39) (z_t_40) (z_t_41) (z_t_42) (z_t_43) (z_t_44) (z_t_45) (z_t_46) (z_t_47) (z_t_48) (z_t_49) (z_t_50) (z_t_51) (z_t_52) (z_t_53) (z_t_54) (z_t_55) (z_t_56) (z_t_57) (z_t_58) (z_t_59) (z_t_60) r_c191_20 e_c191_20 _) q1183 q1185 q29 q61 q1186 nd_X12_isNumber ⟨Nat.le_of_ble_eq_true rfl, Nat.le_of_ble_eq_true rfl⟩ rfl rfl hP hD (hK.sub (tys' := []) [] rfl) hN rfl ⟨0, _, rfl⟩ rfl hl.1 rfl (Nat.le_of_ble_eq_true rfl) dX12_value_191 ⟨Nat.le_of_ble_eq_true rfl, Nat.le_of_ble_eq_true rfl⟩) hS hA hD (fun H locs hP hD hS z_c191_20 => ?_)
                        have hP : va_P D vwCl ((h_t, .inr (12, (.int 0 :: .ref h_t_tape :: .int t_length_c6_0 :: .int t_a :: .int t_b :: z_t_5 :: .ref h_t_has :: .ref h_t_us :: .ref h_t_vs :: .ref h_t_ds :: .long t_u_c187_19 :: .long t_v_c187_19 :: .long t_d_c187_19 :: z_t_13 :: z_t_14 :: z_t_15 :: z_t_16 :: z_t_17 :: z_t_18 :: z_t_19 :: z_t_20 :: z_t_21 :: .long t_sumU_c99_11 :: .long t_sumV_c99_11 :: .long t_sumD_c99_11 :: z_t_25 :: z_t_26 :: z_t_27 :: z_t_28 :: z_t_29 :: z_t_30 :: z_t_31 :: z_t_32 :: z_t_33 :: z_t_34 :: z_t_35 :: z_t_36 :: z_t_37 :: z_t_38 :: z_t_39 :: z_t_40 :: z_t_41 :: z_t_42 :: z_t_43 :: z_t_44 :: z_t_45 :: z_t_46 :: z_t_47 :: z_t_48 :: z_t_49 :: z_t_50 :: z_t_51 :: z_t_52 :: z_t_53 :: z_t_54 :: z_t_55 :: z_t_56 :: z_t_57 :: z_t_58 :: z_t_59 :: z_t_60 :: []))) :: (h_t_tape, .inl (k_t_tape, 200, .inl t_tape)) :: (h_t_has, .inl (k_t_has, 10, .inl t_has)) :: (h_t_us, .inl (k_t_us, 10, .inl t_us)) :: (h_t_vs, .inl (k_t_vs, 10, .inl t_vs)) :: (h_t_ds, .inl (k_t_ds, 10, .inl t_ds)) :: R) H := hP
                        have hD : va_D A ((h_t, .inr (12, (.int 0 :: .ref h_t_tape :: .int t_length_c6_0 :: .int t_a :: .int t_b :: z_t_5 :: .ref h_t_has :: .ref h_t_us :: .ref h_t_vs :: .ref h_t_ds :: .long t_u_c187_19 :: .long t_v_c187_19 :: .long t_d_c187_19 :: z_t_13 :: z_t_14 :: z_t_15 :: z_t_16 :: z_t_17 :: z_t_18 :: z_t_19 :: z_t_20 :: z_t_21 :: .long t_sumU_c99_11 :: .long t_sumV_c99_11 :: .long t_sumD_c99_11 :: z_t_25 :: z_t_26 :: z_t_27 :: z_t_28 :: z_t_29 :: z_t_30 :: z_t_31 :: z_t_32 :: z_t_33 :: z_t_34 :: z_t_35 :: z_t_36 :: z_t_37 :: z_t_38 :: z_t_39 :: z_t_40 :: z_t_41 :: z_t_42 :: z_t_43 :: z_t_44 :: z_t_45 :: z_t_46 :: z_t_47 :: z_t_48 :: z_t_49 :: z_t_50 :: z_t_51 :: z_t_52 :: z_t_53 :: z_t_54 :: z_t_55 :: z_t_56 :: z_t_57 :: z_t_58 :: z_t_59 :: z_t_60 :: []))) :: (h_t_tape, .inl (k_t_tape, 200, .inl t_tape)) :: (h_t_has, .inl (k_t_has, 10, .inl t_has)) :: (h_t_us, .inl (k_t_us, 10, .inl t_us)) :: (h_t_vs, .inl (k_t_vs, 10, .inl t_vs)) :: (h_t_ds, .inl (k_t_ds, 10, .inl t_ds)) :: R) := hD
                        refine lv_if_ne (tgt := 199) hx hb dX12_value_194 (by decide) (fun c22 => ?_) (fun c22 => ?_)
                        · have h := br_neg c22 h
                          refine lv_aload_n hx hb dX12_value_199 rfl (lv_at hl 9 rfl) ?_
                          refine va_get (D := D) (ci := 12) (v := .long t_u_c187_19) (C := RX12) (T := TX12) (N := 61) hx hb ha ix12 hown hK hP 0 rfl rfl 10 (by decide) (ha _ q970) (fun _ h9 => h9) rfl dX12_value_200 ?_
                          refine lv_lstore (lv' := [(11, .long t_u_c187_19), (19, .long t_v_c147_15), (17, .long t_u_c147_15), (15, .long t_d_c99_11), (13, .long t_v_c99_11), (9, .long t_d_c54_7), (7, .long t_v_c54_7), (5, .long t_u_c54_7), (4, .int r_c6_0), (0, .ref h_t), (1, .int l1), (2, .int l2), (3, .int l3)]) hx hb dX12_value_203 hl (by decide) rfl (fun ls hl => ?_)
                          refine lv_aload_n hx hb dX12_value_205 rfl (lv_at hl 9 rfl) ?_
                          refine va_get (D := D) (ci := 12) (v := .long t_v_c187_19) (C := RX12) (T := TX12) (N := 61) hx hb ha ix12 hown hK hP 0 rfl rfl 11 (by decide) (ha _ q971) (fun _ h9 => h9) rfl dX12_value_206 ?_
                          refine lv_lstore (lv' := [(13, .long t_v_c187_19), (11, .long t_u_c187_19), (19, .long t_v_c147_15), (17, .long t_u_c147_15), (15, .long t_d_c99_11), (9, .long t_d_c54_7), (7, .long t_v_c54_7), (5, .long t_u_c54_7), (4, .int r_c6_0), (0, .ref h_t), (1, .int l1), (2, .int l2), (3, .int l3)]) hx hb dX12_value_209 hl (by decide) rfl (fun ls hl => ?_)
                          refine lv_aload_n hx hb dX12_value_211 rfl (lv_at hl 9 rfl) ?_
                          refine va_get (D := D) (ci := 12) (v := .long t_d_c187_19) (C := RX12) (T := TX12) (N := 61) hx hb ha ix12 hown hK hP 0 rfl rfl 12 (by decide) (ha _ q972) (fun _ h9 => h9) rfl dX12_value_212 ?_
                          refine lv_lstore (lv' := [(15, .long t_d_c187_19), (13, .long t_v_c187_19), (11, .long t_u_c187_19), (19, .long t_v_c147_15), (17, .long t_u_c147_15), (9, .long t_d_c54_7), (7, .long t_v_c54_7), (5, .long t_u_c54_7), (4, .int r_c6_0), (0, .ref h_t), (1, .int l1), (2, .int l2), (3, .int l3)]) hx hb dX12_value_215 hl (by decide) rfl (fun ls hl => ?_)
                          refine lv_aload_n hx hb dX12_value_217 rfl (lv_at hl 9 rfl) ?_
                          refine lv_iload_n hx hb dX12_value_218 rfl (lv_at hl 12 rfl) ?_
                          refine lv_iload_n hx hb dX12_value_219 rfl (lv_at hl 11 rfl) ?_
                          refine lv_isub hx hb dX12_value_220 ?_
                          obtain ⟨r_c221_22, t_u_c221_22, t_v_c221_22, t_d_c221_22, e_c221_22, h⟩ := bnd4_ok h
                          refine cl_z (rn_v (ci := 12) (As := [.int (l3 - l2)]) (rest := []) S (c_X12_power l D ((h_t_tape, .inl (k_t_tape, 200, .inl t_tape)) :: (h_t_has, .inl (k_t_has, 10, .inl t_has)) :: (h_t_us, .inl (k_t_us, 10, .inl t_us)) :: (h_t_vs, .inl (k_t_vs, 10, .inl t_vs)) :: (h_t_ds, .inl (k_t_ds, 10, .inl t_ds)) :: R) h_t (.int 0) (.ref h_t_tape) (.int t_length_c6_0) t_a t_b (z_t_5) (.ref h_t_has) (.ref h_t_us) (.ref h_t_vs) (.ref h_t_ds) t_u_c187_19 t_v_c187_19 t_d_c187_19 (z_t_13) (z_t_14) (z_t_15) (z_t_16) (z_t_17) (z_t_18) (z_t_19) (z_t_20) (z_t_21) (.long t_sumU_c99_11) (.long t_sumV_c99_11) (.long t_sumD_c99_11) (z_t_25) (z_t_26) (z_t_27) (z_t_28) (z_t_29) (z_t_30) (z_t_31) (z_t_32) (z_t_33) (z_t_34) (z_t_35) (z_t_36) (z_t_37) (z_t_38) (z_t_39) (z_t_40) (z_t_41) (z_t_42) (z_t_43) (z_t_44) (z_t_45) (z_t_46) (z_t_47) (z_t_48) (z_t_49) (z_t_50) (z_t_51) (z_t_52) (z_t_53) (z_t_54) (z_t_55) (z_t_56) (z_t_57) (z_t_58) (z_t_59) (z_t_60) (l3 - l2) r_c221_22 t_u_c221_22 t_v_c221_22 t_d_c221_22 e_c221_22 _) q1263 q1265 q40 q61 q1266 nd_X12_power ⟨Nat.le_of_ble_eq_true rfl, Nat.le_of_ble_eq_true rfl⟩ rfl rfl hP hD (hK.sub (tys' := []) [] rfl) hN rfl ⟨0, _, rfl⟩ rfl hl.1 rfl (Nat.le_of_ble_eq_true rfl) dX12_value_221 ⟨Nat.le_of_ble_eq_true rfl, Nat.le_of_ble_eq_true rfl⟩) hS hA hD (fun H locs hP hD hS z_c221_22 => ?_)
                          have hP : va_P D vwCl ((h_t, .inr (12, (.int 0 :: .ref h_t_tape :: .int t_length_c6_0 :: .int t_a :: .int t_b :: z_t_5 :: .ref h_t_has :: .ref h_t_us :: .ref h_t_vs :: .ref h_t_ds :: .long t_u_c221_22 :: .long t_v_c221_22 :: .long t_d_c221_22 :: z_t_13 :: z_t_14 :: z_t_15 :: z_t_16 :: z_t_17 :: z_t_18 :: z_t_19 :: z_t_20 :: z_t_21 :: .long t_sumU_c99_11 :: .long t_sumV_c99_11 :: .long t_sumD_c99_11 :: z_t_25 :: z_t_26 :: z_t_27 :: z_t_28 :: z_t_29 :: z_t_30 :: z_t_31 :: z_t_32 :: z_t_33 :: z_t_34 :: z_t_35 :: z_t_36 :: z_t_37 :: z_t_38 :: z_t_39 :: z_t_40 :: z_t_41 :: z_t_42 :: z_t_43 :: z_t_44 :: z_t_45 :: z_t_46 :: z_t_47 :: z_t_48 :: z_t_49 :: z_t_50 :: z_t_51 :: z_t_52 :: z_t_53 :: z_t_54 :: z_t_55 :: z_t_56 :: z_t_57 :: z_t_58 :: z_t_59 :: z_t_60 :: []))) :: (h_t_tape, .inl (k_t_tape, 200, .inl t_tape)) :: (h_t_has, .inl (k_t_has, 10, .inl t_has)) :: (h_t_us, .inl (k_t_us, 10, .inl t_us)) :: (h_t_vs, .inl (k_t_vs, 10, .inl t_vs)) :: (h_t_ds, .inl (k_t_ds, 10, .inl t_ds)) :: R) H := hP
                          have hD : va_D A ((h_t, .inr (12, (.int 0 :: .ref h_t_tape :: .int t_length_c6_0 :: .int t_a :: .int t_b :: z_t_5 :: .ref h_t_has :: .ref h_t_us :: .ref h_t_vs :: .ref h_t_ds :: .long t_u_c221_22 :: .long t_v_c221_22 :: .long t_d_c221_22 :: z_t_13 :: z_t_14 :: z_t_15 :: z_t_16 :: z_t_17 :: z_t_18 :: z_t_19 :: z_t_20 :: z_t_21 :: .long t_sumU_c99_11 :: .long t_sumV_c99_11 :: .long t_sumD_c99_11 :: z_t_25 :: z_t_26 :: z_t_27 :: z_t_28 :: z_t_29 :: z_t_30 :: z_t_31 :: z_t_32 :: z_t_33 :: z_t_34 :: z_t_35 :: z_t_36 :: z_t_37 :: z_t_38 :: z_t_39 :: z_t_40 :: z_t_41 :: z_t_42 :: z_t_43 :: z_t_44 :: z_t_45 :: z_t_46 :: z_t_47 :: z_t_48 :: z_t_49 :: z_t_50 :: z_t_51 :: z_t_52 :: z_t_53 :: z_t_54 :: z_t_55 :: z_t_56 :: z_t_57 :: z_t_58 :: z_t_59 :: z_t_60 :: []))) :: (h_t_tape, .inl (k_t_tape, 200, .inl t_tape)) :: (h_t_has, .inl (k_t_has, 10, .inl t_has)) :: (h_t_us, .inl (k_t_us, 10, .inl t_us)) :: (h_t_vs, .inl (k_t_vs, 10, .inl t_vs)) :: (h_t_ds, .inl (k_t_ds, 10, .inl t_ds)) :: R) := hD
                          refine lv_if_ne (tgt := 229) hx hb dX12_value_224 (by decide) (fun c24 => ?_) (fun c24 => ?_)
                          · have h := br_neg c24 h
                            refine lv_aload_n hx hb dX12_value_229 rfl (lv_at hl 9 rfl) ?_
                            refine lv_lload hx hb dX12_value_230 (lv_at hl 2 rfl) ?_
                            refine lv_lload hx hb dX12_value_232 (lv_at hl 1 rfl) ?_
                            refine lv_lload hx hb dX12_value_234 (lv_at hl 0 rfl) ?_
                            obtain ⟨t_u_c236_24, t_v_c236_24, t_d_c236_24, e_c236_24, h⟩ := bnd3_ok h
                            refine cl_v (rn_v (ci := 12) (As := [.long t_u_c187_19, .long t_v_c187_19, .long t_d_c187_19]) (rest := []) S (c_X12_times l D ((h_t_tape, .inl (k_t_tape, 200, .inl t_tape)) :: (h_t_has, .inl (k_t_has, 10, .inl t_has)) :: (h_t_us, .inl (k_t_us, 10, .inl t_us)) :: (h_t_vs, .inl (k_t_vs, 10, .inl t_vs)) :: (h_t_ds, .inl (k_t_ds, 10, .inl t_ds)) :: R) h_t (.int 0) (.ref h_t_tape) (.int t_length_c6_0) t_a t_b (z_t_5) (.ref h_t_has) (.ref h_t_us) (.ref h_t_vs) (.ref h_t_ds) t_u_c221_22 t_v_c221_22 t_d_c221_22 (z_t_13) (z_t_14) (z_t_15) (z_t_16) (z_t_17) (z_t_18) (z_t_19) (z_t_20) (z_t_21) (.long t_sumU_c99_11) (.long t_sumV_c99_11) (.long t_sumD_c99_11) (z_t_25) (z_t_26) (z_t_27) (z_t_28) (z_t_29) (z_t_30) (z_t_31) (z_t_32) (z_t_33) (z_t_34) (z_t_35) (z_t_36) (z_t_37) (z_t_38) (z_t_39) (z_t_40) (z_t_41) (z_t_42) (z_t_43) (z_t_44) (z_t_45) (z_t_46) (z_t_47) (z_t_48) (z_t_49) (z_t_50) (z_t_51) (z_t_52) (z_t_53) (z_t_54) (z_t_55) (z_t_56) (z_t_57) (z_t_58) (z_t_59) (z_t_60) t_u_c187_19 t_v_c187_19 t_d_c187_19 t_u_c236_24 t_v_c236_24 t_d_c236_24 e_c236_24 _) q1202 q1204 q32 q61 q1205 nd_X12_times ⟨Nat.le_of_ble_eq_true rfl, Nat.le_of_ble_eq_true rfl⟩ rfl rfl hP hD (hK.sub (tys' := []) [] rfl) hN rfl ⟨0, _, rfl⟩ rfl hl.1 rfl (Nat.le_of_ble_eq_true rfl) dX12_value_236 ⟨Nat.le_of_ble_eq_true rfl, Nat.le_of_ble_eq_true rfl⟩) hS hA hD (fun H locs hP hD hS => ?_)
                            have hP : va_P D vwCl ((h_t, .inr (12, (.int 0 :: .ref h_t_tape :: .int t_length_c6_0 :: .int t_a :: .int t_b :: z_t_5 :: .ref h_t_has :: .ref h_t_us :: .ref h_t_vs :: .ref h_t_ds :: .long t_u_c236_24 :: .long t_v_c236_24 :: .long t_d_c236_24 :: z_t_13 :: z_t_14 :: z_t_15 :: z_t_16 :: z_t_17 :: z_t_18 :: z_t_19 :: z_t_20 :: z_t_21 :: .long t_sumU_c99_11 :: .long t_sumV_c99_11 :: .long t_sumD_c99_11 :: z_t_25 :: z_t_26 :: z_t_27 :: z_t_28 :: z_t_29 :: z_t_30 :: z_t_31 :: z_t_32 :: z_t_33 :: z_t_34 :: z_t_35 :: z_t_36 :: z_t_37 :: z_t_38 :: z_t_39 :: z_t_40 :: z_t_41 :: z_t_42 :: z_t_43 :: z_t_44 :: z_t_45 :: z_t_46 :: z_t_47 :: z_t_48 :: z_t_49 :: z_t_50 :: z_t_51 :: z_t_52 :: z_t_53 :: z_t_54 :: z_t_55 :: z_t_56 :: z_t_57 :: z_t_58 :: z_t_59 :: z_t_60 :: []))) :: (h_t_tape, .inl (k_t_tape, 200, .inl t_tape)) :: (h_t_has, .inl (k_t_has, 10, .inl t_has)) :: (h_t_us, .inl (k_t_us, 10, .inl t_us)) :: (h_t_vs, .inl (k_t_vs, 10, .inl t_vs)) :: (h_t_ds, .inl (k_t_ds, 10, .inl t_ds)) :: R) H := hP
                            have hD : va_D A ((h_t, .inr (12, (.int 0 :: .ref h_t_tape :: .int t_length_c6_0 :: .int t_a :: .int t_b :: z_t_5 :: .ref h_t_has :: .ref h_t_us :: .ref h_t_vs :: .ref h_t_ds :: .long t_u_c236_24 :: .long t_v_c236_24 :: .long t_d_c236_24 :: z_t_13 :: z_t_14 :: z_t_15 :: z_t_16 :: z_t_17 :: z_t_18 :: z_t_19 :: z_t_20 :: z_t_21 :: .long t_sumU_c99_11 :: .long t_sumV_c99_11 :: .long t_sumD_c99_11 :: z_t_25 :: z_t_26 :: z_t_27 :: z_t_28 :: z_t_29 :: z_t_30 :: z_t_31 :: z_t_32 :: z_t_33 :: z_t_34 :: z_t_35 :: z_t_36 :: z_t_37 :: z_t_38 :: z_t_39 :: z_t_40 :: z_t_41 :: z_t_42 :: z_t_43 :: z_t_44 :: z_t_45 :: z_t_46 :: z_t_47 :: z_t_48 :: z_t_49 :: z_t_50 :: z_t_51 :: z_t_52 :: z_t_53 :: z_t_54 :: z_t_55 :: z_t_56 :: z_t_57 :: z_t_58 :: z_t_59 :: z_t_60 :: []))) :: (h_t_tape, .inl (k_t_tape, 200, .inl t_tape)) :: (h_t_has, .inl (k_t_has, 10, .inl t_has)) :: (h_t_us, .inl (k_t_us, 10, .inl t_us)) :: (h_t_vs, .inl (k_t_vs, 10, .inl t_vs)) :: (h_t_ds, .inl (k_t_ds, 10, .inl t_ds)) :: R) := hD
                            refine lv_aload_n hx hb dX12_value_239 rfl (lv_at hl 9 rfl) ?_
                            obtain ⟨r_c240_25, e_c240_25, h⟩ := bnd1_ok h
                            refine cl_z (rn_v (ci := 12) (As := []) (rest := []) S (c_X12_isNumber l D ((h_t_tape, .inl (k_t_tape, 200, .inl t_tape)) :: (h_t_has, .inl (k_t_has, 10, .inl t_has)) :: (h_t_us, .inl (k_t_us, 10, .inl t_us)) :: (h_t_vs, .inl (k_t_vs, 10, .inl t_vs)) :: (h_t_ds, .inl (k_t_ds, 10, .inl t_ds)) :: R) h_t (.int 0) (.ref h_t_tape) (.int t_length_c6_0) (.int t_a) (.int t_b) (z_t_5) (.ref h_t_has) (.ref h_t_us) (.ref h_t_vs) (.ref h_t_ds) t_u_c236_24 t_v_c236_24 t_d_c236_24 (z_t_13) (z_t_14) (z_t_15) (z_t_16) (z_t_17) (z_t_18) (z_t_19) (z_t_20) (z_t_21) (.long t_sumU_c99_11) (.long t_sumV_c99_11) (.long t_sumD_c99_11) (z_t_25) (z_t_26) (z_t_27) (z_t_28) (z_t_29) (z_t_30) (z_t_31) (z_t_32) (z_t_33) (z_t_34) (z_t_35) (z_t_36) (z_t_37) (z_t_38) (z_t_39) (z_t_40) (z_t_41) (z_t_42) (z_t_43) (z_t_44) (z_t_45) (z_t_46) (z_t_47) (z_t_48) (z_t_49) (z_t_50) (z_t_51) (z_t_52) (z_t_53) (z_t_54) (z_t_55) (z_t_56) (z_t_57) (z_t_58) (z_t_59) (z_t_60) r_c240_25 e_c240_25 _) q1183 q1185 q29 q61 q1186 nd_X12_isNumber ⟨Nat.le_of_ble_eq_true rfl, Nat.le_of_ble_eq_true rfl⟩ rfl rfl hP hD (hK.sub (tys' := []) [] rfl) hN rfl ⟨0, _, rfl⟩ rfl hl.1 rfl (Nat.le_of_ble_eq_true rfl) dX12_value_240 ⟨Nat.le_of_ble_eq_true rfl, Nat.le_of_ble_eq_true rfl⟩) hS hA hD (fun H locs hP hD hS z_c240_25 => ?_)
                            have hP : va_P D vwCl ((h_t, .inr (12, (.int 0 :: .ref h_t_tape :: .int t_length_c6_0 :: .int t_a :: .int t_b :: z_t_5 :: .ref h_t_has :: .ref h_t_us :: .ref h_t_vs :: .ref h_t_ds :: .long t_u_c236_24 :: .long t_v_c236_24 :: .long t_d_c236_24 :: z_t_13 :: z_t_14 :: z_t_15 :: z_t_16 :: z_t_17 :: z_t_18 :: z_t_19 :: z_t_20 :: z_t_21 :: .long t_sumU_c99_11 :: .long t_sumV_c99_11 :: .long t_sumD_c99_11 :: z_t_25 :: z_t_26 :: z_t_27 :: z_t_28 :: z_t_29 :: z_t_30 :: z_t_31 :: z_t_32 :: z_t_33 :: z_t_34 :: z_t_35 :: z_t_36 :: z_t_37 :: z_t_38 :: z_t_39 :: z_t_40 :: z_t_41 :: z_t_42 :: z_t_43 :: z_t_44 :: z_t_45 :: z_t_46 :: z_t_47 :: z_t_48 :: z_t_49 :: z_t_50 :: z_t_51 :: z_t_52 :: z_t_53 :: z_t_54 :: z_t_55 :: z_t_56 :: z_t_57 :: z_t_58 :: z_t_59 :: z_t_60 :: []))) :: (h_t_tape, .inl (k_t_tape, 200, .inl t_tape)) :: (h_t_has, .inl (k_t_has, 10, .inl t_has)) :: (h_t_us, .inl (k_t_us, 10, .inl t_us)) :: (h_t_vs, .inl (k_t_vs, 10, .inl t_vs)) :: (h_t_ds, .inl (k_t_ds, 10, .inl t_ds)) :: R) H := hP
                            have hD : va_D A ((h_t, .inr (12, (.int 0 :: .ref h_t_tape :: .int t_length_c6_0 :: .int t_a :: .int t_b :: z_t_5 :: .ref h_t_has :: .ref h_t_us :: .ref h_t_vs :: .ref h_t_ds :: .long t_u_c236_24 :: .long t_v_c236_24 :: .long t_d_c236_24 :: z_t_13 :: z_t_14 :: z_t_15 :: z_t_16 :: z_t_17 :: z_t_18 :: z_t_19 :: z_t_20 :: z_t_21 :: .long t_sumU_c99_11 :: .long t_sumV_c99_11 :: .long t_sumD_c99_11 :: z_t_25 :: z_t_26 :: z_t_27 :: z_t_28 :: z_t_29 :: z_t_30 :: z_t_31 :: z_t_32 :: z_t_33 :: z_t_34 :: z_t_35 :: z_t_36 :: z_t_37 :: z_t_38 :: z_t_39 :: z_t_40 :: z_t_41 :: z_t_42 :: z_t_43 :: z_t_44 :: z_t_45 :: z_t_46 :: z_t_47 :: z_t_48 :: z_t_49 :: z_t_50 :: z_t_51 :: z_t_52 :: z_t_53 :: z_t_54 :: z_t_55 :: z_t_56 :: z_t_57 :: z_t_58 :: z_t_59 :: z_t_60 :: []))) :: (h_t_tape, .inl (k_t_tape, 200, .inl t_tape)) :: (h_t_has, .inl (k_t_has, 10, .inl t_has)) :: (h_t_us, .inl (k_t_us, 10, .inl t_us)) :: (h_t_vs, .inl (k_t_vs, 10, .inl t_vs)) :: (h_t_ds, .inl (k_t_ds, 10, .inl t_ds)) :: R) := hD
                            refine lv_if_ne (tgt := 248) hx hb dX12_value_243 (by decide) (fun c27 => ?_) (fun c27 => ?_)
                            · have h := br_neg c27 h
                              refine lv_aload_n hx hb dX12_value_248 rfl (lv_at hl 9 rfl) ?_
                              refine lv_lload hx hb dX12_value_249 (lv_at hl 7 rfl) ?_
                              refine lv_lload hx hb dX12_value_251 (lv_at hl 6 rfl) ?_
                              refine lv_lload hx hb dX12_value_253 (lv_at hl 5 rfl) ?_
                              obtain ⟨t_u_c255_27, t_v_c255_27, t_d_c255_27, e_c255_27, h⟩ := bnd3_ok h
                              refine cl_v (rn_v (ci := 12) (As := [.long t_u_c54_7, .long t_v_c54_7, .long t_d_c54_7]) (rest := []) S (c_X12_plus l D ((h_t_tape, .inl (k_t_tape, 200, .inl t_tape)) :: (h_t_has, .inl (k_t_has, 10, .inl t_has)) :: (h_t_us, .inl (k_t_us, 10, .inl t_us)) :: (h_t_vs, .inl (k_t_vs, 10, .inl t_vs)) :: (h_t_ds, .inl (k_t_ds, 10, .inl t_ds)) :: R) h_t (.int 0) (.ref h_t_tape) (.int t_length_c6_0) (.int t_a) (.int t_b) (z_t_5) (.ref h_t_has) (.ref h_t_us) (.ref h_t_vs) (.ref h_t_ds) t_u_c236_24 t_v_c236_24 t_d_c236_24 (z_t_13) (z_t_14) (z_t_15) (z_t_16) (z_t_17) (z_t_18) (z_t_19) (z_t_20) (z_t_21) (.long t_sumU_c99_11) (.long t_sumV_c99_11) (.long t_sumD_c99_11) (z_t_25) (z_t_26) (z_t_27) (z_t_28) (z_t_29) (z_t_30) (z_t_31) (z_t_32) (z_t_33) (z_t_34) (z_t_35) (z_t_36) (z_t_37) (z_t_38) (z_t_39) (z_t_40) (z_t_41) (z_t_42) (z_t_43) (z_t_44) (z_t_45) (z_t_46) (z_t_47) (z_t_48) (z_t_49) (z_t_50) (z_t_51) (z_t_52) (z_t_53) (z_t_54) (z_t_55) (z_t_56) (z_t_57) (z_t_58) (z_t_59) (z_t_60) t_u_c54_7 t_v_c54_7 t_d_c54_7 t_u_c255_27 t_v_c255_27 t_d_c255_27 e_c255_27 _) q1198 q1200 q31 q61 q1201 nd_X12_plus ⟨Nat.le_of_ble_eq_true rfl, Nat.le_of_ble_eq_true rfl⟩ rfl rfl hP hD (hK.sub (tys' := []) [] rfl) hN rfl ⟨0, _, rfl⟩ rfl hl.1 rfl (Nat.le_of_ble_eq_true rfl) dX12_value_255 ⟨Nat.le_of_ble_eq_true rfl, Nat.le_of_ble_eq_true rfl⟩) hS hA hD (fun H locs hP hD hS => ?_)
                              have hP : va_P D vwCl ((h_t, .inr (12, (.int 0 :: .ref h_t_tape :: .int t_length_c6_0 :: .int t_a :: .int t_b :: z_t_5 :: .ref h_t_has :: .ref h_t_us :: .ref h_t_vs :: .ref h_t_ds :: .long t_u_c255_27 :: .long t_v_c255_27 :: .long t_d_c255_27 :: z_t_13 :: z_t_14 :: z_t_15 :: z_t_16 :: z_t_17 :: z_t_18 :: z_t_19 :: z_t_20 :: z_t_21 :: .long t_sumU_c99_11 :: .long t_sumV_c99_11 :: .long t_sumD_c99_11 :: z_t_25 :: z_t_26 :: z_t_27 :: z_t_28 :: z_t_29 :: z_t_30 :: z_t_31 :: z_t_32 :: z_t_33 :: z_t_34 :: z_t_35 :: z_t_36 :: z_t_37 :: z_t_38 :: z_t_39 :: z_t_40 :: z_t_41 :: z_t_42 :: z_t_43 :: z_t_44 :: z_t_45 :: z_t_46 :: z_t_47 :: z_t_48 :: z_t_49 :: z_t_50 :: z_t_51 :: z_t_52 :: z_t_53 :: z_t_54 :: z_t_55 :: z_t_56 :: z_t_57 :: z_t_58 :: z_t_59 :: z_t_60 :: []))) :: (h_t_tape, .inl (k_t_tape, 200, .inl t_tape)) :: (h_t_has, .inl (k_t_has, 10, .inl t_has)) :: (h_t_us, .inl (k_t_us, 10, .inl t_us)) :: (h_t_vs, .inl (k_t_vs, 10, .inl t_vs)) :: (h_t_ds, .inl (k_t_ds, 10, .inl t_ds)) :: R) H := hP
                              have hD : va_D A ((h_t, .inr (12, (.int 0 :: .ref h_t_tape :: .int t_length_c6_0 :: .int t_a :: .int t_b :: z_t_5 :: .ref h_t_has :: .ref h_t_us :: .ref h_t_vs :: .ref h_t_ds :: .long t_u_c255_27 :: .long t_v_c255_27 :: .long t_d_c255_27 :: z_t_13 :: z_t_14 :: z_t_15 :: z_t_16 :: z_t_17 :: z_t_18 :: z_t_19 :: z_t_20 :: z_t_21 :: .long t_sumU_c99_11 :: .long t_sumV_c99_11 :: .long t_sumD_c99_11 :: z_t_25 :: z_t_26 :: z_t_27 :: z_t_28 :: z_t_29 :: z_t_30 :: z_t_31 :: z_t_32 :: z_t_33 :: z_t_34 :: z_t_35 :: z_t_36 :: z_t_37 :: z_t_38 :: z_t_39 :: z_t_40 :: z_t_41 :: z_t_42 :: z_t_43 :: z_t_44 :: z_t_45 :: z_t_46 :: z_t_47 :: z_t_48 :: z_t_49 :: z_t_50 :: z_t_51 :: z_t_52 :: z_t_53 :: z_t_54 :: z_t_55 :: z_t_56 :: z_t_57 :: z_t_58 :: z_t_59 :: z_t_60 :: []))) :: (h_t_tape, .inl (k_t_tape, 200, .inl t_tape)) :: (h_t_has, .inl (k_t_has, 10, .inl t_has)) :: (h_t_us, .inl (k_t_us, 10, .inl t_us)) :: (h_t_vs, .inl (k_t_vs, 10, .inl t_vs)) :: (h_t_ds, .inl (k_t_ds, 10, .inl t_ds)) :: R) := hD
                              refine lv_aload_n hx hb dX12_value_258 rfl (lv_at hl 9 rfl) ?_
                              refine lv_iload_n hx hb dX12_value_259 rfl (lv_at hl 10 rfl) ?_
                              obtain ⟨r_c260_28, t_has_c260_28, t_us_c260_28, t_vs_c260_28, t_ds_c260_28, e_c260_28, h⟩ := bnd5_ok h
                              have hP : va_P D vwCl ((h_t, .inr (12, (.int 0 :: .ref h_t_tape :: .int t_length_c6_0 :: .int t_a :: .int t_b :: z_t_5 :: .ref h_t_has :: .ref h_t_us :: .ref h_t_vs :: .ref h_t_ds :: .long t_u_c255_27 :: .long t_v_c255_27 :: .long t_d_c255_27 :: z_t_13 :: z_t_14 :: z_t_15 :: z_t_16 :: z_t_17 :: z_t_18 :: z_t_19 :: z_t_20 :: z_t_21 :: .long t_sumU_c99_11 :: .long t_sumV_c99_11 :: .long t_sumD_c99_11 :: z_t_25 :: z_t_26 :: z_t_27 :: z_t_28 :: z_t_29 :: z_t_30 :: z_t_31 :: z_t_32 :: z_t_33 :: z_t_34 :: z_t_35 :: z_t_36 :: z_t_37 :: z_t_38 :: z_t_39 :: z_t_40 :: z_t_41 :: z_t_42 :: z_t_43 :: z_t_44 :: z_t_45 :: z_t_46 :: z_t_47 :: z_t_48 :: z_t_49 :: z_t_50 :: z_t_51 :: z_t_52 :: z_t_53 :: z_t_54 :: z_t_55 :: z_t_56 :: z_t_57 :: z_t_58 :: z_t_59 :: z_t_60 :: []))) :: (h_t_has, .inl (k_t_has, 10, .inl t_has)) :: (h_t_us, .inl (k_t_us, 10, .inl t_us)) :: (h_t_vs, .inl (k_t_vs, 10, .inl t_vs)) :: (h_t_ds, .inl (k_t_ds, 10, .inl t_ds)) :: (h_t_tape, .inl (k_t_tape, 200, .inl t_tape)) :: R) _ := pm_P [0, 2, 3, 4, 5, 1] 6 hP
                              have hD : va_D A ((h_t, .inr (12, (.int 0 :: .ref h_t_tape :: .int t_length_c6_0 :: .int t_a :: .int t_b :: z_t_5 :: .ref h_t_has :: .ref h_t_us :: .ref h_t_vs :: .ref h_t_ds :: .long t_u_c255_27 :: .long t_v_c255_27 :: .long t_d_c255_27 :: z_t_13 :: z_t_14 :: z_t_15 :: z_t_16 :: z_t_17 :: z_t_18 :: z_t_19 :: z_t_20 :: z_t_21 :: .long t_sumU_c99_11 :: .long t_sumV_c99_11 :: .long t_sumD_c99_11 :: z_t_25 :: z_t_26 :: z_t_27 :: z_t_28 :: z_t_29 :: z_t_30 :: z_t_31 :: z_t_32 :: z_t_33 :: z_t_34 :: z_t_35 :: z_t_36 :: z_t_37 :: z_t_38 :: z_t_39 :: z_t_40 :: z_t_41 :: z_t_42 :: z_t_43 :: z_t_44 :: z_t_45 :: z_t_46 :: z_t_47 :: z_t_48 :: z_t_49 :: z_t_50 :: z_t_51 :: z_t_52 :: z_t_53 :: z_t_54 :: z_t_55 :: z_t_56 :: z_t_57 :: z_t_58 :: z_t_59 :: z_t_60 :: []))) :: (h_t_has, .inl (k_t_has, 10, .inl t_has)) :: (h_t_us, .inl (k_t_us, 10, .inl t_us)) :: (h_t_vs, .inl (k_t_vs, 10, .inl t_vs)) :: (h_t_ds, .inl (k_t_ds, 10, .inl t_ds)) :: (h_t_tape, .inl (k_t_tape, 200, .inl t_tape)) :: R) := pm_D (X := [(h_t, .inr (12, (.int 0 :: .ref h_t_tape :: .int t_length_c6_0 :: .int t_a :: .int t_b :: z_t_5 :: .ref h_t_has :: .ref h_t_us :: .ref h_t_vs :: .ref h_t_ds :: .long t_u_c255_27 :: .long t_v_c255_27 :: .long t_d_c255_27 :: z_t_13 :: z_t_14 :: z_t_15 :: z_t_16 :: z_t_17 :: z_t_18 :: z_t_19 :: z_t_20 :: z_t_21 :: .long t_sumU_c99_11 :: .long t_sumV_c99_11 :: .long t_sumD_c99_11 :: z_t_25 :: z_t_26 :: z_t_27 :: z_t_28 :: z_t_29 :: z_t_30 :: z_t_31 :: z_t_32 :: z_t_33 :: z_t_34 :: z_t_35 :: z_t_36 :: z_t_37 :: z_t_38 :: z_t_39 :: z_t_40 :: z_t_41 :: z_t_42 :: z_t_43 :: z_t_44 :: z_t_45 :: z_t_46 :: z_t_47 :: z_t_48 :: z_t_49 :: z_t_50 :: z_t_51 :: z_t_52 :: z_t_53 :: z_t_54 :: z_t_55 :: z_t_56 :: z_t_57 :: z_t_58 :: z_t_59 :: z_t_60 :: []))), (h_t_has, .inl (k_t_has, 10, .inl t_has)), (h_t_us, .inl (k_t_us, 10, .inl t_us)), (h_t_vs, .inl (k_t_vs, 10, .inl t_vs)), (h_t_ds, .inl (k_t_ds, 10, .inl t_ds)), (h_t_tape, .inl (k_t_tape, 200, .inl t_tape))]) [0, 2, 3, 4, 5, 1] 6 (by decide) (by decide) rfl hD
                              refine cl_z (rn_v (ci := 12) (As := [.int l1]) (rest := []) S (c_X12_put l D ((h_t_tape, .inl (k_t_tape, 200, .inl t_tape)) :: R) h_t (.int 0) (.ref h_t_tape) (.int t_length_c6_0) (.int t_a) (.int t_b) (z_t_5) t_u_c255_27 t_v_c255_27 t_d_c255_27 (z_t_13) (z_t_14) (z_t_15) (z_t_16) (z_t_17) (z_t_18) (z_t_19) (z_t_20) (z_t_21) (.long t_sumU_c99_11) (.long t_sumV_c99_11) (.long t_sumD_c99_11) (z_t_25) (z_t_26) (z_t_27) (z_t_28) (z_t_29) (z_t_30) (z_t_31) (z_t_32) (z_t_33) (z_t_34) (z_t_35) (z_t_36) (z_t_37) (z_t_38) (z_t_39) (z_t_40) (z_t_41) (z_t_42) (z_t_43) (z_t_44) (z_t_45) (z_t_46) (z_t_47) (z_t_48) (z_t_49) (z_t_50) (z_t_51) (z_t_52) (z_t_53) (z_t_54) (z_t_55) (z_t_56) (z_t_57) (z_t_58) (z_t_59) (z_t_60) h_t_has k_t_has t_has h_t_us k_t_us t_us h_t_vs k_t_vs t_vs h_t_ds k_t_ds t_ds l1 r_c260_28 t_has_c260_28 t_us_c260_28 t_vs_c260_28 t_ds_c260_28 e_c260_28 _) q1179 q1181 q28 q61 q1182 nd_X12_put ⟨Nat.le_of_ble_eq_true rfl, Nat.le_of_ble_eq_true rfl⟩ rfl rfl hP hD (hK.sub (tys' := [(k_t_has, .boolean), (k_t_us, .int), (k_t_vs, .int), (k_t_ds, .int)]) [1, 2, 3, 4] rfl) hN rfl ⟨0, _, rfl⟩ rfl hl.1 rfl (Nat.le_of_ble_eq_true rfl) dX12_value_260 ⟨Nat.le_of_ble_eq_true rfl, Nat.le_of_ble_eq_true rfl⟩) hS hA hD (fun H locs hP hD hS z_c260_28 => ?_)
                              have hP : va_P D vwCl ((h_t, .inr (12, (.int 0 :: .ref h_t_tape :: .int t_length_c6_0 :: .int t_a :: .int t_b :: z_t_5 :: .ref h_t_has :: .ref h_t_us :: .ref h_t_vs :: .ref h_t_ds :: .long t_u_c255_27 :: .long t_v_c255_27 :: .long t_d_c255_27 :: z_t_13 :: z_t_14 :: z_t_15 :: z_t_16 :: z_t_17 :: z_t_18 :: z_t_19 :: z_t_20 :: z_t_21 :: .long t_sumU_c99_11 :: .long t_sumV_c99_11 :: .long t_sumD_c99_11 :: z_t_25 :: z_t_26 :: z_t_27 :: z_t_28 :: z_t_29 :: z_t_30 :: z_t_31 :: z_t_32 :: z_t_33 :: z_t_34 :: z_t_35 :: z_t_36 :: z_t_37 :: z_t_38 :: z_t_39 :: z_t_40 :: z_t_41 :: z_t_42 :: z_t_43 :: z_t_44 :: z_t_45 :: z_t_46 :: z_t_47 :: z_t_48 :: z_t_49 :: z_t_50 :: z_t_51 :: z_t_52 :: z_t_53 :: z_t_54 :: z_t_55 :: z_t_56 :: z_t_57 :: z_t_58 :: z_t_59 :: z_t_60 :: []))) :: (h_t_tape, .inl (k_t_tape, 200, .inl t_tape)) :: (h_t_has, .inl (k_t_has, 10, .inl t_has_c260_28)) :: (h_t_us, .inl (k_t_us, 10, .inl t_us_c260_28)) :: (h_t_vs, .inl (k_t_vs, 10, .inl t_vs_c260_28)) :: (h_t_ds, .inl (k_t_ds, 10, .inl t_ds_c260_28)) :: R) H := pm_P [0, 5, 1, 2, 3, 4] 6 hP
                              have hD : va_D A ((h_t, .inr (12, (.int 0 :: .ref h_t_tape :: .int t_length_c6_0 :: .int t_a :: .int t_b :: z_t_5 :: .ref h_t_has :: .ref h_t_us :: .ref h_t_vs :: .ref h_t_ds :: .long t_u_c255_27 :: .long t_v_c255_27 :: .long t_d_c255_27 :: z_t_13 :: z_t_14 :: z_t_15 :: z_t_16 :: z_t_17 :: z_t_18 :: z_t_19 :: z_t_20 :: z_t_21 :: .long t_sumU_c99_11 :: .long t_sumV_c99_11 :: .long t_sumD_c99_11 :: z_t_25 :: z_t_26 :: z_t_27 :: z_t_28 :: z_t_29 :: z_t_30 :: z_t_31 :: z_t_32 :: z_t_33 :: z_t_34 :: z_t_35 :: z_t_36 :: z_t_37 :: z_t_38 :: z_t_39 :: z_t_40 :: z_t_41 :: z_t_42 :: z_t_43 :: z_t_44 :: z_t_45 :: z_t_46 :: z_t_47 :: z_t_48 :: z_t_49 :: z_t_50 :: z_t_51 :: z_t_52 :: z_t_53 :: z_t_54 :: z_t_55 :: z_t_56 :: z_t_57 :: z_t_58 :: z_t_59 :: z_t_60 :: []))) :: (h_t_tape, .inl (k_t_tape, 200, .inl t_tape)) :: (h_t_has, .inl (k_t_has, 10, .inl t_has_c260_28)) :: (h_t_us, .inl (k_t_us, 10, .inl t_us_c260_28)) :: (h_t_vs, .inl (k_t_vs, 10, .inl t_vs_c260_28)) :: (h_t_ds, .inl (k_t_ds, 10, .inl t_ds_c260_28)) :: R) := pm_D (X := [(h_t, .inr (12, (.int 0 :: .ref h_t_tape :: .int t_length_c6_0 :: .int t_a :: .int t_b :: z_t_5 :: .ref h_t_has :: .ref h_t_us :: .ref h_t_vs :: .ref h_t_ds :: .long t_u_c255_27 :: .long t_v_c255_27 :: .long t_d_c255_27 :: z_t_13 :: z_t_14 :: z_t_15 :: z_t_16 :: z_t_17 :: z_t_18 :: z_t_19 :: z_t_20 :: z_t_21 :: .long t_sumU_c99_11 :: .long t_sumV_c99_11 :: .long t_sumD_c99_11 :: z_t_25 :: z_t_26 :: z_t_27 :: z_t_28 :: z_t_29 :: z_t_30 :: z_t_31 :: z_t_32 :: z_t_33 :: z_t_34 :: z_t_35 :: z_t_36 :: z_t_37 :: z_t_38 :: z_t_39 :: z_t_40 :: z_t_41 :: z_t_42 :: z_t_43 :: z_t_44 :: z_t_45 :: z_t_46 :: z_t_47 :: z_t_48 :: z_t_49 :: z_t_50 :: z_t_51 :: z_t_52 :: z_t_53 :: z_t_54 :: z_t_55 :: z_t_56 :: z_t_57 :: z_t_58 :: z_t_59 :: z_t_60 :: []))), (h_t_tape, .inl (k_t_tape, 200, .inl t_tape)), (h_t_has, .inl (k_t_has, 10, .inl t_has_c260_28)), (h_t_us, .inl (k_t_us, 10, .inl t_us_c260_28)), (h_t_vs, .inl (k_t_vs, 10, .inl t_vs_c260_28)), (h_t_ds, .inl (k_t_ds, 10, .inl t_ds_c260_28))]) [0, 5, 1, 2, 3, 4] 6 (by decide) (by decide) rfl hD
                              cases h
                              exact rt_z S hr hlk hP hD hS z_c260_28 dX12_value_263
                            · have h := br_pos c27 h
                              refine lv_iconst (v := 0) hx hb dX12_value_246 (by decide) ?_
                              cases h
                              exact rt_z S hr hlk hP hD hS (by decide) dX12_value_247
                          · have h := br_pos c24 h
                            refine lv_iconst (v := 0) hx hb dX12_value_227 (by decide) ?_
                            cases h
                            exact rt_z S hr hlk hP hD hS (by decide) dX12_value_228
                        · have h := br_pos c22 h
                          refine lv_iconst (v := 0) hx hb dX12_value_197 (by decide) ?_
                          cases h
                          exact rt_z S hr hlk hP hD hS (by decide) dX12_value_198
                      · have h := br_pos c18 h
                        refine lv_iconst (v := 0) hx hb dX12_value_157 (by decide) ?_
                        cases h
                        exact rt_z S hr hlk hP hD hS (by decide) dX12_value_158
                    · have h := br_pos c15 h
                      refine lv_iconst (v := 0) hx hb dX12_value_133 (by decide) ?_
                      cases h
                      exact rt_z S hr hlk hP hD hS (by decide) dX12_value_134
                  · have h := br_pos c13 h
                    refine lv_iconst (v := 0) hx hb dX12_value_105 (by decide) ?_
                    cases h
                    exact rt_z S hr hlk hP hD hS (by decide) dX12_value_106
                · have h := br_pos c10 h
                  refine lv_aload_n hx hb dX12_value_66 rfl (lv_at hl 1 rfl) ?_
                  refine lv_iload_n hx hb dX12_value_67 rfl (lv_at hl 2 rfl) ?_
                  obtain ⟨r_c68_10, t_has_c68_10, t_us_c68_10, t_vs_c68_10, t_ds_c68_10, e_c68_10, h⟩ := bnd5_ok h
                  have hP : va_P D vwCl ((h_t, .inr (12, (.int 0 :: .ref h_t_tape :: .int t_length_c6_0 :: .int t_a :: .int t_b :: z_t_5 :: .ref h_t_has :: .ref h_t_us :: .ref h_t_vs :: .ref h_t_ds :: .long t_u_c54_7 :: .long t_v_c54_7 :: .long t_d_c54_7 :: z_t_13 :: z_t_14 :: z_t_15 :: z_t_16 :: z_t_17 :: z_t_18 :: z_t_19 :: z_t_20 :: z_t_21 :: .long t_sumU_c54_7 :: .long t_sumV_c54_7 :: .long t_sumD_c54_7 :: z_t_25 :: z_t_26 :: z_t_27 :: z_t_28 :: z_t_29 :: z_t_30 :: z_t_31 :: z_t_32 :: z_t_33 :: z_t_34 :: z_t_35 :: z_t_36 :: z_t_37 :: z_t_38 :: z_t_39 :: z_t_40 :: z_t_41 :: z_t_42 :: z_t_43 :: z_t_44 :: z_t_45 :: z_t_46 :: z_t_47 :: z_t_48 :: z_t_49 :: z_t_50 :: z_t_51 :: z_t_52 :: z_t_53 :: z_t_54 :: z_t_55 :: z_t_56 :: z_t_57 :: z_t_58 :: z_t_59 :: z_t_60 :: []))) :: (h_t_has, .inl (k_t_has, 10, .inl t_has)) :: (h_t_us, .inl (k_t_us, 10, .inl t_us)) :: (h_t_vs, .inl (k_t_vs, 10, .inl t_vs)) :: (h_t_ds, .inl (k_t_ds, 10, .inl t_ds)) :: (h_t_tape, .inl (k_t_tape, 200, .inl t_tape)) :: R) _ := pm_P [0, 2, 3, 4, 5, 1] 6 hP
                  have hD : va_D A ((h_t, .inr (12, (.int 0 :: .ref h_t_tape :: .int t_length_c6_0 :: .int t_a :: .int t_b :: z_t_5 :: .ref h_t_has :: .ref h_t_us :: .ref h_t_vs :: .ref h_t_ds :: .long t_u_c54_7 :: .long t_v_c54_7 :: .long t_d_c54_7 :: z_t_13 :: z_t_14 :: z_t_15 :: z_t_16 :: z_t_17 :: z_t_18 :: z_t_19 :: z_t_20 :: z_t_21 :: .long t_sumU_c54_7 :: .long t_sumV_c54_7 :: .long t_sumD_c54_7 :: z_t_25 :: z_t_26 :: z_t_27 :: z_t_28 :: z_t_29 :: z_t_30 :: z_t_31 :: z_t_32 :: z_t_33 :: z_t_34 :: z_t_35 :: z_t_36 :: z_t_37 :: z_t_38 :: z_t_39 :: z_t_40 :: z_t_41 :: z_t_42 :: z_t_43 :: z_t_44 :: z_t_45 :: z_t_46 :: z_t_47 :: z_t_48 :: z_t_49 :: z_t_50 :: z_t_51 :: z_t_52 :: z_t_53 :: z_t_54 :: z_t_55 :: z_t_56 :: z_t_57 :: z_t_58 :: z_t_59 :: z_t_60 :: []))) :: (h_t_has, .inl (k_t_has, 10, .inl t_has)) :: (h_t_us, .inl (k_t_us, 10, .inl t_us)) :: (h_t_vs, .inl (k_t_vs, 10, .inl t_vs)) :: (h_t_ds, .inl (k_t_ds, 10, .inl t_ds)) :: (h_t_tape, .inl (k_t_tape, 200, .inl t_tape)) :: R) := pm_D (X := [(h_t, .inr (12, (.int 0 :: .ref h_t_tape :: .int t_length_c6_0 :: .int t_a :: .int t_b :: z_t_5 :: .ref h_t_has :: .ref h_t_us :: .ref h_t_vs :: .ref h_t_ds :: .long t_u_c54_7 :: .long t_v_c54_7 :: .long t_d_c54_7 :: z_t_13 :: z_t_14 :: z_t_15 :: z_t_16 :: z_t_17 :: z_t_18 :: z_t_19 :: z_t_20 :: z_t_21 :: .long t_sumU_c54_7 :: .long t_sumV_c54_7 :: .long t_sumD_c54_7 :: z_t_25 :: z_t_26 :: z_t_27 :: z_t_28 :: z_t_29 :: z_t_30 :: z_t_31 :: z_t_32 :: z_t_33 :: z_t_34 :: z_t_35 :: z_t_36 :: z_t_37 :: z_t_38 :: z_t_39 :: z_t_40 :: z_t_41 :: z_t_42 :: z_t_43 :: z_t_44 :: z_t_45 :: z_t_46 :: z_t_47 :: z_t_48 :: z_t_49 :: z_t_50 :: z_t_51 :: z_t_52 :: z_t_53 :: z_t_54 :: z_t_55 :: z_t_56 :: z_t_57 :: z_t_58 :: z_t_59 :: z_t_60 :: []))), (h_t_has, .inl (k_t_has, 10, .inl t_has)), (h_t_us, .inl (k_t_us, 10, .inl t_us)), (h_t_vs, .inl (k_t_vs, 10, .inl t_vs)), (h_t_ds, .inl (k_t_ds, 10, .inl t_ds)), (h_t_tape, .inl (k_t_tape, 200, .inl t_tape))]) [0, 2, 3, 4, 5, 1] 6 (by decide) (by decide) rfl hD
                  refine cl_z (rn_v (ci := 12) (As := [.int l1]) (rest := []) S (c_X12_put l D ((h_t_tape, .inl (k_t_tape, 200, .inl t_tape)) :: R) h_t (.int 0) (.ref h_t_tape) (.int t_length_c6_0) (.int t_a) (.int t_b) (z_t_5) t_u_c54_7 t_v_c54_7 t_d_c54_7 (z_t_13) (z_t_14) (z_t_15) (z_t_16) (z_t_17) (z_t_18) (z_t_19) (z_t_20) (z_t_21) (.long t_sumU_c54_7) (.long t_sumV_c54_7) (.long t_sumD_c54_7) (z_t_25) (z_t_26) (z_t_27) (z_t_28) (z_t_29) (z_t_30) (z_t_31) (z_t_32) (z_t_33) (z_t_34) (z_t_35) (z_t_36) (z_t_37) (z_t_38) (z_t_39) (z_t_40) (z_t_41) (z_t_42) (z_t_43) (z_t_44) (z_t_45) (z_t_46) (z_t_47) (z_t_48) (z_t_49) (z_t_50) (z_t_51) (z_t_52) (z_t_53) (z_t_54) (z_t_55) (z_t_56) (z_t_57) (z_t_58) (z_t_59) (z_t_60) h_t_has k_t_has t_has h_t_us k_t_us t_us h_t_vs k_t_vs t_vs h_t_ds k_t_ds t_ds l1 r_c68_10 t_has_c68_10 t_us_c68_10 t_vs_c68_10 t_ds_c68_10 e_c68_10 _) q1179 q1181 q28 q61 q1182 nd_X12_put ⟨Nat.le_of_ble_eq_true rfl, Nat.le_of_ble_eq_true rfl⟩ rfl rfl hP hD (hK.sub (tys' := [(k_t_has, .boolean), (k_t_us, .int), (k_t_vs, .int), (k_t_ds, .int)]) [1, 2, 3, 4] rfl) hN rfl ⟨0, _, rfl⟩ rfl hl.1 rfl (Nat.le_of_ble_eq_true rfl) dX12_value_68 ⟨Nat.le_of_ble_eq_true rfl, Nat.le_of_ble_eq_true rfl⟩) hS hA hD (fun H locs hP hD hS z_c68_10 => ?_)
                  have hP : va_P D vwCl ((h_t, .inr (12, (.int 0 :: .ref h_t_tape :: .int t_length_c6_0 :: .int t_a :: .int t_b :: z_t_5 :: .ref h_t_has :: .ref h_t_us :: .ref h_t_vs :: .ref h_t_ds :: .long t_u_c54_7 :: .long t_v_c54_7 :: .long t_d_c54_7 :: z_t_13 :: z_t_14 :: z_t_15 :: z_t_16 :: z_t_17 :: z_t_18 :: z_t_19 :: z_t_20 :: z_t_21 :: .long t_sumU_c54_7 :: .long t_sumV_c54_7 :: .long t_sumD_c54_7 :: z_t_25 :: z_t_26 :: z_t_27 :: z_t_28 :: z_t_29 :: z_t_30 :: z_t_31 :: z_t_32 :: z_t_33 :: z_t_34 :: z_t_35 :: z_t_36 :: z_t_37 :: z_t_38 :: z_t_39 :: z_t_40 :: z_t_41 :: z_t_42 :: z_t_43 :: z_t_44 :: z_t_45 :: z_t_46 :: z_t_47 :: z_t_48 :: z_t_49 :: z_t_50 :: z_t_51 :: z_t_52 :: z_t_53 :: z_t_54 :: z_t_55 :: z_t_56 :: z_t_57 :: z_t_58 :: z_t_59 :: z_t_60 :: []))) :: (h_t_tape, .inl (k_t_tape, 200, .inl t_tape)) :: (h_t_has, .inl (k_t_has, 10, .inl t_has_c68_10)) :: (h_t_us, .inl (k_t_us, 10, .inl t_us_c68_10)) :: (h_t_vs, .inl (k_t_vs, 10, .inl t_vs_c68_10)) :: (h_t_ds, .inl (k_t_ds, 10, .inl t_ds_c68_10)) :: R) H := pm_P [0, 5, 1, 2, 3, 4] 6 hP
                  have hD : va_D A ((h_t, .inr (12, (.int 0 :: .ref h_t_tape :: .int t_length_c6_0 :: .int t_a :: .int t_b :: z_t_5 :: .ref h_t_has :: .ref h_t_us :: .ref h_t_vs :: .ref h_t_ds :: .long t_u_c54_7 :: .long t_v_c54_7 :: .long t_d_c54_7 :: z_t_13 :: z_t_14 :: z_t_15 :: z_t_16 :: z_t_17 :: z_t_18 :: z_t_19 :: z_t_20 :: z_t_21 :: .long t_sumU_c54_7 :: .long t_sumV_c54_7 :: .long t_sumD_c54_7 :: z_t_25 :: z_t_26 :: z_t_27 :: z_t_28 :: z_t_29 :: z_t_30 :: z_t_31 :: z_t_32 :: z_t_33 :: z_t_34 :: z_t_35 :: z_t_36 :: z_t_37 :: z_t_38 :: z_t_39 :: z_t_40 :: z_t_41 :: z_t_42 :: z_t_43 :: z_t_44 :: z_t_45 :: z_t_46 :: z_t_47 :: z_t_48 :: z_t_49 :: z_t_50 :: z_t_51 :: z_t_52 :: z_t_53 :: z_t_54 :: z_t_55 :: z_t_56 :: z_t_57 :: z_t_58 :: z_t_59 :: z_t_60 :: []))) :: (h_t_tape, .inl (k_t_tape, 200, .inl t_tape)) :: (h_t_has, .inl (k_t_has, 10, .inl t_has_c68_10)) :: (h_t_us, .inl (k_t_us, 10, .inl t_us_c68_10)) :: (h_t_vs, .inl (k_t_vs, 10, .inl t_vs_c68_10)) :: (h_t_ds, .inl (k_t_ds, 10, .inl t_ds_c68_10)) :: R) := pm_D (X := [(h_t, .inr (12, (.int 0 :: .ref h_t_tape :: .int t_length_c6_0 :: .int t_a :: .int t_b :: z_t_5 :: .ref h_t_has :: .ref h_t_us :: .ref h_t_vs :: .ref h_t_ds :: .long t_u_c54_7 :: .long t_v_c54_7 :: .long t_d_c54_7 :: z_t_13 :: z_t_14 :: z_t_15 :: z_t_16 :: z_t_17 :: z_t_18 :: z_t_19 :: z_t_20 :: z_t_21 :: .long t_sumU_c54_7 :: .long t_sumV_c54_7 :: .long t_sumD_c54_7 :: z_t_25 :: z_t_26 :: z_t_27 :: z_t_28 :: z_t_29 :: z_t_30 :: z_t_31 :: z_t_32 :: z_t_33 :: z_t_34 :: z_t_35 :: z_t_36 :: z_t_37 :: z_t_38 :: z_t_39 :: z_t_40 :: z_t_41 :: z_t_42 :: z_t_43 :: z_t_44 :: z_t_45 :: z_t_46 :: z_t_47 :: z_t_48 :: z_t_49 :: z_t_50 :: z_t_51 :: z_t_52 :: z_t_53 :: z_t_54 :: z_t_55 :: z_t_56 :: z_t_57 :: z_t_58 :: z_t_59 :: z_t_60 :: []))), (h_t_tape, .inl (k_t_tape, 200, .inl t_tape)), (h_t_has, .inl (k_t_has, 10, .inl t_has_c68_10)), (h_t_us, .inl (k_t_us, 10, .inl t_us_c68_10)), (h_t_vs, .inl (k_t_vs, 10, .inl t_vs_c68_10)), (h_t_ds, .inl (k_t_ds, 10, .inl t_ds_c68_10))]) [0, 5, 1, 2, 3, 4] 6 (by decide) (by decide) rfl hD
                  cases h
                  exact rt_z S hr hlk hP hD hS z_c68_10 dX12_value_71
              · have h := br_pos c9 h
                refine lv_iconst (v := 0) hx hb dX12_value_60 (by decide) ?_
                cases h
                exact rt_z S hr hlk hP hD hS (by decide) dX12_value_61
            · have h := br_neg c7 h
              refine lv_iconst (v := 0) hx hb dX12_value_40 (by decide) ?_
              cases h
              exact rt_z S hr hlk hP hD hS (by decide) dX12_value_41
noncomputable def f_X12_bar (t_a : Int32) (t_b : Int32) (l1 : Int32) : Option (Int32) :=
  if t_b ≤ 0 then (
   if l1 = 0 then (
    some (t_a - 1)
   ) else (
    some ((t_a + t_b) - 1)
   )
  ) else (
   gd (nzI 2) (
    if (l1 - l1 / 2 * 2) = 0 then (
     some t_a
    ) else (
     some (t_b - 1)
    )
   )
  )
set_option maxHeartbeats 4000000 in
set_option maxRecDepth 100000 in
theorem c_X12_bar (l : Launch) (D : va_G) (R : va_W) (h_t : Nat) (z_t_0 : Value) (z_t_1 : Value) (z_t_2 : Value) (t_a : Int32) (t_b : Int32) (z_t_5 : Value) (z_t_6 : Value) (z_t_7 : Value) (z_t_8 : Value) (z_t_9 : Value) (z_t_10 : Value) (z_t_11 : Value) (z_t_12 : Value) (z_t_13 : Value) (z_t_14 : Value) (z_t_15 : Value) (z_t_16 : Value) (z_t_17 : Value) (z_t_18 : Value) (z_t_19 : Value) (z_t_20 : Value) (z_t_21 : Value) (z_t_22 : Value) (z_t_23 : Value) (z_t_24 : Value) (z_t_25 : Value) (z_t_26 : Value) (z_t_27 : Value) (z_t_28 : Value) (z_t_29 : Value) (z_t_30 : Value) (z_t_31 : Value) (z_t_32 : Value) (z_t_33 : Value) (z_t_34 : Value) (z_t_35 : Value) (z_t_36 : Value) (z_t_37 : Value) (z_t_38 : Value) (z_t_39 : Value) (z_t_40 : Value) (z_t_41 : Value) (z_t_42 : Value) (z_t_43 : Value) (z_t_44 : Value) (z_t_45 : Value) (z_t_46 : Value) (z_t_47 : Value) (z_t_48 : Value) (z_t_49 : Value) (z_t_50 : Value) (z_t_51 : Value) (z_t_52 : Value) (z_t_53 : Value) (z_t_54 : Value) (z_t_55 : Value) (z_t_56 : Value) (z_t_57 : Value) (z_t_58 : Value) (z_t_59 : Value) (z_t_60 : Value) (l1 : Int32) (r : Int32)  (h : f_X12_bar t_a t_b l1 = some r) (sz : Nat) : Met l yX12_bar (WD yX12_bar cX12_bar 2 (some .int)) ({ frames := 0, cells := 0, slots := 0, locals := 0 }) (va_Pc [.ref h_t, .int l1] (PcW D [] ((h_t, .inr (12, (z_t_0 :: z_t_1 :: z_t_2 :: .int t_a :: .int t_b :: z_t_5 :: z_t_6 :: z_t_7 :: z_t_8 :: z_t_9 :: z_t_10 :: z_t_11 :: z_t_12 :: z_t_13 :: z_t_14 :: z_t_15 :: z_t_16 :: z_t_17 :: z_t_18 :: z_t_19 :: z_t_20 :: z_t_21 :: z_t_22 :: z_t_23 :: z_t_24 :: z_t_25 :: z_t_26 :: z_t_27 :: z_t_28 :: z_t_29 :: z_t_30 :: z_t_31 :: z_t_32 :: z_t_33 :: z_t_34 :: z_t_35 :: z_t_36 :: z_t_37 :: z_t_38 :: z_t_39 :: z_t_40 :: z_t_41 :: z_t_42 :: z_t_43 :: z_t_44 :: z_t_45 :: z_t_46 :: z_t_47 :: z_t_48 :: z_t_49 :: z_t_50 :: z_t_51 :: z_t_52 :: z_t_53 :: z_t_54 :: z_t_55 :: z_t_56 :: z_t_57 :: z_t_58 :: z_t_59 :: z_t_60 :: []))) :: R) sz)) (QI D r ((h_t, .inr (12, (z_t_0 :: z_t_1 :: z_t_2 :: .int t_a :: .int t_b :: z_t_5 :: z_t_6 :: z_t_7 :: z_t_8 :: z_t_9 :: z_t_10 :: z_t_11 :: z_t_12 :: z_t_13 :: z_t_14 :: z_t_15 :: z_t_16 :: z_t_17 :: z_t_18 :: z_t_19 :: z_t_20 :: z_t_21 :: z_t_22 :: z_t_23 :: z_t_24 :: z_t_25 :: z_t_26 :: z_t_27 :: z_t_28 :: z_t_29 :: z_t_30 :: z_t_31 :: z_t_32 :: z_t_33 :: z_t_34 :: z_t_35 :: z_t_36 :: z_t_37 :: z_t_38 :: z_t_39 :: z_t_40 :: z_t_41 :: z_t_42 :: z_t_43 :: z_t_44 :: z_t_45 :: z_t_46 :: z_t_47 :: z_t_48 :: z_t_49 :: z_t_50 :: z_t_51 :: z_t_52 :: z_t_53 :: z_t_54 :: z_t_55 :: z_t_56 :: z_t_57 :: z_t_58 :: z_t_59 :: z_t_60 :: []))) :: R) (va_A ((h_t, .inr (12, (z_t_0 :: z_t_1 :: z_t_2 :: .int t_a :: .int t_b :: z_t_5 :: z_t_6 :: z_t_7 :: z_t_8 :: z_t_9 :: z_t_10 :: z_t_11 :: z_t_12 :: z_t_13 :: z_t_14 :: z_t_15 :: z_t_16 :: z_t_17 :: z_t_18 :: z_t_19 :: z_t_20 :: z_t_21 :: z_t_22 :: z_t_23 :: z_t_24 :: z_t_25 :: z_t_26 :: z_t_27 :: z_t_28 :: z_t_29 :: z_t_30 :: z_t_31 :: z_t_32 :: z_t_33 :: z_t_34 :: z_t_35 :: z_t_36 :: z_t_37 :: z_t_38 :: z_t_39 :: z_t_40 :: z_t_41 :: z_t_42 :: z_t_43 :: z_t_44 :: z_t_45 :: z_t_46 :: z_t_47 :: z_t_48 :: z_t_49 :: z_t_50 :: z_t_51 :: z_t_52 :: z_t_53 :: z_t_54 :: z_t_55 :: z_t_56 :: z_t_57 :: z_t_58 :: z_t_59 :: z_t_60 :: []))) :: R) sz)) 0 0 (va_A ((h_t, .inr (12, (z_t_0 :: z_t_1 :: z_t_2 :: .int t_a :: .int t_b :: z_t_5 :: z_t_6 :: z_t_7 :: z_t_8 :: z_t_9 :: z_t_10 :: z_t_11 :: z_t_12 :: z_t_13 :: z_t_14 :: z_t_15 :: z_t_16 :: z_t_17 :: z_t_18 :: z_t_19 :: z_t_20 :: z_t_21 :: z_t_22 :: z_t_23 :: z_t_24 :: z_t_25 :: z_t_26 :: z_t_27 :: z_t_28 :: z_t_29 :: z_t_30 :: z_t_31 :: z_t_32 :: z_t_33 :: z_t_34 :: z_t_35 :: z_t_36 :: z_t_37 :: z_t_38 :: z_t_39 :: z_t_40 :: z_t_41 :: z_t_42 :: z_t_43 :: z_t_44 :: z_t_45 :: z_t_46 :: z_t_47 :: z_t_48 :: z_t_49 :: z_t_50 :: z_t_51 :: z_t_52 :: z_t_53 :: z_t_54 :: z_t_55 :: z_t_56 :: z_t_57 :: z_t_58 :: z_t_59 :: z_t_60 :: []))) :: R) sz) := by
  refine ct_start (QF := fun A => QI D r ((h_t, .inr (12, (z_t_0 :: z_t_1 :: z_t_2 :: .int t_a :: .int t_b :: z_t_5 :: z_t_6 :: z_t_7 :: z_t_8 :: z_t_9 :: z_t_10 :: z_t_11 :: z_t_12 :: z_t_13 :: z_t_14 :: z_t_15 :: z_t_16 :: z_t_17 :: z_t_18 :: z_t_19 :: z_t_20 :: z_t_21 :: z_t_22 :: z_t_23 :: z_t_24 :: z_t_25 :: z_t_26 :: z_t_27 :: z_t_28 :: z_t_29 :: z_t_30 :: z_t_31 :: z_t_32 :: z_t_33 :: z_t_34 :: z_t_35 :: z_t_36 :: z_t_37 :: z_t_38 :: z_t_39 :: z_t_40 :: z_t_41 :: z_t_42 :: z_t_43 :: z_t_44 :: z_t_45 :: z_t_46 :: z_t_47 :: z_t_48 :: z_t_49 :: z_t_50 :: z_t_51 :: z_t_52 :: z_t_53 :: z_t_54 :: z_t_55 :: z_t_56 :: z_t_57 :: z_t_58 :: z_t_59 :: z_t_60 :: []))) :: R) A) ?_ ?_ ?_
  · decide +kernel
  · exact Nat.le_of_ble_eq_true rfl
  intro p e s m args below meth c A ls S hr hlk hnm hS hA hP hD hK hN hl
  have S : CallFix p m c cX12_bar 2 s args AL "DigitBenchModel" := S
  have hx := S.1
  have hb := S.2.1
  have hown := S.2.2.2.1
  have ha := S.2.2.2.2
  have hl : lv_has ls 2 [(0, .ref h_t), (1, .int l1)] := hl
  unfold f_X12_bar at h
  refine lv_aload_n hx hb dX12_bar_0 rfl (lv_at hl 0 rfl) ?_
  refine va_get (D := D) (ci := 12) (v := .int t_b) (C := RX12) (T := TX12) (N := 61) hx hb ha ix12 hown hK hP 0 rfl rfl 4 (by decide) (ha _ q964) (fun _ h9 => h9) rfl dX12_bar_1 ?_
  refine lv_if_le (tgt := 29) hx hb dX12_bar_4 (by decide) (fun c1 => ?_) (fun c1 => ?_)
  · have h := br_pos c1 h
    refine lv_iload_n hx hb dX12_bar_29 rfl (lv_at hl 1 rfl) ?_
    refine lv_if_ne (tgt := 42) hx hb dX12_bar_30 (by decide) (fun c2 => ?_) (fun c2 => ?_)
    · have h := br_neg c2 h
      refine lv_aload_n hx hb dX12_bar_42 rfl (lv_at hl 0 rfl) ?_
      refine va_get (D := D) (ci := 12) (v := .int t_a) (C := RX12) (T := TX12) (N := 61) hx hb ha ix12 hown hK hP 0 rfl rfl 3 (by decide) (ha _ q963) (fun _ h9 => h9) rfl dX12_bar_43 ?_
      refine lv_aload_n hx hb dX12_bar_46 rfl (lv_at hl 0 rfl) ?_
      refine va_get (D := D) (ci := 12) (v := .int t_b) (C := RX12) (T := TX12) (N := 61) hx hb ha ix12 hown hK hP 0 rfl rfl 4 (by decide) (ha _ q964) (fun _ h9 => h9) rfl dX12_bar_47 ?_
      refine lv_iadd hx hb dX12_bar_50 ?_
      refine lv_iconst (v := 1) hx hb dX12_bar_51 (by decide) ?_
      refine lv_isub hx hb dX12_bar_52 ?_
      cases h
      exact rt_i S hr hlk hP hD hS dX12_bar_53
    · have h := br_pos c2 h
      refine lv_aload_n hx hb dX12_bar_33 rfl (lv_at hl 0 rfl) ?_
      refine va_get (D := D) (ci := 12) (v := .int t_a) (C := RX12) (T := TX12) (N := 61) hx hb ha ix12 hown hK hP 0 rfl rfl 3 (by decide) (ha _ q963) (fun _ h9 => h9) rfl dX12_bar_34 ?_
      refine lv_iconst (v := 1) hx hb dX12_bar_37 (by decide) ?_
      refine lv_isub hx hb dX12_bar_38 ?_
      refine lv_goto (tgt := 53) hx hb dX12_bar_39 (by decide) ?_
      cases h
      exact rt_i S hr hlk hP hD hS dX12_bar_53
  · have h := br_neg c1 h
    refine lv_iload_n hx hb dX12_bar_7 rfl (lv_at hl 1 rfl) ?_
    refine lv_iconst (v := 2) hx hb dX12_bar_8 (by decide) ?_
    obtain ⟨n3, h⟩ := nzI_ok h
    refine lv_irem hx hb dX12_bar_9 n3 ?_
    refine lv_if_ne (tgt := 20) hx hb dX12_bar_10 (by decide) (fun c4 => ?_) (fun c4 => ?_)
    · have h := br_neg c4 h
      refine lv_aload_n hx hb dX12_bar_20 rfl (lv_at hl 0 rfl) ?_
      refine va_get (D := D) (ci := 12) (v := .int t_b) (C := RX12) (T := TX12) (N := 61) hx hb ha ix12 hown hK hP 0 rfl rfl 4 (by decide) (ha _ q964) (fun _ h9 => h9) rfl dX12_bar_21 ?_
      refine lv_iconst (v := 1) hx hb dX12_bar_24 (by decide) ?_
      refine lv_isub hx hb dX12_bar_25 ?_
      refine lv_goto (tgt := 53) hx hb dX12_bar_26 (by decide) ?_
      cases h
      exact rt_i S hr hlk hP hD hS dX12_bar_53
    · have h := br_pos c4 h
      refine lv_aload_n hx hb dX12_bar_13 rfl (lv_at hl 0 rfl) ?_
      refine va_get (D := D) (ci := 12) (v := .int t_a) (C := RX12) (T := TX12) (N := 61) hx hb ha ix12 hown hK hP 0 rfl rfl 3 (by decide) (ha _ q963) (fun _ h9 => h9) rfl dX12_bar_14 ?_
      refine lv_goto (tgt := 53) hx hb dX12_bar_17 (by decide) ?_
      cases h
      exact rt_i S hr hlk hP hD hS dX12_bar_53
noncomputable def f_X12_allowed_L12 (l1 : Int32) (t_tape : Nat → Int32) : Nat → Int32 →  Option (Nat)
  | 0, _ => none
  | n + 1, l2 => (
    if l1 ≤ l2 then (
     some 1
    ) else (
     gd (ixb l2 200) (
      if 0 ≤ (t_tape l2.toNatClampNeg) then (
       f_X12_allowed_L12 l1 t_tape n (l2 + 1)
      ) else (
       some 0
      )
     )
    ))
noncomputable def f_X12_allowed_L44 (l1 : Int32) (l2 : Int32) (t_a : Int32) (t_b : Int32) (t_tape : Nat → Int32) : Nat → Int32 →  Option (Int32)
  | 0, _ => none
  | n + 1, l3 => (
    if l1 ≤ (l2 + l3) then (
     some l3
    ) else (
     gd (ixb (l2 + l3) 200) (
      bnd1 (f_X12_bar t_a t_b l3) fun r_c61_8 => (
       if (t_tape (l2 + l3).toNatClampNeg) = r_c61_8 then (
        f_X12_allowed_L44 l1 l2 t_a t_b t_tape n (l3 + 1)
       ) else (
        some l3
       )
      )
     )
    ))
noncomputable def f_X12_allowed_L37 (l1 : Int32) (t_a : Int32) (t_b : Int32) (t_tape : Nat → Int32) : Nat → Int32 →  Option (Nat × Int32)
  | 0, _ => none
  | n + 1, l2 => (
    if l1 ≤ l2 then (
     some (1, l2)
    ) else (
     bnd1 (f_X12_allowed_L44 l1 l2 t_a t_b t_tape FU 0) fun x3_L44_10 => (
      if l1 ≤ (l2 + x3_L44_10) then (
       f_X12_allowed_L37 l1 t_a t_b t_tape n (l2 + 1)
      ) else (
       gd (ixb (l2 + x3_L44_10) 200) (
        bnd1 (f_X12_bar t_a t_b x3_L44_10) fun r_c90_13 => (
         if (t_tape (l2 + x3_L44_10).toNatClampNeg) ≤ r_c90_13 then (
          f_X12_allowed_L37 l1 t_a t_b t_tape n (l2 + 1)
         ) else (
          some (0, l2)
         )
        )
       )
      )
     )
    ))
noncomputable def f_X12_allowed (t_thrown : Int32) (t_length : Int32) (t_a : Int32) (t_b : Int32) (t_tape : Nat → Int32) : Option (Int32 × Int32 × Int32) :=
  bnd2 (f_X12_taken t_length) fun r_c6_0 t_length_c6_0 => (
   bnd1 (f_X12_allowed_L12 r_c6_0 t_tape FU 0) fun tg_L12_4 => (
    if tg_L12_4 = 0 then (
     some ((-2), 0, t_length_c6_0)
    ) else (
     bnd2 (f_X12_allowed_L37 r_c6_0 t_a t_b t_tape FU 0) fun tg_L37_15 x2_L37_15 => (
      if tg_L37_15 = 0 then (
       some (x2_L37_15, 0, t_length_c6_0)
      ) else (
       some ((-1), 0, t_length_c6_0)
      )
     )
    )
   )
  )
set_option maxHeartbeats 4000000 in
set_option maxRecDepth 100000 in
theorem c_X12_allowed (l : Launch) (D : va_G) (R : va_W) (h_t : Nat) (t_thrown : Int32) (t_length : Int32) (t_a : Int32) (t_b : Int32) (z_t_5 : Value) (z_t_6 : Value) (z_t_7 : Value) (z_t_8 : Value) (z_t_9 : Value) (z_t_10 : Value) (z_t_11 : Value) (z_t_12 : Value) (z_t_13 : Value) (z_t_14 : Value) (z_t_15 : Value) (z_t_16 : Value) (z_t_17 : Value) (z_t_18 : Value) (z_t_19 : Value) (z_t_20 : Value) (z_t_21 : Value) (z_t_22 : Value) (z_t_23 : Value) (z_t_24 : Value) (z_t_25 : Value) (z_t_26 : Value) (z_t_27 : Value) (z_t_28 : Value) (z_t_29 : Value) (z_t_30 : Value) (z_t_31 : Value) (z_t_32 : Value) (z_t_33 : Value) (z_t_34 : Value) (z_t_35 : Value) (z_t_36 : Value) (z_t_37 : Value) (z_t_38 : Value) (z_t_39 : Value) (z_t_40 : Value) (z_t_41 : Value) (z_t_42 : Value) (z_t_43 : Value) (z_t_44 : Value) (z_t_45 : Value) (z_t_46 : Value) (z_t_47 : Value) (z_t_48 : Value) (z_t_49 : Value) (z_t_50 : Value) (z_t_51 : Value) (z_t_52 : Value) (z_t_53 : Value) (z_t_54 : Value) (z_t_55 : Value) (z_t_56 : Value) (z_t_57 : Value) (z_t_58 : Value) (z_t_59 : Value) (z_t_60 : Value) (h_t_tape : Nat) (k_t_tape : ClassId) (t_tape : Nat → Int32) (r : Int32) (o_t_thrown : Int32) (o_t_length : Int32)  (h : f_X12_allowed t_thrown t_length t_a t_b t_tape = some (r, o_t_thrown, o_t_length)) (sz : Nat) : Met l yX12_allowed (WD yX12_allowed cX12_allowed 4 (some .int)) ({ frames := 1, cells := 0, slots := 0, locals := 21 }) (va_Pc [.ref h_t] (PcW D [(k_t_tape, .byte)] ((h_t, .inr (12, (.int t_thrown :: .ref h_t_tape :: .int t_length :: .int t_a :: .int t_b :: z_t_5 :: z_t_6 :: z_t_7 :: z_t_8 :: z_t_9 :: z_t_10 :: z_t_11 :: z_t_12 :: z_t_13 :: z_t_14 :: z_t_15 :: z_t_16 :: z_t_17 :: z_t_18 :: z_t_19 :: z_t_20 :: z_t_21 :: z_t_22 :: z_t_23 :: z_t_24 :: z_t_25 :: z_t_26 :: z_t_27 :: z_t_28 :: z_t_29 :: z_t_30 :: z_t_31 :: z_t_32 :: z_t_33 :: z_t_34 :: z_t_35 :: z_t_36 :: z_t_37 :: z_t_38 :: z_t_39 :: z_t_40 :: z_t_41 :: z_t_42 :: z_t_43 :: z_t_44 :: z_t_45 :: z_t_46 :: z_t_47 :: z_t_48 :: z_t_49 :: z_t_50 :: z_t_51 :: z_t_52 :: z_t_53 :: z_t_54 :: z_t_55 :: z_t_56 :: z_t_57 :: z_t_58 :: z_t_59 :: z_t_60 :: []))) :: (h_t_tape, .inl (k_t_tape, 200, .inl t_tape)) :: R) sz)) (QI D r ((h_t, .inr (12, (.int o_t_thrown :: .ref h_t_tape :: .int o_t_length :: .int t_a :: .int t_b :: z_t_5 :: z_t_6 :: z_t_7 :: z_t_8 :: z_t_9 :: z_t_10 :: z_t_11 :: z_t_12 :: z_t_13 :: z_t_14 :: z_t_15 :: z_t_16 :: z_t_17 :: z_t_18 :: z_t_19 :: z_t_20 :: z_t_21 :: z_t_22 :: z_t_23 :: z_t_24 :: z_t_25 :: z_t_26 :: z_t_27 :: z_t_28 :: z_t_29 :: z_t_30 :: z_t_31 :: z_t_32 :: z_t_33 :: z_t_34 :: z_t_35 :: z_t_36 :: z_t_37 :: z_t_38 :: z_t_39 :: z_t_40 :: z_t_41 :: z_t_42 :: z_t_43 :: z_t_44 :: z_t_45 :: z_t_46 :: z_t_47 :: z_t_48 :: z_t_49 :: z_t_50 :: z_t_51 :: z_t_52 :: z_t_53 :: z_t_54 :: z_t_55 :: z_t_56 :: z_t_57 :: z_t_58 :: z_t_59 :: z_t_60 :: []))) :: (h_t_tape, .inl (k_t_tape, 200, .inl t_tape)) :: R) (va_A ((h_t, .inr (12, (.int t_thrown :: .ref h_t_tape :: .int t_length :: .int t_a :: .int t_b :: z_t_5 :: z_t_6 :: z_t_7 :: z_t_8 :: z_t_9 :: z_t_10 :: z_t_11 :: z_t_12 :: z_t_13 :: z_t_14 :: z_t_15 :: z_t_16 :: z_t_17 :: z_t_18 :: z_t_19 :: z_t_20 :: z_t_21 :: z_t_22 :: z_t_23 :: z_t_24 :: z_t_25 :: z_t_26 :: z_t_27 :: z_t_28 :: z_t_29 :: z_t_30 :: z_t_31 :: z_t_32 :: z_t_33 :: z_t_34 :: z_t_35 :: z_t_36 :: z_t_37 :: z_t_38 :: z_t_39 :: z_t_40 :: z_t_41 :: z_t_42 :: z_t_43 :: z_t_44 :: z_t_45 :: z_t_46 :: z_t_47 :: z_t_48 :: z_t_49 :: z_t_50 :: z_t_51 :: z_t_52 :: z_t_53 :: z_t_54 :: z_t_55 :: z_t_56 :: z_t_57 :: z_t_58 :: z_t_59 :: z_t_60 :: []))) :: (h_t_tape, .inl (k_t_tape, 200, .inl t_tape)) :: R) sz)) 0 0 (va_A ((h_t, .inr (12, (.int t_thrown :: .ref h_t_tape :: .int t_length :: .int t_a :: .int t_b :: z_t_5 :: z_t_6 :: z_t_7 :: z_t_8 :: z_t_9 :: z_t_10 :: z_t_11 :: z_t_12 :: z_t_13 :: z_t_14 :: z_t_15 :: z_t_16 :: z_t_17 :: z_t_18 :: z_t_19 :: z_t_20 :: z_t_21 :: z_t_22 :: z_t_23 :: z_t_24 :: z_t_25 :: z_t_26 :: z_t_27 :: z_t_28 :: z_t_29 :: z_t_30 :: z_t_31 :: z_t_32 :: z_t_33 :: z_t_34 :: z_t_35 :: z_t_36 :: z_t_37 :: z_t_38 :: z_t_39 :: z_t_40 :: z_t_41 :: z_t_42 :: z_t_43 :: z_t_44 :: z_t_45 :: z_t_46 :: z_t_47 :: z_t_48 :: z_t_49 :: z_t_50 :: z_t_51 :: z_t_52 :: z_t_53 :: z_t_54 :: z_t_55 :: z_t_56 :: z_t_57 :: z_t_58 :: z_t_59 :: z_t_60 :: []))) :: (h_t_tape, .inl (k_t_tape, 200, .inl t_tape)) :: R) sz) := by
  refine ct_start (QF := fun A => QI D r ((h_t, .inr (12, (.int o_t_thrown :: .ref h_t_tape :: .int o_t_length :: .int t_a :: .int t_b :: z_t_5 :: z_t_6 :: z_t_7 :: z_t_8 :: z_t_9 :: z_t_10 :: z_t_11 :: z_t_12 :: z_t_13 :: z_t_14 :: z_t_15 :: z_t_16 :: z_t_17 :: z_t_18 :: z_t_19 :: z_t_20 :: z_t_21 :: z_t_22 :: z_t_23 :: z_t_24 :: z_t_25 :: z_t_26 :: z_t_27 :: z_t_28 :: z_t_29 :: z_t_30 :: z_t_31 :: z_t_32 :: z_t_33 :: z_t_34 :: z_t_35 :: z_t_36 :: z_t_37 :: z_t_38 :: z_t_39 :: z_t_40 :: z_t_41 :: z_t_42 :: z_t_43 :: z_t_44 :: z_t_45 :: z_t_46 :: z_t_47 :: z_t_48 :: z_t_49 :: z_t_50 :: z_t_51 :: z_t_52 :: z_t_53 :: z_t_54 :: z_t_55 :: z_t_56 :: z_t_57 :: z_t_58 :: z_t_59 :: z_t_60 :: []))) :: (h_t_tape, .inl (k_t_tape, 200, .inl t_tape)) :: R) A) ?_ ?_ ?_
  · decide +kernel
  · exact Nat.le_of_ble_eq_true rfl
  intro p e s m args below meth c A ls S hr hlk hnm hS hA hP hD hK hN hl
  have S : CallFix p m c cX12_allowed 4 s args AL "DigitBenchModel" := S
  have hx := S.1
  have hb := S.2.1
  have hown := S.2.2.2.1
  have ha := S.2.2.2.2
  have hl : lv_has ls 4 [(0, .ref h_t)] := hl
  have L12 : ∀ (Q : State → Prop) (n : Nat) (l1 : Int32) (l2 : Int32) (t_thrown : Int32) (t_length : Int32) (tg : Nat), f_X12_allowed_L12 l1 t_tape n l2 = some tg → ∀ (H : Heap) (locs : List Loc) (ls : Array Slot), va_P D vwCl ((h_t, .inr (12, (.int t_thrown :: .ref h_t_tape :: .int t_length :: .int t_a :: .int t_b :: z_t_5 :: z_t_6 :: z_t_7 :: z_t_8 :: z_t_9 :: z_t_10 :: z_t_11 :: z_t_12 :: z_t_13 :: z_t_14 :: z_t_15 :: z_t_16 :: z_t_17 :: z_t_18 :: z_t_19 :: z_t_20 :: z_t_21 :: z_t_22 :: z_t_23 :: z_t_24 :: z_t_25 :: z_t_26 :: z_t_27 :: z_t_28 :: z_t_29 :: z_t_30 :: z_t_31 :: z_t_32 :: z_t_33 :: z_t_34 :: z_t_35 :: z_t_36 :: z_t_37 :: z_t_38 :: z_t_39 :: z_t_40 :: z_t_41 :: z_t_42 :: z_t_43 :: z_t_44 :: z_t_45 :: z_t_46 :: z_t_47 :: z_t_48 :: z_t_49 :: z_t_50 :: z_t_51 :: z_t_52 :: z_t_53 :: z_t_54 :: z_t_55 :: z_t_56 :: z_t_57 :: z_t_58 :: z_t_59 :: z_t_60 :: []))) :: (h_t_tape, .inl (k_t_tape, 200, .inl t_tape)) :: R) H → va_D A ((h_t, .inr (12, (.int t_thrown :: .ref h_t_tape :: .int t_length :: .int t_a :: .int t_b :: z_t_5 :: z_t_6 :: z_t_7 :: z_t_8 :: z_t_9 :: z_t_10 :: z_t_11 :: z_t_12 :: z_t_13 :: z_t_14 :: z_t_15 :: z_t_16 :: z_t_17 :: z_t_18 :: z_t_19 :: z_t_20 :: z_t_21 :: z_t_22 :: z_t_23 :: z_t_24 :: z_t_25 :: z_t_26 :: z_t_27 :: z_t_28 :: z_t_29 :: z_t_30 :: z_t_31 :: z_t_32 :: z_t_33 :: z_t_34 :: z_t_35 :: z_t_36 :: z_t_37 :: z_t_38 :: z_t_39 :: z_t_40 :: z_t_41 :: z_t_42 :: z_t_43 :: z_t_44 :: z_t_45 :: z_t_46 :: z_t_47 :: z_t_48 :: z_t_49 :: z_t_50 :: z_t_51 :: z_t_52 :: z_t_53 :: z_t_54 :: z_t_55 :: z_t_56 :: z_t_57 :: z_t_58 :: z_t_59 :: z_t_60 :: []))) :: (h_t_tape, .inl (k_t_tape, 200, .inl t_tape)) :: R) → va_S A s.heap H locs → lv_has ls 4 [(0, .ref h_t), (1, .int l1), (2, .int l2)] → (tg = 0 → ∀ (H : Heap) (locs : List Loc) (ls : Array Slot), va_P D vwCl ((h_t, .inr (12, (.int t_thrown :: .ref h_t_tape :: .int t_length :: .int t_a :: .int t_b :: z_t_5 :: z_t_6 :: z_t_7 :: z_t_8 :: z_t_9 :: z_t_10 :: z_t_11 :: z_t_12 :: z_t_13 :: z_t_14 :: z_t_15 :: z_t_16 :: z_t_17 :: z_t_18 :: z_t_19 :: z_t_20 :: z_t_21 :: z_t_22 :: z_t_23 :: z_t_24 :: z_t_25 :: z_t_26 :: z_t_27 :: z_t_28 :: z_t_29 :: z_t_30 :: z_t_31 :: z_t_32 :: z_t_33 :: z_t_34 :: z_t_35 :: z_t_36 :: z_t_37 :: z_t_38 :: z_t_39 :: z_t_40 :: z_t_41 :: z_t_42 :: z_t_43 :: z_t_44 :: z_t_45 :: z_t_46 :: z_t_47 :: z_t_48 :: z_t_49 :: z_t_50 :: z_t_51 :: z_t_52 :: z_t_53 :: z_t_54 :: z_t_55 :: z_t_56 :: z_t_57 :: z_t_58 :: z_t_59 :: z_t_60 :: []))) :: (h_t_tape, .inl (k_t_tape, 200, .inl t_tape)) :: R) H → va_D A ((h_t, .inr (12, (.int t_thrown :: .ref h_t_tape :: .int t_length :: .int t_a :: .int t_b :: z_t_5 :: z_t_6 :: z_t_7 :: z_t_8 :: z_t_9 :: z_t_10 :: z_t_11 :: z_t_12 :: z_t_13 :: z_t_14 :: z_t_15 :: z_t_16 :: z_t_17 :: z_t_18 :: z_t_19 :: z_t_20 :: z_t_21 :: z_t_22 :: z_t_23 :: z_t_24 :: z_t_25 :: z_t_26 :: z_t_27 :: z_t_28 :: z_t_29 :: z_t_30 :: z_t_31 :: z_t_32 :: z_t_33 :: z_t_34 :: z_t_35 :: z_t_36 :: z_t_37 :: z_t_38 :: z_t_39 :: z_t_40 :: z_t_41 :: z_t_42 :: z_t_43 :: z_t_44 :: z_t_45 :: z_t_46 :: z_t_47 :: z_t_48 :: z_t_49 :: z_t_50 :: z_t_51 :: z_t_52 :: z_t_53 :: z_t_54 :: z_t_55 :: z_t_56 :: z_t_57 :: z_t_58 :: z_t_59 :: z_t_60 :: []))) :: (h_t_tape, .inl (k_t_tape, 200, .inl t_tape)) :: R) → va_S A s.heap H locs → lv_has ls 4 [] → W p l e { frames := 1, cells := 0, slots := 0, locals := 21 } s m args below meth c H locs 0 0 Q (F0 m 26 ls [])) → (tg = 1 → ∀ (H : Heap) (locs : List Loc) (ls : Array Slot), va_P D vwCl ((h_t, .inr (12, (.int t_thrown :: .ref h_t_tape :: .int t_length :: .int t_a :: .int t_b :: z_t_5 :: z_t_6 :: z_t_7 :: z_t_8 :: z_t_9 :: z_t_10 :: z_t_11 :: z_t_12 :: z_t_13 :: z_t_14 :: z_t_15 :: z_t_16 :: z_t_17 :: z_t_18 :: z_t_19 :: z_t_20 :: z_t_21 :: z_t_22 :: z_t_23 :: z_t_24 :: z_t_25 :: z_t_26 :: z_t_27 :: z_t_28 :: z_t_29 :: z_t_30 :: z_t_31 :: z_t_32 :: z_t_33 :: z_t_34 :: z_t_35 :: z_t_36 :: z_t_37 :: z_t_38 :: z_t_39 :: z_t_40 :: z_t_41 :: z_t_42 :: z_t_43 :: z_t_44 :: z_t_45 :: z_t_46 :: z_t_47 :: z_t_48 :: z_t_49 :: z_t_50 :: z_t_51 :: z_t_52 :: z_t_53 :: z_t_54 :: z_t_55 :: z_t_56 :: z_t_57 :: z_t_58 :: z_t_59 :: z_t_60 :: []))) :: (h_t_tape, .inl (k_t_tape, 200, .inl t_tape)) :: R) H → va_D A ((h_t, .inr (12, (.int t_thrown :: .ref h_t_tape :: .int t_length :: .int t_a :: .int t_b :: z_t_5 :: z_t_6 :: z_t_7 :: z_t_8 :: z_t_9 :: z_t_10 :: z_t_11 :: z_t_12 :: z_t_13 :: z_t_14 :: z_t_15 :: z_t_16 :: z_t_17 :: z_t_18 :: z_t_19 :: z_t_20 :: z_t_21 :: z_t_22 :: z_t_23 :: z_t_24 :: z_t_25 :: z_t_26 :: z_t_27 :: z_t_28 :: z_t_29 :: z_t_30 :: z_t_31 :: z_t_32 :: z_t_33 :: z_t_34 :: z_t_35 :: z_t_36 :: z_t_37 :: z_t_38 :: z_t_39 :: z_t_40 :: z_t_41 :: z_t_42 :: z_t_43 :: z_t_44 :: z_t_45 :: z_t_46 :: z_t_47 :: z_t_48 :: z_t_49 :: z_t_50 :: z_t_51 :: z_t_52 :: z_t_53 :: z_t_54 :: z_t_55 :: z_t_56 :: z_t_57 :: z_t_58 :: z_t_59 :: z_t_60 :: []))) :: (h_t_tape, .inl (k_t_tape, 200, .inl t_tape)) :: R) → va_S A s.heap H locs → lv_has ls 4 [(0, .ref h_t), (1, .int l1)] → W p l e { frames := 1, cells := 0, slots := 0, locals := 21 } s m args below meth c H locs 0 0 Q (F0 m 35 ls [])) → W p l e { frames := 1, cells := 0, slots := 0, locals := 21 } s m args below meth c H locs 0 0 Q (F0 m 12 ls []) := by
    intro Q n
    induction n with
    | zero =>
      intro l1 l2 t_thrown t_length tg h
      rw [f_X12_allowed_L12] at h; cases h
    | succ n ih =>
      intro l1 l2 t_thrown t_length tg h H locs ls hP hD hS hl kk0 kk1
      rw [f_X12_allowed_L12] at h
      refine lv_iload_n hx hb dX12_allowed_12 rfl (lv_at hl 2 rfl) ?_
      refine lv_iload_n hx hb dX12_allowed_13 rfl (lv_at hl 1 rfl) ?_
      refine lv_icmp_ge (tgt := 35) hx hb dX12_allowed_14 (by decide) (fun c2 => ?_) (fun c2 => ?_)
      · have h := br_pos c2 h
        cases h
        exact kk1 rfl _ _ _ hP hD hS (lv_sub hl [0, 1] rfl)
      · have h := br_neg c2 h
        refine lv_aload_n hx hb dX12_allowed_17 rfl (lv_at hl 0 rfl) ?_
        refine va_get (D := D) (ci := 12) (v := .ref h_t_tape) (C := RX12) (T := TX12) (N := 61) hx hb ha ix12 hown hK hP 0 rfl rfl 1 (by decide) (ha _ q961) (fun _ h9 => h9) rfl dX12_allowed_18 ?_
        refine lv_iload_n hx hb dX12_allowed_21 rfl (lv_at hl 2 rfl) ?_
        obtain ⟨i3, h⟩ := ix_ok h
        refine va_bald hx hb hK hP 1 0 rfl rfl i3 dX12_allowed_22 ?_
        refine lv_if_ge (tgt := 29) hx hb dX12_allowed_23 (by decide) (fun c4 => ?_) (fun c4 => ?_)
        · have h := br_pos c4 h
          refine lv_iinc (v := (l2 + 1)) (lv' := [(2, .int (l2 + 1)), (0, .ref h_t), (1, .int l1)]) hx hb dX12_allowed_29 hl (k := 2) rfl rfl (by decide) rfl (fun ls hl => ?_)
          refine lv_goto (tgt := 12) hx hb dX12_allowed_32 (by decide) ?_
          exact ih l1 (l2 + 1) t_thrown t_length _ h _ _ _ hP hD hS (lv_sub hl [1, 2, 0] rfl) kk0 kk1
        · have h := br_neg c4 h
          cases h
          exact kk0 rfl _ _ _ hP hD hS (lv_sub hl [] rfl)
  have L44 : ∀ (Q : State → Prop) (n : Nat) (l1 : Int32) (l2 : Int32) (l3 : Int32) (t_thrown : Int32) (t_length : Int32) (x3 : Int32), f_X12_allowed_L44 l1 l2 t_a t_b t_tape n l3 = some x3 → ∀ (H : Heap) (locs : List Loc) (ls : Array Slot), va_P D vwCl ((h_t, .inr (12, (.int t_thrown :: .ref h_t_tape :: .int t_length :: .int t_a :: .int t_b :: z_t_5 :: z_t_6 :: z_t_7 :: z_t_8 :: z_t_9 :: z_t_10 :: z_t_11 :: z_t_12 :: z_t_13 :: z_t_14 :: z_t_15 :: z_t_16 :: z_t_17 :: z_t_18 :: z_t_19 :: z_t_20 :: z_t_21 :: z_t_22 :: z_t_23 :: z_t_24 :: z_t_25 :: z_t_26 :: z_t_27 :: z_t_28 :: z_t_29 :: z_t_30 :: z_t_31 :: z_t_32 :: z_t_33 :: z_t_34 :: z_t_35 :: z_t_36 :: z_t_37 :: z_t_38 :: z_t_39 :: z_t_40 :: z_t_41 :: z_t_42 :: z_t_43 :: z_t_44 :: z_t_45 :: z_t_46 :: z_t_47 :: z_t_48 :: z_t_49 :: z_t_50 :: z_t_51 :: z_t_52 :: z_t_53 :: z_t_54 :: z_t_55 :: z_t_56 :: z_t_57 :: z_t_58 :: z_t_59 :: z_t_60 :: []))) :: (h_t_tape, .inl (k_t_tape, 200, .inl t_tape)) :: R) H → va_D A ((h_t, .inr (12, (.int t_thrown :: .ref h_t_tape :: .int t_length :: .int t_a :: .int t_b :: z_t_5 :: z_t_6 :: z_t_7 :: z_t_8 :: z_t_9 :: z_t_10 :: z_t_11 :: z_t_12 :: z_t_13 :: z_t_14 :: z_t_15 :: z_t_16 :: z_t_17 :: z_t_18 :: z_t_19 :: z_t_20 :: z_t_21 :: z_t_22 :: z_t_23 :: z_t_24 :: z_t_25 :: z_t_26 :: z_t_27 :: z_t_28 :: z_t_29 :: z_t_30 :: z_t_31 :: z_t_32 :: z_t_33 :: z_t_34 :: z_t_35 :: z_t_36 :: z_t_37 :: z_t_38 :: z_t_39 :: z_t_40 :: z_t_41 :: z_t_42 :: z_t_43 :: z_t_44 :: z_t_45 :: z_t_46 :: z_t_47 :: z_t_48 :: z_t_49 :: z_t_50 :: z_t_51 :: z_t_52 :: z_t_53 :: z_t_54 :: z_t_55 :: z_t_56 :: z_t_57 :: z_t_58 :: z_t_59 :: z_t_60 :: []))) :: (h_t_tape, .inl (k_t_tape, 200, .inl t_tape)) :: R) → va_S A s.heap H locs → lv_has ls 4 [(0, .ref h_t), (1, .int l1), (2, .int l2), (3, .int l3)] → (∀ (H : Heap) (locs : List Loc) (ls : Array Slot), va_P D vwCl ((h_t, .inr (12, (.int t_thrown :: .ref h_t_tape :: .int t_length :: .int t_a :: .int t_b :: z_t_5 :: z_t_6 :: z_t_7 :: z_t_8 :: z_t_9 :: z_t_10 :: z_t_11 :: z_t_12 :: z_t_13 :: z_t_14 :: z_t_15 :: z_t_16 :: z_t_17 :: z_t_18 :: z_t_19 :: z_t_20 :: z_t_21 :: z_t_22 :: z_t_23 :: z_t_24 :: z_t_25 :: z_t_26 :: z_t_27 :: z_t_28 :: z_t_29 :: z_t_30 :: z_t_31 :: z_t_32 :: z_t_33 :: z_t_34 :: z_t_35 :: z_t_36 :: z_t_37 :: z_t_38 :: z_t_39 :: z_t_40 :: z_t_41 :: z_t_42 :: z_t_43 :: z_t_44 :: z_t_45 :: z_t_46 :: z_t_47 :: z_t_48 :: z_t_49 :: z_t_50 :: z_t_51 :: z_t_52 :: z_t_53 :: z_t_54 :: z_t_55 :: z_t_56 :: z_t_57 :: z_t_58 :: z_t_59 :: z_t_60 :: []))) :: (h_t_tape, .inl (k_t_tape, 200, .inl t_tape)) :: R) H → va_D A ((h_t, .inr (12, (.int t_thrown :: .ref h_t_tape :: .int t_length :: .int t_a :: .int t_b :: z_t_5 :: z_t_6 :: z_t_7 :: z_t_8 :: z_t_9 :: z_t_10 :: z_t_11 :: z_t_12 :: z_t_13 :: z_t_14 :: z_t_15 :: z_t_16 :: z_t_17 :: z_t_18 :: z_t_19 :: z_t_20 :: z_t_21 :: z_t_22 :: z_t_23 :: z_t_24 :: z_t_25 :: z_t_26 :: z_t_27 :: z_t_28 :: z_t_29 :: z_t_30 :: z_t_31 :: z_t_32 :: z_t_33 :: z_t_34 :: z_t_35 :: z_t_36 :: z_t_37 :: z_t_38 :: z_t_39 :: z_t_40 :: z_t_41 :: z_t_42 :: z_t_43 :: z_t_44 :: z_t_45 :: z_t_46 :: z_t_47 :: z_t_48 :: z_t_49 :: z_t_50 :: z_t_51 :: z_t_52 :: z_t_53 :: z_t_54 :: z_t_55 :: z_t_56 :: z_t_57 :: z_t_58 :: z_t_59 :: z_t_60 :: []))) :: (h_t_tape, .inl (k_t_tape, 200, .inl t_tape)) :: R) → va_S A s.heap H locs → lv_has ls 4 [(0, .ref h_t), (1, .int l1), (2, .int l2), (3, .int x3)] → W p l e { frames := 1, cells := 0, slots := 0, locals := 21 } s m args below meth c H locs 0 0 Q (F0 m 73 ls [])) → W p l e { frames := 1, cells := 0, slots := 0, locals := 21 } s m args below meth c H locs 0 0 Q (F0 m 44 ls []) := by
    intro Q n
    induction n with
    | zero =>
      intro l1 l2 l3 t_thrown t_length x3 h
      rw [f_X12_allowed_L44] at h; cases h
    | succ n ih =>
      intro l1 l2 l3 t_thrown t_length x3 h H locs ls hP hD hS hl kk0
      rw [f_X12_allowed_L44] at h
      refine lv_iload_n hx hb dX12_allowed_44 rfl (lv_at hl 2 rfl) ?_
      refine lv_iload_n hx hb dX12_allowed_45 rfl (lv_at hl 3 rfl) ?_
      refine lv_iadd hx hb dX12_allowed_46 ?_
      refine lv_iload_n hx hb dX12_allowed_47 rfl (lv_at hl 1 rfl) ?_
      refine lv_icmp_ge (tgt := 73) hx hb dX12_allowed_48 (by decide) (fun c7 => ?_) (fun c7 => ?_)
      · have h := br_pos c7 h
        cases h
        exact kk0 _ _ _ hP hD hS (lv_sub hl [0, 1, 2, 3] rfl)
      · have h := br_neg c7 h
        refine lv_aload_n hx hb dX12_allowed_51 rfl (lv_at hl 0 rfl) ?_
        refine va_get (D := D) (ci := 12) (v := .ref h_t_tape) (C := RX12) (T := TX12) (N := 61) hx hb ha ix12 hown hK hP 0 rfl rfl 1 (by decide) (ha _ q961) (fun _ h9 => h9) rfl dX12_allowed_52 ?_
        refine lv_iload_n hx hb dX12_allowed_55 rfl (lv_at hl 2 rfl) ?_
        refine lv_iload_n hx hb dX12_allowed_56 rfl (lv_at hl 3 rfl) ?_
        refine lv_iadd hx hb dX12_allowed_57 ?_
        obtain ⟨i8, h⟩ := ix_ok h
        refine va_bald hx hb hK hP 1 0 rfl rfl i8 dX12_allowed_58 ?_
        refine lv_aload_n hx hb dX12_allowed_59 rfl (lv_at hl 0 rfl) ?_
        refine lv_iload_n hx hb dX12_allowed_60 rfl (lv_at hl 3 rfl) ?_
        obtain ⟨r_c61_8, e_c61_8, h⟩ := bnd1_ok h
        refine cl_i (rn_v (ci := 12) (As := [.int l3]) (rest := [.int (t_tape (l2 + l3).toNatClampNeg)]) S (c_X12_bar l D ((h_t_tape, .inl (k_t_tape, 200, .inl t_tape)) :: R) h_t (.int t_thrown) (.ref h_t_tape) (.int t_length) t_a t_b (z_t_5) (z_t_6) (z_t_7) (z_t_8) (z_t_9) (z_t_10) (z_t_11) (z_t_12) (z_t_13) (z_t_14) (z_t_15) (z_t_16) (z_t_17) (z_t_18) (z_t_19) (z_t_20) (z_t_21) (z_t_22) (z_t_23) (z_t_24) (z_t_25) (z_t_26) (z_t_27) (z_t_28) (z_t_29) (z_t_30) (z_t_31) (z_t_32) (z_t_33) (z_t_34) (z_t_35) (z_t_36) (z_t_37) (z_t_38) (z_t_39) (z_t_40) (z_t_41) (z_t_42) (z_t_43) (z_t_44) (z_t_45) (z_t_46) (z_t_47) (z_t_48) (z_t_49) (z_t_50) (z_t_51) (z_t_52) (z_t_53) (z_t_54) (z_t_55) (z_t_56) (z_t_57) (z_t_58) (z_t_59) (z_t_60) l3 r_c61_8 e_c61_8 _) q1271 q1273 q41 q61 q1274 nd_X12_bar ⟨Nat.le_of_ble_eq_true rfl, Nat.le_of_ble_eq_true rfl⟩ rfl rfl hP hD (hK.sub (tys' := []) [] rfl) hN rfl ⟨0, _, rfl⟩ rfl hl.1 rfl (Nat.le_of_ble_eq_true rfl) dX12_allowed_61 ⟨Nat.le_of_ble_eq_true rfl, Nat.le_of_ble_eq_true rfl⟩) hS hA hD (fun H locs hP hD hS => ?_)
        have hP : va_P D vwCl ((h_t, .inr (12, (.int t_thrown :: .ref h_t_tape :: .int t_length :: .int t_a :: .int t_b :: z_t_5 :: z_t_6 :: z_t_7 :: z_t_8 :: z_t_9 :: z_t_10 :: z_t_11 :: z_t_12 :: z_t_13 :: z_t_14 :: z_t_15 :: z_t_16 :: z_t_17 :: z_t_18 :: z_t_19 :: z_t_20 :: z_t_21 :: z_t_22 :: z_t_23 :: z_t_24 :: z_t_25 :: z_t_26 :: z_t_27 :: z_t_28 :: z_t_29 :: z_t_30 :: z_t_31 :: z_t_32 :: z_t_33 :: z_t_34 :: z_t_35 :: z_t_36 :: z_t_37 :: z_t_38 :: z_t_39 :: z_t_40 :: z_t_41 :: z_t_42 :: z_t_43 :: z_t_44 :: z_t_45 :: z_t_46 :: z_t_47 :: z_t_48 :: z_t_49 :: z_t_50 :: z_t_51 :: z_t_52 :: z_t_53 :: z_t_54 :: z_t_55 :: z_t_56 :: z_t_57 :: z_t_58 :: z_t_59 :: z_t_60 :: []))) :: (h_t_tape, .inl (k_t_tape, 200, .inl t_tape)) :: R) H := hP
        have hD : va_D A ((h_t, .inr (12, (.int t_thrown :: .ref h_t_tape :: .int t_length :: .int t_a :: .int t_b :: z_t_5 :: z_t_6 :: z_t_7 :: z_t_8 :: z_t_9 :: z_t_10 :: z_t_11 :: z_t_12 :: z_t_13 :: z_t_14 :: z_t_15 :: z_t_16 :: z_t_17 :: z_t_18 :: z_t_19 :: z_t_20 :: z_t_21 :: z_t_22 :: z_t_23 :: z_t_24 :: z_t_25 :: z_t_26 :: z_t_27 :: z_t_28 :: z_t_29 :: z_t_30 :: z_t_31 :: z_t_32 :: z_t_33 :: z_t_34 :: z_t_35 :: z_t_36 :: z_t_37 :: z_t_38 :: z_t_39 :: z_t_40 :: z_t_41 :: z_t_42 :: z_t_43 :: z_t_44 :: z_t_45 :: z_t_46 :: z_t_47 :: z_t_48 :: z_t_49 :: z_t_50 :: z_t_51 :: z_t_52 :: z_t_53 :: z_t_54 :: z_t_55 :: z_t_56 :: z_t_57 :: z_t_58 :: z_t_59 :: z_t_60 :: []))) :: (h_t_tape, .inl (k_t_tape, 200, .inl t_tape)) :: R) := hD
        refine lv_icmp_ne (tgt := 73) hx hb dX12_allowed_64 (by decide) (fun c10 => ?_) (fun c10 => ?_)
        · have h := br_neg c10 h
          cases h
          exact kk0 _ _ _ hP hD hS (lv_sub hl [0, 1, 2, 3] rfl)
        · have h := br_pos c10 h
          refine lv_iinc (v := (l3 + 1)) (lv' := [(3, .int (l3 + 1)), (0, .ref h_t), (1, .int l1), (2, .int l2)]) hx hb dX12_allowed_67 hl (k := 3) rfl rfl (by decide) rfl (fun ls hl => ?_)
          refine lv_goto (tgt := 44) hx hb dX12_allowed_70 (by decide) ?_
          exact ih l1 l2 (l3 + 1) t_thrown t_length _ h _ _ _ hP hD hS (lv_sub hl [1, 2, 3, 0] rfl) kk0
  have L37 : ∀ (Q : State → Prop) (n : Nat) (l1 : Int32) (l2 : Int32) (t_thrown : Int32) (t_length : Int32) (tg : Nat) (x2 : Int32), f_X12_allowed_L37 l1 t_a t_b t_tape n l2 = some (tg, x2) → ∀ (H : Heap) (locs : List Loc) (ls : Array Slot), va_P D vwCl ((h_t, .inr (12, (.int t_thrown :: .ref h_t_tape :: .int t_length :: .int t_a :: .int t_b :: z_t_5 :: z_t_6 :: z_t_7 :: z_t_8 :: z_t_9 :: z_t_10 :: z_t_11 :: z_t_12 :: z_t_13 :: z_t_14 :: z_t_15 :: z_t_16 :: z_t_17 :: z_t_18 :: z_t_19 :: z_t_20 :: z_t_21 :: z_t_22 :: z_t_23 :: z_t_24 :: z_t_25 :: z_t_26 :: z_t_27 :: z_t_28 :: z_t_29 :: z_t_30 :: z_t_31 :: z_t_32 :: z_t_33 :: z_t_34 :: z_t_35 :: z_t_36 :: z_t_37 :: z_t_38 :: z_t_39 :: z_t_40 :: z_t_41 :: z_t_42 :: z_t_43 :: z_t_44 :: z_t_45 :: z_t_46 :: z_t_47 :: z_t_48 :: z_t_49 :: z_t_50 :: z_t_51 :: z_t_52 :: z_t_53 :: z_t_54 :: z_t_55 :: z_t_56 :: z_t_57 :: z_t_58 :: z_t_59 :: z_t_60 :: []))) :: (h_t_tape, .inl (k_t_tape, 200, .inl t_tape)) :: R) H → va_D A ((h_t, .inr (12, (.int t_thrown :: .ref h_t_tape :: .int t_length :: .int t_a :: .int t_b :: z_t_5 :: z_t_6 :: z_t_7 :: z_t_8 :: z_t_9 :: z_t_10 :: z_t_11 :: z_t_12 :: z_t_13 :: z_t_14 :: z_t_15 :: z_t_16 :: z_t_17 :: z_t_18 :: z_t_19 :: z_t_20 :: z_t_21 :: z_t_22 :: z_t_23 :: z_t_24 :: z_t_25 :: z_t_26 :: z_t_27 :: z_t_28 :: z_t_29 :: z_t_30 :: z_t_31 :: z_t_32 :: z_t_33 :: z_t_34 :: z_t_35 :: z_t_36 :: z_t_37 :: z_t_38 :: z_t_39 :: z_t_40 :: z_t_41 :: z_t_42 :: z_t_43 :: z_t_44 :: z_t_45 :: z_t_46 :: z_t_47 :: z_t_48 :: z_t_49 :: z_t_50 :: z_t_51 :: z_t_52 :: z_t_53 :: z_t_54 :: z_t_55 :: z_t_56 :: z_t_57 :: z_t_58 :: z_t_59 :: z_t_60 :: []))) :: (h_t_tape, .inl (k_t_tape, 200, .inl t_tape)) :: R) → va_S A s.heap H locs → lv_has ls 4 [(0, .ref h_t), (1, .int l1), (2, .int l2)] → (tg = 0 → ∀ (H : Heap) (locs : List Loc) (ls : Array Slot), va_P D vwCl ((h_t, .inr (12, (.int t_thrown :: .ref h_t_tape :: .int t_length :: .int t_a :: .int t_b :: z_t_5 :: z_t_6 :: z_t_7 :: z_t_8 :: z_t_9 :: z_t_10 :: z_t_11 :: z_t_12 :: z_t_13 :: z_t_14 :: z_t_15 :: z_t_16 :: z_t_17 :: z_t_18 :: z_t_19 :: z_t_20 :: z_t_21 :: z_t_22 :: z_t_23 :: z_t_24 :: z_t_25 :: z_t_26 :: z_t_27 :: z_t_28 :: z_t_29 :: z_t_30 :: z_t_31 :: z_t_32 :: z_t_33 :: z_t_34 :: z_t_35 :: z_t_36 :: z_t_37 :: z_t_38 :: z_t_39 :: z_t_40 :: z_t_41 :: z_t_42 :: z_t_43 :: z_t_44 :: z_t_45 :: z_t_46 :: z_t_47 :: z_t_48 :: z_t_49 :: z_t_50 :: z_t_51 :: z_t_52 :: z_t_53 :: z_t_54 :: z_t_55 :: z_t_56 :: z_t_57 :: z_t_58 :: z_t_59 :: z_t_60 :: []))) :: (h_t_tape, .inl (k_t_tape, 200, .inl t_tape)) :: R) H → va_D A ((h_t, .inr (12, (.int t_thrown :: .ref h_t_tape :: .int t_length :: .int t_a :: .int t_b :: z_t_5 :: z_t_6 :: z_t_7 :: z_t_8 :: z_t_9 :: z_t_10 :: z_t_11 :: z_t_12 :: z_t_13 :: z_t_14 :: z_t_15 :: z_t_16 :: z_t_17 :: z_t_18 :: z_t_19 :: z_t_20 :: z_t_21 :: z_t_22 :: z_t_23 :: z_t_24 :: z_t_25 :: z_t_26 :: z_t_27 :: z_t_28 :: z_t_29 :: z_t_30 :: z_t_31 :: z_t_32 :: z_t_33 :: z_t_34 :: z_t_35 :: z_t_36 :: z_t_37 :: z_t_38 :: z_t_39 :: z_t_40 :: z_t_41 :: z_t_42 :: z_t_43 :: z_t_44 :: z_t_45 :: z_t_46 :: z_t_47 :: z_t_48 :: z_t_49 :: z_t_50 :: z_t_51 :: z_t_52 :: z_t_53 :: z_t_54 :: z_t_55 :: z_t_56 :: z_t_57 :: z_t_58 :: z_t_59 :: z_t_60 :: []))) :: (h_t_tape, .inl (k_t_tape, 200, .inl t_tape)) :: R) → va_S A s.heap H locs → lv_has ls 4 [(2, .int x2)] → W p l e { frames := 1, cells := 0, slots := 0, locals := 21 } s m args below meth c H locs 0 0 Q (F0 m 96 ls [])) → (tg = 1 → ∀ (H : Heap) (locs : List Loc) (ls : Array Slot), va_P D vwCl ((h_t, .inr (12, (.int t_thrown :: .ref h_t_tape :: .int t_length :: .int t_a :: .int t_b :: z_t_5 :: z_t_6 :: z_t_7 :: z_t_8 :: z_t_9 :: z_t_10 :: z_t_11 :: z_t_12 :: z_t_13 :: z_t_14 :: z_t_15 :: z_t_16 :: z_t_17 :: z_t_18 :: z_t_19 :: z_t_20 :: z_t_21 :: z_t_22 :: z_t_23 :: z_t_24 :: z_t_25 :: z_t_26 :: z_t_27 :: z_t_28 :: z_t_29 :: z_t_30 :: z_t_31 :: z_t_32 :: z_t_33 :: z_t_34 :: z_t_35 :: z_t_36 :: z_t_37 :: z_t_38 :: z_t_39 :: z_t_40 :: z_t_41 :: z_t_42 :: z_t_43 :: z_t_44 :: z_t_45 :: z_t_46 :: z_t_47 :: z_t_48 :: z_t_49 :: z_t_50 :: z_t_51 :: z_t_52 :: z_t_53 :: z_t_54 :: z_t_55 :: z_t_56 :: z_t_57 :: z_t_58 :: z_t_59 :: z_t_60 :: []))) :: (h_t_tape, .inl (k_t_tape, 200, .inl t_tape)) :: R) H → va_D A ((h_t, .inr (12, (.int t_thrown :: .ref h_t_tape :: .int t_length :: .int t_a :: .int t_b :: z_t_5 :: z_t_6 :: z_t_7 :: z_t_8 :: z_t_9 :: z_t_10 :: z_t_11 :: z_t_12 :: z_t_13 :: z_t_14 :: z_t_15 :: z_t_16 :: z_t_17 :: z_t_18 :: z_t_19 :: z_t_20 :: z_t_21 :: z_t_22 :: z_t_23 :: z_t_24 :: z_t_25 :: z_t_26 :: z_t_27 :: z_t_28 :: z_t_29 :: z_t_30 :: z_t_31 :: z_t_32 :: z_t_33 :: z_t_34 :: z_t_35 :: z_t_36 :: z_t_37 :: z_t_38 :: z_t_39 :: z_t_40 :: z_t_41 :: z_t_42 :: z_t_43 :: z_t_44 :: z_t_45 :: z_t_46 :: z_t_47 :: z_t_48 :: z_t_49 :: z_t_50 :: z_t_51 :: z_t_52 :: z_t_53 :: z_t_54 :: z_t_55 :: z_t_56 :: z_t_57 :: z_t_58 :: z_t_59 :: z_t_60 :: []))) :: (h_t_tape, .inl (k_t_tape, 200, .inl t_tape)) :: R) → va_S A s.heap H locs → lv_has ls 4 [] → W p l e { frames := 1, cells := 0, slots := 0, locals := 21 } s m args below meth c H locs 0 0 Q (F0 m 104 ls [])) → W p l e { frames := 1, cells := 0, slots := 0, locals := 21 } s m args below meth c H locs 0 0 Q (F0 m 37 ls []) := by
    intro Q n
    induction n with
    | zero =>
      intro l1 l2 t_thrown t_length tg x2 h
      rw [f_X12_allowed_L37] at h; cases h
    | succ n ih =>
      intro l1 l2 t_thrown t_length tg x2 h H locs ls hP hD hS hl kk0 kk1
      rw [f_X12_allowed_L37] at h
      refine lv_iload_n hx hb dX12_allowed_37 rfl (lv_at hl 2 rfl) ?_
      refine lv_iload_n hx hb dX12_allowed_38 rfl (lv_at hl 1 rfl) ?_
      refine lv_icmp_ge (tgt := 104) hx hb dX12_allowed_39 (by decide) (fun c6 => ?_) (fun c6 => ?_)
      · have h := br_pos c6 h
        cases h
        exact kk1 rfl _ _ _ hP hD hS (lv_sub hl [] rfl)
      · have h := br_neg c6 h
        refine lv_iconst (v := 0) hx hb dX12_allowed_42 (by decide) ?_
        refine lv_istore_n (lv' := [(3, .int 0), (0, .ref h_t), (1, .int l1), (2, .int l2)]) hx hb dX12_allowed_43 rfl hl (by decide) rfl (fun ls hl => ?_)
        obtain ⟨x3_L44_10, e_L44_10, h⟩ := bnd1_ok h
        refine L44 _ _ l1 l2 0 t_thrown t_length x3_L44_10 e_L44_10 _ _ _ hP hD hS (lv_sub hl [1, 2, 3, 0] rfl) ?_
        intro H locs ls hP hD hS hl
        refine lv_iload_n hx hb dX12_allowed_73 rfl (lv_at hl 2 rfl) ?_
        refine lv_iload_n hx hb dX12_allowed_74 rfl (lv_at hl 3 rfl) ?_
        refine lv_iadd hx hb dX12_allowed_75 ?_
        refine lv_iload_n hx hb dX12_allowed_76 rfl (lv_at hl 1 rfl) ?_
        refine lv_icmp_ge (tgt := 98) hx hb dX12_allowed_77 (by decide) (fun c12 => ?_) (fun c12 => ?_)
        · have h := br_pos c12 h
          refine lv_iinc (v := (l2 + 1)) (lv' := [(2, .int (l2 + 1)), (0, .ref h_t), (1, .int l1), (3, .int x3_L44_10)]) hx hb dX12_allowed_98 hl (k := 2) rfl rfl (by decide) rfl (fun ls hl => ?_)
          refine lv_goto (tgt := 37) hx hb dX12_allowed_101 (by decide) ?_
          exact ih l1 (l2 + 1) t_thrown t_length _ _ h _ _ _ hP hD hS (lv_sub hl [1, 2, 0] rfl) kk0 kk1
        · have h := br_neg c12 h
          refine lv_aload_n hx hb dX12_allowed_80 rfl (lv_at hl 0 rfl) ?_
          refine va_get (D := D) (ci := 12) (v := .ref h_t_tape) (C := RX12) (T := TX12) (N := 61) hx hb ha ix12 hown hK hP 0 rfl rfl 1 (by decide) (ha _ q961) (fun _ h9 => h9) rfl dX12_allowed_81 ?_
          refine lv_iload_n hx hb dX12_allowed_84 rfl (lv_at hl 2 rfl) ?_
          refine lv_iload_n hx hb dX12_allowed_85 rfl (lv_at hl 3 rfl) ?_
          refine lv_iadd hx hb dX12_allowed_86 ?_
          obtain ⟨i13, h⟩ := ix_ok h
          refine va_bald hx hb hK hP 1 0 rfl rfl i13 dX12_allowed_87 ?_
          refine lv_aload_n hx hb dX12_allowed_88 rfl (lv_at hl 0 rfl) ?_
          refine lv_iload_n hx hb dX12_allowed_89 rfl (lv_at hl 3 rfl) ?_
          obtain ⟨r_c90_13, e_c90_13, h⟩ := bnd1_ok h
          refine cl_i (rn_v (ci := 12) (As := [.int x3_L44_10]) (rest := [.int (t_tape (l2 + x3_L44_10).toNatClampNeg)]) S (c_X12_bar l D ((h_t_tape, .inl (k_t_tape, 200, .inl t_tape)) :: R) h_t (.int t_thrown) (.ref h_t_tape) (.int t_length) t_a t_b (z_t_5) (z_t_6) (z_t_7) (z_t_8) (z_t_9) (z_t_10) (z_t_11) (z_t_12) (z_t_13) (z_t_14) (z_t_15) (z_t_16) (z_t_17) (z_t_18) (z_t_19) (z_t_20) (z_t_21) (z_t_22) (z_t_23) (z_t_24) (z_t_25) (z_t_26) (z_t_27) (z_t_28) (z_t_29) (z_t_30) (z_t_31) (z_t_32) (z_t_33) (z_t_34) (z_t_35) (z_t_36) (z_t_37) (z_t_38) (z_t_39) (z_t_40) (z_t_41) (z_t_42) (z_t_43) (z_t_44) (z_t_45) (z_t_46) (z_t_47) (z_t_48) (z_t_49) (z_t_50) (z_t_51) (z_t_52) (z_t_53) (z_t_54) (z_t_55) (z_t_56) (z_t_57) (z_t_58) (z_t_59) (z_t_60) x3_L44_10 r_c90_13 e_c90_13 _) q1271 q1273 q41 q61 q1274 nd_X12_bar ⟨Nat.le_of_ble_eq_true rfl, Nat.le_of_ble_eq_true rfl⟩ rfl rfl hP hD (hK.sub (tys' := []) [] rfl) hN rfl ⟨0, _, rfl⟩ rfl hl.1 rfl (Nat.le_of_ble_eq_true rfl) dX12_allowed_90 ⟨Nat.le_of_ble_eq_true rfl, Nat.le_of_ble_eq_true rfl⟩) hS hA hD (fun H locs hP hD hS => ?_)
          have hP : va_P D vwCl ((h_t, .inr (12, (.int t_thrown :: .ref h_t_tape :: .int t_length :: .int t_a :: .int t_b :: z_t_5 :: z_t_6 :: z_t_7 :: z_t_8 :: z_t_9 :: z_t_10 :: z_t_11 :: z_t_12 :: z_t_13 :: z_t_14 :: z_t_15 :: z_t_16 :: z_t_17 :: z_t_18 :: z_t_19 :: z_t_20 :: z_t_21 :: z_t_22 :: z_t_23 :: z_t_24 :: z_t_25 :: z_t_26 :: z_t_27 :: z_t_28 :: z_t_29 :: z_t_30 :: z_t_31 :: z_t_32 :: z_t_33 :: z_t_34 :: z_t_35 :: z_t_36 :: z_t_37 :: z_t_38 :: z_t_39 :: z_t_40 :: z_t_41 :: z_t_42 :: z_t_43 :: z_t_44 :: z_t_45 :: z_t_46 :: z_t_47 :: z_t_48 :: z_t_49 :: z_t_50 :: z_t_51 :: z_t_52 :: z_t_53 :: z_t_54 :: z_t_55 :: z_t_56 :: z_t_57 :: z_t_58 :: z_t_59 :: z_t_60 :: []))) :: (h_t_tape, .inl (k_t_tape, 200, .inl t_tape)) :: R) H := hP
          have hD : va_D A ((h_t, .inr (12, (.int t_thrown :: .ref h_t_tape :: .int t_length :: .int t_a :: .int t_b :: z_t_5 :: z_t_6 :: z_t_7 :: z_t_8 :: z_t_9 :: z_t_10 :: z_t_11 :: z_t_12 :: z_t_13 :: z_t_14 :: z_t_15 :: z_t_16 :: z_t_17 :: z_t_18 :: z_t_19 :: z_t_20 :: z_t_21 :: z_t_22 :: z_t_23 :: z_t_24 :: z_t_25 :: z_t_26 :: z_t_27 :: z_t_28 :: z_t_29 :: z_t_30 :: z_t_31 :: z_t_32 :: z_t_33 :: z_t_34 :: z_t_35 :: z_t_36 :: z_t_37 :: z_t_38 :: z_t_39 :: z_t_40 :: z_t_41 :: z_t_42 :: z_t_43 :: z_t_44 :: z_t_45 :: z_t_46 :: z_t_47 :: z_t_48 :: z_t_49 :: z_t_50 :: z_t_51 :: z_t_52 :: z_t_53 :: z_t_54 :: z_t_55 :: z_t_56 :: z_t_57 :: z_t_58 :: z_t_59 :: z_t_60 :: []))) :: (h_t_tape, .inl (k_t_tape, 200, .inl t_tape)) :: R) := hD
          refine lv_icmp_le (tgt := 98) hx hb dX12_allowed_93 (by decide) (fun c15 => ?_) (fun c15 => ?_)
          · have h := br_pos c15 h
            refine lv_iinc (v := (l2 + 1)) (lv' := [(2, .int (l2 + 1)), (0, .ref h_t), (1, .int l1), (3, .int x3_L44_10)]) hx hb dX12_allowed_98 hl (k := 2) rfl rfl (by decide) rfl (fun ls hl => ?_)
            refine lv_goto (tgt := 37) hx hb dX12_allowed_101 (by decide) ?_
            exact ih l1 (l2 + 1) t_thrown t_length _ _ h _ _ _ hP hD hS (lv_sub hl [1, 2, 0] rfl) kk0 kk1
          · have h := br_neg c15 h
            cases h
            exact kk0 rfl _ _ _ hP hD hS (lv_sub hl [2] rfl)
  unfold f_X12_allowed at h
  refine lv_aload_n hx hb dX12_allowed_0 rfl (lv_at hl 0 rfl) ?_
  refine lv_iconst (v := 0) hx hb dX12_allowed_1 (by decide) ?_
  refine va_put (D := D) (ci := 12) (v := .int 0) (ty := .int) (C := RX12) (T := TX12) (N := 61) hx hb ha ix12 tyX12 tyX12_ok nmX12 hown hK hP hD hS 0 rfl rfl 0 (by decide) (ha _ q960) (fun _ h9 => h9) rfl (by decide +kernel) rfl rfl (Nat.le_of_ble_eq_true rfl) dX12_allowed_2 (fun H locs hP hD hS => ?_)
  have hP : va_P D vwCl ((h_t, .inr (12, (.int 0 :: .ref h_t_tape :: .int t_length :: .int t_a :: .int t_b :: z_t_5 :: z_t_6 :: z_t_7 :: z_t_8 :: z_t_9 :: z_t_10 :: z_t_11 :: z_t_12 :: z_t_13 :: z_t_14 :: z_t_15 :: z_t_16 :: z_t_17 :: z_t_18 :: z_t_19 :: z_t_20 :: z_t_21 :: z_t_22 :: z_t_23 :: z_t_24 :: z_t_25 :: z_t_26 :: z_t_27 :: z_t_28 :: z_t_29 :: z_t_30 :: z_t_31 :: z_t_32 :: z_t_33 :: z_t_34 :: z_t_35 :: z_t_36 :: z_t_37 :: z_t_38 :: z_t_39 :: z_t_40 :: z_t_41 :: z_t_42 :: z_t_43 :: z_t_44 :: z_t_45 :: z_t_46 :: z_t_47 :: z_t_48 :: z_t_49 :: z_t_50 :: z_t_51 :: z_t_52 :: z_t_53 :: z_t_54 :: z_t_55 :: z_t_56 :: z_t_57 :: z_t_58 :: z_t_59 :: z_t_60 :: []))) :: (h_t_tape, .inl (k_t_tape, 200, .inl t_tape)) :: R) H := hP
  have hD : va_D A ((h_t, .inr (12, (.int 0 :: .ref h_t_tape :: .int t_length :: .int t_a :: .int t_b :: z_t_5 :: z_t_6 :: z_t_7 :: z_t_8 :: z_t_9 :: z_t_10 :: z_t_11 :: z_t_12 :: z_t_13 :: z_t_14 :: z_t_15 :: z_t_16 :: z_t_17 :: z_t_18 :: z_t_19 :: z_t_20 :: z_t_21 :: z_t_22 :: z_t_23 :: z_t_24 :: z_t_25 :: z_t_26 :: z_t_27 :: z_t_28 :: z_t_29 :: z_t_30 :: z_t_31 :: z_t_32 :: z_t_33 :: z_t_34 :: z_t_35 :: z_t_36 :: z_t_37 :: z_t_38 :: z_t_39 :: z_t_40 :: z_t_41 :: z_t_42 :: z_t_43 :: z_t_44 :: z_t_45 :: z_t_46 :: z_t_47 :: z_t_48 :: z_t_49 :: z_t_50 :: z_t_51 :: z_t_52 :: z_t_53 :: z_t_54 :: z_t_55 :: z_t_56 :: z_t_57 :: z_t_58 :: z_t_59 :: z_t_60 :: []))) :: (h_t_tape, .inl (k_t_tape, 200, .inl t_tape)) :: R) := hD
  refine lv_aload_n hx hb dX12_allowed_5 rfl (lv_at hl 0 rfl) ?_
  obtain ⟨r_c6_0, t_length_c6_0, e_c6_0, h⟩ := bnd2_ok h
  refine cl_i (rn_v (ci := 12) (As := []) (rest := []) S (c_X12_taken l D ((h_t_tape, .inl (k_t_tape, 200, .inl t_tape)) :: R) h_t (.int 0) (.ref h_t_tape) t_length (.int t_a) (.int t_b) (z_t_5) (z_t_6) (z_t_7) (z_t_8) (z_t_9) (z_t_10) (z_t_11) (z_t_12) (z_t_13) (z_t_14) (z_t_15) (z_t_16) (z_t_17) (z_t_18) (z_t_19) (z_t_20) (z_t_21) (z_t_22) (z_t_23) (z_t_24) (z_t_25) (z_t_26) (z_t_27) (z_t_28) (z_t_29) (z_t_30) (z_t_31) (z_t_32) (z_t_33) (z_t_34) (z_t_35) (z_t_36) (z_t_37) (z_t_38) (z_t_39) (z_t_40) (z_t_41) (z_t_42) (z_t_43) (z_t_44) (z_t_45) (z_t_46) (z_t_47) (z_t_48) (z_t_49) (z_t_50) (z_t_51) (z_t_52) (z_t_53) (z_t_54) (z_t_55) (z_t_56) (z_t_57) (z_t_58) (z_t_59) (z_t_60) r_c6_0 t_length_c6_0 e_c6_0 _) q1255 q1257 q38 q61 q1258 nd_X12_taken ⟨Nat.le_of_ble_eq_true rfl, Nat.le_of_ble_eq_true rfl⟩ rfl rfl hP hD (hK.sub (tys' := []) [] rfl) hN rfl ⟨0, _, rfl⟩ rfl hl.1 rfl (Nat.le_of_ble_eq_true rfl) dX12_allowed_6 ⟨Nat.le_of_ble_eq_true rfl, Nat.le_of_ble_eq_true rfl⟩) hS hA hD (fun H locs hP hD hS => ?_)
  have hP : va_P D vwCl ((h_t, .inr (12, (.int 0 :: .ref h_t_tape :: .int t_length_c6_0 :: .int t_a :: .int t_b :: z_t_5 :: z_t_6 :: z_t_7 :: z_t_8 :: z_t_9 :: z_t_10 :: z_t_11 :: z_t_12 :: z_t_13 :: z_t_14 :: z_t_15 :: z_t_16 :: z_t_17 :: z_t_18 :: z_t_19 :: z_t_20 :: z_t_21 :: z_t_22 :: z_t_23 :: z_t_24 :: z_t_25 :: z_t_26 :: z_t_27 :: z_t_28 :: z_t_29 :: z_t_30 :: z_t_31 :: z_t_32 :: z_t_33 :: z_t_34 :: z_t_35 :: z_t_36 :: z_t_37 :: z_t_38 :: z_t_39 :: z_t_40 :: z_t_41 :: z_t_42 :: z_t_43 :: z_t_44 :: z_t_45 :: z_t_46 :: z_t_47 :: z_t_48 :: z_t_49 :: z_t_50 :: z_t_51 :: z_t_52 :: z_t_53 :: z_t_54 :: z_t_55 :: z_t_56 :: z_t_57 :: z_t_58 :: z_t_59 :: z_t_60 :: []))) :: (h_t_tape, .inl (k_t_tape, 200, .inl t_tape)) :: R) H := hP
  have hD : va_D A ((h_t, .inr (12, (.int 0 :: .ref h_t_tape :: .int t_length_c6_0 :: .int t_a :: .int t_b :: z_t_5 :: z_t_6 :: z_t_7 :: z_t_8 :: z_t_9 :: z_t_10 :: z_t_11 :: z_t_12 :: z_t_13 :: z_t_14 :: z_t_15 :: z_t_16 :: z_t_17 :: z_t_18 :: z_t_19 :: z_t_20 :: z_t_21 :: z_t_22 :: z_t_23 :: z_t_24 :: z_t_25 :: z_t_26 :: z_t_27 :: z_t_28 :: z_t_29 :: z_t_30 :: z_t_31 :: z_t_32 :: z_t_33 :: z_t_34 :: z_t_35 :: z_t_36 :: z_t_37 :: z_t_38 :: z_t_39 :: z_t_40 :: z_t_41 :: z_t_42 :: z_t_43 :: z_t_44 :: z_t_45 :: z_t_46 :: z_t_47 :: z_t_48 :: z_t_49 :: z_t_50 :: z_t_51 :: z_t_52 :: z_t_53 :: z_t_54 :: z_t_55 :: z_t_56 :: z_t_57 :: z_t_58 :: z_t_59 :: z_t_60 :: []))) :: (h_t_tape, .inl (k_t_tape, 200, .inl t_tape)) :: R) := hD
  refine lv_istore_n (lv' := [(1, .int r_c6_0), (0, .ref h_t)]) hx hb dX12_allowed_9 rfl hl (by decide) rfl (fun ls hl => ?_)
  refine lv_iconst (v := 0) hx hb dX12_allowed_10 (by decide) ?_
  refine lv_istore_n (lv' := [(2, .int 0), (1, .int r_c6_0), (0, .ref h_t)]) hx hb dX12_allowed_11 rfl hl (by decide) rfl (fun ls hl => ?_)
  obtain ⟨tg_L12_4, e_L12_4, h⟩ := bnd1_ok h
  refine L12 _ _ r_c6_0 0 0 t_length_c6_0 tg_L12_4 e_L12_4 _ _ _ hP hD hS (lv_sub hl [2, 1, 0] rfl) ?_ ?_
  · intro q9 H locs ls hP hD hS hl
    have h := br_pos q9 h
    refine lv_bipush (v := (-2)) hx hb dX12_allowed_26 (by decide) ?_
    cases h
    exact rt_i S hr hlk hP hD hS dX12_allowed_28
  · intro q9 H locs ls hP hD hS hl
    have h := br_neg (by rw [q9]; decide) h
    refine lv_iconst (v := 0) hx hb dX12_allowed_35 (by decide) ?_
    refine lv_istore_n (lv' := [(2, .int 0), (0, .ref h_t), (1, .int r_c6_0)]) hx hb dX12_allowed_36 rfl hl (by decide) rfl (fun ls hl => ?_)
    obtain ⟨tg_L37_15, x2_L37_15, e_L37_15, h⟩ := bnd2_ok h
    refine L37 _ _ r_c6_0 0 0 t_length_c6_0 tg_L37_15 x2_L37_15 e_L37_15 _ _ _ hP hD hS (lv_sub hl [1, 2, 0] rfl) ?_ ?_
    · intro q9 H locs ls hP hD hS hl
      have h := br_pos q9 h
      refine lv_iload_n hx hb dX12_allowed_96 rfl (lv_at hl 0 rfl) ?_
      cases h
      exact rt_i S hr hlk hP hD hS dX12_allowed_97
    · intro q9 H locs ls hP hD hS hl
      have h := br_neg (by rw [q9]; decide) h
      refine lv_iconst (v := (-1)) hx hb dX12_allowed_104 (by decide) ?_
      cases h
      exact rt_i S hr hlk hP hD hS dX12_allowed_105
