noncomputable def f_X12_one (t_thrown : Int32) (t_a : Int32) (t_b : Int32) (l1 : Int32) : Option (Int32 × Int32) :=
  if l1 < 1 then (
   bnd2 (f_X12_throwsIf t_thrown 1) fun r_c17_1 t_thrown_c17_1 => (
    if r_c17_1 = 0 then (
     if t_b ≤ 0 then (
      if l1 = 1 then (
       some ((t_a - 1), t_thrown_c17_1)
      ) else (
       some (((t_a + t_b) - 1), t_thrown_c17_1)
      )
     ) else (
      if l1 = 1 then (
       some (t_a, t_thrown_c17_1)
      ) else (
       if l1 = 2 then (
        some (t_b, t_thrown_c17_1)
       ) else (
        some (0, t_thrown_c17_1)
       )
      )
     )
    ) else (
     some (0, t_thrown_c17_1)
    )
   )
  ) else (
   if l1 ≤ 60 then (
    bnd2 (f_X12_throwsIf t_thrown 0) fun r_c17_8 t_thrown_c17_8 => (
     if r_c17_8 = 0 then (
      if t_b ≤ 0 then (
       if l1 = 1 then (
        some ((t_a - 1), t_thrown_c17_8)
       ) else (
        some (((t_a + t_b) - 1), t_thrown_c17_8)
       )
      ) else (
       if l1 = 1 then (
        some (t_a, t_thrown_c17_8)
       ) else (
        if l1 = 2 then (
         some (t_b, t_thrown_c17_8)
        ) else (
         some (0, t_thrown_c17_8)
        )
       )
      )
     ) else (
      some (0, t_thrown_c17_8)
     )
    )
   ) else (
    bnd2 (f_X12_throwsIf t_thrown 1) fun r_c17_14 t_thrown_c17_14 => (
     if r_c17_14 = 0 then (
      if t_b ≤ 0 then (
       if l1 = 1 then (
        some ((t_a - 1), t_thrown_c17_14)
       ) else (
        some (((t_a + t_b) - 1), t_thrown_c17_14)
       )
      ) else (
       if l1 = 1 then (
        some (t_a, t_thrown_c17_14)
       ) else (
        if l1 = 2 then (
         some (t_b, t_thrown_c17_14)
        ) else (
         some (0, t_thrown_c17_14)
        )
       )
      )
     ) else (
      some (0, t_thrown_c17_14)
     )
    )
   )
  )
set_option maxHeartbeats 4000000 in
set_option maxRecDepth 100000 in
theorem c_X12_one (l : Launch) (D : va_G) (R : va_W) (h_t : Nat) (t_thrown : Int32) (z_t_1 : Value) (z_t_2 : Value) (t_a : Int32) (t_b : Int32) (z_t_5 : Value) (z_t_6 : Value) (z_t_7 : Value) (z_t_8 : Value) (z_t_9 : Value) (z_t_10 : Value) (z_t_11 : Value) (z_t_12 : Value) (z_t_13 : Value) (z_t_14 : Value) (z_t_15 : Value) (z_t_16 : Value) (z_t_17 : Value) (z_t_18 : Value) (z_t_19 : Value) (z_t_20 : Value) (z_t_21 : Value) (z_t_22 : Value) (z_t_23 : Value) (z_t_24 : Value) (z_t_25 : Value) (z_t_26 : Value) (z_t_27 : Value) (z_t_28 : Value) (z_t_29 : Value) (z_t_30 : Value) (z_t_31 : Value) (z_t_32 : Value) (z_t_33 : Value) (z_t_34 : Value) (z_t_35 : Value) (z_t_36 : Value) (z_t_37 : Value) (z_t_38 : Value) (z_t_39 : Value) (z_t_40 : Value) (z_t_41 : Value) (z_t_42 : Value) (z_t_43 : Value) (z_t_44 : Value) (z_t_45 : Value) (z_t_46 : Value) (z_t_47 : Value) (z_t_48 : Value) (z_t_49 : Value) (z_t_50 : Value) (z_t_51 : Value) (z_t_52 : Value) (z_t_53 : Value) (z_t_54 : Value) (z_t_55 : Value) (z_t_56 : Value) (z_t_57 : Value) (z_t_58 : Value) (z_t_59 : Value) (z_t_60 : Value) (l1 : Int32) (r : Int32) (o_t_thrown : Int32)  (h : f_X12_one t_thrown t_a t_b l1 = some (r, o_t_thrown)) (sz : Nat) : Met l yX12_one (WD yX12_one cX12_one 2 (some .int)) ({ frames := 1, cells := 0, slots := 0, locals := 21 }) (va_Pc [.ref h_t, .int l1] (PcW D [] ((h_t, .inr (12, (.int t_thrown :: z_t_1 :: z_t_2 :: .int t_a :: .int t_b :: z_t_5 :: z_t_6 :: z_t_7 :: z_t_8 :: z_t_9 :: z_t_10 :: z_t_11 :: z_t_12 :: z_t_13 :: z_t_14 :: z_t_15 :: z_t_16 :: z_t_17 :: z_t_18 :: z_t_19 :: z_t_20 :: z_t_21 :: z_t_22 :: z_t_23 :: z_t_24 :: z_t_25 :: z_t_26 :: z_t_27 :: z_t_28 :: z_t_29 :: z_t_30 :: z_t_31 :: z_t_32 :: z_t_33 :: z_t_34 :: z_t_35 :: z_t_36 :: z_t_37 :: z_t_38 :: z_t_39 :: z_t_40 :: z_t_41 :: z_t_42 :: z_t_43 :: z_t_44 :: z_t_45 :: z_t_46 :: z_t_47 :: z_t_48 :: z_t_49 :: z_t_50 :: z_t_51 :: z_t_52 :: z_t_53 :: z_t_54 :: z_t_55 :: z_t_56 :: z_t_57 :: z_t_58 :: z_t_59 :: z_t_60 :: []))) :: R) sz)) (QI D r ((h_t, .inr (12, (.int o_t_thrown :: z_t_1 :: z_t_2 :: .int t_a :: .int t_b :: z_t_5 :: z_t_6 :: z_t_7 :: z_t_8 :: z_t_9 :: z_t_10 :: z_t_11 :: z_t_12 :: z_t_13 :: z_t_14 :: z_t_15 :: z_t_16 :: z_t_17 :: z_t_18 :: z_t_19 :: z_t_20 :: z_t_21 :: z_t_22 :: z_t_23 :: z_t_24 :: z_t_25 :: z_t_26 :: z_t_27 :: z_t_28 :: z_t_29 :: z_t_30 :: z_t_31 :: z_t_32 :: z_t_33 :: z_t_34 :: z_t_35 :: z_t_36 :: z_t_37 :: z_t_38 :: z_t_39 :: z_t_40 :: z_t_41 :: z_t_42 :: z_t_43 :: z_t_44 :: z_t_45 :: z_t_46 :: z_t_47 :: z_t_48 :: z_t_49 :: z_t_50 :: z_t_51 :: z_t_52 :: z_t_53 :: z_t_54 :: z_t_55 :: z_t_56 :: z_t_57 :: z_t_58 :: z_t_59 :: z_t_60 :: []))) :: R) (va_A ((h_t, .inr (12, (.int t_thrown :: z_t_1 :: z_t_2 :: .int t_a :: .int t_b :: z_t_5 :: z_t_6 :: z_t_7 :: z_t_8 :: z_t_9 :: z_t_10 :: z_t_11 :: z_t_12 :: z_t_13 :: z_t_14 :: z_t_15 :: z_t_16 :: z_t_17 :: z_t_18 :: z_t_19 :: z_t_20 :: z_t_21 :: z_t_22 :: z_t_23 :: z_t_24 :: z_t_25 :: z_t_26 :: z_t_27 :: z_t_28 :: z_t_29 :: z_t_30 :: z_t_31 :: z_t_32 :: z_t_33 :: z_t_34 :: z_t_35 :: z_t_36 :: z_t_37 :: z_t_38 :: z_t_39 :: z_t_40 :: z_t_41 :: z_t_42 :: z_t_43 :: z_t_44 :: z_t_45 :: z_t_46 :: z_t_47 :: z_t_48 :: z_t_49 :: z_t_50 :: z_t_51 :: z_t_52 :: z_t_53 :: z_t_54 :: z_t_55 :: z_t_56 :: z_t_57 :: z_t_58 :: z_t_59 :: z_t_60 :: []))) :: R) sz)) 0 0 (va_A ((h_t, .inr (12, (.int t_thrown :: z_t_1 :: z_t_2 :: .int t_a :: .int t_b :: z_t_5 :: z_t_6 :: z_t_7 :: z_t_8 :: z_t_9 :: z_t_10 :: z_t_11 :: z_t_12 :: z_t_13 :: z_t_14 :: z_t_15 :: z_t_16 :: z_t_17 :: z_t_18 :: z_t_19 :: z_t_20 :: z_t_21 :: z_t_22 :: z_t_23 :: z_t_24 :: z_t_25 :: z_t_26 :: z_t_27 :: z_t_28 :: z_t_29 :: z_t_30 :: z_t_31 :: z_t_32 :: z_t_33 :: z_t_34 :: z_t_35 :: z_t_36 :: z_t_37 :: z_t_38 :: z_t_39 :: z_t_40 :: z_t_41 :: z_t_42 :: z_t_43 :: z_t_44 :: z_t_45 :: z_t_46 :: z_t_47 :: z_t_48 :: z_t_49 :: z_t_50 :: z_t_51 :: z_t_52 :: z_t_53 :: z_t_54 :: z_t_55 :: z_t_56 :: z_t_57 :: z_t_58 :: z_t_59 :: z_t_60 :: []))) :: R) sz) := by
  refine ct_start (QF := fun A => QI D r ((h_t, .inr (12, (.int o_t_thrown :: z_t_1 :: z_t_2 :: .int t_a :: .int t_b :: z_t_5 :: z_t_6 :: z_t_7 :: z_t_8 :: z_t_9 :: z_t_10 :: z_t_11 :: z_t_12 :: z_t_13 :: z_t_14 :: z_t_15 :: z_t_16 :: z_t_17 :: z_t_18 :: z_t_19 :: z_t_20 :: z_t_21 :: z_t_22 :: z_t_23 :: z_t_24 :: z_t_25 :: z_t_26 :: z_t_27 :: z_t_28 :: z_t_29 :: z_t_30 :: z_t_31 :: z_t_32 :: z_t_33 :: z_t_34 :: z_t_35 :: z_t_36 :: z_t_37 :: z_t_38 :: z_t_39 :: z_t_40 :: z_t_41 :: z_t_42 :: z_t_43 :: z_t_44 :: z_t_45 :: z_t_46 :: z_t_47 :: z_t_48 :: z_t_49 :: z_t_50 :: z_t_51 :: z_t_52 :: z_t_53 :: z_t_54 :: z_t_55 :: z_t_56 :: z_t_57 :: z_t_58 :: z_t_59 :: z_t_60 :: []))) :: R) A) ?_ ?_ ?_
  · decide +kernel
  · exact Nat.le_of_ble_eq_true rfl
  intro p e s m args below meth c A ls S hr hlk hnm hS hA hP hD hK hN hl
  have S : CallFix p m c cX12_one 2 s args AL "DigitBenchModel" := S
  have hx := S.1
  have hb := S.2.1
  have hown := S.2.2.2.1
  have ha := S.2.2.2.2
  have hl : lv_has ls 2 [(0, .ref h_t), (1, .int l1)] := hl
  unfold f_X12_one at h
  refine lv_aload_n hx hb dX12_one_0 rfl (lv_at hl 0 rfl) ?_
  refine lv_iload_n hx hb dX12_one_1 rfl (lv_at hl 1 rfl) ?_
  refine lv_iconst (v := 1) hx hb dX12_one_2 (by decide) ?_
  refine lv_icmp_lt (tgt := 12) hx hb dX12_one_3 (by decide) (fun c1 => ?_) (fun c1 => ?_)
  · have h := br_pos c1 h
    refine lv_iconst (v := 1) hx hb dX12_one_12 (by decide) ?_
    refine lv_goto (tgt := 17) hx hb dX12_one_13 (by decide) ?_
    obtain ⟨r_c17_1, t_thrown_c17_1, e_c17_1, h⟩ := bnd2_ok h
    refine cl_z (rn_v (ci := 12) (As := [.int 1]) (rest := []) S (c_X12_throwsIf l D (R) h_t t_thrown (z_t_1) (z_t_2) (.int t_a) (.int t_b) (z_t_5) (z_t_6) (z_t_7) (z_t_8) (z_t_9) (z_t_10) (z_t_11) (z_t_12) (z_t_13) (z_t_14) (z_t_15) (z_t_16) (z_t_17) (z_t_18) (z_t_19) (z_t_20) (z_t_21) (z_t_22) (z_t_23) (z_t_24) (z_t_25) (z_t_26) (z_t_27) (z_t_28) (z_t_29) (z_t_30) (z_t_31) (z_t_32) (z_t_33) (z_t_34) (z_t_35) (z_t_36) (z_t_37) (z_t_38) (z_t_39) (z_t_40) (z_t_41) (z_t_42) (z_t_43) (z_t_44) (z_t_45) (z_t_46) (z_t_47) (z_t_48) (z_t_49) (z_t_50) (z_t_51) (z_t_52) (z_t_53) (z_t_54) (z_t_55) (z_t_56) (z_t_57) (z_t_58) (z_t_59) (z_t_60) 1 r_c17_1 t_thrown_c17_1 (by decide) e_c17_1 _) q1214 q1216 q34 q61 q1217 nd_X12_throwsIf ⟨Nat.le_of_ble_eq_true rfl, Nat.le_of_ble_eq_true rfl⟩ rfl rfl hP hD (hK.sub (tys' := []) [] rfl) hN rfl ⟨0, _, rfl⟩ rfl hl.1 rfl (Nat.le_of_ble_eq_true rfl) dX12_one_17 ⟨Nat.le_of_ble_eq_true rfl, Nat.le_of_ble_eq_true rfl⟩) hS hA hD (fun H locs hP hD hS z_c17_1 => ?_)
    have hP : va_P D vwCl ((h_t, .inr (12, (.int t_thrown_c17_1 :: z_t_1 :: z_t_2 :: .int t_a :: .int t_b :: z_t_5 :: z_t_6 :: z_t_7 :: z_t_8 :: z_t_9 :: z_t_10 :: z_t_11 :: z_t_12 :: z_t_13 :: z_t_14 :: z_t_15 :: z_t_16 :: z_t_17 :: z_t_18 :: z_t_19 :: z_t_20 :: z_t_21 :: z_t_22 :: z_t_23 :: z_t_24 :: z_t_25 :: z_t_26 :: z_t_27 :: z_t_28 :: z_t_29 :: z_t_30 :: z_t_31 :: z_t_32 :: z_t_33 :: z_t_34 :: z_t_35 :: z_t_36 :: z_t_37 :: z_t_38 :: z_t_39 :: z_t_40 :: z_t_41 :: z_t_42 :: z_t_43 :: z_t_44 :: z_t_45 :: z_t_46 :: z_t_47 :: z_t_48 :: z_t_49 :: z_t_50 :: z_t_51 :: z_t_52 :: z_t_53 :: z_t_54 :: z_t_55 :: z_t_56 :: z_t_57 :: z_t_58 :: z_t_59 :: z_t_60 :: []))) :: R) H := hP
    have hD : va_D A ((h_t, .inr (12, (.int t_thrown_c17_1 :: z_t_1 :: z_t_2 :: .int t_a :: .int t_b :: z_t_5 :: z_t_6 :: z_t_7 :: z_t_8 :: z_t_9 :: z_t_10 :: z_t_11 :: z_t_12 :: z_t_13 :: z_t_14 :: z_t_15 :: z_t_16 :: z_t_17 :: z_t_18 :: z_t_19 :: z_t_20 :: z_t_21 :: z_t_22 :: z_t_23 :: z_t_24 :: z_t_25 :: z_t_26 :: z_t_27 :: z_t_28 :: z_t_29 :: z_t_30 :: z_t_31 :: z_t_32 :: z_t_33 :: z_t_34 :: z_t_35 :: z_t_36 :: z_t_37 :: z_t_38 :: z_t_39 :: z_t_40 :: z_t_41 :: z_t_42 :: z_t_43 :: z_t_44 :: z_t_45 :: z_t_46 :: z_t_47 :: z_t_48 :: z_t_49 :: z_t_50 :: z_t_51 :: z_t_52 :: z_t_53 :: z_t_54 :: z_t_55 :: z_t_56 :: z_t_57 :: z_t_58 :: z_t_59 :: z_t_60 :: []))) :: R) := hD
    refine lv_if_eq (tgt := 25) hx hb dX12_one_20 (by decide) (fun c3 => ?_) (fun c3 => ?_)
    · have h := br_pos c3 h
      refine lv_aload_n hx hb dX12_one_25 rfl (lv_at hl 0 rfl) ?_
      refine va_get (D := D) (ci := 12) (v := .int t_b) (C := RX12) (T := TX12) (N := 61) hx hb ha ix12 hown hK hP 0 rfl rfl 4 (by decide) (ha _ q964) (fun _ h9 => h9) rfl dX12_one_26 ?_
      refine lv_if_le (tgt := 58) hx hb dX12_one_29 (by decide) (fun c4 => ?_) (fun c4 => ?_)
      · have h := br_pos c4 h
        refine lv_iload_n hx hb dX12_one_58 rfl (lv_at hl 1 rfl) ?_
        refine lv_iconst (v := 1) hx hb dX12_one_59 (by decide) ?_
        refine lv_icmp_ne (tgt := 72) hx hb dX12_one_60 (by decide) (fun c5 => ?_) (fun c5 => ?_)
        · have h := br_neg c5 h
          refine lv_aload_n hx hb dX12_one_72 rfl (lv_at hl 0 rfl) ?_
          refine va_get (D := D) (ci := 12) (v := .int t_a) (C := RX12) (T := TX12) (N := 61) hx hb ha ix12 hown hK hP 0 rfl rfl 3 (by decide) (ha _ q963) (fun _ h9 => h9) rfl dX12_one_73 ?_
          refine lv_aload_n hx hb dX12_one_76 rfl (lv_at hl 0 rfl) ?_
          refine va_get (D := D) (ci := 12) (v := .int t_b) (C := RX12) (T := TX12) (N := 61) hx hb ha ix12 hown hK hP 0 rfl rfl 4 (by decide) (ha _ q964) (fun _ h9 => h9) rfl dX12_one_77 ?_
          refine lv_iadd hx hb dX12_one_80 ?_
          refine lv_iconst (v := 1) hx hb dX12_one_81 (by decide) ?_
          refine lv_isub hx hb dX12_one_82 ?_
          cases h
          exact rt_i S hr hlk hP hD hS dX12_one_83
        · have h := br_pos c5 h
          refine lv_aload_n hx hb dX12_one_63 rfl (lv_at hl 0 rfl) ?_
          refine va_get (D := D) (ci := 12) (v := .int t_a) (C := RX12) (T := TX12) (N := 61) hx hb ha ix12 hown hK hP 0 rfl rfl 3 (by decide) (ha _ q963) (fun _ h9 => h9) rfl dX12_one_64 ?_
          refine lv_iconst (v := 1) hx hb dX12_one_67 (by decide) ?_
          refine lv_isub hx hb dX12_one_68 ?_
          refine lv_goto (tgt := 83) hx hb dX12_one_69 (by decide) ?_
          cases h
          exact rt_i S hr hlk hP hD hS dX12_one_83
      · have h := br_neg c4 h
        refine lv_iload_n hx hb dX12_one_32 rfl (lv_at hl 1 rfl) ?_
        refine lv_iconst (v := 1) hx hb dX12_one_33 (by decide) ?_
        refine lv_icmp_ne (tgt := 44) hx hb dX12_one_34 (by decide) (fun c6 => ?_) (fun c6 => ?_)
        · have h := br_neg c6 h
          refine lv_iload_n hx hb dX12_one_44 rfl (lv_at hl 1 rfl) ?_
          refine lv_iconst (v := 2) hx hb dX12_one_45 (by decide) ?_
          refine lv_icmp_ne (tgt := 56) hx hb dX12_one_46 (by decide) (fun c7 => ?_) (fun c7 => ?_)
          · have h := br_neg c7 h
            refine lv_iconst (v := 0) hx hb dX12_one_56 (by decide) ?_
            cases h
            exact rt_i S hr hlk hP hD hS dX12_one_57
          · have h := br_pos c7 h
            refine lv_aload_n hx hb dX12_one_49 rfl (lv_at hl 0 rfl) ?_
            refine va_get (D := D) (ci := 12) (v := .int t_b) (C := RX12) (T := TX12) (N := 61) hx hb ha ix12 hown hK hP 0 rfl rfl 4 (by decide) (ha _ q964) (fun _ h9 => h9) rfl dX12_one_50 ?_
            refine lv_goto (tgt := 57) hx hb dX12_one_53 (by decide) ?_
            cases h
            exact rt_i S hr hlk hP hD hS dX12_one_57
        · have h := br_pos c6 h
          refine lv_aload_n hx hb dX12_one_37 rfl (lv_at hl 0 rfl) ?_
          refine va_get (D := D) (ci := 12) (v := .int t_a) (C := RX12) (T := TX12) (N := 61) hx hb ha ix12 hown hK hP 0 rfl rfl 3 (by decide) (ha _ q963) (fun _ h9 => h9) rfl dX12_one_38 ?_
          refine lv_goto (tgt := 57) hx hb dX12_one_41 (by decide) ?_
          cases h
          exact rt_i S hr hlk hP hD hS dX12_one_57
    · have h := br_neg c3 h
      refine lv_iconst (v := 0) hx hb dX12_one_23 (by decide) ?_
      cases h
      exact rt_i S hr hlk hP hD hS dX12_one_24
  · have h := br_neg c1 h
    refine lv_iload_n hx hb dX12_one_6 rfl (lv_at hl 1 rfl) ?_
    refine lv_bipush (v := 60) hx hb dX12_one_7 (by decide) ?_
    refine lv_icmp_le (tgt := 16) hx hb dX12_one_9 (by decide) (fun c8 => ?_) (fun c8 => ?_)
    · have h := br_pos c8 h
      refine lv_iconst (v := 0) hx hb dX12_one_16 (by decide) ?_
      obtain ⟨r_c17_8, t_thrown_c17_8, e_c17_8, h⟩ := bnd2_ok h
      refine cl_z (rn_v (ci := 12) (As := [.int 0]) (rest := []) S (c_X12_throwsIf l D (R) h_t t_thrown (z_t_1) (z_t_2) (.int t_a) (.int t_b) (z_t_5) (z_t_6) (z_t_7) (z_t_8) (z_t_9) (z_t_10) (z_t_11) (z_t_12) (z_t_13) (z_t_14) (z_t_15) (z_t_16) (z_t_17) (z_t_18) (z_t_19) (z_t_20) (z_t_21) (z_t_22) (z_t_23) (z_t_24) (z_t_25) (z_t_26) (z_t_27) (z_t_28) (z_t_29) (z_t_30) (z_t_31) (z_t_32) (z_t_33) (z_t_34) (z_t_35) (z_t_36) (z_t_37) (z_t_38) (z_t_39) (z_t_40) (z_t_41) (z_t_42) (z_t_43) (z_t_44) (z_t_45) (z_t_46) (z_t_47) (z_t_48) (z_t_49) (z_t_50) (z_t_51) (z_t_52) (z_t_53) (z_t_54) (z_t_55) (z_t_56) (z_t_57) (z_t_58) (z_t_59) (z_t_60) 0 r_c17_8 t_thrown_c17_8 (by decide) e_c17_8 _) q1214 q1216 q34 q61 q1217 nd_X12_throwsIf ⟨Nat.le_of_ble_eq_true rfl, Nat.le_of_ble_eq_true rfl⟩ rfl rfl hP hD (hK.sub (tys' := []) [] rfl) hN rfl ⟨0, _, rfl⟩ rfl hl.1 rfl (Nat.le_of_ble_eq_true rfl) dX12_one_17 ⟨Nat.le_of_ble_eq_true rfl, Nat.le_of_ble_eq_true rfl⟩) hS hA hD (fun H locs hP hD hS z_c17_8 => ?_)
      have hP : va_P D vwCl ((h_t, .inr (12, (.int t_thrown_c17_8 :: z_t_1 :: z_t_2 :: .int t_a :: .int t_b :: z_t_5 :: z_t_6 :: z_t_7 :: z_t_8 :: z_t_9 :: z_t_10 :: z_t_11 :: z_t_12 :: z_t_13 :: z_t_14 :: z_t_15 :: z_t_16 :: z_t_17 :: z_t_18 :: z_t_19 :: z_t_20 :: z_t_21 :: z_t_22 :: z_t_23 :: z_t_24 :: z_t_25 :: z_t_26 :: z_t_27 :: z_t_28 :: z_t_29 :: z_t_30 :: z_t_31 :: z_t_32 :: z_t_33 :: z_t_34 :: z_t_35 :: z_t_36 :: z_t_37 :: z_t_38 :: z_t_39 :: z_t_40 :: z_t_41 :: z_t_42 :: z_t_43 :: z_t_44 :: z_t_45 :: z_t_46 :: z_t_47 :: z_t_48 :: z_t_49 :: z_t_50 :: z_t_51 :: z_t_52 :: z_t_53 :: z_t_54 :: z_t_55 :: z_t_56 :: z_t_57 :: z_t_58 :: z_t_59 :: z_t_60 :: []))) :: R) H := hP
      have hD : va_D A ((h_t, .inr (12, (.int t_thrown_c17_8 :: z_t_1 :: z_t_2 :: .int t_a :: .int t_b :: z_t_5 :: z_t_6 :: z_t_7 :: z_t_8 :: z_t_9 :: z_t_10 :: z_t_11 :: z_t_12 :: z_t_13 :: z_t_14 :: z_t_15 :: z_t_16 :: z_t_17 :: z_t_18 :: z_t_19 :: z_t_20 :: z_t_21 :: z_t_22 :: z_t_23 :: z_t_24 :: z_t_25 :: z_t_26 :: z_t_27 :: z_t_28 :: z_t_29 :: z_t_30 :: z_t_31 :: z_t_32 :: z_t_33 :: z_t_34 :: z_t_35 :: z_t_36 :: z_t_37 :: z_t_38 :: z_t_39 :: z_t_40 :: z_t_41 :: z_t_42 :: z_t_43 :: z_t_44 :: z_t_45 :: z_t_46 :: z_t_47 :: z_t_48 :: z_t_49 :: z_t_50 :: z_t_51 :: z_t_52 :: z_t_53 :: z_t_54 :: z_t_55 :: z_t_56 :: z_t_57 :: z_t_58 :: z_t_59 :: z_t_60 :: []))) :: R) := hD
      refine lv_if_eq (tgt := 25) hx hb dX12_one_20 (by decide) (fun c10 => ?_) (fun c10 => ?_)
      · have h := br_pos c10 h
        refine lv_aload_n hx hb dX12_one_25 rfl (lv_at hl 0 rfl) ?_
        refine va_get (D := D) (ci := 12) (v := .int t_b) (C := RX12) (T := TX12) (N := 61) hx hb ha ix12 hown hK hP 0 rfl rfl 4 (by decide) (ha _ q964) (fun _ h9 => h9) rfl dX12_one_26 ?_
        refine lv_if_le (tgt := 58) hx hb dX12_one_29 (by decide) (fun c11 => ?_) (fun c11 => ?_)
        · have h := br_pos c11 h
          refine lv_iload_n hx hb dX12_one_58 rfl (lv_at hl 1 rfl) ?_
          refine lv_iconst (v := 1) hx hb dX12_one_59 (by decide) ?_
          refine lv_icmp_ne (tgt := 72) hx hb dX12_one_60 (by decide) (fun c12 => ?_) (fun c12 => ?_)
          · have h := br_neg c12 h
            refine lv_aload_n hx hb dX12_one_72 rfl (lv_at hl 0 rfl) ?_
            refine va_get (D := D) (ci := 12) (v := .int t_a) (C := RX12) (T := TX12) (N := 61) hx hb ha ix12 hown hK hP 0 rfl rfl 3 (by decide) (ha _ q963) (fun _ h9 => h9) rfl dX12_one_73 ?_
            refine lv_aload_n hx hb dX12_one_76 rfl (lv_at hl 0 rfl) ?_
            refine va_get (D := D) (ci := 12) (v := .int t_b) (C := RX12) (T := TX12) (N := 61) hx hb ha ix12 hown hK hP 0 rfl rfl 4 (by decide) (ha _ q964) (fun _ h9 => h9) rfl dX12_one_77 ?_
            refine lv_iadd hx hb dX12_one_80 ?_
            refine lv_iconst (v := 1) hx hb dX12_one_81 (by decide) ?_
            refine lv_isub hx hb dX12_one_82 ?_
            cases h
            exact rt_i S hr hlk hP hD hS dX12_one_83
          · have h := br_pos c12 h
            refine lv_aload_n hx hb dX12_one_63 rfl (lv_at hl 0 rfl) ?_
            refine va_get (D := D) (ci := 12) (v := .int t_a) (C := RX12) (T := TX12) (N := 61) hx hb ha ix12 hown hK hP 0 rfl rfl 3 (by decide) (ha _ q963) (fun _ h9 => h9) rfl dX12_one_64 ?_
            refine lv_iconst (v := 1) hx hb dX12_one_67 (by decide) ?_
            refine lv_isub hx hb dX12_one_68 ?_
            refine lv_goto (tgt := 83) hx hb dX12_one_69 (by decide) ?_
            cases h
            exact rt_i S hr hlk hP hD hS dX12_one_83
        · have h := br_neg c11 h
          refine lv_iload_n hx hb dX12_one_32 rfl (lv_at hl 1 rfl) ?_
          refine lv_iconst (v := 1) hx hb dX12_one_33 (by decide) ?_
          refine lv_icmp_ne (tgt := 44) hx hb dX12_one_34 (by decide) (fun c13 => ?_) (fun c13 => ?_)
          · have h := br_neg c13 h
            refine lv_iload_n hx hb dX12_one_44 rfl (lv_at hl 1 rfl) ?_
            refine lv_iconst (v := 2) hx hb dX12_one_45 (by decide) ?_
            refine lv_icmp_ne (tgt := 56) hx hb dX12_one_46 (by decide) (fun c14 => ?_) (fun c14 => ?_)
            · have h := br_neg c14 h
              refine lv_iconst (v := 0) hx hb dX12_one_56 (by decide) ?_
              cases h
              exact rt_i S hr hlk hP hD hS dX12_one_57
            · have h := br_pos c14 h
              refine lv_aload_n hx hb dX12_one_49 rfl (lv_at hl 0 rfl) ?_
              refine va_get (D := D) (ci := 12) (v := .int t_b) (C := RX12) (T := TX12) (N := 61) hx hb ha ix12 hown hK hP 0 rfl rfl 4 (by decide) (ha _ q964) (fun _ h9 => h9) rfl dX12_one_50 ?_
              refine lv_goto (tgt := 57) hx hb dX12_one_53 (by decide) ?_
              cases h
              exact rt_i S hr hlk hP hD hS dX12_one_57
          · have h := br_pos c13 h
            refine lv_aload_n hx hb dX12_one_37 rfl (lv_at hl 0 rfl) ?_
            refine va_get (D := D) (ci := 12) (v := .int t_a) (C := RX12) (T := TX12) (N := 61) hx hb ha ix12 hown hK hP 0 rfl rfl 3 (by decide) (ha _ q963) (fun _ h9 => h9) rfl dX12_one_38 ?_
            refine lv_goto (tgt := 57) hx hb dX12_one_41 (by decide) ?_
            cases h
            exact rt_i S hr hlk hP hD hS dX12_one_57
      · have h := br_neg c10 h
        refine lv_iconst (v := 0) hx hb dX12_one_23 (by decide) ?_
        cases h
        exact rt_i S hr hlk hP hD hS dX12_one_24
    · have h := br_neg c8 h
      refine lv_iconst (v := 1) hx hb dX12_one_12 (by decide) ?_
      refine lv_goto (tgt := 17) hx hb dX12_one_13 (by decide) ?_
      obtain ⟨r_c17_14, t_thrown_c17_14, e_c17_14, h⟩ := bnd2_ok h
      refine cl_z (rn_v (ci := 12) (As := [.int 1]) (rest := []) S (c_X12_throwsIf l D (R) h_t t_thrown (z_t_1) (z_t_2) (.int t_a) (.int t_b) (z_t_5) (z_t_6) (z_t_7) (z_t_8) (z_t_9) (z_t_10) (z_t_11) (z_t_12) (z_t_13) (z_t_14) (z_t_15) (z_t_16) (z_t_17) (z_t_18) (z_t_19) (z_t_20) (z_t_21) (z_t_22) (z_t_23) (z_t_24) (z_t_25) (z_t_26) (z_t_27) (z_t_28) (z_t_29) (z_t_30) (z_t_31) (z_t_32) (z_t_33) (z_t_34) (z_t_35) (z_t_36) (z_t_37) (z_t_38) (z_t_39) (z_t_40) (z_t_41) (z_t_42) (z_t_43) (z_t_44) (z_t_45) (z_t_46) (z_t_47) (z_t_48) (z_t_49) (z_t_50) (z_t_51) (z_t_52) (z_t_53) (z_t_54) (z_t_55) (z_t_56) (z_t_57) (z_t_58) (z_t_59) (z_t_60) 1 r_c17_14 t_thrown_c17_14 (by decide) e_c17_14 _) q1214 q1216 q34 q61 q1217 nd_X12_throwsIf ⟨Nat.le_of_ble_eq_true rfl, Nat.le_of_ble_eq_true rfl⟩ rfl rfl hP hD (hK.sub (tys' := []) [] rfl) hN rfl ⟨0, _, rfl⟩ rfl hl.1 rfl (Nat.le_of_ble_eq_true rfl) dX12_one_17 ⟨Nat.le_of_ble_eq_true rfl, Nat.le_of_ble_eq_true rfl⟩) hS hA hD (fun H locs hP hD hS z_c17_14 => ?_)
      have hP : va_P D vwCl ((h_t, .inr (12, (.int t_thrown_c17_14 :: z_t_1 :: z_t_2 :: .int t_a :: .int t_b :: z_t_5 :: z_t_6 :: z_t_7 :: z_t_8 :: z_t_9 :: z_t_10 :: z_t_11 :: z_t_12 :: z_t_13 :: z_t_14 :: z_t_15 :: z_t_16 :: z_t_17 :: z_t_18 :: z_t_19 :: z_t_20 :: z_t_21 :: z_t_22 :: z_t_23 :: z_t_24 :: z_t_25 :: z_t_26 :: z_t_27 :: z_t_28 :: z_t_29 :: z_t_30 :: z_t_31 :: z_t_32 :: z_t_33 :: z_t_34 :: z_t_35 :: z_t_36 :: z_t_37 :: z_t_38 :: z_t_39 :: z_t_40 :: z_t_41 :: z_t_42 :: z_t_43 :: z_t_44 :: z_t_45 :: z_t_46 :: z_t_47 :: z_t_48 :: z_t_49 :: z_t_50 :: z_t_51 :: z_t_52 :: z_t_53 :: z_t_54 :: z_t_55 :: z_t_56 :: z_t_57 :: z_t_58 :: z_t_59 :: z_t_60 :: []))) :: R) H := hP
      have hD : va_D A ((h_t, .inr (12, (.int t_thrown_c17_14 :: z_t_1 :: z_t_2 :: .int t_a :: .int t_b :: z_t_5 :: z_t_6 :: z_t_7 :: z_t_8 :: z_t_9 :: z_t_10 :: z_t_11 :: z_t_12 :: z_t_13 :: z_t_14 :: z_t_15 :: z_t_16 :: z_t_17 :: z_t_18 :: z_t_19 :: z_t_20 :: z_t_21 :: z_t_22 :: z_t_23 :: z_t_24 :: z_t_25 :: z_t_26 :: z_t_27 :: z_t_28 :: z_t_29 :: z_t_30 :: z_t_31 :: z_t_32 :: z_t_33 :: z_t_34 :: z_t_35 :: z_t_36 :: z_t_37 :: z_t_38 :: z_t_39 :: z_t_40 :: z_t_41 :: z_t_42 :: z_t_43 :: z_t_44 :: z_t_45 :: z_t_46 :: z_t_47 :: z_t_48 :: z_t_49 :: z_t_50 :: z_t_51 :: z_t_52 :: z_t_53 :: z_t_54 :: z_t_55 :: z_t_56 :: z_t_57 :: z_t_58 :: z_t_59 :: z_t_60 :: []))) :: R) := hD
      refine lv_if_eq (tgt := 25) hx hb dX12_one_20 (by decide) (fun c16 => ?_) (fun c16 => ?_)
      · have h := br_pos c16 h
        refine lv_aload_n hx hb dX12_one_25 rfl (lv_at hl 0 rfl) ?_
        refine va_get (D := D) (ci := 12) (v := .int t_b) (C := RX12) (T := TX12) (N := 61) hx hb ha ix12 hown hK hP 0 rfl rfl 4 (by decide) (ha _ q964) (fun _ h9 => h9) rfl dX12_one_26 ?_
        refine lv_if_le (tgt := 58) hx hb dX12_one_29 (by decide) (fun c17 => ?_) (fun c17 => ?_)
        · have h := br_pos c17 h
          refine lv_iload_n hx hb dX12_one_58 rfl (lv_at hl 1 rfl) ?_
          refine lv_iconst (v := 1) hx hb dX12_one_59 (by decide) ?_
          refine lv_icmp_ne (tgt := 72) hx hb dX12_one_60 (by decide) (fun c18 => ?_) (fun c18 => ?_)
          · have h := br_neg c18 h
            refine lv_aload_n hx hb dX12_one_72 rfl (lv_at hl 0 rfl) ?_
            refine va_get (D := D) (ci := 12) (v := .int t_a) (C := RX12) (T := TX12) (N := 61) hx hb ha ix12 hown hK hP 0 rfl rfl 3 (by decide) (ha _ q963) (fun _ h9 => h9) rfl dX12_one_73 ?_
            refine lv_aload_n hx hb dX12_one_76 rfl (lv_at hl 0 rfl) ?_
            refine va_get (D := D) (ci := 12) (v := .int t_b) (C := RX12) (T := TX12) (N := 61) hx hb ha ix12 hown hK hP 0 rfl rfl 4 (by decide) (ha _ q964) (fun _ h9 => h9) rfl dX12_one_77 ?_
            refine lv_iadd hx hb dX12_one_80 ?_
            refine lv_iconst (v := 1) hx hb dX12_one_81 (by decide) ?_
            refine lv_isub hx hb dX12_one_82 ?_
            cases h
            exact rt_i S hr hlk hP hD hS dX12_one_83
          · have h := br_pos c18 h
            refine lv_aload_n hx hb dX12_one_63 rfl (lv_at hl 0 rfl) ?_
            refine va_get (D := D) (ci := 12) (v := .int t_a) (C := RX12) (T := TX12) (N := 61) hx hb ha ix12 hown hK hP 0 rfl rfl 3 (by decide) (ha _ q963) (fun _ h9 => h9) rfl dX12_one_64 ?_
            refine lv_iconst (v := 1) hx hb dX12_one_67 (by decide) ?_
            refine lv_isub hx hb dX12_one_68 ?_
            refine lv_goto (tgt := 83) hx hb dX12_one_69 (by decide) ?_
            cases h
            exact rt_i S hr hlk hP hD hS dX12_one_83
        · have h := br_neg c17 h
          refine lv_iload_n hx hb dX12_one_32 rfl (lv_at hl 1 rfl) ?_
          refine lv_iconst (v := 1) hx hb dX12_one_33 (by decide) ?_
          refine lv_icmp_ne (tgt := 44) hx hb dX12_one_34 (by decide) (fun c19 => ?_) (fun c19 => ?_)
          · have h := br_neg c19 h
            refine lv_iload_n hx hb dX12_one_44 rfl (lv_at hl 1 rfl) ?_
            refine lv_iconst (v := 2) hx hb dX12_one_45 (by decide) ?_
            refine lv_icmp_ne (tgt := 56) hx hb dX12_one_46 (by decide) (fun c20 => ?_) (fun c20 => ?_)
            · have h := br_neg c20 h
              refine lv_iconst (v := 0) hx hb dX12_one_56 (by decide) ?_
              cases h
              exact rt_i S hr hlk hP hD hS dX12_one_57
            · have h := br_pos c20 h
              refine lv_aload_n hx hb dX12_one_49 rfl (lv_at hl 0 rfl) ?_
              refine va_get (D := D) (ci := 12) (v := .int t_b) (C := RX12) (T := TX12) (N := 61) hx hb ha ix12 hown hK hP 0 rfl rfl 4 (by decide) (ha _ q964) (fun _ h9 => h9) rfl dX12_one_50 ?_
              refine lv_goto (tgt := 57) hx hb dX12_one_53 (by decide) ?_
              cases h
              exact rt_i S hr hlk hP hD hS dX12_one_57
          · have h := br_pos c19 h
            refine lv_aload_n hx hb dX12_one_37 rfl (lv_at hl 0 rfl) ?_
            refine va_get (D := D) (ci := 12) (v := .int t_a) (C := RX12) (T := TX12) (N := 61) hx hb ha ix12 hown hK hP 0 rfl rfl 3 (by decide) (ha _ q963) (fun _ h9 => h9) rfl dX12_one_38 ?_
            refine lv_goto (tgt := 57) hx hb dX12_one_41 (by decide) ?_
            cases h
            exact rt_i S hr hlk hP hD hS dX12_one_57
      · have h := br_neg c16 h
        refine lv_iconst (v := 0) hx hb dX12_one_23 (by decide) ?_
        cases h
        exact rt_i S hr hlk hP hD hS dX12_one_24
noncomputable def f_X12_count0_L16 (l1 : Int32) (t_a : Int32) (t_b : Int32) : Nat → Int32 → (Nat → Int64) →  Option ((Nat → Int64))
  | 0, _, _ => none
  | n + 1, l2, t_behind => (
    if l1 < l2 then (
     some t_behind
    ) else (
     gd (ixb ((2 * l2) - 2) 64) (
      gd (ixb ((2 * l2) - 1) 64) (
       bnd1 (f_X12_bar t_a t_b 0) fun r_c53_5 => (
        gd (ixb (2 * l2) 64) (
         bnd1 (f_X12_bar t_a t_b 1) fun r_c74_7 => (
          if t_b ≤ 0 then (
           gd (ixb ((2 * l2) + 1) 64) (
            f_X12_count0_L16 l1 t_a t_b n (l2 + 1) (vp_updL (vp_updL t_behind (2 * l2).toNatClampNeg ((r_c53_5.toInt64 * (t_behind ((2 * l2) - 2).toNatClampNeg)) + (t_behind ((2 * l2) - 1).toNatClampNeg))) ((2 * l2) + 1).toNatClampNeg ((r_c74_7.toInt64 * (t_behind ((2 * l2) - 2).toNatClampNeg)) + (t_behind ((2 * l2) - 1).toNatClampNeg)))
           )
          ) else (
           gd (ixb ((2 * l2) + 1) 64) (
            f_X12_count0_L16 l1 t_a t_b n (l2 + 1) (vp_updL (vp_updL t_behind (2 * l2).toNatClampNeg ((r_c53_5.toInt64 * (t_behind ((2 * l2) - 2).toNatClampNeg)) + (t_behind ((2 * l2) - 1).toNatClampNeg))) ((2 * l2) + 1).toNatClampNeg ((r_c74_7.toInt64 * (t_behind ((2 * l2) - 2).toNatClampNeg)) + (t_behind ((2 * l2) - 2).toNatClampNeg)))
           )
          )
         )
        )
       )
      )
     )
    ))
noncomputable def f_X12_count0 (t_a : Int32) (t_b : Int32) (t_behind : Nat → Int64) (l1 : Int32) : Option ((Nat → Int64)) :=
  gd (ixb 0 64) (
   gd (ixb 1 64) (
    bnd1 (f_X12_count0_L16 l1 t_a t_b FU 1 (vp_updL (vp_updL t_behind (0 : Int32).toNatClampNeg 1) (1 : Int32).toNatClampNeg 1)) fun x_t_behind_L16_11 => (
     some x_t_behind_L16_11
    )
   )
  )
set_option maxHeartbeats 4000000 in
set_option maxRecDepth 100000 in
theorem c_X12_count0 (l : Launch) (D : va_G) (R : va_W) (h_t : Nat) (z_t_0 : Value) (z_t_1 : Value) (z_t_2 : Value) (t_a : Int32) (t_b : Int32) (z_t_5 : Value) (z_t_6 : Value) (z_t_7 : Value) (z_t_8 : Value) (z_t_9 : Value) (z_t_10 : Value) (z_t_11 : Value) (z_t_12 : Value) (z_t_13 : Value) (z_t_14 : Value) (z_t_15 : Value) (z_t_16 : Value) (z_t_17 : Value) (z_t_18 : Value) (z_t_19 : Value) (z_t_20 : Value) (z_t_21 : Value) (z_t_22 : Value) (z_t_23 : Value) (z_t_24 : Value) (z_t_26 : Value) (z_t_27 : Value) (z_t_28 : Value) (z_t_29 : Value) (z_t_30 : Value) (z_t_31 : Value) (z_t_32 : Value) (z_t_33 : Value) (z_t_34 : Value) (z_t_35 : Value) (z_t_36 : Value) (z_t_37 : Value) (z_t_38 : Value) (z_t_39 : Value) (z_t_40 : Value) (z_t_41 : Value) (z_t_42 : Value) (z_t_43 : Value) (z_t_44 : Value) (z_t_45 : Value) (z_t_46 : Value) (z_t_47 : Value) (z_t_48 : Value) (z_t_49 : Value) (z_t_50 : Value) (z_t_51 : Value) (z_t_52 : Value) (z_t_53 : Value) (z_t_54 : Value) (z_t_55 : Value) (z_t_56 : Value) (z_t_57 : Value) (z_t_58 : Value) (z_t_59 : Value) (z_t_60 : Value) (h_t_behind : Nat) (k_t_behind : ClassId) (t_behind : Nat → Int64) (l1 : Int32) (o_t_behind : Nat → Int64)  (h : f_X12_count0 t_a t_b t_behind l1 = some o_t_behind) (sz : Nat) : Met l yX12_count0 (WD yX12_count0 cX12_count0 7 none) ({ frames := 1, cells := 0, slots := 0, locals := 21 }) (va_Pc [.ref h_t, .int l1] (PcW D [(k_t_behind, .long)] ((h_t, .inr (12, (z_t_0 :: z_t_1 :: z_t_2 :: .int t_a :: .int t_b :: z_t_5 :: z_t_6 :: z_t_7 :: z_t_8 :: z_t_9 :: z_t_10 :: z_t_11 :: z_t_12 :: z_t_13 :: z_t_14 :: z_t_15 :: z_t_16 :: z_t_17 :: z_t_18 :: z_t_19 :: z_t_20 :: z_t_21 :: z_t_22 :: z_t_23 :: z_t_24 :: .ref h_t_behind :: z_t_26 :: z_t_27 :: z_t_28 :: z_t_29 :: z_t_30 :: z_t_31 :: z_t_32 :: z_t_33 :: z_t_34 :: z_t_35 :: z_t_36 :: z_t_37 :: z_t_38 :: z_t_39 :: z_t_40 :: z_t_41 :: z_t_42 :: z_t_43 :: z_t_44 :: z_t_45 :: z_t_46 :: z_t_47 :: z_t_48 :: z_t_49 :: z_t_50 :: z_t_51 :: z_t_52 :: z_t_53 :: z_t_54 :: z_t_55 :: z_t_56 :: z_t_57 :: z_t_58 :: z_t_59 :: z_t_60 :: []))) :: (h_t_behind, .inl (k_t_behind, 64, .inr (.inl t_behind))) :: R) sz)) (QV D ((h_t, .inr (12, (z_t_0 :: z_t_1 :: z_t_2 :: .int t_a :: .int t_b :: z_t_5 :: z_t_6 :: z_t_7 :: z_t_8 :: z_t_9 :: z_t_10 :: z_t_11 :: z_t_12 :: z_t_13 :: z_t_14 :: z_t_15 :: z_t_16 :: z_t_17 :: z_t_18 :: z_t_19 :: z_t_20 :: z_t_21 :: z_t_22 :: z_t_23 :: z_t_24 :: .ref h_t_behind :: z_t_26 :: z_t_27 :: z_t_28 :: z_t_29 :: z_t_30 :: z_t_31 :: z_t_32 :: z_t_33 :: z_t_34 :: z_t_35 :: z_t_36 :: z_t_37 :: z_t_38 :: z_t_39 :: z_t_40 :: z_t_41 :: z_t_42 :: z_t_43 :: z_t_44 :: z_t_45 :: z_t_46 :: z_t_47 :: z_t_48 :: z_t_49 :: z_t_50 :: z_t_51 :: z_t_52 :: z_t_53 :: z_t_54 :: z_t_55 :: z_t_56 :: z_t_57 :: z_t_58 :: z_t_59 :: z_t_60 :: []))) :: (h_t_behind, .inl (k_t_behind, 64, .inr (.inl o_t_behind))) :: R) (va_A ((h_t, .inr (12, (z_t_0 :: z_t_1 :: z_t_2 :: .int t_a :: .int t_b :: z_t_5 :: z_t_6 :: z_t_7 :: z_t_8 :: z_t_9 :: z_t_10 :: z_t_11 :: z_t_12 :: z_t_13 :: z_t_14 :: z_t_15 :: z_t_16 :: z_t_17 :: z_t_18 :: z_t_19 :: z_t_20 :: z_t_21 :: z_t_22 :: z_t_23 :: z_t_24 :: .ref h_t_behind :: z_t_26 :: z_t_27 :: z_t_28 :: z_t_29 :: z_t_30 :: z_t_31 :: z_t_32 :: z_t_33 :: z_t_34 :: z_t_35 :: z_t_36 :: z_t_37 :: z_t_38 :: z_t_39 :: z_t_40 :: z_t_41 :: z_t_42 :: z_t_43 :: z_t_44 :: z_t_45 :: z_t_46 :: z_t_47 :: z_t_48 :: z_t_49 :: z_t_50 :: z_t_51 :: z_t_52 :: z_t_53 :: z_t_54 :: z_t_55 :: z_t_56 :: z_t_57 :: z_t_58 :: z_t_59 :: z_t_60 :: []))) :: (h_t_behind, .inl (k_t_behind, 64, .inr (.inl t_behind))) :: R) sz)) 0 0 (va_A ((h_t, .inr (12, (z_t_0 :: z_t_1 :: z_t_2 :: .int t_a :: .int t_b :: z_t_5 :: z_t_6 :: z_t_7 :: z_t_8 :: z_t_9 :: z_t_10 :: z_t_11 :: z_t_12 :: z_t_13 :: z_t_14 :: z_t_15 :: z_t_16 :: z_t_17 :: z_t_18 :: z_t_19 :: z_t_20 :: z_t_21 :: z_t_22 :: z_t_23 :: z_t_24 :: .ref h_t_behind :: z_t_26 :: z_t_27 :: z_t_28 :: z_t_29 :: z_t_30 :: z_t_31 :: z_t_32 :: z_t_33 :: z_t_34 :: z_t_35 :: z_t_36 :: z_t_37 :: z_t_38 :: z_t_39 :: z_t_40 :: z_t_41 :: z_t_42 :: z_t_43 :: z_t_44 :: z_t_45 :: z_t_46 :: z_t_47 :: z_t_48 :: z_t_49 :: z_t_50 :: z_t_51 :: z_t_52 :: z_t_53 :: z_t_54 :: z_t_55 :: z_t_56 :: z_t_57 :: z_t_58 :: z_t_59 :: z_t_60 :: []))) :: (h_t_behind, .inl (k_t_behind, 64, .inr (.inl t_behind))) :: R) sz) := by
  refine ct_start (QF := fun A => QV D ((h_t, .inr (12, (z_t_0 :: z_t_1 :: z_t_2 :: .int t_a :: .int t_b :: z_t_5 :: z_t_6 :: z_t_7 :: z_t_8 :: z_t_9 :: z_t_10 :: z_t_11 :: z_t_12 :: z_t_13 :: z_t_14 :: z_t_15 :: z_t_16 :: z_t_17 :: z_t_18 :: z_t_19 :: z_t_20 :: z_t_21 :: z_t_22 :: z_t_23 :: z_t_24 :: .ref h_t_behind :: z_t_26 :: z_t_27 :: z_t_28 :: z_t_29 :: z_t_30 :: z_t_31 :: z_t_32 :: z_t_33 :: z_t_34 :: z_t_35 :: z_t_36 :: z_t_37 :: z_t_38 :: z_t_39 :: z_t_40 :: z_t_41 :: z_t_42 :: z_t_43 :: z_t_44 :: z_t_45 :: z_t_46 :: z_t_47 :: z_t_48 :: z_t_49 :: z_t_50 :: z_t_51 :: z_t_52 :: z_t_53 :: z_t_54 :: z_t_55 :: z_t_56 :: z_t_57 :: z_t_58 :: z_t_59 :: z_t_60 :: []))) :: (h_t_behind, .inl (k_t_behind, 64, .inr (.inl o_t_behind))) :: R) A) ?_ ?_ ?_
  · decide +kernel
  · exact Nat.le_of_ble_eq_true rfl
  intro p e s m args below meth c A ls S hr hlk hnm hS hA hP hD hK hN hl
  have S : CallFix p m c cX12_count0 7 s args AL "DigitBenchModel" := S
  have hx := S.1
  have hb := S.2.1
  have hown := S.2.2.2.1
  have ha := S.2.2.2.2
  have hl : lv_has ls 7 [(0, .ref h_t), (1, .int l1)] := hl
  have L16 : ∀ (Q : State → Prop) (n : Nat) (l1 : Int32) (l2 : Int32) (t_behind : Nat → Int64) (x_t_behind : Nat → Int64), f_X12_count0_L16 l1 t_a t_b n l2 t_behind = some x_t_behind → ∀ (H : Heap) (locs : List Loc) (ls : Array Slot), va_P D vwCl ((h_t, .inr (12, (z_t_0 :: z_t_1 :: z_t_2 :: .int t_a :: .int t_b :: z_t_5 :: z_t_6 :: z_t_7 :: z_t_8 :: z_t_9 :: z_t_10 :: z_t_11 :: z_t_12 :: z_t_13 :: z_t_14 :: z_t_15 :: z_t_16 :: z_t_17 :: z_t_18 :: z_t_19 :: z_t_20 :: z_t_21 :: z_t_22 :: z_t_23 :: z_t_24 :: .ref h_t_behind :: z_t_26 :: z_t_27 :: z_t_28 :: z_t_29 :: z_t_30 :: z_t_31 :: z_t_32 :: z_t_33 :: z_t_34 :: z_t_35 :: z_t_36 :: z_t_37 :: z_t_38 :: z_t_39 :: z_t_40 :: z_t_41 :: z_t_42 :: z_t_43 :: z_t_44 :: z_t_45 :: z_t_46 :: z_t_47 :: z_t_48 :: z_t_49 :: z_t_50 :: z_t_51 :: z_t_52 :: z_t_53 :: z_t_54 :: z_t_55 :: z_t_56 :: z_t_57 :: z_t_58 :: z_t_59 :: z_t_60 :: []))) :: (h_t_behind, .inl (k_t_behind, 64, .inr (.inl t_behind))) :: R) H → va_D A ((h_t, .inr (12, (z_t_0 :: z_t_1 :: z_t_2 :: .int t_a :: .int t_b :: z_t_5 :: z_t_6 :: z_t_7 :: z_t_8 :: z_t_9 :: z_t_10 :: z_t_11 :: z_t_12 :: z_t_13 :: z_t_14 :: z_t_15 :: z_t_16 :: z_t_17 :: z_t_18 :: z_t_19 :: z_t_20 :: z_t_21 :: z_t_22 :: z_t_23 :: z_t_24 :: .ref h_t_behind :: z_t_26 :: z_t_27 :: z_t_28 :: z_t_29 :: z_t_30 :: z_t_31 :: z_t_32 :: z_t_33 :: z_t_34 :: z_t_35 :: z_t_36 :: z_t_37 :: z_t_38 :: z_t_39 :: z_t_40 :: z_t_41 :: z_t_42 :: z_t_43 :: z_t_44 :: z_t_45 :: z_t_46 :: z_t_47 :: z_t_48 :: z_t_49 :: z_t_50 :: z_t_51 :: z_t_52 :: z_t_53 :: z_t_54 :: z_t_55 :: z_t_56 :: z_t_57 :: z_t_58 :: z_t_59 :: z_t_60 :: []))) :: (h_t_behind, .inl (k_t_behind, 64, .inr (.inl t_behind))) :: R) → va_S A s.heap H locs → lv_has ls 7 [(0, .ref h_t), (1, .int l1), (2, .int l2)] → (∀ (H : Heap) (locs : List Loc) (ls : Array Slot), va_P D vwCl ((h_t, .inr (12, (z_t_0 :: z_t_1 :: z_t_2 :: .int t_a :: .int t_b :: z_t_5 :: z_t_6 :: z_t_7 :: z_t_8 :: z_t_9 :: z_t_10 :: z_t_11 :: z_t_12 :: z_t_13 :: z_t_14 :: z_t_15 :: z_t_16 :: z_t_17 :: z_t_18 :: z_t_19 :: z_t_20 :: z_t_21 :: z_t_22 :: z_t_23 :: z_t_24 :: .ref h_t_behind :: z_t_26 :: z_t_27 :: z_t_28 :: z_t_29 :: z_t_30 :: z_t_31 :: z_t_32 :: z_t_33 :: z_t_34 :: z_t_35 :: z_t_36 :: z_t_37 :: z_t_38 :: z_t_39 :: z_t_40 :: z_t_41 :: z_t_42 :: z_t_43 :: z_t_44 :: z_t_45 :: z_t_46 :: z_t_47 :: z_t_48 :: z_t_49 :: z_t_50 :: z_t_51 :: z_t_52 :: z_t_53 :: z_t_54 :: z_t_55 :: z_t_56 :: z_t_57 :: z_t_58 :: z_t_59 :: z_t_60 :: []))) :: (h_t_behind, .inl (k_t_behind, 64, .inr (.inl x_t_behind))) :: R) H → va_D A ((h_t, .inr (12, (z_t_0 :: z_t_1 :: z_t_2 :: .int t_a :: .int t_b :: z_t_5 :: z_t_6 :: z_t_7 :: z_t_8 :: z_t_9 :: z_t_10 :: z_t_11 :: z_t_12 :: z_t_13 :: z_t_14 :: z_t_15 :: z_t_16 :: z_t_17 :: z_t_18 :: z_t_19 :: z_t_20 :: z_t_21 :: z_t_22 :: z_t_23 :: z_t_24 :: .ref h_t_behind :: z_t_26 :: z_t_27 :: z_t_28 :: z_t_29 :: z_t_30 :: z_t_31 :: z_t_32 :: z_t_33 :: z_t_34 :: z_t_35 :: z_t_36 :: z_t_37 :: z_t_38 :: z_t_39 :: z_t_40 :: z_t_41 :: z_t_42 :: z_t_43 :: z_t_44 :: z_t_45 :: z_t_46 :: z_t_47 :: z_t_48 :: z_t_49 :: z_t_50 :: z_t_51 :: z_t_52 :: z_t_53 :: z_t_54 :: z_t_55 :: z_t_56 :: z_t_57 :: z_t_58 :: z_t_59 :: z_t_60 :: []))) :: (h_t_behind, .inl (k_t_behind, 64, .inr (.inl x_t_behind))) :: R) → va_S A s.heap H locs → lv_has ls 7 [] → W p l e { frames := 1, cells := 0, slots := 0, locals := 21 } s m args below meth c H locs 0 0 Q (F0 m 101 ls [])) → W p l e { frames := 1, cells := 0, slots := 0, locals := 21 } s m args below meth c H locs 0 0 Q (F0 m 16 ls []) := by
    intro Q n
    induction n with
    | zero =>
      intro l1 l2 t_behind x_t_behind h
      rw [f_X12_count0_L16] at h; cases h
    | succ n ih =>
      intro l1 l2 t_behind x_t_behind h H locs ls hP hD hS hl kk0
      rw [f_X12_count0_L16] at h
      refine lv_iload_n hx hb dX12_count0_16 rfl (lv_at hl 2 rfl) ?_
      refine lv_iload_n hx hb dX12_count0_17 rfl (lv_at hl 1 rfl) ?_
      refine lv_icmp_gt (tgt := 101) hx hb dX12_count0_18 (by decide) (fun c3 => ?_) (fun c3 => ?_)
      · have h := br_pos c3 h
        cases h
        exact kk0 _ _ _ hP hD hS (lv_sub hl [] rfl)
      · have h := br_neg c3 h
        refine lv_aload_n hx hb dX12_count0_21 rfl (lv_at hl 0 rfl) ?_
        refine va_get (D := D) (ci := 12) (v := .ref h_t_behind) (C := RX12) (T := TX12) (N := 61) hx hb ha ix12 hown hK hP 0 rfl rfl 25 (by decide) (ha _ q985) (fun _ h9 => h9) rfl dX12_count0_22 ?_
        refine lv_iconst (v := 2) hx hb dX12_count0_25 (by decide) ?_
        refine lv_iload_n hx hb dX12_count0_26 rfl (lv_at hl 2 rfl) ?_
        refine lv_imul hx hb dX12_count0_27 ?_
        refine lv_iconst (v := 2) hx hb dX12_count0_28 (by decide) ?_
        refine lv_isub hx hb dX12_count0_29 ?_
        obtain ⟨i4, h⟩ := ix_ok h
        refine va_lald hx hb hK hP 1 0 rfl rfl i4 dX12_count0_30 ?_
        refine lv_lstore_n (lv' := [(3, .long (t_behind ((2 * l2) - 2).toNatClampNeg)), (0, .ref h_t), (1, .int l1), (2, .int l2)]) hx hb dX12_count0_31 rfl hl (by decide) rfl (fun ls hl => ?_)
        refine lv_aload_n hx hb dX12_count0_32 rfl (lv_at hl 1 rfl) ?_
        refine va_get (D := D) (ci := 12) (v := .ref h_t_behind) (C := RX12) (T := TX12) (N := 61) hx hb ha ix12 hown hK hP 0 rfl rfl 25 (by decide) (ha _ q985) (fun _ h9 => h9) rfl dX12_count0_33 ?_
        refine lv_iconst (v := 2) hx hb dX12_count0_36 (by decide) ?_
        refine lv_iload_n hx hb dX12_count0_37 rfl (lv_at hl 3 rfl) ?_
        refine lv_imul hx hb dX12_count0_38 ?_
        refine lv_iconst (v := 1) hx hb dX12_count0_39 (by decide) ?_
        refine lv_isub hx hb dX12_count0_40 ?_
        obtain ⟨i5, h⟩ := ix_ok h
        refine va_lald hx hb hK hP 1 0 rfl rfl i5 dX12_count0_41 ?_
        refine lv_lstore (lv' := [(5, .long (t_behind ((2 * l2) - 1).toNatClampNeg)), (3, .long (t_behind ((2 * l2) - 2).toNatClampNeg)), (0, .ref h_t), (1, .int l1), (2, .int l2)]) hx hb dX12_count0_42 hl (by decide) rfl (fun ls hl => ?_)
        refine lv_aload_n hx hb dX12_count0_44 rfl (lv_at hl 2 rfl) ?_
        refine va_get (D := D) (ci := 12) (v := .ref h_t_behind) (C := RX12) (T := TX12) (N := 61) hx hb ha ix12 hown hK hP 0 rfl rfl 25 (by decide) (ha _ q985) (fun _ h9 => h9) rfl dX12_count0_45 ?_
        refine lv_iconst (v := 2) hx hb dX12_count0_48 (by decide) ?_
        refine lv_iload_n hx hb dX12_count0_49 rfl (lv_at hl 4 rfl) ?_
        refine lv_imul hx hb dX12_count0_50 ?_
        refine lv_aload_n hx hb dX12_count0_51 rfl (lv_at hl 2 rfl) ?_
        refine lv_iconst (v := 0) hx hb dX12_count0_52 (by decide) ?_
        obtain ⟨r_c53_5, e_c53_5, h⟩ := bnd1_ok h
        refine cl_i (rn_v (ci := 12) (As := [.int 0]) (rest := [.int (2 * l2), .ref h_t_behind]) S (c_X12_bar l D ((h_t_behind, .inl (k_t_behind, 64, .inr (.inl t_behind))) :: R) h_t (z_t_0) (z_t_1) (z_t_2) t_a t_b (z_t_5) (z_t_6) (z_t_7) (z_t_8) (z_t_9) (z_t_10) (z_t_11) (z_t_12) (z_t_13) (z_t_14) (z_t_15) (z_t_16) (z_t_17) (z_t_18) (z_t_19) (z_t_20) (z_t_21) (z_t_22) (z_t_23) (z_t_24) (.ref h_t_behind) (z_t_26) (z_t_27) (z_t_28) (z_t_29) (z_t_30) (z_t_31) (z_t_32) (z_t_33) (z_t_34) (z_t_35) (z_t_36) (z_t_37) (z_t_38) (z_t_39) (z_t_40) (z_t_41) (z_t_42) (z_t_43) (z_t_44) (z_t_45) (z_t_46) (z_t_47) (z_t_48) (z_t_49) (z_t_50) (z_t_51) (z_t_52) (z_t_53) (z_t_54) (z_t_55) (z_t_56) (z_t_57) (z_t_58) (z_t_59) (z_t_60) 0 r_c53_5 e_c53_5 _) q1271 q1273 q41 q61 q1274 nd_X12_bar ⟨Nat.le_of_ble_eq_true rfl, Nat.le_of_ble_eq_true rfl⟩ rfl rfl hP hD (hK.sub (tys' := []) [] rfl) hN rfl ⟨0, _, rfl⟩ rfl hl.1 rfl (Nat.le_of_ble_eq_true rfl) dX12_count0_53 ⟨Nat.le_of_ble_eq_true rfl, Nat.le_of_ble_eq_true rfl⟩) hS hA hD (fun H locs hP hD hS => ?_)
        have hP : va_P D vwCl ((h_t, .inr (12, (z_t_0 :: z_t_1 :: z_t_2 :: .int t_a :: .int t_b :: z_t_5 :: z_t_6 :: z_t_7 :: z_t_8 :: z_t_9 :: z_t_10 :: z_t_11 :: z_t_12 :: z_t_13 :: z_t_14 :: z_t_15 :: z_t_16 :: z_t_17 :: z_t_18 :: z_t_19 :: z_t_20 :: z_t_21 :: z_t_22 :: z_t_23 :: z_t_24 :: .ref h_t_behind :: z_t_26 :: z_t_27 :: z_t_28 :: z_t_29 :: z_t_30 :: z_t_31 :: z_t_32 :: z_t_33 :: z_t_34 :: z_t_35 :: z_t_36 :: z_t_37 :: z_t_38 :: z_t_39 :: z_t_40 :: z_t_41 :: z_t_42 :: z_t_43 :: z_t_44 :: z_t_45 :: z_t_46 :: z_t_47 :: z_t_48 :: z_t_49 :: z_t_50 :: z_t_51 :: z_t_52 :: z_t_53 :: z_t_54 :: z_t_55 :: z_t_56 :: z_t_57 :: z_t_58 :: z_t_59 :: z_t_60 :: []))) :: (h_t_behind, .inl (k_t_behind, 64, .inr (.inl t_behind))) :: R) H := hP
        have hD : va_D A ((h_t, .inr (12, (z_t_0 :: z_t_1 :: z_t_2 :: .int t_a :: .int t_b :: z_t_5 :: z_t_6 :: z_t_7 :: z_t_8 :: z_t_9 :: z_t_10 :: z_t_11 :: z_t_12 :: z_t_13 :: z_t_14 :: z_t_15 :: z_t_16 :: z_t_17 :: z_t_18 :: z_t_19 :: z_t_20 :: z_t_21 :: z_t_22 :: z_t_23 :: z_t_24 :: .ref h_t_behind :: z_t_26 :: z_t_27 :: z_t_28 :: z_t_29 :: z_t_30 :: z_t_31 :: z_t_32 :: z_t_33 :: z_t_34 :: z_t_35 :: z_t_36 :: z_t_37 :: z_t_38 :: z_t_39 :: z_t_40 :: z_t_41 :: z_t_42 :: z_t_43 :: z_t_44 :: z_t_45 :: z_t_46 :: z_t_47 :: z_t_48 :: z_t_49 :: z_t_50 :: z_t_51 :: z_t_52 :: z_t_53 :: z_t_54 :: z_t_55 :: z_t_56 :: z_t_57 :: z_t_58 :: z_t_59 :: z_t_60 :: []))) :: (h_t_behind, .inl (k_t_behind, 64, .inr (.inl t_behind))) :: R) := hD
        refine lv_i2l (v := r_c53_5.toInt64) hx hb dX12_count0_56 rfl ?_
        refine lv_lload_n hx hb dX12_count0_57 rfl (lv_at hl 1 rfl) ?_
        refine lv_lmul hx hb dX12_count0_58 ?_
        refine lv_lload hx hb dX12_count0_59 (lv_at hl 0 rfl) ?_
        refine lv_ladd hx hb dX12_count0_61 ?_
        obtain ⟨i7, h⟩ := ix_ok h
        refine va_last hx hb hK hP hD hS 1 0 rfl rfl i7 dX12_count0_62 (fun H locs hP hD hS => ?_)
        have hP : va_P D vwCl ((h_t, .inr (12, (z_t_0 :: z_t_1 :: z_t_2 :: .int t_a :: .int t_b :: z_t_5 :: z_t_6 :: z_t_7 :: z_t_8 :: z_t_9 :: z_t_10 :: z_t_11 :: z_t_12 :: z_t_13 :: z_t_14 :: z_t_15 :: z_t_16 :: z_t_17 :: z_t_18 :: z_t_19 :: z_t_20 :: z_t_21 :: z_t_22 :: z_t_23 :: z_t_24 :: .ref h_t_behind :: z_t_26 :: z_t_27 :: z_t_28 :: z_t_29 :: z_t_30 :: z_t_31 :: z_t_32 :: z_t_33 :: z_t_34 :: z_t_35 :: z_t_36 :: z_t_37 :: z_t_38 :: z_t_39 :: z_t_40 :: z_t_41 :: z_t_42 :: z_t_43 :: z_t_44 :: z_t_45 :: z_t_46 :: z_t_47 :: z_t_48 :: z_t_49 :: z_t_50 :: z_t_51 :: z_t_52 :: z_t_53 :: z_t_54 :: z_t_55 :: z_t_56 :: z_t_57 :: z_t_58 :: z_t_59 :: z_t_60 :: []))) :: (h_t_behind, .inl (k_t_behind, 64, .inr (.inl (vp_updL t_behind (2 * l2).toNatClampNeg ((r_c53_5.toInt64 * (t_behind ((2 * l2) - 2).toNatClampNeg)) + (t_behind ((2 * l2) - 1).toNatClampNeg)))))) :: R) H := hP
        have hD : va_D A ((h_t, .inr (12, (z_t_0 :: z_t_1 :: z_t_2 :: .int t_a :: .int t_b :: z_t_5 :: z_t_6 :: z_t_7 :: z_t_8 :: z_t_9 :: z_t_10 :: z_t_11 :: z_t_12 :: z_t_13 :: z_t_14 :: z_t_15 :: z_t_16 :: z_t_17 :: z_t_18 :: z_t_19 :: z_t_20 :: z_t_21 :: z_t_22 :: z_t_23 :: z_t_24 :: .ref h_t_behind :: z_t_26 :: z_t_27 :: z_t_28 :: z_t_29 :: z_t_30 :: z_t_31 :: z_t_32 :: z_t_33 :: z_t_34 :: z_t_35 :: z_t_36 :: z_t_37 :: z_t_38 :: z_t_39 :: z_t_40 :: z_t_41 :: z_t_42 :: z_t_43 :: z_t_44 :: z_t_45 :: z_t_46 :: z_t_47 :: z_t_48 :: z_t_49 :: z_t_50 :: z_t_51 :: z_t_52 :: z_t_53 :: z_t_54 :: z_t_55 :: z_t_56 :: z_t_57 :: z_t_58 :: z_t_59 :: z_t_60 :: []))) :: (h_t_behind, .inl (k_t_behind, 64, .inr (.inl (vp_updL t_behind (2 * l2).toNatClampNeg ((r_c53_5.toInt64 * (t_behind ((2 * l2) - 2).toNatClampNeg)) + (t_behind ((2 * l2) - 1).toNatClampNeg)))))) :: R) := hD
        refine lv_aload_n hx hb dX12_count0_63 rfl (lv_at hl 2 rfl) ?_
        refine va_get (D := D) (ci := 12) (v := .ref h_t_behind) (C := RX12) (T := TX12) (N := 61) hx hb ha ix12 hown hK hP 0 rfl rfl 25 (by decide) (ha _ q985) (fun _ h9 => h9) rfl dX12_count0_64 ?_
        refine lv_iconst (v := 2) hx hb dX12_count0_67 (by decide) ?_
        refine lv_iload_n hx hb dX12_count0_68 rfl (lv_at hl 4 rfl) ?_
        refine lv_imul hx hb dX12_count0_69 ?_
        refine lv_iconst (v := 1) hx hb dX12_count0_70 (by decide) ?_
        refine lv_iadd hx hb dX12_count0_71 ?_
        refine lv_aload_n hx hb dX12_count0_72 rfl (lv_at hl 2 rfl) ?_
        refine lv_iconst (v := 1) hx hb dX12_count0_73 (by decide) ?_
        obtain ⟨r_c74_7, e_c74_7, h⟩ := bnd1_ok h
        refine cl_i (rn_v (ci := 12) (As := [.int 1]) (rest := [.int ((2 * l2) + 1), .ref h_t_behind]) S (c_X12_bar l D ((h_t_behind, .inl (k_t_behind, 64, .inr (.inl (vp_updL t_behind (2 * l2).toNatClampNeg ((r_c53_5.toInt64 * (t_behind ((2 * l2) - 2).toNatClampNeg)) + (t_behind ((2 * l2) - 1).toNatClampNeg)))))) :: R) h_t (z_t_0) (z_t_1) (z_t_2) t_a t_b (z_t_5) (z_t_6) (z_t_7) (z_t_8) (z_t_9) (z_t_10) (z_t_11) (z_t_12) (z_t_13) (z_t_14) (z_t_15) (z_t_16) (z_t_17) (z_t_18) (z_t_19) (z_t_20) (z_t_21) (z_t_22) (z_t_23) (z_t_24) (.ref h_t_behind) (z_t_26) (z_t_27) (z_t_28) (z_t_29) (z_t_30) (z_t_31) (z_t_32) (z_t_33) (z_t_34) (z_t_35) (z_t_36) (z_t_37) (z_t_38) (z_t_39) (z_t_40) (z_t_41) (z_t_42) (z_t_43) (z_t_44) (z_t_45) (z_t_46) (z_t_47) (z_t_48) (z_t_49) (z_t_50) (z_t_51) (z_t_52) (z_t_53) (z_t_54) (z_t_55) (z_t_56) (z_t_57) (z_t_58) (z_t_59) (z_t_60) 1 r_c74_7 e_c74_7 _) q1271 q1273 q41 q61 q1274 nd_X12_bar ⟨Nat.le_of_ble_eq_true rfl, Nat.le_of_ble_eq_true rfl⟩ rfl rfl hP hD (hK.sub (tys' := []) [] rfl) hN rfl ⟨0, _, rfl⟩ rfl hl.1 rfl (Nat.le_of_ble_eq_true rfl) dX12_count0_74 ⟨Nat.le_of_ble_eq_true rfl, Nat.le_of_ble_eq_true rfl⟩) hS hA hD (fun H locs hP hD hS => ?_)
        have hP : va_P D vwCl ((h_t, .inr (12, (z_t_0 :: z_t_1 :: z_t_2 :: .int t_a :: .int t_b :: z_t_5 :: z_t_6 :: z_t_7 :: z_t_8 :: z_t_9 :: z_t_10 :: z_t_11 :: z_t_12 :: z_t_13 :: z_t_14 :: z_t_15 :: z_t_16 :: z_t_17 :: z_t_18 :: z_t_19 :: z_t_20 :: z_t_21 :: z_t_22 :: z_t_23 :: z_t_24 :: .ref h_t_behind :: z_t_26 :: z_t_27 :: z_t_28 :: z_t_29 :: z_t_30 :: z_t_31 :: z_t_32 :: z_t_33 :: z_t_34 :: z_t_35 :: z_t_36 :: z_t_37 :: z_t_38 :: z_t_39 :: z_t_40 :: z_t_41 :: z_t_42 :: z_t_43 :: z_t_44 :: z_t_45 :: z_t_46 :: z_t_47 :: z_t_48 :: z_t_49 :: z_t_50 :: z_t_51 :: z_t_52 :: z_t_53 :: z_t_54 :: z_t_55 :: z_t_56 :: z_t_57 :: z_t_58 :: z_t_59 :: z_t_60 :: []))) :: (h_t_behind, .inl (k_t_behind, 64, .inr (.inl (vp_updL t_behind (2 * l2).toNatClampNeg ((r_c53_5.toInt64 * (t_behind ((2 * l2) - 2).toNatClampNeg)) + (t_behind ((2 * l2) - 1).toNatClampNeg)))))) :: R) H := hP
        have hD : va_D A ((h_t, .inr (12, (z_t_0 :: z_t_1 :: z_t_2 :: .int t_a :: .int t_b :: z_t_5 :: z_t_6 :: z_t_7 :: z_t_8 :: z_t_9 :: z_t_10 :: z_t_11 :: z_t_12 :: z_t_13 :: z_t_14 :: z_t_15 :: z_t_16 :: z_t_17 :: z_t_18 :: z_t_19 :: z_t_20 :: z_t_21 :: z_t_22 :: z_t_23 :: z_t_24 :: .ref h_t_behind :: z_t_26 :: z_t_27 :: z_t_28 :: z_t_29 :: z_t_30 :: z_t_31 :: z_t_32 :: z_t_33 :: z_t_34 :: z_t_35 :: z_t_36 :: z_t_37 :: z_t_38 :: z_t_39 :: z_t_40 :: z_t_41 :: z_t_42 :: z_t_43 :: z_t_44 :: z_t_45 :: z_t_46 :: z_t_47 :: z_t_48 :: z_t_49 :: z_t_50 :: z_t_51 :: z_t_52 :: z_t_53 :: z_t_54 :: z_t_55 :: z_t_56 :: z_t_57 :: z_t_58 :: z_t_59 :: z_t_60 :: []))) :: (h_t_behind, .inl (k_t_behind, 64, .inr (.inl (vp_updL t_behind (2 * l2).toNatClampNeg ((r_c53_5.toInt64 * (t_behind ((2 * l2) - 2).toNatClampNeg)) + (t_behind ((2 * l2) - 1).toNatClampNeg)))))) :: R) := hD
        refine lv_i2l (v := r_c74_7.toInt64) hx hb dX12_count0_77 rfl ?_
        refine lv_lload_n hx hb dX12_count0_78 rfl (lv_at hl 1 rfl) ?_
        refine lv_lmul hx hb dX12_count0_79 ?_
        refine lv_aload_n hx hb dX12_count0_80 rfl (lv_at hl 2 rfl) ?_
        refine va_get (D := D) (ci := 12) (v := .int t_b) (C := RX12) (T := TX12) (N := 61) hx hb ha ix12 hown hK hP 0 rfl rfl 4 (by decide) (ha _ q964) (fun _ h9 => h9) rfl dX12_count0_81 ?_
        refine lv_if_le (tgt := 91) hx hb dX12_count0_84 (by decide) (fun c9 => ?_) (fun c9 => ?_)
        · have h := br_pos c9 h
          refine lv_lload hx hb dX12_count0_91 (lv_at hl 0 rfl) ?_
          refine lv_ladd hx hb dX12_count0_93 ?_
          obtain ⟨i10, h⟩ := ix_ok h
          refine va_last hx hb hK hP hD hS 1 0 rfl rfl i10 dX12_count0_94 (fun H locs hP hD hS => ?_)
          have hP : va_P D vwCl ((h_t, .inr (12, (z_t_0 :: z_t_1 :: z_t_2 :: .int t_a :: .int t_b :: z_t_5 :: z_t_6 :: z_t_7 :: z_t_8 :: z_t_9 :: z_t_10 :: z_t_11 :: z_t_12 :: z_t_13 :: z_t_14 :: z_t_15 :: z_t_16 :: z_t_17 :: z_t_18 :: z_t_19 :: z_t_20 :: z_t_21 :: z_t_22 :: z_t_23 :: z_t_24 :: .ref h_t_behind :: z_t_26 :: z_t_27 :: z_t_28 :: z_t_29 :: z_t_30 :: z_t_31 :: z_t_32 :: z_t_33 :: z_t_34 :: z_t_35 :: z_t_36 :: z_t_37 :: z_t_38 :: z_t_39 :: z_t_40 :: z_t_41 :: z_t_42 :: z_t_43 :: z_t_44 :: z_t_45 :: z_t_46 :: z_t_47 :: z_t_48 :: z_t_49 :: z_t_50 :: z_t_51 :: z_t_52 :: z_t_53 :: z_t_54 :: z_t_55 :: z_t_56 :: z_t_57 :: z_t_58 :: z_t_59 :: z_t_60 :: []))) :: (h_t_behind, .inl (k_t_behind, 64, .inr (.inl (vp_updL (vp_updL t_behind (2 * l2).toNatClampNeg ((r_c53_5.toInt64 * (t_behind ((2 * l2) - 2).toNatClampNeg)) + (t_behind ((2 * l2) - 1).toNatClampNeg))) ((2 * l2) + 1).toNatClampNeg ((r_c74_7.toInt64 * (t_behind ((2 * l2) - 2).toNatClampNeg)) + (t_behind ((2 * l2) - 1).toNatClampNeg)))))) :: R) H := hP
          have hD : va_D A ((h_t, .inr (12, (z_t_0 :: z_t_1 :: z_t_2 :: .int t_a :: .int t_b :: z_t_5 :: z_t_6 :: z_t_7 :: z_t_8 :: z_t_9 :: z_t_10 :: z_t_11 :: z_t_12 :: z_t_13 :: z_t_14 :: z_t_15 :: z_t_16 :: z_t_17 :: z_t_18 :: z_t_19 :: z_t_20 :: z_t_21 :: z_t_22 :: z_t_23 :: z_t_24 :: .ref h_t_behind :: z_t_26 :: z_t_27 :: z_t_28 :: z_t_29 :: z_t_30 :: z_t_31 :: z_t_32 :: z_t_33 :: z_t_34 :: z_t_35 :: z_t_36 :: z_t_37 :: z_t_38 :: z_t_39 :: z_t_40 :: z_t_41 :: z_t_42 :: z_t_43 :: z_t_44 :: z_t_45 :: z_t_46 :: z_t_47 :: z_t_48 :: z_t_49 :: z_t_50 :: z_t_51 :: z_t_52 :: z_t_53 :: z_t_54 :: z_t_55 :: z_t_56 :: z_t_57 :: z_t_58 :: z_t_59 :: z_t_60 :: []))) :: (h_t_behind, .inl (k_t_behind, 64, .inr (.inl (vp_updL (vp_updL t_behind (2 * l2).toNatClampNeg ((r_c53_5.toInt64 * (t_behind ((2 * l2) - 2).toNatClampNeg)) + (t_behind ((2 * l2) - 1).toNatClampNeg))) ((2 * l2) + 1).toNatClampNeg ((r_c74_7.toInt64 * (t_behind ((2 * l2) - 2).toNatClampNeg)) + (t_behind ((2 * l2) - 1).toNatClampNeg)))))) :: R) := hD
          refine lv_iinc (v := (l2 + 1)) (lv' := [(2, .int (l2 + 1)), (5, .long (t_behind ((2 * l2) - 1).toNatClampNeg)), (3, .long (t_behind ((2 * l2) - 2).toNatClampNeg)), (0, .ref h_t), (1, .int l1)]) hx hb dX12_count0_95 hl (k := 4) rfl rfl (by decide) rfl (fun ls hl => ?_)
          refine lv_goto (tgt := 16) hx hb dX12_count0_98 (by decide) ?_
          exact ih l1 (l2 + 1) (vp_updL (vp_updL t_behind (2 * l2).toNatClampNeg ((r_c53_5.toInt64 * (t_behind ((2 * l2) - 2).toNatClampNeg)) + (t_behind ((2 * l2) - 1).toNatClampNeg))) ((2 * l2) + 1).toNatClampNeg ((r_c74_7.toInt64 * (t_behind ((2 * l2) - 2).toNatClampNeg)) + (t_behind ((2 * l2) - 1).toNatClampNeg))) _ h _ _ _ hP hD hS (lv_sub hl [3, 4, 0] rfl) kk0
        · have h := br_neg c9 h
          refine lv_lload_n hx hb dX12_count0_87 rfl (lv_at hl 1 rfl) ?_
          refine lv_goto (tgt := 93) hx hb dX12_count0_88 (by decide) ?_
          refine lv_ladd hx hb dX12_count0_93 ?_
          obtain ⟨i11, h⟩ := ix_ok h
          refine va_last hx hb hK hP hD hS 1 0 rfl rfl i11 dX12_count0_94 (fun H locs hP hD hS => ?_)
          have hP : va_P D vwCl ((h_t, .inr (12, (z_t_0 :: z_t_1 :: z_t_2 :: .int t_a :: .int t_b :: z_t_5 :: z_t_6 :: z_t_7 :: z_t_8 :: z_t_9 :: z_t_10 :: z_t_11 :: z_t_12 :: z_t_13 :: z_t_14 :: z_t_15 :: z_t_16 :: z_t_17 :: z_t_18 :: z_t_19 :: z_t_20 :: z_t_21 :: z_t_22 :: z_t_23 :: z_t_24 :: .ref h_t_behind :: z_t_26 :: z_t_27 :: z_t_28 :: z_t_29 :: z_t_30 :: z_t_31 :: z_t_32 :: z_t_33 :: z_t_34 :: z_t_35 :: z_t_36 :: z_t_37 :: z_t_38 :: z_t_39 :: z_t_40 :: z_t_41 :: z_t_42 :: z_t_43 :: z_t_44 :: z_t_45 :: z_t_46 :: z_t_47 :: z_t_48 :: z_t_49 :: z_t_50 :: z_t_51 :: z_t_52 :: z_t_53 :: z_t_54 :: z_t_55 :: z_t_56 :: z_t_57 :: z_t_58 :: z_t_59 :: z_t_60 :: []))) :: (h_t_behind, .inl (k_t_behind, 64, .inr (.inl (vp_updL (vp_updL t_behind (2 * l2).toNatClampNeg ((r_c53_5.toInt64 * (t_behind ((2 * l2) - 2).toNatClampNeg)) + (t_behind ((2 * l2) - 1).toNatClampNeg))) ((2 * l2) + 1).toNatClampNeg ((r_c74_7.toInt64 * (t_behind ((2 * l2) - 2).toNatClampNeg)) + (t_behind ((2 * l2) - 2).toNatClampNeg)))))) :: R) H := hP
          have hD : va_D A ((h_t, .inr (12, (z_t_0 :: z_t_1 :: z_t_2 :: .int t_a :: .int t_b :: z_t_5 :: z_t_6 :: z_t_7 :: z_t_8 :: z_t_9 :: z_t_10 :: z_t_11 :: z_t_12 :: z_t_13 :: z_t_14 :: z_t_15 :: z_t_16 :: z_t_17 :: z_t_18 :: z_t_19 :: z_t_20 :: z_t_21 :: z_t_22 :: z_t_23 :: z_t_24 :: .ref h_t_behind :: z_t_26 :: z_t_27 :: z_t_28 :: z_t_29 :: z_t_30 :: z_t_31 :: z_t_32 :: z_t_33 :: z_t_34 :: z_t_35 :: z_t_36 :: z_t_37 :: z_t_38 :: z_t_39 :: z_t_40 :: z_t_41 :: z_t_42 :: z_t_43 :: z_t_44 :: z_t_45 :: z_t_46 :: z_t_47 :: z_t_48 :: z_t_49 :: z_t_50 :: z_t_51 :: z_t_52 :: z_t_53 :: z_t_54 :: z_t_55 :: z_t_56 :: z_t_57 :: z_t_58 :: z_t_59 :: z_t_60 :: []))) :: (h_t_behind, .inl (k_t_behind, 64, .inr (.inl (vp_updL (vp_updL t_behind (2 * l2).toNatClampNeg ((r_c53_5.toInt64 * (t_behind ((2 * l2) - 2).toNatClampNeg)) + (t_behind ((2 * l2) - 1).toNatClampNeg))) ((2 * l2) + 1).toNatClampNeg ((r_c74_7.toInt64 * (t_behind ((2 * l2) - 2).toNatClampNeg)) + (t_behind ((2 * l2) - 2).toNatClampNeg)))))) :: R) := hD
          refine lv_iinc (v := (l2 + 1)) (lv' := [(2, .int (l2 + 1)), (5, .long (t_behind ((2 * l2) - 1).toNatClampNeg)), (3, .long (t_behind ((2 * l2) - 2).toNatClampNeg)), (0, .ref h_t), (1, .int l1)]) hx hb dX12_count0_95 hl (k := 4) rfl rfl (by decide) rfl (fun ls hl => ?_)
          refine lv_goto (tgt := 16) hx hb dX12_count0_98 (by decide) ?_
          exact ih l1 (l2 + 1) (vp_updL (vp_updL t_behind (2 * l2).toNatClampNeg ((r_c53_5.toInt64 * (t_behind ((2 * l2) - 2).toNatClampNeg)) + (t_behind ((2 * l2) - 1).toNatClampNeg))) ((2 * l2) + 1).toNatClampNeg ((r_c74_7.toInt64 * (t_behind ((2 * l2) - 2).toNatClampNeg)) + (t_behind ((2 * l2) - 2).toNatClampNeg))) _ h _ _ _ hP hD hS (lv_sub hl [3, 4, 0] rfl) kk0
  unfold f_X12_count0 at h
  refine lv_aload_n hx hb dX12_count0_0 rfl (lv_at hl 0 rfl) ?_
  refine va_get (D := D) (ci := 12) (v := .ref h_t_behind) (C := RX12) (T := TX12) (N := 61) hx hb ha ix12 hown hK hP 0 rfl rfl 25 (by decide) (ha _ q985) (fun _ h9 => h9) rfl dX12_count0_1 ?_
  refine lv_iconst (v := 0) hx hb dX12_count0_4 (by decide) ?_
  refine lv_lconst (v := 1) hx hb dX12_count0_5 (by decide) ?_
  obtain ⟨i1, h⟩ := ix_ok h
  refine va_last hx hb hK hP hD hS 1 0 rfl rfl i1 dX12_count0_6 (fun H locs hP hD hS => ?_)
  have hP : va_P D vwCl ((h_t, .inr (12, (z_t_0 :: z_t_1 :: z_t_2 :: .int t_a :: .int t_b :: z_t_5 :: z_t_6 :: z_t_7 :: z_t_8 :: z_t_9 :: z_t_10 :: z_t_11 :: z_t_12 :: z_t_13 :: z_t_14 :: z_t_15 :: z_t_16 :: z_t_17 :: z_t_18 :: z_t_19 :: z_t_20 :: z_t_21 :: z_t_22 :: z_t_23 :: z_t_24 :: .ref h_t_behind :: z_t_26 :: z_t_27 :: z_t_28 :: z_t_29 :: z_t_30 :: z_t_31 :: z_t_32 :: z_t_33 :: z_t_34 :: z_t_35 :: z_t_36 :: z_t_37 :: z_t_38 :: z_t_39 :: z_t_40 :: z_t_41 :: z_t_42 :: z_t_43 :: z_t_44 :: z_t_45 :: z_t_46 :: z_t_47 :: z_t_48 :: z_t_49 :: z_t_50 :: z_t_51 :: z_t_52 :: z_t_53 :: z_t_54 :: z_t_55 :: z_t_56 :: z_t_57 :: z_t_58 :: z_t_59 :: z_t_60 :: []))) :: (h_t_behind, .inl (k_t_behind, 64, .inr (.inl (vp_updL t_behind (0 : Int32).toNatClampNeg 1)))) :: R) H := hP
  have hD : va_D A ((h_t, .inr (12, (z_t_0 :: z_t_1 :: z_t_2 :: .int t_a :: .int t_b :: z_t_5 :: z_t_6 :: z_t_7 :: z_t_8 :: z_t_9 :: z_t_10 :: z_t_11 :: z_t_12 :: z_t_13 :: z_t_14 :: z_t_15 :: z_t_16 :: z_t_17 :: z_t_18 :: z_t_19 :: z_t_20 :: z_t_21 :: z_t_22 :: z_t_23 :: z_t_24 :: .ref h_t_behind :: z_t_26 :: z_t_27 :: z_t_28 :: z_t_29 :: z_t_30 :: z_t_31 :: z_t_32 :: z_t_33 :: z_t_34 :: z_t_35 :: z_t_36 :: z_t_37 :: z_t_38 :: z_t_39 :: z_t_40 :: z_t_41 :: z_t_42 :: z_t_43 :: z_t_44 :: z_t_45 :: z_t_46 :: z_t_47 :: z_t_48 :: z_t_49 :: z_t_50 :: z_t_51 :: z_t_52 :: z_t_53 :: z_t_54 :: z_t_55 :: z_t_56 :: z_t_57 :: z_t_58 :: z_t_59 :: z_t_60 :: []))) :: (h_t_behind, .inl (k_t_behind, 64, .inr (.inl (vp_updL t_behind (0 : Int32).toNatClampNeg 1)))) :: R) := hD
  refine lv_aload_n hx hb dX12_count0_7 rfl (lv_at hl 0 rfl) ?_
  refine va_get (D := D) (ci := 12) (v := .ref h_t_behind) (C := RX12) (T := TX12) (N := 61) hx hb ha ix12 hown hK hP 0 rfl rfl 25 (by decide) (ha _ q985) (fun _ h9 => h9) rfl dX12_count0_8 ?_
  refine lv_iconst (v := 1) hx hb dX12_count0_11 (by decide) ?_
  refine lv_lconst (v := 1) hx hb dX12_count0_12 (by decide) ?_
  obtain ⟨i2, h⟩ := ix_ok h
  refine va_last hx hb hK hP hD hS 1 0 rfl rfl i2 dX12_count0_13 (fun H locs hP hD hS => ?_)
  have hP : va_P D vwCl ((h_t, .inr (12, (z_t_0 :: z_t_1 :: z_t_2 :: .int t_a :: .int t_b :: z_t_5 :: z_t_6 :: z_t_7 :: z_t_8 :: z_t_9 :: z_t_10 :: z_t_11 :: z_t_12 :: z_t_13 :: z_t_14 :: z_t_15 :: z_t_16 :: z_t_17 :: z_t_18 :: z_t_19 :: z_t_20 :: z_t_21 :: z_t_22 :: z_t_23 :: z_t_24 :: .ref h_t_behind :: z_t_26 :: z_t_27 :: z_t_28 :: z_t_29 :: z_t_30 :: z_t_31 :: z_t_32 :: z_t_33 :: z_t_34 :: z_t_35 :: z_t_36 :: z_t_37 :: z_t_38 :: z_t_39 :: z_t_40 :: z_t_41 :: z_t_42 :: z_t_43 :: z_t_44 :: z_t_45 :: z_t_46 :: z_t_47 :: z_t_48 :: z_t_49 :: z_t_50 :: z_t_51 :: z_t_52 :: z_t_53 :: z_t_54 :: z_t_55 :: z_t_56 :: z_t_57 :: z_t_58 :: z_t_59 :: z_t_60 :: []))) :: (h_t_behind, .inl (k_t_behind, 64, .inr (.inl (vp_updL (vp_updL t_behind (0 : Int32).toNatClampNeg 1) (1 : Int32).toNatClampNeg 1)))) :: R) H := hP
  have hD : va_D A ((h_t, .inr (12, (z_t_0 :: z_t_1 :: z_t_2 :: .int t_a :: .int t_b :: z_t_5 :: z_t_6 :: z_t_7 :: z_t_8 :: z_t_9 :: z_t_10 :: z_t_11 :: z_t_12 :: z_t_13 :: z_t_14 :: z_t_15 :: z_t_16 :: z_t_17 :: z_t_18 :: z_t_19 :: z_t_20 :: z_t_21 :: z_t_22 :: z_t_23 :: z_t_24 :: .ref h_t_behind :: z_t_26 :: z_t_27 :: z_t_28 :: z_t_29 :: z_t_30 :: z_t_31 :: z_t_32 :: z_t_33 :: z_t_34 :: z_t_35 :: z_t_36 :: z_t_37 :: z_t_38 :: z_t_39 :: z_t_40 :: z_t_41 :: z_t_42 :: z_t_43 :: z_t_44 :: z_t_45 :: z_t_46 :: z_t_47 :: z_t_48 :: z_t_49 :: z_t_50 :: z_t_51 :: z_t_52 :: z_t_53 :: z_t_54 :: z_t_55 :: z_t_56 :: z_t_57 :: z_t_58 :: z_t_59 :: z_t_60 :: []))) :: (h_t_behind, .inl (k_t_behind, 64, .inr (.inl (vp_updL (vp_updL t_behind (0 : Int32).toNatClampNeg 1) (1 : Int32).toNatClampNeg 1)))) :: R) := hD
  refine lv_iconst (v := 1) hx hb dX12_count0_14 (by decide) ?_
  refine lv_istore_n (lv' := [(2, .int 1), (0, .ref h_t), (1, .int l1)]) hx hb dX12_count0_15 rfl hl (by decide) rfl (fun ls hl => ?_)
  obtain ⟨x_t_behind_L16_11, e_L16_11, h⟩ := bnd1_ok h
  refine L16 _ _ l1 1 (vp_updL (vp_updL t_behind (0 : Int32).toNatClampNeg 1) (1 : Int32).toNatClampNeg 1) x_t_behind_L16_11 e_L16_11 _ _ _ hP hD hS (lv_sub hl [1, 2, 0] rfl) ?_
  intro H locs ls hP hD hS hl
  cases h
  exact rt_v S hr hlk hP hD hS dX12_count0_101
noncomputable def f_X12_rows (t_thrown : Int32) (t_a : Int32) (t_b : Int32) (t_behind : Nat → Int64) (l1 : Int32) : Option (Int64 × Int32 × (Nat → Int64)) :=
  if l1 < 0 then (
   bnd2 (f_X12_throwsIf t_thrown 1) fun r_c16_1 t_thrown_c16_1 => (
    if r_c16_1 = 0 then (
     bnd1 (f_X12_count0 t_a t_b t_behind l1) fun t_behind_c26_3 => (
      gd (ixb (2 * l1) 64) (
       some ((t_behind_c26_3 (2 * l1).toNatClampNeg), t_thrown_c16_1, t_behind_c26_3)
      )
     )
    ) else (
     some (0, t_thrown_c16_1, t_behind)
    )
   )
  ) else (
   if l1 ≤ 16 then (
    bnd2 (f_X12_throwsIf t_thrown 0) fun r_c16_6 t_thrown_c16_6 => (
     if r_c16_6 = 0 then (
      bnd1 (f_X12_count0 t_a t_b t_behind l1) fun t_behind_c26_8 => (
       gd (ixb (2 * l1) 64) (
        some ((t_behind_c26_8 (2 * l1).toNatClampNeg), t_thrown_c16_6, t_behind_c26_8)
       )
      )
     ) else (
      some (0, t_thrown_c16_6, t_behind)
     )
    )
   ) else (
    bnd2 (f_X12_throwsIf t_thrown 1) fun r_c16_10 t_thrown_c16_10 => (
     if r_c16_10 = 0 then (
      bnd1 (f_X12_count0 t_a t_b t_behind l1) fun t_behind_c26_12 => (
       gd (ixb (2 * l1) 64) (
        some ((t_behind_c26_12 (2 * l1).toNatClampNeg), t_thrown_c16_10, t_behind_c26_12)
       )
      )
     ) else (
      some (0, t_thrown_c16_10, t_behind)
     )
    )
   )
  )
set_option maxHeartbeats 4000000 in
set_option maxRecDepth 100000 in
theorem c_X12_rows (l : Launch) (D : va_G) (R : va_W) (h_t : Nat) (t_thrown : Int32) (z_t_1 : Value) (z_t_2 : Value) (t_a : Int32) (t_b : Int32) (z_t_5 : Value) (z_t_6 : Value) (z_t_7 : Value) (z_t_8 : Value) (z_t_9 : Value) (z_t_10 : Value) (z_t_11 : Value) (z_t_12 : Value) (z_t_13 : Value) (z_t_14 : Value) (z_t_15 : Value) (z_t_16 : Value) (z_t_17 : Value) (z_t_18 : Value) (z_t_19 : Value) (z_t_20 : Value) (z_t_21 : Value) (z_t_22 : Value) (z_t_23 : Value) (z_t_24 : Value) (z_t_26 : Value) (z_t_27 : Value) (z_t_28 : Value) (z_t_29 : Value) (z_t_30 : Value) (z_t_31 : Value) (z_t_32 : Value) (z_t_33 : Value) (z_t_34 : Value) (z_t_35 : Value) (z_t_36 : Value) (z_t_37 : Value) (z_t_38 : Value) (z_t_39 : Value) (z_t_40 : Value) (z_t_41 : Value) (z_t_42 : Value) (z_t_43 : Value) (z_t_44 : Value) (z_t_45 : Value) (z_t_46 : Value) (z_t_47 : Value) (z_t_48 : Value) (z_t_49 : Value) (z_t_50 : Value) (z_t_51 : Value) (z_t_52 : Value) (z_t_53 : Value) (z_t_54 : Value) (z_t_55 : Value) (z_t_56 : Value) (z_t_57 : Value) (z_t_58 : Value) (z_t_59 : Value) (z_t_60 : Value) (h_t_behind : Nat) (k_t_behind : ClassId) (t_behind : Nat → Int64) (l1 : Int32) (r : Int64) (o_t_thrown : Int32) (o_t_behind : Nat → Int64)  (h : f_X12_rows t_thrown t_a t_b t_behind l1 = some (r, o_t_thrown, o_t_behind)) (sz : Nat) : Met l yX12_rows (WD yX12_rows cX12_rows 2 (some .long)) ({ frames := 2, cells := 0, slots := 0, locals := 47 }) (va_Pc [.ref h_t, .int l1] (PcW D [(k_t_behind, .long)] ((h_t, .inr (12, (.int t_thrown :: z_t_1 :: z_t_2 :: .int t_a :: .int t_b :: z_t_5 :: z_t_6 :: z_t_7 :: z_t_8 :: z_t_9 :: z_t_10 :: z_t_11 :: z_t_12 :: z_t_13 :: z_t_14 :: z_t_15 :: z_t_16 :: z_t_17 :: z_t_18 :: z_t_19 :: z_t_20 :: z_t_21 :: z_t_22 :: z_t_23 :: z_t_24 :: .ref h_t_behind :: z_t_26 :: z_t_27 :: z_t_28 :: z_t_29 :: z_t_30 :: z_t_31 :: z_t_32 :: z_t_33 :: z_t_34 :: z_t_35 :: z_t_36 :: z_t_37 :: z_t_38 :: z_t_39 :: z_t_40 :: z_t_41 :: z_t_42 :: z_t_43 :: z_t_44 :: z_t_45 :: z_t_46 :: z_t_47 :: z_t_48 :: z_t_49 :: z_t_50 :: z_t_51 :: z_t_52 :: z_t_53 :: z_t_54 :: z_t_55 :: z_t_56 :: z_t_57 :: z_t_58 :: z_t_59 :: z_t_60 :: []))) :: (h_t_behind, .inl (k_t_behind, 64, .inr (.inl t_behind))) :: R) sz)) (QL D r ((h_t, .inr (12, (.int o_t_thrown :: z_t_1 :: z_t_2 :: .int t_a :: .int t_b :: z_t_5 :: z_t_6 :: z_t_7 :: z_t_8 :: z_t_9 :: z_t_10 :: z_t_11 :: z_t_12 :: z_t_13 :: z_t_14 :: z_t_15 :: z_t_16 :: z_t_17 :: z_t_18 :: z_t_19 :: z_t_20 :: z_t_21 :: z_t_22 :: z_t_23 :: z_t_24 :: .ref h_t_behind :: z_t_26 :: z_t_27 :: z_t_28 :: z_t_29 :: z_t_30 :: z_t_31 :: z_t_32 :: z_t_33 :: z_t_34 :: z_t_35 :: z_t_36 :: z_t_37 :: z_t_38 :: z_t_39 :: z_t_40 :: z_t_41 :: z_t_42 :: z_t_43 :: z_t_44 :: z_t_45 :: z_t_46 :: z_t_47 :: z_t_48 :: z_t_49 :: z_t_50 :: z_t_51 :: z_t_52 :: z_t_53 :: z_t_54 :: z_t_55 :: z_t_56 :: z_t_57 :: z_t_58 :: z_t_59 :: z_t_60 :: []))) :: (h_t_behind, .inl (k_t_behind, 64, .inr (.inl o_t_behind))) :: R) (va_A ((h_t, .inr (12, (.int t_thrown :: z_t_1 :: z_t_2 :: .int t_a :: .int t_b :: z_t_5 :: z_t_6 :: z_t_7 :: z_t_8 :: z_t_9 :: z_t_10 :: z_t_11 :: z_t_12 :: z_t_13 :: z_t_14 :: z_t_15 :: z_t_16 :: z_t_17 :: z_t_18 :: z_t_19 :: z_t_20 :: z_t_21 :: z_t_22 :: z_t_23 :: z_t_24 :: .ref h_t_behind :: z_t_26 :: z_t_27 :: z_t_28 :: z_t_29 :: z_t_30 :: z_t_31 :: z_t_32 :: z_t_33 :: z_t_34 :: z_t_35 :: z_t_36 :: z_t_37 :: z_t_38 :: z_t_39 :: z_t_40 :: z_t_41 :: z_t_42 :: z_t_43 :: z_t_44 :: z_t_45 :: z_t_46 :: z_t_47 :: z_t_48 :: z_t_49 :: z_t_50 :: z_t_51 :: z_t_52 :: z_t_53 :: z_t_54 :: z_t_55 :: z_t_56 :: z_t_57 :: z_t_58 :: z_t_59 :: z_t_60 :: []))) :: (h_t_behind, .inl (k_t_behind, 64, .inr (.inl t_behind))) :: R) sz)) 0 0 (va_A ((h_t, .inr (12, (.int t_thrown :: z_t_1 :: z_t_2 :: .int t_a :: .int t_b :: z_t_5 :: z_t_6 :: z_t_7 :: z_t_8 :: z_t_9 :: z_t_10 :: z_t_11 :: z_t_12 :: z_t_13 :: z_t_14 :: z_t_15 :: z_t_16 :: z_t_17 :: z_t_18 :: z_t_19 :: z_t_20 :: z_t_21 :: z_t_22 :: z_t_23 :: z_t_24 :: .ref h_t_behind :: z_t_26 :: z_t_27 :: z_t_28 :: z_t_29 :: z_t_30 :: z_t_31 :: z_t_32 :: z_t_33 :: z_t_34 :: z_t_35 :: z_t_36 :: z_t_37 :: z_t_38 :: z_t_39 :: z_t_40 :: z_t_41 :: z_t_42 :: z_t_43 :: z_t_44 :: z_t_45 :: z_t_46 :: z_t_47 :: z_t_48 :: z_t_49 :: z_t_50 :: z_t_51 :: z_t_52 :: z_t_53 :: z_t_54 :: z_t_55 :: z_t_56 :: z_t_57 :: z_t_58 :: z_t_59 :: z_t_60 :: []))) :: (h_t_behind, .inl (k_t_behind, 64, .inr (.inl t_behind))) :: R) sz) := by
  refine ct_start (QF := fun A => QL D r ((h_t, .inr (12, (.int o_t_thrown :: z_t_1 :: z_t_2 :: .int t_a :: .int t_b :: z_t_5 :: z_t_6 :: z_t_7 :: z_t_8 :: z_t_9 :: z_t_10 :: z_t_11 :: z_t_12 :: z_t_13 :: z_t_14 :: z_t_15 :: z_t_16 :: z_t_17 :: z_t_18 :: z_t_19 :: z_t_20 :: z_t_21 :: z_t_22 :: z_t_23 :: z_t_24 :: .ref h_t_behind :: z_t_26 :: z_t_27 :: z_t_28 :: z_t_29 :: z_t_30 :: z_t_31 :: z_t_32 :: z_t_33 :: z_t_34 :: z_t_35 :: z_t_36 :: z_t_37 :: z_t_38 :: z_t_39 :: z_t_40 :: z_t_41 :: z_t_42 :: z_t_43 :: z_t_44 :: z_t_45 :: z_t_46 :: z_t_47 :: z_t_48 :: z_t_49 :: z_t_50 :: z_t_51 :: z_t_52 :: z_t_53 :: z_t_54 :: z_t_55 :: z_t_56 :: z_t_57 :: z_t_58 :: z_t_59 :: z_t_60 :: []))) :: (h_t_behind, .inl (k_t_behind, 64, .inr (.inl o_t_behind))) :: R) A) ?_ ?_ ?_
  · decide +kernel
  · exact Nat.le_of_ble_eq_true rfl
  intro p e s m args below meth c A ls S hr hlk hnm hS hA hP hD hK hN hl
  have S : CallFix p m c cX12_rows 2 s args AL "DigitBenchModel" := S
  have hx := S.1
  have hb := S.2.1
  have hown := S.2.2.2.1
  have ha := S.2.2.2.2
  have hl : lv_has ls 2 [(0, .ref h_t), (1, .int l1)] := hl
  unfold f_X12_rows at h
  refine lv_aload_n hx hb dX12_rows_0 rfl (lv_at hl 0 rfl) ?_
  refine lv_iload_n hx hb dX12_rows_1 rfl (lv_at hl 1 rfl) ?_
  refine lv_if_lt (tgt := 11) hx hb dX12_rows_2 (by decide) (fun c1 => ?_) (fun c1 => ?_)
  · have h := br_pos c1 h
    refine lv_iconst (v := 1) hx hb dX12_rows_11 (by decide) ?_
    refine lv_goto (tgt := 16) hx hb dX12_rows_12 (by decide) ?_
    obtain ⟨r_c16_1, t_thrown_c16_1, e_c16_1, h⟩ := bnd2_ok h
    refine cl_z (rn_v (ci := 12) (As := [.int 1]) (rest := []) S (c_X12_throwsIf l D ((h_t_behind, .inl (k_t_behind, 64, .inr (.inl t_behind))) :: R) h_t t_thrown (z_t_1) (z_t_2) (.int t_a) (.int t_b) (z_t_5) (z_t_6) (z_t_7) (z_t_8) (z_t_9) (z_t_10) (z_t_11) (z_t_12) (z_t_13) (z_t_14) (z_t_15) (z_t_16) (z_t_17) (z_t_18) (z_t_19) (z_t_20) (z_t_21) (z_t_22) (z_t_23) (z_t_24) (.ref h_t_behind) (z_t_26) (z_t_27) (z_t_28) (z_t_29) (z_t_30) (z_t_31) (z_t_32) (z_t_33) (z_t_34) (z_t_35) (z_t_36) (z_t_37) (z_t_38) (z_t_39) (z_t_40) (z_t_41) (z_t_42) (z_t_43) (z_t_44) (z_t_45) (z_t_46) (z_t_47) (z_t_48) (z_t_49) (z_t_50) (z_t_51) (z_t_52) (z_t_53) (z_t_54) (z_t_55) (z_t_56) (z_t_57) (z_t_58) (z_t_59) (z_t_60) 1 r_c16_1 t_thrown_c16_1 (by decide) e_c16_1 _) q1214 q1216 q34 q61 q1217 nd_X12_throwsIf ⟨Nat.le_of_ble_eq_true rfl, Nat.le_of_ble_eq_true rfl⟩ rfl rfl hP hD (hK.sub (tys' := []) [] rfl) hN rfl ⟨0, _, rfl⟩ rfl hl.1 rfl (Nat.le_of_ble_eq_true rfl) dX12_rows_16 ⟨Nat.le_of_ble_eq_true rfl, Nat.le_of_ble_eq_true rfl⟩) hS hA hD (fun H locs hP hD hS z_c16_1 => ?_)
    have hP : va_P D vwCl ((h_t, .inr (12, (.int t_thrown_c16_1 :: z_t_1 :: z_t_2 :: .int t_a :: .int t_b :: z_t_5 :: z_t_6 :: z_t_7 :: z_t_8 :: z_t_9 :: z_t_10 :: z_t_11 :: z_t_12 :: z_t_13 :: z_t_14 :: z_t_15 :: z_t_16 :: z_t_17 :: z_t_18 :: z_t_19 :: z_t_20 :: z_t_21 :: z_t_22 :: z_t_23 :: z_t_24 :: .ref h_t_behind :: z_t_26 :: z_t_27 :: z_t_28 :: z_t_29 :: z_t_30 :: z_t_31 :: z_t_32 :: z_t_33 :: z_t_34 :: z_t_35 :: z_t_36 :: z_t_37 :: z_t_38 :: z_t_39 :: z_t_40 :: z_t_41 :: z_t_42 :: z_t_43 :: z_t_44 :: z_t_45 :: z_t_46 :: z_t_47 :: z_t_48 :: z_t_49 :: z_t_50 :: z_t_51 :: z_t_52 :: z_t_53 :: z_t_54 :: z_t_55 :: z_t_56 :: z_t_57 :: z_t_58 :: z_t_59 :: z_t_60 :: []))) :: (h_t_behind, .inl (k_t_behind, 64, .inr (.inl t_behind))) :: R) H := hP
    have hD : va_D A ((h_t, .inr (12, (.int t_thrown_c16_1 :: z_t_1 :: z_t_2 :: .int t_a :: .int t_b :: z_t_5 :: z_t_6 :: z_t_7 :: z_t_8 :: z_t_9 :: z_t_10 :: z_t_11 :: z_t_12 :: z_t_13 :: z_t_14 :: z_t_15 :: z_t_16 :: z_t_17 :: z_t_18 :: z_t_19 :: z_t_20 :: z_t_21 :: z_t_22 :: z_t_23 :: z_t_24 :: .ref h_t_behind :: z_t_26 :: z_t_27 :: z_t_28 :: z_t_29 :: z_t_30 :: z_t_31 :: z_t_32 :: z_t_33 :: z_t_34 :: z_t_35 :: z_t_36 :: z_t_37 :: z_t_38 :: z_t_39 :: z_t_40 :: z_t_41 :: z_t_42 :: z_t_43 :: z_t_44 :: z_t_45 :: z_t_46 :: z_t_47 :: z_t_48 :: z_t_49 :: z_t_50 :: z_t_51 :: z_t_52 :: z_t_53 :: z_t_54 :: z_t_55 :: z_t_56 :: z_t_57 :: z_t_58 :: z_t_59 :: z_t_60 :: []))) :: (h_t_behind, .inl (k_t_behind, 64, .inr (.inl t_behind))) :: R) := hD
    refine lv_if_eq (tgt := 24) hx hb dX12_rows_19 (by decide) (fun c3 => ?_) (fun c3 => ?_)
    · have h := br_pos c3 h
      refine lv_aload_n hx hb dX12_rows_24 rfl (lv_at hl 0 rfl) ?_
      refine lv_iload_n hx hb dX12_rows_25 rfl (lv_at hl 1 rfl) ?_
      obtain ⟨t_behind_c26_3, e_c26_3, h⟩ := bnd1_ok h
      refine cl_v (rn_v (ci := 12) (As := [.int l1]) (rest := []) S (c_X12_count0 l D (R) h_t (.int t_thrown_c16_1) (z_t_1) (z_t_2) t_a t_b (z_t_5) (z_t_6) (z_t_7) (z_t_8) (z_t_9) (z_t_10) (z_t_11) (z_t_12) (z_t_13) (z_t_14) (z_t_15) (z_t_16) (z_t_17) (z_t_18) (z_t_19) (z_t_20) (z_t_21) (z_t_22) (z_t_23) (z_t_24) (z_t_26) (z_t_27) (z_t_28) (z_t_29) (z_t_30) (z_t_31) (z_t_32) (z_t_33) (z_t_34) (z_t_35) (z_t_36) (z_t_37) (z_t_38) (z_t_39) (z_t_40) (z_t_41) (z_t_42) (z_t_43) (z_t_44) (z_t_45) (z_t_46) (z_t_47) (z_t_48) (z_t_49) (z_t_50) (z_t_51) (z_t_52) (z_t_53) (z_t_54) (z_t_55) (z_t_56) (z_t_57) (z_t_58) (z_t_59) (z_t_60) h_t_behind k_t_behind t_behind l1 t_behind_c26_3 e_c26_3 _) q1283 q1285 q42 q61 q1286 nd_X12_count0 ⟨Nat.le_of_ble_eq_true rfl, Nat.le_of_ble_eq_true rfl⟩ rfl rfl hP hD (hK.sub (tys' := [(k_t_behind, .long)]) [0] rfl) hN rfl ⟨0, _, rfl⟩ rfl hl.1 rfl (Nat.le_of_ble_eq_true rfl) dX12_rows_26 ⟨Nat.le_of_ble_eq_true rfl, Nat.le_of_ble_eq_true rfl⟩) hS hA hD (fun H locs hP hD hS => ?_)
      have hP : va_P D vwCl ((h_t, .inr (12, (.int t_thrown_c16_1 :: z_t_1 :: z_t_2 :: .int t_a :: .int t_b :: z_t_5 :: z_t_6 :: z_t_7 :: z_t_8 :: z_t_9 :: z_t_10 :: z_t_11 :: z_t_12 :: z_t_13 :: z_t_14 :: z_t_15 :: z_t_16 :: z_t_17 :: z_t_18 :: z_t_19 :: z_t_20 :: z_t_21 :: z_t_22 :: z_t_23 :: z_t_24 :: .ref h_t_behind :: z_t_26 :: z_t_27 :: z_t_28 :: z_t_29 :: z_t_30 :: z_t_31 :: z_t_32 :: z_t_33 :: z_t_34 :: z_t_35 :: z_t_36 :: z_t_37 :: z_t_38 :: z_t_39 :: z_t_40 :: z_t_41 :: z_t_42 :: z_t_43 :: z_t_44 :: z_t_45 :: z_t_46 :: z_t_47 :: z_t_48 :: z_t_49 :: z_t_50 :: z_t_51 :: z_t_52 :: z_t_53 :: z_t_54 :: z_t_55 :: z_t_56 :: z_t_57 :: z_t_58 :: z_t_59 :: z_t_60 :: []))) :: (h_t_behind, .inl (k_t_behind, 64, .inr (.inl t_behind_c26_3))) :: R) H := hP
      have hD : va_D A ((h_t, .inr (12, (.int t_thrown_c16_1 :: z_t_1 :: z_t_2 :: .int t_a :: .int t_b :: z_t_5 :: z_t_6 :: z_t_7 :: z_t_8 :: z_t_9 :: z_t_10 :: z_t_11 :: z_t_12 :: z_t_13 :: z_t_14 :: z_t_15 :: z_t_16 :: z_t_17 :: z_t_18 :: z_t_19 :: z_t_20 :: z_t_21 :: z_t_22 :: z_t_23 :: z_t_24 :: .ref h_t_behind :: z_t_26 :: z_t_27 :: z_t_28 :: z_t_29 :: z_t_30 :: z_t_31 :: z_t_32 :: z_t_33 :: z_t_34 :: z_t_35 :: z_t_36 :: z_t_37 :: z_t_38 :: z_t_39 :: z_t_40 :: z_t_41 :: z_t_42 :: z_t_43 :: z_t_44 :: z_t_45 :: z_t_46 :: z_t_47 :: z_t_48 :: z_t_49 :: z_t_50 :: z_t_51 :: z_t_52 :: z_t_53 :: z_t_54 :: z_t_55 :: z_t_56 :: z_t_57 :: z_t_58 :: z_t_59 :: z_t_60 :: []))) :: (h_t_behind, .inl (k_t_behind, 64, .inr (.inl t_behind_c26_3))) :: R) := hD
      refine lv_aload_n hx hb dX12_rows_29 rfl (lv_at hl 0 rfl) ?_
      refine va_get (D := D) (ci := 12) (v := .ref h_t_behind) (C := RX12) (T := TX12) (N := 61) hx hb ha ix12 hown hK hP 0 rfl rfl 25 (by decide) (ha _ q985) (fun _ h9 => h9) rfl dX12_rows_30 ?_
      refine lv_iconst (v := 2) hx hb dX12_rows_33 (by decide) ?_
      refine lv_iload_n hx hb dX12_rows_34 rfl (lv_at hl 1 rfl) ?_
      refine lv_imul hx hb dX12_rows_35 ?_
      obtain ⟨i5, h⟩ := ix_ok h
      refine va_lald hx hb hK hP 1 0 rfl rfl i5 dX12_rows_36 ?_
      cases h
      exact rt_l S hr hlk hP hD hS dX12_rows_37
    · have h := br_neg c3 h
      refine lv_lconst (v := 0) hx hb dX12_rows_22 (by decide) ?_
      cases h
      exact rt_l S hr hlk hP hD hS dX12_rows_23
  · have h := br_neg c1 h
    refine lv_iload_n hx hb dX12_rows_5 rfl (lv_at hl 1 rfl) ?_
    refine lv_bipush (v := 16) hx hb dX12_rows_6 (by decide) ?_
    refine lv_icmp_le (tgt := 15) hx hb dX12_rows_8 (by decide) (fun c6 => ?_) (fun c6 => ?_)
    · have h := br_pos c6 h
      refine lv_iconst (v := 0) hx hb dX12_rows_15 (by decide) ?_
      obtain ⟨r_c16_6, t_thrown_c16_6, e_c16_6, h⟩ := bnd2_ok h
      refine cl_z (rn_v (ci := 12) (As := [.int 0]) (rest := []) S (c_X12_throwsIf l D ((h_t_behind, .inl (k_t_behind, 64, .inr (.inl t_behind))) :: R) h_t t_thrown (z_t_1) (z_t_2) (.int t_a) (.int t_b) (z_t_5) (z_t_6) (z_t_7) (z_t_8) (z_t_9) (z_t_10) (z_t_11) (z_t_12) (z_t_13) (z_t_14) (z_t_15) (z_t_16) (z_t_17) (z_t_18) (z_t_19) (z_t_20) (z_t_21) (z_t_22) (z_t_23) (z_t_24) (.ref h_t_behind) (z_t_26) (z_t_27) (z_t_28) (z_t_29) (z_t_30) (z_t_31) (z_t_32) (z_t_33) (z_t_34) (z_t_35) (z_t_36) (z_t_37) (z_t_38) (z_t_39) (z_t_40) (z_t_41) (z_t_42) (z_t_43) (z_t_44) (z_t_45) (z_t_46) (z_t_47) (z_t_48) (z_t_49) (z_t_50) (z_t_51) (z_t_52) (z_t_53) (z_t_54) (z_t_55) (z_t_56) (z_t_57) (z_t_58) (z_t_59) (z_t_60) 0 r_c16_6 t_thrown_c16_6 (by decide) e_c16_6 _) q1214 q1216 q34 q61 q1217 nd_X12_throwsIf ⟨Nat.le_of_ble_eq_true rfl, Nat.le_of_ble_eq_true rfl⟩ rfl rfl hP hD (hK.sub (tys' := []) [] rfl) hN rfl ⟨0, _, rfl⟩ rfl hl.1 rfl (Nat.le_of_ble_eq_true rfl) dX12_rows_16 ⟨Nat.le_of_ble_eq_true rfl, Nat.le_of_ble_eq_true rfl⟩) hS hA hD (fun H locs hP hD hS z_c16_6 => ?_)
      have hP : va_P D vwCl ((h_t, .inr (12, (.int t_thrown_c16_6 :: z_t_1 :: z_t_2 :: .int t_a :: .int t_b :: z_t_5 :: z_t_6 :: z_t_7 :: z_t_8 :: z_t_9 :: z_t_10 :: z_t_11 :: z_t_12 :: z_t_13 :: z_t_14 :: z_t_15 :: z_t_16 :: z_t_17 :: z_t_18 :: z_t_19 :: z_t_20 :: z_t_21 :: z_t_22 :: z_t_23 :: z_t_24 :: .ref h_t_behind :: z_t_26 :: z_t_27 :: z_t_28 :: z_t_29 :: z_t_30 :: z_t_31 :: z_t_32 :: z_t_33 :: z_t_34 :: z_t_35 :: z_t_36 :: z_t_37 :: z_t_38 :: z_t_39 :: z_t_40 :: z_t_41 :: z_t_42 :: z_t_43 :: z_t_44 :: z_t_45 :: z_t_46 :: z_t_47 :: z_t_48 :: z_t_49 :: z_t_50 :: z_t_51 :: z_t_52 :: z_t_53 :: z_t_54 :: z_t_55 :: z_t_56 :: z_t_57 :: z_t_58 :: z_t_59 :: z_t_60 :: []))) :: (h_t_behind, .inl (k_t_behind, 64, .inr (.inl t_behind))) :: R) H := hP
      have hD : va_D A ((h_t, .inr (12, (.int t_thrown_c16_6 :: z_t_1 :: z_t_2 :: .int t_a :: .int t_b :: z_t_5 :: z_t_6 :: z_t_7 :: z_t_8 :: z_t_9 :: z_t_10 :: z_t_11 :: z_t_12 :: z_t_13 :: z_t_14 :: z_t_15 :: z_t_16 :: z_t_17 :: z_t_18 :: z_t_19 :: z_t_20 :: z_t_21 :: z_t_22 :: z_t_23 :: z_t_24 :: .ref h_t_behind :: z_t_26 :: z_t_27 :: z_t_28 :: z_t_29 :: z_t_30 :: z_t_31 :: z_t_32 :: z_t_33 :: z_t_34 :: z_t_35 :: z_t_36 :: z_t_37 :: z_t_38 :: z_t_39 :: z_t_40 :: z_t_41 :: z_t_42 :: z_t_43 :: z_t_44 :: z_t_45 :: z_t_46 :: z_t_47 :: z_t_48 :: z_t_49 :: z_t_50 :: z_t_51 :: z_t_52 :: z_t_53 :: z_t_54 :: z_t_55 :: z_t_56 :: z_t_57 :: z_t_58 :: z_t_59 :: z_t_60 :: []))) :: (h_t_behind, .inl (k_t_behind, 64, .inr (.inl t_behind))) :: R) := hD
      refine lv_if_eq (tgt := 24) hx hb dX12_rows_19 (by decide) (fun c8 => ?_) (fun c8 => ?_)
      · have h := br_pos c8 h
        refine lv_aload_n hx hb dX12_rows_24 rfl (lv_at hl 0 rfl) ?_
        refine lv_iload_n hx hb dX12_rows_25 rfl (lv_at hl 1 rfl) ?_
        obtain ⟨t_behind_c26_8, e_c26_8, h⟩ := bnd1_ok h
        refine cl_v (rn_v (ci := 12) (As := [.int l1]) (rest := []) S (c_X12_count0 l D (R) h_t (.int t_thrown_c16_6) (z_t_1) (z_t_2) t_a t_b (z_t_5) (z_t_6) (z_t_7) (z_t_8) (z_t_9) (z_t_10) (z_t_11) (z_t_12) (z_t_13) (z_t_14) (z_t_15) (z_t_16) (z_t_17) (z_t_18) (z_t_19) (z_t_20) (z_t_21) (z_t_22) (z_t_23) (z_t_24) (z_t_26) (z_t_27) (z_t_28) (z_t_29) (z_t_30) (z_t_31) (z_t_32) (z_t_33) (z_t_34) (z_t_35) (z_t_36) (z_t_37) (z_t_38) (z_t_39) (z_t_40) (z_t_41) (z_t_42) (z_t_43) (z_t_44) (z_t_45) (z_t_46) (z_t_47) (z_t_48) (z_t_49) (z_t_50) (z_t_51) (z_t_52) (z_t_53) (z_t_54) (z_t_55) (z_t_56) (z_t_57) (z_t_58) (z_t_59) (z_t_60) h_t_behind k_t_behind t_behind l1 t_behind_c26_8 e_c26_8 _) q1283 q1285 q42 q61 q1286 nd_X12_count0 ⟨Nat.le_of_ble_eq_true rfl, Nat.le_of_ble_eq_true rfl⟩ rfl rfl hP hD (hK.sub (tys' := [(k_t_behind, .long)]) [0] rfl) hN rfl ⟨0, _, rfl⟩ rfl hl.1 rfl (Nat.le_of_ble_eq_true rfl) dX12_rows_26 ⟨Nat.le_of_ble_eq_true rfl, Nat.le_of_ble_eq_true rfl⟩) hS hA hD (fun H locs hP hD hS => ?_)
        have hP : va_P D vwCl ((h_t, .inr (12, (.int t_thrown_c16_6 :: z_t_1 :: z_t_2 :: .int t_a :: .int t_b :: z_t_5 :: z_t_6 :: z_t_7 :: z_t_8 :: z_t_9 :: z_t_10 :: z_t_11 :: z_t_12 :: z_t_13 :: z_t_14 :: z_t_15 :: z_t_16 :: z_t_17 :: z_t_18 :: z_t_19 :: z_t_20 :: z_t_21 :: z_t_22 :: z_t_23 :: z_t_24 :: .ref h_t_behind :: z_t_26 :: z_t_27 :: z_t_28 :: z_t_29 :: z_t_30 :: z_t_31 :: z_t_32 :: z_t_33 :: z_t_34 :: z_t_35 :: z_t_36 :: z_t_37 :: z_t_38 :: z_t_39 :: z_t_40 :: z_t_41 :: z_t_42 :: z_t_43 :: z_t_44 :: z_t_45 :: z_t_46 :: z_t_47 :: z_t_48 :: z_t_49 :: z_t_50 :: z_t_51 :: z_t_52 :: z_t_53 :: z_t_54 :: z_t_55 :: z_t_56 :: z_t_57 :: z_t_58 :: z_t_59 :: z_t_60 :: []))) :: (h_t_behind, .inl (k_t_behind, 64, .inr (.inl t_behind_c26_8))) :: R) H := hP
        have hD : va_D A ((h_t, .inr (12, (.int t_thrown_c16_6 :: z_t_1 :: z_t_2 :: .int t_a :: .int t_b :: z_t_5 :: z_t_6 :: z_t_7 :: z_t_8 :: z_t_9 :: z_t_10 :: z_t_11 :: z_t_12 :: z_t_13 :: z_t_14 :: z_t_15 :: z_t_16 :: z_t_17 :: z_t_18 :: z_t_19 :: z_t_20 :: z_t_21 :: z_t_22 :: z_t_23 :: z_t_24 :: .ref h_t_behind :: z_t_26 :: z_t_27 :: z_t_28 :: z_t_29 :: z_t_30 :: z_t_31 :: z_t_32 :: z_t_33 :: z_t_34 :: z_t_35 :: z_t_36 :: z_t_37 :: z_t_38 :: z_t_39 :: z_t_40 :: z_t_41 :: z_t_42 :: z_t_43 :: z_t_44 :: z_t_45 :: z_t_46 :: z_t_47 :: z_t_48 :: z_t_49 :: z_t_50 :: z_t_51 :: z_t_52 :: z_t_53 :: z_t_54 :: z_t_55 :: z_t_56 :: z_t_57 :: z_t_58 :: z_t_59 :: z_t_60 :: []))) :: (h_t_behind, .inl (k_t_behind, 64, .inr (.inl t_behind_c26_8))) :: R) := hD
        refine lv_aload_n hx hb dX12_rows_29 rfl (lv_at hl 0 rfl) ?_
        refine va_get (D := D) (ci := 12) (v := .ref h_t_behind) (C := RX12) (T := TX12) (N := 61) hx hb ha ix12 hown hK hP 0 rfl rfl 25 (by decide) (ha _ q985) (fun _ h9 => h9) rfl dX12_rows_30 ?_
        refine lv_iconst (v := 2) hx hb dX12_rows_33 (by decide) ?_
        refine lv_iload_n hx hb dX12_rows_34 rfl (lv_at hl 1 rfl) ?_
        refine lv_imul hx hb dX12_rows_35 ?_
        obtain ⟨i10, h⟩ := ix_ok h
        refine va_lald hx hb hK hP 1 0 rfl rfl i10 dX12_rows_36 ?_
        cases h
        exact rt_l S hr hlk hP hD hS dX12_rows_37
      · have h := br_neg c8 h
        refine lv_lconst (v := 0) hx hb dX12_rows_22 (by decide) ?_
        cases h
        exact rt_l S hr hlk hP hD hS dX12_rows_23
    · have h := br_neg c6 h
      refine lv_iconst (v := 1) hx hb dX12_rows_11 (by decide) ?_
      refine lv_goto (tgt := 16) hx hb dX12_rows_12 (by decide) ?_
      obtain ⟨r_c16_10, t_thrown_c16_10, e_c16_10, h⟩ := bnd2_ok h
      refine cl_z (rn_v (ci := 12) (As := [.int 1]) (rest := []) S (c_X12_throwsIf l D ((h_t_behind, .inl (k_t_behind, 64, .inr (.inl t_behind))) :: R) h_t t_thrown (z_t_1) (z_t_2) (.int t_a) (.int t_b) (z_t_5) (z_t_6) (z_t_7) (z_t_8) (z_t_9) (z_t_10) (z_t_11) (z_t_12) (z_t_13) (z_t_14) (z_t_15) (z_t_16) (z_t_17) (z_t_18) (z_t_19) (z_t_20) (z_t_21) (z_t_22) (z_t_23) (z_t_24) (.ref h_t_behind) (z_t_26) (z_t_27) (z_t_28) (z_t_29) (z_t_30) (z_t_31) (z_t_32) (z_t_33) (z_t_34) (z_t_35) (z_t_36) (z_t_37) (z_t_38) (z_t_39) (z_t_40) (z_t_41) (z_t_42) (z_t_43) (z_t_44) (z_t_45) (z_t_46) (z_t_47) (z_t_48) (z_t_49) (z_t_50) (z_t_51) (z_t_52) (z_t_53) (z_t_54) (z_t_55) (z_t_56) (z_t_57) (z_t_58) (z_t_59) (z_t_60) 1 r_c16_10 t_thrown_c16_10 (by decide) e_c16_10 _) q1214 q1216 q34 q61 q1217 nd_X12_throwsIf ⟨Nat.le_of_ble_eq_true rfl, Nat.le_of_ble_eq_true rfl⟩ rfl rfl hP hD (hK.sub (tys' := []) [] rfl) hN rfl ⟨0, _, rfl⟩ rfl hl.1 rfl (Nat.le_of_ble_eq_true rfl) dX12_rows_16 ⟨Nat.le_of_ble_eq_true rfl, Nat.le_of_ble_eq_true rfl⟩) hS hA hD (fun H locs hP hD hS z_c16_10 => ?_)
      have hP : va_P D vwCl ((h_t, .inr (12, (.int t_thrown_c16_10 :: z_t_1 :: z_t_2 :: .int t_a :: .int t_b :: z_t_5 :: z_t_6 :: z_t_7 :: z_t_8 :: z_t_9 :: z_t_10 :: z_t_11 :: z_t_12 :: z_t_13 :: z_t_14 :: z_t_15 :: z_t_16 :: z_t_17 :: z_t_18 :: z_t_19 :: z_t_20 :: z_t_21 :: z_t_22 :: z_t_23 :: z_t_24 :: .ref h_t_behind :: z_t_26 :: z_t_27 :: z_t_28 :: z_t_29 :: z_t_30 :: z_t_31 :: z_t_32 :: z_t_33 :: z_t_34 :: z_t_35 :: z_t_36 :: z_t_37 :: z_t_38 :: z_t_39 :: z_t_40 :: z_t_41 :: z_t_42 :: z_t_43 :: z_t_44 :: z_t_45 :: z_t_46 :: z_t_47 :: z_t_48 :: z_t_49 :: z_t_50 :: z_t_51 :: z_t_52 :: z_t_53 :: z_t_54 :: z_t_55 :: z_t_56 :: z_t_57 :: z_t_58 :: z_t_59 :: z_t_60 :: []))) :: (h_t_behind, .inl (k_t_behind, 64, .inr (.inl t_behind))) :: R) H := hP
      have hD : va_D A ((h_t, .inr (12, (.int t_thrown_c16_10 :: z_t_1 :: z_t_2 :: .int t_a :: .int t_b :: z_t_5 :: z_t_6 :: z_t_7 :: z_t_8 :: z_t_9 :: z_t_10 :: z_t_11 :: z_t_12 :: z_t_13 :: z_t_14 :: z_t_15 :: z_t_16 :: z_t_17 :: z_t_18 :: z_t_19 :: z_t_20 :: z_t_21 :: z_t_22 :: z_t_23 :: z_t_24 :: .ref h_t_behind :: z_t_26 :: z_t_27 :: z_t_28 :: z_t_29 :: z_t_30 :: z_t_31 :: z_t_32 :: z_t_33 :: z_t_34 :: z_t_35 :: z_t_36 :: z_t_37 :: z_t_38 :: z_t_39 :: z_t_40 :: z_t_41 :: z_t_42 :: z_t_43 :: z_t_44 :: z_t_45 :: z_t_46 :: z_t_47 :: z_t_48 :: z_t_49 :: z_t_50 :: z_t_51 :: z_t_52 :: z_t_53 :: z_t_54 :: z_t_55 :: z_t_56 :: z_t_57 :: z_t_58 :: z_t_59 :: z_t_60 :: []))) :: (h_t_behind, .inl (k_t_behind, 64, .inr (.inl t_behind))) :: R) := hD
      refine lv_if_eq (tgt := 24) hx hb dX12_rows_19 (by decide) (fun c12 => ?_) (fun c12 => ?_)
      · have h := br_pos c12 h
        refine lv_aload_n hx hb dX12_rows_24 rfl (lv_at hl 0 rfl) ?_
        refine lv_iload_n hx hb dX12_rows_25 rfl (lv_at hl 1 rfl) ?_
        obtain ⟨t_behind_c26_12, e_c26_12, h⟩ := bnd1_ok h
        refine cl_v (rn_v (ci := 12) (As := [.int l1]) (rest := []) S (c_X12_count0 l D (R) h_t (.int t_thrown_c16_10) (z_t_1) (z_t_2) t_a t_b (z_t_5) (z_t_6) (z_t_7) (z_t_8) (z_t_9) (z_t_10) (z_t_11) (z_t_12) (z_t_13) (z_t_14) (z_t_15) (z_t_16) (z_t_17) (z_t_18) (z_t_19) (z_t_20) (z_t_21) (z_t_22) (z_t_23) (z_t_24) (z_t_26) (z_t_27) (z_t_28) (z_t_29) (z_t_30) (z_t_31) (z_t_32) (z_t_33) (z_t_34) (z_t_35) (z_t_36) (z_t_37) (z_t_38) (z_t_39) (z_t_40) (z_t_41) (z_t_42) (z_t_43) (z_t_44) (z_t_45) (z_t_46) (z_t_47) (z_t_48) (z_t_49) (z_t_50) (z_t_51) (z_t_52) (z_t_53) (z_t_54) (z_t_55) (z_t_56) (z_t_57) (z_t_58) (z_t_59) (z_t_60) h_t_behind k_t_behind t_behind l1 t_behind_c26_12 e_c26_12 _) q1283 q1285 q42 q61 q1286 nd_X12_count0 ⟨Nat.le_of_ble_eq_true rfl, Nat.le_of_ble_eq_true rfl⟩ rfl rfl hP hD (hK.sub (tys' := [(k_t_behind, .long)]) [0] rfl) hN rfl ⟨0, _, rfl⟩ rfl hl.1 rfl (Nat.le_of_ble_eq_true rfl) dX12_rows_26 ⟨Nat.le_of_ble_eq_true rfl, Nat.le_of_ble_eq_true rfl⟩) hS hA hD (fun H locs hP hD hS => ?_)
        have hP : va_P D vwCl ((h_t, .inr (12, (.int t_thrown_c16_10 :: z_t_1 :: z_t_2 :: .int t_a :: .int t_b :: z_t_5 :: z_t_6 :: z_t_7 :: z_t_8 :: z_t_9 :: z_t_10 :: z_t_11 :: z_t_12 :: z_t_13 :: z_t_14 :: z_t_15 :: z_t_16 :: z_t_17 :: z_t_18 :: z_t_19 :: z_t_20 :: z_t_21 :: z_t_22 :: z_t_23 :: z_t_24 :: .ref h_t_behind :: z_t_26 :: z_t_27 :: z_t_28 :: z_t_29 :: z_t_30 :: z_t_31 :: z_t_32 :: z_t_33 :: z_t_34 :: z_t_35 :: z_t_36 :: z_t_37 :: z_t_38 :: z_t_39 :: z_t_40 :: z_t_41 :: z_t_42 :: z_t_43 :: z_t_44 :: z_t_45 :: z_t_46 :: z_t_47 :: z_t_48 :: z_t_49 :: z_t_50 :: z_t_51 :: z_t_52 :: z_t_53 :: z_t_54 :: z_t_55 :: z_t_56 :: z_t_57 :: z_t_58 :: z_t_59 :: z_t_60 :: []))) :: (h_t_behind, .inl (k_t_behind, 64, .inr (.inl t_behind_c26_12))) :: R) H := hP
        have hD : va_D A ((h_t, .inr (12, (.int t_thrown_c16_10 :: z_t_1 :: z_t_2 :: .int t_a :: .int t_b :: z_t_5 :: z_t_6 :: z_t_7 :: z_t_8 :: z_t_9 :: z_t_10 :: z_t_11 :: z_t_12 :: z_t_13 :: z_t_14 :: z_t_15 :: z_t_16 :: z_t_17 :: z_t_18 :: z_t_19 :: z_t_20 :: z_t_21 :: z_t_22 :: z_t_23 :: z_t_24 :: .ref h_t_behind :: z_t_26 :: z_t_27 :: z_t_28 :: z_t_29 :: z_t_30 :: z_t_31 :: z_t_32 :: z_t_33 :: z_t_34 :: z_t_35 :: z_t_36 :: z_t_37 :: z_t_38 :: z_t_39 :: z_t_40 :: z_t_41 :: z_t_42 :: z_t_43 :: z_t_44 :: z_t_45 :: z_t_46 :: z_t_47 :: z_t_48 :: z_t_49 :: z_t_50 :: z_t_51 :: z_t_52 :: z_t_53 :: z_t_54 :: z_t_55 :: z_t_56 :: z_t_57 :: z_t_58 :: z_t_59 :: z_t_60 :: []))) :: (h_t_behind, .inl (k_t_behind, 64, .inr (.inl t_behind_c26_12))) :: R) := hD
        refine lv_aload_n hx hb dX12_rows_29 rfl (lv_at hl 0 rfl) ?_
        refine va_get (D := D) (ci := 12) (v := .ref h_t_behind) (C := RX12) (T := TX12) (N := 61) hx hb ha ix12 hown hK hP 0 rfl rfl 25 (by decide) (ha _ q985) (fun _ h9 => h9) rfl dX12_rows_30 ?_
        refine lv_iconst (v := 2) hx hb dX12_rows_33 (by decide) ?_
        refine lv_iload_n hx hb dX12_rows_34 rfl (lv_at hl 1 rfl) ?_
        refine lv_imul hx hb dX12_rows_35 ?_
        obtain ⟨i14, h⟩ := ix_ok h
        refine va_lald hx hb hK hP 1 0 rfl rfl i14 dX12_rows_36 ?_
        cases h
        exact rt_l S hr hlk hP hD hS dX12_rows_37
      · have h := br_neg c12 h
        refine lv_lconst (v := 0) hx hb dX12_rows_22 (by decide) ?_
        cases h
        exact rt_l S hr hlk hP hD hS dX12_rows_23
noncomputable def f_X12_whole__L35 (l2 : Int32) (t_behind : Nat → Int64) : Nat → Int32 →  Option (Int32)
  | 0, _ => none
  | n + 1, l3 => (
    gd (ixb (2 * l3) 64) (
     if l2.toInt64 < (t_behind (2 * l3).toNatClampNeg) then (
      some l3
     ) else (
      f_X12_whole__L35 l2 t_behind n (l3 + 1)
     )
    ))
noncomputable def f_X12_whole__L81 (l6 : Int32) (l11 : Int32) (t_a : Int32) (t_b : Int32) (t_behind : Nat → Int64) : Nat → Int64 → Int32 →  Option (Int64 × Int32)
  | 0, _, _ => none
  | n + 1, l4, l12 => (
    bnd1 (f_X12_bar t_a t_b l6) fun r_c86_9 => (
     if r_c86_9 ≤ l12 then (
      some (l4, l12)
     ) else (
      gd (ixb (2 * l11) 64) (
       if l4 < (t_behind (2 * l11).toNatClampNeg) then (
        some (l4, l12)
       ) else (
        gd (ixb (2 * l11) 64) (
         f_X12_whole__L81 l6 l11 t_a t_b t_behind n (l4 - (t_behind (2 * l11).toNatClampNeg)) (l12 + 1)
        )
       )
      )
     )
    ))
noncomputable def f_X12_whole__L73 (t_a : Int32) (t_b : Int32) (t_behind : Nat → Int64) : Nat → Int64 → Int32 → Int64 → Int64 → Int32 →  Option (Int64 × Int64)
  | 0, _, _, _, _, _ => none
  | n + 1, l4, l6, l7, l9, l11 => (
    if l11 < 0 then (
     some (l7, l9)
    ) else (
     bnd2 (f_X12_whole__L81 l6 l11 t_a t_b t_behind FU l4 0) fun x4_L81_14 x12_L81_14 => (
      bnd1 (f_X12_bar t_a t_b l6) fun r_c163_15 => (
       if r_c163_15 ≤ x12_L81_14 then (
        if t_b ≤ 0 then (
         f_X12_whole__L73 t_a t_b t_behind n x4_L81_14 1 ((l9 * t_b.toInt64) + x12_L81_14.toInt64) (l7 + (l9 * t_a.toInt64)) (l11 + (-1))
        ) else (
         f_X12_whole__L73 t_a t_b t_behind n x4_L81_14 (1 - l6) ((l9 * t_b.toInt64) + x12_L81_14.toInt64) (l7 + (l9 * t_a.toInt64)) (l11 + (-1))
        )
       ) else (
        f_X12_whole__L73 t_a t_b t_behind n x4_L81_14 0 ((l9 * t_b.toInt64) + x12_L81_14.toInt64) (l7 + (l9 * t_a.toInt64)) (l11 + (-1))
       )
      )
     )
    ))
noncomputable def f_X12_whole_ (t_thrown : Int32) (t_a : Int32) (t_b : Int32) (t_u : Int64) (t_v : Int64) (t_d : Int64) (t_has : Nat → Int32) (t_us : Nat → Int32) (t_vs : Nat → Int32) (t_ds : Nat → Int32) (t_behind : Nat → Int64) (l1 : Int32) (l2 : Int32) : Option (Int32 × Int32 × Int64 × Int64 × Int64 × (Nat → Int32) × (Nat → Int32) × (Nat → Int32) × (Nat → Int32) × (Nat → Int64)) :=
  if l1 < 0 then (
   some (0, 0, t_u, t_v, t_d, t_has, t_us, t_vs, t_ds, t_behind)
  ) else (
   if 10 ≤ l1 then (
    some (0, 0, t_u, t_v, t_d, t_has, t_us, t_vs, t_ds, t_behind)
   ) else (
    if l2 < 0 then (
     some (0, 0, t_u, t_v, t_d, t_has, t_us, t_vs, t_ds, t_behind)
    ) else (
     if l2 ≤ 50000 then (
      bnd1 (f_X12_count0 t_a t_b t_behind 26) fun t_behind_c30_4 => (
       bnd1 (f_X12_whole__L35 l2 t_behind_c30_4 FU 0) fun x3_L35_7 => (
        bnd2 (f_X12_whole__L73 t_a t_b t_behind_c30_4 FU l2.toInt64 0 0 0 (x3_L35_7 - 1)) fun x7_L73_18 x9_L73_18 => (
         bnd3 (f_X12_set t_u t_v t_d x7_L73_18 x9_L73_18 1) fun t_u_c202_19 t_v_c202_19 t_d_c202_19 => (
          bnd5 (f_X12_put t_u_c202_19 t_v_c202_19 t_d_c202_19 t_has t_us t_vs t_ds l1) fun r_c207_20 t_has_c207_20 t_us_c207_20 t_vs_c207_20 t_ds_c207_20 => (
           some (r_c207_20, 0, t_u_c202_19, t_v_c202_19, t_d_c202_19, t_has_c207_20, t_us_c207_20, t_vs_c207_20, t_ds_c207_20, t_behind_c30_4)
          )
         )
        )
       )
      )
     ) else (
      some (0, 0, t_u, t_v, t_d, t_has, t_us, t_vs, t_ds, t_behind)
     )
    )
   )
  )
set_option maxHeartbeats 4000000 in
set_option maxRecDepth 100000 in
theorem c_X12_whole_ (l : Launch) (D : va_G) (R : va_W) (h_t : Nat) (t_thrown : Int32) (z_t_1 : Value) (z_t_2 : Value) (t_a : Int32) (t_b : Int32) (z_t_5 : Value) (t_u : Int64) (t_v : Int64) (t_d : Int64) (z_t_13 : Value) (z_t_14 : Value) (z_t_15 : Value) (z_t_16 : Value) (z_t_17 : Value) (z_t_18 : Value) (z_t_19 : Value) (z_t_20 : Value) (z_t_21 : Value) (z_t_22 : Value) (z_t_23 : Value) (z_t_24 : Value) (z_t_26 : Value) (z_t_27 : Value) (z_t_28 : Value) (z_t_29 : Value) (z_t_30 : Value) (z_t_31 : Value) (z_t_32 : Value) (z_t_33 : Value) (z_t_34 : Value) (z_t_35 : Value) (z_t_36 : Value) (z_t_37 : Value) (z_t_38 : Value) (z_t_39 : Value) (z_t_40 : Value) (z_t_41 : Value) (z_t_42 : Value) (z_t_43 : Value) (z_t_44 : Value) (z_t_45 : Value) (z_t_46 : Value) (z_t_47 : Value) (z_t_48 : Value) (z_t_49 : Value) (z_t_50 : Value) (z_t_51 : Value) (z_t_52 : Value) (z_t_53 : Value) (z_t_54 : Value) (z_t_55 : Value) (z_t_56 : Value) (z_t_57 : Value) (z_t_58 : Value) (z_t_59 : Value) (z_t_60 : Value) (h_t_has : Nat) (k_t_has : ClassId) (t_has : Nat → Int32) (h_t_us : Nat) (k_t_us : ClassId) (t_us : Nat → Int32) (h_t_vs : Nat) (k_t_vs : ClassId) (t_vs : Nat → Int32) (h_t_ds : Nat) (k_t_ds : ClassId) (t_ds : Nat → Int32) (h_t_behind : Nat) (k_t_behind : ClassId) (t_behind : Nat → Int64) (l1 : Int32) (l2 : Int32) (r : Int32) (o_t_thrown : Int32) (o_t_u : Int64) (o_t_v : Int64) (o_t_d : Int64) (o_t_has : Nat → Int32) (o_t_us : Nat → Int32) (o_t_vs : Nat → Int32) (o_t_ds : Nat → Int32) (o_t_behind : Nat → Int64)  (h : f_X12_whole_ t_thrown t_a t_b t_u t_v t_d t_has t_us t_vs t_ds t_behind l1 l2 = some (r, o_t_thrown, o_t_u, o_t_v, o_t_d, o_t_has, o_t_us, o_t_vs, o_t_ds, o_t_behind)) (sz : Nat) : Met l yX12_whole_ (WD yX12_whole_ cX12_whole_ 15 (some .boolean)) ({ frames := 2, cells := 0, slots := 0, locals := 57 }) (va_Pc [.ref h_t, .int l1, .int l2] (PcW D [(k_t_has, .boolean), (k_t_us, .int), (k_t_vs, .int), (k_t_ds, .int), (k_t_behind, .long)] ((h_t, .inr (12, (.int t_thrown :: z_t_1 :: z_t_2 :: .int t_a :: .int t_b :: z_t_5 :: .ref h_t_has :: .ref h_t_us :: .ref h_t_vs :: .ref h_t_ds :: .long t_u :: .long t_v :: .long t_d :: z_t_13 :: z_t_14 :: z_t_15 :: z_t_16 :: z_t_17 :: z_t_18 :: z_t_19 :: z_t_20 :: z_t_21 :: z_t_22 :: z_t_23 :: z_t_24 :: .ref h_t_behind :: z_t_26 :: z_t_27 :: z_t_28 :: z_t_29 :: z_t_30 :: z_t_31 :: z_t_32 :: z_t_33 :: z_t_34 :: z_t_35 :: z_t_36 :: z_t_37 :: z_t_38 :: z_t_39 :: z_t_40 :: z_t_41 :: z_t_42 :: z_t_43 :: z_t_44 :: z_t_45 :: z_t_46 :: z_t_47 :: z_t_48 :: z_t_49 :: z_t_50 :: z_t_51 :: z_t_52 :: z_t_53 :: z_t_54 :: z_t_55 :: z_t_56 :: z_t_57 :: z_t_58 :: z_t_59 :: z_t_60 :: []))) :: (h_t_has, .inl (k_t_has, 10, .inl t_has)) :: (h_t_us, .inl (k_t_us, 10, .inl t_us)) :: (h_t_vs, .inl (k_t_vs, 10, .inl t_vs)) :: (h_t_ds, .inl (k_t_ds, 10, .inl t_ds)) :: (h_t_behind, .inl (k_t_behind, 64, .inr (.inl t_behind))) :: R) sz)) (QZ D r ((h_t, .inr (12, (.int o_t_thrown :: z_t_1 :: z_t_2 :: .int t_a :: .int t_b :: z_t_5 :: .ref h_t_has :: .ref h_t_us :: .ref h_t_vs :: .ref h_t_ds :: .long o_t_u :: .long o_t_v :: .long o_t_d :: z_t_13 :: z_t_14 :: z_t_15 :: z_t_16 :: z_t_17 :: z_t_18 :: z_t_19 :: z_t_20 :: z_t_21 :: z_t_22 :: z_t_23 :: z_t_24 :: .ref h_t_behind :: z_t_26 :: z_t_27 :: z_t_28 :: z_t_29 :: z_t_30 :: z_t_31 :: z_t_32 :: z_t_33 :: z_t_34 :: z_t_35 :: z_t_36 :: z_t_37 :: z_t_38 :: z_t_39 :: z_t_40 :: z_t_41 :: z_t_42 :: z_t_43 :: z_t_44 :: z_t_45 :: z_t_46 :: z_t_47 :: z_t_48 :: z_t_49 :: z_t_50 :: z_t_51 :: z_t_52 :: z_t_53 :: z_t_54 :: z_t_55 :: z_t_56 :: z_t_57 :: z_t_58 :: z_t_59 :: z_t_60 :: []))) :: (h_t_has, .inl (k_t_has, 10, .inl o_t_has)) :: (h_t_us, .inl (k_t_us, 10, .inl o_t_us)) :: (h_t_vs, .inl (k_t_vs, 10, .inl o_t_vs)) :: (h_t_ds, .inl (k_t_ds, 10, .inl o_t_ds)) :: (h_t_behind, .inl (k_t_behind, 64, .inr (.inl o_t_behind))) :: R) (va_A ((h_t, .inr (12, (.int t_thrown :: z_t_1 :: z_t_2 :: .int t_a :: .int t_b :: z_t_5 :: .ref h_t_has :: .ref h_t_us :: .ref h_t_vs :: .ref h_t_ds :: .long t_u :: .long t_v :: .long t_d :: z_t_13 :: z_t_14 :: z_t_15 :: z_t_16 :: z_t_17 :: z_t_18 :: z_t_19 :: z_t_20 :: z_t_21 :: z_t_22 :: z_t_23 :: z_t_24 :: .ref h_t_behind :: z_t_26 :: z_t_27 :: z_t_28 :: z_t_29 :: z_t_30 :: z_t_31 :: z_t_32 :: z_t_33 :: z_t_34 :: z_t_35 :: z_t_36 :: z_t_37 :: z_t_38 :: z_t_39 :: z_t_40 :: z_t_41 :: z_t_42 :: z_t_43 :: z_t_44 :: z_t_45 :: z_t_46 :: z_t_47 :: z_t_48 :: z_t_49 :: z_t_50 :: z_t_51 :: z_t_52 :: z_t_53 :: z_t_54 :: z_t_55 :: z_t_56 :: z_t_57 :: z_t_58 :: z_t_59 :: z_t_60 :: []))) :: (h_t_has, .inl (k_t_has, 10, .inl t_has)) :: (h_t_us, .inl (k_t_us, 10, .inl t_us)) :: (h_t_vs, .inl (k_t_vs, 10, .inl t_vs)) :: (h_t_ds, .inl (k_t_ds, 10, .inl t_ds)) :: (h_t_behind, .inl (k_t_behind, 64, .inr (.inl t_behind))) :: R) sz)) 0 0 (va_A ((h_t, .inr (12, (.int t_thrown :: z_t_1 :: z_t_2 :: .int t_a :: .int t_b :: z_t_5 :: .ref h_t_has :: .ref h_t_us :: .ref h_t_vs :: .ref h_t_ds :: .long t_u :: .long t_v :: .long t_d :: z_t_13 :: z_t_14 :: z_t_15 :: z_t_16 :: z_t_17 :: z_t_18 :: z_t_19 :: z_t_20 :: z_t_21 :: z_t_22 :: z_t_23 :: z_t_24 :: .ref h_t_behind :: z_t_26 :: z_t_27 :: z_t_28 :: z_t_29 :: z_t_30 :: z_t_31 :: z_t_32 :: z_t_33 :: z_t_34 :: z_t_35 :: z_t_36 :: z_t_37 :: z_t_38 :: z_t_39 :: z_t_40 :: z_t_41 :: z_t_42 :: z_t_43 :: z_t_44 :: z_t_45 :: z_t_46 :: z_t_47 :: z_t_48 :: z_t_49 :: z_t_50 :: z_t_51 :: z_t_52 :: z_t_53 :: z_t_54 :: z_t_55 :: z_t_56 :: z_t_57 :: z_t_58 :: z_t_59 :: z_t_60 :: []))) :: (h_t_has, .inl (k_t_has, 10, .inl t_has)) :: (h_t_us, .inl (k_t_us, 10, .inl t_us)) :: (h_t_vs, .inl (k_t_vs, 10, .inl t_vs)) :: (h_t_ds, .inl (k_t_ds, 10, .inl t_ds)) :: (h_t_behind, .inl (k_t_behind, 64, .inr (.inl t_behind))) :: R) sz) := by
  refine ct_start (QF := fun A => QZ D r ((h_t, .inr (12, (.int o_t_thrown :: z_t_1 :: z_t_2 :: .int t_a :: .int t_b :: z_t_5 :: .ref h_t_has :: .ref h_t_us :: .ref h_t_vs :: .ref h_t_ds :: .long o_t_u :: .long o_t_v :: .long o_t_d :: z_t_13 :: z_t_14 :: z_t_15 :: z_t_16 :: z_t_17 :: z_t_18 :: z_t_19 :: z_t_20 :: z_t_21 :: z_t_22 :: z_t_23 :: z_t_24 :: .ref h_t_behind :: z_t_26 :: z_t_27 :: z_t_28 :: z_t_29 :: z_t_30 :: z_t_31 :: z_t_32 :: z_t_33 :: z_t_34 :: z_t_35 :: z_t_36 :: z_t_37 :: z_t_38 :: z_t_39 :: z_t_40 :: z_t_41 :: z_t_42 :: z_t_43 :: z_t_44 :: z_t_45 :: z_t_46 :: z_t_47 :: z_t_48 :: z_t_49 :: z_t_50 :: z_t_51 :: z_t_52 :: z_t_53 :: z_t_54 :: z_t_55 :: z_t_56 :: z_t_57 :: z_t_58 :: z_t_59 :: z_t_60 :: []))) :: (h_t_has, .inl (k_t_has, 10, .inl o_t_has)) :: (h_t_us, .inl (k_t_us, 10, .inl o_t_us)) :: (h_t_vs, .inl (k_t_vs, 10, .inl o_t_vs)) :: (h_t_ds, .inl (k_t_ds, 10, .inl o_t_ds)) :: (h_t_behind, .inl (k_t_behind, 64, .inr (.inl o_t_behind))) :: R) A) ?_ ?_ ?_
  · decide +kernel
  · exact Nat.le_of_ble_eq_true rfl
  intro p e s m args below meth c A ls S hr hlk hnm hS hA hP hD hK hN hl
  have S : CallFix p m c cX12_whole_ 15 s args AL "DigitBenchModel" := S
  have hx := S.1
  have hb := S.2.1
  have hown := S.2.2.2.1
  have ha := S.2.2.2.2
  have hl : lv_has ls 15 [(0, .ref h_t), (1, .int l1), (2, .int l2)] := hl
  have L35 : ∀ (Q : State → Prop) (n : Nat) (l1 : Int32) (l2 : Int32) (l3 : Int32) (t_thrown : Int32) (t_u : Int64) (t_v : Int64) (t_d : Int64) (t_has : Nat → Int32) (t_us : Nat → Int32) (t_vs : Nat → Int32) (t_ds : Nat → Int32) (t_behind : Nat → Int64) (x3 : Int32), f_X12_whole__L35 l2 t_behind n l3 = some x3 → ∀ (H : Heap) (locs : List Loc) (ls : Array Slot), va_P D vwCl ((h_t, .inr (12, (.int t_thrown :: z_t_1 :: z_t_2 :: .int t_a :: .int t_b :: z_t_5 :: .ref h_t_has :: .ref h_t_us :: .ref h_t_vs :: .ref h_t_ds :: .long t_u :: .long t_v :: .long t_d :: z_t_13 :: z_t_14 :: z_t_15 :: z_t_16 :: z_t_17 :: z_t_18 :: z_t_19 :: z_t_20 :: z_t_21 :: z_t_22 :: z_t_23 :: z_t_24 :: .ref h_t_behind :: z_t_26 :: z_t_27 :: z_t_28 :: z_t_29 :: z_t_30 :: z_t_31 :: z_t_32 :: z_t_33 :: z_t_34 :: z_t_35 :: z_t_36 :: z_t_37 :: z_t_38 :: z_t_39 :: z_t_40 :: z_t_41 :: z_t_42 :: z_t_43 :: z_t_44 :: z_t_45 :: z_t_46 :: z_t_47 :: z_t_48 :: z_t_49 :: z_t_50 :: z_t_51 :: z_t_52 :: z_t_53 :: z_t_54 :: z_t_55 :: z_t_56 :: z_t_57 :: z_t_58 :: z_t_59 :: z_t_60 :: []))) :: (h_t_has, .inl (k_t_has, 10, .inl t_has)) :: (h_t_us, .inl (k_t_us, 10, .inl t_us)) :: (h_t_vs, .inl (k_t_vs, 10, .inl t_vs)) :: (h_t_ds, .inl (k_t_ds, 10, .inl t_ds)) :: (h_t_behind, .inl (k_t_behind, 64, .inr (.inl t_behind))) :: R) H → va_D A ((h_t, .inr (12, (.int t_thrown :: z_t_1 :: z_t_2 :: .int t_a :: .int t_b :: z_t_5 :: .ref h_t_has :: .ref h_t_us :: .ref h_t_vs :: .ref h_t_ds :: .long t_u :: .long t_v :: .long t_d :: z_t_13 :: z_t_14 :: z_t_15 :: z_t_16 :: z_t_17 :: z_t_18 :: z_t_19 :: z_t_20 :: z_t_21 :: z_t_22 :: z_t_23 :: z_t_24 :: .ref h_t_behind :: z_t_26 :: z_t_27 :: z_t_28 :: z_t_29 :: z_t_30 :: z_t_31 :: z_t_32 :: z_t_33 :: z_t_34 :: z_t_35 :: z_t_36 :: z_t_37 :: z_t_38 :: z_t_39 :: z_t_40 :: z_t_41 :: z_t_42 :: z_t_43 :: z_t_44 :: z_t_45 :: z_t_46 :: z_t_47 :: z_t_48 :: z_t_49 :: z_t_50 :: z_t_51 :: z_t_52 :: z_t_53 :: z_t_54 :: z_t_55 :: z_t_56 :: z_t_57 :: z_t_58 :: z_t_59 :: z_t_60 :: []))) :: (h_t_has, .inl (k_t_has, 10, .inl t_has)) :: (h_t_us, .inl (k_t_us, 10, .inl t_us)) :: (h_t_vs, .inl (k_t_vs, 10, .inl t_vs)) :: (h_t_ds, .inl (k_t_ds, 10, .inl t_ds)) :: (h_t_behind, .inl (k_t_behind, 64, .inr (.inl t_behind))) :: R) → va_S A s.heap H locs → lv_has ls 15 [(0, .ref h_t), (1, .int l1), (2, .int l2), (3, .int l3)] → (∀ (H : Heap) (locs : List Loc) (ls : Array Slot), va_P D vwCl ((h_t, .inr (12, (.int t_thrown :: z_t_1 :: z_t_2 :: .int t_a :: .int t_b :: z_t_5 :: .ref h_t_has :: .ref h_t_us :: .ref h_t_vs :: .ref h_t_ds :: .long t_u :: .long t_v :: .long t_d :: z_t_13 :: z_t_14 :: z_t_15 :: z_t_16 :: z_t_17 :: z_t_18 :: z_t_19 :: z_t_20 :: z_t_21 :: z_t_22 :: z_t_23 :: z_t_24 :: .ref h_t_behind :: z_t_26 :: z_t_27 :: z_t_28 :: z_t_29 :: z_t_30 :: z_t_31 :: z_t_32 :: z_t_33 :: z_t_34 :: z_t_35 :: z_t_36 :: z_t_37 :: z_t_38 :: z_t_39 :: z_t_40 :: z_t_41 :: z_t_42 :: z_t_43 :: z_t_44 :: z_t_45 :: z_t_46 :: z_t_47 :: z_t_48 :: z_t_49 :: z_t_50 :: z_t_51 :: z_t_52 :: z_t_53 :: z_t_54 :: z_t_55 :: z_t_56 :: z_t_57 :: z_t_58 :: z_t_59 :: z_t_60 :: []))) :: (h_t_has, .inl (k_t_has, 10, .inl t_has)) :: (h_t_us, .inl (k_t_us, 10, .inl t_us)) :: (h_t_vs, .inl (k_t_vs, 10, .inl t_vs)) :: (h_t_ds, .inl (k_t_ds, 10, .inl t_ds)) :: (h_t_behind, .inl (k_t_behind, 64, .inr (.inl t_behind))) :: R) H → va_D A ((h_t, .inr (12, (.int t_thrown :: z_t_1 :: z_t_2 :: .int t_a :: .int t_b :: z_t_5 :: .ref h_t_has :: .ref h_t_us :: .ref h_t_vs :: .ref h_t_ds :: .long t_u :: .long t_v :: .long t_d :: z_t_13 :: z_t_14 :: z_t_15 :: z_t_16 :: z_t_17 :: z_t_18 :: z_t_19 :: z_t_20 :: z_t_21 :: z_t_22 :: z_t_23 :: z_t_24 :: .ref h_t_behind :: z_t_26 :: z_t_27 :: z_t_28 :: z_t_29 :: z_t_30 :: z_t_31 :: z_t_32 :: z_t_33 :: z_t_34 :: z_t_35 :: z_t_36 :: z_t_37 :: z_t_38 :: z_t_39 :: z_t_40 :: z_t_41 :: z_t_42 :: z_t_43 :: z_t_44 :: z_t_45 :: z_t_46 :: z_t_47 :: z_t_48 :: z_t_49 :: z_t_50 :: z_t_51 :: z_t_52 :: z_t_53 :: z_t_54 :: z_t_55 :: z_t_56 :: z_t_57 :: z_t_58 :: z_t_59 :: z_t_60 :: []))) :: (h_t_has, .inl (k_t_has, 10, .inl t_has)) :: (h_t_us, .inl (k_t_us, 10, .inl t_us)) :: (h_t_vs, .inl (k_t_vs, 10, .inl t_vs)) :: (h_t_ds, .inl (k_t_ds, 10, .inl t_ds)) :: (h_t_behind, .inl (k_t_behind, 64, .inr (.inl t_behind))) :: R) → va_S A s.heap H locs → lv_has ls 15 [(0, .ref h_t), (1, .int l1), (2, .int l2), (3, .int x3)] → W p l e { frames := 2, cells := 0, slots := 0, locals := 57 } s m args below meth c H locs 0 0 Q (F0 m 55 ls [])) → W p l e { frames := 2, cells := 0, slots := 0, locals := 57 } s m args below meth c H locs 0 0 Q (F0 m 35 ls []) := by
    intro Q n
    induction n with
    | zero =>
      intro l1 l2 l3 t_thrown t_u t_v t_d t_has t_us t_vs t_ds t_behind x3 h
      rw [f_X12_whole__L35] at h; cases h
    | succ n ih =>
      intro l1 l2 l3 t_thrown t_u t_v t_d t_has t_us t_vs t_ds t_behind x3 h H locs ls hP hD hS hl kk0
      rw [f_X12_whole__L35] at h
      refine lv_aload_n hx hb dX12_whole__35 rfl (lv_at hl 0 rfl) ?_
      refine va_get (D := D) (ci := 12) (v := .ref h_t_behind) (C := RX12) (T := TX12) (N := 61) hx hb ha ix12 hown hK hP 0 rfl rfl 25 (by decide) (ha _ q985) (fun _ h9 => h9) rfl dX12_whole__36 ?_
      refine lv_iconst (v := 2) hx hb dX12_whole__39 (by decide) ?_
      refine lv_iload_n hx hb dX12_whole__40 rfl (lv_at hl 3 rfl) ?_
      refine lv_imul hx hb dX12_whole__41 ?_
      obtain ⟨i6, h⟩ := ix_ok h
      refine va_lald hx hb hK hP 5 4 rfl rfl i6 dX12_whole__42 ?_
      refine lv_iload_n hx hb dX12_whole__43 rfl (lv_at hl 2 rfl) ?_
      refine lv_i2l (v := l2.toInt64) hx hb dX12_whole__44 rfl ?_
      refine xl_gt (tgt := 55) hx hb dX12_whole__45 dX12_whole__46 (by decide) (fun c7 => ?_) (fun c7 => ?_)
      · have h := br_pos c7 h
        cases h
        exact kk0 _ _ _ hP hD hS (lv_sub hl [0, 1, 2, 3] rfl)
      · have h := br_neg c7 h
        refine lv_iinc (v := (l3 + 1)) (lv' := [(3, .int (l3 + 1)), (0, .ref h_t), (1, .int l1), (2, .int l2)]) hx hb dX12_whole__49 hl (k := 3) rfl rfl (by decide) rfl (fun ls hl => ?_)
        refine lv_goto (tgt := 35) hx hb dX12_whole__52 (by decide) ?_
        exact ih l1 l2 (l3 + 1) t_thrown t_u t_v t_d t_has t_us t_vs t_ds t_behind _ h _ _ _ hP hD hS (lv_sub hl [1, 2, 3, 0] rfl) kk0
  have L81 : ∀ (Q : State → Prop) (n : Nat) (l1 : Int32) (l4 : Int64) (l6 : Int32) (l7 : Int64) (l9 : Int64) (l11 : Int32) (l12 : Int32) (t_thrown : Int32) (t_u : Int64) (t_v : Int64) (t_d : Int64) (t_has : Nat → Int32) (t_us : Nat → Int32) (t_vs : Nat → Int32) (t_ds : Nat → Int32) (t_behind : Nat → Int64) (x4 : Int64) (x12 : Int32), f_X12_whole__L81 l6 l11 t_a t_b t_behind n l4 l12 = some (x4, x12) → ∀ (H : Heap) (locs : List Loc) (ls : Array Slot), va_P D vwCl ((h_t, .inr (12, (.int t_thrown :: z_t_1 :: z_t_2 :: .int t_a :: .int t_b :: z_t_5 :: .ref h_t_has :: .ref h_t_us :: .ref h_t_vs :: .ref h_t_ds :: .long t_u :: .long t_v :: .long t_d :: z_t_13 :: z_t_14 :: z_t_15 :: z_t_16 :: z_t_17 :: z_t_18 :: z_t_19 :: z_t_20 :: z_t_21 :: z_t_22 :: z_t_23 :: z_t_24 :: .ref h_t_behind :: z_t_26 :: z_t_27 :: z_t_28 :: z_t_29 :: z_t_30 :: z_t_31 :: z_t_32 :: z_t_33 :: z_t_34 :: z_t_35 :: z_t_36 :: z_t_37 :: z_t_38 :: z_t_39 :: z_t_40 :: z_t_41 :: z_t_42 :: z_t_43 :: z_t_44 :: z_t_45 :: z_t_46 :: z_t_47 :: z_t_48 :: z_t_49 :: z_t_50 :: z_t_51 :: z_t_52 :: z_t_53 :: z_t_54 :: z_t_55 :: z_t_56 :: z_t_57 :: z_t_58 :: z_t_59 :: z_t_60 :: []))) :: (h_t_has, .inl (k_t_has, 10, .inl t_has)) :: (h_t_us, .inl (k_t_us, 10, .inl t_us)) :: (h_t_vs, .inl (k_t_vs, 10, .inl t_vs)) :: (h_t_ds, .inl (k_t_ds, 10, .inl t_ds)) :: (h_t_behind, .inl (k_t_behind, 64, .inr (.inl t_behind))) :: R) H → va_D A ((h_t, .inr (12, (.int t_thrown :: z_t_1 :: z_t_2 :: .int t_a :: .int t_b :: z_t_5 :: .ref h_t_has :: .ref h_t_us :: .ref h_t_vs :: .ref h_t_ds :: .long t_u :: .long t_v :: .long t_d :: z_t_13 :: z_t_14 :: z_t_15 :: z_t_16 :: z_t_17 :: z_t_18 :: z_t_19 :: z_t_20 :: z_t_21 :: z_t_22 :: z_t_23 :: z_t_24 :: .ref h_t_behind :: z_t_26 :: z_t_27 :: z_t_28 :: z_t_29 :: z_t_30 :: z_t_31 :: z_t_32 :: z_t_33 :: z_t_34 :: z_t_35 :: z_t_36 :: z_t_37 :: z_t_38 :: z_t_39 :: z_t_40 :: z_t_41 :: z_t_42 :: z_t_43 :: z_t_44 :: z_t_45 :: z_t_46 :: z_t_47 :: z_t_48 :: z_t_49 :: z_t_50 :: z_t_51 :: z_t_52 :: z_t_53 :: z_t_54 :: z_t_55 :: z_t_56 :: z_t_57 :: z_t_58 :: z_t_59 :: z_t_60 :: []))) :: (h_t_has, .inl (k_t_has, 10, .inl t_has)) :: (h_t_us, .inl (k_t_us, 10, .inl t_us)) :: (h_t_vs, .inl (k_t_vs, 10, .inl t_vs)) :: (h_t_ds, .inl (k_t_ds, 10, .inl t_ds)) :: (h_t_behind, .inl (k_t_behind, 64, .inr (.inl t_behind))) :: R) → va_S A s.heap H locs → lv_has ls 15 [(0, .ref h_t), (1, .int l1), (4, .long l4), (6, .int l6), (7, .long l7), (9, .long l9), (11, .int l11), (12, .int l12)] → (∀ (H : Heap) (locs : List Loc) (ls : Array Slot), va_P D vwCl ((h_t, .inr (12, (.int t_thrown :: z_t_1 :: z_t_2 :: .int t_a :: .int t_b :: z_t_5 :: .ref h_t_has :: .ref h_t_us :: .ref h_t_vs :: .ref h_t_ds :: .long t_u :: .long t_v :: .long t_d :: z_t_13 :: z_t_14 :: z_t_15 :: z_t_16 :: z_t_17 :: z_t_18 :: z_t_19 :: z_t_20 :: z_t_21 :: z_t_22 :: z_t_23 :: z_t_24 :: .ref h_t_behind :: z_t_26 :: z_t_27 :: z_t_28 :: z_t_29 :: z_t_30 :: z_t_31 :: z_t_32 :: z_t_33 :: z_t_34 :: z_t_35 :: z_t_36 :: z_t_37 :: z_t_38 :: z_t_39 :: z_t_40 :: z_t_41 :: z_t_42 :: z_t_43 :: z_t_44 :: z_t_45 :: z_t_46 :: z_t_47 :: z_t_48 :: z_t_49 :: z_t_50 :: z_t_51 :: z_t_52 :: z_t_53 :: z_t_54 :: z_t_55 :: z_t_56 :: z_t_57 :: z_t_58 :: z_t_59 :: z_t_60 :: []))) :: (h_t_has, .inl (k_t_has, 10, .inl t_has)) :: (h_t_us, .inl (k_t_us, 10, .inl t_us)) :: (h_t_vs, .inl (k_t_vs, 10, .inl t_vs)) :: (h_t_ds, .inl (k_t_ds, 10, .inl t_ds)) :: (h_t_behind, .inl (k_t_behind, 64, .inr (.inl t_behind))) :: R) H → va_D A ((h_t, .inr (12, (.int t_thrown :: z_t_1 :: z_t_2 :: .int t_a :: .int t_b :: z_t_5 :: .ref h_t_has :: .ref h_t_us :: .ref h_t_vs :: .ref h_t_ds :: .long t_u :: .long t_v :: .long t_d :: z_t_13 :: z_t_14 :: z_t_15 :: z_t_16 :: z_t_17 :: z_t_18 :: z_t_19 :: z_t_20 :: z_t_21 :: z_t_22 :: z_t_23 :: z_t_24 :: .ref h_t_behind :: z_t_26 :: z_t_27 :: z_t_28 :: z_t_29 :: z_t_30 :: z_t_31 :: z_t_32 :: z_t_33 :: z_t_34 :: z_t_35 :: z_t_36 :: z_t_37 :: z_t_38 :: z_t_39 :: z_t_40 :: z_t_41 :: z_t_42 :: z_t_43 :: z_t_44 :: z_t_45 :: z_t_46 :: z_t_47 :: z_t_48 :: z_t_49 :: z_t_50 :: z_t_51 :: z_t_52 :: z_t_53 :: z_t_54 :: z_t_55 :: z_t_56 :: z_t_57 :: z_t_58 :: z_t_59 :: z_t_60 :: []))) :: (h_t_has, .inl (k_t_has, 10, .inl t_has)) :: (h_t_us, .inl (k_t_us, 10, .inl t_us)) :: (h_t_vs, .inl (k_t_vs, 10, .inl t_vs)) :: (h_t_ds, .inl (k_t_ds, 10, .inl t_ds)) :: (h_t_behind, .inl (k_t_behind, 64, .inr (.inl t_behind))) :: R) → va_S A s.heap H locs → lv_has ls 15 [(0, .ref h_t), (1, .int l1), (4, .long x4), (6, .int l6), (7, .long l7), (9, .long l9), (11, .int l11), (12, .int x12)] → W p l e { frames := 2, cells := 0, slots := 0, locals := 57 } s m args below meth c H locs 0 0 Q (F0 m 127 ls [])) → W p l e { frames := 2, cells := 0, slots := 0, locals := 57 } s m args below meth c H locs 0 0 Q (F0 m 81 ls []) := by
    intro Q n
    induction n with
    | zero =>
      intro l1 l4 l6 l7 l9 l11 l12 t_thrown t_u t_v t_d t_has t_us t_vs t_ds t_behind x4 x12 h
      rw [f_X12_whole__L81] at h; cases h
    | succ n ih =>
      intro l1 l4 l6 l7 l9 l11 l12 t_thrown t_u t_v t_d t_has t_us t_vs t_ds t_behind x4 x12 h H locs ls hP hD hS hl kk0
      rw [f_X12_whole__L81] at h
      refine lv_iload hx hb dX12_whole__81 (lv_at hl 7 rfl) ?_
      refine lv_aload_n hx hb dX12_whole__83 rfl (lv_at hl 0 rfl) ?_
      refine lv_iload hx hb dX12_whole__84 (lv_at hl 3 rfl) ?_
      obtain ⟨r_c86_9, e_c86_9, h⟩ := bnd1_ok h
      refine cl_i (rn_v (ci := 12) (As := [.int l6]) (rest := [.int l12]) S (c_X12_bar l D ((h_t_has, .inl (k_t_has, 10, .inl t_has)) :: (h_t_us, .inl (k_t_us, 10, .inl t_us)) :: (h_t_vs, .inl (k_t_vs, 10, .inl t_vs)) :: (h_t_ds, .inl (k_t_ds, 10, .inl t_ds)) :: (h_t_behind, .inl (k_t_behind, 64, .inr (.inl t_behind))) :: R) h_t (.int t_thrown) (z_t_1) (z_t_2) t_a t_b (z_t_5) (.ref h_t_has) (.ref h_t_us) (.ref h_t_vs) (.ref h_t_ds) (.long t_u) (.long t_v) (.long t_d) (z_t_13) (z_t_14) (z_t_15) (z_t_16) (z_t_17) (z_t_18) (z_t_19) (z_t_20) (z_t_21) (z_t_22) (z_t_23) (z_t_24) (.ref h_t_behind) (z_t_26) (z_t_27) (z_t_28) (z_t_29) (z_t_30) (z_t_31) (z_t_32) (z_t_33) (z_t_34) (z_t_35) (z_t_36) (z_t_37) (z_t_38) (z_t_39) (z_t_40) (z_t_41) (z_t_42) (z_t_43) (z_t_44) (z_t_45) (z_t_46) (z_t_47) (z_t_48) (z_t_49) (z_t_50) (z_t_51) (z_t_52) (z_t_53) (z_t_54) (z_t_55) (z_t_56) (z_t_57) (z_t_58) (z_t_59) (z_t_60) l6 r_c86_9 e_c86_9 _) q1271 q1273 q41 q61 q1274 nd_X12_bar ⟨Nat.le_of_ble_eq_true rfl, Nat.le_of_ble_eq_true rfl⟩ rfl rfl hP hD (hK.sub (tys' := []) [] rfl) hN rfl ⟨0, _, rfl⟩ rfl hl.1 rfl (Nat.le_of_ble_eq_true rfl) dX12_whole__86 ⟨Nat.le_of_ble_eq_true rfl, Nat.le_of_ble_eq_true rfl⟩) hS hA hD (fun H locs hP hD hS => ?_)
      have hP : va_P D vwCl ((h_t, .inr (12, (.int t_thrown :: z_t_1 :: z_t_2 :: .int t_a :: .int t_b :: z_t_5 :: .ref h_t_has :: .ref h_t_us :: .ref h_t_vs :: .ref h_t_ds :: .long t_u :: .long t_v :: .long t_d :: z_t_13 :: z_t_14 :: z_t_15 :: z_t_16 :: z_t_17 :: z_t_18 :: z_t_19 :: z_t_20 :: z_t_21 :: z_t_22 :: z_t_23 :: z_t_24 :: .ref h_t_behind :: z_t_26 :: z_t_27 :: z_t_28 :: z_t_29 :: z_t_30 :: z_t_31 :: z_t_32 :: z_t_33 :: z_t_34 :: z_t_35 :: z_t_36 :: z_t_37 :: z_t_38 :: z_t_39 :: z_t_40 :: z_t_41 :: z_t_42 :: z_t_43 :: z_t_44 :: z_t_45 :: z_t_46 :: z_t_47 :: z_t_48 :: z_t_49 :: z_t_50 :: z_t_51 :: z_t_52 :: z_t_53 :: z_t_54 :: z_t_55 :: z_t_56 :: z_t_57 :: z_t_58 :: z_t_59 :: z_t_60 :: []))) :: (h_t_has, .inl (k_t_has, 10, .inl t_has)) :: (h_t_us, .inl (k_t_us, 10, .inl t_us)) :: (h_t_vs, .inl (k_t_vs, 10, .inl t_vs)) :: (h_t_ds, .inl (k_t_ds, 10, .inl t_ds)) :: (h_t_behind, .inl (k_t_behind, 64, .inr (.inl t_behind))) :: R) H := hP
      have hD : va_D A ((h_t, .inr (12, (.int t_thrown :: z_t_1 :: z_t_2 :: .int t_a :: .int t_b :: z_t_5 :: .ref h_t_has :: .ref h_t_us :: .ref h_t_vs :: .ref h_t_ds :: .long t_u :: .long t_v :: .long t_d :: z_t_13 :: z_t_14 :: z_t_15 :: z_t_16 :: z_t_17 :: z_t_18 :: z_t_19 :: z_t_20 :: z_t_21 :: z_t_22 :: z_t_23 :: z_t_24 :: .ref h_t_behind :: z_t_26 :: z_t_27 :: z_t_28 :: z_t_29 :: z_t_30 :: z_t_31 :: z_t_32 :: z_t_33 :: z_t_34 :: z_t_35 :: z_t_36 :: z_t_37 :: z_t_38 :: z_t_39 :: z_t_40 :: z_t_41 :: z_t_42 :: z_t_43 :: z_t_44 :: z_t_45 :: z_t_46 :: z_t_47 :: z_t_48 :: z_t_49 :: z_t_50 :: z_t_51 :: z_t_52 :: z_t_53 :: z_t_54 :: z_t_55 :: z_t_56 :: z_t_57 :: z_t_58 :: z_t_59 :: z_t_60 :: []))) :: (h_t_has, .inl (k_t_has, 10, .inl t_has)) :: (h_t_us, .inl (k_t_us, 10, .inl t_us)) :: (h_t_vs, .inl (k_t_vs, 10, .inl t_vs)) :: (h_t_ds, .inl (k_t_ds, 10, .inl t_ds)) :: (h_t_behind, .inl (k_t_behind, 64, .inr (.inl t_behind))) :: R) := hD
      refine lv_icmp_ge (tgt := 127) hx hb dX12_whole__89 (by decide) (fun c11 => ?_) (fun c11 => ?_)
      · have h := br_pos c11 h
        cases h
        exact kk0 _ _ _ hP hD hS (lv_sub hl [0, 1, 2, 3, 4, 5, 6, 7] rfl)
      · have h := br_neg c11 h
        refine lv_lload hx hb dX12_whole__92 (lv_at hl 2 rfl) ?_
        refine lv_aload_n hx hb dX12_whole__94 rfl (lv_at hl 0 rfl) ?_
        refine va_get (D := D) (ci := 12) (v := .ref h_t_behind) (C := RX12) (T := TX12) (N := 61) hx hb ha ix12 hown hK hP 0 rfl rfl 25 (by decide) (ha _ q985) (fun _ h9 => h9) rfl dX12_whole__95 ?_
        refine lv_iconst (v := 2) hx hb dX12_whole__98 (by decide) ?_
        refine lv_iload hx hb dX12_whole__99 (lv_at hl 6 rfl) ?_
        refine lv_imul hx hb dX12_whole__101 ?_
        obtain ⟨i12, h⟩ := ix_ok h
        refine va_lald hx hb hK hP 5 4 rfl rfl i12 dX12_whole__102 ?_
        refine xl_lt (tgt := 127) hx hb dX12_whole__103 dX12_whole__104 (by decide) (fun c13 => ?_) (fun c13 => ?_)
        · have h := br_pos c13 h
          cases h
          exact kk0 _ _ _ hP hD hS (lv_sub hl [0, 1, 2, 3, 4, 5, 6, 7] rfl)
        · have h := br_neg c13 h
          refine lv_lload hx hb dX12_whole__107 (lv_at hl 2 rfl) ?_
          refine lv_aload_n hx hb dX12_whole__109 rfl (lv_at hl 0 rfl) ?_
          refine va_get (D := D) (ci := 12) (v := .ref h_t_behind) (C := RX12) (T := TX12) (N := 61) hx hb ha ix12 hown hK hP 0 rfl rfl 25 (by decide) (ha _ q985) (fun _ h9 => h9) rfl dX12_whole__110 ?_
          refine lv_iconst (v := 2) hx hb dX12_whole__113 (by decide) ?_
          refine lv_iload hx hb dX12_whole__114 (lv_at hl 6 rfl) ?_
          refine lv_imul hx hb dX12_whole__116 ?_
          obtain ⟨i14, h⟩ := ix_ok h
          refine va_lald hx hb hK hP 5 4 rfl rfl i14 dX12_whole__117 ?_
          refine lv_lsub hx hb dX12_whole__118 ?_
          refine lv_lstore (lv' := [(4, .long (l4 - (t_behind (2 * l11).toNatClampNeg))), (0, .ref h_t), (1, .int l1), (6, .int l6), (7, .long l7), (9, .long l9), (11, .int l11), (12, .int l12)]) hx hb dX12_whole__119 hl (by decide) rfl (fun ls hl => ?_)
          refine lv_iinc (v := (l12 + 1)) (lv' := [(12, .int (l12 + 1)), (4, .long (l4 - (t_behind (2 * l11).toNatClampNeg))), (0, .ref h_t), (1, .int l1), (6, .int l6), (7, .long l7), (9, .long l9), (11, .int l11)]) hx hb dX12_whole__121 hl (k := 7) rfl rfl (by decide) rfl (fun ls hl => ?_)
          refine lv_goto (tgt := 81) hx hb dX12_whole__124 (by decide) ?_
          exact ih l1 (l4 - (t_behind (2 * l11).toNatClampNeg)) l6 l7 l9 l11 (l12 + 1) t_thrown t_u t_v t_d t_has t_us t_vs t_ds t_behind _ _ h _ _ _ hP hD hS (lv_sub hl [2, 3, 1, 4, 5, 6, 7, 0] rfl) kk0
  have L73 : ∀ (Q : State → Prop) (n : Nat) (l1 : Int32) (l4 : Int64) (l6 : Int32) (l7 : Int64) (l9 : Int64) (l11 : Int32) (t_thrown : Int32) (t_u : Int64) (t_v : Int64) (t_d : Int64) (t_has : Nat → Int32) (t_us : Nat → Int32) (t_vs : Nat → Int32) (t_ds : Nat → Int32) (t_behind : Nat → Int64) (x7 : Int64) (x9 : Int64), f_X12_whole__L73 t_a t_b t_behind n l4 l6 l7 l9 l11 = some (x7, x9) → ∀ (H : Heap) (locs : List Loc) (ls : Array Slot), va_P D vwCl ((h_t, .inr (12, (.int t_thrown :: z_t_1 :: z_t_2 :: .int t_a :: .int t_b :: z_t_5 :: .ref h_t_has :: .ref h_t_us :: .ref h_t_vs :: .ref h_t_ds :: .long t_u :: .long t_v :: .long t_d :: z_t_13 :: z_t_14 :: z_t_15 :: z_t_16 :: z_t_17 :: z_t_18 :: z_t_19 :: z_t_20 :: z_t_21 :: z_t_22 :: z_t_23 :: z_t_24 :: .ref h_t_behind :: z_t_26 :: z_t_27 :: z_t_28 :: z_t_29 :: z_t_30 :: z_t_31 :: z_t_32 :: z_t_33 :: z_t_34 :: z_t_35 :: z_t_36 :: z_t_37 :: z_t_38 :: z_t_39 :: z_t_40 :: z_t_41 :: z_t_42 :: z_t_43 :: z_t_44 :: z_t_45 :: z_t_46 :: z_t_47 :: z_t_48 :: z_t_49 :: z_t_50 :: z_t_51 :: z_t_52 :: z_t_53 :: z_t_54 :: z_t_55 :: z_t_56 :: z_t_57 :: z_t_58 :: z_t_59 :: z_t_60 :: []))) :: (h_t_has, .inl (k_t_has, 10, .inl t_has)) :: (h_t_us, .inl (k_t_us, 10, .inl t_us)) :: (h_t_vs, .inl (k_t_vs, 10, .inl t_vs)) :: (h_t_ds, .inl (k_t_ds, 10, .inl t_ds)) :: (h_t_behind, .inl (k_t_behind, 64, .inr (.inl t_behind))) :: R) H → va_D A ((h_t, .inr (12, (.int t_thrown :: z_t_1 :: z_t_2 :: .int t_a :: .int t_b :: z_t_5 :: .ref h_t_has :: .ref h_t_us :: .ref h_t_vs :: .ref h_t_ds :: .long t_u :: .long t_v :: .long t_d :: z_t_13 :: z_t_14 :: z_t_15 :: z_t_16 :: z_t_17 :: z_t_18 :: z_t_19 :: z_t_20 :: z_t_21 :: z_t_22 :: z_t_23 :: z_t_24 :: .ref h_t_behind :: z_t_26 :: z_t_27 :: z_t_28 :: z_t_29 :: z_t_30 :: z_t_31 :: z_t_32 :: z_t_33 :: z_t_34 :: z_t_35 :: z_t_36 :: z_t_37 :: z_t_38 :: z_t_39 :: z_t_40 :: z_t_41 :: z_t_42 :: z_t_43 :: z_t_44 :: z_t_45 :: z_t_46 :: z_t_47 :: z_t_48 :: z_t_49 :: z_t_50 :: z_t_51 :: z_t_52 :: z_t_53 :: z_t_54 :: z_t_55 :: z_t_56 :: z_t_57 :: z_t_58 :: z_t_59 :: z_t_60 :: []))) :: (h_t_has, .inl (k_t_has, 10, .inl t_has)) :: (h_t_us, .inl (k_t_us, 10, .inl t_us)) :: (h_t_vs, .inl (k_t_vs, 10, .inl t_vs)) :: (h_t_ds, .inl (k_t_ds, 10, .inl t_ds)) :: (h_t_behind, .inl (k_t_behind, 64, .inr (.inl t_behind))) :: R) → va_S A s.heap H locs → lv_has ls 15 [(0, .ref h_t), (1, .int l1), (4, .long l4), (6, .int l6), (7, .long l7), (9, .long l9), (11, .int l11)] → (∀ (H : Heap) (locs : List Loc) (ls : Array Slot), va_P D vwCl ((h_t, .inr (12, (.int t_thrown :: z_t_1 :: z_t_2 :: .int t_a :: .int t_b :: z_t_5 :: .ref h_t_has :: .ref h_t_us :: .ref h_t_vs :: .ref h_t_ds :: .long t_u :: .long t_v :: .long t_d :: z_t_13 :: z_t_14 :: z_t_15 :: z_t_16 :: z_t_17 :: z_t_18 :: z_t_19 :: z_t_20 :: z_t_21 :: z_t_22 :: z_t_23 :: z_t_24 :: .ref h_t_behind :: z_t_26 :: z_t_27 :: z_t_28 :: z_t_29 :: z_t_30 :: z_t_31 :: z_t_32 :: z_t_33 :: z_t_34 :: z_t_35 :: z_t_36 :: z_t_37 :: z_t_38 :: z_t_39 :: z_t_40 :: z_t_41 :: z_t_42 :: z_t_43 :: z_t_44 :: z_t_45 :: z_t_46 :: z_t_47 :: z_t_48 :: z_t_49 :: z_t_50 :: z_t_51 :: z_t_52 :: z_t_53 :: z_t_54 :: z_t_55 :: z_t_56 :: z_t_57 :: z_t_58 :: z_t_59 :: z_t_60 :: []))) :: (h_t_has, .inl (k_t_has, 10, .inl t_has)) :: (h_t_us, .inl (k_t_us, 10, .inl t_us)) :: (h_t_vs, .inl (k_t_vs, 10, .inl t_vs)) :: (h_t_ds, .inl (k_t_ds, 10, .inl t_ds)) :: (h_t_behind, .inl (k_t_behind, 64, .inr (.inl t_behind))) :: R) H → va_D A ((h_t, .inr (12, (.int t_thrown :: z_t_1 :: z_t_2 :: .int t_a :: .int t_b :: z_t_5 :: .ref h_t_has :: .ref h_t_us :: .ref h_t_vs :: .ref h_t_ds :: .long t_u :: .long t_v :: .long t_d :: z_t_13 :: z_t_14 :: z_t_15 :: z_t_16 :: z_t_17 :: z_t_18 :: z_t_19 :: z_t_20 :: z_t_21 :: z_t_22 :: z_t_23 :: z_t_24 :: .ref h_t_behind :: z_t_26 :: z_t_27 :: z_t_28 :: z_t_29 :: z_t_30 :: z_t_31 :: z_t_32 :: z_t_33 :: z_t_34 :: z_t_35 :: z_t_36 :: z_t_37 :: z_t_38 :: z_t_39 :: z_t_40 :: z_t_41 :: z_t_42 :: z_t_43 :: z_t_44 :: z_t_45 :: z_t_46 :: z_t_47 :: z_t_48 :: z_t_49 :: z_t_50 :: z_t_51 :: z_t_52 :: z_t_53 :: z_t_54 :: z_t_55 :: z_t_56 :: z_t_57 :: z_t_58 :: z_t_59 :: z_t_60 :: []))) :: (h_t_has, .inl (k_t_has, 10, .inl t_has)) :: (h_t_us, .inl (k_t_us, 10, .inl t_us)) :: (h_t_vs, .inl (k_t_vs, 10, .inl t_vs)) :: (h_t_ds, .inl (k_t_ds, 10, .inl t_ds)) :: (h_t_behind, .inl (k_t_behind, 64, .inr (.inl t_behind))) :: R) → va_S A s.heap H locs → lv_has ls 15 [(0, .ref h_t), (1, .int l1), (7, .long x7), (9, .long x9)] → W p l e { frames := 2, cells := 0, slots := 0, locals := 57 } s m args below meth c H locs 0 0 Q (F0 m 196 ls [])) → W p l e { frames := 2, cells := 0, slots := 0, locals := 57 } s m args below meth c H locs 0 0 Q (F0 m 73 ls []) := by
    intro Q n
    induction n with
    | zero =>
      intro l1 l4 l6 l7 l9 l11 t_thrown t_u t_v t_d t_has t_us t_vs t_ds t_behind x7 x9 h
      rw [f_X12_whole__L73] at h; cases h
    | succ n ih =>
      intro l1 l4 l6 l7 l9 l11 t_thrown t_u t_v t_d t_has t_us t_vs t_ds t_behind x7 x9 h H locs ls hP hD hS hl kk0
      rw [f_X12_whole__L73] at h
      refine lv_iload hx hb dX12_whole__73 (lv_at hl 6 rfl) ?_
      refine lv_if_lt (tgt := 196) hx hb dX12_whole__75 (by decide) (fun c9 => ?_) (fun c9 => ?_)
      · have h := br_pos c9 h
        cases h
        exact kk0 _ _ _ hP hD hS (lv_sub hl [0, 1, 4, 5] rfl)
      · have h := br_neg c9 h
        refine lv_iconst (v := 0) hx hb dX12_whole__78 (by decide) ?_
        refine lv_istore (lv' := [(12, .int 0), (0, .ref h_t), (1, .int l1), (4, .long l4), (6, .int l6), (7, .long l7), (9, .long l9), (11, .int l11)]) hx hb dX12_whole__79 hl (by decide) rfl (fun ls hl => ?_)
        obtain ⟨x4_L81_14, x12_L81_14, e_L81_14, h⟩ := bnd2_ok h
        refine L81 _ _ l1 l4 l6 l7 l9 l11 0 t_thrown t_u t_v t_d t_has t_us t_vs t_ds t_behind x4_L81_14 x12_L81_14 e_L81_14 _ _ _ hP hD hS (lv_sub hl [1, 2, 3, 4, 5, 6, 7, 0] rfl) ?_
        intro H locs ls hP hD hS hl
        refine lv_lload hx hb dX12_whole__127 (lv_at hl 4 rfl) ?_
        refine lv_lstore (lv' := [(13, .long l7), (0, .ref h_t), (1, .int l1), (4, .long x4_L81_14), (6, .int l6), (7, .long l7), (9, .long l9), (11, .int l11), (12, .int x12_L81_14)]) hx hb dX12_whole__129 hl (by decide) rfl (fun ls hl => ?_)
        refine lv_lload hx hb dX12_whole__131 (lv_at hl 6 rfl) ?_
        refine lv_aload_n hx hb dX12_whole__133 rfl (lv_at hl 1 rfl) ?_
        refine va_get (D := D) (ci := 12) (v := .int t_b) (C := RX12) (T := TX12) (N := 61) hx hb ha ix12 hown hK hP 0 rfl rfl 4 (by decide) (ha _ q964) (fun _ h9 => h9) rfl dX12_whole__134 ?_
        refine lv_i2l (v := t_b.toInt64) hx hb dX12_whole__137 rfl ?_
        refine lv_lmul hx hb dX12_whole__138 ?_
        refine lv_iload hx hb dX12_whole__139 (lv_at hl 8 rfl) ?_
        refine lv_i2l (v := x12_L81_14.toInt64) hx hb dX12_whole__141 rfl ?_
        refine lv_ladd hx hb dX12_whole__142 ?_
        refine lv_lstore (lv' := [(7, .long ((l9 * t_b.toInt64) + x12_L81_14.toInt64)), (13, .long l7), (0, .ref h_t), (1, .int l1), (4, .long x4_L81_14), (6, .int l6), (9, .long l9), (11, .int l11), (12, .int x12_L81_14)]) hx hb dX12_whole__143 hl (by decide) rfl (fun ls hl => ?_)
        refine lv_lload hx hb dX12_whole__145 (lv_at hl 1 rfl) ?_
        refine lv_lload hx hb dX12_whole__147 (lv_at hl 6 rfl) ?_
        refine lv_aload_n hx hb dX12_whole__149 rfl (lv_at hl 2 rfl) ?_
        refine va_get (D := D) (ci := 12) (v := .int t_a) (C := RX12) (T := TX12) (N := 61) hx hb ha ix12 hown hK hP 0 rfl rfl 3 (by decide) (ha _ q963) (fun _ h9 => h9) rfl dX12_whole__150 ?_
        refine lv_i2l (v := t_a.toInt64) hx hb dX12_whole__153 rfl ?_
        refine lv_lmul hx hb dX12_whole__154 ?_
        refine lv_ladd hx hb dX12_whole__155 ?_
        refine lv_lstore (lv' := [(9, .long (l7 + (l9 * t_a.toInt64))), (7, .long ((l9 * t_b.toInt64) + x12_L81_14.toInt64)), (13, .long l7), (0, .ref h_t), (1, .int l1), (4, .long x4_L81_14), (6, .int l6), (11, .int l11), (12, .int x12_L81_14)]) hx hb dX12_whole__156 hl (by decide) rfl (fun ls hl => ?_)
        refine lv_iload hx hb dX12_whole__158 (lv_at hl 8 rfl) ?_
        refine lv_aload_n hx hb dX12_whole__160 rfl (lv_at hl 3 rfl) ?_
        refine lv_iload hx hb dX12_whole__161 (lv_at hl 6 rfl) ?_
        obtain ⟨r_c163_15, e_c163_15, h⟩ := bnd1_ok h
        refine cl_i (rn_v (ci := 12) (As := [.int l6]) (rest := [.int x12_L81_14]) S (c_X12_bar l D ((h_t_has, .inl (k_t_has, 10, .inl t_has)) :: (h_t_us, .inl (k_t_us, 10, .inl t_us)) :: (h_t_vs, .inl (k_t_vs, 10, .inl t_vs)) :: (h_t_ds, .inl (k_t_ds, 10, .inl t_ds)) :: (h_t_behind, .inl (k_t_behind, 64, .inr (.inl t_behind))) :: R) h_t (.int t_thrown) (z_t_1) (z_t_2) t_a t_b (z_t_5) (.ref h_t_has) (.ref h_t_us) (.ref h_t_vs) (.ref h_t_ds) (.long t_u) (.long t_v) (.long t_d) (z_t_13) (z_t_14) (z_t_15) (z_t_16) (z_t_17) (z_t_18) (z_t_19) (z_t_20) (z_t_21) (z_t_22) (z_t_23) (z_t_24) (.ref h_t_behind) (z_t_26) (z_t_27) (z_t_28) (z_t_29) (z_t_30) (z_t_31) (z_t_32) (z_t_33) (z_t_34) (z_t_35) (z_t_36) (z_t_37) (z_t_38) (z_t_39) (z_t_40) (z_t_41) (z_t_42) (z_t_43) (z_t_44) (z_t_45) (z_t_46) (z_t_47) (z_t_48) (z_t_49) (z_t_50) (z_t_51) (z_t_52) (z_t_53) (z_t_54) (z_t_55) (z_t_56) (z_t_57) (z_t_58) (z_t_59) (z_t_60) l6 r_c163_15 e_c163_15 _) q1271 q1273 q41 q61 q1274 nd_X12_bar ⟨Nat.le_of_ble_eq_true rfl, Nat.le_of_ble_eq_true rfl⟩ rfl rfl hP hD (hK.sub (tys' := []) [] rfl) hN rfl ⟨0, _, rfl⟩ rfl hl.1 rfl (Nat.le_of_ble_eq_true rfl) dX12_whole__163 ⟨Nat.le_of_ble_eq_true rfl, Nat.le_of_ble_eq_true rfl⟩) hS hA hD (fun H locs hP hD hS => ?_)
        have hP : va_P D vwCl ((h_t, .inr (12, (.int t_thrown :: z_t_1 :: z_t_2 :: .int t_a :: .int t_b :: z_t_5 :: .ref h_t_has :: .ref h_t_us :: .ref h_t_vs :: .ref h_t_ds :: .long t_u :: .long t_v :: .long t_d :: z_t_13 :: z_t_14 :: z_t_15 :: z_t_16 :: z_t_17 :: z_t_18 :: z_t_19 :: z_t_20 :: z_t_21 :: z_t_22 :: z_t_23 :: z_t_24 :: .ref h_t_behind :: z_t_26 :: z_t_27 :: z_t_28 :: z_t_29 :: z_t_30 :: z_t_31 :: z_t_32 :: z_t_33 :: z_t_34 :: z_t_35 :: z_t_36 :: z_t_37 :: z_t_38 :: z_t_39 :: z_t_40 :: z_t_41 :: z_t_42 :: z_t_43 :: z_t_44 :: z_t_45 :: z_t_46 :: z_t_47 :: z_t_48 :: z_t_49 :: z_t_50 :: z_t_51 :: z_t_52 :: z_t_53 :: z_t_54 :: z_t_55 :: z_t_56 :: z_t_57 :: z_t_58 :: z_t_59 :: z_t_60 :: []))) :: (h_t_has, .inl (k_t_has, 10, .inl t_has)) :: (h_t_us, .inl (k_t_us, 10, .inl t_us)) :: (h_t_vs, .inl (k_t_vs, 10, .inl t_vs)) :: (h_t_ds, .inl (k_t_ds, 10, .inl t_ds)) :: (h_t_behind, .inl (k_t_behind, 64, .inr (.inl t_behind))) :: R) H := hP
        have hD : va_D A ((h_t, .inr (12, (.int t_thrown :: z_t_1 :: z_t_2 :: .int t_a :: .int t_b :: z_t_5 :: .ref h_t_has :: .ref h_t_us :: .ref h_t_vs :: .ref h_t_ds :: .long t_u :: .long t_v :: .long t_d :: z_t_13 :: z_t_14 :: z_t_15 :: z_t_16 :: z_t_17 :: z_t_18 :: z_t_19 :: z_t_20 :: z_t_21 :: z_t_22 :: z_t_23 :: z_t_24 :: .ref h_t_behind :: z_t_26 :: z_t_27 :: z_t_28 :: z_t_29 :: z_t_30 :: z_t_31 :: z_t_32 :: z_t_33 :: z_t_34 :: z_t_35 :: z_t_36 :: z_t_37 :: z_t_38 :: z_t_39 :: z_t_40 :: z_t_41 :: z_t_42 :: z_t_43 :: z_t_44 :: z_t_45 :: z_t_46 :: z_t_47 :: z_t_48 :: z_t_49 :: z_t_50 :: z_t_51 :: z_t_52 :: z_t_53 :: z_t_54 :: z_t_55 :: z_t_56 :: z_t_57 :: z_t_58 :: z_t_59 :: z_t_60 :: []))) :: (h_t_has, .inl (k_t_has, 10, .inl t_has)) :: (h_t_us, .inl (k_t_us, 10, .inl t_us)) :: (h_t_vs, .inl (k_t_vs, 10, .inl t_vs)) :: (h_t_ds, .inl (k_t_ds, 10, .inl t_ds)) :: (h_t_behind, .inl (k_t_behind, 64, .inr (.inl t_behind))) :: R) := hD
        refine lv_icmp_ge (tgt := 173) hx hb dX12_whole__166 (by decide) (fun c17 => ?_) (fun c17 => ?_)
        · have h := br_pos c17 h
          refine lv_aload_n hx hb dX12_whole__173 rfl (lv_at hl 3 rfl) ?_
          refine va_get (D := D) (ci := 12) (v := .int t_b) (C := RX12) (T := TX12) (N := 61) hx hb ha ix12 hown hK hP 0 rfl rfl 4 (by decide) (ha _ q964) (fun _ h9 => h9) rfl dX12_whole__174 ?_
          refine lv_if_le (tgt := 187) hx hb dX12_whole__177 (by decide) (fun c18 => ?_) (fun c18 => ?_)
          · have h := br_pos c18 h
            refine lv_iconst (v := 1) hx hb dX12_whole__187 (by decide) ?_
            refine lv_istore (lv' := [(6, .int 1), (9, .long (l7 + (l9 * t_a.toInt64))), (7, .long ((l9 * t_b.toInt64) + x12_L81_14.toInt64)), (13, .long l7), (0, .ref h_t), (1, .int l1), (4, .long x4_L81_14), (11, .int l11), (12, .int x12_L81_14)]) hx hb dX12_whole__188 hl (by decide) rfl (fun ls hl => ?_)
            refine lv_iinc (v := (l11 + (-1))) (lv' := [(11, .int (l11 + (-1))), (6, .int 1), (9, .long (l7 + (l9 * t_a.toInt64))), (7, .long ((l9 * t_b.toInt64) + x12_L81_14.toInt64)), (13, .long l7), (0, .ref h_t), (1, .int l1), (4, .long x4_L81_14), (12, .int x12_L81_14)]) hx hb dX12_whole__190 hl (k := 7) rfl rfl (by decide) rfl (fun ls hl => ?_)
            refine lv_goto (tgt := 73) hx hb dX12_whole__193 (by decide) ?_
            exact ih l1 x4_L81_14 1 ((l9 * t_b.toInt64) + x12_L81_14.toInt64) (l7 + (l9 * t_a.toInt64)) (l11 + (-1)) t_thrown t_u t_v t_d t_has t_us t_vs t_ds t_behind _ _ h _ _ _ hP hD hS (lv_sub hl [5, 6, 7, 1, 3, 2, 0] rfl) kk0
          · have h := br_neg c18 h
            refine lv_iconst (v := 1) hx hb dX12_whole__180 (by decide) ?_
            refine lv_iload hx hb dX12_whole__181 (lv_at hl 6 rfl) ?_
            refine lv_isub hx hb dX12_whole__183 ?_
            refine lv_goto (tgt := 188) hx hb dX12_whole__184 (by decide) ?_
            refine lv_istore (lv' := [(6, .int (1 - l6)), (9, .long (l7 + (l9 * t_a.toInt64))), (7, .long ((l9 * t_b.toInt64) + x12_L81_14.toInt64)), (13, .long l7), (0, .ref h_t), (1, .int l1), (4, .long x4_L81_14), (11, .int l11), (12, .int x12_L81_14)]) hx hb dX12_whole__188 hl (by decide) rfl (fun ls hl => ?_)
            refine lv_iinc (v := (l11 + (-1))) (lv' := [(11, .int (l11 + (-1))), (6, .int (1 - l6)), (9, .long (l7 + (l9 * t_a.toInt64))), (7, .long ((l9 * t_b.toInt64) + x12_L81_14.toInt64)), (13, .long l7), (0, .ref h_t), (1, .int l1), (4, .long x4_L81_14), (12, .int x12_L81_14)]) hx hb dX12_whole__190 hl (k := 7) rfl rfl (by decide) rfl (fun ls hl => ?_)
            refine lv_goto (tgt := 73) hx hb dX12_whole__193 (by decide) ?_
            exact ih l1 x4_L81_14 (1 - l6) ((l9 * t_b.toInt64) + x12_L81_14.toInt64) (l7 + (l9 * t_a.toInt64)) (l11 + (-1)) t_thrown t_u t_v t_d t_has t_us t_vs t_ds t_behind _ _ h _ _ _ hP hD hS (lv_sub hl [5, 6, 7, 1, 3, 2, 0] rfl) kk0
        · have h := br_neg c17 h
          refine lv_iconst (v := 0) hx hb dX12_whole__169 (by decide) ?_
          refine lv_goto (tgt := 188) hx hb dX12_whole__170 (by decide) ?_
          refine lv_istore (lv' := [(6, .int 0), (9, .long (l7 + (l9 * t_a.toInt64))), (7, .long ((l9 * t_b.toInt64) + x12_L81_14.toInt64)), (13, .long l7), (0, .ref h_t), (1, .int l1), (4, .long x4_L81_14), (11, .int l11), (12, .int x12_L81_14)]) hx hb dX12_whole__188 hl (by decide) rfl (fun ls hl => ?_)
          refine lv_iinc (v := (l11 + (-1))) (lv' := [(11, .int (l11 + (-1))), (6, .int 0), (9, .long (l7 + (l9 * t_a.toInt64))), (7, .long ((l9 * t_b.toInt64) + x12_L81_14.toInt64)), (13, .long l7), (0, .ref h_t), (1, .int l1), (4, .long x4_L81_14), (12, .int x12_L81_14)]) hx hb dX12_whole__190 hl (k := 7) rfl rfl (by decide) rfl (fun ls hl => ?_)
          refine lv_goto (tgt := 73) hx hb dX12_whole__193 (by decide) ?_
          exact ih l1 x4_L81_14 0 ((l9 * t_b.toInt64) + x12_L81_14.toInt64) (l7 + (l9 * t_a.toInt64)) (l11 + (-1)) t_thrown t_u t_v t_d t_has t_us t_vs t_ds t_behind _ _ h _ _ _ hP hD hS (lv_sub hl [5, 6, 7, 1, 3, 2, 0] rfl) kk0
  unfold f_X12_whole_ at h
  refine lv_aload_n hx hb dX12_whole__0 rfl (lv_at hl 0 rfl) ?_
  refine lv_iconst (v := 0) hx hb dX12_whole__1 (by decide) ?_
  refine va_put (D := D) (ci := 12) (v := .int 0) (ty := .int) (C := RX12) (T := TX12) (N := 61) hx hb ha ix12 tyX12 tyX12_ok nmX12 hown hK hP hD hS 0 rfl rfl 0 (by decide) (ha _ q960) (fun _ h9 => h9) rfl (by decide +kernel) rfl rfl (Nat.le_of_ble_eq_true rfl) dX12_whole__2 (fun H locs hP hD hS => ?_)
  have hP : va_P D vwCl ((h_t, .inr (12, (.int 0 :: z_t_1 :: z_t_2 :: .int t_a :: .int t_b :: z_t_5 :: .ref h_t_has :: .ref h_t_us :: .ref h_t_vs :: .ref h_t_ds :: .long t_u :: .long t_v :: .long t_d :: z_t_13 :: z_t_14 :: z_t_15 :: z_t_16 :: z_t_17 :: z_t_18 :: z_t_19 :: z_t_20 :: z_t_21 :: z_t_22 :: z_t_23 :: z_t_24 :: .ref h_t_behind :: z_t_26 :: z_t_27 :: z_t_28 :: z_t_29 :: z_t_30 :: z_t_31 :: z_t_32 :: z_t_33 :: z_t_34 :: z_t_35 :: z_t_36 :: z_t_37 :: z_t_38 :: z_t_39 :: z_t_40 :: z_t_41 :: z_t_42 :: z_t_43 :: z_t_44 :: z_t_45 :: z_t_46 :: z_t_47 :: z_t_48 :: z_t_49 :: z_t_50 :: z_t_51 :: z_t_52 :: z_t_53 :: z_t_54 :: z_t_55 :: z_t_56 :: z_t_57 :: z_t_58 :: z_t_59 :: z_t_60 :: []))) :: (h_t_has, .inl (k_t_has, 10, .inl t_has)) :: (h_t_us, .inl (k_t_us, 10, .inl t_us)) :: (h_t_vs, .inl (k_t_vs, 10, .inl t_vs)) :: (h_t_ds, .inl (k_t_ds, 10, .inl t_ds)) :: (h_t_behind, .inl (k_t_behind, 64, .inr (.inl t_behind))) :: R) H := hP
  have hD : va_D A ((h_t, .inr (12, (.int 0 :: z_t_1 :: z_t_2 :: .int t_a :: .int t_b :: z_t_5 :: .ref h_t_has :: .ref h_t_us :: .ref h_t_vs :: .ref h_t_ds :: .long t_u :: .long t_v :: .long t_d :: z_t_13 :: z_t_14 :: z_t_15 :: z_t_16 :: z_t_17 :: z_t_18 :: z_t_19 :: z_t_20 :: z_t_21 :: z_t_22 :: z_t_23 :: z_t_24 :: .ref h_t_behind :: z_t_26 :: z_t_27 :: z_t_28 :: z_t_29 :: z_t_30 :: z_t_31 :: z_t_32 :: z_t_33 :: z_t_34 :: z_t_35 :: z_t_36 :: z_t_37 :: z_t_38 :: z_t_39 :: z_t_40 :: z_t_41 :: z_t_42 :: z_t_43 :: z_t_44 :: z_t_45 :: z_t_46 :: z_t_47 :: z_t_48 :: z_t_49 :: z_t_50 :: z_t_51 :: z_t_52 :: z_t_53 :: z_t_54 :: z_t_55 :: z_t_56 :: z_t_57 :: z_t_58 :: z_t_59 :: z_t_60 :: []))) :: (h_t_has, .inl (k_t_has, 10, .inl t_has)) :: (h_t_us, .inl (k_t_us, 10, .inl t_us)) :: (h_t_vs, .inl (k_t_vs, 10, .inl t_vs)) :: (h_t_ds, .inl (k_t_ds, 10, .inl t_ds)) :: (h_t_behind, .inl (k_t_behind, 64, .inr (.inl t_behind))) :: R) := hD
  refine lv_iload_n hx hb dX12_whole__5 rfl (lv_at hl 1 rfl) ?_
  refine lv_if_lt (tgt := 25) hx hb dX12_whole__6 (by decide) (fun c1 => ?_) (fun c1 => ?_)
  · have h := br_pos c1 h
    refine lv_iconst (v := 0) hx hb dX12_whole__25 (by decide) ?_
    cases h
    exact rt_z S hr hlk hP hD hS (by decide) dX12_whole__26
  · have h := br_neg c1 h
    refine lv_iload_n hx hb dX12_whole__9 rfl (lv_at hl 1 rfl) ?_
    refine lv_bipush (v := 10) hx hb dX12_whole__10 (by decide) ?_
    refine lv_icmp_ge (tgt := 25) hx hb dX12_whole__12 (by decide) (fun c2 => ?_) (fun c2 => ?_)
    · have h := br_pos c2 h
      refine lv_iconst (v := 0) hx hb dX12_whole__25 (by decide) ?_
      cases h
      exact rt_z S hr hlk hP hD hS (by decide) dX12_whole__26
    · have h := br_neg c2 h
      refine lv_iload_n hx hb dX12_whole__15 rfl (lv_at hl 2 rfl) ?_
      refine lv_if_lt (tgt := 25) hx hb dX12_whole__16 (by decide) (fun c3 => ?_) (fun c3 => ?_)
      · have h := br_pos c3 h
        refine lv_iconst (v := 0) hx hb dX12_whole__25 (by decide) ?_
        cases h
        exact rt_z S hr hlk hP hD hS (by decide) dX12_whole__26
      · have h := br_neg c3 h
        refine lv_iload_n hx hb dX12_whole__19 rfl (lv_at hl 2 rfl) ?_
        refine lv_ldc (v := 50000) hx hb hown (ha _ q1291) dX12_whole__20 ?_
        refine lv_icmp_le (tgt := 27) hx hb dX12_whole__22 (by decide) (fun c4 => ?_) (fun c4 => ?_)
        · have h := br_pos c4 h
          refine lv_aload_n hx hb dX12_whole__27 rfl (lv_at hl 0 rfl) ?_
          refine lv_bipush (v := 26) hx hb dX12_whole__28 (by decide) ?_
          obtain ⟨t_behind_c30_4, e_c30_4, h⟩ := bnd1_ok h
          have hP : va_P D vwCl ((h_t, .inr (12, (.int 0 :: z_t_1 :: z_t_2 :: .int t_a :: .int t_b :: z_t_5 :: .ref h_t_has :: .ref h_t_us :: .ref h_t_vs :: .ref h_t_ds :: .long t_u :: .long t_v :: .long t_d :: z_t_13 :: z_t_14 :: z_t_15 :: z_t_16 :: z_t_17 :: z_t_18 :: z_t_19 :: z_t_20 :: z_t_21 :: z_t_22 :: z_t_23 :: z_t_24 :: .ref h_t_behind :: z_t_26 :: z_t_27 :: z_t_28 :: z_t_29 :: z_t_30 :: z_t_31 :: z_t_32 :: z_t_33 :: z_t_34 :: z_t_35 :: z_t_36 :: z_t_37 :: z_t_38 :: z_t_39 :: z_t_40 :: z_t_41 :: z_t_42 :: z_t_43 :: z_t_44 :: z_t_45 :: z_t_46 :: z_t_47 :: z_t_48 :: z_t_49 :: z_t_50 :: z_t_51 :: z_t_52 :: z_t_53 :: z_t_54 :: z_t_55 :: z_t_56 :: z_t_57 :: z_t_58 :: z_t_59 :: z_t_60 :: []))) :: (h_t_behind, .inl (k_t_behind, 64, .inr (.inl t_behind))) :: (h_t_has, .inl (k_t_has, 10, .inl t_has)) :: (h_t_us, .inl (k_t_us, 10, .inl t_us)) :: (h_t_vs, .inl (k_t_vs, 10, .inl t_vs)) :: (h_t_ds, .inl (k_t_ds, 10, .inl t_ds)) :: R) _ := pm_P [0, 5, 1, 2, 3, 4] 6 hP
          have hD : va_D A ((h_t, .inr (12, (.int 0 :: z_t_1 :: z_t_2 :: .int t_a :: .int t_b :: z_t_5 :: .ref h_t_has :: .ref h_t_us :: .ref h_t_vs :: .ref h_t_ds :: .long t_u :: .long t_v :: .long t_d :: z_t_13 :: z_t_14 :: z_t_15 :: z_t_16 :: z_t_17 :: z_t_18 :: z_t_19 :: z_t_20 :: z_t_21 :: z_t_22 :: z_t_23 :: z_t_24 :: .ref h_t_behind :: z_t_26 :: z_t_27 :: z_t_28 :: z_t_29 :: z_t_30 :: z_t_31 :: z_t_32 :: z_t_33 :: z_t_34 :: z_t_35 :: z_t_36 :: z_t_37 :: z_t_38 :: z_t_39 :: z_t_40 :: z_t_41 :: z_t_42 :: z_t_43 :: z_t_44 :: z_t_45 :: z_t_46 :: z_t_47 :: z_t_48 :: z_t_49 :: z_t_50 :: z_t_51 :: z_t_52 :: z_t_53 :: z_t_54 :: z_t_55 :: z_t_56 :: z_t_57 :: z_t_58 :: z_t_59 :: z_t_60 :: []))) :: (h_t_behind, .inl (k_t_behind, 64, .inr (.inl t_behind))) :: (h_t_has, .inl (k_t_has, 10, .inl t_has)) :: (h_t_us, .inl (k_t_us, 10, .inl t_us)) :: (h_t_vs, .inl (k_t_vs, 10, .inl t_vs)) :: (h_t_ds, .inl (k_t_ds, 10, .inl t_ds)) :: R) := pm_D (X := [(h_t, .inr (12, (.int 0 :: z_t_1 :: z_t_2 :: .int t_a :: .int t_b :: z_t_5 :: .ref h_t_has :: .ref h_t_us :: .ref h_t_vs :: .ref h_t_ds :: .long t_u :: .long t_v :: .long t_d :: z_t_13 :: z_t_14 :: z_t_15 :: z_t_16 :: z_t_17 :: z_t_18 :: z_t_19 :: z_t_20 :: z_t_21 :: z_t_22 :: z_t_23 :: z_t_24 :: .ref h_t_behind :: z_t_26 :: z_t_27 :: z_t_28 :: z_t_29 :: z_t_30 :: z_t_31 :: z_t_32 :: z_t_33 :: z_t_34 :: z_t_35 :: z_t_36 :: z_t_37 :: z_t_38 :: z_t_39 :: z_t_40 :: z_t_41 :: z_t_42 :: z_t_43 :: z_t_44 :: z_t_45 :: z_t_46 :: z_t_47 :: z_t_48 :: z_t_49 :: z_t_50 :: z_t_51 :: z_t_52 :: z_t_53 :: z_t_54 :: z_t_55 :: z_t_56 :: z_t_57 :: z_t_58 :: z_t_59 :: z_t_60 :: []))), (h_t_behind, .inl (k_t_behind, 64, .inr (.inl t_behind))), (h_t_has, .inl (k_t_has, 10, .inl t_has)), (h_t_us, .inl (k_t_us, 10, .inl t_us)), (h_t_vs, .inl (k_t_vs, 10, .inl t_vs)), (h_t_ds, .inl (k_t_ds, 10, .inl t_ds))]) [0, 5, 1, 2, 3, 4] 6 (by decide) (by decide) rfl hD
          refine cl_v (rn_v (ci := 12) (As := [.int 26]) (rest := []) S (c_X12_count0 l D ((h_t_has, .inl (k_t_has, 10, .inl t_has)) :: (h_t_us, .inl (k_t_us, 10, .inl t_us)) :: (h_t_vs, .inl (k_t_vs, 10, .inl t_vs)) :: (h_t_ds, .inl (k_t_ds, 10, .inl t_ds)) :: R) h_t (.int 0) (z_t_1) (z_t_2) t_a t_b (z_t_5) (.ref h_t_has) (.ref h_t_us) (.ref h_t_vs) (.ref h_t_ds) (.long t_u) (.long t_v) (.long t_d) (z_t_13) (z_t_14) (z_t_15) (z_t_16) (z_t_17) (z_t_18) (z_t_19) (z_t_20) (z_t_21) (z_t_22) (z_t_23) (z_t_24) (z_t_26) (z_t_27) (z_t_28) (z_t_29) (z_t_30) (z_t_31) (z_t_32) (z_t_33) (z_t_34) (z_t_35) (z_t_36) (z_t_37) (z_t_38) (z_t_39) (z_t_40) (z_t_41) (z_t_42) (z_t_43) (z_t_44) (z_t_45) (z_t_46) (z_t_47) (z_t_48) (z_t_49) (z_t_50) (z_t_51) (z_t_52) (z_t_53) (z_t_54) (z_t_55) (z_t_56) (z_t_57) (z_t_58) (z_t_59) (z_t_60) h_t_behind k_t_behind t_behind 26 t_behind_c30_4 e_c30_4 _) q1283 q1285 q42 q61 q1286 nd_X12_count0 ⟨Nat.le_of_ble_eq_true rfl, Nat.le_of_ble_eq_true rfl⟩ rfl rfl hP hD (hK.sub (tys' := [(k_t_behind, .long)]) [4] rfl) hN rfl ⟨0, _, rfl⟩ rfl hl.1 rfl (Nat.le_of_ble_eq_true rfl) dX12_whole__30 ⟨Nat.le_of_ble_eq_true rfl, Nat.le_of_ble_eq_true rfl⟩) hS hA hD (fun H locs hP hD hS => ?_)
          have hP : va_P D vwCl ((h_t, .inr (12, (.int 0 :: z_t_1 :: z_t_2 :: .int t_a :: .int t_b :: z_t_5 :: .ref h_t_has :: .ref h_t_us :: .ref h_t_vs :: .ref h_t_ds :: .long t_u :: .long t_v :: .long t_d :: z_t_13 :: z_t_14 :: z_t_15 :: z_t_16 :: z_t_17 :: z_t_18 :: z_t_19 :: z_t_20 :: z_t_21 :: z_t_22 :: z_t_23 :: z_t_24 :: .ref h_t_behind :: z_t_26 :: z_t_27 :: z_t_28 :: z_t_29 :: z_t_30 :: z_t_31 :: z_t_32 :: z_t_33 :: z_t_34 :: z_t_35 :: z_t_36 :: z_t_37 :: z_t_38 :: z_t_39 :: z_t_40 :: z_t_41 :: z_t_42 :: z_t_43 :: z_t_44 :: z_t_45 :: z_t_46 :: z_t_47 :: z_t_48 :: z_t_49 :: z_t_50 :: z_t_51 :: z_t_52 :: z_t_53 :: z_t_54 :: z_t_55 :: z_t_56 :: z_t_57 :: z_t_58 :: z_t_59 :: z_t_60 :: []))) :: (h_t_has, .inl (k_t_has, 10, .inl t_has)) :: (h_t_us, .inl (k_t_us, 10, .inl t_us)) :: (h_t_vs, .inl (k_t_vs, 10, .inl t_vs)) :: (h_t_ds, .inl (k_t_ds, 10, .inl t_ds)) :: (h_t_behind, .inl (k_t_behind, 64, .inr (.inl t_behind_c30_4))) :: R) H := pm_P [0, 2, 3, 4, 5, 1] 6 hP
          have hD : va_D A ((h_t, .inr (12, (.int 0 :: z_t_1 :: z_t_2 :: .int t_a :: .int t_b :: z_t_5 :: .ref h_t_has :: .ref h_t_us :: .ref h_t_vs :: .ref h_t_ds :: .long t_u :: .long t_v :: .long t_d :: z_t_13 :: z_t_14 :: z_t_15 :: z_t_16 :: z_t_17 :: z_t_18 :: z_t_19 :: z_t_20 :: z_t_21 :: z_t_22 :: z_t_23 :: z_t_24 :: .ref h_t_behind :: z_t_26 :: z_t_27 :: z_t_28 :: z_t_29 :: z_t_30 :: z_t_31 :: z_t_32 :: z_t_33 :: z_t_34 :: z_t_35 :: z_t_36 :: z_t_37 :: z_t_38 :: z_t_39 :: z_t_40 :: z_t_41 :: z_t_42 :: z_t_43 :: z_t_44 :: z_t_45 :: z_t_46 :: z_t_47 :: z_t_48 :: z_t_49 :: z_t_50 :: z_t_51 :: z_t_52 :: z_t_53 :: z_t_54 :: z_t_55 :: z_t_56 :: z_t_57 :: z_t_58 :: z_t_59 :: z_t_60 :: []))) :: (h_t_has, .inl (k_t_has, 10, .inl t_has)) :: (h_t_us, .inl (k_t_us, 10, .inl t_us)) :: (h_t_vs, .inl (k_t_vs, 10, .inl t_vs)) :: (h_t_ds, .inl (k_t_ds, 10, .inl t_ds)) :: (h_t_behind, .inl (k_t_behind, 64, .inr (.inl t_behind_c30_4))) :: R) := pm_D (X := [(h_t, .inr (12, (.int 0 :: z_t_1 :: z_t_2 :: .int t_a :: .int t_b :: z_t_5 :: .ref h_t_has :: .ref h_t_us :: .ref h_t_vs :: .ref h_t_ds :: .long t_u :: .long t_v :: .long t_d :: z_t_13 :: z_t_14 :: z_t_15 :: z_t_16 :: z_t_17 :: z_t_18 :: z_t_19 :: z_t_20 :: z_t_21 :: z_t_22 :: z_t_23 :: z_t_24 :: .ref h_t_behind :: z_t_26 :: z_t_27 :: z_t_28 :: z_t_29 :: z_t_30 :: z_t_31 :: z_t_32 :: z_t_33 :: z_t_34 :: z_t_35 :: z_t_36 :: z_t_37 :: z_t_38 :: z_t_39 :: z_t_40 :: z_t_41 :: z_t_42 :: z_t_43 :: z_t_44 :: z_t_45 :: z_t_46 :: z_t_47 :: z_t_48 :: z_t_49 :: z_t_50 :: z_t_51 :: z_t_52 :: z_t_53 :: z_t_54 :: z_t_55 :: z_t_56 :: z_t_57 :: z_t_58 :: z_t_59 :: z_t_60 :: []))), (h_t_has, .inl (k_t_has, 10, .inl t_has)), (h_t_us, .inl (k_t_us, 10, .inl t_us)), (h_t_vs, .inl (k_t_vs, 10, .inl t_vs)), (h_t_ds, .inl (k_t_ds, 10, .inl t_ds)), (h_t_behind, .inl (k_t_behind, 64, .inr (.inl t_behind_c30_4)))]) [0, 2, 3, 4, 5, 1] 6 (by decide) (by decide) rfl hD
          refine lv_iconst (v := 0) hx hb dX12_whole__33 (by decide) ?_
          refine lv_istore_n (lv' := [(3, .int 0), (0, .ref h_t), (1, .int l1), (2, .int l2)]) hx hb dX12_whole__34 rfl hl (by decide) rfl (fun ls hl => ?_)
          obtain ⟨x3_L35_7, e_L35_7, h⟩ := bnd1_ok h
          refine L35 _ _ l1 l2 0 0 t_u t_v t_d t_has t_us t_vs t_ds t_behind_c30_4 x3_L35_7 e_L35_7 _ _ _ hP hD hS (lv_sub hl [1, 2, 3, 0] rfl) ?_
          intro H locs ls hP hD hS hl
          refine lv_iload_n hx hb dX12_whole__55 rfl (lv_at hl 2 rfl) ?_
          refine lv_i2l (v := l2.toInt64) hx hb dX12_whole__56 rfl ?_
          refine lv_lstore (lv' := [(4, .long l2.toInt64), (0, .ref h_t), (1, .int l1), (2, .int l2), (3, .int x3_L35_7)]) hx hb dX12_whole__57 hl (by decide) rfl (fun ls hl => ?_)
          refine lv_iconst (v := 0) hx hb dX12_whole__59 (by decide) ?_
          refine lv_istore (lv' := [(6, .int 0), (4, .long l2.toInt64), (0, .ref h_t), (1, .int l1), (2, .int l2), (3, .int x3_L35_7)]) hx hb dX12_whole__60 hl (by decide) rfl (fun ls hl => ?_)
          refine lv_lconst (v := 0) hx hb dX12_whole__62 (by decide) ?_
          refine lv_lstore (lv' := [(7, .long 0), (6, .int 0), (4, .long l2.toInt64), (0, .ref h_t), (1, .int l1), (2, .int l2), (3, .int x3_L35_7)]) hx hb dX12_whole__63 hl (by decide) rfl (fun ls hl => ?_)
          refine lv_lconst (v := 0) hx hb dX12_whole__65 (by decide) ?_
          refine lv_lstore (lv' := [(9, .long 0), (7, .long 0), (6, .int 0), (4, .long l2.toInt64), (0, .ref h_t), (1, .int l1), (2, .int l2), (3, .int x3_L35_7)]) hx hb dX12_whole__66 hl (by decide) rfl (fun ls hl => ?_)
          refine lv_iload_n hx hb dX12_whole__68 rfl (lv_at hl 7 rfl) ?_
          refine lv_iconst (v := 1) hx hb dX12_whole__69 (by decide) ?_
          refine lv_isub hx hb dX12_whole__70 ?_
          refine lv_istore (lv' := [(11, .int (x3_L35_7 - 1)), (9, .long 0), (7, .long 0), (6, .int 0), (4, .long l2.toInt64), (0, .ref h_t), (1, .int l1), (2, .int l2), (3, .int x3_L35_7)]) hx hb dX12_whole__71 hl (by decide) rfl (fun ls hl => ?_)
          obtain ⟨x7_L73_18, x9_L73_18, e_L73_18, h⟩ := bnd2_ok h
          refine L73 _ _ l1 l2.toInt64 0 0 0 (x3_L35_7 - 1) 0 t_u t_v t_d t_has t_us t_vs t_ds t_behind_c30_4 x7_L73_18 x9_L73_18 e_L73_18 _ _ _ hP hD hS (lv_sub hl [5, 6, 4, 3, 2, 1, 0] rfl) ?_
          intro H locs ls hP hD hS hl
          refine lv_aload_n hx hb dX12_whole__196 rfl (lv_at hl 0 rfl) ?_
          refine lv_lload hx hb dX12_whole__197 (lv_at hl 2 rfl) ?_
          refine lv_lload hx hb dX12_whole__199 (lv_at hl 3 rfl) ?_
          refine lv_lconst (v := 1) hx hb dX12_whole__201 (by decide) ?_
          obtain ⟨t_u_c202_19, t_v_c202_19, t_d_c202_19, e_c202_19, h⟩ := bnd3_ok h
          refine cl_v (rn_v (ci := 12) (As := [.long x7_L73_18, .long x9_L73_18, .long 1]) (rest := []) S (c_X12_set l D ((h_t_has, .inl (k_t_has, 10, .inl t_has)) :: (h_t_us, .inl (k_t_us, 10, .inl t_us)) :: (h_t_vs, .inl (k_t_vs, 10, .inl t_vs)) :: (h_t_ds, .inl (k_t_ds, 10, .inl t_ds)) :: (h_t_behind, .inl (k_t_behind, 64, .inr (.inl t_behind_c30_4))) :: R) h_t (.int 0) (z_t_1) (z_t_2) (.int t_a) (.int t_b) (z_t_5) (.ref h_t_has) (.ref h_t_us) (.ref h_t_vs) (.ref h_t_ds) t_u t_v t_d (z_t_13) (z_t_14) (z_t_15) (z_t_16) (z_t_17) (z_t_18) (z_t_19) (z_t_20) (z_t_21) (z_t_22) (z_t_23) (z_t_24) (.ref h_t_behind) (z_t_26) (z_t_27) (z_t_28) (z_t_29) (z_t_30) (z_t_31) (z_t_32) (z_t_33) (z_t_34) (z_t_35) (z_t_36) (z_t_37) (z_t_38) (z_t_39) (z_t_40) (z_t_41) (z_t_42) (z_t_43) (z_t_44) (z_t_45) (z_t_46) (z_t_47) (z_t_48) (z_t_49) (z_t_50) (z_t_51) (z_t_52) (z_t_53) (z_t_54) (z_t_55) (z_t_56) (z_t_57) (z_t_58) (z_t_59) (z_t_60) x7_L73_18 x9_L73_18 1 t_u_c202_19 t_v_c202_19 t_d_c202_19 e_c202_19 _) q1172 q1174 q27 q61 q1175 nd_X12_set ⟨Nat.le_of_ble_eq_true rfl, Nat.le_of_ble_eq_true rfl⟩ rfl rfl hP hD (hK.sub (tys' := []) [] rfl) hN rfl ⟨0, _, rfl⟩ rfl hl.1 rfl (Nat.le_of_ble_eq_true rfl) dX12_whole__202 ⟨Nat.le_of_ble_eq_true rfl, Nat.le_of_ble_eq_true rfl⟩) hS hA hD (fun H locs hP hD hS => ?_)
          have hP : va_P D vwCl ((h_t, .inr (12, (.int 0 :: z_t_1 :: z_t_2 :: .int t_a :: .int t_b :: z_t_5 :: .ref h_t_has :: .ref h_t_us :: .ref h_t_vs :: .ref h_t_ds :: .long t_u_c202_19 :: .long t_v_c202_19 :: .long t_d_c202_19 :: z_t_13 :: z_t_14 :: z_t_15 :: z_t_16 :: z_t_17 :: z_t_18 :: z_t_19 :: z_t_20 :: z_t_21 :: z_t_22 :: z_t_23 :: z_t_24 :: .ref h_t_behind :: z_t_26 :: z_t_27 :: z_t_28 :: z_t_29 :: z_t_30 :: z_t_31 :: z_t_32 :: z_t_33 :: z_t_34 :: z_t_35 :: z_t_36 :: z_t_37 :: z_t_38 :: z_t_39 :: z_t_40 :: z_t_41 :: z_t_42 :: z_t_43 :: z_t_44 :: z_t_45 :: z_t_46 :: z_t_47 :: z_t_48 :: z_t_49 :: z_t_50 :: z_t_51 :: z_t_52 :: z_t_53 :: z_t_54 :: z_t_55 :: z_t_56 :: z_t_57 :: z_t_58 :: z_t_59 :: z_t_60 :: []))) :: (h_t_has, .inl (k_t_has, 10, .inl t_has)) :: (h_t_us, .inl (k_t_us, 10, .inl t_us)) :: (h_t_vs, .inl (k_t_vs, 10, .inl t_vs)) :: (h_t_ds, .inl (k_t_ds, 10, .inl t_ds)) :: (h_t_behind, .inl (k_t_behind, 64, .inr (.inl t_behind_c30_4))) :: R) H := hP
          have hD : va_D A ((h_t, .inr (12, (.int 0 :: z_t_1 :: z_t_2 :: .int t_a :: .int t_b :: z_t_5 :: .ref h_t_has :: .ref h_t_us :: .ref h_t_vs :: .ref h_t_ds :: .long t_u_c202_19 :: .long t_v_c202_19 :: .long t_d_c202_19 :: z_t_13 :: z_t_14 :: z_t_15 :: z_t_16 :: z_t_17 :: z_t_18 :: z_t_19 :: z_t_20 :: z_t_21 :: z_t_22 :: z_t_23 :: z_t_24 :: .ref h_t_behind :: z_t_26 :: z_t_27 :: z_t_28 :: z_t_29 :: z_t_30 :: z_t_31 :: z_t_32 :: z_t_33 :: z_t_34 :: z_t_35 :: z_t_36 :: z_t_37 :: z_t_38 :: z_t_39 :: z_t_40 :: z_t_41 :: z_t_42 :: z_t_43 :: z_t_44 :: z_t_45 :: z_t_46 :: z_t_47 :: z_t_48 :: z_t_49 :: z_t_50 :: z_t_51 :: z_t_52 :: z_t_53 :: z_t_54 :: z_t_55 :: z_t_56 :: z_t_57 :: z_t_58 :: z_t_59 :: z_t_60 :: []))) :: (h_t_has, .inl (k_t_has, 10, .inl t_has)) :: (h_t_us, .inl (k_t_us, 10, .inl t_us)) :: (h_t_vs, .inl (k_t_vs, 10, .inl t_vs)) :: (h_t_ds, .inl (k_t_ds, 10, .inl t_ds)) :: (h_t_behind, .inl (k_t_behind, 64, .inr (.inl t_behind_c30_4))) :: R) := hD
          refine lv_aload_n hx hb dX12_whole__205 rfl (lv_at hl 0 rfl) ?_
          refine lv_iload_n hx hb dX12_whole__206 rfl (lv_at hl 1 rfl) ?_
          obtain ⟨r_c207_20, t_has_c207_20, t_us_c207_20, t_vs_c207_20, t_ds_c207_20, e_c207_20, h⟩ := bnd5_ok h
          refine cl_z (rn_v (ci := 12) (As := [.int l1]) (rest := []) S (c_X12_put l D ((h_t_behind, .inl (k_t_behind, 64, .inr (.inl t_behind_c30_4))) :: R) h_t (.int 0) (z_t_1) (z_t_2) (.int t_a) (.int t_b) (z_t_5) t_u_c202_19 t_v_c202_19 t_d_c202_19 (z_t_13) (z_t_14) (z_t_15) (z_t_16) (z_t_17) (z_t_18) (z_t_19) (z_t_20) (z_t_21) (z_t_22) (z_t_23) (z_t_24) (.ref h_t_behind) (z_t_26) (z_t_27) (z_t_28) (z_t_29) (z_t_30) (z_t_31) (z_t_32) (z_t_33) (z_t_34) (z_t_35) (z_t_36) (z_t_37) (z_t_38) (z_t_39) (z_t_40) (z_t_41) (z_t_42) (z_t_43) (z_t_44) (z_t_45) (z_t_46) (z_t_47) (z_t_48) (z_t_49) (z_t_50) (z_t_51) (z_t_52) (z_t_53) (z_t_54) (z_t_55) (z_t_56) (z_t_57) (z_t_58) (z_t_59) (z_t_60) h_t_has k_t_has t_has h_t_us k_t_us t_us h_t_vs k_t_vs t_vs h_t_ds k_t_ds t_ds l1 r_c207_20 t_has_c207_20 t_us_c207_20 t_vs_c207_20 t_ds_c207_20 e_c207_20 _) q1179 q1181 q28 q61 q1182 nd_X12_put ⟨Nat.le_of_ble_eq_true rfl, Nat.le_of_ble_eq_true rfl⟩ rfl rfl hP hD (hK.sub (tys' := [(k_t_has, .boolean), (k_t_us, .int), (k_t_vs, .int), (k_t_ds, .int)]) [0, 1, 2, 3] rfl) hN rfl ⟨0, _, rfl⟩ rfl hl.1 rfl (Nat.le_of_ble_eq_true rfl) dX12_whole__207 ⟨Nat.le_of_ble_eq_true rfl, Nat.le_of_ble_eq_true rfl⟩) hS hA hD (fun H locs hP hD hS z_c207_20 => ?_)
          have hP : va_P D vwCl ((h_t, .inr (12, (.int 0 :: z_t_1 :: z_t_2 :: .int t_a :: .int t_b :: z_t_5 :: .ref h_t_has :: .ref h_t_us :: .ref h_t_vs :: .ref h_t_ds :: .long t_u_c202_19 :: .long t_v_c202_19 :: .long t_d_c202_19 :: z_t_13 :: z_t_14 :: z_t_15 :: z_t_16 :: z_t_17 :: z_t_18 :: z_t_19 :: z_t_20 :: z_t_21 :: z_t_22 :: z_t_23 :: z_t_24 :: .ref h_t_behind :: z_t_26 :: z_t_27 :: z_t_28 :: z_t_29 :: z_t_30 :: z_t_31 :: z_t_32 :: z_t_33 :: z_t_34 :: z_t_35 :: z_t_36 :: z_t_37 :: z_t_38 :: z_t_39 :: z_t_40 :: z_t_41 :: z_t_42 :: z_t_43 :: z_t_44 :: z_t_45 :: z_t_46 :: z_t_47 :: z_t_48 :: z_t_49 :: z_t_50 :: z_t_51 :: z_t_52 :: z_t_53 :: z_t_54 :: z_t_55 :: z_t_56 :: z_t_57 :: z_t_58 :: z_t_59 :: z_t_60 :: []))) :: (h_t_has, .inl (k_t_has, 10, .inl t_has_c207_20)) :: (h_t_us, .inl (k_t_us, 10, .inl t_us_c207_20)) :: (h_t_vs, .inl (k_t_vs, 10, .inl t_vs_c207_20)) :: (h_t_ds, .inl (k_t_ds, 10, .inl t_ds_c207_20)) :: (h_t_behind, .inl (k_t_behind, 64, .inr (.inl t_behind_c30_4))) :: R) H := hP
          have hD : va_D A ((h_t, .inr (12, (.int 0 :: z_t_1 :: z_t_2 :: .int t_a :: .int t_b :: z_t_5 :: .ref h_t_has :: .ref h_t_us :: .ref h_t_vs :: .ref h_t_ds :: .long t_u_c202_19 :: .long t_v_c202_19 :: .long t_d_c202_19 :: z_t_13 :: z_t_14 :: z_t_15 :: z_t_16 :: z_t_17 :: z_t_18 :: z_t_19 :: z_t_20 :: z_t_21 :: z_t_22 :: z_t_23 :: z_t_24 :: .ref h_t_behind :: z_t_26 :: z_t_27 :: z_t_28 :: z_t_29 :: z_t_30 :: z_t_31 :: z_t_32 :: z_t_33 :: z_t_34 :: z_t_35 :: z_t_36 :: z_t_37 :: z_t_38 :: z_t_39 :: z_t_40 :: z_t_41 :: z_t_42 :: z_t_43 :: z_t_44 :: z_t_45 :: z_t_46 :: z_t_47 :: z_t_48 :: z_t_49 :: z_t_50 :: z_t_51 :: z_t_52 :: z_t_53 :: z_t_54 :: z_t_55 :: z_t_56 :: z_t_57 :: z_t_58 :: z_t_59 :: z_t_60 :: []))) :: (h_t_has, .inl (k_t_has, 10, .inl t_has_c207_20)) :: (h_t_us, .inl (k_t_us, 10, .inl t_us_c207_20)) :: (h_t_vs, .inl (k_t_vs, 10, .inl t_vs_c207_20)) :: (h_t_ds, .inl (k_t_ds, 10, .inl t_ds_c207_20)) :: (h_t_behind, .inl (k_t_behind, 64, .inr (.inl t_behind_c30_4))) :: R) := hD
          cases h
          exact rt_z S hr hlk hP hD hS z_c207_20 dX12_whole__210
        · have h := br_neg c4 h
          refine lv_iconst (v := 0) hx hb dX12_whole__25 (by decide) ?_
          cases h
          exact rt_z S hr hlk hP hD hS (by decide) dX12_whole__26
noncomputable def f_X12_rank_L71 (l2 : Int64) (l4 : Int64) (l6 : Int64) (t_a : Int32) (t_b : Int32) (t_root : Int32) : Nat → Int64 → Int64 → Int32 →  Option (Int64 × Int64 × Int32)
  | 0, _, _, _ => none
  | n + 1, l8, l10, l12 => (
    bnd1 (f_X12_sign t_a t_root (l2 - ((l10 * t_b.toInt64) * l6)) (l4 - ((l8 + (l10 * t_a.toInt64)) * l6))) fun r_c102_9 => (
     if r_c102_9 < 0 then (
      some (l8, l10, l12)
     ) else (
      f_X12_rank_L71 l2 l4 l6 t_a t_b t_root n (l10 * t_b.toInt64) (l8 + (l10 * t_a.toInt64)) (l12 + 1)
     )
    ))
noncomputable def f_X12_rank_L155 (l6 : Int64) (l8 : Int64) (l10 : Int64) (t_a : Int32) (t_root : Int32) : Nat → Int64 → Int64 → Int32 →  Option (Int64 × Int64 × Int32)
  | 0, _, _, _ => none
  | n + 1, l2, l4, l14 => (
    bnd1 (f_X12_sign t_a t_root (l2 - (l8 * l6)) (l4 - (l10 * l6))) fun r_c171_13 => (
     if r_c171_13 < 0 then (
      some (l2, l4, l14)
     ) else (
      f_X12_rank_L155 l6 l8 l10 t_a t_root n (l2 - (l8 * l6)) (l4 - (l10 * l6)) (l14 + 1)
     )
    ))
noncomputable def f_X12_rank_L147 (l6 : Int64) (l13 : Int32) (t_a : Int32) (t_b : Int32) (t_root : Int32) : Nat → Int64 → Int64 → Int64 → Int64 → Int32 → (Nat → Int32) →  Option (Int64 × Int64 × (Nat → Int32))
  | 0, _, _, _, _, _, _ => none
  | n + 1, l2, l4, l8, l10, l12, t_hand => (
    if l12 < 0 then (
     some (l2, l4, t_hand)
    ) else (
     bnd3 (f_X12_rank_L155 l6 l8 l10 t_a t_root FU l2 l4 0) fun x2_L155_15 x4_L155_15 x14_L155_15 => (
      gd (ixb ((l13 - 1) - l12) 64) (
       gd (nzL t_b.toInt64) (
        gd (nzL t_b.toInt64) (
         f_X12_rank_L147 l6 l13 t_a t_b t_root n x2_L155_15 x4_L155_15 (l10 - (t_a.toInt64 * (l8 / t_b.toInt64))) (l8 / t_b.toInt64) (l12 + (-1)) (upd t_hand ((l13 - 1) - l12).toNatClampNeg x14_L155_15)
        )
       )
      )
     )
    ))
noncomputable def f_X12_rank_L284 (l13 : Int32) (t_a : Int32) (t_b : Int32) (t_behind : Nat → Int64) (t_hand : Nat → Int32) : Nat → Int64 → Int32 → Int32 →  Option (Int64)
  | 0, _, _, _ => none
  | n + 1, l14, l16, l17 => (
    if l13 ≤ l17 then (
     some l14
    ) else (
     gd (ixb l17 64) (
      gd (ixb (2 * ((l13 - 1) - l17)) 64) (
       bnd1 (f_X12_bar t_a t_b l16) fun r_c328_26 => (
        if r_c328_26 ≤ (t_hand l17.toNatClampNeg) then (
         if t_b ≤ 0 then (
          f_X12_rank_L284 l13 t_a t_b t_behind t_hand n (l14 + ((t_hand l17.toNatClampNeg).toInt64 * (t_behind (2 * ((l13 - 1) - l17)).toNatClampNeg))) 1 (l17 + 1)
         ) else (
          f_X12_rank_L284 l13 t_a t_b t_behind t_hand n (l14 + ((t_hand l17.toNatClampNeg).toInt64 * (t_behind (2 * ((l13 - 1) - l17)).toNatClampNeg))) (1 - l16) (l17 + 1)
         )
        ) else (
         f_X12_rank_L284 l13 t_a t_b t_behind t_hand n (l14 + ((t_hand l17.toNatClampNeg).toInt64 * (t_behind (2 * ((l13 - 1) - l17)).toNatClampNeg))) 0 (l17 + 1)
        )
       )
      )
     )
    ))
noncomputable def f_X12_rank (t_thrown : Int32) (t_a : Int32) (t_b : Int32) (t_root : Int32) (t_has : Nat → Int32) (t_us : Nat → Int32) (t_vs : Nat → Int32) (t_ds : Nat → Int32) (t_behind : Nat → Int64) (t_hand : Nat → Int32) (l1 : Int32) : Option (Int32 × Int32 × (Nat → Int64) × (Nat → Int32)) :=
  bnd1 (f_X12_isThere t_has l1) fun r_c7_0 => (
   if r_c7_0 = 0 then (
    some ((-1), 0, t_behind, t_hand)
   ) else (
    gd (ixb l1 10) (
     gd (ixb l1 10) (
      bnd1 (f_X12_sign t_a t_root ((t_us l1.toNatClampNeg).toInt64) ((t_vs l1.toNatClampNeg).toInt64)) fun r_c28_4 => (
       if 0 ≤ r_c28_4 then (
        gd (ixb l1 10) (
         gd (ixb l1 10) (
          gd (ixb l1 10) (
           bnd3 (f_X12_rank_L71 ((t_us l1.toNatClampNeg).toInt64) ((t_vs l1.toNatClampNeg).toInt64) ((t_ds l1.toNatClampNeg).toInt64) t_a t_b t_root FU 1 0 0) fun x8_L71_11 x10_L71_11 x12_L71_11 => (
            bnd3 (f_X12_rank_L147 ((t_ds l1.toNatClampNeg).toInt64) (x12_L71_11 + 1) t_a t_b t_root FU ((t_us l1.toNatClampNeg).toInt64) ((t_vs l1.toNatClampNeg).toInt64) x8_L71_11 x10_L71_11 x12_L71_11 t_hand) fun x2_L147_19 x4_L147_19 x_t_hand_L147_19 => (
             if x2_L147_19 = 0 then (
              if x4_L147_19 = 0 then (
               bnd1 (f_X12_count0 t_a t_b t_behind (x12_L71_11 + 1)) fun t_behind_c272_22 => (
                bnd1 (f_X12_rank_L284 (x12_L71_11 + 1) t_a t_b t_behind_c272_22 x_t_hand_L147_19 FU 0 0 0) fun x14_L284_29 => (
                 if x14_L284_29 ≤ 50000 then (
                  some (x14_L284_29.toInt32, 0, t_behind_c272_22, x_t_hand_L147_19)
                 ) else (
                  some ((-1), 0, t_behind_c272_22, x_t_hand_L147_19)
                 )
                )
               )
              ) else (
               some ((-1), 0, t_behind, x_t_hand_L147_19)
              )
             ) else (
              some ((-1), 0, t_behind, x_t_hand_L147_19)
             )
            )
           )
          )
         )
        )
       ) else (
        some ((-1), 0, t_behind, t_hand)
       )
      )
     )
    )
   )
  )
set_option maxHeartbeats 4000000 in
set_option maxRecDepth 100000 in
theorem c_X12_rank (l : Launch) (D : va_G) (R : va_W) (h_t : Nat) (t_thrown : Int32) (z_t_1 : Value) (z_t_2 : Value) (t_a : Int32) (t_b : Int32) (t_root : Int32) (z_t_10 : Value) (z_t_11 : Value) (z_t_12 : Value) (z_t_13 : Value) (z_t_14 : Value) (z_t_15 : Value) (z_t_16 : Value) (z_t_17 : Value) (z_t_18 : Value) (z_t_19 : Value) (z_t_20 : Value) (z_t_21 : Value) (z_t_22 : Value) (z_t_23 : Value) (z_t_24 : Value) (z_t_27 : Value) (z_t_28 : Value) (z_t_29 : Value) (z_t_30 : Value) (z_t_31 : Value) (z_t_32 : Value) (z_t_33 : Value) (z_t_34 : Value) (z_t_35 : Value) (z_t_36 : Value) (z_t_37 : Value) (z_t_38 : Value) (z_t_39 : Value) (z_t_40 : Value) (z_t_41 : Value) (z_t_42 : Value) (z_t_43 : Value) (z_t_44 : Value) (z_t_45 : Value) (z_t_46 : Value) (z_t_47 : Value) (z_t_48 : Value) (z_t_49 : Value) (z_t_50 : Value) (z_t_51 : Value) (z_t_52 : Value) (z_t_53 : Value) (z_t_54 : Value) (z_t_55 : Value) (z_t_56 : Value) (z_t_57 : Value) (z_t_58 : Value) (z_t_59 : Value) (z_t_60 : Value) (h_t_has : Nat) (k_t_has : ClassId) (t_has : Nat → Int32) (h_t_us : Nat) (k_t_us : ClassId) (t_us : Nat → Int32) (h_t_vs : Nat) (k_t_vs : ClassId) (t_vs : Nat → Int32) (h_t_ds : Nat) (k_t_ds : ClassId) (t_ds : Nat → Int32) (h_t_behind : Nat) (k_t_behind : ClassId) (t_behind : Nat → Int64) (h_t_hand : Nat) (k_t_hand : ClassId) (t_hand : Nat → Int32) (l1 : Int32) (r : Int32) (o_t_thrown : Int32) (o_t_behind : Nat → Int64) (o_t_hand : Nat → Int32)  (h : f_X12_rank t_thrown t_a t_b t_root t_has t_us t_vs t_ds t_behind t_hand l1 = some (r, o_t_thrown, o_t_behind, o_t_hand)) (sz : Nat) : Met l yX12_rank (WD yX12_rank cX12_rank 19 (some .int)) ({ frames := 2, cells := 0, slots := 0, locals := 47 }) (va_Pc [.ref h_t, .int l1] (PcW D [(k_t_has, .boolean), (k_t_us, .int), (k_t_vs, .int), (k_t_ds, .int), (k_t_behind, .long), (k_t_hand, .int)] ((h_t, .inr (12, (.int t_thrown :: z_t_1 :: z_t_2 :: .int t_a :: .int t_b :: .int t_root :: .ref h_t_has :: .ref h_t_us :: .ref h_t_vs :: .ref h_t_ds :: z_t_10 :: z_t_11 :: z_t_12 :: z_t_13 :: z_t_14 :: z_t_15 :: z_t_16 :: z_t_17 :: z_t_18 :: z_t_19 :: z_t_20 :: z_t_21 :: z_t_22 :: z_t_23 :: z_t_24 :: .ref h_t_behind :: .ref h_t_hand :: z_t_27 :: z_t_28 :: z_t_29 :: z_t_30 :: z_t_31 :: z_t_32 :: z_t_33 :: z_t_34 :: z_t_35 :: z_t_36 :: z_t_37 :: z_t_38 :: z_t_39 :: z_t_40 :: z_t_41 :: z_t_42 :: z_t_43 :: z_t_44 :: z_t_45 :: z_t_46 :: z_t_47 :: z_t_48 :: z_t_49 :: z_t_50 :: z_t_51 :: z_t_52 :: z_t_53 :: z_t_54 :: z_t_55 :: z_t_56 :: z_t_57 :: z_t_58 :: z_t_59 :: z_t_60 :: []))) :: (h_t_has, .inl (k_t_has, 10, .inl t_has)) :: (h_t_us, .inl (k_t_us, 10, .inl t_us)) :: (h_t_vs, .inl (k_t_vs, 10, .inl t_vs)) :: (h_t_ds, .inl (k_t_ds, 10, .inl t_ds)) :: (h_t_behind, .inl (k_t_behind, 64, .inr (.inl t_behind))) :: (h_t_hand, .inl (k_t_hand, 64, .inl t_hand)) :: R) sz)) (QI D r ((h_t, .inr (12, (.int o_t_thrown :: z_t_1 :: z_t_2 :: .int t_a :: .int t_b :: .int t_root :: .ref h_t_has :: .ref h_t_us :: .ref h_t_vs :: .ref h_t_ds :: z_t_10 :: z_t_11 :: z_t_12 :: z_t_13 :: z_t_14 :: z_t_15 :: z_t_16 :: z_t_17 :: z_t_18 :: z_t_19 :: z_t_20 :: z_t_21 :: z_t_22 :: z_t_23 :: z_t_24 :: .ref h_t_behind :: .ref h_t_hand :: z_t_27 :: z_t_28 :: z_t_29 :: z_t_30 :: z_t_31 :: z_t_32 :: z_t_33 :: z_t_34 :: z_t_35 :: z_t_36 :: z_t_37 :: z_t_38 :: z_t_39 :: z_t_40 :: z_t_41 :: z_t_42 :: z_t_43 :: z_t_44 :: z_t_45 :: z_t_46 :: z_t_47 :: z_t_48 :: z_t_49 :: z_t_50 :: z_t_51 :: z_t_52 :: z_t_53 :: z_t_54 :: z_t_55 :: z_t_56 :: z_t_57 :: z_t_58 :: z_t_59 :: z_t_60 :: []))) :: (h_t_has, .inl (k_t_has, 10, .inl t_has)) :: (h_t_us, .inl (k_t_us, 10, .inl t_us)) :: (h_t_vs, .inl (k_t_vs, 10, .inl t_vs)) :: (h_t_ds, .inl (k_t_ds, 10, .inl t_ds)) :: (h_t_behind, .inl (k_t_behind, 64, .inr (.inl o_t_behind))) :: (h_t_hand, .inl (k_t_hand, 64, .inl o_t_hand)) :: R) (va_A ((h_t, .inr (12, (.int t_thrown :: z_t_1 :: z_t_2 :: .int t_a :: .int t_b :: .int t_root :: .ref h_t_has :: .ref h_t_us :: .ref h_t_vs :: .ref h_t_ds :: z_t_10 :: z_t_11 :: z_t_12 :: z_t_13 :: z_t_14 :: z_t_15 :: z_t_16 :: z_t_17 :: z_t_18 :: z_t_19 :: z_t_20 :: z_t_21 :: z_t_22 :: z_t_23 :: z_t_24 :: .ref h_t_behind :: .ref h_t_hand :: z_t_27 :: z_t_28 :: z_t_29 :: z_t_30 :: z_t_31 :: z_t_32 :: z_t_33 :: z_t_34 :: z_t_35 :: z_t_36 :: z_t_37 :: z_t_38 :: z_t_39 :: z_t_40 :: z_t_41 :: z_t_42 :: z_t_43 :: z_t_44 :: z_t_45 :: z_t_46 :: z_t_47 :: z_t_48 :: z_t_49 :: z_t_50 :: z_t_51 :: z_t_52 :: z_t_53 :: z_t_54 :: z_t_55 :: z_t_56 :: z_t_57 :: z_t_58 :: z_t_59 :: z_t_60 :: []))) :: (h_t_has, .inl (k_t_has, 10, .inl t_has)) :: (h_t_us, .inl (k_t_us, 10, .inl t_us)) :: (h_t_vs, .inl (k_t_vs, 10, .inl t_vs)) :: (h_t_ds, .inl (k_t_ds, 10, .inl t_ds)) :: (h_t_behind, .inl (k_t_behind, 64, .inr (.inl t_behind))) :: (h_t_hand, .inl (k_t_hand, 64, .inl t_hand)) :: R) sz)) 0 0 (va_A ((h_t, .inr (12, (.int t_thrown :: z_t_1 :: z_t_2 :: .int t_a :: .int t_b :: .int t_root :: .ref h_t_has :: .ref h_t_us :: .ref h_t_vs :: .ref h_t_ds :: z_t_10 :: z_t_11 :: z_t_12 :: z_t_13 :: z_t_14 :: z_t_15 :: z_t_16 :: z_t_17 :: z_t_18 :: z_t_19 :: z_t_20 :: z_t_21 :: z_t_22 :: z_t_23 :: z_t_24 :: .ref h_t_behind :: .ref h_t_hand :: z_t_27 :: z_t_28 :: z_t_29 :: z_t_30 :: z_t_31 :: z_t_32 :: z_t_33 :: z_t_34 :: z_t_35 :: z_t_36 :: z_t_37 :: z_t_38 :: z_t_39 :: z_t_40 :: z_t_41 :: z_t_42 :: z_t_43 :: z_t_44 :: z_t_45 :: z_t_46 :: z_t_47 :: z_t_48 :: z_t_49 :: z_t_50 :: z_t_51 :: z_t_52 :: z_t_53 :: z_t_54 :: z_t_55 :: z_t_56 :: z_t_57 :: z_t_58 :: z_t_59 :: z_t_60 :: []))) :: (h_t_has, .inl (k_t_has, 10, .inl t_has)) :: (h_t_us, .inl (k_t_us, 10, .inl t_us)) :: (h_t_vs, .inl (k_t_vs, 10, .inl t_vs)) :: (h_t_ds, .inl (k_t_ds, 10, .inl t_ds)) :: (h_t_behind, .inl (k_t_behind, 64, .inr (.inl t_behind))) :: (h_t_hand, .inl (k_t_hand, 64, .inl t_hand)) :: R) sz) := by
  refine ct_start (QF := fun A => QI D r ((h_t, .inr (12, (.int o_t_thrown :: z_t_1 :: z_t_2 :: .int t_a :: .int t_b :: .int t_root :: .ref h_t_has :: .ref h_t_us :: .ref h_t_vs :: .ref h_t_ds :: z_t_10 :: z_t_11 :: z_t_12 :: z_t_13 :: z_t_14 :: z_t_15 :: z_t_16 :: z_t_17 :: z_t_18 :: z_t_19 :: z_t_20 :: z_t_21 :: z_t_22 :: z_t_23 :: z_t_24 :: .ref h_t_behind :: .ref h_t_hand :: z_t_27 :: z_t_28 :: z_t_29 :: z_t_30 :: z_t_31 :: z_t_32 :: z_t_33 :: z_t_34 :: z_t_35 :: z_t_36 :: z_t_37 :: z_t_38 :: z_t_39 :: z_t_40 :: z_t_41 :: z_t_42 :: z_t_43 :: z_t_44 :: z_t_45 :: z_t_46 :: z_t_47 :: z_t_48 :: z_t_49 :: z_t_50 :: z_t_51 :: z_t_52 :: z_t_53 :: z_t_54 :: z_t_55 :: z_t_56 :: z_t_57 :: z_t_58 :: z_t_59 :: z_t_60 :: []))) :: (h_t_has, .inl (k_t_has, 10, .inl t_has)) :: (h_t_us, .inl (k_t_us, 10, .inl t_us)) :: (h_t_vs, .inl (k_t_vs, 10, .inl t_vs)) :: (h_t_ds, .inl (k_t_ds, 10, .inl t_ds)) :: (h_t_behind, .inl (k_t_behind, 64, .inr (.inl o_t_behind))) :: (h_t_hand, .inl (k_t_hand, 64, .inl o_t_hand)) :: R) A) ?_ ?_ ?_
  · decide +kernel
  · exact Nat.le_of_ble_eq_true rfl
  intro p e s m args below meth c A ls S hr hlk hnm hS hA hP hD hK hN hl
  have S : CallFix p m c cX12_rank 19 s args AL "DigitBenchModel" := S
  have hx := S.1
  have hb := S.2.1
  have hown := S.2.2.2.1
  have ha := S.2.2.2.2
  have hl : lv_has ls 19 [(0, .ref h_t), (1, .int l1)] := hl
  have L71 : ∀ (Q : State → Prop) (n : Nat) (l2 : Int64) (l4 : Int64) (l6 : Int64) (l8 : Int64) (l10 : Int64) (l12 : Int32) (t_thrown : Int32) (t_behind : Nat → Int64) (t_hand : Nat → Int32) (x8 : Int64) (x10 : Int64) (x12 : Int32), f_X12_rank_L71 l2 l4 l6 t_a t_b t_root n l8 l10 l12 = some (x8, x10, x12) → ∀ (H : Heap) (locs : List Loc) (ls : Array Slot), va_P D vwCl ((h_t, .inr (12, (.int t_thrown :: z_t_1 :: z_t_2 :: .int t_a :: .int t_b :: .int t_root :: .ref h_t_has :: .ref h_t_us :: .ref h_t_vs :: .ref h_t_ds :: z_t_10 :: z_t_11 :: z_t_12 :: z_t_13 :: z_t_14 :: z_t_15 :: z_t_16 :: z_t_17 :: z_t_18 :: z_t_19 :: z_t_20 :: z_t_21 :: z_t_22 :: z_t_23 :: z_t_24 :: .ref h_t_behind :: .ref h_t_hand :: z_t_27 :: z_t_28 :: z_t_29 :: z_t_30 :: z_t_31 :: z_t_32 :: z_t_33 :: z_t_34 :: z_t_35 :: z_t_36 :: z_t_37 :: z_t_38 :: z_t_39 :: z_t_40 :: z_t_41 :: z_t_42 :: z_t_43 :: z_t_44 :: z_t_45 :: z_t_46 :: z_t_47 :: z_t_48 :: z_t_49 :: z_t_50 :: z_t_51 :: z_t_52 :: z_t_53 :: z_t_54 :: z_t_55 :: z_t_56 :: z_t_57 :: z_t_58 :: z_t_59 :: z_t_60 :: []))) :: (h_t_has, .inl (k_t_has, 10, .inl t_has)) :: (h_t_us, .inl (k_t_us, 10, .inl t_us)) :: (h_t_vs, .inl (k_t_vs, 10, .inl t_vs)) :: (h_t_ds, .inl (k_t_ds, 10, .inl t_ds)) :: (h_t_behind, .inl (k_t_behind, 64, .inr (.inl t_behind))) :: (h_t_hand, .inl (k_t_hand, 64, .inl t_hand)) :: R) H → va_D A ((h_t, .inr (12, (.int t_thrown :: z_t_1 :: z_t_2 :: .int t_a :: .int t_b :: .int t_root :: .ref h_t_has :: .ref h_t_us :: .ref h_t_vs :: .ref h_t_ds :: z_t_10 :: z_t_11 :: z_t_12 :: z_t_13 :: z_t_14 :: z_t_15 :: z_t_16 :: z_t_17 :: z_t_18 :: z_t_19 :: z_t_20 :: z_t_21 :: z_t_22 :: z_t_23 :: z_t_24 :: .ref h_t_behind :: .ref h_t_hand :: z_t_27 :: z_t_28 :: z_t_29 :: z_t_30 :: z_t_31 :: z_t_32 :: z_t_33 :: z_t_34 :: z_t_35 :: z_t_36 :: z_t_37 :: z_t_38 :: z_t_39 :: z_t_40 :: z_t_41 :: z_t_42 :: z_t_43 :: z_t_44 :: z_t_45 :: z_t_46 :: z_t_47 :: z_t_48 :: z_t_49 :: z_t_50 :: z_t_51 :: z_t_52 :: z_t_53 :: z_t_54 :: z_t_55 :: z_t_56 :: z_t_57 :: z_t_58 :: z_t_59 :: z_t_60 :: []))) :: (h_t_has, .inl (k_t_has, 10, .inl t_has)) :: (h_t_us, .inl (k_t_us, 10, .inl t_us)) :: (h_t_vs, .inl (k_t_vs, 10, .inl t_vs)) :: (h_t_ds, .inl (k_t_ds, 10, .inl t_ds)) :: (h_t_behind, .inl (k_t_behind, 64, .inr (.inl t_behind))) :: (h_t_hand, .inl (k_t_hand, 64, .inl t_hand)) :: R) → va_S A s.heap H locs → lv_has ls 19 [(0, .ref h_t), (2, .long l2), (4, .long l4), (6, .long l6), (8, .long l8), (10, .long l10), (12, .int l12)] → (∀ (H : Heap) (locs : List Loc) (ls : Array Slot), va_P D vwCl ((h_t, .inr (12, (.int t_thrown :: z_t_1 :: z_t_2 :: .int t_a :: .int t_b :: .int t_root :: .ref h_t_has :: .ref h_t_us :: .ref h_t_vs :: .ref h_t_ds :: z_t_10 :: z_t_11 :: z_t_12 :: z_t_13 :: z_t_14 :: z_t_15 :: z_t_16 :: z_t_17 :: z_t_18 :: z_t_19 :: z_t_20 :: z_t_21 :: z_t_22 :: z_t_23 :: z_t_24 :: .ref h_t_behind :: .ref h_t_hand :: z_t_27 :: z_t_28 :: z_t_29 :: z_t_30 :: z_t_31 :: z_t_32 :: z_t_33 :: z_t_34 :: z_t_35 :: z_t_36 :: z_t_37 :: z_t_38 :: z_t_39 :: z_t_40 :: z_t_41 :: z_t_42 :: z_t_43 :: z_t_44 :: z_t_45 :: z_t_46 :: z_t_47 :: z_t_48 :: z_t_49 :: z_t_50 :: z_t_51 :: z_t_52 :: z_t_53 :: z_t_54 :: z_t_55 :: z_t_56 :: z_t_57 :: z_t_58 :: z_t_59 :: z_t_60 :: []))) :: (h_t_has, .inl (k_t_has, 10, .inl t_has)) :: (h_t_us, .inl (k_t_us, 10, .inl t_us)) :: (h_t_vs, .inl (k_t_vs, 10, .inl t_vs)) :: (h_t_ds, .inl (k_t_ds, 10, .inl t_ds)) :: (h_t_behind, .inl (k_t_behind, 64, .inr (.inl t_behind))) :: (h_t_hand, .inl (k_t_hand, 64, .inl t_hand)) :: R) H → va_D A ((h_t, .inr (12, (.int t_thrown :: z_t_1 :: z_t_2 :: .int t_a :: .int t_b :: .int t_root :: .ref h_t_has :: .ref h_t_us :: .ref h_t_vs :: .ref h_t_ds :: z_t_10 :: z_t_11 :: z_t_12 :: z_t_13 :: z_t_14 :: z_t_15 :: z_t_16 :: z_t_17 :: z_t_18 :: z_t_19 :: z_t_20 :: z_t_21 :: z_t_22 :: z_t_23 :: z_t_24 :: .ref h_t_behind :: .ref h_t_hand :: z_t_27 :: z_t_28 :: z_t_29 :: z_t_30 :: z_t_31 :: z_t_32 :: z_t_33 :: z_t_34 :: z_t_35 :: z_t_36 :: z_t_37 :: z_t_38 :: z_t_39 :: z_t_40 :: z_t_41 :: z_t_42 :: z_t_43 :: z_t_44 :: z_t_45 :: z_t_46 :: z_t_47 :: z_t_48 :: z_t_49 :: z_t_50 :: z_t_51 :: z_t_52 :: z_t_53 :: z_t_54 :: z_t_55 :: z_t_56 :: z_t_57 :: z_t_58 :: z_t_59 :: z_t_60 :: []))) :: (h_t_has, .inl (k_t_has, 10, .inl t_has)) :: (h_t_us, .inl (k_t_us, 10, .inl t_us)) :: (h_t_vs, .inl (k_t_vs, 10, .inl t_vs)) :: (h_t_ds, .inl (k_t_ds, 10, .inl t_ds)) :: (h_t_behind, .inl (k_t_behind, 64, .inr (.inl t_behind))) :: (h_t_hand, .inl (k_t_hand, 64, .inl t_hand)) :: R) → va_S A s.heap H locs → lv_has ls 19 [(0, .ref h_t), (2, .long l2), (4, .long l4), (6, .long l6), (8, .long x8), (10, .long x10), (12, .int x12)] → W p l e { frames := 2, cells := 0, slots := 0, locals := 47 } s m args below meth c H locs 0 0 Q (F0 m 141 ls [])) → W p l e { frames := 2, cells := 0, slots := 0, locals := 47 } s m args below meth c H locs 0 0 Q (F0 m 71 ls []) := by
    intro Q n
    induction n with
    | zero =>
      intro l2 l4 l6 l8 l10 l12 t_thrown t_behind t_hand x8 x10 x12 h
      rw [f_X12_rank_L71] at h; cases h
    | succ n ih =>
      intro l2 l4 l6 l8 l10 l12 t_thrown t_behind t_hand x8 x10 x12 h H locs ls hP hD hS hl kk0
      rw [f_X12_rank_L71] at h
      refine lv_aload_n hx hb dX12_rank_71 rfl (lv_at hl 0 rfl) ?_
      refine lv_lload_n hx hb dX12_rank_72 rfl (lv_at hl 1 rfl) ?_
      refine lv_lload hx hb dX12_rank_73 (lv_at hl 5 rfl) ?_
      refine lv_aload_n hx hb dX12_rank_75 rfl (lv_at hl 0 rfl) ?_
      refine va_get (D := D) (ci := 12) (v := .int t_b) (C := RX12) (T := TX12) (N := 61) hx hb ha ix12 hown hK hP 0 rfl rfl 4 (by decide) (ha _ q964) (fun _ h9 => h9) rfl dX12_rank_76 ?_
      refine lv_i2l (v := t_b.toInt64) hx hb dX12_rank_79 rfl ?_
      refine lv_lmul hx hb dX12_rank_80 ?_
      refine lv_lload hx hb dX12_rank_81 (lv_at hl 3 rfl) ?_
      refine lv_lmul hx hb dX12_rank_83 ?_
      refine lv_lsub hx hb dX12_rank_84 ?_
      refine lv_lload hx hb dX12_rank_85 (lv_at hl 2 rfl) ?_
      refine lv_lload hx hb dX12_rank_87 (lv_at hl 4 rfl) ?_
      refine lv_lload hx hb dX12_rank_89 (lv_at hl 5 rfl) ?_
      refine lv_aload_n hx hb dX12_rank_91 rfl (lv_at hl 0 rfl) ?_
      refine va_get (D := D) (ci := 12) (v := .int t_a) (C := RX12) (T := TX12) (N := 61) hx hb ha ix12 hown hK hP 0 rfl rfl 3 (by decide) (ha _ q963) (fun _ h9 => h9) rfl dX12_rank_92 ?_
      refine lv_i2l (v := t_a.toInt64) hx hb dX12_rank_95 rfl ?_
      refine lv_lmul hx hb dX12_rank_96 ?_
      refine lv_ladd hx hb dX12_rank_97 ?_
      refine lv_lload hx hb dX12_rank_98 (lv_at hl 3 rfl) ?_
      refine lv_lmul hx hb dX12_rank_100 ?_
      refine lv_lsub hx hb dX12_rank_101 ?_
      obtain ⟨r_c102_9, e_c102_9, h⟩ := bnd1_ok h
      refine cl_i (rn_v (ci := 12) (As := [.long (l2 - ((l10 * t_b.toInt64) * l6)), .long (l4 - ((l8 + (l10 * t_a.toInt64)) * l6))]) (rest := []) S (c_X12_sign l D ((h_t_has, .inl (k_t_has, 10, .inl t_has)) :: (h_t_us, .inl (k_t_us, 10, .inl t_us)) :: (h_t_vs, .inl (k_t_vs, 10, .inl t_vs)) :: (h_t_ds, .inl (k_t_ds, 10, .inl t_ds)) :: (h_t_behind, .inl (k_t_behind, 64, .inr (.inl t_behind))) :: (h_t_hand, .inl (k_t_hand, 64, .inl t_hand)) :: R) h_t (.int t_thrown) (z_t_1) (z_t_2) t_a (.int t_b) t_root (.ref h_t_has) (.ref h_t_us) (.ref h_t_vs) (.ref h_t_ds) (z_t_10) (z_t_11) (z_t_12) (z_t_13) (z_t_14) (z_t_15) (z_t_16) (z_t_17) (z_t_18) (z_t_19) (z_t_20) (z_t_21) (z_t_22) (z_t_23) (z_t_24) (.ref h_t_behind) (.ref h_t_hand) (z_t_27) (z_t_28) (z_t_29) (z_t_30) (z_t_31) (z_t_32) (z_t_33) (z_t_34) (z_t_35) (z_t_36) (z_t_37) (z_t_38) (z_t_39) (z_t_40) (z_t_41) (z_t_42) (z_t_43) (z_t_44) (z_t_45) (z_t_46) (z_t_47) (z_t_48) (z_t_49) (z_t_50) (z_t_51) (z_t_52) (z_t_53) (z_t_54) (z_t_55) (z_t_56) (z_t_57) (z_t_58) (z_t_59) (z_t_60) (l2 - ((l10 * t_b.toInt64) * l6)) (l4 - ((l8 + (l10 * t_a.toInt64)) * l6)) r_c102_9 e_c102_9 _) q1222 q1224 q35 q61 q1225 nd_X12_sign ⟨Nat.le_of_ble_eq_true rfl, Nat.le_of_ble_eq_true rfl⟩ rfl rfl hP hD (hK.sub (tys' := []) [] rfl) hN rfl ⟨0, _, rfl⟩ rfl hl.1 rfl (Nat.le_of_ble_eq_true rfl) dX12_rank_102 ⟨Nat.le_of_ble_eq_true rfl, Nat.le_of_ble_eq_true rfl⟩) hS hA hD (fun H locs hP hD hS => ?_)
      have hP : va_P D vwCl ((h_t, .inr (12, (.int t_thrown :: z_t_1 :: z_t_2 :: .int t_a :: .int t_b :: .int t_root :: .ref h_t_has :: .ref h_t_us :: .ref h_t_vs :: .ref h_t_ds :: z_t_10 :: z_t_11 :: z_t_12 :: z_t_13 :: z_t_14 :: z_t_15 :: z_t_16 :: z_t_17 :: z_t_18 :: z_t_19 :: z_t_20 :: z_t_21 :: z_t_22 :: z_t_23 :: z_t_24 :: .ref h_t_behind :: .ref h_t_hand :: z_t_27 :: z_t_28 :: z_t_29 :: z_t_30 :: z_t_31 :: z_t_32 :: z_t_33 :: z_t_34 :: z_t_35 :: z_t_36 :: z_t_37 :: z_t_38 :: z_t_39 :: z_t_40 :: z_t_41 :: z_t_42 :: z_t_43 :: z_t_44 :: z_t_45 :: z_t_46 :: z_t_47 :: z_t_48 :: z_t_49 :: z_t_50 :: z_t_51 :: z_t_52 :: z_t_53 :: z_t_54 :: z_t_55 :: z_t_56 :: z_t_57 :: z_t_58 :: z_t_59 :: z_t_60 :: []))) :: (h_t_has, .inl (k_t_has, 10, .inl t_has)) :: (h_t_us, .inl (k_t_us, 10, .inl t_us)) :: (h_t_vs, .inl (k_t_vs, 10, .inl t_vs)) :: (h_t_ds, .inl (k_t_ds, 10, .inl t_ds)) :: (h_t_behind, .inl (k_t_behind, 64, .inr (.inl t_behind))) :: (h_t_hand, .inl (k_t_hand, 64, .inl t_hand)) :: R) H := hP
      have hD : va_D A ((h_t, .inr (12, (.int t_thrown :: z_t_1 :: z_t_2 :: .int t_a :: .int t_b :: .int t_root :: .ref h_t_has :: .ref h_t_us :: .ref h_t_vs :: .ref h_t_ds :: z_t_10 :: z_t_11 :: z_t_12 :: z_t_13 :: z_t_14 :: z_t_15 :: z_t_16 :: z_t_17 :: z_t_18 :: z_t_19 :: z_t_20 :: z_t_21 :: z_t_22 :: z_t_23 :: z_t_24 :: .ref h_t_behind :: .ref h_t_hand :: z_t_27 :: z_t_28 :: z_t_29 :: z_t_30 :: z_t_31 :: z_t_32 :: z_t_33 :: z_t_34 :: z_t_35 :: z_t_36 :: z_t_37 :: z_t_38 :: z_t_39 :: z_t_40 :: z_t_41 :: z_t_42 :: z_t_43 :: z_t_44 :: z_t_45 :: z_t_46 :: z_t_47 :: z_t_48 :: z_t_49 :: z_t_50 :: z_t_51 :: z_t_52 :: z_t_53 :: z_t_54 :: z_t_55 :: z_t_56 :: z_t_57 :: z_t_58 :: z_t_59 :: z_t_60 :: []))) :: (h_t_has, .inl (k_t_has, 10, .inl t_has)) :: (h_t_us, .inl (k_t_us, 10, .inl t_us)) :: (h_t_vs, .inl (k_t_vs, 10, .inl t_vs)) :: (h_t_ds, .inl (k_t_ds, 10, .inl t_ds)) :: (h_t_behind, .inl (k_t_behind, 64, .inr (.inl t_behind))) :: (h_t_hand, .inl (k_t_hand, 64, .inl t_hand)) :: R) := hD
      refine lv_if_lt (tgt := 141) hx hb dX12_rank_105 (by decide) (fun c11 => ?_) (fun c11 => ?_)
      · have h := br_pos c11 h
        cases h
        exact kk0 _ _ _ hP hD hS (lv_sub hl [0, 1, 2, 3, 4, 5, 6] rfl)
      · have h := br_neg c11 h
        refine lv_lload hx hb dX12_rank_108 (lv_at hl 4 rfl) ?_
        refine lv_lstore (lv' := [(13, .long l8), (0, .ref h_t), (2, .long l2), (4, .long l4), (6, .long l6), (8, .long l8), (10, .long l10), (12, .int l12)]) hx hb dX12_rank_110 hl (by decide) rfl (fun ls hl => ?_)
        refine lv_lload hx hb dX12_rank_112 (lv_at hl 6 rfl) ?_
        refine lv_aload_n hx hb dX12_rank_114 rfl (lv_at hl 1 rfl) ?_
        refine va_get (D := D) (ci := 12) (v := .int t_b) (C := RX12) (T := TX12) (N := 61) hx hb ha ix12 hown hK hP 0 rfl rfl 4 (by decide) (ha _ q964) (fun _ h9 => h9) rfl dX12_rank_115 ?_
        refine lv_i2l (v := t_b.toInt64) hx hb dX12_rank_118 rfl ?_
        refine lv_lmul hx hb dX12_rank_119 ?_
        refine lv_lstore (lv' := [(8, .long (l10 * t_b.toInt64)), (13, .long l8), (0, .ref h_t), (2, .long l2), (4, .long l4), (6, .long l6), (10, .long l10), (12, .int l12)]) hx hb dX12_rank_120 hl (by decide) rfl (fun ls hl => ?_)
        refine lv_lload hx hb dX12_rank_122 (lv_at hl 1 rfl) ?_
        refine lv_lload hx hb dX12_rank_124 (lv_at hl 6 rfl) ?_
        refine lv_aload_n hx hb dX12_rank_126 rfl (lv_at hl 2 rfl) ?_
        refine va_get (D := D) (ci := 12) (v := .int t_a) (C := RX12) (T := TX12) (N := 61) hx hb ha ix12 hown hK hP 0 rfl rfl 3 (by decide) (ha _ q963) (fun _ h9 => h9) rfl dX12_rank_127 ?_
        refine lv_i2l (v := t_a.toInt64) hx hb dX12_rank_130 rfl ?_
        refine lv_lmul hx hb dX12_rank_131 ?_
        refine lv_ladd hx hb dX12_rank_132 ?_
        refine lv_lstore (lv' := [(10, .long (l8 + (l10 * t_a.toInt64))), (8, .long (l10 * t_b.toInt64)), (13, .long l8), (0, .ref h_t), (2, .long l2), (4, .long l4), (6, .long l6), (12, .int l12)]) hx hb dX12_rank_133 hl (by decide) rfl (fun ls hl => ?_)
        refine lv_iinc (v := (l12 + 1)) (lv' := [(12, .int (l12 + 1)), (10, .long (l8 + (l10 * t_a.toInt64))), (8, .long (l10 * t_b.toInt64)), (13, .long l8), (0, .ref h_t), (2, .long l2), (4, .long l4), (6, .long l6)]) hx hb dX12_rank_135 hl (k := 7) rfl rfl (by decide) rfl (fun ls hl => ?_)
        refine lv_goto (tgt := 71) hx hb dX12_rank_138 (by decide) ?_
        exact ih l2 l4 l6 (l10 * t_b.toInt64) (l8 + (l10 * t_a.toInt64)) (l12 + 1) t_thrown t_behind t_hand _ _ _ h _ _ _ hP hD hS (lv_sub hl [4, 5, 6, 7, 2, 1, 0] rfl) kk0
  have L155 : ∀ (Q : State → Prop) (n : Nat) (l2 : Int64) (l4 : Int64) (l6 : Int64) (l8 : Int64) (l10 : Int64) (l12 : Int32) (l13 : Int32) (l14 : Int32) (t_thrown : Int32) (t_behind : Nat → Int64) (t_hand : Nat → Int32) (x2 : Int64) (x4 : Int64) (x14 : Int32), f_X12_rank_L155 l6 l8 l10 t_a t_root n l2 l4 l14 = some (x2, x4, x14) → ∀ (H : Heap) (locs : List Loc) (ls : Array Slot), va_P D vwCl ((h_t, .inr (12, (.int t_thrown :: z_t_1 :: z_t_2 :: .int t_a :: .int t_b :: .int t_root :: .ref h_t_has :: .ref h_t_us :: .ref h_t_vs :: .ref h_t_ds :: z_t_10 :: z_t_11 :: z_t_12 :: z_t_13 :: z_t_14 :: z_t_15 :: z_t_16 :: z_t_17 :: z_t_18 :: z_t_19 :: z_t_20 :: z_t_21 :: z_t_22 :: z_t_23 :: z_t_24 :: .ref h_t_behind :: .ref h_t_hand :: z_t_27 :: z_t_28 :: z_t_29 :: z_t_30 :: z_t_31 :: z_t_32 :: z_t_33 :: z_t_34 :: z_t_35 :: z_t_36 :: z_t_37 :: z_t_38 :: z_t_39 :: z_t_40 :: z_t_41 :: z_t_42 :: z_t_43 :: z_t_44 :: z_t_45 :: z_t_46 :: z_t_47 :: z_t_48 :: z_t_49 :: z_t_50 :: z_t_51 :: z_t_52 :: z_t_53 :: z_t_54 :: z_t_55 :: z_t_56 :: z_t_57 :: z_t_58 :: z_t_59 :: z_t_60 :: []))) :: (h_t_has, .inl (k_t_has, 10, .inl t_has)) :: (h_t_us, .inl (k_t_us, 10, .inl t_us)) :: (h_t_vs, .inl (k_t_vs, 10, .inl t_vs)) :: (h_t_ds, .inl (k_t_ds, 10, .inl t_ds)) :: (h_t_behind, .inl (k_t_behind, 64, .inr (.inl t_behind))) :: (h_t_hand, .inl (k_t_hand, 64, .inl t_hand)) :: R) H → va_D A ((h_t, .inr (12, (.int t_thrown :: z_t_1 :: z_t_2 :: .int t_a :: .int t_b :: .int t_root :: .ref h_t_has :: .ref h_t_us :: .ref h_t_vs :: .ref h_t_ds :: z_t_10 :: z_t_11 :: z_t_12 :: z_t_13 :: z_t_14 :: z_t_15 :: z_t_16 :: z_t_17 :: z_t_18 :: z_t_19 :: z_t_20 :: z_t_21 :: z_t_22 :: z_t_23 :: z_t_24 :: .ref h_t_behind :: .ref h_t_hand :: z_t_27 :: z_t_28 :: z_t_29 :: z_t_30 :: z_t_31 :: z_t_32 :: z_t_33 :: z_t_34 :: z_t_35 :: z_t_36 :: z_t_37 :: z_t_38 :: z_t_39 :: z_t_40 :: z_t_41 :: z_t_42 :: z_t_43 :: z_t_44 :: z_t_45 :: z_t_46 :: z_t_47 :: z_t_48 :: z_t_49 :: z_t_50 :: z_t_51 :: z_t_52 :: z_t_53 :: z_t_54 :: z_t_55 :: z_t_56 :: z_t_57 :: z_t_58 :: z_t_59 :: z_t_60 :: []))) :: (h_t_has, .inl (k_t_has, 10, .inl t_has)) :: (h_t_us, .inl (k_t_us, 10, .inl t_us)) :: (h_t_vs, .inl (k_t_vs, 10, .inl t_vs)) :: (h_t_ds, .inl (k_t_ds, 10, .inl t_ds)) :: (h_t_behind, .inl (k_t_behind, 64, .inr (.inl t_behind))) :: (h_t_hand, .inl (k_t_hand, 64, .inl t_hand)) :: R) → va_S A s.heap H locs → lv_has ls 19 [(0, .ref h_t), (2, .long l2), (4, .long l4), (6, .long l6), (8, .long l8), (10, .long l10), (12, .int l12), (13, .int l13), (14, .int l14)] → (∀ (H : Heap) (locs : List Loc) (ls : Array Slot), va_P D vwCl ((h_t, .inr (12, (.int t_thrown :: z_t_1 :: z_t_2 :: .int t_a :: .int t_b :: .int t_root :: .ref h_t_has :: .ref h_t_us :: .ref h_t_vs :: .ref h_t_ds :: z_t_10 :: z_t_11 :: z_t_12 :: z_t_13 :: z_t_14 :: z_t_15 :: z_t_16 :: z_t_17 :: z_t_18 :: z_t_19 :: z_t_20 :: z_t_21 :: z_t_22 :: z_t_23 :: z_t_24 :: .ref h_t_behind :: .ref h_t_hand :: z_t_27 :: z_t_28 :: z_t_29 :: z_t_30 :: z_t_31 :: z_t_32 :: z_t_33 :: z_t_34 :: z_t_35 :: z_t_36 :: z_t_37 :: z_t_38 :: z_t_39 :: z_t_40 :: z_t_41 :: z_t_42 :: z_t_43 :: z_t_44 :: z_t_45 :: z_t_46 :: z_t_47 :: z_t_48 :: z_t_49 :: z_t_50 :: z_t_51 :: z_t_52 :: z_t_53 :: z_t_54 :: z_t_55 :: z_t_56 :: z_t_57 :: z_t_58 :: z_t_59 :: z_t_60 :: []))) :: (h_t_has, .inl (k_t_has, 10, .inl t_has)) :: (h_t_us, .inl (k_t_us, 10, .inl t_us)) :: (h_t_vs, .inl (k_t_vs, 10, .inl t_vs)) :: (h_t_ds, .inl (k_t_ds, 10, .inl t_ds)) :: (h_t_behind, .inl (k_t_behind, 64, .inr (.inl t_behind))) :: (h_t_hand, .inl (k_t_hand, 64, .inl t_hand)) :: R) H → va_D A ((h_t, .inr (12, (.int t_thrown :: z_t_1 :: z_t_2 :: .int t_a :: .int t_b :: .int t_root :: .ref h_t_has :: .ref h_t_us :: .ref h_t_vs :: .ref h_t_ds :: z_t_10 :: z_t_11 :: z_t_12 :: z_t_13 :: z_t_14 :: z_t_15 :: z_t_16 :: z_t_17 :: z_t_18 :: z_t_19 :: z_t_20 :: z_t_21 :: z_t_22 :: z_t_23 :: z_t_24 :: .ref h_t_behind :: .ref h_t_hand :: z_t_27 :: z_t_28 :: z_t_29 :: z_t_30 :: z_t_31 :: z_t_32 :: z_t_33 :: z_t_34 :: z_t_35 :: z_t_36 :: z_t_37 :: z_t_38 :: z_t_39 :: z_t_40 :: z_t_41 :: z_t_42 :: z_t_43 :: z_t_44 :: z_t_45 :: z_t_46 :: z_t_47 :: z_t_48 :: z_t_49 :: z_t_50 :: z_t_51 :: z_t_52 :: z_t_53 :: z_t_54 :: z_t_55 :: z_t_56 :: z_t_57 :: z_t_58 :: z_t_59 :: z_t_60 :: []))) :: (h_t_has, .inl (k_t_has, 10, .inl t_has)) :: (h_t_us, .inl (k_t_us, 10, .inl t_us)) :: (h_t_vs, .inl (k_t_vs, 10, .inl t_vs)) :: (h_t_ds, .inl (k_t_ds, 10, .inl t_ds)) :: (h_t_behind, .inl (k_t_behind, 64, .inr (.inl t_behind))) :: (h_t_hand, .inl (k_t_hand, 64, .inl t_hand)) :: R) → va_S A s.heap H locs → lv_has ls 19 [(0, .ref h_t), (2, .long x2), (4, .long x4), (6, .long l6), (8, .long l8), (10, .long l10), (12, .int l12), (13, .int l13), (14, .int x14)] → W p l e { frames := 2, cells := 0, slots := 0, locals := 47 } s m args below meth c H locs 0 0 Q (F0 m 201 ls [])) → W p l e { frames := 2, cells := 0, slots := 0, locals := 47 } s m args below meth c H locs 0 0 Q (F0 m 155 ls []) := by
    intro Q n
    induction n with
    | zero =>
      intro l2 l4 l6 l8 l10 l12 l13 l14 t_thrown t_behind t_hand x2 x4 x14 h
      rw [f_X12_rank_L155] at h; cases h
    | succ n ih =>
      intro l2 l4 l6 l8 l10 l12 l13 l14 t_thrown t_behind t_hand x2 x4 x14 h H locs ls hP hD hS hl kk0
      rw [f_X12_rank_L155] at h
      refine lv_aload_n hx hb dX12_rank_155 rfl (lv_at hl 0 rfl) ?_
      refine lv_lload_n hx hb dX12_rank_156 rfl (lv_at hl 1 rfl) ?_
      refine lv_lload hx hb dX12_rank_157 (lv_at hl 4 rfl) ?_
      refine lv_lload hx hb dX12_rank_159 (lv_at hl 3 rfl) ?_
      refine lv_lmul hx hb dX12_rank_161 ?_
      refine lv_lsub hx hb dX12_rank_162 ?_
      refine lv_lload hx hb dX12_rank_163 (lv_at hl 2 rfl) ?_
      refine lv_lload hx hb dX12_rank_165 (lv_at hl 5 rfl) ?_
      refine lv_lload hx hb dX12_rank_167 (lv_at hl 3 rfl) ?_
      refine lv_lmul hx hb dX12_rank_169 ?_
      refine lv_lsub hx hb dX12_rank_170 ?_
      obtain ⟨r_c171_13, e_c171_13, h⟩ := bnd1_ok h
      refine cl_i (rn_v (ci := 12) (As := [.long (l2 - (l8 * l6)), .long (l4 - (l10 * l6))]) (rest := []) S (c_X12_sign l D ((h_t_has, .inl (k_t_has, 10, .inl t_has)) :: (h_t_us, .inl (k_t_us, 10, .inl t_us)) :: (h_t_vs, .inl (k_t_vs, 10, .inl t_vs)) :: (h_t_ds, .inl (k_t_ds, 10, .inl t_ds)) :: (h_t_behind, .inl (k_t_behind, 64, .inr (.inl t_behind))) :: (h_t_hand, .inl (k_t_hand, 64, .inl t_hand)) :: R) h_t (.int t_thrown) (z_t_1) (z_t_2) t_a (.int t_b) t_root (.ref h_t_has) (.ref h_t_us) (.ref h_t_vs) (.ref h_t_ds) (z_t_10) (z_t_11) (z_t_12) (z_t_13) (z_t_14) (z_t_15) (z_t_16) (z_t_17) (z_t_18) (z_t_19) (z_t_20) (z_t_21) (z_t_22) (z_t_23) (z_t_24) (.ref h_t_behind) (.ref h_t_hand) (z_t_27) (z_t_28) (z_t_29) (z_t_30) (z_t_31) (z_t_32) (z_t_33) (z_t_34) (z_t_35) (z_t_36) (z_t_37) (z_t_38) (z_t_39) (z_t_40) (z_t_41) (z_t_42) (z_t_43) (z_t_44) (z_t_45) (z_t_46) (z_t_47) (z_t_48) (z_t_49) (z_t_50) (z_t_51) (z_t_52) (z_t_53) (z_t_54) (z_t_55) (z_t_56) (z_t_57) (z_t_58) (z_t_59) (z_t_60) (l2 - (l8 * l6)) (l4 - (l10 * l6)) r_c171_13 e_c171_13 _) q1222 q1224 q35 q61 q1225 nd_X12_sign ⟨Nat.le_of_ble_eq_true rfl, Nat.le_of_ble_eq_true rfl⟩ rfl rfl hP hD (hK.sub (tys' := []) [] rfl) hN rfl ⟨0, _, rfl⟩ rfl hl.1 rfl (Nat.le_of_ble_eq_true rfl) dX12_rank_171 ⟨Nat.le_of_ble_eq_true rfl, Nat.le_of_ble_eq_true rfl⟩) hS hA hD (fun H locs hP hD hS => ?_)
      have hP : va_P D vwCl ((h_t, .inr (12, (.int t_thrown :: z_t_1 :: z_t_2 :: .int t_a :: .int t_b :: .int t_root :: .ref h_t_has :: .ref h_t_us :: .ref h_t_vs :: .ref h_t_ds :: z_t_10 :: z_t_11 :: z_t_12 :: z_t_13 :: z_t_14 :: z_t_15 :: z_t_16 :: z_t_17 :: z_t_18 :: z_t_19 :: z_t_20 :: z_t_21 :: z_t_22 :: z_t_23 :: z_t_24 :: .ref h_t_behind :: .ref h_t_hand :: z_t_27 :: z_t_28 :: z_t_29 :: z_t_30 :: z_t_31 :: z_t_32 :: z_t_33 :: z_t_34 :: z_t_35 :: z_t_36 :: z_t_37 :: z_t_38 :: z_t_39 :: z_t_40 :: z_t_41 :: z_t_42 :: z_t_43 :: z_t_44 :: z_t_45 :: z_t_46 :: z_t_47 :: z_t_48 :: z_t_49 :: z_t_50 :: z_t_51 :: z_t_52 :: z_t_53 :: z_t_54 :: z_t_55 :: z_t_56 :: z_t_57 :: z_t_58 :: z_t_59 :: z_t_60 :: []))) :: (h_t_has, .inl (k_t_has, 10, .inl t_has)) :: (h_t_us, .inl (k_t_us, 10, .inl t_us)) :: (h_t_vs, .inl (k_t_vs, 10, .inl t_vs)) :: (h_t_ds, .inl (k_t_ds, 10, .inl t_ds)) :: (h_t_behind, .inl (k_t_behind, 64, .inr (.inl t_behind))) :: (h_t_hand, .inl (k_t_hand, 64, .inl t_hand)) :: R) H := hP
      have hD : va_D A ((h_t, .inr (12, (.int t_thrown :: z_t_1 :: z_t_2 :: .int t_a :: .int t_b :: .int t_root :: .ref h_t_has :: .ref h_t_us :: .ref h_t_vs :: .ref h_t_ds :: z_t_10 :: z_t_11 :: z_t_12 :: z_t_13 :: z_t_14 :: z_t_15 :: z_t_16 :: z_t_17 :: z_t_18 :: z_t_19 :: z_t_20 :: z_t_21 :: z_t_22 :: z_t_23 :: z_t_24 :: .ref h_t_behind :: .ref h_t_hand :: z_t_27 :: z_t_28 :: z_t_29 :: z_t_30 :: z_t_31 :: z_t_32 :: z_t_33 :: z_t_34 :: z_t_35 :: z_t_36 :: z_t_37 :: z_t_38 :: z_t_39 :: z_t_40 :: z_t_41 :: z_t_42 :: z_t_43 :: z_t_44 :: z_t_45 :: z_t_46 :: z_t_47 :: z_t_48 :: z_t_49 :: z_t_50 :: z_t_51 :: z_t_52 :: z_t_53 :: z_t_54 :: z_t_55 :: z_t_56 :: z_t_57 :: z_t_58 :: z_t_59 :: z_t_60 :: []))) :: (h_t_has, .inl (k_t_has, 10, .inl t_has)) :: (h_t_us, .inl (k_t_us, 10, .inl t_us)) :: (h_t_vs, .inl (k_t_vs, 10, .inl t_vs)) :: (h_t_ds, .inl (k_t_ds, 10, .inl t_ds)) :: (h_t_behind, .inl (k_t_behind, 64, .inr (.inl t_behind))) :: (h_t_hand, .inl (k_t_hand, 64, .inl t_hand)) :: R) := hD
      refine lv_if_lt (tgt := 201) hx hb dX12_rank_174 (by decide) (fun c15 => ?_) (fun c15 => ?_)
      · have h := br_pos c15 h
        cases h
        exact kk0 _ _ _ hP hD hS (lv_sub hl [0, 1, 2, 3, 4, 5, 6, 7, 8] rfl)
      · have h := br_neg c15 h
        refine lv_lload_n hx hb dX12_rank_177 rfl (lv_at hl 1 rfl) ?_
        refine lv_lload hx hb dX12_rank_178 (lv_at hl 4 rfl) ?_
        refine lv_lload hx hb dX12_rank_180 (lv_at hl 3 rfl) ?_
        refine lv_lmul hx hb dX12_rank_182 ?_
        refine lv_lsub hx hb dX12_rank_183 ?_
        refine lv_lstore_n (lv' := [(2, .long (l2 - (l8 * l6))), (0, .ref h_t), (4, .long l4), (6, .long l6), (8, .long l8), (10, .long l10), (12, .int l12), (13, .int l13), (14, .int l14)]) hx hb dX12_rank_184 rfl hl (by decide) rfl (fun ls hl => ?_)
        refine lv_lload hx hb dX12_rank_185 (lv_at hl 2 rfl) ?_
        refine lv_lload hx hb dX12_rank_187 (lv_at hl 5 rfl) ?_
        refine lv_lload hx hb dX12_rank_189 (lv_at hl 3 rfl) ?_
        refine lv_lmul hx hb dX12_rank_191 ?_
        refine lv_lsub hx hb dX12_rank_192 ?_
        refine lv_lstore (lv' := [(4, .long (l4 - (l10 * l6))), (2, .long (l2 - (l8 * l6))), (0, .ref h_t), (6, .long l6), (8, .long l8), (10, .long l10), (12, .int l12), (13, .int l13), (14, .int l14)]) hx hb dX12_rank_193 hl (by decide) rfl (fun ls hl => ?_)
        refine lv_iinc (v := (l14 + 1)) (lv' := [(14, .int (l14 + 1)), (4, .long (l4 - (l10 * l6))), (2, .long (l2 - (l8 * l6))), (0, .ref h_t), (6, .long l6), (8, .long l8), (10, .long l10), (12, .int l12), (13, .int l13)]) hx hb dX12_rank_195 hl (k := 8) rfl rfl (by decide) rfl (fun ls hl => ?_)
        refine lv_goto (tgt := 155) hx hb dX12_rank_198 (by decide) ?_
        exact ih (l2 - (l8 * l6)) (l4 - (l10 * l6)) l6 l8 l10 l12 l13 (l14 + 1) t_thrown t_behind t_hand _ _ _ h _ _ _ hP hD hS (lv_sub hl [3, 2, 1, 4, 5, 6, 7, 8, 0] rfl) kk0
  have L147 : ∀ (Q : State → Prop) (n : Nat) (l2 : Int64) (l4 : Int64) (l6 : Int64) (l8 : Int64) (l10 : Int64) (l12 : Int32) (l13 : Int32) (t_thrown : Int32) (t_behind : Nat → Int64) (t_hand : Nat → Int32) (x2 : Int64) (x4 : Int64) (x_t_hand : Nat → Int32), f_X12_rank_L147 l6 l13 t_a t_b t_root n l2 l4 l8 l10 l12 t_hand = some (x2, x4, x_t_hand) → ∀ (H : Heap) (locs : List Loc) (ls : Array Slot), va_P D vwCl ((h_t, .inr (12, (.int t_thrown :: z_t_1 :: z_t_2 :: .int t_a :: .int t_b :: .int t_root :: .ref h_t_has :: .ref h_t_us :: .ref h_t_vs :: .ref h_t_ds :: z_t_10 :: z_t_11 :: z_t_12 :: z_t_13 :: z_t_14 :: z_t_15 :: z_t_16 :: z_t_17 :: z_t_18 :: z_t_19 :: z_t_20 :: z_t_21 :: z_t_22 :: z_t_23 :: z_t_24 :: .ref h_t_behind :: .ref h_t_hand :: z_t_27 :: z_t_28 :: z_t_29 :: z_t_30 :: z_t_31 :: z_t_32 :: z_t_33 :: z_t_34 :: z_t_35 :: z_t_36 :: z_t_37 :: z_t_38 :: z_t_39 :: z_t_40 :: z_t_41 :: z_t_42 :: z_t_43 :: z_t_44 :: z_t_45 :: z_t_46 :: z_t_47 :: z_t_48 :: z_t_49 :: z_t_50 :: z_t_51 :: z_t_52 :: z_t_53 :: z_t_54 :: z_t_55 :: z_t_56 :: z_t_57 :: z_t_58 :: z_t_59 :: z_t_60 :: []))) :: (h_t_has, .inl (k_t_has, 10, .inl t_has)) :: (h_t_us, .inl (k_t_us, 10, .inl t_us)) :: (h_t_vs, .inl (k_t_vs, 10, .inl t_vs)) :: (h_t_ds, .inl (k_t_ds, 10, .inl t_ds)) :: (h_t_behind, .inl (k_t_behind, 64, .inr (.inl t_behind))) :: (h_t_hand, .inl (k_t_hand, 64, .inl t_hand)) :: R) H → va_D A ((h_t, .inr (12, (.int t_thrown :: z_t_1 :: z_t_2 :: .int t_a :: .int t_b :: .int t_root :: .ref h_t_has :: .ref h_t_us :: .ref h_t_vs :: .ref h_t_ds :: z_t_10 :: z_t_11 :: z_t_12 :: z_t_13 :: z_t_14 :: z_t_15 :: z_t_16 :: z_t_17 :: z_t_18 :: z_t_19 :: z_t_20 :: z_t_21 :: z_t_22 :: z_t_23 :: z_t_24 :: .ref h_t_behind :: .ref h_t_hand :: z_t_27 :: z_t_28 :: z_t_29 :: z_t_30 :: z_t_31 :: z_t_32 :: z_t_33 :: z_t_34 :: z_t_35 :: z_t_36 :: z_t_37 :: z_t_38 :: z_t_39 :: z_t_40 :: z_t_41 :: z_t_42 :: z_t_43 :: z_t_44 :: z_t_45 :: z_t_46 :: z_t_47 :: z_t_48 :: z_t_49 :: z_t_50 :: z_t_51 :: z_t_52 :: z_t_53 :: z_t_54 :: z_t_55 :: z_t_56 :: z_t_57 :: z_t_58 :: z_t_59 :: z_t_60 :: []))) :: (h_t_has, .inl (k_t_has, 10, .inl t_has)) :: (h_t_us, .inl (k_t_us, 10, .inl t_us)) :: (h_t_vs, .inl (k_t_vs, 10, .inl t_vs)) :: (h_t_ds, .inl (k_t_ds, 10, .inl t_ds)) :: (h_t_behind, .inl (k_t_behind, 64, .inr (.inl t_behind))) :: (h_t_hand, .inl (k_t_hand, 64, .inl t_hand)) :: R) → va_S A s.heap H locs → lv_has ls 19 [(0, .ref h_t), (2, .long l2), (4, .long l4), (6, .long l6), (8, .long l8), (10, .long l10), (12, .int l12), (13, .int l13)] → (∀ (H : Heap) (locs : List Loc) (ls : Array Slot), va_P D vwCl ((h_t, .inr (12, (.int t_thrown :: z_t_1 :: z_t_2 :: .int t_a :: .int t_b :: .int t_root :: .ref h_t_has :: .ref h_t_us :: .ref h_t_vs :: .ref h_t_ds :: z_t_10 :: z_t_11 :: z_t_12 :: z_t_13 :: z_t_14 :: z_t_15 :: z_t_16 :: z_t_17 :: z_t_18 :: z_t_19 :: z_t_20 :: z_t_21 :: z_t_22 :: z_t_23 :: z_t_24 :: .ref h_t_behind :: .ref h_t_hand :: z_t_27 :: z_t_28 :: z_t_29 :: z_t_30 :: z_t_31 :: z_t_32 :: z_t_33 :: z_t_34 :: z_t_35 :: z_t_36 :: z_t_37 :: z_t_38 :: z_t_39 :: z_t_40 :: z_t_41 :: z_t_42 :: z_t_43 :: z_t_44 :: z_t_45 :: z_t_46 :: z_t_47 :: z_t_48 :: z_t_49 :: z_t_50 :: z_t_51 :: z_t_52 :: z_t_53 :: z_t_54 :: z_t_55 :: z_t_56 :: z_t_57 :: z_t_58 :: z_t_59 :: z_t_60 :: []))) :: (h_t_has, .inl (k_t_has, 10, .inl t_has)) :: (h_t_us, .inl (k_t_us, 10, .inl t_us)) :: (h_t_vs, .inl (k_t_vs, 10, .inl t_vs)) :: (h_t_ds, .inl (k_t_ds, 10, .inl t_ds)) :: (h_t_behind, .inl (k_t_behind, 64, .inr (.inl t_behind))) :: (h_t_hand, .inl (k_t_hand, 64, .inl x_t_hand)) :: R) H → va_D A ((h_t, .inr (12, (.int t_thrown :: z_t_1 :: z_t_2 :: .int t_a :: .int t_b :: .int t_root :: .ref h_t_has :: .ref h_t_us :: .ref h_t_vs :: .ref h_t_ds :: z_t_10 :: z_t_11 :: z_t_12 :: z_t_13 :: z_t_14 :: z_t_15 :: z_t_16 :: z_t_17 :: z_t_18 :: z_t_19 :: z_t_20 :: z_t_21 :: z_t_22 :: z_t_23 :: z_t_24 :: .ref h_t_behind :: .ref h_t_hand :: z_t_27 :: z_t_28 :: z_t_29 :: z_t_30 :: z_t_31 :: z_t_32 :: z_t_33 :: z_t_34 :: z_t_35 :: z_t_36 :: z_t_37 :: z_t_38 :: z_t_39 :: z_t_40 :: z_t_41 :: z_t_42 :: z_t_43 :: z_t_44 :: z_t_45 :: z_t_46 :: z_t_47 :: z_t_48 :: z_t_49 :: z_t_50 :: z_t_51 :: z_t_52 :: z_t_53 :: z_t_54 :: z_t_55 :: z_t_56 :: z_t_57 :: z_t_58 :: z_t_59 :: z_t_60 :: []))) :: (h_t_has, .inl (k_t_has, 10, .inl t_has)) :: (h_t_us, .inl (k_t_us, 10, .inl t_us)) :: (h_t_vs, .inl (k_t_vs, 10, .inl t_vs)) :: (h_t_ds, .inl (k_t_ds, 10, .inl t_ds)) :: (h_t_behind, .inl (k_t_behind, 64, .inr (.inl t_behind))) :: (h_t_hand, .inl (k_t_hand, 64, .inl x_t_hand)) :: R) → va_S A s.heap H locs → lv_has ls 19 [(0, .ref h_t), (2, .long x2), (4, .long x4), (13, .int l13)] → W p l e { frames := 2, cells := 0, slots := 0, locals := 47 } s m args below meth c H locs 0 0 Q (F0 m 254 ls [])) → W p l e { frames := 2, cells := 0, slots := 0, locals := 47 } s m args below meth c H locs 0 0 Q (F0 m 147 ls []) := by
    intro Q n
    induction n with
    | zero =>
      intro l2 l4 l6 l8 l10 l12 l13 t_thrown t_behind t_hand x2 x4 x_t_hand h
      rw [f_X12_rank_L147] at h; cases h
    | succ n ih =>
      intro l2 l4 l6 l8 l10 l12 l13 t_thrown t_behind t_hand x2 x4 x_t_hand h H locs ls hP hD hS hl kk0
      rw [f_X12_rank_L147] at h
      refine lv_iload hx hb dX12_rank_147 (lv_at hl 6 rfl) ?_
      refine lv_if_lt (tgt := 254) hx hb dX12_rank_149 (by decide) (fun c13 => ?_) (fun c13 => ?_)
      · have h := br_pos c13 h
        cases h
        exact kk0 _ _ _ hP hD hS (lv_sub hl [0, 1, 2, 7] rfl)
      · have h := br_neg c13 h
        refine lv_iconst (v := 0) hx hb dX12_rank_152 (by decide) ?_
        refine lv_istore (lv' := [(14, .int 0), (0, .ref h_t), (2, .long l2), (4, .long l4), (6, .long l6), (8, .long l8), (10, .long l10), (12, .int l12), (13, .int l13)]) hx hb dX12_rank_153 hl (by decide) rfl (fun ls hl => ?_)
        obtain ⟨x2_L155_15, x4_L155_15, x14_L155_15, e_L155_15, h⟩ := bnd3_ok h
        refine L155 _ _ l2 l4 l6 l8 l10 l12 l13 0 t_thrown t_behind t_hand x2_L155_15 x4_L155_15 x14_L155_15 e_L155_15 _ _ _ hP hD hS (lv_sub hl [1, 2, 3, 4, 5, 6, 7, 8, 0] rfl) ?_
        intro H locs ls hP hD hS hl
        refine lv_aload_n hx hb dX12_rank_201 rfl (lv_at hl 0 rfl) ?_
        refine va_get (D := D) (ci := 12) (v := .ref h_t_hand) (C := RX12) (T := TX12) (N := 61) hx hb ha ix12 hown hK hP 0 rfl rfl 26 (by decide) (ha _ q986) (fun _ h9 => h9) rfl dX12_rank_202 ?_
        refine lv_iload hx hb dX12_rank_205 (lv_at hl 7 rfl) ?_
        refine lv_iconst (v := 1) hx hb dX12_rank_207 (by decide) ?_
        refine lv_isub hx hb dX12_rank_208 ?_
        refine lv_iload hx hb dX12_rank_209 (lv_at hl 6 rfl) ?_
        refine lv_isub hx hb dX12_rank_211 ?_
        refine lv_iload hx hb dX12_rank_212 (lv_at hl 8 rfl) ?_
        obtain ⟨i17, h⟩ := ix_ok h
        refine va_iast hx hb hK hP hD hS 6 5 rfl rfl i17 dX12_rank_214 (fun H locs hP hD hS => ?_)
        have hP : va_P D vwCl ((h_t, .inr (12, (.int t_thrown :: z_t_1 :: z_t_2 :: .int t_a :: .int t_b :: .int t_root :: .ref h_t_has :: .ref h_t_us :: .ref h_t_vs :: .ref h_t_ds :: z_t_10 :: z_t_11 :: z_t_12 :: z_t_13 :: z_t_14 :: z_t_15 :: z_t_16 :: z_t_17 :: z_t_18 :: z_t_19 :: z_t_20 :: z_t_21 :: z_t_22 :: z_t_23 :: z_t_24 :: .ref h_t_behind :: .ref h_t_hand :: z_t_27 :: z_t_28 :: z_t_29 :: z_t_30 :: z_t_31 :: z_t_32 :: z_t_33 :: z_t_34 :: z_t_35 :: z_t_36 :: z_t_37 :: z_t_38 :: z_t_39 :: z_t_40 :: z_t_41 :: z_t_42 :: z_t_43 :: z_t_44 :: z_t_45 :: z_t_46 :: z_t_47 :: z_t_48 :: z_t_49 :: z_t_50 :: z_t_51 :: z_t_52 :: z_t_53 :: z_t_54 :: z_t_55 :: z_t_56 :: z_t_57 :: z_t_58 :: z_t_59 :: z_t_60 :: []))) :: (h_t_has, .inl (k_t_has, 10, .inl t_has)) :: (h_t_us, .inl (k_t_us, 10, .inl t_us)) :: (h_t_vs, .inl (k_t_vs, 10, .inl t_vs)) :: (h_t_ds, .inl (k_t_ds, 10, .inl t_ds)) :: (h_t_behind, .inl (k_t_behind, 64, .inr (.inl t_behind))) :: (h_t_hand, .inl (k_t_hand, 64, .inl (upd t_hand ((l13 - 1) - l12).toNatClampNeg x14_L155_15))) :: R) H := hP
        have hD : va_D A ((h_t, .inr (12, (.int t_thrown :: z_t_1 :: z_t_2 :: .int t_a :: .int t_b :: .int t_root :: .ref h_t_has :: .ref h_t_us :: .ref h_t_vs :: .ref h_t_ds :: z_t_10 :: z_t_11 :: z_t_12 :: z_t_13 :: z_t_14 :: z_t_15 :: z_t_16 :: z_t_17 :: z_t_18 :: z_t_19 :: z_t_20 :: z_t_21 :: z_t_22 :: z_t_23 :: z_t_24 :: .ref h_t_behind :: .ref h_t_hand :: z_t_27 :: z_t_28 :: z_t_29 :: z_t_30 :: z_t_31 :: z_t_32 :: z_t_33 :: z_t_34 :: z_t_35 :: z_t_36 :: z_t_37 :: z_t_38 :: z_t_39 :: z_t_40 :: z_t_41 :: z_t_42 :: z_t_43 :: z_t_44 :: z_t_45 :: z_t_46 :: z_t_47 :: z_t_48 :: z_t_49 :: z_t_50 :: z_t_51 :: z_t_52 :: z_t_53 :: z_t_54 :: z_t_55 :: z_t_56 :: z_t_57 :: z_t_58 :: z_t_59 :: z_t_60 :: []))) :: (h_t_has, .inl (k_t_has, 10, .inl t_has)) :: (h_t_us, .inl (k_t_us, 10, .inl t_us)) :: (h_t_vs, .inl (k_t_vs, 10, .inl t_vs)) :: (h_t_ds, .inl (k_t_ds, 10, .inl t_ds)) :: (h_t_behind, .inl (k_t_behind, 64, .inr (.inl t_behind))) :: (h_t_hand, .inl (k_t_hand, 64, .inl (upd t_hand ((l13 - 1) - l12).toNatClampNeg x14_L155_15))) :: R) := hD
        refine lv_lload hx hb dX12_rank_215 (lv_at hl 4 rfl) ?_
        refine lv_lstore (lv' := [(15, .long l8), (0, .ref h_t), (2, .long x2_L155_15), (4, .long x4_L155_15), (6, .long l6), (8, .long l8), (10, .long l10), (12, .int l12), (13, .int l13), (14, .int x14_L155_15)]) hx hb dX12_rank_217 hl (by decide) rfl (fun ls hl => ?_)
        refine lv_lload hx hb dX12_rank_219 (lv_at hl 6 rfl) ?_
        refine lv_aload_n hx hb dX12_rank_221 rfl (lv_at hl 1 rfl) ?_
        refine va_get (D := D) (ci := 12) (v := .int t_a) (C := RX12) (T := TX12) (N := 61) hx hb ha ix12 hown hK hP 0 rfl rfl 3 (by decide) (ha _ q963) (fun _ h9 => h9) rfl dX12_rank_222 ?_
        refine lv_i2l (v := t_a.toInt64) hx hb dX12_rank_225 rfl ?_
        refine lv_lload hx hb dX12_rank_226 (lv_at hl 0 rfl) ?_
        refine lv_aload_n hx hb dX12_rank_228 rfl (lv_at hl 1 rfl) ?_
        refine va_get (D := D) (ci := 12) (v := .int t_b) (C := RX12) (T := TX12) (N := 61) hx hb ha ix12 hown hK hP 0 rfl rfl 4 (by decide) (ha _ q964) (fun _ h9 => h9) rfl dX12_rank_229 ?_
        refine lv_i2l (v := t_b.toInt64) hx hb dX12_rank_232 rfl ?_
        obtain ⟨n18, h⟩ := nzL_ok h
        refine lv_ldiv hx hb dX12_rank_233 n18 ?_
        refine lv_lmul hx hb dX12_rank_234 ?_
        refine lv_lsub hx hb dX12_rank_235 ?_
        refine lv_lstore (lv' := [(8, .long (l10 - (t_a.toInt64 * (l8 / t_b.toInt64)))), (15, .long l8), (0, .ref h_t), (2, .long x2_L155_15), (4, .long x4_L155_15), (6, .long l6), (10, .long l10), (12, .int l12), (13, .int l13), (14, .int x14_L155_15)]) hx hb dX12_rank_236 hl (by decide) rfl (fun ls hl => ?_)
        refine lv_lload hx hb dX12_rank_238 (lv_at hl 1 rfl) ?_
        refine lv_aload_n hx hb dX12_rank_240 rfl (lv_at hl 2 rfl) ?_
        refine va_get (D := D) (ci := 12) (v := .int t_b) (C := RX12) (T := TX12) (N := 61) hx hb ha ix12 hown hK hP 0 rfl rfl 4 (by decide) (ha _ q964) (fun _ h9 => h9) rfl dX12_rank_241 ?_
        refine lv_i2l (v := t_b.toInt64) hx hb dX12_rank_244 rfl ?_
        obtain ⟨n19, h⟩ := nzL_ok h
        refine lv_ldiv hx hb dX12_rank_245 n19 ?_
        refine lv_lstore (lv' := [(10, .long (l8 / t_b.toInt64)), (8, .long (l10 - (t_a.toInt64 * (l8 / t_b.toInt64)))), (15, .long l8), (0, .ref h_t), (2, .long x2_L155_15), (4, .long x4_L155_15), (6, .long l6), (12, .int l12), (13, .int l13), (14, .int x14_L155_15)]) hx hb dX12_rank_246 hl (by decide) rfl (fun ls hl => ?_)
        refine lv_iinc (v := (l12 + (-1))) (lv' := [(12, .int (l12 + (-1))), (10, .long (l8 / t_b.toInt64)), (8, .long (l10 - (t_a.toInt64 * (l8 / t_b.toInt64)))), (15, .long l8), (0, .ref h_t), (2, .long x2_L155_15), (4, .long x4_L155_15), (6, .long l6), (13, .int l13), (14, .int x14_L155_15)]) hx hb dX12_rank_248 hl (k := 7) rfl rfl (by decide) rfl (fun ls hl => ?_)
        refine lv_goto (tgt := 147) hx hb dX12_rank_251 (by decide) ?_
        exact ih x2_L155_15 x4_L155_15 l6 (l10 - (t_a.toInt64 * (l8 / t_b.toInt64))) (l8 / t_b.toInt64) (l12 + (-1)) l13 t_thrown t_behind (upd t_hand ((l13 - 1) - l12).toNatClampNeg x14_L155_15) _ _ _ h _ _ _ hP hD hS (lv_sub hl [4, 5, 6, 7, 2, 1, 0, 8] rfl) kk0
  have L284 : ∀ (Q : State → Prop) (n : Nat) (l13 : Int32) (l14 : Int64) (l16 : Int32) (l17 : Int32) (t_thrown : Int32) (t_behind : Nat → Int64) (t_hand : Nat → Int32) (x14 : Int64), f_X12_rank_L284 l13 t_a t_b t_behind t_hand n l14 l16 l17 = some x14 → ∀ (H : Heap) (locs : List Loc) (ls : Array Slot), va_P D vwCl ((h_t, .inr (12, (.int t_thrown :: z_t_1 :: z_t_2 :: .int t_a :: .int t_b :: .int t_root :: .ref h_t_has :: .ref h_t_us :: .ref h_t_vs :: .ref h_t_ds :: z_t_10 :: z_t_11 :: z_t_12 :: z_t_13 :: z_t_14 :: z_t_15 :: z_t_16 :: z_t_17 :: z_t_18 :: z_t_19 :: z_t_20 :: z_t_21 :: z_t_22 :: z_t_23 :: z_t_24 :: .ref h_t_behind :: .ref h_t_hand :: z_t_27 :: z_t_28 :: z_t_29 :: z_t_30 :: z_t_31 :: z_t_32 :: z_t_33 :: z_t_34 :: z_t_35 :: z_t_36 :: z_t_37 :: z_t_38 :: z_t_39 :: z_t_40 :: z_t_41 :: z_t_42 :: z_t_43 :: z_t_44 :: z_t_45 :: z_t_46 :: z_t_47 :: z_t_48 :: z_t_49 :: z_t_50 :: z_t_51 :: z_t_52 :: z_t_53 :: z_t_54 :: z_t_55 :: z_t_56 :: z_t_57 :: z_t_58 :: z_t_59 :: z_t_60 :: []))) :: (h_t_has, .inl (k_t_has, 10, .inl t_has)) :: (h_t_us, .inl (k_t_us, 10, .inl t_us)) :: (h_t_vs, .inl (k_t_vs, 10, .inl t_vs)) :: (h_t_ds, .inl (k_t_ds, 10, .inl t_ds)) :: (h_t_behind, .inl (k_t_behind, 64, .inr (.inl t_behind))) :: (h_t_hand, .inl (k_t_hand, 64, .inl t_hand)) :: R) H → va_D A ((h_t, .inr (12, (.int t_thrown :: z_t_1 :: z_t_2 :: .int t_a :: .int t_b :: .int t_root :: .ref h_t_has :: .ref h_t_us :: .ref h_t_vs :: .ref h_t_ds :: z_t_10 :: z_t_11 :: z_t_12 :: z_t_13 :: z_t_14 :: z_t_15 :: z_t_16 :: z_t_17 :: z_t_18 :: z_t_19 :: z_t_20 :: z_t_21 :: z_t_22 :: z_t_23 :: z_t_24 :: .ref h_t_behind :: .ref h_t_hand :: z_t_27 :: z_t_28 :: z_t_29 :: z_t_30 :: z_t_31 :: z_t_32 :: z_t_33 :: z_t_34 :: z_t_35 :: z_t_36 :: z_t_37 :: z_t_38 :: z_t_39 :: z_t_40 :: z_t_41 :: z_t_42 :: z_t_43 :: z_t_44 :: z_t_45 :: z_t_46 :: z_t_47 :: z_t_48 :: z_t_49 :: z_t_50 :: z_t_51 :: z_t_52 :: z_t_53 :: z_t_54 :: z_t_55 :: z_t_56 :: z_t_57 :: z_t_58 :: z_t_59 :: z_t_60 :: []))) :: (h_t_has, .inl (k_t_has, 10, .inl t_has)) :: (h_t_us, .inl (k_t_us, 10, .inl t_us)) :: (h_t_vs, .inl (k_t_vs, 10, .inl t_vs)) :: (h_t_ds, .inl (k_t_ds, 10, .inl t_ds)) :: (h_t_behind, .inl (k_t_behind, 64, .inr (.inl t_behind))) :: (h_t_hand, .inl (k_t_hand, 64, .inl t_hand)) :: R) → va_S A s.heap H locs → lv_has ls 19 [(0, .ref h_t), (13, .int l13), (14, .long l14), (16, .int l16), (17, .int l17)] → (∀ (H : Heap) (locs : List Loc) (ls : Array Slot), va_P D vwCl ((h_t, .inr (12, (.int t_thrown :: z_t_1 :: z_t_2 :: .int t_a :: .int t_b :: .int t_root :: .ref h_t_has :: .ref h_t_us :: .ref h_t_vs :: .ref h_t_ds :: z_t_10 :: z_t_11 :: z_t_12 :: z_t_13 :: z_t_14 :: z_t_15 :: z_t_16 :: z_t_17 :: z_t_18 :: z_t_19 :: z_t_20 :: z_t_21 :: z_t_22 :: z_t_23 :: z_t_24 :: .ref h_t_behind :: .ref h_t_hand :: z_t_27 :: z_t_28 :: z_t_29 :: z_t_30 :: z_t_31 :: z_t_32 :: z_t_33 :: z_t_34 :: z_t_35 :: z_t_36 :: z_t_37 :: z_t_38 :: z_t_39 :: z_t_40 :: z_t_41 :: z_t_42 :: z_t_43 :: z_t_44 :: z_t_45 :: z_t_46 :: z_t_47 :: z_t_48 :: z_t_49 :: z_t_50 :: z_t_51 :: z_t_52 :: z_t_53 :: z_t_54 :: z_t_55 :: z_t_56 :: z_t_57 :: z_t_58 :: z_t_59 :: z_t_60 :: []))) :: (h_t_has, .inl (k_t_has, 10, .inl t_has)) :: (h_t_us, .inl (k_t_us, 10, .inl t_us)) :: (h_t_vs, .inl (k_t_vs, 10, .inl t_vs)) :: (h_t_ds, .inl (k_t_ds, 10, .inl t_ds)) :: (h_t_behind, .inl (k_t_behind, 64, .inr (.inl t_behind))) :: (h_t_hand, .inl (k_t_hand, 64, .inl t_hand)) :: R) H → va_D A ((h_t, .inr (12, (.int t_thrown :: z_t_1 :: z_t_2 :: .int t_a :: .int t_b :: .int t_root :: .ref h_t_has :: .ref h_t_us :: .ref h_t_vs :: .ref h_t_ds :: z_t_10 :: z_t_11 :: z_t_12 :: z_t_13 :: z_t_14 :: z_t_15 :: z_t_16 :: z_t_17 :: z_t_18 :: z_t_19 :: z_t_20 :: z_t_21 :: z_t_22 :: z_t_23 :: z_t_24 :: .ref h_t_behind :: .ref h_t_hand :: z_t_27 :: z_t_28 :: z_t_29 :: z_t_30 :: z_t_31 :: z_t_32 :: z_t_33 :: z_t_34 :: z_t_35 :: z_t_36 :: z_t_37 :: z_t_38 :: z_t_39 :: z_t_40 :: z_t_41 :: z_t_42 :: z_t_43 :: z_t_44 :: z_t_45 :: z_t_46 :: z_t_47 :: z_t_48 :: z_t_49 :: z_t_50 :: z_t_51 :: z_t_52 :: z_t_53 :: z_t_54 :: z_t_55 :: z_t_56 :: z_t_57 :: z_t_58 :: z_t_59 :: z_t_60 :: []))) :: (h_t_has, .inl (k_t_has, 10, .inl t_has)) :: (h_t_us, .inl (k_t_us, 10, .inl t_us)) :: (h_t_vs, .inl (k_t_vs, 10, .inl t_vs)) :: (h_t_ds, .inl (k_t_ds, 10, .inl t_ds)) :: (h_t_behind, .inl (k_t_behind, 64, .inr (.inl t_behind))) :: (h_t_hand, .inl (k_t_hand, 64, .inl t_hand)) :: R) → va_S A s.heap H locs → lv_has ls 19 [(14, .long x14)] → W p l e { frames := 2, cells := 0, slots := 0, locals := 47 } s m args below meth c H locs 0 0 Q (F0 m 361 ls [])) → W p l e { frames := 2, cells := 0, slots := 0, locals := 47 } s m args below meth c H locs 0 0 Q (F0 m 284 ls []) := by
    intro Q n
    induction n with
    | zero =>
      intro l13 l14 l16 l17 t_thrown t_behind t_hand x14 h
      rw [f_X12_rank_L284] at h; cases h
    | succ n ih =>
      intro l13 l14 l16 l17 t_thrown t_behind t_hand x14 h H locs ls hP hD hS hl kk0
      rw [f_X12_rank_L284] at h
      refine lv_iload hx hb dX12_rank_284 (lv_at hl 4 rfl) ?_
      refine lv_iload hx hb dX12_rank_286 (lv_at hl 1 rfl) ?_
      refine lv_icmp_ge (tgt := 361) hx hb dX12_rank_288 (by decide) (fun c24 => ?_) (fun c24 => ?_)
      · have h := br_pos c24 h
        cases h
        exact kk0 _ _ _ hP hD hS (lv_sub hl [2] rfl)
      · have h := br_neg c24 h
        refine lv_aload_n hx hb dX12_rank_291 rfl (lv_at hl 0 rfl) ?_
        refine va_get (D := D) (ci := 12) (v := .ref h_t_hand) (C := RX12) (T := TX12) (N := 61) hx hb ha ix12 hown hK hP 0 rfl rfl 26 (by decide) (ha _ q986) (fun _ h9 => h9) rfl dX12_rank_292 ?_
        refine lv_iload hx hb dX12_rank_295 (lv_at hl 4 rfl) ?_
        obtain ⟨i25, h⟩ := ix_ok h
        refine va_iald hx hb hK hP 6 5 rfl rfl i25 dX12_rank_297 ?_
        refine lv_istore (lv' := [(18, .int (t_hand l17.toNatClampNeg)), (0, .ref h_t), (13, .int l13), (14, .long l14), (16, .int l16), (17, .int l17)]) hx hb dX12_rank_298 hl (by decide) rfl (fun ls hl => ?_)
        refine lv_lload hx hb dX12_rank_300 (lv_at hl 3 rfl) ?_
        refine lv_iload hx hb dX12_rank_302 (lv_at hl 0 rfl) ?_
        refine lv_i2l (v := (t_hand l17.toNatClampNeg).toInt64) hx hb dX12_rank_304 rfl ?_
        refine lv_aload_n hx hb dX12_rank_305 rfl (lv_at hl 1 rfl) ?_
        refine va_get (D := D) (ci := 12) (v := .ref h_t_behind) (C := RX12) (T := TX12) (N := 61) hx hb ha ix12 hown hK hP 0 rfl rfl 25 (by decide) (ha _ q985) (fun _ h9 => h9) rfl dX12_rank_306 ?_
        refine lv_iconst (v := 2) hx hb dX12_rank_309 (by decide) ?_
        refine lv_iload hx hb dX12_rank_310 (lv_at hl 2 rfl) ?_
        refine lv_iconst (v := 1) hx hb dX12_rank_312 (by decide) ?_
        refine lv_isub hx hb dX12_rank_313 ?_
        refine lv_iload hx hb dX12_rank_314 (lv_at hl 5 rfl) ?_
        refine lv_isub hx hb dX12_rank_316 ?_
        refine lv_imul hx hb dX12_rank_317 ?_
        obtain ⟨i26, h⟩ := ix_ok h
        refine va_lald hx hb hK hP 5 4 rfl rfl i26 dX12_rank_318 ?_
        refine lv_lmul hx hb dX12_rank_319 ?_
        refine lv_ladd hx hb dX12_rank_320 ?_
        refine lv_lstore (lv' := [(14, .long (l14 + ((t_hand l17.toNatClampNeg).toInt64 * (t_behind (2 * ((l13 - 1) - l17)).toNatClampNeg)))), (18, .int (t_hand l17.toNatClampNeg)), (0, .ref h_t), (13, .int l13), (16, .int l16), (17, .int l17)]) hx hb dX12_rank_321 hl (by decide) rfl (fun ls hl => ?_)
        refine lv_iload hx hb dX12_rank_323 (lv_at hl 1 rfl) ?_
        refine lv_aload_n hx hb dX12_rank_325 rfl (lv_at hl 2 rfl) ?_
        refine lv_iload hx hb dX12_rank_326 (lv_at hl 4 rfl) ?_
        obtain ⟨r_c328_26, e_c328_26, h⟩ := bnd1_ok h
        refine cl_i (rn_v (ci := 12) (As := [.int l16]) (rest := [.int (t_hand l17.toNatClampNeg)]) S (c_X12_bar l D ((h_t_has, .inl (k_t_has, 10, .inl t_has)) :: (h_t_us, .inl (k_t_us, 10, .inl t_us)) :: (h_t_vs, .inl (k_t_vs, 10, .inl t_vs)) :: (h_t_ds, .inl (k_t_ds, 10, .inl t_ds)) :: (h_t_behind, .inl (k_t_behind, 64, .inr (.inl t_behind))) :: (h_t_hand, .inl (k_t_hand, 64, .inl t_hand)) :: R) h_t (.int t_thrown) (z_t_1) (z_t_2) t_a t_b (.int t_root) (.ref h_t_has) (.ref h_t_us) (.ref h_t_vs) (.ref h_t_ds) (z_t_10) (z_t_11) (z_t_12) (z_t_13) (z_t_14) (z_t_15) (z_t_16) (z_t_17) (z_t_18) (z_t_19) (z_t_20) (z_t_21) (z_t_22) (z_t_23) (z_t_24) (.ref h_t_behind) (.ref h_t_hand) (z_t_27) (z_t_28) (z_t_29) (z_t_30) (z_t_31) (z_t_32) (z_t_33) (z_t_34) (z_t_35) (z_t_36) (z_t_37) (z_t_38) (z_t_39) (z_t_40) (z_t_41) (z_t_42) (z_t_43) (z_t_44) (z_t_45) (z_t_46) (z_t_47) (z_t_48) (z_t_49) (z_t_50) (z_t_51) (z_t_52) (z_t_53) (z_t_54) (z_t_55) (z_t_56) (z_t_57) (z_t_58) (z_t_59) (z_t_60) l16 r_c328_26 e_c328_26 _) q1271 q1273 q41 q61 q1274 nd_X12_bar ⟨Nat.le_of_ble_eq_true rfl, Nat.le_of_ble_eq_true rfl⟩ rfl rfl hP hD (hK.sub (tys' := []) [] rfl) hN rfl ⟨0, _, rfl⟩ rfl hl.1 rfl (Nat.le_of_ble_eq_true rfl) dX12_rank_328 ⟨Nat.le_of_ble_eq_true rfl, Nat.le_of_ble_eq_true rfl⟩) hS hA hD (fun H locs hP hD hS => ?_)
        have hP : va_P D vwCl ((h_t, .inr (12, (.int t_thrown :: z_t_1 :: z_t_2 :: .int t_a :: .int t_b :: .int t_root :: .ref h_t_has :: .ref h_t_us :: .ref h_t_vs :: .ref h_t_ds :: z_t_10 :: z_t_11 :: z_t_12 :: z_t_13 :: z_t_14 :: z_t_15 :: z_t_16 :: z_t_17 :: z_t_18 :: z_t_19 :: z_t_20 :: z_t_21 :: z_t_22 :: z_t_23 :: z_t_24 :: .ref h_t_behind :: .ref h_t_hand :: z_t_27 :: z_t_28 :: z_t_29 :: z_t_30 :: z_t_31 :: z_t_32 :: z_t_33 :: z_t_34 :: z_t_35 :: z_t_36 :: z_t_37 :: z_t_38 :: z_t_39 :: z_t_40 :: z_t_41 :: z_t_42 :: z_t_43 :: z_t_44 :: z_t_45 :: z_t_46 :: z_t_47 :: z_t_48 :: z_t_49 :: z_t_50 :: z_t_51 :: z_t_52 :: z_t_53 :: z_t_54 :: z_t_55 :: z_t_56 :: z_t_57 :: z_t_58 :: z_t_59 :: z_t_60 :: []))) :: (h_t_has, .inl (k_t_has, 10, .inl t_has)) :: (h_t_us, .inl (k_t_us, 10, .inl t_us)) :: (h_t_vs, .inl (k_t_vs, 10, .inl t_vs)) :: (h_t_ds, .inl (k_t_ds, 10, .inl t_ds)) :: (h_t_behind, .inl (k_t_behind, 64, .inr (.inl t_behind))) :: (h_t_hand, .inl (k_t_hand, 64, .inl t_hand)) :: R) H := hP
        have hD : va_D A ((h_t, .inr (12, (.int t_thrown :: z_t_1 :: z_t_2 :: .int t_a :: .int t_b :: .int t_root :: .ref h_t_has :: .ref h_t_us :: .ref h_t_vs :: .ref h_t_ds :: z_t_10 :: z_t_11 :: z_t_12 :: z_t_13 :: z_t_14 :: z_t_15 :: z_t_16 :: z_t_17 :: z_t_18 :: z_t_19 :: z_t_20 :: z_t_21 :: z_t_22 :: z_t_23 :: z_t_24 :: .ref h_t_behind :: .ref h_t_hand :: z_t_27 :: z_t_28 :: z_t_29 :: z_t_30 :: z_t_31 :: z_t_32 :: z_t_33 :: z_t_34 :: z_t_35 :: z_t_36 :: z_t_37 :: z_t_38 :: z_t_39 :: z_t_40 :: z_t_41 :: z_t_42 :: z_t_43 :: z_t_44 :: z_t_45 :: z_t_46 :: z_t_47 :: z_t_48 :: z_t_49 :: z_t_50 :: z_t_51 :: z_t_52 :: z_t_53 :: z_t_54 :: z_t_55 :: z_t_56 :: z_t_57 :: z_t_58 :: z_t_59 :: z_t_60 :: []))) :: (h_t_has, .inl (k_t_has, 10, .inl t_has)) :: (h_t_us, .inl (k_t_us, 10, .inl t_us)) :: (h_t_vs, .inl (k_t_vs, 10, .inl t_vs)) :: (h_t_ds, .inl (k_t_ds, 10, .inl t_ds)) :: (h_t_behind, .inl (k_t_behind, 64, .inr (.inl t_behind))) :: (h_t_hand, .inl (k_t_hand, 64, .inl t_hand)) :: R) := hD
        refine lv_icmp_ge (tgt := 338) hx hb dX12_rank_331 (by decide) (fun c28 => ?_) (fun c28 => ?_)
        · have h := br_pos c28 h
          refine lv_aload_n hx hb dX12_rank_338 rfl (lv_at hl 2 rfl) ?_
          refine va_get (D := D) (ci := 12) (v := .int t_b) (C := RX12) (T := TX12) (N := 61) hx hb ha ix12 hown hK hP 0 rfl rfl 4 (by decide) (ha _ q964) (fun _ h9 => h9) rfl dX12_rank_339 ?_
          refine lv_if_le (tgt := 352) hx hb dX12_rank_342 (by decide) (fun c29 => ?_) (fun c29 => ?_)
          · have h := br_pos c29 h
            refine lv_iconst (v := 1) hx hb dX12_rank_352 (by decide) ?_
            refine lv_istore (lv' := [(16, .int 1), (14, .long (l14 + ((t_hand l17.toNatClampNeg).toInt64 * (t_behind (2 * ((l13 - 1) - l17)).toNatClampNeg)))), (18, .int (t_hand l17.toNatClampNeg)), (0, .ref h_t), (13, .int l13), (17, .int l17)]) hx hb dX12_rank_353 hl (by decide) rfl (fun ls hl => ?_)
            refine lv_iinc (v := (l17 + 1)) (lv' := [(17, .int (l17 + 1)), (16, .int 1), (14, .long (l14 + ((t_hand l17.toNatClampNeg).toInt64 * (t_behind (2 * ((l13 - 1) - l17)).toNatClampNeg)))), (18, .int (t_hand l17.toNatClampNeg)), (0, .ref h_t), (13, .int l13)]) hx hb dX12_rank_355 hl (k := 5) rfl rfl (by decide) rfl (fun ls hl => ?_)
            refine lv_goto (tgt := 284) hx hb dX12_rank_358 (by decide) ?_
            exact ih l13 (l14 + ((t_hand l17.toNatClampNeg).toInt64 * (t_behind (2 * ((l13 - 1) - l17)).toNatClampNeg))) 1 (l17 + 1) t_thrown t_behind t_hand _ h _ _ _ hP hD hS (lv_sub hl [4, 5, 2, 1, 0] rfl) kk0
          · have h := br_neg c29 h
            refine lv_iconst (v := 1) hx hb dX12_rank_345 (by decide) ?_
            refine lv_iload hx hb dX12_rank_346 (lv_at hl 4 rfl) ?_
            refine lv_isub hx hb dX12_rank_348 ?_
            refine lv_goto (tgt := 353) hx hb dX12_rank_349 (by decide) ?_
            refine lv_istore (lv' := [(16, .int (1 - l16)), (14, .long (l14 + ((t_hand l17.toNatClampNeg).toInt64 * (t_behind (2 * ((l13 - 1) - l17)).toNatClampNeg)))), (18, .int (t_hand l17.toNatClampNeg)), (0, .ref h_t), (13, .int l13), (17, .int l17)]) hx hb dX12_rank_353 hl (by decide) rfl (fun ls hl => ?_)
            refine lv_iinc (v := (l17 + 1)) (lv' := [(17, .int (l17 + 1)), (16, .int (1 - l16)), (14, .long (l14 + ((t_hand l17.toNatClampNeg).toInt64 * (t_behind (2 * ((l13 - 1) - l17)).toNatClampNeg)))), (18, .int (t_hand l17.toNatClampNeg)), (0, .ref h_t), (13, .int l13)]) hx hb dX12_rank_355 hl (k := 5) rfl rfl (by decide) rfl (fun ls hl => ?_)
            refine lv_goto (tgt := 284) hx hb dX12_rank_358 (by decide) ?_
            exact ih l13 (l14 + ((t_hand l17.toNatClampNeg).toInt64 * (t_behind (2 * ((l13 - 1) - l17)).toNatClampNeg))) (1 - l16) (l17 + 1) t_thrown t_behind t_hand _ h _ _ _ hP hD hS (lv_sub hl [4, 5, 2, 1, 0] rfl) kk0
        · have h := br_neg c28 h
          refine lv_iconst (v := 0) hx hb dX12_rank_334 (by decide) ?_
          refine lv_goto (tgt := 353) hx hb dX12_rank_335 (by decide) ?_
          refine lv_istore (lv' := [(16, .int 0), (14, .long (l14 + ((t_hand l17.toNatClampNeg).toInt64 * (t_behind (2 * ((l13 - 1) - l17)).toNatClampNeg)))), (18, .int (t_hand l17.toNatClampNeg)), (0, .ref h_t), (13, .int l13), (17, .int l17)]) hx hb dX12_rank_353 hl (by decide) rfl (fun ls hl => ?_)
          refine lv_iinc (v := (l17 + 1)) (lv' := [(17, .int (l17 + 1)), (16, .int 0), (14, .long (l14 + ((t_hand l17.toNatClampNeg).toInt64 * (t_behind (2 * ((l13 - 1) - l17)).toNatClampNeg)))), (18, .int (t_hand l17.toNatClampNeg)), (0, .ref h_t), (13, .int l13)]) hx hb dX12_rank_355 hl (k := 5) rfl rfl (by decide) rfl (fun ls hl => ?_)
          refine lv_goto (tgt := 284) hx hb dX12_rank_358 (by decide) ?_
          exact ih l13 (l14 + ((t_hand l17.toNatClampNeg).toInt64 * (t_behind (2 * ((l13 - 1) - l17)).toNatClampNeg))) 0 (l17 + 1) t_thrown t_behind t_hand _ h _ _ _ hP hD hS (lv_sub hl [4, 5, 2, 1, 0] rfl) kk0
  unfold f_X12_rank at h
  refine lv_aload_n hx hb dX12_rank_0 rfl (lv_at hl 0 rfl) ?_
  refine lv_iconst (v := 0) hx hb dX12_rank_1 (by decide) ?_
  refine va_put (D := D) (ci := 12) (v := .int 0) (ty := .int) (C := RX12) (T := TX12) (N := 61) hx hb ha ix12 tyX12 tyX12_ok nmX12 hown hK hP hD hS 0 rfl rfl 0 (by decide) (ha _ q960) (fun _ h9 => h9) rfl (by decide +kernel) rfl rfl (Nat.le_of_ble_eq_true rfl) dX12_rank_2 (fun H locs hP hD hS => ?_)
  have hP : va_P D vwCl ((h_t, .inr (12, (.int 0 :: z_t_1 :: z_t_2 :: .int t_a :: .int t_b :: .int t_root :: .ref h_t_has :: .ref h_t_us :: .ref h_t_vs :: .ref h_t_ds :: z_t_10 :: z_t_11 :: z_t_12 :: z_t_13 :: z_t_14 :: z_t_15 :: z_t_16 :: z_t_17 :: z_t_18 :: z_t_19 :: z_t_20 :: z_t_21 :: z_t_22 :: z_t_23 :: z_t_24 :: .ref h_t_behind :: .ref h_t_hand :: z_t_27 :: z_t_28 :: z_t_29 :: z_t_30 :: z_t_31 :: z_t_32 :: z_t_33 :: z_t_34 :: z_t_35 :: z_t_36 :: z_t_37 :: z_t_38 :: z_t_39 :: z_t_40 :: z_t_41 :: z_t_42 :: z_t_43 :: z_t_44 :: z_t_45 :: z_t_46 :: z_t_47 :: z_t_48 :: z_t_49 :: z_t_50 :: z_t_51 :: z_t_52 :: z_t_53 :: z_t_54 :: z_t_55 :: z_t_56 :: z_t_57 :: z_t_58 :: z_t_59 :: z_t_60 :: []))) :: (h_t_has, .inl (k_t_has, 10, .inl t_has)) :: (h_t_us, .inl (k_t_us, 10, .inl t_us)) :: (h_t_vs, .inl (k_t_vs, 10, .inl t_vs)) :: (h_t_ds, .inl (k_t_ds, 10, .inl t_ds)) :: (h_t_behind, .inl (k_t_behind, 64, .inr (.inl t_behind))) :: (h_t_hand, .inl (k_t_hand, 64, .inl t_hand)) :: R) H := hP
  have hD : va_D A ((h_t, .inr (12, (.int 0 :: z_t_1 :: z_t_2 :: .int t_a :: .int t_b :: .int t_root :: .ref h_t_has :: .ref h_t_us :: .ref h_t_vs :: .ref h_t_ds :: z_t_10 :: z_t_11 :: z_t_12 :: z_t_13 :: z_t_14 :: z_t_15 :: z_t_16 :: z_t_17 :: z_t_18 :: z_t_19 :: z_t_20 :: z_t_21 :: z_t_22 :: z_t_23 :: z_t_24 :: .ref h_t_behind :: .ref h_t_hand :: z_t_27 :: z_t_28 :: z_t_29 :: z_t_30 :: z_t_31 :: z_t_32 :: z_t_33 :: z_t_34 :: z_t_35 :: z_t_36 :: z_t_37 :: z_t_38 :: z_t_39 :: z_t_40 :: z_t_41 :: z_t_42 :: z_t_43 :: z_t_44 :: z_t_45 :: z_t_46 :: z_t_47 :: z_t_48 :: z_t_49 :: z_t_50 :: z_t_51 :: z_t_52 :: z_t_53 :: z_t_54 :: z_t_55 :: z_t_56 :: z_t_57 :: z_t_58 :: z_t_59 :: z_t_60 :: []))) :: (h_t_has, .inl (k_t_has, 10, .inl t_has)) :: (h_t_us, .inl (k_t_us, 10, .inl t_us)) :: (h_t_vs, .inl (k_t_vs, 10, .inl t_vs)) :: (h_t_ds, .inl (k_t_ds, 10, .inl t_ds)) :: (h_t_behind, .inl (k_t_behind, 64, .inr (.inl t_behind))) :: (h_t_hand, .inl (k_t_hand, 64, .inl t_hand)) :: R) := hD
  refine lv_aload_n hx hb dX12_rank_5 rfl (lv_at hl 0 rfl) ?_
  refine lv_iload_n hx hb dX12_rank_6 rfl (lv_at hl 1 rfl) ?_
  obtain ⟨r_c7_0, e_c7_0, h⟩ := bnd1_ok h
  refine cl_z (rn_v (ci := 12) (As := [.int l1]) (rest := []) S (c_X12_isThere l D ((h_t_us, .inl (k_t_us, 10, .inl t_us)) :: (h_t_vs, .inl (k_t_vs, 10, .inl t_vs)) :: (h_t_ds, .inl (k_t_ds, 10, .inl t_ds)) :: (h_t_behind, .inl (k_t_behind, 64, .inr (.inl t_behind))) :: (h_t_hand, .inl (k_t_hand, 64, .inl t_hand)) :: R) h_t (.int 0) (z_t_1) (z_t_2) (.int t_a) (.int t_b) (.int t_root) (.ref h_t_us) (.ref h_t_vs) (.ref h_t_ds) (z_t_10) (z_t_11) (z_t_12) (z_t_13) (z_t_14) (z_t_15) (z_t_16) (z_t_17) (z_t_18) (z_t_19) (z_t_20) (z_t_21) (z_t_22) (z_t_23) (z_t_24) (.ref h_t_behind) (.ref h_t_hand) (z_t_27) (z_t_28) (z_t_29) (z_t_30) (z_t_31) (z_t_32) (z_t_33) (z_t_34) (z_t_35) (z_t_36) (z_t_37) (z_t_38) (z_t_39) (z_t_40) (z_t_41) (z_t_42) (z_t_43) (z_t_44) (z_t_45) (z_t_46) (z_t_47) (z_t_48) (z_t_49) (z_t_50) (z_t_51) (z_t_52) (z_t_53) (z_t_54) (z_t_55) (z_t_56) (z_t_57) (z_t_58) (z_t_59) (z_t_60) h_t_has k_t_has t_has l1 r_c7_0 e_c7_0 _) q1194 q1196 q30 q61 q1197 nd_X12_isThere ⟨Nat.le_of_ble_eq_true rfl, Nat.le_of_ble_eq_true rfl⟩ rfl rfl hP hD (hK.sub (tys' := [(k_t_has, .boolean)]) [0] rfl) hN rfl ⟨0, _, rfl⟩ rfl hl.1 rfl (Nat.le_of_ble_eq_true rfl) dX12_rank_7 ⟨Nat.le_of_ble_eq_true rfl, Nat.le_of_ble_eq_true rfl⟩) hS hA hD (fun H locs hP hD hS z_c7_0 => ?_)
  have hP : va_P D vwCl ((h_t, .inr (12, (.int 0 :: z_t_1 :: z_t_2 :: .int t_a :: .int t_b :: .int t_root :: .ref h_t_has :: .ref h_t_us :: .ref h_t_vs :: .ref h_t_ds :: z_t_10 :: z_t_11 :: z_t_12 :: z_t_13 :: z_t_14 :: z_t_15 :: z_t_16 :: z_t_17 :: z_t_18 :: z_t_19 :: z_t_20 :: z_t_21 :: z_t_22 :: z_t_23 :: z_t_24 :: .ref h_t_behind :: .ref h_t_hand :: z_t_27 :: z_t_28 :: z_t_29 :: z_t_30 :: z_t_31 :: z_t_32 :: z_t_33 :: z_t_34 :: z_t_35 :: z_t_36 :: z_t_37 :: z_t_38 :: z_t_39 :: z_t_40 :: z_t_41 :: z_t_42 :: z_t_43 :: z_t_44 :: z_t_45 :: z_t_46 :: z_t_47 :: z_t_48 :: z_t_49 :: z_t_50 :: z_t_51 :: z_t_52 :: z_t_53 :: z_t_54 :: z_t_55 :: z_t_56 :: z_t_57 :: z_t_58 :: z_t_59 :: z_t_60 :: []))) :: (h_t_has, .inl (k_t_has, 10, .inl t_has)) :: (h_t_us, .inl (k_t_us, 10, .inl t_us)) :: (h_t_vs, .inl (k_t_vs, 10, .inl t_vs)) :: (h_t_ds, .inl (k_t_ds, 10, .inl t_ds)) :: (h_t_behind, .inl (k_t_behind, 64, .inr (.inl t_behind))) :: (h_t_hand, .inl (k_t_hand, 64, .inl t_hand)) :: R) H := hP
  have hD : va_D A ((h_t, .inr (12, (.int 0 :: z_t_1 :: z_t_2 :: .int t_a :: .int t_b :: .int t_root :: .ref h_t_has :: .ref h_t_us :: .ref h_t_vs :: .ref h_t_ds :: z_t_10 :: z_t_11 :: z_t_12 :: z_t_13 :: z_t_14 :: z_t_15 :: z_t_16 :: z_t_17 :: z_t_18 :: z_t_19 :: z_t_20 :: z_t_21 :: z_t_22 :: z_t_23 :: z_t_24 :: .ref h_t_behind :: .ref h_t_hand :: z_t_27 :: z_t_28 :: z_t_29 :: z_t_30 :: z_t_31 :: z_t_32 :: z_t_33 :: z_t_34 :: z_t_35 :: z_t_36 :: z_t_37 :: z_t_38 :: z_t_39 :: z_t_40 :: z_t_41 :: z_t_42 :: z_t_43 :: z_t_44 :: z_t_45 :: z_t_46 :: z_t_47 :: z_t_48 :: z_t_49 :: z_t_50 :: z_t_51 :: z_t_52 :: z_t_53 :: z_t_54 :: z_t_55 :: z_t_56 :: z_t_57 :: z_t_58 :: z_t_59 :: z_t_60 :: []))) :: (h_t_has, .inl (k_t_has, 10, .inl t_has)) :: (h_t_us, .inl (k_t_us, 10, .inl t_us)) :: (h_t_vs, .inl (k_t_vs, 10, .inl t_vs)) :: (h_t_ds, .inl (k_t_ds, 10, .inl t_ds)) :: (h_t_behind, .inl (k_t_behind, 64, .inr (.inl t_behind))) :: (h_t_hand, .inl (k_t_hand, 64, .inl t_hand)) :: R) := hD
  refine lv_if_eq (tgt := 34) hx hb dX12_rank_10 (by decide) (fun c2 => ?_) (fun c2 => ?_)
  · have h := br_pos c2 h
    refine lv_iconst (v := (-1)) hx hb dX12_rank_34 (by decide) ?_
    cases h
    exact rt_i S hr hlk hP hD hS dX12_rank_35
  · have h := br_neg c2 h
    refine lv_aload_n hx hb dX12_rank_13 rfl (lv_at hl 0 rfl) ?_
    refine lv_aload_n hx hb dX12_rank_14 rfl (lv_at hl 0 rfl) ?_
    refine va_get (D := D) (ci := 12) (v := .ref h_t_us) (C := RX12) (T := TX12) (N := 61) hx hb ha ix12 hown hK hP 0 rfl rfl 7 (by decide) (ha _ q967) (fun _ h9 => h9) rfl dX12_rank_15 ?_
    refine lv_iload_n hx hb dX12_rank_18 rfl (lv_at hl 1 rfl) ?_
    obtain ⟨i3, h⟩ := ix_ok h
    refine va_iald hx hb hK hP 2 1 rfl rfl i3 dX12_rank_19 ?_
    refine lv_i2l (v := (t_us l1.toNatClampNeg).toInt64) hx hb dX12_rank_20 rfl ?_
    refine lv_aload_n hx hb dX12_rank_21 rfl (lv_at hl 0 rfl) ?_
    refine va_get (D := D) (ci := 12) (v := .ref h_t_vs) (C := RX12) (T := TX12) (N := 61) hx hb ha ix12 hown hK hP 0 rfl rfl 8 (by decide) (ha _ q968) (fun _ h9 => h9) rfl dX12_rank_22 ?_
    refine lv_iload_n hx hb dX12_rank_25 rfl (lv_at hl 1 rfl) ?_
    obtain ⟨i4, h⟩ := ix_ok h
    refine va_iald hx hb hK hP 3 2 rfl rfl i4 dX12_rank_26 ?_
    refine lv_i2l (v := (t_vs l1.toNatClampNeg).toInt64) hx hb dX12_rank_27 rfl ?_
    obtain ⟨r_c28_4, e_c28_4, h⟩ := bnd1_ok h
    refine cl_i (rn_v (ci := 12) (As := [.long (t_us l1.toNatClampNeg).toInt64, .long (t_vs l1.toNatClampNeg).toInt64]) (rest := []) S (c_X12_sign l D ((h_t_has, .inl (k_t_has, 10, .inl t_has)) :: (h_t_us, .inl (k_t_us, 10, .inl t_us)) :: (h_t_vs, .inl (k_t_vs, 10, .inl t_vs)) :: (h_t_ds, .inl (k_t_ds, 10, .inl t_ds)) :: (h_t_behind, .inl (k_t_behind, 64, .inr (.inl t_behind))) :: (h_t_hand, .inl (k_t_hand, 64, .inl t_hand)) :: R) h_t (.int 0) (z_t_1) (z_t_2) t_a (.int t_b) t_root (.ref h_t_has) (.ref h_t_us) (.ref h_t_vs) (.ref h_t_ds) (z_t_10) (z_t_11) (z_t_12) (z_t_13) (z_t_14) (z_t_15) (z_t_16) (z_t_17) (z_t_18) (z_t_19) (z_t_20) (z_t_21) (z_t_22) (z_t_23) (z_t_24) (.ref h_t_behind) (.ref h_t_hand) (z_t_27) (z_t_28) (z_t_29) (z_t_30) (z_t_31) (z_t_32) (z_t_33) (z_t_34) (z_t_35) (z_t_36) (z_t_37) (z_t_38) (z_t_39) (z_t_40) (z_t_41) (z_t_42) (z_t_43) (z_t_44) (z_t_45) (z_t_46) (z_t_47) (z_t_48) (z_t_49) (z_t_50) (z_t_51) (z_t_52) (z_t_53) (z_t_54) (z_t_55) (z_t_56) (z_t_57) (z_t_58) (z_t_59) (z_t_60) ((t_us l1.toNatClampNeg).toInt64) ((t_vs l1.toNatClampNeg).toInt64) r_c28_4 e_c28_4 _) q1222 q1224 q35 q61 q1225 nd_X12_sign ⟨Nat.le_of_ble_eq_true rfl, Nat.le_of_ble_eq_true rfl⟩ rfl rfl hP hD (hK.sub (tys' := []) [] rfl) hN rfl ⟨0, _, rfl⟩ rfl hl.1 rfl (Nat.le_of_ble_eq_true rfl) dX12_rank_28 ⟨Nat.le_of_ble_eq_true rfl, Nat.le_of_ble_eq_true rfl⟩) hS hA hD (fun H locs hP hD hS => ?_)
    have hP : va_P D vwCl ((h_t, .inr (12, (.int 0 :: z_t_1 :: z_t_2 :: .int t_a :: .int t_b :: .int t_root :: .ref h_t_has :: .ref h_t_us :: .ref h_t_vs :: .ref h_t_ds :: z_t_10 :: z_t_11 :: z_t_12 :: z_t_13 :: z_t_14 :: z_t_15 :: z_t_16 :: z_t_17 :: z_t_18 :: z_t_19 :: z_t_20 :: z_t_21 :: z_t_22 :: z_t_23 :: z_t_24 :: .ref h_t_behind :: .ref h_t_hand :: z_t_27 :: z_t_28 :: z_t_29 :: z_t_30 :: z_t_31 :: z_t_32 :: z_t_33 :: z_t_34 :: z_t_35 :: z_t_36 :: z_t_37 :: z_t_38 :: z_t_39 :: z_t_40 :: z_t_41 :: z_t_42 :: z_t_43 :: z_t_44 :: z_t_45 :: z_t_46 :: z_t_47 :: z_t_48 :: z_t_49 :: z_t_50 :: z_t_51 :: z_t_52 :: z_t_53 :: z_t_54 :: z_t_55 :: z_t_56 :: z_t_57 :: z_t_58 :: z_t_59 :: z_t_60 :: []))) :: (h_t_has, .inl (k_t_has, 10, .inl t_has)) :: (h_t_us, .inl (k_t_us, 10, .inl t_us)) :: (h_t_vs, .inl (k_t_vs, 10, .inl t_vs)) :: (h_t_ds, .inl (k_t_ds, 10, .inl t_ds)) :: (h_t_behind, .inl (k_t_behind, 64, .inr (.inl t_behind))) :: (h_t_hand, .inl (k_t_hand, 64, .inl t_hand)) :: R) H := hP
    have hD : va_D A ((h_t, .inr (12, (.int 0 :: z_t_1 :: z_t_2 :: .int t_a :: .int t_b :: .int t_root :: .ref h_t_has :: .ref h_t_us :: .ref h_t_vs :: .ref h_t_ds :: z_t_10 :: z_t_11 :: z_t_12 :: z_t_13 :: z_t_14 :: z_t_15 :: z_t_16 :: z_t_17 :: z_t_18 :: z_t_19 :: z_t_20 :: z_t_21 :: z_t_22 :: z_t_23 :: z_t_24 :: .ref h_t_behind :: .ref h_t_hand :: z_t_27 :: z_t_28 :: z_t_29 :: z_t_30 :: z_t_31 :: z_t_32 :: z_t_33 :: z_t_34 :: z_t_35 :: z_t_36 :: z_t_37 :: z_t_38 :: z_t_39 :: z_t_40 :: z_t_41 :: z_t_42 :: z_t_43 :: z_t_44 :: z_t_45 :: z_t_46 :: z_t_47 :: z_t_48 :: z_t_49 :: z_t_50 :: z_t_51 :: z_t_52 :: z_t_53 :: z_t_54 :: z_t_55 :: z_t_56 :: z_t_57 :: z_t_58 :: z_t_59 :: z_t_60 :: []))) :: (h_t_has, .inl (k_t_has, 10, .inl t_has)) :: (h_t_us, .inl (k_t_us, 10, .inl t_us)) :: (h_t_vs, .inl (k_t_vs, 10, .inl t_vs)) :: (h_t_ds, .inl (k_t_ds, 10, .inl t_ds)) :: (h_t_behind, .inl (k_t_behind, 64, .inr (.inl t_behind))) :: (h_t_hand, .inl (k_t_hand, 64, .inl t_hand)) :: R) := hD
    refine lv_if_ge (tgt := 36) hx hb dX12_rank_31 (by decide) (fun c6 => ?_) (fun c6 => ?_)
    · have h := br_pos c6 h
      refine lv_aload_n hx hb dX12_rank_36 rfl (lv_at hl 0 rfl) ?_
      refine va_get (D := D) (ci := 12) (v := .ref h_t_us) (C := RX12) (T := TX12) (N := 61) hx hb ha ix12 hown hK hP 0 rfl rfl 7 (by decide) (ha _ q967) (fun _ h9 => h9) rfl dX12_rank_37 ?_
      refine lv_iload_n hx hb dX12_rank_40 rfl (lv_at hl 1 rfl) ?_
      obtain ⟨i7, h⟩ := ix_ok h
      refine va_iald hx hb hK hP 2 1 rfl rfl i7 dX12_rank_41 ?_
      refine lv_i2l (v := (t_us l1.toNatClampNeg).toInt64) hx hb dX12_rank_42 rfl ?_
      refine lv_lstore_n (lv' := [(2, .long (t_us l1.toNatClampNeg).toInt64), (0, .ref h_t), (1, .int l1)]) hx hb dX12_rank_43 rfl hl (by decide) rfl (fun ls hl => ?_)
      refine lv_aload_n hx hb dX12_rank_44 rfl (lv_at hl 1 rfl) ?_
      refine va_get (D := D) (ci := 12) (v := .ref h_t_vs) (C := RX12) (T := TX12) (N := 61) hx hb ha ix12 hown hK hP 0 rfl rfl 8 (by decide) (ha _ q968) (fun _ h9 => h9) rfl dX12_rank_45 ?_
      refine lv_iload_n hx hb dX12_rank_48 rfl (lv_at hl 2 rfl) ?_
      obtain ⟨i8, h⟩ := ix_ok h
      refine va_iald hx hb hK hP 3 2 rfl rfl i8 dX12_rank_49 ?_
      refine lv_i2l (v := (t_vs l1.toNatClampNeg).toInt64) hx hb dX12_rank_50 rfl ?_
      refine lv_lstore (lv' := [(4, .long (t_vs l1.toNatClampNeg).toInt64), (2, .long (t_us l1.toNatClampNeg).toInt64), (0, .ref h_t), (1, .int l1)]) hx hb dX12_rank_51 hl (by decide) rfl (fun ls hl => ?_)
      refine lv_aload_n hx hb dX12_rank_53 rfl (lv_at hl 2 rfl) ?_
      refine va_get (D := D) (ci := 12) (v := .ref h_t_ds) (C := RX12) (T := TX12) (N := 61) hx hb ha ix12 hown hK hP 0 rfl rfl 9 (by decide) (ha _ q969) (fun _ h9 => h9) rfl dX12_rank_54 ?_
      refine lv_iload_n hx hb dX12_rank_57 rfl (lv_at hl 3 rfl) ?_
      obtain ⟨i9, h⟩ := ix_ok h
      refine va_iald hx hb hK hP 4 3 rfl rfl i9 dX12_rank_58 ?_
      refine lv_i2l (v := (t_ds l1.toNatClampNeg).toInt64) hx hb dX12_rank_59 rfl ?_
      refine lv_lstore (lv' := [(6, .long (t_ds l1.toNatClampNeg).toInt64), (4, .long (t_vs l1.toNatClampNeg).toInt64), (2, .long (t_us l1.toNatClampNeg).toInt64), (0, .ref h_t), (1, .int l1)]) hx hb dX12_rank_60 hl (by decide) rfl (fun ls hl => ?_)
      refine lv_lconst (v := 1) hx hb dX12_rank_62 (by decide) ?_
      refine lv_lstore (lv' := [(8, .long 1), (6, .long (t_ds l1.toNatClampNeg).toInt64), (4, .long (t_vs l1.toNatClampNeg).toInt64), (2, .long (t_us l1.toNatClampNeg).toInt64), (0, .ref h_t), (1, .int l1)]) hx hb dX12_rank_63 hl (by decide) rfl (fun ls hl => ?_)
      refine lv_lconst (v := 0) hx hb dX12_rank_65 (by decide) ?_
      refine lv_lstore (lv' := [(10, .long 0), (8, .long 1), (6, .long (t_ds l1.toNatClampNeg).toInt64), (4, .long (t_vs l1.toNatClampNeg).toInt64), (2, .long (t_us l1.toNatClampNeg).toInt64), (0, .ref h_t), (1, .int l1)]) hx hb dX12_rank_66 hl (by decide) rfl (fun ls hl => ?_)
      refine lv_iconst (v := 0) hx hb dX12_rank_68 (by decide) ?_
      refine lv_istore (lv' := [(12, .int 0), (10, .long 0), (8, .long 1), (6, .long (t_ds l1.toNatClampNeg).toInt64), (4, .long (t_vs l1.toNatClampNeg).toInt64), (2, .long (t_us l1.toNatClampNeg).toInt64), (0, .ref h_t), (1, .int l1)]) hx hb dX12_rank_69 hl (by decide) rfl (fun ls hl => ?_)
      obtain ⟨x8_L71_11, x10_L71_11, x12_L71_11, e_L71_11, h⟩ := bnd3_ok h
      refine L71 _ _ ((t_us l1.toNatClampNeg).toInt64) ((t_vs l1.toNatClampNeg).toInt64) ((t_ds l1.toNatClampNeg).toInt64) 1 0 0 0 t_behind t_hand x8_L71_11 x10_L71_11 x12_L71_11 e_L71_11 _ _ _ hP hD hS (lv_sub hl [6, 5, 4, 3, 2, 1, 0] rfl) ?_
      intro H locs ls hP hD hS hl
      refine lv_iload hx hb dX12_rank_141 (lv_at hl 6 rfl) ?_
      refine lv_iconst (v := 1) hx hb dX12_rank_143 (by decide) ?_
      refine lv_iadd hx hb dX12_rank_144 ?_
      refine lv_istore (lv' := [(13, .int (x12_L71_11 + 1)), (0, .ref h_t), (2, .long (t_us l1.toNatClampNeg).toInt64), (4, .long (t_vs l1.toNatClampNeg).toInt64), (6, .long (t_ds l1.toNatClampNeg).toInt64), (8, .long x8_L71_11), (10, .long x10_L71_11), (12, .int x12_L71_11)]) hx hb dX12_rank_145 hl (by decide) rfl (fun ls hl => ?_)
      obtain ⟨x2_L147_19, x4_L147_19, x_t_hand_L147_19, e_L147_19, h⟩ := bnd3_ok h
      refine L147 _ _ ((t_us l1.toNatClampNeg).toInt64) ((t_vs l1.toNatClampNeg).toInt64) ((t_ds l1.toNatClampNeg).toInt64) x8_L71_11 x10_L71_11 x12_L71_11 (x12_L71_11 + 1) 0 t_behind t_hand x2_L147_19 x4_L147_19 x_t_hand_L147_19 e_L147_19 _ _ _ hP hD hS (lv_sub hl [1, 2, 3, 4, 5, 6, 7, 0] rfl) ?_
      intro H locs ls hP hD hS hl
      refine lv_lload_n hx hb dX12_rank_254 rfl (lv_at hl 1 rfl) ?_
      refine lv_lconst (v := 0) hx hb dX12_rank_255 (by decide) ?_
      refine xl_ne (tgt := 267) hx hb dX12_rank_256 dX12_rank_257 (by decide) (fun c21 => ?_) (fun c21 => ?_)
      · have h := br_neg c21 h
        refine lv_iconst (v := (-1)) hx hb dX12_rank_267 (by decide) ?_
        cases h
        exact rt_i S hr hlk hP hD hS dX12_rank_268
      · have h := br_pos c21 h
        refine lv_lload hx hb dX12_rank_260 (lv_at hl 2 rfl) ?_
        refine lv_lconst (v := 0) hx hb dX12_rank_262 (by decide) ?_
        refine xl_eq (tgt := 269) hx hb dX12_rank_263 dX12_rank_264 (by decide) (fun c22 => ?_) (fun c22 => ?_)
        · have h := br_pos c22 h
          refine lv_aload_n hx hb dX12_rank_269 rfl (lv_at hl 0 rfl) ?_
          refine lv_iload hx hb dX12_rank_270 (lv_at hl 3 rfl) ?_
          obtain ⟨t_behind_c272_22, e_c272_22, h⟩ := bnd1_ok h
          have hP : va_P D vwCl ((h_t, .inr (12, (.int 0 :: z_t_1 :: z_t_2 :: .int t_a :: .int t_b :: .int t_root :: .ref h_t_has :: .ref h_t_us :: .ref h_t_vs :: .ref h_t_ds :: z_t_10 :: z_t_11 :: z_t_12 :: z_t_13 :: z_t_14 :: z_t_15 :: z_t_16 :: z_t_17 :: z_t_18 :: z_t_19 :: z_t_20 :: z_t_21 :: z_t_22 :: z_t_23 :: z_t_24 :: .ref h_t_behind :: .ref h_t_hand :: z_t_27 :: z_t_28 :: z_t_29 :: z_t_30 :: z_t_31 :: z_t_32 :: z_t_33 :: z_t_34 :: z_t_35 :: z_t_36 :: z_t_37 :: z_t_38 :: z_t_39 :: z_t_40 :: z_t_41 :: z_t_42 :: z_t_43 :: z_t_44 :: z_t_45 :: z_t_46 :: z_t_47 :: z_t_48 :: z_t_49 :: z_t_50 :: z_t_51 :: z_t_52 :: z_t_53 :: z_t_54 :: z_t_55 :: z_t_56 :: z_t_57 :: z_t_58 :: z_t_59 :: z_t_60 :: []))) :: (h_t_behind, .inl (k_t_behind, 64, .inr (.inl t_behind))) :: (h_t_has, .inl (k_t_has, 10, .inl t_has)) :: (h_t_us, .inl (k_t_us, 10, .inl t_us)) :: (h_t_vs, .inl (k_t_vs, 10, .inl t_vs)) :: (h_t_ds, .inl (k_t_ds, 10, .inl t_ds)) :: (h_t_hand, .inl (k_t_hand, 64, .inl x_t_hand_L147_19)) :: R) _ := pm_P [0, 5, 1, 2, 3, 4, 6] 7 hP
          have hD : va_D A ((h_t, .inr (12, (.int 0 :: z_t_1 :: z_t_2 :: .int t_a :: .int t_b :: .int t_root :: .ref h_t_has :: .ref h_t_us :: .ref h_t_vs :: .ref h_t_ds :: z_t_10 :: z_t_11 :: z_t_12 :: z_t_13 :: z_t_14 :: z_t_15 :: z_t_16 :: z_t_17 :: z_t_18 :: z_t_19 :: z_t_20 :: z_t_21 :: z_t_22 :: z_t_23 :: z_t_24 :: .ref h_t_behind :: .ref h_t_hand :: z_t_27 :: z_t_28 :: z_t_29 :: z_t_30 :: z_t_31 :: z_t_32 :: z_t_33 :: z_t_34 :: z_t_35 :: z_t_36 :: z_t_37 :: z_t_38 :: z_t_39 :: z_t_40 :: z_t_41 :: z_t_42 :: z_t_43 :: z_t_44 :: z_t_45 :: z_t_46 :: z_t_47 :: z_t_48 :: z_t_49 :: z_t_50 :: z_t_51 :: z_t_52 :: z_t_53 :: z_t_54 :: z_t_55 :: z_t_56 :: z_t_57 :: z_t_58 :: z_t_59 :: z_t_60 :: []))) :: (h_t_behind, .inl (k_t_behind, 64, .inr (.inl t_behind))) :: (h_t_has, .inl (k_t_has, 10, .inl t_has)) :: (h_t_us, .inl (k_t_us, 10, .inl t_us)) :: (h_t_vs, .inl (k_t_vs, 10, .inl t_vs)) :: (h_t_ds, .inl (k_t_ds, 10, .inl t_ds)) :: (h_t_hand, .inl (k_t_hand, 64, .inl x_t_hand_L147_19)) :: R) := pm_D (X := [(h_t, .inr (12, (.int 0 :: z_t_1 :: z_t_2 :: .int t_a :: .int t_b :: .int t_root :: .ref h_t_has :: .ref h_t_us :: .ref h_t_vs :: .ref h_t_ds :: z_t_10 :: z_t_11 :: z_t_12 :: z_t_13 :: z_t_14 :: z_t_15 :: z_t_16 :: z_t_17 :: z_t_18 :: z_t_19 :: z_t_20 :: z_t_21 :: z_t_22 :: z_t_23 :: z_t_24 :: .ref h_t_behind :: .ref h_t_hand :: z_t_27 :: z_t_28 :: z_t_29 :: z_t_30 :: z_t_31 :: z_t_32 :: z_t_33 :: z_t_34 :: z_t_35 :: z_t_36 :: z_t_37 :: z_t_38 :: z_t_39 :: z_t_40 :: z_t_41 :: z_t_42 :: z_t_43 :: z_t_44 :: z_t_45 :: z_t_46 :: z_t_47 :: z_t_48 :: z_t_49 :: z_t_50 :: z_t_51 :: z_t_52 :: z_t_53 :: z_t_54 :: z_t_55 :: z_t_56 :: z_t_57 :: z_t_58 :: z_t_59 :: z_t_60 :: []))), (h_t_behind, .inl (k_t_behind, 64, .inr (.inl t_behind))), (h_t_has, .inl (k_t_has, 10, .inl t_has)), (h_t_us, .inl (k_t_us, 10, .inl t_us)), (h_t_vs, .inl (k_t_vs, 10, .inl t_vs)), (h_t_ds, .inl (k_t_ds, 10, .inl t_ds)), (h_t_hand, .inl (k_t_hand, 64, .inl x_t_hand_L147_19))]) [0, 5, 1, 2, 3, 4, 6] 7 (by decide) (by decide) rfl hD
          refine cl_v (rn_v (ci := 12) (As := [.int (x12_L71_11 + 1)]) (rest := []) S (c_X12_count0 l D ((h_t_has, .inl (k_t_has, 10, .inl t_has)) :: (h_t_us, .inl (k_t_us, 10, .inl t_us)) :: (h_t_vs, .inl (k_t_vs, 10, .inl t_vs)) :: (h_t_ds, .inl (k_t_ds, 10, .inl t_ds)) :: (h_t_hand, .inl (k_t_hand, 64, .inl x_t_hand_L147_19)) :: R) h_t (.int 0) (z_t_1) (z_t_2) t_a t_b (.int t_root) (.ref h_t_has) (.ref h_t_us) (.ref h_t_vs) (.ref h_t_ds) (z_t_10) (z_t_11) (z_t_12) (z_t_13) (z_t_14) (z_t_15) (z_t_16) (z_t_17) (z_t_18) (z_t_19) (z_t_20) (z_t_21) (z_t_22) (z_t_23) (z_t_24) (.ref h_t_hand) (z_t_27) (z_t_28) (z_t_29) (z_t_30) (z_t_31) (z_t_32) (z_t_33) (z_t_34) (z_t_35) (z_t_36) (z_t_37) (z_t_38) (z_t_39) (z_t_40) (z_t_41) (z_t_42) (z_t_43) (z_t_44) (z_t_45) (z_t_46) (z_t_47) (z_t_48) (z_t_49) (z_t_50) (z_t_51) (z_t_52) (z_t_53) (z_t_54) (z_t_55) (z_t_56) (z_t_57) (z_t_58) (z_t_59) (z_t_60) h_t_behind k_t_behind t_behind (x12_L71_11 + 1) t_behind_c272_22 e_c272_22 _) q1283 q1285 q42 q61 q1286 nd_X12_count0 ⟨Nat.le_of_ble_eq_true rfl, Nat.le_of_ble_eq_true rfl⟩ rfl rfl hP hD (hK.sub (tys' := [(k_t_behind, .long)]) [4] rfl) hN rfl ⟨0, _, rfl⟩ rfl hl.1 rfl (Nat.le_of_ble_eq_true rfl) dX12_rank_272 ⟨Nat.le_of_ble_eq_true rfl, Nat.le_of_ble_eq_true rfl⟩) hS hA hD (fun H locs hP hD hS => ?_)
          have hP : va_P D vwCl ((h_t, .inr (12, (.int 0 :: z_t_1 :: z_t_2 :: .int t_a :: .int t_b :: .int t_root :: .ref h_t_has :: .ref h_t_us :: .ref h_t_vs :: .ref h_t_ds :: z_t_10 :: z_t_11 :: z_t_12 :: z_t_13 :: z_t_14 :: z_t_15 :: z_t_16 :: z_t_17 :: z_t_18 :: z_t_19 :: z_t_20 :: z_t_21 :: z_t_22 :: z_t_23 :: z_t_24 :: .ref h_t_behind :: .ref h_t_hand :: z_t_27 :: z_t_28 :: z_t_29 :: z_t_30 :: z_t_31 :: z_t_32 :: z_t_33 :: z_t_34 :: z_t_35 :: z_t_36 :: z_t_37 :: z_t_38 :: z_t_39 :: z_t_40 :: z_t_41 :: z_t_42 :: z_t_43 :: z_t_44 :: z_t_45 :: z_t_46 :: z_t_47 :: z_t_48 :: z_t_49 :: z_t_50 :: z_t_51 :: z_t_52 :: z_t_53 :: z_t_54 :: z_t_55 :: z_t_56 :: z_t_57 :: z_t_58 :: z_t_59 :: z_t_60 :: []))) :: (h_t_has, .inl (k_t_has, 10, .inl t_has)) :: (h_t_us, .inl (k_t_us, 10, .inl t_us)) :: (h_t_vs, .inl (k_t_vs, 10, .inl t_vs)) :: (h_t_ds, .inl (k_t_ds, 10, .inl t_ds)) :: (h_t_behind, .inl (k_t_behind, 64, .inr (.inl t_behind_c272_22))) :: (h_t_hand, .inl (k_t_hand, 64, .inl x_t_hand_L147_19)) :: R) H := pm_P [0, 2, 3, 4, 5, 1, 6] 7 hP
          have hD : va_D A ((h_t, .inr (12, (.int 0 :: z_t_1 :: z_t_2 :: .int t_a :: .int t_b :: .int t_root :: .ref h_t_has :: .ref h_t_us :: .ref h_t_vs :: .ref h_t_ds :: z_t_10 :: z_t_11 :: z_t_12 :: z_t_13 :: z_t_14 :: z_t_15 :: z_t_16 :: z_t_17 :: z_t_18 :: z_t_19 :: z_t_20 :: z_t_21 :: z_t_22 :: z_t_23 :: z_t_24 :: .ref h_t_behind :: .ref h_t_hand :: z_t_27 :: z_t_28 :: z_t_29 :: z_t_30 :: z_t_31 :: z_t_32 :: z_t_33 :: z_t_34 :: z_t_35 :: z_t_36 :: z_t_37 :: z_t_38 :: z_t_39 :: z_t_40 :: z_t_41 :: z_t_42 :: z_t_43 :: z_t_44 :: z_t_45 :: z_t_46 :: z_t_47 :: z_t_48 :: z_t_49 :: z_t_50 :: z_t_51 :: z_t_52 :: z_t_53 :: z_t_54 :: z_t_55 :: z_t_56 :: z_t_57 :: z_t_58 :: z_t_59 :: z_t_60 :: []))) :: (h_t_has, .inl (k_t_has, 10, .inl t_has)) :: (h_t_us, .inl (k_t_us, 10, .inl t_us)) :: (h_t_vs, .inl (k_t_vs, 10, .inl t_vs)) :: (h_t_ds, .inl (k_t_ds, 10, .inl t_ds)) :: (h_t_behind, .inl (k_t_behind, 64, .inr (.inl t_behind_c272_22))) :: (h_t_hand, .inl (k_t_hand, 64, .inl x_t_hand_L147_19)) :: R) := pm_D (X := [(h_t, .inr (12, (.int 0 :: z_t_1 :: z_t_2 :: .int t_a :: .int t_b :: .int t_root :: .ref h_t_has :: .ref h_t_us :: .ref h_t_vs :: .ref h_t_ds :: z_t_10 :: z_t_11 :: z_t_12 :: z_t_13 :: z_t_14 :: z_t_15 :: z_t_16 :: z_t_17 :: z_t_18 :: z_t_19 :: z_t_20 :: z_t_21 :: z_t_22 :: z_t_23 :: z_t_24 :: .ref h_t_behind :: .ref h_t_hand :: z_t_27 :: z_t_28 :: z_t_29 :: z_t_30 :: z_t_31 :: z_t_32 :: z_t_33 :: z_t_34 :: z_t_35 :: z_t_36 :: z_t_37 :: z_t_38 :: z_t_39 :: z_t_40 :: z_t_41 :: z_t_42 :: z_t_43 :: z_t_44 :: z_t_45 :: z_t_46 :: z_t_47 :: z_t_48 :: z_t_49 :: z_t_50 :: z_t_51 :: z_t_52 :: z_t_53 :: z_t_54 :: z_t_55 :: z_t_56 :: z_t_57 :: z_t_58 :: z_t_59 :: z_t_60 :: []))), (h_t_has, .inl (k_t_has, 10, .inl t_has)), (h_t_us, .inl (k_t_us, 10, .inl t_us)), (h_t_vs, .inl (k_t_vs, 10, .inl t_vs)), (h_t_ds, .inl (k_t_ds, 10, .inl t_ds)), (h_t_behind, .inl (k_t_behind, 64, .inr (.inl t_behind_c272_22))), (h_t_hand, .inl (k_t_hand, 64, .inl x_t_hand_L147_19))]) [0, 2, 3, 4, 5, 1, 6] 7 (by decide) (by decide) rfl hD
          refine lv_lconst (v := 0) hx hb dX12_rank_275 (by decide) ?_
          refine lv_lstore (lv' := [(14, .long 0), (0, .ref h_t), (2, .long x2_L147_19), (4, .long x4_L147_19), (13, .int (x12_L71_11 + 1))]) hx hb dX12_rank_276 hl (by decide) rfl (fun ls hl => ?_)
          refine lv_iconst (v := 0) hx hb dX12_rank_278 (by decide) ?_
          refine lv_istore (lv' := [(16, .int 0), (14, .long 0), (0, .ref h_t), (2, .long x2_L147_19), (4, .long x4_L147_19), (13, .int (x12_L71_11 + 1))]) hx hb dX12_rank_279 hl (by decide) rfl (fun ls hl => ?_)
          refine lv_iconst (v := 0) hx hb dX12_rank_281 (by decide) ?_
          refine lv_istore (lv' := [(17, .int 0), (16, .int 0), (14, .long 0), (0, .ref h_t), (2, .long x2_L147_19), (4, .long x4_L147_19), (13, .int (x12_L71_11 + 1))]) hx hb dX12_rank_282 hl (by decide) rfl (fun ls hl => ?_)
          obtain ⟨x14_L284_29, e_L284_29, h⟩ := bnd1_ok h
          refine L284 _ _ (x12_L71_11 + 1) 0 0 0 0 t_behind_c272_22 x_t_hand_L147_19 x14_L284_29 e_L284_29 _ _ _ hP hD hS (lv_sub hl [3, 6, 2, 1, 0] rfl) ?_
          intro H locs ls hP hD hS hl
          refine lv_lload hx hb dX12_rank_361 (lv_at hl 0 rfl) ?_
          refine lv_ldc2 (v := 50000) hx hb hown (ha _ q1296) dX12_rank_363 ?_
          refine xl_le (tgt := 374) hx hb dX12_rank_366 dX12_rank_367 (by decide) (fun c31 => ?_) (fun c31 => ?_)
          · have h := br_pos c31 h
            refine lv_lload hx hb dX12_rank_374 (lv_at hl 0 rfl) ?_
            refine lv_l2i (v := x14_L284_29.toInt32) hx hb dX12_rank_376 rfl ?_
            cases h
            exact rt_i S hr hlk hP hD hS dX12_rank_377
          · have h := br_neg c31 h
            refine lv_iconst (v := (-1)) hx hb dX12_rank_370 (by decide) ?_
            refine lv_goto (tgt := 377) hx hb dX12_rank_371 (by decide) ?_
            cases h
            exact rt_i S hr hlk hP hD hS dX12_rank_377
        · have h := br_neg c22 h
          refine lv_iconst (v := (-1)) hx hb dX12_rank_267 (by decide) ?_
          cases h
          exact rt_i S hr hlk hP hD hS dX12_rank_268
    · have h := br_neg c6 h
      refine lv_iconst (v := (-1)) hx hb dX12_rank_34 (by decide) ?_
      cases h
      exact rt_i S hr hlk hP hD hS dX12_rank_35
