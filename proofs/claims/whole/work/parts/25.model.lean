noncomputable def f_X12_ring (t_thrown : Int32) (t_parts : Int32) (t_ringP : Int32) (t_ringQ : Int32) (t_baseY : Int32) (t_baseZ : Int32) (t_norm : Int32) (t_setMany : Int32) (l1 : Int32) (l2 : Int32) (l3 : Int32) (l4 : Int32) (l5 : Int32) : Option (Int32 × Int32 × Int32 × Int32 × Int32 × Int32 × Int32 × Int32 × Int32) :=
  if l1 = 0 then (
   if l2 < (-9) then (
    some (0, 0, t_parts, t_ringP, t_ringQ, t_baseY, t_baseZ, t_norm, t_setMany)
   ) else (
    if 9 < l2 then (
     some (0, 0, t_parts, t_ringP, t_ringQ, t_baseY, t_baseZ, t_norm, t_setMany)
    ) else (
     if l3 < (-9) then (
      some (0, 0, t_parts, t_ringP, t_ringQ, t_baseY, t_baseZ, t_norm, t_setMany)
     ) else (
      if 9 < l3 then (
       some (0, 0, t_parts, t_ringP, t_ringQ, t_baseY, t_baseZ, t_norm, t_setMany)
      ) else (
       if l4 < (-100000) then (
        some (0, 0, t_parts, t_ringP, t_ringQ, t_baseY, t_baseZ, t_norm, t_setMany)
       ) else (
        if 100000 < l4 then (
         some (0, 0, t_parts, t_ringP, t_ringQ, t_baseY, t_baseZ, t_norm, t_setMany)
        ) else (
         if l5 < (-100000) then (
          some (0, 0, t_parts, t_ringP, t_ringQ, t_baseY, t_baseZ, t_norm, t_setMany)
         ) else (
          if l5 ≤ 100000 then (
           if 0 ≤ (((l4.toInt64 * l4.toInt64) + ((l2.toInt64 * l4.toInt64) * l5.toInt64)) - ((l3.toInt64 * l5.toInt64) * l5.toInt64)) then (
            if (((l4.toInt64 * l4.toInt64) + ((l2.toInt64 * l4.toInt64) * l5.toInt64)) - ((l3.toInt64 * l5.toInt64) * l5.toInt64)) < 2 then (
             some (0, 0, t_parts, t_ringP, t_ringQ, t_baseY, t_baseZ, t_norm, t_setMany)
            ) else (
             if (((l4.toInt64 * l4.toInt64) + ((l2.toInt64 * l4.toInt64) * l5.toInt64)) - ((l3.toInt64 * l5.toInt64) * l5.toInt64)) ≤ 25 then (
              some (1, 0, 2, l2, l3, l4, l5, (((l4.toInt64 * l4.toInt64) + ((l2.toInt64 * l4.toInt64) * l5.toInt64)) - ((l3.toInt64 * l5.toInt64) * l5.toInt64)).toInt32, 0)
             ) else (
              some (0, 0, t_parts, t_ringP, t_ringQ, t_baseY, t_baseZ, t_norm, t_setMany)
             )
            )
           ) else (
            if (-(((l4.toInt64 * l4.toInt64) + ((l2.toInt64 * l4.toInt64) * l5.toInt64)) - ((l3.toInt64 * l5.toInt64) * l5.toInt64))) < 2 then (
             some (0, 0, t_parts, t_ringP, t_ringQ, t_baseY, t_baseZ, t_norm, t_setMany)
            ) else (
             if (-(((l4.toInt64 * l4.toInt64) + ((l2.toInt64 * l4.toInt64) * l5.toInt64)) - ((l3.toInt64 * l5.toInt64) * l5.toInt64))) ≤ 25 then (
              some (1, 0, 2, l2, l3, l4, l5, (-(((l4.toInt64 * l4.toInt64) + ((l2.toInt64 * l4.toInt64) * l5.toInt64)) - ((l3.toInt64 * l5.toInt64) * l5.toInt64))).toInt32, 0)
             ) else (
              some (0, 0, t_parts, t_ringP, t_ringQ, t_baseY, t_baseZ, t_norm, t_setMany)
             )
            )
           )
          ) else (
           some (0, 0, t_parts, t_ringP, t_ringQ, t_baseY, t_baseZ, t_norm, t_setMany)
          )
         )
        )
       )
      )
     )
    )
   )
  ) else (
   if 0 ≤ l4.toInt64 then (
    if l4.toInt64 < 2 then (
     some (0, 0, t_parts, t_ringP, t_ringQ, t_baseY, t_baseZ, t_norm, t_setMany)
    ) else (
     if l4.toInt64 ≤ 25 then (
      some (1, 0, 1, 0, 0, l4, 0, l4.toInt64.toInt32, 0)
     ) else (
      some (0, 0, t_parts, t_ringP, t_ringQ, t_baseY, t_baseZ, t_norm, t_setMany)
     )
    )
   ) else (
    if (-l4.toInt64) < 2 then (
     some (0, 0, t_parts, t_ringP, t_ringQ, t_baseY, t_baseZ, t_norm, t_setMany)
    ) else (
     if (-l4.toInt64) ≤ 25 then (
      some (1, 0, 1, 0, 0, l4, 0, (-l4.toInt64).toInt32, 0)
     ) else (
      some (0, 0, t_parts, t_ringP, t_ringQ, t_baseY, t_baseZ, t_norm, t_setMany)
     )
    )
   )
  )
set_option maxHeartbeats 4000000 in
set_option maxRecDepth 100000 in
theorem c_X12_ring (l : Launch) (D : va_G) (R : va_W) (h_t : Nat) (t_thrown : Int32) (z_t_1 : Value) (z_t_2 : Value) (z_t_3 : Value) (z_t_4 : Value) (z_t_5 : Value) (z_t_6 : Value) (z_t_7 : Value) (z_t_8 : Value) (z_t_9 : Value) (z_t_10 : Value) (z_t_11 : Value) (z_t_12 : Value) (z_t_13 : Value) (z_t_14 : Value) (z_t_15 : Value) (z_t_16 : Value) (z_t_17 : Value) (z_t_18 : Value) (z_t_19 : Value) (z_t_20 : Value) (z_t_21 : Value) (z_t_22 : Value) (z_t_23 : Value) (z_t_24 : Value) (z_t_25 : Value) (z_t_26 : Value) (t_parts : Int32) (t_ringP : Int32) (t_ringQ : Int32) (t_baseY : Int32) (t_baseZ : Int32) (t_norm : Int32) (t_setMany : Int32) (z_t_34 : Value) (z_t_35 : Value) (z_t_36 : Value) (z_t_37 : Value) (z_t_38 : Value) (z_t_39 : Value) (z_t_40 : Value) (z_t_41 : Value) (z_t_42 : Value) (z_t_43 : Value) (z_t_44 : Value) (z_t_45 : Value) (z_t_46 : Value) (z_t_47 : Value) (z_t_48 : Value) (z_t_49 : Value) (z_t_50 : Value) (z_t_51 : Value) (z_t_52 : Value) (z_t_53 : Value) (z_t_54 : Value) (z_t_55 : Value) (z_t_56 : Value) (z_t_57 : Value) (z_t_58 : Value) (z_t_59 : Value) (z_t_60 : Value) (l1 : Int32) (l2 : Int32) (l3 : Int32) (l4 : Int32) (l5 : Int32) (r : Int32) (o_t_thrown : Int32) (o_t_parts : Int32) (o_t_ringP : Int32) (o_t_ringQ : Int32) (o_t_baseY : Int32) (o_t_baseZ : Int32) (o_t_norm : Int32) (o_t_setMany : Int32)  (h : f_X12_ring t_thrown t_parts t_ringP t_ringQ t_baseY t_baseZ t_norm t_setMany l1 l2 l3 l4 l5 = some (r, o_t_thrown, o_t_parts, o_t_ringP, o_t_ringQ, o_t_baseY, o_t_baseZ, o_t_norm, o_t_setMany)) (sz : Nat) : Met l yX12_ring (WD yX12_ring cX12_ring 10 (some .boolean)) ({ frames := 0, cells := 0, slots := 0, locals := 0 }) (va_Pc [.ref h_t, .int l1, .int l2, .int l3, .int l4, .int l5] (PcW D [] ((h_t, .inr (12, (.int t_thrown :: z_t_1 :: z_t_2 :: z_t_3 :: z_t_4 :: z_t_5 :: z_t_6 :: z_t_7 :: z_t_8 :: z_t_9 :: z_t_10 :: z_t_11 :: z_t_12 :: z_t_13 :: z_t_14 :: z_t_15 :: z_t_16 :: z_t_17 :: z_t_18 :: z_t_19 :: z_t_20 :: z_t_21 :: z_t_22 :: z_t_23 :: z_t_24 :: z_t_25 :: z_t_26 :: .int t_parts :: .int t_ringP :: .int t_ringQ :: .int t_baseY :: .int t_baseZ :: .int t_norm :: .int t_setMany :: z_t_34 :: z_t_35 :: z_t_36 :: z_t_37 :: z_t_38 :: z_t_39 :: z_t_40 :: z_t_41 :: z_t_42 :: z_t_43 :: z_t_44 :: z_t_45 :: z_t_46 :: z_t_47 :: z_t_48 :: z_t_49 :: z_t_50 :: z_t_51 :: z_t_52 :: z_t_53 :: z_t_54 :: z_t_55 :: z_t_56 :: z_t_57 :: z_t_58 :: z_t_59 :: z_t_60 :: []))) :: R) sz)) (QZ D r ((h_t, .inr (12, (.int o_t_thrown :: z_t_1 :: z_t_2 :: z_t_3 :: z_t_4 :: z_t_5 :: z_t_6 :: z_t_7 :: z_t_8 :: z_t_9 :: z_t_10 :: z_t_11 :: z_t_12 :: z_t_13 :: z_t_14 :: z_t_15 :: z_t_16 :: z_t_17 :: z_t_18 :: z_t_19 :: z_t_20 :: z_t_21 :: z_t_22 :: z_t_23 :: z_t_24 :: z_t_25 :: z_t_26 :: .int o_t_parts :: .int o_t_ringP :: .int o_t_ringQ :: .int o_t_baseY :: .int o_t_baseZ :: .int o_t_norm :: .int o_t_setMany :: z_t_34 :: z_t_35 :: z_t_36 :: z_t_37 :: z_t_38 :: z_t_39 :: z_t_40 :: z_t_41 :: z_t_42 :: z_t_43 :: z_t_44 :: z_t_45 :: z_t_46 :: z_t_47 :: z_t_48 :: z_t_49 :: z_t_50 :: z_t_51 :: z_t_52 :: z_t_53 :: z_t_54 :: z_t_55 :: z_t_56 :: z_t_57 :: z_t_58 :: z_t_59 :: z_t_60 :: []))) :: R) (va_A ((h_t, .inr (12, (.int t_thrown :: z_t_1 :: z_t_2 :: z_t_3 :: z_t_4 :: z_t_5 :: z_t_6 :: z_t_7 :: z_t_8 :: z_t_9 :: z_t_10 :: z_t_11 :: z_t_12 :: z_t_13 :: z_t_14 :: z_t_15 :: z_t_16 :: z_t_17 :: z_t_18 :: z_t_19 :: z_t_20 :: z_t_21 :: z_t_22 :: z_t_23 :: z_t_24 :: z_t_25 :: z_t_26 :: .int t_parts :: .int t_ringP :: .int t_ringQ :: .int t_baseY :: .int t_baseZ :: .int t_norm :: .int t_setMany :: z_t_34 :: z_t_35 :: z_t_36 :: z_t_37 :: z_t_38 :: z_t_39 :: z_t_40 :: z_t_41 :: z_t_42 :: z_t_43 :: z_t_44 :: z_t_45 :: z_t_46 :: z_t_47 :: z_t_48 :: z_t_49 :: z_t_50 :: z_t_51 :: z_t_52 :: z_t_53 :: z_t_54 :: z_t_55 :: z_t_56 :: z_t_57 :: z_t_58 :: z_t_59 :: z_t_60 :: []))) :: R) sz)) 0 0 (va_A ((h_t, .inr (12, (.int t_thrown :: z_t_1 :: z_t_2 :: z_t_3 :: z_t_4 :: z_t_5 :: z_t_6 :: z_t_7 :: z_t_8 :: z_t_9 :: z_t_10 :: z_t_11 :: z_t_12 :: z_t_13 :: z_t_14 :: z_t_15 :: z_t_16 :: z_t_17 :: z_t_18 :: z_t_19 :: z_t_20 :: z_t_21 :: z_t_22 :: z_t_23 :: z_t_24 :: z_t_25 :: z_t_26 :: .int t_parts :: .int t_ringP :: .int t_ringQ :: .int t_baseY :: .int t_baseZ :: .int t_norm :: .int t_setMany :: z_t_34 :: z_t_35 :: z_t_36 :: z_t_37 :: z_t_38 :: z_t_39 :: z_t_40 :: z_t_41 :: z_t_42 :: z_t_43 :: z_t_44 :: z_t_45 :: z_t_46 :: z_t_47 :: z_t_48 :: z_t_49 :: z_t_50 :: z_t_51 :: z_t_52 :: z_t_53 :: z_t_54 :: z_t_55 :: z_t_56 :: z_t_57 :: z_t_58 :: z_t_59 :: z_t_60 :: []))) :: R) sz) := by
  refine ct_start (QF := fun A => QZ D r ((h_t, .inr (12, (.int o_t_thrown :: z_t_1 :: z_t_2 :: z_t_3 :: z_t_4 :: z_t_5 :: z_t_6 :: z_t_7 :: z_t_8 :: z_t_9 :: z_t_10 :: z_t_11 :: z_t_12 :: z_t_13 :: z_t_14 :: z_t_15 :: z_t_16 :: z_t_17 :: z_t_18 :: z_t_19 :: z_t_20 :: z_t_21 :: z_t_22 :: z_t_23 :: z_t_24 :: z_t_25 :: z_t_26 :: .int o_t_parts :: .int o_t_ringP :: .int o_t_ringQ :: .int o_t_baseY :: .int o_t_baseZ :: .int o_t_norm :: .int o_t_setMany :: z_t_34 :: z_t_35 :: z_t_36 :: z_t_37 :: z_t_38 :: z_t_39 :: z_t_40 :: z_t_41 :: z_t_42 :: z_t_43 :: z_t_44 :: z_t_45 :: z_t_46 :: z_t_47 :: z_t_48 :: z_t_49 :: z_t_50 :: z_t_51 :: z_t_52 :: z_t_53 :: z_t_54 :: z_t_55 :: z_t_56 :: z_t_57 :: z_t_58 :: z_t_59 :: z_t_60 :: []))) :: R) A) ?_ ?_ ?_
  · decide +kernel
  · exact Nat.le_of_ble_eq_true rfl
  intro p e s m args below meth c A ls S hr hlk hnm hS hA hP hD hK hN hl
  have S : CallFix p m c cX12_ring 10 s args AL "DigitBenchModel" := S
  have hx := S.1
  have hb := S.2.1
  have hown := S.2.2.2.1
  have ha := S.2.2.2.2
  have hl : lv_has ls 10 [(0, .ref h_t), (1, .int l1), (2, .int l2), (3, .int l3), (4, .int l4), (5, .int l5)] := hl
  unfold f_X12_ring at h
  refine lv_aload_n hx hb dX12_ring_0 rfl (lv_at hl 0 rfl) ?_
  refine lv_iconst (v := 0) hx hb dX12_ring_1 (by decide) ?_
  refine va_put (D := D) (ci := 12) (v := .int 0) (ty := .int) (C := RX12) (T := TX12) (N := 61) hx hb ha ix12 tyX12 tyX12_ok nmX12 hown hK hP hD hS 0 rfl rfl 0 (by decide) (ha _ q960) (fun _ h9 => h9) rfl (by decide +kernel) rfl rfl (Nat.le_of_ble_eq_true rfl) dX12_ring_2 (fun H locs hP hD hS => ?_)
  have hP : va_P D vwCl ((h_t, .inr (12, (.int 0 :: z_t_1 :: z_t_2 :: z_t_3 :: z_t_4 :: z_t_5 :: z_t_6 :: z_t_7 :: z_t_8 :: z_t_9 :: z_t_10 :: z_t_11 :: z_t_12 :: z_t_13 :: z_t_14 :: z_t_15 :: z_t_16 :: z_t_17 :: z_t_18 :: z_t_19 :: z_t_20 :: z_t_21 :: z_t_22 :: z_t_23 :: z_t_24 :: z_t_25 :: z_t_26 :: .int t_parts :: .int t_ringP :: .int t_ringQ :: .int t_baseY :: .int t_baseZ :: .int t_norm :: .int t_setMany :: z_t_34 :: z_t_35 :: z_t_36 :: z_t_37 :: z_t_38 :: z_t_39 :: z_t_40 :: z_t_41 :: z_t_42 :: z_t_43 :: z_t_44 :: z_t_45 :: z_t_46 :: z_t_47 :: z_t_48 :: z_t_49 :: z_t_50 :: z_t_51 :: z_t_52 :: z_t_53 :: z_t_54 :: z_t_55 :: z_t_56 :: z_t_57 :: z_t_58 :: z_t_59 :: z_t_60 :: []))) :: R) H := hP
  have hD : va_D A ((h_t, .inr (12, (.int 0 :: z_t_1 :: z_t_2 :: z_t_3 :: z_t_4 :: z_t_5 :: z_t_6 :: z_t_7 :: z_t_8 :: z_t_9 :: z_t_10 :: z_t_11 :: z_t_12 :: z_t_13 :: z_t_14 :: z_t_15 :: z_t_16 :: z_t_17 :: z_t_18 :: z_t_19 :: z_t_20 :: z_t_21 :: z_t_22 :: z_t_23 :: z_t_24 :: z_t_25 :: z_t_26 :: .int t_parts :: .int t_ringP :: .int t_ringQ :: .int t_baseY :: .int t_baseZ :: .int t_norm :: .int t_setMany :: z_t_34 :: z_t_35 :: z_t_36 :: z_t_37 :: z_t_38 :: z_t_39 :: z_t_40 :: z_t_41 :: z_t_42 :: z_t_43 :: z_t_44 :: z_t_45 :: z_t_46 :: z_t_47 :: z_t_48 :: z_t_49 :: z_t_50 :: z_t_51 :: z_t_52 :: z_t_53 :: z_t_54 :: z_t_55 :: z_t_56 :: z_t_57 :: z_t_58 :: z_t_59 :: z_t_60 :: []))) :: R) := hD
  refine lv_iload_n hx hb dX12_ring_5 rfl (lv_at hl 1 rfl) ?_
  refine lv_if_eq (tgt := 17) hx hb dX12_ring_6 (by decide) (fun c1 => ?_) (fun c1 => ?_)
  · have h := br_pos c1 h
    refine lv_iload_n hx hb dX12_ring_17 rfl (lv_at hl 2 rfl) ?_
    refine lv_bipush (v := (-9)) hx hb dX12_ring_18 (by decide) ?_
    refine lv_icmp_lt (tgt := 69) hx hb dX12_ring_20 (by decide) (fun c2 => ?_) (fun c2 => ?_)
    · have h := br_pos c2 h
      refine lv_iconst (v := 0) hx hb dX12_ring_69 (by decide) ?_
      cases h
      exact rt_z S hr hlk hP hD hS (by decide) dX12_ring_70
    · have h := br_neg c2 h
      refine lv_iload_n hx hb dX12_ring_23 rfl (lv_at hl 2 rfl) ?_
      refine lv_bipush (v := 9) hx hb dX12_ring_24 (by decide) ?_
      refine lv_icmp_gt (tgt := 69) hx hb dX12_ring_26 (by decide) (fun c3 => ?_) (fun c3 => ?_)
      · have h := br_pos c3 h
        refine lv_iconst (v := 0) hx hb dX12_ring_69 (by decide) ?_
        cases h
        exact rt_z S hr hlk hP hD hS (by decide) dX12_ring_70
      · have h := br_neg c3 h
        refine lv_iload_n hx hb dX12_ring_29 rfl (lv_at hl 3 rfl) ?_
        refine lv_bipush (v := (-9)) hx hb dX12_ring_30 (by decide) ?_
        refine lv_icmp_lt (tgt := 69) hx hb dX12_ring_32 (by decide) (fun c4 => ?_) (fun c4 => ?_)
        · have h := br_pos c4 h
          refine lv_iconst (v := 0) hx hb dX12_ring_69 (by decide) ?_
          cases h
          exact rt_z S hr hlk hP hD hS (by decide) dX12_ring_70
        · have h := br_neg c4 h
          refine lv_iload_n hx hb dX12_ring_35 rfl (lv_at hl 3 rfl) ?_
          refine lv_bipush (v := 9) hx hb dX12_ring_36 (by decide) ?_
          refine lv_icmp_gt (tgt := 69) hx hb dX12_ring_38 (by decide) (fun c5 => ?_) (fun c5 => ?_)
          · have h := br_pos c5 h
            refine lv_iconst (v := 0) hx hb dX12_ring_69 (by decide) ?_
            cases h
            exact rt_z S hr hlk hP hD hS (by decide) dX12_ring_70
          · have h := br_neg c5 h
            refine lv_iload hx hb dX12_ring_41 (lv_at hl 4 rfl) ?_
            refine lv_ldc (v := (-100000)) hx hb hown (ha _ q1301) dX12_ring_43 ?_
            refine lv_icmp_lt (tgt := 69) hx hb dX12_ring_45 (by decide) (fun c6 => ?_) (fun c6 => ?_)
            · have h := br_pos c6 h
              refine lv_iconst (v := 0) hx hb dX12_ring_69 (by decide) ?_
              cases h
              exact rt_z S hr hlk hP hD hS (by decide) dX12_ring_70
            · have h := br_neg c6 h
              refine lv_iload hx hb dX12_ring_48 (lv_at hl 4 rfl) ?_
              refine lv_ldc (v := 100000) hx hb hown (ha _ q1302) dX12_ring_50 ?_
              refine lv_icmp_gt (tgt := 69) hx hb dX12_ring_52 (by decide) (fun c7 => ?_) (fun c7 => ?_)
              · have h := br_pos c7 h
                refine lv_iconst (v := 0) hx hb dX12_ring_69 (by decide) ?_
                cases h
                exact rt_z S hr hlk hP hD hS (by decide) dX12_ring_70
              · have h := br_neg c7 h
                refine lv_iload hx hb dX12_ring_55 (lv_at hl 5 rfl) ?_
                refine lv_ldc (v := (-100000)) hx hb hown (ha _ q1301) dX12_ring_57 ?_
                refine lv_icmp_lt (tgt := 69) hx hb dX12_ring_59 (by decide) (fun c8 => ?_) (fun c8 => ?_)
                · have h := br_pos c8 h
                  refine lv_iconst (v := 0) hx hb dX12_ring_69 (by decide) ?_
                  cases h
                  exact rt_z S hr hlk hP hD hS (by decide) dX12_ring_70
                · have h := br_neg c8 h
                  refine lv_iload hx hb dX12_ring_62 (lv_at hl 5 rfl) ?_
                  refine lv_ldc (v := 100000) hx hb hown (ha _ q1302) dX12_ring_64 ?_
                  refine lv_icmp_le (tgt := 71) hx hb dX12_ring_66 (by decide) (fun c9 => ?_) (fun c9 => ?_)
                  · have h := br_pos c9 h
                    refine lv_iload hx hb dX12_ring_71 (lv_at hl 4 rfl) ?_
                    refine lv_i2l (v := l4.toInt64) hx hb dX12_ring_73 rfl ?_
                    refine lv_iload hx hb dX12_ring_74 (lv_at hl 4 rfl) ?_
                    refine lv_i2l (v := l4.toInt64) hx hb dX12_ring_76 rfl ?_
                    refine lv_lmul hx hb dX12_ring_77 ?_
                    refine lv_iload_n hx hb dX12_ring_78 rfl (lv_at hl 2 rfl) ?_
                    refine lv_i2l (v := l2.toInt64) hx hb dX12_ring_79 rfl ?_
                    refine lv_iload hx hb dX12_ring_80 (lv_at hl 4 rfl) ?_
                    refine lv_i2l (v := l4.toInt64) hx hb dX12_ring_82 rfl ?_
                    refine lv_lmul hx hb dX12_ring_83 ?_
                    refine lv_iload hx hb dX12_ring_84 (lv_at hl 5 rfl) ?_
                    refine lv_i2l (v := l5.toInt64) hx hb dX12_ring_86 rfl ?_
                    refine lv_lmul hx hb dX12_ring_87 ?_
                    refine lv_ladd hx hb dX12_ring_88 ?_
                    refine lv_iload_n hx hb dX12_ring_89 rfl (lv_at hl 3 rfl) ?_
                    refine lv_i2l (v := l3.toInt64) hx hb dX12_ring_90 rfl ?_
                    refine lv_iload hx hb dX12_ring_91 (lv_at hl 5 rfl) ?_
                    refine lv_i2l (v := l5.toInt64) hx hb dX12_ring_93 rfl ?_
                    refine lv_lmul hx hb dX12_ring_94 ?_
                    refine lv_iload hx hb dX12_ring_95 (lv_at hl 5 rfl) ?_
                    refine lv_i2l (v := l5.toInt64) hx hb dX12_ring_97 rfl ?_
                    refine lv_lmul hx hb dX12_ring_98 ?_
                    refine lv_lsub hx hb dX12_ring_99 ?_
                    refine lv_lstore (lv' := [(6, .long (((l4.toInt64 * l4.toInt64) + ((l2.toInt64 * l4.toInt64) * l5.toInt64)) - ((l3.toInt64 * l5.toInt64) * l5.toInt64))), (0, .ref h_t), (1, .int l1), (2, .int l2), (3, .int l3), (4, .int l4), (5, .int l5)]) hx hb dX12_ring_100 hl (by decide) rfl (fun ls hl => ?_)
                    refine lv_lload hx hb dX12_ring_102 (lv_at hl 0 rfl) ?_
                    refine lv_lconst (v := 0) hx hb dX12_ring_104 (by decide) ?_
                    refine xl_ge (tgt := 115) hx hb dX12_ring_105 dX12_ring_106 (by decide) (fun c10 => ?_) (fun c10 => ?_)
                    · have h := br_pos c10 h
                      refine lv_lload hx hb dX12_ring_115 (lv_at hl 0 rfl) ?_
                      refine lv_lstore (lv' := [(8, .long (((l4.toInt64 * l4.toInt64) + ((l2.toInt64 * l4.toInt64) * l5.toInt64)) - ((l3.toInt64 * l5.toInt64) * l5.toInt64))), (6, .long (((l4.toInt64 * l4.toInt64) + ((l2.toInt64 * l4.toInt64) * l5.toInt64)) - ((l3.toInt64 * l5.toInt64) * l5.toInt64))), (0, .ref h_t), (1, .int l1), (2, .int l2), (3, .int l3), (4, .int l4), (5, .int l5)]) hx hb dX12_ring_117 hl (by decide) rfl (fun ls hl => ?_)
                      refine lv_lload hx hb dX12_ring_119 (lv_at hl 0 rfl) ?_
                      refine lv_ldc2 (v := 2) hx hb hown (ha _ q1226) dX12_ring_121 ?_
                      refine xl_lt (tgt := 137) hx hb dX12_ring_124 dX12_ring_125 (by decide) (fun c11 => ?_) (fun c11 => ?_)
                      · have h := br_pos c11 h
                        refine lv_iconst (v := 0) hx hb dX12_ring_137 (by decide) ?_
                        cases h
                        exact rt_z S hr hlk hP hD hS (by decide) dX12_ring_138
                      · have h := br_neg c11 h
                        refine lv_lload hx hb dX12_ring_128 (lv_at hl 0 rfl) ?_
                        refine lv_ldc2 (v := 25) hx hb hown (ha _ q1303) dX12_ring_130 ?_
                        refine xl_le (tgt := 139) hx hb dX12_ring_133 dX12_ring_134 (by decide) (fun c12 => ?_) (fun c12 => ?_)
                        · have h := br_pos c12 h
                          refine lv_aload_n hx hb dX12_ring_139 rfl (lv_at hl 2 rfl) ?_
                          refine lv_iload_n hx hb dX12_ring_140 rfl (lv_at hl 3 rfl) ?_
                          refine lv_if_eq (tgt := 148) hx hb dX12_ring_141 (by decide) (fun c13 => ?_) (fun c13 => ?_)
                          · refine lv_iconst (v := 2) hx hb dX12_ring_148 (by decide) ?_
                            refine va_put (D := D) (ci := 12) (v := .int 2) (ty := .int) (C := RX12) (T := TX12) (N := 61) hx hb ha ix12 tyX12 tyX12_ok nmX12 hown hK hP hD hS 0 rfl rfl 27 (by decide) (ha _ q987) (fun _ h9 => h9) rfl (by decide +kernel) rfl rfl (Nat.le_of_ble_eq_true rfl) dX12_ring_149 (fun H locs hP hD hS => ?_)
                            have hP : va_P D vwCl ((h_t, .inr (12, (.int 0 :: z_t_1 :: z_t_2 :: z_t_3 :: z_t_4 :: z_t_5 :: z_t_6 :: z_t_7 :: z_t_8 :: z_t_9 :: z_t_10 :: z_t_11 :: z_t_12 :: z_t_13 :: z_t_14 :: z_t_15 :: z_t_16 :: z_t_17 :: z_t_18 :: z_t_19 :: z_t_20 :: z_t_21 :: z_t_22 :: z_t_23 :: z_t_24 :: z_t_25 :: z_t_26 :: .int 2 :: .int t_ringP :: .int t_ringQ :: .int t_baseY :: .int t_baseZ :: .int t_norm :: .int t_setMany :: z_t_34 :: z_t_35 :: z_t_36 :: z_t_37 :: z_t_38 :: z_t_39 :: z_t_40 :: z_t_41 :: z_t_42 :: z_t_43 :: z_t_44 :: z_t_45 :: z_t_46 :: z_t_47 :: z_t_48 :: z_t_49 :: z_t_50 :: z_t_51 :: z_t_52 :: z_t_53 :: z_t_54 :: z_t_55 :: z_t_56 :: z_t_57 :: z_t_58 :: z_t_59 :: z_t_60 :: []))) :: R) H := hP
                            have hD : va_D A ((h_t, .inr (12, (.int 0 :: z_t_1 :: z_t_2 :: z_t_3 :: z_t_4 :: z_t_5 :: z_t_6 :: z_t_7 :: z_t_8 :: z_t_9 :: z_t_10 :: z_t_11 :: z_t_12 :: z_t_13 :: z_t_14 :: z_t_15 :: z_t_16 :: z_t_17 :: z_t_18 :: z_t_19 :: z_t_20 :: z_t_21 :: z_t_22 :: z_t_23 :: z_t_24 :: z_t_25 :: z_t_26 :: .int 2 :: .int t_ringP :: .int t_ringQ :: .int t_baseY :: .int t_baseZ :: .int t_norm :: .int t_setMany :: z_t_34 :: z_t_35 :: z_t_36 :: z_t_37 :: z_t_38 :: z_t_39 :: z_t_40 :: z_t_41 :: z_t_42 :: z_t_43 :: z_t_44 :: z_t_45 :: z_t_46 :: z_t_47 :: z_t_48 :: z_t_49 :: z_t_50 :: z_t_51 :: z_t_52 :: z_t_53 :: z_t_54 :: z_t_55 :: z_t_56 :: z_t_57 :: z_t_58 :: z_t_59 :: z_t_60 :: []))) :: R) := hD
                            refine lv_aload_n hx hb dX12_ring_152 rfl (lv_at hl 2 rfl) ?_
                            refine lv_iload_n hx hb dX12_ring_153 rfl (lv_at hl 3 rfl) ?_
                            refine lv_if_eq (tgt := 161) hx hb dX12_ring_154 (by decide) (fun c14 => ?_) (fun c14 => ?_)
                            · refine lv_iload_n hx hb dX12_ring_161 rfl (lv_at hl 4 rfl) ?_
                              refine va_put (D := D) (ci := 12) (v := .int l2) (ty := .int) (C := RX12) (T := TX12) (N := 61) hx hb ha ix12 tyX12 tyX12_ok nmX12 hown hK hP hD hS 0 rfl rfl 28 (by decide) (ha _ q988) (fun _ h9 => h9) rfl (by decide +kernel) rfl rfl (Nat.le_of_ble_eq_true rfl) dX12_ring_162 (fun H locs hP hD hS => ?_)
                              have hP : va_P D vwCl ((h_t, .inr (12, (.int 0 :: z_t_1 :: z_t_2 :: z_t_3 :: z_t_4 :: z_t_5 :: z_t_6 :: z_t_7 :: z_t_8 :: z_t_9 :: z_t_10 :: z_t_11 :: z_t_12 :: z_t_13 :: z_t_14 :: z_t_15 :: z_t_16 :: z_t_17 :: z_t_18 :: z_t_19 :: z_t_20 :: z_t_21 :: z_t_22 :: z_t_23 :: z_t_24 :: z_t_25 :: z_t_26 :: .int 2 :: .int l2 :: .int t_ringQ :: .int t_baseY :: .int t_baseZ :: .int t_norm :: .int t_setMany :: z_t_34 :: z_t_35 :: z_t_36 :: z_t_37 :: z_t_38 :: z_t_39 :: z_t_40 :: z_t_41 :: z_t_42 :: z_t_43 :: z_t_44 :: z_t_45 :: z_t_46 :: z_t_47 :: z_t_48 :: z_t_49 :: z_t_50 :: z_t_51 :: z_t_52 :: z_t_53 :: z_t_54 :: z_t_55 :: z_t_56 :: z_t_57 :: z_t_58 :: z_t_59 :: z_t_60 :: []))) :: R) H := hP
                              have hD : va_D A ((h_t, .inr (12, (.int 0 :: z_t_1 :: z_t_2 :: z_t_3 :: z_t_4 :: z_t_5 :: z_t_6 :: z_t_7 :: z_t_8 :: z_t_9 :: z_t_10 :: z_t_11 :: z_t_12 :: z_t_13 :: z_t_14 :: z_t_15 :: z_t_16 :: z_t_17 :: z_t_18 :: z_t_19 :: z_t_20 :: z_t_21 :: z_t_22 :: z_t_23 :: z_t_24 :: z_t_25 :: z_t_26 :: .int 2 :: .int l2 :: .int t_ringQ :: .int t_baseY :: .int t_baseZ :: .int t_norm :: .int t_setMany :: z_t_34 :: z_t_35 :: z_t_36 :: z_t_37 :: z_t_38 :: z_t_39 :: z_t_40 :: z_t_41 :: z_t_42 :: z_t_43 :: z_t_44 :: z_t_45 :: z_t_46 :: z_t_47 :: z_t_48 :: z_t_49 :: z_t_50 :: z_t_51 :: z_t_52 :: z_t_53 :: z_t_54 :: z_t_55 :: z_t_56 :: z_t_57 :: z_t_58 :: z_t_59 :: z_t_60 :: []))) :: R) := hD
                              refine lv_aload_n hx hb dX12_ring_165 rfl (lv_at hl 2 rfl) ?_
                              refine lv_iload_n hx hb dX12_ring_166 rfl (lv_at hl 3 rfl) ?_
                              refine lv_if_eq (tgt := 174) hx hb dX12_ring_167 (by decide) (fun c15 => ?_) (fun c15 => ?_)
                              · refine lv_iload_n hx hb dX12_ring_174 rfl (lv_at hl 5 rfl) ?_
                                refine va_put (D := D) (ci := 12) (v := .int l3) (ty := .int) (C := RX12) (T := TX12) (N := 61) hx hb ha ix12 tyX12 tyX12_ok nmX12 hown hK hP hD hS 0 rfl rfl 29 (by decide) (ha _ q989) (fun _ h9 => h9) rfl (by decide +kernel) rfl rfl (Nat.le_of_ble_eq_true rfl) dX12_ring_175 (fun H locs hP hD hS => ?_)
                                have hP : va_P D vwCl ((h_t, .inr (12, (.int 0 :: z_t_1 :: z_t_2 :: z_t_3 :: z_t_4 :: z_t_5 :: z_t_6 :: z_t_7 :: z_t_8 :: z_t_9 :: z_t_10 :: z_t_11 :: z_t_12 :: z_t_13 :: z_t_14 :: z_t_15 :: z_t_16 :: z_t_17 :: z_t_18 :: z_t_19 :: z_t_20 :: z_t_21 :: z_t_22 :: z_t_23 :: z_t_24 :: z_t_25 :: z_t_26 :: .int 2 :: .int l2 :: .int l3 :: .int t_baseY :: .int t_baseZ :: .int t_norm :: .int t_setMany :: z_t_34 :: z_t_35 :: z_t_36 :: z_t_37 :: z_t_38 :: z_t_39 :: z_t_40 :: z_t_41 :: z_t_42 :: z_t_43 :: z_t_44 :: z_t_45 :: z_t_46 :: z_t_47 :: z_t_48 :: z_t_49 :: z_t_50 :: z_t_51 :: z_t_52 :: z_t_53 :: z_t_54 :: z_t_55 :: z_t_56 :: z_t_57 :: z_t_58 :: z_t_59 :: z_t_60 :: []))) :: R) H := hP
                                have hD : va_D A ((h_t, .inr (12, (.int 0 :: z_t_1 :: z_t_2 :: z_t_3 :: z_t_4 :: z_t_5 :: z_t_6 :: z_t_7 :: z_t_8 :: z_t_9 :: z_t_10 :: z_t_11 :: z_t_12 :: z_t_13 :: z_t_14 :: z_t_15 :: z_t_16 :: z_t_17 :: z_t_18 :: z_t_19 :: z_t_20 :: z_t_21 :: z_t_22 :: z_t_23 :: z_t_24 :: z_t_25 :: z_t_26 :: .int 2 :: .int l2 :: .int l3 :: .int t_baseY :: .int t_baseZ :: .int t_norm :: .int t_setMany :: z_t_34 :: z_t_35 :: z_t_36 :: z_t_37 :: z_t_38 :: z_t_39 :: z_t_40 :: z_t_41 :: z_t_42 :: z_t_43 :: z_t_44 :: z_t_45 :: z_t_46 :: z_t_47 :: z_t_48 :: z_t_49 :: z_t_50 :: z_t_51 :: z_t_52 :: z_t_53 :: z_t_54 :: z_t_55 :: z_t_56 :: z_t_57 :: z_t_58 :: z_t_59 :: z_t_60 :: []))) :: R) := hD
                                refine lv_aload_n hx hb dX12_ring_178 rfl (lv_at hl 2 rfl) ?_
                                refine lv_iload hx hb dX12_ring_179 (lv_at hl 6 rfl) ?_
                                refine va_put (D := D) (ci := 12) (v := .int l4) (ty := .int) (C := RX12) (T := TX12) (N := 61) hx hb ha ix12 tyX12 tyX12_ok nmX12 hown hK hP hD hS 0 rfl rfl 30 (by decide) (ha _ q990) (fun _ h9 => h9) rfl (by decide +kernel) rfl rfl (Nat.le_of_ble_eq_true rfl) dX12_ring_181 (fun H locs hP hD hS => ?_)
                                have hP : va_P D vwCl ((h_t, .inr (12, (.int 0 :: z_t_1 :: z_t_2 :: z_t_3 :: z_t_4 :: z_t_5 :: z_t_6 :: z_t_7 :: z_t_8 :: z_t_9 :: z_t_10 :: z_t_11 :: z_t_12 :: z_t_13 :: z_t_14 :: z_t_15 :: z_t_16 :: z_t_17 :: z_t_18 :: z_t_19 :: z_t_20 :: z_t_21 :: z_t_22 :: z_t_23 :: z_t_24 :: z_t_25 :: z_t_26 :: .int 2 :: .int l2 :: .int l3 :: .int l4 :: .int t_baseZ :: .int t_norm :: .int t_setMany :: z_t_34 :: z_t_35 :: z_t_36 :: z_t_37 :: z_t_38 :: z_t_39 :: z_t_40 :: z_t_41 :: z_t_42 :: z_t_43 :: z_t_44 :: z_t_45 :: z_t_46 :: z_t_47 :: z_t_48 :: z_t_49 :: z_t_50 :: z_t_51 :: z_t_52 :: z_t_53 :: z_t_54 :: z_t_55 :: z_t_56 :: z_t_57 :: z_t_58 :: z_t_59 :: z_t_60 :: []))) :: R) H := hP
                                have hD : va_D A ((h_t, .inr (12, (.int 0 :: z_t_1 :: z_t_2 :: z_t_3 :: z_t_4 :: z_t_5 :: z_t_6 :: z_t_7 :: z_t_8 :: z_t_9 :: z_t_10 :: z_t_11 :: z_t_12 :: z_t_13 :: z_t_14 :: z_t_15 :: z_t_16 :: z_t_17 :: z_t_18 :: z_t_19 :: z_t_20 :: z_t_21 :: z_t_22 :: z_t_23 :: z_t_24 :: z_t_25 :: z_t_26 :: .int 2 :: .int l2 :: .int l3 :: .int l4 :: .int t_baseZ :: .int t_norm :: .int t_setMany :: z_t_34 :: z_t_35 :: z_t_36 :: z_t_37 :: z_t_38 :: z_t_39 :: z_t_40 :: z_t_41 :: z_t_42 :: z_t_43 :: z_t_44 :: z_t_45 :: z_t_46 :: z_t_47 :: z_t_48 :: z_t_49 :: z_t_50 :: z_t_51 :: z_t_52 :: z_t_53 :: z_t_54 :: z_t_55 :: z_t_56 :: z_t_57 :: z_t_58 :: z_t_59 :: z_t_60 :: []))) :: R) := hD
                                refine lv_aload_n hx hb dX12_ring_184 rfl (lv_at hl 2 rfl) ?_
                                refine lv_iload_n hx hb dX12_ring_185 rfl (lv_at hl 3 rfl) ?_
                                refine lv_if_eq (tgt := 193) hx hb dX12_ring_186 (by decide) (fun c16 => ?_) (fun c16 => ?_)
                                · refine lv_iload hx hb dX12_ring_193 (lv_at hl 7 rfl) ?_
                                  refine va_put (D := D) (ci := 12) (v := .int l5) (ty := .int) (C := RX12) (T := TX12) (N := 61) hx hb ha ix12 tyX12 tyX12_ok nmX12 hown hK hP hD hS 0 rfl rfl 31 (by decide) (ha _ q991) (fun _ h9 => h9) rfl (by decide +kernel) rfl rfl (Nat.le_of_ble_eq_true rfl) dX12_ring_195 (fun H locs hP hD hS => ?_)
                                  have hP : va_P D vwCl ((h_t, .inr (12, (.int 0 :: z_t_1 :: z_t_2 :: z_t_3 :: z_t_4 :: z_t_5 :: z_t_6 :: z_t_7 :: z_t_8 :: z_t_9 :: z_t_10 :: z_t_11 :: z_t_12 :: z_t_13 :: z_t_14 :: z_t_15 :: z_t_16 :: z_t_17 :: z_t_18 :: z_t_19 :: z_t_20 :: z_t_21 :: z_t_22 :: z_t_23 :: z_t_24 :: z_t_25 :: z_t_26 :: .int 2 :: .int l2 :: .int l3 :: .int l4 :: .int l5 :: .int t_norm :: .int t_setMany :: z_t_34 :: z_t_35 :: z_t_36 :: z_t_37 :: z_t_38 :: z_t_39 :: z_t_40 :: z_t_41 :: z_t_42 :: z_t_43 :: z_t_44 :: z_t_45 :: z_t_46 :: z_t_47 :: z_t_48 :: z_t_49 :: z_t_50 :: z_t_51 :: z_t_52 :: z_t_53 :: z_t_54 :: z_t_55 :: z_t_56 :: z_t_57 :: z_t_58 :: z_t_59 :: z_t_60 :: []))) :: R) H := hP
                                  have hD : va_D A ((h_t, .inr (12, (.int 0 :: z_t_1 :: z_t_2 :: z_t_3 :: z_t_4 :: z_t_5 :: z_t_6 :: z_t_7 :: z_t_8 :: z_t_9 :: z_t_10 :: z_t_11 :: z_t_12 :: z_t_13 :: z_t_14 :: z_t_15 :: z_t_16 :: z_t_17 :: z_t_18 :: z_t_19 :: z_t_20 :: z_t_21 :: z_t_22 :: z_t_23 :: z_t_24 :: z_t_25 :: z_t_26 :: .int 2 :: .int l2 :: .int l3 :: .int l4 :: .int l5 :: .int t_norm :: .int t_setMany :: z_t_34 :: z_t_35 :: z_t_36 :: z_t_37 :: z_t_38 :: z_t_39 :: z_t_40 :: z_t_41 :: z_t_42 :: z_t_43 :: z_t_44 :: z_t_45 :: z_t_46 :: z_t_47 :: z_t_48 :: z_t_49 :: z_t_50 :: z_t_51 :: z_t_52 :: z_t_53 :: z_t_54 :: z_t_55 :: z_t_56 :: z_t_57 :: z_t_58 :: z_t_59 :: z_t_60 :: []))) :: R) := hD
                                  refine lv_aload_n hx hb dX12_ring_198 rfl (lv_at hl 2 rfl) ?_
                                  refine lv_lload hx hb dX12_ring_199 (lv_at hl 0 rfl) ?_
                                  refine lv_l2i (v := (((l4.toInt64 * l4.toInt64) + ((l2.toInt64 * l4.toInt64) * l5.toInt64)) - ((l3.toInt64 * l5.toInt64) * l5.toInt64)).toInt32) hx hb dX12_ring_201 rfl ?_
                                  refine va_put (D := D) (ci := 12) (v := .int (((l4.toInt64 * l4.toInt64) + ((l2.toInt64 * l4.toInt64) * l5.toInt64)) - ((l3.toInt64 * l5.toInt64) * l5.toInt64)).toInt32) (ty := .int) (C := RX12) (T := TX12) (N := 61) hx hb ha ix12 tyX12 tyX12_ok nmX12 hown hK hP hD hS 0 rfl rfl 32 (by decide) (ha _ q992) (fun _ h9 => h9) rfl (by decide +kernel) rfl rfl (Nat.le_of_ble_eq_true rfl) dX12_ring_202 (fun H locs hP hD hS => ?_)
                                  have hP : va_P D vwCl ((h_t, .inr (12, (.int 0 :: z_t_1 :: z_t_2 :: z_t_3 :: z_t_4 :: z_t_5 :: z_t_6 :: z_t_7 :: z_t_8 :: z_t_9 :: z_t_10 :: z_t_11 :: z_t_12 :: z_t_13 :: z_t_14 :: z_t_15 :: z_t_16 :: z_t_17 :: z_t_18 :: z_t_19 :: z_t_20 :: z_t_21 :: z_t_22 :: z_t_23 :: z_t_24 :: z_t_25 :: z_t_26 :: .int 2 :: .int l2 :: .int l3 :: .int l4 :: .int l5 :: .int ((((l4.toInt64 * l4.toInt64) + ((l2.toInt64 * l4.toInt64) * l5.toInt64)) - ((l3.toInt64 * l5.toInt64) * l5.toInt64)).toInt32) :: .int t_setMany :: z_t_34 :: z_t_35 :: z_t_36 :: z_t_37 :: z_t_38 :: z_t_39 :: z_t_40 :: z_t_41 :: z_t_42 :: z_t_43 :: z_t_44 :: z_t_45 :: z_t_46 :: z_t_47 :: z_t_48 :: z_t_49 :: z_t_50 :: z_t_51 :: z_t_52 :: z_t_53 :: z_t_54 :: z_t_55 :: z_t_56 :: z_t_57 :: z_t_58 :: z_t_59 :: z_t_60 :: []))) :: R) H := hP
                                  have hD : va_D A ((h_t, .inr (12, (.int 0 :: z_t_1 :: z_t_2 :: z_t_3 :: z_t_4 :: z_t_5 :: z_t_6 :: z_t_7 :: z_t_8 :: z_t_9 :: z_t_10 :: z_t_11 :: z_t_12 :: z_t_13 :: z_t_14 :: z_t_15 :: z_t_16 :: z_t_17 :: z_t_18 :: z_t_19 :: z_t_20 :: z_t_21 :: z_t_22 :: z_t_23 :: z_t_24 :: z_t_25 :: z_t_26 :: .int 2 :: .int l2 :: .int l3 :: .int l4 :: .int l5 :: .int ((((l4.toInt64 * l4.toInt64) + ((l2.toInt64 * l4.toInt64) * l5.toInt64)) - ((l3.toInt64 * l5.toInt64) * l5.toInt64)).toInt32) :: .int t_setMany :: z_t_34 :: z_t_35 :: z_t_36 :: z_t_37 :: z_t_38 :: z_t_39 :: z_t_40 :: z_t_41 :: z_t_42 :: z_t_43 :: z_t_44 :: z_t_45 :: z_t_46 :: z_t_47 :: z_t_48 :: z_t_49 :: z_t_50 :: z_t_51 :: z_t_52 :: z_t_53 :: z_t_54 :: z_t_55 :: z_t_56 :: z_t_57 :: z_t_58 :: z_t_59 :: z_t_60 :: []))) :: R) := hD
                                  refine lv_aload_n hx hb dX12_ring_205 rfl (lv_at hl 2 rfl) ?_
                                  refine lv_iconst (v := 0) hx hb dX12_ring_206 (by decide) ?_
                                  refine va_put (D := D) (ci := 12) (v := .int 0) (ty := .int) (C := RX12) (T := TX12) (N := 61) hx hb ha ix12 tyX12 tyX12_ok nmX12 hown hK hP hD hS 0 rfl rfl 33 (by decide) (ha _ q993) (fun _ h9 => h9) rfl (by decide +kernel) rfl rfl (Nat.le_of_ble_eq_true rfl) dX12_ring_207 (fun H locs hP hD hS => ?_)
                                  have hP : va_P D vwCl ((h_t, .inr (12, (.int 0 :: z_t_1 :: z_t_2 :: z_t_3 :: z_t_4 :: z_t_5 :: z_t_6 :: z_t_7 :: z_t_8 :: z_t_9 :: z_t_10 :: z_t_11 :: z_t_12 :: z_t_13 :: z_t_14 :: z_t_15 :: z_t_16 :: z_t_17 :: z_t_18 :: z_t_19 :: z_t_20 :: z_t_21 :: z_t_22 :: z_t_23 :: z_t_24 :: z_t_25 :: z_t_26 :: .int 2 :: .int l2 :: .int l3 :: .int l4 :: .int l5 :: .int ((((l4.toInt64 * l4.toInt64) + ((l2.toInt64 * l4.toInt64) * l5.toInt64)) - ((l3.toInt64 * l5.toInt64) * l5.toInt64)).toInt32) :: .int 0 :: z_t_34 :: z_t_35 :: z_t_36 :: z_t_37 :: z_t_38 :: z_t_39 :: z_t_40 :: z_t_41 :: z_t_42 :: z_t_43 :: z_t_44 :: z_t_45 :: z_t_46 :: z_t_47 :: z_t_48 :: z_t_49 :: z_t_50 :: z_t_51 :: z_t_52 :: z_t_53 :: z_t_54 :: z_t_55 :: z_t_56 :: z_t_57 :: z_t_58 :: z_t_59 :: z_t_60 :: []))) :: R) H := hP
                                  have hD : va_D A ((h_t, .inr (12, (.int 0 :: z_t_1 :: z_t_2 :: z_t_3 :: z_t_4 :: z_t_5 :: z_t_6 :: z_t_7 :: z_t_8 :: z_t_9 :: z_t_10 :: z_t_11 :: z_t_12 :: z_t_13 :: z_t_14 :: z_t_15 :: z_t_16 :: z_t_17 :: z_t_18 :: z_t_19 :: z_t_20 :: z_t_21 :: z_t_22 :: z_t_23 :: z_t_24 :: z_t_25 :: z_t_26 :: .int 2 :: .int l2 :: .int l3 :: .int l4 :: .int l5 :: .int ((((l4.toInt64 * l4.toInt64) + ((l2.toInt64 * l4.toInt64) * l5.toInt64)) - ((l3.toInt64 * l5.toInt64) * l5.toInt64)).toInt32) :: .int 0 :: z_t_34 :: z_t_35 :: z_t_36 :: z_t_37 :: z_t_38 :: z_t_39 :: z_t_40 :: z_t_41 :: z_t_42 :: z_t_43 :: z_t_44 :: z_t_45 :: z_t_46 :: z_t_47 :: z_t_48 :: z_t_49 :: z_t_50 :: z_t_51 :: z_t_52 :: z_t_53 :: z_t_54 :: z_t_55 :: z_t_56 :: z_t_57 :: z_t_58 :: z_t_59 :: z_t_60 :: []))) :: R) := hD
                                  refine lv_iconst (v := 1) hx hb dX12_ring_210 (by decide) ?_
                                  cases h
                                  exact rt_z S hr hlk hP hD hS (by decide) dX12_ring_211
                                · exact absurd c1 c16
                              · exact absurd c1 c15
                            · exact absurd c1 c14
                          · exact absurd c1 c13
                        · have h := br_neg c12 h
                          refine lv_iconst (v := 0) hx hb dX12_ring_137 (by decide) ?_
                          cases h
                          exact rt_z S hr hlk hP hD hS (by decide) dX12_ring_138
                    · have h := br_neg c10 h
                      refine lv_lload hx hb dX12_ring_109 (lv_at hl 0 rfl) ?_
                      refine lv_lneg hx hb dX12_ring_111 ?_
                      refine lv_goto (tgt := 117) hx hb dX12_ring_112 (by decide) ?_
                      refine lv_lstore (lv' := [(8, .long (-(((l4.toInt64 * l4.toInt64) + ((l2.toInt64 * l4.toInt64) * l5.toInt64)) - ((l3.toInt64 * l5.toInt64) * l5.toInt64)))), (6, .long (((l4.toInt64 * l4.toInt64) + ((l2.toInt64 * l4.toInt64) * l5.toInt64)) - ((l3.toInt64 * l5.toInt64) * l5.toInt64))), (0, .ref h_t), (1, .int l1), (2, .int l2), (3, .int l3), (4, .int l4), (5, .int l5)]) hx hb dX12_ring_117 hl (by decide) rfl (fun ls hl => ?_)
                      refine lv_lload hx hb dX12_ring_119 (lv_at hl 0 rfl) ?_
                      refine lv_ldc2 (v := 2) hx hb hown (ha _ q1226) dX12_ring_121 ?_
                      refine xl_lt (tgt := 137) hx hb dX12_ring_124 dX12_ring_125 (by decide) (fun c17 => ?_) (fun c17 => ?_)
                      · have h := br_pos c17 h
                        refine lv_iconst (v := 0) hx hb dX12_ring_137 (by decide) ?_
                        cases h
                        exact rt_z S hr hlk hP hD hS (by decide) dX12_ring_138
                      · have h := br_neg c17 h
                        refine lv_lload hx hb dX12_ring_128 (lv_at hl 0 rfl) ?_
                        refine lv_ldc2 (v := 25) hx hb hown (ha _ q1303) dX12_ring_130 ?_
                        refine xl_le (tgt := 139) hx hb dX12_ring_133 dX12_ring_134 (by decide) (fun c18 => ?_) (fun c18 => ?_)
                        · have h := br_pos c18 h
                          refine lv_aload_n hx hb dX12_ring_139 rfl (lv_at hl 2 rfl) ?_
                          refine lv_iload_n hx hb dX12_ring_140 rfl (lv_at hl 3 rfl) ?_
                          refine lv_if_eq (tgt := 148) hx hb dX12_ring_141 (by decide) (fun c19 => ?_) (fun c19 => ?_)
                          · refine lv_iconst (v := 2) hx hb dX12_ring_148 (by decide) ?_
                            refine va_put (D := D) (ci := 12) (v := .int 2) (ty := .int) (C := RX12) (T := TX12) (N := 61) hx hb ha ix12 tyX12 tyX12_ok nmX12 hown hK hP hD hS 0 rfl rfl 27 (by decide) (ha _ q987) (fun _ h9 => h9) rfl (by decide +kernel) rfl rfl (Nat.le_of_ble_eq_true rfl) dX12_ring_149 (fun H locs hP hD hS => ?_)
                            have hP : va_P D vwCl ((h_t, .inr (12, (.int 0 :: z_t_1 :: z_t_2 :: z_t_3 :: z_t_4 :: z_t_5 :: z_t_6 :: z_t_7 :: z_t_8 :: z_t_9 :: z_t_10 :: z_t_11 :: z_t_12 :: z_t_13 :: z_t_14 :: z_t_15 :: z_t_16 :: z_t_17 :: z_t_18 :: z_t_19 :: z_t_20 :: z_t_21 :: z_t_22 :: z_t_23 :: z_t_24 :: z_t_25 :: z_t_26 :: .int 2 :: .int t_ringP :: .int t_ringQ :: .int t_baseY :: .int t_baseZ :: .int t_norm :: .int t_setMany :: z_t_34 :: z_t_35 :: z_t_36 :: z_t_37 :: z_t_38 :: z_t_39 :: z_t_40 :: z_t_41 :: z_t_42 :: z_t_43 :: z_t_44 :: z_t_45 :: z_t_46 :: z_t_47 :: z_t_48 :: z_t_49 :: z_t_50 :: z_t_51 :: z_t_52 :: z_t_53 :: z_t_54 :: z_t_55 :: z_t_56 :: z_t_57 :: z_t_58 :: z_t_59 :: z_t_60 :: []))) :: R) H := hP
                            have hD : va_D A ((h_t, .inr (12, (.int 0 :: z_t_1 :: z_t_2 :: z_t_3 :: z_t_4 :: z_t_5 :: z_t_6 :: z_t_7 :: z_t_8 :: z_t_9 :: z_t_10 :: z_t_11 :: z_t_12 :: z_t_13 :: z_t_14 :: z_t_15 :: z_t_16 :: z_t_17 :: z_t_18 :: z_t_19 :: z_t_20 :: z_t_21 :: z_t_22 :: z_t_23 :: z_t_24 :: z_t_25 :: z_t_26 :: .int 2 :: .int t_ringP :: .int t_ringQ :: .int t_baseY :: .int t_baseZ :: .int t_norm :: .int t_setMany :: z_t_34 :: z_t_35 :: z_t_36 :: z_t_37 :: z_t_38 :: z_t_39 :: z_t_40 :: z_t_41 :: z_t_42 :: z_t_43 :: z_t_44 :: z_t_45 :: z_t_46 :: z_t_47 :: z_t_48 :: z_t_49 :: z_t_50 :: z_t_51 :: z_t_52 :: z_t_53 :: z_t_54 :: z_t_55 :: z_t_56 :: z_t_57 :: z_t_58 :: z_t_59 :: z_t_60 :: []))) :: R) := hD
                            refine lv_aload_n hx hb dX12_ring_152 rfl (lv_at hl 2 rfl) ?_
                            refine lv_iload_n hx hb dX12_ring_153 rfl (lv_at hl 3 rfl) ?_
                            refine lv_if_eq (tgt := 161) hx hb dX12_ring_154 (by decide) (fun c20 => ?_) (fun c20 => ?_)
                            · refine lv_iload_n hx hb dX12_ring_161 rfl (lv_at hl 4 rfl) ?_
                              refine va_put (D := D) (ci := 12) (v := .int l2) (ty := .int) (C := RX12) (T := TX12) (N := 61) hx hb ha ix12 tyX12 tyX12_ok nmX12 hown hK hP hD hS 0 rfl rfl 28 (by decide) (ha _ q988) (fun _ h9 => h9) rfl (by decide +kernel) rfl rfl (Nat.le_of_ble_eq_true rfl) dX12_ring_162 (fun H locs hP hD hS => ?_)
                              have hP : va_P D vwCl ((h_t, .inr (12, (.int 0 :: z_t_1 :: z_t_2 :: z_t_3 :: z_t_4 :: z_t_5 :: z_t_6 :: z_t_7 :: z_t_8 :: z_t_9 :: z_t_10 :: z_t_11 :: z_t_12 :: z_t_13 :: z_t_14 :: z_t_15 :: z_t_16 :: z_t_17 :: z_t_18 :: z_t_19 :: z_t_20 :: z_t_21 :: z_t_22 :: z_t_23 :: z_t_24 :: z_t_25 :: z_t_26 :: .int 2 :: .int l2 :: .int t_ringQ :: .int t_baseY :: .int t_baseZ :: .int t_norm :: .int t_setMany :: z_t_34 :: z_t_35 :: z_t_36 :: z_t_37 :: z_t_38 :: z_t_39 :: z_t_40 :: z_t_41 :: z_t_42 :: z_t_43 :: z_t_44 :: z_t_45 :: z_t_46 :: z_t_47 :: z_t_48 :: z_t_49 :: z_t_50 :: z_t_51 :: z_t_52 :: z_t_53 :: z_t_54 :: z_t_55 :: z_t_56 :: z_t_57 :: z_t_58 :: z_t_59 :: z_t_60 :: []))) :: R) H := hP
                              have hD : va_D A ((h_t, .inr (12, (.int 0 :: z_t_1 :: z_t_2 :: z_t_3 :: z_t_4 :: z_t_5 :: z_t_6 :: z_t_7 :: z_t_8 :: z_t_9 :: z_t_10 :: z_t_11 :: z_t_12 :: z_t_13 :: z_t_14 :: z_t_15 :: z_t_16 :: z_t_17 :: z_t_18 :: z_t_19 :: z_t_20 :: z_t_21 :: z_t_22 :: z_t_23 :: z_t_24 :: z_t_25 :: z_t_26 :: .int 2 :: .int l2 :: .int t_ringQ :: .int t_baseY :: .int t_baseZ :: .int t_norm :: .int t_setMany :: z_t_34 :: z_t_35 :: z_t_36 :: z_t_37 :: z_t_38 :: z_t_39 :: z_t_40 :: z_t_41 :: z_t_42 :: z_t_43 :: z_t_44 :: z_t_45 :: z_t_46 :: z_t_47 :: z_t_48 :: z_t_49 :: z_t_50 :: z_t_51 :: z_t_52 :: z_t_53 :: z_t_54 :: z_t_55 :: z_t_56 :: z_t_57 :: z_t_58 :: z_t_59 :: z_t_60 :: []))) :: R) := hD
                              refine lv_aload_n hx hb dX12_ring_165 rfl (lv_at hl 2 rfl) ?_
                              refine lv_iload_n hx hb dX12_ring_166 rfl (lv_at hl 3 rfl) ?_
                              refine lv_if_eq (tgt := 174) hx hb dX12_ring_167 (by decide) (fun c21 => ?_) (fun c21 => ?_)
                              · refine lv_iload_n hx hb dX12_ring_174 rfl (lv_at hl 5 rfl) ?_
                                refine va_put (D := D) (ci := 12) (v := .int l3) (ty := .int) (C := RX12) (T := TX12) (N := 61) hx hb ha ix12 tyX12 tyX12_ok nmX12 hown hK hP hD hS 0 rfl rfl 29 (by decide) (ha _ q989) (fun _ h9 => h9) rfl (by decide +kernel) rfl rfl (Nat.le_of_ble_eq_true rfl) dX12_ring_175 (fun H locs hP hD hS => ?_)
                                have hP : va_P D vwCl ((h_t, .inr (12, (.int 0 :: z_t_1 :: z_t_2 :: z_t_3 :: z_t_4 :: z_t_5 :: z_t_6 :: z_t_7 :: z_t_8 :: z_t_9 :: z_t_10 :: z_t_11 :: z_t_12 :: z_t_13 :: z_t_14 :: z_t_15 :: z_t_16 :: z_t_17 :: z_t_18 :: z_t_19 :: z_t_20 :: z_t_21 :: z_t_22 :: z_t_23 :: z_t_24 :: z_t_25 :: z_t_26 :: .int 2 :: .int l2 :: .int l3 :: .int t_baseY :: .int t_baseZ :: .int t_norm :: .int t_setMany :: z_t_34 :: z_t_35 :: z_t_36 :: z_t_37 :: z_t_38 :: z_t_39 :: z_t_40 :: z_t_41 :: z_t_42 :: z_t_43 :: z_t_44 :: z_t_45 :: z_t_46 :: z_t_47 :: z_t_48 :: z_t_49 :: z_t_50 :: z_t_51 :: z_t_52 :: z_t_53 :: z_t_54 :: z_t_55 :: z_t_56 :: z_t_57 :: z_t_58 :: z_t_59 :: z_t_60 :: []))) :: R) H := hP
                                have hD : va_D A ((h_t, .inr (12, (.int 0 :: z_t_1 :: z_t_2 :: z_t_3 :: z_t_4 :: z_t_5 :: z_t_6 :: z_t_7 :: z_t_8 :: z_t_9 :: z_t_10 :: z_t_11 :: z_t_12 :: z_t_13 :: z_t_14 :: z_t_15 :: z_t_16 :: z_t_17 :: z_t_18 :: z_t_19 :: z_t_20 :: z_t_21 :: z_t_22 :: z_t_23 :: z_t_24 :: z_t_25 :: z_t_26 :: .int 2 :: .int l2 :: .int l3 :: .int t_baseY :: .int t_baseZ :: .int t_norm :: .int t_setMany :: z_t_34 :: z_t_35 :: z_t_36 :: z_t_37 :: z_t_38 :: z_t_39 :: z_t_40 :: z_t_41 :: z_t_42 :: z_t_43 :: z_t_44 :: z_t_45 :: z_t_46 :: z_t_47 :: z_t_48 :: z_t_49 :: z_t_50 :: z_t_51 :: z_t_52 :: z_t_53 :: z_t_54 :: z_t_55 :: z_t_56 :: z_t_57 :: z_t_58 :: z_t_59 :: z_t_60 :: []))) :: R) := hD
                                refine lv_aload_n hx hb dX12_ring_178 rfl (lv_at hl 2 rfl) ?_
                                refine lv_iload hx hb dX12_ring_179 (lv_at hl 6 rfl) ?_
                                refine va_put (D := D) (ci := 12) (v := .int l4) (ty := .int) (C := RX12) (T := TX12) (N := 61) hx hb ha ix12 tyX12 tyX12_ok nmX12 hown hK hP hD hS 0 rfl rfl 30 (by decide) (ha _ q990) (fun _ h9 => h9) rfl (by decide +kernel) rfl rfl (Nat.le_of_ble_eq_true rfl) dX12_ring_181 (fun H locs hP hD hS => ?_)
                                have hP : va_P D vwCl ((h_t, .inr (12, (.int 0 :: z_t_1 :: z_t_2 :: z_t_3 :: z_t_4 :: z_t_5 :: z_t_6 :: z_t_7 :: z_t_8 :: z_t_9 :: z_t_10 :: z_t_11 :: z_t_12 :: z_t_13 :: z_t_14 :: z_t_15 :: z_t_16 :: z_t_17 :: z_t_18 :: z_t_19 :: z_t_20 :: z_t_21 :: z_t_22 :: z_t_23 :: z_t_24 :: z_t_25 :: z_t_26 :: .int 2 :: .int l2 :: .int l3 :: .int l4 :: .int t_baseZ :: .int t_norm :: .int t_setMany :: z_t_34 :: z_t_35 :: z_t_36 :: z_t_37 :: z_t_38 :: z_t_39 :: z_t_40 :: z_t_41 :: z_t_42 :: z_t_43 :: z_t_44 :: z_t_45 :: z_t_46 :: z_t_47 :: z_t_48 :: z_t_49 :: z_t_50 :: z_t_51 :: z_t_52 :: z_t_53 :: z_t_54 :: z_t_55 :: z_t_56 :: z_t_57 :: z_t_58 :: z_t_59 :: z_t_60 :: []))) :: R) H := hP
                                have hD : va_D A ((h_t, .inr (12, (.int 0 :: z_t_1 :: z_t_2 :: z_t_3 :: z_t_4 :: z_t_5 :: z_t_6 :: z_t_7 :: z_t_8 :: z_t_9 :: z_t_10 :: z_t_11 :: z_t_12 :: z_t_13 :: z_t_14 :: z_t_15 :: z_t_16 :: z_t_17 :: z_t_18 :: z_t_19 :: z_t_20 :: z_t_21 :: z_t_22 :: z_t_23 :: z_t_24 :: z_t_25 :: z_t_26 :: .int 2 :: .int l2 :: .int l3 :: .int l4 :: .int t_baseZ :: .int t_norm :: .int t_setMany :: z_t_34 :: z_t_35 :: z_t_36 :: z_t_37 :: z_t_38 :: z_t_39 :: z_t_40 :: z_t_41 :: z_t_42 :: z_t_43 :: z_t_44 :: z_t_45 :: z_t_46 :: z_t_47 :: z_t_48 :: z_t_49 :: z_t_50 :: z_t_51 :: z_t_52 :: z_t_53 :: z_t_54 :: z_t_55 :: z_t_56 :: z_t_57 :: z_t_58 :: z_t_59 :: z_t_60 :: []))) :: R) := hD
                                refine lv_aload_n hx hb dX12_ring_184 rfl (lv_at hl 2 rfl) ?_
                                refine lv_iload_n hx hb dX12_ring_185 rfl (lv_at hl 3 rfl) ?_
                                refine lv_if_eq (tgt := 193) hx hb dX12_ring_186 (by decide) (fun c22 => ?_) (fun c22 => ?_)
                                · refine lv_iload hx hb dX12_ring_193 (lv_at hl 7 rfl) ?_
                                  refine va_put (D := D) (ci := 12) (v := .int l5) (ty := .int) (C := RX12) (T := TX12) (N := 61) hx hb ha ix12 tyX12 tyX12_ok nmX12 hown hK hP hD hS 0 rfl rfl 31 (by decide) (ha _ q991) (fun _ h9 => h9) rfl (by decide +kernel) rfl rfl (Nat.le_of_ble_eq_true rfl) dX12_ring_195 (fun H locs hP hD hS => ?_)
                                  have hP : va_P D vwCl ((h_t, .inr (12, (.int 0 :: z_t_1 :: z_t_2 :: z_t_3 :: z_t_4 :: z_t_5 :: z_t_6 :: z_t_7 :: z_t_8 :: z_t_9 :: z_t_10 :: z_t_11 :: z_t_12 :: z_t_13 :: z_t_14 :: z_t_15 :: z_t_16 :: z_t_17 :: z_t_18 :: z_t_19 :: z_t_20 :: z_t_21 :: z_t_22 :: z_t_23 :: z_t_24 :: z_t_25 :: z_t_26 :: .int 2 :: .int l2 :: .int l3 :: .int l4 :: .int l5 :: .int t_norm :: .int t_setMany :: z_t_34 :: z_t_35 :: z_t_36 :: z_t_37 :: z_t_38 :: z_t_39 :: z_t_40 :: z_t_41 :: z_t_42 :: z_t_43 :: z_t_44 :: z_t_45 :: z_t_46 :: z_t_47 :: z_t_48 :: z_t_49 :: z_t_50 :: z_t_51 :: z_t_52 :: z_t_53 :: z_t_54 :: z_t_55 :: z_t_56 :: z_t_57 :: z_t_58 :: z_t_59 :: z_t_60 :: []))) :: R) H := hP
                                  have hD : va_D A ((h_t, .inr (12, (.int 0 :: z_t_1 :: z_t_2 :: z_t_3 :: z_t_4 :: z_t_5 :: z_t_6 :: z_t_7 :: z_t_8 :: z_t_9 :: z_t_10 :: z_t_11 :: z_t_12 :: z_t_13 :: z_t_14 :: z_t_15 :: z_t_16 :: z_t_17 :: z_t_18 :: z_t_19 :: z_t_20 :: z_t_21 :: z_t_22 :: z_t_23 :: z_t_24 :: z_t_25 :: z_t_26 :: .int 2 :: .int l2 :: .int l3 :: .int l4 :: .int l5 :: .int t_norm :: .int t_setMany :: z_t_34 :: z_t_35 :: z_t_36 :: z_t_37 :: z_t_38 :: z_t_39 :: z_t_40 :: z_t_41 :: z_t_42 :: z_t_43 :: z_t_44 :: z_t_45 :: z_t_46 :: z_t_47 :: z_t_48 :: z_t_49 :: z_t_50 :: z_t_51 :: z_t_52 :: z_t_53 :: z_t_54 :: z_t_55 :: z_t_56 :: z_t_57 :: z_t_58 :: z_t_59 :: z_t_60 :: []))) :: R) := hD
                                  refine lv_aload_n hx hb dX12_ring_198 rfl (lv_at hl 2 rfl) ?_
                                  refine lv_lload hx hb dX12_ring_199 (lv_at hl 0 rfl) ?_
                                  refine lv_l2i (v := (-(((l4.toInt64 * l4.toInt64) + ((l2.toInt64 * l4.toInt64) * l5.toInt64)) - ((l3.toInt64 * l5.toInt64) * l5.toInt64))).toInt32) hx hb dX12_ring_201 rfl ?_
                                  refine va_put (D := D) (ci := 12) (v := .int (-(((l4.toInt64 * l4.toInt64) + ((l2.toInt64 * l4.toInt64) * l5.toInt64)) - ((l3.toInt64 * l5.toInt64) * l5.toInt64))).toInt32) (ty := .int) (C := RX12) (T := TX12) (N := 61) hx hb ha ix12 tyX12 tyX12_ok nmX12 hown hK hP hD hS 0 rfl rfl 32 (by decide) (ha _ q992) (fun _ h9 => h9) rfl (by decide +kernel) rfl rfl (Nat.le_of_ble_eq_true rfl) dX12_ring_202 (fun H locs hP hD hS => ?_)
                                  have hP : va_P D vwCl ((h_t, .inr (12, (.int 0 :: z_t_1 :: z_t_2 :: z_t_3 :: z_t_4 :: z_t_5 :: z_t_6 :: z_t_7 :: z_t_8 :: z_t_9 :: z_t_10 :: z_t_11 :: z_t_12 :: z_t_13 :: z_t_14 :: z_t_15 :: z_t_16 :: z_t_17 :: z_t_18 :: z_t_19 :: z_t_20 :: z_t_21 :: z_t_22 :: z_t_23 :: z_t_24 :: z_t_25 :: z_t_26 :: .int 2 :: .int l2 :: .int l3 :: .int l4 :: .int l5 :: .int ((-(((l4.toInt64 * l4.toInt64) + ((l2.toInt64 * l4.toInt64) * l5.toInt64)) - ((l3.toInt64 * l5.toInt64) * l5.toInt64))).toInt32) :: .int t_setMany :: z_t_34 :: z_t_35 :: z_t_36 :: z_t_37 :: z_t_38 :: z_t_39 :: z_t_40 :: z_t_41 :: z_t_42 :: z_t_43 :: z_t_44 :: z_t_45 :: z_t_46 :: z_t_47 :: z_t_48 :: z_t_49 :: z_t_50 :: z_t_51 :: z_t_52 :: z_t_53 :: z_t_54 :: z_t_55 :: z_t_56 :: z_t_57 :: z_t_58 :: z_t_59 :: z_t_60 :: []))) :: R) H := hP
                                  have hD : va_D A ((h_t, .inr (12, (.int 0 :: z_t_1 :: z_t_2 :: z_t_3 :: z_t_4 :: z_t_5 :: z_t_6 :: z_t_7 :: z_t_8 :: z_t_9 :: z_t_10 :: z_t_11 :: z_t_12 :: z_t_13 :: z_t_14 :: z_t_15 :: z_t_16 :: z_t_17 :: z_t_18 :: z_t_19 :: z_t_20 :: z_t_21 :: z_t_22 :: z_t_23 :: z_t_24 :: z_t_25 :: z_t_26 :: .int 2 :: .int l2 :: .int l3 :: .int l4 :: .int l5 :: .int ((-(((l4.toInt64 * l4.toInt64) + ((l2.toInt64 * l4.toInt64) * l5.toInt64)) - ((l3.toInt64 * l5.toInt64) * l5.toInt64))).toInt32) :: .int t_setMany :: z_t_34 :: z_t_35 :: z_t_36 :: z_t_37 :: z_t_38 :: z_t_39 :: z_t_40 :: z_t_41 :: z_t_42 :: z_t_43 :: z_t_44 :: z_t_45 :: z_t_46 :: z_t_47 :: z_t_48 :: z_t_49 :: z_t_50 :: z_t_51 :: z_t_52 :: z_t_53 :: z_t_54 :: z_t_55 :: z_t_56 :: z_t_57 :: z_t_58 :: z_t_59 :: z_t_60 :: []))) :: R) := hD
                                  refine lv_aload_n hx hb dX12_ring_205 rfl (lv_at hl 2 rfl) ?_
                                  refine lv_iconst (v := 0) hx hb dX12_ring_206 (by decide) ?_
                                  refine va_put (D := D) (ci := 12) (v := .int 0) (ty := .int) (C := RX12) (T := TX12) (N := 61) hx hb ha ix12 tyX12 tyX12_ok nmX12 hown hK hP hD hS 0 rfl rfl 33 (by decide) (ha _ q993) (fun _ h9 => h9) rfl (by decide +kernel) rfl rfl (Nat.le_of_ble_eq_true rfl) dX12_ring_207 (fun H locs hP hD hS => ?_)
                                  have hP : va_P D vwCl ((h_t, .inr (12, (.int 0 :: z_t_1 :: z_t_2 :: z_t_3 :: z_t_4 :: z_t_5 :: z_t_6 :: z_t_7 :: z_t_8 :: z_t_9 :: z_t_10 :: z_t_11 :: z_t_12 :: z_t_13 :: z_t_14 :: z_t_15 :: z_t_16 :: z_t_17 :: z_t_18 :: z_t_19 :: z_t_20 :: z_t_21 :: z_t_22 :: z_t_23 :: z_t_24 :: z_t_25 :: z_t_26 :: .int 2 :: .int l2 :: .int l3 :: .int l4 :: .int l5 :: .int ((-(((l4.toInt64 * l4.toInt64) + ((l2.toInt64 * l4.toInt64) * l5.toInt64)) - ((l3.toInt64 * l5.toInt64) * l5.toInt64))).toInt32) :: .int 0 :: z_t_34 :: z_t_35 :: z_t_36 :: z_t_37 :: z_t_38 :: z_t_39 :: z_t_40 :: z_t_41 :: z_t_42 :: z_t_43 :: z_t_44 :: z_t_45 :: z_t_46 :: z_t_47 :: z_t_48 :: z_t_49 :: z_t_50 :: z_t_51 :: z_t_52 :: z_t_53 :: z_t_54 :: z_t_55 :: z_t_56 :: z_t_57 :: z_t_58 :: z_t_59 :: z_t_60 :: []))) :: R) H := hP
                                  have hD : va_D A ((h_t, .inr (12, (.int 0 :: z_t_1 :: z_t_2 :: z_t_3 :: z_t_4 :: z_t_5 :: z_t_6 :: z_t_7 :: z_t_8 :: z_t_9 :: z_t_10 :: z_t_11 :: z_t_12 :: z_t_13 :: z_t_14 :: z_t_15 :: z_t_16 :: z_t_17 :: z_t_18 :: z_t_19 :: z_t_20 :: z_t_21 :: z_t_22 :: z_t_23 :: z_t_24 :: z_t_25 :: z_t_26 :: .int 2 :: .int l2 :: .int l3 :: .int l4 :: .int l5 :: .int ((-(((l4.toInt64 * l4.toInt64) + ((l2.toInt64 * l4.toInt64) * l5.toInt64)) - ((l3.toInt64 * l5.toInt64) * l5.toInt64))).toInt32) :: .int 0 :: z_t_34 :: z_t_35 :: z_t_36 :: z_t_37 :: z_t_38 :: z_t_39 :: z_t_40 :: z_t_41 :: z_t_42 :: z_t_43 :: z_t_44 :: z_t_45 :: z_t_46 :: z_t_47 :: z_t_48 :: z_t_49 :: z_t_50 :: z_t_51 :: z_t_52 :: z_t_53 :: z_t_54 :: z_t_55 :: z_t_56 :: z_t_57 :: z_t_58 :: z_t_59 :: z_t_60 :: []))) :: R) := hD
                                  refine lv_iconst (v := 1) hx hb dX12_ring_210 (by decide) ?_
                                  cases h
                                  exact rt_z S hr hlk hP hD hS (by decide) dX12_ring_211
                                · exact absurd c1 c22
                              · exact absurd c1 c21
                            · exact absurd c1 c20
                          · exact absurd c1 c19
                        · have h := br_neg c18 h
                          refine lv_iconst (v := 0) hx hb dX12_ring_137 (by decide) ?_
                          cases h
                          exact rt_z S hr hlk hP hD hS (by decide) dX12_ring_138
                  · have h := br_neg c9 h
                    refine lv_iconst (v := 0) hx hb dX12_ring_69 (by decide) ?_
                    cases h
                    exact rt_z S hr hlk hP hD hS (by decide) dX12_ring_70
  · have h := br_neg c1 h
    refine lv_iload hx hb dX12_ring_9 (lv_at hl 4 rfl) ?_
    refine lv_i2l (v := l4.toInt64) hx hb dX12_ring_11 rfl ?_
    refine lv_lstore (lv' := [(6, .long l4.toInt64), (0, .ref h_t), (1, .int l1), (2, .int l2), (3, .int l3), (4, .int l4), (5, .int l5)]) hx hb dX12_ring_12 hl (by decide) rfl (fun ls hl => ?_)
    refine lv_goto (tgt := 102) hx hb dX12_ring_14 (by decide) ?_
    refine lv_lload hx hb dX12_ring_102 (lv_at hl 0 rfl) ?_
    refine lv_lconst (v := 0) hx hb dX12_ring_104 (by decide) ?_
    refine xl_ge (tgt := 115) hx hb dX12_ring_105 dX12_ring_106 (by decide) (fun c23 => ?_) (fun c23 => ?_)
    · have h := br_pos c23 h
      refine lv_lload hx hb dX12_ring_115 (lv_at hl 0 rfl) ?_
      refine lv_lstore (lv' := [(8, .long l4.toInt64), (6, .long l4.toInt64), (0, .ref h_t), (1, .int l1), (2, .int l2), (3, .int l3), (4, .int l4), (5, .int l5)]) hx hb dX12_ring_117 hl (by decide) rfl (fun ls hl => ?_)
      refine lv_lload hx hb dX12_ring_119 (lv_at hl 0 rfl) ?_
      refine lv_ldc2 (v := 2) hx hb hown (ha _ q1226) dX12_ring_121 ?_
      refine xl_lt (tgt := 137) hx hb dX12_ring_124 dX12_ring_125 (by decide) (fun c24 => ?_) (fun c24 => ?_)
      · have h := br_pos c24 h
        refine lv_iconst (v := 0) hx hb dX12_ring_137 (by decide) ?_
        cases h
        exact rt_z S hr hlk hP hD hS (by decide) dX12_ring_138
      · have h := br_neg c24 h
        refine lv_lload hx hb dX12_ring_128 (lv_at hl 0 rfl) ?_
        refine lv_ldc2 (v := 25) hx hb hown (ha _ q1303) dX12_ring_130 ?_
        refine xl_le (tgt := 139) hx hb dX12_ring_133 dX12_ring_134 (by decide) (fun c25 => ?_) (fun c25 => ?_)
        · have h := br_pos c25 h
          refine lv_aload_n hx hb dX12_ring_139 rfl (lv_at hl 2 rfl) ?_
          refine lv_iload_n hx hb dX12_ring_140 rfl (lv_at hl 3 rfl) ?_
          refine lv_if_eq (tgt := 148) hx hb dX12_ring_141 (by decide) (fun c26 => ?_) (fun c26 => ?_)
          · exact absurd c26 c1
          · refine lv_iconst (v := 1) hx hb dX12_ring_144 (by decide) ?_
            refine lv_goto (tgt := 149) hx hb dX12_ring_145 (by decide) ?_
            refine va_put (D := D) (ci := 12) (v := .int 1) (ty := .int) (C := RX12) (T := TX12) (N := 61) hx hb ha ix12 tyX12 tyX12_ok nmX12 hown hK hP hD hS 0 rfl rfl 27 (by decide) (ha _ q987) (fun _ h9 => h9) rfl (by decide +kernel) rfl rfl (Nat.le_of_ble_eq_true rfl) dX12_ring_149 (fun H locs hP hD hS => ?_)
            have hP : va_P D vwCl ((h_t, .inr (12, (.int 0 :: z_t_1 :: z_t_2 :: z_t_3 :: z_t_4 :: z_t_5 :: z_t_6 :: z_t_7 :: z_t_8 :: z_t_9 :: z_t_10 :: z_t_11 :: z_t_12 :: z_t_13 :: z_t_14 :: z_t_15 :: z_t_16 :: z_t_17 :: z_t_18 :: z_t_19 :: z_t_20 :: z_t_21 :: z_t_22 :: z_t_23 :: z_t_24 :: z_t_25 :: z_t_26 :: .int 1 :: .int t_ringP :: .int t_ringQ :: .int t_baseY :: .int t_baseZ :: .int t_norm :: .int t_setMany :: z_t_34 :: z_t_35 :: z_t_36 :: z_t_37 :: z_t_38 :: z_t_39 :: z_t_40 :: z_t_41 :: z_t_42 :: z_t_43 :: z_t_44 :: z_t_45 :: z_t_46 :: z_t_47 :: z_t_48 :: z_t_49 :: z_t_50 :: z_t_51 :: z_t_52 :: z_t_53 :: z_t_54 :: z_t_55 :: z_t_56 :: z_t_57 :: z_t_58 :: z_t_59 :: z_t_60 :: []))) :: R) H := hP
            have hD : va_D A ((h_t, .inr (12, (.int 0 :: z_t_1 :: z_t_2 :: z_t_3 :: z_t_4 :: z_t_5 :: z_t_6 :: z_t_7 :: z_t_8 :: z_t_9 :: z_t_10 :: z_t_11 :: z_t_12 :: z_t_13 :: z_t_14 :: z_t_15 :: z_t_16 :: z_t_17 :: z_t_18 :: z_t_19 :: z_t_20 :: z_t_21 :: z_t_22 :: z_t_23 :: z_t_24 :: z_t_25 :: z_t_26 :: .int 1 :: .int t_ringP :: .int t_ringQ :: .int t_baseY :: .int t_baseZ :: .int t_norm :: .int t_setMany :: z_t_34 :: z_t_35 :: z_t_36 :: z_t_37 :: z_t_38 :: z_t_39 :: z_t_40 :: z_t_41 :: z_t_42 :: z_t_43 :: z_t_44 :: z_t_45 :: z_t_46 :: z_t_47 :: z_t_48 :: z_t_49 :: z_t_50 :: z_t_51 :: z_t_52 :: z_t_53 :: z_t_54 :: z_t_55 :: z_t_56 :: z_t_57 :: z_t_58 :: z_t_59 :: z_t_60 :: []))) :: R) := hD
            refine lv_aload_n hx hb dX12_ring_152 rfl (lv_at hl 2 rfl) ?_
            refine lv_iload_n hx hb dX12_ring_153 rfl (lv_at hl 3 rfl) ?_
            refine lv_if_eq (tgt := 161) hx hb dX12_ring_154 (by decide) (fun c27 => ?_) (fun c27 => ?_)
            · exact absurd c27 c1
            · refine lv_iconst (v := 0) hx hb dX12_ring_157 (by decide) ?_
              refine lv_goto (tgt := 162) hx hb dX12_ring_158 (by decide) ?_
              refine va_put (D := D) (ci := 12) (v := .int 0) (ty := .int) (C := RX12) (T := TX12) (N := 61) hx hb ha ix12 tyX12 tyX12_ok nmX12 hown hK hP hD hS 0 rfl rfl 28 (by decide) (ha _ q988) (fun _ h9 => h9) rfl (by decide +kernel) rfl rfl (Nat.le_of_ble_eq_true rfl) dX12_ring_162 (fun H locs hP hD hS => ?_)
              have hP : va_P D vwCl ((h_t, .inr (12, (.int 0 :: z_t_1 :: z_t_2 :: z_t_3 :: z_t_4 :: z_t_5 :: z_t_6 :: z_t_7 :: z_t_8 :: z_t_9 :: z_t_10 :: z_t_11 :: z_t_12 :: z_t_13 :: z_t_14 :: z_t_15 :: z_t_16 :: z_t_17 :: z_t_18 :: z_t_19 :: z_t_20 :: z_t_21 :: z_t_22 :: z_t_23 :: z_t_24 :: z_t_25 :: z_t_26 :: .int 1 :: .int 0 :: .int t_ringQ :: .int t_baseY :: .int t_baseZ :: .int t_norm :: .int t_setMany :: z_t_34 :: z_t_35 :: z_t_36 :: z_t_37 :: z_t_38 :: z_t_39 :: z_t_40 :: z_t_41 :: z_t_42 :: z_t_43 :: z_t_44 :: z_t_45 :: z_t_46 :: z_t_47 :: z_t_48 :: z_t_49 :: z_t_50 :: z_t_51 :: z_t_52 :: z_t_53 :: z_t_54 :: z_t_55 :: z_t_56 :: z_t_57 :: z_t_58 :: z_t_59 :: z_t_60 :: []))) :: R) H := hP
              have hD : va_D A ((h_t, .inr (12, (.int 0 :: z_t_1 :: z_t_2 :: z_t_3 :: z_t_4 :: z_t_5 :: z_t_6 :: z_t_7 :: z_t_8 :: z_t_9 :: z_t_10 :: z_t_11 :: z_t_12 :: z_t_13 :: z_t_14 :: z_t_15 :: z_t_16 :: z_t_17 :: z_t_18 :: z_t_19 :: z_t_20 :: z_t_21 :: z_t_22 :: z_t_23 :: z_t_24 :: z_t_25 :: z_t_26 :: .int 1 :: .int 0 :: .int t_ringQ :: .int t_baseY :: .int t_baseZ :: .int t_norm :: .int t_setMany :: z_t_34 :: z_t_35 :: z_t_36 :: z_t_37 :: z_t_38 :: z_t_39 :: z_t_40 :: z_t_41 :: z_t_42 :: z_t_43 :: z_t_44 :: z_t_45 :: z_t_46 :: z_t_47 :: z_t_48 :: z_t_49 :: z_t_50 :: z_t_51 :: z_t_52 :: z_t_53 :: z_t_54 :: z_t_55 :: z_t_56 :: z_t_57 :: z_t_58 :: z_t_59 :: z_t_60 :: []))) :: R) := hD
              refine lv_aload_n hx hb dX12_ring_165 rfl (lv_at hl 2 rfl) ?_
              refine lv_iload_n hx hb dX12_ring_166 rfl (lv_at hl 3 rfl) ?_
              refine lv_if_eq (tgt := 174) hx hb dX12_ring_167 (by decide) (fun c28 => ?_) (fun c28 => ?_)
              · exact absurd c28 c1
              · refine lv_iconst (v := 0) hx hb dX12_ring_170 (by decide) ?_
                refine lv_goto (tgt := 175) hx hb dX12_ring_171 (by decide) ?_
                refine va_put (D := D) (ci := 12) (v := .int 0) (ty := .int) (C := RX12) (T := TX12) (N := 61) hx hb ha ix12 tyX12 tyX12_ok nmX12 hown hK hP hD hS 0 rfl rfl 29 (by decide) (ha _ q989) (fun _ h9 => h9) rfl (by decide +kernel) rfl rfl (Nat.le_of_ble_eq_true rfl) dX12_ring_175 (fun H locs hP hD hS => ?_)
                have hP : va_P D vwCl ((h_t, .inr (12, (.int 0 :: z_t_1 :: z_t_2 :: z_t_3 :: z_t_4 :: z_t_5 :: z_t_6 :: z_t_7 :: z_t_8 :: z_t_9 :: z_t_10 :: z_t_11 :: z_t_12 :: z_t_13 :: z_t_14 :: z_t_15 :: z_t_16 :: z_t_17 :: z_t_18 :: z_t_19 :: z_t_20 :: z_t_21 :: z_t_22 :: z_t_23 :: z_t_24 :: z_t_25 :: z_t_26 :: .int 1 :: .int 0 :: .int 0 :: .int t_baseY :: .int t_baseZ :: .int t_norm :: .int t_setMany :: z_t_34 :: z_t_35 :: z_t_36 :: z_t_37 :: z_t_38 :: z_t_39 :: z_t_40 :: z_t_41 :: z_t_42 :: z_t_43 :: z_t_44 :: z_t_45 :: z_t_46 :: z_t_47 :: z_t_48 :: z_t_49 :: z_t_50 :: z_t_51 :: z_t_52 :: z_t_53 :: z_t_54 :: z_t_55 :: z_t_56 :: z_t_57 :: z_t_58 :: z_t_59 :: z_t_60 :: []))) :: R) H := hP
                have hD : va_D A ((h_t, .inr (12, (.int 0 :: z_t_1 :: z_t_2 :: z_t_3 :: z_t_4 :: z_t_5 :: z_t_6 :: z_t_7 :: z_t_8 :: z_t_9 :: z_t_10 :: z_t_11 :: z_t_12 :: z_t_13 :: z_t_14 :: z_t_15 :: z_t_16 :: z_t_17 :: z_t_18 :: z_t_19 :: z_t_20 :: z_t_21 :: z_t_22 :: z_t_23 :: z_t_24 :: z_t_25 :: z_t_26 :: .int 1 :: .int 0 :: .int 0 :: .int t_baseY :: .int t_baseZ :: .int t_norm :: .int t_setMany :: z_t_34 :: z_t_35 :: z_t_36 :: z_t_37 :: z_t_38 :: z_t_39 :: z_t_40 :: z_t_41 :: z_t_42 :: z_t_43 :: z_t_44 :: z_t_45 :: z_t_46 :: z_t_47 :: z_t_48 :: z_t_49 :: z_t_50 :: z_t_51 :: z_t_52 :: z_t_53 :: z_t_54 :: z_t_55 :: z_t_56 :: z_t_57 :: z_t_58 :: z_t_59 :: z_t_60 :: []))) :: R) := hD
                refine lv_aload_n hx hb dX12_ring_178 rfl (lv_at hl 2 rfl) ?_
                refine lv_iload hx hb dX12_ring_179 (lv_at hl 6 rfl) ?_
                refine va_put (D := D) (ci := 12) (v := .int l4) (ty := .int) (C := RX12) (T := TX12) (N := 61) hx hb ha ix12 tyX12 tyX12_ok nmX12 hown hK hP hD hS 0 rfl rfl 30 (by decide) (ha _ q990) (fun _ h9 => h9) rfl (by decide +kernel) rfl rfl (Nat.le_of_ble_eq_true rfl) dX12_ring_181 (fun H locs hP hD hS => ?_)
                have hP : va_P D vwCl ((h_t, .inr (12, (.int 0 :: z_t_1 :: z_t_2 :: z_t_3 :: z_t_4 :: z_t_5 :: z_t_6 :: z_t_7 :: z_t_8 :: z_t_9 :: z_t_10 :: z_t_11 :: z_t_12 :: z_t_13 :: z_t_14 :: z_t_15 :: z_t_16 :: z_t_17 :: z_t_18 :: z_t_19 :: z_t_20 :: z_t_21 :: z_t_22 :: z_t_23 :: z_t_24 :: z_t_25 :: z_t_26 :: .int 1 :: .int 0 :: .int 0 :: .int l4 :: .int t_baseZ :: .int t_norm :: .int t_setMany :: z_t_34 :: z_t_35 :: z_t_36 :: z_t_37 :: z_t_38 :: z_t_39 :: z_t_40 :: z_t_41 :: z_t_42 :: z_t_43 :: z_t_44 :: z_t_45 :: z_t_46 :: z_t_47 :: z_t_48 :: z_t_49 :: z_t_50 :: z_t_51 :: z_t_52 :: z_t_53 :: z_t_54 :: z_t_55 :: z_t_56 :: z_t_57 :: z_t_58 :: z_t_59 :: z_t_60 :: []))) :: R) H := hP
                have hD : va_D A ((h_t, .inr (12, (.int 0 :: z_t_1 :: z_t_2 :: z_t_3 :: z_t_4 :: z_t_5 :: z_t_6 :: z_t_7 :: z_t_8 :: z_t_9 :: z_t_10 :: z_t_11 :: z_t_12 :: z_t_13 :: z_t_14 :: z_t_15 :: z_t_16 :: z_t_17 :: z_t_18 :: z_t_19 :: z_t_20 :: z_t_21 :: z_t_22 :: z_t_23 :: z_t_24 :: z_t_25 :: z_t_26 :: .int 1 :: .int 0 :: .int 0 :: .int l4 :: .int t_baseZ :: .int t_norm :: .int t_setMany :: z_t_34 :: z_t_35 :: z_t_36 :: z_t_37 :: z_t_38 :: z_t_39 :: z_t_40 :: z_t_41 :: z_t_42 :: z_t_43 :: z_t_44 :: z_t_45 :: z_t_46 :: z_t_47 :: z_t_48 :: z_t_49 :: z_t_50 :: z_t_51 :: z_t_52 :: z_t_53 :: z_t_54 :: z_t_55 :: z_t_56 :: z_t_57 :: z_t_58 :: z_t_59 :: z_t_60 :: []))) :: R) := hD
                refine lv_aload_n hx hb dX12_ring_184 rfl (lv_at hl 2 rfl) ?_
                refine lv_iload_n hx hb dX12_ring_185 rfl (lv_at hl 3 rfl) ?_
                refine lv_if_eq (tgt := 193) hx hb dX12_ring_186 (by decide) (fun c29 => ?_) (fun c29 => ?_)
                · exact absurd c29 c1
                · refine lv_iconst (v := 0) hx hb dX12_ring_189 (by decide) ?_
                  refine lv_goto (tgt := 195) hx hb dX12_ring_190 (by decide) ?_
                  refine va_put (D := D) (ci := 12) (v := .int 0) (ty := .int) (C := RX12) (T := TX12) (N := 61) hx hb ha ix12 tyX12 tyX12_ok nmX12 hown hK hP hD hS 0 rfl rfl 31 (by decide) (ha _ q991) (fun _ h9 => h9) rfl (by decide +kernel) rfl rfl (Nat.le_of_ble_eq_true rfl) dX12_ring_195 (fun H locs hP hD hS => ?_)
                  have hP : va_P D vwCl ((h_t, .inr (12, (.int 0 :: z_t_1 :: z_t_2 :: z_t_3 :: z_t_4 :: z_t_5 :: z_t_6 :: z_t_7 :: z_t_8 :: z_t_9 :: z_t_10 :: z_t_11 :: z_t_12 :: z_t_13 :: z_t_14 :: z_t_15 :: z_t_16 :: z_t_17 :: z_t_18 :: z_t_19 :: z_t_20 :: z_t_21 :: z_t_22 :: z_t_23 :: z_t_24 :: z_t_25 :: z_t_26 :: .int 1 :: .int 0 :: .int 0 :: .int l4 :: .int 0 :: .int t_norm :: .int t_setMany :: z_t_34 :: z_t_35 :: z_t_36 :: z_t_37 :: z_t_38 :: z_t_39 :: z_t_40 :: z_t_41 :: z_t_42 :: z_t_43 :: z_t_44 :: z_t_45 :: z_t_46 :: z_t_47 :: z_t_48 :: z_t_49 :: z_t_50 :: z_t_51 :: z_t_52 :: z_t_53 :: z_t_54 :: z_t_55 :: z_t_56 :: z_t_57 :: z_t_58 :: z_t_59 :: z_t_60 :: []))) :: R) H := hP
                  have hD : va_D A ((h_t, .inr (12, (.int 0 :: z_t_1 :: z_t_2 :: z_t_3 :: z_t_4 :: z_t_5 :: z_t_6 :: z_t_7 :: z_t_8 :: z_t_9 :: z_t_10 :: z_t_11 :: z_t_12 :: z_t_13 :: z_t_14 :: z_t_15 :: z_t_16 :: z_t_17 :: z_t_18 :: z_t_19 :: z_t_20 :: z_t_21 :: z_t_22 :: z_t_23 :: z_t_24 :: z_t_25 :: z_t_26 :: .int 1 :: .int 0 :: .int 0 :: .int l4 :: .int 0 :: .int t_norm :: .int t_setMany :: z_t_34 :: z_t_35 :: z_t_36 :: z_t_37 :: z_t_38 :: z_t_39 :: z_t_40 :: z_t_41 :: z_t_42 :: z_t_43 :: z_t_44 :: z_t_45 :: z_t_46 :: z_t_47 :: z_t_48 :: z_t_49 :: z_t_50 :: z_t_51 :: z_t_52 :: z_t_53 :: z_t_54 :: z_t_55 :: z_t_56 :: z_t_57 :: z_t_58 :: z_t_59 :: z_t_60 :: []))) :: R) := hD
                  refine lv_aload_n hx hb dX12_ring_198 rfl (lv_at hl 2 rfl) ?_
                  refine lv_lload hx hb dX12_ring_199 (lv_at hl 0 rfl) ?_
                  refine lv_l2i (v := l4.toInt64.toInt32) hx hb dX12_ring_201 rfl ?_
                  refine va_put (D := D) (ci := 12) (v := .int l4.toInt64.toInt32) (ty := .int) (C := RX12) (T := TX12) (N := 61) hx hb ha ix12 tyX12 tyX12_ok nmX12 hown hK hP hD hS 0 rfl rfl 32 (by decide) (ha _ q992) (fun _ h9 => h9) rfl (by decide +kernel) rfl rfl (Nat.le_of_ble_eq_true rfl) dX12_ring_202 (fun H locs hP hD hS => ?_)
                  have hP : va_P D vwCl ((h_t, .inr (12, (.int 0 :: z_t_1 :: z_t_2 :: z_t_3 :: z_t_4 :: z_t_5 :: z_t_6 :: z_t_7 :: z_t_8 :: z_t_9 :: z_t_10 :: z_t_11 :: z_t_12 :: z_t_13 :: z_t_14 :: z_t_15 :: z_t_16 :: z_t_17 :: z_t_18 :: z_t_19 :: z_t_20 :: z_t_21 :: z_t_22 :: z_t_23 :: z_t_24 :: z_t_25 :: z_t_26 :: .int 1 :: .int 0 :: .int 0 :: .int l4 :: .int 0 :: .int l4.toInt64.toInt32 :: .int t_setMany :: z_t_34 :: z_t_35 :: z_t_36 :: z_t_37 :: z_t_38 :: z_t_39 :: z_t_40 :: z_t_41 :: z_t_42 :: z_t_43 :: z_t_44 :: z_t_45 :: z_t_46 :: z_t_47 :: z_t_48 :: z_t_49 :: z_t_50 :: z_t_51 :: z_t_52 :: z_t_53 :: z_t_54 :: z_t_55 :: z_t_56 :: z_t_57 :: z_t_58 :: z_t_59 :: z_t_60 :: []))) :: R) H := hP
                  have hD : va_D A ((h_t, .inr (12, (.int 0 :: z_t_1 :: z_t_2 :: z_t_3 :: z_t_4 :: z_t_5 :: z_t_6 :: z_t_7 :: z_t_8 :: z_t_9 :: z_t_10 :: z_t_11 :: z_t_12 :: z_t_13 :: z_t_14 :: z_t_15 :: z_t_16 :: z_t_17 :: z_t_18 :: z_t_19 :: z_t_20 :: z_t_21 :: z_t_22 :: z_t_23 :: z_t_24 :: z_t_25 :: z_t_26 :: .int 1 :: .int 0 :: .int 0 :: .int l4 :: .int 0 :: .int l4.toInt64.toInt32 :: .int t_setMany :: z_t_34 :: z_t_35 :: z_t_36 :: z_t_37 :: z_t_38 :: z_t_39 :: z_t_40 :: z_t_41 :: z_t_42 :: z_t_43 :: z_t_44 :: z_t_45 :: z_t_46 :: z_t_47 :: z_t_48 :: z_t_49 :: z_t_50 :: z_t_51 :: z_t_52 :: z_t_53 :: z_t_54 :: z_t_55 :: z_t_56 :: z_t_57 :: z_t_58 :: z_t_59 :: z_t_60 :: []))) :: R) := hD
                  refine lv_aload_n hx hb dX12_ring_205 rfl (lv_at hl 2 rfl) ?_
                  refine lv_iconst (v := 0) hx hb dX12_ring_206 (by decide) ?_
                  refine va_put (D := D) (ci := 12) (v := .int 0) (ty := .int) (C := RX12) (T := TX12) (N := 61) hx hb ha ix12 tyX12 tyX12_ok nmX12 hown hK hP hD hS 0 rfl rfl 33 (by decide) (ha _ q993) (fun _ h9 => h9) rfl (by decide +kernel) rfl rfl (Nat.le_of_ble_eq_true rfl) dX12_ring_207 (fun H locs hP hD hS => ?_)
                  have hP : va_P D vwCl ((h_t, .inr (12, (.int 0 :: z_t_1 :: z_t_2 :: z_t_3 :: z_t_4 :: z_t_5 :: z_t_6 :: z_t_7 :: z_t_8 :: z_t_9 :: z_t_10 :: z_t_11 :: z_t_12 :: z_t_13 :: z_t_14 :: z_t_15 :: z_t_16 :: z_t_17 :: z_t_18 :: z_t_19 :: z_t_20 :: z_t_21 :: z_t_22 :: z_t_23 :: z_t_24 :: z_t_25 :: z_t_26 :: .int 1 :: .int 0 :: .int 0 :: .int l4 :: .int 0 :: .int l4.toInt64.toInt32 :: .int 0 :: z_t_34 :: z_t_35 :: z_t_36 :: z_t_37 :: z_t_38 :: z_t_39 :: z_t_40 :: z_t_41 :: z_t_42 :: z_t_43 :: z_t_44 :: z_t_45 :: z_t_46 :: z_t_47 :: z_t_48 :: z_t_49 :: z_t_50 :: z_t_51 :: z_t_52 :: z_t_53 :: z_t_54 :: z_t_55 :: z_t_56 :: z_t_57 :: z_t_58 :: z_t_59 :: z_t_60 :: []))) :: R) H := hP
                  have hD : va_D A ((h_t, .inr (12, (.int 0 :: z_t_1 :: z_t_2 :: z_t_3 :: z_t_4 :: z_t_5 :: z_t_6 :: z_t_7 :: z_t_8 :: z_t_9 :: z_t_10 :: z_t_11 :: z_t_12 :: z_t_13 :: z_t_14 :: z_t_15 :: z_t_16 :: z_t_17 :: z_t_18 :: z_t_19 :: z_t_20 :: z_t_21 :: z_t_22 :: z_t_23 :: z_t_24 :: z_t_25 :: z_t_26 :: .int 1 :: .int 0 :: .int 0 :: .int l4 :: .int 0 :: .int l4.toInt64.toInt32 :: .int 0 :: z_t_34 :: z_t_35 :: z_t_36 :: z_t_37 :: z_t_38 :: z_t_39 :: z_t_40 :: z_t_41 :: z_t_42 :: z_t_43 :: z_t_44 :: z_t_45 :: z_t_46 :: z_t_47 :: z_t_48 :: z_t_49 :: z_t_50 :: z_t_51 :: z_t_52 :: z_t_53 :: z_t_54 :: z_t_55 :: z_t_56 :: z_t_57 :: z_t_58 :: z_t_59 :: z_t_60 :: []))) :: R) := hD
                  refine lv_iconst (v := 1) hx hb dX12_ring_210 (by decide) ?_
                  cases h
                  exact rt_z S hr hlk hP hD hS (by decide) dX12_ring_211
        · have h := br_neg c25 h
          refine lv_iconst (v := 0) hx hb dX12_ring_137 (by decide) ?_
          cases h
          exact rt_z S hr hlk hP hD hS (by decide) dX12_ring_138
    · have h := br_neg c23 h
      refine lv_lload hx hb dX12_ring_109 (lv_at hl 0 rfl) ?_
      refine lv_lneg hx hb dX12_ring_111 ?_
      refine lv_goto (tgt := 117) hx hb dX12_ring_112 (by decide) ?_
      refine lv_lstore (lv' := [(8, .long (-l4.toInt64)), (6, .long l4.toInt64), (0, .ref h_t), (1, .int l1), (2, .int l2), (3, .int l3), (4, .int l4), (5, .int l5)]) hx hb dX12_ring_117 hl (by decide) rfl (fun ls hl => ?_)
      refine lv_lload hx hb dX12_ring_119 (lv_at hl 0 rfl) ?_
      refine lv_ldc2 (v := 2) hx hb hown (ha _ q1226) dX12_ring_121 ?_
      refine xl_lt (tgt := 137) hx hb dX12_ring_124 dX12_ring_125 (by decide) (fun c30 => ?_) (fun c30 => ?_)
      · have h := br_pos c30 h
        refine lv_iconst (v := 0) hx hb dX12_ring_137 (by decide) ?_
        cases h
        exact rt_z S hr hlk hP hD hS (by decide) dX12_ring_138
      · have h := br_neg c30 h
        refine lv_lload hx hb dX12_ring_128 (lv_at hl 0 rfl) ?_
        refine lv_ldc2 (v := 25) hx hb hown (ha _ q1303) dX12_ring_130 ?_
        refine xl_le (tgt := 139) hx hb dX12_ring_133 dX12_ring_134 (by decide) (fun c31 => ?_) (fun c31 => ?_)
        · have h := br_pos c31 h
          refine lv_aload_n hx hb dX12_ring_139 rfl (lv_at hl 2 rfl) ?_
          refine lv_iload_n hx hb dX12_ring_140 rfl (lv_at hl 3 rfl) ?_
          refine lv_if_eq (tgt := 148) hx hb dX12_ring_141 (by decide) (fun c32 => ?_) (fun c32 => ?_)
          · exact absurd c32 c1
          · refine lv_iconst (v := 1) hx hb dX12_ring_144 (by decide) ?_
            refine lv_goto (tgt := 149) hx hb dX12_ring_145 (by decide) ?_
            refine va_put (D := D) (ci := 12) (v := .int 1) (ty := .int) (C := RX12) (T := TX12) (N := 61) hx hb ha ix12 tyX12 tyX12_ok nmX12 hown hK hP hD hS 0 rfl rfl 27 (by decide) (ha _ q987) (fun _ h9 => h9) rfl (by decide +kernel) rfl rfl (Nat.le_of_ble_eq_true rfl) dX12_ring_149 (fun H locs hP hD hS => ?_)
            have hP : va_P D vwCl ((h_t, .inr (12, (.int 0 :: z_t_1 :: z_t_2 :: z_t_3 :: z_t_4 :: z_t_5 :: z_t_6 :: z_t_7 :: z_t_8 :: z_t_9 :: z_t_10 :: z_t_11 :: z_t_12 :: z_t_13 :: z_t_14 :: z_t_15 :: z_t_16 :: z_t_17 :: z_t_18 :: z_t_19 :: z_t_20 :: z_t_21 :: z_t_22 :: z_t_23 :: z_t_24 :: z_t_25 :: z_t_26 :: .int 1 :: .int t_ringP :: .int t_ringQ :: .int t_baseY :: .int t_baseZ :: .int t_norm :: .int t_setMany :: z_t_34 :: z_t_35 :: z_t_36 :: z_t_37 :: z_t_38 :: z_t_39 :: z_t_40 :: z_t_41 :: z_t_42 :: z_t_43 :: z_t_44 :: z_t_45 :: z_t_46 :: z_t_47 :: z_t_48 :: z_t_49 :: z_t_50 :: z_t_51 :: z_t_52 :: z_t_53 :: z_t_54 :: z_t_55 :: z_t_56 :: z_t_57 :: z_t_58 :: z_t_59 :: z_t_60 :: []))) :: R) H := hP
            have hD : va_D A ((h_t, .inr (12, (.int 0 :: z_t_1 :: z_t_2 :: z_t_3 :: z_t_4 :: z_t_5 :: z_t_6 :: z_t_7 :: z_t_8 :: z_t_9 :: z_t_10 :: z_t_11 :: z_t_12 :: z_t_13 :: z_t_14 :: z_t_15 :: z_t_16 :: z_t_17 :: z_t_18 :: z_t_19 :: z_t_20 :: z_t_21 :: z_t_22 :: z_t_23 :: z_t_24 :: z_t_25 :: z_t_26 :: .int 1 :: .int t_ringP :: .int t_ringQ :: .int t_baseY :: .int t_baseZ :: .int t_norm :: .int t_setMany :: z_t_34 :: z_t_35 :: z_t_36 :: z_t_37 :: z_t_38 :: z_t_39 :: z_t_40 :: z_t_41 :: z_t_42 :: z_t_43 :: z_t_44 :: z_t_45 :: z_t_46 :: z_t_47 :: z_t_48 :: z_t_49 :: z_t_50 :: z_t_51 :: z_t_52 :: z_t_53 :: z_t_54 :: z_t_55 :: z_t_56 :: z_t_57 :: z_t_58 :: z_t_59 :: z_t_60 :: []))) :: R) := hD
            refine lv_aload_n hx hb dX12_ring_152 rfl (lv_at hl 2 rfl) ?_
            refine lv_iload_n hx hb dX12_ring_153 rfl (lv_at hl 3 rfl) ?_
            refine lv_if_eq (tgt := 161) hx hb dX12_ring_154 (by decide) (fun c33 => ?_) (fun c33 => ?_)
            · exact absurd c33 c1
            · refine lv_iconst (v := 0) hx hb dX12_ring_157 (by decide) ?_
              refine lv_goto (tgt := 162) hx hb dX12_ring_158 (by decide) ?_
              refine va_put (D := D) (ci := 12) (v := .int 0) (ty := .int) (C := RX12) (T := TX12) (N := 61) hx hb ha ix12 tyX12 tyX12_ok nmX12 hown hK hP hD hS 0 rfl rfl 28 (by decide) (ha _ q988) (fun _ h9 => h9) rfl (by decide +kernel) rfl rfl (Nat.le_of_ble_eq_true rfl) dX12_ring_162 (fun H locs hP hD hS => ?_)
              have hP : va_P D vwCl ((h_t, .inr (12, (.int 0 :: z_t_1 :: z_t_2 :: z_t_3 :: z_t_4 :: z_t_5 :: z_t_6 :: z_t_7 :: z_t_8 :: z_t_9 :: z_t_10 :: z_t_11 :: z_t_12 :: z_t_13 :: z_t_14 :: z_t_15 :: z_t_16 :: z_t_17 :: z_t_18 :: z_t_19 :: z_t_20 :: z_t_21 :: z_t_22 :: z_t_23 :: z_t_24 :: z_t_25 :: z_t_26 :: .int 1 :: .int 0 :: .int t_ringQ :: .int t_baseY :: .int t_baseZ :: .int t_norm :: .int t_setMany :: z_t_34 :: z_t_35 :: z_t_36 :: z_t_37 :: z_t_38 :: z_t_39 :: z_t_40 :: z_t_41 :: z_t_42 :: z_t_43 :: z_t_44 :: z_t_45 :: z_t_46 :: z_t_47 :: z_t_48 :: z_t_49 :: z_t_50 :: z_t_51 :: z_t_52 :: z_t_53 :: z_t_54 :: z_t_55 :: z_t_56 :: z_t_57 :: z_t_58 :: z_t_59 :: z_t_60 :: []))) :: R) H := hP
              have hD : va_D A ((h_t, .inr (12, (.int 0 :: z_t_1 :: z_t_2 :: z_t_3 :: z_t_4 :: z_t_5 :: z_t_6 :: z_t_7 :: z_t_8 :: z_t_9 :: z_t_10 :: z_t_11 :: z_t_12 :: z_t_13 :: z_t_14 :: z_t_15 :: z_t_16 :: z_t_17 :: z_t_18 :: z_t_19 :: z_t_20 :: z_t_21 :: z_t_22 :: z_t_23 :: z_t_24 :: z_t_25 :: z_t_26 :: .int 1 :: .int 0 :: .int t_ringQ :: .int t_baseY :: .int t_baseZ :: .int t_norm :: .int t_setMany :: z_t_34 :: z_t_35 :: z_t_36 :: z_t_37 :: z_t_38 :: z_t_39 :: z_t_40 :: z_t_41 :: z_t_42 :: z_t_43 :: z_t_44 :: z_t_45 :: z_t_46 :: z_t_47 :: z_t_48 :: z_t_49 :: z_t_50 :: z_t_51 :: z_t_52 :: z_t_53 :: z_t_54 :: z_t_55 :: z_t_56 :: z_t_57 :: z_t_58 :: z_t_59 :: z_t_60 :: []))) :: R) := hD
              refine lv_aload_n hx hb dX12_ring_165 rfl (lv_at hl 2 rfl) ?_
              refine lv_iload_n hx hb dX12_ring_166 rfl (lv_at hl 3 rfl) ?_
              refine lv_if_eq (tgt := 174) hx hb dX12_ring_167 (by decide) (fun c34 => ?_) (fun c34 => ?_)
              · exact absurd c34 c1
              · refine lv_iconst (v := 0) hx hb dX12_ring_170 (by decide) ?_
                refine lv_goto (tgt := 175) hx hb dX12_ring_171 (by decide) ?_
                refine va_put (D := D) (ci := 12) (v := .int 0) (ty := .int) (C := RX12) (T := TX12) (N := 61) hx hb ha ix12 tyX12 tyX12_ok nmX12 hown hK hP hD hS 0 rfl rfl 29 (by decide) (ha _ q989) (fun _ h9 => h9) rfl (by decide +kernel) rfl rfl (Nat.le_of_ble_eq_true rfl) dX12_ring_175 (fun H locs hP hD hS => ?_)
                have hP : va_P D vwCl ((h_t, .inr (12, (.int 0 :: z_t_1 :: z_t_2 :: z_t_3 :: z_t_4 :: z_t_5 :: z_t_6 :: z_t_7 :: z_t_8 :: z_t_9 :: z_t_10 :: z_t_11 :: z_t_12 :: z_t_13 :: z_t_14 :: z_t_15 :: z_t_16 :: z_t_17 :: z_t_18 :: z_t_19 :: z_t_20 :: z_t_21 :: z_t_22 :: z_t_23 :: z_t_24 :: z_t_25 :: z_t_26 :: .int 1 :: .int 0 :: .int 0 :: .int t_baseY :: .int t_baseZ :: .int t_norm :: .int t_setMany :: z_t_34 :: z_t_35 :: z_t_36 :: z_t_37 :: z_t_38 :: z_t_39 :: z_t_40 :: z_t_41 :: z_t_42 :: z_t_43 :: z_t_44 :: z_t_45 :: z_t_46 :: z_t_47 :: z_t_48 :: z_t_49 :: z_t_50 :: z_t_51 :: z_t_52 :: z_t_53 :: z_t_54 :: z_t_55 :: z_t_56 :: z_t_57 :: z_t_58 :: z_t_59 :: z_t_60 :: []))) :: R) H := hP
                have hD : va_D A ((h_t, .inr (12, (.int 0 :: z_t_1 :: z_t_2 :: z_t_3 :: z_t_4 :: z_t_5 :: z_t_6 :: z_t_7 :: z_t_8 :: z_t_9 :: z_t_10 :: z_t_11 :: z_t_12 :: z_t_13 :: z_t_14 :: z_t_15 :: z_t_16 :: z_t_17 :: z_t_18 :: z_t_19 :: z_t_20 :: z_t_21 :: z_t_22 :: z_t_23 :: z_t_24 :: z_t_25 :: z_t_26 :: .int 1 :: .int 0 :: .int 0 :: .int t_baseY :: .int t_baseZ :: .int t_norm :: .int t_setMany :: z_t_34 :: z_t_35 :: z_t_36 :: z_t_37 :: z_t_38 :: z_t_39 :: z_t_40 :: z_t_41 :: z_t_42 :: z_t_43 :: z_t_44 :: z_t_45 :: z_t_46 :: z_t_47 :: z_t_48 :: z_t_49 :: z_t_50 :: z_t_51 :: z_t_52 :: z_t_53 :: z_t_54 :: z_t_55 :: z_t_56 :: z_t_57 :: z_t_58 :: z_t_59 :: z_t_60 :: []))) :: R) := hD
                refine lv_aload_n hx hb dX12_ring_178 rfl (lv_at hl 2 rfl) ?_
                refine lv_iload hx hb dX12_ring_179 (lv_at hl 6 rfl) ?_
                refine va_put (D := D) (ci := 12) (v := .int l4) (ty := .int) (C := RX12) (T := TX12) (N := 61) hx hb ha ix12 tyX12 tyX12_ok nmX12 hown hK hP hD hS 0 rfl rfl 30 (by decide) (ha _ q990) (fun _ h9 => h9) rfl (by decide +kernel) rfl rfl (Nat.le_of_ble_eq_true rfl) dX12_ring_181 (fun H locs hP hD hS => ?_)
                have hP : va_P D vwCl ((h_t, .inr (12, (.int 0 :: z_t_1 :: z_t_2 :: z_t_3 :: z_t_4 :: z_t_5 :: z_t_6 :: z_t_7 :: z_t_8 :: z_t_9 :: z_t_10 :: z_t_11 :: z_t_12 :: z_t_13 :: z_t_14 :: z_t_15 :: z_t_16 :: z_t_17 :: z_t_18 :: z_t_19 :: z_t_20 :: z_t_21 :: z_t_22 :: z_t_23 :: z_t_24 :: z_t_25 :: z_t_26 :: .int 1 :: .int 0 :: .int 0 :: .int l4 :: .int t_baseZ :: .int t_norm :: .int t_setMany :: z_t_34 :: z_t_35 :: z_t_36 :: z_t_37 :: z_t_38 :: z_t_39 :: z_t_40 :: z_t_41 :: z_t_42 :: z_t_43 :: z_t_44 :: z_t_45 :: z_t_46 :: z_t_47 :: z_t_48 :: z_t_49 :: z_t_50 :: z_t_51 :: z_t_52 :: z_t_53 :: z_t_54 :: z_t_55 :: z_t_56 :: z_t_57 :: z_t_58 :: z_t_59 :: z_t_60 :: []))) :: R) H := hP
                have hD : va_D A ((h_t, .inr (12, (.int 0 :: z_t_1 :: z_t_2 :: z_t_3 :: z_t_4 :: z_t_5 :: z_t_6 :: z_t_7 :: z_t_8 :: z_t_9 :: z_t_10 :: z_t_11 :: z_t_12 :: z_t_13 :: z_t_14 :: z_t_15 :: z_t_16 :: z_t_17 :: z_t_18 :: z_t_19 :: z_t_20 :: z_t_21 :: z_t_22 :: z_t_23 :: z_t_24 :: z_t_25 :: z_t_26 :: .int 1 :: .int 0 :: .int 0 :: .int l4 :: .int t_baseZ :: .int t_norm :: .int t_setMany :: z_t_34 :: z_t_35 :: z_t_36 :: z_t_37 :: z_t_38 :: z_t_39 :: z_t_40 :: z_t_41 :: z_t_42 :: z_t_43 :: z_t_44 :: z_t_45 :: z_t_46 :: z_t_47 :: z_t_48 :: z_t_49 :: z_t_50 :: z_t_51 :: z_t_52 :: z_t_53 :: z_t_54 :: z_t_55 :: z_t_56 :: z_t_57 :: z_t_58 :: z_t_59 :: z_t_60 :: []))) :: R) := hD
                refine lv_aload_n hx hb dX12_ring_184 rfl (lv_at hl 2 rfl) ?_
                refine lv_iload_n hx hb dX12_ring_185 rfl (lv_at hl 3 rfl) ?_
                refine lv_if_eq (tgt := 193) hx hb dX12_ring_186 (by decide) (fun c35 => ?_) (fun c35 => ?_)
                · exact absurd c35 c1
                · refine lv_iconst (v := 0) hx hb dX12_ring_189 (by decide) ?_
                  refine lv_goto (tgt := 195) hx hb dX12_ring_190 (by decide) ?_
                  refine va_put (D := D) (ci := 12) (v := .int 0) (ty := .int) (C := RX12) (T := TX12) (N := 61) hx hb ha ix12 tyX12 tyX12_ok nmX12 hown hK hP hD hS 0 rfl rfl 31 (by decide) (ha _ q991) (fun _ h9 => h9) rfl (by decide +kernel) rfl rfl (Nat.le_of_ble_eq_true rfl) dX12_ring_195 (fun H locs hP hD hS => ?_)
                  have hP : va_P D vwCl ((h_t, .inr (12, (.int 0 :: z_t_1 :: z_t_2 :: z_t_3 :: z_t_4 :: z_t_5 :: z_t_6 :: z_t_7 :: z_t_8 :: z_t_9 :: z_t_10 :: z_t_11 :: z_t_12 :: z_t_13 :: z_t_14 :: z_t_15 :: z_t_16 :: z_t_17 :: z_t_18 :: z_t_19 :: z_t_20 :: z_t_21 :: z_t_22 :: z_t_23 :: z_t_24 :: z_t_25 :: z_t_26 :: .int 1 :: .int 0 :: .int 0 :: .int l4 :: .int 0 :: .int t_norm :: .int t_setMany :: z_t_34 :: z_t_35 :: z_t_36 :: z_t_37 :: z_t_38 :: z_t_39 :: z_t_40 :: z_t_41 :: z_t_42 :: z_t_43 :: z_t_44 :: z_t_45 :: z_t_46 :: z_t_47 :: z_t_48 :: z_t_49 :: z_t_50 :: z_t_51 :: z_t_52 :: z_t_53 :: z_t_54 :: z_t_55 :: z_t_56 :: z_t_57 :: z_t_58 :: z_t_59 :: z_t_60 :: []))) :: R) H := hP
                  have hD : va_D A ((h_t, .inr (12, (.int 0 :: z_t_1 :: z_t_2 :: z_t_3 :: z_t_4 :: z_t_5 :: z_t_6 :: z_t_7 :: z_t_8 :: z_t_9 :: z_t_10 :: z_t_11 :: z_t_12 :: z_t_13 :: z_t_14 :: z_t_15 :: z_t_16 :: z_t_17 :: z_t_18 :: z_t_19 :: z_t_20 :: z_t_21 :: z_t_22 :: z_t_23 :: z_t_24 :: z_t_25 :: z_t_26 :: .int 1 :: .int 0 :: .int 0 :: .int l4 :: .int 0 :: .int t_norm :: .int t_setMany :: z_t_34 :: z_t_35 :: z_t_36 :: z_t_37 :: z_t_38 :: z_t_39 :: z_t_40 :: z_t_41 :: z_t_42 :: z_t_43 :: z_t_44 :: z_t_45 :: z_t_46 :: z_t_47 :: z_t_48 :: z_t_49 :: z_t_50 :: z_t_51 :: z_t_52 :: z_t_53 :: z_t_54 :: z_t_55 :: z_t_56 :: z_t_57 :: z_t_58 :: z_t_59 :: z_t_60 :: []))) :: R) := hD
                  refine lv_aload_n hx hb dX12_ring_198 rfl (lv_at hl 2 rfl) ?_
                  refine lv_lload hx hb dX12_ring_199 (lv_at hl 0 rfl) ?_
                  refine lv_l2i (v := (-l4.toInt64).toInt32) hx hb dX12_ring_201 rfl ?_
                  refine va_put (D := D) (ci := 12) (v := .int (-l4.toInt64).toInt32) (ty := .int) (C := RX12) (T := TX12) (N := 61) hx hb ha ix12 tyX12 tyX12_ok nmX12 hown hK hP hD hS 0 rfl rfl 32 (by decide) (ha _ q992) (fun _ h9 => h9) rfl (by decide +kernel) rfl rfl (Nat.le_of_ble_eq_true rfl) dX12_ring_202 (fun H locs hP hD hS => ?_)
                  have hP : va_P D vwCl ((h_t, .inr (12, (.int 0 :: z_t_1 :: z_t_2 :: z_t_3 :: z_t_4 :: z_t_5 :: z_t_6 :: z_t_7 :: z_t_8 :: z_t_9 :: z_t_10 :: z_t_11 :: z_t_12 :: z_t_13 :: z_t_14 :: z_t_15 :: z_t_16 :: z_t_17 :: z_t_18 :: z_t_19 :: z_t_20 :: z_t_21 :: z_t_22 :: z_t_23 :: z_t_24 :: z_t_25 :: z_t_26 :: .int 1 :: .int 0 :: .int 0 :: .int l4 :: .int 0 :: .int ((-l4.toInt64).toInt32) :: .int t_setMany :: z_t_34 :: z_t_35 :: z_t_36 :: z_t_37 :: z_t_38 :: z_t_39 :: z_t_40 :: z_t_41 :: z_t_42 :: z_t_43 :: z_t_44 :: z_t_45 :: z_t_46 :: z_t_47 :: z_t_48 :: z_t_49 :: z_t_50 :: z_t_51 :: z_t_52 :: z_t_53 :: z_t_54 :: z_t_55 :: z_t_56 :: z_t_57 :: z_t_58 :: z_t_59 :: z_t_60 :: []))) :: R) H := hP
                  have hD : va_D A ((h_t, .inr (12, (.int 0 :: z_t_1 :: z_t_2 :: z_t_3 :: z_t_4 :: z_t_5 :: z_t_6 :: z_t_7 :: z_t_8 :: z_t_9 :: z_t_10 :: z_t_11 :: z_t_12 :: z_t_13 :: z_t_14 :: z_t_15 :: z_t_16 :: z_t_17 :: z_t_18 :: z_t_19 :: z_t_20 :: z_t_21 :: z_t_22 :: z_t_23 :: z_t_24 :: z_t_25 :: z_t_26 :: .int 1 :: .int 0 :: .int 0 :: .int l4 :: .int 0 :: .int ((-l4.toInt64).toInt32) :: .int t_setMany :: z_t_34 :: z_t_35 :: z_t_36 :: z_t_37 :: z_t_38 :: z_t_39 :: z_t_40 :: z_t_41 :: z_t_42 :: z_t_43 :: z_t_44 :: z_t_45 :: z_t_46 :: z_t_47 :: z_t_48 :: z_t_49 :: z_t_50 :: z_t_51 :: z_t_52 :: z_t_53 :: z_t_54 :: z_t_55 :: z_t_56 :: z_t_57 :: z_t_58 :: z_t_59 :: z_t_60 :: []))) :: R) := hD
                  refine lv_aload_n hx hb dX12_ring_205 rfl (lv_at hl 2 rfl) ?_
                  refine lv_iconst (v := 0) hx hb dX12_ring_206 (by decide) ?_
                  refine va_put (D := D) (ci := 12) (v := .int 0) (ty := .int) (C := RX12) (T := TX12) (N := 61) hx hb ha ix12 tyX12 tyX12_ok nmX12 hown hK hP hD hS 0 rfl rfl 33 (by decide) (ha _ q993) (fun _ h9 => h9) rfl (by decide +kernel) rfl rfl (Nat.le_of_ble_eq_true rfl) dX12_ring_207 (fun H locs hP hD hS => ?_)
                  have hP : va_P D vwCl ((h_t, .inr (12, (.int 0 :: z_t_1 :: z_t_2 :: z_t_3 :: z_t_4 :: z_t_5 :: z_t_6 :: z_t_7 :: z_t_8 :: z_t_9 :: z_t_10 :: z_t_11 :: z_t_12 :: z_t_13 :: z_t_14 :: z_t_15 :: z_t_16 :: z_t_17 :: z_t_18 :: z_t_19 :: z_t_20 :: z_t_21 :: z_t_22 :: z_t_23 :: z_t_24 :: z_t_25 :: z_t_26 :: .int 1 :: .int 0 :: .int 0 :: .int l4 :: .int 0 :: .int ((-l4.toInt64).toInt32) :: .int 0 :: z_t_34 :: z_t_35 :: z_t_36 :: z_t_37 :: z_t_38 :: z_t_39 :: z_t_40 :: z_t_41 :: z_t_42 :: z_t_43 :: z_t_44 :: z_t_45 :: z_t_46 :: z_t_47 :: z_t_48 :: z_t_49 :: z_t_50 :: z_t_51 :: z_t_52 :: z_t_53 :: z_t_54 :: z_t_55 :: z_t_56 :: z_t_57 :: z_t_58 :: z_t_59 :: z_t_60 :: []))) :: R) H := hP
                  have hD : va_D A ((h_t, .inr (12, (.int 0 :: z_t_1 :: z_t_2 :: z_t_3 :: z_t_4 :: z_t_5 :: z_t_6 :: z_t_7 :: z_t_8 :: z_t_9 :: z_t_10 :: z_t_11 :: z_t_12 :: z_t_13 :: z_t_14 :: z_t_15 :: z_t_16 :: z_t_17 :: z_t_18 :: z_t_19 :: z_t_20 :: z_t_21 :: z_t_22 :: z_t_23 :: z_t_24 :: z_t_25 :: z_t_26 :: .int 1 :: .int 0 :: .int 0 :: .int l4 :: .int 0 :: .int ((-l4.toInt64).toInt32) :: .int 0 :: z_t_34 :: z_t_35 :: z_t_36 :: z_t_37 :: z_t_38 :: z_t_39 :: z_t_40 :: z_t_41 :: z_t_42 :: z_t_43 :: z_t_44 :: z_t_45 :: z_t_46 :: z_t_47 :: z_t_48 :: z_t_49 :: z_t_50 :: z_t_51 :: z_t_52 :: z_t_53 :: z_t_54 :: z_t_55 :: z_t_56 :: z_t_57 :: z_t_58 :: z_t_59 :: z_t_60 :: []))) :: R) := hD
                  refine lv_iconst (v := 1) hx hb dX12_ring_210 (by decide) ?_
                  cases h
                  exact rt_z S hr hlk hP hD hS (by decide) dX12_ring_211
        · have h := br_neg c31 h
          refine lv_iconst (v := 0) hx hb dX12_ring_137 (by decide) ?_
          cases h
          exact rt_z S hr hlk hP hD hS (by decide) dX12_ring_138
noncomputable def f_X12_divides (t_parts : Int32) (t_ringP : Int32) (t_ringQ : Int32) (t_baseY : Int32) (t_baseZ : Int32) (t_quotientY : Int64) (t_quotientZ : Int64) (l1 : Int64) (l3 : Int64) : Option (Int32 × Int64 × Int64) :=
  if t_parts = 1 then (
   gd (nzL t_baseY.toInt64) (
    gd (nzL t_baseY.toInt64) (
     if (l1 - l1 / t_baseY.toInt64 * t_baseY.toInt64) = 0 then (
      some (1, (l1 / t_baseY.toInt64), 0)
     ) else (
      some (0, (l1 / t_baseY.toInt64), 0)
     )
    )
   )
  ) else (
   gd (nzL (((t_baseY.toInt64 * t_baseY.toInt64) + ((t_ringP.toInt64 * t_baseY.toInt64) * t_baseZ.toInt64)) - ((t_ringQ.toInt64 * t_baseZ.toInt64) * t_baseZ.toInt64))) (
    gd (nzL (((t_baseY.toInt64 * t_baseY.toInt64) + ((t_ringP.toInt64 * t_baseY.toInt64) * t_baseZ.toInt64)) - ((t_ringQ.toInt64 * t_baseZ.toInt64) * t_baseZ.toInt64))) (
     gd (nzL (((t_baseY.toInt64 * t_baseY.toInt64) + ((t_ringP.toInt64 * t_baseY.toInt64) * t_baseZ.toInt64)) - ((t_ringQ.toInt64 * t_baseZ.toInt64) * t_baseZ.toInt64))) (
      if (((l1 * (t_baseY.toInt64 + (t_baseZ.toInt64 * t_ringP.toInt64))) + ((l3 * (-t_baseZ).toInt64) * t_ringQ.toInt64)) - ((l1 * (t_baseY.toInt64 + (t_baseZ.toInt64 * t_ringP.toInt64))) + ((l3 * (-t_baseZ).toInt64) * t_ringQ.toInt64)) / (((t_baseY.toInt64 * t_baseY.toInt64) + ((t_ringP.toInt64 * t_baseY.toInt64) * t_baseZ.toInt64)) - ((t_ringQ.toInt64 * t_baseZ.toInt64) * t_baseZ.toInt64)) * (((t_baseY.toInt64 * t_baseY.toInt64) + ((t_ringP.toInt64 * t_baseY.toInt64) * t_baseZ.toInt64)) - ((t_ringQ.toInt64 * t_baseZ.toInt64) * t_baseZ.toInt64))) = 0 then (
       gd (nzL (((t_baseY.toInt64 * t_baseY.toInt64) + ((t_ringP.toInt64 * t_baseY.toInt64) * t_baseZ.toInt64)) - ((t_ringQ.toInt64 * t_baseZ.toInt64) * t_baseZ.toInt64))) (
        if ((((l1 * (-t_baseZ).toInt64) + (l3 * (t_baseY.toInt64 + (t_baseZ.toInt64 * t_ringP.toInt64)))) + ((l3 * (-t_baseZ).toInt64) * t_ringP.toInt64)) - (((l1 * (-t_baseZ).toInt64) + (l3 * (t_baseY.toInt64 + (t_baseZ.toInt64 * t_ringP.toInt64)))) + ((l3 * (-t_baseZ).toInt64) * t_ringP.toInt64)) / (((t_baseY.toInt64 * t_baseY.toInt64) + ((t_ringP.toInt64 * t_baseY.toInt64) * t_baseZ.toInt64)) - ((t_ringQ.toInt64 * t_baseZ.toInt64) * t_baseZ.toInt64)) * (((t_baseY.toInt64 * t_baseY.toInt64) + ((t_ringP.toInt64 * t_baseY.toInt64) * t_baseZ.toInt64)) - ((t_ringQ.toInt64 * t_baseZ.toInt64) * t_baseZ.toInt64))) = 0 then (
         some (1, (((l1 * (t_baseY.toInt64 + (t_baseZ.toInt64 * t_ringP.toInt64))) + ((l3 * (-t_baseZ).toInt64) * t_ringQ.toInt64)) / (((t_baseY.toInt64 * t_baseY.toInt64) + ((t_ringP.toInt64 * t_baseY.toInt64) * t_baseZ.toInt64)) - ((t_ringQ.toInt64 * t_baseZ.toInt64) * t_baseZ.toInt64))), ((((l1 * (-t_baseZ).toInt64) + (l3 * (t_baseY.toInt64 + (t_baseZ.toInt64 * t_ringP.toInt64)))) + ((l3 * (-t_baseZ).toInt64) * t_ringP.toInt64)) / (((t_baseY.toInt64 * t_baseY.toInt64) + ((t_ringP.toInt64 * t_baseY.toInt64) * t_baseZ.toInt64)) - ((t_ringQ.toInt64 * t_baseZ.toInt64) * t_baseZ.toInt64))))
        ) else (
         some (0, (((l1 * (t_baseY.toInt64 + (t_baseZ.toInt64 * t_ringP.toInt64))) + ((l3 * (-t_baseZ).toInt64) * t_ringQ.toInt64)) / (((t_baseY.toInt64 * t_baseY.toInt64) + ((t_ringP.toInt64 * t_baseY.toInt64) * t_baseZ.toInt64)) - ((t_ringQ.toInt64 * t_baseZ.toInt64) * t_baseZ.toInt64))), ((((l1 * (-t_baseZ).toInt64) + (l3 * (t_baseY.toInt64 + (t_baseZ.toInt64 * t_ringP.toInt64)))) + ((l3 * (-t_baseZ).toInt64) * t_ringP.toInt64)) / (((t_baseY.toInt64 * t_baseY.toInt64) + ((t_ringP.toInt64 * t_baseY.toInt64) * t_baseZ.toInt64)) - ((t_ringQ.toInt64 * t_baseZ.toInt64) * t_baseZ.toInt64))))
        )
       )
      ) else (
       some (0, (((l1 * (t_baseY.toInt64 + (t_baseZ.toInt64 * t_ringP.toInt64))) + ((l3 * (-t_baseZ).toInt64) * t_ringQ.toInt64)) / (((t_baseY.toInt64 * t_baseY.toInt64) + ((t_ringP.toInt64 * t_baseY.toInt64) * t_baseZ.toInt64)) - ((t_ringQ.toInt64 * t_baseZ.toInt64) * t_baseZ.toInt64))), ((((l1 * (-t_baseZ).toInt64) + (l3 * (t_baseY.toInt64 + (t_baseZ.toInt64 * t_ringP.toInt64)))) + ((l3 * (-t_baseZ).toInt64) * t_ringP.toInt64)) / (((t_baseY.toInt64 * t_baseY.toInt64) + ((t_ringP.toInt64 * t_baseY.toInt64) * t_baseZ.toInt64)) - ((t_ringQ.toInt64 * t_baseZ.toInt64) * t_baseZ.toInt64))))
      )
     )
    )
   )
  )
set_option maxHeartbeats 4000000 in
set_option maxRecDepth 100000 in
theorem c_X12_divides (l : Launch) (D : va_G) (R : va_W) (h_t : Nat) (z_t_0 : Value) (z_t_1 : Value) (z_t_2 : Value) (z_t_3 : Value) (z_t_4 : Value) (z_t_5 : Value) (z_t_6 : Value) (z_t_7 : Value) (z_t_8 : Value) (z_t_9 : Value) (z_t_10 : Value) (z_t_11 : Value) (z_t_12 : Value) (z_t_13 : Value) (z_t_14 : Value) (z_t_15 : Value) (z_t_16 : Value) (z_t_17 : Value) (z_t_18 : Value) (z_t_19 : Value) (z_t_20 : Value) (z_t_21 : Value) (z_t_22 : Value) (z_t_23 : Value) (z_t_24 : Value) (z_t_25 : Value) (z_t_26 : Value) (t_parts : Int32) (t_ringP : Int32) (t_ringQ : Int32) (t_baseY : Int32) (t_baseZ : Int32) (z_t_32 : Value) (z_t_33 : Value) (z_t_34 : Value) (z_t_35 : Value) (z_t_36 : Value) (z_t_37 : Value) (t_quotientY : Int64) (t_quotientZ : Int64) (z_t_40 : Value) (z_t_41 : Value) (z_t_42 : Value) (z_t_43 : Value) (z_t_44 : Value) (z_t_45 : Value) (z_t_46 : Value) (z_t_47 : Value) (z_t_48 : Value) (z_t_49 : Value) (z_t_50 : Value) (z_t_51 : Value) (z_t_52 : Value) (z_t_53 : Value) (z_t_54 : Value) (z_t_55 : Value) (z_t_56 : Value) (z_t_57 : Value) (z_t_58 : Value) (z_t_59 : Value) (z_t_60 : Value) (l1 : Int64) (l3 : Int64) (r : Int32) (o_t_quotientY : Int64) (o_t_quotientZ : Int64)  (h : f_X12_divides t_parts t_ringP t_ringQ t_baseY t_baseZ t_quotientY t_quotientZ l1 l3 = some (r, o_t_quotientY, o_t_quotientZ)) (sz : Nat) : Met l yX12_divides (WD yX12_divides cX12_divides 15 (some .boolean)) ({ frames := 0, cells := 0, slots := 0, locals := 0 }) (va_Pc [.ref h_t, .long l1, .long l3] (PcW D [] ((h_t, .inr (12, (z_t_0 :: z_t_1 :: z_t_2 :: z_t_3 :: z_t_4 :: z_t_5 :: z_t_6 :: z_t_7 :: z_t_8 :: z_t_9 :: z_t_10 :: z_t_11 :: z_t_12 :: z_t_13 :: z_t_14 :: z_t_15 :: z_t_16 :: z_t_17 :: z_t_18 :: z_t_19 :: z_t_20 :: z_t_21 :: z_t_22 :: z_t_23 :: z_t_24 :: z_t_25 :: z_t_26 :: .int t_parts :: .int t_ringP :: .int t_ringQ :: .int t_baseY :: .int t_baseZ :: z_t_32 :: z_t_33 :: z_t_34 :: z_t_35 :: z_t_36 :: z_t_37 :: .long t_quotientY :: .long t_quotientZ :: z_t_40 :: z_t_41 :: z_t_42 :: z_t_43 :: z_t_44 :: z_t_45 :: z_t_46 :: z_t_47 :: z_t_48 :: z_t_49 :: z_t_50 :: z_t_51 :: z_t_52 :: z_t_53 :: z_t_54 :: z_t_55 :: z_t_56 :: z_t_57 :: z_t_58 :: z_t_59 :: z_t_60 :: []))) :: R) sz)) (QZ D r ((h_t, .inr (12, (z_t_0 :: z_t_1 :: z_t_2 :: z_t_3 :: z_t_4 :: z_t_5 :: z_t_6 :: z_t_7 :: z_t_8 :: z_t_9 :: z_t_10 :: z_t_11 :: z_t_12 :: z_t_13 :: z_t_14 :: z_t_15 :: z_t_16 :: z_t_17 :: z_t_18 :: z_t_19 :: z_t_20 :: z_t_21 :: z_t_22 :: z_t_23 :: z_t_24 :: z_t_25 :: z_t_26 :: .int t_parts :: .int t_ringP :: .int t_ringQ :: .int t_baseY :: .int t_baseZ :: z_t_32 :: z_t_33 :: z_t_34 :: z_t_35 :: z_t_36 :: z_t_37 :: .long o_t_quotientY :: .long o_t_quotientZ :: z_t_40 :: z_t_41 :: z_t_42 :: z_t_43 :: z_t_44 :: z_t_45 :: z_t_46 :: z_t_47 :: z_t_48 :: z_t_49 :: z_t_50 :: z_t_51 :: z_t_52 :: z_t_53 :: z_t_54 :: z_t_55 :: z_t_56 :: z_t_57 :: z_t_58 :: z_t_59 :: z_t_60 :: []))) :: R) (va_A ((h_t, .inr (12, (z_t_0 :: z_t_1 :: z_t_2 :: z_t_3 :: z_t_4 :: z_t_5 :: z_t_6 :: z_t_7 :: z_t_8 :: z_t_9 :: z_t_10 :: z_t_11 :: z_t_12 :: z_t_13 :: z_t_14 :: z_t_15 :: z_t_16 :: z_t_17 :: z_t_18 :: z_t_19 :: z_t_20 :: z_t_21 :: z_t_22 :: z_t_23 :: z_t_24 :: z_t_25 :: z_t_26 :: .int t_parts :: .int t_ringP :: .int t_ringQ :: .int t_baseY :: .int t_baseZ :: z_t_32 :: z_t_33 :: z_t_34 :: z_t_35 :: z_t_36 :: z_t_37 :: .long t_quotientY :: .long t_quotientZ :: z_t_40 :: z_t_41 :: z_t_42 :: z_t_43 :: z_t_44 :: z_t_45 :: z_t_46 :: z_t_47 :: z_t_48 :: z_t_49 :: z_t_50 :: z_t_51 :: z_t_52 :: z_t_53 :: z_t_54 :: z_t_55 :: z_t_56 :: z_t_57 :: z_t_58 :: z_t_59 :: z_t_60 :: []))) :: R) sz)) 0 0 (va_A ((h_t, .inr (12, (z_t_0 :: z_t_1 :: z_t_2 :: z_t_3 :: z_t_4 :: z_t_5 :: z_t_6 :: z_t_7 :: z_t_8 :: z_t_9 :: z_t_10 :: z_t_11 :: z_t_12 :: z_t_13 :: z_t_14 :: z_t_15 :: z_t_16 :: z_t_17 :: z_t_18 :: z_t_19 :: z_t_20 :: z_t_21 :: z_t_22 :: z_t_23 :: z_t_24 :: z_t_25 :: z_t_26 :: .int t_parts :: .int t_ringP :: .int t_ringQ :: .int t_baseY :: .int t_baseZ :: z_t_32 :: z_t_33 :: z_t_34 :: z_t_35 :: z_t_36 :: z_t_37 :: .long t_quotientY :: .long t_quotientZ :: z_t_40 :: z_t_41 :: z_t_42 :: z_t_43 :: z_t_44 :: z_t_45 :: z_t_46 :: z_t_47 :: z_t_48 :: z_t_49 :: z_t_50 :: z_t_51 :: z_t_52 :: z_t_53 :: z_t_54 :: z_t_55 :: z_t_56 :: z_t_57 :: z_t_58 :: z_t_59 :: z_t_60 :: []))) :: R) sz) := by
  refine ct_start (QF := fun A => QZ D r ((h_t, .inr (12, (z_t_0 :: z_t_1 :: z_t_2 :: z_t_3 :: z_t_4 :: z_t_5 :: z_t_6 :: z_t_7 :: z_t_8 :: z_t_9 :: z_t_10 :: z_t_11 :: z_t_12 :: z_t_13 :: z_t_14 :: z_t_15 :: z_t_16 :: z_t_17 :: z_t_18 :: z_t_19 :: z_t_20 :: z_t_21 :: z_t_22 :: z_t_23 :: z_t_24 :: z_t_25 :: z_t_26 :: .int t_parts :: .int t_ringP :: .int t_ringQ :: .int t_baseY :: .int t_baseZ :: z_t_32 :: z_t_33 :: z_t_34 :: z_t_35 :: z_t_36 :: z_t_37 :: .long o_t_quotientY :: .long o_t_quotientZ :: z_t_40 :: z_t_41 :: z_t_42 :: z_t_43 :: z_t_44 :: z_t_45 :: z_t_46 :: z_t_47 :: z_t_48 :: z_t_49 :: z_t_50 :: z_t_51 :: z_t_52 :: z_t_53 :: z_t_54 :: z_t_55 :: z_t_56 :: z_t_57 :: z_t_58 :: z_t_59 :: z_t_60 :: []))) :: R) A) ?_ ?_ ?_
  · decide +kernel
  · exact Nat.le_of_ble_eq_true rfl
  intro p e s m args below meth c A ls S hr hlk hnm hS hA hP hD hK hN hl
  have S : CallFix p m c cX12_divides 15 s args AL "DigitBenchModel" := S
  have hx := S.1
  have hb := S.2.1
  have hown := S.2.2.2.1
  have ha := S.2.2.2.2
  have hl : lv_has ls 15 [(0, .ref h_t), (1, .long l1), (3, .long l3)] := hl
  unfold f_X12_divides at h
  refine lv_aload_n hx hb dX12_divides_0 rfl (lv_at hl 0 rfl) ?_
  refine va_get (D := D) (ci := 12) (v := .int t_parts) (C := RX12) (T := TX12) (N := 61) hx hb ha ix12 hown hK hP 0 rfl rfl 27 (by decide) (ha _ q987) (fun _ h9 => h9) rfl dX12_divides_1 ?_
  refine lv_iconst (v := 1) hx hb dX12_divides_4 (by decide) ?_
  refine lv_icmp_ne (tgt := 42) hx hb dX12_divides_5 (by decide) (fun c1 => ?_) (fun c1 => ?_)
  · have h := br_neg c1 h
    refine lv_aload_n hx hb dX12_divides_42 rfl (lv_at hl 0 rfl) ?_
    refine va_get (D := D) (ci := 12) (v := .int t_baseY) (C := RX12) (T := TX12) (N := 61) hx hb ha ix12 hown hK hP 0 rfl rfl 30 (by decide) (ha _ q990) (fun _ h9 => h9) rfl dX12_divides_43 ?_
    refine lv_i2l (v := t_baseY.toInt64) hx hb dX12_divides_46 rfl ?_
    refine lv_aload_n hx hb dX12_divides_47 rfl (lv_at hl 0 rfl) ?_
    refine va_get (D := D) (ci := 12) (v := .int t_baseY) (C := RX12) (T := TX12) (N := 61) hx hb ha ix12 hown hK hP 0 rfl rfl 30 (by decide) (ha _ q990) (fun _ h9 => h9) rfl dX12_divides_48 ?_
    refine lv_i2l (v := t_baseY.toInt64) hx hb dX12_divides_51 rfl ?_
    refine lv_lmul hx hb dX12_divides_52 ?_
    refine lv_aload_n hx hb dX12_divides_53 rfl (lv_at hl 0 rfl) ?_
    refine va_get (D := D) (ci := 12) (v := .int t_ringP) (C := RX12) (T := TX12) (N := 61) hx hb ha ix12 hown hK hP 0 rfl rfl 28 (by decide) (ha _ q988) (fun _ h9 => h9) rfl dX12_divides_54 ?_
    refine lv_i2l (v := t_ringP.toInt64) hx hb dX12_divides_57 rfl ?_
    refine lv_aload_n hx hb dX12_divides_58 rfl (lv_at hl 0 rfl) ?_
    refine va_get (D := D) (ci := 12) (v := .int t_baseY) (C := RX12) (T := TX12) (N := 61) hx hb ha ix12 hown hK hP 0 rfl rfl 30 (by decide) (ha _ q990) (fun _ h9 => h9) rfl dX12_divides_59 ?_
    refine lv_i2l (v := t_baseY.toInt64) hx hb dX12_divides_62 rfl ?_
    refine lv_lmul hx hb dX12_divides_63 ?_
    refine lv_aload_n hx hb dX12_divides_64 rfl (lv_at hl 0 rfl) ?_
    refine va_get (D := D) (ci := 12) (v := .int t_baseZ) (C := RX12) (T := TX12) (N := 61) hx hb ha ix12 hown hK hP 0 rfl rfl 31 (by decide) (ha _ q991) (fun _ h9 => h9) rfl dX12_divides_65 ?_
    refine lv_i2l (v := t_baseZ.toInt64) hx hb dX12_divides_68 rfl ?_
    refine lv_lmul hx hb dX12_divides_69 ?_
    refine lv_ladd hx hb dX12_divides_70 ?_
    refine lv_aload_n hx hb dX12_divides_71 rfl (lv_at hl 0 rfl) ?_
    refine va_get (D := D) (ci := 12) (v := .int t_ringQ) (C := RX12) (T := TX12) (N := 61) hx hb ha ix12 hown hK hP 0 rfl rfl 29 (by decide) (ha _ q989) (fun _ h9 => h9) rfl dX12_divides_72 ?_
    refine lv_i2l (v := t_ringQ.toInt64) hx hb dX12_divides_75 rfl ?_
    refine lv_aload_n hx hb dX12_divides_76 rfl (lv_at hl 0 rfl) ?_
    refine va_get (D := D) (ci := 12) (v := .int t_baseZ) (C := RX12) (T := TX12) (N := 61) hx hb ha ix12 hown hK hP 0 rfl rfl 31 (by decide) (ha _ q991) (fun _ h9 => h9) rfl dX12_divides_77 ?_
    refine lv_i2l (v := t_baseZ.toInt64) hx hb dX12_divides_80 rfl ?_
    refine lv_lmul hx hb dX12_divides_81 ?_
    refine lv_aload_n hx hb dX12_divides_82 rfl (lv_at hl 0 rfl) ?_
    refine va_get (D := D) (ci := 12) (v := .int t_baseZ) (C := RX12) (T := TX12) (N := 61) hx hb ha ix12 hown hK hP 0 rfl rfl 31 (by decide) (ha _ q991) (fun _ h9 => h9) rfl dX12_divides_83 ?_
    refine lv_i2l (v := t_baseZ.toInt64) hx hb dX12_divides_86 rfl ?_
    refine lv_lmul hx hb dX12_divides_87 ?_
    refine lv_lsub hx hb dX12_divides_88 ?_
    refine lv_lstore (lv' := [(5, .long (((t_baseY.toInt64 * t_baseY.toInt64) + ((t_ringP.toInt64 * t_baseY.toInt64) * t_baseZ.toInt64)) - ((t_ringQ.toInt64 * t_baseZ.toInt64) * t_baseZ.toInt64))), (0, .ref h_t), (1, .long l1), (3, .long l3)]) hx hb dX12_divides_89 hl (by decide) rfl (fun ls hl => ?_)
    refine lv_aload_n hx hb dX12_divides_91 rfl (lv_at hl 1 rfl) ?_
    refine va_get (D := D) (ci := 12) (v := .int t_baseY) (C := RX12) (T := TX12) (N := 61) hx hb ha ix12 hown hK hP 0 rfl rfl 30 (by decide) (ha _ q990) (fun _ h9 => h9) rfl dX12_divides_92 ?_
    refine lv_i2l (v := t_baseY.toInt64) hx hb dX12_divides_95 rfl ?_
    refine lv_aload_n hx hb dX12_divides_96 rfl (lv_at hl 1 rfl) ?_
    refine va_get (D := D) (ci := 12) (v := .int t_baseZ) (C := RX12) (T := TX12) (N := 61) hx hb ha ix12 hown hK hP 0 rfl rfl 31 (by decide) (ha _ q991) (fun _ h9 => h9) rfl dX12_divides_97 ?_
    refine lv_i2l (v := t_baseZ.toInt64) hx hb dX12_divides_100 rfl ?_
    refine lv_aload_n hx hb dX12_divides_101 rfl (lv_at hl 1 rfl) ?_
    refine va_get (D := D) (ci := 12) (v := .int t_ringP) (C := RX12) (T := TX12) (N := 61) hx hb ha ix12 hown hK hP 0 rfl rfl 28 (by decide) (ha _ q988) (fun _ h9 => h9) rfl dX12_divides_102 ?_
    refine lv_i2l (v := t_ringP.toInt64) hx hb dX12_divides_105 rfl ?_
    refine lv_lmul hx hb dX12_divides_106 ?_
    refine lv_ladd hx hb dX12_divides_107 ?_
    refine lv_lstore (lv' := [(7, .long (t_baseY.toInt64 + (t_baseZ.toInt64 * t_ringP.toInt64))), (5, .long (((t_baseY.toInt64 * t_baseY.toInt64) + ((t_ringP.toInt64 * t_baseY.toInt64) * t_baseZ.toInt64)) - ((t_ringQ.toInt64 * t_baseZ.toInt64) * t_baseZ.toInt64))), (0, .ref h_t), (1, .long l1), (3, .long l3)]) hx hb dX12_divides_108 hl (by decide) rfl (fun ls hl => ?_)
    refine lv_aload_n hx hb dX12_divides_110 rfl (lv_at hl 2 rfl) ?_
    refine va_get (D := D) (ci := 12) (v := .int t_baseZ) (C := RX12) (T := TX12) (N := 61) hx hb ha ix12 hown hK hP 0 rfl rfl 31 (by decide) (ha _ q991) (fun _ h9 => h9) rfl dX12_divides_111 ?_
    refine lv_ineg hx hb dX12_divides_114 ?_
    refine lv_i2l (v := (-t_baseZ).toInt64) hx hb dX12_divides_115 rfl ?_
    refine lv_lstore (lv' := [(9, .long (-t_baseZ).toInt64), (7, .long (t_baseY.toInt64 + (t_baseZ.toInt64 * t_ringP.toInt64))), (5, .long (((t_baseY.toInt64 * t_baseY.toInt64) + ((t_ringP.toInt64 * t_baseY.toInt64) * t_baseZ.toInt64)) - ((t_ringQ.toInt64 * t_baseZ.toInt64) * t_baseZ.toInt64))), (0, .ref h_t), (1, .long l1), (3, .long l3)]) hx hb dX12_divides_116 hl (by decide) rfl (fun ls hl => ?_)
    refine lv_lload_n hx hb dX12_divides_118 rfl (lv_at hl 4 rfl) ?_
    refine lv_lload hx hb dX12_divides_119 (lv_at hl 1 rfl) ?_
    refine lv_lmul hx hb dX12_divides_121 ?_
    refine lv_lload_n hx hb dX12_divides_122 rfl (lv_at hl 5 rfl) ?_
    refine lv_lload hx hb dX12_divides_123 (lv_at hl 0 rfl) ?_
    refine lv_lmul hx hb dX12_divides_125 ?_
    refine lv_aload_n hx hb dX12_divides_126 rfl (lv_at hl 3 rfl) ?_
    refine va_get (D := D) (ci := 12) (v := .int t_ringQ) (C := RX12) (T := TX12) (N := 61) hx hb ha ix12 hown hK hP 0 rfl rfl 29 (by decide) (ha _ q989) (fun _ h9 => h9) rfl dX12_divides_127 ?_
    refine lv_i2l (v := t_ringQ.toInt64) hx hb dX12_divides_130 rfl ?_
    refine lv_lmul hx hb dX12_divides_131 ?_
    refine lv_ladd hx hb dX12_divides_132 ?_
    refine lv_lstore (lv' := [(11, .long ((l1 * (t_baseY.toInt64 + (t_baseZ.toInt64 * t_ringP.toInt64))) + ((l3 * (-t_baseZ).toInt64) * t_ringQ.toInt64))), (9, .long (-t_baseZ).toInt64), (7, .long (t_baseY.toInt64 + (t_baseZ.toInt64 * t_ringP.toInt64))), (5, .long (((t_baseY.toInt64 * t_baseY.toInt64) + ((t_ringP.toInt64 * t_baseY.toInt64) * t_baseZ.toInt64)) - ((t_ringQ.toInt64 * t_baseZ.toInt64) * t_baseZ.toInt64))), (0, .ref h_t), (1, .long l1), (3, .long l3)]) hx hb dX12_divides_133 hl (by decide) rfl (fun ls hl => ?_)
    refine lv_lload_n hx hb dX12_divides_135 rfl (lv_at hl 5 rfl) ?_
    refine lv_lload hx hb dX12_divides_136 (lv_at hl 1 rfl) ?_
    refine lv_lmul hx hb dX12_divides_138 ?_
    refine lv_lload_n hx hb dX12_divides_139 rfl (lv_at hl 6 rfl) ?_
    refine lv_lload hx hb dX12_divides_140 (lv_at hl 2 rfl) ?_
    refine lv_lmul hx hb dX12_divides_142 ?_
    refine lv_ladd hx hb dX12_divides_143 ?_
    refine lv_lload_n hx hb dX12_divides_144 rfl (lv_at hl 6 rfl) ?_
    refine lv_lload hx hb dX12_divides_145 (lv_at hl 1 rfl) ?_
    refine lv_lmul hx hb dX12_divides_147 ?_
    refine lv_aload_n hx hb dX12_divides_148 rfl (lv_at hl 4 rfl) ?_
    refine va_get (D := D) (ci := 12) (v := .int t_ringP) (C := RX12) (T := TX12) (N := 61) hx hb ha ix12 hown hK hP 0 rfl rfl 28 (by decide) (ha _ q988) (fun _ h9 => h9) rfl dX12_divides_149 ?_
    refine lv_i2l (v := t_ringP.toInt64) hx hb dX12_divides_152 rfl ?_
    refine lv_lmul hx hb dX12_divides_153 ?_
    refine lv_ladd hx hb dX12_divides_154 ?_
    refine lv_lstore (lv' := [(13, .long (((l1 * (-t_baseZ).toInt64) + (l3 * (t_baseY.toInt64 + (t_baseZ.toInt64 * t_ringP.toInt64)))) + ((l3 * (-t_baseZ).toInt64) * t_ringP.toInt64))), (11, .long ((l1 * (t_baseY.toInt64 + (t_baseZ.toInt64 * t_ringP.toInt64))) + ((l3 * (-t_baseZ).toInt64) * t_ringQ.toInt64))), (9, .long (-t_baseZ).toInt64), (7, .long (t_baseY.toInt64 + (t_baseZ.toInt64 * t_ringP.toInt64))), (5, .long (((t_baseY.toInt64 * t_baseY.toInt64) + ((t_ringP.toInt64 * t_baseY.toInt64) * t_baseZ.toInt64)) - ((t_ringQ.toInt64 * t_baseZ.toInt64) * t_baseZ.toInt64))), (0, .ref h_t), (1, .long l1), (3, .long l3)]) hx hb dX12_divides_155 hl (by decide) rfl (fun ls hl => ?_)
    refine lv_aload_n hx hb dX12_divides_157 rfl (lv_at hl 5 rfl) ?_
    refine lv_lload hx hb dX12_divides_158 (lv_at hl 1 rfl) ?_
    refine lv_lload hx hb dX12_divides_160 (lv_at hl 4 rfl) ?_
    obtain ⟨n5, h⟩ := nzL_ok h
    refine lv_ldiv hx hb dX12_divides_162 n5 ?_
    refine va_put (D := D) (ci := 12) (v := .long (((l1 * (t_baseY.toInt64 + (t_baseZ.toInt64 * t_ringP.toInt64))) + ((l3 * (-t_baseZ).toInt64) * t_ringQ.toInt64)) / (((t_baseY.toInt64 * t_baseY.toInt64) + ((t_ringP.toInt64 * t_baseY.toInt64) * t_baseZ.toInt64)) - ((t_ringQ.toInt64 * t_baseZ.toInt64) * t_baseZ.toInt64)))) (ty := .long) (C := RX12) (T := TX12) (N := 61) hx hb ha ix12 tyX12 tyX12_ok nmX12 hown hK hP hD hS 0 rfl rfl 38 (by decide) (ha _ q998) (fun _ h9 => h9) rfl (by decide +kernel) rfl rfl (Nat.le_of_ble_eq_true rfl) dX12_divides_163 (fun H locs hP hD hS => ?_)
    have hP : va_P D vwCl ((h_t, .inr (12, (z_t_0 :: z_t_1 :: z_t_2 :: z_t_3 :: z_t_4 :: z_t_5 :: z_t_6 :: z_t_7 :: z_t_8 :: z_t_9 :: z_t_10 :: z_t_11 :: z_t_12 :: z_t_13 :: z_t_14 :: z_t_15 :: z_t_16 :: z_t_17 :: z_t_18 :: z_t_19 :: z_t_20 :: z_t_21 :: z_t_22 :: z_t_23 :: z_t_24 :: z_t_25 :: z_t_26 :: .int t_parts :: .int t_ringP :: .int t_ringQ :: .int t_baseY :: .int t_baseZ :: z_t_32 :: z_t_33 :: z_t_34 :: z_t_35 :: z_t_36 :: z_t_37 :: .long (((l1 * (t_baseY.toInt64 + (t_baseZ.toInt64 * t_ringP.toInt64))) + ((l3 * (-t_baseZ).toInt64) * t_ringQ.toInt64)) / (((t_baseY.toInt64 * t_baseY.toInt64) + ((t_ringP.toInt64 * t_baseY.toInt64) * t_baseZ.toInt64)) - ((t_ringQ.toInt64 * t_baseZ.toInt64) * t_baseZ.toInt64))) :: .long t_quotientZ :: z_t_40 :: z_t_41 :: z_t_42 :: z_t_43 :: z_t_44 :: z_t_45 :: z_t_46 :: z_t_47 :: z_t_48 :: z_t_49 :: z_t_50 :: z_t_51 :: z_t_52 :: z_t_53 :: z_t_54 :: z_t_55 :: z_t_56 :: z_t_57 :: z_t_58 :: z_t_59 :: z_t_60 :: []))) :: R) H := hP
    have hD : va_D A ((h_t, .inr (12, (z_t_0 :: z_t_1 :: z_t_2 :: z_t_3 :: z_t_4 :: z_t_5 :: z_t_6 :: z_t_7 :: z_t_8 :: z_t_9 :: z_t_10 :: z_t_11 :: z_t_12 :: z_t_13 :: z_t_14 :: z_t_15 :: z_t_16 :: z_t_17 :: z_t_18 :: z_t_19 :: z_t_20 :: z_t_21 :: z_t_22 :: z_t_23 :: z_t_24 :: z_t_25 :: z_t_26 :: .int t_parts :: .int t_ringP :: .int t_ringQ :: .int t_baseY :: .int t_baseZ :: z_t_32 :: z_t_33 :: z_t_34 :: z_t_35 :: z_t_36 :: z_t_37 :: .long (((l1 * (t_baseY.toInt64 + (t_baseZ.toInt64 * t_ringP.toInt64))) + ((l3 * (-t_baseZ).toInt64) * t_ringQ.toInt64)) / (((t_baseY.toInt64 * t_baseY.toInt64) + ((t_ringP.toInt64 * t_baseY.toInt64) * t_baseZ.toInt64)) - ((t_ringQ.toInt64 * t_baseZ.toInt64) * t_baseZ.toInt64))) :: .long t_quotientZ :: z_t_40 :: z_t_41 :: z_t_42 :: z_t_43 :: z_t_44 :: z_t_45 :: z_t_46 :: z_t_47 :: z_t_48 :: z_t_49 :: z_t_50 :: z_t_51 :: z_t_52 :: z_t_53 :: z_t_54 :: z_t_55 :: z_t_56 :: z_t_57 :: z_t_58 :: z_t_59 :: z_t_60 :: []))) :: R) := hD
    refine lv_aload_n hx hb dX12_divides_166 rfl (lv_at hl 5 rfl) ?_
    refine lv_lload hx hb dX12_divides_167 (lv_at hl 0 rfl) ?_
    refine lv_lload hx hb dX12_divides_169 (lv_at hl 4 rfl) ?_
    obtain ⟨n6, h⟩ := nzL_ok h
    refine lv_ldiv hx hb dX12_divides_171 n6 ?_
    refine va_put (D := D) (ci := 12) (v := .long ((((l1 * (-t_baseZ).toInt64) + (l3 * (t_baseY.toInt64 + (t_baseZ.toInt64 * t_ringP.toInt64)))) + ((l3 * (-t_baseZ).toInt64) * t_ringP.toInt64)) / (((t_baseY.toInt64 * t_baseY.toInt64) + ((t_ringP.toInt64 * t_baseY.toInt64) * t_baseZ.toInt64)) - ((t_ringQ.toInt64 * t_baseZ.toInt64) * t_baseZ.toInt64)))) (ty := .long) (C := RX12) (T := TX12) (N := 61) hx hb ha ix12 tyX12 tyX12_ok nmX12 hown hK hP hD hS 0 rfl rfl 39 (by decide) (ha _ q999) (fun _ h9 => h9) rfl (by decide +kernel) rfl rfl (Nat.le_of_ble_eq_true rfl) dX12_divides_172 (fun H locs hP hD hS => ?_)
    have hP : va_P D vwCl ((h_t, .inr (12, (z_t_0 :: z_t_1 :: z_t_2 :: z_t_3 :: z_t_4 :: z_t_5 :: z_t_6 :: z_t_7 :: z_t_8 :: z_t_9 :: z_t_10 :: z_t_11 :: z_t_12 :: z_t_13 :: z_t_14 :: z_t_15 :: z_t_16 :: z_t_17 :: z_t_18 :: z_t_19 :: z_t_20 :: z_t_21 :: z_t_22 :: z_t_23 :: z_t_24 :: z_t_25 :: z_t_26 :: .int t_parts :: .int t_ringP :: .int t_ringQ :: .int t_baseY :: .int t_baseZ :: z_t_32 :: z_t_33 :: z_t_34 :: z_t_35 :: z_t_36 :: z_t_37 :: .long (((l1 * (t_baseY.toInt64 + (t_baseZ.toInt64 * t_ringP.toInt64))) + ((l3 * (-t_baseZ).toInt64) * t_ringQ.toInt64)) / (((t_baseY.toInt64 * t_baseY.toInt64) + ((t_ringP.toInt64 * t_baseY.toInt64) * t_baseZ.toInt64)) - ((t_ringQ.toInt64 * t_baseZ.toInt64) * t_baseZ.toInt64))) :: .long ((((l1 * (-t_baseZ).toInt64) + (l3 * (t_baseY.toInt64 + (t_baseZ.toInt64 * t_ringP.toInt64)))) + ((l3 * (-t_baseZ).toInt64) * t_ringP.toInt64)) / (((t_baseY.toInt64 * t_baseY.toInt64) + ((t_ringP.toInt64 * t_baseY.toInt64) * t_baseZ.toInt64)) - ((t_ringQ.toInt64 * t_baseZ.toInt64) * t_baseZ.toInt64))) :: z_t_40 :: z_t_41 :: z_t_42 :: z_t_43 :: z_t_44 :: z_t_45 :: z_t_46 :: z_t_47 :: z_t_48 :: z_t_49 :: z_t_50 :: z_t_51 :: z_t_52 :: z_t_53 :: z_t_54 :: z_t_55 :: z_t_56 :: z_t_57 :: z_t_58 :: z_t_59 :: z_t_60 :: []))) :: R) H := hP
    have hD : va_D A ((h_t, .inr (12, (z_t_0 :: z_t_1 :: z_t_2 :: z_t_3 :: z_t_4 :: z_t_5 :: z_t_6 :: z_t_7 :: z_t_8 :: z_t_9 :: z_t_10 :: z_t_11 :: z_t_12 :: z_t_13 :: z_t_14 :: z_t_15 :: z_t_16 :: z_t_17 :: z_t_18 :: z_t_19 :: z_t_20 :: z_t_21 :: z_t_22 :: z_t_23 :: z_t_24 :: z_t_25 :: z_t_26 :: .int t_parts :: .int t_ringP :: .int t_ringQ :: .int t_baseY :: .int t_baseZ :: z_t_32 :: z_t_33 :: z_t_34 :: z_t_35 :: z_t_36 :: z_t_37 :: .long (((l1 * (t_baseY.toInt64 + (t_baseZ.toInt64 * t_ringP.toInt64))) + ((l3 * (-t_baseZ).toInt64) * t_ringQ.toInt64)) / (((t_baseY.toInt64 * t_baseY.toInt64) + ((t_ringP.toInt64 * t_baseY.toInt64) * t_baseZ.toInt64)) - ((t_ringQ.toInt64 * t_baseZ.toInt64) * t_baseZ.toInt64))) :: .long ((((l1 * (-t_baseZ).toInt64) + (l3 * (t_baseY.toInt64 + (t_baseZ.toInt64 * t_ringP.toInt64)))) + ((l3 * (-t_baseZ).toInt64) * t_ringP.toInt64)) / (((t_baseY.toInt64 * t_baseY.toInt64) + ((t_ringP.toInt64 * t_baseY.toInt64) * t_baseZ.toInt64)) - ((t_ringQ.toInt64 * t_baseZ.toInt64) * t_baseZ.toInt64))) :: z_t_40 :: z_t_41 :: z_t_42 :: z_t_43 :: z_t_44 :: z_t_45 :: z_t_46 :: z_t_47 :: z_t_48 :: z_t_49 :: z_t_50 :: z_t_51 :: z_t_52 :: z_t_53 :: z_t_54 :: z_t_55 :: z_t_56 :: z_t_57 :: z_t_58 :: z_t_59 :: z_t_60 :: []))) :: R) := hD
    refine lv_lload hx hb dX12_divides_175 (lv_at hl 1 rfl) ?_
    refine lv_lload hx hb dX12_divides_177 (lv_at hl 4 rfl) ?_
    obtain ⟨n7, h⟩ := nzL_ok h
    refine lv_lrem hx hb dX12_divides_179 n7 ?_
    refine lv_lconst (v := 0) hx hb dX12_divides_180 (by decide) ?_
    refine xl_ne (tgt := 199) hx hb dX12_divides_181 dX12_divides_182 (by decide) (fun c8 => ?_) (fun c8 => ?_)
    · have h := br_neg c8 h
      refine lv_iconst (v := 0) hx hb dX12_divides_199 (by decide) ?_
      cases h
      exact rt_z S hr hlk hP hD hS (by decide) dX12_divides_200
    · have h := br_pos c8 h
      refine lv_lload hx hb dX12_divides_185 (lv_at hl 0 rfl) ?_
      refine lv_lload hx hb dX12_divides_187 (lv_at hl 4 rfl) ?_
      obtain ⟨n9, h⟩ := nzL_ok h
      refine lv_lrem hx hb dX12_divides_189 n9 ?_
      refine lv_lconst (v := 0) hx hb dX12_divides_190 (by decide) ?_
      refine xl_ne (tgt := 199) hx hb dX12_divides_191 dX12_divides_192 (by decide) (fun c10 => ?_) (fun c10 => ?_)
      · have h := br_neg c10 h
        refine lv_iconst (v := 0) hx hb dX12_divides_199 (by decide) ?_
        cases h
        exact rt_z S hr hlk hP hD hS (by decide) dX12_divides_200
      · have h := br_pos c10 h
        refine lv_iconst (v := 1) hx hb dX12_divides_195 (by decide) ?_
        refine lv_goto (tgt := 200) hx hb dX12_divides_196 (by decide) ?_
        cases h
        exact rt_z S hr hlk hP hD hS (by decide) dX12_divides_200
  · have h := br_pos c1 h
    refine lv_aload_n hx hb dX12_divides_8 rfl (lv_at hl 0 rfl) ?_
    refine lv_lload_n hx hb dX12_divides_9 rfl (lv_at hl 1 rfl) ?_
    refine lv_aload_n hx hb dX12_divides_10 rfl (lv_at hl 0 rfl) ?_
    refine va_get (D := D) (ci := 12) (v := .int t_baseY) (C := RX12) (T := TX12) (N := 61) hx hb ha ix12 hown hK hP 0 rfl rfl 30 (by decide) (ha _ q990) (fun _ h9 => h9) rfl dX12_divides_11 ?_
    refine lv_i2l (v := t_baseY.toInt64) hx hb dX12_divides_14 rfl ?_
    obtain ⟨n2, h⟩ := nzL_ok h
    refine lv_ldiv hx hb dX12_divides_15 n2 ?_
    refine va_put (D := D) (ci := 12) (v := .long (l1 / t_baseY.toInt64)) (ty := .long) (C := RX12) (T := TX12) (N := 61) hx hb ha ix12 tyX12 tyX12_ok nmX12 hown hK hP hD hS 0 rfl rfl 38 (by decide) (ha _ q998) (fun _ h9 => h9) rfl (by decide +kernel) rfl rfl (Nat.le_of_ble_eq_true rfl) dX12_divides_16 (fun H locs hP hD hS => ?_)
    have hP : va_P D vwCl ((h_t, .inr (12, (z_t_0 :: z_t_1 :: z_t_2 :: z_t_3 :: z_t_4 :: z_t_5 :: z_t_6 :: z_t_7 :: z_t_8 :: z_t_9 :: z_t_10 :: z_t_11 :: z_t_12 :: z_t_13 :: z_t_14 :: z_t_15 :: z_t_16 :: z_t_17 :: z_t_18 :: z_t_19 :: z_t_20 :: z_t_21 :: z_t_22 :: z_t_23 :: z_t_24 :: z_t_25 :: z_t_26 :: .int t_parts :: .int t_ringP :: .int t_ringQ :: .int t_baseY :: .int t_baseZ :: z_t_32 :: z_t_33 :: z_t_34 :: z_t_35 :: z_t_36 :: z_t_37 :: .long (l1 / t_baseY.toInt64) :: .long t_quotientZ :: z_t_40 :: z_t_41 :: z_t_42 :: z_t_43 :: z_t_44 :: z_t_45 :: z_t_46 :: z_t_47 :: z_t_48 :: z_t_49 :: z_t_50 :: z_t_51 :: z_t_52 :: z_t_53 :: z_t_54 :: z_t_55 :: z_t_56 :: z_t_57 :: z_t_58 :: z_t_59 :: z_t_60 :: []))) :: R) H := hP
    have hD : va_D A ((h_t, .inr (12, (z_t_0 :: z_t_1 :: z_t_2 :: z_t_3 :: z_t_4 :: z_t_5 :: z_t_6 :: z_t_7 :: z_t_8 :: z_t_9 :: z_t_10 :: z_t_11 :: z_t_12 :: z_t_13 :: z_t_14 :: z_t_15 :: z_t_16 :: z_t_17 :: z_t_18 :: z_t_19 :: z_t_20 :: z_t_21 :: z_t_22 :: z_t_23 :: z_t_24 :: z_t_25 :: z_t_26 :: .int t_parts :: .int t_ringP :: .int t_ringQ :: .int t_baseY :: .int t_baseZ :: z_t_32 :: z_t_33 :: z_t_34 :: z_t_35 :: z_t_36 :: z_t_37 :: .long (l1 / t_baseY.toInt64) :: .long t_quotientZ :: z_t_40 :: z_t_41 :: z_t_42 :: z_t_43 :: z_t_44 :: z_t_45 :: z_t_46 :: z_t_47 :: z_t_48 :: z_t_49 :: z_t_50 :: z_t_51 :: z_t_52 :: z_t_53 :: z_t_54 :: z_t_55 :: z_t_56 :: z_t_57 :: z_t_58 :: z_t_59 :: z_t_60 :: []))) :: R) := hD
    refine lv_aload_n hx hb dX12_divides_19 rfl (lv_at hl 0 rfl) ?_
    refine lv_lconst (v := 0) hx hb dX12_divides_20 (by decide) ?_
    refine va_put (D := D) (ci := 12) (v := .long 0) (ty := .long) (C := RX12) (T := TX12) (N := 61) hx hb ha ix12 tyX12 tyX12_ok nmX12 hown hK hP hD hS 0 rfl rfl 39 (by decide) (ha _ q999) (fun _ h9 => h9) rfl (by decide +kernel) rfl rfl (Nat.le_of_ble_eq_true rfl) dX12_divides_21 (fun H locs hP hD hS => ?_)
    have hP : va_P D vwCl ((h_t, .inr (12, (z_t_0 :: z_t_1 :: z_t_2 :: z_t_3 :: z_t_4 :: z_t_5 :: z_t_6 :: z_t_7 :: z_t_8 :: z_t_9 :: z_t_10 :: z_t_11 :: z_t_12 :: z_t_13 :: z_t_14 :: z_t_15 :: z_t_16 :: z_t_17 :: z_t_18 :: z_t_19 :: z_t_20 :: z_t_21 :: z_t_22 :: z_t_23 :: z_t_24 :: z_t_25 :: z_t_26 :: .int t_parts :: .int t_ringP :: .int t_ringQ :: .int t_baseY :: .int t_baseZ :: z_t_32 :: z_t_33 :: z_t_34 :: z_t_35 :: z_t_36 :: z_t_37 :: .long (l1 / t_baseY.toInt64) :: .long 0 :: z_t_40 :: z_t_41 :: z_t_42 :: z_t_43 :: z_t_44 :: z_t_45 :: z_t_46 :: z_t_47 :: z_t_48 :: z_t_49 :: z_t_50 :: z_t_51 :: z_t_52 :: z_t_53 :: z_t_54 :: z_t_55 :: z_t_56 :: z_t_57 :: z_t_58 :: z_t_59 :: z_t_60 :: []))) :: R) H := hP
    have hD : va_D A ((h_t, .inr (12, (z_t_0 :: z_t_1 :: z_t_2 :: z_t_3 :: z_t_4 :: z_t_5 :: z_t_6 :: z_t_7 :: z_t_8 :: z_t_9 :: z_t_10 :: z_t_11 :: z_t_12 :: z_t_13 :: z_t_14 :: z_t_15 :: z_t_16 :: z_t_17 :: z_t_18 :: z_t_19 :: z_t_20 :: z_t_21 :: z_t_22 :: z_t_23 :: z_t_24 :: z_t_25 :: z_t_26 :: .int t_parts :: .int t_ringP :: .int t_ringQ :: .int t_baseY :: .int t_baseZ :: z_t_32 :: z_t_33 :: z_t_34 :: z_t_35 :: z_t_36 :: z_t_37 :: .long (l1 / t_baseY.toInt64) :: .long 0 :: z_t_40 :: z_t_41 :: z_t_42 :: z_t_43 :: z_t_44 :: z_t_45 :: z_t_46 :: z_t_47 :: z_t_48 :: z_t_49 :: z_t_50 :: z_t_51 :: z_t_52 :: z_t_53 :: z_t_54 :: z_t_55 :: z_t_56 :: z_t_57 :: z_t_58 :: z_t_59 :: z_t_60 :: []))) :: R) := hD
    refine lv_lload_n hx hb dX12_divides_24 rfl (lv_at hl 1 rfl) ?_
    refine lv_aload_n hx hb dX12_divides_25 rfl (lv_at hl 0 rfl) ?_
    refine va_get (D := D) (ci := 12) (v := .int t_baseY) (C := RX12) (T := TX12) (N := 61) hx hb ha ix12 hown hK hP 0 rfl rfl 30 (by decide) (ha _ q990) (fun _ h9 => h9) rfl dX12_divides_26 ?_
    refine lv_i2l (v := t_baseY.toInt64) hx hb dX12_divides_29 rfl ?_
    obtain ⟨n3, h⟩ := nzL_ok h
    refine lv_lrem hx hb dX12_divides_30 n3 ?_
    refine lv_lconst (v := 0) hx hb dX12_divides_31 (by decide) ?_
    refine xl_ne (tgt := 40) hx hb dX12_divides_32 dX12_divides_33 (by decide) (fun c4 => ?_) (fun c4 => ?_)
    · have h := br_neg c4 h
      refine lv_iconst (v := 0) hx hb dX12_divides_40 (by decide) ?_
      cases h
      exact rt_z S hr hlk hP hD hS (by decide) dX12_divides_41
    · have h := br_pos c4 h
      refine lv_iconst (v := 1) hx hb dX12_divides_36 (by decide) ?_
      refine lv_goto (tgt := 41) hx hb dX12_divides_37 (by decide) ?_
      cases h
      exact rt_z S hr hlk hP hD hS (by decide) dX12_divides_41
noncomputable def f_X12_set__L27 (t_parts : Int32) (t_norm : Int32) (t_tape : Nat → Int32) : Nat → Int32 → (Nat → Int32) → (Nat → Int32) →  Option ((Nat → Int32) × (Nat → Int32))
  | 0, _, _, _ => none
  | n + 1, l2, t_freshY, t_freshZ => (
    if t_norm ≤ l2 then (
     some (t_freshY, t_freshZ)
    ) else (
     gd (ixb (t_parts * l2) 200) (
      gd (ixb l2 25) (
       if t_parts = 1 then (
        gd (ixb l2 25) (
         f_X12_set__L27 t_parts t_norm t_tape n (l2 + 1) (upd t_freshY l2.toNatClampNeg (t_tape (t_parts * l2).toNatClampNeg)) (upd t_freshZ l2.toNatClampNeg 0)
        )
       ) else (
        gd (ixb ((t_parts * l2) + 1) 200) (
         gd (ixb l2 25) (
          f_X12_set__L27 t_parts t_norm t_tape n (l2 + 1) (upd t_freshY l2.toNatClampNeg (t_tape (t_parts * l2).toNatClampNeg)) (upd t_freshZ l2.toNatClampNeg (t_tape ((t_parts * l2) + 1).toNatClampNeg))
         )
        )
       )
      )
     )
    ))
noncomputable def f_X12_set__L101 (l2 : Int32) (t_parts : Int32) (t_ringP : Int32) (t_ringQ : Int32) (t_baseY : Int32) (t_baseZ : Int32) (t_freshY : Nat → Int32) (t_freshZ : Nat → Int32) : Nat → Int32 → Int64 → Int64 →  Option (Nat × Int64 × Int64)
  | 0, _, _, _ => none
  | n + 1, l3, t_quotientY, t_quotientZ => (
    if l2 ≤ l3 then (
     some (1, t_quotientY, t_quotientZ)
    ) else (
     gd (ixb l2 25) (
      gd (ixb l3 25) (
       gd (ixb l2 25) (
        gd (ixb l3 25) (
         bnd3 (f_X12_divides t_parts t_ringP t_ringQ t_baseY t_baseZ t_quotientY t_quotientZ (((t_freshY l2.toNatClampNeg) - (t_freshY l3.toNatClampNeg)).toInt64) (((t_freshZ l2.toNatClampNeg) - (t_freshZ l3.toNatClampNeg)).toInt64)) fun r_c135_16 t_quotientY_c135_16 t_quotientZ_c135_16 => (
          if r_c135_16 = 0 then (
           f_X12_set__L101 l2 t_parts t_ringP t_ringQ t_baseY t_baseZ t_freshY t_freshZ n (l3 + 1) t_quotientY_c135_16 t_quotientZ_c135_16
          ) else (
           some (0, t_quotientY_c135_16, t_quotientZ_c135_16)
          )
         )
        )
       )
      )
     )
    ))
noncomputable def f_X12_set__L91 (t_parts : Int32) (t_ringP : Int32) (t_ringQ : Int32) (t_baseY : Int32) (t_baseZ : Int32) (t_norm : Int32) (t_freshY : Nat → Int32) (t_freshZ : Nat → Int32) : Nat → Int32 → Int64 → Int64 →  Option (Nat × Int64 × Int64)
  | 0, _, _, _ => none
  | n + 1, l2, t_quotientY, t_quotientZ => (
    if t_norm ≤ l2 then (
     some (1, t_quotientY, t_quotientZ)
    ) else (
     bnd3 (f_X12_set__L101 l2 t_parts t_ringP t_ringQ t_baseY t_baseZ t_freshY t_freshZ FU 0 t_quotientY t_quotientZ) fun tg_L101_18 x_t_quotientY_L101_18 x_t_quotientZ_L101_18 => (
      if tg_L101_18 = 0 then (
       some (0, x_t_quotientY_L101_18, x_t_quotientZ_L101_18)
      ) else (
       f_X12_set__L91 t_parts t_ringP t_ringQ t_baseY t_baseZ t_norm t_freshY t_freshZ n (l2 + 1) x_t_quotientY_L101_18 x_t_quotientZ_L101_18
      )
     )
    ))
noncomputable def f_X12_set__L157 (t_norm : Int32) (t_freshY : Nat → Int32) (t_freshZ : Nat → Int32) : Nat → Int32 → (Nat → Int32) → (Nat → Int32) →  Option ((Nat → Int32) × (Nat → Int32))
  | 0, _, _, _ => none
  | n + 1, l2, t_setY, t_setZ => (
    if t_norm ≤ l2 then (
     some (t_setY, t_setZ)
    ) else (
     gd (ixb l2 25) (
      gd (ixb l2 25) (
       gd (ixb l2 25) (
        gd (ixb l2 25) (
         f_X12_set__L157 t_norm t_freshY t_freshZ n (l2 + 1) (upd t_setY l2.toNatClampNeg (t_freshY l2.toNatClampNeg)) (upd t_setZ l2.toNatClampNeg (t_freshZ l2.toNatClampNeg))
        )
       )
      )
     )
    ))
noncomputable def f_X12_set_ (t_thrown : Int32) (t_length : Int32) (t_parts : Int32) (t_ringP : Int32) (t_ringQ : Int32) (t_baseY : Int32) (t_baseZ : Int32) (t_norm : Int32) (t_setMany : Int32) (t_quotientY : Int64) (t_quotientZ : Int64) (t_tape : Nat → Int32) (t_setY : Nat → Int32) (t_setZ : Nat → Int32) (t_freshY : Nat → Int32) (t_freshZ : Nat → Int32) : Option (Int32 × Int32 × Int32 × Int32 × Int64 × Int64 × (Nat → Int32) × (Nat → Int32) × (Nat → Int32) × (Nat → Int32)) :=
  bnd2 (f_X12_taken t_length) fun r_c6_0 t_length_c6_0 => (
   if r_c6_0 = (t_norm * t_parts) then (
    bnd2 (f_X12_set__L27 t_parts t_norm t_tape FU 0 t_freshY t_freshZ) fun x_t_freshY_L27_9 x_t_freshZ_L27_9 => (
     bnd3 (f_X12_set__L91 t_parts t_ringP t_ringQ t_baseY t_baseZ t_norm x_t_freshY_L27_9 x_t_freshZ_L27_9 FU 0 t_quotientY t_quotientZ) fun tg_L91_19 x_t_quotientY_L91_19 x_t_quotientZ_L91_19 => (
      if tg_L91_19 = 0 then (
       some (0, 0, t_length_c6_0, t_setMany, x_t_quotientY_L91_19, x_t_quotientZ_L91_19, t_setY, t_setZ, x_t_freshY_L27_9, x_t_freshZ_L27_9)
      ) else (
       bnd2 (f_X12_set__L157 t_norm x_t_freshY_L27_9 x_t_freshZ_L27_9 FU 0 t_setY t_setZ) fun x_t_setY_L157_25 x_t_setZ_L157_25 => (
        some (1, 0, t_length_c6_0, t_norm, x_t_quotientY_L91_19, x_t_quotientZ_L91_19, x_t_setY_L157_25, x_t_setZ_L157_25, x_t_freshY_L27_9, x_t_freshZ_L27_9)
       )
      )
     )
    )
   ) else (
    some (0, 0, t_length_c6_0, t_setMany, t_quotientY, t_quotientZ, t_setY, t_setZ, t_freshY, t_freshZ)
   )
  )
set_option maxHeartbeats 4000000 in
set_option maxRecDepth 100000 in
theorem c_X12_set_ (l : Launch) (D : va_G) (R : va_W) (h_t : Nat) (t_thrown : Int32) (t_length : Int32) (z_t_3 : Value) (z_t_4 : Value) (z_t_5 : Value) (z_t_6 : Value) (z_t_7 : Value) (z_t_8 : Value) (z_t_9 : Value) (z_t_10 : Value) (z_t_11 : Value) (z_t_12 : Value) (z_t_13 : Value) (z_t_14 : Value) (z_t_15 : Value) (z_t_16 : Value) (z_t_17 : Value) (z_t_18 : Value) (z_t_19 : Value) (z_t_20 : Value) (z_t_21 : Value) (z_t_22 : Value) (z_t_23 : Value) (z_t_24 : Value) (z_t_25 : Value) (z_t_26 : Value) (t_parts : Int32) (t_ringP : Int32) (t_ringQ : Int32) (t_baseY : Int32) (t_baseZ : Int32) (t_norm : Int32) (t_setMany : Int32) (t_quotientY : Int64) (t_quotientZ : Int64) (z_t_40 : Value) (z_t_41 : Value) (z_t_42 : Value) (z_t_43 : Value) (z_t_44 : Value) (z_t_45 : Value) (z_t_46 : Value) (z_t_47 : Value) (z_t_48 : Value) (z_t_49 : Value) (z_t_50 : Value) (z_t_51 : Value) (z_t_52 : Value) (z_t_53 : Value) (z_t_54 : Value) (z_t_55 : Value) (z_t_56 : Value) (z_t_57 : Value) (z_t_58 : Value) (z_t_59 : Value) (z_t_60 : Value) (h_t_tape : Nat) (k_t_tape : ClassId) (t_tape : Nat → Int32) (h_t_setY : Nat) (k_t_setY : ClassId) (t_setY : Nat → Int32) (h_t_setZ : Nat) (k_t_setZ : ClassId) (t_setZ : Nat → Int32) (h_t_freshY : Nat) (k_t_freshY : ClassId) (t_freshY : Nat → Int32) (h_t_freshZ : Nat) (k_t_freshZ : ClassId) (t_freshZ : Nat → Int32) (r : Int32) (o_t_thrown : Int32) (o_t_length : Int32) (o_t_setMany : Int32) (o_t_quotientY : Int64) (o_t_quotientZ : Int64) (o_t_setY : Nat → Int32) (o_t_setZ : Nat → Int32) (o_t_freshY : Nat → Int32) (o_t_freshZ : Nat → Int32)  (h : f_X12_set_ t_thrown t_length t_parts t_ringP t_ringQ t_baseY t_baseZ t_norm t_setMany t_quotientY t_quotientZ t_tape t_setY t_setZ t_freshY t_freshZ = some (r, o_t_thrown, o_t_length, o_t_setMany, o_t_quotientY, o_t_quotientZ, o_t_setY, o_t_setZ, o_t_freshY, o_t_freshZ)) (sz : Nat) : Met l yX12_set_ (WD yX12_set_ cX12_set_ 4 (some .boolean)) ({ frames := 1, cells := 0, slots := 0, locals := 34 }) (va_Pc [.ref h_t] (PcW D [(k_t_tape, .byte), (k_t_setY, .int), (k_t_setZ, .int), (k_t_freshY, .int), (k_t_freshZ, .int)] ((h_t, .inr (12, (.int t_thrown :: .ref h_t_tape :: .int t_length :: z_t_3 :: z_t_4 :: z_t_5 :: z_t_6 :: z_t_7 :: z_t_8 :: z_t_9 :: z_t_10 :: z_t_11 :: z_t_12 :: z_t_13 :: z_t_14 :: z_t_15 :: z_t_16 :: z_t_17 :: z_t_18 :: z_t_19 :: z_t_20 :: z_t_21 :: z_t_22 :: z_t_23 :: z_t_24 :: z_t_25 :: z_t_26 :: .int t_parts :: .int t_ringP :: .int t_ringQ :: .int t_baseY :: .int t_baseZ :: .int t_norm :: .int t_setMany :: .ref h_t_setY :: .ref h_t_setZ :: .ref h_t_freshY :: .ref h_t_freshZ :: .long t_quotientY :: .long t_quotientZ :: z_t_40 :: z_t_41 :: z_t_42 :: z_t_43 :: z_t_44 :: z_t_45 :: z_t_46 :: z_t_47 :: z_t_48 :: z_t_49 :: z_t_50 :: z_t_51 :: z_t_52 :: z_t_53 :: z_t_54 :: z_t_55 :: z_t_56 :: z_t_57 :: z_t_58 :: z_t_59 :: z_t_60 :: []))) :: (h_t_tape, .inl (k_t_tape, 200, .inl t_tape)) :: (h_t_setY, .inl (k_t_setY, 25, .inl t_setY)) :: (h_t_setZ, .inl (k_t_setZ, 25, .inl t_setZ)) :: (h_t_freshY, .inl (k_t_freshY, 25, .inl t_freshY)) :: (h_t_freshZ, .inl (k_t_freshZ, 25, .inl t_freshZ)) :: R) sz)) (QZ D r ((h_t, .inr (12, (.int o_t_thrown :: .ref h_t_tape :: .int o_t_length :: z_t_3 :: z_t_4 :: z_t_5 :: z_t_6 :: z_t_7 :: z_t_8 :: z_t_9 :: z_t_10 :: z_t_11 :: z_t_12 :: z_t_13 :: z_t_14 :: z_t_15 :: z_t_16 :: z_t_17 :: z_t_18 :: z_t_19 :: z_t_20 :: z_t_21 :: z_t_22 :: z_t_23 :: z_t_24 :: z_t_25 :: z_t_26 :: .int t_parts :: .int t_ringP :: .int t_ringQ :: .int t_baseY :: .int t_baseZ :: .int t_norm :: .int o_t_setMany :: .ref h_t_setY :: .ref h_t_setZ :: .ref h_t_freshY :: .ref h_t_freshZ :: .long o_t_quotientY :: .long o_t_quotientZ :: z_t_40 :: z_t_41 :: z_t_42 :: z_t_43 :: z_t_44 :: z_t_45 :: z_t_46 :: z_t_47 :: z_t_48 :: z_t_49 :: z_t_50 :: z_t_51 :: z_t_52 :: z_t_53 :: z_t_54 :: z_t_55 :: z_t_56 :: z_t_57 :: z_t_58 :: z_t_59 :: z_t_60 :: []))) :: (h_t_tape, .inl (k_t_tape, 200, .inl t_tape)) :: (h_t_setY, .inl (k_t_setY, 25, .inl o_t_setY)) :: (h_t_setZ, .inl (k_t_setZ, 25, .inl o_t_setZ)) :: (h_t_freshY, .inl (k_t_freshY, 25, .inl o_t_freshY)) :: (h_t_freshZ, .inl (k_t_freshZ, 25, .inl o_t_freshZ)) :: R) (va_A ((h_t, .inr (12, (.int t_thrown :: .ref h_t_tape :: .int t_length :: z_t_3 :: z_t_4 :: z_t_5 :: z_t_6 :: z_t_7 :: z_t_8 :: z_t_9 :: z_t_10 :: z_t_11 :: z_t_12 :: z_t_13 :: z_t_14 :: z_t_15 :: z_t_16 :: z_t_17 :: z_t_18 :: z_t_19 :: z_t_20 :: z_t_21 :: z_t_22 :: z_t_23 :: z_t_24 :: z_t_25 :: z_t_26 :: .int t_parts :: .int t_ringP :: .int t_ringQ :: .int t_baseY :: .int t_baseZ :: .int t_norm :: .int t_setMany :: .ref h_t_setY :: .ref h_t_setZ :: .ref h_t_freshY :: .ref h_t_freshZ :: .long t_quotientY :: .long t_quotientZ :: z_t_40 :: z_t_41 :: z_t_42 :: z_t_43 :: z_t_44 :: z_t_45 :: z_t_46 :: z_t_47 :: z_t_48 :: z_t_49 :: z_t_50 :: z_t_51 :: z_t_52 :: z_t_53 :: z_t_54 :: z_t_55 :: z_t_56 :: z_t_57 :: z_t_58 :: z_t_59 :: z_t_60 :: []))) :: (h_t_tape, .inl (k_t_tape, 200, .inl t_tape)) :: (h_t_setY, .inl (k_t_setY, 25, .inl t_setY)) :: (h_t_setZ, .inl (k_t_setZ, 25, .inl t_setZ)) :: (h_t_freshY, .inl (k_t_freshY, 25, .inl t_freshY)) :: (h_t_freshZ, .inl (k_t_freshZ, 25, .inl t_freshZ)) :: R) sz)) 0 0 (va_A ((h_t, .inr (12, (.int t_thrown :: .ref h_t_tape :: .int t_length :: z_t_3 :: z_t_4 :: z_t_5 :: z_t_6 :: z_t_7 :: z_t_8 :: z_t_9 :: z_t_10 :: z_t_11 :: z_t_12 :: z_t_13 :: z_t_14 :: z_t_15 :: z_t_16 :: z_t_17 :: z_t_18 :: z_t_19 :: z_t_20 :: z_t_21 :: z_t_22 :: z_t_23 :: z_t_24 :: z_t_25 :: z_t_26 :: .int t_parts :: .int t_ringP :: .int t_ringQ :: .int t_baseY :: .int t_baseZ :: .int t_norm :: .int t_setMany :: .ref h_t_setY :: .ref h_t_setZ :: .ref h_t_freshY :: .ref h_t_freshZ :: .long t_quotientY :: .long t_quotientZ :: z_t_40 :: z_t_41 :: z_t_42 :: z_t_43 :: z_t_44 :: z_t_45 :: z_t_46 :: z_t_47 :: z_t_48 :: z_t_49 :: z_t_50 :: z_t_51 :: z_t_52 :: z_t_53 :: z_t_54 :: z_t_55 :: z_t_56 :: z_t_57 :: z_t_58 :: z_t_59 :: z_t_60 :: []))) :: (h_t_tape, .inl (k_t_tape, 200, .inl t_tape)) :: (h_t_setY, .inl (k_t_setY, 25, .inl t_setY)) :: (h_t_setZ, .inl (k_t_setZ, 25, .inl t_setZ)) :: (h_t_freshY, .inl (k_t_freshY, 25, .inl t_freshY)) :: (h_t_freshZ, .inl (k_t_freshZ, 25, .inl t_freshZ)) :: R) sz) := by
  refine ct_start (QF := fun A => QZ D r ((h_t, .inr (12, (.int o_t_thrown :: .ref h_t_tape :: .int o_t_length :: z_t_3 :: z_t_4 :: z_t_5 :: z_t_6 :: z_t_7 :: z_t_8 :: z_t_9 :: z_t_10 :: z_t_11 :: z_t_12 :: z_t_13 :: z_t_14 :: z_t_15 :: z_t_16 :: z_t_17 :: z_t_18 :: z_t_19 :: z_t_20 :: z_t_21 :: z_t_22 :: z_t_23 :: z_t_24 :: z_t_25 :: z_t_26 :: .int t_parts :: .int t_ringP :: .int t_ringQ :: .int t_baseY :: .int t_baseZ :: .int t_norm :: .int o_t_setMany :: .ref h_t_setY :: .ref h_t_setZ :: .ref h_t_freshY :: .ref h_t_freshZ :: .long o_t_quotientY :: .long o_t_quotientZ :: z_t_40 :: z_t_41 :: z_t_42 :: z_t_43 :: z_t_44 :: z_t_45 :: z_t_46 :: z_t_47 :: z_t_48 :: z_t_49 :: z_t_50 :: z_t_51 :: z_t_52 :: z_t_53 :: z_t_54 :: z_t_55 :: z_t_56 :: z_t_57 :: z_t_58 :: z_t_59 :: z_t_60 :: []))) :: (h_t_tape, .inl (k_t_tape, 200, .inl t_tape)) :: (h_t_setY, .inl (k_t_setY, 25, .inl o_t_setY)) :: (h_t_setZ, .inl (k_t_setZ, 25, .inl o_t_setZ)) :: (h_t_freshY, .inl (k_t_freshY, 25, .inl o_t_freshY)) :: (h_t_freshZ, .inl (k_t_freshZ, 25, .inl o_t_freshZ)) :: R) A) ?_ ?_ ?_
  · decide +kernel
  · exact Nat.le_of_ble_eq_true rfl
  intro p e s m args below meth c A ls S hr hlk hnm hS hA hP hD hK hN hl
  have S : CallFix p m c cX12_set_ 4 s args AL "DigitBenchModel" := S
  have hx := S.1
  have hb := S.2.1
  have hown := S.2.2.2.1
  have ha := S.2.2.2.2
  have hl : lv_has ls 4 [(0, .ref h_t)] := hl
  have L27 : ∀ (Q : State → Prop) (n : Nat) (l2 : Int32) (t_thrown : Int32) (t_length : Int32) (t_setMany : Int32) (t_quotientY : Int64) (t_quotientZ : Int64) (t_setY : Nat → Int32) (t_setZ : Nat → Int32) (t_freshY : Nat → Int32) (t_freshZ : Nat → Int32) (x_t_freshY : Nat → Int32) (x_t_freshZ : Nat → Int32), f_X12_set__L27 t_parts t_norm t_tape n l2 t_freshY t_freshZ = some (x_t_freshY, x_t_freshZ) → ∀ (H : Heap) (locs : List Loc) (ls : Array Slot), va_P D vwCl ((h_t, .inr (12, (.int t_thrown :: .ref h_t_tape :: .int t_length :: z_t_3 :: z_t_4 :: z_t_5 :: z_t_6 :: z_t_7 :: z_t_8 :: z_t_9 :: z_t_10 :: z_t_11 :: z_t_12 :: z_t_13 :: z_t_14 :: z_t_15 :: z_t_16 :: z_t_17 :: z_t_18 :: z_t_19 :: z_t_20 :: z_t_21 :: z_t_22 :: z_t_23 :: z_t_24 :: z_t_25 :: z_t_26 :: .int t_parts :: .int t_ringP :: .int t_ringQ :: .int t_baseY :: .int t_baseZ :: .int t_norm :: .int t_setMany :: .ref h_t_setY :: .ref h_t_setZ :: .ref h_t_freshY :: .ref h_t_freshZ :: .long t_quotientY :: .long t_quotientZ :: z_t_40 :: z_t_41 :: z_t_42 :: z_t_43 :: z_t_44 :: z_t_45 :: z_t_46 :: z_t_47 :: z_t_48 :: z_t_49 :: z_t_50 :: z_t_51 :: z_t_52 :: z_t_53 :: z_t_54 :: z_t_55 :: z_t_56 :: z_t_57 :: z_t_58 :: z_t_59 :: z_t_60 :: []))) :: (h_t_tape, .inl (k_t_tape, 200, .inl t_tape)) :: (h_t_setY, .inl (k_t_setY, 25, .inl t_setY)) :: (h_t_setZ, .inl (k_t_setZ, 25, .inl t_setZ)) :: (h_t_freshY, .inl (k_t_freshY, 25, .inl t_freshY)) :: (h_t_freshZ, .inl (k_t_freshZ, 25, .inl t_freshZ)) :: R) H → va_D A ((h_t, .inr (12, (.int t_thrown :: .ref h_t_tape :: .int t_length :: z_t_3 :: z_t_4 :: z_t_5 :: z_t_6 :: z_t_7 :: z_t_8 :: z_t_9 :: z_t_10 :: z_t_11 :: z_t_12 :: z_t_13 :: z_t_14 :: z_t_15 :: z_t_16 :: z_t_17 :: z_t_18 :: z_t_19 :: z_t_20 :: z_t_21 :: z_t_22 :: z_t_23 :: z_t_24 :: z_t_25 :: z_t_26 :: .int t_parts :: .int t_ringP :: .int t_ringQ :: .int t_baseY :: .int t_baseZ :: .int t_norm :: .int t_setMany :: .ref h_t_setY :: .ref h_t_setZ :: .ref h_t_freshY :: .ref h_t_freshZ :: .long t_quotientY :: .long t_quotientZ :: z_t_40 :: z_t_41 :: z_t_42 :: z_t_43 :: z_t_44 :: z_t_45 :: z_t_46 :: z_t_47 :: z_t_48 :: z_t_49 :: z_t_50 :: z_t_51 :: z_t_52 :: z_t_53 :: z_t_54 :: z_t_55 :: z_t_56 :: z_t_57 :: z_t_58 :: z_t_59 :: z_t_60 :: []))) :: (h_t_tape, .inl (k_t_tape, 200, .inl t_tape)) :: (h_t_setY, .inl (k_t_setY, 25, .inl t_setY)) :: (h_t_setZ, .inl (k_t_setZ, 25, .inl t_setZ)) :: (h_t_freshY, .inl (k_t_freshY, 25, .inl t_freshY)) :: (h_t_freshZ, .inl (k_t_freshZ, 25, .inl t_freshZ)) :: R) → va_S A s.heap H locs → lv_has ls 4 [(0, .ref h_t), (2, .int l2)] → (∀ (H : Heap) (locs : List Loc) (ls : Array Slot), va_P D vwCl ((h_t, .inr (12, (.int t_thrown :: .ref h_t_tape :: .int t_length :: z_t_3 :: z_t_4 :: z_t_5 :: z_t_6 :: z_t_7 :: z_t_8 :: z_t_9 :: z_t_10 :: z_t_11 :: z_t_12 :: z_t_13 :: z_t_14 :: z_t_15 :: z_t_16 :: z_t_17 :: z_t_18 :: z_t_19 :: z_t_20 :: z_t_21 :: z_t_22 :: z_t_23 :: z_t_24 :: z_t_25 :: z_t_26 :: .int t_parts :: .int t_ringP :: .int t_ringQ :: .int t_baseY :: .int t_baseZ :: .int t_norm :: .int t_setMany :: .ref h_t_setY :: .ref h_t_setZ :: .ref h_t_freshY :: .ref h_t_freshZ :: .long t_quotientY :: .long t_quotientZ :: z_t_40 :: z_t_41 :: z_t_42 :: z_t_43 :: z_t_44 :: z_t_45 :: z_t_46 :: z_t_47 :: z_t_48 :: z_t_49 :: z_t_50 :: z_t_51 :: z_t_52 :: z_t_53 :: z_t_54 :: z_t_55 :: z_t_56 :: z_t_57 :: z_t_58 :: z_t_59 :: z_t_60 :: []))) :: (h_t_tape, .inl (k_t_tape, 200, .inl t_tape)) :: (h_t_setY, .inl (k_t_setY, 25, .inl t_setY)) :: (h_t_setZ, .inl (k_t_setZ, 25, .inl t_setZ)) :: (h_t_freshY, .inl (k_t_freshY, 25, .inl x_t_freshY)) :: (h_t_freshZ, .inl (k_t_freshZ, 25, .inl x_t_freshZ)) :: R) H → va_D A ((h_t, .inr (12, (.int t_thrown :: .ref h_t_tape :: .int t_length :: z_t_3 :: z_t_4 :: z_t_5 :: z_t_6 :: z_t_7 :: z_t_8 :: z_t_9 :: z_t_10 :: z_t_11 :: z_t_12 :: z_t_13 :: z_t_14 :: z_t_15 :: z_t_16 :: z_t_17 :: z_t_18 :: z_t_19 :: z_t_20 :: z_t_21 :: z_t_22 :: z_t_23 :: z_t_24 :: z_t_25 :: z_t_26 :: .int t_parts :: .int t_ringP :: .int t_ringQ :: .int t_baseY :: .int t_baseZ :: .int t_norm :: .int t_setMany :: .ref h_t_setY :: .ref h_t_setZ :: .ref h_t_freshY :: .ref h_t_freshZ :: .long t_quotientY :: .long t_quotientZ :: z_t_40 :: z_t_41 :: z_t_42 :: z_t_43 :: z_t_44 :: z_t_45 :: z_t_46 :: z_t_47 :: z_t_48 :: z_t_49 :: z_t_50 :: z_t_51 :: z_t_52 :: z_t_53 :: z_t_54 :: z_t_55 :: z_t_56 :: z_t_57 :: z_t_58 :: z_t_59 :: z_t_60 :: []))) :: (h_t_tape, .inl (k_t_tape, 200, .inl t_tape)) :: (h_t_setY, .inl (k_t_setY, 25, .inl t_setY)) :: (h_t_setZ, .inl (k_t_setZ, 25, .inl t_setZ)) :: (h_t_freshY, .inl (k_t_freshY, 25, .inl x_t_freshY)) :: (h_t_freshZ, .inl (k_t_freshZ, 25, .inl x_t_freshZ)) :: R) → va_S A s.heap H locs → lv_has ls 4 [(0, .ref h_t)] → W p l e { frames := 1, cells := 0, slots := 0, locals := 34 } s m args below meth c H locs 0 0 Q (F0 m 89 ls [])) → W p l e { frames := 1, cells := 0, slots := 0, locals := 34 } s m args below meth c H locs 0 0 Q (F0 m 27 ls []) := by
    intro Q n
    induction n with
    | zero =>
      intro l2 t_thrown t_length t_setMany t_quotientY t_quotientZ t_setY t_setZ t_freshY t_freshZ x_t_freshY x_t_freshZ h
      rw [f_X12_set__L27] at h; cases h
    | succ n ih =>
      intro l2 t_thrown t_length t_setMany t_quotientY t_quotientZ t_setY t_setZ t_freshY t_freshZ x_t_freshY x_t_freshZ h H locs ls hP hD hS hl kk0
      rw [f_X12_set__L27] at h
      refine lv_iload_n hx hb dX12_set__27 rfl (lv_at hl 1 rfl) ?_
      refine lv_aload_n hx hb dX12_set__28 rfl (lv_at hl 0 rfl) ?_
      refine va_get (D := D) (ci := 12) (v := .int t_norm) (C := RX12) (T := TX12) (N := 61) hx hb ha ix12 hown hK hP 0 rfl rfl 32 (by decide) (ha _ q992) (fun _ h9 => h9) rfl dX12_set__29 ?_
      refine lv_icmp_ge (tgt := 89) hx hb dX12_set__32 (by decide) (fun c3 => ?_) (fun c3 => ?_)
      · have h := br_pos c3 h
        cases h
        exact kk0 _ _ _ hP hD hS (lv_sub hl [0] rfl)
      · have h := br_neg c3 h
        refine lv_aload_n hx hb dX12_set__35 rfl (lv_at hl 0 rfl) ?_
        refine va_get (D := D) (ci := 12) (v := .ref h_t_freshY) (C := RX12) (T := TX12) (N := 61) hx hb ha ix12 hown hK hP 0 rfl rfl 36 (by decide) (ha _ q996) (fun _ h9 => h9) rfl dX12_set__36 ?_
        refine lv_iload_n hx hb dX12_set__39 rfl (lv_at hl 1 rfl) ?_
        refine lv_aload_n hx hb dX12_set__40 rfl (lv_at hl 0 rfl) ?_
        refine va_get (D := D) (ci := 12) (v := .ref h_t_tape) (C := RX12) (T := TX12) (N := 61) hx hb ha ix12 hown hK hP 0 rfl rfl 1 (by decide) (ha _ q961) (fun _ h9 => h9) rfl dX12_set__41 ?_
        refine lv_aload_n hx hb dX12_set__44 rfl (lv_at hl 0 rfl) ?_
        refine va_get (D := D) (ci := 12) (v := .int t_parts) (C := RX12) (T := TX12) (N := 61) hx hb ha ix12 hown hK hP 0 rfl rfl 27 (by decide) (ha _ q987) (fun _ h9 => h9) rfl dX12_set__45 ?_
        refine lv_iload_n hx hb dX12_set__48 rfl (lv_at hl 1 rfl) ?_
        refine lv_imul hx hb dX12_set__49 ?_
        obtain ⟨i4, h⟩ := ix_ok h
        refine va_bald hx hb hK hP 1 0 rfl rfl i4 dX12_set__50 ?_
        obtain ⟨i5, h⟩ := ix_ok h
        refine va_iast hx hb hK hP hD hS 4 3 rfl rfl i5 dX12_set__51 (fun H locs hP hD hS => ?_)
        have hP : va_P D vwCl ((h_t, .inr (12, (.int t_thrown :: .ref h_t_tape :: .int t_length :: z_t_3 :: z_t_4 :: z_t_5 :: z_t_6 :: z_t_7 :: z_t_8 :: z_t_9 :: z_t_10 :: z_t_11 :: z_t_12 :: z_t_13 :: z_t_14 :: z_t_15 :: z_t_16 :: z_t_17 :: z_t_18 :: z_t_19 :: z_t_20 :: z_t_21 :: z_t_22 :: z_t_23 :: z_t_24 :: z_t_25 :: z_t_26 :: .int t_parts :: .int t_ringP :: .int t_ringQ :: .int t_baseY :: .int t_baseZ :: .int t_norm :: .int t_setMany :: .ref h_t_setY :: .ref h_t_setZ :: .ref h_t_freshY :: .ref h_t_freshZ :: .long t_quotientY :: .long t_quotientZ :: z_t_40 :: z_t_41 :: z_t_42 :: z_t_43 :: z_t_44 :: z_t_45 :: z_t_46 :: z_t_47 :: z_t_48 :: z_t_49 :: z_t_50 :: z_t_51 :: z_t_52 :: z_t_53 :: z_t_54 :: z_t_55 :: z_t_56 :: z_t_57 :: z_t_58 :: z_t_59 :: z_t_60 :: []))) :: (h_t_tape, .inl (k_t_tape, 200, .inl t_tape)) :: (h_t_setY, .inl (k_t_setY, 25, .inl t_setY)) :: (h_t_setZ, .inl (k_t_setZ, 25, .inl t_setZ)) :: (h_t_freshY, .inl (k_t_freshY, 25, .inl (upd t_freshY l2.toNatClampNeg (t_tape (t_parts * l2).toNatClampNeg)))) :: (h_t_freshZ, .inl (k_t_freshZ, 25, .inl t_freshZ)) :: R) H := hP
        have hD : va_D A ((h_t, .inr (12, (.int t_thrown :: .ref h_t_tape :: .int t_length :: z_t_3 :: z_t_4 :: z_t_5 :: z_t_6 :: z_t_7 :: z_t_8 :: z_t_9 :: z_t_10 :: z_t_11 :: z_t_12 :: z_t_13 :: z_t_14 :: z_t_15 :: z_t_16 :: z_t_17 :: z_t_18 :: z_t_19 :: z_t_20 :: z_t_21 :: z_t_22 :: z_t_23 :: z_t_24 :: z_t_25 :: z_t_26 :: .int t_parts :: .int t_ringP :: .int t_ringQ :: .int t_baseY :: .int t_baseZ :: .int t_norm :: .int t_setMany :: .ref h_t_setY :: .ref h_t_setZ :: .ref h_t_freshY :: .ref h_t_freshZ :: .long t_quotientY :: .long t_quotientZ :: z_t_40 :: z_t_41 :: z_t_42 :: z_t_43 :: z_t_44 :: z_t_45 :: z_t_46 :: z_t_47 :: z_t_48 :: z_t_49 :: z_t_50 :: z_t_51 :: z_t_52 :: z_t_53 :: z_t_54 :: z_t_55 :: z_t_56 :: z_t_57 :: z_t_58 :: z_t_59 :: z_t_60 :: []))) :: (h_t_tape, .inl (k_t_tape, 200, .inl t_tape)) :: (h_t_setY, .inl (k_t_setY, 25, .inl t_setY)) :: (h_t_setZ, .inl (k_t_setZ, 25, .inl t_setZ)) :: (h_t_freshY, .inl (k_t_freshY, 25, .inl (upd t_freshY l2.toNatClampNeg (t_tape (t_parts * l2).toNatClampNeg)))) :: (h_t_freshZ, .inl (k_t_freshZ, 25, .inl t_freshZ)) :: R) := hD
        refine lv_aload_n hx hb dX12_set__52 rfl (lv_at hl 0 rfl) ?_
        refine va_get (D := D) (ci := 12) (v := .ref h_t_freshZ) (C := RX12) (T := TX12) (N := 61) hx hb ha ix12 hown hK hP 0 rfl rfl 37 (by decide) (ha _ q997) (fun _ h9 => h9) rfl dX12_set__53 ?_
        refine lv_iload_n hx hb dX12_set__56 rfl (lv_at hl 1 rfl) ?_
        refine lv_aload_n hx hb dX12_set__57 rfl (lv_at hl 0 rfl) ?_
        refine va_get (D := D) (ci := 12) (v := .int t_parts) (C := RX12) (T := TX12) (N := 61) hx hb ha ix12 hown hK hP 0 rfl rfl 27 (by decide) (ha _ q987) (fun _ h9 => h9) rfl dX12_set__58 ?_
        refine lv_iconst (v := 1) hx hb dX12_set__61 (by decide) ?_
        refine lv_icmp_ne (tgt := 69) hx hb dX12_set__62 (by decide) (fun c6 => ?_) (fun c6 => ?_)
        · have h := br_neg c6 h
          refine lv_aload_n hx hb dX12_set__69 rfl (lv_at hl 0 rfl) ?_
          refine va_get (D := D) (ci := 12) (v := .ref h_t_tape) (C := RX12) (T := TX12) (N := 61) hx hb ha ix12 hown hK hP 0 rfl rfl 1 (by decide) (ha _ q961) (fun _ h9 => h9) rfl dX12_set__70 ?_
          refine lv_aload_n hx hb dX12_set__73 rfl (lv_at hl 0 rfl) ?_
          refine va_get (D := D) (ci := 12) (v := .int t_parts) (C := RX12) (T := TX12) (N := 61) hx hb ha ix12 hown hK hP 0 rfl rfl 27 (by decide) (ha _ q987) (fun _ h9 => h9) rfl dX12_set__74 ?_
          refine lv_iload_n hx hb dX12_set__77 rfl (lv_at hl 1 rfl) ?_
          refine lv_imul hx hb dX12_set__78 ?_
          refine lv_iconst (v := 1) hx hb dX12_set__79 (by decide) ?_
          refine lv_iadd hx hb dX12_set__80 ?_
          obtain ⟨i8, h⟩ := ix_ok h
          refine va_bald hx hb hK hP 1 0 rfl rfl i8 dX12_set__81 ?_
          obtain ⟨i9, h⟩ := ix_ok h
          refine va_iast hx hb hK hP hD hS 5 4 rfl rfl i9 dX12_set__82 (fun H locs hP hD hS => ?_)
          have hP : va_P D vwCl ((h_t, .inr (12, (.int t_thrown :: .ref h_t_tape :: .int t_length :: z_t_3 :: z_t_4 :: z_t_5 :: z_t_6 :: z_t_7 :: z_t_8 :: z_t_9 :: z_t_10 :: z_t_11 :: z_t_12 :: z_t_13 :: z_t_14 :: z_t_15 :: z_t_16 :: z_t_17 :: z_t_18 :: z_t_19 :: z_t_20 :: z_t_21 :: z_t_22 :: z_t_23 :: z_t_24 :: z_t_25 :: z_t_26 :: .int t_parts :: .int t_ringP :: .int t_ringQ :: .int t_baseY :: .int t_baseZ :: .int t_norm :: .int t_setMany :: .ref h_t_setY :: .ref h_t_setZ :: .ref h_t_freshY :: .ref h_t_freshZ :: .long t_quotientY :: .long t_quotientZ :: z_t_40 :: z_t_41 :: z_t_42 :: z_t_43 :: z_t_44 :: z_t_45 :: z_t_46 :: z_t_47 :: z_t_48 :: z_t_49 :: z_t_50 :: z_t_51 :: z_t_52 :: z_t_53 :: z_t_54 :: z_t_55 :: z_t_56 :: z_t_57 :: z_t_58 :: z_t_59 :: z_t_60 :: []))) :: (h_t_tape, .inl (k_t_tape, 200, .inl t_tape)) :: (h_t_setY, .inl (k_t_setY, 25, .inl t_setY)) :: (h_t_setZ, .inl (k_t_setZ, 25, .inl t_setZ)) :: (h_t_freshY, .inl (k_t_freshY, 25, .inl (upd t_freshY l2.toNatClampNeg (t_tape (t_parts * l2).toNatClampNeg)))) :: (h_t_freshZ, .inl (k_t_freshZ, 25, .inl (upd t_freshZ l2.toNatClampNeg (t_tape ((t_parts * l2) + 1).toNatClampNeg)))) :: R) H := hP
          have hD : va_D A ((h_t, .inr (12, (.int t_thrown :: .ref h_t_tape :: .int t_length :: z_t_3 :: z_t_4 :: z_t_5 :: z_t_6 :: z_t_7 :: z_t_8 :: z_t_9 :: z_t_10 :: z_t_11 :: z_t_12 :: z_t_13 :: z_t_14 :: z_t_15 :: z_t_16 :: z_t_17 :: z_t_18 :: z_t_19 :: z_t_20 :: z_t_21 :: z_t_22 :: z_t_23 :: z_t_24 :: z_t_25 :: z_t_26 :: .int t_parts :: .int t_ringP :: .int t_ringQ :: .int t_baseY :: .int t_baseZ :: .int t_norm :: .int t_setMany :: .ref h_t_setY :: .ref h_t_setZ :: .ref h_t_freshY :: .ref h_t_freshZ :: .long t_quotientY :: .long t_quotientZ :: z_t_40 :: z_t_41 :: z_t_42 :: z_t_43 :: z_t_44 :: z_t_45 :: z_t_46 :: z_t_47 :: z_t_48 :: z_t_49 :: z_t_50 :: z_t_51 :: z_t_52 :: z_t_53 :: z_t_54 :: z_t_55 :: z_t_56 :: z_t_57 :: z_t_58 :: z_t_59 :: z_t_60 :: []))) :: (h_t_tape, .inl (k_t_tape, 200, .inl t_tape)) :: (h_t_setY, .inl (k_t_setY, 25, .inl t_setY)) :: (h_t_setZ, .inl (k_t_setZ, 25, .inl t_setZ)) :: (h_t_freshY, .inl (k_t_freshY, 25, .inl (upd t_freshY l2.toNatClampNeg (t_tape (t_parts * l2).toNatClampNeg)))) :: (h_t_freshZ, .inl (k_t_freshZ, 25, .inl (upd t_freshZ l2.toNatClampNeg (t_tape ((t_parts * l2) + 1).toNatClampNeg)))) :: R) := hD
          refine lv_iinc (v := (l2 + 1)) (lv' := [(2, .int (l2 + 1)), (0, .ref h_t)]) hx hb dX12_set__83 hl (k := 1) rfl rfl (by decide) rfl (fun ls hl => ?_)
          refine lv_goto (tgt := 27) hx hb dX12_set__86 (by decide) ?_
          exact ih (l2 + 1) t_thrown t_length t_setMany t_quotientY t_quotientZ t_setY t_setZ (upd t_freshY l2.toNatClampNeg (t_tape (t_parts * l2).toNatClampNeg)) (upd t_freshZ l2.toNatClampNeg (t_tape ((t_parts * l2) + 1).toNatClampNeg)) _ _ h _ _ _ hP hD hS (lv_sub hl [1, 0] rfl) kk0
        · have h := br_pos c6 h
          refine lv_iconst (v := 0) hx hb dX12_set__65 (by decide) ?_
          refine lv_goto (tgt := 82) hx hb dX12_set__66 (by decide) ?_
          obtain ⟨i7, h⟩ := ix_ok h
          refine va_iast hx hb hK hP hD hS 5 4 rfl rfl i7 dX12_set__82 (fun H locs hP hD hS => ?_)
          have hP : va_P D vwCl ((h_t, .inr (12, (.int t_thrown :: .ref h_t_tape :: .int t_length :: z_t_3 :: z_t_4 :: z_t_5 :: z_t_6 :: z_t_7 :: z_t_8 :: z_t_9 :: z_t_10 :: z_t_11 :: z_t_12 :: z_t_13 :: z_t_14 :: z_t_15 :: z_t_16 :: z_t_17 :: z_t_18 :: z_t_19 :: z_t_20 :: z_t_21 :: z_t_22 :: z_t_23 :: z_t_24 :: z_t_25 :: z_t_26 :: .int t_parts :: .int t_ringP :: .int t_ringQ :: .int t_baseY :: .int t_baseZ :: .int t_norm :: .int t_setMany :: .ref h_t_setY :: .ref h_t_setZ :: .ref h_t_freshY :: .ref h_t_freshZ :: .long t_quotientY :: .long t_quotientZ :: z_t_40 :: z_t_41 :: z_t_42 :: z_t_43 :: z_t_44 :: z_t_45 :: z_t_46 :: z_t_47 :: z_t_48 :: z_t_49 :: z_t_50 :: z_t_51 :: z_t_52 :: z_t_53 :: z_t_54 :: z_t_55 :: z_t_56 :: z_t_57 :: z_t_58 :: z_t_59 :: z_t_60 :: []))) :: (h_t_tape, .inl (k_t_tape, 200, .inl t_tape)) :: (h_t_setY, .inl (k_t_setY, 25, .inl t_setY)) :: (h_t_setZ, .inl (k_t_setZ, 25, .inl t_setZ)) :: (h_t_freshY, .inl (k_t_freshY, 25, .inl (upd t_freshY l2.toNatClampNeg (t_tape (t_parts * l2).toNatClampNeg)))) :: (h_t_freshZ, .inl (k_t_freshZ, 25, .inl (upd t_freshZ l2.toNatClampNeg 0))) :: R) H := hP
          have hD : va_D A ((h_t, .inr (12, (.int t_thrown :: .ref h_t_tape :: .int t_length :: z_t_3 :: z_t_4 :: z_t_5 :: z_t_6 :: z_t_7 :: z_t_8 :: z_t_9 :: z_t_10 :: z_t_11 :: z_t_12 :: z_t_13 :: z_t_14 :: z_t_15 :: z_t_16 :: z_t_17 :: z_t_18 :: z_t_19 :: z_t_20 :: z_t_21 :: z_t_22 :: z_t_23 :: z_t_24 :: z_t_25 :: z_t_26 :: .int t_parts :: .int t_ringP :: .int t_ringQ :: .int t_baseY :: .int t_baseZ :: .int t_norm :: .int t_setMany :: .ref h_t_setY :: .ref h_t_setZ :: .ref h_t_freshY :: .ref h_t_freshZ :: .long t_quotientY :: .long t_quotientZ :: z_t_40 :: z_t_41 :: z_t_42 :: z_t_43 :: z_t_44 :: z_t_45 :: z_t_46 :: z_t_47 :: z_t_48 :: z_t_49 :: z_t_50 :: z_t_51 :: z_t_52 :: z_t_53 :: z_t_54 :: z_t_55 :: z_t_56 :: z_t_57 :: z_t_58 :: z_t_59 :: z_t_60 :: []))) :: (h_t_tape, .inl (k_t_tape, 200, .inl t_tape)) :: (h_t_setY, .inl (k_t_setY, 25, .inl t_setY)) :: (h_t_setZ, .inl (k_t_setZ, 25, .inl t_setZ)) :: (h_t_freshY, .inl (k_t_freshY, 25, .inl (upd t_freshY l2.toNatClampNeg (t_tape (t_parts * l2).toNatClampNeg)))) :: (h_t_freshZ, .inl (k_t_freshZ, 25, .inl (upd t_freshZ l2.toNatClampNeg 0))) :: R) := hD
          refine lv_iinc (v := (l2 + 1)) (lv' := [(2, .int (l2 + 1)), (0, .ref h_t)]) hx hb dX12_set__83 hl (k := 1) rfl rfl (by decide) rfl (fun ls hl => ?_)
          refine lv_goto (tgt := 27) hx hb dX12_set__86 (by decide) ?_
          exact ih (l2 + 1) t_thrown t_length t_setMany t_quotientY t_quotientZ t_setY t_setZ (upd t_freshY l2.toNatClampNeg (t_tape (t_parts * l2).toNatClampNeg)) (upd t_freshZ l2.toNatClampNeg 0) _ _ h _ _ _ hP hD hS (lv_sub hl [1, 0] rfl) kk0
  have L101 : ∀ (Q : State → Prop) (n : Nat) (l2 : Int32) (l3 : Int32) (t_thrown : Int32) (t_length : Int32) (t_setMany : Int32) (t_quotientY : Int64) (t_quotientZ : Int64) (t_setY : Nat → Int32) (t_setZ : Nat → Int32) (t_freshY : Nat → Int32) (t_freshZ : Nat → Int32) (tg : Nat) (x_t_quotientY : Int64) (x_t_quotientZ : Int64), f_X12_set__L101 l2 t_parts t_ringP t_ringQ t_baseY t_baseZ t_freshY t_freshZ n l3 t_quotientY t_quotientZ = some (tg, x_t_quotientY, x_t_quotientZ) → ∀ (H : Heap) (locs : List Loc) (ls : Array Slot), va_P D vwCl ((h_t, .inr (12, (.int t_thrown :: .ref h_t_tape :: .int t_length :: z_t_3 :: z_t_4 :: z_t_5 :: z_t_6 :: z_t_7 :: z_t_8 :: z_t_9 :: z_t_10 :: z_t_11 :: z_t_12 :: z_t_13 :: z_t_14 :: z_t_15 :: z_t_16 :: z_t_17 :: z_t_18 :: z_t_19 :: z_t_20 :: z_t_21 :: z_t_22 :: z_t_23 :: z_t_24 :: z_t_25 :: z_t_26 :: .int t_parts :: .int t_ringP :: .int t_ringQ :: .int t_baseY :: .int t_baseZ :: .int t_norm :: .int t_setMany :: .ref h_t_setY :: .ref h_t_setZ :: .ref h_t_freshY :: .ref h_t_freshZ :: .long t_quotientY :: .long t_quotientZ :: z_t_40 :: z_t_41 :: z_t_42 :: z_t_43 :: z_t_44 :: z_t_45 :: z_t_46 :: z_t_47 :: z_t_48 :: z_t_49 :: z_t_50 :: z_t_51 :: z_t_52 :: z_t_53 :: z_t_54 :: z_t_55 :: z_t_56 :: z_t_57 :: z_t_58 :: z_t_59 :: z_t_60 :: []))) :: (h_t_tape, .inl (k_t_tape, 200, .inl t_tape)) :: (h_t_setY, .inl (k_t_setY, 25, .inl t_setY)) :: (h_t_setZ, .inl (k_t_setZ, 25, .inl t_setZ)) :: (h_t_freshY, .inl (k_t_freshY, 25, .inl t_freshY)) :: (h_t_freshZ, .inl (k_t_freshZ, 25, .inl t_freshZ)) :: R) H → va_D A ((h_t, .inr (12, (.int t_thrown :: .ref h_t_tape :: .int t_length :: z_t_3 :: z_t_4 :: z_t_5 :: z_t_6 :: z_t_7 :: z_t_8 :: z_t_9 :: z_t_10 :: z_t_11 :: z_t_12 :: z_t_13 :: z_t_14 :: z_t_15 :: z_t_16 :: z_t_17 :: z_t_18 :: z_t_19 :: z_t_20 :: z_t_21 :: z_t_22 :: z_t_23 :: z_t_24 :: z_t_25 :: z_t_26 :: .int t_parts :: .int t_ringP :: .int t_ringQ :: .int t_baseY :: .int t_baseZ :: .int t_norm :: .int t_setMany :: .ref h_t_setY :: .ref h_t_setZ :: .ref h_t_freshY :: .ref h_t_freshZ :: .long t_quotientY :: .long t_quotientZ :: z_t_40 :: z_t_41 :: z_t_42 :: z_t_43 :: z_t_44 :: z_t_45 :: z_t_46 :: z_t_47 :: z_t_48 :: z_t_49 :: z_t_50 :: z_t_51 :: z_t_52 :: z_t_53 :: z_t_54 :: z_t_55 :: z_t_56 :: z_t_57 :: z_t_58 :: z_t_59 :: z_t_60 :: []))) :: (h_t_tape, .inl (k_t_tape, 200, .inl t_tape)) :: (h_t_setY, .inl (k_t_setY, 25, .inl t_setY)) :: (h_t_setZ, .inl (k_t_setZ, 25, .inl t_setZ)) :: (h_t_freshY, .inl (k_t_freshY, 25, .inl t_freshY)) :: (h_t_freshZ, .inl (k_t_freshZ, 25, .inl t_freshZ)) :: R) → va_S A s.heap H locs → lv_has ls 4 [(0, .ref h_t), (2, .int l2), (3, .int l3)] → (tg = 0 → ∀ (H : Heap) (locs : List Loc) (ls : Array Slot), va_P D vwCl ((h_t, .inr (12, (.int t_thrown :: .ref h_t_tape :: .int t_length :: z_t_3 :: z_t_4 :: z_t_5 :: z_t_6 :: z_t_7 :: z_t_8 :: z_t_9 :: z_t_10 :: z_t_11 :: z_t_12 :: z_t_13 :: z_t_14 :: z_t_15 :: z_t_16 :: z_t_17 :: z_t_18 :: z_t_19 :: z_t_20 :: z_t_21 :: z_t_22 :: z_t_23 :: z_t_24 :: z_t_25 :: z_t_26 :: .int t_parts :: .int t_ringP :: .int t_ringQ :: .int t_baseY :: .int t_baseZ :: .int t_norm :: .int t_setMany :: .ref h_t_setY :: .ref h_t_setZ :: .ref h_t_freshY :: .ref h_t_freshZ :: .long x_t_quotientY :: .long x_t_quotientZ :: z_t_40 :: z_t_41 :: z_t_42 :: z_t_43 :: z_t_44 :: z_t_45 :: z_t_46 :: z_t_47 :: z_t_48 :: z_t_49 :: z_t_50 :: z_t_51 :: z_t_52 :: z_t_53 :: z_t_54 :: z_t_55 :: z_t_56 :: z_t_57 :: z_t_58 :: z_t_59 :: z_t_60 :: []))) :: (h_t_tape, .inl (k_t_tape, 200, .inl t_tape)) :: (h_t_setY, .inl (k_t_setY, 25, .inl t_setY)) :: (h_t_setZ, .inl (k_t_setZ, 25, .inl t_setZ)) :: (h_t_freshY, .inl (k_t_freshY, 25, .inl t_freshY)) :: (h_t_freshZ, .inl (k_t_freshZ, 25, .inl t_freshZ)) :: R) H → va_D A ((h_t, .inr (12, (.int t_thrown :: .ref h_t_tape :: .int t_length :: z_t_3 :: z_t_4 :: z_t_5 :: z_t_6 :: z_t_7 :: z_t_8 :: z_t_9 :: z_t_10 :: z_t_11 :: z_t_12 :: z_t_13 :: z_t_14 :: z_t_15 :: z_t_16 :: z_t_17 :: z_t_18 :: z_t_19 :: z_t_20 :: z_t_21 :: z_t_22 :: z_t_23 :: z_t_24 :: z_t_25 :: z_t_26 :: .int t_parts :: .int t_ringP :: .int t_ringQ :: .int t_baseY :: .int t_baseZ :: .int t_norm :: .int t_setMany :: .ref h_t_setY :: .ref h_t_setZ :: .ref h_t_freshY :: .ref h_t_freshZ :: .long x_t_quotientY :: .long x_t_quotientZ :: z_t_40 :: z_t_41 :: z_t_42 :: z_t_43 :: z_t_44 :: z_t_45 :: z_t_46 :: z_t_47 :: z_t_48 :: z_t_49 :: z_t_50 :: z_t_51 :: z_t_52 :: z_t_53 :: z_t_54 :: z_t_55 :: z_t_56 :: z_t_57 :: z_t_58 :: z_t_59 :: z_t_60 :: []))) :: (h_t_tape, .inl (k_t_tape, 200, .inl t_tape)) :: (h_t_setY, .inl (k_t_setY, 25, .inl t_setY)) :: (h_t_setZ, .inl (k_t_setZ, 25, .inl t_setZ)) :: (h_t_freshY, .inl (k_t_freshY, 25, .inl t_freshY)) :: (h_t_freshZ, .inl (k_t_freshZ, 25, .inl t_freshZ)) :: R) → va_S A s.heap H locs → lv_has ls 4 [] → W p l e { frames := 1, cells := 0, slots := 0, locals := 34 } s m args below meth c H locs 0 0 Q (F0 m 141 ls [])) → (tg = 1 → ∀ (H : Heap) (locs : List Loc) (ls : Array Slot), va_P D vwCl ((h_t, .inr (12, (.int t_thrown :: .ref h_t_tape :: .int t_length :: z_t_3 :: z_t_4 :: z_t_5 :: z_t_6 :: z_t_7 :: z_t_8 :: z_t_9 :: z_t_10 :: z_t_11 :: z_t_12 :: z_t_13 :: z_t_14 :: z_t_15 :: z_t_16 :: z_t_17 :: z_t_18 :: z_t_19 :: z_t_20 :: z_t_21 :: z_t_22 :: z_t_23 :: z_t_24 :: z_t_25 :: z_t_26 :: .int t_parts :: .int t_ringP :: .int t_ringQ :: .int t_baseY :: .int t_baseZ :: .int t_norm :: .int t_setMany :: .ref h_t_setY :: .ref h_t_setZ :: .ref h_t_freshY :: .ref h_t_freshZ :: .long x_t_quotientY :: .long x_t_quotientZ :: z_t_40 :: z_t_41 :: z_t_42 :: z_t_43 :: z_t_44 :: z_t_45 :: z_t_46 :: z_t_47 :: z_t_48 :: z_t_49 :: z_t_50 :: z_t_51 :: z_t_52 :: z_t_53 :: z_t_54 :: z_t_55 :: z_t_56 :: z_t_57 :: z_t_58 :: z_t_59 :: z_t_60 :: []))) :: (h_t_tape, .inl (k_t_tape, 200, .inl t_tape)) :: (h_t_setY, .inl (k_t_setY, 25, .inl t_setY)) :: (h_t_setZ, .inl (k_t_setZ, 25, .inl t_setZ)) :: (h_t_freshY, .inl (k_t_freshY, 25, .inl t_freshY)) :: (h_t_freshZ, .inl (k_t_freshZ, 25, .inl t_freshZ)) :: R) H → va_D A ((h_t, .inr (12, (.int t_thrown :: .ref h_t_tape :: .int t_length :: z_t_3 :: z_t_4 :: z_t_5 :: z_t_6 :: z_t_7 :: z_t_8 :: z_t_9 :: z_t_10 :: z_t_11 :: z_t_12 :: z_t_13 :: z_t_14 :: z_t_15 :: z_t_16 :: z_t_17 :: z_t_18 :: z_t_19 :: z_t_20 :: z_t_21 :: z_t_22 :: z_t_23 :: z_t_24 :: z_t_25 :: z_t_26 :: .int t_parts :: .int t_ringP :: .int t_ringQ :: .int t_baseY :: .int t_baseZ :: .int t_norm :: .int t_setMany :: .ref h_t_setY :: .ref h_t_setZ :: .ref h_t_freshY :: .ref h_t_freshZ :: .long x_t_quotientY :: .long x_t_quotientZ :: z_t_40 :: z_t_41 :: z_t_42 :: z_t_43 :: z_t_44 :: z_t_45 :: z_t_46 :: z_t_47 :: z_t_48 :: z_t_49 :: z_t_50 :: z_t_51 :: z_t_52 :: z_t_53 :: z_t_54 :: z_t_55 :: z_t_56 :: z_t_57 :: z_t_58 :: z_t_59 :: z_t_60 :: []))) :: (h_t_tape, .inl (k_t_tape, 200, .inl t_tape)) :: (h_t_setY, .inl (k_t_setY, 25, .inl t_setY)) :: (h_t_setZ, .inl (k_t_setZ, 25, .inl t_setZ)) :: (h_t_freshY, .inl (k_t_freshY, 25, .inl t_freshY)) :: (h_t_freshZ, .inl (k_t_freshZ, 25, .inl t_freshZ)) :: R) → va_S A s.heap H locs → lv_has ls 4 [(0, .ref h_t), (2, .int l2)] → W p l e { frames := 1, cells := 0, slots := 0, locals := 34 } s m args below meth c H locs 0 0 Q (F0 m 149 ls [])) → W p l e { frames := 1, cells := 0, slots := 0, locals := 34 } s m args below meth c H locs 0 0 Q (F0 m 101 ls []) := by
    intro Q n
    induction n with
    | zero =>
      intro l2 l3 t_thrown t_length t_setMany t_quotientY t_quotientZ t_setY t_setZ t_freshY t_freshZ tg x_t_quotientY x_t_quotientZ h
      rw [f_X12_set__L101] at h; cases h
    | succ n ih =>
      intro l2 l3 t_thrown t_length t_setMany t_quotientY t_quotientZ t_setY t_setZ t_freshY t_freshZ tg x_t_quotientY x_t_quotientZ h H locs ls hP hD hS hl kk0 kk1
      rw [f_X12_set__L101] at h
      refine lv_iload_n hx hb dX12_set__101 rfl (lv_at hl 2 rfl) ?_
      refine lv_iload_n hx hb dX12_set__102 rfl (lv_at hl 1 rfl) ?_
      refine lv_icmp_ge (tgt := 149) hx hb dX12_set__103 (by decide) (fun c12 => ?_) (fun c12 => ?_)
      · have h := br_pos c12 h
        cases h
        exact kk1 rfl _ _ _ hP hD hS (lv_sub hl [0, 1] rfl)
      · have h := br_neg c12 h
        refine lv_aload_n hx hb dX12_set__106 rfl (lv_at hl 0 rfl) ?_
        refine lv_aload_n hx hb dX12_set__107 rfl (lv_at hl 0 rfl) ?_
        refine va_get (D := D) (ci := 12) (v := .ref h_t_freshY) (C := RX12) (T := TX12) (N := 61) hx hb ha ix12 hown hK hP 0 rfl rfl 36 (by decide) (ha _ q996) (fun _ h9 => h9) rfl dX12_set__108 ?_
        refine lv_iload_n hx hb dX12_set__111 rfl (lv_at hl 1 rfl) ?_
        obtain ⟨i13, h⟩ := ix_ok h
        refine va_iald hx hb hK hP 4 3 rfl rfl i13 dX12_set__112 ?_
        refine lv_aload_n hx hb dX12_set__113 rfl (lv_at hl 0 rfl) ?_
        refine va_get (D := D) (ci := 12) (v := .ref h_t_freshY) (C := RX12) (T := TX12) (N := 61) hx hb ha ix12 hown hK hP 0 rfl rfl 36 (by decide) (ha _ q996) (fun _ h9 => h9) rfl dX12_set__114 ?_
        refine lv_iload_n hx hb dX12_set__117 rfl (lv_at hl 2 rfl) ?_
        obtain ⟨i14, h⟩ := ix_ok h
        refine va_iald hx hb hK hP 4 3 rfl rfl i14 dX12_set__118 ?_
        refine lv_isub hx hb dX12_set__119 ?_
        refine lv_i2l (v := ((t_freshY l2.toNatClampNeg) - (t_freshY l3.toNatClampNeg)).toInt64) hx hb dX12_set__120 rfl ?_
        refine lv_aload_n hx hb dX12_set__121 rfl (lv_at hl 0 rfl) ?_
        refine va_get (D := D) (ci := 12) (v := .ref h_t_freshZ) (C := RX12) (T := TX12) (N := 61) hx hb ha ix12 hown hK hP 0 rfl rfl 37 (by decide) (ha _ q997) (fun _ h9 => h9) rfl dX12_set__122 ?_
        refine lv_iload_n hx hb dX12_set__125 rfl (lv_at hl 1 rfl) ?_
        obtain ⟨i15, h⟩ := ix_ok h
        refine va_iald hx hb hK hP 5 4 rfl rfl i15 dX12_set__126 ?_
        refine lv_aload_n hx hb dX12_set__127 rfl (lv_at hl 0 rfl) ?_
        refine va_get (D := D) (ci := 12) (v := .ref h_t_freshZ) (C := RX12) (T := TX12) (N := 61) hx hb ha ix12 hown hK hP 0 rfl rfl 37 (by decide) (ha _ q997) (fun _ h9 => h9) rfl dX12_set__128 ?_
        refine lv_iload_n hx hb dX12_set__131 rfl (lv_at hl 2 rfl) ?_
        obtain ⟨i16, h⟩ := ix_ok h
        refine va_iald hx hb hK hP 5 4 rfl rfl i16 dX12_set__132 ?_
        refine lv_isub hx hb dX12_set__133 ?_
        refine lv_i2l (v := ((t_freshZ l2.toNatClampNeg) - (t_freshZ l3.toNatClampNeg)).toInt64) hx hb dX12_set__134 rfl ?_
        obtain ⟨r_c135_16, t_quotientY_c135_16, t_quotientZ_c135_16, e_c135_16, h⟩ := bnd3_ok h
        refine cl_z (rn_v (ci := 12) (As := [.long ((t_freshY l2.toNatClampNeg) - (t_freshY l3.toNatClampNeg)).toInt64, .long ((t_freshZ l2.toNatClampNeg) - (t_freshZ l3.toNatClampNeg)).toInt64]) (rest := []) S (c_X12_divides l D ((h_t_tape, .inl (k_t_tape, 200, .inl t_tape)) :: (h_t_setY, .inl (k_t_setY, 25, .inl t_setY)) :: (h_t_setZ, .inl (k_t_setZ, 25, .inl t_setZ)) :: (h_t_freshY, .inl (k_t_freshY, 25, .inl t_freshY)) :: (h_t_freshZ, .inl (k_t_freshZ, 25, .inl t_freshZ)) :: R) h_t (.int t_thrown) (.ref h_t_tape) (.int t_length) (z_t_3) (z_t_4) (z_t_5) (z_t_6) (z_t_7) (z_t_8) (z_t_9) (z_t_10) (z_t_11) (z_t_12) (z_t_13) (z_t_14) (z_t_15) (z_t_16) (z_t_17) (z_t_18) (z_t_19) (z_t_20) (z_t_21) (z_t_22) (z_t_23) (z_t_24) (z_t_25) (z_t_26) t_parts t_ringP t_ringQ t_baseY t_baseZ (.int t_norm) (.int t_setMany) (.ref h_t_setY) (.ref h_t_setZ) (.ref h_t_freshY) (.ref h_t_freshZ) t_quotientY t_quotientZ (z_t_40) (z_t_41) (z_t_42) (z_t_43) (z_t_44) (z_t_45) (z_t_46) (z_t_47) (z_t_48) (z_t_49) (z_t_50) (z_t_51) (z_t_52) (z_t_53) (z_t_54) (z_t_55) (z_t_56) (z_t_57) (z_t_58) (z_t_59) (z_t_60) (((t_freshY l2.toNatClampNeg) - (t_freshY l3.toNatClampNeg)).toInt64) (((t_freshZ l2.toNatClampNeg) - (t_freshZ l3.toNatClampNeg)).toInt64) r_c135_16 t_quotientY_c135_16 t_quotientZ_c135_16 e_c135_16 _) q1308 q1310 q43 q61 q1311 nd_X12_divides ⟨Nat.le_of_ble_eq_true rfl, Nat.le_of_ble_eq_true rfl⟩ rfl rfl hP hD (hK.sub (tys' := []) [] rfl) hN rfl ⟨0, _, rfl⟩ rfl hl.1 rfl (Nat.le_of_ble_eq_true rfl) dX12_set__135 ⟨Nat.le_of_ble_eq_true rfl, Nat.le_of_ble_eq_true rfl⟩) hS hA hD (fun H locs hP hD hS z_c135_16 => ?_)
        have hP : va_P D vwCl ((h_t, .inr (12, (.int t_thrown :: .ref h_t_tape :: .int t_length :: z_t_3 :: z_t_4 :: z_t_5 :: z_t_6 :: z_t_7 :: z_t_8 :: z_t_9 :: z_t_10 :: z_t_11 :: z_t_12 :: z_t_13 :: z_t_14 :: z_t_15 :: z_t_16 :: z_t_17 :: z_t_18 :: z_t_19 :: z_t_20 :: z_t_21 :: z_t_22 :: z_t_23 :: z_t_24 :: z_t_25 :: z_t_26 :: .int t_parts :: .int t_ringP :: .int t_ringQ :: .int t_baseY :: .int t_baseZ :: .int t_norm :: .int t_setMany :: .ref h_t_setY :: .ref h_t_setZ :: .ref h_t_freshY :: .ref h_t_freshZ :: .long t_quotientY_c135_16 :: .long t_quotientZ_c135_16 :: z_t_40 :: z_t_41 :: z_t_42 :: z_t_43 :: z_t_44 :: z_t_45 :: z_t_46 :: z_t_47 :: z_t_48 :: z_t_49 :: z_t_50 :: z_t_51 :: z_t_52 :: z_t_53 :: z_t_54 :: z_t_55 :: z_t_56 :: z_t_57 :: z_t_58 :: z_t_59 :: z_t_60 :: []))) :: (h_t_tape, .inl (k_t_tape, 200, .inl t_tape)) :: (h_t_setY, .inl (k_t_setY, 25, .inl t_setY)) :: (h_t_setZ, .inl (k_t_setZ, 25, .inl t_setZ)) :: (h_t_freshY, .inl (k_t_freshY, 25, .inl t_freshY)) :: (h_t_freshZ, .inl (k_t_freshZ, 25, .inl t_freshZ)) :: R) H := hP
        have hD : va_D A ((h_t, .inr (12, (.int t_thrown :: .ref h_t_tape :: .int t_length :: z_t_3 :: z_t_4 :: z_t_5 :: z_t_6 :: z_t_7 :: z_t_8 :: z_t_9 :: z_t_10 :: z_t_11 :: z_t_12 :: z_t_13 :: z_t_14 :: z_t_15 :: z_t_16 :: z_t_17 :: z_t_18 :: z_t_19 :: z_t_20 :: z_t_21 :: z_t_22 :: z_t_23 :: z_t_24 :: z_t_25 :: z_t_26 :: .int t_parts :: .int t_ringP :: .int t_ringQ :: .int t_baseY :: .int t_baseZ :: .int t_norm :: .int t_setMany :: .ref h_t_setY :: .ref h_t_setZ :: .ref h_t_freshY :: .ref h_t_freshZ :: .long t_quotientY_c135_16 :: .long t_quotientZ_c135_16 :: z_t_40 :: z_t_41 :: z_t_42 :: z_t_43 :: z_t_44 :: z_t_45 :: z_t_46 :: z_t_47 :: z_t_48 :: z_t_49 :: z_t_50 :: z_t_51 :: z_t_52 :: z_t_53 :: z_t_54 :: z_t_55 :: z_t_56 :: z_t_57 :: z_t_58 :: z_t_59 :: z_t_60 :: []))) :: (h_t_tape, .inl (k_t_tape, 200, .inl t_tape)) :: (h_t_setY, .inl (k_t_setY, 25, .inl t_setY)) :: (h_t_setZ, .inl (k_t_setZ, 25, .inl t_setZ)) :: (h_t_freshY, .inl (k_t_freshY, 25, .inl t_freshY)) :: (h_t_freshZ, .inl (k_t_freshZ, 25, .inl t_freshZ)) :: R) := hD
        refine lv_if_eq (tgt := 143) hx hb dX12_set__138 (by decide) (fun c18 => ?_) (fun c18 => ?_)
        · have h := br_pos c18 h
          refine lv_iinc (v := (l3 + 1)) (lv' := [(3, .int (l3 + 1)), (0, .ref h_t), (2, .int l2)]) hx hb dX12_set__143 hl (k := 2) rfl rfl (by decide) rfl (fun ls hl => ?_)
          refine lv_goto (tgt := 101) hx hb dX12_set__146 (by decide) ?_
          exact ih l2 (l3 + 1) t_thrown t_length t_setMany t_quotientY_c135_16 t_quotientZ_c135_16 t_setY t_setZ t_freshY t_freshZ _ _ _ h _ _ _ hP hD hS (lv_sub hl [1, 2, 0] rfl) kk0 kk1
        · have h := br_neg c18 h
          cases h
          exact kk0 rfl _ _ _ hP hD hS (lv_sub hl [] rfl)
  have L91 : ∀ (Q : State → Prop) (n : Nat) (l2 : Int32) (t_thrown : Int32) (t_length : Int32) (t_setMany : Int32) (t_quotientY : Int64) (t_quotientZ : Int64) (t_setY : Nat → Int32) (t_setZ : Nat → Int32) (t_freshY : Nat → Int32) (t_freshZ : Nat → Int32) (tg : Nat) (x_t_quotientY : Int64) (x_t_quotientZ : Int64), f_X12_set__L91 t_parts t_ringP t_ringQ t_baseY t_baseZ t_norm t_freshY t_freshZ n l2 t_quotientY t_quotientZ = some (tg, x_t_quotientY, x_t_quotientZ) → ∀ (H : Heap) (locs : List Loc) (ls : Array Slot), va_P D vwCl ((h_t, .inr (12, (.int t_thrown :: .ref h_t_tape :: .int t_length :: z_t_3 :: z_t_4 :: z_t_5 :: z_t_6 :: z_t_7 :: z_t_8 :: z_t_9 :: z_t_10 :: z_t_11 :: z_t_12 :: z_t_13 :: z_t_14 :: z_t_15 :: z_t_16 :: z_t_17 :: z_t_18 :: z_t_19 :: z_t_20 :: z_t_21 :: z_t_22 :: z_t_23 :: z_t_24 :: z_t_25 :: z_t_26 :: .int t_parts :: .int t_ringP :: .int t_ringQ :: .int t_baseY :: .int t_baseZ :: .int t_norm :: .int t_setMany :: .ref h_t_setY :: .ref h_t_setZ :: .ref h_t_freshY :: .ref h_t_freshZ :: .long t_quotientY :: .long t_quotientZ :: z_t_40 :: z_t_41 :: z_t_42 :: z_t_43 :: z_t_44 :: z_t_45 :: z_t_46 :: z_t_47 :: z_t_48 :: z_t_49 :: z_t_50 :: z_t_51 :: z_t_52 :: z_t_53 :: z_t_54 :: z_t_55 :: z_t_56 :: z_t_57 :: z_t_58 :: z_t_59 :: z_t_60 :: []))) :: (h_t_tape, .inl (k_t_tape, 200, .inl t_tape)) :: (h_t_setY, .inl (k_t_setY, 25, .inl t_setY)) :: (h_t_setZ, .inl (k_t_setZ, 25, .inl t_setZ)) :: (h_t_freshY, .inl (k_t_freshY, 25, .inl t_freshY)) :: (h_t_freshZ, .inl (k_t_freshZ, 25, .inl t_freshZ)) :: R) H → va_D A ((h_t, .inr (12, (.int t_thrown :: .ref h_t_tape :: .int t_length :: z_t_3 :: z_t_4 :: z_t_5 :: z_t_6 :: z_t_7 :: z_t_8 :: z_t_9 :: z_t_10 :: z_t_11 :: z_t_12 :: z_t_13 :: z_t_14 :: z_t_15 :: z_t_16 :: z_t_17 :: z_t_18 :: z_t_19 :: z_t_20 :: z_t_21 :: z_t_22 :: z_t_23 :: z_t_24 :: z_t_25 :: z_t_26 :: .int t_parts :: .int t_ringP :: .int t_ringQ :: .int t_baseY :: .int t_baseZ :: .int t_norm :: .int t_setMany :: .ref h_t_setY :: .ref h_t_setZ :: .ref h_t_freshY :: .ref h_t_freshZ :: .long t_quotientY :: .long t_quotientZ :: z_t_40 :: z_t_41 :: z_t_42 :: z_t_43 :: z_t_44 :: z_t_45 :: z_t_46 :: z_t_47 :: z_t_48 :: z_t_49 :: z_t_50 :: z_t_51 :: z_t_52 :: z_t_53 :: z_t_54 :: z_t_55 :: z_t_56 :: z_t_57 :: z_t_58 :: z_t_59 :: z_t_60 :: []))) :: (h_t_tape, .inl (k_t_tape, 200, .inl t_tape)) :: (h_t_setY, .inl (k_t_setY, 25, .inl t_setY)) :: (h_t_setZ, .inl (k_t_setZ, 25, .inl t_setZ)) :: (h_t_freshY, .inl (k_t_freshY, 25, .inl t_freshY)) :: (h_t_freshZ, .inl (k_t_freshZ, 25, .inl t_freshZ)) :: R) → va_S A s.heap H locs → lv_has ls 4 [(0, .ref h_t), (2, .int l2)] → (tg = 0 → ∀ (H : Heap) (locs : List Loc) (ls : Array Slot), va_P D vwCl ((h_t, .inr (12, (.int t_thrown :: .ref h_t_tape :: .int t_length :: z_t_3 :: z_t_4 :: z_t_5 :: z_t_6 :: z_t_7 :: z_t_8 :: z_t_9 :: z_t_10 :: z_t_11 :: z_t_12 :: z_t_13 :: z_t_14 :: z_t_15 :: z_t_16 :: z_t_17 :: z_t_18 :: z_t_19 :: z_t_20 :: z_t_21 :: z_t_22 :: z_t_23 :: z_t_24 :: z_t_25 :: z_t_26 :: .int t_parts :: .int t_ringP :: .int t_ringQ :: .int t_baseY :: .int t_baseZ :: .int t_norm :: .int t_setMany :: .ref h_t_setY :: .ref h_t_setZ :: .ref h_t_freshY :: .ref h_t_freshZ :: .long x_t_quotientY :: .long x_t_quotientZ :: z_t_40 :: z_t_41 :: z_t_42 :: z_t_43 :: z_t_44 :: z_t_45 :: z_t_46 :: z_t_47 :: z_t_48 :: z_t_49 :: z_t_50 :: z_t_51 :: z_t_52 :: z_t_53 :: z_t_54 :: z_t_55 :: z_t_56 :: z_t_57 :: z_t_58 :: z_t_59 :: z_t_60 :: []))) :: (h_t_tape, .inl (k_t_tape, 200, .inl t_tape)) :: (h_t_setY, .inl (k_t_setY, 25, .inl t_setY)) :: (h_t_setZ, .inl (k_t_setZ, 25, .inl t_setZ)) :: (h_t_freshY, .inl (k_t_freshY, 25, .inl t_freshY)) :: (h_t_freshZ, .inl (k_t_freshZ, 25, .inl t_freshZ)) :: R) H → va_D A ((h_t, .inr (12, (.int t_thrown :: .ref h_t_tape :: .int t_length :: z_t_3 :: z_t_4 :: z_t_5 :: z_t_6 :: z_t_7 :: z_t_8 :: z_t_9 :: z_t_10 :: z_t_11 :: z_t_12 :: z_t_13 :: z_t_14 :: z_t_15 :: z_t_16 :: z_t_17 :: z_t_18 :: z_t_19 :: z_t_20 :: z_t_21 :: z_t_22 :: z_t_23 :: z_t_24 :: z_t_25 :: z_t_26 :: .int t_parts :: .int t_ringP :: .int t_ringQ :: .int t_baseY :: .int t_baseZ :: .int t_norm :: .int t_setMany :: .ref h_t_setY :: .ref h_t_setZ :: .ref h_t_freshY :: .ref h_t_freshZ :: .long x_t_quotientY :: .long x_t_quotientZ :: z_t_40 :: z_t_41 :: z_t_42 :: z_t_43 :: z_t_44 :: z_t_45 :: z_t_46 :: z_t_47 :: z_t_48 :: z_t_49 :: z_t_50 :: z_t_51 :: z_t_52 :: z_t_53 :: z_t_54 :: z_t_55 :: z_t_56 :: z_t_57 :: z_t_58 :: z_t_59 :: z_t_60 :: []))) :: (h_t_tape, .inl (k_t_tape, 200, .inl t_tape)) :: (h_t_setY, .inl (k_t_setY, 25, .inl t_setY)) :: (h_t_setZ, .inl (k_t_setZ, 25, .inl t_setZ)) :: (h_t_freshY, .inl (k_t_freshY, 25, .inl t_freshY)) :: (h_t_freshZ, .inl (k_t_freshZ, 25, .inl t_freshZ)) :: R) → va_S A s.heap H locs → lv_has ls 4 [] → W p l e { frames := 1, cells := 0, slots := 0, locals := 34 } s m args below meth c H locs 0 0 Q (F0 m 141 ls [])) → (tg = 1 → ∀ (H : Heap) (locs : List Loc) (ls : Array Slot), va_P D vwCl ((h_t, .inr (12, (.int t_thrown :: .ref h_t_tape :: .int t_length :: z_t_3 :: z_t_4 :: z_t_5 :: z_t_6 :: z_t_7 :: z_t_8 :: z_t_9 :: z_t_10 :: z_t_11 :: z_t_12 :: z_t_13 :: z_t_14 :: z_t_15 :: z_t_16 :: z_t_17 :: z_t_18 :: z_t_19 :: z_t_20 :: z_t_21 :: z_t_22 :: z_t_23 :: z_t_24 :: z_t_25 :: z_t_26 :: .int t_parts :: .int t_ringP :: .int t_ringQ :: .int t_baseY :: .int t_baseZ :: .int t_norm :: .int t_setMany :: .ref h_t_setY :: .ref h_t_setZ :: .ref h_t_freshY :: .ref h_t_freshZ :: .long x_t_quotientY :: .long x_t_quotientZ :: z_t_40 :: z_t_41 :: z_t_42 :: z_t_43 :: z_t_44 :: z_t_45 :: z_t_46 :: z_t_47 :: z_t_48 :: z_t_49 :: z_t_50 :: z_t_51 :: z_t_52 :: z_t_53 :: z_t_54 :: z_t_55 :: z_t_56 :: z_t_57 :: z_t_58 :: z_t_59 :: z_t_60 :: []))) :: (h_t_tape, .inl (k_t_tape, 200, .inl t_tape)) :: (h_t_setY, .inl (k_t_setY, 25, .inl t_setY)) :: (h_t_setZ, .inl (k_t_setZ, 25, .inl t_setZ)) :: (h_t_freshY, .inl (k_t_freshY, 25, .inl t_freshY)) :: (h_t_freshZ, .inl (k_t_freshZ, 25, .inl t_freshZ)) :: R) H → va_D A ((h_t, .inr (12, (.int t_thrown :: .ref h_t_tape :: .int t_length :: z_t_3 :: z_t_4 :: z_t_5 :: z_t_6 :: z_t_7 :: z_t_8 :: z_t_9 :: z_t_10 :: z_t_11 :: z_t_12 :: z_t_13 :: z_t_14 :: z_t_15 :: z_t_16 :: z_t_17 :: z_t_18 :: z_t_19 :: z_t_20 :: z_t_21 :: z_t_22 :: z_t_23 :: z_t_24 :: z_t_25 :: z_t_26 :: .int t_parts :: .int t_ringP :: .int t_ringQ :: .int t_baseY :: .int t_baseZ :: .int t_norm :: .int t_setMany :: .ref h_t_setY :: .ref h_t_setZ :: .ref h_t_freshY :: .ref h_t_freshZ :: .long x_t_quotientY :: .long x_t_quotientZ :: z_t_40 :: z_t_41 :: z_t_42 :: z_t_43 :: z_t_44 :: z_t_45 :: z_t_46 :: z_t_47 :: z_t_48 :: z_t_49 :: z_t_50 :: z_t_51 :: z_t_52 :: z_t_53 :: z_t_54 :: z_t_55 :: z_t_56 :: z_t_57 :: z_t_58 :: z_t_59 :: z_t_60 :: []))) :: (h_t_tape, .inl (k_t_tape, 200, .inl t_tape)) :: (h_t_setY, .inl (k_t_setY, 25, .inl t_setY)) :: (h_t_setZ, .inl (k_t_setZ, 25, .inl t_setZ)) :: (h_t_freshY, .inl (k_t_freshY, 25, .inl t_freshY)) :: (h_t_freshZ, .inl (k_t_freshZ, 25, .inl t_freshZ)) :: R) → va_S A s.heap H locs → lv_has ls 4 [(0, .ref h_t)] → W p l e { frames := 1, cells := 0, slots := 0, locals := 34 } s m args below meth c H locs 0 0 Q (F0 m 155 ls [])) → W p l e { frames := 1, cells := 0, slots := 0, locals := 34 } s m args below meth c H locs 0 0 Q (F0 m 91 ls []) := by
    intro Q n
    induction n with
    | zero =>
      intro l2 t_thrown t_length t_setMany t_quotientY t_quotientZ t_setY t_setZ t_freshY t_freshZ tg x_t_quotientY x_t_quotientZ h
      rw [f_X12_set__L91] at h; cases h
    | succ n ih =>
      intro l2 t_thrown t_length t_setMany t_quotientY t_quotientZ t_setY t_setZ t_freshY t_freshZ tg x_t_quotientY x_t_quotientZ h H locs ls hP hD hS hl kk0 kk1
      rw [f_X12_set__L91] at h
      refine lv_iload_n hx hb dX12_set__91 rfl (lv_at hl 1 rfl) ?_
      refine lv_aload_n hx hb dX12_set__92 rfl (lv_at hl 0 rfl) ?_
      refine va_get (D := D) (ci := 12) (v := .int t_norm) (C := RX12) (T := TX12) (N := 61) hx hb ha ix12 hown hK hP 0 rfl rfl 32 (by decide) (ha _ q992) (fun _ h9 => h9) rfl dX12_set__93 ?_
      refine lv_icmp_ge (tgt := 155) hx hb dX12_set__96 (by decide) (fun c11 => ?_) (fun c11 => ?_)
      · have h := br_pos c11 h
        cases h
        exact kk1 rfl _ _ _ hP hD hS (lv_sub hl [0] rfl)
      · have h := br_neg c11 h
        refine lv_iconst (v := 0) hx hb dX12_set__99 (by decide) ?_
        refine lv_istore_n (lv' := [(3, .int 0), (0, .ref h_t), (2, .int l2)]) hx hb dX12_set__100 rfl hl (by decide) rfl (fun ls hl => ?_)
        obtain ⟨tg_L101_18, x_t_quotientY_L101_18, x_t_quotientZ_L101_18, e_L101_18, h⟩ := bnd3_ok h
        refine L101 _ _ l2 0 t_thrown t_length t_setMany t_quotientY t_quotientZ t_setY t_setZ t_freshY t_freshZ tg_L101_18 x_t_quotientY_L101_18 x_t_quotientZ_L101_18 e_L101_18 _ _ _ hP hD hS (lv_sub hl [1, 2, 0] rfl) ?_ ?_
        · intro q9 H locs ls hP hD hS hl
          have h := br_pos q9 h
          cases h
          exact kk0 rfl _ _ _ hP hD hS (lv_sub hl [] rfl)
        · intro q9 H locs ls hP hD hS hl
          have h := br_neg (by rw [q9]; decide) h
          refine lv_iinc (v := (l2 + 1)) (lv' := [(2, .int (l2 + 1)), (0, .ref h_t)]) hx hb dX12_set__149 hl (k := 1) rfl rfl (by decide) rfl (fun ls hl => ?_)
          refine lv_goto (tgt := 91) hx hb dX12_set__152 (by decide) ?_
          exact ih (l2 + 1) t_thrown t_length t_setMany x_t_quotientY_L101_18 x_t_quotientZ_L101_18 t_setY t_setZ t_freshY t_freshZ _ _ _ h _ _ _ hP hD hS (lv_sub hl [1, 0] rfl) kk0 kk1
  have L157 : ∀ (Q : State → Prop) (n : Nat) (l2 : Int32) (t_thrown : Int32) (t_length : Int32) (t_setMany : Int32) (t_quotientY : Int64) (t_quotientZ : Int64) (t_setY : Nat → Int32) (t_setZ : Nat → Int32) (t_freshY : Nat → Int32) (t_freshZ : Nat → Int32) (x_t_setY : Nat → Int32) (x_t_setZ : Nat → Int32), f_X12_set__L157 t_norm t_freshY t_freshZ n l2 t_setY t_setZ = some (x_t_setY, x_t_setZ) → ∀ (H : Heap) (locs : List Loc) (ls : Array Slot), va_P D vwCl ((h_t, .inr (12, (.int t_thrown :: .ref h_t_tape :: .int t_length :: z_t_3 :: z_t_4 :: z_t_5 :: z_t_6 :: z_t_7 :: z_t_8 :: z_t_9 :: z_t_10 :: z_t_11 :: z_t_12 :: z_t_13 :: z_t_14 :: z_t_15 :: z_t_16 :: z_t_17 :: z_t_18 :: z_t_19 :: z_t_20 :: z_t_21 :: z_t_22 :: z_t_23 :: z_t_24 :: z_t_25 :: z_t_26 :: .int t_parts :: .int t_ringP :: .int t_ringQ :: .int t_baseY :: .int t_baseZ :: .int t_norm :: .int t_setMany :: .ref h_t_setY :: .ref h_t_setZ :: .ref h_t_freshY :: .ref h_t_freshZ :: .long t_quotientY :: .long t_quotientZ :: z_t_40 :: z_t_41 :: z_t_42 :: z_t_43 :: z_t_44 :: z_t_45 :: z_t_46 :: z_t_47 :: z_t_48 :: z_t_49 :: z_t_50 :: z_t_51 :: z_t_52 :: z_t_53 :: z_t_54 :: z_t_55 :: z_t_56 :: z_t_57 :: z_t_58 :: z_t_59 :: z_t_60 :: []))) :: (h_t_tape, .inl (k_t_tape, 200, .inl t_tape)) :: (h_t_setY, .inl (k_t_setY, 25, .inl t_setY)) :: (h_t_setZ, .inl (k_t_setZ, 25, .inl t_setZ)) :: (h_t_freshY, .inl (k_t_freshY, 25, .inl t_freshY)) :: (h_t_freshZ, .inl (k_t_freshZ, 25, .inl t_freshZ)) :: R) H → va_D A ((h_t, .inr (12, (.int t_thrown :: .ref h_t_tape :: .int t_length :: z_t_3 :: z_t_4 :: z_t_5 :: z_t_6 :: z_t_7 :: z_t_8 :: z_t_9 :: z_t_10 :: z_t_11 :: z_t_12 :: z_t_13 :: z_t_14 :: z_t_15 :: z_t_16 :: z_t_17 :: z_t_18 :: z_t_19 :: z_t_20 :: z_t_21 :: z_t_22 :: z_t_23 :: z_t_24 :: z_t_25 :: z_t_26 :: .int t_parts :: .int t_ringP :: .int t_ringQ :: .int t_baseY :: .int t_baseZ :: .int t_norm :: .int t_setMany :: .ref h_t_setY :: .ref h_t_setZ :: .ref h_t_freshY :: .ref h_t_freshZ :: .long t_quotientY :: .long t_quotientZ :: z_t_40 :: z_t_41 :: z_t_42 :: z_t_43 :: z_t_44 :: z_t_45 :: z_t_46 :: z_t_47 :: z_t_48 :: z_t_49 :: z_t_50 :: z_t_51 :: z_t_52 :: z_t_53 :: z_t_54 :: z_t_55 :: z_t_56 :: z_t_57 :: z_t_58 :: z_t_59 :: z_t_60 :: []))) :: (h_t_tape, .inl (k_t_tape, 200, .inl t_tape)) :: (h_t_setY, .inl (k_t_setY, 25, .inl t_setY)) :: (h_t_setZ, .inl (k_t_setZ, 25, .inl t_setZ)) :: (h_t_freshY, .inl (k_t_freshY, 25, .inl t_freshY)) :: (h_t_freshZ, .inl (k_t_freshZ, 25, .inl t_freshZ)) :: R) → va_S A s.heap H locs → lv_has ls 4 [(0, .ref h_t), (2, .int l2)] → (∀ (H : Heap) (locs : List Loc) (ls : Array Slot), va_P D vwCl ((h_t, .inr (12, (.int t_thrown :: .ref h_t_tape :: .int t_length :: z_t_3 :: z_t_4 :: z_t_5 :: z_t_6 :: z_t_7 :: z_t_8 :: z_t_9 :: z_t_10 :: z_t_11 :: z_t_12 :: z_t_13 :: z_t_14 :: z_t_15 :: z_t_16 :: z_t_17 :: z_t_18 :: z_t_19 :: z_t_20 :: z_t_21 :: z_t_22 :: z_t_23 :: z_t_24 :: z_t_25 :: z_t_26 :: .int t_parts :: .int t_ringP :: .int t_ringQ :: .int t_baseY :: .int t_baseZ :: .int t_norm :: .int t_setMany :: .ref h_t_setY :: .ref h_t_setZ :: .ref h_t_freshY :: .ref h_t_freshZ :: .long t_quotientY :: .long t_quotientZ :: z_t_40 :: z_t_41 :: z_t_42 :: z_t_43 :: z_t_44 :: z_t_45 :: z_t_46 :: z_t_47 :: z_t_48 :: z_t_49 :: z_t_50 :: z_t_51 :: z_t_52 :: z_t_53 :: z_t_54 :: z_t_55 :: z_t_56 :: z_t_57 :: z_t_58 :: z_t_59 :: z_t_60 :: []))) :: (h_t_tape, .inl (k_t_tape, 200, .inl t_tape)) :: (h_t_setY, .inl (k_t_setY, 25, .inl x_t_setY)) :: (h_t_setZ, .inl (k_t_setZ, 25, .inl x_t_setZ)) :: (h_t_freshY, .inl (k_t_freshY, 25, .inl t_freshY)) :: (h_t_freshZ, .inl (k_t_freshZ, 25, .inl t_freshZ)) :: R) H → va_D A ((h_t, .inr (12, (.int t_thrown :: .ref h_t_tape :: .int t_length :: z_t_3 :: z_t_4 :: z_t_5 :: z_t_6 :: z_t_7 :: z_t_8 :: z_t_9 :: z_t_10 :: z_t_11 :: z_t_12 :: z_t_13 :: z_t_14 :: z_t_15 :: z_t_16 :: z_t_17 :: z_t_18 :: z_t_19 :: z_t_20 :: z_t_21 :: z_t_22 :: z_t_23 :: z_t_24 :: z_t_25 :: z_t_26 :: .int t_parts :: .int t_ringP :: .int t_ringQ :: .int t_baseY :: .int t_baseZ :: .int t_norm :: .int t_setMany :: .ref h_t_setY :: .ref h_t_setZ :: .ref h_t_freshY :: .ref h_t_freshZ :: .long t_quotientY :: .long t_quotientZ :: z_t_40 :: z_t_41 :: z_t_42 :: z_t_43 :: z_t_44 :: z_t_45 :: z_t_46 :: z_t_47 :: z_t_48 :: z_t_49 :: z_t_50 :: z_t_51 :: z_t_52 :: z_t_53 :: z_t_54 :: z_t_55 :: z_t_56 :: z_t_57 :: z_t_58 :: z_t_59 :: z_t_60 :: []))) :: (h_t_tape, .inl (k_t_tape, 200, .inl t_tape)) :: (h_t_setY, .inl (k_t_setY, 25, .inl x_t_setY)) :: (h_t_setZ, .inl (k_t_setZ, 25, .inl x_t_setZ)) :: (h_t_freshY, .inl (k_t_freshY, 25, .inl t_freshY)) :: (h_t_freshZ, .inl (k_t_freshZ, 25, .inl t_freshZ)) :: R) → va_S A s.heap H locs → lv_has ls 4 [(0, .ref h_t)] → W p l e { frames := 1, cells := 0, slots := 0, locals := 34 } s m args below meth c H locs 0 0 Q (F0 m 195 ls [])) → W p l e { frames := 1, cells := 0, slots := 0, locals := 34 } s m args below meth c H locs 0 0 Q (F0 m 157 ls []) := by
    intro Q n
    induction n with
    | zero =>
      intro l2 t_thrown t_length t_setMany t_quotientY t_quotientZ t_setY t_setZ t_freshY t_freshZ x_t_setY x_t_setZ h
      rw [f_X12_set__L157] at h; cases h
    | succ n ih =>
      intro l2 t_thrown t_length t_setMany t_quotientY t_quotientZ t_setY t_setZ t_freshY t_freshZ x_t_setY x_t_setZ h H locs ls hP hD hS hl kk0
      rw [f_X12_set__L157] at h
      refine lv_iload_n hx hb dX12_set__157 rfl (lv_at hl 1 rfl) ?_
      refine lv_aload_n hx hb dX12_set__158 rfl (lv_at hl 0 rfl) ?_
      refine va_get (D := D) (ci := 12) (v := .int t_norm) (C := RX12) (T := TX12) (N := 61) hx hb ha ix12 hown hK hP 0 rfl rfl 32 (by decide) (ha _ q992) (fun _ h9 => h9) rfl dX12_set__159 ?_
      refine lv_icmp_ge (tgt := 195) hx hb dX12_set__162 (by decide) (fun c21 => ?_) (fun c21 => ?_)
      · have h := br_pos c21 h
        cases h
        exact kk0 _ _ _ hP hD hS (lv_sub hl [0] rfl)
      · have h := br_neg c21 h
        refine lv_aload_n hx hb dX12_set__165 rfl (lv_at hl 0 rfl) ?_
        refine va_get (D := D) (ci := 12) (v := .ref h_t_setY) (C := RX12) (T := TX12) (N := 61) hx hb ha ix12 hown hK hP 0 rfl rfl 34 (by decide) (ha _ q994) (fun _ h9 => h9) rfl dX12_set__166 ?_
        refine lv_iload_n hx hb dX12_set__169 rfl (lv_at hl 1 rfl) ?_
        refine lv_aload_n hx hb dX12_set__170 rfl (lv_at hl 0 rfl) ?_
        refine va_get (D := D) (ci := 12) (v := .ref h_t_freshY) (C := RX12) (T := TX12) (N := 61) hx hb ha ix12 hown hK hP 0 rfl rfl 36 (by decide) (ha _ q996) (fun _ h9 => h9) rfl dX12_set__171 ?_
        refine lv_iload_n hx hb dX12_set__174 rfl (lv_at hl 1 rfl) ?_
        obtain ⟨i22, h⟩ := ix_ok h
        refine va_iald hx hb hK hP 4 3 rfl rfl i22 dX12_set__175 ?_
        obtain ⟨i23, h⟩ := ix_ok h
        refine va_iast hx hb hK hP hD hS 2 1 rfl rfl i23 dX12_set__176 (fun H locs hP hD hS => ?_)
        have hP : va_P D vwCl ((h_t, .inr (12, (.int t_thrown :: .ref h_t_tape :: .int t_length :: z_t_3 :: z_t_4 :: z_t_5 :: z_t_6 :: z_t_7 :: z_t_8 :: z_t_9 :: z_t_10 :: z_t_11 :: z_t_12 :: z_t_13 :: z_t_14 :: z_t_15 :: z_t_16 :: z_t_17 :: z_t_18 :: z_t_19 :: z_t_20 :: z_t_21 :: z_t_22 :: z_t_23 :: z_t_24 :: z_t_25 :: z_t_26 :: .int t_parts :: .int t_ringP :: .int t_ringQ :: .int t_baseY :: .int t_baseZ :: .int t_norm :: .int t_setMany :: .ref h_t_setY :: .ref h_t_setZ :: .ref h_t_freshY :: .ref h_t_freshZ :: .long t_quotientY :: .long t_quotientZ :: z_t_40 :: z_t_41 :: z_t_42 :: z_t_43 :: z_t_44 :: z_t_45 :: z_t_46 :: z_t_47 :: z_t_48 :: z_t_49 :: z_t_50 :: z_t_51 :: z_t_52 :: z_t_53 :: z_t_54 :: z_t_55 :: z_t_56 :: z_t_57 :: z_t_58 :: z_t_59 :: z_t_60 :: []))) :: (h_t_tape, .inl (k_t_tape, 200, .inl t_tape)) :: (h_t_setY, .inl (k_t_setY, 25, .inl (upd t_setY l2.toNatClampNeg (t_freshY l2.toNatClampNeg)))) :: (h_t_setZ, .inl (k_t_setZ, 25, .inl t_setZ)) :: (h_t_freshY, .inl (k_t_freshY, 25, .inl t_freshY)) :: (h_t_freshZ, .inl (k_t_freshZ, 25, .inl t_freshZ)) :: R) H := hP
        have hD : va_D A ((h_t, .inr (12, (.int t_thrown :: .ref h_t_tape :: .int t_length :: z_t_3 :: z_t_4 :: z_t_5 :: z_t_6 :: z_t_7 :: z_t_8 :: z_t_9 :: z_t_10 :: z_t_11 :: z_t_12 :: z_t_13 :: z_t_14 :: z_t_15 :: z_t_16 :: z_t_17 :: z_t_18 :: z_t_19 :: z_t_20 :: z_t_21 :: z_t_22 :: z_t_23 :: z_t_24 :: z_t_25 :: z_t_26 :: .int t_parts :: .int t_ringP :: .int t_ringQ :: .int t_baseY :: .int t_baseZ :: .int t_norm :: .int t_setMany :: .ref h_t_setY :: .ref h_t_setZ :: .ref h_t_freshY :: .ref h_t_freshZ :: .long t_quotientY :: .long t_quotientZ :: z_t_40 :: z_t_41 :: z_t_42 :: z_t_43 :: z_t_44 :: z_t_45 :: z_t_46 :: z_t_47 :: z_t_48 :: z_t_49 :: z_t_50 :: z_t_51 :: z_t_52 :: z_t_53 :: z_t_54 :: z_t_55 :: z_t_56 :: z_t_57 :: z_t_58 :: z_t_59 :: z_t_60 :: []))) :: (h_t_tape, .inl (k_t_tape, 200, .inl t_tape)) :: (h_t_setY, .inl (k_t_setY, 25, .inl (upd t_setY l2.toNatClampNeg (t_freshY l2.toNatClampNeg)))) :: (h_t_setZ, .inl (k_t_setZ, 25, .inl t_setZ)) :: (h_t_freshY, .inl (k_t_freshY, 25, .inl t_freshY)) :: (h_t_freshZ, .inl (k_t_freshZ, 25, .inl t_freshZ)) :: R) := hD
        refine lv_aload_n hx hb dX12_set__177 rfl (lv_at hl 0 rfl) ?_
        refine va_get (D := D) (ci := 12) (v := .ref h_t_setZ) (C := RX12) (T := TX12) (N := 61) hx hb ha ix12 hown hK hP 0 rfl rfl 35 (by decide) (ha _ q995) (fun _ h9 => h9) rfl dX12_set__178 ?_
        refine lv_iload_n hx hb dX12_set__181 rfl (lv_at hl 1 rfl) ?_
        refine lv_aload_n hx hb dX12_set__182 rfl (lv_at hl 0 rfl) ?_
        refine va_get (D := D) (ci := 12) (v := .ref h_t_freshZ) (C := RX12) (T := TX12) (N := 61) hx hb ha ix12 hown hK hP 0 rfl rfl 37 (by decide) (ha _ q997) (fun _ h9 => h9) rfl dX12_set__183 ?_
        refine lv_iload_n hx hb dX12_set__186 rfl (lv_at hl 1 rfl) ?_
        obtain ⟨i24, h⟩ := ix_ok h
        refine va_iald hx hb hK hP 5 4 rfl rfl i24 dX12_set__187 ?_
        obtain ⟨i25, h⟩ := ix_ok h
        refine va_iast hx hb hK hP hD hS 3 2 rfl rfl i25 dX12_set__188 (fun H locs hP hD hS => ?_)
        have hP : va_P D vwCl ((h_t, .inr (12, (.int t_thrown :: .ref h_t_tape :: .int t_length :: z_t_3 :: z_t_4 :: z_t_5 :: z_t_6 :: z_t_7 :: z_t_8 :: z_t_9 :: z_t_10 :: z_t_11 :: z_t_12 :: z_t_13 :: z_t_14 :: z_t_15 :: z_t_16 :: z_t_17 :: z_t_18 :: z_t_19 :: z_t_20 :: z_t_21 :: z_t_22 :: z_t_23 :: z_t_24 :: z_t_25 :: z_t_26 :: .int t_parts :: .int t_ringP :: .int t_ringQ :: .int t_baseY :: .int t_baseZ :: .int t_norm :: .int t_setMany :: .ref h_t_setY :: .ref h_t_setZ :: .ref h_t_freshY :: .ref h_t_freshZ :: .long t_quotientY :: .long t_quotientZ :: z_t_40 :: z_t_41 :: z_t_42 :: z_t_43 :: z_t_44 :: z_t_45 :: z_t_46 :: z_t_47 :: z_t_48 :: z_t_49 :: z_t_50 :: z_t_51 :: z_t_52 :: z_t_53 :: z_t_54 :: z_t_55 :: z_t_56 :: z_t_57 :: z_t_58 :: z_t_59 :: z_t_60 :: []))) :: (h_t_tape, .inl (k_t_tape, 200, .inl t_tape)) :: (h_t_setY, .inl (k_t_setY, 25, .inl (upd t_setY l2.toNatClampNeg (t_freshY l2.toNatClampNeg)))) :: (h_t_setZ, .inl (k_t_setZ, 25, .inl (upd t_setZ l2.toNatClampNeg (t_freshZ l2.toNatClampNeg)))) :: (h_t_freshY, .inl (k_t_freshY, 25, .inl t_freshY)) :: (h_t_freshZ, .inl (k_t_freshZ, 25, .inl t_freshZ)) :: R) H := hP
        have hD : va_D A ((h_t, .inr (12, (.int t_thrown :: .ref h_t_tape :: .int t_length :: z_t_3 :: z_t_4 :: z_t_5 :: z_t_6 :: z_t_7 :: z_t_8 :: z_t_9 :: z_t_10 :: z_t_11 :: z_t_12 :: z_t_13 :: z_t_14 :: z_t_15 :: z_t_16 :: z_t_17 :: z_t_18 :: z_t_19 :: z_t_20 :: z_t_21 :: z_t_22 :: z_t_23 :: z_t_24 :: z_t_25 :: z_t_26 :: .int t_parts :: .int t_ringP :: .int t_ringQ :: .int t_baseY :: .int t_baseZ :: .int t_norm :: .int t_setMany :: .ref h_t_setY :: .ref h_t_setZ :: .ref h_t_freshY :: .ref h_t_freshZ :: .long t_quotientY :: .long t_quotientZ :: z_t_40 :: z_t_41 :: z_t_42 :: z_t_43 :: z_t_44 :: z_t_45 :: z_t_46 :: z_t_47 :: z_t_48 :: z_t_49 :: z_t_50 :: z_t_51 :: z_t_52 :: z_t_53 :: z_t_54 :: z_t_55 :: z_t_56 :: z_t_57 :: z_t_58 :: z_t_59 :: z_t_60 :: []))) :: (h_t_tape, .inl (k_t_tape, 200, .inl t_tape)) :: (h_t_setY, .inl (k_t_setY, 25, .inl (upd t_setY l2.toNatClampNeg (t_freshY l2.toNatClampNeg)))) :: (h_t_setZ, .inl (k_t_setZ, 25, .inl (upd t_setZ l2.toNatClampNeg (t_freshZ l2.toNatClampNeg)))) :: (h_t_freshY, .inl (k_t_freshY, 25, .inl t_freshY)) :: (h_t_freshZ, .inl (k_t_freshZ, 25, .inl t_freshZ)) :: R) := hD
        refine lv_iinc (v := (l2 + 1)) (lv' := [(2, .int (l2 + 1)), (0, .ref h_t)]) hx hb dX12_set__189 hl (k := 1) rfl rfl (by decide) rfl (fun ls hl => ?_)
        refine lv_goto (tgt := 157) hx hb dX12_set__192 (by decide) ?_
        exact ih (l2 + 1) t_thrown t_length t_setMany t_quotientY t_quotientZ (upd t_setY l2.toNatClampNeg (t_freshY l2.toNatClampNeg)) (upd t_setZ l2.toNatClampNeg (t_freshZ l2.toNatClampNeg)) t_freshY t_freshZ _ _ h _ _ _ hP hD hS (lv_sub hl [1, 0] rfl) kk0
  unfold f_X12_set_ at h
  refine lv_aload_n hx hb dX12_set__0 rfl (lv_at hl 0 rfl) ?_
  refine lv_iconst (v := 0) hx hb dX12_set__1 (by decide) ?_
  refine va_put (D := D) (ci := 12) (v := .int 0) (ty := .int) (C := RX12) (T := TX12) (N := 61) hx hb ha ix12 tyX12 tyX12_ok nmX12 hown hK hP hD hS 0 rfl rfl 0 (by decide) (ha _ q960) (fun _ h9 => h9) rfl (by decide +kernel) rfl rfl (Nat.le_of_ble_eq_true rfl) dX12_set__2 (fun H locs hP hD hS => ?_)
  have hP : va_P D vwCl ((h_t, .inr (12, (.int 0 :: .ref h_t_tape :: .int t_length :: z_t_3 :: z_t_4 :: z_t_5 :: z_t_6 :: z_t_7 :: z_t_8 :: z_t_9 :: z_t_10 :: z_t_11 :: z_t_12 :: z_t_13 :: z_t_14 :: z_t_15 :: z_t_16 :: z_t_17 :: z_t_18 :: z_t_19 :: z_t_20 :: z_t_21 :: z_t_22 :: z_t_23 :: z_t_24 :: z_t_25 :: z_t_26 :: .int t_parts :: .int t_ringP :: .int t_ringQ :: .int t_baseY :: .int t_baseZ :: .int t_norm :: .int t_setMany :: .ref h_t_setY :: .ref h_t_setZ :: .ref h_t_freshY :: .ref h_t_freshZ :: .long t_quotientY :: .long t_quotientZ :: z_t_40 :: z_t_41 :: z_t_42 :: z_t_43 :: z_t_44 :: z_t_45 :: z_t_46 :: z_t_47 :: z_t_48 :: z_t_49 :: z_t_50 :: z_t_51 :: z_t_52 :: z_t_53 :: z_t_54 :: z_t_55 :: z_t_56 :: z_t_57 :: z_t_58 :: z_t_59 :: z_t_60 :: []))) :: (h_t_tape, .inl (k_t_tape, 200, .inl t_tape)) :: (h_t_setY, .inl (k_t_setY, 25, .inl t_setY)) :: (h_t_setZ, .inl (k_t_setZ, 25, .inl t_setZ)) :: (h_t_freshY, .inl (k_t_freshY, 25, .inl t_freshY)) :: (h_t_freshZ, .inl (k_t_freshZ, 25, .inl t_freshZ)) :: R) H := hP
  have hD : va_D A ((h_t, .inr (12, (.int 0 :: .ref h_t_tape :: .int t_length :: z_t_3 :: z_t_4 :: z_t_5 :: z_t_6 :: z_t_7 :: z_t_8 :: z_t_9 :: z_t_10 :: z_t_11 :: z_t_12 :: z_t_13 :: z_t_14 :: z_t_15 :: z_t_16 :: z_t_17 :: z_t_18 :: z_t_19 :: z_t_20 :: z_t_21 :: z_t_22 :: z_t_23 :: z_t_24 :: z_t_25 :: z_t_26 :: .int t_parts :: .int t_ringP :: .int t_ringQ :: .int t_baseY :: .int t_baseZ :: .int t_norm :: .int t_setMany :: .ref h_t_setY :: .ref h_t_setZ :: .ref h_t_freshY :: .ref h_t_freshZ :: .long t_quotientY :: .long t_quotientZ :: z_t_40 :: z_t_41 :: z_t_42 :: z_t_43 :: z_t_44 :: z_t_45 :: z_t_46 :: z_t_47 :: z_t_48 :: z_t_49 :: z_t_50 :: z_t_51 :: z_t_52 :: z_t_53 :: z_t_54 :: z_t_55 :: z_t_56 :: z_t_57 :: z_t_58 :: z_t_59 :: z_t_60 :: []))) :: (h_t_tape, .inl (k_t_tape, 200, .inl t_tape)) :: (h_t_setY, .inl (k_t_setY, 25, .inl t_setY)) :: (h_t_setZ, .inl (k_t_setZ, 25, .inl t_setZ)) :: (h_t_freshY, .inl (k_t_freshY, 25, .inl t_freshY)) :: (h_t_freshZ, .inl (k_t_freshZ, 25, .inl t_freshZ)) :: R) := hD
  refine lv_aload_n hx hb dX12_set__5 rfl (lv_at hl 0 rfl) ?_
  obtain ⟨r_c6_0, t_length_c6_0, e_c6_0, h⟩ := bnd2_ok h
  refine cl_i (rn_v (ci := 12) (As := []) (rest := []) S (c_X12_taken l D ((h_t_tape, .inl (k_t_tape, 200, .inl t_tape)) :: (h_t_setY, .inl (k_t_setY, 25, .inl t_setY)) :: (h_t_setZ, .inl (k_t_setZ, 25, .inl t_setZ)) :: (h_t_freshY, .inl (k_t_freshY, 25, .inl t_freshY)) :: (h_t_freshZ, .inl (k_t_freshZ, 25, .inl t_freshZ)) :: R) h_t (.int 0) (.ref h_t_tape) t_length (z_t_3) (z_t_4) (z_t_5) (z_t_6) (z_t_7) (z_t_8) (z_t_9) (z_t_10) (z_t_11) (z_t_12) (z_t_13) (z_t_14) (z_t_15) (z_t_16) (z_t_17) (z_t_18) (z_t_19) (z_t_20) (z_t_21) (z_t_22) (z_t_23) (z_t_24) (z_t_25) (z_t_26) (.int t_parts) (.int t_ringP) (.int t_ringQ) (.int t_baseY) (.int t_baseZ) (.int t_norm) (.int t_setMany) (.ref h_t_setY) (.ref h_t_setZ) (.ref h_t_freshY) (.ref h_t_freshZ) (.long t_quotientY) (.long t_quotientZ) (z_t_40) (z_t_41) (z_t_42) (z_t_43) (z_t_44) (z_t_45) (z_t_46) (z_t_47) (z_t_48) (z_t_49) (z_t_50) (z_t_51) (z_t_52) (z_t_53) (z_t_54) (z_t_55) (z_t_56) (z_t_57) (z_t_58) (z_t_59) (z_t_60) r_c6_0 t_length_c6_0 e_c6_0 _) q1255 q1257 q38 q61 q1258 nd_X12_taken ⟨Nat.le_of_ble_eq_true rfl, Nat.le_of_ble_eq_true rfl⟩ rfl rfl hP hD (hK.sub (tys' := []) [] rfl) hN rfl ⟨0, _, rfl⟩ rfl hl.1 rfl (Nat.le_of_ble_eq_true rfl) dX12_set__6 ⟨Nat.le_of_ble_eq_true rfl, Nat.le_of_ble_eq_true rfl⟩) hS hA hD (fun H locs hP hD hS => ?_)
  have hP : va_P D vwCl ((h_t, .inr (12, (.int 0 :: .ref h_t_tape :: .int t_length_c6_0 :: z_t_3 :: z_t_4 :: z_t_5 :: z_t_6 :: z_t_7 :: z_t_8 :: z_t_9 :: z_t_10 :: z_t_11 :: z_t_12 :: z_t_13 :: z_t_14 :: z_t_15 :: z_t_16 :: z_t_17 :: z_t_18 :: z_t_19 :: z_t_20 :: z_t_21 :: z_t_22 :: z_t_23 :: z_t_24 :: z_t_25 :: z_t_26 :: .int t_parts :: .int t_ringP :: .int t_ringQ :: .int t_baseY :: .int t_baseZ :: .int t_norm :: .int t_setMany :: .ref h_t_setY :: .ref h_t_setZ :: .ref h_t_freshY :: .ref h_t_freshZ :: .long t_quotientY :: .long t_quotientZ :: z_t_40 :: z_t_41 :: z_t_42 :: z_t_43 :: z_t_44 :: z_t_45 :: z_t_46 :: z_t_47 :: z_t_48 :: z_t_49 :: z_t_50 :: z_t_51 :: z_t_52 :: z_t_53 :: z_t_54 :: z_t_55 :: z_t_56 :: z_t_57 :: z_t_58 :: z_t_59 :: z_t_60 :: []))) :: (h_t_tape, .inl (k_t_tape, 200, .inl t_tape)) :: (h_t_setY, .inl (k_t_setY, 25, .inl t_setY)) :: (h_t_setZ, .inl (k_t_setZ, 25, .inl t_setZ)) :: (h_t_freshY, .inl (k_t_freshY, 25, .inl t_freshY)) :: (h_t_freshZ, .inl (k_t_freshZ, 25, .inl t_freshZ)) :: R) H := hP
  have hD : va_D A ((h_t, .inr (12, (.int 0 :: .ref h_t_tape :: .int t_length_c6_0 :: z_t_3 :: z_t_4 :: z_t_5 :: z_t_6 :: z_t_7 :: z_t_8 :: z_t_9 :: z_t_10 :: z_t_11 :: z_t_12 :: z_t_13 :: z_t_14 :: z_t_15 :: z_t_16 :: z_t_17 :: z_t_18 :: z_t_19 :: z_t_20 :: z_t_21 :: z_t_22 :: z_t_23 :: z_t_24 :: z_t_25 :: z_t_26 :: .int t_parts :: .int t_ringP :: .int t_ringQ :: .int t_baseY :: .int t_baseZ :: .int t_norm :: .int t_setMany :: .ref h_t_setY :: .ref h_t_setZ :: .ref h_t_freshY :: .ref h_t_freshZ :: .long t_quotientY :: .long t_quotientZ :: z_t_40 :: z_t_41 :: z_t_42 :: z_t_43 :: z_t_44 :: z_t_45 :: z_t_46 :: z_t_47 :: z_t_48 :: z_t_49 :: z_t_50 :: z_t_51 :: z_t_52 :: z_t_53 :: z_t_54 :: z_t_55 :: z_t_56 :: z_t_57 :: z_t_58 :: z_t_59 :: z_t_60 :: []))) :: (h_t_tape, .inl (k_t_tape, 200, .inl t_tape)) :: (h_t_setY, .inl (k_t_setY, 25, .inl t_setY)) :: (h_t_setZ, .inl (k_t_setZ, 25, .inl t_setZ)) :: (h_t_freshY, .inl (k_t_freshY, 25, .inl t_freshY)) :: (h_t_freshZ, .inl (k_t_freshZ, 25, .inl t_freshZ)) :: R) := hD
  refine lv_istore_n (lv' := [(1, .int r_c6_0), (0, .ref h_t)]) hx hb dX12_set__9 rfl hl (by decide) rfl (fun ls hl => ?_)
  refine lv_iload_n hx hb dX12_set__10 rfl (lv_at hl 0 rfl) ?_
  refine lv_aload_n hx hb dX12_set__11 rfl (lv_at hl 1 rfl) ?_
  refine va_get (D := D) (ci := 12) (v := .int t_norm) (C := RX12) (T := TX12) (N := 61) hx hb ha ix12 hown hK hP 0 rfl rfl 32 (by decide) (ha _ q992) (fun _ h9 => h9) rfl dX12_set__12 ?_
  refine lv_aload_n hx hb dX12_set__15 rfl (lv_at hl 1 rfl) ?_
  refine va_get (D := D) (ci := 12) (v := .int t_parts) (C := RX12) (T := TX12) (N := 61) hx hb ha ix12 hown hK hP 0 rfl rfl 27 (by decide) (ha _ q987) (fun _ h9 => h9) rfl dX12_set__16 ?_
  refine lv_imul hx hb dX12_set__19 ?_
  refine lv_icmp_eq (tgt := 25) hx hb dX12_set__20 (by decide) (fun c2 => ?_) (fun c2 => ?_)
  · have h := br_pos c2 h
    refine lv_iconst (v := 0) hx hb dX12_set__25 (by decide) ?_
    refine lv_istore_n (lv' := [(2, .int 0), (1, .int r_c6_0), (0, .ref h_t)]) hx hb dX12_set__26 rfl hl (by decide) rfl (fun ls hl => ?_)
    obtain ⟨x_t_freshY_L27_9, x_t_freshZ_L27_9, e_L27_9, h⟩ := bnd2_ok h
    refine L27 _ _ 0 0 t_length_c6_0 t_setMany t_quotientY t_quotientZ t_setY t_setZ t_freshY t_freshZ x_t_freshY_L27_9 x_t_freshZ_L27_9 e_L27_9 _ _ _ hP hD hS (lv_sub hl [2, 0] rfl) ?_
    intro H locs ls hP hD hS hl
    refine lv_iconst (v := 0) hx hb dX12_set__89 (by decide) ?_
    refine lv_istore_n (lv' := [(2, .int 0), (0, .ref h_t)]) hx hb dX12_set__90 rfl hl (by decide) rfl (fun ls hl => ?_)
    obtain ⟨tg_L91_19, x_t_quotientY_L91_19, x_t_quotientZ_L91_19, e_L91_19, h⟩ := bnd3_ok h
    refine L91 _ _ 0 0 t_length_c6_0 t_setMany t_quotientY t_quotientZ t_setY t_setZ x_t_freshY_L27_9 x_t_freshZ_L27_9 tg_L91_19 x_t_quotientY_L91_19 x_t_quotientZ_L91_19 e_L91_19 _ _ _ hP hD hS (lv_sub hl [1, 0] rfl) ?_ ?_
    · intro q9 H locs ls hP hD hS hl
      have h := br_pos q9 h
      refine lv_iconst (v := 0) hx hb dX12_set__141 (by decide) ?_
      cases h
      exact rt_z S hr hlk hP hD hS (by decide) dX12_set__142
    · intro q9 H locs ls hP hD hS hl
      have h := br_neg (by rw [q9]; decide) h
      refine lv_iconst (v := 0) hx hb dX12_set__155 (by decide) ?_
      refine lv_istore_n (lv' := [(2, .int 0), (0, .ref h_t)]) hx hb dX12_set__156 rfl hl (by decide) rfl (fun ls hl => ?_)
      obtain ⟨x_t_setY_L157_25, x_t_setZ_L157_25, e_L157_25, h⟩ := bnd2_ok h
      refine L157 _ _ 0 0 t_length_c6_0 t_setMany x_t_quotientY_L91_19 x_t_quotientZ_L91_19 t_setY t_setZ x_t_freshY_L27_9 x_t_freshZ_L27_9 x_t_setY_L157_25 x_t_setZ_L157_25 e_L157_25 _ _ _ hP hD hS (lv_sub hl [1, 0] rfl) ?_
      intro H locs ls hP hD hS hl
      refine lv_aload_n hx hb dX12_set__195 rfl (lv_at hl 0 rfl) ?_
      refine lv_aload_n hx hb dX12_set__196 rfl (lv_at hl 0 rfl) ?_
      refine va_get (D := D) (ci := 12) (v := .int t_norm) (C := RX12) (T := TX12) (N := 61) hx hb ha ix12 hown hK hP 0 rfl rfl 32 (by decide) (ha _ q992) (fun _ h9 => h9) rfl dX12_set__197 ?_
      refine va_put (D := D) (ci := 12) (v := .int t_norm) (ty := .int) (C := RX12) (T := TX12) (N := 61) hx hb ha ix12 tyX12 tyX12_ok nmX12 hown hK hP hD hS 0 rfl rfl 33 (by decide) (ha _ q993) (fun _ h9 => h9) rfl (by decide +kernel) rfl rfl (Nat.le_of_ble_eq_true rfl) dX12_set__200 (fun H locs hP hD hS => ?_)
      have hP : va_P D vwCl ((h_t, .inr (12, (.int 0 :: .ref h_t_tape :: .int t_length_c6_0 :: z_t_3 :: z_t_4 :: z_t_5 :: z_t_6 :: z_t_7 :: z_t_8 :: z_t_9 :: z_t_10 :: z_t_11 :: z_t_12 :: z_t_13 :: z_t_14 :: z_t_15 :: z_t_16 :: z_t_17 :: z_t_18 :: z_t_19 :: z_t_20 :: z_t_21 :: z_t_22 :: z_t_23 :: z_t_24 :: z_t_25 :: z_t_26 :: .int t_parts :: .int t_ringP :: .int t_ringQ :: .int t_baseY :: .int t_baseZ :: .int t_norm :: .int t_norm :: .ref h_t_setY :: .ref h_t_setZ :: .ref h_t_freshY :: .ref h_t_freshZ :: .long x_t_quotientY_L91_19 :: .long x_t_quotientZ_L91_19 :: z_t_40 :: z_t_41 :: z_t_42 :: z_t_43 :: z_t_44 :: z_t_45 :: z_t_46 :: z_t_47 :: z_t_48 :: z_t_49 :: z_t_50 :: z_t_51 :: z_t_52 :: z_t_53 :: z_t_54 :: z_t_55 :: z_t_56 :: z_t_57 :: z_t_58 :: z_t_59 :: z_t_60 :: []))) :: (h_t_tape, .inl (k_t_tape, 200, .inl t_tape)) :: (h_t_setY, .inl (k_t_setY, 25, .inl x_t_setY_L157_25)) :: (h_t_setZ, .inl (k_t_setZ, 25, .inl x_t_setZ_L157_25)) :: (h_t_freshY, .inl (k_t_freshY, 25, .inl x_t_freshY_L27_9)) :: (h_t_freshZ, .inl (k_t_freshZ, 25, .inl x_t_freshZ_L27_9)) :: R) H := hP
      have hD : va_D A ((h_t, .inr (12, (.int 0 :: .ref h_t_tape :: .int t_length_c6_0 :: z_t_3 :: z_t_4 :: z_t_5 :: z_t_6 :: z_t_7 :: z_t_8 :: z_t_9 :: z_t_10 :: z_t_11 :: z_t_12 :: z_t_13 :: z_t_14 :: z_t_15 :: z_t_16 :: z_t_17 :: z_t_18 :: z_t_19 :: z_t_20 :: z_t_21 :: z_t_22 :: z_t_23 :: z_t_24 :: z_t_25 :: z_t_26 :: .int t_parts :: .int t_ringP :: .int t_ringQ :: .int t_baseY :: .int t_baseZ :: .int t_norm :: .int t_norm :: .ref h_t_setY :: .ref h_t_setZ :: .ref h_t_freshY :: .ref h_t_freshZ :: .long x_t_quotientY_L91_19 :: .long x_t_quotientZ_L91_19 :: z_t_40 :: z_t_41 :: z_t_42 :: z_t_43 :: z_t_44 :: z_t_45 :: z_t_46 :: z_t_47 :: z_t_48 :: z_t_49 :: z_t_50 :: z_t_51 :: z_t_52 :: z_t_53 :: z_t_54 :: z_t_55 :: z_t_56 :: z_t_57 :: z_t_58 :: z_t_59 :: z_t_60 :: []))) :: (h_t_tape, .inl (k_t_tape, 200, .inl t_tape)) :: (h_t_setY, .inl (k_t_setY, 25, .inl x_t_setY_L157_25)) :: (h_t_setZ, .inl (k_t_setZ, 25, .inl x_t_setZ_L157_25)) :: (h_t_freshY, .inl (k_t_freshY, 25, .inl x_t_freshY_L27_9)) :: (h_t_freshZ, .inl (k_t_freshZ, 25, .inl x_t_freshZ_L27_9)) :: R) := hD
      refine lv_iconst (v := 1) hx hb dX12_set__203 (by decide) ?_
      cases h
      exact rt_z S hr hlk hP hD hS (by decide) dX12_set__204
  · have h := br_neg c2 h
    refine lv_iconst (v := 0) hx hb dX12_set__23 (by decide) ?_
    cases h
    exact rt_z S hr hlk hP hD hS (by decide) dX12_set__24
noncomputable def f_X12_walk_L58 (l3 : Int32) (t_wayY : Nat → Int32) (t_wayZ : Nat → Int32) : Nat → Int32 →  Option (Nat × Int32)
  | 0, _ => none
  | n + 1, l4 => (
    if l3 ≤ l4 then (
     some (1, l4)
    ) else (
     gd (ixb l4 301) (
      gd (ixb l3 301) (
       if (t_wayY l4.toNatClampNeg) = (t_wayY l3.toNatClampNeg) then (
        gd (ixb l4 301) (
         gd (ixb l3 301) (
          if (t_wayZ l4.toNatClampNeg) = (t_wayZ l3.toNatClampNeg) then (
           some (0, l4)
          ) else (
           f_X12_walk_L58 l3 t_wayY t_wayZ n (l4 + 1)
          )
         )
        )
       ) else (
        f_X12_walk_L58 l3 t_wayY t_wayZ n (l4 + 1)
       )
      )
     )
    ))
noncomputable def f_X12_walk_L141 (l3 : Int32) (t_parts : Int32) (t_ringP : Int32) (t_ringQ : Int32) (t_baseY : Int32) (t_baseZ : Int32) (t_setY : Nat → Int32) (t_setZ : Nat → Int32) (t_wayY : Nat → Int32) (t_wayZ : Nat → Int32) : Nat → Int32 → Int64 → Int64 →  Option (Int32 × Int64 × Int64)
  | 0, _, _, _ => none
  | n + 1, l4, t_quotientY, t_quotientZ => (
    gd (ixb l3 301) (
     gd (ixb l4 25) (
      gd (ixb l3 301) (
       gd (ixb l4 25) (
        bnd3 (f_X12_divides t_parts t_ringP t_ringQ t_baseY t_baseZ t_quotientY t_quotientZ ((t_wayY l3.toNatClampNeg).toInt64 - (t_setY l4.toNatClampNeg).toInt64) ((t_wayZ l3.toNatClampNeg).toInt64 - (t_setZ l4.toNatClampNeg).toInt64)) fun r_c174_19 t_quotientY_c174_19 t_quotientZ_c174_19 => (
         if r_c174_19 = 0 then (
          f_X12_walk_L141 l3 t_parts t_ringP t_ringQ t_baseY t_baseZ t_setY t_setZ t_wayY t_wayZ n (l4 + 1) t_quotientY_c174_19 t_quotientZ_c174_19
         ) else (
          some (l4, t_quotientY_c174_19, t_quotientZ_c174_19)
         )
        )
       )
      )
     )
    ))
noncomputable def f_X12_walk_L26 (t_parts : Int32) (t_ringP : Int32) (t_ringQ : Int32) (t_baseY : Int32) (t_baseZ : Int32) (t_setY : Nat → Int32) (t_setZ : Nat → Int32) : Nat → Int32 → Int64 → Int64 → Int32 → Int32 → Int32 → (Nat → Int32) → (Nat → Int32) → (Nat → Int32) →  Option (Nat × Int32 × Int32 × Int64 × Int64 × Int32 × Int32 × Int32 × (Nat → Int32) × (Nat → Int32) × (Nat → Int32))
  | 0, _, _, _, _, _, _, _, _, _ => none
  | n + 1, l3, t_quotientY, t_quotientZ, t_placeMany, t_met, t_how, t_wayY, t_wayZ, t_places => (
    gd (ixb l3 301) (
     if (t_wayY l3.toNatClampNeg) = 0 then (
      gd (ixb l3 301) (
       if (t_wayZ l3.toNatClampNeg) = 0 then (
        some (0, l3, 0, t_quotientY, t_quotientZ, t_placeMany, l3, t_how, t_wayY, t_wayZ, t_places)
       ) else (
        bnd2 (f_X12_walk_L58 l3 t_wayY t_wayZ FU 0) fun tg_L58_13 x4_L58_13 => (
         if tg_L58_13 = 0 then (
          some (1, l3, x4_L58_13, t_quotientY, t_quotientZ, t_placeMany, l3, t_how, t_wayY, t_wayZ, t_places)
         ) else (
          if l3 = 300 then (
           some (2, l3, 0, t_quotientY, t_quotientZ, t_placeMany, l3, 2, t_wayY, t_wayZ, t_places)
          ) else (
           bnd3 (f_X12_walk_L141 l3 t_parts t_ringP t_ringQ t_baseY t_baseZ t_setY t_setZ t_wayY t_wayZ FU 0 t_quotientY t_quotientZ) fun x4_L141_21 x_t_quotientY_L141_21 x_t_quotientZ_L141_21 => (
            gd (ixb l3 300) (
             if 1000000 < x_t_quotientY_L141_21 then (
              some (3, l3, x4_L141_21, x_t_quotientY_L141_21, x_t_quotientZ_L141_21, (l3 + 1), (l3 + 1), 2, t_wayY, t_wayZ, (upd t_places l3.toNatClampNeg x4_L141_21))
             ) else (
              if x_t_quotientY_L141_21 < (-1000000) then (
               some (3, l3, x4_L141_21, x_t_quotientY_L141_21, x_t_quotientZ_L141_21, (l3 + 1), (l3 + 1), 2, t_wayY, t_wayZ, (upd t_places l3.toNatClampNeg x4_L141_21))
              ) else (
               if 1000000 < x_t_quotientZ_L141_21 then (
                some (3, l3, x4_L141_21, x_t_quotientY_L141_21, x_t_quotientZ_L141_21, (l3 + 1), (l3 + 1), 2, t_wayY, t_wayZ, (upd t_places l3.toNatClampNeg x4_L141_21))
               ) else (
                if (-1000000) ≤ x_t_quotientZ_L141_21 then (
                 gd (ixb (l3 + 1) 301) (
                  gd (ixb (l3 + 1) 301) (
                   f_X12_walk_L26 t_parts t_ringP t_ringQ t_baseY t_baseZ t_setY t_setZ n (l3 + 1) x_t_quotientY_L141_21 x_t_quotientZ_L141_21 (l3 + 1) (l3 + 1) 2 (upd t_wayY (l3 + 1).toNatClampNeg x_t_quotientY_L141_21.toInt32) (upd t_wayZ (l3 + 1).toNatClampNeg x_t_quotientZ_L141_21.toInt32) (upd t_places l3.toNatClampNeg x4_L141_21)
                  )
                 )
                ) else (
                 some (3, l3, x4_L141_21, x_t_quotientY_L141_21, x_t_quotientZ_L141_21, (l3 + 1), (l3 + 1), 2, t_wayY, t_wayZ, (upd t_places l3.toNatClampNeg x4_L141_21))
                )
               )
              )
             )
            )
           )
          )
         )
        )
       )
      )
     ) else (
      bnd2 (f_X12_walk_L58 l3 t_wayY t_wayZ FU 0) fun tg_L58_29 x4_L58_29 => (
       if tg_L58_29 = 0 then (
        some (1, l3, x4_L58_29, t_quotientY, t_quotientZ, t_placeMany, l3, t_how, t_wayY, t_wayZ, t_places)
       ) else (
        if l3 = 300 then (
         some (2, l3, 0, t_quotientY, t_quotientZ, t_placeMany, l3, 2, t_wayY, t_wayZ, t_places)
        ) else (
         bnd3 (f_X12_walk_L141 l3 t_parts t_ringP t_ringQ t_baseY t_baseZ t_setY t_setZ t_wayY t_wayZ FU 0 t_quotientY t_quotientZ) fun x4_L141_31 x_t_quotientY_L141_31 x_t_quotientZ_L141_31 => (
          gd (ixb l3 300) (
           if 1000000 < x_t_quotientY_L141_31 then (
            some (3, l3, x4_L141_31, x_t_quotientY_L141_31, x_t_quotientZ_L141_31, (l3 + 1), (l3 + 1), 2, t_wayY, t_wayZ, (upd t_places l3.toNatClampNeg x4_L141_31))
           ) else (
            if x_t_quotientY_L141_31 < (-1000000) then (
             some (3, l3, x4_L141_31, x_t_quotientY_L141_31, x_t_quotientZ_L141_31, (l3 + 1), (l3 + 1), 2, t_wayY, t_wayZ, (upd t_places l3.toNatClampNeg x4_L141_31))
            ) else (
             if 1000000 < x_t_quotientZ_L141_31 then (
              some (3, l3, x4_L141_31, x_t_quotientY_L141_31, x_t_quotientZ_L141_31, (l3 + 1), (l3 + 1), 2, t_wayY, t_wayZ, (upd t_places l3.toNatClampNeg x4_L141_31))
             ) else (
              if (-1000000) ≤ x_t_quotientZ_L141_31 then (
               gd (ixb (l3 + 1) 301) (
                gd (ixb (l3 + 1) 301) (
                 f_X12_walk_L26 t_parts t_ringP t_ringQ t_baseY t_baseZ t_setY t_setZ n (l3 + 1) x_t_quotientY_L141_31 x_t_quotientZ_L141_31 (l3 + 1) (l3 + 1) 2 (upd t_wayY (l3 + 1).toNatClampNeg x_t_quotientY_L141_31.toInt32) (upd t_wayZ (l3 + 1).toNatClampNeg x_t_quotientZ_L141_31.toInt32) (upd t_places l3.toNatClampNeg x4_L141_31)
                )
               )
              ) else (
               some (3, l3, x4_L141_31, x_t_quotientY_L141_31, x_t_quotientZ_L141_31, (l3 + 1), (l3 + 1), 2, t_wayY, t_wayZ, (upd t_places l3.toNatClampNeg x4_L141_31))
              )
             )
            )
           )
          )
         )
        )
       )
      )
     )
    ))
noncomputable def f_X12_walk (t_parts : Int32) (t_ringP : Int32) (t_ringQ : Int32) (t_baseY : Int32) (t_baseZ : Int32) (t_quotientY : Int64) (t_quotientZ : Int64) (t_placeMany : Int32) (t_met : Int32) (t_length0 : Int32) (t_how : Int32) (t_setY : Nat → Int32) (t_setZ : Nat → Int32) (t_wayY : Nat → Int32) (t_wayZ : Nat → Int32) (t_places : Nat → Int32) (l1 : Int32) (l2 : Int32) : Option (Int64 × Int64 × Int32 × Int32 × Int32 × Int32 × (Nat → Int32) × (Nat → Int32) × (Nat → Int32)) :=
  gd (ixb 0 301) (
   gd (ixb 0 301) (
    bnd11 (f_X12_walk_L26 t_parts t_ringP t_ringQ t_baseY t_baseZ t_setY t_setZ FU 0 t_quotientY t_quotientZ 0 t_met t_how (upd t_wayY (0 : Int32).toNatClampNeg l1) (upd t_wayZ (0 : Int32).toNatClampNeg l2) t_places) fun tg_L26_39 x3_L26_39 x4_L26_39 x_t_quotientY_L26_39 x_t_quotientZ_L26_39 x_t_placeMany_L26_39 x_t_met_L26_39 x_t_how_L26_39 x_t_wayY_L26_39 x_t_wayZ_L26_39 x_t_places_L26_39 => (
     if tg_L26_39 = 0 then (
      some (x_t_quotientY_L26_39, x_t_quotientZ_L26_39, x_t_placeMany_L26_39, x_t_met_L26_39, 0, 0, x_t_wayY_L26_39, x_t_wayZ_L26_39, x_t_places_L26_39)
     ) else (
      if tg_L26_39 = 1 then (
       some (x_t_quotientY_L26_39, x_t_quotientZ_L26_39, x_t_placeMany_L26_39, x4_L26_39, (x3_L26_39 - x4_L26_39), 1, x_t_wayY_L26_39, x_t_wayZ_L26_39, x_t_places_L26_39)
      ) else (
       if tg_L26_39 = 2 then (
        some (x_t_quotientY_L26_39, x_t_quotientZ_L26_39, x_t_placeMany_L26_39, x_t_met_L26_39, 0, x_t_how_L26_39, x_t_wayY_L26_39, x_t_wayZ_L26_39, x_t_places_L26_39)
       ) else (
        some (x_t_quotientY_L26_39, x_t_quotientZ_L26_39, x_t_placeMany_L26_39, x_t_met_L26_39, 0, x_t_how_L26_39, x_t_wayY_L26_39, x_t_wayZ_L26_39, x_t_places_L26_39)
       )
      )
     )
    )
   )
  )
set_option maxHeartbeats 4000000 in
set_option maxRecDepth 100000 in
theorem c_X12_walk (l : Launch) (D : va_G) (R : va_W) (h_t : Nat) (z_t_0 : Value) (z_t_1 : Value) (z_t_2 : Value) (z_t_3 : Value) (z_t_4 : Value) (z_t_5 : Value) (z_t_6 : Value) (z_t_7 : Value) (z_t_8 : Value) (z_t_9 : Value) (z_t_10 : Value) (z_t_11 : Value) (z_t_12 : Value) (z_t_13 : Value) (z_t_14 : Value) (z_t_15 : Value) (z_t_16 : Value) (z_t_17 : Value) (z_t_18 : Value) (z_t_19 : Value) (z_t_20 : Value) (z_t_21 : Value) (z_t_22 : Value) (z_t_23 : Value) (z_t_24 : Value) (z_t_25 : Value) (z_t_26 : Value) (t_parts : Int32) (t_ringP : Int32) (t_ringQ : Int32) (t_baseY : Int32) (t_baseZ : Int32) (z_t_32 : Value) (z_t_33 : Value) (z_t_36 : Value) (z_t_37 : Value) (t_quotientY : Int64) (t_quotientZ : Int64) (t_placeMany : Int32) (t_met : Int32) (t_length0 : Int32) (t_how : Int32) (z_t_47 : Value) (z_t_48 : Value) (z_t_49 : Value) (z_t_50 : Value) (z_t_51 : Value) (z_t_52 : Value) (z_t_53 : Value) (z_t_54 : Value) (z_t_55 : Value) (z_t_56 : Value) (z_t_57 : Value) (z_t_58 : Value) (z_t_59 : Value) (z_t_60 : Value) (h_t_setY : Nat) (k_t_setY : ClassId) (t_setY : Nat → Int32) (h_t_setZ : Nat) (k_t_setZ : ClassId) (t_setZ : Nat → Int32) (h_t_wayY : Nat) (k_t_wayY : ClassId) (t_wayY : Nat → Int32) (h_t_wayZ : Nat) (k_t_wayZ : ClassId) (t_wayZ : Nat → Int32) (h_t_places : Nat) (k_t_places : ClassId) (t_places : Nat → Int32) (l1 : Int32) (l2 : Int32) (o_t_quotientY : Int64) (o_t_quotientZ : Int64) (o_t_placeMany : Int32) (o_t_met : Int32) (o_t_length0 : Int32) (o_t_how : Int32) (o_t_wayY : Nat → Int32) (o_t_wayZ : Nat → Int32) (o_t_places : Nat → Int32)  (h : f_X12_walk t_parts t_ringP t_ringQ t_baseY t_baseZ t_quotientY t_quotientZ t_placeMany t_met t_length0 t_how t_setY t_setZ t_wayY t_wayZ t_places l1 l2 = some (o_t_quotientY, o_t_quotientZ, o_t_placeMany, o_t_met, o_t_length0, o_t_how, o_t_wayY, o_t_wayZ, o_t_places)) (sz : Nat) : Met l yX12_walk (WD yX12_walk cX12_walk 5 none) ({ frames := 1, cells := 0, slots := 0, locals := 34 }) (va_Pc [.ref h_t, .int l1, .int l2] (PcW D [(k_t_setY, .int), (k_t_setZ, .int), (k_t_wayY, .int), (k_t_wayZ, .int), (k_t_places, .int)] ((h_t, .inr (12, (z_t_0 :: z_t_1 :: z_t_2 :: z_t_3 :: z_t_4 :: z_t_5 :: z_t_6 :: z_t_7 :: z_t_8 :: z_t_9 :: z_t_10 :: z_t_11 :: z_t_12 :: z_t_13 :: z_t_14 :: z_t_15 :: z_t_16 :: z_t_17 :: z_t_18 :: z_t_19 :: z_t_20 :: z_t_21 :: z_t_22 :: z_t_23 :: z_t_24 :: z_t_25 :: z_t_26 :: .int t_parts :: .int t_ringP :: .int t_ringQ :: .int t_baseY :: .int t_baseZ :: z_t_32 :: z_t_33 :: .ref h_t_setY :: .ref h_t_setZ :: z_t_36 :: z_t_37 :: .long t_quotientY :: .long t_quotientZ :: .ref h_t_wayY :: .ref h_t_wayZ :: .ref h_t_places :: .int t_placeMany :: .int t_met :: .int t_length0 :: .int t_how :: z_t_47 :: z_t_48 :: z_t_49 :: z_t_50 :: z_t_51 :: z_t_52 :: z_t_53 :: z_t_54 :: z_t_55 :: z_t_56 :: z_t_57 :: z_t_58 :: z_t_59 :: z_t_60 :: []))) :: (h_t_setY, .inl (k_t_setY, 25, .inl t_setY)) :: (h_t_setZ, .inl (k_t_setZ, 25, .inl t_setZ)) :: (h_t_wayY, .inl (k_t_wayY, 301, .inl t_wayY)) :: (h_t_wayZ, .inl (k_t_wayZ, 301, .inl t_wayZ)) :: (h_t_places, .inl (k_t_places, 300, .inl t_places)) :: R) sz)) (QV D ((h_t, .inr (12, (z_t_0 :: z_t_1 :: z_t_2 :: z_t_3 :: z_t_4 :: z_t_5 :: z_t_6 :: z_t_7 :: z_t_8 :: z_t_9 :: z_t_10 :: z_t_11 :: z_t_12 :: z_t_13 :: z_t_14 :: z_t_15 :: z_t_16 :: z_t_17 :: z_t_18 :: z_t_19 :: z_t_20 :: z_t_21 :: z_t_22 :: z_t_23 :: z_t_24 :: z_t_25 :: z_t_26 :: .int t_parts :: .int t_ringP :: .int t_ringQ :: .int t_baseY :: .int t_baseZ :: z_t_32 :: z_t_33 :: .ref h_t_setY :: .ref h_t_setZ :: z_t_36 :: z_t_37 :: .long o_t_quotientY :: .long o_t_quotientZ :: .ref h_t_wayY :: .ref h_t_wayZ :: .ref h_t_places :: .int o_t_placeMany :: .int o_t_met :: .int o_t_length0 :: .int o_t_how :: z_t_47 :: z_t_48 :: z_t_49 :: z_t_50 :: z_t_51 :: z_t_52 :: z_t_53 :: z_t_54 :: z_t_55 :: z_t_56 :: z_t_57 :: z_t_58 :: z_t_59 :: z_t_60 :: []))) :: (h_t_setY, .inl (k_t_setY, 25, .inl t_setY)) :: (h_t_setZ, .inl (k_t_setZ, 25, .inl t_setZ)) :: (h_t_wayY, .inl (k_t_wayY, 301, .inl o_t_wayY)) :: (h_t_wayZ, .inl (k_t_wayZ, 301, .inl o_t_wayZ)) :: (h_t_places, .inl (k_t_places, 300, .inl o_t_places)) :: R) (va_A ((h_t, .inr (12, (z_t_0 :: z_t_1 :: z_t_2 :: z_t_3 :: z_t_4 :: z_t_5 :: z_t_6 :: z_t_7 :: z_t_8 :: z_t_9 :: z_t_10 :: z_t_11 :: z_t_12 :: z_t_13 :: z_t_14 :: z_t_15 :: z_t_16 :: z_t_17 :: z_t_18 :: z_t_19 :: z_t_20 :: z_t_21 :: z_t_22 :: z_t_23 :: z_t_24 :: z_t_25 :: z_t_26 :: .int t_parts :: .int t_ringP :: .int t_ringQ :: .int t_baseY :: .int t_baseZ :: z_t_32 :: z_t_33 :: .ref h_t_setY :: .ref h_t_setZ :: z_t_36 :: z_t_37 :: .long t_quotientY :: .long t_quotientZ :: .ref h_t_wayY :: .ref h_t_wayZ :: .ref h_t_places :: .int t_placeMany :: .int t_met :: .int t_length0 :: .int t_how :: z_t_47 :: z_t_48 :: z_t_49 :: z_t_50 :: z_t_51 :: z_t_52 :: z_t_53 :: z_t_54 :: z_t_55 :: z_t_56 :: z_t_57 :: z_t_58 :: z_t_59 :: z_t_60 :: []))) :: (h_t_setY, .inl (k_t_setY, 25, .inl t_setY)) :: (h_t_setZ, .inl (k_t_setZ, 25, .inl t_setZ)) :: (h_t_wayY, .inl (k_t_wayY, 301, .inl t_wayY)) :: (h_t_wayZ, .inl (k_t_wayZ, 301, .inl t_wayZ)) :: (h_t_places, .inl (k_t_places, 300, .inl t_places)) :: R) sz)) 0 0 (va_A ((h_t, .inr (12, (z_t_0 :: z_t_1 :: z_t_2 :: z_t_3 :: z_t_4 :: z_t_5 :: z_t_6 :: z_t_7 :: z_t_8 :: z_t_9 :: z_t_10 :: z_t_11 :: z_t_12 :: z_t_13 :: z_t_14 :: z_t_15 :: z_t_16 :: z_t_17 :: z_t_18 :: z_t_19 :: z_t_20 :: z_t_21 :: z_t_22 :: z_t_23 :: z_t_24 :: z_t_25 :: z_t_26 :: .int t_parts :: .int t_ringP :: .int t_ringQ :: .int t_baseY :: .int t_baseZ :: z_t_32 :: z_t_33 :: .ref h_t_setY :: .ref h_t_setZ :: z_t_36 :: z_t_37 :: .long t_quotientY :: .long t_quotientZ :: .ref h_t_wayY :: .ref h_t_wayZ :: .ref h_t_places :: .int t_placeMany :: .int t_met :: .int t_length0 :: .int t_how :: z_t_47 :: z_t_48 :: z_t_49 :: z_t_50 :: z_t_51 :: z_t_52 :: z_t_53 :: z_t_54 :: z_t_55 :: z_t_56 :: z_t_57 :: z_t_58 :: z_t_59 :: z_t_60 :: []))) :: (h_t_setY, .inl (k_t_setY, 25, .inl t_setY)) :: (h_t_setZ, .inl (k_t_setZ, 25, .inl t_setZ)) :: (h_t_wayY, .inl (k_t_wayY, 301, .inl t_wayY)) :: (h_t_wayZ, .inl (k_t_wayZ, 301, .inl t_wayZ)) :: (h_t_places, .inl (k_t_places, 300, .inl t_places)) :: R) sz) := by
  refine ct_start (QF := fun A => QV D ((h_t, .inr (12, (z_t_0 :: z_t_1 :: z_t_2 :: z_t_3 :: z_t_4 :: z_t_5 :: z_t_6 :: z_t_7 :: z_t_8 :: z_t_9 :: z_t_10 :: z_t_11 :: z_t_12 :: z_t_13 :: z_t_14 :: z_t_15 :: z_t_16 :: z_t_17 :: z_t_18 :: z_t_19 :: z_t_20 :: z_t_21 :: z_t_22 :: z_t_23 :: z_t_24 :: z_t_25 :: z_t_26 :: .int t_parts :: .int t_ringP :: .int t_ringQ :: .int t_baseY :: .int t_baseZ :: z_t_32 :: z_t_33 :: .ref h_t_setY :: .ref h_t_setZ :: z_t_36 :: z_t_37 :: .long o_t_quotientY :: .long o_t_quotientZ :: .ref h_t_wayY :: .ref h_t_wayZ :: .ref h_t_places :: .int o_t_placeMany :: .int o_t_met :: .int o_t_length0 :: .int o_t_how :: z_t_47 :: z_t_48 :: z_t_49 :: z_t_50 :: z_t_51 :: z_t_52 :: z_t_53 :: z_t_54 :: z_t_55 :: z_t_56 :: z_t_57 :: z_t_58 :: z_t_59 :: z_t_60 :: []))) :: (h_t_setY, .inl (k_t_setY, 25, .inl t_setY)) :: (h_t_setZ, .inl (k_t_setZ, 25, .inl t_setZ)) :: (h_t_wayY, .inl (k_t_wayY, 301, .inl o_t_wayY)) :: (h_t_wayZ, .inl (k_t_wayZ, 301, .inl o_t_wayZ)) :: (h_t_places, .inl (k_t_places, 300, .inl o_t_places)) :: R) A) ?_ ?_ ?_
  · decide +kernel
  · exact Nat.le_of_ble_eq_true rfl
  intro p e s m args below meth c A ls S hr hlk hnm hS hA hP hD hK hN hl
  have S : CallFix p m c cX12_walk 5 s args AL "DigitBenchModel" := S
  have hx := S.1
  have hb := S.2.1
  have hown := S.2.2.2.1
  have ha := S.2.2.2.2
  have hl : lv_has ls 5 [(0, .ref h_t), (1, .int l1), (2, .int l2)] := hl
  have L58 : ∀ (Q : State → Prop) (n : Nat) (l3 : Int32) (l4 : Int32) (t_quotientY : Int64) (t_quotientZ : Int64) (t_placeMany : Int32) (t_met : Int32) (t_length0 : Int32) (t_how : Int32) (t_wayY : Nat → Int32) (t_wayZ : Nat → Int32) (t_places : Nat → Int32) (tg : Nat) (x4 : Int32), f_X12_walk_L58 l3 t_wayY t_wayZ n l4 = some (tg, x4) → ∀ (H : Heap) (locs : List Loc) (ls : Array Slot), va_P D vwCl ((h_t, .inr (12, (z_t_0 :: z_t_1 :: z_t_2 :: z_t_3 :: z_t_4 :: z_t_5 :: z_t_6 :: z_t_7 :: z_t_8 :: z_t_9 :: z_t_10 :: z_t_11 :: z_t_12 :: z_t_13 :: z_t_14 :: z_t_15 :: z_t_16 :: z_t_17 :: z_t_18 :: z_t_19 :: z_t_20 :: z_t_21 :: z_t_22 :: z_t_23 :: z_t_24 :: z_t_25 :: z_t_26 :: .int t_parts :: .int t_ringP :: .int t_ringQ :: .int t_baseY :: .int t_baseZ :: z_t_32 :: z_t_33 :: .ref h_t_setY :: .ref h_t_setZ :: z_t_36 :: z_t_37 :: .long t_quotientY :: .long t_quotientZ :: .ref h_t_wayY :: .ref h_t_wayZ :: .ref h_t_places :: .int t_placeMany :: .int t_met :: .int t_length0 :: .int t_how :: z_t_47 :: z_t_48 :: z_t_49 :: z_t_50 :: z_t_51 :: z_t_52 :: z_t_53 :: z_t_54 :: z_t_55 :: z_t_56 :: z_t_57 :: z_t_58 :: z_t_59 :: z_t_60 :: []))) :: (h_t_setY, .inl (k_t_setY, 25, .inl t_setY)) :: (h_t_setZ, .inl (k_t_setZ, 25, .inl t_setZ)) :: (h_t_wayY, .inl (k_t_wayY, 301, .inl t_wayY)) :: (h_t_wayZ, .inl (k_t_wayZ, 301, .inl t_wayZ)) :: (h_t_places, .inl (k_t_places, 300, .inl t_places)) :: R) H → va_D A ((h_t, .inr (12, (z_t_0 :: z_t_1 :: z_t_2 :: z_t_3 :: z_t_4 :: z_t_5 :: z_t_6 :: z_t_7 :: z_t_8 :: z_t_9 :: z_t_10 :: z_t_11 :: z_t_12 :: z_t_13 :: z_t_14 :: z_t_15 :: z_t_16 :: z_t_17 :: z_t_18 :: z_t_19 :: z_t_20 :: z_t_21 :: z_t_22 :: z_t_23 :: z_t_24 :: z_t_25 :: z_t_26 :: .int t_parts :: .int t_ringP :: .int t_ringQ :: .int t_baseY :: .int t_baseZ :: z_t_32 :: z_t_33 :: .ref h_t_setY :: .ref h_t_setZ :: z_t_36 :: z_t_37 :: .long t_quotientY :: .long t_quotientZ :: .ref h_t_wayY :: .ref h_t_wayZ :: .ref h_t_places :: .int t_placeMany :: .int t_met :: .int t_length0 :: .int t_how :: z_t_47 :: z_t_48 :: z_t_49 :: z_t_50 :: z_t_51 :: z_t_52 :: z_t_53 :: z_t_54 :: z_t_55 :: z_t_56 :: z_t_57 :: z_t_58 :: z_t_59 :: z_t_60 :: []))) :: (h_t_setY, .inl (k_t_setY, 25, .inl t_setY)) :: (h_t_setZ, .inl (k_t_setZ, 25, .inl t_setZ)) :: (h_t_wayY, .inl (k_t_wayY, 301, .inl t_wayY)) :: (h_t_wayZ, .inl (k_t_wayZ, 301, .inl t_wayZ)) :: (h_t_places, .inl (k_t_places, 300, .inl t_places)) :: R) → va_S A s.heap H locs → lv_has ls 5 [(0, .ref h_t), (3, .int l3), (4, .int l4)] → (tg = 0 → ∀ (H : Heap) (locs : List Loc) (ls : Array Slot), va_P D vwCl ((h_t, .inr (12, (z_t_0 :: z_t_1 :: z_t_2 :: z_t_3 :: z_t_4 :: z_t_5 :: z_t_6 :: z_t_7 :: z_t_8 :: z_t_9 :: z_t_10 :: z_t_11 :: z_t_12 :: z_t_13 :: z_t_14 :: z_t_15 :: z_t_16 :: z_t_17 :: z_t_18 :: z_t_19 :: z_t_20 :: z_t_21 :: z_t_22 :: z_t_23 :: z_t_24 :: z_t_25 :: z_t_26 :: .int t_parts :: .int t_ringP :: .int t_ringQ :: .int t_baseY :: .int t_baseZ :: z_t_32 :: z_t_33 :: .ref h_t_setY :: .ref h_t_setZ :: z_t_36 :: z_t_37 :: .long t_quotientY :: .long t_quotientZ :: .ref h_t_wayY :: .ref h_t_wayZ :: .ref h_t_places :: .int t_placeMany :: .int t_met :: .int t_length0 :: .int t_how :: z_t_47 :: z_t_48 :: z_t_49 :: z_t_50 :: z_t_51 :: z_t_52 :: z_t_53 :: z_t_54 :: z_t_55 :: z_t_56 :: z_t_57 :: z_t_58 :: z_t_59 :: z_t_60 :: []))) :: (h_t_setY, .inl (k_t_setY, 25, .inl t_setY)) :: (h_t_setZ, .inl (k_t_setZ, 25, .inl t_setZ)) :: (h_t_wayY, .inl (k_t_wayY, 301, .inl t_wayY)) :: (h_t_wayZ, .inl (k_t_wayZ, 301, .inl t_wayZ)) :: (h_t_places, .inl (k_t_places, 300, .inl t_places)) :: R) H → va_D A ((h_t, .inr (12, (z_t_0 :: z_t_1 :: z_t_2 :: z_t_3 :: z_t_4 :: z_t_5 :: z_t_6 :: z_t_7 :: z_t_8 :: z_t_9 :: z_t_10 :: z_t_11 :: z_t_12 :: z_t_13 :: z_t_14 :: z_t_15 :: z_t_16 :: z_t_17 :: z_t_18 :: z_t_19 :: z_t_20 :: z_t_21 :: z_t_22 :: z_t_23 :: z_t_24 :: z_t_25 :: z_t_26 :: .int t_parts :: .int t_ringP :: .int t_ringQ :: .int t_baseY :: .int t_baseZ :: z_t_32 :: z_t_33 :: .ref h_t_setY :: .ref h_t_setZ :: z_t_36 :: z_t_37 :: .long t_quotientY :: .long t_quotientZ :: .ref h_t_wayY :: .ref h_t_wayZ :: .ref h_t_places :: .int t_placeMany :: .int t_met :: .int t_length0 :: .int t_how :: z_t_47 :: z_t_48 :: z_t_49 :: z_t_50 :: z_t_51 :: z_t_52 :: z_t_53 :: z_t_54 :: z_t_55 :: z_t_56 :: z_t_57 :: z_t_58 :: z_t_59 :: z_t_60 :: []))) :: (h_t_setY, .inl (k_t_setY, 25, .inl t_setY)) :: (h_t_setZ, .inl (k_t_setZ, 25, .inl t_setZ)) :: (h_t_wayY, .inl (k_t_wayY, 301, .inl t_wayY)) :: (h_t_wayZ, .inl (k_t_wayZ, 301, .inl t_wayZ)) :: (h_t_places, .inl (k_t_places, 300, .inl t_places)) :: R) → va_S A s.heap H locs → lv_has ls 5 [(0, .ref h_t), (3, .int l3), (4, .int x4)] → W p l e { frames := 1, cells := 0, slots := 0, locals := 34 } s m args below meth c H locs 0 0 Q (F0 m 99 ls [])) → (tg = 1 → ∀ (H : Heap) (locs : List Loc) (ls : Array Slot), va_P D vwCl ((h_t, .inr (12, (z_t_0 :: z_t_1 :: z_t_2 :: z_t_3 :: z_t_4 :: z_t_5 :: z_t_6 :: z_t_7 :: z_t_8 :: z_t_9 :: z_t_10 :: z_t_11 :: z_t_12 :: z_t_13 :: z_t_14 :: z_t_15 :: z_t_16 :: z_t_17 :: z_t_18 :: z_t_19 :: z_t_20 :: z_t_21 :: z_t_22 :: z_t_23 :: z_t_24 :: z_t_25 :: z_t_26 :: .int t_parts :: .int t_ringP :: .int t_ringQ :: .int t_baseY :: .int t_baseZ :: z_t_32 :: z_t_33 :: .ref h_t_setY :: .ref h_t_setZ :: z_t_36 :: z_t_37 :: .long t_quotientY :: .long t_quotientZ :: .ref h_t_wayY :: .ref h_t_wayZ :: .ref h_t_places :: .int t_placeMany :: .int t_met :: .int t_length0 :: .int t_how :: z_t_47 :: z_t_48 :: z_t_49 :: z_t_50 :: z_t_51 :: z_t_52 :: z_t_53 :: z_t_54 :: z_t_55 :: z_t_56 :: z_t_57 :: z_t_58 :: z_t_59 :: z_t_60 :: []))) :: (h_t_setY, .inl (k_t_setY, 25, .inl t_setY)) :: (h_t_setZ, .inl (k_t_setZ, 25, .inl t_setZ)) :: (h_t_wayY, .inl (k_t_wayY, 301, .inl t_wayY)) :: (h_t_wayZ, .inl (k_t_wayZ, 301, .inl t_wayZ)) :: (h_t_places, .inl (k_t_places, 300, .inl t_places)) :: R) H → va_D A ((h_t, .inr (12, (z_t_0 :: z_t_1 :: z_t_2 :: z_t_3 :: z_t_4 :: z_t_5 :: z_t_6 :: z_t_7 :: z_t_8 :: z_t_9 :: z_t_10 :: z_t_11 :: z_t_12 :: z_t_13 :: z_t_14 :: z_t_15 :: z_t_16 :: z_t_17 :: z_t_18 :: z_t_19 :: z_t_20 :: z_t_21 :: z_t_22 :: z_t_23 :: z_t_24 :: z_t_25 :: z_t_26 :: .int t_parts :: .int t_ringP :: .int t_ringQ :: .int t_baseY :: .int t_baseZ :: z_t_32 :: z_t_33 :: .ref h_t_setY :: .ref h_t_setZ :: z_t_36 :: z_t_37 :: .long t_quotientY :: .long t_quotientZ :: .ref h_t_wayY :: .ref h_t_wayZ :: .ref h_t_places :: .int t_placeMany :: .int t_met :: .int t_length0 :: .int t_how :: z_t_47 :: z_t_48 :: z_t_49 :: z_t_50 :: z_t_51 :: z_t_52 :: z_t_53 :: z_t_54 :: z_t_55 :: z_t_56 :: z_t_57 :: z_t_58 :: z_t_59 :: z_t_60 :: []))) :: (h_t_setY, .inl (k_t_setY, 25, .inl t_setY)) :: (h_t_setZ, .inl (k_t_setZ, 25, .inl t_setZ)) :: (h_t_wayY, .inl (k_t_wayY, 301, .inl t_wayY)) :: (h_t_wayZ, .inl (k_t_wayZ, 301, .inl t_wayZ)) :: (h_t_places, .inl (k_t_places, 300, .inl t_places)) :: R) → va_S A s.heap H locs → lv_has ls 5 [(0, .ref h_t), (3, .int l3)] → W p l e { frames := 1, cells := 0, slots := 0, locals := 34 } s m args below meth c H locs 0 0 Q (F0 m 125 ls [])) → W p l e { frames := 1, cells := 0, slots := 0, locals := 34 } s m args below meth c H locs 0 0 Q (F0 m 58 ls []) := by
    intro Q n
    induction n with
    | zero =>
      intro l3 l4 t_quotientY t_quotientZ t_placeMany t_met t_length0 t_how t_wayY t_wayZ t_places tg x4 h
      rw [f_X12_walk_L58] at h; cases h
    | succ n ih =>
      intro l3 l4 t_quotientY t_quotientZ t_placeMany t_met t_length0 t_how t_wayY t_wayZ t_places tg x4 h H locs ls hP hD hS hl kk0 kk1
      rw [f_X12_walk_L58] at h
      refine lv_iload hx hb dX12_walk_58 (lv_at hl 2 rfl) ?_
      refine lv_iload_n hx hb dX12_walk_60 rfl (lv_at hl 1 rfl) ?_
      refine lv_icmp_ge (tgt := 125) hx hb dX12_walk_61 (by decide) (fun c7 => ?_) (fun c7 => ?_)
      · have h := br_pos c7 h
        cases h
        exact kk1 rfl _ _ _ hP hD hS (lv_sub hl [0, 1] rfl)
      · have h := br_neg c7 h
        refine lv_aload_n hx hb dX12_walk_64 rfl (lv_at hl 0 rfl) ?_
        refine va_get (D := D) (ci := 12) (v := .ref h_t_wayY) (C := RX12) (T := TX12) (N := 61) hx hb ha ix12 hown hK hP 0 rfl rfl 40 (by decide) (ha _ q1000) (fun _ h9 => h9) rfl dX12_walk_65 ?_
        refine lv_iload hx hb dX12_walk_68 (lv_at hl 2 rfl) ?_
        obtain ⟨i8, h⟩ := ix_ok h
        refine va_iald hx hb hK hP 3 2 rfl rfl i8 dX12_walk_70 ?_
        refine lv_aload_n hx hb dX12_walk_71 rfl (lv_at hl 0 rfl) ?_
        refine va_get (D := D) (ci := 12) (v := .ref h_t_wayY) (C := RX12) (T := TX12) (N := 61) hx hb ha ix12 hown hK hP 0 rfl rfl 40 (by decide) (ha _ q1000) (fun _ h9 => h9) rfl dX12_walk_72 ?_
        refine lv_iload_n hx hb dX12_walk_75 rfl (lv_at hl 1 rfl) ?_
        obtain ⟨i9, h⟩ := ix_ok h
        refine va_iald hx hb hK hP 3 2 rfl rfl i9 dX12_walk_76 ?_
        refine lv_icmp_ne (tgt := 119) hx hb dX12_walk_77 (by decide) (fun c10 => ?_) (fun c10 => ?_)
        · have h := br_neg c10 h
          refine lv_iinc (v := (l4 + 1)) (lv' := [(4, .int (l4 + 1)), (0, .ref h_t), (3, .int l3)]) hx hb dX12_walk_119 hl (k := 2) rfl rfl (by decide) rfl (fun ls hl => ?_)
          refine lv_goto (tgt := 58) hx hb dX12_walk_122 (by decide) ?_
          exact ih l3 (l4 + 1) t_quotientY t_quotientZ t_placeMany t_met t_length0 t_how t_wayY t_wayZ t_places _ _ h _ _ _ hP hD hS (lv_sub hl [1, 2, 0] rfl) kk0 kk1
        · have h := br_pos c10 h
          refine lv_aload_n hx hb dX12_walk_80 rfl (lv_at hl 0 rfl) ?_
          refine va_get (D := D) (ci := 12) (v := .ref h_t_wayZ) (C := RX12) (T := TX12) (N := 61) hx hb ha ix12 hown hK hP 0 rfl rfl 41 (by decide) (ha _ q1001) (fun _ h9 => h9) rfl dX12_walk_81 ?_
          refine lv_iload hx hb dX12_walk_84 (lv_at hl 2 rfl) ?_
          obtain ⟨i11, h⟩ := ix_ok h
          refine va_iald hx hb hK hP 4 3 rfl rfl i11 dX12_walk_86 ?_
          refine lv_aload_n hx hb dX12_walk_87 rfl (lv_at hl 0 rfl) ?_
          refine va_get (D := D) (ci := 12) (v := .ref h_t_wayZ) (C := RX12) (T := TX12) (N := 61) hx hb ha ix12 hown hK hP 0 rfl rfl 41 (by decide) (ha _ q1001) (fun _ h9 => h9) rfl dX12_walk_88 ?_
          refine lv_iload_n hx hb dX12_walk_91 rfl (lv_at hl 1 rfl) ?_
          obtain ⟨i12, h⟩ := ix_ok h
          refine va_iald hx hb hK hP 4 3 rfl rfl i12 dX12_walk_92 ?_
          refine lv_icmp_eq (tgt := 99) hx hb dX12_walk_93 (by decide) (fun c13 => ?_) (fun c13 => ?_)
          · have h := br_pos c13 h
            cases h
            exact kk0 rfl _ _ _ hP hD hS (lv_sub hl [0, 1, 2] rfl)
          · have h := br_neg c13 h
            refine lv_goto (tgt := 119) hx hb dX12_walk_96 (by decide) ?_
            refine lv_iinc (v := (l4 + 1)) (lv' := [(4, .int (l4 + 1)), (0, .ref h_t), (3, .int l3)]) hx hb dX12_walk_119 hl (k := 2) rfl rfl (by decide) rfl (fun ls hl => ?_)
            refine lv_goto (tgt := 58) hx hb dX12_walk_122 (by decide) ?_
            exact ih l3 (l4 + 1) t_quotientY t_quotientZ t_placeMany t_met t_length0 t_how t_wayY t_wayZ t_places _ _ h _ _ _ hP hD hS (lv_sub hl [1, 2, 0] rfl) kk0 kk1
  have L141 : ∀ (Q : State → Prop) (n : Nat) (l3 : Int32) (l4 : Int32) (t_quotientY : Int64) (t_quotientZ : Int64) (t_placeMany : Int32) (t_met : Int32) (t_length0 : Int32) (t_how : Int32) (t_wayY : Nat → Int32) (t_wayZ : Nat → Int32) (t_places : Nat → Int32) (x4 : Int32) (x_t_quotientY : Int64) (x_t_quotientZ : Int64), f_X12_walk_L141 l3 t_parts t_ringP t_ringQ t_baseY t_baseZ t_setY t_setZ t_wayY t_wayZ n l4 t_quotientY t_quotientZ = some (x4, x_t_quotientY, x_t_quotientZ) → ∀ (H : Heap) (locs : List Loc) (ls : Array Slot), va_P D vwCl ((h_t, .inr (12, (z_t_0 :: z_t_1 :: z_t_2 :: z_t_3 :: z_t_4 :: z_t_5 :: z_t_6 :: z_t_7 :: z_t_8 :: z_t_9 :: z_t_10 :: z_t_11 :: z_t_12 :: z_t_13 :: z_t_14 :: z_t_15 :: z_t_16 :: z_t_17 :: z_t_18 :: z_t_19 :: z_t_20 :: z_t_21 :: z_t_22 :: z_t_23 :: z_t_24 :: z_t_25 :: z_t_26 :: .int t_parts :: .int t_ringP :: .int t_ringQ :: .int t_baseY :: .int t_baseZ :: z_t_32 :: z_t_33 :: .ref h_t_setY :: .ref h_t_setZ :: z_t_36 :: z_t_37 :: .long t_quotientY :: .long t_quotientZ :: .ref h_t_wayY :: .ref h_t_wayZ :: .ref h_t_places :: .int t_placeMany :: .int t_met :: .int t_length0 :: .int t_how :: z_t_47 :: z_t_48 :: z_t_49 :: z_t_50 :: z_t_51 :: z_t_52 :: z_t_53 :: z_t_54 :: z_t_55 :: z_t_56 :: z_t_57 :: z_t_58 :: z_t_59 :: z_t_60 :: []))) :: (h_t_setY, .inl (k_t_setY, 25, .inl t_setY)) :: (h_t_setZ, .inl (k_t_setZ, 25, .inl t_setZ)) :: (h_t_wayY, .inl (k_t_wayY, 301, .inl t_wayY)) :: (h_t_wayZ, .inl (k_t_wayZ, 301, .inl t_wayZ)) :: (h_t_places, .inl (k_t_places, 300, .inl t_places)) :: R) H → va_D A ((h_t, .inr (12, (z_t_0 :: z_t_1 :: z_t_2 :: z_t_3 :: z_t_4 :: z_t_5 :: z_t_6 :: z_t_7 :: z_t_8 :: z_t_9 :: z_t_10 :: z_t_11 :: z_t_12 :: z_t_13 :: z_t_14 :: z_t_15 :: z_t_16 :: z_t_17 :: z_t_18 :: z_t_19 :: z_t_20 :: z_t_21 :: z_t_22 :: z_t_23 :: z_t_24 :: z_t_25 :: z_t_26 :: .int t_parts :: .int t_ringP :: .int t_ringQ :: .int t_baseY :: .int t_baseZ :: z_t_32 :: z_t_33 :: .ref h_t_setY :: .ref h_t_setZ :: z_t_36 :: z_t_37 :: .long t_quotientY :: .long t_quotientZ :: .ref h_t_wayY :: .ref h_t_wayZ :: .ref h_t_places :: .int t_placeMany :: .int t_met :: .int t_length0 :: .int t_how :: z_t_47 :: z_t_48 :: z_t_49 :: z_t_50 :: z_t_51 :: z_t_52 :: z_t_53 :: z_t_54 :: z_t_55 :: z_t_56 :: z_t_57 :: z_t_58 :: z_t_59 :: z_t_60 :: []))) :: (h_t_setY, .inl (k_t_setY, 25, .inl t_setY)) :: (h_t_setZ, .inl (k_t_setZ, 25, .inl t_setZ)) :: (h_t_wayY, .inl (k_t_wayY, 301, .inl t_wayY)) :: (h_t_wayZ, .inl (k_t_wayZ, 301, .inl t_wayZ)) :: (h_t_places, .inl (k_t_places, 300, .inl t_places)) :: R) → va_S A s.heap H locs → lv_has ls 5 [(0, .ref h_t), (3, .int l3), (4, .int l4)] → (∀ (H : Heap) (locs : List Loc) (ls : Array Slot), va_P D vwCl ((h_t, .inr (12, (z_t_0 :: z_t_1 :: z_t_2 :: z_t_3 :: z_t_4 :: z_t_5 :: z_t_6 :: z_t_7 :: z_t_8 :: z_t_9 :: z_t_10 :: z_t_11 :: z_t_12 :: z_t_13 :: z_t_14 :: z_t_15 :: z_t_16 :: z_t_17 :: z_t_18 :: z_t_19 :: z_t_20 :: z_t_21 :: z_t_22 :: z_t_23 :: z_t_24 :: z_t_25 :: z_t_26 :: .int t_parts :: .int t_ringP :: .int t_ringQ :: .int t_baseY :: .int t_baseZ :: z_t_32 :: z_t_33 :: .ref h_t_setY :: .ref h_t_setZ :: z_t_36 :: z_t_37 :: .long x_t_quotientY :: .long x_t_quotientZ :: .ref h_t_wayY :: .ref h_t_wayZ :: .ref h_t_places :: .int t_placeMany :: .int t_met :: .int t_length0 :: .int t_how :: z_t_47 :: z_t_48 :: z_t_49 :: z_t_50 :: z_t_51 :: z_t_52 :: z_t_53 :: z_t_54 :: z_t_55 :: z_t_56 :: z_t_57 :: z_t_58 :: z_t_59 :: z_t_60 :: []))) :: (h_t_setY, .inl (k_t_setY, 25, .inl t_setY)) :: (h_t_setZ, .inl (k_t_setZ, 25, .inl t_setZ)) :: (h_t_wayY, .inl (k_t_wayY, 301, .inl t_wayY)) :: (h_t_wayZ, .inl (k_t_wayZ, 301, .inl t_wayZ)) :: (h_t_places, .inl (k_t_places, 300, .inl t_places)) :: R) H → va_D A ((h_t, .inr (12, (z_t_0 :: z_t_1 :: z_t_2 :: z_t_3 :: z_t_4 :: z_t_5 :: z_t_6 :: z_t_7 :: z_t_8 :: z_t_9 :: z_t_10 :: z_t_11 :: z_t_12 :: z_t_13 :: z_t_14 :: z_t_15 :: z_t_16 :: z_t_17 :: z_t_18 :: z_t_19 :: z_t_20 :: z_t_21 :: z_t_22 :: z_t_23 :: z_t_24 :: z_t_25 :: z_t_26 :: .int t_parts :: .int t_ringP :: .int t_ringQ :: .int t_baseY :: .int t_baseZ :: z_t_32 :: z_t_33 :: .ref h_t_setY :: .ref h_t_setZ :: z_t_36 :: z_t_37 :: .long x_t_quotientY :: .long x_t_quotientZ :: .ref h_t_wayY :: .ref h_t_wayZ :: .ref h_t_places :: .int t_placeMany :: .int t_met :: .int t_length0 :: .int t_how :: z_t_47 :: z_t_48 :: z_t_49 :: z_t_50 :: z_t_51 :: z_t_52 :: z_t_53 :: z_t_54 :: z_t_55 :: z_t_56 :: z_t_57 :: z_t_58 :: z_t_59 :: z_t_60 :: []))) :: (h_t_setY, .inl (k_t_setY, 25, .inl t_setY)) :: (h_t_setZ, .inl (k_t_setZ, 25, .inl t_setZ)) :: (h_t_wayY, .inl (k_t_wayY, 301, .inl t_wayY)) :: (h_t_wayZ, .inl (k_t_wayZ, 301, .inl t_wayZ)) :: (h_t_places, .inl (k_t_places, 300, .inl t_places)) :: R) → va_S A s.heap H locs → lv_has ls 5 [(0, .ref h_t), (3, .int l3), (4, .int x4)] → W p l e { frames := 1, cells := 0, slots := 0, locals := 34 } s m args below meth c H locs 0 0 Q (F0 m 186 ls [])) → W p l e { frames := 1, cells := 0, slots := 0, locals := 34 } s m args below meth c H locs 0 0 Q (F0 m 141 ls []) := by
    intro Q n
    induction n with
    | zero =>
      intro l3 l4 t_quotientY t_quotientZ t_placeMany t_met t_length0 t_how t_wayY t_wayZ t_places x4 x_t_quotientY x_t_quotientZ h
      rw [f_X12_walk_L141] at h; cases h
    | succ n ih =>
      intro l3 l4 t_quotientY t_quotientZ t_placeMany t_met t_length0 t_how t_wayY t_wayZ t_places x4 x_t_quotientY x_t_quotientZ h H locs ls hP hD hS hl kk0
      rw [f_X12_walk_L141] at h
      refine lv_aload_n hx hb dX12_walk_141 rfl (lv_at hl 0 rfl) ?_
      refine lv_aload_n hx hb dX12_walk_142 rfl (lv_at hl 0 rfl) ?_
      refine va_get (D := D) (ci := 12) (v := .ref h_t_wayY) (C := RX12) (T := TX12) (N := 61) hx hb ha ix12 hown hK hP 0 rfl rfl 40 (by decide) (ha _ q1000) (fun _ h9 => h9) rfl dX12_walk_143 ?_
      refine lv_iload_n hx hb dX12_walk_146 rfl (lv_at hl 1 rfl) ?_
      obtain ⟨i16, h⟩ := ix_ok h
      refine va_iald hx hb hK hP 3 2 rfl rfl i16 dX12_walk_147 ?_
      refine lv_i2l (v := (t_wayY l3.toNatClampNeg).toInt64) hx hb dX12_walk_148 rfl ?_
      refine lv_aload_n hx hb dX12_walk_149 rfl (lv_at hl 0 rfl) ?_
      refine va_get (D := D) (ci := 12) (v := .ref h_t_setY) (C := RX12) (T := TX12) (N := 61) hx hb ha ix12 hown hK hP 0 rfl rfl 34 (by decide) (ha _ q994) (fun _ h9 => h9) rfl dX12_walk_150 ?_
      refine lv_iload hx hb dX12_walk_153 (lv_at hl 2 rfl) ?_
      obtain ⟨i17, h⟩ := ix_ok h
      refine va_iald hx hb hK hP 1 0 rfl rfl i17 dX12_walk_155 ?_
      refine lv_i2l (v := (t_setY l4.toNatClampNeg).toInt64) hx hb dX12_walk_156 rfl ?_
      refine lv_lsub hx hb dX12_walk_157 ?_
      refine lv_aload_n hx hb dX12_walk_158 rfl (lv_at hl 0 rfl) ?_
      refine va_get (D := D) (ci := 12) (v := .ref h_t_wayZ) (C := RX12) (T := TX12) (N := 61) hx hb ha ix12 hown hK hP 0 rfl rfl 41 (by decide) (ha _ q1001) (fun _ h9 => h9) rfl dX12_walk_159 ?_
      refine lv_iload_n hx hb dX12_walk_162 rfl (lv_at hl 1 rfl) ?_
      obtain ⟨i18, h⟩ := ix_ok h
      refine va_iald hx hb hK hP 4 3 rfl rfl i18 dX12_walk_163 ?_
      refine lv_i2l (v := (t_wayZ l3.toNatClampNeg).toInt64) hx hb dX12_walk_164 rfl ?_
      refine lv_aload_n hx hb dX12_walk_165 rfl (lv_at hl 0 rfl) ?_
      refine va_get (D := D) (ci := 12) (v := .ref h_t_setZ) (C := RX12) (T := TX12) (N := 61) hx hb ha ix12 hown hK hP 0 rfl rfl 35 (by decide) (ha _ q995) (fun _ h9 => h9) rfl dX12_walk_166 ?_
      refine lv_iload hx hb dX12_walk_169 (lv_at hl 2 rfl) ?_
      obtain ⟨i19, h⟩ := ix_ok h
      refine va_iald hx hb hK hP 2 1 rfl rfl i19 dX12_walk_171 ?_
      refine lv_i2l (v := (t_setZ l4.toNatClampNeg).toInt64) hx hb dX12_walk_172 rfl ?_
      refine lv_lsub hx hb dX12_walk_173 ?_
      obtain ⟨r_c174_19, t_quotientY_c174_19, t_quotientZ_c174_19, e_c174_19, h⟩ := bnd3_ok h
      refine cl_z (rn_v (ci := 12) (As := [.long ((t_wayY l3.toNatClampNeg).toInt64 - (t_setY l4.toNatClampNeg).toInt64), .long ((t_wayZ l3.toNatClampNeg).toInt64 - (t_setZ l4.toNatClampNeg).toInt64)]) (rest := []) S (c_X12_divides l D ((h_t_setY, .inl (k_t_setY, 25, .inl t_setY)) :: (h_t_setZ, .inl (k_t_setZ, 25, .inl t_setZ)) :: (h_t_wayY, .inl (k_t_wayY, 301, .inl t_wayY)) :: (h_t_wayZ, .inl (k_t_wayZ, 301, .inl t_wayZ)) :: (h_t_places, .inl (k_t_places, 300, .inl t_places)) :: R) h_t (z_t_0) (z_t_1) (z_t_2) (z_t_3) (z_t_4) (z_t_5) (z_t_6) (z_t_7) (z_t_8) (z_t_9) (z_t_10) (z_t_11) (z_t_12) (z_t_13) (z_t_14) (z_t_15) (z_t_16) (z_t_17) (z_t_18) (z_t_19) (z_t_20) (z_t_21) (z_t_22) (z_t_23) (z_t_24) (z_t_25) (z_t_26) t_parts t_ringP t_ringQ t_baseY t_baseZ (z_t_32) (z_t_33) (.ref h_t_setY) (.ref h_t_setZ) (z_t_36) (z_t_37) t_quotientY t_quotientZ (.ref h_t_wayY) (.ref h_t_wayZ) (.ref h_t_places) (.int t_placeMany) (.int t_met) (.int t_length0) (.int t_how) (z_t_47) (z_t_48) (z_t_49) (z_t_50) (z_t_51) (z_t_52) (z_t_53) (z_t_54) (z_t_55) (z_t_56) (z_t_57) (z_t_58) (z_t_59) (z_t_60) ((t_wayY l3.toNatClampNeg).toInt64 - (t_setY l4.toNatClampNeg).toInt64) ((t_wayZ l3.toNatClampNeg).toInt64 - (t_setZ l4.toNatClampNeg).toInt64) r_c174_19 t_quotientY_c174_19 t_quotientZ_c174_19 e_c174_19 _) q1308 q1310 q43 q61 q1311 nd_X12_divides ⟨Nat.le_of_ble_eq_true rfl, Nat.le_of_ble_eq_true rfl⟩ rfl rfl hP hD (hK.sub (tys' := []) [] rfl) hN rfl ⟨0, _, rfl⟩ rfl hl.1 rfl (Nat.le_of_ble_eq_true rfl) dX12_walk_174 ⟨Nat.le_of_ble_eq_true rfl, Nat.le_of_ble_eq_true rfl⟩) hS hA hD (fun H locs hP hD hS z_c174_19 => ?_)
      have hP : va_P D vwCl ((h_t, .inr (12, (z_t_0 :: z_t_1 :: z_t_2 :: z_t_3 :: z_t_4 :: z_t_5 :: z_t_6 :: z_t_7 :: z_t_8 :: z_t_9 :: z_t_10 :: z_t_11 :: z_t_12 :: z_t_13 :: z_t_14 :: z_t_15 :: z_t_16 :: z_t_17 :: z_t_18 :: z_t_19 :: z_t_20 :: z_t_21 :: z_t_22 :: z_t_23 :: z_t_24 :: z_t_25 :: z_t_26 :: .int t_parts :: .int t_ringP :: .int t_ringQ :: .int t_baseY :: .int t_baseZ :: z_t_32 :: z_t_33 :: .ref h_t_setY :: .ref h_t_setZ :: z_t_36 :: z_t_37 :: .long t_quotientY_c174_19 :: .long t_quotientZ_c174_19 :: .ref h_t_wayY :: .ref h_t_wayZ :: .ref h_t_places :: .int t_placeMany :: .int t_met :: .int t_length0 :: .int t_how :: z_t_47 :: z_t_48 :: z_t_49 :: z_t_50 :: z_t_51 :: z_t_52 :: z_t_53 :: z_t_54 :: z_t_55 :: z_t_56 :: z_t_57 :: z_t_58 :: z_t_59 :: z_t_60 :: []))) :: (h_t_setY, .inl (k_t_setY, 25, .inl t_setY)) :: (h_t_setZ, .inl (k_t_setZ, 25, .inl t_setZ)) :: (h_t_wayY, .inl (k_t_wayY, 301, .inl t_wayY)) :: (h_t_wayZ, .inl (k_t_wayZ, 301, .inl t_wayZ)) :: (h_t_places, .inl (k_t_places, 300, .inl t_places)) :: R) H := hP
      have hD : va_D A ((h_t, .inr (12, (z_t_0 :: z_t_1 :: z_t_2 :: z_t_3 :: z_t_4 :: z_t_5 :: z_t_6 :: z_t_7 :: z_t_8 :: z_t_9 :: z_t_10 :: z_t_11 :: z_t_12 :: z_t_13 :: z_t_14 :: z_t_15 :: z_t_16 :: z_t_17 :: z_t_18 :: z_t_19 :: z_t_20 :: z_t_21 :: z_t_22 :: z_t_23 :: z_t_24 :: z_t_25 :: z_t_26 :: .int t_parts :: .int t_ringP :: .int t_ringQ :: .int t_baseY :: .int t_baseZ :: z_t_32 :: z_t_33 :: .ref h_t_setY :: .ref h_t_setZ :: z_t_36 :: z_t_37 :: .long t_quotientY_c174_19 :: .long t_quotientZ_c174_19 :: .ref h_t_wayY :: .ref h_t_wayZ :: .ref h_t_places :: .int t_placeMany :: .int t_met :: .int t_length0 :: .int t_how :: z_t_47 :: z_t_48 :: z_t_49 :: z_t_50 :: z_t_51 :: z_t_52 :: z_t_53 :: z_t_54 :: z_t_55 :: z_t_56 :: z_t_57 :: z_t_58 :: z_t_59 :: z_t_60 :: []))) :: (h_t_setY, .inl (k_t_setY, 25, .inl t_setY)) :: (h_t_setZ, .inl (k_t_setZ, 25, .inl t_setZ)) :: (h_t_wayY, .inl (k_t_wayY, 301, .inl t_wayY)) :: (h_t_wayZ, .inl (k_t_wayZ, 301, .inl t_wayZ)) :: (h_t_places, .inl (k_t_places, 300, .inl t_places)) :: R) := hD
      refine lv_if_ne (tgt := 186) hx hb dX12_walk_177 (by decide) (fun c21 => ?_) (fun c21 => ?_)
      · have h := br_neg c21 h
        cases h
        exact kk0 _ _ _ hP hD hS (lv_sub hl [0, 1, 2] rfl)
      · have h := br_pos c21 h
        refine lv_iinc (v := (l4 + 1)) (lv' := [(4, .int (l4 + 1)), (0, .ref h_t), (3, .int l3)]) hx hb dX12_walk_180 hl (k := 2) rfl rfl (by decide) rfl (fun ls hl => ?_)
        refine lv_goto (tgt := 141) hx hb dX12_walk_183 (by decide) ?_
        exact ih l3 (l4 + 1) t_quotientY_c174_19 t_quotientZ_c174_19 t_placeMany t_met t_length0 t_how t_wayY t_wayZ t_places _ _ _ h _ _ _ hP hD hS (lv_sub hl [1, 2, 0] rfl) kk0
  have L26 : ∀ (Q : State → Prop) (n : Nat) (l3 : Int32) (t_quotientY : Int64) (t_quotientZ : Int64) (t_placeMany : Int32) (t_met : Int32) (t_length0 : Int32) (t_how : Int32) (t_wayY : Nat → Int32) (t_wayZ : Nat → Int32) (t_places : Nat → Int32) (tg : Nat) (x3 : Int32) (x4 : Int32) (x_t_quotientY : Int64) (x_t_quotientZ : Int64) (x_t_placeMany : Int32) (x_t_met : Int32) (x_t_how : Int32) (x_t_wayY : Nat → Int32) (x_t_wayZ : Nat → Int32) (x_t_places : Nat → Int32), f_X12_walk_L26 t_parts t_ringP t_ringQ t_baseY t_baseZ t_setY t_setZ n l3 t_quotientY t_quotientZ t_placeMany t_met t_how t_wayY t_wayZ t_places = some (tg, x3, x4, x_t_quotientY, x_t_quotientZ, x_t_placeMany, x_t_met, x_t_how, x_t_wayY, x_t_wayZ, x_t_places) → ∀ (H : Heap) (locs : List Loc) (ls : Array Slot), va_P D vwCl ((h_t, .inr (12, (z_t_0 :: z_t_1 :: z_t_2 :: z_t_3 :: z_t_4 :: z_t_5 :: z_t_6 :: z_t_7 :: z_t_8 :: z_t_9 :: z_t_10 :: z_t_11 :: z_t_12 :: z_t_13 :: z_t_14 :: z_t_15 :: z_t_16 :: z_t_17 :: z_t_18 :: z_t_19 :: z_t_20 :: z_t_21 :: z_t_22 :: z_t_23 :: z_t_24 :: z_t_25 :: z_t_26 :: .int t_parts :: .int t_ringP :: .int t_ringQ :: .int t_baseY :: .int t_baseZ :: z_t_32 :: z_t_33 :: .ref h_t_setY :: .ref h_t_setZ :: z_t_36 :: z_t_37 :: .long t_quotientY :: .long t_quotientZ :: .ref h_t_wayY :: .ref h_t_wayZ :: .ref h_t_places :: .int t_placeMany :: .int t_met :: .int t_length0 :: .int t_how :: z_t_47 :: z_t_48 :: z_t_49 :: z_t_50 :: z_t_51 :: z_t_52 :: z_t_53 :: z_t_54 :: z_t_55 :: z_t_56 :: z_t_57 :: z_t_58 :: z_t_59 :: z_t_60 :: []))) :: (h_t_setY, .inl (k_t_setY, 25, .inl t_setY)) :: (h_t_setZ, .inl (k_t_setZ, 25, .inl t_setZ)) :: (h_t_wayY, .inl (k_t_wayY, 301, .inl t_wayY)) :: (h_t_wayZ, .inl (k_t_wayZ, 301, .inl t_wayZ)) :: (h_t_places, .inl (k_t_places, 300, .inl t_places)) :: R) H → va_D A ((h_t, .inr (12, (z_t_0 :: z_t_1 :: z_t_2 :: z_t_3 :: z_t_4 :: z_t_5 :: z_t_6 :: z_t_7 :: z_t_8 :: z_t_9 :: z_t_10 :: z_t_11 :: z_t_12 :: z_t_13 :: z_t_14 :: z_t_15 :: z_t_16 :: z_t_17 :: z_t_18 :: z_t_19 :: z_t_20 :: z_t_21 :: z_t_22 :: z_t_23 :: z_t_24 :: z_t_25 :: z_t_26 :: .int t_parts :: .int t_ringP :: .int t_ringQ :: .int t_baseY :: .int t_baseZ :: z_t_32 :: z_t_33 :: .ref h_t_setY :: .ref h_t_setZ :: z_t_36 :: z_t_37 :: .long t_quotientY :: .long t_quotientZ :: .ref h_t_wayY :: .ref h_t_wayZ :: .ref h_t_places :: .int t_placeMany :: .int t_met :: .int t_length0 :: .int t_how :: z_t_47 :: z_t_48 :: z_t_49 :: z_t_50 :: z_t_51 :: z_t_52 :: z_t_53 :: z_t_54 :: z_t_55 :: z_t_56 :: z_t_57 :: z_t_58 :: z_t_59 :: z_t_60 :: []))) :: (h_t_setY, .inl (k_t_setY, 25, .inl t_setY)) :: (h_t_setZ, .inl (k_t_setZ, 25, .inl t_setZ)) :: (h_t_wayY, .inl (k_t_wayY, 301, .inl t_wayY)) :: (h_t_wayZ, .inl (k_t_wayZ, 301, .inl t_wayZ)) :: (h_t_places, .inl (k_t_places, 300, .inl t_places)) :: R) → va_S A s.heap H locs → lv_has ls 5 [(0, .ref h_t), (3, .int l3)] → (tg = 0 → ∀ (H : Heap) (locs : List Loc) (ls : Array Slot), va_P D vwCl ((h_t, .inr (12, (z_t_0 :: z_t_1 :: z_t_2 :: z_t_3 :: z_t_4 :: z_t_5 :: z_t_6 :: z_t_7 :: z_t_8 :: z_t_9 :: z_t_10 :: z_t_11 :: z_t_12 :: z_t_13 :: z_t_14 :: z_t_15 :: z_t_16 :: z_t_17 :: z_t_18 :: z_t_19 :: z_t_20 :: z_t_21 :: z_t_22 :: z_t_23 :: z_t_24 :: z_t_25 :: z_t_26 :: .int t_parts :: .int t_ringP :: .int t_ringQ :: .int t_baseY :: .int t_baseZ :: z_t_32 :: z_t_33 :: .ref h_t_setY :: .ref h_t_setZ :: z_t_36 :: z_t_37 :: .long x_t_quotientY :: .long x_t_quotientZ :: .ref h_t_wayY :: .ref h_t_wayZ :: .ref h_t_places :: .int x_t_placeMany :: .int x_t_met :: .int t_length0 :: .int x_t_how :: z_t_47 :: z_t_48 :: z_t_49 :: z_t_50 :: z_t_51 :: z_t_52 :: z_t_53 :: z_t_54 :: z_t_55 :: z_t_56 :: z_t_57 :: z_t_58 :: z_t_59 :: z_t_60 :: []))) :: (h_t_setY, .inl (k_t_setY, 25, .inl t_setY)) :: (h_t_setZ, .inl (k_t_setZ, 25, .inl t_setZ)) :: (h_t_wayY, .inl (k_t_wayY, 301, .inl x_t_wayY)) :: (h_t_wayZ, .inl (k_t_wayZ, 301, .inl x_t_wayZ)) :: (h_t_places, .inl (k_t_places, 300, .inl x_t_places)) :: R) H → va_D A ((h_t, .inr (12, (z_t_0 :: z_t_1 :: z_t_2 :: z_t_3 :: z_t_4 :: z_t_5 :: z_t_6 :: z_t_7 :: z_t_8 :: z_t_9 :: z_t_10 :: z_t_11 :: z_t_12 :: z_t_13 :: z_t_14 :: z_t_15 :: z_t_16 :: z_t_17 :: z_t_18 :: z_t_19 :: z_t_20 :: z_t_21 :: z_t_22 :: z_t_23 :: z_t_24 :: z_t_25 :: z_t_26 :: .int t_parts :: .int t_ringP :: .int t_ringQ :: .int t_baseY :: .int t_baseZ :: z_t_32 :: z_t_33 :: .ref h_t_setY :: .ref h_t_setZ :: z_t_36 :: z_t_37 :: .long x_t_quotientY :: .long x_t_quotientZ :: .ref h_t_wayY :: .ref h_t_wayZ :: .ref h_t_places :: .int x_t_placeMany :: .int x_t_met :: .int t_length0 :: .int x_t_how :: z_t_47 :: z_t_48 :: z_t_49 :: z_t_50 :: z_t_51 :: z_t_52 :: z_t_53 :: z_t_54 :: z_t_55 :: z_t_56 :: z_t_57 :: z_t_58 :: z_t_59 :: z_t_60 :: []))) :: (h_t_setY, .inl (k_t_setY, 25, .inl t_setY)) :: (h_t_setZ, .inl (k_t_setZ, 25, .inl t_setZ)) :: (h_t_wayY, .inl (k_t_wayY, 301, .inl x_t_wayY)) :: (h_t_wayZ, .inl (k_t_wayZ, 301, .inl x_t_wayZ)) :: (h_t_places, .inl (k_t_places, 300, .inl x_t_places)) :: R) → va_S A s.heap H locs → lv_has ls 5 [(0, .ref h_t)] → W p l e { frames := 1, cells := 0, slots := 0, locals := 34 } s m args below meth c H locs 0 0 Q (F0 m 49 ls [])) → (tg = 1 → ∀ (H : Heap) (locs : List Loc) (ls : Array Slot), va_P D vwCl ((h_t, .inr (12, (z_t_0 :: z_t_1 :: z_t_2 :: z_t_3 :: z_t_4 :: z_t_5 :: z_t_6 :: z_t_7 :: z_t_8 :: z_t_9 :: z_t_10 :: z_t_11 :: z_t_12 :: z_t_13 :: z_t_14 :: z_t_15 :: z_t_16 :: z_t_17 :: z_t_18 :: z_t_19 :: z_t_20 :: z_t_21 :: z_t_22 :: z_t_23 :: z_t_24 :: z_t_25 :: z_t_26 :: .int t_parts :: .int t_ringP :: .int t_ringQ :: .int t_baseY :: .int t_baseZ :: z_t_32 :: z_t_33 :: .ref h_t_setY :: .ref h_t_setZ :: z_t_36 :: z_t_37 :: .long x_t_quotientY :: .long x_t_quotientZ :: .ref h_t_wayY :: .ref h_t_wayZ :: .ref h_t_places :: .int x_t_placeMany :: .int x_t_met :: .int t_length0 :: .int x_t_how :: z_t_47 :: z_t_48 :: z_t_49 :: z_t_50 :: z_t_51 :: z_t_52 :: z_t_53 :: z_t_54 :: z_t_55 :: z_t_56 :: z_t_57 :: z_t_58 :: z_t_59 :: z_t_60 :: []))) :: (h_t_setY, .inl (k_t_setY, 25, .inl t_setY)) :: (h_t_setZ, .inl (k_t_setZ, 25, .inl t_setZ)) :: (h_t_wayY, .inl (k_t_wayY, 301, .inl x_t_wayY)) :: (h_t_wayZ, .inl (k_t_wayZ, 301, .inl x_t_wayZ)) :: (h_t_places, .inl (k_t_places, 300, .inl x_t_places)) :: R) H → va_D A ((h_t, .inr (12, (z_t_0 :: z_t_1 :: z_t_2 :: z_t_3 :: z_t_4 :: z_t_5 :: z_t_6 :: z_t_7 :: z_t_8 :: z_t_9 :: z_t_10 :: z_t_11 :: z_t_12 :: z_t_13 :: z_t_14 :: z_t_15 :: z_t_16 :: z_t_17 :: z_t_18 :: z_t_19 :: z_t_20 :: z_t_21 :: z_t_22 :: z_t_23 :: z_t_24 :: z_t_25 :: z_t_26 :: .int t_parts :: .int t_ringP :: .int t_ringQ :: .int t_baseY :: .int t_baseZ :: z_t_32 :: z_t_33 :: .ref h_t_setY :: .ref h_t_setZ :: z_t_36 :: z_t_37 :: .long x_t_quotientY :: .long x_t_quotientZ :: .ref h_t_wayY :: .ref h_t_wayZ :: .ref h_t_places :: .int x_t_placeMany :: .int x_t_met :: .int t_length0 :: .int x_t_how :: z_t_47 :: z_t_48 :: z_t_49 :: z_t_50 :: z_t_51 :: z_t_52 :: z_t_53 :: z_t_54 :: z_t_55 :: z_t_56 :: z_t_57 :: z_t_58 :: z_t_59 :: z_t_60 :: []))) :: (h_t_setY, .inl (k_t_setY, 25, .inl t_setY)) :: (h_t_setZ, .inl (k_t_setZ, 25, .inl t_setZ)) :: (h_t_wayY, .inl (k_t_wayY, 301, .inl x_t_wayY)) :: (h_t_wayZ, .inl (k_t_wayZ, 301, .inl x_t_wayZ)) :: (h_t_places, .inl (k_t_places, 300, .inl x_t_places)) :: R) → va_S A s.heap H locs → lv_has ls 5 [(0, .ref h_t), (3, .int x3), (4, .int x4)] → W p l e { frames := 1, cells := 0, slots := 0, locals := 34 } s m args below meth c H locs 0 0 Q (F0 m 99 ls [])) → (tg = 2 → ∀ (H : Heap) (locs : List Loc) (ls : Array Slot), va_P D vwCl ((h_t, .inr (12, (z_t_0 :: z_t_1 :: z_t_2 :: z_t_3 :: z_t_4 :: z_t_5 :: z_t_6 :: z_t_7 :: z_t_8 :: z_t_9 :: z_t_10 :: z_t_11 :: z_t_12 :: z_t_13 :: z_t_14 :: z_t_15 :: z_t_16 :: z_t_17 :: z_t_18 :: z_t_19 :: z_t_20 :: z_t_21 :: z_t_22 :: z_t_23 :: z_t_24 :: z_t_25 :: z_t_26 :: .int t_parts :: .int t_ringP :: .int t_ringQ :: .int t_baseY :: .int t_baseZ :: z_t_32 :: z_t_33 :: .ref h_t_setY :: .ref h_t_setZ :: z_t_36 :: z_t_37 :: .long x_t_quotientY :: .long x_t_quotientZ :: .ref h_t_wayY :: .ref h_t_wayZ :: .ref h_t_places :: .int x_t_placeMany :: .int x_t_met :: .int t_length0 :: .int x_t_how :: z_t_47 :: z_t_48 :: z_t_49 :: z_t_50 :: z_t_51 :: z_t_52 :: z_t_53 :: z_t_54 :: z_t_55 :: z_t_56 :: z_t_57 :: z_t_58 :: z_t_59 :: z_t_60 :: []))) :: (h_t_setY, .inl (k_t_setY, 25, .inl t_setY)) :: (h_t_setZ, .inl (k_t_setZ, 25, .inl t_setZ)) :: (h_t_wayY, .inl (k_t_wayY, 301, .inl x_t_wayY)) :: (h_t_wayZ, .inl (k_t_wayZ, 301, .inl x_t_wayZ)) :: (h_t_places, .inl (k_t_places, 300, .inl x_t_places)) :: R) H → va_D A ((h_t, .inr (12, (z_t_0 :: z_t_1 :: z_t_2 :: z_t_3 :: z_t_4 :: z_t_5 :: z_t_6 :: z_t_7 :: z_t_8 :: z_t_9 :: z_t_10 :: z_t_11 :: z_t_12 :: z_t_13 :: z_t_14 :: z_t_15 :: z_t_16 :: z_t_17 :: z_t_18 :: z_t_19 :: z_t_20 :: z_t_21 :: z_t_22 :: z_t_23 :: z_t_24 :: z_t_25 :: z_t_26 :: .int t_parts :: .int t_ringP :: .int t_ringQ :: .int t_baseY :: .int t_baseZ :: z_t_32 :: z_t_33 :: .ref h_t_setY :: .ref h_t_setZ :: z_t_36 :: z_t_37 :: .long x_t_quotientY :: .long x_t_quotientZ :: .ref h_t_wayY :: .ref h_t_wayZ :: .ref h_t_places :: .int x_t_placeMany :: .int x_t_met :: .int t_length0 :: .int x_t_how :: z_t_47 :: z_t_48 :: z_t_49 :: z_t_50 :: z_t_51 :: z_t_52 :: z_t_53 :: z_t_54 :: z_t_55 :: z_t_56 :: z_t_57 :: z_t_58 :: z_t_59 :: z_t_60 :: []))) :: (h_t_setY, .inl (k_t_setY, 25, .inl t_setY)) :: (h_t_setZ, .inl (k_t_setZ, 25, .inl t_setZ)) :: (h_t_wayY, .inl (k_t_wayY, 301, .inl x_t_wayY)) :: (h_t_wayZ, .inl (k_t_wayZ, 301, .inl x_t_wayZ)) :: (h_t_places, .inl (k_t_places, 300, .inl x_t_places)) :: R) → va_S A s.heap H locs → lv_has ls 5 [] → W p l e { frames := 1, cells := 0, slots := 0, locals := 34 } s m args below meth c H locs 0 0 Q (F0 m 137 ls [])) → (tg = 3 → ∀ (H : Heap) (locs : List Loc) (ls : Array Slot), va_P D vwCl ((h_t, .inr (12, (z_t_0 :: z_t_1 :: z_t_2 :: z_t_3 :: z_t_4 :: z_t_5 :: z_t_6 :: z_t_7 :: z_t_8 :: z_t_9 :: z_t_10 :: z_t_11 :: z_t_12 :: z_t_13 :: z_t_14 :: z_t_15 :: z_t_16 :: z_t_17 :: z_t_18 :: z_t_19 :: z_t_20 :: z_t_21 :: z_t_22 :: z_t_23 :: z_t_24 :: z_t_25 :: z_t_26 :: .int t_parts :: .int t_ringP :: .int t_ringQ :: .int t_baseY :: .int t_baseZ :: z_t_32 :: z_t_33 :: .ref h_t_setY :: .ref h_t_setZ :: z_t_36 :: z_t_37 :: .long x_t_quotientY :: .long x_t_quotientZ :: .ref h_t_wayY :: .ref h_t_wayZ :: .ref h_t_places :: .int x_t_placeMany :: .int x_t_met :: .int t_length0 :: .int x_t_how :: z_t_47 :: z_t_48 :: z_t_49 :: z_t_50 :: z_t_51 :: z_t_52 :: z_t_53 :: z_t_54 :: z_t_55 :: z_t_56 :: z_t_57 :: z_t_58 :: z_t_59 :: z_t_60 :: []))) :: (h_t_setY, .inl (k_t_setY, 25, .inl t_setY)) :: (h_t_setZ, .inl (k_t_setZ, 25, .inl t_setZ)) :: (h_t_wayY, .inl (k_t_wayY, 301, .inl x_t_wayY)) :: (h_t_wayZ, .inl (k_t_wayZ, 301, .inl x_t_wayZ)) :: (h_t_places, .inl (k_t_places, 300, .inl x_t_places)) :: R) H → va_D A ((h_t, .inr (12, (z_t_0 :: z_t_1 :: z_t_2 :: z_t_3 :: z_t_4 :: z_t_5 :: z_t_6 :: z_t_7 :: z_t_8 :: z_t_9 :: z_t_10 :: z_t_11 :: z_t_12 :: z_t_13 :: z_t_14 :: z_t_15 :: z_t_16 :: z_t_17 :: z_t_18 :: z_t_19 :: z_t_20 :: z_t_21 :: z_t_22 :: z_t_23 :: z_t_24 :: z_t_25 :: z_t_26 :: .int t_parts :: .int t_ringP :: .int t_ringQ :: .int t_baseY :: .int t_baseZ :: z_t_32 :: z_t_33 :: .ref h_t_setY :: .ref h_t_setZ :: z_t_36 :: z_t_37 :: .long x_t_quotientY :: .long x_t_quotientZ :: .ref h_t_wayY :: .ref h_t_wayZ :: .ref h_t_places :: .int x_t_placeMany :: .int x_t_met :: .int t_length0 :: .int x_t_how :: z_t_47 :: z_t_48 :: z_t_49 :: z_t_50 :: z_t_51 :: z_t_52 :: z_t_53 :: z_t_54 :: z_t_55 :: z_t_56 :: z_t_57 :: z_t_58 :: z_t_59 :: z_t_60 :: []))) :: (h_t_setY, .inl (k_t_setY, 25, .inl t_setY)) :: (h_t_setZ, .inl (k_t_setZ, 25, .inl t_setZ)) :: (h_t_wayY, .inl (k_t_wayY, 301, .inl x_t_wayY)) :: (h_t_wayZ, .inl (k_t_wayZ, 301, .inl x_t_wayZ)) :: (h_t_places, .inl (k_t_places, 300, .inl x_t_places)) :: R) → va_S A s.heap H locs → lv_has ls 5 [] → W p l e { frames := 1, cells := 0, slots := 0, locals := 34 } s m args below meth c H locs 0 0 Q (F0 m 252 ls [])) → W p l e { frames := 1, cells := 0, slots := 0, locals := 34 } s m args below meth c H locs 0 0 Q (F0 m 26 ls []) := by
    intro Q n
    induction n with
    | zero =>
      intro l3 t_quotientY t_quotientZ t_placeMany t_met t_length0 t_how t_wayY t_wayZ t_places tg x3 x4 x_t_quotientY x_t_quotientZ x_t_placeMany x_t_met x_t_how x_t_wayY x_t_wayZ x_t_places h
      rw [f_X12_walk_L26] at h; cases h
    | succ n ih =>
      intro l3 t_quotientY t_quotientZ t_placeMany t_met t_length0 t_how t_wayY t_wayZ t_places tg x3 x4 x_t_quotientY x_t_quotientZ x_t_placeMany x_t_met x_t_how x_t_wayY x_t_wayZ x_t_places h H locs ls hP hD hS hl kk0 kk1 kk2 kk3
      rw [f_X12_walk_L26] at h
      refine lv_aload_n hx hb dX12_walk_26 rfl (lv_at hl 0 rfl) ?_
      refine lv_iload_n hx hb dX12_walk_27 rfl (lv_at hl 1 rfl) ?_
      refine va_put (D := D) (ci := 12) (v := .int l3) (ty := .int) (C := RX12) (T := TX12) (N := 61) hx hb ha ix12 tyX12 tyX12_ok nmX12 hown hK hP hD hS 0 rfl rfl 44 (by decide) (ha _ q1004) (fun _ h9 => h9) rfl (by decide +kernel) rfl rfl (Nat.le_of_ble_eq_true rfl) dX12_walk_28 (fun H locs hP hD hS => ?_)
      have hP : va_P D vwCl ((h_t, .inr (12, (z_t_0 :: z_t_1 :: z_t_2 :: z_t_3 :: z_t_4 :: z_t_5 :: z_t_6 :: z_t_7 :: z_t_8 :: z_t_9 :: z_t_10 :: z_t_11 :: z_t_12 :: z_t_13 :: z_t_14 :: z_t_15 :: z_t_16 :: z_t_17 :: z_t_18 :: z_t_19 :: z_t_20 :: z_t_21 :: z_t_22 :: z_t_23 :: z_t_24 :: z_t_25 :: z_t_26 :: .int t_parts :: .int t_ringP :: .int t_ringQ :: .int t_baseY :: .int t_baseZ :: z_t_32 :: z_t_33 :: .ref h_t_setY :: .ref h_t_setZ :: z_t_36 :: z_t_37 :: .long t_quotientY :: .long t_quotientZ :: .ref h_t_wayY :: .ref h_t_wayZ :: .ref h_t_places :: .int t_placeMany :: .int l3 :: .int t_length0 :: .int t_how :: z_t_47 :: z_t_48 :: z_t_49 :: z_t_50 :: z_t_51 :: z_t_52 :: z_t_53 :: z_t_54 :: z_t_55 :: z_t_56 :: z_t_57 :: z_t_58 :: z_t_59 :: z_t_60 :: []))) :: (h_t_setY, .inl (k_t_setY, 25, .inl t_setY)) :: (h_t_setZ, .inl (k_t_setZ, 25, .inl t_setZ)) :: (h_t_wayY, .inl (k_t_wayY, 301, .inl t_wayY)) :: (h_t_wayZ, .inl (k_t_wayZ, 301, .inl t_wayZ)) :: (h_t_places, .inl (k_t_places, 300, .inl t_places)) :: R) H := hP
      have hD : va_D A ((h_t, .inr (12, (z_t_0 :: z_t_1 :: z_t_2 :: z_t_3 :: z_t_4 :: z_t_5 :: z_t_6 :: z_t_7 :: z_t_8 :: z_t_9 :: z_t_10 :: z_t_11 :: z_t_12 :: z_t_13 :: z_t_14 :: z_t_15 :: z_t_16 :: z_t_17 :: z_t_18 :: z_t_19 :: z_t_20 :: z_t_21 :: z_t_22 :: z_t_23 :: z_t_24 :: z_t_25 :: z_t_26 :: .int t_parts :: .int t_ringP :: .int t_ringQ :: .int t_baseY :: .int t_baseZ :: z_t_32 :: z_t_33 :: .ref h_t_setY :: .ref h_t_setZ :: z_t_36 :: z_t_37 :: .long t_quotientY :: .long t_quotientZ :: .ref h_t_wayY :: .ref h_t_wayZ :: .ref h_t_places :: .int t_placeMany :: .int l3 :: .int t_length0 :: .int t_how :: z_t_47 :: z_t_48 :: z_t_49 :: z_t_50 :: z_t_51 :: z_t_52 :: z_t_53 :: z_t_54 :: z_t_55 :: z_t_56 :: z_t_57 :: z_t_58 :: z_t_59 :: z_t_60 :: []))) :: (h_t_setY, .inl (k_t_setY, 25, .inl t_setY)) :: (h_t_setZ, .inl (k_t_setZ, 25, .inl t_setZ)) :: (h_t_wayY, .inl (k_t_wayY, 301, .inl t_wayY)) :: (h_t_wayZ, .inl (k_t_wayZ, 301, .inl t_wayZ)) :: (h_t_places, .inl (k_t_places, 300, .inl t_places)) :: R) := hD
      refine lv_aload_n hx hb dX12_walk_31 rfl (lv_at hl 0 rfl) ?_
      refine va_get (D := D) (ci := 12) (v := .ref h_t_wayY) (C := RX12) (T := TX12) (N := 61) hx hb ha ix12 hown hK hP 0 rfl rfl 40 (by decide) (ha _ q1000) (fun _ h9 => h9) rfl dX12_walk_32 ?_
      refine lv_iload_n hx hb dX12_walk_35 rfl (lv_at hl 1 rfl) ?_
      obtain ⟨i3, h⟩ := ix_ok h
      refine va_iald hx hb hK hP 3 2 rfl rfl i3 dX12_walk_36 ?_
      refine lv_if_ne (tgt := 55) hx hb dX12_walk_37 (by decide) (fun c4 => ?_) (fun c4 => ?_)
      · have h := br_neg c4 h
        refine lv_iconst (v := 0) hx hb dX12_walk_55 (by decide) ?_
        refine lv_istore (lv' := [(4, .int 0), (0, .ref h_t), (3, .int l3)]) hx hb dX12_walk_56 hl (by decide) rfl (fun ls hl => ?_)
        obtain ⟨tg_L58_29, x4_L58_29, e_L58_29, h⟩ := bnd2_ok h
        refine L58 _ _ l3 0 t_quotientY t_quotientZ t_placeMany l3 t_length0 t_how t_wayY t_wayZ t_places tg_L58_29 x4_L58_29 e_L58_29 _ _ _ hP hD hS (lv_sub hl [1, 2, 0] rfl) ?_ ?_
        · intro q9 H locs ls hP hD hS hl
          have h := br_pos q9 h
          cases h
          exact kk1 rfl _ _ _ hP hD hS (lv_sub hl [0, 1, 2] rfl)
        · intro q9 H locs ls hP hD hS hl
          have h := br_neg (by rw [q9]; decide) h
          refine lv_aload_n hx hb dX12_walk_125 rfl (lv_at hl 0 rfl) ?_
          refine lv_iconst (v := 2) hx hb dX12_walk_126 (by decide) ?_
          refine va_put (D := D) (ci := 12) (v := .int 2) (ty := .int) (C := RX12) (T := TX12) (N := 61) hx hb ha ix12 tyX12 tyX12_ok nmX12 hown hK hP hD hS 0 rfl rfl 46 (by decide) (ha _ q1006) (fun _ h9 => h9) rfl (by decide +kernel) rfl rfl (Nat.le_of_ble_eq_true rfl) dX12_walk_127 (fun H locs hP hD hS => ?_)
          have hP : va_P D vwCl ((h_t, .inr (12, (z_t_0 :: z_t_1 :: z_t_2 :: z_t_3 :: z_t_4 :: z_t_5 :: z_t_6 :: z_t_7 :: z_t_8 :: z_t_9 :: z_t_10 :: z_t_11 :: z_t_12 :: z_t_13 :: z_t_14 :: z_t_15 :: z_t_16 :: z_t_17 :: z_t_18 :: z_t_19 :: z_t_20 :: z_t_21 :: z_t_22 :: z_t_23 :: z_t_24 :: z_t_25 :: z_t_26 :: .int t_parts :: .int t_ringP :: .int t_ringQ :: .int t_baseY :: .int t_baseZ :: z_t_32 :: z_t_33 :: .ref h_t_setY :: .ref h_t_setZ :: z_t_36 :: z_t_37 :: .long t_quotientY :: .long t_quotientZ :: .ref h_t_wayY :: .ref h_t_wayZ :: .ref h_t_places :: .int t_placeMany :: .int l3 :: .int t_length0 :: .int 2 :: z_t_47 :: z_t_48 :: z_t_49 :: z_t_50 :: z_t_51 :: z_t_52 :: z_t_53 :: z_t_54 :: z_t_55 :: z_t_56 :: z_t_57 :: z_t_58 :: z_t_59 :: z_t_60 :: []))) :: (h_t_setY, .inl (k_t_setY, 25, .inl t_setY)) :: (h_t_setZ, .inl (k_t_setZ, 25, .inl t_setZ)) :: (h_t_wayY, .inl (k_t_wayY, 301, .inl t_wayY)) :: (h_t_wayZ, .inl (k_t_wayZ, 301, .inl t_wayZ)) :: (h_t_places, .inl (k_t_places, 300, .inl t_places)) :: R) H := hP
          have hD : va_D A ((h_t, .inr (12, (z_t_0 :: z_t_1 :: z_t_2 :: z_t_3 :: z_t_4 :: z_t_5 :: z_t_6 :: z_t_7 :: z_t_8 :: z_t_9 :: z_t_10 :: z_t_11 :: z_t_12 :: z_t_13 :: z_t_14 :: z_t_15 :: z_t_16 :: z_t_17 :: z_t_18 :: z_t_19 :: z_t_20 :: z_t_21 :: z_t_22 :: z_t_23 :: z_t_24 :: z_t_25 :: z_t_26 :: .int t_parts :: .int t_ringP :: .int t_ringQ :: .int t_baseY :: .int t_baseZ :: z_t_32 :: z_t_33 :: .ref h_t_setY :: .ref h_t_setZ :: z_t_36 :: z_t_37 :: .long t_quotientY :: .long t_quotientZ :: .ref h_t_wayY :: .ref h_t_wayZ :: .ref h_t_places :: .int t_placeMany :: .int l3 :: .int t_length0 :: .int 2 :: z_t_47 :: z_t_48 :: z_t_49 :: z_t_50 :: z_t_51 :: z_t_52 :: z_t_53 :: z_t_54 :: z_t_55 :: z_t_56 :: z_t_57 :: z_t_58 :: z_t_59 :: z_t_60 :: []))) :: (h_t_setY, .inl (k_t_setY, 25, .inl t_setY)) :: (h_t_setZ, .inl (k_t_setZ, 25, .inl t_setZ)) :: (h_t_wayY, .inl (k_t_wayY, 301, .inl t_wayY)) :: (h_t_wayZ, .inl (k_t_wayZ, 301, .inl t_wayZ)) :: (h_t_places, .inl (k_t_places, 300, .inl t_places)) :: R) := hD
          refine lv_iload_n hx hb dX12_walk_130 rfl (lv_at hl 1 rfl) ?_
          refine lv_sipush (v := 300) hx hb dX12_walk_131 (by decide) ?_
          refine lv_icmp_ne (tgt := 138) hx hb dX12_walk_134 (by decide) (fun c31 => ?_) (fun c31 => ?_)
          · have h := br_neg c31 h
            refine lv_iconst (v := 0) hx hb dX12_walk_138 (by decide) ?_
            refine lv_istore (lv' := [(4, .int 0), (0, .ref h_t), (3, .int l3)]) hx hb dX12_walk_139 hl (by decide) rfl (fun ls hl => ?_)
            obtain ⟨x4_L141_31, x_t_quotientY_L141_31, x_t_quotientZ_L141_31, e_L141_31, h⟩ := bnd3_ok h
            refine L141 _ _ l3 0 t_quotientY t_quotientZ t_placeMany l3 t_length0 2 t_wayY t_wayZ t_places x4_L141_31 x_t_quotientY_L141_31 x_t_quotientZ_L141_31 e_L141_31 _ _ _ hP hD hS (lv_sub hl [1, 2, 0] rfl) ?_
            intro H locs ls hP hD hS hl
            refine lv_aload_n hx hb dX12_walk_186 rfl (lv_at hl 0 rfl) ?_
            refine va_get (D := D) (ci := 12) (v := .ref h_t_places) (C := RX12) (T := TX12) (N := 61) hx hb ha ix12 hown hK hP 0 rfl rfl 42 (by decide) (ha _ q1002) (fun _ h9 => h9) rfl dX12_walk_187 ?_
            refine lv_iload_n hx hb dX12_walk_190 rfl (lv_at hl 1 rfl) ?_
            refine lv_iload hx hb dX12_walk_191 (lv_at hl 2 rfl) ?_
            obtain ⟨i33, h⟩ := ix_ok h
            refine va_iast hx hb hK hP hD hS 5 4 rfl rfl i33 dX12_walk_193 (fun H locs hP hD hS => ?_)
            have hP : va_P D vwCl ((h_t, .inr (12, (z_t_0 :: z_t_1 :: z_t_2 :: z_t_3 :: z_t_4 :: z_t_5 :: z_t_6 :: z_t_7 :: z_t_8 :: z_t_9 :: z_t_10 :: z_t_11 :: z_t_12 :: z_t_13 :: z_t_14 :: z_t_15 :: z_t_16 :: z_t_17 :: z_t_18 :: z_t_19 :: z_t_20 :: z_t_21 :: z_t_22 :: z_t_23 :: z_t_24 :: z_t_25 :: z_t_26 :: .int t_parts :: .int t_ringP :: .int t_ringQ :: .int t_baseY :: .int t_baseZ :: z_t_32 :: z_t_33 :: .ref h_t_setY :: .ref h_t_setZ :: z_t_36 :: z_t_37 :: .long x_t_quotientY_L141_31 :: .long x_t_quotientZ_L141_31 :: .ref h_t_wayY :: .ref h_t_wayZ :: .ref h_t_places :: .int t_placeMany :: .int l3 :: .int t_length0 :: .int 2 :: z_t_47 :: z_t_48 :: z_t_49 :: z_t_50 :: z_t_51 :: z_t_52 :: z_t_53 :: z_t_54 :: z_t_55 :: z_t_56 :: z_t_57 :: z_t_58 :: z_t_59 :: z_t_60 :: []))) :: (h_t_setY, .inl (k_t_setY, 25, .inl t_setY)) :: (h_t_setZ, .inl (k_t_setZ, 25, .inl t_setZ)) :: (h_t_wayY, .inl (k_t_wayY, 301, .inl t_wayY)) :: (h_t_wayZ, .inl (k_t_wayZ, 301, .inl t_wayZ)) :: (h_t_places, .inl (k_t_places, 300, .inl (upd t_places l3.toNatClampNeg x4_L141_31))) :: R) H := hP
            have hD : va_D A ((h_t, .inr (12, (z_t_0 :: z_t_1 :: z_t_2 :: z_t_3 :: z_t_4 :: z_t_5 :: z_t_6 :: z_t_7 :: z_t_8 :: z_t_9 :: z_t_10 :: z_t_11 :: z_t_12 :: z_t_13 :: z_t_14 :: z_t_15 :: z_t_16 :: z_t_17 :: z_t_18 :: z_t_19 :: z_t_20 :: z_t_21 :: z_t_22 :: z_t_23 :: z_t_24 :: z_t_25 :: z_t_26 :: .int t_parts :: .int t_ringP :: .int t_ringQ :: .int t_baseY :: .int t_baseZ :: z_t_32 :: z_t_33 :: .ref h_t_setY :: .ref h_t_setZ :: z_t_36 :: z_t_37 :: .long x_t_quotientY_L141_31 :: .long x_t_quotientZ_L141_31 :: .ref h_t_wayY :: .ref h_t_wayZ :: .ref h_t_places :: .int t_placeMany :: .int l3 :: .int t_length0 :: .int 2 :: z_t_47 :: z_t_48 :: z_t_49 :: z_t_50 :: z_t_51 :: z_t_52 :: z_t_53 :: z_t_54 :: z_t_55 :: z_t_56 :: z_t_57 :: z_t_58 :: z_t_59 :: z_t_60 :: []))) :: (h_t_setY, .inl (k_t_setY, 25, .inl t_setY)) :: (h_t_setZ, .inl (k_t_setZ, 25, .inl t_setZ)) :: (h_t_wayY, .inl (k_t_wayY, 301, .inl t_wayY)) :: (h_t_wayZ, .inl (k_t_wayZ, 301, .inl t_wayZ)) :: (h_t_places, .inl (k_t_places, 300, .inl (upd t_places l3.toNatClampNeg x4_L141_31))) :: R) := hD
            refine lv_aload_n hx hb dX12_walk_194 rfl (lv_at hl 0 rfl) ?_
            refine lv_iload_n hx hb dX12_walk_195 rfl (lv_at hl 1 rfl) ?_
            refine lv_iconst (v := 1) hx hb dX12_walk_196 (by decide) ?_
            refine lv_iadd hx hb dX12_walk_197 ?_
            refine va_put (D := D) (ci := 12) (v := .int (l3 + 1)) (ty := .int) (C := RX12) (T := TX12) (N := 61) hx hb ha ix12 tyX12 tyX12_ok nmX12 hown hK hP hD hS 0 rfl rfl 43 (by decide) (ha _ q1003) (fun _ h9 => h9) rfl (by decide +kernel) rfl rfl (Nat.le_of_ble_eq_true rfl) dX12_walk_198 (fun H locs hP hD hS => ?_)
            have hP : va_P D vwCl ((h_t, .inr (12, (z_t_0 :: z_t_1 :: z_t_2 :: z_t_3 :: z_t_4 :: z_t_5 :: z_t_6 :: z_t_7 :: z_t_8 :: z_t_9 :: z_t_10 :: z_t_11 :: z_t_12 :: z_t_13 :: z_t_14 :: z_t_15 :: z_t_16 :: z_t_17 :: z_t_18 :: z_t_19 :: z_t_20 :: z_t_21 :: z_t_22 :: z_t_23 :: z_t_24 :: z_t_25 :: z_t_26 :: .int t_parts :: .int t_ringP :: .int t_ringQ :: .int t_baseY :: .int t_baseZ :: z_t_32 :: z_t_33 :: .ref h_t_setY :: .ref h_t_setZ :: z_t_36 :: z_t_37 :: .long x_t_quotientY_L141_31 :: .long x_t_quotientZ_L141_31 :: .ref h_t_wayY :: .ref h_t_wayZ :: .ref h_t_places :: .int (l3 + 1) :: .int l3 :: .int t_length0 :: .int 2 :: z_t_47 :: z_t_48 :: z_t_49 :: z_t_50 :: z_t_51 :: z_t_52 :: z_t_53 :: z_t_54 :: z_t_55 :: z_t_56 :: z_t_57 :: z_t_58 :: z_t_59 :: z_t_60 :: []))) :: (h_t_setY, .inl (k_t_setY, 25, .inl t_setY)) :: (h_t_setZ, .inl (k_t_setZ, 25, .inl t_setZ)) :: (h_t_wayY, .inl (k_t_wayY, 301, .inl t_wayY)) :: (h_t_wayZ, .inl (k_t_wayZ, 301, .inl t_wayZ)) :: (h_t_places, .inl (k_t_places, 300, .inl (upd t_places l3.toNatClampNeg x4_L141_31))) :: R) H := hP
            have hD : va_D A ((h_t, .inr (12, (z_t_0 :: z_t_1 :: z_t_2 :: z_t_3 :: z_t_4 :: z_t_5 :: z_t_6 :: z_t_7 :: z_t_8 :: z_t_9 :: z_t_10 :: z_t_11 :: z_t_12 :: z_t_13 :: z_t_14 :: z_t_15 :: z_t_16 :: z_t_17 :: z_t_18 :: z_t_19 :: z_t_20 :: z_t_21 :: z_t_22 :: z_t_23 :: z_t_24 :: z_t_25 :: z_t_26 :: .int t_parts :: .int t_ringP :: .int t_ringQ :: .int t_baseY :: .int t_baseZ :: z_t_32 :: z_t_33 :: .ref h_t_setY :: .ref h_t_setZ :: z_t_36 :: z_t_37 :: .long x_t_quotientY_L141_31 :: .long x_t_quotientZ_L141_31 :: .ref h_t_wayY :: .ref h_t_wayZ :: .ref h_t_places :: .int (l3 + 1) :: .int l3 :: .int t_length0 :: .int 2 :: z_t_47 :: z_t_48 :: z_t_49 :: z_t_50 :: z_t_51 :: z_t_52 :: z_t_53 :: z_t_54 :: z_t_55 :: z_t_56 :: z_t_57 :: z_t_58 :: z_t_59 :: z_t_60 :: []))) :: (h_t_setY, .inl (k_t_setY, 25, .inl t_setY)) :: (h_t_setZ, .inl (k_t_setZ, 25, .inl t_setZ)) :: (h_t_wayY, .inl (k_t_wayY, 301, .inl t_wayY)) :: (h_t_wayZ, .inl (k_t_wayZ, 301, .inl t_wayZ)) :: (h_t_places, .inl (k_t_places, 300, .inl (upd t_places l3.toNatClampNeg x4_L141_31))) :: R) := hD
            refine lv_aload_n hx hb dX12_walk_201 rfl (lv_at hl 0 rfl) ?_
            refine lv_iload_n hx hb dX12_walk_202 rfl (lv_at hl 1 rfl) ?_
            refine lv_iconst (v := 1) hx hb dX12_walk_203 (by decide) ?_
            refine lv_iadd hx hb dX12_walk_204 ?_
            refine va_put (D := D) (ci := 12) (v := .int (l3 + 1)) (ty := .int) (C := RX12) (T := TX12) (N := 61) hx hb ha ix12 tyX12 tyX12_ok nmX12 hown hK hP hD hS 0 rfl rfl 44 (by decide) (ha _ q1004) (fun _ h9 => h9) rfl (by decide +kernel) rfl rfl (Nat.le_of_ble_eq_true rfl) dX12_walk_205 (fun H locs hP hD hS => ?_)
            have hP : va_P D vwCl ((h_t, .inr (12, (z_t_0 :: z_t_1 :: z_t_2 :: z_t_3 :: z_t_4 :: z_t_5 :: z_t_6 :: z_t_7 :: z_t_8 :: z_t_9 :: z_t_10 :: z_t_11 :: z_t_12 :: z_t_13 :: z_t_14 :: z_t_15 :: z_t_16 :: z_t_17 :: z_t_18 :: z_t_19 :: z_t_20 :: z_t_21 :: z_t_22 :: z_t_23 :: z_t_24 :: z_t_25 :: z_t_26 :: .int t_parts :: .int t_ringP :: .int t_ringQ :: .int t_baseY :: .int t_baseZ :: z_t_32 :: z_t_33 :: .ref h_t_setY :: .ref h_t_setZ :: z_t_36 :: z_t_37 :: .long x_t_quotientY_L141_31 :: .long x_t_quotientZ_L141_31 :: .ref h_t_wayY :: .ref h_t_wayZ :: .ref h_t_places :: .int (l3 + 1) :: .int (l3 + 1) :: .int t_length0 :: .int 2 :: z_t_47 :: z_t_48 :: z_t_49 :: z_t_50 :: z_t_51 :: z_t_52 :: z_t_53 :: z_t_54 :: z_t_55 :: z_t_56 :: z_t_57 :: z_t_58 :: z_t_59 :: z_t_60 :: []))) :: (h_t_setY, .inl (k_t_setY, 25, .inl t_setY)) :: (h_t_setZ, .inl (k_t_setZ, 25, .inl t_setZ)) :: (h_t_wayY, .inl (k_t_wayY, 301, .inl t_wayY)) :: (h_t_wayZ, .inl (k_t_wayZ, 301, .inl t_wayZ)) :: (h_t_places, .inl (k_t_places, 300, .inl (upd t_places l3.toNatClampNeg x4_L141_31))) :: R) H := hP
            have hD : va_D A ((h_t, .inr (12, (z_t_0 :: z_t_1 :: z_t_2 :: z_t_3 :: z_t_4 :: z_t_5 :: z_t_6 :: z_t_7 :: z_t_8 :: z_t_9 :: z_t_10 :: z_t_11 :: z_t_12 :: z_t_13 :: z_t_14 :: z_t_15 :: z_t_16 :: z_t_17 :: z_t_18 :: z_t_19 :: z_t_20 :: z_t_21 :: z_t_22 :: z_t_23 :: z_t_24 :: z_t_25 :: z_t_26 :: .int t_parts :: .int t_ringP :: .int t_ringQ :: .int t_baseY :: .int t_baseZ :: z_t_32 :: z_t_33 :: .ref h_t_setY :: .ref h_t_setZ :: z_t_36 :: z_t_37 :: .long x_t_quotientY_L141_31 :: .long x_t_quotientZ_L141_31 :: .ref h_t_wayY :: .ref h_t_wayZ :: .ref h_t_places :: .int (l3 + 1) :: .int (l3 + 1) :: .int t_length0 :: .int 2 :: z_t_47 :: z_t_48 :: z_t_49 :: z_t_50 :: z_t_51 :: z_t_52 :: z_t_53 :: z_t_54 :: z_t_55 :: z_t_56 :: z_t_57 :: z_t_58 :: z_t_59 :: z_t_60 :: []))) :: (h_t_setY, .inl (k_t_setY, 25, .inl t_setY)) :: (h_t_setZ, .inl (k_t_setZ, 25, .inl t_setZ)) :: (h_t_wayY, .inl (k_t_wayY, 301, .inl t_wayY)) :: (h_t_wayZ, .inl (k_t_wayZ, 301, .inl t_wayZ)) :: (h_t_places, .inl (k_t_places, 300, .inl (upd t_places l3.toNatClampNeg x4_L141_31))) :: R) := hD
            refine lv_aload_n hx hb dX12_walk_208 rfl (lv_at hl 0 rfl) ?_
            refine va_get (D := D) (ci := 12) (v := .long x_t_quotientY_L141_31) (C := RX12) (T := TX12) (N := 61) hx hb ha ix12 hown hK hP 0 rfl rfl 38 (by decide) (ha _ q998) (fun _ h9 => h9) rfl dX12_walk_209 ?_
            refine lv_ldc2 (v := 1000000) hx hb hown (ha _ q1323) dX12_walk_212 ?_
            refine xl_gt (tgt := 252) hx hb dX12_walk_215 dX12_walk_216 (by decide) (fun c34 => ?_) (fun c34 => ?_)
            · have h := br_pos c34 h
              cases h
              exact kk3 rfl _ _ _ hP hD hS (lv_sub hl [] rfl)
            · have h := br_neg c34 h
              refine lv_aload_n hx hb dX12_walk_219 rfl (lv_at hl 0 rfl) ?_
              refine va_get (D := D) (ci := 12) (v := .long x_t_quotientY_L141_31) (C := RX12) (T := TX12) (N := 61) hx hb ha ix12 hown hK hP 0 rfl rfl 38 (by decide) (ha _ q998) (fun _ h9 => h9) rfl dX12_walk_220 ?_
              refine lv_ldc2 (v := (-1000000)) hx hb hown (ha _ q1324) dX12_walk_223 ?_
              refine xl_lt (tgt := 252) hx hb dX12_walk_226 dX12_walk_227 (by decide) (fun c35 => ?_) (fun c35 => ?_)
              · have h := br_pos c35 h
                cases h
                exact kk3 rfl _ _ _ hP hD hS (lv_sub hl [] rfl)
              · have h := br_neg c35 h
                refine lv_aload_n hx hb dX12_walk_230 rfl (lv_at hl 0 rfl) ?_
                refine va_get (D := D) (ci := 12) (v := .long x_t_quotientZ_L141_31) (C := RX12) (T := TX12) (N := 61) hx hb ha ix12 hown hK hP 0 rfl rfl 39 (by decide) (ha _ q999) (fun _ h9 => h9) rfl dX12_walk_231 ?_
                refine lv_ldc2 (v := 1000000) hx hb hown (ha _ q1323) dX12_walk_234 ?_
                refine xl_gt (tgt := 252) hx hb dX12_walk_237 dX12_walk_238 (by decide) (fun c36 => ?_) (fun c36 => ?_)
                · have h := br_pos c36 h
                  cases h
                  exact kk3 rfl _ _ _ hP hD hS (lv_sub hl [] rfl)
                · have h := br_neg c36 h
                  refine lv_aload_n hx hb dX12_walk_241 rfl (lv_at hl 0 rfl) ?_
                  refine va_get (D := D) (ci := 12) (v := .long x_t_quotientZ_L141_31) (C := RX12) (T := TX12) (N := 61) hx hb ha ix12 hown hK hP 0 rfl rfl 39 (by decide) (ha _ q999) (fun _ h9 => h9) rfl dX12_walk_242 ?_
                  refine lv_ldc2 (v := (-1000000)) hx hb hown (ha _ q1324) dX12_walk_245 ?_
                  refine xl_ge (tgt := 253) hx hb dX12_walk_248 dX12_walk_249 (by decide) (fun c37 => ?_) (fun c37 => ?_)
                  · have h := br_pos c37 h
                    refine lv_aload_n hx hb dX12_walk_253 rfl (lv_at hl 0 rfl) ?_
                    refine va_get (D := D) (ci := 12) (v := .ref h_t_wayY) (C := RX12) (T := TX12) (N := 61) hx hb ha ix12 hown hK hP 0 rfl rfl 40 (by decide) (ha _ q1000) (fun _ h9 => h9) rfl dX12_walk_254 ?_
                    refine lv_iload_n hx hb dX12_walk_257 rfl (lv_at hl 1 rfl) ?_
                    refine lv_iconst (v := 1) hx hb dX12_walk_258 (by decide) ?_
                    refine lv_iadd hx hb dX12_walk_259 ?_
                    refine lv_aload_n hx hb dX12_walk_260 rfl (lv_at hl 0 rfl) ?_
                    refine va_get (D := D) (ci := 12) (v := .long x_t_quotientY_L141_31) (C := RX12) (T := TX12) (N := 61) hx hb ha ix12 hown hK hP 0 rfl rfl 38 (by decide) (ha _ q998) (fun _ h9 => h9) rfl dX12_walk_261 ?_
                    refine lv_l2i (v := x_t_quotientY_L141_31.toInt32) hx hb dX12_walk_264 rfl ?_
                    obtain ⟨i38, h⟩ := ix_ok h
                    refine va_iast hx hb hK hP hD hS 3 2 rfl rfl i38 dX12_walk_265 (fun H locs hP hD hS => ?_)
                    have hP : va_P D vwCl ((h_t, .inr (12, (z_t_0 :: z_t_1 :: z_t_2 :: z_t_3 :: z_t_4 :: z_t_5 :: z_t_6 :: z_t_7 :: z_t_8 :: z_t_9 :: z_t_10 :: z_t_11 :: z_t_12 :: z_t_13 :: z_t_14 :: z_t_15 :: z_t_16 :: z_t_17 :: z_t_18 :: z_t_19 :: z_t_20 :: z_t_21 :: z_t_22 :: z_t_23 :: z_t_24 :: z_t_25 :: z_t_26 :: .int t_parts :: .int t_ringP :: .int t_ringQ :: .int t_baseY :: .int t_baseZ :: z_t_32 :: z_t_33 :: .ref h_t_setY :: .ref h_t_setZ :: z_t_36 :: z_t_37 :: .long x_t_quotientY_L141_31 :: .long x_t_quotientZ_L141_31 :: .ref h_t_wayY :: .ref h_t_wayZ :: .ref h_t_places :: .int (l3 + 1) :: .int (l3 + 1) :: .int t_length0 :: .int 2 :: z_t_47 :: z_t_48 :: z_t_49 :: z_t_50 :: z_t_51 :: z_t_52 :: z_t_53 :: z_t_54 :: z_t_55 :: z_t_56 :: z_t_57 :: z_t_58 :: z_t_59 :: z_t_60 :: []))) :: (h_t_setY, .inl (k_t_setY, 25, .inl t_setY)) :: (h_t_setZ, .inl (k_t_setZ, 25, .inl t_setZ)) :: (h_t_wayY, .inl (k_t_wayY, 301, .inl (upd t_wayY (l3 + 1).toNatClampNeg x_t_quotientY_L141_31.toInt32))) :: (h_t_wayZ, .inl (k_t_wayZ, 301, .inl t_wayZ)) :: (h_t_places, .inl (k_t_places, 300, .inl (upd t_places l3.toNatClampNeg x4_L141_31))) :: R) H := hP
                    have hD : va_D A ((h_t, .inr (12, (z_t_0 :: z_t_1 :: z_t_2 :: z_t_3 :: z_t_4 :: z_t_5 :: z_t_6 :: z_t_7 :: z_t_8 :: z_t_9 :: z_t_10 :: z_t_11 :: z_t_12 :: z_t_13 :: z_t_14 :: z_t_15 :: z_t_16 :: z_t_17 :: z_t_18 :: z_t_19 :: z_t_20 :: z_t_21 :: z_t_22 :: z_t_23 :: z_t_24 :: z_t_25 :: z_t_26 :: .int t_parts :: .int t_ringP :: .int t_ringQ :: .int t_baseY :: .int t_baseZ :: z_t_32 :: z_t_33 :: .ref h_t_setY :: .ref h_t_setZ :: z_t_36 :: z_t_37 :: .long x_t_quotientY_L141_31 :: .long x_t_quotientZ_L141_31 :: .ref h_t_wayY :: .ref h_t_wayZ :: .ref h_t_places :: .int (l3 + 1) :: .int (l3 + 1) :: .int t_length0 :: .int 2 :: z_t_47 :: z_t_48 :: z_t_49 :: z_t_50 :: z_t_51 :: z_t_52 :: z_t_53 :: z_t_54 :: z_t_55 :: z_t_56 :: z_t_57 :: z_t_58 :: z_t_59 :: z_t_60 :: []))) :: (h_t_setY, .inl (k_t_setY, 25, .inl t_setY)) :: (h_t_setZ, .inl (k_t_setZ, 25, .inl t_setZ)) :: (h_t_wayY, .inl (k_t_wayY, 301, .inl (upd t_wayY (l3 + 1).toNatClampNeg x_t_quotientY_L141_31.toInt32))) :: (h_t_wayZ, .inl (k_t_wayZ, 301, .inl t_wayZ)) :: (h_t_places, .inl (k_t_places, 300, .inl (upd t_places l3.toNatClampNeg x4_L141_31))) :: R) := hD
                    refine lv_aload_n hx hb dX12_walk_266 rfl (lv_at hl 0 rfl) ?_
                    refine va_get (D := D) (ci := 12) (v := .ref h_t_wayZ) (C := RX12) (T := TX12) (N := 61) hx hb ha ix12 hown hK hP 0 rfl rfl 41 (by decide) (ha _ q1001) (fun _ h9 => h9) rfl dX12_walk_267 ?_
                    refine lv_iload_n hx hb dX12_walk_270 rfl (lv_at hl 1 rfl) ?_
                    refine lv_iconst (v := 1) hx hb dX12_walk_271 (by decide) ?_
                    refine lv_iadd hx hb dX12_walk_272 ?_
                    refine lv_aload_n hx hb dX12_walk_273 rfl (lv_at hl 0 rfl) ?_
                    refine va_get (D := D) (ci := 12) (v := .long x_t_quotientZ_L141_31) (C := RX12) (T := TX12) (N := 61) hx hb ha ix12 hown hK hP 0 rfl rfl 39 (by decide) (ha _ q999) (fun _ h9 => h9) rfl dX12_walk_274 ?_
                    refine lv_l2i (v := x_t_quotientZ_L141_31.toInt32) hx hb dX12_walk_277 rfl ?_
                    obtain ⟨i39, h⟩ := ix_ok h
                    refine va_iast hx hb hK hP hD hS 4 3 rfl rfl i39 dX12_walk_278 (fun H locs hP hD hS => ?_)
                    have hP : va_P D vwCl ((h_t, .inr (12, (z_t_0 :: z_t_1 :: z_t_2 :: z_t_3 :: z_t_4 :: z_t_5 :: z_t_6 :: z_t_7 :: z_t_8 :: z_t_9 :: z_t_10 :: z_t_11 :: z_t_12 :: z_t_13 :: z_t_14 :: z_t_15 :: z_t_16 :: z_t_17 :: z_t_18 :: z_t_19 :: z_t_20 :: z_t_21 :: z_t_22 :: z_t_23 :: z_t_24 :: z_t_25 :: z_t_26 :: .int t_parts :: .int t_ringP :: .int t_ringQ :: .int t_baseY :: .int t_baseZ :: z_t_32 :: z_t_33 :: .ref h_t_setY :: .ref h_t_setZ :: z_t_36 :: z_t_37 :: .long x_t_quotientY_L141_31 :: .long x_t_quotientZ_L141_31 :: .ref h_t_wayY :: .ref h_t_wayZ :: .ref h_t_places :: .int (l3 + 1) :: .int (l3 + 1) :: .int t_length0 :: .int 2 :: z_t_47 :: z_t_48 :: z_t_49 :: z_t_50 :: z_t_51 :: z_t_52 :: z_t_53 :: z_t_54 :: z_t_55 :: z_t_56 :: z_t_57 :: z_t_58 :: z_t_59 :: z_t_60 :: []))) :: (h_t_setY, .inl (k_t_setY, 25, .inl t_setY)) :: (h_t_setZ, .inl (k_t_setZ, 25, .inl t_setZ)) :: (h_t_wayY, .inl (k_t_wayY, 301, .inl (upd t_wayY (l3 + 1).toNatClampNeg x_t_quotientY_L141_31.toInt32))) :: (h_t_wayZ, .inl (k_t_wayZ, 301, .inl (upd t_wayZ (l3 + 1).toNatClampNeg x_t_quotientZ_L141_31.toInt32))) :: (h_t_places, .inl (k_t_places, 300, .inl (upd t_places l3.toNatClampNeg x4_L141_31))) :: R) H := hP
                    have hD : va_D A ((h_t, .inr (12, (z_t_0 :: z_t_1 :: z_t_2 :: z_t_3 :: z_t_4 :: z_t_5 :: z_t_6 :: z_t_7 :: z_t_8 :: z_t_9 :: z_t_10 :: z_t_11 :: z_t_12 :: z_t_13 :: z_t_14 :: z_t_15 :: z_t_16 :: z_t_17 :: z_t_18 :: z_t_19 :: z_t_20 :: z_t_21 :: z_t_22 :: z_t_23 :: z_t_24 :: z_t_25 :: z_t_26 :: .int t_parts :: .int t_ringP :: .int t_ringQ :: .int t_baseY :: .int t_baseZ :: z_t_32 :: z_t_33 :: .ref h_t_setY :: .ref h_t_setZ :: z_t_36 :: z_t_37 :: .long x_t_quotientY_L141_31 :: .long x_t_quotientZ_L141_31 :: .ref h_t_wayY :: .ref h_t_wayZ :: .ref h_t_places :: .int (l3 + 1) :: .int (l3 + 1) :: .int t_length0 :: .int 2 :: z_t_47 :: z_t_48 :: z_t_49 :: z_t_50 :: z_t_51 :: z_t_52 :: z_t_53 :: z_t_54 :: z_t_55 :: z_t_56 :: z_t_57 :: z_t_58 :: z_t_59 :: z_t_60 :: []))) :: (h_t_setY, .inl (k_t_setY, 25, .inl t_setY)) :: (h_t_setZ, .inl (k_t_setZ, 25, .inl t_setZ)) :: (h_t_wayY, .inl (k_t_wayY, 301, .inl (upd t_wayY (l3 + 1).toNatClampNeg x_t_quotientY_L141_31.toInt32))) :: (h_t_wayZ, .inl (k_t_wayZ, 301, .inl (upd t_wayZ (l3 + 1).toNatClampNeg x_t_quotientZ_L141_31.toInt32))) :: (h_t_places, .inl (k_t_places, 300, .inl (upd t_places l3.toNatClampNeg x4_L141_31))) :: R) := hD
                    refine lv_iinc (v := (l3 + 1)) (lv' := [(3, .int (l3 + 1)), (0, .ref h_t), (4, .int x4_L141_31)]) hx hb dX12_walk_279 hl (k := 1) rfl rfl (by decide) rfl (fun ls hl => ?_)
                    refine lv_goto (tgt := 26) hx hb dX12_walk_282 (by decide) ?_
                    exact ih (l3 + 1) x_t_quotientY_L141_31 x_t_quotientZ_L141_31 (l3 + 1) (l3 + 1) t_length0 2 (upd t_wayY (l3 + 1).toNatClampNeg x_t_quotientY_L141_31.toInt32) (upd t_wayZ (l3 + 1).toNatClampNeg x_t_quotientZ_L141_31.toInt32) (upd t_places l3.toNatClampNeg x4_L141_31) _ _ _ _ _ _ _ _ _ _ _ h _ _ _ hP hD hS (lv_sub hl [1, 0] rfl) kk0 kk1 kk2 kk3
                  · have h := br_neg c37 h
                    cases h
                    exact kk3 rfl _ _ _ hP hD hS (lv_sub hl [] rfl)
          · have h := br_pos c31 h
            cases h
            exact kk2 rfl _ _ _ hP hD hS (lv_sub hl [] rfl)
      · have h := br_pos c4 h
        refine lv_aload_n hx hb dX12_walk_40 rfl (lv_at hl 0 rfl) ?_
        refine va_get (D := D) (ci := 12) (v := .ref h_t_wayZ) (C := RX12) (T := TX12) (N := 61) hx hb ha ix12 hown hK hP 0 rfl rfl 41 (by decide) (ha _ q1001) (fun _ h9 => h9) rfl dX12_walk_41 ?_
        refine lv_iload_n hx hb dX12_walk_44 rfl (lv_at hl 1 rfl) ?_
        obtain ⟨i5, h⟩ := ix_ok h
        refine va_iald hx hb hK hP 4 3 rfl rfl i5 dX12_walk_45 ?_
        refine lv_if_ne (tgt := 55) hx hb dX12_walk_46 (by decide) (fun c6 => ?_) (fun c6 => ?_)
        · have h := br_neg c6 h
          refine lv_iconst (v := 0) hx hb dX12_walk_55 (by decide) ?_
          refine lv_istore (lv' := [(4, .int 0), (0, .ref h_t), (3, .int l3)]) hx hb dX12_walk_56 hl (by decide) rfl (fun ls hl => ?_)
          obtain ⟨tg_L58_13, x4_L58_13, e_L58_13, h⟩ := bnd2_ok h
          refine L58 _ _ l3 0 t_quotientY t_quotientZ t_placeMany l3 t_length0 t_how t_wayY t_wayZ t_places tg_L58_13 x4_L58_13 e_L58_13 _ _ _ hP hD hS (lv_sub hl [1, 2, 0] rfl) ?_ ?_
          · intro q9 H locs ls hP hD hS hl
            have h := br_pos q9 h
            cases h
            exact kk1 rfl _ _ _ hP hD hS (lv_sub hl [0, 1, 2] rfl)
          · intro q9 H locs ls hP hD hS hl
            have h := br_neg (by rw [q9]; decide) h
            refine lv_aload_n hx hb dX12_walk_125 rfl (lv_at hl 0 rfl) ?_
            refine lv_iconst (v := 2) hx hb dX12_walk_126 (by decide) ?_
            refine va_put (D := D) (ci := 12) (v := .int 2) (ty := .int) (C := RX12) (T := TX12) (N := 61) hx hb ha ix12 tyX12 tyX12_ok nmX12 hown hK hP hD hS 0 rfl rfl 46 (by decide) (ha _ q1006) (fun _ h9 => h9) rfl (by decide +kernel) rfl rfl (Nat.le_of_ble_eq_true rfl) dX12_walk_127 (fun H locs hP hD hS => ?_)
            have hP : va_P D vwCl ((h_t, .inr (12, (z_t_0 :: z_t_1 :: z_t_2 :: z_t_3 :: z_t_4 :: z_t_5 :: z_t_6 :: z_t_7 :: z_t_8 :: z_t_9 :: z_t_10 :: z_t_11 :: z_t_12 :: z_t_13 :: z_t_14 :: z_t_15 :: z_t_16 :: z_t_17 :: z_t_18 :: z_t_19 :: z_t_20 :: z_t_21 :: z_t_22 :: z_t_23 :: z_t_24 :: z_t_25 :: z_t_26 :: .int t_parts :: .int t_ringP :: .int t_ringQ :: .int t_baseY :: .int t_baseZ :: z_t_32 :: z_t_33 :: .ref h_t_setY :: .ref h_t_setZ :: z_t_36 :: z_t_37 :: .long t_quotientY :: .long t_quotientZ :: .ref h_t_wayY :: .ref h_t_wayZ :: .ref h_t_places :: .int t_placeMany :: .int l3 :: .int t_length0 :: .int 2 :: z_t_47 :: z_t_48 :: z_t_49 :: z_t_50 :: z_t_51 :: z_t_52 :: z_t_53 :: z_t_54 :: z_t_55 :: z_t_56 :: z_t_57 :: z_t_58 :: z_t_59 :: z_t_60 :: []))) :: (h_t_setY, .inl (k_t_setY, 25, .inl t_setY)) :: (h_t_setZ, .inl (k_t_setZ, 25, .inl t_setZ)) :: (h_t_wayY, .inl (k_t_wayY, 301, .inl t_wayY)) :: (h_t_wayZ, .inl (k_t_wayZ, 301, .inl t_wayZ)) :: (h_t_places, .inl (k_t_places, 300, .inl t_places)) :: R) H := hP
            have hD : va_D A ((h_t, .inr (12, (z_t_0 :: z_t_1 :: z_t_2 :: z_t_3 :: z_t_4 :: z_t_5 :: z_t_6 :: z_t_7 :: z_t_8 :: z_t_9 :: z_t_10 :: z_t_11 :: z_t_12 :: z_t_13 :: z_t_14 :: z_t_15 :: z_t_16 :: z_t_17 :: z_t_18 :: z_t_19 :: z_t_20 :: z_t_21 :: z_t_22 :: z_t_23 :: z_t_24 :: z_t_25 :: z_t_26 :: .int t_parts :: .int t_ringP :: .int t_ringQ :: .int t_baseY :: .int t_baseZ :: z_t_32 :: z_t_33 :: .ref h_t_setY :: .ref h_t_setZ :: z_t_36 :: z_t_37 :: .long t_quotientY :: .long t_quotientZ :: .ref h_t_wayY :: .ref h_t_wayZ :: .ref h_t_places :: .int t_placeMany :: .int l3 :: .int t_length0 :: .int 2 :: z_t_47 :: z_t_48 :: z_t_49 :: z_t_50 :: z_t_51 :: z_t_52 :: z_t_53 :: z_t_54 :: z_t_55 :: z_t_56 :: z_t_57 :: z_t_58 :: z_t_59 :: z_t_60 :: []))) :: (h_t_setY, .inl (k_t_setY, 25, .inl t_setY)) :: (h_t_setZ, .inl (k_t_setZ, 25, .inl t_setZ)) :: (h_t_wayY, .inl (k_t_wayY, 301, .inl t_wayY)) :: (h_t_wayZ, .inl (k_t_wayZ, 301, .inl t_wayZ)) :: (h_t_places, .inl (k_t_places, 300, .inl t_places)) :: R) := hD
            refine lv_iload_n hx hb dX12_walk_130 rfl (lv_at hl 1 rfl) ?_
            refine lv_sipush (v := 300) hx hb dX12_walk_131 (by decide) ?_
            refine lv_icmp_ne (tgt := 138) hx hb dX12_walk_134 (by decide) (fun c15 => ?_) (fun c15 => ?_)
            · have h := br_neg c15 h
              refine lv_iconst (v := 0) hx hb dX12_walk_138 (by decide) ?_
              refine lv_istore (lv' := [(4, .int 0), (0, .ref h_t), (3, .int l3)]) hx hb dX12_walk_139 hl (by decide) rfl (fun ls hl => ?_)
              obtain ⟨x4_L141_21, x_t_quotientY_L141_21, x_t_quotientZ_L141_21, e_L141_21, h⟩ := bnd3_ok h
              refine L141 _ _ l3 0 t_quotientY t_quotientZ t_placeMany l3 t_length0 2 t_wayY t_wayZ t_places x4_L141_21 x_t_quotientY_L141_21 x_t_quotientZ_L141_21 e_L141_21 _ _ _ hP hD hS (lv_sub hl [1, 2, 0] rfl) ?_
              intro H locs ls hP hD hS hl
              refine lv_aload_n hx hb dX12_walk_186 rfl (lv_at hl 0 rfl) ?_
              refine va_get (D := D) (ci := 12) (v := .ref h_t_places) (C := RX12) (T := TX12) (N := 61) hx hb ha ix12 hown hK hP 0 rfl rfl 42 (by decide) (ha _ q1002) (fun _ h9 => h9) rfl dX12_walk_187 ?_
              refine lv_iload_n hx hb dX12_walk_190 rfl (lv_at hl 1 rfl) ?_
              refine lv_iload hx hb dX12_walk_191 (lv_at hl 2 rfl) ?_
              obtain ⟨i23, h⟩ := ix_ok h
              refine va_iast hx hb hK hP hD hS 5 4 rfl rfl i23 dX12_walk_193 (fun H locs hP hD hS => ?_)
              have hP : va_P D vwCl ((h_t, .inr (12, (z_t_0 :: z_t_1 :: z_t_2 :: z_t_3 :: z_t_4 :: z_t_5 :: z_t_6 :: z_t_7 :: z_t_8 :: z_t_9 :: z_t_10 :: z_t_11 :: z_t_12 :: z_t_13 :: z_t_14 :: z_t_15 :: z_t_16 :: z_t_17 :: z_t_18 :: z_t_19 :: z_t_20 :: z_t_21 :: z_t_22 :: z_t_23 :: z_t_24 :: z_t_25 :: z_t_26 :: .int t_parts :: .int t_ringP :: .int t_ringQ :: .int t_baseY :: .int t_baseZ :: z_t_32 :: z_t_33 :: .ref h_t_setY :: .ref h_t_setZ :: z_t_36 :: z_t_37 :: .long x_t_quotientY_L141_21 :: .long x_t_quotientZ_L141_21 :: .ref h_t_wayY :: .ref h_t_wayZ :: .ref h_t_places :: .int t_placeMany :: .int l3 :: .int t_length0 :: .int 2 :: z_t_47 :: z_t_48 :: z_t_49 :: z_t_50 :: z_t_51 :: z_t_52 :: z_t_53 :: z_t_54 :: z_t_55 :: z_t_56 :: z_t_57 :: z_t_58 :: z_t_59 :: z_t_60 :: []))) :: (h_t_setY, .inl (k_t_setY, 25, .inl t_setY)) :: (h_t_setZ, .inl (k_t_setZ, 25, .inl t_setZ)) :: (h_t_wayY, .inl (k_t_wayY, 301, .inl t_wayY)) :: (h_t_wayZ, .inl (k_t_wayZ, 301, .inl t_wayZ)) :: (h_t_places, .inl (k_t_places, 300, .inl (upd t_places l3.toNatClampNeg x4_L141_21))) :: R) H := hP
              have hD : va_D A ((h_t, .inr (12, (z_t_0 :: z_t_1 :: z_t_2 :: z_t_3 :: z_t_4 :: z_t_5 :: z_t_6 :: z_t_7 :: z_t_8 :: z_t_9 :: z_t_10 :: z_t_11 :: z_t_12 :: z_t_13 :: z_t_14 :: z_t_15 :: z_t_16 :: z_t_17 :: z_t_18 :: z_t_19 :: z_t_20 :: z_t_21 :: z_t_22 :: z_t_23 :: z_t_24 :: z_t_25 :: z_t_26 :: .int t_parts :: .int t_ringP :: .int t_ringQ :: .int t_baseY :: .int t_baseZ :: z_t_32 :: z_t_33 :: .ref h_t_setY :: .ref h_t_setZ :: z_t_36 :: z_t_37 :: .long x_t_quotientY_L141_21 :: .long x_t_quotientZ_L141_21 :: .ref h_t_wayY :: .ref h_t_wayZ :: .ref h_t_places :: .int t_placeMany :: .int l3 :: .int t_length0 :: .int 2 :: z_t_47 :: z_t_48 :: z_t_49 :: z_t_50 :: z_t_51 :: z_t_52 :: z_t_53 :: z_t_54 :: z_t_55 :: z_t_56 :: z_t_57 :: z_t_58 :: z_t_59 :: z_t_60 :: []))) :: (h_t_setY, .inl (k_t_setY, 25, .inl t_setY)) :: (h_t_setZ, .inl (k_t_setZ, 25, .inl t_setZ)) :: (h_t_wayY, .inl (k_t_wayY, 301, .inl t_wayY)) :: (h_t_wayZ, .inl (k_t_wayZ, 301, .inl t_wayZ)) :: (h_t_places, .inl (k_t_places, 300, .inl (upd t_places l3.toNatClampNeg x4_L141_21))) :: R) := hD
              refine lv_aload_n hx hb dX12_walk_194 rfl (lv_at hl 0 rfl) ?_
              refine lv_iload_n hx hb dX12_walk_195 rfl (lv_at hl 1 rfl) ?_
              refine lv_iconst (v := 1) hx hb dX12_walk_196 (by decide) ?_
              refine lv_iadd hx hb dX12_walk_197 ?_
              refine va_put (D := D) (ci := 12) (v := .int (l3 + 1)) (ty := .int) (C := RX12) (T := TX12) (N := 61) hx hb ha ix12 tyX12 tyX12_ok nmX12 hown hK hP hD hS 0 rfl rfl 43 (by decide) (ha _ q1003) (fun _ h9 => h9) rfl (by decide +kernel) rfl rfl (Nat.le_of_ble_eq_true rfl) dX12_walk_198 (fun H locs hP hD hS => ?_)
              have hP : va_P D vwCl ((h_t, .inr (12, (z_t_0 :: z_t_1 :: z_t_2 :: z_t_3 :: z_t_4 :: z_t_5 :: z_t_6 :: z_t_7 :: z_t_8 :: z_t_9 :: z_t_10 :: z_t_11 :: z_t_12 :: z_t_13 :: z_t_14 :: z_t_15 :: z_t_16 :: z_t_17 :: z_t_18 :: z_t_19 :: z_t_20 :: z_t_21 :: z_t_22 :: z_t_23 :: z_t_24 :: z_t_25 :: z_t_26 :: .int t_parts :: .int t_ringP :: .int t_ringQ :: .int t_baseY :: .int t_baseZ :: z_t_32 :: z_t_33 :: .ref h_t_setY :: .ref h_t_setZ :: z_t_36 :: z_t_37 :: .long x_t_quotientY_L141_21 :: .long x_t_quotientZ_L141_21 :: .ref h_t_wayY :: .ref h_t_wayZ :: .ref h_t_places :: .int (l3 + 1) :: .int l3 :: .int t_length0 :: .int 2 :: z_t_47 :: z_t_48 :: z_t_49 :: z_t_50 :: z_t_51 :: z_t_52 :: z_t_53 :: z_t_54 :: z_t_55 :: z_t_56 :: z_t_57 :: z_t_58 :: z_t_59 :: z_t_60 :: []))) :: (h_t_setY, .inl (k_t_setY, 25, .inl t_setY)) :: (h_t_setZ, .inl (k_t_setZ, 25, .inl t_setZ)) :: (h_t_wayY, .inl (k_t_wayY, 301, .inl t_wayY)) :: (h_t_wayZ, .inl (k_t_wayZ, 301, .inl t_wayZ)) :: (h_t_places, .inl (k_t_places, 300, .inl (upd t_places l3.toNatClampNeg x4_L141_21))) :: R) H := hP
              have hD : va_D A ((h_t, .inr (12, (z_t_0 :: z_t_1 :: z_t_2 :: z_t_3 :: z_t_4 :: z_t_5 :: z_t_6 :: z_t_7 :: z_t_8 :: z_t_9 :: z_t_10 :: z_t_11 :: z_t_12 :: z_t_13 :: z_t_14 :: z_t_15 :: z_t_16 :: z_t_17 :: z_t_18 :: z_t_19 :: z_t_20 :: z_t_21 :: z_t_22 :: z_t_23 :: z_t_24 :: z_t_25 :: z_t_26 :: .int t_parts :: .int t_ringP :: .int t_ringQ :: .int t_baseY :: .int t_baseZ :: z_t_32 :: z_t_33 :: .ref h_t_setY :: .ref h_t_setZ :: z_t_36 :: z_t_37 :: .long x_t_quotientY_L141_21 :: .long x_t_quotientZ_L141_21 :: .ref h_t_wayY :: .ref h_t_wayZ :: .ref h_t_places :: .int (l3 + 1) :: .int l3 :: .int t_length0 :: .int 2 :: z_t_47 :: z_t_48 :: z_t_49 :: z_t_50 :: z_t_51 :: z_t_52 :: z_t_53 :: z_t_54 :: z_t_55 :: z_t_56 :: z_t_57 :: z_t_58 :: z_t_59 :: z_t_60 :: []))) :: (h_t_setY, .inl (k_t_setY, 25, .inl t_setY)) :: (h_t_setZ, .inl (k_t_setZ, 25, .inl t_setZ)) :: (h_t_wayY, .inl (k_t_wayY, 301, .inl t_wayY)) :: (h_t_wayZ, .inl (k_t_wayZ, 301, .inl t_wayZ)) :: (h_t_places, .inl (k_t_places, 300, .inl (upd t_places l3.toNatClampNeg x4_L141_21))) :: R) := hD
              refine lv_aload_n hx hb dX12_walk_201 rfl (lv_at hl 0 rfl) ?_
              refine lv_iload_n hx hb dX12_walk_202 rfl (lv_at hl 1 rfl) ?_
              refine lv_iconst (v := 1) hx hb dX12_walk_203 (by decide) ?_
              refine lv_iadd hx hb dX12_walk_204 ?_
              refine va_put (D := D) (ci := 12) (v := .int (l3 + 1)) (ty := .int) (C := RX12) (T := TX12) (N := 61) hx hb ha ix12 tyX12 tyX12_ok nmX12 hown hK hP hD hS 0 rfl rfl 44 (by decide) (ha _ q1004) (fun _ h9 => h9) rfl (by decide +kernel) rfl rfl (Nat.le_of_ble_eq_true rfl) dX12_walk_205 (fun H locs hP hD hS => ?_)
              have hP : va_P D vwCl ((h_t, .inr (12, (z_t_0 :: z_t_1 :: z_t_2 :: z_t_3 :: z_t_4 :: z_t_5 :: z_t_6 :: z_t_7 :: z_t_8 :: z_t_9 :: z_t_10 :: z_t_11 :: z_t_12 :: z_t_13 :: z_t_14 :: z_t_15 :: z_t_16 :: z_t_17 :: z_t_18 :: z_t_19 :: z_t_20 :: z_t_21 :: z_t_22 :: z_t_23 :: z_t_24 :: z_t_25 :: z_t_26 :: .int t_parts :: .int t_ringP :: .int t_ringQ :: .int t_baseY :: .int t_baseZ :: z_t_32 :: z_t_33 :: .ref h_t_setY :: .ref h_t_setZ :: z_t_36 :: z_t_37 :: .long x_t_quotientY_L141_21 :: .long x_t_quotientZ_L141_21 :: .ref h_t_wayY :: .ref h_t_wayZ :: .ref h_t_places :: .int (l3 + 1) :: .int (l3 + 1) :: .int t_length0 :: .int 2 :: z_t_47 :: z_t_48 :: z_t_49 :: z_t_50 :: z_t_51 :: z_t_52 :: z_t_53 :: z_t_54 :: z_t_55 :: z_t_56 :: z_t_57 :: z_t_58 :: z_t_59 :: z_t_60 :: []))) :: (h_t_setY, .inl (k_t_setY, 25, .inl t_setY)) :: (h_t_setZ, .inl (k_t_setZ, 25, .inl t_setZ)) :: (h_t_wayY, .inl (k_t_wayY, 301, .inl t_wayY)) :: (h_t_wayZ, .inl (k_t_wayZ, 301, .inl t_wayZ)) :: (h_t_places, .inl (k_t_places, 300, .inl (upd t_places l3.toNatClampNeg x4_L141_21))) :: R) H := hP
              have hD : va_D A ((h_t, .inr (12, (z_t_0 :: z_t_1 :: z_t_2 :: z_t_3 :: z_t_4 :: z_t_5 :: z_t_6 :: z_t_7 :: z_t_8 :: z_t_9 :: z_t_10 :: z_t_11 :: z_t_12 :: z_t_13 :: z_t_14 :: z_t_15 :: z_t_16 :: z_t_17 :: z_t_18 :: z_t_19 :: z_t_20 :: z_t_21 :: z_t_22 :: z_t_23 :: z_t_24 :: z_t_25 :: z_t_26 :: .int t_parts :: .int t_ringP :: .int t_ringQ :: .int t_baseY :: .int t_baseZ :: z_t_32 :: z_t_33 :: .ref h_t_setY :: .ref h_t_setZ :: z_t_36 :: z_t_37 :: .long x_t_quotientY_L141_21 :: .long x_t_quotientZ_L141_21 :: .ref h_t_wayY :: .ref h_t_wayZ :: .ref h_t_places :: .int (l3 + 1) :: .int (l3 + 1) :: .int t_length0 :: .int 2 :: z_t_47 :: z_t_48 :: z_t_49 :: z_t_50 :: z_t_51 :: z_t_52 :: z_t_53 :: z_t_54 :: z_t_55 :: z_t_56 :: z_t_57 :: z_t_58 :: z_t_59 :: z_t_60 :: []))) :: (h_t_setY, .inl (k_t_setY, 25, .inl t_setY)) :: (h_t_setZ, .inl (k_t_setZ, 25, .inl t_setZ)) :: (h_t_wayY, .inl (k_t_wayY, 301, .inl t_wayY)) :: (h_t_wayZ, .inl (k_t_wayZ, 301, .inl t_wayZ)) :: (h_t_places, .inl (k_t_places, 300, .inl (upd t_places l3.toNatClampNeg x4_L141_21))) :: R) := hD
              refine lv_aload_n hx hb dX12_walk_208 rfl (lv_at hl 0 rfl) ?_
              refine va_get (D := D) (ci := 12) (v := .long x_t_quotientY_L141_21) (C := RX12) (T := TX12) (N := 61) hx hb ha ix12 hown hK hP 0 rfl rfl 38 (by decide) (ha _ q998) (fun _ h9 => h9) rfl dX12_walk_209 ?_
              refine lv_ldc2 (v := 1000000) hx hb hown (ha _ q1323) dX12_walk_212 ?_
              refine xl_gt (tgt := 252) hx hb dX12_walk_215 dX12_walk_216 (by decide) (fun c24 => ?_) (fun c24 => ?_)
              · have h := br_pos c24 h
                cases h
                exact kk3 rfl _ _ _ hP hD hS (lv_sub hl [] rfl)
              · have h := br_neg c24 h
                refine lv_aload_n hx hb dX12_walk_219 rfl (lv_at hl 0 rfl) ?_
                refine va_get (D := D) (ci := 12) (v := .long x_t_quotientY_L141_21) (C := RX12) (T := TX12) (N := 61) hx hb ha ix12 hown hK hP 0 rfl rfl 38 (by decide) (ha _ q998) (fun _ h9 => h9) rfl dX12_walk_220 ?_
                refine lv_ldc2 (v := (-1000000)) hx hb hown (ha _ q1324) dX12_walk_223 ?_
                refine xl_lt (tgt := 252) hx hb dX12_walk_226 dX12_walk_227 (by decide) (fun c25 => ?_) (fun c25 => ?_)
                · have h := br_pos c25 h
                  cases h
                  exact kk3 rfl _ _ _ hP hD hS (lv_sub hl [] rfl)
                · have h := br_neg c25 h
                  refine lv_aload_n hx hb dX12_walk_230 rfl (lv_at hl 0 rfl) ?_
                  refine va_get (D := D) (ci := 12) (v := .long x_t_quotientZ_L141_21) (C := RX12) (T := TX12) (N := 61) hx hb ha ix12 hown hK hP 0 rfl rfl 39 (by decide) (ha _ q999) (fun _ h9 => h9) rfl dX12_walk_231 ?_
                  refine lv_ldc2 (v := 1000000) hx hb hown (ha _ q1323) dX12_walk_234 ?_
                  refine xl_gt (tgt := 252) hx hb dX12_walk_237 dX12_walk_238 (by decide) (fun c26 => ?_) (fun c26 => ?_)
                  · have h := br_pos c26 h
                    cases h
                    exact kk3 rfl _ _ _ hP hD hS (lv_sub hl [] rfl)
                  · have h := br_neg c26 h
                    refine lv_aload_n hx hb dX12_walk_241 rfl (lv_at hl 0 rfl) ?_
                    refine va_get (D := D) (ci := 12) (v := .long x_t_quotientZ_L141_21) (C := RX12) (T := TX12) (N := 61) hx hb ha ix12 hown hK hP 0 rfl rfl 39 (by decide) (ha _ q999) (fun _ h9 => h9) rfl dX12_walk_242 ?_
                    refine lv_ldc2 (v := (-1000000)) hx hb hown (ha _ q1324) dX12_walk_245 ?_
                    refine xl_ge (tgt := 253) hx hb dX12_walk_248 dX12_walk_249 (by decide) (fun c27 => ?_) (fun c27 => ?_)
                    · have h := br_pos c27 h
                      refine lv_aload_n hx hb dX12_walk_253 rfl (lv_at hl 0 rfl) ?_
                      refine va_get (D := D) (ci := 12) (v := .ref h_t_wayY) (C := RX12) (T := TX12) (N := 61) hx hb ha ix12 hown hK hP 0 rfl rfl 40 (by decide) (ha _ q1000) (fun _ h9 => h9) rfl dX12_walk_254 ?_
                      refine lv_iload_n hx hb dX12_walk_257 rfl (lv_at hl 1 rfl) ?_
                      refine lv_iconst (v := 1) hx hb dX12_walk_258 (by decide) ?_
                      refine lv_iadd hx hb dX12_walk_259 ?_
                      refine lv_aload_n hx hb dX12_walk_260 rfl (lv_at hl 0 rfl) ?_
                      refine va_get (D := D) (ci := 12) (v := .long x_t_quotientY_L141_21) (C := RX12) (T := TX12) (N := 61) hx hb ha ix12 hown hK hP 0 rfl rfl 38 (by decide) (ha _ q998) (fun _ h9 => h9) rfl dX12_walk_261 ?_
                      refine lv_l2i (v := x_t_quotientY_L141_21.toInt32) hx hb dX12_walk_264 rfl ?_
                      obtain ⟨i28, h⟩ := ix_ok h
                      refine va_iast hx hb hK hP hD hS 3 2 rfl rfl i28 dX12_walk_265 (fun H locs hP hD hS => ?_)
                      have hP : va_P D vwCl ((h_t, .inr (12, (z_t_0 :: z_t_1 :: z_t_2 :: z_t_3 :: z_t_4 :: z_t_5 :: z_t_6 :: z_t_7 :: z_t_8 :: z_t_9 :: z_t_10 :: z_t_11 :: z_t_12 :: z_t_13 :: z_t_14 :: z_t_15 :: z_t_16 :: z_t_17 :: z_t_18 :: z_t_19 :: z_t_20 :: z_t_21 :: z_t_22 :: z_t_23 :: z_t_24 :: z_t_25 :: z_t_26 :: .int t_parts :: .int t_ringP :: .int t_ringQ :: .int t_baseY :: .int t_baseZ :: z_t_32 :: z_t_33 :: .ref h_t_setY :: .ref h_t_setZ :: z_t_36 :: z_t_37 :: .long x_t_quotientY_L141_21 :: .long x_t_quotientZ_L141_21 :: .ref h_t_wayY :: .ref h_t_wayZ :: .ref h_t_places :: .int (l3 + 1) :: .int (l3 + 1) :: .int t_length0 :: .int 2 :: z_t_47 :: z_t_48 :: z_t_49 :: z_t_50 :: z_t_51 :: z_t_52 :: z_t_53 :: z_t_54 :: z_t_55 :: z_t_56 :: z_t_57 :: z_t_58 :: z_t_59 :: z_t_60 :: []))) :: (h_t_setY, .inl (k_t_setY, 25, .inl t_setY)) :: (h_t_setZ, .inl (k_t_setZ, 25, .inl t_setZ)) :: (h_t_wayY, .inl (k_t_wayY, 301, .inl (upd t_wayY (l3 + 1).toNatClampNeg x_t_quotientY_L141_21.toInt32))) :: (h_t_wayZ, .inl (k_t_wayZ, 301, .inl t_wayZ)) :: (h_t_places, .inl (k_t_places, 300, .inl (upd t_places l3.toNatClampNeg x4_L141_21))) :: R) H := hP
                      have hD : va_D A ((h_t, .inr (12, (z_t_0 :: z_t_1 :: z_t_2 :: z_t_3 :: z_t_4 :: z_t_5 :: z_t_6 :: z_t_7 :: z_t_8 :: z_t_9 :: z_t_10 :: z_t_11 :: z_t_12 :: z_t_13 :: z_t_14 :: z_t_15 :: z_t_16 :: z_t_17 :: z_t_18 :: z_t_19 :: z_t_20 :: z_t_21 :: z_t_22 :: z_t_23 :: z_t_24 :: z_t_25 :: z_t_26 :: .int t_parts :: .int t_ringP :: .int t_ringQ :: .int t_baseY :: .int t_baseZ :: z_t_32 :: z_t_33 :: .ref h_t_setY :: .ref h_t_setZ :: z_t_36 :: z_t_37 :: .long x_t_quotientY_L141_21 :: .long x_t_quotientZ_L141_21 :: .ref h_t_wayY :: .ref h_t_wayZ :: .ref h_t_places :: .int (l3 + 1) :: .int (l3 + 1) :: .int t_length0 :: .int 2 :: z_t_47 :: z_t_48 :: z_t_49 :: z_t_50 :: z_t_51 :: z_t_52 :: z_t_53 :: z_t_54 :: z_t_55 :: z_t_56 :: z_t_57 :: z_t_58 :: z_t_59 :: z_t_60 :: []))) :: (h_t_setY, .inl (k_t_setY, 25, .inl t_setY)) :: (h_t_setZ, .inl (k_t_setZ, 25, .inl t_setZ)) :: (h_t_wayY, .inl (k_t_wayY, 301, .inl (upd t_wayY (l3 + 1).toNatClampNeg x_t_quotientY_L141_21.toInt32))) :: (h_t_wayZ, .inl (k_t_wayZ, 301, .inl t_wayZ)) :: (h_t_places, .inl (k_t_places, 300, .inl (upd t_places l3.toNatClampNeg x4_L141_21))) :: R) := hD
                      refine lv_aload_n hx hb dX12_walk_266 rfl (lv_at hl 0 rfl) ?_
                      refine va_get (D := D) (ci := 12) (v := .ref h_t_wayZ) (C := RX12) (T := TX12) (N := 61) hx hb ha ix12 hown hK hP 0 rfl rfl 41 (by decide) (ha _ q1001) (fun _ h9 => h9) rfl dX12_walk_267 ?_
                      refine lv_iload_n hx hb dX12_walk_270 rfl (lv_at hl 1 rfl) ?_
                      refine lv_iconst (v := 1) hx hb dX12_walk_271 (by decide) ?_
                      refine lv_iadd hx hb dX12_walk_272 ?_
                      refine lv_aload_n hx hb dX12_walk_273 rfl (lv_at hl 0 rfl) ?_
                      refine va_get (D := D) (ci := 12) (v := .long x_t_quotientZ_L141_21) (C := RX12) (T := TX12) (N := 61) hx hb ha ix12 hown hK hP 0 rfl rfl 39 (by decide) (ha _ q999) (fun _ h9 => h9) rfl dX12_walk_274 ?_
                      refine lv_l2i (v := x_t_quotientZ_L141_21.toInt32) hx hb dX12_walk_277 rfl ?_
                      obtain ⟨i29, h⟩ := ix_ok h
                      refine va_iast hx hb hK hP hD hS 4 3 rfl rfl i29 dX12_walk_278 (fun H locs hP hD hS => ?_)
                      have hP : va_P D vwCl ((h_t, .inr (12, (z_t_0 :: z_t_1 :: z_t_2 :: z_t_3 :: z_t_4 :: z_t_5 :: z_t_6 :: z_t_7 :: z_t_8 :: z_t_9 :: z_t_10 :: z_t_11 :: z_t_12 :: z_t_13 :: z_t_14 :: z_t_15 :: z_t_16 :: z_t_17 :: z_t_18 :: z_t_19 :: z_t_20 :: z_t_21 :: z_t_22 :: z_t_23 :: z_t_24 :: z_t_25 :: z_t_26 :: .int t_parts :: .int t_ringP :: .int t_ringQ :: .int t_baseY :: .int t_baseZ :: z_t_32 :: z_t_33 :: .ref h_t_setY :: .ref h_t_setZ :: z_t_36 :: z_t_37 :: .long x_t_quotientY_L141_21 :: .long x_t_quotientZ_L141_21 :: .ref h_t_wayY :: .ref h_t_wayZ :: .ref h_t_places :: .int (l3 + 1) :: .int (l3 + 1) :: .int t_length0 :: .int 2 :: z_t_47 :: z_t_48 :: z_t_49 :: z_t_50 :: z_t_51 :: z_t_52 :: z_t_53 :: z_t_54 :: z_t_55 :: z_t_56 :: z_t_57 :: z_t_58 :: z_t_59 :: z_t_60 :: []))) :: (h_t_setY, .inl (k_t_setY, 25, .inl t_setY)) :: (h_t_setZ, .inl (k_t_setZ, 25, .inl t_setZ)) :: (h_t_wayY, .inl (k_t_wayY, 301, .inl (upd t_wayY (l3 + 1).toNatClampNeg x_t_quotientY_L141_21.toInt32))) :: (h_t_wayZ, .inl (k_t_wayZ, 301, .inl (upd t_wayZ (l3 + 1).toNatClampNeg x_t_quotientZ_L141_21.toInt32))) :: (h_t_places, .inl (k_t_places, 300, .inl (upd t_places l3.toNatClampNeg x4_L141_21))) :: R) H := hP
                      have hD : va_D A ((h_t, .inr (12, (z_t_0 :: z_t_1 :: z_t_2 :: z_t_3 :: z_t_4 :: z_t_5 :: z_t_6 :: z_t_7 :: z_t_8 :: z_t_9 :: z_t_10 :: z_t_11 :: z_t_12 :: z_t_13 :: z_t_14 :: z_t_15 :: z_t_16 :: z_t_17 :: z_t_18 :: z_t_19 :: z_t_20 :: z_t_21 :: z_t_22 :: z_t_23 :: z_t_24 :: z_t_25 :: z_t_26 :: .int t_parts :: .int t_ringP :: .int t_ringQ :: .int t_baseY :: .int t_baseZ :: z_t_32 :: z_t_33 :: .ref h_t_setY :: .ref h_t_setZ :: z_t_36 :: z_t_37 :: .long x_t_quotientY_L141_21 :: .long x_t_quotientZ_L141_21 :: .ref h_t_wayY :: .ref h_t_wayZ :: .ref h_t_places :: .int (l3 + 1) :: .int (l3 + 1) :: .int t_length0 :: .int 2 :: z_t_47 :: z_t_48 :: z_t_49 :: z_t_50 :: z_t_51 :: z_t_52 :: z_t_53 :: z_t_54 :: z_t_55 :: z_t_56 :: z_t_57 :: z_t_58 :: z_t_59 :: z_t_60 :: []))) :: (h_t_setY, .inl (k_t_setY, 25, .inl t_setY)) :: (h_t_setZ, .inl (k_t_setZ, 25, .inl t_setZ)) :: (h_t_wayY, .inl (k_t_wayY, 301, .inl (upd t_wayY (l3 + 1).toNatClampNeg x_t_quotientY_L141_21.toInt32))) :: (h_t_wayZ, .inl (k_t_wayZ, 301, .inl (upd t_wayZ (l3 + 1).toNatClampNeg x_t_quotientZ_L141_21.toInt32))) :: (h_t_places, .inl (k_t_places, 300, .inl (upd t_places l3.toNatClampNeg x4_L141_21))) :: R) := hD
                      refine lv_iinc (v := (l3 + 1)) (lv' := [(3, .int (l3 + 1)), (0, .ref h_t), (4, .int x4_L141_21)]) hx hb dX12_walk_279 hl (k := 1) rfl rfl (by decide) rfl (fun ls hl => ?_)
                      refine lv_goto (tgt := 26) hx hb dX12_walk_282 (by decide) ?_
                      exact ih (l3 + 1) x_t_quotientY_L141_21 x_t_quotientZ_L141_21 (l3 + 1) (l3 + 1) t_length0 2 (upd t_wayY (l3 + 1).toNatClampNeg x_t_quotientY_L141_21.toInt32) (upd t_wayZ (l3 + 1).toNatClampNeg x_t_quotientZ_L141_21.toInt32) (upd t_places l3.toNatClampNeg x4_L141_21) _ _ _ _ _ _ _ _ _ _ _ h _ _ _ hP hD hS (lv_sub hl [1, 0] rfl) kk0 kk1 kk2 kk3
                    · have h := br_neg c27 h
                      cases h
                      exact kk3 rfl _ _ _ hP hD hS (lv_sub hl [] rfl)
            · have h := br_pos c15 h
              cases h
              exact kk2 rfl _ _ _ hP hD hS (lv_sub hl [] rfl)
        · have h := br_pos c6 h
          cases h
          exact kk0 rfl _ _ _ hP hD hS (lv_sub hl [0] rfl)
  unfold f_X12_walk at h
  refine lv_aload_n hx hb dX12_walk_0 rfl (lv_at hl 0 rfl) ?_
  refine va_get (D := D) (ci := 12) (v := .ref h_t_wayY) (C := RX12) (T := TX12) (N := 61) hx hb ha ix12 hown hK hP 0 rfl rfl 40 (by decide) (ha _ q1000) (fun _ h9 => h9) rfl dX12_walk_1 ?_
  refine lv_iconst (v := 0) hx hb dX12_walk_4 (by decide) ?_
  refine lv_iload_n hx hb dX12_walk_5 rfl (lv_at hl 1 rfl) ?_
  obtain ⟨i1, h⟩ := ix_ok h
  refine va_iast hx hb hK hP hD hS 3 2 rfl rfl i1 dX12_walk_6 (fun H locs hP hD hS => ?_)
  have hP : va_P D vwCl ((h_t, .inr (12, (z_t_0 :: z_t_1 :: z_t_2 :: z_t_3 :: z_t_4 :: z_t_5 :: z_t_6 :: z_t_7 :: z_t_8 :: z_t_9 :: z_t_10 :: z_t_11 :: z_t_12 :: z_t_13 :: z_t_14 :: z_t_15 :: z_t_16 :: z_t_17 :: z_t_18 :: z_t_19 :: z_t_20 :: z_t_21 :: z_t_22 :: z_t_23 :: z_t_24 :: z_t_25 :: z_t_26 :: .int t_parts :: .int t_ringP :: .int t_ringQ :: .int t_baseY :: .int t_baseZ :: z_t_32 :: z_t_33 :: .ref h_t_setY :: .ref h_t_setZ :: z_t_36 :: z_t_37 :: .long t_quotientY :: .long t_quotientZ :: .ref h_t_wayY :: .ref h_t_wayZ :: .ref h_t_places :: .int t_placeMany :: .int t_met :: .int t_length0 :: .int t_how :: z_t_47 :: z_t_48 :: z_t_49 :: z_t_50 :: z_t_51 :: z_t_52 :: z_t_53 :: z_t_54 :: z_t_55 :: z_t_56 :: z_t_57 :: z_t_58 :: z_t_59 :: z_t_60 :: []))) :: (h_t_setY, .inl (k_t_setY, 25, .inl t_setY)) :: (h_t_setZ, .inl (k_t_setZ, 25, .inl t_setZ)) :: (h_t_wayY, .inl (k_t_wayY, 301, .inl (upd t_wayY (0 : Int32).toNatClampNeg l1))) :: (h_t_wayZ, .inl (k_t_wayZ, 301, .inl t_wayZ)) :: (h_t_places, .inl (k_t_places, 300, .inl t_places)) :: R) H := hP
  have hD : va_D A ((h_t, .inr (12, (z_t_0 :: z_t_1 :: z_t_2 :: z_t_3 :: z_t_4 :: z_t_5 :: z_t_6 :: z_t_7 :: z_t_8 :: z_t_9 :: z_t_10 :: z_t_11 :: z_t_12 :: z_t_13 :: z_t_14 :: z_t_15 :: z_t_16 :: z_t_17 :: z_t_18 :: z_t_19 :: z_t_20 :: z_t_21 :: z_t_22 :: z_t_23 :: z_t_24 :: z_t_25 :: z_t_26 :: .int t_parts :: .int t_ringP :: .int t_ringQ :: .int t_baseY :: .int t_baseZ :: z_t_32 :: z_t_33 :: .ref h_t_setY :: .ref h_t_setZ :: z_t_36 :: z_t_37 :: .long t_quotientY :: .long t_quotientZ :: .ref h_t_wayY :: .ref h_t_wayZ :: .ref h_t_places :: .int t_placeMany :: .int t_met :: .int t_length0 :: .int t_how :: z_t_47 :: z_t_48 :: z_t_49 :: z_t_50 :: z_t_51 :: z_t_52 :: z_t_53 :: z_t_54 :: z_t_55 :: z_t_56 :: z_t_57 :: z_t_58 :: z_t_59 :: z_t_60 :: []))) :: (h_t_setY, .inl (k_t_setY, 25, .inl t_setY)) :: (h_t_setZ, .inl (k_t_setZ, 25, .inl t_setZ)) :: (h_t_wayY, .inl (k_t_wayY, 301, .inl (upd t_wayY (0 : Int32).toNatClampNeg l1))) :: (h_t_wayZ, .inl (k_t_wayZ, 301, .inl t_wayZ)) :: (h_t_places, .inl (k_t_places, 300, .inl t_places)) :: R) := hD
  refine lv_aload_n hx hb dX12_walk_7 rfl (lv_at hl 0 rfl) ?_
  refine va_get (D := D) (ci := 12) (v := .ref h_t_wayZ) (C := RX12) (T := TX12) (N := 61) hx hb ha ix12 hown hK hP 0 rfl rfl 41 (by decide) (ha _ q1001) (fun _ h9 => h9) rfl dX12_walk_8 ?_
  refine lv_iconst (v := 0) hx hb dX12_walk_11 (by decide) ?_
  refine lv_iload_n hx hb dX12_walk_12 rfl (lv_at hl 2 rfl) ?_
  obtain ⟨i2, h⟩ := ix_ok h
  refine va_iast hx hb hK hP hD hS 4 3 rfl rfl i2 dX12_walk_13 (fun H locs hP hD hS => ?_)
  have hP : va_P D vwCl ((h_t, .inr (12, (z_t_0 :: z_t_1 :: z_t_2 :: z_t_3 :: z_t_4 :: z_t_5 :: z_t_6 :: z_t_7 :: z_t_8 :: z_t_9 :: z_t_10 :: z_t_11 :: z_t_12 :: z_t_13 :: z_t_14 :: z_t_15 :: z_t_16 :: z_t_17 :: z_t_18 :: z_t_19 :: z_t_20 :: z_t_21 :: z_t_22 :: z_t_23 :: z_t_24 :: z_t_25 :: z_t_26 :: .int t_parts :: .int t_ringP :: .int t_ringQ :: .int t_baseY :: .int t_baseZ :: z_t_32 :: z_t_33 :: .ref h_t_setY :: .ref h_t_setZ :: z_t_36 :: z_t_37 :: .long t_quotientY :: .long t_quotientZ :: .ref h_t_wayY :: .ref h_t_wayZ :: .ref h_t_places :: .int t_placeMany :: .int t_met :: .int t_length0 :: .int t_how :: z_t_47 :: z_t_48 :: z_t_49 :: z_t_50 :: z_t_51 :: z_t_52 :: z_t_53 :: z_t_54 :: z_t_55 :: z_t_56 :: z_t_57 :: z_t_58 :: z_t_59 :: z_t_60 :: []))) :: (h_t_setY, .inl (k_t_setY, 25, .inl t_setY)) :: (h_t_setZ, .inl (k_t_setZ, 25, .inl t_setZ)) :: (h_t_wayY, .inl (k_t_wayY, 301, .inl (upd t_wayY (0 : Int32).toNatClampNeg l1))) :: (h_t_wayZ, .inl (k_t_wayZ, 301, .inl (upd t_wayZ (0 : Int32).toNatClampNeg l2))) :: (h_t_places, .inl (k_t_places, 300, .inl t_places)) :: R) H := hP
  have hD : va_D A ((h_t, .inr (12, (z_t_0 :: z_t_1 :: z_t_2 :: z_t_3 :: z_t_4 :: z_t_5 :: z_t_6 :: z_t_7 :: z_t_8 :: z_t_9 :: z_t_10 :: z_t_11 :: z_t_12 :: z_t_13 :: z_t_14 :: z_t_15 :: z_t_16 :: z_t_17 :: z_t_18 :: z_t_19 :: z_t_20 :: z_t_21 :: z_t_22 :: z_t_23 :: z_t_24 :: z_t_25 :: z_t_26 :: .int t_parts :: .int t_ringP :: .int t_ringQ :: .int t_baseY :: .int t_baseZ :: z_t_32 :: z_t_33 :: .ref h_t_setY :: .ref h_t_setZ :: z_t_36 :: z_t_37 :: .long t_quotientY :: .long t_quotientZ :: .ref h_t_wayY :: .ref h_t_wayZ :: .ref h_t_places :: .int t_placeMany :: .int t_met :: .int t_length0 :: .int t_how :: z_t_47 :: z_t_48 :: z_t_49 :: z_t_50 :: z_t_51 :: z_t_52 :: z_t_53 :: z_t_54 :: z_t_55 :: z_t_56 :: z_t_57 :: z_t_58 :: z_t_59 :: z_t_60 :: []))) :: (h_t_setY, .inl (k_t_setY, 25, .inl t_setY)) :: (h_t_setZ, .inl (k_t_setZ, 25, .inl t_setZ)) :: (h_t_wayY, .inl (k_t_wayY, 301, .inl (upd t_wayY (0 : Int32).toNatClampNeg l1))) :: (h_t_wayZ, .inl (k_t_wayZ, 301, .inl (upd t_wayZ (0 : Int32).toNatClampNeg l2))) :: (h_t_places, .inl (k_t_places, 300, .inl t_places)) :: R) := hD
  refine lv_aload_n hx hb dX12_walk_14 rfl (lv_at hl 0 rfl) ?_
  refine lv_iconst (v := 0) hx hb dX12_walk_15 (by decide) ?_
  refine va_put (D := D) (ci := 12) (v := .int 0) (ty := .int) (C := RX12) (T := TX12) (N := 61) hx hb ha ix12 tyX12 tyX12_ok nmX12 hown hK hP hD hS 0 rfl rfl 43 (by decide) (ha _ q1003) (fun _ h9 => h9) rfl (by decide +kernel) rfl rfl (Nat.le_of_ble_eq_true rfl) dX12_walk_16 (fun H locs hP hD hS => ?_)
  have hP : va_P D vwCl ((h_t, .inr (12, (z_t_0 :: z_t_1 :: z_t_2 :: z_t_3 :: z_t_4 :: z_t_5 :: z_t_6 :: z_t_7 :: z_t_8 :: z_t_9 :: z_t_10 :: z_t_11 :: z_t_12 :: z_t_13 :: z_t_14 :: z_t_15 :: z_t_16 :: z_t_17 :: z_t_18 :: z_t_19 :: z_t_20 :: z_t_21 :: z_t_22 :: z_t_23 :: z_t_24 :: z_t_25 :: z_t_26 :: .int t_parts :: .int t_ringP :: .int t_ringQ :: .int t_baseY :: .int t_baseZ :: z_t_32 :: z_t_33 :: .ref h_t_setY :: .ref h_t_setZ :: z_t_36 :: z_t_37 :: .long t_quotientY :: .long t_quotientZ :: .ref h_t_wayY :: .ref h_t_wayZ :: .ref h_t_places :: .int 0 :: .int t_met :: .int t_length0 :: .int t_how :: z_t_47 :: z_t_48 :: z_t_49 :: z_t_50 :: z_t_51 :: z_t_52 :: z_t_53 :: z_t_54 :: z_t_55 :: z_t_56 :: z_t_57 :: z_t_58 :: z_t_59 :: z_t_60 :: []))) :: (h_t_setY, .inl (k_t_setY, 25, .inl t_setY)) :: (h_t_setZ, .inl (k_t_setZ, 25, .inl t_setZ)) :: (h_t_wayY, .inl (k_t_wayY, 301, .inl (upd t_wayY (0 : Int32).toNatClampNeg l1))) :: (h_t_wayZ, .inl (k_t_wayZ, 301, .inl (upd t_wayZ (0 : Int32).toNatClampNeg l2))) :: (h_t_places, .inl (k_t_places, 300, .inl t_places)) :: R) H := hP
  have hD : va_D A ((h_t, .inr (12, (z_t_0 :: z_t_1 :: z_t_2 :: z_t_3 :: z_t_4 :: z_t_5 :: z_t_6 :: z_t_7 :: z_t_8 :: z_t_9 :: z_t_10 :: z_t_11 :: z_t_12 :: z_t_13 :: z_t_14 :: z_t_15 :: z_t_16 :: z_t_17 :: z_t_18 :: z_t_19 :: z_t_20 :: z_t_21 :: z_t_22 :: z_t_23 :: z_t_24 :: z_t_25 :: z_t_26 :: .int t_parts :: .int t_ringP :: .int t_ringQ :: .int t_baseY :: .int t_baseZ :: z_t_32 :: z_t_33 :: .ref h_t_setY :: .ref h_t_setZ :: z_t_36 :: z_t_37 :: .long t_quotientY :: .long t_quotientZ :: .ref h_t_wayY :: .ref h_t_wayZ :: .ref h_t_places :: .int 0 :: .int t_met :: .int t_length0 :: .int t_how :: z_t_47 :: z_t_48 :: z_t_49 :: z_t_50 :: z_t_51 :: z_t_52 :: z_t_53 :: z_t_54 :: z_t_55 :: z_t_56 :: z_t_57 :: z_t_58 :: z_t_59 :: z_t_60 :: []))) :: (h_t_setY, .inl (k_t_setY, 25, .inl t_setY)) :: (h_t_setZ, .inl (k_t_setZ, 25, .inl t_setZ)) :: (h_t_wayY, .inl (k_t_wayY, 301, .inl (upd t_wayY (0 : Int32).toNatClampNeg l1))) :: (h_t_wayZ, .inl (k_t_wayZ, 301, .inl (upd t_wayZ (0 : Int32).toNatClampNeg l2))) :: (h_t_places, .inl (k_t_places, 300, .inl t_places)) :: R) := hD
  refine lv_aload_n hx hb dX12_walk_19 rfl (lv_at hl 0 rfl) ?_
  refine lv_iconst (v := 0) hx hb dX12_walk_20 (by decide) ?_
  refine va_put (D := D) (ci := 12) (v := .int 0) (ty := .int) (C := RX12) (T := TX12) (N := 61) hx hb ha ix12 tyX12 tyX12_ok nmX12 hown hK hP hD hS 0 rfl rfl 45 (by decide) (ha _ q1005) (fun _ h9 => h9) rfl (by decide +kernel) rfl rfl (Nat.le_of_ble_eq_true rfl) dX12_walk_21 (fun H locs hP hD hS => ?_)
  have hP : va_P D vwCl ((h_t, .inr (12, (z_t_0 :: z_t_1 :: z_t_2 :: z_t_3 :: z_t_4 :: z_t_5 :: z_t_6 :: z_t_7 :: z_t_8 :: z_t_9 :: z_t_10 :: z_t_11 :: z_t_12 :: z_t_13 :: z_t_14 :: z_t_15 :: z_t_16 :: z_t_17 :: z_t_18 :: z_t_19 :: z_t_20 :: z_t_21 :: z_t_22 :: z_t_23 :: z_t_24 :: z_t_25 :: z_t_26 :: .int t_parts :: .int t_ringP :: .int t_ringQ :: .int t_baseY :: .int t_baseZ :: z_t_32 :: z_t_33 :: .ref h_t_setY :: .ref h_t_setZ :: z_t_36 :: z_t_37 :: .long t_quotientY :: .long t_quotientZ :: .ref h_t_wayY :: .ref h_t_wayZ :: .ref h_t_places :: .int 0 :: .int t_met :: .int 0 :: .int t_how :: z_t_47 :: z_t_48 :: z_t_49 :: z_t_50 :: z_t_51 :: z_t_52 :: z_t_53 :: z_t_54 :: z_t_55 :: z_t_56 :: z_t_57 :: z_t_58 :: z_t_59 :: z_t_60 :: []))) :: (h_t_setY, .inl (k_t_setY, 25, .inl t_setY)) :: (h_t_setZ, .inl (k_t_setZ, 25, .inl t_setZ)) :: (h_t_wayY, .inl (k_t_wayY, 301, .inl (upd t_wayY (0 : Int32).toNatClampNeg l1))) :: (h_t_wayZ, .inl (k_t_wayZ, 301, .inl (upd t_wayZ (0 : Int32).toNatClampNeg l2))) :: (h_t_places, .inl (k_t_places, 300, .inl t_places)) :: R) H := hP
  have hD : va_D A ((h_t, .inr (12, (z_t_0 :: z_t_1 :: z_t_2 :: z_t_3 :: z_t_4 :: z_t_5 :: z_t_6 :: z_t_7 :: z_t_8 :: z_t_9 :: z_t_10 :: z_t_11 :: z_t_12 :: z_t_13 :: z_t_14 :: z_t_15 :: z_t_16 :: z_t_17 :: z_t_18 :: z_t_19 :: z_t_20 :: z_t_21 :: z_t_22 :: z_t_23 :: z_t_24 :: z_t_25 :: z_t_26 :: .int t_parts :: .int t_ringP :: .int t_ringQ :: .int t_baseY :: .int t_baseZ :: z_t_32 :: z_t_33 :: .ref h_t_setY :: .ref h_t_setZ :: z_t_36 :: z_t_37 :: .long t_quotientY :: .long t_quotientZ :: .ref h_t_wayY :: .ref h_t_wayZ :: .ref h_t_places :: .int 0 :: .int t_met :: .int 0 :: .int t_how :: z_t_47 :: z_t_48 :: z_t_49 :: z_t_50 :: z_t_51 :: z_t_52 :: z_t_53 :: z_t_54 :: z_t_55 :: z_t_56 :: z_t_57 :: z_t_58 :: z_t_59 :: z_t_60 :: []))) :: (h_t_setY, .inl (k_t_setY, 25, .inl t_setY)) :: (h_t_setZ, .inl (k_t_setZ, 25, .inl t_setZ)) :: (h_t_wayY, .inl (k_t_wayY, 301, .inl (upd t_wayY (0 : Int32).toNatClampNeg l1))) :: (h_t_wayZ, .inl (k_t_wayZ, 301, .inl (upd t_wayZ (0 : Int32).toNatClampNeg l2))) :: (h_t_places, .inl (k_t_places, 300, .inl t_places)) :: R) := hD
  refine lv_iconst (v := 0) hx hb dX12_walk_24 (by decide) ?_
  refine lv_istore_n (lv' := [(3, .int 0), (0, .ref h_t), (1, .int l1), (2, .int l2)]) hx hb dX12_walk_25 rfl hl (by decide) rfl (fun ls hl => ?_)
  obtain ⟨tg_L26_39, x3_L26_39, x4_L26_39, x_t_quotientY_L26_39, x_t_quotientZ_L26_39, x_t_placeMany_L26_39, x_t_met_L26_39, x_t_how_L26_39, x_t_wayY_L26_39, x_t_wayZ_L26_39, x_t_places_L26_39, e_L26_39, h⟩ := bnd11_ok h
  refine L26 _ _ 0 t_quotientY t_quotientZ 0 t_met 0 t_how (upd t_wayY (0 : Int32).toNatClampNeg l1) (upd t_wayZ (0 : Int32).toNatClampNeg l2) t_places tg_L26_39 x3_L26_39 x4_L26_39 x_t_quotientY_L26_39 x_t_quotientZ_L26_39 x_t_placeMany_L26_39 x_t_met_L26_39 x_t_how_L26_39 x_t_wayY_L26_39 x_t_wayZ_L26_39 x_t_places_L26_39 e_L26_39 _ _ _ hP hD hS (lv_sub hl [1, 0] rfl) ?_ ?_ ?_ ?_
  · intro q9 H locs ls hP hD hS hl
    have h := br_pos q9 h
    refine lv_aload_n hx hb dX12_walk_49 rfl (lv_at hl 0 rfl) ?_
    refine lv_iconst (v := 0) hx hb dX12_walk_50 (by decide) ?_
    refine va_put (D := D) (ci := 12) (v := .int 0) (ty := .int) (C := RX12) (T := TX12) (N := 61) hx hb ha ix12 tyX12 tyX12_ok nmX12 hown hK hP hD hS 0 rfl rfl 46 (by decide) (ha _ q1006) (fun _ h9 => h9) rfl (by decide +kernel) rfl rfl (Nat.le_of_ble_eq_true rfl) dX12_walk_51 (fun H locs hP hD hS => ?_)
    have hP : va_P D vwCl ((h_t, .inr (12, (z_t_0 :: z_t_1 :: z_t_2 :: z_t_3 :: z_t_4 :: z_t_5 :: z_t_6 :: z_t_7 :: z_t_8 :: z_t_9 :: z_t_10 :: z_t_11 :: z_t_12 :: z_t_13 :: z_t_14 :: z_t_15 :: z_t_16 :: z_t_17 :: z_t_18 :: z_t_19 :: z_t_20 :: z_t_21 :: z_t_22 :: z_t_23 :: z_t_24 :: z_t_25 :: z_t_26 :: .int t_parts :: .int t_ringP :: .int t_ringQ :: .int t_baseY :: .int t_baseZ :: z_t_32 :: z_t_33 :: .ref h_t_setY :: .ref h_t_setZ :: z_t_36 :: z_t_37 :: .long x_t_quotientY_L26_39 :: .long x_t_quotientZ_L26_39 :: .ref h_t_wayY :: .ref h_t_wayZ :: .ref h_t_places :: .int x_t_placeMany_L26_39 :: .int x_t_met_L26_39 :: .int 0 :: .int 0 :: z_t_47 :: z_t_48 :: z_t_49 :: z_t_50 :: z_t_51 :: z_t_52 :: z_t_53 :: z_t_54 :: z_t_55 :: z_t_56 :: z_t_57 :: z_t_58 :: z_t_59 :: z_t_60 :: []))) :: (h_t_setY, .inl (k_t_setY, 25, .inl t_setY)) :: (h_t_setZ, .inl (k_t_setZ, 25, .inl t_setZ)) :: (h_t_wayY, .inl (k_t_wayY, 301, .inl x_t_wayY_L26_39)) :: (h_t_wayZ, .inl (k_t_wayZ, 301, .inl x_t_wayZ_L26_39)) :: (h_t_places, .inl (k_t_places, 300, .inl x_t_places_L26_39)) :: R) H := hP
    have hD : va_D A ((h_t, .inr (12, (z_t_0 :: z_t_1 :: z_t_2 :: z_t_3 :: z_t_4 :: z_t_5 :: z_t_6 :: z_t_7 :: z_t_8 :: z_t_9 :: z_t_10 :: z_t_11 :: z_t_12 :: z_t_13 :: z_t_14 :: z_t_15 :: z_t_16 :: z_t_17 :: z_t_18 :: z_t_19 :: z_t_20 :: z_t_21 :: z_t_22 :: z_t_23 :: z_t_24 :: z_t_25 :: z_t_26 :: .int t_parts :: .int t_ringP :: .int t_ringQ :: .int t_baseY :: .int t_baseZ :: z_t_32 :: z_t_33 :: .ref h_t_setY :: .ref h_t_setZ :: z_t_36 :: z_t_37 :: .long x_t_quotientY_L26_39 :: .long x_t_quotientZ_L26_39 :: .ref h_t_wayY :: .ref h_t_wayZ :: .ref h_t_places :: .int x_t_placeMany_L26_39 :: .int x_t_met_L26_39 :: .int 0 :: .int 0 :: z_t_47 :: z_t_48 :: z_t_49 :: z_t_50 :: z_t_51 :: z_t_52 :: z_t_53 :: z_t_54 :: z_t_55 :: z_t_56 :: z_t_57 :: z_t_58 :: z_t_59 :: z_t_60 :: []))) :: (h_t_setY, .inl (k_t_setY, 25, .inl t_setY)) :: (h_t_setZ, .inl (k_t_setZ, 25, .inl t_setZ)) :: (h_t_wayY, .inl (k_t_wayY, 301, .inl x_t_wayY_L26_39)) :: (h_t_wayZ, .inl (k_t_wayZ, 301, .inl x_t_wayZ_L26_39)) :: (h_t_places, .inl (k_t_places, 300, .inl x_t_places_L26_39)) :: R) := hD
    cases h
    exact rt_v S hr hlk hP hD hS dX12_walk_54
  · intro q9 H locs ls hP hD hS hl
    have h := br_neg (by rw [q9]; decide) h
    have h := br_pos q9 h
    refine lv_aload_n hx hb dX12_walk_99 rfl (lv_at hl 0 rfl) ?_
    refine lv_iload hx hb dX12_walk_100 (lv_at hl 2 rfl) ?_
    refine va_put (D := D) (ci := 12) (v := .int x4_L26_39) (ty := .int) (C := RX12) (T := TX12) (N := 61) hx hb ha ix12 tyX12 tyX12_ok nmX12 hown hK hP hD hS 0 rfl rfl 44 (by decide) (ha _ q1004) (fun _ h9 => h9) rfl (by decide +kernel) rfl rfl (Nat.le_of_ble_eq_true rfl) dX12_walk_102 (fun H locs hP hD hS => ?_)
    have hP : va_P D vwCl ((h_t, .inr (12, (z_t_0 :: z_t_1 :: z_t_2 :: z_t_3 :: z_t_4 :: z_t_5 :: z_t_6 :: z_t_7 :: z_t_8 :: z_t_9 :: z_t_10 :: z_t_11 :: z_t_12 :: z_t_13 :: z_t_14 :: z_t_15 :: z_t_16 :: z_t_17 :: z_t_18 :: z_t_19 :: z_t_20 :: z_t_21 :: z_t_22 :: z_t_23 :: z_t_24 :: z_t_25 :: z_t_26 :: .int t_parts :: .int t_ringP :: .int t_ringQ :: .int t_baseY :: .int t_baseZ :: z_t_32 :: z_t_33 :: .ref h_t_setY :: .ref h_t_setZ :: z_t_36 :: z_t_37 :: .long x_t_quotientY_L26_39 :: .long x_t_quotientZ_L26_39 :: .ref h_t_wayY :: .ref h_t_wayZ :: .ref h_t_places :: .int x_t_placeMany_L26_39 :: .int x4_L26_39 :: .int 0 :: .int x_t_how_L26_39 :: z_t_47 :: z_t_48 :: z_t_49 :: z_t_50 :: z_t_51 :: z_t_52 :: z_t_53 :: z_t_54 :: z_t_55 :: z_t_56 :: z_t_57 :: z_t_58 :: z_t_59 :: z_t_60 :: []))) :: (h_t_setY, .inl (k_t_setY, 25, .inl t_setY)) :: (h_t_setZ, .inl (k_t_setZ, 25, .inl t_setZ)) :: (h_t_wayY, .inl (k_t_wayY, 301, .inl x_t_wayY_L26_39)) :: (h_t_wayZ, .inl (k_t_wayZ, 301, .inl x_t_wayZ_L26_39)) :: (h_t_places, .inl (k_t_places, 300, .inl x_t_places_L26_39)) :: R) H := hP
    have hD : va_D A ((h_t, .inr (12, (z_t_0 :: z_t_1 :: z_t_2 :: z_t_3 :: z_t_4 :: z_t_5 :: z_t_6 :: z_t_7 :: z_t_8 :: z_t_9 :: z_t_10 :: z_t_11 :: z_t_12 :: z_t_13 :: z_t_14 :: z_t_15 :: z_t_16 :: z_t_17 :: z_t_18 :: z_t_19 :: z_t_20 :: z_t_21 :: z_t_22 :: z_t_23 :: z_t_24 :: z_t_25 :: z_t_26 :: .int t_parts :: .int t_ringP :: .int t_ringQ :: .int t_baseY :: .int t_baseZ :: z_t_32 :: z_t_33 :: .ref h_t_setY :: .ref h_t_setZ :: z_t_36 :: z_t_37 :: .long x_t_quotientY_L26_39 :: .long x_t_quotientZ_L26_39 :: .ref h_t_wayY :: .ref h_t_wayZ :: .ref h_t_places :: .int x_t_placeMany_L26_39 :: .int x4_L26_39 :: .int 0 :: .int x_t_how_L26_39 :: z_t_47 :: z_t_48 :: z_t_49 :: z_t_50 :: z_t_51 :: z_t_52 :: z_t_53 :: z_t_54 :: z_t_55 :: z_t_56 :: z_t_57 :: z_t_58 :: z_t_59 :: z_t_60 :: []))) :: (h_t_setY, .inl (k_t_setY, 25, .inl t_setY)) :: (h_t_setZ, .inl (k_t_setZ, 25, .inl t_setZ)) :: (h_t_wayY, .inl (k_t_wayY, 301, .inl x_t_wayY_L26_39)) :: (h_t_wayZ, .inl (k_t_wayZ, 301, .inl x_t_wayZ_L26_39)) :: (h_t_places, .inl (k_t_places, 300, .inl x_t_places_L26_39)) :: R) := hD
    refine lv_aload_n hx hb dX12_walk_105 rfl (lv_at hl 0 rfl) ?_
    refine lv_iload_n hx hb dX12_walk_106 rfl (lv_at hl 1 rfl) ?_
    refine lv_iload hx hb dX12_walk_107 (lv_at hl 2 rfl) ?_
    refine lv_isub hx hb dX12_walk_109 ?_
    refine va_put (D := D) (ci := 12) (v := .int (x3_L26_39 - x4_L26_39)) (ty := .int) (C := RX12) (T := TX12) (N := 61) hx hb ha ix12 tyX12 tyX12_ok nmX12 hown hK hP hD hS 0 rfl rfl 45 (by decide) (ha _ q1005) (fun _ h9 => h9) rfl (by decide +kernel) rfl rfl (Nat.le_of_ble_eq_true rfl) dX12_walk_110 (fun H locs hP hD hS => ?_)
    have hP : va_P D vwCl ((h_t, .inr (12, (z_t_0 :: z_t_1 :: z_t_2 :: z_t_3 :: z_t_4 :: z_t_5 :: z_t_6 :: z_t_7 :: z_t_8 :: z_t_9 :: z_t_10 :: z_t_11 :: z_t_12 :: z_t_13 :: z_t_14 :: z_t_15 :: z_t_16 :: z_t_17 :: z_t_18 :: z_t_19 :: z_t_20 :: z_t_21 :: z_t_22 :: z_t_23 :: z_t_24 :: z_t_25 :: z_t_26 :: .int t_parts :: .int t_ringP :: .int t_ringQ :: .int t_baseY :: .int t_baseZ :: z_t_32 :: z_t_33 :: .ref h_t_setY :: .ref h_t_setZ :: z_t_36 :: z_t_37 :: .long x_t_quotientY_L26_39 :: .long x_t_quotientZ_L26_39 :: .ref h_t_wayY :: .ref h_t_wayZ :: .ref h_t_places :: .int x_t_placeMany_L26_39 :: .int x4_L26_39 :: .int (x3_L26_39 - x4_L26_39) :: .int x_t_how_L26_39 :: z_t_47 :: z_t_48 :: z_t_49 :: z_t_50 :: z_t_51 :: z_t_52 :: z_t_53 :: z_t_54 :: z_t_55 :: z_t_56 :: z_t_57 :: z_t_58 :: z_t_59 :: z_t_60 :: []))) :: (h_t_setY, .inl (k_t_setY, 25, .inl t_setY)) :: (h_t_setZ, .inl (k_t_setZ, 25, .inl t_setZ)) :: (h_t_wayY, .inl (k_t_wayY, 301, .inl x_t_wayY_L26_39)) :: (h_t_wayZ, .inl (k_t_wayZ, 301, .inl x_t_wayZ_L26_39)) :: (h_t_places, .inl (k_t_places, 300, .inl x_t_places_L26_39)) :: R) H := hP
    have hD : va_D A ((h_t, .inr (12, (z_t_0 :: z_t_1 :: z_t_2 :: z_t_3 :: z_t_4 :: z_t_5 :: z_t_6 :: z_t_7 :: z_t_8 :: z_t_9 :: z_t_10 :: z_t_11 :: z_t_12 :: z_t_13 :: z_t_14 :: z_t_15 :: z_t_16 :: z_t_17 :: z_t_18 :: z_t_19 :: z_t_20 :: z_t_21 :: z_t_22 :: z_t_23 :: z_t_24 :: z_t_25 :: z_t_26 :: .int t_parts :: .int t_ringP :: .int t_ringQ :: .int t_baseY :: .int t_baseZ :: z_t_32 :: z_t_33 :: .ref h_t_setY :: .ref h_t_setZ :: z_t_36 :: z_t_37 :: .long x_t_quotientY_L26_39 :: .long x_t_quotientZ_L26_39 :: .ref h_t_wayY :: .ref h_t_wayZ :: .ref h_t_places :: .int x_t_placeMany_L26_39 :: .int x4_L26_39 :: .int (x3_L26_39 - x4_L26_39) :: .int x_t_how_L26_39 :: z_t_47 :: z_t_48 :: z_t_49 :: z_t_50 :: z_t_51 :: z_t_52 :: z_t_53 :: z_t_54 :: z_t_55 :: z_t_56 :: z_t_57 :: z_t_58 :: z_t_59 :: z_t_60 :: []))) :: (h_t_setY, .inl (k_t_setY, 25, .inl t_setY)) :: (h_t_setZ, .inl (k_t_setZ, 25, .inl t_setZ)) :: (h_t_wayY, .inl (k_t_wayY, 301, .inl x_t_wayY_L26_39)) :: (h_t_wayZ, .inl (k_t_wayZ, 301, .inl x_t_wayZ_L26_39)) :: (h_t_places, .inl (k_t_places, 300, .inl x_t_places_L26_39)) :: R) := hD
    refine lv_aload_n hx hb dX12_walk_113 rfl (lv_at hl 0 rfl) ?_
    refine lv_iconst (v := 1) hx hb dX12_walk_114 (by decide) ?_
    refine va_put (D := D) (ci := 12) (v := .int 1) (ty := .int) (C := RX12) (T := TX12) (N := 61) hx hb ha ix12 tyX12 tyX12_ok nmX12 hown hK hP hD hS 0 rfl rfl 46 (by decide) (ha _ q1006) (fun _ h9 => h9) rfl (by decide +kernel) rfl rfl (Nat.le_of_ble_eq_true rfl) dX12_walk_115 (fun H locs hP hD hS => ?_)
    have hP : va_P D vwCl ((h_t, .inr (12, (z_t_0 :: z_t_1 :: z_t_2 :: z_t_3 :: z_t_4 :: z_t_5 :: z_t_6 :: z_t_7 :: z_t_8 :: z_t_9 :: z_t_10 :: z_t_11 :: z_t_12 :: z_t_13 :: z_t_14 :: z_t_15 :: z_t_16 :: z_t_17 :: z_t_18 :: z_t_19 :: z_t_20 :: z_t_21 :: z_t_22 :: z_t_23 :: z_t_24 :: z_t_25 :: z_t_26 :: .int t_parts :: .int t_ringP :: .int t_ringQ :: .int t_baseY :: .int t_baseZ :: z_t_32 :: z_t_33 :: .ref h_t_setY :: .ref h_t_setZ :: z_t_36 :: z_t_37 :: .long x_t_quotientY_L26_39 :: .long x_t_quotientZ_L26_39 :: .ref h_t_wayY :: .ref h_t_wayZ :: .ref h_t_places :: .int x_t_placeMany_L26_39 :: .int x4_L26_39 :: .int (x3_L26_39 - x4_L26_39) :: .int 1 :: z_t_47 :: z_t_48 :: z_t_49 :: z_t_50 :: z_t_51 :: z_t_52 :: z_t_53 :: z_t_54 :: z_t_55 :: z_t_56 :: z_t_57 :: z_t_58 :: z_t_59 :: z_t_60 :: []))) :: (h_t_setY, .inl (k_t_setY, 25, .inl t_setY)) :: (h_t_setZ, .inl (k_t_setZ, 25, .inl t_setZ)) :: (h_t_wayY, .inl (k_t_wayY, 301, .inl x_t_wayY_L26_39)) :: (h_t_wayZ, .inl (k_t_wayZ, 301, .inl x_t_wayZ_L26_39)) :: (h_t_places, .inl (k_t_places, 300, .inl x_t_places_L26_39)) :: R) H := hP
    have hD : va_D A ((h_t, .inr (12, (z_t_0 :: z_t_1 :: z_t_2 :: z_t_3 :: z_t_4 :: z_t_5 :: z_t_6 :: z_t_7 :: z_t_8 :: z_t_9 :: z_t_10 :: z_t_11 :: z_t_12 :: z_t_13 :: z_t_14 :: z_t_15 :: z_t_16 :: z_t_17 :: z_t_18 :: z_t_19 :: z_t_20 :: z_t_21 :: z_t_22 :: z_t_23 :: z_t_24 :: z_t_25 :: z_t_26 :: .int t_parts :: .int t_ringP :: .int t_ringQ :: .int t_baseY :: .int t_baseZ :: z_t_32 :: z_t_33 :: .ref h_t_setY :: .ref h_t_setZ :: z_t_36 :: z_t_37 :: .long x_t_quotientY_L26_39 :: .long x_t_quotientZ_L26_39 :: .ref h_t_wayY :: .ref h_t_wayZ :: .ref h_t_places :: .int x_t_placeMany_L26_39 :: .int x4_L26_39 :: .int (x3_L26_39 - x4_L26_39) :: .int 1 :: z_t_47 :: z_t_48 :: z_t_49 :: z_t_50 :: z_t_51 :: z_t_52 :: z_t_53 :: z_t_54 :: z_t_55 :: z_t_56 :: z_t_57 :: z_t_58 :: z_t_59 :: z_t_60 :: []))) :: (h_t_setY, .inl (k_t_setY, 25, .inl t_setY)) :: (h_t_setZ, .inl (k_t_setZ, 25, .inl t_setZ)) :: (h_t_wayY, .inl (k_t_wayY, 301, .inl x_t_wayY_L26_39)) :: (h_t_wayZ, .inl (k_t_wayZ, 301, .inl x_t_wayZ_L26_39)) :: (h_t_places, .inl (k_t_places, 300, .inl x_t_places_L26_39)) :: R) := hD
    cases h
    exact rt_v S hr hlk hP hD hS dX12_walk_118
  · intro q9 H locs ls hP hD hS hl
    have h := br_neg (by rw [q9]; decide) h
    have h := br_neg (by rw [q9]; decide) h
    have h := br_pos q9 h
    cases h
    exact rt_v S hr hlk hP hD hS dX12_walk_137
  · intro q9 H locs ls hP hD hS hl
    have h := br_neg (by rw [q9]; decide) h
    have h := br_neg (by rw [q9]; decide) h
    have h := br_neg (by rw [q9]; decide) h
    cases h
    exact rt_v S hr hlk hP hD hS dX12_walk_252
