noncomputable def f_X12_part (t_thrown : Int32) (t_has : Nat → Int32) (t_us : Nat → Int32) (t_vs : Nat → Int32) (t_ds : Nat → Int32) (l1 : Int32) (l2 : Int32) : Option (Int32 × Int32) :=
  bnd1 (f_X12_isThere t_has l1) fun r_c3_0 => (
   if r_c3_0 = 0 then (
    bnd2 (f_X12_throwsIf t_thrown 1) fun r_c23_2 t_thrown_c23_2 => (
     if r_c23_2 = 0 then (
      if l2 = 0 then (
       gd (ixb l1 10) (
        some ((t_us l1.toNatClampNeg), t_thrown_c23_2)
       )
      ) else (
       if l2 = 1 then (
        gd (ixb l1 10) (
         some ((t_vs l1.toNatClampNeg), t_thrown_c23_2)
        )
       ) else (
        gd (ixb l1 10) (
         some ((t_ds l1.toNatClampNeg), t_thrown_c23_2)
        )
       )
      )
     ) else (
      some (0, t_thrown_c23_2)
     )
    )
   ) else (
    if l2 < 0 then (
     bnd2 (f_X12_throwsIf t_thrown 1) fun r_c23_10 t_thrown_c23_10 => (
      if r_c23_10 = 0 then (
       if l2 = 0 then (
        gd (ixb l1 10) (
         some ((t_us l1.toNatClampNeg), t_thrown_c23_10)
        )
       ) else (
        if l2 = 1 then (
         gd (ixb l1 10) (
          some ((t_vs l1.toNatClampNeg), t_thrown_c23_10)
         )
        ) else (
         gd (ixb l1 10) (
          some ((t_ds l1.toNatClampNeg), t_thrown_c23_10)
         )
        )
       )
      ) else (
       some (0, t_thrown_c23_10)
      )
     )
    ) else (
     if l2 ≤ 2 then (
      bnd2 (f_X12_throwsIf t_thrown 0) fun r_c23_18 t_thrown_c23_18 => (
       if r_c23_18 = 0 then (
        if l2 = 0 then (
         gd (ixb l1 10) (
          some ((t_us l1.toNatClampNeg), t_thrown_c23_18)
         )
        ) else (
         if l2 = 1 then (
          gd (ixb l1 10) (
           some ((t_vs l1.toNatClampNeg), t_thrown_c23_18)
          )
         ) else (
          gd (ixb l1 10) (
           some ((t_ds l1.toNatClampNeg), t_thrown_c23_18)
          )
         )
        )
       ) else (
        some (0, t_thrown_c23_18)
       )
      )
     ) else (
      bnd2 (f_X12_throwsIf t_thrown 1) fun r_c23_25 t_thrown_c23_25 => (
       if r_c23_25 = 0 then (
        if l2 = 0 then (
         gd (ixb l1 10) (
          some ((t_us l1.toNatClampNeg), t_thrown_c23_25)
         )
        ) else (
         if l2 = 1 then (
          gd (ixb l1 10) (
           some ((t_vs l1.toNatClampNeg), t_thrown_c23_25)
          )
         ) else (
          gd (ixb l1 10) (
           some ((t_ds l1.toNatClampNeg), t_thrown_c23_25)
          )
         )
        )
       ) else (
        some (0, t_thrown_c23_25)
       )
      )
     )
    )
   )
  )
set_option maxHeartbeats 4000000 in
set_option maxRecDepth 100000 in
theorem c_X12_part (l : Launch) (D : va_G) (R : va_W) (h_t : Nat) (t_thrown : Int32) (z_t_1 : Value) (z_t_2 : Value) (z_t_3 : Value) (z_t_4 : Value) (z_t_5 : Value) (z_t_10 : Value) (z_t_11 : Value) (z_t_12 : Value) (z_t_13 : Value) (z_t_14 : Value) (z_t_15 : Value) (z_t_16 : Value) (z_t_17 : Value) (z_t_18 : Value) (z_t_19 : Value) (z_t_20 : Value) (z_t_21 : Value) (z_t_22 : Value) (z_t_23 : Value) (z_t_24 : Value) (z_t_25 : Value) (z_t_26 : Value) (z_t_27 : Value) (z_t_28 : Value) (z_t_29 : Value) (z_t_30 : Value) (z_t_31 : Value) (z_t_32 : Value) (z_t_33 : Value) (z_t_34 : Value) (z_t_35 : Value) (z_t_36 : Value) (z_t_37 : Value) (z_t_38 : Value) (z_t_39 : Value) (z_t_40 : Value) (z_t_41 : Value) (z_t_42 : Value) (z_t_43 : Value) (z_t_44 : Value) (z_t_45 : Value) (z_t_46 : Value) (z_t_47 : Value) (z_t_48 : Value) (z_t_49 : Value) (z_t_50 : Value) (z_t_51 : Value) (z_t_52 : Value) (z_t_53 : Value) (z_t_54 : Value) (z_t_55 : Value) (z_t_56 : Value) (z_t_57 : Value) (z_t_58 : Value) (z_t_59 : Value) (z_t_60 : Value) (h_t_has : Nat) (k_t_has : ClassId) (t_has : Nat → Int32) (h_t_us : Nat) (k_t_us : ClassId) (t_us : Nat → Int32) (h_t_vs : Nat) (k_t_vs : ClassId) (t_vs : Nat → Int32) (h_t_ds : Nat) (k_t_ds : ClassId) (t_ds : Nat → Int32) (l1 : Int32) (l2 : Int32) (r : Int32) (o_t_thrown : Int32)  (h : f_X12_part t_thrown t_has t_us t_vs t_ds l1 l2 = some (r, o_t_thrown)) (sz : Nat) : Met l yX12_part (WD yX12_part cX12_part 3 (some .int)) ({ frames := 1, cells := 0, slots := 0, locals := 21 }) (va_Pc [.ref h_t, .int l1, .int l2] (PcW D [(k_t_has, .boolean), (k_t_us, .int), (k_t_vs, .int), (k_t_ds, .int)] ((h_t, .inr (12, (.int t_thrown :: z_t_1 :: z_t_2 :: z_t_3 :: z_t_4 :: z_t_5 :: .ref h_t_has :: .ref h_t_us :: .ref h_t_vs :: .ref h_t_ds :: z_t_10 :: z_t_11 :: z_t_12 :: z_t_13 :: z_t_14 :: z_t_15 :: z_t_16 :: z_t_17 :: z_t_18 :: z_t_19 :: z_t_20 :: z_t_21 :: z_t_22 :: z_t_23 :: z_t_24 :: z_t_25 :: z_t_26 :: z_t_27 :: z_t_28 :: z_t_29 :: z_t_30 :: z_t_31 :: z_t_32 :: z_t_33 :: z_t_34 :: z_t_35 :: z_t_36 :: z_t_37 :: z_t_38 :: z_t_39 :: z_t_40 :: z_t_41 :: z_t_42 :: z_t_43 :: z_t_44 :: z_t_45 :: z_t_46 :: z_t_47 :: z_t_48 :: z_t_49 :: z_t_50 :: z_t_51 :: z_t_52 :: z_t_53 :: z_t_54 :: z_t_55 :: z_t_56 :: z_t_57 :: z_t_58 :: z_t_59 :: z_t_60 :: []))) :: (h_t_has, .inl (k_t_has, 10, .inl t_has)) :: (h_t_us, .inl (k_t_us, 10, .inl t_us)) :: (h_t_vs, .inl (k_t_vs, 10, .inl t_vs)) :: (h_t_ds, .inl (k_t_ds, 10, .inl t_ds)) :: R) sz)) (QI D r ((h_t, .inr (12, (.int o_t_thrown :: z_t_1 :: z_t_2 :: z_t_3 :: z_t_4 :: z_t_5 :: .ref h_t_has :: .ref h_t_us :: .ref h_t_vs :: .ref h_t_ds :: z_t_10 :: z_t_11 :: z_t_12 :: z_t_13 :: z_t_14 :: z_t_15 :: z_t_16 :: z_t_17 :: z_t_18 :: z_t_19 :: z_t_20 :: z_t_21 :: z_t_22 :: z_t_23 :: z_t_24 :: z_t_25 :: z_t_26 :: z_t_27 :: z_t_28 :: z_t_29 :: z_t_30 :: z_t_31 :: z_t_32 :: z_t_33 :: z_t_34 :: z_t_35 :: z_t_36 :: z_t_37 :: z_t_38 :: z_t_39 :: z_t_40 :: z_t_41 :: z_t_42 :: z_t_43 :: z_t_44 :: z_t_45 :: z_t_46 :: z_t_47 :: z_t_48 :: z_t_49 :: z_t_50 :: z_t_51 :: z_t_52 :: z_t_53 :: z_t_54 :: z_t_55 :: z_t_56 :: z_t_57 :: z_t_58 :: z_t_59 :: z_t_60 :: []))) :: (h_t_has, .inl (k_t_has, 10, .inl t_has)) :: (h_t_us, .inl (k_t_us, 10, .inl t_us)) :: (h_t_vs, .inl (k_t_vs, 10, .inl t_vs)) :: (h_t_ds, .inl (k_t_ds, 10, .inl t_ds)) :: R) (va_A ((h_t, .inr (12, (.int t_thrown :: z_t_1 :: z_t_2 :: z_t_3 :: z_t_4 :: z_t_5 :: .ref h_t_has :: .ref h_t_us :: .ref h_t_vs :: .ref h_t_ds :: z_t_10 :: z_t_11 :: z_t_12 :: z_t_13 :: z_t_14 :: z_t_15 :: z_t_16 :: z_t_17 :: z_t_18 :: z_t_19 :: z_t_20 :: z_t_21 :: z_t_22 :: z_t_23 :: z_t_24 :: z_t_25 :: z_t_26 :: z_t_27 :: z_t_28 :: z_t_29 :: z_t_30 :: z_t_31 :: z_t_32 :: z_t_33 :: z_t_34 :: z_t_35 :: z_t_36 :: z_t_37 :: z_t_38 :: z_t_39 :: z_t_40 :: z_t_41 :: z_t_42 :: z_t_43 :: z_t_44 :: z_t_45 :: z_t_46 :: z_t_47 :: z_t_48 :: z_t_49 :: z_t_50 :: z_t_51 :: z_t_52 :: z_t_53 :: z_t_54 :: z_t_55 :: z_t_56 :: z_t_57 :: z_t_58 :: z_t_59 :: z_t_60 :: []))) :: (h_t_has, .inl (k_t_has, 10, .inl t_has)) :: (h_t_us, .inl (k_t_us, 10, .inl t_us)) :: (h_t_vs, .inl (k_t_vs, 10, .inl t_vs)) :: (h_t_ds, .inl (k_t_ds, 10, .inl t_ds)) :: R) sz)) 0 0 (va_A ((h_t, .inr (12, (.int t_thrown :: z_t_1 :: z_t_2 :: z_t_3 :: z_t_4 :: z_t_5 :: .ref h_t_has :: .ref h_t_us :: .ref h_t_vs :: .ref h_t_ds :: z_t_10 :: z_t_11 :: z_t_12 :: z_t_13 :: z_t_14 :: z_t_15 :: z_t_16 :: z_t_17 :: z_t_18 :: z_t_19 :: z_t_20 :: z_t_21 :: z_t_22 :: z_t_23 :: z_t_24 :: z_t_25 :: z_t_26 :: z_t_27 :: z_t_28 :: z_t_29 :: z_t_30 :: z_t_31 :: z_t_32 :: z_t_33 :: z_t_34 :: z_t_35 :: z_t_36 :: z_t_37 :: z_t_38 :: z_t_39 :: z_t_40 :: z_t_41 :: z_t_42 :: z_t_43 :: z_t_44 :: z_t_45 :: z_t_46 :: z_t_47 :: z_t_48 :: z_t_49 :: z_t_50 :: z_t_51 :: z_t_52 :: z_t_53 :: z_t_54 :: z_t_55 :: z_t_56 :: z_t_57 :: z_t_58 :: z_t_59 :: z_t_60 :: []))) :: (h_t_has, .inl (k_t_has, 10, .inl t_has)) :: (h_t_us, .inl (k_t_us, 10, .inl t_us)) :: (h_t_vs, .inl (k_t_vs, 10, .inl t_vs)) :: (h_t_ds, .inl (k_t_ds, 10, .inl t_ds)) :: R) sz) := by
  refine ct_start (QF := fun A => QI D r ((h_t, .inr (12, (.int o_t_thrown :: z_t_1 :: z_t_2 :: z_t_3 :: z_t_4 :: z_t_5 :: .ref h_t_has :: .ref h_t_us :: .ref h_t_vs :: .ref h_t_ds :: z_t_10 :: z_t_11 :: z_t_12 :: z_t_13 :: z_t_14 :: z_t_15 :: z_t_16 :: z_t_17 :: z_t_18 :: z_t_19 :: z_t_20 :: z_t_21 :: z_t_22 :: z_t_23 :: z_t_24 :: z_t_25 :: z_t_26 :: z_t_27 :: z_t_28 :: z_t_29 :: z_t_30 :: z_t_31 :: z_t_32 :: z_t_33 :: z_t_34 :: z_t_35 :: z_t_36 :: z_t_37 :: z_t_38 :: z_t_39 :: z_t_40 :: z_t_41 :: z_t_42 :: z_t_43 :: z_t_44 :: z_t_45 :: z_t_46 :: z_t_47 :: z_t_48 :: z_t_49 :: z_t_50 :: z_t_51 :: z_t_52 :: z_t_53 :: z_t_54 :: z_t_55 :: z_t_56 :: z_t_57 :: z_t_58 :: z_t_59 :: z_t_60 :: []))) :: (h_t_has, .inl (k_t_has, 10, .inl t_has)) :: (h_t_us, .inl (k_t_us, 10, .inl t_us)) :: (h_t_vs, .inl (k_t_vs, 10, .inl t_vs)) :: (h_t_ds, .inl (k_t_ds, 10, .inl t_ds)) :: R) A) ?_ ?_ ?_
  · decide +kernel
  · exact Nat.le_of_ble_eq_true rfl
  intro p e s m args below meth c A ls S hr hlk hnm hS hA hP hD hK hN hl
  have S : CallFix p m c cX12_part 3 s args AL "DigitBenchModel" := S
  have hx := S.1
  have hb := S.2.1
  have hown := S.2.2.2.1
  have ha := S.2.2.2.2
  have hl : lv_has ls 3 [(0, .ref h_t), (1, .int l1), (2, .int l2)] := hl
  unfold f_X12_part at h
  refine lv_aload_n hx hb dX12_part_0 rfl (lv_at hl 0 rfl) ?_
  refine lv_aload_n hx hb dX12_part_1 rfl (lv_at hl 0 rfl) ?_
  refine lv_iload_n hx hb dX12_part_2 rfl (lv_at hl 1 rfl) ?_
  obtain ⟨r_c3_0, e_c3_0, h⟩ := bnd1_ok h
  refine cl_z (rn_v (ci := 12) (As := [.int l1]) (rest := [.ref h_t]) S (c_X12_isThere l D ((h_t_us, .inl (k_t_us, 10, .inl t_us)) :: (h_t_vs, .inl (k_t_vs, 10, .inl t_vs)) :: (h_t_ds, .inl (k_t_ds, 10, .inl t_ds)) :: R) h_t (.int t_thrown) (z_t_1) (z_t_2) (z_t_3) (z_t_4) (z_t_5) (.ref h_t_us) (.ref h_t_vs) (.ref h_t_ds) (z_t_10) (z_t_11) (z_t_12) (z_t_13) (z_t_14) (z_t_15) (z_t_16) (z_t_17) (z_t_18) (z_t_19) (z_t_20) (z_t_21) (z_t_22) (z_t_23) (z_t_24) (z_t_25) (z_t_26) (z_t_27) (z_t_28) (z_t_29) (z_t_30) (z_t_31) (z_t_32) (z_t_33) (z_t_34) (z_t_35) (z_t_36) (z_t_37) (z_t_38) (z_t_39) (z_t_40) (z_t_41) (z_t_42) (z_t_43) (z_t_44) (z_t_45) (z_t_46) (z_t_47) (z_t_48) (z_t_49) (z_t_50) (z_t_51) (z_t_52) (z_t_53) (z_t_54) (z_t_55) (z_t_56) (z_t_57) (z_t_58) (z_t_59) (z_t_60) h_t_has k_t_has t_has l1 r_c3_0 e_c3_0 _) q1194 q1196 q30 q61 q1197 nd_X12_isThere ⟨Nat.le_of_ble_eq_true rfl, Nat.le_of_ble_eq_true rfl⟩ rfl rfl hP hD (hK.sub (tys' := [(k_t_has, .boolean)]) [0] rfl) hN rfl ⟨0, _, rfl⟩ rfl hl.1 rfl (Nat.le_of_ble_eq_true rfl) dX12_part_3 ⟨Nat.le_of_ble_eq_true rfl, Nat.le_of_ble_eq_true rfl⟩) hS hA hD (fun H locs hP hD hS z_c3_0 => ?_)
  have hP : va_P D vwCl ((h_t, .inr (12, (.int t_thrown :: z_t_1 :: z_t_2 :: z_t_3 :: z_t_4 :: z_t_5 :: .ref h_t_has :: .ref h_t_us :: .ref h_t_vs :: .ref h_t_ds :: z_t_10 :: z_t_11 :: z_t_12 :: z_t_13 :: z_t_14 :: z_t_15 :: z_t_16 :: z_t_17 :: z_t_18 :: z_t_19 :: z_t_20 :: z_t_21 :: z_t_22 :: z_t_23 :: z_t_24 :: z_t_25 :: z_t_26 :: z_t_27 :: z_t_28 :: z_t_29 :: z_t_30 :: z_t_31 :: z_t_32 :: z_t_33 :: z_t_34 :: z_t_35 :: z_t_36 :: z_t_37 :: z_t_38 :: z_t_39 :: z_t_40 :: z_t_41 :: z_t_42 :: z_t_43 :: z_t_44 :: z_t_45 :: z_t_46 :: z_t_47 :: z_t_48 :: z_t_49 :: z_t_50 :: z_t_51 :: z_t_52 :: z_t_53 :: z_t_54 :: z_t_55 :: z_t_56 :: z_t_57 :: z_t_58 :: z_t_59 :: z_t_60 :: []))) :: (h_t_has, .inl (k_t_has, 10, .inl t_has)) :: (h_t_us, .inl (k_t_us, 10, .inl t_us)) :: (h_t_vs, .inl (k_t_vs, 10, .inl t_vs)) :: (h_t_ds, .inl (k_t_ds, 10, .inl t_ds)) :: R) H := hP
  have hD : va_D A ((h_t, .inr (12, (.int t_thrown :: z_t_1 :: z_t_2 :: z_t_3 :: z_t_4 :: z_t_5 :: .ref h_t_has :: .ref h_t_us :: .ref h_t_vs :: .ref h_t_ds :: z_t_10 :: z_t_11 :: z_t_12 :: z_t_13 :: z_t_14 :: z_t_15 :: z_t_16 :: z_t_17 :: z_t_18 :: z_t_19 :: z_t_20 :: z_t_21 :: z_t_22 :: z_t_23 :: z_t_24 :: z_t_25 :: z_t_26 :: z_t_27 :: z_t_28 :: z_t_29 :: z_t_30 :: z_t_31 :: z_t_32 :: z_t_33 :: z_t_34 :: z_t_35 :: z_t_36 :: z_t_37 :: z_t_38 :: z_t_39 :: z_t_40 :: z_t_41 :: z_t_42 :: z_t_43 :: z_t_44 :: z_t_45 :: z_t_46 :: z_t_47 :: z_t_48 :: z_t_49 :: z_t_50 :: z_t_51 :: z_t_52 :: z_t_53 :: z_t_54 :: z_t_55 :: z_t_56 :: z_t_57 :: z_t_58 :: z_t_59 :: z_t_60 :: []))) :: (h_t_has, .inl (k_t_has, 10, .inl t_has)) :: (h_t_us, .inl (k_t_us, 10, .inl t_us)) :: (h_t_vs, .inl (k_t_vs, 10, .inl t_vs)) :: (h_t_ds, .inl (k_t_ds, 10, .inl t_ds)) :: R) := hD
  refine lv_if_eq (tgt := 18) hx hb dX12_part_6 (by decide) (fun c2 => ?_) (fun c2 => ?_)
  · have h := br_pos c2 h
    refine lv_iconst (v := 1) hx hb dX12_part_18 (by decide) ?_
    refine lv_goto (tgt := 23) hx hb dX12_part_19 (by decide) ?_
    obtain ⟨r_c23_2, t_thrown_c23_2, e_c23_2, h⟩ := bnd2_ok h
    refine cl_z (rn_v (ci := 12) (As := [.int 1]) (rest := []) S (c_X12_throwsIf l D ((h_t_has, .inl (k_t_has, 10, .inl t_has)) :: (h_t_us, .inl (k_t_us, 10, .inl t_us)) :: (h_t_vs, .inl (k_t_vs, 10, .inl t_vs)) :: (h_t_ds, .inl (k_t_ds, 10, .inl t_ds)) :: R) h_t t_thrown (z_t_1) (z_t_2) (z_t_3) (z_t_4) (z_t_5) (.ref h_t_has) (.ref h_t_us) (.ref h_t_vs) (.ref h_t_ds) (z_t_10) (z_t_11) (z_t_12) (z_t_13) (z_t_14) (z_t_15) (z_t_16) (z_t_17) (z_t_18) (z_t_19) (z_t_20) (z_t_21) (z_t_22) (z_t_23) (z_t_24) (z_t_25) (z_t_26) (z_t_27) (z_t_28) (z_t_29) (z_t_30) (z_t_31) (z_t_32) (z_t_33) (z_t_34) (z_t_35) (z_t_36) (z_t_37) (z_t_38) (z_t_39) (z_t_40) (z_t_41) (z_t_42) (z_t_43) (z_t_44) (z_t_45) (z_t_46) (z_t_47) (z_t_48) (z_t_49) (z_t_50) (z_t_51) (z_t_52) (z_t_53) (z_t_54) (z_t_55) (z_t_56) (z_t_57) (z_t_58) (z_t_59) (z_t_60) 1 r_c23_2 t_thrown_c23_2 (by decide) e_c23_2 _) q1214 q1216 q34 q61 q1217 nd_X12_throwsIf ⟨Nat.le_of_ble_eq_true rfl, Nat.le_of_ble_eq_true rfl⟩ rfl rfl hP hD (hK.sub (tys' := []) [] rfl) hN rfl ⟨0, _, rfl⟩ rfl hl.1 rfl (Nat.le_of_ble_eq_true rfl) dX12_part_23 ⟨Nat.le_of_ble_eq_true rfl, Nat.le_of_ble_eq_true rfl⟩) hS hA hD (fun H locs hP hD hS z_c23_2 => ?_)
    have hP : va_P D vwCl ((h_t, .inr (12, (.int t_thrown_c23_2 :: z_t_1 :: z_t_2 :: z_t_3 :: z_t_4 :: z_t_5 :: .ref h_t_has :: .ref h_t_us :: .ref h_t_vs :: .ref h_t_ds :: z_t_10 :: z_t_11 :: z_t_12 :: z_t_13 :: z_t_14 :: z_t_15 :: z_t_16 :: z_t_17 :: z_t_18 :: z_t_19 :: z_t_20 :: z_t_21 :: z_t_22 :: z_t_23 :: z_t_24 :: z_t_25 :: z_t_26 :: z_t_27 :: z_t_28 :: z_t_29 :: z_t_30 :: z_t_31 :: z_t_32 :: z_t_33 :: z_t_34 :: z_t_35 :: z_t_36 :: z_t_37 :: z_t_38 :: z_t_39 :: z_t_40 :: z_t_41 :: z_t_42 :: z_t_43 :: z_t_44 :: z_t_45 :: z_t_46 :: z_t_47 :: z_t_48 :: z_t_49 :: z_t_50 :: z_t_51 :: z_t_52 :: z_t_53 :: z_t_54 :: z_t_55 :: z_t_56 :: z_t_57 :: z_t_58 :: z_t_59 :: z_t_60 :: []))) :: (h_t_has, .inl (k_t_has, 10, .inl t_has)) :: (h_t_us, .inl (k_t_us, 10, .inl t_us)) :: (h_t_vs, .inl (k_t_vs, 10, .inl t_vs)) :: (h_t_ds, .inl (k_t_ds, 10, .inl t_ds)) :: R) H := hP
    have hD : va_D A ((h_t, .inr (12, (.int t_thrown_c23_2 :: z_t_1 :: z_t_2 :: z_t_3 :: z_t_4 :: z_t_5 :: .ref h_t_has :: .ref h_t_us :: .ref h_t_vs :: .ref h_t_ds :: z_t_10 :: z_t_11 :: z_t_12 :: z_t_13 :: z_t_14 :: z_t_15 :: z_t_16 :: z_t_17 :: z_t_18 :: z_t_19 :: z_t_20 :: z_t_21 :: z_t_22 :: z_t_23 :: z_t_24 :: z_t_25 :: z_t_26 :: z_t_27 :: z_t_28 :: z_t_29 :: z_t_30 :: z_t_31 :: z_t_32 :: z_t_33 :: z_t_34 :: z_t_35 :: z_t_36 :: z_t_37 :: z_t_38 :: z_t_39 :: z_t_40 :: z_t_41 :: z_t_42 :: z_t_43 :: z_t_44 :: z_t_45 :: z_t_46 :: z_t_47 :: z_t_48 :: z_t_49 :: z_t_50 :: z_t_51 :: z_t_52 :: z_t_53 :: z_t_54 :: z_t_55 :: z_t_56 :: z_t_57 :: z_t_58 :: z_t_59 :: z_t_60 :: []))) :: (h_t_has, .inl (k_t_has, 10, .inl t_has)) :: (h_t_us, .inl (k_t_us, 10, .inl t_us)) :: (h_t_vs, .inl (k_t_vs, 10, .inl t_vs)) :: (h_t_ds, .inl (k_t_ds, 10, .inl t_ds)) :: R) := hD
    refine lv_if_eq (tgt := 31) hx hb dX12_part_26 (by decide) (fun c4 => ?_) (fun c4 => ?_)
    · have h := br_pos c4 h
      refine lv_iload_n hx hb dX12_part_31 rfl (lv_at hl 2 rfl) ?_
      refine lv_if_ne (tgt := 44) hx hb dX12_part_32 (by decide) (fun c5 => ?_) (fun c5 => ?_)
      · have h := br_neg c5 h
        refine lv_iload_n hx hb dX12_part_44 rfl (lv_at hl 2 rfl) ?_
        refine lv_iconst (v := 1) hx hb dX12_part_45 (by decide) ?_
        refine lv_icmp_ne (tgt := 58) hx hb dX12_part_46 (by decide) (fun c7 => ?_) (fun c7 => ?_)
        · have h := br_neg c7 h
          refine lv_aload_n hx hb dX12_part_58 rfl (lv_at hl 0 rfl) ?_
          refine va_get (D := D) (ci := 12) (v := .ref h_t_ds) (C := RX12) (T := TX12) (N := 61) hx hb ha ix12 hown hK hP 0 rfl rfl 9 (by decide) (ha _ q969) (fun _ h9 => h9) rfl dX12_part_59 ?_
          refine lv_iload_n hx hb dX12_part_62 rfl (lv_at hl 1 rfl) ?_
          obtain ⟨i9, h⟩ := ix_ok h
          refine va_iald hx hb hK hP 4 3 rfl rfl i9 dX12_part_63 ?_
          cases h
          exact rt_i S hr hlk hP hD hS dX12_part_64
        · have h := br_pos c7 h
          refine lv_aload_n hx hb dX12_part_49 rfl (lv_at hl 0 rfl) ?_
          refine va_get (D := D) (ci := 12) (v := .ref h_t_vs) (C := RX12) (T := TX12) (N := 61) hx hb ha ix12 hown hK hP 0 rfl rfl 8 (by decide) (ha _ q968) (fun _ h9 => h9) rfl dX12_part_50 ?_
          refine lv_iload_n hx hb dX12_part_53 rfl (lv_at hl 1 rfl) ?_
          obtain ⟨i8, h⟩ := ix_ok h
          refine va_iald hx hb hK hP 3 2 rfl rfl i8 dX12_part_54 ?_
          refine lv_goto (tgt := 64) hx hb dX12_part_55 (by decide) ?_
          cases h
          exact rt_i S hr hlk hP hD hS dX12_part_64
      · have h := br_pos c5 h
        refine lv_aload_n hx hb dX12_part_35 rfl (lv_at hl 0 rfl) ?_
        refine va_get (D := D) (ci := 12) (v := .ref h_t_us) (C := RX12) (T := TX12) (N := 61) hx hb ha ix12 hown hK hP 0 rfl rfl 7 (by decide) (ha _ q967) (fun _ h9 => h9) rfl dX12_part_36 ?_
        refine lv_iload_n hx hb dX12_part_39 rfl (lv_at hl 1 rfl) ?_
        obtain ⟨i6, h⟩ := ix_ok h
        refine va_iald hx hb hK hP 2 1 rfl rfl i6 dX12_part_40 ?_
        refine lv_goto (tgt := 64) hx hb dX12_part_41 (by decide) ?_
        cases h
        exact rt_i S hr hlk hP hD hS dX12_part_64
    · have h := br_neg c4 h
      refine lv_iconst (v := 0) hx hb dX12_part_29 (by decide) ?_
      cases h
      exact rt_i S hr hlk hP hD hS dX12_part_30
  · have h := br_neg c2 h
    refine lv_iload_n hx hb dX12_part_9 rfl (lv_at hl 2 rfl) ?_
    refine lv_if_lt (tgt := 18) hx hb dX12_part_10 (by decide) (fun c10 => ?_) (fun c10 => ?_)
    · have h := br_pos c10 h
      refine lv_iconst (v := 1) hx hb dX12_part_18 (by decide) ?_
      refine lv_goto (tgt := 23) hx hb dX12_part_19 (by decide) ?_
      obtain ⟨r_c23_10, t_thrown_c23_10, e_c23_10, h⟩ := bnd2_ok h
      refine cl_z (rn_v (ci := 12) (As := [.int 1]) (rest := []) S (c_X12_throwsIf l D ((h_t_has, .inl (k_t_has, 10, .inl t_has)) :: (h_t_us, .inl (k_t_us, 10, .inl t_us)) :: (h_t_vs, .inl (k_t_vs, 10, .inl t_vs)) :: (h_t_ds, .inl (k_t_ds, 10, .inl t_ds)) :: R) h_t t_thrown (z_t_1) (z_t_2) (z_t_3) (z_t_4) (z_t_5) (.ref h_t_has) (.ref h_t_us) (.ref h_t_vs) (.ref h_t_ds) (z_t_10) (z_t_11) (z_t_12) (z_t_13) (z_t_14) (z_t_15) (z_t_16) (z_t_17) (z_t_18) (z_t_19) (z_t_20) (z_t_21) (z_t_22) (z_t_23) (z_t_24) (z_t_25) (z_t_26) (z_t_27) (z_t_28) (z_t_29) (z_t_30) (z_t_31) (z_t_32) (z_t_33) (z_t_34) (z_t_35) (z_t_36) (z_t_37) (z_t_38) (z_t_39) (z_t_40) (z_t_41) (z_t_42) (z_t_43) (z_t_44) (z_t_45) (z_t_46) (z_t_47) (z_t_48) (z_t_49) (z_t_50) (z_t_51) (z_t_52) (z_t_53) (z_t_54) (z_t_55) (z_t_56) (z_t_57) (z_t_58) (z_t_59) (z_t_60) 1 r_c23_10 t_thrown_c23_10 (by decide) e_c23_10 _) q1214 q1216 q34 q61 q1217 nd_X12_throwsIf ⟨Nat.le_of_ble_eq_true rfl, Nat.le_of_ble_eq_true rfl⟩ rfl rfl hP hD (hK.sub (tys' := []) [] rfl) hN rfl ⟨0, _, rfl⟩ rfl hl.1 rfl (Nat.le_of_ble_eq_true rfl) dX12_part_23 ⟨Nat.le_of_ble_eq_true rfl, Nat.le_of_ble_eq_true rfl⟩) hS hA hD (fun H locs hP hD hS z_c23_10 => ?_)
      have hP : va_P D vwCl ((h_t, .inr (12, (.int t_thrown_c23_10 :: z_t_1 :: z_t_2 :: z_t_3 :: z_t_4 :: z_t_5 :: .ref h_t_has :: .ref h_t_us :: .ref h_t_vs :: .ref h_t_ds :: z_t_10 :: z_t_11 :: z_t_12 :: z_t_13 :: z_t_14 :: z_t_15 :: z_t_16 :: z_t_17 :: z_t_18 :: z_t_19 :: z_t_20 :: z_t_21 :: z_t_22 :: z_t_23 :: z_t_24 :: z_t_25 :: z_t_26 :: z_t_27 :: z_t_28 :: z_t_29 :: z_t_30 :: z_t_31 :: z_t_32 :: z_t_33 :: z_t_34 :: z_t_35 :: z_t_36 :: z_t_37 :: z_t_38 :: z_t_39 :: z_t_40 :: z_t_41 :: z_t_42 :: z_t_43 :: z_t_44 :: z_t_45 :: z_t_46 :: z_t_47 :: z_t_48 :: z_t_49 :: z_t_50 :: z_t_51 :: z_t_52 :: z_t_53 :: z_t_54 :: z_t_55 :: z_t_56 :: z_t_57 :: z_t_58 :: z_t_59 :: z_t_60 :: []))) :: (h_t_has, .inl (k_t_has, 10, .inl t_has)) :: (h_t_us, .inl (k_t_us, 10, .inl t_us)) :: (h_t_vs, .inl (k_t_vs, 10, .inl t_vs)) :: (h_t_ds, .inl (k_t_ds, 10, .inl t_ds)) :: R) H := hP
      have hD : va_D A ((h_t, .inr (12, (.int t_thrown_c23_10 :: z_t_1 :: z_t_2 :: z_t_3 :: z_t_4 :: z_t_5 :: .ref h_t_has :: .ref h_t_us :: .ref h_t_vs :: .ref h_t_ds :: z_t_10 :: z_t_11 :: z_t_12 :: z_t_13 :: z_t_14 :: z_t_15 :: z_t_16 :: z_t_17 :: z_t_18 :: z_t_19 :: z_t_20 :: z_t_21 :: z_t_22 :: z_t_23 :: z_t_24 :: z_t_25 :: z_t_26 :: z_t_27 :: z_t_28 :: z_t_29 :: z_t_30 :: z_t_31 :: z_t_32 :: z_t_33 :: z_t_34 :: z_t_35 :: z_t_36 :: z_t_37 :: z_t_38 :: z_t_39 :: z_t_40 :: z_t_41 :: z_t_42 :: z_t_43 :: z_t_44 :: z_t_45 :: z_t_46 :: z_t_47 :: z_t_48 :: z_t_49 :: z_t_50 :: z_t_51 :: z_t_52 :: z_t_53 :: z_t_54 :: z_t_55 :: z_t_56 :: z_t_57 :: z_t_58 :: z_t_59 :: z_t_60 :: []))) :: (h_t_has, .inl (k_t_has, 10, .inl t_has)) :: (h_t_us, .inl (k_t_us, 10, .inl t_us)) :: (h_t_vs, .inl (k_t_vs, 10, .inl t_vs)) :: (h_t_ds, .inl (k_t_ds, 10, .inl t_ds)) :: R) := hD
      refine lv_if_eq (tgt := 31) hx hb dX12_part_26 (by decide) (fun c12 => ?_) (fun c12 => ?_)
      · have h := br_pos c12 h
        refine lv_iload_n hx hb dX12_part_31 rfl (lv_at hl 2 rfl) ?_
        refine lv_if_ne (tgt := 44) hx hb dX12_part_32 (by decide) (fun c13 => ?_) (fun c13 => ?_)
        · have h := br_neg c13 h
          refine lv_iload_n hx hb dX12_part_44 rfl (lv_at hl 2 rfl) ?_
          refine lv_iconst (v := 1) hx hb dX12_part_45 (by decide) ?_
          refine lv_icmp_ne (tgt := 58) hx hb dX12_part_46 (by decide) (fun c15 => ?_) (fun c15 => ?_)
          · have h := br_neg c15 h
            refine lv_aload_n hx hb dX12_part_58 rfl (lv_at hl 0 rfl) ?_
            refine va_get (D := D) (ci := 12) (v := .ref h_t_ds) (C := RX12) (T := TX12) (N := 61) hx hb ha ix12 hown hK hP 0 rfl rfl 9 (by decide) (ha _ q969) (fun _ h9 => h9) rfl dX12_part_59 ?_
            refine lv_iload_n hx hb dX12_part_62 rfl (lv_at hl 1 rfl) ?_
            obtain ⟨i17, h⟩ := ix_ok h
            refine va_iald hx hb hK hP 4 3 rfl rfl i17 dX12_part_63 ?_
            cases h
            exact rt_i S hr hlk hP hD hS dX12_part_64
          · have h := br_pos c15 h
            refine lv_aload_n hx hb dX12_part_49 rfl (lv_at hl 0 rfl) ?_
            refine va_get (D := D) (ci := 12) (v := .ref h_t_vs) (C := RX12) (T := TX12) (N := 61) hx hb ha ix12 hown hK hP 0 rfl rfl 8 (by decide) (ha _ q968) (fun _ h9 => h9) rfl dX12_part_50 ?_
            refine lv_iload_n hx hb dX12_part_53 rfl (lv_at hl 1 rfl) ?_
            obtain ⟨i16, h⟩ := ix_ok h
            refine va_iald hx hb hK hP 3 2 rfl rfl i16 dX12_part_54 ?_
            refine lv_goto (tgt := 64) hx hb dX12_part_55 (by decide) ?_
            cases h
            exact rt_i S hr hlk hP hD hS dX12_part_64
        · have h := br_pos c13 h
          refine lv_aload_n hx hb dX12_part_35 rfl (lv_at hl 0 rfl) ?_
          refine va_get (D := D) (ci := 12) (v := .ref h_t_us) (C := RX12) (T := TX12) (N := 61) hx hb ha ix12 hown hK hP 0 rfl rfl 7 (by decide) (ha _ q967) (fun _ h9 => h9) rfl dX12_part_36 ?_
          refine lv_iload_n hx hb dX12_part_39 rfl (lv_at hl 1 rfl) ?_
          obtain ⟨i14, h⟩ := ix_ok h
          refine va_iald hx hb hK hP 2 1 rfl rfl i14 dX12_part_40 ?_
          refine lv_goto (tgt := 64) hx hb dX12_part_41 (by decide) ?_
          cases h
          exact rt_i S hr hlk hP hD hS dX12_part_64
      · have h := br_neg c12 h
        refine lv_iconst (v := 0) hx hb dX12_part_29 (by decide) ?_
        cases h
        exact rt_i S hr hlk hP hD hS dX12_part_30
    · have h := br_neg c10 h
      refine lv_iload_n hx hb dX12_part_13 rfl (lv_at hl 2 rfl) ?_
      refine lv_iconst (v := 2) hx hb dX12_part_14 (by decide) ?_
      refine lv_icmp_le (tgt := 22) hx hb dX12_part_15 (by decide) (fun c18 => ?_) (fun c18 => ?_)
      · have h := br_pos c18 h
        refine lv_iconst (v := 0) hx hb dX12_part_22 (by decide) ?_
        obtain ⟨r_c23_18, t_thrown_c23_18, e_c23_18, h⟩ := bnd2_ok h
        refine cl_z (rn_v (ci := 12) (As := [.int 0]) (rest := []) S (c_X12_throwsIf l D ((h_t_has, .inl (k_t_has, 10, .inl t_has)) :: (h_t_us, .inl (k_t_us, 10, .inl t_us)) :: (h_t_vs, .inl (k_t_vs, 10, .inl t_vs)) :: (h_t_ds, .inl (k_t_ds, 10, .inl t_ds)) :: R) h_t t_thrown (z_t_1) (z_t_2) (z_t_3) (z_t_4) (z_t_5) (.ref h_t_has) (.ref h_t_us) (.ref h_t_vs) (.ref h_t_ds) (z_t_10) (z_t_11) (z_t_12) (z_t_13) (z_t_14) (z_t_15) (z_t_16) (z_t_17) (z_t_18) (z_t_19) (z_t_20) (z_t_21) (z_t_22) (z_t_23) (z_t_24) (z_t_25) (z_t_26) (z_t_27) (z_t_28) (z_t_29) (z_t_30) (z_t_31) (z_t_32) (z_t_33) (z_t_34) (z_t_35) (z_t_36) (z_t_37) (z_t_38) (z_t_39) (z_t_40) (z_t_41) (z_t_42) (z_t_43) (z_t_44) (z_t_45) (z_t_46) (z_t_47) (z_t_48) (z_t_49) (z_t_50) (z_t_51) (z_t_52) (z_t_53) (z_t_54) (z_t_55) (z_t_56) (z_t_57) (z_t_58) (z_t_59) (z_t_60) 0 r_c23_18 t_thrown_c23_18 (by decide) e_c23_18 _) q1214 q1216 q34 q61 q1217 nd_X12_throwsIf ⟨Nat.le_of_ble_eq_true rfl, Nat.le_of_ble_eq_true rfl⟩ rfl rfl hP hD (hK.sub (tys' := []) [] rfl) hN rfl ⟨0, _, rfl⟩ rfl hl.1 rfl (Nat.le_of_ble_eq_true rfl) dX12_part_23 ⟨Nat.le_of_ble_eq_true rfl, Nat.le_of_ble_eq_true rfl⟩) hS hA hD (fun H locs hP hD hS z_c23_18 => ?_)
        have hP : va_P D vwCl ((h_t, .inr (12, (.int t_thrown_c23_18 :: z_t_1 :: z_t_2 :: z_t_3 :: z_t_4 :: z_t_5 :: .ref h_t_has :: .ref h_t_us :: .ref h_t_vs :: .ref h_t_ds :: z_t_10 :: z_t_11 :: z_t_12 :: z_t_13 :: z_t_14 :: z_t_15 :: z_t_16 :: z_t_17 :: z_t_18 :: z_t_19 :: z_t_20 :: z_t_21 :: z_t_22 :: z_t_23 :: z_t_24 :: z_t_25 :: z_t_26 :: z_t_27 :: z_t_28 :: z_t_29 :: z_t_30 :: z_t_31 :: z_t_32 :: z_t_33 :: z_t_34 :: z_t_35 :: z_t_36 :: z_t_37 :: z_t_38 :: z_t_39 :: z_t_40 :: z_t_41 :: z_t_42 :: z_t_43 :: z_t_44 :: z_t_45 :: z_t_46 :: z_t_47 :: z_t_48 :: z_t_49 :: z_t_50 :: z_t_51 :: z_t_52 :: z_t_53 :: z_t_54 :: z_t_55 :: z_t_56 :: z_t_57 :: z_t_58 :: z_t_59 :: z_t_60 :: []))) :: (h_t_has, .inl (k_t_has, 10, .inl t_has)) :: (h_t_us, .inl (k_t_us, 10, .inl t_us)) :: (h_t_vs, .inl (k_t_vs, 10, .inl t_vs)) :: (h_t_ds, .inl (k_t_ds, 10, .inl t_ds)) :: R) H := hP
        have hD : va_D A ((h_t, .inr (12, (.int t_thrown_c23_18 :: z_t_1 :: z_t_2 :: z_t_3 :: z_t_4 :: z_t_5 :: .ref h_t_has :: .ref h_t_us :: .ref h_t_vs :: .ref h_t_ds :: z_t_10 :: z_t_11 :: z_t_12 :: z_t_13 :: z_t_14 :: z_t_15 :: z_t_16 :: z_t_17 :: z_t_18 :: z_t_19 :: z_t_20 :: z_t_21 :: z_t_22 :: z_t_23 :: z_t_24 :: z_t_25 :: z_t_26 :: z_t_27 :: z_t_28 :: z_t_29 :: z_t_30 :: z_t_31 :: z_t_32 :: z_t_33 :: z_t_34 :: z_t_35 :: z_t_36 :: z_t_37 :: z_t_38 :: z_t_39 :: z_t_40 :: z_t_41 :: z_t_42 :: z_t_43 :: z_t_44 :: z_t_45 :: z_t_46 :: z_t_47 :: z_t_48 :: z_t_49 :: z_t_50 :: z_t_51 :: z_t_52 :: z_t_53 :: z_t_54 :: z_t_55 :: z_t_56 :: z_t_57 :: z_t_58 :: z_t_59 :: z_t_60 :: []))) :: (h_t_has, .inl (k_t_has, 10, .inl t_has)) :: (h_t_us, .inl (k_t_us, 10, .inl t_us)) :: (h_t_vs, .inl (k_t_vs, 10, .inl t_vs)) :: (h_t_ds, .inl (k_t_ds, 10, .inl t_ds)) :: R) := hD
        refine lv_if_eq (tgt := 31) hx hb dX12_part_26 (by decide) (fun c20 => ?_) (fun c20 => ?_)
        · have h := br_pos c20 h
          refine lv_iload_n hx hb dX12_part_31 rfl (lv_at hl 2 rfl) ?_
          refine lv_if_ne (tgt := 44) hx hb dX12_part_32 (by decide) (fun c21 => ?_) (fun c21 => ?_)
          · have h := br_neg c21 h
            refine lv_iload_n hx hb dX12_part_44 rfl (lv_at hl 2 rfl) ?_
            refine lv_iconst (v := 1) hx hb dX12_part_45 (by decide) ?_
            refine lv_icmp_ne (tgt := 58) hx hb dX12_part_46 (by decide) (fun c23 => ?_) (fun c23 => ?_)
            · have h := br_neg c23 h
              refine lv_aload_n hx hb dX12_part_58 rfl (lv_at hl 0 rfl) ?_
              refine va_get (D := D) (ci := 12) (v := .ref h_t_ds) (C := RX12) (T := TX12) (N := 61) hx hb ha ix12 hown hK hP 0 rfl rfl 9 (by decide) (ha _ q969) (fun _ h9 => h9) rfl dX12_part_59 ?_
              refine lv_iload_n hx hb dX12_part_62 rfl (lv_at hl 1 rfl) ?_
              obtain ⟨i25, h⟩ := ix_ok h
              refine va_iald hx hb hK hP 4 3 rfl rfl i25 dX12_part_63 ?_
              cases h
              exact rt_i S hr hlk hP hD hS dX12_part_64
            · have h := br_pos c23 h
              refine lv_aload_n hx hb dX12_part_49 rfl (lv_at hl 0 rfl) ?_
              refine va_get (D := D) (ci := 12) (v := .ref h_t_vs) (C := RX12) (T := TX12) (N := 61) hx hb ha ix12 hown hK hP 0 rfl rfl 8 (by decide) (ha _ q968) (fun _ h9 => h9) rfl dX12_part_50 ?_
              refine lv_iload_n hx hb dX12_part_53 rfl (lv_at hl 1 rfl) ?_
              obtain ⟨i24, h⟩ := ix_ok h
              refine va_iald hx hb hK hP 3 2 rfl rfl i24 dX12_part_54 ?_
              refine lv_goto (tgt := 64) hx hb dX12_part_55 (by decide) ?_
              cases h
              exact rt_i S hr hlk hP hD hS dX12_part_64
          · have h := br_pos c21 h
            refine lv_aload_n hx hb dX12_part_35 rfl (lv_at hl 0 rfl) ?_
            refine va_get (D := D) (ci := 12) (v := .ref h_t_us) (C := RX12) (T := TX12) (N := 61) hx hb ha ix12 hown hK hP 0 rfl rfl 7 (by decide) (ha _ q967) (fun _ h9 => h9) rfl dX12_part_36 ?_
            refine lv_iload_n hx hb dX12_part_39 rfl (lv_at hl 1 rfl) ?_
            obtain ⟨i22, h⟩ := ix_ok h
            refine va_iald hx hb hK hP 2 1 rfl rfl i22 dX12_part_40 ?_
            refine lv_goto (tgt := 64) hx hb dX12_part_41 (by decide) ?_
            cases h
            exact rt_i S hr hlk hP hD hS dX12_part_64
        · have h := br_neg c20 h
          refine lv_iconst (v := 0) hx hb dX12_part_29 (by decide) ?_
          cases h
          exact rt_i S hr hlk hP hD hS dX12_part_30
      · have h := br_neg c18 h
        refine lv_iconst (v := 1) hx hb dX12_part_18 (by decide) ?_
        refine lv_goto (tgt := 23) hx hb dX12_part_19 (by decide) ?_
        obtain ⟨r_c23_25, t_thrown_c23_25, e_c23_25, h⟩ := bnd2_ok h
        refine cl_z (rn_v (ci := 12) (As := [.int 1]) (rest := []) S (c_X12_throwsIf l D ((h_t_has, .inl (k_t_has, 10, .inl t_has)) :: (h_t_us, .inl (k_t_us, 10, .inl t_us)) :: (h_t_vs, .inl (k_t_vs, 10, .inl t_vs)) :: (h_t_ds, .inl (k_t_ds, 10, .inl t_ds)) :: R) h_t t_thrown (z_t_1) (z_t_2) (z_t_3) (z_t_4) (z_t_5) (.ref h_t_has) (.ref h_t_us) (.ref h_t_vs) (.ref h_t_ds) (z_t_10) (z_t_11) (z_t_12) (z_t_13) (z_t_14) (z_t_15) (z_t_16) (z_t_17) (z_t_18) (z_t_19) (z_t_20) (z_t_21) (z_t_22) (z_t_23) (z_t_24) (z_t_25) (z_t_26) (z_t_27) (z_t_28) (z_t_29) (z_t_30) (z_t_31) (z_t_32) (z_t_33) (z_t_34) (z_t_35) (z_t_36) (z_t_37) (z_t_38) (z_t_39) (z_t_40) (z_t_41) (z_t_42) (z_t_43) (z_t_44) (z_t_45) (z_t_46) (z_t_47) (z_t_48) (z_t_49) (z_t_50) (z_t_51) (z_t_52) (z_t_53) (z_t_54) (z_t_55) (z_t_56) (z_t_57) (z_t_58) (z_t_59) (z_t_60) 1 r_c23_25 t_thrown_c23_25 (by decide) e_c23_25 _) q1214 q1216 q34 q61 q1217 nd_X12_throwsIf ⟨Nat.le_of_ble_eq_true rfl, Nat.le_of_ble_eq_true rfl⟩ rfl rfl hP hD (hK.sub (tys' := []) [] rfl) hN rfl ⟨0, _, rfl⟩ rfl hl.1 rfl (Nat.le_of_ble_eq_true rfl) dX12_part_23 ⟨Nat.le_of_ble_eq_true rfl, Nat.le_of_ble_eq_true rfl⟩) hS hA hD (fun H locs hP hD hS z_c23_25 => ?_)
        have hP : va_P D vwCl ((h_t, .inr (12, (.int t_thrown_c23_25 :: z_t_1 :: z_t_2 :: z_t_3 :: z_t_4 :: z_t_5 :: .ref h_t_has :: .ref h_t_us :: .ref h_t_vs :: .ref h_t_ds :: z_t_10 :: z_t_11 :: z_t_12 :: z_t_13 :: z_t_14 :: z_t_15 :: z_t_16 :: z_t_17 :: z_t_18 :: z_t_19 :: z_t_20 :: z_t_21 :: z_t_22 :: z_t_23 :: z_t_24 :: z_t_25 :: z_t_26 :: z_t_27 :: z_t_28 :: z_t_29 :: z_t_30 :: z_t_31 :: z_t_32 :: z_t_33 :: z_t_34 :: z_t_35 :: z_t_36 :: z_t_37 :: z_t_38 :: z_t_39 :: z_t_40 :: z_t_41 :: z_t_42 :: z_t_43 :: z_t_44 :: z_t_45 :: z_t_46 :: z_t_47 :: z_t_48 :: z_t_49 :: z_t_50 :: z_t_51 :: z_t_52 :: z_t_53 :: z_t_54 :: z_t_55 :: z_t_56 :: z_t_57 :: z_t_58 :: z_t_59 :: z_t_60 :: []))) :: (h_t_has, .inl (k_t_has, 10, .inl t_has)) :: (h_t_us, .inl (k_t_us, 10, .inl t_us)) :: (h_t_vs, .inl (k_t_vs, 10, .inl t_vs)) :: (h_t_ds, .inl (k_t_ds, 10, .inl t_ds)) :: R) H := hP
        have hD : va_D A ((h_t, .inr (12, (.int t_thrown_c23_25 :: z_t_1 :: z_t_2 :: z_t_3 :: z_t_4 :: z_t_5 :: .ref h_t_has :: .ref h_t_us :: .ref h_t_vs :: .ref h_t_ds :: z_t_10 :: z_t_11 :: z_t_12 :: z_t_13 :: z_t_14 :: z_t_15 :: z_t_16 :: z_t_17 :: z_t_18 :: z_t_19 :: z_t_20 :: z_t_21 :: z_t_22 :: z_t_23 :: z_t_24 :: z_t_25 :: z_t_26 :: z_t_27 :: z_t_28 :: z_t_29 :: z_t_30 :: z_t_31 :: z_t_32 :: z_t_33 :: z_t_34 :: z_t_35 :: z_t_36 :: z_t_37 :: z_t_38 :: z_t_39 :: z_t_40 :: z_t_41 :: z_t_42 :: z_t_43 :: z_t_44 :: z_t_45 :: z_t_46 :: z_t_47 :: z_t_48 :: z_t_49 :: z_t_50 :: z_t_51 :: z_t_52 :: z_t_53 :: z_t_54 :: z_t_55 :: z_t_56 :: z_t_57 :: z_t_58 :: z_t_59 :: z_t_60 :: []))) :: (h_t_has, .inl (k_t_has, 10, .inl t_has)) :: (h_t_us, .inl (k_t_us, 10, .inl t_us)) :: (h_t_vs, .inl (k_t_vs, 10, .inl t_vs)) :: (h_t_ds, .inl (k_t_ds, 10, .inl t_ds)) :: R) := hD
        refine lv_if_eq (tgt := 31) hx hb dX12_part_26 (by decide) (fun c27 => ?_) (fun c27 => ?_)
        · have h := br_pos c27 h
          refine lv_iload_n hx hb dX12_part_31 rfl (lv_at hl 2 rfl) ?_
          refine lv_if_ne (tgt := 44) hx hb dX12_part_32 (by decide) (fun c28 => ?_) (fun c28 => ?_)
          · have h := br_neg c28 h
            refine lv_iload_n hx hb dX12_part_44 rfl (lv_at hl 2 rfl) ?_
            refine lv_iconst (v := 1) hx hb dX12_part_45 (by decide) ?_
            refine lv_icmp_ne (tgt := 58) hx hb dX12_part_46 (by decide) (fun c30 => ?_) (fun c30 => ?_)
            · have h := br_neg c30 h
              refine lv_aload_n hx hb dX12_part_58 rfl (lv_at hl 0 rfl) ?_
              refine va_get (D := D) (ci := 12) (v := .ref h_t_ds) (C := RX12) (T := TX12) (N := 61) hx hb ha ix12 hown hK hP 0 rfl rfl 9 (by decide) (ha _ q969) (fun _ h9 => h9) rfl dX12_part_59 ?_
              refine lv_iload_n hx hb dX12_part_62 rfl (lv_at hl 1 rfl) ?_
              obtain ⟨i32, h⟩ := ix_ok h
              refine va_iald hx hb hK hP 4 3 rfl rfl i32 dX12_part_63 ?_
              cases h
              exact rt_i S hr hlk hP hD hS dX12_part_64
            · have h := br_pos c30 h
              refine lv_aload_n hx hb dX12_part_49 rfl (lv_at hl 0 rfl) ?_
              refine va_get (D := D) (ci := 12) (v := .ref h_t_vs) (C := RX12) (T := TX12) (N := 61) hx hb ha ix12 hown hK hP 0 rfl rfl 8 (by decide) (ha _ q968) (fun _ h9 => h9) rfl dX12_part_50 ?_
              refine lv_iload_n hx hb dX12_part_53 rfl (lv_at hl 1 rfl) ?_
              obtain ⟨i31, h⟩ := ix_ok h
              refine va_iald hx hb hK hP 3 2 rfl rfl i31 dX12_part_54 ?_
              refine lv_goto (tgt := 64) hx hb dX12_part_55 (by decide) ?_
              cases h
              exact rt_i S hr hlk hP hD hS dX12_part_64
          · have h := br_pos c28 h
            refine lv_aload_n hx hb dX12_part_35 rfl (lv_at hl 0 rfl) ?_
            refine va_get (D := D) (ci := 12) (v := .ref h_t_us) (C := RX12) (T := TX12) (N := 61) hx hb ha ix12 hown hK hP 0 rfl rfl 7 (by decide) (ha _ q967) (fun _ h9 => h9) rfl dX12_part_36 ?_
            refine lv_iload_n hx hb dX12_part_39 rfl (lv_at hl 1 rfl) ?_
            obtain ⟨i29, h⟩ := ix_ok h
            refine va_iald hx hb hK hP 2 1 rfl rfl i29 dX12_part_40 ?_
            refine lv_goto (tgt := 64) hx hb dX12_part_41 (by decide) ?_
            cases h
            exact rt_i S hr hlk hP hD hS dX12_part_64
        · have h := br_neg c27 h
          refine lv_iconst (v := 0) hx hb dX12_part_29 (by decide) ?_
          cases h
          exact rt_i S hr hlk hP hD hS dX12_part_30
noncomputable def f_X12_compare (t_thrown : Int32) (t_a : Int32) (t_root : Int32) (t_has : Nat → Int32) (t_us : Nat → Int32) (t_vs : Nat → Int32) (t_ds : Nat → Int32) (l1 : Int32) (l2 : Int32) : Option (Int32 × Int32) :=
  bnd1 (f_X12_isThere t_has l1) fun r_c7_0 => (
   if r_c7_0 = 0 then (
    some (2, 0)
   ) else (
    bnd1 (f_X12_isThere t_has l2) fun r_c15_2 => (
     if r_c15_2 = 0 then (
      some (2, 0)
     ) else (
      gd (ixb l1 10) (
       gd (ixb l2 10) (
        gd (ixb l2 10) (
         gd (ixb l1 10) (
          gd (ixb l1 10) (
           gd (ixb l2 10) (
            gd (ixb l2 10) (
             gd (ixb l1 10) (
              bnd1 (f_X12_sign t_a t_root (((t_us l1.toNatClampNeg).toInt64 * (t_ds l2.toNatClampNeg).toInt64) - ((t_us l2.toNatClampNeg).toInt64 * (t_ds l1.toNatClampNeg).toInt64)) (((t_vs l1.toNatClampNeg).toInt64 * (t_ds l2.toNatClampNeg).toInt64) - ((t_vs l2.toNatClampNeg).toInt64 * (t_ds l1.toNatClampNeg).toInt64))) fun r_c86_12 => (
               some (r_c86_12, 0)
              )
             )
            )
           )
          )
         )
        )
       )
      )
     )
    )
   )
  )
set_option maxHeartbeats 4000000 in
set_option maxRecDepth 100000 in
theorem c_X12_compare (l : Launch) (D : va_G) (R : va_W) (h_t : Nat) (t_thrown : Int32) (z_t_1 : Value) (z_t_2 : Value) (t_a : Int32) (z_t_4 : Value) (t_root : Int32) (z_t_10 : Value) (z_t_11 : Value) (z_t_12 : Value) (z_t_13 : Value) (z_t_14 : Value) (z_t_15 : Value) (z_t_16 : Value) (z_t_17 : Value) (z_t_18 : Value) (z_t_19 : Value) (z_t_20 : Value) (z_t_21 : Value) (z_t_22 : Value) (z_t_23 : Value) (z_t_24 : Value) (z_t_25 : Value) (z_t_26 : Value) (z_t_27 : Value) (z_t_28 : Value) (z_t_29 : Value) (z_t_30 : Value) (z_t_31 : Value) (z_t_32 : Value) (z_t_33 : Value) (z_t_34 : Value) (z_t_35 : Value) (z_t_36 : Value) (z_t_37 : Value) (z_t_38 : Value) (z_t_39 : Value) (z_t_40 : Value) (z_t_41 : Value) (z_t_42 : Value) (z_t_43 : Value) (z_t_44 : Value) (z_t_45 : Value) (z_t_46 : Value) (z_t_47 : Value) (z_t_48 : Value) (z_t_49 : Value) (z_t_50 : Value) (z_t_51 : Value) (z_t_52 : Value) (z_t_53 : Value) (z_t_54 : Value) (z_t_55 : Value) (z_t_56 : Value) (z_t_57 : Value) (z_t_58 : Value) (z_t_59 : Value) (z_t_60 : Value) (h_t_has : Nat) (k_t_has : ClassId) (t_has : Nat → Int32) (h_t_us : Nat) (k_t_us : ClassId) (t_us : Nat → Int32) (h_t_vs : Nat) (k_t_vs : ClassId) (t_vs : Nat → Int32) (h_t_ds : Nat) (k_t_ds : ClassId) (t_ds : Nat → Int32) (l1 : Int32) (l2 : Int32) (r : Int32) (o_t_thrown : Int32)  (h : f_X12_compare t_thrown t_a t_root t_has t_us t_vs t_ds l1 l2 = some (r, o_t_thrown)) (sz : Nat) : Met l yX12_compare (WD yX12_compare cX12_compare 3 (some .int)) ({ frames := 1, cells := 0, slots := 0, locals := 28 }) (va_Pc [.ref h_t, .int l1, .int l2] (PcW D [(k_t_has, .boolean), (k_t_us, .int), (k_t_vs, .int), (k_t_ds, .int)] ((h_t, .inr (12, (.int t_thrown :: z_t_1 :: z_t_2 :: .int t_a :: z_t_4 :: .int t_root :: .ref h_t_has :: .ref h_t_us :: .ref h_t_vs :: .ref h_t_ds :: z_t_10 :: z_t_11 :: z_t_12 :: z_t_13 :: z_t_14 :: z_t_15 :: z_t_16 :: z_t_17 :: z_t_18 :: z_t_19 :: z_t_20 :: z_t_21 :: z_t_22 :: z_t_23 :: z_t_24 :: z_t_25 :: z_t_26 :: z_t_27 :: z_t_28 :: z_t_29 :: z_t_30 :: z_t_31 :: z_t_32 :: z_t_33 :: z_t_34 :: z_t_35 :: z_t_36 :: z_t_37 :: z_t_38 :: z_t_39 :: z_t_40 :: z_t_41 :: z_t_42 :: z_t_43 :: z_t_44 :: z_t_45 :: z_t_46 :: z_t_47 :: z_t_48 :: z_t_49 :: z_t_50 :: z_t_51 :: z_t_52 :: z_t_53 :: z_t_54 :: z_t_55 :: z_t_56 :: z_t_57 :: z_t_58 :: z_t_59 :: z_t_60 :: []))) :: (h_t_has, .inl (k_t_has, 10, .inl t_has)) :: (h_t_us, .inl (k_t_us, 10, .inl t_us)) :: (h_t_vs, .inl (k_t_vs, 10, .inl t_vs)) :: (h_t_ds, .inl (k_t_ds, 10, .inl t_ds)) :: R) sz)) (QI D r ((h_t, .inr (12, (.int o_t_thrown :: z_t_1 :: z_t_2 :: .int t_a :: z_t_4 :: .int t_root :: .ref h_t_has :: .ref h_t_us :: .ref h_t_vs :: .ref h_t_ds :: z_t_10 :: z_t_11 :: z_t_12 :: z_t_13 :: z_t_14 :: z_t_15 :: z_t_16 :: z_t_17 :: z_t_18 :: z_t_19 :: z_t_20 :: z_t_21 :: z_t_22 :: z_t_23 :: z_t_24 :: z_t_25 :: z_t_26 :: z_t_27 :: z_t_28 :: z_t_29 :: z_t_30 :: z_t_31 :: z_t_32 :: z_t_33 :: z_t_34 :: z_t_35 :: z_t_36 :: z_t_37 :: z_t_38 :: z_t_39 :: z_t_40 :: z_t_41 :: z_t_42 :: z_t_43 :: z_t_44 :: z_t_45 :: z_t_46 :: z_t_47 :: z_t_48 :: z_t_49 :: z_t_50 :: z_t_51 :: z_t_52 :: z_t_53 :: z_t_54 :: z_t_55 :: z_t_56 :: z_t_57 :: z_t_58 :: z_t_59 :: z_t_60 :: []))) :: (h_t_has, .inl (k_t_has, 10, .inl t_has)) :: (h_t_us, .inl (k_t_us, 10, .inl t_us)) :: (h_t_vs, .inl (k_t_vs, 10, .inl t_vs)) :: (h_t_ds, .inl (k_t_ds, 10, .inl t_ds)) :: R) (va_A ((h_t, .inr (12, (.int t_thrown :: z_t_1 :: z_t_2 :: .int t_a :: z_t_4 :: .int t_root :: .ref h_t_has :: .ref h_t_us :: .ref h_t_vs :: .ref h_t_ds :: z_t_10 :: z_t_11 :: z_t_12 :: z_t_13 :: z_t_14 :: z_t_15 :: z_t_16 :: z_t_17 :: z_t_18 :: z_t_19 :: z_t_20 :: z_t_21 :: z_t_22 :: z_t_23 :: z_t_24 :: z_t_25 :: z_t_26 :: z_t_27 :: z_t_28 :: z_t_29 :: z_t_30 :: z_t_31 :: z_t_32 :: z_t_33 :: z_t_34 :: z_t_35 :: z_t_36 :: z_t_37 :: z_t_38 :: z_t_39 :: z_t_40 :: z_t_41 :: z_t_42 :: z_t_43 :: z_t_44 :: z_t_45 :: z_t_46 :: z_t_47 :: z_t_48 :: z_t_49 :: z_t_50 :: z_t_51 :: z_t_52 :: z_t_53 :: z_t_54 :: z_t_55 :: z_t_56 :: z_t_57 :: z_t_58 :: z_t_59 :: z_t_60 :: []))) :: (h_t_has, .inl (k_t_has, 10, .inl t_has)) :: (h_t_us, .inl (k_t_us, 10, .inl t_us)) :: (h_t_vs, .inl (k_t_vs, 10, .inl t_vs)) :: (h_t_ds, .inl (k_t_ds, 10, .inl t_ds)) :: R) sz)) 0 0 (va_A ((h_t, .inr (12, (.int t_thrown :: z_t_1 :: z_t_2 :: .int t_a :: z_t_4 :: .int t_root :: .ref h_t_has :: .ref h_t_us :: .ref h_t_vs :: .ref h_t_ds :: z_t_10 :: z_t_11 :: z_t_12 :: z_t_13 :: z_t_14 :: z_t_15 :: z_t_16 :: z_t_17 :: z_t_18 :: z_t_19 :: z_t_20 :: z_t_21 :: z_t_22 :: z_t_23 :: z_t_24 :: z_t_25 :: z_t_26 :: z_t_27 :: z_t_28 :: z_t_29 :: z_t_30 :: z_t_31 :: z_t_32 :: z_t_33 :: z_t_34 :: z_t_35 :: z_t_36 :: z_t_37 :: z_t_38 :: z_t_39 :: z_t_40 :: z_t_41 :: z_t_42 :: z_t_43 :: z_t_44 :: z_t_45 :: z_t_46 :: z_t_47 :: z_t_48 :: z_t_49 :: z_t_50 :: z_t_51 :: z_t_52 :: z_t_53 :: z_t_54 :: z_t_55 :: z_t_56 :: z_t_57 :: z_t_58 :: z_t_59 :: z_t_60 :: []))) :: (h_t_has, .inl (k_t_has, 10, .inl t_has)) :: (h_t_us, .inl (k_t_us, 10, .inl t_us)) :: (h_t_vs, .inl (k_t_vs, 10, .inl t_vs)) :: (h_t_ds, .inl (k_t_ds, 10, .inl t_ds)) :: R) sz) := by
  refine ct_start (QF := fun A => QI D r ((h_t, .inr (12, (.int o_t_thrown :: z_t_1 :: z_t_2 :: .int t_a :: z_t_4 :: .int t_root :: .ref h_t_has :: .ref h_t_us :: .ref h_t_vs :: .ref h_t_ds :: z_t_10 :: z_t_11 :: z_t_12 :: z_t_13 :: z_t_14 :: z_t_15 :: z_t_16 :: z_t_17 :: z_t_18 :: z_t_19 :: z_t_20 :: z_t_21 :: z_t_22 :: z_t_23 :: z_t_24 :: z_t_25 :: z_t_26 :: z_t_27 :: z_t_28 :: z_t_29 :: z_t_30 :: z_t_31 :: z_t_32 :: z_t_33 :: z_t_34 :: z_t_35 :: z_t_36 :: z_t_37 :: z_t_38 :: z_t_39 :: z_t_40 :: z_t_41 :: z_t_42 :: z_t_43 :: z_t_44 :: z_t_45 :: z_t_46 :: z_t_47 :: z_t_48 :: z_t_49 :: z_t_50 :: z_t_51 :: z_t_52 :: z_t_53 :: z_t_54 :: z_t_55 :: z_t_56 :: z_t_57 :: z_t_58 :: z_t_59 :: z_t_60 :: []))) :: (h_t_has, .inl (k_t_has, 10, .inl t_has)) :: (h_t_us, .inl (k_t_us, 10, .inl t_us)) :: (h_t_vs, .inl (k_t_vs, 10, .inl t_vs)) :: (h_t_ds, .inl (k_t_ds, 10, .inl t_ds)) :: R) A) ?_ ?_ ?_
  · decide +kernel
  · exact Nat.le_of_ble_eq_true rfl
  intro p e s m args below meth c A ls S hr hlk hnm hS hA hP hD hK hN hl
  have S : CallFix p m c cX12_compare 3 s args AL "DigitBenchModel" := S
  have hx := S.1
  have hb := S.2.1
  have hown := S.2.2.2.1
  have ha := S.2.2.2.2
  have hl : lv_has ls 3 [(0, .ref h_t), (1, .int l1), (2, .int l2)] := hl
  unfold f_X12_compare at h
  refine lv_aload_n hx hb dX12_compare_0 rfl (lv_at hl 0 rfl) ?_
  refine lv_iconst (v := 0) hx hb dX12_compare_1 (by decide) ?_
  refine va_put (D := D) (ci := 12) (v := .int 0) (ty := .int) (C := RX12) (T := TX12) (N := 61) hx hb ha ix12 tyX12 tyX12_ok nmX12 hown hK hP hD hS 0 rfl rfl 0 (by decide) (ha _ q960) (fun _ h9 => h9) rfl (by decide +kernel) rfl rfl (Nat.le_of_ble_eq_true rfl) dX12_compare_2 (fun H locs hP hD hS => ?_)
  have hP : va_P D vwCl ((h_t, .inr (12, (.int 0 :: z_t_1 :: z_t_2 :: .int t_a :: z_t_4 :: .int t_root :: .ref h_t_has :: .ref h_t_us :: .ref h_t_vs :: .ref h_t_ds :: z_t_10 :: z_t_11 :: z_t_12 :: z_t_13 :: z_t_14 :: z_t_15 :: z_t_16 :: z_t_17 :: z_t_18 :: z_t_19 :: z_t_20 :: z_t_21 :: z_t_22 :: z_t_23 :: z_t_24 :: z_t_25 :: z_t_26 :: z_t_27 :: z_t_28 :: z_t_29 :: z_t_30 :: z_t_31 :: z_t_32 :: z_t_33 :: z_t_34 :: z_t_35 :: z_t_36 :: z_t_37 :: z_t_38 :: z_t_39 :: z_t_40 :: z_t_41 :: z_t_42 :: z_t_43 :: z_t_44 :: z_t_45 :: z_t_46 :: z_t_47 :: z_t_48 :: z_t_49 :: z_t_50 :: z_t_51 :: z_t_52 :: z_t_53 :: z_t_54 :: z_t_55 :: z_t_56 :: z_t_57 :: z_t_58 :: z_t_59 :: z_t_60 :: []))) :: (h_t_has, .inl (k_t_has, 10, .inl t_has)) :: (h_t_us, .inl (k_t_us, 10, .inl t_us)) :: (h_t_vs, .inl (k_t_vs, 10, .inl t_vs)) :: (h_t_ds, .inl (k_t_ds, 10, .inl t_ds)) :: R) H := hP
  have hD : va_D A ((h_t, .inr (12, (.int 0 :: z_t_1 :: z_t_2 :: .int t_a :: z_t_4 :: .int t_root :: .ref h_t_has :: .ref h_t_us :: .ref h_t_vs :: .ref h_t_ds :: z_t_10 :: z_t_11 :: z_t_12 :: z_t_13 :: z_t_14 :: z_t_15 :: z_t_16 :: z_t_17 :: z_t_18 :: z_t_19 :: z_t_20 :: z_t_21 :: z_t_22 :: z_t_23 :: z_t_24 :: z_t_25 :: z_t_26 :: z_t_27 :: z_t_28 :: z_t_29 :: z_t_30 :: z_t_31 :: z_t_32 :: z_t_33 :: z_t_34 :: z_t_35 :: z_t_36 :: z_t_37 :: z_t_38 :: z_t_39 :: z_t_40 :: z_t_41 :: z_t_42 :: z_t_43 :: z_t_44 :: z_t_45 :: z_t_46 :: z_t_47 :: z_t_48 :: z_t_49 :: z_t_50 :: z_t_51 :: z_t_52 :: z_t_53 :: z_t_54 :: z_t_55 :: z_t_56 :: z_t_57 :: z_t_58 :: z_t_59 :: z_t_60 :: []))) :: (h_t_has, .inl (k_t_has, 10, .inl t_has)) :: (h_t_us, .inl (k_t_us, 10, .inl t_us)) :: (h_t_vs, .inl (k_t_vs, 10, .inl t_vs)) :: (h_t_ds, .inl (k_t_ds, 10, .inl t_ds)) :: R) := hD
  refine lv_aload_n hx hb dX12_compare_5 rfl (lv_at hl 0 rfl) ?_
  refine lv_iload_n hx hb dX12_compare_6 rfl (lv_at hl 1 rfl) ?_
  obtain ⟨r_c7_0, e_c7_0, h⟩ := bnd1_ok h
  refine cl_z (rn_v (ci := 12) (As := [.int l1]) (rest := []) S (c_X12_isThere l D ((h_t_us, .inl (k_t_us, 10, .inl t_us)) :: (h_t_vs, .inl (k_t_vs, 10, .inl t_vs)) :: (h_t_ds, .inl (k_t_ds, 10, .inl t_ds)) :: R) h_t (.int 0) (z_t_1) (z_t_2) (.int t_a) (z_t_4) (.int t_root) (.ref h_t_us) (.ref h_t_vs) (.ref h_t_ds) (z_t_10) (z_t_11) (z_t_12) (z_t_13) (z_t_14) (z_t_15) (z_t_16) (z_t_17) (z_t_18) (z_t_19) (z_t_20) (z_t_21) (z_t_22) (z_t_23) (z_t_24) (z_t_25) (z_t_26) (z_t_27) (z_t_28) (z_t_29) (z_t_30) (z_t_31) (z_t_32) (z_t_33) (z_t_34) (z_t_35) (z_t_36) (z_t_37) (z_t_38) (z_t_39) (z_t_40) (z_t_41) (z_t_42) (z_t_43) (z_t_44) (z_t_45) (z_t_46) (z_t_47) (z_t_48) (z_t_49) (z_t_50) (z_t_51) (z_t_52) (z_t_53) (z_t_54) (z_t_55) (z_t_56) (z_t_57) (z_t_58) (z_t_59) (z_t_60) h_t_has k_t_has t_has l1 r_c7_0 e_c7_0 _) q1194 q1196 q30 q61 q1197 nd_X12_isThere ⟨Nat.le_of_ble_eq_true rfl, Nat.le_of_ble_eq_true rfl⟩ rfl rfl hP hD (hK.sub (tys' := [(k_t_has, .boolean)]) [0] rfl) hN rfl ⟨0, _, rfl⟩ rfl hl.1 rfl (Nat.le_of_ble_eq_true rfl) dX12_compare_7 ⟨Nat.le_of_ble_eq_true rfl, Nat.le_of_ble_eq_true rfl⟩) hS hA hD (fun H locs hP hD hS z_c7_0 => ?_)
  have hP : va_P D vwCl ((h_t, .inr (12, (.int 0 :: z_t_1 :: z_t_2 :: .int t_a :: z_t_4 :: .int t_root :: .ref h_t_has :: .ref h_t_us :: .ref h_t_vs :: .ref h_t_ds :: z_t_10 :: z_t_11 :: z_t_12 :: z_t_13 :: z_t_14 :: z_t_15 :: z_t_16 :: z_t_17 :: z_t_18 :: z_t_19 :: z_t_20 :: z_t_21 :: z_t_22 :: z_t_23 :: z_t_24 :: z_t_25 :: z_t_26 :: z_t_27 :: z_t_28 :: z_t_29 :: z_t_30 :: z_t_31 :: z_t_32 :: z_t_33 :: z_t_34 :: z_t_35 :: z_t_36 :: z_t_37 :: z_t_38 :: z_t_39 :: z_t_40 :: z_t_41 :: z_t_42 :: z_t_43 :: z_t_44 :: z_t_45 :: z_t_46 :: z_t_47 :: z_t_48 :: z_t_49 :: z_t_50 :: z_t_51 :: z_t_52 :: z_t_53 :: z_t_54 :: z_t_55 :: z_t_56 :: z_t_57 :: z_t_58 :: z_t_59 :: z_t_60 :: []))) :: (h_t_has, .inl (k_t_has, 10, .inl t_has)) :: (h_t_us, .inl (k_t_us, 10, .inl t_us)) :: (h_t_vs, .inl (k_t_vs, 10, .inl t_vs)) :: (h_t_ds, .inl (k_t_ds, 10, .inl t_ds)) :: R) H := hP
  have hD : va_D A ((h_t, .inr (12, (.int 0 :: z_t_1 :: z_t_2 :: .int t_a :: z_t_4 :: .int t_root :: .ref h_t_has :: .ref h_t_us :: .ref h_t_vs :: .ref h_t_ds :: z_t_10 :: z_t_11 :: z_t_12 :: z_t_13 :: z_t_14 :: z_t_15 :: z_t_16 :: z_t_17 :: z_t_18 :: z_t_19 :: z_t_20 :: z_t_21 :: z_t_22 :: z_t_23 :: z_t_24 :: z_t_25 :: z_t_26 :: z_t_27 :: z_t_28 :: z_t_29 :: z_t_30 :: z_t_31 :: z_t_32 :: z_t_33 :: z_t_34 :: z_t_35 :: z_t_36 :: z_t_37 :: z_t_38 :: z_t_39 :: z_t_40 :: z_t_41 :: z_t_42 :: z_t_43 :: z_t_44 :: z_t_45 :: z_t_46 :: z_t_47 :: z_t_48 :: z_t_49 :: z_t_50 :: z_t_51 :: z_t_52 :: z_t_53 :: z_t_54 :: z_t_55 :: z_t_56 :: z_t_57 :: z_t_58 :: z_t_59 :: z_t_60 :: []))) :: (h_t_has, .inl (k_t_has, 10, .inl t_has)) :: (h_t_us, .inl (k_t_us, 10, .inl t_us)) :: (h_t_vs, .inl (k_t_vs, 10, .inl t_vs)) :: (h_t_ds, .inl (k_t_ds, 10, .inl t_ds)) :: R) := hD
  refine lv_if_eq (tgt := 21) hx hb dX12_compare_10 (by decide) (fun c2 => ?_) (fun c2 => ?_)
  · have h := br_pos c2 h
    refine lv_iconst (v := 2) hx hb dX12_compare_21 (by decide) ?_
    cases h
    exact rt_i S hr hlk hP hD hS dX12_compare_22
  · have h := br_neg c2 h
    refine lv_aload_n hx hb dX12_compare_13 rfl (lv_at hl 0 rfl) ?_
    refine lv_iload_n hx hb dX12_compare_14 rfl (lv_at hl 2 rfl) ?_
    obtain ⟨r_c15_2, e_c15_2, h⟩ := bnd1_ok h
    refine cl_z (rn_v (ci := 12) (As := [.int l2]) (rest := []) S (c_X12_isThere l D ((h_t_us, .inl (k_t_us, 10, .inl t_us)) :: (h_t_vs, .inl (k_t_vs, 10, .inl t_vs)) :: (h_t_ds, .inl (k_t_ds, 10, .inl t_ds)) :: R) h_t (.int 0) (z_t_1) (z_t_2) (.int t_a) (z_t_4) (.int t_root) (.ref h_t_us) (.ref h_t_vs) (.ref h_t_ds) (z_t_10) (z_t_11) (z_t_12) (z_t_13) (z_t_14) (z_t_15) (z_t_16) (z_t_17) (z_t_18) (z_t_19) (z_t_20) (z_t_21) (z_t_22) (z_t_23) (z_t_24) (z_t_25) (z_t_26) (z_t_27) (z_t_28) (z_t_29) (z_t_30) (z_t_31) (z_t_32) (z_t_33) (z_t_34) (z_t_35) (z_t_36) (z_t_37) (z_t_38) (z_t_39) (z_t_40) (z_t_41) (z_t_42) (z_t_43) (z_t_44) (z_t_45) (z_t_46) (z_t_47) (z_t_48) (z_t_49) (z_t_50) (z_t_51) (z_t_52) (z_t_53) (z_t_54) (z_t_55) (z_t_56) (z_t_57) (z_t_58) (z_t_59) (z_t_60) h_t_has k_t_has t_has l2 r_c15_2 e_c15_2 _) q1194 q1196 q30 q61 q1197 nd_X12_isThere ⟨Nat.le_of_ble_eq_true rfl, Nat.le_of_ble_eq_true rfl⟩ rfl rfl hP hD (hK.sub (tys' := [(k_t_has, .boolean)]) [0] rfl) hN rfl ⟨0, _, rfl⟩ rfl hl.1 rfl (Nat.le_of_ble_eq_true rfl) dX12_compare_15 ⟨Nat.le_of_ble_eq_true rfl, Nat.le_of_ble_eq_true rfl⟩) hS hA hD (fun H locs hP hD hS z_c15_2 => ?_)
    have hP : va_P D vwCl ((h_t, .inr (12, (.int 0 :: z_t_1 :: z_t_2 :: .int t_a :: z_t_4 :: .int t_root :: .ref h_t_has :: .ref h_t_us :: .ref h_t_vs :: .ref h_t_ds :: z_t_10 :: z_t_11 :: z_t_12 :: z_t_13 :: z_t_14 :: z_t_15 :: z_t_16 :: z_t_17 :: z_t_18 :: z_t_19 :: z_t_20 :: z_t_21 :: z_t_22 :: z_t_23 :: z_t_24 :: z_t_25 :: z_t_26 :: z_t_27 :: z_t_28 :: z_t_29 :: z_t_30 :: z_t_31 :: z_t_32 :: z_t_33 :: z_t_34 :: z_t_35 :: z_t_36 :: z_t_37 :: z_t_38 :: z_t_39 :: z_t_40 :: z_t_41 :: z_t_42 :: z_t_43 :: z_t_44 :: z_t_45 :: z_t_46 :: z_t_47 :: z_t_48 :: z_t_49 :: z_t_50 :: z_t_51 :: z_t_52 :: z_t_53 :: z_t_54 :: z_t_55 :: z_t_56 :: z_t_57 :: z_t_58 :: z_t_59 :: z_t_60 :: []))) :: (h_t_has, .inl (k_t_has, 10, .inl t_has)) :: (h_t_us, .inl (k_t_us, 10, .inl t_us)) :: (h_t_vs, .inl (k_t_vs, 10, .inl t_vs)) :: (h_t_ds, .inl (k_t_ds, 10, .inl t_ds)) :: R) H := hP
    have hD : va_D A ((h_t, .inr (12, (.int 0 :: z_t_1 :: z_t_2 :: .int t_a :: z_t_4 :: .int t_root :: .ref h_t_has :: .ref h_t_us :: .ref h_t_vs :: .ref h_t_ds :: z_t_10 :: z_t_11 :: z_t_12 :: z_t_13 :: z_t_14 :: z_t_15 :: z_t_16 :: z_t_17 :: z_t_18 :: z_t_19 :: z_t_20 :: z_t_21 :: z_t_22 :: z_t_23 :: z_t_24 :: z_t_25 :: z_t_26 :: z_t_27 :: z_t_28 :: z_t_29 :: z_t_30 :: z_t_31 :: z_t_32 :: z_t_33 :: z_t_34 :: z_t_35 :: z_t_36 :: z_t_37 :: z_t_38 :: z_t_39 :: z_t_40 :: z_t_41 :: z_t_42 :: z_t_43 :: z_t_44 :: z_t_45 :: z_t_46 :: z_t_47 :: z_t_48 :: z_t_49 :: z_t_50 :: z_t_51 :: z_t_52 :: z_t_53 :: z_t_54 :: z_t_55 :: z_t_56 :: z_t_57 :: z_t_58 :: z_t_59 :: z_t_60 :: []))) :: (h_t_has, .inl (k_t_has, 10, .inl t_has)) :: (h_t_us, .inl (k_t_us, 10, .inl t_us)) :: (h_t_vs, .inl (k_t_vs, 10, .inl t_vs)) :: (h_t_ds, .inl (k_t_ds, 10, .inl t_ds)) :: R) := hD
    refine lv_if_ne (tgt := 23) hx hb dX12_compare_18 (by decide) (fun c4 => ?_) (fun c4 => ?_)
    · have h := br_neg c4 h
      refine lv_aload_n hx hb dX12_compare_23 rfl (lv_at hl 0 rfl) ?_
      refine lv_aload_n hx hb dX12_compare_24 rfl (lv_at hl 0 rfl) ?_
      refine va_get (D := D) (ci := 12) (v := .ref h_t_us) (C := RX12) (T := TX12) (N := 61) hx hb ha ix12 hown hK hP 0 rfl rfl 7 (by decide) (ha _ q967) (fun _ h9 => h9) rfl dX12_compare_25 ?_
      refine lv_iload_n hx hb dX12_compare_28 rfl (lv_at hl 1 rfl) ?_
      obtain ⟨i5, h⟩ := ix_ok h
      refine va_iald hx hb hK hP 2 1 rfl rfl i5 dX12_compare_29 ?_
      refine lv_i2l (v := (t_us l1.toNatClampNeg).toInt64) hx hb dX12_compare_30 rfl ?_
      refine lv_aload_n hx hb dX12_compare_31 rfl (lv_at hl 0 rfl) ?_
      refine va_get (D := D) (ci := 12) (v := .ref h_t_ds) (C := RX12) (T := TX12) (N := 61) hx hb ha ix12 hown hK hP 0 rfl rfl 9 (by decide) (ha _ q969) (fun _ h9 => h9) rfl dX12_compare_32 ?_
      refine lv_iload_n hx hb dX12_compare_35 rfl (lv_at hl 2 rfl) ?_
      obtain ⟨i6, h⟩ := ix_ok h
      refine va_iald hx hb hK hP 4 3 rfl rfl i6 dX12_compare_36 ?_
      refine lv_i2l (v := (t_ds l2.toNatClampNeg).toInt64) hx hb dX12_compare_37 rfl ?_
      refine lv_lmul hx hb dX12_compare_38 ?_
      refine lv_aload_n hx hb dX12_compare_39 rfl (lv_at hl 0 rfl) ?_
      refine va_get (D := D) (ci := 12) (v := .ref h_t_us) (C := RX12) (T := TX12) (N := 61) hx hb ha ix12 hown hK hP 0 rfl rfl 7 (by decide) (ha _ q967) (fun _ h9 => h9) rfl dX12_compare_40 ?_
      refine lv_iload_n hx hb dX12_compare_43 rfl (lv_at hl 2 rfl) ?_
      obtain ⟨i7, h⟩ := ix_ok h
      refine va_iald hx hb hK hP 2 1 rfl rfl i7 dX12_compare_44 ?_
      refine lv_i2l (v := (t_us l2.toNatClampNeg).toInt64) hx hb dX12_compare_45 rfl ?_
      refine lv_aload_n hx hb dX12_compare_46 rfl (lv_at hl 0 rfl) ?_
      refine va_get (D := D) (ci := 12) (v := .ref h_t_ds) (C := RX12) (T := TX12) (N := 61) hx hb ha ix12 hown hK hP 0 rfl rfl 9 (by decide) (ha _ q969) (fun _ h9 => h9) rfl dX12_compare_47 ?_
      refine lv_iload_n hx hb dX12_compare_50 rfl (lv_at hl 1 rfl) ?_
      obtain ⟨i8, h⟩ := ix_ok h
      refine va_iald hx hb hK hP 4 3 rfl rfl i8 dX12_compare_51 ?_
      refine lv_i2l (v := (t_ds l1.toNatClampNeg).toInt64) hx hb dX12_compare_52 rfl ?_
      refine lv_lmul hx hb dX12_compare_53 ?_
      refine lv_lsub hx hb dX12_compare_54 ?_
      refine lv_aload_n hx hb dX12_compare_55 rfl (lv_at hl 0 rfl) ?_
      refine va_get (D := D) (ci := 12) (v := .ref h_t_vs) (C := RX12) (T := TX12) (N := 61) hx hb ha ix12 hown hK hP 0 rfl rfl 8 (by decide) (ha _ q968) (fun _ h9 => h9) rfl dX12_compare_56 ?_
      refine lv_iload_n hx hb dX12_compare_59 rfl (lv_at hl 1 rfl) ?_
      obtain ⟨i9, h⟩ := ix_ok h
      refine va_iald hx hb hK hP 3 2 rfl rfl i9 dX12_compare_60 ?_
      refine lv_i2l (v := (t_vs l1.toNatClampNeg).toInt64) hx hb dX12_compare_61 rfl ?_
      refine lv_aload_n hx hb dX12_compare_62 rfl (lv_at hl 0 rfl) ?_
      refine va_get (D := D) (ci := 12) (v := .ref h_t_ds) (C := RX12) (T := TX12) (N := 61) hx hb ha ix12 hown hK hP 0 rfl rfl 9 (by decide) (ha _ q969) (fun _ h9 => h9) rfl dX12_compare_63 ?_
      refine lv_iload_n hx hb dX12_compare_66 rfl (lv_at hl 2 rfl) ?_
      obtain ⟨i10, h⟩ := ix_ok h
      refine va_iald hx hb hK hP 4 3 rfl rfl i10 dX12_compare_67 ?_
      refine lv_i2l (v := (t_ds l2.toNatClampNeg).toInt64) hx hb dX12_compare_68 rfl ?_
      refine lv_lmul hx hb dX12_compare_69 ?_
      refine lv_aload_n hx hb dX12_compare_70 rfl (lv_at hl 0 rfl) ?_
      refine va_get (D := D) (ci := 12) (v := .ref h_t_vs) (C := RX12) (T := TX12) (N := 61) hx hb ha ix12 hown hK hP 0 rfl rfl 8 (by decide) (ha _ q968) (fun _ h9 => h9) rfl dX12_compare_71 ?_
      refine lv_iload_n hx hb dX12_compare_74 rfl (lv_at hl 2 rfl) ?_
      obtain ⟨i11, h⟩ := ix_ok h
      refine va_iald hx hb hK hP 3 2 rfl rfl i11 dX12_compare_75 ?_
      refine lv_i2l (v := (t_vs l2.toNatClampNeg).toInt64) hx hb dX12_compare_76 rfl ?_
      refine lv_aload_n hx hb dX12_compare_77 rfl (lv_at hl 0 rfl) ?_
      refine va_get (D := D) (ci := 12) (v := .ref h_t_ds) (C := RX12) (T := TX12) (N := 61) hx hb ha ix12 hown hK hP 0 rfl rfl 9 (by decide) (ha _ q969) (fun _ h9 => h9) rfl dX12_compare_78 ?_
      refine lv_iload_n hx hb dX12_compare_81 rfl (lv_at hl 1 rfl) ?_
      obtain ⟨i12, h⟩ := ix_ok h
      refine va_iald hx hb hK hP 4 3 rfl rfl i12 dX12_compare_82 ?_
      refine lv_i2l (v := (t_ds l1.toNatClampNeg).toInt64) hx hb dX12_compare_83 rfl ?_
      refine lv_lmul hx hb dX12_compare_84 ?_
      refine lv_lsub hx hb dX12_compare_85 ?_
      obtain ⟨r_c86_12, e_c86_12, h⟩ := bnd1_ok h
      refine cl_i (rn_v (ci := 12) (As := [.long (((t_us l1.toNatClampNeg).toInt64 * (t_ds l2.toNatClampNeg).toInt64) - ((t_us l2.toNatClampNeg).toInt64 * (t_ds l1.toNatClampNeg).toInt64)), .long (((t_vs l1.toNatClampNeg).toInt64 * (t_ds l2.toNatClampNeg).toInt64) - ((t_vs l2.toNatClampNeg).toInt64 * (t_ds l1.toNatClampNeg).toInt64))]) (rest := []) S (c_X12_sign l D ((h_t_has, .inl (k_t_has, 10, .inl t_has)) :: (h_t_us, .inl (k_t_us, 10, .inl t_us)) :: (h_t_vs, .inl (k_t_vs, 10, .inl t_vs)) :: (h_t_ds, .inl (k_t_ds, 10, .inl t_ds)) :: R) h_t (.int 0) (z_t_1) (z_t_2) t_a (z_t_4) t_root (.ref h_t_has) (.ref h_t_us) (.ref h_t_vs) (.ref h_t_ds) (z_t_10) (z_t_11) (z_t_12) (z_t_13) (z_t_14) (z_t_15) (z_t_16) (z_t_17) (z_t_18) (z_t_19) (z_t_20) (z_t_21) (z_t_22) (z_t_23) (z_t_24) (z_t_25) (z_t_26) (z_t_27) (z_t_28) (z_t_29) (z_t_30) (z_t_31) (z_t_32) (z_t_33) (z_t_34) (z_t_35) (z_t_36) (z_t_37) (z_t_38) (z_t_39) (z_t_40) (z_t_41) (z_t_42) (z_t_43) (z_t_44) (z_t_45) (z_t_46) (z_t_47) (z_t_48) (z_t_49) (z_t_50) (z_t_51) (z_t_52) (z_t_53) (z_t_54) (z_t_55) (z_t_56) (z_t_57) (z_t_58) (z_t_59) (z_t_60) (((t_us l1.toNatClampNeg).toInt64 * (t_ds l2.toNatClampNeg).toInt64) - ((t_us l2.toNatClampNeg).toInt64 * (t_ds l1.toNatClampNeg).toInt64)) (((t_vs l1.toNatClampNeg).toInt64 * (t_ds l2.toNatClampNeg).toInt64) - ((t_vs l2.toNatClampNeg).toInt64 * (t_ds l1.toNatClampNeg).toInt64)) r_c86_12 e_c86_12 _) q1222 q1224 q35 q61 q1225 nd_X12_sign ⟨Nat.le_of_ble_eq_true rfl, Nat.le_of_ble_eq_true rfl⟩ rfl rfl hP hD (hK.sub (tys' := []) [] rfl) hN rfl ⟨0, _, rfl⟩ rfl hl.1 rfl (Nat.le_of_ble_eq_true rfl) dX12_compare_86 ⟨Nat.le_of_ble_eq_true rfl, Nat.le_of_ble_eq_true rfl⟩) hS hA hD (fun H locs hP hD hS => ?_)
      have hP : va_P D vwCl ((h_t, .inr (12, (.int 0 :: z_t_1 :: z_t_2 :: .int t_a :: z_t_4 :: .int t_root :: .ref h_t_has :: .ref h_t_us :: .ref h_t_vs :: .ref h_t_ds :: z_t_10 :: z_t_11 :: z_t_12 :: z_t_13 :: z_t_14 :: z_t_15 :: z_t_16 :: z_t_17 :: z_t_18 :: z_t_19 :: z_t_20 :: z_t_21 :: z_t_22 :: z_t_23 :: z_t_24 :: z_t_25 :: z_t_26 :: z_t_27 :: z_t_28 :: z_t_29 :: z_t_30 :: z_t_31 :: z_t_32 :: z_t_33 :: z_t_34 :: z_t_35 :: z_t_36 :: z_t_37 :: z_t_38 :: z_t_39 :: z_t_40 :: z_t_41 :: z_t_42 :: z_t_43 :: z_t_44 :: z_t_45 :: z_t_46 :: z_t_47 :: z_t_48 :: z_t_49 :: z_t_50 :: z_t_51 :: z_t_52 :: z_t_53 :: z_t_54 :: z_t_55 :: z_t_56 :: z_t_57 :: z_t_58 :: z_t_59 :: z_t_60 :: []))) :: (h_t_has, .inl (k_t_has, 10, .inl t_has)) :: (h_t_us, .inl (k_t_us, 10, .inl t_us)) :: (h_t_vs, .inl (k_t_vs, 10, .inl t_vs)) :: (h_t_ds, .inl (k_t_ds, 10, .inl t_ds)) :: R) H := hP
      have hD : va_D A ((h_t, .inr (12, (.int 0 :: z_t_1 :: z_t_2 :: .int t_a :: z_t_4 :: .int t_root :: .ref h_t_has :: .ref h_t_us :: .ref h_t_vs :: .ref h_t_ds :: z_t_10 :: z_t_11 :: z_t_12 :: z_t_13 :: z_t_14 :: z_t_15 :: z_t_16 :: z_t_17 :: z_t_18 :: z_t_19 :: z_t_20 :: z_t_21 :: z_t_22 :: z_t_23 :: z_t_24 :: z_t_25 :: z_t_26 :: z_t_27 :: z_t_28 :: z_t_29 :: z_t_30 :: z_t_31 :: z_t_32 :: z_t_33 :: z_t_34 :: z_t_35 :: z_t_36 :: z_t_37 :: z_t_38 :: z_t_39 :: z_t_40 :: z_t_41 :: z_t_42 :: z_t_43 :: z_t_44 :: z_t_45 :: z_t_46 :: z_t_47 :: z_t_48 :: z_t_49 :: z_t_50 :: z_t_51 :: z_t_52 :: z_t_53 :: z_t_54 :: z_t_55 :: z_t_56 :: z_t_57 :: z_t_58 :: z_t_59 :: z_t_60 :: []))) :: (h_t_has, .inl (k_t_has, 10, .inl t_has)) :: (h_t_us, .inl (k_t_us, 10, .inl t_us)) :: (h_t_vs, .inl (k_t_vs, 10, .inl t_vs)) :: (h_t_ds, .inl (k_t_ds, 10, .inl t_ds)) :: R) := hD
      cases h
      exact rt_i S hr hlk hP hD hS dX12_compare_89
    · have h := br_pos c4 h
      refine lv_iconst (v := 2) hx hb dX12_compare_21 (by decide) ?_
      cases h
      exact rt_i S hr hlk hP hD hS dX12_compare_22
noncomputable def f_X12_floorOf_L6 (l1 : Int64) (l3 : Int64) (l5 : Int64) (t_a : Int32) (t_root : Int32) : Nat → Int64 → Int64 →  Option (Int64)
  | 0, _, _ => none
  | n + 1, l7, l9 => (
    bnd1 (f_X12_sign t_a t_root (l1 - (l7 * l5)) l3) fun r_c15_0 => (
     if 0 ≤ r_c15_0 then (
      some l7
     ) else (
      f_X12_floorOf_L6 l1 l3 l5 t_a t_root n (l7 - l9) (l9 * 2)
     )
    ))
noncomputable def f_X12_floorOf_L42 (l1 : Int64) (l3 : Int64) (l5 : Int64) (l7 : Int64) (t_a : Int32) (t_root : Int32) : Nat → Int64 →  Option (Int64)
  | 0, _ => none
  | n + 1, l9 => (
    bnd1 (f_X12_sign t_a t_root (l1 - ((l7 + l9) * l5)) l3) fun r_c54_3 => (
     if r_c54_3 < 0 then (
      some l9
     ) else (
      f_X12_floorOf_L42 l1 l3 l5 l7 t_a t_root n (l9 * 2)
     )
    ))
noncomputable def f_X12_floorOf_L71 (l1 : Int64) (l3 : Int64) (l5 : Int64) (t_a : Int32) (t_root : Int32) : Nat → Int64 → Int64 →  Option (Int64)
  | 0, _, _ => none
  | n + 1, l7, l9 => (
    if l9 ≤ 0 then (
     some l7
    ) else (
     bnd1 (f_X12_sign t_a t_root (l1 - ((l7 + l9) * l5)) l3) fun r_c90_7 => (
      if r_c90_7 < 0 then (
       gd (nzL 2) (
        f_X12_floorOf_L71 l1 l3 l5 t_a t_root n l7 (l9 / 2)
       )
      ) else (
       gd (nzL 2) (
        f_X12_floorOf_L71 l1 l3 l5 t_a t_root n (l7 + l9) (l9 / 2)
       )
      )
     )
    ))
noncomputable def f_X12_floorOf (t_a : Int32) (t_root : Int32) (l1 : Int64) (l3 : Int64) (l5 : Int64) : Option (Int64) :=
  bnd1 (f_X12_floorOf_L6 l1 l3 l5 t_a t_root FU 0 1) fun x7_L6_2 => (
   bnd1 (f_X12_floorOf_L42 l1 l3 l5 x7_L6_2 t_a t_root FU 1) fun x9_L42_5 => (
    bnd1 (f_X12_floorOf_L71 l1 l3 l5 t_a t_root FU x7_L6_2 x9_L42_5) fun x7_L71_11 => (
     some x7_L71_11
    )
   )
  )
set_option maxHeartbeats 4000000 in
set_option maxRecDepth 100000 in
theorem c_X12_floorOf (l : Launch) (D : va_G) (R : va_W) (h_t : Nat) (z_t_0 : Value) (z_t_1 : Value) (z_t_2 : Value) (t_a : Int32) (z_t_4 : Value) (t_root : Int32) (z_t_6 : Value) (z_t_7 : Value) (z_t_8 : Value) (z_t_9 : Value) (z_t_10 : Value) (z_t_11 : Value) (z_t_12 : Value) (z_t_13 : Value) (z_t_14 : Value) (z_t_15 : Value) (z_t_16 : Value) (z_t_17 : Value) (z_t_18 : Value) (z_t_19 : Value) (z_t_20 : Value) (z_t_21 : Value) (z_t_22 : Value) (z_t_23 : Value) (z_t_24 : Value) (z_t_25 : Value) (z_t_26 : Value) (z_t_27 : Value) (z_t_28 : Value) (z_t_29 : Value) (z_t_30 : Value) (z_t_31 : Value) (z_t_32 : Value) (z_t_33 : Value) (z_t_34 : Value) (z_t_35 : Value) (z_t_36 : Value) (z_t_37 : Value) (z_t_38 : Value) (z_t_39 : Value) (z_t_40 : Value) (z_t_41 : Value) (z_t_42 : Value) (z_t_43 : Value) (z_t_44 : Value) (z_t_45 : Value) (z_t_46 : Value) (z_t_47 : Value) (z_t_48 : Value) (z_t_49 : Value) (z_t_50 : Value) (z_t_51 : Value) (z_t_52 : Value) (z_t_53 : Value) (z_t_54 : Value) (z_t_55 : Value) (z_t_56 : Value) (z_t_57 : Value) (z_t_58 : Value) (z_t_59 : Value) (z_t_60 : Value) (l1 : Int64) (l3 : Int64) (l5 : Int64) (r : Int64)  (h : f_X12_floorOf t_a t_root l1 l3 l5 = some r) (sz : Nat) : Met l yX12_floorOf (WD yX12_floorOf cX12_floorOf 11 (some .long)) ({ frames := 1, cells := 0, slots := 0, locals := 28 }) (va_Pc [.ref h_t, .long l1, .long l3, .long l5] (PcW D [] ((h_t, .inr (12, (z_t_0 :: z_t_1 :: z_t_2 :: .int t_a :: z_t_4 :: .int t_root :: z_t_6 :: z_t_7 :: z_t_8 :: z_t_9 :: z_t_10 :: z_t_11 :: z_t_12 :: z_t_13 :: z_t_14 :: z_t_15 :: z_t_16 :: z_t_17 :: z_t_18 :: z_t_19 :: z_t_20 :: z_t_21 :: z_t_22 :: z_t_23 :: z_t_24 :: z_t_25 :: z_t_26 :: z_t_27 :: z_t_28 :: z_t_29 :: z_t_30 :: z_t_31 :: z_t_32 :: z_t_33 :: z_t_34 :: z_t_35 :: z_t_36 :: z_t_37 :: z_t_38 :: z_t_39 :: z_t_40 :: z_t_41 :: z_t_42 :: z_t_43 :: z_t_44 :: z_t_45 :: z_t_46 :: z_t_47 :: z_t_48 :: z_t_49 :: z_t_50 :: z_t_51 :: z_t_52 :: z_t_53 :: z_t_54 :: z_t_55 :: z_t_56 :: z_t_57 :: z_t_58 :: z_t_59 :: z_t_60 :: []))) :: R) sz)) (QL D r ((h_t, .inr (12, (z_t_0 :: z_t_1 :: z_t_2 :: .int t_a :: z_t_4 :: .int t_root :: z_t_6 :: z_t_7 :: z_t_8 :: z_t_9 :: z_t_10 :: z_t_11 :: z_t_12 :: z_t_13 :: z_t_14 :: z_t_15 :: z_t_16 :: z_t_17 :: z_t_18 :: z_t_19 :: z_t_20 :: z_t_21 :: z_t_22 :: z_t_23 :: z_t_24 :: z_t_25 :: z_t_26 :: z_t_27 :: z_t_28 :: z_t_29 :: z_t_30 :: z_t_31 :: z_t_32 :: z_t_33 :: z_t_34 :: z_t_35 :: z_t_36 :: z_t_37 :: z_t_38 :: z_t_39 :: z_t_40 :: z_t_41 :: z_t_42 :: z_t_43 :: z_t_44 :: z_t_45 :: z_t_46 :: z_t_47 :: z_t_48 :: z_t_49 :: z_t_50 :: z_t_51 :: z_t_52 :: z_t_53 :: z_t_54 :: z_t_55 :: z_t_56 :: z_t_57 :: z_t_58 :: z_t_59 :: z_t_60 :: []))) :: R) (va_A ((h_t, .inr (12, (z_t_0 :: z_t_1 :: z_t_2 :: .int t_a :: z_t_4 :: .int t_root :: z_t_6 :: z_t_7 :: z_t_8 :: z_t_9 :: z_t_10 :: z_t_11 :: z_t_12 :: z_t_13 :: z_t_14 :: z_t_15 :: z_t_16 :: z_t_17 :: z_t_18 :: z_t_19 :: z_t_20 :: z_t_21 :: z_t_22 :: z_t_23 :: z_t_24 :: z_t_25 :: z_t_26 :: z_t_27 :: z_t_28 :: z_t_29 :: z_t_30 :: z_t_31 :: z_t_32 :: z_t_33 :: z_t_34 :: z_t_35 :: z_t_36 :: z_t_37 :: z_t_38 :: z_t_39 :: z_t_40 :: z_t_41 :: z_t_42 :: z_t_43 :: z_t_44 :: z_t_45 :: z_t_46 :: z_t_47 :: z_t_48 :: z_t_49 :: z_t_50 :: z_t_51 :: z_t_52 :: z_t_53 :: z_t_54 :: z_t_55 :: z_t_56 :: z_t_57 :: z_t_58 :: z_t_59 :: z_t_60 :: []))) :: R) sz)) 0 0 (va_A ((h_t, .inr (12, (z_t_0 :: z_t_1 :: z_t_2 :: .int t_a :: z_t_4 :: .int t_root :: z_t_6 :: z_t_7 :: z_t_8 :: z_t_9 :: z_t_10 :: z_t_11 :: z_t_12 :: z_t_13 :: z_t_14 :: z_t_15 :: z_t_16 :: z_t_17 :: z_t_18 :: z_t_19 :: z_t_20 :: z_t_21 :: z_t_22 :: z_t_23 :: z_t_24 :: z_t_25 :: z_t_26 :: z_t_27 :: z_t_28 :: z_t_29 :: z_t_30 :: z_t_31 :: z_t_32 :: z_t_33 :: z_t_34 :: z_t_35 :: z_t_36 :: z_t_37 :: z_t_38 :: z_t_39 :: z_t_40 :: z_t_41 :: z_t_42 :: z_t_43 :: z_t_44 :: z_t_45 :: z_t_46 :: z_t_47 :: z_t_48 :: z_t_49 :: z_t_50 :: z_t_51 :: z_t_52 :: z_t_53 :: z_t_54 :: z_t_55 :: z_t_56 :: z_t_57 :: z_t_58 :: z_t_59 :: z_t_60 :: []))) :: R) sz) := by
  refine ct_start (QF := fun A => QL D r ((h_t, .inr (12, (z_t_0 :: z_t_1 :: z_t_2 :: .int t_a :: z_t_4 :: .int t_root :: z_t_6 :: z_t_7 :: z_t_8 :: z_t_9 :: z_t_10 :: z_t_11 :: z_t_12 :: z_t_13 :: z_t_14 :: z_t_15 :: z_t_16 :: z_t_17 :: z_t_18 :: z_t_19 :: z_t_20 :: z_t_21 :: z_t_22 :: z_t_23 :: z_t_24 :: z_t_25 :: z_t_26 :: z_t_27 :: z_t_28 :: z_t_29 :: z_t_30 :: z_t_31 :: z_t_32 :: z_t_33 :: z_t_34 :: z_t_35 :: z_t_36 :: z_t_37 :: z_t_38 :: z_t_39 :: z_t_40 :: z_t_41 :: z_t_42 :: z_t_43 :: z_t_44 :: z_t_45 :: z_t_46 :: z_t_47 :: z_t_48 :: z_t_49 :: z_t_50 :: z_t_51 :: z_t_52 :: z_t_53 :: z_t_54 :: z_t_55 :: z_t_56 :: z_t_57 :: z_t_58 :: z_t_59 :: z_t_60 :: []))) :: R) A) ?_ ?_ ?_
  · decide +kernel
  · exact Nat.le_of_ble_eq_true rfl
  intro p e s m args below meth c A ls S hr hlk hnm hS hA hP hD hK hN hl
  have S : CallFix p m c cX12_floorOf 11 s args AL "DigitBenchModel" := S
  have hx := S.1
  have hb := S.2.1
  have hown := S.2.2.2.1
  have ha := S.2.2.2.2
  have hl : lv_has ls 11 [(0, .ref h_t), (1, .long l1), (3, .long l3), (5, .long l5)] := hl
  have L6 : ∀ (Q : State → Prop) (n : Nat) (l1 : Int64) (l3 : Int64) (l5 : Int64) (l7 : Int64) (l9 : Int64)  (x7 : Int64), f_X12_floorOf_L6 l1 l3 l5 t_a t_root n l7 l9 = some x7 → ∀ (H : Heap) (locs : List Loc) (ls : Array Slot), va_P D vwCl ((h_t, .inr (12, (z_t_0 :: z_t_1 :: z_t_2 :: .int t_a :: z_t_4 :: .int t_root :: z_t_6 :: z_t_7 :: z_t_8 :: z_t_9 :: z_t_10 :: z_t_11 :: z_t_12 :: z_t_13 :: z_t_14 :: z_t_15 :: z_t_16 :: z_t_17 :: z_t_18 :: z_t_19 :: z_t_20 :: z_t_21 :: z_t_22 :: z_t_23 :: z_t_24 :: z_t_25 :: z_t_26 :: z_t_27 :: z_t_28 :: z_t_29 :: z_t_30 :: z_t_31 :: z_t_32 :: z_t_33 :: z_t_34 :: z_t_35 :: z_t_36 :: z_t_37 :: z_t_38 :: z_t_39 :: z_t_40 :: z_t_41 :: z_t_42 :: z_t_43 :: z_t_44 :: z_t_45 :: z_t_46 :: z_t_47 :: z_t_48 :: z_t_49 :: z_t_50 :: z_t_51 :: z_t_52 :: z_t_53 :: z_t_54 :: z_t_55 :: z_t_56 :: z_t_57 :: z_t_58 :: z_t_59 :: z_t_60 :: []))) :: R) H → va_D A ((h_t, .inr (12, (z_t_0 :: z_t_1 :: z_t_2 :: .int t_a :: z_t_4 :: .int t_root :: z_t_6 :: z_t_7 :: z_t_8 :: z_t_9 :: z_t_10 :: z_t_11 :: z_t_12 :: z_t_13 :: z_t_14 :: z_t_15 :: z_t_16 :: z_t_17 :: z_t_18 :: z_t_19 :: z_t_20 :: z_t_21 :: z_t_22 :: z_t_23 :: z_t_24 :: z_t_25 :: z_t_26 :: z_t_27 :: z_t_28 :: z_t_29 :: z_t_30 :: z_t_31 :: z_t_32 :: z_t_33 :: z_t_34 :: z_t_35 :: z_t_36 :: z_t_37 :: z_t_38 :: z_t_39 :: z_t_40 :: z_t_41 :: z_t_42 :: z_t_43 :: z_t_44 :: z_t_45 :: z_t_46 :: z_t_47 :: z_t_48 :: z_t_49 :: z_t_50 :: z_t_51 :: z_t_52 :: z_t_53 :: z_t_54 :: z_t_55 :: z_t_56 :: z_t_57 :: z_t_58 :: z_t_59 :: z_t_60 :: []))) :: R) → va_S A s.heap H locs → lv_has ls 11 [(0, .ref h_t), (1, .long l1), (3, .long l3), (5, .long l5), (7, .long l7), (9, .long l9)] → (∀ (H : Heap) (locs : List Loc) (ls : Array Slot), va_P D vwCl ((h_t, .inr (12, (z_t_0 :: z_t_1 :: z_t_2 :: .int t_a :: z_t_4 :: .int t_root :: z_t_6 :: z_t_7 :: z_t_8 :: z_t_9 :: z_t_10 :: z_t_11 :: z_t_12 :: z_t_13 :: z_t_14 :: z_t_15 :: z_t_16 :: z_t_17 :: z_t_18 :: z_t_19 :: z_t_20 :: z_t_21 :: z_t_22 :: z_t_23 :: z_t_24 :: z_t_25 :: z_t_26 :: z_t_27 :: z_t_28 :: z_t_29 :: z_t_30 :: z_t_31 :: z_t_32 :: z_t_33 :: z_t_34 :: z_t_35 :: z_t_36 :: z_t_37 :: z_t_38 :: z_t_39 :: z_t_40 :: z_t_41 :: z_t_42 :: z_t_43 :: z_t_44 :: z_t_45 :: z_t_46 :: z_t_47 :: z_t_48 :: z_t_49 :: z_t_50 :: z_t_51 :: z_t_52 :: z_t_53 :: z_t_54 :: z_t_55 :: z_t_56 :: z_t_57 :: z_t_58 :: z_t_59 :: z_t_60 :: []))) :: R) H → va_D A ((h_t, .inr (12, (z_t_0 :: z_t_1 :: z_t_2 :: .int t_a :: z_t_4 :: .int t_root :: z_t_6 :: z_t_7 :: z_t_8 :: z_t_9 :: z_t_10 :: z_t_11 :: z_t_12 :: z_t_13 :: z_t_14 :: z_t_15 :: z_t_16 :: z_t_17 :: z_t_18 :: z_t_19 :: z_t_20 :: z_t_21 :: z_t_22 :: z_t_23 :: z_t_24 :: z_t_25 :: z_t_26 :: z_t_27 :: z_t_28 :: z_t_29 :: z_t_30 :: z_t_31 :: z_t_32 :: z_t_33 :: z_t_34 :: z_t_35 :: z_t_36 :: z_t_37 :: z_t_38 :: z_t_39 :: z_t_40 :: z_t_41 :: z_t_42 :: z_t_43 :: z_t_44 :: z_t_45 :: z_t_46 :: z_t_47 :: z_t_48 :: z_t_49 :: z_t_50 :: z_t_51 :: z_t_52 :: z_t_53 :: z_t_54 :: z_t_55 :: z_t_56 :: z_t_57 :: z_t_58 :: z_t_59 :: z_t_60 :: []))) :: R) → va_S A s.heap H locs → lv_has ls 11 [(0, .ref h_t), (1, .long l1), (3, .long l3), (5, .long l5), (7, .long x7)] → W p l e { frames := 1, cells := 0, slots := 0, locals := 28 } s m args below meth c H locs 0 0 Q (F0 m 39 ls [])) → W p l e { frames := 1, cells := 0, slots := 0, locals := 28 } s m args below meth c H locs 0 0 Q (F0 m 6 ls []) := by
    intro Q n
    induction n with
    | zero =>
      intro l1 l3 l5 l7 l9 x7 h
      rw [f_X12_floorOf_L6] at h; cases h
    | succ n ih =>
      intro l1 l3 l5 l7 l9 x7 h H locs ls hP hD hS hl kk0
      rw [f_X12_floorOf_L6] at h
      refine lv_aload_n hx hb dX12_floorOf_6 rfl (lv_at hl 0 rfl) ?_
      refine lv_lload_n hx hb dX12_floorOf_7 rfl (lv_at hl 1 rfl) ?_
      refine lv_lload hx hb dX12_floorOf_8 (lv_at hl 4 rfl) ?_
      refine lv_lload hx hb dX12_floorOf_10 (lv_at hl 3 rfl) ?_
      refine lv_lmul hx hb dX12_floorOf_12 ?_
      refine lv_lsub hx hb dX12_floorOf_13 ?_
      refine lv_lload_n hx hb dX12_floorOf_14 rfl (lv_at hl 2 rfl) ?_
      obtain ⟨r_c15_0, e_c15_0, h⟩ := bnd1_ok h
      refine cl_i (rn_v (ci := 12) (As := [.long (l1 - (l7 * l5)), .long l3]) (rest := []) S (c_X12_sign l D (R) h_t (z_t_0) (z_t_1) (z_t_2) t_a (z_t_4) t_root (z_t_6) (z_t_7) (z_t_8) (z_t_9) (z_t_10) (z_t_11) (z_t_12) (z_t_13) (z_t_14) (z_t_15) (z_t_16) (z_t_17) (z_t_18) (z_t_19) (z_t_20) (z_t_21) (z_t_22) (z_t_23) (z_t_24) (z_t_25) (z_t_26) (z_t_27) (z_t_28) (z_t_29) (z_t_30) (z_t_31) (z_t_32) (z_t_33) (z_t_34) (z_t_35) (z_t_36) (z_t_37) (z_t_38) (z_t_39) (z_t_40) (z_t_41) (z_t_42) (z_t_43) (z_t_44) (z_t_45) (z_t_46) (z_t_47) (z_t_48) (z_t_49) (z_t_50) (z_t_51) (z_t_52) (z_t_53) (z_t_54) (z_t_55) (z_t_56) (z_t_57) (z_t_58) (z_t_59) (z_t_60) (l1 - (l7 * l5)) l3 r_c15_0 e_c15_0 _) q1222 q1224 q35 q61 q1225 nd_X12_sign ⟨Nat.le_of_ble_eq_true rfl, Nat.le_of_ble_eq_true rfl⟩ rfl rfl hP hD (hK.sub (tys' := []) [] rfl) hN rfl ⟨0, _, rfl⟩ rfl hl.1 rfl (Nat.le_of_ble_eq_true rfl) dX12_floorOf_15 ⟨Nat.le_of_ble_eq_true rfl, Nat.le_of_ble_eq_true rfl⟩) hS hA hD (fun H locs hP hD hS => ?_)
      have hP : va_P D vwCl ((h_t, .inr (12, (z_t_0 :: z_t_1 :: z_t_2 :: .int t_a :: z_t_4 :: .int t_root :: z_t_6 :: z_t_7 :: z_t_8 :: z_t_9 :: z_t_10 :: z_t_11 :: z_t_12 :: z_t_13 :: z_t_14 :: z_t_15 :: z_t_16 :: z_t_17 :: z_t_18 :: z_t_19 :: z_t_20 :: z_t_21 :: z_t_22 :: z_t_23 :: z_t_24 :: z_t_25 :: z_t_26 :: z_t_27 :: z_t_28 :: z_t_29 :: z_t_30 :: z_t_31 :: z_t_32 :: z_t_33 :: z_t_34 :: z_t_35 :: z_t_36 :: z_t_37 :: z_t_38 :: z_t_39 :: z_t_40 :: z_t_41 :: z_t_42 :: z_t_43 :: z_t_44 :: z_t_45 :: z_t_46 :: z_t_47 :: z_t_48 :: z_t_49 :: z_t_50 :: z_t_51 :: z_t_52 :: z_t_53 :: z_t_54 :: z_t_55 :: z_t_56 :: z_t_57 :: z_t_58 :: z_t_59 :: z_t_60 :: []))) :: R) H := hP
      have hD : va_D A ((h_t, .inr (12, (z_t_0 :: z_t_1 :: z_t_2 :: .int t_a :: z_t_4 :: .int t_root :: z_t_6 :: z_t_7 :: z_t_8 :: z_t_9 :: z_t_10 :: z_t_11 :: z_t_12 :: z_t_13 :: z_t_14 :: z_t_15 :: z_t_16 :: z_t_17 :: z_t_18 :: z_t_19 :: z_t_20 :: z_t_21 :: z_t_22 :: z_t_23 :: z_t_24 :: z_t_25 :: z_t_26 :: z_t_27 :: z_t_28 :: z_t_29 :: z_t_30 :: z_t_31 :: z_t_32 :: z_t_33 :: z_t_34 :: z_t_35 :: z_t_36 :: z_t_37 :: z_t_38 :: z_t_39 :: z_t_40 :: z_t_41 :: z_t_42 :: z_t_43 :: z_t_44 :: z_t_45 :: z_t_46 :: z_t_47 :: z_t_48 :: z_t_49 :: z_t_50 :: z_t_51 :: z_t_52 :: z_t_53 :: z_t_54 :: z_t_55 :: z_t_56 :: z_t_57 :: z_t_58 :: z_t_59 :: z_t_60 :: []))) :: R) := hD
      refine lv_if_ge (tgt := 39) hx hb dX12_floorOf_18 (by decide) (fun c2 => ?_) (fun c2 => ?_)
      · have h := br_pos c2 h
        cases h
        exact kk0 _ _ _ hP hD hS (lv_sub hl [0, 1, 2, 3, 4] rfl)
      · have h := br_neg c2 h
        refine lv_lload hx hb dX12_floorOf_21 (lv_at hl 4 rfl) ?_
        refine lv_lload hx hb dX12_floorOf_23 (lv_at hl 5 rfl) ?_
        refine lv_lsub hx hb dX12_floorOf_25 ?_
        refine lv_lstore (lv' := [(7, .long (l7 - l9)), (0, .ref h_t), (1, .long l1), (3, .long l3), (5, .long l5), (9, .long l9)]) hx hb dX12_floorOf_26 hl (by decide) rfl (fun ls hl => ?_)
        refine lv_lload hx hb dX12_floorOf_28 (lv_at hl 5 rfl) ?_
        refine lv_ldc2 (v := 2) hx hb hown (ha _ q1226) dX12_floorOf_30 ?_
        refine lv_lmul hx hb dX12_floorOf_33 ?_
        refine lv_lstore (lv' := [(9, .long (l9 * 2)), (7, .long (l7 - l9)), (0, .ref h_t), (1, .long l1), (3, .long l3), (5, .long l5)]) hx hb dX12_floorOf_34 hl (by decide) rfl (fun ls hl => ?_)
        refine lv_goto (tgt := 6) hx hb dX12_floorOf_36 (by decide) ?_
        exact ih l1 l3 l5 (l7 - l9) (l9 * 2) _ h _ _ _ hP hD hS (lv_sub hl [2, 3, 4, 5, 1, 0] rfl) kk0
  have L42 : ∀ (Q : State → Prop) (n : Nat) (l1 : Int64) (l3 : Int64) (l5 : Int64) (l7 : Int64) (l9 : Int64)  (x9 : Int64), f_X12_floorOf_L42 l1 l3 l5 l7 t_a t_root n l9 = some x9 → ∀ (H : Heap) (locs : List Loc) (ls : Array Slot), va_P D vwCl ((h_t, .inr (12, (z_t_0 :: z_t_1 :: z_t_2 :: .int t_a :: z_t_4 :: .int t_root :: z_t_6 :: z_t_7 :: z_t_8 :: z_t_9 :: z_t_10 :: z_t_11 :: z_t_12 :: z_t_13 :: z_t_14 :: z_t_15 :: z_t_16 :: z_t_17 :: z_t_18 :: z_t_19 :: z_t_20 :: z_t_21 :: z_t_22 :: z_t_23 :: z_t_24 :: z_t_25 :: z_t_26 :: z_t_27 :: z_t_28 :: z_t_29 :: z_t_30 :: z_t_31 :: z_t_32 :: z_t_33 :: z_t_34 :: z_t_35 :: z_t_36 :: z_t_37 :: z_t_38 :: z_t_39 :: z_t_40 :: z_t_41 :: z_t_42 :: z_t_43 :: z_t_44 :: z_t_45 :: z_t_46 :: z_t_47 :: z_t_48 :: z_t_49 :: z_t_50 :: z_t_51 :: z_t_52 :: z_t_53 :: z_t_54 :: z_t_55 :: z_t_56 :: z_t_57 :: z_t_58 :: z_t_59 :: z_t_60 :: []))) :: R) H → va_D A ((h_t, .inr (12, (z_t_0 :: z_t_1 :: z_t_2 :: .int t_a :: z_t_4 :: .int t_root :: z_t_6 :: z_t_7 :: z_t_8 :: z_t_9 :: z_t_10 :: z_t_11 :: z_t_12 :: z_t_13 :: z_t_14 :: z_t_15 :: z_t_16 :: z_t_17 :: z_t_18 :: z_t_19 :: z_t_20 :: z_t_21 :: z_t_22 :: z_t_23 :: z_t_24 :: z_t_25 :: z_t_26 :: z_t_27 :: z_t_28 :: z_t_29 :: z_t_30 :: z_t_31 :: z_t_32 :: z_t_33 :: z_t_34 :: z_t_35 :: z_t_36 :: z_t_37 :: z_t_38 :: z_t_39 :: z_t_40 :: z_t_41 :: z_t_42 :: z_t_43 :: z_t_44 :: z_t_45 :: z_t_46 :: z_t_47 :: z_t_48 :: z_t_49 :: z_t_50 :: z_t_51 :: z_t_52 :: z_t_53 :: z_t_54 :: z_t_55 :: z_t_56 :: z_t_57 :: z_t_58 :: z_t_59 :: z_t_60 :: []))) :: R) → va_S A s.heap H locs → lv_has ls 11 [(0, .ref h_t), (1, .long l1), (3, .long l3), (5, .long l5), (7, .long l7), (9, .long l9)] → (∀ (H : Heap) (locs : List Loc) (ls : Array Slot), va_P D vwCl ((h_t, .inr (12, (z_t_0 :: z_t_1 :: z_t_2 :: .int t_a :: z_t_4 :: .int t_root :: z_t_6 :: z_t_7 :: z_t_8 :: z_t_9 :: z_t_10 :: z_t_11 :: z_t_12 :: z_t_13 :: z_t_14 :: z_t_15 :: z_t_16 :: z_t_17 :: z_t_18 :: z_t_19 :: z_t_20 :: z_t_21 :: z_t_22 :: z_t_23 :: z_t_24 :: z_t_25 :: z_t_26 :: z_t_27 :: z_t_28 :: z_t_29 :: z_t_30 :: z_t_31 :: z_t_32 :: z_t_33 :: z_t_34 :: z_t_35 :: z_t_36 :: z_t_37 :: z_t_38 :: z_t_39 :: z_t_40 :: z_t_41 :: z_t_42 :: z_t_43 :: z_t_44 :: z_t_45 :: z_t_46 :: z_t_47 :: z_t_48 :: z_t_49 :: z_t_50 :: z_t_51 :: z_t_52 :: z_t_53 :: z_t_54 :: z_t_55 :: z_t_56 :: z_t_57 :: z_t_58 :: z_t_59 :: z_t_60 :: []))) :: R) H → va_D A ((h_t, .inr (12, (z_t_0 :: z_t_1 :: z_t_2 :: .int t_a :: z_t_4 :: .int t_root :: z_t_6 :: z_t_7 :: z_t_8 :: z_t_9 :: z_t_10 :: z_t_11 :: z_t_12 :: z_t_13 :: z_t_14 :: z_t_15 :: z_t_16 :: z_t_17 :: z_t_18 :: z_t_19 :: z_t_20 :: z_t_21 :: z_t_22 :: z_t_23 :: z_t_24 :: z_t_25 :: z_t_26 :: z_t_27 :: z_t_28 :: z_t_29 :: z_t_30 :: z_t_31 :: z_t_32 :: z_t_33 :: z_t_34 :: z_t_35 :: z_t_36 :: z_t_37 :: z_t_38 :: z_t_39 :: z_t_40 :: z_t_41 :: z_t_42 :: z_t_43 :: z_t_44 :: z_t_45 :: z_t_46 :: z_t_47 :: z_t_48 :: z_t_49 :: z_t_50 :: z_t_51 :: z_t_52 :: z_t_53 :: z_t_54 :: z_t_55 :: z_t_56 :: z_t_57 :: z_t_58 :: z_t_59 :: z_t_60 :: []))) :: R) → va_S A s.heap H locs → lv_has ls 11 [(0, .ref h_t), (1, .long l1), (3, .long l3), (5, .long l5), (7, .long l7), (9, .long x9)] → W p l e { frames := 1, cells := 0, slots := 0, locals := 28 } s m args below meth c H locs 0 0 Q (F0 m 71 ls [])) → W p l e { frames := 1, cells := 0, slots := 0, locals := 28 } s m args below meth c H locs 0 0 Q (F0 m 42 ls []) := by
    intro Q n
    induction n with
    | zero =>
      intro l1 l3 l5 l7 l9 x9 h
      rw [f_X12_floorOf_L42] at h; cases h
    | succ n ih =>
      intro l1 l3 l5 l7 l9 x9 h H locs ls hP hD hS hl kk0
      rw [f_X12_floorOf_L42] at h
      refine lv_aload_n hx hb dX12_floorOf_42 rfl (lv_at hl 0 rfl) ?_
      refine lv_lload_n hx hb dX12_floorOf_43 rfl (lv_at hl 1 rfl) ?_
      refine lv_lload hx hb dX12_floorOf_44 (lv_at hl 4 rfl) ?_
      refine lv_lload hx hb dX12_floorOf_46 (lv_at hl 5 rfl) ?_
      refine lv_ladd hx hb dX12_floorOf_48 ?_
      refine lv_lload hx hb dX12_floorOf_49 (lv_at hl 3 rfl) ?_
      refine lv_lmul hx hb dX12_floorOf_51 ?_
      refine lv_lsub hx hb dX12_floorOf_52 ?_
      refine lv_lload_n hx hb dX12_floorOf_53 rfl (lv_at hl 2 rfl) ?_
      obtain ⟨r_c54_3, e_c54_3, h⟩ := bnd1_ok h
      refine cl_i (rn_v (ci := 12) (As := [.long (l1 - ((l7 + l9) * l5)), .long l3]) (rest := []) S (c_X12_sign l D (R) h_t (z_t_0) (z_t_1) (z_t_2) t_a (z_t_4) t_root (z_t_6) (z_t_7) (z_t_8) (z_t_9) (z_t_10) (z_t_11) (z_t_12) (z_t_13) (z_t_14) (z_t_15) (z_t_16) (z_t_17) (z_t_18) (z_t_19) (z_t_20) (z_t_21) (z_t_22) (z_t_23) (z_t_24) (z_t_25) (z_t_26) (z_t_27) (z_t_28) (z_t_29) (z_t_30) (z_t_31) (z_t_32) (z_t_33) (z_t_34) (z_t_35) (z_t_36) (z_t_37) (z_t_38) (z_t_39) (z_t_40) (z_t_41) (z_t_42) (z_t_43) (z_t_44) (z_t_45) (z_t_46) (z_t_47) (z_t_48) (z_t_49) (z_t_50) (z_t_51) (z_t_52) (z_t_53) (z_t_54) (z_t_55) (z_t_56) (z_t_57) (z_t_58) (z_t_59) (z_t_60) (l1 - ((l7 + l9) * l5)) l3 r_c54_3 e_c54_3 _) q1222 q1224 q35 q61 q1225 nd_X12_sign ⟨Nat.le_of_ble_eq_true rfl, Nat.le_of_ble_eq_true rfl⟩ rfl rfl hP hD (hK.sub (tys' := []) [] rfl) hN rfl ⟨0, _, rfl⟩ rfl hl.1 rfl (Nat.le_of_ble_eq_true rfl) dX12_floorOf_54 ⟨Nat.le_of_ble_eq_true rfl, Nat.le_of_ble_eq_true rfl⟩) hS hA hD (fun H locs hP hD hS => ?_)
      have hP : va_P D vwCl ((h_t, .inr (12, (z_t_0 :: z_t_1 :: z_t_2 :: .int t_a :: z_t_4 :: .int t_root :: z_t_6 :: z_t_7 :: z_t_8 :: z_t_9 :: z_t_10 :: z_t_11 :: z_t_12 :: z_t_13 :: z_t_14 :: z_t_15 :: z_t_16 :: z_t_17 :: z_t_18 :: z_t_19 :: z_t_20 :: z_t_21 :: z_t_22 :: z_t_23 :: z_t_24 :: z_t_25 :: z_t_26 :: z_t_27 :: z_t_28 :: z_t_29 :: z_t_30 :: z_t_31 :: z_t_32 :: z_t_33 :: z_t_34 :: z_t_35 :: z_t_36 :: z_t_37 :: z_t_38 :: z_t_39 :: z_t_40 :: z_t_41 :: z_t_42 :: z_t_43 :: z_t_44 :: z_t_45 :: z_t_46 :: z_t_47 :: z_t_48 :: z_t_49 :: z_t_50 :: z_t_51 :: z_t_52 :: z_t_53 :: z_t_54 :: z_t_55 :: z_t_56 :: z_t_57 :: z_t_58 :: z_t_59 :: z_t_60 :: []))) :: R) H := hP
      have hD : va_D A ((h_t, .inr (12, (z_t_0 :: z_t_1 :: z_t_2 :: .int t_a :: z_t_4 :: .int t_root :: z_t_6 :: z_t_7 :: z_t_8 :: z_t_9 :: z_t_10 :: z_t_11 :: z_t_12 :: z_t_13 :: z_t_14 :: z_t_15 :: z_t_16 :: z_t_17 :: z_t_18 :: z_t_19 :: z_t_20 :: z_t_21 :: z_t_22 :: z_t_23 :: z_t_24 :: z_t_25 :: z_t_26 :: z_t_27 :: z_t_28 :: z_t_29 :: z_t_30 :: z_t_31 :: z_t_32 :: z_t_33 :: z_t_34 :: z_t_35 :: z_t_36 :: z_t_37 :: z_t_38 :: z_t_39 :: z_t_40 :: z_t_41 :: z_t_42 :: z_t_43 :: z_t_44 :: z_t_45 :: z_t_46 :: z_t_47 :: z_t_48 :: z_t_49 :: z_t_50 :: z_t_51 :: z_t_52 :: z_t_53 :: z_t_54 :: z_t_55 :: z_t_56 :: z_t_57 :: z_t_58 :: z_t_59 :: z_t_60 :: []))) :: R) := hD
      refine lv_if_lt (tgt := 71) hx hb dX12_floorOf_57 (by decide) (fun c5 => ?_) (fun c5 => ?_)
      · have h := br_pos c5 h
        cases h
        exact kk0 _ _ _ hP hD hS (lv_sub hl [0, 1, 2, 3, 4, 5] rfl)
      · have h := br_neg c5 h
        refine lv_lload hx hb dX12_floorOf_60 (lv_at hl 5 rfl) ?_
        refine lv_ldc2 (v := 2) hx hb hown (ha _ q1226) dX12_floorOf_62 ?_
        refine lv_lmul hx hb dX12_floorOf_65 ?_
        refine lv_lstore (lv' := [(9, .long (l9 * 2)), (0, .ref h_t), (1, .long l1), (3, .long l3), (5, .long l5), (7, .long l7)]) hx hb dX12_floorOf_66 hl (by decide) rfl (fun ls hl => ?_)
        refine lv_goto (tgt := 42) hx hb dX12_floorOf_68 (by decide) ?_
        exact ih l1 l3 l5 l7 (l9 * 2) _ h _ _ _ hP hD hS (lv_sub hl [1, 2, 3, 4, 5, 0] rfl) kk0
  have L71 : ∀ (Q : State → Prop) (n : Nat) (l1 : Int64) (l3 : Int64) (l5 : Int64) (l7 : Int64) (l9 : Int64)  (x7 : Int64), f_X12_floorOf_L71 l1 l3 l5 t_a t_root n l7 l9 = some x7 → ∀ (H : Heap) (locs : List Loc) (ls : Array Slot), va_P D vwCl ((h_t, .inr (12, (z_t_0 :: z_t_1 :: z_t_2 :: .int t_a :: z_t_4 :: .int t_root :: z_t_6 :: z_t_7 :: z_t_8 :: z_t_9 :: z_t_10 :: z_t_11 :: z_t_12 :: z_t_13 :: z_t_14 :: z_t_15 :: z_t_16 :: z_t_17 :: z_t_18 :: z_t_19 :: z_t_20 :: z_t_21 :: z_t_22 :: z_t_23 :: z_t_24 :: z_t_25 :: z_t_26 :: z_t_27 :: z_t_28 :: z_t_29 :: z_t_30 :: z_t_31 :: z_t_32 :: z_t_33 :: z_t_34 :: z_t_35 :: z_t_36 :: z_t_37 :: z_t_38 :: z_t_39 :: z_t_40 :: z_t_41 :: z_t_42 :: z_t_43 :: z_t_44 :: z_t_45 :: z_t_46 :: z_t_47 :: z_t_48 :: z_t_49 :: z_t_50 :: z_t_51 :: z_t_52 :: z_t_53 :: z_t_54 :: z_t_55 :: z_t_56 :: z_t_57 :: z_t_58 :: z_t_59 :: z_t_60 :: []))) :: R) H → va_D A ((h_t, .inr (12, (z_t_0 :: z_t_1 :: z_t_2 :: .int t_a :: z_t_4 :: .int t_root :: z_t_6 :: z_t_7 :: z_t_8 :: z_t_9 :: z_t_10 :: z_t_11 :: z_t_12 :: z_t_13 :: z_t_14 :: z_t_15 :: z_t_16 :: z_t_17 :: z_t_18 :: z_t_19 :: z_t_20 :: z_t_21 :: z_t_22 :: z_t_23 :: z_t_24 :: z_t_25 :: z_t_26 :: z_t_27 :: z_t_28 :: z_t_29 :: z_t_30 :: z_t_31 :: z_t_32 :: z_t_33 :: z_t_34 :: z_t_35 :: z_t_36 :: z_t_37 :: z_t_38 :: z_t_39 :: z_t_40 :: z_t_41 :: z_t_42 :: z_t_43 :: z_t_44 :: z_t_45 :: z_t_46 :: z_t_47 :: z_t_48 :: z_t_49 :: z_t_50 :: z_t_51 :: z_t_52 :: z_t_53 :: z_t_54 :: z_t_55 :: z_t_56 :: z_t_57 :: z_t_58 :: z_t_59 :: z_t_60 :: []))) :: R) → va_S A s.heap H locs → lv_has ls 11 [(0, .ref h_t), (1, .long l1), (3, .long l3), (5, .long l5), (7, .long l7), (9, .long l9)] → (∀ (H : Heap) (locs : List Loc) (ls : Array Slot), va_P D vwCl ((h_t, .inr (12, (z_t_0 :: z_t_1 :: z_t_2 :: .int t_a :: z_t_4 :: .int t_root :: z_t_6 :: z_t_7 :: z_t_8 :: z_t_9 :: z_t_10 :: z_t_11 :: z_t_12 :: z_t_13 :: z_t_14 :: z_t_15 :: z_t_16 :: z_t_17 :: z_t_18 :: z_t_19 :: z_t_20 :: z_t_21 :: z_t_22 :: z_t_23 :: z_t_24 :: z_t_25 :: z_t_26 :: z_t_27 :: z_t_28 :: z_t_29 :: z_t_30 :: z_t_31 :: z_t_32 :: z_t_33 :: z_t_34 :: z_t_35 :: z_t_36 :: z_t_37 :: z_t_38 :: z_t_39 :: z_t_40 :: z_t_41 :: z_t_42 :: z_t_43 :: z_t_44 :: z_t_45 :: z_t_46 :: z_t_47 :: z_t_48 :: z_t_49 :: z_t_50 :: z_t_51 :: z_t_52 :: z_t_53 :: z_t_54 :: z_t_55 :: z_t_56 :: z_t_57 :: z_t_58 :: z_t_59 :: z_t_60 :: []))) :: R) H → va_D A ((h_t, .inr (12, (z_t_0 :: z_t_1 :: z_t_2 :: .int t_a :: z_t_4 :: .int t_root :: z_t_6 :: z_t_7 :: z_t_8 :: z_t_9 :: z_t_10 :: z_t_11 :: z_t_12 :: z_t_13 :: z_t_14 :: z_t_15 :: z_t_16 :: z_t_17 :: z_t_18 :: z_t_19 :: z_t_20 :: z_t_21 :: z_t_22 :: z_t_23 :: z_t_24 :: z_t_25 :: z_t_26 :: z_t_27 :: z_t_28 :: z_t_29 :: z_t_30 :: z_t_31 :: z_t_32 :: z_t_33 :: z_t_34 :: z_t_35 :: z_t_36 :: z_t_37 :: z_t_38 :: z_t_39 :: z_t_40 :: z_t_41 :: z_t_42 :: z_t_43 :: z_t_44 :: z_t_45 :: z_t_46 :: z_t_47 :: z_t_48 :: z_t_49 :: z_t_50 :: z_t_51 :: z_t_52 :: z_t_53 :: z_t_54 :: z_t_55 :: z_t_56 :: z_t_57 :: z_t_58 :: z_t_59 :: z_t_60 :: []))) :: R) → va_S A s.heap H locs → lv_has ls 11 [(7, .long x7)] → W p l e { frames := 1, cells := 0, slots := 0, locals := 28 } s m args below meth c H locs 0 0 Q (F0 m 114 ls [])) → W p l e { frames := 1, cells := 0, slots := 0, locals := 28 } s m args below meth c H locs 0 0 Q (F0 m 71 ls []) := by
    intro Q n
    induction n with
    | zero =>
      intro l1 l3 l5 l7 l9 x7 h
      rw [f_X12_floorOf_L71] at h; cases h
    | succ n ih =>
      intro l1 l3 l5 l7 l9 x7 h H locs ls hP hD hS hl kk0
      rw [f_X12_floorOf_L71] at h
      refine lv_lload hx hb dX12_floorOf_71 (lv_at hl 5 rfl) ?_
      refine lv_lconst (v := 0) hx hb dX12_floorOf_73 (by decide) ?_
      refine xl_le (tgt := 114) hx hb dX12_floorOf_74 dX12_floorOf_75 (by decide) (fun c7 => ?_) (fun c7 => ?_)
      · have h := br_pos c7 h
        cases h
        exact kk0 _ _ _ hP hD hS (lv_sub hl [4] rfl)
      · have h := br_neg c7 h
        refine lv_aload_n hx hb dX12_floorOf_78 rfl (lv_at hl 0 rfl) ?_
        refine lv_lload_n hx hb dX12_floorOf_79 rfl (lv_at hl 1 rfl) ?_
        refine lv_lload hx hb dX12_floorOf_80 (lv_at hl 4 rfl) ?_
        refine lv_lload hx hb dX12_floorOf_82 (lv_at hl 5 rfl) ?_
        refine lv_ladd hx hb dX12_floorOf_84 ?_
        refine lv_lload hx hb dX12_floorOf_85 (lv_at hl 3 rfl) ?_
        refine lv_lmul hx hb dX12_floorOf_87 ?_
        refine lv_lsub hx hb dX12_floorOf_88 ?_
        refine lv_lload_n hx hb dX12_floorOf_89 rfl (lv_at hl 2 rfl) ?_
        obtain ⟨r_c90_7, e_c90_7, h⟩ := bnd1_ok h
        refine cl_i (rn_v (ci := 12) (As := [.long (l1 - ((l7 + l9) * l5)), .long l3]) (rest := []) S (c_X12_sign l D (R) h_t (z_t_0) (z_t_1) (z_t_2) t_a (z_t_4) t_root (z_t_6) (z_t_7) (z_t_8) (z_t_9) (z_t_10) (z_t_11) (z_t_12) (z_t_13) (z_t_14) (z_t_15) (z_t_16) (z_t_17) (z_t_18) (z_t_19) (z_t_20) (z_t_21) (z_t_22) (z_t_23) (z_t_24) (z_t_25) (z_t_26) (z_t_27) (z_t_28) (z_t_29) (z_t_30) (z_t_31) (z_t_32) (z_t_33) (z_t_34) (z_t_35) (z_t_36) (z_t_37) (z_t_38) (z_t_39) (z_t_40) (z_t_41) (z_t_42) (z_t_43) (z_t_44) (z_t_45) (z_t_46) (z_t_47) (z_t_48) (z_t_49) (z_t_50) (z_t_51) (z_t_52) (z_t_53) (z_t_54) (z_t_55) (z_t_56) (z_t_57) (z_t_58) (z_t_59) (z_t_60) (l1 - ((l7 + l9) * l5)) l3 r_c90_7 e_c90_7 _) q1222 q1224 q35 q61 q1225 nd_X12_sign ⟨Nat.le_of_ble_eq_true rfl, Nat.le_of_ble_eq_true rfl⟩ rfl rfl hP hD (hK.sub (tys' := []) [] rfl) hN rfl ⟨0, _, rfl⟩ rfl hl.1 rfl (Nat.le_of_ble_eq_true rfl) dX12_floorOf_90 ⟨Nat.le_of_ble_eq_true rfl, Nat.le_of_ble_eq_true rfl⟩) hS hA hD (fun H locs hP hD hS => ?_)
        have hP : va_P D vwCl ((h_t, .inr (12, (z_t_0 :: z_t_1 :: z_t_2 :: .int t_a :: z_t_4 :: .int t_root :: z_t_6 :: z_t_7 :: z_t_8 :: z_t_9 :: z_t_10 :: z_t_11 :: z_t_12 :: z_t_13 :: z_t_14 :: z_t_15 :: z_t_16 :: z_t_17 :: z_t_18 :: z_t_19 :: z_t_20 :: z_t_21 :: z_t_22 :: z_t_23 :: z_t_24 :: z_t_25 :: z_t_26 :: z_t_27 :: z_t_28 :: z_t_29 :: z_t_30 :: z_t_31 :: z_t_32 :: z_t_33 :: z_t_34 :: z_t_35 :: z_t_36 :: z_t_37 :: z_t_38 :: z_t_39 :: z_t_40 :: z_t_41 :: z_t_42 :: z_t_43 :: z_t_44 :: z_t_45 :: z_t_46 :: z_t_47 :: z_t_48 :: z_t_49 :: z_t_50 :: z_t_51 :: z_t_52 :: z_t_53 :: z_t_54 :: z_t_55 :: z_t_56 :: z_t_57 :: z_t_58 :: z_t_59 :: z_t_60 :: []))) :: R) H := hP
        have hD : va_D A ((h_t, .inr (12, (z_t_0 :: z_t_1 :: z_t_2 :: .int t_a :: z_t_4 :: .int t_root :: z_t_6 :: z_t_7 :: z_t_8 :: z_t_9 :: z_t_10 :: z_t_11 :: z_t_12 :: z_t_13 :: z_t_14 :: z_t_15 :: z_t_16 :: z_t_17 :: z_t_18 :: z_t_19 :: z_t_20 :: z_t_21 :: z_t_22 :: z_t_23 :: z_t_24 :: z_t_25 :: z_t_26 :: z_t_27 :: z_t_28 :: z_t_29 :: z_t_30 :: z_t_31 :: z_t_32 :: z_t_33 :: z_t_34 :: z_t_35 :: z_t_36 :: z_t_37 :: z_t_38 :: z_t_39 :: z_t_40 :: z_t_41 :: z_t_42 :: z_t_43 :: z_t_44 :: z_t_45 :: z_t_46 :: z_t_47 :: z_t_48 :: z_t_49 :: z_t_50 :: z_t_51 :: z_t_52 :: z_t_53 :: z_t_54 :: z_t_55 :: z_t_56 :: z_t_57 :: z_t_58 :: z_t_59 :: z_t_60 :: []))) :: R) := hD
        refine lv_if_lt (tgt := 103) hx hb dX12_floorOf_93 (by decide) (fun c9 => ?_) (fun c9 => ?_)
        · have h := br_pos c9 h
          refine lv_lload hx hb dX12_floorOf_103 (lv_at hl 5 rfl) ?_
          refine lv_ldc2 (v := 2) hx hb hown (ha _ q1226) dX12_floorOf_105 ?_
          obtain ⟨n10, h⟩ := nzL_ok h
          refine lv_ldiv hx hb dX12_floorOf_108 n10 ?_
          refine lv_lstore (lv' := [(9, .long (l9 / 2)), (0, .ref h_t), (1, .long l1), (3, .long l3), (5, .long l5), (7, .long l7)]) hx hb dX12_floorOf_109 hl (by decide) rfl (fun ls hl => ?_)
          refine lv_goto (tgt := 71) hx hb dX12_floorOf_111 (by decide) ?_
          exact ih l1 l3 l5 l7 (l9 / 2) _ h _ _ _ hP hD hS (lv_sub hl [1, 2, 3, 4, 5, 0] rfl) kk0
        · have h := br_neg c9 h
          refine lv_lload hx hb dX12_floorOf_96 (lv_at hl 4 rfl) ?_
          refine lv_lload hx hb dX12_floorOf_98 (lv_at hl 5 rfl) ?_
          refine lv_ladd hx hb dX12_floorOf_100 ?_
          refine lv_lstore (lv' := [(7, .long (l7 + l9)), (0, .ref h_t), (1, .long l1), (3, .long l3), (5, .long l5), (9, .long l9)]) hx hb dX12_floorOf_101 hl (by decide) rfl (fun ls hl => ?_)
          refine lv_lload hx hb dX12_floorOf_103 (lv_at hl 5 rfl) ?_
          refine lv_ldc2 (v := 2) hx hb hown (ha _ q1226) dX12_floorOf_105 ?_
          obtain ⟨n11, h⟩ := nzL_ok h
          refine lv_ldiv hx hb dX12_floorOf_108 n11 ?_
          refine lv_lstore (lv' := [(9, .long (l9 / 2)), (7, .long (l7 + l9)), (0, .ref h_t), (1, .long l1), (3, .long l3), (5, .long l5)]) hx hb dX12_floorOf_109 hl (by decide) rfl (fun ls hl => ?_)
          refine lv_goto (tgt := 71) hx hb dX12_floorOf_111 (by decide) ?_
          exact ih l1 l3 l5 (l7 + l9) (l9 / 2) _ h _ _ _ hP hD hS (lv_sub hl [2, 3, 4, 5, 1, 0] rfl) kk0
  unfold f_X12_floorOf at h
  refine lv_lconst (v := 0) hx hb dX12_floorOf_0 (by decide) ?_
  refine lv_lstore (lv' := [(7, .long 0), (0, .ref h_t), (1, .long l1), (3, .long l3), (5, .long l5)]) hx hb dX12_floorOf_1 hl (by decide) rfl (fun ls hl => ?_)
  refine lv_lconst (v := 1) hx hb dX12_floorOf_3 (by decide) ?_
  refine lv_lstore (lv' := [(9, .long 1), (7, .long 0), (0, .ref h_t), (1, .long l1), (3, .long l3), (5, .long l5)]) hx hb dX12_floorOf_4 hl (by decide) rfl (fun ls hl => ?_)
  obtain ⟨x7_L6_2, e_L6_2, h⟩ := bnd1_ok h
  refine L6 _ _ l1 l3 l5 0 1 x7_L6_2 e_L6_2 _ _ _ hP hD hS (lv_sub hl [2, 3, 4, 5, 1, 0] rfl) ?_
  intro H locs ls hP hD hS hl
  refine lv_lconst (v := 1) hx hb dX12_floorOf_39 (by decide) ?_
  refine lv_lstore (lv' := [(9, .long 1), (0, .ref h_t), (1, .long l1), (3, .long l3), (5, .long l5), (7, .long x7_L6_2)]) hx hb dX12_floorOf_40 hl (by decide) rfl (fun ls hl => ?_)
  obtain ⟨x9_L42_5, e_L42_5, h⟩ := bnd1_ok h
  refine L42 _ _ l1 l3 l5 x7_L6_2 1 x9_L42_5 e_L42_5 _ _ _ hP hD hS (lv_sub hl [1, 2, 3, 4, 5, 0] rfl) ?_
  intro H locs ls hP hD hS hl
  obtain ⟨x7_L71_11, e_L71_11, h⟩ := bnd1_ok h
  refine L71 _ _ l1 l3 l5 x7_L6_2 x9_L42_5 x7_L71_11 e_L71_11 _ _ _ hP hD hS (lv_sub hl [0, 1, 2, 3, 4, 5] rfl) ?_
  intro H locs ls hP hD hS hl
  refine lv_lload hx hb dX12_floorOf_114 (lv_at hl 0 rfl) ?_
  cases h
  exact rt_l S hr hlk hP hD hS dX12_floorOf_116
noncomputable def f_X12_floor (t_thrown : Int32) (t_a : Int32) (t_root : Int32) (t_has : Nat → Int32) (t_us : Nat → Int32) (t_vs : Nat → Int32) (t_ds : Nat → Int32) (l1 : Int32) : Option (Int64 × Int32) :=
  bnd1 (f_X12_isThere t_has l1) fun r_c3_0 => (
   if r_c3_0 = 0 then (
    bnd2 (f_X12_throwsIf t_thrown 1) fun r_c14_2 t_thrown_c14_2 => (
     if r_c14_2 = 0 then (
      gd (ixb l1 10) (
       gd (ixb l1 10) (
        gd (ixb l1 10) (
         bnd1 (f_X12_floorOf t_a t_root ((t_us l1.toNatClampNeg).toInt64) ((t_vs l1.toNatClampNeg).toInt64) ((t_ds l1.toNatClampNeg).toInt64)) fun r_c44_7 => (
          some (r_c44_7, t_thrown_c14_2)
         )
        )
       )
      )
     ) else (
      some (0, t_thrown_c14_2)
     )
    )
   ) else (
    bnd2 (f_X12_throwsIf t_thrown 0) fun r_c14_8 t_thrown_c14_8 => (
     if r_c14_8 = 0 then (
      gd (ixb l1 10) (
       gd (ixb l1 10) (
        gd (ixb l1 10) (
         bnd1 (f_X12_floorOf t_a t_root ((t_us l1.toNatClampNeg).toInt64) ((t_vs l1.toNatClampNeg).toInt64) ((t_ds l1.toNatClampNeg).toInt64)) fun r_c44_13 => (
          some (r_c44_13, t_thrown_c14_8)
         )
        )
       )
      )
     ) else (
      some (0, t_thrown_c14_8)
     )
    )
   )
  )
set_option maxHeartbeats 4000000 in
set_option maxRecDepth 100000 in
theorem c_X12_floor (l : Launch) (D : va_G) (R : va_W) (h_t : Nat) (t_thrown : Int32) (z_t_1 : Value) (z_t_2 : Value) (t_a : Int32) (z_t_4 : Value) (t_root : Int32) (z_t_10 : Value) (z_t_11 : Value) (z_t_12 : Value) (z_t_13 : Value) (z_t_14 : Value) (z_t_15 : Value) (z_t_16 : Value) (z_t_17 : Value) (z_t_18 : Value) (z_t_19 : Value) (z_t_20 : Value) (z_t_21 : Value) (z_t_22 : Value) (z_t_23 : Value) (z_t_24 : Value) (z_t_25 : Value) (z_t_26 : Value) (z_t_27 : Value) (z_t_28 : Value) (z_t_29 : Value) (z_t_30 : Value) (z_t_31 : Value) (z_t_32 : Value) (z_t_33 : Value) (z_t_34 : Value) (z_t_35 : Value) (z_t_36 : Value) (z_t_37 : Value) (z_t_38 : Value) (z_t_39 : Value) (z_t_40 : Value) (z_t_41 : Value) (z_t_42 : Value) (z_t_43 : Value) (z_t_44 : Value) (z_t_45 : Value) (z_t_46 : Value) (z_t_47 : Value) (z_t_48 : Value) (z_t_49 : Value) (z_t_50 : Value) (z_t_51 : Value) (z_t_52 : Value) (z_t_53 : Value) (z_t_54 : Value) (z_t_55 : Value) (z_t_56 : Value) (z_t_57 : Value) (z_t_58 : Value) (z_t_59 : Value) (z_t_60 : Value) (h_t_has : Nat) (k_t_has : ClassId) (t_has : Nat → Int32) (h_t_us : Nat) (k_t_us : ClassId) (t_us : Nat → Int32) (h_t_vs : Nat) (k_t_vs : ClassId) (t_vs : Nat → Int32) (h_t_ds : Nat) (k_t_ds : ClassId) (t_ds : Nat → Int32) (l1 : Int32) (r : Int64) (o_t_thrown : Int32)  (h : f_X12_floor t_thrown t_a t_root t_has t_us t_vs t_ds l1 = some (r, o_t_thrown)) (sz : Nat) : Met l yX12_floor (WD yX12_floor cX12_floor 2 (some .long)) ({ frames := 2, cells := 0, slots := 0, locals := 58 }) (va_Pc [.ref h_t, .int l1] (PcW D [(k_t_has, .boolean), (k_t_us, .int), (k_t_vs, .int), (k_t_ds, .int)] ((h_t, .inr (12, (.int t_thrown :: z_t_1 :: z_t_2 :: .int t_a :: z_t_4 :: .int t_root :: .ref h_t_has :: .ref h_t_us :: .ref h_t_vs :: .ref h_t_ds :: z_t_10 :: z_t_11 :: z_t_12 :: z_t_13 :: z_t_14 :: z_t_15 :: z_t_16 :: z_t_17 :: z_t_18 :: z_t_19 :: z_t_20 :: z_t_21 :: z_t_22 :: z_t_23 :: z_t_24 :: z_t_25 :: z_t_26 :: z_t_27 :: z_t_28 :: z_t_29 :: z_t_30 :: z_t_31 :: z_t_32 :: z_t_33 :: z_t_34 :: z_t_35 :: z_t_36 :: z_t_37 :: z_t_38 :: z_t_39 :: z_t_40 :: z_t_41 :: z_t_42 :: z_t_43 :: z_t_44 :: z_t_45 :: z_t_46 :: z_t_47 :: z_t_48 :: z_t_49 :: z_t_50 :: z_t_51 :: z_t_52 :: z_t_53 :: z_t_54 :: z_t_55 :: z_t_56 :: z_t_57 :: z_t_58 :: z_t_59 :: z_t_60 :: []))) :: (h_t_has, .inl (k_t_has, 10, .inl t_has)) :: (h_t_us, .inl (k_t_us, 10, .inl t_us)) :: (h_t_vs, .inl (k_t_vs, 10, .inl t_vs)) :: (h_t_ds, .inl (k_t_ds, 10, .inl t_ds)) :: R) sz)) (QL D r ((h_t, .inr (12, (.int o_t_thrown :: z_t_1 :: z_t_2 :: .int t_a :: z_t_4 :: .int t_root :: .ref h_t_has :: .ref h_t_us :: .ref h_t_vs :: .ref h_t_ds :: z_t_10 :: z_t_11 :: z_t_12 :: z_t_13 :: z_t_14 :: z_t_15 :: z_t_16 :: z_t_17 :: z_t_18 :: z_t_19 :: z_t_20 :: z_t_21 :: z_t_22 :: z_t_23 :: z_t_24 :: z_t_25 :: z_t_26 :: z_t_27 :: z_t_28 :: z_t_29 :: z_t_30 :: z_t_31 :: z_t_32 :: z_t_33 :: z_t_34 :: z_t_35 :: z_t_36 :: z_t_37 :: z_t_38 :: z_t_39 :: z_t_40 :: z_t_41 :: z_t_42 :: z_t_43 :: z_t_44 :: z_t_45 :: z_t_46 :: z_t_47 :: z_t_48 :: z_t_49 :: z_t_50 :: z_t_51 :: z_t_52 :: z_t_53 :: z_t_54 :: z_t_55 :: z_t_56 :: z_t_57 :: z_t_58 :: z_t_59 :: z_t_60 :: []))) :: (h_t_has, .inl (k_t_has, 10, .inl t_has)) :: (h_t_us, .inl (k_t_us, 10, .inl t_us)) :: (h_t_vs, .inl (k_t_vs, 10, .inl t_vs)) :: (h_t_ds, .inl (k_t_ds, 10, .inl t_ds)) :: R) (va_A ((h_t, .inr (12, (.int t_thrown :: z_t_1 :: z_t_2 :: .int t_a :: z_t_4 :: .int t_root :: .ref h_t_has :: .ref h_t_us :: .ref h_t_vs :: .ref h_t_ds :: z_t_10 :: z_t_11 :: z_t_12 :: z_t_13 :: z_t_14 :: z_t_15 :: z_t_16 :: z_t_17 :: z_t_18 :: z_t_19 :: z_t_20 :: z_t_21 :: z_t_22 :: z_t_23 :: z_t_24 :: z_t_25 :: z_t_26 :: z_t_27 :: z_t_28 :: z_t_29 :: z_t_30 :: z_t_31 :: z_t_32 :: z_t_33 :: z_t_34 :: z_t_35 :: z_t_36 :: z_t_37 :: z_t_38 :: z_t_39 :: z_t_40 :: z_t_41 :: z_t_42 :: z_t_43 :: z_t_44 :: z_t_45 :: z_t_46 :: z_t_47 :: z_t_48 :: z_t_49 :: z_t_50 :: z_t_51 :: z_t_52 :: z_t_53 :: z_t_54 :: z_t_55 :: z_t_56 :: z_t_57 :: z_t_58 :: z_t_59 :: z_t_60 :: []))) :: (h_t_has, .inl (k_t_has, 10, .inl t_has)) :: (h_t_us, .inl (k_t_us, 10, .inl t_us)) :: (h_t_vs, .inl (k_t_vs, 10, .inl t_vs)) :: (h_t_ds, .inl (k_t_ds, 10, .inl t_ds)) :: R) sz)) 0 0 (va_A ((h_t, .inr (12, (.int t_thrown :: z_t_1 :: z_t_2 :: .int t_a :: z_t_4 :: .int t_root :: .ref h_t_has :: .ref h_t_us :: .ref h_t_vs :: .ref h_t_ds :: z_t_10 :: z_t_11 :: z_t_12 :: z_t_13 :: z_t_14 :: z_t_15 :: z_t_16 :: z_t_17 :: z_t_18 :: z_t_19 :: z_t_20 :: z_t_21 :: z_t_22 :: z_t_23 :: z_t_24 :: z_t_25 :: z_t_26 :: z_t_27 :: z_t_28 :: z_t_29 :: z_t_30 :: z_t_31 :: z_t_32 :: z_t_33 :: z_t_34 :: z_t_35 :: z_t_36 :: z_t_37 :: z_t_38 :: z_t_39 :: z_t_40 :: z_t_41 :: z_t_42 :: z_t_43 :: z_t_44 :: z_t_45 :: z_t_46 :: z_t_47 :: z_t_48 :: z_t_49 :: z_t_50 :: z_t_51 :: z_t_52 :: z_t_53 :: z_t_54 :: z_t_55 :: z_t_56 :: z_t_57 :: z_t_58 :: z_t_59 :: z_t_60 :: []))) :: (h_t_has, .inl (k_t_has, 10, .inl t_has)) :: (h_t_us, .inl (k_t_us, 10, .inl t_us)) :: (h_t_vs, .inl (k_t_vs, 10, .inl t_vs)) :: (h_t_ds, .inl (k_t_ds, 10, .inl t_ds)) :: R) sz) := by
  refine ct_start (QF := fun A => QL D r ((h_t, .inr (12, (.int o_t_thrown :: z_t_1 :: z_t_2 :: .int t_a :: z_t_4 :: .int t_root :: .ref h_t_has :: .ref h_t_us :: .ref h_t_vs :: .ref h_t_ds :: z_t_10 :: z_t_11 :: z_t_12 :: z_t_13 :: z_t_14 :: z_t_15 :: z_t_16 :: z_t_17 :: z_t_18 :: z_t_19 :: z_t_20 :: z_t_21 :: z_t_22 :: z_t_23 :: z_t_24 :: z_t_25 :: z_t_26 :: z_t_27 :: z_t_28 :: z_t_29 :: z_t_30 :: z_t_31 :: z_t_32 :: z_t_33 :: z_t_34 :: z_t_35 :: z_t_36 :: z_t_37 :: z_t_38 :: z_t_39 :: z_t_40 :: z_t_41 :: z_t_42 :: z_t_43 :: z_t_44 :: z_t_45 :: z_t_46 :: z_t_47 :: z_t_48 :: z_t_49 :: z_t_50 :: z_t_51 :: z_t_52 :: z_t_53 :: z_t_54 :: z_t_55 :: z_t_56 :: z_t_57 :: z_t_58 :: z_t_59 :: z_t_60 :: []))) :: (h_t_has, .inl (k_t_has, 10, .inl t_has)) :: (h_t_us, .inl (k_t_us, 10, .inl t_us)) :: (h_t_vs, .inl (k_t_vs, 10, .inl t_vs)) :: (h_t_ds, .inl (k_t_ds, 10, .inl t_ds)) :: R) A) ?_ ?_ ?_
  · decide +kernel
  · exact Nat.le_of_ble_eq_true rfl
  intro p e s m args below meth c A ls S hr hlk hnm hS hA hP hD hK hN hl
  have S : CallFix p m c cX12_floor 2 s args AL "DigitBenchModel" := S
  have hx := S.1
  have hb := S.2.1
  have hown := S.2.2.2.1
  have ha := S.2.2.2.2
  have hl : lv_has ls 2 [(0, .ref h_t), (1, .int l1)] := hl
  unfold f_X12_floor at h
  refine lv_aload_n hx hb dX12_floor_0 rfl (lv_at hl 0 rfl) ?_
  refine lv_aload_n hx hb dX12_floor_1 rfl (lv_at hl 0 rfl) ?_
  refine lv_iload_n hx hb dX12_floor_2 rfl (lv_at hl 1 rfl) ?_
  obtain ⟨r_c3_0, e_c3_0, h⟩ := bnd1_ok h
  refine cl_z (rn_v (ci := 12) (As := [.int l1]) (rest := [.ref h_t]) S (c_X12_isThere l D ((h_t_us, .inl (k_t_us, 10, .inl t_us)) :: (h_t_vs, .inl (k_t_vs, 10, .inl t_vs)) :: (h_t_ds, .inl (k_t_ds, 10, .inl t_ds)) :: R) h_t (.int t_thrown) (z_t_1) (z_t_2) (.int t_a) (z_t_4) (.int t_root) (.ref h_t_us) (.ref h_t_vs) (.ref h_t_ds) (z_t_10) (z_t_11) (z_t_12) (z_t_13) (z_t_14) (z_t_15) (z_t_16) (z_t_17) (z_t_18) (z_t_19) (z_t_20) (z_t_21) (z_t_22) (z_t_23) (z_t_24) (z_t_25) (z_t_26) (z_t_27) (z_t_28) (z_t_29) (z_t_30) (z_t_31) (z_t_32) (z_t_33) (z_t_34) (z_t_35) (z_t_36) (z_t_37) (z_t_38) (z_t_39) (z_t_40) (z_t_41) (z_t_42) (z_t_43) (z_t_44) (z_t_45) (z_t_46) (z_t_47) (z_t_48) (z_t_49) (z_t_50) (z_t_51) (z_t_52) (z_t_53) (z_t_54) (z_t_55) (z_t_56) (z_t_57) (z_t_58) (z_t_59) (z_t_60) h_t_has k_t_has t_has l1 r_c3_0 e_c3_0 _) q1194 q1196 q30 q61 q1197 nd_X12_isThere ⟨Nat.le_of_ble_eq_true rfl, Nat.le_of_ble_eq_true rfl⟩ rfl rfl hP hD (hK.sub (tys' := [(k_t_has, .boolean)]) [0] rfl) hN rfl ⟨0, _, rfl⟩ rfl hl.1 rfl (Nat.le_of_ble_eq_true rfl) dX12_floor_3 ⟨Nat.le_of_ble_eq_true rfl, Nat.le_of_ble_eq_true rfl⟩) hS hA hD (fun H locs hP hD hS z_c3_0 => ?_)
  have hP : va_P D vwCl ((h_t, .inr (12, (.int t_thrown :: z_t_1 :: z_t_2 :: .int t_a :: z_t_4 :: .int t_root :: .ref h_t_has :: .ref h_t_us :: .ref h_t_vs :: .ref h_t_ds :: z_t_10 :: z_t_11 :: z_t_12 :: z_t_13 :: z_t_14 :: z_t_15 :: z_t_16 :: z_t_17 :: z_t_18 :: z_t_19 :: z_t_20 :: z_t_21 :: z_t_22 :: z_t_23 :: z_t_24 :: z_t_25 :: z_t_26 :: z_t_27 :: z_t_28 :: z_t_29 :: z_t_30 :: z_t_31 :: z_t_32 :: z_t_33 :: z_t_34 :: z_t_35 :: z_t_36 :: z_t_37 :: z_t_38 :: z_t_39 :: z_t_40 :: z_t_41 :: z_t_42 :: z_t_43 :: z_t_44 :: z_t_45 :: z_t_46 :: z_t_47 :: z_t_48 :: z_t_49 :: z_t_50 :: z_t_51 :: z_t_52 :: z_t_53 :: z_t_54 :: z_t_55 :: z_t_56 :: z_t_57 :: z_t_58 :: z_t_59 :: z_t_60 :: []))) :: (h_t_has, .inl (k_t_has, 10, .inl t_has)) :: (h_t_us, .inl (k_t_us, 10, .inl t_us)) :: (h_t_vs, .inl (k_t_vs, 10, .inl t_vs)) :: (h_t_ds, .inl (k_t_ds, 10, .inl t_ds)) :: R) H := hP
  have hD : va_D A ((h_t, .inr (12, (.int t_thrown :: z_t_1 :: z_t_2 :: .int t_a :: z_t_4 :: .int t_root :: .ref h_t_has :: .ref h_t_us :: .ref h_t_vs :: .ref h_t_ds :: z_t_10 :: z_t_11 :: z_t_12 :: z_t_13 :: z_t_14 :: z_t_15 :: z_t_16 :: z_t_17 :: z_t_18 :: z_t_19 :: z_t_20 :: z_t_21 :: z_t_22 :: z_t_23 :: z_t_24 :: z_t_25 :: z_t_26 :: z_t_27 :: z_t_28 :: z_t_29 :: z_t_30 :: z_t_31 :: z_t_32 :: z_t_33 :: z_t_34 :: z_t_35 :: z_t_36 :: z_t_37 :: z_t_38 :: z_t_39 :: z_t_40 :: z_t_41 :: z_t_42 :: z_t_43 :: z_t_44 :: z_t_45 :: z_t_46 :: z_t_47 :: z_t_48 :: z_t_49 :: z_t_50 :: z_t_51 :: z_t_52 :: z_t_53 :: z_t_54 :: z_t_55 :: z_t_56 :: z_t_57 :: z_t_58 :: z_t_59 :: z_t_60 :: []))) :: (h_t_has, .inl (k_t_has, 10, .inl t_has)) :: (h_t_us, .inl (k_t_us, 10, .inl t_us)) :: (h_t_vs, .inl (k_t_vs, 10, .inl t_vs)) :: (h_t_ds, .inl (k_t_ds, 10, .inl t_ds)) :: R) := hD
  refine lv_if_ne (tgt := 13) hx hb dX12_floor_6 (by decide) (fun c2 => ?_) (fun c2 => ?_)
  · have h := br_neg c2 h
    refine lv_iconst (v := 0) hx hb dX12_floor_13 (by decide) ?_
    obtain ⟨r_c14_8, t_thrown_c14_8, e_c14_8, h⟩ := bnd2_ok h
    refine cl_z (rn_v (ci := 12) (As := [.int 0]) (rest := []) S (c_X12_throwsIf l D ((h_t_has, .inl (k_t_has, 10, .inl t_has)) :: (h_t_us, .inl (k_t_us, 10, .inl t_us)) :: (h_t_vs, .inl (k_t_vs, 10, .inl t_vs)) :: (h_t_ds, .inl (k_t_ds, 10, .inl t_ds)) :: R) h_t t_thrown (z_t_1) (z_t_2) (.int t_a) (z_t_4) (.int t_root) (.ref h_t_has) (.ref h_t_us) (.ref h_t_vs) (.ref h_t_ds) (z_t_10) (z_t_11) (z_t_12) (z_t_13) (z_t_14) (z_t_15) (z_t_16) (z_t_17) (z_t_18) (z_t_19) (z_t_20) (z_t_21) (z_t_22) (z_t_23) (z_t_24) (z_t_25) (z_t_26) (z_t_27) (z_t_28) (z_t_29) (z_t_30) (z_t_31) (z_t_32) (z_t_33) (z_t_34) (z_t_35) (z_t_36) (z_t_37) (z_t_38) (z_t_39) (z_t_40) (z_t_41) (z_t_42) (z_t_43) (z_t_44) (z_t_45) (z_t_46) (z_t_47) (z_t_48) (z_t_49) (z_t_50) (z_t_51) (z_t_52) (z_t_53) (z_t_54) (z_t_55) (z_t_56) (z_t_57) (z_t_58) (z_t_59) (z_t_60) 0 r_c14_8 t_thrown_c14_8 (by decide) e_c14_8 _) q1214 q1216 q34 q61 q1217 nd_X12_throwsIf ⟨Nat.le_of_ble_eq_true rfl, Nat.le_of_ble_eq_true rfl⟩ rfl rfl hP hD (hK.sub (tys' := []) [] rfl) hN rfl ⟨0, _, rfl⟩ rfl hl.1 rfl (Nat.le_of_ble_eq_true rfl) dX12_floor_14 ⟨Nat.le_of_ble_eq_true rfl, Nat.le_of_ble_eq_true rfl⟩) hS hA hD (fun H locs hP hD hS z_c14_8 => ?_)
    have hP : va_P D vwCl ((h_t, .inr (12, (.int t_thrown_c14_8 :: z_t_1 :: z_t_2 :: .int t_a :: z_t_4 :: .int t_root :: .ref h_t_has :: .ref h_t_us :: .ref h_t_vs :: .ref h_t_ds :: z_t_10 :: z_t_11 :: z_t_12 :: z_t_13 :: z_t_14 :: z_t_15 :: z_t_16 :: z_t_17 :: z_t_18 :: z_t_19 :: z_t_20 :: z_t_21 :: z_t_22 :: z_t_23 :: z_t_24 :: z_t_25 :: z_t_26 :: z_t_27 :: z_t_28 :: z_t_29 :: z_t_30 :: z_t_31 :: z_t_32 :: z_t_33 :: z_t_34 :: z_t_35 :: z_t_36 :: z_t_37 :: z_t_38 :: z_t_39 :: z_t_40 :: z_t_41 :: z_t_42 :: z_t_43 :: z_t_44 :: z_t_45 :: z_t_46 :: z_t_47 :: z_t_48 :: z_t_49 :: z_t_50 :: z_t_51 :: z_t_52 :: z_t_53 :: z_t_54 :: z_t_55 :: z_t_56 :: z_t_57 :: z_t_58 :: z_t_59 :: z_t_60 :: []))) :: (h_t_has, .inl (k_t_has, 10, .inl t_has)) :: (h_t_us, .inl (k_t_us, 10, .inl t_us)) :: (h_t_vs, .inl (k_t_vs, 10, .inl t_vs)) :: (h_t_ds, .inl (k_t_ds, 10, .inl t_ds)) :: R) H := hP
    have hD : va_D A ((h_t, .inr (12, (.int t_thrown_c14_8 :: z_t_1 :: z_t_2 :: .int t_a :: z_t_4 :: .int t_root :: .ref h_t_has :: .ref h_t_us :: .ref h_t_vs :: .ref h_t_ds :: z_t_10 :: z_t_11 :: z_t_12 :: z_t_13 :: z_t_14 :: z_t_15 :: z_t_16 :: z_t_17 :: z_t_18 :: z_t_19 :: z_t_20 :: z_t_21 :: z_t_22 :: z_t_23 :: z_t_24 :: z_t_25 :: z_t_26 :: z_t_27 :: z_t_28 :: z_t_29 :: z_t_30 :: z_t_31 :: z_t_32 :: z_t_33 :: z_t_34 :: z_t_35 :: z_t_36 :: z_t_37 :: z_t_38 :: z_t_39 :: z_t_40 :: z_t_41 :: z_t_42 :: z_t_43 :: z_t_44 :: z_t_45 :: z_t_46 :: z_t_47 :: z_t_48 :: z_t_49 :: z_t_50 :: z_t_51 :: z_t_52 :: z_t_53 :: z_t_54 :: z_t_55 :: z_t_56 :: z_t_57 :: z_t_58 :: z_t_59 :: z_t_60 :: []))) :: (h_t_has, .inl (k_t_has, 10, .inl t_has)) :: (h_t_us, .inl (k_t_us, 10, .inl t_us)) :: (h_t_vs, .inl (k_t_vs, 10, .inl t_vs)) :: (h_t_ds, .inl (k_t_ds, 10, .inl t_ds)) :: R) := hD
    refine lv_if_eq (tgt := 22) hx hb dX12_floor_17 (by decide) (fun c10 => ?_) (fun c10 => ?_)
    · have h := br_pos c10 h
      refine lv_aload_n hx hb dX12_floor_22 rfl (lv_at hl 0 rfl) ?_
      refine lv_aload_n hx hb dX12_floor_23 rfl (lv_at hl 0 rfl) ?_
      refine va_get (D := D) (ci := 12) (v := .ref h_t_us) (C := RX12) (T := TX12) (N := 61) hx hb ha ix12 hown hK hP 0 rfl rfl 7 (by decide) (ha _ q967) (fun _ h9 => h9) rfl dX12_floor_24 ?_
      refine lv_iload_n hx hb dX12_floor_27 rfl (lv_at hl 1 rfl) ?_
      obtain ⟨i11, h⟩ := ix_ok h
      refine va_iald hx hb hK hP 2 1 rfl rfl i11 dX12_floor_28 ?_
      refine lv_i2l (v := (t_us l1.toNatClampNeg).toInt64) hx hb dX12_floor_29 rfl ?_
      refine lv_aload_n hx hb dX12_floor_30 rfl (lv_at hl 0 rfl) ?_
      refine va_get (D := D) (ci := 12) (v := .ref h_t_vs) (C := RX12) (T := TX12) (N := 61) hx hb ha ix12 hown hK hP 0 rfl rfl 8 (by decide) (ha _ q968) (fun _ h9 => h9) rfl dX12_floor_31 ?_
      refine lv_iload_n hx hb dX12_floor_34 rfl (lv_at hl 1 rfl) ?_
      obtain ⟨i12, h⟩ := ix_ok h
      refine va_iald hx hb hK hP 3 2 rfl rfl i12 dX12_floor_35 ?_
      refine lv_i2l (v := (t_vs l1.toNatClampNeg).toInt64) hx hb dX12_floor_36 rfl ?_
      refine lv_aload_n hx hb dX12_floor_37 rfl (lv_at hl 0 rfl) ?_
      refine va_get (D := D) (ci := 12) (v := .ref h_t_ds) (C := RX12) (T := TX12) (N := 61) hx hb ha ix12 hown hK hP 0 rfl rfl 9 (by decide) (ha _ q969) (fun _ h9 => h9) rfl dX12_floor_38 ?_
      refine lv_iload_n hx hb dX12_floor_41 rfl (lv_at hl 1 rfl) ?_
      obtain ⟨i13, h⟩ := ix_ok h
      refine va_iald hx hb hK hP 4 3 rfl rfl i13 dX12_floor_42 ?_
      refine lv_i2l (v := (t_ds l1.toNatClampNeg).toInt64) hx hb dX12_floor_43 rfl ?_
      obtain ⟨r_c44_13, e_c44_13, h⟩ := bnd1_ok h
      refine cl_l (rn_v (ci := 12) (As := [.long (t_us l1.toNatClampNeg).toInt64, .long (t_vs l1.toNatClampNeg).toInt64, .long (t_ds l1.toNatClampNeg).toInt64]) (rest := []) S (c_X12_floorOf l D ((h_t_has, .inl (k_t_has, 10, .inl t_has)) :: (h_t_us, .inl (k_t_us, 10, .inl t_us)) :: (h_t_vs, .inl (k_t_vs, 10, .inl t_vs)) :: (h_t_ds, .inl (k_t_ds, 10, .inl t_ds)) :: R) h_t (.int t_thrown_c14_8) (z_t_1) (z_t_2) t_a (z_t_4) t_root (.ref h_t_has) (.ref h_t_us) (.ref h_t_vs) (.ref h_t_ds) (z_t_10) (z_t_11) (z_t_12) (z_t_13) (z_t_14) (z_t_15) (z_t_16) (z_t_17) (z_t_18) (z_t_19) (z_t_20) (z_t_21) (z_t_22) (z_t_23) (z_t_24) (z_t_25) (z_t_26) (z_t_27) (z_t_28) (z_t_29) (z_t_30) (z_t_31) (z_t_32) (z_t_33) (z_t_34) (z_t_35) (z_t_36) (z_t_37) (z_t_38) (z_t_39) (z_t_40) (z_t_41) (z_t_42) (z_t_43) (z_t_44) (z_t_45) (z_t_46) (z_t_47) (z_t_48) (z_t_49) (z_t_50) (z_t_51) (z_t_52) (z_t_53) (z_t_54) (z_t_55) (z_t_56) (z_t_57) (z_t_58) (z_t_59) (z_t_60) ((t_us l1.toNatClampNeg).toInt64) ((t_vs l1.toNatClampNeg).toInt64) ((t_ds l1.toNatClampNeg).toInt64) r_c44_13 e_c44_13 _) q1231 q1233 q36 q61 q1234 nd_X12_floorOf ⟨Nat.le_of_ble_eq_true rfl, Nat.le_of_ble_eq_true rfl⟩ rfl rfl hP hD (hK.sub (tys' := []) [] rfl) hN rfl ⟨0, _, rfl⟩ rfl hl.1 rfl (Nat.le_of_ble_eq_true rfl) dX12_floor_44 ⟨Nat.le_of_ble_eq_true rfl, Nat.le_of_ble_eq_true rfl⟩) hS hA hD (fun H locs hP hD hS => ?_)
      have hP : va_P D vwCl ((h_t, .inr (12, (.int t_thrown_c14_8 :: z_t_1 :: z_t_2 :: .int t_a :: z_t_4 :: .int t_root :: .ref h_t_has :: .ref h_t_us :: .ref h_t_vs :: .ref h_t_ds :: z_t_10 :: z_t_11 :: z_t_12 :: z_t_13 :: z_t_14 :: z_t_15 :: z_t_16 :: z_t_17 :: z_t_18 :: z_t_19 :: z_t_20 :: z_t_21 :: z_t_22 :: z_t_23 :: z_t_24 :: z_t_25 :: z_t_26 :: z_t_27 :: z_t_28 :: z_t_29 :: z_t_30 :: z_t_31 :: z_t_32 :: z_t_33 :: z_t_34 :: z_t_35 :: z_t_36 :: z_t_37 :: z_t_38 :: z_t_39 :: z_t_40 :: z_t_41 :: z_t_42 :: z_t_43 :: z_t_44 :: z_t_45 :: z_t_46 :: z_t_47 :: z_t_48 :: z_t_49 :: z_t_50 :: z_t_51 :: z_t_52 :: z_t_53 :: z_t_54 :: z_t_55 :: z_t_56 :: z_t_57 :: z_t_58 :: z_t_59 :: z_t_60 :: []))) :: (h_t_has, .inl (k_t_has, 10, .inl t_has)) :: (h_t_us, .inl (k_t_us, 10, .inl t_us)) :: (h_t_vs, .inl (k_t_vs, 10, .inl t_vs)) :: (h_t_ds, .inl (k_t_ds, 10, .inl t_ds)) :: R) H := hP
      have hD : va_D A ((h_t, .inr (12, (.int t_thrown_c14_8 :: z_t_1 :: z_t_2 :: .int t_a :: z_t_4 :: .int t_root :: .ref h_t_has :: .ref h_t_us :: .ref h_t_vs :: .ref h_t_ds :: z_t_10 :: z_t_11 :: z_t_12 :: z_t_13 :: z_t_14 :: z_t_15 :: z_t_16 :: z_t_17 :: z_t_18 :: z_t_19 :: z_t_20 :: z_t_21 :: z_t_22 :: z_t_23 :: z_t_24 :: z_t_25 :: z_t_26 :: z_t_27 :: z_t_28 :: z_t_29 :: z_t_30 :: z_t_31 :: z_t_32 :: z_t_33 :: z_t_34 :: z_t_35 :: z_t_36 :: z_t_37 :: z_t_38 :: z_t_39 :: z_t_40 :: z_t_41 :: z_t_42 :: z_t_43 :: z_t_44 :: z_t_45 :: z_t_46 :: z_t_47 :: z_t_48 :: z_t_49 :: z_t_50 :: z_t_51 :: z_t_52 :: z_t_53 :: z_t_54 :: z_t_55 :: z_t_56 :: z_t_57 :: z_t_58 :: z_t_59 :: z_t_60 :: []))) :: (h_t_has, .inl (k_t_has, 10, .inl t_has)) :: (h_t_us, .inl (k_t_us, 10, .inl t_us)) :: (h_t_vs, .inl (k_t_vs, 10, .inl t_vs)) :: (h_t_ds, .inl (k_t_ds, 10, .inl t_ds)) :: R) := hD
      cases h
      exact rt_l S hr hlk hP hD hS dX12_floor_47
    · have h := br_neg c10 h
      refine lv_lconst (v := 0) hx hb dX12_floor_20 (by decide) ?_
      cases h
      exact rt_l S hr hlk hP hD hS dX12_floor_21
  · have h := br_pos c2 h
    refine lv_iconst (v := 1) hx hb dX12_floor_9 (by decide) ?_
    refine lv_goto (tgt := 14) hx hb dX12_floor_10 (by decide) ?_
    obtain ⟨r_c14_2, t_thrown_c14_2, e_c14_2, h⟩ := bnd2_ok h
    refine cl_z (rn_v (ci := 12) (As := [.int 1]) (rest := []) S (c_X12_throwsIf l D ((h_t_has, .inl (k_t_has, 10, .inl t_has)) :: (h_t_us, .inl (k_t_us, 10, .inl t_us)) :: (h_t_vs, .inl (k_t_vs, 10, .inl t_vs)) :: (h_t_ds, .inl (k_t_ds, 10, .inl t_ds)) :: R) h_t t_thrown (z_t_1) (z_t_2) (.int t_a) (z_t_4) (.int t_root) (.ref h_t_has) (.ref h_t_us) (.ref h_t_vs) (.ref h_t_ds) (z_t_10) (z_t_11) (z_t_12) (z_t_13) (z_t_14) (z_t_15) (z_t_16) (z_t_17) (z_t_18) (z_t_19) (z_t_20) (z_t_21) (z_t_22) (z_t_23) (z_t_24) (z_t_25) (z_t_26) (z_t_27) (z_t_28) (z_t_29) (z_t_30) (z_t_31) (z_t_32) (z_t_33) (z_t_34) (z_t_35) (z_t_36) (z_t_37) (z_t_38) (z_t_39) (z_t_40) (z_t_41) (z_t_42) (z_t_43) (z_t_44) (z_t_45) (z_t_46) (z_t_47) (z_t_48) (z_t_49) (z_t_50) (z_t_51) (z_t_52) (z_t_53) (z_t_54) (z_t_55) (z_t_56) (z_t_57) (z_t_58) (z_t_59) (z_t_60) 1 r_c14_2 t_thrown_c14_2 (by decide) e_c14_2 _) q1214 q1216 q34 q61 q1217 nd_X12_throwsIf ⟨Nat.le_of_ble_eq_true rfl, Nat.le_of_ble_eq_true rfl⟩ rfl rfl hP hD (hK.sub (tys' := []) [] rfl) hN rfl ⟨0, _, rfl⟩ rfl hl.1 rfl (Nat.le_of_ble_eq_true rfl) dX12_floor_14 ⟨Nat.le_of_ble_eq_true rfl, Nat.le_of_ble_eq_true rfl⟩) hS hA hD (fun H locs hP hD hS z_c14_2 => ?_)
    have hP : va_P D vwCl ((h_t, .inr (12, (.int t_thrown_c14_2 :: z_t_1 :: z_t_2 :: .int t_a :: z_t_4 :: .int t_root :: .ref h_t_has :: .ref h_t_us :: .ref h_t_vs :: .ref h_t_ds :: z_t_10 :: z_t_11 :: z_t_12 :: z_t_13 :: z_t_14 :: z_t_15 :: z_t_16 :: z_t_17 :: z_t_18 :: z_t_19 :: z_t_20 :: z_t_21 :: z_t_22 :: z_t_23 :: z_t_24 :: z_t_25 :: z_t_26 :: z_t_27 :: z_t_28 :: z_t_29 :: z_t_30 :: z_t_31 :: z_t_32 :: z_t_33 :: z_t_34 :: z_t_35 :: z_t_36 :: z_t_37 :: z_t_38 :: z_t_39 :: z_t_40 :: z_t_41 :: z_t_42 :: z_t_43 :: z_t_44 :: z_t_45 :: z_t_46 :: z_t_47 :: z_t_48 :: z_t_49 :: z_t_50 :: z_t_51 :: z_t_52 :: z_t_53 :: z_t_54 :: z_t_55 :: z_t_56 :: z_t_57 :: z_t_58 :: z_t_59 :: z_t_60 :: []))) :: (h_t_has, .inl (k_t_has, 10, .inl t_has)) :: (h_t_us, .inl (k_t_us, 10, .inl t_us)) :: (h_t_vs, .inl (k_t_vs, 10, .inl t_vs)) :: (h_t_ds, .inl (k_t_ds, 10, .inl t_ds)) :: R) H := hP
    have hD : va_D A ((h_t, .inr (12, (.int t_thrown_c14_2 :: z_t_1 :: z_t_2 :: .int t_a :: z_t_4 :: .int t_root :: .ref h_t_has :: .ref h_t_us :: .ref h_t_vs :: .ref h_t_ds :: z_t_10 :: z_t_11 :: z_t_12 :: z_t_13 :: z_t_14 :: z_t_15 :: z_t_16 :: z_t_17 :: z_t_18 :: z_t_19 :: z_t_20 :: z_t_21 :: z_t_22 :: z_t_23 :: z_t_24 :: z_t_25 :: z_t_26 :: z_t_27 :: z_t_28 :: z_t_29 :: z_t_30 :: z_t_31 :: z_t_32 :: z_t_33 :: z_t_34 :: z_t_35 :: z_t_36 :: z_t_37 :: z_t_38 :: z_t_39 :: z_t_40 :: z_t_41 :: z_t_42 :: z_t_43 :: z_t_44 :: z_t_45 :: z_t_46 :: z_t_47 :: z_t_48 :: z_t_49 :: z_t_50 :: z_t_51 :: z_t_52 :: z_t_53 :: z_t_54 :: z_t_55 :: z_t_56 :: z_t_57 :: z_t_58 :: z_t_59 :: z_t_60 :: []))) :: (h_t_has, .inl (k_t_has, 10, .inl t_has)) :: (h_t_us, .inl (k_t_us, 10, .inl t_us)) :: (h_t_vs, .inl (k_t_vs, 10, .inl t_vs)) :: (h_t_ds, .inl (k_t_ds, 10, .inl t_ds)) :: R) := hD
    refine lv_if_eq (tgt := 22) hx hb dX12_floor_17 (by decide) (fun c4 => ?_) (fun c4 => ?_)
    · have h := br_pos c4 h
      refine lv_aload_n hx hb dX12_floor_22 rfl (lv_at hl 0 rfl) ?_
      refine lv_aload_n hx hb dX12_floor_23 rfl (lv_at hl 0 rfl) ?_
      refine va_get (D := D) (ci := 12) (v := .ref h_t_us) (C := RX12) (T := TX12) (N := 61) hx hb ha ix12 hown hK hP 0 rfl rfl 7 (by decide) (ha _ q967) (fun _ h9 => h9) rfl dX12_floor_24 ?_
      refine lv_iload_n hx hb dX12_floor_27 rfl (lv_at hl 1 rfl) ?_
      obtain ⟨i5, h⟩ := ix_ok h
      refine va_iald hx hb hK hP 2 1 rfl rfl i5 dX12_floor_28 ?_
      refine lv_i2l (v := (t_us l1.toNatClampNeg).toInt64) hx hb dX12_floor_29 rfl ?_
      refine lv_aload_n hx hb dX12_floor_30 rfl (lv_at hl 0 rfl) ?_
      refine va_get (D := D) (ci := 12) (v := .ref h_t_vs) (C := RX12) (T := TX12) (N := 61) hx hb ha ix12 hown hK hP 0 rfl rfl 8 (by decide) (ha _ q968) (fun _ h9 => h9) rfl dX12_floor_31 ?_
      refine lv_iload_n hx hb dX12_floor_34 rfl (lv_at hl 1 rfl) ?_
      obtain ⟨i6, h⟩ := ix_ok h
      refine va_iald hx hb hK hP 3 2 rfl rfl i6 dX12_floor_35 ?_
      refine lv_i2l (v := (t_vs l1.toNatClampNeg).toInt64) hx hb dX12_floor_36 rfl ?_
      refine lv_aload_n hx hb dX12_floor_37 rfl (lv_at hl 0 rfl) ?_
      refine va_get (D := D) (ci := 12) (v := .ref h_t_ds) (C := RX12) (T := TX12) (N := 61) hx hb ha ix12 hown hK hP 0 rfl rfl 9 (by decide) (ha _ q969) (fun _ h9 => h9) rfl dX12_floor_38 ?_
      refine lv_iload_n hx hb dX12_floor_41 rfl (lv_at hl 1 rfl) ?_
      obtain ⟨i7, h⟩ := ix_ok h
      refine va_iald hx hb hK hP 4 3 rfl rfl i7 dX12_floor_42 ?_
      refine lv_i2l (v := (t_ds l1.toNatClampNeg).toInt64) hx hb dX12_floor_43 rfl ?_
      obtain ⟨r_c44_7, e_c44_7, h⟩ := bnd1_ok h
      refine cl_l (rn_v (ci := 12) (As := [.long (t_us l1.toNatClampNeg).toInt64, .long (t_vs l1.toNatClampNeg).toInt64, .long (t_ds l1.toNatClampNeg).toInt64]) (rest := []) S (c_X12_floorOf l D ((h_t_has, .inl (k_t_has, 10, .inl t_has)) :: (h_t_us, .inl (k_t_us, 10, .inl t_us)) :: (h_t_vs, .inl (k_t_vs, 10, .inl t_vs)) :: (h_t_ds, .inl (k_t_ds, 10, .inl t_ds)) :: R) h_t (.int t_thrown_c14_2) (z_t_1) (z_t_2) t_a (z_t_4) t_root (.ref h_t_has) (.ref h_t_us) (.ref h_t_vs) (.ref h_t_ds) (z_t_10) (z_t_11) (z_t_12) (z_t_13) (z_t_14) (z_t_15) (z_t_16) (z_t_17) (z_t_18) (z_t_19) (z_t_20) (z_t_21) (z_t_22) (z_t_23) (z_t_24) (z_t_25) (z_t_26) (z_t_27) (z_t_28) (z_t_29) (z_t_30) (z_t_31) (z_t_32) (z_t_33) (z_t_34) (z_t_35) (z_t_36) (z_t_37) (z_t_38) (z_t_39) (z_t_40) (z_t_41) (z_t_42) (z_t_43) (z_t_44) (z_t_45) (z_t_46) (z_t_47) (z_t_48) (z_t_49) (z_t_50) (z_t_51) (z_t_52) (z_t_53) (z_t_54) (z_t_55) (z_t_56) (z_t_57) (z_t_58) (z_t_59) (z_t_60) ((t_us l1.toNatClampNeg).toInt64) ((t_vs l1.toNatClampNeg).toInt64) ((t_ds l1.toNatClampNeg).toInt64) r_c44_7 e_c44_7 _) q1231 q1233 q36 q61 q1234 nd_X12_floorOf ⟨Nat.le_of_ble_eq_true rfl, Nat.le_of_ble_eq_true rfl⟩ rfl rfl hP hD (hK.sub (tys' := []) [] rfl) hN rfl ⟨0, _, rfl⟩ rfl hl.1 rfl (Nat.le_of_ble_eq_true rfl) dX12_floor_44 ⟨Nat.le_of_ble_eq_true rfl, Nat.le_of_ble_eq_true rfl⟩) hS hA hD (fun H locs hP hD hS => ?_)
      have hP : va_P D vwCl ((h_t, .inr (12, (.int t_thrown_c14_2 :: z_t_1 :: z_t_2 :: .int t_a :: z_t_4 :: .int t_root :: .ref h_t_has :: .ref h_t_us :: .ref h_t_vs :: .ref h_t_ds :: z_t_10 :: z_t_11 :: z_t_12 :: z_t_13 :: z_t_14 :: z_t_15 :: z_t_16 :: z_t_17 :: z_t_18 :: z_t_19 :: z_t_20 :: z_t_21 :: z_t_22 :: z_t_23 :: z_t_24 :: z_t_25 :: z_t_26 :: z_t_27 :: z_t_28 :: z_t_29 :: z_t_30 :: z_t_31 :: z_t_32 :: z_t_33 :: z_t_34 :: z_t_35 :: z_t_36 :: z_t_37 :: z_t_38 :: z_t_39 :: z_t_40 :: z_t_41 :: z_t_42 :: z_t_43 :: z_t_44 :: z_t_45 :: z_t_46 :: z_t_47 :: z_t_48 :: z_t_49 :: z_t_50 :: z_t_51 :: z_t_52 :: z_t_53 :: z_t_54 :: z_t_55 :: z_t_56 :: z_t_57 :: z_t_58 :: z_t_59 :: z_t_60 :: []))) :: (h_t_has, .inl (k_t_has, 10, .inl t_has)) :: (h_t_us, .inl (k_t_us, 10, .inl t_us)) :: (h_t_vs, .inl (k_t_vs, 10, .inl t_vs)) :: (h_t_ds, .inl (k_t_ds, 10, .inl t_ds)) :: R) H := hP
      have hD : va_D A ((h_t, .inr (12, (.int t_thrown_c14_2 :: z_t_1 :: z_t_2 :: .int t_a :: z_t_4 :: .int t_root :: .ref h_t_has :: .ref h_t_us :: .ref h_t_vs :: .ref h_t_ds :: z_t_10 :: z_t_11 :: z_t_12 :: z_t_13 :: z_t_14 :: z_t_15 :: z_t_16 :: z_t_17 :: z_t_18 :: z_t_19 :: z_t_20 :: z_t_21 :: z_t_22 :: z_t_23 :: z_t_24 :: z_t_25 :: z_t_26 :: z_t_27 :: z_t_28 :: z_t_29 :: z_t_30 :: z_t_31 :: z_t_32 :: z_t_33 :: z_t_34 :: z_t_35 :: z_t_36 :: z_t_37 :: z_t_38 :: z_t_39 :: z_t_40 :: z_t_41 :: z_t_42 :: z_t_43 :: z_t_44 :: z_t_45 :: z_t_46 :: z_t_47 :: z_t_48 :: z_t_49 :: z_t_50 :: z_t_51 :: z_t_52 :: z_t_53 :: z_t_54 :: z_t_55 :: z_t_56 :: z_t_57 :: z_t_58 :: z_t_59 :: z_t_60 :: []))) :: (h_t_has, .inl (k_t_has, 10, .inl t_has)) :: (h_t_us, .inl (k_t_us, 10, .inl t_us)) :: (h_t_vs, .inl (k_t_vs, 10, .inl t_vs)) :: (h_t_ds, .inl (k_t_ds, 10, .inl t_ds)) :: R) := hD
      cases h
      exact rt_l S hr hlk hP hD hS dX12_floor_47
    · have h := br_neg c4 h
      refine lv_lconst (v := 0) hx hb dX12_floor_20 (by decide) ?_
      cases h
      exact rt_l S hr hlk hP hD hS dX12_floor_21
noncomputable def f_X12_whole_L9 (l1 : Int64) (l3 : Int64) (l5 : Int64) (t_a : Int32) (t_b : Int32) (t_root : Int32) : Nat → Int64 → Int64 → Int32 →  Option (Int64 × Int64 × Int32)
  | 0, _, _, _ => none
  | n + 1, l7, l9, l11 => (
    bnd1 (f_X12_sign t_a t_root (l1 - ((l9 * t_b.toInt64) * l5)) (l3 - ((l7 + (l9 * t_a.toInt64)) * l5))) fun r_c47_0 => (
     if 0 ≤ r_c47_0 then (
      f_X12_whole_L9 l1 l3 l5 t_a t_b t_root n (l9 * t_b.toInt64) (l7 + (l9 * t_a.toInt64)) (l11 + 1)
     ) else (
      some (l7, l9, l11)
     )
    ))
noncomputable def f_X12_whole_L95 (l5 : Int64) (l7 : Int64) (l9 : Int64) (t_a : Int32) (t_root : Int32) : Nat → Int64 → Int64 → Int64 →  Option (Int64 × Int64 × Int64)
  | 0, _, _, _ => none
  | n + 1, l12, l14, l16 => (
    bnd1 (f_X12_sign t_a t_root (l12 - (l7 * l5)) (l14 - (l9 * l5))) fun r_c112_4 => (
     if r_c112_4 < 0 then (
      some (l12, l14, l16)
     ) else (
      f_X12_whole_L95 l5 l7 l9 t_a t_root n (l12 - (l7 * l5)) (l14 - (l9 * l5)) (l16 + 1)
     )
    ))
noncomputable def f_X12_whole_L87 (l5 : Int64) (t_a : Int32) (t_b : Int32) (t_root : Int32) : Nat → Int64 → Int64 → Int32 → Int64 → Int64 → Int32 → (Nat → Int64) →  Option (Int64 × Int64 × Int32 × (Nat → Int64))
  | 0, _, _, _, _, _, _, _ => none
  | n + 1, l7, l9, l11, l12, l14, t_digitMany, t_digit => (
    if l11 < 0 then (
     some (l12, l14, t_digitMany, t_digit)
    ) else (
     bnd3 (f_X12_whole_L95 l5 l7 l9 t_a t_root FU l12 l14 0) fun x12_L95_6 x14_L95_6 x16_L95_6 => (
      gd (ixb t_digitMany 500) (
       gd (nzL t_b.toInt64) (
        gd (nzL t_b.toInt64) (
         f_X12_whole_L87 l5 t_a t_b t_root n (l9 - (t_a.toInt64 * (l7 / t_b.toInt64))) (l7 / t_b.toInt64) (l11 + (-1)) x12_L95_6 x14_L95_6 (t_digitMany + 1) (vp_updL t_digit t_digitMany.toNatClampNeg x16_L95_6)
        )
       )
      )
     )
    ))
noncomputable def f_X12_whole (t_a : Int32) (t_b : Int32) (t_root : Int32) (t_top : Int32) (t_digitMany : Int32) (t_digit : Nat → Int64) (t_leftU : Nat → Int64) (t_leftV : Nat → Int64) (l1 : Int64) (l3 : Int64) (l5 : Int64) : Option (Int32 × Int32 × (Nat → Int64) × (Nat → Int64) × (Nat → Int64)) :=
  bnd3 (f_X12_whole_L9 l1 l3 l5 t_a t_b t_root FU 1 0 0) fun x7_L9_2 x9_L9_2 x11_L9_2 => (
   bnd4 (f_X12_whole_L87 l5 t_a t_b t_root FU x7_L9_2 x9_L9_2 x11_L9_2 l1 l3 0 t_digit) fun x12_L87_10 x14_L87_10 x_t_digitMany_L87_10 x_t_digit_L87_10 => (
    gd (ixb 0 401) (
     gd (ixb 0 401) (
      some (x11_L9_2, x_t_digitMany_L87_10, x_t_digit_L87_10, (vp_updL t_leftU (0 : Int32).toNatClampNeg x12_L87_10), (vp_updL t_leftV (0 : Int32).toNatClampNeg x14_L87_10))
     )
    )
   )
  )
set_option maxHeartbeats 4000000 in
set_option maxRecDepth 100000 in
theorem c_X12_whole (l : Launch) (D : va_G) (R : va_W) (h_t : Nat) (z_t_0 : Value) (z_t_1 : Value) (z_t_2 : Value) (t_a : Int32) (t_b : Int32) (t_root : Int32) (z_t_6 : Value) (z_t_7 : Value) (z_t_8 : Value) (z_t_9 : Value) (z_t_10 : Value) (z_t_11 : Value) (z_t_12 : Value) (z_t_13 : Value) (z_t_14 : Value) (t_top : Int32) (z_t_16 : Value) (z_t_17 : Value) (t_digitMany : Int32) (z_t_22 : Value) (z_t_23 : Value) (z_t_24 : Value) (z_t_25 : Value) (z_t_26 : Value) (z_t_27 : Value) (z_t_28 : Value) (z_t_29 : Value) (z_t_30 : Value) (z_t_31 : Value) (z_t_32 : Value) (z_t_33 : Value) (z_t_34 : Value) (z_t_35 : Value) (z_t_36 : Value) (z_t_37 : Value) (z_t_38 : Value) (z_t_39 : Value) (z_t_40 : Value) (z_t_41 : Value) (z_t_42 : Value) (z_t_43 : Value) (z_t_44 : Value) (z_t_45 : Value) (z_t_46 : Value) (z_t_47 : Value) (z_t_48 : Value) (z_t_49 : Value) (z_t_50 : Value) (z_t_51 : Value) (z_t_52 : Value) (z_t_53 : Value) (z_t_54 : Value) (z_t_55 : Value) (z_t_56 : Value) (z_t_57 : Value) (z_t_58 : Value) (z_t_59 : Value) (z_t_60 : Value) (h_t_digit : Nat) (k_t_digit : ClassId) (t_digit : Nat → Int64) (h_t_leftU : Nat) (k_t_leftU : ClassId) (t_leftU : Nat → Int64) (h_t_leftV : Nat) (k_t_leftV : ClassId) (t_leftV : Nat → Int64) (l1 : Int64) (l3 : Int64) (l5 : Int64) (o_t_top : Int32) (o_t_digitMany : Int32) (o_t_digit : Nat → Int64) (o_t_leftU : Nat → Int64) (o_t_leftV : Nat → Int64)  (h : f_X12_whole t_a t_b t_root t_top t_digitMany t_digit t_leftU t_leftV l1 l3 l5 = some (o_t_top, o_t_digitMany, o_t_digit, o_t_leftU, o_t_leftV)) (sz : Nat) : Met l yX12_whole (WD yX12_whole cX12_whole 20 none) ({ frames := 1, cells := 0, slots := 0, locals := 28 }) (va_Pc [.ref h_t, .long l1, .long l3, .long l5] (PcW D [(k_t_digit, .long), (k_t_leftU, .long), (k_t_leftV, .long)] ((h_t, .inr (12, (z_t_0 :: z_t_1 :: z_t_2 :: .int t_a :: .int t_b :: .int t_root :: z_t_6 :: z_t_7 :: z_t_8 :: z_t_9 :: z_t_10 :: z_t_11 :: z_t_12 :: z_t_13 :: z_t_14 :: .int t_top :: z_t_16 :: z_t_17 :: .int t_digitMany :: .ref h_t_digit :: .ref h_t_leftU :: .ref h_t_leftV :: z_t_22 :: z_t_23 :: z_t_24 :: z_t_25 :: z_t_26 :: z_t_27 :: z_t_28 :: z_t_29 :: z_t_30 :: z_t_31 :: z_t_32 :: z_t_33 :: z_t_34 :: z_t_35 :: z_t_36 :: z_t_37 :: z_t_38 :: z_t_39 :: z_t_40 :: z_t_41 :: z_t_42 :: z_t_43 :: z_t_44 :: z_t_45 :: z_t_46 :: z_t_47 :: z_t_48 :: z_t_49 :: z_t_50 :: z_t_51 :: z_t_52 :: z_t_53 :: z_t_54 :: z_t_55 :: z_t_56 :: z_t_57 :: z_t_58 :: z_t_59 :: z_t_60 :: []))) :: (h_t_digit, .inl (k_t_digit, 500, .inr (.inl t_digit))) :: (h_t_leftU, .inl (k_t_leftU, 401, .inr (.inl t_leftU))) :: (h_t_leftV, .inl (k_t_leftV, 401, .inr (.inl t_leftV))) :: R) sz)) (QV D ((h_t, .inr (12, (z_t_0 :: z_t_1 :: z_t_2 :: .int t_a :: .int t_b :: .int t_root :: z_t_6 :: z_t_7 :: z_t_8 :: z_t_9 :: z_t_10 :: z_t_11 :: z_t_12 :: z_t_13 :: z_t_14 :: .int o_t_top :: z_t_16 :: z_t_17 :: .int o_t_digitMany :: .ref h_t_digit :: .ref h_t_leftU :: .ref h_t_leftV :: z_t_22 :: z_t_23 :: z_t_24 :: z_t_25 :: z_t_26 :: z_t_27 :: z_t_28 :: z_t_29 :: z_t_30 :: z_t_31 :: z_t_32 :: z_t_33 :: z_t_34 :: z_t_35 :: z_t_36 :: z_t_37 :: z_t_38 :: z_t_39 :: z_t_40 :: z_t_41 :: z_t_42 :: z_t_43 :: z_t_44 :: z_t_45 :: z_t_46 :: z_t_47 :: z_t_48 :: z_t_49 :: z_t_50 :: z_t_51 :: z_t_52 :: z_t_53 :: z_t_54 :: z_t_55 :: z_t_56 :: z_t_57 :: z_t_58 :: z_t_59 :: z_t_60 :: []))) :: (h_t_digit, .inl (k_t_digit, 500, .inr (.inl o_t_digit))) :: (h_t_leftU, .inl (k_t_leftU, 401, .inr (.inl o_t_leftU))) :: (h_t_leftV, .inl (k_t_leftV, 401, .inr (.inl o_t_leftV))) :: R) (va_A ((h_t, .inr (12, (z_t_0 :: z_t_1 :: z_t_2 :: .int t_a :: .int t_b :: .int t_root :: z_t_6 :: z_t_7 :: z_t_8 :: z_t_9 :: z_t_10 :: z_t_11 :: z_t_12 :: z_t_13 :: z_t_14 :: .int t_top :: z_t_16 :: z_t_17 :: .int t_digitMany :: .ref h_t_digit :: .ref h_t_leftU :: .ref h_t_leftV :: z_t_22 :: z_t_23 :: z_t_24 :: z_t_25 :: z_t_26 :: z_t_27 :: z_t_28 :: z_t_29 :: z_t_30 :: z_t_31 :: z_t_32 :: z_t_33 :: z_t_34 :: z_t_35 :: z_t_36 :: z_t_37 :: z_t_38 :: z_t_39 :: z_t_40 :: z_t_41 :: z_t_42 :: z_t_43 :: z_t_44 :: z_t_45 :: z_t_46 :: z_t_47 :: z_t_48 :: z_t_49 :: z_t_50 :: z_t_51 :: z_t_52 :: z_t_53 :: z_t_54 :: z_t_55 :: z_t_56 :: z_t_57 :: z_t_58 :: z_t_59 :: z_t_60 :: []))) :: (h_t_digit, .inl (k_t_digit, 500, .inr (.inl t_digit))) :: (h_t_leftU, .inl (k_t_leftU, 401, .inr (.inl t_leftU))) :: (h_t_leftV, .inl (k_t_leftV, 401, .inr (.inl t_leftV))) :: R) sz)) 0 0 (va_A ((h_t, .inr (12, (z_t_0 :: z_t_1 :: z_t_2 :: .int t_a :: .int t_b :: .int t_root :: z_t_6 :: z_t_7 :: z_t_8 :: z_t_9 :: z_t_10 :: z_t_11 :: z_t_12 :: z_t_13 :: z_t_14 :: .int t_top :: z_t_16 :: z_t_17 :: .int t_digitMany :: .ref h_t_digit :: .ref h_t_leftU :: .ref h_t_leftV :: z_t_22 :: z_t_23 :: z_t_24 :: z_t_25 :: z_t_26 :: z_t_27 :: z_t_28 :: z_t_29 :: z_t_30 :: z_t_31 :: z_t_32 :: z_t_33 :: z_t_34 :: z_t_35 :: z_t_36 :: z_t_37 :: z_t_38 :: z_t_39 :: z_t_40 :: z_t_41 :: z_t_42 :: z_t_43 :: z_t_44 :: z_t_45 :: z_t_46 :: z_t_47 :: z_t_48 :: z_t_49 :: z_t_50 :: z_t_51 :: z_t_52 :: z_t_53 :: z_t_54 :: z_t_55 :: z_t_56 :: z_t_57 :: z_t_58 :: z_t_59 :: z_t_60 :: []))) :: (h_t_digit, .inl (k_t_digit, 500, .inr (.inl t_digit))) :: (h_t_leftU, .inl (k_t_leftU, 401, .inr (.inl t_leftU))) :: (h_t_leftV, .inl (k_t_leftV, 401, .inr (.inl t_leftV))) :: R) sz) := by
  refine ct_start (QF := fun A => QV D ((h_t, .inr (12, (z_t_0 :: z_t_1 :: z_t_2 :: .int t_a :: .int t_b :: .int t_root :: z_t_6 :: z_t_7 :: z_t_8 :: z_t_9 :: z_t_10 :: z_t_11 :: z_t_12 :: z_t_13 :: z_t_14 :: .int o_t_top :: z_t_16 :: z_t_17 :: .int o_t_digitMany :: .ref h_t_digit :: .ref h_t_leftU :: .ref h_t_leftV :: z_t_22 :: z_t_23 :: z_t_24 :: z_t_25 :: z_t_26 :: z_t_27 :: z_t_28 :: z_t_29 :: z_t_30 :: z_t_31 :: z_t_32 :: z_t_33 :: z_t_34 :: z_t_35 :: z_t_36 :: z_t_37 :: z_t_38 :: z_t_39 :: z_t_40 :: z_t_41 :: z_t_42 :: z_t_43 :: z_t_44 :: z_t_45 :: z_t_46 :: z_t_47 :: z_t_48 :: z_t_49 :: z_t_50 :: z_t_51 :: z_t_52 :: z_t_53 :: z_t_54 :: z_t_55 :: z_t_56 :: z_t_57 :: z_t_58 :: z_t_59 :: z_t_60 :: []))) :: (h_t_digit, .inl (k_t_digit, 500, .inr (.inl o_t_digit))) :: (h_t_leftU, .inl (k_t_leftU, 401, .inr (.inl o_t_leftU))) :: (h_t_leftV, .inl (k_t_leftV, 401, .inr (.inl o_t_leftV))) :: R) A) ?_ ?_ ?_
  · decide +kernel
  · exact Nat.le_of_ble_eq_true rfl
  intro p e s m args below meth c A ls S hr hlk hnm hS hA hP hD hK hN hl
  have S : CallFix p m c cX12_whole 20 s args AL "DigitBenchModel" := S
  have hx := S.1
  have hb := S.2.1
  have hown := S.2.2.2.1
  have ha := S.2.2.2.2
  have hl : lv_has ls 20 [(0, .ref h_t), (1, .long l1), (3, .long l3), (5, .long l5)] := hl
  have L9 : ∀ (Q : State → Prop) (n : Nat) (l1 : Int64) (l3 : Int64) (l5 : Int64) (l7 : Int64) (l9 : Int64) (l11 : Int32) (t_top : Int32) (t_digitMany : Int32) (t_digit : Nat → Int64) (t_leftU : Nat → Int64) (t_leftV : Nat → Int64) (x7 : Int64) (x9 : Int64) (x11 : Int32), f_X12_whole_L9 l1 l3 l5 t_a t_b t_root n l7 l9 l11 = some (x7, x9, x11) → ∀ (H : Heap) (locs : List Loc) (ls : Array Slot), va_P D vwCl ((h_t, .inr (12, (z_t_0 :: z_t_1 :: z_t_2 :: .int t_a :: .int t_b :: .int t_root :: z_t_6 :: z_t_7 :: z_t_8 :: z_t_9 :: z_t_10 :: z_t_11 :: z_t_12 :: z_t_13 :: z_t_14 :: .int t_top :: z_t_16 :: z_t_17 :: .int t_digitMany :: .ref h_t_digit :: .ref h_t_leftU :: .ref h_t_leftV :: z_t_22 :: z_t_23 :: z_t_24 :: z_t_25 :: z_t_26 :: z_t_27 :: z_t_28 :: z_t_29 :: z_t_30 :: z_t_31 :: z_t_32 :: z_t_33 :: z_t_34 :: z_t_35 :: z_t_36 :: z_t_37 :: z_t_38 :: z_t_39 :: z_t_40 :: z_t_41 :: z_t_42 :: z_t_43 :: z_t_44 :: z_t_45 :: z_t_46 :: z_t_47 :: z_t_48 :: z_t_49 :: z_t_50 :: z_t_51 :: z_t_52 :: z_t_53 :: z_t_54 :: z_t_55 :: z_t_56 :: z_t_57 :: z_t_58 :: z_t_59 :: z_t_60 :: []))) :: (h_t_digit, .inl (k_t_digit, 500, .inr (.inl t_digit))) :: (h_t_leftU, .inl (k_t_leftU, 401, .inr (.inl t_leftU))) :: (h_t_leftV, .inl (k_t_leftV, 401, .inr (.inl t_leftV))) :: R) H → va_D A ((h_t, .inr (12, (z_t_0 :: z_t_1 :: z_t_2 :: .int t_a :: .int t_b :: .int t_root :: z_t_6 :: z_t_7 :: z_t_8 :: z_t_9 :: z_t_10 :: z_t_11 :: z_t_12 :: z_t_13 :: z_t_14 :: .int t_top :: z_t_16 :: z_t_17 :: .int t_digitMany :: .ref h_t_digit :: .ref h_t_leftU :: .ref h_t_leftV :: z_t_22 :: z_t_23 :: z_t_24 :: z_t_25 :: z_t_26 :: z_t_27 :: z_t_28 :: z_t_29 :: z_t_30 :: z_t_31 :: z_t_32 :: z_t_33 :: z_t_34 :: z_t_35 :: z_t_36 :: z_t_37 :: z_t_38 :: z_t_39 :: z_t_40 :: z_t_41 :: z_t_42 :: z_t_43 :: z_t_44 :: z_t_45 :: z_t_46 :: z_t_47 :: z_t_48 :: z_t_49 :: z_t_50 :: z_t_51 :: z_t_52 :: z_t_53 :: z_t_54 :: z_t_55 :: z_t_56 :: z_t_57 :: z_t_58 :: z_t_59 :: z_t_60 :: []))) :: (h_t_digit, .inl (k_t_digit, 500, .inr (.inl t_digit))) :: (h_t_leftU, .inl (k_t_leftU, 401, .inr (.inl t_leftU))) :: (h_t_leftV, .inl (k_t_leftV, 401, .inr (.inl t_leftV))) :: R) → va_S A s.heap H locs → lv_has ls 20 [(0, .ref h_t), (1, .long l1), (3, .long l3), (5, .long l5), (7, .long l7), (9, .long l9), (11, .int l11)] → (∀ (H : Heap) (locs : List Loc) (ls : Array Slot), va_P D vwCl ((h_t, .inr (12, (z_t_0 :: z_t_1 :: z_t_2 :: .int t_a :: .int t_b :: .int t_root :: z_t_6 :: z_t_7 :: z_t_8 :: z_t_9 :: z_t_10 :: z_t_11 :: z_t_12 :: z_t_13 :: z_t_14 :: .int t_top :: z_t_16 :: z_t_17 :: .int t_digitMany :: .ref h_t_digit :: .ref h_t_leftU :: .ref h_t_leftV :: z_t_22 :: z_t_23 :: z_t_24 :: z_t_25 :: z_t_26 :: z_t_27 :: z_t_28 :: z_t_29 :: z_t_30 :: z_t_31 :: z_t_32 :: z_t_33 :: z_t_34 :: z_t_35 :: z_t_36 :: z_t_37 :: z_t_38 :: z_t_39 :: z_t_40 :: z_t_41 :: z_t_42 :: z_t_43 :: z_t_44 :: z_t_45 :: z_t_46 :: z_t_47 :: z_t_48 :: z_t_49 :: z_t_50 :: z_t_51 :: z_t_52 :: z_t_53 :: z_t_54 :: z_t_55 :: z_t_56 :: z_t_57 :: z_t_58 :: z_t_59 :: z_t_60 :: []))) :: (h_t_digit, .inl (k_t_digit, 500, .inr (.inl t_digit))) :: (h_t_leftU, .inl (k_t_leftU, 401, .inr (.inl t_leftU))) :: (h_t_leftV, .inl (k_t_leftV, 401, .inr (.inl t_leftV))) :: R) H → va_D A ((h_t, .inr (12, (z_t_0 :: z_t_1 :: z_t_2 :: .int t_a :: .int t_b :: .int t_root :: z_t_6 :: z_t_7 :: z_t_8 :: z_t_9 :: z_t_10 :: z_t_11 :: z_t_12 :: z_t_13 :: z_t_14 :: .int t_top :: z_t_16 :: z_t_17 :: .int t_digitMany :: .ref h_t_digit :: .ref h_t_leftU :: .ref h_t_leftV :: z_t_22 :: z_t_23 :: z_t_24 :: z_t_25 :: z_t_26 :: z_t_27 :: z_t_28 :: z_t_29 :: z_t_30 :: z_t_31 :: z_t_32 :: z_t_33 :: z_t_34 :: z_t_35 :: z_t_36 :: z_t_37 :: z_t_38 :: z_t_39 :: z_t_40 :: z_t_41 :: z_t_42 :: z_t_43 :: z_t_44 :: z_t_45 :: z_t_46 :: z_t_47 :: z_t_48 :: z_t_49 :: z_t_50 :: z_t_51 :: z_t_52 :: z_t_53 :: z_t_54 :: z_t_55 :: z_t_56 :: z_t_57 :: z_t_58 :: z_t_59 :: z_t_60 :: []))) :: (h_t_digit, .inl (k_t_digit, 500, .inr (.inl t_digit))) :: (h_t_leftU, .inl (k_t_leftU, 401, .inr (.inl t_leftU))) :: (h_t_leftV, .inl (k_t_leftV, 401, .inr (.inl t_leftV))) :: R) → va_S A s.heap H locs → lv_has ls 20 [(0, .ref h_t), (1, .long l1), (3, .long l3), (5, .long l5), (7, .long x7), (9, .long x9), (11, .int x11)] → W p l e { frames := 1, cells := 0, slots := 0, locals := 28 } s m args below meth c H locs 0 0 Q (F0 m 53 ls [])) → W p l e { frames := 1, cells := 0, slots := 0, locals := 28 } s m args below meth c H locs 0 0 Q (F0 m 9 ls []) := by
    intro Q n
    induction n with
    | zero =>
      intro l1 l3 l5 l7 l9 l11 t_top t_digitMany t_digit t_leftU t_leftV x7 x9 x11 h
      rw [f_X12_whole_L9] at h; cases h
    | succ n ih =>
      intro l1 l3 l5 l7 l9 l11 t_top t_digitMany t_digit t_leftU t_leftV x7 x9 x11 h H locs ls hP hD hS hl kk0
      rw [f_X12_whole_L9] at h
      refine lv_lload hx hb dX12_whole_9 (lv_at hl 5 rfl) ?_
      refine lv_aload_n hx hb dX12_whole_11 rfl (lv_at hl 0 rfl) ?_
      refine va_get (D := D) (ci := 12) (v := .int t_b) (C := RX12) (T := TX12) (N := 61) hx hb ha ix12 hown hK hP 0 rfl rfl 4 (by decide) (ha _ q964) (fun _ h9 => h9) rfl dX12_whole_12 ?_
      refine lv_i2l (v := t_b.toInt64) hx hb dX12_whole_15 rfl ?_
      refine lv_lmul hx hb dX12_whole_16 ?_
      refine lv_lstore (lv' := [(12, .long (l9 * t_b.toInt64)), (0, .ref h_t), (1, .long l1), (3, .long l3), (5, .long l5), (7, .long l7), (9, .long l9), (11, .int l11)]) hx hb dX12_whole_17 hl (by decide) rfl (fun ls hl => ?_)
      refine lv_lload hx hb dX12_whole_19 (lv_at hl 5 rfl) ?_
      refine lv_lload hx hb dX12_whole_21 (lv_at hl 6 rfl) ?_
      refine lv_aload_n hx hb dX12_whole_23 rfl (lv_at hl 1 rfl) ?_
      refine va_get (D := D) (ci := 12) (v := .int t_a) (C := RX12) (T := TX12) (N := 61) hx hb ha ix12 hown hK hP 0 rfl rfl 3 (by decide) (ha _ q963) (fun _ h9 => h9) rfl dX12_whole_24 ?_
      refine lv_i2l (v := t_a.toInt64) hx hb dX12_whole_27 rfl ?_
      refine lv_lmul hx hb dX12_whole_28 ?_
      refine lv_ladd hx hb dX12_whole_29 ?_
      refine lv_lstore (lv' := [(14, .long (l7 + (l9 * t_a.toInt64))), (12, .long (l9 * t_b.toInt64)), (0, .ref h_t), (1, .long l1), (3, .long l3), (5, .long l5), (7, .long l7), (9, .long l9), (11, .int l11)]) hx hb dX12_whole_30 hl (by decide) rfl (fun ls hl => ?_)
      refine lv_aload_n hx hb dX12_whole_32 rfl (lv_at hl 2 rfl) ?_
      refine lv_lload_n hx hb dX12_whole_33 rfl (lv_at hl 3 rfl) ?_
      refine lv_lload hx hb dX12_whole_34 (lv_at hl 1 rfl) ?_
      refine lv_lload hx hb dX12_whole_36 (lv_at hl 5 rfl) ?_
      refine lv_lmul hx hb dX12_whole_38 ?_
      refine lv_lsub hx hb dX12_whole_39 ?_
      refine lv_lload_n hx hb dX12_whole_40 rfl (lv_at hl 4 rfl) ?_
      refine lv_lload hx hb dX12_whole_41 (lv_at hl 0 rfl) ?_
      refine lv_lload hx hb dX12_whole_43 (lv_at hl 5 rfl) ?_
      refine lv_lmul hx hb dX12_whole_45 ?_
      refine lv_lsub hx hb dX12_whole_46 ?_
      obtain ⟨r_c47_0, e_c47_0, h⟩ := bnd1_ok h
      refine cl_i (rn_v (ci := 12) (As := [.long (l1 - ((l9 * t_b.toInt64) * l5)), .long (l3 - ((l7 + (l9 * t_a.toInt64)) * l5))]) (rest := []) S (c_X12_sign l D ((h_t_digit, .inl (k_t_digit, 500, .inr (.inl t_digit))) :: (h_t_leftU, .inl (k_t_leftU, 401, .inr (.inl t_leftU))) :: (h_t_leftV, .inl (k_t_leftV, 401, .inr (.inl t_leftV))) :: R) h_t (z_t_0) (z_t_1) (z_t_2) t_a (.int t_b) t_root (z_t_6) (z_t_7) (z_t_8) (z_t_9) (z_t_10) (z_t_11) (z_t_12) (z_t_13) (z_t_14) (.int t_top) (z_t_16) (z_t_17) (.int t_digitMany) (.ref h_t_digit) (.ref h_t_leftU) (.ref h_t_leftV) (z_t_22) (z_t_23) (z_t_24) (z_t_25) (z_t_26) (z_t_27) (z_t_28) (z_t_29) (z_t_30) (z_t_31) (z_t_32) (z_t_33) (z_t_34) (z_t_35) (z_t_36) (z_t_37) (z_t_38) (z_t_39) (z_t_40) (z_t_41) (z_t_42) (z_t_43) (z_t_44) (z_t_45) (z_t_46) (z_t_47) (z_t_48) (z_t_49) (z_t_50) (z_t_51) (z_t_52) (z_t_53) (z_t_54) (z_t_55) (z_t_56) (z_t_57) (z_t_58) (z_t_59) (z_t_60) (l1 - ((l9 * t_b.toInt64) * l5)) (l3 - ((l7 + (l9 * t_a.toInt64)) * l5)) r_c47_0 e_c47_0 _) q1222 q1224 q35 q61 q1225 nd_X12_sign ⟨Nat.le_of_ble_eq_true rfl, Nat.le_of_ble_eq_true rfl⟩ rfl rfl hP hD (hK.sub (tys' := []) [] rfl) hN rfl ⟨0, _, rfl⟩ rfl hl.1 rfl (Nat.le_of_ble_eq_true rfl) dX12_whole_47 ⟨Nat.le_of_ble_eq_true rfl, Nat.le_of_ble_eq_true rfl⟩) hS hA hD (fun H locs hP hD hS => ?_)
      have hP : va_P D vwCl ((h_t, .inr (12, (z_t_0 :: z_t_1 :: z_t_2 :: .int t_a :: .int t_b :: .int t_root :: z_t_6 :: z_t_7 :: z_t_8 :: z_t_9 :: z_t_10 :: z_t_11 :: z_t_12 :: z_t_13 :: z_t_14 :: .int t_top :: z_t_16 :: z_t_17 :: .int t_digitMany :: .ref h_t_digit :: .ref h_t_leftU :: .ref h_t_leftV :: z_t_22 :: z_t_23 :: z_t_24 :: z_t_25 :: z_t_26 :: z_t_27 :: z_t_28 :: z_t_29 :: z_t_30 :: z_t_31 :: z_t_32 :: z_t_33 :: z_t_34 :: z_t_35 :: z_t_36 :: z_t_37 :: z_t_38 :: z_t_39 :: z_t_40 :: z_t_41 :: z_t_42 :: z_t_43 :: z_t_44 :: z_t_45 :: z_t_46 :: z_t_47 :: z_t_48 :: z_t_49 :: z_t_50 :: z_t_51 :: z_t_52 :: z_t_53 :: z_t_54 :: z_t_55 :: z_t_56 :: z_t_57 :: z_t_58 :: z_t_59 :: z_t_60 :: []))) :: (h_t_digit, .inl (k_t_digit, 500, .inr (.inl t_digit))) :: (h_t_leftU, .inl (k_t_leftU, 401, .inr (.inl t_leftU))) :: (h_t_leftV, .inl (k_t_leftV, 401, .inr (.inl t_leftV))) :: R) H := hP
      have hD : va_D A ((h_t, .inr (12, (z_t_0 :: z_t_1 :: z_t_2 :: .int t_a :: .int t_b :: .int t_root :: z_t_6 :: z_t_7 :: z_t_8 :: z_t_9 :: z_t_10 :: z_t_11 :: z_t_12 :: z_t_13 :: z_t_14 :: .int t_top :: z_t_16 :: z_t_17 :: .int t_digitMany :: .ref h_t_digit :: .ref h_t_leftU :: .ref h_t_leftV :: z_t_22 :: z_t_23 :: z_t_24 :: z_t_25 :: z_t_26 :: z_t_27 :: z_t_28 :: z_t_29 :: z_t_30 :: z_t_31 :: z_t_32 :: z_t_33 :: z_t_34 :: z_t_35 :: z_t_36 :: z_t_37 :: z_t_38 :: z_t_39 :: z_t_40 :: z_t_41 :: z_t_42 :: z_t_43 :: z_t_44 :: z_t_45 :: z_t_46 :: z_t_47 :: z_t_48 :: z_t_49 :: z_t_50 :: z_t_51 :: z_t_52 :: z_t_53 :: z_t_54 :: z_t_55 :: z_t_56 :: z_t_57 :: z_t_58 :: z_t_59 :: z_t_60 :: []))) :: (h_t_digit, .inl (k_t_digit, 500, .inr (.inl t_digit))) :: (h_t_leftU, .inl (k_t_leftU, 401, .inr (.inl t_leftU))) :: (h_t_leftV, .inl (k_t_leftV, 401, .inr (.inl t_leftV))) :: R) := hD
      refine lv_if_ge (tgt := 56) hx hb dX12_whole_50 (by decide) (fun c2 => ?_) (fun c2 => ?_)
      · have h := br_pos c2 h
        refine lv_lload hx hb dX12_whole_56 (lv_at hl 1 rfl) ?_
        refine lv_lstore (lv' := [(7, .long (l9 * t_b.toInt64)), (14, .long (l7 + (l9 * t_a.toInt64))), (12, .long (l9 * t_b.toInt64)), (0, .ref h_t), (1, .long l1), (3, .long l3), (5, .long l5), (9, .long l9), (11, .int l11)]) hx hb dX12_whole_58 hl (by decide) rfl (fun ls hl => ?_)
        refine lv_lload hx hb dX12_whole_60 (lv_at hl 1 rfl) ?_
        refine lv_lstore (lv' := [(9, .long (l7 + (l9 * t_a.toInt64))), (7, .long (l9 * t_b.toInt64)), (14, .long (l7 + (l9 * t_a.toInt64))), (12, .long (l9 * t_b.toInt64)), (0, .ref h_t), (1, .long l1), (3, .long l3), (5, .long l5), (11, .int l11)]) hx hb dX12_whole_62 hl (by decide) rfl (fun ls hl => ?_)
        refine lv_iinc (v := (l11 + 1)) (lv' := [(11, .int (l11 + 1)), (9, .long (l7 + (l9 * t_a.toInt64))), (7, .long (l9 * t_b.toInt64)), (14, .long (l7 + (l9 * t_a.toInt64))), (12, .long (l9 * t_b.toInt64)), (0, .ref h_t), (1, .long l1), (3, .long l3), (5, .long l5)]) hx hb dX12_whole_64 hl (k := 8) rfl rfl (by decide) rfl (fun ls hl => ?_)
        refine lv_goto (tgt := 9) hx hb dX12_whole_67 (by decide) ?_
        exact ih l1 l3 l5 (l9 * t_b.toInt64) (l7 + (l9 * t_a.toInt64)) (l11 + 1) t_top t_digitMany t_digit t_leftU t_leftV _ _ _ h _ _ _ hP hD hS (lv_sub hl [5, 6, 7, 8, 2, 1, 0] rfl) kk0
      · have h := br_neg c2 h
        cases h
        exact kk0 _ _ _ hP hD hS (lv_sub hl [2, 3, 4, 5, 6, 7, 8] rfl)
  have L95 : ∀ (Q : State → Prop) (n : Nat) (l5 : Int64) (l7 : Int64) (l9 : Int64) (l11 : Int32) (l12 : Int64) (l14 : Int64) (l16 : Int64) (t_top : Int32) (t_digitMany : Int32) (t_digit : Nat → Int64) (t_leftU : Nat → Int64) (t_leftV : Nat → Int64) (x12 : Int64) (x14 : Int64) (x16 : Int64), f_X12_whole_L95 l5 l7 l9 t_a t_root n l12 l14 l16 = some (x12, x14, x16) → ∀ (H : Heap) (locs : List Loc) (ls : Array Slot), va_P D vwCl ((h_t, .inr (12, (z_t_0 :: z_t_1 :: z_t_2 :: .int t_a :: .int t_b :: .int t_root :: z_t_6 :: z_t_7 :: z_t_8 :: z_t_9 :: z_t_10 :: z_t_11 :: z_t_12 :: z_t_13 :: z_t_14 :: .int t_top :: z_t_16 :: z_t_17 :: .int t_digitMany :: .ref h_t_digit :: .ref h_t_leftU :: .ref h_t_leftV :: z_t_22 :: z_t_23 :: z_t_24 :: z_t_25 :: z_t_26 :: z_t_27 :: z_t_28 :: z_t_29 :: z_t_30 :: z_t_31 :: z_t_32 :: z_t_33 :: z_t_34 :: z_t_35 :: z_t_36 :: z_t_37 :: z_t_38 :: z_t_39 :: z_t_40 :: z_t_41 :: z_t_42 :: z_t_43 :: z_t_44 :: z_t_45 :: z_t_46 :: z_t_47 :: z_t_48 :: z_t_49 :: z_t_50 :: z_t_51 :: z_t_52 :: z_t_53 :: z_t_54 :: z_t_55 :: z_t_56 :: z_t_57 :: z_t_58 :: z_t_59 :: z_t_60 :: []))) :: (h_t_digit, .inl (k_t_digit, 500, .inr (.inl t_digit))) :: (h_t_leftU, .inl (k_t_leftU, 401, .inr (.inl t_leftU))) :: (h_t_leftV, .inl (k_t_leftV, 401, .inr (.inl t_leftV))) :: R) H → va_D A ((h_t, .inr (12, (z_t_0 :: z_t_1 :: z_t_2 :: .int t_a :: .int t_b :: .int t_root :: z_t_6 :: z_t_7 :: z_t_8 :: z_t_9 :: z_t_10 :: z_t_11 :: z_t_12 :: z_t_13 :: z_t_14 :: .int t_top :: z_t_16 :: z_t_17 :: .int t_digitMany :: .ref h_t_digit :: .ref h_t_leftU :: .ref h_t_leftV :: z_t_22 :: z_t_23 :: z_t_24 :: z_t_25 :: z_t_26 :: z_t_27 :: z_t_28 :: z_t_29 :: z_t_30 :: z_t_31 :: z_t_32 :: z_t_33 :: z_t_34 :: z_t_35 :: z_t_36 :: z_t_37 :: z_t_38 :: z_t_39 :: z_t_40 :: z_t_41 :: z_t_42 :: z_t_43 :: z_t_44 :: z_t_45 :: z_t_46 :: z_t_47 :: z_t_48 :: z_t_49 :: z_t_50 :: z_t_51 :: z_t_52 :: z_t_53 :: z_t_54 :: z_t_55 :: z_t_56 :: z_t_57 :: z_t_58 :: z_t_59 :: z_t_60 :: []))) :: (h_t_digit, .inl (k_t_digit, 500, .inr (.inl t_digit))) :: (h_t_leftU, .inl (k_t_leftU, 401, .inr (.inl t_leftU))) :: (h_t_leftV, .inl (k_t_leftV, 401, .inr (.inl t_leftV))) :: R) → va_S A s.heap H locs → lv_has ls 20 [(0, .ref h_t), (5, .long l5), (7, .long l7), (9, .long l9), (11, .int l11), (12, .long l12), (14, .long l14), (16, .long l16)] → (∀ (H : Heap) (locs : List Loc) (ls : Array Slot), va_P D vwCl ((h_t, .inr (12, (z_t_0 :: z_t_1 :: z_t_2 :: .int t_a :: .int t_b :: .int t_root :: z_t_6 :: z_t_7 :: z_t_8 :: z_t_9 :: z_t_10 :: z_t_11 :: z_t_12 :: z_t_13 :: z_t_14 :: .int t_top :: z_t_16 :: z_t_17 :: .int t_digitMany :: .ref h_t_digit :: .ref h_t_leftU :: .ref h_t_leftV :: z_t_22 :: z_t_23 :: z_t_24 :: z_t_25 :: z_t_26 :: z_t_27 :: z_t_28 :: z_t_29 :: z_t_30 :: z_t_31 :: z_t_32 :: z_t_33 :: z_t_34 :: z_t_35 :: z_t_36 :: z_t_37 :: z_t_38 :: z_t_39 :: z_t_40 :: z_t_41 :: z_t_42 :: z_t_43 :: z_t_44 :: z_t_45 :: z_t_46 :: z_t_47 :: z_t_48 :: z_t_49 :: z_t_50 :: z_t_51 :: z_t_52 :: z_t_53 :: z_t_54 :: z_t_55 :: z_t_56 :: z_t_57 :: z_t_58 :: z_t_59 :: z_t_60 :: []))) :: (h_t_digit, .inl (k_t_digit, 500, .inr (.inl t_digit))) :: (h_t_leftU, .inl (k_t_leftU, 401, .inr (.inl t_leftU))) :: (h_t_leftV, .inl (k_t_leftV, 401, .inr (.inl t_leftV))) :: R) H → va_D A ((h_t, .inr (12, (z_t_0 :: z_t_1 :: z_t_2 :: .int t_a :: .int t_b :: .int t_root :: z_t_6 :: z_t_7 :: z_t_8 :: z_t_9 :: z_t_10 :: z_t_11 :: z_t_12 :: z_t_13 :: z_t_14 :: .int t_top :: z_t_16 :: z_t_17 :: .int t_digitMany :: .ref h_t_digit :: .ref h_t_leftU :: .ref h_t_leftV :: z_t_22 :: z_t_23 :: z_t_24 :: z_t_25 :: z_t_26 :: z_t_27 :: z_t_28 :: z_t_29 :: z_t_30 :: z_t_31 :: z_t_32 :: z_t_33 :: z_t_34 :: z_t_35 :: z_t_36 :: z_t_37 :: z_t_38 :: z_t_39 :: z_t_40 :: z_t_41 :: z_t_42 :: z_t_43 :: z_t_44 :: z_t_45 :: z_t_46 :: z_t_47 :: z_t_48 :: z_t_49 :: z_t_50 :: z_t_51 :: z_t_52 :: z_t_53 :: z_t_54 :: z_t_55 :: z_t_56 :: z_t_57 :: z_t_58 :: z_t_59 :: z_t_60 :: []))) :: (h_t_digit, .inl (k_t_digit, 500, .inr (.inl t_digit))) :: (h_t_leftU, .inl (k_t_leftU, 401, .inr (.inl t_leftU))) :: (h_t_leftV, .inl (k_t_leftV, 401, .inr (.inl t_leftV))) :: R) → va_S A s.heap H locs → lv_has ls 20 [(0, .ref h_t), (5, .long l5), (7, .long l7), (9, .long l9), (11, .int l11), (12, .long x12), (14, .long x14), (16, .long x16)] → W p l e { frames := 1, cells := 0, slots := 0, locals := 28 } s m args below meth c H locs 0 0 Q (F0 m 147 ls [])) → W p l e { frames := 1, cells := 0, slots := 0, locals := 28 } s m args below meth c H locs 0 0 Q (F0 m 95 ls []) := by
    intro Q n
    induction n with
    | zero =>
      intro l5 l7 l9 l11 l12 l14 l16 t_top t_digitMany t_digit t_leftU t_leftV x12 x14 x16 h
      rw [f_X12_whole_L95] at h; cases h
    | succ n ih =>
      intro l5 l7 l9 l11 l12 l14 l16 t_top t_digitMany t_digit t_leftU t_leftV x12 x14 x16 h H locs ls hP hD hS hl kk0
      rw [f_X12_whole_L95] at h
      refine lv_aload_n hx hb dX12_whole_95 rfl (lv_at hl 0 rfl) ?_
      refine lv_lload hx hb dX12_whole_96 (lv_at hl 5 rfl) ?_
      refine lv_lload hx hb dX12_whole_98 (lv_at hl 2 rfl) ?_
      refine lv_lload hx hb dX12_whole_100 (lv_at hl 1 rfl) ?_
      refine lv_lmul hx hb dX12_whole_102 ?_
      refine lv_lsub hx hb dX12_whole_103 ?_
      refine lv_lload hx hb dX12_whole_104 (lv_at hl 6 rfl) ?_
      refine lv_lload hx hb dX12_whole_106 (lv_at hl 3 rfl) ?_
      refine lv_lload hx hb dX12_whole_108 (lv_at hl 1 rfl) ?_
      refine lv_lmul hx hb dX12_whole_110 ?_
      refine lv_lsub hx hb dX12_whole_111 ?_
      obtain ⟨r_c112_4, e_c112_4, h⟩ := bnd1_ok h
      refine cl_i (rn_v (ci := 12) (As := [.long (l12 - (l7 * l5)), .long (l14 - (l9 * l5))]) (rest := []) S (c_X12_sign l D ((h_t_digit, .inl (k_t_digit, 500, .inr (.inl t_digit))) :: (h_t_leftU, .inl (k_t_leftU, 401, .inr (.inl t_leftU))) :: (h_t_leftV, .inl (k_t_leftV, 401, .inr (.inl t_leftV))) :: R) h_t (z_t_0) (z_t_1) (z_t_2) t_a (.int t_b) t_root (z_t_6) (z_t_7) (z_t_8) (z_t_9) (z_t_10) (z_t_11) (z_t_12) (z_t_13) (z_t_14) (.int t_top) (z_t_16) (z_t_17) (.int t_digitMany) (.ref h_t_digit) (.ref h_t_leftU) (.ref h_t_leftV) (z_t_22) (z_t_23) (z_t_24) (z_t_25) (z_t_26) (z_t_27) (z_t_28) (z_t_29) (z_t_30) (z_t_31) (z_t_32) (z_t_33) (z_t_34) (z_t_35) (z_t_36) (z_t_37) (z_t_38) (z_t_39) (z_t_40) (z_t_41) (z_t_42) (z_t_43) (z_t_44) (z_t_45) (z_t_46) (z_t_47) (z_t_48) (z_t_49) (z_t_50) (z_t_51) (z_t_52) (z_t_53) (z_t_54) (z_t_55) (z_t_56) (z_t_57) (z_t_58) (z_t_59) (z_t_60) (l12 - (l7 * l5)) (l14 - (l9 * l5)) r_c112_4 e_c112_4 _) q1222 q1224 q35 q61 q1225 nd_X12_sign ⟨Nat.le_of_ble_eq_true rfl, Nat.le_of_ble_eq_true rfl⟩ rfl rfl hP hD (hK.sub (tys' := []) [] rfl) hN rfl ⟨0, _, rfl⟩ rfl hl.1 rfl (Nat.le_of_ble_eq_true rfl) dX12_whole_112 ⟨Nat.le_of_ble_eq_true rfl, Nat.le_of_ble_eq_true rfl⟩) hS hA hD (fun H locs hP hD hS => ?_)
      have hP : va_P D vwCl ((h_t, .inr (12, (z_t_0 :: z_t_1 :: z_t_2 :: .int t_a :: .int t_b :: .int t_root :: z_t_6 :: z_t_7 :: z_t_8 :: z_t_9 :: z_t_10 :: z_t_11 :: z_t_12 :: z_t_13 :: z_t_14 :: .int t_top :: z_t_16 :: z_t_17 :: .int t_digitMany :: .ref h_t_digit :: .ref h_t_leftU :: .ref h_t_leftV :: z_t_22 :: z_t_23 :: z_t_24 :: z_t_25 :: z_t_26 :: z_t_27 :: z_t_28 :: z_t_29 :: z_t_30 :: z_t_31 :: z_t_32 :: z_t_33 :: z_t_34 :: z_t_35 :: z_t_36 :: z_t_37 :: z_t_38 :: z_t_39 :: z_t_40 :: z_t_41 :: z_t_42 :: z_t_43 :: z_t_44 :: z_t_45 :: z_t_46 :: z_t_47 :: z_t_48 :: z_t_49 :: z_t_50 :: z_t_51 :: z_t_52 :: z_t_53 :: z_t_54 :: z_t_55 :: z_t_56 :: z_t_57 :: z_t_58 :: z_t_59 :: z_t_60 :: []))) :: (h_t_digit, .inl (k_t_digit, 500, .inr (.inl t_digit))) :: (h_t_leftU, .inl (k_t_leftU, 401, .inr (.inl t_leftU))) :: (h_t_leftV, .inl (k_t_leftV, 401, .inr (.inl t_leftV))) :: R) H := hP
      have hD : va_D A ((h_t, .inr (12, (z_t_0 :: z_t_1 :: z_t_2 :: .int t_a :: .int t_b :: .int t_root :: z_t_6 :: z_t_7 :: z_t_8 :: z_t_9 :: z_t_10 :: z_t_11 :: z_t_12 :: z_t_13 :: z_t_14 :: .int t_top :: z_t_16 :: z_t_17 :: .int t_digitMany :: .ref h_t_digit :: .ref h_t_leftU :: .ref h_t_leftV :: z_t_22 :: z_t_23 :: z_t_24 :: z_t_25 :: z_t_26 :: z_t_27 :: z_t_28 :: z_t_29 :: z_t_30 :: z_t_31 :: z_t_32 :: z_t_33 :: z_t_34 :: z_t_35 :: z_t_36 :: z_t_37 :: z_t_38 :: z_t_39 :: z_t_40 :: z_t_41 :: z_t_42 :: z_t_43 :: z_t_44 :: z_t_45 :: z_t_46 :: z_t_47 :: z_t_48 :: z_t_49 :: z_t_50 :: z_t_51 :: z_t_52 :: z_t_53 :: z_t_54 :: z_t_55 :: z_t_56 :: z_t_57 :: z_t_58 :: z_t_59 :: z_t_60 :: []))) :: (h_t_digit, .inl (k_t_digit, 500, .inr (.inl t_digit))) :: (h_t_leftU, .inl (k_t_leftU, 401, .inr (.inl t_leftU))) :: (h_t_leftV, .inl (k_t_leftV, 401, .inr (.inl t_leftV))) :: R) := hD
      refine lv_if_lt (tgt := 147) hx hb dX12_whole_115 (by decide) (fun c6 => ?_) (fun c6 => ?_)
      · have h := br_pos c6 h
        cases h
        exact kk0 _ _ _ hP hD hS (lv_sub hl [0, 1, 2, 3, 4, 5, 6, 7] rfl)
      · have h := br_neg c6 h
        refine lv_lload hx hb dX12_whole_118 (lv_at hl 5 rfl) ?_
        refine lv_lload hx hb dX12_whole_120 (lv_at hl 2 rfl) ?_
        refine lv_lload hx hb dX12_whole_122 (lv_at hl 1 rfl) ?_
        refine lv_lmul hx hb dX12_whole_124 ?_
        refine lv_lsub hx hb dX12_whole_125 ?_
        refine lv_lstore (lv' := [(12, .long (l12 - (l7 * l5))), (0, .ref h_t), (5, .long l5), (7, .long l7), (9, .long l9), (11, .int l11), (14, .long l14), (16, .long l16)]) hx hb dX12_whole_126 hl (by decide) rfl (fun ls hl => ?_)
        refine lv_lload hx hb dX12_whole_128 (lv_at hl 6 rfl) ?_
        refine lv_lload hx hb dX12_whole_130 (lv_at hl 4 rfl) ?_
        refine lv_lload hx hb dX12_whole_132 (lv_at hl 2 rfl) ?_
        refine lv_lmul hx hb dX12_whole_134 ?_
        refine lv_lsub hx hb dX12_whole_135 ?_
        refine lv_lstore (lv' := [(14, .long (l14 - (l9 * l5))), (12, .long (l12 - (l7 * l5))), (0, .ref h_t), (5, .long l5), (7, .long l7), (9, .long l9), (11, .int l11), (16, .long l16)]) hx hb dX12_whole_136 hl (by decide) rfl (fun ls hl => ?_)
        refine lv_lload hx hb dX12_whole_138 (lv_at hl 7 rfl) ?_
        refine lv_lconst (v := 1) hx hb dX12_whole_140 (by decide) ?_
        refine lv_ladd hx hb dX12_whole_141 ?_
        refine lv_lstore (lv' := [(16, .long (l16 + 1)), (14, .long (l14 - (l9 * l5))), (12, .long (l12 - (l7 * l5))), (0, .ref h_t), (5, .long l5), (7, .long l7), (9, .long l9), (11, .int l11)]) hx hb dX12_whole_142 hl (by decide) rfl (fun ls hl => ?_)
        refine lv_goto (tgt := 95) hx hb dX12_whole_144 (by decide) ?_
        exact ih l5 l7 l9 l11 (l12 - (l7 * l5)) (l14 - (l9 * l5)) (l16 + 1) t_top t_digitMany t_digit t_leftU t_leftV _ _ _ h _ _ _ hP hD hS (lv_sub hl [3, 4, 5, 6, 7, 2, 1, 0] rfl) kk0
  have L87 : ∀ (Q : State → Prop) (n : Nat) (l5 : Int64) (l7 : Int64) (l9 : Int64) (l11 : Int32) (l12 : Int64) (l14 : Int64) (t_top : Int32) (t_digitMany : Int32) (t_digit : Nat → Int64) (t_leftU : Nat → Int64) (t_leftV : Nat → Int64) (x12 : Int64) (x14 : Int64) (x_t_digitMany : Int32) (x_t_digit : Nat → Int64), f_X12_whole_L87 l5 t_a t_b t_root n l7 l9 l11 l12 l14 t_digitMany t_digit = some (x12, x14, x_t_digitMany, x_t_digit) → ∀ (H : Heap) (locs : List Loc) (ls : Array Slot), va_P D vwCl ((h_t, .inr (12, (z_t_0 :: z_t_1 :: z_t_2 :: .int t_a :: .int t_b :: .int t_root :: z_t_6 :: z_t_7 :: z_t_8 :: z_t_9 :: z_t_10 :: z_t_11 :: z_t_12 :: z_t_13 :: z_t_14 :: .int t_top :: z_t_16 :: z_t_17 :: .int t_digitMany :: .ref h_t_digit :: .ref h_t_leftU :: .ref h_t_leftV :: z_t_22 :: z_t_23 :: z_t_24 :: z_t_25 :: z_t_26 :: z_t_27 :: z_t_28 :: z_t_29 :: z_t_30 :: z_t_31 :: z_t_32 :: z_t_33 :: z_t_34 :: z_t_35 :: z_t_36 :: z_t_37 :: z_t_38 :: z_t_39 :: z_t_40 :: z_t_41 :: z_t_42 :: z_t_43 :: z_t_44 :: z_t_45 :: z_t_46 :: z_t_47 :: z_t_48 :: z_t_49 :: z_t_50 :: z_t_51 :: z_t_52 :: z_t_53 :: z_t_54 :: z_t_55 :: z_t_56 :: z_t_57 :: z_t_58 :: z_t_59 :: z_t_60 :: []))) :: (h_t_digit, .inl (k_t_digit, 500, .inr (.inl t_digit))) :: (h_t_leftU, .inl (k_t_leftU, 401, .inr (.inl t_leftU))) :: (h_t_leftV, .inl (k_t_leftV, 401, .inr (.inl t_leftV))) :: R) H → va_D A ((h_t, .inr (12, (z_t_0 :: z_t_1 :: z_t_2 :: .int t_a :: .int t_b :: .int t_root :: z_t_6 :: z_t_7 :: z_t_8 :: z_t_9 :: z_t_10 :: z_t_11 :: z_t_12 :: z_t_13 :: z_t_14 :: .int t_top :: z_t_16 :: z_t_17 :: .int t_digitMany :: .ref h_t_digit :: .ref h_t_leftU :: .ref h_t_leftV :: z_t_22 :: z_t_23 :: z_t_24 :: z_t_25 :: z_t_26 :: z_t_27 :: z_t_28 :: z_t_29 :: z_t_30 :: z_t_31 :: z_t_32 :: z_t_33 :: z_t_34 :: z_t_35 :: z_t_36 :: z_t_37 :: z_t_38 :: z_t_39 :: z_t_40 :: z_t_41 :: z_t_42 :: z_t_43 :: z_t_44 :: z_t_45 :: z_t_46 :: z_t_47 :: z_t_48 :: z_t_49 :: z_t_50 :: z_t_51 :: z_t_52 :: z_t_53 :: z_t_54 :: z_t_55 :: z_t_56 :: z_t_57 :: z_t_58 :: z_t_59 :: z_t_60 :: []))) :: (h_t_digit, .inl (k_t_digit, 500, .inr (.inl t_digit))) :: (h_t_leftU, .inl (k_t_leftU, 401, .inr (.inl t_leftU))) :: (h_t_leftV, .inl (k_t_leftV, 401, .inr (.inl t_leftV))) :: R) → va_S A s.heap H locs → lv_has ls 20 [(0, .ref h_t), (5, .long l5), (7, .long l7), (9, .long l9), (11, .int l11), (12, .long l12), (14, .long l14)] → (∀ (H : Heap) (locs : List Loc) (ls : Array Slot), va_P D vwCl ((h_t, .inr (12, (z_t_0 :: z_t_1 :: z_t_2 :: .int t_a :: .int t_b :: .int t_root :: z_t_6 :: z_t_7 :: z_t_8 :: z_t_9 :: z_t_10 :: z_t_11 :: z_t_12 :: z_t_13 :: z_t_14 :: .int t_top :: z_t_16 :: z_t_17 :: .int x_t_digitMany :: .ref h_t_digit :: .ref h_t_leftU :: .ref h_t_leftV :: z_t_22 :: z_t_23 :: z_t_24 :: z_t_25 :: z_t_26 :: z_t_27 :: z_t_28 :: z_t_29 :: z_t_30 :: z_t_31 :: z_t_32 :: z_t_33 :: z_t_34 :: z_t_35 :: z_t_36 :: z_t_37 :: z_t_38 :: z_t_39 :: z_t_40 :: z_t_41 :: z_t_42 :: z_t_43 :: z_t_44 :: z_t_45 :: z_t_46 :: z_t_47 :: z_t_48 :: z_t_49 :: z_t_50 :: z_t_51 :: z_t_52 :: z_t_53 :: z_t_54 :: z_t_55 :: z_t_56 :: z_t_57 :: z_t_58 :: z_t_59 :: z_t_60 :: []))) :: (h_t_digit, .inl (k_t_digit, 500, .inr (.inl x_t_digit))) :: (h_t_leftU, .inl (k_t_leftU, 401, .inr (.inl t_leftU))) :: (h_t_leftV, .inl (k_t_leftV, 401, .inr (.inl t_leftV))) :: R) H → va_D A ((h_t, .inr (12, (z_t_0 :: z_t_1 :: z_t_2 :: .int t_a :: .int t_b :: .int t_root :: z_t_6 :: z_t_7 :: z_t_8 :: z_t_9 :: z_t_10 :: z_t_11 :: z_t_12 :: z_t_13 :: z_t_14 :: .int t_top :: z_t_16 :: z_t_17 :: .int x_t_digitMany :: .ref h_t_digit :: .ref h_t_leftU :: .ref h_t_leftV :: z_t_22 :: z_t_23 :: z_t_24 :: z_t_25 :: z_t_26 :: z_t_27 :: z_t_28 :: z_t_29 :: z_t_30 :: z_t_31 :: z_t_32 :: z_t_33 :: z_t_34 :: z_t_35 :: z_t_36 :: z_t_37 :: z_t_38 :: z_t_39 :: z_t_40 :: z_t_41 :: z_t_42 :: z_t_43 :: z_t_44 :: z_t_45 :: z_t_46 :: z_t_47 :: z_t_48 :: z_t_49 :: z_t_50 :: z_t_51 :: z_t_52 :: z_t_53 :: z_t_54 :: z_t_55 :: z_t_56 :: z_t_57 :: z_t_58 :: z_t_59 :: z_t_60 :: []))) :: (h_t_digit, .inl (k_t_digit, 500, .inr (.inl x_t_digit))) :: (h_t_leftU, .inl (k_t_leftU, 401, .inr (.inl t_leftU))) :: (h_t_leftV, .inl (k_t_leftV, 401, .inr (.inl t_leftV))) :: R) → va_S A s.heap H locs → lv_has ls 20 [(0, .ref h_t), (12, .long x12), (14, .long x14)] → W p l e { frames := 1, cells := 0, slots := 0, locals := 28 } s m args below meth c H locs 0 0 Q (F0 m 207 ls [])) → W p l e { frames := 1, cells := 0, slots := 0, locals := 28 } s m args below meth c H locs 0 0 Q (F0 m 87 ls []) := by
    intro Q n
    induction n with
    | zero =>
      intro l5 l7 l9 l11 l12 l14 t_top t_digitMany t_digit t_leftU t_leftV x12 x14 x_t_digitMany x_t_digit h
      rw [f_X12_whole_L87] at h; cases h
    | succ n ih =>
      intro l5 l7 l9 l11 l12 l14 t_top t_digitMany t_digit t_leftU t_leftV x12 x14 x_t_digitMany x_t_digit h H locs ls hP hD hS hl kk0
      rw [f_X12_whole_L87] at h
      refine lv_iload hx hb dX12_whole_87 (lv_at hl 4 rfl) ?_
      refine lv_if_lt (tgt := 207) hx hb dX12_whole_89 (by decide) (fun c4 => ?_) (fun c4 => ?_)
      · have h := br_pos c4 h
        cases h
        exact kk0 _ _ _ hP hD hS (lv_sub hl [0, 5, 6] rfl)
      · have h := br_neg c4 h
        refine lv_lconst (v := 0) hx hb dX12_whole_92 (by decide) ?_
        refine lv_lstore (lv' := [(16, .long 0), (0, .ref h_t), (5, .long l5), (7, .long l7), (9, .long l9), (11, .int l11), (12, .long l12), (14, .long l14)]) hx hb dX12_whole_93 hl (by decide) rfl (fun ls hl => ?_)
        obtain ⟨x12_L95_6, x14_L95_6, x16_L95_6, e_L95_6, h⟩ := bnd3_ok h
        refine L95 _ _ l5 l7 l9 l11 l12 l14 0 t_top t_digitMany t_digit t_leftU t_leftV x12_L95_6 x14_L95_6 x16_L95_6 e_L95_6 _ _ _ hP hD hS (lv_sub hl [1, 2, 3, 4, 5, 6, 7, 0] rfl) ?_
        intro H locs ls hP hD hS hl
        refine lv_aload_n hx hb dX12_whole_147 rfl (lv_at hl 0 rfl) ?_
        refine va_get (D := D) (ci := 12) (v := .ref h_t_digit) (C := RX12) (T := TX12) (N := 61) hx hb ha ix12 hown hK hP 0 rfl rfl 19 (by decide) (ha _ q979) (fun _ h9 => h9) rfl dX12_whole_148 ?_
        refine lv_aload_n hx hb dX12_whole_151 rfl (lv_at hl 0 rfl) ?_
        refine va_get (D := D) (ci := 12) (v := .int t_digitMany) (C := RX12) (T := TX12) (N := 61) hx hb ha ix12 hown hK hP 0 rfl rfl 18 (by decide) (ha _ q978) (fun _ h9 => h9) rfl dX12_whole_152 ?_
        refine lv_lload hx hb dX12_whole_155 (lv_at hl 7 rfl) ?_
        obtain ⟨i8, h⟩ := ix_ok h
        refine va_last hx hb hK hP hD hS 1 0 rfl rfl i8 dX12_whole_157 (fun H locs hP hD hS => ?_)
        have hP : va_P D vwCl ((h_t, .inr (12, (z_t_0 :: z_t_1 :: z_t_2 :: .int t_a :: .int t_b :: .int t_root :: z_t_6 :: z_t_7 :: z_t_8 :: z_t_9 :: z_t_10 :: z_t_11 :: z_t_12 :: z_t_13 :: z_t_14 :: .int t_top :: z_t_16 :: z_t_17 :: .int t_digitMany :: .ref h_t_digit :: .ref h_t_leftU :: .ref h_t_leftV :: z_t_22 :: z_t_23 :: z_t_24 :: z_t_25 :: z_t_26 :: z_t_27 :: z_t_28 :: z_t_29 :: z_t_30 :: z_t_31 :: z_t_32 :: z_t_33 :: z_t_34 :: z_t_35 :: z_t_36 :: z_t_37 :: z_t_38 :: z_t_39 :: z_t_40 :: z_t_41 :: z_t_42 :: z_t_43 :: z_t_44 :: z_t_45 :: z_t_46 :: z_t_47 :: z_t_48 :: z_t_49 :: z_t_50 :: z_t_51 :: z_t_52 :: z_t_53 :: z_t_54 :: z_t_55 :: z_t_56 :: z_t_57 :: z_t_58 :: z_t_59 :: z_t_60 :: []))) :: (h_t_digit, .inl (k_t_digit, 500, .inr (.inl (vp_updL t_digit t_digitMany.toNatClampNeg x16_L95_6)))) :: (h_t_leftU, .inl (k_t_leftU, 401, .inr (.inl t_leftU))) :: (h_t_leftV, .inl (k_t_leftV, 401, .inr (.inl t_leftV))) :: R) H := hP
        have hD : va_D A ((h_t, .inr (12, (z_t_0 :: z_t_1 :: z_t_2 :: .int t_a :: .int t_b :: .int t_root :: z_t_6 :: z_t_7 :: z_t_8 :: z_t_9 :: z_t_10 :: z_t_11 :: z_t_12 :: z_t_13 :: z_t_14 :: .int t_top :: z_t_16 :: z_t_17 :: .int t_digitMany :: .ref h_t_digit :: .ref h_t_leftU :: .ref h_t_leftV :: z_t_22 :: z_t_23 :: z_t_24 :: z_t_25 :: z_t_26 :: z_t_27 :: z_t_28 :: z_t_29 :: z_t_30 :: z_t_31 :: z_t_32 :: z_t_33 :: z_t_34 :: z_t_35 :: z_t_36 :: z_t_37 :: z_t_38 :: z_t_39 :: z_t_40 :: z_t_41 :: z_t_42 :: z_t_43 :: z_t_44 :: z_t_45 :: z_t_46 :: z_t_47 :: z_t_48 :: z_t_49 :: z_t_50 :: z_t_51 :: z_t_52 :: z_t_53 :: z_t_54 :: z_t_55 :: z_t_56 :: z_t_57 :: z_t_58 :: z_t_59 :: z_t_60 :: []))) :: (h_t_digit, .inl (k_t_digit, 500, .inr (.inl (vp_updL t_digit t_digitMany.toNatClampNeg x16_L95_6)))) :: (h_t_leftU, .inl (k_t_leftU, 401, .inr (.inl t_leftU))) :: (h_t_leftV, .inl (k_t_leftV, 401, .inr (.inl t_leftV))) :: R) := hD
        refine lv_aload_n hx hb dX12_whole_158 rfl (lv_at hl 0 rfl) ?_
        refine lv_dup hx hb dX12_whole_159 rfl ?_
        refine va_get (D := D) (ci := 12) (v := .int t_digitMany) (C := RX12) (T := TX12) (N := 61) hx hb ha ix12 hown hK hP 0 rfl rfl 18 (by decide) (ha _ q978) (fun _ h9 => h9) rfl dX12_whole_160 ?_
        refine lv_iconst (v := 1) hx hb dX12_whole_163 (by decide) ?_
        refine lv_iadd hx hb dX12_whole_164 ?_
        refine va_put (D := D) (ci := 12) (v := .int (t_digitMany + 1)) (ty := .int) (C := RX12) (T := TX12) (N := 61) hx hb ha ix12 tyX12 tyX12_ok nmX12 hown hK hP hD hS 0 rfl rfl 18 (by decide) (ha _ q978) (fun _ h9 => h9) rfl (by decide +kernel) rfl rfl (Nat.le_of_ble_eq_true rfl) dX12_whole_165 (fun H locs hP hD hS => ?_)
        have hP : va_P D vwCl ((h_t, .inr (12, (z_t_0 :: z_t_1 :: z_t_2 :: .int t_a :: .int t_b :: .int t_root :: z_t_6 :: z_t_7 :: z_t_8 :: z_t_9 :: z_t_10 :: z_t_11 :: z_t_12 :: z_t_13 :: z_t_14 :: .int t_top :: z_t_16 :: z_t_17 :: .int (t_digitMany + 1) :: .ref h_t_digit :: .ref h_t_leftU :: .ref h_t_leftV :: z_t_22 :: z_t_23 :: z_t_24 :: z_t_25 :: z_t_26 :: z_t_27 :: z_t_28 :: z_t_29 :: z_t_30 :: z_t_31 :: z_t_32 :: z_t_33 :: z_t_34 :: z_t_35 :: z_t_36 :: z_t_37 :: z_t_38 :: z_t_39 :: z_t_40 :: z_t_41 :: z_t_42 :: z_t_43 :: z_t_44 :: z_t_45 :: z_t_46 :: z_t_47 :: z_t_48 :: z_t_49 :: z_t_50 :: z_t_51 :: z_t_52 :: z_t_53 :: z_t_54 :: z_t_55 :: z_t_56 :: z_t_57 :: z_t_58 :: z_t_59 :: z_t_60 :: []))) :: (h_t_digit, .inl (k_t_digit, 500, .inr (.inl (vp_updL t_digit t_digitMany.toNatClampNeg x16_L95_6)))) :: (h_t_leftU, .inl (k_t_leftU, 401, .inr (.inl t_leftU))) :: (h_t_leftV, .inl (k_t_leftV, 401, .inr (.inl t_leftV))) :: R) H := hP
        have hD : va_D A ((h_t, .inr (12, (z_t_0 :: z_t_1 :: z_t_2 :: .int t_a :: .int t_b :: .int t_root :: z_t_6 :: z_t_7 :: z_t_8 :: z_t_9 :: z_t_10 :: z_t_11 :: z_t_12 :: z_t_13 :: z_t_14 :: .int t_top :: z_t_16 :: z_t_17 :: .int (t_digitMany + 1) :: .ref h_t_digit :: .ref h_t_leftU :: .ref h_t_leftV :: z_t_22 :: z_t_23 :: z_t_24 :: z_t_25 :: z_t_26 :: z_t_27 :: z_t_28 :: z_t_29 :: z_t_30 :: z_t_31 :: z_t_32 :: z_t_33 :: z_t_34 :: z_t_35 :: z_t_36 :: z_t_37 :: z_t_38 :: z_t_39 :: z_t_40 :: z_t_41 :: z_t_42 :: z_t_43 :: z_t_44 :: z_t_45 :: z_t_46 :: z_t_47 :: z_t_48 :: z_t_49 :: z_t_50 :: z_t_51 :: z_t_52 :: z_t_53 :: z_t_54 :: z_t_55 :: z_t_56 :: z_t_57 :: z_t_58 :: z_t_59 :: z_t_60 :: []))) :: (h_t_digit, .inl (k_t_digit, 500, .inr (.inl (vp_updL t_digit t_digitMany.toNatClampNeg x16_L95_6)))) :: (h_t_leftU, .inl (k_t_leftU, 401, .inr (.inl t_leftU))) :: (h_t_leftV, .inl (k_t_leftV, 401, .inr (.inl t_leftV))) :: R) := hD
        refine lv_lload hx hb dX12_whole_168 (lv_at hl 2 rfl) ?_
        refine lv_lstore (lv' := [(18, .long l7), (0, .ref h_t), (5, .long l5), (7, .long l7), (9, .long l9), (11, .int l11), (12, .long x12_L95_6), (14, .long x14_L95_6), (16, .long x16_L95_6)]) hx hb dX12_whole_170 hl (by decide) rfl (fun ls hl => ?_)
        refine lv_lload hx hb dX12_whole_172 (lv_at hl 4 rfl) ?_
        refine lv_aload_n hx hb dX12_whole_174 rfl (lv_at hl 1 rfl) ?_
        refine va_get (D := D) (ci := 12) (v := .int t_a) (C := RX12) (T := TX12) (N := 61) hx hb ha ix12 hown hK hP 0 rfl rfl 3 (by decide) (ha _ q963) (fun _ h9 => h9) rfl dX12_whole_175 ?_
        refine lv_i2l (v := t_a.toInt64) hx hb dX12_whole_178 rfl ?_
        refine lv_lload hx hb dX12_whole_179 (lv_at hl 0 rfl) ?_
        refine lv_aload_n hx hb dX12_whole_181 rfl (lv_at hl 1 rfl) ?_
        refine va_get (D := D) (ci := 12) (v := .int t_b) (C := RX12) (T := TX12) (N := 61) hx hb ha ix12 hown hK hP 0 rfl rfl 4 (by decide) (ha _ q964) (fun _ h9 => h9) rfl dX12_whole_182 ?_
        refine lv_i2l (v := t_b.toInt64) hx hb dX12_whole_185 rfl ?_
        obtain ⟨n9, h⟩ := nzL_ok h
        refine lv_ldiv hx hb dX12_whole_186 n9 ?_
        refine lv_lmul hx hb dX12_whole_187 ?_
        refine lv_lsub hx hb dX12_whole_188 ?_
        refine lv_lstore (lv' := [(7, .long (l9 - (t_a.toInt64 * (l7 / t_b.toInt64)))), (18, .long l7), (0, .ref h_t), (5, .long l5), (9, .long l9), (11, .int l11), (12, .long x12_L95_6), (14, .long x14_L95_6), (16, .long x16_L95_6)]) hx hb dX12_whole_189 hl (by decide) rfl (fun ls hl => ?_)
        refine lv_lload hx hb dX12_whole_191 (lv_at hl 1 rfl) ?_
        refine lv_aload_n hx hb dX12_whole_193 rfl (lv_at hl 2 rfl) ?_
        refine va_get (D := D) (ci := 12) (v := .int t_b) (C := RX12) (T := TX12) (N := 61) hx hb ha ix12 hown hK hP 0 rfl rfl 4 (by decide) (ha _ q964) (fun _ h9 => h9) rfl dX12_whole_194 ?_
        refine lv_i2l (v := t_b.toInt64) hx hb dX12_whole_197 rfl ?_
        obtain ⟨n10, h⟩ := nzL_ok h
        refine lv_ldiv hx hb dX12_whole_198 n10 ?_
        refine lv_lstore (lv' := [(9, .long (l7 / t_b.toInt64)), (7, .long (l9 - (t_a.toInt64 * (l7 / t_b.toInt64)))), (18, .long l7), (0, .ref h_t), (5, .long l5), (11, .int l11), (12, .long x12_L95_6), (14, .long x14_L95_6), (16, .long x16_L95_6)]) hx hb dX12_whole_199 hl (by decide) rfl (fun ls hl => ?_)
        refine lv_iinc (v := (l11 + (-1))) (lv' := [(11, .int (l11 + (-1))), (9, .long (l7 / t_b.toInt64)), (7, .long (l9 - (t_a.toInt64 * (l7 / t_b.toInt64)))), (18, .long l7), (0, .ref h_t), (5, .long l5), (12, .long x12_L95_6), (14, .long x14_L95_6), (16, .long x16_L95_6)]) hx hb dX12_whole_201 hl (k := 5) rfl rfl (by decide) rfl (fun ls hl => ?_)
        refine lv_goto (tgt := 87) hx hb dX12_whole_204 (by decide) ?_
        exact ih l5 (l9 - (t_a.toInt64 * (l7 / t_b.toInt64))) (l7 / t_b.toInt64) (l11 + (-1)) x12_L95_6 x14_L95_6 t_top (t_digitMany + 1) (vp_updL t_digit t_digitMany.toNatClampNeg x16_L95_6) t_leftU t_leftV _ _ _ _ h _ _ _ hP hD hS (lv_sub hl [4, 5, 2, 1, 0, 6, 7] rfl) kk0
  unfold f_X12_whole at h
  refine lv_lconst (v := 1) hx hb dX12_whole_0 (by decide) ?_
  refine lv_lstore (lv' := [(7, .long 1), (0, .ref h_t), (1, .long l1), (3, .long l3), (5, .long l5)]) hx hb dX12_whole_1 hl (by decide) rfl (fun ls hl => ?_)
  refine lv_lconst (v := 0) hx hb dX12_whole_3 (by decide) ?_
  refine lv_lstore (lv' := [(9, .long 0), (7, .long 1), (0, .ref h_t), (1, .long l1), (3, .long l3), (5, .long l5)]) hx hb dX12_whole_4 hl (by decide) rfl (fun ls hl => ?_)
  refine lv_iconst (v := 0) hx hb dX12_whole_6 (by decide) ?_
  refine lv_istore (lv' := [(11, .int 0), (9, .long 0), (7, .long 1), (0, .ref h_t), (1, .long l1), (3, .long l3), (5, .long l5)]) hx hb dX12_whole_7 hl (by decide) rfl (fun ls hl => ?_)
  obtain ⟨x7_L9_2, x9_L9_2, x11_L9_2, e_L9_2, h⟩ := bnd3_ok h
  refine L9 _ _ l1 l3 l5 1 0 0 t_top t_digitMany t_digit t_leftU t_leftV x7_L9_2 x9_L9_2 x11_L9_2 e_L9_2 _ _ _ hP hD hS (lv_sub hl [3, 4, 5, 6, 2, 1, 0] rfl) ?_
  intro H locs ls hP hD hS hl
  refine lv_goto (tgt := 70) hx hb dX12_whole_53 (by decide) ?_
  refine lv_aload_n hx hb dX12_whole_70 rfl (lv_at hl 0 rfl) ?_
  refine lv_iload hx hb dX12_whole_71 (lv_at hl 6 rfl) ?_
  refine va_put (D := D) (ci := 12) (v := .int x11_L9_2) (ty := .int) (C := RX12) (T := TX12) (N := 61) hx hb ha ix12 tyX12 tyX12_ok nmX12 hown hK hP hD hS 0 rfl rfl 15 (by decide) (ha _ q975) (fun _ h9 => h9) rfl (by decide +kernel) rfl rfl (Nat.le_of_ble_eq_true rfl) dX12_whole_73 (fun H locs hP hD hS => ?_)
  have hP : va_P D vwCl ((h_t, .inr (12, (z_t_0 :: z_t_1 :: z_t_2 :: .int t_a :: .int t_b :: .int t_root :: z_t_6 :: z_t_7 :: z_t_8 :: z_t_9 :: z_t_10 :: z_t_11 :: z_t_12 :: z_t_13 :: z_t_14 :: .int x11_L9_2 :: z_t_16 :: z_t_17 :: .int t_digitMany :: .ref h_t_digit :: .ref h_t_leftU :: .ref h_t_leftV :: z_t_22 :: z_t_23 :: z_t_24 :: z_t_25 :: z_t_26 :: z_t_27 :: z_t_28 :: z_t_29 :: z_t_30 :: z_t_31 :: z_t_32 :: z_t_33 :: z_t_34 :: z_t_35 :: z_t_36 :: z_t_37 :: z_t_38 :: z_t_39 :: z_t_40 :: z_t_41 :: z_t_42 :: z_t_43 :: z_t_44 :: z_t_45 :: z_t_46 :: z_t_47 :: z_t_48 :: z_t_49 :: z_t_50 :: z_t_51 :: z_t_52 :: z_t_53 :: z_t_54 :: z_t_55 :: z_t_56 :: z_t_57 :: z_t_58 :: z_t_59 :: z_t_60 :: []))) :: (h_t_digit, .inl (k_t_digit, 500, .inr (.inl t_digit))) :: (h_t_leftU, .inl (k_t_leftU, 401, .inr (.inl t_leftU))) :: (h_t_leftV, .inl (k_t_leftV, 401, .inr (.inl t_leftV))) :: R) H := hP
  have hD : va_D A ((h_t, .inr (12, (z_t_0 :: z_t_1 :: z_t_2 :: .int t_a :: .int t_b :: .int t_root :: z_t_6 :: z_t_7 :: z_t_8 :: z_t_9 :: z_t_10 :: z_t_11 :: z_t_12 :: z_t_13 :: z_t_14 :: .int x11_L9_2 :: z_t_16 :: z_t_17 :: .int t_digitMany :: .ref h_t_digit :: .ref h_t_leftU :: .ref h_t_leftV :: z_t_22 :: z_t_23 :: z_t_24 :: z_t_25 :: z_t_26 :: z_t_27 :: z_t_28 :: z_t_29 :: z_t_30 :: z_t_31 :: z_t_32 :: z_t_33 :: z_t_34 :: z_t_35 :: z_t_36 :: z_t_37 :: z_t_38 :: z_t_39 :: z_t_40 :: z_t_41 :: z_t_42 :: z_t_43 :: z_t_44 :: z_t_45 :: z_t_46 :: z_t_47 :: z_t_48 :: z_t_49 :: z_t_50 :: z_t_51 :: z_t_52 :: z_t_53 :: z_t_54 :: z_t_55 :: z_t_56 :: z_t_57 :: z_t_58 :: z_t_59 :: z_t_60 :: []))) :: (h_t_digit, .inl (k_t_digit, 500, .inr (.inl t_digit))) :: (h_t_leftU, .inl (k_t_leftU, 401, .inr (.inl t_leftU))) :: (h_t_leftV, .inl (k_t_leftV, 401, .inr (.inl t_leftV))) :: R) := hD
  refine lv_aload_n hx hb dX12_whole_76 rfl (lv_at hl 0 rfl) ?_
  refine lv_iconst (v := 0) hx hb dX12_whole_77 (by decide) ?_
  refine va_put (D := D) (ci := 12) (v := .int 0) (ty := .int) (C := RX12) (T := TX12) (N := 61) hx hb ha ix12 tyX12 tyX12_ok nmX12 hown hK hP hD hS 0 rfl rfl 18 (by decide) (ha _ q978) (fun _ h9 => h9) rfl (by decide +kernel) rfl rfl (Nat.le_of_ble_eq_true rfl) dX12_whole_78 (fun H locs hP hD hS => ?_)
  have hP : va_P D vwCl ((h_t, .inr (12, (z_t_0 :: z_t_1 :: z_t_2 :: .int t_a :: .int t_b :: .int t_root :: z_t_6 :: z_t_7 :: z_t_8 :: z_t_9 :: z_t_10 :: z_t_11 :: z_t_12 :: z_t_13 :: z_t_14 :: .int x11_L9_2 :: z_t_16 :: z_t_17 :: .int 0 :: .ref h_t_digit :: .ref h_t_leftU :: .ref h_t_leftV :: z_t_22 :: z_t_23 :: z_t_24 :: z_t_25 :: z_t_26 :: z_t_27 :: z_t_28 :: z_t_29 :: z_t_30 :: z_t_31 :: z_t_32 :: z_t_33 :: z_t_34 :: z_t_35 :: z_t_36 :: z_t_37 :: z_t_38 :: z_t_39 :: z_t_40 :: z_t_41 :: z_t_42 :: z_t_43 :: z_t_44 :: z_t_45 :: z_t_46 :: z_t_47 :: z_t_48 :: z_t_49 :: z_t_50 :: z_t_51 :: z_t_52 :: z_t_53 :: z_t_54 :: z_t_55 :: z_t_56 :: z_t_57 :: z_t_58 :: z_t_59 :: z_t_60 :: []))) :: (h_t_digit, .inl (k_t_digit, 500, .inr (.inl t_digit))) :: (h_t_leftU, .inl (k_t_leftU, 401, .inr (.inl t_leftU))) :: (h_t_leftV, .inl (k_t_leftV, 401, .inr (.inl t_leftV))) :: R) H := hP
  have hD : va_D A ((h_t, .inr (12, (z_t_0 :: z_t_1 :: z_t_2 :: .int t_a :: .int t_b :: .int t_root :: z_t_6 :: z_t_7 :: z_t_8 :: z_t_9 :: z_t_10 :: z_t_11 :: z_t_12 :: z_t_13 :: z_t_14 :: .int x11_L9_2 :: z_t_16 :: z_t_17 :: .int 0 :: .ref h_t_digit :: .ref h_t_leftU :: .ref h_t_leftV :: z_t_22 :: z_t_23 :: z_t_24 :: z_t_25 :: z_t_26 :: z_t_27 :: z_t_28 :: z_t_29 :: z_t_30 :: z_t_31 :: z_t_32 :: z_t_33 :: z_t_34 :: z_t_35 :: z_t_36 :: z_t_37 :: z_t_38 :: z_t_39 :: z_t_40 :: z_t_41 :: z_t_42 :: z_t_43 :: z_t_44 :: z_t_45 :: z_t_46 :: z_t_47 :: z_t_48 :: z_t_49 :: z_t_50 :: z_t_51 :: z_t_52 :: z_t_53 :: z_t_54 :: z_t_55 :: z_t_56 :: z_t_57 :: z_t_58 :: z_t_59 :: z_t_60 :: []))) :: (h_t_digit, .inl (k_t_digit, 500, .inr (.inl t_digit))) :: (h_t_leftU, .inl (k_t_leftU, 401, .inr (.inl t_leftU))) :: (h_t_leftV, .inl (k_t_leftV, 401, .inr (.inl t_leftV))) :: R) := hD
  refine lv_lload_n hx hb dX12_whole_81 rfl (lv_at hl 1 rfl) ?_
  refine lv_lstore (lv' := [(12, .long l1), (0, .ref h_t), (1, .long l1), (3, .long l3), (5, .long l5), (7, .long x7_L9_2), (9, .long x9_L9_2), (11, .int x11_L9_2)]) hx hb dX12_whole_82 hl (by decide) rfl (fun ls hl => ?_)
  refine lv_lload_n hx hb dX12_whole_84 rfl (lv_at hl 3 rfl) ?_
  refine lv_lstore (lv' := [(14, .long l3), (12, .long l1), (0, .ref h_t), (1, .long l1), (3, .long l3), (5, .long l5), (7, .long x7_L9_2), (9, .long x9_L9_2), (11, .int x11_L9_2)]) hx hb dX12_whole_85 hl (by decide) rfl (fun ls hl => ?_)
  obtain ⟨x12_L87_10, x14_L87_10, x_t_digitMany_L87_10, x_t_digit_L87_10, e_L87_10, h⟩ := bnd4_ok h
  refine L87 _ _ l5 x7_L9_2 x9_L9_2 x11_L9_2 l1 l3 x11_L9_2 0 t_digit t_leftU t_leftV x12_L87_10 x14_L87_10 x_t_digitMany_L87_10 x_t_digit_L87_10 e_L87_10 _ _ _ hP hD hS (lv_sub hl [2, 5, 6, 7, 8, 1, 0] rfl) ?_
  intro H locs ls hP hD hS hl
  refine lv_aload_n hx hb dX12_whole_207 rfl (lv_at hl 0 rfl) ?_
  refine va_get (D := D) (ci := 12) (v := .ref h_t_leftU) (C := RX12) (T := TX12) (N := 61) hx hb ha ix12 hown hK hP 0 rfl rfl 20 (by decide) (ha _ q980) (fun _ h9 => h9) rfl dX12_whole_208 ?_
  refine lv_iconst (v := 0) hx hb dX12_whole_211 (by decide) ?_
  refine lv_lload hx hb dX12_whole_212 (lv_at hl 1 rfl) ?_
  obtain ⟨i12, h⟩ := ix_ok h
  refine va_last hx hb hK hP hD hS 2 1 rfl rfl i12 dX12_whole_214 (fun H locs hP hD hS => ?_)
  have hP : va_P D vwCl ((h_t, .inr (12, (z_t_0 :: z_t_1 :: z_t_2 :: .int t_a :: .int t_b :: .int t_root :: z_t_6 :: z_t_7 :: z_t_8 :: z_t_9 :: z_t_10 :: z_t_11 :: z_t_12 :: z_t_13 :: z_t_14 :: .int x11_L9_2 :: z_t_16 :: z_t_17 :: .int x_t_digitMany_L87_10 :: .ref h_t_digit :: .ref h_t_leftU :: .ref h_t_leftV :: z_t_22 :: z_t_23 :: z_t_24 :: z_t_25 :: z_t_26 :: z_t_27 :: z_t_28 :: z_t_29 :: z_t_30 :: z_t_31 :: z_t_32 :: z_t_33 :: z_t_34 :: z_t_35 :: z_t_36 :: z_t_37 :: z_t_38 :: z_t_39 :: z_t_40 :: z_t_41 :: z_t_42 :: z_t_43 :: z_t_44 :: z_t_45 :: z_t_46 :: z_t_47 :: z_t_48 :: z_t_49 :: z_t_50 :: z_t_51 :: z_t_52 :: z_t_53 :: z_t_54 :: z_t_55 :: z_t_56 :: z_t_57 :: z_t_58 :: z_t_59 :: z_t_60 :: []))) :: (h_t_digit, .inl (k_t_digit, 500, .inr (.inl x_t_digit_L87_10))) :: (h_t_leftU, .inl (k_t_leftU, 401, .inr (.inl (vp_updL t_leftU (0 : Int32).toNatClampNeg x12_L87_10)))) :: (h_t_leftV, .inl (k_t_leftV, 401, .inr (.inl t_leftV))) :: R) H := hP
  have hD : va_D A ((h_t, .inr (12, (z_t_0 :: z_t_1 :: z_t_2 :: .int t_a :: .int t_b :: .int t_root :: z_t_6 :: z_t_7 :: z_t_8 :: z_t_9 :: z_t_10 :: z_t_11 :: z_t_12 :: z_t_13 :: z_t_14 :: .int x11_L9_2 :: z_t_16 :: z_t_17 :: .int x_t_digitMany_L87_10 :: .ref h_t_digit :: .ref h_t_leftU :: .ref h_t_leftV :: z_t_22 :: z_t_23 :: z_t_24 :: z_t_25 :: z_t_26 :: z_t_27 :: z_t_28 :: z_t_29 :: z_t_30 :: z_t_31 :: z_t_32 :: z_t_33 :: z_t_34 :: z_t_35 :: z_t_36 :: z_t_37 :: z_t_38 :: z_t_39 :: z_t_40 :: z_t_41 :: z_t_42 :: z_t_43 :: z_t_44 :: z_t_45 :: z_t_46 :: z_t_47 :: z_t_48 :: z_t_49 :: z_t_50 :: z_t_51 :: z_t_52 :: z_t_53 :: z_t_54 :: z_t_55 :: z_t_56 :: z_t_57 :: z_t_58 :: z_t_59 :: z_t_60 :: []))) :: (h_t_digit, .inl (k_t_digit, 500, .inr (.inl x_t_digit_L87_10))) :: (h_t_leftU, .inl (k_t_leftU, 401, .inr (.inl (vp_updL t_leftU (0 : Int32).toNatClampNeg x12_L87_10)))) :: (h_t_leftV, .inl (k_t_leftV, 401, .inr (.inl t_leftV))) :: R) := hD
  refine lv_aload_n hx hb dX12_whole_215 rfl (lv_at hl 0 rfl) ?_
  refine va_get (D := D) (ci := 12) (v := .ref h_t_leftV) (C := RX12) (T := TX12) (N := 61) hx hb ha ix12 hown hK hP 0 rfl rfl 21 (by decide) (ha _ q981) (fun _ h9 => h9) rfl dX12_whole_216 ?_
  refine lv_iconst (v := 0) hx hb dX12_whole_219 (by decide) ?_
  refine lv_lload hx hb dX12_whole_220 (lv_at hl 2 rfl) ?_
  obtain ⟨i13, h⟩ := ix_ok h
  refine va_last hx hb hK hP hD hS 3 2 rfl rfl i13 dX12_whole_222 (fun H locs hP hD hS => ?_)
  have hP : va_P D vwCl ((h_t, .inr (12, (z_t_0 :: z_t_1 :: z_t_2 :: .int t_a :: .int t_b :: .int t_root :: z_t_6 :: z_t_7 :: z_t_8 :: z_t_9 :: z_t_10 :: z_t_11 :: z_t_12 :: z_t_13 :: z_t_14 :: .int x11_L9_2 :: z_t_16 :: z_t_17 :: .int x_t_digitMany_L87_10 :: .ref h_t_digit :: .ref h_t_leftU :: .ref h_t_leftV :: z_t_22 :: z_t_23 :: z_t_24 :: z_t_25 :: z_t_26 :: z_t_27 :: z_t_28 :: z_t_29 :: z_t_30 :: z_t_31 :: z_t_32 :: z_t_33 :: z_t_34 :: z_t_35 :: z_t_36 :: z_t_37 :: z_t_38 :: z_t_39 :: z_t_40 :: z_t_41 :: z_t_42 :: z_t_43 :: z_t_44 :: z_t_45 :: z_t_46 :: z_t_47 :: z_t_48 :: z_t_49 :: z_t_50 :: z_t_51 :: z_t_52 :: z_t_53 :: z_t_54 :: z_t_55 :: z_t_56 :: z_t_57 :: z_t_58 :: z_t_59 :: z_t_60 :: []))) :: (h_t_digit, .inl (k_t_digit, 500, .inr (.inl x_t_digit_L87_10))) :: (h_t_leftU, .inl (k_t_leftU, 401, .inr (.inl (vp_updL t_leftU (0 : Int32).toNatClampNeg x12_L87_10)))) :: (h_t_leftV, .inl (k_t_leftV, 401, .inr (.inl (vp_updL t_leftV (0 : Int32).toNatClampNeg x14_L87_10)))) :: R) H := hP
  have hD : va_D A ((h_t, .inr (12, (z_t_0 :: z_t_1 :: z_t_2 :: .int t_a :: .int t_b :: .int t_root :: z_t_6 :: z_t_7 :: z_t_8 :: z_t_9 :: z_t_10 :: z_t_11 :: z_t_12 :: z_t_13 :: z_t_14 :: .int x11_L9_2 :: z_t_16 :: z_t_17 :: .int x_t_digitMany_L87_10 :: .ref h_t_digit :: .ref h_t_leftU :: .ref h_t_leftV :: z_t_22 :: z_t_23 :: z_t_24 :: z_t_25 :: z_t_26 :: z_t_27 :: z_t_28 :: z_t_29 :: z_t_30 :: z_t_31 :: z_t_32 :: z_t_33 :: z_t_34 :: z_t_35 :: z_t_36 :: z_t_37 :: z_t_38 :: z_t_39 :: z_t_40 :: z_t_41 :: z_t_42 :: z_t_43 :: z_t_44 :: z_t_45 :: z_t_46 :: z_t_47 :: z_t_48 :: z_t_49 :: z_t_50 :: z_t_51 :: z_t_52 :: z_t_53 :: z_t_54 :: z_t_55 :: z_t_56 :: z_t_57 :: z_t_58 :: z_t_59 :: z_t_60 :: []))) :: (h_t_digit, .inl (k_t_digit, 500, .inr (.inl x_t_digit_L87_10))) :: (h_t_leftU, .inl (k_t_leftU, 401, .inr (.inl (vp_updL t_leftU (0 : Int32).toNatClampNeg x12_L87_10)))) :: (h_t_leftV, .inl (k_t_leftV, 401, .inr (.inl (vp_updL t_leftV (0 : Int32).toNatClampNeg x14_L87_10)))) :: R) := hD
  cases h
  exact rt_v S hr hlk hP hD hS dX12_whole_223
noncomputable def f_X12_digits_L116 (l4 : Int32) (t_leftU : Nat → Int64) (t_leftV : Nat → Int64) : Nat → Int32 →  Option (Nat × Int32)
  | 0, _ => none
  | n + 1, l5 => (
    if l4 ≤ l5 then (
     some (1, l5)
    ) else (
     gd (ixb l5 401) (
      gd (ixb l4 401) (
       if (t_leftU l5.toNatClampNeg) = (t_leftU l4.toNatClampNeg) then (
        gd (ixb l5 401) (
         gd (ixb l4 401) (
          if (t_leftV l5.toNatClampNeg) = (t_leftV l4.toNatClampNeg) then (
           some (0, l5)
          ) else (
           f_X12_digits_L116 l4 t_leftU t_leftV n (l5 + 1)
          )
         )
        )
       ) else (
        f_X12_digits_L116 l4 t_leftU t_leftV n (l5 + 1)
       )
      )
     )
    ))
noncomputable def f_X12_digits_L242 (l2 : Int64) (l7 : Int64) (t_a : Int32) (t_root : Int32) : Nat → Int64 → Int64 →  Option (Int64 × Int64)
  | 0, _, _ => none
  | n + 1, l5, l9 => (
    bnd1 (f_X12_sign t_a t_root (l5 - l2) l7) fun r_c249_26 => (
     if r_c249_26 < 0 then (
      some (l5, l9)
     ) else (
      f_X12_digits_L242 l2 l7 t_a t_root n (l5 - l2) (l9 + 1)
     )
    ))
noncomputable def f_X12_digits_L76 (l2 : Int64) (t_a : Int32) (t_b : Int32) (t_root : Int32) : Nat → Int32 → Int32 → Int32 → (Nat → Int64) → (Nat → Int64) → (Nat → Int64) →  Option (Nat × Int32 × Int32 × Int32 × Int32 × (Nat → Int64) × (Nat → Int64) × (Nat → Int64))
  | 0, _, _, _, _, _, _ => none
  | n + 1, l4, t_ahead, t_digitMany, t_digit, t_leftU, t_leftV => (
    gd (ixb l4 401) (
     if (t_leftU l4.toNatClampNeg) = 0 then (
      gd (ixb l4 401) (
       if (t_leftV l4.toNatClampNeg) = 0 then (
        some (0, l4, 0, l4, t_digitMany, t_digit, t_leftU, t_leftV)
       ) else (
        bnd2 (f_X12_digits_L116 l4 t_leftU t_leftV FU 0) fun tg_L116_21 x5_L116_21 => (
         if tg_L116_21 = 0 then (
          some (1, l4, x5_L116_21, l4, t_digitMany, t_digit, t_leftU, t_leftV)
         ) else (
          if l4 = 400 then (
           some (2, l4, 0, l4, t_digitMany, t_digit, t_leftU, t_leftV)
          ) else (
           gd (ixb l4 401) (
            gd (ixb l4 401) (
             gd (ixb l4 401) (
              bnd2 (f_X12_digits_L242 l2 ((t_leftU l4.toNatClampNeg) + ((t_leftV l4.toNatClampNeg) * t_a.toInt64)) t_a t_root FU ((t_leftV l4.toNatClampNeg) * t_b.toInt64) 0) fun x5_L242_28 x9_L242_28 => (
               gd (ixb t_digitMany 500) (
                gd (ixb (l4 + 1) 401) (
                 gd (ixb (l4 + 1) 401) (
                  f_X12_digits_L76 l2 t_a t_b t_root n (l4 + 1) l4 (t_digitMany + 1) (vp_updL t_digit t_digitMany.toNatClampNeg x9_L242_28) (vp_updL t_leftU (l4 + 1).toNatClampNeg x5_L242_28) (vp_updL t_leftV (l4 + 1).toNatClampNeg ((t_leftU l4.toNatClampNeg) + ((t_leftV l4.toNatClampNeg) * t_a.toInt64)))
                 )
                )
               )
              )
             )
            )
           )
          )
         )
        )
       )
      )
     ) else (
      bnd2 (f_X12_digits_L116 l4 t_leftU t_leftV FU 0) fun tg_L116_32 x5_L116_32 => (
       if tg_L116_32 = 0 then (
        some (1, l4, x5_L116_32, l4, t_digitMany, t_digit, t_leftU, t_leftV)
       ) else (
        if l4 = 400 then (
         some (2, l4, 0, l4, t_digitMany, t_digit, t_leftU, t_leftV)
        ) else (
         gd (ixb l4 401) (
          gd (ixb l4 401) (
           gd (ixb l4 401) (
            bnd2 (f_X12_digits_L242 l2 ((t_leftU l4.toNatClampNeg) + ((t_leftV l4.toNatClampNeg) * t_a.toInt64)) t_a t_root FU ((t_leftV l4.toNatClampNeg) * t_b.toInt64) 0) fun x5_L242_37 x9_L242_37 => (
             gd (ixb t_digitMany 500) (
              gd (ixb (l4 + 1) 401) (
               gd (ixb (l4 + 1) 401) (
                f_X12_digits_L76 l2 t_a t_b t_root n (l4 + 1) l4 (t_digitMany + 1) (vp_updL t_digit t_digitMany.toNatClampNeg x9_L242_37) (vp_updL t_leftU (l4 + 1).toNatClampNeg x5_L242_37) (vp_updL t_leftV (l4 + 1).toNatClampNeg ((t_leftU l4.toNatClampNeg) + ((t_leftV l4.toNatClampNeg) * t_a.toInt64)))
               )
              )
             )
            )
           )
          )
         )
        )
       )
      )
     )
    ))
noncomputable def f_X12_digits (t_thrown : Int32) (t_a : Int32) (t_b : Int32) (t_root : Int32) (t_isTold : Int32) (t_result : Int32) (t_top : Int32) (t_ahead : Int32) (t_round : Int32) (t_digitMany : Int32) (t_has : Nat → Int32) (t_us : Nat → Int32) (t_vs : Nat → Int32) (t_ds : Nat → Int32) (t_digit : Nat → Int64) (t_leftU : Nat → Int64) (t_leftV : Nat → Int64) (l1 : Int32) : Option (Int32 × Int32 × Int32 × Int32 × Int32 × Int32 × Int32 × Int32 × (Nat → Int64) × (Nat → Int64) × (Nat → Int64)) :=
  bnd1 (f_X12_isThere t_has l1) fun r_c7_0 => (
   if r_c7_0 = 0 then (
    some ((-1), 0, t_isTold, t_result, t_top, t_ahead, t_round, t_digitMany, t_digit, t_leftU, t_leftV)
   ) else (
    gd (ixb l1 10) (
     gd (ixb l1 10) (
      bnd1 (f_X12_sign t_a t_root ((t_us l1.toNatClampNeg).toInt64) ((t_vs l1.toNatClampNeg).toInt64)) fun r_c28_4 => (
       if 0 ≤ r_c28_4 then (
        gd (ixb l1 10) (
         gd (ixb l1 10) (
          gd (ixb l1 10) (
           bnd5 (f_X12_whole t_a t_b t_root t_top t_digitMany t_digit t_leftU t_leftV ((t_us l1.toNatClampNeg).toInt64) ((t_vs l1.toNatClampNeg).toInt64) ((t_ds l1.toNatClampNeg).toInt64)) fun t_top_c60_9 t_digitMany_c60_9 t_digit_c60_9 t_leftU_c60_9 t_leftV_c60_9 => (
            bnd8 (f_X12_digits_L76 ((t_ds l1.toNatClampNeg).toInt64) t_a t_b t_root FU 0 t_ahead t_digitMany_c60_9 t_digit_c60_9 t_leftU_c60_9 t_leftV_c60_9) fun tg_L76_41 x4_L76_41 x5_L76_41 x_t_ahead_L76_41 x_t_digitMany_L76_41 x_t_digit_L76_41 x_t_leftU_L76_41 x_t_leftV_L76_41 => (
             if tg_L76_41 = 0 then (
              some (0, 0, 1, 0, t_top_c60_9, x_t_ahead_L76_41, 0, x_t_digitMany_L76_41, x_t_digit_L76_41, x_t_leftU_L76_41, x_t_leftV_L76_41)
             ) else (
              if tg_L76_41 = 1 then (
               some (1, 0, 1, 1, t_top_c60_9, x5_L76_41, (x4_L76_41 - x5_L76_41), x_t_digitMany_L76_41, x_t_digit_L76_41, x_t_leftU_L76_41, x_t_leftV_L76_41)
              ) else (
               some (2, 0, 1, 2, t_top_c60_9, x_t_ahead_L76_41, 0, x_t_digitMany_L76_41, x_t_digit_L76_41, x_t_leftU_L76_41, x_t_leftV_L76_41)
              )
             )
            )
           )
          )
         )
        )
       ) else (
        some ((-1), 0, t_isTold, t_result, t_top, t_ahead, t_round, t_digitMany, t_digit, t_leftU, t_leftV)
       )
      )
     )
    )
   )
  )
set_option maxHeartbeats 4000000 in
set_option maxRecDepth 100000 in
theorem c_X12_digits (l : Launch) (D : va_G) (R : va_W) (h_t : Nat) (t_thrown : Int32) (z_t_1 : Value) (z_t_2 : Value) (t_a : Int32) (t_b : Int32) (t_root : Int32) (z_t_10 : Value) (z_t_11 : Value) (z_t_12 : Value) (t_isTold : Int32) (t_result : Int32) (t_top : Int32) (t_ahead : Int32) (t_round : Int32) (t_digitMany : Int32) (z_t_22 : Value) (z_t_23 : Value) (z_t_24 : Value) (z_t_25 : Value) (z_t_26 : Value) (z_t_27 : Value) (z_t_28 : Value) (z_t_29 : Value) (z_t_30 : Value) (z_t_31 : Value) (z_t_32 : Value) (z_t_33 : Value) (z_t_34 : Value) (z_t_35 : Value) (z_t_36 : Value) (z_t_37 : Value) (z_t_38 : Value) (z_t_39 : Value) (z_t_40 : Value) (z_t_41 : Value) (z_t_42 : Value) (z_t_43 : Value) (z_t_44 : Value) (z_t_45 : Value) (z_t_46 : Value) (z_t_47 : Value) (z_t_48 : Value) (z_t_49 : Value) (z_t_50 : Value) (z_t_51 : Value) (z_t_52 : Value) (z_t_53 : Value) (z_t_54 : Value) (z_t_55 : Value) (z_t_56 : Value) (z_t_57 : Value) (z_t_58 : Value) (z_t_59 : Value) (z_t_60 : Value) (h_t_has : Nat) (k_t_has : ClassId) (t_has : Nat → Int32) (h_t_us : Nat) (k_t_us : ClassId) (t_us : Nat → Int32) (h_t_vs : Nat) (k_t_vs : ClassId) (t_vs : Nat → Int32) (h_t_ds : Nat) (k_t_ds : ClassId) (t_ds : Nat → Int32) (h_t_digit : Nat) (k_t_digit : ClassId) (t_digit : Nat → Int64) (h_t_leftU : Nat) (k_t_leftU : ClassId) (t_leftU : Nat → Int64) (h_t_leftV : Nat) (k_t_leftV : ClassId) (t_leftV : Nat → Int64) (l1 : Int32) (r : Int32) (o_t_thrown : Int32) (o_t_isTold : Int32) (o_t_result : Int32) (o_t_top : Int32) (o_t_ahead : Int32) (o_t_round : Int32) (o_t_digitMany : Int32) (o_t_digit : Nat → Int64) (o_t_leftU : Nat → Int64) (o_t_leftV : Nat → Int64)  (h : f_X12_digits t_thrown t_a t_b t_root t_isTold t_result t_top t_ahead t_round t_digitMany t_has t_us t_vs t_ds t_digit t_leftU t_leftV l1 = some (r, o_t_thrown, o_t_isTold, o_t_result, o_t_top, o_t_ahead, o_t_round, o_t_digitMany, o_t_digit, o_t_leftU, o_t_leftV)) (sz : Nat) : Met l yX12_digits (WD yX12_digits cX12_digits 11 (some .int)) ({ frames := 2, cells := 0, slots := 0, locals := 67 }) (va_Pc [.ref h_t, .int l1] (PcW D [(k_t_has, .boolean), (k_t_us, .int), (k_t_vs, .int), (k_t_ds, .int), (k_t_digit, .long), (k_t_leftU, .long), (k_t_leftV, .long)] ((h_t, .inr (12, (.int t_thrown :: z_t_1 :: z_t_2 :: .int t_a :: .int t_b :: .int t_root :: .ref h_t_has :: .ref h_t_us :: .ref h_t_vs :: .ref h_t_ds :: z_t_10 :: z_t_11 :: z_t_12 :: .int t_isTold :: .int t_result :: .int t_top :: .int t_ahead :: .int t_round :: .int t_digitMany :: .ref h_t_digit :: .ref h_t_leftU :: .ref h_t_leftV :: z_t_22 :: z_t_23 :: z_t_24 :: z_t_25 :: z_t_26 :: z_t_27 :: z_t_28 :: z_t_29 :: z_t_30 :: z_t_31 :: z_t_32 :: z_t_33 :: z_t_34 :: z_t_35 :: z_t_36 :: z_t_37 :: z_t_38 :: z_t_39 :: z_t_40 :: z_t_41 :: z_t_42 :: z_t_43 :: z_t_44 :: z_t_45 :: z_t_46 :: z_t_47 :: z_t_48 :: z_t_49 :: z_t_50 :: z_t_51 :: z_t_52 :: z_t_53 :: z_t_54 :: z_t_55 :: z_t_56 :: z_t_57 :: z_t_58 :: z_t_59 :: z_t_60 :: []))) :: (h_t_has, .inl (k_t_has, 10, .inl t_has)) :: (h_t_us, .inl (k_t_us, 10, .inl t_us)) :: (h_t_vs, .inl (k_t_vs, 10, .inl t_vs)) :: (h_t_ds, .inl (k_t_ds, 10, .inl t_ds)) :: (h_t_digit, .inl (k_t_digit, 500, .inr (.inl t_digit))) :: (h_t_leftU, .inl (k_t_leftU, 401, .inr (.inl t_leftU))) :: (h_t_leftV, .inl (k_t_leftV, 401, .inr (.inl t_leftV))) :: R) sz)) (QI D r ((h_t, .inr (12, (.int o_t_thrown :: z_t_1 :: z_t_2 :: .int t_a :: .int t_b :: .int t_root :: .ref h_t_has :: .ref h_t_us :: .ref h_t_vs :: .ref h_t_ds :: z_t_10 :: z_t_11 :: z_t_12 :: .int o_t_isTold :: .int o_t_result :: .int o_t_top :: .int o_t_ahead :: .int o_t_round :: .int o_t_digitMany :: .ref h_t_digit :: .ref h_t_leftU :: .ref h_t_leftV :: z_t_22 :: z_t_23 :: z_t_24 :: z_t_25 :: z_t_26 :: z_t_27 :: z_t_28 :: z_t_29 :: z_t_30 :: z_t_31 :: z_t_32 :: z_t_33 :: z_t_34 :: z_t_35 :: z_t_36 :: z_t_37 :: z_t_38 :: z_t_39 :: z_t_40 :: z_t_41 :: z_t_42 :: z_t_43 :: z_t_44 :: z_t_45 :: z_t_46 :: z_t_47 :: z_t_48 :: z_t_49 :: z_t_50 :: z_t_51 :: z_t_52 :: z_t_53 :: z_t_54 :: z_t_55 :: z_t_56 :: z_t_57 :: z_t_58 :: z_t_59 :: z_t_60 :: []))) :: (h_t_has, .inl (k_t_has, 10, .inl t_has)) :: (h_t_us, .inl (k_t_us, 10, .inl t_us)) :: (h_t_vs, .inl (k_t_vs, 10, .inl t_vs)) :: (h_t_ds, .inl (k_t_ds, 10, .inl t_ds)) :: (h_t_digit, .inl (k_t_digit, 500, .inr (.inl o_t_digit))) :: (h_t_leftU, .inl (k_t_leftU, 401, .inr (.inl o_t_leftU))) :: (h_t_leftV, .inl (k_t_leftV, 401, .inr (.inl o_t_leftV))) :: R) (va_A ((h_t, .inr (12, (.int t_thrown :: z_t_1 :: z_t_2 :: .int t_a :: .int t_b :: .int t_root :: .ref h_t_has :: .ref h_t_us :: .ref h_t_vs :: .ref h_t_ds :: z_t_10 :: z_t_11 :: z_t_12 :: .int t_isTold :: .int t_result :: .int t_top :: .int t_ahead :: .int t_round :: .int t_digitMany :: .ref h_t_digit :: .ref h_t_leftU :: .ref h_t_leftV :: z_t_22 :: z_t_23 :: z_t_24 :: z_t_25 :: z_t_26 :: z_t_27 :: z_t_28 :: z_t_29 :: z_t_30 :: z_t_31 :: z_t_32 :: z_t_33 :: z_t_34 :: z_t_35 :: z_t_36 :: z_t_37 :: z_t_38 :: z_t_39 :: z_t_40 :: z_t_41 :: z_t_42 :: z_t_43 :: z_t_44 :: z_t_45 :: z_t_46 :: z_t_47 :: z_t_48 :: z_t_49 :: z_t_50 :: z_t_51 :: z_t_52 :: z_t_53 :: z_t_54 :: z_t_55 :: z_t_56 :: z_t_57 :: z_t_58 :: z_t_59 :: z_t_60 :: []))) :: (h_t_has, .inl (k_t_has, 10, .inl t_has)) :: (h_t_us, .inl (k_t_us, 10, .inl t_us)) :: (h_t_vs, .inl (k_t_vs, 10, .inl t_vs)) :: (h_t_ds, .inl (k_t_ds, 10, .inl t_ds)) :: (h_t_digit, .inl (k_t_digit, 500, .inr (.inl t_digit))) :: (h_t_leftU, .inl (k_t_leftU, 401, .inr (.inl t_leftU))) :: (h_t_leftV, .inl (k_t_leftV, 401, .inr (.inl t_leftV))) :: R) sz)) 0 0 (va_A ((h_t, .inr (12, (.int t_thrown :: z_t_1 :: z_t_2 :: .int t_a :: .int t_b :: .int t_root :: .ref h_t_has :: .ref h_t_us :: .ref h_t_vs :: .ref h_t_ds :: z_t_10 :: z_t_11 :: z_t_12 :: .int t_isTold :: .int t_result :: .int t_top :: .int t_ahead :: .int t_round :: .int t_digitMany :: .ref h_t_digit :: .ref h_t_leftU :: .ref h_t_leftV :: z_t_22 :: z_t_23 :: z_t_24 :: z_t_25 :: z_t_26 :: z_t_27 :: z_t_28 :: z_t_29 :: z_t_30 :: z_t_31 :: z_t_32 :: z_t_33 :: z_t_34 :: z_t_35 :: z_t_36 :: z_t_37 :: z_t_38 :: z_t_39 :: z_t_40 :: z_t_41 :: z_t_42 :: z_t_43 :: z_t_44 :: z_t_45 :: z_t_46 :: z_t_47 :: z_t_48 :: z_t_49 :: z_t_50 :: z_t_51 :: z_t_52 :: z_t_53 :: z_t_54 :: z_t_55 :: z_t_56 :: z_t_57 :: z_t_58 :: z_t_59 :: z_t_60 :: []))) :: (h_t_has, .inl (k_t_has, 10, .inl t_has)) :: (h_t_us, .inl (k_t_us, 10, .inl t_us)) :: (h_t_vs, .inl (k_t_vs, 10, .inl t_vs)) :: (h_t_ds, .inl (k_t_ds, 10, .inl t_ds)) :: (h_t_digit, .inl (k_t_digit, 500, .inr (.inl t_digit))) :: (h_t_leftU, .inl (k_t_leftU, 401, .inr (.inl t_leftU))) :: (h_t_leftV, .inl (k_t_leftV, 401, .inr (.inl t_leftV))) :: R) sz) := by
  refine ct_start (QF := fun A => QI D r ((h_t, .inr (12, (.int o_t_thrown :: z_t_1 :: z_t_2 :: .int t_a :: .int t_b :: .int t_root :: .ref h_t_has :: .ref h_t_us :: .ref h_t_vs :: .ref h_t_ds :: z_t_10 :: z_t_11 :: z_t_12 :: .int o_t_isTold :: .int o_t_result :: .int o_t_top :: .int o_t_ahead :: .int o_t_round :: .int o_t_digitMany :: .ref h_t_digit :: .ref h_t_leftU :: .ref h_t_leftV :: z_t_22 :: z_t_23 :: z_t_24 :: z_t_25 :: z_t_26 :: z_t_27 :: z_t_28 :: z_t_29 :: z_t_30 :: z_t_31 :: z_t_32 :: z_t_33 :: z_t_34 :: z_t_35 :: z_t_36 :: z_t_37 :: z_t_38 :: z_t_39 :: z_t_40 :: z_t_41 :: z_t_42 :: z_t_43 :: z_t_44 :: z_t_45 :: z_t_46 :: z_t_47 :: z_t_48 :: z_t_49 :: z_t_50 :: z_t_51 :: z_t_52 :: z_t_53 :: z_t_54 :: z_t_55 :: z_t_56 :: z_t_57 :: z_t_58 :: z_t_59 :: z_t_60 :: []))) :: (h_t_has, .inl (k_t_has, 10, .inl t_has)) :: (h_t_us, .inl (k_t_us, 10, .inl t_us)) :: (h_t_vs, .inl (k_t_vs, 10, .inl t_vs)) :: (h_t_ds, .inl (k_t_ds, 10, .inl t_ds)) :: (h_t_digit, .inl (k_t_digit, 500, .inr (.inl o_t_digit))) :: (h_t_leftU, .inl (k_t_leftU, 401, .inr (.inl o_t_leftU))) :: (h_t_leftV, .inl (k_t_leftV, 401, .inr (.inl o_t_leftV))) :: R) A) ?_ ?_ ?_
  · decide +kernel
  · exact Nat.le_of_ble_eq_true rfl
  intro p e s m args below meth c A ls S hr hlk hnm hS hA hP hD hK hN hl
  have S : CallFix p m c cX12_digits 11 s args AL "DigitBenchModel" := S
  have hx := S.1
  have hb := S.2.1
  have hown := S.2.2.2.1
  have ha := S.2.2.2.2
  have hl : lv_has ls 11 [(0, .ref h_t), (1, .int l1)] := hl
  have L116 : ∀ (Q : State → Prop) (n : Nat) (l2 : Int64) (l4 : Int32) (l5 : Int32) (t_thrown : Int32) (t_isTold : Int32) (t_result : Int32) (t_top : Int32) (t_ahead : Int32) (t_round : Int32) (t_digitMany : Int32) (t_digit : Nat → Int64) (t_leftU : Nat → Int64) (t_leftV : Nat → Int64) (tg : Nat) (x5 : Int32), f_X12_digits_L116 l4 t_leftU t_leftV n l5 = some (tg, x5) → ∀ (H : Heap) (locs : List Loc) (ls : Array Slot), va_P D vwCl ((h_t, .inr (12, (.int t_thrown :: z_t_1 :: z_t_2 :: .int t_a :: .int t_b :: .int t_root :: .ref h_t_has :: .ref h_t_us :: .ref h_t_vs :: .ref h_t_ds :: z_t_10 :: z_t_11 :: z_t_12 :: .int t_isTold :: .int t_result :: .int t_top :: .int t_ahead :: .int t_round :: .int t_digitMany :: .ref h_t_digit :: .ref h_t_leftU :: .ref h_t_leftV :: z_t_22 :: z_t_23 :: z_t_24 :: z_t_25 :: z_t_26 :: z_t_27 :: z_t_28 :: z_t_29 :: z_t_30 :: z_t_31 :: z_t_32 :: z_t_33 :: z_t_34 :: z_t_35 :: z_t_36 :: z_t_37 :: z_t_38 :: z_t_39 :: z_t_40 :: z_t_41 :: z_t_42 :: z_t_43 :: z_t_44 :: z_t_45 :: z_t_46 :: z_t_47 :: z_t_48 :: z_t_49 :: z_t_50 :: z_t_51 :: z_t_52 :: z_t_53 :: z_t_54 :: z_t_55 :: z_t_56 :: z_t_57 :: z_t_58 :: z_t_59 :: z_t_60 :: []))) :: (h_t_has, .inl (k_t_has, 10, .inl t_has)) :: (h_t_us, .inl (k_t_us, 10, .inl t_us)) :: (h_t_vs, .inl (k_t_vs, 10, .inl t_vs)) :: (h_t_ds, .inl (k_t_ds, 10, .inl t_ds)) :: (h_t_digit, .inl (k_t_digit, 500, .inr (.inl t_digit))) :: (h_t_leftU, .inl (k_t_leftU, 401, .inr (.inl t_leftU))) :: (h_t_leftV, .inl (k_t_leftV, 401, .inr (.inl t_leftV))) :: R) H → va_D A ((h_t, .inr (12, (.int t_thrown :: z_t_1 :: z_t_2 :: .int t_a :: .int t_b :: .int t_root :: .ref h_t_has :: .ref h_t_us :: .ref h_t_vs :: .ref h_t_ds :: z_t_10 :: z_t_11 :: z_t_12 :: .int t_isTold :: .int t_result :: .int t_top :: .int t_ahead :: .int t_round :: .int t_digitMany :: .ref h_t_digit :: .ref h_t_leftU :: .ref h_t_leftV :: z_t_22 :: z_t_23 :: z_t_24 :: z_t_25 :: z_t_26 :: z_t_27 :: z_t_28 :: z_t_29 :: z_t_30 :: z_t_31 :: z_t_32 :: z_t_33 :: z_t_34 :: z_t_35 :: z_t_36 :: z_t_37 :: z_t_38 :: z_t_39 :: z_t_40 :: z_t_41 :: z_t_42 :: z_t_43 :: z_t_44 :: z_t_45 :: z_t_46 :: z_t_47 :: z_t_48 :: z_t_49 :: z_t_50 :: z_t_51 :: z_t_52 :: z_t_53 :: z_t_54 :: z_t_55 :: z_t_56 :: z_t_57 :: z_t_58 :: z_t_59 :: z_t_60 :: []))) :: (h_t_has, .inl (k_t_has, 10, .inl t_has)) :: (h_t_us, .inl (k_t_us, 10, .inl t_us)) :: (h_t_vs, .inl (k_t_vs, 10, .inl t_vs)) :: (h_t_ds, .inl (k_t_ds, 10, .inl t_ds)) :: (h_t_digit, .inl (k_t_digit, 500, .inr (.inl t_digit))) :: (h_t_leftU, .inl (k_t_leftU, 401, .inr (.inl t_leftU))) :: (h_t_leftV, .inl (k_t_leftV, 401, .inr (.inl t_leftV))) :: R) → va_S A s.heap H locs → lv_has ls 11 [(0, .ref h_t), (2, .long l2), (4, .int l4), (5, .int l5)] → (tg = 0 → ∀ (H : Heap) (locs : List Loc) (ls : Array Slot), va_P D vwCl ((h_t, .inr (12, (.int t_thrown :: z_t_1 :: z_t_2 :: .int t_a :: .int t_b :: .int t_root :: .ref h_t_has :: .ref h_t_us :: .ref h_t_vs :: .ref h_t_ds :: z_t_10 :: z_t_11 :: z_t_12 :: .int t_isTold :: .int t_result :: .int t_top :: .int t_ahead :: .int t_round :: .int t_digitMany :: .ref h_t_digit :: .ref h_t_leftU :: .ref h_t_leftV :: z_t_22 :: z_t_23 :: z_t_24 :: z_t_25 :: z_t_26 :: z_t_27 :: z_t_28 :: z_t_29 :: z_t_30 :: z_t_31 :: z_t_32 :: z_t_33 :: z_t_34 :: z_t_35 :: z_t_36 :: z_t_37 :: z_t_38 :: z_t_39 :: z_t_40 :: z_t_41 :: z_t_42 :: z_t_43 :: z_t_44 :: z_t_45 :: z_t_46 :: z_t_47 :: z_t_48 :: z_t_49 :: z_t_50 :: z_t_51 :: z_t_52 :: z_t_53 :: z_t_54 :: z_t_55 :: z_t_56 :: z_t_57 :: z_t_58 :: z_t_59 :: z_t_60 :: []))) :: (h_t_has, .inl (k_t_has, 10, .inl t_has)) :: (h_t_us, .inl (k_t_us, 10, .inl t_us)) :: (h_t_vs, .inl (k_t_vs, 10, .inl t_vs)) :: (h_t_ds, .inl (k_t_ds, 10, .inl t_ds)) :: (h_t_digit, .inl (k_t_digit, 500, .inr (.inl t_digit))) :: (h_t_leftU, .inl (k_t_leftU, 401, .inr (.inl t_leftU))) :: (h_t_leftV, .inl (k_t_leftV, 401, .inr (.inl t_leftV))) :: R) H → va_D A ((h_t, .inr (12, (.int t_thrown :: z_t_1 :: z_t_2 :: .int t_a :: .int t_b :: .int t_root :: .ref h_t_has :: .ref h_t_us :: .ref h_t_vs :: .ref h_t_ds :: z_t_10 :: z_t_11 :: z_t_12 :: .int t_isTold :: .int t_result :: .int t_top :: .int t_ahead :: .int t_round :: .int t_digitMany :: .ref h_t_digit :: .ref h_t_leftU :: .ref h_t_leftV :: z_t_22 :: z_t_23 :: z_t_24 :: z_t_25 :: z_t_26 :: z_t_27 :: z_t_28 :: z_t_29 :: z_t_30 :: z_t_31 :: z_t_32 :: z_t_33 :: z_t_34 :: z_t_35 :: z_t_36 :: z_t_37 :: z_t_38 :: z_t_39 :: z_t_40 :: z_t_41 :: z_t_42 :: z_t_43 :: z_t_44 :: z_t_45 :: z_t_46 :: z_t_47 :: z_t_48 :: z_t_49 :: z_t_50 :: z_t_51 :: z_t_52 :: z_t_53 :: z_t_54 :: z_t_55 :: z_t_56 :: z_t_57 :: z_t_58 :: z_t_59 :: z_t_60 :: []))) :: (h_t_has, .inl (k_t_has, 10, .inl t_has)) :: (h_t_us, .inl (k_t_us, 10, .inl t_us)) :: (h_t_vs, .inl (k_t_vs, 10, .inl t_vs)) :: (h_t_ds, .inl (k_t_ds, 10, .inl t_ds)) :: (h_t_digit, .inl (k_t_digit, 500, .inr (.inl t_digit))) :: (h_t_leftU, .inl (k_t_leftU, 401, .inr (.inl t_leftU))) :: (h_t_leftV, .inl (k_t_leftV, 401, .inr (.inl t_leftV))) :: R) → va_S A s.heap H locs → lv_has ls 11 [(0, .ref h_t), (4, .int l4), (5, .int x5)] → W p l e { frames := 2, cells := 0, slots := 0, locals := 67 } s m args below meth c H locs 0 0 Q (F0 m 162 ls [])) → (tg = 1 → ∀ (H : Heap) (locs : List Loc) (ls : Array Slot), va_P D vwCl ((h_t, .inr (12, (.int t_thrown :: z_t_1 :: z_t_2 :: .int t_a :: .int t_b :: .int t_root :: .ref h_t_has :: .ref h_t_us :: .ref h_t_vs :: .ref h_t_ds :: z_t_10 :: z_t_11 :: z_t_12 :: .int t_isTold :: .int t_result :: .int t_top :: .int t_ahead :: .int t_round :: .int t_digitMany :: .ref h_t_digit :: .ref h_t_leftU :: .ref h_t_leftV :: z_t_22 :: z_t_23 :: z_t_24 :: z_t_25 :: z_t_26 :: z_t_27 :: z_t_28 :: z_t_29 :: z_t_30 :: z_t_31 :: z_t_32 :: z_t_33 :: z_t_34 :: z_t_35 :: z_t_36 :: z_t_37 :: z_t_38 :: z_t_39 :: z_t_40 :: z_t_41 :: z_t_42 :: z_t_43 :: z_t_44 :: z_t_45 :: z_t_46 :: z_t_47 :: z_t_48 :: z_t_49 :: z_t_50 :: z_t_51 :: z_t_52 :: z_t_53 :: z_t_54 :: z_t_55 :: z_t_56 :: z_t_57 :: z_t_58 :: z_t_59 :: z_t_60 :: []))) :: (h_t_has, .inl (k_t_has, 10, .inl t_has)) :: (h_t_us, .inl (k_t_us, 10, .inl t_us)) :: (h_t_vs, .inl (k_t_vs, 10, .inl t_vs)) :: (h_t_ds, .inl (k_t_ds, 10, .inl t_ds)) :: (h_t_digit, .inl (k_t_digit, 500, .inr (.inl t_digit))) :: (h_t_leftU, .inl (k_t_leftU, 401, .inr (.inl t_leftU))) :: (h_t_leftV, .inl (k_t_leftV, 401, .inr (.inl t_leftV))) :: R) H → va_D A ((h_t, .inr (12, (.int t_thrown :: z_t_1 :: z_t_2 :: .int t_a :: .int t_b :: .int t_root :: .ref h_t_has :: .ref h_t_us :: .ref h_t_vs :: .ref h_t_ds :: z_t_10 :: z_t_11 :: z_t_12 :: .int t_isTold :: .int t_result :: .int t_top :: .int t_ahead :: .int t_round :: .int t_digitMany :: .ref h_t_digit :: .ref h_t_leftU :: .ref h_t_leftV :: z_t_22 :: z_t_23 :: z_t_24 :: z_t_25 :: z_t_26 :: z_t_27 :: z_t_28 :: z_t_29 :: z_t_30 :: z_t_31 :: z_t_32 :: z_t_33 :: z_t_34 :: z_t_35 :: z_t_36 :: z_t_37 :: z_t_38 :: z_t_39 :: z_t_40 :: z_t_41 :: z_t_42 :: z_t_43 :: z_t_44 :: z_t_45 :: z_t_46 :: z_t_47 :: z_t_48 :: z_t_49 :: z_t_50 :: z_t_51 :: z_t_52 :: z_t_53 :: z_t_54 :: z_t_55 :: z_t_56 :: z_t_57 :: z_t_58 :: z_t_59 :: z_t_60 :: []))) :: (h_t_has, .inl (k_t_has, 10, .inl t_has)) :: (h_t_us, .inl (k_t_us, 10, .inl t_us)) :: (h_t_vs, .inl (k_t_vs, 10, .inl t_vs)) :: (h_t_ds, .inl (k_t_ds, 10, .inl t_ds)) :: (h_t_digit, .inl (k_t_digit, 500, .inr (.inl t_digit))) :: (h_t_leftU, .inl (k_t_leftU, 401, .inr (.inl t_leftU))) :: (h_t_leftV, .inl (k_t_leftV, 401, .inr (.inl t_leftV))) :: R) → va_S A s.heap H locs → lv_has ls 11 [(0, .ref h_t), (2, .long l2), (4, .int l4)] → W p l e { frames := 2, cells := 0, slots := 0, locals := 67 } s m args below meth c H locs 0 0 Q (F0 m 190 ls [])) → W p l e { frames := 2, cells := 0, slots := 0, locals := 67 } s m args below meth c H locs 0 0 Q (F0 m 116 ls []) := by
    intro Q n
    induction n with
    | zero =>
      intro l2 l4 l5 t_thrown t_isTold t_result t_top t_ahead t_round t_digitMany t_digit t_leftU t_leftV tg x5 h
      rw [f_X12_digits_L116] at h; cases h
    | succ n ih =>
      intro l2 l4 l5 t_thrown t_isTold t_result t_top t_ahead t_round t_digitMany t_digit t_leftU t_leftV tg x5 h H locs ls hP hD hS hl kk0 kk1
      rw [f_X12_digits_L116] at h
      refine lv_iload hx hb dX12_digits_116 (lv_at hl 3 rfl) ?_
      refine lv_iload hx hb dX12_digits_118 (lv_at hl 2 rfl) ?_
      refine lv_icmp_ge (tgt := 190) hx hb dX12_digits_120 (by decide) (fun c15 => ?_) (fun c15 => ?_)
      · have h := br_pos c15 h
        cases h
        exact kk1 rfl _ _ _ hP hD hS (lv_sub hl [0, 1, 2] rfl)
      · have h := br_neg c15 h
        refine lv_aload_n hx hb dX12_digits_123 rfl (lv_at hl 0 rfl) ?_
        refine va_get (D := D) (ci := 12) (v := .ref h_t_leftU) (C := RX12) (T := TX12) (N := 61) hx hb ha ix12 hown hK hP 0 rfl rfl 20 (by decide) (ha _ q980) (fun _ h9 => h9) rfl dX12_digits_124 ?_
        refine lv_iload hx hb dX12_digits_127 (lv_at hl 3 rfl) ?_
        obtain ⟨i16, h⟩ := ix_ok h
        refine va_lald hx hb hK hP 6 5 rfl rfl i16 dX12_digits_129 ?_
        refine lv_aload_n hx hb dX12_digits_130 rfl (lv_at hl 0 rfl) ?_
        refine va_get (D := D) (ci := 12) (v := .ref h_t_leftU) (C := RX12) (T := TX12) (N := 61) hx hb ha ix12 hown hK hP 0 rfl rfl 20 (by decide) (ha _ q980) (fun _ h9 => h9) rfl dX12_digits_131 ?_
        refine lv_iload hx hb dX12_digits_134 (lv_at hl 2 rfl) ?_
        obtain ⟨i17, h⟩ := ix_ok h
        refine va_lald hx hb hK hP 6 5 rfl rfl i17 dX12_digits_136 ?_
        refine xl_ne (tgt := 184) hx hb dX12_digits_137 dX12_digits_138 (by decide) (fun c18 => ?_) (fun c18 => ?_)
        · have h := br_neg c18 h
          refine lv_iinc (v := (l5 + 1)) (lv' := [(5, .int (l5 + 1)), (0, .ref h_t), (2, .long l2), (4, .int l4)]) hx hb dX12_digits_184 hl (k := 3) rfl rfl (by decide) rfl (fun ls hl => ?_)
          refine lv_goto (tgt := 116) hx hb dX12_digits_187 (by decide) ?_
          exact ih l2 l4 (l5 + 1) t_thrown t_isTold t_result t_top t_ahead t_round t_digitMany t_digit t_leftU t_leftV _ _ h _ _ _ hP hD hS (lv_sub hl [1, 2, 3, 0] rfl) kk0 kk1
        · have h := br_pos c18 h
          refine lv_aload_n hx hb dX12_digits_141 rfl (lv_at hl 0 rfl) ?_
          refine va_get (D := D) (ci := 12) (v := .ref h_t_leftV) (C := RX12) (T := TX12) (N := 61) hx hb ha ix12 hown hK hP 0 rfl rfl 21 (by decide) (ha _ q981) (fun _ h9 => h9) rfl dX12_digits_142 ?_
          refine lv_iload hx hb dX12_digits_145 (lv_at hl 3 rfl) ?_
          obtain ⟨i19, h⟩ := ix_ok h
          refine va_lald hx hb hK hP 7 6 rfl rfl i19 dX12_digits_147 ?_
          refine lv_aload_n hx hb dX12_digits_148 rfl (lv_at hl 0 rfl) ?_
          refine va_get (D := D) (ci := 12) (v := .ref h_t_leftV) (C := RX12) (T := TX12) (N := 61) hx hb ha ix12 hown hK hP 0 rfl rfl 21 (by decide) (ha _ q981) (fun _ h9 => h9) rfl dX12_digits_149 ?_
          refine lv_iload hx hb dX12_digits_152 (lv_at hl 2 rfl) ?_
          obtain ⟨i20, h⟩ := ix_ok h
          refine va_lald hx hb hK hP 7 6 rfl rfl i20 dX12_digits_154 ?_
          refine xl_eq (tgt := 162) hx hb dX12_digits_155 dX12_digits_156 (by decide) (fun c21 => ?_) (fun c21 => ?_)
          · have h := br_pos c21 h
            cases h
            exact kk0 rfl _ _ _ hP hD hS (lv_sub hl [0, 2, 3] rfl)
          · have h := br_neg c21 h
            refine lv_goto (tgt := 184) hx hb dX12_digits_159 (by decide) ?_
            refine lv_iinc (v := (l5 + 1)) (lv' := [(5, .int (l5 + 1)), (0, .ref h_t), (2, .long l2), (4, .int l4)]) hx hb dX12_digits_184 hl (k := 3) rfl rfl (by decide) rfl (fun ls hl => ?_)
            refine lv_goto (tgt := 116) hx hb dX12_digits_187 (by decide) ?_
            exact ih l2 l4 (l5 + 1) t_thrown t_isTold t_result t_top t_ahead t_round t_digitMany t_digit t_leftU t_leftV _ _ h _ _ _ hP hD hS (lv_sub hl [1, 2, 3, 0] rfl) kk0 kk1
  have L242 : ∀ (Q : State → Prop) (n : Nat) (l2 : Int64) (l4 : Int32) (l5 : Int64) (l7 : Int64) (l9 : Int64) (t_thrown : Int32) (t_isTold : Int32) (t_result : Int32) (t_top : Int32) (t_ahead : Int32) (t_round : Int32) (t_digitMany : Int32) (t_digit : Nat → Int64) (t_leftU : Nat → Int64) (t_leftV : Nat → Int64) (x5 : Int64) (x9 : Int64), f_X12_digits_L242 l2 l7 t_a t_root n l5 l9 = some (x5, x9) → ∀ (H : Heap) (locs : List Loc) (ls : Array Slot), va_P D vwCl ((h_t, .inr (12, (.int t_thrown :: z_t_1 :: z_t_2 :: .int t_a :: .int t_b :: .int t_root :: .ref h_t_has :: .ref h_t_us :: .ref h_t_vs :: .ref h_t_ds :: z_t_10 :: z_t_11 :: z_t_12 :: .int t_isTold :: .int t_result :: .int t_top :: .int t_ahead :: .int t_round :: .int t_digitMany :: .ref h_t_digit :: .ref h_t_leftU :: .ref h_t_leftV :: z_t_22 :: z_t_23 :: z_t_24 :: z_t_25 :: z_t_26 :: z_t_27 :: z_t_28 :: z_t_29 :: z_t_30 :: z_t_31 :: z_t_32 :: z_t_33 :: z_t_34 :: z_t_35 :: z_t_36 :: z_t_37 :: z_t_38 :: z_t_39 :: z_t_40 :: z_t_41 :: z_t_42 :: z_t_43 :: z_t_44 :: z_t_45 :: z_t_46 :: z_t_47 :: z_t_48 :: z_t_49 :: z_t_50 :: z_t_51 :: z_t_52 :: z_t_53 :: z_t_54 :: z_t_55 :: z_t_56 :: z_t_57 :: z_t_58 :: z_t_59 :: z_t_60 :: []))) :: (h_t_has, .inl (k_t_has, 10, .inl t_has)) :: (h_t_us, .inl (k_t_us, 10, .inl t_us)) :: (h_t_vs, .inl (k_t_vs, 10, .inl t_vs)) :: (h_t_ds, .inl (k_t_ds, 10, .inl t_ds)) :: (h_t_digit, .inl (k_t_digit, 500, .inr (.inl t_digit))) :: (h_t_leftU, .inl (k_t_leftU, 401, .inr (.inl t_leftU))) :: (h_t_leftV, .inl (k_t_leftV, 401, .inr (.inl t_leftV))) :: R) H → va_D A ((h_t, .inr (12, (.int t_thrown :: z_t_1 :: z_t_2 :: .int t_a :: .int t_b :: .int t_root :: .ref h_t_has :: .ref h_t_us :: .ref h_t_vs :: .ref h_t_ds :: z_t_10 :: z_t_11 :: z_t_12 :: .int t_isTold :: .int t_result :: .int t_top :: .int t_ahead :: .int t_round :: .int t_digitMany :: .ref h_t_digit :: .ref h_t_leftU :: .ref h_t_leftV :: z_t_22 :: z_t_23 :: z_t_24 :: z_t_25 :: z_t_26 :: z_t_27 :: z_t_28 :: z_t_29 :: z_t_30 :: z_t_31 :: z_t_32 :: z_t_33 :: z_t_34 :: z_t_35 :: z_t_36 :: z_t_37 :: z_t_38 :: z_t_39 :: z_t_40 :: z_t_41 :: z_t_42 :: z_t_43 :: z_t_44 :: z_t_45 :: z_t_46 :: z_t_47 :: z_t_48 :: z_t_49 :: z_t_50 :: z_t_51 :: z_t_52 :: z_t_53 :: z_t_54 :: z_t_55 :: z_t_56 :: z_t_57 :: z_t_58 :: z_t_59 :: z_t_60 :: []))) :: (h_t_has, .inl (k_t_has, 10, .inl t_has)) :: (h_t_us, .inl (k_t_us, 10, .inl t_us)) :: (h_t_vs, .inl (k_t_vs, 10, .inl t_vs)) :: (h_t_ds, .inl (k_t_ds, 10, .inl t_ds)) :: (h_t_digit, .inl (k_t_digit, 500, .inr (.inl t_digit))) :: (h_t_leftU, .inl (k_t_leftU, 401, .inr (.inl t_leftU))) :: (h_t_leftV, .inl (k_t_leftV, 401, .inr (.inl t_leftV))) :: R) → va_S A s.heap H locs → lv_has ls 11 [(0, .ref h_t), (2, .long l2), (4, .int l4), (5, .long l5), (7, .long l7), (9, .long l9)] → (∀ (H : Heap) (locs : List Loc) (ls : Array Slot), va_P D vwCl ((h_t, .inr (12, (.int t_thrown :: z_t_1 :: z_t_2 :: .int t_a :: .int t_b :: .int t_root :: .ref h_t_has :: .ref h_t_us :: .ref h_t_vs :: .ref h_t_ds :: z_t_10 :: z_t_11 :: z_t_12 :: .int t_isTold :: .int t_result :: .int t_top :: .int t_ahead :: .int t_round :: .int t_digitMany :: .ref h_t_digit :: .ref h_t_leftU :: .ref h_t_leftV :: z_t_22 :: z_t_23 :: z_t_24 :: z_t_25 :: z_t_26 :: z_t_27 :: z_t_28 :: z_t_29 :: z_t_30 :: z_t_31 :: z_t_32 :: z_t_33 :: z_t_34 :: z_t_35 :: z_t_36 :: z_t_37 :: z_t_38 :: z_t_39 :: z_t_40 :: z_t_41 :: z_t_42 :: z_t_43 :: z_t_44 :: z_t_45 :: z_t_46 :: z_t_47 :: z_t_48 :: z_t_49 :: z_t_50 :: z_t_51 :: z_t_52 :: z_t_53 :: z_t_54 :: z_t_55 :: z_t_56 :: z_t_57 :: z_t_58 :: z_t_59 :: z_t_60 :: []))) :: (h_t_has, .inl (k_t_has, 10, .inl t_has)) :: (h_t_us, .inl (k_t_us, 10, .inl t_us)) :: (h_t_vs, .inl (k_t_vs, 10, .inl t_vs)) :: (h_t_ds, .inl (k_t_ds, 10, .inl t_ds)) :: (h_t_digit, .inl (k_t_digit, 500, .inr (.inl t_digit))) :: (h_t_leftU, .inl (k_t_leftU, 401, .inr (.inl t_leftU))) :: (h_t_leftV, .inl (k_t_leftV, 401, .inr (.inl t_leftV))) :: R) H → va_D A ((h_t, .inr (12, (.int t_thrown :: z_t_1 :: z_t_2 :: .int t_a :: .int t_b :: .int t_root :: .ref h_t_has :: .ref h_t_us :: .ref h_t_vs :: .ref h_t_ds :: z_t_10 :: z_t_11 :: z_t_12 :: .int t_isTold :: .int t_result :: .int t_top :: .int t_ahead :: .int t_round :: .int t_digitMany :: .ref h_t_digit :: .ref h_t_leftU :: .ref h_t_leftV :: z_t_22 :: z_t_23 :: z_t_24 :: z_t_25 :: z_t_26 :: z_t_27 :: z_t_28 :: z_t_29 :: z_t_30 :: z_t_31 :: z_t_32 :: z_t_33 :: z_t_34 :: z_t_35 :: z_t_36 :: z_t_37 :: z_t_38 :: z_t_39 :: z_t_40 :: z_t_41 :: z_t_42 :: z_t_43 :: z_t_44 :: z_t_45 :: z_t_46 :: z_t_47 :: z_t_48 :: z_t_49 :: z_t_50 :: z_t_51 :: z_t_52 :: z_t_53 :: z_t_54 :: z_t_55 :: z_t_56 :: z_t_57 :: z_t_58 :: z_t_59 :: z_t_60 :: []))) :: (h_t_has, .inl (k_t_has, 10, .inl t_has)) :: (h_t_us, .inl (k_t_us, 10, .inl t_us)) :: (h_t_vs, .inl (k_t_vs, 10, .inl t_vs)) :: (h_t_ds, .inl (k_t_ds, 10, .inl t_ds)) :: (h_t_digit, .inl (k_t_digit, 500, .inr (.inl t_digit))) :: (h_t_leftU, .inl (k_t_leftU, 401, .inr (.inl t_leftU))) :: (h_t_leftV, .inl (k_t_leftV, 401, .inr (.inl t_leftV))) :: R) → va_S A s.heap H locs → lv_has ls 11 [(0, .ref h_t), (2, .long l2), (4, .int l4), (5, .long x5), (7, .long l7), (9, .long x9)] → W p l e { frames := 2, cells := 0, slots := 0, locals := 67 } s m args below meth c H locs 0 0 Q (F0 m 270 ls [])) → W p l e { frames := 2, cells := 0, slots := 0, locals := 67 } s m args below meth c H locs 0 0 Q (F0 m 242 ls []) := by
    intro Q n
    induction n with
    | zero =>
      intro l2 l4 l5 l7 l9 t_thrown t_isTold t_result t_top t_ahead t_round t_digitMany t_digit t_leftU t_leftV x5 x9 h
      rw [f_X12_digits_L242] at h; cases h
    | succ n ih =>
      intro l2 l4 l5 l7 l9 t_thrown t_isTold t_result t_top t_ahead t_round t_digitMany t_digit t_leftU t_leftV x5 x9 h H locs ls hP hD hS hl kk0
      rw [f_X12_digits_L242] at h
      refine lv_aload_n hx hb dX12_digits_242 rfl (lv_at hl 0 rfl) ?_
      refine lv_lload hx hb dX12_digits_243 (lv_at hl 3 rfl) ?_
      refine lv_lload_n hx hb dX12_digits_245 rfl (lv_at hl 1 rfl) ?_
      refine lv_lsub hx hb dX12_digits_246 ?_
      refine lv_lload hx hb dX12_digits_247 (lv_at hl 4 rfl) ?_
      obtain ⟨r_c249_26, e_c249_26, h⟩ := bnd1_ok h
      refine cl_i (rn_v (ci := 12) (As := [.long (l5 - l2), .long l7]) (rest := []) S (c_X12_sign l D ((h_t_has, .inl (k_t_has, 10, .inl t_has)) :: (h_t_us, .inl (k_t_us, 10, .inl t_us)) :: (h_t_vs, .inl (k_t_vs, 10, .inl t_vs)) :: (h_t_ds, .inl (k_t_ds, 10, .inl t_ds)) :: (h_t_digit, .inl (k_t_digit, 500, .inr (.inl t_digit))) :: (h_t_leftU, .inl (k_t_leftU, 401, .inr (.inl t_leftU))) :: (h_t_leftV, .inl (k_t_leftV, 401, .inr (.inl t_leftV))) :: R) h_t (.int t_thrown) (z_t_1) (z_t_2) t_a (.int t_b) t_root (.ref h_t_has) (.ref h_t_us) (.ref h_t_vs) (.ref h_t_ds) (z_t_10) (z_t_11) (z_t_12) (.int t_isTold) (.int t_result) (.int t_top) (.int t_ahead) (.int t_round) (.int t_digitMany) (.ref h_t_digit) (.ref h_t_leftU) (.ref h_t_leftV) (z_t_22) (z_t_23) (z_t_24) (z_t_25) (z_t_26) (z_t_27) (z_t_28) (z_t_29) (z_t_30) (z_t_31) (z_t_32) (z_t_33) (z_t_34) (z_t_35) (z_t_36) (z_t_37) (z_t_38) (z_t_39) (z_t_40) (z_t_41) (z_t_42) (z_t_43) (z_t_44) (z_t_45) (z_t_46) (z_t_47) (z_t_48) (z_t_49) (z_t_50) (z_t_51) (z_t_52) (z_t_53) (z_t_54) (z_t_55) (z_t_56) (z_t_57) (z_t_58) (z_t_59) (z_t_60) (l5 - l2) l7 r_c249_26 e_c249_26 _) q1222 q1224 q35 q61 q1225 nd_X12_sign ⟨Nat.le_of_ble_eq_true rfl, Nat.le_of_ble_eq_true rfl⟩ rfl rfl hP hD (hK.sub (tys' := []) [] rfl) hN rfl ⟨0, _, rfl⟩ rfl hl.1 rfl (Nat.le_of_ble_eq_true rfl) dX12_digits_249 ⟨Nat.le_of_ble_eq_true rfl, Nat.le_of_ble_eq_true rfl⟩) hS hA hD (fun H locs hP hD hS => ?_)
      have hP : va_P D vwCl ((h_t, .inr (12, (.int t_thrown :: z_t_1 :: z_t_2 :: .int t_a :: .int t_b :: .int t_root :: .ref h_t_has :: .ref h_t_us :: .ref h_t_vs :: .ref h_t_ds :: z_t_10 :: z_t_11 :: z_t_12 :: .int t_isTold :: .int t_result :: .int t_top :: .int t_ahead :: .int t_round :: .int t_digitMany :: .ref h_t_digit :: .ref h_t_leftU :: .ref h_t_leftV :: z_t_22 :: z_t_23 :: z_t_24 :: z_t_25 :: z_t_26 :: z_t_27 :: z_t_28 :: z_t_29 :: z_t_30 :: z_t_31 :: z_t_32 :: z_t_33 :: z_t_34 :: z_t_35 :: z_t_36 :: z_t_37 :: z_t_38 :: z_t_39 :: z_t_40 :: z_t_41 :: z_t_42 :: z_t_43 :: z_t_44 :: z_t_45 :: z_t_46 :: z_t_47 :: z_t_48 :: z_t_49 :: z_t_50 :: z_t_51 :: z_t_52 :: z_t_53 :: z_t_54 :: z_t_55 :: z_t_56 :: z_t_57 :: z_t_58 :: z_t_59 :: z_t_60 :: []))) :: (h_t_has, .inl (k_t_has, 10, .inl t_has)) :: (h_t_us, .inl (k_t_us, 10, .inl t_us)) :: (h_t_vs, .inl (k_t_vs, 10, .inl t_vs)) :: (h_t_ds, .inl (k_t_ds, 10, .inl t_ds)) :: (h_t_digit, .inl (k_t_digit, 500, .inr (.inl t_digit))) :: (h_t_leftU, .inl (k_t_leftU, 401, .inr (.inl t_leftU))) :: (h_t_leftV, .inl (k_t_leftV, 401, .inr (.inl t_leftV))) :: R) H := hP
      have hD : va_D A ((h_t, .inr (12, (.int t_thrown :: z_t_1 :: z_t_2 :: .int t_a :: .int t_b :: .int t_root :: .ref h_t_has :: .ref h_t_us :: .ref h_t_vs :: .ref h_t_ds :: z_t_10 :: z_t_11 :: z_t_12 :: .int t_isTold :: .int t_result :: .int t_top :: .int t_ahead :: .int t_round :: .int t_digitMany :: .ref h_t_digit :: .ref h_t_leftU :: .ref h_t_leftV :: z_t_22 :: z_t_23 :: z_t_24 :: z_t_25 :: z_t_26 :: z_t_27 :: z_t_28 :: z_t_29 :: z_t_30 :: z_t_31 :: z_t_32 :: z_t_33 :: z_t_34 :: z_t_35 :: z_t_36 :: z_t_37 :: z_t_38 :: z_t_39 :: z_t_40 :: z_t_41 :: z_t_42 :: z_t_43 :: z_t_44 :: z_t_45 :: z_t_46 :: z_t_47 :: z_t_48 :: z_t_49 :: z_t_50 :: z_t_51 :: z_t_52 :: z_t_53 :: z_t_54 :: z_t_55 :: z_t_56 :: z_t_57 :: z_t_58 :: z_t_59 :: z_t_60 :: []))) :: (h_t_has, .inl (k_t_has, 10, .inl t_has)) :: (h_t_us, .inl (k_t_us, 10, .inl t_us)) :: (h_t_vs, .inl (k_t_vs, 10, .inl t_vs)) :: (h_t_ds, .inl (k_t_ds, 10, .inl t_ds)) :: (h_t_digit, .inl (k_t_digit, 500, .inr (.inl t_digit))) :: (h_t_leftU, .inl (k_t_leftU, 401, .inr (.inl t_leftU))) :: (h_t_leftV, .inl (k_t_leftV, 401, .inr (.inl t_leftV))) :: R) := hD
      refine lv_if_lt (tgt := 270) hx hb dX12_digits_252 (by decide) (fun c28 => ?_) (fun c28 => ?_)
      · have h := br_pos c28 h
        cases h
        exact kk0 _ _ _ hP hD hS (lv_sub hl [0, 1, 2, 3, 4, 5] rfl)
      · have h := br_neg c28 h
        refine lv_lload hx hb dX12_digits_255 (lv_at hl 3 rfl) ?_
        refine lv_lload_n hx hb dX12_digits_257 rfl (lv_at hl 1 rfl) ?_
        refine lv_lsub hx hb dX12_digits_258 ?_
        refine lv_lstore (lv' := [(5, .long (l5 - l2)), (0, .ref h_t), (2, .long l2), (4, .int l4), (7, .long l7), (9, .long l9)]) hx hb dX12_digits_259 hl (by decide) rfl (fun ls hl => ?_)
        refine lv_lload hx hb dX12_digits_261 (lv_at hl 5 rfl) ?_
        refine lv_lconst (v := 1) hx hb dX12_digits_263 (by decide) ?_
        refine lv_ladd hx hb dX12_digits_264 ?_
        refine lv_lstore (lv' := [(9, .long (l9 + 1)), (5, .long (l5 - l2)), (0, .ref h_t), (2, .long l2), (4, .int l4), (7, .long l7)]) hx hb dX12_digits_265 hl (by decide) rfl (fun ls hl => ?_)
        refine lv_goto (tgt := 242) hx hb dX12_digits_267 (by decide) ?_
        exact ih l2 l4 (l5 - l2) l7 (l9 + 1) t_thrown t_isTold t_result t_top t_ahead t_round t_digitMany t_digit t_leftU t_leftV _ _ h _ _ _ hP hD hS (lv_sub hl [2, 3, 4, 1, 5, 0] rfl) kk0
  have L76 : ∀ (Q : State → Prop) (n : Nat) (l2 : Int64) (l4 : Int32) (t_thrown : Int32) (t_isTold : Int32) (t_result : Int32) (t_top : Int32) (t_ahead : Int32) (t_round : Int32) (t_digitMany : Int32) (t_digit : Nat → Int64) (t_leftU : Nat → Int64) (t_leftV : Nat → Int64) (tg : Nat) (x4 : Int32) (x5 : Int32) (x_t_ahead : Int32) (x_t_digitMany : Int32) (x_t_digit : Nat → Int64) (x_t_leftU : Nat → Int64) (x_t_leftV : Nat → Int64), f_X12_digits_L76 l2 t_a t_b t_root n l4 t_ahead t_digitMany t_digit t_leftU t_leftV = some (tg, x4, x5, x_t_ahead, x_t_digitMany, x_t_digit, x_t_leftU, x_t_leftV) → ∀ (H : Heap) (locs : List Loc) (ls : Array Slot), va_P D vwCl ((h_t, .inr (12, (.int t_thrown :: z_t_1 :: z_t_2 :: .int t_a :: .int t_b :: .int t_root :: .ref h_t_has :: .ref h_t_us :: .ref h_t_vs :: .ref h_t_ds :: z_t_10 :: z_t_11 :: z_t_12 :: .int t_isTold :: .int t_result :: .int t_top :: .int t_ahead :: .int t_round :: .int t_digitMany :: .ref h_t_digit :: .ref h_t_leftU :: .ref h_t_leftV :: z_t_22 :: z_t_23 :: z_t_24 :: z_t_25 :: z_t_26 :: z_t_27 :: z_t_28 :: z_t_29 :: z_t_30 :: z_t_31 :: z_t_32 :: z_t_33 :: z_t_34 :: z_t_35 :: z_t_36 :: z_t_37 :: z_t_38 :: z_t_39 :: z_t_40 :: z_t_41 :: z_t_42 :: z_t_43 :: z_t_44 :: z_t_45 :: z_t_46 :: z_t_47 :: z_t_48 :: z_t_49 :: z_t_50 :: z_t_51 :: z_t_52 :: z_t_53 :: z_t_54 :: z_t_55 :: z_t_56 :: z_t_57 :: z_t_58 :: z_t_59 :: z_t_60 :: []))) :: (h_t_has, .inl (k_t_has, 10, .inl t_has)) :: (h_t_us, .inl (k_t_us, 10, .inl t_us)) :: (h_t_vs, .inl (k_t_vs, 10, .inl t_vs)) :: (h_t_ds, .inl (k_t_ds, 10, .inl t_ds)) :: (h_t_digit, .inl (k_t_digit, 500, .inr (.inl t_digit))) :: (h_t_leftU, .inl (k_t_leftU, 401, .inr (.inl t_leftU))) :: (h_t_leftV, .inl (k_t_leftV, 401, .inr (.inl t_leftV))) :: R) H → va_D A ((h_t, .inr (12, (.int t_thrown :: z_t_1 :: z_t_2 :: .int t_a :: .int t_b :: .int t_root :: .ref h_t_has :: .ref h_t_us :: .ref h_t_vs :: .ref h_t_ds :: z_t_10 :: z_t_11 :: z_t_12 :: .int t_isTold :: .int t_result :: .int t_top :: .int t_ahead :: .int t_round :: .int t_digitMany :: .ref h_t_digit :: .ref h_t_leftU :: .ref h_t_leftV :: z_t_22 :: z_t_23 :: z_t_24 :: z_t_25 :: z_t_26 :: z_t_27 :: z_t_28 :: z_t_29 :: z_t_30 :: z_t_31 :: z_t_32 :: z_t_33 :: z_t_34 :: z_t_35 :: z_t_36 :: z_t_37 :: z_t_38 :: z_t_39 :: z_t_40 :: z_t_41 :: z_t_42 :: z_t_43 :: z_t_44 :: z_t_45 :: z_t_46 :: z_t_47 :: z_t_48 :: z_t_49 :: z_t_50 :: z_t_51 :: z_t_52 :: z_t_53 :: z_t_54 :: z_t_55 :: z_t_56 :: z_t_57 :: z_t_58 :: z_t_59 :: z_t_60 :: []))) :: (h_t_has, .inl (k_t_has, 10, .inl t_has)) :: (h_t_us, .inl (k_t_us, 10, .inl t_us)) :: (h_t_vs, .inl (k_t_vs, 10, .inl t_vs)) :: (h_t_ds, .inl (k_t_ds, 10, .inl t_ds)) :: (h_t_digit, .inl (k_t_digit, 500, .inr (.inl t_digit))) :: (h_t_leftU, .inl (k_t_leftU, 401, .inr (.inl t_leftU))) :: (h_t_leftV, .inl (k_t_leftV, 401, .inr (.inl t_leftV))) :: R) → va_S A s.heap H locs → lv_has ls 11 [(0, .ref h_t), (2, .long l2), (4, .int l4)] → (tg = 0 → ∀ (H : Heap) (locs : List Loc) (ls : Array Slot), va_P D vwCl ((h_t, .inr (12, (.int t_thrown :: z_t_1 :: z_t_2 :: .int t_a :: .int t_b :: .int t_root :: .ref h_t_has :: .ref h_t_us :: .ref h_t_vs :: .ref h_t_ds :: z_t_10 :: z_t_11 :: z_t_12 :: .int t_isTold :: .int t_result :: .int t_top :: .int x_t_ahead :: .int t_round :: .int x_t_digitMany :: .ref h_t_digit :: .ref h_t_leftU :: .ref h_t_leftV :: z_t_22 :: z_t_23 :: z_t_24 :: z_t_25 :: z_t_26 :: z_t_27 :: z_t_28 :: z_t_29 :: z_t_30 :: z_t_31 :: z_t_32 :: z_t_33 :: z_t_34 :: z_t_35 :: z_t_36 :: z_t_37 :: z_t_38 :: z_t_39 :: z_t_40 :: z_t_41 :: z_t_42 :: z_t_43 :: z_t_44 :: z_t_45 :: z_t_46 :: z_t_47 :: z_t_48 :: z_t_49 :: z_t_50 :: z_t_51 :: z_t_52 :: z_t_53 :: z_t_54 :: z_t_55 :: z_t_56 :: z_t_57 :: z_t_58 :: z_t_59 :: z_t_60 :: []))) :: (h_t_has, .inl (k_t_has, 10, .inl t_has)) :: (h_t_us, .inl (k_t_us, 10, .inl t_us)) :: (h_t_vs, .inl (k_t_vs, 10, .inl t_vs)) :: (h_t_ds, .inl (k_t_ds, 10, .inl t_ds)) :: (h_t_digit, .inl (k_t_digit, 500, .inr (.inl x_t_digit))) :: (h_t_leftU, .inl (k_t_leftU, 401, .inr (.inl x_t_leftU))) :: (h_t_leftV, .inl (k_t_leftV, 401, .inr (.inl x_t_leftV))) :: R) H → va_D A ((h_t, .inr (12, (.int t_thrown :: z_t_1 :: z_t_2 :: .int t_a :: .int t_b :: .int t_root :: .ref h_t_has :: .ref h_t_us :: .ref h_t_vs :: .ref h_t_ds :: z_t_10 :: z_t_11 :: z_t_12 :: .int t_isTold :: .int t_result :: .int t_top :: .int x_t_ahead :: .int t_round :: .int x_t_digitMany :: .ref h_t_digit :: .ref h_t_leftU :: .ref h_t_leftV :: z_t_22 :: z_t_23 :: z_t_24 :: z_t_25 :: z_t_26 :: z_t_27 :: z_t_28 :: z_t_29 :: z_t_30 :: z_t_31 :: z_t_32 :: z_t_33 :: z_t_34 :: z_t_35 :: z_t_36 :: z_t_37 :: z_t_38 :: z_t_39 :: z_t_40 :: z_t_41 :: z_t_42 :: z_t_43 :: z_t_44 :: z_t_45 :: z_t_46 :: z_t_47 :: z_t_48 :: z_t_49 :: z_t_50 :: z_t_51 :: z_t_52 :: z_t_53 :: z_t_54 :: z_t_55 :: z_t_56 :: z_t_57 :: z_t_58 :: z_t_59 :: z_t_60 :: []))) :: (h_t_has, .inl (k_t_has, 10, .inl t_has)) :: (h_t_us, .inl (k_t_us, 10, .inl t_us)) :: (h_t_vs, .inl (k_t_vs, 10, .inl t_vs)) :: (h_t_ds, .inl (k_t_ds, 10, .inl t_ds)) :: (h_t_digit, .inl (k_t_digit, 500, .inr (.inl x_t_digit))) :: (h_t_leftU, .inl (k_t_leftU, 401, .inr (.inl x_t_leftU))) :: (h_t_leftV, .inl (k_t_leftV, 401, .inr (.inl x_t_leftV))) :: R) → va_S A s.heap H locs → lv_has ls 11 [(0, .ref h_t)] → W p l e { frames := 2, cells := 0, slots := 0, locals := 67 } s m args below meth c H locs 0 0 Q (F0 m 106 ls [])) → (tg = 1 → ∀ (H : Heap) (locs : List Loc) (ls : Array Slot), va_P D vwCl ((h_t, .inr (12, (.int t_thrown :: z_t_1 :: z_t_2 :: .int t_a :: .int t_b :: .int t_root :: .ref h_t_has :: .ref h_t_us :: .ref h_t_vs :: .ref h_t_ds :: z_t_10 :: z_t_11 :: z_t_12 :: .int t_isTold :: .int t_result :: .int t_top :: .int x_t_ahead :: .int t_round :: .int x_t_digitMany :: .ref h_t_digit :: .ref h_t_leftU :: .ref h_t_leftV :: z_t_22 :: z_t_23 :: z_t_24 :: z_t_25 :: z_t_26 :: z_t_27 :: z_t_28 :: z_t_29 :: z_t_30 :: z_t_31 :: z_t_32 :: z_t_33 :: z_t_34 :: z_t_35 :: z_t_36 :: z_t_37 :: z_t_38 :: z_t_39 :: z_t_40 :: z_t_41 :: z_t_42 :: z_t_43 :: z_t_44 :: z_t_45 :: z_t_46 :: z_t_47 :: z_t_48 :: z_t_49 :: z_t_50 :: z_t_51 :: z_t_52 :: z_t_53 :: z_t_54 :: z_t_55 :: z_t_56 :: z_t_57 :: z_t_58 :: z_t_59 :: z_t_60 :: []))) :: (h_t_has, .inl (k_t_has, 10, .inl t_has)) :: (h_t_us, .inl (k_t_us, 10, .inl t_us)) :: (h_t_vs, .inl (k_t_vs, 10, .inl t_vs)) :: (h_t_ds, .inl (k_t_ds, 10, .inl t_ds)) :: (h_t_digit, .inl (k_t_digit, 500, .inr (.inl x_t_digit))) :: (h_t_leftU, .inl (k_t_leftU, 401, .inr (.inl x_t_leftU))) :: (h_t_leftV, .inl (k_t_leftV, 401, .inr (.inl x_t_leftV))) :: R) H → va_D A ((h_t, .inr (12, (.int t_thrown :: z_t_1 :: z_t_2 :: .int t_a :: .int t_b :: .int t_root :: .ref h_t_has :: .ref h_t_us :: .ref h_t_vs :: .ref h_t_ds :: z_t_10 :: z_t_11 :: z_t_12 :: .int t_isTold :: .int t_result :: .int t_top :: .int x_t_ahead :: .int t_round :: .int x_t_digitMany :: .ref h_t_digit :: .ref h_t_leftU :: .ref h_t_leftV :: z_t_22 :: z_t_23 :: z_t_24 :: z_t_25 :: z_t_26 :: z_t_27 :: z_t_28 :: z_t_29 :: z_t_30 :: z_t_31 :: z_t_32 :: z_t_33 :: z_t_34 :: z_t_35 :: z_t_36 :: z_t_37 :: z_t_38 :: z_t_39 :: z_t_40 :: z_t_41 :: z_t_42 :: z_t_43 :: z_t_44 :: z_t_45 :: z_t_46 :: z_t_47 :: z_t_48 :: z_t_49 :: z_t_50 :: z_t_51 :: z_t_52 :: z_t_53 :: z_t_54 :: z_t_55 :: z_t_56 :: z_t_57 :: z_t_58 :: z_t_59 :: z_t_60 :: []))) :: (h_t_has, .inl (k_t_has, 10, .inl t_has)) :: (h_t_us, .inl (k_t_us, 10, .inl t_us)) :: (h_t_vs, .inl (k_t_vs, 10, .inl t_vs)) :: (h_t_ds, .inl (k_t_ds, 10, .inl t_ds)) :: (h_t_digit, .inl (k_t_digit, 500, .inr (.inl x_t_digit))) :: (h_t_leftU, .inl (k_t_leftU, 401, .inr (.inl x_t_leftU))) :: (h_t_leftV, .inl (k_t_leftV, 401, .inr (.inl x_t_leftV))) :: R) → va_S A s.heap H locs → lv_has ls 11 [(0, .ref h_t), (4, .int x4), (5, .int x5)] → W p l e { frames := 2, cells := 0, slots := 0, locals := 67 } s m args below meth c H locs 0 0 Q (F0 m 162 ls [])) → (tg = 2 → ∀ (H : Heap) (locs : List Loc) (ls : Array Slot), va_P D vwCl ((h_t, .inr (12, (.int t_thrown :: z_t_1 :: z_t_2 :: .int t_a :: .int t_b :: .int t_root :: .ref h_t_has :: .ref h_t_us :: .ref h_t_vs :: .ref h_t_ds :: z_t_10 :: z_t_11 :: z_t_12 :: .int t_isTold :: .int t_result :: .int t_top :: .int x_t_ahead :: .int t_round :: .int x_t_digitMany :: .ref h_t_digit :: .ref h_t_leftU :: .ref h_t_leftV :: z_t_22 :: z_t_23 :: z_t_24 :: z_t_25 :: z_t_26 :: z_t_27 :: z_t_28 :: z_t_29 :: z_t_30 :: z_t_31 :: z_t_32 :: z_t_33 :: z_t_34 :: z_t_35 :: z_t_36 :: z_t_37 :: z_t_38 :: z_t_39 :: z_t_40 :: z_t_41 :: z_t_42 :: z_t_43 :: z_t_44 :: z_t_45 :: z_t_46 :: z_t_47 :: z_t_48 :: z_t_49 :: z_t_50 :: z_t_51 :: z_t_52 :: z_t_53 :: z_t_54 :: z_t_55 :: z_t_56 :: z_t_57 :: z_t_58 :: z_t_59 :: z_t_60 :: []))) :: (h_t_has, .inl (k_t_has, 10, .inl t_has)) :: (h_t_us, .inl (k_t_us, 10, .inl t_us)) :: (h_t_vs, .inl (k_t_vs, 10, .inl t_vs)) :: (h_t_ds, .inl (k_t_ds, 10, .inl t_ds)) :: (h_t_digit, .inl (k_t_digit, 500, .inr (.inl x_t_digit))) :: (h_t_leftU, .inl (k_t_leftU, 401, .inr (.inl x_t_leftU))) :: (h_t_leftV, .inl (k_t_leftV, 401, .inr (.inl x_t_leftV))) :: R) H → va_D A ((h_t, .inr (12, (.int t_thrown :: z_t_1 :: z_t_2 :: .int t_a :: .int t_b :: .int t_root :: .ref h_t_has :: .ref h_t_us :: .ref h_t_vs :: .ref h_t_ds :: z_t_10 :: z_t_11 :: z_t_12 :: .int t_isTold :: .int t_result :: .int t_top :: .int x_t_ahead :: .int t_round :: .int x_t_digitMany :: .ref h_t_digit :: .ref h_t_leftU :: .ref h_t_leftV :: z_t_22 :: z_t_23 :: z_t_24 :: z_t_25 :: z_t_26 :: z_t_27 :: z_t_28 :: z_t_29 :: z_t_30 :: z_t_31 :: z_t_32 :: z_t_33 :: z_t_34 :: z_t_35 :: z_t_36 :: z_t_37 :: z_t_38 :: z_t_39 :: z_t_40 :: z_t_41 :: z_t_42 :: z_t_43 :: z_t_44 :: z_t_45 :: z_t_46 :: z_t_47 :: z_t_48 :: z_t_49 :: z_t_50 :: z_t_51 :: z_t_52 :: z_t_53 :: z_t_54 :: z_t_55 :: z_t_56 :: z_t_57 :: z_t_58 :: z_t_59 :: z_t_60 :: []))) :: (h_t_has, .inl (k_t_has, 10, .inl t_has)) :: (h_t_us, .inl (k_t_us, 10, .inl t_us)) :: (h_t_vs, .inl (k_t_vs, 10, .inl t_vs)) :: (h_t_ds, .inl (k_t_ds, 10, .inl t_ds)) :: (h_t_digit, .inl (k_t_digit, 500, .inr (.inl x_t_digit))) :: (h_t_leftU, .inl (k_t_leftU, 401, .inr (.inl x_t_leftU))) :: (h_t_leftV, .inl (k_t_leftV, 401, .inr (.inl x_t_leftV))) :: R) → va_S A s.heap H locs → lv_has ls 11 [(0, .ref h_t)] → W p l e { frames := 2, cells := 0, slots := 0, locals := 67 } s m args below meth c H locs 0 0 Q (F0 m 198 ls [])) → W p l e { frames := 2, cells := 0, slots := 0, locals := 67 } s m args below meth c H locs 0 0 Q (F0 m 76 ls []) := by
    intro Q n
    induction n with
    | zero =>
      intro l2 l4 t_thrown t_isTold t_result t_top t_ahead t_round t_digitMany t_digit t_leftU t_leftV tg x4 x5 x_t_ahead x_t_digitMany x_t_digit x_t_leftU x_t_leftV h
      rw [f_X12_digits_L76] at h; cases h
    | succ n ih =>
      intro l2 l4 t_thrown t_isTold t_result t_top t_ahead t_round t_digitMany t_digit t_leftU t_leftV tg x4 x5 x_t_ahead x_t_digitMany x_t_digit x_t_leftU x_t_leftV h H locs ls hP hD hS hl kk0 kk1 kk2
      rw [f_X12_digits_L76] at h
      refine lv_aload_n hx hb dX12_digits_76 rfl (lv_at hl 0 rfl) ?_
      refine lv_iload hx hb dX12_digits_77 (lv_at hl 2 rfl) ?_
      refine va_put (D := D) (ci := 12) (v := .int l4) (ty := .int) (C := RX12) (T := TX12) (N := 61) hx hb ha ix12 tyX12 tyX12_ok nmX12 hown hK hP hD hS 0 rfl rfl 16 (by decide) (ha _ q976) (fun _ h9 => h9) rfl (by decide +kernel) rfl rfl (Nat.le_of_ble_eq_true rfl) dX12_digits_79 (fun H locs hP hD hS => ?_)
      have hP : va_P D vwCl ((h_t, .inr (12, (.int t_thrown :: z_t_1 :: z_t_2 :: .int t_a :: .int t_b :: .int t_root :: .ref h_t_has :: .ref h_t_us :: .ref h_t_vs :: .ref h_t_ds :: z_t_10 :: z_t_11 :: z_t_12 :: .int t_isTold :: .int t_result :: .int t_top :: .int l4 :: .int t_round :: .int t_digitMany :: .ref h_t_digit :: .ref h_t_leftU :: .ref h_t_leftV :: z_t_22 :: z_t_23 :: z_t_24 :: z_t_25 :: z_t_26 :: z_t_27 :: z_t_28 :: z_t_29 :: z_t_30 :: z_t_31 :: z_t_32 :: z_t_33 :: z_t_34 :: z_t_35 :: z_t_36 :: z_t_37 :: z_t_38 :: z_t_39 :: z_t_40 :: z_t_41 :: z_t_42 :: z_t_43 :: z_t_44 :: z_t_45 :: z_t_46 :: z_t_47 :: z_t_48 :: z_t_49 :: z_t_50 :: z_t_51 :: z_t_52 :: z_t_53 :: z_t_54 :: z_t_55 :: z_t_56 :: z_t_57 :: z_t_58 :: z_t_59 :: z_t_60 :: []))) :: (h_t_has, .inl (k_t_has, 10, .inl t_has)) :: (h_t_us, .inl (k_t_us, 10, .inl t_us)) :: (h_t_vs, .inl (k_t_vs, 10, .inl t_vs)) :: (h_t_ds, .inl (k_t_ds, 10, .inl t_ds)) :: (h_t_digit, .inl (k_t_digit, 500, .inr (.inl t_digit))) :: (h_t_leftU, .inl (k_t_leftU, 401, .inr (.inl t_leftU))) :: (h_t_leftV, .inl (k_t_leftV, 401, .inr (.inl t_leftV))) :: R) H := hP
      have hD : va_D A ((h_t, .inr (12, (.int t_thrown :: z_t_1 :: z_t_2 :: .int t_a :: .int t_b :: .int t_root :: .ref h_t_has :: .ref h_t_us :: .ref h_t_vs :: .ref h_t_ds :: z_t_10 :: z_t_11 :: z_t_12 :: .int t_isTold :: .int t_result :: .int t_top :: .int l4 :: .int t_round :: .int t_digitMany :: .ref h_t_digit :: .ref h_t_leftU :: .ref h_t_leftV :: z_t_22 :: z_t_23 :: z_t_24 :: z_t_25 :: z_t_26 :: z_t_27 :: z_t_28 :: z_t_29 :: z_t_30 :: z_t_31 :: z_t_32 :: z_t_33 :: z_t_34 :: z_t_35 :: z_t_36 :: z_t_37 :: z_t_38 :: z_t_39 :: z_t_40 :: z_t_41 :: z_t_42 :: z_t_43 :: z_t_44 :: z_t_45 :: z_t_46 :: z_t_47 :: z_t_48 :: z_t_49 :: z_t_50 :: z_t_51 :: z_t_52 :: z_t_53 :: z_t_54 :: z_t_55 :: z_t_56 :: z_t_57 :: z_t_58 :: z_t_59 :: z_t_60 :: []))) :: (h_t_has, .inl (k_t_has, 10, .inl t_has)) :: (h_t_us, .inl (k_t_us, 10, .inl t_us)) :: (h_t_vs, .inl (k_t_vs, 10, .inl t_vs)) :: (h_t_ds, .inl (k_t_ds, 10, .inl t_ds)) :: (h_t_digit, .inl (k_t_digit, 500, .inr (.inl t_digit))) :: (h_t_leftU, .inl (k_t_leftU, 401, .inr (.inl t_leftU))) :: (h_t_leftV, .inl (k_t_leftV, 401, .inr (.inl t_leftV))) :: R) := hD
      refine lv_aload_n hx hb dX12_digits_82 rfl (lv_at hl 0 rfl) ?_
      refine va_get (D := D) (ci := 12) (v := .ref h_t_leftU) (C := RX12) (T := TX12) (N := 61) hx hb ha ix12 hown hK hP 0 rfl rfl 20 (by decide) (ha _ q980) (fun _ h9 => h9) rfl dX12_digits_83 ?_
      refine lv_iload hx hb dX12_digits_86 (lv_at hl 2 rfl) ?_
      obtain ⟨i11, h⟩ := ix_ok h
      refine va_lald hx hb hK hP 6 5 rfl rfl i11 dX12_digits_88 ?_
      refine lv_lconst (v := 0) hx hb dX12_digits_89 (by decide) ?_
      refine xl_ne (tgt := 113) hx hb dX12_digits_90 dX12_digits_91 (by decide) (fun c12 => ?_) (fun c12 => ?_)
      · have h := br_neg c12 h
        refine lv_iconst (v := 0) hx hb dX12_digits_113 (by decide) ?_
        refine lv_istore (lv' := [(5, .int 0), (0, .ref h_t), (2, .long l2), (4, .int l4)]) hx hb dX12_digits_114 hl (by decide) rfl (fun ls hl => ?_)
        obtain ⟨tg_L116_32, x5_L116_32, e_L116_32, h⟩ := bnd2_ok h
        refine L116 _ _ l2 l4 0 t_thrown t_isTold t_result t_top l4 t_round t_digitMany t_digit t_leftU t_leftV tg_L116_32 x5_L116_32 e_L116_32 _ _ _ hP hD hS (lv_sub hl [1, 2, 3, 0] rfl) ?_ ?_
        · intro q9 H locs ls hP hD hS hl
          have h := br_pos q9 h
          cases h
          exact kk1 rfl _ _ _ hP hD hS (lv_sub hl [0, 1, 2] rfl)
        · intro q9 H locs ls hP hD hS hl
          have h := br_neg (by rw [q9]; decide) h
          refine lv_iload hx hb dX12_digits_190 (lv_at hl 2 rfl) ?_
          refine lv_sipush (v := 400) hx hb dX12_digits_192 (by decide) ?_
          refine lv_icmp_ne (tgt := 201) hx hb dX12_digits_195 (by decide) (fun c34 => ?_) (fun c34 => ?_)
          · have h := br_neg c34 h
            refine lv_aload_n hx hb dX12_digits_201 rfl (lv_at hl 0 rfl) ?_
            refine va_get (D := D) (ci := 12) (v := .ref h_t_leftV) (C := RX12) (T := TX12) (N := 61) hx hb ha ix12 hown hK hP 0 rfl rfl 21 (by decide) (ha _ q981) (fun _ h9 => h9) rfl dX12_digits_202 ?_
            refine lv_iload hx hb dX12_digits_205 (lv_at hl 2 rfl) ?_
            obtain ⟨i35, h⟩ := ix_ok h
            refine va_lald hx hb hK hP 7 6 rfl rfl i35 dX12_digits_207 ?_
            refine lv_aload_n hx hb dX12_digits_208 rfl (lv_at hl 0 rfl) ?_
            refine va_get (D := D) (ci := 12) (v := .int t_b) (C := RX12) (T := TX12) (N := 61) hx hb ha ix12 hown hK hP 0 rfl rfl 4 (by decide) (ha _ q964) (fun _ h9 => h9) rfl dX12_digits_209 ?_
            refine lv_i2l (v := t_b.toInt64) hx hb dX12_digits_212 rfl ?_
            refine lv_lmul hx hb dX12_digits_213 ?_
            refine lv_lstore (lv' := [(5, .long ((t_leftV l4.toNatClampNeg) * t_b.toInt64)), (0, .ref h_t), (2, .long l2), (4, .int l4)]) hx hb dX12_digits_214 hl (by decide) rfl (fun ls hl => ?_)
            refine lv_aload_n hx hb dX12_digits_216 rfl (lv_at hl 1 rfl) ?_
            refine va_get (D := D) (ci := 12) (v := .ref h_t_leftU) (C := RX12) (T := TX12) (N := 61) hx hb ha ix12 hown hK hP 0 rfl rfl 20 (by decide) (ha _ q980) (fun _ h9 => h9) rfl dX12_digits_217 ?_
            refine lv_iload hx hb dX12_digits_220 (lv_at hl 3 rfl) ?_
            obtain ⟨i36, h⟩ := ix_ok h
            refine va_lald hx hb hK hP 6 5 rfl rfl i36 dX12_digits_222 ?_
            refine lv_aload_n hx hb dX12_digits_223 rfl (lv_at hl 1 rfl) ?_
            refine va_get (D := D) (ci := 12) (v := .ref h_t_leftV) (C := RX12) (T := TX12) (N := 61) hx hb ha ix12 hown hK hP 0 rfl rfl 21 (by decide) (ha _ q981) (fun _ h9 => h9) rfl dX12_digits_224 ?_
            refine lv_iload hx hb dX12_digits_227 (lv_at hl 3 rfl) ?_
            obtain ⟨i37, h⟩ := ix_ok h
            refine va_lald hx hb hK hP 7 6 rfl rfl i37 dX12_digits_229 ?_
            refine lv_aload_n hx hb dX12_digits_230 rfl (lv_at hl 1 rfl) ?_
            refine va_get (D := D) (ci := 12) (v := .int t_a) (C := RX12) (T := TX12) (N := 61) hx hb ha ix12 hown hK hP 0 rfl rfl 3 (by decide) (ha _ q963) (fun _ h9 => h9) rfl dX12_digits_231 ?_
            refine lv_i2l (v := t_a.toInt64) hx hb dX12_digits_234 rfl ?_
            refine lv_lmul hx hb dX12_digits_235 ?_
            refine lv_ladd hx hb dX12_digits_236 ?_
            refine lv_lstore (lv' := [(7, .long ((t_leftU l4.toNatClampNeg) + ((t_leftV l4.toNatClampNeg) * t_a.toInt64))), (5, .long ((t_leftV l4.toNatClampNeg) * t_b.toInt64)), (0, .ref h_t), (2, .long l2), (4, .int l4)]) hx hb dX12_digits_237 hl (by decide) rfl (fun ls hl => ?_)
            refine lv_lconst (v := 0) hx hb dX12_digits_239 (by decide) ?_
            refine lv_lstore (lv' := [(9, .long 0), (7, .long ((t_leftU l4.toNatClampNeg) + ((t_leftV l4.toNatClampNeg) * t_a.toInt64))), (5, .long ((t_leftV l4.toNatClampNeg) * t_b.toInt64)), (0, .ref h_t), (2, .long l2), (4, .int l4)]) hx hb dX12_digits_240 hl (by decide) rfl (fun ls hl => ?_)
            obtain ⟨x5_L242_37, x9_L242_37, e_L242_37, h⟩ := bnd2_ok h
            refine L242 _ _ l2 l4 ((t_leftV l4.toNatClampNeg) * t_b.toInt64) ((t_leftU l4.toNatClampNeg) + ((t_leftV l4.toNatClampNeg) * t_a.toInt64)) 0 t_thrown t_isTold t_result t_top l4 t_round t_digitMany t_digit t_leftU t_leftV x5_L242_37 x9_L242_37 e_L242_37 _ _ _ hP hD hS (lv_sub hl [3, 4, 5, 2, 1, 0] rfl) ?_
            intro H locs ls hP hD hS hl
            refine lv_aload_n hx hb dX12_digits_270 rfl (lv_at hl 0 rfl) ?_
            refine va_get (D := D) (ci := 12) (v := .ref h_t_digit) (C := RX12) (T := TX12) (N := 61) hx hb ha ix12 hown hK hP 0 rfl rfl 19 (by decide) (ha _ q979) (fun _ h9 => h9) rfl dX12_digits_271 ?_
            refine lv_aload_n hx hb dX12_digits_274 rfl (lv_at hl 0 rfl) ?_
            refine va_get (D := D) (ci := 12) (v := .int t_digitMany) (C := RX12) (T := TX12) (N := 61) hx hb ha ix12 hown hK hP 0 rfl rfl 18 (by decide) (ha _ q978) (fun _ h9 => h9) rfl dX12_digits_275 ?_
            refine lv_lload hx hb dX12_digits_278 (lv_at hl 5 rfl) ?_
            obtain ⟨i39, h⟩ := ix_ok h
            refine va_last hx hb hK hP hD hS 5 4 rfl rfl i39 dX12_digits_280 (fun H locs hP hD hS => ?_)
            have hP : va_P D vwCl ((h_t, .inr (12, (.int t_thrown :: z_t_1 :: z_t_2 :: .int t_a :: .int t_b :: .int t_root :: .ref h_t_has :: .ref h_t_us :: .ref h_t_vs :: .ref h_t_ds :: z_t_10 :: z_t_11 :: z_t_12 :: .int t_isTold :: .int t_result :: .int t_top :: .int l4 :: .int t_round :: .int t_digitMany :: .ref h_t_digit :: .ref h_t_leftU :: .ref h_t_leftV :: z_t_22 :: z_t_23 :: z_t_24 :: z_t_25 :: z_t_26 :: z_t_27 :: z_t_28 :: z_t_29 :: z_t_30 :: z_t_31 :: z_t_32 :: z_t_33 :: z_t_34 :: z_t_35 :: z_t_36 :: z_t_37 :: z_t_38 :: z_t_39 :: z_t_40 :: z_t_41 :: z_t_42 :: z_t_43 :: z_t_44 :: z_t_45 :: z_t_46 :: z_t_47 :: z_t_48 :: z_t_49 :: z_t_50 :: z_t_51 :: z_t_52 :: z_t_53 :: z_t_54 :: z_t_55 :: z_t_56 :: z_t_57 :: z_t_58 :: z_t_59 :: z_t_60 :: []))) :: (h_t_has, .inl (k_t_has, 10, .inl t_has)) :: (h_t_us, .inl (k_t_us, 10, .inl t_us)) :: (h_t_vs, .inl (k_t_vs, 10, .inl t_vs)) :: (h_t_ds, .inl (k_t_ds, 10, .inl t_ds)) :: (h_t_digit, .inl (k_t_digit, 500, .inr (.inl (vp_updL t_digit t_digitMany.toNatClampNeg x9_L242_37)))) :: (h_t_leftU, .inl (k_t_leftU, 401, .inr (.inl t_leftU))) :: (h_t_leftV, .inl (k_t_leftV, 401, .inr (.inl t_leftV))) :: R) H := hP
            have hD : va_D A ((h_t, .inr (12, (.int t_thrown :: z_t_1 :: z_t_2 :: .int t_a :: .int t_b :: .int t_root :: .ref h_t_has :: .ref h_t_us :: .ref h_t_vs :: .ref h_t_ds :: z_t_10 :: z_t_11 :: z_t_12 :: .int t_isTold :: .int t_result :: .int t_top :: .int l4 :: .int t_round :: .int t_digitMany :: .ref h_t_digit :: .ref h_t_leftU :: .ref h_t_leftV :: z_t_22 :: z_t_23 :: z_t_24 :: z_t_25 :: z_t_26 :: z_t_27 :: z_t_28 :: z_t_29 :: z_t_30 :: z_t_31 :: z_t_32 :: z_t_33 :: z_t_34 :: z_t_35 :: z_t_36 :: z_t_37 :: z_t_38 :: z_t_39 :: z_t_40 :: z_t_41 :: z_t_42 :: z_t_43 :: z_t_44 :: z_t_45 :: z_t_46 :: z_t_47 :: z_t_48 :: z_t_49 :: z_t_50 :: z_t_51 :: z_t_52 :: z_t_53 :: z_t_54 :: z_t_55 :: z_t_56 :: z_t_57 :: z_t_58 :: z_t_59 :: z_t_60 :: []))) :: (h_t_has, .inl (k_t_has, 10, .inl t_has)) :: (h_t_us, .inl (k_t_us, 10, .inl t_us)) :: (h_t_vs, .inl (k_t_vs, 10, .inl t_vs)) :: (h_t_ds, .inl (k_t_ds, 10, .inl t_ds)) :: (h_t_digit, .inl (k_t_digit, 500, .inr (.inl (vp_updL t_digit t_digitMany.toNatClampNeg x9_L242_37)))) :: (h_t_leftU, .inl (k_t_leftU, 401, .inr (.inl t_leftU))) :: (h_t_leftV, .inl (k_t_leftV, 401, .inr (.inl t_leftV))) :: R) := hD
            refine lv_aload_n hx hb dX12_digits_281 rfl (lv_at hl 0 rfl) ?_
            refine lv_dup hx hb dX12_digits_282 rfl ?_
            refine va_get (D := D) (ci := 12) (v := .int t_digitMany) (C := RX12) (T := TX12) (N := 61) hx hb ha ix12 hown hK hP 0 rfl rfl 18 (by decide) (ha _ q978) (fun _ h9 => h9) rfl dX12_digits_283 ?_
            refine lv_iconst (v := 1) hx hb dX12_digits_286 (by decide) ?_
            refine lv_iadd hx hb dX12_digits_287 ?_
            refine va_put (D := D) (ci := 12) (v := .int (t_digitMany + 1)) (ty := .int) (C := RX12) (T := TX12) (N := 61) hx hb ha ix12 tyX12 tyX12_ok nmX12 hown hK hP hD hS 0 rfl rfl 18 (by decide) (ha _ q978) (fun _ h9 => h9) rfl (by decide +kernel) rfl rfl (Nat.le_of_ble_eq_true rfl) dX12_digits_288 (fun H locs hP hD hS => ?_)
            have hP : va_P D vwCl ((h_t, .inr (12, (.int t_thrown :: z_t_1 :: z_t_2 :: .int t_a :: .int t_b :: .int t_root :: .ref h_t_has :: .ref h_t_us :: .ref h_t_vs :: .ref h_t_ds :: z_t_10 :: z_t_11 :: z_t_12 :: .int t_isTold :: .int t_result :: .int t_top :: .int l4 :: .int t_round :: .int (t_digitMany + 1) :: .ref h_t_digit :: .ref h_t_leftU :: .ref h_t_leftV :: z_t_22 :: z_t_23 :: z_t_24 :: z_t_25 :: z_t_26 :: z_t_27 :: z_t_28 :: z_t_29 :: z_t_30 :: z_t_31 :: z_t_32 :: z_t_33 :: z_t_34 :: z_t_35 :: z_t_36 :: z_t_37 :: z_t_38 :: z_t_39 :: z_t_40 :: z_t_41 :: z_t_42 :: z_t_43 :: z_t_44 :: z_t_45 :: z_t_46 :: z_t_47 :: z_t_48 :: z_t_49 :: z_t_50 :: z_t_51 :: z_t_52 :: z_t_53 :: z_t_54 :: z_t_55 :: z_t_56 :: z_t_57 :: z_t_58 :: z_t_59 :: z_t_60 :: []))) :: (h_t_has, .inl (k_t_has, 10, .inl t_has)) :: (h_t_us, .inl (k_t_us, 10, .inl t_us)) :: (h_t_vs, .inl (k_t_vs, 10, .inl t_vs)) :: (h_t_ds, .inl (k_t_ds, 10, .inl t_ds)) :: (h_t_digit, .inl (k_t_digit, 500, .inr (.inl (vp_updL t_digit t_digitMany.toNatClampNeg x9_L242_37)))) :: (h_t_leftU, .inl (k_t_leftU, 401, .inr (.inl t_leftU))) :: (h_t_leftV, .inl (k_t_leftV, 401, .inr (.inl t_leftV))) :: R) H := hP
            have hD : va_D A ((h_t, .inr (12, (.int t_thrown :: z_t_1 :: z_t_2 :: .int t_a :: .int t_b :: .int t_root :: .ref h_t_has :: .ref h_t_us :: .ref h_t_vs :: .ref h_t_ds :: z_t_10 :: z_t_11 :: z_t_12 :: .int t_isTold :: .int t_result :: .int t_top :: .int l4 :: .int t_round :: .int (t_digitMany + 1) :: .ref h_t_digit :: .ref h_t_leftU :: .ref h_t_leftV :: z_t_22 :: z_t_23 :: z_t_24 :: z_t_25 :: z_t_26 :: z_t_27 :: z_t_28 :: z_t_29 :: z_t_30 :: z_t_31 :: z_t_32 :: z_t_33 :: z_t_34 :: z_t_35 :: z_t_36 :: z_t_37 :: z_t_38 :: z_t_39 :: z_t_40 :: z_t_41 :: z_t_42 :: z_t_43 :: z_t_44 :: z_t_45 :: z_t_46 :: z_t_47 :: z_t_48 :: z_t_49 :: z_t_50 :: z_t_51 :: z_t_52 :: z_t_53 :: z_t_54 :: z_t_55 :: z_t_56 :: z_t_57 :: z_t_58 :: z_t_59 :: z_t_60 :: []))) :: (h_t_has, .inl (k_t_has, 10, .inl t_has)) :: (h_t_us, .inl (k_t_us, 10, .inl t_us)) :: (h_t_vs, .inl (k_t_vs, 10, .inl t_vs)) :: (h_t_ds, .inl (k_t_ds, 10, .inl t_ds)) :: (h_t_digit, .inl (k_t_digit, 500, .inr (.inl (vp_updL t_digit t_digitMany.toNatClampNeg x9_L242_37)))) :: (h_t_leftU, .inl (k_t_leftU, 401, .inr (.inl t_leftU))) :: (h_t_leftV, .inl (k_t_leftV, 401, .inr (.inl t_leftV))) :: R) := hD
            refine lv_aload_n hx hb dX12_digits_291 rfl (lv_at hl 0 rfl) ?_
            refine va_get (D := D) (ci := 12) (v := .ref h_t_leftU) (C := RX12) (T := TX12) (N := 61) hx hb ha ix12 hown hK hP 0 rfl rfl 20 (by decide) (ha _ q980) (fun _ h9 => h9) rfl dX12_digits_292 ?_
            refine lv_iload hx hb dX12_digits_295 (lv_at hl 2 rfl) ?_
            refine lv_iconst (v := 1) hx hb dX12_digits_297 (by decide) ?_
            refine lv_iadd hx hb dX12_digits_298 ?_
            refine lv_lload hx hb dX12_digits_299 (lv_at hl 3 rfl) ?_
            obtain ⟨i40, h⟩ := ix_ok h
            refine va_last hx hb hK hP hD hS 6 5 rfl rfl i40 dX12_digits_301 (fun H locs hP hD hS => ?_)
            have hP : va_P D vwCl ((h_t, .inr (12, (.int t_thrown :: z_t_1 :: z_t_2 :: .int t_a :: .int t_b :: .int t_root :: .ref h_t_has :: .ref h_t_us :: .ref h_t_vs :: .ref h_t_ds :: z_t_10 :: z_t_11 :: z_t_12 :: .int t_isTold :: .int t_result :: .int t_top :: .int l4 :: .int t_round :: .int (t_digitMany + 1) :: .ref h_t_digit :: .ref h_t_leftU :: .ref h_t_leftV :: z_t_22 :: z_t_23 :: z_t_24 :: z_t_25 :: z_t_26 :: z_t_27 :: z_t_28 :: z_t_29 :: z_t_30 :: z_t_31 :: z_t_32 :: z_t_33 :: z_t_34 :: z_t_35 :: z_t_36 :: z_t_37 :: z_t_38 :: z_t_39 :: z_t_40 :: z_t_41 :: z_t_42 :: z_t_43 :: z_t_44 :: z_t_45 :: z_t_46 :: z_t_47 :: z_t_48 :: z_t_49 :: z_t_50 :: z_t_51 :: z_t_52 :: z_t_53 :: z_t_54 :: z_t_55 :: z_t_56 :: z_t_57 :: z_t_58 :: z_t_59 :: z_t_60 :: []))) :: (h_t_has, .inl (k_t_has, 10, .inl t_has)) :: (h_t_us, .inl (k_t_us, 10, .inl t_us)) :: (h_t_vs, .inl (k_t_vs, 10, .inl t_vs)) :: (h_t_ds, .inl (k_t_ds, 10, .inl t_ds)) :: (h_t_digit, .inl (k_t_digit, 500, .inr (.inl (vp_updL t_digit t_digitMany.toNatClampNeg x9_L242_37)))) :: (h_t_leftU, .inl (k_t_leftU, 401, .inr (.inl (vp_updL t_leftU (l4 + 1).toNatClampNeg x5_L242_37)))) :: (h_t_leftV, .inl (k_t_leftV, 401, .inr (.inl t_leftV))) :: R) H := hP
            have hD : va_D A ((h_t, .inr (12, (.int t_thrown :: z_t_1 :: z_t_2 :: .int t_a :: .int t_b :: .int t_root :: .ref h_t_has :: .ref h_t_us :: .ref h_t_vs :: .ref h_t_ds :: z_t_10 :: z_t_11 :: z_t_12 :: .int t_isTold :: .int t_result :: .int t_top :: .int l4 :: .int t_round :: .int (t_digitMany + 1) :: .ref h_t_digit :: .ref h_t_leftU :: .ref h_t_leftV :: z_t_22 :: z_t_23 :: z_t_24 :: z_t_25 :: z_t_26 :: z_t_27 :: z_t_28 :: z_t_29 :: z_t_30 :: z_t_31 :: z_t_32 :: z_t_33 :: z_t_34 :: z_t_35 :: z_t_36 :: z_t_37 :: z_t_38 :: z_t_39 :: z_t_40 :: z_t_41 :: z_t_42 :: z_t_43 :: z_t_44 :: z_t_45 :: z_t_46 :: z_t_47 :: z_t_48 :: z_t_49 :: z_t_50 :: z_t_51 :: z_t_52 :: z_t_53 :: z_t_54 :: z_t_55 :: z_t_56 :: z_t_57 :: z_t_58 :: z_t_59 :: z_t_60 :: []))) :: (h_t_has, .inl (k_t_has, 10, .inl t_has)) :: (h_t_us, .inl (k_t_us, 10, .inl t_us)) :: (h_t_vs, .inl (k_t_vs, 10, .inl t_vs)) :: (h_t_ds, .inl (k_t_ds, 10, .inl t_ds)) :: (h_t_digit, .inl (k_t_digit, 500, .inr (.inl (vp_updL t_digit t_digitMany.toNatClampNeg x9_L242_37)))) :: (h_t_leftU, .inl (k_t_leftU, 401, .inr (.inl (vp_updL t_leftU (l4 + 1).toNatClampNeg x5_L242_37)))) :: (h_t_leftV, .inl (k_t_leftV, 401, .inr (.inl t_leftV))) :: R) := hD
            refine lv_aload_n hx hb dX12_digits_302 rfl (lv_at hl 0 rfl) ?_
            refine va_get (D := D) (ci := 12) (v := .ref h_t_leftV) (C := RX12) (T := TX12) (N := 61) hx hb ha ix12 hown hK hP 0 rfl rfl 21 (by decide) (ha _ q981) (fun _ h9 => h9) rfl dX12_digits_303 ?_
            refine lv_iload hx hb dX12_digits_306 (lv_at hl 2 rfl) ?_
            refine lv_iconst (v := 1) hx hb dX12_digits_308 (by decide) ?_
            refine lv_iadd hx hb dX12_digits_309 ?_
            refine lv_lload hx hb dX12_digits_310 (lv_at hl 4 rfl) ?_
            obtain ⟨i41, h⟩ := ix_ok h
            refine va_last hx hb hK hP hD hS 7 6 rfl rfl i41 dX12_digits_312 (fun H locs hP hD hS => ?_)
            have hP : va_P D vwCl ((h_t, .inr (12, (.int t_thrown :: z_t_1 :: z_t_2 :: .int t_a :: .int t_b :: .int t_root :: .ref h_t_has :: .ref h_t_us :: .ref h_t_vs :: .ref h_t_ds :: z_t_10 :: z_t_11 :: z_t_12 :: .int t_isTold :: .int t_result :: .int t_top :: .int l4 :: .int t_round :: .int (t_digitMany + 1) :: .ref h_t_digit :: .ref h_t_leftU :: .ref h_t_leftV :: z_t_22 :: z_t_23 :: z_t_24 :: z_t_25 :: z_t_26 :: z_t_27 :: z_t_28 :: z_t_29 :: z_t_30 :: z_t_31 :: z_t_32 :: z_t_33 :: z_t_34 :: z_t_35 :: z_t_36 :: z_t_37 :: z_t_38 :: z_t_39 :: z_t_40 :: z_t_41 :: z_t_42 :: z_t_43 :: z_t_44 :: z_t_45 :: z_t_46 :: z_t_47 :: z_t_48 :: z_t_49 :: z_t_50 :: z_t_51 :: z_t_52 :: z_t_53 :: z_t_54 :: z_t_55 :: z_t_56 :: z_t_57 :: z_t_58 :: z_t_59 :: z_t_60 :: []))) :: (h_t_has, .inl (k_t_has, 10, .inl t_has)) :: (h_t_us, .inl (k_t_us, 10, .inl t_us)) :: (h_t_vs, .inl (k_t_vs, 10, .inl t_vs)) :: (h_t_ds, .inl (k_t_ds, 10, .inl t_ds)) :: (h_t_digit, .inl (k_t_digit, 500, .inr (.inl (vp_updL t_digit t_digitMany.toNatClampNeg x9_L242_37)))) :: (h_t_leftU, .inl (k_t_leftU, 401, .inr (.inl (vp_updL t_leftU (l4 + 1).toNatClampNeg x5_L242_37)))) :: (h_t_leftV, .inl (k_t_leftV, 401, .inr (.inl (vp_updL t_leftV (l4 + 1).toNatClampNeg ((t_leftU l4.toNatClampNeg) + ((t_leftV l4.toNatClampNeg) * t_a.toInt64)))))) :: R) H := hP
            have hD : va_D A ((h_t, .inr (12, (.int t_thrown :: z_t_1 :: z_t_2 :: .int t_a :: .int t_b :: .int t_root :: .ref h_t_has :: .ref h_t_us :: .ref h_t_vs :: .ref h_t_ds :: z_t_10 :: z_t_11 :: z_t_12 :: .int t_isTold :: .int t_result :: .int t_top :: .int l4 :: .int t_round :: .int (t_digitMany + 1) :: .ref h_t_digit :: .ref h_t_leftU :: .ref h_t_leftV :: z_t_22 :: z_t_23 :: z_t_24 :: z_t_25 :: z_t_26 :: z_t_27 :: z_t_28 :: z_t_29 :: z_t_30 :: z_t_31 :: z_t_32 :: z_t_33 :: z_t_34 :: z_t_35 :: z_t_36 :: z_t_37 :: z_t_38 :: z_t_39 :: z_t_40 :: z_t_41 :: z_t_42 :: z_t_43 :: z_t_44 :: z_t_45 :: z_t_46 :: z_t_47 :: z_t_48 :: z_t_49 :: z_t_50 :: z_t_51 :: z_t_52 :: z_t_53 :: z_t_54 :: z_t_55 :: z_t_56 :: z_t_57 :: z_t_58 :: z_t_59 :: z_t_60 :: []))) :: (h_t_has, .inl (k_t_has, 10, .inl t_has)) :: (h_t_us, .inl (k_t_us, 10, .inl t_us)) :: (h_t_vs, .inl (k_t_vs, 10, .inl t_vs)) :: (h_t_ds, .inl (k_t_ds, 10, .inl t_ds)) :: (h_t_digit, .inl (k_t_digit, 500, .inr (.inl (vp_updL t_digit t_digitMany.toNatClampNeg x9_L242_37)))) :: (h_t_leftU, .inl (k_t_leftU, 401, .inr (.inl (vp_updL t_leftU (l4 + 1).toNatClampNeg x5_L242_37)))) :: (h_t_leftV, .inl (k_t_leftV, 401, .inr (.inl (vp_updL t_leftV (l4 + 1).toNatClampNeg ((t_leftU l4.toNatClampNeg) + ((t_leftV l4.toNatClampNeg) * t_a.toInt64)))))) :: R) := hD
            refine lv_iinc (v := (l4 + 1)) (lv' := [(4, .int (l4 + 1)), (0, .ref h_t), (2, .long l2), (5, .long x5_L242_37), (7, .long ((t_leftU l4.toNatClampNeg) + ((t_leftV l4.toNatClampNeg) * t_a.toInt64))), (9, .long x9_L242_37)]) hx hb dX12_digits_313 hl (k := 2) rfl rfl (by decide) rfl (fun ls hl => ?_)
            refine lv_goto (tgt := 76) hx hb dX12_digits_316 (by decide) ?_
            exact ih l2 (l4 + 1) t_thrown t_isTold t_result t_top l4 t_round (t_digitMany + 1) (vp_updL t_digit t_digitMany.toNatClampNeg x9_L242_37) (vp_updL t_leftU (l4 + 1).toNatClampNeg x5_L242_37) (vp_updL t_leftV (l4 + 1).toNatClampNeg ((t_leftU l4.toNatClampNeg) + ((t_leftV l4.toNatClampNeg) * t_a.toInt64))) _ _ _ _ _ _ _ _ h _ _ _ hP hD hS (lv_sub hl [1, 2, 0] rfl) kk0 kk1 kk2
          · have h := br_pos c34 h
            cases h
            exact kk2 rfl _ _ _ hP hD hS (lv_sub hl [0] rfl)
      · have h := br_pos c12 h
        refine lv_aload_n hx hb dX12_digits_94 rfl (lv_at hl 0 rfl) ?_
        refine va_get (D := D) (ci := 12) (v := .ref h_t_leftV) (C := RX12) (T := TX12) (N := 61) hx hb ha ix12 hown hK hP 0 rfl rfl 21 (by decide) (ha _ q981) (fun _ h9 => h9) rfl dX12_digits_95 ?_
        refine lv_iload hx hb dX12_digits_98 (lv_at hl 2 rfl) ?_
        obtain ⟨i13, h⟩ := ix_ok h
        refine va_lald hx hb hK hP 7 6 rfl rfl i13 dX12_digits_100 ?_
        refine lv_lconst (v := 0) hx hb dX12_digits_101 (by decide) ?_
        refine xl_ne (tgt := 113) hx hb dX12_digits_102 dX12_digits_103 (by decide) (fun c14 => ?_) (fun c14 => ?_)
        · have h := br_neg c14 h
          refine lv_iconst (v := 0) hx hb dX12_digits_113 (by decide) ?_
          refine lv_istore (lv' := [(5, .int 0), (0, .ref h_t), (2, .long l2), (4, .int l4)]) hx hb dX12_digits_114 hl (by decide) rfl (fun ls hl => ?_)
          obtain ⟨tg_L116_21, x5_L116_21, e_L116_21, h⟩ := bnd2_ok h
          refine L116 _ _ l2 l4 0 t_thrown t_isTold t_result t_top l4 t_round t_digitMany t_digit t_leftU t_leftV tg_L116_21 x5_L116_21 e_L116_21 _ _ _ hP hD hS (lv_sub hl [1, 2, 3, 0] rfl) ?_ ?_
          · intro q9 H locs ls hP hD hS hl
            have h := br_pos q9 h
            cases h
            exact kk1 rfl _ _ _ hP hD hS (lv_sub hl [0, 1, 2] rfl)
          · intro q9 H locs ls hP hD hS hl
            have h := br_neg (by rw [q9]; decide) h
            refine lv_iload hx hb dX12_digits_190 (lv_at hl 2 rfl) ?_
            refine lv_sipush (v := 400) hx hb dX12_digits_192 (by decide) ?_
            refine lv_icmp_ne (tgt := 201) hx hb dX12_digits_195 (by decide) (fun c23 => ?_) (fun c23 => ?_)
            · have h := br_neg c23 h
              refine lv_aload_n hx hb dX12_digits_201 rfl (lv_at hl 0 rfl) ?_
              refine va_get (D := D) (ci := 12) (v := .ref h_t_leftV) (C := RX12) (T := TX12) (N := 61) hx hb ha ix12 hown hK hP 0 rfl rfl 21 (by decide) (ha _ q981) (fun _ h9 => h9) rfl dX12_digits_202 ?_
              refine lv_iload hx hb dX12_digits_205 (lv_at hl 2 rfl) ?_
              obtain ⟨i24, h⟩ := ix_ok h
              refine va_lald hx hb hK hP 7 6 rfl rfl i24 dX12_digits_207 ?_
              refine lv_aload_n hx hb dX12_digits_208 rfl (lv_at hl 0 rfl) ?_
              refine va_get (D := D) (ci := 12) (v := .int t_b) (C := RX12) (T := TX12) (N := 61) hx hb ha ix12 hown hK hP 0 rfl rfl 4 (by decide) (ha _ q964) (fun _ h9 => h9) rfl dX12_digits_209 ?_
              refine lv_i2l (v := t_b.toInt64) hx hb dX12_digits_212 rfl ?_
              refine lv_lmul hx hb dX12_digits_213 ?_
              refine lv_lstore (lv' := [(5, .long ((t_leftV l4.toNatClampNeg) * t_b.toInt64)), (0, .ref h_t), (2, .long l2), (4, .int l4)]) hx hb dX12_digits_214 hl (by decide) rfl (fun ls hl => ?_)
              refine lv_aload_n hx hb dX12_digits_216 rfl (lv_at hl 1 rfl) ?_
              refine va_get (D := D) (ci := 12) (v := .ref h_t_leftU) (C := RX12) (T := TX12) (N := 61) hx hb ha ix12 hown hK hP 0 rfl rfl 20 (by decide) (ha _ q980) (fun _ h9 => h9) rfl dX12_digits_217 ?_
              refine lv_iload hx hb dX12_digits_220 (lv_at hl 3 rfl) ?_
              obtain ⟨i25, h⟩ := ix_ok h
              refine va_lald hx hb hK hP 6 5 rfl rfl i25 dX12_digits_222 ?_
              refine lv_aload_n hx hb dX12_digits_223 rfl (lv_at hl 1 rfl) ?_
              refine va_get (D := D) (ci := 12) (v := .ref h_t_leftV) (C := RX12) (T := TX12) (N := 61) hx hb ha ix12 hown hK hP 0 rfl rfl 21 (by decide) (ha _ q981) (fun _ h9 => h9) rfl dX12_digits_224 ?_
              refine lv_iload hx hb dX12_digits_227 (lv_at hl 3 rfl) ?_
              obtain ⟨i26, h⟩ := ix_ok h
              refine va_lald hx hb hK hP 7 6 rfl rfl i26 dX12_digits_229 ?_
              refine lv_aload_n hx hb dX12_digits_230 rfl (lv_at hl 1 rfl) ?_
              refine va_get (D := D) (ci := 12) (v := .int t_a) (C := RX12) (T := TX12) (N := 61) hx hb ha ix12 hown hK hP 0 rfl rfl 3 (by decide) (ha _ q963) (fun _ h9 => h9) rfl dX12_digits_231 ?_
              refine lv_i2l (v := t_a.toInt64) hx hb dX12_digits_234 rfl ?_
              refine lv_lmul hx hb dX12_digits_235 ?_
              refine lv_ladd hx hb dX12_digits_236 ?_
              refine lv_lstore (lv' := [(7, .long ((t_leftU l4.toNatClampNeg) + ((t_leftV l4.toNatClampNeg) * t_a.toInt64))), (5, .long ((t_leftV l4.toNatClampNeg) * t_b.toInt64)), (0, .ref h_t), (2, .long l2), (4, .int l4)]) hx hb dX12_digits_237 hl (by decide) rfl (fun ls hl => ?_)
              refine lv_lconst (v := 0) hx hb dX12_digits_239 (by decide) ?_
              refine lv_lstore (lv' := [(9, .long 0), (7, .long ((t_leftU l4.toNatClampNeg) + ((t_leftV l4.toNatClampNeg) * t_a.toInt64))), (5, .long ((t_leftV l4.toNatClampNeg) * t_b.toInt64)), (0, .ref h_t), (2, .long l2), (4, .int l4)]) hx hb dX12_digits_240 hl (by decide) rfl (fun ls hl => ?_)
              obtain ⟨x5_L242_28, x9_L242_28, e_L242_28, h⟩ := bnd2_ok h
              refine L242 _ _ l2 l4 ((t_leftV l4.toNatClampNeg) * t_b.toInt64) ((t_leftU l4.toNatClampNeg) + ((t_leftV l4.toNatClampNeg) * t_a.toInt64)) 0 t_thrown t_isTold t_result t_top l4 t_round t_digitMany t_digit t_leftU t_leftV x5_L242_28 x9_L242_28 e_L242_28 _ _ _ hP hD hS (lv_sub hl [3, 4, 5, 2, 1, 0] rfl) ?_
              intro H locs ls hP hD hS hl
              refine lv_aload_n hx hb dX12_digits_270 rfl (lv_at hl 0 rfl) ?_
              refine va_get (D := D) (ci := 12) (v := .ref h_t_digit) (C := RX12) (T := TX12) (N := 61) hx hb ha ix12 hown hK hP 0 rfl rfl 19 (by decide) (ha _ q979) (fun _ h9 => h9) rfl dX12_digits_271 ?_
              refine lv_aload_n hx hb dX12_digits_274 rfl (lv_at hl 0 rfl) ?_
              refine va_get (D := D) (ci := 12) (v := .int t_digitMany) (C := RX12) (T := TX12) (N := 61) hx hb ha ix12 hown hK hP 0 rfl rfl 18 (by decide) (ha _ q978) (fun _ h9 => h9) rfl dX12_digits_275 ?_
              refine lv_lload hx hb dX12_digits_278 (lv_at hl 5 rfl) ?_
              obtain ⟨i30, h⟩ := ix_ok h
              refine va_last hx hb hK hP hD hS 5 4 rfl rfl i30 dX12_digits_280 (fun H locs hP hD hS => ?_)
              have hP : va_P D vwCl ((h_t, .inr (12, (.int t_thrown :: z_t_1 :: z_t_2 :: .int t_a :: .int t_b :: .int t_root :: .ref h_t_has :: .ref h_t_us :: .ref h_t_vs :: .ref h_t_ds :: z_t_10 :: z_t_11 :: z_t_12 :: .int t_isTold :: .int t_result :: .int t_top :: .int l4 :: .int t_round :: .int t_digitMany :: .ref h_t_digit :: .ref h_t_leftU :: .ref h_t_leftV :: z_t_22 :: z_t_23 :: z_t_24 :: z_t_25 :: z_t_26 :: z_t_27 :: z_t_28 :: z_t_29 :: z_t_30 :: z_t_31 :: z_t_32 :: z_t_33 :: z_t_34 :: z_t_35 :: z_t_36 :: z_t_37 :: z_t_38 :: z_t_39 :: z_t_40 :: z_t_41 :: z_t_42 :: z_t_43 :: z_t_44 :: z_t_45 :: z_t_46 :: z_t_47 :: z_t_48 :: z_t_49 :: z_t_50 :: z_t_51 :: z_t_52 :: z_t_53 :: z_t_54 :: z_t_55 :: z_t_56 :: z_t_57 :: z_t_58 :: z_t_59 :: z_t_60 :: []))) :: (h_t_has, .inl (k_t_has, 10, .inl t_has)) :: (h_t_us, .inl (k_t_us, 10, .inl t_us)) :: (h_t_vs, .inl (k_t_vs, 10, .inl t_vs)) :: (h_t_ds, .inl (k_t_ds, 10, .inl t_ds)) :: (h_t_digit, .inl (k_t_digit, 500, .inr (.inl (vp_updL t_digit t_digitMany.toNatClampNeg x9_L242_28)))) :: (h_t_leftU, .inl (k_t_leftU, 401, .inr (.inl t_leftU))) :: (h_t_leftV, .inl (k_t_leftV, 401, .inr (.inl t_leftV))) :: R) H := hP
              have hD : va_D A ((h_t, .inr (12, (.int t_thrown :: z_t_1 :: z_t_2 :: .int t_a :: .int t_b :: .int t_root :: .ref h_t_has :: .ref h_t_us :: .ref h_t_vs :: .ref h_t_ds :: z_t_10 :: z_t_11 :: z_t_12 :: .int t_isTold :: .int t_result :: .int t_top :: .int l4 :: .int t_round :: .int t_digitMany :: .ref h_t_digit :: .ref h_t_leftU :: .ref h_t_leftV :: z_t_22 :: z_t_23 :: z_t_24 :: z_t_25 :: z_t_26 :: z_t_27 :: z_t_28 :: z_t_29 :: z_t_30 :: z_t_31 :: z_t_32 :: z_t_33 :: z_t_34 :: z_t_35 :: z_t_36 :: z_t_37 :: z_t_38 :: z_t_39 :: z_t_40 :: z_t_41 :: z_t_42 :: z_t_43 :: z_t_44 :: z_t_45 :: z_t_46 :: z_t_47 :: z_t_48 :: z_t_49 :: z_t_50 :: z_t_51 :: z_t_52 :: z_t_53 :: z_t_54 :: z_t_55 :: z_t_56 :: z_t_57 :: z_t_58 :: z_t_59 :: z_t_60 :: []))) :: (h_t_has, .inl (k_t_has, 10, .inl t_has)) :: (h_t_us, .inl (k_t_us, 10, .inl t_us)) :: (h_t_vs, .inl (k_t_vs, 10, .inl t_vs)) :: (h_t_ds, .inl (k_t_ds, 10, .inl t_ds)) :: (h_t_digit, .inl (k_t_digit, 500, .inr (.inl (vp_updL t_digit t_digitMany.toNatClampNeg x9_L242_28)))) :: (h_t_leftU, .inl (k_t_leftU, 401, .inr (.inl t_leftU))) :: (h_t_leftV, .inl (k_t_leftV, 401, .inr (.inl t_leftV))) :: R) := hD
              refine lv_aload_n hx hb dX12_digits_281 rfl (lv_at hl 0 rfl) ?_
              refine lv_dup hx hb dX12_digits_282 rfl ?_
              refine va_get (D := D) (ci := 12) (v := .int t_digitMany) (C := RX12) (T := TX12) (N := 61) hx hb ha ix12 hown hK hP 0 rfl rfl 18 (by decide) (ha _ q978) (fun _ h9 => h9) rfl dX12_digits_283 ?_
              refine lv_iconst (v := 1) hx hb dX12_digits_286 (by decide) ?_
              refine lv_iadd hx hb dX12_digits_287 ?_
              refine va_put (D := D) (ci := 12) (v := .int (t_digitMany + 1)) (ty := .int) (C := RX12) (T := TX12) (N := 61) hx hb ha ix12 tyX12 tyX12_ok nmX12 hown hK hP hD hS 0 rfl rfl 18 (by decide) (ha _ q978) (fun _ h9 => h9) rfl (by decide +kernel) rfl rfl (Nat.le_of_ble_eq_true rfl) dX12_digits_288 (fun H locs hP hD hS => ?_)
              have hP : va_P D vwCl ((h_t, .inr (12, (.int t_thrown :: z_t_1 :: z_t_2 :: .int t_a :: .int t_b :: .int t_root :: .ref h_t_has :: .ref h_t_us :: .ref h_t_vs :: .ref h_t_ds :: z_t_10 :: z_t_11 :: z_t_12 :: .int t_isTold :: .int t_result :: .int t_top :: .int l4 :: .int t_round :: .int (t_digitMany + 1) :: .ref h_t_digit :: .ref h_t_leftU :: .ref h_t_leftV :: z_t_22 :: z_t_23 :: z_t_24 :: z_t_25 :: z_t_26 :: z_t_27 :: z_t_28 :: z_t_29 :: z_t_30 :: z_t_31 :: z_t_32 :: z_t_33 :: z_t_34 :: z_t_35 :: z_t_36 :: z_t_37 :: z_t_38 :: z_t_39 :: z_t_40 :: z_t_41 :: z_t_42 :: z_t_43 :: z_t_44 :: z_t_45 :: z_t_46 :: z_t_47 :: z_t_48 :: z_t_49 :: z_t_50 :: z_t_51 :: z_t_52 :: z_t_53 :: z_t_54 :: z_t_55 :: z_t_56 :: z_t_57 :: z_t_58 :: z_t_59 :: z_t_60 :: []))) :: (h_t_has, .inl (k_t_has, 10, .inl t_has)) :: (h_t_us, .inl (k_t_us, 10, .inl t_us)) :: (h_t_vs, .inl (k_t_vs, 10, .inl t_vs)) :: (h_t_ds, .inl (k_t_ds, 10, .inl t_ds)) :: (h_t_digit, .inl (k_t_digit, 500, .inr (.inl (vp_updL t_digit t_digitMany.toNatClampNeg x9_L242_28)))) :: (h_t_leftU, .inl (k_t_leftU, 401, .inr (.inl t_leftU))) :: (h_t_leftV, .inl (k_t_leftV, 401, .inr (.inl t_leftV))) :: R) H := hP
              have hD : va_D A ((h_t, .inr (12, (.int t_thrown :: z_t_1 :: z_t_2 :: .int t_a :: .int t_b :: .int t_root :: .ref h_t_has :: .ref h_t_us :: .ref h_t_vs :: .ref h_t_ds :: z_t_10 :: z_t_11 :: z_t_12 :: .int t_isTold :: .int t_result :: .int t_top :: .int l4 :: .int t_round :: .int (t_digitMany + 1) :: .ref h_t_digit :: .ref h_t_leftU :: .ref h_t_leftV :: z_t_22 :: z_t_23 :: z_t_24 :: z_t_25 :: z_t_26 :: z_t_27 :: z_t_28 :: z_t_29 :: z_t_30 :: z_t_31 :: z_t_32 :: z_t_33 :: z_t_34 :: z_t_35 :: z_t_36 :: z_t_37 :: z_t_38 :: z_t_39 :: z_t_40 :: z_t_41 :: z_t_42 :: z_t_43 :: z_t_44 :: z_t_45 :: z_t_46 :: z_t_47 :: z_t_48 :: z_t_49 :: z_t_50 :: z_t_51 :: z_t_52 :: z_t_53 :: z_t_54 :: z_t_55 :: z_t_56 :: z_t_57 :: z_t_58 :: z_t_59 :: z_t_60 :: []))) :: (h_t_has, .inl (k_t_has, 10, .inl t_has)) :: (h_t_us, .inl (k_t_us, 10, .inl t_us)) :: (h_t_vs, .inl (k_t_vs, 10, .inl t_vs)) :: (h_t_ds, .inl (k_t_ds, 10, .inl t_ds)) :: (h_t_digit, .inl (k_t_digit, 500, .inr (.inl (vp_updL t_digit t_digitMany.toNatClampNeg x9_L242_28)))) :: (h_t_leftU, .inl (k_t_leftU, 401, .inr (.inl t_leftU))) :: (h_t_leftV, .inl (k_t_leftV, 401, .inr (.inl t_leftV))) :: R) := hD
              refine lv_aload_n hx hb dX12_digits_291 rfl (lv_at hl 0 rfl) ?_
              refine va_get (D := D) (ci := 12) (v := .ref h_t_leftU) (C := RX12) (T := TX12) (N := 61) hx hb ha ix12 hown hK hP 0 rfl rfl 20 (by decide) (ha _ q980) (fun _ h9 => h9) rfl dX12_digits_292 ?_
              refine lv_iload hx hb dX12_digits_295 (lv_at hl 2 rfl) ?_
              refine lv_iconst (v := 1) hx hb dX12_digits_297 (by decide) ?_
              refine lv_iadd hx hb dX12_digits_298 ?_
              refine lv_lload hx hb dX12_digits_299 (lv_at hl 3 rfl) ?_
              obtain ⟨i31, h⟩ := ix_ok h
              refine va_last hx hb hK hP hD hS 6 5 rfl rfl i31 dX12_digits_301 (fun H locs hP hD hS => ?_)
              have hP : va_P D vwCl ((h_t, .inr (12, (.int t_thrown :: z_t_1 :: z_t_2 :: .int t_a :: .int t_b :: .int t_root :: .ref h_t_has :: .ref h_t_us :: .ref h_t_vs :: .ref h_t_ds :: z_t_10 :: z_t_11 :: z_t_12 :: .int t_isTold :: .int t_result :: .int t_top :: .int l4 :: .int t_round :: .int (t_digitMany + 1) :: .ref h_t_digit :: .ref h_t_leftU :: .ref h_t_leftV :: z_t_22 :: z_t_23 :: z_t_24 :: z_t_25 :: z_t_26 :: z_t_27 :: z_t_28 :: z_t_29 :: z_t_30 :: z_t_31 :: z_t_32 :: z_t_33 :: z_t_34 :: z_t_35 :: z_t_36 :: z_t_37 :: z_t_38 :: z_t_39 :: z_t_40 :: z_t_41 :: z_t_42 :: z_t_43 :: z_t_44 :: z_t_45 :: z_t_46 :: z_t_47 :: z_t_48 :: z_t_49 :: z_t_50 :: z_t_51 :: z_t_52 :: z_t_53 :: z_t_54 :: z_t_55 :: z_t_56 :: z_t_57 :: z_t_58 :: z_t_59 :: z_t_60 :: []))) :: (h_t_has, .inl (k_t_has, 10, .inl t_has)) :: (h_t_us, .inl (k_t_us, 10, .inl t_us)) :: (h_t_vs, .inl (k_t_vs, 10, .inl t_vs)) :: (h_t_ds, .inl (k_t_ds, 10, .inl t_ds)) :: (h_t_digit, .inl (k_t_digit, 500, .inr (.inl (vp_updL t_digit t_digitMany.toNatClampNeg x9_L242_28)))) :: (h_t_leftU, .inl (k_t_leftU, 401, .inr (.inl (vp_updL t_leftU (l4 + 1).toNatClampNeg x5_L242_28)))) :: (h_t_leftV, .inl (k_t_leftV, 401, .inr (.inl t_leftV))) :: R) H := hP
              have hD : va_D A ((h_t, .inr (12, (.int t_thrown :: z_t_1 :: z_t_2 :: .int t_a :: .int t_b :: .int t_root :: .ref h_t_has :: .ref h_t_us :: .ref h_t_vs :: .ref h_t_ds :: z_t_10 :: z_t_11 :: z_t_12 :: .int t_isTold :: .int t_result :: .int t_top :: .int l4 :: .int t_round :: .int (t_digitMany + 1) :: .ref h_t_digit :: .ref h_t_leftU :: .ref h_t_leftV :: z_t_22 :: z_t_23 :: z_t_24 :: z_t_25 :: z_t_26 :: z_t_27 :: z_t_28 :: z_t_29 :: z_t_30 :: z_t_31 :: z_t_32 :: z_t_33 :: z_t_34 :: z_t_35 :: z_t_36 :: z_t_37 :: z_t_38 :: z_t_39 :: z_t_40 :: z_t_41 :: z_t_42 :: z_t_43 :: z_t_44 :: z_t_45 :: z_t_46 :: z_t_47 :: z_t_48 :: z_t_49 :: z_t_50 :: z_t_51 :: z_t_52 :: z_t_53 :: z_t_54 :: z_t_55 :: z_t_56 :: z_t_57 :: z_t_58 :: z_t_59 :: z_t_60 :: []))) :: (h_t_has, .inl (k_t_has, 10, .inl t_has)) :: (h_t_us, .inl (k_t_us, 10, .inl t_us)) :: (h_t_vs, .inl (k_t_vs, 10, .inl t_vs)) :: (h_t_ds, .inl (k_t_ds, 10, .inl t_ds)) :: (h_t_digit, .inl (k_t_digit, 500, .inr (.inl (vp_updL t_digit t_digitMany.toNatClampNeg x9_L242_28)))) :: (h_t_leftU, .inl (k_t_leftU, 401, .inr (.inl (vp_updL t_leftU (l4 + 1).toNatClampNeg x5_L242_28)))) :: (h_t_leftV, .inl (k_t_leftV, 401, .inr (.inl t_leftV))) :: R) := hD
              refine lv_aload_n hx hb dX12_digits_302 rfl (lv_at hl 0 rfl) ?_
              refine va_get (D := D) (ci := 12) (v := .ref h_t_leftV) (C := RX12) (T := TX12) (N := 61) hx hb ha ix12 hown hK hP 0 rfl rfl 21 (by decide) (ha _ q981) (fun _ h9 => h9) rfl dX12_digits_303 ?_
              refine lv_iload hx hb dX12_digits_306 (lv_at hl 2 rfl) ?_
              refine lv_iconst (v := 1) hx hb dX12_digits_308 (by decide) ?_
              refine lv_iadd hx hb dX12_digits_309 ?_
              refine lv_lload hx hb dX12_digits_310 (lv_at hl 4 rfl) ?_
              obtain ⟨i32, h⟩ := ix_ok h
              refine va_last hx hb hK hP hD hS 7 6 rfl rfl i32 dX12_digits_312 (fun H locs hP hD hS => ?_)
              have hP : va_P D vwCl ((h_t, .inr (12, (.int t_thrown :: z_t_1 :: z_t_2 :: .int t_a :: .int t_b :: .int t_root :: .ref h_t_has :: .ref h_t_us :: .ref h_t_vs :: .ref h_t_ds :: z_t_10 :: z_t_11 :: z_t_12 :: .int t_isTold :: .int t_result :: .int t_top :: .int l4 :: .int t_round :: .int (t_digitMany + 1) :: .ref h_t_digit :: .ref h_t_leftU :: .ref h_t_leftV :: z_t_22 :: z_t_23 :: z_t_24 :: z_t_25 :: z_t_26 :: z_t_27 :: z_t_28 :: z_t_29 :: z_t_30 :: z_t_31 :: z_t_32 :: z_t_33 :: z_t_34 :: z_t_35 :: z_t_36 :: z_t_37 :: z_t_38 :: z_t_39 :: z_t_40 :: z_t_41 :: z_t_42 :: z_t_43 :: z_t_44 :: z_t_45 :: z_t_46 :: z_t_47 :: z_t_48 :: z_t_49 :: z_t_50 :: z_t_51 :: z_t_52 :: z_t_53 :: z_t_54 :: z_t_55 :: z_t_56 :: z_t_57 :: z_t_58 :: z_t_59 :: z_t_60 :: []))) :: (h_t_has, .inl (k_t_has, 10, .inl t_has)) :: (h_t_us, .inl (k_t_us, 10, .inl t_us)) :: (h_t_vs, .inl (k_t_vs, 10, .inl t_vs)) :: (h_t_ds, .inl (k_t_ds, 10, .inl t_ds)) :: (h_t_digit, .inl (k_t_digit, 500, .inr (.inl (vp_updL t_digit t_digitMany.toNatClampNeg x9_L242_28)))) :: (h_t_leftU, .inl (k_t_leftU, 401, .inr (.inl (vp_updL t_leftU (l4 + 1).toNatClampNeg x5_L242_28)))) :: (h_t_leftV, .inl (k_t_leftV, 401, .inr (.inl (vp_updL t_leftV (l4 + 1).toNatClampNeg ((t_leftU l4.toNatClampNeg) + ((t_leftV l4.toNatClampNeg) * t_a.toInt64)))))) :: R) H := hP
              have hD : va_D A ((h_t, .inr (12, (.int t_thrown :: z_t_1 :: z_t_2 :: .int t_a :: .int t_b :: .int t_root :: .ref h_t_has :: .ref h_t_us :: .ref h_t_vs :: .ref h_t_ds :: z_t_10 :: z_t_11 :: z_t_12 :: .int t_isTold :: .int t_result :: .int t_top :: .int l4 :: .int t_round :: .int (t_digitMany + 1) :: .ref h_t_digit :: .ref h_t_leftU :: .ref h_t_leftV :: z_t_22 :: z_t_23 :: z_t_24 :: z_t_25 :: z_t_26 :: z_t_27 :: z_t_28 :: z_t_29 :: z_t_30 :: z_t_31 :: z_t_32 :: z_t_33 :: z_t_34 :: z_t_35 :: z_t_36 :: z_t_37 :: z_t_38 :: z_t_39 :: z_t_40 :: z_t_41 :: z_t_42 :: z_t_43 :: z_t_44 :: z_t_45 :: z_t_46 :: z_t_47 :: z_t_48 :: z_t_49 :: z_t_50 :: z_t_51 :: z_t_52 :: z_t_53 :: z_t_54 :: z_t_55 :: z_t_56 :: z_t_57 :: z_t_58 :: z_t_59 :: z_t_60 :: []))) :: (h_t_has, .inl (k_t_has, 10, .inl t_has)) :: (h_t_us, .inl (k_t_us, 10, .inl t_us)) :: (h_t_vs, .inl (k_t_vs, 10, .inl t_vs)) :: (h_t_ds, .inl (k_t_ds, 10, .inl t_ds)) :: (h_t_digit, .inl (k_t_digit, 500, .inr (.inl (vp_updL t_digit t_digitMany.toNatClampNeg x9_L242_28)))) :: (h_t_leftU, .inl (k_t_leftU, 401, .inr (.inl (vp_updL t_leftU (l4 + 1).toNatClampNeg x5_L242_28)))) :: (h_t_leftV, .inl (k_t_leftV, 401, .inr (.inl (vp_updL t_leftV (l4 + 1).toNatClampNeg ((t_leftU l4.toNatClampNeg) + ((t_leftV l4.toNatClampNeg) * t_a.toInt64)))))) :: R) := hD
              refine lv_iinc (v := (l4 + 1)) (lv' := [(4, .int (l4 + 1)), (0, .ref h_t), (2, .long l2), (5, .long x5_L242_28), (7, .long ((t_leftU l4.toNatClampNeg) + ((t_leftV l4.toNatClampNeg) * t_a.toInt64))), (9, .long x9_L242_28)]) hx hb dX12_digits_313 hl (k := 2) rfl rfl (by decide) rfl (fun ls hl => ?_)
              refine lv_goto (tgt := 76) hx hb dX12_digits_316 (by decide) ?_
              exact ih l2 (l4 + 1) t_thrown t_isTold t_result t_top l4 t_round (t_digitMany + 1) (vp_updL t_digit t_digitMany.toNatClampNeg x9_L242_28) (vp_updL t_leftU (l4 + 1).toNatClampNeg x5_L242_28) (vp_updL t_leftV (l4 + 1).toNatClampNeg ((t_leftU l4.toNatClampNeg) + ((t_leftV l4.toNatClampNeg) * t_a.toInt64))) _ _ _ _ _ _ _ _ h _ _ _ hP hD hS (lv_sub hl [1, 2, 0] rfl) kk0 kk1 kk2
            · have h := br_pos c23 h
              cases h
              exact kk2 rfl _ _ _ hP hD hS (lv_sub hl [0] rfl)
        · have h := br_pos c14 h
          cases h
          exact kk0 rfl _ _ _ hP hD hS (lv_sub hl [0] rfl)
  unfold f_X12_digits at h
  refine lv_aload_n hx hb dX12_digits_0 rfl (lv_at hl 0 rfl) ?_
  refine lv_iconst (v := 0) hx hb dX12_digits_1 (by decide) ?_
  refine va_put (D := D) (ci := 12) (v := .int 0) (ty := .int) (C := RX12) (T := TX12) (N := 61) hx hb ha ix12 tyX12 tyX12_ok nmX12 hown hK hP hD hS 0 rfl rfl 0 (by decide) (ha _ q960) (fun _ h9 => h9) rfl (by decide +kernel) rfl rfl (Nat.le_of_ble_eq_true rfl) dX12_digits_2 (fun H locs hP hD hS => ?_)
  have hP : va_P D vwCl ((h_t, .inr (12, (.int 0 :: z_t_1 :: z_t_2 :: .int t_a :: .int t_b :: .int t_root :: .ref h_t_has :: .ref h_t_us :: .ref h_t_vs :: .ref h_t_ds :: z_t_10 :: z_t_11 :: z_t_12 :: .int t_isTold :: .int t_result :: .int t_top :: .int t_ahead :: .int t_round :: .int t_digitMany :: .ref h_t_digit :: .ref h_t_leftU :: .ref h_t_leftV :: z_t_22 :: z_t_23 :: z_t_24 :: z_t_25 :: z_t_26 :: z_t_27 :: z_t_28 :: z_t_29 :: z_t_30 :: z_t_31 :: z_t_32 :: z_t_33 :: z_t_34 :: z_t_35 :: z_t_36 :: z_t_37 :: z_t_38 :: z_t_39 :: z_t_40 :: z_t_41 :: z_t_42 :: z_t_43 :: z_t_44 :: z_t_45 :: z_t_46 :: z_t_47 :: z_t_48 :: z_t_49 :: z_t_50 :: z_t_51 :: z_t_52 :: z_t_53 :: z_t_54 :: z_t_55 :: z_t_56 :: z_t_57 :: z_t_58 :: z_t_59 :: z_t_60 :: []))) :: (h_t_has, .inl (k_t_has, 10, .inl t_has)) :: (h_t_us, .inl (k_t_us, 10, .inl t_us)) :: (h_t_vs, .inl (k_t_vs, 10, .inl t_vs)) :: (h_t_ds, .inl (k_t_ds, 10, .inl t_ds)) :: (h_t_digit, .inl (k_t_digit, 500, .inr (.inl t_digit))) :: (h_t_leftU, .inl (k_t_leftU, 401, .inr (.inl t_leftU))) :: (h_t_leftV, .inl (k_t_leftV, 401, .inr (.inl t_leftV))) :: R) H := hP
  have hD : va_D A ((h_t, .inr (12, (.int 0 :: z_t_1 :: z_t_2 :: .int t_a :: .int t_b :: .int t_root :: .ref h_t_has :: .ref h_t_us :: .ref h_t_vs :: .ref h_t_ds :: z_t_10 :: z_t_11 :: z_t_12 :: .int t_isTold :: .int t_result :: .int t_top :: .int t_ahead :: .int t_round :: .int t_digitMany :: .ref h_t_digit :: .ref h_t_leftU :: .ref h_t_leftV :: z_t_22 :: z_t_23 :: z_t_24 :: z_t_25 :: z_t_26 :: z_t_27 :: z_t_28 :: z_t_29 :: z_t_30 :: z_t_31 :: z_t_32 :: z_t_33 :: z_t_34 :: z_t_35 :: z_t_36 :: z_t_37 :: z_t_38 :: z_t_39 :: z_t_40 :: z_t_41 :: z_t_42 :: z_t_43 :: z_t_44 :: z_t_45 :: z_t_46 :: z_t_47 :: z_t_48 :: z_t_49 :: z_t_50 :: z_t_51 :: z_t_52 :: z_t_53 :: z_t_54 :: z_t_55 :: z_t_56 :: z_t_57 :: z_t_58 :: z_t_59 :: z_t_60 :: []))) :: (h_t_has, .inl (k_t_has, 10, .inl t_has)) :: (h_t_us, .inl (k_t_us, 10, .inl t_us)) :: (h_t_vs, .inl (k_t_vs, 10, .inl t_vs)) :: (h_t_ds, .inl (k_t_ds, 10, .inl t_ds)) :: (h_t_digit, .inl (k_t_digit, 500, .inr (.inl t_digit))) :: (h_t_leftU, .inl (k_t_leftU, 401, .inr (.inl t_leftU))) :: (h_t_leftV, .inl (k_t_leftV, 401, .inr (.inl t_leftV))) :: R) := hD
  refine lv_aload_n hx hb dX12_digits_5 rfl (lv_at hl 0 rfl) ?_
  refine lv_iload_n hx hb dX12_digits_6 rfl (lv_at hl 1 rfl) ?_
  obtain ⟨r_c7_0, e_c7_0, h⟩ := bnd1_ok h
  refine cl_z (rn_v (ci := 12) (As := [.int l1]) (rest := []) S (c_X12_isThere l D ((h_t_us, .inl (k_t_us, 10, .inl t_us)) :: (h_t_vs, .inl (k_t_vs, 10, .inl t_vs)) :: (h_t_ds, .inl (k_t_ds, 10, .inl t_ds)) :: (h_t_digit, .inl (k_t_digit, 500, .inr (.inl t_digit))) :: (h_t_leftU, .inl (k_t_leftU, 401, .inr (.inl t_leftU))) :: (h_t_leftV, .inl (k_t_leftV, 401, .inr (.inl t_leftV))) :: R) h_t (.int 0) (z_t_1) (z_t_2) (.int t_a) (.int t_b) (.int t_root) (.ref h_t_us) (.ref h_t_vs) (.ref h_t_ds) (z_t_10) (z_t_11) (z_t_12) (.int t_isTold) (.int t_result) (.int t_top) (.int t_ahead) (.int t_round) (.int t_digitMany) (.ref h_t_digit) (.ref h_t_leftU) (.ref h_t_leftV) (z_t_22) (z_t_23) (z_t_24) (z_t_25) (z_t_26) (z_t_27) (z_t_28) (z_t_29) (z_t_30) (z_t_31) (z_t_32) (z_t_33) (z_t_34) (z_t_35) (z_t_36) (z_t_37) (z_t_38) (z_t_39) (z_t_40) (z_t_41) (z_t_42) (z_t_43) (z_t_44) (z_t_45) (z_t_46) (z_t_47) (z_t_48) (z_t_49) (z_t_50) (z_t_51) (z_t_52) (z_t_53) (z_t_54) (z_t_55) (z_t_56) (z_t_57) (z_t_58) (z_t_59) (z_t_60) h_t_has k_t_has t_has l1 r_c7_0 e_c7_0 _) q1194 q1196 q30 q61 q1197 nd_X12_isThere ⟨Nat.le_of_ble_eq_true rfl, Nat.le_of_ble_eq_true rfl⟩ rfl rfl hP hD (hK.sub (tys' := [(k_t_has, .boolean)]) [0] rfl) hN rfl ⟨0, _, rfl⟩ rfl hl.1 rfl (Nat.le_of_ble_eq_true rfl) dX12_digits_7 ⟨Nat.le_of_ble_eq_true rfl, Nat.le_of_ble_eq_true rfl⟩) hS hA hD (fun H locs hP hD hS z_c7_0 => ?_)
  have hP : va_P D vwCl ((h_t, .inr (12, (.int 0 :: z_t_1 :: z_t_2 :: .int t_a :: .int t_b :: .int t_root :: .ref h_t_has :: .ref h_t_us :: .ref h_t_vs :: .ref h_t_ds :: z_t_10 :: z_t_11 :: z_t_12 :: .int t_isTold :: .int t_result :: .int t_top :: .int t_ahead :: .int t_round :: .int t_digitMany :: .ref h_t_digit :: .ref h_t_leftU :: .ref h_t_leftV :: z_t_22 :: z_t_23 :: z_t_24 :: z_t_25 :: z_t_26 :: z_t_27 :: z_t_28 :: z_t_29 :: z_t_30 :: z_t_31 :: z_t_32 :: z_t_33 :: z_t_34 :: z_t_35 :: z_t_36 :: z_t_37 :: z_t_38 :: z_t_39 :: z_t_40 :: z_t_41 :: z_t_42 :: z_t_43 :: z_t_44 :: z_t_45 :: z_t_46 :: z_t_47 :: z_t_48 :: z_t_49 :: z_t_50 :: z_t_51 :: z_t_52 :: z_t_53 :: z_t_54 :: z_t_55 :: z_t_56 :: z_t_57 :: z_t_58 :: z_t_59 :: z_t_60 :: []))) :: (h_t_has, .inl (k_t_has, 10, .inl t_has)) :: (h_t_us, .inl (k_t_us, 10, .inl t_us)) :: (h_t_vs, .inl (k_t_vs, 10, .inl t_vs)) :: (h_t_ds, .inl (k_t_ds, 10, .inl t_ds)) :: (h_t_digit, .inl (k_t_digit, 500, .inr (.inl t_digit))) :: (h_t_leftU, .inl (k_t_leftU, 401, .inr (.inl t_leftU))) :: (h_t_leftV, .inl (k_t_leftV, 401, .inr (.inl t_leftV))) :: R) H := hP
  have hD : va_D A ((h_t, .inr (12, (.int 0 :: z_t_1 :: z_t_2 :: .int t_a :: .int t_b :: .int t_root :: .ref h_t_has :: .ref h_t_us :: .ref h_t_vs :: .ref h_t_ds :: z_t_10 :: z_t_11 :: z_t_12 :: .int t_isTold :: .int t_result :: .int t_top :: .int t_ahead :: .int t_round :: .int t_digitMany :: .ref h_t_digit :: .ref h_t_leftU :: .ref h_t_leftV :: z_t_22 :: z_t_23 :: z_t_24 :: z_t_25 :: z_t_26 :: z_t_27 :: z_t_28 :: z_t_29 :: z_t_30 :: z_t_31 :: z_t_32 :: z_t_33 :: z_t_34 :: z_t_35 :: z_t_36 :: z_t_37 :: z_t_38 :: z_t_39 :: z_t_40 :: z_t_41 :: z_t_42 :: z_t_43 :: z_t_44 :: z_t_45 :: z_t_46 :: z_t_47 :: z_t_48 :: z_t_49 :: z_t_50 :: z_t_51 :: z_t_52 :: z_t_53 :: z_t_54 :: z_t_55 :: z_t_56 :: z_t_57 :: z_t_58 :: z_t_59 :: z_t_60 :: []))) :: (h_t_has, .inl (k_t_has, 10, .inl t_has)) :: (h_t_us, .inl (k_t_us, 10, .inl t_us)) :: (h_t_vs, .inl (k_t_vs, 10, .inl t_vs)) :: (h_t_ds, .inl (k_t_ds, 10, .inl t_ds)) :: (h_t_digit, .inl (k_t_digit, 500, .inr (.inl t_digit))) :: (h_t_leftU, .inl (k_t_leftU, 401, .inr (.inl t_leftU))) :: (h_t_leftV, .inl (k_t_leftV, 401, .inr (.inl t_leftV))) :: R) := hD
  refine lv_if_eq (tgt := 34) hx hb dX12_digits_10 (by decide) (fun c2 => ?_) (fun c2 => ?_)
  · have h := br_pos c2 h
    refine lv_iconst (v := (-1)) hx hb dX12_digits_34 (by decide) ?_
    cases h
    exact rt_i S hr hlk hP hD hS dX12_digits_35
  · have h := br_neg c2 h
    refine lv_aload_n hx hb dX12_digits_13 rfl (lv_at hl 0 rfl) ?_
    refine lv_aload_n hx hb dX12_digits_14 rfl (lv_at hl 0 rfl) ?_
    refine va_get (D := D) (ci := 12) (v := .ref h_t_us) (C := RX12) (T := TX12) (N := 61) hx hb ha ix12 hown hK hP 0 rfl rfl 7 (by decide) (ha _ q967) (fun _ h9 => h9) rfl dX12_digits_15 ?_
    refine lv_iload_n hx hb dX12_digits_18 rfl (lv_at hl 1 rfl) ?_
    obtain ⟨i3, h⟩ := ix_ok h
    refine va_iald hx hb hK hP 2 1 rfl rfl i3 dX12_digits_19 ?_
    refine lv_i2l (v := (t_us l1.toNatClampNeg).toInt64) hx hb dX12_digits_20 rfl ?_
    refine lv_aload_n hx hb dX12_digits_21 rfl (lv_at hl 0 rfl) ?_
    refine va_get (D := D) (ci := 12) (v := .ref h_t_vs) (C := RX12) (T := TX12) (N := 61) hx hb ha ix12 hown hK hP 0 rfl rfl 8 (by decide) (ha _ q968) (fun _ h9 => h9) rfl dX12_digits_22 ?_
    refine lv_iload_n hx hb dX12_digits_25 rfl (lv_at hl 1 rfl) ?_
    obtain ⟨i4, h⟩ := ix_ok h
    refine va_iald hx hb hK hP 3 2 rfl rfl i4 dX12_digits_26 ?_
    refine lv_i2l (v := (t_vs l1.toNatClampNeg).toInt64) hx hb dX12_digits_27 rfl ?_
    obtain ⟨r_c28_4, e_c28_4, h⟩ := bnd1_ok h
    refine cl_i (rn_v (ci := 12) (As := [.long (t_us l1.toNatClampNeg).toInt64, .long (t_vs l1.toNatClampNeg).toInt64]) (rest := []) S (c_X12_sign l D ((h_t_has, .inl (k_t_has, 10, .inl t_has)) :: (h_t_us, .inl (k_t_us, 10, .inl t_us)) :: (h_t_vs, .inl (k_t_vs, 10, .inl t_vs)) :: (h_t_ds, .inl (k_t_ds, 10, .inl t_ds)) :: (h_t_digit, .inl (k_t_digit, 500, .inr (.inl t_digit))) :: (h_t_leftU, .inl (k_t_leftU, 401, .inr (.inl t_leftU))) :: (h_t_leftV, .inl (k_t_leftV, 401, .inr (.inl t_leftV))) :: R) h_t (.int 0) (z_t_1) (z_t_2) t_a (.int t_b) t_root (.ref h_t_has) (.ref h_t_us) (.ref h_t_vs) (.ref h_t_ds) (z_t_10) (z_t_11) (z_t_12) (.int t_isTold) (.int t_result) (.int t_top) (.int t_ahead) (.int t_round) (.int t_digitMany) (.ref h_t_digit) (.ref h_t_leftU) (.ref h_t_leftV) (z_t_22) (z_t_23) (z_t_24) (z_t_25) (z_t_26) (z_t_27) (z_t_28) (z_t_29) (z_t_30) (z_t_31) (z_t_32) (z_t_33) (z_t_34) (z_t_35) (z_t_36) (z_t_37) (z_t_38) (z_t_39) (z_t_40) (z_t_41) (z_t_42) (z_t_43) (z_t_44) (z_t_45) (z_t_46) (z_t_47) (z_t_48) (z_t_49) (z_t_50) (z_t_51) (z_t_52) (z_t_53) (z_t_54) (z_t_55) (z_t_56) (z_t_57) (z_t_58) (z_t_59) (z_t_60) ((t_us l1.toNatClampNeg).toInt64) ((t_vs l1.toNatClampNeg).toInt64) r_c28_4 e_c28_4 _) q1222 q1224 q35 q61 q1225 nd_X12_sign ⟨Nat.le_of_ble_eq_true rfl, Nat.le_of_ble_eq_true rfl⟩ rfl rfl hP hD (hK.sub (tys' := []) [] rfl) hN rfl ⟨0, _, rfl⟩ rfl hl.1 rfl (Nat.le_of_ble_eq_true rfl) dX12_digits_28 ⟨Nat.le_of_ble_eq_true rfl, Nat.le_of_ble_eq_true rfl⟩) hS hA hD (fun H locs hP hD hS => ?_)
    have hP : va_P D vwCl ((h_t, .inr (12, (.int 0 :: z_t_1 :: z_t_2 :: .int t_a :: .int t_b :: .int t_root :: .ref h_t_has :: .ref h_t_us :: .ref h_t_vs :: .ref h_t_ds :: z_t_10 :: z_t_11 :: z_t_12 :: .int t_isTold :: .int t_result :: .int t_top :: .int t_ahead :: .int t_round :: .int t_digitMany :: .ref h_t_digit :: .ref h_t_leftU :: .ref h_t_leftV :: z_t_22 :: z_t_23 :: z_t_24 :: z_t_25 :: z_t_26 :: z_t_27 :: z_t_28 :: z_t_29 :: z_t_30 :: z_t_31 :: z_t_32 :: z_t_33 :: z_t_34 :: z_t_35 :: z_t_36 :: z_t_37 :: z_t_38 :: z_t_39 :: z_t_40 :: z_t_41 :: z_t_42 :: z_t_43 :: z_t_44 :: z_t_45 :: z_t_46 :: z_t_47 :: z_t_48 :: z_t_49 :: z_t_50 :: z_t_51 :: z_t_52 :: z_t_53 :: z_t_54 :: z_t_55 :: z_t_56 :: z_t_57 :: z_t_58 :: z_t_59 :: z_t_60 :: []))) :: (h_t_has, .inl (k_t_has, 10, .inl t_has)) :: (h_t_us, .inl (k_t_us, 10, .inl t_us)) :: (h_t_vs, .inl (k_t_vs, 10, .inl t_vs)) :: (h_t_ds, .inl (k_t_ds, 10, .inl t_ds)) :: (h_t_digit, .inl (k_t_digit, 500, .inr (.inl t_digit))) :: (h_t_leftU, .inl (k_t_leftU, 401, .inr (.inl t_leftU))) :: (h_t_leftV, .inl (k_t_leftV, 401, .inr (.inl t_leftV))) :: R) H := hP
    have hD : va_D A ((h_t, .inr (12, (.int 0 :: z_t_1 :: z_t_2 :: .int t_a :: .int t_b :: .int t_root :: .ref h_t_has :: .ref h_t_us :: .ref h_t_vs :: .ref h_t_ds :: z_t_10 :: z_t_11 :: z_t_12 :: .int t_isTold :: .int t_result :: .int t_top :: .int t_ahead :: .int t_round :: .int t_digitMany :: .ref h_t_digit :: .ref h_t_leftU :: .ref h_t_leftV :: z_t_22 :: z_t_23 :: z_t_24 :: z_t_25 :: z_t_26 :: z_t_27 :: z_t_28 :: z_t_29 :: z_t_30 :: z_t_31 :: z_t_32 :: z_t_33 :: z_t_34 :: z_t_35 :: z_t_36 :: z_t_37 :: z_t_38 :: z_t_39 :: z_t_40 :: z_t_41 :: z_t_42 :: z_t_43 :: z_t_44 :: z_t_45 :: z_t_46 :: z_t_47 :: z_t_48 :: z_t_49 :: z_t_50 :: z_t_51 :: z_t_52 :: z_t_53 :: z_t_54 :: z_t_55 :: z_t_56 :: z_t_57 :: z_t_58 :: z_t_59 :: z_t_60 :: []))) :: (h_t_has, .inl (k_t_has, 10, .inl t_has)) :: (h_t_us, .inl (k_t_us, 10, .inl t_us)) :: (h_t_vs, .inl (k_t_vs, 10, .inl t_vs)) :: (h_t_ds, .inl (k_t_ds, 10, .inl t_ds)) :: (h_t_digit, .inl (k_t_digit, 500, .inr (.inl t_digit))) :: (h_t_leftU, .inl (k_t_leftU, 401, .inr (.inl t_leftU))) :: (h_t_leftV, .inl (k_t_leftV, 401, .inr (.inl t_leftV))) :: R) := hD
    refine lv_if_ge (tgt := 36) hx hb dX12_digits_31 (by decide) (fun c6 => ?_) (fun c6 => ?_)
    · have h := br_pos c6 h
      refine lv_aload_n hx hb dX12_digits_36 rfl (lv_at hl 0 rfl) ?_
      refine va_get (D := D) (ci := 12) (v := .ref h_t_ds) (C := RX12) (T := TX12) (N := 61) hx hb ha ix12 hown hK hP 0 rfl rfl 9 (by decide) (ha _ q969) (fun _ h9 => h9) rfl dX12_digits_37 ?_
      refine lv_iload_n hx hb dX12_digits_40 rfl (lv_at hl 1 rfl) ?_
      obtain ⟨i7, h⟩ := ix_ok h
      refine va_iald hx hb hK hP 4 3 rfl rfl i7 dX12_digits_41 ?_
      refine lv_i2l (v := (t_ds l1.toNatClampNeg).toInt64) hx hb dX12_digits_42 rfl ?_
      refine lv_lstore_n (lv' := [(2, .long (t_ds l1.toNatClampNeg).toInt64), (0, .ref h_t), (1, .int l1)]) hx hb dX12_digits_43 rfl hl (by decide) rfl (fun ls hl => ?_)
      refine lv_aload_n hx hb dX12_digits_44 rfl (lv_at hl 1 rfl) ?_
      refine lv_aload_n hx hb dX12_digits_45 rfl (lv_at hl 1 rfl) ?_
      refine va_get (D := D) (ci := 12) (v := .ref h_t_us) (C := RX12) (T := TX12) (N := 61) hx hb ha ix12 hown hK hP 0 rfl rfl 7 (by decide) (ha _ q967) (fun _ h9 => h9) rfl dX12_digits_46 ?_
      refine lv_iload_n hx hb dX12_digits_49 rfl (lv_at hl 2 rfl) ?_
      obtain ⟨i8, h⟩ := ix_ok h
      refine va_iald hx hb hK hP 2 1 rfl rfl i8 dX12_digits_50 ?_
      refine lv_i2l (v := (t_us l1.toNatClampNeg).toInt64) hx hb dX12_digits_51 rfl ?_
      refine lv_aload_n hx hb dX12_digits_52 rfl (lv_at hl 1 rfl) ?_
      refine va_get (D := D) (ci := 12) (v := .ref h_t_vs) (C := RX12) (T := TX12) (N := 61) hx hb ha ix12 hown hK hP 0 rfl rfl 8 (by decide) (ha _ q968) (fun _ h9 => h9) rfl dX12_digits_53 ?_
      refine lv_iload_n hx hb dX12_digits_56 rfl (lv_at hl 2 rfl) ?_
      obtain ⟨i9, h⟩ := ix_ok h
      refine va_iald hx hb hK hP 3 2 rfl rfl i9 dX12_digits_57 ?_
      refine lv_i2l (v := (t_vs l1.toNatClampNeg).toInt64) hx hb dX12_digits_58 rfl ?_
      refine lv_lload_n hx hb dX12_digits_59 rfl (lv_at hl 0 rfl) ?_
      obtain ⟨t_top_c60_9, t_digitMany_c60_9, t_digit_c60_9, t_leftU_c60_9, t_leftV_c60_9, e_c60_9, h⟩ := bnd5_ok h
      have hP : va_P D vwCl ((h_t, .inr (12, (.int 0 :: z_t_1 :: z_t_2 :: .int t_a :: .int t_b :: .int t_root :: .ref h_t_has :: .ref h_t_us :: .ref h_t_vs :: .ref h_t_ds :: z_t_10 :: z_t_11 :: z_t_12 :: .int t_isTold :: .int t_result :: .int t_top :: .int t_ahead :: .int t_round :: .int t_digitMany :: .ref h_t_digit :: .ref h_t_leftU :: .ref h_t_leftV :: z_t_22 :: z_t_23 :: z_t_24 :: z_t_25 :: z_t_26 :: z_t_27 :: z_t_28 :: z_t_29 :: z_t_30 :: z_t_31 :: z_t_32 :: z_t_33 :: z_t_34 :: z_t_35 :: z_t_36 :: z_t_37 :: z_t_38 :: z_t_39 :: z_t_40 :: z_t_41 :: z_t_42 :: z_t_43 :: z_t_44 :: z_t_45 :: z_t_46 :: z_t_47 :: z_t_48 :: z_t_49 :: z_t_50 :: z_t_51 :: z_t_52 :: z_t_53 :: z_t_54 :: z_t_55 :: z_t_56 :: z_t_57 :: z_t_58 :: z_t_59 :: z_t_60 :: []))) :: (h_t_digit, .inl (k_t_digit, 500, .inr (.inl t_digit))) :: (h_t_leftU, .inl (k_t_leftU, 401, .inr (.inl t_leftU))) :: (h_t_leftV, .inl (k_t_leftV, 401, .inr (.inl t_leftV))) :: (h_t_has, .inl (k_t_has, 10, .inl t_has)) :: (h_t_us, .inl (k_t_us, 10, .inl t_us)) :: (h_t_vs, .inl (k_t_vs, 10, .inl t_vs)) :: (h_t_ds, .inl (k_t_ds, 10, .inl t_ds)) :: R) _ := pm_P [0, 5, 6, 7, 1, 2, 3, 4] 8 hP
      have hD : va_D A ((h_t, .inr (12, (.int 0 :: z_t_1 :: z_t_2 :: .int t_a :: .int t_b :: .int t_root :: .ref h_t_has :: .ref h_t_us :: .ref h_t_vs :: .ref h_t_ds :: z_t_10 :: z_t_11 :: z_t_12 :: .int t_isTold :: .int t_result :: .int t_top :: .int t_ahead :: .int t_round :: .int t_digitMany :: .ref h_t_digit :: .ref h_t_leftU :: .ref h_t_leftV :: z_t_22 :: z_t_23 :: z_t_24 :: z_t_25 :: z_t_26 :: z_t_27 :: z_t_28 :: z_t_29 :: z_t_30 :: z_t_31 :: z_t_32 :: z_t_33 :: z_t_34 :: z_t_35 :: z_t_36 :: z_t_37 :: z_t_38 :: z_t_39 :: z_t_40 :: z_t_41 :: z_t_42 :: z_t_43 :: z_t_44 :: z_t_45 :: z_t_46 :: z_t_47 :: z_t_48 :: z_t_49 :: z_t_50 :: z_t_51 :: z_t_52 :: z_t_53 :: z_t_54 :: z_t_55 :: z_t_56 :: z_t_57 :: z_t_58 :: z_t_59 :: z_t_60 :: []))) :: (h_t_digit, .inl (k_t_digit, 500, .inr (.inl t_digit))) :: (h_t_leftU, .inl (k_t_leftU, 401, .inr (.inl t_leftU))) :: (h_t_leftV, .inl (k_t_leftV, 401, .inr (.inl t_leftV))) :: (h_t_has, .inl (k_t_has, 10, .inl t_has)) :: (h_t_us, .inl (k_t_us, 10, .inl t_us)) :: (h_t_vs, .inl (k_t_vs, 10, .inl t_vs)) :: (h_t_ds, .inl (k_t_ds, 10, .inl t_ds)) :: R) := pm_D (X := [(h_t, .inr (12, (.int 0 :: z_t_1 :: z_t_2 :: .int t_a :: .int t_b :: .int t_root :: .ref h_t_has :: .ref h_t_us :: .ref h_t_vs :: .ref h_t_ds :: z_t_10 :: z_t_11 :: z_t_12 :: .int t_isTold :: .int t_result :: .int t_top :: .int t_ahead :: .int t_round :: .int t_digitMany :: .ref h_t_digit :: .ref h_t_leftU :: .ref h_t_leftV :: z_t_22 :: z_t_23 :: z_t_24 :: z_t_25 :: z_t_26 :: z_t_27 :: z_t_28 :: z_t_29 :: z_t_30 :: z_t_31 :: z_t_32 :: z_t_33 :: z_t_34 :: z_t_35 :: z_t_36 :: z_t_37 :: z_t_38 :: z_t_39 :: z_t_40 :: z_t_41 :: z_t_42 :: z_t_43 :: z_t_44 :: z_t_45 :: z_t_46 :: z_t_47 :: z_t_48 :: z_t_49 :: z_t_50 :: z_t_51 :: z_t_52 :: z_t_53 :: z_t_54 :: z_t_55 :: z_t_56 :: z_t_57 :: z_t_58 :: z_t_59 :: z_t_60 :: []))), (h_t_digit, .inl (k_t_digit, 500, .inr (.inl t_digit))), (h_t_leftU, .inl (k_t_leftU, 401, .inr (.inl t_leftU))), (h_t_leftV, .inl (k_t_leftV, 401, .inr (.inl t_leftV))), (h_t_has, .inl (k_t_has, 10, .inl t_has)), (h_t_us, .inl (k_t_us, 10, .inl t_us)), (h_t_vs, .inl (k_t_vs, 10, .inl t_vs)), (h_t_ds, .inl (k_t_ds, 10, .inl t_ds))]) [0, 5, 6, 7, 1, 2, 3, 4] 8 (by decide) (by decide) rfl hD
      refine cl_v (rn_v (ci := 12) (As := [.long (t_us l1.toNatClampNeg).toInt64, .long (t_vs l1.toNatClampNeg).toInt64, .long (t_ds l1.toNatClampNeg).toInt64]) (rest := []) S (c_X12_whole l D ((h_t_has, .inl (k_t_has, 10, .inl t_has)) :: (h_t_us, .inl (k_t_us, 10, .inl t_us)) :: (h_t_vs, .inl (k_t_vs, 10, .inl t_vs)) :: (h_t_ds, .inl (k_t_ds, 10, .inl t_ds)) :: R) h_t (.int 0) (z_t_1) (z_t_2) t_a t_b t_root (.ref h_t_has) (.ref h_t_us) (.ref h_t_vs) (.ref h_t_ds) (z_t_10) (z_t_11) (z_t_12) (.int t_isTold) (.int t_result) t_top (.int t_ahead) (.int t_round) t_digitMany (z_t_22) (z_t_23) (z_t_24) (z_t_25) (z_t_26) (z_t_27) (z_t_28) (z_t_29) (z_t_30) (z_t_31) (z_t_32) (z_t_33) (z_t_34) (z_t_35) (z_t_36) (z_t_37) (z_t_38) (z_t_39) (z_t_40) (z_t_41) (z_t_42) (z_t_43) (z_t_44) (z_t_45) (z_t_46) (z_t_47) (z_t_48) (z_t_49) (z_t_50) (z_t_51) (z_t_52) (z_t_53) (z_t_54) (z_t_55) (z_t_56) (z_t_57) (z_t_58) (z_t_59) (z_t_60) h_t_digit k_t_digit t_digit h_t_leftU k_t_leftU t_leftU h_t_leftV k_t_leftV t_leftV ((t_us l1.toNatClampNeg).toInt64) ((t_vs l1.toNatClampNeg).toInt64) ((t_ds l1.toNatClampNeg).toInt64) t_top_c60_9 t_digitMany_c60_9 t_digit_c60_9 t_leftU_c60_9 t_leftV_c60_9 e_c60_9 _) q1239 q1241 q37 q61 q1242 nd_X12_whole ⟨Nat.le_of_ble_eq_true rfl, Nat.le_of_ble_eq_true rfl⟩ rfl rfl hP hD (hK.sub (tys' := [(k_t_digit, .long), (k_t_leftU, .long), (k_t_leftV, .long)]) [4, 5, 6] rfl) hN rfl ⟨0, _, rfl⟩ rfl hl.1 rfl (Nat.le_of_ble_eq_true rfl) dX12_digits_60 ⟨Nat.le_of_ble_eq_true rfl, Nat.le_of_ble_eq_true rfl⟩) hS hA hD (fun H locs hP hD hS => ?_)
      have hP : va_P D vwCl ((h_t, .inr (12, (.int 0 :: z_t_1 :: z_t_2 :: .int t_a :: .int t_b :: .int t_root :: .ref h_t_has :: .ref h_t_us :: .ref h_t_vs :: .ref h_t_ds :: z_t_10 :: z_t_11 :: z_t_12 :: .int t_isTold :: .int t_result :: .int t_top_c60_9 :: .int t_ahead :: .int t_round :: .int t_digitMany_c60_9 :: .ref h_t_digit :: .ref h_t_leftU :: .ref h_t_leftV :: z_t_22 :: z_t_23 :: z_t_24 :: z_t_25 :: z_t_26 :: z_t_27 :: z_t_28 :: z_t_29 :: z_t_30 :: z_t_31 :: z_t_32 :: z_t_33 :: z_t_34 :: z_t_35 :: z_t_36 :: z_t_37 :: z_t_38 :: z_t_39 :: z_t_40 :: z_t_41 :: z_t_42 :: z_t_43 :: z_t_44 :: z_t_45 :: z_t_46 :: z_t_47 :: z_t_48 :: z_t_49 :: z_t_50 :: z_t_51 :: z_t_52 :: z_t_53 :: z_t_54 :: z_t_55 :: z_t_56 :: z_t_57 :: z_t_58 :: z_t_59 :: z_t_60 :: []))) :: (h_t_has, .inl (k_t_has, 10, .inl t_has)) :: (h_t_us, .inl (k_t_us, 10, .inl t_us)) :: (h_t_vs, .inl (k_t_vs, 10, .inl t_vs)) :: (h_t_ds, .inl (k_t_ds, 10, .inl t_ds)) :: (h_t_digit, .inl (k_t_digit, 500, .inr (.inl t_digit_c60_9))) :: (h_t_leftU, .inl (k_t_leftU, 401, .inr (.inl t_leftU_c60_9))) :: (h_t_leftV, .inl (k_t_leftV, 401, .inr (.inl t_leftV_c60_9))) :: R) H := pm_P [0, 4, 5, 6, 7, 1, 2, 3] 8 hP
      have hD : va_D A ((h_t, .inr (12, (.int 0 :: z_t_1 :: z_t_2 :: .int t_a :: .int t_b :: .int t_root :: .ref h_t_has :: .ref h_t_us :: .ref h_t_vs :: .ref h_t_ds :: z_t_10 :: z_t_11 :: z_t_12 :: .int t_isTold :: .int t_result :: .int t_top_c60_9 :: .int t_ahead :: .int t_round :: .int t_digitMany_c60_9 :: .ref h_t_digit :: .ref h_t_leftU :: .ref h_t_leftV :: z_t_22 :: z_t_23 :: z_t_24 :: z_t_25 :: z_t_26 :: z_t_27 :: z_t_28 :: z_t_29 :: z_t_30 :: z_t_31 :: z_t_32 :: z_t_33 :: z_t_34 :: z_t_35 :: z_t_36 :: z_t_37 :: z_t_38 :: z_t_39 :: z_t_40 :: z_t_41 :: z_t_42 :: z_t_43 :: z_t_44 :: z_t_45 :: z_t_46 :: z_t_47 :: z_t_48 :: z_t_49 :: z_t_50 :: z_t_51 :: z_t_52 :: z_t_53 :: z_t_54 :: z_t_55 :: z_t_56 :: z_t_57 :: z_t_58 :: z_t_59 :: z_t_60 :: []))) :: (h_t_has, .inl (k_t_has, 10, .inl t_has)) :: (h_t_us, .inl (k_t_us, 10, .inl t_us)) :: (h_t_vs, .inl (k_t_vs, 10, .inl t_vs)) :: (h_t_ds, .inl (k_t_ds, 10, .inl t_ds)) :: (h_t_digit, .inl (k_t_digit, 500, .inr (.inl t_digit_c60_9))) :: (h_t_leftU, .inl (k_t_leftU, 401, .inr (.inl t_leftU_c60_9))) :: (h_t_leftV, .inl (k_t_leftV, 401, .inr (.inl t_leftV_c60_9))) :: R) := pm_D (X := [(h_t, .inr (12, (.int 0 :: z_t_1 :: z_t_2 :: .int t_a :: .int t_b :: .int t_root :: .ref h_t_has :: .ref h_t_us :: .ref h_t_vs :: .ref h_t_ds :: z_t_10 :: z_t_11 :: z_t_12 :: .int t_isTold :: .int t_result :: .int t_top_c60_9 :: .int t_ahead :: .int t_round :: .int t_digitMany_c60_9 :: .ref h_t_digit :: .ref h_t_leftU :: .ref h_t_leftV :: z_t_22 :: z_t_23 :: z_t_24 :: z_t_25 :: z_t_26 :: z_t_27 :: z_t_28 :: z_t_29 :: z_t_30 :: z_t_31 :: z_t_32 :: z_t_33 :: z_t_34 :: z_t_35 :: z_t_36 :: z_t_37 :: z_t_38 :: z_t_39 :: z_t_40 :: z_t_41 :: z_t_42 :: z_t_43 :: z_t_44 :: z_t_45 :: z_t_46 :: z_t_47 :: z_t_48 :: z_t_49 :: z_t_50 :: z_t_51 :: z_t_52 :: z_t_53 :: z_t_54 :: z_t_55 :: z_t_56 :: z_t_57 :: z_t_58 :: z_t_59 :: z_t_60 :: []))), (h_t_has, .inl (k_t_has, 10, .inl t_has)), (h_t_us, .inl (k_t_us, 10, .inl t_us)), (h_t_vs, .inl (k_t_vs, 10, .inl t_vs)), (h_t_ds, .inl (k_t_ds, 10, .inl t_ds)), (h_t_digit, .inl (k_t_digit, 500, .inr (.inl t_digit_c60_9))), (h_t_leftU, .inl (k_t_leftU, 401, .inr (.inl t_leftU_c60_9))), (h_t_leftV, .inl (k_t_leftV, 401, .inr (.inl t_leftV_c60_9)))]) [0, 4, 5, 6, 7, 1, 2, 3] 8 (by decide) (by decide) rfl hD
      refine lv_aload_n hx hb dX12_digits_63 rfl (lv_at hl 1 rfl) ?_
      refine lv_iconst (v := 1) hx hb dX12_digits_64 (by decide) ?_
      refine va_put (D := D) (ci := 12) (v := .int 1) (ty := .boolean) (C := RX12) (T := TX12) (N := 61) hx hb ha ix12 tyX12 tyX12_ok nmX12 hown hK hP hD hS 0 rfl rfl 13 (by decide) (ha _ q973) (fun _ h9 => h9) rfl (by decide +kernel) (by decide +kernel) (by decide +kernel) (Nat.le_of_ble_eq_true rfl) dX12_digits_65 (fun H locs hP hD hS => ?_)
      have hP : va_P D vwCl ((h_t, .inr (12, (.int 0 :: z_t_1 :: z_t_2 :: .int t_a :: .int t_b :: .int t_root :: .ref h_t_has :: .ref h_t_us :: .ref h_t_vs :: .ref h_t_ds :: z_t_10 :: z_t_11 :: z_t_12 :: .int 1 :: .int t_result :: .int t_top_c60_9 :: .int t_ahead :: .int t_round :: .int t_digitMany_c60_9 :: .ref h_t_digit :: .ref h_t_leftU :: .ref h_t_leftV :: z_t_22 :: z_t_23 :: z_t_24 :: z_t_25 :: z_t_26 :: z_t_27 :: z_t_28 :: z_t_29 :: z_t_30 :: z_t_31 :: z_t_32 :: z_t_33 :: z_t_34 :: z_t_35 :: z_t_36 :: z_t_37 :: z_t_38 :: z_t_39 :: z_t_40 :: z_t_41 :: z_t_42 :: z_t_43 :: z_t_44 :: z_t_45 :: z_t_46 :: z_t_47 :: z_t_48 :: z_t_49 :: z_t_50 :: z_t_51 :: z_t_52 :: z_t_53 :: z_t_54 :: z_t_55 :: z_t_56 :: z_t_57 :: z_t_58 :: z_t_59 :: z_t_60 :: []))) :: (h_t_has, .inl (k_t_has, 10, .inl t_has)) :: (h_t_us, .inl (k_t_us, 10, .inl t_us)) :: (h_t_vs, .inl (k_t_vs, 10, .inl t_vs)) :: (h_t_ds, .inl (k_t_ds, 10, .inl t_ds)) :: (h_t_digit, .inl (k_t_digit, 500, .inr (.inl t_digit_c60_9))) :: (h_t_leftU, .inl (k_t_leftU, 401, .inr (.inl t_leftU_c60_9))) :: (h_t_leftV, .inl (k_t_leftV, 401, .inr (.inl t_leftV_c60_9))) :: R) H := hP
      have hD : va_D A ((h_t, .inr (12, (.int 0 :: z_t_1 :: z_t_2 :: .int t_a :: .int t_b :: .int t_root :: .ref h_t_has :: .ref h_t_us :: .ref h_t_vs :: .ref h_t_ds :: z_t_10 :: z_t_11 :: z_t_12 :: .int 1 :: .int t_result :: .int t_top_c60_9 :: .int t_ahead :: .int t_round :: .int t_digitMany_c60_9 :: .ref h_t_digit :: .ref h_t_leftU :: .ref h_t_leftV :: z_t_22 :: z_t_23 :: z_t_24 :: z_t_25 :: z_t_26 :: z_t_27 :: z_t_28 :: z_t_29 :: z_t_30 :: z_t_31 :: z_t_32 :: z_t_33 :: z_t_34 :: z_t_35 :: z_t_36 :: z_t_37 :: z_t_38 :: z_t_39 :: z_t_40 :: z_t_41 :: z_t_42 :: z_t_43 :: z_t_44 :: z_t_45 :: z_t_46 :: z_t_47 :: z_t_48 :: z_t_49 :: z_t_50 :: z_t_51 :: z_t_52 :: z_t_53 :: z_t_54 :: z_t_55 :: z_t_56 :: z_t_57 :: z_t_58 :: z_t_59 :: z_t_60 :: []))) :: (h_t_has, .inl (k_t_has, 10, .inl t_has)) :: (h_t_us, .inl (k_t_us, 10, .inl t_us)) :: (h_t_vs, .inl (k_t_vs, 10, .inl t_vs)) :: (h_t_ds, .inl (k_t_ds, 10, .inl t_ds)) :: (h_t_digit, .inl (k_t_digit, 500, .inr (.inl t_digit_c60_9))) :: (h_t_leftU, .inl (k_t_leftU, 401, .inr (.inl t_leftU_c60_9))) :: (h_t_leftV, .inl (k_t_leftV, 401, .inr (.inl t_leftV_c60_9))) :: R) := hD
      refine lv_aload_n hx hb dX12_digits_68 rfl (lv_at hl 1 rfl) ?_
      refine lv_iconst (v := 0) hx hb dX12_digits_69 (by decide) ?_
      refine va_put (D := D) (ci := 12) (v := .int 0) (ty := .int) (C := RX12) (T := TX12) (N := 61) hx hb ha ix12 tyX12 tyX12_ok nmX12 hown hK hP hD hS 0 rfl rfl 17 (by decide) (ha _ q977) (fun _ h9 => h9) rfl (by decide +kernel) rfl rfl (Nat.le_of_ble_eq_true rfl) dX12_digits_70 (fun H locs hP hD hS => ?_)
      have hP : va_P D vwCl ((h_t, .inr (12, (.int 0 :: z_t_1 :: z_t_2 :: .int t_a :: .int t_b :: .int t_root :: .ref h_t_has :: .ref h_t_us :: .ref h_t_vs :: .ref h_t_ds :: z_t_10 :: z_t_11 :: z_t_12 :: .int 1 :: .int t_result :: .int t_top_c60_9 :: .int t_ahead :: .int 0 :: .int t_digitMany_c60_9 :: .ref h_t_digit :: .ref h_t_leftU :: .ref h_t_leftV :: z_t_22 :: z_t_23 :: z_t_24 :: z_t_25 :: z_t_26 :: z_t_27 :: z_t_28 :: z_t_29 :: z_t_30 :: z_t_31 :: z_t_32 :: z_t_33 :: z_t_34 :: z_t_35 :: z_t_36 :: z_t_37 :: z_t_38 :: z_t_39 :: z_t_40 :: z_t_41 :: z_t_42 :: z_t_43 :: z_t_44 :: z_t_45 :: z_t_46 :: z_t_47 :: z_t_48 :: z_t_49 :: z_t_50 :: z_t_51 :: z_t_52 :: z_t_53 :: z_t_54 :: z_t_55 :: z_t_56 :: z_t_57 :: z_t_58 :: z_t_59 :: z_t_60 :: []))) :: (h_t_has, .inl (k_t_has, 10, .inl t_has)) :: (h_t_us, .inl (k_t_us, 10, .inl t_us)) :: (h_t_vs, .inl (k_t_vs, 10, .inl t_vs)) :: (h_t_ds, .inl (k_t_ds, 10, .inl t_ds)) :: (h_t_digit, .inl (k_t_digit, 500, .inr (.inl t_digit_c60_9))) :: (h_t_leftU, .inl (k_t_leftU, 401, .inr (.inl t_leftU_c60_9))) :: (h_t_leftV, .inl (k_t_leftV, 401, .inr (.inl t_leftV_c60_9))) :: R) H := hP
      have hD : va_D A ((h_t, .inr (12, (.int 0 :: z_t_1 :: z_t_2 :: .int t_a :: .int t_b :: .int t_root :: .ref h_t_has :: .ref h_t_us :: .ref h_t_vs :: .ref h_t_ds :: z_t_10 :: z_t_11 :: z_t_12 :: .int 1 :: .int t_result :: .int t_top_c60_9 :: .int t_ahead :: .int 0 :: .int t_digitMany_c60_9 :: .ref h_t_digit :: .ref h_t_leftU :: .ref h_t_leftV :: z_t_22 :: z_t_23 :: z_t_24 :: z_t_25 :: z_t_26 :: z_t_27 :: z_t_28 :: z_t_29 :: z_t_30 :: z_t_31 :: z_t_32 :: z_t_33 :: z_t_34 :: z_t_35 :: z_t_36 :: z_t_37 :: z_t_38 :: z_t_39 :: z_t_40 :: z_t_41 :: z_t_42 :: z_t_43 :: z_t_44 :: z_t_45 :: z_t_46 :: z_t_47 :: z_t_48 :: z_t_49 :: z_t_50 :: z_t_51 :: z_t_52 :: z_t_53 :: z_t_54 :: z_t_55 :: z_t_56 :: z_t_57 :: z_t_58 :: z_t_59 :: z_t_60 :: []))) :: (h_t_has, .inl (k_t_has, 10, .inl t_has)) :: (h_t_us, .inl (k_t_us, 10, .inl t_us)) :: (h_t_vs, .inl (k_t_vs, 10, .inl t_vs)) :: (h_t_ds, .inl (k_t_ds, 10, .inl t_ds)) :: (h_t_digit, .inl (k_t_digit, 500, .inr (.inl t_digit_c60_9))) :: (h_t_leftU, .inl (k_t_leftU, 401, .inr (.inl t_leftU_c60_9))) :: (h_t_leftV, .inl (k_t_leftV, 401, .inr (.inl t_leftV_c60_9))) :: R) := hD
      refine lv_iconst (v := 0) hx hb dX12_digits_73 (by decide) ?_
      refine lv_istore (lv' := [(4, .int 0), (2, .long (t_ds l1.toNatClampNeg).toInt64), (0, .ref h_t), (1, .int l1)]) hx hb dX12_digits_74 hl (by decide) rfl (fun ls hl => ?_)
      obtain ⟨tg_L76_41, x4_L76_41, x5_L76_41, x_t_ahead_L76_41, x_t_digitMany_L76_41, x_t_digit_L76_41, x_t_leftU_L76_41, x_t_leftV_L76_41, e_L76_41, h⟩ := bnd8_ok h
      refine L76 _ _ ((t_ds l1.toNatClampNeg).toInt64) 0 0 1 t_result t_top_c60_9 t_ahead 0 t_digitMany_c60_9 t_digit_c60_9 t_leftU_c60_9 t_leftV_c60_9 tg_L76_41 x4_L76_41 x5_L76_41 x_t_ahead_L76_41 x_t_digitMany_L76_41 x_t_digit_L76_41 x_t_leftU_L76_41 x_t_leftV_L76_41 e_L76_41 _ _ _ hP hD hS (lv_sub hl [2, 1, 0] rfl) ?_ ?_ ?_
      · intro q9 H locs ls hP hD hS hl
        have h := br_pos q9 h
        refine lv_aload_n hx hb dX12_digits_106 rfl (lv_at hl 0 rfl) ?_
        refine lv_iconst (v := 0) hx hb dX12_digits_107 (by decide) ?_
        refine va_put (D := D) (ci := 12) (v := .int 0) (ty := .int) (C := RX12) (T := TX12) (N := 61) hx hb ha ix12 tyX12 tyX12_ok nmX12 hown hK hP hD hS 0 rfl rfl 14 (by decide) (ha _ q974) (fun _ h9 => h9) rfl (by decide +kernel) rfl rfl (Nat.le_of_ble_eq_true rfl) dX12_digits_108 (fun H locs hP hD hS => ?_)
        have hP : va_P D vwCl ((h_t, .inr (12, (.int 0 :: z_t_1 :: z_t_2 :: .int t_a :: .int t_b :: .int t_root :: .ref h_t_has :: .ref h_t_us :: .ref h_t_vs :: .ref h_t_ds :: z_t_10 :: z_t_11 :: z_t_12 :: .int 1 :: .int 0 :: .int t_top_c60_9 :: .int x_t_ahead_L76_41 :: .int 0 :: .int x_t_digitMany_L76_41 :: .ref h_t_digit :: .ref h_t_leftU :: .ref h_t_leftV :: z_t_22 :: z_t_23 :: z_t_24 :: z_t_25 :: z_t_26 :: z_t_27 :: z_t_28 :: z_t_29 :: z_t_30 :: z_t_31 :: z_t_32 :: z_t_33 :: z_t_34 :: z_t_35 :: z_t_36 :: z_t_37 :: z_t_38 :: z_t_39 :: z_t_40 :: z_t_41 :: z_t_42 :: z_t_43 :: z_t_44 :: z_t_45 :: z_t_46 :: z_t_47 :: z_t_48 :: z_t_49 :: z_t_50 :: z_t_51 :: z_t_52 :: z_t_53 :: z_t_54 :: z_t_55 :: z_t_56 :: z_t_57 :: z_t_58 :: z_t_59 :: z_t_60 :: []))) :: (h_t_has, .inl (k_t_has, 10, .inl t_has)) :: (h_t_us, .inl (k_t_us, 10, .inl t_us)) :: (h_t_vs, .inl (k_t_vs, 10, .inl t_vs)) :: (h_t_ds, .inl (k_t_ds, 10, .inl t_ds)) :: (h_t_digit, .inl (k_t_digit, 500, .inr (.inl x_t_digit_L76_41))) :: (h_t_leftU, .inl (k_t_leftU, 401, .inr (.inl x_t_leftU_L76_41))) :: (h_t_leftV, .inl (k_t_leftV, 401, .inr (.inl x_t_leftV_L76_41))) :: R) H := hP
        have hD : va_D A ((h_t, .inr (12, (.int 0 :: z_t_1 :: z_t_2 :: .int t_a :: .int t_b :: .int t_root :: .ref h_t_has :: .ref h_t_us :: .ref h_t_vs :: .ref h_t_ds :: z_t_10 :: z_t_11 :: z_t_12 :: .int 1 :: .int 0 :: .int t_top_c60_9 :: .int x_t_ahead_L76_41 :: .int 0 :: .int x_t_digitMany_L76_41 :: .ref h_t_digit :: .ref h_t_leftU :: .ref h_t_leftV :: z_t_22 :: z_t_23 :: z_t_24 :: z_t_25 :: z_t_26 :: z_t_27 :: z_t_28 :: z_t_29 :: z_t_30 :: z_t_31 :: z_t_32 :: z_t_33 :: z_t_34 :: z_t_35 :: z_t_36 :: z_t_37 :: z_t_38 :: z_t_39 :: z_t_40 :: z_t_41 :: z_t_42 :: z_t_43 :: z_t_44 :: z_t_45 :: z_t_46 :: z_t_47 :: z_t_48 :: z_t_49 :: z_t_50 :: z_t_51 :: z_t_52 :: z_t_53 :: z_t_54 :: z_t_55 :: z_t_56 :: z_t_57 :: z_t_58 :: z_t_59 :: z_t_60 :: []))) :: (h_t_has, .inl (k_t_has, 10, .inl t_has)) :: (h_t_us, .inl (k_t_us, 10, .inl t_us)) :: (h_t_vs, .inl (k_t_vs, 10, .inl t_vs)) :: (h_t_ds, .inl (k_t_ds, 10, .inl t_ds)) :: (h_t_digit, .inl (k_t_digit, 500, .inr (.inl x_t_digit_L76_41))) :: (h_t_leftU, .inl (k_t_leftU, 401, .inr (.inl x_t_leftU_L76_41))) :: (h_t_leftV, .inl (k_t_leftV, 401, .inr (.inl x_t_leftV_L76_41))) :: R) := hD
        refine lv_iconst (v := 0) hx hb dX12_digits_111 (by decide) ?_
        cases h
        exact rt_i S hr hlk hP hD hS dX12_digits_112
      · intro q9 H locs ls hP hD hS hl
        have h := br_neg (by rw [q9]; decide) h
        have h := br_pos q9 h
        refine lv_aload_n hx hb dX12_digits_162 rfl (lv_at hl 0 rfl) ?_
        refine lv_iload hx hb dX12_digits_163 (lv_at hl 2 rfl) ?_
        refine va_put (D := D) (ci := 12) (v := .int x5_L76_41) (ty := .int) (C := RX12) (T := TX12) (N := 61) hx hb ha ix12 tyX12 tyX12_ok nmX12 hown hK hP hD hS 0 rfl rfl 16 (by decide) (ha _ q976) (fun _ h9 => h9) rfl (by decide +kernel) rfl rfl (Nat.le_of_ble_eq_true rfl) dX12_digits_165 (fun H locs hP hD hS => ?_)
        have hP : va_P D vwCl ((h_t, .inr (12, (.int 0 :: z_t_1 :: z_t_2 :: .int t_a :: .int t_b :: .int t_root :: .ref h_t_has :: .ref h_t_us :: .ref h_t_vs :: .ref h_t_ds :: z_t_10 :: z_t_11 :: z_t_12 :: .int 1 :: .int t_result :: .int t_top_c60_9 :: .int x5_L76_41 :: .int 0 :: .int x_t_digitMany_L76_41 :: .ref h_t_digit :: .ref h_t_leftU :: .ref h_t_leftV :: z_t_22 :: z_t_23 :: z_t_24 :: z_t_25 :: z_t_26 :: z_t_27 :: z_t_28 :: z_t_29 :: z_t_30 :: z_t_31 :: z_t_32 :: z_t_33 :: z_t_34 :: z_t_35 :: z_t_36 :: z_t_37 :: z_t_38 :: z_t_39 :: z_t_40 :: z_t_41 :: z_t_42 :: z_t_43 :: z_t_44 :: z_t_45 :: z_t_46 :: z_t_47 :: z_t_48 :: z_t_49 :: z_t_50 :: z_t_51 :: z_t_52 :: z_t_53 :: z_t_54 :: z_t_55 :: z_t_56 :: z_t_57 :: z_t_58 :: z_t_59 :: z_t_60 :: []))) :: (h_t_has, .inl (k_t_has, 10, .inl t_has)) :: (h_t_us, .inl (k_t_us, 10, .inl t_us)) :: (h_t_vs, .inl (k_t_vs, 10, .inl t_vs)) :: (h_t_ds, .inl (k_t_ds, 10, .inl t_ds)) :: (h_t_digit, .inl (k_t_digit, 500, .inr (.inl x_t_digit_L76_41))) :: (h_t_leftU, .inl (k_t_leftU, 401, .inr (.inl x_t_leftU_L76_41))) :: (h_t_leftV, .inl (k_t_leftV, 401, .inr (.inl x_t_leftV_L76_41))) :: R) H := hP
        have hD : va_D A ((h_t, .inr (12, (.int 0 :: z_t_1 :: z_t_2 :: .int t_a :: .int t_b :: .int t_root :: .ref h_t_has :: .ref h_t_us :: .ref h_t_vs :: .ref h_t_ds :: z_t_10 :: z_t_11 :: z_t_12 :: .int 1 :: .int t_result :: .int t_top_c60_9 :: .int x5_L76_41 :: .int 0 :: .int x_t_digitMany_L76_41 :: .ref h_t_digit :: .ref h_t_leftU :: .ref h_t_leftV :: z_t_22 :: z_t_23 :: z_t_24 :: z_t_25 :: z_t_26 :: z_t_27 :: z_t_28 :: z_t_29 :: z_t_30 :: z_t_31 :: z_t_32 :: z_t_33 :: z_t_34 :: z_t_35 :: z_t_36 :: z_t_37 :: z_t_38 :: z_t_39 :: z_t_40 :: z_t_41 :: z_t_42 :: z_t_43 :: z_t_44 :: z_t_45 :: z_t_46 :: z_t_47 :: z_t_48 :: z_t_49 :: z_t_50 :: z_t_51 :: z_t_52 :: z_t_53 :: z_t_54 :: z_t_55 :: z_t_56 :: z_t_57 :: z_t_58 :: z_t_59 :: z_t_60 :: []))) :: (h_t_has, .inl (k_t_has, 10, .inl t_has)) :: (h_t_us, .inl (k_t_us, 10, .inl t_us)) :: (h_t_vs, .inl (k_t_vs, 10, .inl t_vs)) :: (h_t_ds, .inl (k_t_ds, 10, .inl t_ds)) :: (h_t_digit, .inl (k_t_digit, 500, .inr (.inl x_t_digit_L76_41))) :: (h_t_leftU, .inl (k_t_leftU, 401, .inr (.inl x_t_leftU_L76_41))) :: (h_t_leftV, .inl (k_t_leftV, 401, .inr (.inl x_t_leftV_L76_41))) :: R) := hD
        refine lv_aload_n hx hb dX12_digits_168 rfl (lv_at hl 0 rfl) ?_
        refine lv_iload hx hb dX12_digits_169 (lv_at hl 1 rfl) ?_
        refine lv_iload hx hb dX12_digits_171 (lv_at hl 2 rfl) ?_
        refine lv_isub hx hb dX12_digits_173 ?_
        refine va_put (D := D) (ci := 12) (v := .int (x4_L76_41 - x5_L76_41)) (ty := .int) (C := RX12) (T := TX12) (N := 61) hx hb ha ix12 tyX12 tyX12_ok nmX12 hown hK hP hD hS 0 rfl rfl 17 (by decide) (ha _ q977) (fun _ h9 => h9) rfl (by decide +kernel) rfl rfl (Nat.le_of_ble_eq_true rfl) dX12_digits_174 (fun H locs hP hD hS => ?_)
        have hP : va_P D vwCl ((h_t, .inr (12, (.int 0 :: z_t_1 :: z_t_2 :: .int t_a :: .int t_b :: .int t_root :: .ref h_t_has :: .ref h_t_us :: .ref h_t_vs :: .ref h_t_ds :: z_t_10 :: z_t_11 :: z_t_12 :: .int 1 :: .int t_result :: .int t_top_c60_9 :: .int x5_L76_41 :: .int (x4_L76_41 - x5_L76_41) :: .int x_t_digitMany_L76_41 :: .ref h_t_digit :: .ref h_t_leftU :: .ref h_t_leftV :: z_t_22 :: z_t_23 :: z_t_24 :: z_t_25 :: z_t_26 :: z_t_27 :: z_t_28 :: z_t_29 :: z_t_30 :: z_t_31 :: z_t_32 :: z_t_33 :: z_t_34 :: z_t_35 :: z_t_36 :: z_t_37 :: z_t_38 :: z_t_39 :: z_t_40 :: z_t_41 :: z_t_42 :: z_t_43 :: z_t_44 :: z_t_45 :: z_t_46 :: z_t_47 :: z_t_48 :: z_t_49 :: z_t_50 :: z_t_51 :: z_t_52 :: z_t_53 :: z_t_54 :: z_t_55 :: z_t_56 :: z_t_57 :: z_t_58 :: z_t_59 :: z_t_60 :: []))) :: (h_t_has, .inl (k_t_has, 10, .inl t_has)) :: (h_t_us, .inl (k_t_us, 10, .inl t_us)) :: (h_t_vs, .inl (k_t_vs, 10, .inl t_vs)) :: (h_t_ds, .inl (k_t_ds, 10, .inl t_ds)) :: (h_t_digit, .inl (k_t_digit, 500, .inr (.inl x_t_digit_L76_41))) :: (h_t_leftU, .inl (k_t_leftU, 401, .inr (.inl x_t_leftU_L76_41))) :: (h_t_leftV, .inl (k_t_leftV, 401, .inr (.inl x_t_leftV_L76_41))) :: R) H := hP
        have hD : va_D A ((h_t, .inr (12, (.int 0 :: z_t_1 :: z_t_2 :: .int t_a :: .int t_b :: .int t_root :: .ref h_t_has :: .ref h_t_us :: .ref h_t_vs :: .ref h_t_ds :: z_t_10 :: z_t_11 :: z_t_12 :: .int 1 :: .int t_result :: .int t_top_c60_9 :: .int x5_L76_41 :: .int (x4_L76_41 - x5_L76_41) :: .int x_t_digitMany_L76_41 :: .ref h_t_digit :: .ref h_t_leftU :: .ref h_t_leftV :: z_t_22 :: z_t_23 :: z_t_24 :: z_t_25 :: z_t_26 :: z_t_27 :: z_t_28 :: z_t_29 :: z_t_30 :: z_t_31 :: z_t_32 :: z_t_33 :: z_t_34 :: z_t_35 :: z_t_36 :: z_t_37 :: z_t_38 :: z_t_39 :: z_t_40 :: z_t_41 :: z_t_42 :: z_t_43 :: z_t_44 :: z_t_45 :: z_t_46 :: z_t_47 :: z_t_48 :: z_t_49 :: z_t_50 :: z_t_51 :: z_t_52 :: z_t_53 :: z_t_54 :: z_t_55 :: z_t_56 :: z_t_57 :: z_t_58 :: z_t_59 :: z_t_60 :: []))) :: (h_t_has, .inl (k_t_has, 10, .inl t_has)) :: (h_t_us, .inl (k_t_us, 10, .inl t_us)) :: (h_t_vs, .inl (k_t_vs, 10, .inl t_vs)) :: (h_t_ds, .inl (k_t_ds, 10, .inl t_ds)) :: (h_t_digit, .inl (k_t_digit, 500, .inr (.inl x_t_digit_L76_41))) :: (h_t_leftU, .inl (k_t_leftU, 401, .inr (.inl x_t_leftU_L76_41))) :: (h_t_leftV, .inl (k_t_leftV, 401, .inr (.inl x_t_leftV_L76_41))) :: R) := hD
        refine lv_aload_n hx hb dX12_digits_177 rfl (lv_at hl 0 rfl) ?_
        refine lv_iconst (v := 1) hx hb dX12_digits_178 (by decide) ?_
        refine va_put (D := D) (ci := 12) (v := .int 1) (ty := .int) (C := RX12) (T := TX12) (N := 61) hx hb ha ix12 tyX12 tyX12_ok nmX12 hown hK hP hD hS 0 rfl rfl 14 (by decide) (ha _ q974) (fun _ h9 => h9) rfl (by decide +kernel) rfl rfl (Nat.le_of_ble_eq_true rfl) dX12_digits_179 (fun H locs hP hD hS => ?_)
        have hP : va_P D vwCl ((h_t, .inr (12, (.int 0 :: z_t_1 :: z_t_2 :: .int t_a :: .int t_b :: .int t_root :: .ref h_t_has :: .ref h_t_us :: .ref h_t_vs :: .ref h_t_ds :: z_t_10 :: z_t_11 :: z_t_12 :: .int 1 :: .int 1 :: .int t_top_c60_9 :: .int x5_L76_41 :: .int (x4_L76_41 - x5_L76_41) :: .int x_t_digitMany_L76_41 :: .ref h_t_digit :: .ref h_t_leftU :: .ref h_t_leftV :: z_t_22 :: z_t_23 :: z_t_24 :: z_t_25 :: z_t_26 :: z_t_27 :: z_t_28 :: z_t_29 :: z_t_30 :: z_t_31 :: z_t_32 :: z_t_33 :: z_t_34 :: z_t_35 :: z_t_36 :: z_t_37 :: z_t_38 :: z_t_39 :: z_t_40 :: z_t_41 :: z_t_42 :: z_t_43 :: z_t_44 :: z_t_45 :: z_t_46 :: z_t_47 :: z_t_48 :: z_t_49 :: z_t_50 :: z_t_51 :: z_t_52 :: z_t_53 :: z_t_54 :: z_t_55 :: z_t_56 :: z_t_57 :: z_t_58 :: z_t_59 :: z_t_60 :: []))) :: (h_t_has, .inl (k_t_has, 10, .inl t_has)) :: (h_t_us, .inl (k_t_us, 10, .inl t_us)) :: (h_t_vs, .inl (k_t_vs, 10, .inl t_vs)) :: (h_t_ds, .inl (k_t_ds, 10, .inl t_ds)) :: (h_t_digit, .inl (k_t_digit, 500, .inr (.inl x_t_digit_L76_41))) :: (h_t_leftU, .inl (k_t_leftU, 401, .inr (.inl x_t_leftU_L76_41))) :: (h_t_leftV, .inl (k_t_leftV, 401, .inr (.inl x_t_leftV_L76_41))) :: R) H := hP
        have hD : va_D A ((h_t, .inr (12, (.int 0 :: z_t_1 :: z_t_2 :: .int t_a :: .int t_b :: .int t_root :: .ref h_t_has :: .ref h_t_us :: .ref h_t_vs :: .ref h_t_ds :: z_t_10 :: z_t_11 :: z_t_12 :: .int 1 :: .int 1 :: .int t_top_c60_9 :: .int x5_L76_41 :: .int (x4_L76_41 - x5_L76_41) :: .int x_t_digitMany_L76_41 :: .ref h_t_digit :: .ref h_t_leftU :: .ref h_t_leftV :: z_t_22 :: z_t_23 :: z_t_24 :: z_t_25 :: z_t_26 :: z_t_27 :: z_t_28 :: z_t_29 :: z_t_30 :: z_t_31 :: z_t_32 :: z_t_33 :: z_t_34 :: z_t_35 :: z_t_36 :: z_t_37 :: z_t_38 :: z_t_39 :: z_t_40 :: z_t_41 :: z_t_42 :: z_t_43 :: z_t_44 :: z_t_45 :: z_t_46 :: z_t_47 :: z_t_48 :: z_t_49 :: z_t_50 :: z_t_51 :: z_t_52 :: z_t_53 :: z_t_54 :: z_t_55 :: z_t_56 :: z_t_57 :: z_t_58 :: z_t_59 :: z_t_60 :: []))) :: (h_t_has, .inl (k_t_has, 10, .inl t_has)) :: (h_t_us, .inl (k_t_us, 10, .inl t_us)) :: (h_t_vs, .inl (k_t_vs, 10, .inl t_vs)) :: (h_t_ds, .inl (k_t_ds, 10, .inl t_ds)) :: (h_t_digit, .inl (k_t_digit, 500, .inr (.inl x_t_digit_L76_41))) :: (h_t_leftU, .inl (k_t_leftU, 401, .inr (.inl x_t_leftU_L76_41))) :: (h_t_leftV, .inl (k_t_leftV, 401, .inr (.inl x_t_leftV_L76_41))) :: R) := hD
        refine lv_iconst (v := 1) hx hb dX12_digits_182 (by decide) ?_
        cases h
        exact rt_i S hr hlk hP hD hS dX12_digits_183
      · intro q9 H locs ls hP hD hS hl
        have h := br_neg (by rw [q9]; decide) h
        have h := br_neg (by rw [q9]; decide) h
        refine lv_goto (tgt := 319) hx hb dX12_digits_198 (by decide) ?_
        refine lv_aload_n hx hb dX12_digits_319 rfl (lv_at hl 0 rfl) ?_
        refine lv_iconst (v := 2) hx hb dX12_digits_320 (by decide) ?_
        refine va_put (D := D) (ci := 12) (v := .int 2) (ty := .int) (C := RX12) (T := TX12) (N := 61) hx hb ha ix12 tyX12 tyX12_ok nmX12 hown hK hP hD hS 0 rfl rfl 14 (by decide) (ha _ q974) (fun _ h9 => h9) rfl (by decide +kernel) rfl rfl (Nat.le_of_ble_eq_true rfl) dX12_digits_321 (fun H locs hP hD hS => ?_)
        have hP : va_P D vwCl ((h_t, .inr (12, (.int 0 :: z_t_1 :: z_t_2 :: .int t_a :: .int t_b :: .int t_root :: .ref h_t_has :: .ref h_t_us :: .ref h_t_vs :: .ref h_t_ds :: z_t_10 :: z_t_11 :: z_t_12 :: .int 1 :: .int 2 :: .int t_top_c60_9 :: .int x_t_ahead_L76_41 :: .int 0 :: .int x_t_digitMany_L76_41 :: .ref h_t_digit :: .ref h_t_leftU :: .ref h_t_leftV :: z_t_22 :: z_t_23 :: z_t_24 :: z_t_25 :: z_t_26 :: z_t_27 :: z_t_28 :: z_t_29 :: z_t_30 :: z_t_31 :: z_t_32 :: z_t_33 :: z_t_34 :: z_t_35 :: z_t_36 :: z_t_37 :: z_t_38 :: z_t_39 :: z_t_40 :: z_t_41 :: z_t_42 :: z_t_43 :: z_t_44 :: z_t_45 :: z_t_46 :: z_t_47 :: z_t_48 :: z_t_49 :: z_t_50 :: z_t_51 :: z_t_52 :: z_t_53 :: z_t_54 :: z_t_55 :: z_t_56 :: z_t_57 :: z_t_58 :: z_t_59 :: z_t_60 :: []))) :: (h_t_has, .inl (k_t_has, 10, .inl t_has)) :: (h_t_us, .inl (k_t_us, 10, .inl t_us)) :: (h_t_vs, .inl (k_t_vs, 10, .inl t_vs)) :: (h_t_ds, .inl (k_t_ds, 10, .inl t_ds)) :: (h_t_digit, .inl (k_t_digit, 500, .inr (.inl x_t_digit_L76_41))) :: (h_t_leftU, .inl (k_t_leftU, 401, .inr (.inl x_t_leftU_L76_41))) :: (h_t_leftV, .inl (k_t_leftV, 401, .inr (.inl x_t_leftV_L76_41))) :: R) H := hP
        have hD : va_D A ((h_t, .inr (12, (.int 0 :: z_t_1 :: z_t_2 :: .int t_a :: .int t_b :: .int t_root :: .ref h_t_has :: .ref h_t_us :: .ref h_t_vs :: .ref h_t_ds :: z_t_10 :: z_t_11 :: z_t_12 :: .int 1 :: .int 2 :: .int t_top_c60_9 :: .int x_t_ahead_L76_41 :: .int 0 :: .int x_t_digitMany_L76_41 :: .ref h_t_digit :: .ref h_t_leftU :: .ref h_t_leftV :: z_t_22 :: z_t_23 :: z_t_24 :: z_t_25 :: z_t_26 :: z_t_27 :: z_t_28 :: z_t_29 :: z_t_30 :: z_t_31 :: z_t_32 :: z_t_33 :: z_t_34 :: z_t_35 :: z_t_36 :: z_t_37 :: z_t_38 :: z_t_39 :: z_t_40 :: z_t_41 :: z_t_42 :: z_t_43 :: z_t_44 :: z_t_45 :: z_t_46 :: z_t_47 :: z_t_48 :: z_t_49 :: z_t_50 :: z_t_51 :: z_t_52 :: z_t_53 :: z_t_54 :: z_t_55 :: z_t_56 :: z_t_57 :: z_t_58 :: z_t_59 :: z_t_60 :: []))) :: (h_t_has, .inl (k_t_has, 10, .inl t_has)) :: (h_t_us, .inl (k_t_us, 10, .inl t_us)) :: (h_t_vs, .inl (k_t_vs, 10, .inl t_vs)) :: (h_t_ds, .inl (k_t_ds, 10, .inl t_ds)) :: (h_t_digit, .inl (k_t_digit, 500, .inr (.inl x_t_digit_L76_41))) :: (h_t_leftU, .inl (k_t_leftU, 401, .inr (.inl x_t_leftU_L76_41))) :: (h_t_leftV, .inl (k_t_leftV, 401, .inr (.inl x_t_leftV_L76_41))) :: R) := hD
        refine lv_iconst (v := 2) hx hb dX12_digits_324 (by decide) ?_
        cases h
        exact rt_i S hr hlk hP hD hS dX12_digits_325
    · have h := br_neg c6 h
      refine lv_iconst (v := (-1)) hx hb dX12_digits_34 (by decide) ?_
      cases h
      exact rt_i S hr hlk hP hD hS dX12_digits_35
