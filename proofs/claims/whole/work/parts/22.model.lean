def f_X12_part (t_thrown : Int32) (t_has : Nat → Int32) (t_us : Nat → Int32) (t_vs : Nat → Int32) (t_ds : Nat → Int32) (l1 : Int32) (l2 : Int32) : Option (Int32 × Int32) :=
  bnd1 (f_X12_isThere t_has l1) fun r_c3_0 => (
   if r_c3_0 = 0 then (
    bnd2 (f_X12_throwsIf t_thrown 1) fun r_c23_2 t_thrown_c23_2 => (
     if r_c23_2 = 0 then (
      if l2 = 0 then (
       gd (ixb l1 10) (
        some ((t_us l1.toNatClampNeg), t_thrown_c23_2)
       )
      ) else (
       if l2 = 1 then (
        gd (ixb l1 10) (
         some ((t_vs l1.toNatClampNeg), t_thrown_c23_2)
        )
       ) else (
        gd (ixb l1 10) (
         some ((t_ds l1.toNatClampNeg), t_thrown_c23_2)
        )
       )
      )
     ) else (
      some (0, t_thrown_c23_2)
     )
    )
   ) else (
    if l2 < 0 then (
     bnd2 (f_X12_throwsIf t_thrown 1) fun r_c23_10 t_thrown_c23_10 => (
      if r_c23_10 = 0 then (
       if l2 = 0 then (
        gd (ixb l1 10) (
         some ((t_us l1.toNatClampNeg), t_thrown_c23_10)
        )
       ) else (
        if l2 = 1 then (
         gd (ixb l1 10) (
          some ((t_vs l1.toNatClampNeg), t_thrown_c23_10)
         )
        ) else (
         gd (ixb l1 10) (
          some ((t_ds l1.toNatClampNeg), t_thrown_c23_10)
         )
        )
       )
      ) else (
       some (0, t_thrown_c23_10)
      )
     )
    ) else (
     if l2 ≤ 2 then (
      bnd2 (f_X12_throwsIf t_thrown 0) fun r_c23_18 t_thrown_c23_18 => (
       if r_c23_18 = 0 then (
        if l2 = 0 then (
         gd (ixb l1 10) (
          some ((t_us l1.toNatClampNeg), t_thrown_c23_18)
         )
        ) else (
         if l2 = 1 then (
          gd (ixb l1 10) (
           some ((t_vs l1.toNatClampNeg), t_thrown_c23_18)
          )
         ) else (
          gd (ixb l1 10) (
           some ((t_ds l1.toNatClampNeg), t_thrown_c23_18)
          )
         )
        )
       ) else (
        some (0, t_thrown_c23_18)
       )
      )
     ) else (
      bnd2 (f_X12_throwsIf t_thrown 1) fun r_c23_25 t_thrown_c23_25 => (
       if r_c23_25 = 0 then (
        if l2 = 0 then (
         gd (ixb l1 10) (
          some ((t_us l1.toNatClampNeg), t_thrown_c23_25)
         )
        ) else (
         if l2 = 1 then (
          gd (ixb l1 10) (
           some ((t_vs l1.toNatClampNeg), t_thrown_c23_25)
          )
         ) else (
          gd (ixb l1 10) (
           some ((t_ds l1.toNatClampNeg), t_thrown_c23_25)
          )
         )
        )
       ) else (
        some (0, t_thrown_c23_25)
       )
      )
     )
    )
   )
  )
set_option maxHeartbeats 4000000 in
set_option maxRecDepth 100000 in
theorem c_X12_part (l : Launch) (D : va_G) (R : va_W) (h_t : Nat) (t_thrown : Int32) (z_t_1 : Value) (z_t_2 : Value) (z_t_3 : Value) (z_t_4 : Value) (z_t_5 : Value) (z_t_10 : Value) (z_t_11 : Value) (z_t_12 : Value) (z_t_13 : Value) (z_t_14 : Value) (z_t_15 : Value) (z_t_16 : Value) (z_t_17 : Value) (z_t_18 : Value) (z_t_19 : Value) (z_t_20 : Value) (z_t_21 : Value) (z_t_22 : Value) (z_t_23 : Value) (z_t_24 : Value) (z_t_25 : Value) (z_t_26 : Value) (z_t_27 : Value) (z_t_28 : Value) (z_t_29 : Value) (z_t_30 : Value) (z_t_31 : Value) (z_t_32 : Value) (z_t_33 : Value) (z_t_34 : Value) (z_t_35 : Value) (z_t_36 : Value) (z_t_37 : Value) (z_t_38 : Value) (z_t_39 : Value) (z_t_40 : Value) (z_t_41 : Value) (z_t_42 : Value) (z_t_43 : Value) (z_t_44 : Value) (z_t_45 : Value) (z_t_46 : Value) (z_t_47 : Value) (z_t_48 : Value) (z_t_49 : Value) (z_t_50 : Value) (z_t_51 : Value) (z_t_52 : Value) (z_t_53 : Value) (z_t_54 : Value) (z_t_55 : Value) (z_t_56 : Value) (z_t_57 : Value) (z_t_58 : Value) (z_t_59 : Value) (z_t_60 : Value) (h_t_has : Nat) (k_t_has : ClassId) (t_has : Nat → Int32) (h_t_us : Nat) (k_t_us : ClassId) (t_us : Nat → Int32) (h_t_vs : Nat) (k_t_vs : ClassId) (t_vs : Nat → Int32) (h_t_ds : Nat) (k_t_ds : ClassId) (t_ds : Nat → Int32) (l1 : Int32) (l2 : Int32) (r : Int32) (o_t_thrown : Int32)  (h : f_X12_part t_thrown t_has t_us t_vs t_ds l1 l2 = some (r, o_t_thrown)) (sz : Nat) : Met l yX12_part (WD yX12_part cX12_part 3 (some .int)) ({ frames := 1, cells := 0, slots := 0, locals := 21 }) (va_Pc [.ref h_t, .int l1, .int l2] (PcW D [(k_t_has, .boolean), (k_t_us, .int), (k_t_vs, .int), (k_t_ds, .int)] ((h_t, .inr (12, [.int t_thrown, z_t_1, z_t_2, z_t_3, z_t_4, z_t_5, .ref h_t_has, .ref h_t_us, .ref h_t_vs, .ref h_t_ds, z_t_10, z_t_11, z_t_12, z_t_13, z_t_14, z_t_15, z_t_16, z_t_17, z_t_18, z_t_19, z_t_20, z_t_21, z_t_22, z_t_23, z_t_24, z_t_25, z_t_26, z_t_27, z_t_28, z_t_29, z_t_30, z_t_31, z_t_32, z_t_33, z_t_34, z_t_35, z_t_36, z_t_37, z_t_38, z_t_39, z_t_40, z_t_41, z_t_42, z_t_43, z_t_44, z_t_45, z_t_46, z_t_47, z_t_48, z_t_49, z_t_50, z_t_51, z_t_52, z_t_53, z_t_54, z_t_55, z_t_56, z_t_57, z_t_58, z_t_59, z_t_60])) :: (h_t_has, .inl (k_t_has, 10, .inl t_has)) :: (h_t_us, .inl (k_t_us, 10, .inl t_us)) :: (h_t_vs, .inl (k_t_vs, 10, .inl t_vs)) :: (h_t_ds, .inl (k_t_ds, 10, .inl t_ds)) :: R) sz)) (QI D r ((h_t, .inr (12, [.int o_t_thrown, z_t_1, z_t_2, z_t_3, z_t_4, z_t_5, .ref h_t_has, .ref h_t_us, .ref h_t_vs, .ref h_t_ds, z_t_10, z_t_11, z_t_12, z_t_13, z_t_14, z_t_15, z_t_16, z_t_17, z_t_18, z_t_19, z_t_20, z_t_21, z_t_22, z_t_23, z_t_24, z_t_25, z_t_26, z_t_27, z_t_28, z_t_29, z_t_30, z_t_31, z_t_32, z_t_33, z_t_34, z_t_35, z_t_36, z_t_37, z_t_38, z_t_39, z_t_40, z_t_41, z_t_42, z_t_43, z_t_44, z_t_45, z_t_46, z_t_47, z_t_48, z_t_49, z_t_50, z_t_51, z_t_52, z_t_53, z_t_54, z_t_55, z_t_56, z_t_57, z_t_58, z_t_59, z_t_60])) :: (h_t_has, .inl (k_t_has, 10, .inl t_has)) :: (h_t_us, .inl (k_t_us, 10, .inl t_us)) :: (h_t_vs, .inl (k_t_vs, 10, .inl t_vs)) :: (h_t_ds, .inl (k_t_ds, 10, .inl t_ds)) :: R) (va_A ((h_t, .inr (12, [.int t_thrown, z_t_1, z_t_2, z_t_3, z_t_4, z_t_5, .ref h_t_has, .ref h_t_us, .ref h_t_vs, .ref h_t_ds, z_t_10, z_t_11, z_t_12, z_t_13, z_t_14, z_t_15, z_t_16, z_t_17, z_t_18, z_t_19, z_t_20, z_t_21, z_t_22, z_t_23, z_t_24, z_t_25, z_t_26, z_t_27, z_t_28, z_t_29, z_t_30, z_t_31, z_t_32, z_t_33, z_t_34, z_t_35, z_t_36, z_t_37, z_t_38, z_t_39, z_t_40, z_t_41, z_t_42, z_t_43, z_t_44, z_t_45, z_t_46, z_t_47, z_t_48, z_t_49, z_t_50, z_t_51, z_t_52, z_t_53, z_t_54, z_t_55, z_t_56, z_t_57, z_t_58, z_t_59, z_t_60])) :: (h_t_has, .inl (k_t_has, 10, .inl t_has)) :: (h_t_us, .inl (k_t_us, 10, .inl t_us)) :: (h_t_vs, .inl (k_t_vs, 10, .inl t_vs)) :: (h_t_ds, .inl (k_t_ds, 10, .inl t_ds)) :: R) sz)) 0 0 (va_A ((h_t, .inr (12, [.int t_thrown, z_t_1, z_t_2, z_t_3, z_t_4, z_t_5, .ref h_t_has, .ref h_t_us, .ref h_t_vs, .ref h_t_ds, z_t_10, z_t_11, z_t_12, z_t_13, z_t_14, z_t_15, z_t_16, z_t_17, z_t_18, z_t_19, z_t_20, z_t_21, z_t_22, z_t_23, z_t_24, z_t_25, z_t_26, z_t_27, z_t_28, z_t_29, z_t_30, z_t_31, z_t_32, z_t_33, z_t_34, z_t_35, z_t_36, z_t_37, z_t_38, z_t_39, z_t_40, z_t_41, z_t_42, z_t_43, z_t_44, z_t_45, z_t_46, z_t_47, z_t_48, z_t_49, z_t_50, z_t_51, z_t_52, z_t_53, z_t_54, z_t_55, z_t_56, z_t_57, z_t_58, z_t_59, z_t_60])) :: (h_t_has, .inl (k_t_has, 10, .inl t_has)) :: (h_t_us, .inl (k_t_us, 10, .inl t_us)) :: (h_t_vs, .inl (k_t_vs, 10, .inl t_vs)) :: (h_t_ds, .inl (k_t_ds, 10, .inl t_ds)) :: R) sz) := by
  refine ct_start (QF := fun A => QI D r ((h_t, .inr (12, [.int o_t_thrown, z_t_1, z_t_2, z_t_3, z_t_4, z_t_5, .ref h_t_has, .ref h_t_us, .ref h_t_vs, .ref h_t_ds, z_t_10, z_t_11, z_t_12, z_t_13, z_t_14, z_t_15, z_t_16, z_t_17, z_t_18, z_t_19, z_t_20, z_t_21, z_t_22, z_t_23, z_t_24, z_t_25, z_t_26, z_t_27, z_t_28, z_t_29, z_t_30, z_t_31, z_t_32, z_t_33, z_t_34, z_t_35, z_t_36, z_t_37, z_t_38, z_t_39, z_t_40, z_t_41, z_t_42, z_t_43, z_t_44, z_t_45, z_t_46, z_t_47, z_t_48, z_t_49, z_t_50, z_t_51, z_t_52, z_t_53, z_t_54, z_t_55, z_t_56, z_t_57, z_t_58, z_t_59, z_t_60])) :: (h_t_has, .inl (k_t_has, 10, .inl t_has)) :: (h_t_us, .inl (k_t_us, 10, .inl t_us)) :: (h_t_vs, .inl (k_t_vs, 10, .inl t_vs)) :: (h_t_ds, .inl (k_t_ds, 10, .inl t_ds)) :: R) A) ?_ ?_ ?_
  · decide +kernel
  · exact Nat.le_of_ble_eq_true rfl
  intro p e s m args below meth c A ls S hr hlk hnm hS hA hP hD hK hN hl
  have S : CallFix p m c cX12_part 3 s args AL "DigitBenchModel" := S
  have hx := S.1
  have hb := S.2.1
  have hown := S.2.2.2.1
  have ha := S.2.2.2.2
  have hl : lv_has ls 3 [(0, .ref h_t), (1, .int l1), (2, .int l2)] := hl
  unfold f_X12_part at h
  refine lv_aload_n hx hb dX12_part_0 rfl (lv_at hl 0 rfl) ?_
  refine lv_aload_n hx hb dX12_part_1 rfl (lv_at hl 0 rfl) ?_
  refine lv_iload_n hx hb dX12_part_2 rfl (lv_at hl 1 rfl) ?_
  obtain ⟨r_c3_0, e_c3_0, h⟩ := bnd1_ok h
  refine cl_z (rn_v (ci := 12) (As := [.int l1]) (rest := [.ref h_t]) S (c_X12_isThere l D ((h_t_us, .inl (k_t_us, 10, .inl t_us)) :: (h_t_vs, .inl (k_t_vs, 10, .inl t_vs)) :: (h_t_ds, .inl (k_t_ds, 10, .inl t_ds)) :: R) h_t (.int t_thrown) (z_t_1) (z_t_2) (z_t_3) (z_t_4) (z_t_5) (.ref h_t_us) (.ref h_t_vs) (.ref h_t_ds) (z_t_10) (z_t_11) (z_t_12) (z_t_13) (z_t_14) (z_t_15) (z_t_16) (z_t_17) (z_t_18) (z_t_19) (z_t_20) (z_t_21) (z_t_22) (z_t_23) (z_t_24) (z_t_25) (z_t_26) (z_t_27) (z_t_28) (z_t_29) (z_t_30) (z_t_31) (z_t_32) (z_t_33) (z_t_34) (z_t_35) (z_t_36) (z_t_37) (z_t_38) (z_t_39) (z_t_40) (z_t_41) (z_t_42) (z_t_43) (z_t_44) (z_t_45) (z_t_46) (z_t_47) (z_t_48) (z_t_49) (z_t_50) (z_t_51) (z_t_52) (z_t_53) (z_t_54) (z_t_55) (z_t_56) (z_t_57) (z_t_58) (z_t_59) (z_t_60) h_t_has k_t_has t_has l1 r_c3_0 e_c3_0 _) q1194 q1196 q30 q61 q1197 nd_X12_isThere ⟨Nat.le_of_ble_eq_true rfl, Nat.le_of_ble_eq_true rfl⟩ rfl rfl hP hD (hK.sub (tys' := [(k_t_has, .boolean)]) [0] rfl) hN rfl ⟨0, _, rfl⟩ rfl hl.1 rfl (Nat.le_of_ble_eq_true rfl) dX12_part_3 ⟨Nat.le_of_ble_eq_true rfl, Nat.le_of_ble_eq_true rfl⟩) hS hA hD (fun H locs hP hD hS z_c3_0 => ?_)
  have hP : va_P D vwCl ((h_t, .inr (12, [.int t_thrown, z_t_1, z_t_2, z_t_3, z_t_4, z_t_5, .ref h_t_has, .ref h_t_us, .ref h_t_vs, .ref h_t_ds, z_t_10, z_t_11, z_t_12, z_t_13, z_t_14, z_t_15, z_t_16, z_t_17, z_t_18, z_t_19, z_t_20, z_t_21, z_t_22, z_t_23, z_t_24, z_t_25, z_t_26, z_t_27, z_t_28, z_t_29, z_t_30, z_t_31, z_t_32, z_t_33, z_t_34, z_t_35, z_t_36, z_t_37, z_t_38, z_t_39, z_t_40, z_t_41, z_t_42, z_t_43, z_t_44, z_t_45, z_t_46, z_t_47, z_t_48, z_t_49, z_t_50, z_t_51, z_t_52, z_t_53, z_t_54, z_t_55, z_t_56, z_t_57, z_t_58, z_t_59, z_t_60])) :: (h_t_has, .inl (k_t_has, 10, .inl t_has)) :: (h_t_us, .inl (k_t_us, 10, .inl t_us)) :: (h_t_vs, .inl (k_t_vs, 10, .inl t_vs)) :: (h_t_ds, .inl (k_t_ds, 10, .inl t_ds)) :: R) H := hP
  have hD : va_D A ((h_t, .inr (12, [.int t_thrown, z_t_1, z_t_2, z_t_3, z_t_4, z_t_5, .ref h_t_has, .ref h_t_us, .ref h_t_vs, .ref h_t_ds, z_t_10, z_t_11, z_t_12, z_t_13, z_t_14, z_t_15, z_t_16, z_t_17, z_t_18, z_t_19, z_t_20, z_t_21, z_t_22, z_t_23, z_t_24, z_t_25, z_t_26, z_t_27, z_t_28, z_t_29, z_t_30, z_t_31, z_t_32, z_t_33, z_t_34, z_t_35, z_t_36, z_t_37, z_t_38, z_t_39, z_t_40, z_t_41, z_t_42, z_t_43, z_t_44, z_t_45, z_t_46, z_t_47, z_t_48, z_t_49, z_t_50, z_t_51, z_t_52, z_t_53, z_t_54, z_t_55, z_t_56, z_t_57, z_t_58, z_t_59, z_t_60])) :: (h_t_has, .inl (k_t_has, 10, .inl t_has)) :: (h_t_us, .inl (k_t_us, 10, .inl t_us)) :: (h_t_vs, .inl (k_t_vs, 10, .inl t_vs)) :: (h_t_ds, .inl (k_t_ds, 10, .inl t_ds)) :: R) := hD
  refine lv_if_eq (tgt := 18) hx hb dX12_part_6 (by decide) (fun c2 => ?_) (fun c2 => ?_)
  · have h := br_pos c2 h
    refine lv_iconst (v := 1) hx hb dX12_part_18 (by decide) ?_
    refine lv_goto (tgt := 23) hx hb dX12_part_19 (by decide) ?_
    obtain ⟨r_c23_2, t_thrown_c23_2, e_c23_2, h⟩ := bnd2_ok h
    refine cl_z (rn_v (ci := 12) (As := [.int 1]) (rest := []) S (c_X12_throwsIf l D ((h_t_has, .inl (k_t_has, 10, .inl t_has)) :: (h_t_us, .inl (k_t_us, 10, .inl t_us)) :: (h_t_vs, .inl (k_t_vs, 10, .inl t_vs)) :: (h_t_ds, .inl (k_t_ds, 10, .inl t_ds)) :: R) h_t t_thrown (z_t_1) (z_t_2) (z_t_3) (z_t_4) (z_t_5) (.ref h_t_has) (.ref h_t_us) (.ref h_t_vs) (.ref h_t_ds) (z_t_10) (z_t_11) (z_t_12) (z_t_13) (z_t_14) (z_t_15) (z_t_16) (z_t_17) (z_t_18) (z_t_19) (z_t_20) (z_t_21) (z_t_22) (z_t_23) (z_t_24) (z_t_25) (z_t_26) (z_t_27) (z_t_28) (z_t_29) (z_t_30) (z_t_31) (z_t_32) (z_t_33) (z_t_34) (z_t_35) (z_t_36) (z_t_37) (z_t_38) (z_t_39) (z_t_40) (z_t_41) (z_t_42) (z_t_43) (z_t_44) (z_t_45) (z_t_46) (z_t_47) (z_t_48) (z_t_49) (z_t_50) (z_t_51) (z_t_52) (z_t_53) (z_t_54) (z_t_55) (z_t_56) (z_t_57) (z_t_58) (z_t_59) (z_t_60) 1 r_c23_2 t_thrown_c23_2 (by decide) e_c23_2 _) q1214 q1216 q34 q61 q1217 nd_X12_throwsIf ⟨Nat.le_of_ble_eq_true rfl, Nat.le_of_ble_eq_true rfl⟩ rfl rfl hP hD (hK.sub (tys' := []) [] rfl) hN rfl ⟨0, _, rfl⟩ rfl hl.1 rfl (Nat.le_of_ble_eq_true rfl) dX12_part_23 ⟨Nat.le_of_ble_eq_true rfl, Nat.le_of_ble_eq_true rfl⟩) hS hA hD (fun H locs hP hD hS z_c23_2 => ?_)
    have hP : va_P D vwCl ((h_t, .inr (12, [.int t_thrown_c23_2, z_t_1, z_t_2, z_t_3, z_t_4, z_t_5, .ref h_t_has, .ref h_t_us, .ref h_t_vs, .ref h_t_ds, z_t_10, z_t_11, z_t_12, z_t_13, z_t_14, z_t_15, z_t_16, z_t_17, z_t_18, z_t_19, z_t_20, z_t_21, z_t_22, z_t_23, z_t_24, z_t_25, z_t_26, z_t_27, z_t_28, z_t_29, z_t_30, z_t_31, z_t_32, z_t_33, z_t_34, z_t_35, z_t_36, z_t_37, z_t_38, z_t_39, z_t_40, z_t_41, z_t_42, z_t_43, z_t_44, z_t_45, z_t_46, z_t_47, z_t_48, z_t_49, z_t_50, z_t_51, z_t_52, z_t_53, z_t_54, z_t_55, z_t_56, z_t_57, z_t_58, z_t_59, z_t_60])) :: (h_t_has, .inl (k_t_has, 10, .inl t_has)) :: (h_t_us, .inl (k_t_us, 10, .inl t_us)) :: (h_t_vs, .inl (k_t_vs, 10, .inl t_vs)) :: (h_t_ds, .inl (k_t_ds, 10, .inl t_ds)) :: R) H := hP
    have hD : va_D A ((h_t, .inr (12, [.int t_thrown_c23_2, z_t_1, z_t_2, z_t_3, z_t_4, z_t_5, .ref h_t_has, .ref h_t_us, .ref h_t_vs, .ref h_t_ds, z_t_10, z_t_11, z_t_12, z_t_13, z_t_14, z_t_15, z_t_16, z_t_17, z_t_18, z_t_19, z_t_20, z_t_21, z_t_22, z_t_23, z_t_24, z_t_25, z_t_26, z_t_27, z_t_28, z_t_29, z_t_30, z_t_31, z_t_32, z_t_33, z_t_34, z_t_35, z_t_36, z_t_37, z_t_38, z_t_39, z_t_40, z_t_41, z_t_42, z_t_43, z_t_44, z_t_45, z_t_46, z_t_47, z_t_48, z_t_49, z_t_50, z_t_51, z_t_52, z_t_53, z_t_54, z_t_55, z_t_56, z_t_57, z_t_58, z_t_59, z_t_60])) :: (h_t_has, .inl (k_t_has, 10, .inl t_has)) :: (h_t_us, .inl (k_t_us, 10, .inl t_us)) :: (h_t_vs, .inl (k_t_vs, 10, .inl t_vs)) :: (h_t_ds, .inl (k_t_ds, 10, .inl t_ds)) :: R) := hD
    refine lv_if_eq (tgt := 31) hx hb dX12_part_26 (by decide) (fun c4 => ?_) (fun c4 => ?_)
    · have h := br_pos c4 h
      refine lv_iload_n hx hb dX12_part_31 rfl (lv_at hl 2 rfl) ?_
      refine lv_if_ne (tgt := 44) hx hb dX12_part_32 (by decide) (fun c5 => ?_) (fun c5 => ?_)
      · have h := br_neg c5 h
        refine lv_iload_n hx hb dX12_part_44 rfl (lv_at hl 2 rfl) ?_
        refine lv_iconst (v := 1) hx hb dX12_part_45 (by decide) ?_
        refine lv_icmp_ne (tgt := 58) hx hb dX12_part_46 (by decide) (fun c7 => ?_) (fun c7 => ?_)
        · have h := br_neg c7 h
          refine lv_aload_n hx hb dX12_part_58 rfl (lv_at hl 0 rfl) ?_
          refine va_get (D := D) (ci := 12) (v := .ref h_t_ds) (C := RX12) (T := TX12) (N := 61) hx hb ha ix12 hown hK hP 0 rfl rfl 9 (by decide) (ha _ q969) (fun _ h9 => h9) rfl dX12_part_59 ?_
          refine lv_iload_n hx hb dX12_part_62 rfl (lv_at hl 1 rfl) ?_
          obtain ⟨i9, h⟩ := ix_ok h
          refine va_iald hx hb hK hP 4 3 rfl rfl i9 dX12_part_63 ?_
          cases h
          exact rt_i S hr hlk hP hD hS dX12_part_64
        · have h := br_pos c7 h
          refine lv_aload_n hx hb dX12_part_49 rfl (lv_at hl 0 rfl) ?_
          refine va_get (D := D) (ci := 12) (v := .ref h_t_vs) (C := RX12) (T := TX12) (N := 61) hx hb ha ix12 hown hK hP 0 rfl rfl 8 (by decide) (ha _ q968) (fun _ h9 => h9) rfl dX12_part_50 ?_
          refine lv_iload_n hx hb dX12_part_53 rfl (lv_at hl 1 rfl) ?_
          obtain ⟨i8, h⟩ := ix_ok h
          refine va_iald hx hb hK hP 3 2 rfl rfl i8 dX12_part_54 ?_
          refine lv_goto (tgt := 64) hx hb dX12_part_55 (by decide) ?_
          cases h
          exact rt_i S hr hlk hP hD hS dX12_part_64
      · have h := br_pos c5 h
        refine lv_aload_n hx hb dX12_part_35 rfl (lv_at hl 0 rfl) ?_
        refine va_get (D := D) (ci := 12) (v := .ref h_t_us) (C := RX12) (T := TX12) (N := 61) hx hb ha ix12 hown hK hP 0 rfl rfl 7 (by decide) (ha _ q967) (fun _ h9 => h9) rfl dX12_part_36 ?_
        refine lv_iload_n hx hb dX12_part_39 rfl (lv_at hl 1 rfl) ?_
        obtain ⟨i6, h⟩ := ix_ok h
        refine va_iald hx hb hK hP 2 1 rfl rfl i6 dX12_part_40 ?_
        refine lv_goto (tgt := 64) hx hb dX12_part_41 (by decide) ?_
        cases h
        exact rt_i S hr hlk hP hD hS dX12_part_64
    · have h := br_neg c4 h
      refine lv_iconst (v := 0) hx hb dX12_part_29 (by decide) ?_
      cases h
      exact rt_i S hr hlk hP hD hS dX12_part_30
  · have h := br_neg c2 h
    refine lv_iload_n hx hb dX12_part_9 rfl (lv_at hl 2 rfl) ?_
    refine lv_if_lt (tgt := 18) hx hb dX12_part_10 (by decide) (fun c10 => ?_) (fun c10 => ?_)
    · have h := br_pos c10 h
      refine lv_iconst (v := 1) hx hb dX12_part_18 (by decide) ?_
      refine lv_goto (tgt := 23) hx hb dX12_part_19 (by decide) ?_
      obtain ⟨r_c23_10, t_thrown_c23_10, e_c23_10, h⟩ := bnd2_ok h
      refine cl_z (rn_v (ci := 12) (As := [.int 1]) (rest := []) S (c_X12_throwsIf l D ((h_t_has, .inl (k_t_has, 10, .inl t_has)) :: (h_t_us, .inl (k_t_us, 10, .inl t_us)) :: (h_t_vs, .inl (k_t_vs, 10, .inl t_vs)) :: (h_t_ds, .inl (k_t_ds, 10, .inl t_ds)) :: R) h_t t_thrown (z_t_1) (z_t_2) (z_t_3) (z_t_4) (z_t_5) (.ref h_t_has) (.ref h_t_us) (.ref h_t_vs) (.ref h_t_ds) (z_t_10) (z_t_11) (z_t_12) (z_t_13) (z_t_14) (z_t_15) (z_t_16) (z_t_17) (z_t_18) (z_t_19) (z_t_20) (z_t_21) (z_t_22) (z_t_23) (z_t_24) (z_t_25) (z_t_26) (z_t_27) (z_t_28) (z_t_29) (z_t_30) (z_t_31) (z_t_32) (z_t_33) (z_t_34) (z_t_35) (z_t_36) (z_t_37) (z_t_38) (z_t_39) (z_t_40) (z_t_41) (z_t_42) (z_t_43) (z_t_44) (z_t_45) (z_t_46) (z_t_47) (z_t_48) (z_t_49) (z_t_50) (z_t_51) (z_t_52) (z_t_53) (z_t_54) (z_t_55) (z_t_56) (z_t_57) (z_t_58) (z_t_59) (z_t_60) 1 r_c23_10 t_thrown_c23_10 (by decide) e_c23_10 _) q1214 q1216 q34 q61 q1217 nd_X12_throwsIf ⟨Nat.le_of_ble_eq_true rfl, Nat.le_of_ble_eq_true rfl⟩ rfl rfl hP hD (hK.sub (tys' := []) [] rfl) hN rfl ⟨0, _, rfl⟩ rfl hl.1 rfl (Nat.le_of_ble_eq_true rfl) dX12_part_23 ⟨Nat.le_of_ble_eq_true rfl, Nat.le_of_ble_eq_true rfl⟩) hS hA hD (fun H locs hP hD hS z_c23_10 => ?_)
      have hP : va_P D vwCl ((h_t, .inr (12, [.int t_thrown_c23_10, z_t_1, z_t_2, z_t_3, z_t_4, z_t_5, .ref h_t_has, .ref h_t_us, .ref h_t_vs, .ref h_t_ds, z_t_10, z_t_11, z_t_12, z_t_13, z_t_14, z_t_15, z_t_16, z_t_17, z_t_18, z_t_19, z_t_20, z_t_21, z_t_22, z_t_23, z_t_24, z_t_25, z_t_26, z_t_27, z_t_28, z_t_29, z_t_30, z_t_31, z_t_32, z_t_33, z_t_34, z_t_35, z_t_36, z_t_37, z_t_38, z_t_39, z_t_40, z_t_41, z_t_42, z_t_43, z_t_44, z_t_45, z_t_46, z_t_47, z_t_48, z_t_49, z_t_50, z_t_51, z_t_52, z_t_53, z_t_54, z_t_55, z_t_56, z_t_57, z_t_58, z_t_59, z_t_60])) :: (h_t_has, .inl (k_t_has, 10, .inl t_has)) :: (h_t_us, .inl (k_t_us, 10, .inl t_us)) :: (h_t_vs, .inl (k_t_vs, 10, .inl t_vs)) :: (h_t_ds, .inl (k_t_ds, 10, .inl t_ds)) :: R) H := hP
      have hD : va_D A ((h_t, .inr (12, [.int t_thrown_c23_10, z_t_1, z_t_2, z_t_3, z_t_4, z_t_5, .ref h_t_has, .ref h_t_us, .ref h_t_vs, .ref h_t_ds, z_t_10, z_t_11, z_t_12, z_t_13, z_t_14, z_t_15, z_t_16, z_t_17, z_t_18, z_t_19, z_t_20, z_t_21, z_t_22, z_t_23, z_t_24, z_t_25, z_t_26, z_t_27, z_t_28, z_t_29, z_t_30, z_t_31, z_t_32, z_t_33, z_t_34, z_t_35, z_t_36, z_t_37, z_t_38, z_t_39, z_t_40, z_t_41, z_t_42, z_t_43, z_t_44, z_t_45, z_t_46, z_t_47, z_t_48, z_t_49, z_t_50, z_t_51, z_t_52, z_t_53, z_t_54, z_t_55, z_t_56, z_t_57, z_t_58, z_t_59, z_t_60])) :: (h_t_has, .inl (k_t_has, 10, .inl t_has)) :: (h_t_us, .inl (k_t_us, 10, .inl t_us)) :: (h_t_vs, .inl (k_t_vs, 10, .inl t_vs)) :: (h_t_ds, .inl (k_t_ds, 10, .inl t_ds)) :: R) := hD
      refine lv_if_eq (tgt := 31) hx hb dX12_part_26 (by decide) (fun c12 => ?_) (fun c12 => ?_)
      · have h := br_pos c12 h
        refine lv_iload_n hx hb dX12_part_31 rfl (lv_at hl 2 rfl) ?_
        refine lv_if_ne (tgt := 44) hx hb dX12_part_32 (by decide) (fun c13 => ?_) (fun c13 => ?_)
        · have h := br_neg c13 h
          refine lv_iload_n hx hb dX12_part_44 rfl (lv_at hl 2 rfl) ?_
          refine lv_iconst (v := 1) hx hb dX12_part_45 (by decide) ?_
          refine lv_icmp_ne (tgt := 58) hx hb dX12_part_46 (by decide) (fun c15 => ?_) (fun c15 => ?_)
          · have h := br_neg c15 h
            refine lv_aload_n hx hb dX12_part_58 rfl (lv_at hl 0 rfl) ?_
            refine va_get (D := D) (ci := 12) (v := .ref h_t_ds) (C := RX12) (T := TX12) (N := 61) hx hb ha ix12 hown hK hP 0 rfl rfl 9 (by decide) (ha _ q969) (fun _ h9 => h9) rfl dX12_part_59 ?_
            refine lv_iload_n hx hb dX12_part_62 rfl (lv_at hl 1 rfl) ?_
            obtain ⟨i17, h⟩ := ix_ok h
            refine va_iald hx hb hK hP 4 3 rfl rfl i17 dX12_part_63 ?_
            cases h
            exact rt_i S hr hlk hP hD hS dX12_part_64
          · have h := br_pos c15 h
            refine lv_aload_n hx hb dX12_part_49 rfl (lv_at hl 0 rfl) ?_
            refine va_get (D := D) (ci := 12) (v := .ref h_t_vs) (C := RX12) (T := TX12) (N := 61) hx hb ha ix12 hown hK hP 0 rfl rfl 8 (by decide) (ha _ q968) (fun _ h9 => h9) rfl dX12_part_50 ?_
            refine lv_iload_n hx hb dX12_part_53 rfl (lv_at hl 1 rfl) ?_
            obtain ⟨i16, h⟩ := ix_ok h
            refine va_iald hx hb hK hP 3 2 rfl rfl i16 dX12_part_54 ?_
            refine lv_goto (tgt := 64) hx hb dX12_part_55 (by decide) ?_
            cases h
            exact rt_i S hr hlk hP hD hS dX12_part_64
        · have h := br_pos c13 h
          refine lv_aload_n hx hb dX12_part_35 rfl (lv_at hl 0 rfl) ?_
          refine va_get (D := D) (ci := 12) (v := .ref h_t_us) (C := RX12) (T := TX12) (N := 61) hx hb ha ix12 hown hK hP 0 rfl rfl 7 (by decide) (ha _ q967) (fun _ h9 => h9) rfl dX12_part_36 ?_
          refine lv_iload_n hx hb dX12_part_39 rfl (lv_at hl 1 rfl) ?_
          obtain ⟨i14, h⟩ := ix_ok h
          refine va_iald hx hb hK hP 2 1 rfl rfl i14 dX12_part_40 ?_
          refine lv_goto (tgt := 64) hx hb dX12_part_41 (by decide) ?_
          cases h
          exact rt_i S hr hlk hP hD hS dX12_part_64
      · have h := br_neg c12 h
        refine lv_iconst (v := 0) hx hb dX12_part_29 (by decide) ?_
        cases h
        exact rt_i S hr hlk hP hD hS dX12_part_30
    · have h := br_neg c10 h
      refine lv_iload_n hx hb dX12_part_13 rfl (lv_at hl 2 rfl) ?_
      refine lv_iconst (v := 2) hx hb dX12_part_14 (by decide) ?_
      refine lv_icmp_le (tgt := 22) hx hb dX12_part_15 (by decide) (fun c18 => ?_) (fun c18 => ?_)
      · have h := br_pos c18 h
        refine lv_iconst (v := 0) hx hb dX12_part_22 (by decide) ?_
        obtain ⟨r_c23_18, t_thrown_c23_18, e_c23_18, h⟩ := bnd2_ok h
        refine cl_z (rn_v (ci := 12) (As := [.int 0]) (rest := []) S (c_X12_throwsIf l D ((h_t_has, .inl (k_t_has, 10, .inl t_has)) :: (h_t_us, .inl (k_t_us, 10, .inl t_us)) :: (h_t_vs, .inl (k_t_vs, 10, .inl t_vs)) :: (h_t_ds, .inl (k_t_ds, 10, .inl t_ds)) :: R) h_t t_thrown (z_t_1) (z_t_2) (z_t_3) (z_t_4) (z_t_5) (.ref h_t_has) (.ref h_t_us) (.ref h_t_vs) (.ref h_t_ds) (z_t_10) (z_t_11) (z_t_12) (z_t_13) (z_t_14) (z_t_15) (z_t_16) (z_t_17) (z_t_18) (z_t_19) (z_t_20) (z_t_21) (z_t_22) (z_t_23) (z_t_24) (z_t_25) (z_t_26) (z_t_27) (z_t_28) (z_t_29) (z_t_30) (z_t_31) (z_t_32) (z_t_33) (z_t_34) (z_t_35) (z_t_36) (z_t_37) (z_t_38) (z_t_39) (z_t_40) (z_t_41) (z_t_42) (z_t_43) (z_t_44) (z_t_45) (z_t_46) (z_t_47) (z_t_48) (z_t_49) (z_t_50) (z_t_51) (z_t_52) (z_t_53) (z_t_54) (z_t_55) (z_t_56) (z_t_57) (z_t_58) (z_t_59) (z_t_60) 0 r_c23_18 t_thrown_c23_18 (by decide) e_c23_18 _) q1214 q1216 q34 q61 q1217 nd_X12_throwsIf ⟨Nat.le_of_ble_eq_true rfl, Nat.le_of_ble_eq_true rfl⟩ rfl rfl hP hD (hK.sub (tys' := []) [] rfl) hN rfl ⟨0, _, rfl⟩ rfl hl.1 rfl (Nat.le_of_ble_eq_true rfl) dX12_part_23 ⟨Nat.le_of_ble_eq_true rfl, Nat.le_of_ble_eq_true rfl⟩) hS hA hD (fun H locs hP hD hS z_c23_18 => ?_)
        have hP : va_P D vwCl ((h_t, .inr (12, [.int t_thrown_c23_18, z_t_1, z_t_2, z_t_3, z_t_4, z_t_5, .ref h_t_has, .ref h_t_us, .ref h_t_vs, .ref h_t_ds, z_t_10, z_t_11, z_t_12, z_t_13, z_t_14, z_t_15, z_t_16, z_t_17, z_t_18, z_t_19, z_t_20, z_t_21, z_t_22, z_t_23, z_t_24, z_t_25, z_t_26, z_t_27, z_t_28, z_t_29, z_t_30, z_t_31, z_t_32, z_t_33, z_t_34, z_t_35, z_t_36, z_t_37, z_t_38, z_t_39, z_t_40, z_t_41, z_t_42, z_t_43, z_t_44, z_t_45, z_t_46, z_t_47, z_t_48, z_t_49, z_t_50, z_t_51, z_t_52, z_t_53, z_t_54, z_t_55, z_t_56, z_t_57, z_t_58, z_t_59, z_t_60])) :: (h_t_has, .inl (k_t_has, 10, .inl t_has)) :: (h_t_us, .inl (k_t_us, 10, .inl t_us)) :: (h_t_vs, .inl (k_t_vs, 10, .inl t_vs)) :: (h_t_ds, .inl (k_t_ds, 10, .inl t_ds)) :: R) H := hP
        have hD : va_D A ((h_t, .inr (12, [.int t_thrown_c23_18, z_t_1, z_t_2, z_t_3, z_t_4, z_t_5, .ref h_t_has, .ref h_t_us, .ref h_t_vs, .ref h_t_ds, z_t_10, z_t_11, z_t_12, z_t_13, z_t_14, z_t_15, z_t_16, z_t_17, z_t_18, z_t_19, z_t_20, z_t_21, z_t_22, z_t_23, z_t_24, z_t_25, z_t_26, z_t_27, z_t_28, z_t_29, z_t_30, z_t_31, z_t_32, z_t_33, z_t_34, z_t_35, z_t_36, z_t_37, z_t_38, z_t_39, z_t_40, z_t_41, z_t_42, z_t_43, z_t_44, z_t_45, z_t_46, z_t_47, z_t_48, z_t_49, z_t_50, z_t_51, z_t_52, z_t_53, z_t_54, z_t_55, z_t_56, z_t_57, z_t_58, z_t_59, z_t_60])) :: (h_t_has, .inl (k_t_has, 10, .inl t_has)) :: (h_t_us, .inl (k_t_us, 10, .inl t_us)) :: (h_t_vs, .inl (k_t_vs, 10, .inl t_vs)) :: (h_t_ds, .inl (k_t_ds, 10, .inl t_ds)) :: R) := hD
        refine lv_if_eq (tgt := 31) hx hb dX12_part_26 (by decide) (fun c20 => ?_) (fun c20 => ?_)
        · have h := br_pos c20 h
          refine lv_iload_n hx hb dX12_part_31 rfl (lv_at hl 2 rfl) ?_
          refine lv_if_ne (tgt := 44) hx hb dX12_part_32 (by decide) (fun c21 => ?_) (fun c21 => ?_)
          · have h := br_neg c21 h
            refine lv_iload_n hx hb dX12_part_44 rfl (lv_at hl 2 rfl) ?_
            refine lv_iconst (v := 1) hx hb dX12_part_45 (by decide) ?_
            refine lv_icmp_ne (tgt := 58) hx hb dX12_part_46 (by decide) (fun c23 => ?_) (fun c23 => ?_)
            · have h := br_neg c23 h
              refine lv_aload_n hx hb dX12_part_58 rfl (lv_at hl 0 rfl) ?_
              refine va_get (D := D) (ci := 12) (v := .ref h_t_ds) (C := RX12) (T := TX12) (N := 61) hx hb ha ix12 hown hK hP 0 rfl rfl 9 (by decide) (ha _ q969) (fun _ h9 => h9) rfl dX12_part_59 ?_
              refine lv_iload_n hx hb dX12_part_62 rfl (lv_at hl 1 rfl) ?_
              obtain ⟨i25, h⟩ := ix_ok h
              refine va_iald hx hb hK hP 4 3 rfl rfl i25 dX12_part_63 ?_
              cases h
              exact rt_i S hr hlk hP hD hS dX12_part_64
            · have h := br_pos c23 h
              refine lv_aload_n hx hb dX12_part_49 rfl (lv_at hl 0 rfl) ?_
              refine va_get (D := D) (ci := 12) (v := .ref h_t_vs) (C := RX12) (T := TX12) (N := 61) hx hb ha ix12 hown hK hP 0 rfl rfl 8 (by decide) (ha _ q968) (fun _ h9 => h9) rfl dX12_part_50 ?_
              refine lv_iload_n hx hb dX12_part_53 rfl (lv_at hl 1 rfl) ?_
              obtain ⟨i24, h⟩ := ix_ok h
              refine va_iald hx hb hK hP 3 2 rfl rfl i24 dX12_part_54 ?_
              refine lv_goto (tgt := 64) hx hb dX12_part_55 (by decide) ?_
              cases h
              exact rt_i S hr hlk hP hD hS dX12_part_64
          · have h := br_pos c21 h
            refine lv_aload_n hx hb dX12_part_35 rfl (lv_at hl 0 rfl) ?_
            refine va_get (D := D) (ci := 12) (v := .ref h_t_us) (C := RX12) (T := TX12) (N := 61) hx hb ha ix12 hown hK hP 0 rfl rfl 7 (by decide) (ha _ q967) (fun _ h9 => h9) rfl dX12_part_36 ?_
            refine lv_iload_n hx hb dX12_part_39 rfl (lv_at hl 1 rfl) ?_
            obtain ⟨i22, h⟩ := ix_ok h
            refine va_iald hx hb hK hP 2 1 rfl rfl i22 dX12_part_40 ?_
            refine lv_goto (tgt := 64) hx hb dX12_part_41 (by decide) ?_
            cases h
            exact rt_i S hr hlk hP hD hS dX12_part_64
        · have h := br_neg c20 h
          refine lv_iconst (v := 0) hx hb dX12_part_29 (by decide) ?_
          cases h
          exact rt_i S hr hlk hP hD hS dX12_part_30
      · have h := br_neg c18 h
        refine lv_iconst (v := 1) hx hb dX12_part_18 (by decide) ?_
        refine lv_goto (tgt := 23) hx hb dX12_part_19 (by decide) ?_
        obtain ⟨r_c23_25, t_thrown_c23_25, e_c23_25, h⟩ := bnd2_ok h
        refine cl_z (rn_v (ci := 12) (As := [.int 1]) (rest := []) S (c_X12_throwsIf l D ((h_t_has, .inl (k_t_has, 10, .inl t_has)) :: (h_t_us, .inl (k_t_us, 10, .inl t_us)) :: (h_t_vs, .inl (k_t_vs, 10, .inl t_vs)) :: (h_t_ds, .inl (k_t_ds, 10, .inl t_ds)) :: R) h_t t_thrown (z_t_1) (z_t_2) (z_t_3) (z_t_4) (z_t_5) (.ref h_t_has) (.ref h_t_us) (.ref h_t_vs) (.ref h_t_ds) (z_t_10) (z_t_11) (z_t_12) (z_t_13) (z_t_14) (z_t_15) (z_t_16) (z_t_17) (z_t_18) (z_t_19) (z_t_20) (z_t_21) (z_t_22) (z_t_23) (z_t_24) (z_t_25) (z_t_26) (z_t_27) (z_t_28) (z_t_29) (z_t_30) (z_t_31) (z_t_32) (z_t_33) (z_t_34) (z_t_35) (z_t_36) (z_t_37) (z_t_38) (z_t_39) (z_t_40) (z_t_41) (z_t_42) (z_t_43) (z_t_44) (z_t_45) (z_t_46) (z_t_47) (z_t_48) (z_t_49) (z_t_50) (z_t_51) (z_t_52) (z_t_53) (z_t_54) (z_t_55) (z_t_56) (z_t_57) (z_t_58) (z_t_59) (z_t_60) 1 r_c23_25 t_thrown_c23_25 (by decide) e_c23_25 _) q1214 q1216 q34 q61 q1217 nd_X12_throwsIf ⟨Nat.le_of_ble_eq_true rfl, Nat.le_of_ble_eq_true rfl⟩ rfl rfl hP hD (hK.sub (tys' := []) [] rfl) hN rfl ⟨0, _, rfl⟩ rfl hl.1 rfl (Nat.le_of_ble_eq_true rfl) dX12_part_23 ⟨Nat.le_of_ble_eq_true rfl, Nat.le_of_ble_eq_true rfl⟩) hS hA hD (fun H locs hP hD hS z_c23_25 => ?_)
        have hP : va_P D vwCl ((h_t, .inr (12, [.int t_thrown_c23_25, z_t_1, z_t_2, z_t_3, z_t_4, z_t_5, .ref h_t_has, .ref h_t_us, .ref h_t_vs, .ref h_t_ds, z_t_10, z_t_11, z_t_12, z_t_13, z_t_14, z_t_15, z_t_16, z_t_17, z_t_18, z_t_19, z_t_20, z_t_21, z_t_22, z_t_23, z_t_24, z_t_25, z_t_26, z_t_27, z_t_28, z_t_29, z_t_30, z_t_31, z_t_32, z_t_33, z_t_34, z_t_35, z_t_36, z_t_37, z_t_38, z_t_39, z_t_40, z_t_41, z_t_42, z_t_43, z_t_44, z_t_45, z_t_46, z_t_47, z_t_48, z_t_49, z_t_50, z_t_51, z_t_52, z_t_53, z_t_54, z_t_55, z_t_56, z_t_57, z_t_58, z_t_59, z_t_60])) :: (h_t_has, .inl (k_t_has, 10, .inl t_has)) :: (h_t_us, .inl (k_t_us, 10, .inl t_us)) :: (h_t_vs, .inl (k_t_vs, 10, .inl t_vs)) :: (h_t_ds, .inl (k_t_ds, 10, .inl t_ds)) :: R) H := hP
        have hD : va_D A ((h_t, .inr (12, [.int t_thrown_c23_25, z_t_1, z_t_2, z_t_3, z_t_4, z_t_5, .ref h_t_has, .ref h_t_us, .ref h_t_vs, .ref h_t_ds, z_t_10, z_t_11, z_t_12, z_t_13, z_t_14, z_t_15, z_t_16, z_t_17, z_t_18, z_t_19, z_t_20, z_t_21, z_t_22, z_t_23, z_t_24, z_t_25, z_t_26, z_t_27, z_t_28, z_t_29, z_t_30, z_t_31, z_t_32, z_t_33, z_t_34, z_t_35, z_t_36, z_t_37, z_t_38, z_t_39, z_t_40, z_t_41, z_t_42, z_t_43, z_t_44, z_t_45, z_t_46, z_t_47, z_t_48, z_t_49, z_t_50, z_t_51, z_t_52, z_t_53, z_t_54, z_t_55, z_t_56, z_t_57, z_t_58, z_t_59, z_t_60])) :: (h_t_has, .inl (k_t_has, 10, .inl t_has)) :: (h_t_us, .inl (k_t_us, 10, .inl t_us)) :: (h_t_vs, .inl (k_t_vs, 10, .inl t_vs)) :: (h_t_ds, .inl (k_t_ds, 10, .inl t_ds)) :: R) := hD
        refine lv_if_eq (tgt := 31) hx hb dX12_part_26 (by decide) (fun c27 => ?_) (fun c27 => ?_)
        · have h := br_pos c27 h
          refine lv_iload_n hx hb dX12_part_31 rfl (lv_at hl 2 rfl) ?_
          refine lv_if_ne (tgt := 44) hx hb dX12_part_32 (by decide) (fun c28 => ?_) (fun c28 => ?_)
          · have h := br_neg c28 h
            refine lv_iload_n hx hb dX12_part_44 rfl (lv_at hl 2 rfl) ?_
            refine lv_iconst (v := 1) hx hb dX12_part_45 (by decide) ?_
            refine lv_icmp_ne (tgt := 58) hx hb dX12_part_46 (by decide) (fun c30 => ?_) (fun c30 => ?_)
            · have h := br_neg c30 h
              refine lv_aload_n hx hb dX12_part_58 rfl (lv_at hl 0 rfl) ?_
              refine va_get (D := D) (ci := 12) (v := .ref h_t_ds) (C := RX12) (T := TX12) (N := 61) hx hb ha ix12 hown hK hP 0 rfl rfl 9 (by decide) (ha _ q969) (fun _ h9 => h9) rfl dX12_part_59 ?_
              refine lv_iload_n hx hb dX12_part_62 rfl (lv_at hl 1 rfl) ?_
              obtain ⟨i32, h⟩ := ix_ok h
              refine va_iald hx hb hK hP 4 3 rfl rfl i32 dX12_part_63 ?_
              cases h
              exact rt_i S hr hlk hP hD hS dX12_part_64
            · have h := br_pos c30 h
              refine lv_aload_n hx hb dX12_part_49 rfl (lv_at hl 0 rfl) ?_
              refine va_get (D := D) (ci := 12) (v := .ref h_t_vs) (C := RX12) (T := TX12) (N := 61) hx hb ha ix12 hown hK hP 0 rfl rfl 8 (by decide) (ha _ q968) (fun _ h9 => h9) rfl dX12_part_50 ?_
              refine lv_iload_n hx hb dX12_part_53 rfl (lv_at hl 1 rfl) ?_
              obtain ⟨i31, h⟩ := ix_ok h
              refine va_iald hx hb hK hP 3 2 rfl rfl i31 dX12_part_54 ?_
              refine lv_goto (tgt := 64) hx hb dX12_part_55 (by decide) ?_
              cases h
              exact rt_i S hr hlk hP hD hS dX12_part_64
          · have h := br_pos c28 h
            refine lv_aload_n hx hb dX12_part_35 rfl (lv_at hl 0 rfl) ?_
            refine va_get (D := D) (ci := 12) (v := .ref h_t_us) (C := RX12) (T := TX12) (N := 61) hx hb ha ix12 hown hK hP 0 rfl rfl 7 (by decide) (ha _ q967) (fun _ h9 => h9) rfl dX12_part_36 ?_
            refine lv_iload_n hx hb dX12_part_39 rfl (lv_at hl 1 rfl) ?_
            obtain ⟨i29, h⟩ := ix_ok h
            refine va_iald hx hb hK hP 2 1 rfl rfl i29 dX12_part_40 ?_
            refine lv_goto (tgt := 64) hx hb dX12_part_41 (by decide) ?_
            cases h
            exact rt_i S hr hlk hP hD hS dX12_part_64
        · have h := br_neg c27 h
          refine lv_iconst (v := 0) hx hb dX12_part_29 (by decide) ?_
          cases h
          exact rt_i S hr hlk hP hD hS dX12_part_30
def f_X12_compare (t_thrown : Int32) (t_a : Int32) (t_root : Int32) (t_has : Nat → Int32) (t_us : Nat → Int32) (t_vs : Nat → Int32) (t_ds : Nat → Int32) (l1 : Int32) (l2 : Int32) : Option (Int32 × Int32) :=
  bnd1 (f_X12_isThere t_has l1) fun r_c7_0 => (
   if r_c7_0 = 0 then (
    some (2, 0)
   ) else (
    bnd1 (f_X12_isThere t_has l2) fun r_c15_2 => (
     if r_c15_2 = 0 then (
      some (2, 0)
     ) else (
      gd (ixb l1 10) (
       gd (ixb l2 10) (
        gd (ixb l2 10) (
         gd (ixb l1 10) (
          gd (ixb l1 10) (
           gd (ixb l2 10) (
            gd (ixb l2 10) (
             gd (ixb l1 10) (
              bnd1 (f_X12_sign t_a t_root (((t_us l1.toNatClampNeg).toInt64 * (t_ds l2.toNatClampNeg).toInt64) - ((t_us l2.toNatClampNeg).toInt64 * (t_ds l1.toNatClampNeg).toInt64)) (((t_vs l1.toNatClampNeg).toInt64 * (t_ds l2.toNatClampNeg).toInt64) - ((t_vs l2.toNatClampNeg).toInt64 * (t_ds l1.toNatClampNeg).toInt64))) fun r_c86_12 => (
               some (r_c86_12, 0)
              )
             )
            )
           )
          )
         )
        )
       )
      )
     )
    )
   )
  )
set_option maxHeartbeats 4000000 in
set_option maxRecDepth 100000 in
theorem c_X12_compare (l : Launch) (D : va_G) (R : va_W) (h_t : Nat) (t_thrown : Int32) (z_t_1 : Value) (z_t_2 : Value) (t_a : Int32) (z_t_4 : Value) (t_root : Int32) (z_t_10 : Value) (z_t_11 : Value) (z_t_12 : Value) (z_t_13 : Value) (z_t_14 : Value) (z_t_15 : Value) (z_t_16 : Value) (z_t_17 : Value) (z_t_18 : Value) (z_t_19 : Value) (z_t_20 : Value) (z_t_21 : Value) (z_t_22 : Value) (z_t_23 : Value) (z_t_24 : Value) (z_t_25 : Value) (z_t_26 : Value) (z_t_27 : Value) (z_t_28 : Value) (z_t_29 : Value) (z_t_30 : Value) (z_t_31 : Value) (z_t_32 : Value) (z_t_33 : Value) (z_t_34 : Value) (z_t_35 : Value) (z_t_36 : Value) (z_t_37 : Value) (z_t_38 : Value) (z_t_39 : Value) (z_t_40 : Value) (z_t_41 : Value) (z_t_42 : Value) (z_t_43 : Value) (z_t_44 : Value) (z_t_45 : Value) (z_t_46 : Value) (z_t_47 : Value) (z_t_48 : Value) (z_t_49 : Value) (z_t_50 : Value) (z_t_51 : Value) (z_t_52 : Value) (z_t_53 : Value) (z_t_54 : Value) (z_t_55 : Value) (z_t_56 : Value) (z_t_57 : Value) (z_t_58 : Value) (z_t_59 : Value) (z_t_60 : Value) (h_t_has : Nat) (k_t_has : ClassId) (t_has : Nat → Int32) (h_t_us : Nat) (k_t_us : ClassId) (t_us : Nat → Int32) (h_t_vs : Nat) (k_t_vs : ClassId) (t_vs : Nat → Int32) (h_t_ds : Nat) (k_t_ds : ClassId) (t_ds : Nat → Int32) (l1 : Int32) (l2 : Int32) (r : Int32) (o_t_thrown : Int32)  (h : f_X12_compare t_thrown t_a t_root t_has t_us t_vs t_ds l1 l2 = some (r, o_t_thrown)) (sz : Nat) : Met l yX12_compare (WD yX12_compare cX12_compare 3 (some .int)) ({ frames := 1, cells := 0, slots := 0, locals := 28 }) (va_Pc [.ref h_t, .int l1, .int l2] (PcW D [(k_t_has, .boolean), (k_t_us, .int), (k_t_vs, .int), (k_t_ds, .int)] ((h_t, .inr (12, [.int t_thrown, z_t_1, z_t_2, .int t_a, z_t_4, .int t_root, .ref h_t_has, .ref h_t_us, .ref h_t_vs, .ref h_t_ds, z_t_10, z_t_11, z_t_12, z_t_13, z_t_14, z_t_15, z_t_16, z_t_17, z_t_18, z_t_19, z_t_20, z_t_21, z_t_22, z_t_23, z_t_24, z_t_25, z_t_26, z_t_27, z_t_28, z_t_29, z_t_30, z_t_31, z_t_32, z_t_33, z_t_34, z_t_35, z_t_36, z_t_37, z_t_38, z_t_39, z_t_40, z_t_41, z_t_42, z_t_43, z_t_44, z_t_45, z_t_46, z_t_47, z_t_48, z_t_49, z_t_50, z_t_51, z_t_52, z_t_53, z_t_54, z_t_55, z_t_56, z_t_57, z_t_58, z_t_59, z_t_60])) :: (h_t_has, .inl (k_t_has, 10, .inl t_has)) :: (h_t_us, .inl (k_t_us, 10, .inl t_us)) :: (h_t_vs, .inl (k_t_vs, 10, .inl t_vs)) :: (h_t_ds, .inl (k_t_ds, 10, .inl t_ds)) :: R) sz)) (QI D r ((h_t, .inr (12, [.int o_t_thrown, z_t_1, z_t_2, .int t_a, z_t_4, .int t_root, .ref h_t_has, .ref h_t_us, .ref h_t_vs, .ref h_t_ds, z_t_10, z_t_11, z_t_12, z_t_13, z_t_14, z_t_15, z_t_16, z_t_17, z_t_18, z_t_19, z_t_20, z_t_21, z_t_22, z_t_23, z_t_24, z_t_25, z_t_26, z_t_27, z_t_28, z_t_29, z_t_30, z_t_31, z_t_32, z_t_33, z_t_34, z_t_35, z_t_36, z_t_37, z_t_38, z_t_39, z_t_40, z_t_41, z_t_42, z_t_43, z_t_44, z_t_45, z_t_46, z_t_47, z_t_48, z_t_49, z_t_50, z_t_51, z_t_52, z_t_53, z_t_54, z_t_55, z_t_56, z_t_57, z_t_58, z_t_59, z_t_60])) :: (h_t_has, .inl (k_t_has, 10, .inl t_has)) :: (h_t_us, .inl (k_t_us, 10, .inl t_us)) :: (h_t_vs, .inl (k_t_vs, 10, .inl t_vs)) :: (h_t_ds, .inl (k_t_ds, 10, .inl t_ds)) :: R) (va_A ((h_t, .inr (12, [.int t_thrown, z_t_1, z_t_2, .int t_a, z_t_4, .int t_root, .ref h_t_has, .ref h_t_us, .ref h_t_vs, .ref h_t_ds, z_t_10, z_t_11, z_t_12, z_t_13, z_t_14, z_t_15, z_t_16, z_t_17, z_t_18, z_t_19, z_t_20, z_t_21, z_t_22, z_t_23, z_t_24, z_t_25, z_t_26, z_t_27, z_t_28, z_t_29, z_t_30, z_t_31, z_t_32, z_t_33, z_t_34, z_t_35, z_t_36, z_t_37, z_t_38, z_t_39, z_t_40, z_t_41, z_t_42, z_t_43, z_t_44, z_t_45, z_t_46, z_t_47, z_t_48, z_t_49, z_t_50, z_t_51, z_t_52, z_t_53, z_t_54, z_t_55, z_t_56, z_t_57, z_t_58, z_t_59, z_t_60])) :: (h_t_has, .inl (k_t_has, 10, .inl t_has)) :: (h_t_us, .inl (k_t_us, 10, .inl t_us)) :: (h_t_vs, .inl (k_t_vs, 10, .inl t_vs)) :: (h_t_ds, .inl (k_t_ds, 10, .inl t_ds)) :: R) sz)) 0 0 (va_A ((h_t, .inr (12, [.int t_thrown, z_t_1, z_t_2, .int t_a, z_t_4, .int t_root, .ref h_t_has, .ref h_t_us, .ref h_t_vs, .ref h_t_ds, z_t_10, z_t_11, z_t_12, z_t_13, z_t_14, z_t_15, z_t_16, z_t_17, z_t_18, z_t_19, z_t_20, z_t_21, z_t_22, z_t_23, z_t_24, z_t_25, z_t_26, z_t_27, z_t_28, z_t_29, z_t_30, z_t_31, z_t_32, z_t_33, z_t_34, z_t_35, z_t_36, z_t_37, z_t_38, z_t_39, z_t_40, z_t_41, z_t_42, z_t_43, z_t_44, z_t_45, z_t_46, z_t_47, z_t_48, z_t_49, z_t_50, z_t_51, z_t_52, z_t_53, z_t_54, z_t_55, z_t_56, z_t_57, z_t_58, z_t_59, z_t_60])) :: (h_t_has, .inl (k_t_has, 10, .inl t_has)) :: (h_t_us, .inl (k_t_us, 10, .inl t_us)) :: (h_t_vs, .inl (k_t_vs, 10, .inl t_vs)) :: (h_t_ds, .inl (k_t_ds, 10, .inl t_ds)) :: R) sz) := by
  refine ct_start (QF := fun A => QI D r ((h_t, .inr (12, [.int o_t_thrown, z_t_1, z_t_2, .int t_a, z_t_4, .int t_root, .ref h_t_has, .ref h_t_us, .ref h_t_vs, .ref h_t_ds, z_t_10, z_t_11, z_t_12, z_t_13, z_t_14, z_t_15, z_t_16, z_t_17, z_t_18, z_t_19, z_t_20, z_t_21, z_t_22, z_t_23, z_t_24, z_t_25, z_t_26, z_t_27, z_t_28, z_t_29, z_t_30, z_t_31, z_t_32, z_t_33, z_t_34, z_t_35, z_t_36, z_t_37, z_t_38, z_t_39, z_t_40, z_t_41, z_t_42, z_t_43, z_t_44, z_t_45, z_t_46, z_t_47, z_t_48, z_t_49, z_t_50, z_t_51, z_t_52, z_t_53, z_t_54, z_t_55, z_t_56, z_t_57, z_t_58, z_t_59, z_t_60])) :: (h_t_has, .inl (k_t_has, 10, .inl t_has)) :: (h_t_us, .inl (k_t_us, 10, .inl t_us)) :: (h_t_vs, .inl (k_t_vs, 10, .inl t_vs)) :: (h_t_ds, .inl (k_t_ds, 10, .inl t_ds)) :: R) A) ?_ ?_ ?_
  · decide +kernel
  · exact Nat.le_of_ble_eq_true rfl
  intro p e s m args below meth c A ls S hr hlk hnm hS hA hP hD hK hN hl
  have S : CallFix p m c cX12_compare 3 s args AL "DigitBenchModel" := S
  have hx := S.1
  have hb := S.2.1
  have hown := S.2.2.2.1
  have ha := S.2.2.2.2
  have hl : lv_has ls 3 [(0, .ref h_t), (1, .int l1), (2, .int l2)] := hl
  unfold f_X12_compare at h
  refine lv_aload_n hx hb dX12_compare_0 rfl (lv_at hl 0 rfl) ?_
  refine lv_iconst (v := 0) hx hb dX12_compare_1 (by decide) ?_
  refine va_put (D := D) (ci := 12) (v := .int 0) (ty := .int) (C := RX12) (T := TX12) (N := 61) hx hb ha ix12 tyX12 tyX12_ok nmX12 hown hK hP hD hS 0 rfl rfl 0 (by decide) (ha _ q960) (fun _ h9 => h9) rfl (by decide +kernel) rfl rfl (Nat.le_of_ble_eq_true rfl) dX12_compare_2 (fun H locs hP hD hS => ?_)
  have hP : va_P D vwCl ((h_t, .inr (12, [.int 0, z_t_1, z_t_2, .int t_a, z_t_4, .int t_root, .ref h_t_has, .ref h_t_us, .ref h_t_vs, .ref h_t_ds, z_t_10, z_t_11, z_t_12, z_t_13, z_t_14, z_t_15, z_t_16, z_t_17, z_t_18, z_t_19, z_t_20, z_t_21, z_t_22, z_t_23, z_t_24, z_t_25, z_t_26, z_t_27, z_t_28, z_t_29, z_t_30, z_t_31, z_t_32, z_t_33, z_t_34, z_t_35, z_t_36, z_t_37, z_t_38, z_t_39, z_t_40, z_t_41, z_t_42, z_t_43, z_t_44, z_t_45, z_t_46, z_t_47, z_t_48, z_t_49, z_t_50, z_t_51, z_t_52, z_t_53, z_t_54, z_t_55, z_t_56, z_t_57, z_t_58, z_t_59, z_t_60])) :: (h_t_has, .inl (k_t_has, 10, .inl t_has)) :: (h_t_us, .inl (k_t_us, 10, .inl t_us)) :: (h_t_vs, .inl (k_t_vs, 10, .inl t_vs)) :: (h_t_ds, .inl (k_t_ds, 10, .inl t_ds)) :: R) H := hP
  have hD : va_D A ((h_t, .inr (12, [.int 0, z_t_1, z_t_2, .int t_a, z_t_4, .int t_root, .ref h_t_has, .ref h_t_us, .ref h_t_vs, .ref h_t_ds, z_t_10, z_t_11, z_t_12, z_t_13, z_t_14, z_t_15, z_t_16, z_t_17, z_t_18, z_t_19, z_t_20, z_t_21, z_t_22, z_t_23, z_t_24, z_t_25, z_t_26, z_t_27, z_t_28, z_t_29, z_t_30, z_t_31, z_t_32, z_t_33, z_t_34, z_t_35, z_t_36, z_t_37, z_t_38, z_t_39, z_t_40, z_t_41, z_t_42, z_t_43, z_t_44, z_t_45, z_t_46, z_t_47, z_t_48, z_t_49, z_t_50, z_t_51, z_t_52, z_t_53, z_t_54, z_t_55, z_t_56, z_t_57, z_t_58, z_t_59, z_t_60])) :: (h_t_has, .inl (k_t_has, 10, .inl t_has)) :: (h_t_us, .inl (k_t_us, 10, .inl t_us)) :: (h_t_vs, .inl (k_t_vs, 10, .inl t_vs)) :: (h_t_ds, .inl (k_t_ds, 10, .inl t_ds)) :: R) := hD
  refine lv_aload_n hx hb dX12_compare_5 rfl (lv_at hl 0 rfl) ?_
  refine lv_iload_n hx hb dX12_compare_6 rfl (lv_at hl 1 rfl) ?_
  obtain ⟨r_c7_0, e_c7_0, h⟩ := bnd1_ok h
  refine cl_z (rn_v (ci := 12) (As := [.int l1]) (rest := []) S (c_X12_isThere l D ((h_t_us, .inl (k_t_us, 10, .inl t_us)) :: (h_t_vs, .inl (k_t_vs, 10, .inl t_vs)) :: (h_t_ds, .inl (k_t_ds, 10, .inl t_ds)) :: R) h_t (.int 0) (z_t_1) (z_t_2) (.int t_a) (z_t_4) (.int t_root) (.ref h_t_us) (.ref h_t_vs) (.ref h_t_ds) (z_t_10) (z_t_11) (z_t_12) (z_t_13) (z_t_14) (z_t_15) (z_t_16) (z_t_17) (z_t_18) (z_t_19) (z_t_20) (z_t_21) (z_t_22) (z_t_23) (z_t_24) (z_t_25) (z_t_26) (z_t_27) (z_t_28) (z_t_29) (z_t_30) (z_t_31) (z_t_32) (z_t_33) (z_t_34) (z_t_35) (z_t_36) (z_t_37) (z_t_38) (z_t_39) (z_t_40) (z_t_41) (z_t_42) (z_t_43) (z_t_44) (z_t_45) (z_t_46) (z_t_47) (z_t_48) (z_t_49) (z_t_50) (z_t_51) (z_t_52) (z_t_53) (z_t_54) (z_t_55) (z_t_56) (z_t_57) (z_t_58) (z_t_59) (z_t_60) h_t_has k_t_has t_has l1 r_c7_0 e_c7_0 _) q1194 q1196 q30 q61 q1197 nd_X12_isThere ⟨Nat.le_of_ble_eq_true rfl, Nat.le_of_ble_eq_true rfl⟩ rfl rfl hP hD (hK.sub (tys' := [(k_t_has, .boolean)]) [0] rfl) hN rfl ⟨0, _, rfl⟩ rfl hl.1 rfl (Nat.le_of_ble_eq_true rfl) dX12_compare_7 ⟨Nat.le_of_ble_eq_true rfl, Nat.le_of_ble_eq_true rfl⟩) hS hA hD (fun H locs hP hD hS z_c7_0 => ?_)
  have hP : va_P D vwCl ((h_t, .inr (12, [.int 0, z_t_1, z_t_2, .int t_a, z_t_4, .int t_root, .ref h_t_has, .ref h_t_us, .ref h_t_vs, .ref h_t_ds, z_t_10, z_t_11, z_t_12, z_t_13, z_t_14, z_t_15, z_t_16, z_t_17, z_t_18, z_t_19, z_t_20, z_t_21, z_t_22, z_t_23, z_t_24, z_t_25, z_t_26, z_t_27, z_t_28, z_t_29, z_t_30, z_t_31, z_t_32, z_t_33, z_t_34, z_t_35, z_t_36, z_t_37, z_t_38, z_t_39, z_t_40, z_t_41, z_t_42, z_t_43, z_t_44, z_t_45, z_t_46, z_t_47, z_t_48, z_t_49, z_t_50, z_t_51, z_t_52, z_t_53, z_t_54, z_t_55, z_t_56, z_t_57, z_t_58, z_t_59, z_t_60])) :: (h_t_has, .inl (k_t_has, 10, .inl t_has)) :: (h_t_us, .inl (k_t_us, 10, .inl t_us)) :: (h_t_vs, .inl (k_t_vs, 10, .inl t_vs)) :: (h_t_ds, .inl (k_t_ds, 10, .inl t_ds)) :: R) H := hP
  have hD : va_D A ((h_t, .inr (12, [.int 0, z_t_1, z_t_2, .int t_a, z_t_4, .int t_root, .ref h_t_has, .ref h_t_us, .ref h_t_vs, .ref h_t_ds, z_t_10, z_t_11, z_t_12, z_t_13, z_t_14, z_t_15, z_t_16, z_t_17, z_t_18, z_t_19, z_t_20, z_t_21, z_t_22, z_t_23, z_t_24, z_t_25, z_t_26, z_t_27, z_t_28, z_t_29, z_t_30, z_t_31, z_t_32, z_t_33, z_t_34, z_t_35, z_t_36, z_t_37, z_t_38, z_t_39, z_t_40, z_t_41, z_t_42, z_t_43, z_t_44, z_t_45, z_t_46, z_t_47, z_t_48, z_t_49, z_t_50, z_t_51, z_t_52, z_t_53, z_t_54, z_t_55, z_t_56, z_t_57, z_t_58, z_t_59, z_t_60])) :: (h_t_has, .inl (k_t_has, 10, .inl t_has)) :: (h_t_us, .inl (k_t_us, 10, .inl t_us)) :: (h_t_vs, .inl (k_t_vs, 10, .inl t_vs)) :: (h_t_ds, .inl (k_t_ds, 10, .inl t_ds)) :: R) := hD
  refine lv_if_eq (tgt := 21) hx hb dX12_compare_10 (by decide) (fun c2 => ?_) (fun c2 => ?_)
  · have h := br_pos c2 h
    refine lv_iconst (v := 2) hx hb dX12_compare_21 (by decide) ?_
    cases h
    exact rt_i S hr hlk hP hD hS dX12_compare_22
  · have h := br_neg c2 h
    refine lv_aload_n hx hb dX12_compare_13 rfl (lv_at hl 0 rfl) ?_
    refine lv_iload_n hx hb dX12_compare_14 rfl (lv_at hl 2 rfl) ?_
    obtain ⟨r_c15_2, e_c15_2, h⟩ := bnd1_ok h
    refine cl_z (rn_v (ci := 12) (As := [.int l2]) (rest := []) S (c_X12_isThere l D ((h_t_us, .inl (k_t_us, 10, .inl t_us)) :: (h_t_vs, .inl (k_t_vs, 10, .inl t_vs)) :: (h_t_ds, .inl (k_t_ds, 10, .inl t_ds)) :: R) h_t (.int 0) (z_t_1) (z_t_2) (.int t_a) (z_t_4) (.int t_root) (.ref h_t_us) (.ref h_t_vs) (.ref h_t_ds) (z_t_10) (z_t_11) (z_t_12) (z_t_13) (z_t_14) (z_t_15) (z_t_16) (z_t_17) (z_t_18) (z_t_19) (z_t_20) (z_t_21) (z_t_22) (z_t_23) (z_t_24) (z_t_25) (z_t_26) (z_t_27) (z_t_28) (z_t_29) (z_t_30) (z_t_31) (z_t_32) (z_t_33) (z_t_34) (z_t_35) (z_t_36) (z_t_37) (z_t_38) (z_t_39) (z_t_40) (z_t_41) (z_t_42) (z_t_43) (z_t_44) (z_t_45) (z_t_46) (z_t_47) (z_t_48) (z_t_49) (z_t_50) (z_t_51) (z_t_52) (z_t_53) (z_t_54) (z_t_55) (z_t_56) (z_t_57) (z_t_58) (z_t_59) (z_t_60) h_t_has k_t_has t_has l2 r_c15_2 e_c15_2 _) q1194 q1196 q30 q61 q1197 nd_X12_isThere ⟨Nat.le_of_ble_eq_true rfl, Nat.le_of_ble_eq_true rfl⟩ rfl rfl hP hD (hK.sub (tys' := [(k_t_has, .boolean)]) [0] rfl) hN rfl ⟨0, _, rfl⟩ rfl hl.1 rfl (Nat.le_of_ble_eq_true rfl) dX12_compare_15 ⟨Nat.le_of_ble_eq_true rfl, Nat.le_of_ble_eq_true rfl⟩) hS hA hD (fun H locs hP hD hS z_c15_2 => ?_)
    have hP : va_P D vwCl ((h_t, .inr (12, [.int 0, z_t_1, z_t_2, .int t_a, z_t_4, .int t_root, .ref h_t_has, .ref h_t_us, .ref h_t_vs, .ref h_t_ds, z_t_10, z_t_11, z_t_12, z_t_13, z_t_14, z_t_15, z_t_16, z_t_17, z_t_18, z_t_19, z_t_20, z_t_21, z_t_22, z_t_23, z_t_24, z_t_25, z_t_26, z_t_27, z_t_28, z_t_29, z_t_30, z_t_31, z_t_32, z_t_33, z_t_34, z_t_35, z_t_36, z_t_37, z_t_38, z_t_39, z_t_40, z_t_41, z_t_42, z_t_43, z_t_44, z_t_45, z_t_46, z_t_47, z_t_48, z_t_49, z_t_50, z_t_51, z_t_52, z_t_53, z_t_54, z_t_55, z_t_56, z_t_57, z_t_58, z_t_59, z_t_60])) :: (h_t_has, .inl (k_t_has, 10, .inl t_has)) :: (h_t_us, .inl (k_t_us, 10, .inl t_us)) :: (h_t_vs, .inl (k_t_vs, 10, .inl t_vs)) :: (h_t_ds, .inl (k_t_ds, 10, .inl t_ds)) :: R) H := hP
    have hD : va_D A ((h_t, .inr (12, [.int 0, z_t_1, z_t_2, .int t_a, z_t_4, .int t_root, .ref h_t_has, .ref h_t_us, .ref h_t_vs, .ref h_t_ds, z_t_10, z_t_11, z_t_12, z_t_13, z_t_14, z_t_15, z_t_16, z_t_17, z_t_18, z_t_19, z_t_20, z_t_21, z_t_22, z_t_23, z_t_24, z_t_25, z_t_26, z_t_27, z_t_28, z_t_29, z_t_30, z_t_31, z_t_32, z_t_33, z_t_34, z_t_35, z_t_36, z_t_37, z_t_38, z_t_39, z_t_40, z_t_41, z_t_42, z_t_43, z_t_44, z_t_45, z_t_46, z_t_47, z_t_48, z_t_49, z_t_50, z_t_51, z_t_52, z_t_53, z_t_54, z_t_55, z_t_56, z_t_57, z_t_58, z_t_59, z_t_60])) :: (h_t_has, .inl (k_t_has, 10, .inl t_has)) :: (h_t_us, .inl (k_t_us, 10, .inl t_us)) :: (h_t_vs, .inl (k_t_vs, 10, .inl t_vs)) :: (h_t_ds, .inl (k_t_ds, 10, .inl t_ds)) :: R) := hD
    refine lv_if_ne (tgt := 23) hx hb dX12_compare_18 (by decide) (fun c4 => ?_) (fun c4 => ?_)
    · have h := br_neg c4 h
      refine lv_aload_n hx hb dX12_compare_23 rfl (lv_at hl 0 rfl) ?_
      refine lv_aload_n hx hb dX12_compare_24 rfl (lv_at hl 0 rfl) ?_
      refine va_get (D := D) (ci := 12) (v := .ref h_t_us) (C := RX12) (T := TX12) (N := 61) hx hb ha ix12 hown hK hP 0 rfl rfl 7 (by decide) (ha _ q967) (fun _ h9 => h9) rfl dX12_compare_25 ?_
      refine lv_iload_n hx hb dX12_compare_28 rfl (lv_at hl 1 rfl) ?_
      obtain ⟨i5, h⟩ := ix_ok h
      refine va_iald hx hb hK hP 2 1 rfl rfl i5 dX12_compare_29 ?_
      refine lv_i2l (v := (t_us l1.toNatClampNeg).toInt64) hx hb dX12_compare_30 rfl ?_
      refine lv_aload_n hx hb dX12_compare_31 rfl (lv_at hl 0 rfl) ?_
      refine va_get (D := D) (ci := 12) (v := .ref h_t_ds) (C := RX12) (T := TX12) (N := 61) hx hb ha ix12 hown hK hP 0 rfl rfl 9 (by decide) (ha _ q969) (fun _ h9 => h9) rfl dX12_compare_32 ?_
      refine lv_iload_n hx hb dX12_compare_35 rfl (lv_at hl 2 rfl) ?_
      obtain ⟨i6, h⟩ := ix_ok h
      refine va_iald hx hb hK hP 4 3 rfl rfl i6 dX12_compare_36 ?_
      refine lv_i2l (v := (t_ds l2.toNatClampNeg).toInt64) hx hb dX12_compare_37 rfl ?_
      refine lv_lmul hx hb dX12_compare_38 ?_
      refine lv_aload_n hx hb dX12_compare_39 rfl (lv_at hl 0 rfl) ?_
      refine va_get (D := D) (ci := 12) (v := .ref h_t_us) (C := RX12) (T := TX12) (N := 61) hx hb ha ix12 hown hK hP 0 rfl rfl 7 (by decide) (ha _ q967) (fun _ h9 => h9) rfl dX12_compare_40 ?_
      refine lv_iload_n hx hb dX12_compare_43 rfl (lv_at hl 2 rfl) ?_
      obtain ⟨i7, h⟩ := ix_ok h
      refine va_iald hx hb hK hP 2 1 rfl rfl i7 dX12_compare_44 ?_
      refine lv_i2l (v := (t_us l2.toNatClampNeg).toInt64) hx hb dX12_compare_45 rfl ?_
      refine lv_aload_n hx hb dX12_compare_46 rfl (lv_at hl 0 rfl) ?_
      refine va_get (D := D) (ci := 12) (v := .ref h_t_ds) (C := RX12) (T := TX12) (N := 61) hx hb ha ix12 hown hK hP 0 rfl rfl 9 (by decide) (ha _ q969) (fun _ h9 => h9) rfl dX12_compare_47 ?_
      refine lv_iload_n hx hb dX12_compare_50 rfl (lv_at hl 1 rfl) ?_
      obtain ⟨i8, h⟩ := ix_ok h
      refine va_iald hx hb hK hP 4 3 rfl rfl i8 dX12_compare_51 ?_
      refine lv_i2l (v := (t_ds l1.toNatClampNeg).toInt64) hx hb dX12_compare_52 rfl ?_
      refine lv_lmul hx hb dX12_compare_53 ?_
      refine lv_lsub hx hb dX12_compare_54 ?_
      refine lv_aload_n hx hb dX12_compare_55 rfl (lv_at hl 0 rfl) ?_
      refine va_get (D := D) (ci := 12) (v := .ref h_t_vs) (C := RX12) (T := TX12) (N := 61) hx hb ha ix12 hown hK hP 0 rfl rfl 8 (by decide) (ha _ q968) (fun _ h9 => h9) rfl dX12_compare_56 ?_
      refine lv_iload_n hx hb dX12_compare_59 rfl (lv_at hl 1 rfl) ?_
      obtain ⟨i9, h⟩ := ix_ok h
      refine va_iald hx hb hK hP 3 2 rfl rfl i9 dX12_compare_60 ?_
      refine lv_i2l (v := (t_vs l1.toNatClampNeg).toInt64) hx hb dX12_compare_61 rfl ?_
      refine lv_aload_n hx hb dX12_compare_62 rfl (lv_at hl 0 rfl) ?_
      refine va_get (D := D) (ci := 12) (v := .ref h_t_ds) (C := RX12) (T := TX12) (N := 61) hx hb ha ix12 hown hK hP 0 rfl rfl 9 (by decide) (ha _ q969) (fun _ h9 => h9) rfl dX12_compare_63 ?_
      refine lv_iload_n hx hb dX12_compare_66 rfl (lv_at hl 2 rfl) ?_
      obtain ⟨i10, h⟩ := ix_ok h
      refine va_iald hx hb hK hP 4 3 rfl rfl i10 dX12_compare_67 ?_
      refine lv_i2l (v := (t_ds l2.toNatClampNeg).toInt64) hx hb dX12_compare_68 rfl ?_
      refine lv_lmul hx hb dX12_compare_69 ?_
      refine lv_aload_n hx hb dX12_compare_70 rfl (lv_at hl 0 rfl) ?_
      refine va_get (D := D) (ci := 12) (v := .ref h_t_vs) (C := RX12) (T := TX12) (N := 61) hx hb ha ix12 hown hK hP 0 rfl rfl 8 (by decide) (ha _ q968) (fun _ h9 => h9) rfl dX12_compare_71 ?_
      refine lv_iload_n hx hb dX12_compare_74 rfl (lv_at hl 2 rfl) ?_
      obtain ⟨i11, h⟩ := ix_ok h
      refine va_iald hx hb hK hP 3 2 rfl rfl i11 dX12_compare_75 ?_
      refine lv_i2l (v := (t_vs l2.toNatClampNeg).toInt64) hx hb dX12_compare_76 rfl ?_
      refine lv_aload_n hx hb dX12_compare_77 rfl (lv_at hl 0 rfl) ?_
      refine va_get (D := D) (ci := 12) (v := .ref h_t_ds) (C := RX12) (T := TX12) (N := 61) hx hb ha ix12 hown hK hP 0 rfl rfl 9 (by decide) (ha _ q969) (fun _ h9 => h9) rfl dX12_compare_78 ?_
      refine lv_iload_n hx hb dX12_compare_81 rfl (lv_at hl 1 rfl) ?_
      obtain ⟨i12, h⟩ := ix_ok h
      refine va_iald hx hb hK hP 4 3 rfl rfl i12 dX12_compare_82 ?_
      refine lv_i2l (v := (t_ds l1.toNatClampNeg).toInt64) hx hb dX12_compare_83 rfl ?_
      refine lv_lmul hx hb dX12_compare_84 ?_
      refine lv_lsub hx hb dX12_compare_85 ?_
      obtain ⟨r_c86_12, e_c86_12, h⟩ := bnd1_ok h
      refine cl_i (rn_v (ci := 12) (As := [.long (((t_us l1.toNatClampNeg).toInt64 * (t_ds l2.toNatClampNeg).toInt64) - ((t_us l2.toNatClampNeg).toInt64 * (t_ds l1.toNatClampNeg).toInt64)), .long (((t_vs l1.toNatClampNeg).toInt64 * (t_ds l2.toNatClampNeg).toInt64) - ((t_vs l2.toNatClampNeg).toInt64 * (t_ds l1.toNatClampNeg).toInt64))]) (rest := []) S (c_X12_sign l D ((h_t_has, .inl (k_t_has, 10, .inl t_has)) :: (h_t_us, .inl (k_t_us, 10, .inl t_us)) :: (h_t_vs, .inl (k_t_vs, 10, .inl t_vs)) :: (h_t_ds, .inl (k_t_ds, 10, .inl t_ds)) :: R) h_t (.int 0) (z_t_1) (z_t_2) t_a (z_t_4) t_root (.ref h_t_has) (.ref h_t_us) (.ref h_t_vs) (.ref h_t_ds) (z_t_10) (z_t_11) (z_t_12) (z_t_13) (z_t_14) (z_t_15) (z_t_16) (z_t_17) (z_t_18) (z_t_19) (z_t_20) (z_t_21) (z_t_22) (z_t_23) (z_t_24) (z_t_25) (z_t_26) (z_t_27) (z_t_28) (z_t_29) (z_t_30) (z_t_31) (z_t_32) (z_t_33) (z_t_34) (z_t_35) (z_t_36) (z_t_37) (z_t_38) (z_t_39) (z_t_40) (z_t_41) (z_t_42) (z_t_43) (z_t_44) (z_t_45) (z_t_46) (z_t_47) (z_t_48) (z_t_49) (z_t_50) (z_t_51) (z_t_52) (z_t_53) (z_t_54) (z_t_55) (z_t_56) (z_t_57) (z_t_58) (z_t_59) (z_t_60) (((t_us l1.toNatClampNeg).toInt64 * (t_ds l2.toNatClampNeg).toInt64) - ((t_us l2.toNatClampNeg).toInt64 * (t_ds l1.toNatClampNeg).toInt64)) (((t_vs l1.toNatClampNeg).toInt64 * (t_ds l2.toNatClampNeg).toInt64) - ((t_vs l2.toNatClampNeg).toInt64 * (t_ds l1.toNatClampNeg).toInt64)) r_c86_12 e_c86_12 _) q1222 q1224 q35 q61 q1225 nd_X12_sign ⟨Nat.le_of_ble_eq_true rfl, Nat.le_of_ble_eq_true rfl⟩ rfl rfl hP hD (hK.sub (tys' := []) [] rfl) hN rfl ⟨0, _, rfl⟩ rfl hl.1 rfl (Nat.le_of_ble_eq_true rfl) dX12_compare_86 ⟨Nat.le_of_ble_eq_true rfl, Nat.le_of_ble_eq_true rfl⟩) hS hA hD (fun H locs hP hD hS => ?_)
      have hP : va_P D vwCl ((h_t, .inr (12, [.int 0, z_t_1, z_t_2, .int t_a, z_t_4, .int t_root, .ref h_t_has, .ref h_t_us, .ref h_t_vs, .ref h_t_ds, z_t_10, z_t_11, z_t_12, z_t_13, z_t_14, z_t_15, z_t_16, z_t_17, z_t_18, z_t_19, z_t_20, z_t_21, z_t_22, z_t_23, z_t_24, z_t_25, z_t_26, z_t_27, z_t_28, z_t_29, z_t_30, z_t_31, z_t_32, z_t_33, z_t_34, z_t_35, z_t_36, z_t_37, z_t_38, z_t_39, z_t_40, z_t_41, z_t_42, z_t_43, z_t_44, z_t_45, z_t_46, z_t_47, z_t_48, z_t_49, z_t_50, z_t_51, z_t_52, z_t_53, z_t_54, z_t_55, z_t_56, z_t_57, z_t_58, z_t_59, z_t_60])) :: (h_t_has, .inl (k_t_has, 10, .inl t_has)) :: (h_t_us, .inl (k_t_us, 10, .inl t_us)) :: (h_t_vs, .inl (k_t_vs, 10, .inl t_vs)) :: (h_t_ds, .inl (k_t_ds, 10, .inl t_ds)) :: R) H := hP
      have hD : va_D A ((h_t, .inr (12, [.int 0, z_t_1, z_t_2, .int t_a, z_t_4, .int t_root, .ref h_t_has, .ref h_t_us, .ref h_t_vs, .ref h_t_ds, z_t_10, z_t_11, z_t_12, z_t_13, z_t_14, z_t_15, z_t_16, z_t_17, z_t_18, z_t_19, z_t_20, z_t_21, z_t_22, z_t_23, z_t_24, z_t_25, z_t_26, z_t_27, z_t_28, z_t_29, z_t_30, z_t_31, z_t_32, z_t_33, z_t_34, z_t_35, z_t_36, z_t_37, z_t_38, z_t_39, z_t_40, z_t_41, z_t_42, z_t_43, z_t_44, z_t_45, z_t_46, z_t_47, z_t_48, z_t_49, z_t_50, z_t_51, z_t_52, z_t_53, z_t_54, z_t_55, z_t_56, z_t_57, z_t_58, z_t_59, z_t_60])) :: (h_t_has, .inl (k_t_has, 10, .inl t_has)) :: (h_t_us, .inl (k_t_us, 10, .inl t_us)) :: (h_t_vs, .inl (k_t_vs, 10, .inl t_vs)) :: (h_t_ds, .inl (k_t_ds, 10, .inl t_ds)) :: R) := hD
      cases h
      exact rt_i S hr hlk hP hD hS dX12_compare_89
    · have h := br_pos c4 h
      refine lv_iconst (v := 2) hx hb dX12_compare_21 (by decide) ?_
      cases h
      exact rt_i S hr hlk hP hD hS dX12_compare_22
