def f_X12_floor (t_thrown : Int32) (t_a : Int32) (t_root : Int32) (t_has : Nat → Int32) (t_us : Nat → Int32) (t_vs : Nat → Int32) (t_ds : Nat → Int32) (l1 : Int32) : Option (Int64 × Int32) :=
  bnd1 (f_X12_isThere t_has l1) fun r_c3_0 => (
   if r_c3_0 = 0 then (
    bnd2 (f_X12_throwsIf t_thrown 1) fun r_c14_2 t_thrown_c14_2 => (
     if r_c14_2 = 0 then (
      gd (ixb l1 10) (
       gd (ixb l1 10) (
        gd (ixb l1 10) (
         bnd1 (f_X12_floorOf t_a t_root ((t_us l1.toNatClampNeg).toInt64) ((t_vs l1.toNatClampNeg).toInt64) ((t_ds l1.toNatClampNeg).toInt64)) fun r_c44_7 => (
          some (r_c44_7, t_thrown_c14_2)
         )
        )
       )
      )
     ) else (
      some (0, t_thrown_c14_2)
     )
    )
   ) else (
    bnd2 (f_X12_throwsIf t_thrown 0) fun r_c14_8 t_thrown_c14_8 => (
     if r_c14_8 = 0 then (
      gd (ixb l1 10) (
       gd (ixb l1 10) (
        gd (ixb l1 10) (
         bnd1 (f_X12_floorOf t_a t_root ((t_us l1.toNatClampNeg).toInt64) ((t_vs l1.toNatClampNeg).toInt64) ((t_ds l1.toNatClampNeg).toInt64)) fun r_c44_13 => (
          some (r_c44_13, t_thrown_c14_8)
         )
        )
       )
      )
     ) else (
      some (0, t_thrown_c14_8)
     )
    )
   )
  )
set_option maxHeartbeats 4000000 in
set_option maxRecDepth 100000 in
theorem c_X12_floor (l : Launch) (D : va_G) (R : va_W) (h_t : Nat) (t_thrown : Int32) (z_t_1 : Value) (z_t_2 : Value) (t_a : Int32) (z_t_4 : Value) (t_root : Int32) (z_t_10 : Value) (z_t_11 : Value) (z_t_12 : Value) (z_t_13 : Value) (z_t_14 : Value) (z_t_15 : Value) (z_t_16 : Value) (z_t_17 : Value) (z_t_18 : Value) (z_t_19 : Value) (z_t_20 : Value) (z_t_21 : Value) (z_t_22 : Value) (z_t_23 : Value) (z_t_24 : Value) (z_t_25 : Value) (z_t_26 : Value) (z_t_27 : Value) (z_t_28 : Value) (z_t_29 : Value) (z_t_30 : Value) (z_t_31 : Value) (z_t_32 : Value) (z_t_33 : Value) (z_t_34 : Value) (z_t_35 : Value) (z_t_36 : Value) (z_t_37 : Value) (z_t_38 : Value) (z_t_39 : Value) (z_t_40 : Value) (z_t_41 : Value) (z_t_42 : Value) (z_t_43 : Value) (z_t_44 : Value) (z_t_45 : Value) (z_t_46 : Value) (z_t_47 : Value) (z_t_48 : Value) (z_t_49 : Value) (z_t_50 : Value) (z_t_51 : Value) (z_t_52 : Value) (z_t_53 : Value) (z_t_54 : Value) (z_t_55 : Value) (z_t_56 : Value) (z_t_57 : Value) (z_t_58 : Value) (z_t_59 : Value) (z_t_60 : Value) (h_t_has : Nat) (k_t_has : ClassId) (t_has : Nat → Int32) (h_t_us : Nat) (k_t_us : ClassId) (t_us : Nat → Int32) (h_t_vs : Nat) (k_t_vs : ClassId) (t_vs : Nat → Int32) (h_t_ds : Nat) (k_t_ds : ClassId) (t_ds : Nat → Int32) (l1 : Int32) (r : Int64) (o_t_thrown : Int32)  (h : f_X12_floor t_thrown t_a t_root t_has t_us t_vs t_ds l1 = some (r, o_t_thrown)) (sz : Nat) : Met l yX12_floor (WD yX12_floor cX12_floor 2 (some .long)) ({ frames := 2, cells := 0, slots := 0, locals := 58 }) (va_Pc [.ref h_t, .int l1] (PcW D [(k_t_has, .boolean), (k_t_us, .int), (k_t_vs, .int), (k_t_ds, .int)] ((h_t, .inr (12, [.int t_thrown, z_t_1, z_t_2, .int t_a, z_t_4, .int t_root, .ref h_t_has, .ref h_t_us, .ref h_t_vs, .ref h_t_ds, z_t_10, z_t_11, z_t_12, z_t_13, z_t_14, z_t_15, z_t_16, z_t_17, z_t_18, z_t_19, z_t_20, z_t_21, z_t_22, z_t_23, z_t_24, z_t_25, z_t_26, z_t_27, z_t_28, z_t_29, z_t_30, z_t_31, z_t_32, z_t_33, z_t_34, z_t_35, z_t_36, z_t_37, z_t_38, z_t_39, z_t_40, z_t_41, z_t_42, z_t_43, z_t_44, z_t_45, z_t_46, z_t_47, z_t_48, z_t_49, z_t_50, z_t_51, z_t_52, z_t_53, z_t_54, z_t_55, z_t_56, z_t_57, z_t_58, z_t_59, z_t_60])) :: (h_t_has, .inl (k_t_has, 10, .inl t_has)) :: (h_t_us, .inl (k_t_us, 10, .inl t_us)) :: (h_t_vs, .inl (k_t_vs, 10, .inl t_vs)) :: (h_t_ds, .inl (k_t_ds, 10, .inl t_ds)) :: R) sz)) (QL D r ((h_t, .inr (12, [.int o_t_thrown, z_t_1, z_t_2, .int t_a, z_t_4, .int t_root, .ref h_t_has, .ref h_t_us, .ref h_t_vs, .ref h_t_ds, z_t_10, z_t_11, z_t_12, z_t_13, z_t_14, z_t_15, z_t_16, z_t_17, z_t_18, z_t_19, z_t_20, z_t_21, z_t_22, z_t_23, z_t_24, z_t_25, z_t_26, z_t_27, z_t_28, z_t_29, z_t_30, z_t_31, z_t_32, z_t_33, z_t_34, z_t_35, z_t_36, z_t_37, z_t_38, z_t_39, z_t_40, z_t_41, z_t_42, z_t_43, z_t_44, z_t_45, z_t_46, z_t_47, z_t_48, z_t_49, z_t_50, z_t_51, z_t_52, z_t_53, z_t_54, z_t_55, z_t_56, z_t_57, z_t_58, z_t_59, z_t_60])) :: (h_t_has, .inl (k_t_has, 10, .inl t_has)) :: (h_t_us, .inl (k_t_us, 10, .inl t_us)) :: (h_t_vs, .inl (k_t_vs, 10, .inl t_vs)) :: (h_t_ds, .inl (k_t_ds, 10, .inl t_ds)) :: R) (va_A ((h_t, .inr (12, [.int t_thrown, z_t_1, z_t_2, .int t_a, z_t_4, .int t_root, .ref h_t_has, .ref h_t_us, .ref h_t_vs, .ref h_t_ds, z_t_10, z_t_11, z_t_12, z_t_13, z_t_14, z_t_15, z_t_16, z_t_17, z_t_18, z_t_19, z_t_20, z_t_21, z_t_22, z_t_23, z_t_24, z_t_25, z_t_26, z_t_27, z_t_28, z_t_29, z_t_30, z_t_31, z_t_32, z_t_33, z_t_34, z_t_35, z_t_36, z_t_37, z_t_38, z_t_39, z_t_40, z_t_41, z_t_42, z_t_43, z_t_44, z_t_45, z_t_46, z_t_47, z_t_48, z_t_49, z_t_50, z_t_51, z_t_52, z_t_53, z_t_54, z_t_55, z_t_56, z_t_57, z_t_58, z_t_59, z_t_60])) :: (h_t_has, .inl (k_t_has, 10, .inl t_has)) :: (h_t_us, .inl (k_t_us, 10, .inl t_us)) :: (h_t_vs, .inl (k_t_vs, 10, .inl t_vs)) :: (h_t_ds, .inl (k_t_ds, 10, .inl t_ds)) :: R) sz)) 0 0 (va_A ((h_t, .inr (12, [.int t_thrown, z_t_1, z_t_2, .int t_a, z_t_4, .int t_root, .ref h_t_has, .ref h_t_us, .ref h_t_vs, .ref h_t_ds, z_t_10, z_t_11, z_t_12, z_t_13, z_t_14, z_t_15, z_t_16, z_t_17, z_t_18, z_t_19, z_t_20, z_t_21, z_t_22, z_t_23, z_t_24, z_t_25, z_t_26, z_t_27, z_t_28, z_t_29, z_t_30, z_t_31, z_t_32, z_t_33, z_t_34, z_t_35, z_t_36, z_t_37, z_t_38, z_t_39, z_t_40, z_t_41, z_t_42, z_t_43, z_t_44, z_t_45, z_t_46, z_t_47, z_t_48, z_t_49, z_t_50, z_t_51, z_t_52, z_t_53, z_t_54, z_t_55, z_t_56, z_t_57, z_t_58, z_t_59, z_t_60])) :: (h_t_has, .inl (k_t_has, 10, .inl t_has)) :: (h_t_us, .inl (k_t_us, 10, .inl t_us)) :: (h_t_vs, .inl (k_t_vs, 10, .inl t_vs)) :: (h_t_ds, .inl (k_t_ds, 10, .inl t_ds)) :: R) sz) := by
  refine ct_start (QF := fun A => QL D r ((h_t, .inr (12, [.int o_t_thrown, z_t_1, z_t_2, .int t_a, z_t_4, .int t_root, .ref h_t_has, .ref h_t_us, .ref h_t_vs, .ref h_t_ds, z_t_10, z_t_11, z_t_12, z_t_13, z_t_14, z_t_15, z_t_16, z_t_17, z_t_18, z_t_19, z_t_20, z_t_21, z_t_22, z_t_23, z_t_24, z_t_25, z_t_26, z_t_27, z_t_28, z_t_29, z_t_30, z_t_31, z_t_32, z_t_33, z_t_34, z_t_35, z_t_36, z_t_37, z_t_38, z_t_39, z_t_40, z_t_41, z_t_42, z_t_43, z_t_44, z_t_45, z_t_46, z_t_47, z_t_48, z_t_49, z_t_50, z_t_51, z_t_52, z_t_53, z_t_54, z_t_55, z_t_56, z_t_57, z_t_58, z_t_59, z_t_60])) :: (h_t_has, .inl (k_t_has, 10, .inl t_has)) :: (h_t_us, .inl (k_t_us, 10, .inl t_us)) :: (h_t_vs, .inl (k_t_vs, 10, .inl t_vs)) :: (h_t_ds, .inl (k_t_ds, 10, .inl t_ds)) :: R) A) ?_ ?_ ?_
  · decide +kernel
  · exact Nat.le_of_ble_eq_true rfl
  intro p e s m args below meth c A ls S hr hlk hnm hS hA hP hD hK hN hl
  have S : CallFix p m c cX12_floor 2 s args AL "DigitBenchModel" := S
  have hx := S.1
  have hb := S.2.1
  have hown := S.2.2.2.1
  have ha := S.2.2.2.2
  have hl : lv_has ls 2 [(0, .ref h_t), (1, .int l1)] := hl
  unfold f_X12_floor at h
  refine lv_aload_n hx hb dX12_floor_0 rfl (lv_at hl 0 rfl) ?_
  refine lv_aload_n hx hb dX12_floor_1 rfl (lv_at hl 0 rfl) ?_
  refine lv_iload_n hx hb dX12_floor_2 rfl (lv_at hl 1 rfl) ?_
  obtain ⟨r_c3_0, e_c3_0, h⟩ := bnd1_ok h
  refine cl_z (rn_v (ci := 12) (As := [.int l1]) (rest := [.ref h_t]) S (c_X12_isThere l D ((h_t_us, .inl (k_t_us, 10, .inl t_us)) :: (h_t_vs, .inl (k_t_vs, 10, .inl t_vs)) :: (h_t_ds, .inl (k_t_ds, 10, .inl t_ds)) :: R) h_t (.int t_thrown) (z_t_1) (z_t_2) (.int t_a) (z_t_4) (.int t_root) (.ref h_t_us) (.ref h_t_vs) (.ref h_t_ds) (z_t_10) (z_t_11) (z_t_12) (z_t_13) (z_t_14) (z_t_15) (z_t_16) (z_t_17) (z_t_18) (z_t_19) (z_t_20) (z_t_21) (z_t_22) (z_t_23) (z_t_24) (z_t_25) (z_t_26) (z_t_27) (z_t_28) (z_t_29) (z_t_30) (z_t_31) (z_t_32) (z_t_33) (z_t_34) (z_t_35) (z_t_36) (z_t_37) (z_t_38) (z_t_39) (z_t_40) (z_t_41) (z_t_42) (z_t_43) (z_t_44) (z_t_45) (z_t_46) (z_t_47) (z_t_48) (z_t_49) (z_t_50) (z_t_51) (z_t_52) (z_t_53) (z_t_54) (z_t_55) (z_t_56) (z_t_57) (z_t_58) (z_t_59) (z_t_60) h_t_has k_t_has t_has l1 r_c3_0 e_c3_0 _) q1194 q1196 q30 q61 q1197 nd_X12_isThere ⟨Nat.le_of_ble_eq_true rfl, Nat.le_of_ble_eq_true rfl⟩ rfl rfl hP hD (hK.sub (tys' := [(k_t_has, .boolean)]) [0] rfl) hN rfl ⟨0, _, rfl⟩ rfl hl.1 rfl (Nat.le_of_ble_eq_true rfl) dX12_floor_3 ⟨Nat.le_of_ble_eq_true rfl, Nat.le_of_ble_eq_true rfl⟩) hS hA hD (fun H locs hP hD hS z_c3_0 => ?_)
  have hP : va_P D vwCl ((h_t, .inr (12, [.int t_thrown, z_t_1, z_t_2, .int t_a, z_t_4, .int t_root, .ref h_t_has, .ref h_t_us, .ref h_t_vs, .ref h_t_ds, z_t_10, z_t_11, z_t_12, z_t_13, z_t_14, z_t_15, z_t_16, z_t_17, z_t_18, z_t_19, z_t_20, z_t_21, z_t_22, z_t_23, z_t_24, z_t_25, z_t_26, z_t_27, z_t_28, z_t_29, z_t_30, z_t_31, z_t_32, z_t_33, z_t_34, z_t_35, z_t_36, z_t_37, z_t_38, z_t_39, z_t_40, z_t_41, z_t_42, z_t_43, z_t_44, z_t_45, z_t_46, z_t_47, z_t_48, z_t_49, z_t_50, z_t_51, z_t_52, z_t_53, z_t_54, z_t_55, z_t_56, z_t_57, z_t_58, z_t_59, z_t_60])) :: (h_t_has, .inl (k_t_has, 10, .inl t_has)) :: (h_t_us, .inl (k_t_us, 10, .inl t_us)) :: (h_t_vs, .inl (k_t_vs, 10, .inl t_vs)) :: (h_t_ds, .inl (k_t_ds, 10, .inl t_ds)) :: R) H := hP
  have hD : va_D A ((h_t, .inr (12, [.int t_thrown, z_t_1, z_t_2, .int t_a, z_t_4, .int t_root, .ref h_t_has, .ref h_t_us, .ref h_t_vs, .ref h_t_ds, z_t_10, z_t_11, z_t_12, z_t_13, z_t_14, z_t_15, z_t_16, z_t_17, z_t_18, z_t_19, z_t_20, z_t_21, z_t_22, z_t_23, z_t_24, z_t_25, z_t_26, z_t_27, z_t_28, z_t_29, z_t_30, z_t_31, z_t_32, z_t_33, z_t_34, z_t_35, z_t_36, z_t_37, z_t_38, z_t_39, z_t_40, z_t_41, z_t_42, z_t_43, z_t_44, z_t_45, z_t_46, z_t_47, z_t_48, z_t_49, z_t_50, z_t_51, z_t_52, z_t_53, z_t_54, z_t_55, z_t_56, z_t_57, z_t_58, z_t_59, z_t_60])) :: (h_t_has, .inl (k_t_has, 10, .inl t_has)) :: (h_t_us, .inl (k_t_us, 10, .inl t_us)) :: (h_t_vs, .inl (k_t_vs, 10, .inl t_vs)) :: (h_t_ds, .inl (k_t_ds, 10, .inl t_ds)) :: R) := hD
  refine lv_if_ne (tgt := 13) hx hb dX12_floor_6 (by decide) (fun c2 => ?_) (fun c2 => ?_)
  · have h := br_neg c2 h
    refine lv_iconst (v := 0) hx hb dX12_floor_13 (by decide) ?_
    obtain ⟨r_c14_8, t_thrown_c14_8, e_c14_8, h⟩ := bnd2_ok h
    refine cl_z (rn_v (ci := 12) (As := [.int 0]) (rest := []) S (c_X12_throwsIf l D ((h_t_has, .inl (k_t_has, 10, .inl t_has)) :: (h_t_us, .inl (k_t_us, 10, .inl t_us)) :: (h_t_vs, .inl (k_t_vs, 10, .inl t_vs)) :: (h_t_ds, .inl (k_t_ds, 10, .inl t_ds)) :: R) h_t t_thrown (z_t_1) (z_t_2) (.int t_a) (z_t_4) (.int t_root) (.ref h_t_has) (.ref h_t_us) (.ref h_t_vs) (.ref h_t_ds) (z_t_10) (z_t_11) (z_t_12) (z_t_13) (z_t_14) (z_t_15) (z_t_16) (z_t_17) (z_t_18) (z_t_19) (z_t_20) (z_t_21) (z_t_22) (z_t_23) (z_t_24) (z_t_25) (z_t_26) (z_t_27) (z_t_28) (z_t_29) (z_t_30) (z_t_31) (z_t_32) (z_t_33) (z_t_34) (z_t_35) (z_t_36) (z_t_37) (z_t_38) (z_t_39) (z_t_40) (z_t_41) (z_t_42) (z_t_43) (z_t_44) (z_t_45) (z_t_46) (z_t_47) (z_t_48) (z_t_49) (z_t_50) (z_t_51) (z_t_52) (z_t_53) (z_t_54) (z_t_55) (z_t_56) (z_t_57) (z_t_58) (z_t_59) (z_t_60) 0 r_c14_8 t_thrown_c14_8 (by decide) e_c14_8 _) q1214 q1216 q34 q61 q1217 nd_X12_throwsIf ⟨Nat.le_of_ble_eq_true rfl, Nat.le_of_ble_eq_true rfl⟩ rfl rfl hP hD (hK.sub (tys' := []) [] rfl) hN rfl ⟨0, _, rfl⟩ rfl hl.1 rfl (Nat.le_of_ble_eq_true rfl) dX12_floor_14 ⟨Nat.le_of_ble_eq_true rfl, Nat.le_of_ble_eq_true rfl⟩) hS hA hD (fun H locs hP hD hS z_c14_8 => ?_)
    have hP : va_P D vwCl ((h_t, .inr (12, [.int t_thrown_c14_8, z_t_1, z_t_2, .int t_a, z_t_4, .int t_root, .ref h_t_has, .ref h_t_us, .ref h_t_vs, .ref h_t_ds, z_t_10, z_t_11, z_t_12, z_t_13, z_t_14, z_t_15, z_t_16, z_t_17, z_t_18, z_t_19, z_t_20, z_t_21, z_t_22, z_t_23, z_t_24, z_t_25, z_t_26, z_t_27, z_t_28, z_t_29, z_t_30, z_t_31, z_t_32, z_t_33, z_t_34, z_t_35, z_t_36, z_t_37, z_t_38, z_t_39, z_t_40, z_t_41, z_t_42, z_t_43, z_t_44, z_t_45, z_t_46, z_t_47, z_t_48, z_t_49, z_t_50, z_t_51, z_t_52, z_t_53, z_t_54, z_t_55, z_t_56, z_t_57, z_t_58, z_t_59, z_t_60])) :: (h_t_has, .inl (k_t_has, 10, .inl t_has)) :: (h_t_us, .inl (k_t_us, 10, .inl t_us)) :: (h_t_vs, .inl (k_t_vs, 10, .inl t_vs)) :: (h_t_ds, .inl (k_t_ds, 10, .inl t_ds)) :: R) H := hP
    have hD : va_D A ((h_t, .inr (12, [.int t_thrown_c14_8, z_t_1, z_t_2, .int t_a, z_t_4, .int t_root, .ref h_t_has, .ref h_t_us, .ref h_t_vs, .ref h_t_ds, z_t_10, z_t_11, z_t_12, z_t_13, z_t_14, z_t_15, z_t_16, z_t_17, z_t_18, z_t_19, z_t_20, z_t_21, z_t_22, z_t_23, z_t_24, z_t_25, z_t_26, z_t_27, z_t_28, z_t_29, z_t_30, z_t_31, z_t_32, z_t_33, z_t_34, z_t_35, z_t_36, z_t_37, z_t_38, z_t_39, z_t_40, z_t_41, z_t_42, z_t_43, z_t_44, z_t_45, z_t_46, z_t_47, z_t_48, z_t_49, z_t_50, z_t_51, z_t_52, z_t_53, z_t_54, z_t_55, z_t_56, z_t_57, z_t_58, z_t_59, z_t_60])) :: (h_t_has, .inl (k_t_has, 10, .inl t_has)) :: (h_t_us, .inl (k_t_us, 10, .inl t_us)) :: (h_t_vs, .inl (k_t_vs, 10, .inl t_vs)) :: (h_t_ds, .inl (k_t_ds, 10, .inl t_ds)) :: R) := hD
    refine lv_if_eq (tgt := 22) hx hb dX12_floor_17 (by decide) (fun c10 => ?_) (fun c10 => ?_)
    · have h := br_pos c10 h
      refine lv_aload_n hx hb dX12_floor_22 rfl (lv_at hl 0 rfl) ?_
      refine lv_aload_n hx hb dX12_floor_23 rfl (lv_at hl 0 rfl) ?_
      refine va_get (D := D) (ci := 12) (v := .ref h_t_us) (C := RX12) (T := TX12) (N := 61) hx hb ha ix12 hown hK hP 0 rfl rfl 7 (by decide) (ha _ q967) (fun _ h9 => h9) rfl dX12_floor_24 ?_
      refine lv_iload_n hx hb dX12_floor_27 rfl (lv_at hl 1 rfl) ?_
      obtain ⟨i11, h⟩ := ix_ok h
      refine va_iald hx hb hK hP 2 1 rfl rfl i11 dX12_floor_28 ?_
      refine lv_i2l (v := (t_us l1.toNatClampNeg).toInt64) hx hb dX12_floor_29 rfl ?_
      refine lv_aload_n hx hb dX12_floor_30 rfl (lv_at hl 0 rfl) ?_
      refine va_get (D := D) (ci := 12) (v := .ref h_t_vs) (C := RX12) (T := TX12) (N := 61) hx hb ha ix12 hown hK hP 0 rfl rfl 8 (by decide) (ha _ q968) (fun _ h9 => h9) rfl dX12_floor_31 ?_
      refine lv_iload_n hx hb dX12_floor_34 rfl (lv_at hl 1 rfl) ?_
      obtain ⟨i12, h⟩ := ix_ok h
      refine va_iald hx hb hK hP 3 2 rfl rfl i12 dX12_floor_35 ?_
      refine lv_i2l (v := (t_vs l1.toNatClampNeg).toInt64) hx hb dX12_floor_36 rfl ?_
      refine lv_aload_n hx hb dX12_floor_37 rfl (lv_at hl 0 rfl) ?_
      refine va_get (D := D) (ci := 12) (v := .ref h_t_ds) (C := RX12) (T := TX12) (N := 61) hx hb ha ix12 hown hK hP 0 rfl rfl 9 (by decide) (ha _ q969) (fun _ h9 => h9) rfl dX12_floor_38 ?_
      refine lv_iload_n hx hb dX12_floor_41 rfl (lv_at hl 1 rfl) ?_
      obtain ⟨i13, h⟩ := ix_ok h
      refine va_iald hx hb hK hP 4 3 rfl rfl i13 dX12_floor_42 ?_
      refine lv_i2l (v := (t_ds l1.toNatClampNeg).toInt64) hx hb dX12_floor_43 rfl ?_
      obtain ⟨r_c44_13, e_c44_13, h⟩ := bnd1_ok h
      refine cl_l (rn_v (ci := 12) (As := [.long (t_us l1.toNatClampNeg).toInt64, .long (t_vs l1.toNatClampNeg).toInt64, .long (t_ds l1.toNatClampNeg).toInt64]) (rest := []) S (c_X12_floorOf l D ((h_t_has, .inl (k_t_has, 10, .inl t_has)) :: (h_t_us, .inl (k_t_us, 10, .inl t_us)) :: (h_t_vs, .inl (k_t_vs, 10, .inl t_vs)) :: (h_t_ds, .inl (k_t_ds, 10, .inl t_ds)) :: R) h_t (.int t_thrown_c14_8) (z_t_1) (z_t_2) t_a (z_t_4) t_root (.ref h_t_has) (.ref h_t_us) (.ref h_t_vs) (.ref h_t_ds) (z_t_10) (z_t_11) (z_t_12) (z_t_13) (z_t_14) (z_t_15) (z_t_16) (z_t_17) (z_t_18) (z_t_19) (z_t_20) (z_t_21) (z_t_22) (z_t_23) (z_t_24) (z_t_25) (z_t_26) (z_t_27) (z_t_28) (z_t_29) (z_t_30) (z_t_31) (z_t_32) (z_t_33) (z_t_34) (z_t_35) (z_t_36) (z_t_37) (z_t_38) (z_t_39) (z_t_40) (z_t_41) (z_t_42) (z_t_43) (z_t_44) (z_t_45) (z_t_46) (z_t_47) (z_t_48) (z_t_49) (z_t_50) (z_t_51) (z_t_52) (z_t_53) (z_t_54) (z_t_55) (z_t_56) (z_t_57) (z_t_58) (z_t_59) (z_t_60) ((t_us l1.toNatClampNeg).toInt64) ((t_vs l1.toNatClampNeg).toInt64) ((t_ds l1.toNatClampNeg).toInt64) r_c44_13 e_c44_13 _) q1231 q1233 q36 q61 q1234 nd_X12_floorOf ⟨Nat.le_of_ble_eq_true rfl, Nat.le_of_ble_eq_true rfl⟩ rfl rfl hP hD (hK.sub (tys' := []) [] rfl) hN rfl ⟨0, _, rfl⟩ rfl hl.1 rfl (Nat.le_of_ble_eq_true rfl) dX12_floor_44 ⟨Nat.le_of_ble_eq_true rfl, Nat.le_of_ble_eq_true rfl⟩) hS hA hD (fun H locs hP hD hS => ?_)
      have hP : va_P D vwCl ((h_t, .inr (12, [.int t_thrown_c14_8, z_t_1, z_t_2, .int t_a, z_t_4, .int t_root, .ref h_t_has, .ref h_t_us, .ref h_t_vs, .ref h_t_ds, z_t_10, z_t_11, z_t_12, z_t_13, z_t_14, z_t_15, z_t_16, z_t_17, z_t_18, z_t_19, z_t_20, z_t_21, z_t_22, z_t_23, z_t_24, z_t_25, z_t_26, z_t_27, z_t_28, z_t_29, z_t_30, z_t_31, z_t_32, z_t_33, z_t_34, z_t_35, z_t_36, z_t_37, z_t_38, z_t_39, z_t_40, z_t_41, z_t_42, z_t_43, z_t_44, z_t_45, z_t_46, z_t_47, z_t_48, z_t_49, z_t_50, z_t_51, z_t_52, z_t_53, z_t_54, z_t_55, z_t_56, z_t_57, z_t_58, z_t_59, z_t_60])) :: (h_t_has, .inl (k_t_has, 10, .inl t_has)) :: (h_t_us, .inl (k_t_us, 10, .inl t_us)) :: (h_t_vs, .inl (k_t_vs, 10, .inl t_vs)) :: (h_t_ds, .inl (k_t_ds, 10, .inl t_ds)) :: R) H := hP
      have hD : va_D A ((h_t, .inr (12, [.int t_thrown_c14_8, z_t_1, z_t_2, .int t_a, z_t_4, .int t_root, .ref h_t_has, .ref h_t_us, .ref h_t_vs, .ref h_t_ds, z_t_10, z_t_11, z_t_12, z_t_13, z_t_14, z_t_15, z_t_16, z_t_17, z_t_18, z_t_19, z_t_20, z_t_21, z_t_22, z_t_23, z_t_24, z_t_25, z_t_26, z_t_27, z_t_28, z_t_29, z_t_30, z_t_31, z_t_32, z_t_33, z_t_34, z_t_35, z_t_36, z_t_37, z_t_38, z_t_39, z_t_40, z_t_41, z_t_42, z_t_43, z_t_44, z_t_45, z_t_46, z_t_47, z_t_48, z_t_49, z_t_50, z_t_51, z_t_52, z_t_53, z_t_54, z_t_55, z_t_56, z_t_57, z_t_58, z_t_59, z_t_60])) :: (h_t_has, .inl (k_t_has, 10, .inl t_has)) :: (h_t_us, .inl (k_t_us, 10, .inl t_us)) :: (h_t_vs, .inl (k_t_vs, 10, .inl t_vs)) :: (h_t_ds, .inl (k_t_ds, 10, .inl t_ds)) :: R) := hD
      cases h
      exact rt_l S hr hlk hP hD hS dX12_floor_47
    · have h := br_neg c10 h
      refine lv_lconst (v := 0) hx hb dX12_floor_20 (by decide) ?_
      cases h
      exact rt_l S hr hlk hP hD hS dX12_floor_21
  · have h := br_pos c2 h
    refine lv_iconst (v := 1) hx hb dX12_floor_9 (by decide) ?_
    refine lv_goto (tgt := 14) hx hb dX12_floor_10 (by decide) ?_
    obtain ⟨r_c14_2, t_thrown_c14_2, e_c14_2, h⟩ := bnd2_ok h
    refine cl_z (rn_v (ci := 12) (As := [.int 1]) (rest := []) S (c_X12_throwsIf l D ((h_t_has, .inl (k_t_has, 10, .inl t_has)) :: (h_t_us, .inl (k_t_us, 10, .inl t_us)) :: (h_t_vs, .inl (k_t_vs, 10, .inl t_vs)) :: (h_t_ds, .inl (k_t_ds, 10, .inl t_ds)) :: R) h_t t_thrown (z_t_1) (z_t_2) (.int t_a) (z_t_4) (.int t_root) (.ref h_t_has) (.ref h_t_us) (.ref h_t_vs) (.ref h_t_ds) (z_t_10) (z_t_11) (z_t_12) (z_t_13) (z_t_14) (z_t_15) (z_t_16) (z_t_17) (z_t_18) (z_t_19) (z_t_20) (z_t_21) (z_t_22) (z_t_23) (z_t_24) (z_t_25) (z_t_26) (z_t_27) (z_t_28) (z_t_29) (z_t_30) (z_t_31) (z_t_32) (z_t_33) (z_t_34) (z_t_35) (z_t_36) (z_t_37) (z_t_38) (z_t_39) (z_t_40) (z_t_41) (z_t_42) (z_t_43) (z_t_44) (z_t_45) (z_t_46) (z_t_47) (z_t_48) (z_t_49) (z_t_50) (z_t_51) (z_t_52) (z_t_53) (z_t_54) (z_t_55) (z_t_56) (z_t_57) (z_t_58) (z_t_59) (z_t_60) 1 r_c14_2 t_thrown_c14_2 (by decide) e_c14_2 _) q1214 q1216 q34 q61 q1217 nd_X12_throwsIf ⟨Nat.le_of_ble_eq_true rfl, Nat.le_of_ble_eq_true rfl⟩ rfl rfl hP hD (hK.sub (tys' := []) [] rfl) hN rfl ⟨0, _, rfl⟩ rfl hl.1 rfl (Nat.le_of_ble_eq_true rfl) dX12_floor_14 ⟨Nat.le_of_ble_eq_true rfl, Nat.le_of_ble_eq_true rfl⟩) hS hA hD (fun H locs hP hD hS z_c14_2 => ?_)
    have hP : va_P D vwCl ((h_t, .inr (12, [.int t_thrown_c14_2, z_t_1, z_t_2, .int t_a, z_t_4, .int t_root, .ref h_t_has, .ref h_t_us, .ref h_t_vs, .ref h_t_ds, z_t_10, z_t_11, z_t_12, z_t_13, z_t_14, z_t_15, z_t_16, z_t_17, z_t_18, z_t_19, z_t_20, z_t_21, z_t_22, z_t_23, z_t_24, z_t_25, z_t_26, z_t_27, z_t_28, z_t_29, z_t_30, z_t_31, z_t_32, z_t_33, z_t_34, z_t_35, z_t_36, z_t_37, z_t_38, z_t_39, z_t_40, z_t_41, z_t_42, z_t_43, z_t_44, z_t_45, z_t_46, z_t_47, z_t_48, z_t_49, z_t_50, z_t_51, z_t_52, z_t_53, z_t_54, z_t_55, z_t_56, z_t_57, z_t_58, z_t_59, z_t_60])) :: (h_t_has, .inl (k_t_has, 10, .inl t_has)) :: (h_t_us, .inl (k_t_us, 10, .inl t_us)) :: (h_t_vs, .inl (k_t_vs, 10, .inl t_vs)) :: (h_t_ds, .inl (k_t_ds, 10, .inl t_ds)) :: R) H := hP
    have hD : va_D A ((h_t, .inr (12, [.int t_thrown_c14_2, z_t_1, z_t_2, .int t_a, z_t_4, .int t_root, .ref h_t_has, .ref h_t_us, .ref h_t_vs, .ref h_t_ds, z_t_10, z_t_11, z_t_12, z_t_13, z_t_14, z_t_15, z_t_16, z_t_17, z_t_18, z_t_19, z_t_20, z_t_21, z_t_22, z_t_23, z_t_24, z_t_25, z_t_26, z_t_27, z_t_28, z_t_29, z_t_30, z_t_31, z_t_32, z_t_33, z_t_34, z_t_35, z_t_36, z_t_37, z_t_38, z_t_39, z_t_40, z_t_41, z_t_42, z_t_43, z_t_44, z_t_45, z_t_46, z_t_47, z_t_48, z_t_49, z_t_50, z_t_51, z_t_52, z_t_53, z_t_54, z_t_55, z_t_56, z_t_57, z_t_58, z_t_59, z_t_60])) :: (h_t_has, .inl (k_t_has, 10, .inl t_has)) :: (h_t_us, .inl (k_t_us, 10, .inl t_us)) :: (h_t_vs, .inl (k_t_vs, 10, .inl t_vs)) :: (h_t_ds, .inl (k_t_ds, 10, .inl t_ds)) :: R) := hD
    refine lv_if_eq (tgt := 22) hx hb dX12_floor_17 (by decide) (fun c4 => ?_) (fun c4 => ?_)
    · have h := br_pos c4 h
      refine lv_aload_n hx hb dX12_floor_22 rfl (lv_at hl 0 rfl) ?_
      refine lv_aload_n hx hb dX12_floor_23 rfl (lv_at hl 0 rfl) ?_
      refine va_get (D := D) (ci := 12) (v := .ref h_t_us) (C := RX12) (T := TX12) (N := 61) hx hb ha ix12 hown hK hP 0 rfl rfl 7 (by decide) (ha _ q967) (fun _ h9 => h9) rfl dX12_floor_24 ?_
      refine lv_iload_n hx hb dX12_floor_27 rfl (lv_at hl 1 rfl) ?_
      obtain ⟨i5, h⟩ := ix_ok h
      refine va_iald hx hb hK hP 2 1 rfl rfl i5 dX12_floor_28 ?_
      refine lv_i2l (v := (t_us l1.toNatClampNeg).toInt64) hx hb dX12_floor_29 rfl ?_
      refine lv_aload_n hx hb dX12_floor_30 rfl (lv_at hl 0 rfl) ?_
      refine va_get (D := D) (ci := 12) (v := .ref h_t_vs) (C := RX12) (T := TX12) (N := 61) hx hb ha ix12 hown hK hP 0 rfl rfl 8 (by decide) (ha _ q968) (fun _ h9 => h9) rfl dX12_floor_31 ?_
      refine lv_iload_n hx hb dX12_floor_34 rfl (lv_at hl 1 rfl) ?_
      obtain ⟨i6, h⟩ := ix_ok h
      refine va_iald hx hb hK hP 3 2 rfl rfl i6 dX12_floor_35 ?_
      refine lv_i2l (v := (t_vs l1.toNatClampNeg).toInt64) hx hb dX12_floor_36 rfl ?_
      refine lv_aload_n hx hb dX12_floor_37 rfl (lv_at hl 0 rfl) ?_
      refine va_get (D := D) (ci := 12) (v := .ref h_t_ds) (C := RX12) (T := TX12) (N := 61) hx hb ha ix12 hown hK hP 0 rfl rfl 9 (by decide) (ha _ q969) (fun _ h9 => h9) rfl dX12_floor_38 ?_
      refine lv_iload_n hx hb dX12_floor_41 rfl (lv_at hl 1 rfl) ?_
      obtain ⟨i7, h⟩ := ix_ok h
      refine va_iald hx hb hK hP 4 3 rfl rfl i7 dX12_floor_42 ?_
      refine lv_i2l (v := (t_ds l1.toNatClampNeg).toInt64) hx hb dX12_floor_43 rfl ?_
      obtain ⟨r_c44_7, e_c44_7, h⟩ := bnd1_ok h
      refine cl_l (rn_v (ci := 12) (As := [.long (t_us l1.toNatClampNeg).toInt64, .long (t_vs l1.toNatClampNeg).toInt64, .long (t_ds l1.toNatClampNeg).toInt64]) (rest := []) S (c_X12_floorOf l D ((h_t_has, .inl (k_t_has, 10, .inl t_has)) :: (h_t_us, .inl (k_t_us, 10, .inl t_us)) :: (h_t_vs, .inl (k_t_vs, 10, .inl t_vs)) :: (h_t_ds, .inl (k_t_ds, 10, .inl t_ds)) :: R) h_t (.int t_thrown_c14_2) (z_t_1) (z_t_2) t_a (z_t_4) t_root (.ref h_t_has) (.ref h_t_us) (.ref h_t_vs) (.ref h_t_ds) (z_t_10) (z_t_11) (z_t_12) (z_t_13) (z_t_14) (z_t_15) (z_t_16) (z_t_17) (z_t_18) (z_t_19) (z_t_20) (z_t_21) (z_t_22) (z_t_23) (z_t_24) (z_t_25) (z_t_26) (z_t_27) (z_t_28) (z_t_29) (z_t_30) (z_t_31) (z_t_32) (z_t_33) (z_t_34) (z_t_35) (z_t_36) (z_t_37) (z_t_38) (z_t_39) (z_t_40) (z_t_41) (z_t_42) (z_t_43) (z_t_44) (z_t_45) (z_t_46) (z_t_47) (z_t_48) (z_t_49) (z_t_50) (z_t_51) (z_t_52) (z_t_53) (z_t_54) (z_t_55) (z_t_56) (z_t_57) (z_t_58) (z_t_59) (z_t_60) ((t_us l1.toNatClampNeg).toInt64) ((t_vs l1.toNatClampNeg).toInt64) ((t_ds l1.toNatClampNeg).toInt64) r_c44_7 e_c44_7 _) q1231 q1233 q36 q61 q1234 nd_X12_floorOf ⟨Nat.le_of_ble_eq_true rfl, Nat.le_of_ble_eq_true rfl⟩ rfl rfl hP hD (hK.sub (tys' := []) [] rfl) hN rfl ⟨0, _, rfl⟩ rfl hl.1 rfl (Nat.le_of_ble_eq_true rfl) dX12_floor_44 ⟨Nat.le_of_ble_eq_true rfl, Nat.le_of_ble_eq_true rfl⟩) hS hA hD (fun H locs hP hD hS => ?_)
      have hP : va_P D vwCl ((h_t, .inr (12, [.int t_thrown_c14_2, z_t_1, z_t_2, .int t_a, z_t_4, .int t_root, .ref h_t_has, .ref h_t_us, .ref h_t_vs, .ref h_t_ds, z_t_10, z_t_11, z_t_12, z_t_13, z_t_14, z_t_15, z_t_16, z_t_17, z_t_18, z_t_19, z_t_20, z_t_21, z_t_22, z_t_23, z_t_24, z_t_25, z_t_26, z_t_27, z_t_28, z_t_29, z_t_30, z_t_31, z_t_32, z_t_33, z_t_34, z_t_35, z_t_36, z_t_37, z_t_38, z_t_39, z_t_40, z_t_41, z_t_42, z_t_43, z_t_44, z_t_45, z_t_46, z_t_47, z_t_48, z_t_49, z_t_50, z_t_51, z_t_52, z_t_53, z_t_54, z_t_55, z_t_56, z_t_57, z_t_58, z_t_59, z_t_60])) :: (h_t_has, .inl (k_t_has, 10, .inl t_has)) :: (h_t_us, .inl (k_t_us, 10, .inl t_us)) :: (h_t_vs, .inl (k_t_vs, 10, .inl t_vs)) :: (h_t_ds, .inl (k_t_ds, 10, .inl t_ds)) :: R) H := hP
      have hD : va_D A ((h_t, .inr (12, [.int t_thrown_c14_2, z_t_1, z_t_2, .int t_a, z_t_4, .int t_root, .ref h_t_has, .ref h_t_us, .ref h_t_vs, .ref h_t_ds, z_t_10, z_t_11, z_t_12, z_t_13, z_t_14, z_t_15, z_t_16, z_t_17, z_t_18, z_t_19, z_t_20, z_t_21, z_t_22, z_t_23, z_t_24, z_t_25, z_t_26, z_t_27, z_t_28, z_t_29, z_t_30, z_t_31, z_t_32, z_t_33, z_t_34, z_t_35, z_t_36, z_t_37, z_t_38, z_t_39, z_t_40, z_t_41, z_t_42, z_t_43, z_t_44, z_t_45, z_t_46, z_t_47, z_t_48, z_t_49, z_t_50, z_t_51, z_t_52, z_t_53, z_t_54, z_t_55, z_t_56, z_t_57, z_t_58, z_t_59, z_t_60])) :: (h_t_has, .inl (k_t_has, 10, .inl t_has)) :: (h_t_us, .inl (k_t_us, 10, .inl t_us)) :: (h_t_vs, .inl (k_t_vs, 10, .inl t_vs)) :: (h_t_ds, .inl (k_t_ds, 10, .inl t_ds)) :: R) := hD
      cases h
      exact rt_l S hr hlk hP hD hS dX12_floor_47
    · have h := br_neg c4 h
      refine lv_lconst (v := 0) hx hb dX12_floor_20 (by decide) ?_
      cases h
      exact rt_l S hr hlk hP hD hS dX12_floor_21
