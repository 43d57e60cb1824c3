def f_X12_floorOf_L6 (l1 : Int64) (l3 : Int64) (l5 : Int64) (t_a : Int32) (t_root : Int32) : Nat → Int64 → Int64 →  Option (Int64)
  | 0, _, _ => none
  | n + 1, l7, l9 => (
    bnd1 (f_X12_sign t_a t_root (l1 - (l7 * l5)) l3) fun r_c15_0 => (
     if 0 ≤ r_c15_0 then (
      some l7
     ) else (
      f_X12_floorOf_L6 l1 l3 l5 t_a t_root n (l7 - l9) (l9 * 2)
     )
    ))
def f_X12_floorOf_L42 (l1 : Int64) (l3 : Int64) (l5 : Int64) (l7 : Int64) (t_a : Int32) (t_root : Int32) : Nat → Int64 →  Option (Int64)
  | 0, _ => none
  | n + 1, l9 => (
    bnd1 (f_X12_sign t_a t_root (l1 - ((l7 + l9) * l5)) l3) fun r_c54_3 => (
     if r_c54_3 < 0 then (
      some l9
     ) else (
      f_X12_floorOf_L42 l1 l3 l5 l7 t_a t_root n (l9 * 2)
     )
    ))
def f_X12_floorOf_L71 (l1 : Int64) (l3 : Int64) (l5 : Int64) (t_a : Int32) (t_root : Int32) : Nat → Int64 → Int64 →  Option (Int64)
  | 0, _, _ => none
  | n + 1, l7, l9 => (
    if l9 ≤ 0 then (
     some l7
    ) else (
     bnd1 (f_X12_sign t_a t_root (l1 - ((l7 + l9) * l5)) l3) fun r_c90_7 => (
      if r_c90_7 < 0 then (
       gd (nzL 2) (
        f_X12_floorOf_L71 l1 l3 l5 t_a t_root n l7 (l9 / 2)
       )
      ) else (
       gd (nzL 2) (
        f_X12_floorOf_L71 l1 l3 l5 t_a t_root n (l7 + l9) (l9 / 2)
       )
      )
     )
    ))
def f_X12_floorOf (t_a : Int32) (t_root : Int32) (l1 : Int64) (l3 : Int64) (l5 : Int64) : Option (Int64) :=
  bnd1 (f_X12_floorOf_L6 l1 l3 l5 t_a t_root FU 0 1) fun x7_L6_2 => (
   bnd1 (f_X12_floorOf_L42 l1 l3 l5 x7_L6_2 t_a t_root FU 1) fun x9_L42_5 => (
    bnd1 (f_X12_floorOf_L71 l1 l3 l5 t_a t_root FU x7_L6_2 x9_L42_5) fun x7_L71_11 => (
     some x7_L71_11
    )
   )
  )
set_option maxHeartbeats 4000000 in
set_option maxRecDepth 100000 in
theorem c_X12_floorOf (l : Launch) (D : va_G) (R : va_W) (h_t : Nat) (z_t_0 : Value) (z_t_1 : Value) (z_t_2 : Value) (t_a : Int32) (z_t_4 : Value) (t_root : Int32) (z_t_6 : Value) (z_t_7 : Value) (z_t_8 : Value) (z_t_9 : Value) (z_t_10 : Value) (z_t_11 : Value) (z_t_12 : Value) (z_t_13 : Value) (z_t_14 : Value) (z_t_15 : Value) (z_t_16 : Value) (z_t_17 : Value) (z_t_18 : Value) (z_t_19 : Value) (z_t_20 : Value) (z_t_21 : Value) (z_t_22 : Value) (z_t_23 : Value) (z_t_24 : Value) (z_t_25 : Value) (z_t_26 : Value) (z_t_27 : Value) (z_t_28 : Value) (z_t_29 : Value) (z_t_30 : Value) (z_t_31 : Value) (z_t_32 : Value) (z_t_33 : Value) (z_t_34 : Value) (z_t_35 : Value) (z_t_36 : Value) (z_t_37 : Value) (z_t_38 : Value) (z_t_39 : Value) (z_t_40 : Value) (z_t_41 : Value) (z_t_42 : Value) (z_t_43 : Value) (z_t_44 : Value) (z_t_45 : Value) (z_t_46 : Value) (z_t_47 : Value) (z_t_48 : Value) (z_t_49 : Value) (z_t_50 : Value) (z_t_51 : Value) (z_t_52 : Value) (z_t_53 : Value) (z_t_54 : Value) (z_t_55 : Value) (z_t_56 : Value) (z_t_57 : Value) (z_t_58 : Value) (z_t_59 : Value) (z_t_60 : Value) (l1 : Int64) (l3 : Int64) (l5 : Int64) (r : Int64)  (h : f_X12_floorOf t_a t_root l1 l3 l5 = some r) (sz : Nat) : Met l yX12_floorOf (WD yX12_floorOf cX12_floorOf 11 (some .long)) ({ frames := 1, cells := 0, slots := 0, locals := 28 }) (va_Pc [.ref h_t, .long l1, .long l3, .long l5] (PcW D [] ((h_t, .inr (12, [z_t_0, z_t_1, z_t_2, .int t_a, z_t_4, .int t_root, z_t_6, z_t_7, z_t_8, z_t_9, z_t_10, z_t_11, z_t_12, z_t_13, z_t_14, z_t_15, z_t_16, z_t_17, z_t_18, z_t_19, z_t_20, z_t_21, z_t_22, z_t_23, z_t_24, z_t_25, z_t_26, z_t_27, z_t_28, z_t_29, z_t_30, z_t_31, z_t_32, z_t_33, z_t_34, z_t_35, z_t_36, z_t_37, z_t_38, z_t_39, z_t_40, z_t_41, z_t_42, z_t_43, z_t_44, z_t_45, z_t_46, z_t_47, z_t_48, z_t_49, z_t_50, z_t_51, z_t_52, z_t_53, z_t_54, z_t_55, z_t_56, z_t_57, z_t_58, z_t_59, z_t_60])) :: R) sz)) (QL D r ((h_t, .inr (12, [z_t_0, z_t_1, z_t_2, .int t_a, z_t_4, .int t_root, z_t_6, z_t_7, z_t_8, z_t_9, z_t_10, z_t_11, z_t_12, z_t_13, z_t_14, z_t_15, z_t_16, z_t_17, z_t_18, z_t_19, z_t_20, z_t_21, z_t_22, z_t_23, z_t_24, z_t_25, z_t_26, z_t_27, z_t_28, z_t_29, z_t_30, z_t_31, z_t_32, z_t_33, z_t_34, z_t_35, z_t_36, z_t_37, z_t_38, z_t_39, z_t_40, z_t_41, z_t_42, z_t_43, z_t_44, z_t_45, z_t_46, z_t_47, z_t_48, z_t_49, z_t_50, z_t_51, z_t_52, z_t_53, z_t_54, z_t_55, z_t_56, z_t_57, z_t_58, z_t_59, z_t_60])) :: R) (va_A ((h_t, .inr (12, [z_t_0, z_t_1, z_t_2, .int t_a, z_t_4, .int t_root, z_t_6, z_t_7, z_t_8, z_t_9, z_t_10, z_t_11, z_t_12, z_t_13, z_t_14, z_t_15, z_t_16, z_t_17, z_t_18, z_t_19, z_t_20, z_t_21, z_t_22, z_t_23, z_t_24, z_t_25, z_t_26, z_t_27, z_t_28, z_t_29, z_t_30, z_t_31, z_t_32, z_t_33, z_t_34, z_t_35, z_t_36, z_t_37, z_t_38, z_t_39, z_t_40, z_t_41, z_t_42, z_t_43, z_t_44, z_t_45, z_t_46, z_t_47, z_t_48, z_t_49, z_t_50, z_t_51, z_t_52, z_t_53, z_t_54, z_t_55, z_t_56, z_t_57, z_t_58, z_t_59, z_t_60])) :: R) sz)) 0 0 (va_A ((h_t, .inr (12, [z_t_0, z_t_1, z_t_2, .int t_a, z_t_4, .int t_root, z_t_6, z_t_7, z_t_8, z_t_9, z_t_10, z_t_11, z_t_12, z_t_13, z_t_14, z_t_15, z_t_16, z_t_17, z_t_18, z_t_19, z_t_20, z_t_21, z_t_22, z_t_23, z_t_24, z_t_25, z_t_26, z_t_27, z_t_28, z_t_29, z_t_30, z_t_31, z_t_32, z_t_33, z_t_34, z_t_35, z_t_36, z_t_37, z_t_38, z_t_39, z_t_40, z_t_41, z_t_42, z_t_43, z_t_44, z_t_45, z_t_46, z_t_47, z_t_48, z_t_49, z_t_50, z_t_51, z_t_52, z_t_53, z_t_54, z_t_55, z_t_56, z_t_57, z_t_58, z_t_59, z_t_60])) :: R) sz) := by
  refine ct_start (QF := fun A => QL D r ((h_t, .inr (12, [z_t_0, z_t_1, z_t_2, .int t_a, z_t_4, .int t_root, z_t_6, z_t_7, z_t_8, z_t_9, z_t_10, z_t_11, z_t_12, z_t_13, z_t_14, z_t_15, z_t_16, z_t_17, z_t_18, z_t_19, z_t_20, z_t_21, z_t_22, z_t_23, z_t_24, z_t_25, z_t_26, z_t_27, z_t_28, z_t_29, z_t_30, z_t_31, z_t_32, z_t_33, z_t_34, z_t_35, z_t_36, z_t_37, z_t_38, z_t_39, z_t_40, z_t_41, z_t_42, z_t_43, z_t_44, z_t_45, z_t_46, z_t_47, z_t_48, z_t_49, z_t_50, z_t_51, z_t_52, z_t_53, z_t_54, z_t_55, z_t_56, z_t_57, z_t_58, z_t_59, z_t_60])) :: R) A) ?_ ?_ ?_
  · decide +kernel
  · exact Nat.le_of_ble_eq_true rfl
  intro p e s m args below meth c A ls S hr hlk hnm hS hA hP hD hK hN hl
  have S : CallFix p m c cX12_floorOf 11 s args AL "DigitBenchModel" := S
  have hx := S.1
  have hb := S.2.1
  have hown := S.2.2.2.1
  have ha := S.2.2.2.2
  have hl : lv_has ls 11 [(0, .ref h_t), (1, .long l1), (3, .long l3), (5, .long l5)] := hl
  have L6 : ∀ (Q : State → Prop) (n : Nat) (l1 : Int64) (l3 : Int64) (l5 : Int64) (l7 : Int64) (l9 : Int64)  (x7 : Int64), f_X12_floorOf_L6 l1 l3 l5 t_a t_root n l7 l9 = some x7 → ∀ (H : Heap) (locs : List Loc) (ls : Array Slot), va_P D vwCl ((h_t, .inr (12, [z_t_0, z_t_1, z_t_2, .int t_a, z_t_4, .int t_root, z_t_6, z_t_7, z_t_8, z_t_9, z_t_10, z_t_11, z_t_12, z_t_13, z_t_14, z_t_15, z_t_16, z_t_17, z_t_18, z_t_19, z_t_20, z_t_21, z_t_22, z_t_23, z_t_24, z_t_25, z_t_26, z_t_27, z_t_28, z_t_29, z_t_30, z_t_31, z_t_32, z_t_33, z_t_34, z_t_35, z_t_36, z_t_37, z_t_38, z_t_39, z_t_40, z_t_41, z_t_42, z_t_43, z_t_44, z_t_45, z_t_46, z_t_47, z_t_48, z_t_49, z_t_50, z_t_51, z_t_52, z_t_53, z_t_54, z_t_55, z_t_56, z_t_57, z_t_58, z_t_59, z_t_60])) :: R) H → va_D A ((h_t, .inr (12, [z_t_0, z_t_1, z_t_2, .int t_a, z_t_4, .int t_root, z_t_6, z_t_7, z_t_8, z_t_9, z_t_10, z_t_11, z_t_12, z_t_13, z_t_14, z_t_15, z_t_16, z_t_17, z_t_18, z_t_19, z_t_20, z_t_21, z_t_22, z_t_23, z_t_24, z_t_25, z_t_26, z_t_27, z_t_28, z_t_29, z_t_30, z_t_31, z_t_32, z_t_33, z_t_34, z_t_35, z_t_36, z_t_37, z_t_38, z_t_39, z_t_40, z_t_41, z_t_42, z_t_43, z_t_44, z_t_45, z_t_46, z_t_47, z_t_48, z_t_49, z_t_50, z_t_51, z_t_52, z_t_53, z_t_54, z_t_55, z_t_56, z_t_57, z_t_58, z_t_59, z_t_60])) :: R) → va_S A s.heap H locs → lv_has ls 11 [(0, .ref h_t), (1, .long l1), (3, .long l3), (5, .long l5), (7, .long l7), (9, .long l9)] → (∀ (H : Heap) (locs : List Loc) (ls : Array Slot), va_P D vwCl ((h_t, .inr (12, [z_t_0, z_t_1, z_t_2, .int t_a, z_t_4, .int t_root, z_t_6, z_t_7, z_t_8, z_t_9, z_t_10, z_t_11, z_t_12, z_t_13, z_t_14, z_t_15, z_t_16, z_t_17, z_t_18, z_t_19, z_t_20, z_t_21, z_t_22, z_t_23, z_t_24, z_t_25, z_t_26, z_t_27, z_t_28, z_t_29, z_t_30, z_t_31, z_t_32, z_t_33, z_t_34, z_t_35, z_t_36, z_t_37, z_t_38, z_t_39, z_t_40, z_t_41, z_t_42, z_t_43, z_t_44, z_t_45, z_t_46, z_t_47, z_t_48, z_t_49, z_t_50, z_t_51, z_t_52, z_t_53, z_t_54, z_t_55, z_t_56, z_t_57, z_t_58, z_t_59, z_t_60])) :: R) H → va_D A ((h_t, .inr (12, [z_t_0, z_t_1, z_t_2, .int t_a, z_t_4, .int t_root, z_t_6, z_t_7, z_t_8, z_t_9, z_t_10, z_t_11, z_t_12, z_t_13, z_t_14, z_t_15, z_t_16, z_t_17, z_t_18, z_t_19, z_t_20, z_t_21, z_t_22, z_t_23, z_t_24, z_t_25, z_t_26, z_t_27, z_t_28, z_t_29, z_t_30, z_t_31, z_t_32, z_t_33, z_t_34, z_t_35, z_t_36, z_t_37, z_t_38, z_t_39, z_t_40, z_t_41, z_t_42, z_t_43, z_t_44, z_t_45, z_t_46, z_t_47, z_t_48, z_t_49, z_t_50, z_t_51, z_t_52, z_t_53, z_t_54, z_t_55, z_t_56, z_t_57, z_t_58, z_t_59, z_t_60])) :: R) → va_S A s.heap H locs → lv_has ls 11 [(0, .ref h_t), (1, .long l1), (3, .long l3), (5, .long l5), (7, .long x7)] → W p l e { frames := 1, cells := 0, slots := 0, locals := 28 } s m args below meth c H locs 0 0 Q (F0 m 39 ls [])) → W p l e { frames := 1, cells := 0, slots := 0, locals := 28 } s m args below meth c H locs 0 0 Q (F0 m 6 ls []) := by
    intro Q n
    induction n with
    | zero =>
      intro l1 l3 l5 l7 l9 x7 h
      rw [f_X12_floorOf_L6] at h; cases h
    | succ n ih =>
      intro l1 l3 l5 l7 l9 x7 h H locs ls hP hD hS hl kk0
      rw [f_X12_floorOf_L6] at h
      refine lv_aload_n hx hb dX12_floorOf_6 rfl (lv_at hl 0 rfl) ?_
      refine lv_lload_n hx hb dX12_floorOf_7 rfl (lv_at hl 1 rfl) ?_
      refine lv_lload hx hb dX12_floorOf_8 (lv_at hl 4 rfl) ?_
      refine lv_lload hx hb dX12_floorOf_10 (lv_at hl 3 rfl) ?_
      refine lv_lmul hx hb dX12_floorOf_12 ?_
      refine lv_lsub hx hb dX12_floorOf_13 ?_
      refine lv_lload_n hx hb dX12_floorOf_14 rfl (lv_at hl 2 rfl) ?_
      obtain ⟨r_c15_0, e_c15_0, h⟩ := bnd1_ok h
      refine cl_i (rn_v (ci := 12) (As := [.long (l1 - (l7 * l5)), .long l3]) (rest := []) S (c_X12_sign l D (R) h_t (z_t_0) (z_t_1) (z_t_2) t_a (z_t_4) t_root (z_t_6) (z_t_7) (z_t_8) (z_t_9) (z_t_10) (z_t_11) (z_t_12) (z_t_13) (z_t_14) (z_t_15) (z_t_16) (z_t_17) (z_t_18) (z_t_19) (z_t_20) (z_t_21) (z_t_22) (z_t_23) (z_t_24) (z_t_25) (z_t_26) (z_t_27) (z_t_28) (z_t_29) (z_t_30) (z_t_31) (z_t_32) (z_t_33) (z_t_34) (z_t_35) (z_t_36) (z_t_37) (z_t_38) (z_t_39) (z_t_40) (z_t_41) (z_t_42) (z_t_43) (z_t_44) (z_t_45) (z_t_46) (z_t_47) (z_t_48) (z_t_49) (z_t_50) (z_t_51) (z_t_52) (z_t_53) (z_t_54) (z_t_55) (z_t_56) (z_t_57) (z_t_58) (z_t_59) (z_t_60) (l1 - (l7 * l5)) l3 r_c15_0 e_c15_0 _) q1222 q1224 q35 q61 q1225 nd_X12_sign ⟨Nat.le_of_ble_eq_true rfl, Nat.le_of_ble_eq_true rfl⟩ rfl rfl hP hD (hK.sub (tys' := []) [] rfl) hN rfl ⟨0, _, rfl⟩ rfl hl.1 rfl (Nat.le_of_ble_eq_true rfl) dX12_floorOf_15 ⟨Nat.le_of_ble_eq_true rfl, Nat.le_of_ble_eq_true rfl⟩) hS hA hD (fun H locs hP hD hS => ?_)
      have hP : va_P D vwCl ((h_t, .inr (12, [z_t_0, z_t_1, z_t_2, .int t_a, z_t_4, .int t_root, z_t_6, z_t_7, z_t_8, z_t_9, z_t_10, z_t_11, z_t_12, z_t_13, z_t_14, z_t_15, z_t_16, z_t_17, z_t_18, z_t_19, z_t_20, z_t_21, z_t_22, z_t_23, z_t_24, z_t_25, z_t_26, z_t_27, z_t_28, z_t_29, z_t_30, z_t_31, z_t_32, z_t_33, z_t_34, z_t_35, z_t_36, z_t_37, z_t_38, z_t_39, z_t_40, z_t_41, z_t_42, z_t_43, z_t_44, z_t_45, z_t_46, z_t_47, z_t_48, z_t_49, z_t_50, z_t_51, z_t_52, z_t_53, z_t_54, z_t_55, z_t_56, z_t_57, z_t_58, z_t_59, z_t_60])) :: R) H := hP
      have hD : va_D A ((h_t, .inr (12, [z_t_0, z_t_1, z_t_2, .int t_a, z_t_4, .int t_root, z_t_6, z_t_7, z_t_8, z_t_9, z_t_10, z_t_11, z_t_12, z_t_13, z_t_14, z_t_15, z_t_16, z_t_17, z_t_18, z_t_19, z_t_20, z_t_21, z_t_22, z_t_23, z_t_24, z_t_25, z_t_26, z_t_27, z_t_28, z_t_29, z_t_30, z_t_31, z_t_32, z_t_33, z_t_34, z_t_35, z_t_36, z_t_37, z_t_38, z_t_39, z_t_40, z_t_41, z_t_42, z_t_43, z_t_44, z_t_45, z_t_46, z_t_47, z_t_48, z_t_49, z_t_50, z_t_51, z_t_52, z_t_53, z_t_54, z_t_55, z_t_56, z_t_57, z_t_58, z_t_59, z_t_60])) :: R) := hD
      refine lv_if_ge (tgt := 39) hx hb dX12_floorOf_18 (by decide) (fun c2 => ?_) (fun c2 => ?_)
      · have h := br_pos c2 h
        cases h
        exact kk0 _ _ _ hP hD hS (lv_sub hl [0, 1, 2, 3, 4] rfl)
      · have h := br_neg c2 h
        refine lv_lload hx hb dX12_floorOf_21 (lv_at hl 4 rfl) ?_
        refine lv_lload hx hb dX12_floorOf_23 (lv_at hl 5 rfl) ?_
        refine lv_lsub hx hb dX12_floorOf_25 ?_
        refine lv_lstore (lv' := [(7, .long (l7 - l9)), (0, .ref h_t), (1, .long l1), (3, .long l3), (5, .long l5), (9, .long l9)]) hx hb dX12_floorOf_26 hl (by decide) rfl (fun ls hl => ?_)
        refine lv_lload hx hb dX12_floorOf_28 (lv_at hl 5 rfl) ?_
        refine lv_ldc2 (v := 2) hx hb hown (ha _ q1226) dX12_floorOf_30 ?_
        refine lv_lmul hx hb dX12_floorOf_33 ?_
        refine lv_lstore (lv' := [(9, .long (l9 * 2)), (7, .long (l7 - l9)), (0, .ref h_t), (1, .long l1), (3, .long l3), (5, .long l5)]) hx hb dX12_floorOf_34 hl (by decide) rfl (fun ls hl => ?_)
        refine lv_goto (tgt := 6) hx hb dX12_floorOf_36 (by decide) ?_
        exact ih l1 l3 l5 (l7 - l9) (l9 * 2) _ h _ _ _ hP hD hS (lv_sub hl [2, 3, 4, 5, 1, 0] rfl) kk0
  have L42 : ∀ (Q : State → Prop) (n : Nat) (l1 : Int64) (l3 : Int64) (l5 : Int64) (l7 : Int64) (l9 : Int64)  (x9 : Int64), f_X12_floorOf_L42 l1 l3 l5 l7 t_a t_root n l9 = some x9 → ∀ (H : Heap) (locs : List Loc) (ls : Array Slot), va_P D vwCl ((h_t, .inr (12, [z_t_0, z_t_1, z_t_2, .int t_a, z_t_4, .int t_root, z_t_6, z_t_7, z_t_8, z_t_9, z_t_10, z_t_11, z_t_12, z_t_13, z_t_14, z_t_15, z_t_16, z_t_17, z_t_18, z_t_19, z_t_20, z_t_21, z_t_22, z_t_23, z_t_24, z_t_25, z_t_26, z_t_27, z_t_28, z_t_29, z_t_30, z_t_31, z_t_32, z_t_33, z_t_34, z_t_35, z_t_36, z_t_37, z_t_38, z_t_39, z_t_40, z_t_41, z_t_42, z_t_43, z_t_44, z_t_45, z_t_46, z_t_47, z_t_48, z_t_49, z_t_50, z_t_51, z_t_52, z_t_53, z_t_54, z_t_55, z_t_56, z_t_57, z_t_58, z_t_59, z_t_60])) :: R) H → va_D A ((h_t, .inr (12, [z_t_0, z_t_1, z_t_2, .int t_a, z_t_4, .int t_root, z_t_6, z_t_7, z_t_8, z_t_9, z_t_10, z_t_11, z_t_12, z_t_13, z_t_14, z_t_15, z_t_16, z_t_17, z_t_18, z_t_19, z_t_20, z_t_21, z_t_22, z_t_23, z_t_24, z_t_25, z_t_26, z_t_27, z_t_28, z_t_29, z_t_30, z_t_31, z_t_32, z_t_33, z_t_34, z_t_35, z_t_36, z_t_37, z_t_38, z_t_39, z_t_40, z_t_41, z_t_42, z_t_43, z_t_44, z_t_45, z_t_46, z_t_47, z_t_48, z_t_49, z_t_50, z_t_51, z_t_52, z_t_53, z_t_54, z_t_55, z_t_56, z_t_57, z_t_58, z_t_59, z_t_60])) :: R) → va_S A s.heap H locs → lv_has ls 11 [(0, .ref h_t), (1, .long l1), (3, .long l3), (5, .long l5), (7, .long l7), (9, .long l9)] → (∀ (H : Heap) (locs : List Loc) (ls : Array Slot), va_P D vwCl ((h_t, .inr (12, [z_t_0, z_t_1, z_t_2, .int t_a, z_t_4, .int t_root, z_t_6, z_t_7, z_t_8, z_t_9, z_t_10, z_t_11, z_t_12, z_t_13, z_t_14, z_t_15, z_t_16, z_t_17, z_t_18, z_t_19, z_t_20, z_t_21, z_t_22, z_t_23, z_t_24, z_t_25, z_t_26, z_t_27, z_t_28, z_t_29, z_t_30, z_t_31, z_t_32, z_t_33, z_t_34, z_t_35, z_t_36, z_t_37, z_t_38, z_t_39, z_t_40, z_t_41, z_t_42, z_t_43, z_t_44, z_t_45, z_t_46, z_t_47, z_t_48, z_t_49, z_t_50, z_t_51, z_t_52, z_t_53, z_t_54, z_t_55, z_t_56, z_t_57, z_t_58, z_t_59, z_t_60])) :: R) H → va_D A ((h_t, .inr (12, [z_t_0, z_t_1, z_t_2, .int t_a, z_t_4, .int t_root, z_t_6, z_t_7, z_t_8, z_t_9, z_t_10, z_t_11, z_t_12, z_t_13, z_t_14, z_t_15, z_t_16, z_t_17, z_t_18, z_t_19, z_t_20, z_t_21, z_t_22, z_t_23, z_t_24, z_t_25, z_t_26, z_t_27, z_t_28, z_t_29, z_t_30, z_t_31, z_t_32, z_t_33, z_t_34, z_t_35, z_t_36, z_t_37, z_t_38, z_t_39, z_t_40, z_t_41, z_t_42, z_t_43, z_t_44, z_t_45, z_t_46, z_t_47, z_t_48, z_t_49, z_t_50, z_t_51, z_t_52, z_t_53, z_t_54, z_t_55, z_t_56, z_t_57, z_t_58, z_t_59, z_t_60])) :: R) → va_S A s.heap H locs → lv_has ls 11 [(0, .ref h_t), (1, .long l1), (3, .long l3), (5, .long l5), (7, .long l7), (9, .long x9)] → W p l e { frames := 1, cells := 0, slots := 0, locals := 28 } s m args below meth c H locs 0 0 Q (F0 m 71 ls [])) → W p l e { frames := 1, cells := 0, slots := 0, locals := 28 } s m args below meth c H locs 0 0 Q (F0 m 42 ls []) := by
    intro Q n
    induction n with
    | zero =>
      intro l1 l3 l5 l7 l9 x9 h
      rw [f_X12_floorOf_L42] at h; cases h
    | succ n ih =>
      intro l1 l3 l5 l7 l9 x9 h H locs ls hP hD hS hl kk0
      rw [f_X12_floorOf_L42] at h
      refine lv_aload_n hx hb dX12_floorOf_42 rfl (lv_at hl 0 rfl) ?_
      refine lv_lload_n hx hb dX12_floorOf_43 rfl (lv_at hl 1 rfl) ?_
      refine lv_lload hx hb dX12_floorOf_44 (lv_at hl 4 rfl) ?_
      refine lv_lload hx hb dX12_floorOf_46 (lv_at hl 5 rfl) ?_
      refine lv_ladd hx hb dX12_floorOf_48 ?_
      refine lv_lload hx hb dX12_floorOf_49 (lv_at hl 3 rfl) ?_
      refine lv_lmul hx hb dX12_floorOf_51 ?_
      refine lv_lsub hx hb dX12_floorOf_52 ?_
      refine lv_lload_n hx hb dX12_floorOf_53 rfl (lv_at hl 2 rfl) ?_
      obtain ⟨r_c54_3, e_c54_3, h⟩ := bnd1_ok h
      refine cl_i (rn_v (ci := 12) (As := [.long (l1 - ((l7 + l9) * l5)), .long l3]) (rest := []) S (c_X12_sign l D (R) h_t (z_t_0) (z_t_1) (z_t_2) t_a (z_t_4) t_root (z_t_6) (z_t_7) (z_t_8) (z_t_9) (z_t_10) (z_t_11) (z_t_12) (z_t_13) (z_t_14) (z_t_15) (z_t_16) (z_t_17) (z_t_18) (z_t_19) (z_t_20) (z_t_21) (z_t_22) (z_t_23) (z_t_24) (z_t_25) (z_t_26) (z_t_27) (z_t_28) (z_t_29) (z_t_30) (z_t_31) (z_t_32) (z_t_33) (z_t_34) (z_t_35) (z_t_36) (z_t_37) (z_t_38) (z_t_39) (z_t_40) (z_t_41) (z_t_42) (z_t_43) (z_t_44) (z_t_45) (z_t_46) (z_t_47) (z_t_48) (z_t_49) (z_t_50) (z_t_51) (z_t_52) (z_t_53) (z_t_54) (z_t_55) (z_t_56) (z_t_57) (z_t_58) (z_t_59) (z_t_60) (l1 - ((l7 + l9) * l5)) l3 r_c54_3 e_c54_3 _) q1222 q1224 q35 q61 q1225 nd_X12_sign ⟨Nat.le_of_ble_eq_true rfl, Nat.le_of_ble_eq_true rfl⟩ rfl rfl hP hD (hK.sub (tys' := []) [] rfl) hN rfl ⟨0, _, rfl⟩ rfl hl.1 rfl (Nat.le_of_ble_eq_true rfl) dX12_floorOf_54 ⟨Nat.le_of_ble_eq_true rfl, Nat.le_of_ble_eq_true rfl⟩) hS hA hD (fun H locs hP hD hS => ?_)
      have hP : va_P D vwCl ((h_t, .inr (12, [z_t_0, z_t_1, z_t_2, .int t_a, z_t_4, .int t_root, z_t_6, z_t_7, z_t_8, z_t_9, z_t_10, z_t_11, z_t_12, z_t_13, z_t_14, z_t_15, z_t_16, z_t_17, z_t_18, z_t_19, z_t_20, z_t_21, z_t_22, z_t_23, z_t_24, z_t_25, z_t_26, z_t_27, z_t_28, z_t_29, z_t_30, z_t_31, z_t_32, z_t_33, z_t_34, z_t_35, z_t_36, z_t_37, z_t_38, z_t_39, z_t_40, z_t_41, z_t_42, z_t_43, z_t_44, z_t_45, z_t_46, z_t_47, z_t_48, z_t_49, z_t_50, z_t_51, z_t_52, z_t_53, z_t_54, z_t_55, z_t_56, z_t_57, z_t_58, z_t_59, z_t_60])) :: R) H := hP
      have hD : va_D A ((h_t, .inr (12, [z_t_0, z_t_1, z_t_2, .int t_a, z_t_4, .int t_root, z_t_6, z_t_7, z_t_8, z_t_9, z_t_10, z_t_11, z_t_12, z_t_13, z_t_14, z_t_15, z_t_16, z_t_17, z_t_18, z_t_19, z_t_20, z_t_21, z_t_22, z_t_23, z_t_24, z_t_25, z_t_26, z_t_27, z_t_28, z_t_29, z_t_30, z_t_31, z_t_32, z_t_33, z_t_34, z_t_35, z_t_36, z_t_37, z_t_38, z_t_39, z_t_40, z_t_41, z_t_42, z_t_43, z_t_44, z_t_45, z_t_46, z_t_47, z_t_48, z_t_49, z_t_50, z_t_51, z_t_52, z_t_53, z_t_54, z_t_55, z_t_56, z_t_57, z_t_58, z_t_59, z_t_60])) :: R) := hD
      refine lv_if_lt (tgt := 71) hx hb dX12_floorOf_57 (by decide) (fun c5 => ?_) (fun c5 => ?_)
      · have h := br_pos c5 h
        cases h
        exact kk0 _ _ _ hP hD hS (lv_sub hl [0, 1, 2, 3, 4, 5] rfl)
      · have h := br_neg c5 h
        refine lv_lload hx hb dX12_floorOf_60 (lv_at hl 5 rfl) ?_
        refine lv_ldc2 (v := 2) hx hb hown (ha _ q1226) dX12_floorOf_62 ?_
        refine lv_lmul hx hb dX12_floorOf_65 ?_
        refine lv_lstore (lv' := [(9, .long (l9 * 2)), (0, .ref h_t), (1, .long l1), (3, .long l3), (5, .long l5), (7, .long l7)]) hx hb dX12_floorOf_66 hl (by decide) rfl (fun ls hl => ?_)
        refine lv_goto (tgt := 42) hx hb dX12_floorOf_68 (by decide) ?_
        exact ih l1 l3 l5 l7 (l9 * 2) _ h _ _ _ hP hD hS (lv_sub hl [1, 2, 3, 4, 5, 0] rfl) kk0
  have L71 : ∀ (Q : State → Prop) (n : Nat) (l1 : Int64) (l3 : Int64) (l5 : Int64) (l7 : Int64) (l9 : Int64)  (x7 : Int64), f_X12_floorOf_L71 l1 l3 l5 t_a t_root n l7 l9 = some x7 → ∀ (H : Heap) (locs : List Loc) (ls : Array Slot), va_P D vwCl ((h_t, .inr (12, [z_t_0, z_t_1, z_t_2, .int t_a, z_t_4, .int t_root, z_t_6, z_t_7, z_t_8, z_t_9, z_t_10, z_t_11, z_t_12, z_t_13, z_t_14, z_t_15, z_t_16, z_t_17, z_t_18, z_t_19, z_t_20, z_t_21, z_t_22, z_t_23, z_t_24, z_t_25, z_t_26, z_t_27, z_t_28, z_t_29, z_t_30, z_t_31, z_t_32, z_t_33, z_t_34, z_t_35, z_t_36, z_t_37, z_t_38, z_t_39, z_t_40, z_t_41, z_t_42, z_t_43, z_t_44, z_t_45, z_t_46, z_t_47, z_t_48, z_t_49, z_t_50, z_t_51, z_t_52, z_t_53, z_t_54, z_t_55, z_t_56, z_t_57, z_t_58, z_t_59, z_t_60])) :: R) H → va_D A ((h_t, .inr (12, [z_t_0, z_t_1, z_t_2, .int t_a, z_t_4, .int t_root, z_t_6, z_t_7, z_t_8, z_t_9, z_t_10, z_t_11, z_t_12, z_t_13, z_t_14, z_t_15, z_t_16, z_t_17, z_t_18, z_t_19, z_t_20, z_t_21, z_t_22, z_t_23, z_t_24, z_t_25, z_t_26, z_t_27, z_t_28, z_t_29, z_t_30, z_t_31, z_t_32, z_t_33, z_t_34, z_t_35, z_t_36, z_t_37, z_t_38, z_t_39, z_t_40, z_t_41, z_t_42, z_t_43, z_t_44, z_t_45, z_t_46, z_t_47, z_t_48, z_t_49, z_t_50, z_t_51, z_t_52, z_t_53, z_t_54, z_t_55, z_t_56, z_t_57, z_t_58, z_t_59, z_t_60])) :: R) → va_S A s.heap H locs → lv_has ls 11 [(0, .ref h_t), (1, .long l1), (3, .long l3), (5, .long l5), (7, .long l7), (9, .long l9)] → (∀ (H : Heap) (locs : List Loc) (ls : Array Slot), va_P D vwCl ((h_t, .inr (12, [z_t_0, z_t_1, z_t_2, .int t_a, z_t_4, .int t_root, z_t_6, z_t_7, z_t_8, z_t_9, z_t_10, z_t_11, z_t_12, z_t_13, z_t_14, z_t_15, z_t_16, z_t_17, z_t_18, z_t_19, z_t_20, z_t_21, z_t_22, z_t_23, z_t_24, z_t_25, z_t_26, z_t_27, z_t_28, z_t_29, z_t_30, z_t_31, z_t_32, z_t_33, z_t_34, z_t_35, z_t_36, z_t_37, z_t_38, z_t_39, z_t_40, z_t_41, z_t_42, z_t_43, z_t_44, z_t_45, z_t_46, z_t_47, z_t_48, z_t_49, z_t_50, z_t_51, z_t_52, z_t_53, z_t_54, z_t_55, z_t_56, z_t_57, z_t_58, z_t_59, z_t_60])) :: R) H → va_D A ((h_t, .inr (12, [z_t_0, z_t_1, z_t_2, .int t_a, z_t_4, .int t_root, z_t_6, z_t_7, z_t_8, z_t_9, z_t_10, z_t_11, z_t_12, z_t_13, z_t_14, z_t_15, z_t_16, z_t_17, z_t_18, z_t_19, z_t_20, z_t_21, z_t_22, z_t_23, z_t_24, z_t_25, z_t_26, z_t_27, z_t_28, z_t_29, z_t_30, z_t_31, z_t_32, z_t_33, z_t_34, z_t_35, z_t_36, z_t_37, z_t_38, z_t_39, z_t_40, z_t_41, z_t_42, z_t_43, z_t_44, z_t_45, z_t_46, z_t_47, z_t_48, z_t_49, z_t_50, z_t_51, z_t_52, z_t_53, z_t_54, z_t_55, z_t_56, z_t_57, z_t_58, z_t_59, z_t_60])) :: R) → va_S A s.heap H locs → lv_has ls 11 [(7, .long x7)] → W p l e { frames := 1, cells := 0, slots := 0, locals := 28 } s m args below meth c H locs 0 0 Q (F0 m 114 ls [])) → W p l e { frames := 1, cells := 0, slots := 0, locals := 28 } s m args below meth c H locs 0 0 Q (F0 m 71 ls []) := by
    intro Q n
    induction n with
    | zero =>
      intro l1 l3 l5 l7 l9 x7 h
      rw [f_X12_floorOf_L71] at h; cases h
    | succ n ih =>
      intro l1 l3 l5 l7 l9 x7 h H locs ls hP hD hS hl kk0
      rw [f_X12_floorOf_L71] at h
      refine lv_lload hx hb dX12_floorOf_71 (lv_at hl 5 rfl) ?_
      refine lv_lconst (v := 0) hx hb dX12_floorOf_73 (by decide) ?_
      refine xl_le (tgt := 114) hx hb dX12_floorOf_74 dX12_floorOf_75 (by decide) (fun c7 => ?_) (fun c7 => ?_)
      · have h := br_pos c7 h
        cases h
        exact kk0 _ _ _ hP hD hS (lv_sub hl [4] rfl)
      · have h := br_neg c7 h
        refine lv_aload_n hx hb dX12_floorOf_78 rfl (lv_at hl 0 rfl) ?_
        refine lv_lload_n hx hb dX12_floorOf_79 rfl (lv_at hl 1 rfl) ?_
        refine lv_lload hx hb dX12_floorOf_80 (lv_at hl 4 rfl) ?_
        refine lv_lload hx hb dX12_floorOf_82 (lv_at hl 5 rfl) ?_
        refine lv_ladd hx hb dX12_floorOf_84 ?_
        refine lv_lload hx hb dX12_floorOf_85 (lv_at hl 3 rfl) ?_
        refine lv_lmul hx hb dX12_floorOf_87 ?_
        refine lv_lsub hx hb dX12_floorOf_88 ?_
        refine lv_lload_n hx hb dX12_floorOf_89 rfl (lv_at hl 2 rfl) ?_
        obtain ⟨r_c90_7, e_c90_7, h⟩ := bnd1_ok h
        refine cl_i (rn_v (ci := 12) (As := [.long (l1 - ((l7 + l9) * l5)), .long l3]) (rest := []) S (c_X12_sign l D (R) h_t (z_t_0) (z_t_1) (z_t_2) t_a (z_t_4) t_root (z_t_6) (z_t_7) (z_t_8) (z_t_9) (z_t_10) (z_t_11) (z_t_12) (z_t_13) (z_t_14) (z_t_15) (z_t_16) (z_t_17) (z_t_18) (z_t_19) (z_t_20) (z_t_21) (z_t_22) (z_t_23) (z_t_24) (z_t_25) (z_t_26) (z_t_27) (z_t_28) (z_t_29) (z_t_30) (z_t_31) (z_t_32) (z_t_33) (z_t_34) (z_t_35) (z_t_36) (z_t_37) (z_t_38) (z_t_39) (z_t_40) (z_t_41) (z_t_42) (z_t_43) (z_t_44) (z_t_45) (z_t_46) (z_t_47) (z_t_48) (z_t_49) (z_t_50) (z_t_51) (z_t_52) (z_t_53) (z_t_54) (z_t_55) (z_t_56) (z_t_57) (z_t_58) (z_t_59) (z_t_60) (l1 - ((l7 + l9) * l5)) l3 r_c90_7 e_c90_7 _) q1222 q1224 q35 q61 q1225 nd_X12_sign ⟨Nat.le_of_ble_eq_true rfl, Nat.le_of_ble_eq_true rfl⟩ rfl rfl hP hD (hK.sub (tys' := []) [] rfl) hN rfl ⟨0, _, rfl⟩ rfl hl.1 rfl (Nat.le_of_ble_eq_true rfl) dX12_floorOf_90 ⟨Nat.le_of_ble_eq_true rfl, Nat.le_of_ble_eq_true rfl⟩) hS hA hD (fun H locs hP hD hS => ?_)
        have hP : va_P D vwCl ((h_t, .inr (12, [z_t_0, z_t_1, z_t_2, .int t_a, z_t_4, .int t_root, z_t_6, z_t_7, z_t_8, z_t_9, z_t_10, z_t_11, z_t_12, z_t_13, z_t_14, z_t_15, z_t_16, z_t_17, z_t_18, z_t_19, z_t_20, z_t_21, z_t_22, z_t_23, z_t_24, z_t_25, z_t_26, z_t_27, z_t_28, z_t_29, z_t_30, z_t_31, z_t_32, z_t_33, z_t_34, z_t_35, z_t_36, z_t_37, z_t_38, z_t_39, z_t_40, z_t_41, z_t_42, z_t_43, z_t_44, z_t_45, z_t_46, z_t_47, z_t_48, z_t_49, z_t_50, z_t_51, z_t_52, z_t_53, z_t_54, z_t_55, z_t_56, z_t_57, z_t_58, z_t_59, z_t_60])) :: R) H := hP
        have hD : va_D A ((h_t, .inr (12, [z_t_0, z_t_1, z_t_2, .int t_a, z_t_4, .int t_root, z_t_6, z_t_7, z_t_8, z_t_9, z_t_10, z_t_11, z_t_12, z_t_13, z_t_14, z_t_15, z_t_16, z_t_17, z_t_18, z_t_19, z_t_20, z_t_21, z_t_22, z_t_23, z_t_24, z_t_25, z_t_26, z_t_27, z_t_28, z_t_29, z_t_30, z_t_31, z_t_32, z_t_33, z_t_34, z_t_35, z_t_36, z_t_37, z_t_38, z_t_39, z_t_40, z_t_41, z_t_42, z_t_43, z_t_44, z_t_45, z_t_46, z_t_47, z_t_48, z_t_49, z_t_50, z_t_51, z_t_52, z_t_53, z_t_54, z_t_55, z_t_56, z_t_57, z_t_58, z_t_59, z_t_60])) :: R) := hD
        refine lv_if_lt (tgt := 103) hx hb dX12_floorOf_93 (by decide) (fun c9 => ?_) (fun c9 => ?_)
        · have h := br_pos c9 h
          refine lv_lload hx hb dX12_floorOf_103 (lv_at hl 5 rfl) ?_
          refine lv_ldc2 (v := 2) hx hb hown (ha _ q1226) dX12_floorOf_105 ?_
          obtain ⟨n10, h⟩ := nzL_ok h
          refine lv_ldiv hx hb dX12_floorOf_108 n10 ?_
          refine lv_lstore (lv' := [(9, .long (l9 / 2)), (0, .ref h_t), (1, .long l1), (3, .long l3), (5, .long l5), (7, .long l7)]) hx hb dX12_floorOf_109 hl (by decide) rfl (fun ls hl => ?_)
          refine lv_goto (tgt := 71) hx hb dX12_floorOf_111 (by decide) ?_
          exact ih l1 l3 l5 l7 (l9 / 2) _ h _ _ _ hP hD hS (lv_sub hl [1, 2, 3, 4, 5, 0] rfl) kk0
        · have h := br_neg c9 h
          refine lv_lload hx hb dX12_floorOf_96 (lv_at hl 4 rfl) ?_
          refine lv_lload hx hb dX12_floorOf_98 (lv_at hl 5 rfl) ?_
          refine lv_ladd hx hb dX12_floorOf_100 ?_
          refine lv_lstore (lv' := [(7, .long (l7 + l9)), (0, .ref h_t), (1, .long l1), (3, .long l3), (5, .long l5), (9, .long l9)]) hx hb dX12_floorOf_101 hl (by decide) rfl (fun ls hl => ?_)
          refine lv_lload hx hb dX12_floorOf_103 (lv_at hl 5 rfl) ?_
          refine lv_ldc2 (v := 2) hx hb hown (ha _ q1226) dX12_floorOf_105 ?_
          obtain ⟨n11, h⟩ := nzL_ok h
          refine lv_ldiv hx hb dX12_floorOf_108 n11 ?_
          refine lv_lstore (lv' := [(9, .long (l9 / 2)), (7, .long (l7 + l9)), (0, .ref h_t), (1, .long l1), (3, .long l3), (5, .long l5)]) hx hb dX12_floorOf_109 hl (by decide) rfl (fun ls hl => ?_)
          refine lv_goto (tgt := 71) hx hb dX12_floorOf_111 (by decide) ?_
          exact ih l1 l3 l5 (l7 + l9) (l9 / 2) _ h _ _ _ hP hD hS (lv_sub hl [2, 3, 4, 5, 1, 0] rfl) kk0
  unfold f_X12_floorOf at h
  refine lv_lconst (v := 0) hx hb dX12_floorOf_0 (by decide) ?_
  refine lv_lstore (lv' := [(7, .long 0), (0, .ref h_t), (1, .long l1), (3, .long l3), (5, .long l5)]) hx hb dX12_floorOf_1 hl (by decide) rfl (fun ls hl => ?_)
  refine lv_lconst (v := 1) hx hb dX12_floorOf_3 (by decide) ?_
  refine lv_lstore (lv' := [(9, .long 1), (7, .long 0), (0, .ref h_t), (1, .long l1), (3, .long l3), (5, .long l5)]) hx hb dX12_floorOf_4 hl (by decide) rfl (fun ls hl => ?_)
  obtain ⟨x7_L6_2, e_L6_2, h⟩ := bnd1_ok h
  refine L6 _ _ l1 l3 l5 0 1 x7_L6_2 e_L6_2 _ _ _ hP hD hS (lv_sub hl [2, 3, 4, 5, 1, 0] rfl) ?_
  intro H locs ls hP hD hS hl
  refine lv_lconst (v := 1) hx hb dX12_floorOf_39 (by decide) ?_
  refine lv_lstore (lv' := [(9, .long 1), (0, .ref h_t), (1, .long l1), (3, .long l3), (5, .long l5), (7, .long x7_L6_2)]) hx hb dX12_floorOf_40 hl (by decide) rfl (fun ls hl => ?_)
  obtain ⟨x9_L42_5, e_L42_5, h⟩ := bnd1_ok h
  refine L42 _ _ l1 l3 l5 x7_L6_2 1 x9_L42_5 e_L42_5 _ _ _ hP hD hS (lv_sub hl [1, 2, 3, 4, 5, 0] rfl) ?_
  intro H locs ls hP hD hS hl
  obtain ⟨x7_L71_11, e_L71_11, h⟩ := bnd1_ok h
  refine L71 _ _ l1 l3 l5 x7_L6_2 x9_L42_5 x7_L71_11 e_L71_11 _ _ _ hP hD hS (lv_sub hl [0, 1, 2, 3, 4, 5] rfl) ?_
  intro H locs ls hP hD hS hl
  refine lv_lload hx hb dX12_floorOf_114 (lv_at hl 0 rfl) ?_
  cases h
  exact rt_l S hr hlk hP hD hS dX12_floorOf_116
