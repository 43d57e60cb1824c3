noncomputable def f_X12_rounds_L25 (t_newMany : Int32) (t_newLong : Nat → Int32) (t_newY : Nat → Int32) (t_newZ : Nat → Int32) : Nat → Int32 → (Nat → Int32) → (Nat → Int32) → (Nat → Int32) →  Option ((Nat → Int32) × (Nat → Int32) × (Nat → Int32))
  | 0, _, _, _, _ => none
  | n + 1, l2, t_roundLong, t_roundY, t_roundZ => (
    if t_newMany ≤ l2 then (
     some (t_roundLong, t_roundY, t_roundZ)
    ) else (
     gd (ixb l2 450) (
      gd (ixb l2 450) (
       gd (ixb l2 450) (
        gd (ixb l2 450) (
         gd (ixb l2 450) (
          gd (ixb l2 450) (
           f_X12_rounds_L25 t_newMany t_newLong t_newY t_newZ n (l2 + 1) (upd t_roundLong l2.toNatClampNeg (t_newLong l2.toNatClampNeg)) (upd t_roundY l2.toNatClampNeg (t_newY l2.toNatClampNeg)) (upd t_roundZ l2.toNatClampNeg (t_newZ l2.toNatClampNeg))
          )
         )
        )
       )
      )
     )
    ))
noncomputable def f_X12_rounds (t_thrown : Int32) (t_parts : Int32) (t_ringP : Int32) (t_ringQ : Int32) (t_baseY : Int32) (t_baseZ : Int32) (t_setMany : Int32) (t_quotientY : Int64) (t_quotientZ : Int64) (t_placeMany : Int32) (t_met : Int32) (t_length0 : Int32) (t_how : Int32) (t_roundMany : Int32) (t_newMany : Int32) (t_ends : Int32) (t_setY : Nat → Int32) (t_setZ : Nat → Int32) (t_wayY : Nat → Int32) (t_wayZ : Nat → Int32) (t_places : Nat → Int32) (t_roundLong : Nat → Int32) (t_roundY : Nat → Int32) (t_roundZ : Nat → Int32) (t_newLong : Nat → Int32) (t_newY : Nat → Int32) (t_newZ : Nat → Int32) (l1 : Int32) : Option (Int32 × Int32 × Int64 × Int64 × Int32 × Int32 × Int32 × Int32 × Int32 × Int32 × Int32 × (Nat → Int32) × (Nat → Int32) × (Nat → Int32) × (Nat → Int32) × (Nat → Int32) × (Nat → Int32) × (Nat → Int32) × (Nat → Int32) × (Nat → Int32)) :=
  bnd15 (f_X12_all t_parts t_ringP t_ringQ t_baseY t_baseZ t_setMany t_quotientY t_quotientZ t_placeMany t_met t_length0 t_how t_newMany t_ends t_setY t_setZ t_wayY t_wayZ t_places t_newLong t_newY t_newZ l1) fun r_c7_0 t_quotientY_c7_0 t_quotientZ_c7_0 t_placeMany_c7_0 t_met_c7_0 t_length0_c7_0 t_how_c7_0 t_newMany_c7_0 t_ends_c7_0 t_wayY_c7_0 t_wayZ_c7_0 t_places_c7_0 t_newLong_c7_0 t_newY_c7_0 t_newZ_c7_0 => (
   if r_c7_0 = 0 then (
    some ((-1), 0, t_quotientY_c7_0, t_quotientZ_c7_0, t_placeMany_c7_0, t_met_c7_0, t_length0_c7_0, t_how_c7_0, t_roundMany, t_newMany_c7_0, t_ends_c7_0, t_wayY_c7_0, t_wayZ_c7_0, t_places_c7_0, t_roundLong, t_roundY, t_roundZ, t_newLong_c7_0, t_newY_c7_0, t_newZ_c7_0)
   ) else (
    bnd3 (f_X12_rounds_L25 t_newMany_c7_0 t_newLong_c7_0 t_newY_c7_0 t_newZ_c7_0 FU 0 t_roundLong t_roundY t_roundZ) fun x_t_roundLong_L25_9 x_t_roundY_L25_9 x_t_roundZ_L25_9 => (
     some (t_newMany_c7_0, 0, t_quotientY_c7_0, t_quotientZ_c7_0, t_placeMany_c7_0, t_met_c7_0, t_length0_c7_0, t_how_c7_0, t_newMany_c7_0, t_newMany_c7_0, t_ends_c7_0, t_wayY_c7_0, t_wayZ_c7_0, t_places_c7_0, x_t_roundLong_L25_9, x_t_roundY_L25_9, x_t_roundZ_L25_9, t_newLong_c7_0, t_newY_c7_0, t_newZ_c7_0)
    )
   )
  )
set_option maxHeartbeats 4000000 in
set_option maxRecDepth 100000 in
theorem c_X12_rounds (l : Launch) (D : va_G) (R : va_W) (h_t : Nat) (t_thrown : Int32) (z_t_1 : Value) (z_t_2 : Value) (z_t_3 : Value) (z_t_4 : Value) (z_t_5 : Value) (z_t_6 : Value) (z_t_7 : Value) (z_t_8 : Value) (z_t_9 : Value) (z_t_10 : Value) (z_t_11 : Value) (z_t_12 : Value) (z_t_13 : Value) (z_t_14 : Value) (z_t_15 : Value) (z_t_16 : Value) (z_t_17 : Value) (z_t_18 : Value) (z_t_19 : Value) (z_t_20 : Value) (z_t_21 : Value) (z_t_22 : Value) (z_t_23 : Value) (z_t_24 : Value) (z_t_25 : Value) (z_t_26 : Value) (t_parts : Int32) (t_ringP : Int32) (t_ringQ : Int32) (t_baseY : Int32) (t_baseZ : Int32) (z_t_32 : Value) (t_setMany : Int32) (z_t_36 : Value) (z_t_37 : Value) (t_quotientY : Int64) (t_quotientZ : Int64) (t_placeMany : Int32) (t_met : Int32) (t_length0 : Int32) (t_how : Int32) (z_t_47 : Value) (z_t_48 : Value) (z_t_49 : Value) (z_t_50 : Value) (z_t_51 : Value) (t_roundMany : Int32) (t_newMany : Int32) (t_ends : Int32) (h_t_setY : Nat) (k_t_setY : ClassId) (t_setY : Nat → Int32) (h_t_setZ : Nat) (k_t_setZ : ClassId) (t_setZ : Nat → Int32) (h_t_wayY : Nat) (k_t_wayY : ClassId) (t_wayY : Nat → Int32) (h_t_wayZ : Nat) (k_t_wayZ : ClassId) (t_wayZ : Nat → Int32) (h_t_places : Nat) (k_t_places : ClassId) (t_places : Nat → Int32) (h_t_roundLong : Nat) (k_t_roundLong : ClassId) (t_roundLong : Nat → Int32) (h_t_roundY : Nat) (k_t_roundY : ClassId) (t_roundY : Nat → Int32) (h_t_roundZ : Nat) (k_t_roundZ : ClassId) (t_roundZ : Nat → Int32) (h_t_newLong : Nat) (k_t_newLong : ClassId) (t_newLong : Nat → Int32) (h_t_newY : Nat) (k_t_newY : ClassId) (t_newY : Nat → Int32) (h_t_newZ : Nat) (k_t_newZ : ClassId) (t_newZ : Nat → Int32) (l1 : Int32) (r : Int32) (o_t_thrown : Int32) (o_t_quotientY : Int64) (o_t_quotientZ : Int64) (o_t_placeMany : Int32) (o_t_met : Int32) (o_t_length0 : Int32) (o_t_how : Int32) (o_t_roundMany : Int32) (o_t_newMany : Int32) (o_t_ends : Int32) (o_t_wayY : Nat → Int32) (o_t_wayZ : Nat → Int32) (o_t_places : Nat → Int32) (o_t_roundLong : Nat → Int32) (o_t_roundY : Nat → Int32) (o_t_roundZ : Nat → Int32) (o_t_newLong : Nat → Int32) (o_t_newY : Nat → Int32) (o_t_newZ : Nat → Int32)  (h : f_X12_rounds t_thrown t_parts t_ringP t_ringQ t_baseY t_baseZ t_setMany t_quotientY t_quotientZ t_placeMany t_met t_length0 t_how t_roundMany t_newMany t_ends t_setY t_setZ t_wayY t_wayZ t_places t_roundLong t_roundY t_roundZ t_newLong t_newY t_newZ l1 = some (r, o_t_thrown, o_t_quotientY, o_t_quotientZ, o_t_placeMany, o_t_met, o_t_length0, o_t_how, o_t_roundMany, o_t_newMany, o_t_ends, o_t_wayY, o_t_wayZ, o_t_places, o_t_roundLong, o_t_roundY, o_t_roundZ, o_t_newLong, o_t_newY, o_t_newZ)) (sz : Nat) : Met l yX12_rounds (WD yX12_rounds cX12_rounds 3 (some .int)) ({ frames := 3, cells := 0, slots := 0, locals := 81 }) (va_Pc [.ref h_t, .int l1] (PcW D [(k_t_setY, .int), (k_t_setZ, .int), (k_t_wayY, .int), (k_t_wayZ, .int), (k_t_places, .int), (k_t_roundLong, .int), (k_t_roundY, .int), (k_t_roundZ, .int), (k_t_newLong, .int), (k_t_newY, .int), (k_t_newZ, .int)] ((h_t, .inr (12, (.int t_thrown :: z_t_1 :: z_t_2 :: z_t_3 :: z_t_4 :: z_t_5 :: z_t_6 :: z_t_7 :: z_t_8 :: z_t_9 :: z_t_10 :: z_t_11 :: z_t_12 :: z_t_13 :: z_t_14 :: z_t_15 :: z_t_16 :: z_t_17 :: z_t_18 :: z_t_19 :: z_t_20 :: z_t_21 :: z_t_22 :: z_t_23 :: z_t_24 :: z_t_25 :: z_t_26 :: .int t_parts :: .int t_ringP :: .int t_ringQ :: .int t_baseY :: .int t_baseZ :: z_t_32 :: .int t_setMany :: .ref h_t_setY :: .ref h_t_setZ :: z_t_36 :: z_t_37 :: .long t_quotientY :: .long t_quotientZ :: .ref h_t_wayY :: .ref h_t_wayZ :: .ref h_t_places :: .int t_placeMany :: .int t_met :: .int t_length0 :: .int t_how :: z_t_47 :: z_t_48 :: z_t_49 :: z_t_50 :: z_t_51 :: .ref h_t_roundLong :: .ref h_t_roundY :: .ref h_t_roundZ :: .ref h_t_newLong :: .ref h_t_newY :: .ref h_t_newZ :: .int t_roundMany :: .int t_newMany :: .int t_ends :: []))) :: (h_t_setY, .inl (k_t_setY, 25, .inl t_setY)) :: (h_t_setZ, .inl (k_t_setZ, 25, .inl t_setZ)) :: (h_t_wayY, .inl (k_t_wayY, 301, .inl t_wayY)) :: (h_t_wayZ, .inl (k_t_wayZ, 301, .inl t_wayZ)) :: (h_t_places, .inl (k_t_places, 300, .inl t_places)) :: (h_t_roundLong, .inl (k_t_roundLong, 450, .inl t_roundLong)) :: (h_t_roundY, .inl (k_t_roundY, 450, .inl t_roundY)) :: (h_t_roundZ, .inl (k_t_roundZ, 450, .inl t_roundZ)) :: (h_t_newLong, .inl (k_t_newLong, 450, .inl t_newLong)) :: (h_t_newY, .inl (k_t_newY, 450, .inl t_newY)) :: (h_t_newZ, .inl (k_t_newZ, 450, .inl t_newZ)) :: R) sz)) (QI D r ((h_t, .inr (12, (.int o_t_thrown :: z_t_1 :: z_t_2 :: z_t_3 :: z_t_4 :: z_t_5 :: z_t_6 :: z_t_7 :: z_t_8 :: z_t_9 :: z_t_10 :: z_t_11 :: z_t_12 :: z_t_13 :: z_t_14 :: z_t_15 :: z_t_16 :: z_t_17 :: z_t_18 :: z_t_19 :: z_t_20 :: z_t_21 :: z_t_22 :: z_t_23 :: z_t_24 :: z_t_25 :: z_t_26 :: .int t_parts :: .int t_ringP :: .int t_ringQ :: .int t_baseY :: .int t_baseZ :: z_t_32 :: .int t_setMany :: .ref h_t_setY :: .ref h_t_setZ :: z_t_36 :: z_t_37 :: .long o_t_quotientY :: .long o_t_quotientZ :: .ref h_t_wayY :: .ref h_t_wayZ :: .ref h_t_places :: .int o_t_placeMany :: .int o_t_met :: .int o_t_length0 :: .int o_t_how :: z_t_47 :: z_t_48 :: z_t_49 :: z_t_50 :: z_t_51 :: .ref h_t_roundLong :: .ref h_t_roundY :: .ref h_t_roundZ :: .ref h_t_newLong :: .ref h_t_newY :: .ref h_t_newZ :: .int o_t_roundMany :: .int o_t_newMany :: .int o_t_ends :: []))) :: (h_t_setY, .inl (k_t_setY, 25, .inl t_setY)) :: (h_t_setZ, .inl (k_t_setZ, 25, .inl t_setZ)) :: (h_t_wayY, .inl (k_t_wayY, 301, .inl o_t_wayY)) :: (h_t_wayZ, .inl (k_t_wayZ, 301, .inl o_t_wayZ)) :: (h_t_places, .inl (k_t_places, 300, .inl o_t_places)) :: (h_t_roundLong, .inl (k_t_roundLong, 450, .inl o_t_roundLong)) :: (h_t_roundY, .inl (k_t_roundY, 450, .inl o_t_roundY)) :: (h_t_roundZ, .inl (k_t_roundZ, 450, .inl o_t_roundZ)) :: (h_t_newLong, .inl (k_t_newLong, 450, .inl o_t_newLong)) :: (h_t_newY, .inl (k_t_newY, 450, .inl o_t_newY)) :: (h_t_newZ, .inl (k_t_newZ, 450, .inl o_t_newZ)) :: R) (va_A ((h_t, .inr (12, (.int t_thrown :: z_t_1 :: z_t_2 :: z_t_3 :: z_t_4 :: z_t_5 :: z_t_6 :: z_t_7 :: z_t_8 :: z_t_9 :: z_t_10 :: z_t_11 :: z_t_12 :: z_t_13 :: z_t_14 :: z_t_15 :: z_t_16 :: z_t_17 :: z_t_18 :: z_t_19 :: z_t_20 :: z_t_21 :: z_t_22 :: z_t_23 :: z_t_24 :: z_t_25 :: z_t_26 :: .int t_parts :: .int t_ringP :: .int t_ringQ :: .int t_baseY :: .int t_baseZ :: z_t_32 :: .int t_setMany :: .ref h_t_setY :: .ref h_t_setZ :: z_t_36 :: z_t_37 :: .long t_quotientY :: .long t_quotientZ :: .ref h_t_wayY :: .ref h_t_wayZ :: .ref h_t_places :: .int t_placeMany :: .int t_met :: .int t_length0 :: .int t_how :: z_t_47 :: z_t_48 :: z_t_49 :: z_t_50 :: z_t_51 :: .ref h_t_roundLong :: .ref h_t_roundY :: .ref h_t_roundZ :: .ref h_t_newLong :: .ref h_t_newY :: .ref h_t_newZ :: .int t_roundMany :: .int t_newMany :: .int t_ends :: []))) :: (h_t_setY, .inl (k_t_setY, 25, .inl t_setY)) :: (h_t_setZ, .inl (k_t_setZ, 25, .inl t_setZ)) :: (h_t_wayY, .inl (k_t_wayY, 301, .inl t_wayY)) :: (h_t_wayZ, .inl (k_t_wayZ, 301, .inl t_wayZ)) :: (h_t_places, .inl (k_t_places, 300, .inl t_places)) :: (h_t_roundLong, .inl (k_t_roundLong, 450, .inl t_roundLong)) :: (h_t_roundY, .inl (k_t_roundY, 450, .inl t_roundY)) :: (h_t_roundZ, .inl (k_t_roundZ, 450, .inl t_roundZ)) :: (h_t_newLong, .inl (k_t_newLong, 450, .inl t_newLong)) :: (h_t_newY, .inl (k_t_newY, 450, .inl t_newY)) :: (h_t_newZ, .inl (k_t_newZ, 450, .inl t_newZ)) :: R) sz)) 0 0 (va_A ((h_t, .inr (12, (.int t_thrown :: z_t_1 :: z_t_2 :: z_t_3 :: z_t_4 :: z_t_5 :: z_t_6 :: z_t_7 :: z_t_8 :: z_t_9 :: z_t_10 :: z_t_11 :: z_t_12 :: z_t_13 :: z_t_14 :: z_t_15 :: z_t_16 :: z_t_17 :: z_t_18 :: z_t_19 :: z_t_20 :: z_t_21 :: z_t_22 :: z_t_23 :: z_t_24 :: z_t_25 :: z_t_26 :: .int t_parts :: .int t_ringP :: .int t_ringQ :: .int t_baseY :: .int t_baseZ :: z_t_32 :: .int t_setMany :: .ref h_t_setY :: .ref h_t_setZ :: z_t_36 :: z_t_37 :: .long t_quotientY :: .long t_quotientZ :: .ref h_t_wayY :: .ref h_t_wayZ :: .ref h_t_places :: .int t_placeMany :: .int t_met :: .int t_length0 :: .int t_how :: z_t_47 :: z_t_48 :: z_t_49 :: z_t_50 :: z_t_51 :: .ref h_t_roundLong :: .ref h_t_roundY :: .ref h_t_roundZ :: .ref h_t_newLong :: .ref h_t_newY :: .ref h_t_newZ :: .int t_roundMany :: .int t_newMany :: .int t_ends :: []))) :: (h_t_setY, .inl (k_t_setY, 25, .inl t_setY)) :: (h_t_setZ, .inl (k_t_setZ, 25, .inl t_setZ)) :: (h_t_wayY, .inl (k_t_wayY, 301, .inl t_wayY)) :: (h_t_wayZ, .inl (k_t_wayZ, 301, .inl t_wayZ)) :: (h_t_places, .inl (k_t_places, 300, .inl t_places)) :: (h_t_roundLong, .inl (k_t_roundLong, 450, .inl t_roundLong)) :: (h_t_roundY, .inl (k_t_roundY, 450, .inl t_roundY)) :: (h_t_roundZ, .inl (k_t_roundZ, 450, .inl t_roundZ)) :: (h_t_newLong, .inl (k_t_newLong, 450, .inl t_newLong)) :: (h_t_newY, .inl (k_t_newY, 450, .inl t_newY)) :: (h_t_newZ, .inl (k_t_newZ, 450, .inl t_newZ)) :: R) sz) := by
  refine ct_start (QF := fun A => QI D r ((h_t, .inr (12, (.int o_t_thrown :: z_t_1 :: z_t_2 :: z_t_3 :: z_t_4 :: z_t_5 :: z_t_6 :: z_t_7 :: z_t_8 :: z_t_9 :: z_t_10 :: z_t_11 :: z_t_12 :: z_t_13 :: z_t_14 :: z_t_15 :: z_t_16 :: z_t_17 :: z_t_18 :: z_t_19 :: z_t_20 :: z_t_21 :: z_t_22 :: z_t_23 :: z_t_24 :: z_t_25 :: z_t_26 :: .int t_parts :: .int t_ringP :: .int t_ringQ :: .int t_baseY :: .int t_baseZ :: z_t_32 :: .int t_setMany :: .ref h_t_setY :: .ref h_t_setZ :: z_t_36 :: z_t_37 :: .long o_t_quotientY :: .long o_t_quotientZ :: .ref h_t_wayY :: .ref h_t_wayZ :: .ref h_t_places :: .int o_t_placeMany :: .int o_t_met :: .int o_t_length0 :: .int o_t_how :: z_t_47 :: z_t_48 :: z_t_49 :: z_t_50 :: z_t_51 :: .ref h_t_roundLong :: .ref h_t_roundY :: .ref h_t_roundZ :: .ref h_t_newLong :: .ref h_t_newY :: .ref h_t_newZ :: .int o_t_roundMany :: .int o_t_newMany :: .int o_t_ends :: []))) :: (h_t_setY, .inl (k_t_setY, 25, .inl t_setY)) :: (h_t_setZ, .inl (k_t_setZ, 25, .inl t_setZ)) :: (h_t_wayY, .inl (k_t_wayY, 301, .inl o_t_wayY)) :: (h_t_wayZ, .inl (k_t_wayZ, 301, .inl o_t_wayZ)) :: (h_t_places, .inl (k_t_places, 300, .inl o_t_places)) :: (h_t_roundLong, .inl (k_t_roundLong, 450, .inl o_t_roundLong)) :: (h_t_roundY, .inl (k_t_roundY, 450, .inl o_t_roundY)) :: (h_t_roundZ, .inl (k_t_roundZ, 450, .inl o_t_roundZ)) :: (h_t_newLong, .inl (k_t_newLong, 450, .inl o_t_newLong)) :: (h_t_newY, .inl (k_t_newY, 450, .inl o_t_newY)) :: (h_t_newZ, .inl (k_t_newZ, 450, .inl o_t_newZ)) :: R) A) ?_ ?_ ?_
  · decide +kernel
  · exact Nat.le_of_ble_eq_true rfl
  intro p e s m args below meth c A ls S hr hlk hnm hS hA hP hD hK hN hl
  have S : CallFix p m c cX12_rounds 3 s args AL "DigitBenchModel" := S
  have hx := S.1
  have hb := S.2.1
  have hown := S.2.2.2.1
  have ha := S.2.2.2.2
  have hl : lv_has ls 3 [(0, .ref h_t), (1, .int l1)] := hl
  have L25 : ∀ (Q : State → Prop) (n : Nat) (l2 : Int32) (t_thrown : Int32) (t_quotientY : Int64) (t_quotientZ : Int64) (t_placeMany : Int32) (t_met : Int32) (t_length0 : Int32) (t_how : Int32) (t_roundMany : Int32) (t_newMany : Int32) (t_ends : Int32) (t_wayY : Nat → Int32) (t_wayZ : Nat → Int32) (t_places : Nat → Int32) (t_roundLong : Nat → Int32) (t_roundY : Nat → Int32) (t_roundZ : Nat → Int32) (t_newLong : Nat → Int32) (t_newY : Nat → Int32) (t_newZ : Nat → Int32) (x_t_roundLong : Nat → Int32) (x_t_roundY : Nat → Int32) (x_t_roundZ : Nat → Int32), f_X12_rounds_L25 t_newMany t_newLong t_newY t_newZ n l2 t_roundLong t_roundY t_roundZ = some (x_t_roundLong, x_t_roundY, x_t_roundZ) → ∀ (H : Heap) (locs : List Loc) (ls : Array Slot), va_P D vwCl ((h_t, .inr (12, (.int t_thrown :: z_t_1 :: z_t_2 :: z_t_3 :: z_t_4 :: z_t_5 :: z_t_6 :: z_t_7 :: z_t_8 :: z_t_9 :: z_t_10 :: z_t_11 :: z_t_12 :: z_t_13 :: z_t_14 :: z_t_15 :: z_t_16 :: z_t_17 :: z_t_18 :: z_t_19 :: z_t_20 :: z_t_21 :: z_t_22 :: z_t_23 :: z_t_24 :: z_t_25 :: z_t_26 :: .int t_parts :: .int t_ringP :: .int t_ringQ :: .int t_baseY :: .int t_baseZ :: z_t_32 :: .int t_setMany :: .ref h_t_setY :: .ref h_t_setZ :: z_t_36 :: z_t_37 :: .long t_quotientY :: .long t_quotientZ :: .ref h_t_wayY :: .ref h_t_wayZ :: .ref h_t_places :: .int t_placeMany :: .int t_met :: .int t_length0 :: .int t_how :: z_t_47 :: z_t_48 :: z_t_49 :: z_t_50 :: z_t_51 :: .ref h_t_roundLong :: .ref h_t_roundY :: .ref h_t_roundZ :: .ref h_t_newLong :: .ref h_t_newY :: .ref h_t_newZ :: .int t_roundMany :: .int t_newMany :: .int t_ends :: []))) :: (h_t_setY, .inl (k_t_setY, 25, .inl t_setY)) :: (h_t_setZ, .inl (k_t_setZ, 25, .inl t_setZ)) :: (h_t_wayY, .inl (k_t_wayY, 301, .inl t_wayY)) :: (h_t_wayZ, .inl (k_t_wayZ, 301, .inl t_wayZ)) :: (h_t_places, .inl (k_t_places, 300, .inl t_places)) :: (h_t_roundLong, .inl (k_t_roundLong, 450, .inl t_roundLong)) :: (h_t_roundY, .inl (k_t_roundY, 450, .inl t_roundY)) :: (h_t_roundZ, .inl (k_t_roundZ, 450, .inl t_roundZ)) :: (h_t_newLong, .inl (k_t_newLong, 450, .inl t_newLong)) :: (h_t_newY, .inl (k_t_newY, 450, .inl t_newY)) :: (h_t_newZ, .inl (k_t_newZ, 450, .inl t_newZ)) :: R) H → va_D A ((h_t, .inr (12, (.int t_thrown :: z_t_1 :: z_t_2 :: z_t_3 :: z_t_4 :: z_t_5 :: z_t_6 :: z_t_7 :: z_t_8 :: z_t_9 :: z_t_10 :: z_t_11 :: z_t_12 :: z_t_13 :: z_t_14 :: z_t_15 :: z_t_16 :: z_t_17 :: z_t_18 :: z_t_19 :: z_t_20 :: z_t_21 :: z_t_22 :: z_t_23 :: z_t_24 :: z_t_25 :: z_t_26 :: .int t_parts :: .int t_ringP :: .int t_ringQ :: .int t_baseY :: .int t_baseZ :: z_t_32 :: .int t_setMany :: .ref h_t_setY :: .ref h_t_setZ :: z_t_36 :: z_t_37 :: .long t_quotientY :: .long t_quotientZ :: .ref h_t_wayY :: .ref h_t_wayZ :: .ref h_t_places :: .int t_placeMany :: .int t_met :: .int t_length0 :: .int t_how :: z_t_47 :: z_t_48 :: z_t_49 :: z_t_50 :: z_t_51 :: .ref h_t_roundLong :: .ref h_t_roundY :: .ref h_t_roundZ :: .ref h_t_newLong :: .ref h_t_newY :: .ref h_t_newZ :: .int t_roundMany :: .int t_newMany :: .int t_ends :: []))) :: (h_t_setY, .inl (k_t_setY, 25, .inl t_setY)) :: (h_t_setZ, .inl (k_t_setZ, 25, .inl t_setZ)) :: (h_t_wayY, .inl (k_t_wayY, 301, .inl t_wayY)) :: (h_t_wayZ, .inl (k_t_wayZ, 301, .inl t_wayZ)) :: (h_t_places, .inl (k_t_places, 300, .inl t_places)) :: (h_t_roundLong, .inl (k_t_roundLong, 450, .inl t_roundLong)) :: (h_t_roundY, .inl (k_t_roundY, 450, .inl t_roundY)) :: (h_t_roundZ, .inl (k_t_roundZ, 450, .inl t_roundZ)) :: (h_t_newLong, .inl (k_t_newLong, 450, .inl t_newLong)) :: (h_t_newY, .inl (k_t_newY, 450, .inl t_newY)) :: (h_t_newZ, .inl (k_t_newZ, 450, .inl t_newZ)) :: R) → va_S A s.heap H locs → lv_has ls 3 [(0, .ref h_t), (2, .int l2)] → (∀ (H : Heap) (locs : List Loc) (ls : Array Slot), va_P D vwCl ((h_t, .inr (12, (.int t_thrown :: z_t_1 :: z_t_2 :: z_t_3 :: z_t_4 :: z_t_5 :: z_t_6 :: z_t_7 :: z_t_8 :: z_t_9 :: z_t_10 :: z_t_11 :: z_t_12 :: z_t_13 :: z_t_14 :: z_t_15 :: z_t_16 :: z_t_17 :: z_t_18 :: z_t_19 :: z_t_20 :: z_t_21 :: z_t_22 :: z_t_23 :: z_t_24 :: z_t_25 :: z_t_26 :: .int t_parts :: .int t_ringP :: .int t_ringQ :: .int t_baseY :: .int t_baseZ :: z_t_32 :: .int t_setMany :: .ref h_t_setY :: .ref h_t_setZ :: z_t_36 :: z_t_37 :: .long t_quotientY :: .long t_quotientZ :: .ref h_t_wayY :: .ref h_t_wayZ :: .ref h_t_places :: .int t_placeMany :: .int t_met :: .int t_length0 :: .int t_how :: z_t_47 :: z_t_48 :: z_t_49 :: z_t_50 :: z_t_51 :: .ref h_t_roundLong :: .ref h_t_roundY :: .ref h_t_roundZ :: .ref h_t_newLong :: .ref h_t_newY :: .ref h_t_newZ :: .int t_roundMany :: .int t_newMany :: .int t_ends :: []))) :: (h_t_setY, .inl (k_t_setY, 25, .inl t_setY)) :: (h_t_setZ, .inl (k_t_setZ, 25, .inl t_setZ)) :: (h_t_wayY, .inl (k_t_wayY, 301, .inl t_wayY)) :: (h_t_wayZ, .inl (k_t_wayZ, 301, .inl t_wayZ)) :: (h_t_places, .inl (k_t_places, 300, .inl t_places)) :: (h_t_roundLong, .inl (k_t_roundLong, 450, .inl x_t_roundLong)) :: (h_t_roundY, .inl (k_t_roundY, 450, .inl x_t_roundY)) :: (h_t_roundZ, .inl (k_t_roundZ, 450, .inl x_t_roundZ)) :: (h_t_newLong, .inl (k_t_newLong, 450, .inl t_newLong)) :: (h_t_newY, .inl (k_t_newY, 450, .inl t_newY)) :: (h_t_newZ, .inl (k_t_newZ, 450, .inl t_newZ)) :: R) H → va_D A ((h_t, .inr (12, (.int t_thrown :: z_t_1 :: z_t_2 :: z_t_3 :: z_t_4 :: z_t_5 :: z_t_6 :: z_t_7 :: z_t_8 :: z_t_9 :: z_t_10 :: z_t_11 :: z_t_12 :: z_t_13 :: z_t_14 :: z_t_15 :: z_t_16 :: z_t_17 :: z_t_18 :: z_t_19 :: z_t_20 :: z_t_21 :: z_t_22 :: z_t_23 :: z_t_24 :: z_t_25 :: z_t_26 :: .int t_parts :: .int t_ringP :: .int t_ringQ :: .int t_baseY :: .int t_baseZ :: z_t_32 :: .int t_setMany :: .ref h_t_setY :: .ref h_t_setZ :: z_t_36 :: z_t_37 :: .long t_quotientY :: .long t_quotientZ :: .ref h_t_wayY :: .ref h_t_wayZ :: .ref h_t_places :: .int t_placeMany :: .int t_met :: .int t_length0 :: .int t_how :: z_t_47 :: z_t_48 :: z_t_49 :: z_t_50 :: z_t_51 :: .ref h_t_roundLong :: .ref h_t_roundY :: .ref h_t_roundZ :: .ref h_t_newLong :: .ref h_t_newY :: .ref h_t_newZ :: .int t_roundMany :: .int t_newMany :: .int t_ends :: []))) :: (h_t_setY, .inl (k_t_setY, 25, .inl t_setY)) :: (h_t_setZ, .inl (k_t_setZ, 25, .inl t_setZ)) :: (h_t_wayY, .inl (k_t_wayY, 301, .inl t_wayY)) :: (h_t_wayZ, .inl (k_t_wayZ, 301, .inl t_wayZ)) :: (h_t_places, .inl (k_t_places, 300, .inl t_places)) :: (h_t_roundLong, .inl (k_t_roundLong, 450, .inl x_t_roundLong)) :: (h_t_roundY, .inl (k_t_roundY, 450, .inl x_t_roundY)) :: (h_t_roundZ, .inl (k_t_roundZ, 450, .inl x_t_roundZ)) :: (h_t_newLong, .inl (k_t_newLong, 450, .inl t_newLong)) :: (h_t_newY, .inl (k_t_newY, 450, .inl t_newY)) :: (h_t_newZ, .inl (k_t_newZ, 450, .inl t_newZ)) :: R) → va_S A s.heap H locs → lv_has ls 3 [(0, .ref h_t)] → W p l e { frames := 3, cells := 0, slots := 0, locals := 81 } s m args below meth c H locs 0 0 Q (F0 m 75 ls [])) → W p l e { frames := 3, cells := 0, slots := 0, locals := 81 } s m args below meth c H locs 0 0 Q (F0 m 25 ls []) := by
    intro Q n
    induction n with
    | zero =>
      intro l2 t_thrown t_quotientY t_quotientZ t_placeMany t_met t_length0 t_how t_roundMany t_newMany t_ends t_wayY t_wayZ t_places t_roundLong t_roundY t_roundZ t_newLong t_newY t_newZ x_t_roundLong x_t_roundY x_t_roundZ h
      rw [f_X12_rounds_L25] at h; cases h
    | succ n ih =>
      intro l2 t_thrown t_quotientY t_quotientZ t_placeMany t_met t_length0 t_how t_roundMany t_newMany t_ends t_wayY t_wayZ t_places t_roundLong t_roundY t_roundZ t_newLong t_newY t_newZ x_t_roundLong x_t_roundY x_t_roundZ h H locs ls hP hD hS hl kk0
      rw [f_X12_rounds_L25] at h
      refine lv_iload_n hx hb dX12_rounds_25 rfl (lv_at hl 1 rfl) ?_
      refine lv_aload_n hx hb dX12_rounds_26 rfl (lv_at hl 0 rfl) ?_
      refine va_get (D := D) (ci := 12) (v := .int t_newMany) (C := RX12) (T := TX12) (N := 61) hx hb ha ix12 hown hK hP 0 rfl rfl 59 (by decide) (ha _ q1019) (fun _ h9 => h9) rfl dX12_rounds_27 ?_
      refine lv_icmp_ge (tgt := 75) hx hb dX12_rounds_30 (by decide) (fun c3 => ?_) (fun c3 => ?_)
      · have h := br_pos c3 h
        cases h
        exact kk0 _ _ _ hP hD hS (lv_sub hl [0] rfl)
      · have h := br_neg c3 h
        refine lv_aload_n hx hb dX12_rounds_33 rfl (lv_at hl 0 rfl) ?_
        refine va_get (D := D) (ci := 12) (v := .ref h_t_roundLong) (C := RX12) (T := TX12) (N := 61) hx hb ha ix12 hown hK hP 0 rfl rfl 52 (by decide) (ha _ q1012) (fun _ h9 => h9) rfl dX12_rounds_34 ?_
        refine lv_iload_n hx hb dX12_rounds_37 rfl (lv_at hl 1 rfl) ?_
        refine lv_aload_n hx hb dX12_rounds_38 rfl (lv_at hl 0 rfl) ?_
        refine va_get (D := D) (ci := 12) (v := .ref h_t_newLong) (C := RX12) (T := TX12) (N := 61) hx hb ha ix12 hown hK hP 0 rfl rfl 55 (by decide) (ha _ q1015) (fun _ h9 => h9) rfl dX12_rounds_39 ?_
        refine lv_iload_n hx hb dX12_rounds_42 rfl (lv_at hl 1 rfl) ?_
        obtain ⟨i4, h⟩ := ix_ok h
        refine va_iald hx hb hK hP 9 8 rfl rfl i4 dX12_rounds_43 ?_
        obtain ⟨i5, h⟩ := ix_ok h
        refine va_iast hx hb hK hP hD hS 6 5 rfl rfl i5 dX12_rounds_44 (fun H locs hP hD hS => ?_)
        have hP : va_P D vwCl ((h_t, .inr (12, (.int t_thrown :: z_t_1 :: z_t_2 :: z_t_3 :: z_t_4 :: z_t_5 :: z_t_6 :: z_t_7 :: z_t_8 :: z_t_9 :: z_t_10 :: z_t_11 :: z_t_12 :: z_t_13 :: z_t_14 :: z_t_15 :: z_t_16 :: z_t_17 :: z_t_18 :: z_t_19 :: z_t_20 :: z_t_21 :: z_t_22 :: z_t_23 :: z_t_24 :: z_t_25 :: z_t_26 :: .int t_parts :: .int t_ringP :: .int t_ringQ :: .int t_baseY :: .int t_baseZ :: z_t_32 :: .int t_setMany :: .ref h_t_setY :: .ref h_t_setZ :: z_t_36 :: z_t_37 :: .long t_quotientY :: .long t_quotientZ :: .ref h_t_wayY :: .ref h_t_wayZ :: .ref h_t_places :: .int t_placeMany :: .int t_met :: .int t_length0 :: .int t_how :: z_t_47 :: z_t_48 :: z_t_49 :: z_t_50 :: z_t_51 :: .ref h_t_roundLong :: .ref h_t_roundY :: .ref h_t_roundZ :: .ref h_t_newLong :: .ref h_t_newY :: .ref h_t_newZ :: .int t_roundMany :: .int t_newMany :: .int t_ends :: []))) :: (h_t_setY, .inl (k_t_setY, 25, .inl t_setY)) :: (h_t_setZ, .inl (k_t_setZ, 25, .inl t_setZ)) :: (h_t_wayY, .inl (k_t_wayY, 301, .inl t_wayY)) :: (h_t_wayZ, .inl (k_t_wayZ, 301, .inl t_wayZ)) :: (h_t_places, .inl (k_t_places, 300, .inl t_places)) :: (h_t_roundLong, .inl (k_t_roundLong, 450, .inl (upd t_roundLong l2.toNatClampNeg (t_newLong l2.toNatClampNeg)))) :: (h_t_roundY, .inl (k_t_roundY, 450, .inl t_roundY)) :: (h_t_roundZ, .inl (k_t_roundZ, 450, .inl t_roundZ)) :: (h_t_newLong, .inl (k_t_newLong, 450, .inl t_newLong)) :: (h_t_newY, .inl (k_t_newY, 450, .inl t_newY)) :: (h_t_newZ, .inl (k_t_newZ, 450, .inl t_newZ)) :: R) H := hP
        have hD : va_D A ((h_t, .inr (12, (.int t_thrown :: z_t_1 :: z_t_2 :: z_t_3 :: z_t_4 :: z_t_5 :: z_t_6 :: z_t_7 :: z_t_8 :: z_t_9 :: z_t_10 :: z_t_11 :: z_t_12 :: z_t_13 :: z_t_14 :: z_t_15 :: z_t_16 :: z_t_17 :: z_t_18 :: z_t_19 :: z_t_20 :: z_t_21 :: z_t_22 :: z_t_23 :: z_t_24 :: z_t_25 :: z_t_26 :: .int t_parts :: .int t_ringP :: .int t_ringQ :: .int t_baseY :: .int t_baseZ :: z_t_32 :: .int t_setMany :: .ref h_t_setY :: .ref h_t_setZ :: z_t_36 :: z_t_37 :: .long t_quotientY :: .long t_quotientZ :: .ref h_t_wayY :: .ref h_t_wayZ :: .ref h_t_places :: .int t_placeMany :: .int t_met :: .int t_length0 :: .int t_how :: z_t_47 :: z_t_48 :: z_t_49 :: z_t_50 :: z_t_51 :: .ref h_t_roundLong :: .ref h_t_roundY :: .ref h_t_roundZ :: .ref h_t_newLong :: .ref h_t_newY :: .ref h_t_newZ :: .int t_roundMany :: .int t_newMany :: .int t_ends :: []))) :: (h_t_setY, .inl (k_t_setY, 25, .inl t_setY)) :: (h_t_setZ, .inl (k_t_setZ, 25, .inl t_setZ)) :: (h_t_wayY, .inl (k_t_wayY, 301, .inl t_wayY)) :: (h_t_wayZ, .inl (k_t_wayZ, 301, .inl t_wayZ)) :: (h_t_places, .inl (k_t_places, 300, .inl t_places)) :: (h_t_roundLong, .inl (k_t_roundLong, 450, .inl (upd t_roundLong l2.toNatClampNeg (t_newLong l2.toNatClampNeg)))) :: (h_t_roundY, .inl (k_t_roundY, 450, .inl t_roundY)) :: (h_t_roundZ, .inl (k_t_roundZ, 450, .inl t_roundZ)) :: (h_t_newLong, .inl (k_t_newLong, 450, .inl t_newLong)) :: (h_t_newY, .inl (k_t_newY, 450, .inl t_newY)) :: (h_t_newZ, .inl (k_t_newZ, 450, .inl t_newZ)) :: R) := hD
        refine lv_aload_n hx hb dX12_rounds_45 rfl (lv_at hl 0 rfl) ?_
        refine va_get (D := D) (ci := 12) (v := .ref h_t_roundY) (C := RX12) (T := TX12) (N := 61) hx hb ha ix12 hown hK hP 0 rfl rfl 53 (by decide) (ha _ q1013) (fun _ h9 => h9) rfl dX12_rounds_46 ?_
        refine lv_iload_n hx hb dX12_rounds_49 rfl (lv_at hl 1 rfl) ?_
        refine lv_aload_n hx hb dX12_rounds_50 rfl (lv_at hl 0 rfl) ?_
        refine va_get (D := D) (ci := 12) (v := .ref h_t_newY) (C := RX12) (T := TX12) (N := 61) hx hb ha ix12 hown hK hP 0 rfl rfl 56 (by decide) (ha _ q1016) (fun _ h9 => h9) rfl dX12_rounds_51 ?_
        refine lv_iload_n hx hb dX12_rounds_54 rfl (lv_at hl 1 rfl) ?_
        obtain ⟨i6, h⟩ := ix_ok h
        refine va_iald hx hb hK hP 10 9 rfl rfl i6 dX12_rounds_55 ?_
        obtain ⟨i7, h⟩ := ix_ok h
        refine va_iast hx hb hK hP hD hS 7 6 rfl rfl i7 dX12_rounds_56 (fun H locs hP hD hS => ?_)
        have hP : va_P D vwCl ((h_t, .inr (12, (.int t_thrown :: z_t_1 :: z_t_2 :: z_t_3 :: z_t_4 :: z_t_5 :: z_t_6 :: z_t_7 :: z_t_8 :: z_t_9 :: z_t_10 :: z_t_11 :: z_t_12 :: z_t_13 :: z_t_14 :: z_t_15 :: z_t_16 :: z_t_17 :: z_t_18 :: z_t_19 :: z_t_20 :: z_t_21 :: z_t_22 :: z_t_23 :: z_t_24 :: z_t_25 :: z_t_26 :: .int t_parts :: .int t_ringP :: .int t_ringQ :: .int t_baseY :: .int t_baseZ :: z_t_32 :: .int t_setMany :: .ref h_t_setY :: .ref h_t_setZ :: z_t_36 :: z_t_37 :: .long t_quotientY :: .long t_quotientZ :: .ref h_t_wayY :: .ref h_t_wayZ :: .ref h_t_places :: .int t_placeMany :: .int t_met :: .int t_length0 :: .int t_how :: z_t_47 :: z_t_48 :: z_t_49 :: z_t_50 :: z_t_51 :: .ref h_t_roundLong :: .ref h_t_roundY :: .ref h_t_roundZ :: .ref h_t_newLong :: .ref h_t_newY :: .ref h_t_newZ :: .int t_roundMany :: .int t_newMany :: .int t_ends :: []))) :: (h_t_setY, .inl (k_t_setY, 25, .inl t_setY)) :: (h_t_setZ, .inl (k_t_setZ, 25, .inl t_setZ)) :: (h_t_wayY, .inl (k_t_wayY, 301, .inl t_wayY)) :: (h_t_wayZ, .inl (k_t_wayZ, 301, .inl t_wayZ)) :: (h_t_places, .inl (k_t_places, 300, .inl t_places)) :: (h_t_roundLong, .inl (k_t_roundLong, 450, .inl (upd t_roundLong l2.toNatClampNeg (t_newLong l2.toNatClampNeg)))) :: (h_t_roundY, .inl (k_t_roundY, 450, .inl (upd t_roundY l2.toNatClampNeg (t_newY l2.toNatClampNeg)))) :: (h_t_roundZ, .inl (k_t_roundZ, 450, .inl t_roundZ)) :: (h_t_newLong, .inl (k_t_newLong, 450, .inl t_newLong)) :: (h_t_newY, .inl (k_t_newY, 450, .inl t_newY)) :: (h_t_newZ, .inl (k_t_newZ, 450, .inl t_newZ)) :: R) H := hP
        have hD : va_D A ((h_t, .inr (12, (.int t_thrown :: z_t_1 :: z_t_2 :: z_t_3 :: z_t_4 :: z_t_5 :: z_t_6 :: z_t_7 :: z_t_8 :: z_t_9 :: z_t_10 :: z_t_11 :: z_t_12 :: z_t_13 :: z_t_14 :: z_t_15 :: z_t_16 :: z_t_17 :: z_t_18 :: z_t_19 :: z_t_20 :: z_t_21 :: z_t_22 :: z_t_23 :: z_t_24 :: z_t_25 :: z_t_26 :: .int t_parts :: .int t_ringP :: .int t_ringQ :: .int t_baseY :: .int t_baseZ :: z_t_32 :: .int t_setMany :: .ref h_t_setY :: .ref h_t_setZ :: z_t_36 :: z_t_37 :: .long t_quotientY :: .long t_quotientZ :: .ref h_t_wayY :: .ref h_t_wayZ :: .ref h_t_places :: .int t_placeMany :: .int t_met :: .int t_length0 :: .int t_how :: z_t_47 :: z_t_48 :: z_t_49 :: z_t_50 :: z_t_51 :: .ref h_t_roundLong :: .ref h_t_roundY :: .ref h_t_roundZ :: .ref h_t_newLong :: .ref h_t_newY :: .ref h_t_newZ :: .int t_roundMany :: .int t_newMany :: .int t_ends :: []))) :: (h_t_setY, .inl (k_t_setY, 25, .inl t_setY)) :: (h_t_setZ, .inl (k_t_setZ, 25, .inl t_setZ)) :: (h_t_wayY, .inl (k_t_wayY, 301, .inl t_wayY)) :: (h_t_wayZ, .inl (k_t_wayZ, 301, .inl t_wayZ)) :: (h_t_places, .inl (k_t_places, 300, .inl t_places)) :: (h_t_roundLong, .inl (k_t_roundLong, 450, .inl (upd t_roundLong l2.toNatClampNeg (t_newLong l2.toNatClampNeg)))) :: (h_t_roundY, .inl (k_t_roundY, 450, .inl (upd t_roundY l2.toNatClampNeg (t_newY l2.toNatClampNeg)))) :: (h_t_roundZ, .inl (k_t_roundZ, 450, .inl t_roundZ)) :: (h_t_newLong, .inl (k_t_newLong, 450, .inl t_newLong)) :: (h_t_newY, .inl (k_t_newY, 450, .inl t_newY)) :: (h_t_newZ, .inl (k_t_newZ, 450, .inl t_newZ)) :: R) := hD
        refine lv_aload_n hx hb dX12_rounds_57 rfl (lv_at hl 0 rfl) ?_
        refine va_get (D := D) (ci := 12) (v := .ref h_t_roundZ) (C := RX12) (T := TX12) (N := 61) hx hb ha ix12 hown hK hP 0 rfl rfl 54 (by decide) (ha _ q1014) (fun _ h9 => h9) rfl dX12_rounds_58 ?_
        refine lv_iload_n hx hb dX12_rounds_61 rfl (lv_at hl 1 rfl) ?_
        refine lv_aload_n hx hb dX12_rounds_62 rfl (lv_at hl 0 rfl) ?_
        refine va_get (D := D) (ci := 12) (v := .ref h_t_newZ) (C := RX12) (T := TX12) (N := 61) hx hb ha ix12 hown hK hP 0 rfl rfl 57 (by decide) (ha _ q1017) (fun _ h9 => h9) rfl dX12_rounds_63 ?_
        refine lv_iload_n hx hb dX12_rounds_66 rfl (lv_at hl 1 rfl) ?_
        obtain ⟨i8, h⟩ := ix_ok h
        refine va_iald hx hb hK hP 11 10 rfl rfl i8 dX12_rounds_67 ?_
        obtain ⟨i9, h⟩ := ix_ok h
        refine va_iast hx hb hK hP hD hS 8 7 rfl rfl i9 dX12_rounds_68 (fun H locs hP hD hS => ?_)
        have hP : va_P D vwCl ((h_t, .inr (12, (.int t_thrown :: z_t_1 :: z_t_2 :: z_t_3 :: z_t_4 :: z_t_5 :: z_t_6 :: z_t_7 :: z_t_8 :: z_t_9 :: z_t_10 :: z_t_11 :: z_t_12 :: z_t_13 :: z_t_14 :: z_t_15 :: z_t_16 :: z_t_17 :: z_t_18 :: z_t_19 :: z_t_20 :: z_t_21 :: z_t_22 :: z_t_23 :: z_t_24 :: z_t_25 :: z_t_26 :: .int t_parts :: .int t_ringP :: .int t_ringQ :: .int t_baseY :: .int t_baseZ :: z_t_32 :: .int t_setMany :: .ref h_t_setY :: .ref h_t_setZ :: z_t_36 :: z_t_37 :: .long t_quotientY :: .long t_quotientZ :: .ref h_t_wayY :: .ref h_t_wayZ :: .ref h_t_places :: .int t_placeMany :: .int t_met :: .int t_length0 :: .int t_how :: z_t_47 :: z_t_48 :: z_t_49 :: z_t_50 :: z_t_51 :: .ref h_t_roundLong :: .ref h_t_roundY :: .ref h_t_roundZ :: .ref h_t_newLong :: .ref h_t_newY :: .ref h_t_newZ :: .int t_roundMany :: .int t_newMany :: .int t_ends :: []))) :: (h_t_setY, .inl (k_t_setY, 25, .inl t_setY)) :: (h_t_setZ, .inl (k_t_setZ, 25, .inl t_setZ)) :: (h_t_wayY, .inl (k_t_wayY, 301, .inl t_wayY)) :: (h_t_wayZ, .inl (k_t_wayZ, 301, .inl t_wayZ)) :: (h_t_places, .inl (k_t_places, 300, .inl t_places)) :: (h_t_roundLong, .inl (k_t_roundLong, 450, .inl (upd t_roundLong l2.toNatClampNeg (t_newLong l2.toNatClampNeg)))) :: (h_t_roundY, .inl (k_t_roundY, 450, .inl (upd t_roundY l2.toNatClampNeg (t_newY l2.toNatClampNeg)))) :: (h_t_roundZ, .inl (k_t_roundZ, 450, .inl (upd t_roundZ l2.toNatClampNeg (t_newZ l2.toNatClampNeg)))) :: (h_t_newLong, .inl (k_t_newLong, 450, .inl t_newLong)) :: (h_t_newY, .inl (k_t_newY, 450, .inl t_newY)) :: (h_t_newZ, .inl (k_t_newZ, 450, .inl t_newZ)) :: R) H := hP
        have hD : va_D A ((h_t, .inr (12, (.int t_thrown :: z_t_1 :: z_t_2 :: z_t_3 :: z_t_4 :: z_t_5 :: z_t_6 :: z_t_7 :: z_t_8 :: z_t_9 :: z_t_10 :: z_t_11 :: z_t_12 :: z_t_13 :: z_t_14 :: z_t_15 :: z_t_16 :: z_t_17 :: z_t_18 :: z_t_19 :: z_t_20 :: z_t_21 :: z_t_22 :: z_t_23 :: z_t_24 :: z_t_25 :: z_t_26 :: .int t_parts :: .int t_ringP :: .int t_ringQ :: .int t_baseY :: .int t_baseZ :: z_t_32 :: .int t_setMany :: .ref h_t_setY :: .ref h_t_setZ :: z_t_36 :: z_t_37 :: .long t_quotientY :: .long t_quotientZ :: .ref h_t_wayY :: .ref h_t_wayZ :: .ref h_t_places :: .int t_placeMany :: .int t_met :: .int t_length0 :: .int t_how :: z_t_47 :: z_t_48 :: z_t_49 :: z_t_50 :: z_t_51 :: .ref h_t_roundLong :: .ref h_t_roundY :: .ref h_t_roundZ :: .ref h_t_newLong :: .ref h_t_newY :: .ref h_t_newZ :: .int t_roundMany :: .int t_newMany :: .int t_ends :: []))) :: (h_t_setY, .inl (k_t_setY, 25, .inl t_setY)) :: (h_t_setZ, .inl (k_t_setZ, 25, .inl t_setZ)) :: (h_t_wayY, .inl (k_t_wayY, 301, .inl t_wayY)) :: (h_t_wayZ, .inl (k_t_wayZ, 301, .inl t_wayZ)) :: (h_t_places, .inl (k_t_places, 300, .inl t_places)) :: (h_t_roundLong, .inl (k_t_roundLong, 450, .inl (upd t_roundLong l2.toNatClampNeg (t_newLong l2.toNatClampNeg)))) :: (h_t_roundY, .inl (k_t_roundY, 450, .inl (upd t_roundY l2.toNatClampNeg (t_newY l2.toNatClampNeg)))) :: (h_t_roundZ, .inl (k_t_roundZ, 450, .inl (upd t_roundZ l2.toNatClampNeg (t_newZ l2.toNatClampNeg)))) :: (h_t_newLong, .inl (k_t_newLong, 450, .inl t_newLong)) :: (h_t_newY, .inl (k_t_newY, 450, .inl t_newY)) :: (h_t_newZ, .inl (k_t_newZ, 450, .inl t_newZ)) :: R) := hD
        refine lv_iinc (v := (l2 + 1)) (lv' := [(2, .int (l2 + 1)), (0, .ref h_t)]) hx hb dX12_rounds_69 hl (k := 1) rfl rfl (by decide) rfl (fun ls hl => ?_)
        refine lv_goto (tgt := 25) hx hb dX12_rounds_72 (by decide) ?_
        exact ih (l2 + 1) t_thrown t_quotientY t_quotientZ t_placeMany t_met t_length0 t_how t_roundMany t_newMany t_ends t_wayY t_wayZ t_places (upd t_roundLong l2.toNatClampNeg (t_newLong l2.toNatClampNeg)) (upd t_roundY l2.toNatClampNeg (t_newY l2.toNatClampNeg)) (upd t_roundZ l2.toNatClampNeg (t_newZ l2.toNatClampNeg)) t_newLong t_newY t_newZ _ _ _ h _ _ _ hP hD hS (lv_sub hl [1, 0] rfl) kk0
  unfold f_X12_rounds at h
  refine lv_aload_n hx hb dX12_rounds_0 rfl (lv_at hl 0 rfl) ?_
  refine lv_iconst (v := 0) hx hb dX12_rounds_1 (by decide) ?_
  refine va_put (D := D) (ci := 12) (v := .int 0) (ty := .int) (C := RX12) (T := TX12) (N := 61) hx hb ha ix12 tyX12 tyX12_ok nmX12 hown hK hP hD hS 0 rfl rfl 0 (by decide) (ha _ q960) (fun _ h9 => h9) rfl (by decide +kernel) rfl rfl (Nat.le_of_ble_eq_true rfl) dX12_rounds_2 (fun H locs hP hD hS => ?_)
  have hP : va_P D vwCl ((h_t, .inr (12, (.int 0 :: z_t_1 :: z_t_2 :: z_t_3 :: z_t_4 :: z_t_5 :: z_t_6 :: z_t_7 :: z_t_8 :: z_t_9 :: z_t_10 :: z_t_11 :: z_t_12 :: z_t_13 :: z_t_14 :: z_t_15 :: z_t_16 :: z_t_17 :: z_t_18 :: z_t_19 :: z_t_20 :: z_t_21 :: z_t_22 :: z_t_23 :: z_t_24 :: z_t_25 :: z_t_26 :: .int t_parts :: .int t_ringP :: .int t_ringQ :: .int t_baseY :: .int t_baseZ :: z_t_32 :: .int t_setMany :: .ref h_t_setY :: .ref h_t_setZ :: z_t_36 :: z_t_37 :: .long t_quotientY :: .long t_quotientZ :: .ref h_t_wayY :: .ref h_t_wayZ :: .ref h_t_places :: .int t_placeMany :: .int t_met :: .int t_length0 :: .int t_how :: z_t_47 :: z_t_48 :: z_t_49 :: z_t_50 :: z_t_51 :: .ref h_t_roundLong :: .ref h_t_roundY :: .ref h_t_roundZ :: .ref h_t_newLong :: .ref h_t_newY :: .ref h_t_newZ :: .int t_roundMany :: .int t_newMany :: .int t_ends :: []))) :: (h_t_setY, .inl (k_t_setY, 25, .inl t_setY)) :: (h_t_setZ, .inl (k_t_setZ, 25, .inl t_setZ)) :: (h_t_wayY, .inl (k_t_wayY, 301, .inl t_wayY)) :: (h_t_wayZ, .inl (k_t_wayZ, 301, .inl t_wayZ)) :: (h_t_places, .inl (k_t_places, 300, .inl t_places)) :: (h_t_roundLong, .inl (k_t_roundLong, 450, .inl t_roundLong)) :: (h_t_roundY, .inl (k_t_roundY, 450, .inl t_roundY)) :: (h_t_roundZ, .inl (k_t_roundZ, 450, .inl t_roundZ)) :: (h_t_newLong, .inl (k_t_newLong, 450, .inl t_newLong)) :: (h_t_newY, .inl (k_t_newY, 450, .inl t_newY)) :: (h_t_newZ, .inl (k_t_newZ, 450, .inl t_newZ)) :: R) H := hP
  have hD : va_D A ((h_t, .inr (12, (.int 0 :: z_t_1 :: z_t_2 :: z_t_3 :: z_t_4 :: z_t_5 :: z_t_6 :: z_t_7 :: z_t_8 :: z_t_9 :: z_t_10 :: z_t_11 :: z_t_12 :: z_t_13 :: z_t_14 :: z_t_15 :: z_t_16 :: z_t_17 :: z_t_18 :: z_t_19 :: z_t_20 :: z_t_21 :: z_t_22 :: z_t_23 :: z_t_24 :: z_t_25 :: z_t_26 :: .int t_parts :: .int t_ringP :: .int t_ringQ :: .int t_baseY :: .int t_baseZ :: z_t_32 :: .int t_setMany :: .ref h_t_setY :: .ref h_t_setZ :: z_t_36 :: z_t_37 :: .long t_quotientY :: .long t_quotientZ :: .ref h_t_wayY :: .ref h_t_wayZ :: .ref h_t_places :: .int t_placeMany :: .int t_met :: .int t_length0 :: .int t_how :: z_t_47 :: z_t_48 :: z_t_49 :: z_t_50 :: z_t_51 :: .ref h_t_roundLong :: .ref h_t_roundY :: .ref h_t_roundZ :: .ref h_t_newLong :: .ref h_t_newY :: .ref h_t_newZ :: .int t_roundMany :: .int t_newMany :: .int t_ends :: []))) :: (h_t_setY, .inl (k_t_setY, 25, .inl t_setY)) :: (h_t_setZ, .inl (k_t_setZ, 25, .inl t_setZ)) :: (h_t_wayY, .inl (k_t_wayY, 301, .inl t_wayY)) :: (h_t_wayZ, .inl (k_t_wayZ, 301, .inl t_wayZ)) :: (h_t_places, .inl (k_t_places, 300, .inl t_places)) :: (h_t_roundLong, .inl (k_t_roundLong, 450, .inl t_roundLong)) :: (h_t_roundY, .inl (k_t_roundY, 450, .inl t_roundY)) :: (h_t_roundZ, .inl (k_t_roundZ, 450, .inl t_roundZ)) :: (h_t_newLong, .inl (k_t_newLong, 450, .inl t_newLong)) :: (h_t_newY, .inl (k_t_newY, 450, .inl t_newY)) :: (h_t_newZ, .inl (k_t_newZ, 450, .inl t_newZ)) :: R) := hD
  refine lv_aload_n hx hb dX12_rounds_5 rfl (lv_at hl 0 rfl) ?_
  refine lv_iload_n hx hb dX12_rounds_6 rfl (lv_at hl 1 rfl) ?_
  obtain ⟨r_c7_0, t_quotientY_c7_0, t_quotientZ_c7_0, t_placeMany_c7_0, t_met_c7_0, t_length0_c7_0, t_how_c7_0, t_newMany_c7_0, t_ends_c7_0, t_wayY_c7_0, t_wayZ_c7_0, t_places_c7_0, t_newLong_c7_0, t_newY_c7_0, t_newZ_c7_0, e_c7_0, h⟩ := bnd15_ok h
  have hP : va_P D vwCl ((h_t, .inr (12, (.int 0 :: z_t_1 :: z_t_2 :: z_t_3 :: z_t_4 :: z_t_5 :: z_t_6 :: z_t_7 :: z_t_8 :: z_t_9 :: z_t_10 :: z_t_11 :: z_t_12 :: z_t_13 :: z_t_14 :: z_t_15 :: z_t_16 :: z_t_17 :: z_t_18 :: z_t_19 :: z_t_20 :: z_t_21 :: z_t_22 :: z_t_23 :: z_t_24 :: z_t_25 :: z_t_26 :: .int t_parts :: .int t_ringP :: .int t_ringQ :: .int t_baseY :: .int t_baseZ :: z_t_32 :: .int t_setMany :: .ref h_t_setY :: .ref h_t_setZ :: z_t_36 :: z_t_37 :: .long t_quotientY :: .long t_quotientZ :: .ref h_t_wayY :: .ref h_t_wayZ :: .ref h_t_places :: .int t_placeMany :: .int t_met :: .int t_length0 :: .int t_how :: z_t_47 :: z_t_48 :: z_t_49 :: z_t_50 :: z_t_51 :: .ref h_t_roundLong :: .ref h_t_roundY :: .ref h_t_roundZ :: .ref h_t_newLong :: .ref h_t_newY :: .ref h_t_newZ :: .int t_roundMany :: .int t_newMany :: .int t_ends :: []))) :: (h_t_setY, .inl (k_t_setY, 25, .inl t_setY)) :: (h_t_setZ, .inl (k_t_setZ, 25, .inl t_setZ)) :: (h_t_wayY, .inl (k_t_wayY, 301, .inl t_wayY)) :: (h_t_wayZ, .inl (k_t_wayZ, 301, .inl t_wayZ)) :: (h_t_places, .inl (k_t_places, 300, .inl t_places)) :: (h_t_newLong, .inl (k_t_newLong, 450, .inl t_newLong)) :: (h_t_newY, .inl (k_t_newY, 450, .inl t_newY)) :: (h_t_newZ, .inl (k_t_newZ, 450, .inl t_newZ)) :: (h_t_roundLong, .inl (k_t_roundLong, 450, .inl t_roundLong)) :: (h_t_roundY, .inl (k_t_roundY, 450, .inl t_roundY)) :: (h_t_roundZ, .inl (k_t_roundZ, 450, .inl t_roundZ)) :: R) _ := pm_P [0, 1, 2, 3, 4, 5, 9, 10, 11, 6, 7, 8] 12 hP
  have hD : va_D A ((h_t, .inr (12, (.int 0 :: z_t_1 :: z_t_2 :: z_t_3 :: z_t_4 :: z_t_5 :: z_t_6 :: z_t_7 :: z_t_8 :: z_t_9 :: z_t_10 :: z_t_11 :: z_t_12 :: z_t_13 :: z_t_14 :: z_t_15 :: z_t_16 :: z_t_17 :: z_t_18 :: z_t_19 :: z_t_20 :: z_t_21 :: z_t_22 :: z_t_23 :: z_t_24 :: z_t_25 :: z_t_26 :: .int t_parts :: .int t_ringP :: .int t_ringQ :: .int t_baseY :: .int t_baseZ :: z_t_32 :: .int t_setMany :: .ref h_t_setY :: .ref h_t_setZ :: z_t_36 :: z_t_37 :: .long t_quotientY :: .long t_quotientZ :: .ref h_t_wayY :: .ref h_t_wayZ :: .ref h_t_places :: .int t_placeMany :: .int t_met :: .int t_length0 :: .int t_how :: z_t_47 :: z_t_48 :: z_t_49 :: z_t_50 :: z_t_51 :: .ref h_t_roundLong :: .ref h_t_roundY :: .ref h_t_roundZ :: .ref h_t_newLong :: .ref h_t_newY :: .ref h_t_newZ :: .int t_roundMany :: .int t_newMany :: .int t_ends :: []))) :: (h_t_setY, .inl (k_t_setY, 25, .inl t_setY)) :: (h_t_setZ, .inl (k_t_setZ, 25, .inl t_setZ)) :: (h_t_wayY, .inl (k_t_wayY, 301, .inl t_wayY)) :: (h_t_wayZ, .inl (k_t_wayZ, 301, .inl t_wayZ)) :: (h_t_places, .inl (k_t_places, 300, .inl t_places)) :: (h_t_newLong, .inl (k_t_newLong, 450, .inl t_newLong)) :: (h_t_newY, .inl (k_t_newY, 450, .inl t_newY)) :: (h_t_newZ, .inl (k_t_newZ, 450, .inl t_newZ)) :: (h_t_roundLong, .inl (k_t_roundLong, 450, .inl t_roundLong)) :: (h_t_roundY, .inl (k_t_roundY, 450, .inl t_roundY)) :: (h_t_roundZ, .inl (k_t_roundZ, 450, .inl t_roundZ)) :: R) := pm_D (X := [(h_t, .inr (12, (.int 0 :: z_t_1 :: z_t_2 :: z_t_3 :: z_t_4 :: z_t_5 :: z_t_6 :: z_t_7 :: z_t_8 :: z_t_9 :: z_t_10 :: z_t_11 :: z_t_12 :: z_t_13 :: z_t_14 :: z_t_15 :: z_t_16 :: z_t_17 :: z_t_18 :: z_t_19 :: z_t_20 :: z_t_21 :: z_t_22 :: z_t_23 :: z_t_24 :: z_t_25 :: z_t_26 :: .int t_parts :: .int t_ringP :: .int t_ringQ :: .int t_baseY :: .int t_baseZ :: z_t_32 :: .int t_setMany :: .ref h_t_setY :: .ref h_t_setZ :: z_t_36 :: z_t_37 :: .long t_quotientY :: .long t_quotientZ :: .ref h_t_wayY :: .ref h_t_wayZ :: .ref h_t_places :: .int t_placeMany :: .int t_met :: .int t_length0 :: .int t_how :: z_t_47 :: z_t_48 :: z_t_49 :: z_t_50 :: z_t_51 :: .ref h_t_roundLong :: .ref h_t_roundY :: .ref h_t_roundZ :: .ref h_t_newLong :: .ref h_t_newY :: .ref h_t_newZ :: .int t_roundMany :: .int t_newMany :: .int t_ends :: []))), (h_t_setY, .inl (k_t_setY, 25, .inl t_setY)), (h_t_setZ, .inl (k_t_setZ, 25, .inl t_setZ)), (h_t_wayY, .inl (k_t_wayY, 301, .inl t_wayY)), (h_t_wayZ, .inl (k_t_wayZ, 301, .inl t_wayZ)), (h_t_places, .inl (k_t_places, 300, .inl t_places)), (h_t_newLong, .inl (k_t_newLong, 450, .inl t_newLong)), (h_t_newY, .inl (k_t_newY, 450, .inl t_newY)), (h_t_newZ, .inl (k_t_newZ, 450, .inl t_newZ)), (h_t_roundLong, .inl (k_t_roundLong, 450, .inl t_roundLong)), (h_t_roundY, .inl (k_t_roundY, 450, .inl t_roundY)), (h_t_roundZ, .inl (k_t_roundZ, 450, .inl t_roundZ))]) [0, 1, 2, 3, 4, 5, 9, 10, 11, 6, 7, 8] 12 (by decide) (by decide) rfl hD
  refine cl_z (rn_v (ci := 12) (As := [.int l1]) (rest := []) S (c_X12_all l D ((h_t_roundLong, .inl (k_t_roundLong, 450, .inl t_roundLong)) :: (h_t_roundY, .inl (k_t_roundY, 450, .inl t_roundY)) :: (h_t_roundZ, .inl (k_t_roundZ, 450, .inl t_roundZ)) :: R) h_t (.int 0) (z_t_1) (z_t_2) (z_t_3) (z_t_4) (z_t_5) (z_t_6) (z_t_7) (z_t_8) (z_t_9) (z_t_10) (z_t_11) (z_t_12) (z_t_13) (z_t_14) (z_t_15) (z_t_16) (z_t_17) (z_t_18) (z_t_19) (z_t_20) (z_t_21) (z_t_22) (z_t_23) (z_t_24) (z_t_25) (z_t_26) t_parts t_ringP t_ringQ t_baseY t_baseZ (z_t_32) t_setMany (z_t_36) (z_t_37) t_quotientY t_quotientZ t_placeMany t_met t_length0 t_how (z_t_47) (z_t_48) (z_t_49) (z_t_50) (z_t_51) (.ref h_t_roundLong) (.ref h_t_roundY) (.ref h_t_roundZ) (.int t_roundMany) t_newMany t_ends h_t_setY k_t_setY t_setY h_t_setZ k_t_setZ t_setZ h_t_wayY k_t_wayY t_wayY h_t_wayZ k_t_wayZ t_wayZ h_t_places k_t_places t_places h_t_newLong k_t_newLong t_newLong h_t_newY k_t_newY t_newY h_t_newZ k_t_newZ t_newZ l1 r_c7_0 t_quotientY_c7_0 t_quotientZ_c7_0 t_placeMany_c7_0 t_met_c7_0 t_length0_c7_0 t_how_c7_0 t_newMany_c7_0 t_ends_c7_0 t_wayY_c7_0 t_wayZ_c7_0 t_places_c7_0 t_newLong_c7_0 t_newY_c7_0 t_newZ_c7_0 e_c7_0 _) q1337 q1339 q45 q61 q1340 nd_X12_all ⟨Nat.le_of_ble_eq_true rfl, Nat.le_of_ble_eq_true rfl⟩ rfl rfl hP hD (hK.sub (tys' := [(k_t_setY, .int), (k_t_setZ, .int), (k_t_wayY, .int), (k_t_wayZ, .int), (k_t_places, .int), (k_t_newLong, .int), (k_t_newY, .int), (k_t_newZ, .int)]) [0, 1, 2, 3, 4, 8, 9, 10] rfl) hN rfl ⟨0, _, rfl⟩ rfl hl.1 rfl (Nat.le_of_ble_eq_true rfl) dX12_rounds_7 ⟨Nat.le_of_ble_eq_true rfl, Nat.le_of_ble_eq_true rfl⟩) hS hA hD (fun H locs hP hD hS z_c7_0 => ?_)
  have hP : va_P D vwCl ((h_t, .inr (12, (.int 0 :: z_t_1 :: z_t_2 :: z_t_3 :: z_t_4 :: z_t_5 :: z_t_6 :: z_t_7 :: z_t_8 :: z_t_9 :: z_t_10 :: z_t_11 :: z_t_12 :: z_t_13 :: z_t_14 :: z_t_15 :: z_t_16 :: z_t_17 :: z_t_18 :: z_t_19 :: z_t_20 :: z_t_21 :: z_t_22 :: z_t_23 :: z_t_24 :: z_t_25 :: z_t_26 :: .int t_parts :: .int t_ringP :: .int t_ringQ :: .int t_baseY :: .int t_baseZ :: z_t_32 :: .int t_setMany :: .ref h_t_setY :: .ref h_t_setZ :: z_t_36 :: z_t_37 :: .long t_quotientY_c7_0 :: .long t_quotientZ_c7_0 :: .ref h_t_wayY :: .ref h_t_wayZ :: .ref h_t_places :: .int t_placeMany_c7_0 :: .int t_met_c7_0 :: .int t_length0_c7_0 :: .int t_how_c7_0 :: z_t_47 :: z_t_48 :: z_t_49 :: z_t_50 :: z_t_51 :: .ref h_t_roundLong :: .ref h_t_roundY :: .ref h_t_roundZ :: .ref h_t_newLong :: .ref h_t_newY :: .ref h_t_newZ :: .int t_roundMany :: .int t_newMany_c7_0 :: .int t_ends_c7_0 :: []))) :: (h_t_setY, .inl (k_t_setY, 25, .inl t_setY)) :: (h_t_setZ, .inl (k_t_setZ, 25, .inl t_setZ)) :: (h_t_wayY, .inl (k_t_wayY, 301, .inl t_wayY_c7_0)) :: (h_t_wayZ, .inl (k_t_wayZ, 301, .inl t_wayZ_c7_0)) :: (h_t_places, .inl (k_t_places, 300, .inl t_places_c7_0)) :: (h_t_roundLong, .inl (k_t_roundLong, 450, .inl t_roundLong)) :: (h_t_roundY, .inl (k_t_roundY, 450, .inl t_roundY)) :: (h_t_roundZ, .inl (k_t_roundZ, 450, .inl t_roundZ)) :: (h_t_newLong, .inl (k_t_newLong, 450, .inl t_newLong_c7_0)) :: (h_t_newY, .inl (k_t_newY, 450, .inl t_newY_c7_0)) :: (h_t_newZ, .inl (k_t_newZ, 450, .inl t_newZ_c7_0)) :: R) H := pm_P [0, 1, 2, 3, 4, 5, 9, 10, 11, 6, 7, 8] 12 hP
  have hD : va_D A ((h_t, .inr (12, (.int 0 :: z_t_1 :: z_t_2 :: z_t_3 :: z_t_4 :: z_t_5 :: z_t_6 :: z_t_7 :: z_t_8 :: z_t_9 :: z_t_10 :: z_t_11 :: z_t_12 :: z_t_13 :: z_t_14 :: z_t_15 :: z_t_16 :: z_t_17 :: z_t_18 :: z_t_19 :: z_t_20 :: z_t_21 :: z_t_22 :: z_t_23 :: z_t_24 :: z_t_25 :: z_t_26 :: .int t_parts :: .int t_ringP :: .int t_ringQ :: .int t_baseY :: .int t_baseZ :: z_t_32 :: .int t_setMany :: .ref h_t_setY :: .ref h_t_setZ :: z_t_36 :: z_t_37 :: .long t_quotientY_c7_0 :: .long t_quotientZ_c7_0 :: .ref h_t_wayY :: .ref h_t_wayZ :: .ref h_t_places :: .int t_placeMany_c7_0 :: .int t_met_c7_0 :: .int t_length0_c7_0 :: .int t_how_c7_0 :: z_t_47 :: z_t_48 :: z_t_49 :: z_t_50 :: z_t_51 :: .ref h_t_roundLong :: .ref h_t_roundY :: .ref h_t_roundZ :: .ref h_t_newLong :: .ref h_t_newY :: .ref h_t_newZ :: .int t_roundMany :: .int t_newMany_c7_0 :: .int t_ends_c7_0 :: []))) :: (h_t_setY, .inl (k_t_setY, 25, .inl t_setY)) :: (h_t_setZ, .inl (k_t_setZ, 25, .inl t_setZ)) :: (h_t_wayY, .inl (k_t_wayY, 301, .inl t_wayY_c7_0)) :: (h_t_wayZ, .inl (k_t_wayZ, 301, .inl t_wayZ_c7_0)) :: (h_t_places, .inl (k_t_places, 300, .inl t_places_c7_0)) :: (h_t_roundLong, .inl (k_t_roundLong, 450, .inl t_roundLong)) :: (h_t_roundY, .inl (k_t_roundY, 450, .inl t_roundY)) :: (h_t_roundZ, .inl (k_t_roundZ, 450, .inl t_roundZ)) :: (h_t_newLong, .inl (k_t_newLong, 450, .inl t_newLong_c7_0)) :: (h_t_newY, .inl (k_t_newY, 450, .inl t_newY_c7_0)) :: (h_t_newZ, .inl (k_t_newZ, 450, .inl t_newZ_c7_0)) :: R) := pm_D (X := [(h_t, .inr (12, (.int 0 :: z_t_1 :: z_t_2 :: z_t_3 :: z_t_4 :: z_t_5 :: z_t_6 :: z_t_7 :: z_t_8 :: z_t_9 :: z_t_10 :: z_t_11 :: z_t_12 :: z_t_13 :: z_t_14 :: z_t_15 :: z_t_16 :: z_t_17 :: z_t_18 :: z_t_19 :: z_t_20 :: z_t_21 :: z_t_22 :: z_t_23 :: z_t_24 :: z_t_25 :: z_t_26 :: .int t_parts :: .int t_ringP :: .int t_ringQ :: .int t_baseY :: .int t_baseZ :: z_t_32 :: .int t_setMany :: .ref h_t_setY :: .ref h_t_setZ :: z_t_36 :: z_t_37 :: .long t_quotientY_c7_0 :: .long t_quotientZ_c7_0 :: .ref h_t_wayY :: .ref h_t_wayZ :: .ref h_t_places :: .int t_placeMany_c7_0 :: .int t_met_c7_0 :: .int t_length0_c7_0 :: .int t_how_c7_0 :: z_t_47 :: z_t_48 :: z_t_49 :: z_t_50 :: z_t_51 :: .ref h_t_roundLong :: .ref h_t_roundY :: .ref h_t_roundZ :: .ref h_t_newLong :: .ref h_t_newY :: .ref h_t_newZ :: .int t_roundMany :: .int t_newMany_c7_0 :: .int t_ends_c7_0 :: []))), (h_t_setY, .inl (k_t_setY, 25, .inl t_setY)), (h_t_setZ, .inl (k_t_setZ, 25, .inl t_setZ)), (h_t_wayY, .inl (k_t_wayY, 301, .inl t_wayY_c7_0)), (h_t_wayZ, .inl (k_t_wayZ, 301, .inl t_wayZ_c7_0)), (h_t_places, .inl (k_t_places, 300, .inl t_places_c7_0)), (h_t_roundLong, .inl (k_t_roundLong, 450, .inl t_roundLong)), (h_t_roundY, .inl (k_t_roundY, 450, .inl t_roundY)), (h_t_roundZ, .inl (k_t_roundZ, 450, .inl t_roundZ)), (h_t_newLong, .inl (k_t_newLong, 450, .inl t_newLong_c7_0)), (h_t_newY, .inl (k_t_newY, 450, .inl t_newY_c7_0)), (h_t_newZ, .inl (k_t_newZ, 450, .inl t_newZ_c7_0))]) [0, 1, 2, 3, 4, 5, 9, 10, 11, 6, 7, 8] 12 (by decide) (by decide) rfl hD
  refine lv_if_ne (tgt := 15) hx hb dX12_rounds_10 (by decide) (fun c2 => ?_) (fun c2 => ?_)
  · have h := br_neg c2 h
    refine lv_aload_n hx hb dX12_rounds_15 rfl (lv_at hl 0 rfl) ?_
    refine lv_aload_n hx hb dX12_rounds_16 rfl (lv_at hl 0 rfl) ?_
    refine va_get (D := D) (ci := 12) (v := .int t_newMany_c7_0) (C := RX12) (T := TX12) (N := 61) hx hb ha ix12 hown hK hP 0 rfl rfl 59 (by decide) (ha _ q1019) (fun _ h9 => h9) rfl dX12_rounds_17 ?_
    refine va_put (D := D) (ci := 12) (v := .int t_newMany_c7_0) (ty := .int) (C := RX12) (T := TX12) (N := 61) hx hb ha ix12 tyX12 tyX12_ok nmX12 hown hK hP hD hS 0 rfl rfl 58 (by decide) (ha _ q1018) (fun _ h9 => h9) rfl (by decide +kernel) rfl rfl (Nat.le_of_ble_eq_true rfl) dX12_rounds_20 (fun H locs hP hD hS => ?_)
    have hP : va_P D vwCl ((h_t, .inr (12, (.int 0 :: z_t_1 :: z_t_2 :: z_t_3 :: z_t_4 :: z_t_5 :: z_t_6 :: z_t_7 :: z_t_8 :: z_t_9 :: z_t_10 :: z_t_11 :: z_t_12 :: z_t_13 :: z_t_14 :: z_t_15 :: z_t_16 :: z_t_17 :: z_t_18 :: z_t_19 :: z_t_20 :: z_t_21 :: z_t_22 :: z_t_23 :: z_t_24 :: z_t_25 :: z_t_26 :: .int t_parts :: .int t_ringP :: .int t_ringQ :: .int t_baseY :: .int t_baseZ :: z_t_32 :: .int t_setMany :: .ref h_t_setY :: .ref h_t_setZ :: z_t_36 :: z_t_37 :: .long t_quotientY_c7_0 :: .long t_quotientZ_c7_0 :: .ref h_t_wayY :: .ref h_t_wayZ :: .ref h_t_places :: .int t_placeMany_c7_0 :: .int t_met_c7_0 :: .int t_length0_c7_0 :: .int t_how_c7_0 :: z_t_47 :: z_t_48 :: z_t_49 :: z_t_50 :: z_t_51 :: .ref h_t_roundLong :: .ref h_t_roundY :: .ref h_t_roundZ :: .ref h_t_newLong :: .ref h_t_newY :: .ref h_t_newZ :: .int t_newMany_c7_0 :: .int t_newMany_c7_0 :: .int t_ends_c7_0 :: []))) :: (h_t_setY, .inl (k_t_setY, 25, .inl t_setY)) :: (h_t_setZ, .inl (k_t_setZ, 25, .inl t_setZ)) :: (h_t_wayY, .inl (k_t_wayY, 301, .inl t_wayY_c7_0)) :: (h_t_wayZ, .inl (k_t_wayZ, 301, .inl t_wayZ_c7_0)) :: (h_t_places, .inl (k_t_places, 300, .inl t_places_c7_0)) :: (h_t_roundLong, .inl (k_t_roundLong, 450, .inl t_roundLong)) :: (h_t_roundY, .inl (k_t_roundY, 450, .inl t_roundY)) :: (h_t_roundZ, .inl (k_t_roundZ, 450, .inl t_roundZ)) :: (h_t_newLong, .inl (k_t_newLong, 450, .inl t_newLong_c7_0)) :: (h_t_newY, .inl (k_t_newY, 450, .inl t_newY_c7_0)) :: (h_t_newZ, .inl (k_t_newZ, 450, .inl t_newZ_c7_0)) :: R) H := hP
    have hD : va_D A ((h_t, .inr (12, (.int 0 :: z_t_1 :: z_t_2 :: z_t_3 :: z_t_4 :: z_t_5 :: z_t_6 :: z_t_7 :: z_t_8 :: z_t_9 :: z_t_10 :: z_t_11 :: z_t_12 :: z_t_13 :: z_t_14 :: z_t_15 :: z_t_16 :: z_t_17 :: z_t_18 :: z_t_19 :: z_t_20 :: z_t_21 :: z_t_22 :: z_t_23 :: z_t_24 :: z_t_25 :: z_t_26 :: .int t_parts :: .int t_ringP :: .int t_ringQ :: .int t_baseY :: .int t_baseZ :: z_t_32 :: .int t_setMany :: .ref h_t_setY :: .ref h_t_setZ :: z_t_36 :: z_t_37 :: .long t_quotientY_c7_0 :: .long t_quotientZ_c7_0 :: .ref h_t_wayY :: .ref h_t_wayZ :: .ref h_t_places :: .int t_placeMany_c7_0 :: .int t_met_c7_0 :: .int t_length0_c7_0 :: .int t_how_c7_0 :: z_t_47 :: z_t_48 :: z_t_49 :: z_t_50 :: z_t_51 :: .ref h_t_roundLong :: .ref h_t_roundY :: .ref h_t_roundZ :: .ref h_t_newLong :: .ref h_t_newY :: .ref h_t_newZ :: .int t_newMany_c7_0 :: .int t_newMany_c7_0 :: .int t_ends_c7_0 :: []))) :: (h_t_setY, .inl (k_t_setY, 25, .inl t_setY)) :: (h_t_setZ, .inl (k_t_setZ, 25, .inl t_setZ)) :: (h_t_wayY, .inl (k_t_wayY, 301, .inl t_wayY_c7_0)) :: (h_t_wayZ, .inl (k_t_wayZ, 301, .inl t_wayZ_c7_0)) :: (h_t_places, .inl (k_t_places, 300, .inl t_places_c7_0)) :: (h_t_roundLong, .inl (k_t_roundLong, 450, .inl t_roundLong)) :: (h_t_roundY, .inl (k_t_roundY, 450, .inl t_roundY)) :: (h_t_roundZ, .inl (k_t_roundZ, 450, .inl t_roundZ)) :: (h_t_newLong, .inl (k_t_newLong, 450, .inl t_newLong_c7_0)) :: (h_t_newY, .inl (k_t_newY, 450, .inl t_newY_c7_0)) :: (h_t_newZ, .inl (k_t_newZ, 450, .inl t_newZ_c7_0)) :: R) := hD
    refine lv_iconst (v := 0) hx hb dX12_rounds_23 (by decide) ?_
    refine lv_istore_n (lv' := [(2, .int 0), (0, .ref h_t), (1, .int l1)]) hx hb dX12_rounds_24 rfl hl (by decide) rfl (fun ls hl => ?_)
    obtain ⟨x_t_roundLong_L25_9, x_t_roundY_L25_9, x_t_roundZ_L25_9, e_L25_9, h⟩ := bnd3_ok h
    refine L25 _ _ 0 0 t_quotientY_c7_0 t_quotientZ_c7_0 t_placeMany_c7_0 t_met_c7_0 t_length0_c7_0 t_how_c7_0 t_newMany_c7_0 t_newMany_c7_0 t_ends_c7_0 t_wayY_c7_0 t_wayZ_c7_0 t_places_c7_0 t_roundLong t_roundY t_roundZ t_newLong_c7_0 t_newY_c7_0 t_newZ_c7_0 x_t_roundLong_L25_9 x_t_roundY_L25_9 x_t_roundZ_L25_9 e_L25_9 _ _ _ hP hD hS (lv_sub hl [1, 0] rfl) ?_
    intro H locs ls hP hD hS hl
    refine lv_aload_n hx hb dX12_rounds_75 rfl (lv_at hl 0 rfl) ?_
    refine va_get (D := D) (ci := 12) (v := .int t_newMany_c7_0) (C := RX12) (T := TX12) (N := 61) hx hb ha ix12 hown hK hP 0 rfl rfl 58 (by decide) (ha _ q1018) (fun _ h9 => h9) rfl dX12_rounds_76 ?_
    cases h
    exact rt_i S hr hlk hP hD hS dX12_rounds_79
  · have h := br_pos c2 h
    refine lv_iconst (v := (-1)) hx hb dX12_rounds_13 (by decide) ?_
    cases h
    exact rt_i S hr hlk hP hD hS dX12_rounds_14
noncomputable def f_X12_round (t_thrown : Int32) (t_roundMany : Int32) (t_roundLong : Nat → Int32) (t_roundY : Nat → Int32) (t_roundZ : Nat → Int32) (l1 : Int32) (l2 : Int32) : Option (Int32 × Int32) :=
  if l1 < 0 then (
   bnd2 (f_X12_throwsIf t_thrown 1) fun r_c27_1 t_thrown_c27_1 => (
    if r_c27_1 = 0 then (
     if l2 = 0 then (
      gd (ixb l1 450) (
       some ((t_roundLong l1.toNatClampNeg), t_thrown_c27_1)
      )
     ) else (
      if l2 = 1 then (
       gd (ixb l1 450) (
        some ((t_roundY l1.toNatClampNeg), t_thrown_c27_1)
       )
      ) else (
       gd (ixb l1 450) (
        some ((t_roundZ l1.toNatClampNeg), t_thrown_c27_1)
       )
      )
     )
    ) else (
     some (0, t_thrown_c27_1)
    )
   )
  ) else (
   if t_roundMany ≤ l1 then (
    bnd2 (f_X12_throwsIf t_thrown 1) fun r_c27_9 t_thrown_c27_9 => (
     if r_c27_9 = 0 then (
      if l2 = 0 then (
       gd (ixb l1 450) (
        some ((t_roundLong l1.toNatClampNeg), t_thrown_c27_9)
       )
      ) else (
       if l2 = 1 then (
        gd (ixb l1 450) (
         some ((t_roundY l1.toNatClampNeg), t_thrown_c27_9)
        )
       ) else (
        gd (ixb l1 450) (
         some ((t_roundZ l1.toNatClampNeg), t_thrown_c27_9)
        )
       )
      )
     ) else (
      some (0, t_thrown_c27_9)
     )
    )
   ) else (
    if l2 < 0 then (
     bnd2 (f_X12_throwsIf t_thrown 1) fun r_c27_17 t_thrown_c27_17 => (
      if r_c27_17 = 0 then (
       if l2 = 0 then (
        gd (ixb l1 450) (
         some ((t_roundLong l1.toNatClampNeg), t_thrown_c27_17)
        )
       ) else (
        if l2 = 1 then (
         gd (ixb l1 450) (
          some ((t_roundY l1.toNatClampNeg), t_thrown_c27_17)
         )
        ) else (
         gd (ixb l1 450) (
          some ((t_roundZ l1.toNatClampNeg), t_thrown_c27_17)
         )
        )
       )
      ) else (
       some (0, t_thrown_c27_17)
      )
     )
    ) else (
     if l2 ≤ 2 then (
      bnd2 (f_X12_throwsIf t_thrown 0) fun r_c27_25 t_thrown_c27_25 => (
       if r_c27_25 = 0 then (
        if l2 = 0 then (
         gd (ixb l1 450) (
          some ((t_roundLong l1.toNatClampNeg), t_thrown_c27_25)
         )
        ) else (
         if l2 = 1 then (
          gd (ixb l1 450) (
           some ((t_roundY l1.toNatClampNeg), t_thrown_c27_25)
          )
         ) else (
          gd (ixb l1 450) (
           some ((t_roundZ l1.toNatClampNeg), t_thrown_c27_25)
          )
         )
        )
       ) else (
        some (0, t_thrown_c27_25)
       )
      )
     ) else (
      bnd2 (f_X12_throwsIf t_thrown 1) fun r_c27_32 t_thrown_c27_32 => (
       if r_c27_32 = 0 then (
        if l2 = 0 then (
         gd (ixb l1 450) (
          some ((t_roundLong l1.toNatClampNeg), t_thrown_c27_32)
         )
        ) else (
         if l2 = 1 then (
          gd (ixb l1 450) (
           some ((t_roundY l1.toNatClampNeg), t_thrown_c27_32)
          )
         ) else (
          gd (ixb l1 450) (
           some ((t_roundZ l1.toNatClampNeg), t_thrown_c27_32)
          )
         )
        )
       ) else (
        some (0, t_thrown_c27_32)
       )
      )
     )
    )
   )
  )
set_option maxHeartbeats 4000000 in
set_option maxRecDepth 100000 in
theorem c_X12_round (l : Launch) (D : va_G) (R : va_W) (h_t : Nat) (t_thrown : Int32) (z_t_1 : Value) (z_t_2 : Value) (z_t_3 : Value) (z_t_4 : Value) (z_t_5 : Value) (z_t_6 : Value) (z_t_7 : Value) (z_t_8 : Value) (z_t_9 : Value) (z_t_10 : Value) (z_t_11 : Value) (z_t_12 : Value) (z_t_13 : Value) (z_t_14 : Value) (z_t_15 : Value) (z_t_16 : Value) (z_t_17 : Value) (z_t_18 : Value) (z_t_19 : Value) (z_t_20 : Value) (z_t_21 : Value) (z_t_22 : Value) (z_t_23 : Value) (z_t_24 : Value) (z_t_25 : Value) (z_t_26 : Value) (z_t_27 : Value) (z_t_28 : Value) (z_t_29 : Value) (z_t_30 : Value) (z_t_31 : Value) (z_t_32 : Value) (z_t_33 : Value) (z_t_34 : Value) (z_t_35 : Value) (z_t_36 : Value) (z_t_37 : Value) (z_t_38 : Value) (z_t_39 : Value) (z_t_40 : Value) (z_t_41 : Value) (z_t_42 : Value) (z_t_43 : Value) (z_t_44 : Value) (z_t_45 : Value) (z_t_46 : Value) (z_t_47 : Value) (z_t_48 : Value) (z_t_49 : Value) (z_t_50 : Value) (z_t_51 : Value) (z_t_55 : Value) (z_t_56 : Value) (z_t_57 : Value) (t_roundMany : Int32) (z_t_59 : Value) (z_t_60 : Value) (h_t_roundLong : Nat) (k_t_roundLong : ClassId) (t_roundLong : Nat → Int32) (h_t_roundY : Nat) (k_t_roundY : ClassId) (t_roundY : Nat → Int32) (h_t_roundZ : Nat) (k_t_roundZ : ClassId) (t_roundZ : Nat → Int32) (l1 : Int32) (l2 : Int32) (r : Int32) (o_t_thrown : Int32)  (h : f_X12_round t_thrown t_roundMany t_roundLong t_roundY t_roundZ l1 l2 = some (r, o_t_thrown)) (sz : Nat) : Met l yX12_round (WD yX12_round cX12_round 3 (some .int)) ({ frames := 1, cells := 0, slots := 0, locals := 21 }) (va_Pc [.ref h_t, .int l1, .int l2] (PcW D [(k_t_roundLong, .int), (k_t_roundY, .int), (k_t_roundZ, .int)] ((h_t, .inr (12, (.int t_thrown :: z_t_1 :: z_t_2 :: z_t_3 :: z_t_4 :: z_t_5 :: z_t_6 :: z_t_7 :: z_t_8 :: z_t_9 :: z_t_10 :: z_t_11 :: z_t_12 :: z_t_13 :: z_t_14 :: z_t_15 :: z_t_16 :: z_t_17 :: z_t_18 :: z_t_19 :: z_t_20 :: z_t_21 :: z_t_22 :: z_t_23 :: z_t_24 :: z_t_25 :: z_t_26 :: z_t_27 :: z_t_28 :: z_t_29 :: z_t_30 :: z_t_31 :: z_t_32 :: z_t_33 :: z_t_34 :: z_t_35 :: z_t_36 :: z_t_37 :: z_t_38 :: z_t_39 :: z_t_40 :: z_t_41 :: z_t_42 :: z_t_43 :: z_t_44 :: z_t_45 :: z_t_46 :: z_t_47 :: z_t_48 :: z_t_49 :: z_t_50 :: z_t_51 :: .ref h_t_roundLong :: .ref h_t_roundY :: .ref h_t_roundZ :: z_t_55 :: z_t_56 :: z_t_57 :: .int t_roundMany :: z_t_59 :: z_t_60 :: []))) :: (h_t_roundLong, .inl (k_t_roundLong, 450, .inl t_roundLong)) :: (h_t_roundY, .inl (k_t_roundY, 450, .inl t_roundY)) :: (h_t_roundZ, .inl (k_t_roundZ, 450, .inl t_roundZ)) :: R) sz)) (QI D r ((h_t, .inr (12, (.int o_t_thrown :: z_t_1 :: z_t_2 :: z_t_3 :: z_t_4 :: z_t_5 :: z_t_6 :: z_t_7 :: z_t_8 :: z_t_9 :: z_t_10 :: z_t_11 :: z_t_12 :: z_t_13 :: z_t_14 :: z_t_15 :: z_t_16 :: z_t_17 :: z_t_18 :: z_t_19 :: z_t_20 :: z_t_21 :: z_t_22 :: z_t_23 :: z_t_24 :: z_t_25 :: z_t_26 :: z_t_27 :: z_t_28 :: z_t_29 :: z_t_30 :: z_t_31 :: z_t_32 :: z_t_33 :: z_t_34 :: z_t_35 :: z_t_36 :: z_t_37 :: z_t_38 :: z_t_39 :: z_t_40 :: z_t_41 :: z_t_42 :: z_t_43 :: z_t_44 :: z_t_45 :: z_t_46 :: z_t_47 :: z_t_48 :: z_t_49 :: z_t_50 :: z_t_51 :: .ref h_t_roundLong :: .ref h_t_roundY :: .ref h_t_roundZ :: z_t_55 :: z_t_56 :: z_t_57 :: .int t_roundMany :: z_t_59 :: z_t_60 :: []))) :: (h_t_roundLong, .inl (k_t_roundLong, 450, .inl t_roundLong)) :: (h_t_roundY, .inl (k_t_roundY, 450, .inl t_roundY)) :: (h_t_roundZ, .inl (k_t_roundZ, 450, .inl t_roundZ)) :: R) (va_A ((h_t, .inr (12, (.int t_thrown :: z_t_1 :: z_t_2 :: z_t_3 :: z_t_4 :: z_t_5 :: z_t_6 :: z_t_7 :: z_t_8 :: z_t_9 :: z_t_10 :: z_t_11 :: z_t_12 :: z_t_13 :: z_t_14 :: z_t_15 :: z_t_16 :: z_t_17 :: z_t_18 :: z_t_19 :: z_t_20 :: z_t_21 :: z_t_22 :: z_t_23 :: z_t_24 :: z_t_25 :: z_t_26 :: z_t_27 :: z_t_28 :: z_t_29 :: z_t_30 :: z_t_31 :: z_t_32 :: z_t_33 :: z_t_34 :: z_t_35 :: z_t_36 :: z_t_37 :: z_t_38 :: z_t_39 :: z_t_40 :: z_t_41 :: z_t_42 :: z_t_43 :: z_t_44 :: z_t_45 :: z_t_46 :: z_t_47 :: z_t_48 :: z_t_49 :: z_t_50 :: z_t_51 :: .ref h_t_roundLong :: .ref h_t_roundY :: .ref h_t_roundZ :: z_t_55 :: z_t_56 :: z_t_57 :: .int t_roundMany :: z_t_59 :: z_t_60 :: []))) :: (h_t_roundLong, .inl (k_t_roundLong, 450, .inl t_roundLong)) :: (h_t_roundY, .inl (k_t_roundY, 450, .inl t_roundY)) :: (h_t_roundZ, .inl (k_t_roundZ, 450, .inl t_roundZ)) :: R) sz)) 0 0 (va_A ((h_t, .inr (12, (.int t_thrown :: z_t_1 :: z_t_2 :: z_t_3 :: z_t_4 :: z_t_5 :: z_t_6 :: z_t_7 :: z_t_8 :: z_t_9 :: z_t_10 :: z_t_11 :: z_t_12 :: z_t_13 :: z_t_14 :: z_t_15 :: z_t_16 :: z_t_17 :: z_t_18 :: z_t_19 :: z_t_20 :: z_t_21 :: z_t_22 :: z_t_23 :: z_t_24 :: z_t_25 :: z_t_26 :: z_t_27 :: z_t_28 :: z_t_29 :: z_t_30 :: z_t_31 :: z_t_32 :: z_t_33 :: z_t_34 :: z_t_35 :: z_t_36 :: z_t_37 :: z_t_38 :: z_t_39 :: z_t_40 :: z_t_41 :: z_t_42 :: z_t_43 :: z_t_44 :: z_t_45 :: z_t_46 :: z_t_47 :: z_t_48 :: z_t_49 :: z_t_50 :: z_t_51 :: .ref h_t_roundLong :: .ref h_t_roundY :: .ref h_t_roundZ :: z_t_55 :: z_t_56 :: z_t_57 :: .int t_roundMany :: z_t_59 :: z_t_60 :: []))) :: (h_t_roundLong, .inl (k_t_roundLong, 450, .inl t_roundLong)) :: (h_t_roundY, .inl (k_t_roundY, 450, .inl t_roundY)) :: (h_t_roundZ, .inl (k_t_roundZ, 450, .inl t_roundZ)) :: R) sz) := by
  refine ct_start (QF := fun A => QI D r ((h_t, .inr (12, (.int o_t_thrown :: z_t_1 :: z_t_2 :: z_t_3 :: z_t_4 :: z_t_5 :: z_t_6 :: z_t_7 :: z_t_8 :: z_t_9 :: z_t_10 :: z_t_11 :: z_t_12 :: z_t_13 :: z_t_14 :: z_t_15 :: z_t_16 :: z_t_17 :: z_t_18 :: z_t_19 :: z_t_20 :: z_t_21 :: z_t_22 :: z_t_23 :: z_t_24 :: z_t_25 :: z_t_26 :: z_t_27 :: z_t_28 :: z_t_29 :: z_t_30 :: z_t_31 :: z_t_32 :: z_t_33 :: z_t_34 :: z_t_35 :: z_t_36 :: z_t_37 :: z_t_38 :: z_t_39 :: z_t_40 :: z_t_41 :: z_t_42 :: z_t_43 :: z_t_44 :: z_t_45 :: z_t_46 :: z_t_47 :: z_t_48 :: z_t_49 :: z_t_50 :: z_t_51 :: .ref h_t_roundLong :: .ref h_t_roundY :: .ref h_t_roundZ :: z_t_55 :: z_t_56 :: z_t_57 :: .int t_roundMany :: z_t_59 :: z_t_60 :: []))) :: (h_t_roundLong, .inl (k_t_roundLong, 450, .inl t_roundLong)) :: (h_t_roundY, .inl (k_t_roundY, 450, .inl t_roundY)) :: (h_t_roundZ, .inl (k_t_roundZ, 450, .inl t_roundZ)) :: R) A) ?_ ?_ ?_
  · decide +kernel
  · exact Nat.le_of_ble_eq_true rfl
  intro p e s m args below meth c A ls S hr hlk hnm hS hA hP hD hK hN hl
  have S : CallFix p m c cX12_round 3 s args AL "DigitBenchModel" := S
  have hx := S.1
  have hb := S.2.1
  have hown := S.2.2.2.1
  have ha := S.2.2.2.2
  have hl : lv_has ls 3 [(0, .ref h_t), (1, .int l1), (2, .int l2)] := hl
  unfold f_X12_round at h
  refine lv_aload_n hx hb dX12_round_0 rfl (lv_at hl 0 rfl) ?_
  refine lv_iload_n hx hb dX12_round_1 rfl (lv_at hl 1 rfl) ?_
  refine lv_if_lt (tgt := 22) hx hb dX12_round_2 (by decide) (fun c1 => ?_) (fun c1 => ?_)
  · have h := br_pos c1 h
    refine lv_iconst (v := 1) hx hb dX12_round_22 (by decide) ?_
    refine lv_goto (tgt := 27) hx hb dX12_round_23 (by decide) ?_
    obtain ⟨r_c27_1, t_thrown_c27_1, e_c27_1, h⟩ := bnd2_ok h
    refine cl_z (rn_v (ci := 12) (As := [.int 1]) (rest := []) S (c_X12_throwsIf l D ((h_t_roundLong, .inl (k_t_roundLong, 450, .inl t_roundLong)) :: (h_t_roundY, .inl (k_t_roundY, 450, .inl t_roundY)) :: (h_t_roundZ, .inl (k_t_roundZ, 450, .inl t_roundZ)) :: R) h_t t_thrown (z_t_1) (z_t_2) (z_t_3) (z_t_4) (z_t_5) (z_t_6) (z_t_7) (z_t_8) (z_t_9) (z_t_10) (z_t_11) (z_t_12) (z_t_13) (z_t_14) (z_t_15) (z_t_16) (z_t_17) (z_t_18) (z_t_19) (z_t_20) (z_t_21) (z_t_22) (z_t_23) (z_t_24) (z_t_25) (z_t_26) (z_t_27) (z_t_28) (z_t_29) (z_t_30) (z_t_31) (z_t_32) (z_t_33) (z_t_34) (z_t_35) (z_t_36) (z_t_37) (z_t_38) (z_t_39) (z_t_40) (z_t_41) (z_t_42) (z_t_43) (z_t_44) (z_t_45) (z_t_46) (z_t_47) (z_t_48) (z_t_49) (z_t_50) (z_t_51) (.ref h_t_roundLong) (.ref h_t_roundY) (.ref h_t_roundZ) (z_t_55) (z_t_56) (z_t_57) (.int t_roundMany) (z_t_59) (z_t_60) 1 r_c27_1 t_thrown_c27_1 (by decide) e_c27_1 _) q1214 q1216 q34 q61 q1217 nd_X12_throwsIf ⟨Nat.le_of_ble_eq_true rfl, Nat.le_of_ble_eq_true rfl⟩ rfl rfl hP hD (hK.sub (tys' := []) [] rfl) hN rfl ⟨0, _, rfl⟩ rfl hl.1 rfl (Nat.le_of_ble_eq_true rfl) dX12_round_27 ⟨Nat.le_of_ble_eq_true rfl, Nat.le_of_ble_eq_true rfl⟩) hS hA hD (fun H locs hP hD hS z_c27_1 => ?_)
    have hP : va_P D vwCl ((h_t, .inr (12, (.int t_thrown_c27_1 :: z_t_1 :: z_t_2 :: z_t_3 :: z_t_4 :: z_t_5 :: z_t_6 :: z_t_7 :: z_t_8 :: z_t_9 :: z_t_10 :: z_t_11 :: z_t_12 :: z_t_13 :: z_t_14 :: z_t_15 :: z_t_16 :: z_t_17 :: z_t_18 :: z_t_19 :: z_t_20 :: z_t_21 :: z_t_22 :: z_t_23 :: z_t_24 :: z_t_25 :: z_t_26 :: z_t_27 :: z_t_28 :: z_t_29 :: z_t_30 :: z_t_31 :: z_t_32 :: z_t_33 :: z_t_34 :: z_t_35 :: z_t_36 :: z_t_37 :: z_t_38 :: z_t_39 :: z_t_40 :: z_t_41 :: z_t_42 :: z_t_43 :: z_t_44 :: z_t_45 :: z_t_46 :: z_t_47 :: z_t_48 :: z_t_49 :: z_t_50 :: z_t_51 :: .ref h_t_roundLong :: .ref h_t_roundY :: .ref h_t_roundZ :: z_t_55 :: z_t_56 :: z_t_57 :: .int t_roundMany :: z_t_59 :: z_t_60 :: []))) :: (h_t_roundLong, .inl (k_t_roundLong, 450, .inl t_roundLong)) :: (h_t_roundY, .inl (k_t_roundY, 450, .inl t_roundY)) :: (h_t_roundZ, .inl (k_t_roundZ, 450, .inl t_roundZ)) :: R) H := hP
    have hD : va_D A ((h_t, .inr (12, (.int t_thrown_c27_1 :: z_t_1 :: z_t_2 :: z_t_3 :: z_t_4 :: z_t_5 :: z_t_6 :: z_t_7 :: z_t_8 :: z_t_9 :: z_t_10 :: z_t_11 :: z_t_12 :: z_t_13 :: z_t_14 :: z_t_15 :: z_t_16 :: z_t_17 :: z_t_18 :: z_t_19 :: z_t_20 :: z_t_21 :: z_t_22 :: z_t_23 :: z_t_24 :: z_t_25 :: z_t_26 :: z_t_27 :: z_t_28 :: z_t_29 :: z_t_30 :: z_t_31 :: z_t_32 :: z_t_33 :: z_t_34 :: z_t_35 :: z_t_36 :: z_t_37 :: z_t_38 :: z_t_39 :: z_t_40 :: z_t_41 :: z_t_42 :: z_t_43 :: z_t_44 :: z_t_45 :: z_t_46 :: z_t_47 :: z_t_48 :: z_t_49 :: z_t_50 :: z_t_51 :: .ref h_t_roundLong :: .ref h_t_roundY :: .ref h_t_roundZ :: z_t_55 :: z_t_56 :: z_t_57 :: .int t_roundMany :: z_t_59 :: z_t_60 :: []))) :: (h_t_roundLong, .inl (k_t_roundLong, 450, .inl t_roundLong)) :: (h_t_roundY, .inl (k_t_roundY, 450, .inl t_roundY)) :: (h_t_roundZ, .inl (k_t_roundZ, 450, .inl t_roundZ)) :: R) := hD
    refine lv_if_eq (tgt := 35) hx hb dX12_round_30 (by decide) (fun c3 => ?_) (fun c3 => ?_)
    · have h := br_pos c3 h
      refine lv_iload_n hx hb dX12_round_35 rfl (lv_at hl 2 rfl) ?_
      refine lv_if_ne (tgt := 48) hx hb dX12_round_36 (by decide) (fun c4 => ?_) (fun c4 => ?_)
      · have h := br_neg c4 h
        refine lv_iload_n hx hb dX12_round_48 rfl (lv_at hl 2 rfl) ?_
        refine lv_iconst (v := 1) hx hb dX12_round_49 (by decide) ?_
        refine lv_icmp_ne (tgt := 62) hx hb dX12_round_50 (by decide) (fun c6 => ?_) (fun c6 => ?_)
        · have h := br_neg c6 h
          refine lv_aload_n hx hb dX12_round_62 rfl (lv_at hl 0 rfl) ?_
          refine va_get (D := D) (ci := 12) (v := .ref h_t_roundZ) (C := RX12) (T := TX12) (N := 61) hx hb ha ix12 hown hK hP 0 rfl rfl 54 (by decide) (ha _ q1014) (fun _ h9 => h9) rfl dX12_round_63 ?_
          refine lv_iload_n hx hb dX12_round_66 rfl (lv_at hl 1 rfl) ?_
          obtain ⟨i8, h⟩ := ix_ok h
          refine va_iald hx hb hK hP 3 2 rfl rfl i8 dX12_round_67 ?_
          cases h
          exact rt_i S hr hlk hP hD hS dX12_round_68
        · have h := br_pos c6 h
          refine lv_aload_n hx hb dX12_round_53 rfl (lv_at hl 0 rfl) ?_
          refine va_get (D := D) (ci := 12) (v := .ref h_t_roundY) (C := RX12) (T := TX12) (N := 61) hx hb ha ix12 hown hK hP 0 rfl rfl 53 (by decide) (ha _ q1013) (fun _ h9 => h9) rfl dX12_round_54 ?_
          refine lv_iload_n hx hb dX12_round_57 rfl (lv_at hl 1 rfl) ?_
          obtain ⟨i7, h⟩ := ix_ok h
          refine va_iald hx hb hK hP 2 1 rfl rfl i7 dX12_round_58 ?_
          refine lv_goto (tgt := 68) hx hb dX12_round_59 (by decide) ?_
          cases h
          exact rt_i S hr hlk hP hD hS dX12_round_68
      · have h := br_pos c4 h
        refine lv_aload_n hx hb dX12_round_39 rfl (lv_at hl 0 rfl) ?_
        refine va_get (D := D) (ci := 12) (v := .ref h_t_roundLong) (C := RX12) (T := TX12) (N := 61) hx hb ha ix12 hown hK hP 0 rfl rfl 52 (by decide) (ha _ q1012) (fun _ h9 => h9) rfl dX12_round_40 ?_
        refine lv_iload_n hx hb dX12_round_43 rfl (lv_at hl 1 rfl) ?_
        obtain ⟨i5, h⟩ := ix_ok h
        refine va_iald hx hb hK hP 1 0 rfl rfl i5 dX12_round_44 ?_
        refine lv_goto (tgt := 68) hx hb dX12_round_45 (by decide) ?_
        cases h
        exact rt_i S hr hlk hP hD hS dX12_round_68
    · have h := br_neg c3 h
      refine lv_iconst (v := 0) hx hb dX12_round_33 (by decide) ?_
      cases h
      exact rt_i S hr hlk hP hD hS dX12_round_34
  · have h := br_neg c1 h
    refine lv_iload_n hx hb dX12_round_5 rfl (lv_at hl 1 rfl) ?_
    refine lv_aload_n hx hb dX12_round_6 rfl (lv_at hl 0 rfl) ?_
    refine va_get (D := D) (ci := 12) (v := .int t_roundMany) (C := RX12) (T := TX12) (N := 61) hx hb ha ix12 hown hK hP 0 rfl rfl 58 (by decide) (ha _ q1018) (fun _ h9 => h9) rfl dX12_round_7 ?_
    refine lv_icmp_ge (tgt := 22) hx hb dX12_round_10 (by decide) (fun c9 => ?_) (fun c9 => ?_)
    · have h := br_pos c9 h
      refine lv_iconst (v := 1) hx hb dX12_round_22 (by decide) ?_
      refine lv_goto (tgt := 27) hx hb dX12_round_23 (by decide) ?_
      obtain ⟨r_c27_9, t_thrown_c27_9, e_c27_9, h⟩ := bnd2_ok h
      refine cl_z (rn_v (ci := 12) (As := [.int 1]) (rest := []) S (c_X12_throwsIf l D ((h_t_roundLong, .inl (k_t_roundLong, 450, .inl t_roundLong)) :: (h_t_roundY, .inl (k_t_roundY, 450, .inl t_roundY)) :: (h_t_roundZ, .inl (k_t_roundZ, 450, .inl t_roundZ)) :: R) h_t t_thrown (z_t_1) (z_t_2) (z_t_3) (z_t_4) (z_t_5) (z_t_6) (z_t_7) (z_t_8) (z_t_9) (z_t_10) (z_t_11) (z_t_12) (z_t_13) (z_t_14) (z_t_15) (z_t_16) (z_t_17) (z_t_18) (z_t_19) (z_t_20) (z_t_21) (z_t_22) (z_t_23) (z_t_24) (z_t_25) (z_t_26) (z_t_27) (z_t_28) (z_t_29) (z_t_30) (z_t_31) (z_t_32) (z_t_33) (z_t_34) (z_t_35) (z_t_36) (z_t_37) (z_t_38) (z_t_39) (z_t_40) (z_t_41) (z_t_42) (z_t_43) (z_t_44) (z_t_45) (z_t_46) (z_t_47) (z_t_48) (z_t_49) (z_t_50) (z_t_51) (.ref h_t_roundLong) (.ref h_t_roundY) (.ref h_t_roundZ) (z_t_55) (z_t_56) (z_t_57) (.int t_roundMany) (z_t_59) (z_t_60) 1 r_c27_9 t_thrown_c27_9 (by decide) e_c27_9 _) q1214 q1216 q34 q61 q1217 nd_X12_throwsIf ⟨Nat.le_of_ble_eq_true rfl, Nat.le_of_ble_eq_true rfl⟩ rfl rfl hP hD (hK.sub (tys' := []) [] rfl) hN rfl ⟨0, _, rfl⟩ rfl hl.1 rfl (Nat.le_of_ble_eq_true rfl) dX12_round_27 ⟨Nat.le_of_ble_eq_true rfl, Nat.le_of_ble_eq_true rfl⟩) hS hA hD (fun H locs hP hD hS z_c27_9 => ?_)
      have hP : va_P D vwCl ((h_t, .inr (12, (.int t_thrown_c27_9 :: z_t_1 :: z_t_2 :: z_t_3 :: z_t_4 :: z_t_5 :: z_t_6 :: z_t_7 :: z_t_8 :: z_t_9 :: z_t_10 :: z_t_11 :: z_t_12 :: z_t_13 :: z_t_14 :: z_t_15 :: z_t_16 :: z_t_17 :: z_t_18 :: z_t_19 :: z_t_20 :: z_t_21 :: z_t_22 :: z_t_23 :: z_t_24 :: z_t_25 :: z_t_26 :: z_t_27 :: z_t_28 :: z_t_29 :: z_t_30 :: z_t_31 :: z_t_32 :: z_t_33 :: z_t_34 :: z_t_35 :: z_t_36 :: z_t_37 :: z_t_38 :: z_t_39 :: z_t_40 :: z_t_41 :: z_t_42 :: z_t_43 :: z_t_44 :: z_t_45 :: z_t_46 :: z_t_47 :: z_t_48 :: z_t_49 :: z_t_50 :: z_t_51 :: .ref h_t_roundLong :: .ref h_t_roundY :: .ref h_t_roundZ :: z_t_55 :: z_t_56 :: z_t_57 :: .int t_roundMany :: z_t_59 :: z_t_60 :: []))) :: (h_t_roundLong, .inl (k_t_roundLong, 450, .inl t_roundLong)) :: (h_t_roundY, .inl (k_t_roundY, 450, .inl t_roundY)) :: (h_t_roundZ, .inl (k_t_roundZ, 450, .inl t_roundZ)) :: R) H := hP
      have hD : va_D A ((h_t, .inr (12, (.int t_thrown_c27_9 :: z_t_1 :: z_t_2 :: z_t_3 :: z_t_4 :: z_t_5 :: z_t_6 :: z_t_7 :: z_t_8 :: z_t_9 :: z_t_10 :: z_t_11 :: z_t_12 :: z_t_13 :: z_t_14 :: z_t_15 :: z_t_16 :: z_t_17 :: z_t_18 :: z_t_19 :: z_t_20 :: z_t_21 :: z_t_22 :: z_t_23 :: z_t_24 :: z_t_25 :: z_t_26 :: z_t_27 :: z_t_28 :: z_t_29 :: z_t_30 :: z_t_31 :: z_t_32 :: z_t_33 :: z_t_34 :: z_t_35 :: z_t_36 :: z_t_37 :: z_t_38 :: z_t_39 :: z_t_40 :: z_t_41 :: z_t_42 :: z_t_43 :: z_t_44 :: z_t_45 :: z_t_46 :: z_t_47 :: z_t_48 :: z_t_49 :: z_t_50 :: z_t_51 :: .ref h_t_roundLong :: .ref h_t_roundY :: .ref h_t_roundZ :: z_t_55 :: z_t_56 :: z_t_57 :: .int t_roundMany :: z_t_59 :: z_t_60 :: []))) :: (h_t_roundLong, .inl (k_t_roundLong, 450, .inl t_roundLong)) :: (h_t_roundY, .inl (k_t_roundY, 450, .inl t_roundY)) :: (h_t_roundZ, .inl (k_t_roundZ, 450, .inl t_roundZ)) :: R) := hD
      refine lv_if_eq (tgt := 35) hx hb dX12_round_30 (by decide) (fun c11 => ?_) (fun c11 => ?_)
      · have h := br_pos c11 h
        refine lv_iload_n hx hb dX12_round_35 rfl (lv_at hl 2 rfl) ?_
        refine lv_if_ne (tgt := 48) hx hb dX12_round_36 (by decide) (fun c12 => ?_) (fun c12 => ?_)
        · have h := br_neg c12 h
          refine lv_iload_n hx hb dX12_round_48 rfl (lv_at hl 2 rfl) ?_
          refine lv_iconst (v := 1) hx hb dX12_round_49 (by decide) ?_
          refine lv_icmp_ne (tgt := 62) hx hb dX12_round_50 (by decide) (fun c14 => ?_) (fun c14 => ?_)
          · have h := br_neg c14 h
            refine lv_aload_n hx hb dX12_round_62 rfl (lv_at hl 0 rfl) ?_
            refine va_get (D := D) (ci := 12) (v := .ref h_t_roundZ) (C := RX12) (T := TX12) (N := 61) hx hb ha ix12 hown hK hP 0 rfl rfl 54 (by decide) (ha _ q1014) (fun _ h9 => h9) rfl dX12_round_63 ?_
            refine lv_iload_n hx hb dX12_round_66 rfl (lv_at hl 1 rfl) ?_
            obtain ⟨i16, h⟩ := ix_ok h
            refine va_iald hx hb hK hP 3 2 rfl rfl i16 dX12_round_67 ?_
            cases h
            exact rt_i S hr hlk hP hD hS dX12_round_68
          · have h := br_pos c14 h
            refine lv_aload_n hx hb dX12_round_53 rfl (lv_at hl 0 rfl) ?_
            refine va_get (D := D) (ci := 12) (v := .ref h_t_roundY) (C := RX12) (T := TX12) (N := 61) hx hb ha ix12 hown hK hP 0 rfl rfl 53 (by decide) (ha _ q1013) (fun _ h9 => h9) rfl dX12_round_54 ?_
            refine lv_iload_n hx hb dX12_round_57 rfl (lv_at hl 1 rfl) ?_
            obtain ⟨i15, h⟩ := ix_ok h
            refine va_iald hx hb hK hP 2 1 rfl rfl i15 dX12_round_58 ?_
            refine lv_goto (tgt := 68) hx hb dX12_round_59 (by decide) ?_
            cases h
            exact rt_i S hr hlk hP hD hS dX12_round_68
        · have h := br_pos c12 h
          refine lv_aload_n hx hb dX12_round_39 rfl (lv_at hl 0 rfl) ?_
          refine va_get (D := D) (ci := 12) (v := .ref h_t_roundLong) (C := RX12) (T := TX12) (N := 61) hx hb ha ix12 hown hK hP 0 rfl rfl 52 (by decide) (ha _ q1012) (fun _ h9 => h9) rfl dX12_round_40 ?_
          refine lv_iload_n hx hb dX12_round_43 rfl (lv_at hl 1 rfl) ?_
          obtain ⟨i13, h⟩ := ix_ok h
          refine va_iald hx hb hK hP 1 0 rfl rfl i13 dX12_round_44 ?_
          refine lv_goto (tgt := 68) hx hb dX12_round_45 (by decide) ?_
          cases h
          exact rt_i S hr hlk hP hD hS dX12_round_68
      · have h := br_neg c11 h
        refine lv_iconst (v := 0) hx hb dX12_round_33 (by decide) ?_
        cases h
        exact rt_i S hr hlk hP hD hS dX12_round_34
    · have h := br_neg c9 h
      refine lv_iload_n hx hb dX12_round_13 rfl (lv_at hl 2 rfl) ?_
      refine lv_if_lt (tgt := 22) hx hb dX12_round_14 (by decide) (fun c17 => ?_) (fun c17 => ?_)
      · have h := br_pos c17 h
        refine lv_iconst (v := 1) hx hb dX12_round_22 (by decide) ?_
        refine lv_goto (tgt := 27) hx hb dX12_round_23 (by decide) ?_
        obtain ⟨r_c27_17, t_thrown_c27_17, e_c27_17, h⟩ := bnd2_ok h
        refine cl_z (rn_v (ci := 12) (As := [.int 1]) (rest := []) S (c_X12_throwsIf l D ((h_t_roundLong, .inl (k_t_roundLong, 450, .inl t_roundLong)) :: (h_t_roundY, .inl (k_t_roundY, 450, .inl t_roundY)) :: (h_t_roundZ, .inl (k_t_roundZ, 450, .inl t_roundZ)) :: R) h_t t_thrown (z_t_1) (z_t_2) (z_t_3) (z_t_4) (z_t_5) (z_t_6) (z_t_7) (z_t_8) (z_t_9) (z_t_10) (z_t_11) (z_t_12) (z_t_13) (z_t_14) (z_t_15) (z_t_16) (z_t_17) (z_t_18) (z_t_19) (z_t_20) (z_t_21) (z_t_22) (z_t_23) (z_t_24) (z_t_25) (z_t_26) (z_t_27) (z_t_28) (z_t_29) (z_t_30) (z_t_31) (z_t_32) (z_t_33) (z_t_34) (z_t_35) (z_t_36) (z_t_37) (z_t_38) (z_t_39) (z_t_40) (z_t_41) (z_t_42) (z_t_43) (z_t_44) (z_t_45) (z_t_46) (z_t_47) (z_t_48) (z_t_49) (z_t_50) (z_t_51) (.ref h_t_roundLong) (.ref h_t_roundY) (.ref h_t_roundZ) (z_t_55) (z_t_56) (z_t_57) (.int t_roundMany) (z_t_59) (z_t_60) 1 r_c27_17 t_thrown_c27_17 (by decide) e_c27_17 _) q1214 q1216 q34 q61 q1217 nd_X12_throwsIf ⟨Nat.le_of_ble_eq_true rfl, Nat.le_of_ble_eq_true rfl⟩ rfl rfl hP hD (hK.sub (tys' := []) [] rfl) hN rfl ⟨0, _, rfl⟩ rfl hl.1 rfl (Nat.le_of_ble_eq_true rfl) dX12_round_27 ⟨Nat.le_of_ble_eq_true rfl, Nat.le_of_ble_eq_true rfl⟩) hS hA hD (fun H locs hP hD hS z_c27_17 => ?_)
        have hP : va_P D vwCl ((h_t, .inr (12, (.int t_thrown_c27_17 :: z_t_1 :: z_t_2 :: z_t_3 :: z_t_4 :: z_t_5 :: z_t_6 :: z_t_7 :: z_t_8 :: z_t_9 :: z_t_10 :: z_t_11 :: z_t_12 :: z_t_13 :: z_t_14 :: z_t_15 :: z_t_16 :: z_t_17 :: z_t_18 :: z_t_19 :: z_t_20 :: z_t_21 :: z_t_22 :: z_t_23 :: z_t_24 :: z_t_25 :: z_t_26 :: z_t_27 :: z_t_28 :: z_t_29 :: z_t_30 :: z_t_31 :: z_t_32 :: z_t_33 :: z_t_34 :: z_t_35 :: z_t_36 :: z_t_37 :: z_t_38 :: z_t_39 :: z_t_40 :: z_t_41 :: z_t_42 :: z_t_43 :: z_t_44 :: z_t_45 :: z_t_46 :: z_t_47 :: z_t_48 :: z_t_49 :: z_t_50 :: z_t_51 :: .ref h_t_roundLong :: .ref h_t_roundY :: .ref h_t_roundZ :: z_t_55 :: z_t_56 :: z_t_57 :: .int t_roundMany :: z_t_59 :: z_t_60 :: []))) :: (h_t_roundLong, .inl (k_t_roundLong, 450, .inl t_roundLong)) :: (h_t_roundY, .inl (k_t_roundY, 450, .inl t_roundY)) :: (h_t_roundZ, .inl (k_t_roundZ, 450, .inl t_roundZ)) :: R) H := hP
        have hD : va_D A ((h_t, .inr (12, (.int t_thrown_c27_17 :: z_t_1 :: z_t_2 :: z_t_3 :: z_t_4 :: z_t_5 :: z_t_6 :: z_t_7 :: z_t_8 :: z_t_9 :: z_t_10 :: z_t_11 :: z_t_12 :: z_t_13 :: z_t_14 :: z_t_15 :: z_t_16 :: z_t_17 :: z_t_18 :: z_t_19 :: z_t_20 :: z_t_21 :: z_t_22 :: z_t_23 :: z_t_24 :: z_t_25 :: z_t_26 :: z_t_27 :: z_t_28 :: z_t_29 :: z_t_30 :: z_t_31 :: z_t_32 :: z_t_33 :: z_t_34 :: z_t_35 :: z_t_36 :: z_t_37 :: z_t_38 :: z_t_39 :: z_t_40 :: z_t_41 :: z_t_42 :: z_t_43 :: z_t_44 :: z_t_45 :: z_t_46 :: z_t_47 :: z_t_48 :: z_t_49 :: z_t_50 :: z_t_51 :: .ref h_t_roundLong :: .ref h_t_roundY :: .ref h_t_roundZ :: z_t_55 :: z_t_56 :: z_t_57 :: .int t_roundMany :: z_t_59 :: z_t_60 :: []))) :: (h_t_roundLong, .inl (k_t_roundLong, 450, .inl t_roundLong)) :: (h_t_roundY, .inl (k_t_roundY, 450, .inl t_roundY)) :: (h_t_roundZ, .inl (k_t_roundZ, 450, .inl t_roundZ)) :: R) := hD
        refine lv_if_eq (tgt := 35) hx hb dX12_round_30 (by decide) (fun c19 => ?_) (fun c19 => ?_)
        · have h := br_pos c19 h
          refine lv_iload_n hx hb dX12_round_35 rfl (lv_at hl 2 rfl) ?_
          refine lv_if_ne (tgt := 48) hx hb dX12_round_36 (by decide) (fun c20 => ?_) (fun c20 => ?_)
          · have h := br_neg c20 h
            refine lv_iload_n hx hb dX12_round_48 rfl (lv_at hl 2 rfl) ?_
            refine lv_iconst (v := 1) hx hb dX12_round_49 (by decide) ?_
            refine lv_icmp_ne (tgt := 62) hx hb dX12_round_50 (by decide) (fun c22 => ?_) (fun c22 => ?_)
            · have h := br_neg c22 h
              refine lv_aload_n hx hb dX12_round_62 rfl (lv_at hl 0 rfl) ?_
              refine va_get (D := D) (ci := 12) (v := .ref h_t_roundZ) (C := RX12) (T := TX12) (N := 61) hx hb ha ix12 hown hK hP 0 rfl rfl 54 (by decide) (ha _ q1014) (fun _ h9 => h9) rfl dX12_round_63 ?_
              refine lv_iload_n hx hb dX12_round_66 rfl (lv_at hl 1 rfl) ?_
              obtain ⟨i24, h⟩ := ix_ok h
              refine va_iald hx hb hK hP 3 2 rfl rfl i24 dX12_round_67 ?_
              cases h
              exact rt_i S hr hlk hP hD hS dX12_round_68
            · have h := br_pos c22 h
              refine lv_aload_n hx hb dX12_round_53 rfl (lv_at hl 0 rfl) ?_
              refine va_get (D := D) (ci := 12) (v := .ref h_t_roundY) (C := RX12) (T := TX12) (N := 61) hx hb ha ix12 hown hK hP 0 rfl rfl 53 (by decide) (ha _ q1013) (fun _ h9 => h9) rfl dX12_round_54 ?_
              refine lv_iload_n hx hb dX12_round_57 rfl (lv_at hl 1 rfl) ?_
              obtain ⟨i23, h⟩ := ix_ok h
              refine va_iald hx hb hK hP 2 1 rfl rfl i23 dX12_round_58 ?_
              refine lv_goto (tgt := 68) hx hb dX12_round_59 (by decide) ?_
              cases h
              exact rt_i S hr hlk hP hD hS dX12_round_68
          · have h := br_pos c20 h
            refine lv_aload_n hx hb dX12_round_39 rfl (lv_at hl 0 rfl) ?_
            refine va_get (D := D) (ci := 12) (v := .ref h_t_roundLong) (C := RX12) (T := TX12) (N := 61) hx hb ha ix12 hown hK hP 0 rfl rfl 52 (by decide) (ha _ q1012) (fun _ h9 => h9) rfl dX12_round_40 ?_
            refine lv_iload_n hx hb dX12_round_43 rfl (lv_at hl 1 rfl) ?_
            obtain ⟨i21, h⟩ := ix_ok h
            refine va_iald hx hb hK hP 1 0 rfl rfl i21 dX12_round_44 ?_
            refine lv_goto (tgt := 68) hx hb dX12_round_45 (by decide) ?_
            cases h
            exact rt_i S hr hlk hP hD hS dX12_round_68
        · have h := br_neg c19 h
          refine lv_iconst (v := 0) hx hb dX12_round_33 (by decide) ?_
          cases h
          exact rt_i S hr hlk hP hD hS dX12_round_34
      · have h := br_neg c17 h
        refine lv_iload_n hx hb dX12_round_17 rfl (lv_at hl 2 rfl) ?_
        refine lv_iconst (v := 2) hx hb dX12_round_18 (by decide) ?_
        refine lv_icmp_le (tgt := 26) hx hb dX12_round_19 (by decide) (fun c25 => ?_) (fun c25 => ?_)
        · have h := br_pos c25 h
          refine lv_iconst (v := 0) hx hb dX12_round_26 (by decide) ?_
          obtain ⟨r_c27_25, t_thrown_c27_25, e_c27_25, h⟩ := bnd2_ok h
          refine cl_z (rn_v (ci := 12) (As := [.int 0]) (rest := []) S (c_X12_throwsIf l D ((h_t_roundLong, .inl (k_t_roundLong, 450, .inl t_roundLong)) :: (h_t_roundY, .inl (k_t_roundY, 450, .inl t_roundY)) :: (h_t_roundZ, .inl (k_t_roundZ, 450, .inl t_roundZ)) :: R) h_t t_thrown (z_t_1) (z_t_2) (z_t_3) (z_t_4) (z_t_5) (z_t_6) (z_t_7) (z_t_8) (z_t_9) (z_t_10) (z_t_11) (z_t_12) (z_t_13) (z_t_14) (z_t_15) (z_t_16) (z_t_17) (z_t_18) (z_t_19) (z_t_20) (z_t_21) (z_t_22) (z_t_23) (z_t_24) (z_t_25) (z_t_26) (z_t_27) (z_t_28) (z_t_29) (z_t_30) (z_t_31) (z_t_32) (z_t_33) (z_t_34) (z_t_35) (z_t_36) (z_t_37) (z_t_38) (z_t_39) (z_t_40) (z_t_41) (z_t_42) (z_t_43) (z_t_44) (z_t_45) (z_t_46) (z_t_47) (z_t_48) (z_t_49) (z_t_50) (z_t_51) (.ref h_t_roundLong) (.ref h_t_roundY) (.ref h_t_roundZ) (z_t_55) (z_t_56) (z_t_57) (.int t_roundMany) (z_t_59) (z_t_60) 0 r_c27_25 t_thrown_c27_25 (by decide) e_c27_25 _) q1214 q1216 q34 q61 q1217 nd_X12_throwsIf ⟨Nat.le_of_ble_eq_true rfl, Nat.le_of_ble_eq_true rfl⟩ rfl rfl hP hD (hK.sub (tys' := []) [] rfl) hN rfl ⟨0, _, rfl⟩ rfl hl.1 rfl (Nat.le_of_ble_eq_true rfl) dX12_round_27 ⟨Nat.le_of_ble_eq_true rfl, Nat.le_of_ble_eq_true rfl⟩) hS hA hD (fun H locs hP hD hS z_c27_25 => ?_)
          have hP : va_P D vwCl ((h_t, .inr (12, (.int t_thrown_c27_25 :: z_t_1 :: z_t_2 :: z_t_3 :: z_t_4 :: z_t_5 :: z_t_6 :: z_t_7 :: z_t_8 :: z_t_9 :: z_t_10 :: z_t_11 :: z_t_12 :: z_t_13 :: z_t_14 :: z_t_15 :: z_t_16 :: z_t_17 :: z_t_18 :: z_t_19 :: z_t_20 :: z_t_21 :: z_t_22 :: z_t_23 :: z_t_24 :: z_t_25 :: z_t_26 :: z_t_27 :: z_t_28 :: z_t_29 :: z_t_30 :: z_t_31 :: z_t_32 :: z_t_33 :: z_t_34 :: z_t_35 :: z_t_36 :: z_t_37 :: z_t_38 :: z_t_39 :: z_t_40 :: z_t_41 :: z_t_42 :: z_t_43 :: z_t_44 :: z_t_45 :: z_t_46 :: z_t_47 :: z_t_48 :: z_t_49 :: z_t_50 :: z_t_51 :: .ref h_t_roundLong :: .ref h_t_roundY :: .ref h_t_roundZ :: z_t_55 :: z_t_56 :: z_t_57 :: .int t_roundMany :: z_t_59 :: z_t_60 :: []))) :: (h_t_roundLong, .inl (k_t_roundLong, 450, .inl t_roundLong)) :: (h_t_roundY, .inl (k_t_roundY, 450, .inl t_roundY)) :: (h_t_roundZ, .inl (k_t_roundZ, 450, .inl t_roundZ)) :: R) H := hP
          have hD : va_D A ((h_t, .inr (12, (.int t_thrown_c27_25 :: z_t_1 :: z_t_2 :: z_t_3 :: z_t_4 :: z_t_5 :: z_t_6 :: z_t_7 :: z_t_8 :: z_t_9 :: z_t_10 :: z_t_11 :: z_t_12 :: z_t_13 :: z_t_14 :: z_t_15 :: z_t_16 :: z_t_17 :: z_t_18 :: z_t_19 :: z_t_20 :: z_t_21 :: z_t_22 :: z_t_23 :: z_t_24 :: z_t_25 :: z_t_26 :: z_t_27 :: z_t_28 :: z_t_29 :: z_t_30 :: z_t_31 :: z_t_32 :: z_t_33 :: z_t_34 :: z_t_35 :: z_t_36 :: z_t_37 :: z_t_38 :: z_t_39 :: z_t_40 :: z_t_41 :: z_t_42 :: z_t_43 :: z_t_44 :: z_t_45 :: z_t_46 :: z_t_47 :: z_t_48 :: z_t_49 :: z_t_50 :: z_t_51 :: .ref h_t_roundLong :: .ref h_t_roundY :: .ref h_t_roundZ :: z_t_55 :: z_t_56 :: z_t_57 :: .int t_roundMany :: z_t_59 :: z_t_60 :: []))) :: (h_t_roundLong, .inl (k_t_roundLong, 450, .inl t_roundLong)) :: (h_t_roundY, .inl (k_t_roundY, 450, .inl t_roundY)) :: (h_t_roundZ, .inl (k_t_roundZ, 450, .inl t_roundZ)) :: R) := hD
          refine lv_if_eq (tgt := 35) hx hb dX12_round_30 (by decide) (fun c27 => ?_) (fun c27 => ?_)
          · have h := br_pos c27 h
            refine lv_iload_n hx hb dX12_round_35 rfl (lv_at hl 2 rfl) ?_
            refine lv_if_ne (tgt := 48) hx hb dX12_round_36 (by decide) (fun c28 => ?_) (fun c28 => ?_)
            · have h := br_neg c28 h
              refine lv_iload_n hx hb dX12_round_48 rfl (lv_at hl 2 rfl) ?_
              refine lv_iconst (v := 1) hx hb dX12_round_49 (by decide) ?_
              refine lv_icmp_ne (tgt := 62) hx hb dX12_round_50 (by decide) (fun c30 => ?_) (fun c30 => ?_)
              · have h := br_neg c30 h
                refine lv_aload_n hx hb dX12_round_62 rfl (lv_at hl 0 rfl) ?_
                refine va_get (D := D) (ci := 12) (v := .ref h_t_roundZ) (C := RX12) (T := TX12) (N := 61) hx hb ha ix12 hown hK hP 0 rfl rfl 54 (by decide) (ha _ q1014) (fun _ h9 => h9) rfl dX12_round_63 ?_
                refine lv_iload_n hx hb dX12_round_66 rfl (lv_at hl 1 rfl) ?_
                obtain ⟨i32, h⟩ := ix_ok h
                refine va_iald hx hb hK hP 3 2 rfl rfl i32 dX12_round_67 ?_
                cases h
                exact rt_i S hr hlk hP hD hS dX12_round_68
              · have h := br_pos c30 h
                refine lv_aload_n hx hb dX12_round_53 rfl (lv_at hl 0 rfl) ?_
                refine va_get (D := D) (ci := 12) (v := .ref h_t_roundY) (C := RX12) (T := TX12) (N := 61) hx hb ha ix12 hown hK hP 0 rfl rfl 53 (by decide) (ha _ q1013) (fun _ h9 => h9) rfl dX12_round_54 ?_
                refine lv_iload_n hx hb dX12_round_57 rfl (lv_at hl 1 rfl) ?_
                obtain ⟨i31, h⟩ := ix_ok h
                refine va_iald hx hb hK hP 2 1 rfl rfl i31 dX12_round_58 ?_
                refine lv_goto (tgt := 68) hx hb dX12_round_59 (by decide) ?_
                cases h
                exact rt_i S hr hlk hP hD hS dX12_round_68
            · have h := br_pos c28 h
              refine lv_aload_n hx hb dX12_round_39 rfl (lv_at hl 0 rfl) ?_
              refine va_get (D := D) (ci := 12) (v := .ref h_t_roundLong) (C := RX12) (T := TX12) (N := 61) hx hb ha ix12 hown hK hP 0 rfl rfl 52 (by decide) (ha _ q1012) (fun _ h9 => h9) rfl dX12_round_40 ?_
              refine lv_iload_n hx hb dX12_round_43 rfl (lv_at hl 1 rfl) ?_
              obtain ⟨i29, h⟩ := ix_ok h
              refine va_iald hx hb hK hP 1 0 rfl rfl i29 dX12_round_44 ?_
              refine lv_goto (tgt := 68) hx hb dX12_round_45 (by decide) ?_
              cases h
              exact rt_i S hr hlk hP hD hS dX12_round_68
          · have h := br_neg c27 h
            refine lv_iconst (v := 0) hx hb dX12_round_33 (by decide) ?_
            cases h
            exact rt_i S hr hlk hP hD hS dX12_round_34
        · have h := br_neg c25 h
          refine lv_iconst (v := 1) hx hb dX12_round_22 (by decide) ?_
          refine lv_goto (tgt := 27) hx hb dX12_round_23 (by decide) ?_
          obtain ⟨r_c27_32, t_thrown_c27_32, e_c27_32, h⟩ := bnd2_ok h
          refine cl_z (rn_v (ci := 12) (As := [.int 1]) (rest := []) S (c_X12_throwsIf l D ((h_t_roundLong, .inl (k_t_roundLong, 450, .inl t_roundLong)) :: (h_t_roundY, .inl (k_t_roundY, 450, .inl t_roundY)) :: (h_t_roundZ, .inl (k_t_roundZ, 450, .inl t_roundZ)) :: R) h_t t_thrown (z_t_1) (z_t_2) (z_t_3) (z_t_4) (z_t_5) (z_t_6) (z_t_7) (z_t_8) (z_t_9) (z_t_10) (z_t_11) (z_t_12) (z_t_13) (z_t_14) (z_t_15) (z_t_16) (z_t_17) (z_t_18) (z_t_19) (z_t_20) (z_t_21) (z_t_22) (z_t_23) (z_t_24) (z_t_25) (z_t_26) (z_t_27) (z_t_28) (z_t_29) (z_t_30) (z_t_31) (z_t_32) (z_t_33) (z_t_34) (z_t_35) (z_t_36) (z_t_37) (z_t_38) (z_t_39) (z_t_40) (z_t_41) (z_t_42) (z_t_43) (z_t_44) (z_t_45) (z_t_46) (z_t_47) (z_t_48) (z_t_49) (z_t_50) (z_t_51) (.ref h_t_roundLong) (.ref h_t_roundY) (.ref h_t_roundZ) (z_t_55) (z_t_56) (z_t_57) (.int t_roundMany) (z_t_59) (z_t_60) 1 r_c27_32 t_thrown_c27_32 (by decide) e_c27_32 _) q1214 q1216 q34 q61 q1217 nd_X12_throwsIf ⟨Nat.le_of_ble_eq_true rfl, Nat.le_of_ble_eq_true rfl⟩ rfl rfl hP hD (hK.sub (tys' := []) [] rfl) hN rfl ⟨0, _, rfl⟩ rfl hl.1 rfl (Nat.le_of_ble_eq_true rfl) dX12_round_27 ⟨Nat.le_of_ble_eq_true rfl, Nat.le_of_ble_eq_true rfl⟩) hS hA hD (fun H locs hP hD hS z_c27_32 => ?_)
          have hP : va_P D vwCl ((h_t, .inr (12, (.int t_thrown_c27_32 :: z_t_1 :: z_t_2 :: z_t_3 :: z_t_4 :: z_t_5 :: z_t_6 :: z_t_7 :: z_t_8 :: z_t_9 :: z_t_10 :: z_t_11 :: z_t_12 :: z_t_13 :: z_t_14 :: z_t_15 :: z_t_16 :: z_t_17 :: z_t_18 :: z_t_19 :: z_t_20 :: z_t_21 :: z_t_22 :: z_t_23 :: z_t_24 :: z_t_25 :: z_t_26 :: z_t_27 :: z_t_28 :: z_t_29 :: z_t_30 :: z_t_31 :: z_t_32 :: z_t_33 :: z_t_34 :: z_t_35 :: z_t_36 :: z_t_37 :: z_t_38 :: z_t_39 :: z_t_40 :: z_t_41 :: z_t_42 :: z_t_43 :: z_t_44 :: z_t_45 :: z_t_46 :: z_t_47 :: z_t_48 :: z_t_49 :: z_t_50 :: z_t_51 :: .ref h_t_roundLong :: .ref h_t_roundY :: .ref h_t_roundZ :: z_t_55 :: z_t_56 :: z_t_57 :: .int t_roundMany :: z_t_59 :: z_t_60 :: []))) :: (h_t_roundLong, .inl (k_t_roundLong, 450, .inl t_roundLong)) :: (h_t_roundY, .inl (k_t_roundY, 450, .inl t_roundY)) :: (h_t_roundZ, .inl (k_t_roundZ, 450, .inl t_roundZ)) :: R) H := hP
          have hD : va_D A ((h_t, .inr (12, (.int t_thrown_c27_32 :: z_t_1 :: z_t_2 :: z_t_3 :: z_t_4 :: z_t_5 :: z_t_6 :: z_t_7 :: z_t_8 :: z_t_9 :: z_t_10 :: z_t_11 :: z_t_12 :: z_t_13 :: z_t_14 :: z_t_15 :: z_t_16 :: z_t_17 :: z_t_18 :: z_t_19 :: z_t_20 :: z_t_21 :: z_t_22 :: z_t_23 :: z_t_24 :: z_t_25 :: z_t_26 :: z_t_27 :: z_t_28 :: z_t_29 :: z_t_30 :: z_t_31 :: z_t_32 :: z_t_33 :: z_t_34 :: z_t_35 :: z_t_36 :: z_t_37 :: z_t_38 :: z_t_39 :: z_t_40 :: z_t_41 :: z_t_42 :: z_t_43 :: z_t_44 :: z_t_45 :: z_t_46 :: z_t_47 :: z_t_48 :: z_t_49 :: z_t_50 :: z_t_51 :: .ref h_t_roundLong :: .ref h_t_roundY :: .ref h_t_roundZ :: z_t_55 :: z_t_56 :: z_t_57 :: .int t_roundMany :: z_t_59 :: z_t_60 :: []))) :: (h_t_roundLong, .inl (k_t_roundLong, 450, .inl t_roundLong)) :: (h_t_roundY, .inl (k_t_roundY, 450, .inl t_roundY)) :: (h_t_roundZ, .inl (k_t_roundZ, 450, .inl t_roundZ)) :: R) := hD
          refine lv_if_eq (tgt := 35) hx hb dX12_round_30 (by decide) (fun c34 => ?_) (fun c34 => ?_)
          · have h := br_pos c34 h
            refine lv_iload_n hx hb dX12_round_35 rfl (lv_at hl 2 rfl) ?_
            refine lv_if_ne (tgt := 48) hx hb dX12_round_36 (by decide) (fun c35 => ?_) (fun c35 => ?_)
            · have h := br_neg c35 h
              refine lv_iload_n hx hb dX12_round_48 rfl (lv_at hl 2 rfl) ?_
              refine lv_iconst (v := 1) hx hb dX12_round_49 (by decide) ?_
              refine lv_icmp_ne (tgt := 62) hx hb dX12_round_50 (by decide) (fun c37 => ?_) (fun c37 => ?_)
              · have h := br_neg c37 h
                refine lv_aload_n hx hb dX12_round_62 rfl (lv_at hl 0 rfl) ?_
                refine va_get (D := D) (ci := 12) (v := .ref h_t_roundZ) (C := RX12) (T := TX12) (N := 61) hx hb ha ix12 hown hK hP 0 rfl rfl 54 (by decide) (ha _ q1014) (fun _ h9 => h9) rfl dX12_round_63 ?_
                refine lv_iload_n hx hb dX12_round_66 rfl (lv_at hl 1 rfl) ?_
                obtain ⟨i39, h⟩ := ix_ok h
                refine va_iald hx hb hK hP 3 2 rfl rfl i39 dX12_round_67 ?_
                cases h
                exact rt_i S hr hlk hP hD hS dX12_round_68
              · have h := br_pos c37 h
                refine lv_aload_n hx hb dX12_round_53 rfl (lv_at hl 0 rfl) ?_
                refine va_get (D := D) (ci := 12) (v := .ref h_t_roundY) (C := RX12) (T := TX12) (N := 61) hx hb ha ix12 hown hK hP 0 rfl rfl 53 (by decide) (ha _ q1013) (fun _ h9 => h9) rfl dX12_round_54 ?_
                refine lv_iload_n hx hb dX12_round_57 rfl (lv_at hl 1 rfl) ?_
                obtain ⟨i38, h⟩ := ix_ok h
                refine va_iald hx hb hK hP 2 1 rfl rfl i38 dX12_round_58 ?_
                refine lv_goto (tgt := 68) hx hb dX12_round_59 (by decide) ?_
                cases h
                exact rt_i S hr hlk hP hD hS dX12_round_68
            · have h := br_pos c35 h
              refine lv_aload_n hx hb dX12_round_39 rfl (lv_at hl 0 rfl) ?_
              refine va_get (D := D) (ci := 12) (v := .ref h_t_roundLong) (C := RX12) (T := TX12) (N := 61) hx hb ha ix12 hown hK hP 0 rfl rfl 52 (by decide) (ha _ q1012) (fun _ h9 => h9) rfl dX12_round_40 ?_
              refine lv_iload_n hx hb dX12_round_43 rfl (lv_at hl 1 rfl) ?_
              obtain ⟨i36, h⟩ := ix_ok h
              refine va_iald hx hb hK hP 1 0 rfl rfl i36 dX12_round_44 ?_
              refine lv_goto (tgt := 68) hx hb dX12_round_45 (by decide) ?_
              cases h
              exact rt_i S hr hlk hP hD hS dX12_round_68
          · have h := br_neg c34 h
            refine lv_iconst (v := 0) hx hb dX12_round_33 (by decide) ?_
            cases h
            exact rt_i S hr hlk hP hD hS dX12_round_34
noncomputable def f_X12_ending (t_thrown : Int32) (t_parts : Int32) (t_ringP : Int32) (t_ringQ : Int32) (t_baseY : Int32) (t_baseZ : Int32) (t_setMany : Int32) (t_quotientY : Int64) (t_quotientZ : Int64) (t_placeMany : Int32) (t_met : Int32) (t_length0 : Int32) (t_how : Int32) (t_newMany : Int32) (t_ends : Int32) (t_setY : Nat → Int32) (t_setZ : Nat → Int32) (t_wayY : Nat → Int32) (t_wayZ : Nat → Int32) (t_places : Nat → Int32) (t_newLong : Nat → Int32) (t_newY : Nat → Int32) (t_newZ : Nat → Int32) (l1 : Int32) : Option (Int32 × Int32 × Int64 × Int64 × Int32 × Int32 × Int32 × Int32 × Int32 × Int32 × (Nat → Int32) × (Nat → Int32) × (Nat → Int32) × (Nat → Int32) × (Nat → Int32) × (Nat → Int32)) :=
  bnd15 (f_X12_all t_parts t_ringP t_ringQ t_baseY t_baseZ t_setMany t_quotientY t_quotientZ t_placeMany t_met t_length0 t_how t_newMany t_ends t_setY t_setZ t_wayY t_wayZ t_places t_newLong t_newY t_newZ l1) fun r_c7_0 t_quotientY_c7_0 t_quotientZ_c7_0 t_placeMany_c7_0 t_met_c7_0 t_length0_c7_0 t_how_c7_0 t_newMany_c7_0 t_ends_c7_0 t_wayY_c7_0 t_wayZ_c7_0 t_places_c7_0 t_newLong_c7_0 t_newY_c7_0 t_newZ_c7_0 => (
   if r_c7_0 = 0 then (
    some ((-1), 0, t_quotientY_c7_0, t_quotientZ_c7_0, t_placeMany_c7_0, t_met_c7_0, t_length0_c7_0, t_how_c7_0, t_newMany_c7_0, t_ends_c7_0, t_wayY_c7_0, t_wayZ_c7_0, t_places_c7_0, t_newLong_c7_0, t_newY_c7_0, t_newZ_c7_0)
   ) else (
    some (t_ends_c7_0, 0, t_quotientY_c7_0, t_quotientZ_c7_0, t_placeMany_c7_0, t_met_c7_0, t_length0_c7_0, t_how_c7_0, t_newMany_c7_0, t_ends_c7_0, t_wayY_c7_0, t_wayZ_c7_0, t_places_c7_0, t_newLong_c7_0, t_newY_c7_0, t_newZ_c7_0)
   )
  )
set_option maxHeartbeats 4000000 in
set_option maxRecDepth 100000 in
theorem c_X12_ending (l : Launch) (D : va_G) (R : va_W) (h_t : Nat) (t_thrown : Int32) (z_t_1 : Value) (z_t_2 : Value) (z_t_3 : Value) (z_t_4 : Value) (z_t_5 : Value) (z_t_6 : Value) (z_t_7 : Value) (z_t_8 : Value) (z_t_9 : Value) (z_t_10 : Value) (z_t_11 : Value) (z_t_12 : Value) (z_t_13 : Value) (z_t_14 : Value) (z_t_15 : Value) (z_t_16 : Value) (z_t_17 : Value) (z_t_18 : Value) (z_t_19 : Value) (z_t_20 : Value) (z_t_21 : Value) (z_t_22 : Value) (z_t_23 : Value) (z_t_24 : Value) (z_t_25 : Value) (z_t_26 : Value) (t_parts : Int32) (t_ringP : Int32) (t_ringQ : Int32) (t_baseY : Int32) (t_baseZ : Int32) (z_t_32 : Value) (t_setMany : Int32) (z_t_36 : Value) (z_t_37 : Value) (t_quotientY : Int64) (t_quotientZ : Int64) (t_placeMany : Int32) (t_met : Int32) (t_length0 : Int32) (t_how : Int32) (z_t_47 : Value) (z_t_48 : Value) (z_t_49 : Value) (z_t_50 : Value) (z_t_51 : Value) (z_t_52 : Value) (z_t_53 : Value) (z_t_54 : Value) (z_t_58 : Value) (t_newMany : Int32) (t_ends : Int32) (h_t_setY : Nat) (k_t_setY : ClassId) (t_setY : Nat → Int32) (h_t_setZ : Nat) (k_t_setZ : ClassId) (t_setZ : Nat → Int32) (h_t_wayY : Nat) (k_t_wayY : ClassId) (t_wayY : Nat → Int32) (h_t_wayZ : Nat) (k_t_wayZ : ClassId) (t_wayZ : Nat → Int32) (h_t_places : Nat) (k_t_places : ClassId) (t_places : Nat → Int32) (h_t_newLong : Nat) (k_t_newLong : ClassId) (t_newLong : Nat → Int32) (h_t_newY : Nat) (k_t_newY : ClassId) (t_newY : Nat → Int32) (h_t_newZ : Nat) (k_t_newZ : ClassId) (t_newZ : Nat → Int32) (l1 : Int32) (r : Int32) (o_t_thrown : Int32) (o_t_quotientY : Int64) (o_t_quotientZ : Int64) (o_t_placeMany : Int32) (o_t_met : Int32) (o_t_length0 : Int32) (o_t_how : Int32) (o_t_newMany : Int32) (o_t_ends : Int32) (o_t_wayY : Nat → Int32) (o_t_wayZ : Nat → Int32) (o_t_places : Nat → Int32) (o_t_newLong : Nat → Int32) (o_t_newY : Nat → Int32) (o_t_newZ : Nat → Int32)  (h : f_X12_ending t_thrown t_parts t_ringP t_ringQ t_baseY t_baseZ t_setMany t_quotientY t_quotientZ t_placeMany t_met t_length0 t_how t_newMany t_ends t_setY t_setZ t_wayY t_wayZ t_places t_newLong t_newY t_newZ l1 = some (r, o_t_thrown, o_t_quotientY, o_t_quotientZ, o_t_placeMany, o_t_met, o_t_length0, o_t_how, o_t_newMany, o_t_ends, o_t_wayY, o_t_wayZ, o_t_places, o_t_newLong, o_t_newY, o_t_newZ)) (sz : Nat) : Met l yX12_ending (WD yX12_ending cX12_ending 2 (some .int)) ({ frames := 3, cells := 0, slots := 0, locals := 81 }) (va_Pc [.ref h_t, .int l1] (PcW D [(k_t_setY, .int), (k_t_setZ, .int), (k_t_wayY, .int), (k_t_wayZ, .int), (k_t_places, .int), (k_t_newLong, .int), (k_t_newY, .int), (k_t_newZ, .int)] ((h_t, .inr (12, (.int t_thrown :: z_t_1 :: z_t_2 :: z_t_3 :: z_t_4 :: z_t_5 :: z_t_6 :: z_t_7 :: z_t_8 :: z_t_9 :: z_t_10 :: z_t_11 :: z_t_12 :: z_t_13 :: z_t_14 :: z_t_15 :: z_t_16 :: z_t_17 :: z_t_18 :: z_t_19 :: z_t_20 :: z_t_21 :: z_t_22 :: z_t_23 :: z_t_24 :: z_t_25 :: z_t_26 :: .int t_parts :: .int t_ringP :: .int t_ringQ :: .int t_baseY :: .int t_baseZ :: z_t_32 :: .int t_setMany :: .ref h_t_setY :: .ref h_t_setZ :: z_t_36 :: z_t_37 :: .long t_quotientY :: .long t_quotientZ :: .ref h_t_wayY :: .ref h_t_wayZ :: .ref h_t_places :: .int t_placeMany :: .int t_met :: .int t_length0 :: .int t_how :: z_t_47 :: z_t_48 :: z_t_49 :: z_t_50 :: z_t_51 :: z_t_52 :: z_t_53 :: z_t_54 :: .ref h_t_newLong :: .ref h_t_newY :: .ref h_t_newZ :: z_t_58 :: .int t_newMany :: .int t_ends :: []))) :: (h_t_setY, .inl (k_t_setY, 25, .inl t_setY)) :: (h_t_setZ, .inl (k_t_setZ, 25, .inl t_setZ)) :: (h_t_wayY, .inl (k_t_wayY, 301, .inl t_wayY)) :: (h_t_wayZ, .inl (k_t_wayZ, 301, .inl t_wayZ)) :: (h_t_places, .inl (k_t_places, 300, .inl t_places)) :: (h_t_newLong, .inl (k_t_newLong, 450, .inl t_newLong)) :: (h_t_newY, .inl (k_t_newY, 450, .inl t_newY)) :: (h_t_newZ, .inl (k_t_newZ, 450, .inl t_newZ)) :: R) sz)) (QI D r ((h_t, .inr (12, (.int o_t_thrown :: z_t_1 :: z_t_2 :: z_t_3 :: z_t_4 :: z_t_5 :: z_t_6 :: z_t_7 :: z_t_8 :: z_t_9 :: z_t_10 :: z_t_11 :: z_t_12 :: z_t_13 :: z_t_14 :: z_t_15 :: z_t_16 :: z_t_17 :: z_t_18 :: z_t_19 :: z_t_20 :: z_t_21 :: z_t_22 :: z_t_23 :: z_t_24 :: z_t_25 :: z_t_26 :: .int t_parts :: .int t_ringP :: .int t_ringQ :: .int t_baseY :: .int t_baseZ :: z_t_32 :: .int t_setMany :: .ref h_t_setY :: .ref h_t_setZ :: z_t_36 :: z_t_37 :: .long o_t_quotientY :: .long o_t_quotientZ :: .ref h_t_wayY :: .ref h_t_wayZ :: .ref h_t_places :: .int o_t_placeMany :: .int o_t_met :: .int o_t_length0 :: .int o_t_how :: z_t_47 :: z_t_48 :: z_t_49 :: z_t_50 :: z_t_51 :: z_t_52 :: z_t_53 :: z_t_54 :: .ref h_t_newLong :: .ref h_t_newY :: .ref h_t_newZ :: z_t_58 :: .int o_t_newMany :: .int o_t_ends :: []))) :: (h_t_setY, .inl (k_t_setY, 25, .inl t_setY)) :: (h_t_setZ, .inl (k_t_setZ, 25, .inl t_setZ)) :: (h_t_wayY, .inl (k_t_wayY, 301, .inl o_t_wayY)) :: (h_t_wayZ, .inl (k_t_wayZ, 301, .inl o_t_wayZ)) :: (h_t_places, .inl (k_t_places, 300, .inl o_t_places)) :: (h_t_newLong, .inl (k_t_newLong, 450, .inl o_t_newLong)) :: (h_t_newY, .inl (k_t_newY, 450, .inl o_t_newY)) :: (h_t_newZ, .inl (k_t_newZ, 450, .inl o_t_newZ)) :: R) (va_A ((h_t, .inr (12, (.int t_thrown :: z_t_1 :: z_t_2 :: z_t_3 :: z_t_4 :: z_t_5 :: z_t_6 :: z_t_7 :: z_t_8 :: z_t_9 :: z_t_10 :: z_t_11 :: z_t_12 :: z_t_13 :: z_t_14 :: z_t_15 :: z_t_16 :: z_t_17 :: z_t_18 :: z_t_19 :: z_t_20 :: z_t_21 :: z_t_22 :: z_t_23 :: z_t_24 :: z_t_25 :: z_t_26 :: .int t_parts :: .int t_ringP :: .int t_ringQ :: .int t_baseY :: .int t_baseZ :: z_t_32 :: .int t_setMany :: .ref h_t_setY :: .ref h_t_setZ :: z_t_36 :: z_t_37 :: .long t_quotientY :: .long t_quotientZ :: .ref h_t_wayY :: .ref h_t_wayZ :: .ref h_t_places :: .int t_placeMany :: .int t_met :: .int t_length0 :: .int t_how :: z_t_47 :: z_t_48 :: z_t_49 :: z_t_50 :: z_t_51 :: z_t_52 :: z_t_53 :: z_t_54 :: .ref h_t_newLong :: .ref h_t_newY :: .ref h_t_newZ :: z_t_58 :: .int t_newMany :: .int t_ends :: []))) :: (h_t_setY, .inl (k_t_setY, 25, .inl t_setY)) :: (h_t_setZ, .inl (k_t_setZ, 25, .inl t_setZ)) :: (h_t_wayY, .inl (k_t_wayY, 301, .inl t_wayY)) :: (h_t_wayZ, .inl (k_t_wayZ, 301, .inl t_wayZ)) :: (h_t_places, .inl (k_t_places, 300, .inl t_places)) :: (h_t_newLong, .inl (k_t_newLong, 450, .inl t_newLong)) :: (h_t_newY, .inl (k_t_newY, 450, .inl t_newY)) :: (h_t_newZ, .inl (k_t_newZ, 450, .inl t_newZ)) :: R) sz)) 0 0 (va_A ((h_t, .inr (12, (.int t_thrown :: z_t_1 :: z_t_2 :: z_t_3 :: z_t_4 :: z_t_5 :: z_t_6 :: z_t_7 :: z_t_8 :: z_t_9 :: z_t_10 :: z_t_11 :: z_t_12 :: z_t_13 :: z_t_14 :: z_t_15 :: z_t_16 :: z_t_17 :: z_t_18 :: z_t_19 :: z_t_20 :: z_t_21 :: z_t_22 :: z_t_23 :: z_t_24 :: z_t_25 :: z_t_26 :: .int t_parts :: .int t_ringP :: .int t_ringQ :: .int t_baseY :: .int t_baseZ :: z_t_32 :: .int t_setMany :: .ref h_t_setY :: .ref h_t_setZ :: z_t_36 :: z_t_37 :: .long t_quotientY :: .long t_quotientZ :: .ref h_t_wayY :: .ref h_t_wayZ :: .ref h_t_places :: .int t_placeMany :: .int t_met :: .int t_length0 :: .int t_how :: z_t_47 :: z_t_48 :: z_t_49 :: z_t_50 :: z_t_51 :: z_t_52 :: z_t_53 :: z_t_54 :: .ref h_t_newLong :: .ref h_t_newY :: .ref h_t_newZ :: z_t_58 :: .int t_newMany :: .int t_ends :: []))) :: (h_t_setY, .inl (k_t_setY, 25, .inl t_setY)) :: (h_t_setZ, .inl (k_t_setZ, 25, .inl t_setZ)) :: (h_t_wayY, .inl (k_t_wayY, 301, .inl t_wayY)) :: (h_t_wayZ, .inl (k_t_wayZ, 301, .inl t_wayZ)) :: (h_t_places, .inl (k_t_places, 300, .inl t_places)) :: (h_t_newLong, .inl (k_t_newLong, 450, .inl t_newLong)) :: (h_t_newY, .inl (k_t_newY, 450, .inl t_newY)) :: (h_t_newZ, .inl (k_t_newZ, 450, .inl t_newZ)) :: R) sz) := by
  refine ct_start (QF := fun A => QI D r ((h_t, .inr (12, (.int o_t_thrown :: z_t_1 :: z_t_2 :: z_t_3 :: z_t_4 :: z_t_5 :: z_t_6 :: z_t_7 :: z_t_8 :: z_t_9 :: z_t_10 :: z_t_11 :: z_t_12 :: z_t_13 :: z_t_14 :: z_t_15 :: z_t_16 :: z_t_17 :: z_t_18 :: z_t_19 :: z_t_20 :: z_t_21 :: z_t_22 :: z_t_23 :: z_t_24 :: z_t_25 :: z_t_26 :: .int t_parts :: .int t_ringP :: .int t_ringQ :: .int t_baseY :: .int t_baseZ :: z_t_32 :: .int t_setMany :: .ref h_t_setY :: .ref h_t_setZ :: z_t_36 :: z_t_37 :: .long o_t_quotientY :: .long o_t_quotientZ :: .ref h_t_wayY :: .ref h_t_wayZ :: .ref h_t_places :: .int o_t_placeMany :: .int o_t_met :: .int o_t_length0 :: .int o_t_how :: z_t_47 :: z_t_48 :: z_t_49 :: z_t_50 :: z_t_51 :: z_t_52 :: z_t_53 :: z_t_54 :: .ref h_t_newLong :: .ref h_t_newY :: .ref h_t_newZ :: z_t_58 :: .int o_t_newMany :: .int o_t_ends :: []))) :: (h_t_setY, .inl (k_t_setY, 25, .inl t_setY)) :: (h_t_setZ, .inl (k_t_setZ, 25, .inl t_setZ)) :: (h_t_wayY, .inl (k_t_wayY, 301, .inl o_t_wayY)) :: (h_t_wayZ, .inl (k_t_wayZ, 301, .inl o_t_wayZ)) :: (h_t_places, .inl (k_t_places, 300, .inl o_t_places)) :: (h_t_newLong, .inl (k_t_newLong, 450, .inl o_t_newLong)) :: (h_t_newY, .inl (k_t_newY, 450, .inl o_t_newY)) :: (h_t_newZ, .inl (k_t_newZ, 450, .inl o_t_newZ)) :: R) A) ?_ ?_ ?_
  · decide +kernel
  · exact Nat.le_of_ble_eq_true rfl
  intro p e s m args below meth c A ls S hr hlk hnm hS hA hP hD hK hN hl
  have S : CallFix p m c cX12_ending 2 s args AL "DigitBenchModel" := S
  have hx := S.1
  have hb := S.2.1
  have hown := S.2.2.2.1
  have ha := S.2.2.2.2
  have hl : lv_has ls 2 [(0, .ref h_t), (1, .int l1)] := hl
  unfold f_X12_ending at h
  refine lv_aload_n hx hb dX12_ending_0 rfl (lv_at hl 0 rfl) ?_
  refine lv_iconst (v := 0) hx hb dX12_ending_1 (by decide) ?_
  refine va_put (D := D) (ci := 12) (v := .int 0) (ty := .int) (C := RX12) (T := TX12) (N := 61) hx hb ha ix12 tyX12 tyX12_ok nmX12 hown hK hP hD hS 0 rfl rfl 0 (by decide) (ha _ q960) (fun _ h9 => h9) rfl (by decide +kernel) rfl rfl (Nat.le_of_ble_eq_true rfl) dX12_ending_2 (fun H locs hP hD hS => ?_)
  have hP : va_P D vwCl ((h_t, .inr (12, (.int 0 :: z_t_1 :: z_t_2 :: z_t_3 :: z_t_4 :: z_t_5 :: z_t_6 :: z_t_7 :: z_t_8 :: z_t_9 :: z_t_10 :: z_t_11 :: z_t_12 :: z_t_13 :: z_t_14 :: z_t_15 :: z_t_16 :: z_t_17 :: z_t_18 :: z_t_19 :: z_t_20 :: z_t_21 :: z_t_22 :: z_t_23 :: z_t_24 :: z_t_25 :: z_t_26 :: .int t_parts :: .int t_ringP :: .int t_ringQ :: .int t_baseY :: .int t_baseZ :: z_t_32 :: .int t_setMany :: .ref h_t_setY :: .ref h_t_setZ :: z_t_36 :: z_t_37 :: .long t_quotientY :: .long t_quotientZ :: .ref h_t_wayY :: .ref h_t_wayZ :: .ref h_t_places :: .int t_placeMany :: .int t_met :: .int t_length0 :: .int t_how :: z_t_47 :: z_t_48 :: z_t_49 :: z_t_50 :: z_t_51 :: z_t_52 :: z_t_53 :: z_t_54 :: .ref h_t_newLong :: .ref h_t_newY :: .ref h_t_newZ :: z_t_58 :: .int t_newMany :: .int t_ends :: []))) :: (h_t_setY, .inl (k_t_setY, 25, .inl t_setY)) :: (h_t_setZ, .inl (k_t_setZ, 25, .inl t_setZ)) :: (h_t_wayY, .inl (k_t_wayY, 301, .inl t_wayY)) :: (h_t_wayZ, .inl (k_t_wayZ, 301, .inl t_wayZ)) :: (h_t_places, .inl (k_t_places, 300, .inl t_places)) :: (h_t_newLong, .inl (k_t_newLong, 450, .inl t_newLong)) :: (h_t_newY, .inl (k_t_newY, 450, .inl t_newY)) :: (h_t_newZ, .inl (k_t_newZ, 450, .inl t_newZ)) :: R) H := hP
  have hD : va_D A ((h_t, .inr (12, (.int 0 :: z_t_1 :: z_t_2 :: z_t_3 :: z_t_4 :: z_t_5 :: z_t_6 :: z_t_7 :: z_t_8 :: z_t_9 :: z_t_10 :: z_t_11 :: z_t_12 :: z_t_13 :: z_t_14 :: z_t_15 :: z_t_16 :: z_t_17 :: z_t_18 :: z_t_19 :: z_t_20 :: z_t_21 :: z_t_22 :: z_t_23 :: z_t_24 :: z_t_25 :: z_t_26 :: .int t_parts :: .int t_ringP :: .int t_ringQ :: .int t_baseY :: .int t_baseZ :: z_t_32 :: .int t_setMany :: .ref h_t_setY :: .ref h_t_setZ :: z_t_36 :: z_t_37 :: .long t_quotientY :: .long t_quotientZ :: .ref h_t_wayY :: .ref h_t_wayZ :: .ref h_t_places :: .int t_placeMany :: .int t_met :: .int t_length0 :: .int t_how :: z_t_47 :: z_t_48 :: z_t_49 :: z_t_50 :: z_t_51 :: z_t_52 :: z_t_53 :: z_t_54 :: .ref h_t_newLong :: .ref h_t_newY :: .ref h_t_newZ :: z_t_58 :: .int t_newMany :: .int t_ends :: []))) :: (h_t_setY, .inl (k_t_setY, 25, .inl t_setY)) :: (h_t_setZ, .inl (k_t_setZ, 25, .inl t_setZ)) :: (h_t_wayY, .inl (k_t_wayY, 301, .inl t_wayY)) :: (h_t_wayZ, .inl (k_t_wayZ, 301, .inl t_wayZ)) :: (h_t_places, .inl (k_t_places, 300, .inl t_places)) :: (h_t_newLong, .inl (k_t_newLong, 450, .inl t_newLong)) :: (h_t_newY, .inl (k_t_newY, 450, .inl t_newY)) :: (h_t_newZ, .inl (k_t_newZ, 450, .inl t_newZ)) :: R) := hD
  refine lv_aload_n hx hb dX12_ending_5 rfl (lv_at hl 0 rfl) ?_
  refine lv_iload_n hx hb dX12_ending_6 rfl (lv_at hl 1 rfl) ?_
  obtain ⟨r_c7_0, t_quotientY_c7_0, t_quotientZ_c7_0, t_placeMany_c7_0, t_met_c7_0, t_length0_c7_0, t_how_c7_0, t_newMany_c7_0, t_ends_c7_0, t_wayY_c7_0, t_wayZ_c7_0, t_places_c7_0, t_newLong_c7_0, t_newY_c7_0, t_newZ_c7_0, e_c7_0, h⟩ := bnd15_ok h
  refine cl_z (rn_v (ci := 12) (As := [.int l1]) (rest := []) S (c_X12_all l D (R) h_t (.int 0) (z_t_1) (z_t_2) (z_t_3) (z_t_4) (z_t_5) (z_t_6) (z_t_7) (z_t_8) (z_t_9) (z_t_10) (z_t_11) (z_t_12) (z_t_13) (z_t_14) (z_t_15) (z_t_16) (z_t_17) (z_t_18) (z_t_19) (z_t_20) (z_t_21) (z_t_22) (z_t_23) (z_t_24) (z_t_25) (z_t_26) t_parts t_ringP t_ringQ t_baseY t_baseZ (z_t_32) t_setMany (z_t_36) (z_t_37) t_quotientY t_quotientZ t_placeMany t_met t_length0 t_how (z_t_47) (z_t_48) (z_t_49) (z_t_50) (z_t_51) (z_t_52) (z_t_53) (z_t_54) (z_t_58) t_newMany t_ends h_t_setY k_t_setY t_setY h_t_setZ k_t_setZ t_setZ h_t_wayY k_t_wayY t_wayY h_t_wayZ k_t_wayZ t_wayZ h_t_places k_t_places t_places h_t_newLong k_t_newLong t_newLong h_t_newY k_t_newY t_newY h_t_newZ k_t_newZ t_newZ l1 r_c7_0 t_quotientY_c7_0 t_quotientZ_c7_0 t_placeMany_c7_0 t_met_c7_0 t_length0_c7_0 t_how_c7_0 t_newMany_c7_0 t_ends_c7_0 t_wayY_c7_0 t_wayZ_c7_0 t_places_c7_0 t_newLong_c7_0 t_newY_c7_0 t_newZ_c7_0 e_c7_0 _) q1337 q1339 q45 q61 q1340 nd_X12_all ⟨Nat.le_of_ble_eq_true rfl, Nat.le_of_ble_eq_true rfl⟩ rfl rfl hP hD (hK.sub (tys' := [(k_t_setY, .int), (k_t_setZ, .int), (k_t_wayY, .int), (k_t_wayZ, .int), (k_t_places, .int), (k_t_newLong, .int), (k_t_newY, .int), (k_t_newZ, .int)]) [0, 1, 2, 3, 4, 5, 6, 7] rfl) hN rfl ⟨0, _, rfl⟩ rfl hl.1 rfl (Nat.le_of_ble_eq_true rfl) dX12_ending_7 ⟨Nat.le_of_ble_eq_true rfl, Nat.le_of_ble_eq_true rfl⟩) hS hA hD (fun H locs hP hD hS z_c7_0 => ?_)
  have hP : va_P D vwCl ((h_t, .inr (12, (.int 0 :: z_t_1 :: z_t_2 :: z_t_3 :: z_t_4 :: z_t_5 :: z_t_6 :: z_t_7 :: z_t_8 :: z_t_9 :: z_t_10 :: z_t_11 :: z_t_12 :: z_t_13 :: z_t_14 :: z_t_15 :: z_t_16 :: z_t_17 :: z_t_18 :: z_t_19 :: z_t_20 :: z_t_21 :: z_t_22 :: z_t_23 :: z_t_24 :: z_t_25 :: z_t_26 :: .int t_parts :: .int t_ringP :: .int t_ringQ :: .int t_baseY :: .int t_baseZ :: z_t_32 :: .int t_setMany :: .ref h_t_setY :: .ref h_t_setZ :: z_t_36 :: z_t_37 :: .long t_quotientY_c7_0 :: .long t_quotientZ_c7_0 :: .ref h_t_wayY :: .ref h_t_wayZ :: .ref h_t_places :: .int t_placeMany_c7_0 :: .int t_met_c7_0 :: .int t_length0_c7_0 :: .int t_how_c7_0 :: z_t_47 :: z_t_48 :: z_t_49 :: z_t_50 :: z_t_51 :: z_t_52 :: z_t_53 :: z_t_54 :: .ref h_t_newLong :: .ref h_t_newY :: .ref h_t_newZ :: z_t_58 :: .int t_newMany_c7_0 :: .int t_ends_c7_0 :: []))) :: (h_t_setY, .inl (k_t_setY, 25, .inl t_setY)) :: (h_t_setZ, .inl (k_t_setZ, 25, .inl t_setZ)) :: (h_t_wayY, .inl (k_t_wayY, 301, .inl t_wayY_c7_0)) :: (h_t_wayZ, .inl (k_t_wayZ, 301, .inl t_wayZ_c7_0)) :: (h_t_places, .inl (k_t_places, 300, .inl t_places_c7_0)) :: (h_t_newLong, .inl (k_t_newLong, 450, .inl t_newLong_c7_0)) :: (h_t_newY, .inl (k_t_newY, 450, .inl t_newY_c7_0)) :: (h_t_newZ, .inl (k_t_newZ, 450, .inl t_newZ_c7_0)) :: R) H := hP
  have hD : va_D A ((h_t, .inr (12, (.int 0 :: z_t_1 :: z_t_2 :: z_t_3 :: z_t_4 :: z_t_5 :: z_t_6 :: z_t_7 :: z_t_8 :: z_t_9 :: z_t_10 :: z_t_11 :: z_t_12 :: z_t_13 :: z_t_14 :: z_t_15 :: z_t_16 :: z_t_17 :: z_t_18 :: z_t_19 :: z_t_20 :: z_t_21 :: z_t_22 :: z_t_23 :: z_t_24 :: z_t_25 :: z_t_26 :: .int t_parts :: .int t_ringP :: .int t_ringQ :: .int t_baseY :: .int t_baseZ :: z_t_32 :: .int t_setMany :: .ref h_t_setY :: .ref h_t_setZ :: z_t_36 :: z_t_37 :: .long t_quotientY_c7_0 :: .long t_quotientZ_c7_0 :: .ref h_t_wayY :: .ref h_t_wayZ :: .ref h_t_places :: .int t_placeMany_c7_0 :: .int t_met_c7_0 :: .int t_length0_c7_0 :: .int t_how_c7_0 :: z_t_47 :: z_t_48 :: z_t_49 :: z_t_50 :: z_t_51 :: z_t_52 :: z_t_53 :: z_t_54 :: .ref h_t_newLong :: .ref h_t_newY :: .ref h_t_newZ :: z_t_58 :: .int t_newMany_c7_0 :: .int t_ends_c7_0 :: []))) :: (h_t_setY, .inl (k_t_setY, 25, .inl t_setY)) :: (h_t_setZ, .inl (k_t_setZ, 25, .inl t_setZ)) :: (h_t_wayY, .inl (k_t_wayY, 301, .inl t_wayY_c7_0)) :: (h_t_wayZ, .inl (k_t_wayZ, 301, .inl t_wayZ_c7_0)) :: (h_t_places, .inl (k_t_places, 300, .inl t_places_c7_0)) :: (h_t_newLong, .inl (k_t_newLong, 450, .inl t_newLong_c7_0)) :: (h_t_newY, .inl (k_t_newY, 450, .inl t_newY_c7_0)) :: (h_t_newZ, .inl (k_t_newZ, 450, .inl t_newZ_c7_0)) :: R) := hD
  refine lv_if_eq (tgt := 20) hx hb dX12_ending_10 (by decide) (fun c2 => ?_) (fun c2 => ?_)
  · have h := br_pos c2 h
    refine lv_iconst (v := (-1)) hx hb dX12_ending_20 (by decide) ?_
    cases h
    exact rt_i S hr hlk hP hD hS dX12_ending_21
  · have h := br_neg c2 h
    refine lv_aload_n hx hb dX12_ending_13 rfl (lv_at hl 0 rfl) ?_
    refine va_get (D := D) (ci := 12) (v := .int t_ends_c7_0) (C := RX12) (T := TX12) (N := 61) hx hb ha ix12 hown hK hP 0 rfl rfl 60 (by decide) (ha _ q1020) (fun _ h9 => h9) rfl dX12_ending_14 ?_
    refine lv_goto (tgt := 21) hx hb dX12_ending_17 (by decide) ?_
    cases h
    exact rt_i S hr hlk hP hD hS dX12_ending_21
noncomputable def f_X12_count_L87 (t_has : Nat → Int32) : Nat → Int32 → Int32 →  Option (Int32)
  | 0, _, _ => none
  | n + 1, l2, l3 => (
    if 10 ≤ l3 then (
     some l2
    ) else (
     gd (ixb l3 10) (
      if (t_has l3.toNatClampNeg) = 0 then (
       f_X12_count_L87 t_has n (l2 + 0) (l3 + 1)
      ) else (
       f_X12_count_L87 t_has n (l2 + 1) (l3 + 1)
      )
     )
    ))
noncomputable def f_X12_count (t_thrown : Int32) (t_length : Int32) (t_a : Int32) (t_b : Int32) (t_parts : Int32) (t_norm : Int32) (t_setMany : Int32) (t_has : Nat → Int32) (l1 : Int32) : Option (Int32 × Int32) :=
  if l1 = 0 then (
   some (t_a, 0)
  ) else (
   if l1 = 1 then (
    some (t_b, 0)
   ) else (
    if l1 = 2 then (
     if t_b ≤ 0 then (
      some ((t_a - 1), 0)
     ) else (
      some (t_a, 0)
     )
    ) else (
     if l1 = 3 then (
      bnd1 (f_X12_count_L87 t_has FU 0 0) fun x2_L87_8 => (
       some (x2_L87_8, 0)
      )
     ) else (
      if l1 = 4 then (
       some (t_length, 0)
      ) else (
       if l1 = 5 then (
        some (t_norm, 0)
       ) else (
        if l1 = 6 then (
         some (t_setMany, 0)
        ) else (
         if l1 = 7 then (
          some (t_parts, 0)
         ) else (
          some ((-1), 0)
         )
        )
       )
      )
     )
    )
   )
  )
set_option maxHeartbeats 4000000 in
set_option maxRecDepth 100000 in
theorem c_X12_count (l : Launch) (D : va_G) (R : va_W) (h_t : Nat) (t_thrown : Int32) (z_t_1 : Value) (t_length : Int32) (t_a : Int32) (t_b : Int32) (z_t_5 : Value) (z_t_7 : Value) (z_t_8 : Value) (z_t_9 : Value) (z_t_10 : Value) (z_t_11 : Value) (z_t_12 : Value) (z_t_13 : Value) (z_t_14 : Value) (z_t_15 : Value) (z_t_16 : Value) (z_t_17 : Value) (z_t_18 : Value) (z_t_19 : Value) (z_t_20 : Value) (z_t_21 : Value) (z_t_22 : Value) (z_t_23 : Value) (z_t_24 : Value) (z_t_25 : Value) (z_t_26 : Value) (t_parts : Int32) (z_t_28 : Value) (z_t_29 : Value) (z_t_30 : Value) (z_t_31 : Value) (t_norm : Int32) (t_setMany : Int32) (z_t_34 : Value) (z_t_35 : Value) (z_t_36 : Value) (z_t_37 : Value) (z_t_38 : Value) (z_t_39 : Value) (z_t_40 : Value) (z_t_41 : Value) (z_t_42 : Value) (z_t_43 : Value) (z_t_44 : Value) (z_t_45 : Value) (z_t_46 : Value) (z_t_47 : Value) (z_t_48 : Value) (z_t_49 : Value) (z_t_50 : Value) (z_t_51 : Value) (z_t_52 : Value) (z_t_53 : Value) (z_t_54 : Value) (z_t_55 : Value) (z_t_56 : Value) (z_t_57 : Value) (z_t_58 : Value) (z_t_59 : Value) (z_t_60 : Value) (h_t_has : Nat) (k_t_has : ClassId) (t_has : Nat → Int32) (l1 : Int32) (r : Int32) (o_t_thrown : Int32)  (h : f_X12_count t_thrown t_length t_a t_b t_parts t_norm t_setMany t_has l1 = some (r, o_t_thrown)) (sz : Nat) : Met l yX12_count (WD yX12_count cX12_count 4 (some .int)) ({ frames := 0, cells := 0, slots := 0, locals := 0 }) (va_Pc [.ref h_t, .int l1] (PcW D [(k_t_has, .boolean)] ((h_t, .inr (12, (.int t_thrown :: z_t_1 :: .int t_length :: .int t_a :: .int t_b :: z_t_5 :: .ref h_t_has :: z_t_7 :: z_t_8 :: z_t_9 :: z_t_10 :: z_t_11 :: z_t_12 :: z_t_13 :: z_t_14 :: z_t_15 :: z_t_16 :: z_t_17 :: z_t_18 :: z_t_19 :: z_t_20 :: z_t_21 :: z_t_22 :: z_t_23 :: z_t_24 :: z_t_25 :: z_t_26 :: .int t_parts :: z_t_28 :: z_t_29 :: z_t_30 :: z_t_31 :: .int t_norm :: .int t_setMany :: z_t_34 :: z_t_35 :: z_t_36 :: z_t_37 :: z_t_38 :: z_t_39 :: z_t_40 :: z_t_41 :: z_t_42 :: z_t_43 :: z_t_44 :: z_t_45 :: z_t_46 :: z_t_47 :: z_t_48 :: z_t_49 :: z_t_50 :: z_t_51 :: z_t_52 :: z_t_53 :: z_t_54 :: z_t_55 :: z_t_56 :: z_t_57 :: z_t_58 :: z_t_59 :: z_t_60 :: []))) :: (h_t_has, .inl (k_t_has, 10, .inl t_has)) :: R) sz)) (QI D r ((h_t, .inr (12, (.int o_t_thrown :: z_t_1 :: .int t_length :: .int t_a :: .int t_b :: z_t_5 :: .ref h_t_has :: z_t_7 :: z_t_8 :: z_t_9 :: z_t_10 :: z_t_11 :: z_t_12 :: z_t_13 :: z_t_14 :: z_t_15 :: z_t_16 :: z_t_17 :: z_t_18 :: z_t_19 :: z_t_20 :: z_t_21 :: z_t_22 :: z_t_23 :: z_t_24 :: z_t_25 :: z_t_26 :: .int t_parts :: z_t_28 :: z_t_29 :: z_t_30 :: z_t_31 :: .int t_norm :: .int t_setMany :: z_t_34 :: z_t_35 :: z_t_36 :: z_t_37 :: z_t_38 :: z_t_39 :: z_t_40 :: z_t_41 :: z_t_42 :: z_t_43 :: z_t_44 :: z_t_45 :: z_t_46 :: z_t_47 :: z_t_48 :: z_t_49 :: z_t_50 :: z_t_51 :: z_t_52 :: z_t_53 :: z_t_54 :: z_t_55 :: z_t_56 :: z_t_57 :: z_t_58 :: z_t_59 :: z_t_60 :: []))) :: (h_t_has, .inl (k_t_has, 10, .inl t_has)) :: R) (va_A ((h_t, .inr (12, (.int t_thrown :: z_t_1 :: .int t_length :: .int t_a :: .int t_b :: z_t_5 :: .ref h_t_has :: z_t_7 :: z_t_8 :: z_t_9 :: z_t_10 :: z_t_11 :: z_t_12 :: z_t_13 :: z_t_14 :: z_t_15 :: z_t_16 :: z_t_17 :: z_t_18 :: z_t_19 :: z_t_20 :: z_t_21 :: z_t_22 :: z_t_23 :: z_t_24 :: z_t_25 :: z_t_26 :: .int t_parts :: z_t_28 :: z_t_29 :: z_t_30 :: z_t_31 :: .int t_norm :: .int t_setMany :: z_t_34 :: z_t_35 :: z_t_36 :: z_t_37 :: z_t_38 :: z_t_39 :: z_t_40 :: z_t_41 :: z_t_42 :: z_t_43 :: z_t_44 :: z_t_45 :: z_t_46 :: z_t_47 :: z_t_48 :: z_t_49 :: z_t_50 :: z_t_51 :: z_t_52 :: z_t_53 :: z_t_54 :: z_t_55 :: z_t_56 :: z_t_57 :: z_t_58 :: z_t_59 :: z_t_60 :: []))) :: (h_t_has, .inl (k_t_has, 10, .inl t_has)) :: R) sz)) 0 0 (va_A ((h_t, .inr (12, (.int t_thrown :: z_t_1 :: .int t_length :: .int t_a :: .int t_b :: z_t_5 :: .ref h_t_has :: z_t_7 :: z_t_8 :: z_t_9 :: z_t_10 :: z_t_11 :: z_t_12 :: z_t_13 :: z_t_14 :: z_t_15 :: z_t_16 :: z_t_17 :: z_t_18 :: z_t_19 :: z_t_20 :: z_t_21 :: z_t_22 :: z_t_23 :: z_t_24 :: z_t_25 :: z_t_26 :: .int t_parts :: z_t_28 :: z_t_29 :: z_t_30 :: z_t_31 :: .int t_norm :: .int t_setMany :: z_t_34 :: z_t_35 :: z_t_36 :: z_t_37 :: z_t_38 :: z_t_39 :: z_t_40 :: z_t_41 :: z_t_42 :: z_t_43 :: z_t_44 :: z_t_45 :: z_t_46 :: z_t_47 :: z_t_48 :: z_t_49 :: z_t_50 :: z_t_51 :: z_t_52 :: z_t_53 :: z_t_54 :: z_t_55 :: z_t_56 :: z_t_57 :: z_t_58 :: z_t_59 :: z_t_60 :: []))) :: (h_t_has, .inl (k_t_has, 10, .inl t_has)) :: R) sz) := by
  refine ct_start (QF := fun A => QI D r ((h_t, .inr (12, (.int o_t_thrown :: z_t_1 :: .int t_length :: .int t_a :: .int t_b :: z_t_5 :: .ref h_t_has :: z_t_7 :: z_t_8 :: z_t_9 :: z_t_10 :: z_t_11 :: z_t_12 :: z_t_13 :: z_t_14 :: z_t_15 :: z_t_16 :: z_t_17 :: z_t_18 :: z_t_19 :: z_t_20 :: z_t_21 :: z_t_22 :: z_t_23 :: z_t_24 :: z_t_25 :: z_t_26 :: .int t_parts :: z_t_28 :: z_t_29 :: z_t_30 :: z_t_31 :: .int t_norm :: .int t_setMany :: z_t_34 :: z_t_35 :: z_t_36 :: z_t_37 :: z_t_38 :: z_t_39 :: z_t_40 :: z_t_41 :: z_t_42 :: z_t_43 :: z_t_44 :: z_t_45 :: z_t_46 :: z_t_47 :: z_t_48 :: z_t_49 :: z_t_50 :: z_t_51 :: z_t_52 :: z_t_53 :: z_t_54 :: z_t_55 :: z_t_56 :: z_t_57 :: z_t_58 :: z_t_59 :: z_t_60 :: []))) :: (h_t_has, .inl (k_t_has, 10, .inl t_has)) :: R) A) ?_ ?_ ?_
  · decide +kernel
  · exact Nat.le_of_ble_eq_true rfl
  intro p e s m args below meth c A ls S hr hlk hnm hS hA hP hD hK hN hl
  have S : CallFix p m c cX12_count 4 s args AL "DigitBenchModel" := S
  have hx := S.1
  have hb := S.2.1
  have hown := S.2.2.2.1
  have ha := S.2.2.2.2
  have hl : lv_has ls 4 [(0, .ref h_t), (1, .int l1)] := hl
  have L87 : ∀ (Q : State → Prop) (n : Nat) (l2 : Int32) (l3 : Int32) (t_thrown : Int32) (x2 : Int32), f_X12_count_L87 t_has n l2 l3 = some x2 → ∀ (H : Heap) (locs : List Loc) (ls : Array Slot), va_P D vwCl ((h_t, .inr (12, (.int t_thrown :: z_t_1 :: .int t_length :: .int t_a :: .int t_b :: z_t_5 :: .ref h_t_has :: z_t_7 :: z_t_8 :: z_t_9 :: z_t_10 :: z_t_11 :: z_t_12 :: z_t_13 :: z_t_14 :: z_t_15 :: z_t_16 :: z_t_17 :: z_t_18 :: z_t_19 :: z_t_20 :: z_t_21 :: z_t_22 :: z_t_23 :: z_t_24 :: z_t_25 :: z_t_26 :: .int t_parts :: z_t_28 :: z_t_29 :: z_t_30 :: z_t_31 :: .int t_norm :: .int t_setMany :: z_t_34 :: z_t_35 :: z_t_36 :: z_t_37 :: z_t_38 :: z_t_39 :: z_t_40 :: z_t_41 :: z_t_42 :: z_t_43 :: z_t_44 :: z_t_45 :: z_t_46 :: z_t_47 :: z_t_48 :: z_t_49 :: z_t_50 :: z_t_51 :: z_t_52 :: z_t_53 :: z_t_54 :: z_t_55 :: z_t_56 :: z_t_57 :: z_t_58 :: z_t_59 :: z_t_60 :: []))) :: (h_t_has, .inl (k_t_has, 10, .inl t_has)) :: R) H → va_D A ((h_t, .inr (12, (.int t_thrown :: z_t_1 :: .int t_length :: .int t_a :: .int t_b :: z_t_5 :: .ref h_t_has :: z_t_7 :: z_t_8 :: z_t_9 :: z_t_10 :: z_t_11 :: z_t_12 :: z_t_13 :: z_t_14 :: z_t_15 :: z_t_16 :: z_t_17 :: z_t_18 :: z_t_19 :: z_t_20 :: z_t_21 :: z_t_22 :: z_t_23 :: z_t_24 :: z_t_25 :: z_t_26 :: .int t_parts :: z_t_28 :: z_t_29 :: z_t_30 :: z_t_31 :: .int t_norm :: .int t_setMany :: z_t_34 :: z_t_35 :: z_t_36 :: z_t_37 :: z_t_38 :: z_t_39 :: z_t_40 :: z_t_41 :: z_t_42 :: z_t_43 :: z_t_44 :: z_t_45 :: z_t_46 :: z_t_47 :: z_t_48 :: z_t_49 :: z_t_50 :: z_t_51 :: z_t_52 :: z_t_53 :: z_t_54 :: z_t_55 :: z_t_56 :: z_t_57 :: z_t_58 :: z_t_59 :: z_t_60 :: []))) :: (h_t_has, .inl (k_t_has, 10, .inl t_has)) :: R) → va_S A s.heap H locs → lv_has ls 4 [(0, .ref h_t), (2, .int l2), (3, .int l3)] → (∀ (H : Heap) (locs : List Loc) (ls : Array Slot), va_P D vwCl ((h_t, .inr (12, (.int t_thrown :: z_t_1 :: .int t_length :: .int t_a :: .int t_b :: z_t_5 :: .ref h_t_has :: z_t_7 :: z_t_8 :: z_t_9 :: z_t_10 :: z_t_11 :: z_t_12 :: z_t_13 :: z_t_14 :: z_t_15 :: z_t_16 :: z_t_17 :: z_t_18 :: z_t_19 :: z_t_20 :: z_t_21 :: z_t_22 :: z_t_23 :: z_t_24 :: z_t_25 :: z_t_26 :: .int t_parts :: z_t_28 :: z_t_29 :: z_t_30 :: z_t_31 :: .int t_norm :: .int t_setMany :: z_t_34 :: z_t_35 :: z_t_36 :: z_t_37 :: z_t_38 :: z_t_39 :: z_t_40 :: z_t_41 :: z_t_42 :: z_t_43 :: z_t_44 :: z_t_45 :: z_t_46 :: z_t_47 :: z_t_48 :: z_t_49 :: z_t_50 :: z_t_51 :: z_t_52 :: z_t_53 :: z_t_54 :: z_t_55 :: z_t_56 :: z_t_57 :: z_t_58 :: z_t_59 :: z_t_60 :: []))) :: (h_t_has, .inl (k_t_has, 10, .inl t_has)) :: R) H → va_D A ((h_t, .inr (12, (.int t_thrown :: z_t_1 :: .int t_length :: .int t_a :: .int t_b :: z_t_5 :: .ref h_t_has :: z_t_7 :: z_t_8 :: z_t_9 :: z_t_10 :: z_t_11 :: z_t_12 :: z_t_13 :: z_t_14 :: z_t_15 :: z_t_16 :: z_t_17 :: z_t_18 :: z_t_19 :: z_t_20 :: z_t_21 :: z_t_22 :: z_t_23 :: z_t_24 :: z_t_25 :: z_t_26 :: .int t_parts :: z_t_28 :: z_t_29 :: z_t_30 :: z_t_31 :: .int t_norm :: .int t_setMany :: z_t_34 :: z_t_35 :: z_t_36 :: z_t_37 :: z_t_38 :: z_t_39 :: z_t_40 :: z_t_41 :: z_t_42 :: z_t_43 :: z_t_44 :: z_t_45 :: z_t_46 :: z_t_47 :: z_t_48 :: z_t_49 :: z_t_50 :: z_t_51 :: z_t_52 :: z_t_53 :: z_t_54 :: z_t_55 :: z_t_56 :: z_t_57 :: z_t_58 :: z_t_59 :: z_t_60 :: []))) :: (h_t_has, .inl (k_t_has, 10, .inl t_has)) :: R) → va_S A s.heap H locs → lv_has ls 4 [(2, .int x2)] → W p l e { frames := 0, cells := 0, slots := 0, locals := 0 } s m args below meth c H locs 0 0 Q (F0 m 116 ls [])) → W p l e { frames := 0, cells := 0, slots := 0, locals := 0 } s m args below meth c H locs 0 0 Q (F0 m 87 ls []) := by
    intro Q n
    induction n with
    | zero =>
      intro l2 l3 t_thrown x2 h
      rw [f_X12_count_L87] at h; cases h
    | succ n ih =>
      intro l2 l3 t_thrown x2 h H locs ls hP hD hS hl kk0
      rw [f_X12_count_L87] at h
      refine lv_iload_n hx hb dX12_count_87 rfl (lv_at hl 2 rfl) ?_
      refine lv_bipush (v := 10) hx hb dX12_count_88 (by decide) ?_
      refine lv_icmp_ge (tgt := 116) hx hb dX12_count_90 (by decide) (fun c6 => ?_) (fun c6 => ?_)
      · have h := br_pos c6 h
        cases h
        exact kk0 _ _ _ hP hD hS (lv_sub hl [1] rfl)
      · have h := br_neg c6 h
        refine lv_iload_n hx hb dX12_count_93 rfl (lv_at hl 1 rfl) ?_
        refine lv_aload_n hx hb dX12_count_94 rfl (lv_at hl 0 rfl) ?_
        refine va_get (D := D) (ci := 12) (v := .ref h_t_has) (C := RX12) (T := TX12) (N := 61) hx hb ha ix12 hown hK hP 0 rfl rfl 6 (by decide) (ha _ q966) (fun _ h9 => h9) rfl dX12_count_95 ?_
        refine lv_iload_n hx hb dX12_count_98 rfl (lv_at hl 2 rfl) ?_
        obtain ⟨i7, h⟩ := ix_ok h
        refine va_zald hx hb hK hP 1 0 rfl rfl i7 dX12_count_99 ?_
        refine lv_if_eq (tgt := 107) hx hb dX12_count_100 (by decide) (fun c8 => ?_) (fun c8 => ?_)
        · have h := br_pos c8 h
          refine lv_iconst (v := 0) hx hb dX12_count_107 (by decide) ?_
          refine lv_iadd hx hb dX12_count_108 ?_
          refine lv_istore_n (lv' := [(2, .int (l2 + 0)), (0, .ref h_t), (3, .int l3)]) hx hb dX12_count_109 rfl hl (by decide) rfl (fun ls hl => ?_)
          refine lv_iinc (v := (l3 + 1)) (lv' := [(3, .int (l3 + 1)), (2, .int (l2 + 0)), (0, .ref h_t)]) hx hb dX12_count_110 hl (k := 2) rfl rfl (by decide) rfl (fun ls hl => ?_)
          refine lv_goto (tgt := 87) hx hb dX12_count_113 (by decide) ?_
          exact ih (l2 + 0) (l3 + 1) t_thrown _ h _ _ _ hP hD hS (lv_sub hl [2, 1, 0] rfl) kk0
        · have h := br_neg c8 h
          refine lv_iconst (v := 1) hx hb dX12_count_103 (by decide) ?_
          refine lv_goto (tgt := 108) hx hb dX12_count_104 (by decide) ?_
          refine lv_iadd hx hb dX12_count_108 ?_
          refine lv_istore_n (lv' := [(2, .int (l2 + 1)), (0, .ref h_t), (3, .int l3)]) hx hb dX12_count_109 rfl hl (by decide) rfl (fun ls hl => ?_)
          refine lv_iinc (v := (l3 + 1)) (lv' := [(3, .int (l3 + 1)), (2, .int (l2 + 1)), (0, .ref h_t)]) hx hb dX12_count_110 hl (k := 2) rfl rfl (by decide) rfl (fun ls hl => ?_)
          refine lv_goto (tgt := 87) hx hb dX12_count_113 (by decide) ?_
          exact ih (l2 + 1) (l3 + 1) t_thrown _ h _ _ _ hP hD hS (lv_sub hl [2, 1, 0] rfl) kk0
  unfold f_X12_count at h
  refine lv_aload_n hx hb dX12_count_0 rfl (lv_at hl 0 rfl) ?_
  refine lv_iconst (v := 0) hx hb dX12_count_1 (by decide) ?_
  refine va_put (D := D) (ci := 12) (v := .int 0) (ty := .int) (C := RX12) (T := TX12) (N := 61) hx hb ha ix12 tyX12 tyX12_ok nmX12 hown hK hP hD hS 0 rfl rfl 0 (by decide) (ha _ q960) (fun _ h9 => h9) rfl (by decide +kernel) rfl rfl (Nat.le_of_ble_eq_true rfl) dX12_count_2 (fun H locs hP hD hS => ?_)
  have hP : va_P D vwCl ((h_t, .inr (12, (.int 0 :: z_t_1 :: .int t_length :: .int t_a :: .int t_b :: z_t_5 :: .ref h_t_has :: z_t_7 :: z_t_8 :: z_t_9 :: z_t_10 :: z_t_11 :: z_t_12 :: z_t_13 :: z_t_14 :: z_t_15 :: z_t_16 :: z_t_17 :: z_t_18 :: z_t_19 :: z_t_20 :: z_t_21 :: z_t_22 :: z_t_23 :: z_t_24 :: z_t_25 :: z_t_26 :: .int t_parts :: z_t_28 :: z_t_29 :: z_t_30 :: z_t_31 :: .int t_norm :: .int t_setMany :: z_t_34 :: z_t_35 :: z_t_36 :: z_t_37 :: z_t_38 :: z_t_39 :: z_t_40 :: z_t_41 :: z_t_42 :: z_t_43 :: z_t_44 :: z_t_45 :: z_t_46 :: z_t_47 :: z_t_48 :: z_t_49 :: z_t_50 :: z_t_51 :: z_t_52 :: z_t_53 :: z_t_54 :: z_t_55 :: z_t_56 :: z_t_57 :: z_t_58 :: z_t_59 :: z_t_60 :: []))) :: (h_t_has, .inl (k_t_has, 10, .inl t_has)) :: R) H := hP
  have hD : va_D A ((h_t, .inr (12, (.int 0 :: z_t_1 :: .int t_length :: .int t_a :: .int t_b :: z_t_5 :: .ref h_t_has :: z_t_7 :: z_t_8 :: z_t_9 :: z_t_10 :: z_t_11 :: z_t_12 :: z_t_13 :: z_t_14 :: z_t_15 :: z_t_16 :: z_t_17 :: z_t_18 :: z_t_19 :: z_t_20 :: z_t_21 :: z_t_22 :: z_t_23 :: z_t_24 :: z_t_25 :: z_t_26 :: .int t_parts :: z_t_28 :: z_t_29 :: z_t_30 :: z_t_31 :: .int t_norm :: .int t_setMany :: z_t_34 :: z_t_35 :: z_t_36 :: z_t_37 :: z_t_38 :: z_t_39 :: z_t_40 :: z_t_41 :: z_t_42 :: z_t_43 :: z_t_44 :: z_t_45 :: z_t_46 :: z_t_47 :: z_t_48 :: z_t_49 :: z_t_50 :: z_t_51 :: z_t_52 :: z_t_53 :: z_t_54 :: z_t_55 :: z_t_56 :: z_t_57 :: z_t_58 :: z_t_59 :: z_t_60 :: []))) :: (h_t_has, .inl (k_t_has, 10, .inl t_has)) :: R) := hD
  refine lv_iload_n hx hb dX12_count_5 rfl (lv_at hl 1 rfl) ?_
  by_cases c1 : l1 = 0
  · have h := br_pos c1 h
    refine lv_tableIn (off := 46) (tgt := 52) hx hb dX12_count_6 (by rw [c1]; decide) (by rw [c1]; decide) (by rw [c1]; rfl) (by decide) ?_
    refine lv_aload_n hx hb dX12_count_52 rfl (lv_at hl 0 rfl) ?_
    refine va_get (D := D) (ci := 12) (v := .int t_a) (C := RX12) (T := TX12) (N := 61) hx hb ha ix12 hown hK hP 0 rfl rfl 3 (by decide) (ha _ q963) (fun _ h9 => h9) rfl dX12_count_53 ?_
    cases h
    exact rt_i S hr hlk hP hD hS dX12_count_56
  · have h := br_neg c1 h
    by_cases c2 : l1 = 1
    · have h := br_pos c2 h
      refine lv_tableIn (off := 51) (tgt := 57) hx hb dX12_count_6 (by rw [c2]; decide) (by rw [c2]; decide) (by rw [c2]; rfl) (by decide) ?_
      refine lv_aload_n hx hb dX12_count_57 rfl (lv_at hl 0 rfl) ?_
      refine va_get (D := D) (ci := 12) (v := .int t_b) (C := RX12) (T := TX12) (N := 61) hx hb ha ix12 hown hK hP 0 rfl rfl 4 (by decide) (ha _ q964) (fun _ h9 => h9) rfl dX12_count_58 ?_
      cases h
      exact rt_i S hr hlk hP hD hS dX12_count_61
    · have h := br_neg c2 h
      by_cases c3 : l1 = 2
      · have h := br_pos c3 h
        refine lv_tableIn (off := 56) (tgt := 62) hx hb dX12_count_6 (by rw [c3]; decide) (by rw [c3]; decide) (by rw [c3]; rfl) (by decide) ?_
        refine lv_aload_n hx hb dX12_count_62 rfl (lv_at hl 0 rfl) ?_
        refine va_get (D := D) (ci := 12) (v := .int t_b) (C := RX12) (T := TX12) (N := 61) hx hb ha ix12 hown hK hP 0 rfl rfl 4 (by decide) (ha _ q964) (fun _ h9 => h9) rfl dX12_count_63 ?_
        refine lv_if_le (tgt := 76) hx hb dX12_count_66 (by decide) (fun c4 => ?_) (fun c4 => ?_)
        · have h := br_pos c4 h
          refine lv_aload_n hx hb dX12_count_76 rfl (lv_at hl 0 rfl) ?_
          refine va_get (D := D) (ci := 12) (v := .int t_a) (C := RX12) (T := TX12) (N := 61) hx hb ha ix12 hown hK hP 0 rfl rfl 3 (by decide) (ha _ q963) (fun _ h9 => h9) rfl dX12_count_77 ?_
          refine lv_iconst (v := 1) hx hb dX12_count_80 (by decide) ?_
          refine lv_isub hx hb dX12_count_81 ?_
          cases h
          exact rt_i S hr hlk hP hD hS dX12_count_82
        · have h := br_neg c4 h
          refine lv_aload_n hx hb dX12_count_69 rfl (lv_at hl 0 rfl) ?_
          refine va_get (D := D) (ci := 12) (v := .int t_a) (C := RX12) (T := TX12) (N := 61) hx hb ha ix12 hown hK hP 0 rfl rfl 3 (by decide) (ha _ q963) (fun _ h9 => h9) rfl dX12_count_70 ?_
          refine lv_goto (tgt := 82) hx hb dX12_count_73 (by decide) ?_
          cases h
          exact rt_i S hr hlk hP hD hS dX12_count_82
      · have h := br_neg c3 h
        by_cases c5 : l1 = 3
        · have h := br_pos c5 h
          refine lv_tableIn (off := 77) (tgt := 83) hx hb dX12_count_6 (by rw [c5]; decide) (by rw [c5]; decide) (by rw [c5]; rfl) (by decide) ?_
          refine lv_iconst (v := 0) hx hb dX12_count_83 (by decide) ?_
          refine lv_istore_n (lv' := [(2, .int 0), (0, .ref h_t), (1, .int l1)]) hx hb dX12_count_84 rfl hl (by decide) rfl (fun ls hl => ?_)
          refine lv_iconst (v := 0) hx hb dX12_count_85 (by decide) ?_
          refine lv_istore_n (lv' := [(3, .int 0), (2, .int 0), (0, .ref h_t), (1, .int l1)]) hx hb dX12_count_86 rfl hl (by decide) rfl (fun ls hl => ?_)
          obtain ⟨x2_L87_8, e_L87_8, h⟩ := bnd1_ok h
          refine L87 _ _ 0 0 0 x2_L87_8 e_L87_8 _ _ _ hP hD hS (lv_sub hl [2, 1, 0] rfl) ?_
          intro H locs ls hP hD hS hl
          refine lv_iload_n hx hb dX12_count_116 rfl (lv_at hl 0 rfl) ?_
          cases h
          exact rt_i S hr hlk hP hD hS dX12_count_117
        · have h := br_neg c5 h
          by_cases c10 : l1 = 4
          · have h := br_pos c10 h
            refine lv_tableIn (off := 112) (tgt := 118) hx hb dX12_count_6 (by rw [c10]; decide) (by rw [c10]; decide) (by rw [c10]; rfl) (by decide) ?_
            refine lv_aload_n hx hb dX12_count_118 rfl (lv_at hl 0 rfl) ?_
            refine va_get (D := D) (ci := 12) (v := .int t_length) (C := RX12) (T := TX12) (N := 61) hx hb ha ix12 hown hK hP 0 rfl rfl 2 (by decide) (ha _ q962) (fun _ h9 => h9) rfl dX12_count_119 ?_
            cases h
            exact rt_i S hr hlk hP hD hS dX12_count_122
          · have h := br_neg c10 h
            by_cases c11 : l1 = 5
            · have h := br_pos c11 h
              refine lv_tableIn (off := 117) (tgt := 123) hx hb dX12_count_6 (by rw [c11]; decide) (by rw [c11]; decide) (by rw [c11]; rfl) (by decide) ?_
              refine lv_aload_n hx hb dX12_count_123 rfl (lv_at hl 0 rfl) ?_
              refine va_get (D := D) (ci := 12) (v := .int t_norm) (C := RX12) (T := TX12) (N := 61) hx hb ha ix12 hown hK hP 0 rfl rfl 32 (by decide) (ha _ q992) (fun _ h9 => h9) rfl dX12_count_124 ?_
              cases h
              exact rt_i S hr hlk hP hD hS dX12_count_127
            · have h := br_neg c11 h
              by_cases c12 : l1 = 6
              · have h := br_pos c12 h
                refine lv_tableIn (off := 122) (tgt := 128) hx hb dX12_count_6 (by rw [c12]; decide) (by rw [c12]; decide) (by rw [c12]; rfl) (by decide) ?_
                refine lv_aload_n hx hb dX12_count_128 rfl (lv_at hl 0 rfl) ?_
                refine va_get (D := D) (ci := 12) (v := .int t_setMany) (C := RX12) (T := TX12) (N := 61) hx hb ha ix12 hown hK hP 0 rfl rfl 33 (by decide) (ha _ q993) (fun _ h9 => h9) rfl dX12_count_129 ?_
                cases h
                exact rt_i S hr hlk hP hD hS dX12_count_132
              · have h := br_neg c12 h
                by_cases c13 : l1 = 7
                · have h := br_pos c13 h
                  refine lv_tableIn (off := 127) (tgt := 133) hx hb dX12_count_6 (by rw [c13]; decide) (by rw [c13]; decide) (by rw [c13]; rfl) (by decide) ?_
                  refine lv_aload_n hx hb dX12_count_133 rfl (lv_at hl 0 rfl) ?_
                  refine va_get (D := D) (ci := 12) (v := .int t_parts) (C := RX12) (T := TX12) (N := 61) hx hb ha ix12 hown hK hP 0 rfl rfl 27 (by decide) (ha _ q987) (fun _ h9 => h9) rfl dX12_count_134 ?_
                  cases h
                  exact rt_i S hr hlk hP hD hS dX12_count_137
                · have h := br_neg c13 h
                  have t0 : ¬ l1.toInt = 0 := fun q => c1 (Int32.toInt_inj.mp (q.trans (by decide)))
                  have t1 : ¬ l1.toInt = 1 := fun q => c2 (Int32.toInt_inj.mp (q.trans (by decide)))
                  have t2 : ¬ l1.toInt = 2 := fun q => c3 (Int32.toInt_inj.mp (q.trans (by decide)))
                  have t3 : ¬ l1.toInt = 3 := fun q => c5 (Int32.toInt_inj.mp (q.trans (by decide)))
                  have t4 : ¬ l1.toInt = 4 := fun q => c10 (Int32.toInt_inj.mp (q.trans (by decide)))
                  have t5 : ¬ l1.toInt = 5 := fun q => c11 (Int32.toInt_inj.mp (q.trans (by decide)))
                  have t6 : ¬ l1.toInt = 6 := fun q => c12 (Int32.toInt_inj.mp (q.trans (by decide)))
                  have t7 : ¬ l1.toInt = 7 := fun q => c13 (Int32.toInt_inj.mp (q.trans (by decide)))
                  refine lv_tableOut (tgt := 138) hx hb dX12_count_6 (by omega) (by decide) ?_
                  refine lv_iconst (v := (-1)) hx hb dX12_count_138 (by decide) ?_
                  cases h
                  exact rt_i S hr hlk hP hD hS dX12_count_139
