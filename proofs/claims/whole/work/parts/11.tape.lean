noncomputable def f_X7_hasRoomForFive (t_size : Int32) : Option (Int32) :=
  if 200 < (t_size + 20) then (
   some 0
  ) else (
   some 1
  )
set_option maxHeartbeats 4000000 in
set_option maxRecDepth 100000 in
theorem c_X7_hasRoomForFive (l : Launch) (D : va_G) (R : va_W) (h_t : Nat) (z_t_0 : Value) (t_size : Int32) (r : Int32)  (h : f_X7_hasRoomForFive t_size = some r) (sz : Nat) : Met l yX7_hasRoomForFive (WD yX7_hasRoomForFive cX7_hasRoomForFive 1 (some .boolean)) ({ frames := 0, cells := 0, slots := 0, locals := 0 }) (va_Pc [.ref h_t] (PcW D [] ((h_t, .inr (7, [z_t_0, .int t_size])) :: R) sz)) (QZ D r ((h_t, .inr (7, [z_t_0, .int t_size])) :: R) (va_A ((h_t, .inr (7, [z_t_0, .int t_size])) :: R) sz)) 0 0 (va_A ((h_t, .inr (7, [z_t_0, .int t_size])) :: R) sz) := by
  refine ct_start (QF := fun A => QZ D r ((h_t, .inr (7, [z_t_0, .int t_size])) :: R) A) ?_ ?_ ?_
  · decide +kernel
  · exact Nat.le_of_ble_eq_true rfl
  intro p e s m args below meth c A ls S hr hlk hnm hS hA hP hD hK hN hl
  have S : CallFix p m c cX7_hasRoomForFive 1 s args AL "DigitBench$Tape" := S
  have hx := S.1
  have hb := S.2.1
  have hown := S.2.2.2.1
  have ha := S.2.2.2.2
  have hl : lv_has ls 1 [(0, .ref h_t)] := hl
  unfold f_X7_hasRoomForFive at h
  refine lv_aload_n hx hb dX7_hasRoomForFive_0 rfl (lv_at hl 0 rfl) ?_
  refine va_get (D := D) (ci := 7) (v := .int t_size) (C := RX7) (T := TX7) (N := 2) hx hb ha ix7 hown hK hP 0 rfl rfl 1 (by decide) (ha _ q81) (fun _ h9 => h9) rfl dX7_hasRoomForFive_1 ?_
  refine lv_bipush (v := 20) hx hb dX7_hasRoomForFive_4 (by decide) ?_
  refine lv_iadd hx hb dX7_hasRoomForFive_6 ?_
  refine lv_sipush (v := 200) hx hb dX7_hasRoomForFive_7 (by decide) ?_
  refine lv_icmp_gt (tgt := 17) hx hb dX7_hasRoomForFive_10 (by decide) (fun c1 => ?_) (fun c1 => ?_)
  · have h := br_pos c1 h
    refine lv_iconst (v := 0) hx hb dX7_hasRoomForFive_17 (by decide) ?_
    cases h
    exact rt_z S hr hlk hP hD hS (by decide) dX7_hasRoomForFive_18
  · have h := br_neg c1 h
    refine lv_iconst (v := 1) hx hb dX7_hasRoomForFive_13 (by decide) ?_
    refine lv_goto (tgt := 18) hx hb dX7_hasRoomForFive_14 (by decide) ?_
    cases h
    exact rt_z S hr hlk hP hD hS (by decide) dX7_hasRoomForFive_18
noncomputable def f_X7_append_L3 (l1 : Int32) : Nat → Int32 → Int32 → (Nat → Int32) →  Option (Int32 × (Nat → Int32))
  | 0, _, _, _ => none
  | n + 1, l2, t_size, t_bytes => (
    if l2 < 0 then (
     some (t_size, t_bytes)
    ) else (
     if 200 ≤ t_size then (
      some (t_size, t_bytes)
     ) else (
      gd (ixb t_size 200) (
       f_X7_append_L3 l1 n (l2 + (-8)) (t_size + 1) (upd t_bytes t_size.toNatClampNeg (vp_nar .byte ((l1 >>> (l2 &&& 31)).toInt8.toInt32)))
      )
     )
    ))
noncomputable def f_X7_append (t_size : Int32) (t_bytes : Nat → Int32) (l1 : Int32) : Option (Int32 × (Nat → Int32)) :=
  bnd2 (f_X7_append_L3 l1 FU 24 t_size t_bytes) fun x_t_size_L3_3 x_t_bytes_L3_3 => (
   some (x_t_size_L3_3, x_t_bytes_L3_3)
  )
set_option maxHeartbeats 4000000 in
set_option maxRecDepth 100000 in
theorem c_X7_append (l : Launch) (D : va_G) (R : va_W) (h_t : Nat) (t_size : Int32) (h_t_bytes : Nat) (k_t_bytes : ClassId) (t_bytes : Nat → Int32) (l1 : Int32) (o_t_size : Int32) (o_t_bytes : Nat → Int32)  (h : f_X7_append t_size t_bytes l1 = some (o_t_size, o_t_bytes)) (sz : Nat) : Met l yX7_append (WD yX7_append cX7_append 3 none) ({ frames := 0, cells := 0, slots := 0, locals := 0 }) (va_Pc [.ref h_t, .int l1] (PcW D [(k_t_bytes, .byte)] ((h_t, .inr (7, [.ref h_t_bytes, .int t_size])) :: (h_t_bytes, .inl (k_t_bytes, 200, .inl t_bytes)) :: R) sz)) (QV D ((h_t, .inr (7, [.ref h_t_bytes, .int o_t_size])) :: (h_t_bytes, .inl (k_t_bytes, 200, .inl o_t_bytes)) :: R) (va_A ((h_t, .inr (7, [.ref h_t_bytes, .int t_size])) :: (h_t_bytes, .inl (k_t_bytes, 200, .inl t_bytes)) :: R) sz)) 0 0 (va_A ((h_t, .inr (7, [.ref h_t_bytes, .int t_size])) :: (h_t_bytes, .inl (k_t_bytes, 200, .inl t_bytes)) :: R) sz) := by
  refine ct_start (QF := fun A => QV D ((h_t, .inr (7, [.ref h_t_bytes, .int o_t_size])) :: (h_t_bytes, .inl (k_t_bytes, 200, .inl o_t_bytes)) :: R) A) ?_ ?_ ?_
  · decide +kernel
  · exact Nat.le_of_ble_eq_true rfl
  intro p e s m args below meth c A ls S hr hlk hnm hS hA hP hD hK hN hl
  have S : CallFix p m c cX7_append 3 s args AL "DigitBench$Tape" := S
  have hx := S.1
  have hb := S.2.1
  have hown := S.2.2.2.1
  have ha := S.2.2.2.2
  have hl : lv_has ls 3 [(0, .ref h_t), (1, .int l1)] := hl
  have L3 : ∀ (Q : State → Prop) (n : Nat) (l1 : Int32) (l2 : Int32) (t_size : Int32) (t_bytes : Nat → Int32) (x_t_size : Int32) (x_t_bytes : Nat → Int32), f_X7_append_L3 l1 n l2 t_size t_bytes = some (x_t_size, x_t_bytes) → ∀ (H : Heap) (locs : List Loc) (ls : Array Slot), va_P D vwCl ((h_t, .inr (7, [.ref h_t_bytes, .int t_size])) :: (h_t_bytes, .inl (k_t_bytes, 200, .inl t_bytes)) :: R) H → va_D A ((h_t, .inr (7, [.ref h_t_bytes, .int t_size])) :: (h_t_bytes, .inl (k_t_bytes, 200, .inl t_bytes)) :: R) → va_S A s.heap H locs → lv_has ls 3 [(0, .ref h_t), (1, .int l1), (2, .int l2)] → (∀ (H : Heap) (locs : List Loc) (ls : Array Slot), va_P D vwCl ((h_t, .inr (7, [.ref h_t_bytes, .int x_t_size])) :: (h_t_bytes, .inl (k_t_bytes, 200, .inl x_t_bytes)) :: R) H → va_D A ((h_t, .inr (7, [.ref h_t_bytes, .int x_t_size])) :: (h_t_bytes, .inl (k_t_bytes, 200, .inl x_t_bytes)) :: R) → va_S A s.heap H locs → lv_has ls 3 [] → W p l e { frames := 0, cells := 0, slots := 0, locals := 0 } s m args below meth c H locs 0 0 Q (F0 m 46 ls [])) → W p l e { frames := 0, cells := 0, slots := 0, locals := 0 } s m args below meth c H locs 0 0 Q (F0 m 3 ls []) := by
    intro Q n
    induction n with
    | zero =>
      intro l1 l2 t_size t_bytes x_t_size x_t_bytes h
      rw [f_X7_append_L3] at h; cases h
    | succ n ih =>
      intro l1 l2 t_size t_bytes x_t_size x_t_bytes h H locs ls hP hD hS hl kk0
      rw [f_X7_append_L3] at h
      refine lv_iload_n hx hb dX7_append_3 rfl (lv_at hl 2 rfl) ?_
      refine lv_if_lt (tgt := 46) hx hb dX7_append_4 (by decide) (fun c1 => ?_) (fun c1 => ?_)
      · have h := br_pos c1 h
        cases h
        exact kk0 _ _ _ hP hD hS (lv_sub hl [] rfl)
      · have h := br_neg c1 h
        refine lv_aload_n hx hb dX7_append_7 rfl (lv_at hl 0 rfl) ?_
        refine va_get (D := D) (ci := 7) (v := .int t_size) (C := RX7) (T := TX7) (N := 2) hx hb ha ix7 hown hK hP 0 rfl rfl 1 (by decide) (ha _ q81) (fun _ h9 => h9) rfl dX7_append_8 ?_
        refine lv_sipush (v := 200) hx hb dX7_append_11 (by decide) ?_
        refine lv_icmp_ge (tgt := 46) hx hb dX7_append_14 (by decide) (fun c2 => ?_) (fun c2 => ?_)
        · have h := br_pos c2 h
          cases h
          exact kk0 _ _ _ hP hD hS (lv_sub hl [] rfl)
        · have h := br_neg c2 h
          refine lv_aload_n hx hb dX7_append_17 rfl (lv_at hl 0 rfl) ?_
          refine va_get (D := D) (ci := 7) (v := .ref h_t_bytes) (C := RX7) (T := TX7) (N := 2) hx hb ha ix7 hown hK hP 0 rfl rfl 0 (by decide) (ha _ q80) (fun _ h9 => h9) rfl dX7_append_18 ?_
          refine lv_aload_n hx hb dX7_append_21 rfl (lv_at hl 0 rfl) ?_
          refine va_get (D := D) (ci := 7) (v := .int t_size) (C := RX7) (T := TX7) (N := 2) hx hb ha ix7 hown hK hP 0 rfl rfl 1 (by decide) (ha _ q81) (fun _ h9 => h9) rfl dX7_append_22 ?_
          refine lv_iload_n hx hb dX7_append_25 rfl (lv_at hl 1 rfl) ?_
          refine lv_iload_n hx hb dX7_append_26 rfl (lv_at hl 2 rfl) ?_
          refine lv_ishr hx hb dX7_append_27 ?_
          refine lv_i2b (v := (l1 >>> (l2 &&& 31)).toInt8.toInt32) hx hb dX7_append_28 rfl ?_
          obtain ⟨i3, h⟩ := ix_ok h
          refine va_bast hx hb hK hP hD hS 1 0 rfl rfl i3 dX7_append_29 (fun H locs hP hD hS => ?_)
          have hP : va_P D vwCl ((h_t, .inr (7, [.ref h_t_bytes, .int t_size])) :: (h_t_bytes, .inl (k_t_bytes, 200, .inl (upd t_bytes t_size.toNatClampNeg (vp_nar .byte ((l1 >>> (l2 &&& 31)).toInt8.toInt32))))) :: R) H := hP
          have hD : va_D A ((h_t, .inr (7, [.ref h_t_bytes, .int t_size])) :: (h_t_bytes, .inl (k_t_bytes, 200, .inl (upd t_bytes t_size.toNatClampNeg (vp_nar .byte ((l1 >>> (l2 &&& 31)).toInt8.toInt32))))) :: R) := hD
          refine lv_aload_n hx hb dX7_append_30 rfl (lv_at hl 0 rfl) ?_
          refine lv_dup hx hb dX7_append_31 rfl ?_
          refine va_get (D := D) (ci := 7) (v := .int t_size) (C := RX7) (T := TX7) (N := 2) hx hb ha ix7 hown hK hP 0 rfl rfl 1 (by decide) (ha _ q81) (fun _ h9 => h9) rfl dX7_append_32 ?_
          refine lv_iconst (v := 1) hx hb dX7_append_35 (by decide) ?_
          refine lv_iadd hx hb dX7_append_36 ?_
          refine va_put (D := D) (ci := 7) (v := .int (t_size + 1)) (ty := .int) (C := RX7) (T := TX7) (N := 2) hx hb ha ix7 tyX7 tyX7_ok nmX7 hown hK hP hD hS 0 rfl rfl 1 (by decide) (ha _ q81) (fun _ h9 => h9) rfl (by decide +kernel) rfl rfl (Nat.le_of_ble_eq_true rfl) dX7_append_37 (fun H locs hP hD hS => ?_)
          have hP : va_P D vwCl ((h_t, .inr (7, [.ref h_t_bytes, .int (t_size + 1)])) :: (h_t_bytes, .inl (k_t_bytes, 200, .inl (upd t_bytes t_size.toNatClampNeg (vp_nar .byte ((l1 >>> (l2 &&& 31)).toInt8.toInt32))))) :: R) H := hP
          have hD : va_D A ((h_t, .inr (7, [.ref h_t_bytes, .int (t_size + 1)])) :: (h_t_bytes, .inl (k_t_bytes, 200, .inl (upd t_bytes t_size.toNatClampNeg (vp_nar .byte ((l1 >>> (l2 &&& 31)).toInt8.toInt32))))) :: R) := hD
          refine lv_iinc (v := (l2 + (-8))) (lv' := [(2, .int (l2 + (-8))), (0, .ref h_t), (1, .int l1)]) hx hb dX7_append_40 hl (k := 2) rfl rfl (by decide) rfl (fun ls hl => ?_)
          refine lv_goto (tgt := 3) hx hb dX7_append_43 (by decide) ?_
          exact ih l1 (l2 + (-8)) (t_size + 1) (upd t_bytes t_size.toNatClampNeg (vp_nar .byte ((l1 >>> (l2 &&& 31)).toInt8.toInt32))) _ _ h _ _ _ hP hD hS (lv_sub hl [1, 2, 0] rfl) kk0
  unfold f_X7_append at h
  refine lv_bipush (v := 24) hx hb dX7_append_0 (by decide) ?_
  refine lv_istore_n (lv' := [(2, .int 24), (0, .ref h_t), (1, .int l1)]) hx hb dX7_append_2 rfl hl (by decide) rfl (fun ls hl => ?_)
  obtain ⟨x_t_size_L3_3, x_t_bytes_L3_3, e_L3_3, h⟩ := bnd2_ok h
  refine L3 _ _ l1 24 t_size t_bytes x_t_size_L3_3 x_t_bytes_L3_3 e_L3_3 _ _ _ hP hD hS (lv_sub hl [1, 2, 0] rfl) ?_
  intro H locs ls hP hD hS hl
  cases h
  exact rt_v S hr hlk hP hD hS dX7_append_46
noncomputable def f_X7_at (t_size : Int32) (t_bytes : Nat → Int32) (l1 : Int32) : Option (Int32) :=
  if l1 < 0 then (
   some 0
  ) else (
   if t_size ≤ l1 then (
    some 0
   ) else (
    gd (ixb l1 200) (
     some (t_bytes l1.toNatClampNeg)
    )
   )
  )
set_option maxHeartbeats 4000000 in
set_option maxRecDepth 100000 in
theorem c_X7_at (l : Launch) (D : va_G) (R : va_W) (h_t : Nat) (t_size : Int32) (h_t_bytes : Nat) (k_t_bytes : ClassId) (t_bytes : Nat → Int32) (l1 : Int32) (r : Int32)  (h : f_X7_at t_size t_bytes l1 = some r) (sz : Nat) : Met l yX7_at (WD yX7_at cX7_at 2 (some .int)) ({ frames := 0, cells := 0, slots := 0, locals := 0 }) (va_Pc [.ref h_t, .int l1] (PcW D [(k_t_bytes, .byte)] ((h_t, .inr (7, [.ref h_t_bytes, .int t_size])) :: (h_t_bytes, .inl (k_t_bytes, 200, .inl t_bytes)) :: R) sz)) (QI D r ((h_t, .inr (7, [.ref h_t_bytes, .int t_size])) :: (h_t_bytes, .inl (k_t_bytes, 200, .inl t_bytes)) :: R) (va_A ((h_t, .inr (7, [.ref h_t_bytes, .int t_size])) :: (h_t_bytes, .inl (k_t_bytes, 200, .inl t_bytes)) :: R) sz)) 0 0 (va_A ((h_t, .inr (7, [.ref h_t_bytes, .int t_size])) :: (h_t_bytes, .inl (k_t_bytes, 200, .inl t_bytes)) :: R) sz) := by
  refine ct_start (QF := fun A => QI D r ((h_t, .inr (7, [.ref h_t_bytes, .int t_size])) :: (h_t_bytes, .inl (k_t_bytes, 200, .inl t_bytes)) :: R) A) ?_ ?_ ?_
  · decide +kernel
  · exact Nat.le_of_ble_eq_true rfl
  intro p e s m args below meth c A ls S hr hlk hnm hS hA hP hD hK hN hl
  have S : CallFix p m c cX7_at 2 s args AL "DigitBench$Tape" := S
  have hx := S.1
  have hb := S.2.1
  have hown := S.2.2.2.1
  have ha := S.2.2.2.2
  have hl : lv_has ls 2 [(0, .ref h_t), (1, .int l1)] := hl
  unfold f_X7_at at h
  refine lv_iload_n hx hb dX7_at_0 rfl (lv_at hl 1 rfl) ?_
  refine lv_if_lt (tgt := 21) hx hb dX7_at_1 (by decide) (fun c1 => ?_) (fun c1 => ?_)
  · have h := br_pos c1 h
    refine lv_iconst (v := 0) hx hb dX7_at_21 (by decide) ?_
    cases h
    exact rt_i S hr hlk hP hD hS dX7_at_22
  · have h := br_neg c1 h
    refine lv_iload_n hx hb dX7_at_4 rfl (lv_at hl 1 rfl) ?_
    refine lv_aload_n hx hb dX7_at_5 rfl (lv_at hl 0 rfl) ?_
    refine va_get (D := D) (ci := 7) (v := .int t_size) (C := RX7) (T := TX7) (N := 2) hx hb ha ix7 hown hK hP 0 rfl rfl 1 (by decide) (ha _ q81) (fun _ h9 => h9) rfl dX7_at_6 ?_
    refine lv_icmp_ge (tgt := 21) hx hb dX7_at_9 (by decide) (fun c2 => ?_) (fun c2 => ?_)
    · have h := br_pos c2 h
      refine lv_iconst (v := 0) hx hb dX7_at_21 (by decide) ?_
      cases h
      exact rt_i S hr hlk hP hD hS dX7_at_22
    · have h := br_neg c2 h
      refine lv_aload_n hx hb dX7_at_12 rfl (lv_at hl 0 rfl) ?_
      refine va_get (D := D) (ci := 7) (v := .ref h_t_bytes) (C := RX7) (T := TX7) (N := 2) hx hb ha ix7 hown hK hP 0 rfl rfl 0 (by decide) (ha _ q80) (fun _ h9 => h9) rfl dX7_at_13 ?_
      refine lv_iload_n hx hb dX7_at_16 rfl (lv_at hl 1 rfl) ?_
      obtain ⟨i3, h⟩ := ix_ok h
      refine va_bald hx hb hK hP 1 0 rfl rfl i3 dX7_at_17 ?_
      refine lv_goto (tgt := 22) hx hb dX7_at_18 (by decide) ?_
      cases h
      exact rt_i S hr hlk hP hD hS dX7_at_22
noncomputable def f_X7_hasNegative_L2 (t_size : Int32) (t_bytes : Nat → Int32) : Nat → Int32 →  Option (Nat)
  | 0, _ => none
  | n + 1, l1 => (
    if t_size ≤ l1 then (
     some 1
    ) else (
     gd (ixb l1 200) (
      if 0 ≤ (t_bytes l1.toNatClampNeg) then (
       f_X7_hasNegative_L2 t_size t_bytes n (l1 + 1)
      ) else (
       some 0
      )
     )
    ))
noncomputable def f_X7_hasNegative (t_size : Int32) (t_bytes : Nat → Int32) : Option (Int32) :=
  bnd1 (f_X7_hasNegative_L2 t_size t_bytes FU 0) fun tg_L2_3 => (
   if tg_L2_3 = 0 then (
    some 1
   ) else (
    some 0
   )
  )
set_option maxHeartbeats 4000000 in
set_option maxRecDepth 100000 in
theorem c_X7_hasNegative (l : Launch) (D : va_G) (R : va_W) (h_t : Nat) (t_size : Int32) (h_t_bytes : Nat) (k_t_bytes : ClassId) (t_bytes : Nat → Int32) (r : Int32)  (h : f_X7_hasNegative t_size t_bytes = some r) (sz : Nat) : Met l yX7_hasNegative (WD yX7_hasNegative cX7_hasNegative 2 (some .boolean)) ({ frames := 0, cells := 0, slots := 0, locals := 0 }) (va_Pc [.ref h_t] (PcW D [(k_t_bytes, .byte)] ((h_t, .inr (7, [.ref h_t_bytes, .int t_size])) :: (h_t_bytes, .inl (k_t_bytes, 200, .inl t_bytes)) :: R) sz)) (QZ D r ((h_t, .inr (7, [.ref h_t_bytes, .int t_size])) :: (h_t_bytes, .inl (k_t_bytes, 200, .inl t_bytes)) :: R) (va_A ((h_t, .inr (7, [.ref h_t_bytes, .int t_size])) :: (h_t_bytes, .inl (k_t_bytes, 200, .inl t_bytes)) :: R) sz)) 0 0 (va_A ((h_t, .inr (7, [.ref h_t_bytes, .int t_size])) :: (h_t_bytes, .inl (k_t_bytes, 200, .inl t_bytes)) :: R) sz) := by
  refine ct_start (QF := fun A => QZ D r ((h_t, .inr (7, [.ref h_t_bytes, .int t_size])) :: (h_t_bytes, .inl (k_t_bytes, 200, .inl t_bytes)) :: R) A) ?_ ?_ ?_
  · decide +kernel
  · exact Nat.le_of_ble_eq_true rfl
  intro p e s m args below meth c A ls S hr hlk hnm hS hA hP hD hK hN hl
  have S : CallFix p m c cX7_hasNegative 2 s args AL "DigitBench$Tape" := S
  have hx := S.1
  have hb := S.2.1
  have hown := S.2.2.2.1
  have ha := S.2.2.2.2
  have hl : lv_has ls 2 [(0, .ref h_t)] := hl
  have L2 : ∀ (Q : State → Prop) (n : Nat) (l1 : Int32)  (tg : Nat), f_X7_hasNegative_L2 t_size t_bytes n l1 = some tg → ∀ (H : Heap) (locs : List Loc) (ls : Array Slot), va_P D vwCl ((h_t, .inr (7, [.ref h_t_bytes, .int t_size])) :: (h_t_bytes, .inl (k_t_bytes, 200, .inl t_bytes)) :: R) H → va_D A ((h_t, .inr (7, [.ref h_t_bytes, .int t_size])) :: (h_t_bytes, .inl (k_t_bytes, 200, .inl t_bytes)) :: R) → va_S A s.heap H locs → lv_has ls 2 [(0, .ref h_t), (1, .int l1)] → (tg = 0 → ∀ (H : Heap) (locs : List Loc) (ls : Array Slot), va_P D vwCl ((h_t, .inr (7, [.ref h_t_bytes, .int t_size])) :: (h_t_bytes, .inl (k_t_bytes, 200, .inl t_bytes)) :: R) H → va_D A ((h_t, .inr (7, [.ref h_t_bytes, .int t_size])) :: (h_t_bytes, .inl (k_t_bytes, 200, .inl t_bytes)) :: R) → va_S A s.heap H locs → lv_has ls 2 [] → W p l e { frames := 0, cells := 0, slots := 0, locals := 0 } s m args below meth c H locs 0 0 Q (F0 m 19 ls [])) → (tg = 1 → ∀ (H : Heap) (locs : List Loc) (ls : Array Slot), va_P D vwCl ((h_t, .inr (7, [.ref h_t_bytes, .int t_size])) :: (h_t_bytes, .inl (k_t_bytes, 200, .inl t_bytes)) :: R) H → va_D A ((h_t, .inr (7, [.ref h_t_bytes, .int t_size])) :: (h_t_bytes, .inl (k_t_bytes, 200, .inl t_bytes)) :: R) → va_S A s.heap H locs → lv_has ls 2 [] → W p l e { frames := 0, cells := 0, slots := 0, locals := 0 } s m args below meth c H locs 0 0 Q (F0 m 27 ls [])) → W p l e { frames := 0, cells := 0, slots := 0, locals := 0 } s m args below meth c H locs 0 0 Q (F0 m 2 ls []) := by
    intro Q n
    induction n with
    | zero =>
      intro l1 tg h
      rw [f_X7_hasNegative_L2] at h; cases h
    | succ n ih =>
      intro l1 tg h H locs ls hP hD hS hl kk0 kk1
      rw [f_X7_hasNegative_L2] at h
      refine lv_iload_n hx hb dX7_hasNegative_2 rfl (lv_at hl 1 rfl) ?_
      refine lv_aload_n hx hb dX7_hasNegative_3 rfl (lv_at hl 0 rfl) ?_
      refine va_get (D := D) (ci := 7) (v := .int t_size) (C := RX7) (T := TX7) (N := 2) hx hb ha ix7 hown hK hP 0 rfl rfl 1 (by decide) (ha _ q81) (fun _ h9 => h9) rfl dX7_hasNegative_4 ?_
      refine lv_icmp_ge (tgt := 27) hx hb dX7_hasNegative_7 (by decide) (fun c1 => ?_) (fun c1 => ?_)
      · have h := br_pos c1 h
        cases h
        exact kk1 rfl _ _ _ hP hD hS (lv_sub hl [] rfl)
      · have h := br_neg c1 h
        refine lv_aload_n hx hb dX7_hasNegative_10 rfl (lv_at hl 0 rfl) ?_
        refine va_get (D := D) (ci := 7) (v := .ref h_t_bytes) (C := RX7) (T := TX7) (N := 2) hx hb ha ix7 hown hK hP 0 rfl rfl 0 (by decide) (ha _ q80) (fun _ h9 => h9) rfl dX7_hasNegative_11 ?_
        refine lv_iload_n hx hb dX7_hasNegative_14 rfl (lv_at hl 1 rfl) ?_
        obtain ⟨i2, h⟩ := ix_ok h
        refine va_bald hx hb hK hP 1 0 rfl rfl i2 dX7_hasNegative_15 ?_
        refine lv_if_ge (tgt := 21) hx hb dX7_hasNegative_16 (by decide) (fun c3 => ?_) (fun c3 => ?_)
        · have h := br_pos c3 h
          refine lv_iinc (v := (l1 + 1)) (lv' := [(1, .int (l1 + 1)), (0, .ref h_t)]) hx hb dX7_hasNegative_21 hl (k := 1) rfl rfl (by decide) rfl (fun ls hl => ?_)
          refine lv_goto (tgt := 2) hx hb dX7_hasNegative_24 (by decide) ?_
          exact ih (l1 + 1) _ h _ _ _ hP hD hS (lv_sub hl [1, 0] rfl) kk0 kk1
        · have h := br_neg c3 h
          cases h
          exact kk0 rfl _ _ _ hP hD hS (lv_sub hl [] rfl)
  unfold f_X7_hasNegative at h
  refine lv_iconst (v := 0) hx hb dX7_hasNegative_0 (by decide) ?_
  refine lv_istore_n (lv' := [(1, .int 0), (0, .ref h_t)]) hx hb dX7_hasNegative_1 rfl hl (by decide) rfl (fun ls hl => ?_)
  obtain ⟨tg_L2_3, e_L2_3, h⟩ := bnd1_ok h
  refine L2 _ _ 0 tg_L2_3 e_L2_3 _ _ _ hP hD hS (lv_sub hl [1, 0] rfl) ?_ ?_
  · intro q9 H locs ls hP hD hS hl
    have h := br_pos q9 h
    refine lv_iconst (v := 1) hx hb dX7_hasNegative_19 (by decide) ?_
    cases h
    exact rt_z S hr hlk hP hD hS (by decide) dX7_hasNegative_20
  · intro q9 H locs ls hP hD hS hl
    have h := br_neg (by rw [q9]; decide) h
    refine lv_iconst (v := 0) hx hb dX7_hasNegative_27 (by decide) ?_
    cases h
    exact rt_z S hr hlk hP hD hS (by decide) dX7_hasNegative_28
