noncomputable def f_X4_isLess (t_ys : Nat → Int32) (t_zs : Nat → Int32) (l1 : Int32) (l2 : Int32) (l3 : Int32) : Option (Int32) :=
  gd (ixb l1 441) (
   if (t_ys l1.toNatClampNeg) < l2 then (
    some 1
   ) else (
    gd (ixb l1 441) (
     if (t_ys l1.toNatClampNeg) = l2 then (
      gd (ixb l1 441) (
       if l3 ≤ (t_zs l1.toNatClampNeg) then (
        some 0
       ) else (
        some 1
       )
      )
     ) else (
      some 0
     )
    )
   )
  )
set_option maxHeartbeats 4000000 in
set_option maxRecDepth 100000 in
theorem c_X4_isLess (l : Launch) (D : va_G) (R : va_W) (h_t : Nat) (z_t_0 : Value) (z_t_3 : Value) (h_t_ys : Nat) (k_t_ys : ClassId) (t_ys : Nat → Int32) (h_t_zs : Nat) (k_t_zs : ClassId) (t_zs : Nat → Int32) (l1 : Int32) (l2 : Int32) (l3 : Int32) (r : Int32)  (h : f_X4_isLess t_ys t_zs l1 l2 l3 = some r) (sz : Nat) : Met l yX4_isLess (WD yX4_isLess cX4_isLess 4 (some .boolean)) ({ frames := 0, cells := 0, slots := 0, locals := 0 }) (va_Pc [.ref h_t, .int l1, .int l2, .int l3] (PcW D [(k_t_ys, .int), (k_t_zs, .int)] ((h_t, .inr (4, [z_t_0, .ref h_t_ys, .ref h_t_zs, z_t_3])) :: (h_t_ys, .inl (k_t_ys, 441, .inl t_ys)) :: (h_t_zs, .inl (k_t_zs, 441, .inl t_zs)) :: R) sz)) (QZ D r ((h_t, .inr (4, [z_t_0, .ref h_t_ys, .ref h_t_zs, z_t_3])) :: (h_t_ys, .inl (k_t_ys, 441, .inl t_ys)) :: (h_t_zs, .inl (k_t_zs, 441, .inl t_zs)) :: R) (va_A ((h_t, .inr (4, [z_t_0, .ref h_t_ys, .ref h_t_zs, z_t_3])) :: (h_t_ys, .inl (k_t_ys, 441, .inl t_ys)) :: (h_t_zs, .inl (k_t_zs, 441, .inl t_zs)) :: R) sz)) 0 0 (va_A ((h_t, .inr (4, [z_t_0, .ref h_t_ys, .ref h_t_zs, z_t_3])) :: (h_t_ys, .inl (k_t_ys, 441, .inl t_ys)) :: (h_t_zs, .inl (k_t_zs, 441, .inl t_zs)) :: R) sz) := by
  refine ct_start (QF := fun A => QZ D r ((h_t, .inr (4, [z_t_0, .ref h_t_ys, .ref h_t_zs, z_t_3])) :: (h_t_ys, .inl (k_t_ys, 441, .inl t_ys)) :: (h_t_zs, .inl (k_t_zs, 441, .inl t_zs)) :: R) A) ?_ ?_ ?_
  · decide +kernel
  · exact Nat.le_of_ble_eq_true rfl
  intro p e s m args below meth c A ls S hr hlk hnm hS hA hP hD hK hN hl
  have S : CallFix p m c cX4_isLess 4 s args AL "DigitBench$RoundList" := S
  have hx := S.1
  have hb := S.2.1
  have hown := S.2.2.2.1
  have ha := S.2.2.2.2
  have hl : lv_has ls 4 [(0, .ref h_t), (1, .int l1), (2, .int l2), (3, .int l3)] := hl
  unfold f_X4_isLess at h
  refine lv_aload_n hx hb dX4_isLess_0 rfl (lv_at hl 0 rfl) ?_
  refine va_get (D := D) (ci := 4) (v := .ref h_t_ys) (C := RX4) (T := TX4) (N := 4) hx hb ha ix4 hown hK hP 0 rfl rfl 1 (by decide) (ha _ q428) (fun _ h9 => h9) rfl dX4_isLess_1 ?_
  refine lv_iload_n hx hb dX4_isLess_4 rfl (lv_at hl 1 rfl) ?_
  obtain ⟨i1, h⟩ := ix_ok h
  refine va_iald hx hb hK hP 1 0 rfl rfl i1 dX4_isLess_5 ?_
  refine lv_iload_n hx hb dX4_isLess_6 rfl (lv_at hl 2 rfl) ?_
  refine lv_icmp_lt (tgt := 30) hx hb dX4_isLess_7 (by decide) (fun c2 => ?_) (fun c2 => ?_)
  · have h := br_pos c2 h
    refine lv_iconst (v := 1) hx hb dX4_isLess_30 (by decide) ?_
    refine lv_goto (tgt := 35) hx hb dX4_isLess_31 (by decide) ?_
    cases h
    exact rt_z S hr hlk hP hD hS (by decide) dX4_isLess_35
  · have h := br_neg c2 h
    refine lv_aload_n hx hb dX4_isLess_10 rfl (lv_at hl 0 rfl) ?_
    refine va_get (D := D) (ci := 4) (v := .ref h_t_ys) (C := RX4) (T := TX4) (N := 4) hx hb ha ix4 hown hK hP 0 rfl rfl 1 (by decide) (ha _ q428) (fun _ h9 => h9) rfl dX4_isLess_11 ?_
    refine lv_iload_n hx hb dX4_isLess_14 rfl (lv_at hl 1 rfl) ?_
    obtain ⟨i3, h⟩ := ix_ok h
    refine va_iald hx hb hK hP 1 0 rfl rfl i3 dX4_isLess_15 ?_
    refine lv_iload_n hx hb dX4_isLess_16 rfl (lv_at hl 2 rfl) ?_
    refine lv_icmp_ne (tgt := 34) hx hb dX4_isLess_17 (by decide) (fun c4 => ?_) (fun c4 => ?_)
    · have h := br_neg c4 h
      refine lv_iconst (v := 0) hx hb dX4_isLess_34 (by decide) ?_
      cases h
      exact rt_z S hr hlk hP hD hS (by decide) dX4_isLess_35
    · have h := br_pos c4 h
      refine lv_aload_n hx hb dX4_isLess_20 rfl (lv_at hl 0 rfl) ?_
      refine va_get (D := D) (ci := 4) (v := .ref h_t_zs) (C := RX4) (T := TX4) (N := 4) hx hb ha ix4 hown hK hP 0 rfl rfl 2 (by decide) (ha _ q430) (fun _ h9 => h9) rfl dX4_isLess_21 ?_
      refine lv_iload_n hx hb dX4_isLess_24 rfl (lv_at hl 1 rfl) ?_
      obtain ⟨i5, h⟩ := ix_ok h
      refine va_iald hx hb hK hP 2 1 rfl rfl i5 dX4_isLess_25 ?_
      refine lv_iload_n hx hb dX4_isLess_26 rfl (lv_at hl 3 rfl) ?_
      refine lv_icmp_ge (tgt := 34) hx hb dX4_isLess_27 (by decide) (fun c6 => ?_) (fun c6 => ?_)
      · have h := br_pos c6 h
        refine lv_iconst (v := 0) hx hb dX4_isLess_34 (by decide) ?_
        cases h
        exact rt_z S hr hlk hP hD hS (by decide) dX4_isLess_35
      · have h := br_neg c6 h
        refine lv_iconst (v := 1) hx hb dX4_isLess_30 (by decide) ?_
        refine lv_goto (tgt := 35) hx hb dX4_isLess_31 (by decide) ?_
        cases h
        exact rt_z S hr hlk hP hD hS (by decide) dX4_isLess_35
noncomputable def f_X4_include_L3 (l2 : Int32) (l3 : Int32) (t_size : Int32) (t_ys : Nat → Int32) (t_zs : Nat → Int32) : Nat → Int32 →  Option (Int32)
  | 0, _ => none
  | n + 1, l4 => (
    if t_size ≤ l4 then (
     some l4
    ) else (
     bnd1 (f_X4_isLess t_ys t_zs l4 l2 l3) fun r_c17_1 => (
      if r_c17_1 = 0 then (
       some l4
      ) else (
       f_X4_include_L3 l2 l3 t_size t_ys t_zs n (l4 + 1)
      )
     )
    ))
noncomputable def f_X4_include_L89 (l4 : Int32) : Nat → Int32 → (Nat → Int32) → (Nat → Int32) → (Nat → Int32) →  Option ((Nat → Int32) × (Nat → Int32) × (Nat → Int32))
  | 0, _, _, _, _ => none
  | n + 1, l6, t_lengths, t_ys, t_zs => (
    if l6 ≤ l4 then (
     some (t_lengths, t_ys, t_zs)
    ) else (
     gd (ixb (l6 - 1) 441) (
      gd (ixb l6 441) (
       gd (ixb (l6 - 1) 441) (
        gd (ixb l6 441) (
         gd (ixb (l6 - 1) 441) (
          gd (ixb l6 441) (
           f_X4_include_L89 l4 n (l6 + (-1)) (upd t_lengths l6.toNatClampNeg (t_lengths (l6 - 1).toNatClampNeg)) (upd t_ys l6.toNatClampNeg (t_ys (l6 - 1).toNatClampNeg)) (upd t_zs l6.toNatClampNeg (t_zs (l6 - 1).toNatClampNeg))
          )
         )
        )
       )
      )
     )
    ))
noncomputable def f_X4_include (t_size : Int32) (t_lengths : Nat → Int32) (t_ys : Nat → Int32) (t_zs : Nat → Int32) (l1 : Int32) (l2 : Int32) (l3 : Int32) : Option (Int32 × (Nat → Int32) × (Nat → Int32) × (Nat → Int32)) :=
  bnd1 (f_X4_include_L3 l2 l3 t_size t_ys t_zs FU 0) fun x4_L3_3 => (
   if t_size ≤ x4_L3_3 then (
    if t_size < 441 then (
     bnd3 (f_X4_include_L89 x4_L3_3 FU t_size t_lengths t_ys t_zs) fun x_t_lengths_L89_14 x_t_ys_L89_14 x_t_zs_L89_14 => (
      gd (ixb x4_L3_3 441) (
       gd (ixb x4_L3_3 441) (
        gd (ixb x4_L3_3 441) (
         some ((t_size + 1), (upd x_t_lengths_L89_14 x4_L3_3.toNatClampNeg l1), (upd x_t_ys_L89_14 x4_L3_3.toNatClampNeg l2), (upd x_t_zs_L89_14 x4_L3_3.toNatClampNeg l3))
        )
       )
      )
     )
    ) else (
     some (t_size, t_lengths, t_ys, t_zs)
    )
   ) else (
    gd (ixb x4_L3_3 441) (
     if (t_ys x4_L3_3.toNatClampNeg) = l2 then (
      gd (ixb x4_L3_3 441) (
       if (t_zs x4_L3_3.toNatClampNeg) = l3 then (
        some (t_size, t_lengths, t_ys, t_zs)
       ) else (
        if t_size < 441 then (
         bnd3 (f_X4_include_L89 x4_L3_3 FU t_size t_lengths t_ys t_zs) fun x_t_lengths_L89_25 x_t_ys_L89_25 x_t_zs_L89_25 => (
          gd (ixb x4_L3_3 441) (
           gd (ixb x4_L3_3 441) (
            gd (ixb x4_L3_3 441) (
             some ((t_size + 1), (upd x_t_lengths_L89_25 x4_L3_3.toNatClampNeg l1), (upd x_t_ys_L89_25 x4_L3_3.toNatClampNeg l2), (upd x_t_zs_L89_25 x4_L3_3.toNatClampNeg l3))
            )
           )
          )
         )
        ) else (
         some (t_size, t_lengths, t_ys, t_zs)
        )
       )
      )
     ) else (
      if t_size < 441 then (
       bnd3 (f_X4_include_L89 x4_L3_3 FU t_size t_lengths t_ys t_zs) fun x_t_lengths_L89_31 x_t_ys_L89_31 x_t_zs_L89_31 => (
        gd (ixb x4_L3_3 441) (
         gd (ixb x4_L3_3 441) (
          gd (ixb x4_L3_3 441) (
           some ((t_size + 1), (upd x_t_lengths_L89_31 x4_L3_3.toNatClampNeg l1), (upd x_t_ys_L89_31 x4_L3_3.toNatClampNeg l2), (upd x_t_zs_L89_31 x4_L3_3.toNatClampNeg l3))
          )
         )
        )
       )
      ) else (
       some (t_size, t_lengths, t_ys, t_zs)
      )
     )
    )
   )
  )
set_option maxHeartbeats 4000000 in
set_option maxRecDepth 100000 in
theorem c_X4_include (l : Launch) (D : va_G) (R : va_W) (h_t : Nat) (t_size : Int32) (h_t_lengths : Nat) (k_t_lengths : ClassId) (t_lengths : Nat → Int32) (h_t_ys : Nat) (k_t_ys : ClassId) (t_ys : Nat → Int32) (h_t_zs : Nat) (k_t_zs : ClassId) (t_zs : Nat → Int32) (l1 : Int32) (l2 : Int32) (l3 : Int32) (o_t_size : Int32) (o_t_lengths : Nat → Int32) (o_t_ys : Nat → Int32) (o_t_zs : Nat → Int32)  (h : f_X4_include t_size t_lengths t_ys t_zs l1 l2 l3 = some (o_t_size, o_t_lengths, o_t_ys, o_t_zs)) (sz : Nat) : Met l yX4_include (WD yX4_include cX4_include 7 none) ({ frames := 1, cells := 0, slots := 0, locals := 23 }) (va_Pc [.ref h_t, .int l1, .int l2, .int l3] (PcW D [(k_t_lengths, .int), (k_t_ys, .int), (k_t_zs, .int)] ((h_t, .inr (4, [.ref h_t_lengths, .ref h_t_ys, .ref h_t_zs, .int t_size])) :: (h_t_lengths, .inl (k_t_lengths, 441, .inl t_lengths)) :: (h_t_ys, .inl (k_t_ys, 441, .inl t_ys)) :: (h_t_zs, .inl (k_t_zs, 441, .inl t_zs)) :: R) sz)) (QV D ((h_t, .inr (4, [.ref h_t_lengths, .ref h_t_ys, .ref h_t_zs, .int o_t_size])) :: (h_t_lengths, .inl (k_t_lengths, 441, .inl o_t_lengths)) :: (h_t_ys, .inl (k_t_ys, 441, .inl o_t_ys)) :: (h_t_zs, .inl (k_t_zs, 441, .inl o_t_zs)) :: R) (va_A ((h_t, .inr (4, [.ref h_t_lengths, .ref h_t_ys, .ref h_t_zs, .int t_size])) :: (h_t_lengths, .inl (k_t_lengths, 441, .inl t_lengths)) :: (h_t_ys, .inl (k_t_ys, 441, .inl t_ys)) :: (h_t_zs, .inl (k_t_zs, 441, .inl t_zs)) :: R) sz)) 0 0 (va_A ((h_t, .inr (4, [.ref h_t_lengths, .ref h_t_ys, .ref h_t_zs, .int t_size])) :: (h_t_lengths, .inl (k_t_lengths, 441, .inl t_lengths)) :: (h_t_ys, .inl (k_t_ys, 441, .inl t_ys)) :: (h_t_zs, .inl (k_t_zs, 441, .inl t_zs)) :: R) sz) := by
  refine ct_start (QF := fun A => QV D ((h_t, .inr (4, [.ref h_t_lengths, .ref h_t_ys, .ref h_t_zs, .int o_t_size])) :: (h_t_lengths, .inl (k_t_lengths, 441, .inl o_t_lengths)) :: (h_t_ys, .inl (k_t_ys, 441, .inl o_t_ys)) :: (h_t_zs, .inl (k_t_zs, 441, .inl o_t_zs)) :: R) A) ?_ ?_ ?_
  · decide +kernel
  · exact Nat.le_of_ble_eq_true rfl
  intro p e s m args below meth c A ls S hr hlk hnm hS hA hP hD hK hN hl
  have S : CallFix p m c cX4_include 7 s args AL "DigitBench$RoundList" := S
  have hx := S.1
  have hb := S.2.1
  have hown := S.2.2.2.1
  have ha := S.2.2.2.2
  have hl : lv_has ls 7 [(0, .ref h_t), (1, .int l1), (2, .int l2), (3, .int l3)] := hl
  have L3 : ∀ (Q : State → Prop) (n : Nat) (l1 : Int32) (l2 : Int32) (l3 : Int32) (l4 : Int32) (t_size : Int32) (t_lengths : Nat → Int32) (t_ys : Nat → Int32) (t_zs : Nat → Int32) (x4 : Int32), f_X4_include_L3 l2 l3 t_size t_ys t_zs n l4 = some x4 → ∀ (H : Heap) (locs : List Loc) (ls : Array Slot), va_P D vwCl ((h_t, .inr (4, [.ref h_t_lengths, .ref h_t_ys, .ref h_t_zs, .int t_size])) :: (h_t_lengths, .inl (k_t_lengths, 441, .inl t_lengths)) :: (h_t_ys, .inl (k_t_ys, 441, .inl t_ys)) :: (h_t_zs, .inl (k_t_zs, 441, .inl t_zs)) :: R) H → va_D A ((h_t, .inr (4, [.ref h_t_lengths, .ref h_t_ys, .ref h_t_zs, .int t_size])) :: (h_t_lengths, .inl (k_t_lengths, 441, .inl t_lengths)) :: (h_t_ys, .inl (k_t_ys, 441, .inl t_ys)) :: (h_t_zs, .inl (k_t_zs, 441, .inl t_zs)) :: R) → va_S A s.heap H locs → lv_has ls 7 [(0, .ref h_t), (1, .int l1), (2, .int l2), (3, .int l3), (4, .int l4)] → (∀ (H : Heap) (locs : List Loc) (ls : Array Slot), va_P D vwCl ((h_t, .inr (4, [.ref h_t_lengths, .ref h_t_ys, .ref h_t_zs, .int t_size])) :: (h_t_lengths, .inl (k_t_lengths, 441, .inl t_lengths)) :: (h_t_ys, .inl (k_t_ys, 441, .inl t_ys)) :: (h_t_zs, .inl (k_t_zs, 441, .inl t_zs)) :: R) H → va_D A ((h_t, .inr (4, [.ref h_t_lengths, .ref h_t_ys, .ref h_t_zs, .int t_size])) :: (h_t_lengths, .inl (k_t_lengths, 441, .inl t_lengths)) :: (h_t_ys, .inl (k_t_ys, 441, .inl t_ys)) :: (h_t_zs, .inl (k_t_zs, 441, .inl t_zs)) :: R) → va_S A s.heap H locs → lv_has ls 7 [(0, .ref h_t), (1, .int l1), (2, .int l2), (3, .int l3), (4, .int x4)] → W p l e { frames := 1, cells := 0, slots := 0, locals := 23 } s m args below meth c H locs 0 0 Q (F0 m 29 ls [])) → W p l e { frames := 1, cells := 0, slots := 0, locals := 23 } s m args below meth c H locs 0 0 Q (F0 m 3 ls []) := by
    intro Q n
    induction n with
    | zero =>
      intro l1 l2 l3 l4 t_size t_lengths t_ys t_zs x4 h
      rw [f_X4_include_L3] at h; cases h
    | succ n ih =>
      intro l1 l2 l3 l4 t_size t_lengths t_ys t_zs x4 h H locs ls hP hD hS hl kk0
      rw [f_X4_include_L3] at h
      refine lv_iload hx hb dX4_include_3 (lv_at hl 4 rfl) ?_
      refine lv_aload_n hx hb dX4_include_5 rfl (lv_at hl 0 rfl) ?_
      refine va_get (D := D) (ci := 4) (v := .int t_size) (C := RX4) (T := TX4) (N := 4) hx hb ha ix4 hown hK hP 0 rfl rfl 3 (by decide) (ha _ q432) (fun _ h9 => h9) rfl dX4_include_6 ?_
      refine lv_icmp_ge (tgt := 29) hx hb dX4_include_9 (by decide) (fun c1 => ?_) (fun c1 => ?_)
      · have h := br_pos c1 h
        cases h
        exact kk0 _ _ _ hP hD hS (lv_sub hl [0, 1, 2, 3, 4] rfl)
      · have h := br_neg c1 h
        refine lv_aload_n hx hb dX4_include_12 rfl (lv_at hl 0 rfl) ?_
        refine lv_iload hx hb dX4_include_13 (lv_at hl 4 rfl) ?_
        refine lv_iload_n hx hb dX4_include_15 rfl (lv_at hl 2 rfl) ?_
        refine lv_iload_n hx hb dX4_include_16 rfl (lv_at hl 3 rfl) ?_
        obtain ⟨r_c17_1, e_c17_1, h⟩ := bnd1_ok h
        have hP : va_P D vwCl ((h_t, .inr (4, [.ref h_t_lengths, .ref h_t_ys, .ref h_t_zs, .int t_size])) :: (h_t_ys, .inl (k_t_ys, 441, .inl t_ys)) :: (h_t_zs, .inl (k_t_zs, 441, .inl t_zs)) :: (h_t_lengths, .inl (k_t_lengths, 441, .inl t_lengths)) :: R) _ := pm_P [0, 2, 3, 1] 4 hP
        have hD : va_D A ((h_t, .inr (4, [.ref h_t_lengths, .ref h_t_ys, .ref h_t_zs, .int t_size])) :: (h_t_ys, .inl (k_t_ys, 441, .inl t_ys)) :: (h_t_zs, .inl (k_t_zs, 441, .inl t_zs)) :: (h_t_lengths, .inl (k_t_lengths, 441, .inl t_lengths)) :: R) := pm_D (X := [(h_t, .inr (4, [.ref h_t_lengths, .ref h_t_ys, .ref h_t_zs, .int t_size])), (h_t_ys, .inl (k_t_ys, 441, .inl t_ys)), (h_t_zs, .inl (k_t_zs, 441, .inl t_zs)), (h_t_lengths, .inl (k_t_lengths, 441, .inl t_lengths))]) [0, 2, 3, 1] 4 (by decide) (by decide) rfl hD
        refine cl_z (rn_v (ci := 4) (As := [.int l4, .int l2, .int l3]) (rest := []) S (c_X4_isLess l D ((h_t_lengths, .inl (k_t_lengths, 441, .inl t_lengths)) :: R) h_t (.ref h_t_lengths) (.int t_size) h_t_ys k_t_ys t_ys h_t_zs k_t_zs t_zs l4 l2 l3 r_c17_1 e_c17_1 _) q821 q823 q23 q60 q824 nd_X4_isLess ⟨Nat.le_of_ble_eq_true rfl, Nat.le_of_ble_eq_true rfl⟩ rfl rfl hP hD (hK.sub (tys' := [(k_t_ys, .int), (k_t_zs, .int)]) [1, 2] rfl) hN rfl ⟨0, _, rfl⟩ rfl hl.1 rfl (Nat.le_of_ble_eq_true rfl) dX4_include_17 ⟨Nat.le_of_ble_eq_true rfl, Nat.le_of_ble_eq_true rfl⟩) hS hA hD (fun H locs hP hD hS z_c17_1 => ?_)
        have hP : va_P D vwCl ((h_t, .inr (4, [.ref h_t_lengths, .ref h_t_ys, .ref h_t_zs, .int t_size])) :: (h_t_lengths, .inl (k_t_lengths, 441, .inl t_lengths)) :: (h_t_ys, .inl (k_t_ys, 441, .inl t_ys)) :: (h_t_zs, .inl (k_t_zs, 441, .inl t_zs)) :: R) H := pm_P [0, 3, 1, 2] 4 hP
        have hD : va_D A ((h_t, .inr (4, [.ref h_t_lengths, .ref h_t_ys, .ref h_t_zs, .int t_size])) :: (h_t_lengths, .inl (k_t_lengths, 441, .inl t_lengths)) :: (h_t_ys, .inl (k_t_ys, 441, .inl t_ys)) :: (h_t_zs, .inl (k_t_zs, 441, .inl t_zs)) :: R) := pm_D (X := [(h_t, .inr (4, [.ref h_t_lengths, .ref h_t_ys, .ref h_t_zs, .int t_size])), (h_t_lengths, .inl (k_t_lengths, 441, .inl t_lengths)), (h_t_ys, .inl (k_t_ys, 441, .inl t_ys)), (h_t_zs, .inl (k_t_zs, 441, .inl t_zs))]) [0, 3, 1, 2] 4 (by decide) (by decide) rfl hD
        refine lv_if_eq (tgt := 29) hx hb dX4_include_20 (by decide) (fun c3 => ?_) (fun c3 => ?_)
        · have h := br_pos c3 h
          cases h
          exact kk0 _ _ _ hP hD hS (lv_sub hl [0, 1, 2, 3, 4] rfl)
        · have h := br_neg c3 h
          refine lv_iinc (v := (l4 + 1)) (lv' := [(4, .int (l4 + 1)), (0, .ref h_t), (1, .int l1), (2, .int l2), (3, .int l3)]) hx hb dX4_include_23 hl (k := 4) rfl rfl (by decide) rfl (fun ls hl => ?_)
          refine lv_goto (tgt := 3) hx hb dX4_include_26 (by decide) ?_
          exact ih l1 l2 l3 (l4 + 1) t_size t_lengths t_ys t_zs _ h _ _ _ hP hD hS (lv_sub hl [1, 2, 3, 4, 0] rfl) kk0
  have L89 : ∀ (Q : State → Prop) (n : Nat) (l1 : Int32) (l2 : Int32) (l3 : Int32) (l4 : Int32) (l6 : Int32) (t_size : Int32) (t_lengths : Nat → Int32) (t_ys : Nat → Int32) (t_zs : Nat → Int32) (x_t_lengths : Nat → Int32) (x_t_ys : Nat → Int32) (x_t_zs : Nat → Int32), f_X4_include_L89 l4 n l6 t_lengths t_ys t_zs = some (x_t_lengths, x_t_ys, x_t_zs) → ∀ (H : Heap) (locs : List Loc) (ls : Array Slot), va_P D vwCl ((h_t, .inr (4, [.ref h_t_lengths, .ref h_t_ys, .ref h_t_zs, .int t_size])) :: (h_t_lengths, .inl (k_t_lengths, 441, .inl t_lengths)) :: (h_t_ys, .inl (k_t_ys, 441, .inl t_ys)) :: (h_t_zs, .inl (k_t_zs, 441, .inl t_zs)) :: R) H → va_D A ((h_t, .inr (4, [.ref h_t_lengths, .ref h_t_ys, .ref h_t_zs, .int t_size])) :: (h_t_lengths, .inl (k_t_lengths, 441, .inl t_lengths)) :: (h_t_ys, .inl (k_t_ys, 441, .inl t_ys)) :: (h_t_zs, .inl (k_t_zs, 441, .inl t_zs)) :: R) → va_S A s.heap H locs → lv_has ls 7 [(0, .ref h_t), (1, .int l1), (2, .int l2), (3, .int l3), (4, .int l4), (6, .int l6)] → (∀ (H : Heap) (locs : List Loc) (ls : Array Slot), va_P D vwCl ((h_t, .inr (4, [.ref h_t_lengths, .ref h_t_ys, .ref h_t_zs, .int t_size])) :: (h_t_lengths, .inl (k_t_lengths, 441, .inl x_t_lengths)) :: (h_t_ys, .inl (k_t_ys, 441, .inl x_t_ys)) :: (h_t_zs, .inl (k_t_zs, 441, .inl x_t_zs)) :: R) H → va_D A ((h_t, .inr (4, [.ref h_t_lengths, .ref h_t_ys, .ref h_t_zs, .int t_size])) :: (h_t_lengths, .inl (k_t_lengths, 441, .inl x_t_lengths)) :: (h_t_ys, .inl (k_t_ys, 441, .inl x_t_ys)) :: (h_t_zs, .inl (k_t_zs, 441, .inl x_t_zs)) :: R) → va_S A s.heap H locs → lv_has ls 7 [(0, .ref h_t), (1, .int l1), (2, .int l2), (3, .int l3), (4, .int l4)] → W p l e { frames := 1, cells := 0, slots := 0, locals := 23 } s m args below meth c H locs 0 0 Q (F0 m 150 ls [])) → W p l e { frames := 1, cells := 0, slots := 0, locals := 23 } s m args below meth c H locs 0 0 Q (F0 m 89 ls []) := by
    intro Q n
    induction n with
    | zero =>
      intro l1 l2 l3 l4 l6 t_size t_lengths t_ys t_zs x_t_lengths x_t_ys x_t_zs h
      rw [f_X4_include_L89] at h; cases h
    | succ n ih =>
      intro l1 l2 l3 l4 l6 t_size t_lengths t_ys t_zs x_t_lengths x_t_ys x_t_zs h H locs ls hP hD hS hl kk0
      rw [f_X4_include_L89] at h
      refine lv_iload hx hb dX4_include_89 (lv_at hl 5 rfl) ?_
      refine lv_iload hx hb dX4_include_91 (lv_at hl 4 rfl) ?_
      refine lv_icmp_le (tgt := 150) hx hb dX4_include_93 (by decide) (fun c8 => ?_) (fun c8 => ?_)
      · have h := br_pos c8 h
        cases h
        exact kk0 _ _ _ hP hD hS (lv_sub hl [0, 1, 2, 3, 4] rfl)
      · have h := br_neg c8 h
        refine lv_aload_n hx hb dX4_include_96 rfl (lv_at hl 0 rfl) ?_
        refine va_get (D := D) (ci := 4) (v := .ref h_t_lengths) (C := RX4) (T := TX4) (N := 4) hx hb ha ix4 hown hK hP 0 rfl rfl 0 (by decide) (ha _ q426) (fun _ h9 => h9) rfl dX4_include_97 ?_
        refine lv_iload hx hb dX4_include_100 (lv_at hl 5 rfl) ?_
        refine lv_aload_n hx hb dX4_include_102 rfl (lv_at hl 0 rfl) ?_
        refine va_get (D := D) (ci := 4) (v := .ref h_t_lengths) (C := RX4) (T := TX4) (N := 4) hx hb ha ix4 hown hK hP 0 rfl rfl 0 (by decide) (ha _ q426) (fun _ h9 => h9) rfl dX4_include_103 ?_
        refine lv_iload hx hb dX4_include_106 (lv_at hl 5 rfl) ?_
        refine lv_iconst (v := 1) hx hb dX4_include_108 (by decide) ?_
        refine lv_isub hx hb dX4_include_109 ?_
        obtain ⟨i9, h⟩ := ix_ok h
        refine va_iald hx hb hK hP 1 0 rfl rfl i9 dX4_include_110 ?_
        obtain ⟨i10, h⟩ := ix_ok h
        refine va_iast hx hb hK hP hD hS 1 0 rfl rfl i10 dX4_include_111 (fun H locs hP hD hS => ?_)
        have hP : va_P D vwCl ((h_t, .inr (4, [.ref h_t_lengths, .ref h_t_ys, .ref h_t_zs, .int t_size])) :: (h_t_lengths, .inl (k_t_lengths, 441, .inl (upd t_lengths l6.toNatClampNeg (t_lengths (l6 - 1).toNatClampNeg)))) :: (h_t_ys, .inl (k_t_ys, 441, .inl t_ys)) :: (h_t_zs, .inl (k_t_zs, 441, .inl t_zs)) :: R) H := hP
        have hD : va_D A ((h_t, .inr (4, [.ref h_t_lengths, .ref h_t_ys, .ref h_t_zs, .int t_size])) :: (h_t_lengths, .inl (k_t_lengths, 441, .inl (upd t_lengths l6.toNatClampNeg (t_lengths (l6 - 1).toNatClampNeg)))) :: (h_t_ys, .inl (k_t_ys, 441, .inl t_ys)) :: (h_t_zs, .inl (k_t_zs, 441, .inl t_zs)) :: R) := hD
        refine lv_aload_n hx hb dX4_include_112 rfl (lv_at hl 0 rfl) ?_
        refine va_get (D := D) (ci := 4) (v := .ref h_t_ys) (C := RX4) (T := TX4) (N := 4) hx hb ha ix4 hown hK hP 0 rfl rfl 1 (by decide) (ha _ q428) (fun _ h9 => h9) rfl dX4_include_113 ?_
        refine lv_iload hx hb dX4_include_116 (lv_at hl 5 rfl) ?_
        refine lv_aload_n hx hb dX4_include_118 rfl (lv_at hl 0 rfl) ?_
        refine va_get (D := D) (ci := 4) (v := .ref h_t_ys) (C := RX4) (T := TX4) (N := 4) hx hb ha ix4 hown hK hP 0 rfl rfl 1 (by decide) (ha _ q428) (fun _ h9 => h9) rfl dX4_include_119 ?_
        refine lv_iload hx hb dX4_include_122 (lv_at hl 5 rfl) ?_
        refine lv_iconst (v := 1) hx hb dX4_include_124 (by decide) ?_
        refine lv_isub hx hb dX4_include_125 ?_
        obtain ⟨i11, h⟩ := ix_ok h
        refine va_iald hx hb hK hP 2 1 rfl rfl i11 dX4_include_126 ?_
        obtain ⟨i12, h⟩ := ix_ok h
        refine va_iast hx hb hK hP hD hS 2 1 rfl rfl i12 dX4_include_127 (fun H locs hP hD hS => ?_)
        have hP : va_P D vwCl ((h_t, .inr (4, [.ref h_t_lengths, .ref h_t_ys, .ref h_t_zs, .int t_size])) :: (h_t_lengths, .inl (k_t_lengths, 441, .inl (upd t_lengths l6.toNatClampNeg (t_lengths (l6 - 1).toNatClampNeg)))) :: (h_t_ys, .inl (k_t_ys, 441, .inl (upd t_ys l6.toNatClampNeg (t_ys (l6 - 1).toNatClampNeg)))) :: (h_t_zs, .inl (k_t_zs, 441, .inl t_zs)) :: R) H := hP
        have hD : va_D A ((h_t, .inr (4, [.ref h_t_lengths, .ref h_t_ys, .ref h_t_zs, .int t_size])) :: (h_t_lengths, .inl (k_t_lengths, 441, .inl (upd t_lengths l6.toNatClampNeg (t_lengths (l6 - 1).toNatClampNeg)))) :: (h_t_ys, .inl (k_t_ys, 441, .inl (upd t_ys l6.toNatClampNeg (t_ys (l6 - 1).toNatClampNeg)))) :: (h_t_zs, .inl (k_t_zs, 441, .inl t_zs)) :: R) := hD
        refine lv_aload_n hx hb dX4_include_128 rfl (lv_at hl 0 rfl) ?_
        refine va_get (D := D) (ci := 4) (v := .ref h_t_zs) (C := RX4) (T := TX4) (N := 4) hx hb ha ix4 hown hK hP 0 rfl rfl 2 (by decide) (ha _ q430) (fun _ h9 => h9) rfl dX4_include_129 ?_
        refine lv_iload hx hb dX4_include_132 (lv_at hl 5 rfl) ?_
        refine lv_aload_n hx hb dX4_include_134 rfl (lv_at hl 0 rfl) ?_
        refine va_get (D := D) (ci := 4) (v := .ref h_t_zs) (C := RX4) (T := TX4) (N := 4) hx hb ha ix4 hown hK hP 0 rfl rfl 2 (by decide) (ha _ q430) (fun _ h9 => h9) rfl dX4_include_135 ?_
        refine lv_iload hx hb dX4_include_138 (lv_at hl 5 rfl) ?_
        refine lv_iconst (v := 1) hx hb dX4_include_140 (by decide) ?_
        refine lv_isub hx hb dX4_include_141 ?_
        obtain ⟨i13, h⟩ := ix_ok h
        refine va_iald hx hb hK hP 3 2 rfl rfl i13 dX4_include_142 ?_
        obtain ⟨i14, h⟩ := ix_ok h
        refine va_iast hx hb hK hP hD hS 3 2 rfl rfl i14 dX4_include_143 (fun H locs hP hD hS => ?_)
        have hP : va_P D vwCl ((h_t, .inr (4, [.ref h_t_lengths, .ref h_t_ys, .ref h_t_zs, .int t_size])) :: (h_t_lengths, .inl (k_t_lengths, 441, .inl (upd t_lengths l6.toNatClampNeg (t_lengths (l6 - 1).toNatClampNeg)))) :: (h_t_ys, .inl (k_t_ys, 441, .inl (upd t_ys l6.toNatClampNeg (t_ys (l6 - 1).toNatClampNeg)))) :: (h_t_zs, .inl (k_t_zs, 441, .inl (upd t_zs l6.toNatClampNeg (t_zs (l6 - 1).toNatClampNeg)))) :: R) H := hP
        have hD : va_D A ((h_t, .inr (4, [.ref h_t_lengths, .ref h_t_ys, .ref h_t_zs, .int t_size])) :: (h_t_lengths, .inl (k_t_lengths, 441, .inl (upd t_lengths l6.toNatClampNeg (t_lengths (l6 - 1).toNatClampNeg)))) :: (h_t_ys, .inl (k_t_ys, 441, .inl (upd t_ys l6.toNatClampNeg (t_ys (l6 - 1).toNatClampNeg)))) :: (h_t_zs, .inl (k_t_zs, 441, .inl (upd t_zs l6.toNatClampNeg (t_zs (l6 - 1).toNatClampNeg)))) :: R) := hD
        refine lv_iinc (v := (l6 + (-1))) (lv' := [(6, .int (l6 + (-1))), (0, .ref h_t), (1, .int l1), (2, .int l2), (3, .int l3), (4, .int l4)]) hx hb dX4_include_144 hl (k := 5) rfl rfl (by decide) rfl (fun ls hl => ?_)
        refine lv_goto (tgt := 89) hx hb dX4_include_147 (by decide) ?_
        exact ih l1 l2 l3 l4 (l6 + (-1)) t_size (upd t_lengths l6.toNatClampNeg (t_lengths (l6 - 1).toNatClampNeg)) (upd t_ys l6.toNatClampNeg (t_ys (l6 - 1).toNatClampNeg)) (upd t_zs l6.toNatClampNeg (t_zs (l6 - 1).toNatClampNeg)) _ _ _ h _ _ _ hP hD hS (lv_sub hl [1, 2, 3, 4, 5, 0] rfl) kk0
  unfold f_X4_include at h
  refine lv_iconst (v := 0) hx hb dX4_include_0 (by decide) ?_
  refine lv_istore (lv' := [(4, .int 0), (0, .ref h_t), (1, .int l1), (2, .int l2), (3, .int l3)]) hx hb dX4_include_1 hl (by decide) rfl (fun ls hl => ?_)
  obtain ⟨x4_L3_3, e_L3_3, h⟩ := bnd1_ok h
  refine L3 _ _ l1 l2 l3 0 t_size t_lengths t_ys t_zs x4_L3_3 e_L3_3 _ _ _ hP hD hS (lv_sub hl [1, 2, 3, 4, 0] rfl) ?_
  intro H locs ls hP hD hS hl
  refine lv_iload hx hb dX4_include_29 (lv_at hl 4 rfl) ?_
  refine lv_aload_n hx hb dX4_include_31 rfl (lv_at hl 0 rfl) ?_
  refine va_get (D := D) (ci := 4) (v := .int t_size) (C := RX4) (T := TX4) (N := 4) hx hb ha ix4 hown hK hP 0 rfl rfl 3 (by decide) (ha _ q432) (fun _ h9 => h9) rfl dX4_include_32 ?_
  refine lv_icmp_ge (tgt := 64) hx hb dX4_include_35 (by decide) (fun c5 => ?_) (fun c5 => ?_)
  · have h := br_pos c5 h
    refine lv_iconst (v := 0) hx hb dX4_include_64 (by decide) ?_
    refine lv_istore (lv' := [(5, .int 0), (0, .ref h_t), (1, .int l1), (2, .int l2), (3, .int l3), (4, .int x4_L3_3)]) hx hb dX4_include_65 hl (by decide) rfl (fun ls hl => ?_)
    refine lv_iload hx hb dX4_include_67 (lv_at hl 0 rfl) ?_
    refine lv_if_ne (tgt := 82) hx hb dX4_include_69 (by decide) (fun c6 => ?_) (fun c6 => ?_)
    · exact absurd c6 (by decide)
    · refine lv_aload_n hx hb dX4_include_72 rfl (lv_at hl 1 rfl) ?_
      refine va_get (D := D) (ci := 4) (v := .int t_size) (C := RX4) (T := TX4) (N := 4) hx hb ha ix4 hown hK hP 0 rfl rfl 3 (by decide) (ha _ q432) (fun _ h9 => h9) rfl dX4_include_73 ?_
      refine lv_sipush (v := 441) hx hb dX4_include_76 (by decide) ?_
      refine lv_icmp_lt (tgt := 83) hx hb dX4_include_79 (by decide) (fun c7 => ?_) (fun c7 => ?_)
      · have h := br_pos c7 h
        refine lv_aload_n hx hb dX4_include_83 rfl (lv_at hl 1 rfl) ?_
        refine va_get (D := D) (ci := 4) (v := .int t_size) (C := RX4) (T := TX4) (N := 4) hx hb ha ix4 hown hK hP 0 rfl rfl 3 (by decide) (ha _ q432) (fun _ h9 => h9) rfl dX4_include_84 ?_
        refine lv_istore (lv' := [(6, .int t_size), (5, .int 0), (0, .ref h_t), (1, .int l1), (2, .int l2), (3, .int l3), (4, .int x4_L3_3)]) hx hb dX4_include_87 hl (by decide) rfl (fun ls hl => ?_)
        obtain ⟨x_t_lengths_L89_14, x_t_ys_L89_14, x_t_zs_L89_14, e_L89_14, h⟩ := bnd3_ok h
        refine L89 _ _ l1 l2 l3 x4_L3_3 t_size t_size t_lengths t_ys t_zs x_t_lengths_L89_14 x_t_ys_L89_14 x_t_zs_L89_14 e_L89_14 _ _ _ hP hD hS (lv_sub hl [2, 3, 4, 5, 6, 0] rfl) ?_
        intro H locs ls hP hD hS hl
        refine lv_aload_n hx hb dX4_include_150 rfl (lv_at hl 0 rfl) ?_
        refine va_get (D := D) (ci := 4) (v := .ref h_t_lengths) (C := RX4) (T := TX4) (N := 4) hx hb ha ix4 hown hK hP 0 rfl rfl 0 (by decide) (ha _ q426) (fun _ h9 => h9) rfl dX4_include_151 ?_
        refine lv_iload hx hb dX4_include_154 (lv_at hl 4 rfl) ?_
        refine lv_iload_n hx hb dX4_include_156 rfl (lv_at hl 1 rfl) ?_
        obtain ⟨i16, h⟩ := ix_ok h
        refine va_iast hx hb hK hP hD hS 1 0 rfl rfl i16 dX4_include_157 (fun H locs hP hD hS => ?_)
        have hP : va_P D vwCl ((h_t, .inr (4, [.ref h_t_lengths, .ref h_t_ys, .ref h_t_zs, .int t_size])) :: (h_t_lengths, .inl (k_t_lengths, 441, .inl (upd x_t_lengths_L89_14 x4_L3_3.toNatClampNeg l1))) :: (h_t_ys, .inl (k_t_ys, 441, .inl x_t_ys_L89_14)) :: (h_t_zs, .inl (k_t_zs, 441, .inl x_t_zs_L89_14)) :: R) H := hP
        have hD : va_D A ((h_t, .inr (4, [.ref h_t_lengths, .ref h_t_ys, .ref h_t_zs, .int t_size])) :: (h_t_lengths, .inl (k_t_lengths, 441, .inl (upd x_t_lengths_L89_14 x4_L3_3.toNatClampNeg l1))) :: (h_t_ys, .inl (k_t_ys, 441, .inl x_t_ys_L89_14)) :: (h_t_zs, .inl (k_t_zs, 441, .inl x_t_zs_L89_14)) :: R) := hD
        refine lv_aload_n hx hb dX4_include_158 rfl (lv_at hl 0 rfl) ?_
        refine va_get (D := D) (ci := 4) (v := .ref h_t_ys) (C := RX4) (T := TX4) (N := 4) hx hb ha ix4 hown hK hP 0 rfl rfl 1 (by decide) (ha _ q428) (fun _ h9 => h9) rfl dX4_include_159 ?_
        refine lv_iload hx hb dX4_include_162 (lv_at hl 4 rfl) ?_
        refine lv_iload_n hx hb dX4_include_164 rfl (lv_at hl 2 rfl) ?_
        obtain ⟨i17, h⟩ := ix_ok h
        refine va_iast hx hb hK hP hD hS 2 1 rfl rfl i17 dX4_include_165 (fun H locs hP hD hS => ?_)
        have hP : va_P D vwCl ((h_t, .inr (4, [.ref h_t_lengths, .ref h_t_ys, .ref h_t_zs, .int t_size])) :: (h_t_lengths, .inl (k_t_lengths, 441, .inl (upd x_t_lengths_L89_14 x4_L3_3.toNatClampNeg l1))) :: (h_t_ys, .inl (k_t_ys, 441, .inl (upd x_t_ys_L89_14 x4_L3_3.toNatClampNeg l2))) :: (h_t_zs, .inl (k_t_zs, 441, .inl x_t_zs_L89_14)) :: R) H := hP
        have hD : va_D A ((h_t, .inr (4, [.ref h_t_lengths, .ref h_t_ys, .ref h_t_zs, .int t_size])) :: (h_t_lengths, .inl (k_t_lengths, 441, .inl (upd x_t_lengths_L89_14 x4_L3_3.toNatClampNeg l1))) :: (h_t_ys, .inl (k_t_ys, 441, .inl (upd x_t_ys_L89_14 x4_L3_3.toNatClampNeg l2))) :: (h_t_zs, .inl (k_t_zs, 441, .inl x_t_zs_L89_14)) :: R) := hD
        refine lv_aload_n hx hb dX4_include_166 rfl (lv_at hl 0 rfl) ?_
        refine va_get (D := D) (ci := 4) (v := .ref h_t_zs) (C := RX4) (T := TX4) (N := 4) hx hb ha ix4 hown hK hP 0 rfl rfl 2 (by decide) (ha _ q430) (fun _ h9 => h9) rfl dX4_include_167 ?_
        refine lv_iload hx hb dX4_include_170 (lv_at hl 4 rfl) ?_
        refine lv_iload_n hx hb dX4_include_172 rfl (lv_at hl 3 rfl) ?_
        obtain ⟨i18, h⟩ := ix_ok h
        refine va_iast hx hb hK hP hD hS 3 2 rfl rfl i18 dX4_include_173 (fun H locs hP hD hS => ?_)
        have hP : va_P D vwCl ((h_t, .inr (4, [.ref h_t_lengths, .ref h_t_ys, .ref h_t_zs, .int t_size])) :: (h_t_lengths, .inl (k_t_lengths, 441, .inl (upd x_t_lengths_L89_14 x4_L3_3.toNatClampNeg l1))) :: (h_t_ys, .inl (k_t_ys, 441, .inl (upd x_t_ys_L89_14 x4_L3_3.toNatClampNeg l2))) :: (h_t_zs, .inl (k_t_zs, 441, .inl (upd x_t_zs_L89_14 x4_L3_3.toNatClampNeg l3))) :: R) H := hP
        have hD : va_D A ((h_t, .inr (4, [.ref h_t_lengths, .ref h_t_ys, .ref h_t_zs, .int t_size])) :: (h_t_lengths, .inl (k_t_lengths, 441, .inl (upd x_t_lengths_L89_14 x4_L3_3.toNatClampNeg l1))) :: (h_t_ys, .inl (k_t_ys, 441, .inl (upd x_t_ys_L89_14 x4_L3_3.toNatClampNeg l2))) :: (h_t_zs, .inl (k_t_zs, 441, .inl (upd x_t_zs_L89_14 x4_L3_3.toNatClampNeg l3))) :: R) := hD
        refine lv_aload_n hx hb dX4_include_174 rfl (lv_at hl 0 rfl) ?_
        refine lv_dup hx hb dX4_include_175 rfl ?_
        refine va_get (D := D) (ci := 4) (v := .int t_size) (C := RX4) (T := TX4) (N := 4) hx hb ha ix4 hown hK hP 0 rfl rfl 3 (by decide) (ha _ q432) (fun _ h9 => h9) rfl dX4_include_176 ?_
        refine lv_iconst (v := 1) hx hb dX4_include_179 (by decide) ?_
        refine lv_iadd hx hb dX4_include_180 ?_
        refine va_put (D := D) (ci := 4) (v := .int (t_size + 1)) (ty := .int) (C := RX4) (T := TX4) (N := 4) hx hb ha ix4 tyX4 tyX4_ok nmX4 hown hK hP hD hS 0 rfl rfl 3 (by decide) (ha _ q432) (fun _ h9 => h9) rfl (by decide +kernel) rfl rfl (Nat.le_of_ble_eq_true rfl) dX4_include_181 (fun H locs hP hD hS => ?_)
        have hP : va_P D vwCl ((h_t, .inr (4, [.ref h_t_lengths, .ref h_t_ys, .ref h_t_zs, .int (t_size + 1)])) :: (h_t_lengths, .inl (k_t_lengths, 441, .inl (upd x_t_lengths_L89_14 x4_L3_3.toNatClampNeg l1))) :: (h_t_ys, .inl (k_t_ys, 441, .inl (upd x_t_ys_L89_14 x4_L3_3.toNatClampNeg l2))) :: (h_t_zs, .inl (k_t_zs, 441, .inl (upd x_t_zs_L89_14 x4_L3_3.toNatClampNeg l3))) :: R) H := hP
        have hD : va_D A ((h_t, .inr (4, [.ref h_t_lengths, .ref h_t_ys, .ref h_t_zs, .int (t_size + 1)])) :: (h_t_lengths, .inl (k_t_lengths, 441, .inl (upd x_t_lengths_L89_14 x4_L3_3.toNatClampNeg l1))) :: (h_t_ys, .inl (k_t_ys, 441, .inl (upd x_t_ys_L89_14 x4_L3_3.toNatClampNeg l2))) :: (h_t_zs, .inl (k_t_zs, 441, .inl (upd x_t_zs_L89_14 x4_L3_3.toNatClampNeg l3))) :: R) := hD
        cases h
        exact rt_v S hr hlk hP hD hS dX4_include_184
      · have h := br_neg c7 h
        cases h
        exact rt_v S hr hlk hP hD hS dX4_include_82
  · have h := br_neg c5 h
    refine lv_aload_n hx hb dX4_include_38 rfl (lv_at hl 0 rfl) ?_
    refine va_get (D := D) (ci := 4) (v := .ref h_t_ys) (C := RX4) (T := TX4) (N := 4) hx hb ha ix4 hown hK hP 0 rfl rfl 1 (by decide) (ha _ q428) (fun _ h9 => h9) rfl dX4_include_39 ?_
    refine lv_iload hx hb dX4_include_42 (lv_at hl 4 rfl) ?_
    obtain ⟨i19, h⟩ := ix_ok h
    refine va_iald hx hb hK hP 2 1 rfl rfl i19 dX4_include_44 ?_
    refine lv_iload_n hx hb dX4_include_45 rfl (lv_at hl 2 rfl) ?_
    refine lv_icmp_ne (tgt := 64) hx hb dX4_include_46 (by decide) (fun c20 => ?_) (fun c20 => ?_)
    · have h := br_neg c20 h
      refine lv_iconst (v := 0) hx hb dX4_include_64 (by decide) ?_
      refine lv_istore (lv' := [(5, .int 0), (0, .ref h_t), (1, .int l1), (2, .int l2), (3, .int l3), (4, .int x4_L3_3)]) hx hb dX4_include_65 hl (by decide) rfl (fun ls hl => ?_)
      refine lv_iload hx hb dX4_include_67 (lv_at hl 0 rfl) ?_
      refine lv_if_ne (tgt := 82) hx hb dX4_include_69 (by decide) (fun c30 => ?_) (fun c30 => ?_)
      · exact absurd c30 (by decide)
      · refine lv_aload_n hx hb dX4_include_72 rfl (lv_at hl 1 rfl) ?_
        refine va_get (D := D) (ci := 4) (v := .int t_size) (C := RX4) (T := TX4) (N := 4) hx hb ha ix4 hown hK hP 0 rfl rfl 3 (by decide) (ha _ q432) (fun _ h9 => h9) rfl dX4_include_73 ?_
        refine lv_sipush (v := 441) hx hb dX4_include_76 (by decide) ?_
        refine lv_icmp_lt (tgt := 83) hx hb dX4_include_79 (by decide) (fun c31 => ?_) (fun c31 => ?_)
        · have h := br_pos c31 h
          refine lv_aload_n hx hb dX4_include_83 rfl (lv_at hl 1 rfl) ?_
          refine va_get (D := D) (ci := 4) (v := .int t_size) (C := RX4) (T := TX4) (N := 4) hx hb ha ix4 hown hK hP 0 rfl rfl 3 (by decide) (ha _ q432) (fun _ h9 => h9) rfl dX4_include_84 ?_
          refine lv_istore (lv' := [(6, .int t_size), (5, .int 0), (0, .ref h_t), (1, .int l1), (2, .int l2), (3, .int l3), (4, .int x4_L3_3)]) hx hb dX4_include_87 hl (by decide) rfl (fun ls hl => ?_)
          obtain ⟨x_t_lengths_L89_31, x_t_ys_L89_31, x_t_zs_L89_31, e_L89_31, h⟩ := bnd3_ok h
          refine L89 _ _ l1 l2 l3 x4_L3_3 t_size t_size t_lengths t_ys t_zs x_t_lengths_L89_31 x_t_ys_L89_31 x_t_zs_L89_31 e_L89_31 _ _ _ hP hD hS (lv_sub hl [2, 3, 4, 5, 6, 0] rfl) ?_
          intro H locs ls hP hD hS hl
          refine lv_aload_n hx hb dX4_include_150 rfl (lv_at hl 0 rfl) ?_
          refine va_get (D := D) (ci := 4) (v := .ref h_t_lengths) (C := RX4) (T := TX4) (N := 4) hx hb ha ix4 hown hK hP 0 rfl rfl 0 (by decide) (ha _ q426) (fun _ h9 => h9) rfl dX4_include_151 ?_
          refine lv_iload hx hb dX4_include_154 (lv_at hl 4 rfl) ?_
          refine lv_iload_n hx hb dX4_include_156 rfl (lv_at hl 1 rfl) ?_
          obtain ⟨i33, h⟩ := ix_ok h
          refine va_iast hx hb hK hP hD hS 1 0 rfl rfl i33 dX4_include_157 (fun H locs hP hD hS => ?_)
          have hP : va_P D vwCl ((h_t, .inr (4, [.ref h_t_lengths, .ref h_t_ys, .ref h_t_zs, .int t_size])) :: (h_t_lengths, .inl (k_t_lengths, 441, .inl (upd x_t_lengths_L89_31 x4_L3_3.toNatClampNeg l1))) :: (h_t_ys, .inl (k_t_ys, 441, .inl x_t_ys_L89_31)) :: (h_t_zs, .inl (k_t_zs, 441, .inl x_t_zs_L89_31)) :: R) H := hP
          have hD : va_D A ((h_t, .inr (4, [.ref h_t_lengths, .ref h_t_ys, .ref h_t_zs, .int t_size])) :: (h_t_lengths, .inl (k_t_lengths, 441, .inl (upd x_t_lengths_L89_31 x4_L3_3.toNatClampNeg l1))) :: (h_t_ys, .inl (k_t_ys, 441, .inl x_t_ys_L89_31)) :: (h_t_zs, .inl (k_t_zs, 441, .inl x_t_zs_L89_31)) :: R) := hD
          refine lv_aload_n hx hb dX4_include_158 rfl (lv_at hl 0 rfl) ?_
          refine va_get (D := D) (ci := 4) (v := .ref h_t_ys) (C := RX4) (T := TX4) (N := 4) hx hb ha ix4 hown hK hP 0 rfl rfl 1 (by decide) (ha _ q428) (fun _ h9 => h9) rfl dX4_include_159 ?_
          refine lv_iload hx hb dX4_include_162 (lv_at hl 4 rfl) ?_
          refine lv_iload_n hx hb dX4_include_164 rfl (lv_at hl 2 rfl) ?_
          obtain ⟨i34, h⟩ := ix_ok h
          refine va_iast hx hb hK hP hD hS 2 1 rfl rfl i34 dX4_include_165 (fun H locs hP hD hS => ?_)
          have hP : va_P D vwCl ((h_t, .inr (4, [.ref h_t_lengths, .ref h_t_ys, .ref h_t_zs, .int t_size])) :: (h_t_lengths, .inl (k_t_lengths, 441, .inl (upd x_t_lengths_L89_31 x4_L3_3.toNatClampNeg l1))) :: (h_t_ys, .inl (k_t_ys, 441, .inl (upd x_t_ys_L89_31 x4_L3_3.toNatClampNeg l2))) :: (h_t_zs, .inl (k_t_zs, 441, .inl x_t_zs_L89_31)) :: R) H := hP
          have hD : va_D A ((h_t, .inr (4, [.ref h_t_lengths, .ref h_t_ys, .ref h_t_zs, .int t_size])) :: (h_t_lengths, .inl (k_t_lengths, 441, .inl (upd x_t_lengths_L89_31 x4_L3_3.toNatClampNeg l1))) :: (h_t_ys, .inl (k_t_ys, 441, .inl (upd x_t_ys_L89_31 x4_L3_3.toNatClampNeg l2))) :: (h_t_zs, .inl (k_t_zs, 441, .inl x_t_zs_L89_31)) :: R) := hD
          refine lv_aload_n hx hb dX4_include_166 rfl (lv_at hl 0 rfl) ?_
          refine va_get (D := D) (ci := 4) (v := .ref h_t_zs) (C := RX4) (T := TX4) (N := 4) hx hb ha ix4 hown hK hP 0 rfl rfl 2 (by decide) (ha _ q430) (fun _ h9 => h9) rfl dX4_include_167 ?_
          refine lv_iload hx hb dX4_include_170 (lv_at hl 4 rfl) ?_
          refine lv_iload_n hx hb dX4_include_172 rfl (lv_at hl 3 rfl) ?_
          obtain ⟨i35, h⟩ := ix_ok h
          refine va_iast hx hb hK hP hD hS 3 2 rfl rfl i35 dX4_include_173 (fun H locs hP hD hS => ?_)
          have hP : va_P D vwCl ((h_t, .inr (4, [.ref h_t_lengths, .ref h_t_ys, .ref h_t_zs, .int t_size])) :: (h_t_lengths, .inl (k_t_lengths, 441, .inl (upd x_t_lengths_L89_31 x4_L3_3.toNatClampNeg l1))) :: (h_t_ys, .inl (k_t_ys, 441, .inl (upd x_t_ys_L89_31 x4_L3_3.toNatClampNeg l2))) :: (h_t_zs, .inl (k_t_zs, 441, .inl (upd x_t_zs_L89_31 x4_L3_3.toNatClampNeg l3))) :: R) H := hP
          have hD : va_D A ((h_t, .inr (4, [.ref h_t_lengths, .ref h_t_ys, .ref h_t_zs, .int t_size])) :: (h_t_lengths, .inl (k_t_lengths, 441, .inl (upd x_t_lengths_L89_31 x4_L3_3.toNatClampNeg l1))) :: (h_t_ys, .inl (k_t_ys, 441, .inl (upd x_t_ys_L89_31 x4_L3_3.toNatClampNeg l2))) :: (h_t_zs, .inl (k_t_zs, 441, .inl (upd x_t_zs_L89_31 x4_L3_3.toNatClampNeg l3))) :: R) := hD
          refine lv_aload_n hx hb dX4_include_174 rfl (lv_at hl 0 rfl) ?_
          refine lv_dup hx hb dX4_include_175 rfl ?_
          refine va_get (D := D) (ci := 4) (v := .int t_size) (C := RX4) (T := TX4) (N := 4) hx hb ha ix4 hown hK hP 0 rfl rfl 3 (by decide) (ha _ q432) (fun _ h9 => h9) rfl dX4_include_176 ?_
          refine lv_iconst (v := 1) hx hb dX4_include_179 (by decide) ?_
          refine lv_iadd hx hb dX4_include_180 ?_
          refine va_put (D := D) (ci := 4) (v := .int (t_size + 1)) (ty := .int) (C := RX4) (T := TX4) (N := 4) hx hb ha ix4 tyX4 tyX4_ok nmX4 hown hK hP hD hS 0 rfl rfl 3 (by decide) (ha _ q432) (fun _ h9 => h9) rfl (by decide +kernel) rfl rfl (Nat.le_of_ble_eq_true rfl) dX4_include_181 (fun H locs hP hD hS => ?_)
          have hP : va_P D vwCl ((h_t, .inr (4, [.ref h_t_lengths, .ref h_t_ys, .ref h_t_zs, .int (t_size + 1)])) :: (h_t_lengths, .inl (k_t_lengths, 441, .inl (upd x_t_lengths_L89_31 x4_L3_3.toNatClampNeg l1))) :: (h_t_ys, .inl (k_t_ys, 441, .inl (upd x_t_ys_L89_31 x4_L3_3.toNatClampNeg l2))) :: (h_t_zs, .inl (k_t_zs, 441, .inl (upd x_t_zs_L89_31 x4_L3_3.toNatClampNeg l3))) :: R) H := hP
          have hD : va_D A ((h_t, .inr (4, [.ref h_t_lengths, .ref h_t_ys, .ref h_t_zs, .int (t_size + 1)])) :: (h_t_lengths, .inl (k_t_lengths, 441, .inl (upd x_t_lengths_L89_31 x4_L3_3.toNatClampNeg l1))) :: (h_t_ys, .inl (k_t_ys, 441, .inl (upd x_t_ys_L89_31 x4_L3_3.toNatClampNeg l2))) :: (h_t_zs, .inl (k_t_zs, 441, .inl (upd x_t_zs_L89_31 x4_L3_3.toNatClampNeg l3))) :: R) := hD
          cases h
          exact rt_v S hr hlk hP hD hS dX4_include_184
        · have h := br_neg c31 h
          cases h
          exact rt_v S hr hlk hP hD hS dX4_include_82
    · have h := br_pos c20 h
      refine lv_aload_n hx hb dX4_include_49 rfl (lv_at hl 0 rfl) ?_
      refine va_get (D := D) (ci := 4) (v := .ref h_t_zs) (C := RX4) (T := TX4) (N := 4) hx hb ha ix4 hown hK hP 0 rfl rfl 2 (by decide) (ha _ q430) (fun _ h9 => h9) rfl dX4_include_50 ?_
      refine lv_iload hx hb dX4_include_53 (lv_at hl 4 rfl) ?_
      obtain ⟨i21, h⟩ := ix_ok h
      refine va_iald hx hb hK hP 3 2 rfl rfl i21 dX4_include_55 ?_
      refine lv_iload_n hx hb dX4_include_56 rfl (lv_at hl 3 rfl) ?_
      refine lv_icmp_ne (tgt := 64) hx hb dX4_include_57 (by decide) (fun c22 => ?_) (fun c22 => ?_)
      · have h := br_neg c22 h
        refine lv_iconst (v := 0) hx hb dX4_include_64 (by decide) ?_
        refine lv_istore (lv' := [(5, .int 0), (0, .ref h_t), (1, .int l1), (2, .int l2), (3, .int l3), (4, .int x4_L3_3)]) hx hb dX4_include_65 hl (by decide) rfl (fun ls hl => ?_)
        refine lv_iload hx hb dX4_include_67 (lv_at hl 0 rfl) ?_
        refine lv_if_ne (tgt := 82) hx hb dX4_include_69 (by decide) (fun c24 => ?_) (fun c24 => ?_)
        · exact absurd c24 (by decide)
        · refine lv_aload_n hx hb dX4_include_72 rfl (lv_at hl 1 rfl) ?_
          refine va_get (D := D) (ci := 4) (v := .int t_size) (C := RX4) (T := TX4) (N := 4) hx hb ha ix4 hown hK hP 0 rfl rfl 3 (by decide) (ha _ q432) (fun _ h9 => h9) rfl dX4_include_73 ?_
          refine lv_sipush (v := 441) hx hb dX4_include_76 (by decide) ?_
          refine lv_icmp_lt (tgt := 83) hx hb dX4_include_79 (by decide) (fun c25 => ?_) (fun c25 => ?_)
          · have h := br_pos c25 h
            refine lv_aload_n hx hb dX4_include_83 rfl (lv_at hl 1 rfl) ?_
            refine va_get (D := D) (ci := 4) (v := .int t_size) (C := RX4) (T := TX4) (N := 4) hx hb ha ix4 hown hK hP 0 rfl rfl 3 (by decide) (ha _ q432) (fun _ h9 => h9) rfl dX4_include_84 ?_
            refine lv_istore (lv' := [(6, .int t_size), (5, .int 0), (0, .ref h_t), (1, .int l1), (2, .int l2), (3, .int l3), (4, .int x4_L3_3)]) hx hb dX4_include_87 hl (by decide) rfl (fun ls hl => ?_)
            obtain ⟨x_t_lengths_L89_25, x_t_ys_L89_25, x_t_zs_L89_25, e_L89_25, h⟩ := bnd3_ok h
            refine L89 _ _ l1 l2 l3 x4_L3_3 t_size t_size t_lengths t_ys t_zs x_t_lengths_L89_25 x_t_ys_L89_25 x_t_zs_L89_25 e_L89_25 _ _ _ hP hD hS (lv_sub hl [2, 3, 4, 5, 6, 0] rfl) ?_
            intro H locs ls hP hD hS hl
            refine lv_aload_n hx hb dX4_include_150 rfl (lv_at hl 0 rfl) ?_
            refine va_get (D := D) (ci := 4) (v := .ref h_t_lengths) (C := RX4) (T := TX4) (N := 4) hx hb ha ix4 hown hK hP 0 rfl rfl 0 (by decide) (ha _ q426) (fun _ h9 => h9) rfl dX4_include_151 ?_
            refine lv_iload hx hb dX4_include_154 (lv_at hl 4 rfl) ?_
            refine lv_iload_n hx hb dX4_include_156 rfl (lv_at hl 1 rfl) ?_
            obtain ⟨i27, h⟩ := ix_ok h
            refine va_iast hx hb hK hP hD hS 1 0 rfl rfl i27 dX4_include_157 (fun H locs hP hD hS => ?_)
            have hP : va_P D vwCl ((h_t, .inr (4, [.ref h_t_lengths, .ref h_t_ys, .ref h_t_zs, .int t_size])) :: (h_t_lengths, .inl (k_t_lengths, 441, .inl (upd x_t_lengths_L89_25 x4_L3_3.toNatClampNeg l1))) :: (h_t_ys, .inl (k_t_ys, 441, .inl x_t_ys_L89_25)) :: (h_t_zs, .inl (k_t_zs, 441, .inl x_t_zs_L89_25)) :: R) H := hP
            have hD : va_D A ((h_t, .inr (4, [.ref h_t_lengths, .ref h_t_ys, .ref h_t_zs, .int t_size])) :: (h_t_lengths, .inl (k_t_lengths, 441, .inl (upd x_t_lengths_L89_25 x4_L3_3.toNatClampNeg l1))) :: (h_t_ys, .inl (k_t_ys, 441, .inl x_t_ys_L89_25)) :: (h_t_zs, .inl (k_t_zs, 441, .inl x_t_zs_L89_25)) :: R) := hD
            refine lv_aload_n hx hb dX4_include_158 rfl (lv_at hl 0 rfl) ?_
            refine va_get (D := D) (ci := 4) (v := .ref h_t_ys) (C := RX4) (T := TX4) (N := 4) hx hb ha ix4 hown hK hP 0 rfl rfl 1 (by decide) (ha _ q428) (fun _ h9 => h9) rfl dX4_include_159 ?_
            refine lv_iload hx hb dX4_include_162 (lv_at hl 4 rfl) ?_
            refine lv_iload_n hx hb dX4_include_164 rfl (lv_at hl 2 rfl) ?_
            obtain ⟨i28, h⟩ := ix_ok h
            refine va_iast hx hb hK hP hD hS 2 1 rfl rfl i28 dX4_include_165 (fun H locs hP hD hS => ?_)
            have hP : va_P D vwCl ((h_t, .inr (4, [.ref h_t_lengths, .ref h_t_ys, .ref h_t_zs, .int t_size])) :: (h_t_lengths, .inl (k_t_lengths, 441, .inl (upd x_t_lengths_L89_25 x4_L3_3.toNatClampNeg l1))) :: (h_t_ys, .inl (k_t_ys, 441, .inl (upd x_t_ys_L89_25 x4_L3_3.toNatClampNeg l2))) :: (h_t_zs, .inl (k_t_zs, 441, .inl x_t_zs_L89_25)) :: R) H := hP
            have hD : va_D A ((h_t, .inr (4, [.ref h_t_lengths, .ref h_t_ys, .ref h_t_zs, .int t_size])) :: (h_t_lengths, .inl (k_t_lengths, 441, .inl (upd x_t_lengths_L89_25 x4_L3_3.toNatClampNeg l1))) :: (h_t_ys, .inl (k_t_ys, 441, .inl (upd x_t_ys_L89_25 x4_L3_3.toNatClampNeg l2))) :: (h_t_zs, .inl (k_t_zs, 441, .inl x_t_zs_L89_25)) :: R) := hD
            refine lv_aload_n hx hb dX4_include_166 rfl (lv_at hl 0 rfl) ?_
            refine va_get (D := D) (ci := 4) (v := .ref h_t_zs) (C := RX4) (T := TX4) (N := 4) hx hb ha ix4 hown hK hP 0 rfl rfl 2 (by decide) (ha _ q430) (fun _ h9 => h9) rfl dX4_include_167 ?_
            refine lv_iload hx hb dX4_include_170 (lv_at hl 4 rfl) ?_
            refine lv_iload_n hx hb dX4_include_172 rfl (lv_at hl 3 rfl) ?_
            obtain ⟨i29, h⟩ := ix_ok h
            refine va_iast hx hb hK hP hD hS 3 2 rfl rfl i29 dX4_include_173 (fun H locs hP hD hS => ?_)
            have hP : va_P D vwCl ((h_t, .inr (4, [.ref h_t_lengths, .ref h_t_ys, .ref h_t_zs, .int t_size])) :: (h_t_lengths, .inl (k_t_lengths, 441, .inl (upd x_t_lengths_L89_25 x4_L3_3.toNatClampNeg l1))) :: (h_t_ys, .inl (k_t_ys, 441, .inl (upd x_t_ys_L89_25 x4_L3_3.toNatClampNeg l2))) :: (h_t_zs, .inl (k_t_zs, 441, .inl (upd x_t_zs_L89_25 x4_L3_3.toNatClampNeg l3))) :: R) H := hP
            have hD : va_D A ((h_t, .inr (4, [.ref h_t_lengths, .ref h_t_ys, .ref h_t_zs, .int t_size])) :: (h_t_lengths, .inl (k_t_lengths, 441, .inl (upd x_t_lengths_L89_25 x4_L3_3.toNatClampNeg l1))) :: (h_t_ys, .inl (k_t_ys, 441, .inl (upd x_t_ys_L89_25 x4_L3_3.toNatClampNeg l2))) :: (h_t_zs, .inl (k_t_zs, 441, .inl (upd x_t_zs_L89_25 x4_L3_3.toNatClampNeg l3))) :: R) := hD
            refine lv_aload_n hx hb dX4_include_174 rfl (lv_at hl 0 rfl) ?_
            refine lv_dup hx hb dX4_include_175 rfl ?_
            refine va_get (D := D) (ci := 4) (v := .int t_size) (C := RX4) (T := TX4) (N := 4) hx hb ha ix4 hown hK hP 0 rfl rfl 3 (by decide) (ha _ q432) (fun _ h9 => h9) rfl dX4_include_176 ?_
            refine lv_iconst (v := 1) hx hb dX4_include_179 (by decide) ?_
            refine lv_iadd hx hb dX4_include_180 ?_
            refine va_put (D := D) (ci := 4) (v := .int (t_size + 1)) (ty := .int) (C := RX4) (T := TX4) (N := 4) hx hb ha ix4 tyX4 tyX4_ok nmX4 hown hK hP hD hS 0 rfl rfl 3 (by decide) (ha _ q432) (fun _ h9 => h9) rfl (by decide +kernel) rfl rfl (Nat.le_of_ble_eq_true rfl) dX4_include_181 (fun H locs hP hD hS => ?_)
            have hP : va_P D vwCl ((h_t, .inr (4, [.ref h_t_lengths, .ref h_t_ys, .ref h_t_zs, .int (t_size + 1)])) :: (h_t_lengths, .inl (k_t_lengths, 441, .inl (upd x_t_lengths_L89_25 x4_L3_3.toNatClampNeg l1))) :: (h_t_ys, .inl (k_t_ys, 441, .inl (upd x_t_ys_L89_25 x4_L3_3.toNatClampNeg l2))) :: (h_t_zs, .inl (k_t_zs, 441, .inl (upd x_t_zs_L89_25 x4_L3_3.toNatClampNeg l3))) :: R) H := hP
            have hD : va_D A ((h_t, .inr (4, [.ref h_t_lengths, .ref h_t_ys, .ref h_t_zs, .int (t_size + 1)])) :: (h_t_lengths, .inl (k_t_lengths, 441, .inl (upd x_t_lengths_L89_25 x4_L3_3.toNatClampNeg l1))) :: (h_t_ys, .inl (k_t_ys, 441, .inl (upd x_t_ys_L89_25 x4_L3_3.toNatClampNeg l2))) :: (h_t_zs, .inl (k_t_zs, 441, .inl (upd x_t_zs_L89_25 x4_L3_3.toNatClampNeg l3))) :: R) := hD
            cases h
            exact rt_v S hr hlk hP hD hS dX4_include_184
          · have h := br_neg c25 h
            cases h
            exact rt_v S hr hlk hP hD hS dX4_include_82
      · have h := br_pos c22 h
        refine lv_iconst (v := 1) hx hb dX4_include_60 (by decide) ?_
        refine lv_goto (tgt := 65) hx hb dX4_include_61 (by decide) ?_
        refine lv_istore (lv' := [(5, .int 1), (0, .ref h_t), (1, .int l1), (2, .int l2), (3, .int l3), (4, .int x4_L3_3)]) hx hb dX4_include_65 hl (by decide) rfl (fun ls hl => ?_)
        refine lv_iload hx hb dX4_include_67 (lv_at hl 0 rfl) ?_
        refine lv_if_ne (tgt := 82) hx hb dX4_include_69 (by decide) (fun c23 => ?_) (fun c23 => ?_)
        · cases h
          exact rt_v S hr hlk hP hD hS dX4_include_82
        · exact absurd c23 (by decide)
noncomputable def f_X10_settle (t_kind : Int32) (t_ahead : Int32) (t_length : Int32) (l1 : Int32) (l2 : Int32) (l3 : Int32) : Option (Int32 × Int32 × Int32) :=
  some (l1, l2, l3)
set_option maxHeartbeats 4000000 in
set_option maxRecDepth 100000 in
theorem c_X10_settle (l : Launch) (D : va_G) (R : va_W) (h_t : Nat) (z_t_0 : Value) (t_kind : Int32) (t_ahead : Int32) (t_length : Int32) (l1 : Int32) (l2 : Int32) (l3 : Int32) (o_t_kind : Int32) (o_t_ahead : Int32) (o_t_length : Int32)  (h : f_X10_settle t_kind t_ahead t_length l1 l2 l3 = some (o_t_kind, o_t_ahead, o_t_length)) (sz : Nat) : Met l yX10_settle (WD yX10_settle cX10_settle 4 none) ({ frames := 0, cells := 0, slots := 0, locals := 0 }) (va_Pc [.ref h_t, .int l1, .int l2, .int l3] (PcW D [] ((h_t, .inr (10, [z_t_0, .int t_kind, .int t_ahead, .int t_length])) :: R) sz)) (QV D ((h_t, .inr (10, [z_t_0, .int o_t_kind, .int o_t_ahead, .int o_t_length])) :: R) (va_A ((h_t, .inr (10, [z_t_0, .int t_kind, .int t_ahead, .int t_length])) :: R) sz)) 0 0 (va_A ((h_t, .inr (10, [z_t_0, .int t_kind, .int t_ahead, .int t_length])) :: R) sz) := by
  refine ct_start (QF := fun A => QV D ((h_t, .inr (10, [z_t_0, .int o_t_kind, .int o_t_ahead, .int o_t_length])) :: R) A) ?_ ?_ ?_
  · decide +kernel
  · exact Nat.le_of_ble_eq_true rfl
  intro p e s m args below meth c A ls S hr hlk hnm hS hA hP hD hK hN hl
  have S : CallFix p m c cX10_settle 4 s args AL "DigitBench$Walk" := S
  have hx := S.1
  have hb := S.2.1
  have hown := S.2.2.2.1
  have ha := S.2.2.2.2
  have hl : lv_has ls 4 [(0, .ref h_t), (1, .int l1), (2, .int l2), (3, .int l3)] := hl
  unfold f_X10_settle at h
  refine lv_aload_n hx hb dX10_settle_0 rfl (lv_at hl 0 rfl) ?_
  refine lv_iload_n hx hb dX10_settle_1 rfl (lv_at hl 1 rfl) ?_
  refine va_put (D := D) (ci := 10) (v := .int l1) (ty := .int) (C := RX10) (T := TX10) (N := 4) hx hb ha ix10 tyX10 tyX10_ok nmX10 hown hK hP hD hS 0 rfl rfl 1 (by decide) (ha _ q405) (fun _ h9 => h9) rfl (by decide +kernel) rfl rfl (Nat.le_of_ble_eq_true rfl) dX10_settle_2 (fun H locs hP hD hS => ?_)
  have hP : va_P D vwCl ((h_t, .inr (10, [z_t_0, .int l1, .int t_ahead, .int t_length])) :: R) H := hP
  have hD : va_D A ((h_t, .inr (10, [z_t_0, .int l1, .int t_ahead, .int t_length])) :: R) := hD
  refine lv_aload_n hx hb dX10_settle_5 rfl (lv_at hl 0 rfl) ?_
  refine lv_iload_n hx hb dX10_settle_6 rfl (lv_at hl 2 rfl) ?_
  refine va_put (D := D) (ci := 10) (v := .int l2) (ty := .int) (C := RX10) (T := TX10) (N := 4) hx hb ha ix10 tyX10 tyX10_ok nmX10 hown hK hP hD hS 0 rfl rfl 2 (by decide) (ha _ q407) (fun _ h9 => h9) rfl (by decide +kernel) rfl rfl (Nat.le_of_ble_eq_true rfl) dX10_settle_7 (fun H locs hP hD hS => ?_)
  have hP : va_P D vwCl ((h_t, .inr (10, [z_t_0, .int l1, .int l2, .int t_length])) :: R) H := hP
  have hD : va_D A ((h_t, .inr (10, [z_t_0, .int l1, .int l2, .int t_length])) :: R) := hD
  refine lv_aload_n hx hb dX10_settle_10 rfl (lv_at hl 0 rfl) ?_
  refine lv_iload_n hx hb dX10_settle_11 rfl (lv_at hl 3 rfl) ?_
  refine va_put (D := D) (ci := 10) (v := .int l3) (ty := .int) (C := RX10) (T := TX10) (N := 4) hx hb ha ix10 tyX10 tyX10_ok nmX10 hown hK hP hD hS 0 rfl rfl 3 (by decide) (ha _ q409) (fun _ h9 => h9) rfl (by decide +kernel) rfl rfl (Nat.le_of_ble_eq_true rfl) dX10_settle_12 (fun H locs hP hD hS => ?_)
  have hP : va_P D vwCl ((h_t, .inr (10, [z_t_0, .int l1, .int l2, .int l3])) :: R) H := hP
  have hD : va_D A ((h_t, .inr (10, [z_t_0, .int l1, .int l2, .int l3])) :: R) := hD
  cases h
  exact rt_v S hr hlk hP hD hS dX10_settle_15
noncomputable def f_X10_go_L14 (p1_p : Int32) (p1_q : Int32) (p1_norm : Int32) (p1_sideY : Int64) (p1_sideZ : Int64) (p1_divisor : Int64) (p1_digitY : Nat → Int32) (p1_digitZ : Nat → Int32) (p1_digitOfKey : Nat → Int32) (p2_stamp : Int32) : Nat → Int64 → Int64 → Int32 → (Nat → Int32) → Int64 → Int64 → Int32 → (Nat → Int64) → (Nat → Int64) → (Nat → Int32) → (Nat → Int32) → (Nat → Int32) →  Option (Nat × Int32 × Int32 × (Nat → Int32) × Int64 × Int64 × Int32 × (Nat → Int64) × (Nat → Int64) × (Nat → Int32) × (Nat → Int32) × (Nat → Int32))
  | 0, _, _, _, _, _, _, _, _, _, _, _, _ => none
  | n + 1, l7, l9, l11, t_places, p1_nextY, p1_nextZ, p2_size, p2_firsts, p2_seconds, p2_links, p2_heads, p2_stamps => (
    if 300 < l11 then (
     some (3, l11, 0, t_places, p1_nextY, p1_nextZ, p2_size, p2_firsts, p2_seconds, p2_links, p2_heads, p2_stamps)
    ) else (
     if l7 = 0 then (
      if l9 = 0 then (
       some (0, l11, 0, t_places, p1_nextY, p1_nextZ, p2_size, p2_firsts, p2_seconds, p2_links, p2_heads, p2_stamps)
      ) else (
       bnd1 (f_X11_isBeyond l7 1000000) fun r_c50_4 => (
        if r_c50_4 = 0 then (
         bnd1 (f_X11_isBeyond l9 1000000) fun r_c61_6 => (
          if r_c61_6 = 0 then (
           bnd7 (f_X9_meet p2_stamp p2_size p2_firsts p2_seconds p2_links p2_heads p2_stamps l7 l9) fun r_c81_8 p2_size_c81_8 p2_firsts_c81_8 p2_seconds_c81_8 p2_links_c81_8 p2_heads_c81_8 p2_stamps_c81_8 => (
            if r_c81_8 = (-1) then (
             if 300 ≤ l11 then (
              f_X10_go_L14 p1_p p1_q p1_norm p1_sideY p1_sideZ p1_divisor p1_digitY p1_digitZ p1_digitOfKey p2_stamp n l7 l9 (l11 + 1) t_places p1_nextY p1_nextZ p2_size_c81_8 p2_firsts_c81_8 p2_seconds_c81_8 p2_links_c81_8 p2_heads_c81_8 p2_stamps_c81_8
             ) else (
              bnd3 (f_X2_step p1_p p1_q p1_norm p1_sideY p1_sideZ p1_divisor p1_nextY p1_nextZ p1_digitY p1_digitZ p1_digitOfKey l7 l9) fun r_c124_11 p1_nextY_c124_11 p1_nextZ_c124_11 => (
               gd (ixb l11 300) (
                f_X10_go_L14 p1_p p1_q p1_norm p1_sideY p1_sideZ p1_divisor p1_digitY p1_digitZ p1_digitOfKey p2_stamp n p1_nextY_c124_11 p1_nextZ_c124_11 (l11 + 1) (upd t_places l11.toNatClampNeg r_c124_11) p1_nextY_c124_11 p1_nextZ_c124_11 p2_size_c81_8 p2_firsts_c81_8 p2_seconds_c81_8 p2_links_c81_8 p2_heads_c81_8 p2_stamps_c81_8
               )
              )
             )
            ) else (
             some (2, l11, r_c81_8, t_places, p1_nextY, p1_nextZ, p2_size_c81_8, p2_firsts_c81_8, p2_seconds_c81_8, p2_links_c81_8, p2_heads_c81_8, p2_stamps_c81_8)
            )
           )
          ) else (
           some (1, l11, 0, t_places, p1_nextY, p1_nextZ, p2_size, p2_firsts, p2_seconds, p2_links, p2_heads, p2_stamps)
          )
         )
        ) else (
         some (1, l11, 0, t_places, p1_nextY, p1_nextZ, p2_size, p2_firsts, p2_seconds, p2_links, p2_heads, p2_stamps)
        )
       )
      )
     ) else (
      bnd1 (f_X11_isBeyond l7 1000000) fun r_c50_13 => (
       if r_c50_13 = 0 then (
        bnd1 (f_X11_isBeyond l9 1000000) fun r_c61_15 => (
         if r_c61_15 = 0 then (
          bnd7 (f_X9_meet p2_stamp p2_size p2_firsts p2_seconds p2_links p2_heads p2_stamps l7 l9) fun r_c81_17 p2_size_c81_17 p2_firsts_c81_17 p2_seconds_c81_17 p2_links_c81_17 p2_heads_c81_17 p2_stamps_c81_17 => (
           if r_c81_17 = (-1) then (
            if 300 ≤ l11 then (
             f_X10_go_L14 p1_p p1_q p1_norm p1_sideY p1_sideZ p1_divisor p1_digitY p1_digitZ p1_digitOfKey p2_stamp n l7 l9 (l11 + 1) t_places p1_nextY p1_nextZ p2_size_c81_17 p2_firsts_c81_17 p2_seconds_c81_17 p2_links_c81_17 p2_heads_c81_17 p2_stamps_c81_17
            ) else (
             bnd3 (f_X2_step p1_p p1_q p1_norm p1_sideY p1_sideZ p1_divisor p1_nextY p1_nextZ p1_digitY p1_digitZ p1_digitOfKey l7 l9) fun r_c124_20 p1_nextY_c124_20 p1_nextZ_c124_20 => (
              gd (ixb l11 300) (
               f_X10_go_L14 p1_p p1_q p1_norm p1_sideY p1_sideZ p1_divisor p1_digitY p1_digitZ p1_digitOfKey p2_stamp n p1_nextY_c124_20 p1_nextZ_c124_20 (l11 + 1) (upd t_places l11.toNatClampNeg r_c124_20) p1_nextY_c124_20 p1_nextZ_c124_20 p2_size_c81_17 p2_firsts_c81_17 p2_seconds_c81_17 p2_links_c81_17 p2_heads_c81_17 p2_stamps_c81_17
              )
             )
            )
           ) else (
            some (2, l11, r_c81_17, t_places, p1_nextY, p1_nextZ, p2_size_c81_17, p2_firsts_c81_17, p2_seconds_c81_17, p2_links_c81_17, p2_heads_c81_17, p2_stamps_c81_17)
           )
          )
         ) else (
          some (1, l11, 0, t_places, p1_nextY, p1_nextZ, p2_size, p2_firsts, p2_seconds, p2_links, p2_heads, p2_stamps)
         )
        )
       ) else (
        some (1, l11, 0, t_places, p1_nextY, p1_nextZ, p2_size, p2_firsts, p2_seconds, p2_links, p2_heads, p2_stamps)
       )
      )
     )
    ))
noncomputable def f_X10_go (t_kind : Int32) (t_ahead : Int32) (t_length : Int32) (t_places : Nat → Int32) (p1_p : Int32) (p1_q : Int32) (p1_norm : Int32) (p1_sideY : Int64) (p1_sideZ : Int64) (p1_divisor : Int64) (p1_nextY : Int64) (p1_nextZ : Int64) (p1_digitY : Nat → Int32) (p1_digitZ : Nat → Int32) (p1_digitOfKey : Nat → Int32) (p2_stamp : Int32) (p2_size : Int32) (p2_firsts : Nat → Int64) (p2_seconds : Nat → Int64) (p2_links : Nat → Int32) (p2_heads : Nat → Int32) (p2_stamps : Nat → Int32) (l3 : Int64) (l5 : Int64) : Option (Int32 × Int32 × Int32 × (Nat → Int32) × Int64 × Int64 × Int32 × Int32 × (Nat → Int64) × (Nat → Int64) × (Nat → Int32) × (Nat → Int32) × (Nat → Int32)) :=
  bnd2 (f_X9_clear p2_stamp p2_size) fun p2_stamp_c8_0 p2_size_c8_0 => (
   bnd12 (f_X10_go_L14 p1_p p1_q p1_norm p1_sideY p1_sideZ p1_divisor p1_digitY p1_digitZ p1_digitOfKey p2_stamp_c8_0 FU l3 l5 0 t_places p1_nextY p1_nextZ p2_size_c8_0 p2_firsts p2_seconds p2_links p2_heads p2_stamps) fun tg_L14_22 x11_L14_22 x12_L14_22 x_t_places_L14_22 x_p1_nextY_L14_22 x_p1_nextZ_L14_22 x_p2_size_L14_22 x_p2_firsts_L14_22 x_p2_seconds_L14_22 x_p2_links_L14_22 x_p2_heads_L14_22 x_p2_stamps_L14_22 => (
    if tg_L14_22 = 0 then (
     bnd3 (f_X10_settle t_kind t_ahead t_length 0 x11_L14_22 0) fun t_kind_c41_23 t_ahead_c41_23 t_length_c41_23 => (
      some (t_kind_c41_23, t_ahead_c41_23, t_length_c41_23, x_t_places_L14_22, x_p1_nextY_L14_22, x_p1_nextZ_L14_22, p2_stamp_c8_0, x_p2_size_L14_22, x_p2_firsts_L14_22, x_p2_seconds_L14_22, x_p2_links_L14_22, x_p2_heads_L14_22, x_p2_stamps_L14_22)
     )
    ) else (
     if tg_L14_22 = 1 then (
      bnd3 (f_X10_settle t_kind t_ahead t_length 2 x11_L14_22 0) fun t_kind_c72_24 t_ahead_c72_24 t_length_c72_24 => (
       some (t_kind_c72_24, t_ahead_c72_24, t_length_c72_24, x_t_places_L14_22, x_p1_nextY_L14_22, x_p1_nextZ_L14_22, p2_stamp_c8_0, x_p2_size_L14_22, x_p2_firsts_L14_22, x_p2_seconds_L14_22, x_p2_links_L14_22, x_p2_heads_L14_22, x_p2_stamps_L14_22)
      )
     ) else (
      if tg_L14_22 = 2 then (
       bnd3 (f_X10_settle t_kind t_ahead t_length 1 x12_L14_22 (x11_L14_22 - x12_L14_22)) fun t_kind_c101_25 t_ahead_c101_25 t_length_c101_25 => (
        some (t_kind_c101_25, t_ahead_c101_25, t_length_c101_25, x_t_places_L14_22, x_p1_nextY_L14_22, x_p1_nextZ_L14_22, p2_stamp_c8_0, x_p2_size_L14_22, x_p2_firsts_L14_22, x_p2_seconds_L14_22, x_p2_links_L14_22, x_p2_heads_L14_22, x_p2_stamps_L14_22)
       )
      ) else (
       bnd3 (f_X10_settle t_kind t_ahead t_length 2 300 0) fun t_kind_c152_26 t_ahead_c152_26 t_length_c152_26 => (
        some (t_kind_c152_26, t_ahead_c152_26, t_length_c152_26, x_t_places_L14_22, x_p1_nextY_L14_22, x_p1_nextZ_L14_22, p2_stamp_c8_0, x_p2_size_L14_22, x_p2_firsts_L14_22, x_p2_seconds_L14_22, x_p2_links_L14_22, x_p2_heads_L14_22, x_p2_stamps_L14_22)
       )
      )
     )
    )
   )
  )
set_option maxHeartbeats 4000000 in
set_option maxRecDepth 100000 in
theorem c_X10_go (l : Launch) (D : va_G) (R : va_W) (h_t : Nat) (t_kind : Int32) (t_ahead : Int32) (t_length : Int32) (h_t_places : Nat) (k_t_places : ClassId) (t_places : Nat → Int32) (h_p1 : Nat) (z_p1_0 : Value) (p1_p : Int32) (p1_q : Int32) (p1_norm : Int32) (p1_sideY : Int64) (p1_sideZ : Int64) (p1_divisor : Int64) (z_p1_7 : Value) (z_p1_10 : Value) (p1_nextY : Int64) (p1_nextZ : Int64) (h_p1_digitY : Nat) (k_p1_digitY : ClassId) (p1_digitY : Nat → Int32) (h_p1_digitZ : Nat) (k_p1_digitZ : ClassId) (p1_digitZ : Nat → Int32) (h_p1_digitOfKey : Nat) (k_p1_digitOfKey : ClassId) (p1_digitOfKey : Nat → Int32) (h_p2 : Nat) (p2_stamp : Int32) (p2_size : Int32) (h_p2_firsts : Nat) (k_p2_firsts : ClassId) (p2_firsts : Nat → Int64) (h_p2_seconds : Nat) (k_p2_seconds : ClassId) (p2_seconds : Nat → Int64) (h_p2_links : Nat) (k_p2_links : ClassId) (p2_links : Nat → Int32) (h_p2_heads : Nat) (k_p2_heads : ClassId) (p2_heads : Nat → Int32) (h_p2_stamps : Nat) (k_p2_stamps : ClassId) (p2_stamps : Nat → Int32) (l3 : Int64) (l5 : Int64) (o_t_kind : Int32) (o_t_ahead : Int32) (o_t_length : Int32) (o_t_places : Nat → Int32) (o_p1_nextY : Int64) (o_p1_nextZ : Int64) (o_p2_stamp : Int32) (o_p2_size : Int32) (o_p2_firsts : Nat → Int64) (o_p2_seconds : Nat → Int64) (o_p2_links : Nat → Int32) (o_p2_heads : Nat → Int32) (o_p2_stamps : Nat → Int32)  (h : f_X10_go t_kind t_ahead t_length t_places p1_p p1_q p1_norm p1_sideY p1_sideZ p1_divisor p1_nextY p1_nextZ p1_digitY p1_digitZ p1_digitOfKey p2_stamp p2_size p2_firsts p2_seconds p2_links p2_heads p2_stamps l3 l5 = some (o_t_kind, o_t_ahead, o_t_length, o_t_places, o_p1_nextY, o_p1_nextZ, o_p2_stamp, o_p2_size, o_p2_firsts, o_p2_seconds, o_p2_links, o_p2_heads, o_p2_stamps)) (sz : Nat) : Met l yX10_go (WD yX10_go cX10_go 13 none) ({ frames := 3, cells := 0, slots := 0, locals := 83 }) (va_Pc [.ref h_t, .ref h_p1, .ref h_p2, .long l3, .long l5] (PcW D [(k_t_places, .int), (k_p1_digitY, .int), (k_p1_digitZ, .int), (k_p1_digitOfKey, .int), (k_p2_firsts, .long), (k_p2_seconds, .long), (k_p2_links, .int), (k_p2_heads, .int), (k_p2_stamps, .int)] ((h_t, .inr (10, [.ref h_t_places, .int t_kind, .int t_ahead, .int t_length])) :: (h_t_places, .inl (k_t_places, 300, .inl t_places)) :: (h_p1, .inr (2, [z_p1_0, .int p1_p, .int p1_q, .int p1_norm, .long p1_sideY, .long p1_sideZ, .long p1_divisor, z_p1_7, .ref h_p1_digitY, .ref h_p1_digitZ, z_p1_10, .ref h_p1_digitOfKey, .long p1_nextY, .long p1_nextZ])) :: (h_p1_digitY, .inl (k_p1_digitY, 25, .inl p1_digitY)) :: (h_p1_digitZ, .inl (k_p1_digitZ, 25, .inl p1_digitZ)) :: (h_p1_digitOfKey, .inl (k_p1_digitOfKey, 625, .inl p1_digitOfKey)) :: (h_p2, .inr (9, [.ref h_p2_firsts, .ref h_p2_seconds, .ref h_p2_links, .ref h_p2_heads, .ref h_p2_stamps, .int p2_stamp, .int p2_size])) :: (h_p2_firsts, .inl (k_p2_firsts, 401, .inr (.inl p2_firsts))) :: (h_p2_seconds, .inl (k_p2_seconds, 401, .inr (.inl p2_seconds))) :: (h_p2_links, .inl (k_p2_links, 401, .inl p2_links)) :: (h_p2_heads, .inl (k_p2_heads, 512, .inl p2_heads)) :: (h_p2_stamps, .inl (k_p2_stamps, 512, .inl p2_stamps)) :: R) sz)) (QV D ((h_t, .inr (10, [.ref h_t_places, .int o_t_kind, .int o_t_ahead, .int o_t_length])) :: (h_t_places, .inl (k_t_places, 300, .inl o_t_places)) :: (h_p1, .inr (2, [z_p1_0, .int p1_p, .int p1_q, .int p1_norm, .long p1_sideY, .long p1_sideZ, .long p1_divisor, z_p1_7, .ref h_p1_digitY, .ref h_p1_digitZ, z_p1_10, .ref h_p1_digitOfKey, .long o_p1_nextY, .long o_p1_nextZ])) :: (h_p1_digitY, .inl (k_p1_digitY, 25, .inl p1_digitY)) :: (h_p1_digitZ, .inl (k_p1_digitZ, 25, .inl p1_digitZ)) :: (h_p1_digitOfKey, .inl (k_p1_digitOfKey, 625, .inl p1_digitOfKey)) :: (h_p2, .inr (9, [.ref h_p2_firsts, .ref h_p2_seconds, .ref h_p2_links, .ref h_p2_heads, .ref h_p2_stamps, .int o_p2_stamp, .int o_p2_size])) :: (h_p2_firsts, .inl (k_p2_firsts, 401, .inr (.inl o_p2_firsts))) :: (h_p2_seconds, .inl (k_p2_seconds, 401, .inr (.inl o_p2_seconds))) :: (h_p2_links, .inl (k_p2_links, 401, .inl o_p2_links)) :: (h_p2_heads, .inl (k_p2_heads, 512, .inl o_p2_heads)) :: (h_p2_stamps, .inl (k_p2_stamps, 512, .inl o_p2_stamps)) :: R) (va_A ((h_t, .inr (10, [.ref h_t_places, .int t_kind, .int t_ahead, .int t_length])) :: (h_t_places, .inl (k_t_places, 300, .inl t_places)) :: (h_p1, .inr (2, [z_p1_0, .int p1_p, .int p1_q, .int p1_norm, .long p1_sideY, .long p1_sideZ, .long p1_divisor, z_p1_7, .ref h_p1_digitY, .ref h_p1_digitZ, z_p1_10, .ref h_p1_digitOfKey, .long p1_nextY, .long p1_nextZ])) :: (h_p1_digitY, .inl (k_p1_digitY, 25, .inl p1_digitY)) :: (h_p1_digitZ, .inl (k_p1_digitZ, 25, .inl p1_digitZ)) :: (h_p1_digitOfKey, .inl (k_p1_digitOfKey, 625, .inl p1_digitOfKey)) :: (h_p2, .inr (9, [.ref h_p2_firsts, .ref h_p2_seconds, .ref h_p2_links, .ref h_p2_heads, .ref h_p2_stamps, .int p2_stamp, .int p2_size])) :: (h_p2_firsts, .inl (k_p2_firsts, 401, .inr (.inl p2_firsts))) :: (h_p2_seconds, .inl (k_p2_seconds, 401, .inr (.inl p2_seconds))) :: (h_p2_links, .inl (k_p2_links, 401, .inl p2_links)) :: (h_p2_heads, .inl (k_p2_heads, 512, .inl p2_heads)) :: (h_p2_stamps, .inl (k_p2_stamps, 512, .inl p2_stamps)) :: R) sz)) 0 0 (va_A ((h_t, .inr (10, [.ref h_t_places, .int t_kind, .int t_ahead, .int t_length])) :: (h_t_places, .inl (k_t_places, 300, .inl t_places)) :: (h_p1, .inr (2, [z_p1_0, .int p1_p, .int p1_q, .int p1_norm, .long p1_sideY, .long p1_sideZ, .long p1_divisor, z_p1_7, .ref h_p1_digitY, .ref h_p1_digitZ, z_p1_10, .ref h_p1_digitOfKey, .long p1_nextY, .long p1_nextZ])) :: (h_p1_digitY, .inl (k_p1_digitY, 25, .inl p1_digitY)) :: (h_p1_digitZ, .inl (k_p1_digitZ, 25, .inl p1_digitZ)) :: (h_p1_digitOfKey, .inl (k_p1_digitOfKey, 625, .inl p1_digitOfKey)) :: (h_p2, .inr (9, [.ref h_p2_firsts, .ref h_p2_seconds, .ref h_p2_links, .ref h_p2_heads, .ref h_p2_stamps, .int p2_stamp, .int p2_size])) :: (h_p2_firsts, .inl (k_p2_firsts, 401, .inr (.inl p2_firsts))) :: (h_p2_seconds, .inl (k_p2_seconds, 401, .inr (.inl p2_seconds))) :: (h_p2_links, .inl (k_p2_links, 401, .inl p2_links)) :: (h_p2_heads, .inl (k_p2_heads, 512, .inl p2_heads)) :: (h_p2_stamps, .inl (k_p2_stamps, 512, .inl p2_stamps)) :: R) sz) := by
  refine ct_start (QF := fun A => QV D ((h_t, .inr (10, [.ref h_t_places, .int o_t_kind, .int o_t_ahead, .int o_t_length])) :: (h_t_places, .inl (k_t_places, 300, .inl o_t_places)) :: (h_p1, .inr (2, [z_p1_0, .int p1_p, .int p1_q, .int p1_norm, .long p1_sideY, .long p1_sideZ, .long p1_divisor, z_p1_7, .ref h_p1_digitY, .ref h_p1_digitZ, z_p1_10, .ref h_p1_digitOfKey, .long o_p1_nextY, .long o_p1_nextZ])) :: (h_p1_digitY, .inl (k_p1_digitY, 25, .inl p1_digitY)) :: (h_p1_digitZ, .inl (k_p1_digitZ, 25, .inl p1_digitZ)) :: (h_p1_digitOfKey, .inl (k_p1_digitOfKey, 625, .inl p1_digitOfKey)) :: (h_p2, .inr (9, [.ref h_p2_firsts, .ref h_p2_seconds, .ref h_p2_links, .ref h_p2_heads, .ref h_p2_stamps, .int o_p2_stamp, .int o_p2_size])) :: (h_p2_firsts, .inl (k_p2_firsts, 401, .inr (.inl o_p2_firsts))) :: (h_p2_seconds, .inl (k_p2_seconds, 401, .inr (.inl o_p2_seconds))) :: (h_p2_links, .inl (k_p2_links, 401, .inl o_p2_links)) :: (h_p2_heads, .inl (k_p2_heads, 512, .inl o_p2_heads)) :: (h_p2_stamps, .inl (k_p2_stamps, 512, .inl o_p2_stamps)) :: R) A) ?_ ?_ ?_
  · decide +kernel
  · exact Nat.le_of_ble_eq_true rfl
  intro p e s m args below meth c A ls S hr hlk hnm hS hA hP hD hK hN hl
  have S : CallFix p m c cX10_go 13 s args AL "DigitBench$Walk" := S
  have hx := S.1
  have hb := S.2.1
  have hown := S.2.2.2.1
  have ha := S.2.2.2.2
  have hl : lv_has ls 13 [(0, .ref h_t), (1, .ref h_p1), (2, .ref h_p2), (3, .long l3), (5, .long l5)] := hl
  have L14 : ∀ (Q : State → Prop) (n : Nat) (l7 : Int64) (l9 : Int64) (l11 : Int32) (t_kind : Int32) (t_ahead : Int32) (t_length : Int32) (t_places : Nat → Int32) (p1_nextY : Int64) (p1_nextZ : Int64) (p2_stamp : Int32) (p2_size : Int32) (p2_firsts : Nat → Int64) (p2_seconds : Nat → Int64) (p2_links : Nat → Int32) (p2_heads : Nat → Int32) (p2_stamps : Nat → Int32) (tg : Nat) (x11 : Int32) (x12 : Int32) (x_t_places : Nat → Int32) (x_p1_nextY : Int64) (x_p1_nextZ : Int64) (x_p2_size : Int32) (x_p2_firsts : Nat → Int64) (x_p2_seconds : Nat → Int64) (x_p2_links : Nat → Int32) (x_p2_heads : Nat → Int32) (x_p2_stamps : Nat → Int32), f_X10_go_L14 p1_p p1_q p1_norm p1_sideY p1_sideZ p1_divisor p1_digitY p1_digitZ p1_digitOfKey p2_stamp n l7 l9 l11 t_places p1_nextY p1_nextZ p2_size p2_firsts p2_seconds p2_links p2_heads p2_stamps = some (tg, x11, x12, x_t_places, x_p1_nextY, x_p1_nextZ, x_p2_size, x_p2_firsts, x_p2_seconds, x_p2_links, x_p2_heads, x_p2_stamps) → ∀ (H : Heap) (locs : List Loc) (ls : Array Slot), va_P D vwCl ((h_t, .inr (10, [.ref h_t_places, .int t_kind, .int t_ahead, .int t_length])) :: (h_t_places, .inl (k_t_places, 300, .inl t_places)) :: (h_p1, .inr (2, [z_p1_0, .int p1_p, .int p1_q, .int p1_norm, .long p1_sideY, .long p1_sideZ, .long p1_divisor, z_p1_7, .ref h_p1_digitY, .ref h_p1_digitZ, z_p1_10, .ref h_p1_digitOfKey, .long p1_nextY, .long p1_nextZ])) :: (h_p1_digitY, .inl (k_p1_digitY, 25, .inl p1_digitY)) :: (h_p1_digitZ, .inl (k_p1_digitZ, 25, .inl p1_digitZ)) :: (h_p1_digitOfKey, .inl (k_p1_digitOfKey, 625, .inl p1_digitOfKey)) :: (h_p2, .inr (9, [.ref h_p2_firsts, .ref h_p2_seconds, .ref h_p2_links, .ref h_p2_heads, .ref h_p2_stamps, .int p2_stamp, .int p2_size])) :: (h_p2_firsts, .inl (k_p2_firsts, 401, .inr (.inl p2_firsts))) :: (h_p2_seconds, .inl (k_p2_seconds, 401, .inr (.inl p2_seconds))) :: (h_p2_links, .inl (k_p2_links, 401, .inl p2_links)) :: (h_p2_heads, .inl (k_p2_heads, 512, .inl p2_heads)) :: (h_p2_stamps, .inl (k_p2_stamps, 512, .inl p2_stamps)) :: R) H → va_D A ((h_t, .inr (10, [.ref h_t_places, .int t_kind, .int t_ahead, .int t_length])) :: (h_t_places, .inl (k_t_places, 300, .inl t_places)) :: (h_p1, .inr (2, [z_p1_0, .int p1_p, .int p1_q, .int p1_norm, .long p1_sideY, .long p1_sideZ, .long p1_divisor, z_p1_7, .ref h_p1_digitY, .ref h_p1_digitZ, z_p1_10, .ref h_p1_digitOfKey, .long p1_nextY, .long p1_nextZ])) :: (h_p1_digitY, .inl (k_p1_digitY, 25, .inl p1_digitY)) :: (h_p1_digitZ, .inl (k_p1_digitZ, 25, .inl p1_digitZ)) :: (h_p1_digitOfKey, .inl (k_p1_digitOfKey, 625, .inl p1_digitOfKey)) :: (h_p2, .inr (9, [.ref h_p2_firsts, .ref h_p2_seconds, .ref h_p2_links, .ref h_p2_heads, .ref h_p2_stamps, .int p2_stamp, .int p2_size])) :: (h_p2_firsts, .inl (k_p2_firsts, 401, .inr (.inl p2_firsts))) :: (h_p2_seconds, .inl (k_p2_seconds, 401, .inr (.inl p2_seconds))) :: (h_p2_links, .inl (k_p2_links, 401, .inl p2_links)) :: (h_p2_heads, .inl (k_p2_heads, 512, .inl p2_heads)) :: (h_p2_stamps, .inl (k_p2_stamps, 512, .inl p2_stamps)) :: R) → va_S A s.heap H locs → lv_has ls 13 [(0, .ref h_t), (1, .ref h_p1), (2, .ref h_p2), (7, .long l7), (9, .long l9), (11, .int l11)] → (tg = 0 → ∀ (H : Heap) (locs : List Loc) (ls : Array Slot), va_P D vwCl ((h_t, .inr (10, [.ref h_t_places, .int t_kind, .int t_ahead, .int t_length])) :: (h_t_places, .inl (k_t_places, 300, .inl x_t_places)) :: (h_p1, .inr (2, [z_p1_0, .int p1_p, .int p1_q, .int p1_norm, .long p1_sideY, .long p1_sideZ, .long p1_divisor, z_p1_7, .ref h_p1_digitY, .ref h_p1_digitZ, z_p1_10, .ref h_p1_digitOfKey, .long x_p1_nextY, .long x_p1_nextZ])) :: (h_p1_digitY, .inl (k_p1_digitY, 25, .inl p1_digitY)) :: (h_p1_digitZ, .inl (k_p1_digitZ, 25, .inl p1_digitZ)) :: (h_p1_digitOfKey, .inl (k_p1_digitOfKey, 625, .inl p1_digitOfKey)) :: (h_p2, .inr (9, [.ref h_p2_firsts, .ref h_p2_seconds, .ref h_p2_links, .ref h_p2_heads, .ref h_p2_stamps, .int p2_stamp, .int x_p2_size])) :: (h_p2_firsts, .inl (k_p2_firsts, 401, .inr (.inl x_p2_firsts))) :: (h_p2_seconds, .inl (k_p2_seconds, 401, .inr (.inl x_p2_seconds))) :: (h_p2_links, .inl (k_p2_links, 401, .inl x_p2_links)) :: (h_p2_heads, .inl (k_p2_heads, 512, .inl x_p2_heads)) :: (h_p2_stamps, .inl (k_p2_stamps, 512, .inl x_p2_stamps)) :: R) H → va_D A ((h_t, .inr (10, [.ref h_t_places, .int t_kind, .int t_ahead, .int t_length])) :: (h_t_places, .inl (k_t_places, 300, .inl x_t_places)) :: (h_p1, .inr (2, [z_p1_0, .int p1_p, .int p1_q, .int p1_norm, .long p1_sideY, .long p1_sideZ, .long p1_divisor, z_p1_7, .ref h_p1_digitY, .ref h_p1_digitZ, z_p1_10, .ref h_p1_digitOfKey, .long x_p1_nextY, .long x_p1_nextZ])) :: (h_p1_digitY, .inl (k_p1_digitY, 25, .inl p1_digitY)) :: (h_p1_digitZ, .inl (k_p1_digitZ, 25, .inl p1_digitZ)) :: (h_p1_digitOfKey, .inl (k_p1_digitOfKey, 625, .inl p1_digitOfKey)) :: (h_p2, .inr (9, [.ref h_p2_firsts, .ref h_p2_seconds, .ref h_p2_links, .ref h_p2_heads, .ref h_p2_stamps, .int p2_stamp, .int x_p2_size])) :: (h_p2_firsts, .inl (k_p2_firsts, 401, .inr (.inl x_p2_firsts))) :: (h_p2_seconds, .inl (k_p2_seconds, 401, .inr (.inl x_p2_seconds))) :: (h_p2_links, .inl (k_p2_links, 401, .inl x_p2_links)) :: (h_p2_heads, .inl (k_p2_heads, 512, .inl x_p2_heads)) :: (h_p2_stamps, .inl (k_p2_stamps, 512, .inl x_p2_stamps)) :: R) → va_S A s.heap H locs → lv_has ls 13 [(0, .ref h_t), (11, .int x11)] → W p l e { frames := 3, cells := 0, slots := 0, locals := 83 } s m args below meth c H locs 0 0 Q (F0 m 36 ls [])) → (tg = 1 → ∀ (H : Heap) (locs : List Loc) (ls : Array Slot), va_P D vwCl ((h_t, .inr (10, [.ref h_t_places, .int t_kind, .int t_ahead, .int t_length])) :: (h_t_places, .inl (k_t_places, 300, .inl x_t_places)) :: (h_p1, .inr (2, [z_p1_0, .int p1_p, .int p1_q, .int p1_norm, .long p1_sideY, .long p1_sideZ, .long p1_divisor, z_p1_7, .ref h_p1_digitY, .ref h_p1_digitZ, z_p1_10, .ref h_p1_digitOfKey, .long x_p1_nextY, .long x_p1_nextZ])) :: (h_p1_digitY, .inl (k_p1_digitY, 25, .inl p1_digitY)) :: (h_p1_digitZ, .inl (k_p1_digitZ, 25, .inl p1_digitZ)) :: (h_p1_digitOfKey, .inl (k_p1_digitOfKey, 625, .inl p1_digitOfKey)) :: (h_p2, .inr (9, [.ref h_p2_firsts, .ref h_p2_seconds, .ref h_p2_links, .ref h_p2_heads, .ref h_p2_stamps, .int p2_stamp, .int x_p2_size])) :: (h_p2_firsts, .inl (k_p2_firsts, 401, .inr (.inl x_p2_firsts))) :: (h_p2_seconds, .inl (k_p2_seconds, 401, .inr (.inl x_p2_seconds))) :: (h_p2_links, .inl (k_p2_links, 401, .inl x_p2_links)) :: (h_p2_heads, .inl (k_p2_heads, 512, .inl x_p2_heads)) :: (h_p2_stamps, .inl (k_p2_stamps, 512, .inl x_p2_stamps)) :: R) H → va_D A ((h_t, .inr (10, [.ref h_t_places, .int t_kind, .int t_ahead, .int t_length])) :: (h_t_places, .inl (k_t_places, 300, .inl x_t_places)) :: (h_p1, .inr (2, [z_p1_0, .int p1_p, .int p1_q, .int p1_norm, .long p1_sideY, .long p1_sideZ, .long p1_divisor, z_p1_7, .ref h_p1_digitY, .ref h_p1_digitZ, z_p1_10, .ref h_p1_digitOfKey, .long x_p1_nextY, .long x_p1_nextZ])) :: (h_p1_digitY, .inl (k_p1_digitY, 25, .inl p1_digitY)) :: (h_p1_digitZ, .inl (k_p1_digitZ, 25, .inl p1_digitZ)) :: (h_p1_digitOfKey, .inl (k_p1_digitOfKey, 625, .inl p1_digitOfKey)) :: (h_p2, .inr (9, [.ref h_p2_firsts, .ref h_p2_seconds, .ref h_p2_links, .ref h_p2_heads, .ref h_p2_stamps, .int p2_stamp, .int x_p2_size])) :: (h_p2_firsts, .inl (k_p2_firsts, 401, .inr (.inl x_p2_firsts))) :: (h_p2_seconds, .inl (k_p2_seconds, 401, .inr (.inl x_p2_seconds))) :: (h_p2_links, .inl (k_p2_links, 401, .inl x_p2_links)) :: (h_p2_heads, .inl (k_p2_heads, 512, .inl x_p2_heads)) :: (h_p2_stamps, .inl (k_p2_stamps, 512, .inl x_p2_stamps)) :: R) → va_S A s.heap H locs → lv_has ls 13 [(0, .ref h_t), (11, .int x11)] → W p l e { frames := 3, cells := 0, slots := 0, locals := 83 } s m args below meth c H locs 0 0 Q (F0 m 67 ls [])) → (tg = 2 → ∀ (H : Heap) (locs : List Loc) (ls : Array Slot), va_P D vwCl ((h_t, .inr (10, [.ref h_t_places, .int t_kind, .int t_ahead, .int t_length])) :: (h_t_places, .inl (k_t_places, 300, .inl x_t_places)) :: (h_p1, .inr (2, [z_p1_0, .int p1_p, .int p1_q, .int p1_norm, .long p1_sideY, .long p1_sideZ, .long p1_divisor, z_p1_7, .ref h_p1_digitY, .ref h_p1_digitZ, z_p1_10, .ref h_p1_digitOfKey, .long x_p1_nextY, .long x_p1_nextZ])) :: (h_p1_digitY, .inl (k_p1_digitY, 25, .inl p1_digitY)) :: (h_p1_digitZ, .inl (k_p1_digitZ, 25, .inl p1_digitZ)) :: (h_p1_digitOfKey, .inl (k_p1_digitOfKey, 625, .inl p1_digitOfKey)) :: (h_p2, .inr (9, [.ref h_p2_firsts, .ref h_p2_seconds, .ref h_p2_links, .ref h_p2_heads, .ref h_p2_stamps, .int p2_stamp, .int x_p2_size])) :: (h_p2_firsts, .inl (k_p2_firsts, 401, .inr (.inl x_p2_firsts))) :: (h_p2_seconds, .inl (k_p2_seconds, 401, .inr (.inl x_p2_seconds))) :: (h_p2_links, .inl (k_p2_links, 401, .inl x_p2_links)) :: (h_p2_heads, .inl (k_p2_heads, 512, .inl x_p2_heads)) :: (h_p2_stamps, .inl (k_p2_stamps, 512, .inl x_p2_stamps)) :: R) H → va_D A ((h_t, .inr (10, [.ref h_t_places, .int t_kind, .int t_ahead, .int t_length])) :: (h_t_places, .inl (k_t_places, 300, .inl x_t_places)) :: (h_p1, .inr (2, [z_p1_0, .int p1_p, .int p1_q, .int p1_norm, .long p1_sideY, .long p1_sideZ, .long p1_divisor, z_p1_7, .ref h_p1_digitY, .ref h_p1_digitZ, z_p1_10, .ref h_p1_digitOfKey, .long x_p1_nextY, .long x_p1_nextZ])) :: (h_p1_digitY, .inl (k_p1_digitY, 25, .inl p1_digitY)) :: (h_p1_digitZ, .inl (k_p1_digitZ, 25, .inl p1_digitZ)) :: (h_p1_digitOfKey, .inl (k_p1_digitOfKey, 625, .inl p1_digitOfKey)) :: (h_p2, .inr (9, [.ref h_p2_firsts, .ref h_p2_seconds, .ref h_p2_links, .ref h_p2_heads, .ref h_p2_stamps, .int p2_stamp, .int x_p2_size])) :: (h_p2_firsts, .inl (k_p2_firsts, 401, .inr (.inl x_p2_firsts))) :: (h_p2_seconds, .inl (k_p2_seconds, 401, .inr (.inl x_p2_seconds))) :: (h_p2_links, .inl (k_p2_links, 401, .inl x_p2_links)) :: (h_p2_heads, .inl (k_p2_heads, 512, .inl x_p2_heads)) :: (h_p2_stamps, .inl (k_p2_stamps, 512, .inl x_p2_stamps)) :: R) → va_S A s.heap H locs → lv_has ls 13 [(0, .ref h_t), (11, .int x11), (12, .int x12)] → W p l e { frames := 3, cells := 0, slots := 0, locals := 83 } s m args below meth c H locs 0 0 Q (F0 m 92 ls [])) → (tg = 3 → ∀ (H : Heap) (locs : List Loc) (ls : Array Slot), va_P D vwCl ((h_t, .inr (10, [.ref h_t_places, .int t_kind, .int t_ahead, .int t_length])) :: (h_t_places, .inl (k_t_places, 300, .inl x_t_places)) :: (h_p1, .inr (2, [z_p1_0, .int p1_p, .int p1_q, .int p1_norm, .long p1_sideY, .long p1_sideZ, .long p1_divisor, z_p1_7, .ref h_p1_digitY, .ref h_p1_digitZ, z_p1_10, .ref h_p1_digitOfKey, .long x_p1_nextY, .long x_p1_nextZ])) :: (h_p1_digitY, .inl (k_p1_digitY, 25, .inl p1_digitY)) :: (h_p1_digitZ, .inl (k_p1_digitZ, 25, .inl p1_digitZ)) :: (h_p1_digitOfKey, .inl (k_p1_digitOfKey, 625, .inl p1_digitOfKey)) :: (h_p2, .inr (9, [.ref h_p2_firsts, .ref h_p2_seconds, .ref h_p2_links, .ref h_p2_heads, .ref h_p2_stamps, .int p2_stamp, .int x_p2_size])) :: (h_p2_firsts, .inl (k_p2_firsts, 401, .inr (.inl x_p2_firsts))) :: (h_p2_seconds, .inl (k_p2_seconds, 401, .inr (.inl x_p2_seconds))) :: (h_p2_links, .inl (k_p2_links, 401, .inl x_p2_links)) :: (h_p2_heads, .inl (k_p2_heads, 512, .inl x_p2_heads)) :: (h_p2_stamps, .inl (k_p2_stamps, 512, .inl x_p2_stamps)) :: R) H → va_D A ((h_t, .inr (10, [.ref h_t_places, .int t_kind, .int t_ahead, .int t_length])) :: (h_t_places, .inl (k_t_places, 300, .inl x_t_places)) :: (h_p1, .inr (2, [z_p1_0, .int p1_p, .int p1_q, .int p1_norm, .long p1_sideY, .long p1_sideZ, .long p1_divisor, z_p1_7, .ref h_p1_digitY, .ref h_p1_digitZ, z_p1_10, .ref h_p1_digitOfKey, .long x_p1_nextY, .long x_p1_nextZ])) :: (h_p1_digitY, .inl (k_p1_digitY, 25, .inl p1_digitY)) :: (h_p1_digitZ, .inl (k_p1_digitZ, 25, .inl p1_digitZ)) :: (h_p1_digitOfKey, .inl (k_p1_digitOfKey, 625, .inl p1_digitOfKey)) :: (h_p2, .inr (9, [.ref h_p2_firsts, .ref h_p2_seconds, .ref h_p2_links, .ref h_p2_heads, .ref h_p2_stamps, .int p2_stamp, .int x_p2_size])) :: (h_p2_firsts, .inl (k_p2_firsts, 401, .inr (.inl x_p2_firsts))) :: (h_p2_seconds, .inl (k_p2_seconds, 401, .inr (.inl x_p2_seconds))) :: (h_p2_links, .inl (k_p2_links, 401, .inl x_p2_links)) :: (h_p2_heads, .inl (k_p2_heads, 512, .inl x_p2_heads)) :: (h_p2_stamps, .inl (k_p2_stamps, 512, .inl x_p2_stamps)) :: R) → va_S A s.heap H locs → lv_has ls 13 [(0, .ref h_t)] → W p l e { frames := 3, cells := 0, slots := 0, locals := 83 } s m args below meth c H locs 0 0 Q (F0 m 146 ls [])) → W p l e { frames := 3, cells := 0, slots := 0, locals := 83 } s m args below meth c H locs 0 0 Q (F0 m 14 ls []) := by
    intro Q n
    induction n with
    | zero =>
      intro l7 l9 l11 t_kind t_ahead t_length t_places p1_nextY p1_nextZ p2_stamp p2_size p2_firsts p2_seconds p2_links p2_heads p2_stamps tg x11 x12 x_t_places x_p1_nextY x_p1_nextZ x_p2_size x_p2_firsts x_p2_seconds x_p2_links x_p2_heads x_p2_stamps h
      rw [f_X10_go_L14] at h; cases h
    | succ n ih =>
      intro l7 l9 l11 t_kind t_ahead t_length t_places p1_nextY p1_nextZ p2_stamp p2_size p2_firsts p2_seconds p2_links p2_heads p2_stamps tg x11 x12 x_t_places x_p1_nextY x_p1_nextZ x_p2_size x_p2_firsts x_p2_seconds x_p2_links x_p2_heads x_p2_stamps h H locs ls hP hD hS hl kk0 kk1 kk2 kk3
      rw [f_X10_go_L14] at h
      refine lv_iload hx hb dX10_go_14 (lv_at hl 5 rfl) ?_
      refine lv_sipush (v := 300) hx hb dX10_go_16 (by decide) ?_
      refine lv_icmp_gt (tgt := 146) hx hb dX10_go_19 (by decide) (fun c2 => ?_) (fun c2 => ?_)
      · have h := br_pos c2 h
        cases h
        exact kk3 rfl _ _ _ hP hD hS (lv_sub hl [0] rfl)
      · have h := br_neg c2 h
        refine lv_lload hx hb dX10_go_22 (lv_at hl 3 rfl) ?_
        refine lv_lconst (v := 0) hx hb dX10_go_24 (by decide) ?_
        refine xl_ne (tgt := 45) hx hb dX10_go_25 dX10_go_26 (by decide) (fun c3 => ?_) (fun c3 => ?_)
        · have h := br_neg c3 h
          refine lv_lload hx hb dX10_go_45 (lv_at hl 3 rfl) ?_
          refine lv_ldc2 (v := 1000000) hx hb hown (ha _ q772) dX10_go_47 ?_
          obtain ⟨r_c50_13, e_c50_13, h⟩ := bnd1_ok h
          refine cl_z (rn_sn (As := [.long l7, .long 1000000]) (rest := []) S (c_X11_isBeyond l D ((h_t, .inr (10, [.ref h_t_places, .int t_kind, .int t_ahead, .int t_length])) :: (h_t_places, .inl (k_t_places, 300, .inl t_places)) :: (h_p1, .inr (2, [z_p1_0, .int p1_p, .int p1_q, .int p1_norm, .long p1_sideY, .long p1_sideZ, .long p1_divisor, z_p1_7, .ref h_p1_digitY, .ref h_p1_digitZ, z_p1_10, .ref h_p1_digitOfKey, .long p1_nextY, .long p1_nextZ])) :: (h_p1_digitY, .inl (k_p1_digitY, 25, .inl p1_digitY)) :: (h_p1_digitZ, .inl (k_p1_digitZ, 25, .inl p1_digitZ)) :: (h_p1_digitOfKey, .inl (k_p1_digitOfKey, 625, .inl p1_digitOfKey)) :: (h_p2, .inr (9, [.ref h_p2_firsts, .ref h_p2_seconds, .ref h_p2_links, .ref h_p2_heads, .ref h_p2_stamps, .int p2_stamp, .int p2_size])) :: (h_p2_firsts, .inl (k_p2_firsts, 401, .inr (.inl p2_firsts))) :: (h_p2_seconds, .inl (k_p2_seconds, 401, .inr (.inl p2_seconds))) :: (h_p2_links, .inl (k_p2_links, 401, .inl p2_links)) :: (h_p2_heads, .inl (k_p2_heads, 512, .inl p2_heads)) :: (h_p2_stamps, .inl (k_p2_stamps, 512, .inl p2_stamps)) :: R) l7 1000000 r_c50_13 e_c50_13 _) (hN.n14) q322 q48 q323 nd_X11_isBeyond ⟨Nat.le_of_ble_eq_true rfl, Nat.le_of_ble_eq_true rfl⟩ rfl rfl hP hD (hK.sub (tys' := []) [] rfl) hN rfl hl.1 rfl (Nat.le_of_ble_eq_true rfl) dX10_go_50 ⟨Nat.le_of_ble_eq_true rfl, Nat.le_of_ble_eq_true rfl⟩) hS hA hD (fun H locs hP hD hS z_c50_13 => ?_)
          have hP : va_P D vwCl ((h_t, .inr (10, [.ref h_t_places, .int t_kind, .int t_ahead, .int t_length])) :: (h_t_places, .inl (k_t_places, 300, .inl t_places)) :: (h_p1, .inr (2, [z_p1_0, .int p1_p, .int p1_q, .int p1_norm, .long p1_sideY, .long p1_sideZ, .long p1_divisor, z_p1_7, .ref h_p1_digitY, .ref h_p1_digitZ, z_p1_10, .ref h_p1_digitOfKey, .long p1_nextY, .long p1_nextZ])) :: (h_p1_digitY, .inl (k_p1_digitY, 25, .inl p1_digitY)) :: (h_p1_digitZ, .inl (k_p1_digitZ, 25, .inl p1_digitZ)) :: (h_p1_digitOfKey, .inl (k_p1_digitOfKey, 625, .inl p1_digitOfKey)) :: (h_p2, .inr (9, [.ref h_p2_firsts, .ref h_p2_seconds, .ref h_p2_links, .ref h_p2_heads, .ref h_p2_stamps, .int p2_stamp, .int p2_size])) :: (h_p2_firsts, .inl (k_p2_firsts, 401, .inr (.inl p2_firsts))) :: (h_p2_seconds, .inl (k_p2_seconds, 401, .inr (.inl p2_seconds))) :: (h_p2_links, .inl (k_p2_links, 401, .inl p2_links)) :: (h_p2_heads, .inl (k_p2_heads, 512, .inl p2_heads)) :: (h_p2_stamps, .inl (k_p2_stamps, 512, .inl p2_stamps)) :: R) H := hP
          have hD : va_D A ((h_t, .inr (10, [.ref h_t_places, .int t_kind, .int t_ahead, .int t_length])) :: (h_t_places, .inl (k_t_places, 300, .inl t_places)) :: (h_p1, .inr (2, [z_p1_0, .int p1_p, .int p1_q, .int p1_norm, .long p1_sideY, .long p1_sideZ, .long p1_divisor, z_p1_7, .ref h_p1_digitY, .ref h_p1_digitZ, z_p1_10, .ref h_p1_digitOfKey, .long p1_nextY, .long p1_nextZ])) :: (h_p1_digitY, .inl (k_p1_digitY, 25, .inl p1_digitY)) :: (h_p1_digitZ, .inl (k_p1_digitZ, 25, .inl p1_digitZ)) :: (h_p1_digitOfKey, .inl (k_p1_digitOfKey, 625, .inl p1_digitOfKey)) :: (h_p2, .inr (9, [.ref h_p2_firsts, .ref h_p2_seconds, .ref h_p2_links, .ref h_p2_heads, .ref h_p2_stamps, .int p2_stamp, .int p2_size])) :: (h_p2_firsts, .inl (k_p2_firsts, 401, .inr (.inl p2_firsts))) :: (h_p2_seconds, .inl (k_p2_seconds, 401, .inr (.inl p2_seconds))) :: (h_p2_links, .inl (k_p2_links, 401, .inl p2_links)) :: (h_p2_heads, .inl (k_p2_heads, 512, .inl p2_heads)) :: (h_p2_stamps, .inl (k_p2_stamps, 512, .inl p2_stamps)) :: R) := hD
          refine lv_if_ne (tgt := 67) hx hb dX10_go_53 (by decide) (fun c15 => ?_) (fun c15 => ?_)
          · have h := br_neg c15 h
            cases h
            exact kk1 rfl _ _ _ hP hD hS (lv_sub hl [0, 5] rfl)
          · have h := br_pos c15 h
            refine lv_lload hx hb dX10_go_56 (lv_at hl 4 rfl) ?_
            refine lv_ldc2 (v := 1000000) hx hb hown (ha _ q772) dX10_go_58 ?_
            obtain ⟨r_c61_15, e_c61_15, h⟩ := bnd1_ok h
            refine cl_z (rn_sn (As := [.long l9, .long 1000000]) (rest := []) S (c_X11_isBeyond l D ((h_t, .inr (10, [.ref h_t_places, .int t_kind, .int t_ahead, .int t_length])) :: (h_t_places, .inl (k_t_places, 300, .inl t_places)) :: (h_p1, .inr (2, [z_p1_0, .int p1_p, .int p1_q, .int p1_norm, .long p1_sideY, .long p1_sideZ, .long p1_divisor, z_p1_7, .ref h_p1_digitY, .ref h_p1_digitZ, z_p1_10, .ref h_p1_digitOfKey, .long p1_nextY, .long p1_nextZ])) :: (h_p1_digitY, .inl (k_p1_digitY, 25, .inl p1_digitY)) :: (h_p1_digitZ, .inl (k_p1_digitZ, 25, .inl p1_digitZ)) :: (h_p1_digitOfKey, .inl (k_p1_digitOfKey, 625, .inl p1_digitOfKey)) :: (h_p2, .inr (9, [.ref h_p2_firsts, .ref h_p2_seconds, .ref h_p2_links, .ref h_p2_heads, .ref h_p2_stamps, .int p2_stamp, .int p2_size])) :: (h_p2_firsts, .inl (k_p2_firsts, 401, .inr (.inl p2_firsts))) :: (h_p2_seconds, .inl (k_p2_seconds, 401, .inr (.inl p2_seconds))) :: (h_p2_links, .inl (k_p2_links, 401, .inl p2_links)) :: (h_p2_heads, .inl (k_p2_heads, 512, .inl p2_heads)) :: (h_p2_stamps, .inl (k_p2_stamps, 512, .inl p2_stamps)) :: R) l9 1000000 r_c61_15 e_c61_15 _) (hN.n14) q322 q48 q323 nd_X11_isBeyond ⟨Nat.le_of_ble_eq_true rfl, Nat.le_of_ble_eq_true rfl⟩ rfl rfl hP hD (hK.sub (tys' := []) [] rfl) hN rfl hl.1 rfl (Nat.le_of_ble_eq_true rfl) dX10_go_61 ⟨Nat.le_of_ble_eq_true rfl, Nat.le_of_ble_eq_true rfl⟩) hS hA hD (fun H locs hP hD hS z_c61_15 => ?_)
            have hP : va_P D vwCl ((h_t, .inr (10, [.ref h_t_places, .int t_kind, .int t_ahead, .int t_length])) :: (h_t_places, .inl (k_t_places, 300, .inl t_places)) :: (h_p1, .inr (2, [z_p1_0, .int p1_p, .int p1_q, .int p1_norm, .long p1_sideY, .long p1_sideZ, .long p1_divisor, z_p1_7, .ref h_p1_digitY, .ref h_p1_digitZ, z_p1_10, .ref h_p1_digitOfKey, .long p1_nextY, .long p1_nextZ])) :: (h_p1_digitY, .inl (k_p1_digitY, 25, .inl p1_digitY)) :: (h_p1_digitZ, .inl (k_p1_digitZ, 25, .inl p1_digitZ)) :: (h_p1_digitOfKey, .inl (k_p1_digitOfKey, 625, .inl p1_digitOfKey)) :: (h_p2, .inr (9, [.ref h_p2_firsts, .ref h_p2_seconds, .ref h_p2_links, .ref h_p2_heads, .ref h_p2_stamps, .int p2_stamp, .int p2_size])) :: (h_p2_firsts, .inl (k_p2_firsts, 401, .inr (.inl p2_firsts))) :: (h_p2_seconds, .inl (k_p2_seconds, 401, .inr (.inl p2_seconds))) :: (h_p2_links, .inl (k_p2_links, 401, .inl p2_links)) :: (h_p2_heads, .inl (k_p2_heads, 512, .inl p2_heads)) :: (h_p2_stamps, .inl (k_p2_stamps, 512, .inl p2_stamps)) :: R) H := hP
            have hD : va_D A ((h_t, .inr (10, [.ref h_t_places, .int t_kind, .int t_ahead, .int t_length])) :: (h_t_places, .inl (k_t_places, 300, .inl t_places)) :: (h_p1, .inr (2, [z_p1_0, .int p1_p, .int p1_q, .int p1_norm, .long p1_sideY, .long p1_sideZ, .long p1_divisor, z_p1_7, .ref h_p1_digitY, .ref h_p1_digitZ, z_p1_10, .ref h_p1_digitOfKey, .long p1_nextY, .long p1_nextZ])) :: (h_p1_digitY, .inl (k_p1_digitY, 25, .inl p1_digitY)) :: (h_p1_digitZ, .inl (k_p1_digitZ, 25, .inl p1_digitZ)) :: (h_p1_digitOfKey, .inl (k_p1_digitOfKey, 625, .inl p1_digitOfKey)) :: (h_p2, .inr (9, [.ref h_p2_firsts, .ref h_p2_seconds, .ref h_p2_links, .ref h_p2_heads, .ref h_p2_stamps, .int p2_stamp, .int p2_size])) :: (h_p2_firsts, .inl (k_p2_firsts, 401, .inr (.inl p2_firsts))) :: (h_p2_seconds, .inl (k_p2_seconds, 401, .inr (.inl p2_seconds))) :: (h_p2_links, .inl (k_p2_links, 401, .inl p2_links)) :: (h_p2_heads, .inl (k_p2_heads, 512, .inl p2_heads)) :: (h_p2_stamps, .inl (k_p2_stamps, 512, .inl p2_stamps)) :: R) := hD
            refine lv_if_eq (tgt := 76) hx hb dX10_go_64 (by decide) (fun c17 => ?_) (fun c17 => ?_)
            · have h := br_pos c17 h
              refine lv_aload_n hx hb dX10_go_76 rfl (lv_at hl 2 rfl) ?_
              refine lv_lload hx hb dX10_go_77 (lv_at hl 3 rfl) ?_
              refine lv_lload hx hb dX10_go_79 (lv_at hl 4 rfl) ?_
              obtain ⟨r_c81_17, p2_size_c81_17, p2_firsts_c81_17, p2_seconds_c81_17, p2_links_c81_17, p2_heads_c81_17, p2_stamps_c81_17, e_c81_17, h⟩ := bnd7_ok h
              have hP : va_P D vwCl ((h_p2, .inr (9, [.ref h_p2_firsts, .ref h_p2_seconds, .ref h_p2_links, .ref h_p2_heads, .ref h_p2_stamps, .int p2_stamp, .int p2_size])) :: (h_p2_firsts, .inl (k_p2_firsts, 401, .inr (.inl p2_firsts))) :: (h_p2_seconds, .inl (k_p2_seconds, 401, .inr (.inl p2_seconds))) :: (h_p2_links, .inl (k_p2_links, 401, .inl p2_links)) :: (h_p2_heads, .inl (k_p2_heads, 512, .inl p2_heads)) :: (h_p2_stamps, .inl (k_p2_stamps, 512, .inl p2_stamps)) :: (h_t, .inr (10, [.ref h_t_places, .int t_kind, .int t_ahead, .int t_length])) :: (h_t_places, .inl (k_t_places, 300, .inl t_places)) :: (h_p1, .inr (2, [z_p1_0, .int p1_p, .int p1_q, .int p1_norm, .long p1_sideY, .long p1_sideZ, .long p1_divisor, z_p1_7, .ref h_p1_digitY, .ref h_p1_digitZ, z_p1_10, .ref h_p1_digitOfKey, .long p1_nextY, .long p1_nextZ])) :: (h_p1_digitY, .inl (k_p1_digitY, 25, .inl p1_digitY)) :: (h_p1_digitZ, .inl (k_p1_digitZ, 25, .inl p1_digitZ)) :: (h_p1_digitOfKey, .inl (k_p1_digitOfKey, 625, .inl p1_digitOfKey)) :: R) _ := pm_P [6, 7, 8, 9, 10, 11, 0, 1, 2, 3, 4, 5] 12 hP
              have hD : va_D A ((h_p2, .inr (9, [.ref h_p2_firsts, .ref h_p2_seconds, .ref h_p2_links, .ref h_p2_heads, .ref h_p2_stamps, .int p2_stamp, .int p2_size])) :: (h_p2_firsts, .inl (k_p2_firsts, 401, .inr (.inl p2_firsts))) :: (h_p2_seconds, .inl (k_p2_seconds, 401, .inr (.inl p2_seconds))) :: (h_p2_links, .inl (k_p2_links, 401, .inl p2_links)) :: (h_p2_heads, .inl (k_p2_heads, 512, .inl p2_heads)) :: (h_p2_stamps, .inl (k_p2_stamps, 512, .inl p2_stamps)) :: (h_t, .inr (10, [.ref h_t_places, .int t_kind, .int t_ahead, .int t_length])) :: (h_t_places, .inl (k_t_places, 300, .inl t_places)) :: (h_p1, .inr (2, [z_p1_0, .int p1_p, .int p1_q, .int p1_norm, .long p1_sideY, .long p1_sideZ, .long p1_divisor, z_p1_7, .ref h_p1_digitY, .ref h_p1_digitZ, z_p1_10, .ref h_p1_digitOfKey, .long p1_nextY, .long p1_nextZ])) :: (h_p1_digitY, .inl (k_p1_digitY, 25, .inl p1_digitY)) :: (h_p1_digitZ, .inl (k_p1_digitZ, 25, .inl p1_digitZ)) :: (h_p1_digitOfKey, .inl (k_p1_digitOfKey, 625, .inl p1_digitOfKey)) :: R) := pm_D (X := [(h_p2, .inr (9, [.ref h_p2_firsts, .ref h_p2_seconds, .ref h_p2_links, .ref h_p2_heads, .ref h_p2_stamps, .int p2_stamp, .int p2_size])), (h_p2_firsts, .inl (k_p2_firsts, 401, .inr (.inl p2_firsts))), (h_p2_seconds, .inl (k_p2_seconds, 401, .inr (.inl p2_seconds))), (h_p2_links, .inl (k_p2_links, 401, .inl p2_links)), (h_p2_heads, .inl (k_p2_heads, 512, .inl p2_heads)), (h_p2_stamps, .inl (k_p2_stamps, 512, .inl p2_stamps)), (h_t, .inr (10, [.ref h_t_places, .int t_kind, .int t_ahead, .int t_length])), (h_t_places, .inl (k_t_places, 300, .inl t_places)), (h_p1, .inr (2, [z_p1_0, .int p1_p, .int p1_q, .int p1_norm, .long p1_sideY, .long p1_sideZ, .long p1_divisor, z_p1_7, .ref h_p1_digitY, .ref h_p1_digitZ, z_p1_10, .ref h_p1_digitOfKey, .long p1_nextY, .long p1_nextZ])), (h_p1_digitY, .inl (k_p1_digitY, 25, .inl p1_digitY)), (h_p1_digitZ, .inl (k_p1_digitZ, 25, .inl p1_digitZ)), (h_p1_digitOfKey, .inl (k_p1_digitOfKey, 625, .inl p1_digitOfKey))]) [6, 7, 8, 9, 10, 11, 0, 1, 2, 3, 4, 5] 12 (by decide) (by decide) rfl hD
              refine cl_i (rn_v (ci := 9) (As := [.long l7, .long l9]) (rest := []) S (c_X9_meet l D ((h_t, .inr (10, [.ref h_t_places, .int t_kind, .int t_ahead, .int t_length])) :: (h_t_places, .inl (k_t_places, 300, .inl t_places)) :: (h_p1, .inr (2, [z_p1_0, .int p1_p, .int p1_q, .int p1_norm, .long p1_sideY, .long p1_sideZ, .long p1_divisor, z_p1_7, .ref h_p1_digitY, .ref h_p1_digitZ, z_p1_10, .ref h_p1_digitOfKey, .long p1_nextY, .long p1_nextZ])) :: (h_p1_digitY, .inl (k_p1_digitY, 25, .inl p1_digitY)) :: (h_p1_digitZ, .inl (k_p1_digitZ, 25, .inl p1_digitZ)) :: (h_p1_digitOfKey, .inl (k_p1_digitOfKey, 625, .inl p1_digitOfKey)) :: R) h_p2 p2_stamp p2_size h_p2_firsts k_p2_firsts p2_firsts h_p2_seconds k_p2_seconds p2_seconds h_p2_links k_p2_links p2_links h_p2_heads k_p2_heads p2_heads h_p2_stamps k_p2_stamps p2_stamps l7 l9 r_c81_17 p2_size_c81_17 p2_firsts_c81_17 p2_seconds_c81_17 p2_links_c81_17 p2_heads_c81_17 p2_stamps_c81_17 e_c81_17 _) q774 q603 q604 q56 q605 nd_X9_meet ⟨Nat.le_of_ble_eq_true rfl, Nat.le_of_ble_eq_true rfl⟩ rfl rfl hP hD (hK.sub (tys' := [(k_p2_firsts, .long), (k_p2_seconds, .long), (k_p2_links, .int), (k_p2_heads, .int), (k_p2_stamps, .int)]) [4, 5, 6, 7, 8] rfl) hN rfl ⟨0, _, rfl⟩ rfl hl.1 rfl (Nat.le_of_ble_eq_true rfl) dX10_go_81 ⟨Nat.le_of_ble_eq_true rfl, Nat.le_of_ble_eq_true rfl⟩) hS hA hD (fun H locs hP hD hS => ?_)
              have hP : va_P D vwCl ((h_t, .inr (10, [.ref h_t_places, .int t_kind, .int t_ahead, .int t_length])) :: (h_t_places, .inl (k_t_places, 300, .inl t_places)) :: (h_p1, .inr (2, [z_p1_0, .int p1_p, .int p1_q, .int p1_norm, .long p1_sideY, .long p1_sideZ, .long p1_divisor, z_p1_7, .ref h_p1_digitY, .ref h_p1_digitZ, z_p1_10, .ref h_p1_digitOfKey, .long p1_nextY, .long p1_nextZ])) :: (h_p1_digitY, .inl (k_p1_digitY, 25, .inl p1_digitY)) :: (h_p1_digitZ, .inl (k_p1_digitZ, 25, .inl p1_digitZ)) :: (h_p1_digitOfKey, .inl (k_p1_digitOfKey, 625, .inl p1_digitOfKey)) :: (h_p2, .inr (9, [.ref h_p2_firsts, .ref h_p2_seconds, .ref h_p2_links, .ref h_p2_heads, .ref h_p2_stamps, .int p2_stamp, .int p2_size_c81_17])) :: (h_p2_firsts, .inl (k_p2_firsts, 401, .inr (.inl p2_firsts_c81_17))) :: (h_p2_seconds, .inl (k_p2_seconds, 401, .inr (.inl p2_seconds_c81_17))) :: (h_p2_links, .inl (k_p2_links, 401, .inl p2_links_c81_17)) :: (h_p2_heads, .inl (k_p2_heads, 512, .inl p2_heads_c81_17)) :: (h_p2_stamps, .inl (k_p2_stamps, 512, .inl p2_stamps_c81_17)) :: R) H := pm_P [6, 7, 8, 9, 10, 11, 0, 1, 2, 3, 4, 5] 12 hP
              have hD : va_D A ((h_t, .inr (10, [.ref h_t_places, .int t_kind, .int t_ahead, .int t_length])) :: (h_t_places, .inl (k_t_places, 300, .inl t_places)) :: (h_p1, .inr (2, [z_p1_0, .int p1_p, .int p1_q, .int p1_norm, .long p1_sideY, .long p1_sideZ, .long p1_divisor, z_p1_7, .ref h_p1_digitY, .ref h_p1_digitZ, z_p1_10, .ref h_p1_digitOfKey, .long p1_nextY, .long p1_nextZ])) :: (h_p1_digitY, .inl (k_p1_digitY, 25, .inl p1_digitY)) :: (h_p1_digitZ, .inl (k_p1_digitZ, 25, .inl p1_digitZ)) :: (h_p1_digitOfKey, .inl (k_p1_digitOfKey, 625, .inl p1_digitOfKey)) :: (h_p2, .inr (9, [.ref h_p2_firsts, .ref h_p2_seconds, .ref h_p2_links, .ref h_p2_heads, .ref h_p2_stamps, .int p2_stamp, .int p2_size_c81_17])) :: (h_p2_firsts, .inl (k_p2_firsts, 401, .inr (.inl p2_firsts_c81_17))) :: (h_p2_seconds, .inl (k_p2_seconds, 401, .inr (.inl p2_seconds_c81_17))) :: (h_p2_links, .inl (k_p2_links, 401, .inl p2_links_c81_17)) :: (h_p2_heads, .inl (k_p2_heads, 512, .inl p2_heads_c81_17)) :: (h_p2_stamps, .inl (k_p2_stamps, 512, .inl p2_stamps_c81_17)) :: R) := pm_D (X := [(h_t, .inr (10, [.ref h_t_places, .int t_kind, .int t_ahead, .int t_length])), (h_t_places, .inl (k_t_places, 300, .inl t_places)), (h_p1, .inr (2, [z_p1_0, .int p1_p, .int p1_q, .int p1_norm, .long p1_sideY, .long p1_sideZ, .long p1_divisor, z_p1_7, .ref h_p1_digitY, .ref h_p1_digitZ, z_p1_10, .ref h_p1_digitOfKey, .long p1_nextY, .long p1_nextZ])), (h_p1_digitY, .inl (k_p1_digitY, 25, .inl p1_digitY)), (h_p1_digitZ, .inl (k_p1_digitZ, 25, .inl p1_digitZ)), (h_p1_digitOfKey, .inl (k_p1_digitOfKey, 625, .inl p1_digitOfKey)), (h_p2, .inr (9, [.ref h_p2_firsts, .ref h_p2_seconds, .ref h_p2_links, .ref h_p2_heads, .ref h_p2_stamps, .int p2_stamp, .int p2_size_c81_17])), (h_p2_firsts, .inl (k_p2_firsts, 401, .inr (.inl p2_firsts_c81_17))), (h_p2_seconds, .inl (k_p2_seconds, 401, .inr (.inl p2_seconds_c81_17))), (h_p2_links, .inl (k_p2_links, 401, .inl p2_links_c81_17)), (h_p2_heads, .inl (k_p2_heads, 512, .inl p2_heads_c81_17)), (h_p2_stamps, .inl (k_p2_stamps, 512, .inl p2_stamps_c81_17))]) [6, 7, 8, 9, 10, 11, 0, 1, 2, 3, 4, 5] 12 (by decide) (by decide) rfl hD
              refine lv_istore (lv' := [(12, .int r_c81_17), (0, .ref h_t), (1, .ref h_p1), (2, .ref h_p2), (7, .long l7), (9, .long l9), (11, .int l11)]) hx hb dX10_go_84 hl (by decide) rfl (fun ls hl => ?_)
              refine lv_iload hx hb dX10_go_86 (lv_at hl 0 rfl) ?_
              refine lv_iconst (v := (-1)) hx hb dX10_go_88 (by decide) ?_
              refine lv_icmp_eq (tgt := 105) hx hb dX10_go_89 (by decide) (fun c19 => ?_) (fun c19 => ?_)
              · have h := br_pos c19 h
                refine lv_iload hx hb dX10_go_105 (lv_at hl 6 rfl) ?_
                refine lv_sipush (v := 300) hx hb dX10_go_107 (by decide) ?_
                refine lv_icmp_ge (tgt := 140) hx hb dX10_go_110 (by decide) (fun c20 => ?_) (fun c20 => ?_)
                · have h := br_pos c20 h
                  refine lv_iinc (v := (l11 + 1)) (lv' := [(11, .int (l11 + 1)), (12, .int r_c81_17), (0, .ref h_t), (1, .ref h_p1), (2, .ref h_p2), (7, .long l7), (9, .long l9)]) hx hb dX10_go_140 hl (k := 6) rfl rfl (by decide) rfl (fun ls hl => ?_)
                  refine lv_goto (tgt := 14) hx hb dX10_go_143 (by decide) ?_
                  exact ih l7 l9 (l11 + 1) t_kind t_ahead t_length t_places p1_nextY p1_nextZ p2_stamp p2_size_c81_17 p2_firsts_c81_17 p2_seconds_c81_17 p2_links_c81_17 p2_heads_c81_17 p2_stamps_c81_17 _ _ _ _ _ _ _ _ _ _ _ _ h _ _ _ hP hD hS (lv_sub hl [2, 3, 4, 5, 6, 0] rfl) kk0 kk1 kk2 kk3
                · have h := br_neg c20 h
                  refine lv_aload_n hx hb dX10_go_113 rfl (lv_at hl 1 rfl) ?_
                  refine va_get (D := D) (ci := 10) (v := .ref h_t_places) (C := RX10) (T := TX10) (N := 4) hx hb ha ix10 hown hK hP 0 rfl rfl 0 (by decide) (ha _ q404) (fun _ h9 => h9) rfl dX10_go_114 ?_
                  refine lv_iload hx hb dX10_go_117 (lv_at hl 6 rfl) ?_
                  refine lv_aload_n hx hb dX10_go_119 rfl (lv_at hl 2 rfl) ?_
                  refine lv_lload hx hb dX10_go_120 (lv_at hl 4 rfl) ?_
                  refine lv_lload hx hb dX10_go_122 (lv_at hl 5 rfl) ?_
                  obtain ⟨r_c124_20, p1_nextY_c124_20, p1_nextZ_c124_20, e_c124_20, h⟩ := bnd3_ok h
                  have hP : va_P D vwCl ((h_p1, .inr (2, [z_p1_0, .int p1_p, .int p1_q, .int p1_norm, .long p1_sideY, .long p1_sideZ, .long p1_divisor, z_p1_7, .ref h_p1_digitY, .ref h_p1_digitZ, z_p1_10, .ref h_p1_digitOfKey, .long p1_nextY, .long p1_nextZ])) :: (h_p1_digitY, .inl (k_p1_digitY, 25, .inl p1_digitY)) :: (h_p1_digitZ, .inl (k_p1_digitZ, 25, .inl p1_digitZ)) :: (h_p1_digitOfKey, .inl (k_p1_digitOfKey, 625, .inl p1_digitOfKey)) :: (h_t, .inr (10, [.ref h_t_places, .int t_kind, .int t_ahead, .int t_length])) :: (h_t_places, .inl (k_t_places, 300, .inl t_places)) :: (h_p2, .inr (9, [.ref h_p2_firsts, .ref h_p2_seconds, .ref h_p2_links, .ref h_p2_heads, .ref h_p2_stamps, .int p2_stamp, .int p2_size_c81_17])) :: (h_p2_firsts, .inl (k_p2_firsts, 401, .inr (.inl p2_firsts_c81_17))) :: (h_p2_seconds, .inl (k_p2_seconds, 401, .inr (.inl p2_seconds_c81_17))) :: (h_p2_links, .inl (k_p2_links, 401, .inl p2_links_c81_17)) :: (h_p2_heads, .inl (k_p2_heads, 512, .inl p2_heads_c81_17)) :: (h_p2_stamps, .inl (k_p2_stamps, 512, .inl p2_stamps_c81_17)) :: R) _ := pm_P [2, 3, 4, 5, 0, 1, 6, 7, 8, 9, 10, 11] 12 hP
                  have hD : va_D A ((h_p1, .inr (2, [z_p1_0, .int p1_p, .int p1_q, .int p1_norm, .long p1_sideY, .long p1_sideZ, .long p1_divisor, z_p1_7, .ref h_p1_digitY, .ref h_p1_digitZ, z_p1_10, .ref h_p1_digitOfKey, .long p1_nextY, .long p1_nextZ])) :: (h_p1_digitY, .inl (k_p1_digitY, 25, .inl p1_digitY)) :: (h_p1_digitZ, .inl (k_p1_digitZ, 25, .inl p1_digitZ)) :: (h_p1_digitOfKey, .inl (k_p1_digitOfKey, 625, .inl p1_digitOfKey)) :: (h_t, .inr (10, [.ref h_t_places, .int t_kind, .int t_ahead, .int t_length])) :: (h_t_places, .inl (k_t_places, 300, .inl t_places)) :: (h_p2, .inr (9, [.ref h_p2_firsts, .ref h_p2_seconds, .ref h_p2_links, .ref h_p2_heads, .ref h_p2_stamps, .int p2_stamp, .int p2_size_c81_17])) :: (h_p2_firsts, .inl (k_p2_firsts, 401, .inr (.inl p2_firsts_c81_17))) :: (h_p2_seconds, .inl (k_p2_seconds, 401, .inr (.inl p2_seconds_c81_17))) :: (h_p2_links, .inl (k_p2_links, 401, .inl p2_links_c81_17)) :: (h_p2_heads, .inl (k_p2_heads, 512, .inl p2_heads_c81_17)) :: (h_p2_stamps, .inl (k_p2_stamps, 512, .inl p2_stamps_c81_17)) :: R) := pm_D (X := [(h_p1, .inr (2, [z_p1_0, .int p1_p, .int p1_q, .int p1_norm, .long p1_sideY, .long p1_sideZ, .long p1_divisor, z_p1_7, .ref h_p1_digitY, .ref h_p1_digitZ, z_p1_10, .ref h_p1_digitOfKey, .long p1_nextY, .long p1_nextZ])), (h_p1_digitY, .inl (k_p1_digitY, 25, .inl p1_digitY)), (h_p1_digitZ, .inl (k_p1_digitZ, 25, .inl p1_digitZ)), (h_p1_digitOfKey, .inl (k_p1_digitOfKey, 625, .inl p1_digitOfKey)), (h_t, .inr (10, [.ref h_t_places, .int t_kind, .int t_ahead, .int t_length])), (h_t_places, .inl (k_t_places, 300, .inl t_places)), (h_p2, .inr (9, [.ref h_p2_firsts, .ref h_p2_seconds, .ref h_p2_links, .ref h_p2_heads, .ref h_p2_stamps, .int p2_stamp, .int p2_size_c81_17])), (h_p2_firsts, .inl (k_p2_firsts, 401, .inr (.inl p2_firsts_c81_17))), (h_p2_seconds, .inl (k_p2_seconds, 401, .inr (.inl p2_seconds_c81_17))), (h_p2_links, .inl (k_p2_links, 401, .inl p2_links_c81_17)), (h_p2_heads, .inl (k_p2_heads, 512, .inl p2_heads_c81_17)), (h_p2_stamps, .inl (k_p2_stamps, 512, .inl p2_stamps_c81_17))]) [2, 3, 4, 5, 0, 1, 6, 7, 8, 9, 10, 11] 12 (by decide) (by decide) rfl hD
                  refine cl_i (rn_v (ci := 2) (As := [.long l7, .long l9]) (rest := [.int l11, .ref h_t_places]) S (c_X2_step l D ((h_t, .inr (10, [.ref h_t_places, .int t_kind, .int t_ahead, .int t_length])) :: (h_t_places, .inl (k_t_places, 300, .inl t_places)) :: (h_p2, .inr (9, [.ref h_p2_firsts, .ref h_p2_seconds, .ref h_p2_links, .ref h_p2_heads, .ref h_p2_stamps, .int p2_stamp, .int p2_size_c81_17])) :: (h_p2_firsts, .inl (k_p2_firsts, 401, .inr (.inl p2_firsts_c81_17))) :: (h_p2_seconds, .inl (k_p2_seconds, 401, .inr (.inl p2_seconds_c81_17))) :: (h_p2_links, .inl (k_p2_links, 401, .inl p2_links_c81_17)) :: (h_p2_heads, .inl (k_p2_heads, 512, .inl p2_heads_c81_17)) :: (h_p2_stamps, .inl (k_p2_stamps, 512, .inl p2_stamps_c81_17)) :: R) h_p1 (z_p1_0) p1_p p1_q p1_norm p1_sideY p1_sideZ p1_divisor (z_p1_7) (z_p1_10) p1_nextY p1_nextZ h_p1_digitY k_p1_digitY p1_digitY h_p1_digitZ k_p1_digitZ p1_digitZ h_p1_digitOfKey k_p1_digitOfKey p1_digitOfKey l7 l9 r_c124_20 p1_nextY_c124_20 p1_nextZ_c124_20 e_c124_20 _) q775 q776 q777 q57 q778 nd_X2_step ⟨Nat.le_of_ble_eq_true rfl, Nat.le_of_ble_eq_true rfl⟩ rfl rfl hP hD (hK.sub (tys' := [(k_p1_digitY, .int), (k_p1_digitZ, .int), (k_p1_digitOfKey, .int)]) [1, 2, 3] rfl) hN rfl ⟨0, _, rfl⟩ rfl hl.1 rfl (Nat.le_of_ble_eq_true rfl) dX10_go_124 ⟨Nat.le_of_ble_eq_true rfl, Nat.le_of_ble_eq_true rfl⟩) hS hA hD (fun H locs hP hD hS => ?_)
                  have hP : va_P D vwCl ((h_t, .inr (10, [.ref h_t_places, .int t_kind, .int t_ahead, .int t_length])) :: (h_t_places, .inl (k_t_places, 300, .inl t_places)) :: (h_p1, .inr (2, [z_p1_0, .int p1_p, .int p1_q, .int p1_norm, .long p1_sideY, .long p1_sideZ, .long p1_divisor, z_p1_7, .ref h_p1_digitY, .ref h_p1_digitZ, z_p1_10, .ref h_p1_digitOfKey, .long p1_nextY_c124_20, .long p1_nextZ_c124_20])) :: (h_p1_digitY, .inl (k_p1_digitY, 25, .inl p1_digitY)) :: (h_p1_digitZ, .inl (k_p1_digitZ, 25, .inl p1_digitZ)) :: (h_p1_digitOfKey, .inl (k_p1_digitOfKey, 625, .inl p1_digitOfKey)) :: (h_p2, .inr (9, [.ref h_p2_firsts, .ref h_p2_seconds, .ref h_p2_links, .ref h_p2_heads, .ref h_p2_stamps, .int p2_stamp, .int p2_size_c81_17])) :: (h_p2_firsts, .inl (k_p2_firsts, 401, .inr (.inl p2_firsts_c81_17))) :: (h_p2_seconds, .inl (k_p2_seconds, 401, .inr (.inl p2_seconds_c81_17))) :: (h_p2_links, .inl (k_p2_links, 401, .inl p2_links_c81_17)) :: (h_p2_heads, .inl (k_p2_heads, 512, .inl p2_heads_c81_17)) :: (h_p2_stamps, .inl (k_p2_stamps, 512, .inl p2_stamps_c81_17)) :: R) H := pm_P [4, 5, 0, 1, 2, 3, 6, 7, 8, 9, 10, 11] 12 hP
                  have hD : va_D A ((h_t, .inr (10, [.ref h_t_places, .int t_kind, .int t_ahead, .int t_length])) :: (h_t_places, .inl (k_t_places, 300, .inl t_places)) :: (h_p1, .inr (2, [z_p1_0, .int p1_p, .int p1_q, .int p1_norm, .long p1_sideY, .long p1_sideZ, .long p1_divisor, z_p1_7, .ref h_p1_digitY, .ref h_p1_digitZ, z_p1_10, .ref h_p1_digitOfKey, .long p1_nextY_c124_20, .long p1_nextZ_c124_20])) :: (h_p1_digitY, .inl (k_p1_digitY, 25, .inl p1_digitY)) :: (h_p1_digitZ, .inl (k_p1_digitZ, 25, .inl p1_digitZ)) :: (h_p1_digitOfKey, .inl (k_p1_digitOfKey, 625, .inl p1_digitOfKey)) :: (h_p2, .inr (9, [.ref h_p2_firsts, .ref h_p2_seconds, .ref h_p2_links, .ref h_p2_heads, .ref h_p2_stamps, .int p2_stamp, .int p2_size_c81_17])) :: (h_p2_firsts, .inl (k_p2_firsts, 401, .inr (.inl p2_firsts_c81_17))) :: (h_p2_seconds, .inl (k_p2_seconds, 401, .inr (.inl p2_seconds_c81_17))) :: (h_p2_links, .inl (k_p2_links, 401, .inl p2_links_c81_17)) :: (h_p2_heads, .inl (k_p2_heads, 512, .inl p2_heads_c81_17)) :: (h_p2_stamps, .inl (k_p2_stamps, 512, .inl p2_stamps_c81_17)) :: R) := pm_D (X := [(h_t, .inr (10, [.ref h_t_places, .int t_kind, .int t_ahead, .int t_length])), (h_t_places, .inl (k_t_places, 300, .inl t_places)), (h_p1, .inr (2, [z_p1_0, .int p1_p, .int p1_q, .int p1_norm, .long p1_sideY, .long p1_sideZ, .long p1_divisor, z_p1_7, .ref h_p1_digitY, .ref h_p1_digitZ, z_p1_10, .ref h_p1_digitOfKey, .long p1_nextY_c124_20, .long p1_nextZ_c124_20])), (h_p1_digitY, .inl (k_p1_digitY, 25, .inl p1_digitY)), (h_p1_digitZ, .inl (k_p1_digitZ, 25, .inl p1_digitZ)), (h_p1_digitOfKey, .inl (k_p1_digitOfKey, 625, .inl p1_digitOfKey)), (h_p2, .inr (9, [.ref h_p2_firsts, .ref h_p2_seconds, .ref h_p2_links, .ref h_p2_heads, .ref h_p2_stamps, .int p2_stamp, .int p2_size_c81_17])), (h_p2_firsts, .inl (k_p2_firsts, 401, .inr (.inl p2_firsts_c81_17))), (h_p2_seconds, .inl (k_p2_seconds, 401, .inr (.inl p2_seconds_c81_17))), (h_p2_links, .inl (k_p2_links, 401, .inl p2_links_c81_17)), (h_p2_heads, .inl (k_p2_heads, 512, .inl p2_heads_c81_17)), (h_p2_stamps, .inl (k_p2_stamps, 512, .inl p2_stamps_c81_17))]) [4, 5, 0, 1, 2, 3, 6, 7, 8, 9, 10, 11] 12 (by decide) (by decide) rfl hD
                  obtain ⟨i22, h⟩ := ix_ok h
                  refine va_iast hx hb hK hP hD hS 1 0 rfl rfl i22 dX10_go_127 (fun H locs hP hD hS => ?_)
                  have hP : va_P D vwCl ((h_t, .inr (10, [.ref h_t_places, .int t_kind, .int t_ahead, .int t_length])) :: (h_t_places, .inl (k_t_places, 300, .inl (upd t_places l11.toNatClampNeg r_c124_20))) :: (h_p1, .inr (2, [z_p1_0, .int p1_p, .int p1_q, .int p1_norm, .long p1_sideY, .long p1_sideZ, .long p1_divisor, z_p1_7, .ref h_p1_digitY, .ref h_p1_digitZ, z_p1_10, .ref h_p1_digitOfKey, .long p1_nextY_c124_20, .long p1_nextZ_c124_20])) :: (h_p1_digitY, .inl (k_p1_digitY, 25, .inl p1_digitY)) :: (h_p1_digitZ, .inl (k_p1_digitZ, 25, .inl p1_digitZ)) :: (h_p1_digitOfKey, .inl (k_p1_digitOfKey, 625, .inl p1_digitOfKey)) :: (h_p2, .inr (9, [.ref h_p2_firsts, .ref h_p2_seconds, .ref h_p2_links, .ref h_p2_heads, .ref h_p2_stamps, .int p2_stamp, .int p2_size_c81_17])) :: (h_p2_firsts, .inl (k_p2_firsts, 401, .inr (.inl p2_firsts_c81_17))) :: (h_p2_seconds, .inl (k_p2_seconds, 401, .inr (.inl p2_seconds_c81_17))) :: (h_p2_links, .inl (k_p2_links, 401, .inl p2_links_c81_17)) :: (h_p2_heads, .inl (k_p2_heads, 512, .inl p2_heads_c81_17)) :: (h_p2_stamps, .inl (k_p2_stamps, 512, .inl p2_stamps_c81_17)) :: R) H := hP
                  have hD : va_D A ((h_t, .inr (10, [.ref h_t_places, .int t_kind, .int t_ahead, .int t_length])) :: (h_t_places, .inl (k_t_places, 300, .inl (upd t_places l11.toNatClampNeg r_c124_20))) :: (h_p1, .inr (2, [z_p1_0, .int p1_p, .int p1_q, .int p1_norm, .long p1_sideY, .long p1_sideZ, .long p1_divisor, z_p1_7, .ref h_p1_digitY, .ref h_p1_digitZ, z_p1_10, .ref h_p1_digitOfKey, .long p1_nextY_c124_20, .long p1_nextZ_c124_20])) :: (h_p1_digitY, .inl (k_p1_digitY, 25, .inl p1_digitY)) :: (h_p1_digitZ, .inl (k_p1_digitZ, 25, .inl p1_digitZ)) :: (h_p1_digitOfKey, .inl (k_p1_digitOfKey, 625, .inl p1_digitOfKey)) :: (h_p2, .inr (9, [.ref h_p2_firsts, .ref h_p2_seconds, .ref h_p2_links, .ref h_p2_heads, .ref h_p2_stamps, .int p2_stamp, .int p2_size_c81_17])) :: (h_p2_firsts, .inl (k_p2_firsts, 401, .inr (.inl p2_firsts_c81_17))) :: (h_p2_seconds, .inl (k_p2_seconds, 401, .inr (.inl p2_seconds_c81_17))) :: (h_p2_links, .inl (k_p2_links, 401, .inl p2_links_c81_17)) :: (h_p2_heads, .inl (k_p2_heads, 512, .inl p2_heads_c81_17)) :: (h_p2_stamps, .inl (k_p2_stamps, 512, .inl p2_stamps_c81_17)) :: R) := hD
                  refine lv_aload_n hx hb dX10_go_128 rfl (lv_at hl 2 rfl) ?_
                  refine va_get (D := D) (ci := 2) (v := .long p1_nextY_c124_20) (C := RX2) (T := TX2) (N := 14) hx hb ha ix2 hown hK hP 2 rfl rfl 12 (by decide) (ha _ q365) (fun _ h9 => h9) rfl dX10_go_129 ?_
                  refine lv_lstore (lv' := [(7, .long p1_nextY_c124_20), (12, .int r_c81_17), (0, .ref h_t), (1, .ref h_p1), (2, .ref h_p2), (9, .long l9), (11, .int l11)]) hx hb dX10_go_132 hl (by decide) rfl (fun ls hl => ?_)
                  refine lv_aload_n hx hb dX10_go_134 rfl (lv_at hl 3 rfl) ?_
                  refine va_get (D := D) (ci := 2) (v := .long p1_nextZ_c124_20) (C := RX2) (T := TX2) (N := 14) hx hb ha ix2 hown hK hP 2 rfl rfl 13 (by decide) (ha _ q367) (fun _ h9 => h9) rfl dX10_go_135 ?_
                  refine lv_lstore (lv' := [(9, .long p1_nextZ_c124_20), (7, .long p1_nextY_c124_20), (12, .int r_c81_17), (0, .ref h_t), (1, .ref h_p1), (2, .ref h_p2), (11, .int l11)]) hx hb dX10_go_138 hl (by decide) rfl (fun ls hl => ?_)
                  refine lv_iinc (v := (l11 + 1)) (lv' := [(11, .int (l11 + 1)), (9, .long p1_nextZ_c124_20), (7, .long p1_nextY_c124_20), (12, .int r_c81_17), (0, .ref h_t), (1, .ref h_p1), (2, .ref h_p2)]) hx hb dX10_go_140 hl (k := 6) rfl rfl (by decide) rfl (fun ls hl => ?_)
                  refine lv_goto (tgt := 14) hx hb dX10_go_143 (by decide) ?_
                  exact ih p1_nextY_c124_20 p1_nextZ_c124_20 (l11 + 1) t_kind t_ahead t_length (upd t_places l11.toNatClampNeg r_c124_20) p1_nextY_c124_20 p1_nextZ_c124_20 p2_stamp p2_size_c81_17 p2_firsts_c81_17 p2_seconds_c81_17 p2_links_c81_17 p2_heads_c81_17 p2_stamps_c81_17 _ _ _ _ _ _ _ _ _ _ _ _ h _ _ _ hP hD hS (lv_sub hl [4, 5, 6, 2, 1, 0] rfl) kk0 kk1 kk2 kk3
              · have h := br_neg c19 h
                cases h
                exact kk2 rfl _ _ _ hP hD hS (lv_sub hl [1, 6, 0] rfl)
            · have h := br_neg c17 h
              cases h
              exact kk1 rfl _ _ _ hP hD hS (lv_sub hl [0, 5] rfl)
        · have h := br_pos c3 h
          refine lv_lload hx hb dX10_go_29 (lv_at hl 4 rfl) ?_
          refine lv_lconst (v := 0) hx hb dX10_go_31 (by decide) ?_
          refine xl_ne (tgt := 45) hx hb dX10_go_32 dX10_go_33 (by decide) (fun c4 => ?_) (fun c4 => ?_)
          · have h := br_neg c4 h
            refine lv_lload hx hb dX10_go_45 (lv_at hl 3 rfl) ?_
            refine lv_ldc2 (v := 1000000) hx hb hown (ha _ q772) dX10_go_47 ?_
            obtain ⟨r_c50_4, e_c50_4, h⟩ := bnd1_ok h
            refine cl_z (rn_sn (As := [.long l7, .long 1000000]) (rest := []) S (c_X11_isBeyond l D ((h_t, .inr (10, [.ref h_t_places, .int t_kind, .int t_ahead, .int t_length])) :: (h_t_places, .inl (k_t_places, 300, .inl t_places)) :: (h_p1, .inr (2, [z_p1_0, .int p1_p, .int p1_q, .int p1_norm, .long p1_sideY, .long p1_sideZ, .long p1_divisor, z_p1_7, .ref h_p1_digitY, .ref h_p1_digitZ, z_p1_10, .ref h_p1_digitOfKey, .long p1_nextY, .long p1_nextZ])) :: (h_p1_digitY, .inl (k_p1_digitY, 25, .inl p1_digitY)) :: (h_p1_digitZ, .inl (k_p1_digitZ, 25, .inl p1_digitZ)) :: (h_p1_digitOfKey, .inl (k_p1_digitOfKey, 625, .inl p1_digitOfKey)) :: (h_p2, .inr (9, [.ref h_p2_firsts, .ref h_p2_seconds, .ref h_p2_links, .ref h_p2_heads, .ref h_p2_stamps, .int p2_stamp, .int p2_size])) :: (h_p2_firsts, .inl (k_p2_firsts, 401, .inr (.inl p2_firsts))) :: (h_p2_seconds, .inl (k_p2_seconds, 401, .inr (.inl p2_seconds))) :: (h_p2_links, .inl (k_p2_links, 401, .inl p2_links)) :: (h_p2_heads, .inl (k_p2_heads, 512, .inl p2_heads)) :: (h_p2_stamps, .inl (k_p2_stamps, 512, .inl p2_stamps)) :: R) l7 1000000 r_c50_4 e_c50_4 _) (hN.n14) q322 q48 q323 nd_X11_isBeyond ⟨Nat.le_of_ble_eq_true rfl, Nat.le_of_ble_eq_true rfl⟩ rfl rfl hP hD (hK.sub (tys' := []) [] rfl) hN rfl hl.1 rfl (Nat.le_of_ble_eq_true rfl) dX10_go_50 ⟨Nat.le_of_ble_eq_true rfl, Nat.le_of_ble_eq_true rfl⟩) hS hA hD (fun H locs hP hD hS z_c50_4 => ?_)
            have hP : va_P D vwCl ((h_t, .inr (10, [.ref h_t_places, .int t_kind, .int t_ahead, .int t_length])) :: (h_t_places, .inl (k_t_places, 300, .inl t_places)) :: (h_p1, .inr (2, [z_p1_0, .int p1_p, .int p1_q, .int p1_norm, .long p1_sideY, .long p1_sideZ, .long p1_divisor, z_p1_7, .ref h_p1_digitY, .ref h_p1_digitZ, z_p1_10, .ref h_p1_digitOfKey, .long p1_nextY, .long p1_nextZ])) :: (h_p1_digitY, .inl (k_p1_digitY, 25, .inl p1_digitY)) :: (h_p1_digitZ, .inl (k_p1_digitZ, 25, .inl p1_digitZ)) :: (h_p1_digitOfKey, .inl (k_p1_digitOfKey, 625, .inl p1_digitOfKey)) :: (h_p2, .inr (9, [.ref h_p2_firsts, .ref h_p2_seconds, .ref h_p2_links, .ref h_p2_heads, .ref h_p2_stamps, .int p2_stamp, .int p2_size])) :: (h_p2_firsts, .inl (k_p2_firsts, 401, .inr (.inl p2_firsts))) :: (h_p2_seconds, .inl (k_p2_seconds, 401, .inr (.inl p2_seconds))) :: (h_p2_links, .inl (k_p2_links, 401, .inl p2_links)) :: (h_p2_heads, .inl (k_p2_heads, 512, .inl p2_heads)) :: (h_p2_stamps, .inl (k_p2_stamps, 512, .inl p2_stamps)) :: R) H := hP
            have hD : va_D A ((h_t, .inr (10, [.ref h_t_places, .int t_kind, .int t_ahead, .int t_length])) :: (h_t_places, .inl (k_t_places, 300, .inl t_places)) :: (h_p1, .inr (2, [z_p1_0, .int p1_p, .int p1_q, .int p1_norm, .long p1_sideY, .long p1_sideZ, .long p1_divisor, z_p1_7, .ref h_p1_digitY, .ref h_p1_digitZ, z_p1_10, .ref h_p1_digitOfKey, .long p1_nextY, .long p1_nextZ])) :: (h_p1_digitY, .inl (k_p1_digitY, 25, .inl p1_digitY)) :: (h_p1_digitZ, .inl (k_p1_digitZ, 25, .inl p1_digitZ)) :: (h_p1_digitOfKey, .inl (k_p1_digitOfKey, 625, .inl p1_digitOfKey)) :: (h_p2, .inr (9, [.ref h_p2_firsts, .ref h_p2_seconds, .ref h_p2_links, .ref h_p2_heads, .ref h_p2_stamps, .int p2_stamp, .int p2_size])) :: (h_p2_firsts, .inl (k_p2_firsts, 401, .inr (.inl p2_firsts))) :: (h_p2_seconds, .inl (k_p2_seconds, 401, .inr (.inl p2_seconds))) :: (h_p2_links, .inl (k_p2_links, 401, .inl p2_links)) :: (h_p2_heads, .inl (k_p2_heads, 512, .inl p2_heads)) :: (h_p2_stamps, .inl (k_p2_stamps, 512, .inl p2_stamps)) :: R) := hD
            refine lv_if_ne (tgt := 67) hx hb dX10_go_53 (by decide) (fun c6 => ?_) (fun c6 => ?_)
            · have h := br_neg c6 h
              cases h
              exact kk1 rfl _ _ _ hP hD hS (lv_sub hl [0, 5] rfl)
            · have h := br_pos c6 h
              refine lv_lload hx hb dX10_go_56 (lv_at hl 4 rfl) ?_
              refine lv_ldc2 (v := 1000000) hx hb hown (ha _ q772) dX10_go_58 ?_
              obtain ⟨r_c61_6, e_c61_6, h⟩ := bnd1_ok h
              refine cl_z (rn_sn (As := [.long l9, .long 1000000]) (rest := []) S (c_X11_isBeyond l D ((h_t, .inr (10, [.ref h_t_places, .int t_kind, .int t_ahead, .int t_length])) :: (h_t_places, .inl (k_t_places, 300, .inl t_places)) :: (h_p1, .inr (2, [z_p1_0, .int p1_p, .int p1_q, .int p1_norm, .long p1_sideY, .long p1_sideZ, .long p1_divisor, z_p1_7, .ref h_p1_digitY, .ref h_p1_digitZ, z_p1_10, .ref h_p1_digitOfKey, .long p1_nextY, .long p1_nextZ])) :: (h_p1_digitY, .inl (k_p1_digitY, 25, .inl p1_digitY)) :: (h_p1_digitZ, .inl (k_p1_digitZ, 25, .inl p1_digitZ)) :: (h_p1_digitOfKey, .inl (k_p1_digitOfKey, 625, .inl p1_digitOfKey)) :: (h_p2, .inr (9, [.ref h_p2_firsts, .ref h_p2_seconds, .ref h_p2_links, .ref h_p2_heads, .ref h_p2_stamps, .int p2_stamp, .int p2_size])) :: (h_p2_firsts, .inl (k_p2_firsts, 401, .inr (.inl p2_firsts))) :: (h_p2_seconds, .inl (k_p2_seconds, 401, .inr (.inl p2_seconds))) :: (h_p2_links, .inl (k_p2_links, 401, .inl p2_links)) :: (h_p2_heads, .inl (k_p2_heads, 512, .inl p2_heads)) :: (h_p2_stamps, .inl (k_p2_stamps, 512, .inl p2_stamps)) :: R) l9 1000000 r_c61_6 e_c61_6 _) (hN.n14) q322 q48 q323 nd_X11_isBeyond ⟨Nat.le_of_ble_eq_true rfl, Nat.le_of_ble_eq_true rfl⟩ rfl rfl hP hD (hK.sub (tys' := []) [] rfl) hN rfl hl.1 rfl (Nat.le_of_ble_eq_true rfl) dX10_go_61 ⟨Nat.le_of_ble_eq_true rfl, Nat.le_of_ble_eq_true rfl⟩) hS hA hD (fun H locs hP hD hS z_c61_6 => ?_)
              have hP : va_P D vwCl ((h_t, .inr (10, [.ref h_t_places, .int t_kind, .int t_ahead, .int t_length])) :: (h_t_places, .inl (k_t_places, 300, .inl t_places)) :: (h_p1, .inr (2, [z_p1_0, .int p1_p, .int p1_q, .int p1_norm, .long p1_sideY, .long p1_sideZ, .long p1_divisor, z_p1_7, .ref h_p1_digitY, .ref h_p1_digitZ, z_p1_10, .ref h_p1_digitOfKey, .long p1_nextY, .long p1_nextZ])) :: (h_p1_digitY, .inl (k_p1_digitY, 25, .inl p1_digitY)) :: (h_p1_digitZ, .inl (k_p1_digitZ, 25, .inl p1_digitZ)) :: (h_p1_digitOfKey, .inl (k_p1_digitOfKey, 625, .inl p1_digitOfKey)) :: (h_p2, .inr (9, [.ref h_p2_firsts, .ref h_p2_seconds, .ref h_p2_links, .ref h_p2_heads, .ref h_p2_stamps, .int p2_stamp, .int p2_size])) :: (h_p2_firsts, .inl (k_p2_firsts, 401, .inr (.inl p2_firsts))) :: (h_p2_seconds, .inl (k_p2_seconds, 401, .inr (.inl p2_seconds))) :: (h_p2_links, .inl (k_p2_links, 401, .inl p2_links)) :: (h_p2_heads, .inl (k_p2_heads, 512, .inl p2_heads)) :: (h_p2_stamps, .inl (k_p2_stamps, 512, .inl p2_stamps)) :: R) H := hP
              have hD : va_D A ((h_t, .inr (10, [.ref h_t_places, .int t_kind, .int t_ahead, .int t_length])) :: (h_t_places, .inl (k_t_places, 300, .inl t_places)) :: (h_p1, .inr (2, [z_p1_0, .int p1_p, .int p1_q, .int p1_norm, .long p1_sideY, .long p1_sideZ, .long p1_divisor, z_p1_7, .ref h_p1_digitY, .ref h_p1_digitZ, z_p1_10, .ref h_p1_digitOfKey, .long p1_nextY, .long p1_nextZ])) :: (h_p1_digitY, .inl (k_p1_digitY, 25, .inl p1_digitY)) :: (h_p1_digitZ, .inl (k_p1_digitZ, 25, .inl p1_digitZ)) :: (h_p1_digitOfKey, .inl (k_p1_digitOfKey, 625, .inl p1_digitOfKey)) :: (h_p2, .inr (9, [.ref h_p2_firsts, .ref h_p2_seconds, .ref h_p2_links, .ref h_p2_heads, .ref h_p2_stamps, .int p2_stamp, .int p2_size])) :: (h_p2_firsts, .inl (k_p2_firsts, 401, .inr (.inl p2_firsts))) :: (h_p2_seconds, .inl (k_p2_seconds, 401, .inr (.inl p2_seconds))) :: (h_p2_links, .inl (k_p2_links, 401, .inl p2_links)) :: (h_p2_heads, .inl (k_p2_heads, 512, .inl p2_heads)) :: (h_p2_stamps, .inl (k_p2_stamps, 512, .inl p2_stamps)) :: R) := hD
              refine lv_if_eq (tgt := 76) hx hb dX10_go_64 (by decide) (fun c8 => ?_) (fun c8 => ?_)
              · have h := br_pos c8 h
                refine lv_aload_n hx hb dX10_go_76 rfl (lv_at hl 2 rfl) ?_
                refine lv_lload hx hb dX10_go_77 (lv_at hl 3 rfl) ?_
                refine lv_lload hx hb dX10_go_79 (lv_at hl 4 rfl) ?_
                obtain ⟨r_c81_8, p2_size_c81_8, p2_firsts_c81_8, p2_seconds_c81_8, p2_links_c81_8, p2_heads_c81_8, p2_stamps_c81_8, e_c81_8, h⟩ := bnd7_ok h
                have hP : va_P D vwCl ((h_p2, .inr (9, [.ref h_p2_firsts, .ref h_p2_seconds, .ref h_p2_links, .ref h_p2_heads, .ref h_p2_stamps, .int p2_stamp, .int p2_size])) :: (h_p2_firsts, .inl (k_p2_firsts, 401, .inr (.inl p2_firsts))) :: (h_p2_seconds, .inl (k_p2_seconds, 401, .inr (.inl p2_seconds))) :: (h_p2_links, .inl (k_p2_links, 401, .inl p2_links)) :: (h_p2_heads, .inl (k_p2_heads, 512, .inl p2_heads)) :: (h_p2_stamps, .inl (k_p2_stamps, 512, .inl p2_stamps)) :: (h_t, .inr (10, [.ref h_t_places, .int t_kind, .int t_ahead, .int t_length])) :: (h_t_places, .inl (k_t_places, 300, .inl t_places)) :: (h_p1, .inr (2, [z_p1_0, .int p1_p, .int p1_q, .int p1_norm, .long p1_sideY, .long p1_sideZ, .long p1_divisor, z_p1_7, .ref h_p1_digitY, .ref h_p1_digitZ, z_p1_10, .ref h_p1_digitOfKey, .long p1_nextY, .long p1_nextZ])) :: (h_p1_digitY, .inl (k_p1_digitY, 25, .inl p1_digitY)) :: (h_p1_digitZ, .inl (k_p1_digitZ, 25, .inl p1_digitZ)) :: (h_p1_digitOfKey, .inl (k_p1_digitOfKey, 625, .inl p1_digitOfKey)) :: R) _ := pm_P [6, 7, 8, 9, 10, 11, 0, 1, 2, 3, 4, 5] 12 hP
                have hD : va_D A ((h_p2, .inr (9, [.ref h_p2_firsts, .ref h_p2_seconds, .ref h_p2_links, .ref h_p2_heads, .ref h_p2_stamps, .int p2_stamp, .int p2_size])) :: (h_p2_firsts, .inl (k_p2_firsts, 401, .inr (.inl p2_firsts))) :: (h_p2_seconds, .inl (k_p2_seconds, 401, .inr (.inl p2_seconds))) :: (h_p2_links, .inl (k_p2_links, 401, .inl p2_links)) :: (h_p2_heads, .inl (k_p2_heads, 512, .inl p2_heads)) :: (h_p2_stamps, .inl (k_p2_stamps, 512, .inl p2_stamps)) :: (h_t, .inr (10, [.ref h_t_places, .int t_kind, .int t_ahead, .int t_length])) :: (h_t_places, .inl (k_t_places, 300, .inl t_places)) :: (h_p1, .inr (2, [z_p1_0, .int p1_p, .int p1_q, .int p1_norm, .long p1_sideY, .long p1_sideZ, .long p1_divisor, z_p1_7, .ref h_p1_digitY, .ref h_p1_digitZ, z_p1_10, .ref h_p1_digitOfKey, .long p1_nextY, .long p1_nextZ])) :: (h_p1_digitY, .inl (k_p1_digitY, 25, .inl p1_digitY)) :: (h_p1_digitZ, .inl (k_p1_digitZ, 25, .inl p1_digitZ)) :: (h_p1_digitOfKey, .inl (k_p1_digitOfKey, 625, .inl p1_digitOfKey)) :: R) := pm_D (X := [(h_p2, .inr (9, [.ref h_p2_firsts, .ref h_p2_seconds, .ref h_p2_links, .ref h_p2_heads, .ref h_p2_stamps, .int p2_stamp, .int p2_size])), (h_p2_firsts, .inl (k_p2_firsts, 401, .inr (.inl p2_firsts))), (h_p2_seconds, .inl (k_p2_seconds, 401, .inr (.inl p2_seconds))), (h_p2_links, .inl (k_p2_links, 401, .inl p2_links)), (h_p2_heads, .inl (k_p2_heads, 512, .inl p2_heads)), (h_p2_stamps, .inl (k_p2_stamps, 512, .inl p2_stamps)), (h_t, .inr (10, [.ref h_t_places, .int t_kind, .int t_ahead, .int t_length])), (h_t_places, .inl (k_t_places, 300, .inl t_places)), (h_p1, .inr (2, [z_p1_0, .int p1_p, .int p1_q, .int p1_norm, .long p1_sideY, .long p1_sideZ, .long p1_divisor, z_p1_7, .ref h_p1_digitY, .ref h_p1_digitZ, z_p1_10, .ref h_p1_digitOfKey, .long p1_nextY, .long p1_nextZ])), (h_p1_digitY, .inl (k_p1_digitY, 25, .inl p1_digitY)), (h_p1_digitZ, .inl (k_p1_digitZ, 25, .inl p1_digitZ)), (h_p1_digitOfKey, .inl (k_p1_digitOfKey, 625, .inl p1_digitOfKey))]) [6, 7, 8, 9, 10, 11, 0, 1, 2, 3, 4, 5] 12 (by decide) (by decide) rfl hD
                refine cl_i (rn_v (ci := 9) (As := [.long l7, .long l9]) (rest := []) S (c_X9_meet l D ((h_t, .inr (10, [.ref h_t_places, .int t_kind, .int t_ahead, .int t_length])) :: (h_t_places, .inl (k_t_places, 300, .inl t_places)) :: (h_p1, .inr (2, [z_p1_0, .int p1_p, .int p1_q, .int p1_norm, .long p1_sideY, .long p1_sideZ, .long p1_divisor, z_p1_7, .ref h_p1_digitY, .ref h_p1_digitZ, z_p1_10, .ref h_p1_digitOfKey, .long p1_nextY, .long p1_nextZ])) :: (h_p1_digitY, .inl (k_p1_digitY, 25, .inl p1_digitY)) :: (h_p1_digitZ, .inl (k_p1_digitZ, 25, .inl p1_digitZ)) :: (h_p1_digitOfKey, .inl (k_p1_digitOfKey, 625, .inl p1_digitOfKey)) :: R) h_p2 p2_stamp p2_size h_p2_firsts k_p2_firsts p2_firsts h_p2_seconds k_p2_seconds p2_seconds h_p2_links k_p2_links p2_links h_p2_heads k_p2_heads p2_heads h_p2_stamps k_p2_stamps p2_stamps l7 l9 r_c81_8 p2_size_c81_8 p2_firsts_c81_8 p2_seconds_c81_8 p2_links_c81_8 p2_heads_c81_8 p2_stamps_c81_8 e_c81_8 _) q774 q603 q604 q56 q605 nd_X9_meet ⟨Nat.le_of_ble_eq_true rfl, Nat.le_of_ble_eq_true rfl⟩ rfl rfl hP hD (hK.sub (tys' := [(k_p2_firsts, .long), (k_p2_seconds, .long), (k_p2_links, .int), (k_p2_heads, .int), (k_p2_stamps, .int)]) [4, 5, 6, 7, 8] rfl) hN rfl ⟨0, _, rfl⟩ rfl hl.1 rfl (Nat.le_of_ble_eq_true rfl) dX10_go_81 ⟨Nat.le_of_ble_eq_true rfl, Nat.le_of_ble_eq_true rfl⟩) hS hA hD (fun H locs hP hD hS => ?_)
                have hP : va_P D vwCl ((h_t, .inr (10, [.ref h_t_places, .int t_kind, .int t_ahead, .int t_length])) :: (h_t_places, .inl (k_t_places, 300, .inl t_places)) :: (h_p1, .inr (2, [z_p1_0, .int p1_p, .int p1_q, .int p1_norm, .long p1_sideY, .long p1_sideZ, .long p1_divisor, z_p1_7, .ref h_p1_digitY, .ref h_p1_digitZ, z_p1_10, .ref h_p1_digitOfKey, .long p1_nextY, .long p1_nextZ])) :: (h_p1_digitY, .inl (k_p1_digitY, 25, .inl p1_digitY)) :: (h_p1_digitZ, .inl (k_p1_digitZ, 25, .inl p1_digitZ)) :: (h_p1_digitOfKey, .inl (k_p1_digitOfKey, 625, .inl p1_digitOfKey)) :: (h_p2, .inr (9, [.ref h_p2_firsts, .ref h_p2_seconds, .ref h_p2_links, .ref h_p2_heads, .ref h_p2_stamps, .int p2_stamp, .int p2_size_c81_8])) :: (h_p2_firsts, .inl (k_p2_firsts, 401, .inr (.inl p2_firsts_c81_8))) :: (h_p2_seconds, .inl (k_p2_seconds, 401, .inr (.inl p2_seconds_c81_8))) :: (h_p2_links, .inl (k_p2_links, 401, .inl p2_links_c81_8)) :: (h_p2_heads, .inl (k_p2_heads, 512, .inl p2_heads_c81_8)) :: (h_p2_stamps, .inl (k_p2_stamps, 512, .inl p2_stamps_c81_8)) :: R) H := pm_P [6, 7, 8, 9, 10, 11, 0, 1, 2, 3, 4, 5] 12 hP
                have hD : va_D A ((h_t, .inr (10, [.ref h_t_places, .int t_kind, .int t_ahead, .int t_length])) :: (h_t_places, .inl (k_t_places, 300, .inl t_places)) :: (h_p1, .inr (2, [z_p1_0, .int p1_p, .int p1_q, .int p1_norm, .long p1_sideY, .long p1_sideZ, .long p1_divisor, z_p1_7, .ref h_p1_digitY, .ref h_p1_digitZ, z_p1_10, .ref h_p1_digitOfKey, .long p1_nextY, .long p1_nextZ])) :: (h_p1_digitY, .inl (k_p1_digitY, 25, .inl p1_digitY)) :: (h_p1_digitZ, .inl (k_p1_digitZ, 25, .inl p1_digitZ)) :: (h_p1_digitOfKey, .inl (k_p1_digitOfKey, 625, .inl p1_digitOfKey)) :: (h_p2, .inr (9, [.ref h_p2_firsts, .ref h_p2_seconds, .ref h_p2_links, .ref h_p2_heads, .ref h_p2_stamps, .int p2_stamp, .int p2_size_c81_8])) :: (h_p2_firsts, .inl (k_p2_firsts, 401, .inr (.inl p2_firsts_c81_8))) :: (h_p2_seconds, .inl (k_p2_seconds, 401, .inr (.inl p2_seconds_c81_8))) :: (h_p2_links, .inl (k_p2_links, 401, .inl p2_links_c81_8)) :: (h_p2_heads, .inl (k_p2_heads, 512, .inl p2_heads_c81_8)) :: (h_p2_stamps, .inl (k_p2_stamps, 512, .inl p2_stamps_c81_8)) :: R) := pm_D (X := [(h_t, .inr (10, [.ref h_t_places, .int t_kind, .int t_ahead, .int t_length])), (h_t_places, .inl (k_t_places, 300, .inl t_places)), (h_p1, .inr (2, [z_p1_0, .int p1_p, .int p1_q, .int p1_norm, .long p1_sideY, .long p1_sideZ, .long p1_divisor, z_p1_7, .ref h_p1_digitY, .ref h_p1_digitZ, z_p1_10, .ref h_p1_digitOfKey, .long p1_nextY, .long p1_nextZ])), (h_p1_digitY, .inl (k_p1_digitY, 25, .inl p1_digitY)), (h_p1_digitZ, .inl (k_p1_digitZ, 25, .inl p1_digitZ)), (h_p1_digitOfKey, .inl (k_p1_digitOfKey, 625, .inl p1_digitOfKey)), (h_p2, .inr (9, [.ref h_p2_firsts, .ref h_p2_seconds, .ref h_p2_links, .ref h_p2_heads, .ref h_p2_stamps, .int p2_stamp, .int p2_size_c81_8])), (h_p2_firsts, .inl (k_p2_firsts, 401, .inr (.inl p2_firsts_c81_8))), (h_p2_seconds, .inl (k_p2_seconds, 401, .inr (.inl p2_seconds_c81_8))), (h_p2_links, .inl (k_p2_links, 401, .inl p2_links_c81_8)), (h_p2_heads, .inl (k_p2_heads, 512, .inl p2_heads_c81_8)), (h_p2_stamps, .inl (k_p2_stamps, 512, .inl p2_stamps_c81_8))]) [6, 7, 8, 9, 10, 11, 0, 1, 2, 3, 4, 5] 12 (by decide) (by decide) rfl hD
                refine lv_istore (lv' := [(12, .int r_c81_8), (0, .ref h_t), (1, .ref h_p1), (2, .ref h_p2), (7, .long l7), (9, .long l9), (11, .int l11)]) hx hb dX10_go_84 hl (by decide) rfl (fun ls hl => ?_)
                refine lv_iload hx hb dX10_go_86 (lv_at hl 0 rfl) ?_
                refine lv_iconst (v := (-1)) hx hb dX10_go_88 (by decide) ?_
                refine lv_icmp_eq (tgt := 105) hx hb dX10_go_89 (by decide) (fun c10 => ?_) (fun c10 => ?_)
                · have h := br_pos c10 h
                  refine lv_iload hx hb dX10_go_105 (lv_at hl 6 rfl) ?_
                  refine lv_sipush (v := 300) hx hb dX10_go_107 (by decide) ?_
                  refine lv_icmp_ge (tgt := 140) hx hb dX10_go_110 (by decide) (fun c11 => ?_) (fun c11 => ?_)
                  · have h := br_pos c11 h
                    refine lv_iinc (v := (l11 + 1)) (lv' := [(11, .int (l11 + 1)), (12, .int r_c81_8), (0, .ref h_t), (1, .ref h_p1), (2, .ref h_p2), (7, .long l7), (9, .long l9)]) hx hb dX10_go_140 hl (k := 6) rfl rfl (by decide) rfl (fun ls hl => ?_)
                    refine lv_goto (tgt := 14) hx hb dX10_go_143 (by decide) ?_
                    exact ih l7 l9 (l11 + 1) t_kind t_ahead t_length t_places p1_nextY p1_nextZ p2_stamp p2_size_c81_8 p2_firsts_c81_8 p2_seconds_c81_8 p2_links_c81_8 p2_heads_c81_8 p2_stamps_c81_8 _ _ _ _ _ _ _ _ _ _ _ _ h _ _ _ hP hD hS (lv_sub hl [2, 3, 4, 5, 6, 0] rfl) kk0 kk1 kk2 kk3
                  · have h := br_neg c11 h
                    refine lv_aload_n hx hb dX10_go_113 rfl (lv_at hl 1 rfl) ?_
                    refine va_get (D := D) (ci := 10) (v := .ref h_t_places) (C := RX10) (T := TX10) (N := 4) hx hb ha ix10 hown hK hP 0 rfl rfl 0 (by decide) (ha _ q404) (fun _ h9 => h9) rfl dX10_go_114 ?_
                    refine lv_iload hx hb dX10_go_117 (lv_at hl 6 rfl) ?_
                    refine lv_aload_n hx hb dX10_go_119 rfl (lv_at hl 2 rfl) ?_
                    refine lv_lload hx hb dX10_go_120 (lv_at hl 4 rfl) ?_
                    refine lv_lload hx hb dX10_go_122 (lv_at hl 5 rfl) ?_
                    obtain ⟨r_c124_11, p1_nextY_c124_11, p1_nextZ_c124_11, e_c124_11, h⟩ := bnd3_ok h
                    have hP : va_P D vwCl ((h_p1, .inr (2, [z_p1_0, .int p1_p, .int p1_q, .int p1_norm, .long p1_sideY, .long p1_sideZ, .long p1_divisor, z_p1_7, .ref h_p1_digitY, .ref h_p1_digitZ, z_p1_10, .ref h_p1_digitOfKey, .long p1_nextY, .long p1_nextZ])) :: (h_p1_digitY, .inl (k_p1_digitY, 25, .inl p1_digitY)) :: (h_p1_digitZ, .inl (k_p1_digitZ, 25, .inl p1_digitZ)) :: (h_p1_digitOfKey, .inl (k_p1_digitOfKey, 625, .inl p1_digitOfKey)) :: (h_t, .inr (10, [.ref h_t_places, .int t_kind, .int t_ahead, .int t_length])) :: (h_t_places, .inl (k_t_places, 300, .inl t_places)) :: (h_p2, .inr (9, [.ref h_p2_firsts, .ref h_p2_seconds, .ref h_p2_links, .ref h_p2_heads, .ref h_p2_stamps, .int p2_stamp, .int p2_size_c81_8])) :: (h_p2_firsts, .inl (k_p2_firsts, 401, .inr (.inl p2_firsts_c81_8))) :: (h_p2_seconds, .inl (k_p2_seconds, 401, .inr (.inl p2_seconds_c81_8))) :: (h_p2_links, .inl (k_p2_links, 401, .inl p2_links_c81_8)) :: (h_p2_heads, .inl (k_p2_heads, 512, .inl p2_heads_c81_8)) :: (h_p2_stamps, .inl (k_p2_stamps, 512, .inl p2_stamps_c81_8)) :: R) _ := pm_P [2, 3, 4, 5, 0, 1, 6, 7, 8, 9, 10, 11] 12 hP
                    have hD : va_D A ((h_p1, .inr (2, [z_p1_0, .int p1_p, .int p1_q, .int p1_norm, .long p1_sideY, .long p1_sideZ, .long p1_divisor, z_p1_7, .ref h_p1_digitY, .ref h_p1_digitZ, z_p1_10, .ref h_p1_digitOfKey, .long p1_nextY, .long p1_nextZ])) :: (h_p1_digitY, .inl (k_p1_digitY, 25, .inl p1_digitY)) :: (h_p1_digitZ, .inl (k_p1_digitZ, 25, .inl p1_digitZ)) :: (h_p1_digitOfKey, .inl (k_p1_digitOfKey, 625, .inl p1_digitOfKey)) :: (h_t, .inr (10, [.ref h_t_places, .int t_kind, .int t_ahead, .int t_length])) :: (h_t_places, .inl (k_t_places, 300, .inl t_places)) :: (h_p2, .inr (9, [.ref h_p2_firsts, .ref h_p2_seconds, .ref h_p2_links, .ref h_p2_heads, .ref h_p2_stamps, .int p2_stamp, .int p2_size_c81_8])) :: (h_p2_firsts, .inl (k_p2_firsts, 401, .inr (.inl p2_firsts_c81_8))) :: (h_p2_seconds, .inl (k_p2_seconds, 401, .inr (.inl p2_seconds_c81_8))) :: (h_p2_links, .inl (k_p2_links, 401, .inl p2_links_c81_8)) :: (h_p2_heads, .inl (k_p2_heads, 512, .inl p2_heads_c81_8)) :: (h_p2_stamps, .inl (k_p2_stamps, 512, .inl p2_stamps_c81_8)) :: R) := pm_D (X := [(h_p1, .inr (2, [z_p1_0, .int p1_p, .int p1_q, .int p1_norm, .long p1_sideY, .long p1_sideZ, .long p1_divisor, z_p1_7, .ref h_p1_digitY, .ref h_p1_digitZ, z_p1_10, .ref h_p1_digitOfKey, .long p1_nextY, .long p1_nextZ])), (h_p1_digitY, .inl (k_p1_digitY, 25, .inl p1_digitY)), (h_p1_digitZ, .inl (k_p1_digitZ, 25, .inl p1_digitZ)), (h_p1_digitOfKey, .inl (k_p1_digitOfKey, 625, .inl p1_digitOfKey)), (h_t, .inr (10, [.ref h_t_places, .int t_kind, .int t_ahead, .int t_length])), (h_t_places, .inl (k_t_places, 300, .inl t_places)), (h_p2, .inr (9, [.ref h_p2_firsts, .ref h_p2_seconds, .ref h_p2_links, .ref h_p2_heads, .ref h_p2_stamps, .int p2_stamp, .int p2_size_c81_8])), (h_p2_firsts, .inl (k_p2_firsts, 401, .inr (.inl p2_firsts_c81_8))), (h_p2_seconds, .inl (k_p2_seconds, 401, .inr (.inl p2_seconds_c81_8))), (h_p2_links, .inl (k_p2_links, 401, .inl p2_links_c81_8)), (h_p2_heads, .inl (k_p2_heads, 512, .inl p2_heads_c81_8)), (h_p2_stamps, .inl (k_p2_stamps, 512, .inl p2_stamps_c81_8))]) [2, 3, 4, 5, 0, 1, 6, 7, 8, 9, 10, 11] 12 (by decide) (by decide) rfl hD
                    refine cl_i (rn_v (ci := 2) (As := [.long l7, .long l9]) (rest := [.int l11, .ref h_t_places]) S (c_X2_step l D ((h_t, .inr (10, [.ref h_t_places, .int t_kind, .int t_ahead, .int t_length])) :: (h_t_places, .inl (k_t_places, 300, .inl t_places)) :: (h_p2, .inr (9, [.ref h_p2_firsts, .ref h_p2_seconds, .ref h_p2_links, .ref h_p2_heads, .ref h_p2_stamps, .int p2_stamp, .int p2_size_c81_8])) :: (h_p2_firsts, .inl (k_p2_firsts, 401, .inr (.inl p2_firsts_c81_8))) :: (h_p2_seconds, .inl (k_p2_seconds, 401, .inr (.inl p2_seconds_c81_8))) :: (h_p2_links, .inl (k_p2_links, 401, .inl p2_links_c81_8)) :: (h_p2_heads, .inl (k_p2_heads, 512, .inl p2_heads_c81_8)) :: (h_p2_stamps, .inl (k_p2_stamps, 512, .inl p2_stamps_c81_8)) :: R) h_p1 (z_p1_0) p1_p p1_q p1_norm p1_sideY p1_sideZ p1_divisor (z_p1_7) (z_p1_10) p1_nextY p1_nextZ h_p1_digitY k_p1_digitY p1_digitY h_p1_digitZ k_p1_digitZ p1_digitZ h_p1_digitOfKey k_p1_digitOfKey p1_digitOfKey l7 l9 r_c124_11 p1_nextY_c124_11 p1_nextZ_c124_11 e_c124_11 _) q775 q776 q777 q57 q778 nd_X2_step ⟨Nat.le_of_ble_eq_true rfl, Nat.le_of_ble_eq_true rfl⟩ rfl rfl hP hD (hK.sub (tys' := [(k_p1_digitY, .int), (k_p1_digitZ, .int), (k_p1_digitOfKey, .int)]) [1, 2, 3] rfl) hN rfl ⟨0, _, rfl⟩ rfl hl.1 rfl (Nat.le_of_ble_eq_true rfl) dX10_go_124 ⟨Nat.le_of_ble_eq_true rfl, Nat.le_of_ble_eq_true rfl⟩) hS hA hD (fun H locs hP hD hS => ?_)
                    have hP : va_P D vwCl ((h_t, .inr (10, [.ref h_t_places, .int t_kind, .int t_ahead, .int t_length])) :: (h_t_places, .inl (k_t_places, 300, .inl t_places)) :: (h_p1, .inr (2, [z_p1_0, .int p1_p, .int p1_q, .int p1_norm, .long p1_sideY, .long p1_sideZ, .long p1_divisor, z_p1_7, .ref h_p1_digitY, .ref h_p1_digitZ, z_p1_10, .ref h_p1_digitOfKey, .long p1_nextY_c124_11, .long p1_nextZ_c124_11])) :: (h_p1_digitY, .inl (k_p1_digitY, 25, .inl p1_digitY)) :: (h_p1_digitZ, .inl (k_p1_digitZ, 25, .inl p1_digitZ)) :: (h_p1_digitOfKey, .inl (k_p1_digitOfKey, 625, .inl p1_digitOfKey)) :: (h_p2, .inr (9, [.ref h_p2_firsts, .ref h_p2_seconds, .ref h_p2_links, .ref h_p2_heads, .ref h_p2_stamps, .int p2_stamp, .int p2_size_c81_8])) :: (h_p2_firsts, .inl (k_p2_firsts, 401, .inr (.inl p2_firsts_c81_8))) :: (h_p2_seconds, .inl (k_p2_seconds, 401, .inr (.inl p2_seconds_c81_8))) :: (h_p2_links, .inl (k_p2_links, 401, .inl p2_links_c81_8)) :: (h_p2_heads, .inl (k_p2_heads, 512, .inl p2_heads_c81_8)) :: (h_p2_stamps, .inl (k_p2_stamps, 512, .inl p2_stamps_c81_8)) :: R) H := pm_P [4, 5, 0, 1, 2, 3, 6, 7, 8, 9, 10, 11] 12 hP
                    have hD : va_D A ((h_t, .inr (10, [.ref h_t_places, .int t_kind, .int t_ahead, .int t_length])) :: (h_t_places, .inl (k_t_places, 300, .inl t_places)) :: (h_p1, .inr (2, [z_p1_0, .int p1_p, .int p1_q, .int p1_norm, .long p1_sideY, .long p1_sideZ, .long p1_divisor, z_p1_7, .ref h_p1_digitY, .ref h_p1_digitZ, z_p1_10, .ref h_p1_digitOfKey, .long p1_nextY_c124_11, .long p1_nextZ_c124_11])) :: (h_p1_digitY, .inl (k_p1_digitY, 25, .inl p1_digitY)) :: (h_p1_digitZ, .inl (k_p1_digitZ, 25, .inl p1_digitZ)) :: (h_p1_digitOfKey, .inl (k_p1_digitOfKey, 625, .inl p1_digitOfKey)) :: (h_p2, .inr (9, [.ref h_p2_firsts, .ref h_p2_seconds, .ref h_p2_links, .ref h_p2_heads, .ref h_p2_stamps, .int p2_stamp, .int p2_size_c81_8])) :: (h_p2_firsts, .inl (k_p2_firsts, 401, .inr (.inl p2_firsts_c81_8))) :: (h_p2_seconds, .inl (k_p2_seconds, 401, .inr (.inl p2_seconds_c81_8))) :: (h_p2_links, .inl (k_p2_links, 401, .inl p2_links_c81_8)) :: (h_p2_heads, .inl (k_p2_heads, 512, .inl p2_heads_c81_8)) :: (h_p2_stamps, .inl (k_p2_stamps, 512, .inl p2_stamps_c81_8)) :: R) := pm_D (X := [(h_t, .inr (10, [.ref h_t_places, .int t_kind, .int t_ahead, .int t_length])), (h_t_places, .inl (k_t_places, 300, .inl t_places)), (h_p1, .inr (2, [z_p1_0, .int p1_p, .int p1_q, .int p1_norm, .long p1_sideY, .long p1_sideZ, .long p1_divisor, z_p1_7, .ref h_p1_digitY, .ref h_p1_digitZ, z_p1_10, .ref h_p1_digitOfKey, .long p1_nextY_c124_11, .long p1_nextZ_c124_11])), (h_p1_digitY, .inl (k_p1_digitY, 25, .inl p1_digitY)), (h_p1_digitZ, .inl (k_p1_digitZ, 25, .inl p1_digitZ)), (h_p1_digitOfKey, .inl (k_p1_digitOfKey, 625, .inl p1_digitOfKey)), (h_p2, .inr (9, [.ref h_p2_firsts, .ref h_p2_seconds, .ref h_p2_links, .ref h_p2_heads, .ref h_p2_stamps, .int p2_stamp, .int p2_size_c81_8])), (h_p2_firsts, .inl (k_p2_firsts, 401, .inr (.inl p2_firsts_c81_8))), (h_p2_seconds, .inl (k_p2_seconds, 401, .inr (.inl p2_seconds_c81_8))), (h_p2_links, .inl (k_p2_links, 401, .inl p2_links_c81_8)), (h_p2_heads, .inl (k_p2_heads, 512, .inl p2_heads_c81_8)), (h_p2_stamps, .inl (k_p2_stamps, 512, .inl p2_stamps_c81_8))]) [4, 5, 0, 1, 2, 3, 6, 7, 8, 9, 10, 11] 12 (by decide) (by decide) rfl hD
                    obtain ⟨i13, h⟩ := ix_ok h
                    refine va_iast hx hb hK hP hD hS 1 0 rfl rfl i13 dX10_go_127 (fun H locs hP hD hS => ?_)
                    have hP : va_P D vwCl ((h_t, .inr (10, [.ref h_t_places, .int t_kind, .int t_ahead, .int t_length])) :: (h_t_places, .inl (k_t_places, 300, .inl (upd t_places l11.toNatClampNeg r_c124_11))) :: (h_p1, .inr (2, [z_p1_0, .int p1_p, .int p1_q, .int p1_norm, .long p1_sideY, .long p1_sideZ, .long p1_divisor, z_p1_7, .ref h_p1_digitY, .ref h_p1_digitZ, z_p1_10, .ref h_p1_digitOfKey, .long p1_nextY_c124_11, .long p1_nextZ_c124_11])) :: (h_p1_digitY, .inl (k_p1_digitY, 25, .inl p1_digitY)) :: (h_p1_digitZ, .inl (k_p1_digitZ, 25, .inl p1_digitZ)) :: (h_p1_digitOfKey, .inl (k_p1_digitOfKey, 625, .inl p1_digitOfKey)) :: (h_p2, .inr (9, [.ref h_p2_firsts, .ref h_p2_seconds, .ref h_p2_links, .ref h_p2_heads, .ref h_p2_stamps, .int p2_stamp, .int p2_size_c81_8])) :: (h_p2_firsts, .inl (k_p2_firsts, 401, .inr (.inl p2_firsts_c81_8))) :: (h_p2_seconds, .inl (k_p2_seconds, 401, .inr (.inl p2_seconds_c81_8))) :: (h_p2_links, .inl (k_p2_links, 401, .inl p2_links_c81_8)) :: (h_p2_heads, .inl (k_p2_heads, 512, .inl p2_heads_c81_8)) :: (h_p2_stamps, .inl (k_p2_stamps, 512, .inl p2_stamps_c81_8)) :: R) H := hP
                    have hD : va_D A ((h_t, .inr (10, [.ref h_t_places, .int t_kind, .int t_ahead, .int t_length])) :: (h_t_places, .inl (k_t_places, 300, .inl (upd t_places l11.toNatClampNeg r_c124_11))) :: (h_p1, .inr (2, [z_p1_0, .int p1_p, .int p1_q, .int p1_norm, .long p1_sideY, .long p1_sideZ, .long p1_divisor, z_p1_7, .ref h_p1_digitY, .ref h_p1_digitZ, z_p1_10, .ref h_p1_digitOfKey, .long p1_nextY_c124_11, .long p1_nextZ_c124_11])) :: (h_p1_digitY, .inl (k_p1_digitY, 25, .inl p1_digitY)) :: (h_p1_digitZ, .inl (k_p1_digitZ, 25, .inl p1_digitZ)) :: (h_p1_digitOfKey, .inl (k_p1_digitOfKey, 625, .inl p1_digitOfKey)) :: (h_p2, .inr (9, [.ref h_p2_firsts, .ref h_p2_seconds, .ref h_p2_links, .ref h_p2_heads, .ref h_p2_stamps, .int p2_stamp, .int p2_size_c81_8])) :: (h_p2_firsts, .inl (k_p2_firsts, 401, .inr (.inl p2_firsts_c81_8))) :: (h_p2_seconds, .inl (k_p2_seconds, 401, .inr (.inl p2_seconds_c81_8))) :: (h_p2_links, .inl (k_p2_links, 401, .inl p2_links_c81_8)) :: (h_p2_heads, .inl (k_p2_heads, 512, .inl p2_heads_c81_8)) :: (h_p2_stamps, .inl (k_p2_stamps, 512, .inl p2_stamps_c81_8)) :: R) := hD
                    refine lv_aload_n hx hb dX10_go_128 rfl (lv_at hl 2 rfl) ?_
                    refine va_get (D := D) (ci := 2) (v := .long p1_nextY_c124_11) (C := RX2) (T := TX2) (N := 14) hx hb ha ix2 hown hK hP 2 rfl rfl 12 (by decide) (ha _ q365) (fun _ h9 => h9) rfl dX10_go_129 ?_
                    refine lv_lstore (lv' := [(7, .long p1_nextY_c124_11), (12, .int r_c81_8), (0, .ref h_t), (1, .ref h_p1), (2, .ref h_p2), (9, .long l9), (11, .int l11)]) hx hb dX10_go_132 hl (by decide) rfl (fun ls hl => ?_)
                    refine lv_aload_n hx hb dX10_go_134 rfl (lv_at hl 3 rfl) ?_
                    refine va_get (D := D) (ci := 2) (v := .long p1_nextZ_c124_11) (C := RX2) (T := TX2) (N := 14) hx hb ha ix2 hown hK hP 2 rfl rfl 13 (by decide) (ha _ q367) (fun _ h9 => h9) rfl dX10_go_135 ?_
                    refine lv_lstore (lv' := [(9, .long p1_nextZ_c124_11), (7, .long p1_nextY_c124_11), (12, .int r_c81_8), (0, .ref h_t), (1, .ref h_p1), (2, .ref h_p2), (11, .int l11)]) hx hb dX10_go_138 hl (by decide) rfl (fun ls hl => ?_)
                    refine lv_iinc (v := (l11 + 1)) (lv' := [(11, .int (l11 + 1)), (9, .long p1_nextZ_c124_11), (7, .long p1_nextY_c124_11), (12, .int r_c81_8), (0, .ref h_t), (1, .ref h_p1), (2, .ref h_p2)]) hx hb dX10_go_140 hl (k := 6) rfl rfl (by decide) rfl (fun ls hl => ?_)
                    refine lv_goto (tgt := 14) hx hb dX10_go_143 (by decide) ?_
                    exact ih p1_nextY_c124_11 p1_nextZ_c124_11 (l11 + 1) t_kind t_ahead t_length (upd t_places l11.toNatClampNeg r_c124_11) p1_nextY_c124_11 p1_nextZ_c124_11 p2_stamp p2_size_c81_8 p2_firsts_c81_8 p2_seconds_c81_8 p2_links_c81_8 p2_heads_c81_8 p2_stamps_c81_8 _ _ _ _ _ _ _ _ _ _ _ _ h _ _ _ hP hD hS (lv_sub hl [4, 5, 6, 2, 1, 0] rfl) kk0 kk1 kk2 kk3
                · have h := br_neg c10 h
                  cases h
                  exact kk2 rfl _ _ _ hP hD hS (lv_sub hl [1, 6, 0] rfl)
              · have h := br_neg c8 h
                cases h
                exact kk1 rfl _ _ _ hP hD hS (lv_sub hl [0, 5] rfl)
          · have h := br_pos c4 h
            cases h
            exact kk0 rfl _ _ _ hP hD hS (lv_sub hl [0, 5] rfl)
  unfold f_X10_go at h
  refine lv_lload_n hx hb dX10_go_0 rfl (lv_at hl 3 rfl) ?_
  refine lv_lstore (lv' := [(7, .long l3), (0, .ref h_t), (1, .ref h_p1), (2, .ref h_p2), (3, .long l3), (5, .long l5)]) hx hb dX10_go_1 hl (by decide) rfl (fun ls hl => ?_)
  refine lv_lload hx hb dX10_go_3 (lv_at hl 5 rfl) ?_
  refine lv_lstore (lv' := [(9, .long l5), (7, .long l3), (0, .ref h_t), (1, .ref h_p1), (2, .ref h_p2), (3, .long l3), (5, .long l5)]) hx hb dX10_go_5 hl (by decide) rfl (fun ls hl => ?_)
  refine lv_aload_n hx hb dX10_go_7 rfl (lv_at hl 4 rfl) ?_
  obtain ⟨p2_stamp_c8_0, p2_size_c8_0, e_c8_0, h⟩ := bnd2_ok h
  have hP : va_P D vwCl ((h_p2, .inr (9, [.ref h_p2_firsts, .ref h_p2_seconds, .ref h_p2_links, .ref h_p2_heads, .ref h_p2_stamps, .int p2_stamp, .int p2_size])) :: (h_t, .inr (10, [.ref h_t_places, .int t_kind, .int t_ahead, .int t_length])) :: (h_t_places, .inl (k_t_places, 300, .inl t_places)) :: (h_p1, .inr (2, [z_p1_0, .int p1_p, .int p1_q, .int p1_norm, .long p1_sideY, .long p1_sideZ, .long p1_divisor, z_p1_7, .ref h_p1_digitY, .ref h_p1_digitZ, z_p1_10, .ref h_p1_digitOfKey, .long p1_nextY, .long p1_nextZ])) :: (h_p1_digitY, .inl (k_p1_digitY, 25, .inl p1_digitY)) :: (h_p1_digitZ, .inl (k_p1_digitZ, 25, .inl p1_digitZ)) :: (h_p1_digitOfKey, .inl (k_p1_digitOfKey, 625, .inl p1_digitOfKey)) :: (h_p2_firsts, .inl (k_p2_firsts, 401, .inr (.inl p2_firsts))) :: (h_p2_seconds, .inl (k_p2_seconds, 401, .inr (.inl p2_seconds))) :: (h_p2_links, .inl (k_p2_links, 401, .inl p2_links)) :: (h_p2_heads, .inl (k_p2_heads, 512, .inl p2_heads)) :: (h_p2_stamps, .inl (k_p2_stamps, 512, .inl p2_stamps)) :: R) _ := pm_P [6, 0, 1, 2, 3, 4, 5, 7, 8, 9, 10, 11] 12 hP
  have hD : va_D A ((h_p2, .inr (9, [.ref h_p2_firsts, .ref h_p2_seconds, .ref h_p2_links, .ref h_p2_heads, .ref h_p2_stamps, .int p2_stamp, .int p2_size])) :: (h_t, .inr (10, [.ref h_t_places, .int t_kind, .int t_ahead, .int t_length])) :: (h_t_places, .inl (k_t_places, 300, .inl t_places)) :: (h_p1, .inr (2, [z_p1_0, .int p1_p, .int p1_q, .int p1_norm, .long p1_sideY, .long p1_sideZ, .long p1_divisor, z_p1_7, .ref h_p1_digitY, .ref h_p1_digitZ, z_p1_10, .ref h_p1_digitOfKey, .long p1_nextY, .long p1_nextZ])) :: (h_p1_digitY, .inl (k_p1_digitY, 25, .inl p1_digitY)) :: (h_p1_digitZ, .inl (k_p1_digitZ, 25, .inl p1_digitZ)) :: (h_p1_digitOfKey, .inl (k_p1_digitOfKey, 625, .inl p1_digitOfKey)) :: (h_p2_firsts, .inl (k_p2_firsts, 401, .inr (.inl p2_firsts))) :: (h_p2_seconds, .inl (k_p2_seconds, 401, .inr (.inl p2_seconds))) :: (h_p2_links, .inl (k_p2_links, 401, .inl p2_links)) :: (h_p2_heads, .inl (k_p2_heads, 512, .inl p2_heads)) :: (h_p2_stamps, .inl (k_p2_stamps, 512, .inl p2_stamps)) :: R) := pm_D (X := [(h_p2, .inr (9, [.ref h_p2_firsts, .ref h_p2_seconds, .ref h_p2_links, .ref h_p2_heads, .ref h_p2_stamps, .int p2_stamp, .int p2_size])), (h_t, .inr (10, [.ref h_t_places, .int t_kind, .int t_ahead, .int t_length])), (h_t_places, .inl (k_t_places, 300, .inl t_places)), (h_p1, .inr (2, [z_p1_0, .int p1_p, .int p1_q, .int p1_norm, .long p1_sideY, .long p1_sideZ, .long p1_divisor, z_p1_7, .ref h_p1_digitY, .ref h_p1_digitZ, z_p1_10, .ref h_p1_digitOfKey, .long p1_nextY, .long p1_nextZ])), (h_p1_digitY, .inl (k_p1_digitY, 25, .inl p1_digitY)), (h_p1_digitZ, .inl (k_p1_digitZ, 25, .inl p1_digitZ)), (h_p1_digitOfKey, .inl (k_p1_digitOfKey, 625, .inl p1_digitOfKey)), (h_p2_firsts, .inl (k_p2_firsts, 401, .inr (.inl p2_firsts))), (h_p2_seconds, .inl (k_p2_seconds, 401, .inr (.inl p2_seconds))), (h_p2_links, .inl (k_p2_links, 401, .inl p2_links)), (h_p2_heads, .inl (k_p2_heads, 512, .inl p2_heads)), (h_p2_stamps, .inl (k_p2_stamps, 512, .inl p2_stamps))]) [6, 0, 1, 2, 3, 4, 5, 7, 8, 9, 10, 11] 12 (by decide) (by decide) rfl hD
  refine cl_v (rn_v (ci := 9) (As := []) (rest := []) S (c_X9_clear l D ((h_t, .inr (10, [.ref h_t_places, .int t_kind, .int t_ahead, .int t_length])) :: (h_t_places, .inl (k_t_places, 300, .inl t_places)) :: (h_p1, .inr (2, [z_p1_0, .int p1_p, .int p1_q, .int p1_norm, .long p1_sideY, .long p1_sideZ, .long p1_divisor, z_p1_7, .ref h_p1_digitY, .ref h_p1_digitZ, z_p1_10, .ref h_p1_digitOfKey, .long p1_nextY, .long p1_nextZ])) :: (h_p1_digitY, .inl (k_p1_digitY, 25, .inl p1_digitY)) :: (h_p1_digitZ, .inl (k_p1_digitZ, 25, .inl p1_digitZ)) :: (h_p1_digitOfKey, .inl (k_p1_digitOfKey, 625, .inl p1_digitOfKey)) :: (h_p2_firsts, .inl (k_p2_firsts, 401, .inr (.inl p2_firsts))) :: (h_p2_seconds, .inl (k_p2_seconds, 401, .inr (.inl p2_seconds))) :: (h_p2_links, .inl (k_p2_links, 401, .inl p2_links)) :: (h_p2_heads, .inl (k_p2_heads, 512, .inl p2_heads)) :: (h_p2_stamps, .inl (k_p2_stamps, 512, .inl p2_stamps)) :: R) h_p2 (.ref h_p2_firsts) (.ref h_p2_seconds) (.ref h_p2_links) (.ref h_p2_heads) (.ref h_p2_stamps) p2_stamp p2_size p2_stamp_c8_0 p2_size_c8_0 e_c8_0 _) q767 q591 q592 q56 q593 nd_X9_clear ⟨Nat.le_of_ble_eq_true rfl, Nat.le_of_ble_eq_true rfl⟩ rfl rfl hP hD (hK.sub (tys' := []) [] rfl) hN rfl ⟨0, _, rfl⟩ rfl hl.1 rfl (Nat.le_of_ble_eq_true rfl) dX10_go_8 ⟨Nat.le_of_ble_eq_true rfl, Nat.le_of_ble_eq_true rfl⟩) hS hA hD (fun H locs hP hD hS => ?_)
  have hP : va_P D vwCl ((h_t, .inr (10, [.ref h_t_places, .int t_kind, .int t_ahead, .int t_length])) :: (h_t_places, .inl (k_t_places, 300, .inl t_places)) :: (h_p1, .inr (2, [z_p1_0, .int p1_p, .int p1_q, .int p1_norm, .long p1_sideY, .long p1_sideZ, .long p1_divisor, z_p1_7, .ref h_p1_digitY, .ref h_p1_digitZ, z_p1_10, .ref h_p1_digitOfKey, .long p1_nextY, .long p1_nextZ])) :: (h_p1_digitY, .inl (k_p1_digitY, 25, .inl p1_digitY)) :: (h_p1_digitZ, .inl (k_p1_digitZ, 25, .inl p1_digitZ)) :: (h_p1_digitOfKey, .inl (k_p1_digitOfKey, 625, .inl p1_digitOfKey)) :: (h_p2, .inr (9, [.ref h_p2_firsts, .ref h_p2_seconds, .ref h_p2_links, .ref h_p2_heads, .ref h_p2_stamps, .int p2_stamp_c8_0, .int p2_size_c8_0])) :: (h_p2_firsts, .inl (k_p2_firsts, 401, .inr (.inl p2_firsts))) :: (h_p2_seconds, .inl (k_p2_seconds, 401, .inr (.inl p2_seconds))) :: (h_p2_links, .inl (k_p2_links, 401, .inl p2_links)) :: (h_p2_heads, .inl (k_p2_heads, 512, .inl p2_heads)) :: (h_p2_stamps, .inl (k_p2_stamps, 512, .inl p2_stamps)) :: R) H := pm_P [1, 2, 3, 4, 5, 6, 0, 7, 8, 9, 10, 11] 12 hP
  have hD : va_D A ((h_t, .inr (10, [.ref h_t_places, .int t_kind, .int t_ahead, .int t_length])) :: (h_t_places, .inl (k_t_places, 300, .inl t_places)) :: (h_p1, .inr (2, [z_p1_0, .int p1_p, .int p1_q, .int p1_norm, .long p1_sideY, .long p1_sideZ, .long p1_divisor, z_p1_7, .ref h_p1_digitY, .ref h_p1_digitZ, z_p1_10, .ref h_p1_digitOfKey, .long p1_nextY, .long p1_nextZ])) :: (h_p1_digitY, .inl (k_p1_digitY, 25, .inl p1_digitY)) :: (h_p1_digitZ, .inl (k_p1_digitZ, 25, .inl p1_digitZ)) :: (h_p1_digitOfKey, .inl (k_p1_digitOfKey, 625, .inl p1_digitOfKey)) :: (h_p2, .inr (9, [.ref h_p2_firsts, .ref h_p2_seconds, .ref h_p2_links, .ref h_p2_heads, .ref h_p2_stamps, .int p2_stamp_c8_0, .int p2_size_c8_0])) :: (h_p2_firsts, .inl (k_p2_firsts, 401, .inr (.inl p2_firsts))) :: (h_p2_seconds, .inl (k_p2_seconds, 401, .inr (.inl p2_seconds))) :: (h_p2_links, .inl (k_p2_links, 401, .inl p2_links)) :: (h_p2_heads, .inl (k_p2_heads, 512, .inl p2_heads)) :: (h_p2_stamps, .inl (k_p2_stamps, 512, .inl p2_stamps)) :: R) := pm_D (X := [(h_t, .inr (10, [.ref h_t_places, .int t_kind, .int t_ahead, .int t_length])), (h_t_places, .inl (k_t_places, 300, .inl t_places)), (h_p1, .inr (2, [z_p1_0, .int p1_p, .int p1_q, .int p1_norm, .long p1_sideY, .long p1_sideZ, .long p1_divisor, z_p1_7, .ref h_p1_digitY, .ref h_p1_digitZ, z_p1_10, .ref h_p1_digitOfKey, .long p1_nextY, .long p1_nextZ])), (h_p1_digitY, .inl (k_p1_digitY, 25, .inl p1_digitY)), (h_p1_digitZ, .inl (k_p1_digitZ, 25, .inl p1_digitZ)), (h_p1_digitOfKey, .inl (k_p1_digitOfKey, 625, .inl p1_digitOfKey)), (h_p2, .inr (9, [.ref h_p2_firsts, .ref h_p2_seconds, .ref h_p2_links, .ref h_p2_heads, .ref h_p2_stamps, .int p2_stamp_c8_0, .int p2_size_c8_0])), (h_p2_firsts, .inl (k_p2_firsts, 401, .inr (.inl p2_firsts))), (h_p2_seconds, .inl (k_p2_seconds, 401, .inr (.inl p2_seconds))), (h_p2_links, .inl (k_p2_links, 401, .inl p2_links)), (h_p2_heads, .inl (k_p2_heads, 512, .inl p2_heads)), (h_p2_stamps, .inl (k_p2_stamps, 512, .inl p2_stamps))]) [1, 2, 3, 4, 5, 6, 0, 7, 8, 9, 10, 11] 12 (by decide) (by decide) rfl hD
  refine lv_iconst (v := 0) hx hb dX10_go_11 (by decide) ?_
  refine lv_istore (lv' := [(11, .int 0), (9, .long l5), (7, .long l3), (0, .ref h_t), (1, .ref h_p1), (2, .ref h_p2), (3, .long l3), (5, .long l5)]) hx hb dX10_go_12 hl (by decide) rfl (fun ls hl => ?_)
  obtain ⟨tg_L14_22, x11_L14_22, x12_L14_22, x_t_places_L14_22, x_p1_nextY_L14_22, x_p1_nextZ_L14_22, x_p2_size_L14_22, x_p2_firsts_L14_22, x_p2_seconds_L14_22, x_p2_links_L14_22, x_p2_heads_L14_22, x_p2_stamps_L14_22, e_L14_22, h⟩ := bnd12_ok h
  refine L14 _ _ l3 l5 0 t_kind t_ahead t_length t_places p1_nextY p1_nextZ p2_stamp_c8_0 p2_size_c8_0 p2_firsts p2_seconds p2_links p2_heads p2_stamps tg_L14_22 x11_L14_22 x12_L14_22 x_t_places_L14_22 x_p1_nextY_L14_22 x_p1_nextZ_L14_22 x_p2_size_L14_22 x_p2_firsts_L14_22 x_p2_seconds_L14_22 x_p2_links_L14_22 x_p2_heads_L14_22 x_p2_stamps_L14_22 e_L14_22 _ _ _ hP hD hS (lv_sub hl [3, 4, 5, 2, 1, 0] rfl) ?_ ?_ ?_ ?_
  · intro q9 H locs ls hP hD hS hl
    have h := br_pos q9 h
    refine lv_aload_n hx hb dX10_go_36 rfl (lv_at hl 0 rfl) ?_
    refine lv_iconst (v := 0) hx hb dX10_go_37 (by decide) ?_
    refine lv_iload hx hb dX10_go_38 (lv_at hl 1 rfl) ?_
    refine lv_iconst (v := 0) hx hb dX10_go_40 (by decide) ?_
    obtain ⟨t_kind_c41_23, t_ahead_c41_23, t_length_c41_23, e_c41_23, h⟩ := bnd3_ok h
    refine cl_v (rn_v (ci := 10) (As := [.int 0, .int x11_L14_22, .int 0]) (rest := []) S (c_X10_settle l D ((h_t_places, .inl (k_t_places, 300, .inl x_t_places_L14_22)) :: (h_p1, .inr (2, [z_p1_0, .int p1_p, .int p1_q, .int p1_norm, .long p1_sideY, .long p1_sideZ, .long p1_divisor, z_p1_7, .ref h_p1_digitY, .ref h_p1_digitZ, z_p1_10, .ref h_p1_digitOfKey, .long x_p1_nextY_L14_22, .long x_p1_nextZ_L14_22])) :: (h_p1_digitY, .inl (k_p1_digitY, 25, .inl p1_digitY)) :: (h_p1_digitZ, .inl (k_p1_digitZ, 25, .inl p1_digitZ)) :: (h_p1_digitOfKey, .inl (k_p1_digitOfKey, 625, .inl p1_digitOfKey)) :: (h_p2, .inr (9, [.ref h_p2_firsts, .ref h_p2_seconds, .ref h_p2_links, .ref h_p2_heads, .ref h_p2_stamps, .int p2_stamp_c8_0, .int x_p2_size_L14_22])) :: (h_p2_firsts, .inl (k_p2_firsts, 401, .inr (.inl x_p2_firsts_L14_22))) :: (h_p2_seconds, .inl (k_p2_seconds, 401, .inr (.inl x_p2_seconds_L14_22))) :: (h_p2_links, .inl (k_p2_links, 401, .inl x_p2_links_L14_22)) :: (h_p2_heads, .inl (k_p2_heads, 512, .inl x_p2_heads_L14_22)) :: (h_p2_stamps, .inl (k_p2_stamps, 512, .inl x_p2_stamps_L14_22)) :: R) h_t (.ref h_t_places) t_kind t_ahead t_length 0 x11_L14_22 0 t_kind_c41_23 t_ahead_c41_23 t_length_c41_23 e_c41_23 _) q768 q770 q20 q59 q771 nd_X10_settle ⟨Nat.le_of_ble_eq_true rfl, Nat.le_of_ble_eq_true rfl⟩ rfl rfl hP hD (hK.sub (tys' := []) [] rfl) hN rfl ⟨0, _, rfl⟩ rfl hl.1 rfl (Nat.le_of_ble_eq_true rfl) dX10_go_41 ⟨Nat.le_of_ble_eq_true rfl, Nat.le_of_ble_eq_true rfl⟩) hS hA hD (fun H locs hP hD hS => ?_)
    have hP : va_P D vwCl ((h_t, .inr (10, [.ref h_t_places, .int t_kind_c41_23, .int t_ahead_c41_23, .int t_length_c41_23])) :: (h_t_places, .inl (k_t_places, 300, .inl x_t_places_L14_22)) :: (h_p1, .inr (2, [z_p1_0, .int p1_p, .int p1_q, .int p1_norm, .long p1_sideY, .long p1_sideZ, .long p1_divisor, z_p1_7, .ref h_p1_digitY, .ref h_p1_digitZ, z_p1_10, .ref h_p1_digitOfKey, .long x_p1_nextY_L14_22, .long x_p1_nextZ_L14_22])) :: (h_p1_digitY, .inl (k_p1_digitY, 25, .inl p1_digitY)) :: (h_p1_digitZ, .inl (k_p1_digitZ, 25, .inl p1_digitZ)) :: (h_p1_digitOfKey, .inl (k_p1_digitOfKey, 625, .inl p1_digitOfKey)) :: (h_p2, .inr (9, [.ref h_p2_firsts, .ref h_p2_seconds, .ref h_p2_links, .ref h_p2_heads, .ref h_p2_stamps, .int p2_stamp_c8_0, .int x_p2_size_L14_22])) :: (h_p2_firsts, .inl (k_p2_firsts, 401, .inr (.inl x_p2_firsts_L14_22))) :: (h_p2_seconds, .inl (k_p2_seconds, 401, .inr (.inl x_p2_seconds_L14_22))) :: (h_p2_links, .inl (k_p2_links, 401, .inl x_p2_links_L14_22)) :: (h_p2_heads, .inl (k_p2_heads, 512, .inl x_p2_heads_L14_22)) :: (h_p2_stamps, .inl (k_p2_stamps, 512, .inl x_p2_stamps_L14_22)) :: R) H := hP
    have hD : va_D A ((h_t, .inr (10, [.ref h_t_places, .int t_kind_c41_23, .int t_ahead_c41_23, .int t_length_c41_23])) :: (h_t_places, .inl (k_t_places, 300, .inl x_t_places_L14_22)) :: (h_p1, .inr (2, [z_p1_0, .int p1_p, .int p1_q, .int p1_norm, .long p1_sideY, .long p1_sideZ, .long p1_divisor, z_p1_7, .ref h_p1_digitY, .ref h_p1_digitZ, z_p1_10, .ref h_p1_digitOfKey, .long x_p1_nextY_L14_22, .long x_p1_nextZ_L14_22])) :: (h_p1_digitY, .inl (k_p1_digitY, 25, .inl p1_digitY)) :: (h_p1_digitZ, .inl (k_p1_digitZ, 25, .inl p1_digitZ)) :: (h_p1_digitOfKey, .inl (k_p1_digitOfKey, 625, .inl p1_digitOfKey)) :: (h_p2, .inr (9, [.ref h_p2_firsts, .ref h_p2_seconds, .ref h_p2_links, .ref h_p2_heads, .ref h_p2_stamps, .int p2_stamp_c8_0, .int x_p2_size_L14_22])) :: (h_p2_firsts, .inl (k_p2_firsts, 401, .inr (.inl x_p2_firsts_L14_22))) :: (h_p2_seconds, .inl (k_p2_seconds, 401, .inr (.inl x_p2_seconds_L14_22))) :: (h_p2_links, .inl (k_p2_links, 401, .inl x_p2_links_L14_22)) :: (h_p2_heads, .inl (k_p2_heads, 512, .inl x_p2_heads_L14_22)) :: (h_p2_stamps, .inl (k_p2_stamps, 512, .inl x_p2_stamps_L14_22)) :: R) := hD
    cases h
    exact rt_v S hr hlk hP hD hS dX10_go_44
  · intro q9 H locs ls hP hD hS hl
    have h := br_neg (by rw [q9]; decide) h
    have h := br_pos q9 h
    refine lv_aload_n hx hb dX10_go_67 rfl (lv_at hl 0 rfl) ?_
    refine lv_iconst (v := 2) hx hb dX10_go_68 (by decide) ?_
    refine lv_iload hx hb dX10_go_69 (lv_at hl 1 rfl) ?_
    refine lv_iconst (v := 0) hx hb dX10_go_71 (by decide) ?_
    obtain ⟨t_kind_c72_24, t_ahead_c72_24, t_length_c72_24, e_c72_24, h⟩ := bnd3_ok h
    refine cl_v (rn_v (ci := 10) (As := [.int 2, .int x11_L14_22, .int 0]) (rest := []) S (c_X10_settle l D ((h_t_places, .inl (k_t_places, 300, .inl x_t_places_L14_22)) :: (h_p1, .inr (2, [z_p1_0, .int p1_p, .int p1_q, .int p1_norm, .long p1_sideY, .long p1_sideZ, .long p1_divisor, z_p1_7, .ref h_p1_digitY, .ref h_p1_digitZ, z_p1_10, .ref h_p1_digitOfKey, .long x_p1_nextY_L14_22, .long x_p1_nextZ_L14_22])) :: (h_p1_digitY, .inl (k_p1_digitY, 25, .inl p1_digitY)) :: (h_p1_digitZ, .inl (k_p1_digitZ, 25, .inl p1_digitZ)) :: (h_p1_digitOfKey, .inl (k_p1_digitOfKey, 625, .inl p1_digitOfKey)) :: (h_p2, .inr (9, [.ref h_p2_firsts, .ref h_p2_seconds, .ref h_p2_links, .ref h_p2_heads, .ref h_p2_stamps, .int p2_stamp_c8_0, .int x_p2_size_L14_22])) :: (h_p2_firsts, .inl (k_p2_firsts, 401, .inr (.inl x_p2_firsts_L14_22))) :: (h_p2_seconds, .inl (k_p2_seconds, 401, .inr (.inl x_p2_seconds_L14_22))) :: (h_p2_links, .inl (k_p2_links, 401, .inl x_p2_links_L14_22)) :: (h_p2_heads, .inl (k_p2_heads, 512, .inl x_p2_heads_L14_22)) :: (h_p2_stamps, .inl (k_p2_stamps, 512, .inl x_p2_stamps_L14_22)) :: R) h_t (.ref h_t_places) t_kind t_ahead t_length 2 x11_L14_22 0 t_kind_c72_24 t_ahead_c72_24 t_length_c72_24 e_c72_24 _) q768 q770 q20 q59 q771 nd_X10_settle ⟨Nat.le_of_ble_eq_true rfl, Nat.le_of_ble_eq_true rfl⟩ rfl rfl hP hD (hK.sub (tys' := []) [] rfl) hN rfl ⟨0, _, rfl⟩ rfl hl.1 rfl (Nat.le_of_ble_eq_true rfl) dX10_go_72 ⟨Nat.le_of_ble_eq_true rfl, Nat.le_of_ble_eq_true rfl⟩) hS hA hD (fun H locs hP hD hS => ?_)
    have hP : va_P D vwCl ((h_t, .inr (10, [.ref h_t_places, .int t_kind_c72_24, .int t_ahead_c72_24, .int t_length_c72_24])) :: (h_t_places, .inl (k_t_places, 300, .inl x_t_places_L14_22)) :: (h_p1, .inr (2, [z_p1_0, .int p1_p, .int p1_q, .int p1_norm, .long p1_sideY, .long p1_sideZ, .long p1_divisor, z_p1_7, .ref h_p1_digitY, .ref h_p1_digitZ, z_p1_10, .ref h_p1_digitOfKey, .long x_p1_nextY_L14_22, .long x_p1_nextZ_L14_22])) :: (h_p1_digitY, .inl (k_p1_digitY, 25, .inl p1_digitY)) :: (h_p1_digitZ, .inl (k_p1_digitZ, 25, .inl p1_digitZ)) :: (h_p1_digitOfKey, .inl (k_p1_digitOfKey, 625, .inl p1_digitOfKey)) :: (h_p2, .inr (9, [.ref h_p2_firsts, .ref h_p2_seconds, .ref h_p2_links, .ref h_p2_heads, .ref h_p2_stamps, .int p2_stamp_c8_0, .int x_p2_size_L14_22])) :: (h_p2_firsts, .inl (k_p2_firsts, 401, .inr (.inl x_p2_firsts_L14_22))) :: (h_p2_seconds, .inl (k_p2_seconds, 401, .inr (.inl x_p2_seconds_L14_22))) :: (h_p2_links, .inl (k_p2_links, 401, .inl x_p2_links_L14_22)) :: (h_p2_heads, .inl (k_p2_heads, 512, .inl x_p2_heads_L14_22)) :: (h_p2_stamps, .inl (k_p2_stamps, 512, .inl x_p2_stamps_L14_22)) :: R) H := hP
    have hD : va_D A ((h_t, .inr (10, [.ref h_t_places, .int t_kind_c72_24, .int t_ahead_c72_24, .int t_length_c72_24])) :: (h_t_places, .inl (k_t_places, 300, .inl x_t_places_L14_22)) :: (h_p1, .inr (2, [z_p1_0, .int p1_p, .int p1_q, .int p1_norm, .long p1_sideY, .long p1_sideZ, .long p1_divisor, z_p1_7, .ref h_p1_digitY, .ref h_p1_digitZ, z_p1_10, .ref h_p1_digitOfKey, .long x_p1_nextY_L14_22, .long x_p1_nextZ_L14_22])) :: (h_p1_digitY, .inl (k_p1_digitY, 25, .inl p1_digitY)) :: (h_p1_digitZ, .inl (k_p1_digitZ, 25, .inl p1_digitZ)) :: (h_p1_digitOfKey, .inl (k_p1_digitOfKey, 625, .inl p1_digitOfKey)) :: (h_p2, .inr (9, [.ref h_p2_firsts, .ref h_p2_seconds, .ref h_p2_links, .ref h_p2_heads, .ref h_p2_stamps, .int p2_stamp_c8_0, .int x_p2_size_L14_22])) :: (h_p2_firsts, .inl (k_p2_firsts, 401, .inr (.inl x_p2_firsts_L14_22))) :: (h_p2_seconds, .inl (k_p2_seconds, 401, .inr (.inl x_p2_seconds_L14_22))) :: (h_p2_links, .inl (k_p2_links, 401, .inl x_p2_links_L14_22)) :: (h_p2_heads, .inl (k_p2_heads, 512, .inl x_p2_heads_L14_22)) :: (h_p2_stamps, .inl (k_p2_stamps, 512, .inl x_p2_stamps_L14_22)) :: R) := hD
    cases h
    exact rt_v S hr hlk hP hD hS dX10_go_75
  · intro q9 H locs ls hP hD hS hl
    have h := br_neg (by rw [q9]; decide) h
    have h := br_neg (by rw [q9]; decide) h
    have h := br_pos q9 h
    refine lv_aload_n hx hb dX10_go_92 rfl (lv_at hl 0 rfl) ?_
    refine lv_iconst (v := 1) hx hb dX10_go_93 (by decide) ?_
    refine lv_iload hx hb dX10_go_94 (lv_at hl 2 rfl) ?_
    refine lv_iload hx hb dX10_go_96 (lv_at hl 1 rfl) ?_
    refine lv_iload hx hb dX10_go_98 (lv_at hl 2 rfl) ?_
    refine lv_isub hx hb dX10_go_100 ?_
    obtain ⟨t_kind_c101_25, t_ahead_c101_25, t_length_c101_25, e_c101_25, h⟩ := bnd3_ok h
    refine cl_v (rn_v (ci := 10) (As := [.int 1, .int x12_L14_22, .int (x11_L14_22 - x12_L14_22)]) (rest := []) S (c_X10_settle l D ((h_t_places, .inl (k_t_places, 300, .inl x_t_places_L14_22)) :: (h_p1, .inr (2, [z_p1_0, .int p1_p, .int p1_q, .int p1_norm, .long p1_sideY, .long p1_sideZ, .long p1_divisor, z_p1_7, .ref h_p1_digitY, .ref h_p1_digitZ, z_p1_10, .ref h_p1_digitOfKey, .long x_p1_nextY_L14_22, .long x_p1_nextZ_L14_22])) :: (h_p1_digitY, .inl (k_p1_digitY, 25, .inl p1_digitY)) :: (h_p1_digitZ, .inl (k_p1_digitZ, 25, .inl p1_digitZ)) :: (h_p1_digitOfKey, .inl (k_p1_digitOfKey, 625, .inl p1_digitOfKey)) :: (h_p2, .inr (9, [.ref h_p2_firsts, .ref h_p2_seconds, .ref h_p2_links, .ref h_p2_heads, .ref h_p2_stamps, .int p2_stamp_c8_0, .int x_p2_size_L14_22])) :: (h_p2_firsts, .inl (k_p2_firsts, 401, .inr (.inl x_p2_firsts_L14_22))) :: (h_p2_seconds, .inl (k_p2_seconds, 401, .inr (.inl x_p2_seconds_L14_22))) :: (h_p2_links, .inl (k_p2_links, 401, .inl x_p2_links_L14_22)) :: (h_p2_heads, .inl (k_p2_heads, 512, .inl x_p2_heads_L14_22)) :: (h_p2_stamps, .inl (k_p2_stamps, 512, .inl x_p2_stamps_L14_22)) :: R) h_t (.ref h_t_places) t_kind t_ahead t_length 1 x12_L14_22 (x11_L14_22 - x12_L14_22) t_kind_c101_25 t_ahead_c101_25 t_length_c101_25 e_c101_25 _) q768 q770 q20 q59 q771 nd_X10_settle ⟨Nat.le_of_ble_eq_true rfl, Nat.le_of_ble_eq_true rfl⟩ rfl rfl hP hD (hK.sub (tys' := []) [] rfl) hN rfl ⟨0, _, rfl⟩ rfl hl.1 rfl (Nat.le_of_ble_eq_true rfl) dX10_go_101 ⟨Nat.le_of_ble_eq_true rfl, Nat.le_of_ble_eq_true rfl⟩) hS hA hD (fun H locs hP hD hS => ?_)
    have hP : va_P D vwCl ((h_t, .inr (10, [.ref h_t_places, .int t_kind_c101_25, .int t_ahead_c101_25, .int t_length_c101_25])) :: (h_t_places, .inl (k_t_places, 300, .inl x_t_places_L14_22)) :: (h_p1, .inr (2, [z_p1_0, .int p1_p, .int p1_q, .int p1_norm, .long p1_sideY, .long p1_sideZ, .long p1_divisor, z_p1_7, .ref h_p1_digitY, .ref h_p1_digitZ, z_p1_10, .ref h_p1_digitOfKey, .long x_p1_nextY_L14_22, .long x_p1_nextZ_L14_22])) :: (h_p1_digitY, .inl (k_p1_digitY, 25, .inl p1_digitY)) :: (h_p1_digitZ, .inl (k_p1_digitZ, 25, .inl p1_digitZ)) :: (h_p1_digitOfKey, .inl (k_p1_digitOfKey, 625, .inl p1_digitOfKey)) :: (h_p2, .inr (9, [.ref h_p2_firsts, .ref h_p2_seconds, .ref h_p2_links, .ref h_p2_heads, .ref h_p2_stamps, .int p2_stamp_c8_0, .int x_p2_size_L14_22])) :: (h_p2_firsts, .inl (k_p2_firsts, 401, .inr (.inl x_p2_firsts_L14_22))) :: (h_p2_seconds, .inl (k_p2_seconds, 401, .inr (.inl x_p2_seconds_L14_22))) :: (h_p2_links, .inl (k_p2_links, 401, .inl x_p2_links_L14_22)) :: (h_p2_heads, .inl (k_p2_heads, 512, .inl x_p2_heads_L14_22)) :: (h_p2_stamps, .inl (k_p2_stamps, 512, .inl x_p2_stamps_L14_22)) :: R) H := hP
    have hD : va_D A ((h_t, .inr (10, [.ref h_t_places, .int t_kind_c101_25, .int t_ahead_c101_25, .int t_length_c101_25])) :: (h_t_places, .inl (k_t_places, 300, .inl x_t_places_L14_22)) :: (h_p1, .inr (2, [z_p1_0, .int p1_p, .int p1_q, .int p1_norm, .long p1_sideY, .long p1_sideZ, .long p1_divisor, z_p1_7, .ref h_p1_digitY, .ref h_p1_digitZ, z_p1_10, .ref h_p1_digitOfKey, .long x_p1_nextY_L14_22, .long x_p1_nextZ_L14_22])) :: (h_p1_digitY, .inl (k_p1_digitY, 25, .inl p1_digitY)) :: (h_p1_digitZ, .inl (k_p1_digitZ, 25, .inl p1_digitZ)) :: (h_p1_digitOfKey, .inl (k_p1_digitOfKey, 625, .inl p1_digitOfKey)) :: (h_p2, .inr (9, [.ref h_p2_firsts, .ref h_p2_seconds, .ref h_p2_links, .ref h_p2_heads, .ref h_p2_stamps, .int p2_stamp_c8_0, .int x_p2_size_L14_22])) :: (h_p2_firsts, .inl (k_p2_firsts, 401, .inr (.inl x_p2_firsts_L14_22))) :: (h_p2_seconds, .inl (k_p2_seconds, 401, .inr (.inl x_p2_seconds_L14_22))) :: (h_p2_links, .inl (k_p2_links, 401, .inl x_p2_links_L14_22)) :: (h_p2_heads, .inl (k_p2_heads, 512, .inl x_p2_heads_L14_22)) :: (h_p2_stamps, .inl (k_p2_stamps, 512, .inl x_p2_stamps_L14_22)) :: R) := hD
    cases h
    exact rt_v S hr hlk hP hD hS dX10_go_104
  · intro q9 H locs ls hP hD hS hl
    have h := br_neg (by rw [q9]; decide) h
    have h := br_neg (by rw [q9]; decide) h
    have h := br_neg (by rw [q9]; decide) h
    refine lv_aload_n hx hb dX10_go_146 rfl (lv_at hl 0 rfl) ?_
    refine lv_iconst (v := 2) hx hb dX10_go_147 (by decide) ?_
    refine lv_sipush (v := 300) hx hb dX10_go_148 (by decide) ?_
    refine lv_iconst (v := 0) hx hb dX10_go_151 (by decide) ?_
    obtain ⟨t_kind_c152_26, t_ahead_c152_26, t_length_c152_26, e_c152_26, h⟩ := bnd3_ok h
    refine cl_v (rn_v (ci := 10) (As := [.int 2, .int 300, .int 0]) (rest := []) S (c_X10_settle l D ((h_t_places, .inl (k_t_places, 300, .inl x_t_places_L14_22)) :: (h_p1, .inr (2, [z_p1_0, .int p1_p, .int p1_q, .int p1_norm, .long p1_sideY, .long p1_sideZ, .long p1_divisor, z_p1_7, .ref h_p1_digitY, .ref h_p1_digitZ, z_p1_10, .ref h_p1_digitOfKey, .long x_p1_nextY_L14_22, .long x_p1_nextZ_L14_22])) :: (h_p1_digitY, .inl (k_p1_digitY, 25, .inl p1_digitY)) :: (h_p1_digitZ, .inl (k_p1_digitZ, 25, .inl p1_digitZ)) :: (h_p1_digitOfKey, .inl (k_p1_digitOfKey, 625, .inl p1_digitOfKey)) :: (h_p2, .inr (9, [.ref h_p2_firsts, .ref h_p2_seconds, .ref h_p2_links, .ref h_p2_heads, .ref h_p2_stamps, .int p2_stamp_c8_0, .int x_p2_size_L14_22])) :: (h_p2_firsts, .inl (k_p2_firsts, 401, .inr (.inl x_p2_firsts_L14_22))) :: (h_p2_seconds, .inl (k_p2_seconds, 401, .inr (.inl x_p2_seconds_L14_22))) :: (h_p2_links, .inl (k_p2_links, 401, .inl x_p2_links_L14_22)) :: (h_p2_heads, .inl (k_p2_heads, 512, .inl x_p2_heads_L14_22)) :: (h_p2_stamps, .inl (k_p2_stamps, 512, .inl x_p2_stamps_L14_22)) :: R) h_t (.ref h_t_places) t_kind t_ahead t_length 2 300 0 t_kind_c152_26 t_ahead_c152_26 t_length_c152_26 e_c152_26 _) q768 q770 q20 q59 q771 nd_X10_settle ⟨Nat.le_of_ble_eq_true rfl, Nat.le_of_ble_eq_true rfl⟩ rfl rfl hP hD (hK.sub (tys' := []) [] rfl) hN rfl ⟨0, _, rfl⟩ rfl hl.1 rfl (Nat.le_of_ble_eq_true rfl) dX10_go_152 ⟨Nat.le_of_ble_eq_true rfl, Nat.le_of_ble_eq_true rfl⟩) hS hA hD (fun H locs hP hD hS => ?_)
    have hP : va_P D vwCl ((h_t, .inr (10, [.ref h_t_places, .int t_kind_c152_26, .int t_ahead_c152_26, .int t_length_c152_26])) :: (h_t_places, .inl (k_t_places, 300, .inl x_t_places_L14_22)) :: (h_p1, .inr (2, [z_p1_0, .int p1_p, .int p1_q, .int p1_norm, .long p1_sideY, .long p1_sideZ, .long p1_divisor, z_p1_7, .ref h_p1_digitY, .ref h_p1_digitZ, z_p1_10, .ref h_p1_digitOfKey, .long x_p1_nextY_L14_22, .long x_p1_nextZ_L14_22])) :: (h_p1_digitY, .inl (k_p1_digitY, 25, .inl p1_digitY)) :: (h_p1_digitZ, .inl (k_p1_digitZ, 25, .inl p1_digitZ)) :: (h_p1_digitOfKey, .inl (k_p1_digitOfKey, 625, .inl p1_digitOfKey)) :: (h_p2, .inr (9, [.ref h_p2_firsts, .ref h_p2_seconds, .ref h_p2_links, .ref h_p2_heads, .ref h_p2_stamps, .int p2_stamp_c8_0, .int x_p2_size_L14_22])) :: (h_p2_firsts, .inl (k_p2_firsts, 401, .inr (.inl x_p2_firsts_L14_22))) :: (h_p2_seconds, .inl (k_p2_seconds, 401, .inr (.inl x_p2_seconds_L14_22))) :: (h_p2_links, .inl (k_p2_links, 401, .inl x_p2_links_L14_22)) :: (h_p2_heads, .inl (k_p2_heads, 512, .inl x_p2_heads_L14_22)) :: (h_p2_stamps, .inl (k_p2_stamps, 512, .inl x_p2_stamps_L14_22)) :: R) H := hP
    have hD : va_D A ((h_t, .inr (10, [.ref h_t_places, .int t_kind_c152_26, .int t_ahead_c152_26, .int t_length_c152_26])) :: (h_t_places, .inl (k_t_places, 300, .inl x_t_places_L14_22)) :: (h_p1, .inr (2, [z_p1_0, .int p1_p, .int p1_q, .int p1_norm, .long p1_sideY, .long p1_sideZ, .long p1_divisor, z_p1_7, .ref h_p1_digitY, .ref h_p1_digitZ, z_p1_10, .ref h_p1_digitOfKey, .long x_p1_nextY_L14_22, .long x_p1_nextZ_L14_22])) :: (h_p1_digitY, .inl (k_p1_digitY, 25, .inl p1_digitY)) :: (h_p1_digitZ, .inl (k_p1_digitZ, 25, .inl p1_digitZ)) :: (h_p1_digitOfKey, .inl (k_p1_digitOfKey, 625, .inl p1_digitOfKey)) :: (h_p2, .inr (9, [.ref h_p2_firsts, .ref h_p2_seconds, .ref h_p2_links, .ref h_p2_heads, .ref h_p2_stamps, .int p2_stamp_c8_0, .int x_p2_size_L14_22])) :: (h_p2_firsts, .inl (k_p2_firsts, 401, .inr (.inl x_p2_firsts_L14_22))) :: (h_p2_seconds, .inl (k_p2_seconds, 401, .inr (.inl x_p2_seconds_L14_22))) :: (h_p2_links, .inl (k_p2_links, 401, .inl x_p2_links_L14_22)) :: (h_p2_heads, .inl (k_p2_heads, 512, .inl x_p2_heads_L14_22)) :: (h_p2_stamps, .inl (k_p2_stamps, 512, .inl x_p2_stamps_L14_22)) :: R) := hD
    cases h
    exact rt_v S hr hlk hP hD hS dX10_go_155
noncomputable def f_X10_at (t_kind : Int32) (t_ahead : Int32) (t_length : Int32) (t_places : Nat → Int32) (l1 : Int32) : Option (Int32) :=
  if t_kind = (-1) then (
   some (-1)
  ) else (
   if l1 < 0 then (
    some (-1)
   ) else (
    if (t_ahead + t_length) ≤ l1 then (
     some (-1)
    ) else (
     if 300 ≤ l1 then (
      some (-1)
     ) else (
      gd (ixb l1 300) (
       some (t_places l1.toNatClampNeg)
      )
     )
    )
   )
  )
set_option maxHeartbeats 4000000 in
set_option maxRecDepth 100000 in
theorem c_X10_at (l : Launch) (D : va_G) (R : va_W) (h_t : Nat) (t_kind : Int32) (t_ahead : Int32) (t_length : Int32) (h_t_places : Nat) (k_t_places : ClassId) (t_places : Nat → Int32) (l1 : Int32) (r : Int32)  (h : f_X10_at t_kind t_ahead t_length t_places l1 = some r) (sz : Nat) : Met l yX10_at (WD yX10_at cX10_at 3 (some .int)) ({ frames := 0, cells := 0, slots := 0, locals := 0 }) (va_Pc [.ref h_t, .int l1] (PcW D [(k_t_places, .int)] ((h_t, .inr (10, [.ref h_t_places, .int t_kind, .int t_ahead, .int t_length])) :: (h_t_places, .inl (k_t_places, 300, .inl t_places)) :: R) sz)) (QI D r ((h_t, .inr (10, [.ref h_t_places, .int t_kind, .int t_ahead, .int t_length])) :: (h_t_places, .inl (k_t_places, 300, .inl t_places)) :: R) (va_A ((h_t, .inr (10, [.ref h_t_places, .int t_kind, .int t_ahead, .int t_length])) :: (h_t_places, .inl (k_t_places, 300, .inl t_places)) :: R) sz)) 0 0 (va_A ((h_t, .inr (10, [.ref h_t_places, .int t_kind, .int t_ahead, .int t_length])) :: (h_t_places, .inl (k_t_places, 300, .inl t_places)) :: R) sz) := by
  refine ct_start (QF := fun A => QI D r ((h_t, .inr (10, [.ref h_t_places, .int t_kind, .int t_ahead, .int t_length])) :: (h_t_places, .inl (k_t_places, 300, .inl t_places)) :: R) A) ?_ ?_ ?_
  · decide +kernel
  · exact Nat.le_of_ble_eq_true rfl
  intro p e s m args below meth c A ls S hr hlk hnm hS hA hP hD hK hN hl
  have S : CallFix p m c cX10_at 3 s args AL "DigitBench$Walk" := S
  have hx := S.1
  have hb := S.2.1
  have hown := S.2.2.2.1
  have ha := S.2.2.2.2
  have hl : lv_has ls 3 [(0, .ref h_t), (1, .int l1)] := hl
  unfold f_X10_at at h
  refine lv_aload_n hx hb dX10_at_0 rfl (lv_at hl 0 rfl) ?_
  refine va_get (D := D) (ci := 10) (v := .int t_kind) (C := RX10) (T := TX10) (N := 4) hx hb ha ix10 hown hK hP 0 rfl rfl 1 (by decide) (ha _ q405) (fun _ h9 => h9) rfl dX10_at_1 ?_
  refine lv_iconst (v := (-1)) hx hb dX10_at_4 (by decide) ?_
  refine lv_icmp_eq (tgt := 36) hx hb dX10_at_5 (by decide) (fun c1 => ?_) (fun c1 => ?_)
  · have h := br_pos c1 h
    refine lv_iconst (v := 0) hx hb dX10_at_36 (by decide) ?_
    refine lv_istore_n (lv' := [(2, .int 0), (0, .ref h_t), (1, .int l1)]) hx hb dX10_at_37 rfl hl (by decide) rfl (fun ls hl => ?_)
    refine lv_iload_n hx hb dX10_at_38 rfl (lv_at hl 0 rfl) ?_
    refine lv_if_eq (tgt := 51) hx hb dX10_at_39 (by decide) (fun c2 => ?_) (fun c2 => ?_)
    · refine lv_iconst (v := (-1)) hx hb dX10_at_51 (by decide) ?_
      cases h
      exact rt_i S hr hlk hP hD hS dX10_at_52
    · exact absurd c2 (by decide)
  · have h := br_neg c1 h
    refine lv_iload_n hx hb dX10_at_8 rfl (lv_at hl 1 rfl) ?_
    refine lv_if_lt (tgt := 36) hx hb dX10_at_9 (by decide) (fun c3 => ?_) (fun c3 => ?_)
    · have h := br_pos c3 h
      refine lv_iconst (v := 0) hx hb dX10_at_36 (by decide) ?_
      refine lv_istore_n (lv' := [(2, .int 0), (0, .ref h_t), (1, .int l1)]) hx hb dX10_at_37 rfl hl (by decide) rfl (fun ls hl => ?_)
      refine lv_iload_n hx hb dX10_at_38 rfl (lv_at hl 0 rfl) ?_
      refine lv_if_eq (tgt := 51) hx hb dX10_at_39 (by decide) (fun c4 => ?_) (fun c4 => ?_)
      · refine lv_iconst (v := (-1)) hx hb dX10_at_51 (by decide) ?_
        cases h
        exact rt_i S hr hlk hP hD hS dX10_at_52
      · exact absurd c4 (by decide)
    · have h := br_neg c3 h
      refine lv_iload_n hx hb dX10_at_12 rfl (lv_at hl 1 rfl) ?_
      refine lv_aload_n hx hb dX10_at_13 rfl (lv_at hl 0 rfl) ?_
      refine va_get (D := D) (ci := 10) (v := .int t_ahead) (C := RX10) (T := TX10) (N := 4) hx hb ha ix10 hown hK hP 0 rfl rfl 2 (by decide) (ha _ q407) (fun _ h9 => h9) rfl dX10_at_14 ?_
      refine lv_aload_n hx hb dX10_at_17 rfl (lv_at hl 0 rfl) ?_
      refine va_get (D := D) (ci := 10) (v := .int t_length) (C := RX10) (T := TX10) (N := 4) hx hb ha ix10 hown hK hP 0 rfl rfl 3 (by decide) (ha _ q409) (fun _ h9 => h9) rfl dX10_at_18 ?_
      refine lv_iadd hx hb dX10_at_21 ?_
      refine lv_icmp_ge (tgt := 36) hx hb dX10_at_22 (by decide) (fun c5 => ?_) (fun c5 => ?_)
      · have h := br_pos c5 h
        refine lv_iconst (v := 0) hx hb dX10_at_36 (by decide) ?_
        refine lv_istore_n (lv' := [(2, .int 0), (0, .ref h_t), (1, .int l1)]) hx hb dX10_at_37 rfl hl (by decide) rfl (fun ls hl => ?_)
        refine lv_iload_n hx hb dX10_at_38 rfl (lv_at hl 0 rfl) ?_
        refine lv_if_eq (tgt := 51) hx hb dX10_at_39 (by decide) (fun c6 => ?_) (fun c6 => ?_)
        · refine lv_iconst (v := (-1)) hx hb dX10_at_51 (by decide) ?_
          cases h
          exact rt_i S hr hlk hP hD hS dX10_at_52
        · exact absurd c6 (by decide)
      · have h := br_neg c5 h
        refine lv_iload_n hx hb dX10_at_25 rfl (lv_at hl 1 rfl) ?_
        refine lv_sipush (v := 300) hx hb dX10_at_26 (by decide) ?_
        refine lv_icmp_ge (tgt := 36) hx hb dX10_at_29 (by decide) (fun c7 => ?_) (fun c7 => ?_)
        · have h := br_pos c7 h
          refine lv_iconst (v := 0) hx hb dX10_at_36 (by decide) ?_
          refine lv_istore_n (lv' := [(2, .int 0), (0, .ref h_t), (1, .int l1)]) hx hb dX10_at_37 rfl hl (by decide) rfl (fun ls hl => ?_)
          refine lv_iload_n hx hb dX10_at_38 rfl (lv_at hl 0 rfl) ?_
          refine lv_if_eq (tgt := 51) hx hb dX10_at_39 (by decide) (fun c8 => ?_) (fun c8 => ?_)
          · refine lv_iconst (v := (-1)) hx hb dX10_at_51 (by decide) ?_
            cases h
            exact rt_i S hr hlk hP hD hS dX10_at_52
          · exact absurd c8 (by decide)
        · have h := br_neg c7 h
          refine lv_iconst (v := 1) hx hb dX10_at_32 (by decide) ?_
          refine lv_goto (tgt := 37) hx hb dX10_at_33 (by decide) ?_
          refine lv_istore_n (lv' := [(2, .int 1), (0, .ref h_t), (1, .int l1)]) hx hb dX10_at_37 rfl hl (by decide) rfl (fun ls hl => ?_)
          refine lv_iload_n hx hb dX10_at_38 rfl (lv_at hl 0 rfl) ?_
          refine lv_if_eq (tgt := 51) hx hb dX10_at_39 (by decide) (fun c9 => ?_) (fun c9 => ?_)
          · exact absurd c9 (by decide)
          · refine lv_aload_n hx hb dX10_at_42 rfl (lv_at hl 1 rfl) ?_
            refine va_get (D := D) (ci := 10) (v := .ref h_t_places) (C := RX10) (T := TX10) (N := 4) hx hb ha ix10 hown hK hP 0 rfl rfl 0 (by decide) (ha _ q404) (fun _ h9 => h9) rfl dX10_at_43 ?_
            refine lv_iload_n hx hb dX10_at_46 rfl (lv_at hl 2 rfl) ?_
            obtain ⟨i10, h⟩ := ix_ok h
            refine va_iald hx hb hK hP 1 0 rfl rfl i10 dX10_at_47 ?_
            refine lv_goto (tgt := 52) hx hb dX10_at_48 (by decide) ?_
            cases h
            exact rt_i S hr hlk hP hD hS dX10_at_52
