noncomputable def f_X9_clear (t_stamp : Int32) (t_size : Int32) : Option (Int32 × Int32) :=
  some ((t_stamp + 1), 0)
set_option maxHeartbeats 4000000 in
set_option maxRecDepth 100000 in
theorem c_X9_clear (l : Launch) (D : va_G) (R : va_W) (h_t : Nat) (z_t_0 : Value) (z_t_1 : Value) (z_t_2 : Value) (z_t_3 : Value) (z_t_4 : Value) (t_stamp : Int32) (t_size : Int32) (o_t_stamp : Int32) (o_t_size : Int32)  (h : f_X9_clear t_stamp t_size = some (o_t_stamp, o_t_size)) (sz : Nat) : Met l yX9_clear (WD yX9_clear cX9_clear 1 none) ({ frames := 0, cells := 0, slots := 0, locals := 0 }) (va_Pc [.ref h_t] (PcW D [] ((h_t, .inr (9, [z_t_0, z_t_1, z_t_2, z_t_3, z_t_4, .int t_stamp, .int t_size])) :: R) sz)) (QV D ((h_t, .inr (9, [z_t_0, z_t_1, z_t_2, z_t_3, z_t_4, .int o_t_stamp, .int o_t_size])) :: R) (va_A ((h_t, .inr (9, [z_t_0, z_t_1, z_t_2, z_t_3, z_t_4, .int t_stamp, .int t_size])) :: R) sz)) 0 0 (va_A ((h_t, .inr (9, [z_t_0, z_t_1, z_t_2, z_t_3, z_t_4, .int t_stamp, .int t_size])) :: R) sz) := by
  refine ct_start (QF := fun A => QV D ((h_t, .inr (9, [z_t_0, z_t_1, z_t_2, z_t_3, z_t_4, .int o_t_stamp, .int o_t_size])) :: R) A) ?_ ?_ ?_
  · decide +kernel
  · exact Nat.le_of_ble_eq_true rfl
  intro p e s m args below meth c A ls S hr hlk hnm hS hA hP hD hK hN hl
  have S : CallFix p m c cX9_clear 1 s args AL "DigitBench$Trail" := S
  have hx := S.1
  have hb := S.2.1
  have hown := S.2.2.2.1
  have ha := S.2.2.2.2
  have hl : lv_has ls 1 [(0, .ref h_t)] := hl
  unfold f_X9_clear at h
  refine lv_aload_n hx hb dX9_clear_0 rfl (lv_at hl 0 rfl) ?_
  refine lv_dup hx hb dX9_clear_1 rfl ?_
  refine va_get (D := D) (ci := 9) (v := .int t_stamp) (C := RX9) (T := TX9) (N := 7) hx hb ha ix9 hown hK hP 0 rfl rfl 5 (by decide) (ha _ q293) (fun _ h9 => h9) rfl dX9_clear_2 ?_
  refine lv_iconst (v := 1) hx hb dX9_clear_5 (by decide) ?_
  refine lv_iadd hx hb dX9_clear_6 ?_
  refine va_put (D := D) (ci := 9) (v := .int (t_stamp + 1)) (ty := .int) (C := RX9) (T := TX9) (N := 7) hx hb ha ix9 tyX9 tyX9_ok nmX9 hown hK hP hD hS 0 rfl rfl 5 (by decide) (ha _ q293) (fun _ h9 => h9) rfl (by decide +kernel) rfl rfl (Nat.le_of_ble_eq_true rfl) dX9_clear_7 (fun H locs hP hD hS => ?_)
  have hP : va_P D vwCl ((h_t, .inr (9, [z_t_0, z_t_1, z_t_2, z_t_3, z_t_4, .int (t_stamp + 1), .int t_size])) :: R) H := hP
  have hD : va_D A ((h_t, .inr (9, [z_t_0, z_t_1, z_t_2, z_t_3, z_t_4, .int (t_stamp + 1), .int t_size])) :: R) := hD
  refine lv_aload_n hx hb dX9_clear_10 rfl (lv_at hl 0 rfl) ?_
  refine lv_iconst (v := 0) hx hb dX9_clear_11 (by decide) ?_
  refine va_put (D := D) (ci := 9) (v := .int 0) (ty := .int) (C := RX9) (T := TX9) (N := 7) hx hb ha ix9 tyX9 tyX9_ok nmX9 hown hK hP hD hS 0 rfl rfl 6 (by decide) (ha _ q294) (fun _ h9 => h9) rfl (by decide +kernel) rfl rfl (Nat.le_of_ble_eq_true rfl) dX9_clear_12 (fun H locs hP hD hS => ?_)
  have hP : va_P D vwCl ((h_t, .inr (9, [z_t_0, z_t_1, z_t_2, z_t_3, z_t_4, .int (t_stamp + 1), .int 0])) :: R) H := hP
  have hD : va_D A ((h_t, .inr (9, [z_t_0, z_t_1, z_t_2, z_t_3, z_t_4, .int (t_stamp + 1), .int 0])) :: R) := hD
  cases h
  exact rt_v S hr hlk hP hD hS dX9_clear_15
noncomputable def f_X9_append (t_stamp : Int32) (t_size : Int32) (t_firsts : Nat → Int64) (t_seconds : Nat → Int64) (t_links : Nat → Int32) (t_heads : Nat → Int32) (t_stamps : Nat → Int32) (l1 : Int32) (l2 : Int64) (l4 : Int64) : Option (Int32 × (Nat → Int64) × (Nat → Int64) × (Nat → Int32) × (Nat → Int32) × (Nat → Int32)) :=
  if t_size < 401 then (
   gd (ixb t_size 401) (
    gd (ixb t_size 401) (
     gd (ixb l1 512) (
      if (t_stamps l1.toNatClampNeg) = t_stamp then (
       gd (ixb l1 512) (
        gd (ixb t_size 401) (
         gd (ixb l1 512) (
          gd (ixb l1 512) (
           some ((t_size + 1), (vp_updL t_firsts t_size.toNatClampNeg l2), (vp_updL t_seconds t_size.toNatClampNeg l4), (upd t_links t_size.toNatClampNeg (t_heads l1.toNatClampNeg)), (upd t_heads l1.toNatClampNeg t_size), (upd t_stamps l1.toNatClampNeg t_stamp))
          )
         )
        )
       )
      ) else (
       gd (ixb t_size 401) (
        gd (ixb l1 512) (
         gd (ixb l1 512) (
          some ((t_size + 1), (vp_updL t_firsts t_size.toNatClampNeg l2), (vp_updL t_seconds t_size.toNatClampNeg l4), (upd t_links t_size.toNatClampNeg (-1)), (upd t_heads l1.toNatClampNeg t_size), (upd t_stamps l1.toNatClampNeg t_stamp))
         )
        )
       )
      )
     )
    )
   )
  ) else (
   some (t_size, t_firsts, t_seconds, t_links, t_heads, t_stamps)
  )
set_option maxHeartbeats 4000000 in
set_option maxRecDepth 100000 in
theorem c_X9_append (l : Launch) (D : va_G) (R : va_W) (h_t : Nat) (t_stamp : Int32) (t_size : Int32) (h_t_firsts : Nat) (k_t_firsts : ClassId) (t_firsts : Nat → Int64) (h_t_seconds : Nat) (k_t_seconds : ClassId) (t_seconds : Nat → Int64) (h_t_links : Nat) (k_t_links : ClassId) (t_links : Nat → Int32) (h_t_heads : Nat) (k_t_heads : ClassId) (t_heads : Nat → Int32) (h_t_stamps : Nat) (k_t_stamps : ClassId) (t_stamps : Nat → Int32) (l1 : Int32) (l2 : Int64) (l4 : Int64) (o_t_size : Int32) (o_t_firsts : Nat → Int64) (o_t_seconds : Nat → Int64) (o_t_links : Nat → Int32) (o_t_heads : Nat → Int32) (o_t_stamps : Nat → Int32)  (h : f_X9_append t_stamp t_size t_firsts t_seconds t_links t_heads t_stamps l1 l2 l4 = some (o_t_size, o_t_firsts, o_t_seconds, o_t_links, o_t_heads, o_t_stamps)) (sz : Nat) : Met l yX9_append (WD yX9_append cX9_append 6 none) ({ frames := 0, cells := 0, slots := 0, locals := 0 }) (va_Pc [.ref h_t, .int l1, .long l2, .long l4] (PcW D [(k_t_firsts, .long), (k_t_seconds, .long), (k_t_links, .int), (k_t_heads, .int), (k_t_stamps, .int)] ((h_t, .inr (9, [.ref h_t_firsts, .ref h_t_seconds, .ref h_t_links, .ref h_t_heads, .ref h_t_stamps, .int t_stamp, .int t_size])) :: (h_t_firsts, .inl (k_t_firsts, 401, .inr (.inl t_firsts))) :: (h_t_seconds, .inl (k_t_seconds, 401, .inr (.inl t_seconds))) :: (h_t_links, .inl (k_t_links, 401, .inl t_links)) :: (h_t_heads, .inl (k_t_heads, 512, .inl t_heads)) :: (h_t_stamps, .inl (k_t_stamps, 512, .inl t_stamps)) :: R) sz)) (QV D ((h_t, .inr (9, [.ref h_t_firsts, .ref h_t_seconds, .ref h_t_links, .ref h_t_heads, .ref h_t_stamps, .int t_stamp, .int o_t_size])) :: (h_t_firsts, .inl (k_t_firsts, 401, .inr (.inl o_t_firsts))) :: (h_t_seconds, .inl (k_t_seconds, 401, .inr (.inl o_t_seconds))) :: (h_t_links, .inl (k_t_links, 401, .inl o_t_links)) :: (h_t_heads, .inl (k_t_heads, 512, .inl o_t_heads)) :: (h_t_stamps, .inl (k_t_stamps, 512, .inl o_t_stamps)) :: R) (va_A ((h_t, .inr (9, [.ref h_t_firsts, .ref h_t_seconds, .ref h_t_links, .ref h_t_heads, .ref h_t_stamps, .int t_stamp, .int t_size])) :: (h_t_firsts, .inl (k_t_firsts, 401, .inr (.inl t_firsts))) :: (h_t_seconds, .inl (k_t_seconds, 401, .inr (.inl t_seconds))) :: (h_t_links, .inl (k_t_links, 401, .inl t_links)) :: (h_t_heads, .inl (k_t_heads, 512, .inl t_heads)) :: (h_t_stamps, .inl (k_t_stamps, 512, .inl t_stamps)) :: R) sz)) 0 0 (va_A ((h_t, .inr (9, [.ref h_t_firsts, .ref h_t_seconds, .ref h_t_links, .ref h_t_heads, .ref h_t_stamps, .int t_stamp, .int t_size])) :: (h_t_firsts, .inl (k_t_firsts, 401, .inr (.inl t_firsts))) :: (h_t_seconds, .inl (k_t_seconds, 401, .inr (.inl t_seconds))) :: (h_t_links, .inl (k_t_links, 401, .inl t_links)) :: (h_t_heads, .inl (k_t_heads, 512, .inl t_heads)) :: (h_t_stamps, .inl (k_t_stamps, 512, .inl t_stamps)) :: R) sz) := by
  refine ct_start (QF := fun A => QV D ((h_t, .inr (9, [.ref h_t_firsts, .ref h_t_seconds, .ref h_t_links, .ref h_t_heads, .ref h_t_stamps, .int t_stamp, .int o_t_size])) :: (h_t_firsts, .inl (k_t_firsts, 401, .inr (.inl o_t_firsts))) :: (h_t_seconds, .inl (k_t_seconds, 401, .inr (.inl o_t_seconds))) :: (h_t_links, .inl (k_t_links, 401, .inl o_t_links)) :: (h_t_heads, .inl (k_t_heads, 512, .inl o_t_heads)) :: (h_t_stamps, .inl (k_t_stamps, 512, .inl o_t_stamps)) :: R) A) ?_ ?_ ?_
  · decide +kernel
  · exact Nat.le_of_ble_eq_true rfl
  intro p e s m args below meth c A ls S hr hlk hnm hS hA hP hD hK hN hl
  have S : CallFix p m c cX9_append 6 s args AL "DigitBench$Trail" := S
  have hx := S.1
  have hb := S.2.1
  have hown := S.2.2.2.1
  have ha := S.2.2.2.2
  have hl : lv_has ls 6 [(0, .ref h_t), (1, .int l1), (2, .long l2), (4, .long l4)] := hl
  unfold f_X9_append at h
  refine lv_aload_n hx hb dX9_append_0 rfl (lv_at hl 0 rfl) ?_
  refine va_get (D := D) (ci := 9) (v := .int t_size) (C := RX9) (T := TX9) (N := 7) hx hb ha ix9 hown hK hP 0 rfl rfl 6 (by decide) (ha _ q294) (fun _ h9 => h9) rfl dX9_append_1 ?_
  refine lv_sipush (v := 401) hx hb dX9_append_4 (by decide) ?_
  refine lv_icmp_lt (tgt := 11) hx hb dX9_append_7 (by decide) (fun c1 => ?_) (fun c1 => ?_)
  · have h := br_pos c1 h
    refine lv_aload_n hx hb dX9_append_11 rfl (lv_at hl 0 rfl) ?_
    refine va_get (D := D) (ci := 9) (v := .ref h_t_firsts) (C := RX9) (T := TX9) (N := 7) hx hb ha ix9 hown hK hP 0 rfl rfl 0 (by decide) (ha _ q288) (fun _ h9 => h9) rfl dX9_append_12 ?_
    refine lv_aload_n hx hb dX9_append_15 rfl (lv_at hl 0 rfl) ?_
    refine va_get (D := D) (ci := 9) (v := .int t_size) (C := RX9) (T := TX9) (N := 7) hx hb ha ix9 hown hK hP 0 rfl rfl 6 (by decide) (ha _ q294) (fun _ h9 => h9) rfl dX9_append_16 ?_
    refine lv_lload_n hx hb dX9_append_19 rfl (lv_at hl 2 rfl) ?_
    obtain ⟨i2, h⟩ := ix_ok h
    refine va_last hx hb hK hP hD hS 1 0 rfl rfl i2 dX9_append_20 (fun H locs hP hD hS => ?_)
    have hP : va_P D vwCl ((h_t, .inr (9, [.ref h_t_firsts, .ref h_t_seconds, .ref h_t_links, .ref h_t_heads, .ref h_t_stamps, .int t_stamp, .int t_size])) :: (h_t_firsts, .inl (k_t_firsts, 401, .inr (.inl (vp_updL t_firsts t_size.toNatClampNeg l2)))) :: (h_t_seconds, .inl (k_t_seconds, 401, .inr (.inl t_seconds))) :: (h_t_links, .inl (k_t_links, 401, .inl t_links)) :: (h_t_heads, .inl (k_t_heads, 512, .inl t_heads)) :: (h_t_stamps, .inl (k_t_stamps, 512, .inl t_stamps)) :: R) H := hP
    have hD : va_D A ((h_t, .inr (9, [.ref h_t_firsts, .ref h_t_seconds, .ref h_t_links, .ref h_t_heads, .ref h_t_stamps, .int t_stamp, .int t_size])) :: (h_t_firsts, .inl (k_t_firsts, 401, .inr (.inl (vp_updL t_firsts t_size.toNatClampNeg l2)))) :: (h_t_seconds, .inl (k_t_seconds, 401, .inr (.inl t_seconds))) :: (h_t_links, .inl (k_t_links, 401, .inl t_links)) :: (h_t_heads, .inl (k_t_heads, 512, .inl t_heads)) :: (h_t_stamps, .inl (k_t_stamps, 512, .inl t_stamps)) :: R) := hD
    refine lv_aload_n hx hb dX9_append_21 rfl (lv_at hl 0 rfl) ?_
    refine va_get (D := D) (ci := 9) (v := .ref h_t_seconds) (C := RX9) (T := TX9) (N := 7) hx hb ha ix9 hown hK hP 0 rfl rfl 1 (by decide) (ha _ q289) (fun _ h9 => h9) rfl dX9_append_22 ?_
    refine lv_aload_n hx hb dX9_append_25 rfl (lv_at hl 0 rfl) ?_
    refine va_get (D := D) (ci := 9) (v := .int t_size) (C := RX9) (T := TX9) (N := 7) hx hb ha ix9 hown hK hP 0 rfl rfl 6 (by decide) (ha _ q294) (fun _ h9 => h9) rfl dX9_append_26 ?_
    refine lv_lload hx hb dX9_append_29 (lv_at hl 3 rfl) ?_
    obtain ⟨i3, h⟩ := ix_ok h
    refine va_last hx hb hK hP hD hS 2 1 rfl rfl i3 dX9_append_31 (fun H locs hP hD hS => ?_)
    have hP : va_P D vwCl ((h_t, .inr (9, [.ref h_t_firsts, .ref h_t_seconds, .ref h_t_links, .ref h_t_heads, .ref h_t_stamps, .int t_stamp, .int t_size])) :: (h_t_firsts, .inl (k_t_firsts, 401, .inr (.inl (vp_updL t_firsts t_size.toNatClampNeg l2)))) :: (h_t_seconds, .inl (k_t_seconds, 401, .inr (.inl (vp_updL t_seconds t_size.toNatClampNeg l4)))) :: (h_t_links, .inl (k_t_links, 401, .inl t_links)) :: (h_t_heads, .inl (k_t_heads, 512, .inl t_heads)) :: (h_t_stamps, .inl (k_t_stamps, 512, .inl t_stamps)) :: R) H := hP
    have hD : va_D A ((h_t, .inr (9, [.ref h_t_firsts, .ref h_t_seconds, .ref h_t_links, .ref h_t_heads, .ref h_t_stamps, .int t_stamp, .int t_size])) :: (h_t_firsts, .inl (k_t_firsts, 401, .inr (.inl (vp_updL t_firsts t_size.toNatClampNeg l2)))) :: (h_t_seconds, .inl (k_t_seconds, 401, .inr (.inl (vp_updL t_seconds t_size.toNatClampNeg l4)))) :: (h_t_links, .inl (k_t_links, 401, .inl t_links)) :: (h_t_heads, .inl (k_t_heads, 512, .inl t_heads)) :: (h_t_stamps, .inl (k_t_stamps, 512, .inl t_stamps)) :: R) := hD
    refine lv_aload_n hx hb dX9_append_32 rfl (lv_at hl 0 rfl) ?_
    refine va_get (D := D) (ci := 9) (v := .ref h_t_links) (C := RX9) (T := TX9) (N := 7) hx hb ha ix9 hown hK hP 0 rfl rfl 2 (by decide) (ha _ q290) (fun _ h9 => h9) rfl dX9_append_33 ?_
    refine lv_aload_n hx hb dX9_append_36 rfl (lv_at hl 0 rfl) ?_
    refine va_get (D := D) (ci := 9) (v := .int t_size) (C := RX9) (T := TX9) (N := 7) hx hb ha ix9 hown hK hP 0 rfl rfl 6 (by decide) (ha _ q294) (fun _ h9 => h9) rfl dX9_append_37 ?_
    refine lv_aload_n hx hb dX9_append_40 rfl (lv_at hl 0 rfl) ?_
    refine va_get (D := D) (ci := 9) (v := .ref h_t_stamps) (C := RX9) (T := TX9) (N := 7) hx hb ha ix9 hown hK hP 0 rfl rfl 4 (by decide) (ha _ q292) (fun _ h9 => h9) rfl dX9_append_41 ?_
    refine lv_iload_n hx hb dX9_append_44 rfl (lv_at hl 1 rfl) ?_
    obtain ⟨i4, h⟩ := ix_ok h
    refine va_iald hx hb hK hP 5 4 rfl rfl i4 dX9_append_45 ?_
    refine lv_aload_n hx hb dX9_append_46 rfl (lv_at hl 0 rfl) ?_
    refine va_get (D := D) (ci := 9) (v := .int t_stamp) (C := RX9) (T := TX9) (N := 7) hx hb ha ix9 hown hK hP 0 rfl rfl 5 (by decide) (ha _ q293) (fun _ h9 => h9) rfl dX9_append_47 ?_
    refine lv_icmp_ne (tgt := 62) hx hb dX9_append_50 (by decide) (fun c5 => ?_) (fun c5 => ?_)
    · have h := br_neg c5 h
      refine lv_iconst (v := (-1)) hx hb dX9_append_62 (by decide) ?_
      obtain ⟨i10, h⟩ := ix_ok h
      refine va_iast hx hb hK hP hD hS 3 2 rfl rfl i10 dX9_append_63 (fun H locs hP hD hS => ?_)
      have hP : va_P D vwCl ((h_t, .inr (9, [.ref h_t_firsts, .ref h_t_seconds, .ref h_t_links, .ref h_t_heads, .ref h_t_stamps, .int t_stamp, .int t_size])) :: (h_t_firsts, .inl (k_t_firsts, 401, .inr (.inl (vp_updL t_firsts t_size.toNatClampNeg l2)))) :: (h_t_seconds, .inl (k_t_seconds, 401, .inr (.inl (vp_updL t_seconds t_size.toNatClampNeg l4)))) :: (h_t_links, .inl (k_t_links, 401, .inl (upd t_links t_size.toNatClampNeg (-1)))) :: (h_t_heads, .inl (k_t_heads, 512, .inl t_heads)) :: (h_t_stamps, .inl (k_t_stamps, 512, .inl t_stamps)) :: R) H := hP
      have hD : va_D A ((h_t, .inr (9, [.ref h_t_firsts, .ref h_t_seconds, .ref h_t_links, .ref h_t_heads, .ref h_t_stamps, .int t_stamp, .int t_size])) :: (h_t_firsts, .inl (k_t_firsts, 401, .inr (.inl (vp_updL t_firsts t_size.toNatClampNeg l2)))) :: (h_t_seconds, .inl (k_t_seconds, 401, .inr (.inl (vp_updL t_seconds t_size.toNatClampNeg l4)))) :: (h_t_links, .inl (k_t_links, 401, .inl (upd t_links t_size.toNatClampNeg (-1)))) :: (h_t_heads, .inl (k_t_heads, 512, .inl t_heads)) :: (h_t_stamps, .inl (k_t_stamps, 512, .inl t_stamps)) :: R) := hD
      refine lv_aload_n hx hb dX9_append_64 rfl (lv_at hl 0 rfl) ?_
      refine va_get (D := D) (ci := 9) (v := .ref h_t_heads) (C := RX9) (T := TX9) (N := 7) hx hb ha ix9 hown hK hP 0 rfl rfl 3 (by decide) (ha _ q291) (fun _ h9 => h9) rfl dX9_append_65 ?_
      refine lv_iload_n hx hb dX9_append_68 rfl (lv_at hl 1 rfl) ?_
      refine lv_aload_n hx hb dX9_append_69 rfl (lv_at hl 0 rfl) ?_
      refine va_get (D := D) (ci := 9) (v := .int t_size) (C := RX9) (T := TX9) (N := 7) hx hb ha ix9 hown hK hP 0 rfl rfl 6 (by decide) (ha _ q294) (fun _ h9 => h9) rfl dX9_append_70 ?_
      obtain ⟨i11, h⟩ := ix_ok h
      refine va_iast hx hb hK hP hD hS 4 3 rfl rfl i11 dX9_append_73 (fun H locs hP hD hS => ?_)
      have hP : va_P D vwCl ((h_t, .inr (9, [.ref h_t_firsts, .ref h_t_seconds, .ref h_t_links, .ref h_t_heads, .ref h_t_stamps, .int t_stamp, .int t_size])) :: (h_t_firsts, .inl (k_t_firsts, 401, .inr (.inl (vp_updL t_firsts t_size.toNatClampNeg l2)))) :: (h_t_seconds, .inl (k_t_seconds, 401, .inr (.inl (vp_updL t_seconds t_size.toNatClampNeg l4)))) :: (h_t_links, .inl (k_t_links, 401, .inl (upd t_links t_size.toNatClampNeg (-1)))) :: (h_t_heads, .inl (k_t_heads, 512, .inl (upd t_heads l1.toNatClampNeg t_size))) :: (h_t_stamps, .inl (k_t_stamps, 512, .inl t_stamps)) :: R) H := hP
      have hD : va_D A ((h_t, .inr (9, [.ref h_t_firsts, .ref h_t_seconds, .ref h_t_links, .ref h_t_heads, .ref h_t_stamps, .int t_stamp, .int t_size])) :: (h_t_firsts, .inl (k_t_firsts, 401, .inr (.inl (vp_updL t_firsts t_size.toNatClampNeg l2)))) :: (h_t_seconds, .inl (k_t_seconds, 401, .inr (.inl (vp_updL t_seconds t_size.toNatClampNeg l4)))) :: (h_t_links, .inl (k_t_links, 401, .inl (upd t_links t_size.toNatClampNeg (-1)))) :: (h_t_heads, .inl (k_t_heads, 512, .inl (upd t_heads l1.toNatClampNeg t_size))) :: (h_t_stamps, .inl (k_t_stamps, 512, .inl t_stamps)) :: R) := hD
      refine lv_aload_n hx hb dX9_append_74 rfl (lv_at hl 0 rfl) ?_
      refine va_get (D := D) (ci := 9) (v := .ref h_t_stamps) (C := RX9) (T := TX9) (N := 7) hx hb ha ix9 hown hK hP 0 rfl rfl 4 (by decide) (ha _ q292) (fun _ h9 => h9) rfl dX9_append_75 ?_
      refine lv_iload_n hx hb dX9_append_78 rfl (lv_at hl 1 rfl) ?_
      refine lv_aload_n hx hb dX9_append_79 rfl (lv_at hl 0 rfl) ?_
      refine va_get (D := D) (ci := 9) (v := .int t_stamp) (C := RX9) (T := TX9) (N := 7) hx hb ha ix9 hown hK hP 0 rfl rfl 5 (by decide) (ha _ q293) (fun _ h9 => h9) rfl dX9_append_80 ?_
      obtain ⟨i12, h⟩ := ix_ok h
      refine va_iast hx hb hK hP hD hS 5 4 rfl rfl i12 dX9_append_83 (fun H locs hP hD hS => ?_)
      have hP : va_P D vwCl ((h_t, .inr (9, [.ref h_t_firsts, .ref h_t_seconds, .ref h_t_links, .ref h_t_heads, .ref h_t_stamps, .int t_stamp, .int t_size])) :: (h_t_firsts, .inl (k_t_firsts, 401, .inr (.inl (vp_updL t_firsts t_size.toNatClampNeg l2)))) :: (h_t_seconds, .inl (k_t_seconds, 401, .inr (.inl (vp_updL t_seconds t_size.toNatClampNeg l4)))) :: (h_t_links, .inl (k_t_links, 401, .inl (upd t_links t_size.toNatClampNeg (-1)))) :: (h_t_heads, .inl (k_t_heads, 512, .inl (upd t_heads l1.toNatClampNeg t_size))) :: (h_t_stamps, .inl (k_t_stamps, 512, .inl (upd t_stamps l1.toNatClampNeg t_stamp))) :: R) H := hP
      have hD : va_D A ((h_t, .inr (9, [.ref h_t_firsts, .ref h_t_seconds, .ref h_t_links, .ref h_t_heads, .ref h_t_stamps, .int t_stamp, .int t_size])) :: (h_t_firsts, .inl (k_t_firsts, 401, .inr (.inl (vp_updL t_firsts t_size.toNatClampNeg l2)))) :: (h_t_seconds, .inl (k_t_seconds, 401, .inr (.inl (vp_updL t_seconds t_size.toNatClampNeg l4)))) :: (h_t_links, .inl (k_t_links, 401, .inl (upd t_links t_size.toNatClampNeg (-1)))) :: (h_t_heads, .inl (k_t_heads, 512, .inl (upd t_heads l1.toNatClampNeg t_size))) :: (h_t_stamps, .inl (k_t_stamps, 512, .inl (upd t_stamps l1.toNatClampNeg t_stamp))) :: R) := hD
      refine lv_aload_n hx hb dX9_append_84 rfl (lv_at hl 0 rfl) ?_
      refine lv_dup hx hb dX9_append_85 rfl ?_
      refine va_get (D := D) (ci := 9) (v := .int t_size) (C := RX9) (T := TX9) (N := 7) hx hb ha ix9 hown hK hP 0 rfl rfl 6 (by decide) (ha _ q294) (fun _ h9 => h9) rfl dX9_append_86 ?_
      refine lv_iconst (v := 1) hx hb dX9_append_89 (by decide) ?_
      refine lv_iadd hx hb dX9_append_90 ?_
      refine va_put (D := D) (ci := 9) (v := .int (t_size + 1)) (ty := .int) (C := RX9) (T := TX9) (N := 7) hx hb ha ix9 tyX9 tyX9_ok nmX9 hown hK hP hD hS 0 rfl rfl 6 (by decide) (ha _ q294) (fun _ h9 => h9) rfl (by decide +kernel) rfl rfl (Nat.le_of_ble_eq_true rfl) dX9_append_91 (fun H locs hP hD hS => ?_)
      have hP : va_P D vwCl ((h_t, .inr (9, [.ref h_t_firsts, .ref h_t_seconds, .ref h_t_links, .ref h_t_heads, .ref h_t_stamps, .int t_stamp, .int (t_size + 1)])) :: (h_t_firsts, .inl (k_t_firsts, 401, .inr (.inl (vp_updL t_firsts t_size.toNatClampNeg l2)))) :: (h_t_seconds, .inl (k_t_seconds, 401, .inr (.inl (vp_updL t_seconds t_size.toNatClampNeg l4)))) :: (h_t_links, .inl (k_t_links, 401, .inl (upd t_links t_size.toNatClampNeg (-1)))) :: (h_t_heads, .inl (k_t_heads, 512, .inl (upd t_heads l1.toNatClampNeg t_size))) :: (h_t_stamps, .inl (k_t_stamps, 512, .inl (upd t_stamps l1.toNatClampNeg t_stamp))) :: R) H := hP
      have hD : va_D A ((h_t, .inr (9, [.ref h_t_firsts, .ref h_t_seconds, .ref h_t_links, .ref h_t_heads, .ref h_t_stamps, .int t_stamp, .int (t_size + 1)])) :: (h_t_firsts, .inl (k_t_firsts, 401, .inr (.inl (vp_updL t_firsts t_size.toNatClampNeg l2)))) :: (h_t_seconds, .inl (k_t_seconds, 401, .inr (.inl (vp_updL t_seconds t_size.toNatClampNeg l4)))) :: (h_t_links, .inl (k_t_links, 401, .inl (upd t_links t_size.toNatClampNeg (-1)))) :: (h_t_heads, .inl (k_t_heads, 512, .inl (upd t_heads l1.toNatClampNeg t_size))) :: (h_t_stamps, .inl (k_t_stamps, 512, .inl (upd t_stamps l1.toNatClampNeg t_stamp))) :: R) := hD
      cases h
      exact rt_v S hr hlk hP hD hS dX9_append_94
    · have h := br_pos c5 h
      refine lv_aload_n hx hb dX9_append_53 rfl (lv_at hl 0 rfl) ?_
      refine va_get (D := D) (ci := 9) (v := .ref h_t_heads) (C := RX9) (T := TX9) (N := 7) hx hb ha ix9 hown hK hP 0 rfl rfl 3 (by decide) (ha _ q291) (fun _ h9 => h9) rfl dX9_append_54 ?_
      refine lv_iload_n hx hb dX9_append_57 rfl (lv_at hl 1 rfl) ?_
      obtain ⟨i6, h⟩ := ix_ok h
      refine va_iald hx hb hK hP 4 3 rfl rfl i6 dX9_append_58 ?_
      refine lv_goto (tgt := 63) hx hb dX9_append_59 (by decide) ?_
      obtain ⟨i7, h⟩ := ix_ok h
      refine va_iast hx hb hK hP hD hS 3 2 rfl rfl i7 dX9_append_63 (fun H locs hP hD hS => ?_)
      have hP : va_P D vwCl ((h_t, .inr (9, [.ref h_t_firsts, .ref h_t_seconds, .ref h_t_links, .ref h_t_heads, .ref h_t_stamps, .int t_stamp, .int t_size])) :: (h_t_firsts, .inl (k_t_firsts, 401, .inr (.inl (vp_updL t_firsts t_size.toNatClampNeg l2)))) :: (h_t_seconds, .inl (k_t_seconds, 401, .inr (.inl (vp_updL t_seconds t_size.toNatClampNeg l4)))) :: (h_t_links, .inl (k_t_links, 401, .inl (upd t_links t_size.toNatClampNeg (t_heads l1.toNatClampNeg)))) :: (h_t_heads, .inl (k_t_heads, 512, .inl t_heads)) :: (h_t_stamps, .inl (k_t_stamps, 512, .inl t_stamps)) :: R) H := hP
      have hD : va_D A ((h_t, .inr (9, [.ref h_t_firsts, .ref h_t_seconds, .ref h_t_links, .ref h_t_heads, .ref h_t_stamps, .int t_stamp, .int t_size])) :: (h_t_firsts, .inl (k_t_firsts, 401, .inr (.inl (vp_updL t_firsts t_size.toNatClampNeg l2)))) :: (h_t_seconds, .inl (k_t_seconds, 401, .inr (.inl (vp_updL t_seconds t_size.toNatClampNeg l4)))) :: (h_t_links, .inl (k_t_links, 401, .inl (upd t_links t_size.toNatClampNeg (t_heads l1.toNatClampNeg)))) :: (h_t_heads, .inl (k_t_heads, 512, .inl t_heads)) :: (h_t_stamps, .inl (k_t_stamps, 512, .inl t_stamps)) :: R) := hD
      refine lv_aload_n hx hb dX9_append_64 rfl (lv_at hl 0 rfl) ?_
      refine va_get (D := D) (ci := 9) (v := .ref h_t_heads) (C := RX9) (T := TX9) (N := 7) hx hb ha ix9 hown hK hP 0 rfl rfl 3 (by decide) (ha _ q291) (fun _ h9 => h9) rfl dX9_append_65 ?_
      refine lv_iload_n hx hb dX9_append_68 rfl (lv_at hl 1 rfl) ?_
      refine lv_aload_n hx hb dX9_append_69 rfl (lv_at hl 0 rfl) ?_
      refine va_get (D := D) (ci := 9) (v := .int t_size) (C := RX9) (T := TX9) (N := 7) hx hb ha ix9 hown hK hP 0 rfl rfl 6 (by decide) (ha _ q294) (fun _ h9 => h9) rfl dX9_append_70 ?_
      obtain ⟨i8, h⟩ := ix_ok h
      refine va_iast hx hb hK hP hD hS 4 3 rfl rfl i8 dX9_append_73 (fun H locs hP hD hS => ?_)
      have hP : va_P D vwCl ((h_t, .inr (9, [.ref h_t_firsts, .ref h_t_seconds, .ref h_t_links, .ref h_t_heads, .ref h_t_stamps, .int t_stamp, .int t_size])) :: (h_t_firsts, .inl (k_t_firsts, 401, .inr (.inl (vp_updL t_firsts t_size.toNatClampNeg l2)))) :: (h_t_seconds, .inl (k_t_seconds, 401, .inr (.inl (vp_updL t_seconds t_size.toNatClampNeg l4)))) :: (h_t_links, .inl (k_t_links, 401, .inl (upd t_links t_size.toNatClampNeg (t_heads l1.toNatClampNeg)))) :: (h_t_heads, .inl (k_t_heads, 512, .inl (upd t_heads l1.toNatClampNeg t_size))) :: (h_t_stamps, .inl (k_t_stamps, 512, .inl t_stamps)) :: R) H := hP
      have hD : va_D A ((h_t, .inr (9, [.ref h_t_firsts, .ref h_t_seconds, .ref h_t_links, .ref h_t_heads, .ref h_t_stamps, .int t_stamp, .int t_size])) :: (h_t_firsts, .inl (k_t_firsts, 401, .inr (.inl (vp_updL t_firsts t_size.toNatClampNeg l2)))) :: (h_t_seconds, .inl (k_t_seconds, 401, .inr (.inl (vp_updL t_seconds t_size.toNatClampNeg l4)))) :: (h_t_links, .inl (k_t_links, 401, .inl (upd t_links t_size.toNatClampNeg (t_heads l1.toNatClampNeg)))) :: (h_t_heads, .inl (k_t_heads, 512, .inl (upd t_heads l1.toNatClampNeg t_size))) :: (h_t_stamps, .inl (k_t_stamps, 512, .inl t_stamps)) :: R) := hD
      refine lv_aload_n hx hb dX9_append_74 rfl (lv_at hl 0 rfl) ?_
      refine va_get (D := D) (ci := 9) (v := .ref h_t_stamps) (C := RX9) (T := TX9) (N := 7) hx hb ha ix9 hown hK hP 0 rfl rfl 4 (by decide) (ha _ q292) (fun _ h9 => h9) rfl dX9_append_75 ?_
      refine lv_iload_n hx hb dX9_append_78 rfl (lv_at hl 1 rfl) ?_
      refine lv_aload_n hx hb dX9_append_79 rfl (lv_at hl 0 rfl) ?_
      refine va_get (D := D) (ci := 9) (v := .int t_stamp) (C := RX9) (T := TX9) (N := 7) hx hb ha ix9 hown hK hP 0 rfl rfl 5 (by decide) (ha _ q293) (fun _ h9 => h9) rfl dX9_append_80 ?_
      obtain ⟨i9, h⟩ := ix_ok h
      refine va_iast hx hb hK hP hD hS 5 4 rfl rfl i9 dX9_append_83 (fun H locs hP hD hS => ?_)
      have hP : va_P D vwCl ((h_t, .inr (9, [.ref h_t_firsts, .ref h_t_seconds, .ref h_t_links, .ref h_t_heads, .ref h_t_stamps, .int t_stamp, .int t_size])) :: (h_t_firsts, .inl (k_t_firsts, 401, .inr (.inl (vp_updL t_firsts t_size.toNatClampNeg l2)))) :: (h_t_seconds, .inl (k_t_seconds, 401, .inr (.inl (vp_updL t_seconds t_size.toNatClampNeg l4)))) :: (h_t_links, .inl (k_t_links, 401, .inl (upd t_links t_size.toNatClampNeg (t_heads l1.toNatClampNeg)))) :: (h_t_heads, .inl (k_t_heads, 512, .inl (upd t_heads l1.toNatClampNeg t_size))) :: (h_t_stamps, .inl (k_t_stamps, 512, .inl (upd t_stamps l1.toNatClampNeg t_stamp))) :: R) H := hP
      have hD : va_D A ((h_t, .inr (9, [.ref h_t_firsts, .ref h_t_seconds, .ref h_t_links, .ref h_t_heads, .ref h_t_stamps, .int t_stamp, .int t_size])) :: (h_t_firsts, .inl (k_t_firsts, 401, .inr (.inl (vp_updL t_firsts t_size.toNatClampNeg l2)))) :: (h_t_seconds, .inl (k_t_seconds, 401, .inr (.inl (vp_updL t_seconds t_size.toNatClampNeg l4)))) :: (h_t_links, .inl (k_t_links, 401, .inl (upd t_links t_size.toNatClampNeg (t_heads l1.toNatClampNeg)))) :: (h_t_heads, .inl (k_t_heads, 512, .inl (upd t_heads l1.toNatClampNeg t_size))) :: (h_t_stamps, .inl (k_t_stamps, 512, .inl (upd t_stamps l1.toNatClampNeg t_stamp))) :: R) := hD
      refine lv_aload_n hx hb dX9_append_84 rfl (lv_at hl 0 rfl) ?_
      refine lv_dup hx hb dX9_append_85 rfl ?_
      refine va_get (D := D) (ci := 9) (v := .int t_size) (C := RX9) (T := TX9) (N := 7) hx hb ha ix9 hown hK hP 0 rfl rfl 6 (by decide) (ha _ q294) (fun _ h9 => h9) rfl dX9_append_86 ?_
      refine lv_iconst (v := 1) hx hb dX9_append_89 (by decide) ?_
      refine lv_iadd hx hb dX9_append_90 ?_
      refine va_put (D := D) (ci := 9) (v := .int (t_size + 1)) (ty := .int) (C := RX9) (T := TX9) (N := 7) hx hb ha ix9 tyX9 tyX9_ok nmX9 hown hK hP hD hS 0 rfl rfl 6 (by decide) (ha _ q294) (fun _ h9 => h9) rfl (by decide +kernel) rfl rfl (Nat.le_of_ble_eq_true rfl) dX9_append_91 (fun H locs hP hD hS => ?_)
      have hP : va_P D vwCl ((h_t, .inr (9, [.ref h_t_firsts, .ref h_t_seconds, .ref h_t_links, .ref h_t_heads, .ref h_t_stamps, .int t_stamp, .int (t_size + 1)])) :: (h_t_firsts, .inl (k_t_firsts, 401, .inr (.inl (vp_updL t_firsts t_size.toNatClampNeg l2)))) :: (h_t_seconds, .inl (k_t_seconds, 401, .inr (.inl (vp_updL t_seconds t_size.toNatClampNeg l4)))) :: (h_t_links, .inl (k_t_links, 401, .inl (upd t_links t_size.toNatClampNeg (t_heads l1.toNatClampNeg)))) :: (h_t_heads, .inl (k_t_heads, 512, .inl (upd t_heads l1.toNatClampNeg t_size))) :: (h_t_stamps, .inl (k_t_stamps, 512, .inl (upd t_stamps l1.toNatClampNeg t_stamp))) :: R) H := hP
      have hD : va_D A ((h_t, .inr (9, [.ref h_t_firsts, .ref h_t_seconds, .ref h_t_links, .ref h_t_heads, .ref h_t_stamps, .int t_stamp, .int (t_size + 1)])) :: (h_t_firsts, .inl (k_t_firsts, 401, .inr (.inl (vp_updL t_firsts t_size.toNatClampNeg l2)))) :: (h_t_seconds, .inl (k_t_seconds, 401, .inr (.inl (vp_updL t_seconds t_size.toNatClampNeg l4)))) :: (h_t_links, .inl (k_t_links, 401, .inl (upd t_links t_size.toNatClampNeg (t_heads l1.toNatClampNeg)))) :: (h_t_heads, .inl (k_t_heads, 512, .inl (upd t_heads l1.toNatClampNeg t_size))) :: (h_t_stamps, .inl (k_t_stamps, 512, .inl (upd t_stamps l1.toNatClampNeg t_stamp))) :: R) := hD
      cases h
      exact rt_v S hr hlk hP hD hS dX9_append_94
  · have h := br_neg c1 h
    cases h
    exact rt_v S hr hlk hP hD hS dX9_append_10
noncomputable def f_X9_meet_L55 (l1 : Int64) (l3 : Int64) (t_size : Int32) (t_firsts : Nat → Int64) (t_seconds : Nat → Int64) (t_links : Nat → Int32) : Nat → Int32 → Int32 →  Option (Nat × Int32)
  | 0, _, _ => none
  | n + 1, l8, l9 => (
    if 401 ≤ l9 then (
     some (1, l8)
    ) else (
     if l8 < 0 then (
      some (1, l8)
     ) else (
      if t_size ≤ l8 then (
       some (1, l8)
      ) else (
       gd (ixb l8 401) (
        if (t_firsts l8.toNatClampNeg) = l1 then (
         gd (ixb l8 401) (
          if (t_seconds l8.toNatClampNeg) = l3 then (
           some (0, l8)
          ) else (
           gd (ixb l8 401) (
            f_X9_meet_L55 l1 l3 t_size t_firsts t_seconds t_links n (t_links l8.toNatClampNeg) (l9 + 1)
           )
          )
         )
        ) else (
         gd (ixb l8 401) (
          f_X9_meet_L55 l1 l3 t_size t_firsts t_seconds t_links n (t_links l8.toNatClampNeg) (l9 + 1)
         )
        )
       )
      )
     )
    ))
noncomputable def f_X9_meet (t_stamp : Int32) (t_size : Int32) (t_firsts : Nat → Int64) (t_seconds : Nat → Int64) (t_links : Nat → Int32) (t_heads : Nat → Int32) (t_stamps : Nat → Int32) (l1 : Int64) (l3 : Int64) : Option (Int32 × Int32 × (Nat → Int64) × (Nat → Int64) × (Nat → Int32) × (Nat → Int32) × (Nat → Int32)) :=
  gd (ixb (((((l1 * (-7046029254386353131)) + (l3 * (-4417276706812531889))).toUInt64 >>> ((32 : Int32).toInt64.toUInt64 &&& Int64.toUInt64 63)).toInt64).toInt32 &&& 511) 512) (
   if (t_stamps (((((l1 * (-7046029254386353131)) + (l3 * (-4417276706812531889))).toUInt64 >>> ((32 : Int32).toInt64.toUInt64 &&& Int64.toUInt64 63)).toInt64).toInt32 &&& 511).toNatClampNeg) = t_stamp then (
    gd (ixb (((((l1 * (-7046029254386353131)) + (l3 * (-4417276706812531889))).toUInt64 >>> ((32 : Int32).toInt64.toUInt64 &&& Int64.toUInt64 63)).toInt64).toInt32 &&& 511) 512) (
     bnd2 (f_X9_meet_L55 l1 l3 t_size t_firsts t_seconds t_links FU (t_heads (((((l1 * (-7046029254386353131)) + (l3 * (-4417276706812531889))).toUInt64 >>> ((32 : Int32).toInt64.toUInt64 &&& Int64.toUInt64 63)).toInt64).toInt32 &&& 511).toNatClampNeg) 0) fun tg_L55_12 x8_L55_12 => (
      if tg_L55_12 = 0 then (
       some (x8_L55_12, t_size, t_firsts, t_seconds, t_links, t_heads, t_stamps)
      ) else (
       bnd6 (f_X9_append t_stamp t_size t_firsts t_seconds t_links t_heads t_stamps (((((l1 * (-7046029254386353131)) + (l3 * (-4417276706812531889))).toUInt64 >>> ((32 : Int32).toInt64.toUInt64 &&& Int64.toUInt64 63)).toInt64).toInt32 &&& 511) l1 l3) fun t_size_c124_13 t_firsts_c124_13 t_seconds_c124_13 t_links_c124_13 t_heads_c124_13 t_stamps_c124_13 => (
        some ((-1), t_size_c124_13, t_firsts_c124_13, t_seconds_c124_13, t_links_c124_13, t_heads_c124_13, t_stamps_c124_13)
       )
      )
     )
    )
   ) else (
    bnd2 (f_X9_meet_L55 l1 l3 t_size t_firsts t_seconds t_links FU (-1) 0) fun tg_L55_14 x8_L55_14 => (
     if tg_L55_14 = 0 then (
      some (x8_L55_14, t_size, t_firsts, t_seconds, t_links, t_heads, t_stamps)
     ) else (
      bnd6 (f_X9_append t_stamp t_size t_firsts t_seconds t_links t_heads t_stamps (((((l1 * (-7046029254386353131)) + (l3 * (-4417276706812531889))).toUInt64 >>> ((32 : Int32).toInt64.toUInt64 &&& Int64.toUInt64 63)).toInt64).toInt32 &&& 511) l1 l3) fun t_size_c124_15 t_firsts_c124_15 t_seconds_c124_15 t_links_c124_15 t_heads_c124_15 t_stamps_c124_15 => (
       some ((-1), t_size_c124_15, t_firsts_c124_15, t_seconds_c124_15, t_links_c124_15, t_heads_c124_15, t_stamps_c124_15)
      )
     )
    )
   )
  )
set_option maxHeartbeats 4000000 in
set_option maxRecDepth 100000 in
theorem c_X9_meet (l : Launch) (D : va_G) (R : va_W) (h_t : Nat) (t_stamp : Int32) (t_size : Int32) (h_t_firsts : Nat) (k_t_firsts : ClassId) (t_firsts : Nat → Int64) (h_t_seconds : Nat) (k_t_seconds : ClassId) (t_seconds : Nat → Int64) (h_t_links : Nat) (k_t_links : ClassId) (t_links : Nat → Int32) (h_t_heads : Nat) (k_t_heads : ClassId) (t_heads : Nat → Int32) (h_t_stamps : Nat) (k_t_stamps : ClassId) (t_stamps : Nat → Int32) (l1 : Int64) (l3 : Int64) (r : Int32) (o_t_size : Int32) (o_t_firsts : Nat → Int64) (o_t_seconds : Nat → Int64) (o_t_links : Nat → Int32) (o_t_heads : Nat → Int32) (o_t_stamps : Nat → Int32)  (h : f_X9_meet t_stamp t_size t_firsts t_seconds t_links t_heads t_stamps l1 l3 = some (r, o_t_size, o_t_firsts, o_t_seconds, o_t_links, o_t_heads, o_t_stamps)) (sz : Nat) : Met l yX9_meet (WD yX9_meet cX9_meet 10 (some .int)) ({ frames := 1, cells := 0, slots := 0, locals := 25 }) (va_Pc [.ref h_t, .long l1, .long l3] (PcW D [(k_t_firsts, .long), (k_t_seconds, .long), (k_t_links, .int), (k_t_heads, .int), (k_t_stamps, .int)] ((h_t, .inr (9, [.ref h_t_firsts, .ref h_t_seconds, .ref h_t_links, .ref h_t_heads, .ref h_t_stamps, .int t_stamp, .int t_size])) :: (h_t_firsts, .inl (k_t_firsts, 401, .inr (.inl t_firsts))) :: (h_t_seconds, .inl (k_t_seconds, 401, .inr (.inl t_seconds))) :: (h_t_links, .inl (k_t_links, 401, .inl t_links)) :: (h_t_heads, .inl (k_t_heads, 512, .inl t_heads)) :: (h_t_stamps, .inl (k_t_stamps, 512, .inl t_stamps)) :: R) sz)) (QI D r ((h_t, .inr (9, [.ref h_t_firsts, .ref h_t_seconds, .ref h_t_links, .ref h_t_heads, .ref h_t_stamps, .int t_stamp, .int o_t_size])) :: (h_t_firsts, .inl (k_t_firsts, 401, .inr (.inl o_t_firsts))) :: (h_t_seconds, .inl (k_t_seconds, 401, .inr (.inl o_t_seconds))) :: (h_t_links, .inl (k_t_links, 401, .inl o_t_links)) :: (h_t_heads, .inl (k_t_heads, 512, .inl o_t_heads)) :: (h_t_stamps, .inl (k_t_stamps, 512, .inl o_t_stamps)) :: R) (va_A ((h_t, .inr (9, [.ref h_t_firsts, .ref h_t_seconds, .ref h_t_links, .ref h_t_heads, .ref h_t_stamps, .int t_stamp, .int t_size])) :: (h_t_firsts, .inl (k_t_firsts, 401, .inr (.inl t_firsts))) :: (h_t_seconds, .inl (k_t_seconds, 401, .inr (.inl t_seconds))) :: (h_t_links, .inl (k_t_links, 401, .inl t_links)) :: (h_t_heads, .inl (k_t_heads, 512, .inl t_heads)) :: (h_t_stamps, .inl (k_t_stamps, 512, .inl t_stamps)) :: R) sz)) 0 0 (va_A ((h_t, .inr (9, [.ref h_t_firsts, .ref h_t_seconds, .ref h_t_links, .ref h_t_heads, .ref h_t_stamps, .int t_stamp, .int t_size])) :: (h_t_firsts, .inl (k_t_firsts, 401, .inr (.inl t_firsts))) :: (h_t_seconds, .inl (k_t_seconds, 401, .inr (.inl t_seconds))) :: (h_t_links, .inl (k_t_links, 401, .inl t_links)) :: (h_t_heads, .inl (k_t_heads, 512, .inl t_heads)) :: (h_t_stamps, .inl (k_t_stamps, 512, .inl t_stamps)) :: R) sz) := by
  refine ct_start (QF := fun A => QI D r ((h_t, .inr (9, [.ref h_t_firsts, .ref h_t_seconds, .ref h_t_links, .ref h_t_heads, .ref h_t_stamps, .int t_stamp, .int o_t_size])) :: (h_t_firsts, .inl (k_t_firsts, 401, .inr (.inl o_t_firsts))) :: (h_t_seconds, .inl (k_t_seconds, 401, .inr (.inl o_t_seconds))) :: (h_t_links, .inl (k_t_links, 401, .inl o_t_links)) :: (h_t_heads, .inl (k_t_heads, 512, .inl o_t_heads)) :: (h_t_stamps, .inl (k_t_stamps, 512, .inl o_t_stamps)) :: R) A) ?_ ?_ ?_
  · decide +kernel
  · exact Nat.le_of_ble_eq_true rfl
  intro p e s m args below meth c A ls S hr hlk hnm hS hA hP hD hK hN hl
  have S : CallFix p m c cX9_meet 10 s args AL "DigitBench$Trail" := S
  have hx := S.1
  have hb := S.2.1
  have hown := S.2.2.2.1
  have ha := S.2.2.2.2
  have hl : lv_has ls 10 [(0, .ref h_t), (1, .long l1), (3, .long l3)] := hl
  have L55 : ∀ (Q : State → Prop) (n : Nat) (l1 : Int64) (l3 : Int64) (l7 : Int32) (l8 : Int32) (l9 : Int32) (t_size : Int32) (t_firsts : Nat → Int64) (t_seconds : Nat → Int64) (t_links : Nat → Int32) (t_heads : Nat → Int32) (t_stamps : Nat → Int32) (tg : Nat) (x8 : Int32), f_X9_meet_L55 l1 l3 t_size t_firsts t_seconds t_links n l8 l9 = some (tg, x8) → ∀ (H : Heap) (locs : List Loc) (ls : Array Slot), va_P D vwCl ((h_t, .inr (9, [.ref h_t_firsts, .ref h_t_seconds, .ref h_t_links, .ref h_t_heads, .ref h_t_stamps, .int t_stamp, .int t_size])) :: (h_t_firsts, .inl (k_t_firsts, 401, .inr (.inl t_firsts))) :: (h_t_seconds, .inl (k_t_seconds, 401, .inr (.inl t_seconds))) :: (h_t_links, .inl (k_t_links, 401, .inl t_links)) :: (h_t_heads, .inl (k_t_heads, 512, .inl t_heads)) :: (h_t_stamps, .inl (k_t_stamps, 512, .inl t_stamps)) :: R) H → va_D A ((h_t, .inr (9, [.ref h_t_firsts, .ref h_t_seconds, .ref h_t_links, .ref h_t_heads, .ref h_t_stamps, .int t_stamp, .int t_size])) :: (h_t_firsts, .inl (k_t_firsts, 401, .inr (.inl t_firsts))) :: (h_t_seconds, .inl (k_t_seconds, 401, .inr (.inl t_seconds))) :: (h_t_links, .inl (k_t_links, 401, .inl t_links)) :: (h_t_heads, .inl (k_t_heads, 512, .inl t_heads)) :: (h_t_stamps, .inl (k_t_stamps, 512, .inl t_stamps)) :: R) → va_S A s.heap H locs → lv_has ls 10 [(0, .ref h_t), (1, .long l1), (3, .long l3), (7, .int l7), (8, .int l8), (9, .int l9)] → (tg = 0 → ∀ (H : Heap) (locs : List Loc) (ls : Array Slot), va_P D vwCl ((h_t, .inr (9, [.ref h_t_firsts, .ref h_t_seconds, .ref h_t_links, .ref h_t_heads, .ref h_t_stamps, .int t_stamp, .int t_size])) :: (h_t_firsts, .inl (k_t_firsts, 401, .inr (.inl t_firsts))) :: (h_t_seconds, .inl (k_t_seconds, 401, .inr (.inl t_seconds))) :: (h_t_links, .inl (k_t_links, 401, .inl t_links)) :: (h_t_heads, .inl (k_t_heads, 512, .inl t_heads)) :: (h_t_stamps, .inl (k_t_stamps, 512, .inl t_stamps)) :: R) H → va_D A ((h_t, .inr (9, [.ref h_t_firsts, .ref h_t_seconds, .ref h_t_links, .ref h_t_heads, .ref h_t_stamps, .int t_stamp, .int t_size])) :: (h_t_firsts, .inl (k_t_firsts, 401, .inr (.inl t_firsts))) :: (h_t_seconds, .inl (k_t_seconds, 401, .inr (.inl t_seconds))) :: (h_t_links, .inl (k_t_links, 401, .inl t_links)) :: (h_t_heads, .inl (k_t_heads, 512, .inl t_heads)) :: (h_t_stamps, .inl (k_t_stamps, 512, .inl t_stamps)) :: R) → va_S A s.heap H locs → lv_has ls 10 [(8, .int x8)] → W p l e { frames := 1, cells := 0, slots := 0, locals := 25 } s m args below meth c H locs 0 0 Q (F0 m 101 ls [])) → (tg = 1 → ∀ (H : Heap) (locs : List Loc) (ls : Array Slot), va_P D vwCl ((h_t, .inr (9, [.ref h_t_firsts, .ref h_t_seconds, .ref h_t_links, .ref h_t_heads, .ref h_t_stamps, .int t_stamp, .int t_size])) :: (h_t_firsts, .inl (k_t_firsts, 401, .inr (.inl t_firsts))) :: (h_t_seconds, .inl (k_t_seconds, 401, .inr (.inl t_seconds))) :: (h_t_links, .inl (k_t_links, 401, .inl t_links)) :: (h_t_heads, .inl (k_t_heads, 512, .inl t_heads)) :: (h_t_stamps, .inl (k_t_stamps, 512, .inl t_stamps)) :: R) H → va_D A ((h_t, .inr (9, [.ref h_t_firsts, .ref h_t_seconds, .ref h_t_links, .ref h_t_heads, .ref h_t_stamps, .int t_stamp, .int t_size])) :: (h_t_firsts, .inl (k_t_firsts, 401, .inr (.inl t_firsts))) :: (h_t_seconds, .inl (k_t_seconds, 401, .inr (.inl t_seconds))) :: (h_t_links, .inl (k_t_links, 401, .inl t_links)) :: (h_t_heads, .inl (k_t_heads, 512, .inl t_heads)) :: (h_t_stamps, .inl (k_t_stamps, 512, .inl t_stamps)) :: R) → va_S A s.heap H locs → lv_has ls 10 [(0, .ref h_t), (1, .long l1), (3, .long l3), (7, .int l7)] → W p l e { frames := 1, cells := 0, slots := 0, locals := 25 } s m args below meth c H locs 0 0 Q (F0 m 119 ls [])) → W p l e { frames := 1, cells := 0, slots := 0, locals := 25 } s m args below meth c H locs 0 0 Q (F0 m 55 ls []) := by
    intro Q n
    induction n with
    | zero =>
      intro l1 l3 l7 l8 l9 t_size t_firsts t_seconds t_links t_heads t_stamps tg x8 h
      rw [f_X9_meet_L55] at h; cases h
    | succ n ih =>
      intro l1 l3 l7 l8 l9 t_size t_firsts t_seconds t_links t_heads t_stamps tg x8 h H locs ls hP hD hS hl kk0 kk1
      rw [f_X9_meet_L55] at h
      refine lv_iload hx hb dX9_meet_55 (lv_at hl 5 rfl) ?_
      refine lv_sipush (v := 401) hx hb dX9_meet_57 (by decide) ?_
      refine lv_icmp_ge (tgt := 119) hx hb dX9_meet_60 (by decide) (fun c4 => ?_) (fun c4 => ?_)
      · have h := br_pos c4 h
        cases h
        exact kk1 rfl _ _ _ hP hD hS (lv_sub hl [0, 1, 2, 3] rfl)
      · have h := br_neg c4 h
        refine lv_iload hx hb dX9_meet_63 (lv_at hl 4 rfl) ?_
        refine lv_if_lt (tgt := 119) hx hb dX9_meet_65 (by decide) (fun c5 => ?_) (fun c5 => ?_)
        · have h := br_pos c5 h
          cases h
          exact kk1 rfl _ _ _ hP hD hS (lv_sub hl [0, 1, 2, 3] rfl)
        · have h := br_neg c5 h
          refine lv_iload hx hb dX9_meet_68 (lv_at hl 4 rfl) ?_
          refine lv_aload_n hx hb dX9_meet_70 rfl (lv_at hl 0 rfl) ?_
          refine va_get (D := D) (ci := 9) (v := .int t_size) (C := RX9) (T := TX9) (N := 7) hx hb ha ix9 hown hK hP 0 rfl rfl 6 (by decide) (ha _ q294) (fun _ h9 => h9) rfl dX9_meet_71 ?_
          refine lv_icmp_ge (tgt := 119) hx hb dX9_meet_74 (by decide) (fun c6 => ?_) (fun c6 => ?_)
          · have h := br_pos c6 h
            cases h
            exact kk1 rfl _ _ _ hP hD hS (lv_sub hl [0, 1, 2, 3] rfl)
          · have h := br_neg c6 h
            refine lv_aload_n hx hb dX9_meet_77 rfl (lv_at hl 0 rfl) ?_
            refine va_get (D := D) (ci := 9) (v := .ref h_t_firsts) (C := RX9) (T := TX9) (N := 7) hx hb ha ix9 hown hK hP 0 rfl rfl 0 (by decide) (ha _ q288) (fun _ h9 => h9) rfl dX9_meet_78 ?_
            refine lv_iload hx hb dX9_meet_81 (lv_at hl 4 rfl) ?_
            obtain ⟨i7, h⟩ := ix_ok h
            refine va_lald hx hb hK hP 1 0 rfl rfl i7 dX9_meet_83 ?_
            refine lv_lload_n hx hb dX9_meet_84 rfl (lv_at hl 1 rfl) ?_
            refine xl_ne (tgt := 104) hx hb dX9_meet_85 dX9_meet_86 (by decide) (fun c8 => ?_) (fun c8 => ?_)
            · have h := br_neg c8 h
              refine lv_aload_n hx hb dX9_meet_104 rfl (lv_at hl 0 rfl) ?_
              refine va_get (D := D) (ci := 9) (v := .ref h_t_links) (C := RX9) (T := TX9) (N := 7) hx hb ha ix9 hown hK hP 0 rfl rfl 2 (by decide) (ha _ q290) (fun _ h9 => h9) rfl dX9_meet_105 ?_
              refine lv_iload hx hb dX9_meet_108 (lv_at hl 4 rfl) ?_
              obtain ⟨i12, h⟩ := ix_ok h
              refine va_iald hx hb hK hP 3 2 rfl rfl i12 dX9_meet_110 ?_
              refine lv_istore (lv' := [(8, .int (t_links l8.toNatClampNeg)), (0, .ref h_t), (1, .long l1), (3, .long l3), (7, .int l7), (9, .int l9)]) hx hb dX9_meet_111 hl (by decide) rfl (fun ls hl => ?_)
              refine lv_iinc (v := (l9 + 1)) (lv' := [(9, .int (l9 + 1)), (8, .int (t_links l8.toNatClampNeg)), (0, .ref h_t), (1, .long l1), (3, .long l3), (7, .int l7)]) hx hb dX9_meet_113 hl (k := 5) rfl rfl (by decide) rfl (fun ls hl => ?_)
              refine lv_goto (tgt := 55) hx hb dX9_meet_116 (by decide) ?_
              exact ih l1 l3 l7 (t_links l8.toNatClampNeg) (l9 + 1) t_size t_firsts t_seconds t_links t_heads t_stamps _ _ h _ _ _ hP hD hS (lv_sub hl [2, 3, 4, 5, 1, 0] rfl) kk0 kk1
            · have h := br_pos c8 h
              refine lv_aload_n hx hb dX9_meet_89 rfl (lv_at hl 0 rfl) ?_
              refine va_get (D := D) (ci := 9) (v := .ref h_t_seconds) (C := RX9) (T := TX9) (N := 7) hx hb ha ix9 hown hK hP 0 rfl rfl 1 (by decide) (ha _ q289) (fun _ h9 => h9) rfl dX9_meet_90 ?_
              refine lv_iload hx hb dX9_meet_93 (lv_at hl 4 rfl) ?_
              obtain ⟨i9, h⟩ := ix_ok h
              refine va_lald hx hb hK hP 2 1 rfl rfl i9 dX9_meet_95 ?_
              refine lv_lload_n hx hb dX9_meet_96 rfl (lv_at hl 2 rfl) ?_
              refine xl_ne (tgt := 104) hx hb dX9_meet_97 dX9_meet_98 (by decide) (fun c10 => ?_) (fun c10 => ?_)
              · have h := br_neg c10 h
                refine lv_aload_n hx hb dX9_meet_104 rfl (lv_at hl 0 rfl) ?_
                refine va_get (D := D) (ci := 9) (v := .ref h_t_links) (C := RX9) (T := TX9) (N := 7) hx hb ha ix9 hown hK hP 0 rfl rfl 2 (by decide) (ha _ q290) (fun _ h9 => h9) rfl dX9_meet_105 ?_
                refine lv_iload hx hb dX9_meet_108 (lv_at hl 4 rfl) ?_
                obtain ⟨i11, h⟩ := ix_ok h
                refine va_iald hx hb hK hP 3 2 rfl rfl i11 dX9_meet_110 ?_
                refine lv_istore (lv' := [(8, .int (t_links l8.toNatClampNeg)), (0, .ref h_t), (1, .long l1), (3, .long l3), (7, .int l7), (9, .int l9)]) hx hb dX9_meet_111 hl (by decide) rfl (fun ls hl => ?_)
                refine lv_iinc (v := (l9 + 1)) (lv' := [(9, .int (l9 + 1)), (8, .int (t_links l8.toNatClampNeg)), (0, .ref h_t), (1, .long l1), (3, .long l3), (7, .int l7)]) hx hb dX9_meet_113 hl (k := 5) rfl rfl (by decide) rfl (fun ls hl => ?_)
                refine lv_goto (tgt := 55) hx hb dX9_meet_116 (by decide) ?_
                exact ih l1 l3 l7 (t_links l8.toNatClampNeg) (l9 + 1) t_size t_firsts t_seconds t_links t_heads t_stamps _ _ h _ _ _ hP hD hS (lv_sub hl [2, 3, 4, 5, 1, 0] rfl) kk0 kk1
              · have h := br_pos c10 h
                cases h
                exact kk0 rfl _ _ _ hP hD hS (lv_sub hl [4] rfl)
  unfold f_X9_meet at h
  refine lv_lload_n hx hb dX9_meet_0 rfl (lv_at hl 1 rfl) ?_
  refine lv_ldc2 (v := (-7046029254386353131)) hx hb hown (ha _ q606) dX9_meet_1 ?_
  refine lv_lmul hx hb dX9_meet_4 ?_
  refine lv_lload_n hx hb dX9_meet_5 rfl (lv_at hl 2 rfl) ?_
  refine lv_ldc2 (v := (-4417276706812531889)) hx hb hown (ha _ q607) dX9_meet_6 ?_
  refine lv_lmul hx hb dX9_meet_9 ?_
  refine lv_ladd hx hb dX9_meet_10 ?_
  refine lv_lstore (lv' := [(5, .long ((l1 * (-7046029254386353131)) + (l3 * (-4417276706812531889)))), (0, .ref h_t), (1, .long l1), (3, .long l3)]) hx hb dX9_meet_11 hl (by decide) rfl (fun ls hl => ?_)
  refine lv_lload hx hb dX9_meet_13 (lv_at hl 0 rfl) ?_
  refine lv_bipush (v := 32) hx hb dX9_meet_15 (by decide) ?_
  refine lv_lushr (v := (((l1 * (-7046029254386353131)) + (l3 * (-4417276706812531889))).toUInt64 >>> ((32 : Int32).toInt64.toUInt64 &&& Int64.toUInt64 63)).toInt64) hx hb dX9_meet_17 rfl ?_
  refine lv_l2i (v := ((((l1 * (-7046029254386353131)) + (l3 * (-4417276706812531889))).toUInt64 >>> ((32 : Int32).toInt64.toUInt64 &&& Int64.toUInt64 63)).toInt64).toInt32) hx hb dX9_meet_18 rfl ?_
  refine lv_sipush (v := 511) hx hb dX9_meet_19 (by decide) ?_
  refine lv_iand hx hb dX9_meet_22 ?_
  refine lv_istore (lv' := [(7, .int (((((l1 * (-7046029254386353131)) + (l3 * (-4417276706812531889))).toUInt64 >>> ((32 : Int32).toInt64.toUInt64 &&& Int64.toUInt64 63)).toInt64).toInt32 &&& 511)), (5, .long ((l1 * (-7046029254386353131)) + (l3 * (-4417276706812531889)))), (0, .ref h_t), (1, .long l1), (3, .long l3)]) hx hb dX9_meet_23 hl (by decide) rfl (fun ls hl => ?_)
  refine lv_aload_n hx hb dX9_meet_25 rfl (lv_at hl 2 rfl) ?_
  refine va_get (D := D) (ci := 9) (v := .ref h_t_stamps) (C := RX9) (T := TX9) (N := 7) hx hb ha ix9 hown hK hP 0 rfl rfl 4 (by decide) (ha _ q292) (fun _ h9 => h9) rfl dX9_meet_26 ?_
  refine lv_iload hx hb dX9_meet_29 (lv_at hl 0 rfl) ?_
  obtain ⟨i1, h⟩ := ix_ok h
  refine va_iald hx hb hK hP 5 4 rfl rfl i1 dX9_meet_31 ?_
  refine lv_aload_n hx hb dX9_meet_32 rfl (lv_at hl 2 rfl) ?_
  refine va_get (D := D) (ci := 9) (v := .int t_stamp) (C := RX9) (T := TX9) (N := 7) hx hb ha ix9 hown hK hP 0 rfl rfl 5 (by decide) (ha _ q293) (fun _ h9 => h9) rfl dX9_meet_33 ?_
  refine lv_icmp_ne (tgt := 49) hx hb dX9_meet_36 (by decide) (fun c2 => ?_) (fun c2 => ?_)
  · have h := br_neg c2 h
    refine lv_iconst (v := (-1)) hx hb dX9_meet_49 (by decide) ?_
    refine lv_istore (lv' := [(8, .int (-1)), (7, .int (((((l1 * (-7046029254386353131)) + (l3 * (-4417276706812531889))).toUInt64 >>> ((32 : Int32).toInt64.toUInt64 &&& Int64.toUInt64 63)).toInt64).toInt32 &&& 511)), (5, .long ((l1 * (-7046029254386353131)) + (l3 * (-4417276706812531889)))), (0, .ref h_t), (1, .long l1), (3, .long l3)]) hx hb dX9_meet_50 hl (by decide) rfl (fun ls hl => ?_)
    refine lv_iconst (v := 0) hx hb dX9_meet_52 (by decide) ?_
    refine lv_istore (lv' := [(9, .int 0), (8, .int (-1)), (7, .int (((((l1 * (-7046029254386353131)) + (l3 * (-4417276706812531889))).toUInt64 >>> ((32 : Int32).toInt64.toUInt64 &&& Int64.toUInt64 63)).toInt64).toInt32 &&& 511)), (5, .long ((l1 * (-7046029254386353131)) + (l3 * (-4417276706812531889)))), (0, .ref h_t), (1, .long l1), (3, .long l3)]) hx hb dX9_meet_53 hl (by decide) rfl (fun ls hl => ?_)
    obtain ⟨tg_L55_14, x8_L55_14, e_L55_14, h⟩ := bnd2_ok h
    refine L55 _ _ l1 l3 (((((l1 * (-7046029254386353131)) + (l3 * (-4417276706812531889))).toUInt64 >>> ((32 : Int32).toInt64.toUInt64 &&& Int64.toUInt64 63)).toInt64).toInt32 &&& 511) (-1) 0 t_size t_firsts t_seconds t_links t_heads t_stamps tg_L55_14 x8_L55_14 e_L55_14 _ _ _ hP hD hS (lv_sub hl [4, 5, 6, 2, 1, 0] rfl) ?_ ?_
    · intro q9 H locs ls hP hD hS hl
      have h := br_pos q9 h
      refine lv_iload hx hb dX9_meet_101 (lv_at hl 0 rfl) ?_
      cases h
      exact rt_i S hr hlk hP hD hS dX9_meet_103
    · intro q9 H locs ls hP hD hS hl
      have h := br_neg (by rw [q9]; decide) h
      refine lv_aload_n hx hb dX9_meet_119 rfl (lv_at hl 0 rfl) ?_
      refine lv_iload hx hb dX9_meet_120 (lv_at hl 3 rfl) ?_
      refine lv_lload_n hx hb dX9_meet_122 rfl (lv_at hl 1 rfl) ?_
      refine lv_lload_n hx hb dX9_meet_123 rfl (lv_at hl 2 rfl) ?_
      obtain ⟨t_size_c124_15, t_firsts_c124_15, t_seconds_c124_15, t_links_c124_15, t_heads_c124_15, t_stamps_c124_15, e_c124_15, h⟩ := bnd6_ok h
      refine cl_v (rn_v (ci := 9) (As := [.int (((((l1 * (-7046029254386353131)) + (l3 * (-4417276706812531889))).toUInt64 >>> ((32 : Int32).toInt64.toUInt64 &&& Int64.toUInt64 63)).toInt64).toInt32 &&& 511), .long l1, .long l3]) (rest := []) S (c_X9_append l D (R) h_t t_stamp t_size h_t_firsts k_t_firsts t_firsts h_t_seconds k_t_seconds t_seconds h_t_links k_t_links t_links h_t_heads k_t_heads t_heads h_t_stamps k_t_stamps t_stamps (((((l1 * (-7046029254386353131)) + (l3 * (-4417276706812531889))).toUInt64 >>> ((32 : Int32).toInt64.toUInt64 &&& Int64.toUInt64 63)).toInt64).toInt32 &&& 511) l1 l3 t_size_c124_15 t_firsts_c124_15 t_seconds_c124_15 t_links_c124_15 t_heads_c124_15 t_stamps_c124_15 e_c124_15 _) q608 q610 q12 q56 q611 nd_X9_append ⟨Nat.le_of_ble_eq_true rfl, Nat.le_of_ble_eq_true rfl⟩ rfl rfl hP hD (hK.sub (tys' := [(k_t_firsts, .long), (k_t_seconds, .long), (k_t_links, .int), (k_t_heads, .int), (k_t_stamps, .int)]) [0, 1, 2, 3, 4] rfl) hN rfl ⟨0, _, rfl⟩ rfl hl.1 rfl (Nat.le_of_ble_eq_true rfl) dX9_meet_124 ⟨Nat.le_of_ble_eq_true rfl, Nat.le_of_ble_eq_true rfl⟩) hS hA hD (fun H locs hP hD hS => ?_)
      have hP : va_P D vwCl ((h_t, .inr (9, [.ref h_t_firsts, .ref h_t_seconds, .ref h_t_links, .ref h_t_heads, .ref h_t_stamps, .int t_stamp, .int t_size_c124_15])) :: (h_t_firsts, .inl (k_t_firsts, 401, .inr (.inl t_firsts_c124_15))) :: (h_t_seconds, .inl (k_t_seconds, 401, .inr (.inl t_seconds_c124_15))) :: (h_t_links, .inl (k_t_links, 401, .inl t_links_c124_15)) :: (h_t_heads, .inl (k_t_heads, 512, .inl t_heads_c124_15)) :: (h_t_stamps, .inl (k_t_stamps, 512, .inl t_stamps_c124_15)) :: R) H := hP
      have hD : va_D A ((h_t, .inr (9, [.ref h_t_firsts, .ref h_t_seconds, .ref h_t_links, .ref h_t_heads, .ref h_t_stamps, .int t_stamp, .int t_size_c124_15])) :: (h_t_firsts, .inl (k_t_firsts, 401, .inr (.inl t_firsts_c124_15))) :: (h_t_seconds, .inl (k_t_seconds, 401, .inr (.inl t_seconds_c124_15))) :: (h_t_links, .inl (k_t_links, 401, .inl t_links_c124_15)) :: (h_t_heads, .inl (k_t_heads, 512, .inl t_heads_c124_15)) :: (h_t_stamps, .inl (k_t_stamps, 512, .inl t_stamps_c124_15)) :: R) := hD
      refine lv_iconst (v := (-1)) hx hb dX9_meet_127 (by decide) ?_
      cases h
      exact rt_i S hr hlk hP hD hS dX9_meet_128
  · have h := br_pos c2 h
    refine lv_aload_n hx hb dX9_meet_39 rfl (lv_at hl 2 rfl) ?_
    refine va_get (D := D) (ci := 9) (v := .ref h_t_heads) (C := RX9) (T := TX9) (N := 7) hx hb ha ix9 hown hK hP 0 rfl rfl 3 (by decide) (ha _ q291) (fun _ h9 => h9) rfl dX9_meet_40 ?_
    refine lv_iload hx hb dX9_meet_43 (lv_at hl 0 rfl) ?_
    obtain ⟨i3, h⟩ := ix_ok h
    refine va_iald hx hb hK hP 4 3 rfl rfl i3 dX9_meet_45 ?_
    refine lv_goto (tgt := 50) hx hb dX9_meet_46 (by decide) ?_
    refine lv_istore (lv' := [(8, .int (t_heads (((((l1 * (-7046029254386353131)) + (l3 * (-4417276706812531889))).toUInt64 >>> ((32 : Int32).toInt64.toUInt64 &&& Int64.toUInt64 63)).toInt64).toInt32 &&& 511).toNatClampNeg)), (7, .int (((((l1 * (-7046029254386353131)) + (l3 * (-4417276706812531889))).toUInt64 >>> ((32 : Int32).toInt64.toUInt64 &&& Int64.toUInt64 63)).toInt64).toInt32 &&& 511)), (5, .long ((l1 * (-7046029254386353131)) + (l3 * (-4417276706812531889)))), (0, .ref h_t), (1, .long l1), (3, .long l3)]) hx hb dX9_meet_50 hl (by decide) rfl (fun ls hl => ?_)
    refine lv_iconst (v := 0) hx hb dX9_meet_52 (by decide) ?_
    refine lv_istore (lv' := [(9, .int 0), (8, .int (t_heads (((((l1 * (-7046029254386353131)) + (l3 * (-4417276706812531889))).toUInt64 >>> ((32 : Int32).toInt64.toUInt64 &&& Int64.toUInt64 63)).toInt64).toInt32 &&& 511).toNatClampNeg)), (7, .int (((((l1 * (-7046029254386353131)) + (l3 * (-4417276706812531889))).toUInt64 >>> ((32 : Int32).toInt64.toUInt64 &&& Int64.toUInt64 63)).toInt64).toInt32 &&& 511)), (5, .long ((l1 * (-7046029254386353131)) + (l3 * (-4417276706812531889)))), (0, .ref h_t), (1, .long l1), (3, .long l3)]) hx hb dX9_meet_53 hl (by decide) rfl (fun ls hl => ?_)
    obtain ⟨tg_L55_12, x8_L55_12, e_L55_12, h⟩ := bnd2_ok h
    refine L55 _ _ l1 l3 (((((l1 * (-7046029254386353131)) + (l3 * (-4417276706812531889))).toUInt64 >>> ((32 : Int32).toInt64.toUInt64 &&& Int64.toUInt64 63)).toInt64).toInt32 &&& 511) (t_heads (((((l1 * (-7046029254386353131)) + (l3 * (-4417276706812531889))).toUInt64 >>> ((32 : Int32).toInt64.toUInt64 &&& Int64.toUInt64 63)).toInt64).toInt32 &&& 511).toNatClampNeg) 0 t_size t_firsts t_seconds t_links t_heads t_stamps tg_L55_12 x8_L55_12 e_L55_12 _ _ _ hP hD hS (lv_sub hl [4, 5, 6, 2, 1, 0] rfl) ?_ ?_
    · intro q9 H locs ls hP hD hS hl
      have h := br_pos q9 h
      refine lv_iload hx hb dX9_meet_101 (lv_at hl 0 rfl) ?_
      cases h
      exact rt_i S hr hlk hP hD hS dX9_meet_103
    · intro q9 H locs ls hP hD hS hl
      have h := br_neg (by rw [q9]; decide) h
      refine lv_aload_n hx hb dX9_meet_119 rfl (lv_at hl 0 rfl) ?_
      refine lv_iload hx hb dX9_meet_120 (lv_at hl 3 rfl) ?_
      refine lv_lload_n hx hb dX9_meet_122 rfl (lv_at hl 1 rfl) ?_
      refine lv_lload_n hx hb dX9_meet_123 rfl (lv_at hl 2 rfl) ?_
      obtain ⟨t_size_c124_13, t_firsts_c124_13, t_seconds_c124_13, t_links_c124_13, t_heads_c124_13, t_stamps_c124_13, e_c124_13, h⟩ := bnd6_ok h
      refine cl_v (rn_v (ci := 9) (As := [.int (((((l1 * (-7046029254386353131)) + (l3 * (-4417276706812531889))).toUInt64 >>> ((32 : Int32).toInt64.toUInt64 &&& Int64.toUInt64 63)).toInt64).toInt32 &&& 511), .long l1, .long l3]) (rest := []) S (c_X9_append l D (R) h_t t_stamp t_size h_t_firsts k_t_firsts t_firsts h_t_seconds k_t_seconds t_seconds h_t_links k_t_links t_links h_t_heads k_t_heads t_heads h_t_stamps k_t_stamps t_stamps (((((l1 * (-7046029254386353131)) + (l3 * (-4417276706812531889))).toUInt64 >>> ((32 : Int32).toInt64.toUInt64 &&& Int64.toUInt64 63)).toInt64).toInt32 &&& 511) l1 l3 t_size_c124_13 t_firsts_c124_13 t_seconds_c124_13 t_links_c124_13 t_heads_c124_13 t_stamps_c124_13 e_c124_13 _) q608 q610 q12 q56 q611 nd_X9_append ⟨Nat.le_of_ble_eq_true rfl, Nat.le_of_ble_eq_true rfl⟩ rfl rfl hP hD (hK.sub (tys' := [(k_t_firsts, .long), (k_t_seconds, .long), (k_t_links, .int), (k_t_heads, .int), (k_t_stamps, .int)]) [0, 1, 2, 3, 4] rfl) hN rfl ⟨0, _, rfl⟩ rfl hl.1 rfl (Nat.le_of_ble_eq_true rfl) dX9_meet_124 ⟨Nat.le_of_ble_eq_true rfl, Nat.le_of_ble_eq_true rfl⟩) hS hA hD (fun H locs hP hD hS => ?_)
      have hP : va_P D vwCl ((h_t, .inr (9, [.ref h_t_firsts, .ref h_t_seconds, .ref h_t_links, .ref h_t_heads, .ref h_t_stamps, .int t_stamp, .int t_size_c124_13])) :: (h_t_firsts, .inl (k_t_firsts, 401, .inr (.inl t_firsts_c124_13))) :: (h_t_seconds, .inl (k_t_seconds, 401, .inr (.inl t_seconds_c124_13))) :: (h_t_links, .inl (k_t_links, 401, .inl t_links_c124_13)) :: (h_t_heads, .inl (k_t_heads, 512, .inl t_heads_c124_13)) :: (h_t_stamps, .inl (k_t_stamps, 512, .inl t_stamps_c124_13)) :: R) H := hP
      have hD : va_D A ((h_t, .inr (9, [.ref h_t_firsts, .ref h_t_seconds, .ref h_t_links, .ref h_t_heads, .ref h_t_stamps, .int t_stamp, .int t_size_c124_13])) :: (h_t_firsts, .inl (k_t_firsts, 401, .inr (.inl t_firsts_c124_13))) :: (h_t_seconds, .inl (k_t_seconds, 401, .inr (.inl t_seconds_c124_13))) :: (h_t_links, .inl (k_t_links, 401, .inl t_links_c124_13)) :: (h_t_heads, .inl (k_t_heads, 512, .inl t_heads_c124_13)) :: (h_t_stamps, .inl (k_t_stamps, 512, .inl t_stamps_c124_13)) :: R) := hD
      refine lv_iconst (v := (-1)) hx hb dX9_meet_127 (by decide) ?_
      cases h
      exact rt_i S hr hlk hP hD hS dX9_meet_128
noncomputable def f_X9_firstAt (t_size : Int32) (t_firsts : Nat → Int64) (l1 : Int32) : Option (Int64) :=
  if l1 < 0 then (
   some 0
  ) else (
   if t_size ≤ l1 then (
    some 0
   ) else (
    gd (ixb l1 401) (
     some (t_firsts l1.toNatClampNeg)
    )
   )
  )
set_option maxHeartbeats 4000000 in
set_option maxRecDepth 100000 in
theorem c_X9_firstAt (l : Launch) (D : va_G) (R : va_W) (h_t : Nat) (z_t_1 : Value) (z_t_2 : Value) (z_t_3 : Value) (z_t_4 : Value) (z_t_5 : Value) (t_size : Int32) (h_t_firsts : Nat) (k_t_firsts : ClassId) (t_firsts : Nat → Int64) (l1 : Int32) (r : Int64)  (h : f_X9_firstAt t_size t_firsts l1 = some r) (sz : Nat) : Met l yX9_firstAt (WD yX9_firstAt cX9_firstAt 2 (some .long)) ({ frames := 0, cells := 0, slots := 0, locals := 0 }) (va_Pc [.ref h_t, .int l1] (PcW D [(k_t_firsts, .long)] ((h_t, .inr (9, [.ref h_t_firsts, z_t_1, z_t_2, z_t_3, z_t_4, z_t_5, .int t_size])) :: (h_t_firsts, .inl (k_t_firsts, 401, .inr (.inl t_firsts))) :: R) sz)) (QL D r ((h_t, .inr (9, [.ref h_t_firsts, z_t_1, z_t_2, z_t_3, z_t_4, z_t_5, .int t_size])) :: (h_t_firsts, .inl (k_t_firsts, 401, .inr (.inl t_firsts))) :: R) (va_A ((h_t, .inr (9, [.ref h_t_firsts, z_t_1, z_t_2, z_t_3, z_t_4, z_t_5, .int t_size])) :: (h_t_firsts, .inl (k_t_firsts, 401, .inr (.inl t_firsts))) :: R) sz)) 0 0 (va_A ((h_t, .inr (9, [.ref h_t_firsts, z_t_1, z_t_2, z_t_3, z_t_4, z_t_5, .int t_size])) :: (h_t_firsts, .inl (k_t_firsts, 401, .inr (.inl t_firsts))) :: R) sz) := by
  refine ct_start (QF := fun A => QL D r ((h_t, .inr (9, [.ref h_t_firsts, z_t_1, z_t_2, z_t_3, z_t_4, z_t_5, .int t_size])) :: (h_t_firsts, .inl (k_t_firsts, 401, .inr (.inl t_firsts))) :: R) A) ?_ ?_ ?_
  · decide +kernel
  · exact Nat.le_of_ble_eq_true rfl
  intro p e s m args below meth c A ls S hr hlk hnm hS hA hP hD hK hN hl
  have S : CallFix p m c cX9_firstAt 2 s args AL "DigitBench$Trail" := S
  have hx := S.1
  have hb := S.2.1
  have hown := S.2.2.2.1
  have ha := S.2.2.2.2
  have hl : lv_has ls 2 [(0, .ref h_t), (1, .int l1)] := hl
  unfold f_X9_firstAt at h
  refine lv_iload_n hx hb dX9_firstAt_0 rfl (lv_at hl 1 rfl) ?_
  refine lv_if_lt (tgt := 21) hx hb dX9_firstAt_1 (by decide) (fun c1 => ?_) (fun c1 => ?_)
  · have h := br_pos c1 h
    refine lv_lconst (v := 0) hx hb dX9_firstAt_21 (by decide) ?_
    cases h
    exact rt_l S hr hlk hP hD hS dX9_firstAt_22
  · have h := br_neg c1 h
    refine lv_iload_n hx hb dX9_firstAt_4 rfl (lv_at hl 1 rfl) ?_
    refine lv_aload_n hx hb dX9_firstAt_5 rfl (lv_at hl 0 rfl) ?_
    refine va_get (D := D) (ci := 9) (v := .int t_size) (C := RX9) (T := TX9) (N := 7) hx hb ha ix9 hown hK hP 0 rfl rfl 6 (by decide) (ha _ q294) (fun _ h9 => h9) rfl dX9_firstAt_6 ?_
    refine lv_icmp_ge (tgt := 21) hx hb dX9_firstAt_9 (by decide) (fun c2 => ?_) (fun c2 => ?_)
    · have h := br_pos c2 h
      refine lv_lconst (v := 0) hx hb dX9_firstAt_21 (by decide) ?_
      cases h
      exact rt_l S hr hlk hP hD hS dX9_firstAt_22
    · have h := br_neg c2 h
      refine lv_aload_n hx hb dX9_firstAt_12 rfl (lv_at hl 0 rfl) ?_
      refine va_get (D := D) (ci := 9) (v := .ref h_t_firsts) (C := RX9) (T := TX9) (N := 7) hx hb ha ix9 hown hK hP 0 rfl rfl 0 (by decide) (ha _ q288) (fun _ h9 => h9) rfl dX9_firstAt_13 ?_
      refine lv_iload_n hx hb dX9_firstAt_16 rfl (lv_at hl 1 rfl) ?_
      obtain ⟨i3, h⟩ := ix_ok h
      refine va_lald hx hb hK hP 1 0 rfl rfl i3 dX9_firstAt_17 ?_
      refine lv_goto (tgt := 22) hx hb dX9_firstAt_18 (by decide) ?_
      cases h
      exact rt_l S hr hlk hP hD hS dX9_firstAt_22
noncomputable def f_X9_secondAt (t_size : Int32) (t_seconds : Nat → Int64) (l1 : Int32) : Option (Int64) :=
  if l1 < 0 then (
   some 0
  ) else (
   if t_size ≤ l1 then (
    some 0
   ) else (
    gd (ixb l1 401) (
     some (t_seconds l1.toNatClampNeg)
    )
   )
  )
set_option maxHeartbeats 4000000 in
set_option maxRecDepth 100000 in
theorem c_X9_secondAt (l : Launch) (D : va_G) (R : va_W) (h_t : Nat) (z_t_0 : Value) (z_t_2 : Value) (z_t_3 : Value) (z_t_4 : Value) (z_t_5 : Value) (t_size : Int32) (h_t_seconds : Nat) (k_t_seconds : ClassId) (t_seconds : Nat → Int64) (l1 : Int32) (r : Int64)  (h : f_X9_secondAt t_size t_seconds l1 = some r) (sz : Nat) : Met l yX9_secondAt (WD yX9_secondAt cX9_secondAt 2 (some .long)) ({ frames := 0, cells := 0, slots := 0, locals := 0 }) (va_Pc [.ref h_t, .int l1] (PcW D [(k_t_seconds, .long)] ((h_t, .inr (9, [z_t_0, .ref h_t_seconds, z_t_2, z_t_3, z_t_4, z_t_5, .int t_size])) :: (h_t_seconds, .inl (k_t_seconds, 401, .inr (.inl t_seconds))) :: R) sz)) (QL D r ((h_t, .inr (9, [z_t_0, .ref h_t_seconds, z_t_2, z_t_3, z_t_4, z_t_5, .int t_size])) :: (h_t_seconds, .inl (k_t_seconds, 401, .inr (.inl t_seconds))) :: R) (va_A ((h_t, .inr (9, [z_t_0, .ref h_t_seconds, z_t_2, z_t_3, z_t_4, z_t_5, .int t_size])) :: (h_t_seconds, .inl (k_t_seconds, 401, .inr (.inl t_seconds))) :: R) sz)) 0 0 (va_A ((h_t, .inr (9, [z_t_0, .ref h_t_seconds, z_t_2, z_t_3, z_t_4, z_t_5, .int t_size])) :: (h_t_seconds, .inl (k_t_seconds, 401, .inr (.inl t_seconds))) :: R) sz) := by
  refine ct_start (QF := fun A => QL D r ((h_t, .inr (9, [z_t_0, .ref h_t_seconds, z_t_2, z_t_3, z_t_4, z_t_5, .int t_size])) :: (h_t_seconds, .inl (k_t_seconds, 401, .inr (.inl t_seconds))) :: R) A) ?_ ?_ ?_
  · decide +kernel
  · exact Nat.le_of_ble_eq_true rfl
  intro p e s m args below meth c A ls S hr hlk hnm hS hA hP hD hK hN hl
  have S : CallFix p m c cX9_secondAt 2 s args AL "DigitBench$Trail" := S
  have hx := S.1
  have hb := S.2.1
  have hown := S.2.2.2.1
  have ha := S.2.2.2.2
  have hl : lv_has ls 2 [(0, .ref h_t), (1, .int l1)] := hl
  unfold f_X9_secondAt at h
  refine lv_iload_n hx hb dX9_secondAt_0 rfl (lv_at hl 1 rfl) ?_
  refine lv_if_lt (tgt := 21) hx hb dX9_secondAt_1 (by decide) (fun c1 => ?_) (fun c1 => ?_)
  · have h := br_pos c1 h
    refine lv_lconst (v := 0) hx hb dX9_secondAt_21 (by decide) ?_
    cases h
    exact rt_l S hr hlk hP hD hS dX9_secondAt_22
  · have h := br_neg c1 h
    refine lv_iload_n hx hb dX9_secondAt_4 rfl (lv_at hl 1 rfl) ?_
    refine lv_aload_n hx hb dX9_secondAt_5 rfl (lv_at hl 0 rfl) ?_
    refine va_get (D := D) (ci := 9) (v := .int t_size) (C := RX9) (T := TX9) (N := 7) hx hb ha ix9 hown hK hP 0 rfl rfl 6 (by decide) (ha _ q294) (fun _ h9 => h9) rfl dX9_secondAt_6 ?_
    refine lv_icmp_ge (tgt := 21) hx hb dX9_secondAt_9 (by decide) (fun c2 => ?_) (fun c2 => ?_)
    · have h := br_pos c2 h
      refine lv_lconst (v := 0) hx hb dX9_secondAt_21 (by decide) ?_
      cases h
      exact rt_l S hr hlk hP hD hS dX9_secondAt_22
    · have h := br_neg c2 h
      refine lv_aload_n hx hb dX9_secondAt_12 rfl (lv_at hl 0 rfl) ?_
      refine va_get (D := D) (ci := 9) (v := .ref h_t_seconds) (C := RX9) (T := TX9) (N := 7) hx hb ha ix9 hown hK hP 0 rfl rfl 1 (by decide) (ha _ q289) (fun _ h9 => h9) rfl dX9_secondAt_13 ?_
      refine lv_iload_n hx hb dX9_secondAt_16 rfl (lv_at hl 1 rfl) ?_
      obtain ⟨i3, h⟩ := ix_ok h
      refine va_lald hx hb hK hP 1 0 rfl rfl i3 dX9_secondAt_17 ?_
      refine lv_goto (tgt := 22) hx hb dX9_secondAt_18 (by decide) ?_
      cases h
      exact rt_l S hr hlk hP hD hS dX9_secondAt_22
noncomputable def f_X9_leastOf_L7 (l1 : Int32) (l2 : Int32) (t_size : Int32) (t_firsts : Nat → Int64) (t_seconds : Nat → Int64) : Nat → Int32 → Int32 →  Option (Int32)
  | 0, _, _ => none
  | n + 1, l3, l4 => (
    if (l1 + l2) ≤ l4 then (
     some l3
    ) else (
     bnd1 (f_X9_firstAt t_size t_firsts l4) fun r_c18_1 => (
      bnd1 (f_X9_firstAt t_size t_firsts l3) fun r_c23_2 => (
       if (r_c18_1 - r_c23_2) < 0 then (
        f_X9_leastOf_L7 l1 l2 t_size t_firsts t_seconds n l4 (l4 + 1)
       ) else (
        if (r_c18_1 - r_c23_2) = 0 then (
         bnd1 (f_X9_secondAt t_size t_seconds l4) fun r_c46_5 => (
          bnd1 (f_X9_secondAt t_size t_seconds l3) fun r_c51_6 => (
           if r_c51_6 ≤ r_c46_5 then (
            f_X9_leastOf_L7 l1 l2 t_size t_firsts t_seconds n l3 (l4 + 1)
           ) else (
            f_X9_leastOf_L7 l1 l2 t_size t_firsts t_seconds n l4 (l4 + 1)
           )
          )
         )
        ) else (
         f_X9_leastOf_L7 l1 l2 t_size t_firsts t_seconds n l3 (l4 + 1)
        )
       )
      )
     )
    ))
noncomputable def f_X9_leastOf (t_size : Int32) (t_firsts : Nat → Int64) (t_seconds : Nat → Int64) (l1 : Int32) (l2 : Int32) : Option (Int32) :=
  bnd1 (f_X9_leastOf_L7 l1 l2 t_size t_firsts t_seconds FU l1 (l1 + 1)) fun x3_L7_8 => (
   some x3_L7_8
  )
set_option maxHeartbeats 4000000 in
set_option maxRecDepth 100000 in
theorem c_X9_leastOf (l : Launch) (D : va_G) (R : va_W) (h_t : Nat) (z_t_2 : Value) (z_t_3 : Value) (z_t_4 : Value) (z_t_5 : Value) (t_size : Int32) (h_t_firsts : Nat) (k_t_firsts : ClassId) (t_firsts : Nat → Int64) (h_t_seconds : Nat) (k_t_seconds : ClassId) (t_seconds : Nat → Int64) (l1 : Int32) (l2 : Int32) (r : Int32)  (h : f_X9_leastOf t_size t_firsts t_seconds l1 l2 = some r) (sz : Nat) : Met l yX9_leastOf (WD yX9_leastOf cX9_leastOf 7 (some .int)) ({ frames := 1, cells := 0, slots := 0, locals := 21 }) (va_Pc [.ref h_t, .int l1, .int l2] (PcW D [(k_t_firsts, .long), (k_t_seconds, .long)] ((h_t, .inr (9, [.ref h_t_firsts, .ref h_t_seconds, z_t_2, z_t_3, z_t_4, z_t_5, .int t_size])) :: (h_t_firsts, .inl (k_t_firsts, 401, .inr (.inl t_firsts))) :: (h_t_seconds, .inl (k_t_seconds, 401, .inr (.inl t_seconds))) :: R) sz)) (QI D r ((h_t, .inr (9, [.ref h_t_firsts, .ref h_t_seconds, z_t_2, z_t_3, z_t_4, z_t_5, .int t_size])) :: (h_t_firsts, .inl (k_t_firsts, 401, .inr (.inl t_firsts))) :: (h_t_seconds, .inl (k_t_seconds, 401, .inr (.inl t_seconds))) :: R) (va_A ((h_t, .inr (9, [.ref h_t_firsts, .ref h_t_seconds, z_t_2, z_t_3, z_t_4, z_t_5, .int t_size])) :: (h_t_firsts, .inl (k_t_firsts, 401, .inr (.inl t_firsts))) :: (h_t_seconds, .inl (k_t_seconds, 401, .inr (.inl t_seconds))) :: R) sz)) 0 0 (va_A ((h_t, .inr (9, [.ref h_t_firsts, .ref h_t_seconds, z_t_2, z_t_3, z_t_4, z_t_5, .int t_size])) :: (h_t_firsts, .inl (k_t_firsts, 401, .inr (.inl t_firsts))) :: (h_t_seconds, .inl (k_t_seconds, 401, .inr (.inl t_seconds))) :: R) sz) := by
  refine ct_start (QF := fun A => QI D r ((h_t, .inr (9, [.ref h_t_firsts, .ref h_t_seconds, z_t_2, z_t_3, z_t_4, z_t_5, .int t_size])) :: (h_t_firsts, .inl (k_t_firsts, 401, .inr (.inl t_firsts))) :: (h_t_seconds, .inl (k_t_seconds, 401, .inr (.inl t_seconds))) :: R) A) ?_ ?_ ?_
  · decide +kernel
  · exact Nat.le_of_ble_eq_true rfl
  intro p e s m args below meth c A ls S hr hlk hnm hS hA hP hD hK hN hl
  have S : CallFix p m c cX9_leastOf 7 s args AL "DigitBench$Trail" := S
  have hx := S.1
  have hb := S.2.1
  have hown := S.2.2.2.1
  have ha := S.2.2.2.2
  have hl : lv_has ls 7 [(0, .ref h_t), (1, .int l1), (2, .int l2)] := hl
  have L7 : ∀ (Q : State → Prop) (n : Nat) (l1 : Int32) (l2 : Int32) (l3 : Int32) (l4 : Int32)  (x3 : Int32), f_X9_leastOf_L7 l1 l2 t_size t_firsts t_seconds n l3 l4 = some x3 → ∀ (H : Heap) (locs : List Loc) (ls : Array Slot), va_P D vwCl ((h_t, .inr (9, [.ref h_t_firsts, .ref h_t_seconds, z_t_2, z_t_3, z_t_4, z_t_5, .int t_size])) :: (h_t_firsts, .inl (k_t_firsts, 401, .inr (.inl t_firsts))) :: (h_t_seconds, .inl (k_t_seconds, 401, .inr (.inl t_seconds))) :: R) H → va_D A ((h_t, .inr (9, [.ref h_t_firsts, .ref h_t_seconds, z_t_2, z_t_3, z_t_4, z_t_5, .int t_size])) :: (h_t_firsts, .inl (k_t_firsts, 401, .inr (.inl t_firsts))) :: (h_t_seconds, .inl (k_t_seconds, 401, .inr (.inl t_seconds))) :: R) → va_S A s.heap H locs → lv_has ls 7 [(0, .ref h_t), (1, .int l1), (2, .int l2), (3, .int l3), (4, .int l4)] → (∀ (H : Heap) (locs : List Loc) (ls : Array Slot), va_P D vwCl ((h_t, .inr (9, [.ref h_t_firsts, .ref h_t_seconds, z_t_2, z_t_3, z_t_4, z_t_5, .int t_size])) :: (h_t_firsts, .inl (k_t_firsts, 401, .inr (.inl t_firsts))) :: (h_t_seconds, .inl (k_t_seconds, 401, .inr (.inl t_seconds))) :: R) H → va_D A ((h_t, .inr (9, [.ref h_t_firsts, .ref h_t_seconds, z_t_2, z_t_3, z_t_4, z_t_5, .int t_size])) :: (h_t_firsts, .inl (k_t_firsts, 401, .inr (.inl t_firsts))) :: (h_t_seconds, .inl (k_t_seconds, 401, .inr (.inl t_seconds))) :: R) → va_S A s.heap H locs → lv_has ls 7 [(3, .int x3)] → W p l e { frames := 1, cells := 0, slots := 0, locals := 21 } s m args below meth c H locs 0 0 Q (F0 m 67 ls [])) → W p l e { frames := 1, cells := 0, slots := 0, locals := 21 } s m args below meth c H locs 0 0 Q (F0 m 7 ls []) := by
    intro Q n
    induction n with
    | zero =>
      intro l1 l2 l3 l4 x3 h
      rw [f_X9_leastOf_L7] at h; cases h
    | succ n ih =>
      intro l1 l2 l3 l4 x3 h H locs ls hP hD hS hl kk0
      rw [f_X9_leastOf_L7] at h
      refine lv_iload hx hb dX9_leastOf_7 (lv_at hl 4 rfl) ?_
      refine lv_iload_n hx hb dX9_leastOf_9 rfl (lv_at hl 1 rfl) ?_
      refine lv_iload_n hx hb dX9_leastOf_10 rfl (lv_at hl 2 rfl) ?_
      refine lv_iadd hx hb dX9_leastOf_11 ?_
      refine lv_icmp_ge (tgt := 67) hx hb dX9_leastOf_12 (by decide) (fun c1 => ?_) (fun c1 => ?_)
      · have h := br_pos c1 h
        cases h
        exact kk0 _ _ _ hP hD hS (lv_sub hl [3] rfl)
      · have h := br_neg c1 h
        refine lv_aload_n hx hb dX9_leastOf_15 rfl (lv_at hl 0 rfl) ?_
        refine lv_iload hx hb dX9_leastOf_16 (lv_at hl 4 rfl) ?_
        obtain ⟨r_c18_1, e_c18_1, h⟩ := bnd1_ok h
        refine cl_l (rn_v (ci := 9) (As := [.int l4]) (rest := []) S (c_X9_firstAt l D ((h_t_seconds, .inl (k_t_seconds, 401, .inr (.inl t_seconds))) :: R) h_t (.ref h_t_seconds) (z_t_2) (z_t_3) (z_t_4) (z_t_5) t_size h_t_firsts k_t_firsts t_firsts l4 r_c18_1 e_c18_1 _) q807 q808 q809 q56 q810 nd_X9_firstAt ⟨Nat.le_of_ble_eq_true rfl, Nat.le_of_ble_eq_true rfl⟩ rfl rfl hP hD (hK.sub (tys' := [(k_t_firsts, .long)]) [0] rfl) hN rfl ⟨0, _, rfl⟩ rfl hl.1 rfl (Nat.le_of_ble_eq_true rfl) dX9_leastOf_18 ⟨Nat.le_of_ble_eq_true rfl, Nat.le_of_ble_eq_true rfl⟩) hS hA hD (fun H locs hP hD hS => ?_)
        have hP : va_P D vwCl ((h_t, .inr (9, [.ref h_t_firsts, .ref h_t_seconds, z_t_2, z_t_3, z_t_4, z_t_5, .int t_size])) :: (h_t_firsts, .inl (k_t_firsts, 401, .inr (.inl t_firsts))) :: (h_t_seconds, .inl (k_t_seconds, 401, .inr (.inl t_seconds))) :: R) H := hP
        have hD : va_D A ((h_t, .inr (9, [.ref h_t_firsts, .ref h_t_seconds, z_t_2, z_t_3, z_t_4, z_t_5, .int t_size])) :: (h_t_firsts, .inl (k_t_firsts, 401, .inr (.inl t_firsts))) :: (h_t_seconds, .inl (k_t_seconds, 401, .inr (.inl t_seconds))) :: R) := hD
        refine lv_aload_n hx hb dX9_leastOf_21 rfl (lv_at hl 0 rfl) ?_
        refine lv_iload_n hx hb dX9_leastOf_22 rfl (lv_at hl 3 rfl) ?_
        obtain ⟨r_c23_2, e_c23_2, h⟩ := bnd1_ok h
        refine cl_l (rn_v (ci := 9) (As := [.int l3]) (rest := [.long r_c18_1]) S (c_X9_firstAt l D ((h_t_seconds, .inl (k_t_seconds, 401, .inr (.inl t_seconds))) :: R) h_t (.ref h_t_seconds) (z_t_2) (z_t_3) (z_t_4) (z_t_5) t_size h_t_firsts k_t_firsts t_firsts l3 r_c23_2 e_c23_2 _) q807 q808 q809 q56 q810 nd_X9_firstAt ⟨Nat.le_of_ble_eq_true rfl, Nat.le_of_ble_eq_true rfl⟩ rfl rfl hP hD (hK.sub (tys' := [(k_t_firsts, .long)]) [0] rfl) hN rfl ⟨0, _, rfl⟩ rfl hl.1 rfl (Nat.le_of_ble_eq_true rfl) dX9_leastOf_23 ⟨Nat.le_of_ble_eq_true rfl, Nat.le_of_ble_eq_true rfl⟩) hS hA hD (fun H locs hP hD hS => ?_)
        have hP : va_P D vwCl ((h_t, .inr (9, [.ref h_t_firsts, .ref h_t_seconds, z_t_2, z_t_3, z_t_4, z_t_5, .int t_size])) :: (h_t_firsts, .inl (k_t_firsts, 401, .inr (.inl t_firsts))) :: (h_t_seconds, .inl (k_t_seconds, 401, .inr (.inl t_seconds))) :: R) H := hP
        have hD : va_D A ((h_t, .inr (9, [.ref h_t_firsts, .ref h_t_seconds, z_t_2, z_t_3, z_t_4, z_t_5, .int t_size])) :: (h_t_firsts, .inl (k_t_firsts, 401, .inr (.inl t_firsts))) :: (h_t_seconds, .inl (k_t_seconds, 401, .inr (.inl t_seconds))) :: R) := hD
        refine lv_lsub hx hb dX9_leastOf_26 ?_
        refine lv_lstore (lv' := [(5, .long (r_c18_1 - r_c23_2)), (0, .ref h_t), (1, .int l1), (2, .int l2), (3, .int l3), (4, .int l4)]) hx hb dX9_leastOf_27 hl (by decide) rfl (fun ls hl => ?_)
        refine lv_lload hx hb dX9_leastOf_29 (lv_at hl 0 rfl) ?_
        refine lv_lconst (v := 0) hx hb dX9_leastOf_31 (by decide) ?_
        refine xl_lt (tgt := 58) hx hb dX9_leastOf_32 dX9_leastOf_33 (by decide) (fun c4 => ?_) (fun c4 => ?_)
        · have h := br_pos c4 h
          refine lv_iload hx hb dX9_leastOf_58 (lv_at hl 5 rfl) ?_
          refine lv_istore_n (lv' := [(3, .int l4), (5, .long (r_c18_1 - r_c23_2)), (0, .ref h_t), (1, .int l1), (2, .int l2), (4, .int l4)]) hx hb dX9_leastOf_60 rfl hl (by decide) rfl (fun ls hl => ?_)
          refine lv_iinc (v := (l4 + 1)) (lv' := [(4, .int (l4 + 1)), (3, .int l4), (5, .long (r_c18_1 - r_c23_2)), (0, .ref h_t), (1, .int l1), (2, .int l2)]) hx hb dX9_leastOf_61 hl (k := 5) rfl rfl (by decide) rfl (fun ls hl => ?_)
          refine lv_goto (tgt := 7) hx hb dX9_leastOf_64 (by decide) ?_
          exact ih l1 l2 l4 (l4 + 1) _ h _ _ _ hP hD hS (lv_sub hl [3, 4, 5, 1, 0] rfl) kk0
        · have h := br_neg c4 h
          refine lv_lload hx hb dX9_leastOf_36 (lv_at hl 0 rfl) ?_
          refine lv_lconst (v := 0) hx hb dX9_leastOf_38 (by decide) ?_
          refine xl_ne (tgt := 61) hx hb dX9_leastOf_39 dX9_leastOf_40 (by decide) (fun c5 => ?_) (fun c5 => ?_)
          · have h := br_neg c5 h
            refine lv_iinc (v := (l4 + 1)) (lv' := [(4, .int (l4 + 1)), (5, .long (r_c18_1 - r_c23_2)), (0, .ref h_t), (1, .int l1), (2, .int l2), (3, .int l3)]) hx hb dX9_leastOf_61 hl (k := 5) rfl rfl (by decide) rfl (fun ls hl => ?_)
            refine lv_goto (tgt := 7) hx hb dX9_leastOf_64 (by decide) ?_
            exact ih l1 l2 l3 (l4 + 1) _ h _ _ _ hP hD hS (lv_sub hl [2, 3, 4, 5, 0] rfl) kk0
          · have h := br_pos c5 h
            refine lv_aload_n hx hb dX9_leastOf_43 rfl (lv_at hl 1 rfl) ?_
            refine lv_iload hx hb dX9_leastOf_44 (lv_at hl 5 rfl) ?_
            obtain ⟨r_c46_5, e_c46_5, h⟩ := bnd1_ok h
            have hP : va_P D vwCl ((h_t, .inr (9, [.ref h_t_firsts, .ref h_t_seconds, z_t_2, z_t_3, z_t_4, z_t_5, .int t_size])) :: (h_t_seconds, .inl (k_t_seconds, 401, .inr (.inl t_seconds))) :: (h_t_firsts, .inl (k_t_firsts, 401, .inr (.inl t_firsts))) :: R) _ := pm_P [0, 2, 1] 3 hP
            have hD : va_D A ((h_t, .inr (9, [.ref h_t_firsts, .ref h_t_seconds, z_t_2, z_t_3, z_t_4, z_t_5, .int t_size])) :: (h_t_seconds, .inl (k_t_seconds, 401, .inr (.inl t_seconds))) :: (h_t_firsts, .inl (k_t_firsts, 401, .inr (.inl t_firsts))) :: R) := pm_D (X := [(h_t, .inr (9, [.ref h_t_firsts, .ref h_t_seconds, z_t_2, z_t_3, z_t_4, z_t_5, .int t_size])), (h_t_seconds, .inl (k_t_seconds, 401, .inr (.inl t_seconds))), (h_t_firsts, .inl (k_t_firsts, 401, .inr (.inl t_firsts)))]) [0, 2, 1] 3 (by decide) (by decide) rfl hD
            refine cl_l (rn_v (ci := 9) (As := [.int l4]) (rest := []) S (c_X9_secondAt l D ((h_t_firsts, .inl (k_t_firsts, 401, .inr (.inl t_firsts))) :: R) h_t (.ref h_t_firsts) (z_t_2) (z_t_3) (z_t_4) (z_t_5) t_size h_t_seconds k_t_seconds t_seconds l4 r_c46_5 e_c46_5 _) q811 q812 q813 q56 q814 nd_X9_secondAt ⟨Nat.le_of_ble_eq_true rfl, Nat.le_of_ble_eq_true rfl⟩ rfl rfl hP hD (hK.sub (tys' := [(k_t_seconds, .long)]) [1] rfl) hN rfl ⟨0, _, rfl⟩ rfl hl.1 rfl (Nat.le_of_ble_eq_true rfl) dX9_leastOf_46 ⟨Nat.le_of_ble_eq_true rfl, Nat.le_of_ble_eq_true rfl⟩) hS hA hD (fun H locs hP hD hS => ?_)
            have hP : va_P D vwCl ((h_t, .inr (9, [.ref h_t_firsts, .ref h_t_seconds, z_t_2, z_t_3, z_t_4, z_t_5, .int t_size])) :: (h_t_firsts, .inl (k_t_firsts, 401, .inr (.inl t_firsts))) :: (h_t_seconds, .inl (k_t_seconds, 401, .inr (.inl t_seconds))) :: R) H := pm_P [0, 2, 1] 3 hP
            have hD : va_D A ((h_t, .inr (9, [.ref h_t_firsts, .ref h_t_seconds, z_t_2, z_t_3, z_t_4, z_t_5, .int t_size])) :: (h_t_firsts, .inl (k_t_firsts, 401, .inr (.inl t_firsts))) :: (h_t_seconds, .inl (k_t_seconds, 401, .inr (.inl t_seconds))) :: R) := pm_D (X := [(h_t, .inr (9, [.ref h_t_firsts, .ref h_t_seconds, z_t_2, z_t_3, z_t_4, z_t_5, .int t_size])), (h_t_firsts, .inl (k_t_firsts, 401, .inr (.inl t_firsts))), (h_t_seconds, .inl (k_t_seconds, 401, .inr (.inl t_seconds)))]) [0, 2, 1] 3 (by decide) (by decide) rfl hD
            refine lv_aload_n hx hb dX9_leastOf_49 rfl (lv_at hl 1 rfl) ?_
            refine lv_iload_n hx hb dX9_leastOf_50 rfl (lv_at hl 4 rfl) ?_
            obtain ⟨r_c51_6, e_c51_6, h⟩ := bnd1_ok h
            have hP : va_P D vwCl ((h_t, .inr (9, [.ref h_t_firsts, .ref h_t_seconds, z_t_2, z_t_3, z_t_4, z_t_5, .int t_size])) :: (h_t_seconds, .inl (k_t_seconds, 401, .inr (.inl t_seconds))) :: (h_t_firsts, .inl (k_t_firsts, 401, .inr (.inl t_firsts))) :: R) _ := pm_P [0, 2, 1] 3 hP
            have hD : va_D A ((h_t, .inr (9, [.ref h_t_firsts, .ref h_t_seconds, z_t_2, z_t_3, z_t_4, z_t_5, .int t_size])) :: (h_t_seconds, .inl (k_t_seconds, 401, .inr (.inl t_seconds))) :: (h_t_firsts, .inl (k_t_firsts, 401, .inr (.inl t_firsts))) :: R) := pm_D (X := [(h_t, .inr (9, [.ref h_t_firsts, .ref h_t_seconds, z_t_2, z_t_3, z_t_4, z_t_5, .int t_size])), (h_t_seconds, .inl (k_t_seconds, 401, .inr (.inl t_seconds))), (h_t_firsts, .inl (k_t_firsts, 401, .inr (.inl t_firsts)))]) [0, 2, 1] 3 (by decide) (by decide) rfl hD
            refine cl_l (rn_v (ci := 9) (As := [.int l3]) (rest := [.long r_c46_5]) S (c_X9_secondAt l D ((h_t_firsts, .inl (k_t_firsts, 401, .inr (.inl t_firsts))) :: R) h_t (.ref h_t_firsts) (z_t_2) (z_t_3) (z_t_4) (z_t_5) t_size h_t_seconds k_t_seconds t_seconds l3 r_c51_6 e_c51_6 _) q811 q812 q813 q56 q814 nd_X9_secondAt ⟨Nat.le_of_ble_eq_true rfl, Nat.le_of_ble_eq_true rfl⟩ rfl rfl hP hD (hK.sub (tys' := [(k_t_seconds, .long)]) [1] rfl) hN rfl ⟨0, _, rfl⟩ rfl hl.1 rfl (Nat.le_of_ble_eq_true rfl) dX9_leastOf_51 ⟨Nat.le_of_ble_eq_true rfl, Nat.le_of_ble_eq_true rfl⟩) hS hA hD (fun H locs hP hD hS => ?_)
            have hP : va_P D vwCl ((h_t, .inr (9, [.ref h_t_firsts, .ref h_t_seconds, z_t_2, z_t_3, z_t_4, z_t_5, .int t_size])) :: (h_t_firsts, .inl (k_t_firsts, 401, .inr (.inl t_firsts))) :: (h_t_seconds, .inl (k_t_seconds, 401, .inr (.inl t_seconds))) :: R) H := pm_P [0, 2, 1] 3 hP
            have hD : va_D A ((h_t, .inr (9, [.ref h_t_firsts, .ref h_t_seconds, z_t_2, z_t_3, z_t_4, z_t_5, .int t_size])) :: (h_t_firsts, .inl (k_t_firsts, 401, .inr (.inl t_firsts))) :: (h_t_seconds, .inl (k_t_seconds, 401, .inr (.inl t_seconds))) :: R) := pm_D (X := [(h_t, .inr (9, [.ref h_t_firsts, .ref h_t_seconds, z_t_2, z_t_3, z_t_4, z_t_5, .int t_size])), (h_t_firsts, .inl (k_t_firsts, 401, .inr (.inl t_firsts))), (h_t_seconds, .inl (k_t_seconds, 401, .inr (.inl t_seconds)))]) [0, 2, 1] 3 (by decide) (by decide) rfl hD
            refine xl_ge (tgt := 61) hx hb dX9_leastOf_54 dX9_leastOf_55 (by decide) (fun c8 => ?_) (fun c8 => ?_)
            · have h := br_pos c8 h
              refine lv_iinc (v := (l4 + 1)) (lv' := [(4, .int (l4 + 1)), (5, .long (r_c18_1 - r_c23_2)), (0, .ref h_t), (1, .int l1), (2, .int l2), (3, .int l3)]) hx hb dX9_leastOf_61 hl (k := 5) rfl rfl (by decide) rfl (fun ls hl => ?_)
              refine lv_goto (tgt := 7) hx hb dX9_leastOf_64 (by decide) ?_
              exact ih l1 l2 l3 (l4 + 1) _ h _ _ _ hP hD hS (lv_sub hl [2, 3, 4, 5, 0] rfl) kk0
            · have h := br_neg c8 h
              refine lv_iload hx hb dX9_leastOf_58 (lv_at hl 5 rfl) ?_
              refine lv_istore_n (lv' := [(3, .int l4), (5, .long (r_c18_1 - r_c23_2)), (0, .ref h_t), (1, .int l1), (2, .int l2), (4, .int l4)]) hx hb dX9_leastOf_60 rfl hl (by decide) rfl (fun ls hl => ?_)
              refine lv_iinc (v := (l4 + 1)) (lv' := [(4, .int (l4 + 1)), (3, .int l4), (5, .long (r_c18_1 - r_c23_2)), (0, .ref h_t), (1, .int l1), (2, .int l2)]) hx hb dX9_leastOf_61 hl (k := 5) rfl rfl (by decide) rfl (fun ls hl => ?_)
              refine lv_goto (tgt := 7) hx hb dX9_leastOf_64 (by decide) ?_
              exact ih l1 l2 l4 (l4 + 1) _ h _ _ _ hP hD hS (lv_sub hl [3, 4, 5, 1, 0] rfl) kk0
  unfold f_X9_leastOf at h
  refine lv_iload_n hx hb dX9_leastOf_0 rfl (lv_at hl 1 rfl) ?_
  refine lv_istore_n (lv' := [(3, .int l1), (0, .ref h_t), (1, .int l1), (2, .int l2)]) hx hb dX9_leastOf_1 rfl hl (by decide) rfl (fun ls hl => ?_)
  refine lv_iload_n hx hb dX9_leastOf_2 rfl (lv_at hl 2 rfl) ?_
  refine lv_iconst (v := 1) hx hb dX9_leastOf_3 (by decide) ?_
  refine lv_iadd hx hb dX9_leastOf_4 ?_
  refine lv_istore (lv' := [(4, .int (l1 + 1)), (3, .int l1), (0, .ref h_t), (1, .int l1), (2, .int l2)]) hx hb dX9_leastOf_5 hl (by decide) rfl (fun ls hl => ?_)
  obtain ⟨x3_L7_8, e_L7_8, h⟩ := bnd1_ok h
  refine L7 _ _ l1 l2 l1 (l1 + 1) x3_L7_8 e_L7_8 _ _ _ hP hD hS (lv_sub hl [2, 3, 4, 1, 0] rfl) ?_
  intro H locs ls hP hD hS hl
  refine lv_iload_n hx hb dX9_leastOf_67 rfl (lv_at hl 0 rfl) ?_
  cases h
  exact rt_i S hr hlk hP hD hS dX9_leastOf_68
