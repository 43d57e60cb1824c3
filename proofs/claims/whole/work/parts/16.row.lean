noncomputable def f_X6_clear (t_u : Int64) (t_v : Int64) (t_d : Int64) : Option (Int64 × Int64 × Int64) :=
  some (0, 0, 1)
set_option maxHeartbeats 4000000 in
set_option maxRecDepth 100000 in
theorem c_X6_clear (l : Launch) (D : va_G) (R : va_W) (h_t : Nat) (t_u : Int64) (t_v : Int64) (t_d : Int64) (o_t_u : Int64) (o_t_v : Int64) (o_t_d : Int64)  (h : f_X6_clear t_u t_v t_d = some (o_t_u, o_t_v, o_t_d)) (sz : Nat) : Met l yX6_clear (WD yX6_clear cX6_clear 1 none) ({ frames := 0, cells := 0, slots := 0, locals := 0 }) (va_Pc [.ref h_t] (PcW D [] ((h_t, .inr (6, [.long t_u, .long t_v, .long t_d])) :: R) sz)) (QV D ((h_t, .inr (6, [.long o_t_u, .long o_t_v, .long o_t_d])) :: R) (va_A ((h_t, .inr (6, [.long t_u, .long t_v, .long t_d])) :: R) sz)) 0 0 (va_A ((h_t, .inr (6, [.long t_u, .long t_v, .long t_d])) :: R) sz) := by
  refine ct_start (QF := fun A => QV D ((h_t, .inr (6, [.long o_t_u, .long o_t_v, .long o_t_d])) :: R) A) ?_ ?_ ?_
  · decide +kernel
  · exact Nat.le_of_ble_eq_true rfl
  intro p e s m args below meth c A ls S hr hlk hnm hS hA hP hD hK hN hl
  have S : CallFix p m c cX6_clear 1 s args AL "DigitBench$Sum" := S
  have hx := S.1
  have hb := S.2.1
  have hown := S.2.2.2.1
  have ha := S.2.2.2.2
  have hl : lv_has ls 1 [(0, .ref h_t)] := hl
  unfold f_X6_clear at h
  refine lv_aload_n hx hb dX6_clear_0 rfl (lv_at hl 0 rfl) ?_
  refine lv_lconst (v := 0) hx hb dX6_clear_1 (by decide) ?_
  refine va_put (D := D) (ci := 6) (v := .long 0) (ty := .long) (C := RX6) (T := TX6) (N := 3) hx hb ha ix6 tyX6 tyX6_ok nmX6 hown hK hP hD hS 0 rfl rfl 0 (by decide) (ha _ q246) (fun _ h9 => h9) rfl (by decide +kernel) rfl rfl (Nat.le_of_ble_eq_true rfl) dX6_clear_2 (fun H locs hP hD hS => ?_)
  have hP : va_P D vwCl ((h_t, .inr (6, [.long 0, .long t_v, .long t_d])) :: R) H := hP
  have hD : va_D A ((h_t, .inr (6, [.long 0, .long t_v, .long t_d])) :: R) := hD
  refine lv_aload_n hx hb dX6_clear_5 rfl (lv_at hl 0 rfl) ?_
  refine lv_lconst (v := 0) hx hb dX6_clear_6 (by decide) ?_
  refine va_put (D := D) (ci := 6) (v := .long 0) (ty := .long) (C := RX6) (T := TX6) (N := 3) hx hb ha ix6 tyX6 tyX6_ok nmX6 hown hK hP hD hS 0 rfl rfl 1 (by decide) (ha _ q248) (fun _ h9 => h9) rfl (by decide +kernel) rfl rfl (Nat.le_of_ble_eq_true rfl) dX6_clear_7 (fun H locs hP hD hS => ?_)
  have hP : va_P D vwCl ((h_t, .inr (6, [.long 0, .long 0, .long t_d])) :: R) H := hP
  have hD : va_D A ((h_t, .inr (6, [.long 0, .long 0, .long t_d])) :: R) := hD
  refine lv_aload_n hx hb dX6_clear_10 rfl (lv_at hl 0 rfl) ?_
  refine lv_lconst (v := 1) hx hb dX6_clear_11 (by decide) ?_
  refine va_put (D := D) (ci := 6) (v := .long 1) (ty := .long) (C := RX6) (T := TX6) (N := 3) hx hb ha ix6 tyX6 tyX6_ok nmX6 hown hK hP hD hS 0 rfl rfl 2 (by decide) (ha _ q250) (fun _ h9 => h9) rfl (by decide +kernel) rfl rfl (Nat.le_of_ble_eq_true rfl) dX6_clear_12 (fun H locs hP hD hS => ?_)
  have hP : va_P D vwCl ((h_t, .inr (6, [.long 0, .long 0, .long 1])) :: R) H := hP
  have hD : va_D A ((h_t, .inr (6, [.long 0, .long 0, .long 1])) :: R) := hD
  cases h
  exact rt_v S hr hlk hP hD hS dX6_clear_15
noncomputable def f_X6_add (t_u : Int64) (t_v : Int64) (t_d : Int64) (nu : Nat → Int64) (nv : Nat → Int64) (nd : Nat → Int64) (l1 : Int32) (l2 : Nat) : Option (Int64 × Int64 × Int64) :=
  bnd1 (f_X11_common ((t_u * (nd l2)) + ((l1.toInt64 * (nu l2)) * t_d)) ((t_v * (nd l2)) + ((l1.toInt64 * (nv l2)) * t_d))) fun r_c61_0 => (
   bnd1 (f_X11_common r_c61_0 (t_d * (nd l2))) fun r_c66_1 => (
    if r_c66_1 ≤ 0 then (
     some (t_u, t_v, t_d)
    ) else (
     gd (nzL r_c66_1) (
      gd (nzL r_c66_1) (
       gd (nzL r_c66_1) (
        some ((((t_u * (nd l2)) + ((l1.toInt64 * (nu l2)) * t_d)) / r_c66_1), (((t_v * (nd l2)) + ((l1.toInt64 * (nv l2)) * t_d)) / r_c66_1), ((t_d * (nd l2)) / r_c66_1))
       )
      )
     )
    )
   )
  )
set_option maxHeartbeats 4000000 in
set_option maxRecDepth 100000 in
theorem c_X6_add (l : Launch) (D : va_G) (R : va_W) (NL : List Nat) (nt : Nat → Int32) (nu : Nat → Int64) (nv : Nat → Int64) (nd : Nat → Int64) (h_t : Nat) (t_u : Int64) (t_v : Int64) (t_d : Int64) (l1 : Int32) (l2 : Nat) (o_t_u : Int64) (o_t_v : Int64) (o_t_d : Int64) (hm_2 : l2 ∈ NL) (h : f_X6_add t_u t_v t_d nu nv nd l1 l2 = some (o_t_u, o_t_v, o_t_d)) (sz : Nat) : Met l yX6_add (WD yX6_add cX6_add 11 none) ({ frames := 2, cells := 0, slots := 0, locals := 51 }) (va_Pc [.ref h_t, .int l1, .ref l2] (PcW D [] ((h_t, .inr (6, [.long t_u, .long t_v, .long t_d])) :: (R ++ va_pl NL (nmE nt nu nv nd))) sz)) (QV D ((h_t, .inr (6, [.long o_t_u, .long o_t_v, .long o_t_d])) :: (R ++ va_pl NL (nmE nt nu nv nd))) (va_A ((h_t, .inr (6, [.long t_u, .long t_v, .long t_d])) :: (R ++ va_pl NL (nmE nt nu nv nd))) sz)) 0 0 (va_A ((h_t, .inr (6, [.long t_u, .long t_v, .long t_d])) :: (R ++ va_pl NL (nmE nt nu nv nd))) sz) := by
  refine ct_start (QF := fun A => QV D ((h_t, .inr (6, [.long o_t_u, .long o_t_v, .long o_t_d])) :: (R ++ va_pl NL (nmE nt nu nv nd))) A) ?_ ?_ ?_
  · decide +kernel
  · exact Nat.le_of_ble_eq_true rfl
  intro p e s m args below meth c A ls S hr hlk hnm hS hA hP hD hK hN hl
  have S : CallFix p m c cX6_add 11 s args AL "DigitBench$Sum" := S
  have hx := S.1
  have hb := S.2.1
  have hown := S.2.2.2.1
  have ha := S.2.2.2.2
  have hl : lv_has ls 11 [(0, .ref h_t), (1, .int l1), (2, .ref l2)] := hl
  unfold f_X6_add at h
  refine lv_aload_n hx hb dX6_add_0 rfl (lv_at hl 0 rfl) ?_
  refine va_get (D := D) (ci := 6) (v := .long t_u) (C := RX6) (T := TX6) (N := 3) hx hb ha ix6 hown hK hP 0 rfl rfl 0 (by decide) (ha _ q246) (fun _ h9 => h9) rfl dX6_add_1 ?_
  refine lv_aload_n hx hb dX6_add_4 rfl (lv_at hl 2 rfl) ?_
  refine xg_num (v := .long (nd l2)) S hK (Y := ((h_t, .inr (6, [.long t_u, .long t_v, .long t_d])) :: R)) hP hm_2 3 (by decide) (ha _ q171) rfl dX6_add_5 ?_
  refine lv_lmul hx hb dX6_add_8 ?_
  refine lv_iload_n hx hb dX6_add_9 rfl (lv_at hl 1 rfl) ?_
  refine lv_i2l (v := l1.toInt64) hx hb dX6_add_10 rfl ?_
  refine lv_aload_n hx hb dX6_add_11 rfl (lv_at hl 2 rfl) ?_
  refine xg_num (v := .long (nu l2)) S hK (Y := ((h_t, .inr (6, [.long t_u, .long t_v, .long t_d])) :: R)) hP hm_2 1 (by decide) (ha _ q159) rfl dX6_add_12 ?_
  refine lv_lmul hx hb dX6_add_15 ?_
  refine lv_aload_n hx hb dX6_add_16 rfl (lv_at hl 0 rfl) ?_
  refine va_get (D := D) (ci := 6) (v := .long t_d) (C := RX6) (T := TX6) (N := 3) hx hb ha ix6 hown hK hP 0 rfl rfl 2 (by decide) (ha _ q250) (fun _ h9 => h9) rfl dX6_add_17 ?_
  refine lv_lmul hx hb dX6_add_20 ?_
  refine lv_ladd hx hb dX6_add_21 ?_
  refine lv_lstore_n (lv' := [(3, .long ((t_u * (nd l2)) + ((l1.toInt64 * (nu l2)) * t_d))), (0, .ref h_t), (1, .int l1), (2, .ref l2)]) hx hb dX6_add_22 rfl hl (by decide) rfl (fun ls hl => ?_)
  refine lv_aload_n hx hb dX6_add_23 rfl (lv_at hl 1 rfl) ?_
  refine va_get (D := D) (ci := 6) (v := .long t_v) (C := RX6) (T := TX6) (N := 3) hx hb ha ix6 hown hK hP 0 rfl rfl 1 (by decide) (ha _ q248) (fun _ h9 => h9) rfl dX6_add_24 ?_
  refine lv_aload_n hx hb dX6_add_27 rfl (lv_at hl 3 rfl) ?_
  refine xg_num (v := .long (nd l2)) S hK (Y := ((h_t, .inr (6, [.long t_u, .long t_v, .long t_d])) :: R)) hP hm_2 3 (by decide) (ha _ q171) rfl dX6_add_28 ?_
  refine lv_lmul hx hb dX6_add_31 ?_
  refine lv_iload_n hx hb dX6_add_32 rfl (lv_at hl 2 rfl) ?_
  refine lv_i2l (v := l1.toInt64) hx hb dX6_add_33 rfl ?_
  refine lv_aload_n hx hb dX6_add_34 rfl (lv_at hl 3 rfl) ?_
  refine xg_num (v := .long (nv l2)) S hK (Y := ((h_t, .inr (6, [.long t_u, .long t_v, .long t_d])) :: R)) hP hm_2 2 (by decide) (ha _ q165) rfl dX6_add_35 ?_
  refine lv_lmul hx hb dX6_add_38 ?_
  refine lv_aload_n hx hb dX6_add_39 rfl (lv_at hl 1 rfl) ?_
  refine va_get (D := D) (ci := 6) (v := .long t_d) (C := RX6) (T := TX6) (N := 3) hx hb ha ix6 hown hK hP 0 rfl rfl 2 (by decide) (ha _ q250) (fun _ h9 => h9) rfl dX6_add_40 ?_
  refine lv_lmul hx hb dX6_add_43 ?_
  refine lv_ladd hx hb dX6_add_44 ?_
  refine lv_lstore (lv' := [(5, .long ((t_v * (nd l2)) + ((l1.toInt64 * (nv l2)) * t_d))), (3, .long ((t_u * (nd l2)) + ((l1.toInt64 * (nu l2)) * t_d))), (0, .ref h_t), (1, .int l1), (2, .ref l2)]) hx hb dX6_add_45 hl (by decide) rfl (fun ls hl => ?_)
  refine lv_aload_n hx hb dX6_add_47 rfl (lv_at hl 2 rfl) ?_
  refine va_get (D := D) (ci := 6) (v := .long t_d) (C := RX6) (T := TX6) (N := 3) hx hb ha ix6 hown hK hP 0 rfl rfl 2 (by decide) (ha _ q250) (fun _ h9 => h9) rfl dX6_add_48 ?_
  refine lv_aload_n hx hb dX6_add_51 rfl (lv_at hl 4 rfl) ?_
  refine xg_num (v := .long (nd l2)) S hK (Y := ((h_t, .inr (6, [.long t_u, .long t_v, .long t_d])) :: R)) hP hm_2 3 (by decide) (ha _ q171) rfl dX6_add_52 ?_
  refine lv_lmul hx hb dX6_add_55 ?_
  refine lv_lstore (lv' := [(7, .long (t_d * (nd l2))), (5, .long ((t_v * (nd l2)) + ((l1.toInt64 * (nv l2)) * t_d))), (3, .long ((t_u * (nd l2)) + ((l1.toInt64 * (nu l2)) * t_d))), (0, .ref h_t), (1, .int l1), (2, .ref l2)]) hx hb dX6_add_56 hl (by decide) rfl (fun ls hl => ?_)
  refine lv_lload_n hx hb dX6_add_58 rfl (lv_at hl 2 rfl) ?_
  refine lv_lload hx hb dX6_add_59 (lv_at hl 1 rfl) ?_
  obtain ⟨r_c61_0, e_c61_0, h⟩ := bnd1_ok h
  refine cl_l (rn_sn (As := [.long ((t_u * (nd l2)) + ((l1.toInt64 * (nu l2)) * t_d)), .long ((t_v * (nd l2)) + ((l1.toInt64 * (nv l2)) * t_d))]) (rest := []) S (c_X11_common l D ((h_t, .inr (6, [.long t_u, .long t_v, .long t_d])) :: (R ++ va_pl NL (nmE nt nu nv nd))) ((t_u * (nd l2)) + ((l1.toInt64 * (nu l2)) * t_d)) ((t_v * (nd l2)) + ((l1.toInt64 * (nv l2)) * t_d)) r_c61_0 e_c61_0 _) (hN.n13) q516 q48 q517 nd_X11_common ⟨Nat.le_of_ble_eq_true rfl, Nat.le_of_ble_eq_true rfl⟩ rfl rfl hP hD (hK.sub (tys' := []) [] rfl) hN rfl hl.1 rfl (Nat.le_of_ble_eq_true rfl) dX6_add_61 ⟨Nat.le_of_ble_eq_true rfl, Nat.le_of_ble_eq_true rfl⟩) hS hA hD (fun H locs hP hD hS => ?_)
  have hP : va_P D vwCl ((h_t, .inr (6, [.long t_u, .long t_v, .long t_d])) :: (R ++ va_pl NL (nmE nt nu nv nd))) H := hP
  have hD : va_D A ((h_t, .inr (6, [.long t_u, .long t_v, .long t_d])) :: (R ++ va_pl NL (nmE nt nu nv nd))) := hD
  refine lv_lload hx hb dX6_add_64 (lv_at hl 0 rfl) ?_
  obtain ⟨r_c66_1, e_c66_1, h⟩ := bnd1_ok h
  refine cl_l (rn_sn (As := [.long r_c61_0, .long (t_d * (nd l2))]) (rest := []) S (c_X11_common l D ((h_t, .inr (6, [.long t_u, .long t_v, .long t_d])) :: (R ++ va_pl NL (nmE nt nu nv nd))) r_c61_0 (t_d * (nd l2)) r_c66_1 e_c66_1 _) (hN.n13) q516 q48 q517 nd_X11_common ⟨Nat.le_of_ble_eq_true rfl, Nat.le_of_ble_eq_true rfl⟩ rfl rfl hP hD (hK.sub (tys' := []) [] rfl) hN rfl hl.1 rfl (Nat.le_of_ble_eq_true rfl) dX6_add_66 ⟨Nat.le_of_ble_eq_true rfl, Nat.le_of_ble_eq_true rfl⟩) hS hA hD (fun H locs hP hD hS => ?_)
  have hP : va_P D vwCl ((h_t, .inr (6, [.long t_u, .long t_v, .long t_d])) :: (R ++ va_pl NL (nmE nt nu nv nd))) H := hP
  have hD : va_D A ((h_t, .inr (6, [.long t_u, .long t_v, .long t_d])) :: (R ++ va_pl NL (nmE nt nu nv nd))) := hD
  refine lv_lstore (lv' := [(9, .long r_c66_1), (7, .long (t_d * (nd l2))), (5, .long ((t_v * (nd l2)) + ((l1.toInt64 * (nv l2)) * t_d))), (3, .long ((t_u * (nd l2)) + ((l1.toInt64 * (nu l2)) * t_d))), (0, .ref h_t), (1, .int l1), (2, .ref l2)]) hx hb dX6_add_69 hl (by decide) rfl (fun ls hl => ?_)
  refine lv_lload hx hb dX6_add_71 (lv_at hl 0 rfl) ?_
  refine lv_lconst (v := 0) hx hb dX6_add_73 (by decide) ?_
  refine xl_le (tgt := 104) hx hb dX6_add_74 dX6_add_75 (by decide) (fun c3 => ?_) (fun c3 => ?_)
  · have h := br_pos c3 h
    cases h
    exact rt_v S hr hlk hP hD hS dX6_add_104
  · have h := br_neg c3 h
    refine lv_aload_n hx hb dX6_add_78 rfl (lv_at hl 4 rfl) ?_
    refine lv_lload_n hx hb dX6_add_79 rfl (lv_at hl 3 rfl) ?_
    refine lv_lload hx hb dX6_add_80 (lv_at hl 0 rfl) ?_
    obtain ⟨n4, h⟩ := nzL_ok h
    refine lv_ldiv hx hb dX6_add_82 n4 ?_
    refine va_put (D := D) (ci := 6) (v := .long (((t_u * (nd l2)) + ((l1.toInt64 * (nu l2)) * t_d)) / r_c66_1)) (ty := .long) (C := RX6) (T := TX6) (N := 3) hx hb ha ix6 tyX6 tyX6_ok nmX6 hown hK hP hD hS 0 rfl rfl 0 (by decide) (ha _ q246) (fun _ h9 => h9) rfl (by decide +kernel) rfl rfl (Nat.le_of_ble_eq_true rfl) dX6_add_83 (fun H locs hP hD hS => ?_)
    have hP : va_P D vwCl ((h_t, .inr (6, [.long (((t_u * (nd l2)) + ((l1.toInt64 * (nu l2)) * t_d)) / r_c66_1), .long t_v, .long t_d])) :: (R ++ va_pl NL (nmE nt nu nv nd))) H := hP
    have hD : va_D A ((h_t, .inr (6, [.long (((t_u * (nd l2)) + ((l1.toInt64 * (nu l2)) * t_d)) / r_c66_1), .long t_v, .long t_d])) :: (R ++ va_pl NL (nmE nt nu nv nd))) := hD
    refine lv_aload_n hx hb dX6_add_86 rfl (lv_at hl 4 rfl) ?_
    refine lv_lload hx hb dX6_add_87 (lv_at hl 2 rfl) ?_
    refine lv_lload hx hb dX6_add_89 (lv_at hl 0 rfl) ?_
    obtain ⟨n5, h⟩ := nzL_ok h
    refine lv_ldiv hx hb dX6_add_91 n5 ?_
    refine va_put (D := D) (ci := 6) (v := .long (((t_v * (nd l2)) + ((l1.toInt64 * (nv l2)) * t_d)) / r_c66_1)) (ty := .long) (C := RX6) (T := TX6) (N := 3) hx hb ha ix6 tyX6 tyX6_ok nmX6 hown hK hP hD hS 0 rfl rfl 1 (by decide) (ha _ q248) (fun _ h9 => h9) rfl (by decide +kernel) rfl rfl (Nat.le_of_ble_eq_true rfl) dX6_add_92 (fun H locs hP hD hS => ?_)
    have hP : va_P D vwCl ((h_t, .inr (6, [.long (((t_u * (nd l2)) + ((l1.toInt64 * (nu l2)) * t_d)) / r_c66_1), .long (((t_v * (nd l2)) + ((l1.toInt64 * (nv l2)) * t_d)) / r_c66_1), .long t_d])) :: (R ++ va_pl NL (nmE nt nu nv nd))) H := hP
    have hD : va_D A ((h_t, .inr (6, [.long (((t_u * (nd l2)) + ((l1.toInt64 * (nu l2)) * t_d)) / r_c66_1), .long (((t_v * (nd l2)) + ((l1.toInt64 * (nv l2)) * t_d)) / r_c66_1), .long t_d])) :: (R ++ va_pl NL (nmE nt nu nv nd))) := hD
    refine lv_aload_n hx hb dX6_add_95 rfl (lv_at hl 4 rfl) ?_
    refine lv_lload hx hb dX6_add_96 (lv_at hl 1 rfl) ?_
    refine lv_lload hx hb dX6_add_98 (lv_at hl 0 rfl) ?_
    obtain ⟨n6, h⟩ := nzL_ok h
    refine lv_ldiv hx hb dX6_add_100 n6 ?_
    refine va_put (D := D) (ci := 6) (v := .long ((t_d * (nd l2)) / r_c66_1)) (ty := .long) (C := RX6) (T := TX6) (N := 3) hx hb ha ix6 tyX6 tyX6_ok nmX6 hown hK hP hD hS 0 rfl rfl 2 (by decide) (ha _ q250) (fun _ h9 => h9) rfl (by decide +kernel) rfl rfl (Nat.le_of_ble_eq_true rfl) dX6_add_101 (fun H locs hP hD hS => ?_)
    have hP : va_P D vwCl ((h_t, .inr (6, [.long (((t_u * (nd l2)) + ((l1.toInt64 * (nu l2)) * t_d)) / r_c66_1), .long (((t_v * (nd l2)) + ((l1.toInt64 * (nv l2)) * t_d)) / r_c66_1), .long ((t_d * (nd l2)) / r_c66_1)])) :: (R ++ va_pl NL (nmE nt nu nv nd))) H := hP
    have hD : va_D A ((h_t, .inr (6, [.long (((t_u * (nd l2)) + ((l1.toInt64 * (nu l2)) * t_d)) / r_c66_1), .long (((t_v * (nd l2)) + ((l1.toInt64 * (nv l2)) * t_d)) / r_c66_1), .long ((t_d * (nd l2)) / r_c66_1)])) :: (R ++ va_pl NL (nmE nt nu nv nd))) := hD
    cases h
    exact rt_v S hr hlk hP hD hS dX6_add_104
noncomputable def f_X5_addUpward_L14 (l3 : Int32) (l4 : Int32) (p1_a : Int32) (p1_b : Int32) (p2_size : Int32) (p2_bytes : Nat → Int32) (h_t_power : Nat) : Nat → Int32 → Int64 → Int64 → Int64 → (Nat → Int32) → (Nat → Int64) → (Nat → Int64) → (Nat → Int64) →  Option (Nat × Int64 × Int64 × Int64 × (Nat → Int32) × (Nat → Int64) × (Nat → Int64) × (Nat → Int64))
  | 0, _, _, _, _, _, _, _, _ => none
  | n + 1, l5, t_sum_u, t_sum_v, t_sum_d, nt, nu, nv, nd => (
    if l4 ≤ l5 then (
     some (1, t_sum_u, t_sum_v, t_sum_d, nt, nu, nv, nd)
    ) else (
     if l5 ≤ 0 then (
      bnd1 (f_X7_at p2_size p2_bytes (l3 - l5)) fun r_c48_3 => (
       bnd3 (f_X6_add t_sum_u t_sum_v t_sum_d nu nv nd r_c48_3 h_t_power) fun t_sum_u_c55_4 t_sum_v_c55_4 t_sum_d_c55_4 => (
        f_X5_addUpward_L14 l3 l4 p1_a p1_b p2_size p2_bytes h_t_power n (l5 + 1) t_sum_u_c55_4 t_sum_v_c55_4 t_sum_d_c55_4 nt nu nv nd
       )
      )
     ) else (
      bnd5 (f_X3_multiplyByX p1_a p1_b nt nu nv nd h_t_power) fun r_c31_5 nt_c31_5 nu_c31_5 nv_c31_5 nd_c31_5 => (
       if r_c31_5 = 0 then (
        some (0, t_sum_u, t_sum_v, t_sum_d, nt_c31_5, nu_c31_5, nv_c31_5, nd_c31_5)
       ) else (
        bnd1 (f_X7_at p2_size p2_bytes (l3 - l5)) fun r_c48_7 => (
         bnd3 (f_X6_add t_sum_u t_sum_v t_sum_d nu_c31_5 nv_c31_5 nd_c31_5 r_c48_7 h_t_power) fun t_sum_u_c55_8 t_sum_v_c55_8 t_sum_d_c55_8 => (
          f_X5_addUpward_L14 l3 l4 p1_a p1_b p2_size p2_bytes h_t_power n (l5 + 1) t_sum_u_c55_8 t_sum_v_c55_8 t_sum_d_c55_8 nt_c31_5 nu_c31_5 nv_c31_5 nd_c31_5
         )
        )
       )
      )
     )
    ))
noncomputable def f_X5_addUpward (t_sum_u : Int64) (t_sum_v : Int64) (t_sum_d : Int64) (p1_a : Int32) (p1_b : Int32) (p2_size : Int32) (p2_bytes : Nat → Int32) (nt : Nat → Int32) (nu : Nat → Int64) (nv : Nat → Int64) (nd : Nat → Int64) (h_t_power : Nat) (l3 : Int32) (l4 : Int32) : Option (Int32 × Int64 × Int64 × Int64 × (Nat → Int32) × (Nat → Int64) × (Nat → Int64) × (Nat → Int64)) :=
  bnd5 (f_X0_take nt nu nv nd h_t_power 1 0 1) fun r_c7_0 nt_c7_0 nu_c7_0 nv_c7_0 nd_c7_0 => (
   bnd8 (f_X5_addUpward_L14 l3 l4 p1_a p1_b p2_size p2_bytes h_t_power FU 0 t_sum_u t_sum_v t_sum_d nt_c7_0 nu_c7_0 nv_c7_0 nd_c7_0) fun tg_L14_9 x_t_sum_u_L14_9 x_t_sum_v_L14_9 x_t_sum_d_L14_9 x_nt_L14_9 x_nu_L14_9 x_nv_L14_9 x_nd_L14_9 => (
    if tg_L14_9 = 0 then (
     some (0, x_t_sum_u_L14_9, x_t_sum_v_L14_9, x_t_sum_d_L14_9, x_nt_L14_9, x_nu_L14_9, x_nv_L14_9, x_nd_L14_9)
    ) else (
     some (1, x_t_sum_u_L14_9, x_t_sum_v_L14_9, x_t_sum_d_L14_9, x_nt_L14_9, x_nu_L14_9, x_nv_L14_9, x_nd_L14_9)
    )
   )
  )
set_option maxHeartbeats 4000000 in
set_option maxRecDepth 100000 in
theorem c_X5_addUpward (l : Launch) (D : va_G) (R : va_W) (NL : List Nat) (nt : Nat → Int32) (nu : Nat → Int64) (nv : Nat → Int64) (nd : Nat → Int64) (h_t : Nat) (h_t_power : Nat) (z_t_1 : Value) (z_t_2 : Value) (z_t_3 : Value) (z_t_4 : Value) (z_t_5 : Value) (h_t_sum : Nat) (t_sum_u : Int64) (t_sum_v : Int64) (t_sum_d : Int64) (h_p1 : Nat) (p1_a : Int32) (p1_b : Int32) (z_p1_2 : Value) (z_p1_3 : Value) (z_p1_4 : Value) (z_p1_5 : Value) (z_p1_6 : Value) (z_p1_7 : Value) (h_p2 : Nat) (p2_size : Int32) (h_p2_bytes : Nat) (k_p2_bytes : ClassId) (p2_bytes : Nat → Int32) (l3 : Int32) (l4 : Int32) (r : Int32) (o_t_sum_u : Int64) (o_t_sum_v : Int64) (o_t_sum_d : Int64) (o_nt : Nat → Int32) (o_nu : Nat → Int64) (o_nv : Nat → Int64) (o_nd : Nat → Int64) (hm_t_power : h_t_power ∈ NL) (h : f_X5_addUpward t_sum_u t_sum_v t_sum_d p1_a p1_b p2_size p2_bytes nt nu nv nd h_t_power l3 l4 = some (r, o_t_sum_u, o_t_sum_v, o_t_sum_d, o_nt, o_nu, o_nv, o_nd)) (sz : Nat) : Met l yX5_addUpward (WD yX5_addUpward cX5_addUpward 6 (some .boolean)) ({ frames := 4, cells := 0, slots := 0, locals := 106 }) (va_Pc [.ref h_t, .ref h_p1, .ref h_p2, .int l3, .int l4] (PcW D [(k_p2_bytes, .byte)] ((h_t, .inr (5, [.ref h_t_power, z_t_1, z_t_2, z_t_3, z_t_4, z_t_5, .ref h_t_sum])) :: (h_t_sum, .inr (6, [.long t_sum_u, .long t_sum_v, .long t_sum_d])) :: (h_p1, .inr (3, [.int p1_a, .int p1_b, z_p1_2, z_p1_3, z_p1_4, z_p1_5, z_p1_6, z_p1_7])) :: (h_p2, .inr (7, [.ref h_p2_bytes, .int p2_size])) :: (h_p2_bytes, .inl (k_p2_bytes, 200, .inl p2_bytes)) :: (R ++ va_pl NL (nmE nt nu nv nd))) sz)) (QZ D r ((h_t, .inr (5, [.ref h_t_power, z_t_1, z_t_2, z_t_3, z_t_4, z_t_5, .ref h_t_sum])) :: (h_t_sum, .inr (6, [.long o_t_sum_u, .long o_t_sum_v, .long o_t_sum_d])) :: (h_p1, .inr (3, [.int p1_a, .int p1_b, z_p1_2, z_p1_3, z_p1_4, z_p1_5, z_p1_6, z_p1_7])) :: (h_p2, .inr (7, [.ref h_p2_bytes, .int p2_size])) :: (h_p2_bytes, .inl (k_p2_bytes, 200, .inl p2_bytes)) :: (R ++ va_pl NL (nmE o_nt o_nu o_nv o_nd))) (va_A ((h_t, .inr (5, [.ref h_t_power, z_t_1, z_t_2, z_t_3, z_t_4, z_t_5, .ref h_t_sum])) :: (h_t_sum, .inr (6, [.long t_sum_u, .long t_sum_v, .long t_sum_d])) :: (h_p1, .inr (3, [.int p1_a, .int p1_b, z_p1_2, z_p1_3, z_p1_4, z_p1_5, z_p1_6, z_p1_7])) :: (h_p2, .inr (7, [.ref h_p2_bytes, .int p2_size])) :: (h_p2_bytes, .inl (k_p2_bytes, 200, .inl p2_bytes)) :: (R ++ va_pl NL (nmE nt nu nv nd))) sz)) 0 0 (va_A ((h_t, .inr (5, [.ref h_t_power, z_t_1, z_t_2, z_t_3, z_t_4, z_t_5, .ref h_t_sum])) :: (h_t_sum, .inr (6, [.long t_sum_u, .long t_sum_v, .long t_sum_d])) :: (h_p1, .inr (3, [.int p1_a, .int p1_b, z_p1_2, z_p1_3, z_p1_4, z_p1_5, z_p1_6, z_p1_7])) :: (h_p2, .inr (7, [.ref h_p2_bytes, .int p2_size])) :: (h_p2_bytes, .inl (k_p2_bytes, 200, .inl p2_bytes)) :: (R ++ va_pl NL (nmE nt nu nv nd))) sz) := by
  refine ct_start (QF := fun A => QZ D r ((h_t, .inr (5, [.ref h_t_power, z_t_1, z_t_2, z_t_3, z_t_4, z_t_5, .ref h_t_sum])) :: (h_t_sum, .inr (6, [.long o_t_sum_u, .long o_t_sum_v, .long o_t_sum_d])) :: (h_p1, .inr (3, [.int p1_a, .int p1_b, z_p1_2, z_p1_3, z_p1_4, z_p1_5, z_p1_6, z_p1_7])) :: (h_p2, .inr (7, [.ref h_p2_bytes, .int p2_size])) :: (h_p2_bytes, .inl (k_p2_bytes, 200, .inl p2_bytes)) :: (R ++ va_pl NL (nmE o_nt o_nu o_nv o_nd))) A) ?_ ?_ ?_
  · decide +kernel
  · exact Nat.le_of_ble_eq_true rfl
  intro p e s m args below meth c A ls S hr hlk hnm hS hA hP hD hK hN hl
  have S : CallFix p m c cX5_addUpward 6 s args AL "DigitBench$RowValue" := S
  have hx := S.1
  have hb := S.2.1
  have hown := S.2.2.2.1
  have ha := S.2.2.2.2
  have hl : lv_has ls 6 [(0, .ref h_t), (1, .ref h_p1), (2, .ref h_p2), (3, .int l3), (4, .int l4)] := hl
  have L14 : ∀ (Q : State → Prop) (n : Nat) (l3 : Int32) (l4 : Int32) (l5 : Int32) (t_sum_u : Int64) (t_sum_v : Int64) (t_sum_d : Int64) (nt : Nat → Int32) (nu : Nat → Int64) (nv : Nat → Int64) (nd : Nat → Int64) (tg : Nat) (x_t_sum_u : Int64) (x_t_sum_v : Int64) (x_t_sum_d : Int64) (x_nt : Nat → Int32) (x_nu : Nat → Int64) (x_nv : Nat → Int64) (x_nd : Nat → Int64), f_X5_addUpward_L14 l3 l4 p1_a p1_b p2_size p2_bytes h_t_power n l5 t_sum_u t_sum_v t_sum_d nt nu nv nd = some (tg, x_t_sum_u, x_t_sum_v, x_t_sum_d, x_nt, x_nu, x_nv, x_nd) → ∀ (H : Heap) (locs : List Loc) (ls : Array Slot), va_P D vwCl ((h_t, .inr (5, [.ref h_t_power, z_t_1, z_t_2, z_t_3, z_t_4, z_t_5, .ref h_t_sum])) :: (h_t_sum, .inr (6, [.long t_sum_u, .long t_sum_v, .long t_sum_d])) :: (h_p1, .inr (3, [.int p1_a, .int p1_b, z_p1_2, z_p1_3, z_p1_4, z_p1_5, z_p1_6, z_p1_7])) :: (h_p2, .inr (7, [.ref h_p2_bytes, .int p2_size])) :: (h_p2_bytes, .inl (k_p2_bytes, 200, .inl p2_bytes)) :: (R ++ va_pl NL (nmE nt nu nv nd))) H → va_D A ((h_t, .inr (5, [.ref h_t_power, z_t_1, z_t_2, z_t_3, z_t_4, z_t_5, .ref h_t_sum])) :: (h_t_sum, .inr (6, [.long t_sum_u, .long t_sum_v, .long t_sum_d])) :: (h_p1, .inr (3, [.int p1_a, .int p1_b, z_p1_2, z_p1_3, z_p1_4, z_p1_5, z_p1_6, z_p1_7])) :: (h_p2, .inr (7, [.ref h_p2_bytes, .int p2_size])) :: (h_p2_bytes, .inl (k_p2_bytes, 200, .inl p2_bytes)) :: (R ++ va_pl NL (nmE nt nu nv nd))) → va_S A s.heap H locs → lv_has ls 6 [(0, .ref h_t), (1, .ref h_p1), (2, .ref h_p2), (3, .int l3), (4, .int l4), (5, .int l5)] → (tg = 0 → ∀ (H : Heap) (locs : List Loc) (ls : Array Slot), va_P D vwCl ((h_t, .inr (5, [.ref h_t_power, z_t_1, z_t_2, z_t_3, z_t_4, z_t_5, .ref h_t_sum])) :: (h_t_sum, .inr (6, [.long x_t_sum_u, .long x_t_sum_v, .long x_t_sum_d])) :: (h_p1, .inr (3, [.int p1_a, .int p1_b, z_p1_2, z_p1_3, z_p1_4, z_p1_5, z_p1_6, z_p1_7])) :: (h_p2, .inr (7, [.ref h_p2_bytes, .int p2_size])) :: (h_p2_bytes, .inl (k_p2_bytes, 200, .inl p2_bytes)) :: (R ++ va_pl NL (nmE x_nt x_nu x_nv x_nd))) H → va_D A ((h_t, .inr (5, [.ref h_t_power, z_t_1, z_t_2, z_t_3, z_t_4, z_t_5, .ref h_t_sum])) :: (h_t_sum, .inr (6, [.long x_t_sum_u, .long x_t_sum_v, .long x_t_sum_d])) :: (h_p1, .inr (3, [.int p1_a, .int p1_b, z_p1_2, z_p1_3, z_p1_4, z_p1_5, z_p1_6, z_p1_7])) :: (h_p2, .inr (7, [.ref h_p2_bytes, .int p2_size])) :: (h_p2_bytes, .inl (k_p2_bytes, 200, .inl p2_bytes)) :: (R ++ va_pl NL (nmE x_nt x_nu x_nv x_nd))) → va_S A s.heap H locs → lv_has ls 6 [] → W p l e { frames := 4, cells := 0, slots := 0, locals := 106 } s m args below meth c H locs 0 0 Q (F0 m 37 ls [])) → (tg = 1 → ∀ (H : Heap) (locs : List Loc) (ls : Array Slot), va_P D vwCl ((h_t, .inr (5, [.ref h_t_power, z_t_1, z_t_2, z_t_3, z_t_4, z_t_5, .ref h_t_sum])) :: (h_t_sum, .inr (6, [.long x_t_sum_u, .long x_t_sum_v, .long x_t_sum_d])) :: (h_p1, .inr (3, [.int p1_a, .int p1_b, z_p1_2, z_p1_3, z_p1_4, z_p1_5, z_p1_6, z_p1_7])) :: (h_p2, .inr (7, [.ref h_p2_bytes, .int p2_size])) :: (h_p2_bytes, .inl (k_p2_bytes, 200, .inl p2_bytes)) :: (R ++ va_pl NL (nmE x_nt x_nu x_nv x_nd))) H → va_D A ((h_t, .inr (5, [.ref h_t_power, z_t_1, z_t_2, z_t_3, z_t_4, z_t_5, .ref h_t_sum])) :: (h_t_sum, .inr (6, [.long x_t_sum_u, .long x_t_sum_v, .long x_t_sum_d])) :: (h_p1, .inr (3, [.int p1_a, .int p1_b, z_p1_2, z_p1_3, z_p1_4, z_p1_5, z_p1_6, z_p1_7])) :: (h_p2, .inr (7, [.ref h_p2_bytes, .int p2_size])) :: (h_p2_bytes, .inl (k_p2_bytes, 200, .inl p2_bytes)) :: (R ++ va_pl NL (nmE x_nt x_nu x_nv x_nd))) → va_S A s.heap H locs → lv_has ls 6 [] → W p l e { frames := 4, cells := 0, slots := 0, locals := 106 } s m args below meth c H locs 0 0 Q (F0 m 64 ls [])) → W p l e { frames := 4, cells := 0, slots := 0, locals := 106 } s m args below meth c H locs 0 0 Q (F0 m 14 ls []) := by
    intro Q n
    induction n with
    | zero =>
      intro l3 l4 l5 t_sum_u t_sum_v t_sum_d nt nu nv nd tg x_t_sum_u x_t_sum_v x_t_sum_d x_nt x_nu x_nv x_nd h
      rw [f_X5_addUpward_L14] at h; cases h
    | succ n ih =>
      intro l3 l4 l5 t_sum_u t_sum_v t_sum_d nt nu nv nd tg x_t_sum_u x_t_sum_v x_t_sum_d x_nt x_nu x_nv x_nd h H locs ls hP hD hS hl kk0 kk1
      rw [f_X5_addUpward_L14] at h
      refine lv_iload hx hb dX5_addUpward_14 (lv_at hl 5 rfl) ?_
      refine lv_iload hx hb dX5_addUpward_16 (lv_at hl 4 rfl) ?_
      refine lv_icmp_ge (tgt := 64) hx hb dX5_addUpward_18 (by decide) (fun c2 => ?_) (fun c2 => ?_)
      · have h := br_pos c2 h
        cases h
        exact kk1 rfl _ _ _ hP hD hS (lv_sub hl [] rfl)
      · have h := br_neg c2 h
        refine lv_iload hx hb dX5_addUpward_21 (lv_at hl 5 rfl) ?_
        refine lv_if_le (tgt := 39) hx hb dX5_addUpward_23 (by decide) (fun c3 => ?_) (fun c3 => ?_)
        · have h := br_pos c3 h
          refine lv_aload_n hx hb dX5_addUpward_39 rfl (lv_at hl 0 rfl) ?_
          refine va_get (D := D) (ci := 5) (v := .ref h_t_sum) (C := RX5) (T := TX5) (N := 7) hx hb ha ix5 hown hK hP 0 rfl rfl 6 (by decide) (ha _ q266) (fun _ h9 => h9) rfl dX5_addUpward_40 ?_
          refine lv_aload_n hx hb dX5_addUpward_43 rfl (lv_at hl 2 rfl) ?_
          refine lv_iload_n hx hb dX5_addUpward_44 rfl (lv_at hl 3 rfl) ?_
          refine lv_iload hx hb dX5_addUpward_45 (lv_at hl 5 rfl) ?_
          refine lv_isub hx hb dX5_addUpward_47 ?_
          obtain ⟨r_c48_3, e_c48_3, h⟩ := bnd1_ok h
          have hP : va_P D vwCl ((h_p2, .inr (7, [.ref h_p2_bytes, .int p2_size])) :: (h_p2_bytes, .inl (k_p2_bytes, 200, .inl p2_bytes)) :: (h_t, .inr (5, [.ref h_t_power, z_t_1, z_t_2, z_t_3, z_t_4, z_t_5, .ref h_t_sum])) :: (h_t_sum, .inr (6, [.long t_sum_u, .long t_sum_v, .long t_sum_d])) :: (h_p1, .inr (3, [.int p1_a, .int p1_b, z_p1_2, z_p1_3, z_p1_4, z_p1_5, z_p1_6, z_p1_7])) :: (R ++ va_pl NL (nmE nt nu nv nd))) _ := pm_P [3, 4, 0, 1, 2] 5 hP
          have hD : va_D A ((h_p2, .inr (7, [.ref h_p2_bytes, .int p2_size])) :: (h_p2_bytes, .inl (k_p2_bytes, 200, .inl p2_bytes)) :: (h_t, .inr (5, [.ref h_t_power, z_t_1, z_t_2, z_t_3, z_t_4, z_t_5, .ref h_t_sum])) :: (h_t_sum, .inr (6, [.long t_sum_u, .long t_sum_v, .long t_sum_d])) :: (h_p1, .inr (3, [.int p1_a, .int p1_b, z_p1_2, z_p1_3, z_p1_4, z_p1_5, z_p1_6, z_p1_7])) :: (R ++ va_pl NL (nmE nt nu nv nd))) := pm_D (X := [(h_p2, .inr (7, [.ref h_p2_bytes, .int p2_size])), (h_p2_bytes, .inl (k_p2_bytes, 200, .inl p2_bytes)), (h_t, .inr (5, [.ref h_t_power, z_t_1, z_t_2, z_t_3, z_t_4, z_t_5, .ref h_t_sum])), (h_t_sum, .inr (6, [.long t_sum_u, .long t_sum_v, .long t_sum_d])), (h_p1, .inr (3, [.int p1_a, .int p1_b, z_p1_2, z_p1_3, z_p1_4, z_p1_5, z_p1_6, z_p1_7]))]) [3, 4, 0, 1, 2] 5 (by decide) (by decide) rfl hD
          refine cl_i (rn_v (ci := 7) (As := [.int (l3 - l5)]) (rest := [.ref h_t_sum]) S (c_X7_at l D ((h_t, .inr (5, [.ref h_t_power, z_t_1, z_t_2, z_t_3, z_t_4, z_t_5, .ref h_t_sum])) :: (h_t_sum, .inr (6, [.long t_sum_u, .long t_sum_v, .long t_sum_d])) :: (h_p1, .inr (3, [.int p1_a, .int p1_b, z_p1_2, z_p1_3, z_p1_4, z_p1_5, z_p1_6, z_p1_7])) :: (R ++ va_pl NL (nmE nt nu nv nd))) h_p2 p2_size h_p2_bytes k_p2_bytes p2_bytes (l3 - l5) r_c48_3 e_c48_3 _) q651 q652 q653 q49 q654 nd_X7_at ⟨Nat.le_of_ble_eq_true rfl, Nat.le_of_ble_eq_true rfl⟩ rfl rfl hP hD (hK.sub (tys' := [(k_p2_bytes, .byte)]) [0] rfl) hN rfl ⟨0, _, rfl⟩ rfl hl.1 rfl (Nat.le_of_ble_eq_true rfl) dX5_addUpward_48 ⟨Nat.le_of_ble_eq_true rfl, Nat.le_of_ble_eq_true rfl⟩) hS hA hD (fun H locs hP hD hS => ?_)
          have hP : va_P D vwCl ((h_t, .inr (5, [.ref h_t_power, z_t_1, z_t_2, z_t_3, z_t_4, z_t_5, .ref h_t_sum])) :: (h_t_sum, .inr (6, [.long t_sum_u, .long t_sum_v, .long t_sum_d])) :: (h_p1, .inr (3, [.int p1_a, .int p1_b, z_p1_2, z_p1_3, z_p1_4, z_p1_5, z_p1_6, z_p1_7])) :: (h_p2, .inr (7, [.ref h_p2_bytes, .int p2_size])) :: (h_p2_bytes, .inl (k_p2_bytes, 200, .inl p2_bytes)) :: (R ++ va_pl NL (nmE nt nu nv nd))) H := pm_P [2, 3, 4, 0, 1] 5 hP
          have hD : va_D A ((h_t, .inr (5, [.ref h_t_power, z_t_1, z_t_2, z_t_3, z_t_4, z_t_5, .ref h_t_sum])) :: (h_t_sum, .inr (6, [.long t_sum_u, .long t_sum_v, .long t_sum_d])) :: (h_p1, .inr (3, [.int p1_a, .int p1_b, z_p1_2, z_p1_3, z_p1_4, z_p1_5, z_p1_6, z_p1_7])) :: (h_p2, .inr (7, [.ref h_p2_bytes, .int p2_size])) :: (h_p2_bytes, .inl (k_p2_bytes, 200, .inl p2_bytes)) :: (R ++ va_pl NL (nmE nt nu nv nd))) := pm_D (X := [(h_t, .inr (5, [.ref h_t_power, z_t_1, z_t_2, z_t_3, z_t_4, z_t_5, .ref h_t_sum])), (h_t_sum, .inr (6, [.long t_sum_u, .long t_sum_v, .long t_sum_d])), (h_p1, .inr (3, [.int p1_a, .int p1_b, z_p1_2, z_p1_3, z_p1_4, z_p1_5, z_p1_6, z_p1_7])), (h_p2, .inr (7, [.ref h_p2_bytes, .int p2_size])), (h_p2_bytes, .inl (k_p2_bytes, 200, .inl p2_bytes))]) [2, 3, 4, 0, 1] 5 (by decide) (by decide) rfl hD
          refine lv_aload_n hx hb dX5_addUpward_51 rfl (lv_at hl 0 rfl) ?_
          refine va_get (D := D) (ci := 5) (v := .ref h_t_power) (C := RX5) (T := TX5) (N := 7) hx hb ha ix5 hown hK hP 0 rfl rfl 0 (by decide) (ha _ q259) (fun _ h9 => h9) rfl dX5_addUpward_52 ?_
          obtain ⟨t_sum_u_c55_4, t_sum_v_c55_4, t_sum_d_c55_4, e_c55_4, h⟩ := bnd3_ok h
          have hP : va_P D vwCl ((h_t_sum, .inr (6, [.long t_sum_u, .long t_sum_v, .long t_sum_d])) :: (h_t, .inr (5, [.ref h_t_power, z_t_1, z_t_2, z_t_3, z_t_4, z_t_5, .ref h_t_sum])) :: (h_p1, .inr (3, [.int p1_a, .int p1_b, z_p1_2, z_p1_3, z_p1_4, z_p1_5, z_p1_6, z_p1_7])) :: (h_p2, .inr (7, [.ref h_p2_bytes, .int p2_size])) :: (h_p2_bytes, .inl (k_p2_bytes, 200, .inl p2_bytes)) :: (R ++ va_pl NL (nmE nt nu nv nd))) _ := pm_P [1, 0, 2, 3, 4] 5 hP
          have hD : va_D A ((h_t_sum, .inr (6, [.long t_sum_u, .long t_sum_v, .long t_sum_d])) :: (h_t, .inr (5, [.ref h_t_power, z_t_1, z_t_2, z_t_3, z_t_4, z_t_5, .ref h_t_sum])) :: (h_p1, .inr (3, [.int p1_a, .int p1_b, z_p1_2, z_p1_3, z_p1_4, z_p1_5, z_p1_6, z_p1_7])) :: (h_p2, .inr (7, [.ref h_p2_bytes, .int p2_size])) :: (h_p2_bytes, .inl (k_p2_bytes, 200, .inl p2_bytes)) :: (R ++ va_pl NL (nmE nt nu nv nd))) := pm_D (X := [(h_t_sum, .inr (6, [.long t_sum_u, .long t_sum_v, .long t_sum_d])), (h_t, .inr (5, [.ref h_t_power, z_t_1, z_t_2, z_t_3, z_t_4, z_t_5, .ref h_t_sum])), (h_p1, .inr (3, [.int p1_a, .int p1_b, z_p1_2, z_p1_3, z_p1_4, z_p1_5, z_p1_6, z_p1_7])), (h_p2, .inr (7, [.ref h_p2_bytes, .int p2_size])), (h_p2_bytes, .inl (k_p2_bytes, 200, .inl p2_bytes))]) [1, 0, 2, 3, 4] 5 (by decide) (by decide) rfl hD
          refine cl_v (rn_v (ci := 6) (As := [.int r_c48_3, .ref h_t_power]) (rest := []) S (c_X6_add l D ((h_t, .inr (5, [.ref h_t_power, z_t_1, z_t_2, z_t_3, z_t_4, z_t_5, .ref h_t_sum])) :: (h_p1, .inr (3, [.int p1_a, .int p1_b, z_p1_2, z_p1_3, z_p1_4, z_p1_5, z_p1_6, z_p1_7])) :: (h_p2, .inr (7, [.ref h_p2_bytes, .int p2_size])) :: (h_p2_bytes, .inl (k_p2_bytes, 200, .inl p2_bytes)) :: R) NL nt nu nv nd h_t_sum t_sum_u t_sum_v t_sum_d r_c48_3 h_t_power t_sum_u_c55_4 t_sum_v_c55_4 t_sum_d_c55_4 hm_t_power e_c55_4 _) q655 q656 q657 q55 q658 nd_X6_add ⟨Nat.le_of_ble_eq_true rfl, Nat.le_of_ble_eq_true rfl⟩ rfl rfl hP hD (hK.sub (tys' := []) [] rfl) hN rfl ⟨0, _, rfl⟩ rfl hl.1 rfl (Nat.le_of_ble_eq_true rfl) dX5_addUpward_55 ⟨Nat.le_of_ble_eq_true rfl, Nat.le_of_ble_eq_true rfl⟩) hS hA hD (fun H locs hP hD hS => ?_)
          have hP : va_P D vwCl ((h_t, .inr (5, [.ref h_t_power, z_t_1, z_t_2, z_t_3, z_t_4, z_t_5, .ref h_t_sum])) :: (h_t_sum, .inr (6, [.long t_sum_u_c55_4, .long t_sum_v_c55_4, .long t_sum_d_c55_4])) :: (h_p1, .inr (3, [.int p1_a, .int p1_b, z_p1_2, z_p1_3, z_p1_4, z_p1_5, z_p1_6, z_p1_7])) :: (h_p2, .inr (7, [.ref h_p2_bytes, .int p2_size])) :: (h_p2_bytes, .inl (k_p2_bytes, 200, .inl p2_bytes)) :: (R ++ va_pl NL (nmE nt nu nv nd))) H := pm_P [1, 0, 2, 3, 4] 5 hP
          have hD : va_D A ((h_t, .inr (5, [.ref h_t_power, z_t_1, z_t_2, z_t_3, z_t_4, z_t_5, .ref h_t_sum])) :: (h_t_sum, .inr (6, [.long t_sum_u_c55_4, .long t_sum_v_c55_4, .long t_sum_d_c55_4])) :: (h_p1, .inr (3, [.int p1_a, .int p1_b, z_p1_2, z_p1_3, z_p1_4, z_p1_5, z_p1_6, z_p1_7])) :: (h_p2, .inr (7, [.ref h_p2_bytes, .int p2_size])) :: (h_p2_bytes, .inl (k_p2_bytes, 200, .inl p2_bytes)) :: (R ++ va_pl NL (nmE nt nu nv nd))) := pm_D (X := [(h_t, .inr (5, [.ref h_t_power, z_t_1, z_t_2, z_t_3, z_t_4, z_t_5, .ref h_t_sum])), (h_t_sum, .inr (6, [.long t_sum_u_c55_4, .long t_sum_v_c55_4, .long t_sum_d_c55_4])), (h_p1, .inr (3, [.int p1_a, .int p1_b, z_p1_2, z_p1_3, z_p1_4, z_p1_5, z_p1_6, z_p1_7])), (h_p2, .inr (7, [.ref h_p2_bytes, .int p2_size])), (h_p2_bytes, .inl (k_p2_bytes, 200, .inl p2_bytes))]) [1, 0, 2, 3, 4] 5 (by decide) (by decide) rfl hD
          refine lv_iinc (v := (l5 + 1)) (lv' := [(5, .int (l5 + 1)), (0, .ref h_t), (1, .ref h_p1), (2, .ref h_p2), (3, .int l3), (4, .int l4)]) hx hb dX5_addUpward_58 hl (k := 5) rfl rfl (by decide) rfl (fun ls hl => ?_)
          refine lv_goto (tgt := 14) hx hb dX5_addUpward_61 (by decide) ?_
          exact ih l3 l4 (l5 + 1) t_sum_u_c55_4 t_sum_v_c55_4 t_sum_d_c55_4 nt nu nv nd _ _ _ _ _ _ _ _ h _ _ _ hP hD hS (lv_sub hl [1, 2, 3, 4, 5, 0] rfl) kk0 kk1
        · have h := br_neg c3 h
          refine lv_aload_n hx hb dX5_addUpward_26 rfl (lv_at hl 1 rfl) ?_
          refine lv_aload_n hx hb dX5_addUpward_27 rfl (lv_at hl 0 rfl) ?_
          refine va_get (D := D) (ci := 5) (v := .ref h_t_power) (C := RX5) (T := TX5) (N := 7) hx hb ha ix5 hown hK hP 0 rfl rfl 0 (by decide) (ha _ q259) (fun _ h9 => h9) rfl dX5_addUpward_28 ?_
          obtain ⟨r_c31_5, nt_c31_5, nu_c31_5, nv_c31_5, nd_c31_5, e_c31_5, h⟩ := bnd5_ok h
          have hP : va_P D vwCl ((h_p1, .inr (3, [.int p1_a, .int p1_b, z_p1_2, z_p1_3, z_p1_4, z_p1_5, z_p1_6, z_p1_7])) :: (h_t, .inr (5, [.ref h_t_power, z_t_1, z_t_2, z_t_3, z_t_4, z_t_5, .ref h_t_sum])) :: (h_t_sum, .inr (6, [.long t_sum_u, .long t_sum_v, .long t_sum_d])) :: (h_p2, .inr (7, [.ref h_p2_bytes, .int p2_size])) :: (h_p2_bytes, .inl (k_p2_bytes, 200, .inl p2_bytes)) :: (R ++ va_pl NL (nmE nt nu nv nd))) _ := pm_P [2, 0, 1, 3, 4] 5 hP
          have hD : va_D A ((h_p1, .inr (3, [.int p1_a, .int p1_b, z_p1_2, z_p1_3, z_p1_4, z_p1_5, z_p1_6, z_p1_7])) :: (h_t, .inr (5, [.ref h_t_power, z_t_1, z_t_2, z_t_3, z_t_4, z_t_5, .ref h_t_sum])) :: (h_t_sum, .inr (6, [.long t_sum_u, .long t_sum_v, .long t_sum_d])) :: (h_p2, .inr (7, [.ref h_p2_bytes, .int p2_size])) :: (h_p2_bytes, .inl (k_p2_bytes, 200, .inl p2_bytes)) :: (R ++ va_pl NL (nmE nt nu nv nd))) := pm_D (X := [(h_p1, .inr (3, [.int p1_a, .int p1_b, z_p1_2, z_p1_3, z_p1_4, z_p1_5, z_p1_6, z_p1_7])), (h_t, .inr (5, [.ref h_t_power, z_t_1, z_t_2, z_t_3, z_t_4, z_t_5, .ref h_t_sum])), (h_t_sum, .inr (6, [.long t_sum_u, .long t_sum_v, .long t_sum_d])), (h_p2, .inr (7, [.ref h_p2_bytes, .int p2_size])), (h_p2_bytes, .inl (k_p2_bytes, 200, .inl p2_bytes))]) [2, 0, 1, 3, 4] 5 (by decide) (by decide) rfl hD
          refine cl_z (rn_v (ci := 3) (As := [.ref h_t_power]) (rest := []) S (c_X3_multiplyByX l D ((h_t, .inr (5, [.ref h_t_power, z_t_1, z_t_2, z_t_3, z_t_4, z_t_5, .ref h_t_sum])) :: (h_t_sum, .inr (6, [.long t_sum_u, .long t_sum_v, .long t_sum_d])) :: (h_p2, .inr (7, [.ref h_p2_bytes, .int p2_size])) :: (h_p2_bytes, .inl (k_p2_bytes, 200, .inl p2_bytes)) :: R) NL nt nu nv nd h_p1 p1_a p1_b (z_p1_2) (z_p1_3) (z_p1_4) (z_p1_5) (z_p1_6) (z_p1_7) h_t_power r_c31_5 nt_c31_5 nu_c31_5 nv_c31_5 nd_c31_5 hm_t_power e_c31_5 _) q647 q648 q649 q50 q650 nd_X3_multiplyByX ⟨Nat.le_of_ble_eq_true rfl, Nat.le_of_ble_eq_true rfl⟩ rfl rfl hP hD (hK.sub (tys' := []) [] rfl) hN rfl ⟨0, _, rfl⟩ rfl hl.1 rfl (Nat.le_of_ble_eq_true rfl) dX5_addUpward_31 ⟨Nat.le_of_ble_eq_true rfl, Nat.le_of_ble_eq_true rfl⟩) hS hA hD (fun H locs hP hD hS z_c31_5 => ?_)
          have hP : va_P D vwCl ((h_t, .inr (5, [.ref h_t_power, z_t_1, z_t_2, z_t_3, z_t_4, z_t_5, .ref h_t_sum])) :: (h_t_sum, .inr (6, [.long t_sum_u, .long t_sum_v, .long t_sum_d])) :: (h_p1, .inr (3, [.int p1_a, .int p1_b, z_p1_2, z_p1_3, z_p1_4, z_p1_5, z_p1_6, z_p1_7])) :: (h_p2, .inr (7, [.ref h_p2_bytes, .int p2_size])) :: (h_p2_bytes, .inl (k_p2_bytes, 200, .inl p2_bytes)) :: (R ++ va_pl NL (nmE nt_c31_5 nu_c31_5 nv_c31_5 nd_c31_5))) H := pm_P [1, 2, 0, 3, 4] 5 hP
          have hD : va_D A ((h_t, .inr (5, [.ref h_t_power, z_t_1, z_t_2, z_t_3, z_t_4, z_t_5, .ref h_t_sum])) :: (h_t_sum, .inr (6, [.long t_sum_u, .long t_sum_v, .long t_sum_d])) :: (h_p1, .inr (3, [.int p1_a, .int p1_b, z_p1_2, z_p1_3, z_p1_4, z_p1_5, z_p1_6, z_p1_7])) :: (h_p2, .inr (7, [.ref h_p2_bytes, .int p2_size])) :: (h_p2_bytes, .inl (k_p2_bytes, 200, .inl p2_bytes)) :: (R ++ va_pl NL (nmE nt_c31_5 nu_c31_5 nv_c31_5 nd_c31_5))) := pm_D (X := [(h_t, .inr (5, [.ref h_t_power, z_t_1, z_t_2, z_t_3, z_t_4, z_t_5, .ref h_t_sum])), (h_t_sum, .inr (6, [.long t_sum_u, .long t_sum_v, .long t_sum_d])), (h_p1, .inr (3, [.int p1_a, .int p1_b, z_p1_2, z_p1_3, z_p1_4, z_p1_5, z_p1_6, z_p1_7])), (h_p2, .inr (7, [.ref h_p2_bytes, .int p2_size])), (h_p2_bytes, .inl (k_p2_bytes, 200, .inl p2_bytes))]) [1, 2, 0, 3, 4] 5 (by decide) (by decide) rfl hD
          refine lv_if_ne (tgt := 39) hx hb dX5_addUpward_34 (by decide) (fun c7 => ?_) (fun c7 => ?_)
          · have h := br_neg c7 h
            refine lv_aload_n hx hb dX5_addUpward_39 rfl (lv_at hl 0 rfl) ?_
            refine va_get (D := D) (ci := 5) (v := .ref h_t_sum) (C := RX5) (T := TX5) (N := 7) hx hb ha ix5 hown hK hP 0 rfl rfl 6 (by decide) (ha _ q266) (fun _ h9 => h9) rfl dX5_addUpward_40 ?_
            refine lv_aload_n hx hb dX5_addUpward_43 rfl (lv_at hl 2 rfl) ?_
            refine lv_iload_n hx hb dX5_addUpward_44 rfl (lv_at hl 3 rfl) ?_
            refine lv_iload hx hb dX5_addUpward_45 (lv_at hl 5 rfl) ?_
            refine lv_isub hx hb dX5_addUpward_47 ?_
            obtain ⟨r_c48_7, e_c48_7, h⟩ := bnd1_ok h
            have hP : va_P D vwCl ((h_p2, .inr (7, [.ref h_p2_bytes, .int p2_size])) :: (h_p2_bytes, .inl (k_p2_bytes, 200, .inl p2_bytes)) :: (h_t, .inr (5, [.ref h_t_power, z_t_1, z_t_2, z_t_3, z_t_4, z_t_5, .ref h_t_sum])) :: (h_t_sum, .inr (6, [.long t_sum_u, .long t_sum_v, .long t_sum_d])) :: (h_p1, .inr (3, [.int p1_a, .int p1_b, z_p1_2, z_p1_3, z_p1_4, z_p1_5, z_p1_6, z_p1_7])) :: (R ++ va_pl NL (nmE nt_c31_5 nu_c31_5 nv_c31_5 nd_c31_5))) _ := pm_P [3, 4, 0, 1, 2] 5 hP
            have hD : va_D A ((h_p2, .inr (7, [.ref h_p2_bytes, .int p2_size])) :: (h_p2_bytes, .inl (k_p2_bytes, 200, .inl p2_bytes)) :: (h_t, .inr (5, [.ref h_t_power, z_t_1, z_t_2, z_t_3, z_t_4, z_t_5, .ref h_t_sum])) :: (h_t_sum, .inr (6, [.long t_sum_u, .long t_sum_v, .long t_sum_d])) :: (h_p1, .inr (3, [.int p1_a, .int p1_b, z_p1_2, z_p1_3, z_p1_4, z_p1_5, z_p1_6, z_p1_7])) :: (R ++ va_pl NL (nmE nt_c31_5 nu_c31_5 nv_c31_5 nd_c31_5))) := pm_D (X := [(h_p2, .inr (7, [.ref h_p2_bytes, .int p2_size])), (h_p2_bytes, .inl (k_p2_bytes, 200, .inl p2_bytes)), (h_t, .inr (5, [.ref h_t_power, z_t_1, z_t_2, z_t_3, z_t_4, z_t_5, .ref h_t_sum])), (h_t_sum, .inr (6, [.long t_sum_u, .long t_sum_v, .long t_sum_d])), (h_p1, .inr (3, [.int p1_a, .int p1_b, z_p1_2, z_p1_3, z_p1_4, z_p1_5, z_p1_6, z_p1_7]))]) [3, 4, 0, 1, 2] 5 (by decide) (by decide) rfl hD
            refine cl_i (rn_v (ci := 7) (As := [.int (l3 - l5)]) (rest := [.ref h_t_sum]) S (c_X7_at l D ((h_t, .inr (5, [.ref h_t_power, z_t_1, z_t_2, z_t_3, z_t_4, z_t_5, .ref h_t_sum])) :: (h_t_sum, .inr (6, [.long t_sum_u, .long t_sum_v, .long t_sum_d])) :: (h_p1, .inr (3, [.int p1_a, .int p1_b, z_p1_2, z_p1_3, z_p1_4, z_p1_5, z_p1_6, z_p1_7])) :: (R ++ va_pl NL (nmE nt_c31_5 nu_c31_5 nv_c31_5 nd_c31_5))) h_p2 p2_size h_p2_bytes k_p2_bytes p2_bytes (l3 - l5) r_c48_7 e_c48_7 _) q651 q652 q653 q49 q654 nd_X7_at ⟨Nat.le_of_ble_eq_true rfl, Nat.le_of_ble_eq_true rfl⟩ rfl rfl hP hD (hK.sub (tys' := [(k_p2_bytes, .byte)]) [0] rfl) hN rfl ⟨0, _, rfl⟩ rfl hl.1 rfl (Nat.le_of_ble_eq_true rfl) dX5_addUpward_48 ⟨Nat.le_of_ble_eq_true rfl, Nat.le_of_ble_eq_true rfl⟩) hS hA hD (fun H locs hP hD hS => ?_)
            have hP : va_P D vwCl ((h_t, .inr (5, [.ref h_t_power, z_t_1, z_t_2, z_t_3, z_t_4, z_t_5, .ref h_t_sum])) :: (h_t_sum, .inr (6, [.long t_sum_u, .long t_sum_v, .long t_sum_d])) :: (h_p1, .inr (3, [.int p1_a, .int p1_b, z_p1_2, z_p1_3, z_p1_4, z_p1_5, z_p1_6, z_p1_7])) :: (h_p2, .inr (7, [.ref h_p2_bytes, .int p2_size])) :: (h_p2_bytes, .inl (k_p2_bytes, 200, .inl p2_bytes)) :: (R ++ va_pl NL (nmE nt_c31_5 nu_c31_5 nv_c31_5 nd_c31_5))) H := pm_P [2, 3, 4, 0, 1] 5 hP
            have hD : va_D A ((h_t, .inr (5, [.ref h_t_power, z_t_1, z_t_2, z_t_3, z_t_4, z_t_5, .ref h_t_sum])) :: (h_t_sum, .inr (6, [.long t_sum_u, .long t_sum_v, .long t_sum_d])) :: (h_p1, .inr (3, [.int p1_a, .int p1_b, z_p1_2, z_p1_3, z_p1_4, z_p1_5, z_p1_6, z_p1_7])) :: (h_p2, .inr (7, [.ref h_p2_bytes, .int p2_size])) :: (h_p2_bytes, .inl (k_p2_bytes, 200, .inl p2_bytes)) :: (R ++ va_pl NL (nmE nt_c31_5 nu_c31_5 nv_c31_5 nd_c31_5))) := pm_D (X := [(h_t, .inr (5, [.ref h_t_power, z_t_1, z_t_2, z_t_3, z_t_4, z_t_5, .ref h_t_sum])), (h_t_sum, .inr (6, [.long t_sum_u, .long t_sum_v, .long t_sum_d])), (h_p1, .inr (3, [.int p1_a, .int p1_b, z_p1_2, z_p1_3, z_p1_4, z_p1_5, z_p1_6, z_p1_7])), (h_p2, .inr (7, [.ref h_p2_bytes, .int p2_size])), (h_p2_bytes, .inl (k_p2_bytes, 200, .inl p2_bytes))]) [2, 3, 4, 0, 1] 5 (by decide) (by decide) rfl hD
            refine lv_aload_n hx hb dX5_addUpward_51 rfl (lv_at hl 0 rfl) ?_
            refine va_get (D := D) (ci := 5) (v := .ref h_t_power) (C := RX5) (T := TX5) (N := 7) hx hb ha ix5 hown hK hP 0 rfl rfl 0 (by decide) (ha _ q259) (fun _ h9 => h9) rfl dX5_addUpward_52 ?_
            obtain ⟨t_sum_u_c55_8, t_sum_v_c55_8, t_sum_d_c55_8, e_c55_8, h⟩ := bnd3_ok h
            have hP : va_P D vwCl ((h_t_sum, .inr (6, [.long t_sum_u, .long t_sum_v, .long t_sum_d])) :: (h_t, .inr (5, [.ref h_t_power, z_t_1, z_t_2, z_t_3, z_t_4, z_t_5, .ref h_t_sum])) :: (h_p1, .inr (3, [.int p1_a, .int p1_b, z_p1_2, z_p1_3, z_p1_4, z_p1_5, z_p1_6, z_p1_7])) :: (h_p2, .inr (7, [.ref h_p2_bytes, .int p2_size])) :: (h_p2_bytes, .inl (k_p2_bytes, 200, .inl p2_bytes)) :: (R ++ va_pl NL (nmE nt_c31_5 nu_c31_5 nv_c31_5 nd_c31_5))) _ := pm_P [1, 0, 2, 3, 4] 5 hP
            have hD : va_D A ((h_t_sum, .inr (6, [.long t_sum_u, .long t_sum_v, .long t_sum_d])) :: (h_t, .inr (5, [.ref h_t_power, z_t_1, z_t_2, z_t_3, z_t_4, z_t_5, .ref h_t_sum])) :: (h_p1, .inr (3, [.int p1_a, .int p1_b, z_p1_2, z_p1_3, z_p1_4, z_p1_5, z_p1_6, z_p1_7])) :: (h_p2, .inr (7, [.ref h_p2_bytes, .int p2_size])) :: (h_p2_bytes, .inl (k_p2_bytes, 200, .inl p2_bytes)) :: (R ++ va_pl NL (nmE nt_c31_5 nu_c31_5 nv_c31_5 nd_c31_5))) := pm_D (X := [(h_t_sum, .inr (6, [.long t_sum_u, .long t_sum_v, .long t_sum_d])), (h_t, .inr (5, [.ref h_t_power, z_t_1, z_t_2, z_t_3, z_t_4, z_t_5, .ref h_t_sum])), (h_p1, .inr (3, [.int p1_a, .int p1_b, z_p1_2, z_p1_3, z_p1_4, z_p1_5, z_p1_6, z_p1_7])), (h_p2, .inr (7, [.ref h_p2_bytes, .int p2_size])), (h_p2_bytes, .inl (k_p2_bytes, 200, .inl p2_bytes))]) [1, 0, 2, 3, 4] 5 (by decide) (by decide) rfl hD
            refine cl_v (rn_v (ci := 6) (As := [.int r_c48_7, .ref h_t_power]) (rest := []) S (c_X6_add l D ((h_t, .inr (5, [.ref h_t_power, z_t_1, z_t_2, z_t_3, z_t_4, z_t_5, .ref h_t_sum])) :: (h_p1, .inr (3, [.int p1_a, .int p1_b, z_p1_2, z_p1_3, z_p1_4, z_p1_5, z_p1_6, z_p1_7])) :: (h_p2, .inr (7, [.ref h_p2_bytes, .int p2_size])) :: (h_p2_bytes, .inl (k_p2_bytes, 200, .inl p2_bytes)) :: R) NL nt_c31_5 nu_c31_5 nv_c31_5 nd_c31_5 h_t_sum t_sum_u t_sum_v t_sum_d r_c48_7 h_t_power t_sum_u_c55_8 t_sum_v_c55_8 t_sum_d_c55_8 hm_t_power e_c55_8 _) q655 q656 q657 q55 q658 nd_X6_add ⟨Nat.le_of_ble_eq_true rfl, Nat.le_of_ble_eq_true rfl⟩ rfl rfl hP hD (hK.sub (tys' := []) [] rfl) hN rfl ⟨0, _, rfl⟩ rfl hl.1 rfl (Nat.le_of_ble_eq_true rfl) dX5_addUpward_55 ⟨Nat.le_of_ble_eq_true rfl, Nat.le_of_ble_eq_true rfl⟩) hS hA hD (fun H locs hP hD hS => ?_)
            have hP : va_P D vwCl ((h_t, .inr (5, [.ref h_t_power, z_t_1, z_t_2, z_t_3, z_t_4, z_t_5, .ref h_t_sum])) :: (h_t_sum, .inr (6, [.long t_sum_u_c55_8, .long t_sum_v_c55_8, .long t_sum_d_c55_8])) :: (h_p1, .inr (3, [.int p1_a, .int p1_b, z_p1_2, z_p1_3, z_p1_4, z_p1_5, z_p1_6, z_p1_7])) :: (h_p2, .inr (7, [.ref h_p2_bytes, .int p2_size])) :: (h_p2_bytes, .inl (k_p2_bytes, 200, .inl p2_bytes)) :: (R ++ va_pl NL (nmE nt_c31_5 nu_c31_5 nv_c31_5 nd_c31_5))) H := pm_P [1, 0, 2, 3, 4] 5 hP
            have hD : va_D A ((h_t, .inr (5, [.ref h_t_power, z_t_1, z_t_2, z_t_3, z_t_4, z_t_5, .ref h_t_sum])) :: (h_t_sum, .inr (6, [.long t_sum_u_c55_8, .long t_sum_v_c55_8, .long t_sum_d_c55_8])) :: (h_p1, .inr (3, [.int p1_a, .int p1_b, z_p1_2, z_p1_3, z_p1_4, z_p1_5, z_p1_6, z_p1_7])) :: (h_p2, .inr (7, [.ref h_p2_bytes, .int p2_size])) :: (h_p2_bytes, .inl (k_p2_bytes, 200, .inl p2_bytes)) :: (R ++ va_pl NL (nmE nt_c31_5 nu_c31_5 nv_c31_5 nd_c31_5))) := pm_D (X := [(h_t, .inr (5, [.ref h_t_power, z_t_1, z_t_2, z_t_3, z_t_4, z_t_5, .ref h_t_sum])), (h_t_sum, .inr (6, [.long t_sum_u_c55_8, .long t_sum_v_c55_8, .long t_sum_d_c55_8])), (h_p1, .inr (3, [.int p1_a, .int p1_b, z_p1_2, z_p1_3, z_p1_4, z_p1_5, z_p1_6, z_p1_7])), (h_p2, .inr (7, [.ref h_p2_bytes, .int p2_size])), (h_p2_bytes, .inl (k_p2_bytes, 200, .inl p2_bytes))]) [1, 0, 2, 3, 4] 5 (by decide) (by decide) rfl hD
            refine lv_iinc (v := (l5 + 1)) (lv' := [(5, .int (l5 + 1)), (0, .ref h_t), (1, .ref h_p1), (2, .ref h_p2), (3, .int l3), (4, .int l4)]) hx hb dX5_addUpward_58 hl (k := 5) rfl rfl (by decide) rfl (fun ls hl => ?_)
            refine lv_goto (tgt := 14) hx hb dX5_addUpward_61 (by decide) ?_
            exact ih l3 l4 (l5 + 1) t_sum_u_c55_8 t_sum_v_c55_8 t_sum_d_c55_8 nt_c31_5 nu_c31_5 nv_c31_5 nd_c31_5 _ _ _ _ _ _ _ _ h _ _ _ hP hD hS (lv_sub hl [1, 2, 3, 4, 5, 0] rfl) kk0 kk1
          · have h := br_pos c7 h
            cases h
            exact kk0 rfl _ _ _ hP hD hS (lv_sub hl [] rfl)
  unfold f_X5_addUpward at h
  refine lv_aload_n hx hb dX5_addUpward_0 rfl (lv_at hl 0 rfl) ?_
  refine va_get (D := D) (ci := 5) (v := .ref h_t_power) (C := RX5) (T := TX5) (N := 7) hx hb ha ix5 hown hK hP 0 rfl rfl 0 (by decide) (ha _ q259) (fun _ h9 => h9) rfl dX5_addUpward_1 ?_
  refine lv_lconst (v := 1) hx hb dX5_addUpward_4 (by decide) ?_
  refine lv_lconst (v := 0) hx hb dX5_addUpward_5 (by decide) ?_
  refine lv_lconst (v := 1) hx hb dX5_addUpward_6 (by decide) ?_
  obtain ⟨r_c7_0, nt_c7_0, nu_c7_0, nv_c7_0, nd_c7_0, e_c7_0, h⟩ := bnd5_ok h
  refine cl_z (rn_v (ci := 0) (As := [.long 1, .long 0, .long 1]) (rest := []) S (c_X0_take l D ((h_t, .inr (5, [.ref h_t_power, z_t_1, z_t_2, z_t_3, z_t_4, z_t_5, .ref h_t_sum])) :: (h_t_sum, .inr (6, [.long t_sum_u, .long t_sum_v, .long t_sum_d])) :: (h_p1, .inr (3, [.int p1_a, .int p1_b, z_p1_2, z_p1_3, z_p1_4, z_p1_5, z_p1_6, z_p1_7])) :: (h_p2, .inr (7, [.ref h_p2_bytes, .int p2_size])) :: (h_p2_bytes, .inl (k_p2_bytes, 200, .inl p2_bytes)) :: R) NL nt nu nv nd h_t_power 1 0 1 r_c7_0 nt_c7_0 nu_c7_0 nv_c7_0 nd_c7_0 hm_t_power e_c7_0 _) q646 q512 q513 q51 q514 nd_X0_take ⟨Nat.le_of_ble_eq_true rfl, Nat.le_of_ble_eq_true rfl⟩ rfl rfl hP hD (hK.sub (tys' := []) [] rfl) hN rfl (rc_num (Y := ((h_t, .inr (5, [.ref h_t_power, z_t_1, z_t_2, z_t_3, z_t_4, z_t_5, .ref h_t_sum])) :: (h_t_sum, .inr (6, [.long t_sum_u, .long t_sum_v, .long t_sum_d])) :: (h_p1, .inr (3, [.int p1_a, .int p1_b, z_p1_2, z_p1_3, z_p1_4, z_p1_5, z_p1_6, z_p1_7])) :: (h_p2, .inr (7, [.ref h_p2_bytes, .int p2_size])) :: (h_p2_bytes, .inl (k_p2_bytes, 200, .inl p2_bytes)) :: R)) hm_t_power) rfl hl.1 rfl (Nat.le_of_ble_eq_true rfl) dX5_addUpward_7 ⟨Nat.le_of_ble_eq_true rfl, Nat.le_of_ble_eq_true rfl⟩) hS hA hD (fun H locs hP hD hS z_c7_0 => ?_)
  have hP : va_P D vwCl ((h_t, .inr (5, [.ref h_t_power, z_t_1, z_t_2, z_t_3, z_t_4, z_t_5, .ref h_t_sum])) :: (h_t_sum, .inr (6, [.long t_sum_u, .long t_sum_v, .long t_sum_d])) :: (h_p1, .inr (3, [.int p1_a, .int p1_b, z_p1_2, z_p1_3, z_p1_4, z_p1_5, z_p1_6, z_p1_7])) :: (h_p2, .inr (7, [.ref h_p2_bytes, .int p2_size])) :: (h_p2_bytes, .inl (k_p2_bytes, 200, .inl p2_bytes)) :: (R ++ va_pl NL (nmE nt_c7_0 nu_c7_0 nv_c7_0 nd_c7_0))) H := hP
  have hD : va_D A ((h_t, .inr (5, [.ref h_t_power, z_t_1, z_t_2, z_t_3, z_t_4, z_t_5, .ref h_t_sum])) :: (h_t_sum, .inr (6, [.long t_sum_u, .long t_sum_v, .long t_sum_d])) :: (h_p1, .inr (3, [.int p1_a, .int p1_b, z_p1_2, z_p1_3, z_p1_4, z_p1_5, z_p1_6, z_p1_7])) :: (h_p2, .inr (7, [.ref h_p2_bytes, .int p2_size])) :: (h_p2_bytes, .inl (k_p2_bytes, 200, .inl p2_bytes)) :: (R ++ va_pl NL (nmE nt_c7_0 nu_c7_0 nv_c7_0 nd_c7_0))) := hD
  refine lv_pop hx hb dX5_addUpward_10 rfl ?_
  refine lv_iconst (v := 0) hx hb dX5_addUpward_11 (by decide) ?_
  refine lv_istore (lv' := [(5, .int 0), (0, .ref h_t), (1, .ref h_p1), (2, .ref h_p2), (3, .int l3), (4, .int l4)]) hx hb dX5_addUpward_12 hl (by decide) rfl (fun ls hl => ?_)
  obtain ⟨tg_L14_9, x_t_sum_u_L14_9, x_t_sum_v_L14_9, x_t_sum_d_L14_9, x_nt_L14_9, x_nu_L14_9, x_nv_L14_9, x_nd_L14_9, e_L14_9, h⟩ := bnd8_ok h
  refine L14 _ _ l3 l4 0 t_sum_u t_sum_v t_sum_d nt_c7_0 nu_c7_0 nv_c7_0 nd_c7_0 tg_L14_9 x_t_sum_u_L14_9 x_t_sum_v_L14_9 x_t_sum_d_L14_9 x_nt_L14_9 x_nu_L14_9 x_nv_L14_9 x_nd_L14_9 e_L14_9 _ _ _ hP hD hS (lv_sub hl [1, 2, 3, 4, 5, 0] rfl) ?_ ?_
  · intro q9 H locs ls hP hD hS hl
    have h := br_pos q9 h
    refine lv_iconst (v := 0) hx hb dX5_addUpward_37 (by decide) ?_
    cases h
    exact rt_z S hr hlk hP hD hS (by decide) dX5_addUpward_38
  · intro q9 H locs ls hP hD hS hl
    have h := br_neg (by rw [q9]; decide) h
    refine lv_iconst (v := 1) hx hb dX5_addUpward_64 (by decide) ?_
    cases h
    exact rt_z S hr hlk hP hD hS (by decide) dX5_addUpward_65
noncomputable def f_X5_addDownward_L14 (l3 : Int32) (l4 : Int32) (p1_a : Int32) (p1_b : Int32) (p2_size : Int32) (p2_bytes : Nat → Int32) (h_t_power : Nat) : Nat → Int32 → Int64 → Int64 → Int64 → (Nat → Int32) → (Nat → Int64) → (Nat → Int64) → (Nat → Int64) →  Option (Nat × Int64 × Int64 × Int64 × (Nat → Int32) × (Nat → Int64) × (Nat → Int64) × (Nat → Int64))
  | 0, _, _, _, _, _, _, _, _ => none
  | n + 1, l5, t_sum_u, t_sum_v, t_sum_d, nt, nu, nv, nd => (
    if l4 ≤ l5 then (
     some (1, t_sum_u, t_sum_v, t_sum_d, nt, nu, nv, nd)
    ) else (
     bnd5 (f_X3_divideByX p1_a p1_b nt nu nv nd h_t_power) fun r_c26_2 nt_c26_2 nu_c26_2 nv_c26_2 nd_c26_2 => (
      if r_c26_2 = 0 then (
       some (0, t_sum_u, t_sum_v, t_sum_d, nt_c26_2, nu_c26_2, nv_c26_2, nd_c26_2)
      ) else (
       bnd1 (f_X7_at p2_size p2_bytes (l3 + l5)) fun r_c43_4 => (
        bnd3 (f_X6_add t_sum_u t_sum_v t_sum_d nu_c26_2 nv_c26_2 nd_c26_2 r_c43_4 h_t_power) fun t_sum_u_c50_5 t_sum_v_c50_5 t_sum_d_c50_5 => (
         f_X5_addDownward_L14 l3 l4 p1_a p1_b p2_size p2_bytes h_t_power n (l5 + 1) t_sum_u_c50_5 t_sum_v_c50_5 t_sum_d_c50_5 nt_c26_2 nu_c26_2 nv_c26_2 nd_c26_2
        )
       )
      )
     )
    ))
noncomputable def f_X5_addDownward (t_sum_u : Int64) (t_sum_v : Int64) (t_sum_d : Int64) (p1_a : Int32) (p1_b : Int32) (p2_size : Int32) (p2_bytes : Nat → Int32) (nt : Nat → Int32) (nu : Nat → Int64) (nv : Nat → Int64) (nd : Nat → Int64) (h_t_power : Nat) (l3 : Int32) (l4 : Int32) : Option (Int32 × Int64 × Int64 × Int64 × (Nat → Int32) × (Nat → Int64) × (Nat → Int64) × (Nat → Int64)) :=
  bnd5 (f_X0_take nt nu nv nd h_t_power 1 0 1) fun r_c7_0 nt_c7_0 nu_c7_0 nv_c7_0 nd_c7_0 => (
   bnd8 (f_X5_addDownward_L14 l3 l4 p1_a p1_b p2_size p2_bytes h_t_power FU 0 t_sum_u t_sum_v t_sum_d nt_c7_0 nu_c7_0 nv_c7_0 nd_c7_0) fun tg_L14_6 x_t_sum_u_L14_6 x_t_sum_v_L14_6 x_t_sum_d_L14_6 x_nt_L14_6 x_nu_L14_6 x_nv_L14_6 x_nd_L14_6 => (
    if tg_L14_6 = 0 then (
     some (0, x_t_sum_u_L14_6, x_t_sum_v_L14_6, x_t_sum_d_L14_6, x_nt_L14_6, x_nu_L14_6, x_nv_L14_6, x_nd_L14_6)
    ) else (
     some (1, x_t_sum_u_L14_6, x_t_sum_v_L14_6, x_t_sum_d_L14_6, x_nt_L14_6, x_nu_L14_6, x_nv_L14_6, x_nd_L14_6)
    )
   )
  )
set_option maxHeartbeats 4000000 in
set_option maxRecDepth 100000 in
theorem c_X5_addDownward (l : Launch) (D : va_G) (R : va_W) (NL : List Nat) (nt : Nat → Int32) (nu : Nat → Int64) (nv : Nat → Int64) (nd : Nat → Int64) (h_t : Nat) (h_t_power : Nat) (z_t_1 : Value) (z_t_2 : Value) (z_t_3 : Value) (z_t_4 : Value) (z_t_5 : Value) (h_t_sum : Nat) (t_sum_u : Int64) (t_sum_v : Int64) (t_sum_d : Int64) (h_p1 : Nat) (p1_a : Int32) (p1_b : Int32) (z_p1_2 : Value) (z_p1_3 : Value) (z_p1_4 : Value) (z_p1_5 : Value) (z_p1_6 : Value) (z_p1_7 : Value) (h_p2 : Nat) (p2_size : Int32) (h_p2_bytes : Nat) (k_p2_bytes : ClassId) (p2_bytes : Nat → Int32) (l3 : Int32) (l4 : Int32) (r : Int32) (o_t_sum_u : Int64) (o_t_sum_v : Int64) (o_t_sum_d : Int64) (o_nt : Nat → Int32) (o_nu : Nat → Int64) (o_nv : Nat → Int64) (o_nd : Nat → Int64) (hm_t_power : h_t_power ∈ NL) (h : f_X5_addDownward t_sum_u t_sum_v t_sum_d p1_a p1_b p2_size p2_bytes nt nu nv nd h_t_power l3 l4 = some (r, o_t_sum_u, o_t_sum_v, o_t_sum_d, o_nt, o_nu, o_nv, o_nd)) (sz : Nat) : Met l yX5_addDownward (WD yX5_addDownward cX5_addDownward 6 (some .boolean)) ({ frames := 4, cells := 0, slots := 0, locals := 107 }) (va_Pc [.ref h_t, .ref h_p1, .ref h_p2, .int l3, .int l4] (PcW D [(k_p2_bytes, .byte)] ((h_t, .inr (5, [.ref h_t_power, z_t_1, z_t_2, z_t_3, z_t_4, z_t_5, .ref h_t_sum])) :: (h_t_sum, .inr (6, [.long t_sum_u, .long t_sum_v, .long t_sum_d])) :: (h_p1, .inr (3, [.int p1_a, .int p1_b, z_p1_2, z_p1_3, z_p1_4, z_p1_5, z_p1_6, z_p1_7])) :: (h_p2, .inr (7, [.ref h_p2_bytes, .int p2_size])) :: (h_p2_bytes, .inl (k_p2_bytes, 200, .inl p2_bytes)) :: (R ++ va_pl NL (nmE nt nu nv nd))) sz)) (QZ D r ((h_t, .inr (5, [.ref h_t_power, z_t_1, z_t_2, z_t_3, z_t_4, z_t_5, .ref h_t_sum])) :: (h_t_sum, .inr (6, [.long o_t_sum_u, .long o_t_sum_v, .long o_t_sum_d])) :: (h_p1, .inr (3, [.int p1_a, .int p1_b, z_p1_2, z_p1_3, z_p1_4, z_p1_5, z_p1_6, z_p1_7])) :: (h_p2, .inr (7, [.ref h_p2_bytes, .int p2_size])) :: (h_p2_bytes, .inl (k_p2_bytes, 200, .inl p2_bytes)) :: (R ++ va_pl NL (nmE o_nt o_nu o_nv o_nd))) (va_A ((h_t, .inr (5, [.ref h_t_power, z_t_1, z_t_2, z_t_3, z_t_4, z_t_5, .ref h_t_sum])) :: (h_t_sum, .inr (6, [.long t_sum_u, .long t_sum_v, .long t_sum_d])) :: (h_p1, .inr (3, [.int p1_a, .int p1_b, z_p1_2, z_p1_3, z_p1_4, z_p1_5, z_p1_6, z_p1_7])) :: (h_p2, .inr (7, [.ref h_p2_bytes, .int p2_size])) :: (h_p2_bytes, .inl (k_p2_bytes, 200, .inl p2_bytes)) :: (R ++ va_pl NL (nmE nt nu nv nd))) sz)) 0 0 (va_A ((h_t, .inr (5, [.ref h_t_power, z_t_1, z_t_2, z_t_3, z_t_4, z_t_5, .ref h_t_sum])) :: (h_t_sum, .inr (6, [.long t_sum_u, .long t_sum_v, .long t_sum_d])) :: (h_p1, .inr (3, [.int p1_a, .int p1_b, z_p1_2, z_p1_3, z_p1_4, z_p1_5, z_p1_6, z_p1_7])) :: (h_p2, .inr (7, [.ref h_p2_bytes, .int p2_size])) :: (h_p2_bytes, .inl (k_p2_bytes, 200, .inl p2_bytes)) :: (R ++ va_pl NL (nmE nt nu nv nd))) sz) := by
  refine ct_start (QF := fun A => QZ D r ((h_t, .inr (5, [.ref h_t_power, z_t_1, z_t_2, z_t_3, z_t_4, z_t_5, .ref h_t_sum])) :: (h_t_sum, .inr (6, [.long o_t_sum_u, .long o_t_sum_v, .long o_t_sum_d])) :: (h_p1, .inr (3, [.int p1_a, .int p1_b, z_p1_2, z_p1_3, z_p1_4, z_p1_5, z_p1_6, z_p1_7])) :: (h_p2, .inr (7, [.ref h_p2_bytes, .int p2_size])) :: (h_p2_bytes, .inl (k_p2_bytes, 200, .inl p2_bytes)) :: (R ++ va_pl NL (nmE o_nt o_nu o_nv o_nd))) A) ?_ ?_ ?_
  · decide +kernel
  · exact Nat.le_of_ble_eq_true rfl
  intro p e s m args below meth c A ls S hr hlk hnm hS hA hP hD hK hN hl
  have S : CallFix p m c cX5_addDownward 6 s args AL "DigitBench$RowValue" := S
  have hx := S.1
  have hb := S.2.1
  have hown := S.2.2.2.1
  have ha := S.2.2.2.2
  have hl : lv_has ls 6 [(0, .ref h_t), (1, .ref h_p1), (2, .ref h_p2), (3, .int l3), (4, .int l4)] := hl
  have L14 : ∀ (Q : State → Prop) (n : Nat) (l3 : Int32) (l4 : Int32) (l5 : Int32) (t_sum_u : Int64) (t_sum_v : Int64) (t_sum_d : Int64) (nt : Nat → Int32) (nu : Nat → Int64) (nv : Nat → Int64) (nd : Nat → Int64) (tg : Nat) (x_t_sum_u : Int64) (x_t_sum_v : Int64) (x_t_sum_d : Int64) (x_nt : Nat → Int32) (x_nu : Nat → Int64) (x_nv : Nat → Int64) (x_nd : Nat → Int64), f_X5_addDownward_L14 l3 l4 p1_a p1_b p2_size p2_bytes h_t_power n l5 t_sum_u t_sum_v t_sum_d nt nu nv nd = some (tg, x_t_sum_u, x_t_sum_v, x_t_sum_d, x_nt, x_nu, x_nv, x_nd) → ∀ (H : Heap) (locs : List Loc) (ls : Array Slot), va_P D vwCl ((h_t, .inr (5, [.ref h_t_power, z_t_1, z_t_2, z_t_3, z_t_4, z_t_5, .ref h_t_sum])) :: (h_t_sum, .inr (6, [.long t_sum_u, .long t_sum_v, .long t_sum_d])) :: (h_p1, .inr (3, [.int p1_a, .int p1_b, z_p1_2, z_p1_3, z_p1_4, z_p1_5, z_p1_6, z_p1_7])) :: (h_p2, .inr (7, [.ref h_p2_bytes, .int p2_size])) :: (h_p2_bytes, .inl (k_p2_bytes, 200, .inl p2_bytes)) :: (R ++ va_pl NL (nmE nt nu nv nd))) H → va_D A ((h_t, .inr (5, [.ref h_t_power, z_t_1, z_t_2, z_t_3, z_t_4, z_t_5, .ref h_t_sum])) :: (h_t_sum, .inr (6, [.long t_sum_u, .long t_sum_v, .long t_sum_d])) :: (h_p1, .inr (3, [.int p1_a, .int p1_b, z_p1_2, z_p1_3, z_p1_4, z_p1_5, z_p1_6, z_p1_7])) :: (h_p2, .inr (7, [.ref h_p2_bytes, .int p2_size])) :: (h_p2_bytes, .inl (k_p2_bytes, 200, .inl p2_bytes)) :: (R ++ va_pl NL (nmE nt nu nv nd))) → va_S A s.heap H locs → lv_has ls 6 [(0, .ref h_t), (1, .ref h_p1), (2, .ref h_p2), (3, .int l3), (4, .int l4), (5, .int l5)] → (tg = 0 → ∀ (H : Heap) (locs : List Loc) (ls : Array Slot), va_P D vwCl ((h_t, .inr (5, [.ref h_t_power, z_t_1, z_t_2, z_t_3, z_t_4, z_t_5, .ref h_t_sum])) :: (h_t_sum, .inr (6, [.long x_t_sum_u, .long x_t_sum_v, .long x_t_sum_d])) :: (h_p1, .inr (3, [.int p1_a, .int p1_b, z_p1_2, z_p1_3, z_p1_4, z_p1_5, z_p1_6, z_p1_7])) :: (h_p2, .inr (7, [.ref h_p2_bytes, .int p2_size])) :: (h_p2_bytes, .inl (k_p2_bytes, 200, .inl p2_bytes)) :: (R ++ va_pl NL (nmE x_nt x_nu x_nv x_nd))) H → va_D A ((h_t, .inr (5, [.ref h_t_power, z_t_1, z_t_2, z_t_3, z_t_4, z_t_5, .ref h_t_sum])) :: (h_t_sum, .inr (6, [.long x_t_sum_u, .long x_t_sum_v, .long x_t_sum_d])) :: (h_p1, .inr (3, [.int p1_a, .int p1_b, z_p1_2, z_p1_3, z_p1_4, z_p1_5, z_p1_6, z_p1_7])) :: (h_p2, .inr (7, [.ref h_p2_bytes, .int p2_size])) :: (h_p2_bytes, .inl (k_p2_bytes, 200, .inl p2_bytes)) :: (R ++ va_pl NL (nmE x_nt x_nu x_nv x_nd))) → va_S A s.heap H locs → lv_has ls 6 [] → W p l e { frames := 4, cells := 0, slots := 0, locals := 107 } s m args below meth c H locs 0 0 Q (F0 m 32 ls [])) → (tg = 1 → ∀ (H : Heap) (locs : List Loc) (ls : Array Slot), va_P D vwCl ((h_t, .inr (5, [.ref h_t_power, z_t_1, z_t_2, z_t_3, z_t_4, z_t_5, .ref h_t_sum])) :: (h_t_sum, .inr (6, [.long x_t_sum_u, .long x_t_sum_v, .long x_t_sum_d])) :: (h_p1, .inr (3, [.int p1_a, .int p1_b, z_p1_2, z_p1_3, z_p1_4, z_p1_5, z_p1_6, z_p1_7])) :: (h_p2, .inr (7, [.ref h_p2_bytes, .int p2_size])) :: (h_p2_bytes, .inl (k_p2_bytes, 200, .inl p2_bytes)) :: (R ++ va_pl NL (nmE x_nt x_nu x_nv x_nd))) H → va_D A ((h_t, .inr (5, [.ref h_t_power, z_t_1, z_t_2, z_t_3, z_t_4, z_t_5, .ref h_t_sum])) :: (h_t_sum, .inr (6, [.long x_t_sum_u, .long x_t_sum_v, .long x_t_sum_d])) :: (h_p1, .inr (3, [.int p1_a, .int p1_b, z_p1_2, z_p1_3, z_p1_4, z_p1_5, z_p1_6, z_p1_7])) :: (h_p2, .inr (7, [.ref h_p2_bytes, .int p2_size])) :: (h_p2_bytes, .inl (k_p2_bytes, 200, .inl p2_bytes)) :: (R ++ va_pl NL (nmE x_nt x_nu x_nv x_nd))) → va_S A s.heap H locs → lv_has ls 6 [] → W p l e { frames := 4, cells := 0, slots := 0, locals := 107 } s m args below meth c H locs 0 0 Q (F0 m 59 ls [])) → W p l e { frames := 4, cells := 0, slots := 0, locals := 107 } s m args below meth c H locs 0 0 Q (F0 m 14 ls []) := by
    intro Q n
    induction n with
    | zero =>
      intro l3 l4 l5 t_sum_u t_sum_v t_sum_d nt nu nv nd tg x_t_sum_u x_t_sum_v x_t_sum_d x_nt x_nu x_nv x_nd h
      rw [f_X5_addDownward_L14] at h; cases h
    | succ n ih =>
      intro l3 l4 l5 t_sum_u t_sum_v t_sum_d nt nu nv nd tg x_t_sum_u x_t_sum_v x_t_sum_d x_nt x_nu x_nv x_nd h H locs ls hP hD hS hl kk0 kk1
      rw [f_X5_addDownward_L14] at h
      refine lv_iload hx hb dX5_addDownward_14 (lv_at hl 5 rfl) ?_
      refine lv_iload hx hb dX5_addDownward_16 (lv_at hl 4 rfl) ?_
      refine lv_icmp_ge (tgt := 59) hx hb dX5_addDownward_18 (by decide) (fun c2 => ?_) (fun c2 => ?_)
      · have h := br_pos c2 h
        cases h
        exact kk1 rfl _ _ _ hP hD hS (lv_sub hl [] rfl)
      · have h := br_neg c2 h
        refine lv_aload_n hx hb dX5_addDownward_21 rfl (lv_at hl 1 rfl) ?_
        refine lv_aload_n hx hb dX5_addDownward_22 rfl (lv_at hl 0 rfl) ?_
        refine va_get (D := D) (ci := 5) (v := .ref h_t_power) (C := RX5) (T := TX5) (N := 7) hx hb ha ix5 hown hK hP 0 rfl rfl 0 (by decide) (ha _ q259) (fun _ h9 => h9) rfl dX5_addDownward_23 ?_
        obtain ⟨r_c26_2, nt_c26_2, nu_c26_2, nv_c26_2, nd_c26_2, e_c26_2, h⟩ := bnd5_ok h
        have hP : va_P D vwCl ((h_p1, .inr (3, [.int p1_a, .int p1_b, z_p1_2, z_p1_3, z_p1_4, z_p1_5, z_p1_6, z_p1_7])) :: (h_t, .inr (5, [.ref h_t_power, z_t_1, z_t_2, z_t_3, z_t_4, z_t_5, .ref h_t_sum])) :: (h_t_sum, .inr (6, [.long t_sum_u, .long t_sum_v, .long t_sum_d])) :: (h_p2, .inr (7, [.ref h_p2_bytes, .int p2_size])) :: (h_p2_bytes, .inl (k_p2_bytes, 200, .inl p2_bytes)) :: (R ++ va_pl NL (nmE nt nu nv nd))) _ := pm_P [2, 0, 1, 3, 4] 5 hP
        have hD : va_D A ((h_p1, .inr (3, [.int p1_a, .int p1_b, z_p1_2, z_p1_3, z_p1_4, z_p1_5, z_p1_6, z_p1_7])) :: (h_t, .inr (5, [.ref h_t_power, z_t_1, z_t_2, z_t_3, z_t_4, z_t_5, .ref h_t_sum])) :: (h_t_sum, .inr (6, [.long t_sum_u, .long t_sum_v, .long t_sum_d])) :: (h_p2, .inr (7, [.ref h_p2_bytes, .int p2_size])) :: (h_p2_bytes, .inl (k_p2_bytes, 200, .inl p2_bytes)) :: (R ++ va_pl NL (nmE nt nu nv nd))) := pm_D (X := [(h_p1, .inr (3, [.int p1_a, .int p1_b, z_p1_2, z_p1_3, z_p1_4, z_p1_5, z_p1_6, z_p1_7])), (h_t, .inr (5, [.ref h_t_power, z_t_1, z_t_2, z_t_3, z_t_4, z_t_5, .ref h_t_sum])), (h_t_sum, .inr (6, [.long t_sum_u, .long t_sum_v, .long t_sum_d])), (h_p2, .inr (7, [.ref h_p2_bytes, .int p2_size])), (h_p2_bytes, .inl (k_p2_bytes, 200, .inl p2_bytes))]) [2, 0, 1, 3, 4] 5 (by decide) (by decide) rfl hD
        refine cl_z (rn_v (ci := 3) (As := [.ref h_t_power]) (rest := []) S (c_X3_divideByX l D ((h_t, .inr (5, [.ref h_t_power, z_t_1, z_t_2, z_t_3, z_t_4, z_t_5, .ref h_t_sum])) :: (h_t_sum, .inr (6, [.long t_sum_u, .long t_sum_v, .long t_sum_d])) :: (h_p2, .inr (7, [.ref h_p2_bytes, .int p2_size])) :: (h_p2_bytes, .inl (k_p2_bytes, 200, .inl p2_bytes)) :: R) NL nt nu nv nd h_p1 p1_a p1_b (z_p1_2) (z_p1_3) (z_p1_4) (z_p1_5) (z_p1_6) (z_p1_7) h_t_power r_c26_2 nt_c26_2 nu_c26_2 nv_c26_2 nd_c26_2 hm_t_power e_c26_2 _) q664 q665 q666 q50 q667 nd_X3_divideByX ⟨Nat.le_of_ble_eq_true rfl, Nat.le_of_ble_eq_true rfl⟩ rfl rfl hP hD (hK.sub (tys' := []) [] rfl) hN rfl ⟨0, _, rfl⟩ rfl hl.1 rfl (Nat.le_of_ble_eq_true rfl) dX5_addDownward_26 ⟨Nat.le_of_ble_eq_true rfl, Nat.le_of_ble_eq_true rfl⟩) hS hA hD (fun H locs hP hD hS z_c26_2 => ?_)
        have hP : va_P D vwCl ((h_t, .inr (5, [.ref h_t_power, z_t_1, z_t_2, z_t_3, z_t_4, z_t_5, .ref h_t_sum])) :: (h_t_sum, .inr (6, [.long t_sum_u, .long t_sum_v, .long t_sum_d])) :: (h_p1, .inr (3, [.int p1_a, .int p1_b, z_p1_2, z_p1_3, z_p1_4, z_p1_5, z_p1_6, z_p1_7])) :: (h_p2, .inr (7, [.ref h_p2_bytes, .int p2_size])) :: (h_p2_bytes, .inl (k_p2_bytes, 200, .inl p2_bytes)) :: (R ++ va_pl NL (nmE nt_c26_2 nu_c26_2 nv_c26_2 nd_c26_2))) H := pm_P [1, 2, 0, 3, 4] 5 hP
        have hD : va_D A ((h_t, .inr (5, [.ref h_t_power, z_t_1, z_t_2, z_t_3, z_t_4, z_t_5, .ref h_t_sum])) :: (h_t_sum, .inr (6, [.long t_sum_u, .long t_sum_v, .long t_sum_d])) :: (h_p1, .inr (3, [.int p1_a, .int p1_b, z_p1_2, z_p1_3, z_p1_4, z_p1_5, z_p1_6, z_p1_7])) :: (h_p2, .inr (7, [.ref h_p2_bytes, .int p2_size])) :: (h_p2_bytes, .inl (k_p2_bytes, 200, .inl p2_bytes)) :: (R ++ va_pl NL (nmE nt_c26_2 nu_c26_2 nv_c26_2 nd_c26_2))) := pm_D (X := [(h_t, .inr (5, [.ref h_t_power, z_t_1, z_t_2, z_t_3, z_t_4, z_t_5, .ref h_t_sum])), (h_t_sum, .inr (6, [.long t_sum_u, .long t_sum_v, .long t_sum_d])), (h_p1, .inr (3, [.int p1_a, .int p1_b, z_p1_2, z_p1_3, z_p1_4, z_p1_5, z_p1_6, z_p1_7])), (h_p2, .inr (7, [.ref h_p2_bytes, .int p2_size])), (h_p2_bytes, .inl (k_p2_bytes, 200, .inl p2_bytes))]) [1, 2, 0, 3, 4] 5 (by decide) (by decide) rfl hD
        refine lv_if_ne (tgt := 34) hx hb dX5_addDownward_29 (by decide) (fun c4 => ?_) (fun c4 => ?_)
        · have h := br_neg c4 h
          refine lv_aload_n hx hb dX5_addDownward_34 rfl (lv_at hl 0 rfl) ?_
          refine va_get (D := D) (ci := 5) (v := .ref h_t_sum) (C := RX5) (T := TX5) (N := 7) hx hb ha ix5 hown hK hP 0 rfl rfl 6 (by decide) (ha _ q266) (fun _ h9 => h9) rfl dX5_addDownward_35 ?_
          refine lv_aload_n hx hb dX5_addDownward_38 rfl (lv_at hl 2 rfl) ?_
          refine lv_iload_n hx hb dX5_addDownward_39 rfl (lv_at hl 3 rfl) ?_
          refine lv_iload hx hb dX5_addDownward_40 (lv_at hl 5 rfl) ?_
          refine lv_iadd hx hb dX5_addDownward_42 ?_
          obtain ⟨r_c43_4, e_c43_4, h⟩ := bnd1_ok h
          have hP : va_P D vwCl ((h_p2, .inr (7, [.ref h_p2_bytes, .int p2_size])) :: (h_p2_bytes, .inl (k_p2_bytes, 200, .inl p2_bytes)) :: (h_t, .inr (5, [.ref h_t_power, z_t_1, z_t_2, z_t_3, z_t_4, z_t_5, .ref h_t_sum])) :: (h_t_sum, .inr (6, [.long t_sum_u, .long t_sum_v, .long t_sum_d])) :: (h_p1, .inr (3, [.int p1_a, .int p1_b, z_p1_2, z_p1_3, z_p1_4, z_p1_5, z_p1_6, z_p1_7])) :: (R ++ va_pl NL (nmE nt_c26_2 nu_c26_2 nv_c26_2 nd_c26_2))) _ := pm_P [3, 4, 0, 1, 2] 5 hP
          have hD : va_D A ((h_p2, .inr (7, [.ref h_p2_bytes, .int p2_size])) :: (h_p2_bytes, .inl (k_p2_bytes, 200, .inl p2_bytes)) :: (h_t, .inr (5, [.ref h_t_power, z_t_1, z_t_2, z_t_3, z_t_4, z_t_5, .ref h_t_sum])) :: (h_t_sum, .inr (6, [.long t_sum_u, .long t_sum_v, .long t_sum_d])) :: (h_p1, .inr (3, [.int p1_a, .int p1_b, z_p1_2, z_p1_3, z_p1_4, z_p1_5, z_p1_6, z_p1_7])) :: (R ++ va_pl NL (nmE nt_c26_2 nu_c26_2 nv_c26_2 nd_c26_2))) := pm_D (X := [(h_p2, .inr (7, [.ref h_p2_bytes, .int p2_size])), (h_p2_bytes, .inl (k_p2_bytes, 200, .inl p2_bytes)), (h_t, .inr (5, [.ref h_t_power, z_t_1, z_t_2, z_t_3, z_t_4, z_t_5, .ref h_t_sum])), (h_t_sum, .inr (6, [.long t_sum_u, .long t_sum_v, .long t_sum_d])), (h_p1, .inr (3, [.int p1_a, .int p1_b, z_p1_2, z_p1_3, z_p1_4, z_p1_5, z_p1_6, z_p1_7]))]) [3, 4, 0, 1, 2] 5 (by decide) (by decide) rfl hD
          refine cl_i (rn_v (ci := 7) (As := [.int (l3 + l5)]) (rest := [.ref h_t_sum]) S (c_X7_at l D ((h_t, .inr (5, [.ref h_t_power, z_t_1, z_t_2, z_t_3, z_t_4, z_t_5, .ref h_t_sum])) :: (h_t_sum, .inr (6, [.long t_sum_u, .long t_sum_v, .long t_sum_d])) :: (h_p1, .inr (3, [.int p1_a, .int p1_b, z_p1_2, z_p1_3, z_p1_4, z_p1_5, z_p1_6, z_p1_7])) :: (R ++ va_pl NL (nmE nt_c26_2 nu_c26_2 nv_c26_2 nd_c26_2))) h_p2 p2_size h_p2_bytes k_p2_bytes p2_bytes (l3 + l5) r_c43_4 e_c43_4 _) q651 q652 q653 q49 q654 nd_X7_at ⟨Nat.le_of_ble_eq_true rfl, Nat.le_of_ble_eq_true rfl⟩ rfl rfl hP hD (hK.sub (tys' := [(k_p2_bytes, .byte)]) [0] rfl) hN rfl ⟨0, _, rfl⟩ rfl hl.1 rfl (Nat.le_of_ble_eq_true rfl) dX5_addDownward_43 ⟨Nat.le_of_ble_eq_true rfl, Nat.le_of_ble_eq_true rfl⟩) hS hA hD (fun H locs hP hD hS => ?_)
          have hP : va_P D vwCl ((h_t, .inr (5, [.ref h_t_power, z_t_1, z_t_2, z_t_3, z_t_4, z_t_5, .ref h_t_sum])) :: (h_t_sum, .inr (6, [.long t_sum_u, .long t_sum_v, .long t_sum_d])) :: (h_p1, .inr (3, [.int p1_a, .int p1_b, z_p1_2, z_p1_3, z_p1_4, z_p1_5, z_p1_6, z_p1_7])) :: (h_p2, .inr (7, [.ref h_p2_bytes, .int p2_size])) :: (h_p2_bytes, .inl (k_p2_bytes, 200, .inl p2_bytes)) :: (R ++ va_pl NL (nmE nt_c26_2 nu_c26_2 nv_c26_2 nd_c26_2))) H := pm_P [2, 3, 4, 0, 1] 5 hP
          have hD : va_D A ((h_t, .inr (5, [.ref h_t_power, z_t_1, z_t_2, z_t_3, z_t_4, z_t_5, .ref h_t_sum])) :: (h_t_sum, .inr (6, [.long t_sum_u, .long t_sum_v, .long t_sum_d])) :: (h_p1, .inr (3, [.int p1_a, .int p1_b, z_p1_2, z_p1_3, z_p1_4, z_p1_5, z_p1_6, z_p1_7])) :: (h_p2, .inr (7, [.ref h_p2_bytes, .int p2_size])) :: (h_p2_bytes, .inl (k_p2_bytes, 200, .inl p2_bytes)) :: (R ++ va_pl NL (nmE nt_c26_2 nu_c26_2 nv_c26_2 nd_c26_2))) := pm_D (X := [(h_t, .inr (5, [.ref h_t_power, z_t_1, z_t_2, z_t_3, z_t_4, z_t_5, .ref h_t_sum])), (h_t_sum, .inr (6, [.long t_sum_u, .long t_sum_v, .long t_sum_d])), (h_p1, .inr (3, [.int p1_a, .int p1_b, z_p1_2, z_p1_3, z_p1_4, z_p1_5, z_p1_6, z_p1_7])), (h_p2, .inr (7, [.ref h_p2_bytes, .int p2_size])), (h_p2_bytes, .inl (k_p2_bytes, 200, .inl p2_bytes))]) [2, 3, 4, 0, 1] 5 (by decide) (by decide) rfl hD
          refine lv_aload_n hx hb dX5_addDownward_46 rfl (lv_at hl 0 rfl) ?_
          refine va_get (D := D) (ci := 5) (v := .ref h_t_power) (C := RX5) (T := TX5) (N := 7) hx hb ha ix5 hown hK hP 0 rfl rfl 0 (by decide) (ha _ q259) (fun _ h9 => h9) rfl dX5_addDownward_47 ?_
          obtain ⟨t_sum_u_c50_5, t_sum_v_c50_5, t_sum_d_c50_5, e_c50_5, h⟩ := bnd3_ok h
          have hP : va_P D vwCl ((h_t_sum, .inr (6, [.long t_sum_u, .long t_sum_v, .long t_sum_d])) :: (h_t, .inr (5, [.ref h_t_power, z_t_1, z_t_2, z_t_3, z_t_4, z_t_5, .ref h_t_sum])) :: (h_p1, .inr (3, [.int p1_a, .int p1_b, z_p1_2, z_p1_3, z_p1_4, z_p1_5, z_p1_6, z_p1_7])) :: (h_p2, .inr (7, [.ref h_p2_bytes, .int p2_size])) :: (h_p2_bytes, .inl (k_p2_bytes, 200, .inl p2_bytes)) :: (R ++ va_pl NL (nmE nt_c26_2 nu_c26_2 nv_c26_2 nd_c26_2))) _ := pm_P [1, 0, 2, 3, 4] 5 hP
          have hD : va_D A ((h_t_sum, .inr (6, [.long t_sum_u, .long t_sum_v, .long t_sum_d])) :: (h_t, .inr (5, [.ref h_t_power, z_t_1, z_t_2, z_t_3, z_t_4, z_t_5, .ref h_t_sum])) :: (h_p1, .inr (3, [.int p1_a, .int p1_b, z_p1_2, z_p1_3, z_p1_4, z_p1_5, z_p1_6, z_p1_7])) :: (h_p2, .inr (7, [.ref h_p2_bytes, .int p2_size])) :: (h_p2_bytes, .inl (k_p2_bytes, 200, .inl p2_bytes)) :: (R ++ va_pl NL (nmE nt_c26_2 nu_c26_2 nv_c26_2 nd_c26_2))) := pm_D (X := [(h_t_sum, .inr (6, [.long t_sum_u, .long t_sum_v, .long t_sum_d])), (h_t, .inr (5, [.ref h_t_power, z_t_1, z_t_2, z_t_3, z_t_4, z_t_5, .ref h_t_sum])), (h_p1, .inr (3, [.int p1_a, .int p1_b, z_p1_2, z_p1_3, z_p1_4, z_p1_5, z_p1_6, z_p1_7])), (h_p2, .inr (7, [.ref h_p2_bytes, .int p2_size])), (h_p2_bytes, .inl (k_p2_bytes, 200, .inl p2_bytes))]) [1, 0, 2, 3, 4] 5 (by decide) (by decide) rfl hD
          refine cl_v (rn_v (ci := 6) (As := [.int r_c43_4, .ref h_t_power]) (rest := []) S (c_X6_add l D ((h_t, .inr (5, [.ref h_t_power, z_t_1, z_t_2, z_t_3, z_t_4, z_t_5, .ref h_t_sum])) :: (h_p1, .inr (3, [.int p1_a, .int p1_b, z_p1_2, z_p1_3, z_p1_4, z_p1_5, z_p1_6, z_p1_7])) :: (h_p2, .inr (7, [.ref h_p2_bytes, .int p2_size])) :: (h_p2_bytes, .inl (k_p2_bytes, 200, .inl p2_bytes)) :: R) NL nt_c26_2 nu_c26_2 nv_c26_2 nd_c26_2 h_t_sum t_sum_u t_sum_v t_sum_d r_c43_4 h_t_power t_sum_u_c50_5 t_sum_v_c50_5 t_sum_d_c50_5 hm_t_power e_c50_5 _) q655 q656 q657 q55 q658 nd_X6_add ⟨Nat.le_of_ble_eq_true rfl, Nat.le_of_ble_eq_true rfl⟩ rfl rfl hP hD (hK.sub (tys' := []) [] rfl) hN rfl ⟨0, _, rfl⟩ rfl hl.1 rfl (Nat.le_of_ble_eq_true rfl) dX5_addDownward_50 ⟨Nat.le_of_ble_eq_true rfl, Nat.le_of_ble_eq_true rfl⟩) hS hA hD (fun H locs hP hD hS => ?_)
          have hP : va_P D vwCl ((h_t, .inr (5, [.ref h_t_power, z_t_1, z_t_2, z_t_3, z_t_4, z_t_5, .ref h_t_sum])) :: (h_t_sum, .inr (6, [.long t_sum_u_c50_5, .long t_sum_v_c50_5, .long t_sum_d_c50_5])) :: (h_p1, .inr (3, [.int p1_a, .int p1_b, z_p1_2, z_p1_3, z_p1_4, z_p1_5, z_p1_6, z_p1_7])) :: (h_p2, .inr (7, [.ref h_p2_bytes, .int p2_size])) :: (h_p2_bytes, .inl (k_p2_bytes, 200, .inl p2_bytes)) :: (R ++ va_pl NL (nmE nt_c26_2 nu_c26_2 nv_c26_2 nd_c26_2))) H := pm_P [1, 0, 2, 3, 4] 5 hP
          have hD : va_D A ((h_t, .inr (5, [.ref h_t_power, z_t_1, z_t_2, z_t_3, z_t_4, z_t_5, .ref h_t_sum])) :: (h_t_sum, .inr (6, [.long t_sum_u_c50_5, .long t_sum_v_c50_5, .long t_sum_d_c50_5])) :: (h_p1, .inr (3, [.int p1_a, .int p1_b, z_p1_2, z_p1_3, z_p1_4, z_p1_5, z_p1_6, z_p1_7])) :: (h_p2, .inr (7, [.ref h_p2_bytes, .int p2_size])) :: (h_p2_bytes, .inl (k_p2_bytes, 200, .inl p2_bytes)) :: (R ++ va_pl NL (nmE nt_c26_2 nu_c26_2 nv_c26_2 nd_c26_2))) := pm_D (X := [(h_t, .inr (5, [.ref h_t_power, z_t_1, z_t_2, z_t_3, z_t_4, z_t_5, .ref h_t_sum])), (h_t_sum, .inr (6, [.long t_sum_u_c50_5, .long t_sum_v_c50_5, .long t_sum_d_c50_5])), (h_p1, .inr (3, [.int p1_a, .int p1_b, z_p1_2, z_p1_3, z_p1_4, z_p1_5, z_p1_6, z_p1_7])), (h_p2, .inr (7, [.ref h_p2_bytes, .int p2_size])), (h_p2_bytes, .inl (k_p2_bytes, 200, .inl p2_bytes))]) [1, 0, 2, 3, 4] 5 (by decide) (by decide) rfl hD
          refine lv_iinc (v := (l5 + 1)) (lv' := [(5, .int (l5 + 1)), (0, .ref h_t), (1, .ref h_p1), (2, .ref h_p2), (3, .int l3), (4, .int l4)]) hx hb dX5_addDownward_53 hl (k := 5) rfl rfl (by decide) rfl (fun ls hl => ?_)
          refine lv_goto (tgt := 14) hx hb dX5_addDownward_56 (by decide) ?_
          exact ih l3 l4 (l5 + 1) t_sum_u_c50_5 t_sum_v_c50_5 t_sum_d_c50_5 nt_c26_2 nu_c26_2 nv_c26_2 nd_c26_2 _ _ _ _ _ _ _ _ h _ _ _ hP hD hS (lv_sub hl [1, 2, 3, 4, 5, 0] rfl) kk0 kk1
        · have h := br_pos c4 h
          cases h
          exact kk0 rfl _ _ _ hP hD hS (lv_sub hl [] rfl)
  unfold f_X5_addDownward at h
  refine lv_aload_n hx hb dX5_addDownward_0 rfl (lv_at hl 0 rfl) ?_
  refine va_get (D := D) (ci := 5) (v := .ref h_t_power) (C := RX5) (T := TX5) (N := 7) hx hb ha ix5 hown hK hP 0 rfl rfl 0 (by decide) (ha _ q259) (fun _ h9 => h9) rfl dX5_addDownward_1 ?_
  refine lv_lconst (v := 1) hx hb dX5_addDownward_4 (by decide) ?_
  refine lv_lconst (v := 0) hx hb dX5_addDownward_5 (by decide) ?_
  refine lv_lconst (v := 1) hx hb dX5_addDownward_6 (by decide) ?_
  obtain ⟨r_c7_0, nt_c7_0, nu_c7_0, nv_c7_0, nd_c7_0, e_c7_0, h⟩ := bnd5_ok h
  refine cl_z (rn_v (ci := 0) (As := [.long 1, .long 0, .long 1]) (rest := []) S (c_X0_take l D ((h_t, .inr (5, [.ref h_t_power, z_t_1, z_t_2, z_t_3, z_t_4, z_t_5, .ref h_t_sum])) :: (h_t_sum, .inr (6, [.long t_sum_u, .long t_sum_v, .long t_sum_d])) :: (h_p1, .inr (3, [.int p1_a, .int p1_b, z_p1_2, z_p1_3, z_p1_4, z_p1_5, z_p1_6, z_p1_7])) :: (h_p2, .inr (7, [.ref h_p2_bytes, .int p2_size])) :: (h_p2_bytes, .inl (k_p2_bytes, 200, .inl p2_bytes)) :: R) NL nt nu nv nd h_t_power 1 0 1 r_c7_0 nt_c7_0 nu_c7_0 nv_c7_0 nd_c7_0 hm_t_power e_c7_0 _) q646 q512 q513 q51 q514 nd_X0_take ⟨Nat.le_of_ble_eq_true rfl, Nat.le_of_ble_eq_true rfl⟩ rfl rfl hP hD (hK.sub (tys' := []) [] rfl) hN rfl (rc_num (Y := ((h_t, .inr (5, [.ref h_t_power, z_t_1, z_t_2, z_t_3, z_t_4, z_t_5, .ref h_t_sum])) :: (h_t_sum, .inr (6, [.long t_sum_u, .long t_sum_v, .long t_sum_d])) :: (h_p1, .inr (3, [.int p1_a, .int p1_b, z_p1_2, z_p1_3, z_p1_4, z_p1_5, z_p1_6, z_p1_7])) :: (h_p2, .inr (7, [.ref h_p2_bytes, .int p2_size])) :: (h_p2_bytes, .inl (k_p2_bytes, 200, .inl p2_bytes)) :: R)) hm_t_power) rfl hl.1 rfl (Nat.le_of_ble_eq_true rfl) dX5_addDownward_7 ⟨Nat.le_of_ble_eq_true rfl, Nat.le_of_ble_eq_true rfl⟩) hS hA hD (fun H locs hP hD hS z_c7_0 => ?_)
  have hP : va_P D vwCl ((h_t, .inr (5, [.ref h_t_power, z_t_1, z_t_2, z_t_3, z_t_4, z_t_5, .ref h_t_sum])) :: (h_t_sum, .inr (6, [.long t_sum_u, .long t_sum_v, .long t_sum_d])) :: (h_p1, .inr (3, [.int p1_a, .int p1_b, z_p1_2, z_p1_3, z_p1_4, z_p1_5, z_p1_6, z_p1_7])) :: (h_p2, .inr (7, [.ref h_p2_bytes, .int p2_size])) :: (h_p2_bytes, .inl (k_p2_bytes, 200, .inl p2_bytes)) :: (R ++ va_pl NL (nmE nt_c7_0 nu_c7_0 nv_c7_0 nd_c7_0))) H := hP
  have hD : va_D A ((h_t, .inr (5, [.ref h_t_power, z_t_1, z_t_2, z_t_3, z_t_4, z_t_5, .ref h_t_sum])) :: (h_t_sum, .inr (6, [.long t_sum_u, .long t_sum_v, .long t_sum_d])) :: (h_p1, .inr (3, [.int p1_a, .int p1_b, z_p1_2, z_p1_3, z_p1_4, z_p1_5, z_p1_6, z_p1_7])) :: (h_p2, .inr (7, [.ref h_p2_bytes, .int p2_size])) :: (h_p2_bytes, .inl (k_p2_bytes, 200, .inl p2_bytes)) :: (R ++ va_pl NL (nmE nt_c7_0 nu_c7_0 nv_c7_0 nd_c7_0))) := hD
  refine lv_pop hx hb dX5_addDownward_10 rfl ?_
  refine lv_iconst (v := 0) hx hb dX5_addDownward_11 (by decide) ?_
  refine lv_istore (lv' := [(5, .int 0), (0, .ref h_t), (1, .ref h_p1), (2, .ref h_p2), (3, .int l3), (4, .int l4)]) hx hb dX5_addDownward_12 hl (by decide) rfl (fun ls hl => ?_)
  obtain ⟨tg_L14_6, x_t_sum_u_L14_6, x_t_sum_v_L14_6, x_t_sum_d_L14_6, x_nt_L14_6, x_nu_L14_6, x_nv_L14_6, x_nd_L14_6, e_L14_6, h⟩ := bnd8_ok h
  refine L14 _ _ l3 l4 0 t_sum_u t_sum_v t_sum_d nt_c7_0 nu_c7_0 nv_c7_0 nd_c7_0 tg_L14_6 x_t_sum_u_L14_6 x_t_sum_v_L14_6 x_t_sum_d_L14_6 x_nt_L14_6 x_nu_L14_6 x_nv_L14_6 x_nd_L14_6 e_L14_6 _ _ _ hP hD hS (lv_sub hl [1, 2, 3, 4, 5, 0] rfl) ?_ ?_
  · intro q9 H locs ls hP hD hS hl
    have h := br_pos q9 h
    refine lv_iconst (v := 0) hx hb dX5_addDownward_32 (by decide) ?_
    cases h
    exact rt_z S hr hlk hP hD hS (by decide) dX5_addDownward_33
  · intro q9 H locs ls hP hD hS hl
    have h := br_neg (by rw [q9]; decide) h
    refine lv_iconst (v := 1) hx hb dX5_addDownward_59 (by decide) ?_
    cases h
    exact rt_z S hr hlk hP hD hS (by decide) dX5_addDownward_60
noncomputable def f_X5_addRound (t_sum_u : Int64) (t_sum_v : Int64) (t_sum_d : Int64) (p1_a : Int32) (p1_b : Int32) (p2_size : Int32) (p2_bytes : Nat → Int32) (nt : Nat → Int32) (nu : Nat → Int64) (nv : Nat → Int64) (nd : Nat → Int64) (h_t_divisor : Nat) (h_t_head : Nat) (h_t_power : Nat) (h_t_result : Nat) (h_t_shift : Nat) (h_t_tail : Nat) (l3 : Int32) : Option (Int32 × Int64 × Int64 × Int64 × (Nat → Int32) × (Nat → Int64) × (Nat → Int64) × (Nat → Int64)) :=
  bnd3 (f_X6_clear t_sum_u t_sum_v t_sum_d) fun t_sum_u_c4_0 t_sum_v_c4_0 t_sum_d_c4_0 => (
   bnd8 (f_X5_addUpward t_sum_u_c4_0 t_sum_v_c4_0 t_sum_d_c4_0 p1_a p1_b p2_size p2_bytes nt nu nv nd h_t_power (p2_size - 1) l3) fun r_c17_1 t_sum_u_c17_1 t_sum_v_c17_1 t_sum_d_c17_1 nt_c17_1 nu_c17_1 nv_c17_1 nd_c17_1 => (
    if r_c17_1 = 0 then (
     some (0, t_sum_u_c17_1, t_sum_v_c17_1, t_sum_d_c17_1, nt_c17_1, nu_c17_1, nv_c17_1, nd_c17_1)
    ) else (
     bnd5 (f_X0_take nt_c17_1 nu_c17_1 nv_c17_1 nd_c17_1 h_t_tail t_sum_u_c17_1 t_sum_v_c17_1 t_sum_d_c17_1) fun r_c48_3 nt_c48_3 nu_c48_3 nv_c48_3 nd_c48_3 => (
      if r_c48_3 = 0 then (
       some (0, t_sum_u_c17_1, t_sum_v_c17_1, t_sum_d_c17_1, nt_c48_3, nu_c48_3, nv_c48_3, nd_c48_3)
      ) else (
       bnd5 (f_X3_multiplyByX p1_a p1_b nt_c48_3 nu_c48_3 nv_c48_3 nd_c48_3 h_t_power) fun r_c59_5 nt_c59_5 nu_c59_5 nv_c59_5 nd_c59_5 => (
        if r_c59_5 = 0 then (
         some (0, t_sum_u_c17_1, t_sum_v_c17_1, t_sum_d_c17_1, nt_c59_5, nu_c59_5, nv_c59_5, nd_c59_5)
        ) else (
         bnd5 (f_X0_take nt_c59_5 nu_c59_5 nv_c59_5 nd_c59_5 h_t_divisor ((nu_c59_5 h_t_power) - (nd_c59_5 h_t_power)) (nv_c59_5 h_t_power) (nd_c59_5 h_t_power)) fun r_c98_7 nt_c98_7 nu_c98_7 nv_c98_7 nd_c98_7 => (
          if r_c98_7 = 0 then (
           some (0, t_sum_u_c17_1, t_sum_v_c17_1, t_sum_d_c17_1, nt_c98_7, nu_c98_7, nv_c98_7, nd_c98_7)
          ) else (
           bnd5 (f_X3_divide p1_a p1_b nt_c98_7 nu_c98_7 nv_c98_7 nd_c98_7 h_t_result h_t_tail h_t_divisor) fun r_c117_9 nt_c117_9 nu_c117_9 nv_c117_9 nd_c117_9 => (
            if r_c117_9 = 0 then (
             some (0, t_sum_u_c17_1, t_sum_v_c17_1, t_sum_d_c17_1, nt_c117_9, nu_c117_9, nv_c117_9, nd_c117_9)
            ) else (
             bnd5 (f_X3_multiply p1_a p1_b nt_c117_9 nu_c117_9 nv_c117_9 nd_c117_9 h_t_result h_t_result h_t_shift) fun r_c136_11 nt_c136_11 nu_c136_11 nv_c136_11 nd_c136_11 => (
              if r_c136_11 = 0 then (
               some (0, t_sum_u_c17_1, t_sum_v_c17_1, t_sum_d_c17_1, nt_c136_11, nu_c136_11, nv_c136_11, nd_c136_11)
              ) else (
               bnd5 (f_X3_join nt_c136_11 nu_c136_11 nv_c136_11 nd_c136_11 h_t_result h_t_result h_t_head 1) fun r_c156_13 nt_c156_13 nu_c156_13 nv_c156_13 nd_c156_13 => (
                if r_c156_13 = 0 then (
                 some (0, t_sum_u_c17_1, t_sum_v_c17_1, t_sum_d_c17_1, nt_c156_13, nu_c156_13, nv_c156_13, nd_c156_13)
                ) else (
                 some (1, t_sum_u_c17_1, t_sum_v_c17_1, t_sum_d_c17_1, nt_c156_13, nu_c156_13, nv_c156_13, nd_c156_13)
                )
               )
              )
             )
            )
           )
          )
         )
        )
       )
      )
     )
    )
   )
  )
set_option maxHeartbeats 4000000 in
set_option maxRecDepth 100000 in
theorem c_X5_addRound (l : Launch) (D : va_G) (R : va_W) (NL : List Nat) (nt : Nat → Int32) (nu : Nat → Int64) (nv : Nat → Int64) (nd : Nat → Int64) (h_t : Nat) (h_t_power : Nat) (h_t_head : Nat) (h_t_shift : Nat) (h_t_tail : Nat) (h_t_divisor : Nat) (h_t_result : Nat) (h_t_sum : Nat) (t_sum_u : Int64) (t_sum_v : Int64) (t_sum_d : Int64) (h_p1 : Nat) (p1_a : Int32) (p1_b : Int32) (z_p1_2 : Value) (z_p1_3 : Value) (z_p1_4 : Value) (z_p1_5 : Value) (z_p1_6 : Value) (z_p1_7 : Value) (h_p2 : Nat) (p2_size : Int32) (h_p2_bytes : Nat) (k_p2_bytes : ClassId) (p2_bytes : Nat → Int32) (l3 : Int32) (r : Int32) (o_t_sum_u : Int64) (o_t_sum_v : Int64) (o_t_sum_d : Int64) (o_nt : Nat → Int32) (o_nu : Nat → Int64) (o_nv : Nat → Int64) (o_nd : Nat → Int64) (hm_t_divisor : h_t_divisor ∈ NL) (hm_t_head : h_t_head ∈ NL) (hm_t_power : h_t_power ∈ NL) (hm_t_result : h_t_result ∈ NL) (hm_t_shift : h_t_shift ∈ NL) (hm_t_tail : h_t_tail ∈ NL) (h : f_X5_addRound t_sum_u t_sum_v t_sum_d p1_a p1_b p2_size p2_bytes nt nu nv nd h_t_divisor h_t_head h_t_power h_t_result h_t_shift h_t_tail l3 = some (r, o_t_sum_u, o_t_sum_v, o_t_sum_d, o_nt, o_nu, o_nv, o_nd)) (sz : Nat) : Met l yX5_addRound (WD yX5_addRound cX5_addRound 4 (some .boolean)) ({ frames := 5, cells := 0, slots := 0, locals := 131 }) (va_Pc [.ref h_t, .ref h_p1, .ref h_p2, .int l3] (PcW D [(k_p2_bytes, .byte)] ((h_t, .inr (5, [.ref h_t_power, .ref h_t_head, .ref h_t_shift, .ref h_t_tail, .ref h_t_divisor, .ref h_t_result, .ref h_t_sum])) :: (h_t_sum, .inr (6, [.long t_sum_u, .long t_sum_v, .long t_sum_d])) :: (h_p1, .inr (3, [.int p1_a, .int p1_b, z_p1_2, z_p1_3, z_p1_4, z_p1_5, z_p1_6, z_p1_7])) :: (h_p2, .inr (7, [.ref h_p2_bytes, .int p2_size])) :: (h_p2_bytes, .inl (k_p2_bytes, 200, .inl p2_bytes)) :: (R ++ va_pl NL (nmE nt nu nv nd))) sz)) (QZ D r ((h_t, .inr (5, [.ref h_t_power, .ref h_t_head, .ref h_t_shift, .ref h_t_tail, .ref h_t_divisor, .ref h_t_result, .ref h_t_sum])) :: (h_t_sum, .inr (6, [.long o_t_sum_u, .long o_t_sum_v, .long o_t_sum_d])) :: (h_p1, .inr (3, [.int p1_a, .int p1_b, z_p1_2, z_p1_3, z_p1_4, z_p1_5, z_p1_6, z_p1_7])) :: (h_p2, .inr (7, [.ref h_p2_bytes, .int p2_size])) :: (h_p2_bytes, .inl (k_p2_bytes, 200, .inl p2_bytes)) :: (R ++ va_pl NL (nmE o_nt o_nu o_nv o_nd))) (va_A ((h_t, .inr (5, [.ref h_t_power, .ref h_t_head, .ref h_t_shift, .ref h_t_tail, .ref h_t_divisor, .ref h_t_result, .ref h_t_sum])) :: (h_t_sum, .inr (6, [.long t_sum_u, .long t_sum_v, .long t_sum_d])) :: (h_p1, .inr (3, [.int p1_a, .int p1_b, z_p1_2, z_p1_3, z_p1_4, z_p1_5, z_p1_6, z_p1_7])) :: (h_p2, .inr (7, [.ref h_p2_bytes, .int p2_size])) :: (h_p2_bytes, .inl (k_p2_bytes, 200, .inl p2_bytes)) :: (R ++ va_pl NL (nmE nt nu nv nd))) sz)) 0 0 (va_A ((h_t, .inr (5, [.ref h_t_power, .ref h_t_head, .ref h_t_shift, .ref h_t_tail, .ref h_t_divisor, .ref h_t_result, .ref h_t_sum])) :: (h_t_sum, .inr (6, [.long t_sum_u, .long t_sum_v, .long t_sum_d])) :: (h_p1, .inr (3, [.int p1_a, .int p1_b, z_p1_2, z_p1_3, z_p1_4, z_p1_5, z_p1_6, z_p1_7])) :: (h_p2, .inr (7, [.ref h_p2_bytes, .int p2_size])) :: (h_p2_bytes, .inl (k_p2_bytes, 200, .inl p2_bytes)) :: (R ++ va_pl NL (nmE nt nu nv nd))) sz) := by
  refine ct_start (QF := fun A => QZ D r ((h_t, .inr (5, [.ref h_t_power, .ref h_t_head, .ref h_t_shift, .ref h_t_tail, .ref h_t_divisor, .ref h_t_result, .ref h_t_sum])) :: (h_t_sum, .inr (6, [.long o_t_sum_u, .long o_t_sum_v, .long o_t_sum_d])) :: (h_p1, .inr (3, [.int p1_a, .int p1_b, z_p1_2, z_p1_3, z_p1_4, z_p1_5, z_p1_6, z_p1_7])) :: (h_p2, .inr (7, [.ref h_p2_bytes, .int p2_size])) :: (h_p2_bytes, .inl (k_p2_bytes, 200, .inl p2_bytes)) :: (R ++ va_pl NL (nmE o_nt o_nu o_nv o_nd))) A) ?_ ?_ ?_
  · decide +kernel
  · exact Nat.le_of_ble_eq_true rfl
  intro p e s m args below meth c A ls S hr hlk hnm hS hA hP hD hK hN hl
  have S : CallFix p m c cX5_addRound 4 s args AL "DigitBench$RowValue" := S
  have hx := S.1
  have hb := S.2.1
  have hown := S.2.2.2.1
  have ha := S.2.2.2.2
  have hl : lv_has ls 4 [(0, .ref h_t), (1, .ref h_p1), (2, .ref h_p2), (3, .int l3)] := hl
  unfold f_X5_addRound at h
  refine lv_aload_n hx hb dX5_addRound_0 rfl (lv_at hl 0 rfl) ?_
  refine va_get (D := D) (ci := 5) (v := .ref h_t_sum) (C := RX5) (T := TX5) (N := 7) hx hb ha ix5 hown hK hP 0 rfl rfl 6 (by decide) (ha _ q266) (fun _ h9 => h9) rfl dX5_addRound_1 ?_
  obtain ⟨t_sum_u_c4_0, t_sum_v_c4_0, t_sum_d_c4_0, e_c4_0, h⟩ := bnd3_ok h
  have hP : va_P D vwCl ((h_t_sum, .inr (6, [.long t_sum_u, .long t_sum_v, .long t_sum_d])) :: (h_t, .inr (5, [.ref h_t_power, .ref h_t_head, .ref h_t_shift, .ref h_t_tail, .ref h_t_divisor, .ref h_t_result, .ref h_t_sum])) :: (h_p1, .inr (3, [.int p1_a, .int p1_b, z_p1_2, z_p1_3, z_p1_4, z_p1_5, z_p1_6, z_p1_7])) :: (h_p2, .inr (7, [.ref h_p2_bytes, .int p2_size])) :: (h_p2_bytes, .inl (k_p2_bytes, 200, .inl p2_bytes)) :: (R ++ va_pl NL (nmE nt nu nv nd))) _ := pm_P [1, 0, 2, 3, 4] 5 hP
  have hD : va_D A ((h_t_sum, .inr (6, [.long t_sum_u, .long t_sum_v, .long t_sum_d])) :: (h_t, .inr (5, [.ref h_t_power, .ref h_t_head, .ref h_t_shift, .ref h_t_tail, .ref h_t_divisor, .ref h_t_result, .ref h_t_sum])) :: (h_p1, .inr (3, [.int p1_a, .int p1_b, z_p1_2, z_p1_3, z_p1_4, z_p1_5, z_p1_6, z_p1_7])) :: (h_p2, .inr (7, [.ref h_p2_bytes, .int p2_size])) :: (h_p2_bytes, .inl (k_p2_bytes, 200, .inl p2_bytes)) :: (R ++ va_pl NL (nmE nt nu nv nd))) := pm_D (X := [(h_t_sum, .inr (6, [.long t_sum_u, .long t_sum_v, .long t_sum_d])), (h_t, .inr (5, [.ref h_t_power, .ref h_t_head, .ref h_t_shift, .ref h_t_tail, .ref h_t_divisor, .ref h_t_result, .ref h_t_sum])), (h_p1, .inr (3, [.int p1_a, .int p1_b, z_p1_2, z_p1_3, z_p1_4, z_p1_5, z_p1_6, z_p1_7])), (h_p2, .inr (7, [.ref h_p2_bytes, .int p2_size])), (h_p2_bytes, .inl (k_p2_bytes, 200, .inl p2_bytes))]) [1, 0, 2, 3, 4] 5 (by decide) (by decide) rfl hD
  refine cl_v (rn_v (ci := 6) (As := []) (rest := []) S (c_X6_clear l D ((h_t, .inr (5, [.ref h_t_power, .ref h_t_head, .ref h_t_shift, .ref h_t_tail, .ref h_t_divisor, .ref h_t_result, .ref h_t_sum])) :: (h_p1, .inr (3, [.int p1_a, .int p1_b, z_p1_2, z_p1_3, z_p1_4, z_p1_5, z_p1_6, z_p1_7])) :: (h_p2, .inr (7, [.ref h_p2_bytes, .int p2_size])) :: (h_p2_bytes, .inl (k_p2_bytes, 200, .inl p2_bytes)) :: (R ++ va_pl NL (nmE nt nu nv nd))) h_t_sum t_sum_u t_sum_v t_sum_d t_sum_u_c4_0 t_sum_v_c4_0 t_sum_d_c4_0 e_c4_0 _) q638 q639 q640 q55 q641 nd_X6_clear ⟨Nat.le_of_ble_eq_true rfl, Nat.le_of_ble_eq_true rfl⟩ rfl rfl hP hD (hK.sub (tys' := []) [] rfl) hN rfl ⟨0, _, rfl⟩ rfl hl.1 rfl (Nat.le_of_ble_eq_true rfl) dX5_addRound_4 ⟨Nat.le_of_ble_eq_true rfl, Nat.le_of_ble_eq_true rfl⟩) hS hA hD (fun H locs hP hD hS => ?_)
  have hP : va_P D vwCl ((h_t, .inr (5, [.ref h_t_power, .ref h_t_head, .ref h_t_shift, .ref h_t_tail, .ref h_t_divisor, .ref h_t_result, .ref h_t_sum])) :: (h_t_sum, .inr (6, [.long t_sum_u_c4_0, .long t_sum_v_c4_0, .long t_sum_d_c4_0])) :: (h_p1, .inr (3, [.int p1_a, .int p1_b, z_p1_2, z_p1_3, z_p1_4, z_p1_5, z_p1_6, z_p1_7])) :: (h_p2, .inr (7, [.ref h_p2_bytes, .int p2_size])) :: (h_p2_bytes, .inl (k_p2_bytes, 200, .inl p2_bytes)) :: (R ++ va_pl NL (nmE nt nu nv nd))) H := pm_P [1, 0, 2, 3, 4] 5 hP
  have hD : va_D A ((h_t, .inr (5, [.ref h_t_power, .ref h_t_head, .ref h_t_shift, .ref h_t_tail, .ref h_t_divisor, .ref h_t_result, .ref h_t_sum])) :: (h_t_sum, .inr (6, [.long t_sum_u_c4_0, .long t_sum_v_c4_0, .long t_sum_d_c4_0])) :: (h_p1, .inr (3, [.int p1_a, .int p1_b, z_p1_2, z_p1_3, z_p1_4, z_p1_5, z_p1_6, z_p1_7])) :: (h_p2, .inr (7, [.ref h_p2_bytes, .int p2_size])) :: (h_p2_bytes, .inl (k_p2_bytes, 200, .inl p2_bytes)) :: (R ++ va_pl NL (nmE nt nu nv nd))) := pm_D (X := [(h_t, .inr (5, [.ref h_t_power, .ref h_t_head, .ref h_t_shift, .ref h_t_tail, .ref h_t_divisor, .ref h_t_result, .ref h_t_sum])), (h_t_sum, .inr (6, [.long t_sum_u_c4_0, .long t_sum_v_c4_0, .long t_sum_d_c4_0])), (h_p1, .inr (3, [.int p1_a, .int p1_b, z_p1_2, z_p1_3, z_p1_4, z_p1_5, z_p1_6, z_p1_7])), (h_p2, .inr (7, [.ref h_p2_bytes, .int p2_size])), (h_p2_bytes, .inl (k_p2_bytes, 200, .inl p2_bytes))]) [1, 0, 2, 3, 4] 5 (by decide) (by decide) rfl hD
  refine lv_aload_n hx hb dX5_addRound_7 rfl (lv_at hl 0 rfl) ?_
  refine lv_aload_n hx hb dX5_addRound_8 rfl (lv_at hl 1 rfl) ?_
  refine lv_aload_n hx hb dX5_addRound_9 rfl (lv_at hl 2 rfl) ?_
  refine lv_aload_n hx hb dX5_addRound_10 rfl (lv_at hl 2 rfl) ?_
  refine va_get (D := D) (ci := 7) (v := .int p2_size) (C := RX7) (T := TX7) (N := 2) hx hb ha ix7 hown hK hP 3 rfl rfl 1 (by decide) (ha _ q82) (fun _ h9 => h9) rfl dX5_addRound_11 ?_
  refine lv_iconst (v := 1) hx hb dX5_addRound_14 (by decide) ?_
  refine lv_isub hx hb dX5_addRound_15 ?_
  refine lv_iload_n hx hb dX5_addRound_16 rfl (lv_at hl 3 rfl) ?_
  obtain ⟨r_c17_1, t_sum_u_c17_1, t_sum_v_c17_1, t_sum_d_c17_1, nt_c17_1, nu_c17_1, nv_c17_1, nd_c17_1, e_c17_1, h⟩ := bnd8_ok h
  refine cl_z (rn_v (ci := 5) (As := [.ref h_p1, .ref h_p2, .int (p2_size - 1), .int l3]) (rest := []) S (c_X5_addUpward l D (R) NL nt nu nv nd h_t h_t_power (.ref h_t_head) (.ref h_t_shift) (.ref h_t_tail) (.ref h_t_divisor) (.ref h_t_result) h_t_sum t_sum_u_c4_0 t_sum_v_c4_0 t_sum_d_c4_0 h_p1 p1_a p1_b (z_p1_2) (z_p1_3) (z_p1_4) (z_p1_5) (z_p1_6) (z_p1_7) h_p2 p2_size h_p2_bytes k_p2_bytes p2_bytes (p2_size - 1) l3 r_c17_1 t_sum_u_c17_1 t_sum_v_c17_1 t_sum_d_c17_1 nt_c17_1 nu_c17_1 nv_c17_1 nd_c17_1 hm_t_power e_c17_1 _) q642 q644 q13 q54 q645 nd_X5_addUpward ⟨Nat.le_of_ble_eq_true rfl, Nat.le_of_ble_eq_true rfl⟩ rfl rfl hP hD (hK.sub (tys' := [(k_p2_bytes, .byte)]) [0] rfl) hN rfl ⟨0, _, rfl⟩ rfl hl.1 rfl (Nat.le_of_ble_eq_true rfl) dX5_addRound_17 ⟨Nat.le_of_ble_eq_true rfl, Nat.le_of_ble_eq_true rfl⟩) hS hA hD (fun H locs hP hD hS z_c17_1 => ?_)
  have hP : va_P D vwCl ((h_t, .inr (5, [.ref h_t_power, .ref h_t_head, .ref h_t_shift, .ref h_t_tail, .ref h_t_divisor, .ref h_t_result, .ref h_t_sum])) :: (h_t_sum, .inr (6, [.long t_sum_u_c17_1, .long t_sum_v_c17_1, .long t_sum_d_c17_1])) :: (h_p1, .inr (3, [.int p1_a, .int p1_b, z_p1_2, z_p1_3, z_p1_4, z_p1_5, z_p1_6, z_p1_7])) :: (h_p2, .inr (7, [.ref h_p2_bytes, .int p2_size])) :: (h_p2_bytes, .inl (k_p2_bytes, 200, .inl p2_bytes)) :: (R ++ va_pl NL (nmE nt_c17_1 nu_c17_1 nv_c17_1 nd_c17_1))) H := hP
  have hD : va_D A ((h_t, .inr (5, [.ref h_t_power, .ref h_t_head, .ref h_t_shift, .ref h_t_tail, .ref h_t_divisor, .ref h_t_result, .ref h_t_sum])) :: (h_t_sum, .inr (6, [.long t_sum_u_c17_1, .long t_sum_v_c17_1, .long t_sum_d_c17_1])) :: (h_p1, .inr (3, [.int p1_a, .int p1_b, z_p1_2, z_p1_3, z_p1_4, z_p1_5, z_p1_6, z_p1_7])) :: (h_p2, .inr (7, [.ref h_p2_bytes, .int p2_size])) :: (h_p2_bytes, .inl (k_p2_bytes, 200, .inl p2_bytes)) :: (R ++ va_pl NL (nmE nt_c17_1 nu_c17_1 nv_c17_1 nd_c17_1))) := hD
  refine lv_if_eq (tgt := 166) hx hb dX5_addRound_20 (by decide) (fun c3 => ?_) (fun c3 => ?_)
  · have h := br_pos c3 h
    refine lv_iconst (v := 0) hx hb dX5_addRound_166 (by decide) ?_
    cases h
    exact rt_z S hr hlk hP hD hS (by decide) dX5_addRound_167
  · have h := br_neg c3 h
    refine lv_aload_n hx hb dX5_addRound_23 rfl (lv_at hl 0 rfl) ?_
    refine va_get (D := D) (ci := 5) (v := .ref h_t_tail) (C := RX5) (T := TX5) (N := 7) hx hb ha ix5 hown hK hP 0 rfl rfl 3 (by decide) (ha _ q262) (fun _ h9 => h9) rfl dX5_addRound_24 ?_
    refine lv_aload_n hx hb dX5_addRound_27 rfl (lv_at hl 0 rfl) ?_
    refine va_get (D := D) (ci := 5) (v := .ref h_t_sum) (C := RX5) (T := TX5) (N := 7) hx hb ha ix5 hown hK hP 0 rfl rfl 6 (by decide) (ha _ q266) (fun _ h9 => h9) rfl dX5_addRound_28 ?_
    refine va_get (D := D) (ci := 6) (v := .long t_sum_u_c17_1) (C := RX6) (T := TX6) (N := 3) hx hb ha ix6 hown hK hP 1 rfl rfl 0 (by decide) (ha _ q247) (fun _ h9 => h9) rfl dX5_addRound_31 ?_
    refine lv_aload_n hx hb dX5_addRound_34 rfl (lv_at hl 0 rfl) ?_
    refine va_get (D := D) (ci := 5) (v := .ref h_t_sum) (C := RX5) (T := TX5) (N := 7) hx hb ha ix5 hown hK hP 0 rfl rfl 6 (by decide) (ha _ q266) (fun _ h9 => h9) rfl dX5_addRound_35 ?_
    refine va_get (D := D) (ci := 6) (v := .long t_sum_v_c17_1) (C := RX6) (T := TX6) (N := 3) hx hb ha ix6 hown hK hP 1 rfl rfl 1 (by decide) (ha _ q249) (fun _ h9 => h9) rfl dX5_addRound_38 ?_
    refine lv_aload_n hx hb dX5_addRound_41 rfl (lv_at hl 0 rfl) ?_
    refine va_get (D := D) (ci := 5) (v := .ref h_t_sum) (C := RX5) (T := TX5) (N := 7) hx hb ha ix5 hown hK hP 0 rfl rfl 6 (by decide) (ha _ q266) (fun _ h9 => h9) rfl dX5_addRound_42 ?_
    refine va_get (D := D) (ci := 6) (v := .long t_sum_d_c17_1) (C := RX6) (T := TX6) (N := 3) hx hb ha ix6 hown hK hP 1 rfl rfl 2 (by decide) (ha _ q251) (fun _ h9 => h9) rfl dX5_addRound_45 ?_
    obtain ⟨r_c48_3, nt_c48_3, nu_c48_3, nv_c48_3, nd_c48_3, e_c48_3, h⟩ := bnd5_ok h
    refine cl_z (rn_v (ci := 0) (As := [.long t_sum_u_c17_1, .long t_sum_v_c17_1, .long t_sum_d_c17_1]) (rest := []) S (c_X0_take l D ((h_t, .inr (5, [.ref h_t_power, .ref h_t_head, .ref h_t_shift, .ref h_t_tail, .ref h_t_divisor, .ref h_t_result, .ref h_t_sum])) :: (h_t_sum, .inr (6, [.long t_sum_u_c17_1, .long t_sum_v_c17_1, .long t_sum_d_c17_1])) :: (h_p1, .inr (3, [.int p1_a, .int p1_b, z_p1_2, z_p1_3, z_p1_4, z_p1_5, z_p1_6, z_p1_7])) :: (h_p2, .inr (7, [.ref h_p2_bytes, .int p2_size])) :: (h_p2_bytes, .inl (k_p2_bytes, 200, .inl p2_bytes)) :: R) NL nt_c17_1 nu_c17_1 nv_c17_1 nd_c17_1 h_t_tail t_sum_u_c17_1 t_sum_v_c17_1 t_sum_d_c17_1 r_c48_3 nt_c48_3 nu_c48_3 nv_c48_3 nd_c48_3 hm_t_tail e_c48_3 _) q646 q512 q513 q51 q514 nd_X0_take ⟨Nat.le_of_ble_eq_true rfl, Nat.le_of_ble_eq_true rfl⟩ rfl rfl hP hD (hK.sub (tys' := []) [] rfl) hN rfl (rc_num (Y := ((h_t, .inr (5, [.ref h_t_power, .ref h_t_head, .ref h_t_shift, .ref h_t_tail, .ref h_t_divisor, .ref h_t_result, .ref h_t_sum])) :: (h_t_sum, .inr (6, [.long t_sum_u_c17_1, .long t_sum_v_c17_1, .long t_sum_d_c17_1])) :: (h_p1, .inr (3, [.int p1_a, .int p1_b, z_p1_2, z_p1_3, z_p1_4, z_p1_5, z_p1_6, z_p1_7])) :: (h_p2, .inr (7, [.ref h_p2_bytes, .int p2_size])) :: (h_p2_bytes, .inl (k_p2_bytes, 200, .inl p2_bytes)) :: R)) hm_t_tail) rfl hl.1 rfl (Nat.le_of_ble_eq_true rfl) dX5_addRound_48 ⟨Nat.le_of_ble_eq_true rfl, Nat.le_of_ble_eq_true rfl⟩) hS hA hD (fun H locs hP hD hS z_c48_3 => ?_)
    have hP : va_P D vwCl ((h_t, .inr (5, [.ref h_t_power, .ref h_t_head, .ref h_t_shift, .ref h_t_tail, .ref h_t_divisor, .ref h_t_result, .ref h_t_sum])) :: (h_t_sum, .inr (6, [.long t_sum_u_c17_1, .long t_sum_v_c17_1, .long t_sum_d_c17_1])) :: (h_p1, .inr (3, [.int p1_a, .int p1_b, z_p1_2, z_p1_3, z_p1_4, z_p1_5, z_p1_6, z_p1_7])) :: (h_p2, .inr (7, [.ref h_p2_bytes, .int p2_size])) :: (h_p2_bytes, .inl (k_p2_bytes, 200, .inl p2_bytes)) :: (R ++ va_pl NL (nmE nt_c48_3 nu_c48_3 nv_c48_3 nd_c48_3))) H := hP
    have hD : va_D A ((h_t, .inr (5, [.ref h_t_power, .ref h_t_head, .ref h_t_shift, .ref h_t_tail, .ref h_t_divisor, .ref h_t_result, .ref h_t_sum])) :: (h_t_sum, .inr (6, [.long t_sum_u_c17_1, .long t_sum_v_c17_1, .long t_sum_d_c17_1])) :: (h_p1, .inr (3, [.int p1_a, .int p1_b, z_p1_2, z_p1_3, z_p1_4, z_p1_5, z_p1_6, z_p1_7])) :: (h_p2, .inr (7, [.ref h_p2_bytes, .int p2_size])) :: (h_p2_bytes, .inl (k_p2_bytes, 200, .inl p2_bytes)) :: (R ++ va_pl NL (nmE nt_c48_3 nu_c48_3 nv_c48_3 nd_c48_3))) := hD
    refine lv_if_eq (tgt := 166) hx hb dX5_addRound_51 (by decide) (fun c5 => ?_) (fun c5 => ?_)
    · have h := br_pos c5 h
      refine lv_iconst (v := 0) hx hb dX5_addRound_166 (by decide) ?_
      cases h
      exact rt_z S hr hlk hP hD hS (by decide) dX5_addRound_167
    · have h := br_neg c5 h
      refine lv_aload_n hx hb dX5_addRound_54 rfl (lv_at hl 1 rfl) ?_
      refine lv_aload_n hx hb dX5_addRound_55 rfl (lv_at hl 0 rfl) ?_
      refine va_get (D := D) (ci := 5) (v := .ref h_t_power) (C := RX5) (T := TX5) (N := 7) hx hb ha ix5 hown hK hP 0 rfl rfl 0 (by decide) (ha _ q259) (fun _ h9 => h9) rfl dX5_addRound_56 ?_
      obtain ⟨r_c59_5, nt_c59_5, nu_c59_5, nv_c59_5, nd_c59_5, e_c59_5, h⟩ := bnd5_ok h
      have hP : va_P D vwCl ((h_p1, .inr (3, [.int p1_a, .int p1_b, z_p1_2, z_p1_3, z_p1_4, z_p1_5, z_p1_6, z_p1_7])) :: (h_t, .inr (5, [.ref h_t_power, .ref h_t_head, .ref h_t_shift, .ref h_t_tail, .ref h_t_divisor, .ref h_t_result, .ref h_t_sum])) :: (h_t_sum, .inr (6, [.long t_sum_u_c17_1, .long t_sum_v_c17_1, .long t_sum_d_c17_1])) :: (h_p2, .inr (7, [.ref h_p2_bytes, .int p2_size])) :: (h_p2_bytes, .inl (k_p2_bytes, 200, .inl p2_bytes)) :: (R ++ va_pl NL (nmE nt_c48_3 nu_c48_3 nv_c48_3 nd_c48_3))) _ := pm_P [2, 0, 1, 3, 4] 5 hP
      have hD : va_D A ((h_p1, .inr (3, [.int p1_a, .int p1_b, z_p1_2, z_p1_3, z_p1_4, z_p1_5, z_p1_6, z_p1_7])) :: (h_t, .inr (5, [.ref h_t_power, .ref h_t_head, .ref h_t_shift, .ref h_t_tail, .ref h_t_divisor, .ref h_t_result, .ref h_t_sum])) :: (h_t_sum, .inr (6, [.long t_sum_u_c17_1, .long t_sum_v_c17_1, .long t_sum_d_c17_1])) :: (h_p2, .inr (7, [.ref h_p2_bytes, .int p2_size])) :: (h_p2_bytes, .inl (k_p2_bytes, 200, .inl p2_bytes)) :: (R ++ va_pl NL (nmE nt_c48_3 nu_c48_3 nv_c48_3 nd_c48_3))) := pm_D (X := [(h_p1, .inr (3, [.int p1_a, .int p1_b, z_p1_2, z_p1_3, z_p1_4, z_p1_5, z_p1_6, z_p1_7])), (h_t, .inr (5, [.ref h_t_power, .ref h_t_head, .ref h_t_shift, .ref h_t_tail, .ref h_t_divisor, .ref h_t_result, .ref h_t_sum])), (h_t_sum, .inr (6, [.long t_sum_u_c17_1, .long t_sum_v_c17_1, .long t_sum_d_c17_1])), (h_p2, .inr (7, [.ref h_p2_bytes, .int p2_size])), (h_p2_bytes, .inl (k_p2_bytes, 200, .inl p2_bytes))]) [2, 0, 1, 3, 4] 5 (by decide) (by decide) rfl hD
      refine cl_z (rn_v (ci := 3) (As := [.ref h_t_power]) (rest := []) S (c_X3_multiplyByX l D ((h_t, .inr (5, [.ref h_t_power, .ref h_t_head, .ref h_t_shift, .ref h_t_tail, .ref h_t_divisor, .ref h_t_result, .ref h_t_sum])) :: (h_t_sum, .inr (6, [.long t_sum_u_c17_1, .long t_sum_v_c17_1, .long t_sum_d_c17_1])) :: (h_p2, .inr (7, [.ref h_p2_bytes, .int p2_size])) :: (h_p2_bytes, .inl (k_p2_bytes, 200, .inl p2_bytes)) :: R) NL nt_c48_3 nu_c48_3 nv_c48_3 nd_c48_3 h_p1 p1_a p1_b (z_p1_2) (z_p1_3) (z_p1_4) (z_p1_5) (z_p1_6) (z_p1_7) h_t_power r_c59_5 nt_c59_5 nu_c59_5 nv_c59_5 nd_c59_5 hm_t_power e_c59_5 _) q647 q648 q649 q50 q650 nd_X3_multiplyByX ⟨Nat.le_of_ble_eq_true rfl, Nat.le_of_ble_eq_true rfl⟩ rfl rfl hP hD (hK.sub (tys' := []) [] rfl) hN rfl ⟨0, _, rfl⟩ rfl hl.1 rfl (Nat.le_of_ble_eq_true rfl) dX5_addRound_59 ⟨Nat.le_of_ble_eq_true rfl, Nat.le_of_ble_eq_true rfl⟩) hS hA hD (fun H locs hP hD hS z_c59_5 => ?_)
      have hP : va_P D vwCl ((h_t, .inr (5, [.ref h_t_power, .ref h_t_head, .ref h_t_shift, .ref h_t_tail, .ref h_t_divisor, .ref h_t_result, .ref h_t_sum])) :: (h_t_sum, .inr (6, [.long t_sum_u_c17_1, .long t_sum_v_c17_1, .long t_sum_d_c17_1])) :: (h_p1, .inr (3, [.int p1_a, .int p1_b, z_p1_2, z_p1_3, z_p1_4, z_p1_5, z_p1_6, z_p1_7])) :: (h_p2, .inr (7, [.ref h_p2_bytes, .int p2_size])) :: (h_p2_bytes, .inl (k_p2_bytes, 200, .inl p2_bytes)) :: (R ++ va_pl NL (nmE nt_c59_5 nu_c59_5 nv_c59_5 nd_c59_5))) H := pm_P [1, 2, 0, 3, 4] 5 hP
      have hD : va_D A ((h_t, .inr (5, [.ref h_t_power, .ref h_t_head, .ref h_t_shift, .ref h_t_tail, .ref h_t_divisor, .ref h_t_result, .ref h_t_sum])) :: (h_t_sum, .inr (6, [.long t_sum_u_c17_1, .long t_sum_v_c17_1, .long t_sum_d_c17_1])) :: (h_p1, .inr (3, [.int p1_a, .int p1_b, z_p1_2, z_p1_3, z_p1_4, z_p1_5, z_p1_6, z_p1_7])) :: (h_p2, .inr (7, [.ref h_p2_bytes, .int p2_size])) :: (h_p2_bytes, .inl (k_p2_bytes, 200, .inl p2_bytes)) :: (R ++ va_pl NL (nmE nt_c59_5 nu_c59_5 nv_c59_5 nd_c59_5))) := pm_D (X := [(h_t, .inr (5, [.ref h_t_power, .ref h_t_head, .ref h_t_shift, .ref h_t_tail, .ref h_t_divisor, .ref h_t_result, .ref h_t_sum])), (h_t_sum, .inr (6, [.long t_sum_u_c17_1, .long t_sum_v_c17_1, .long t_sum_d_c17_1])), (h_p1, .inr (3, [.int p1_a, .int p1_b, z_p1_2, z_p1_3, z_p1_4, z_p1_5, z_p1_6, z_p1_7])), (h_p2, .inr (7, [.ref h_p2_bytes, .int p2_size])), (h_p2_bytes, .inl (k_p2_bytes, 200, .inl p2_bytes))]) [1, 2, 0, 3, 4] 5 (by decide) (by decide) rfl hD
      refine lv_if_eq (tgt := 166) hx hb dX5_addRound_62 (by decide) (fun c7 => ?_) (fun c7 => ?_)
      · have h := br_pos c7 h
        refine lv_iconst (v := 0) hx hb dX5_addRound_166 (by decide) ?_
        cases h
        exact rt_z S hr hlk hP hD hS (by decide) dX5_addRound_167
      · have h := br_neg c7 h
        refine lv_aload_n hx hb dX5_addRound_65 rfl (lv_at hl 0 rfl) ?_
        refine va_get (D := D) (ci := 5) (v := .ref h_t_divisor) (C := RX5) (T := TX5) (N := 7) hx hb ha ix5 hown hK hP 0 rfl rfl 4 (by decide) (ha _ q263) (fun _ h9 => h9) rfl dX5_addRound_66 ?_
        refine lv_aload_n hx hb dX5_addRound_69 rfl (lv_at hl 0 rfl) ?_
        refine va_get (D := D) (ci := 5) (v := .ref h_t_power) (C := RX5) (T := TX5) (N := 7) hx hb ha ix5 hown hK hP 0 rfl rfl 0 (by decide) (ha _ q259) (fun _ h9 => h9) rfl dX5_addRound_70 ?_
        refine xg_num (v := .long (nu_c59_5 h_t_power)) S hK (Y := ((h_t, .inr (5, [.ref h_t_power, .ref h_t_head, .ref h_t_shift, .ref h_t_tail, .ref h_t_divisor, .ref h_t_result, .ref h_t_sum])) :: (h_t_sum, .inr (6, [.long t_sum_u_c17_1, .long t_sum_v_c17_1, .long t_sum_d_c17_1])) :: (h_p1, .inr (3, [.int p1_a, .int p1_b, z_p1_2, z_p1_3, z_p1_4, z_p1_5, z_p1_6, z_p1_7])) :: (h_p2, .inr (7, [.ref h_p2_bytes, .int p2_size])) :: (h_p2_bytes, .inl (k_p2_bytes, 200, .inl p2_bytes)) :: R)) hP hm_t_power 1 (by decide) (ha _ q160) rfl dX5_addRound_73 ?_
        refine lv_aload_n hx hb dX5_addRound_76 rfl (lv_at hl 0 rfl) ?_
        refine va_get (D := D) (ci := 5) (v := .ref h_t_power) (C := RX5) (T := TX5) (N := 7) hx hb ha ix5 hown hK hP 0 rfl rfl 0 (by decide) (ha _ q259) (fun _ h9 => h9) rfl dX5_addRound_77 ?_
        refine xg_num (v := .long (nd_c59_5 h_t_power)) S hK (Y := ((h_t, .inr (5, [.ref h_t_power, .ref h_t_head, .ref h_t_shift, .ref h_t_tail, .ref h_t_divisor, .ref h_t_result, .ref h_t_sum])) :: (h_t_sum, .inr (6, [.long t_sum_u_c17_1, .long t_sum_v_c17_1, .long t_sum_d_c17_1])) :: (h_p1, .inr (3, [.int p1_a, .int p1_b, z_p1_2, z_p1_3, z_p1_4, z_p1_5, z_p1_6, z_p1_7])) :: (h_p2, .inr (7, [.ref h_p2_bytes, .int p2_size])) :: (h_p2_bytes, .inl (k_p2_bytes, 200, .inl p2_bytes)) :: R)) hP hm_t_power 3 (by decide) (ha _ q172) rfl dX5_addRound_80 ?_
        refine lv_lsub hx hb dX5_addRound_83 ?_
        refine lv_aload_n hx hb dX5_addRound_84 rfl (lv_at hl 0 rfl) ?_
        refine va_get (D := D) (ci := 5) (v := .ref h_t_power) (C := RX5) (T := TX5) (N := 7) hx hb ha ix5 hown hK hP 0 rfl rfl 0 (by decide) (ha _ q259) (fun _ h9 => h9) rfl dX5_addRound_85 ?_
        refine xg_num (v := .long (nv_c59_5 h_t_power)) S hK (Y := ((h_t, .inr (5, [.ref h_t_power, .ref h_t_head, .ref h_t_shift, .ref h_t_tail, .ref h_t_divisor, .ref h_t_result, .ref h_t_sum])) :: (h_t_sum, .inr (6, [.long t_sum_u_c17_1, .long t_sum_v_c17_1, .long t_sum_d_c17_1])) :: (h_p1, .inr (3, [.int p1_a, .int p1_b, z_p1_2, z_p1_3, z_p1_4, z_p1_5, z_p1_6, z_p1_7])) :: (h_p2, .inr (7, [.ref h_p2_bytes, .int p2_size])) :: (h_p2_bytes, .inl (k_p2_bytes, 200, .inl p2_bytes)) :: R)) hP hm_t_power 2 (by decide) (ha _ q166) rfl dX5_addRound_88 ?_
        refine lv_aload_n hx hb dX5_addRound_91 rfl (lv_at hl 0 rfl) ?_
        refine va_get (D := D) (ci := 5) (v := .ref h_t_power) (C := RX5) (T := TX5) (N := 7) hx hb ha ix5 hown hK hP 0 rfl rfl 0 (by decide) (ha _ q259) (fun _ h9 => h9) rfl dX5_addRound_92 ?_
        refine xg_num (v := .long (nd_c59_5 h_t_power)) S hK (Y := ((h_t, .inr (5, [.ref h_t_power, .ref h_t_head, .ref h_t_shift, .ref h_t_tail, .ref h_t_divisor, .ref h_t_result, .ref h_t_sum])) :: (h_t_sum, .inr (6, [.long t_sum_u_c17_1, .long t_sum_v_c17_1, .long t_sum_d_c17_1])) :: (h_p1, .inr (3, [.int p1_a, .int p1_b, z_p1_2, z_p1_3, z_p1_4, z_p1_5, z_p1_6, z_p1_7])) :: (h_p2, .inr (7, [.ref h_p2_bytes, .int p2_size])) :: (h_p2_bytes, .inl (k_p2_bytes, 200, .inl p2_bytes)) :: R)) hP hm_t_power 3 (by decide) (ha _ q172) rfl dX5_addRound_95 ?_
        obtain ⟨r_c98_7, nt_c98_7, nu_c98_7, nv_c98_7, nd_c98_7, e_c98_7, h⟩ := bnd5_ok h
        refine cl_z (rn_v (ci := 0) (As := [.long ((nu_c59_5 h_t_power) - (nd_c59_5 h_t_power)), .long (nv_c59_5 h_t_power), .long (nd_c59_5 h_t_power)]) (rest := []) S (c_X0_take l D ((h_t, .inr (5, [.ref h_t_power, .ref h_t_head, .ref h_t_shift, .ref h_t_tail, .ref h_t_divisor, .ref h_t_result, .ref h_t_sum])) :: (h_t_sum, .inr (6, [.long t_sum_u_c17_1, .long t_sum_v_c17_1, .long t_sum_d_c17_1])) :: (h_p1, .inr (3, [.int p1_a, .int p1_b, z_p1_2, z_p1_3, z_p1_4, z_p1_5, z_p1_6, z_p1_7])) :: (h_p2, .inr (7, [.ref h_p2_bytes, .int p2_size])) :: (h_p2_bytes, .inl (k_p2_bytes, 200, .inl p2_bytes)) :: R) NL nt_c59_5 nu_c59_5 nv_c59_5 nd_c59_5 h_t_divisor ((nu_c59_5 h_t_power) - (nd_c59_5 h_t_power)) (nv_c59_5 h_t_power) (nd_c59_5 h_t_power) r_c98_7 nt_c98_7 nu_c98_7 nv_c98_7 nd_c98_7 hm_t_divisor e_c98_7 _) q646 q512 q513 q51 q514 nd_X0_take ⟨Nat.le_of_ble_eq_true rfl, Nat.le_of_ble_eq_true rfl⟩ rfl rfl hP hD (hK.sub (tys' := []) [] rfl) hN rfl (rc_num (Y := ((h_t, .inr (5, [.ref h_t_power, .ref h_t_head, .ref h_t_shift, .ref h_t_tail, .ref h_t_divisor, .ref h_t_result, .ref h_t_sum])) :: (h_t_sum, .inr (6, [.long t_sum_u_c17_1, .long t_sum_v_c17_1, .long t_sum_d_c17_1])) :: (h_p1, .inr (3, [.int p1_a, .int p1_b, z_p1_2, z_p1_3, z_p1_4, z_p1_5, z_p1_6, z_p1_7])) :: (h_p2, .inr (7, [.ref h_p2_bytes, .int p2_size])) :: (h_p2_bytes, .inl (k_p2_bytes, 200, .inl p2_bytes)) :: R)) hm_t_divisor) rfl hl.1 rfl (Nat.le_of_ble_eq_true rfl) dX5_addRound_98 ⟨Nat.le_of_ble_eq_true rfl, Nat.le_of_ble_eq_true rfl⟩) hS hA hD (fun H locs hP hD hS z_c98_7 => ?_)
        have hP : va_P D vwCl ((h_t, .inr (5, [.ref h_t_power, .ref h_t_head, .ref h_t_shift, .ref h_t_tail, .ref h_t_divisor, .ref h_t_result, .ref h_t_sum])) :: (h_t_sum, .inr (6, [.long t_sum_u_c17_1, .long t_sum_v_c17_1, .long t_sum_d_c17_1])) :: (h_p1, .inr (3, [.int p1_a, .int p1_b, z_p1_2, z_p1_3, z_p1_4, z_p1_5, z_p1_6, z_p1_7])) :: (h_p2, .inr (7, [.ref h_p2_bytes, .int p2_size])) :: (h_p2_bytes, .inl (k_p2_bytes, 200, .inl p2_bytes)) :: (R ++ va_pl NL (nmE nt_c98_7 nu_c98_7 nv_c98_7 nd_c98_7))) H := hP
        have hD : va_D A ((h_t, .inr (5, [.ref h_t_power, .ref h_t_head, .ref h_t_shift, .ref h_t_tail, .ref h_t_divisor, .ref h_t_result, .ref h_t_sum])) :: (h_t_sum, .inr (6, [.long t_sum_u_c17_1, .long t_sum_v_c17_1, .long t_sum_d_c17_1])) :: (h_p1, .inr (3, [.int p1_a, .int p1_b, z_p1_2, z_p1_3, z_p1_4, z_p1_5, z_p1_6, z_p1_7])) :: (h_p2, .inr (7, [.ref h_p2_bytes, .int p2_size])) :: (h_p2_bytes, .inl (k_p2_bytes, 200, .inl p2_bytes)) :: (R ++ va_pl NL (nmE nt_c98_7 nu_c98_7 nv_c98_7 nd_c98_7))) := hD
        refine lv_if_eq (tgt := 166) hx hb dX5_addRound_101 (by decide) (fun c9 => ?_) (fun c9 => ?_)
        · have h := br_pos c9 h
          refine lv_iconst (v := 0) hx hb dX5_addRound_166 (by decide) ?_
          cases h
          exact rt_z S hr hlk hP hD hS (by decide) dX5_addRound_167
        · have h := br_neg c9 h
          refine lv_aload_n hx hb dX5_addRound_104 rfl (lv_at hl 1 rfl) ?_
          refine lv_aload_n hx hb dX5_addRound_105 rfl (lv_at hl 0 rfl) ?_
          refine va_get (D := D) (ci := 5) (v := .ref h_t_result) (C := RX5) (T := TX5) (N := 7) hx hb ha ix5 hown hK hP 0 rfl rfl 5 (by decide) (ha _ q264) (fun _ h9 => h9) rfl dX5_addRound_106 ?_
          refine lv_aload_n hx hb dX5_addRound_109 rfl (lv_at hl 0 rfl) ?_
          refine va_get (D := D) (ci := 5) (v := .ref h_t_tail) (C := RX5) (T := TX5) (N := 7) hx hb ha ix5 hown hK hP 0 rfl rfl 3 (by decide) (ha _ q262) (fun _ h9 => h9) rfl dX5_addRound_110 ?_
          refine lv_aload_n hx hb dX5_addRound_113 rfl (lv_at hl 0 rfl) ?_
          refine va_get (D := D) (ci := 5) (v := .ref h_t_divisor) (C := RX5) (T := TX5) (N := 7) hx hb ha ix5 hown hK hP 0 rfl rfl 4 (by decide) (ha _ q263) (fun _ h9 => h9) rfl dX5_addRound_114 ?_
          obtain ⟨r_c117_9, nt_c117_9, nu_c117_9, nv_c117_9, nd_c117_9, e_c117_9, h⟩ := bnd5_ok h
          have hP : va_P D vwCl ((h_p1, .inr (3, [.int p1_a, .int p1_b, z_p1_2, z_p1_3, z_p1_4, z_p1_5, z_p1_6, z_p1_7])) :: (h_t, .inr (5, [.ref h_t_power, .ref h_t_head, .ref h_t_shift, .ref h_t_tail, .ref h_t_divisor, .ref h_t_result, .ref h_t_sum])) :: (h_t_sum, .inr (6, [.long t_sum_u_c17_1, .long t_sum_v_c17_1, .long t_sum_d_c17_1])) :: (h_p2, .inr (7, [.ref h_p2_bytes, .int p2_size])) :: (h_p2_bytes, .inl (k_p2_bytes, 200, .inl p2_bytes)) :: (R ++ va_pl NL (nmE nt_c98_7 nu_c98_7 nv_c98_7 nd_c98_7))) _ := pm_P [2, 0, 1, 3, 4] 5 hP
          have hD : va_D A ((h_p1, .inr (3, [.int p1_a, .int p1_b, z_p1_2, z_p1_3, z_p1_4, z_p1_5, z_p1_6, z_p1_7])) :: (h_t, .inr (5, [.ref h_t_power, .ref h_t_head, .ref h_t_shift, .ref h_t_tail, .ref h_t_divisor, .ref h_t_result, .ref h_t_sum])) :: (h_t_sum, .inr (6, [.long t_sum_u_c17_1, .long t_sum_v_c17_1, .long t_sum_d_c17_1])) :: (h_p2, .inr (7, [.ref h_p2_bytes, .int p2_size])) :: (h_p2_bytes, .inl (k_p2_bytes, 200, .inl p2_bytes)) :: (R ++ va_pl NL (nmE nt_c98_7 nu_c98_7 nv_c98_7 nd_c98_7))) := pm_D (X := [(h_p1, .inr (3, [.int p1_a, .int p1_b, z_p1_2, z_p1_3, z_p1_4, z_p1_5, z_p1_6, z_p1_7])), (h_t, .inr (5, [.ref h_t_power, .ref h_t_head, .ref h_t_shift, .ref h_t_tail, .ref h_t_divisor, .ref h_t_result, .ref h_t_sum])), (h_t_sum, .inr (6, [.long t_sum_u_c17_1, .long t_sum_v_c17_1, .long t_sum_d_c17_1])), (h_p2, .inr (7, [.ref h_p2_bytes, .int p2_size])), (h_p2_bytes, .inl (k_p2_bytes, 200, .inl p2_bytes))]) [2, 0, 1, 3, 4] 5 (by decide) (by decide) rfl hD
          refine cl_z (rn_v (ci := 3) (As := [.ref h_t_result, .ref h_t_tail, .ref h_t_divisor]) (rest := []) S (c_X3_divide l D ((h_t, .inr (5, [.ref h_t_power, .ref h_t_head, .ref h_t_shift, .ref h_t_tail, .ref h_t_divisor, .ref h_t_result, .ref h_t_sum])) :: (h_t_sum, .inr (6, [.long t_sum_u_c17_1, .long t_sum_v_c17_1, .long t_sum_d_c17_1])) :: (h_p2, .inr (7, [.ref h_p2_bytes, .int p2_size])) :: (h_p2_bytes, .inl (k_p2_bytes, 200, .inl p2_bytes)) :: R) NL nt_c98_7 nu_c98_7 nv_c98_7 nd_c98_7 h_p1 p1_a p1_b (z_p1_2) (z_p1_3) (z_p1_4) (z_p1_5) (z_p1_6) (z_p1_7) h_t_result h_t_tail h_t_divisor r_c117_9 nt_c117_9 nu_c117_9 nv_c117_9 nd_c117_9 hm_t_result hm_t_tail hm_t_divisor e_c117_9 _) q677 q540 q541 q50 q542 nd_X3_divide ⟨Nat.le_of_ble_eq_true rfl, Nat.le_of_ble_eq_true rfl⟩ rfl rfl hP hD (hK.sub (tys' := []) [] rfl) hN rfl ⟨0, _, rfl⟩ rfl hl.1 rfl (Nat.le_of_ble_eq_true rfl) dX5_addRound_117 ⟨Nat.le_of_ble_eq_true rfl, Nat.le_of_ble_eq_true rfl⟩) hS hA hD (fun H locs hP hD hS z_c117_9 => ?_)
          have hP : va_P D vwCl ((h_t, .inr (5, [.ref h_t_power, .ref h_t_head, .ref h_t_shift, .ref h_t_tail, .ref h_t_divisor, .ref h_t_result, .ref h_t_sum])) :: (h_t_sum, .inr (6, [.long t_sum_u_c17_1, .long t_sum_v_c17_1, .long t_sum_d_c17_1])) :: (h_p1, .inr (3, [.int p1_a, .int p1_b, z_p1_2, z_p1_3, z_p1_4, z_p1_5, z_p1_6, z_p1_7])) :: (h_p2, .inr (7, [.ref h_p2_bytes, .int p2_size])) :: (h_p2_bytes, .inl (k_p2_bytes, 200, .inl p2_bytes)) :: (R ++ va_pl NL (nmE nt_c117_9 nu_c117_9 nv_c117_9 nd_c117_9))) H := pm_P [1, 2, 0, 3, 4] 5 hP
          have hD : va_D A ((h_t, .inr (5, [.ref h_t_power, .ref h_t_head, .ref h_t_shift, .ref h_t_tail, .ref h_t_divisor, .ref h_t_result, .ref h_t_sum])) :: (h_t_sum, .inr (6, [.long t_sum_u_c17_1, .long t_sum_v_c17_1, .long t_sum_d_c17_1])) :: (h_p1, .inr (3, [.int p1_a, .int p1_b, z_p1_2, z_p1_3, z_p1_4, z_p1_5, z_p1_6, z_p1_7])) :: (h_p2, .inr (7, [.ref h_p2_bytes, .int p2_size])) :: (h_p2_bytes, .inl (k_p2_bytes, 200, .inl p2_bytes)) :: (R ++ va_pl NL (nmE nt_c117_9 nu_c117_9 nv_c117_9 nd_c117_9))) := pm_D (X := [(h_t, .inr (5, [.ref h_t_power, .ref h_t_head, .ref h_t_shift, .ref h_t_tail, .ref h_t_divisor, .ref h_t_result, .ref h_t_sum])), (h_t_sum, .inr (6, [.long t_sum_u_c17_1, .long t_sum_v_c17_1, .long t_sum_d_c17_1])), (h_p1, .inr (3, [.int p1_a, .int p1_b, z_p1_2, z_p1_3, z_p1_4, z_p1_5, z_p1_6, z_p1_7])), (h_p2, .inr (7, [.ref h_p2_bytes, .int p2_size])), (h_p2_bytes, .inl (k_p2_bytes, 200, .inl p2_bytes))]) [1, 2, 0, 3, 4] 5 (by decide) (by decide) rfl hD
          refine lv_if_eq (tgt := 166) hx hb dX5_addRound_120 (by decide) (fun c11 => ?_) (fun c11 => ?_)
          · have h := br_pos c11 h
            refine lv_iconst (v := 0) hx hb dX5_addRound_166 (by decide) ?_
            cases h
            exact rt_z S hr hlk hP hD hS (by decide) dX5_addRound_167
          · have h := br_neg c11 h
            refine lv_aload_n hx hb dX5_addRound_123 rfl (lv_at hl 1 rfl) ?_
            refine lv_aload_n hx hb dX5_addRound_124 rfl (lv_at hl 0 rfl) ?_
            refine va_get (D := D) (ci := 5) (v := .ref h_t_result) (C := RX5) (T := TX5) (N := 7) hx hb ha ix5 hown hK hP 0 rfl rfl 5 (by decide) (ha _ q264) (fun _ h9 => h9) rfl dX5_addRound_125 ?_
            refine lv_aload_n hx hb dX5_addRound_128 rfl (lv_at hl 0 rfl) ?_
            refine va_get (D := D) (ci := 5) (v := .ref h_t_result) (C := RX5) (T := TX5) (N := 7) hx hb ha ix5 hown hK hP 0 rfl rfl 5 (by decide) (ha _ q264) (fun _ h9 => h9) rfl dX5_addRound_129 ?_
            refine lv_aload_n hx hb dX5_addRound_132 rfl (lv_at hl 0 rfl) ?_
            refine va_get (D := D) (ci := 5) (v := .ref h_t_shift) (C := RX5) (T := TX5) (N := 7) hx hb ha ix5 hown hK hP 0 rfl rfl 2 (by decide) (ha _ q261) (fun _ h9 => h9) rfl dX5_addRound_133 ?_
            obtain ⟨r_c136_11, nt_c136_11, nu_c136_11, nv_c136_11, nd_c136_11, e_c136_11, h⟩ := bnd5_ok h
            have hP : va_P D vwCl ((h_p1, .inr (3, [.int p1_a, .int p1_b, z_p1_2, z_p1_3, z_p1_4, z_p1_5, z_p1_6, z_p1_7])) :: (h_t, .inr (5, [.ref h_t_power, .ref h_t_head, .ref h_t_shift, .ref h_t_tail, .ref h_t_divisor, .ref h_t_result, .ref h_t_sum])) :: (h_t_sum, .inr (6, [.long t_sum_u_c17_1, .long t_sum_v_c17_1, .long t_sum_d_c17_1])) :: (h_p2, .inr (7, [.ref h_p2_bytes, .int p2_size])) :: (h_p2_bytes, .inl (k_p2_bytes, 200, .inl p2_bytes)) :: (R ++ va_pl NL (nmE nt_c117_9 nu_c117_9 nv_c117_9 nd_c117_9))) _ := pm_P [2, 0, 1, 3, 4] 5 hP
            have hD : va_D A ((h_p1, .inr (3, [.int p1_a, .int p1_b, z_p1_2, z_p1_3, z_p1_4, z_p1_5, z_p1_6, z_p1_7])) :: (h_t, .inr (5, [.ref h_t_power, .ref h_t_head, .ref h_t_shift, .ref h_t_tail, .ref h_t_divisor, .ref h_t_result, .ref h_t_sum])) :: (h_t_sum, .inr (6, [.long t_sum_u_c17_1, .long t_sum_v_c17_1, .long t_sum_d_c17_1])) :: (h_p2, .inr (7, [.ref h_p2_bytes, .int p2_size])) :: (h_p2_bytes, .inl (k_p2_bytes, 200, .inl p2_bytes)) :: (R ++ va_pl NL (nmE nt_c117_9 nu_c117_9 nv_c117_9 nd_c117_9))) := pm_D (X := [(h_p1, .inr (3, [.int p1_a, .int p1_b, z_p1_2, z_p1_3, z_p1_4, z_p1_5, z_p1_6, z_p1_7])), (h_t, .inr (5, [.ref h_t_power, .ref h_t_head, .ref h_t_shift, .ref h_t_tail, .ref h_t_divisor, .ref h_t_result, .ref h_t_sum])), (h_t_sum, .inr (6, [.long t_sum_u_c17_1, .long t_sum_v_c17_1, .long t_sum_d_c17_1])), (h_p2, .inr (7, [.ref h_p2_bytes, .int p2_size])), (h_p2_bytes, .inl (k_p2_bytes, 200, .inl p2_bytes))]) [2, 0, 1, 3, 4] 5 (by decide) (by decide) rfl hD
            refine cl_z (rn_v (ci := 3) (As := [.ref h_t_result, .ref h_t_result, .ref h_t_shift]) (rest := []) S (c_X3_multiply l D ((h_t, .inr (5, [.ref h_t_power, .ref h_t_head, .ref h_t_shift, .ref h_t_tail, .ref h_t_divisor, .ref h_t_result, .ref h_t_sum])) :: (h_t_sum, .inr (6, [.long t_sum_u_c17_1, .long t_sum_v_c17_1, .long t_sum_d_c17_1])) :: (h_p2, .inr (7, [.ref h_p2_bytes, .int p2_size])) :: (h_p2_bytes, .inl (k_p2_bytes, 200, .inl p2_bytes)) :: R) NL nt_c117_9 nu_c117_9 nv_c117_9 nd_c117_9 h_p1 p1_a p1_b (z_p1_2) (z_p1_3) (z_p1_4) (z_p1_5) (z_p1_6) (z_p1_7) h_t_result h_t_result h_t_shift r_c136_11 nt_c136_11 nu_c136_11 nv_c136_11 nd_c136_11 hm_t_result hm_t_result hm_t_shift e_c136_11 _) q678 q536 q537 q50 q538 nd_X3_multiply ⟨Nat.le_of_ble_eq_true rfl, Nat.le_of_ble_eq_true rfl⟩ rfl rfl hP hD (hK.sub (tys' := []) [] rfl) hN rfl ⟨0, _, rfl⟩ rfl hl.1 rfl (Nat.le_of_ble_eq_true rfl) dX5_addRound_136 ⟨Nat.le_of_ble_eq_true rfl, Nat.le_of_ble_eq_true rfl⟩) hS hA hD (fun H locs hP hD hS z_c136_11 => ?_)
            have hP : va_P D vwCl ((h_t, .inr (5, [.ref h_t_power, .ref h_t_head, .ref h_t_shift, .ref h_t_tail, .ref h_t_divisor, .ref h_t_result, .ref h_t_sum])) :: (h_t_sum, .inr (6, [.long t_sum_u_c17_1, .long t_sum_v_c17_1, .long t_sum_d_c17_1])) :: (h_p1, .inr (3, [.int p1_a, .int p1_b, z_p1_2, z_p1_3, z_p1_4, z_p1_5, z_p1_6, z_p1_7])) :: (h_p2, .inr (7, [.ref h_p2_bytes, .int p2_size])) :: (h_p2_bytes, .inl (k_p2_bytes, 200, .inl p2_bytes)) :: (R ++ va_pl NL (nmE nt_c136_11 nu_c136_11 nv_c136_11 nd_c136_11))) H := pm_P [1, 2, 0, 3, 4] 5 hP
            have hD : va_D A ((h_t, .inr (5, [.ref h_t_power, .ref h_t_head, .ref h_t_shift, .ref h_t_tail, .ref h_t_divisor, .ref h_t_result, .ref h_t_sum])) :: (h_t_sum, .inr (6, [.long t_sum_u_c17_1, .long t_sum_v_c17_1, .long t_sum_d_c17_1])) :: (h_p1, .inr (3, [.int p1_a, .int p1_b, z_p1_2, z_p1_3, z_p1_4, z_p1_5, z_p1_6, z_p1_7])) :: (h_p2, .inr (7, [.ref h_p2_bytes, .int p2_size])) :: (h_p2_bytes, .inl (k_p2_bytes, 200, .inl p2_bytes)) :: (R ++ va_pl NL (nmE nt_c136_11 nu_c136_11 nv_c136_11 nd_c136_11))) := pm_D (X := [(h_t, .inr (5, [.ref h_t_power, .ref h_t_head, .ref h_t_shift, .ref h_t_tail, .ref h_t_divisor, .ref h_t_result, .ref h_t_sum])), (h_t_sum, .inr (6, [.long t_sum_u_c17_1, .long t_sum_v_c17_1, .long t_sum_d_c17_1])), (h_p1, .inr (3, [.int p1_a, .int p1_b, z_p1_2, z_p1_3, z_p1_4, z_p1_5, z_p1_6, z_p1_7])), (h_p2, .inr (7, [.ref h_p2_bytes, .int p2_size])), (h_p2_bytes, .inl (k_p2_bytes, 200, .inl p2_bytes))]) [1, 2, 0, 3, 4] 5 (by decide) (by decide) rfl hD
            refine lv_if_eq (tgt := 166) hx hb dX5_addRound_139 (by decide) (fun c13 => ?_) (fun c13 => ?_)
            · have h := br_pos c13 h
              refine lv_iconst (v := 0) hx hb dX5_addRound_166 (by decide) ?_
              cases h
              exact rt_z S hr hlk hP hD hS (by decide) dX5_addRound_167
            · have h := br_neg c13 h
              refine lv_aload_n hx hb dX5_addRound_142 rfl (lv_at hl 1 rfl) ?_
              refine lv_aload_n hx hb dX5_addRound_143 rfl (lv_at hl 0 rfl) ?_
              refine va_get (D := D) (ci := 5) (v := .ref h_t_result) (C := RX5) (T := TX5) (N := 7) hx hb ha ix5 hown hK hP 0 rfl rfl 5 (by decide) (ha _ q264) (fun _ h9 => h9) rfl dX5_addRound_144 ?_
              refine lv_aload_n hx hb dX5_addRound_147 rfl (lv_at hl 0 rfl) ?_
              refine va_get (D := D) (ci := 5) (v := .ref h_t_result) (C := RX5) (T := TX5) (N := 7) hx hb ha ix5 hown hK hP 0 rfl rfl 5 (by decide) (ha _ q264) (fun _ h9 => h9) rfl dX5_addRound_148 ?_
              refine lv_aload_n hx hb dX5_addRound_151 rfl (lv_at hl 0 rfl) ?_
              refine va_get (D := D) (ci := 5) (v := .ref h_t_head) (C := RX5) (T := TX5) (N := 7) hx hb ha ix5 hown hK hP 0 rfl rfl 1 (by decide) (ha _ q260) (fun _ h9 => h9) rfl dX5_addRound_152 ?_
              refine lv_iconst (v := 1) hx hb dX5_addRound_155 (by decide) ?_
              obtain ⟨r_c156_13, nt_c156_13, nu_c156_13, nv_c156_13, nd_c156_13, e_c156_13, h⟩ := bnd5_ok h
              have hP : va_P D vwCl ((h_p1, .inr (3, [.int p1_a, .int p1_b, z_p1_2, z_p1_3, z_p1_4, z_p1_5, z_p1_6, z_p1_7])) :: (h_t, .inr (5, [.ref h_t_power, .ref h_t_head, .ref h_t_shift, .ref h_t_tail, .ref h_t_divisor, .ref h_t_result, .ref h_t_sum])) :: (h_t_sum, .inr (6, [.long t_sum_u_c17_1, .long t_sum_v_c17_1, .long t_sum_d_c17_1])) :: (h_p2, .inr (7, [.ref h_p2_bytes, .int p2_size])) :: (h_p2_bytes, .inl (k_p2_bytes, 200, .inl p2_bytes)) :: (R ++ va_pl NL (nmE nt_c136_11 nu_c136_11 nv_c136_11 nd_c136_11))) _ := pm_P [2, 0, 1, 3, 4] 5 hP
              have hD : va_D A ((h_p1, .inr (3, [.int p1_a, .int p1_b, z_p1_2, z_p1_3, z_p1_4, z_p1_5, z_p1_6, z_p1_7])) :: (h_t, .inr (5, [.ref h_t_power, .ref h_t_head, .ref h_t_shift, .ref h_t_tail, .ref h_t_divisor, .ref h_t_result, .ref h_t_sum])) :: (h_t_sum, .inr (6, [.long t_sum_u_c17_1, .long t_sum_v_c17_1, .long t_sum_d_c17_1])) :: (h_p2, .inr (7, [.ref h_p2_bytes, .int p2_size])) :: (h_p2_bytes, .inl (k_p2_bytes, 200, .inl p2_bytes)) :: (R ++ va_pl NL (nmE nt_c136_11 nu_c136_11 nv_c136_11 nd_c136_11))) := pm_D (X := [(h_p1, .inr (3, [.int p1_a, .int p1_b, z_p1_2, z_p1_3, z_p1_4, z_p1_5, z_p1_6, z_p1_7])), (h_t, .inr (5, [.ref h_t_power, .ref h_t_head, .ref h_t_shift, .ref h_t_tail, .ref h_t_divisor, .ref h_t_result, .ref h_t_sum])), (h_t_sum, .inr (6, [.long t_sum_u_c17_1, .long t_sum_v_c17_1, .long t_sum_d_c17_1])), (h_p2, .inr (7, [.ref h_p2_bytes, .int p2_size])), (h_p2_bytes, .inl (k_p2_bytes, 200, .inl p2_bytes))]) [2, 0, 1, 3, 4] 5 (by decide) (by decide) rfl hD
              refine cl_z (rn_v (ci := 3) (As := [.ref h_t_result, .ref h_t_result, .ref h_t_head, .int 1]) (rest := []) S (c_X3_join l D ((h_t, .inr (5, [.ref h_t_power, .ref h_t_head, .ref h_t_shift, .ref h_t_tail, .ref h_t_divisor, .ref h_t_result, .ref h_t_sum])) :: (h_t_sum, .inr (6, [.long t_sum_u_c17_1, .long t_sum_v_c17_1, .long t_sum_d_c17_1])) :: (h_p2, .inr (7, [.ref h_p2_bytes, .int p2_size])) :: (h_p2_bytes, .inl (k_p2_bytes, 200, .inl p2_bytes)) :: R) NL nt_c136_11 nu_c136_11 nv_c136_11 nd_c136_11 h_p1 (.int p1_a) (.int p1_b) (z_p1_2) (z_p1_3) (z_p1_4) (z_p1_5) (z_p1_6) (z_p1_7) h_t_result h_t_result h_t_head 1 r_c156_13 nt_c156_13 nu_c156_13 nv_c156_13 nd_c156_13 hm_t_result hm_t_result hm_t_head e_c156_13 _) q679 q531 q532 q50 q533 nd_X3_join ⟨Nat.le_of_ble_eq_true rfl, Nat.le_of_ble_eq_true rfl⟩ rfl rfl hP hD (hK.sub (tys' := []) [] rfl) hN rfl ⟨0, _, rfl⟩ rfl hl.1 rfl (Nat.le_of_ble_eq_true rfl) dX5_addRound_156 ⟨Nat.le_of_ble_eq_true rfl, Nat.le_of_ble_eq_true rfl⟩) hS hA hD (fun H locs hP hD hS z_c156_13 => ?_)
              have hP : va_P D vwCl ((h_t, .inr (5, [.ref h_t_power, .ref h_t_head, .ref h_t_shift, .ref h_t_tail, .ref h_t_divisor, .ref h_t_result, .ref h_t_sum])) :: (h_t_sum, .inr (6, [.long t_sum_u_c17_1, .long t_sum_v_c17_1, .long t_sum_d_c17_1])) :: (h_p1, .inr (3, [.int p1_a, .int p1_b, z_p1_2, z_p1_3, z_p1_4, z_p1_5, z_p1_6, z_p1_7])) :: (h_p2, .inr (7, [.ref h_p2_bytes, .int p2_size])) :: (h_p2_bytes, .inl (k_p2_bytes, 200, .inl p2_bytes)) :: (R ++ va_pl NL (nmE nt_c156_13 nu_c156_13 nv_c156_13 nd_c156_13))) H := pm_P [1, 2, 0, 3, 4] 5 hP
              have hD : va_D A ((h_t, .inr (5, [.ref h_t_power, .ref h_t_head, .ref h_t_shift, .ref h_t_tail, .ref h_t_divisor, .ref h_t_result, .ref h_t_sum])) :: (h_t_sum, .inr (6, [.long t_sum_u_c17_1, .long t_sum_v_c17_1, .long t_sum_d_c17_1])) :: (h_p1, .inr (3, [.int p1_a, .int p1_b, z_p1_2, z_p1_3, z_p1_4, z_p1_5, z_p1_6, z_p1_7])) :: (h_p2, .inr (7, [.ref h_p2_bytes, .int p2_size])) :: (h_p2_bytes, .inl (k_p2_bytes, 200, .inl p2_bytes)) :: (R ++ va_pl NL (nmE nt_c156_13 nu_c156_13 nv_c156_13 nd_c156_13))) := pm_D (X := [(h_t, .inr (5, [.ref h_t_power, .ref h_t_head, .ref h_t_shift, .ref h_t_tail, .ref h_t_divisor, .ref h_t_result, .ref h_t_sum])), (h_t_sum, .inr (6, [.long t_sum_u_c17_1, .long t_sum_v_c17_1, .long t_sum_d_c17_1])), (h_p1, .inr (3, [.int p1_a, .int p1_b, z_p1_2, z_p1_3, z_p1_4, z_p1_5, z_p1_6, z_p1_7])), (h_p2, .inr (7, [.ref h_p2_bytes, .int p2_size])), (h_p2_bytes, .inl (k_p2_bytes, 200, .inl p2_bytes))]) [1, 2, 0, 3, 4] 5 (by decide) (by decide) rfl hD
              refine lv_if_eq (tgt := 166) hx hb dX5_addRound_159 (by decide) (fun c15 => ?_) (fun c15 => ?_)
              · have h := br_pos c15 h
                refine lv_iconst (v := 0) hx hb dX5_addRound_166 (by decide) ?_
                cases h
                exact rt_z S hr hlk hP hD hS (by decide) dX5_addRound_167
              · have h := br_neg c15 h
                refine lv_iconst (v := 1) hx hb dX5_addRound_162 (by decide) ?_
                refine lv_goto (tgt := 167) hx hb dX5_addRound_163 (by decide) ?_
                cases h
                exact rt_z S hr hlk hP hD hS (by decide) dX5_addRound_167
noncomputable def f_X5_reckon (t_sum_u : Int64) (t_sum_v : Int64) (t_sum_d : Int64) (p1_a : Int32) (p1_b : Int32) (p2_size : Int32) (p2_bytes : Nat → Int32) (nt : Nat → Int32) (nu : Nat → Int64) (nv : Nat → Int64) (nd : Nat → Int64) (h_t_divisor : Nat) (h_t_head : Nat) (h_t_power : Nat) (h_t_result : Nat) (h_t_shift : Nat) (h_t_tail : Nat) (l3 : Int32) (l4 : Int32) : Option (Int32 × Int64 × Int64 × Int64 × (Nat → Int32) × (Nat → Int64) × (Nat → Int64) × (Nat → Int64)) :=
  bnd3 (f_X6_clear t_sum_u t_sum_v t_sum_d) fun t_sum_u_c10_0 t_sum_v_c10_0 t_sum_d_c10_0 => (
   bnd8 (f_X5_addUpward t_sum_u_c10_0 t_sum_v_c10_0 t_sum_d_c10_0 p1_a p1_b p2_size p2_bytes nt nu nv nd h_t_power ((p2_size - l3) - 1) (p2_size - l3)) fun r_c26_1 t_sum_u_c26_1 t_sum_v_c26_1 t_sum_d_c26_1 nt_c26_1 nu_c26_1 nv_c26_1 nd_c26_1 => (
    if r_c26_1 = 0 then (
     some (0, t_sum_u_c26_1, t_sum_v_c26_1, t_sum_d_c26_1, nt_c26_1, nu_c26_1, nv_c26_1, nd_c26_1)
    ) else (
     bnd8 (f_X5_addDownward t_sum_u_c26_1 t_sum_v_c26_1 t_sum_d_c26_1 p1_a p1_b p2_size p2_bytes nt_c26_1 nu_c26_1 nv_c26_1 nd_c26_1 h_t_power (p2_size - l3) (l3 - l4)) fun r_c43_3 t_sum_u_c43_3 t_sum_v_c43_3 t_sum_d_c43_3 nt_c43_3 nu_c43_3 nv_c43_3 nd_c43_3 => (
      if r_c43_3 = 0 then (
       some (0, t_sum_u_c43_3, t_sum_v_c43_3, t_sum_d_c43_3, nt_c43_3, nu_c43_3, nv_c43_3, nd_c43_3)
      ) else (
       bnd5 (f_X0_take nt_c43_3 nu_c43_3 nv_c43_3 nd_c43_3 h_t_head t_sum_u_c43_3 t_sum_v_c43_3 t_sum_d_c43_3) fun r_c74_5 nt_c74_5 nu_c74_5 nv_c74_5 nd_c74_5 => (
        if r_c74_5 = 0 then (
         some (0, t_sum_u_c43_3, t_sum_v_c43_3, t_sum_d_c43_3, nt_c74_5, nu_c74_5, nv_c74_5, nd_c74_5)
        ) else (
         bnd5 (f_X0_copy nt_c74_5 nu_c74_5 nv_c74_5 nd_c74_5 h_t_shift h_t_power) fun r_c90_7 nt_c90_7 nu_c90_7 nv_c90_7 nd_c90_7 => (
          if r_c90_7 = 0 then (
           some (0, t_sum_u_c43_3, t_sum_v_c43_3, t_sum_d_c43_3, nt_c90_7, nu_c90_7, nv_c90_7, nd_c90_7)
          ) else (
           if l4 = 0 then (
            bnd5 (f_X0_copy nt_c90_7 nu_c90_7 nv_c90_7 nd_c90_7 h_t_result h_t_head) fun r_c109_10 nt_c109_10 nu_c109_10 nv_c109_10 nd_c109_10 => (
             if r_c109_10 = 0 then (
              some (0, t_sum_u_c43_3, t_sum_v_c43_3, t_sum_d_c43_3, nt_c109_10, nu_c109_10, nv_c109_10, nd_c109_10)
             ) else (
              some (1, t_sum_u_c43_3, t_sum_v_c43_3, t_sum_d_c43_3, nt_c109_10, nu_c109_10, nv_c109_10, nd_c109_10)
             )
            )
           ) else (
            bnd8 (f_X5_addRound t_sum_u_c43_3 t_sum_v_c43_3 t_sum_d_c43_3 p1_a p1_b p2_size p2_bytes nt_c90_7 nu_c90_7 nv_c90_7 nd_c90_7 h_t_divisor h_t_head h_t_power h_t_result h_t_shift h_t_tail l4) fun r_c123_12 t_sum_u_c123_12 t_sum_v_c123_12 t_sum_d_c123_12 nt_c123_12 nu_c123_12 nv_c123_12 nd_c123_12 => (
             if r_c123_12 = 0 then (
              some (0, t_sum_u_c123_12, t_sum_v_c123_12, t_sum_d_c123_12, nt_c123_12, nu_c123_12, nv_c123_12, nd_c123_12)
             ) else (
              some (1, t_sum_u_c123_12, t_sum_v_c123_12, t_sum_d_c123_12, nt_c123_12, nu_c123_12, nv_c123_12, nd_c123_12)
             )
            )
           )
          )
         )
        )
       )
      )
     )
    )
   )
  )
set_option maxHeartbeats 4000000 in
set_option maxRecDepth 100000 in
theorem c_X5_reckon (l : Launch) (D : va_G) (R : va_W) (NL : List Nat) (nt : Nat → Int32) (nu : Nat → Int64) (nv : Nat → Int64) (nd : Nat → Int64) (h_t : Nat) (h_t_power : Nat) (h_t_head : Nat) (h_t_shift : Nat) (h_t_tail : Nat) (h_t_divisor : Nat) (h_t_result : Nat) (h_t_sum : Nat) (t_sum_u : Int64) (t_sum_v : Int64) (t_sum_d : Int64) (h_p1 : Nat) (p1_a : Int32) (p1_b : Int32) (z_p1_2 : Value) (z_p1_3 : Value) (z_p1_4 : Value) (z_p1_5 : Value) (z_p1_6 : Value) (z_p1_7 : Value) (h_p2 : Nat) (p2_size : Int32) (h_p2_bytes : Nat) (k_p2_bytes : ClassId) (p2_bytes : Nat → Int32) (l3 : Int32) (l4 : Int32) (r : Int32) (o_t_sum_u : Int64) (o_t_sum_v : Int64) (o_t_sum_d : Int64) (o_nt : Nat → Int32) (o_nu : Nat → Int64) (o_nv : Nat → Int64) (o_nd : Nat → Int64) (hm_t_divisor : h_t_divisor ∈ NL) (hm_t_head : h_t_head ∈ NL) (hm_t_power : h_t_power ∈ NL) (hm_t_result : h_t_result ∈ NL) (hm_t_shift : h_t_shift ∈ NL) (hm_t_tail : h_t_tail ∈ NL) (h : f_X5_reckon t_sum_u t_sum_v t_sum_d p1_a p1_b p2_size p2_bytes nt nu nv nd h_t_divisor h_t_head h_t_power h_t_result h_t_shift h_t_tail l3 l4 = some (r, o_t_sum_u, o_t_sum_v, o_t_sum_d, o_nt, o_nu, o_nv, o_nd)) (sz : Nat) : Met l yX5_reckon (WD yX5_reckon cX5_reckon 6 (some .boolean)) ({ frames := 6, cells := 0, slots := 0, locals := 154 }) (va_Pc [.ref h_t, .ref h_p1, .ref h_p2, .int l3, .int l4] (PcW D [(k_p2_bytes, .byte)] ((h_t, .inr (5, [.ref h_t_power, .ref h_t_head, .ref h_t_shift, .ref h_t_tail, .ref h_t_divisor, .ref h_t_result, .ref h_t_sum])) :: (h_t_sum, .inr (6, [.long t_sum_u, .long t_sum_v, .long t_sum_d])) :: (h_p1, .inr (3, [.int p1_a, .int p1_b, z_p1_2, z_p1_3, z_p1_4, z_p1_5, z_p1_6, z_p1_7])) :: (h_p2, .inr (7, [.ref h_p2_bytes, .int p2_size])) :: (h_p2_bytes, .inl (k_p2_bytes, 200, .inl p2_bytes)) :: (R ++ va_pl NL (nmE nt nu nv nd))) sz)) (QZ D r ((h_t, .inr (5, [.ref h_t_power, .ref h_t_head, .ref h_t_shift, .ref h_t_tail, .ref h_t_divisor, .ref h_t_result, .ref h_t_sum])) :: (h_t_sum, .inr (6, [.long o_t_sum_u, .long o_t_sum_v, .long o_t_sum_d])) :: (h_p1, .inr (3, [.int p1_a, .int p1_b, z_p1_2, z_p1_3, z_p1_4, z_p1_5, z_p1_6, z_p1_7])) :: (h_p2, .inr (7, [.ref h_p2_bytes, .int p2_size])) :: (h_p2_bytes, .inl (k_p2_bytes, 200, .inl p2_bytes)) :: (R ++ va_pl NL (nmE o_nt o_nu o_nv o_nd))) (va_A ((h_t, .inr (5, [.ref h_t_power, .ref h_t_head, .ref h_t_shift, .ref h_t_tail, .ref h_t_divisor, .ref h_t_result, .ref h_t_sum])) :: (h_t_sum, .inr (6, [.long t_sum_u, .long t_sum_v, .long t_sum_d])) :: (h_p1, .inr (3, [.int p1_a, .int p1_b, z_p1_2, z_p1_3, z_p1_4, z_p1_5, z_p1_6, z_p1_7])) :: (h_p2, .inr (7, [.ref h_p2_bytes, .int p2_size])) :: (h_p2_bytes, .inl (k_p2_bytes, 200, .inl p2_bytes)) :: (R ++ va_pl NL (nmE nt nu nv nd))) sz)) 0 0 (va_A ((h_t, .inr (5, [.ref h_t_power, .ref h_t_head, .ref h_t_shift, .ref h_t_tail, .ref h_t_divisor, .ref h_t_result, .ref h_t_sum])) :: (h_t_sum, .inr (6, [.long t_sum_u, .long t_sum_v, .long t_sum_d])) :: (h_p1, .inr (3, [.int p1_a, .int p1_b, z_p1_2, z_p1_3, z_p1_4, z_p1_5, z_p1_6, z_p1_7])) :: (h_p2, .inr (7, [.ref h_p2_bytes, .int p2_size])) :: (h_p2_bytes, .inl (k_p2_bytes, 200, .inl p2_bytes)) :: (R ++ va_pl NL (nmE nt nu nv nd))) sz) := by
  refine ct_start (QF := fun A => QZ D r ((h_t, .inr (5, [.ref h_t_power, .ref h_t_head, .ref h_t_shift, .ref h_t_tail, .ref h_t_divisor, .ref h_t_result, .ref h_t_sum])) :: (h_t_sum, .inr (6, [.long o_t_sum_u, .long o_t_sum_v, .long o_t_sum_d])) :: (h_p1, .inr (3, [.int p1_a, .int p1_b, z_p1_2, z_p1_3, z_p1_4, z_p1_5, z_p1_6, z_p1_7])) :: (h_p2, .inr (7, [.ref h_p2_bytes, .int p2_size])) :: (h_p2_bytes, .inl (k_p2_bytes, 200, .inl p2_bytes)) :: (R ++ va_pl NL (nmE o_nt o_nu o_nv o_nd))) A) ?_ ?_ ?_
  · decide +kernel
  · exact Nat.le_of_ble_eq_true rfl
  intro p e s m args below meth c A ls S hr hlk hnm hS hA hP hD hK hN hl
  have S : CallFix p m c cX5_reckon 6 s args AL "DigitBench$RowValue" := S
  have hx := S.1
  have hb := S.2.1
  have hown := S.2.2.2.1
  have ha := S.2.2.2.2
  have hl : lv_has ls 6 [(0, .ref h_t), (1, .ref h_p1), (2, .ref h_p2), (3, .int l3), (4, .int l4)] := hl
  unfold f_X5_reckon at h
  refine lv_aload_n hx hb dX5_reckon_0 rfl (lv_at hl 2 rfl) ?_
  refine va_get (D := D) (ci := 7) (v := .int p2_size) (C := RX7) (T := TX7) (N := 2) hx hb ha ix7 hown hK hP 3 rfl rfl 1 (by decide) (ha _ q82) (fun _ h9 => h9) rfl dX5_reckon_1 ?_
  refine lv_istore (lv' := [(5, .int p2_size), (0, .ref h_t), (1, .ref h_p1), (2, .ref h_p2), (3, .int l3), (4, .int l4)]) hx hb dX5_reckon_4 hl (by decide) rfl (fun ls hl => ?_)
  refine lv_aload_n hx hb dX5_reckon_6 rfl (lv_at hl 1 rfl) ?_
  refine va_get (D := D) (ci := 5) (v := .ref h_t_sum) (C := RX5) (T := TX5) (N := 7) hx hb ha ix5 hown hK hP 0 rfl rfl 6 (by decide) (ha _ q266) (fun _ h9 => h9) rfl dX5_reckon_7 ?_
  obtain ⟨t_sum_u_c10_0, t_sum_v_c10_0, t_sum_d_c10_0, e_c10_0, h⟩ := bnd3_ok h
  have hP : va_P D vwCl ((h_t_sum, .inr (6, [.long t_sum_u, .long t_sum_v, .long t_sum_d])) :: (h_t, .inr (5, [.ref h_t_power, .ref h_t_head, .ref h_t_shift, .ref h_t_tail, .ref h_t_divisor, .ref h_t_result, .ref h_t_sum])) :: (h_p1, .inr (3, [.int p1_a, .int p1_b, z_p1_2, z_p1_3, z_p1_4, z_p1_5, z_p1_6, z_p1_7])) :: (h_p2, .inr (7, [.ref h_p2_bytes, .int p2_size])) :: (h_p2_bytes, .inl (k_p2_bytes, 200, .inl p2_bytes)) :: (R ++ va_pl NL (nmE nt nu nv nd))) _ := pm_P [1, 0, 2, 3, 4] 5 hP
  have hD : va_D A ((h_t_sum, .inr (6, [.long t_sum_u, .long t_sum_v, .long t_sum_d])) :: (h_t, .inr (5, [.ref h_t_power, .ref h_t_head, .ref h_t_shift, .ref h_t_tail, .ref h_t_divisor, .ref h_t_result, .ref h_t_sum])) :: (h_p1, .inr (3, [.int p1_a, .int p1_b, z_p1_2, z_p1_3, z_p1_4, z_p1_5, z_p1_6, z_p1_7])) :: (h_p2, .inr (7, [.ref h_p2_bytes, .int p2_size])) :: (h_p2_bytes, .inl (k_p2_bytes, 200, .inl p2_bytes)) :: (R ++ va_pl NL (nmE nt nu nv nd))) := pm_D (X := [(h_t_sum, .inr (6, [.long t_sum_u, .long t_sum_v, .long t_sum_d])), (h_t, .inr (5, [.ref h_t_power, .ref h_t_head, .ref h_t_shift, .ref h_t_tail, .ref h_t_divisor, .ref h_t_result, .ref h_t_sum])), (h_p1, .inr (3, [.int p1_a, .int p1_b, z_p1_2, z_p1_3, z_p1_4, z_p1_5, z_p1_6, z_p1_7])), (h_p2, .inr (7, [.ref h_p2_bytes, .int p2_size])), (h_p2_bytes, .inl (k_p2_bytes, 200, .inl p2_bytes))]) [1, 0, 2, 3, 4] 5 (by decide) (by decide) rfl hD
  refine cl_v (rn_v (ci := 6) (As := []) (rest := []) S (c_X6_clear l D ((h_t, .inr (5, [.ref h_t_power, .ref h_t_head, .ref h_t_shift, .ref h_t_tail, .ref h_t_divisor, .ref h_t_result, .ref h_t_sum])) :: (h_p1, .inr (3, [.int p1_a, .int p1_b, z_p1_2, z_p1_3, z_p1_4, z_p1_5, z_p1_6, z_p1_7])) :: (h_p2, .inr (7, [.ref h_p2_bytes, .int p2_size])) :: (h_p2_bytes, .inl (k_p2_bytes, 200, .inl p2_bytes)) :: (R ++ va_pl NL (nmE nt nu nv nd))) h_t_sum t_sum_u t_sum_v t_sum_d t_sum_u_c10_0 t_sum_v_c10_0 t_sum_d_c10_0 e_c10_0 _) q638 q639 q640 q55 q641 nd_X6_clear ⟨Nat.le_of_ble_eq_true rfl, Nat.le_of_ble_eq_true rfl⟩ rfl rfl hP hD (hK.sub (tys' := []) [] rfl) hN rfl ⟨0, _, rfl⟩ rfl hl.1 rfl (Nat.le_of_ble_eq_true rfl) dX5_reckon_10 ⟨Nat.le_of_ble_eq_true rfl, Nat.le_of_ble_eq_true rfl⟩) hS hA hD (fun H locs hP hD hS => ?_)
  have hP : va_P D vwCl ((h_t, .inr (5, [.ref h_t_power, .ref h_t_head, .ref h_t_shift, .ref h_t_tail, .ref h_t_divisor, .ref h_t_result, .ref h_t_sum])) :: (h_t_sum, .inr (6, [.long t_sum_u_c10_0, .long t_sum_v_c10_0, .long t_sum_d_c10_0])) :: (h_p1, .inr (3, [.int p1_a, .int p1_b, z_p1_2, z_p1_3, z_p1_4, z_p1_5, z_p1_6, z_p1_7])) :: (h_p2, .inr (7, [.ref h_p2_bytes, .int p2_size])) :: (h_p2_bytes, .inl (k_p2_bytes, 200, .inl p2_bytes)) :: (R ++ va_pl NL (nmE nt nu nv nd))) H := pm_P [1, 0, 2, 3, 4] 5 hP
  have hD : va_D A ((h_t, .inr (5, [.ref h_t_power, .ref h_t_head, .ref h_t_shift, .ref h_t_tail, .ref h_t_divisor, .ref h_t_result, .ref h_t_sum])) :: (h_t_sum, .inr (6, [.long t_sum_u_c10_0, .long t_sum_v_c10_0, .long t_sum_d_c10_0])) :: (h_p1, .inr (3, [.int p1_a, .int p1_b, z_p1_2, z_p1_3, z_p1_4, z_p1_5, z_p1_6, z_p1_7])) :: (h_p2, .inr (7, [.ref h_p2_bytes, .int p2_size])) :: (h_p2_bytes, .inl (k_p2_bytes, 200, .inl p2_bytes)) :: (R ++ va_pl NL (nmE nt nu nv nd))) := pm_D (X := [(h_t, .inr (5, [.ref h_t_power, .ref h_t_head, .ref h_t_shift, .ref h_t_tail, .ref h_t_divisor, .ref h_t_result, .ref h_t_sum])), (h_t_sum, .inr (6, [.long t_sum_u_c10_0, .long t_sum_v_c10_0, .long t_sum_d_c10_0])), (h_p1, .inr (3, [.int p1_a, .int p1_b, z_p1_2, z_p1_3, z_p1_4, z_p1_5, z_p1_6, z_p1_7])), (h_p2, .inr (7, [.ref h_p2_bytes, .int p2_size])), (h_p2_bytes, .inl (k_p2_bytes, 200, .inl p2_bytes))]) [1, 0, 2, 3, 4] 5 (by decide) (by decide) rfl hD
  refine lv_aload_n hx hb dX5_reckon_13 rfl (lv_at hl 1 rfl) ?_
  refine lv_aload_n hx hb dX5_reckon_14 rfl (lv_at hl 2 rfl) ?_
  refine lv_aload_n hx hb dX5_reckon_15 rfl (lv_at hl 3 rfl) ?_
  refine lv_iload hx hb dX5_reckon_16 (lv_at hl 0 rfl) ?_
  refine lv_iload_n hx hb dX5_reckon_18 rfl (lv_at hl 4 rfl) ?_
  refine lv_isub hx hb dX5_reckon_19 ?_
  refine lv_iconst (v := 1) hx hb dX5_reckon_20 (by decide) ?_
  refine lv_isub hx hb dX5_reckon_21 ?_
  refine lv_iload hx hb dX5_reckon_22 (lv_at hl 0 rfl) ?_
  refine lv_iload_n hx hb dX5_reckon_24 rfl (lv_at hl 4 rfl) ?_
  refine lv_isub hx hb dX5_reckon_25 ?_
  obtain ⟨r_c26_1, t_sum_u_c26_1, t_sum_v_c26_1, t_sum_d_c26_1, nt_c26_1, nu_c26_1, nv_c26_1, nd_c26_1, e_c26_1, h⟩ := bnd8_ok h
  refine cl_z (rn_v (ci := 5) (As := [.ref h_p1, .ref h_p2, .int ((p2_size - l3) - 1), .int (p2_size - l3)]) (rest := []) S (c_X5_addUpward l D (R) NL nt nu nv nd h_t h_t_power (.ref h_t_head) (.ref h_t_shift) (.ref h_t_tail) (.ref h_t_divisor) (.ref h_t_result) h_t_sum t_sum_u_c10_0 t_sum_v_c10_0 t_sum_d_c10_0 h_p1 p1_a p1_b (z_p1_2) (z_p1_3) (z_p1_4) (z_p1_5) (z_p1_6) (z_p1_7) h_p2 p2_size h_p2_bytes k_p2_bytes p2_bytes ((p2_size - l3) - 1) (p2_size - l3) r_c26_1 t_sum_u_c26_1 t_sum_v_c26_1 t_sum_d_c26_1 nt_c26_1 nu_c26_1 nv_c26_1 nd_c26_1 hm_t_power e_c26_1 _) q642 q644 q13 q54 q645 nd_X5_addUpward ⟨Nat.le_of_ble_eq_true rfl, Nat.le_of_ble_eq_true rfl⟩ rfl rfl hP hD (hK.sub (tys' := [(k_p2_bytes, .byte)]) [0] rfl) hN rfl ⟨0, _, rfl⟩ rfl hl.1 rfl (Nat.le_of_ble_eq_true rfl) dX5_reckon_26 ⟨Nat.le_of_ble_eq_true rfl, Nat.le_of_ble_eq_true rfl⟩) hS hA hD (fun H locs hP hD hS z_c26_1 => ?_)
  have hP : va_P D vwCl ((h_t, .inr (5, [.ref h_t_power, .ref h_t_head, .ref h_t_shift, .ref h_t_tail, .ref h_t_divisor, .ref h_t_result, .ref h_t_sum])) :: (h_t_sum, .inr (6, [.long t_sum_u_c26_1, .long t_sum_v_c26_1, .long t_sum_d_c26_1])) :: (h_p1, .inr (3, [.int p1_a, .int p1_b, z_p1_2, z_p1_3, z_p1_4, z_p1_5, z_p1_6, z_p1_7])) :: (h_p2, .inr (7, [.ref h_p2_bytes, .int p2_size])) :: (h_p2_bytes, .inl (k_p2_bytes, 200, .inl p2_bytes)) :: (R ++ va_pl NL (nmE nt_c26_1 nu_c26_1 nv_c26_1 nd_c26_1))) H := hP
  have hD : va_D A ((h_t, .inr (5, [.ref h_t_power, .ref h_t_head, .ref h_t_shift, .ref h_t_tail, .ref h_t_divisor, .ref h_t_result, .ref h_t_sum])) :: (h_t_sum, .inr (6, [.long t_sum_u_c26_1, .long t_sum_v_c26_1, .long t_sum_d_c26_1])) :: (h_p1, .inr (3, [.int p1_a, .int p1_b, z_p1_2, z_p1_3, z_p1_4, z_p1_5, z_p1_6, z_p1_7])) :: (h_p2, .inr (7, [.ref h_p2_bytes, .int p2_size])) :: (h_p2_bytes, .inl (k_p2_bytes, 200, .inl p2_bytes)) :: (R ++ va_pl NL (nmE nt_c26_1 nu_c26_1 nv_c26_1 nd_c26_1))) := hD
  refine lv_if_eq (tgt := 80) hx hb dX5_reckon_29 (by decide) (fun c3 => ?_) (fun c3 => ?_)
  · have h := br_pos c3 h
    refine lv_iconst (v := 0) hx hb dX5_reckon_80 (by decide) ?_
    cases h
    exact rt_z S hr hlk hP hD hS (by decide) dX5_reckon_81
  · have h := br_neg c3 h
    refine lv_aload_n hx hb dX5_reckon_32 rfl (lv_at hl 1 rfl) ?_
    refine lv_aload_n hx hb dX5_reckon_33 rfl (lv_at hl 2 rfl) ?_
    refine lv_aload_n hx hb dX5_reckon_34 rfl (lv_at hl 3 rfl) ?_
    refine lv_iload hx hb dX5_reckon_35 (lv_at hl 0 rfl) ?_
    refine lv_iload_n hx hb dX5_reckon_37 rfl (lv_at hl 4 rfl) ?_
    refine lv_isub hx hb dX5_reckon_38 ?_
    refine lv_iload_n hx hb dX5_reckon_39 rfl (lv_at hl 4 rfl) ?_
    refine lv_iload hx hb dX5_reckon_40 (lv_at hl 5 rfl) ?_
    refine lv_isub hx hb dX5_reckon_42 ?_
    obtain ⟨r_c43_3, t_sum_u_c43_3, t_sum_v_c43_3, t_sum_d_c43_3, nt_c43_3, nu_c43_3, nv_c43_3, nd_c43_3, e_c43_3, h⟩ := bnd8_ok h
    refine cl_z (rn_v (ci := 5) (As := [.ref h_p1, .ref h_p2, .int (p2_size - l3), .int (l3 - l4)]) (rest := []) S (c_X5_addDownward l D (R) NL nt_c26_1 nu_c26_1 nv_c26_1 nd_c26_1 h_t h_t_power (.ref h_t_head) (.ref h_t_shift) (.ref h_t_tail) (.ref h_t_divisor) (.ref h_t_result) h_t_sum t_sum_u_c26_1 t_sum_v_c26_1 t_sum_d_c26_1 h_p1 p1_a p1_b (z_p1_2) (z_p1_3) (z_p1_4) (z_p1_5) (z_p1_6) (z_p1_7) h_p2 p2_size h_p2_bytes k_p2_bytes p2_bytes (p2_size - l3) (l3 - l4) r_c43_3 t_sum_u_c43_3 t_sum_v_c43_3 t_sum_d_c43_3 nt_c43_3 nu_c43_3 nv_c43_3 nd_c43_3 hm_t_power e_c43_3 _) q660 q662 q14 q54 q663 nd_X5_addDownward ⟨Nat.le_of_ble_eq_true rfl, Nat.le_of_ble_eq_true rfl⟩ rfl rfl hP hD (hK.sub (tys' := [(k_p2_bytes, .byte)]) [0] rfl) hN rfl ⟨0, _, rfl⟩ rfl hl.1 rfl (Nat.le_of_ble_eq_true rfl) dX5_reckon_43 ⟨Nat.le_of_ble_eq_true rfl, Nat.le_of_ble_eq_true rfl⟩) hS hA hD (fun H locs hP hD hS z_c43_3 => ?_)
    have hP : va_P D vwCl ((h_t, .inr (5, [.ref h_t_power, .ref h_t_head, .ref h_t_shift, .ref h_t_tail, .ref h_t_divisor, .ref h_t_result, .ref h_t_sum])) :: (h_t_sum, .inr (6, [.long t_sum_u_c43_3, .long t_sum_v_c43_3, .long t_sum_d_c43_3])) :: (h_p1, .inr (3, [.int p1_a, .int p1_b, z_p1_2, z_p1_3, z_p1_4, z_p1_5, z_p1_6, z_p1_7])) :: (h_p2, .inr (7, [.ref h_p2_bytes, .int p2_size])) :: (h_p2_bytes, .inl (k_p2_bytes, 200, .inl p2_bytes)) :: (R ++ va_pl NL (nmE nt_c43_3 nu_c43_3 nv_c43_3 nd_c43_3))) H := hP
    have hD : va_D A ((h_t, .inr (5, [.ref h_t_power, .ref h_t_head, .ref h_t_shift, .ref h_t_tail, .ref h_t_divisor, .ref h_t_result, .ref h_t_sum])) :: (h_t_sum, .inr (6, [.long t_sum_u_c43_3, .long t_sum_v_c43_3, .long t_sum_d_c43_3])) :: (h_p1, .inr (3, [.int p1_a, .int p1_b, z_p1_2, z_p1_3, z_p1_4, z_p1_5, z_p1_6, z_p1_7])) :: (h_p2, .inr (7, [.ref h_p2_bytes, .int p2_size])) :: (h_p2_bytes, .inl (k_p2_bytes, 200, .inl p2_bytes)) :: (R ++ va_pl NL (nmE nt_c43_3 nu_c43_3 nv_c43_3 nd_c43_3))) := hD
    refine lv_if_eq (tgt := 80) hx hb dX5_reckon_46 (by decide) (fun c5 => ?_) (fun c5 => ?_)
    · have h := br_pos c5 h
      refine lv_iconst (v := 0) hx hb dX5_reckon_80 (by decide) ?_
      cases h
      exact rt_z S hr hlk hP hD hS (by decide) dX5_reckon_81
    · have h := br_neg c5 h
      refine lv_aload_n hx hb dX5_reckon_49 rfl (lv_at hl 1 rfl) ?_
      refine va_get (D := D) (ci := 5) (v := .ref h_t_head) (C := RX5) (T := TX5) (N := 7) hx hb ha ix5 hown hK hP 0 rfl rfl 1 (by decide) (ha _ q260) (fun _ h9 => h9) rfl dX5_reckon_50 ?_
      refine lv_aload_n hx hb dX5_reckon_53 rfl (lv_at hl 1 rfl) ?_
      refine va_get (D := D) (ci := 5) (v := .ref h_t_sum) (C := RX5) (T := TX5) (N := 7) hx hb ha ix5 hown hK hP 0 rfl rfl 6 (by decide) (ha _ q266) (fun _ h9 => h9) rfl dX5_reckon_54 ?_
      refine va_get (D := D) (ci := 6) (v := .long t_sum_u_c43_3) (C := RX6) (T := TX6) (N := 3) hx hb ha ix6 hown hK hP 1 rfl rfl 0 (by decide) (ha _ q247) (fun _ h9 => h9) rfl dX5_reckon_57 ?_
      refine lv_aload_n hx hb dX5_reckon_60 rfl (lv_at hl 1 rfl) ?_
      refine va_get (D := D) (ci := 5) (v := .ref h_t_sum) (C := RX5) (T := TX5) (N := 7) hx hb ha ix5 hown hK hP 0 rfl rfl 6 (by decide) (ha _ q266) (fun _ h9 => h9) rfl dX5_reckon_61 ?_
      refine va_get (D := D) (ci := 6) (v := .long t_sum_v_c43_3) (C := RX6) (T := TX6) (N := 3) hx hb ha ix6 hown hK hP 1 rfl rfl 1 (by decide) (ha _ q249) (fun _ h9 => h9) rfl dX5_reckon_64 ?_
      refine lv_aload_n hx hb dX5_reckon_67 rfl (lv_at hl 1 rfl) ?_
      refine va_get (D := D) (ci := 5) (v := .ref h_t_sum) (C := RX5) (T := TX5) (N := 7) hx hb ha ix5 hown hK hP 0 rfl rfl 6 (by decide) (ha _ q266) (fun _ h9 => h9) rfl dX5_reckon_68 ?_
      refine va_get (D := D) (ci := 6) (v := .long t_sum_d_c43_3) (C := RX6) (T := TX6) (N := 3) hx hb ha ix6 hown hK hP 1 rfl rfl 2 (by decide) (ha _ q251) (fun _ h9 => h9) rfl dX5_reckon_71 ?_
      obtain ⟨r_c74_5, nt_c74_5, nu_c74_5, nv_c74_5, nd_c74_5, e_c74_5, h⟩ := bnd5_ok h
      refine cl_z (rn_v (ci := 0) (As := [.long t_sum_u_c43_3, .long t_sum_v_c43_3, .long t_sum_d_c43_3]) (rest := []) S (c_X0_take l D ((h_t, .inr (5, [.ref h_t_power, .ref h_t_head, .ref h_t_shift, .ref h_t_tail, .ref h_t_divisor, .ref h_t_result, .ref h_t_sum])) :: (h_t_sum, .inr (6, [.long t_sum_u_c43_3, .long t_sum_v_c43_3, .long t_sum_d_c43_3])) :: (h_p1, .inr (3, [.int p1_a, .int p1_b, z_p1_2, z_p1_3, z_p1_4, z_p1_5, z_p1_6, z_p1_7])) :: (h_p2, .inr (7, [.ref h_p2_bytes, .int p2_size])) :: (h_p2_bytes, .inl (k_p2_bytes, 200, .inl p2_bytes)) :: R) NL nt_c43_3 nu_c43_3 nv_c43_3 nd_c43_3 h_t_head t_sum_u_c43_3 t_sum_v_c43_3 t_sum_d_c43_3 r_c74_5 nt_c74_5 nu_c74_5 nv_c74_5 nd_c74_5 hm_t_head e_c74_5 _) q646 q512 q513 q51 q514 nd_X0_take ⟨Nat.le_of_ble_eq_true rfl, Nat.le_of_ble_eq_true rfl⟩ rfl rfl hP hD (hK.sub (tys' := []) [] rfl) hN rfl (rc_num (Y := ((h_t, .inr (5, [.ref h_t_power, .ref h_t_head, .ref h_t_shift, .ref h_t_tail, .ref h_t_divisor, .ref h_t_result, .ref h_t_sum])) :: (h_t_sum, .inr (6, [.long t_sum_u_c43_3, .long t_sum_v_c43_3, .long t_sum_d_c43_3])) :: (h_p1, .inr (3, [.int p1_a, .int p1_b, z_p1_2, z_p1_3, z_p1_4, z_p1_5, z_p1_6, z_p1_7])) :: (h_p2, .inr (7, [.ref h_p2_bytes, .int p2_size])) :: (h_p2_bytes, .inl (k_p2_bytes, 200, .inl p2_bytes)) :: R)) hm_t_head) rfl hl.1 rfl (Nat.le_of_ble_eq_true rfl) dX5_reckon_74 ⟨Nat.le_of_ble_eq_true rfl, Nat.le_of_ble_eq_true rfl⟩) hS hA hD (fun H locs hP hD hS z_c74_5 => ?_)
      have hP : va_P D vwCl ((h_t, .inr (5, [.ref h_t_power, .ref h_t_head, .ref h_t_shift, .ref h_t_tail, .ref h_t_divisor, .ref h_t_result, .ref h_t_sum])) :: (h_t_sum, .inr (6, [.long t_sum_u_c43_3, .long t_sum_v_c43_3, .long t_sum_d_c43_3])) :: (h_p1, .inr (3, [.int p1_a, .int p1_b, z_p1_2, z_p1_3, z_p1_4, z_p1_5, z_p1_6, z_p1_7])) :: (h_p2, .inr (7, [.ref h_p2_bytes, .int p2_size])) :: (h_p2_bytes, .inl (k_p2_bytes, 200, .inl p2_bytes)) :: (R ++ va_pl NL (nmE nt_c74_5 nu_c74_5 nv_c74_5 nd_c74_5))) H := hP
      have hD : va_D A ((h_t, .inr (5, [.ref h_t_power, .ref h_t_head, .ref h_t_shift, .ref h_t_tail, .ref h_t_divisor, .ref h_t_result, .ref h_t_sum])) :: (h_t_sum, .inr (6, [.long t_sum_u_c43_3, .long t_sum_v_c43_3, .long t_sum_d_c43_3])) :: (h_p1, .inr (3, [.int p1_a, .int p1_b, z_p1_2, z_p1_3, z_p1_4, z_p1_5, z_p1_6, z_p1_7])) :: (h_p2, .inr (7, [.ref h_p2_bytes, .int p2_size])) :: (h_p2_bytes, .inl (k_p2_bytes, 200, .inl p2_bytes)) :: (R ++ va_pl NL (nmE nt_c74_5 nu_c74_5 nv_c74_5 nd_c74_5))) := hD
      refine lv_if_ne (tgt := 82) hx hb dX5_reckon_77 (by decide) (fun c7 => ?_) (fun c7 => ?_)
      · have h := br_neg c7 h
        refine lv_aload_n hx hb dX5_reckon_82 rfl (lv_at hl 1 rfl) ?_
        refine va_get (D := D) (ci := 5) (v := .ref h_t_shift) (C := RX5) (T := TX5) (N := 7) hx hb ha ix5 hown hK hP 0 rfl rfl 2 (by decide) (ha _ q261) (fun _ h9 => h9) rfl dX5_reckon_83 ?_
        refine lv_aload_n hx hb dX5_reckon_86 rfl (lv_at hl 1 rfl) ?_
        refine va_get (D := D) (ci := 5) (v := .ref h_t_power) (C := RX5) (T := TX5) (N := 7) hx hb ha ix5 hown hK hP 0 rfl rfl 0 (by decide) (ha _ q259) (fun _ h9 => h9) rfl dX5_reckon_87 ?_
        obtain ⟨r_c90_7, nt_c90_7, nu_c90_7, nv_c90_7, nd_c90_7, e_c90_7, h⟩ := bnd5_ok h
        refine cl_z (rn_v (ci := 0) (As := [.ref h_t_power]) (rest := []) S (c_X0_copy l D ((h_t, .inr (5, [.ref h_t_power, .ref h_t_head, .ref h_t_shift, .ref h_t_tail, .ref h_t_divisor, .ref h_t_result, .ref h_t_sum])) :: (h_t_sum, .inr (6, [.long t_sum_u_c43_3, .long t_sum_v_c43_3, .long t_sum_d_c43_3])) :: (h_p1, .inr (3, [.int p1_a, .int p1_b, z_p1_2, z_p1_3, z_p1_4, z_p1_5, z_p1_6, z_p1_7])) :: (h_p2, .inr (7, [.ref h_p2_bytes, .int p2_size])) :: (h_p2_bytes, .inl (k_p2_bytes, 200, .inl p2_bytes)) :: R) NL nt_c74_5 nu_c74_5 nv_c74_5 nd_c74_5 h_t_shift h_t_power r_c90_7 nt_c90_7 nu_c90_7 nv_c90_7 nd_c90_7 hm_t_shift hm_t_power e_c90_7 _) q668 q669 q670 q51 q671 nd_X0_copy ⟨Nat.le_of_ble_eq_true rfl, Nat.le_of_ble_eq_true rfl⟩ rfl rfl hP hD (hK.sub (tys' := []) [] rfl) hN rfl (rc_num (Y := ((h_t, .inr (5, [.ref h_t_power, .ref h_t_head, .ref h_t_shift, .ref h_t_tail, .ref h_t_divisor, .ref h_t_result, .ref h_t_sum])) :: (h_t_sum, .inr (6, [.long t_sum_u_c43_3, .long t_sum_v_c43_3, .long t_sum_d_c43_3])) :: (h_p1, .inr (3, [.int p1_a, .int p1_b, z_p1_2, z_p1_3, z_p1_4, z_p1_5, z_p1_6, z_p1_7])) :: (h_p2, .inr (7, [.ref h_p2_bytes, .int p2_size])) :: (h_p2_bytes, .inl (k_p2_bytes, 200, .inl p2_bytes)) :: R)) hm_t_shift) rfl hl.1 rfl (Nat.le_of_ble_eq_true rfl) dX5_reckon_90 ⟨Nat.le_of_ble_eq_true rfl, Nat.le_of_ble_eq_true rfl⟩) hS hA hD (fun H locs hP hD hS z_c90_7 => ?_)
        have hP : va_P D vwCl ((h_t, .inr (5, [.ref h_t_power, .ref h_t_head, .ref h_t_shift, .ref h_t_tail, .ref h_t_divisor, .ref h_t_result, .ref h_t_sum])) :: (h_t_sum, .inr (6, [.long t_sum_u_c43_3, .long t_sum_v_c43_3, .long t_sum_d_c43_3])) :: (h_p1, .inr (3, [.int p1_a, .int p1_b, z_p1_2, z_p1_3, z_p1_4, z_p1_5, z_p1_6, z_p1_7])) :: (h_p2, .inr (7, [.ref h_p2_bytes, .int p2_size])) :: (h_p2_bytes, .inl (k_p2_bytes, 200, .inl p2_bytes)) :: (R ++ va_pl NL (nmE nt_c90_7 nu_c90_7 nv_c90_7 nd_c90_7))) H := hP
        have hD : va_D A ((h_t, .inr (5, [.ref h_t_power, .ref h_t_head, .ref h_t_shift, .ref h_t_tail, .ref h_t_divisor, .ref h_t_result, .ref h_t_sum])) :: (h_t_sum, .inr (6, [.long t_sum_u_c43_3, .long t_sum_v_c43_3, .long t_sum_d_c43_3])) :: (h_p1, .inr (3, [.int p1_a, .int p1_b, z_p1_2, z_p1_3, z_p1_4, z_p1_5, z_p1_6, z_p1_7])) :: (h_p2, .inr (7, [.ref h_p2_bytes, .int p2_size])) :: (h_p2_bytes, .inl (k_p2_bytes, 200, .inl p2_bytes)) :: (R ++ va_pl NL (nmE nt_c90_7 nu_c90_7 nv_c90_7 nd_c90_7))) := hD
        refine lv_if_eq (tgt := 133) hx hb dX5_reckon_93 (by decide) (fun c9 => ?_) (fun c9 => ?_)
        · have h := br_pos c9 h
          refine lv_iconst (v := 0) hx hb dX5_reckon_133 (by decide) ?_
          cases h
          exact rt_z S hr hlk hP hD hS (by decide) dX5_reckon_134
        · have h := br_neg c9 h
          refine lv_iload hx hb dX5_reckon_96 (lv_at hl 5 rfl) ?_
          refine lv_if_ne (tgt := 118) hx hb dX5_reckon_98 (by decide) (fun c10 => ?_) (fun c10 => ?_)
          · have h := br_neg c10 h
            refine lv_aload_n hx hb dX5_reckon_118 rfl (lv_at hl 1 rfl) ?_
            refine lv_aload_n hx hb dX5_reckon_119 rfl (lv_at hl 2 rfl) ?_
            refine lv_aload_n hx hb dX5_reckon_120 rfl (lv_at hl 3 rfl) ?_
            refine lv_iload hx hb dX5_reckon_121 (lv_at hl 5 rfl) ?_
            obtain ⟨r_c123_12, t_sum_u_c123_12, t_sum_v_c123_12, t_sum_d_c123_12, nt_c123_12, nu_c123_12, nv_c123_12, nd_c123_12, e_c123_12, h⟩ := bnd8_ok h
            refine cl_z (rn_v (ci := 5) (As := [.ref h_p1, .ref h_p2, .int l4]) (rest := []) S (c_X5_addRound l D (R) NL nt_c90_7 nu_c90_7 nv_c90_7 nd_c90_7 h_t h_t_power h_t_head h_t_shift h_t_tail h_t_divisor h_t_result h_t_sum t_sum_u_c43_3 t_sum_v_c43_3 t_sum_d_c43_3 h_p1 p1_a p1_b (z_p1_2) (z_p1_3) (z_p1_4) (z_p1_5) (z_p1_6) (z_p1_7) h_p2 p2_size h_p2_bytes k_p2_bytes p2_bytes l4 r_c123_12 t_sum_u_c123_12 t_sum_v_c123_12 t_sum_d_c123_12 nt_c123_12 nu_c123_12 nv_c123_12 nd_c123_12 hm_t_divisor hm_t_head hm_t_power hm_t_result hm_t_shift hm_t_tail e_c123_12 _) q673 q675 q15 q54 q676 nd_X5_addRound ⟨Nat.le_of_ble_eq_true rfl, Nat.le_of_ble_eq_true rfl⟩ rfl rfl hP hD (hK.sub (tys' := [(k_p2_bytes, .byte)]) [0] rfl) hN rfl ⟨0, _, rfl⟩ rfl hl.1 rfl (Nat.le_of_ble_eq_true rfl) dX5_reckon_123 ⟨Nat.le_of_ble_eq_true rfl, Nat.le_of_ble_eq_true rfl⟩) hS hA hD (fun H locs hP hD hS z_c123_12 => ?_)
            have hP : va_P D vwCl ((h_t, .inr (5, [.ref h_t_power, .ref h_t_head, .ref h_t_shift, .ref h_t_tail, .ref h_t_divisor, .ref h_t_result, .ref h_t_sum])) :: (h_t_sum, .inr (6, [.long t_sum_u_c123_12, .long t_sum_v_c123_12, .long t_sum_d_c123_12])) :: (h_p1, .inr (3, [.int p1_a, .int p1_b, z_p1_2, z_p1_3, z_p1_4, z_p1_5, z_p1_6, z_p1_7])) :: (h_p2, .inr (7, [.ref h_p2_bytes, .int p2_size])) :: (h_p2_bytes, .inl (k_p2_bytes, 200, .inl p2_bytes)) :: (R ++ va_pl NL (nmE nt_c123_12 nu_c123_12 nv_c123_12 nd_c123_12))) H := hP
            have hD : va_D A ((h_t, .inr (5, [.ref h_t_power, .ref h_t_head, .ref h_t_shift, .ref h_t_tail, .ref h_t_divisor, .ref h_t_result, .ref h_t_sum])) :: (h_t_sum, .inr (6, [.long t_sum_u_c123_12, .long t_sum_v_c123_12, .long t_sum_d_c123_12])) :: (h_p1, .inr (3, [.int p1_a, .int p1_b, z_p1_2, z_p1_3, z_p1_4, z_p1_5, z_p1_6, z_p1_7])) :: (h_p2, .inr (7, [.ref h_p2_bytes, .int p2_size])) :: (h_p2_bytes, .inl (k_p2_bytes, 200, .inl p2_bytes)) :: (R ++ va_pl NL (nmE nt_c123_12 nu_c123_12 nv_c123_12 nd_c123_12))) := hD
            refine lv_if_eq (tgt := 133) hx hb dX5_reckon_126 (by decide) (fun c14 => ?_) (fun c14 => ?_)
            · have h := br_pos c14 h
              refine lv_iconst (v := 0) hx hb dX5_reckon_133 (by decide) ?_
              cases h
              exact rt_z S hr hlk hP hD hS (by decide) dX5_reckon_134
            · have h := br_neg c14 h
              refine lv_iconst (v := 1) hx hb dX5_reckon_129 (by decide) ?_
              refine lv_goto (tgt := 134) hx hb dX5_reckon_130 (by decide) ?_
              cases h
              exact rt_z S hr hlk hP hD hS (by decide) dX5_reckon_134
          · have h := br_pos c10 h
            refine lv_aload_n hx hb dX5_reckon_101 rfl (lv_at hl 1 rfl) ?_
            refine va_get (D := D) (ci := 5) (v := .ref h_t_result) (C := RX5) (T := TX5) (N := 7) hx hb ha ix5 hown hK hP 0 rfl rfl 5 (by decide) (ha _ q264) (fun _ h9 => h9) rfl dX5_reckon_102 ?_
            refine lv_aload_n hx hb dX5_reckon_105 rfl (lv_at hl 1 rfl) ?_
            refine va_get (D := D) (ci := 5) (v := .ref h_t_head) (C := RX5) (T := TX5) (N := 7) hx hb ha ix5 hown hK hP 0 rfl rfl 1 (by decide) (ha _ q260) (fun _ h9 => h9) rfl dX5_reckon_106 ?_
            obtain ⟨r_c109_10, nt_c109_10, nu_c109_10, nv_c109_10, nd_c109_10, e_c109_10, h⟩ := bnd5_ok h
            refine cl_z (rn_v (ci := 0) (As := [.ref h_t_head]) (rest := []) S (c_X0_copy l D ((h_t, .inr (5, [.ref h_t_power, .ref h_t_head, .ref h_t_shift, .ref h_t_tail, .ref h_t_divisor, .ref h_t_result, .ref h_t_sum])) :: (h_t_sum, .inr (6, [.long t_sum_u_c43_3, .long t_sum_v_c43_3, .long t_sum_d_c43_3])) :: (h_p1, .inr (3, [.int p1_a, .int p1_b, z_p1_2, z_p1_3, z_p1_4, z_p1_5, z_p1_6, z_p1_7])) :: (h_p2, .inr (7, [.ref h_p2_bytes, .int p2_size])) :: (h_p2_bytes, .inl (k_p2_bytes, 200, .inl p2_bytes)) :: R) NL nt_c90_7 nu_c90_7 nv_c90_7 nd_c90_7 h_t_result h_t_head r_c109_10 nt_c109_10 nu_c109_10 nv_c109_10 nd_c109_10 hm_t_result hm_t_head e_c109_10 _) q668 q669 q670 q51 q671 nd_X0_copy ⟨Nat.le_of_ble_eq_true rfl, Nat.le_of_ble_eq_true rfl⟩ rfl rfl hP hD (hK.sub (tys' := []) [] rfl) hN rfl (rc_num (Y := ((h_t, .inr (5, [.ref h_t_power, .ref h_t_head, .ref h_t_shift, .ref h_t_tail, .ref h_t_divisor, .ref h_t_result, .ref h_t_sum])) :: (h_t_sum, .inr (6, [.long t_sum_u_c43_3, .long t_sum_v_c43_3, .long t_sum_d_c43_3])) :: (h_p1, .inr (3, [.int p1_a, .int p1_b, z_p1_2, z_p1_3, z_p1_4, z_p1_5, z_p1_6, z_p1_7])) :: (h_p2, .inr (7, [.ref h_p2_bytes, .int p2_size])) :: (h_p2_bytes, .inl (k_p2_bytes, 200, .inl p2_bytes)) :: R)) hm_t_result) rfl hl.1 rfl (Nat.le_of_ble_eq_true rfl) dX5_reckon_109 ⟨Nat.le_of_ble_eq_true rfl, Nat.le_of_ble_eq_true rfl⟩) hS hA hD (fun H locs hP hD hS z_c109_10 => ?_)
            have hP : va_P D vwCl ((h_t, .inr (5, [.ref h_t_power, .ref h_t_head, .ref h_t_shift, .ref h_t_tail, .ref h_t_divisor, .ref h_t_result, .ref h_t_sum])) :: (h_t_sum, .inr (6, [.long t_sum_u_c43_3, .long t_sum_v_c43_3, .long t_sum_d_c43_3])) :: (h_p1, .inr (3, [.int p1_a, .int p1_b, z_p1_2, z_p1_3, z_p1_4, z_p1_5, z_p1_6, z_p1_7])) :: (h_p2, .inr (7, [.ref h_p2_bytes, .int p2_size])) :: (h_p2_bytes, .inl (k_p2_bytes, 200, .inl p2_bytes)) :: (R ++ va_pl NL (nmE nt_c109_10 nu_c109_10 nv_c109_10 nd_c109_10))) H := hP
            have hD : va_D A ((h_t, .inr (5, [.ref h_t_power, .ref h_t_head, .ref h_t_shift, .ref h_t_tail, .ref h_t_divisor, .ref h_t_result, .ref h_t_sum])) :: (h_t_sum, .inr (6, [.long t_sum_u_c43_3, .long t_sum_v_c43_3, .long t_sum_d_c43_3])) :: (h_p1, .inr (3, [.int p1_a, .int p1_b, z_p1_2, z_p1_3, z_p1_4, z_p1_5, z_p1_6, z_p1_7])) :: (h_p2, .inr (7, [.ref h_p2_bytes, .int p2_size])) :: (h_p2_bytes, .inl (k_p2_bytes, 200, .inl p2_bytes)) :: (R ++ va_pl NL (nmE nt_c109_10 nu_c109_10 nv_c109_10 nd_c109_10))) := hD
            refine lv_if_eq (tgt := 133) hx hb dX5_reckon_112 (by decide) (fun c12 => ?_) (fun c12 => ?_)
            · have h := br_pos c12 h
              refine lv_iconst (v := 0) hx hb dX5_reckon_133 (by decide) ?_
              cases h
              exact rt_z S hr hlk hP hD hS (by decide) dX5_reckon_134
            · have h := br_neg c12 h
              refine lv_goto (tgt := 129) hx hb dX5_reckon_115 (by decide) ?_
              refine lv_iconst (v := 1) hx hb dX5_reckon_129 (by decide) ?_
              refine lv_goto (tgt := 134) hx hb dX5_reckon_130 (by decide) ?_
              cases h
              exact rt_z S hr hlk hP hD hS (by decide) dX5_reckon_134
      · have h := br_pos c7 h
        refine lv_iconst (v := 0) hx hb dX5_reckon_80 (by decide) ?_
        cases h
        exact rt_z S hr hlk hP hD hS (by decide) dX5_reckon_81
