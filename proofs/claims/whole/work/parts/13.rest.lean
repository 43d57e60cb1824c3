noncomputable def f_X1_of (t_u : Int64) (t_v : Int64) (t_d : Int64) (nu : Nat → Int64) (nv : Nat → Int64) (nd : Nat → Int64) (l1 : Nat) : Option (Int64 × Int64 × Int64) :=
  some ((nu l1), (nv l1), (nd l1))
set_option maxHeartbeats 4000000 in
set_option maxRecDepth 100000 in
theorem c_X1_of (l : Launch) (D : va_G) (R : va_W) (NL : List Nat) (nt : Nat → Int32) (nu : Nat → Int64) (nv : Nat → Int64) (nd : Nat → Int64) (h_t : Nat) (t_u : Int64) (t_v : Int64) (t_d : Int64) (l1 : Nat) (o_t_u : Int64) (o_t_v : Int64) (o_t_d : Int64) (hm_1 : l1 ∈ NL) (h : f_X1_of t_u t_v t_d nu nv nd l1 = some (o_t_u, o_t_v, o_t_d)) (sz : Nat) : Met l yX1_of (WD yX1_of cX1_of 2 none) ({ frames := 0, cells := 0, slots := 0, locals := 0 }) (va_Pc [.ref h_t, .ref l1] (PcW D [] ((h_t, .inr (1, [.long t_u, .long t_v, .long t_d])) :: (R ++ va_pl NL (nmE nt nu nv nd))) sz)) (QV D ((h_t, .inr (1, [.long o_t_u, .long o_t_v, .long o_t_d])) :: (R ++ va_pl NL (nmE nt nu nv nd))) (va_A ((h_t, .inr (1, [.long t_u, .long t_v, .long t_d])) :: (R ++ va_pl NL (nmE nt nu nv nd))) sz)) 0 0 (va_A ((h_t, .inr (1, [.long t_u, .long t_v, .long t_d])) :: (R ++ va_pl NL (nmE nt nu nv nd))) sz) := by
  refine ct_start (QF := fun A => QV D ((h_t, .inr (1, [.long o_t_u, .long o_t_v, .long o_t_d])) :: (R ++ va_pl NL (nmE nt nu nv nd))) A) ?_ ?_ ?_
  · decide +kernel
  · exact Nat.le_of_ble_eq_true rfl
  intro p e s m args below meth c A ls S hr hlk hnm hS hA hP hD hK hN hl
  have S : CallFix p m c cX1_of 2 s args AL "DigitBench$Rest" := S
  have hx := S.1
  have hb := S.2.1
  have hown := S.2.2.2.1
  have ha := S.2.2.2.2
  have hl : lv_has ls 2 [(0, .ref h_t), (1, .ref l1)] := hl
  unfold f_X1_of at h
  refine lv_aload_n hx hb dX1_of_0 rfl (lv_at hl 0 rfl) ?_
  refine lv_aload_n hx hb dX1_of_1 rfl (lv_at hl 1 rfl) ?_
  refine xg_num (v := .long (nu l1)) S hK (Y := ((h_t, .inr (1, [.long t_u, .long t_v, .long t_d])) :: R)) hP hm_1 1 (by decide) (ha _ q157) rfl dX1_of_2 ?_
  refine va_put (D := D) (ci := 1) (v := .long (nu l1)) (ty := .long) (C := RX1) (T := TX1) (N := 3) hx hb ha ix1 tyX1 tyX1_ok nmX1 hown hK hP hD hS 0 rfl rfl 0 (by decide) (ha _ q190) (fun _ h9 => h9) rfl (by decide +kernel) rfl rfl (Nat.le_of_ble_eq_true rfl) dX1_of_5 (fun H locs hP hD hS => ?_)
  have hP : va_P D vwCl ((h_t, .inr (1, [.long (nu l1), .long t_v, .long t_d])) :: (R ++ va_pl NL (nmE nt nu nv nd))) H := hP
  have hD : va_D A ((h_t, .inr (1, [.long (nu l1), .long t_v, .long t_d])) :: (R ++ va_pl NL (nmE nt nu nv nd))) := hD
  refine lv_aload_n hx hb dX1_of_8 rfl (lv_at hl 0 rfl) ?_
  refine lv_aload_n hx hb dX1_of_9 rfl (lv_at hl 1 rfl) ?_
  refine xg_num (v := .long (nv l1)) S hK (Y := ((h_t, .inr (1, [.long (nu l1), .long t_v, .long t_d])) :: R)) hP hm_1 2 (by decide) (ha _ q163) rfl dX1_of_10 ?_
  refine va_put (D := D) (ci := 1) (v := .long (nv l1)) (ty := .long) (C := RX1) (T := TX1) (N := 3) hx hb ha ix1 tyX1 tyX1_ok nmX1 hown hK hP hD hS 0 rfl rfl 1 (by decide) (ha _ q192) (fun _ h9 => h9) rfl (by decide +kernel) rfl rfl (Nat.le_of_ble_eq_true rfl) dX1_of_13 (fun H locs hP hD hS => ?_)
  have hP : va_P D vwCl ((h_t, .inr (1, [.long (nu l1), .long (nv l1), .long t_d])) :: (R ++ va_pl NL (nmE nt nu nv nd))) H := hP
  have hD : va_D A ((h_t, .inr (1, [.long (nu l1), .long (nv l1), .long t_d])) :: (R ++ va_pl NL (nmE nt nu nv nd))) := hD
  refine lv_aload_n hx hb dX1_of_16 rfl (lv_at hl 0 rfl) ?_
  refine lv_aload_n hx hb dX1_of_17 rfl (lv_at hl 1 rfl) ?_
  refine xg_num (v := .long (nd l1)) S hK (Y := ((h_t, .inr (1, [.long (nu l1), .long (nv l1), .long t_d])) :: R)) hP hm_1 3 (by decide) (ha _ q170) rfl dX1_of_18 ?_
  refine va_put (D := D) (ci := 1) (v := .long (nd l1)) (ty := .long) (C := RX1) (T := TX1) (N := 3) hx hb ha ix1 tyX1 tyX1_ok nmX1 hown hK hP hD hS 0 rfl rfl 2 (by decide) (ha _ q194) (fun _ h9 => h9) rfl (by decide +kernel) rfl rfl (Nat.le_of_ble_eq_true rfl) dX1_of_21 (fun H locs hP hD hS => ?_)
  have hP : va_P D vwCl ((h_t, .inr (1, [.long (nu l1), .long (nv l1), .long (nd l1)])) :: (R ++ va_pl NL (nmE nt nu nv nd))) H := hP
  have hD : va_D A ((h_t, .inr (1, [.long (nu l1), .long (nv l1), .long (nd l1)])) :: (R ++ va_pl NL (nmE nt nu nv nd))) := hD
  cases h
  exact rt_v S hr hlk hP hD hS dX1_of_24
noncomputable def f_X1_isNothing (t_u : Int64) (t_v : Int64) : Option (Int32) :=
  if t_u = 0 then (
   if t_v = 0 then (
    some 1
   ) else (
    some 0
   )
  ) else (
   some 0
  )
set_option maxHeartbeats 4000000 in
set_option maxRecDepth 100000 in
theorem c_X1_isNothing (l : Launch) (D : va_G) (R : va_W) (h_t : Nat) (t_u : Int64) (t_v : Int64) (z_t_2 : Value) (r : Int32)  (h : f_X1_isNothing t_u t_v = some r) (sz : Nat) : Met l yX1_isNothing (WD yX1_isNothing cX1_isNothing 1 (some .boolean)) ({ frames := 0, cells := 0, slots := 0, locals := 0 }) (va_Pc [.ref h_t] (PcW D [] ((h_t, .inr (1, [.long t_u, .long t_v, z_t_2])) :: R) sz)) (QZ D r ((h_t, .inr (1, [.long t_u, .long t_v, z_t_2])) :: R) (va_A ((h_t, .inr (1, [.long t_u, .long t_v, z_t_2])) :: R) sz)) 0 0 (va_A ((h_t, .inr (1, [.long t_u, .long t_v, z_t_2])) :: R) sz) := by
  refine ct_start (QF := fun A => QZ D r ((h_t, .inr (1, [.long t_u, .long t_v, z_t_2])) :: R) A) ?_ ?_ ?_
  · decide +kernel
  · exact Nat.le_of_ble_eq_true rfl
  intro p e s m args below meth c A ls S hr hlk hnm hS hA hP hD hK hN hl
  have S : CallFix p m c cX1_isNothing 1 s args AL "DigitBench$Rest" := S
  have hx := S.1
  have hb := S.2.1
  have hown := S.2.2.2.1
  have ha := S.2.2.2.2
  have hl : lv_has ls 1 [(0, .ref h_t)] := hl
  unfold f_X1_isNothing at h
  refine lv_aload_n hx hb dX1_isNothing_0 rfl (lv_at hl 0 rfl) ?_
  refine va_get (D := D) (ci := 1) (v := .long t_u) (C := RX1) (T := TX1) (N := 3) hx hb ha ix1 hown hK hP 0 rfl rfl 0 (by decide) (ha _ q190) (fun _ h9 => h9) rfl dX1_isNothing_1 ?_
  refine lv_lconst (v := 0) hx hb dX1_isNothing_4 (by decide) ?_
  refine xl_ne (tgt := 22) hx hb dX1_isNothing_5 dX1_isNothing_6 (by decide) (fun c1 => ?_) (fun c1 => ?_)
  · have h := br_neg c1 h
    refine lv_iconst (v := 0) hx hb dX1_isNothing_22 (by decide) ?_
    cases h
    exact rt_z S hr hlk hP hD hS (by decide) dX1_isNothing_23
  · have h := br_pos c1 h
    refine lv_aload_n hx hb dX1_isNothing_9 rfl (lv_at hl 0 rfl) ?_
    refine va_get (D := D) (ci := 1) (v := .long t_v) (C := RX1) (T := TX1) (N := 3) hx hb ha ix1 hown hK hP 0 rfl rfl 1 (by decide) (ha _ q192) (fun _ h9 => h9) rfl dX1_isNothing_10 ?_
    refine lv_lconst (v := 0) hx hb dX1_isNothing_13 (by decide) ?_
    refine xl_ne (tgt := 22) hx hb dX1_isNothing_14 dX1_isNothing_15 (by decide) (fun c2 => ?_) (fun c2 => ?_)
    · have h := br_neg c2 h
      refine lv_iconst (v := 0) hx hb dX1_isNothing_22 (by decide) ?_
      cases h
      exact rt_z S hr hlk hP hD hS (by decide) dX1_isNothing_23
    · have h := br_pos c2 h
      refine lv_iconst (v := 1) hx hb dX1_isNothing_18 (by decide) ?_
      refine lv_goto (tgt := 23) hx hb dX1_isNothing_19 (by decide) ?_
      cases h
      exact rt_z S hr hlk hP hD hS (by decide) dX1_isNothing_23
noncomputable def f_X1_holds (t_u : Int64) (t_v : Int64) (t_d : Int64) (p1_a : Int32) (p1_square : Int64) (p1_powerU : Nat → Int64) (p1_powerV : Nat → Int64) (l2 : Int32) : Option (Int32) :=
  gd (ixb l2 48) (
   gd (ixb l2 48) (
    bnd1 (f_X3_sign p1_a p1_square (t_u - (t_d * (p1_powerU l2.toNatClampNeg))) (t_v - (t_d * (p1_powerV l2.toNatClampNeg)))) fun r_c33_2 => (
     if r_c33_2 < 0 then (
      some 0
     ) else (
      some 1
     )
    )
   )
  )
set_option maxHeartbeats 4000000 in
set_option maxRecDepth 100000 in
theorem c_X1_holds (l : Launch) (D : va_G) (R : va_W) (h_t : Nat) (t_u : Int64) (t_v : Int64) (t_d : Int64) (h_p1 : Nat) (p1_a : Int32) (z_p1_1 : Value) (p1_square : Int64) (z_p1_5 : Value) (z_p1_6 : Value) (z_p1_7 : Value) (h_p1_powerU : Nat) (k_p1_powerU : ClassId) (p1_powerU : Nat → Int64) (h_p1_powerV : Nat) (k_p1_powerV : ClassId) (p1_powerV : Nat → Int64) (l2 : Int32) (r : Int32)  (h : f_X1_holds t_u t_v t_d p1_a p1_square p1_powerU p1_powerV l2 = some r) (sz : Nat) : Met l yX1_holds (WD yX1_holds cX1_holds 3 (some .boolean)) ({ frames := 1, cells := 0, slots := 0, locals := 27 }) (va_Pc [.ref h_t, .ref h_p1, .int l2] (PcW D [(k_p1_powerU, .long), (k_p1_powerV, .long)] ((h_t, .inr (1, [.long t_u, .long t_v, .long t_d])) :: (h_p1, .inr (3, [.int p1_a, z_p1_1, .long p1_square, .ref h_p1_powerU, .ref h_p1_powerV, z_p1_5, z_p1_6, z_p1_7])) :: (h_p1_powerU, .inl (k_p1_powerU, 48, .inr (.inl p1_powerU))) :: (h_p1_powerV, .inl (k_p1_powerV, 48, .inr (.inl p1_powerV))) :: R) sz)) (QZ D r ((h_t, .inr (1, [.long t_u, .long t_v, .long t_d])) :: (h_p1, .inr (3, [.int p1_a, z_p1_1, .long p1_square, .ref h_p1_powerU, .ref h_p1_powerV, z_p1_5, z_p1_6, z_p1_7])) :: (h_p1_powerU, .inl (k_p1_powerU, 48, .inr (.inl p1_powerU))) :: (h_p1_powerV, .inl (k_p1_powerV, 48, .inr (.inl p1_powerV))) :: R) (va_A ((h_t, .inr (1, [.long t_u, .long t_v, .long t_d])) :: (h_p1, .inr (3, [.int p1_a, z_p1_1, .long p1_square, .ref h_p1_powerU, .ref h_p1_powerV, z_p1_5, z_p1_6, z_p1_7])) :: (h_p1_powerU, .inl (k_p1_powerU, 48, .inr (.inl p1_powerU))) :: (h_p1_powerV, .inl (k_p1_powerV, 48, .inr (.inl p1_powerV))) :: R) sz)) 0 0 (va_A ((h_t, .inr (1, [.long t_u, .long t_v, .long t_d])) :: (h_p1, .inr (3, [.int p1_a, z_p1_1, .long p1_square, .ref h_p1_powerU, .ref h_p1_powerV, z_p1_5, z_p1_6, z_p1_7])) :: (h_p1_powerU, .inl (k_p1_powerU, 48, .inr (.inl p1_powerU))) :: (h_p1_powerV, .inl (k_p1_powerV, 48, .inr (.inl p1_powerV))) :: R) sz) := by
  refine ct_start (QF := fun A => QZ D r ((h_t, .inr (1, [.long t_u, .long t_v, .long t_d])) :: (h_p1, .inr (3, [.int p1_a, z_p1_1, .long p1_square, .ref h_p1_powerU, .ref h_p1_powerV, z_p1_5, z_p1_6, z_p1_7])) :: (h_p1_powerU, .inl (k_p1_powerU, 48, .inr (.inl p1_powerU))) :: (h_p1_powerV, .inl (k_p1_powerV, 48, .inr (.inl p1_powerV))) :: R) A) ?_ ?_ ?_
  · decide +kernel
  · exact Nat.le_of_ble_eq_true rfl
  intro p e s m args below meth c A ls S hr hlk hnm hS hA hP hD hK hN hl
  have S : CallFix p m c cX1_holds 3 s args AL "DigitBench$Rest" := S
  have hx := S.1
  have hb := S.2.1
  have hown := S.2.2.2.1
  have ha := S.2.2.2.2
  have hl : lv_has ls 3 [(0, .ref h_t), (1, .ref h_p1), (2, .int l2)] := hl
  unfold f_X1_holds at h
  refine lv_aload_n hx hb dX1_holds_0 rfl (lv_at hl 1 rfl) ?_
  refine lv_aload_n hx hb dX1_holds_1 rfl (lv_at hl 0 rfl) ?_
  refine va_get (D := D) (ci := 1) (v := .long t_u) (C := RX1) (T := TX1) (N := 3) hx hb ha ix1 hown hK hP 0 rfl rfl 0 (by decide) (ha _ q190) (fun _ h9 => h9) rfl dX1_holds_2 ?_
  refine lv_aload_n hx hb dX1_holds_5 rfl (lv_at hl 0 rfl) ?_
  refine va_get (D := D) (ci := 1) (v := .long t_d) (C := RX1) (T := TX1) (N := 3) hx hb ha ix1 hown hK hP 0 rfl rfl 2 (by decide) (ha _ q194) (fun _ h9 => h9) rfl dX1_holds_6 ?_
  refine lv_aload_n hx hb dX1_holds_9 rfl (lv_at hl 1 rfl) ?_
  refine va_get (D := D) (ci := 3) (v := .ref h_p1_powerU) (C := RX3) (T := TX3) (N := 8) hx hb ha ix3 hown hK hP 1 rfl rfl 3 (by decide) (ha _ q123) (fun _ h9 => h9) rfl dX1_holds_10 ?_
  refine lv_iload_n hx hb dX1_holds_13 rfl (lv_at hl 2 rfl) ?_
  obtain ⟨i1, h⟩ := ix_ok h
  refine va_lald hx hb hK hP 2 0 rfl rfl i1 dX1_holds_14 ?_
  refine lv_lmul hx hb dX1_holds_15 ?_
  refine lv_lsub hx hb dX1_holds_16 ?_
  refine lv_aload_n hx hb dX1_holds_17 rfl (lv_at hl 0 rfl) ?_
  refine va_get (D := D) (ci := 1) (v := .long t_v) (C := RX1) (T := TX1) (N := 3) hx hb ha ix1 hown hK hP 0 rfl rfl 1 (by decide) (ha _ q192) (fun _ h9 => h9) rfl dX1_holds_18 ?_
  refine lv_aload_n hx hb dX1_holds_21 rfl (lv_at hl 0 rfl) ?_
  refine va_get (D := D) (ci := 1) (v := .long t_d) (C := RX1) (T := TX1) (N := 3) hx hb ha ix1 hown hK hP 0 rfl rfl 2 (by decide) (ha _ q194) (fun _ h9 => h9) rfl dX1_holds_22 ?_
  refine lv_aload_n hx hb dX1_holds_25 rfl (lv_at hl 1 rfl) ?_
  refine va_get (D := D) (ci := 3) (v := .ref h_p1_powerV) (C := RX3) (T := TX3) (N := 8) hx hb ha ix3 hown hK hP 1 rfl rfl 4 (by decide) (ha _ q125) (fun _ h9 => h9) rfl dX1_holds_26 ?_
  refine lv_iload_n hx hb dX1_holds_29 rfl (lv_at hl 2 rfl) ?_
  obtain ⟨i2, h⟩ := ix_ok h
  refine va_lald hx hb hK hP 3 1 rfl rfl i2 dX1_holds_30 ?_
  refine lv_lmul hx hb dX1_holds_31 ?_
  refine lv_lsub hx hb dX1_holds_32 ?_
  obtain ⟨r_c33_2, e_c33_2, h⟩ := bnd1_ok h
  have hP : va_P D vwCl ((h_p1, .inr (3, [.int p1_a, z_p1_1, .long p1_square, .ref h_p1_powerU, .ref h_p1_powerV, z_p1_5, z_p1_6, z_p1_7])) :: (h_t, .inr (1, [.long t_u, .long t_v, .long t_d])) :: (h_p1_powerU, .inl (k_p1_powerU, 48, .inr (.inl p1_powerU))) :: (h_p1_powerV, .inl (k_p1_powerV, 48, .inr (.inl p1_powerV))) :: R) _ := pm_P [1, 0, 2, 3] 4 hP
  have hD : va_D A ((h_p1, .inr (3, [.int p1_a, z_p1_1, .long p1_square, .ref h_p1_powerU, .ref h_p1_powerV, z_p1_5, z_p1_6, z_p1_7])) :: (h_t, .inr (1, [.long t_u, .long t_v, .long t_d])) :: (h_p1_powerU, .inl (k_p1_powerU, 48, .inr (.inl p1_powerU))) :: (h_p1_powerV, .inl (k_p1_powerV, 48, .inr (.inl p1_powerV))) :: R) := pm_D (X := [(h_p1, .inr (3, [.int p1_a, z_p1_1, .long p1_square, .ref h_p1_powerU, .ref h_p1_powerV, z_p1_5, z_p1_6, z_p1_7])), (h_t, .inr (1, [.long t_u, .long t_v, .long t_d])), (h_p1_powerU, .inl (k_p1_powerU, 48, .inr (.inl p1_powerU))), (h_p1_powerV, .inl (k_p1_powerV, 48, .inr (.inl p1_powerV)))]) [1, 0, 2, 3] 4 (by decide) (by decide) rfl hD
  refine cl_i (rn_v (ci := 3) (As := [.long (t_u - (t_d * (p1_powerU l2.toNatClampNeg))), .long (t_v - (t_d * (p1_powerV l2.toNatClampNeg)))]) (rest := []) S (c_X3_sign l D ((h_t, .inr (1, [.long t_u, .long t_v, .long t_d])) :: (h_p1_powerU, .inl (k_p1_powerU, 48, .inr (.inl p1_powerU))) :: (h_p1_powerV, .inl (k_p1_powerV, 48, .inr (.inl p1_powerV))) :: R) h_p1 p1_a (z_p1_1) p1_square (.ref h_p1_powerU) (.ref h_p1_powerV) (z_p1_5) (z_p1_6) (z_p1_7) (t_u - (t_d * (p1_powerU l2.toNatClampNeg))) (t_v - (t_d * (p1_powerV l2.toNatClampNeg))) r_c33_2 e_c33_2 _) q577 q549 q550 q50 q551 nd_X3_sign ⟨Nat.le_of_ble_eq_true rfl, Nat.le_of_ble_eq_true rfl⟩ rfl rfl hP hD (hK.sub (tys' := []) [] rfl) hN rfl ⟨0, _, rfl⟩ rfl hl.1 rfl (Nat.le_of_ble_eq_true rfl) dX1_holds_33 ⟨Nat.le_of_ble_eq_true rfl, Nat.le_of_ble_eq_true rfl⟩) hS hA hD (fun H locs hP hD hS => ?_)
  have hP : va_P D vwCl ((h_t, .inr (1, [.long t_u, .long t_v, .long t_d])) :: (h_p1, .inr (3, [.int p1_a, z_p1_1, .long p1_square, .ref h_p1_powerU, .ref h_p1_powerV, z_p1_5, z_p1_6, z_p1_7])) :: (h_p1_powerU, .inl (k_p1_powerU, 48, .inr (.inl p1_powerU))) :: (h_p1_powerV, .inl (k_p1_powerV, 48, .inr (.inl p1_powerV))) :: R) H := pm_P [1, 0, 2, 3] 4 hP
  have hD : va_D A ((h_t, .inr (1, [.long t_u, .long t_v, .long t_d])) :: (h_p1, .inr (3, [.int p1_a, z_p1_1, .long p1_square, .ref h_p1_powerU, .ref h_p1_powerV, z_p1_5, z_p1_6, z_p1_7])) :: (h_p1_powerU, .inl (k_p1_powerU, 48, .inr (.inl p1_powerU))) :: (h_p1_powerV, .inl (k_p1_powerV, 48, .inr (.inl p1_powerV))) :: R) := pm_D (X := [(h_t, .inr (1, [.long t_u, .long t_v, .long t_d])), (h_p1, .inr (3, [.int p1_a, z_p1_1, .long p1_square, .ref h_p1_powerU, .ref h_p1_powerV, z_p1_5, z_p1_6, z_p1_7])), (h_p1_powerU, .inl (k_p1_powerU, 48, .inr (.inl p1_powerU))), (h_p1_powerV, .inl (k_p1_powerV, 48, .inr (.inl p1_powerV)))]) [1, 0, 2, 3] 4 (by decide) (by decide) rfl hD
  refine lv_if_lt (tgt := 43) hx hb dX1_holds_36 (by decide) (fun c4 => ?_) (fun c4 => ?_)
  · have h := br_pos c4 h
    refine lv_iconst (v := 0) hx hb dX1_holds_43 (by decide) ?_
    cases h
    exact rt_z S hr hlk hP hD hS (by decide) dX1_holds_44
  · have h := br_neg c4 h
    refine lv_iconst (v := 1) hx hb dX1_holds_39 (by decide) ?_
    refine lv_goto (tgt := 44) hx hb dX1_holds_40 (by decide) ?_
    cases h
    exact rt_z S hr hlk hP hD hS (by decide) dX1_holds_44
noncomputable def f_X1_greatestPower_L4 (t_u : Int64) (t_v : Int64) (t_d : Int64) (p1_a : Int32) (p1_square : Int64) (p1_powers : Int32) (p1_powerU : Nat → Int64) (p1_powerV : Nat → Int64) : Nat → Int32 → Int32 →  Option (Int32)
  | 0, _, _ => none
  | n + 1, l2, l3 => (
    if p1_powers ≤ l3 then (
     some l2
    ) else (
     bnd1 (f_X1_holds t_u t_v t_d p1_a p1_square p1_powerU p1_powerV l3) fun r_c15_1 => (
      if r_c15_1 = 0 then (
       some l2
      ) else (
       f_X1_greatestPower_L4 t_u t_v t_d p1_a p1_square p1_powers p1_powerU p1_powerV n l3 (l3 + 1)
      )
     )
    ))
noncomputable def f_X1_greatestPower (t_u : Int64) (t_v : Int64) (t_d : Int64) (p1_a : Int32) (p1_square : Int64) (p1_powers : Int32) (p1_powerU : Nat → Int64) (p1_powerV : Nat → Int64) : Option (Int32) :=
  bnd1 (f_X1_greatestPower_L4 t_u t_v t_d p1_a p1_square p1_powers p1_powerU p1_powerV FU 0 1) fun x2_L4_3 => (
   some x2_L4_3
  )
set_option maxHeartbeats 4000000 in
set_option maxRecDepth 100000 in
theorem c_X1_greatestPower (l : Launch) (D : va_G) (R : va_W) (h_t : Nat) (t_u : Int64) (t_v : Int64) (t_d : Int64) (h_p1 : Nat) (p1_a : Int32) (z_p1_1 : Value) (p1_square : Int64) (z_p1_5 : Value) (p1_powers : Int32) (z_p1_7 : Value) (h_p1_powerU : Nat) (k_p1_powerU : ClassId) (p1_powerU : Nat → Int64) (h_p1_powerV : Nat) (k_p1_powerV : ClassId) (p1_powerV : Nat → Int64) (r : Int32)  (h : f_X1_greatestPower t_u t_v t_d p1_a p1_square p1_powers p1_powerU p1_powerV = some r) (sz : Nat) : Met l yX1_greatestPower (WD yX1_greatestPower cX1_greatestPower 4 (some .int)) ({ frames := 2, cells := 0, slots := 0, locals := 49 }) (va_Pc [.ref h_t, .ref h_p1] (PcW D [(k_p1_powerU, .long), (k_p1_powerV, .long)] ((h_t, .inr (1, [.long t_u, .long t_v, .long t_d])) :: (h_p1, .inr (3, [.int p1_a, z_p1_1, .long p1_square, .ref h_p1_powerU, .ref h_p1_powerV, z_p1_5, .int p1_powers, z_p1_7])) :: (h_p1_powerU, .inl (k_p1_powerU, 48, .inr (.inl p1_powerU))) :: (h_p1_powerV, .inl (k_p1_powerV, 48, .inr (.inl p1_powerV))) :: R) sz)) (QI D r ((h_t, .inr (1, [.long t_u, .long t_v, .long t_d])) :: (h_p1, .inr (3, [.int p1_a, z_p1_1, .long p1_square, .ref h_p1_powerU, .ref h_p1_powerV, z_p1_5, .int p1_powers, z_p1_7])) :: (h_p1_powerU, .inl (k_p1_powerU, 48, .inr (.inl p1_powerU))) :: (h_p1_powerV, .inl (k_p1_powerV, 48, .inr (.inl p1_powerV))) :: R) (va_A ((h_t, .inr (1, [.long t_u, .long t_v, .long t_d])) :: (h_p1, .inr (3, [.int p1_a, z_p1_1, .long p1_square, .ref h_p1_powerU, .ref h_p1_powerV, z_p1_5, .int p1_powers, z_p1_7])) :: (h_p1_powerU, .inl (k_p1_powerU, 48, .inr (.inl p1_powerU))) :: (h_p1_powerV, .inl (k_p1_powerV, 48, .inr (.inl p1_powerV))) :: R) sz)) 0 0 (va_A ((h_t, .inr (1, [.long t_u, .long t_v, .long t_d])) :: (h_p1, .inr (3, [.int p1_a, z_p1_1, .long p1_square, .ref h_p1_powerU, .ref h_p1_powerV, z_p1_5, .int p1_powers, z_p1_7])) :: (h_p1_powerU, .inl (k_p1_powerU, 48, .inr (.inl p1_powerU))) :: (h_p1_powerV, .inl (k_p1_powerV, 48, .inr (.inl p1_powerV))) :: R) sz) := by
  refine ct_start (QF := fun A => QI D r ((h_t, .inr (1, [.long t_u, .long t_v, .long t_d])) :: (h_p1, .inr (3, [.int p1_a, z_p1_1, .long p1_square, .ref h_p1_powerU, .ref h_p1_powerV, z_p1_5, .int p1_powers, z_p1_7])) :: (h_p1_powerU, .inl (k_p1_powerU, 48, .inr (.inl p1_powerU))) :: (h_p1_powerV, .inl (k_p1_powerV, 48, .inr (.inl p1_powerV))) :: R) A) ?_ ?_ ?_
  · decide +kernel
  · exact Nat.le_of_ble_eq_true rfl
  intro p e s m args below meth c A ls S hr hlk hnm hS hA hP hD hK hN hl
  have S : CallFix p m c cX1_greatestPower 4 s args AL "DigitBench$Rest" := S
  have hx := S.1
  have hb := S.2.1
  have hown := S.2.2.2.1
  have ha := S.2.2.2.2
  have hl : lv_has ls 4 [(0, .ref h_t), (1, .ref h_p1)] := hl
  have L4 : ∀ (Q : State → Prop) (n : Nat) (l2 : Int32) (l3 : Int32)  (x2 : Int32), f_X1_greatestPower_L4 t_u t_v t_d p1_a p1_square p1_powers p1_powerU p1_powerV n l2 l3 = some x2 → ∀ (H : Heap) (locs : List Loc) (ls : Array Slot), va_P D vwCl ((h_t, .inr (1, [.long t_u, .long t_v, .long t_d])) :: (h_p1, .inr (3, [.int p1_a, z_p1_1, .long p1_square, .ref h_p1_powerU, .ref h_p1_powerV, z_p1_5, .int p1_powers, z_p1_7])) :: (h_p1_powerU, .inl (k_p1_powerU, 48, .inr (.inl p1_powerU))) :: (h_p1_powerV, .inl (k_p1_powerV, 48, .inr (.inl p1_powerV))) :: R) H → va_D A ((h_t, .inr (1, [.long t_u, .long t_v, .long t_d])) :: (h_p1, .inr (3, [.int p1_a, z_p1_1, .long p1_square, .ref h_p1_powerU, .ref h_p1_powerV, z_p1_5, .int p1_powers, z_p1_7])) :: (h_p1_powerU, .inl (k_p1_powerU, 48, .inr (.inl p1_powerU))) :: (h_p1_powerV, .inl (k_p1_powerV, 48, .inr (.inl p1_powerV))) :: R) → va_S A s.heap H locs → lv_has ls 4 [(0, .ref h_t), (1, .ref h_p1), (2, .int l2), (3, .int l3)] → (∀ (H : Heap) (locs : List Loc) (ls : Array Slot), va_P D vwCl ((h_t, .inr (1, [.long t_u, .long t_v, .long t_d])) :: (h_p1, .inr (3, [.int p1_a, z_p1_1, .long p1_square, .ref h_p1_powerU, .ref h_p1_powerV, z_p1_5, .int p1_powers, z_p1_7])) :: (h_p1_powerU, .inl (k_p1_powerU, 48, .inr (.inl p1_powerU))) :: (h_p1_powerV, .inl (k_p1_powerV, 48, .inr (.inl p1_powerV))) :: R) H → va_D A ((h_t, .inr (1, [.long t_u, .long t_v, .long t_d])) :: (h_p1, .inr (3, [.int p1_a, z_p1_1, .long p1_square, .ref h_p1_powerU, .ref h_p1_powerV, z_p1_5, .int p1_powers, z_p1_7])) :: (h_p1_powerU, .inl (k_p1_powerU, 48, .inr (.inl p1_powerU))) :: (h_p1_powerV, .inl (k_p1_powerV, 48, .inr (.inl p1_powerV))) :: R) → va_S A s.heap H locs → lv_has ls 4 [(2, .int x2)] → W p l e { frames := 2, cells := 0, slots := 0, locals := 49 } s m args below meth c H locs 0 0 Q (F0 m 29 ls [])) → W p l e { frames := 2, cells := 0, slots := 0, locals := 49 } s m args below meth c H locs 0 0 Q (F0 m 4 ls []) := by
    intro Q n
    induction n with
    | zero =>
      intro l2 l3 x2 h
      rw [f_X1_greatestPower_L4] at h; cases h
    | succ n ih =>
      intro l2 l3 x2 h H locs ls hP hD hS hl kk0
      rw [f_X1_greatestPower_L4] at h
      refine lv_iload_n hx hb dX1_greatestPower_4 rfl (lv_at hl 3 rfl) ?_
      refine lv_aload_n hx hb dX1_greatestPower_5 rfl (lv_at hl 1 rfl) ?_
      refine va_get (D := D) (ci := 3) (v := .int p1_powers) (C := RX3) (T := TX3) (N := 8) hx hb ha ix3 hown hK hP 1 rfl rfl 6 (by decide) (ha _ q128) (fun _ h9 => h9) rfl dX1_greatestPower_6 ?_
      refine lv_icmp_ge (tgt := 29) hx hb dX1_greatestPower_9 (by decide) (fun c1 => ?_) (fun c1 => ?_)
      · have h := br_pos c1 h
        cases h
        exact kk0 _ _ _ hP hD hS (lv_sub hl [2] rfl)
      · have h := br_neg c1 h
        refine lv_aload_n hx hb dX1_greatestPower_12 rfl (lv_at hl 0 rfl) ?_
        refine lv_aload_n hx hb dX1_greatestPower_13 rfl (lv_at hl 1 rfl) ?_
        refine lv_iload_n hx hb dX1_greatestPower_14 rfl (lv_at hl 3 rfl) ?_
        obtain ⟨r_c15_1, e_c15_1, h⟩ := bnd1_ok h
        refine cl_z (rn_v (ci := 1) (As := [.ref h_p1, .int l3]) (rest := []) S (c_X1_holds l D (R) h_t t_u t_v t_d h_p1 p1_a (z_p1_1) p1_square (z_p1_5) (.int p1_powers) (z_p1_7) h_p1_powerU k_p1_powerU p1_powerU h_p1_powerV k_p1_powerV p1_powerV l3 r_c15_1 e_c15_1 _) q573 q575 q9 q52 q576 nd_X1_holds ⟨Nat.le_of_ble_eq_true rfl, Nat.le_of_ble_eq_true rfl⟩ rfl rfl hP hD (hK.sub (tys' := [(k_p1_powerU, .long), (k_p1_powerV, .long)]) [0, 1] rfl) hN rfl ⟨0, _, rfl⟩ rfl hl.1 rfl (Nat.le_of_ble_eq_true rfl) dX1_greatestPower_15 ⟨Nat.le_of_ble_eq_true rfl, Nat.le_of_ble_eq_true rfl⟩) hS hA hD (fun H locs hP hD hS z_c15_1 => ?_)
        have hP : va_P D vwCl ((h_t, .inr (1, [.long t_u, .long t_v, .long t_d])) :: (h_p1, .inr (3, [.int p1_a, z_p1_1, .long p1_square, .ref h_p1_powerU, .ref h_p1_powerV, z_p1_5, .int p1_powers, z_p1_7])) :: (h_p1_powerU, .inl (k_p1_powerU, 48, .inr (.inl p1_powerU))) :: (h_p1_powerV, .inl (k_p1_powerV, 48, .inr (.inl p1_powerV))) :: R) H := hP
        have hD : va_D A ((h_t, .inr (1, [.long t_u, .long t_v, .long t_d])) :: (h_p1, .inr (3, [.int p1_a, z_p1_1, .long p1_square, .ref h_p1_powerU, .ref h_p1_powerV, z_p1_5, .int p1_powers, z_p1_7])) :: (h_p1_powerU, .inl (k_p1_powerU, 48, .inr (.inl p1_powerU))) :: (h_p1_powerV, .inl (k_p1_powerV, 48, .inr (.inl p1_powerV))) :: R) := hD
        refine lv_if_eq (tgt := 29) hx hb dX1_greatestPower_18 (by decide) (fun c3 => ?_) (fun c3 => ?_)
        · have h := br_pos c3 h
          cases h
          exact kk0 _ _ _ hP hD hS (lv_sub hl [2] rfl)
        · have h := br_neg c3 h
          refine lv_iload_n hx hb dX1_greatestPower_21 rfl (lv_at hl 3 rfl) ?_
          refine lv_istore_n (lv' := [(2, .int l3), (0, .ref h_t), (1, .ref h_p1), (3, .int l3)]) hx hb dX1_greatestPower_22 rfl hl (by decide) rfl (fun ls hl => ?_)
          refine lv_iinc (v := (l3 + 1)) (lv' := [(3, .int (l3 + 1)), (2, .int l3), (0, .ref h_t), (1, .ref h_p1)]) hx hb dX1_greatestPower_23 hl (k := 3) rfl rfl (by decide) rfl (fun ls hl => ?_)
          refine lv_goto (tgt := 4) hx hb dX1_greatestPower_26 (by decide) ?_
          exact ih l3 (l3 + 1) _ h _ _ _ hP hD hS (lv_sub hl [2, 3, 1, 0] rfl) kk0
  unfold f_X1_greatestPower at h
  refine lv_iconst (v := 0) hx hb dX1_greatestPower_0 (by decide) ?_
  refine lv_istore_n (lv' := [(2, .int 0), (0, .ref h_t), (1, .ref h_p1)]) hx hb dX1_greatestPower_1 rfl hl (by decide) rfl (fun ls hl => ?_)
  refine lv_iconst (v := 1) hx hb dX1_greatestPower_2 (by decide) ?_
  refine lv_istore_n (lv' := [(3, .int 1), (2, .int 0), (0, .ref h_t), (1, .ref h_p1)]) hx hb dX1_greatestPower_3 rfl hl (by decide) rfl (fun ls hl => ?_)
  obtain ⟨x2_L4_3, e_L4_3, h⟩ := bnd1_ok h
  refine L4 _ _ 0 1 x2_L4_3 e_L4_3 _ _ _ hP hD hS (lv_sub hl [2, 3, 1, 0] rfl) ?_
  intro H locs ls hP hD hS hl
  refine lv_iload_n hx hb dX1_greatestPower_29 rfl (lv_at hl 0 rfl) ?_
  cases h
  exact rt_i S hr hlk hP hD hS dX1_greatestPower_30
noncomputable def f_X1_peel_L22 (l2 : Int32) (t_d : Int64) (p1_a : Int32) (p1_square : Int64) (p1_powerU : Nat → Int64) (p1_powerV : Nat → Int64) : Nat → Int32 → Int32 → Int64 → Int64 →  Option (Int32 × Int64 × Int64)
  | 0, _, _, _, _ => none
  | n + 1, l3, l4, t_u, t_v => (
    if l4 ≤ 0 then (
     some (l3, t_u, t_v)
    ) else (
     bnd1 (f_X1_holds t_u t_v t_d p1_a p1_square p1_powerU p1_powerV l2) fun r_c30_4 => (
      if r_c30_4 = 0 then (
       some (l3, t_u, t_v)
      ) else (
       gd (ixb l2 48) (
        gd (ixb l2 48) (
         f_X1_peel_L22 l2 t_d p1_a p1_square p1_powerU p1_powerV n (l3 + 1) (l4 + (-1)) (t_u - (t_d * (p1_powerU l2.toNatClampNeg))) (t_v - (t_d * (p1_powerV l2.toNatClampNeg)))
        )
       )
      )
     )
    ))
noncomputable def f_X1_peel (t_u : Int64) (t_v : Int64) (t_d : Int64) (p1_a : Int32) (p1_b : Int32) (p1_square : Int64) (p1_powers : Int32) (p1_powerU : Nat → Int64) (p1_powerV : Nat → Int64) (l2 : Int32) : Option (Int32 × Int64 × Int64) :=
  if l2 < 0 then (
   some (0, t_u, t_v)
  ) else (
   if l2 < p1_powers then (
    bnd1 (f_X3_top p1_a p1_b) fun r_c17_2 => (
     bnd3 (f_X1_peel_L22 l2 t_d p1_a p1_square p1_powerU p1_powerV FU 0 r_c17_2 t_u t_v) fun x3_L22_8 x_t_u_L22_8 x_t_v_L22_8 => (
      some (x3_L22_8, x_t_u_L22_8, x_t_v_L22_8)
     )
    )
   ) else (
    some (0, t_u, t_v)
   )
  )
set_option maxHeartbeats 4000000 in
set_option maxRecDepth 100000 in
theorem c_X1_peel (l : Launch) (D : va_G) (R : va_W) (h_t : Nat) (t_u : Int64) (t_v : Int64) (t_d : Int64) (h_p1 : Nat) (p1_a : Int32) (p1_b : Int32) (p1_square : Int64) (z_p1_5 : Value) (p1_powers : Int32) (z_p1_7 : Value) (h_p1_powerU : Nat) (k_p1_powerU : ClassId) (p1_powerU : Nat → Int64) (h_p1_powerV : Nat) (k_p1_powerV : ClassId) (p1_powerV : Nat → Int64) (l2 : Int32) (r : Int32) (o_t_u : Int64) (o_t_v : Int64)  (h : f_X1_peel t_u t_v t_d p1_a p1_b p1_square p1_powers p1_powerU p1_powerV l2 = some (r, o_t_u, o_t_v)) (sz : Nat) : Met l yX1_peel (WD yX1_peel cX1_peel 5 (some .int)) ({ frames := 2, cells := 0, slots := 0, locals := 49 }) (va_Pc [.ref h_t, .ref h_p1, .int l2] (PcW D [(k_p1_powerU, .long), (k_p1_powerV, .long)] ((h_t, .inr (1, [.long t_u, .long t_v, .long t_d])) :: (h_p1, .inr (3, [.int p1_a, .int p1_b, .long p1_square, .ref h_p1_powerU, .ref h_p1_powerV, z_p1_5, .int p1_powers, z_p1_7])) :: (h_p1_powerU, .inl (k_p1_powerU, 48, .inr (.inl p1_powerU))) :: (h_p1_powerV, .inl (k_p1_powerV, 48, .inr (.inl p1_powerV))) :: R) sz)) (QI D r ((h_t, .inr (1, [.long o_t_u, .long o_t_v, .long t_d])) :: (h_p1, .inr (3, [.int p1_a, .int p1_b, .long p1_square, .ref h_p1_powerU, .ref h_p1_powerV, z_p1_5, .int p1_powers, z_p1_7])) :: (h_p1_powerU, .inl (k_p1_powerU, 48, .inr (.inl p1_powerU))) :: (h_p1_powerV, .inl (k_p1_powerV, 48, .inr (.inl p1_powerV))) :: R) (va_A ((h_t, .inr (1, [.long t_u, .long t_v, .long t_d])) :: (h_p1, .inr (3, [.int p1_a, .int p1_b, .long p1_square, .ref h_p1_powerU, .ref h_p1_powerV, z_p1_5, .int p1_powers, z_p1_7])) :: (h_p1_powerU, .inl (k_p1_powerU, 48, .inr (.inl p1_powerU))) :: (h_p1_powerV, .inl (k_p1_powerV, 48, .inr (.inl p1_powerV))) :: R) sz)) 0 0 (va_A ((h_t, .inr (1, [.long t_u, .long t_v, .long t_d])) :: (h_p1, .inr (3, [.int p1_a, .int p1_b, .long p1_square, .ref h_p1_powerU, .ref h_p1_powerV, z_p1_5, .int p1_powers, z_p1_7])) :: (h_p1_powerU, .inl (k_p1_powerU, 48, .inr (.inl p1_powerU))) :: (h_p1_powerV, .inl (k_p1_powerV, 48, .inr (.inl p1_powerV))) :: R) sz) := by
  refine ct_start (QF := fun A => QI D r ((h_t, .inr (1, [.long o_t_u, .long o_t_v, .long t_d])) :: (h_p1, .inr (3, [.int p1_a, .int p1_b, .long p1_square, .ref h_p1_powerU, .ref h_p1_powerV, z_p1_5, .int p1_powers, z_p1_7])) :: (h_p1_powerU, .inl (k_p1_powerU, 48, .inr (.inl p1_powerU))) :: (h_p1_powerV, .inl (k_p1_powerV, 48, .inr (.inl p1_powerV))) :: R) A) ?_ ?_ ?_
  · decide +kernel
  · exact Nat.le_of_ble_eq_true rfl
  intro p e s m args below meth c A ls S hr hlk hnm hS hA hP hD hK hN hl
  have S : CallFix p m c cX1_peel 5 s args AL "DigitBench$Rest" := S
  have hx := S.1
  have hb := S.2.1
  have hown := S.2.2.2.1
  have ha := S.2.2.2.2
  have hl : lv_has ls 5 [(0, .ref h_t), (1, .ref h_p1), (2, .int l2)] := hl
  have L22 : ∀ (Q : State → Prop) (n : Nat) (l2 : Int32) (l3 : Int32) (l4 : Int32) (t_u : Int64) (t_v : Int64) (x3 : Int32) (x_t_u : Int64) (x_t_v : Int64), f_X1_peel_L22 l2 t_d p1_a p1_square p1_powerU p1_powerV n l3 l4 t_u t_v = some (x3, x_t_u, x_t_v) → ∀ (H : Heap) (locs : List Loc) (ls : Array Slot), va_P D vwCl ((h_t, .inr (1, [.long t_u, .long t_v, .long t_d])) :: (h_p1, .inr (3, [.int p1_a, .int p1_b, .long p1_square, .ref h_p1_powerU, .ref h_p1_powerV, z_p1_5, .int p1_powers, z_p1_7])) :: (h_p1_powerU, .inl (k_p1_powerU, 48, .inr (.inl p1_powerU))) :: (h_p1_powerV, .inl (k_p1_powerV, 48, .inr (.inl p1_powerV))) :: R) H → va_D A ((h_t, .inr (1, [.long t_u, .long t_v, .long t_d])) :: (h_p1, .inr (3, [.int p1_a, .int p1_b, .long p1_square, .ref h_p1_powerU, .ref h_p1_powerV, z_p1_5, .int p1_powers, z_p1_7])) :: (h_p1_powerU, .inl (k_p1_powerU, 48, .inr (.inl p1_powerU))) :: (h_p1_powerV, .inl (k_p1_powerV, 48, .inr (.inl p1_powerV))) :: R) → va_S A s.heap H locs → lv_has ls 5 [(0, .ref h_t), (1, .ref h_p1), (2, .int l2), (3, .int l3), (4, .int l4)] → (∀ (H : Heap) (locs : List Loc) (ls : Array Slot), va_P D vwCl ((h_t, .inr (1, [.long x_t_u, .long x_t_v, .long t_d])) :: (h_p1, .inr (3, [.int p1_a, .int p1_b, .long p1_square, .ref h_p1_powerU, .ref h_p1_powerV, z_p1_5, .int p1_powers, z_p1_7])) :: (h_p1_powerU, .inl (k_p1_powerU, 48, .inr (.inl p1_powerU))) :: (h_p1_powerV, .inl (k_p1_powerV, 48, .inr (.inl p1_powerV))) :: R) H → va_D A ((h_t, .inr (1, [.long x_t_u, .long x_t_v, .long t_d])) :: (h_p1, .inr (3, [.int p1_a, .int p1_b, .long p1_square, .ref h_p1_powerU, .ref h_p1_powerV, z_p1_5, .int p1_powers, z_p1_7])) :: (h_p1_powerU, .inl (k_p1_powerU, 48, .inr (.inl p1_powerU))) :: (h_p1_powerV, .inl (k_p1_powerV, 48, .inr (.inl p1_powerV))) :: R) → va_S A s.heap H locs → lv_has ls 5 [(3, .int x3)] → W p l e { frames := 2, cells := 0, slots := 0, locals := 49 } s m args below meth c H locs 0 0 Q (F0 m 85 ls [])) → W p l e { frames := 2, cells := 0, slots := 0, locals := 49 } s m args below meth c H locs 0 0 Q (F0 m 22 ls []) := by
    intro Q n
    induction n with
    | zero =>
      intro l2 l3 l4 t_u t_v x3 x_t_u x_t_v h
      rw [f_X1_peel_L22] at h; cases h
    | succ n ih =>
      intro l2 l3 l4 t_u t_v x3 x_t_u x_t_v h H locs ls hP hD hS hl kk0
      rw [f_X1_peel_L22] at h
      refine lv_iload hx hb dX1_peel_22 (lv_at hl 4 rfl) ?_
      refine lv_if_le (tgt := 85) hx hb dX1_peel_24 (by decide) (fun c4 => ?_) (fun c4 => ?_)
      · have h := br_pos c4 h
        cases h
        exact kk0 _ _ _ hP hD hS (lv_sub hl [3] rfl)
      · have h := br_neg c4 h
        refine lv_aload_n hx hb dX1_peel_27 rfl (lv_at hl 0 rfl) ?_
        refine lv_aload_n hx hb dX1_peel_28 rfl (lv_at hl 1 rfl) ?_
        refine lv_iload_n hx hb dX1_peel_29 rfl (lv_at hl 2 rfl) ?_
        obtain ⟨r_c30_4, e_c30_4, h⟩ := bnd1_ok h
        refine cl_z (rn_v (ci := 1) (As := [.ref h_p1, .int l2]) (rest := []) S (c_X1_holds l D (R) h_t t_u t_v t_d h_p1 p1_a (.int p1_b) p1_square (z_p1_5) (.int p1_powers) (z_p1_7) h_p1_powerU k_p1_powerU p1_powerU h_p1_powerV k_p1_powerV p1_powerV l2 r_c30_4 e_c30_4 _) q573 q575 q9 q52 q576 nd_X1_holds ⟨Nat.le_of_ble_eq_true rfl, Nat.le_of_ble_eq_true rfl⟩ rfl rfl hP hD (hK.sub (tys' := [(k_p1_powerU, .long), (k_p1_powerV, .long)]) [0, 1] rfl) hN rfl ⟨0, _, rfl⟩ rfl hl.1 rfl (Nat.le_of_ble_eq_true rfl) dX1_peel_30 ⟨Nat.le_of_ble_eq_true rfl, Nat.le_of_ble_eq_true rfl⟩) hS hA hD (fun H locs hP hD hS z_c30_4 => ?_)
        have hP : va_P D vwCl ((h_t, .inr (1, [.long t_u, .long t_v, .long t_d])) :: (h_p1, .inr (3, [.int p1_a, .int p1_b, .long p1_square, .ref h_p1_powerU, .ref h_p1_powerV, z_p1_5, .int p1_powers, z_p1_7])) :: (h_p1_powerU, .inl (k_p1_powerU, 48, .inr (.inl p1_powerU))) :: (h_p1_powerV, .inl (k_p1_powerV, 48, .inr (.inl p1_powerV))) :: R) H := hP
        have hD : va_D A ((h_t, .inr (1, [.long t_u, .long t_v, .long t_d])) :: (h_p1, .inr (3, [.int p1_a, .int p1_b, .long p1_square, .ref h_p1_powerU, .ref h_p1_powerV, z_p1_5, .int p1_powers, z_p1_7])) :: (h_p1_powerU, .inl (k_p1_powerU, 48, .inr (.inl p1_powerU))) :: (h_p1_powerV, .inl (k_p1_powerV, 48, .inr (.inl p1_powerV))) :: R) := hD
        refine lv_if_eq (tgt := 85) hx hb dX1_peel_33 (by decide) (fun c6 => ?_) (fun c6 => ?_)
        · have h := br_pos c6 h
          cases h
          exact kk0 _ _ _ hP hD hS (lv_sub hl [3] rfl)
        · have h := br_neg c6 h
          refine lv_aload_n hx hb dX1_peel_36 rfl (lv_at hl 0 rfl) ?_
          refine lv_dup hx hb dX1_peel_37 rfl ?_
          refine va_get (D := D) (ci := 1) (v := .long t_u) (C := RX1) (T := TX1) (N := 3) hx hb ha ix1 hown hK hP 0 rfl rfl 0 (by decide) (ha _ q190) (fun _ h9 => h9) rfl dX1_peel_38 ?_
          refine lv_aload_n hx hb dX1_peel_41 rfl (lv_at hl 0 rfl) ?_
          refine va_get (D := D) (ci := 1) (v := .long t_d) (C := RX1) (T := TX1) (N := 3) hx hb ha ix1 hown hK hP 0 rfl rfl 2 (by decide) (ha _ q194) (fun _ h9 => h9) rfl dX1_peel_42 ?_
          refine lv_aload_n hx hb dX1_peel_45 rfl (lv_at hl 1 rfl) ?_
          refine va_get (D := D) (ci := 3) (v := .ref h_p1_powerU) (C := RX3) (T := TX3) (N := 8) hx hb ha ix3 hown hK hP 1 rfl rfl 3 (by decide) (ha _ q123) (fun _ h9 => h9) rfl dX1_peel_46 ?_
          refine lv_iload_n hx hb dX1_peel_49 rfl (lv_at hl 2 rfl) ?_
          obtain ⟨i7, h⟩ := ix_ok h
          refine va_lald hx hb hK hP 2 0 rfl rfl i7 dX1_peel_50 ?_
          refine lv_lmul hx hb dX1_peel_51 ?_
          refine lv_lsub hx hb dX1_peel_52 ?_
          refine va_put (D := D) (ci := 1) (v := .long (t_u - (t_d * (p1_powerU l2.toNatClampNeg)))) (ty := .long) (C := RX1) (T := TX1) (N := 3) hx hb ha ix1 tyX1 tyX1_ok nmX1 hown hK hP hD hS 0 rfl rfl 0 (by decide) (ha _ q190) (fun _ h9 => h9) rfl (by decide +kernel) rfl rfl (Nat.le_of_ble_eq_true rfl) dX1_peel_53 (fun H locs hP hD hS => ?_)
          have hP : va_P D vwCl ((h_t, .inr (1, [.long (t_u - (t_d * (p1_powerU l2.toNatClampNeg))), .long t_v, .long t_d])) :: (h_p1, .inr (3, [.int p1_a, .int p1_b, .long p1_square, .ref h_p1_powerU, .ref h_p1_powerV, z_p1_5, .int p1_powers, z_p1_7])) :: (h_p1_powerU, .inl (k_p1_powerU, 48, .inr (.inl p1_powerU))) :: (h_p1_powerV, .inl (k_p1_powerV, 48, .inr (.inl p1_powerV))) :: R) H := hP
          have hD : va_D A ((h_t, .inr (1, [.long (t_u - (t_d * (p1_powerU l2.toNatClampNeg))), .long t_v, .long t_d])) :: (h_p1, .inr (3, [.int p1_a, .int p1_b, .long p1_square, .ref h_p1_powerU, .ref h_p1_powerV, z_p1_5, .int p1_powers, z_p1_7])) :: (h_p1_powerU, .inl (k_p1_powerU, 48, .inr (.inl p1_powerU))) :: (h_p1_powerV, .inl (k_p1_powerV, 48, .inr (.inl p1_powerV))) :: R) := hD
          refine lv_aload_n hx hb dX1_peel_56 rfl (lv_at hl 0 rfl) ?_
          refine lv_dup hx hb dX1_peel_57 rfl ?_
          refine va_get (D := D) (ci := 1) (v := .long t_v) (C := RX1) (T := TX1) (N := 3) hx hb ha ix1 hown hK hP 0 rfl rfl 1 (by decide) (ha _ q192) (fun _ h9 => h9) rfl dX1_peel_58 ?_
          refine lv_aload_n hx hb dX1_peel_61 rfl (lv_at hl 0 rfl) ?_
          refine va_get (D := D) (ci := 1) (v := .long t_d) (C := RX1) (T := TX1) (N := 3) hx hb ha ix1 hown hK hP 0 rfl rfl 2 (by decide) (ha _ q194) (fun _ h9 => h9) rfl dX1_peel_62 ?_
          refine lv_aload_n hx hb dX1_peel_65 rfl (lv_at hl 1 rfl) ?_
          refine va_get (D := D) (ci := 3) (v := .ref h_p1_powerV) (C := RX3) (T := TX3) (N := 8) hx hb ha ix3 hown hK hP 1 rfl rfl 4 (by decide) (ha _ q125) (fun _ h9 => h9) rfl dX1_peel_66 ?_
          refine lv_iload_n hx hb dX1_peel_69 rfl (lv_at hl 2 rfl) ?_
          obtain ⟨i8, h⟩ := ix_ok h
          refine va_lald hx hb hK hP 3 1 rfl rfl i8 dX1_peel_70 ?_
          refine lv_lmul hx hb dX1_peel_71 ?_
          refine lv_lsub hx hb dX1_peel_72 ?_
          refine va_put (D := D) (ci := 1) (v := .long (t_v - (t_d * (p1_powerV l2.toNatClampNeg)))) (ty := .long) (C := RX1) (T := TX1) (N := 3) hx hb ha ix1 tyX1 tyX1_ok nmX1 hown hK hP hD hS 0 rfl rfl 1 (by decide) (ha _ q192) (fun _ h9 => h9) rfl (by decide +kernel) rfl rfl (Nat.le_of_ble_eq_true rfl) dX1_peel_73 (fun H locs hP hD hS => ?_)
          have hP : va_P D vwCl ((h_t, .inr (1, [.long (t_u - (t_d * (p1_powerU l2.toNatClampNeg))), .long (t_v - (t_d * (p1_powerV l2.toNatClampNeg))), .long t_d])) :: (h_p1, .inr (3, [.int p1_a, .int p1_b, .long p1_square, .ref h_p1_powerU, .ref h_p1_powerV, z_p1_5, .int p1_powers, z_p1_7])) :: (h_p1_powerU, .inl (k_p1_powerU, 48, .inr (.inl p1_powerU))) :: (h_p1_powerV, .inl (k_p1_powerV, 48, .inr (.inl p1_powerV))) :: R) H := hP
          have hD : va_D A ((h_t, .inr (1, [.long (t_u - (t_d * (p1_powerU l2.toNatClampNeg))), .long (t_v - (t_d * (p1_powerV l2.toNatClampNeg))), .long t_d])) :: (h_p1, .inr (3, [.int p1_a, .int p1_b, .long p1_square, .ref h_p1_powerU, .ref h_p1_powerV, z_p1_5, .int p1_powers, z_p1_7])) :: (h_p1_powerU, .inl (k_p1_powerU, 48, .inr (.inl p1_powerU))) :: (h_p1_powerV, .inl (k_p1_powerV, 48, .inr (.inl p1_powerV))) :: R) := hD
          refine lv_iinc (v := (l3 + 1)) (lv' := [(3, .int (l3 + 1)), (0, .ref h_t), (1, .ref h_p1), (2, .int l2), (4, .int l4)]) hx hb dX1_peel_76 hl (k := 3) rfl rfl (by decide) rfl (fun ls hl => ?_)
          refine lv_iinc (v := (l4 + (-1))) (lv' := [(4, .int (l4 + (-1))), (3, .int (l3 + 1)), (0, .ref h_t), (1, .ref h_p1), (2, .int l2)]) hx hb dX1_peel_79 hl (k := 4) rfl rfl (by decide) rfl (fun ls hl => ?_)
          refine lv_goto (tgt := 22) hx hb dX1_peel_82 (by decide) ?_
          exact ih l2 (l3 + 1) (l4 + (-1)) (t_u - (t_d * (p1_powerU l2.toNatClampNeg))) (t_v - (t_d * (p1_powerV l2.toNatClampNeg))) _ _ _ h _ _ _ hP hD hS (lv_sub hl [2, 3, 4, 1, 0] rfl) kk0
  unfold f_X1_peel at h
  refine lv_iconst (v := 0) hx hb dX1_peel_0 (by decide) ?_
  refine lv_istore_n (lv' := [(3, .int 0), (0, .ref h_t), (1, .ref h_p1), (2, .int l2)]) hx hb dX1_peel_1 rfl hl (by decide) rfl (fun ls hl => ?_)
  refine lv_iload_n hx hb dX1_peel_2 rfl (lv_at hl 3 rfl) ?_
  refine lv_if_lt (tgt := 14) hx hb dX1_peel_3 (by decide) (fun c1 => ?_) (fun c1 => ?_)
  · have h := br_pos c1 h
    refine lv_iload_n hx hb dX1_peel_14 rfl (lv_at hl 0 rfl) ?_
    cases h
    exact rt_i S hr hlk hP hD hS dX1_peel_15
  · have h := br_neg c1 h
    refine lv_iload_n hx hb dX1_peel_6 rfl (lv_at hl 3 rfl) ?_
    refine lv_aload_n hx hb dX1_peel_7 rfl (lv_at hl 2 rfl) ?_
    refine va_get (D := D) (ci := 3) (v := .int p1_powers) (C := RX3) (T := TX3) (N := 8) hx hb ha ix3 hown hK hP 1 rfl rfl 6 (by decide) (ha _ q128) (fun _ h9 => h9) rfl dX1_peel_8 ?_
    refine lv_icmp_lt (tgt := 16) hx hb dX1_peel_11 (by decide) (fun c2 => ?_) (fun c2 => ?_)
    · have h := br_pos c2 h
      refine lv_aload_n hx hb dX1_peel_16 rfl (lv_at hl 2 rfl) ?_
      obtain ⟨r_c17_2, e_c17_2, h⟩ := bnd1_ok h
      have hP : va_P D vwCl ((h_p1, .inr (3, [.int p1_a, .int p1_b, .long p1_square, .ref h_p1_powerU, .ref h_p1_powerV, z_p1_5, .int p1_powers, z_p1_7])) :: (h_t, .inr (1, [.long t_u, .long t_v, .long t_d])) :: (h_p1_powerU, .inl (k_p1_powerU, 48, .inr (.inl p1_powerU))) :: (h_p1_powerV, .inl (k_p1_powerV, 48, .inr (.inl p1_powerV))) :: R) _ := pm_P [1, 0, 2, 3] 4 hP
      have hD : va_D A ((h_p1, .inr (3, [.int p1_a, .int p1_b, .long p1_square, .ref h_p1_powerU, .ref h_p1_powerV, z_p1_5, .int p1_powers, z_p1_7])) :: (h_t, .inr (1, [.long t_u, .long t_v, .long t_d])) :: (h_p1_powerU, .inl (k_p1_powerU, 48, .inr (.inl p1_powerU))) :: (h_p1_powerV, .inl (k_p1_powerV, 48, .inr (.inl p1_powerV))) :: R) := pm_D (X := [(h_p1, .inr (3, [.int p1_a, .int p1_b, .long p1_square, .ref h_p1_powerU, .ref h_p1_powerV, z_p1_5, .int p1_powers, z_p1_7])), (h_t, .inr (1, [.long t_u, .long t_v, .long t_d])), (h_p1_powerU, .inl (k_p1_powerU, 48, .inr (.inl p1_powerU))), (h_p1_powerV, .inl (k_p1_powerV, 48, .inr (.inl p1_powerV)))]) [1, 0, 2, 3] 4 (by decide) (by decide) rfl hD
      refine cl_i (rn_v (ci := 3) (As := []) (rest := []) S (c_X3_top l D ((h_t, .inr (1, [.long t_u, .long t_v, .long t_d])) :: (h_p1_powerU, .inl (k_p1_powerU, 48, .inr (.inl p1_powerU))) :: (h_p1_powerV, .inl (k_p1_powerV, 48, .inr (.inl p1_powerV))) :: R) h_p1 p1_a p1_b (.long p1_square) (.ref h_p1_powerU) (.ref h_p1_powerV) (z_p1_5) (.int p1_powers) (z_p1_7) r_c17_2 e_c17_2 _) q585 q112 q113 q50 q114 nd_X3_top ⟨Nat.le_of_ble_eq_true rfl, Nat.le_of_ble_eq_true rfl⟩ rfl rfl hP hD (hK.sub (tys' := []) [] rfl) hN rfl ⟨0, _, rfl⟩ rfl hl.1 rfl (Nat.le_of_ble_eq_true rfl) dX1_peel_17 ⟨Nat.le_of_ble_eq_true rfl, Nat.le_of_ble_eq_true rfl⟩) hS hA hD (fun H locs hP hD hS => ?_)
      have hP : va_P D vwCl ((h_t, .inr (1, [.long t_u, .long t_v, .long t_d])) :: (h_p1, .inr (3, [.int p1_a, .int p1_b, .long p1_square, .ref h_p1_powerU, .ref h_p1_powerV, z_p1_5, .int p1_powers, z_p1_7])) :: (h_p1_powerU, .inl (k_p1_powerU, 48, .inr (.inl p1_powerU))) :: (h_p1_powerV, .inl (k_p1_powerV, 48, .inr (.inl p1_powerV))) :: R) H := pm_P [1, 0, 2, 3] 4 hP
      have hD : va_D A ((h_t, .inr (1, [.long t_u, .long t_v, .long t_d])) :: (h_p1, .inr (3, [.int p1_a, .int p1_b, .long p1_square, .ref h_p1_powerU, .ref h_p1_powerV, z_p1_5, .int p1_powers, z_p1_7])) :: (h_p1_powerU, .inl (k_p1_powerU, 48, .inr (.inl p1_powerU))) :: (h_p1_powerV, .inl (k_p1_powerV, 48, .inr (.inl p1_powerV))) :: R) := pm_D (X := [(h_t, .inr (1, [.long t_u, .long t_v, .long t_d])), (h_p1, .inr (3, [.int p1_a, .int p1_b, .long p1_square, .ref h_p1_powerU, .ref h_p1_powerV, z_p1_5, .int p1_powers, z_p1_7])), (h_p1_powerU, .inl (k_p1_powerU, 48, .inr (.inl p1_powerU))), (h_p1_powerV, .inl (k_p1_powerV, 48, .inr (.inl p1_powerV)))]) [1, 0, 2, 3] 4 (by decide) (by decide) rfl hD
      refine lv_istore (lv' := [(4, .int r_c17_2), (3, .int 0), (0, .ref h_t), (1, .ref h_p1), (2, .int l2)]) hx hb dX1_peel_20 hl (by decide) rfl (fun ls hl => ?_)
      obtain ⟨x3_L22_8, x_t_u_L22_8, x_t_v_L22_8, e_L22_8, h⟩ := bnd3_ok h
      refine L22 _ _ l2 0 r_c17_2 t_u t_v x3_L22_8 x_t_u_L22_8 x_t_v_L22_8 e_L22_8 _ _ _ hP hD hS (lv_sub hl [2, 3, 4, 1, 0] rfl) ?_
      intro H locs ls hP hD hS hl
      refine lv_iload_n hx hb dX1_peel_85 rfl (lv_at hl 0 rfl) ?_
      cases h
      exact rt_i S hr hlk hP hD hS dX1_peel_86
    · have h := br_neg c2 h
      refine lv_iload_n hx hb dX1_peel_14 rfl (lv_at hl 0 rfl) ?_
      cases h
      exact rt_i S hr hlk hP hD hS dX1_peel_15
noncomputable def f_X1_multiplyByX (t_u : Int64) (t_v : Int64) (p1_a : Int32) (p1_b : Int32) : Option (Int64 × Int64) :=
  some ((p1_b.toInt64 * t_v), (t_u + (p1_a.toInt64 * t_v)))
set_option maxHeartbeats 4000000 in
set_option maxRecDepth 100000 in
theorem c_X1_multiplyByX (l : Launch) (D : va_G) (R : va_W) (h_t : Nat) (t_u : Int64) (t_v : Int64) (z_t_2 : Value) (h_p1 : Nat) (p1_a : Int32) (p1_b : Int32) (z_p1_2 : Value) (z_p1_3 : Value) (z_p1_4 : Value) (z_p1_5 : Value) (z_p1_6 : Value) (z_p1_7 : Value) (o_t_u : Int64) (o_t_v : Int64)  (h : f_X1_multiplyByX t_u t_v p1_a p1_b = some (o_t_u, o_t_v)) (sz : Nat) : Met l yX1_multiplyByX (WD yX1_multiplyByX cX1_multiplyByX 4 none) ({ frames := 0, cells := 0, slots := 0, locals := 0 }) (va_Pc [.ref h_t, .ref h_p1] (PcW D [] ((h_t, .inr (1, [.long t_u, .long t_v, z_t_2])) :: (h_p1, .inr (3, [.int p1_a, .int p1_b, z_p1_2, z_p1_3, z_p1_4, z_p1_5, z_p1_6, z_p1_7])) :: R) sz)) (QV D ((h_t, .inr (1, [.long o_t_u, .long o_t_v, z_t_2])) :: (h_p1, .inr (3, [.int p1_a, .int p1_b, z_p1_2, z_p1_3, z_p1_4, z_p1_5, z_p1_6, z_p1_7])) :: R) (va_A ((h_t, .inr (1, [.long t_u, .long t_v, z_t_2])) :: (h_p1, .inr (3, [.int p1_a, .int p1_b, z_p1_2, z_p1_3, z_p1_4, z_p1_5, z_p1_6, z_p1_7])) :: R) sz)) 0 0 (va_A ((h_t, .inr (1, [.long t_u, .long t_v, z_t_2])) :: (h_p1, .inr (3, [.int p1_a, .int p1_b, z_p1_2, z_p1_3, z_p1_4, z_p1_5, z_p1_6, z_p1_7])) :: R) sz) := by
  refine ct_start (QF := fun A => QV D ((h_t, .inr (1, [.long o_t_u, .long o_t_v, z_t_2])) :: (h_p1, .inr (3, [.int p1_a, .int p1_b, z_p1_2, z_p1_3, z_p1_4, z_p1_5, z_p1_6, z_p1_7])) :: R) A) ?_ ?_ ?_
  · decide +kernel
  · exact Nat.le_of_ble_eq_true rfl
  intro p e s m args below meth c A ls S hr hlk hnm hS hA hP hD hK hN hl
  have S : CallFix p m c cX1_multiplyByX 4 s args AL "DigitBench$Rest" := S
  have hx := S.1
  have hb := S.2.1
  have hown := S.2.2.2.1
  have ha := S.2.2.2.2
  have hl : lv_has ls 4 [(0, .ref h_t), (1, .ref h_p1)] := hl
  unfold f_X1_multiplyByX at h
  refine lv_aload_n hx hb dX1_multiplyByX_0 rfl (lv_at hl 0 rfl) ?_
  refine va_get (D := D) (ci := 1) (v := .long t_u) (C := RX1) (T := TX1) (N := 3) hx hb ha ix1 hown hK hP 0 rfl rfl 0 (by decide) (ha _ q190) (fun _ h9 => h9) rfl dX1_multiplyByX_1 ?_
  refine lv_lstore_n (lv' := [(2, .long t_u), (0, .ref h_t), (1, .ref h_p1)]) hx hb dX1_multiplyByX_4 rfl hl (by decide) rfl (fun ls hl => ?_)
  refine lv_aload_n hx hb dX1_multiplyByX_5 rfl (lv_at hl 1 rfl) ?_
  refine lv_aload_n hx hb dX1_multiplyByX_6 rfl (lv_at hl 2 rfl) ?_
  refine va_get (D := D) (ci := 3) (v := .int p1_b) (C := RX3) (T := TX3) (N := 8) hx hb ha ix3 hown hK hP 1 rfl rfl 1 (by decide) (ha _ q119) (fun _ h9 => h9) rfl dX1_multiplyByX_7 ?_
  refine lv_i2l (v := p1_b.toInt64) hx hb dX1_multiplyByX_10 rfl ?_
  refine lv_aload_n hx hb dX1_multiplyByX_11 rfl (lv_at hl 1 rfl) ?_
  refine va_get (D := D) (ci := 1) (v := .long t_v) (C := RX1) (T := TX1) (N := 3) hx hb ha ix1 hown hK hP 0 rfl rfl 1 (by decide) (ha _ q192) (fun _ h9 => h9) rfl dX1_multiplyByX_12 ?_
  refine lv_lmul hx hb dX1_multiplyByX_15 ?_
  refine va_put (D := D) (ci := 1) (v := .long (p1_b.toInt64 * t_v)) (ty := .long) (C := RX1) (T := TX1) (N := 3) hx hb ha ix1 tyX1 tyX1_ok nmX1 hown hK hP hD hS 0 rfl rfl 0 (by decide) (ha _ q190) (fun _ h9 => h9) rfl (by decide +kernel) rfl rfl (Nat.le_of_ble_eq_true rfl) dX1_multiplyByX_16 (fun H locs hP hD hS => ?_)
  have hP : va_P D vwCl ((h_t, .inr (1, [.long (p1_b.toInt64 * t_v), .long t_v, z_t_2])) :: (h_p1, .inr (3, [.int p1_a, .int p1_b, z_p1_2, z_p1_3, z_p1_4, z_p1_5, z_p1_6, z_p1_7])) :: R) H := hP
  have hD : va_D A ((h_t, .inr (1, [.long (p1_b.toInt64 * t_v), .long t_v, z_t_2])) :: (h_p1, .inr (3, [.int p1_a, .int p1_b, z_p1_2, z_p1_3, z_p1_4, z_p1_5, z_p1_6, z_p1_7])) :: R) := hD
  refine lv_aload_n hx hb dX1_multiplyByX_19 rfl (lv_at hl 1 rfl) ?_
  refine lv_lload_n hx hb dX1_multiplyByX_20 rfl (lv_at hl 0 rfl) ?_
  refine lv_aload_n hx hb dX1_multiplyByX_21 rfl (lv_at hl 2 rfl) ?_
  refine va_get (D := D) (ci := 3) (v := .int p1_a) (C := RX3) (T := TX3) (N := 8) hx hb ha ix3 hown hK hP 1 rfl rfl 0 (by decide) (ha _ q116) (fun _ h9 => h9) rfl dX1_multiplyByX_22 ?_
  refine lv_i2l (v := p1_a.toInt64) hx hb dX1_multiplyByX_25 rfl ?_
  refine lv_aload_n hx hb dX1_multiplyByX_26 rfl (lv_at hl 1 rfl) ?_
  refine va_get (D := D) (ci := 1) (v := .long t_v) (C := RX1) (T := TX1) (N := 3) hx hb ha ix1 hown hK hP 0 rfl rfl 1 (by decide) (ha _ q192) (fun _ h9 => h9) rfl dX1_multiplyByX_27 ?_
  refine lv_lmul hx hb dX1_multiplyByX_30 ?_
  refine lv_ladd hx hb dX1_multiplyByX_31 ?_
  refine va_put (D := D) (ci := 1) (v := .long (t_u + (p1_a.toInt64 * t_v))) (ty := .long) (C := RX1) (T := TX1) (N := 3) hx hb ha ix1 tyX1 tyX1_ok nmX1 hown hK hP hD hS 0 rfl rfl 1 (by decide) (ha _ q192) (fun _ h9 => h9) rfl (by decide +kernel) rfl rfl (Nat.le_of_ble_eq_true rfl) dX1_multiplyByX_32 (fun H locs hP hD hS => ?_)
  have hP : va_P D vwCl ((h_t, .inr (1, [.long (p1_b.toInt64 * t_v), .long (t_u + (p1_a.toInt64 * t_v)), z_t_2])) :: (h_p1, .inr (3, [.int p1_a, .int p1_b, z_p1_2, z_p1_3, z_p1_4, z_p1_5, z_p1_6, z_p1_7])) :: R) H := hP
  have hD : va_D A ((h_t, .inr (1, [.long (p1_b.toInt64 * t_v), .long (t_u + (p1_a.toInt64 * t_v)), z_t_2])) :: (h_p1, .inr (3, [.int p1_a, .int p1_b, z_p1_2, z_p1_3, z_p1_4, z_p1_5, z_p1_6, z_p1_7])) :: R) := hD
  cases h
  exact rt_v S hr hlk hP hD hS dX1_multiplyByX_35
