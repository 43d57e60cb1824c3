noncomputable def f_J9_abs_067f4 (l0 : Int64) : Option (Int64) :=
  if 0 ≤ l0 then (
   some l0
  ) else (
   some (-l0)
  )
set_option maxHeartbeats 4000000 in
set_option maxRecDepth 100000 in
theorem c_J9_abs_067f4 (l : Launch) (D : va_G) (R : va_W) (l0 : Int64) (r : Int64)  (h : f_J9_abs_067f4 l0 = some r) (sz : Nat) : Met l yJ9_abs_067f4 (WD yJ9_abs_067f4 cJ9_abs_067f4 2 (some .long)) ({ frames := 0, cells := 0, slots := 0, locals := 0 }) (va_Pc [.long l0] (PcW D [] (R) sz)) (QL D r (R) (va_A (R) sz)) 0 0 (va_A (R) sz) := by
  refine ct_start (QF := fun A => QL D r (R) A) ?_ ?_ ?_
  · decide +kernel
  · exact Nat.le_of_ble_eq_true rfl
  intro p e s m args below meth c A ls S hr hlk hnm hS hA hP hD hK hN hl
  have S : CallFix p m c cJ9_abs_067f4 2 s args AL "java/lang/Math" := S
  have hx := S.1
  have hb := S.2.1
  have hown := S.2.2.2.1
  have ha := S.2.2.2.2
  have hl : lv_has ls 2 [(0, .long l0)] := hl
  unfold f_J9_abs_067f4 at h
  refine lv_lload_n hx hb dJ9_abs_067f4_0 rfl (lv_at hl 0 rfl) ?_
  refine lv_lconst (v := 0) hx hb dJ9_abs_067f4_1 (by decide) ?_
  refine xl_ge (tgt := 11) hx hb dJ9_abs_067f4_2 dJ9_abs_067f4_3 (by decide) (fun c1 => ?_) (fun c1 => ?_)
  · have h := br_pos c1 h
    refine lv_lload_n hx hb dJ9_abs_067f4_11 rfl (lv_at hl 0 rfl) ?_
    cases h
    exact rt_l S hr hlk hP hD hS dJ9_abs_067f4_12
  · have h := br_neg c1 h
    refine lv_lload_n hx hb dJ9_abs_067f4_6 rfl (lv_at hl 0 rfl) ?_
    refine lv_lneg hx hb dJ9_abs_067f4_7 ?_
    refine lv_goto (tgt := 12) hx hb dJ9_abs_067f4_8 (by decide) ?_
    cases h
    exact rt_l S hr hlk hP hD hS dJ9_abs_067f4_12
noncomputable def f_X11_common_L15  : Nat → Int64 → Int64 → Int32 →  Option (Int64)
  | 0, _, _, _ => none
  | n + 1, l4, l6, l8 => (
    if 100 ≤ l8 then (
     some l4
    ) else (
     if l6 = 0 then (
      some l4
     ) else (
      gd (nzL l6) (
       f_X11_common_L15 n l6 (l4 - l4 / l6 * l6) (l8 + 1)
      )
     )
    ))
noncomputable def f_X11_common (l0 : Int64) (l2 : Int64) : Option (Int64) :=
  bnd1 (f_J9_abs_067f4 l0) fun r_c1_0 => (
   bnd1 (f_J9_abs_067f4 l2) fun r_c7_1 => (
    bnd1 (f_X11_common_L15 FU r_c1_0 r_c7_1 0) fun x4_L15_5 => (
     some x4_L15_5
    )
   )
  )
set_option maxHeartbeats 4000000 in
set_option maxRecDepth 100000 in
theorem c_X11_common (l : Launch) (D : va_G) (R : va_W) (l0 : Int64) (l2 : Int64) (r : Int64)  (h : f_X11_common l0 l2 = some r) (sz : Nat) : Met l yX11_common (WD yX11_common cX11_common 11 (some .long)) ({ frames := 1, cells := 0, slots := 0, locals := 21 }) (va_Pc [.long l0, .long l2] (PcW D [] (R) sz)) (QL D r (R) (va_A (R) sz)) 0 0 (va_A (R) sz) := by
  refine ct_start (QF := fun A => QL D r (R) A) ?_ ?_ ?_
  · decide +kernel
  · exact Nat.le_of_ble_eq_true rfl
  intro p e s m args below meth c A ls S hr hlk hnm hS hA hP hD hK hN hl
  have S : CallFix p m c cX11_common 11 s args AL "DigitBench" := S
  have hx := S.1
  have hb := S.2.1
  have hown := S.2.2.2.1
  have ha := S.2.2.2.2
  have hl : lv_has ls 11 [(0, .long l0), (2, .long l2)] := hl
  have L15 : ∀ (Q : State → Prop) (n : Nat) (l4 : Int64) (l6 : Int64) (l8 : Int32)  (x4 : Int64), f_X11_common_L15 n l4 l6 l8 = some x4 → ∀ (H : Heap) (locs : List Loc) (ls : Array Slot), va_P D vwCl (R) H → va_D A (R) → va_S A s.heap H locs → lv_has ls 11 [(4, .long l4), (6, .long l6), (8, .int l8)] → (∀ (H : Heap) (locs : List Loc) (ls : Array Slot), va_P D vwCl (R) H → va_D A (R) → va_S A s.heap H locs → lv_has ls 11 [(4, .long x4)] → W p l e { frames := 1, cells := 0, slots := 0, locals := 21 } s m args below meth c H locs 0 0 Q (F0 m 50 ls [])) → W p l e { frames := 1, cells := 0, slots := 0, locals := 21 } s m args below meth c H locs 0 0 Q (F0 m 15 ls []) := by
    intro Q n
    induction n with
    | zero =>
      intro l4 l6 l8 x4 h
      rw [f_X11_common_L15] at h; cases h
    | succ n ih =>
      intro l4 l6 l8 x4 h H locs ls hP hD hS hl kk0
      rw [f_X11_common_L15] at h
      refine lv_iload hx hb dX11_common_15 (lv_at hl 2 rfl) ?_
      refine lv_bipush (v := 100) hx hb dX11_common_17 (by decide) ?_
      refine lv_icmp_ge (tgt := 50) hx hb dX11_common_19 (by decide) (fun c3 => ?_) (fun c3 => ?_)
      · have h := br_pos c3 h
        cases h
        exact kk0 _ _ _ hP hD hS (lv_sub hl [0] rfl)
      · have h := br_neg c3 h
        refine lv_lload hx hb dX11_common_22 (lv_at hl 1 rfl) ?_
        refine lv_lconst (v := 0) hx hb dX11_common_24 (by decide) ?_
        refine xl_eq (tgt := 50) hx hb dX11_common_25 dX11_common_26 (by decide) (fun c4 => ?_) (fun c4 => ?_)
        · have h := br_pos c4 h
          cases h
          exact kk0 _ _ _ hP hD hS (lv_sub hl [0] rfl)
        · have h := br_neg c4 h
          refine lv_lload hx hb dX11_common_29 (lv_at hl 0 rfl) ?_
          refine lv_lload hx hb dX11_common_31 (lv_at hl 1 rfl) ?_
          obtain ⟨n5, h⟩ := nzL_ok h
          refine lv_lrem hx hb dX11_common_33 n5 ?_
          refine lv_lstore (lv' := [(9, .long (l4 - l4 / l6 * l6)), (4, .long l4), (6, .long l6), (8, .int l8)]) hx hb dX11_common_34 hl (by decide) rfl (fun ls hl => ?_)
          refine lv_lload hx hb dX11_common_36 (lv_at hl 2 rfl) ?_
          refine lv_lstore (lv' := [(4, .long l6), (9, .long (l4 - l4 / l6 * l6)), (6, .long l6), (8, .int l8)]) hx hb dX11_common_38 hl (by decide) rfl (fun ls hl => ?_)
          refine lv_lload hx hb dX11_common_40 (lv_at hl 1 rfl) ?_
          refine lv_lstore (lv' := [(6, .long (l4 - l4 / l6 * l6)), (4, .long l6), (9, .long (l4 - l4 / l6 * l6)), (8, .int l8)]) hx hb dX11_common_42 hl (by decide) rfl (fun ls hl => ?_)
          refine lv_iinc (v := (l8 + 1)) (lv' := [(8, .int (l8 + 1)), (6, .long (l4 - l4 / l6 * l6)), (4, .long l6), (9, .long (l4 - l4 / l6 * l6))]) hx hb dX11_common_44 hl (k := 3) rfl rfl (by decide) rfl (fun ls hl => ?_)
          refine lv_goto (tgt := 15) hx hb dX11_common_47 (by decide) ?_
          exact ih l6 (l4 - l4 / l6 * l6) (l8 + 1) _ h _ _ _ hP hD hS (lv_sub hl [2, 1, 0] rfl) kk0
  unfold f_X11_common at h
  refine lv_lload_n hx hb dX11_common_0 rfl (lv_at hl 0 rfl) ?_
  obtain ⟨r_c1_0, e_c1_0, h⟩ := bnd1_ok h
  refine cl_l (rn_s (As := [.long l0]) (rest := []) S (c_J9_abs_067f4 l D (R) l0 r_c1_0 e_c1_0 _) q518 q329 q58 q330 nd_J9_abs_067f4 ⟨Nat.le_of_ble_eq_true rfl, Nat.le_of_ble_eq_true rfl⟩ rfl rfl hP hD (hK.sub (tys' := []) [] rfl) hN rfl hl.1 rfl (Nat.le_of_ble_eq_true rfl) dX11_common_1 ⟨Nat.le_of_ble_eq_true rfl, Nat.le_of_ble_eq_true rfl⟩) hS hA hD (fun H locs hP hD hS => ?_)
  have hP : va_P D vwCl (R) H := hP
  have hD : va_D A (R) := hD
  refine lv_lstore (lv' := [(4, .long r_c1_0), (0, .long l0), (2, .long l2)]) hx hb dX11_common_4 hl (by decide) rfl (fun ls hl => ?_)
  refine lv_lload_n hx hb dX11_common_6 rfl (lv_at hl 2 rfl) ?_
  obtain ⟨r_c7_1, e_c7_1, h⟩ := bnd1_ok h
  refine cl_l (rn_s (As := [.long l2]) (rest := []) S (c_J9_abs_067f4 l D (R) l2 r_c7_1 e_c7_1 _) q518 q329 q58 q330 nd_J9_abs_067f4 ⟨Nat.le_of_ble_eq_true rfl, Nat.le_of_ble_eq_true rfl⟩ rfl rfl hP hD (hK.sub (tys' := []) [] rfl) hN rfl hl.1 rfl (Nat.le_of_ble_eq_true rfl) dX11_common_7 ⟨Nat.le_of_ble_eq_true rfl, Nat.le_of_ble_eq_true rfl⟩) hS hA hD (fun H locs hP hD hS => ?_)
  have hP : va_P D vwCl (R) H := hP
  have hD : va_D A (R) := hD
  refine lv_lstore (lv' := [(6, .long r_c7_1), (4, .long r_c1_0), (0, .long l0), (2, .long l2)]) hx hb dX11_common_10 hl (by decide) rfl (fun ls hl => ?_)
  refine lv_iconst (v := 0) hx hb dX11_common_12 (by decide) ?_
  refine lv_istore (lv' := [(8, .int 0), (6, .long r_c7_1), (4, .long r_c1_0), (0, .long l0), (2, .long l2)]) hx hb dX11_common_13 hl (by decide) rfl (fun ls hl => ?_)
  obtain ⟨x4_L15_5, e_L15_5, h⟩ := bnd1_ok h
  refine L15 _ _ r_c1_0 r_c7_1 0 x4_L15_5 e_L15_5 _ _ _ hP hD hS (lv_sub hl [2, 1, 0] rfl) ?_
  intro H locs ls hP hD hS hl
  refine lv_lload hx hb dX11_common_50 (lv_at hl 0 rfl) ?_
  cases h
  exact rt_l S hr hlk hP hD hS dX11_common_52
noncomputable def f_X11_isBeyond (l0 : Int64) (l2 : Int64) : Option (Int32) :=
  if l0 < (-l2) then (
   some 1
  ) else (
   if l0 ≤ l2 then (
    some 0
   ) else (
    some 1
   )
  )
set_option maxHeartbeats 4000000 in
set_option maxRecDepth 100000 in
theorem c_X11_isBeyond (l : Launch) (D : va_G) (R : va_W) (l0 : Int64) (l2 : Int64) (r : Int32)  (h : f_X11_isBeyond l0 l2 = some r) (sz : Nat) : Met l yX11_isBeyond (WD yX11_isBeyond cX11_isBeyond 4 (some .boolean)) ({ frames := 0, cells := 0, slots := 0, locals := 0 }) (va_Pc [.long l0, .long l2] (PcW D [] (R) sz)) (QZ D r (R) (va_A (R) sz)) 0 0 (va_A (R) sz) := by
  refine ct_start (QF := fun A => QZ D r (R) A) ?_ ?_ ?_
  · decide +kernel
  · exact Nat.le_of_ble_eq_true rfl
  intro p e s m args below meth c A ls S hr hlk hnm hS hA hP hD hK hN hl
  have S : CallFix p m c cX11_isBeyond 4 s args AL "DigitBench" := S
  have hx := S.1
  have hb := S.2.1
  have hown := S.2.2.2.1
  have ha := S.2.2.2.2
  have hl : lv_has ls 4 [(0, .long l0), (2, .long l2)] := hl
  unfold f_X11_isBeyond at h
  refine lv_lload_n hx hb dX11_isBeyond_0 rfl (lv_at hl 0 rfl) ?_
  refine lv_lload_n hx hb dX11_isBeyond_1 rfl (lv_at hl 1 rfl) ?_
  refine lv_lneg hx hb dX11_isBeyond_2 ?_
  refine xl_lt (tgt := 13) hx hb dX11_isBeyond_3 dX11_isBeyond_4 (by decide) (fun c1 => ?_) (fun c1 => ?_)
  · have h := br_pos c1 h
    refine lv_iconst (v := 1) hx hb dX11_isBeyond_13 (by decide) ?_
    refine lv_goto (tgt := 18) hx hb dX11_isBeyond_14 (by decide) ?_
    cases h
    exact rt_z S hr hlk hP hD hS (by decide) dX11_isBeyond_18
  · have h := br_neg c1 h
    refine lv_lload_n hx hb dX11_isBeyond_7 rfl (lv_at hl 0 rfl) ?_
    refine lv_lload_n hx hb dX11_isBeyond_8 rfl (lv_at hl 1 rfl) ?_
    refine xl_le (tgt := 17) hx hb dX11_isBeyond_9 dX11_isBeyond_10 (by decide) (fun c2 => ?_) (fun c2 => ?_)
    · have h := br_pos c2 h
      refine lv_iconst (v := 0) hx hb dX11_isBeyond_17 (by decide) ?_
      cases h
      exact rt_z S hr hlk hP hD hS (by decide) dX11_isBeyond_18
    · have h := br_neg c2 h
      refine lv_iconst (v := 1) hx hb dX11_isBeyond_13 (by decide) ?_
      refine lv_goto (tgt := 18) hx hb dX11_isBeyond_14 (by decide) ?_
      cases h
      exact rt_z S hr hlk hP hD hS (by decide) dX11_isBeyond_18
noncomputable def f_X0_take (nt : Nat → Int32) (nu : Nat → Int64) (nv : Nat → Int64) (nd : Nat → Int64) (a_t : Nat) (l1 : Int64) (l3 : Int64) (l5 : Int64) : Option (Int32 × (Nat → Int32) × (Nat → Int64) × (Nat → Int64) × (Nat → Int64)) :=
  if 0 < l5 then (
   bnd1 (f_X11_common l1 l3) fun r_c11_1 => (
    bnd1 (f_X11_common r_c11_1 l5) fun r_c16_2 => (
     if 0 < r_c16_2 then (
      gd (nzL r_c16_2) (
       gd (nzL r_c16_2) (
        gd (nzL r_c16_2) (
         bnd1 (f_X11_isBeyond (l1 / r_c16_2) 65536) fun r_c54_7 => (
          if r_c54_7 = 0 then (
           bnd1 (f_X11_isBeyond (l3 / r_c16_2) 65536) fun r_c65_9 => (
            if r_c65_9 = 0 then (
             if (l5 / r_c16_2) ≤ 1000 then (
              some (1, (upd nt a_t 1), (vp_updL nu a_t (l1 / r_c16_2)), (vp_updL nv a_t (l3 / r_c16_2)), (vp_updL nd a_t (l5 / r_c16_2)))
             ) else (
              some (0, nt, nu, nv, nd)
             )
            ) else (
             some (0, nt, nu, nv, nd)
            )
           )
          ) else (
           some (0, nt, nu, nv, nd)
          )
         )
        )
       )
      )
     ) else (
      some (0, nt, nu, nv, nd)
     )
    )
   )
  ) else (
   some (0, nt, nu, nv, nd)
  )
set_option maxHeartbeats 4000000 in
set_option maxRecDepth 100000 in
theorem c_X0_take (l : Launch) (D : va_G) (R : va_W) (NL : List Nat) (nt : Nat → Int32) (nu : Nat → Int64) (nv : Nat → Int64) (nd : Nat → Int64) (a_t : Nat) (l1 : Int64) (l3 : Int64) (l5 : Int64) (r : Int32) (o_nt : Nat → Int32) (o_nu : Nat → Int64) (o_nv : Nat → Int64) (o_nd : Nat → Int64) (hm_t : a_t ∈ NL) (h : f_X0_take nt nu nv nd a_t l1 l3 l5 = some (r, o_nt, o_nu, o_nv, o_nd)) (sz : Nat) : Met l yX0_take (WD yX0_take cX0_take 15 (some .boolean)) ({ frames := 2, cells := 0, slots := 0, locals := 51 }) (va_Pc [.ref a_t, .long l1, .long l3, .long l5] (PcW D [] ((R ++ va_pl NL (nmE nt nu nv nd))) sz)) (QZ D r ((R ++ va_pl NL (nmE o_nt o_nu o_nv o_nd))) (va_A ((R ++ va_pl NL (nmE nt nu nv nd))) sz)) 0 0 (va_A ((R ++ va_pl NL (nmE nt nu nv nd))) sz) := by
  refine ct_start (QF := fun A => QZ D r ((R ++ va_pl NL (nmE o_nt o_nu o_nv o_nd))) A) ?_ ?_ ?_
  · decide +kernel
  · exact Nat.le_of_ble_eq_true rfl
  intro p e s m args below meth c A ls S hr hlk hnm hS hA hP hD hK hN hl
  have S : CallFix p m c cX0_take 15 s args AL "DigitBench$Num" := S
  have hx := S.1
  have hb := S.2.1
  have hown := S.2.2.2.1
  have ha := S.2.2.2.2
  have hl : lv_has ls 15 [(0, .ref a_t), (1, .long l1), (3, .long l3), (5, .long l5)] := hl
  unfold f_X0_take at h
  refine lv_lload hx hb dX0_take_0 (lv_at hl 3 rfl) ?_
  refine lv_lconst (v := 0) hx hb dX0_take_2 (by decide) ?_
  refine xl_gt (tgt := 9) hx hb dX0_take_3 dX0_take_4 (by decide) (fun c1 => ?_) (fun c1 => ?_)
  · have h := br_pos c1 h
    refine lv_lload_n hx hb dX0_take_9 rfl (lv_at hl 1 rfl) ?_
    refine lv_lload_n hx hb dX0_take_10 rfl (lv_at hl 2 rfl) ?_
    obtain ⟨r_c11_1, e_c11_1, h⟩ := bnd1_ok h
    refine cl_l (rn_sn (As := [.long l1, .long l3]) (rest := []) S (c_X11_common l D ((R ++ va_pl NL (nmE nt nu nv nd))) l1 l3 r_c11_1 e_c11_1 _) (hN.n11) q516 q48 q517 nd_X11_common ⟨Nat.le_of_ble_eq_true rfl, Nat.le_of_ble_eq_true rfl⟩ rfl rfl hP hD (hK.sub (tys' := []) [] rfl) hN rfl hl.1 rfl (Nat.le_of_ble_eq_true rfl) dX0_take_11 ⟨Nat.le_of_ble_eq_true rfl, Nat.le_of_ble_eq_true rfl⟩) hS hA hD (fun H locs hP hD hS => ?_)
    have hP : va_P D vwCl ((R ++ va_pl NL (nmE nt nu nv nd))) H := hP
    have hD : va_D A ((R ++ va_pl NL (nmE nt nu nv nd))) := hD
    refine lv_lload hx hb dX0_take_14 (lv_at hl 3 rfl) ?_
    obtain ⟨r_c16_2, e_c16_2, h⟩ := bnd1_ok h
    refine cl_l (rn_sn (As := [.long r_c11_1, .long l5]) (rest := []) S (c_X11_common l D ((R ++ va_pl NL (nmE nt nu nv nd))) r_c11_1 l5 r_c16_2 e_c16_2 _) (hN.n11) q516 q48 q517 nd_X11_common ⟨Nat.le_of_ble_eq_true rfl, Nat.le_of_ble_eq_true rfl⟩ rfl rfl hP hD (hK.sub (tys' := []) [] rfl) hN rfl hl.1 rfl (Nat.le_of_ble_eq_true rfl) dX0_take_16 ⟨Nat.le_of_ble_eq_true rfl, Nat.le_of_ble_eq_true rfl⟩) hS hA hD (fun H locs hP hD hS => ?_)
    have hP : va_P D vwCl ((R ++ va_pl NL (nmE nt nu nv nd))) H := hP
    have hD : va_D A ((R ++ va_pl NL (nmE nt nu nv nd))) := hD
    refine lv_lstore (lv' := [(7, .long r_c16_2), (0, .ref a_t), (1, .long l1), (3, .long l3), (5, .long l5)]) hx hb dX0_take_19 hl (by decide) rfl (fun ls hl => ?_)
    refine lv_lload hx hb dX0_take_21 (lv_at hl 0 rfl) ?_
    refine lv_lconst (v := 0) hx hb dX0_take_23 (by decide) ?_
    refine xl_gt (tgt := 30) hx hb dX0_take_24 dX0_take_25 (by decide) (fun c4 => ?_) (fun c4 => ?_)
    · have h := br_pos c4 h
      refine lv_lload_n hx hb dX0_take_30 rfl (lv_at hl 2 rfl) ?_
      refine lv_lload hx hb dX0_take_31 (lv_at hl 0 rfl) ?_
      obtain ⟨n5, h⟩ := nzL_ok h
      refine lv_ldiv hx hb dX0_take_33 n5 ?_
      refine lv_lstore (lv' := [(9, .long (l1 / r_c16_2)), (7, .long r_c16_2), (0, .ref a_t), (1, .long l1), (3, .long l3), (5, .long l5)]) hx hb dX0_take_34 hl (by decide) rfl (fun ls hl => ?_)
      refine lv_lload_n hx hb dX0_take_36 rfl (lv_at hl 4 rfl) ?_
      refine lv_lload hx hb dX0_take_37 (lv_at hl 1 rfl) ?_
      obtain ⟨n6, h⟩ := nzL_ok h
      refine lv_ldiv hx hb dX0_take_39 n6 ?_
      refine lv_lstore (lv' := [(11, .long (l3 / r_c16_2)), (9, .long (l1 / r_c16_2)), (7, .long r_c16_2), (0, .ref a_t), (1, .long l1), (3, .long l3), (5, .long l5)]) hx hb dX0_take_40 hl (by decide) rfl (fun ls hl => ?_)
      refine lv_lload hx hb dX0_take_42 (lv_at hl 6 rfl) ?_
      refine lv_lload hx hb dX0_take_44 (lv_at hl 2 rfl) ?_
      obtain ⟨n7, h⟩ := nzL_ok h
      refine lv_ldiv hx hb dX0_take_46 n7 ?_
      refine lv_lstore (lv' := [(13, .long (l5 / r_c16_2)), (11, .long (l3 / r_c16_2)), (9, .long (l1 / r_c16_2)), (7, .long r_c16_2), (0, .ref a_t), (1, .long l1), (3, .long l3), (5, .long l5)]) hx hb dX0_take_47 hl (by decide) rfl (fun ls hl => ?_)
      refine lv_lload hx hb dX0_take_49 (lv_at hl 2 rfl) ?_
      refine lv_ldc2 (v := 65536) hx hb hown (ha _ q519) dX0_take_51 ?_
      obtain ⟨r_c54_7, e_c54_7, h⟩ := bnd1_ok h
      refine cl_z (rn_sn (As := [.long (l1 / r_c16_2), .long 65536]) (rest := []) S (c_X11_isBeyond l D ((R ++ va_pl NL (nmE nt nu nv nd))) (l1 / r_c16_2) 65536 r_c54_7 e_c54_7 _) (hN.n12) q322 q48 q323 nd_X11_isBeyond ⟨Nat.le_of_ble_eq_true rfl, Nat.le_of_ble_eq_true rfl⟩ rfl rfl hP hD (hK.sub (tys' := []) [] rfl) hN rfl hl.1 rfl (Nat.le_of_ble_eq_true rfl) dX0_take_54 ⟨Nat.le_of_ble_eq_true rfl, Nat.le_of_ble_eq_true rfl⟩) hS hA hD (fun H locs hP hD hS z_c54_7 => ?_)
      have hP : va_P D vwCl ((R ++ va_pl NL (nmE nt nu nv nd))) H := hP
      have hD : va_D A ((R ++ va_pl NL (nmE nt nu nv nd))) := hD
      refine lv_if_ne (tgt := 80) hx hb dX0_take_57 (by decide) (fun c9 => ?_) (fun c9 => ?_)
      · have h := br_neg c9 h
        refine lv_iconst (v := 0) hx hb dX0_take_80 (by decide) ?_
        cases h
        exact rt_z S hr hlk hP hD hS (by decide) dX0_take_81
      · have h := br_pos c9 h
        refine lv_lload hx hb dX0_take_60 (lv_at hl 1 rfl) ?_
        refine lv_ldc2 (v := 65536) hx hb hown (ha _ q519) dX0_take_62 ?_
        obtain ⟨r_c65_9, e_c65_9, h⟩ := bnd1_ok h
        refine cl_z (rn_sn (As := [.long (l3 / r_c16_2), .long 65536]) (rest := []) S (c_X11_isBeyond l D ((R ++ va_pl NL (nmE nt nu nv nd))) (l3 / r_c16_2) 65536 r_c65_9 e_c65_9 _) (hN.n12) q322 q48 q323 nd_X11_isBeyond ⟨Nat.le_of_ble_eq_true rfl, Nat.le_of_ble_eq_true rfl⟩ rfl rfl hP hD (hK.sub (tys' := []) [] rfl) hN rfl hl.1 rfl (Nat.le_of_ble_eq_true rfl) dX0_take_65 ⟨Nat.le_of_ble_eq_true rfl, Nat.le_of_ble_eq_true rfl⟩) hS hA hD (fun H locs hP hD hS z_c65_9 => ?_)
        have hP : va_P D vwCl ((R ++ va_pl NL (nmE nt nu nv nd))) H := hP
        have hD : va_D A ((R ++ va_pl NL (nmE nt nu nv nd))) := hD
        refine lv_if_ne (tgt := 80) hx hb dX0_take_68 (by decide) (fun c11 => ?_) (fun c11 => ?_)
        · have h := br_neg c11 h
          refine lv_iconst (v := 0) hx hb dX0_take_80 (by decide) ?_
          cases h
          exact rt_z S hr hlk hP hD hS (by decide) dX0_take_81
        · have h := br_pos c11 h
          refine lv_lload hx hb dX0_take_71 (lv_at hl 0 rfl) ?_
          refine lv_ldc2 (v := 1000) hx hb hown (ha _ q521) dX0_take_73 ?_
          refine xl_le (tgt := 82) hx hb dX0_take_76 dX0_take_77 (by decide) (fun c12 => ?_) (fun c12 => ?_)
          · have h := br_pos c12 h
            refine lv_aload_n hx hb dX0_take_82 rfl (lv_at hl 4 rfl) ?_
            refine lv_lload hx hb dX0_take_83 (lv_at hl 2 rfl) ?_
            refine xp_nu S hK (Y := (R)) hP hD hS hm_t (ha _ q158) dX0_take_85 (fun H locs hP hD hS => ?_)
            have hP : va_P D vwCl ((R ++ va_pl NL (nmE nt (vp_updL nu a_t (l1 / r_c16_2)) nv nd))) H := hP
            have hD : va_D A ((R ++ va_pl NL (nmE nt (vp_updL nu a_t (l1 / r_c16_2)) nv nd))) := hD
            refine lv_aload_n hx hb dX0_take_88 rfl (lv_at hl 4 rfl) ?_
            refine lv_lload hx hb dX0_take_89 (lv_at hl 1 rfl) ?_
            refine xp_nv S hK (Y := (R)) hP hD hS hm_t (ha _ q164) dX0_take_91 (fun H locs hP hD hS => ?_)
            have hP : va_P D vwCl ((R ++ va_pl NL (nmE nt (vp_updL nu a_t (l1 / r_c16_2)) (vp_updL nv a_t (l3 / r_c16_2)) nd))) H := hP
            have hD : va_D A ((R ++ va_pl NL (nmE nt (vp_updL nu a_t (l1 / r_c16_2)) (vp_updL nv a_t (l3 / r_c16_2)) nd))) := hD
            refine lv_aload_n hx hb dX0_take_94 rfl (lv_at hl 4 rfl) ?_
            refine lv_lload hx hb dX0_take_95 (lv_at hl 0 rfl) ?_
            refine xp_nd S hK (Y := (R)) hP hD hS hm_t (ha _ q169) dX0_take_97 (fun H locs hP hD hS => ?_)
            have hP : va_P D vwCl ((R ++ va_pl NL (nmE nt (vp_updL nu a_t (l1 / r_c16_2)) (vp_updL nv a_t (l3 / r_c16_2)) (vp_updL nd a_t (l5 / r_c16_2))))) H := hP
            have hD : va_D A ((R ++ va_pl NL (nmE nt (vp_updL nu a_t (l1 / r_c16_2)) (vp_updL nv a_t (l3 / r_c16_2)) (vp_updL nd a_t (l5 / r_c16_2))))) := hD
            refine lv_aload_n hx hb dX0_take_100 rfl (lv_at hl 4 rfl) ?_
            refine lv_iconst (v := 1) hx hb dX0_take_101 (by decide) ?_
            refine xp_nt S hK (Y := (R)) hP hD hS hm_t (by decide +kernel) (ha _ q155) dX0_take_102 (fun H locs hP hD hS => ?_)
            have hP : va_P D vwCl ((R ++ va_pl NL (nmE (upd nt a_t 1) (vp_updL nu a_t (l1 / r_c16_2)) (vp_updL nv a_t (l3 / r_c16_2)) (vp_updL nd a_t (l5 / r_c16_2))))) H := hP
            have hD : va_D A ((R ++ va_pl NL (nmE (upd nt a_t 1) (vp_updL nu a_t (l1 / r_c16_2)) (vp_updL nv a_t (l3 / r_c16_2)) (vp_updL nd a_t (l5 / r_c16_2))))) := hD
            refine lv_iconst (v := 1) hx hb dX0_take_105 (by decide) ?_
            cases h
            exact rt_z S hr hlk hP hD hS (by decide) dX0_take_106
          · have h := br_neg c12 h
            refine lv_iconst (v := 0) hx hb dX0_take_80 (by decide) ?_
            cases h
            exact rt_z S hr hlk hP hD hS (by decide) dX0_take_81
    · have h := br_neg c4 h
      refine lv_iconst (v := 0) hx hb dX0_take_28 (by decide) ?_
      cases h
      exact rt_z S hr hlk hP hD hS (by decide) dX0_take_29
  · have h := br_neg c1 h
    refine lv_iconst (v := 0) hx hb dX0_take_7 (by decide) ?_
    cases h
    exact rt_z S hr hlk hP hD hS (by decide) dX0_take_8
noncomputable def f_X0_copy (nt : Nat → Int32) (nu : Nat → Int64) (nv : Nat → Int64) (nd : Nat → Int64) (a_t : Nat) (l1 : Nat) : Option (Int32 × (Nat → Int32) × (Nat → Int64) × (Nat → Int64) × (Nat → Int64)) :=
  bnd5 (f_X0_take nt nu nv nd a_t (nu l1) (nv l1) (nd l1)) fun r_c13_0 nt_c13_0 nu_c13_0 nv_c13_0 nd_c13_0 => (
   some (r_c13_0, nt_c13_0, nu_c13_0, nv_c13_0, nd_c13_0)
  )
set_option maxHeartbeats 4000000 in
set_option maxRecDepth 100000 in
theorem c_X0_copy (l : Launch) (D : va_G) (R : va_W) (NL : List Nat) (nt : Nat → Int32) (nu : Nat → Int64) (nv : Nat → Int64) (nd : Nat → Int64) (a_t : Nat) (l1 : Nat) (r : Int32) (o_nt : Nat → Int32) (o_nu : Nat → Int64) (o_nv : Nat → Int64) (o_nd : Nat → Int64) (hm_t : a_t ∈ NL) (hm_1 : l1 ∈ NL) (h : f_X0_copy nt nu nv nd a_t l1 = some (r, o_nt, o_nu, o_nv, o_nd)) (sz : Nat) : Met l yX0_copy (WD yX0_copy cX0_copy 2 (some .boolean)) ({ frames := 3, cells := 0, slots := 0, locals := 85 }) (va_Pc [.ref a_t, .ref l1] (PcW D [] ((R ++ va_pl NL (nmE nt nu nv nd))) sz)) (QZ D r ((R ++ va_pl NL (nmE o_nt o_nu o_nv o_nd))) (va_A ((R ++ va_pl NL (nmE nt nu nv nd))) sz)) 0 0 (va_A ((R ++ va_pl NL (nmE nt nu nv nd))) sz) := by
  refine ct_start (QF := fun A => QZ D r ((R ++ va_pl NL (nmE o_nt o_nu o_nv o_nd))) A) ?_ ?_ ?_
  · decide +kernel
  · exact Nat.le_of_ble_eq_true rfl
  intro p e s m args below meth c A ls S hr hlk hnm hS hA hP hD hK hN hl
  have S : CallFix p m c cX0_copy 2 s args AL "DigitBench$Num" := S
  have hx := S.1
  have hb := S.2.1
  have hown := S.2.2.2.1
  have ha := S.2.2.2.2
  have hl : lv_has ls 2 [(0, .ref a_t), (1, .ref l1)] := hl
  unfold f_X0_copy at h
  refine lv_aload_n hx hb dX0_copy_0 rfl (lv_at hl 0 rfl) ?_
  refine lv_aload_n hx hb dX0_copy_1 rfl (lv_at hl 1 rfl) ?_
  refine xg_num (v := .long (nu l1)) S hK (Y := (R)) hP hm_1 1 (by decide) (ha _ q158) rfl dX0_copy_2 ?_
  refine lv_aload_n hx hb dX0_copy_5 rfl (lv_at hl 1 rfl) ?_
  refine xg_num (v := .long (nv l1)) S hK (Y := (R)) hP hm_1 2 (by decide) (ha _ q164) rfl dX0_copy_6 ?_
  refine lv_aload_n hx hb dX0_copy_9 rfl (lv_at hl 1 rfl) ?_
  refine xg_num (v := .long (nd l1)) S hK (Y := (R)) hP hm_1 3 (by decide) (ha _ q169) rfl dX0_copy_10 ?_
  obtain ⟨r_c13_0, nt_c13_0, nu_c13_0, nv_c13_0, nd_c13_0, e_c13_0, h⟩ := bnd5_ok h
  refine cl_z (rn_v (ci := 0) (As := [.long (nu l1), .long (nv l1), .long (nd l1)]) (rest := []) S (c_X0_take l D (R) NL nt nu nv nd a_t (nu l1) (nv l1) (nd l1) r_c13_0 nt_c13_0 nu_c13_0 nv_c13_0 nd_c13_0 hm_t e_c13_0 _) q672 q512 q513 q51 q514 nd_X0_take ⟨Nat.le_of_ble_eq_true rfl, Nat.le_of_ble_eq_true rfl⟩ rfl rfl hP hD (hK.sub (tys' := []) [] rfl) hN rfl (rc_num (Y := (R)) hm_t) rfl hl.1 rfl (Nat.le_of_ble_eq_true rfl) dX0_copy_13 ⟨Nat.le_of_ble_eq_true rfl, Nat.le_of_ble_eq_true rfl⟩) hS hA hD (fun H locs hP hD hS z_c13_0 => ?_)
  have hP : va_P D vwCl ((R ++ va_pl NL (nmE nt_c13_0 nu_c13_0 nv_c13_0 nd_c13_0))) H := hP
  have hD : va_D A ((R ++ va_pl NL (nmE nt_c13_0 nu_c13_0 nv_c13_0 nd_c13_0))) := hD
  cases h
  exact rt_z S hr hlk hP hD hS z_c13_0 dX0_copy_16
noncomputable def f_X11_isSlot (l0 : Int32) : Option (Int32) :=
  if l0 < 0 then (
   some 0
  ) else (
   if 10 ≤ l0 then (
    some 0
   ) else (
    some 1
   )
  )
set_option maxHeartbeats 4000000 in
set_option maxRecDepth 100000 in
theorem c_X11_isSlot (l : Launch) (D : va_G) (R : va_W) (l0 : Int32) (r : Int32)  (h : f_X11_isSlot l0 = some r) (sz : Nat) : Met l yX11_isSlot (WD yX11_isSlot cX11_isSlot 1 (some .boolean)) ({ frames := 0, cells := 0, slots := 0, locals := 0 }) (va_Pc [.int l0] (PcW D [] (R) sz)) (QZ D r (R) (va_A (R) sz)) 0 0 (va_A (R) sz) := by
  refine ct_start (QF := fun A => QZ D r (R) A) ?_ ?_ ?_
  · decide +kernel
  · exact Nat.le_of_ble_eq_true rfl
  intro p e s m args below meth c A ls S hr hlk hnm hS hA hP hD hK hN hl
  have S : CallFix p m c cX11_isSlot 1 s args AL "DigitBench" := S
  have hx := S.1
  have hb := S.2.1
  have hown := S.2.2.2.1
  have ha := S.2.2.2.2
  have hl : lv_has ls 1 [(0, .int l0)] := hl
  unfold f_X11_isSlot at h
  refine lv_iload_n hx hb dX11_isSlot_0 rfl (lv_at hl 0 rfl) ?_
  refine lv_if_lt (tgt := 14) hx hb dX11_isSlot_1 (by decide) (fun c1 => ?_) (fun c1 => ?_)
  · have h := br_pos c1 h
    refine lv_iconst (v := 0) hx hb dX11_isSlot_14 (by decide) ?_
    cases h
    exact rt_z S hr hlk hP hD hS (by decide) dX11_isSlot_15
  · have h := br_neg c1 h
    refine lv_iload_n hx hb dX11_isSlot_4 rfl (lv_at hl 0 rfl) ?_
    refine lv_bipush (v := 10) hx hb dX11_isSlot_5 (by decide) ?_
    refine lv_icmp_ge (tgt := 14) hx hb dX11_isSlot_7 (by decide) (fun c2 => ?_) (fun c2 => ?_)
    · have h := br_pos c2 h
      refine lv_iconst (v := 0) hx hb dX11_isSlot_14 (by decide) ?_
      cases h
      exact rt_z S hr hlk hP hD hS (by decide) dX11_isSlot_15
    · have h := br_neg c2 h
      refine lv_iconst (v := 1) hx hb dX11_isSlot_10 (by decide) ?_
      refine lv_goto (tgt := 15) hx hb dX11_isSlot_11 (by decide) ?_
      cases h
      exact rt_z S hr hlk hP hD hS (by decide) dX11_isSlot_15
noncomputable def f_J9_floorDiv_f86c9 (l0 : Int64) (l2 : Int64) : Option (Int64) :=
  gd (nzL l2) (
   if 0 ≤ (l0 ^^^ l2) then (
    some (l0 / l2)
   ) else (
    if ((l0 / l2) * l2) = l0 then (
     some (l0 / l2)
    ) else (
     some ((l0 / l2) - 1)
    )
   )
  )
set_option maxHeartbeats 4000000 in
set_option maxRecDepth 100000 in
theorem c_J9_floorDiv_f86c9 (l : Launch) (D : va_G) (R : va_W) (l0 : Int64) (l2 : Int64) (r : Int64)  (h : f_J9_floorDiv_f86c9 l0 l2 = some r) (sz : Nat) : Met l yJ9_floorDiv_f86c9 (WD yJ9_floorDiv_f86c9 cJ9_floorDiv_f86c9 6 (some .long)) ({ frames := 0, cells := 0, slots := 0, locals := 0 }) (va_Pc [.long l0, .long l2] (PcW D [] (R) sz)) (QL D r (R) (va_A (R) sz)) 0 0 (va_A (R) sz) := by
  refine ct_start (QF := fun A => QL D r (R) A) ?_ ?_ ?_
  · decide +kernel
  · exact Nat.le_of_ble_eq_true rfl
  intro p e s m args below meth c A ls S hr hlk hnm hS hA hP hD hK hN hl
  have S : CallFix p m c cJ9_floorDiv_f86c9 6 s args AL "java/lang/Math" := S
  have hx := S.1
  have hb := S.2.1
  have hown := S.2.2.2.1
  have ha := S.2.2.2.2
  have hl : lv_has ls 6 [(0, .long l0), (2, .long l2)] := hl
  unfold f_J9_floorDiv_f86c9 at h
  refine lv_lload_n hx hb dJ9_floorDiv_f86c9_0 rfl (lv_at hl 0 rfl) ?_
  refine lv_lload_n hx hb dJ9_floorDiv_f86c9_1 rfl (lv_at hl 1 rfl) ?_
  obtain ⟨n1, h⟩ := nzL_ok h
  refine lv_ldiv hx hb dJ9_floorDiv_f86c9_2 n1 ?_
  refine lv_lstore (lv' := [(4, .long (l0 / l2)), (0, .long l0), (2, .long l2)]) hx hb dJ9_floorDiv_f86c9_3 hl (by decide) rfl (fun ls hl => ?_)
  refine lv_lload_n hx hb dJ9_floorDiv_f86c9_5 rfl (lv_at hl 1 rfl) ?_
  refine lv_lload_n hx hb dJ9_floorDiv_f86c9_6 rfl (lv_at hl 2 rfl) ?_
  refine lv_lxor hx hb dJ9_floorDiv_f86c9_7 ?_
  refine lv_lconst (v := 0) hx hb dJ9_floorDiv_f86c9_8 (by decide) ?_
  refine xl_ge (tgt := 27) hx hb dJ9_floorDiv_f86c9_9 dJ9_floorDiv_f86c9_10 (by decide) (fun c2 => ?_) (fun c2 => ?_)
  · have h := br_pos c2 h
    refine lv_lload hx hb dJ9_floorDiv_f86c9_27 (lv_at hl 0 rfl) ?_
    cases h
    exact rt_l S hr hlk hP hD hS dJ9_floorDiv_f86c9_29
  · have h := br_neg c2 h
    refine lv_lload hx hb dJ9_floorDiv_f86c9_13 (lv_at hl 0 rfl) ?_
    refine lv_lload_n hx hb dJ9_floorDiv_f86c9_15 rfl (lv_at hl 2 rfl) ?_
    refine lv_lmul hx hb dJ9_floorDiv_f86c9_16 ?_
    refine lv_lload_n hx hb dJ9_floorDiv_f86c9_17 rfl (lv_at hl 1 rfl) ?_
    refine xl_eq (tgt := 27) hx hb dJ9_floorDiv_f86c9_18 dJ9_floorDiv_f86c9_19 (by decide) (fun c3 => ?_) (fun c3 => ?_)
    · have h := br_pos c3 h
      refine lv_lload hx hb dJ9_floorDiv_f86c9_27 (lv_at hl 0 rfl) ?_
      cases h
      exact rt_l S hr hlk hP hD hS dJ9_floorDiv_f86c9_29
    · have h := br_neg c3 h
      refine lv_lload hx hb dJ9_floorDiv_f86c9_22 (lv_at hl 0 rfl) ?_
      refine lv_lconst (v := 1) hx hb dJ9_floorDiv_f86c9_24 (by decide) ?_
      refine lv_lsub hx hb dJ9_floorDiv_f86c9_25 ?_
      cases h
      exact rt_l S hr hlk hP hD hS dJ9_floorDiv_f86c9_26
noncomputable def f_J9_floorMod_f86c9 (l0 : Int64) (l2 : Int64) : Option (Int64) :=
  gd (nzL l2) (
   if 0 ≤ (l0 ^^^ l2) then (
    some (l0 - l0 / l2 * l2)
   ) else (
    if (l0 - l0 / l2 * l2) = 0 then (
     some (l0 - l0 / l2 * l2)
    ) else (
     some ((l0 - l0 / l2 * l2) + l2)
    )
   )
  )
set_option maxHeartbeats 4000000 in
set_option maxRecDepth 100000 in
theorem c_J9_floorMod_f86c9 (l : Launch) (D : va_G) (R : va_W) (l0 : Int64) (l2 : Int64) (r : Int64)  (h : f_J9_floorMod_f86c9 l0 l2 = some r) (sz : Nat) : Met l yJ9_floorMod_f86c9 (WD yJ9_floorMod_f86c9 cJ9_floorMod_f86c9 6 (some .long)) ({ frames := 0, cells := 0, slots := 0, locals := 0 }) (va_Pc [.long l0, .long l2] (PcW D [] (R) sz)) (QL D r (R) (va_A (R) sz)) 0 0 (va_A (R) sz) := by
  refine ct_start (QF := fun A => QL D r (R) A) ?_ ?_ ?_
  · decide +kernel
  · exact Nat.le_of_ble_eq_true rfl
  intro p e s m args below meth c A ls S hr hlk hnm hS hA hP hD hK hN hl
  have S : CallFix p m c cJ9_floorMod_f86c9 6 s args AL "java/lang/Math" := S
  have hx := S.1
  have hb := S.2.1
  have hown := S.2.2.2.1
  have ha := S.2.2.2.2
  have hl : lv_has ls 6 [(0, .long l0), (2, .long l2)] := hl
  unfold f_J9_floorMod_f86c9 at h
  refine lv_lload_n hx hb dJ9_floorMod_f86c9_0 rfl (lv_at hl 0 rfl) ?_
  refine lv_lload_n hx hb dJ9_floorMod_f86c9_1 rfl (lv_at hl 1 rfl) ?_
  obtain ⟨n1, h⟩ := nzL_ok h
  refine lv_lrem hx hb dJ9_floorMod_f86c9_2 n1 ?_
  refine lv_lstore (lv' := [(4, .long (l0 - l0 / l2 * l2)), (0, .long l0), (2, .long l2)]) hx hb dJ9_floorMod_f86c9_3 hl (by decide) rfl (fun ls hl => ?_)
  refine lv_lload_n hx hb dJ9_floorMod_f86c9_5 rfl (lv_at hl 1 rfl) ?_
  refine lv_lload_n hx hb dJ9_floorMod_f86c9_6 rfl (lv_at hl 2 rfl) ?_
  refine lv_lxor hx hb dJ9_floorMod_f86c9_7 ?_
  refine lv_lconst (v := 0) hx hb dJ9_floorMod_f86c9_8 (by decide) ?_
  refine xl_ge (tgt := 25) hx hb dJ9_floorMod_f86c9_9 dJ9_floorMod_f86c9_10 (by decide) (fun c2 => ?_) (fun c2 => ?_)
  · have h := br_pos c2 h
    refine lv_lload hx hb dJ9_floorMod_f86c9_25 (lv_at hl 0 rfl) ?_
    cases h
    exact rt_l S hr hlk hP hD hS dJ9_floorMod_f86c9_27
  · have h := br_neg c2 h
    refine lv_lload hx hb dJ9_floorMod_f86c9_13 (lv_at hl 0 rfl) ?_
    refine lv_lconst (v := 0) hx hb dJ9_floorMod_f86c9_15 (by decide) ?_
    refine xl_eq (tgt := 25) hx hb dJ9_floorMod_f86c9_16 dJ9_floorMod_f86c9_17 (by decide) (fun c3 => ?_) (fun c3 => ?_)
    · have h := br_pos c3 h
      refine lv_lload hx hb dJ9_floorMod_f86c9_25 (lv_at hl 0 rfl) ?_
      cases h
      exact rt_l S hr hlk hP hD hS dJ9_floorMod_f86c9_27
    · have h := br_neg c3 h
      refine lv_lload hx hb dJ9_floorMod_f86c9_20 (lv_at hl 0 rfl) ?_
      refine lv_lload_n hx hb dJ9_floorMod_f86c9_22 rfl (lv_at hl 2 rfl) ?_
      refine lv_ladd hx hb dJ9_floorMod_f86c9_23 ?_
      cases h
      exact rt_l S hr hlk hP hD hS dJ9_floorMod_f86c9_24
noncomputable def f_J9_min_7cf53 (l0 : Int32) (l1 : Int32) : Option (Int32) :=
  if l1 < l0 then (
   some l1
  ) else (
   some l0
  )
set_option maxHeartbeats 4000000 in
set_option maxRecDepth 100000 in
theorem c_J9_min_7cf53 (l : Launch) (D : va_G) (R : va_W) (l0 : Int32) (l1 : Int32) (r : Int32)  (h : f_J9_min_7cf53 l0 l1 = some r) (sz : Nat) : Met l yJ9_min_7cf53 (WD yJ9_min_7cf53 cJ9_min_7cf53 2 (some .int)) ({ frames := 0, cells := 0, slots := 0, locals := 0 }) (va_Pc [.int l0, .int l1] (PcW D [] (R) sz)) (QI D r (R) (va_A (R) sz)) 0 0 (va_A (R) sz) := by
  refine ct_start (QF := fun A => QI D r (R) A) ?_ ?_ ?_
  · decide +kernel
  · exact Nat.le_of_ble_eq_true rfl
  intro p e s m args below meth c A ls S hr hlk hnm hS hA hP hD hK hN hl
  have S : CallFix p m c cJ9_min_7cf53 2 s args AL "java/lang/Math" := S
  have hx := S.1
  have hb := S.2.1
  have hown := S.2.2.2.1
  have ha := S.2.2.2.2
  have hl : lv_has ls 2 [(0, .int l0), (1, .int l1)] := hl
  unfold f_J9_min_7cf53 at h
  refine lv_iload_n hx hb dJ9_min_7cf53_0 rfl (lv_at hl 0 rfl) ?_
  refine lv_iload_n hx hb dJ9_min_7cf53_1 rfl (lv_at hl 1 rfl) ?_
  refine lv_icmp_gt (tgt := 9) hx hb dJ9_min_7cf53_2 (by decide) (fun c1 => ?_) (fun c1 => ?_)
  · have h := br_pos c1 h
    refine lv_iload_n hx hb dJ9_min_7cf53_9 rfl (lv_at hl 1 rfl) ?_
    cases h
    exact rt_i S hr hlk hP hD hS dJ9_min_7cf53_10
  · have h := br_neg c1 h
    refine lv_iload_n hx hb dJ9_min_7cf53_5 rfl (lv_at hl 0 rfl) ?_
    refine lv_goto (tgt := 10) hx hb dJ9_min_7cf53_6 (by decide) ?_
    cases h
    exact rt_i S hr hlk hP hD hS dJ9_min_7cf53_10
