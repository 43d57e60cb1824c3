noncomputable def f_X12_common_L28  : Nat → Int64 → Int64 →  Option (Int64)
  | 0, _, _ => none
  | n + 1, l4, l6 => (
    if l6 = 0 then (
     some l4
    ) else (
     gd (nzL l6) (
      f_X12_common_L28 n l6 (l4 - l4 / l6 * l6)
     )
    ))
noncomputable def f_X12_common (l0 : Int64) (l2 : Int64) : Option (Int64) :=
  if 0 ≤ l0 then (
   if 0 ≤ l2 then (
    bnd1 (f_X12_common_L28 FU l0 l2) fun x4_L28_4 => (
     some x4_L28_4
    )
   ) else (
    bnd1 (f_X12_common_L28 FU l0 (-l2)) fun x4_L28_5 => (
     some x4_L28_5
    )
   )
  ) else (
   if 0 ≤ l2 then (
    bnd1 (f_X12_common_L28 FU (-l0) l2) fun x4_L28_7 => (
     some x4_L28_7
    )
   ) else (
    bnd1 (f_X12_common_L28 FU (-l0) (-l2)) fun x4_L28_8 => (
     some x4_L28_8
    )
   )
  )
set_option maxHeartbeats 4000000 in
set_option maxRecDepth 100000 in
theorem c_X12_common (l : Launch) (D : va_G) (R : va_W) (l0 : Int64) (l2 : Int64) (r : Int64)  (h : f_X12_common l0 l2 = some r) (sz : Nat) : Met l yX12_common (WD yX12_common cX12_common 10 (some .long)) ({ frames := 0, cells := 0, slots := 0, locals := 0 }) (va_Pc [.long l0, .long l2] (PcW D [] (R) sz)) (QL D r (R) (va_A (R) sz)) 0 0 (va_A (R) sz) := by
  refine ct_start (QF := fun A => QL D r (R) A) ?_ ?_ ?_
  · decide +kernel
  · exact Nat.le_of_ble_eq_true rfl
  intro p e s m args below meth c A ls S hr hlk hnm hS hA hP hD hK hN hl
  have S : CallFix p m c cX12_common 10 s args AL "DigitBenchModel" := S
  have hx := S.1
  have hb := S.2.1
  have hown := S.2.2.2.1
  have ha := S.2.2.2.2
  have hl : lv_has ls 10 [(0, .long l0), (2, .long l2)] := hl
  have L28 : ∀ (Q : State → Prop) (n : Nat) (l4 : Int64) (l6 : Int64)  (x4 : Int64), f_X12_common_L28 n l4 l6 = some x4 → ∀ (H : Heap) (locs : List Loc) (ls : Array Slot), va_P D vwCl (R) H → va_D A (R) → va_S A s.heap H locs → lv_has ls 10 [(4, .long l4), (6, .long l6)] → (∀ (H : Heap) (locs : List Loc) (ls : Array Slot), va_P D vwCl (R) H → va_D A (R) → va_S A s.heap H locs → lv_has ls 10 [(4, .long x4)] → W p l e { frames := 0, cells := 0, slots := 0, locals := 0 } s m args below meth c H locs 0 0 Q (F0 m 53 ls [])) → W p l e { frames := 0, cells := 0, slots := 0, locals := 0 } s m args below meth c H locs 0 0 Q (F0 m 28 ls []) := by
    intro Q n
    induction n with
    | zero =>
      intro l4 l6 x4 h
      rw [f_X12_common_L28] at h; cases h
    | succ n ih =>
      intro l4 l6 x4 h H locs ls hP hD hS hl kk0
      rw [f_X12_common_L28] at h
      refine lv_lload hx hb dX12_common_28 (lv_at hl 1 rfl) ?_
      refine lv_lconst (v := 0) hx hb dX12_common_30 (by decide) ?_
      refine xl_eq (tgt := 53) hx hb dX12_common_31 dX12_common_32 (by decide) (fun c3 => ?_) (fun c3 => ?_)
      · have h := br_pos c3 h
        cases h
        exact kk0 _ _ _ hP hD hS (lv_sub hl [0] rfl)
      · have h := br_neg c3 h
        refine lv_lload hx hb dX12_common_35 (lv_at hl 0 rfl) ?_
        refine lv_lload hx hb dX12_common_37 (lv_at hl 1 rfl) ?_
        obtain ⟨n4, h⟩ := nzL_ok h
        refine lv_lrem hx hb dX12_common_39 n4 ?_
        refine lv_lstore (lv' := [(8, .long (l4 - l4 / l6 * l6)), (4, .long l4), (6, .long l6)]) hx hb dX12_common_40 hl (by decide) rfl (fun ls hl => ?_)
        refine lv_lload hx hb dX12_common_42 (lv_at hl 2 rfl) ?_
        refine lv_lstore (lv' := [(4, .long l6), (8, .long (l4 - l4 / l6 * l6)), (6, .long l6)]) hx hb dX12_common_44 hl (by decide) rfl (fun ls hl => ?_)
        refine lv_lload hx hb dX12_common_46 (lv_at hl 1 rfl) ?_
        refine lv_lstore (lv' := [(6, .long (l4 - l4 / l6 * l6)), (4, .long l6), (8, .long (l4 - l4 / l6 * l6))]) hx hb dX12_common_48 hl (by decide) rfl (fun ls hl => ?_)
        refine lv_goto (tgt := 28) hx hb dX12_common_50 (by decide) ?_
        exact ih l6 (l4 - l4 / l6 * l6) _ h _ _ _ hP hD hS (lv_sub hl [1, 0] rfl) kk0
  unfold f_X12_common at h
  refine lv_lload_n hx hb dX12_common_0 rfl (lv_at hl 0 rfl) ?_
  refine lv_lconst (v := 0) hx hb dX12_common_1 (by decide) ?_
  refine xl_ge (tgt := 11) hx hb dX12_common_2 dX12_common_3 (by decide) (fun c1 => ?_) (fun c1 => ?_)
  · have h := br_pos c1 h
    refine lv_lload_n hx hb dX12_common_11 rfl (lv_at hl 0 rfl) ?_
    refine lv_lstore (lv' := [(4, .long l0), (0, .long l0), (2, .long l2)]) hx hb dX12_common_12 hl (by decide) rfl (fun ls hl => ?_)
    refine lv_lload_n hx hb dX12_common_14 rfl (lv_at hl 2 rfl) ?_
    refine lv_lconst (v := 0) hx hb dX12_common_15 (by decide) ?_
    refine xl_ge (tgt := 25) hx hb dX12_common_16 dX12_common_17 (by decide) (fun c2 => ?_) (fun c2 => ?_)
    · have h := br_pos c2 h
      refine lv_lload_n hx hb dX12_common_25 rfl (lv_at hl 2 rfl) ?_
      refine lv_lstore (lv' := [(6, .long l2), (4, .long l0), (0, .long l0), (2, .long l2)]) hx hb dX12_common_26 hl (by decide) rfl (fun ls hl => ?_)
      obtain ⟨x4_L28_4, e_L28_4, h⟩ := bnd1_ok h
      refine L28 _ _ l0 l2 x4_L28_4 e_L28_4 _ _ _ hP hD hS (lv_sub hl [1, 0] rfl) ?_
      intro H locs ls hP hD hS hl
      refine lv_lload hx hb dX12_common_53 (lv_at hl 0 rfl) ?_
      cases h
      exact rt_l S hr hlk hP hD hS dX12_common_55
    · have h := br_neg c2 h
      refine lv_lload_n hx hb dX12_common_20 rfl (lv_at hl 2 rfl) ?_
      refine lv_lneg hx hb dX12_common_21 ?_
      refine lv_goto (tgt := 26) hx hb dX12_common_22 (by decide) ?_
      refine lv_lstore (lv' := [(6, .long (-l2)), (4, .long l0), (0, .long l0), (2, .long l2)]) hx hb dX12_common_26 hl (by decide) rfl (fun ls hl => ?_)
      obtain ⟨x4_L28_5, e_L28_5, h⟩ := bnd1_ok h
      refine L28 _ _ l0 (-l2) x4_L28_5 e_L28_5 _ _ _ hP hD hS (lv_sub hl [1, 0] rfl) ?_
      intro H locs ls hP hD hS hl
      refine lv_lload hx hb dX12_common_53 (lv_at hl 0 rfl) ?_
      cases h
      exact rt_l S hr hlk hP hD hS dX12_common_55
  · have h := br_neg c1 h
    refine lv_lload_n hx hb dX12_common_6 rfl (lv_at hl 0 rfl) ?_
    refine lv_lneg hx hb dX12_common_7 ?_
    refine lv_goto (tgt := 12) hx hb dX12_common_8 (by decide) ?_
    refine lv_lstore (lv' := [(4, .long (-l0)), (0, .long l0), (2, .long l2)]) hx hb dX12_common_12 hl (by decide) rfl (fun ls hl => ?_)
    refine lv_lload_n hx hb dX12_common_14 rfl (lv_at hl 2 rfl) ?_
    refine lv_lconst (v := 0) hx hb dX12_common_15 (by decide) ?_
    refine xl_ge (tgt := 25) hx hb dX12_common_16 dX12_common_17 (by decide) (fun c7 => ?_) (fun c7 => ?_)
    · have h := br_pos c7 h
      refine lv_lload_n hx hb dX12_common_25 rfl (lv_at hl 2 rfl) ?_
      refine lv_lstore (lv' := [(6, .long l2), (4, .long (-l0)), (0, .long l0), (2, .long l2)]) hx hb dX12_common_26 hl (by decide) rfl (fun ls hl => ?_)
      obtain ⟨x4_L28_7, e_L28_7, h⟩ := bnd1_ok h
      refine L28 _ _ (-l0) l2 x4_L28_7 e_L28_7 _ _ _ hP hD hS (lv_sub hl [1, 0] rfl) ?_
      intro H locs ls hP hD hS hl
      refine lv_lload hx hb dX12_common_53 (lv_at hl 0 rfl) ?_
      cases h
      exact rt_l S hr hlk hP hD hS dX12_common_55
    · have h := br_neg c7 h
      refine lv_lload_n hx hb dX12_common_20 rfl (lv_at hl 2 rfl) ?_
      refine lv_lneg hx hb dX12_common_21 ?_
      refine lv_goto (tgt := 26) hx hb dX12_common_22 (by decide) ?_
      refine lv_lstore (lv' := [(6, .long (-l2)), (4, .long (-l0)), (0, .long l0), (2, .long l2)]) hx hb dX12_common_26 hl (by decide) rfl (fun ls hl => ?_)
      obtain ⟨x4_L28_8, e_L28_8, h⟩ := bnd1_ok h
      refine L28 _ _ (-l0) (-l2) x4_L28_8 e_L28_8 _ _ _ hP hD hS (lv_sub hl [1, 0] rfl) ?_
      intro H locs ls hP hD hS hl
      refine lv_lload hx hb dX12_common_53 (lv_at hl 0 rfl) ?_
      cases h
      exact rt_l S hr hlk hP hD hS dX12_common_55
noncomputable def f_X12_set (t_u : Int64) (t_v : Int64) (t_d : Int64) (l1 : Int64) (l3 : Int64) (l5 : Int64) : Option (Int64 × Int64 × Int64) :=
  bnd1 (f_X12_common l1 l3) fun r_c2_0 => (
   bnd1 (f_X12_common r_c2_0 l5) fun r_c7_1 => (
    gd (nzL r_c7_1) (
     gd (nzL r_c7_1) (
      gd (nzL r_c7_1) (
       if 0 ≤ (l5 / r_c7_1) then (
        some ((l1 / r_c7_1), (l3 / r_c7_1), (l5 / r_c7_1))
       ) else (
        some ((-(l1 / r_c7_1)), (-(l3 / r_c7_1)), (-(l5 / r_c7_1)))
       )
      )
     )
    )
   )
  )
set_option maxHeartbeats 4000000 in
set_option maxRecDepth 100000 in
theorem c_X12_set (l : Launch) (D : va_G) (R : va_W) (h_t : Nat) (z_t_0 : Value) (z_t_1 : Value) (z_t_2 : Value) (z_t_3 : Value) (z_t_4 : Value) (z_t_5 : Value) (z_t_6 : Value) (z_t_7 : Value) (z_t_8 : Value) (z_t_9 : Value) (t_u : Int64) (t_v : Int64) (t_d : Int64) (z_t_13 : Value) (z_t_14 : Value) (z_t_15 : Value) (z_t_16 : Value) (z_t_17 : Value) (z_t_18 : Value) (z_t_19 : Value) (z_t_20 : Value) (z_t_21 : Value) (z_t_22 : Value) (z_t_23 : Value) (z_t_24 : Value) (z_t_25 : Value) (z_t_26 : Value) (z_t_27 : Value) (z_t_28 : Value) (z_t_29 : Value) (z_t_30 : Value) (z_t_31 : Value) (z_t_32 : Value) (z_t_33 : Value) (z_t_34 : Value) (z_t_35 : Value) (z_t_36 : Value) (z_t_37 : Value) (z_t_38 : Value) (z_t_39 : Value) (z_t_40 : Value) (z_t_41 : Value) (z_t_42 : Value) (z_t_43 : Value) (z_t_44 : Value) (z_t_45 : Value) (z_t_46 : Value) (z_t_47 : Value) (z_t_48 : Value) (z_t_49 : Value) (z_t_50 : Value) (z_t_51 : Value) (z_t_52 : Value) (z_t_53 : Value) (z_t_54 : Value) (z_t_55 : Value) (z_t_56 : Value) (z_t_57 : Value) (z_t_58 : Value) (z_t_59 : Value) (z_t_60 : Value) (l1 : Int64) (l3 : Int64) (l5 : Int64) (o_t_u : Int64) (o_t_v : Int64) (o_t_d : Int64)  (h : f_X12_set t_u t_v t_d l1 l3 l5 = some (o_t_u, o_t_v, o_t_d)) (sz : Nat) : Met l yX12_set (WD yX12_set cX12_set 9 none) ({ frames := 1, cells := 0, slots := 0, locals := 29 }) (va_Pc [.ref h_t, .long l1, .long l3, .long l5] (PcW D [] ((h_t, .inr (12, (z_t_0 :: z_t_1 :: z_t_2 :: z_t_3 :: z_t_4 :: z_t_5 :: z_t_6 :: z_t_7 :: z_t_8 :: z_t_9 :: .long t_u :: .long t_v :: .long t_d :: z_t_13 :: z_t_14 :: z_t_15 :: z_t_16 :: z_t_17 :: z_t_18 :: z_t_19 :: z_t_20 :: z_t_21 :: z_t_22 :: z_t_23 :: z_t_24 :: z_t_25 :: z_t_26 :: z_t_27 :: z_t_28 :: z_t_29 :: z_t_30 :: z_t_31 :: z_t_32 :: z_t_33 :: z_t_34 :: z_t_35 :: z_t_36 :: z_t_37 :: z_t_38 :: z_t_39 :: z_t_40 :: z_t_41 :: z_t_42 :: z_t_43 :: z_t_44 :: z_t_45 :: z_t_46 :: z_t_47 :: z_t_48 :: z_t_49 :: z_t_50 :: z_t_51 :: z_t_52 :: z_t_53 :: z_t_54 :: z_t_55 :: z_t_56 :: z_t_57 :: z_t_58 :: z_t_59 :: z_t_60 :: []))) :: R) sz)) (QV D ((h_t, .inr (12, (z_t_0 :: z_t_1 :: z_t_2 :: z_t_3 :: z_t_4 :: z_t_5 :: z_t_6 :: z_t_7 :: z_t_8 :: z_t_9 :: .long o_t_u :: .long o_t_v :: .long o_t_d :: z_t_13 :: z_t_14 :: z_t_15 :: z_t_16 :: z_t_17 :: z_t_18 :: z_t_19 :: z_t_20 :: z_t_21 :: z_t_22 :: z_t_23 :: z_t_24 :: z_t_25 :: z_t_26 :: z_t_27 :: z_t_28 :: z_t_29 :: z_t_30 :: z_t_31 :: z_t_32 :: z_t_33 :: z_t_34 :: z_t_35 :: z_t_36 :: z_t_37 :: z_t_38 :: z_t_39 :: z_t_40 :: z_t_41 :: z_t_42 :: z_t_43 :: z_t_44 :: z_t_45 :: z_t_46 :: z_t_47 :: z_t_48 :: z_t_49 :: z_t_50 :: z_t_51 :: z_t_52 :: z_t_53 :: z_t_54 :: z_t_55 :: z_t_56 :: z_t_57 :: z_t_58 :: z_t_59 :: z_t_60 :: []))) :: R) (va_A ((h_t, .inr (12, (z_t_0 :: z_t_1 :: z_t_2 :: z_t_3 :: z_t_4 :: z_t_5 :: z_t_6 :: z_t_7 :: z_t_8 :: z_t_9 :: .long t_u :: .long t_v :: .long t_d :: z_t_13 :: z_t_14 :: z_t_15 :: z_t_16 :: z_t_17 :: z_t_18 :: z_t_19 :: z_t_20 :: z_t_21 :: z_t_22 :: z_t_23 :: z_t_24 :: z_t_25 :: z_t_26 :: z_t_27 :: z_t_28 :: z_t_29 :: z_t_30 :: z_t_31 :: z_t_32 :: z_t_33 :: z_t_34 :: z_t_35 :: z_t_36 :: z_t_37 :: z_t_38 :: z_t_39 :: z_t_40 :: z_t_41 :: z_t_42 :: z_t_43 :: z_t_44 :: z_t_45 :: z_t_46 :: z_t_47 :: z_t_48 :: z_t_49 :: z_t_50 :: z_t_51 :: z_t_52 :: z_t_53 :: z_t_54 :: z_t_55 :: z_t_56 :: z_t_57 :: z_t_58 :: z_t_59 :: z_t_60 :: []))) :: R) sz)) 0 0 (va_A ((h_t, .inr (12, (z_t_0 :: z_t_1 :: z_t_2 :: z_t_3 :: z_t_4 :: z_t_5 :: z_t_6 :: z_t_7 :: z_t_8 :: z_t_9 :: .long t_u :: .long t_v :: .long t_d :: z_t_13 :: z_t_14 :: z_t_15 :: z_t_16 :: z_t_17 :: z_t_18 :: z_t_19 :: z_t_20 :: z_t_21 :: z_t_22 :: z_t_23 :: z_t_24 :: z_t_25 :: z_t_26 :: z_t_27 :: z_t_28 :: z_t_29 :: z_t_30 :: z_t_31 :: z_t_32 :: z_t_33 :: z_t_34 :: z_t_35 :: z_t_36 :: z_t_37 :: z_t_38 :: z_t_39 :: z_t_40 :: z_t_41 :: z_t_42 :: z_t_43 :: z_t_44 :: z_t_45 :: z_t_46 :: z_t_47 :: z_t_48 :: z_t_49 :: z_t_50 :: z_t_51 :: z_t_52 :: z_t_53 :: z_t_54 :: z_t_55 :: z_t_56 :: z_t_57 :: z_t_58 :: z_t_59 :: z_t_60 :: []))) :: R) sz) := by
  refine ct_start (QF := fun A => QV D ((h_t, .inr (12, (z_t_0 :: z_t_1 :: z_t_2 :: z_t_3 :: z_t_4 :: z_t_5 :: z_t_6 :: z_t_7 :: z_t_8 :: z_t_9 :: .long o_t_u :: .long o_t_v :: .long o_t_d :: z_t_13 :: z_t_14 :: z_t_15 :: z_t_16 :: z_t_17 :: z_t_18 :: z_t_19 :: z_t_20 :: z_t_21 :: z_t_22 :: z_t_23 :: z_t_24 :: z_t_25 :: z_t_26 :: z_t_27 :: z_t_28 :: z_t_29 :: z_t_30 :: z_t_31 :: z_t_32 :: z_t_33 :: z_t_34 :: z_t_35 :: z_t_36 :: z_t_37 :: z_t_38 :: z_t_39 :: z_t_40 :: z_t_41 :: z_t_42 :: z_t_43 :: z_t_44 :: z_t_45 :: z_t_46 :: z_t_47 :: z_t_48 :: z_t_49 :: z_t_50 :: z_t_51 :: z_t_52 :: z_t_53 :: z_t_54 :: z_t_55 :: z_t_56 :: z_t_57 :: z_t_58 :: z_t_59 :: z_t_60 :: []))) :: R) A) ?_ ?_ ?_
  · decide +kernel
  · exact Nat.le_of_ble_eq_true rfl
  intro p e s m args below meth c A ls S hr hlk hnm hS hA hP hD hK hN hl
  have S : CallFix p m c cX12_set 9 s args AL "DigitBenchModel" := S
  have hx := S.1
  have hb := S.2.1
  have hown := S.2.2.2.1
  have ha := S.2.2.2.2
  have hl : lv_has ls 9 [(0, .ref h_t), (1, .long l1), (3, .long l3), (5, .long l5)] := hl
  unfold f_X12_set at h
  refine lv_lload_n hx hb dX12_set_0 rfl (lv_at hl 1 rfl) ?_
  refine lv_lload_n hx hb dX12_set_1 rfl (lv_at hl 2 rfl) ?_
  obtain ⟨r_c2_0, e_c2_0, h⟩ := bnd1_ok h
  refine cl_l (rn_s (As := [.long l1, .long l3]) (rest := []) S (c_X12_common l D ((h_t, .inr (12, (z_t_0 :: z_t_1 :: z_t_2 :: z_t_3 :: z_t_4 :: z_t_5 :: z_t_6 :: z_t_7 :: z_t_8 :: z_t_9 :: .long t_u :: .long t_v :: .long t_d :: z_t_13 :: z_t_14 :: z_t_15 :: z_t_16 :: z_t_17 :: z_t_18 :: z_t_19 :: z_t_20 :: z_t_21 :: z_t_22 :: z_t_23 :: z_t_24 :: z_t_25 :: z_t_26 :: z_t_27 :: z_t_28 :: z_t_29 :: z_t_30 :: z_t_31 :: z_t_32 :: z_t_33 :: z_t_34 :: z_t_35 :: z_t_36 :: z_t_37 :: z_t_38 :: z_t_39 :: z_t_40 :: z_t_41 :: z_t_42 :: z_t_43 :: z_t_44 :: z_t_45 :: z_t_46 :: z_t_47 :: z_t_48 :: z_t_49 :: z_t_50 :: z_t_51 :: z_t_52 :: z_t_53 :: z_t_54 :: z_t_55 :: z_t_56 :: z_t_57 :: z_t_58 :: z_t_59 :: z_t_60 :: []))) :: R) l1 l3 r_c2_0 e_c2_0 _) q1176 q1177 q61 q1178 nd_X12_common ⟨Nat.le_of_ble_eq_true rfl, Nat.le_of_ble_eq_true rfl⟩ rfl rfl hP hD (hK.sub (tys' := []) [] rfl) hN rfl hl.1 rfl (Nat.le_of_ble_eq_true rfl) dX12_set_2 ⟨Nat.le_of_ble_eq_true rfl, Nat.le_of_ble_eq_true rfl⟩) hS hA hD (fun H locs hP hD hS => ?_)
  have hP : va_P D vwCl ((h_t, .inr (12, (z_t_0 :: z_t_1 :: z_t_2 :: z_t_3 :: z_t_4 :: z_t_5 :: z_t_6 :: z_t_7 :: z_t_8 :: z_t_9 :: .long t_u :: .long t_v :: .long t_d :: z_t_13 :: z_t_14 :: z_t_15 :: z_t_16 :: z_t_17 :: z_t_18 :: z_t_19 :: z_t_20 :: z_t_21 :: z_t_22 :: z_t_23 :: z_t_24 :: z_t_25 :: z_t_26 :: z_t_27 :: z_t_28 :: z_t_29 :: z_t_30 :: z_t_31 :: z_t_32 :: z_t_33 :: z_t_34 :: z_t_35 :: z_t_36 :: z_t_37 :: z_t_38 :: z_t_39 :: z_t_40 :: z_t_41 :: z_t_42 :: z_t_43 :: z_t_44 :: z_t_45 :: z_t_46 :: z_t_47 :: z_t_48 :: z_t_49 :: z_t_50 :: z_t_51 :: z_t_52 :: z_t_53 :: z_t_54 :: z_t_55 :: z_t_56 :: z_t_57 :: z_t_58 :: z_t_59 :: z_t_60 :: []))) :: R) H := hP
  have hD : va_D A ((h_t, .inr (12, (z_t_0 :: z_t_1 :: z_t_2 :: z_t_3 :: z_t_4 :: z_t_5 :: z_t_6 :: z_t_7 :: z_t_8 :: z_t_9 :: .long t_u :: .long t_v :: .long t_d :: z_t_13 :: z_t_14 :: z_t_15 :: z_t_16 :: z_t_17 :: z_t_18 :: z_t_19 :: z_t_20 :: z_t_21 :: z_t_22 :: z_t_23 :: z_t_24 :: z_t_25 :: z_t_26 :: z_t_27 :: z_t_28 :: z_t_29 :: z_t_30 :: z_t_31 :: z_t_32 :: z_t_33 :: z_t_34 :: z_t_35 :: z_t_36 :: z_t_37 :: z_t_38 :: z_t_39 :: z_t_40 :: z_t_41 :: z_t_42 :: z_t_43 :: z_t_44 :: z_t_45 :: z_t_46 :: z_t_47 :: z_t_48 :: z_t_49 :: z_t_50 :: z_t_51 :: z_t_52 :: z_t_53 :: z_t_54 :: z_t_55 :: z_t_56 :: z_t_57 :: z_t_58 :: z_t_59 :: z_t_60 :: []))) :: R) := hD
  refine lv_lload hx hb dX12_set_5 (lv_at hl 3 rfl) ?_
  obtain ⟨r_c7_1, e_c7_1, h⟩ := bnd1_ok h
  refine cl_l (rn_s (As := [.long r_c2_0, .long l5]) (rest := []) S (c_X12_common l D ((h_t, .inr (12, (z_t_0 :: z_t_1 :: z_t_2 :: z_t_3 :: z_t_4 :: z_t_5 :: z_t_6 :: z_t_7 :: z_t_8 :: z_t_9 :: .long t_u :: .long t_v :: .long t_d :: z_t_13 :: z_t_14 :: z_t_15 :: z_t_16 :: z_t_17 :: z_t_18 :: z_t_19 :: z_t_20 :: z_t_21 :: z_t_22 :: z_t_23 :: z_t_24 :: z_t_25 :: z_t_26 :: z_t_27 :: z_t_28 :: z_t_29 :: z_t_30 :: z_t_31 :: z_t_32 :: z_t_33 :: z_t_34 :: z_t_35 :: z_t_36 :: z_t_37 :: z_t_38 :: z_t_39 :: z_t_40 :: z_t_41 :: z_t_42 :: z_t_43 :: z_t_44 :: z_t_45 :: z_t_46 :: z_t_47 :: z_t_48 :: z_t_49 :: z_t_50 :: z_t_51 :: z_t_52 :: z_t_53 :: z_t_54 :: z_t_55 :: z_t_56 :: z_t_57 :: z_t_58 :: z_t_59 :: z_t_60 :: []))) :: R) r_c2_0 l5 r_c7_1 e_c7_1 _) q1176 q1177 q61 q1178 nd_X12_common ⟨Nat.le_of_ble_eq_true rfl, Nat.le_of_ble_eq_true rfl⟩ rfl rfl hP hD (hK.sub (tys' := []) [] rfl) hN rfl hl.1 rfl (Nat.le_of_ble_eq_true rfl) dX12_set_7 ⟨Nat.le_of_ble_eq_true rfl, Nat.le_of_ble_eq_true rfl⟩) hS hA hD (fun H locs hP hD hS => ?_)
  have hP : va_P D vwCl ((h_t, .inr (12, (z_t_0 :: z_t_1 :: z_t_2 :: z_t_3 :: z_t_4 :: z_t_5 :: z_t_6 :: z_t_7 :: z_t_8 :: z_t_9 :: .long t_u :: .long t_v :: .long t_d :: z_t_13 :: z_t_14 :: z_t_15 :: z_t_16 :: z_t_17 :: z_t_18 :: z_t_19 :: z_t_20 :: z_t_21 :: z_t_22 :: z_t_23 :: z_t_24 :: z_t_25 :: z_t_26 :: z_t_27 :: z_t_28 :: z_t_29 :: z_t_30 :: z_t_31 :: z_t_32 :: z_t_33 :: z_t_34 :: z_t_35 :: z_t_36 :: z_t_37 :: z_t_38 :: z_t_39 :: z_t_40 :: z_t_41 :: z_t_42 :: z_t_43 :: z_t_44 :: z_t_45 :: z_t_46 :: z_t_47 :: z_t_48 :: z_t_49 :: z_t_50 :: z_t_51 :: z_t_52 :: z_t_53 :: z_t_54 :: z_t_55 :: z_t_56 :: z_t_57 :: z_t_58 :: z_t_59 :: z_t_60 :: []))) :: R) H := hP
  have hD : va_D A ((h_t, .inr (12, (z_t_0 :: z_t_1 :: z_t_2 :: z_t_3 :: z_t_4 :: z_t_5 :: z_t_6 :: z_t_7 :: z_t_8 :: z_t_9 :: .long t_u :: .long t_v :: .long t_d :: z_t_13 :: z_t_14 :: z_t_15 :: z_t_16 :: z_t_17 :: z_t_18 :: z_t_19 :: z_t_20 :: z_t_21 :: z_t_22 :: z_t_23 :: z_t_24 :: z_t_25 :: z_t_26 :: z_t_27 :: z_t_28 :: z_t_29 :: z_t_30 :: z_t_31 :: z_t_32 :: z_t_33 :: z_t_34 :: z_t_35 :: z_t_36 :: z_t_37 :: z_t_38 :: z_t_39 :: z_t_40 :: z_t_41 :: z_t_42 :: z_t_43 :: z_t_44 :: z_t_45 :: z_t_46 :: z_t_47 :: z_t_48 :: z_t_49 :: z_t_50 :: z_t_51 :: z_t_52 :: z_t_53 :: z_t_54 :: z_t_55 :: z_t_56 :: z_t_57 :: z_t_58 :: z_t_59 :: z_t_60 :: []))) :: R) := hD
  refine lv_lstore (lv' := [(7, .long r_c7_1), (0, .ref h_t), (1, .long l1), (3, .long l3), (5, .long l5)]) hx hb dX12_set_10 hl (by decide) rfl (fun ls hl => ?_)
  refine lv_aload_n hx hb dX12_set_12 rfl (lv_at hl 1 rfl) ?_
  refine lv_lload_n hx hb dX12_set_13 rfl (lv_at hl 2 rfl) ?_
  refine lv_lload hx hb dX12_set_14 (lv_at hl 0 rfl) ?_
  obtain ⟨n3, h⟩ := nzL_ok h
  refine lv_ldiv hx hb dX12_set_16 n3 ?_
  refine va_put (D := D) (ci := 12) (v := .long (l1 / r_c7_1)) (ty := .long) (C := RX12) (T := TX12) (N := 61) hx hb ha ix12 tyX12 tyX12_ok nmX12 hown hK hP hD hS 0 rfl rfl 10 (by decide) (ha _ q970) (fun _ h9 => h9) rfl (by decide +kernel) rfl rfl (Nat.le_of_ble_eq_true rfl) dX12_set_17 (fun H locs hP hD hS => ?_)
  have hP : va_P D vwCl ((h_t, .inr (12, (z_t_0 :: z_t_1 :: z_t_2 :: z_t_3 :: z_t_4 :: z_t_5 :: z_t_6 :: z_t_7 :: z_t_8 :: z_t_9 :: .long (l1 / r_c7_1) :: .long t_v :: .long t_d :: z_t_13 :: z_t_14 :: z_t_15 :: z_t_16 :: z_t_17 :: z_t_18 :: z_t_19 :: z_t_20 :: z_t_21 :: z_t_22 :: z_t_23 :: z_t_24 :: z_t_25 :: z_t_26 :: z_t_27 :: z_t_28 :: z_t_29 :: z_t_30 :: z_t_31 :: z_t_32 :: z_t_33 :: z_t_34 :: z_t_35 :: z_t_36 :: z_t_37 :: z_t_38 :: z_t_39 :: z_t_40 :: z_t_41 :: z_t_42 :: z_t_43 :: z_t_44 :: z_t_45 :: z_t_46 :: z_t_47 :: z_t_48 :: z_t_49 :: z_t_50 :: z_t_51 :: z_t_52 :: z_t_53 :: z_t_54 :: z_t_55 :: z_t_56 :: z_t_57 :: z_t_58 :: z_t_59 :: z_t_60 :: []))) :: R) H := hP
  have hD : va_D A ((h_t, .inr (12, (z_t_0 :: z_t_1 :: z_t_2 :: z_t_3 :: z_t_4 :: z_t_5 :: z_t_6 :: z_t_7 :: z_t_8 :: z_t_9 :: .long (l1 / r_c7_1) :: .long t_v :: .long t_d :: z_t_13 :: z_t_14 :: z_t_15 :: z_t_16 :: z_t_17 :: z_t_18 :: z_t_19 :: z_t_20 :: z_t_21 :: z_t_22 :: z_t_23 :: z_t_24 :: z_t_25 :: z_t_26 :: z_t_27 :: z_t_28 :: z_t_29 :: z_t_30 :: z_t_31 :: z_t_32 :: z_t_33 :: z_t_34 :: z_t_35 :: z_t_36 :: z_t_37 :: z_t_38 :: z_t_39 :: z_t_40 :: z_t_41 :: z_t_42 :: z_t_43 :: z_t_44 :: z_t_45 :: z_t_46 :: z_t_47 :: z_t_48 :: z_t_49 :: z_t_50 :: z_t_51 :: z_t_52 :: z_t_53 :: z_t_54 :: z_t_55 :: z_t_56 :: z_t_57 :: z_t_58 :: z_t_59 :: z_t_60 :: []))) :: R) := hD
  refine lv_aload_n hx hb dX12_set_20 rfl (lv_at hl 1 rfl) ?_
  refine lv_lload_n hx hb dX12_set_21 rfl (lv_at hl 3 rfl) ?_
  refine lv_lload hx hb dX12_set_22 (lv_at hl 0 rfl) ?_
  obtain ⟨n4, h⟩ := nzL_ok h
  refine lv_ldiv hx hb dX12_set_24 n4 ?_
  refine va_put (D := D) (ci := 12) (v := .long (l3 / r_c7_1)) (ty := .long) (C := RX12) (T := TX12) (N := 61) hx hb ha ix12 tyX12 tyX12_ok nmX12 hown hK hP hD hS 0 rfl rfl 11 (by decide) (ha _ q971) (fun _ h9 => h9) rfl (by decide +kernel) rfl rfl (Nat.le_of_ble_eq_true rfl) dX12_set_25 (fun H locs hP hD hS => ?_)
  have hP : va_P D vwCl ((h_t, .inr (12, (z_t_0 :: z_t_1 :: z_t_2 :: z_t_3 :: z_t_4 :: z_t_5 :: z_t_6 :: z_t_7 :: z_t_8 :: z_t_9 :: .long (l1 / r_c7_1) :: .long (l3 / r_c7_1) :: .long t_d :: z_t_13 :: z_t_14 :: z_t_15 :: z_t_16 :: z_t_17 :: z_t_18 :: z_t_19 :: z_t_20 :: z_t_21 :: z_t_22 :: z_t_23 :: z_t_24 :: z_t_25 :: z_t_26 :: z_t_27 :: z_t_28 :: z_t_29 :: z_t_30 :: z_t_31 :: z_t_32 :: z_t_33 :: z_t_34 :: z_t_35 :: z_t_36 :: z_t_37 :: z_t_38 :: z_t_39 :: z_t_40 :: z_t_41 :: z_t_42 :: z_t_43 :: z_t_44 :: z_t_45 :: z_t_46 :: z_t_47 :: z_t_48 :: z_t_49 :: z_t_50 :: z_t_51 :: z_t_52 :: z_t_53 :: z_t_54 :: z_t_55 :: z_t_56 :: z_t_57 :: z_t_58 :: z_t_59 :: z_t_60 :: []))) :: R) H := hP
  have hD : va_D A ((h_t, .inr (12, (z_t_0 :: z_t_1 :: z_t_2 :: z_t_3 :: z_t_4 :: z_t_5 :: z_t_6 :: z_t_7 :: z_t_8 :: z_t_9 :: .long (l1 / r_c7_1) :: .long (l3 / r_c7_1) :: .long t_d :: z_t_13 :: z_t_14 :: z_t_15 :: z_t_16 :: z_t_17 :: z_t_18 :: z_t_19 :: z_t_20 :: z_t_21 :: z_t_22 :: z_t_23 :: z_t_24 :: z_t_25 :: z_t_26 :: z_t_27 :: z_t_28 :: z_t_29 :: z_t_30 :: z_t_31 :: z_t_32 :: z_t_33 :: z_t_34 :: z_t_35 :: z_t_36 :: z_t_37 :: z_t_38 :: z_t_39 :: z_t_40 :: z_t_41 :: z_t_42 :: z_t_43 :: z_t_44 :: z_t_45 :: z_t_46 :: z_t_47 :: z_t_48 :: z_t_49 :: z_t_50 :: z_t_51 :: z_t_52 :: z_t_53 :: z_t_54 :: z_t_55 :: z_t_56 :: z_t_57 :: z_t_58 :: z_t_59 :: z_t_60 :: []))) :: R) := hD
  refine lv_aload_n hx hb dX12_set_28 rfl (lv_at hl 1 rfl) ?_
  refine lv_lload hx hb dX12_set_29 (lv_at hl 4 rfl) ?_
  refine lv_lload hx hb dX12_set_31 (lv_at hl 0 rfl) ?_
  obtain ⟨n5, h⟩ := nzL_ok h
  refine lv_ldiv hx hb dX12_set_33 n5 ?_
  refine va_put (D := D) (ci := 12) (v := .long (l5 / r_c7_1)) (ty := .long) (C := RX12) (T := TX12) (N := 61) hx hb ha ix12 tyX12 tyX12_ok nmX12 hown hK hP hD hS 0 rfl rfl 12 (by decide) (ha _ q972) (fun _ h9 => h9) rfl (by decide +kernel) rfl rfl (Nat.le_of_ble_eq_true rfl) dX12_set_34 (fun H locs hP hD hS => ?_)
  have hP : va_P D vwCl ((h_t, .inr (12, (z_t_0 :: z_t_1 :: z_t_2 :: z_t_3 :: z_t_4 :: z_t_5 :: z_t_6 :: z_t_7 :: z_t_8 :: z_t_9 :: .long (l1 / r_c7_1) :: .long (l3 / r_c7_1) :: .long (l5 / r_c7_1) :: z_t_13 :: z_t_14 :: z_t_15 :: z_t_16 :: z_t_17 :: z_t_18 :: z_t_19 :: z_t_20 :: z_t_21 :: z_t_22 :: z_t_23 :: z_t_24 :: z_t_25 :: z_t_26 :: z_t_27 :: z_t_28 :: z_t_29 :: z_t_30 :: z_t_31 :: z_t_32 :: z_t_33 :: z_t_34 :: z_t_35 :: z_t_36 :: z_t_37 :: z_t_38 :: z_t_39 :: z_t_40 :: z_t_41 :: z_t_42 :: z_t_43 :: z_t_44 :: z_t_45 :: z_t_46 :: z_t_47 :: z_t_48 :: z_t_49 :: z_t_50 :: z_t_51 :: z_t_52 :: z_t_53 :: z_t_54 :: z_t_55 :: z_t_56 :: z_t_57 :: z_t_58 :: z_t_59 :: z_t_60 :: []))) :: R) H := hP
  have hD : va_D A ((h_t, .inr (12, (z_t_0 :: z_t_1 :: z_t_2 :: z_t_3 :: z_t_4 :: z_t_5 :: z_t_6 :: z_t_7 :: z_t_8 :: z_t_9 :: .long (l1 / r_c7_1) :: .long (l3 / r_c7_1) :: .long (l5 / r_c7_1) :: z_t_13 :: z_t_14 :: z_t_15 :: z_t_16 :: z_t_17 :: z_t_18 :: z_t_19 :: z_t_20 :: z_t_21 :: z_t_22 :: z_t_23 :: z_t_24 :: z_t_25 :: z_t_26 :: z_t_27 :: z_t_28 :: z_t_29 :: z_t_30 :: z_t_31 :: z_t_32 :: z_t_33 :: z_t_34 :: z_t_35 :: z_t_36 :: z_t_37 :: z_t_38 :: z_t_39 :: z_t_40 :: z_t_41 :: z_t_42 :: z_t_43 :: z_t_44 :: z_t_45 :: z_t_46 :: z_t_47 :: z_t_48 :: z_t_49 :: z_t_50 :: z_t_51 :: z_t_52 :: z_t_53 :: z_t_54 :: z_t_55 :: z_t_56 :: z_t_57 :: z_t_58 :: z_t_59 :: z_t_60 :: []))) :: R) := hD
  refine lv_aload_n hx hb dX12_set_37 rfl (lv_at hl 1 rfl) ?_
  refine va_get (D := D) (ci := 12) (v := .long (l5 / r_c7_1)) (C := RX12) (T := TX12) (N := 61) hx hb ha ix12 hown hK hP 0 rfl rfl 12 (by decide) (ha _ q972) (fun _ h9 => h9) rfl dX12_set_38 ?_
  refine lv_lconst (v := 0) hx hb dX12_set_41 (by decide) ?_
  refine xl_ge (tgt := 73) hx hb dX12_set_42 dX12_set_43 (by decide) (fun c6 => ?_) (fun c6 => ?_)
  · have h := br_pos c6 h
    cases h
    exact rt_v S hr hlk hP hD hS dX12_set_73
  · have h := br_neg c6 h
    refine lv_aload_n hx hb dX12_set_46 rfl (lv_at hl 1 rfl) ?_
    refine lv_aload_n hx hb dX12_set_47 rfl (lv_at hl 1 rfl) ?_
    refine va_get (D := D) (ci := 12) (v := .long (l1 / r_c7_1)) (C := RX12) (T := TX12) (N := 61) hx hb ha ix12 hown hK hP 0 rfl rfl 10 (by decide) (ha _ q970) (fun _ h9 => h9) rfl dX12_set_48 ?_
    refine lv_lneg hx hb dX12_set_51 ?_
    refine va_put (D := D) (ci := 12) (v := .long (-(l1 / r_c7_1))) (ty := .long) (C := RX12) (T := TX12) (N := 61) hx hb ha ix12 tyX12 tyX12_ok nmX12 hown hK hP hD hS 0 rfl rfl 10 (by decide) (ha _ q970) (fun _ h9 => h9) rfl (by decide +kernel) rfl rfl (Nat.le_of_ble_eq_true rfl) dX12_set_52 (fun H locs hP hD hS => ?_)
    have hP : va_P D vwCl ((h_t, .inr (12, (z_t_0 :: z_t_1 :: z_t_2 :: z_t_3 :: z_t_4 :: z_t_5 :: z_t_6 :: z_t_7 :: z_t_8 :: z_t_9 :: .long (-(l1 / r_c7_1)) :: .long (l3 / r_c7_1) :: .long (l5 / r_c7_1) :: z_t_13 :: z_t_14 :: z_t_15 :: z_t_16 :: z_t_17 :: z_t_18 :: z_t_19 :: z_t_20 :: z_t_21 :: z_t_22 :: z_t_23 :: z_t_24 :: z_t_25 :: z_t_26 :: z_t_27 :: z_t_28 :: z_t_29 :: z_t_30 :: z_t_31 :: z_t_32 :: z_t_33 :: z_t_34 :: z_t_35 :: z_t_36 :: z_t_37 :: z_t_38 :: z_t_39 :: z_t_40 :: z_t_41 :: z_t_42 :: z_t_43 :: z_t_44 :: z_t_45 :: z_t_46 :: z_t_47 :: z_t_48 :: z_t_49 :: z_t_50 :: z_t_51 :: z_t_52 :: z_t_53 :: z_t_54 :: z_t_55 :: z_t_56 :: z_t_57 :: z_t_58 :: z_t_59 :: z_t_60 :: []))) :: R) H := hP
    have hD : va_D A ((h_t, .inr (12, (z_t_0 :: z_t_1 :: z_t_2 :: z_t_3 :: z_t_4 :: z_t_5 :: z_t_6 :: z_t_7 :: z_t_8 :: z_t_9 :: .long (-(l1 / r_c7_1)) :: .long (l3 / r_c7_1) :: .long (l5 / r_c7_1) :: z_t_13 :: z_t_14 :: z_t_15 :: z_t_16 :: z_t_17 :: z_t_18 :: z_t_19 :: z_t_20 :: z_t_21 :: z_t_22 :: z_t_23 :: z_t_24 :: z_t_25 :: z_t_26 :: z_t_27 :: z_t_28 :: z_t_29 :: z_t_30 :: z_t_31 :: z_t_32 :: z_t_33 :: z_t_34 :: z_t_35 :: z_t_36 :: z_t_37 :: z_t_38 :: z_t_39 :: z_t_40 :: z_t_41 :: z_t_42 :: z_t_43 :: z_t_44 :: z_t_45 :: z_t_46 :: z_t_47 :: z_t_48 :: z_t_49 :: z_t_50 :: z_t_51 :: z_t_52 :: z_t_53 :: z_t_54 :: z_t_55 :: z_t_56 :: z_t_57 :: z_t_58 :: z_t_59 :: z_t_60 :: []))) :: R) := hD
    refine lv_aload_n hx hb dX12_set_55 rfl (lv_at hl 1 rfl) ?_
    refine lv_aload_n hx hb dX12_set_56 rfl (lv_at hl 1 rfl) ?_
    refine va_get (D := D) (ci := 12) (v := .long (l3 / r_c7_1)) (C := RX12) (T := TX12) (N := 61) hx hb ha ix12 hown hK hP 0 rfl rfl 11 (by decide) (ha _ q971) (fun _ h9 => h9) rfl dX12_set_57 ?_
    refine lv_lneg hx hb dX12_set_60 ?_
    refine va_put (D := D) (ci := 12) (v := .long (-(l3 / r_c7_1))) (ty := .long) (C := RX12) (T := TX12) (N := 61) hx hb ha ix12 tyX12 tyX12_ok nmX12 hown hK hP hD hS 0 rfl rfl 11 (by decide) (ha _ q971) (fun _ h9 => h9) rfl (by decide +kernel) rfl rfl (Nat.le_of_ble_eq_true rfl) dX12_set_61 (fun H locs hP hD hS => ?_)
    have hP : va_P D vwCl ((h_t, .inr (12, (z_t_0 :: z_t_1 :: z_t_2 :: z_t_3 :: z_t_4 :: z_t_5 :: z_t_6 :: z_t_7 :: z_t_8 :: z_t_9 :: .long (-(l1 / r_c7_1)) :: .long (-(l3 / r_c7_1)) :: .long (l5 / r_c7_1) :: z_t_13 :: z_t_14 :: z_t_15 :: z_t_16 :: z_t_17 :: z_t_18 :: z_t_19 :: z_t_20 :: z_t_21 :: z_t_22 :: z_t_23 :: z_t_24 :: z_t_25 :: z_t_26 :: z_t_27 :: z_t_28 :: z_t_29 :: z_t_30 :: z_t_31 :: z_t_32 :: z_t_33 :: z_t_34 :: z_t_35 :: z_t_36 :: z_t_37 :: z_t_38 :: z_t_39 :: z_t_40 :: z_t_41 :: z_t_42 :: z_t_43 :: z_t_44 :: z_t_45 :: z_t_46 :: z_t_47 :: z_t_48 :: z_t_49 :: z_t_50 :: z_t_51 :: z_t_52 :: z_t_53 :: z_t_54 :: z_t_55 :: z_t_56 :: z_t_57 :: z_t_58 :: z_t_59 :: z_t_60 :: []))) :: R) H := hP
    have hD : va_D A ((h_t, .inr (12, (z_t_0 :: z_t_1 :: z_t_2 :: z_t_3 :: z_t_4 :: z_t_5 :: z_t_6 :: z_t_7 :: z_t_8 :: z_t_9 :: .long (-(l1 / r_c7_1)) :: .long (-(l3 / r_c7_1)) :: .long (l5 / r_c7_1) :: z_t_13 :: z_t_14 :: z_t_15 :: z_t_16 :: z_t_17 :: z_t_18 :: z_t_19 :: z_t_20 :: z_t_21 :: z_t_22 :: z_t_23 :: z_t_24 :: z_t_25 :: z_t_26 :: z_t_27 :: z_t_28 :: z_t_29 :: z_t_30 :: z_t_31 :: z_t_32 :: z_t_33 :: z_t_34 :: z_t_35 :: z_t_36 :: z_t_37 :: z_t_38 :: z_t_39 :: z_t_40 :: z_t_41 :: z_t_42 :: z_t_43 :: z_t_44 :: z_t_45 :: z_t_46 :: z_t_47 :: z_t_48 :: z_t_49 :: z_t_50 :: z_t_51 :: z_t_52 :: z_t_53 :: z_t_54 :: z_t_55 :: z_t_56 :: z_t_57 :: z_t_58 :: z_t_59 :: z_t_60 :: []))) :: R) := hD
    refine lv_aload_n hx hb dX12_set_64 rfl (lv_at hl 1 rfl) ?_
    refine lv_aload_n hx hb dX12_set_65 rfl (lv_at hl 1 rfl) ?_
    refine va_get (D := D) (ci := 12) (v := .long (l5 / r_c7_1)) (C := RX12) (T := TX12) (N := 61) hx hb ha ix12 hown hK hP 0 rfl rfl 12 (by decide) (ha _ q972) (fun _ h9 => h9) rfl dX12_set_66 ?_
    refine lv_lneg hx hb dX12_set_69 ?_
    refine va_put (D := D) (ci := 12) (v := .long (-(l5 / r_c7_1))) (ty := .long) (C := RX12) (T := TX12) (N := 61) hx hb ha ix12 tyX12 tyX12_ok nmX12 hown hK hP hD hS 0 rfl rfl 12 (by decide) (ha _ q972) (fun _ h9 => h9) rfl (by decide +kernel) rfl rfl (Nat.le_of_ble_eq_true rfl) dX12_set_70 (fun H locs hP hD hS => ?_)
    have hP : va_P D vwCl ((h_t, .inr (12, (z_t_0 :: z_t_1 :: z_t_2 :: z_t_3 :: z_t_4 :: z_t_5 :: z_t_6 :: z_t_7 :: z_t_8 :: z_t_9 :: .long (-(l1 / r_c7_1)) :: .long (-(l3 / r_c7_1)) :: .long (-(l5 / r_c7_1)) :: z_t_13 :: z_t_14 :: z_t_15 :: z_t_16 :: z_t_17 :: z_t_18 :: z_t_19 :: z_t_20 :: z_t_21 :: z_t_22 :: z_t_23 :: z_t_24 :: z_t_25 :: z_t_26 :: z_t_27 :: z_t_28 :: z_t_29 :: z_t_30 :: z_t_31 :: z_t_32 :: z_t_33 :: z_t_34 :: z_t_35 :: z_t_36 :: z_t_37 :: z_t_38 :: z_t_39 :: z_t_40 :: z_t_41 :: z_t_42 :: z_t_43 :: z_t_44 :: z_t_45 :: z_t_46 :: z_t_47 :: z_t_48 :: z_t_49 :: z_t_50 :: z_t_51 :: z_t_52 :: z_t_53 :: z_t_54 :: z_t_55 :: z_t_56 :: z_t_57 :: z_t_58 :: z_t_59 :: z_t_60 :: []))) :: R) H := hP
    have hD : va_D A ((h_t, .inr (12, (z_t_0 :: z_t_1 :: z_t_2 :: z_t_3 :: z_t_4 :: z_t_5 :: z_t_6 :: z_t_7 :: z_t_8 :: z_t_9 :: .long (-(l1 / r_c7_1)) :: .long (-(l3 / r_c7_1)) :: .long (-(l5 / r_c7_1)) :: z_t_13 :: z_t_14 :: z_t_15 :: z_t_16 :: z_t_17 :: z_t_18 :: z_t_19 :: z_t_20 :: z_t_21 :: z_t_22 :: z_t_23 :: z_t_24 :: z_t_25 :: z_t_26 :: z_t_27 :: z_t_28 :: z_t_29 :: z_t_30 :: z_t_31 :: z_t_32 :: z_t_33 :: z_t_34 :: z_t_35 :: z_t_36 :: z_t_37 :: z_t_38 :: z_t_39 :: z_t_40 :: z_t_41 :: z_t_42 :: z_t_43 :: z_t_44 :: z_t_45 :: z_t_46 :: z_t_47 :: z_t_48 :: z_t_49 :: z_t_50 :: z_t_51 :: z_t_52 :: z_t_53 :: z_t_54 :: z_t_55 :: z_t_56 :: z_t_57 :: z_t_58 :: z_t_59 :: z_t_60 :: []))) :: R) := hD
    cases h
    exact rt_v S hr hlk hP hD hS dX12_set_73
noncomputable def f_X12_isNumber (t_u : Int64) (t_v : Int64) (t_d : Int64) : Option (Int32) :=
  if t_u < (-65536) then (
   some 0
  ) else (
   if 65536 < t_u then (
    some 0
   ) else (
    if t_v < (-65536) then (
     some 0
    ) else (
     if 65536 < t_v then (
      some 0
     ) else (
      if 1000 < t_d then (
       some 0
      ) else (
       some 1
      )
     )
    )
   )
  )
set_option maxHeartbeats 4000000 in
set_option maxRecDepth 100000 in
theorem c_X12_isNumber (l : Launch) (D : va_G) (R : va_W) (h_t : Nat) (z_t_0 : Value) (z_t_1 : Value) (z_t_2 : Value) (z_t_3 : Value) (z_t_4 : Value) (z_t_5 : Value) (z_t_6 : Value) (z_t_7 : Value) (z_t_8 : Value) (z_t_9 : Value) (t_u : Int64) (t_v : Int64) (t_d : Int64) (z_t_13 : Value) (z_t_14 : Value) (z_t_15 : Value) (z_t_16 : Value) (z_t_17 : Value) (z_t_18 : Value) (z_t_19 : Value) (z_t_20 : Value) (z_t_21 : Value) (z_t_22 : Value) (z_t_23 : Value) (z_t_24 : Value) (z_t_25 : Value) (z_t_26 : Value) (z_t_27 : Value) (z_t_28 : Value) (z_t_29 : Value) (z_t_30 : Value) (z_t_31 : Value) (z_t_32 : Value) (z_t_33 : Value) (z_t_34 : Value) (z_t_35 : Value) (z_t_36 : Value) (z_t_37 : Value) (z_t_38 : Value) (z_t_39 : Value) (z_t_40 : Value) (z_t_41 : Value) (z_t_42 : Value) (z_t_43 : Value) (z_t_44 : Value) (z_t_45 : Value) (z_t_46 : Value) (z_t_47 : Value) (z_t_48 : Value) (z_t_49 : Value) (z_t_50 : Value) (z_t_51 : Value) (z_t_52 : Value) (z_t_53 : Value) (z_t_54 : Value) (z_t_55 : Value) (z_t_56 : Value) (z_t_57 : Value) (z_t_58 : Value) (z_t_59 : Value) (z_t_60 : Value) (r : Int32)  (h : f_X12_isNumber t_u t_v t_d = some r) (sz : Nat) : Met l yX12_isNumber (WD yX12_isNumber cX12_isNumber 1 (some .boolean)) ({ frames := 0, cells := 0, slots := 0, locals := 0 }) (va_Pc [.ref h_t] (PcW D [] ((h_t, .inr (12, (z_t_0 :: z_t_1 :: z_t_2 :: z_t_3 :: z_t_4 :: z_t_5 :: z_t_6 :: z_t_7 :: z_t_8 :: z_t_9 :: .long t_u :: .long t_v :: .long t_d :: z_t_13 :: z_t_14 :: z_t_15 :: z_t_16 :: z_t_17 :: z_t_18 :: z_t_19 :: z_t_20 :: z_t_21 :: z_t_22 :: z_t_23 :: z_t_24 :: z_t_25 :: z_t_26 :: z_t_27 :: z_t_28 :: z_t_29 :: z_t_30 :: z_t_31 :: z_t_32 :: z_t_33 :: z_t_34 :: z_t_35 :: z_t_36 :: z_t_37 :: z_t_38 :: z_t_39 :: z_t_40 :: z_t_41 :: z_t_42 :: z_t_43 :: z_t_44 :: z_t_45 :: z_t_46 :: z_t_47 :: z_t_48 :: z_t_49 :: z_t_50 :: z_t_51 :: z_t_52 :: z_t_53 :: z_t_54 :: z_t_55 :: z_t_56 :: z_t_57 :: z_t_58 :: z_t_59 :: z_t_60 :: []))) :: R) sz)) (QZ D r ((h_t, .inr (12, (z_t_0 :: z_t_1 :: z_t_2 :: z_t_3 :: z_t_4 :: z_t_5 :: z_t_6 :: z_t_7 :: z_t_8 :: z_t_9 :: .long t_u :: .long t_v :: .long t_d :: z_t_13 :: z_t_14 :: z_t_15 :: z_t_16 :: z_t_17 :: z_t_18 :: z_t_19 :: z_t_20 :: z_t_21 :: z_t_22 :: z_t_23 :: z_t_24 :: z_t_25 :: z_t_26 :: z_t_27 :: z_t_28 :: z_t_29 :: z_t_30 :: z_t_31 :: z_t_32 :: z_t_33 :: z_t_34 :: z_t_35 :: z_t_36 :: z_t_37 :: z_t_38 :: z_t_39 :: z_t_40 :: z_t_41 :: z_t_42 :: z_t_43 :: z_t_44 :: z_t_45 :: z_t_46 :: z_t_47 :: z_t_48 :: z_t_49 :: z_t_50 :: z_t_51 :: z_t_52 :: z_t_53 :: z_t_54 :: z_t_55 :: z_t_56 :: z_t_57 :: z_t_58 :: z_t_59 :: z_t_60 :: []))) :: R) (va_A ((h_t, .inr (12, (z_t_0 :: z_t_1 :: z_t_2 :: z_t_3 :: z_t_4 :: z_t_5 :: z_t_6 :: z_t_7 :: z_t_8 :: z_t_9 :: .long t_u :: .long t_v :: .long t_d :: z_t_13 :: z_t_14 :: z_t_15 :: z_t_16 :: z_t_17 :: z_t_18 :: z_t_19 :: z_t_20 :: z_t_21 :: z_t_22 :: z_t_23 :: z_t_24 :: z_t_25 :: z_t_26 :: z_t_27 :: z_t_28 :: z_t_29 :: z_t_30 :: z_t_31 :: z_t_32 :: z_t_33 :: z_t_34 :: z_t_35 :: z_t_36 :: z_t_37 :: z_t_38 :: z_t_39 :: z_t_40 :: z_t_41 :: z_t_42 :: z_t_43 :: z_t_44 :: z_t_45 :: z_t_46 :: z_t_47 :: z_t_48 :: z_t_49 :: z_t_50 :: z_t_51 :: z_t_52 :: z_t_53 :: z_t_54 :: z_t_55 :: z_t_56 :: z_t_57 :: z_t_58 :: z_t_59 :: z_t_60 :: []))) :: R) sz)) 0 0 (va_A ((h_t, .inr (12, (z_t_0 :: z_t_1 :: z_t_2 :: z_t_3 :: z_t_4 :: z_t_5 :: z_t_6 :: z_t_7 :: z_t_8 :: z_t_9 :: .long t_u :: .long t_v :: .long t_d :: z_t_13 :: z_t_14 :: z_t_15 :: z_t_16 :: z_t_17 :: z_t_18 :: z_t_19 :: z_t_20 :: z_t_21 :: z_t_22 :: z_t_23 :: z_t_24 :: z_t_25 :: z_t_26 :: z_t_27 :: z_t_28 :: z_t_29 :: z_t_30 :: z_t_31 :: z_t_32 :: z_t_33 :: z_t_34 :: z_t_35 :: z_t_36 :: z_t_37 :: z_t_38 :: z_t_39 :: z_t_40 :: z_t_41 :: z_t_42 :: z_t_43 :: z_t_44 :: z_t_45 :: z_t_46 :: z_t_47 :: z_t_48 :: z_t_49 :: z_t_50 :: z_t_51 :: z_t_52 :: z_t_53 :: z_t_54 :: z_t_55 :: z_t_56 :: z_t_57 :: z_t_58 :: z_t_59 :: z_t_60 :: []))) :: R) sz) := by
  refine ct_start (QF := fun A => QZ D r ((h_t, .inr (12, (z_t_0 :: z_t_1 :: z_t_2 :: z_t_3 :: z_t_4 :: z_t_5 :: z_t_6 :: z_t_7 :: z_t_8 :: z_t_9 :: .long t_u :: .long t_v :: .long t_d :: z_t_13 :: z_t_14 :: z_t_15 :: z_t_16 :: z_t_17 :: z_t_18 :: z_t_19 :: z_t_20 :: z_t_21 :: z_t_22 :: z_t_23 :: z_t_24 :: z_t_25 :: z_t_26 :: z_t_27 :: z_t_28 :: z_t_29 :: z_t_30 :: z_t_31 :: z_t_32 :: z_t_33 :: z_t_34 :: z_t_35 :: z_t_36 :: z_t_37 :: z_t_38 :: z_t_39 :: z_t_40 :: z_t_41 :: z_t_42 :: z_t_43 :: z_t_44 :: z_t_45 :: z_t_46 :: z_t_47 :: z_t_48 :: z_t_49 :: z_t_50 :: z_t_51 :: z_t_52 :: z_t_53 :: z_t_54 :: z_t_55 :: z_t_56 :: z_t_57 :: z_t_58 :: z_t_59 :: z_t_60 :: []))) :: R) A) ?_ ?_ ?_
  · decide +kernel
  · exact Nat.le_of_ble_eq_true rfl
  intro p e s m args below meth c A ls S hr hlk hnm hS hA hP hD hK hN hl
  have S : CallFix p m c cX12_isNumber 1 s args AL "DigitBenchModel" := S
  have hx := S.1
  have hb := S.2.1
  have hown := S.2.2.2.1
  have ha := S.2.2.2.2
  have hl : lv_has ls 1 [(0, .ref h_t)] := hl
  unfold f_X12_isNumber at h
  refine lv_aload_n hx hb dX12_isNumber_0 rfl (lv_at hl 0 rfl) ?_
  refine va_get (D := D) (ci := 12) (v := .long t_u) (C := RX12) (T := TX12) (N := 61) hx hb ha ix12 hown hK hP 0 rfl rfl 10 (by decide) (ha _ q970) (fun _ h9 => h9) rfl dX12_isNumber_1 ?_
  refine lv_ldc2 (v := (-65536)) hx hb hown (ha _ q1187) dX12_isNumber_4 ?_
  refine xl_lt (tgt := 59) hx hb dX12_isNumber_7 dX12_isNumber_8 (by decide) (fun c1 => ?_) (fun c1 => ?_)
  · have h := br_pos c1 h
    refine lv_iconst (v := 0) hx hb dX12_isNumber_59 (by decide) ?_
    cases h
    exact rt_z S hr hlk hP hD hS (by decide) dX12_isNumber_60
  · have h := br_neg c1 h
    refine lv_aload_n hx hb dX12_isNumber_11 rfl (lv_at hl 0 rfl) ?_
    refine va_get (D := D) (ci := 12) (v := .long t_u) (C := RX12) (T := TX12) (N := 61) hx hb ha ix12 hown hK hP 0 rfl rfl 10 (by decide) (ha _ q970) (fun _ h9 => h9) rfl dX12_isNumber_12 ?_
    refine lv_ldc2 (v := 65536) hx hb hown (ha _ q1188) dX12_isNumber_15 ?_
    refine xl_gt (tgt := 59) hx hb dX12_isNumber_18 dX12_isNumber_19 (by decide) (fun c2 => ?_) (fun c2 => ?_)
    · have h := br_pos c2 h
      refine lv_iconst (v := 0) hx hb dX12_isNumber_59 (by decide) ?_
      cases h
      exact rt_z S hr hlk hP hD hS (by decide) dX12_isNumber_60
    · have h := br_neg c2 h
      refine lv_aload_n hx hb dX12_isNumber_22 rfl (lv_at hl 0 rfl) ?_
      refine va_get (D := D) (ci := 12) (v := .long t_v) (C := RX12) (T := TX12) (N := 61) hx hb ha ix12 hown hK hP 0 rfl rfl 11 (by decide) (ha _ q971) (fun _ h9 => h9) rfl dX12_isNumber_23 ?_
      refine lv_ldc2 (v := (-65536)) hx hb hown (ha _ q1187) dX12_isNumber_26 ?_
      refine xl_lt (tgt := 59) hx hb dX12_isNumber_29 dX12_isNumber_30 (by decide) (fun c3 => ?_) (fun c3 => ?_)
      · have h := br_pos c3 h
        refine lv_iconst (v := 0) hx hb dX12_isNumber_59 (by decide) ?_
        cases h
        exact rt_z S hr hlk hP hD hS (by decide) dX12_isNumber_60
      · have h := br_neg c3 h
        refine lv_aload_n hx hb dX12_isNumber_33 rfl (lv_at hl 0 rfl) ?_
        refine va_get (D := D) (ci := 12) (v := .long t_v) (C := RX12) (T := TX12) (N := 61) hx hb ha ix12 hown hK hP 0 rfl rfl 11 (by decide) (ha _ q971) (fun _ h9 => h9) rfl dX12_isNumber_34 ?_
        refine lv_ldc2 (v := 65536) hx hb hown (ha _ q1188) dX12_isNumber_37 ?_
        refine xl_gt (tgt := 59) hx hb dX12_isNumber_40 dX12_isNumber_41 (by decide) (fun c4 => ?_) (fun c4 => ?_)
        · have h := br_pos c4 h
          refine lv_iconst (v := 0) hx hb dX12_isNumber_59 (by decide) ?_
          cases h
          exact rt_z S hr hlk hP hD hS (by decide) dX12_isNumber_60
        · have h := br_neg c4 h
          refine lv_aload_n hx hb dX12_isNumber_44 rfl (lv_at hl 0 rfl) ?_
          refine va_get (D := D) (ci := 12) (v := .long t_d) (C := RX12) (T := TX12) (N := 61) hx hb ha ix12 hown hK hP 0 rfl rfl 12 (by decide) (ha _ q972) (fun _ h9 => h9) rfl dX12_isNumber_45 ?_
          refine lv_ldc2 (v := 1000) hx hb hown (ha _ q1189) dX12_isNumber_48 ?_
          refine xl_gt (tgt := 59) hx hb dX12_isNumber_51 dX12_isNumber_52 (by decide) (fun c5 => ?_) (fun c5 => ?_)
          · have h := br_pos c5 h
            refine lv_iconst (v := 0) hx hb dX12_isNumber_59 (by decide) ?_
            cases h
            exact rt_z S hr hlk hP hD hS (by decide) dX12_isNumber_60
          · have h := br_neg c5 h
            refine lv_iconst (v := 1) hx hb dX12_isNumber_55 (by decide) ?_
            refine lv_goto (tgt := 60) hx hb dX12_isNumber_56 (by decide) ?_
            cases h
            exact rt_z S hr hlk hP hD hS (by decide) dX12_isNumber_60
noncomputable def f_X12_put (t_u : Int64) (t_v : Int64) (t_d : Int64) (t_has : Nat → Int32) (t_us : Nat → Int32) (t_vs : Nat → Int32) (t_ds : Nat → Int32) (l1 : Int32) : Option (Int32 × (Nat → Int32) × (Nat → Int32) × (Nat → Int32) × (Nat → Int32)) :=
  if l1 < 0 then (
   some (0, t_has, t_us, t_vs, t_ds)
  ) else (
   if 10 ≤ l1 then (
    some (0, t_has, t_us, t_vs, t_ds)
   ) else (
    bnd1 (f_X12_isNumber t_u t_v t_d) fun r_c11_2 => (
     if r_c11_2 = 0 then (
      some (0, t_has, t_us, t_vs, t_ds)
     ) else (
      gd (ixb l1 10) (
       gd (ixb l1 10) (
        gd (ixb l1 10) (
         gd (ixb l1 10) (
          some (1, (upd t_has l1.toNatClampNeg (vp_nar .boolean 1)), (upd t_us l1.toNatClampNeg t_u.toInt32), (upd t_vs l1.toNatClampNeg t_v.toInt32), (upd t_ds l1.toNatClampNeg t_d.toInt32))
         )
        )
       )
      )
     )
    )
   )
  )
set_option maxHeartbeats 4000000 in
set_option maxRecDepth 100000 in
theorem c_X12_put (l : Launch) (D : va_G) (R : va_W) (h_t : Nat) (z_t_0 : Value) (z_t_1 : Value) (z_t_2 : Value) (z_t_3 : Value) (z_t_4 : Value) (z_t_5 : Value) (t_u : Int64) (t_v : Int64) (t_d : Int64) (z_t_13 : Value) (z_t_14 : Value) (z_t_15 : Value) (z_t_16 : Value) (z_t_17 : Value) (z_t_18 : Value) (z_t_19 : Value) (z_t_20 : Value) (z_t_21 : Value) (z_t_22 : Value) (z_t_23 : Value) (z_t_24 : Value) (z_t_25 : Value) (z_t_26 : Value) (z_t_27 : Value) (z_t_28 : Value) (z_t_29 : Value) (z_t_30 : Value) (z_t_31 : Value) (z_t_32 : Value) (z_t_33 : Value) (z_t_34 : Value) (z_t_35 : Value) (z_t_36 : Value) (z_t_37 : Value) (z_t_38 : Value) (z_t_39 : Value) (z_t_40 : Value) (z_t_41 : Value) (z_t_42 : Value) (z_t_43 : Value) (z_t_44 : Value) (z_t_45 : Value) (z_t_46 : Value) (z_t_47 : Value) (z_t_48 : Value) (z_t_49 : Value) (z_t_50 : Value) (z_t_51 : Value) (z_t_52 : Value) (z_t_53 : Value) (z_t_54 : Value) (z_t_55 : Value) (z_t_56 : Value) (z_t_57 : Value) (z_t_58 : Value) (z_t_59 : Value) (z_t_60 : Value) (h_t_has : Nat) (k_t_has : ClassId) (t_has : Nat → Int32) (h_t_us : Nat) (k_t_us : ClassId) (t_us : Nat → Int32) (h_t_vs : Nat) (k_t_vs : ClassId) (t_vs : Nat → Int32) (h_t_ds : Nat) (k_t_ds : ClassId) (t_ds : Nat → Int32) (l1 : Int32) (r : Int32) (o_t_has : Nat → Int32) (o_t_us : Nat → Int32) (o_t_vs : Nat → Int32) (o_t_ds : Nat → Int32)  (h : f_X12_put t_u t_v t_d t_has t_us t_vs t_ds l1 = some (r, o_t_has, o_t_us, o_t_vs, o_t_ds)) (sz : Nat) : Met l yX12_put (WD yX12_put cX12_put 2 (some .boolean)) ({ frames := 1, cells := 0, slots := 0, locals := 20 }) (va_Pc [.ref h_t, .int l1] (PcW D [(k_t_has, .boolean), (k_t_us, .int), (k_t_vs, .int), (k_t_ds, .int)] ((h_t, .inr (12, (z_t_0 :: z_t_1 :: z_t_2 :: z_t_3 :: z_t_4 :: z_t_5 :: .ref h_t_has :: .ref h_t_us :: .ref h_t_vs :: .ref h_t_ds :: .long t_u :: .long t_v :: .long t_d :: z_t_13 :: z_t_14 :: z_t_15 :: z_t_16 :: z_t_17 :: z_t_18 :: z_t_19 :: z_t_20 :: z_t_21 :: z_t_22 :: z_t_23 :: z_t_24 :: z_t_25 :: z_t_26 :: z_t_27 :: z_t_28 :: z_t_29 :: z_t_30 :: z_t_31 :: z_t_32 :: z_t_33 :: z_t_34 :: z_t_35 :: z_t_36 :: z_t_37 :: z_t_38 :: z_t_39 :: z_t_40 :: z_t_41 :: z_t_42 :: z_t_43 :: z_t_44 :: z_t_45 :: z_t_46 :: z_t_47 :: z_t_48 :: z_t_49 :: z_t_50 :: z_t_51 :: z_t_52 :: z_t_53 :: z_t_54 :: z_t_55 :: z_t_56 :: z_t_57 :: z_t_58 :: z_t_59 :: z_t_60 :: []))) :: (h_t_has, .inl (k_t_has, 10, .inl t_has)) :: (h_t_us, .inl (k_t_us, 10, .inl t_us)) :: (h_t_vs, .inl (k_t_vs, 10, .inl t_vs)) :: (h_t_ds, .inl (k_t_ds, 10, .inl t_ds)) :: R) sz)) (QZ D r ((h_t, .inr (12, (z_t_0 :: z_t_1 :: z_t_2 :: z_t_3 :: z_t_4 :: z_t_5 :: .ref h_t_has :: .ref h_t_us :: .ref h_t_vs :: .ref h_t_ds :: .long t_u :: .long t_v :: .long t_d :: z_t_13 :: z_t_14 :: z_t_15 :: z_t_16 :: z_t_17 :: z_t_18 :: z_t_19 :: z_t_20 :: z_t_21 :: z_t_22 :: z_t_23 :: z_t_24 :: z_t_25 :: z_t_26 :: z_t_27 :: z_t_28 :: z_t_29 :: z_t_30 :: z_t_31 :: z_t_32 :: z_t_33 :: z_t_34 :: z_t_35 :: z_t_36 :: z_t_37 :: z_t_38 :: z_t_39 :: z_t_40 :: z_t_41 :: z_t_42 :: z_t_43 :: z_t_44 :: z_t_45 :: z_t_46 :: z_t_47 :: z_t_48 :: z_t_49 :: z_t_50 :: z_t_51 :: z_t_52 :: z_t_53 :: z_t_54 :: z_t_55 :: z_t_56 :: z_t_57 :: z_t_58 :: z_t_59 :: z_t_60 :: []))) :: (h_t_has, .inl (k_t_has, 10, .inl o_t_has)) :: (h_t_us, .inl (k_t_us, 10, .inl o_t_us)) :: (h_t_vs, .inl (k_t_vs, 10, .inl o_t_vs)) :: (h_t_ds, .inl (k_t_ds, 10, .inl o_t_ds)) :: R) (va_A ((h_t, .inr (12, (z_t_0 :: z_t_1 :: z_t_2 :: z_t_3 :: z_t_4 :: z_t_5 :: .ref h_t_has :: .ref h_t_us :: .ref h_t_vs :: .ref h_t_ds :: .long t_u :: .long t_v :: .long t_d :: z_t_13 :: z_t_14 :: z_t_15 :: z_t_16 :: z_t_17 :: z_t_18 :: z_t_19 :: z_t_20 :: z_t_21 :: z_t_22 :: z_t_23 :: z_t_24 :: z_t_25 :: z_t_26 :: z_t_27 :: z_t_28 :: z_t_29 :: z_t_30 :: z_t_31 :: z_t_32 :: z_t_33 :: z_t_34 :: z_t_35 :: z_t_36 :: z_t_37 :: z_t_38 :: z_t_39 :: z_t_40 :: z_t_41 :: z_t_42 :: z_t_43 :: z_t_44 :: z_t_45 :: z_t_46 :: z_t_47 :: z_t_48 :: z_t_49 :: z_t_50 :: z_t_51 :: z_t_52 :: z_t_53 :: z_t_54 :: z_t_55 :: z_t_56 :: z_t_57 :: z_t_58 :: z_t_59 :: z_t_60 :: []))) :: (h_t_has, .inl (k_t_has, 10, .inl t_has)) :: (h_t_us, .inl (k_t_us, 10, .inl t_us)) :: (h_t_vs, .inl (k_t_vs, 10, .inl t_vs)) :: (h_t_ds, .inl (k_t_ds, 10, .inl t_ds)) :: R) sz)) 0 0 (va_A ((h_t, .inr (12, (z_t_0 :: z_t_1 :: z_t_2 :: z_t_3 :: z_t_4 :: z_t_5 :: .ref h_t_has :: .ref h_t_us :: .ref h_t_vs :: .ref h_t_ds :: .long t_u :: .long t_v :: .long t_d :: z_t_13 :: z_t_14 :: z_t_15 :: z_t_16 :: z_t_17 :: z_t_18 :: z_t_19 :: z_t_20 :: z_t_21 :: z_t_22 :: z_t_23 :: z_t_24 :: z_t_25 :: z_t_26 :: z_t_27 :: z_t_28 :: z_t_29 :: z_t_30 :: z_t_31 :: z_t_32 :: z_t_33 :: z_t_34 :: z_t_35 :: z_t_36 :: z_t_37 :: z_t_38 :: z_t_39 :: z_t_40 :: z_t_41 :: z_t_42 :: z_t_43 :: z_t_44 :: z_t_45 :: z_t_46 :: z_t_47 :: z_t_48 :: z_t_49 :: z_t_50 :: z_t_51 :: z_t_52 :: z_t_53 :: z_t_54 :: z_t_55 :: z_t_56 :: z_t_57 :: z_t_58 :: z_t_59 :: z_t_60 :: []))) :: (h_t_has, .inl (k_t_has, 10, .inl t_has)) :: (h_t_us, .inl (k_t_us, 10, .inl t_us)) :: (h_t_vs, .inl (k_t_vs, 10, .inl t_vs)) :: (h_t_ds, .inl (k_t_ds, 10, .inl t_ds)) :: R) sz) := by
  refine ct_start (QF := fun A => QZ D r ((h_t, .inr (12, (z_t_0 :: z_t_1 :: z_t_2 :: z_t_3 :: z_t_4 :: z_t_5 :: .ref h_t_has :: .ref h_t_us :: .ref h_t_vs :: .ref h_t_ds :: .long t_u :: .long t_v :: .long t_d :: z_t_13 :: z_t_14 :: z_t_15 :: z_t_16 :: z_t_17 :: z_t_18 :: z_t_19 :: z_t_20 :: z_t_21 :: z_t_22 :: z_t_23 :: z_t_24 :: z_t_25 :: z_t_26 :: z_t_27 :: z_t_28 :: z_t_29 :: z_t_30 :: z_t_31 :: z_t_32 :: z_t_33 :: z_t_34 :: z_t_35 :: z_t_36 :: z_t_37 :: z_t_38 :: z_t_39 :: z_t_40 :: z_t_41 :: z_t_42 :: z_t_43 :: z_t_44 :: z_t_45 :: z_t_46 :: z_t_47 :: z_t_48 :: z_t_49 :: z_t_50 :: z_t_51 :: z_t_52 :: z_t_53 :: z_t_54 :: z_t_55 :: z_t_56 :: z_t_57 :: z_t_58 :: z_t_59 :: z_t_60 :: []))) :: (h_t_has, .inl (k_t_has, 10, .inl o_t_has)) :: (h_t_us, .inl (k_t_us, 10, .inl o_t_us)) :: (h_t_vs, .inl (k_t_vs, 10, .inl o_t_vs)) :: (h_t_ds, .inl (k_t_ds, 10, .inl o_t_ds)) :: R) A) ?_ ?_ ?_
  · decide +kernel
  · exact Nat.le_of_ble_eq_true rfl
  intro p e s m args below meth c A ls S hr hlk hnm hS hA hP hD hK hN hl
  have S : CallFix p m c cX12_put 2 s args AL "DigitBenchModel" := S
  have hx := S.1
  have hb := S.2.1
  have hown := S.2.2.2.1
  have ha := S.2.2.2.2
  have hl : lv_has ls 2 [(0, .ref h_t), (1, .int l1)] := hl
  unfold f_X12_put at h
  refine lv_iload_n hx hb dX12_put_0 rfl (lv_at hl 1 rfl) ?_
  refine lv_if_lt (tgt := 17) hx hb dX12_put_1 (by decide) (fun c1 => ?_) (fun c1 => ?_)
  · have h := br_pos c1 h
    refine lv_iconst (v := 0) hx hb dX12_put_17 (by decide) ?_
    cases h
    exact rt_z S hr hlk hP hD hS (by decide) dX12_put_18
  · have h := br_neg c1 h
    refine lv_iload_n hx hb dX12_put_4 rfl (lv_at hl 1 rfl) ?_
    refine lv_bipush (v := 10) hx hb dX12_put_5 (by decide) ?_
    refine lv_icmp_ge (tgt := 17) hx hb dX12_put_7 (by decide) (fun c2 => ?_) (fun c2 => ?_)
    · have h := br_pos c2 h
      refine lv_iconst (v := 0) hx hb dX12_put_17 (by decide) ?_
      cases h
      exact rt_z S hr hlk hP hD hS (by decide) dX12_put_18
    · have h := br_neg c2 h
      refine lv_aload_n hx hb dX12_put_10 rfl (lv_at hl 0 rfl) ?_
      obtain ⟨r_c11_2, e_c11_2, h⟩ := bnd1_ok h
      refine cl_z (rn_v (ci := 12) (As := []) (rest := []) S (c_X12_isNumber l D ((h_t_has, .inl (k_t_has, 10, .inl t_has)) :: (h_t_us, .inl (k_t_us, 10, .inl t_us)) :: (h_t_vs, .inl (k_t_vs, 10, .inl t_vs)) :: (h_t_ds, .inl (k_t_ds, 10, .inl t_ds)) :: R) h_t (z_t_0) (z_t_1) (z_t_2) (z_t_3) (z_t_4) (z_t_5) (.ref h_t_has) (.ref h_t_us) (.ref h_t_vs) (.ref h_t_ds) t_u t_v t_d (z_t_13) (z_t_14) (z_t_15) (z_t_16) (z_t_17) (z_t_18) (z_t_19) (z_t_20) (z_t_21) (z_t_22) (z_t_23) (z_t_24) (z_t_25) (z_t_26) (z_t_27) (z_t_28) (z_t_29) (z_t_30) (z_t_31) (z_t_32) (z_t_33) (z_t_34) (z_t_35) (z_t_36) (z_t_37) (z_t_38) (z_t_39) (z_t_40) (z_t_41) (z_t_42) (z_t_43) (z_t_44) (z_t_45) (z_t_46) (z_t_47) (z_t_48) (z_t_49) (z_t_50) (z_t_51) (z_t_52) (z_t_53) (z_t_54) (z_t_55) (z_t_56) (z_t_57) (z_t_58) (z_t_59) (z_t_60) r_c11_2 e_c11_2 _) q1183 q1185 q29 q61 q1186 nd_X12_isNumber ⟨Nat.le_of_ble_eq_true rfl, Nat.le_of_ble_eq_true rfl⟩ rfl rfl hP hD (hK.sub (tys' := []) [] rfl) hN rfl ⟨0, _, rfl⟩ rfl hl.1 rfl (Nat.le_of_ble_eq_true rfl) dX12_put_11 ⟨Nat.le_of_ble_eq_true rfl, Nat.le_of_ble_eq_true rfl⟩) hS hA hD (fun H locs hP hD hS z_c11_2 => ?_)
      have hP : va_P D vwCl ((h_t, .inr (12, (z_t_0 :: z_t_1 :: z_t_2 :: z_t_3 :: z_t_4 :: z_t_5 :: .ref h_t_has :: .ref h_t_us :: .ref h_t_vs :: .ref h_t_ds :: .long t_u :: .long t_v :: .long t_d :: z_t_13 :: z_t_14 :: z_t_15 :: z_t_16 :: z_t_17 :: z_t_18 :: z_t_19 :: z_t_20 :: z_t_21 :: z_t_22 :: z_t_23 :: z_t_24 :: z_t_25 :: z_t_26 :: z_t_27 :: z_t_28 :: z_t_29 :: z_t_30 :: z_t_31 :: z_t_32 :: z_t_33 :: z_t_34 :: z_t_35 :: z_t_36 :: z_t_37 :: z_t_38 :: z_t_39 :: z_t_40 :: z_t_41 :: z_t_42 :: z_t_43 :: z_t_44 :: z_t_45 :: z_t_46 :: z_t_47 :: z_t_48 :: z_t_49 :: z_t_50 :: z_t_51 :: z_t_52 :: z_t_53 :: z_t_54 :: z_t_55 :: z_t_56 :: z_t_57 :: z_t_58 :: z_t_59 :: z_t_60 :: []))) :: (h_t_has, .inl (k_t_has, 10, .inl t_has)) :: (h_t_us, .inl (k_t_us, 10, .inl t_us)) :: (h_t_vs, .inl (k_t_vs, 10, .inl t_vs)) :: (h_t_ds, .inl (k_t_ds, 10, .inl t_ds)) :: R) H := hP
      have hD : va_D A ((h_t, .inr (12, (z_t_0 :: z_t_1 :: z_t_2 :: z_t_3 :: z_t_4 :: z_t_5 :: .ref h_t_has :: .ref h_t_us :: .ref h_t_vs :: .ref h_t_ds :: .long t_u :: .long t_v :: .long t_d :: z_t_13 :: z_t_14 :: z_t_15 :: z_t_16 :: z_t_17 :: z_t_18 :: z_t_19 :: z_t_20 :: z_t_21 :: z_t_22 :: z_t_23 :: z_t_24 :: z_t_25 :: z_t_26 :: z_t_27 :: z_t_28 :: z_t_29 :: z_t_30 :: z_t_31 :: z_t_32 :: z_t_33 :: z_t_34 :: z_t_35 :: z_t_36 :: z_t_37 :: z_t_38 :: z_t_39 :: z_t_40 :: z_t_41 :: z_t_42 :: z_t_43 :: z_t_44 :: z_t_45 :: z_t_46 :: z_t_47 :: z_t_48 :: z_t_49 :: z_t_50 :: z_t_51 :: z_t_52 :: z_t_53 :: z_t_54 :: z_t_55 :: z_t_56 :: z_t_57 :: z_t_58 :: z_t_59 :: z_t_60 :: []))) :: (h_t_has, .inl (k_t_has, 10, .inl t_has)) :: (h_t_us, .inl (k_t_us, 10, .inl t_us)) :: (h_t_vs, .inl (k_t_vs, 10, .inl t_vs)) :: (h_t_ds, .inl (k_t_ds, 10, .inl t_ds)) :: R) := hD
      refine lv_if_ne (tgt := 19) hx hb dX12_put_14 (by decide) (fun c4 => ?_) (fun c4 => ?_)
      · have h := br_neg c4 h
        refine lv_aload_n hx hb dX12_put_19 rfl (lv_at hl 0 rfl) ?_
        refine va_get (D := D) (ci := 12) (v := .ref h_t_has) (C := RX12) (T := TX12) (N := 61) hx hb ha ix12 hown hK hP 0 rfl rfl 6 (by decide) (ha _ q966) (fun _ h9 => h9) rfl dX12_put_20 ?_
        refine lv_iload_n hx hb dX12_put_23 rfl (lv_at hl 1 rfl) ?_
        refine lv_iconst (v := 1) hx hb dX12_put_24 (by decide) ?_
        obtain ⟨i5, h⟩ := ix_ok h
        refine va_zast hx hb hK hP hD hS 1 0 rfl rfl i5 dX12_put_25 (fun H locs hP hD hS => ?_)
        have hP : va_P D vwCl ((h_t, .inr (12, (z_t_0 :: z_t_1 :: z_t_2 :: z_t_3 :: z_t_4 :: z_t_5 :: .ref h_t_has :: .ref h_t_us :: .ref h_t_vs :: .ref h_t_ds :: .long t_u :: .long t_v :: .long t_d :: z_t_13 :: z_t_14 :: z_t_15 :: z_t_16 :: z_t_17 :: z_t_18 :: z_t_19 :: z_t_20 :: z_t_21 :: z_t_22 :: z_t_23 :: z_t_24 :: z_t_25 :: z_t_26 :: z_t_27 :: z_t_28 :: z_t_29 :: z_t_30 :: z_t_31 :: z_t_32 :: z_t_33 :: z_t_34 :: z_t_35 :: z_t_36 :: z_t_37 :: z_t_38 :: z_t_39 :: z_t_40 :: z_t_41 :: z_t_42 :: z_t_43 :: z_t_44 :: z_t_45 :: z_t_46 :: z_t_47 :: z_t_48 :: z_t_49 :: z_t_50 :: z_t_51 :: z_t_52 :: z_t_53 :: z_t_54 :: z_t_55 :: z_t_56 :: z_t_57 :: z_t_58 :: z_t_59 :: z_t_60 :: []))) :: (h_t_has, .inl (k_t_has, 10, .inl (upd t_has l1.toNatClampNeg (vp_nar .boolean 1)))) :: (h_t_us, .inl (k_t_us, 10, .inl t_us)) :: (h_t_vs, .inl (k_t_vs, 10, .inl t_vs)) :: (h_t_ds, .inl (k_t_ds, 10, .inl t_ds)) :: R) H := hP
        have hD : va_D A ((h_t, .inr (12, (z_t_0 :: z_t_1 :: z_t_2 :: z_t_3 :: z_t_4 :: z_t_5 :: .ref h_t_has :: .ref h_t_us :: .ref h_t_vs :: .ref h_t_ds :: .long t_u :: .long t_v :: .long t_d :: z_t_13 :: z_t_14 :: z_t_15 :: z_t_16 :: z_t_17 :: z_t_18 :: z_t_19 :: z_t_20 :: z_t_21 :: z_t_22 :: z_t_23 :: z_t_24 :: z_t_25 :: z_t_26 :: z_t_27 :: z_t_28 :: z_t_29 :: z_t_30 :: z_t_31 :: z_t_32 :: z_t_33 :: z_t_34 :: z_t_35 :: z_t_36 :: z_t_37 :: z_t_38 :: z_t_39 :: z_t_40 :: z_t_41 :: z_t_42 :: z_t_43 :: z_t_44 :: z_t_45 :: z_t_46 :: z_t_47 :: z_t_48 :: z_t_49 :: z_t_50 :: z_t_51 :: z_t_52 :: z_t_53 :: z_t_54 :: z_t_55 :: z_t_56 :: z_t_57 :: z_t_58 :: z_t_59 :: z_t_60 :: []))) :: (h_t_has, .inl (k_t_has, 10, .inl (upd t_has l1.toNatClampNeg (vp_nar .boolean 1)))) :: (h_t_us, .inl (k_t_us, 10, .inl t_us)) :: (h_t_vs, .inl (k_t_vs, 10, .inl t_vs)) :: (h_t_ds, .inl (k_t_ds, 10, .inl t_ds)) :: R) := hD
        refine lv_aload_n hx hb dX12_put_26 rfl (lv_at hl 0 rfl) ?_
        refine va_get (D := D) (ci := 12) (v := .ref h_t_us) (C := RX12) (T := TX12) (N := 61) hx hb ha ix12 hown hK hP 0 rfl rfl 7 (by decide) (ha _ q967) (fun _ h9 => h9) rfl dX12_put_27 ?_
        refine lv_iload_n hx hb dX12_put_30 rfl (lv_at hl 1 rfl) ?_
        refine lv_aload_n hx hb dX12_put_31 rfl (lv_at hl 0 rfl) ?_
        refine va_get (D := D) (ci := 12) (v := .long t_u) (C := RX12) (T := TX12) (N := 61) hx hb ha ix12 hown hK hP 0 rfl rfl 10 (by decide) (ha _ q970) (fun _ h9 => h9) rfl dX12_put_32 ?_
        refine lv_l2i (v := t_u.toInt32) hx hb dX12_put_35 rfl ?_
        obtain ⟨i6, h⟩ := ix_ok h
        refine va_iast hx hb hK hP hD hS 2 1 rfl rfl i6 dX12_put_36 (fun H locs hP hD hS => ?_)
        have hP : va_P D vwCl ((h_t, .inr (12, (z_t_0 :: z_t_1 :: z_t_2 :: z_t_3 :: z_t_4 :: z_t_5 :: .ref h_t_has :: .ref h_t_us :: .ref h_t_vs :: .ref h_t_ds :: .long t_u :: .long t_v :: .long t_d :: z_t_13 :: z_t_14 :: z_t_15 :: z_t_16 :: z_t_17 :: z_t_18 :: z_t_19 :: z_t_20 :: z_t_21 :: z_t_22 :: z_t_23 :: z_t_24 :: z_t_25 :: z_t_26 :: z_t_27 :: z_t_28 :: z_t_29 :: z_t_30 :: z_t_31 :: z_t_32 :: z_t_33 :: z_t_34 :: z_t_35 :: z_t_36 :: z_t_37 :: z_t_38 :: z_t_39 :: z_t_40 :: z_t_41 :: z_t_42 :: z_t_43 :: z_t_44 :: z_t_45 :: z_t_46 :: z_t_47 :: z_t_48 :: z_t_49 :: z_t_50 :: z_t_51 :: z_t_52 :: z_t_53 :: z_t_54 :: z_t_55 :: z_t_56 :: z_t_57 :: z_t_58 :: z_t_59 :: z_t_60 :: []))) :: (h_t_has, .inl (k_t_has, 10, .inl (upd t_has l1.toNatClampNeg (vp_nar .boolean 1)))) :: (h_t_us, .inl (k_t_us, 10, .inl (upd t_us l1.toNatClampNeg t_u.toInt32))) :: (h_t_vs, .inl (k_t_vs, 10, .inl t_vs)) :: (h_t_ds, .inl (k_t_ds, 10, .inl t_ds)) :: R) H := hP
        have hD : va_D A ((h_t, .inr (12, (z_t_0 :: z_t_1 :: z_t_2 :: z_t_3 :: z_t_4 :: z_t_5 :: .ref h_t_has :: .ref h_t_us :: .ref h_t_vs :: .ref h_t_ds :: .long t_u :: .long t_v :: .long t_d :: z_t_13 :: z_t_14 :: z_t_15 :: z_t_16 :: z_t_17 :: z_t_18 :: z_t_19 :: z_t_20 :: z_t_21 :: z_t_22 :: z_t_23 :: z_t_24 :: z_t_25 :: z_t_26 :: z_t_27 :: z_t_28 :: z_t_29 :: z_t_30 :: z_t_31 :: z_t_32 :: z_t_33 :: z_t_34 :: z_t_35 :: z_t_36 :: z_t_37 :: z_t_38 :: z_t_39 :: z_t_40 :: z_t_41 :: z_t_42 :: z_t_43 :: z_t_44 :: z_t_45 :: z_t_46 :: z_t_47 :: z_t_48 :: z_t_49 :: z_t_50 :: z_t_51 :: z_t_52 :: z_t_53 :: z_t_54 :: z_t_55 :: z_t_56 :: z_t_57 :: z_t_58 :: z_t_59 :: z_t_60 :: []))) :: (h_t_has, .inl (k_t_has, 10, .inl (upd t_has l1.toNatClampNeg (vp_nar .boolean 1)))) :: (h_t_us, .inl (k_t_us, 10, .inl (upd t_us l1.toNatClampNeg t_u.toInt32))) :: (h_t_vs, .inl (k_t_vs, 10, .inl t_vs)) :: (h_t_ds, .inl (k_t_ds, 10, .inl t_ds)) :: R) := hD
        refine lv_aload_n hx hb dX12_put_37 rfl (lv_at hl 0 rfl) ?_
        refine va_get (D := D) (ci := 12) (v := .ref h_t_vs) (C := RX12) (T := TX12) (N := 61) hx hb ha ix12 hown hK hP 0 rfl rfl 8 (by decide) (ha _ q968) (fun _ h9 => h9) rfl dX12_put_38 ?_
        refine lv_iload_n hx hb dX12_put_41 rfl (lv_at hl 1 rfl) ?_
        refine lv_aload_n hx hb dX12_put_42 rfl (lv_at hl 0 rfl) ?_
        refine va_get (D := D) (ci := 12) (v := .long t_v) (C := RX12) (T := TX12) (N := 61) hx hb ha ix12 hown hK hP 0 rfl rfl 11 (by decide) (ha _ q971) (fun _ h9 => h9) rfl dX12_put_43 ?_
        refine lv_l2i (v := t_v.toInt32) hx hb dX12_put_46 rfl ?_
        obtain ⟨i7, h⟩ := ix_ok h
        refine va_iast hx hb hK hP hD hS 3 2 rfl rfl i7 dX12_put_47 (fun H locs hP hD hS => ?_)
        have hP : va_P D vwCl ((h_t, .inr (12, (z_t_0 :: z_t_1 :: z_t_2 :: z_t_3 :: z_t_4 :: z_t_5 :: .ref h_t_has :: .ref h_t_us :: .ref h_t_vs :: .ref h_t_ds :: .long t_u :: .long t_v :: .long t_d :: z_t_13 :: z_t_14 :: z_t_15 :: z_t_16 :: z_t_17 :: z_t_18 :: z_t_19 :: z_t_20 :: z_t_21 :: z_t_22 :: z_t_23 :: z_t_24 :: z_t_25 :: z_t_26 :: z_t_27 :: z_t_28 :: z_t_29 :: z_t_30 :: z_t_31 :: z_t_32 :: z_t_33 :: z_t_34 :: z_t_35 :: z_t_36 :: z_t_37 :: z_t_38 :: z_t_39 :: z_t_40 :: z_t_41 :: z_t_42 :: z_t_43 :: z_t_44 :: z_t_45 :: z_t_46 :: z_t_47 :: z_t_48 :: z_t_49 :: z_t_50 :: z_t_51 :: z_t_52 :: z_t_53 :: z_t_54 :: z_t_55 :: z_t_56 :: z_t_57 :: z_t_58 :: z_t_59 :: z_t_60 :: []))) :: (h_t_has, .inl (k_t_has, 10, .inl (upd t_has l1.toNatClampNeg (vp_nar .boolean 1)))) :: (h_t_us, .inl (k_t_us, 10, .inl (upd t_us l1.toNatClampNeg t_u.toInt32))) :: (h_t_vs, .inl (k_t_vs, 10, .inl (upd t_vs l1.toNatClampNeg t_v.toInt32))) :: (h_t_ds, .inl (k_t_ds, 10, .inl t_ds)) :: R) H := hP
        have hD : va_D A ((h_t, .inr (12, (z_t_0 :: z_t_1 :: z_t_2 :: z_t_3 :: z_t_4 :: z_t_5 :: .ref h_t_has :: .ref h_t_us :: .ref h_t_vs :: .ref h_t_ds :: .long t_u :: .long t_v :: .long t_d :: z_t_13 :: z_t_14 :: z_t_15 :: z_t_16 :: z_t_17 :: z_t_18 :: z_t_19 :: z_t_20 :: z_t_21 :: z_t_22 :: z_t_23 :: z_t_24 :: z_t_25 :: z_t_26 :: z_t_27 :: z_t_28 :: z_t_29 :: z_t_30 :: z_t_31 :: z_t_32 :: z_t_33 :: z_t_34 :: z_t_35 :: z_t_36 :: z_t_37 :: z_t_38 :: z_t_39 :: z_t_40 :: z_t_41 :: z_t_42 :: z_t_43 :: z_t_44 :: z_t_45 :: z_t_46 :: z_t_47 :: z_t_48 :: z_t_49 :: z_t_50 :: z_t_51 :: z_t_52 :: z_t_53 :: z_t_54 :: z_t_55 :: z_t_56 :: z_t_57 :: z_t_58 :: z_t_59 :: z_t_60 :: []))) :: (h_t_has, .inl (k_t_has, 10, .inl (upd t_has l1.toNatClampNeg (vp_nar .boolean 1)))) :: (h_t_us, .inl (k_t_us, 10, .inl (upd t_us l1.toNatClampNeg t_u.toInt32))) :: (h_t_vs, .inl (k_t_vs, 10, .inl (upd t_vs l1.toNatClampNeg t_v.toInt32))) :: (h_t_ds, .inl (k_t_ds, 10, .inl t_ds)) :: R) := hD
        refine lv_aload_n hx hb dX12_put_48 rfl (lv_at hl 0 rfl) ?_
        refine va_get (D := D) (ci := 12) (v := .ref h_t_ds) (C := RX12) (T := TX12) (N := 61) hx hb ha ix12 hown hK hP 0 rfl rfl 9 (by decide) (ha _ q969) (fun _ h9 => h9) rfl dX12_put_49 ?_
        refine lv_iload_n hx hb dX12_put_52 rfl (lv_at hl 1 rfl) ?_
        refine lv_aload_n hx hb dX12_put_53 rfl (lv_at hl 0 rfl) ?_
        refine va_get (D := D) (ci := 12) (v := .long t_d) (C := RX12) (T := TX12) (N := 61) hx hb ha ix12 hown hK hP 0 rfl rfl 12 (by decide) (ha _ q972) (fun _ h9 => h9) rfl dX12_put_54 ?_
        refine lv_l2i (v := t_d.toInt32) hx hb dX12_put_57 rfl ?_
        obtain ⟨i8, h⟩ := ix_ok h
        refine va_iast hx hb hK hP hD hS 4 3 rfl rfl i8 dX12_put_58 (fun H locs hP hD hS => ?_)
        have hP : va_P D vwCl ((h_t, .inr (12, (z_t_0 :: z_t_1 :: z_t_2 :: z_t_3 :: z_t_4 :: z_t_5 :: .ref h_t_has :: .ref h_t_us :: .ref h_t_vs :: .ref h_t_ds :: .long t_u :: .long t_v :: .long t_d :: z_t_13 :: z_t_14 :: z_t_15 :: z_t_16 :: z_t_17 :: z_t_18 :: z_t_19 :: z_t_20 :: z_t_21 :: z_t_22 :: z_t_23 :: z_t_24 :: z_t_25 :: z_t_26 :: z_t_27 :: z_t_28 :: z_t_29 :: z_t_30 :: z_t_31 :: z_t_32 :: z_t_33 :: z_t_34 :: z_t_35 :: z_t_36 :: z_t_37 :: z_t_38 :: z_t_39 :: z_t_40 :: z_t_41 :: z_t_42 :: z_t_43 :: z_t_44 :: z_t_45 :: z_t_46 :: z_t_47 :: z_t_48 :: z_t_49 :: z_t_50 :: z_t_51 :: z_t_52 :: z_t_53 :: z_t_54 :: z_t_55 :: z_t_56 :: z_t_57 :: z_t_58 :: z_t_59 :: z_t_60 :: []))) :: (h_t_has, .inl (k_t_has, 10, .inl (upd t_has l1.toNatClampNeg (vp_nar .boolean 1)))) :: (h_t_us, .inl (k_t_us, 10, .inl (upd t_us l1.toNatClampNeg t_u.toInt32))) :: (h_t_vs, .inl (k_t_vs, 10, .inl (upd t_vs l1.toNatClampNeg t_v.toInt32))) :: (h_t_ds, .inl (k_t_ds, 10, .inl (upd t_ds l1.toNatClampNeg t_d.toInt32))) :: R) H := hP
        have hD : va_D A ((h_t, .inr (12, (z_t_0 :: z_t_1 :: z_t_2 :: z_t_3 :: z_t_4 :: z_t_5 :: .ref h_t_has :: .ref h_t_us :: .ref h_t_vs :: .ref h_t_ds :: .long t_u :: .long t_v :: .long t_d :: z_t_13 :: z_t_14 :: z_t_15 :: z_t_16 :: z_t_17 :: z_t_18 :: z_t_19 :: z_t_20 :: z_t_21 :: z_t_22 :: z_t_23 :: z_t_24 :: z_t_25 :: z_t_26 :: z_t_27 :: z_t_28 :: z_t_29 :: z_t_30 :: z_t_31 :: z_t_32 :: z_t_33 :: z_t_34 :: z_t_35 :: z_t_36 :: z_t_37 :: z_t_38 :: z_t_39 :: z_t_40 :: z_t_41 :: z_t_42 :: z_t_43 :: z_t_44 :: z_t_45 :: z_t_46 :: z_t_47 :: z_t_48 :: z_t_49 :: z_t_50 :: z_t_51 :: z_t_52 :: z_t_53 :: z_t_54 :: z_t_55 :: z_t_56 :: z_t_57 :: z_t_58 :: z_t_59 :: z_t_60 :: []))) :: (h_t_has, .inl (k_t_has, 10, .inl (upd t_has l1.toNatClampNeg (vp_nar .boolean 1)))) :: (h_t_us, .inl (k_t_us, 10, .inl (upd t_us l1.toNatClampNeg t_u.toInt32))) :: (h_t_vs, .inl (k_t_vs, 10, .inl (upd t_vs l1.toNatClampNeg t_v.toInt32))) :: (h_t_ds, .inl (k_t_ds, 10, .inl (upd t_ds l1.toNatClampNeg t_d.toInt32))) :: R) := hD
        refine lv_iconst (v := 1) hx hb dX12_put_59 (by decide) ?_
        cases h
        exact rt_z S hr hlk hP hD hS (by decide) dX12_put_60
      · have h := br_pos c4 h
        refine lv_iconst (v := 0) hx hb dX12_put_17 (by decide) ?_
        cases h
        exact rt_z S hr hlk hP hD hS (by decide) dX12_put_18
noncomputable def f_X12_number (t_thrown : Int32) (t_u : Int64) (t_v : Int64) (t_d : Int64) (t_has : Nat → Int32) (t_us : Nat → Int32) (t_vs : Nat → Int32) (t_ds : Nat → Int32) (l1 : Int32) (l2 : Int32) (l3 : Int32) (l4 : Int32) : Option (Int32 × Int32 × Int64 × Int64 × Int64 × (Nat → Int32) × (Nat → Int32) × (Nat → Int32) × (Nat → Int32)) :=
  if 0 < l4 then (
   bnd3 (f_X12_set t_u t_v t_d l2.toInt64 l3.toInt64 l4.toInt64) fun t_u_c20_1 t_v_c20_1 t_d_c20_1 => (
    bnd5 (f_X12_put t_u_c20_1 t_v_c20_1 t_d_c20_1 t_has t_us t_vs t_ds l1) fun r_c25_2 t_has_c25_2 t_us_c25_2 t_vs_c25_2 t_ds_c25_2 => (
     some (r_c25_2, 0, t_u_c20_1, t_v_c20_1, t_d_c20_1, t_has_c25_2, t_us_c25_2, t_vs_c25_2, t_ds_c25_2)
    )
   )
  ) else (
   some (0, 0, t_u, t_v, t_d, t_has, t_us, t_vs, t_ds)
  )
set_option maxHeartbeats 4000000 in
set_option maxRecDepth 100000 in
theorem c_X12_number (l : Launch) (D : va_G) (R : va_W) (h_t : Nat) (t_thrown : Int32) (z_t_1 : Value) (z_t_2 : Value) (z_t_3 : Value) (z_t_4 : Value) (z_t_5 : Value) (t_u : Int64) (t_v : Int64) (t_d : Int64) (z_t_13 : Value) (z_t_14 : Value) (z_t_15 : Value) (z_t_16 : Value) (z_t_17 : Value) (z_t_18 : Value) (z_t_19 : Value) (z_t_20 : Value) (z_t_21 : Value) (z_t_22 : Value) (z_t_23 : Value) (z_t_24 : Value) (z_t_25 : Value) (z_t_26 : Value) (z_t_27 : Value) (z_t_28 : Value) (z_t_29 : Value) (z_t_30 : Value) (z_t_31 : Value) (z_t_32 : Value) (z_t_33 : Value) (z_t_34 : Value) (z_t_35 : Value) (z_t_36 : Value) (z_t_37 : Value) (z_t_38 : Value) (z_t_39 : Value) (z_t_40 : Value) (z_t_41 : Value) (z_t_42 : Value) (z_t_43 : Value) (z_t_44 : Value) (z_t_45 : Value) (z_t_46 : Value) (z_t_47 : Value) (z_t_48 : Value) (z_t_49 : Value) (z_t_50 : Value) (z_t_51 : Value) (z_t_52 : Value) (z_t_53 : Value) (z_t_54 : Value) (z_t_55 : Value) (z_t_56 : Value) (z_t_57 : Value) (z_t_58 : Value) (z_t_59 : Value) (z_t_60 : Value) (h_t_has : Nat) (k_t_has : ClassId) (t_has : Nat → Int32) (h_t_us : Nat) (k_t_us : ClassId) (t_us : Nat → Int32) (h_t_vs : Nat) (k_t_vs : ClassId) (t_vs : Nat → Int32) (h_t_ds : Nat) (k_t_ds : ClassId) (t_ds : Nat → Int32) (l1 : Int32) (l2 : Int32) (l3 : Int32) (l4 : Int32) (r : Int32) (o_t_thrown : Int32) (o_t_u : Int64) (o_t_v : Int64) (o_t_d : Int64) (o_t_has : Nat → Int32) (o_t_us : Nat → Int32) (o_t_vs : Nat → Int32) (o_t_ds : Nat → Int32)  (h : f_X12_number t_thrown t_u t_v t_d t_has t_us t_vs t_ds l1 l2 l3 l4 = some (r, o_t_thrown, o_t_u, o_t_v, o_t_d, o_t_has, o_t_us, o_t_vs, o_t_ds)) (sz : Nat) : Met l yX12_number (WD yX12_number cX12_number 5 (some .boolean)) ({ frames := 2, cells := 0, slots := 0, locals := 57 }) (va_Pc [.ref h_t, .int l1, .int l2, .int l3, .int l4] (PcW D [(k_t_has, .boolean), (k_t_us, .int), (k_t_vs, .int), (k_t_ds, .int)] ((h_t, .inr (12, (.int t_thrown :: z_t_1 :: z_t_2 :: z_t_3 :: z_t_4 :: z_t_5 :: .ref h_t_has :: .ref h_t_us :: .ref h_t_vs :: .ref h_t_ds :: .long t_u :: .long t_v :: .long t_d :: z_t_13 :: z_t_14 :: z_t_15 :: z_t_16 :: z_t_17 :: z_t_18 :: z_t_19 :: z_t_20 :: z_t_21 :: z_t_22 :: z_t_23 :: z_t_24 :: z_t_25 :: z_t_26 :: z_t_27 :: z_t_28 :: z_t_29 :: z_t_30 :: z_t_31 :: z_t_32 :: z_t_33 :: z_t_34 :: z_t_35 :: z_t_36 :: z_t_37 :: z_t_38 :: z_t_39 :: z_t_40 :: z_t_41 :: z_t_42 :: z_t_43 :: z_t_44 :: z_t_45 :: z_t_46 :: z_t_47 :: z_t_48 :: z_t_49 :: z_t_50 :: z_t_51 :: z_t_52 :: z_t_53 :: z_t_54 :: z_t_55 :: z_t_56 :: z_t_57 :: z_t_58 :: z_t_59 :: z_t_60 :: []))) :: (h_t_has, .inl (k_t_has, 10, .inl t_has)) :: (h_t_us, .inl (k_t_us, 10, .inl t_us)) :: (h_t_vs, .inl (k_t_vs, 10, .inl t_vs)) :: (h_t_ds, .inl (k_t_ds, 10, .inl t_ds)) :: R) sz)) (QZ D r ((h_t, .inr (12, (.int o_t_thrown :: z_t_1 :: z_t_2 :: z_t_3 :: z_t_4 :: z_t_5 :: .ref h_t_has :: .ref h_t_us :: .ref h_t_vs :: .ref h_t_ds :: .long o_t_u :: .long o_t_v :: .long o_t_d :: z_t_13 :: z_t_14 :: z_t_15 :: z_t_16 :: z_t_17 :: z_t_18 :: z_t_19 :: z_t_20 :: z_t_21 :: z_t_22 :: z_t_23 :: z_t_24 :: z_t_25 :: z_t_26 :: z_t_27 :: z_t_28 :: z_t_29 :: z_t_30 :: z_t_31 :: z_t_32 :: z_t_33 :: z_t_34 :: z_t_35 :: z_t_36 :: z_t_37 :: z_t_38 :: z_t_39 :: z_t_40 :: z_t_41 :: z_t_42 :: z_t_43 :: z_t_44 :: z_t_45 :: z_t_46 :: z_t_47 :: z_t_48 :: z_t_49 :: z_t_50 :: z_t_51 :: z_t_52 :: z_t_53 :: z_t_54 :: z_t_55 :: z_t_56 :: z_t_57 :: z_t_58 :: z_t_59 :: z_t_60 :: []))) :: (h_t_has, .inl (k_t_has, 10, .inl o_t_has)) :: (h_t_us, .inl (k_t_us, 10, .inl o_t_us)) :: (h_t_vs, .inl (k_t_vs, 10, .inl o_t_vs)) :: (h_t_ds, .inl (k_t_ds, 10, .inl o_t_ds)) :: R) (va_A ((h_t, .inr (12, (.int t_thrown :: z_t_1 :: z_t_2 :: z_t_3 :: z_t_4 :: z_t_5 :: .ref h_t_has :: .ref h_t_us :: .ref h_t_vs :: .ref h_t_ds :: .long t_u :: .long t_v :: .long t_d :: z_t_13 :: z_t_14 :: z_t_15 :: z_t_16 :: z_t_17 :: z_t_18 :: z_t_19 :: z_t_20 :: z_t_21 :: z_t_22 :: z_t_23 :: z_t_24 :: z_t_25 :: z_t_26 :: z_t_27 :: z_t_28 :: z_t_29 :: z_t_30 :: z_t_31 :: z_t_32 :: z_t_33 :: z_t_34 :: z_t_35 :: z_t_36 :: z_t_37 :: z_t_38 :: z_t_39 :: z_t_40 :: z_t_41 :: z_t_42 :: z_t_43 :: z_t_44 :: z_t_45 :: z_t_46 :: z_t_47 :: z_t_48 :: z_t_49 :: z_t_50 :: z_t_51 :: z_t_52 :: z_t_53 :: z_t_54 :: z_t_55 :: z_t_56 :: z_t_57 :: z_t_58 :: z_t_59 :: z_t_60 :: []))) :: (h_t_has, .inl (k_t_has, 10, .inl t_has)) :: (h_t_us, .inl (k_t_us, 10, .inl t_us)) :: (h_t_vs, .inl (k_t_vs, 10, .inl t_vs)) :: (h_t_ds, .inl (k_t_ds, 10, .inl t_ds)) :: R) sz)) 0 0 (va_A ((h_t, .inr (12, (.int t_thrown :: z_t_1 :: z_t_2 :: z_t_3 :: z_t_4 :: z_t_5 :: .ref h_t_has :: .ref h_t_us :: .ref h_t_vs :: .ref h_t_ds :: .long t_u :: .long t_v :: .long t_d :: z_t_13 :: z_t_14 :: z_t_15 :: z_t_16 :: z_t_17 :: z_t_18 :: z_t_19 :: z_t_20 :: z_t_21 :: z_t_22 :: z_t_23 :: z_t_24 :: z_t_25 :: z_t_26 :: z_t_27 :: z_t_28 :: z_t_29 :: z_t_30 :: z_t_31 :: z_t_32 :: z_t_33 :: z_t_34 :: z_t_35 :: z_t_36 :: z_t_37 :: z_t_38 :: z_t_39 :: z_t_40 :: z_t_41 :: z_t_42 :: z_t_43 :: z_t_44 :: z_t_45 :: z_t_46 :: z_t_47 :: z_t_48 :: z_t_49 :: z_t_50 :: z_t_51 :: z_t_52 :: z_t_53 :: z_t_54 :: z_t_55 :: z_t_56 :: z_t_57 :: z_t_58 :: z_t_59 :: z_t_60 :: []))) :: (h_t_has, .inl (k_t_has, 10, .inl t_has)) :: (h_t_us, .inl (k_t_us, 10, .inl t_us)) :: (h_t_vs, .inl (k_t_vs, 10, .inl t_vs)) :: (h_t_ds, .inl (k_t_ds, 10, .inl t_ds)) :: R) sz) := by
  refine ct_start (QF := fun A => QZ D r ((h_t, .inr (12, (.int o_t_thrown :: z_t_1 :: z_t_2 :: z_t_3 :: z_t_4 :: z_t_5 :: .ref h_t_has :: .ref h_t_us :: .ref h_t_vs :: .ref h_t_ds :: .long o_t_u :: .long o_t_v :: .long o_t_d :: z_t_13 :: z_t_14 :: z_t_15 :: z_t_16 :: z_t_17 :: z_t_18 :: z_t_19 :: z_t_20 :: z_t_21 :: z_t_22 :: z_t_23 :: z_t_24 :: z_t_25 :: z_t_26 :: z_t_27 :: z_t_28 :: z_t_29 :: z_t_30 :: z_t_31 :: z_t_32 :: z_t_33 :: z_t_34 :: z_t_35 :: z_t_36 :: z_t_37 :: z_t_38 :: z_t_39 :: z_t_40 :: z_t_41 :: z_t_42 :: z_t_43 :: z_t_44 :: z_t_45 :: z_t_46 :: z_t_47 :: z_t_48 :: z_t_49 :: z_t_50 :: z_t_51 :: z_t_52 :: z_t_53 :: z_t_54 :: z_t_55 :: z_t_56 :: z_t_57 :: z_t_58 :: z_t_59 :: z_t_60 :: []))) :: (h_t_has, .inl (k_t_has, 10, .inl o_t_has)) :: (h_t_us, .inl (k_t_us, 10, .inl o_t_us)) :: (h_t_vs, .inl (k_t_vs, 10, .inl o_t_vs)) :: (h_t_ds, .inl (k_t_ds, 10, .inl o_t_ds)) :: R) A) ?_ ?_ ?_
  · decide +kernel
  · exact Nat.le_of_ble_eq_true rfl
  intro p e s m args below meth c A ls S hr hlk hnm hS hA hP hD hK hN hl
  have S : CallFix p m c cX12_number 5 s args AL "DigitBenchModel" := S
  have hx := S.1
  have hb := S.2.1
  have hown := S.2.2.2.1
  have ha := S.2.2.2.2
  have hl : lv_has ls 5 [(0, .ref h_t), (1, .int l1), (2, .int l2), (3, .int l3), (4, .int l4)] := hl
  unfold f_X12_number at h
  refine lv_aload_n hx hb dX12_number_0 rfl (lv_at hl 0 rfl) ?_
  refine lv_iconst (v := 0) hx hb dX12_number_1 (by decide) ?_
  refine va_put (D := D) (ci := 12) (v := .int 0) (ty := .int) (C := RX12) (T := TX12) (N := 61) hx hb ha ix12 tyX12 tyX12_ok nmX12 hown hK hP hD hS 0 rfl rfl 0 (by decide) (ha _ q960) (fun _ h9 => h9) rfl (by decide +kernel) rfl rfl (Nat.le_of_ble_eq_true rfl) dX12_number_2 (fun H locs hP hD hS => ?_)
  have hP : va_P D vwCl ((h_t, .inr (12, (.int 0 :: z_t_1 :: z_t_2 :: z_t_3 :: z_t_4 :: z_t_5 :: .ref h_t_has :: .ref h_t_us :: .ref h_t_vs :: .ref h_t_ds :: .long t_u :: .long t_v :: .long t_d :: z_t_13 :: z_t_14 :: z_t_15 :: z_t_16 :: z_t_17 :: z_t_18 :: z_t_19 :: z_t_20 :: z_t_21 :: z_t_22 :: z_t_23 :: z_t_24 :: z_t_25 :: z_t_26 :: z_t_27 :: z_t_28 :: z_t_29 :: z_t_30 :: z_t_31 :: z_t_32 :: z_t_33 :: z_t_34 :: z_t_35 :: z_t_36 :: z_t_37 :: z_t_38 :: z_t_39 :: z_t_40 :: z_t_41 :: z_t_42 :: z_t_43 :: z_t_44 :: z_t_45 :: z_t_46 :: z_t_47 :: z_t_48 :: z_t_49 :: z_t_50 :: z_t_51 :: z_t_52 :: z_t_53 :: z_t_54 :: z_t_55 :: z_t_56 :: z_t_57 :: z_t_58 :: z_t_59 :: z_t_60 :: []))) :: (h_t_has, .inl (k_t_has, 10, .inl t_has)) :: (h_t_us, .inl (k_t_us, 10, .inl t_us)) :: (h_t_vs, .inl (k_t_vs, 10, .inl t_vs)) :: (h_t_ds, .inl (k_t_ds, 10, .inl t_ds)) :: R) H := hP
  have hD : va_D A ((h_t, .inr (12, (.int 0 :: z_t_1 :: z_t_2 :: z_t_3 :: z_t_4 :: z_t_5 :: .ref h_t_has :: .ref h_t_us :: .ref h_t_vs :: .ref h_t_ds :: .long t_u :: .long t_v :: .long t_d :: z_t_13 :: z_t_14 :: z_t_15 :: z_t_16 :: z_t_17 :: z_t_18 :: z_t_19 :: z_t_20 :: z_t_21 :: z_t_22 :: z_t_23 :: z_t_24 :: z_t_25 :: z_t_26 :: z_t_27 :: z_t_28 :: z_t_29 :: z_t_30 :: z_t_31 :: z_t_32 :: z_t_33 :: z_t_34 :: z_t_35 :: z_t_36 :: z_t_37 :: z_t_38 :: z_t_39 :: z_t_40 :: z_t_41 :: z_t_42 :: z_t_43 :: z_t_44 :: z_t_45 :: z_t_46 :: z_t_47 :: z_t_48 :: z_t_49 :: z_t_50 :: z_t_51 :: z_t_52 :: z_t_53 :: z_t_54 :: z_t_55 :: z_t_56 :: z_t_57 :: z_t_58 :: z_t_59 :: z_t_60 :: []))) :: (h_t_has, .inl (k_t_has, 10, .inl t_has)) :: (h_t_us, .inl (k_t_us, 10, .inl t_us)) :: (h_t_vs, .inl (k_t_vs, 10, .inl t_vs)) :: (h_t_ds, .inl (k_t_ds, 10, .inl t_ds)) :: R) := hD
  refine lv_iload hx hb dX12_number_5 (lv_at hl 4 rfl) ?_
  refine lv_if_gt (tgt := 12) hx hb dX12_number_7 (by decide) (fun c1 => ?_) (fun c1 => ?_)
  · have h := br_pos c1 h
    refine lv_aload_n hx hb dX12_number_12 rfl (lv_at hl 0 rfl) ?_
    refine lv_iload_n hx hb dX12_number_13 rfl (lv_at hl 2 rfl) ?_
    refine lv_i2l (v := l2.toInt64) hx hb dX12_number_14 rfl ?_
    refine lv_iload_n hx hb dX12_number_15 rfl (lv_at hl 3 rfl) ?_
    refine lv_i2l (v := l3.toInt64) hx hb dX12_number_16 rfl ?_
    refine lv_iload hx hb dX12_number_17 (lv_at hl 4 rfl) ?_
    refine lv_i2l (v := l4.toInt64) hx hb dX12_number_19 rfl ?_
    obtain ⟨t_u_c20_1, t_v_c20_1, t_d_c20_1, e_c20_1, h⟩ := bnd3_ok h
    refine cl_v (rn_v (ci := 12) (As := [.long l2.toInt64, .long l3.toInt64, .long l4.toInt64]) (rest := []) S (c_X12_set l D ((h_t_has, .inl (k_t_has, 10, .inl t_has)) :: (h_t_us, .inl (k_t_us, 10, .inl t_us)) :: (h_t_vs, .inl (k_t_vs, 10, .inl t_vs)) :: (h_t_ds, .inl (k_t_ds, 10, .inl t_ds)) :: R) h_t (.int 0) (z_t_1) (z_t_2) (z_t_3) (z_t_4) (z_t_5) (.ref h_t_has) (.ref h_t_us) (.ref h_t_vs) (.ref h_t_ds) t_u t_v t_d (z_t_13) (z_t_14) (z_t_15) (z_t_16) (z_t_17) (z_t_18) (z_t_19) (z_t_20) (z_t_21) (z_t_22) (z_t_23) (z_t_24) (z_t_25) (z_t_26) (z_t_27) (z_t_28) (z_t_29) (z_t_30) (z_t_31) (z_t_32) (z_t_33) (z_t_34) (z_t_35) (z_t_36) (z_t_37) (z_t_38) (z_t_39) (z_t_40) (z_t_41) (z_t_42) (z_t_43) (z_t_44) (z_t_45) (z_t_46) (z_t_47) (z_t_48) (z_t_49) (z_t_50) (z_t_51) (z_t_52) (z_t_53) (z_t_54) (z_t_55) (z_t_56) (z_t_57) (z_t_58) (z_t_59) (z_t_60) l2.toInt64 l3.toInt64 l4.toInt64 t_u_c20_1 t_v_c20_1 t_d_c20_1 e_c20_1 _) q1172 q1174 q27 q61 q1175 nd_X12_set ⟨Nat.le_of_ble_eq_true rfl, Nat.le_of_ble_eq_true rfl⟩ rfl rfl hP hD (hK.sub (tys' := []) [] rfl) hN rfl ⟨0, _, rfl⟩ rfl hl.1 rfl (Nat.le_of_ble_eq_true rfl) dX12_number_20 ⟨Nat.le_of_ble_eq_true rfl, Nat.le_of_ble_eq_true rfl⟩) hS hA hD (fun H locs hP hD hS => ?_)
    have hP : va_P D vwCl ((h_t, .inr (12, (.int 0 :: z_t_1 :: z_t_2 :: z_t_3 :: z_t_4 :: z_t_5 :: .ref h_t_has :: .ref h_t_us :: .ref h_t_vs :: .ref h_t_ds :: .long t_u_c20_1 :: .long t_v_c20_1 :: .long t_d_c20_1 :: z_t_13 :: z_t_14 :: z_t_15 :: z_t_16 :: z_t_17 :: z_t_18 :: z_t_19 :: z_t_20 :: z_t_21 :: z_t_22 :: z_t_23 :: z_t_24 :: z_t_25 :: z_t_26 :: z_t_27 :: z_t_28 :: z_t_29 :: z_t_30 :: z_t_31 :: z_t_32 :: z_t_33 :: z_t_34 :: z_t_35 :: z_t_36 :: z_t_37 :: z_t_38 :: z_t_39 :: z_t_40 :: z_t_41 :: z_t_42 :: z_t_43 :: z_t_44 :: z_t_45 :: z_t_46 :: z_t_47 :: z_t_48 :: z_t_49 :: z_t_50 :: z_t_51 :: z_t_52 :: z_t_53 :: z_t_54 :: z_t_55 :: z_t_56 :: z_t_57 :: z_t_58 :: z_t_59 :: z_t_60 :: []))) :: (h_t_has, .inl (k_t_has, 10, .inl t_has)) :: (h_t_us, .inl (k_t_us, 10, .inl t_us)) :: (h_t_vs, .inl (k_t_vs, 10, .inl t_vs)) :: (h_t_ds, .inl (k_t_ds, 10, .inl t_ds)) :: R) H := hP
    have hD : va_D A ((h_t, .inr (12, (.int 0 :: z_t_1 :: z_t_2 :: z_t_3 :: z_t_4 :: z_t_5 :: .ref h_t_has :: .ref h_t_us :: .ref h_t_vs :: .ref h_t_ds :: .long t_u_c20_1 :: .long t_v_c20_1 :: .long t_d_c20_1 :: z_t_13 :: z_t_14 :: z_t_15 :: z_t_16 :: z_t_17 :: z_t_18 :: z_t_19 :: z_t_20 :: z_t_21 :: z_t_22 :: z_t_23 :: z_t_24 :: z_t_25 :: z_t_26 :: z_t_27 :: z_t_28 :: z_t_29 :: z_t_30 :: z_t_31 :: z_t_32 :: z_t_33 :: z_t_34 :: z_t_35 :: z_t_36 :: z_t_37 :: z_t_38 :: z_t_39 :: z_t_40 :: z_t_41 :: z_t_42 :: z_t_43 :: z_t_44 :: z_t_45 :: z_t_46 :: z_t_47 :: z_t_48 :: z_t_49 :: z_t_50 :: z_t_51 :: z_t_52 :: z_t_53 :: z_t_54 :: z_t_55 :: z_t_56 :: z_t_57 :: z_t_58 :: z_t_59 :: z_t_60 :: []))) :: (h_t_has, .inl (k_t_has, 10, .inl t_has)) :: (h_t_us, .inl (k_t_us, 10, .inl t_us)) :: (h_t_vs, .inl (k_t_vs, 10, .inl t_vs)) :: (h_t_ds, .inl (k_t_ds, 10, .inl t_ds)) :: R) := hD
    refine lv_aload_n hx hb dX12_number_23 rfl (lv_at hl 0 rfl) ?_
    refine lv_iload_n hx hb dX12_number_24 rfl (lv_at hl 1 rfl) ?_
    obtain ⟨r_c25_2, t_has_c25_2, t_us_c25_2, t_vs_c25_2, t_ds_c25_2, e_c25_2, h⟩ := bnd5_ok h
    refine cl_z (rn_v (ci := 12) (As := [.int l1]) (rest := []) S (c_X12_put l D (R) h_t (.int 0) (z_t_1) (z_t_2) (z_t_3) (z_t_4) (z_t_5) t_u_c20_1 t_v_c20_1 t_d_c20_1 (z_t_13) (z_t_14) (z_t_15) (z_t_16) (z_t_17) (z_t_18) (z_t_19) (z_t_20) (z_t_21) (z_t_22) (z_t_23) (z_t_24) (z_t_25) (z_t_26) (z_t_27) (z_t_28) (z_t_29) (z_t_30) (z_t_31) (z_t_32) (z_t_33) (z_t_34) (z_t_35) (z_t_36) (z_t_37) (z_t_38) (z_t_39) (z_t_40) (z_t_41) (z_t_42) (z_t_43) (z_t_44) (z_t_45) (z_t_46) (z_t_47) (z_t_48) (z_t_49) (z_t_50) (z_t_51) (z_t_52) (z_t_53) (z_t_54) (z_t_55) (z_t_56) (z_t_57) (z_t_58) (z_t_59) (z_t_60) h_t_has k_t_has t_has h_t_us k_t_us t_us h_t_vs k_t_vs t_vs h_t_ds k_t_ds t_ds l1 r_c25_2 t_has_c25_2 t_us_c25_2 t_vs_c25_2 t_ds_c25_2 e_c25_2 _) q1179 q1181 q28 q61 q1182 nd_X12_put ⟨Nat.le_of_ble_eq_true rfl, Nat.le_of_ble_eq_true rfl⟩ rfl rfl hP hD (hK.sub (tys' := [(k_t_has, .boolean), (k_t_us, .int), (k_t_vs, .int), (k_t_ds, .int)]) [0, 1, 2, 3] rfl) hN rfl ⟨0, _, rfl⟩ rfl hl.1 rfl (Nat.le_of_ble_eq_true rfl) dX12_number_25 ⟨Nat.le_of_ble_eq_true rfl, Nat.le_of_ble_eq_true rfl⟩) hS hA hD (fun H locs hP hD hS z_c25_2 => ?_)
    have hP : va_P D vwCl ((h_t, .inr (12, (.int 0 :: z_t_1 :: z_t_2 :: z_t_3 :: z_t_4 :: z_t_5 :: .ref h_t_has :: .ref h_t_us :: .ref h_t_vs :: .ref h_t_ds :: .long t_u_c20_1 :: .long t_v_c20_1 :: .long t_d_c20_1 :: z_t_13 :: z_t_14 :: z_t_15 :: z_t_16 :: z_t_17 :: z_t_18 :: z_t_19 :: z_t_20 :: z_t_21 :: z_t_22 :: z_t_23 :: z_t_24 :: z_t_25 :: z_t_26 :: z_t_27 :: z_t_28 :: z_t_29 :: z_t_30 :: z_t_31 :: z_t_32 :: z_t_33 :: z_t_34 :: z_t_35 :: z_t_36 :: z_t_37 :: z_t_38 :: z_t_39 :: z_t_40 :: z_t_41 :: z_t_42 :: z_t_43 :: z_t_44 :: z_t_45 :: z_t_46 :: z_t_47 :: z_t_48 :: z_t_49 :: z_t_50 :: z_t_51 :: z_t_52 :: z_t_53 :: z_t_54 :: z_t_55 :: z_t_56 :: z_t_57 :: z_t_58 :: z_t_59 :: z_t_60 :: []))) :: (h_t_has, .inl (k_t_has, 10, .inl t_has_c25_2)) :: (h_t_us, .inl (k_t_us, 10, .inl t_us_c25_2)) :: (h_t_vs, .inl (k_t_vs, 10, .inl t_vs_c25_2)) :: (h_t_ds, .inl (k_t_ds, 10, .inl t_ds_c25_2)) :: R) H := hP
    have hD : va_D A ((h_t, .inr (12, (.int 0 :: z_t_1 :: z_t_2 :: z_t_3 :: z_t_4 :: z_t_5 :: .ref h_t_has :: .ref h_t_us :: .ref h_t_vs :: .ref h_t_ds :: .long t_u_c20_1 :: .long t_v_c20_1 :: .long t_d_c20_1 :: z_t_13 :: z_t_14 :: z_t_15 :: z_t_16 :: z_t_17 :: z_t_18 :: z_t_19 :: z_t_20 :: z_t_21 :: z_t_22 :: z_t_23 :: z_t_24 :: z_t_25 :: z_t_26 :: z_t_27 :: z_t_28 :: z_t_29 :: z_t_30 :: z_t_31 :: z_t_32 :: z_t_33 :: z_t_34 :: z_t_35 :: z_t_36 :: z_t_37 :: z_t_38 :: z_t_39 :: z_t_40 :: z_t_41 :: z_t_42 :: z_t_43 :: z_t_44 :: z_t_45 :: z_t_46 :: z_t_47 :: z_t_48 :: z_t_49 :: z_t_50 :: z_t_51 :: z_t_52 :: z_t_53 :: z_t_54 :: z_t_55 :: z_t_56 :: z_t_57 :: z_t_58 :: z_t_59 :: z_t_60 :: []))) :: (h_t_has, .inl (k_t_has, 10, .inl t_has_c25_2)) :: (h_t_us, .inl (k_t_us, 10, .inl t_us_c25_2)) :: (h_t_vs, .inl (k_t_vs, 10, .inl t_vs_c25_2)) :: (h_t_ds, .inl (k_t_ds, 10, .inl t_ds_c25_2)) :: R) := hD
    cases h
    exact rt_z S hr hlk hP hD hS z_c25_2 dX12_number_28
  · have h := br_neg c1 h
    refine lv_iconst (v := 0) hx hb dX12_number_10 (by decide) ?_
    cases h
    exact rt_z S hr hlk hP hD hS (by decide) dX12_number_11
noncomputable def f_X12_isThere (t_has : Nat → Int32) (l1 : Int32) : Option (Int32) :=
  if l1 < 0 then (
   some 0
  ) else (
   if 10 ≤ l1 then (
    some 0
   ) else (
    gd (ixb l1 10) (
     if (t_has l1.toNatClampNeg) = 0 then (
      some 0
     ) else (
      some 1
     )
    )
   )
  )
set_option maxHeartbeats 4000000 in
set_option maxRecDepth 100000 in
theorem c_X12_isThere (l : Launch) (D : va_G) (R : va_W) (h_t : Nat) (z_t_0 : Value) (z_t_1 : Value) (z_t_2 : Value) (z_t_3 : Value) (z_t_4 : Value) (z_t_5 : Value) (z_t_7 : Value) (z_t_8 : Value) (z_t_9 : Value) (z_t_10 : Value) (z_t_11 : Value) (z_t_12 : Value) (z_t_13 : Value) (z_t_14 : Value) (z_t_15 : Value) (z_t_16 : Value) (z_t_17 : Value) (z_t_18 : Value) (z_t_19 : Value) (z_t_20 : Value) (z_t_21 : Value) (z_t_22 : Value) (z_t_23 : Value) (z_t_24 : Value) (z_t_25 : Value) (z_t_26 : Value) (z_t_27 : Value) (z_t_28 : Value) (z_t_29 : Value) (z_t_30 : Value) (z_t_31 : Value) (z_t_32 : Value) (z_t_33 : Value) (z_t_34 : Value) (z_t_35 : Value) (z_t_36 : Value) (z_t_37 : Value) (z_t_38 : Value) (z_t_39 : Value) (z_t_40 : Value) (z_t_41 : Value) (z_t_42 : Value) (z_t_43 : Value) (z_t_44 : Value) (z_t_45 : Value) (z_t_46 : Value) (z_t_47 : Value) (z_t_48 : Value) (z_t_49 : Value) (z_t_50 : Value) (z_t_51 : Value) (z_t_52 : Value) (z_t_53 : Value) (z_t_54 : Value) (z_t_55 : Value) (z_t_56 : Value) (z_t_57 : Value) (z_t_58 : Value) (z_t_59 : Value) (z_t_60 : Value) (h_t_has : Nat) (k_t_has : ClassId) (t_has : Nat → Int32) (l1 : Int32) (r : Int32)  (h : f_X12_isThere t_has l1 = some r) (sz : Nat) : Met l yX12_isThere (WD yX12_isThere cX12_isThere 2 (some .boolean)) ({ frames := 0, cells := 0, slots := 0, locals := 0 }) (va_Pc [.ref h_t, .int l1] (PcW D [(k_t_has, .boolean)] ((h_t, .inr (12, (z_t_0 :: z_t_1 :: z_t_2 :: z_t_3 :: z_t_4 :: z_t_5 :: .ref h_t_has :: z_t_7 :: z_t_8 :: z_t_9 :: z_t_10 :: z_t_11 :: z_t_12 :: z_t_13 :: z_t_14 :: z_t_15 :: z_t_16 :: z_t_17 :: z_t_18 :: z_t_19 :: z_t_20 :: z_t_21 :: z_t_22 :: z_t_23 :: z_t_24 :: z_t_25 :: z_t_26 :: z_t_27 :: z_t_28 :: z_t_29 :: z_t_30 :: z_t_31 :: z_t_32 :: z_t_33 :: z_t_34 :: z_t_35 :: z_t_36 :: z_t_37 :: z_t_38 :: z_t_39 :: z_t_40 :: z_t_41 :: z_t_42 :: z_t_43 :: z_t_44 :: z_t_45 :: z_t_46 :: z_t_47 :: z_t_48 :: z_t_49 :: z_t_50 :: z_t_51 :: z_t_52 :: z_t_53 :: z_t_54 :: z_t_55 :: z_t_56 :: z_t_57 :: z_t_58 :: z_t_59 :: z_t_60 :: []))) :: (h_t_has, .inl (k_t_has, 10, .inl t_has)) :: R) sz)) (QZ D r ((h_t, .inr (12, (z_t_0 :: z_t_1 :: z_t_2 :: z_t_3 :: z_t_4 :: z_t_5 :: .ref h_t_has :: z_t_7 :: z_t_8 :: z_t_9 :: z_t_10 :: z_t_11 :: z_t_12 :: z_t_13 :: z_t_14 :: z_t_15 :: z_t_16 :: z_t_17 :: z_t_18 :: z_t_19 :: z_t_20 :: z_t_21 :: z_t_22 :: z_t_23 :: z_t_24 :: z_t_25 :: z_t_26 :: z_t_27 :: z_t_28 :: z_t_29 :: z_t_30 :: z_t_31 :: z_t_32 :: z_t_33 :: z_t_34 :: z_t_35 :: z_t_36 :: z_t_37 :: z_t_38 :: z_t_39 :: z_t_40 :: z_t_41 :: z_t_42 :: z_t_43 :: z_t_44 :: z_t_45 :: z_t_46 :: z_t_47 :: z_t_48 :: z_t_49 :: z_t_50 :: z_t_51 :: z_t_52 :: z_t_53 :: z_t_54 :: z_t_55 :: z_t_56 :: z_t_57 :: z_t_58 :: z_t_59 :: z_t_60 :: []))) :: (h_t_has, .inl (k_t_has, 10, .inl t_has)) :: R) (va_A ((h_t, .inr (12, (z_t_0 :: z_t_1 :: z_t_2 :: z_t_3 :: z_t_4 :: z_t_5 :: .ref h_t_has :: z_t_7 :: z_t_8 :: z_t_9 :: z_t_10 :: z_t_11 :: z_t_12 :: z_t_13 :: z_t_14 :: z_t_15 :: z_t_16 :: z_t_17 :: z_t_18 :: z_t_19 :: z_t_20 :: z_t_21 :: z_t_22 :: z_t_23 :: z_t_24 :: z_t_25 :: z_t_26 :: z_t_27 :: z_t_28 :: z_t_29 :: z_t_30 :: z_t_31 :: z_t_32 :: z_t_33 :: z_t_34 :: z_t_35 :: z_t_36 :: z_t_37 :: z_t_38 :: z_t_39 :: z_t_40 :: z_t_41 :: z_t_42 :: z_t_43 :: z_t_44 :: z_t_45 :: z_t_46 :: z_t_47 :: z_t_48 :: z_t_49 :: z_t_50 :: z_t_51 :: z_t_52 :: z_t_53 :: z_t_54 :: z_t_55 :: z_t_56 :: z_t_57 :: z_t_58 :: z_t_59 :: z_t_60 :: []))) :: (h_t_has, .inl (k_t_has, 10, .inl t_has)) :: R) sz)) 0 0 (va_A ((h_t, .inr (12, (z_t_0 :: z_t_1 :: z_t_2 :: z_t_3 :: z_t_4 :: z_t_5 :: .ref h_t_has :: z_t_7 :: z_t_8 :: z_t_9 :: z_t_10 :: z_t_11 :: z_t_12 :: z_t_13 :: z_t_14 :: z_t_15 :: z_t_16 :: z_t_17 :: z_t_18 :: z_t_19 :: z_t_20 :: z_t_21 :: z_t_22 :: z_t_23 :: z_t_24 :: z_t_25 :: z_t_26 :: z_t_27 :: z_t_28 :: z_t_29 :: z_t_30 :: z_t_31 :: z_t_32 :: z_t_33 :: z_t_34 :: z_t_35 :: z_t_36 :: z_t_37 :: z_t_38 :: z_t_39 :: z_t_40 :: z_t_41 :: z_t_42 :: z_t_43 :: z_t_44 :: z_t_45 :: z_t_46 :: z_t_47 :: z_t_48 :: z_t_49 :: z_t_50 :: z_t_51 :: z_t_52 :: z_t_53 :: z_t_54 :: z_t_55 :: z_t_56 :: z_t_57 :: z_t_58 :: z_t_59 :: z_t_60 :: []))) :: (h_t_has, .inl (k_t_has, 10, .inl t_has)) :: R) sz) := by
  refine ct_start (QF := fun A => QZ D r ((h_t, .inr (12, (z_t_0 :: z_t_1 :: z_t_2 :: z_t_3 :: z_t_4 :: z_t_5 :: .ref h_t_has :: z_t_7 :: z_t_8 :: z_t_9 :: z_t_10 :: z_t_11 :: z_t_12 :: z_t_13 :: z_t_14 :: z_t_15 :: z_t_16 :: z_t_17 :: z_t_18 :: z_t_19 :: z_t_20 :: z_t_21 :: z_t_22 :: z_t_23 :: z_t_24 :: z_t_25 :: z_t_26 :: z_t_27 :: z_t_28 :: z_t_29 :: z_t_30 :: z_t_31 :: z_t_32 :: z_t_33 :: z_t_34 :: z_t_35 :: z_t_36 :: z_t_37 :: z_t_38 :: z_t_39 :: z_t_40 :: z_t_41 :: z_t_42 :: z_t_43 :: z_t_44 :: z_t_45 :: z_t_46 :: z_t_47 :: z_t_48 :: z_t_49 :: z_t_50 :: z_t_51 :: z_t_52 :: z_t_53 :: z_t_54 :: z_t_55 :: z_t_56 :: z_t_57 :: z_t_58 :: z_t_59 :: z_t_60 :: []))) :: (h_t_has, .inl (k_t_has, 10, .inl t_has)) :: R) A) ?_ ?_ ?_
  · decide +kernel
  · exact Nat.le_of_ble_eq_true rfl
  intro p e s m args below meth c A ls S hr hlk hnm hS hA hP hD hK hN hl
  have S : CallFix p m c cX12_isThere 2 s args AL "DigitBenchModel" := S
  have hx := S.1
  have hb := S.2.1
  have hown := S.2.2.2.1
  have ha := S.2.2.2.2
  have hl : lv_has ls 2 [(0, .ref h_t), (1, .int l1)] := hl
  unfold f_X12_isThere at h
  refine lv_iload_n hx hb dX12_isThere_0 rfl (lv_at hl 1 rfl) ?_
  refine lv_if_lt (tgt := 23) hx hb dX12_isThere_1 (by decide) (fun c1 => ?_) (fun c1 => ?_)
  · have h := br_pos c1 h
    refine lv_iconst (v := 0) hx hb dX12_isThere_23 (by decide) ?_
    cases h
    exact rt_z S hr hlk hP hD hS (by decide) dX12_isThere_24
  · have h := br_neg c1 h
    refine lv_iload_n hx hb dX12_isThere_4 rfl (lv_at hl 1 rfl) ?_
    refine lv_bipush (v := 10) hx hb dX12_isThere_5 (by decide) ?_
    refine lv_icmp_ge (tgt := 23) hx hb dX12_isThere_7 (by decide) (fun c2 => ?_) (fun c2 => ?_)
    · have h := br_pos c2 h
      refine lv_iconst (v := 0) hx hb dX12_isThere_23 (by decide) ?_
      cases h
      exact rt_z S hr hlk hP hD hS (by decide) dX12_isThere_24
    · have h := br_neg c2 h
      refine lv_aload_n hx hb dX12_isThere_10 rfl (lv_at hl 0 rfl) ?_
      refine va_get (D := D) (ci := 12) (v := .ref h_t_has) (C := RX12) (T := TX12) (N := 61) hx hb ha ix12 hown hK hP 0 rfl rfl 6 (by decide) (ha _ q966) (fun _ h9 => h9) rfl dX12_isThere_11 ?_
      refine lv_iload_n hx hb dX12_isThere_14 rfl (lv_at hl 1 rfl) ?_
      obtain ⟨i3, h⟩ := ix_ok h
      refine va_zald hx hb hK hP 1 0 rfl rfl i3 dX12_isThere_15 ?_
      refine lv_if_eq (tgt := 23) hx hb dX12_isThere_16 (by decide) (fun c4 => ?_) (fun c4 => ?_)
      · have h := br_pos c4 h
        refine lv_iconst (v := 0) hx hb dX12_isThere_23 (by decide) ?_
        cases h
        exact rt_z S hr hlk hP hD hS (by decide) dX12_isThere_24
      · have h := br_neg c4 h
        refine lv_iconst (v := 1) hx hb dX12_isThere_19 (by decide) ?_
        refine lv_goto (tgt := 24) hx hb dX12_isThere_20 (by decide) ?_
        cases h
        exact rt_z S hr hlk hP hD hS (by decide) dX12_isThere_24
noncomputable def f_X12_times (t_a : Int32) (t_b : Int32) (t_u : Int64) (t_v : Int64) (t_d : Int64) (l1 : Int64) (l3 : Int64) (l5 : Int64) : Option (Int64 × Int64 × Int64) :=
  bnd3 (f_X12_set t_u t_v t_d ((t_u * l1) + ((t_v * l3) * t_b.toInt64)) (((t_u * l3) + (t_v * l1)) + ((t_v * l3) * t_a.toInt64)) (t_d * l5)) fun t_u_c53_0 t_v_c53_0 t_d_c53_0 => (
   some (t_u_c53_0, t_v_c53_0, t_d_c53_0)
  )
set_option maxHeartbeats 4000000 in
set_option maxRecDepth 100000 in
theorem c_X12_times (l : Launch) (D : va_G) (R : va_W) (h_t : Nat) (z_t_0 : Value) (z_t_1 : Value) (z_t_2 : Value) (t_a : Int32) (t_b : Int32) (z_t_5 : Value) (z_t_6 : Value) (z_t_7 : Value) (z_t_8 : Value) (z_t_9 : Value) (t_u : Int64) (t_v : Int64) (t_d : Int64) (z_t_13 : Value) (z_t_14 : Value) (z_t_15 : Value) (z_t_16 : Value) (z_t_17 : Value) (z_t_18 : Value) (z_t_19 : Value) (z_t_20 : Value) (z_t_21 : Value) (z_t_22 : Value) (z_t_23 : Value) (z_t_24 : Value) (z_t_25 : Value) (z_t_26 : Value) (z_t_27 : Value) (z_t_28 : Value) (z_t_29 : Value) (z_t_30 : Value) (z_t_31 : Value) (z_t_32 : Value) (z_t_33 : Value) (z_t_34 : Value) (z_t_35 : Value) (z_t_36 : Value) (z_t_37 : Value) (z_t_38 : Value) (z_t_39 : Value) (z_t_40 : Value) (z_t_41 : Value) (z_t_42 : Value) (z_t_43 : Value) (z_t_44 : Value) (z_t_45 : Value) (z_t_46 : Value) (z_t_47 : Value) (z_t_48 : Value) (z_t_49 : Value) (z_t_50 : Value) (z_t_51 : Value) (z_t_52 : Value) (z_t_53 : Value) (z_t_54 : Value) (z_t_55 : Value) (z_t_56 : Value) (z_t_57 : Value) (z_t_58 : Value) (z_t_59 : Value) (z_t_60 : Value) (l1 : Int64) (l3 : Int64) (l5 : Int64) (o_t_u : Int64) (o_t_v : Int64) (o_t_d : Int64)  (h : f_X12_times t_a t_b t_u t_v t_d l1 l3 l5 = some (o_t_u, o_t_v, o_t_d)) (sz : Nat) : Met l yX12_times (WD yX12_times cX12_times 7 none) ({ frames := 2, cells := 0, slots := 0, locals := 57 }) (va_Pc [.ref h_t, .long l1, .long l3, .long l5] (PcW D [] ((h_t, .inr (12, (z_t_0 :: z_t_1 :: z_t_2 :: .int t_a :: .int t_b :: z_t_5 :: z_t_6 :: z_t_7 :: z_t_8 :: z_t_9 :: .long t_u :: .long t_v :: .long t_d :: z_t_13 :: z_t_14 :: z_t_15 :: z_t_16 :: z_t_17 :: z_t_18 :: z_t_19 :: z_t_20 :: z_t_21 :: z_t_22 :: z_t_23 :: z_t_24 :: z_t_25 :: z_t_26 :: z_t_27 :: z_t_28 :: z_t_29 :: z_t_30 :: z_t_31 :: z_t_32 :: z_t_33 :: z_t_34 :: z_t_35 :: z_t_36 :: z_t_37 :: z_t_38 :: z_t_39 :: z_t_40 :: z_t_41 :: z_t_42 :: z_t_43 :: z_t_44 :: z_t_45 :: z_t_46 :: z_t_47 :: z_t_48 :: z_t_49 :: z_t_50 :: z_t_51 :: z_t_52 :: z_t_53 :: z_t_54 :: z_t_55 :: z_t_56 :: z_t_57 :: z_t_58 :: z_t_59 :: z_t_60 :: []))) :: R) sz)) (QV D ((h_t, .inr (12, (z_t_0 :: z_t_1 :: z_t_2 :: .int t_a :: .int t_b :: z_t_5 :: z_t_6 :: z_t_7 :: z_t_8 :: z_t_9 :: .long o_t_u :: .long o_t_v :: .long o_t_d :: z_t_13 :: z_t_14 :: z_t_15 :: z_t_16 :: z_t_17 :: z_t_18 :: z_t_19 :: z_t_20 :: z_t_21 :: z_t_22 :: z_t_23 :: z_t_24 :: z_t_25 :: z_t_26 :: z_t_27 :: z_t_28 :: z_t_29 :: z_t_30 :: z_t_31 :: z_t_32 :: z_t_33 :: z_t_34 :: z_t_35 :: z_t_36 :: z_t_37 :: z_t_38 :: z_t_39 :: z_t_40 :: z_t_41 :: z_t_42 :: z_t_43 :: z_t_44 :: z_t_45 :: z_t_46 :: z_t_47 :: z_t_48 :: z_t_49 :: z_t_50 :: z_t_51 :: z_t_52 :: z_t_53 :: z_t_54 :: z_t_55 :: z_t_56 :: z_t_57 :: z_t_58 :: z_t_59 :: z_t_60 :: []))) :: R) (va_A ((h_t, .inr (12, (z_t_0 :: z_t_1 :: z_t_2 :: .int t_a :: .int t_b :: z_t_5 :: z_t_6 :: z_t_7 :: z_t_8 :: z_t_9 :: .long t_u :: .long t_v :: .long t_d :: z_t_13 :: z_t_14 :: z_t_15 :: z_t_16 :: z_t_17 :: z_t_18 :: z_t_19 :: z_t_20 :: z_t_21 :: z_t_22 :: z_t_23 :: z_t_24 :: z_t_25 :: z_t_26 :: z_t_27 :: z_t_28 :: z_t_29 :: z_t_30 :: z_t_31 :: z_t_32 :: z_t_33 :: z_t_34 :: z_t_35 :: z_t_36 :: z_t_37 :: z_t_38 :: z_t_39 :: z_t_40 :: z_t_41 :: z_t_42 :: z_t_43 :: z_t_44 :: z_t_45 :: z_t_46 :: z_t_47 :: z_t_48 :: z_t_49 :: z_t_50 :: z_t_51 :: z_t_52 :: z_t_53 :: z_t_54 :: z_t_55 :: z_t_56 :: z_t_57 :: z_t_58 :: z_t_59 :: z_t_60 :: []))) :: R) sz)) 0 0 (va_A ((h_t, .inr (12, (z_t_0 :: z_t_1 :: z_t_2 :: .int t_a :: .int t_b :: z_t_5 :: z_t_6 :: z_t_7 :: z_t_8 :: z_t_9 :: .long t_u :: .long t_v :: .long t_d :: z_t_13 :: z_t_14 :: z_t_15 :: z_t_16 :: z_t_17 :: z_t_18 :: z_t_19 :: z_t_20 :: z_t_21 :: z_t_22 :: z_t_23 :: z_t_24 :: z_t_25 :: z_t_26 :: z_t_27 :: z_t_28 :: z_t_29 :: z_t_30 :: z_t_31 :: z_t_32 :: z_t_33 :: z_t_34 :: z_t_35 :: z_t_36 :: z_t_37 :: z_t_38 :: z_t_39 :: z_t_40 :: z_t_41 :: z_t_42 :: z_t_43 :: z_t_44 :: z_t_45 :: z_t_46 :: z_t_47 :: z_t_48 :: z_t_49 :: z_t_50 :: z_t_51 :: z_t_52 :: z_t_53 :: z_t_54 :: z_t_55 :: z_t_56 :: z_t_57 :: z_t_58 :: z_t_59 :: z_t_60 :: []))) :: R) sz) := by
  refine ct_start (QF := fun A => QV D ((h_t, .inr (12, (z_t_0 :: z_t_1 :: z_t_2 :: .int t_a :: .int t_b :: z_t_5 :: z_t_6 :: z_t_7 :: z_t_8 :: z_t_9 :: .long o_t_u :: .long o_t_v :: .long o_t_d :: z_t_13 :: z_t_14 :: z_t_15 :: z_t_16 :: z_t_17 :: z_t_18 :: z_t_19 :: z_t_20 :: z_t_21 :: z_t_22 :: z_t_23 :: z_t_24 :: z_t_25 :: z_t_26 :: z_t_27 :: z_t_28 :: z_t_29 :: z_t_30 :: z_t_31 :: z_t_32 :: z_t_33 :: z_t_34 :: z_t_35 :: z_t_36 :: z_t_37 :: z_t_38 :: z_t_39 :: z_t_40 :: z_t_41 :: z_t_42 :: z_t_43 :: z_t_44 :: z_t_45 :: z_t_46 :: z_t_47 :: z_t_48 :: z_t_49 :: z_t_50 :: z_t_51 :: z_t_52 :: z_t_53 :: z_t_54 :: z_t_55 :: z_t_56 :: z_t_57 :: z_t_58 :: z_t_59 :: z_t_60 :: []))) :: R) A) ?_ ?_ ?_
  · decide +kernel
  · exact Nat.le_of_ble_eq_true rfl
  intro p e s m args below meth c A ls S hr hlk hnm hS hA hP hD hK hN hl
  have S : CallFix p m c cX12_times 7 s args AL "DigitBenchModel" := S
  have hx := S.1
  have hb := S.2.1
  have hown := S.2.2.2.1
  have ha := S.2.2.2.2
  have hl : lv_has ls 7 [(0, .ref h_t), (1, .long l1), (3, .long l3), (5, .long l5)] := hl
  unfold f_X12_times at h
  refine lv_aload_n hx hb dX12_times_0 rfl (lv_at hl 0 rfl) ?_
  refine lv_aload_n hx hb dX12_times_1 rfl (lv_at hl 0 rfl) ?_
  refine va_get (D := D) (ci := 12) (v := .long t_u) (C := RX12) (T := TX12) (N := 61) hx hb ha ix12 hown hK hP 0 rfl rfl 10 (by decide) (ha _ q970) (fun _ h9 => h9) rfl dX12_times_2 ?_
  refine lv_lload_n hx hb dX12_times_5 rfl (lv_at hl 1 rfl) ?_
  refine lv_lmul hx hb dX12_times_6 ?_
  refine lv_aload_n hx hb dX12_times_7 rfl (lv_at hl 0 rfl) ?_
  refine va_get (D := D) (ci := 12) (v := .long t_v) (C := RX12) (T := TX12) (N := 61) hx hb ha ix12 hown hK hP 0 rfl rfl 11 (by decide) (ha _ q971) (fun _ h9 => h9) rfl dX12_times_8 ?_
  refine lv_lload_n hx hb dX12_times_11 rfl (lv_at hl 2 rfl) ?_
  refine lv_lmul hx hb dX12_times_12 ?_
  refine lv_aload_n hx hb dX12_times_13 rfl (lv_at hl 0 rfl) ?_
  refine va_get (D := D) (ci := 12) (v := .int t_b) (C := RX12) (T := TX12) (N := 61) hx hb ha ix12 hown hK hP 0 rfl rfl 4 (by decide) (ha _ q964) (fun _ h9 => h9) rfl dX12_times_14 ?_
  refine lv_i2l (v := t_b.toInt64) hx hb dX12_times_17 rfl ?_
  refine lv_lmul hx hb dX12_times_18 ?_
  refine lv_ladd hx hb dX12_times_19 ?_
  refine lv_aload_n hx hb dX12_times_20 rfl (lv_at hl 0 rfl) ?_
  refine va_get (D := D) (ci := 12) (v := .long t_u) (C := RX12) (T := TX12) (N := 61) hx hb ha ix12 hown hK hP 0 rfl rfl 10 (by decide) (ha _ q970) (fun _ h9 => h9) rfl dX12_times_21 ?_
  refine lv_lload_n hx hb dX12_times_24 rfl (lv_at hl 2 rfl) ?_
  refine lv_lmul hx hb dX12_times_25 ?_
  refine lv_aload_n hx hb dX12_times_26 rfl (lv_at hl 0 rfl) ?_
  refine va_get (D := D) (ci := 12) (v := .long t_v) (C := RX12) (T := TX12) (N := 61) hx hb ha ix12 hown hK hP 0 rfl rfl 11 (by decide) (ha _ q971) (fun _ h9 => h9) rfl dX12_times_27 ?_
  refine lv_lload_n hx hb dX12_times_30 rfl (lv_at hl 1 rfl) ?_
  refine lv_lmul hx hb dX12_times_31 ?_
  refine lv_ladd hx hb dX12_times_32 ?_
  refine lv_aload_n hx hb dX12_times_33 rfl (lv_at hl 0 rfl) ?_
  refine va_get (D := D) (ci := 12) (v := .long t_v) (C := RX12) (T := TX12) (N := 61) hx hb ha ix12 hown hK hP 0 rfl rfl 11 (by decide) (ha _ q971) (fun _ h9 => h9) rfl dX12_times_34 ?_
  refine lv_lload_n hx hb dX12_times_37 rfl (lv_at hl 2 rfl) ?_
  refine lv_lmul hx hb dX12_times_38 ?_
  refine lv_aload_n hx hb dX12_times_39 rfl (lv_at hl 0 rfl) ?_
  refine va_get (D := D) (ci := 12) (v := .int t_a) (C := RX12) (T := TX12) (N := 61) hx hb ha ix12 hown hK hP 0 rfl rfl 3 (by decide) (ha _ q963) (fun _ h9 => h9) rfl dX12_times_40 ?_
  refine lv_i2l (v := t_a.toInt64) hx hb dX12_times_43 rfl ?_
  refine lv_lmul hx hb dX12_times_44 ?_
  refine lv_ladd hx hb dX12_times_45 ?_
  refine lv_aload_n hx hb dX12_times_46 rfl (lv_at hl 0 rfl) ?_
  refine va_get (D := D) (ci := 12) (v := .long t_d) (C := RX12) (T := TX12) (N := 61) hx hb ha ix12 hown hK hP 0 rfl rfl 12 (by decide) (ha _ q972) (fun _ h9 => h9) rfl dX12_times_47 ?_
  refine lv_lload hx hb dX12_times_50 (lv_at hl 3 rfl) ?_
  refine lv_lmul hx hb dX12_times_52 ?_
  obtain ⟨t_u_c53_0, t_v_c53_0, t_d_c53_0, e_c53_0, h⟩ := bnd3_ok h
  refine cl_v (rn_v (ci := 12) (As := [.long ((t_u * l1) + ((t_v * l3) * t_b.toInt64)), .long (((t_u * l3) + (t_v * l1)) + ((t_v * l3) * t_a.toInt64)), .long (t_d * l5)]) (rest := []) S (c_X12_set l D (R) h_t (z_t_0) (z_t_1) (z_t_2) (.int t_a) (.int t_b) (z_t_5) (z_t_6) (z_t_7) (z_t_8) (z_t_9) t_u t_v t_d (z_t_13) (z_t_14) (z_t_15) (z_t_16) (z_t_17) (z_t_18) (z_t_19) (z_t_20) (z_t_21) (z_t_22) (z_t_23) (z_t_24) (z_t_25) (z_t_26) (z_t_27) (z_t_28) (z_t_29) (z_t_30) (z_t_31) (z_t_32) (z_t_33) (z_t_34) (z_t_35) (z_t_36) (z_t_37) (z_t_38) (z_t_39) (z_t_40) (z_t_41) (z_t_42) (z_t_43) (z_t_44) (z_t_45) (z_t_46) (z_t_47) (z_t_48) (z_t_49) (z_t_50) (z_t_51) (z_t_52) (z_t_53) (z_t_54) (z_t_55) (z_t_56) (z_t_57) (z_t_58) (z_t_59) (z_t_60) ((t_u * l1) + ((t_v * l3) * t_b.toInt64)) (((t_u * l3) + (t_v * l1)) + ((t_v * l3) * t_a.toInt64)) (t_d * l5) t_u_c53_0 t_v_c53_0 t_d_c53_0 e_c53_0 _) q1172 q1174 q27 q61 q1175 nd_X12_set ⟨Nat.le_of_ble_eq_true rfl, Nat.le_of_ble_eq_true rfl⟩ rfl rfl hP hD (hK.sub (tys' := []) [] rfl) hN rfl ⟨0, _, rfl⟩ rfl hl.1 rfl (Nat.le_of_ble_eq_true rfl) dX12_times_53 ⟨Nat.le_of_ble_eq_true rfl, Nat.le_of_ble_eq_true rfl⟩) hS hA hD (fun H locs hP hD hS => ?_)
  have hP : va_P D vwCl ((h_t, .inr (12, (z_t_0 :: z_t_1 :: z_t_2 :: .int t_a :: .int t_b :: z_t_5 :: z_t_6 :: z_t_7 :: z_t_8 :: z_t_9 :: .long t_u_c53_0 :: .long t_v_c53_0 :: .long t_d_c53_0 :: z_t_13 :: z_t_14 :: z_t_15 :: z_t_16 :: z_t_17 :: z_t_18 :: z_t_19 :: z_t_20 :: z_t_21 :: z_t_22 :: z_t_23 :: z_t_24 :: z_t_25 :: z_t_26 :: z_t_27 :: z_t_28 :: z_t_29 :: z_t_30 :: z_t_31 :: z_t_32 :: z_t_33 :: z_t_34 :: z_t_35 :: z_t_36 :: z_t_37 :: z_t_38 :: z_t_39 :: z_t_40 :: z_t_41 :: z_t_42 :: z_t_43 :: z_t_44 :: z_t_45 :: z_t_46 :: z_t_47 :: z_t_48 :: z_t_49 :: z_t_50 :: z_t_51 :: z_t_52 :: z_t_53 :: z_t_54 :: z_t_55 :: z_t_56 :: z_t_57 :: z_t_58 :: z_t_59 :: z_t_60 :: []))) :: R) H := hP
  have hD : va_D A ((h_t, .inr (12, (z_t_0 :: z_t_1 :: z_t_2 :: .int t_a :: .int t_b :: z_t_5 :: z_t_6 :: z_t_7 :: z_t_8 :: z_t_9 :: .long t_u_c53_0 :: .long t_v_c53_0 :: .long t_d_c53_0 :: z_t_13 :: z_t_14 :: z_t_15 :: z_t_16 :: z_t_17 :: z_t_18 :: z_t_19 :: z_t_20 :: z_t_21 :: z_t_22 :: z_t_23 :: z_t_24 :: z_t_25 :: z_t_26 :: z_t_27 :: z_t_28 :: z_t_29 :: z_t_30 :: z_t_31 :: z_t_32 :: z_t_33 :: z_t_34 :: z_t_35 :: z_t_36 :: z_t_37 :: z_t_38 :: z_t_39 :: z_t_40 :: z_t_41 :: z_t_42 :: z_t_43 :: z_t_44 :: z_t_45 :: z_t_46 :: z_t_47 :: z_t_48 :: z_t_49 :: z_t_50 :: z_t_51 :: z_t_52 :: z_t_53 :: z_t_54 :: z_t_55 :: z_t_56 :: z_t_57 :: z_t_58 :: z_t_59 :: z_t_60 :: []))) :: R) := hD
  cases h
  exact rt_v S hr hlk hP hD hS dX12_times_56
noncomputable def f_X12_by (t_a : Int32) (t_b : Int32) (t_u : Int64) (t_v : Int64) (t_d : Int64) (l1 : Int64) (l3 : Int64) (l5 : Int64) : Option (Int64 × Int64 × Int64) :=
  bnd1 (f_X12_common (l1 + (t_a.toInt64 * l3)) l3) fun r_c35_0 => (
   bnd1 (f_X12_common r_c35_0 (((l1 * l1) + ((t_a.toInt64 * l1) * l3)) - ((t_b.toInt64 * l3) * l3))) fun r_c40_1 => (
    gd (nzL r_c40_1) (
     gd (nzL r_c40_1) (
      gd (nzL r_c40_1) (
       bnd3 (f_X12_times t_a t_b t_u t_v t_d (((l1 + (t_a.toInt64 * l3)) / r_c40_1) * l5) (((-l3) / r_c40_1) * l5) ((((l1 * l1) + ((t_a.toInt64 * l1) * l3)) - ((t_b.toInt64 * l3) * l3)) / r_c40_1)) fun t_u_c82_5 t_v_c82_5 t_d_c82_5 => (
        some (t_u_c82_5, t_v_c82_5, t_d_c82_5)
       )
      )
     )
    )
   )
  )
set_option maxHeartbeats 4000000 in
set_option maxRecDepth 100000 in
theorem c_X12_by (l : Launch) (D : va_G) (R : va_W) (h_t : Nat) (z_t_0 : Value) (z_t_1 : Value) (z_t_2 : Value) (t_a : Int32) (t_b : Int32) (z_t_5 : Value) (z_t_6 : Value) (z_t_7 : Value) (z_t_8 : Value) (z_t_9 : Value) (t_u : Int64) (t_v : Int64) (t_d : Int64) (z_t_13 : Value) (z_t_14 : Value) (z_t_15 : Value) (z_t_16 : Value) (z_t_17 : Value) (z_t_18 : Value) (z_t_19 : Value) (z_t_20 : Value) (z_t_21 : Value) (z_t_22 : Value) (z_t_23 : Value) (z_t_24 : Value) (z_t_25 : Value) (z_t_26 : Value) (z_t_27 : Value) (z_t_28 : Value) (z_t_29 : Value) (z_t_30 : Value) (z_t_31 : Value) (z_t_32 : Value) (z_t_33 : Value) (z_t_34 : Value) (z_t_35 : Value) (z_t_36 : Value) (z_t_37 : Value) (z_t_38 : Value) (z_t_39 : Value) (z_t_40 : Value) (z_t_41 : Value) (z_t_42 : Value) (z_t_43 : Value) (z_t_44 : Value) (z_t_45 : Value) (z_t_46 : Value) (z_t_47 : Value) (z_t_48 : Value) (z_t_49 : Value) (z_t_50 : Value) (z_t_51 : Value) (z_t_52 : Value) (z_t_53 : Value) (z_t_54 : Value) (z_t_55 : Value) (z_t_56 : Value) (z_t_57 : Value) (z_t_58 : Value) (z_t_59 : Value) (z_t_60 : Value) (l1 : Int64) (l3 : Int64) (l5 : Int64) (o_t_u : Int64) (o_t_v : Int64) (o_t_d : Int64)  (h : f_X12_by t_a t_b t_u t_v t_d l1 l3 l5 = some (o_t_u, o_t_v, o_t_d)) (sz : Nat) : Met l yX12_by (WD yX12_by cX12_by 15 none) ({ frames := 3, cells := 0, slots := 0, locals := 83 }) (va_Pc [.ref h_t, .long l1, .long l3, .long l5] (PcW D [] ((h_t, .inr (12, (z_t_0 :: z_t_1 :: z_t_2 :: .int t_a :: .int t_b :: z_t_5 :: z_t_6 :: z_t_7 :: z_t_8 :: z_t_9 :: .long t_u :: .long t_v :: .long t_d :: z_t_13 :: z_t_14 :: z_t_15 :: z_t_16 :: z_t_17 :: z_t_18 :: z_t_19 :: z_t_20 :: z_t_21 :: z_t_22 :: z_t_23 :: z_t_24 :: z_t_25 :: z_t_26 :: z_t_27 :: z_t_28 :: z_t_29 :: z_t_30 :: z_t_31 :: z_t_32 :: z_t_33 :: z_t_34 :: z_t_35 :: z_t_36 :: z_t_37 :: z_t_38 :: z_t_39 :: z_t_40 :: z_t_41 :: z_t_42 :: z_t_43 :: z_t_44 :: z_t_45 :: z_t_46 :: z_t_47 :: z_t_48 :: z_t_49 :: z_t_50 :: z_t_51 :: z_t_52 :: z_t_53 :: z_t_54 :: z_t_55 :: z_t_56 :: z_t_57 :: z_t_58 :: z_t_59 :: z_t_60 :: []))) :: R) sz)) (QV D ((h_t, .inr (12, (z_t_0 :: z_t_1 :: z_t_2 :: .int t_a :: .int t_b :: z_t_5 :: z_t_6 :: z_t_7 :: z_t_8 :: z_t_9 :: .long o_t_u :: .long o_t_v :: .long o_t_d :: z_t_13 :: z_t_14 :: z_t_15 :: z_t_16 :: z_t_17 :: z_t_18 :: z_t_19 :: z_t_20 :: z_t_21 :: z_t_22 :: z_t_23 :: z_t_24 :: z_t_25 :: z_t_26 :: z_t_27 :: z_t_28 :: z_t_29 :: z_t_30 :: z_t_31 :: z_t_32 :: z_t_33 :: z_t_34 :: z_t_35 :: z_t_36 :: z_t_37 :: z_t_38 :: z_t_39 :: z_t_40 :: z_t_41 :: z_t_42 :: z_t_43 :: z_t_44 :: z_t_45 :: z_t_46 :: z_t_47 :: z_t_48 :: z_t_49 :: z_t_50 :: z_t_51 :: z_t_52 :: z_t_53 :: z_t_54 :: z_t_55 :: z_t_56 :: z_t_57 :: z_t_58 :: z_t_59 :: z_t_60 :: []))) :: R) (va_A ((h_t, .inr (12, (z_t_0 :: z_t_1 :: z_t_2 :: .int t_a :: .int t_b :: z_t_5 :: z_t_6 :: z_t_7 :: z_t_8 :: z_t_9 :: .long t_u :: .long t_v :: .long t_d :: z_t_13 :: z_t_14 :: z_t_15 :: z_t_16 :: z_t_17 :: z_t_18 :: z_t_19 :: z_t_20 :: z_t_21 :: z_t_22 :: z_t_23 :: z_t_24 :: z_t_25 :: z_t_26 :: z_t_27 :: z_t_28 :: z_t_29 :: z_t_30 :: z_t_31 :: z_t_32 :: z_t_33 :: z_t_34 :: z_t_35 :: z_t_36 :: z_t_37 :: z_t_38 :: z_t_39 :: z_t_40 :: z_t_41 :: z_t_42 :: z_t_43 :: z_t_44 :: z_t_45 :: z_t_46 :: z_t_47 :: z_t_48 :: z_t_49 :: z_t_50 :: z_t_51 :: z_t_52 :: z_t_53 :: z_t_54 :: z_t_55 :: z_t_56 :: z_t_57 :: z_t_58 :: z_t_59 :: z_t_60 :: []))) :: R) sz)) 0 0 (va_A ((h_t, .inr (12, (z_t_0 :: z_t_1 :: z_t_2 :: .int t_a :: .int t_b :: z_t_5 :: z_t_6 :: z_t_7 :: z_t_8 :: z_t_9 :: .long t_u :: .long t_v :: .long t_d :: z_t_13 :: z_t_14 :: z_t_15 :: z_t_16 :: z_t_17 :: z_t_18 :: z_t_19 :: z_t_20 :: z_t_21 :: z_t_22 :: z_t_23 :: z_t_24 :: z_t_25 :: z_t_26 :: z_t_27 :: z_t_28 :: z_t_29 :: z_t_30 :: z_t_31 :: z_t_32 :: z_t_33 :: z_t_34 :: z_t_35 :: z_t_36 :: z_t_37 :: z_t_38 :: z_t_39 :: z_t_40 :: z_t_41 :: z_t_42 :: z_t_43 :: z_t_44 :: z_t_45 :: z_t_46 :: z_t_47 :: z_t_48 :: z_t_49 :: z_t_50 :: z_t_51 :: z_t_52 :: z_t_53 :: z_t_54 :: z_t_55 :: z_t_56 :: z_t_57 :: z_t_58 :: z_t_59 :: z_t_60 :: []))) :: R) sz) := by
  refine ct_start (QF := fun A => QV D ((h_t, .inr (12, (z_t_0 :: z_t_1 :: z_t_2 :: .int t_a :: .int t_b :: z_t_5 :: z_t_6 :: z_t_7 :: z_t_8 :: z_t_9 :: .long o_t_u :: .long o_t_v :: .long o_t_d :: z_t_13 :: z_t_14 :: z_t_15 :: z_t_16 :: z_t_17 :: z_t_18 :: z_t_19 :: z_t_20 :: z_t_21 :: z_t_22 :: z_t_23 :: z_t_24 :: z_t_25 :: z_t_26 :: z_t_27 :: z_t_28 :: z_t_29 :: z_t_30 :: z_t_31 :: z_t_32 :: z_t_33 :: z_t_34 :: z_t_35 :: z_t_36 :: z_t_37 :: z_t_38 :: z_t_39 :: z_t_40 :: z_t_41 :: z_t_42 :: z_t_43 :: z_t_44 :: z_t_45 :: z_t_46 :: z_t_47 :: z_t_48 :: z_t_49 :: z_t_50 :: z_t_51 :: z_t_52 :: z_t_53 :: z_t_54 :: z_t_55 :: z_t_56 :: z_t_57 :: z_t_58 :: z_t_59 :: z_t_60 :: []))) :: R) A) ?_ ?_ ?_
  · decide +kernel
  · exact Nat.le_of_ble_eq_true rfl
  intro p e s m args below meth c A ls S hr hlk hnm hS hA hP hD hK hN hl
  have S : CallFix p m c cX12_by 15 s args AL "DigitBenchModel" := S
  have hx := S.1
  have hb := S.2.1
  have hown := S.2.2.2.1
  have ha := S.2.2.2.2
  have hl : lv_has ls 15 [(0, .ref h_t), (1, .long l1), (3, .long l3), (5, .long l5)] := hl
  unfold f_X12_by at h
  refine lv_lload_n hx hb dX12_by_0 rfl (lv_at hl 1 rfl) ?_
  refine lv_lload_n hx hb dX12_by_1 rfl (lv_at hl 1 rfl) ?_
  refine lv_lmul hx hb dX12_by_2 ?_
  refine lv_aload_n hx hb dX12_by_3 rfl (lv_at hl 0 rfl) ?_
  refine va_get (D := D) (ci := 12) (v := .int t_a) (C := RX12) (T := TX12) (N := 61) hx hb ha ix12 hown hK hP 0 rfl rfl 3 (by decide) (ha _ q963) (fun _ h9 => h9) rfl dX12_by_4 ?_
  refine lv_i2l (v := t_a.toInt64) hx hb dX12_by_7 rfl ?_
  refine lv_lload_n hx hb dX12_by_8 rfl (lv_at hl 1 rfl) ?_
  refine lv_lmul hx hb dX12_by_9 ?_
  refine lv_lload_n hx hb dX12_by_10 rfl (lv_at hl 2 rfl) ?_
  refine lv_lmul hx hb dX12_by_11 ?_
  refine lv_ladd hx hb dX12_by_12 ?_
  refine lv_aload_n hx hb dX12_by_13 rfl (lv_at hl 0 rfl) ?_
  refine va_get (D := D) (ci := 12) (v := .int t_b) (C := RX12) (T := TX12) (N := 61) hx hb ha ix12 hown hK hP 0 rfl rfl 4 (by decide) (ha _ q964) (fun _ h9 => h9) rfl dX12_by_14 ?_
  refine lv_i2l (v := t_b.toInt64) hx hb dX12_by_17 rfl ?_
  refine lv_lload_n hx hb dX12_by_18 rfl (lv_at hl 2 rfl) ?_
  refine lv_lmul hx hb dX12_by_19 ?_
  refine lv_lload_n hx hb dX12_by_20 rfl (lv_at hl 2 rfl) ?_
  refine lv_lmul hx hb dX12_by_21 ?_
  refine lv_lsub hx hb dX12_by_22 ?_
  refine lv_lstore (lv' := [(7, .long (((l1 * l1) + ((t_a.toInt64 * l1) * l3)) - ((t_b.toInt64 * l3) * l3))), (0, .ref h_t), (1, .long l1), (3, .long l3), (5, .long l5)]) hx hb dX12_by_23 hl (by decide) rfl (fun ls hl => ?_)
  refine lv_lload_n hx hb dX12_by_25 rfl (lv_at hl 2 rfl) ?_
  refine lv_aload_n hx hb dX12_by_26 rfl (lv_at hl 1 rfl) ?_
  refine va_get (D := D) (ci := 12) (v := .int t_a) (C := RX12) (T := TX12) (N := 61) hx hb ha ix12 hown hK hP 0 rfl rfl 3 (by decide) (ha _ q963) (fun _ h9 => h9) rfl dX12_by_27 ?_
  refine lv_i2l (v := t_a.toInt64) hx hb dX12_by_30 rfl ?_
  refine lv_lload_n hx hb dX12_by_31 rfl (lv_at hl 3 rfl) ?_
  refine lv_lmul hx hb dX12_by_32 ?_
  refine lv_ladd hx hb dX12_by_33 ?_
  refine lv_lload_n hx hb dX12_by_34 rfl (lv_at hl 3 rfl) ?_
  obtain ⟨r_c35_0, e_c35_0, h⟩ := bnd1_ok h
  refine cl_l (rn_s (As := [.long (l1 + (t_a.toInt64 * l3)), .long l3]) (rest := []) S (c_X12_common l D ((h_t, .inr (12, (z_t_0 :: z_t_1 :: z_t_2 :: .int t_a :: .int t_b :: z_t_5 :: z_t_6 :: z_t_7 :: z_t_8 :: z_t_9 :: .long t_u :: .long t_v :: .long t_d :: z_t_13 :: z_t_14 :: z_t_15 :: z_t_16 :: z_t_17 :: z_t_18 :: z_t_19 :: z_t_20 :: z_t_21 :: z_t_22 :: z_t_23 :: z_t_24 :: z_t_25 :: z_t_26 :: z_t_27 :: z_t_28 :: z_t_29 :: z_t_30 :: z_t_31 :: z_t_32 :: z_t_33 :: z_t_34 :: z_t_35 :: z_t_36 :: z_t_37 :: z_t_38 :: z_t_39 :: z_t_40 :: z_t_41 :: z_t_42 :: z_t_43 :: z_t_44 :: z_t_45 :: z_t_46 :: z_t_47 :: z_t_48 :: z_t_49 :: z_t_50 :: z_t_51 :: z_t_52 :: z_t_53 :: z_t_54 :: z_t_55 :: z_t_56 :: z_t_57 :: z_t_58 :: z_t_59 :: z_t_60 :: []))) :: R) (l1 + (t_a.toInt64 * l3)) l3 r_c35_0 e_c35_0 _) q1176 q1177 q61 q1178 nd_X12_common ⟨Nat.le_of_ble_eq_true rfl, Nat.le_of_ble_eq_true rfl⟩ rfl rfl hP hD (hK.sub (tys' := []) [] rfl) hN rfl hl.1 rfl (Nat.le_of_ble_eq_true rfl) dX12_by_35 ⟨Nat.le_of_ble_eq_true rfl, Nat.le_of_ble_eq_true rfl⟩) hS hA hD (fun H locs hP hD hS => ?_)
  have hP : va_P D vwCl ((h_t, .inr (12, (z_t_0 :: z_t_1 :: z_t_2 :: .int t_a :: .int t_b :: z_t_5 :: z_t_6 :: z_t_7 :: z_t_8 :: z_t_9 :: .long t_u :: .long t_v :: .long t_d :: z_t_13 :: z_t_14 :: z_t_15 :: z_t_16 :: z_t_17 :: z_t_18 :: z_t_19 :: z_t_20 :: z_t_21 :: z_t_22 :: z_t_23 :: z_t_24 :: z_t_25 :: z_t_26 :: z_t_27 :: z_t_28 :: z_t_29 :: z_t_30 :: z_t_31 :: z_t_32 :: z_t_33 :: z_t_34 :: z_t_35 :: z_t_36 :: z_t_37 :: z_t_38 :: z_t_39 :: z_t_40 :: z_t_41 :: z_t_42 :: z_t_43 :: z_t_44 :: z_t_45 :: z_t_46 :: z_t_47 :: z_t_48 :: z_t_49 :: z_t_50 :: z_t_51 :: z_t_52 :: z_t_53 :: z_t_54 :: z_t_55 :: z_t_56 :: z_t_57 :: z_t_58 :: z_t_59 :: z_t_60 :: []))) :: R) H := hP
  have hD : va_D A ((h_t, .inr (12, (z_t_0 :: z_t_1 :: z_t_2 :: .int t_a :: .int t_b :: z_t_5 :: z_t_6 :: z_t_7 :: z_t_8 :: z_t_9 :: .long t_u :: .long t_v :: .long t_d :: z_t_13 :: z_t_14 :: z_t_15 :: z_t_16 :: z_t_17 :: z_t_18 :: z_t_19 :: z_t_20 :: z_t_21 :: z_t_22 :: z_t_23 :: z_t_24 :: z_t_25 :: z_t_26 :: z_t_27 :: z_t_28 :: z_t_29 :: z_t_30 :: z_t_31 :: z_t_32 :: z_t_33 :: z_t_34 :: z_t_35 :: z_t_36 :: z_t_37 :: z_t_38 :: z_t_39 :: z_t_40 :: z_t_41 :: z_t_42 :: z_t_43 :: z_t_44 :: z_t_45 :: z_t_46 :: z_t_47 :: z_t_48 :: z_t_49 :: z_t_50 :: z_t_51 :: z_t_52 :: z_t_53 :: z_t_54 :: z_t_55 :: z_t_56 :: z_t_57 :: z_t_58 :: z_t_59 :: z_t_60 :: []))) :: R) := hD
  refine lv_lload hx hb dX12_by_38 (lv_at hl 0 rfl) ?_
  obtain ⟨r_c40_1, e_c40_1, h⟩ := bnd1_ok h
  refine cl_l (rn_s (As := [.long r_c35_0, .long (((l1 * l1) + ((t_a.toInt64 * l1) * l3)) - ((t_b.toInt64 * l3) * l3))]) (rest := []) S (c_X12_common l D ((h_t, .inr (12, (z_t_0 :: z_t_1 :: z_t_2 :: .int t_a :: .int t_b :: z_t_5 :: z_t_6 :: z_t_7 :: z_t_8 :: z_t_9 :: .long t_u :: .long t_v :: .long t_d :: z_t_13 :: z_t_14 :: z_t_15 :: z_t_16 :: z_t_17 :: z_t_18 :: z_t_19 :: z_t_20 :: z_t_21 :: z_t_22 :: z_t_23 :: z_t_24 :: z_t_25 :: z_t_26 :: z_t_27 :: z_t_28 :: z_t_29 :: z_t_30 :: z_t_31 :: z_t_32 :: z_t_33 :: z_t_34 :: z_t_35 :: z_t_36 :: z_t_37 :: z_t_38 :: z_t_39 :: z_t_40 :: z_t_41 :: z_t_42 :: z_t_43 :: z_t_44 :: z_t_45 :: z_t_46 :: z_t_47 :: z_t_48 :: z_t_49 :: z_t_50 :: z_t_51 :: z_t_52 :: z_t_53 :: z_t_54 :: z_t_55 :: z_t_56 :: z_t_57 :: z_t_58 :: z_t_59 :: z_t_60 :: []))) :: R) r_c35_0 (((l1 * l1) + ((t_a.toInt64 * l1) * l3)) - ((t_b.toInt64 * l3) * l3)) r_c40_1 e_c40_1 _) q1176 q1177 q61 q1178 nd_X12_common ⟨Nat.le_of_ble_eq_true rfl, Nat.le_of_ble_eq_true rfl⟩ rfl rfl hP hD (hK.sub (tys' := []) [] rfl) hN rfl hl.1 rfl (Nat.le_of_ble_eq_true rfl) dX12_by_40 ⟨Nat.le_of_ble_eq_true rfl, Nat.le_of_ble_eq_true rfl⟩) hS hA hD (fun H locs hP hD hS => ?_)
  have hP : va_P D vwCl ((h_t, .inr (12, (z_t_0 :: z_t_1 :: z_t_2 :: .int t_a :: .int t_b :: z_t_5 :: z_t_6 :: z_t_7 :: z_t_8 :: z_t_9 :: .long t_u :: .long t_v :: .long t_d :: z_t_13 :: z_t_14 :: z_t_15 :: z_t_16 :: z_t_17 :: z_t_18 :: z_t_19 :: z_t_20 :: z_t_21 :: z_t_22 :: z_t_23 :: z_t_24 :: z_t_25 :: z_t_26 :: z_t_27 :: z_t_28 :: z_t_29 :: z_t_30 :: z_t_31 :: z_t_32 :: z_t_33 :: z_t_34 :: z_t_35 :: z_t_36 :: z_t_37 :: z_t_38 :: z_t_39 :: z_t_40 :: z_t_41 :: z_t_42 :: z_t_43 :: z_t_44 :: z_t_45 :: z_t_46 :: z_t_47 :: z_t_48 :: z_t_49 :: z_t_50 :: z_t_51 :: z_t_52 :: z_t_53 :: z_t_54 :: z_t_55 :: z_t_56 :: z_t_57 :: z_t_58 :: z_t_59 :: z_t_60 :: []))) :: R) H := hP
  have hD : va_D A ((h_t, .inr (12, (z_t_0 :: z_t_1 :: z_t_2 :: .int t_a :: .int t_b :: z_t_5 :: z_t_6 :: z_t_7 :: z_t_8 :: z_t_9 :: .long t_u :: .long t_v :: .long t_d :: z_t_13 :: z_t_14 :: z_t_15 :: z_t_16 :: z_t_17 :: z_t_18 :: z_t_19 :: z_t_20 :: z_t_21 :: z_t_22 :: z_t_23 :: z_t_24 :: z_t_25 :: z_t_26 :: z_t_27 :: z_t_28 :: z_t_29 :: z_t_30 :: z_t_31 :: z_t_32 :: z_t_33 :: z_t_34 :: z_t_35 :: z_t_36 :: z_t_37 :: z_t_38 :: z_t_39 :: z_t_40 :: z_t_41 :: z_t_42 :: z_t_43 :: z_t_44 :: z_t_45 :: z_t_46 :: z_t_47 :: z_t_48 :: z_t_49 :: z_t_50 :: z_t_51 :: z_t_52 :: z_t_53 :: z_t_54 :: z_t_55 :: z_t_56 :: z_t_57 :: z_t_58 :: z_t_59 :: z_t_60 :: []))) :: R) := hD
  refine lv_lstore (lv' := [(9, .long r_c40_1), (7, .long (((l1 * l1) + ((t_a.toInt64 * l1) * l3)) - ((t_b.toInt64 * l3) * l3))), (0, .ref h_t), (1, .long l1), (3, .long l3), (5, .long l5)]) hx hb dX12_by_43 hl (by decide) rfl (fun ls hl => ?_)
  refine lv_lload_n hx hb dX12_by_45 rfl (lv_at hl 3 rfl) ?_
  refine lv_aload_n hx hb dX12_by_46 rfl (lv_at hl 2 rfl) ?_
  refine va_get (D := D) (ci := 12) (v := .int t_a) (C := RX12) (T := TX12) (N := 61) hx hb ha ix12 hown hK hP 0 rfl rfl 3 (by decide) (ha _ q963) (fun _ h9 => h9) rfl dX12_by_47 ?_
  refine lv_i2l (v := t_a.toInt64) hx hb dX12_by_50 rfl ?_
  refine lv_lload_n hx hb dX12_by_51 rfl (lv_at hl 4 rfl) ?_
  refine lv_lmul hx hb dX12_by_52 ?_
  refine lv_ladd hx hb dX12_by_53 ?_
  refine lv_lload hx hb dX12_by_54 (lv_at hl 0 rfl) ?_
  obtain ⟨n3, h⟩ := nzL_ok h
  refine lv_ldiv hx hb dX12_by_56 n3 ?_
  refine lv_lstore (lv' := [(11, .long ((l1 + (t_a.toInt64 * l3)) / r_c40_1)), (9, .long r_c40_1), (7, .long (((l1 * l1) + ((t_a.toInt64 * l1) * l3)) - ((t_b.toInt64 * l3) * l3))), (0, .ref h_t), (1, .long l1), (3, .long l3), (5, .long l5)]) hx hb dX12_by_57 hl (by decide) rfl (fun ls hl => ?_)
  refine lv_lload_n hx hb dX12_by_59 rfl (lv_at hl 5 rfl) ?_
  refine lv_lneg hx hb dX12_by_60 ?_
  refine lv_lload hx hb dX12_by_61 (lv_at hl 1 rfl) ?_
  obtain ⟨n4, h⟩ := nzL_ok h
  refine lv_ldiv hx hb dX12_by_63 n4 ?_
  refine lv_lstore (lv' := [(13, .long ((-l3) / r_c40_1)), (11, .long ((l1 + (t_a.toInt64 * l3)) / r_c40_1)), (9, .long r_c40_1), (7, .long (((l1 * l1) + ((t_a.toInt64 * l1) * l3)) - ((t_b.toInt64 * l3) * l3))), (0, .ref h_t), (1, .long l1), (3, .long l3), (5, .long l5)]) hx hb dX12_by_64 hl (by decide) rfl (fun ls hl => ?_)
  refine lv_aload_n hx hb dX12_by_66 rfl (lv_at hl 4 rfl) ?_
  refine lv_lload hx hb dX12_by_67 (lv_at hl 1 rfl) ?_
  refine lv_lload hx hb dX12_by_69 (lv_at hl 7 rfl) ?_
  refine lv_lmul hx hb dX12_by_71 ?_
  refine lv_lload hx hb dX12_by_72 (lv_at hl 0 rfl) ?_
  refine lv_lload hx hb dX12_by_74 (lv_at hl 7 rfl) ?_
  refine lv_lmul hx hb dX12_by_76 ?_
  refine lv_lload hx hb dX12_by_77 (lv_at hl 3 rfl) ?_
  refine lv_lload hx hb dX12_by_79 (lv_at hl 2 rfl) ?_
  obtain ⟨n5, h⟩ := nzL_ok h
  refine lv_ldiv hx hb dX12_by_81 n5 ?_
  obtain ⟨t_u_c82_5, t_v_c82_5, t_d_c82_5, e_c82_5, h⟩ := bnd3_ok h
  refine cl_v (rn_v (ci := 12) (As := [.long (((l1 + (t_a.toInt64 * l3)) / r_c40_1) * l5), .long (((-l3) / r_c40_1) * l5), .long ((((l1 * l1) + ((t_a.toInt64 * l1) * l3)) - ((t_b.toInt64 * l3) * l3)) / r_c40_1)]) (rest := []) S (c_X12_times l D (R) h_t (z_t_0) (z_t_1) (z_t_2) t_a t_b (z_t_5) (z_t_6) (z_t_7) (z_t_8) (z_t_9) t_u t_v t_d (z_t_13) (z_t_14) (z_t_15) (z_t_16) (z_t_17) (z_t_18) (z_t_19) (z_t_20) (z_t_21) (z_t_22) (z_t_23) (z_t_24) (z_t_25) (z_t_26) (z_t_27) (z_t_28) (z_t_29) (z_t_30) (z_t_31) (z_t_32) (z_t_33) (z_t_34) (z_t_35) (z_t_36) (z_t_37) (z_t_38) (z_t_39) (z_t_40) (z_t_41) (z_t_42) (z_t_43) (z_t_44) (z_t_45) (z_t_46) (z_t_47) (z_t_48) (z_t_49) (z_t_50) (z_t_51) (z_t_52) (z_t_53) (z_t_54) (z_t_55) (z_t_56) (z_t_57) (z_t_58) (z_t_59) (z_t_60) (((l1 + (t_a.toInt64 * l3)) / r_c40_1) * l5) (((-l3) / r_c40_1) * l5) ((((l1 * l1) + ((t_a.toInt64 * l1) * l3)) - ((t_b.toInt64 * l3) * l3)) / r_c40_1) t_u_c82_5 t_v_c82_5 t_d_c82_5 e_c82_5 _) q1202 q1204 q32 q61 q1205 nd_X12_times ⟨Nat.le_of_ble_eq_true rfl, Nat.le_of_ble_eq_true rfl⟩ rfl rfl hP hD (hK.sub (tys' := []) [] rfl) hN rfl ⟨0, _, rfl⟩ rfl hl.1 rfl (Nat.le_of_ble_eq_true rfl) dX12_by_82 ⟨Nat.le_of_ble_eq_true rfl, Nat.le_of_ble_eq_true rfl⟩) hS hA hD (fun H locs hP hD hS => ?_)
  have hP : va_P D vwCl ((h_t, .inr (12, (z_t_0 :: z_t_1 :: z_t_2 :: .int t_a :: .int t_b :: z_t_5 :: z_t_6 :: z_t_7 :: z_t_8 :: z_t_9 :: .long t_u_c82_5 :: .long t_v_c82_5 :: .long t_d_c82_5 :: z_t_13 :: z_t_14 :: z_t_15 :: z_t_16 :: z_t_17 :: z_t_18 :: z_t_19 :: z_t_20 :: z_t_21 :: z_t_22 :: z_t_23 :: z_t_24 :: z_t_25 :: z_t_26 :: z_t_27 :: z_t_28 :: z_t_29 :: z_t_30 :: z_t_31 :: z_t_32 :: z_t_33 :: z_t_34 :: z_t_35 :: z_t_36 :: z_t_37 :: z_t_38 :: z_t_39 :: z_t_40 :: z_t_41 :: z_t_42 :: z_t_43 :: z_t_44 :: z_t_45 :: z_t_46 :: z_t_47 :: z_t_48 :: z_t_49 :: z_t_50 :: z_t_51 :: z_t_52 :: z_t_53 :: z_t_54 :: z_t_55 :: z_t_56 :: z_t_57 :: z_t_58 :: z_t_59 :: z_t_60 :: []))) :: R) H := hP
  have hD : va_D A ((h_t, .inr (12, (z_t_0 :: z_t_1 :: z_t_2 :: .int t_a :: .int t_b :: z_t_5 :: z_t_6 :: z_t_7 :: z_t_8 :: z_t_9 :: .long t_u_c82_5 :: .long t_v_c82_5 :: .long t_d_c82_5 :: z_t_13 :: z_t_14 :: z_t_15 :: z_t_16 :: z_t_17 :: z_t_18 :: z_t_19 :: z_t_20 :: z_t_21 :: z_t_22 :: z_t_23 :: z_t_24 :: z_t_25 :: z_t_26 :: z_t_27 :: z_t_28 :: z_t_29 :: z_t_30 :: z_t_31 :: z_t_32 :: z_t_33 :: z_t_34 :: z_t_35 :: z_t_36 :: z_t_37 :: z_t_38 :: z_t_39 :: z_t_40 :: z_t_41 :: z_t_42 :: z_t_43 :: z_t_44 :: z_t_45 :: z_t_46 :: z_t_47 :: z_t_48 :: z_t_49 :: z_t_50 :: z_t_51 :: z_t_52 :: z_t_53 :: z_t_54 :: z_t_55 :: z_t_56 :: z_t_57 :: z_t_58 :: z_t_59 :: z_t_60 :: []))) :: R) := hD
  cases h
  exact rt_v S hr hlk hP hD hS dX12_by_85
noncomputable def f_X12_plus (t_u : Int64) (t_v : Int64) (t_d : Int64) (l1 : Int64) (l3 : Int64) (l5 : Int64) : Option (Int64 × Int64 × Int64) :=
  bnd3 (f_X12_set t_u t_v t_d ((t_u * l5) + (l1 * t_d)) ((t_v * l5) + (l3 * t_d)) (t_d * l5)) fun t_u_c36_0 t_v_c36_0 t_d_c36_0 => (
   some (t_u_c36_0, t_v_c36_0, t_d_c36_0)
  )
set_option maxHeartbeats 4000000 in
set_option maxRecDepth 100000 in
theorem c_X12_plus (l : Launch) (D : va_G) (R : va_W) (h_t : Nat) (z_t_0 : Value) (z_t_1 : Value) (z_t_2 : Value) (z_t_3 : Value) (z_t_4 : Value) (z_t_5 : Value) (z_t_6 : Value) (z_t_7 : Value) (z_t_8 : Value) (z_t_9 : Value) (t_u : Int64) (t_v : Int64) (t_d : Int64) (z_t_13 : Value) (z_t_14 : Value) (z_t_15 : Value) (z_t_16 : Value) (z_t_17 : Value) (z_t_18 : Value) (z_t_19 : Value) (z_t_20 : Value) (z_t_21 : Value) (z_t_22 : Value) (z_t_23 : Value) (z_t_24 : Value) (z_t_25 : Value) (z_t_26 : Value) (z_t_27 : Value) (z_t_28 : Value) (z_t_29 : Value) (z_t_30 : Value) (z_t_31 : Value) (z_t_32 : Value) (z_t_33 : Value) (z_t_34 : Value) (z_t_35 : Value) (z_t_36 : Value) (z_t_37 : Value) (z_t_38 : Value) (z_t_39 : Value) (z_t_40 : Value) (z_t_41 : Value) (z_t_42 : Value) (z_t_43 : Value) (z_t_44 : Value) (z_t_45 : Value) (z_t_46 : Value) (z_t_47 : Value) (z_t_48 : Value) (z_t_49 : Value) (z_t_50 : Value) (z_t_51 : Value) (z_t_52 : Value) (z_t_53 : Value) (z_t_54 : Value) (z_t_55 : Value) (z_t_56 : Value) (z_t_57 : Value) (z_t_58 : Value) (z_t_59 : Value) (z_t_60 : Value) (l1 : Int64) (l3 : Int64) (l5 : Int64) (o_t_u : Int64) (o_t_v : Int64) (o_t_d : Int64)  (h : f_X12_plus t_u t_v t_d l1 l3 l5 = some (o_t_u, o_t_v, o_t_d)) (sz : Nat) : Met l yX12_plus (WD yX12_plus cX12_plus 7 none) ({ frames := 2, cells := 0, slots := 0, locals := 57 }) (va_Pc [.ref h_t, .long l1, .long l3, .long l5] (PcW D [] ((h_t, .inr (12, (z_t_0 :: z_t_1 :: z_t_2 :: z_t_3 :: z_t_4 :: z_t_5 :: z_t_6 :: z_t_7 :: z_t_8 :: z_t_9 :: .long t_u :: .long t_v :: .long t_d :: z_t_13 :: z_t_14 :: z_t_15 :: z_t_16 :: z_t_17 :: z_t_18 :: z_t_19 :: z_t_20 :: z_t_21 :: z_t_22 :: z_t_23 :: z_t_24 :: z_t_25 :: z_t_26 :: z_t_27 :: z_t_28 :: z_t_29 :: z_t_30 :: z_t_31 :: z_t_32 :: z_t_33 :: z_t_34 :: z_t_35 :: z_t_36 :: z_t_37 :: z_t_38 :: z_t_39 :: z_t_40 :: z_t_41 :: z_t_42 :: z_t_43 :: z_t_44 :: z_t_45 :: z_t_46 :: z_t_47 :: z_t_48 :: z_t_49 :: z_t_50 :: z_t_51 :: z_t_52 :: z_t_53 :: z_t_54 :: z_t_55 :: z_t_56 :: z_t_57 :: z_t_58 :: z_t_59 :: z_t_60 :: []))) :: R) sz)) (QV D ((h_t, .inr (12, (z_t_0 :: z_t_1 :: z_t_2 :: z_t_3 :: z_t_4 :: z_t_5 :: z_t_6 :: z_t_7 :: z_t_8 :: z_t_9 :: .long o_t_u :: .long o_t_v :: .long o_t_d :: z_t_13 :: z_t_14 :: z_t_15 :: z_t_16 :: z_t_17 :: z_t_18 :: z_t_19 :: z_t_20 :: z_t_21 :: z_t_22 :: z_t_23 :: z_t_24 :: z_t_25 :: z_t_26 :: z_t_27 :: z_t_28 :: z_t_29 :: z_t_30 :: z_t_31 :: z_t_32 :: z_t_33 :: z_t_34 :: z_t_35 :: z_t_36 :: z_t_37 :: z_t_38 :: z_t_39 :: z_t_40 :: z_t_41 :: z_t_42 :: z_t_43 :: z_t_44 :: z_t_45 :: z_t_46 :: z_t_47 :: z_t_48 :: z_t_49 :: z_t_50 :: z_t_51 :: z_t_52 :: z_t_53 :: z_t_54 :: z_t_55 :: z_t_56 :: z_t_57 :: z_t_58 :: z_t_59 :: z_t_60 :: []))) :: R) (va_A ((h_t, .inr (12, (z_t_0 :: z_t_1 :: z_t_2 :: z_t_3 :: z_t_4 :: z_t_5 :: z_t_6 :: z_t_7 :: z_t_8 :: z_t_9 :: .long t_u :: .long t_v :: .long t_d :: z_t_13 :: z_t_14 :: z_t_15 :: z_t_16 :: z_t_17 :: z_t_18 :: z_t_19 :: z_t_20 :: z_t_21 :: z_t_22 :: z_t_23 :: z_t_24 :: z_t_25 :: z_t_26 :: z_t_27 :: z_t_28 :: z_t_29 :: z_t_30 :: z_t_31 :: z_t_32 :: z_t_33 :: z_t_34 :: z_t_35 :: z_t_36 :: z_t_37 :: z_t_38 :: z_t_39 :: z_t_40 :: z_t_41 :: z_t_42 :: z_t_43 :: z_t_44 :: z_t_45 :: z_t_46 :: z_t_47 :: z_t_48 :: z_t_49 :: z_t_50 :: z_t_51 :: z_t_52 :: z_t_53 :: z_t_54 :: z_t_55 :: z_t_56 :: z_t_57 :: z_t_58 :: z_t_59 :: z_t_60 :: []))) :: R) sz)) 0 0 (va_A ((h_t, .inr (12, (z_t_0 :: z_t_1 :: z_t_2 :: z_t_3 :: z_t_4 :: z_t_5 :: z_t_6 :: z_t_7 :: z_t_8 :: z_t_9 :: .long t_u :: .long t_v :: .long t_d :: z_t_13 :: z_t_14 :: z_t_15 :: z_t_16 :: z_t_17 :: z_t_18 :: z_t_19 :: z_t_20 :: z_t_21 :: z_t_22 :: z_t_23 :: z_t_24 :: z_t_25 :: z_t_26 :: z_t_27 :: z_t_28 :: z_t_29 :: z_t_30 :: z_t_31 :: z_t_32 :: z_t_33 :: z_t_34 :: z_t_35 :: z_t_36 :: z_t_37 :: z_t_38 :: z_t_39 :: z_t_40 :: z_t_41 :: z_t_42 :: z_t_43 :: z_t_44 :: z_t_45 :: z_t_46 :: z_t_47 :: z_t_48 :: z_t_49 :: z_t_50 :: z_t_51 :: z_t_52 :: z_t_53 :: z_t_54 :: z_t_55 :: z_t_56 :: z_t_57 :: z_t_58 :: z_t_59 :: z_t_60 :: []))) :: R) sz) := by
  refine ct_start (QF := fun A => QV D ((h_t, .inr (12, (z_t_0 :: z_t_1 :: z_t_2 :: z_t_3 :: z_t_4 :: z_t_5 :: z_t_6 :: z_t_7 :: z_t_8 :: z_t_9 :: .long o_t_u :: .long o_t_v :: .long o_t_d :: z_t_13 :: z_t_14 :: z_t_15 :: z_t_16 :: z_t_17 :: z_t_18 :: z_t_19 :: z_t_20 :: z_t_21 :: z_t_22 :: z_t_23 :: z_t_24 :: z_t_25 :: z_t_26 :: z_t_27 :: z_t_28 :: z_t_29 :: z_t_30 :: z_t_31 :: z_t_32 :: z_t_33 :: z_t_34 :: z_t_35 :: z_t_36 :: z_t_37 :: z_t_38 :: z_t_39 :: z_t_40 :: z_t_41 :: z_t_42 :: z_t_43 :: z_t_44 :: z_t_45 :: z_t_46 :: z_t_47 :: z_t_48 :: z_t_49 :: z_t_50 :: z_t_51 :: z_t_52 :: z_t_53 :: z_t_54 :: z_t_55 :: z_t_56 :: z_t_57 :: z_t_58 :: z_t_59 :: z_t_60 :: []))) :: R) A) ?_ ?_ ?_
  · decide +kernel
  · exact Nat.le_of_ble_eq_true rfl
  intro p e s m args below meth c A ls S hr hlk hnm hS hA hP hD hK hN hl
  have S : CallFix p m c cX12_plus 7 s args AL "DigitBenchModel" := S
  have hx := S.1
  have hb := S.2.1
  have hown := S.2.2.2.1
  have ha := S.2.2.2.2
  have hl : lv_has ls 7 [(0, .ref h_t), (1, .long l1), (3, .long l3), (5, .long l5)] := hl
  unfold f_X12_plus at h
  refine lv_aload_n hx hb dX12_plus_0 rfl (lv_at hl 0 rfl) ?_
  refine lv_aload_n hx hb dX12_plus_1 rfl (lv_at hl 0 rfl) ?_
  refine va_get (D := D) (ci := 12) (v := .long t_u) (C := RX12) (T := TX12) (N := 61) hx hb ha ix12 hown hK hP 0 rfl rfl 10 (by decide) (ha _ q970) (fun _ h9 => h9) rfl dX12_plus_2 ?_
  refine lv_lload hx hb dX12_plus_5 (lv_at hl 3 rfl) ?_
  refine lv_lmul hx hb dX12_plus_7 ?_
  refine lv_lload_n hx hb dX12_plus_8 rfl (lv_at hl 1 rfl) ?_
  refine lv_aload_n hx hb dX12_plus_9 rfl (lv_at hl 0 rfl) ?_
  refine va_get (D := D) (ci := 12) (v := .long t_d) (C := RX12) (T := TX12) (N := 61) hx hb ha ix12 hown hK hP 0 rfl rfl 12 (by decide) (ha _ q972) (fun _ h9 => h9) rfl dX12_plus_10 ?_
  refine lv_lmul hx hb dX12_plus_13 ?_
  refine lv_ladd hx hb dX12_plus_14 ?_
  refine lv_aload_n hx hb dX12_plus_15 rfl (lv_at hl 0 rfl) ?_
  refine va_get (D := D) (ci := 12) (v := .long t_v) (C := RX12) (T := TX12) (N := 61) hx hb ha ix12 hown hK hP 0 rfl rfl 11 (by decide) (ha _ q971) (fun _ h9 => h9) rfl dX12_plus_16 ?_
  refine lv_lload hx hb dX12_plus_19 (lv_at hl 3 rfl) ?_
  refine lv_lmul hx hb dX12_plus_21 ?_
  refine lv_lload_n hx hb dX12_plus_22 rfl (lv_at hl 2 rfl) ?_
  refine lv_aload_n hx hb dX12_plus_23 rfl (lv_at hl 0 rfl) ?_
  refine va_get (D := D) (ci := 12) (v := .long t_d) (C := RX12) (T := TX12) (N := 61) hx hb ha ix12 hown hK hP 0 rfl rfl 12 (by decide) (ha _ q972) (fun _ h9 => h9) rfl dX12_plus_24 ?_
  refine lv_lmul hx hb dX12_plus_27 ?_
  refine lv_ladd hx hb dX12_plus_28 ?_
  refine lv_aload_n hx hb dX12_plus_29 rfl (lv_at hl 0 rfl) ?_
  refine va_get (D := D) (ci := 12) (v := .long t_d) (C := RX12) (T := TX12) (N := 61) hx hb ha ix12 hown hK hP 0 rfl rfl 12 (by decide) (ha _ q972) (fun _ h9 => h9) rfl dX12_plus_30 ?_
  refine lv_lload hx hb dX12_plus_33 (lv_at hl 3 rfl) ?_
  refine lv_lmul hx hb dX12_plus_35 ?_
  obtain ⟨t_u_c36_0, t_v_c36_0, t_d_c36_0, e_c36_0, h⟩ := bnd3_ok h
  refine cl_v (rn_v (ci := 12) (As := [.long ((t_u * l5) + (l1 * t_d)), .long ((t_v * l5) + (l3 * t_d)), .long (t_d * l5)]) (rest := []) S (c_X12_set l D (R) h_t (z_t_0) (z_t_1) (z_t_2) (z_t_3) (z_t_4) (z_t_5) (z_t_6) (z_t_7) (z_t_8) (z_t_9) t_u t_v t_d (z_t_13) (z_t_14) (z_t_15) (z_t_16) (z_t_17) (z_t_18) (z_t_19) (z_t_20) (z_t_21) (z_t_22) (z_t_23) (z_t_24) (z_t_25) (z_t_26) (z_t_27) (z_t_28) (z_t_29) (z_t_30) (z_t_31) (z_t_32) (z_t_33) (z_t_34) (z_t_35) (z_t_36) (z_t_37) (z_t_38) (z_t_39) (z_t_40) (z_t_41) (z_t_42) (z_t_43) (z_t_44) (z_t_45) (z_t_46) (z_t_47) (z_t_48) (z_t_49) (z_t_50) (z_t_51) (z_t_52) (z_t_53) (z_t_54) (z_t_55) (z_t_56) (z_t_57) (z_t_58) (z_t_59) (z_t_60) ((t_u * l5) + (l1 * t_d)) ((t_v * l5) + (l3 * t_d)) (t_d * l5) t_u_c36_0 t_v_c36_0 t_d_c36_0 e_c36_0 _) q1172 q1174 q27 q61 q1175 nd_X12_set ⟨Nat.le_of_ble_eq_true rfl, Nat.le_of_ble_eq_true rfl⟩ rfl rfl hP hD (hK.sub (tys' := []) [] rfl) hN rfl ⟨0, _, rfl⟩ rfl hl.1 rfl (Nat.le_of_ble_eq_true rfl) dX12_plus_36 ⟨Nat.le_of_ble_eq_true rfl, Nat.le_of_ble_eq_true rfl⟩) hS hA hD (fun H locs hP hD hS => ?_)
  have hP : va_P D vwCl ((h_t, .inr (12, (z_t_0 :: z_t_1 :: z_t_2 :: z_t_3 :: z_t_4 :: z_t_5 :: z_t_6 :: z_t_7 :: z_t_8 :: z_t_9 :: .long t_u_c36_0 :: .long t_v_c36_0 :: .long t_d_c36_0 :: z_t_13 :: z_t_14 :: z_t_15 :: z_t_16 :: z_t_17 :: z_t_18 :: z_t_19 :: z_t_20 :: z_t_21 :: z_t_22 :: z_t_23 :: z_t_24 :: z_t_25 :: z_t_26 :: z_t_27 :: z_t_28 :: z_t_29 :: z_t_30 :: z_t_31 :: z_t_32 :: z_t_33 :: z_t_34 :: z_t_35 :: z_t_36 :: z_t_37 :: z_t_38 :: z_t_39 :: z_t_40 :: z_t_41 :: z_t_42 :: z_t_43 :: z_t_44 :: z_t_45 :: z_t_46 :: z_t_47 :: z_t_48 :: z_t_49 :: z_t_50 :: z_t_51 :: z_t_52 :: z_t_53 :: z_t_54 :: z_t_55 :: z_t_56 :: z_t_57 :: z_t_58 :: z_t_59 :: z_t_60 :: []))) :: R) H := hP
  have hD : va_D A ((h_t, .inr (12, (z_t_0 :: z_t_1 :: z_t_2 :: z_t_3 :: z_t_4 :: z_t_5 :: z_t_6 :: z_t_7 :: z_t_8 :: z_t_9 :: .long t_u_c36_0 :: .long t_v_c36_0 :: .long t_d_c36_0 :: z_t_13 :: z_t_14 :: z_t_15 :: z_t_16 :: z_t_17 :: z_t_18 :: z_t_19 :: z_t_20 :: z_t_21 :: z_t_22 :: z_t_23 :: z_t_24 :: z_t_25 :: z_t_26 :: z_t_27 :: z_t_28 :: z_t_29 :: z_t_30 :: z_t_31 :: z_t_32 :: z_t_33 :: z_t_34 :: z_t_35 :: z_t_36 :: z_t_37 :: z_t_38 :: z_t_39 :: z_t_40 :: z_t_41 :: z_t_42 :: z_t_43 :: z_t_44 :: z_t_45 :: z_t_46 :: z_t_47 :: z_t_48 :: z_t_49 :: z_t_50 :: z_t_51 :: z_t_52 :: z_t_53 :: z_t_54 :: z_t_55 :: z_t_56 :: z_t_57 :: z_t_58 :: z_t_59 :: z_t_60 :: []))) :: R) := hD
  cases h
  exact rt_v S hr hlk hP hD hS dX12_plus_39
noncomputable def f_X12_make (t_thrown : Int32) (t_a : Int32) (t_b : Int32) (t_u : Int64) (t_v : Int64) (t_d : Int64) (t_has : Nat → Int32) (t_us : Nat → Int32) (t_vs : Nat → Int32) (t_ds : Nat → Int32) (l1 : Int32) (l2 : Int32) (l3 : Int32) (l4 : Int32) : Option (Int32 × Int32 × Int64 × Int64 × Int64 × (Nat → Int32) × (Nat → Int32) × (Nat → Int32) × (Nat → Int32)) :=
  bnd1 (f_X12_isThere t_has l2) fun r_c7_0 => (
   if r_c7_0 = 0 then (
    some (0, 0, t_u, t_v, t_d, t_has, t_us, t_vs, t_ds)
   ) else (
    bnd1 (f_X12_isThere t_has l3) fun r_c15_2 => (
     if r_c15_2 = 0 then (
      some (0, 0, t_u, t_v, t_d, t_has, t_us, t_vs, t_ds)
     ) else (
      if l4 < 0 then (
       some (0, 0, t_u, t_v, t_d, t_has, t_us, t_vs, t_ds)
      ) else (
       if 3 < l4 then (
        some (0, 0, t_u, t_v, t_d, t_has, t_us, t_vs, t_ds)
       ) else (
        if l4 = 3 then (
         gd (ixb l3 10) (
          if (t_us l3.toNatClampNeg) = 0 then (
           gd (ixb l3 10) (
            if (t_vs l3.toNatClampNeg) = 0 then (
             some (0, 0, t_u, t_v, t_d, t_has, t_us, t_vs, t_ds)
            ) else (
             gd (ixb l2 10) (
              gd (ixb l2 10) (
               gd (ixb l2 10) (
                bnd3 (f_X12_set t_u t_v t_d ((t_us l2.toNatClampNeg).toInt64) ((t_vs l2.toNatClampNeg).toInt64) ((t_ds l2.toNatClampNeg).toInt64)) fun t_u_c80_14 t_v_c80_14 t_d_c80_14 => (
                 if l4 = 0 then (
                  gd (ixb l3 10) (
                   gd (ixb l3 10) (
                    gd (ixb l3 10) (
                     bnd3 (f_X12_plus t_u_c80_14 t_v_c80_14 t_d_c80_14 ((t_us l3.toNatClampNeg).toInt64) ((t_vs l3.toNatClampNeg).toInt64) ((t_ds l3.toNatClampNeg).toInt64)) fun t_u_c110_19 t_v_c110_19 t_d_c110_19 => (
                      bnd5 (f_X12_put t_u_c110_19 t_v_c110_19 t_d_c110_19 t_has t_us t_vs t_ds l1) fun r_c213_20 t_has_c213_20 t_us_c213_20 t_vs_c213_20 t_ds_c213_20 => (
                       some (r_c213_20, 0, t_u_c110_19, t_v_c110_19, t_d_c110_19, t_has_c213_20, t_us_c213_20, t_vs_c213_20, t_ds_c213_20)
                      )
                     )
                    )
                   )
                  )
                 ) else (
                  if l4 = 1 then (
                   gd (ixb l3 10) (
                    gd (ixb l3 10) (
                     gd (ixb l3 10) (
                      bnd3 (f_X12_plus t_u_c80_14 t_v_c80_14 t_d_c80_14 ((-(t_us l3.toNatClampNeg)).toInt64) ((-(t_vs l3.toNatClampNeg)).toInt64) ((t_ds l3.toNatClampNeg).toInt64)) fun t_u_c146_25 t_v_c146_25 t_d_c146_25 => (
                       bnd5 (f_X12_put t_u_c146_25 t_v_c146_25 t_d_c146_25 t_has t_us t_vs t_ds l1) fun r_c213_26 t_has_c213_26 t_us_c213_26 t_vs_c213_26 t_ds_c213_26 => (
                        some (r_c213_26, 0, t_u_c146_25, t_v_c146_25, t_d_c146_25, t_has_c213_26, t_us_c213_26, t_vs_c213_26, t_ds_c213_26)
                       )
                      )
                     )
                    )
                   )
                  ) else (
                   if l4 = 2 then (
                    gd (ixb l3 10) (
                     gd (ixb l3 10) (
                      gd (ixb l3 10) (
                       bnd3 (f_X12_times t_a t_b t_u_c80_14 t_v_c80_14 t_d_c80_14 ((t_us l3.toNatClampNeg).toInt64) ((t_vs l3.toNatClampNeg).toInt64) ((t_ds l3.toNatClampNeg).toInt64)) fun t_u_c180_31 t_v_c180_31 t_d_c180_31 => (
                        bnd5 (f_X12_put t_u_c180_31 t_v_c180_31 t_d_c180_31 t_has t_us t_vs t_ds l1) fun r_c213_32 t_has_c213_32 t_us_c213_32 t_vs_c213_32 t_ds_c213_32 => (
                         some (r_c213_32, 0, t_u_c180_31, t_v_c180_31, t_d_c180_31, t_has_c213_32, t_us_c213_32, t_vs_c213_32, t_ds_c213_32)
                        )
                       )
                      )
                     )
                    )
                   ) else (
                    gd (ixb l3 10) (
                     gd (ixb l3 10) (
                      gd (ixb l3 10) (
                       bnd3 (f_X12_by t_a t_b t_u_c80_14 t_v_c80_14 t_d_c80_14 ((t_us l3.toNatClampNeg).toInt64) ((t_vs l3.toNatClampNeg).toInt64) ((t_ds l3.toNatClampNeg).toInt64)) fun t_u_c208_36 t_v_c208_36 t_d_c208_36 => (
                        bnd5 (f_X12_put t_u_c208_36 t_v_c208_36 t_d_c208_36 t_has t_us t_vs t_ds l1) fun r_c213_37 t_has_c213_37 t_us_c213_37 t_vs_c213_37 t_ds_c213_37 => (
                         some (r_c213_37, 0, t_u_c208_36, t_v_c208_36, t_d_c208_36, t_has_c213_37, t_us_c213_37, t_vs_c213_37, t_ds_c213_37)
                        )
                       )
                      )
                     )
                    )
                   )
                  )
                 )
                )
               )
              )
             )
            )
           )
          ) else (
           gd (ixb l2 10) (
            gd (ixb l2 10) (
             gd (ixb l2 10) (
              bnd3 (f_X12_set t_u t_v t_d ((t_us l2.toNatClampNeg).toInt64) ((t_vs l2.toNatClampNeg).toInt64) ((t_ds l2.toNatClampNeg).toInt64)) fun t_u_c80_41 t_v_c80_41 t_d_c80_41 => (
               if l4 = 0 then (
                gd (ixb l3 10) (
                 gd (ixb l3 10) (
                  gd (ixb l3 10) (
                   bnd3 (f_X12_plus t_u_c80_41 t_v_c80_41 t_d_c80_41 ((t_us l3.toNatClampNeg).toInt64) ((t_vs l3.toNatClampNeg).toInt64) ((t_ds l3.toNatClampNeg).toInt64)) fun t_u_c110_46 t_v_c110_46 t_d_c110_46 => (
                    bnd5 (f_X12_put t_u_c110_46 t_v_c110_46 t_d_c110_46 t_has t_us t_vs t_ds l1) fun r_c213_47 t_has_c213_47 t_us_c213_47 t_vs_c213_47 t_ds_c213_47 => (
                     some (r_c213_47, 0, t_u_c110_46, t_v_c110_46, t_d_c110_46, t_has_c213_47, t_us_c213_47, t_vs_c213_47, t_ds_c213_47)
                    )
                   )
                  )
                 )
                )
               ) else (
                if l4 = 1 then (
                 gd (ixb l3 10) (
                  gd (ixb l3 10) (
                   gd (ixb l3 10) (
                    bnd3 (f_X12_plus t_u_c80_41 t_v_c80_41 t_d_c80_41 ((-(t_us l3.toNatClampNeg)).toInt64) ((-(t_vs l3.toNatClampNeg)).toInt64) ((t_ds l3.toNatClampNeg).toInt64)) fun t_u_c146_52 t_v_c146_52 t_d_c146_52 => (
                     bnd5 (f_X12_put t_u_c146_52 t_v_c146_52 t_d_c146_52 t_has t_us t_vs t_ds l1) fun r_c213_53 t_has_c213_53 t_us_c213_53 t_vs_c213_53 t_ds_c213_53 => (
                      some (r_c213_53, 0, t_u_c146_52, t_v_c146_52, t_d_c146_52, t_has_c213_53, t_us_c213_53, t_vs_c213_53, t_ds_c213_53)
                     )
                    )
                   )
                  )
                 )
                ) else (
                 if l4 = 2 then (
                  gd (ixb l3 10) (
                   gd (ixb l3 10) (
                    gd (ixb l3 10) (
                     bnd3 (f_X12_times t_a t_b t_u_c80_41 t_v_c80_41 t_d_c80_41 ((t_us l3.toNatClampNeg).toInt64) ((t_vs l3.toNatClampNeg).toInt64) ((t_ds l3.toNatClampNeg).toInt64)) fun t_u_c180_58 t_v_c180_58 t_d_c180_58 => (
                      bnd5 (f_X12_put t_u_c180_58 t_v_c180_58 t_d_c180_58 t_has t_us t_vs t_ds l1) fun r_c213_59 t_has_c213_59 t_us_c213_59 t_vs_c213_59 t_ds_c213_59 => (
                       some (r_c213_59, 0, t_u_c180_58, t_v_c180_58, t_d_c180_58, t_has_c213_59, t_us_c213_59, t_vs_c213_59, t_ds_c213_59)
                      )
                     )
                    )
                   )
                  )
                 ) else (
                  gd (ixb l3 10) (
                   gd (ixb l3 10) (
                    gd (ixb l3 10) (
                     bnd3 (f_X12_by t_a t_b t_u_c80_41 t_v_c80_41 t_d_c80_41 ((t_us l3.toNatClampNeg).toInt64) ((t_vs l3.toNatClampNeg).toInt64) ((t_ds l3.toNatClampNeg).toInt64)) fun t_u_c208_63 t_v_c208_63 t_d_c208_63 => (
                      bnd5 (f_X12_put t_u_c208_63 t_v_c208_63 t_d_c208_63 t_has t_us t_vs t_ds l1) fun r_c213_64 t_has_c213_64 t_us_c213_64 t_vs_c213_64 t_ds_c213_64 => (
                       some (r_c213_64, 0, t_u_c208_63, t_v_c208_63, t_d_c208_63, t_has_c213_64, t_us_c213_64, t_vs_c213_64, t_ds_c213_64)
                      )
                     )
                    )
                   )
                  )
                 )
                )
               )
              )
             )
            )
           )
          )
         )
        ) else (
         gd (ixb l2 10) (
          gd (ixb l2 10) (
           gd (ixb l2 10) (
            bnd3 (f_X12_set t_u t_v t_d ((t_us l2.toNatClampNeg).toInt64) ((t_vs l2.toNatClampNeg).toInt64) ((t_ds l2.toNatClampNeg).toInt64)) fun t_u_c80_68 t_v_c80_68 t_d_c80_68 => (
             if l4 = 0 then (
              gd (ixb l3 10) (
               gd (ixb l3 10) (
                gd (ixb l3 10) (
                 bnd3 (f_X12_plus t_u_c80_68 t_v_c80_68 t_d_c80_68 ((t_us l3.toNatClampNeg).toInt64) ((t_vs l3.toNatClampNeg).toInt64) ((t_ds l3.toNatClampNeg).toInt64)) fun t_u_c110_73 t_v_c110_73 t_d_c110_73 => (
                  bnd5 (f_X12_put t_u_c110_73 t_v_c110_73 t_d_c110_73 t_has t_us t_vs t_ds l1) fun r_c213_74 t_has_c213_74 t_us_c213_74 t_vs_c213_74 t_ds_c213_74 => (
                   some (r_c213_74, 0, t_u_c110_73, t_v_c110_73, t_d_c110_73, t_has_c213_74, t_us_c213_74, t_vs_c213_74, t_ds_c213_74)
                  )
                 )
                )
               )
              )
             ) else (
              if l4 = 1 then (
               gd (ixb l3 10) (
                gd (ixb l3 10) (
                 gd (ixb l3 10) (
                  bnd3 (f_X12_plus t_u_c80_68 t_v_c80_68 t_d_c80_68 ((-(t_us l3.toNatClampNeg)).toInt64) ((-(t_vs l3.toNatClampNeg)).toInt64) ((t_ds l3.toNatClampNeg).toInt64)) fun t_u_c146_79 t_v_c146_79 t_d_c146_79 => (
                   bnd5 (f_X12_put t_u_c146_79 t_v_c146_79 t_d_c146_79 t_has t_us t_vs t_ds l1) fun r_c213_80 t_has_c213_80 t_us_c213_80 t_vs_c213_80 t_ds_c213_80 => (
                    some (r_c213_80, 0, t_u_c146_79, t_v_c146_79, t_d_c146_79, t_has_c213_80, t_us_c213_80, t_vs_c213_80, t_ds_c213_80)
                   )
                  )
                 )
                )
               )
              ) else (
               if l4 = 2 then (
                gd (ixb l3 10) (
                 gd (ixb l3 10) (
                  gd (ixb l3 10) (
                   bnd3 (f_X12_times t_a t_b t_u_c80_68 t_v_c80_68 t_d_c80_68 ((t_us l3.toNatClampNeg).toInt64) ((t_vs l3.toNatClampNeg).toInt64) ((t_ds l3.toNatClampNeg).toInt64)) fun t_u_c180_85 t_v_c180_85 t_d_c180_85 => (
                    bnd5 (f_X12_put t_u_c180_85 t_v_c180_85 t_d_c180_85 t_has t_us t_vs t_ds l1) fun r_c213_86 t_has_c213_86 t_us_c213_86 t_vs_c213_86 t_ds_c213_86 => (
                     some (r_c213_86, 0, t_u_c180_85, t_v_c180_85, t_d_c180_85, t_has_c213_86, t_us_c213_86, t_vs_c213_86, t_ds_c213_86)
                    )
                   )
                  )
                 )
                )
               ) else (
                gd (ixb l3 10) (
                 gd (ixb l3 10) (
                  gd (ixb l3 10) (
                   bnd3 (f_X12_by t_a t_b t_u_c80_68 t_v_c80_68 t_d_c80_68 ((t_us l3.toNatClampNeg).toInt64) ((t_vs l3.toNatClampNeg).toInt64) ((t_ds l3.toNatClampNeg).toInt64)) fun t_u_c208_90 t_v_c208_90 t_d_c208_90 => (
                    bnd5 (f_X12_put t_u_c208_90 t_v_c208_90 t_d_c208_90 t_has t_us t_vs t_ds l1) fun r_c213_91 t_has_c213_91 t_us_c213_91 t_vs_c213_91 t_ds_c213_91 => (
                     some (r_c213_91, 0, t_u_c208_90, t_v_c208_90, t_d_c208_90, t_has_c213_91, t_us_c213_91, t_vs_c213_91, t_ds_c213_91)
                    )
                   )
                  )
                 )
                )
               )
              )
             )
            )
           )
          )
         )
        )
       )
      )
     )
    )
   )
  )
set_option maxHeartbeats 4000000 in
set_option maxRecDepth 100000 in
theorem c_X12_make (l : Launch) (D : va_G) (R : va_W) (h_t : Nat) (t_thrown : Int32) (z_t_1 : Value) (z_t_2 : Value) (t_a : Int32) (t_b : Int32) (z_t_5 : Value) (t_u : Int64) (t_v : Int64) (t_d : Int64) (z_t_13 : Value) (z_t_14 : Value) (z_t_15 : Value) (z_t_16 : Value) (z_t_17 : Value) (z_t_18 : Value) (z_t_19 : Value) (z_t_20 : Value) (z_t_21 : Value) (z_t_22 : Value) (z_t_23 : Value) (z_t_24 : Value) (z_t_25 : Value) (z_t_26 : Value) (z_t_27 : Value) (z_t_28 : Value) (z_t_29 : Value) (z_t_30 : Value) (z_t_31 : Value) (z_t_32 : Value) (z_t_33 : Value) (z_t_34 : Value) (z_t_35 : Value) (z_t_36 : Value) (z_t_37 : Value) (z_t_38 : Value) (z_t_39 : Value) (z_t_40 : Value) (z_t_41 : Value) (z_t_42 : Value) (z_t_43 : Value) (z_t_44 : Value) (z_t_45 : Value) (z_t_46 : Value) (z_t_47 : Value) (z_t_48 : Value) (z_t_49 : Value) (z_t_50 : Value) (z_t_51 : Value) (z_t_52 : Value) (z_t_53 : Value) (z_t_54 : Value) (z_t_55 : Value) (z_t_56 : Value) (z_t_57 : Value) (z_t_58 : Value) (z_t_59 : Value) (z_t_60 : Value) (h_t_has : Nat) (k_t_has : ClassId) (t_has : Nat → Int32) (h_t_us : Nat) (k_t_us : ClassId) (t_us : Nat → Int32) (h_t_vs : Nat) (k_t_vs : ClassId) (t_vs : Nat → Int32) (h_t_ds : Nat) (k_t_ds : ClassId) (t_ds : Nat → Int32) (l1 : Int32) (l2 : Int32) (l3 : Int32) (l4 : Int32) (r : Int32) (o_t_thrown : Int32) (o_t_u : Int64) (o_t_v : Int64) (o_t_d : Int64) (o_t_has : Nat → Int32) (o_t_us : Nat → Int32) (o_t_vs : Nat → Int32) (o_t_ds : Nat → Int32)  (h : f_X12_make t_thrown t_a t_b t_u t_v t_d t_has t_us t_vs t_ds l1 l2 l3 l4 = some (r, o_t_thrown, o_t_u, o_t_v, o_t_d, o_t_has, o_t_us, o_t_vs, o_t_ds)) (sz : Nat) : Met l yX12_make (WD yX12_make cX12_make 5 (some .boolean)) ({ frames := 4, cells := 0, slots := 0, locals := 117 }) (va_Pc [.ref h_t, .int l1, .int l2, .int l3, .int l4] (PcW D [(k_t_has, .boolean), (k_t_us, .int), (k_t_vs, .int), (k_t_ds, .int)] ((h_t, .inr (12, (.int t_thrown :: z_t_1 :: z_t_2 :: .int t_a :: .int t_b :: z_t_5 :: .ref h_t_has :: .ref h_t_us :: .ref h_t_vs :: .ref h_t_ds :: .long t_u :: .long t_v :: .long t_d :: z_t_13 :: z_t_14 :: z_t_15 :: z_t_16 :: z_t_17 :: z_t_18 :: z_t_19 :: z_t_20 :: z_t_21 :: z_t_22 :: z_t_23 :: z_t_24 :: z_t_25 :: z_t_26 :: z_t_27 :: z_t_28 :: z_t_29 :: z_t_30 :: z_t_31 :: z_t_32 :: z_t_33 :: z_t_34 :: z_t_35 :: z_t_36 :: z_t_37 :: z_t_38 :: z_t_39 :: z_t_40 :: z_t_41 :: z_t_42 :: z_t_43 :: z_t_44 :: z_t_45 :: z_t_46 :: z_t_47 :: z_t_48 :: z_t_49 :: z_t_50 :: z_t_51 :: z_t_52 :: z_t_53 :: z_t_54 :: z_t_55 :: z_t_56 :: z_t_57 :: z_t_58 :: z_t_59 :: z_t_60 :: []))) :: (h_t_has, .inl (k_t_has, 10, .inl t_has)) :: (h_t_us, .inl (k_t_us, 10, .inl t_us)) :: (h_t_vs, .inl (k_t_vs, 10, .inl t_vs)) :: (h_t_ds, .inl (k_t_ds, 10, .inl t_ds)) :: R) sz)) (QZ D r ((h_t, .inr (12, (.int o_t_thrown :: z_t_1 :: z_t_2 :: .int t_a :: .int t_b :: z_t_5 :: .ref h_t_has :: .ref h_t_us :: .ref h_t_vs :: .ref h_t_ds :: .long o_t_u :: .long o_t_v :: .long o_t_d :: z_t_13 :: z_t_14 :: z_t_15 :: z_t_16 :: z_t_17 :: z_t_18 :: z_t_19 :: z_t_20 :: z_t_21 :: z_t_22 :: z_t_23 :: z_t_24 :: z_t_25 :: z_t_26 :: z_t_27 :: z_t_28 :: z_t_29 :: z_t_30 :: z_t_31 :: z_t_32 :: z_t_33 :: z_t_34 :: z_t_35 :: z_t_36 :: z_t_37 :: z_t_38 :: z_t_39 :: z_t_40 :: z_t_41 :: z_t_42 :: z_t_43 :: z_t_44 :: z_t_45 :: z_t_46 :: z_t_47 :: z_t_48 :: z_t_49 :: z_t_50 :: z_t_51 :: z_t_52 :: z_t_53 :: z_t_54 :: z_t_55 :: z_t_56 :: z_t_57 :: z_t_58 :: z_t_59 :: z_t_60 :: []))) :: (h_t_has, .inl (k_t_has, 10, .inl o_t_has)) :: (h_t_us, .inl (k_t_us, 10, .inl o_t_us)) :: (h_t_vs, .inl (k_t_vs, 10, .inl o_t_vs)) :: (h_t_ds, .inl (k_t_ds, 10, .inl o_t_ds)) :: R) (va_A ((h_t, .inr (12, (.int t_thrown :: z_t_1 :: z_t_2 :: .int t_a :: .int t_b :: z_t_5 :: .ref h_t_has :: .ref h_t_us :: .ref h_t_vs :: .ref h_t_ds :: .long t_u :: .long t_v :: .long t_d :: z_t_13 :: z_t_14 :: z_t_15 :: z_t_16 :: z_t_17 :: z_t_18 :: z_t_19 :: z_t_20 :: z_t_21 :: z_t_22 :: z_t_23 :: z_t_24 :: z_t_25 :: z_t_26 :: z_t_27 :: z_t_28 :: z_t_29 :: z_t_30 :: z_t_31 :: z_t_32 :: z_t_33 :: z_t_34 :: z_t_35 :: z_t_36 :: z_t_37 :: z_t_38 :: z_t_39 :: z_t_40 :: z_t_41 :: z_t_42 :: z_t_43 :: z_t_44 :: z_t_45 :: z_t_46 :: z_t_47 :: z_t_48 :: z_t_49 :: z_t_50 :: z_t_51 :: z_t_52 :: z_t_53 :: z_t_54 :: z_t_55 :: z_t_56 :: z_t_57 :: z_t_58 :: z_t_59 :: z_t_60 :: []))) :: (h_t_has, .inl (k_t_has, 10, .inl t_has)) :: (h_t_us, .inl (k_t_us, 10, .inl t_us)) :: (h_t_vs, .inl (k_t_vs, 10, .inl t_vs)) :: (h_t_ds, .inl (k_t_ds, 10, .inl t_ds)) :: R) sz)) 0 0 (va_A ((h_t, .inr (12, (.int t_thrown :: z_t_1 :: z_t_2 :: .int t_a :: .int t_b :: z_t_5 :: .ref h_t_has :: .ref h_t_us :: .ref h_t_vs :: .ref h_t_ds :: .long t_u :: .long t_v :: .long t_d :: z_t_13 :: z_t_14 :: z_t_15 :: z_t_16 :: z_t_17 :: z_t_18 :: z_t_19 :: z_t_20 :: z_t_21 :: z_t_22 :: z_t_23 :: z_t_24 :: z_t_25 :: z_t_26 :: z_t_27 :: z_t_28 :: z_t_29 :: z_t_30 :: z_t_31 :: z_t_32 :: z_t_33 :: z_t_34 :: z_t_35 :: z_t_36 :: z_t_37 :: z_t_38 :: z_t_39 :: z_t_40 :: z_t_41 :: z_t_42 :: z_t_43 :: z_t_44 :: z_t_45 :: z_t_46 :: z_t_47 :: z_t_48 :: z_t_49 :: z_t_50 :: z_t_51 :: z_t_52 :: z_t_53 :: z_t_54 :: z_t_55 :: z_t_56 :: z_t_57 :: z_t_58 :: z_t_59 :: z_t_60 :: []))) :: (h_t_has, .inl (k_t_has, 10, .inl t_has)) :: (h_t_us, .inl (k_t_us, 10, .inl t_us)) :: (h_t_vs, .inl (k_t_vs, 10, .inl t_vs)) :: (h_t_ds, .inl (k_t_ds, 10, .inl t_ds)) :: R) sz) := by
  refine ct_start (QF := fun A => QZ D r ((h_t, .inr (12, (.int o_t_thrown :: z_t_1 :: z_t_2 :: .int t_a :: .int t_b :: z_t_5 :: .ref h_t_has :: .ref h_t_us :: .ref h_t_vs :: .ref h_t_ds :: .long o_t_u :: .long o_t_v :: .long o_t_d :: z_t_13 :: z_t_14 :: z_t_15 :: z_t_16 :: z_t_17 :: z_t_18 :: z_t_19 :: z_t_20 :: z_t_21 :: z_t_22 :: z_t_23 :: z_t_24 :: z_t_25 :: z_t_26 :: z_t_27 :: z_t_28 :: z_t_29 :: z_t_30 :: z_t_31 :: z_t_32 :: z_t_33 :: z_t_34 :: z_t_35 :: z_t_36 :: z_t_37 :: z_t_38 :: z_t_39 :: z_t_40 :: z_t_41 :: z_t_42 :: z_t_43 :: z_t_44 :: z_t_45 :: z_t_46 :: z_t_47 :: z_t_48 :: z_t_49 :: z_t_50 :: z_t_51 :: z_t_52 :: z_t_53 :: z_t_54 :: z_t_55 :: z_t_56 :: z_t_57 :: z_t_58 :: z_t_59 :: z_t_60 :: []))) :: (h_t_has, .inl (k_t_has, 10, .inl o_t_has)) :: (h_t_us, .inl (k_t_us, 10, .inl o_t_us)) :: (h_t_vs, .inl (k_t_vs, 10, .inl o_t_vs)) :: (h_t_ds, .inl (k_t_ds, 10, .inl o_t_ds)) :: R) A) ?_ ?_ ?_
  · decide +kernel
  · exact Nat.le_of_ble_eq_true rfl
  intro p e s m args below meth c A ls S hr hlk hnm hS hA hP hD hK hN hl
  have S : CallFix p m c cX12_make 5 s args AL "DigitBenchModel" := S
  have hx := S.1
  have hb := S.2.1
  have hown := S.2.2.2.1
  have ha := S.2.2.2.2
  have hl : lv_has ls 5 [(0, .ref h_t), (1, .int l1), (2, .int l2), (3, .int l3), (4, .int l4)] := hl
  unfold f_X12_make at h
  refine lv_aload_n hx hb dX12_make_0 rfl (lv_at hl 0 rfl) ?_
  refine lv_iconst (v := 0) hx hb dX12_make_1 (by decide) ?_
  refine va_put (D := D) (ci := 12) (v := .int 0) (ty := .int) (C := RX12) (T := TX12) (N := 61) hx hb ha ix12 tyX12 tyX12_ok nmX12 hown hK hP hD hS 0 rfl rfl 0 (by decide) (ha _ q960) (fun _ h9 => h9) rfl (by decide +kernel) rfl rfl (Nat.le_of_ble_eq_true rfl) dX12_make_2 (fun H locs hP hD hS => ?_)
  have hP : va_P D vwCl ((h_t, .inr (12, (.int 0 :: z_t_1 :: z_t_2 :: .int t_a :: .int t_b :: z_t_5 :: .ref h_t_has :: .ref h_t_us :: .ref h_t_vs :: .ref h_t_ds :: .long t_u :: .long t_v :: .long t_d :: z_t_13 :: z_t_14 :: z_t_15 :: z_t_16 :: z_t_17 :: z_t_18 :: z_t_19 :: z_t_20 :: z_t_21 :: z_t_22 :: z_t_23 :: z_t_24 :: z_t_25 :: z_t_26 :: z_t_27 :: z_t_28 :: z_t_29 :: z_t_30 :: z_t_31 :: z_t_32 :: z_t_33 :: z_t_34 :: z_t_35 :: z_t_36 :: z_t_37 :: z_t_38 :: z_t_39 :: z_t_40 :: z_t_41 :: z_t_42 :: z_t_43 :: z_t_44 :: z_t_45 :: z_t_46 :: z_t_47 :: z_t_48 :: z_t_49 :: z_t_50 :: z_t_51 :: z_t_52 :: z_t_53 :: z_t_54 :: z_t_55 :: z_t_56 :: z_t_57 :: z_t_58 :: z_t_59 :: z_t_60 :: []))) :: (h_t_has, .inl (k_t_has, 10, .inl t_has)) :: (h_t_us, .inl (k_t_us, 10, .inl t_us)) :: (h_t_vs, .inl (k_t_vs, 10, .inl t_vs)) :: (h_t_ds, .inl (k_t_ds, 10, .inl t_ds)) :: R) H := hP
  have hD : va_D A ((h_t, .inr (12, (.int 0 :: z_t_1 :: z_t_2 :: .int t_a :: .int t_b :: z_t_5 :: .ref h_t_has :: .ref h_t_us :: .ref h_t_vs :: .ref h_t_ds :: .long t_u :: .long t_v :: .long t_d :: z_t_13 :: z_t_14 :: z_t_15 :: z_t_16 :: z_t_17 :: z_t_18 :: z_t_19 :: z_t_20 :: z_t_21 :: z_t_22 :: z_t_23 :: z_t_24 :: z_t_25 :: z_t_26 :: z_t_27 :: z_t_28 :: z_t_29 :: z_t_30 :: z_t_31 :: z_t_32 :: z_t_33 :: z_t_34 :: z_t_35 :: z_t_36 :: z_t_37 :: z_t_38 :: z_t_39 :: z_t_40 :: z_t_41 :: z_t_42 :: z_t_43 :: z_t_44 :: z_t_45 :: z_t_46 :: z_t_47 :: z_t_48 :: z_t_49 :: z_t_50 :: z_t_51 :: z_t_52 :: z_t_53 :: z_t_54 :: z_t_55 :: z_t_56 :: z_t_57 :: z_t_58 :: z_t_59 :: z_t_60 :: []))) :: (h_t_has, .inl (k_t_has, 10, .inl t_has)) :: (h_t_us, .inl (k_t_us, 10, .inl t_us)) :: (h_t_vs, .inl (k_t_vs, 10, .inl t_vs)) :: (h_t_ds, .inl (k_t_ds, 10, .inl t_ds)) :: R) := hD
  refine lv_aload_n hx hb dX12_make_5 rfl (lv_at hl 0 rfl) ?_
  refine lv_iload_n hx hb dX12_make_6 rfl (lv_at hl 2 rfl) ?_
  obtain ⟨r_c7_0, e_c7_0, h⟩ := bnd1_ok h
  refine cl_z (rn_v (ci := 12) (As := [.int l2]) (rest := []) S (c_X12_isThere l D ((h_t_us, .inl (k_t_us, 10, .inl t_us)) :: (h_t_vs, .inl (k_t_vs, 10, .inl t_vs)) :: (h_t_ds, .inl (k_t_ds, 10, .inl t_ds)) :: R) h_t (.int 0) (z_t_1) (z_t_2) (.int t_a) (.int t_b) (z_t_5) (.ref h_t_us) (.ref h_t_vs) (.ref h_t_ds) (.long t_u) (.long t_v) (.long t_d) (z_t_13) (z_t_14) (z_t_15) (z_t_16) (z_t_17) (z_t_18) (z_t_19) (z_t_20) (z_t_21) (z_t_22) (z_t_23) (z_t_24) (z_t_25) (z_t_26) (z_t_27) (z_t_28) (z_t_29) (z_t_30) (z_t_31) (z_t_32) (z_t_33) (z_t_34) (z_t_35) (z_t_36) (z_t_37) (z_t_38) (z_t_39) (z_t_40) (z_t_41) (z_t_42) (z_t_43) (z_t_44) (z_t_45) (z_t_46) (z_t_47) (z_t_48) (z_t_49) (z_t_50) (z_t_51) (z_t_52) (z_t_53) (z_t_54) (z_t_55) (z_t_56) (z_t_57) (z_t_58) (z_t_59) (z_t_60) h_t_has k_t_has t_has l2 r_c7_0 e_c7_0 _) q1194 q1196 q30 q61 q1197 nd_X12_isThere ⟨Nat.le_of_ble_eq_true rfl, Nat.le_of_ble_eq_true rfl⟩ rfl rfl hP hD (hK.sub (tys' := [(k_t_has, .boolean)]) [0] rfl) hN rfl ⟨0, _, rfl⟩ rfl hl.1 rfl (Nat.le_of_ble_eq_true rfl) dX12_make_7 ⟨Nat.le_of_ble_eq_true rfl, Nat.le_of_ble_eq_true rfl⟩) hS hA hD (fun H locs hP hD hS z_c7_0 => ?_)
  have hP : va_P D vwCl ((h_t, .inr (12, (.int 0 :: z_t_1 :: z_t_2 :: .int t_a :: .int t_b :: z_t_5 :: .ref h_t_has :: .ref h_t_us :: .ref h_t_vs :: .ref h_t_ds :: .long t_u :: .long t_v :: .long t_d :: z_t_13 :: z_t_14 :: z_t_15 :: z_t_16 :: z_t_17 :: z_t_18 :: z_t_19 :: z_t_20 :: z_t_21 :: z_t_22 :: z_t_23 :: z_t_24 :: z_t_25 :: z_t_26 :: z_t_27 :: z_t_28 :: z_t_29 :: z_t_30 :: z_t_31 :: z_t_32 :: z_t_33 :: z_t_34 :: z_t_35 :: z_t_36 :: z_t_37 :: z_t_38 :: z_t_39 :: z_t_40 :: z_t_41 :: z_t_42 :: z_t_43 :: z_t_44 :: z_t_45 :: z_t_46 :: z_t_47 :: z_t_48 :: z_t_49 :: z_t_50 :: z_t_51 :: z_t_52 :: z_t_53 :: z_t_54 :: z_t_55 :: z_t_56 :: z_t_57 :: z_t_58 :: z_t_59 :: z_t_60 :: []))) :: (h_t_has, .inl (k_t_has, 10, .inl t_has)) :: (h_t_us, .inl (k_t_us, 10, .inl t_us)) :: (h_t_vs, .inl (k_t_vs, 10, .inl t_vs)) :: (h_t_ds, .inl (k_t_ds, 10, .inl t_ds)) :: R) H := hP
  have hD : va_D A ((h_t, .inr (12, (.int 0 :: z_t_1 :: z_t_2 :: .int t_a :: .int t_b :: z_t_5 :: .ref h_t_has :: .ref h_t_us :: .ref h_t_vs :: .ref h_t_ds :: .long t_u :: .long t_v :: .long t_d :: z_t_13 :: z_t_14 :: z_t_15 :: z_t_16 :: z_t_17 :: z_t_18 :: z_t_19 :: z_t_20 :: z_t_21 :: z_t_22 :: z_t_23 :: z_t_24 :: z_t_25 :: z_t_26 :: z_t_27 :: z_t_28 :: z_t_29 :: z_t_30 :: z_t_31 :: z_t_32 :: z_t_33 :: z_t_34 :: z_t_35 :: z_t_36 :: z_t_37 :: z_t_38 :: z_t_39 :: z_t_40 :: z_t_41 :: z_t_42 :: z_t_43 :: z_t_44 :: z_t_45 :: z_t_46 :: z_t_47 :: z_t_48 :: z_t_49 :: z_t_50 :: z_t_51 :: z_t_52 :: z_t_53 :: z_t_54 :: z_t_55 :: z_t_56 :: z_t_57 :: z_t_58 :: z_t_59 :: z_t_60 :: []))) :: (h_t_has, .inl (k_t_has, 10, .inl t_has)) :: (h_t_us, .inl (k_t_us, 10, .inl t_us)) :: (h_t_vs, .inl (k_t_vs, 10, .inl t_vs)) :: (h_t_ds, .inl (k_t_ds, 10, .inl t_ds)) :: R) := hD
  refine lv_if_eq (tgt := 56) hx hb dX12_make_10 (by decide) (fun c2 => ?_) (fun c2 => ?_)
  · have h := br_pos c2 h
    refine lv_iconst (v := 0) hx hb dX12_make_56 (by decide) ?_
    cases h
    exact rt_z S hr hlk hP hD hS (by decide) dX12_make_57
  · have h := br_neg c2 h
    refine lv_aload_n hx hb dX12_make_13 rfl (lv_at hl 0 rfl) ?_
    refine lv_iload_n hx hb dX12_make_14 rfl (lv_at hl 3 rfl) ?_
    obtain ⟨r_c15_2, e_c15_2, h⟩ := bnd1_ok h
    refine cl_z (rn_v (ci := 12) (As := [.int l3]) (rest := []) S (c_X12_isThere l D ((h_t_us, .inl (k_t_us, 10, .inl t_us)) :: (h_t_vs, .inl (k_t_vs, 10, .inl t_vs)) :: (h_t_ds, .inl (k_t_ds, 10, .inl t_ds)) :: R) h_t (.int 0) (z_t_1) (z_t_2) (.int t_a) (.int t_b) (z_t_5) (.ref h_t_us) (.ref h_t_vs) (.ref h_t_ds) (.long t_u) (.long t_v) (.long t_d) (z_t_13) (z_t_14) (z_t_15) (z_t_16) (z_t_17) (z_t_18) (z_t_19) (z_t_20) (z_t_21) (z_t_22) (z_t_23) (z_t_24) (z_t_25) (z_t_26) (z_t_27) (z_t_28) (z_t_29) (z_t_30) (z_t_31) (z_t_32) (z_t_33) (z_t_34) (z_t_35) (z_t_36) (z_t_37) (z_t_38) (z_t_39) (z_t_40) (z_t_41) (z_t_42) (z_t_43) (z_t_44) (z_t_45) (z_t_46) (z_t_47) (z_t_48) (z_t_49) (z_t_50) (z_t_51) (z_t_52) (z_t_53) (z_t_54) (z_t_55) (z_t_56) (z_t_57) (z_t_58) (z_t_59) (z_t_60) h_t_has k_t_has t_has l3 r_c15_2 e_c15_2 _) q1194 q1196 q30 q61 q1197 nd_X12_isThere ⟨Nat.le_of_ble_eq_true rfl, Nat.le_of_ble_eq_true rfl⟩ rfl rfl hP hD (hK.sub (tys' := [(k_t_has, .boolean)]) [0] rfl) hN rfl ⟨0, _, rfl⟩ rfl hl.1 rfl (Nat.le_of_ble_eq_true rfl) dX12_make_15 ⟨Nat.le_of_ble_eq_true rfl, Nat.le_of_ble_eq_true rfl⟩) hS hA hD (fun H locs hP hD hS z_c15_2 => ?_)
    have hP : va_P D vwCl ((h_t, .inr (12, (.int 0 :: z_t_1 :: z_t_2 :: .int t_a :: .int t_b :: z_t_5 :: .ref h_t_has :: .ref h_t_us :: .ref h_t_vs :: .ref h_t_ds :: .long t_u :: .long t_v :: .long t_d :: z_t_13 :: z_t_14 :: z_t_15 :: z_t_16 :: z_t_17 :: z_t_18 :: z_t_19 :: z_t_20 :: z_t_21 :: z_t_22 :: z_t_23 :: z_t_24 :: z_t_25 :: z_t_26 :: z_t_27 :: z_t_28 :: z_t_29 :: z_t_30 :: z_t_31 :: z_t_32 :: z_t_33 :: z_t_34 :: z_t_35 :: z_t_36 :: z_t_37 :: z_t_38 :: z_t_39 :: z_t_40 :: z_t_41 :: z_t_42 :: z_t_43 :: z_t_44 :: z_t_45 :: z_t_46 :: z_t_47 :: z_t_48 :: z_t_49 :: z_t_50 :: z_t_51 :: z_t_52 :: z_t_53 :: z_t_54 :: z_t_55 :: z_t_56 :: z_t_57 :: z_t_58 :: z_t_59 :: z_t_60 :: []))) :: (h_t_has, .inl (k_t_has, 10, .inl t_has)) :: (h_t_us, .inl (k_t_us, 10, .inl t_us)) :: (h_t_vs, .inl (k_t_vs, 10, .inl t_vs)) :: (h_t_ds, .inl (k_t_ds, 10, .inl t_ds)) :: R) H := hP
    have hD : va_D A ((h_t, .inr (12, (.int 0 :: z_t_1 :: z_t_2 :: .int t_a :: .int t_b :: z_t_5 :: .ref h_t_has :: .ref h_t_us :: .ref h_t_vs :: .ref h_t_ds :: .long t_u :: .long t_v :: .long t_d :: z_t_13 :: z_t_14 :: z_t_15 :: z_t_16 :: z_t_17 :: z_t_18 :: z_t_19 :: z_t_20 :: z_t_21 :: z_t_22 :: z_t_23 :: z_t_24 :: z_t_25 :: z_t_26 :: z_t_27 :: z_t_28 :: z_t_29 :: z_t_30 :: z_t_31 :: z_t_32 :: z_t_33 :: z_t_34 :: z_t_35 :: z_t_36 :: z_t_37 :: z_t_38 :: z_t_39 :: z_t_40 :: z_t_41 :: z_t_42 :: z_t_43 :: z_t_44 :: z_t_45 :: z_t_46 :: z_t_47 :: z_t_48 :: z_t_49 :: z_t_50 :: z_t_51 :: z_t_52 :: z_t_53 :: z_t_54 :: z_t_55 :: z_t_56 :: z_t_57 :: z_t_58 :: z_t_59 :: z_t_60 :: []))) :: (h_t_has, .inl (k_t_has, 10, .inl t_has)) :: (h_t_us, .inl (k_t_us, 10, .inl t_us)) :: (h_t_vs, .inl (k_t_vs, 10, .inl t_vs)) :: (h_t_ds, .inl (k_t_ds, 10, .inl t_ds)) :: R) := hD
    refine lv_if_eq (tgt := 56) hx hb dX12_make_18 (by decide) (fun c4 => ?_) (fun c4 => ?_)
    · have h := br_pos c4 h
      refine lv_iconst (v := 0) hx hb dX12_make_56 (by decide) ?_
      cases h
      exact rt_z S hr hlk hP hD hS (by decide) dX12_make_57
    · have h := br_neg c4 h
      refine lv_iload hx hb dX12_make_21 (lv_at hl 4 rfl) ?_
      refine lv_if_lt (tgt := 56) hx hb dX12_make_23 (by decide) (fun c5 => ?_) (fun c5 => ?_)
      · have h := br_pos c5 h
        refine lv_iconst (v := 0) hx hb dX12_make_56 (by decide) ?_
        cases h
        exact rt_z S hr hlk hP hD hS (by decide) dX12_make_57
      · have h := br_neg c5 h
        refine lv_iload hx hb dX12_make_26 (lv_at hl 4 rfl) ?_
        refine lv_iconst (v := 3) hx hb dX12_make_28 (by decide) ?_
        refine lv_icmp_gt (tgt := 56) hx hb dX12_make_29 (by decide) (fun c6 => ?_) (fun c6 => ?_)
        · have h := br_pos c6 h
          refine lv_iconst (v := 0) hx hb dX12_make_56 (by decide) ?_
          cases h
          exact rt_z S hr hlk hP hD hS (by decide) dX12_make_57
        · have h := br_neg c6 h
          refine lv_iload hx hb dX12_make_32 (lv_at hl 4 rfl) ?_
          refine lv_iconst (v := 3) hx hb dX12_make_34 (by decide) ?_
          refine lv_icmp_ne (tgt := 58) hx hb dX12_make_35 (by decide) (fun c7 => ?_) (fun c7 => ?_)
          · have h := br_neg c7 h
            refine lv_aload_n hx hb dX12_make_58 rfl (lv_at hl 0 rfl) ?_
            refine lv_aload_n hx hb dX12_make_59 rfl (lv_at hl 0 rfl) ?_
            refine va_get (D := D) (ci := 12) (v := .ref h_t_us) (C := RX12) (T := TX12) (N := 61) hx hb ha ix12 hown hK hP 0 rfl rfl 7 (by decide) (ha _ q967) (fun _ h9 => h9) rfl dX12_make_60 ?_
            refine lv_iload_n hx hb dX12_make_63 rfl (lv_at hl 2 rfl) ?_
            obtain ⟨i66, h⟩ := ix_ok h
            refine va_iald hx hb hK hP 2 1 rfl rfl i66 dX12_make_64 ?_
            refine lv_i2l (v := (t_us l2.toNatClampNeg).toInt64) hx hb dX12_make_65 rfl ?_
            refine lv_aload_n hx hb dX12_make_66 rfl (lv_at hl 0 rfl) ?_
            refine va_get (D := D) (ci := 12) (v := .ref h_t_vs) (C := RX12) (T := TX12) (N := 61) hx hb ha ix12 hown hK hP 0 rfl rfl 8 (by decide) (ha _ q968) (fun _ h9 => h9) rfl dX12_make_67 ?_
            refine lv_iload_n hx hb dX12_make_70 rfl (lv_at hl 2 rfl) ?_
            obtain ⟨i67, h⟩ := ix_ok h
            refine va_iald hx hb hK hP 3 2 rfl rfl i67 dX12_make_71 ?_
            refine lv_i2l (v := (t_vs l2.toNatClampNeg).toInt64) hx hb dX12_make_72 rfl ?_
            refine lv_aload_n hx hb dX12_make_73 rfl (lv_at hl 0 rfl) ?_
            refine va_get (D := D) (ci := 12) (v := .ref h_t_ds) (C := RX12) (T := TX12) (N := 61) hx hb ha ix12 hown hK hP 0 rfl rfl 9 (by decide) (ha _ q969) (fun _ h9 => h9) rfl dX12_make_74 ?_
            refine lv_iload_n hx hb dX12_make_77 rfl (lv_at hl 2 rfl) ?_
            obtain ⟨i68, h⟩ := ix_ok h
            refine va_iald hx hb hK hP 4 3 rfl rfl i68 dX12_make_78 ?_
            refine lv_i2l (v := (t_ds l2.toNatClampNeg).toInt64) hx hb dX12_make_79 rfl ?_
            obtain ⟨t_u_c80_68, t_v_c80_68, t_d_c80_68, e_c80_68, h⟩ := bnd3_ok h
            refine cl_v (rn_v (ci := 12) (As := [.long (t_us l2.toNatClampNeg).toInt64, .long (t_vs l2.toNatClampNeg).toInt64, .long (t_ds l2.toNatClampNeg).toInt64]) (rest := []) S (c_X12_set l D ((h_t_has, .inl (k_t_has, 10, .inl t_has)) :: (h_t_us, .inl (k_t_us, 10, .inl t_us)) :: (h_t_vs, .inl (k_t_vs, 10, .inl t_vs)) :: (h_t_ds, .inl (k_t_ds, 10, .inl t_ds)) :: R) h_t (.int 0) (z_t_1) (z_t_2) (.int t_a) (.int t_b) (z_t_5) (.ref h_t_has) (.ref h_t_us) (.ref h_t_vs) (.ref h_t_ds) t_u t_v t_d (z_t_13) (z_t_14) (z_t_15) (z_t_16) (z_t_17) (z_t_18) (z_t_19) (z_t_20) (z_t_21) (z_t_22) (z_t_23) (z_t_24) (z_t_25) (z_t_26) (z_t_27) (z_t_28) (z_t_29) (z_t_30) (z_t_31) (z_t_32) (z_t_33) (z_t_34) (z_t_35) (z_t_36) (z_t_37) (z_t_38) (z_t_39) (z_t_40) (z_t_41) (z_t_42) (z_t_43) (z_t_44) (z_t_45) (z_t_46) (z_t_47) (z_t_48) (z_t_49) (z_t_50) (z_t_51) (z_t_52) (z_t_53) (z_t_54) (z_t_55) (z_t_56) (z_t_57) (z_t_58) (z_t_59) (z_t_60) ((t_us l2.toNatClampNeg).toInt64) ((t_vs l2.toNatClampNeg).toInt64) ((t_ds l2.toNatClampNeg).toInt64) t_u_c80_68 t_v_c80_68 t_d_c80_68 e_c80_68 _) q1172 q1174 q27 q61 q1175 nd_X12_set ⟨Nat.le_of_ble_eq_true rfl, Nat.le_of_ble_eq_true rfl⟩ rfl rfl hP hD (hK.sub (tys' := []) [] rfl) hN rfl ⟨0, _, rfl⟩ rfl hl.1 rfl (Nat.le_of_ble_eq_true rfl) dX12_make_80 ⟨Nat.le_of_ble_eq_true rfl, Nat.le_of_ble_eq_true rfl⟩) hS hA hD (fun H locs hP hD hS => ?_)
            have hP : va_P D vwCl ((h_t, .inr (12, (.int 0 :: z_t_1 :: z_t_2 :: .int t_a :: .int t_b :: z_t_5 :: .ref h_t_has :: .ref h_t_us :: .ref h_t_vs :: .ref h_t_ds :: .long t_u_c80_68 :: .long t_v_c80_68 :: .long t_d_c80_68 :: z_t_13 :: z_t_14 :: z_t_15 :: z_t_16 :: z_t_17 :: z_t_18 :: z_t_19 :: z_t_20 :: z_t_21 :: z_t_22 :: z_t_23 :: z_t_24 :: z_t_25 :: z_t_26 :: z_t_27 :: z_t_28 :: z_t_29 :: z_t_30 :: z_t_31 :: z_t_32 :: z_t_33 :: z_t_34 :: z_t_35 :: z_t_36 :: z_t_37 :: z_t_38 :: z_t_39 :: z_t_40 :: z_t_41 :: z_t_42 :: z_t_43 :: z_t_44 :: z_t_45 :: z_t_46 :: z_t_47 :: z_t_48 :: z_t_49 :: z_t_50 :: z_t_51 :: z_t_52 :: z_t_53 :: z_t_54 :: z_t_55 :: z_t_56 :: z_t_57 :: z_t_58 :: z_t_59 :: z_t_60 :: []))) :: (h_t_has, .inl (k_t_has, 10, .inl t_has)) :: (h_t_us, .inl (k_t_us, 10, .inl t_us)) :: (h_t_vs, .inl (k_t_vs, 10, .inl t_vs)) :: (h_t_ds, .inl (k_t_ds, 10, .inl t_ds)) :: R) H := hP
            have hD : va_D A ((h_t, .inr (12, (.int 0 :: z_t_1 :: z_t_2 :: .int t_a :: .int t_b :: z_t_5 :: .ref h_t_has :: .ref h_t_us :: .ref h_t_vs :: .ref h_t_ds :: .long t_u_c80_68 :: .long t_v_c80_68 :: .long t_d_c80_68 :: z_t_13 :: z_t_14 :: z_t_15 :: z_t_16 :: z_t_17 :: z_t_18 :: z_t_19 :: z_t_20 :: z_t_21 :: z_t_22 :: z_t_23 :: z_t_24 :: z_t_25 :: z_t_26 :: z_t_27 :: z_t_28 :: z_t_29 :: z_t_30 :: z_t_31 :: z_t_32 :: z_t_33 :: z_t_34 :: z_t_35 :: z_t_36 :: z_t_37 :: z_t_38 :: z_t_39 :: z_t_40 :: z_t_41 :: z_t_42 :: z_t_43 :: z_t_44 :: z_t_45 :: z_t_46 :: z_t_47 :: z_t_48 :: z_t_49 :: z_t_50 :: z_t_51 :: z_t_52 :: z_t_53 :: z_t_54 :: z_t_55 :: z_t_56 :: z_t_57 :: z_t_58 :: z_t_59 :: z_t_60 :: []))) :: (h_t_has, .inl (k_t_has, 10, .inl t_has)) :: (h_t_us, .inl (k_t_us, 10, .inl t_us)) :: (h_t_vs, .inl (k_t_vs, 10, .inl t_vs)) :: (h_t_ds, .inl (k_t_ds, 10, .inl t_ds)) :: R) := hD
            refine lv_iload hx hb dX12_make_83 (lv_at hl 4 rfl) ?_
            refine lv_if_ne (tgt := 116) hx hb dX12_make_85 (by decide) (fun c70 => ?_) (fun c70 => ?_)
            · have h := br_neg c70 h
              refine lv_iload hx hb dX12_make_116 (lv_at hl 4 rfl) ?_
              refine lv_iconst (v := 1) hx hb dX12_make_118 (by decide) ?_
              refine lv_icmp_ne (tgt := 152) hx hb dX12_make_119 (by decide) (fun c76 => ?_) (fun c76 => ?_)
              · have h := br_neg c76 h
                refine lv_iload hx hb dX12_make_152 (lv_at hl 4 rfl) ?_
                refine lv_iconst (v := 2) hx hb dX12_make_154 (by decide) ?_
                refine lv_icmp_ne (tgt := 186) hx hb dX12_make_155 (by decide) (fun c82 => ?_) (fun c82 => ?_)
                · have h := br_neg c82 h
                  refine lv_aload_n hx hb dX12_make_186 rfl (lv_at hl 0 rfl) ?_
                  refine lv_aload_n hx hb dX12_make_187 rfl (lv_at hl 0 rfl) ?_
                  refine va_get (D := D) (ci := 12) (v := .ref h_t_us) (C := RX12) (T := TX12) (N := 61) hx hb ha ix12 hown hK hP 0 rfl rfl 7 (by decide) (ha _ q967) (fun _ h9 => h9) rfl dX12_make_188 ?_
                  refine lv_iload_n hx hb dX12_make_191 rfl (lv_at hl 3 rfl) ?_
                  obtain ⟨i88, h⟩ := ix_ok h
                  refine va_iald hx hb hK hP 2 1 rfl rfl i88 dX12_make_192 ?_
                  refine lv_i2l (v := (t_us l3.toNatClampNeg).toInt64) hx hb dX12_make_193 rfl ?_
                  refine lv_aload_n hx hb dX12_make_194 rfl (lv_at hl 0 rfl) ?_
                  refine va_get (D := D) (ci := 12) (v := .ref h_t_vs) (C := RX12) (T := TX12) (N := 61) hx hb ha ix12 hown hK hP 0 rfl rfl 8 (by decide) (ha _ q968) (fun _ h9 => h9) rfl dX12_make_195 ?_
                  refine lv_iload_n hx hb dX12_make_198 rfl (lv_at hl 3 rfl) ?_
                  obtain ⟨i89, h⟩ := ix_ok h
                  refine va_iald hx hb hK hP 3 2 rfl rfl i89 dX12_make_199 ?_
                  refine lv_i2l (v := (t_vs l3.toNatClampNeg).toInt64) hx hb dX12_make_200 rfl ?_
                  refine lv_aload_n hx hb dX12_make_201 rfl (lv_at hl 0 rfl) ?_
                  refine va_get (D := D) (ci := 12) (v := .ref h_t_ds) (C := RX12) (T := TX12) (N := 61) hx hb ha ix12 hown hK hP 0 rfl rfl 9 (by decide) (ha _ q969) (fun _ h9 => h9) rfl dX12_make_202 ?_
                  refine lv_iload_n hx hb dX12_make_205 rfl (lv_at hl 3 rfl) ?_
                  obtain ⟨i90, h⟩ := ix_ok h
                  refine va_iald hx hb hK hP 4 3 rfl rfl i90 dX12_make_206 ?_
                  refine lv_i2l (v := (t_ds l3.toNatClampNeg).toInt64) hx hb dX12_make_207 rfl ?_
                  obtain ⟨t_u_c208_90, t_v_c208_90, t_d_c208_90, e_c208_90, h⟩ := bnd3_ok h
                  refine cl_v (rn_v (ci := 12) (As := [.long (t_us l3.toNatClampNeg).toInt64, .long (t_vs l3.toNatClampNeg).toInt64, .long (t_ds l3.toNatClampNeg).toInt64]) (rest := []) S (c_X12_by l D ((h_t_has, .inl (k_t_has, 10, .inl t_has)) :: (h_t_us, .inl (k_t_us, 10, .inl t_us)) :: (h_t_vs, .inl (k_t_vs, 10, .inl t_vs)) :: (h_t_ds, .inl (k_t_ds, 10, .inl t_ds)) :: R) h_t (.int 0) (z_t_1) (z_t_2) t_a t_b (z_t_5) (.ref h_t_has) (.ref h_t_us) (.ref h_t_vs) (.ref h_t_ds) t_u_c80_68 t_v_c80_68 t_d_c80_68 (z_t_13) (z_t_14) (z_t_15) (z_t_16) (z_t_17) (z_t_18) (z_t_19) (z_t_20) (z_t_21) (z_t_22) (z_t_23) (z_t_24) (z_t_25) (z_t_26) (z_t_27) (z_t_28) (z_t_29) (z_t_30) (z_t_31) (z_t_32) (z_t_33) (z_t_34) (z_t_35) (z_t_36) (z_t_37) (z_t_38) (z_t_39) (z_t_40) (z_t_41) (z_t_42) (z_t_43) (z_t_44) (z_t_45) (z_t_46) (z_t_47) (z_t_48) (z_t_49) (z_t_50) (z_t_51) (z_t_52) (z_t_53) (z_t_54) (z_t_55) (z_t_56) (z_t_57) (z_t_58) (z_t_59) (z_t_60) ((t_us l3.toNatClampNeg).toInt64) ((t_vs l3.toNatClampNeg).toInt64) ((t_ds l3.toNatClampNeg).toInt64) t_u_c208_90 t_v_c208_90 t_d_c208_90 e_c208_90 _) q1206 q1208 q33 q61 q1209 nd_X12_by ⟨Nat.le_of_ble_eq_true rfl, Nat.le_of_ble_eq_true rfl⟩ rfl rfl hP hD (hK.sub (tys' := []) [] rfl) hN rfl ⟨0, _, rfl⟩ rfl hl.1 rfl (Nat.le_of_ble_eq_true rfl) dX12_make_208 ⟨Nat.le_of_ble_eq_true rfl, Nat.le_of_ble_eq_true rfl⟩) hS hA hD (fun H locs hP hD hS => ?_)
                  have hP : va_P D vwCl ((h_t, .inr (12, (.int 0 :: z_t_1 :: z_t_2 :: .int t_a :: .int t_b :: z_t_5 :: .ref h_t_has :: .ref h_t_us :: .ref h_t_vs :: .ref h_t_ds :: .long t_u_c208_90 :: .long t_v_c208_90 :: .long t_d_c208_90 :: z_t_13 :: z_t_14 :: z_t_15 :: z_t_16 :: z_t_17 :: z_t_18 :: z_t_19 :: z_t_20 :: z_t_21 :: z_t_22 :: z_t_23 :: z_t_24 :: z_t_25 :: z_t_26 :: z_t_27 :: z_t_28 :: z_t_29 :: z_t_30 :: z_t_31 :: z_t_32 :: z_t_33 :: z_t_34 :: z_t_35 :: z_t_36 :: z_t_37 :: z_t_38 :: z_t_39 :: z_t_40 :: z_t_41 :: z_t_42 :: z_t_43 :: z_t_44 :: z_t_45 :: z_t_46 :: z_t_47 :: z_t_48 :: z_t_49 :: z_t_50 :: z_t_51 :: z_t_52 :: z_t_53 :: z_t_54 :: z_t_55 :: z_t_56 :: z_t_57 :: z_t_58 :: z_t_59 :: z_t_60 :: []))) :: (h_t_has, .inl (k_t_has, 10, .inl t_has)) :: (h_t_us, .inl (k_t_us, 10, .inl t_us)) :: (h_t_vs, .inl (k_t_vs, 10, .inl t_vs)) :: (h_t_ds, .inl (k_t_ds, 10, .inl t_ds)) :: R) H := hP
                  have hD : va_D A ((h_t, .inr (12, (.int 0 :: z_t_1 :: z_t_2 :: .int t_a :: .int t_b :: z_t_5 :: .ref h_t_has :: .ref h_t_us :: .ref h_t_vs :: .ref h_t_ds :: .long t_u_c208_90 :: .long t_v_c208_90 :: .long t_d_c208_90 :: z_t_13 :: z_t_14 :: z_t_15 :: z_t_16 :: z_t_17 :: z_t_18 :: z_t_19 :: z_t_20 :: z_t_21 :: z_t_22 :: z_t_23 :: z_t_24 :: z_t_25 :: z_t_26 :: z_t_27 :: z_t_28 :: z_t_29 :: z_t_30 :: z_t_31 :: z_t_32 :: z_t_33 :: z_t_34 :: z_t_35 :: z_t_36 :: z_t_37 :: z_t_38 :: z_t_39 :: z_t_40 :: z_t_41 :: z_t_42 :: z_t_43 :: z_t_44 :: z_t_45 :: z_t_46 :: z_t_47 :: z_t_48 :: z_t_49 :: z_t_50 :: z_t_51 :: z_t_52 :: z_t_53 :: z_t_54 :: z_t_55 :: z_t_56 :: z_t_57 :: z_t_58 :: z_t_59 :: z_t_60 :: []))) :: (h_t_has, .inl (k_t_has, 10, .inl t_has)) :: (h_t_us, .inl (k_t_us, 10, .inl t_us)) :: (h_t_vs, .inl (k_t_vs, 10, .inl t_vs)) :: (h_t_ds, .inl (k_t_ds, 10, .inl t_ds)) :: R) := hD
                  refine lv_aload_n hx hb dX12_make_211 rfl (lv_at hl 0 rfl) ?_
                  refine lv_iload_n hx hb dX12_make_212 rfl (lv_at hl 1 rfl) ?_
                  obtain ⟨r_c213_91, t_has_c213_91, t_us_c213_91, t_vs_c213_91, t_ds_c213_91, e_c213_91, h⟩ := bnd5_ok h
                  refine cl_z (rn_v (ci := 12) (As := [.int l1]) (rest := []) S (c_X12_put l D (R) h_t (.int 0) (z_t_1) (z_t_2) (.int t_a) (.int t_b) (z_t_5) t_u_c208_90 t_v_c208_90 t_d_c208_90 (z_t_13) (z_t_14) (z_t_15) (z_t_16) (z_t_17) (z_t_18) (z_t_19) (z_t_20) (z_t_21) (z_t_22) (z_t_23) (z_t_24) (z_t_25) (z_t_26) (z_t_27) (z_t_28) (z_t_29) (z_t_30) (z_t_31) (z_t_32) (z_t_33) (z_t_34) (z_t_35) (z_t_36) (z_t_37) (z_t_38) (z_t_39) (z_t_40) (z_t_41) (z_t_42) (z_t_43) (z_t_44) (z_t_45) (z_t_46) (z_t_47) (z_t_48) (z_t_49) (z_t_50) (z_t_51) (z_t_52) (z_t_53) (z_t_54) (z_t_55) (z_t_56) (z_t_57) (z_t_58) (z_t_59) (z_t_60) h_t_has k_t_has t_has h_t_us k_t_us t_us h_t_vs k_t_vs t_vs h_t_ds k_t_ds t_ds l1 r_c213_91 t_has_c213_91 t_us_c213_91 t_vs_c213_91 t_ds_c213_91 e_c213_91 _) q1179 q1181 q28 q61 q1182 nd_X12_put ⟨Nat.le_of_ble_eq_true rfl, Nat.le_of_ble_eq_true rfl⟩ rfl rfl hP hD (hK.sub (tys' := [(k_t_has, .boolean), (k_t_us, .int), (k_t_vs, .int), (k_t_ds, .int)]) [0, 1, 2, 3] rfl) hN rfl ⟨0, _, rfl⟩ rfl hl.1 rfl (Nat.le_of_ble_eq_true rfl) dX12_make_213 ⟨Nat.le_of_ble_eq_true rfl, Nat.le_of_ble_eq_true rfl⟩) hS hA hD (fun H locs hP hD hS z_c213_91 => ?_)
                  have hP : va_P D vwCl ((h_t, .inr (12, (.int 0 :: z_t_1 :: z_t_2 :: .int t_a :: .int t_b :: z_t_5 :: .ref h_t_has :: .ref h_t_us :: .ref h_t_vs :: .ref h_t_ds :: .long t_u_c208_90 :: .long t_v_c208_90 :: .long t_d_c208_90 :: z_t_13 :: z_t_14 :: z_t_15 :: z_t_16 :: z_t_17 :: z_t_18 :: z_t_19 :: z_t_20 :: z_t_21 :: z_t_22 :: z_t_23 :: z_t_24 :: z_t_25 :: z_t_26 :: z_t_27 :: z_t_28 :: z_t_29 :: z_t_30 :: z_t_31 :: z_t_32 :: z_t_33 :: z_t_34 :: z_t_35 :: z_t_36 :: z_t_37 :: z_t_38 :: z_t_39 :: z_t_40 :: z_t_41 :: z_t_42 :: z_t_43 :: z_t_44 :: z_t_45 :: z_t_46 :: z_t_47 :: z_t_48 :: z_t_49 :: z_t_50 :: z_t_51 :: z_t_52 :: z_t_53 :: z_t_54 :: z_t_55 :: z_t_56 :: z_t_57 :: z_t_58 :: z_t_59 :: z_t_60 :: []))) :: (h_t_has, .inl (k_t_has, 10, .inl t_has_c213_91)) :: (h_t_us, .inl (k_t_us, 10, .inl t_us_c213_91)) :: (h_t_vs, .inl (k_t_vs, 10, .inl t_vs_c213_91)) :: (h_t_ds, .inl (k_t_ds, 10, .inl t_ds_c213_91)) :: R) H := hP
                  have hD : va_D A ((h_t, .inr (12, (.int 0 :: z_t_1 :: z_t_2 :: .int t_a :: .int t_b :: z_t_5 :: .ref h_t_has :: .ref h_t_us :: .ref h_t_vs :: .ref h_t_ds :: .long t_u_c208_90 :: .long t_v_c208_90 :: .long t_d_c208_90 :: z_t_13 :: z_t_14 :: z_t_15 :: z_t_16 :: z_t_17 :: z_t_18 :: z_t_19 :: z_t_20 :: z_t_21 :: z_t_22 :: z_t_23 :: z_t_24 :: z_t_25 :: z_t_26 :: z_t_27 :: z_t_28 :: z_t_29 :: z_t_30 :: z_t_31 :: z_t_32 :: z_t_33 :: z_t_34 :: z_t_35 :: z_t_36 :: z_t_37 :: z_t_38 :: z_t_39 :: z_t_40 :: z_t_41 :: z_t_42 :: z_t_43 :: z_t_44 :: z_t_45 :: z_t_46 :: z_t_47 :: z_t_48 :: z_t_49 :: z_t_50 :: z_t_51 :: z_t_52 :: z_t_53 :: z_t_54 :: z_t_55 :: z_t_56 :: z_t_57 :: z_t_58 :: z_t_59 :: z_t_60 :: []))) :: (h_t_has, .inl (k_t_has, 10, .inl t_has_c213_91)) :: (h_t_us, .inl (k_t_us, 10, .inl t_us_c213_91)) :: (h_t_vs, .inl (k_t_vs, 10, .inl t_vs_c213_91)) :: (h_t_ds, .inl (k_t_ds, 10, .inl t_ds_c213_91)) :: R) := hD
                  cases h
                  exact rt_z S hr hlk hP hD hS z_c213_91 dX12_make_216
                · have h := br_pos c82 h
                  refine lv_aload_n hx hb dX12_make_158 rfl (lv_at hl 0 rfl) ?_
                  refine lv_aload_n hx hb dX12_make_159 rfl (lv_at hl 0 rfl) ?_
                  refine va_get (D := D) (ci := 12) (v := .ref h_t_us) (C := RX12) (T := TX12) (N := 61) hx hb ha ix12 hown hK hP 0 rfl rfl 7 (by decide) (ha _ q967) (fun _ h9 => h9) rfl dX12_make_160 ?_
                  refine lv_iload_n hx hb dX12_make_163 rfl (lv_at hl 3 rfl) ?_
                  obtain ⟨i83, h⟩ := ix_ok h
                  refine va_iald hx hb hK hP 2 1 rfl rfl i83 dX12_make_164 ?_
                  refine lv_i2l (v := (t_us l3.toNatClampNeg).toInt64) hx hb dX12_make_165 rfl ?_
                  refine lv_aload_n hx hb dX12_make_166 rfl (lv_at hl 0 rfl) ?_
                  refine va_get (D := D) (ci := 12) (v := .ref h_t_vs) (C := RX12) (T := TX12) (N := 61) hx hb ha ix12 hown hK hP 0 rfl rfl 8 (by decide) (ha _ q968) (fun _ h9 => h9) rfl dX12_make_167 ?_
                  refine lv_iload_n hx hb dX12_make_170 rfl (lv_at hl 3 rfl) ?_
                  obtain ⟨i84, h⟩ := ix_ok h
                  refine va_iald hx hb hK hP 3 2 rfl rfl i84 dX12_make_171 ?_
                  refine lv_i2l (v := (t_vs l3.toNatClampNeg).toInt64) hx hb dX12_make_172 rfl ?_
                  refine lv_aload_n hx hb dX12_make_173 rfl (lv_at hl 0 rfl) ?_
                  refine va_get (D := D) (ci := 12) (v := .ref h_t_ds) (C := RX12) (T := TX12) (N := 61) hx hb ha ix12 hown hK hP 0 rfl rfl 9 (by decide) (ha _ q969) (fun _ h9 => h9) rfl dX12_make_174 ?_
                  refine lv_iload_n hx hb dX12_make_177 rfl (lv_at hl 3 rfl) ?_
                  obtain ⟨i85, h⟩ := ix_ok h
                  refine va_iald hx hb hK hP 4 3 rfl rfl i85 dX12_make_178 ?_
                  refine lv_i2l (v := (t_ds l3.toNatClampNeg).toInt64) hx hb dX12_make_179 rfl ?_
                  obtain ⟨t_u_c180_85, t_v_c180_85, t_d_c180_85, e_c180_85, h⟩ := bnd3_ok h
                  refine cl_v (rn_v (ci := 12) (As := [.long (t_us l3.toNatClampNeg).toInt64, .long (t_vs l3.toNatClampNeg).toInt64, .long (t_ds l3.toNatClampNeg).toInt64]) (rest := []) S (c_X12_times l D ((h_t_has, .inl (k_t_has, 10, .inl t_has)) :: (h_t_us, .inl (k_t_us, 10, .inl t_us)) :: (h_t_vs, .inl (k_t_vs, 10, .inl t_vs)) :: (h_t_ds, .inl (k_t_ds, 10, .inl t_ds)) :: R) h_t (.int 0) (z_t_1) (z_t_2) t_a t_b (z_t_5) (.ref h_t_has) (.ref h_t_us) (.ref h_t_vs) (.ref h_t_ds) t_u_c80_68 t_v_c80_68 t_d_c80_68 (z_t_13) (z_t_14) (z_t_15) (z_t_16) (z_t_17) (z_t_18) (z_t_19) (z_t_20) (z_t_21) (z_t_22) (z_t_23) (z_t_24) (z_t_25) (z_t_26) (z_t_27) (z_t_28) (z_t_29) (z_t_30) (z_t_31) (z_t_32) (z_t_33) (z_t_34) (z_t_35) (z_t_36) (z_t_37) (z_t_38) (z_t_39) (z_t_40) (z_t_41) (z_t_42) (z_t_43) (z_t_44) (z_t_45) (z_t_46) (z_t_47) (z_t_48) (z_t_49) (z_t_50) (z_t_51) (z_t_52) (z_t_53) (z_t_54) (z_t_55) (z_t_56) (z_t_57) (z_t_58) (z_t_59) (z_t_60) ((t_us l3.toNatClampNeg).toInt64) ((t_vs l3.toNatClampNeg).toInt64) ((t_ds l3.toNatClampNeg).toInt64) t_u_c180_85 t_v_c180_85 t_d_c180_85 e_c180_85 _) q1202 q1204 q32 q61 q1205 nd_X12_times ⟨Nat.le_of_ble_eq_true rfl, Nat.le_of_ble_eq_true rfl⟩ rfl rfl hP hD (hK.sub (tys' := []) [] rfl) hN rfl ⟨0, _, rfl⟩ rfl hl.1 rfl (Nat.le_of_ble_eq_true rfl) dX12_make_180 ⟨Nat.le_of_ble_eq_true rfl, Nat.le_of_ble_eq_true rfl⟩) hS hA hD (fun H locs hP hD hS => ?_)
                  have hP : va_P D vwCl ((h_t, .inr (12, (.int 0 :: z_t_1 :: z_t_2 :: .int t_a :: .int t_b :: z_t_5 :: .ref h_t_has :: .ref h_t_us :: .ref h_t_vs :: .ref h_t_ds :: .long t_u_c180_85 :: .long t_v_c180_85 :: .long t_d_c180_85 :: z_t_13 :: z_t_14 :: z_t_15 :: z_t_16 :: z_t_17 :: z_t_18 :: z_t_19 :: z_t_20 :: z_t_21 :: z_t_22 :: z_t_23 :: z_t_24 :: z_t_25 :: z_t_26 :: z_t_27 :: z_t_28 :: z_t_29 :: z_t_30 :: z_t_31 :: z_t_32 :: z_t_33 :: z_t_34 :: z_t_35 :: z_t_36 :: z_t_37 :: z_t_38 :: z_t_39 :: z_t_40 :: z_t_41 :: z_t_42 :: z_t_43 :: z_t_44 :: z_t_45 :: z_t_46 :: z_t_47 :: z_t_48 :: z_t_49 :: z_t_50 :: z_t_51 :: z_t_52 :: z_t_53 :: z_t_54 :: z_t_55 :: z_t_56 :: z_t_57 :: z_t_58 :: z_t_59 :: z_t_60 :: []))) :: (h_t_has, .inl (k_t_has, 10, .inl t_has)) :: (h_t_us, .inl (k_t_us, 10, .inl t_us)) :: (h_t_vs, .inl (k_t_vs, 10, .inl t_vs)) :: (h_t_ds, .inl (k_t_ds, 10, .inl t_ds)) :: R) H := hP
                  have hD : va_D A ((h_t, .inr (12, (.int 0 :: z_t_1 :: z_t_2 :: .int t_a :: .int t_b :: z_t_5 :: .ref h_t_has :: .ref h_t_us :: .ref h_t_vs :: .ref h_t_ds :: .long t_u_c180_85 :: .long t_v_c180_85 :: .long t_d_c180_85 :: z_t_13 :: z_t_14 :: z_t_15 :: z_t_16 :: z_t_17 :: z_t_18 :: z_t_19 :: z_t_20 :: z_t_21 :: z_t_22 :: z_t_23 :: z_t_24 :: z_t_25 :: z_t_26 :: z_t_27 :: z_t_28 :: z_t_29 :: z_t_30 :: z_t_31 :: z_t_32 :: z_t_33 :: z_t_34 :: z_t_35 :: z_t_36 :: z_t_37 :: z_t_38 :: z_t_39 :: z_t_40 :: z_t_41 :: z_t_42 :: z_t_43 :: z_t_44 :: z_t_45 :: z_t_46 :: z_t_47 :: z_t_48 :: z_t_49 :: z_t_50 :: z_t_51 :: z_t_52 :: z_t_53 :: z_t_54 :: z_t_55 :: z_t_56 :: z_t_57 :: z_t_58 :: z_t_59 :: z_t_60 :: []))) :: (h_t_has, .inl (k_t_has, 10, .inl t_has)) :: (h_t_us, .inl (k_t_us, 10, .inl t_us)) :: (h_t_vs, .inl (k_t_vs, 10, .inl t_vs)) :: (h_t_ds, .inl (k_t_ds, 10, .inl t_ds)) :: R) := hD
                  refine lv_goto (tgt := 211) hx hb dX12_make_183 (by decide) ?_
                  refine lv_aload_n hx hb dX12_make_211 rfl (lv_at hl 0 rfl) ?_
                  refine lv_iload_n hx hb dX12_make_212 rfl (lv_at hl 1 rfl) ?_
                  obtain ⟨r_c213_86, t_has_c213_86, t_us_c213_86, t_vs_c213_86, t_ds_c213_86, e_c213_86, h⟩ := bnd5_ok h
                  refine cl_z (rn_v (ci := 12) (As := [.int l1]) (rest := []) S (c_X12_put l D (R) h_t (.int 0) (z_t_1) (z_t_2) (.int t_a) (.int t_b) (z_t_5) t_u_c180_85 t_v_c180_85 t_d_c180_85 (z_t_13) (z_t_14) (z_t_15) (z_t_16) (z_t_17) (z_t_18) (z_t_19) (z_t_20) (z_t_21) (z_t_22) (z_t_23) (z_t_24) (z_t_25) (z_t_26) (z_t_27) (z_t_28) (z_t_29) (z_t_30) (z_t_31) (z_t_32) (z_t_33) (z_t_34) (z_t_35) (z_t_36) (z_t_37) (z_t_38) (z_t_39) (z_t_40) (z_t_41) (z_t_42) (z_t_43) (z_t_44) (z_t_45) (z_t_46) (z_t_47) (z_t_48) (z_t_49) (z_t_50) (z_t_51) (z_t_52) (z_t_53) (z_t_54) (z_t_55) (z_t_56) (z_t_57) (z_t_58) (z_t_59) (z_t_60) h_t_has k_t_has t_has h_t_us k_t_us t_us h_t_vs k_t_vs t_vs h_t_ds k_t_ds t_ds l1 r_c213_86 t_has_c213_86 t_us_c213_86 t_vs_c213_86 t_ds_c213_86 e_c213_86 _) q1179 q1181 q28 q61 q1182 nd_X12_put ⟨Nat.le_of_ble_eq_true rfl, Nat.le_of_ble_eq_true rfl⟩ rfl rfl hP hD (hK.sub (tys' := [(k_t_has, .boolean), (k_t_us, .int), (k_t_vs, .int), (k_t_ds, .int)]) [0, 1, 2, 3] rfl) hN rfl ⟨0, _, rfl⟩ rfl hl.1 rfl (Nat.le_of_ble_eq_true rfl) dX12_make_213 ⟨Nat.le_of_ble_eq_true rfl, Nat.le_of_ble_eq_true rfl⟩) hS hA hD (fun H locs hP hD hS z_c213_86 => ?_)
                  have hP : va_P D vwCl ((h_t, .inr (12, (.int 0 :: z_t_1 :: z_t_2 :: .int t_a :: .int t_b :: z_t_5 :: .ref h_t_has :: .ref h_t_us :: .ref h_t_vs :: .ref h_t_ds :: .long t_u_c180_85 :: .long t_v_c180_85 :: .long t_d_c180_85 :: z_t_13 :: z_t_14 :: z_t_15 :: z_t_16 :: z_t_17 :: z_t_18 :: z_t_19 :: z_t_20 :: z_t_21 :: z_t_22 :: z_t_23 :: z_t_24 :: z_t_25 :: z_t_26 :: z_t_27 :: z_t_28 :: z_t_29 :: z_t_30 :: z_t_31 :: z_t_32 :: z_t_33 :: z_t_34 :: z_t_35 :: z_t_36 :: z_t_37 :: z_t_38 :: z_t_39 :: z_t_40 :: z_t_41 :: z_t_42 :: z_t_43 :: z_t_44 :: z_t_45 :: z_t_46 :: z_t_47 :: z_t_48 :: z_t_49 :: z_t_50 :: z_t_51 :: z_t_52 :: z_t_53 :: z_t_54 :: z_t_55 :: z_t_56 :: z_t_57 :: z_t_58 :: z_t_59 :: z_t_60 :: []))) :: (h_t_has, .inl (k_t_has, 10, .inl t_has_c213_86)) :: (h_t_us, .inl (k_t_us, 10, .inl t_us_c213_86)) :: (h_t_vs, .inl (k_t_vs, 10, .inl t_vs_c213_86)) :: (h_t_ds, .inl (k_t_ds, 10, .inl t_ds_c213_86)) :: R) H := hP
                  have hD : va_D A ((h_t, .inr (12, (.int 0 :: z_t_1 :: z_t_2 :: .int t_a :: .int t_b :: z_t_5 :: .ref h_t_has :: .ref h_t_us :: .ref h_t_vs :: .ref h_t_ds :: .long t_u_c180_85 :: .long t_v_c180_85 :: .long t_d_c180_85 :: z_t_13 :: z_t_14 :: z_t_15 :: z_t_16 :: z_t_17 :: z_t_18 :: z_t_19 :: z_t_20 :: z_t_21 :: z_t_22 :: z_t_23 :: z_t_24 :: z_t_25 :: z_t_26 :: z_t_27 :: z_t_28 :: z_t_29 :: z_t_30 :: z_t_31 :: z_t_32 :: z_t_33 :: z_t_34 :: z_t_35 :: z_t_36 :: z_t_37 :: z_t_38 :: z_t_39 :: z_t_40 :: z_t_41 :: z_t_42 :: z_t_43 :: z_t_44 :: z_t_45 :: z_t_46 :: z_t_47 :: z_t_48 :: z_t_49 :: z_t_50 :: z_t_51 :: z_t_52 :: z_t_53 :: z_t_54 :: z_t_55 :: z_t_56 :: z_t_57 :: z_t_58 :: z_t_59 :: z_t_60 :: []))) :: (h_t_has, .inl (k_t_has, 10, .inl t_has_c213_86)) :: (h_t_us, .inl (k_t_us, 10, .inl t_us_c213_86)) :: (h_t_vs, .inl (k_t_vs, 10, .inl t_vs_c213_86)) :: (h_t_ds, .inl (k_t_ds, 10, .inl t_ds_c213_86)) :: R) := hD
                  cases h
                  exact rt_z S hr hlk hP hD hS z_c213_86 dX12_make_216
              · have h := br_pos c76 h
                refine lv_aload_n hx hb dX12_make_122 rfl (lv_at hl 0 rfl) ?_
                refine lv_aload_n hx hb dX12_make_123 rfl (lv_at hl 0 rfl) ?_
                refine va_get (D := D) (ci := 12) (v := .ref h_t_us) (C := RX12) (T := TX12) (N := 61) hx hb ha ix12 hown hK hP 0 rfl rfl 7 (by decide) (ha _ q967) (fun _ h9 => h9) rfl dX12_make_124 ?_
                refine lv_iload_n hx hb dX12_make_127 rfl (lv_at hl 3 rfl) ?_
                obtain ⟨i77, h⟩ := ix_ok h
                refine va_iald hx hb hK hP 2 1 rfl rfl i77 dX12_make_128 ?_
                refine lv_ineg hx hb dX12_make_129 ?_
                refine lv_i2l (v := (-(t_us l3.toNatClampNeg)).toInt64) hx hb dX12_make_130 rfl ?_
                refine lv_aload_n hx hb dX12_make_131 rfl (lv_at hl 0 rfl) ?_
                refine va_get (D := D) (ci := 12) (v := .ref h_t_vs) (C := RX12) (T := TX12) (N := 61) hx hb ha ix12 hown hK hP 0 rfl rfl 8 (by decide) (ha _ q968) (fun _ h9 => h9) rfl dX12_make_132 ?_
                refine lv_iload_n hx hb dX12_make_135 rfl (lv_at hl 3 rfl) ?_
                obtain ⟨i78, h⟩ := ix_ok h
                refine va_iald hx hb hK hP 3 2 rfl rfl i78 dX12_make_136 ?_
                refine lv_ineg hx hb dX12_make_137 ?_
                refine lv_i2l (v := (-(t_vs l3.toNatClampNeg)).toInt64) hx hb dX12_make_138 rfl ?_
                refine lv_aload_n hx hb dX12_make_139 rfl (lv_at hl 0 rfl) ?_
                refine va_get (D := D) (ci := 12) (v := .ref h_t_ds) (C := RX12) (T := TX12) (N := 61) hx hb ha ix12 hown hK hP 0 rfl rfl 9 (by decide) (ha _ q969) (fun _ h9 => h9) rfl dX12_make_140 ?_
                refine lv_iload_n hx hb dX12_make_143 rfl (lv_at hl 3 rfl) ?_
                obtain ⟨i79, h⟩ := ix_ok h
                refine va_iald hx hb hK hP 4 3 rfl rfl i79 dX12_make_144 ?_
                refine lv_i2l (v := (t_ds l3.toNatClampNeg).toInt64) hx hb dX12_make_145 rfl ?_
                obtain ⟨t_u_c146_79, t_v_c146_79, t_d_c146_79, e_c146_79, h⟩ := bnd3_ok h
                refine cl_v (rn_v (ci := 12) (As := [.long (-(t_us l3.toNatClampNeg)).toInt64, .long (-(t_vs l3.toNatClampNeg)).toInt64, .long (t_ds l3.toNatClampNeg).toInt64]) (rest := []) S (c_X12_plus l D ((h_t_has, .inl (k_t_has, 10, .inl t_has)) :: (h_t_us, .inl (k_t_us, 10, .inl t_us)) :: (h_t_vs, .inl (k_t_vs, 10, .inl t_vs)) :: (h_t_ds, .inl (k_t_ds, 10, .inl t_ds)) :: R) h_t (.int 0) (z_t_1) (z_t_2) (.int t_a) (.int t_b) (z_t_5) (.ref h_t_has) (.ref h_t_us) (.ref h_t_vs) (.ref h_t_ds) t_u_c80_68 t_v_c80_68 t_d_c80_68 (z_t_13) (z_t_14) (z_t_15) (z_t_16) (z_t_17) (z_t_18) (z_t_19) (z_t_20) (z_t_21) (z_t_22) (z_t_23) (z_t_24) (z_t_25) (z_t_26) (z_t_27) (z_t_28) (z_t_29) (z_t_30) (z_t_31) (z_t_32) (z_t_33) (z_t_34) (z_t_35) (z_t_36) (z_t_37) (z_t_38) (z_t_39) (z_t_40) (z_t_41) (z_t_42) (z_t_43) (z_t_44) (z_t_45) (z_t_46) (z_t_47) (z_t_48) (z_t_49) (z_t_50) (z_t_51) (z_t_52) (z_t_53) (z_t_54) (z_t_55) (z_t_56) (z_t_57) (z_t_58) (z_t_59) (z_t_60) ((-(t_us l3.toNatClampNeg)).toInt64) ((-(t_vs l3.toNatClampNeg)).toInt64) ((t_ds l3.toNatClampNeg).toInt64) t_u_c146_79 t_v_c146_79 t_d_c146_79 e_c146_79 _) q1198 q1200 q31 q61 q1201 nd_X12_plus ⟨Nat.le_of_ble_eq_true rfl, Nat.le_of_ble_eq_true rfl⟩ rfl rfl hP hD (hK.sub (tys' := []) [] rfl) hN rfl ⟨0, _, rfl⟩ rfl hl.1 rfl (Nat.le_of_ble_eq_true rfl) dX12_make_146 ⟨Nat.le_of_ble_eq_true rfl, Nat.le_of_ble_eq_true rfl⟩) hS hA hD (fun H locs hP hD hS => ?_)
                have hP : va_P D vwCl ((h_t, .inr (12, (.int 0 :: z_t_1 :: z_t_2 :: .int t_a :: .int t_b :: z_t_5 :: .ref h_t_has :: .ref h_t_us :: .ref h_t_vs :: .ref h_t_ds :: .long t_u_c146_79 :: .long t_v_c146_79 :: .long t_d_c146_79 :: z_t_13 :: z_t_14 :: z_t_15 :: z_t_16 :: z_t_17 :: z_t_18 :: z_t_19 :: z_t_20 :: z_t_21 :: z_t_22 :: z_t_23 :: z_t_24 :: z_t_25 :: z_t_26 :: z_t_27 :: z_t_28 :: z_t_29 :: z_t_30 :: z_t_31 :: z_t_32 :: z_t_33 :: z_t_34 :: z_t_35 :: z_t_36 :: z_t_37 :: z_t_38 :: z_t_39 :: z_t_40 :: z_t_41 :: z_t_42 :: z_t_43 :: z_t_44 :: z_t_45 :: z_t_46 :: z_t_47 :: z_t_48 :: z_t_49 :: z_t_50 :: z_t_51 :: z_t_52 :: z_t_53 :: z_t_54 :: z_t_55 :: z_t_56 :: z_t_57 :: z_t_58 :: z_t_59 :: z_t_60 :: []))) :: (h_t_has, .inl (k_t_has, 10, .inl t_has)) :: (h_t_us, .inl (k_t_us, 10, .inl t_us)) :: (h_t_vs, .inl (k_t_vs, 10, .inl t_vs)) :: (h_t_ds, .inl (k_t_ds, 10, .inl t_ds)) :: R) H := hP
                have hD : va_D A ((h_t, .inr (12, (.int 0 :: z_t_1 :: z_t_2 :: .int t_a :: .int t_b :: z_t_5 :: .ref h_t_has :: .ref h_t_us :: .ref h_t_vs :: .ref h_t_ds :: .long t_u_c146_79 :: .long t_v_c146_79 :: .long t_d_c146_79 :: z_t_13 :: z_t_14 :: z_t_15 :: z_t_16 :: z_t_17 :: z_t_18 :: z_t_19 :: z_t_20 :: z_t_21 :: z_t_22 :: z_t_23 :: z_t_24 :: z_t_25 :: z_t_26 :: z_t_27 :: z_t_28 :: z_t_29 :: z_t_30 :: z_t_31 :: z_t_32 :: z_t_33 :: z_t_34 :: z_t_35 :: z_t_36 :: z_t_37 :: z_t_38 :: z_t_39 :: z_t_40 :: z_t_41 :: z_t_42 :: z_t_43 :: z_t_44 :: z_t_45 :: z_t_46 :: z_t_47 :: z_t_48 :: z_t_49 :: z_t_50 :: z_t_51 :: z_t_52 :: z_t_53 :: z_t_54 :: z_t_55 :: z_t_56 :: z_t_57 :: z_t_58 :: z_t_59 :: z_t_60 :: []))) :: (h_t_has, .inl (k_t_has, 10, .inl t_has)) :: (h_t_us, .inl (k_t_us, 10, .inl t_us)) :: (h_t_vs, .inl (k_t_vs, 10, .inl t_vs)) :: (h_t_ds, .inl (k_t_ds, 10, .inl t_ds)) :: R) := hD
                refine lv_goto (tgt := 211) hx hb dX12_make_149 (by decide) ?_
                refine lv_aload_n hx hb dX12_make_211 rfl (lv_at hl 0 rfl) ?_
                refine lv_iload_n hx hb dX12_make_212 rfl (lv_at hl 1 rfl) ?_
                obtain ⟨r_c213_80, t_has_c213_80, t_us_c213_80, t_vs_c213_80, t_ds_c213_80, e_c213_80, h⟩ := bnd5_ok h
                refine cl_z (rn_v (ci := 12) (As := [.int l1]) (rest := []) S (c_X12_put l D (R) h_t (.int 0) (z_t_1) (z_t_2) (.int t_a) (.int t_b) (z_t_5) t_u_c146_79 t_v_c146_79 t_d_c146_79 (z_t_13) (z_t_14) (z_t_15) (z_t_16) (z_t_17) (z_t_18) (z_t_19) (z_t_20) (z_t_21) (z_t_22) (z_t_23) (z_t_24) (z_t_25) (z_t_26) (z_t_27) (z_t_28) (z_t_29) (z_t_30) (z_t_31) (z_t_32) (z_t_33) (z_t_34) (z_t_35) (z_t_36) (z_t_37) (z_t_38) (z_t_39) (z_t_40) (z_t_41) (z_t_42) (z_t_43) (z_t_44) (z_t_45) (z_t_46) (z_t_47) (z_t_48) (z_t_49) (z_t_50) (z_t_51) (z_t_52) (z_t_53) (z_t_54) (z_t_55) (z_t_56) (z_t_57) (z_t_58) (z_t_59) (z_t_60) h_t_has k_t_has t_has h_t_us k_t_us t_us h_t_vs k_t_vs t_vs h_t_ds k_t_ds t_ds l1 r_c213_80 t_has_c213_80 t_us_c213_80 t_vs_c213_80 t_ds_c213_80 e_c213_80 _) q1179 q1181 q28 q61 q1182 nd_X12_put ⟨Nat.le_of_ble_eq_true rfl, Nat.le_of_ble_eq_true rfl⟩ rfl rfl hP hD (hK.sub (tys' := [(k_t_has, .boolean), (k_t_us, .int), (k_t_vs, .int), (k_t_ds, .int)]) [0, 1, 2, 3] rfl) hN rfl ⟨0, _, rfl⟩ rfl hl.1 rfl (Nat.le_of_ble_eq_true rfl) dX12_make_213 ⟨Nat.le_of_ble_eq_true rfl, Nat.le_of_ble_eq_true rfl⟩) hS hA hD (fun H locs hP hD hS z_c213_80 => ?_)
                have hP : va_P D vwCl ((h_t, .inr (12, (.int 0 :: z_t_1 :: z_t_2 :: .int t_a :: .int t_b :: z_t_5 :: .ref h_t_has :: .ref h_t_us :: .ref h_t_vs :: .ref h_t_ds :: .long t_u_c146_79 :: .long t_v_c146_79 :: .long t_d_c146_79 :: z_t_13 :: z_t_14 :: z_t_15 :: z_t_16 :: z_t_17 :: z_t_18 :: z_t_19 :: z_t_20 :: z_t_21 :: z_t_22 :: z_t_23 :: z_t_24 :: z_t_25 :: z_t_26 :: z_t_27 :: z_t_28 :: z_t_29 :: z_t_30 :: z_t_31 :: z_t_32 :: z_t_33 :: z_t_34 :: z_t_35 :: z_t_36 :: z_t_37 :: z_t_38 :: z_t_39 :: z_t_40 :: z_t_41 :: z_t_42 :: z_t_43 :: z_t_44 :: z_t_45 :: z_t_46 :: z_t_47 :: z_t_48 :: z_t_49 :: z_t_50 :: z_t_51 :: z_t_52 :: z_t_53 :: z_t_54 :: z_t_55 :: z_t_56 :: z_t_57 :: z_t_58 :: z_t_59 :: z_t_60 :: []))) :: (h_t_has, .inl (k_t_has, 10, .inl t_has_c213_80)) :: (h_t_us, .inl (k_t_us, 10, .inl t_us_c213_80)) :: (h_t_vs, .inl (k_t_vs, 10, .inl t_vs_c213_80)) :: (h_t_ds, .inl (k_t_ds, 10, .inl t_ds_c213_80)) :: R) H := hP
                have hD : va_D A ((h_t, .inr (12, (.int 0 :: z_t_1 :: z_t_2 :: .int t_a :: .int t_b :: z_t_5 :: .ref h_t_has :: .ref h_t_us :: .ref h_t_vs :: .ref h_t_ds :: .long t_u_c146_79 :: .long t_v_c146_79 :: .long t_d_c146_79 :: z_t_13 :: z_t_14 :: z_t_15 :: z_t_16 :: z_t_17 :: z_t_18 :: z_t_19 :: z_t_20 :: z_t_21 :: z_t_22 :: z_t_23 :: z_t_24 :: z_t_25 :: z_t_26 :: z_t_27 :: z_t_28 :: z_t_29 :: z_t_30 :: z_t_31 :: z_t_32 :: z_t_33 :: z_t_34 :: z_t_35 :: z_t_36 :: z_t_37 :: z_t_38 :: z_t_39 :: z_t_40 :: z_t_41 :: z_t_42 :: z_t_43 :: z_t_44 :: z_t_45 :: z_t_46 :: z_t_47 :: z_t_48 :: z_t_49 :: z_t_50 :: z_t_51 :: z_t_52 :: z_t_53 :: z_t_54 :: z_t_55 :: z_t_56 :: z_t_57 :: z_t_58 :: z_t_59 :: z_t_60 :: []))) :: (h_t_has, .inl (k_t_has, 10, .inl t_has_c213_80)) :: (h_t_us, .inl (k_t_us, 10, .inl t_us_c213_80)) :: (h_t_vs, .inl (k_t_vs, 10, .inl t_vs_c213_80)) :: (h_t_ds, .inl (k_t_ds, 10, .inl t_ds_c213_80)) :: R) := hD
                cases h
                exact rt_z S hr hlk hP hD hS z_c213_80 dX12_make_216
            · have h := br_pos c70 h
              refine lv_aload_n hx hb dX12_make_88 rfl (lv_at hl 0 rfl) ?_
              refine lv_aload_n hx hb dX12_make_89 rfl (lv_at hl 0 rfl) ?_
              refine va_get (D := D) (ci := 12) (v := .ref h_t_us) (C := RX12) (T := TX12) (N := 61) hx hb ha ix12 hown hK hP 0 rfl rfl 7 (by decide) (ha _ q967) (fun _ h9 => h9) rfl dX12_make_90 ?_
              refine lv_iload_n hx hb dX12_make_93 rfl (lv_at hl 3 rfl) ?_
              obtain ⟨i71, h⟩ := ix_ok h
              refine va_iald hx hb hK hP 2 1 rfl rfl i71 dX12_make_94 ?_
              refine lv_i2l (v := (t_us l3.toNatClampNeg).toInt64) hx hb dX12_make_95 rfl ?_
              refine lv_aload_n hx hb dX12_make_96 rfl (lv_at hl 0 rfl) ?_
              refine va_get (D := D) (ci := 12) (v := .ref h_t_vs) (C := RX12) (T := TX12) (N := 61) hx hb ha ix12 hown hK hP 0 rfl rfl 8 (by decide) (ha _ q968) (fun _ h9 => h9) rfl dX12_make_97 ?_
              refine lv_iload_n hx hb dX12_make_100 rfl (lv_at hl 3 rfl) ?_
              obtain ⟨i72, h⟩ := ix_ok h
              refine va_iald hx hb hK hP 3 2 rfl rfl i72 dX12_make_101 ?_
              refine lv_i2l (v := (t_vs l3.toNatClampNeg).toInt64) hx hb dX12_make_102 rfl ?_
              refine lv_aload_n hx hb dX12_make_103 rfl (lv_at hl 0 rfl) ?_
              refine va_get (D := D) (ci := 12) (v := .ref h_t_ds) (C := RX12) (T := TX12) (N := 61) hx hb ha ix12 hown hK hP 0 rfl rfl 9 (by decide) (ha _ q969) (fun _ h9 => h9) rfl dX12_make_104 ?_
              refine lv_iload_n hx hb dX12_make_107 rfl (lv_at hl 3 rfl) ?_
              obtain ⟨i73, h⟩ := ix_ok h
              refine va_iald hx hb hK hP 4 3 rfl rfl i73 dX12_make_108 ?_
              refine lv_i2l (v := (t_ds l3.toNatClampNeg).toInt64) hx hb dX12_make_109 rfl ?_
              obtain ⟨t_u_c110_73, t_v_c110_73, t_d_c110_73, e_c110_73, h⟩ := bnd3_ok h
              refine cl_v (rn_v (ci := 12) (As := [.long (t_us l3.toNatClampNeg).toInt64, .long (t_vs l3.toNatClampNeg).toInt64, .long (t_ds l3.toNatClampNeg).toInt64]) (rest := []) S (c_X12_plus l D ((h_t_has, .inl (k_t_has, 10, .inl t_has)) :: (h_t_us, .inl (k_t_us, 10, .inl t_us)) :: (h_t_vs, .inl (k_t_vs, 10, .inl t_vs)) :: (h_t_ds, .inl (k_t_ds, 10, .inl t_ds)) :: R) h_t (.int 0) (z_t_1) (z_t_2) (.int t_a) (.int t_b) (z_t_5) (.ref h_t_has) (.ref h_t_us) (.ref h_t_vs) (.ref h_t_ds) t_u_c80_68 t_v_c80_68 t_d_c80_68 (z_t_13) (z_t_14) (z_t_15) (z_t_16) (z_t_17) (z_t_18) (z_t_19) (z_t_20) (z_t_21) (z_t_22) (z_t_23) (z_t_24) (z_t_25) (z_t_26) (z_t_27) (z_t_28) (z_t_29) (z_t_30) (z_t_31) (z_t_32) (z_t_33) (z_t_34) (z_t_35) (z_t_36) (z_t_37) (z_t_38) (z_t_39) (z_t_40) (z_t_41) (z_t_42) (z_t_43) (z_t_44) (z_t_45) (z_t_46) (z_t_47) (z_t_48) (z_t_49) (z_t_50) (z_t_51) (z_t_52) (z_t_53) (z_t_54) (z_t_55) (z_t_56) (z_t_57) (z_t_58) (z_t_59) (z_t_60) ((t_us l3.toNatClampNeg).toInt64) ((t_vs l3.toNatClampNeg).toInt64) ((t_ds l3.toNatClampNeg).toInt64) t_u_c110_73 t_v_c110_73 t_d_c110_73 e_c110_73 _) q1198 q1200 q31 q61 q1201 nd_X12_plus ⟨Nat.le_of_ble_eq_true rfl, Nat.le_of_ble_eq_true rfl⟩ rfl rfl hP hD (hK.sub (tys' := []) [] rfl) hN rfl ⟨0, _, rfl⟩ rfl hl.1 rfl (Nat.le_of_ble_eq_true rfl) dX12_make_110 ⟨Nat.le_of_ble_eq_true rfl, Nat.le_of_ble_eq_true rfl⟩) hS hA hD (fun H locs hP hD hS => ?_)
              have hP : va_P D vwCl ((h_t, .inr (12, (.int 0 :: z_t_1 :: z_t_2 :: .int t_a :: .int t_b :: z_t_5 :: .ref h_t_has :: .ref h_t_us :: .ref h_t_vs :: .ref h_t_ds :: .long t_u_c110_73 :: .long t_v_c110_73 :: .long t_d_c110_73 :: z_t_13 :: z_t_14 :: z_t_15 :: z_t_16 :: z_t_17 :: z_t_18 :: z_t_19 :: z_t_20 :: z_t_21 :: z_t_22 :: z_t_23 :: z_t_24 :: z_t_25 :: z_t_26 :: z_t_27 :: z_t_28 :: z_t_29 :: z_t_30 :: z_t_31 :: z_t_32 :: z_t_33 :: z_t_34 :: z_t_35 :: z_t_36 :: z_t_37 :: z_t_38 :: z_t_39 :: z_t_40 :: z_t_41 :: z_t_42 :: z_t_43 :: z_t_44 :: z_t_45 :: z_t_46 :: z_t_47 :: z_t_48 :: z_t_49 :: z_t_50 :: z_t_51 :: z_t_52 :: z_t_53 :: z_t_54 :: z_t_55 :: z_t_56 :: z_t_57 :: z_t_58 :: z_t_59 :: z_t_60 :: []))) :: (h_t_has, .inl (k_t_has, 10, .inl t_has)) :: (h_t_us, .inl (k_t_us, 10, .inl t_us)) :: (h_t_vs, .inl (k_t_vs, 10, .inl t_vs)) :: (h_t_ds, .inl (k_t_ds, 10, .inl t_ds)) :: R) H := hP
              have hD : va_D A ((h_t, .inr (12, (.int 0 :: z_t_1 :: z_t_2 :: .int t_a :: .int t_b :: z_t_5 :: .ref h_t_has :: .ref h_t_us :: .ref h_t_vs :: .ref h_t_ds :: .long t_u_c110_73 :: .long t_v_c110_73 :: .long t_d_c110_73 :: z_t_13 :: z_t_14 :: z_t_15 :: z_t_16 :: z_t_17 :: z_t_18 :: z_t_19 :: z_t_20 :: z_t_21 :: z_t_22 :: z_t_23 :: z_t_24 :: z_t_25 :: z_t_26 :: z_t_27 :: z_t_28 :: z_t_29 :: z_t_30 :: z_t_31 :: z_t_32 :: z_t_33 :: z_t_34 :: z_t_35 :: z_t_36 :: z_t_37 :: z_t_38 :: z_t_39 :: z_t_40 :: z_t_41 :: z_t_42 :: z_t_43 :: z_t_44 :: z_t_45 :: z_t_46 :: z_t_47 :: z_t_48 :: z_t_49 :: z_t_50 :: z_t_51 :: z_t_52 :: z_t_53 :: z_t_54 :: z_t_55 :: z_t_56 :: z_t_57 :: z_t_58 :: z_t_59 :: z_t_60 :: []))) :: (h_t_has, .inl (k_t_has, 10, .inl t_has)) :: (h_t_us, .inl (k_t_us, 10, .inl t_us)) :: (h_t_vs, .inl (k_t_vs, 10, .inl t_vs)) :: (h_t_ds, .inl (k_t_ds, 10, .inl t_ds)) :: R) := hD
              refine lv_goto (tgt := 211) hx hb dX12_make_113 (by decide) ?_
              refine lv_aload_n hx hb dX12_make_211 rfl (lv_at hl 0 rfl) ?_
              refine lv_iload_n hx hb dX12_make_212 rfl (lv_at hl 1 rfl) ?_
              obtain ⟨r_c213_74, t_has_c213_74, t_us_c213_74, t_vs_c213_74, t_ds_c213_74, e_c213_74, h⟩ := bnd5_ok h
              refine cl_z (rn_v (ci := 12) (As := [.int l1]) (rest := []) S (c_X12_put l D (R) h_t (.int 0) (z_t_1) (z_t_2) (.int t_a) (.int t_b) (z_t_5) t_u_c110_73 t_v_c110_73 t_d_c110_73 (z_t_13) (z_t_14) (z_t_15) (z_t_16) (z_t_17) (z_t_18) (z_t_19) (z_t_20) (z_t_21) (z_t_22) (z_t_23) (z_t_24) (z_t_25) (z_t_26) (z_t_27) (z_t_28) (z_t_29) (z_t_30) (z_t_31) (z_t_32) (z_t_33) (z_t_34) (z_t_35) (z_t_36) (z_t_37) (z_t_38) (z_t_39) (z_t_40) (z_t_41) (z_t_42) (z_t_43) (z_t_44) (z_t_45) (z_t_46) (z_t_47) (z_t_48) (z_t_49) (z_t_50) (z_t_51) (z_t_52) (z_t_53) (z_t_54) (z_t_55) (z_t_56) (z_t_57) (z_t_58) (z_t_59) (z_t_60) h_t_has k_t_has t_has h_t_us k_t_us t_us h_t_vs k_t_vs t_vs h_t_ds k_t_ds t_ds l1 r_c213_74 t_has_c213_74 t_us_c213_74 t_vs_c213_74 t_ds_c213_74 e_c213_74 _) q1179 q1181 q28 q61 q1182 nd_X12_put ⟨Nat.le_of_ble_eq_true rfl, Nat.le_of_ble_eq_true rfl⟩ rfl rfl hP hD (hK.sub (tys' := [(k_t_has, .boolean), (k_t_us, .int), (k_t_vs, .int), (k_t_ds, .int)]) [0, 1, 2, 3] rfl) hN rfl ⟨0, _, rfl⟩ rfl hl.1 rfl (Nat.le_of_ble_eq_true rfl) dX12_make_213 ⟨Nat.le_of_ble_eq_true rfl, Nat.le_of_ble_eq_true rfl⟩) hS hA hD (fun H locs hP hD hS z_c213_74 => ?_)
              have hP : va_P D vwCl ((h_t, .inr (12, (.int 0 :: z_t_1 :: z_t_2 :: .int t_a :: .int t_b :: z_t_5 :: .ref h_t_has :: .ref h_t_us :: .ref h_t_vs :: .ref h_t_ds :: .long t_u_c110_73 :: .long t_v_c110_73 :: .long t_d_c110_73 :: z_t_13 :: z_t_14 :: z_t_15 :: z_t_16 :: z_t_17 :: z_t_18 :: z_t_19 :: z_t_20 :: z_t_21 :: z_t_22 :: z_t_23 :: z_t_24 :: z_t_25 :: z_t_26 :: z_t_27 :: z_t_28 :: z_t_29 :: z_t_30 :: z_t_31 :: z_t_32 :: z_t_33 :: z_t_34 :: z_t_35 :: z_t_36 :: z_t_37 :: z_t_38 :: z_t_39 :: z_t_40 :: z_t_41 :: z_t_42 :: z_t_43 :: z_t_44 :: z_t_45 :: z_t_46 :: z_t_47 :: z_t_48 :: z_t_49 :: z_t_50 :: z_t_51 :: z_t_52 :: z_t_53 :: z_t_54 :: z_t_55 :: z_t_56 :: z_t_57 :: z_t_58 :: z_t_59 :: z_t_60 :: []))) :: (h_t_has, .inl (k_t_has, 10, .inl t_has_c213_74)) :: (h_t_us, .inl (k_t_us, 10, .inl t_us_c213_74)) :: (h_t_vs, .inl (k_t_vs, 10, .inl t_vs_c213_74)) :: (h_t_ds, .inl (k_t_ds, 10, .inl t_ds_c213_74)) :: R) H := hP
              have hD : va_D A ((h_t, .inr (12, (.int 0 :: z_t_1 :: z_t_2 :: .int t_a :: .int t_b :: z_t_5 :: .ref h_t_has :: .ref h_t_us :: .ref h_t_vs :: .ref h_t_ds :: .long t_u_c110_73 :: .long t_v_c110_73 :: .long t_d_c110_73 :: z_t_13 :: z_t_14 :: z_t_15 :: z_t_16 :: z_t_17 :: z_t_18 :: z_t_19 :: z_t_20 :: z_t_21 :: z_t_22 :: z_t_23 :: z_t_24 :: z_t_25 :: z_t_26 :: z_t_27 :: z_t_28 :: z_t_29 :: z_t_30 :: z_t_31 :: z_t_32 :: z_t_33 :: z_t_34 :: z_t_35 :: z_t_36 :: z_t_37 :: z_t_38 :: z_t_39 :: z_t_40 :: z_t_41 :: z_t_42 :: z_t_43 :: z_t_44 :: z_t_45 :: z_t_46 :: z_t_47 :: z_t_48 :: z_t_49 :: z_t_50 :: z_t_51 :: z_t_52 :: z_t_53 :: z_t_54 :: z_t_55 :: z_t_56 :: z_t_57 :: z_t_58 :: z_t_59 :: z_t_60 :: []))) :: (h_t_has, .inl (k_t_has, 10, .inl t_has_c213_74)) :: (h_t_us, .inl (k_t_us, 10, .inl t_us_c213_74)) :: (h_t_vs, .inl (k_t_vs, 10, .inl t_vs_c213_74)) :: (h_t_ds, .inl (k_t_ds, 10, .inl t_ds_c213_74)) :: R) := hD
              cases h
              exact rt_z S hr hlk hP hD hS z_c213_74 dX12_make_216
          · have h := br_pos c7 h
            refine lv_aload_n hx hb dX12_make_38 rfl (lv_at hl 0 rfl) ?_
            refine va_get (D := D) (ci := 12) (v := .ref h_t_us) (C := RX12) (T := TX12) (N := 61) hx hb ha ix12 hown hK hP 0 rfl rfl 7 (by decide) (ha _ q967) (fun _ h9 => h9) rfl dX12_make_39 ?_
            refine lv_iload_n hx hb dX12_make_42 rfl (lv_at hl 3 rfl) ?_
            obtain ⟨i8, h⟩ := ix_ok h
            refine va_iald hx hb hK hP 2 1 rfl rfl i8 dX12_make_43 ?_
            refine lv_if_ne (tgt := 58) hx hb dX12_make_44 (by decide) (fun c9 => ?_) (fun c9 => ?_)
            · have h := br_neg c9 h
              refine lv_aload_n hx hb dX12_make_58 rfl (lv_at hl 0 rfl) ?_
              refine lv_aload_n hx hb dX12_make_59 rfl (lv_at hl 0 rfl) ?_
              refine va_get (D := D) (ci := 12) (v := .ref h_t_us) (C := RX12) (T := TX12) (N := 61) hx hb ha ix12 hown hK hP 0 rfl rfl 7 (by decide) (ha _ q967) (fun _ h9 => h9) rfl dX12_make_60 ?_
              refine lv_iload_n hx hb dX12_make_63 rfl (lv_at hl 2 rfl) ?_
              obtain ⟨i39, h⟩ := ix_ok h
              refine va_iald hx hb hK hP 2 1 rfl rfl i39 dX12_make_64 ?_
              refine lv_i2l (v := (t_us l2.toNatClampNeg).toInt64) hx hb dX12_make_65 rfl ?_
              refine lv_aload_n hx hb dX12_make_66 rfl (lv_at hl 0 rfl) ?_
              refine va_get (D := D) (ci := 12) (v := .ref h_t_vs) (C := RX12) (T := TX12) (N := 61) hx hb ha ix12 hown hK hP 0 rfl rfl 8 (by decide) (ha _ q968) (fun _ h9 => h9) rfl dX12_make_67 ?_
              refine lv_iload_n hx hb dX12_make_70 rfl (lv_at hl 2 rfl) ?_
              obtain ⟨i40, h⟩ := ix_ok h
              refine va_iald hx hb hK hP 3 2 rfl rfl i40 dX12_make_71 ?_
              refine lv_i2l (v := (t_vs l2.toNatClampNeg).toInt64) hx hb dX12_make_72 rfl ?_
              refine lv_aload_n hx hb dX12_make_73 rfl (lv_at hl 0 rfl) ?_
              refine va_get (D := D) (ci := 12) (v := .ref h_t_ds) (C := RX12) (T := TX12) (N := 61) hx hb ha ix12 hown hK hP 0 rfl rfl 9 (by decide) (ha _ q969) (fun _ h9 => h9) rfl dX12_make_74 ?_
              refine lv_iload_n hx hb dX12_make_77 rfl (lv_at hl 2 rfl) ?_
              obtain ⟨i41, h⟩ := ix_ok h
              refine va_iald hx hb hK hP 4 3 rfl rfl i41 dX12_make_78 ?_
              refine lv_i2l (v := (t_ds l2.toNatClampNeg).toInt64) hx hb dX12_make_79 rfl ?_
              obtain ⟨t_u_c80_41, t_v_c80_41, t_d_c80_41, e_c80_41, h⟩ := bnd3_ok h
              refine cl_v (rn_v (ci := 12) (As := [.long (t_us l2.toNatClampNeg).toInt64, .long (t_vs l2.toNatClampNeg).toInt64, .long (t_ds l2.toNatClampNeg).toInt64]) (rest := []) S (c_X12_set l D ((h_t_has, .inl (k_t_has, 10, .inl t_has)) :: (h_t_us, .inl (k_t_us, 10, .inl t_us)) :: (h_t_vs, .inl (k_t_vs, 10, .inl t_vs)) :: (h_t_ds, .inl (k_t_ds, 10, .inl t_ds)) :: R) h_t (.int 0) (z_t_1) (z_t_2) (.int t_a) (.int t_b) (z_t_5) (.ref h_t_has) (.ref h_t_us) (.ref h_t_vs) (.ref h_t_ds) t_u t_v t_d (z_t_13) (z_t_14) (z_t_15) (z_t_16) (z_t_17) (z_t_18) (z_t_19) (z_t_20) (z_t_21) (z_t_22) (z_t_23) (z_t_24) (z_t_25) (z_t_26) (z_t_27) (z_t_28) (z_t_29) (z_t_30) (z_t_31) (z_t_32) (z_t_33) (z_t_34) (z_t_35) (z_t_36) (z_t_37) (z_t_38) (z_t_39) (z_t_40) (z_t_41) (z_t_42) (z_t_43) (z_t_44) (z_t_45) (z_t_46) (z_t_47) (z_t_48) (z_t_49) (z_t_50) (z_t_51) (z_t_52) (z_t_53) (z_t_54) (z_t_55) (z_t_56) (z_t_57) (z_t_58) (z_t_59) (z_t_60) ((t_us l2.toNatClampNeg).toInt64) ((t_vs l2.toNatClampNeg).toInt64) ((t_ds l2.toNatClampNeg).toInt64) t_u_c80_41 t_v_c80_41 t_d_c80_41 e_c80_41 _) q1172 q1174 q27 q61 q1175 nd_X12_set ⟨Nat.le_of_ble_eq_true rfl, Nat.le_of_ble_eq_true rfl⟩ rfl rfl hP hD (hK.sub (tys' := []) [] rfl) hN rfl ⟨0, _, rfl⟩ rfl hl.1 rfl (Nat.le_of_ble_eq_true rfl) dX12_make_80 ⟨Nat.le_of_ble_eq_true rfl, Nat.le_of_ble_eq_true rfl⟩) hS hA hD (fun H locs hP hD hS => ?_)
              have hP : va_P D vwCl ((h_t, .inr (12, (.int 0 :: z_t_1 :: z_t_2 :: .int t_a :: .int t_b :: z_t_5 :: .ref h_t_has :: .ref h_t_us :: .ref h_t_vs :: .ref h_t_ds :: .long t_u_c80_41 :: .long t_v_c80_41 :: .long t_d_c80_41 :: z_t_13 :: z_t_14 :: z_t_15 :: z_t_16 :: z_t_17 :: z_t_18 :: z_t_19 :: z_t_20 :: z_t_21 :: z_t_22 :: z_t_23 :: z_t_24 :: z_t_25 :: z_t_26 :: z_t_27 :: z_t_28 :: z_t_29 :: z_t_30 :: z_t_31 :: z_t_32 :: z_t_33 :: z_t_34 :: z_t_35 :: z_t_36 :: z_t_37 :: z_t_38 :: z_t_39 :: z_t_40 :: z_t_41 :: z_t_42 :: z_t_43 :: z_t_44 :: z_t_45 :: z_t_46 :: z_t_47 :: z_t_48 :: z_t_49 :: z_t_50 :: z_t_51 :: z_t_52 :: z_t_53 :: z_t_54 :: z_t_55 :: z_t_56 :: z_t_57 :: z_t_58 :: z_t_59 :: z_t_60 :: []))) :: (h_t_has, .inl (k_t_has, 10, .inl t_has)) :: (h_t_us, .inl (k_t_us, 10, .inl t_us)) :: (h_t_vs, .inl (k_t_vs, 10, .inl t_vs)) :: (h_t_ds, .inl (k_t_ds, 10, .inl t_ds)) :: R) H := hP
              have hD : va_D A ((h_t, .inr (12, (.int 0 :: z_t_1 :: z_t_2 :: .int t_a :: .int t_b :: z_t_5 :: .ref h_t_has :: .ref h_t_us :: .ref h_t_vs :: .ref h_t_ds :: .long t_u_c80_41 :: .long t_v_c80_41 :: .long t_d_c80_41 :: z_t_13 :: z_t_14 :: z_t_15 :: z_t_16 :: z_t_17 :: z_t_18 :: z_t_19 :: z_t_20 :: z_t_21 :: z_t_22 :: z_t_23 :: z_t_24 :: z_t_25 :: z_t_26 :: z_t_27 :: z_t_28 :: z_t_29 :: z_t_30 :: z_t_31 :: z_t_32 :: z_t_33 :: z_t_34 :: z_t_35 :: z_t_36 :: z_t_37 :: z_t_38 :: z_t_39 :: z_t_40 :: z_t_41 :: z_t_42 :: z_t_43 :: z_t_44 :: z_t_45 :: z_t_46 :: z_t_47 :: z_t_48 :: z_t_49 :: z_t_50 :: z_t_51 :: z_t_52 :: z_t_53 :: z_t_54 :: z_t_55 :: z_t_56 :: z_t_57 :: z_t_58 :: z_t_59 :: z_t_60 :: []))) :: (h_t_has, .inl (k_t_has, 10, .inl t_has)) :: (h_t_us, .inl (k_t_us, 10, .inl t_us)) :: (h_t_vs, .inl (k_t_vs, 10, .inl t_vs)) :: (h_t_ds, .inl (k_t_ds, 10, .inl t_ds)) :: R) := hD
              refine lv_iload hx hb dX12_make_83 (lv_at hl 4 rfl) ?_
              refine lv_if_ne (tgt := 116) hx hb dX12_make_85 (by decide) (fun c43 => ?_) (fun c43 => ?_)
              · have h := br_neg c43 h
                refine lv_iload hx hb dX12_make_116 (lv_at hl 4 rfl) ?_
                refine lv_iconst (v := 1) hx hb dX12_make_118 (by decide) ?_
                refine lv_icmp_ne (tgt := 152) hx hb dX12_make_119 (by decide) (fun c49 => ?_) (fun c49 => ?_)
                · have h := br_neg c49 h
                  refine lv_iload hx hb dX12_make_152 (lv_at hl 4 rfl) ?_
                  refine lv_iconst (v := 2) hx hb dX12_make_154 (by decide) ?_
                  refine lv_icmp_ne (tgt := 186) hx hb dX12_make_155 (by decide) (fun c55 => ?_) (fun c55 => ?_)
                  · have h := br_neg c55 h
                    refine lv_aload_n hx hb dX12_make_186 rfl (lv_at hl 0 rfl) ?_
                    refine lv_aload_n hx hb dX12_make_187 rfl (lv_at hl 0 rfl) ?_
                    refine va_get (D := D) (ci := 12) (v := .ref h_t_us) (C := RX12) (T := TX12) (N := 61) hx hb ha ix12 hown hK hP 0 rfl rfl 7 (by decide) (ha _ q967) (fun _ h9 => h9) rfl dX12_make_188 ?_
                    refine lv_iload_n hx hb dX12_make_191 rfl (lv_at hl 3 rfl) ?_
                    obtain ⟨i61, h⟩ := ix_ok h
                    refine va_iald hx hb hK hP 2 1 rfl rfl i61 dX12_make_192 ?_
                    refine lv_i2l (v := (t_us l3.toNatClampNeg).toInt64) hx hb dX12_make_193 rfl ?_
                    refine lv_aload_n hx hb dX12_make_194 rfl (lv_at hl 0 rfl) ?_
                    refine va_get (D := D) (ci := 12) (v := .ref h_t_vs) (C := RX12) (T := TX12) (N := 61) hx hb ha ix12 hown hK hP 0 rfl rfl 8 (by decide) (ha _ q968) (fun _ h9 => h9) rfl dX12_make_195 ?_
                    refine lv_iload_n hx hb dX12_make_198 rfl (lv_at hl 3 rfl) ?_
                    obtain ⟨i62, h⟩ := ix_ok h
                    refine va_iald hx hb hK hP 3 2 rfl rfl i62 dX12_make_199 ?_
                    refine lv_i2l (v := (t_vs l3.toNatClampNeg).toInt64) hx hb dX12_make_200 rfl ?_
                    refine lv_aload_n hx hb dX12_make_201 rfl (lv_at hl 0 rfl) ?_
                    refine va_get (D := D) (ci := 12) (v := .ref h_t_ds) (C := RX12) (T := TX12) (N := 61) hx hb ha ix12 hown hK hP 0 rfl rfl 9 (by decide) (ha _ q969) (fun _ h9 => h9) rfl dX12_make_202 ?_
                    refine lv_iload_n hx hb dX12_make_205 rfl (lv_at hl 3 rfl) ?_
                    obtain ⟨i63, h⟩ := ix_ok h
                    refine va_iald hx hb hK hP 4 3 rfl rfl i63 dX12_make_206 ?_
                    refine lv_i2l (v := (t_ds l3.toNatClampNeg).toInt64) hx hb dX12_make_207 rfl ?_
                    obtain ⟨t_u_c208_63, t_v_c208_63, t_d_c208_63, e_c208_63, h⟩ := bnd3_ok h
                    refine cl_v (rn_v (ci := 12) (As := [.long (t_us l3.toNatClampNeg).toInt64, .long (t_vs l3.toNatClampNeg).toInt64, .long (t_ds l3.toNatClampNeg).toInt64]) (rest := []) S (c_X12_by l D ((h_t_has, .inl (k_t_has, 10, .inl t_has)) :: (h_t_us, .inl (k_t_us, 10, .inl t_us)) :: (h_t_vs, .inl (k_t_vs, 10, .inl t_vs)) :: (h_t_ds, .inl (k_t_ds, 10, .inl t_ds)) :: R) h_t (.int 0) (z_t_1) (z_t_2) t_a t_b (z_t_5) (.ref h_t_has) (.ref h_t_us) (.ref h_t_vs) (.ref h_t_ds) t_u_c80_41 t_v_c80_41 t_d_c80_41 (z_t_13) (z_t_14) (z_t_15) (z_t_16) (z_t_17) (z_t_18) (z_t_19) (z_t_20) (z_t_21) (z_t_22) (z_t_23) (z_t_24) (z_t_25) (z_t_26) (z_t_27) (z_t_28) (z_t_29) (z_t_30) (z_t_31) (z_t_32) (z_t_33) (z_t_34) (z_t_35) (z_t_36) (z_t_37) (z_t_38) (z_t_39) (z_t_40) (z_t_41) (z_t_42) (z_t_43) (z_t_44) (z_t_45) (z_t_46) (z_t_47) (z_t_48) (z_t_49) (z_t_50) (z_t_51) (z_t_52) (z_t_53) (z_t_54) (z_t_55) (z_t_56) (z_t_57) (z_t_58) (z_t_59) (z_t_60) ((t_us l3.toNatClampNeg).toInt64) ((t_vs l3.toNatClampNeg).toInt64) ((t_ds l3.toNatClampNeg).toInt64) t_u_c208_63 t_v_c208_63 t_d_c208_63 e_c208_63 _) q1206 q1208 q33 q61 q1209 nd_X12_by ⟨Nat.le_of_ble_eq_true rfl, Nat.le_of_ble_eq_true rfl⟩ rfl rfl hP hD (hK.sub (tys' := []) [] rfl) hN rfl ⟨0, _, rfl⟩ rfl hl.1 rfl (Nat.le_of_ble_eq_true rfl) dX12_make_208 ⟨Nat.le_of_ble_eq_true rfl, Nat.le_of_ble_eq_true rfl⟩) hS hA hD (fun H locs hP hD hS => ?_)
                    have hP : va_P D vwCl ((h_t, .inr (12, (.int 0 :: z_t_1 :: z_t_2 :: .int t_a :: .int t_b :: z_t_5 :: .ref h_t_has :: .ref h_t_us :: .ref h_t_vs :: .ref h_t_ds :: .long t_u_c208_63 :: .long t_v_c208_63 :: .long t_d_c208_63 :: z_t_13 :: z_t_14 :: z_t_15 :: z_t_16 :: z_t_17 :: z_t_18 :: z_t_19 :: z_t_20 :: z_t_21 :: z_t_22 :: z_t_23 :: z_t_24 :: z_t_25 :: z_t_26 :: z_t_27 :: z_t_28 :: z_t_29 :: z_t_30 :: z_t_31 :: z_t_32 :: z_t_33 :: z_t_34 :: z_t_35 :: z_t_36 :: z_t_37 :: z_t_38 :: z_t_39 :: z_t_40 :: z_t_41 :: z_t_42 :: z_t_43 :: z_t_44 :: z_t_45 :: z_t_46 :: z_t_47 :: z_t_48 :: z_t_49 :: z_t_50 :: z_t_51 :: z_t_52 :: z_t_53 :: z_t_54 :: z_t_55 :: z_t_56 :: z_t_57 :: z_t_58 :: z_t_59 :: z_t_60 :: []))) :: (h_t_has, .inl (k_t_has, 10, .inl t_has)) :: (h_t_us, .inl (k_t_us, 10, .inl t_us)) :: (h_t_vs, .inl (k_t_vs, 10, .inl t_vs)) :: (h_t_ds, .inl (k_t_ds, 10, .inl t_ds)) :: R) H := hP
                    have hD : va_D A ((h_t, .inr (12, (.int 0 :: z_t_1 :: z_t_2 :: .int t_a :: .int t_b :: z_t_5 :: .ref h_t_has :: .ref h_t_us :: .ref h_t_vs :: .ref h_t_ds :: .long t_u_c208_63 :: .long t_v_c208_63 :: .long t_d_c208_63 :: z_t_13 :: z_t_14 :: z_t_15 :: z_t_16 :: z_t_17 :: z_t_18 :: z_t_19 :: z_t_20 :: z_t_21 :: z_t_22 :: z_t_23 :: z_t_24 :: z_t_25 :: z_t_26 :: z_t_27 :: z_t_28 :: z_t_29 :: z_t_30 :: z_t_31 :: z_t_32 :: z_t_33 :: z_t_34 :: z_t_35 :: z_t_36 :: z_t_37 :: z_t_38 :: z_t_39 :: z_t_40 :: z_t_41 :: z_t_42 :: z_t_43 :: z_t_44 :: z_t_45 :: z_t_46 :: z_t_47 :: z_t_48 :: z_t_49 :: z_t_50 :: z_t_51 :: z_t_52 :: z_t_53 :: z_t_54 :: z_t_55 :: z_t_56 :: z_t_57 :: z_t_58 :: z_t_59 :: z_t_60 :: []))) :: (h_t_has, .inl (k_t_has, 10, .inl t_has)) :: (h_t_us, .inl (k_t_us, 10, .inl t_us)) :: (h_t_vs, .inl (k_t_vs, 10, .inl t_vs)) :: (h_t_ds, .inl (k_t_ds, 10, .inl t_ds)) :: R) := hD
                    refine lv_aload_n hx hb dX12_make_211 rfl (lv_at hl 0 rfl) ?_
                    refine lv_iload_n hx hb dX12_make_212 rfl (lv_at hl 1 rfl) ?_
                    obtain ⟨r_c213_64, t_has_c213_64, t_us_c213_64, t_vs_c213_64, t_ds_c213_64, e_c213_64, h⟩ := bnd5_ok h
                    refine cl_z (rn_v (ci := 12) (As := [.int l1]) (rest := []) S (c_X12_put l D (R) h_t (.int 0) (z_t_1) (z_t_2) (.int t_a) (.int t_b) (z_t_5) t_u_c208_63 t_v_c208_63 t_d_c208_63 (z_t_13) (z_t_14) (z_t_15) (z_t_16) (z_t_17) (z_t_18) (z_t_19) (z_t_20) (z_t_21) (z_t_22) (z_t_23) (z_t_24) (z_t_25) (z_t_26) (z_t_27) (z_t_28) (z_t_29) (z_t_30) (z_t_31) (z_t_32) (z_t_33) (z_t_34) (z_t_35) (z_t_36) (z_t_37) (z_t_38) (z_t_39) (z_t_40) (z_t_41) (z_t_42) (z_t_43) (z_t_44) (z_t_45) (z_t_46) (z_t_47) (z_t_48) (z_t_49) (z_t_50) (z_t_51) (z_t_52) (z_t_53) (z_t_54) (z_t_55) (z_t_56) (z_t_57) (z_t_58) (z_t_59) (z_t_60) h_t_has k_t_has t_has h_t_us k_t_us t_us h_t_vs k_t_vs t_vs h_t_ds k_t_ds t_ds l1 r_c213_64 t_has_c213_64 t_us_c213_64 t_vs_c213_64 t_ds_c213_64 e_c213_64 _) q1179 q1181 q28 q61 q1182 nd_X12_put ⟨Nat.le_of_ble_eq_true rfl, Nat.le_of_ble_eq_true rfl⟩ rfl rfl hP hD (hK.sub (tys' := [(k_t_has, .boolean), (k_t_us, .int), (k_t_vs, .int), (k_t_ds, .int)]) [0, 1, 2, 3] rfl) hN rfl ⟨0, _, rfl⟩ rfl hl.1 rfl (Nat.le_of_ble_eq_true rfl) dX12_make_213 ⟨Nat.le_of_ble_eq_true rfl, Nat.le_of_ble_eq_true rfl⟩) hS hA hD (fun H locs hP hD hS z_c213_64 => ?_)
                    have hP : va_P D vwCl ((h_t, .inr (12, (.int 0 :: z_t_1 :: z_t_2 :: .int t_a :: .int t_b :: z_t_5 :: .ref h_t_has :: .ref h_t_us :: .ref h_t_vs :: .ref h_t_ds :: .long t_u_c208_63 :: .long t_v_c208_63 :: .long t_d_c208_63 :: z_t_13 :: z_t_14 :: z_t_15 :: z_t_16 :: z_t_17 :: z_t_18 :: z_t_19 :: z_t_20 :: z_t_21 :: z_t_22 :: z_t_23 :: z_t_24 :: z_t_25 :: z_t_26 :: z_t_27 :: z_t_28 :: z_t_29 :: z_t_30 :: z_t_31 :: z_t_32 :: z_t_33 :: z_t_34 :: z_t_35 :: z_t_36 :: z_t_37 :: z_t_38 :: z_t_39 :: z_t_40 :: z_t_41 :: z_t_42 :: z_t_43 :: z_t_44 :: z_t_45 :: z_t_46 :: z_t_47 :: z_t_48 :: z_t_49 :: z_t_50 :: z_t_51 :: z_t_52 :: z_t_53 :: z_t_54 :: z_t_55 :: z_t_56 :: z_t_57 :: z_t_58 :: z_t_59 :: z_t_60 :: []))) :: (h_t_has, .inl (k_t_has, 10, .inl t_has_c213_64)) :: (h_t_us, .inl (k_t_us, 10, .inl t_us_c213_64)) :: (h_t_vs, .inl (k_t_vs, 10, .inl t_vs_c213_64)) :: (h_t_ds, .inl (k_t_ds, 10, .inl t_ds_c213_64)) :: R) H := hP
                    have hD : va_D A ((h_t, .inr (12, (.int 0 :: z_t_1 :: z_t_2 :: .int t_a :: .int t_b :: z_t_5 :: .ref h_t_has :: .ref h_t_us :: .ref h_t_vs :: .ref h_t_ds :: .long t_u_c208_63 :: .long t_v_c208_63 :: .long t_d_c208_63 :: z_t_13 :: z_t_14 :: z_t_15 :: z_t_16 :: z_t_17 :: z_t_18 :: z_t_19 :: z_t_20 :: z_t_21 :: z_t_22 :: z_t_23 :: z_t_24 :: z_t_25 :: z_t_26 :: z_t_27 :: z_t_28 :: z_t_29 :: z_t_30 :: z_t_31 :: z_t_32 :: z_t_33 :: z_t_34 :: z_t_35 :: z_t_36 :: z_t_37 :: z_t_38 :: z_t_39 :: z_t_40 :: z_t_41 :: z_t_42 :: z_t_43 :: z_t_44 :: z_t_45 :: z_t_46 :: z_t_47 :: z_t_48 :: z_t_49 :: z_t_50 :: z_t_51 :: z_t_52 :: z_t_53 :: z_t_54 :: z_t_55 :: z_t_56 :: z_t_57 :: z_t_58 :: z_t_59 :: z_t_60 :: []))) :: (h_t_has, .inl (k_t_has, 10, .inl t_has_c213_64)) :: (h_t_us, .inl (k_t_us, 10, .inl t_us_c213_64)) :: (h_t_vs, .inl (k_t_vs, 10, .inl t_vs_c213_64)) :: (h_t_ds, .inl (k_t_ds, 10, .inl t_ds_c213_64)) :: R) := hD
                    cases h
                    exact rt_z S hr hlk hP hD hS z_c213_64 dX12_make_216
                  · have h := br_pos c55 h
                    refine lv_aload_n hx hb dX12_make_158 rfl (lv_at hl 0 rfl) ?_
                    refine lv_aload_n hx hb dX12_make_159 rfl (lv_at hl 0 rfl) ?_
                    refine va_get (D := D) (ci := 12) (v := .ref h_t_us) (C := RX12) (T := TX12) (N := 61) hx hb ha ix12 hown hK hP 0 rfl rfl 7 (by decide) (ha _ q967) (fun _ h9 => h9) rfl dX12_make_160 ?_
                    refine lv_iload_n hx hb dX12_make_163 rfl (lv_at hl 3 rfl) ?_
                    obtain ⟨i56, h⟩ := ix_ok h
                    refine va_iald hx hb hK hP 2 1 rfl rfl i56 dX12_make_164 ?_
                    refine lv_i2l (v := (t_us l3.toNatClampNeg).toInt64) hx hb dX12_make_165 rfl ?_
                    refine lv_aload_n hx hb dX12_make_166 rfl (lv_at hl 0 rfl) ?_
                    refine va_get (D := D) (ci := 12) (v := .ref h_t_vs) (C := RX12) (T := TX12) (N := 61) hx hb ha ix12 hown hK hP 0 rfl rfl 8 (by decide) (ha _ q968) (fun _ h9 => h9) rfl dX12_make_167 ?_
                    refine lv_iload_n hx hb dX12_make_170 rfl (lv_at hl 3 rfl) ?_
                    obtain ⟨i57, h⟩ := ix_ok h
                    refine va_iald hx hb hK hP 3 2 rfl rfl i57 dX12_make_171 ?_
                    refine lv_i2l (v := (t_vs l3.toNatClampNeg).toInt64) hx hb dX12_make_172 rfl ?_
                    refine lv_aload_n hx hb dX12_make_173 rfl (lv_at hl 0 rfl) ?_
                    refine va_get (D := D) (ci := 12) (v := .ref h_t_ds) (C := RX12) (T := TX12) (N := 61) hx hb ha ix12 hown hK hP 0 rfl rfl 9 (by decide) (ha _ q969) (fun _ h9 => h9) rfl dX12_make_174 ?_
                    refine lv_iload_n hx hb dX12_make_177 rfl (lv_at hl 3 rfl) ?_
                    obtain ⟨i58, h⟩ := ix_ok h
                    refine va_iald hx hb hK hP 4 3 rfl rfl i58 dX12_make_178 ?_
                    refine lv_i2l (v := (t_ds l3.toNatClampNeg).toInt64) hx hb dX12_make_179 rfl ?_
                    obtain ⟨t_u_c180_58, t_v_c180_58, t_d_c180_58, e_c180_58, h⟩ := bnd3_ok h
                    refine cl_v (rn_v (ci := 12) (As := [.long (t_us l3.toNatClampNeg).toInt64, .long (t_vs l3.toNatClampNeg).toInt64, .long (t_ds l3.toNatClampNeg).toInt64]) (rest := []) S (c_X12_times l D ((h_t_has, .inl (k_t_has, 10, .inl t_has)) :: (h_t_us, .inl (k_t_us, 10, .inl t_us)) :: (h_t_vs, .inl (k_t_vs, 10, .inl t_vs)) :: (h_t_ds, .inl (k_t_ds, 10, .inl t_ds)) :: R) h_t (.int 0) (z_t_1) (z_t_2) t_a t_b (z_t_5) (.ref h_t_has) (.ref h_t_us) (.ref h_t_vs) (.ref h_t_ds) t_u_c80_41 t_v_c80_41 t_d_c80_41 (z_t_13) (z_t_14) (z_t_15) (z_t_16) (z_t_17) (z_t_18) (z_t_19) (z_t_20) (z_t_21) (z_t_22) (z_t_23) (z_t_24) (z_t_25) (z_t_26) (z_t_27) (z_t_28) (z_t_29) (z_t_30) (z_t_31) (z_t_32) (z_t_33) (z_t_34) (z_t_35) (z_t_36) (z_t_37) (z_t_38) (z_t_39) (z_t_40) (z_t_41) (z_t_42) (z_t_43) (z_t_44) (z_t_45) (z_t_46) (z_t_47) (z_t_48) (z_t_49) (z_t_50) (z_t_51) (z_t_52) (z_t_53) (z_t_54) (z_t_55) (z_t_56) (z_t_57) (z_t_58) (z_t_59) (z_t_60) ((t_us l3.toNatClampNeg).toInt64) ((t_vs l3.toNatClampNeg).toInt64) ((t_ds l3.toNatClampNeg).toInt64) t_u_c180_58 t_v_c180_58 t_d_c180_58 e_c180_58 _) q1202 q1204 q32 q61 q1205 nd_X12_times ⟨Nat.le_of_ble_eq_true rfl, Nat.le_of_ble_eq_true rfl⟩ rfl rfl hP hD (hK.sub (tys' := []) [] rfl) hN rfl ⟨0, _, rfl⟩ rfl hl.1 rfl (Nat.le_of_ble_eq_true rfl) dX12_make_180 ⟨Nat.le_of_ble_eq_true rfl, Nat.le_of_ble_eq_true rfl⟩) hS hA hD (fun H locs hP hD hS => ?_)
                    have hP : va_P D vwCl ((h_t, .inr (12, (.int 0 :: z_t_1 :: z_t_2 :: .int t_a :: .int t_b :: z_t_5 :: .ref h_t_has :: .ref h_t_us :: .ref h_t_vs :: .ref h_t_ds :: .long t_u_c180_58 :: .long t_v_c180_58 :: .long t_d_c180_58 :: z_t_13 :: z_t_14 :: z_t_15 :: z_t_16 :: z_t_17 :: z_t_18 :: z_t_19 :: z_t_20 :: z_t_21 :: z_t_22 :: z_t_23 :: z_t_24 :: z_t_25 :: z_t_26 :: z_t_27 :: z_t_28 :: z_t_29 :: z_t_30 :: z_t_31 :: z_t_32 :: z_t_33 :: z_t_34 :: z_t_35 :: z_t_36 :: z_t_37 :: z_t_38 :: z_t_39 :: z_t_40 :: z_t_41 :: z_t_42 :: z_t_43 :: z_t_44 :: z_t_45 :: z_t_46 :: z_t_47 :: z_t_48 :: z_t_49 :: z_t_50 :: z_t_51 :: z_t_52 :: z_t_53 :: z_t_54 :: z_t_55 :: z_t_56 :: z_t_57 :: z_t_58 :: z_t_59 :: z_t_60 :: []))) :: (h_t_has, .inl (k_t_has, 10, .inl t_has)) :: (h_t_us, .inl (k_t_us, 10, .inl t_us)) :: (h_t_vs, .inl (k_t_vs, 10, .inl t_vs)) :: (h_t_ds, .inl (k_t_ds, 10, .inl t_ds)) :: R) H := hP
                    have hD : va_D A ((h_t, .inr (12, (.int 0 :: z_t_1 :: z_t_2 :: .int t_a :: .int t_b :: z_t_5 :: .ref h_t_has :: .ref h_t_us :: .ref h_t_vs :: .ref h_t_ds :: .long t_u_c180_58 :: .long t_v_c180_58 :: .long t_d_c180_58 :: z_t_13 :: z_t_14 :: z_t_15 :: z_t_16 :: z_t_17 :: z_t_18 :: z_t_19 :: z_t_20 :: z_t_21 :: z_t_22 :: z_t_23 :: z_t_24 :: z_t_25 :: z_t_26 :: z_t_27 :: z_t_28 :: z_t_29 :: z_t_30 :: z_t_31 :: z_t_32 :: z_t_33 :: z_t_34 :: z_t_35 :: z_t_36 :: z_t_37 :: z_t_38 :: z_t_39 :: z_t_40 :: z_t_41 :: z_t_42 :: z_t_43 :: z_t_44 :: z_t_45 :: z_t_46 :: z_t_47 :: z_t_48 :: z_t_49 :: z_t_50 :: z_t_51 :: z_t_52 :: z_t_53 :: z_t_54 :: z_t_55 :: z_t_56 :: z_t_57 :: z_t_58 :: z_t_59 :: z_t_60 :: []))) :: (h_t_has, .inl (k_t_has, 10, .inl t_has)) :: (h_t_us, .inl (k_t_us, 10, .inl t_us)) :: (h_t_vs, .inl (k_t_vs, 10, .inl t_vs)) :: (h_t_ds, .inl (k_t_ds, 10, .inl t_ds)) :: R) := hD
                    refine lv_goto (tgt := 211) hx hb dX12_make_183 (by decide) ?_
                    refine lv_aload_n hx hb dX12_make_211 rfl (lv_at hl 0 rfl) ?_
                    refine lv_iload_n hx hb dX12_make_212 rfl (lv_at hl 1 rfl) ?_
                    obtain ⟨r_c213_59, t_has_c213_59, t_us_c213_59, t_vs_c213_59, t_ds_c213_59, e_c213_59, h⟩ := bnd5_ok h
                    refine cl_z (rn_v (ci := 12) (As := [.int l1]) (rest := []) S (c_X12_put l D (R) h_t (.int 0) (z_t_1) (z_t_2) (.int t_a) (.int t_b) (z_t_5) t_u_c180_58 t_v_c180_58 t_d_c180_58 (z_t_13) (z_t_14) (z_t_15) (z_t_16) (z_t_17) (z_t_18) (z_t_19) (z_t_20) (z_t_21) (z_t_22) (z_t_23) (z_t_24) (z_t_25) (z_t_26) (z_t_27) (z_t_28) (z_t_29) (z_t_30) (z_t_31) (z_t_32) (z_t_33) (z_t_34) (z_t_35) (z_t_36) (z_t_37) (z_t_38) (z_t_39) (z_t_40) (z_t_41) (z_t_42) (z_t_43) (z_t_44) (z_t_45) (z_t_46) (z_t_47) (z_t_48) (z_t_49) (z_t_50) (z_t_51) (z_t_52) (z_t_53) (z_t_54) (z_t_55) (z_t_56) (z_t_57) (z_t_58) (z_t_59) (z_t_60) h_t_has k_t_has t_has h_t_us k_t_us t_us h_t_vs k_t_vs t_vs h_t_ds k_t_ds t_ds l1 r_c213_59 t_has_c213_59 t_us_c213_59 t_vs_c213_59 t_ds_c213_59 e_c213_59 _) q1179 q1181 q28 q61 q1182 nd_X12_put ⟨Nat.le_of_ble_eq_true rfl, Nat.le_of_ble_eq_true rfl⟩ rfl rfl hP hD (hK.sub (tys' := [(k_t_has, .boolean), (k_t_us, .int), (k_t_vs, .int), (k_t_ds, .int)]) [0, 1, 2, 3] rfl) hN rfl ⟨0, _, rfl⟩ rfl hl.1 rfl (Nat.le_of_ble_eq_true rfl) dX12_make_213 ⟨Nat.le_of_ble_eq_true rfl, Nat.le_of_ble_eq_true rfl⟩) hS hA hD (fun H locs hP hD hS z_c213_59 => ?_)
                    have hP : va_P D vwCl ((h_t, .inr (12, (.int 0 :: z_t_1 :: z_t_2 :: .int t_a :: .int t_b :: z_t_5 :: .ref h_t_has :: .ref h_t_us :: .ref h_t_vs :: .ref h_t_ds :: .long t_u_c180_58 :: .long t_v_c180_58 :: .long t_d_c180_58 :: z_t_13 :: z_t_14 :: z_t_15 :: z_t_16 :: z_t_17 :: z_t_18 :: z_t_19 :: z_t_20 :: z_t_21 :: z_t_22 :: z_t_23 :: z_t_24 :: z_t_25 :: z_t_26 :: z_t_27 :: z_t_28 :: z_t_29 :: z_t_30 :: z_t_31 :: z_t_32 :: z_t_33 :: z_t_34 :: z_t_35 :: z_t_36 :: z_t_37 :: z_t_38 :: z_t_39 :: z_t_40 :: z_t_41 :: z_t_42 :: z_t_43 :: z_t_44 :: z_t_45 :: z_t_46 :: z_t_47 :: z_t_48 :: z_t_49 :: z_t_50 :: z_t_51 :: z_t_52 :: z_t_53 :: z_t_54 :: z_t_55 :: z_t_56 :: z_t_57 :: z_t_58 :: z_t_59 :: z_t_60 :: []))) :: (h_t_has, .inl (k_t_has, 10, .inl t_has_c213_59)) :: (h_t_us, .inl (k_t_us, 10, .inl t_us_c213_59)) :: (h_t_vs, .inl (k_t_vs, 10, .inl t_vs_c213_59)) :: (h_t_ds, .inl (k_t_ds, 10, .inl t_ds_c213_59)) :: R) H := hP
                    have hD : va_D A ((h_t, .inr (12, (.int 0 :: z_t_1 :: z_t_2 :: .int t_a :: .int t_b :: z_t_5 :: .ref h_t_has :: .ref h_t_us :: .ref h_t_vs :: .ref h_t_ds :: .long t_u_c180_58 :: .long t_v_c180_58 :: .long t_d_c180_58 :: z_t_13 :: z_t_14 :: z_t_15 :: z_t_16 :: z_t_17 :: z_t_18 :: z_t_19 :: z_t_20 :: z_t_21 :: z_t_22 :: z_t_23 :: z_t_24 :: z_t_25 :: z_t_26 :: z_t_27 :: z_t_28 :: z_t_29 :: z_t_30 :: z_t_31 :: z_t_32 :: z_t_33 :: z_t_34 :: z_t_35 :: z_t_36 :: z_t_37 :: z_t_38 :: z_t_39 :: z_t_40 :: z_t_41 :: z_t_42 :: z_t_43 :: z_t_44 :: z_t_45 :: z_t_46 :: z_t_47 :: z_t_48 :: z_t_49 :: z_t_50 :: z_t_51 :: z_t_52 :: z_t_53 :: z_t_54 :: z_t_55 :: z_t_56 :: z_t_57 :: z_t_58 :: z_t_59 :: z_t_60 :: []))) :: (h_t_has, .inl (k_t_has, 10, .inl t_has_c213_59)) :: (h_t_us, .inl (k_t_us, 10, .inl t_us_c213_59)) :: (h_t_vs, .inl (k_t_vs, 10, .inl t_vs_c213_59)) :: (h_t_ds, .inl (k_t_ds, 10, .inl t_ds_c213_59)) :: R) := hD
                    cases h
                    exact rt_z S hr hlk hP hD hS z_c213_59 dX12_make_216
                · have h := br_pos c49 h
                  refine lv_aload_n hx hb dX12_make_122 rfl (lv_at hl 0 rfl) ?_
                  refine lv_aload_n hx hb dX12_make_123 rfl (lv_at hl 0 rfl) ?_
                  refine va_get (D := D) (ci := 12) (v := .ref h_t_us) (C := RX12) (T := TX12) (N := 61) hx hb ha ix12 hown hK hP 0 rfl rfl 7 (by decide) (ha _ q967) (fun _ h9 => h9) rfl dX12_make_124 ?_
                  refine lv_iload_n hx hb dX12_make_127 rfl (lv_at hl 3 rfl) ?_
                  obtain ⟨i50, h⟩ := ix_ok h
                  refine va_iald hx hb hK hP 2 1 rfl rfl i50 dX12_make_128 ?_
                  refine lv_ineg hx hb dX12_make_129 ?_
                  refine lv_i2l (v := (-(t_us l3.toNatClampNeg)).toInt64) hx hb dX12_make_130 rfl ?_
                  refine lv_aload_n hx hb dX12_make_131 rfl (lv_at hl 0 rfl) ?_
                  refine va_get (D := D) (ci := 12) (v := .ref h_t_vs) (C := RX12) (T := TX12) (N := 61) hx hb ha ix12 hown hK hP 0 rfl rfl 8 (by decide) (ha _ q968) (fun _ h9 => h9) rfl dX12_make_132 ?_
                  refine lv_iload_n hx hb dX12_make_135 rfl (lv_at hl 3 rfl) ?_
                  obtain ⟨i51, h⟩ := ix_ok h
                  refine va_iald hx hb hK hP 3 2 rfl rfl i51 dX12_make_136 ?_
                  refine lv_ineg hx hb dX12_make_137 ?_
                  refine lv_i2l (v := (-(t_vs l3.toNatClampNeg)).toInt64) hx hb dX12_make_138 rfl ?_
                  refine lv_aload_n hx hb dX12_make_139 rfl (lv_at hl 0 rfl) ?_
                  refine va_get (D := D) (ci := 12) (v := .ref h_t_ds) (C := RX12) (T := TX12) (N := 61) hx hb ha ix12 hown hK hP 0 rfl rfl 9 (by decide) (ha _ q969) (fun _ h9 => h9) rfl dX12_make_140 ?_
                  refine lv_iload_n hx hb dX12_make_143 rfl (lv_at hl 3 rfl) ?_
                  obtain ⟨i52, h⟩ := ix_ok h
                  refine va_iald hx hb hK hP 4 3 rfl rfl i52 dX12_make_144 ?_
                  refine lv_i2l (v := (t_ds l3.toNatClampNeg).toInt64) hx hb dX12_make_145 rfl ?_
                  obtain ⟨t_u_c146_52, t_v_c146_52, t_d_c146_52, e_c146_52, h⟩ := bnd3_ok h
                  refine cl_v (rn_v (ci := 12) (As := [.long (-(t_us l3.toNatClampNeg)).toInt64, .long (-(t_vs l3.toNatClampNeg)).toInt64, .long (t_ds l3.toNatClampNeg).toInt64]) (rest := []) S (c_X12_plus l D ((h_t_has, .inl (k_t_has, 10, .inl t_has)) :: (h_t_us, .inl (k_t_us, 10, .inl t_us)) :: (h_t_vs, .inl (k_t_vs, 10, .inl t_vs)) :: (h_t_ds, .inl (k_t_ds, 10, .inl t_ds)) :: R) h_t (.int 0) (z_t_1) (z_t_2) (.int t_a) (.int t_b) (z_t_5) (.ref h_t_has) (.ref h_t_us) (.ref h_t_vs) (.ref h_t_ds) t_u_c80_41 t_v_c80_41 t_d_c80_41 (z_t_13) (z_t_14) (z_t_15) (z_t_16) (z_t_17) (z_t_18) (z_t_19) (z_t_20) (z_t_21) (z_t_22) (z_t_23) (z_t_24) (z_t_25) (z_t_26) (z_t_27) (z_t_28) (z_t_29) (z_t_30) (z_t_31) (z_t_32) (z_t_33) (z_t_34) (z_t_35) (z_t_36) (z_t_37) (z_t_38) (z_t_39) (z_t_40) (z_t_41) (z_t_42) (z_t_43) (z_t_44) (z_t_45) (z_t_46) (z_t_47) (z_t_48) (z_t_49) (z_t_50) (z_t_51) (z_t_52) (z_t_53) (z_t_54) (z_t_55) (z_t_56) (z_t_57) (z_t_58) (z_t_59) (z_t_60) ((-(t_us l3.toNatClampNeg)).toInt64) ((-(t_vs l3.toNatClampNeg)).toInt64) ((t_ds l3.toNatClampNeg).toInt64) t_u_c146_52 t_v_c146_52 t_d_c146_52 e_c146_52 _) q1198 q1200 q31 q61 q1201 nd_X12_plus ⟨Nat.le_of_ble_eq_true rfl, Nat.le_of_ble_eq_true rfl⟩ rfl rfl hP hD (hK.sub (tys' := []) [] rfl) hN rfl ⟨0, _, rfl⟩ rfl hl.1 rfl (Nat.le_of_ble_eq_true rfl) dX12_make_146 ⟨Nat.le_of_ble_eq_true rfl, Nat.le_of_ble_eq_true rfl⟩) hS hA hD (fun H locs hP hD hS => ?_)
                  have hP : va_P D vwCl ((h_t, .inr (12, (.int 0 :: z_t_1 :: z_t_2 :: .int t_a :: .int t_b :: z_t_5 :: .ref h_t_has :: .ref h_t_us :: .ref h_t_vs :: .ref h_t_ds :: .long t_u_c146_52 :: .long t_v_c146_52 :: .long t_d_c146_52 :: z_t_13 :: z_t_14 :: z_t_15 :: z_t_16 :: z_t_17 :: z_t_18 :: z_t_19 :: z_t_20 :: z_t_21 :: z_t_22 :: z_t_23 :: z_t_24 :: z_t_25 :: z_t_26 :: z_t_27 :: z_t_28 :: z_t_29 :: z_t_30 :: z_t_31 :: z_t_32 :: z_t_33 :: z_t_34 :: z_t_35 :: z_t_36 :: z_t_37 :: z_t_38 :: z_t_39 :: z_t_40 :: z_t_41 :: z_t_42 :: z_t_43 :: z_t_44 :: z_t_45 :: z_t_46 :: z_t_47 :: z_t_48 :: z_t_49 :: z_t_50 :: z_t_51 :: z_t_52 :: z_t_53 :: z_t_54 :: z_t_55 :: z_t_56 :: z_t_57 :: z_t_58 :: z_t_59 :: z_t_60 :: []))) :: (h_t_has, .inl (k_t_has, 10, .inl t_has)) :: (h_t_us, .inl (k_t_us, 10, .inl t_us)) :: (h_t_vs, .inl (k_t_vs, 10, .inl t_vs)) :: (h_t_ds, .inl (k_t_ds, 10, .inl t_ds)) :: R) H := hP
                  have hD : va_D A ((h_t, .inr (12, (.int 0 :: z_t_1 :: z_t_2 :: .int t_a :: .int t_b :: z_t_5 :: .ref h_t_has :: .ref h_t_us :: .ref h_t_vs :: .ref h_t_ds :: .long t_u_c146_52 :: .long t_v_c146_52 :: .long t_d_c146_52 :: z_t_13 :: z_t_14 :: z_t_15 :: z_t_16 :: z_t_17 :: z_t_18 :: z_t_19 :: z_t_20 :: z_t_21 :: z_t_22 :: z_t_23 :: z_t_24 :: z_t_25 :: z_t_26 :: z_t_27 :: z_t_28 :: z_t_29 :: z_t_30 :: z_t_31 :: z_t_32 :: z_t_33 :: z_t_34 :: z_t_35 :: z_t_36 :: z_t_37 :: z_t_38 :: z_t_39 :: z_t_40 :: z_t_41 :: z_t_42 :: z_t_43 :: z_t_44 :: z_t_45 :: z_t_46 :: z_t_47 :: z_t_48 :: z_t_49 :: z_t_50 :: z_t_51 :: z_t_52 :: z_t_53 :: z_t_54 :: z_t_55 :: z_t_56 :: z_t_57 :: z_t_58 :: z_t_59 :: z_t_60 :: []))) :: (h_t_has, .inl (k_t_has, 10, .inl t_has)) :: (h_t_us, .inl (k_t_us, 10, .inl t_us)) :: (h_t_vs, .inl (k_t_vs, 10, .inl t_vs)) :: (h_t_ds, .inl (k_t_ds, 10, .inl t_ds)) :: R) := hD
                  refine lv_goto (tgt := 211) hx hb dX12_make_149 (by decide) ?_
                  refine lv_aload_n hx hb dX12_make_211 rfl (lv_at hl 0 rfl) ?_
                  refine lv_iload_n hx hb dX12_make_212 rfl (lv_at hl 1 rfl) ?_
                  obtain ⟨r_c213_53, t_has_c213_53, t_us_c213_53, t_vs_c213_53, t_ds_c213_53, e_c213_53, h⟩ := bnd5_ok h
                  refine cl_z (rn_v (ci := 12) (As := [.int l1]) (rest := []) S (c_X12_put l D (R) h_t (.int 0) (z_t_1) (z_t_2) (.int t_a) (.int t_b) (z_t_5) t_u_c146_52 t_v_c146_52 t_d_c146_52 (z_t_13) (z_t_14) (z_t_15) (z_t_16) (z_t_17) (z_t_18) (z_t_19) (z_t_20) (z_t_21) (z_t_22) (z_t_23) (z_t_24) (z_t_25) (z_t_26) (z_t_27) (z_t_28) (z_t_29) (z_t_30) (z_t_31) (z_t_32) (z_t_33) (z_t_34) (z_t_35) (z_t_36) (z_t_37) (z_t_38) (z_t_39) (z_t_40) (z_t_41) (z_t_42) (z_t_43) (z_t_44) (z_t_45) (z_t_46) (z_t_47) (z_t_48) (z_t_49) (z_t_50) (z_t_51) (z_t_52) (z_t_53) (z_t_54) (z_t_55) (z_t_56) (z_t_57) (z_t_58) (z_t_59) (z_t_60) h_t_has k_t_has t_has h_t_us k_t_us t_us h_t_vs k_t_vs t_vs h_t_ds k_t_ds t_ds l1 r_c213_53 t_has_c213_53 t_us_c213_53 t_vs_c213_53 t_ds_c213_53 e_c213_53 _) q1179 q1181 q28 q61 q1182 nd_X12_put ⟨Nat.le_of_ble_eq_true rfl, Nat.le_of_ble_eq_true rfl⟩ rfl rfl hP hD (hK.sub (tys' := [(k_t_has, .boolean), (k_t_us, .int), (k_t_vs, .int), (k_t_ds, .int)]) [0, 1, 2, 3] rfl) hN rfl ⟨0, _, rfl⟩ rfl hl.1 rfl (Nat.le_of_ble_eq_true rfl) dX12_make_213 ⟨Nat.le_of_ble_eq_true rfl, Nat.le_of_ble_eq_true rfl⟩) hS hA hD (fun H locs hP hD hS z_c213_53 => ?_)
                  have hP : va_P D vwCl ((h_t, .inr (12, (.int 0 :: z_t_1 :: z_t_2 :: .int t_a :: .int t_b :: z_t_5 :: .ref h_t_has :: .ref h_t_us :: .ref h_t_vs :: .ref h_t_ds :: .long t_u_c146_52 :: .long t_v_c146_52 :: .long t_d_c146_52 :: z_t_13 :: z_t_14 :: z_t_15 :: z_t_16 :: z_t_17 :: z_t_18 :: z_t_19 :: z_t_20 :: z_t_21 :: z_t_22 :: z_t_23 :: z_t_24 :: z_t_25 :: z_t_26 :: z_t_27 :: z_t_28 :: z_t_29 :: z_t_30 :: z_t_31 :: z_t_32 :: z_t_33 :: z_t_34 :: z_t_35 :: z_t_36 :: z_t_37 :: z_t_38 :: z_t_39 :: z_t_40 :: z_t_41 :: z_t_42 :: z_t_43 :: z_t_44 :: z_t_45 :: z_t_46 :: z_t_47 :: z_t_48 :: z_t_49 :: z_t_50 :: z_t_51 :: z_t_52 :: z_t_53 :: z_t_54 :: z_t_55 :: z_t_56 :: z_t_57 :: z_t_58 :: z_t_59 :: z_t_60 :: []))) :: (h_t_has, .inl (k_t_has, 10, .inl t_has_c213_53)) :: (h_t_us, .inl (k_t_us, 10, .inl t_us_c213_53)) :: (h_t_vs, .inl (k_t_vs, 10, .inl t_vs_c213_53)) :: (h_t_ds, .inl (k_t_ds, 10, .inl t_ds_c213_53)) :: R) H := hP
                  have hD : va_D A ((h_t, .inr (12, (.int 0 :: z_t_1 :: z_t_2 :: .int t_a :: .int t_b :: z_t_5 :: .ref h_t_has :: .ref h_t_us :: .ref h_t_vs :: .ref h_t_ds :: .long t_u_c146_52 :: .long t_v_c146_52 :: .long t_d_c146_52 :: z_t_13 :: z_t_14 :: z_t_15 :: z_t_16 :: z_t_17 :: z_t_18 :: z_t_19 :: z_t_20 :: z_t_21 :: z_t_22 :: z_t_23 :: z_t_24 :: z_t_25 :: z_t_26 :: z_t_27 :: z_t_28 :: z_t_29 :: z_t_30 :: z_t_31 :: z_t_32 :: z_t_33 :: z_t_34 :: z_t_35 :: z_t_36 :: z_t_37 :: z_t_38 :: z_t_39 :: z_t_40 :: z_t_41 :: z_t_42 :: z_t_43 :: z_t_44 :: z_t_45 :: z_t_46 :: z_t_47 :: z_t_48 :: z_t_49 :: z_t_50 :: z_t_51 :: z_t_52 :: z_t_53 :: z_t_54 :: z_t_55 :: z_t_56 :: z_t_57 :: z_t_58 :: z_t_59 :: z_t_60 :: []))) :: (h_t_has, .inl (k_t_has, 10, .inl t_has_c213_53)) :: (h_t_us, .inl (k_t_us, 10, .inl t_us_c213_53)) :: (h_t_vs, .inl (k_t_vs, 10, .inl t_vs_c213_53)) :: (h_t_ds, .inl (k_t_ds, 10, .inl t_ds_c213_53)) :: R) := hD
                  cases h
                  exact rt_z S hr hlk hP hD hS z_c213_53 dX12_make_216
              · have h := br_pos c43 h
                refine lv_aload_n hx hb dX12_make_88 rfl (lv_at hl 0 rfl) ?_
                refine lv_aload_n hx hb dX12_make_89 rfl (lv_at hl 0 rfl) ?_
                refine va_get (D := D) (ci := 12) (v := .ref h_t_us) (C := RX12) (T := TX12) (N := 61) hx hb ha ix12 hown hK hP 0 rfl rfl 7 (by decide) (ha _ q967) (fun _ h9 => h9) rfl dX12_make_90 ?_
                refine lv_iload_n hx hb dX12_make_93 rfl (lv_at hl 3 rfl) ?_
                obtain ⟨i44, h⟩ := ix_ok h
                refine va_iald hx hb hK hP 2 1 rfl rfl i44 dX12_make_94 ?_
                refine lv_i2l (v := (t_us l3.toNatClampNeg).toInt64) hx hb dX12_make_95 rfl ?_
                refine lv_aload_n hx hb dX12_make_96 rfl (lv_at hl 0 rfl) ?_
                refine va_get (D := D) (ci := 12) (v := .ref h_t_vs) (C := RX12) (T := TX12) (N := 61) hx hb ha ix12 hown hK hP 0 rfl rfl 8 (by decide) (ha _ q968) (fun _ h9 => h9) rfl dX12_make_97 ?_
                refine lv_iload_n hx hb dX12_make_100 rfl (lv_at hl 3 rfl) ?_
                obtain ⟨i45, h⟩ := ix_ok h
                refine va_iald hx hb hK hP 3 2 rfl rfl i45 dX12_make_101 ?_
                refine lv_i2l (v := (t_vs l3.toNatClampNeg).toInt64) hx hb dX12_make_102 rfl ?_
                refine lv_aload_n hx hb dX12_make_103 rfl (lv_at hl 0 rfl) ?_
                refine va_get (D := D) (ci := 12) (v := .ref h_t_ds) (C := RX12) (T := TX12) (N := 61) hx hb ha ix12 hown hK hP 0 rfl rfl 9 (by decide) (ha _ q969) (fun _ h9 => h9) rfl dX12_make_104 ?_
                refine lv_iload_n hx hb dX12_make_107 rfl (lv_at hl 3 rfl) ?_
                obtain ⟨i46, h⟩ := ix_ok h
                refine va_iald hx hb hK hP 4 3 rfl rfl i46 dX12_make_108 ?_
                refine lv_i2l (v := (t_ds l3.toNatClampNeg).toInt64) hx hb dX12_make_109 rfl ?_
                obtain ⟨t_u_c110_46, t_v_c110_46, t_d_c110_46, e_c110_46, h⟩ := bnd3_ok h
                refine cl_v (rn_v (ci := 12) (As := [.long (t_us l3.toNatClampNeg).toInt64, .long (t_vs l3.toNatClampNeg).toInt64, .long (t_ds l3.toNatClampNeg).toInt64]) (rest := []) S (c_X12_plus l D ((h_t_has, .inl (k_t_has, 10, .inl t_has)) :: (h_t_us, .inl (k_t_us, 10, .inl t_us)) :: (h_t_vs, .inl (k_t_vs, 10, .inl t_vs)) :: (h_t_ds, .inl (k_t_ds, 10, .inl t_ds)) :: R) h_t (.int 0) (z_t_1) (z_t_2) (.int t_a) (.int t_b) (z_t_5) (.ref h_t_has) (.ref h_t_us) (.ref h_t_vs) (.ref h_t_ds) t_u_c80_41 t_v_c80_41 t_d_c80_41 (z_t_13) (z_t_14) (z_t_15) (z_t_16) (z_t_17) (z_t_18) (z_t_19) (z_t_20) (z_t_21) (z_t_22) (z_t_23) (z_t_24) (z_t_25) (z_t_26) (z_t_27) (z_t_28) (z_t_29) (z_t_30) (z_t_31) (z_t_32) (z_t_33) (z_t_34) (z_t_35) (z_t_36) (z_t_37) (z_t_38) (z_t_39) (z_t_40) (z_t_41) (z_t_42) (z_t_43) (z_t_44) (z_t_45) (z_t_46) (z_t_47) (z_t_48) (z_t_49) (z_t_50) (z_t_51) (z_t_52) (z_t_53) (z_t_54) (z_t_55) (z_t_56) (z_t_57) (z_t_58) (z_t_59) (z_t_60) ((t_us l3.toNatClampNeg).toInt64) ((t_vs l3.toNatClampNeg).toInt64) ((t_ds l3.toNatClampNeg).toInt64) t_u_c110_46 t_v_c110_46 t_d_c110_46 e_c110_46 _) q1198 q1200 q31 q61 q1201 nd_X12_plus ⟨Nat.le_of_ble_eq_true rfl, Nat.le_of_ble_eq_true rfl⟩ rfl rfl hP hD (hK.sub (tys' := []) [] rfl) hN rfl ⟨0, _, rfl⟩ rfl hl.1 rfl (Nat.le_of_ble_eq_true rfl) dX12_make_110 ⟨Nat.le_of_ble_eq_true rfl, Nat.le_of_ble_eq_true rfl⟩) hS hA hD (fun H locs hP hD hS => ?_)
                have hP : va_P D vwCl ((h_t, .inr (12, (.int 0 :: z_t_1 :: z_t_2 :: .int t_a :: .int t_b :: z_t_5 :: .ref h_t_has :: .ref h_t_us :: .ref h_t_vs :: .ref h_t_ds :: .long t_u_c110_46 :: .long t_v_c110_46 :: .long t_d_c110_46 :: z_t_13 :: z_t_14 :: z_t_15 :: z_t_16 :: z_t_17 :: z_t_18 :: z_t_19 :: z_t_20 :: z_t_21 :: z_t_22 :: z_t_23 :: z_t_24 :: z_t_25 :: z_t_26 :: z_t_27 :: z_t_28 :: z_t_29 :: z_t_30 :: z_t_31 :: z_t_32 :: z_t_33 :: z_t_34 :: z_t_35 :: z_t_36 :: z_t_37 :: z_t_38 :: z_t_39 :: z_t_40 :: z_t_41 :: z_t_42 :: z_t_43 :: z_t_44 :: z_t_45 :: z_t_46 :: z_t_47 :: z_t_48 :: z_t_49 :: z_t_50 :: z_t_51 :: z_t_52 :: z_t_53 :: z_t_54 :: z_t_55 :: z_t_56 :: z_t_57 :: z_t_58 :: z_t_59 :: z_t_60 :: []))) :: (h_t_has, .inl (k_t_has, 10, .inl t_has)) :: (h_t_us, .inl (k_t_us, 10, .inl t_us)) :: (h_t_vs, .inl (k_t_vs, 10, .inl t_vs)) :: (h_t_ds, .inl (k_t_ds, 10, .inl t_ds)) :: R) H := hP
                have hD : va_D A ((h_t, .inr (12, (.int 0 :: z_t_1 :: z_t_2 :: .int t_a :: .int t_b :: z_t_5 :: .ref h_t_has :: .ref h_t_us :: .ref h_t_vs :: .ref h_t_ds :: .long t_u_c110_46 :: .long t_v_c110_46 :: .long t_d_c110_46 :: z_t_13 :: z_t_14 :: z_t_15 :: z_t_16 :: z_t_17 :: z_t_18 :: z_t_19 :: z_t_20 :: z_t_21 :: z_t_22 :: z_t_23 :: z_t_24 :: z_t_25 :: z_t_26 :: z_t_27 :: z_t_28 :: z_t_29 :: z_t_30 :: z_t_31 :: z_t_32 :: z_t_33 :: z_t_34 :: z_t_35 :: z_t_36 :: z_t_37 :: z_t_38 :: z_t_39 :: z_t_40 :: z_t_41 :: z_t_42 :: z_t_43 :: z_t_44 :: z_t_45 :: z_t_46 :: z_t_47 :: z_t_48 :: z_t_49 :: z_t_50 :: z_t_51 :: z_t_52 :: z_t_53 :: z_t_54 :: z_t_55 :: z_t_56 :: z_t_57 :: z_t_58 :: z_t_59 :: z_t_60 :: []))) :: (h_t_has, .inl (k_t_has, 10, .inl t_has)) :: (h_t_us, .inl (k_t_us, 10, .inl t_us)) :: (h_t_vs, .inl (k_t_vs, 10, .inl t_vs)) :: (h_t_ds, .inl (k_t_ds, 10, .inl t_ds)) :: R) := hD
                refine lv_goto (tgt := 211) hx hb dX12_make_113 (by decide) ?_
                refine lv_aload_n hx hb dX12_make_211 rfl (lv_at hl 0 rfl) ?_
                refine lv_iload_n hx hb dX12_make_212 rfl (lv_at hl 1 rfl) ?_
                obtain ⟨r_c213_47, t_has_c213_47, t_us_c213_47, t_vs_c213_47, t_ds_c213_47, e_c213_47, h⟩ := bnd5_ok h
                refine cl_z (rn_v (ci := 12) (As := [.int l1]) (rest := []) S (c_X12_put l D (R) h_t (.int 0) (z_t_1) (z_t_2) (.int t_a) (.int t_b) (z_t_5) t_u_c110_46 t_v_c110_46 t_d_c110_46 (z_t_13) (z_t_14) (z_t_15) (z_t_16) (z_t_17) (z_t_18) (z_t_19) (z_t_20) (z_t_21) (z_t_22) (z_t_23) (z_t_24) (z_t_25) (z_t_26) (z_t_27) (z_t_28) (z_t_29) (z_t_30) (z_t_31) (z_t_32) (z_t_33) (z_t_34) (z_t_35) (z_t_36) (z_t_37) (z_t_38) (z_t_39) (z_t_40) (z_t_41) (z_t_42) (z_t_43) (z_t_44) (z_t_45) (z_t_46) (z_t_47) (z_t_48) (z_t_49) (z_t_50) (z_t_51) (z_t_52) (z_t_53) (z_t_54) (z_t_55) (z_t_56) (z_t_57) (z_t_58) (z_t_59) (z_t_60) h_t_has k_t_has t_has h_t_us k_t_us t_us h_t_vs k_t_vs t_vs h_t_ds k_t_ds t_ds l1 r_c213_47 t_has_c213_47 t_us_c213_47 t_vs_c213_47 t_ds_c213_47 e_c213_47 _) q1179 q1181 q28 q61 q1182 nd_X12_put ⟨Nat.le_of_ble_eq_true rfl, Nat.le_of_ble_eq_true rfl⟩ rfl rfl hP hD (hK.sub (tys' := [(k_t_has, .boolean), (k_t_us, .int), (k_t_vs, .int), (k_t_ds, .int)]) [0, 1, 2, 3] rfl) hN rfl ⟨0, _, rfl⟩ rfl hl.1 rfl (Nat.le_of_ble_eq_true rfl) dX12_make_213 ⟨Nat.le_of_ble_eq_true rfl, Nat.le_of_ble_eq_true rfl⟩) hS hA hD (fun H locs hP hD hS z_c213_47 => ?_)
                have hP : va_P D vwCl ((h_t, .inr (12, (.int 0 :: z_t_1 :: z_t_2 :: .int t_a :: .int t_b :: z_t_5 :: .ref h_t_has :: .ref h_t_us :: .ref h_t_vs :: .ref h_t_ds :: .long t_u_c110_46 :: .long t_v_c110_46 :: .long t_d_c110_46 :: z_t_13 :: z_t_14 :: z_t_15 :: z_t_16 :: z_t_17 :: z_t_18 :: z_t_19 :: z_t_20 :: z_t_21 :: z_t_22 :: z_t_23 :: z_t_24 :: z_t_25 :: z_t_26 :: z_t_27 :: z_t_28 :: z_t_29 :: z_t_30 :: z_t_31 :: z_t_32 :: z_t_33 :: z_t_34 :: z_t_35 :: z_t_36 :: z_t_37 :: z_t_38 :: z_t_39 :: z_t_40 :: z_t_41 :: z_t_42 :: z_t_43 :: z_t_44 :: z_t_45 :: z_t_46 :: z_t_47 :: z_t_48 :: z_t_49 :: z_t_50 :: z_t_51 :: z_t_52 :: z_t_53 :: z_t_54 :: z_t_55 :: z_t_56 :: z_t_57 :: z_t_58 :: z_t_59 :: z_t_60 :: []))) :: (h_t_has, .inl (k_t_has, 10, .inl t_has_c213_47)) :: (h_t_us, .inl (k_t_us, 10, .inl t_us_c213_47)) :: (h_t_vs, .inl (k_t_vs, 10, .inl t_vs_c213_47)) :: (h_t_ds, .inl (k_t_ds, 10, .inl t_ds_c213_47)) :: R) H := hP
                have hD : va_D A ((h_t, .inr (12, (.int 0 :: z_t_1 :: z_t_2 :: .int t_a :: .int t_b :: z_t_5 :: .ref h_t_has :: .ref h_t_us :: .ref h_t_vs :: .ref h_t_ds :: .long t_u_c110_46 :: .long t_v_c110_46 :: .long t_d_c110_46 :: z_t_13 :: z_t_14 :: z_t_15 :: z_t_16 :: z_t_17 :: z_t_18 :: z_t_19 :: z_t_20 :: z_t_21 :: z_t_22 :: z_t_23 :: z_t_24 :: z_t_25 :: z_t_26 :: z_t_27 :: z_t_28 :: z_t_29 :: z_t_30 :: z_t_31 :: z_t_32 :: z_t_33 :: z_t_34 :: z_t_35 :: z_t_36 :: z_t_37 :: z_t_38 :: z_t_39 :: z_t_40 :: z_t_41 :: z_t_42 :: z_t_43 :: z_t_44 :: z_t_45 :: z_t_46 :: z_t_47 :: z_t_48 :: z_t_49 :: z_t_50 :: z_t_51 :: z_t_52 :: z_t_53 :: z_t_54 :: z_t_55 :: z_t_56 :: z_t_57 :: z_t_58 :: z_t_59 :: z_t_60 :: []))) :: (h_t_has, .inl (k_t_has, 10, .inl t_has_c213_47)) :: (h_t_us, .inl (k_t_us, 10, .inl t_us_c213_47)) :: (h_t_vs, .inl (k_t_vs, 10, .inl t_vs_c213_47)) :: (h_t_ds, .inl (k_t_ds, 10, .inl t_ds_c213_47)) :: R) := hD
                cases h
                exact rt_z S hr hlk hP hD hS z_c213_47 dX12_make_216
            · have h := br_pos c9 h
              refine lv_aload_n hx hb dX12_make_47 rfl (lv_at hl 0 rfl) ?_
              refine va_get (D := D) (ci := 12) (v := .ref h_t_vs) (C := RX12) (T := TX12) (N := 61) hx hb ha ix12 hown hK hP 0 rfl rfl 8 (by decide) (ha _ q968) (fun _ h9 => h9) rfl dX12_make_48 ?_
              refine lv_iload_n hx hb dX12_make_51 rfl (lv_at hl 3 rfl) ?_
              obtain ⟨i10, h⟩ := ix_ok h
              refine va_iald hx hb hK hP 3 2 rfl rfl i10 dX12_make_52 ?_
              refine lv_if_ne (tgt := 58) hx hb dX12_make_53 (by decide) (fun c11 => ?_) (fun c11 => ?_)
              · have h := br_neg c11 h
                refine lv_aload_n hx hb dX12_make_58 rfl (lv_at hl 0 rfl) ?_
                refine lv_aload_n hx hb dX12_make_59 rfl (lv_at hl 0 rfl) ?_
                refine va_get (D := D) (ci := 12) (v := .ref h_t_us) (C := RX12) (T := TX12) (N := 61) hx hb ha ix12 hown hK hP 0 rfl rfl 7 (by decide) (ha _ q967) (fun _ h9 => h9) rfl dX12_make_60 ?_
                refine lv_iload_n hx hb dX12_make_63 rfl (lv_at hl 2 rfl) ?_
                obtain ⟨i12, h⟩ := ix_ok h
                refine va_iald hx hb hK hP 2 1 rfl rfl i12 dX12_make_64 ?_
                refine lv_i2l (v := (t_us l2.toNatClampNeg).toInt64) hx hb dX12_make_65 rfl ?_
                refine lv_aload_n hx hb dX12_make_66 rfl (lv_at hl 0 rfl) ?_
                refine va_get (D := D) (ci := 12) (v := .ref h_t_vs) (C := RX12) (T := TX12) (N := 61) hx hb ha ix12 hown hK hP 0 rfl rfl 8 (by decide) (ha _ q968) (fun _ h9 => h9) rfl dX12_make_67 ?_
                refine lv_iload_n hx hb dX12_make_70 rfl (lv_at hl 2 rfl) ?_
                obtain ⟨i13, h⟩ := ix_ok h
                refine va_iald hx hb hK hP 3 2 rfl rfl i13 dX12_make_71 ?_
                refine lv_i2l (v := (t_vs l2.toNatClampNeg).toInt64) hx hb dX12_make_72 rfl ?_
                refine lv_aload_n hx hb dX12_make_73 rfl (lv_at hl 0 rfl) ?_
                refine va_get (D := D) (ci := 12) (v := .ref h_t_ds) (C := RX12) (T := TX12) (N := 61) hx hb ha ix12 hown hK hP 0 rfl rfl 9 (by decide) (ha _ q969) (fun _ h9 => h9) rfl dX12_make_74 ?_
                refine lv_iload_n hx hb dX12_make_77 rfl (lv_at hl 2 rfl) ?_
                obtain ⟨i14, h⟩ := ix_ok h
                refine va_iald hx hb hK hP 4 3 rfl rfl i14 dX12_make_78 ?_
                refine lv_i2l (v := (t_ds l2.toNatClampNeg).toInt64) hx hb dX12_make_79 rfl ?_
                obtain ⟨t_u_c80_14, t_v_c80_14, t_d_c80_14, e_c80_14, h⟩ := bnd3_ok h
                refine cl_v (rn_v (ci := 12) (As := [.long (t_us l2.toNatClampNeg).toInt64, .long (t_vs l2.toNatClampNeg).toInt64, .long (t_ds l2.toNatClampNeg).toInt64]) (rest := []) S (c_X12_set l D ((h_t_has, .inl (k_t_has, 10, .inl t_has)) :: (h_t_us, .inl (k_t_us, 10, .inl t_us)) :: (h_t_vs, .inl (k_t_vs, 10, .inl t_vs)) :: (h_t_ds, .inl (k_t_ds, 10, .inl t_ds)) :: R) h_t (.int 0) (z_t_1) (z_t_2) (.int t_a) (.int t_b) (z_t_5) (.ref h_t_has) (.ref h_t_us) (.ref h_t_vs) (.ref h_t_ds) t_u t_v t_d (z_t_13) (z_t_14) (z_t_15) (z_t_16) (z_t_17) (z_t_18) (z_t_19) (z_t_20) (z_t_21) (z_t_22) (z_t_23) (z_t_24) (z_t_25) (z_t_26) (z_t_27) (z_t_28) (z_t_29) (z_t_30) (z_t_31) (z_t_32) (z_t_33) (z_t_34) (z_t_35) (z_t_36) (z_t_37) (z_t_38) (z_t_39) (z_t_40) (z_t_41) (z_t_42) (z_t_43) (z_t_44) (z_t_45) (z_t_46) (z_t_47) (z_t_48) (z_t_49) (z_t_50) (z_t_51) (z_t_52) (z_t_53) (z_t_54) (z_t_55) (z_t_56) (z_t_57) (z_t_58) (z_t_59) (z_t_60) ((t_us l2.toNatClampNeg).toInt64) ((t_vs l2.toNatClampNeg).toInt64) ((t_ds l2.toNatClampNeg).toInt64) t_u_c80_14 t_v_c80_14 t_d_c80_14 e_c80_14 _) q1172 q1174 q27 q61 q1175 nd_X12_set ⟨Nat.le_of_ble_eq_true rfl, Nat.le_of_ble_eq_true rfl⟩ rfl rfl hP hD (hK.sub (tys' := []) [] rfl) hN rfl ⟨0, _, rfl⟩ rfl hl.1 rfl (Nat.le_of_ble_eq_true rfl) dX12_make_80 ⟨Nat.le_of_ble_eq_true rfl, Nat.le_of_ble_eq_true rfl⟩) hS hA hD (fun H locs hP hD hS => ?_)
                have hP : va_P D vwCl ((h_t, .inr (12, (.int 0 :: z_t_1 :: z_t_2 :: .int t_a :: .int t_b :: z_t_5 :: .ref h_t_has :: .ref h_t_us :: .ref h_t_vs :: .ref h_t_ds :: .long t_u_c80_14 :: .long t_v_c80_14 :: .long t_d_c80_14 :: z_t_13 :: z_t_14 :: z_t_15 :: z_t_16 :: z_t_17 :: z_t_18 :: z_t_19 :: z_t_20 :: z_t_21 :: z_t_22 :: z_t_23 :: z_t_24 :: z_t_25 :: z_t_26 :: z_t_27 :: z_t_28 :: z_t_29 :: z_t_30 :: z_t_31 :: z_t_32 :: z_t_33 :: z_t_34 :: z_t_35 :: z_t_36 :: z_t_37 :: z_t_38 :: z_t_39 :: z_t_40 :: z_t_41 :: z_t_42 :: z_t_43 :: z_t_44 :: z_t_45 :: z_t_46 :: z_t_47 :: z_t_48 :: z_t_49 :: z_t_50 :: z_t_51 :: z_t_52 :: z_t_53 :: z_t_54 :: z_t_55 :: z_t_56 :: z_t_57 :: z_t_58 :: z_t_59 :: z_t_60 :: []))) :: (h_t_has, .inl (k_t_has, 10, .inl t_has)) :: (h_t_us, .inl (k_t_us, 10, .inl t_us)) :: (h_t_vs, .inl (k_t_vs, 10, .inl t_vs)) :: (h_t_ds, .inl (k_t_ds, 10, .inl t_ds)) :: R) H := hP
                have hD : va_D A ((h_t, .inr (12, (.int 0 :: z_t_1 :: z_t_2 :: .int t_a :: .int t_b :: z_t_5 :: .ref h_t_has :: .ref h_t_us :: .ref h_t_vs :: .ref h_t_ds :: .long t_u_c80_14 :: .long t_v_c80_14 :: .long t_d_c80_14 :: z_t_13 :: z_t_14 :: z_t_15 :: z_t_16 :: z_t_17 :: z_t_18 :: z_t_19 :: z_t_20 :: z_t_21 :: z_t_22 :: z_t_23 :: z_t_24 :: z_t_25 :: z_t_26 :: z_t_27 :: z_t_28 :: z_t_29 :: z_t_30 :: z_t_31 :: z_t_32 :: z_t_33 :: z_t_34 :: z_t_35 :: z_t_36 :: z_t_37 :: z_t_38 :: z_t_39 :: z_t_40 :: z_t_41 :: z_t_42 :: z_t_43 :: z_t_44 :: z_t_45 :: z_t_46 :: z_t_47 :: z_t_48 :: z_t_49 :: z_t_50 :: z_t_51 :: z_t_52 :: z_t_53 :: z_t_54 :: z_t_55 :: z_t_56 :: z_t_57 :: z_t_58 :: z_t_59 :: z_t_60 :: []))) :: (h_t_has, .inl (k_t_has, 10, .inl t_has)) :: (h_t_us, .inl (k_t_us, 10, .inl t_us)) :: (h_t_vs, .inl (k_t_vs, 10, .inl t_vs)) :: (h_t_ds, .inl (k_t_ds, 10, .inl t_ds)) :: R) := hD
                refine lv_iload hx hb dX12_make_83 (lv_at hl 4 rfl) ?_
                refine lv_if_ne (tgt := 116) hx hb dX12_make_85 (by decide) (fun c16 => ?_) (fun c16 => ?_)
                · have h := br_neg c16 h
                  refine lv_iload hx hb dX12_make_116 (lv_at hl 4 rfl) ?_
                  refine lv_iconst (v := 1) hx hb dX12_make_118 (by decide) ?_
                  refine lv_icmp_ne (tgt := 152) hx hb dX12_make_119 (by decide) (fun c22 => ?_) (fun c22 => ?_)
                  · have h := br_neg c22 h
                    refine lv_iload hx hb dX12_make_152 (lv_at hl 4 rfl) ?_
                    refine lv_iconst (v := 2) hx hb dX12_make_154 (by decide) ?_
                    refine lv_icmp_ne (tgt := 186) hx hb dX12_make_155 (by decide) (fun c28 => ?_) (fun c28 => ?_)
                    · have h := br_neg c28 h
                      refine lv_aload_n hx hb dX12_make_186 rfl (lv_at hl 0 rfl) ?_
                      refine lv_aload_n hx hb dX12_make_187 rfl (lv_at hl 0 rfl) ?_
                      refine va_get (D := D) (ci := 12) (v := .ref h_t_us) (C := RX12) (T := TX12) (N := 61) hx hb ha ix12 hown hK hP 0 rfl rfl 7 (by decide) (ha _ q967) (fun _ h9 => h9) rfl dX12_make_188 ?_
                      refine lv_iload_n hx hb dX12_make_191 rfl (lv_at hl 3 rfl) ?_
                      obtain ⟨i34, h⟩ := ix_ok h
                      refine va_iald hx hb hK hP 2 1 rfl rfl i34 dX12_make_192 ?_
                      refine lv_i2l (v := (t_us l3.toNatClampNeg).toInt64) hx hb dX12_make_193 rfl ?_
                      refine lv_aload_n hx hb dX12_make_194 rfl (lv_at hl 0 rfl) ?_
                      refine va_get (D := D) (ci := 12) (v := .ref h_t_vs) (C := RX12) (T := TX12) (N := 61) hx hb ha ix12 hown hK hP 0 rfl rfl 8 (by decide) (ha _ q968) (fun _ h9 => h9) rfl dX12_make_195 ?_
                      refine lv_iload_n hx hb dX12_make_198 rfl (lv_at hl 3 rfl) ?_
                      obtain ⟨i35, h⟩ := ix_ok h
                      refine va_iald hx hb hK hP 3 2 rfl rfl i35 dX12_make_199 ?_
                      refine lv_i2l (v := (t_vs l3.toNatClampNeg).toInt64) hx hb dX12_make_200 rfl ?_
                      refine lv_aload_n hx hb dX12_make_201 rfl (lv_at hl 0 rfl) ?_
                      refine va_get (D := D) (ci := 12) (v := .ref h_t_ds) (C := RX12) (T := TX12) (N := 61) hx hb ha ix12 hown hK hP 0 rfl rfl 9 (by decide) (ha _ q969) (fun _ h9 => h9) rfl dX12_make_202 ?_
                      refine lv_iload_n hx hb dX12_make_205 rfl (lv_at hl 3 rfl) ?_
                      obtain ⟨i36, h⟩ := ix_ok h
                      refine va_iald hx hb hK hP 4 3 rfl rfl i36 dX12_make_206 ?_
                      refine lv_i2l (v := (t_ds l3.toNatClampNeg).toInt64) hx hb dX12_make_207 rfl ?_
                      obtain ⟨t_u_c208_36, t_v_c208_36, t_d_c208_36, e_c208_36, h⟩ := bnd3_ok h
                      refine cl_v (rn_v (ci := 12) (As := [.long (t_us l3.toNatClampNeg).toInt64, .long (t_vs l3.toNatClampNeg).toInt64, .long (t_ds l3.toNatClampNeg).toInt64]) (rest := []) S (c_X12_by l D ((h_t_has, .inl (k_t_has, 10, .inl t_has)) :: (h_t_us, .inl (k_t_us, 10, .inl t_us)) :: (h_t_vs, .inl (k_t_vs, 10, .inl t_vs)) :: (h_t_ds, .inl (k_t_ds, 10, .inl t_ds)) :: R) h_t (.int 0) (z_t_1) (z_t_2) t_a t_b (z_t_5) (.ref h_t_has) (.ref h_t_us) (.ref h_t_vs) (.ref h_t_ds) t_u_c80_14 t_v_c80_14 t_d_c80_14 (z_t_13) (z_t_14) (z_t_15) (z_t_16) (z_t_17) (z_t_18) (z_t_19) (z_t_20) (z_t_21) (z_t_22) (z_t_23) (z_t_24) (z_t_25) (z_t_26) (z_t_27) (z_t_28) (z_t_29) (z_t_30) (z_t_31) (z_t_32) (z_t_33) (z_t_34) (z_t_35) (z_t_36) (z_t_37) (z_t_38) (z_t_39) (z_t_40) (z_t_41) (z_t_42) (z_t_43) (z_t_44) (z_t_45) (z_t_46) (z_t_47) (z_t_48) (z_t_49) (z_t_50) (z_t_51) (z_t_52) (z_t_53) (z_t_54) (z_t_55) (z_t_56) (z_t_57) (z_t_58) (z_t_59) (z_t_60) ((t_us l3.toNatClampNeg).toInt64) ((t_vs l3.toNatClampNeg).toInt64) ((t_ds l3.toNatClampNeg).toInt64) t_u_c208_36 t_v_c208_36 t_d_c208_36 e_c208_36 _) q1206 q1208 q33 q61 q1209 nd_X12_by ⟨Nat.le_of_ble_eq_true rfl, Nat.le_of_ble_eq_true rfl⟩ rfl rfl hP hD (hK.sub (tys' := []) [] rfl) hN rfl ⟨0, _, rfl⟩ rfl hl.1 rfl (Nat.le_of_ble_eq_true rfl) dX12_make_208 ⟨Nat.le_of_ble_eq_true rfl, Nat.le_of_ble_eq_true rfl⟩) hS hA hD (fun H locs hP hD hS => ?_)
                      have hP : va_P D vwCl ((h_t, .inr (12, (.int 0 :: z_t_1 :: z_t_2 :: .int t_a :: .int t_b :: z_t_5 :: .ref h_t_has :: .ref h_t_us :: .ref h_t_vs :: .ref h_t_ds :: .long t_u_c208_36 :: .long t_v_c208_36 :: .long t_d_c208_36 :: z_t_13 :: z_t_14 :: z_t_15 :: z_t_16 :: z_t_17 :: z_t_18 :: z_t_19 :: z_t_20 :: z_t_21 :: z_t_22 :: z_t_23 :: z_t_24 :: z_t_25 :: z_t_26 :: z_t_27 :: z_t_28 :: z_t_29 :: z_t_30 :: z_t_31 :: z_t_32 :: z_t_33 :: z_t_34 :: z_t_35 :: z_t_36 :: z_t_37 :: z_t_38 :: z_t_39 :: z_t_40 :: z_t_41 :: z_t_42 :: z_t_43 :: z_t_44 :: z_t_45 :: z_t_46 :: z_t_47 :: z_t_48 :: z_t_49 :: z_t_50 :: z_t_51 :: z_t_52 :: z_t_53 :: z_t_54 :: z_t_55 :: z_t_56 :: z_t_57 :: z_t_58 :: z_t_59 :: z_t_60 :: []))) :: (h_t_has, .inl (k_t_has, 10, .inl t_has)) :: (h_t_us, .inl (k_t_us, 10, .inl t_us)) :: (h_t_vs, .inl (k_t_vs, 10, .inl t_vs)) :: (h_t_ds, .inl (k_t_ds, 10, .inl t_ds)) :: R) H := hP
                      have hD : va_D A ((h_t, .inr (12, (.int 0 :: z_t_1 :: z_t_2 :: .int t_a :: .int t_b :: z_t_5 :: .ref h_t_has :: .ref h_t_us :: .ref h_t_vs :: .ref h_t_ds :: .long t_u_c208_36 :: .long t_v_c208_36 :: .long t_d_c208_36 :: z_t_13 :: z_t_14 :: z_t_15 :: z_t_16 :: z_t_17 :: z_t_18 :: z_t_19 :: z_t_20 :: z_t_21 :: z_t_22 :: z_t_23 :: z_t_24 :: z_t_25 :: z_t_26 :: z_t_27 :: z_t_28 :: z_t_29 :: z_t_30 :: z_t_31 :: z_t_32 :: z_t_33 :: z_t_34 :: z_t_35 :: z_t_36 :: z_t_37 :: z_t_38 :: z_t_39 :: z_t_40 :: z_t_41 :: z_t_42 :: z_t_43 :: z_t_44 :: z_t_45 :: z_t_46 :: z_t_47 :: z_t_48 :: z_t_49 :: z_t_50 :: z_t_51 :: z_t_52 :: z_t_53 :: z_t_54 :: z_t_55 :: z_t_56 :: z_t_57 :: z_t_58 :: z_t_59 :: z_t_60 :: []))) :: (h_t_has, .inl (k_t_has, 10, .inl t_has)) :: (h_t_us, .inl (k_t_us, 10, .inl t_us)) :: (h_t_vs, .inl (k_t_vs, 10, .inl t_vs)) :: (h_t_ds, .inl (k_t_ds, 10, .inl t_ds)) :: R) := hD
                      refine lv_aload_n hx hb dX12_make_211 rfl (lv_at hl 0 rfl) ?_
                      refine lv_iload_n hx hb dX12_make_212 rfl (lv_at hl 1 rfl) ?_
                      obtain ⟨r_c213_37, t_has_c213_37, t_us_c213_37, t_vs_c213_37, t_ds_c213_37, e_c213_37, h⟩ := bnd5_ok h
                      refine cl_z (rn_v (ci := 12) (As := [.int l1]) (rest := []) S (c_X12_put l D (R) h_t (.int 0) (z_t_1) (z_t_2) (.int t_a) (.int t_b) (z_t_5) t_u_c208_36 t_v_c208_36 t_d_c208_36 (z_t_13) (z_t_14) (z_t_15) (z_t_16) (z_t_17) (z_t_18) (z_t_19) (z_t_20) (z_t_21) (z_t_22) (z_t_23) (z_t_24) (z_t_25) (z_t_26) (z_t_27) (z_t_28) (z_t_29) (z_t_30) (z_t_31) (z_t_32) (z_t_33) (z_t_34) (z_t_35) (z_t_36) (z_t_37) (z_t_38) (z_t_39) (z_t_40) (z_t_41) (z_t_42) (z_t_43) (z_t_44) (z_t_45) (z_t_46) (z_t_47) (z_t_48) (z_t_49) (z_t_50) (z_t_51) (z_t_52) (z_t_53) (z_t_54) (z_t_55) (z_t_56) (z_t_57) (z_t_58) (z_t_59) (z_t_60) h_t_has k_t_has t_has h_t_us k_t_us t_us h_t_vs k_t_vs t_vs h_t_ds k_t_ds t_ds l1 r_c213_37 t_has_c213_37 t_us_c213_37 t_vs_c213_37 t_ds_c213_37 e_c213_37 _) q1179 q1181 q28 q61 q1182 nd_X12_put ⟨Nat.le_of_ble_eq_true rfl, Nat.le_of_ble_eq_true rfl⟩ rfl rfl hP hD (hK.sub (tys' := [(k_t_has, .boolean), (k_t_us, .int), (k_t_vs, .int), (k_t_ds, .int)]) [0, 1, 2, 3] rfl) hN rfl ⟨0, _, rfl⟩ rfl hl.1 rfl (Nat.le_of_ble_eq_true rfl) dX12_make_213 ⟨Nat.le_of_ble_eq_true rfl, Nat.le_of_ble_eq_true rfl⟩) hS hA hD (fun H locs hP hD hS z_c213_37 => ?_)
                      have hP : va_P D vwCl ((h_t, .inr (12, (.int 0 :: z_t_1 :: z_t_2 :: .int t_a :: .int t_b :: z_t_5 :: .ref h_t_has :: .ref h_t_us :: .ref h_t_vs :: .ref h_t_ds :: .long t_u_c208_36 :: .long t_v_c208_36 :: .long t_d_c208_36 :: z_t_13 :: z_t_14 :: z_t_15 :: z_t_16 :: z_t_17 :: z_t_18 :: z_t_19 :: z_t_20 :: z_t_21 :: z_t_22 :: z_t_23 :: z_t_24 :: z_t_25 :: z_t_26 :: z_t_27 :: z_t_28 :: z_t_29 :: z_t_30 :: z_t_31 :: z_t_32 :: z_t_33 :: z_t_34 :: z_t_35 :: z_t_36 :: z_t_37 :: z_t_38 :: z_t_39 :: z_t_40 :: z_t_41 :: z_t_42 :: z_t_43 :: z_t_44 :: z_t_45 :: z_t_46 :: z_t_47 :: z_t_48 :: z_t_49 :: z_t_50 :: z_t_51 :: z_t_52 :: z_t_53 :: z_t_54 :: z_t_55 :: z_t_56 :: z_t_57 :: z_t_58 :: z_t_59 :: z_t_60 :: []))) :: (h_t_has, .inl (k_t_has, 10, .inl t_has_c213_37)) :: (h_t_us, .inl (k_t_us, 10, .inl t_us_c213_37)) :: (h_t_vs, .inl (k_t_vs, 10, .inl t_vs_c213_37)) :: (h_t_ds, .inl (k_t_ds, 10, .inl t_ds_c213_37)) :: R) H := hP
                      have hD : va_D A ((h_t, .inr (12, (.int 0 :: z_t_1 :: z_t_2 :: .int t_a :: .int t_b :: z_t_5 :: .ref h_t_has :: .ref h_t_us :: .ref h_t_vs :: .ref h_t_ds :: .long t_u_c208_36 :: .long t_v_c208_36 :: .long t_d_c208_36 :: z_t_13 :: z_t_14 :: z_t_15 :: z_t_16 :: z_t_17 :: z_t_18 :: z_t_19 :: z_t_20 :: z_t_21 :: z_t_22 :: z_t_23 :: z_t_24 :: z_t_25 :: z_t_26 :: z_t_27 :: z_t_28 :: z_t_29 :: z_t_30 :: z_t_31 :: z_t_32 :: z_t_33 :: z_t_34 :: z_t_35 :: z_t_36 :: z_t_37 :: z_t_38 :: z_t_39 :: z_t_40 :: z_t_41 :: z_t_42 :: z_t_43 :: z_t_44 :: z_t_45 :: z_t_46 :: z_t_47 :: z_t_48 :: z_t_49 :: z_t_50 :: z_t_51 :: z_t_52 :: z_t_53 :: z_t_54 :: z_t_55 :: z_t_56 :: z_t_57 :: z_t_58 :: z_t_59 :: z_t_60 :: []))) :: (h_t_has, .inl (k_t_has, 10, .inl t_has_c213_37)) :: (h_t_us, .inl (k_t_us, 10, .inl t_us_c213_37)) :: (h_t_vs, .inl (k_t_vs, 10, .inl t_vs_c213_37)) :: (h_t_ds, .inl (k_t_ds, 10, .inl t_ds_c213_37)) :: R) := hD
                      cases h
                      exact rt_z S hr hlk hP hD hS z_c213_37 dX12_make_216
                    · have h := br_pos c28 h
                      refine lv_aload_n hx hb dX12_make_158 rfl (lv_at hl 0 rfl) ?_
                      refine lv_aload_n hx hb dX12_make_159 rfl (lv_at hl 0 rfl) ?_
                      refine va_get (D := D) (ci := 12) (v := .ref h_t_us) (C := RX12) (T := TX12) (N := 61) hx hb ha ix12 hown hK hP 0 rfl rfl 7 (by decide) (ha _ q967) (fun _ h9 => h9) rfl dX12_make_160 ?_
                      refine lv_iload_n hx hb dX12_make_163 rfl (lv_at hl 3 rfl) ?_
                      obtain ⟨i29, h⟩ := ix_ok h
                      refine va_iald hx hb hK hP 2 1 rfl rfl i29 dX12_make_164 ?_
                      refine lv_i2l (v := (t_us l3.toNatClampNeg).toInt64) hx hb dX12_make_165 rfl ?_
                      refine lv_aload_n hx hb dX12_make_166 rfl (lv_at hl 0 rfl) ?_
                      refine va_get (D := D) (ci := 12) (v := .ref h_t_vs) (C := RX12) (T := TX12) (N := 61) hx hb ha ix12 hown hK hP 0 rfl rfl 8 (by decide) (ha _ q968) (fun _ h9 => h9) rfl dX12_make_167 ?_
                      refine lv_iload_n hx hb dX12_make_170 rfl (lv_at hl 3 rfl) ?_
                      obtain ⟨i30, h⟩ := ix_ok h
                      refine va_iald hx hb hK hP 3 2 rfl rfl i30 dX12_make_171 ?_
                      refine lv_i2l (v := (t_vs l3.toNatClampNeg).toInt64) hx hb dX12_make_172 rfl ?_
                      refine lv_aload_n hx hb dX12_make_173 rfl (lv_at hl 0 rfl) ?_
                      refine va_get (D := D) (ci := 12) (v := .ref h_t_ds) (C := RX12) (T := TX12) (N := 61) hx hb ha ix12 hown hK hP 0 rfl rfl 9 (by decide) (ha _ q969) (fun _ h9 => h9) rfl dX12_make_174 ?_
                      refine lv_iload_n hx hb dX12_make_177 rfl (lv_at hl 3 rfl) ?_
                      obtain ⟨i31, h⟩ := ix_ok h
                      refine va_iald hx hb hK hP 4 3 rfl rfl i31 dX12_make_178 ?_
                      refine lv_i2l (v := (t_ds l3.toNatClampNeg).toInt64) hx hb dX12_make_179 rfl ?_
                      obtain ⟨t_u_c180_31, t_v_c180_31, t_d_c180_31, e_c180_31, h⟩ := bnd3_ok h
                      refine cl_v (rn_v (ci := 12) (As := [.long (t_us l3.toNatClampNeg).toInt64, .long (t_vs l3.toNatClampNeg).toInt64, .long (t_ds l3.toNatClampNeg).toInt64]) (rest := []) S (c_X12_times l D ((h_t_has, .inl (k_t_has, 10, .inl t_has)) :: (h_t_us, .inl (k_t_us, 10, .inl t_us)) :: (h_t_vs, .inl (k_t_vs, 10, .inl t_vs)) :: (h_t_ds, .inl (k_t_ds, 10, .inl t_ds)) :: R) h_t (.int 0) (z_t_1) (z_t_2) t_a t_b (z_t_5) (.ref h_t_has) (.ref h_t_us) (.ref h_t_vs) (.ref h_t_ds) t_u_c80_14 t_v_c80_14 t_d_c80_14 (z_t_13) (z_t_14) (z_t_15) (z_t_16) (z_t_17) (z_t_18) (z_t_19) (z_t_20) (z_t_21) (z_t_22) (z_t_23) (z_t_24) (z_t_25) (z_t_26) (z_t_27) (z_t_28) (z_t_29) (z_t_30) (z_t_31) (z_t_32) (z_t_33) (z_t_34) (z_t_35) (z_t_36) (z_t_37) (z_t_38) (z_t_39) (z_t_40) (z_t_41) (z_t_42) (z_t_43) (z_t_44) (z_t_45) (z_t_46) (z_t_47) (z_t_48) (z_t_49) (z_t_50) (z_t_51) (z_t_52) (z_t_53) (z_t_54) (z_t_55) (z_t_56) (z_t_57) (z_t_58) (z_t_59) (z_t_60) ((t_us l3.toNatClampNeg).toInt64) ((t_vs l3.toNatClampNeg).toInt64) ((t_ds l3.toNatClampNeg).toInt64) t_u_c180_31 t_v_c180_31 t_d_c180_31 e_c180_31 _) q1202 q1204 q32 q61 q1205 nd_X12_times ⟨Nat.le_of_ble_eq_true rfl, Nat.le_of_ble_eq_true rfl⟩ rfl rfl hP hD (hK.sub (tys' := []) [] rfl) hN rfl ⟨0, _, rfl⟩ rfl hl.1 rfl (Nat.le_of_ble_eq_true rfl) dX12_make_180 ⟨Nat.le_of_ble_eq_true rfl, Nat.le_of_ble_eq_true rfl⟩) hS hA hD (fun H locs hP hD hS => ?_)
                      have hP : va_P D vwCl ((h_t, .inr (12, (.int 0 :: z_t_1 :: z_t_2 :: .int t_a :: .int t_b :: z_t_5 :: .ref h_t_has :: .ref h_t_us :: .ref h_t_vs :: .ref h_t_ds :: .long t_u_c180_31 :: .long t_v_c180_31 :: .long t_d_c180_31 :: z_t_13 :: z_t_14 :: z_t_15 :: z_t_16 :: z_t_17 :: z_t_18 :: z_t_19 :: z_t_20 :: z_t_21 :: z_t_22 :: z_t_23 :: z_t_24 :: z_t_25 :: z_t_26 :: z_t_27 :: z_t_28 :: z_t_29 :: z_t_30 :: z_t_31 :: z_t_32 :: z_t_33 :: z_t_34 :: z_t_35 :: z_t_36 :: z_t_37 :: z_t_38 :: z_t_39 :: z_t_40 :: z_t_41 :: z_t_42 :: z_t_43 :: z_t_44 :: z_t_45 :: z_t_46 :: z_t_47 :: z_t_48 :: z_t_49 :: z_t_50 :: z_t_51 :: z_t_52 :: z_t_53 :: z_t_54 :: z_t_55 :: z_t_56 :: z_t_57 :: z_t_58 :: z_t_59 :: z_t_60 :: []))) :: (h_t_has, .inl (k_t_has, 10, .inl t_has)) :: (h_t_us, .inl (k_t_us, 10, .inl t_us)) :: (h_t_vs, .inl (k_t_vs, 10, .inl t_vs)) :: (h_t_ds, .inl (k_t_ds, 10, .inl t_ds)) :: R) H := hP
                      have hD : va_D A ((h_t, .inr (12, (.int 0 :: z_t_1 :: z_t_2 :: .int t_a :: .int t_b :: z_t_5 :: .ref h_t_has :: .ref h_t_us :: .ref h_t_vs :: .ref h_t_ds :: .long t_u_c180_31 :: .long t_v_c180_31 :: .long t_d_c180_31 :: z_t_13 :: z_t_14 :: z_t_15 :: z_t_16 :: z_t_17 :: z_t_18 :: z_t_19 :: z_t_20 :: z_t_21 :: z_t_22 :: z_t_23 :: z_t_24 :: z_t_25 :: z_t_26 :: z_t_27 :: z_t_28 :: z_t_29 :: z_t_30 :: z_t_31 :: z_t_32 :: z_t_33 :: z_t_34 :: z_t_35 :: z_t_36 :: z_t_37 :: z_t_38 :: z_t_39 :: z_t_40 :: z_t_41 :: z_t_42 :: z_t_43 :: z_t_44 :: z_t_45 :: z_t_46 :: z_t_47 :: z_t_48 :: z_t_49 :: z_t_50 :: z_t_51 :: z_t_52 :: z_t_53 :: z_t_54 :: z_t_55 :: z_t_56 :: z_t_57 :: z_t_58 :: z_t_59 :: z_t_60 :: []))) :: (h_t_has, .inl (k_t_has, 10, .inl t_has)) :: (h_t_us, .inl (k_t_us, 10, .inl t_us)) :: (h_t_vs, .inl (k_t_vs, 10, .inl t_vs)) :: (h_t_ds, .inl (k_t_ds, 10, .inl t_ds)) :: R) := hD
                      refine lv_goto (tgt := 211) hx hb dX12_make_183 (by decide) ?_
                      refine lv_aload_n hx hb dX12_make_211 rfl (lv_at hl 0 rfl) ?_
                      refine lv_iload_n hx hb dX12_make_212 rfl (lv_at hl 1 rfl) ?_
                      obtain ⟨r_c213_32, t_has_c213_32, t_us_c213_32, t_vs_c213_32, t_ds_c213_32, e_c213_32, h⟩ := bnd5_ok h
                      refine cl_z (rn_v (ci := 12) (As := [.int l1]) (rest := []) S (c_X12_put l D (R) h_t (.int 0) (z_t_1) (z_t_2) (.int t_a) (.int t_b) (z_t_5) t_u_c180_31 t_v_c180_31 t_d_c180_31 (z_t_13) (z_t_14) (z_t_15) (z_t_16) (z_t_17) (z_t_18) (z_t_19) (z_t_20) (z_t_21) (z_t_22) (z_t_23) (z_t_24) (z_t_25) (z_t_26) (z_t_27) (z_t_28) (z_t_29) (z_t_30) (z_t_31) (z_t_32) (z_t_33) (z_t_34) (z_t_35) (z_t_36) (z_t_37) (z_t_38) (z_t_39) (z_t_40) (z_t_41) (z_t_42) (z_t_43) (z_t_44) (z_t_45) (z_t_46) (z_t_47) (z_t_48) (z_t_49) (z_t_50) (z_t_51) (z_t_52) (z_t_53) (z_t_54) (z_t_55) (z_t_56) (z_t_57) (z_t_58) (z_t_59) (z_t_60) h_t_has k_t_has t_has h_t_us k_t_us t_us h_t_vs k_t_vs t_vs h_t_ds k_t_ds t_ds l1 r_c213_32 t_has_c213_32 t_us_c213_32 t_vs_c213_32 t_ds_c213_32 e_c213_32 _) q1179 q1181 q28 q61 q1182 nd_X12_put ⟨Nat.le_of_ble_eq_true rfl, Nat.le_of_ble_eq_true rfl⟩ rfl rfl hP hD (hK.sub (tys' := [(k_t_has, .boolean), (k_t_us, .int), (k_t_vs, .int), (k_t_ds, .int)]) [0, 1, 2, 3] rfl) hN rfl ⟨0, _, rfl⟩ rfl hl.1 rfl (Nat.le_of_ble_eq_true rfl) dX12_make_213 ⟨Nat.le_of_ble_eq_true rfl, Nat.le_of_ble_eq_true rfl⟩) hS hA hD (fun H locs hP hD hS z_c213_32 => ?_)
                      have hP : va_P D vwCl ((h_t, .inr (12, (.int 0 :: z_t_1 :: z_t_2 :: .int t_a :: .int t_b :: z_t_5 :: .ref h_t_has :: .ref h_t_us :: .ref h_t_vs :: .ref h_t_ds :: .long t_u_c180_31 :: .long t_v_c180_31 :: .long t_d_c180_31 :: z_t_13 :: z_t_14 :: z_t_15 :: z_t_16 :: z_t_17 :: z_t_18 :: z_t_19 :: z_t_20 :: z_t_21 :: z_t_22 :: z_t_23 :: z_t_24 :: z_t_25 :: z_t_26 :: z_t_27 :: z_t_28 :: z_t_29 :: z_t_30 :: z_t_31 :: z_t_32 :: z_t_33 :: z_t_34 :: z_t_35 :: z_t_36 :: z_t_37 :: z_t_38 :: z_t_39 :: z_t_40 :: z_t_41 :: z_t_42 :: z_t_43 :: z_t_44 :: z_t_45 :: z_t_46 :: z_t_47 :: z_t_48 :: z_t_49 :: z_t_50 :: z_t_51 :: z_t_52 :: z_t_53 :: z_t_54 :: z_t_55 :: z_t_56 :: z_t_57 :: z_t_58 :: z_t_59 :: z_t_60 :: []))) :: (h_t_has, .inl (k_t_has, 10, .inl t_has_c213_32)) :: (h_t_us, .inl (k_t_us, 10, .inl t_us_c213_32)) :: (h_t_vs, .inl (k_t_vs, 10, .inl t_vs_c213_32)) :: (h_t_ds, .inl (k_t_ds, 10, .inl t_ds_c213_32)) :: R) H := hP
                      have hD : va_D A ((h_t, .inr (12, (.int 0 :: z_t_1 :: z_t_2 :: .int t_a :: .int t_b :: z_t_5 :: .ref h_t_has :: .ref h_t_us :: .ref h_t_vs :: .ref h_t_ds :: .long t_u_c180_31 :: .long t_v_c180_31 :: .long t_d_c180_31 :: z_t_13 :: z_t_14 :: z_t_15 :: z_t_16 :: z_t_17 :: z_t_18 :: z_t_19 :: z_t_20 :: z_t_21 :: z_t_22 :: z_t_23 :: z_t_24 :: z_t_25 :: z_t_26 :: z_t_27 :: z_t_28 :: z_t_29 :: z_t_30 :: z_t_31 :: z_t_32 :: z_t_33 :: z_t_34 :: z_t_35 :: z_t_36 :: z_t_37 :: z_t_38 :: z_t_39 :: z_t_40 :: z_t_41 :: z_t_42 :: z_t_43 :: z_t_44 :: z_t_45 :: z_t_46 :: z_t_47 :: z_t_48 :: z_t_49 :: z_t_50 :: z_t_51 :: z_t_52 :: z_t_53 :: z_t_54 :: z_t_55 :: z_t_56 :: z_t_57 :: z_t_58 :: z_t_59 :: z_t_60 :: []))) :: (h_t_has, .inl (k_t_has, 10, .inl t_has_c213_32)) :: (h_t_us, .inl (k_t_us, 10, .inl t_us_c213_32)) :: (h_t_vs, .inl (k_t_vs, 10, .inl t_vs_c213_32)) :: (h_t_ds, .inl (k_t_ds, 10, .inl t_ds_c213_32)) :: R) := hD
                      cases h
                      exact rt_z S hr hlk hP hD hS z_c213_32 dX12_make_216
                  · have h := br_pos c22 h
                    refine lv_aload_n hx hb dX12_make_122 rfl (lv_at hl 0 rfl) ?_
                    refine lv_aload_n hx hb dX12_make_123 rfl (lv_at hl 0 rfl) ?_
                    refine va_get (D := D) (ci := 12) (v := .ref h_t_us) (C := RX12) (T := TX12) (N := 61) hx hb ha ix12 hown hK hP 0 rfl rfl 7 (by decide) (ha _ q967) (fun _ h9 => h9) rfl dX12_make_124 ?_
                    refine lv_iload_n hx hb dX12_make_127 rfl (lv_at hl 3 rfl) ?_
                    obtain ⟨i23, h⟩ := ix_ok h
                    refine va_iald hx hb hK hP 2 1 rfl rfl i23 dX12_make_128 ?_
                    refine lv_ineg hx hb dX12_make_129 ?_
                    refine lv_i2l (v := (-(t_us l3.toNatClampNeg)).toInt64) hx hb dX12_make_130 rfl ?_
                    refine lv_aload_n hx hb dX12_make_131 rfl (lv_at hl 0 rfl) ?_
                    refine va_get (D := D) (ci := 12) (v := .ref h_t_vs) (C := RX12) (T := TX12) (N := 61) hx hb ha ix12 hown hK hP 0 rfl rfl 8 (by decide) (ha _ q968) (fun _ h9 => h9) rfl dX12_make_132 ?_
                    refine lv_iload_n hx hb dX12_make_135 rfl (lv_at hl 3 rfl) ?_
                    obtain ⟨i24, h⟩ := ix_ok h
                    refine va_iald hx hb hK hP 3 2 rfl rfl i24 dX12_make_136 ?_
                    refine lv_ineg hx hb dX12_make_137 ?_
                    refine lv_i2l (v := (-(t_vs l3.toNatClampNeg)).toInt64) hx hb dX12_make_138 rfl ?_
                    refine lv_aload_n hx hb dX12_make_139 rfl (lv_at hl 0 rfl) ?_
                    refine va_get (D := D) (ci := 12) (v := .ref h_t_ds) (C := RX12) (T := TX12) (N := 61) hx hb ha ix12 hown hK hP 0 rfl rfl 9 (by decide) (ha _ q969) (fun _ h9 => h9) rfl dX12_make_140 ?_
                    refine lv_iload_n hx hb dX12_make_143 rfl (lv_at hl 3 rfl) ?_
                    obtain ⟨i25, h⟩ := ix_ok h
                    refine va_iald hx hb hK hP 4 3 rfl rfl i25 dX12_make_144 ?_
                    refine lv_i2l (v := (t_ds l3.toNatClampNeg).toInt64) hx hb dX12_make_145 rfl ?_
                    obtain ⟨t_u_c146_25, t_v_c146_25, t_d_c146_25, e_c146_25, h⟩ := bnd3_ok h
                    refine cl_v (rn_v (ci := 12) (As := [.long (-(t_us l3.toNatClampNeg)).toInt64, .long (-(t_vs l3.toNatClampNeg)).toInt64, .long (t_ds l3.toNatClampNeg).toInt64]) (rest := []) S (c_X12_plus l D ((h_t_has, .inl (k_t_has, 10, .inl t_has)) :: (h_t_us, .inl (k_t_us, 10, .inl t_us)) :: (h_t_vs, .inl (k_t_vs, 10, .inl t_vs)) :: (h_t_ds, .inl (k_t_ds, 10, .inl t_ds)) :: R) h_t (.int 0) (z_t_1) (z_t_2) (.int t_a) (.int t_b) (z_t_5) (.ref h_t_has) (.ref h_t_us) (.ref h_t_vs) (.ref h_t_ds) t_u_c80_14 t_v_c80_14 t_d_c80_14 (z_t_13) (z_t_14) (z_t_15) (z_t_16) (z_t_17) (z_t_18) (z_t_19) (z_t_20) (z_t_21) (z_t_22) (z_t_23) (z_t_24) (z_t_25) (z_t_26) (z_t_27) (z_t_28) (z_t_29) (z_t_30) (z_t_31) (z_t_32) (z_t_33) (z_t_34) (z_t_35) (z_t_36) (z_t_37) (z_t_38) (z_t_39) (z_t_40) (z_t_41) (z_t_42) (z_t_43) (z_t_44) (z_t_45) (z_t_46) (z_t_47) (z_t_48) (z_t_49) (z_t_50) (z_t_51) (z_t_52) (z_t_53) (z_t_54) (z_t_55) (z_t_56) (z_t_57) (z_t_58) (z_t_59) (z_t_60) ((-(t_us l3.toNatClampNeg)).toInt64) ((-(t_vs l3.toNatClampNeg)).toInt64) ((t_ds l3.toNatClampNeg).toInt64) t_u_c146_25 t_v_c146_25 t_d_c146_25 e_c146_25 _) q1198 q1200 q31 q61 q1201 nd_X12_plus ⟨Nat.le_of_ble_eq_true rfl, Nat.le_of_ble_eq_true rfl⟩ rfl rfl hP hD (hK.sub (tys' := []) [] rfl) hN rfl ⟨0, _, rfl⟩ rfl hl.1 rfl (Nat.le_of_ble_eq_true rfl) dX12_make_146 ⟨Nat.le_of_ble_eq_true rfl, Nat.le_of_ble_eq_true rfl⟩) hS hA hD (fun H locs hP hD hS => ?_)
                    have hP : va_P D vwCl ((h_t, .inr (12, (.int 0 :: z_t_1 :: z_t_2 :: .int t_a :: .int t_b :: z_t_5 :: .ref h_t_has :: .ref h_t_us :: .ref h_t_vs :: .ref h_t_ds :: .long t_u_c146_25 :: .long t_v_c146_25 :: .long t_d_c146_25 :: z_t_13 :: z_t_14 :: z_t_15 :: z_t_16 :: z_t_17 :: z_t_18 :: z_t_19 :: z_t_20 :: z_t_21 :: z_t_22 :: z_t_23 :: z_t_24 :: z_t_25 :: z_t_26 :: z_t_27 :: z_t_28 :: z_t_29 :: z_t_30 :: z_t_31 :: z_t_32 :: z_t_33 :: z_t_34 :: z_t_35 :: z_t_36 :: z_t_37 :: z_t_38 :: z_t_39 :: z_t_40 :: z_t_41 :: z_t_42 :: z_t_43 :: z_t_44 :: z_t_45 :: z_t_46 :: z_t_47 :: z_t_48 :: z_t_49 :: z_t_50 :: z_t_51 :: z_t_52 :: z_t_53 :: z_t_54 :: z_t_55 :: z_t_56 :: z_t_57 :: z_t_58 :: z_t_59 :: z_t_60 :: []))) :: (h_t_has, .inl (k_t_has, 10, .inl t_has)) :: (h_t_us, .inl (k_t_us, 10, .inl t_us)) :: (h_t_vs, .inl (k_t_vs, 10, .inl t_vs)) :: (h_t_ds, .inl (k_t_ds, 10, .inl t_ds)) :: R) H := hP
                    have hD : va_D A ((h_t, .inr (12, (.int 0 :: z_t_1 :: z_t_2 :: .int t_a :: .int t_b :: z_t_5 :: .ref h_t_has :: .ref h_t_us :: .ref h_t_vs :: .ref h_t_ds :: .long t_u_c146_25 :: .long t_v_c146_25 :: .long t_d_c146_25 :: z_t_13 :: z_t_14 :: z_t_15 :: z_t_16 :: z_t_17 :: z_t_18 :: z_t_19 :: z_t_20 :: z_t_21 :: z_t_22 :: z_t_23 :: z_t_24 :: z_t_25 :: z_t_26 :: z_t_27 :: z_t_28 :: z_t_29 :: z_t_30 :: z_t_31 :: z_t_32 :: z_t_33 :: z_t_34 :: z_t_35 :: z_t_36 :: z_t_37 :: z_t_38 :: z_t_39 :: z_t_40 :: z_t_41 :: z_t_42 :: z_t_43 :: z_t_44 :: z_t_45 :: z_t_46 :: z_t_47 :: z_t_48 :: z_t_49 :: z_t_50 :: z_t_51 :: z_t_52 :: z_t_53 :: z_t_54 :: z_t_55 :: z_t_56 :: z_t_57 :: z_t_58 :: z_t_59 :: z_t_60 :: []))) :: (h_t_has, .inl (k_t_has, 10, .inl t_has)) :: (h_t_us, .inl (k_t_us, 10, .inl t_us)) :: (h_t_vs, .inl (k_t_vs, 10, .inl t_vs)) :: (h_t_ds, .inl (k_t_ds, 10, .inl t_ds)) :: R) := hD
                    refine lv_goto (tgt := 211) hx hb dX12_make_149 (by decide) ?_
                    refine lv_aload_n hx hb dX12_make_211 rfl (lv_at hl 0 rfl) ?_
                    refine lv_iload_n hx hb dX12_make_212 rfl (lv_at hl 1 rfl) ?_
                    obtain ⟨r_c213_26, t_has_c213_26, t_us_c213_26, t_vs_c213_26, t_ds_c213_26, e_c213_26, h⟩ := bnd5_ok h
                    refine cl_z (rn_v (ci := 12) (As := [.int l1]) (rest := []) S (c_X12_put l D (R) h_t (.int 0) (z_t_1) (z_t_2) (.int t_a) (.int t_b) (z_t_5) t_u_c146_25 t_v_c146_25 t_d_c146_25 (z_t_13) (z_t_14) (z_t_15) (z_t_16) (z_t_17) (z_t_18) (z_t_19) (z_t_20) (z_t_21) (z_t_22) (z_t_23) (z_t_24) (z_t_25) (z_t_26) (z_t_27) (z_t_28) (z_t_29) (z_t_30) (z_t_31) (z_t_32) (z_t_33) (z_t_34) (z_t_35) (z_t_36) (z_t_37) (z_t_38) (z_t_39) (z_t_40) (z_t_41) (z_t_42) (z_t_43) (z_t_44) (z_t_45) (z_t_46) (z_t_47) (z_t_48) (z_t_49) (z_t_50) (z_t_51) (z_t_52) (z_t_53) (z_t_54) (z_t_55) (z_t_56) (z_t_57) (z_t_58) (z_t_59) (z_t_60) h_t_has k_t_has t_has h_t_us k_t_us t_us h_t_vs k_t_vs t_vs h_t_ds k_t_ds t_ds l1 r_c213_26 t_has_c213_26 t_us_c213_26 t_vs_c213_26 t_ds_c213_26 e_c213_26 _) q1179 q1181 q28 q61 q1182 nd_X12_put ⟨Nat.le_of_ble_eq_true rfl, Nat.le_of_ble_eq_true rfl⟩ rfl rfl hP hD (hK.sub (tys' := [(k_t_has, .boolean), (k_t_us, .int), (k_t_vs, .int), (k_t_ds, .int)]) [0, 1, 2, 3] rfl) hN rfl ⟨0, _, rfl⟩ rfl hl.1 rfl (Nat.le_of_ble_eq_true rfl) dX12_make_213 ⟨Nat.le_of_ble_eq_true rfl, Nat.le_of_ble_eq_true rfl⟩) hS hA hD (fun H locs hP hD hS z_c213_26 => ?_)
                    have hP : va_P D vwCl ((h_t, .inr (12, (.int 0 :: z_t_1 :: z_t_2 :: .int t_a :: .int t_b :: z_t_5 :: .ref h_t_has :: .ref h_t_us :: .ref h_t_vs :: .ref h_t_ds :: .long t_u_c146_25 :: .long t_v_c146_25 :: .long t_d_c146_25 :: z_t_13 :: z_t_14 :: z_t_15 :: z_t_16 :: z_t_17 :: z_t_18 :: z_t_19 :: z_t_20 :: z_t_21 :: z_t_22 :: z_t_23 :: z_t_24 :: z_t_25 :: z_t_26 :: z_t_27 :: z_t_28 :: z_t_29 :: z_t_30 :: z_t_31 :: z_t_32 :: z_t_33 :: z_t_34 :: z_t_35 :: z_t_36 :: z_t_37 :: z_t_38 :: z_t_39 :: z_t_40 :: z_t_41 :: z_t_42 :: z_t_43 :: z_t_44 :: z_t_45 :: z_t_46 :: z_t_47 :: z_t_48 :: z_t_49 :: z_t_50 :: z_t_51 :: z_t_52 :: z_t_53 :: z_t_54 :: z_t_55 :: z_t_56 :: z_t_57 :: z_t_58 :: z_t_59 :: z_t_60 :: []))) :: (h_t_has, .inl (k_t_has, 10, .inl t_has_c213_26)) :: (h_t_us, .inl (k_t_us, 10, .inl t_us_c213_26)) :: (h_t_vs, .inl (k_t_vs, 10, .inl t_vs_c213_26)) :: (h_t_ds, .inl (k_t_ds, 10, .inl t_ds_c213_26)) :: R) H := hP
                    have hD : va_D A ((h_t, .inr (12, (.int 0 :: z_t_1 :: z_t_2 :: .int t_a :: .int t_b :: z_t_5 :: .ref h_t_has :: .ref h_t_us :: .ref h_t_vs :: .ref h_t_ds :: .long t_u_c146_25 :: .long t_v_c146_25 :: .long t_d_c146_25 :: z_t_13 :: z_t_14 :: z_t_15 :: z_t_16 :: z_t_17 :: z_t_18 :: z_t_19 :: z_t_20 :: z_t_21 :: z_t_22 :: z_t_23 :: z_t_24 :: z_t_25 :: z_t_26 :: z_t_27 :: z_t_28 :: z_t_29 :: z_t_30 :: z_t_31 :: z_t_32 :: z_t_33 :: z_t_34 :: z_t_35 :: z_t_36 :: z_t_37 :: z_t_38 :: z_t_39 :: z_t_40 :: z_t_41 :: z_t_42 :: z_t_43 :: z_t_44 :: z_t_45 :: z_t_46 :: z_t_47 :: z_t_48 :: z_t_49 :: z_t_50 :: z_t_51 :: z_t_52 :: z_t_53 :: z_t_54 :: z_t_55 :: z_t_56 :: z_t_57 :: z_t_58 :: z_t_59 :: z_t_60 :: []))) :: (h_t_has, .inl (k_t_has, 10, .inl t_has_c213_26)) :: (h_t_us, .inl (k_t_us, 10, .inl t_us_c213_26)) :: (h_t_vs, .inl (k_t_vs, 10, .inl t_vs_c213_26)) :: (h_t_ds, .inl (k_t_ds, 10, .inl t_ds_c213_26)) :: R) := hD
                    cases h
                    exact rt_z S hr hlk hP hD hS z_c213_26 dX12_make_216
                · have h := br_pos c16 h
                  refine lv_aload_n hx hb dX12_make_88 rfl (lv_at hl 0 rfl) ?_
                  refine lv_aload_n hx hb dX12_make_89 rfl (lv_at hl 0 rfl) ?_
                  refine va_get (D := D) (ci := 12) (v := .ref h_t_us) (C := RX12) (T := TX12) (N := 61) hx hb ha ix12 hown hK hP 0 rfl rfl 7 (by decide) (ha _ q967) (fun _ h9 => h9) rfl dX12_make_90 ?_
                  refine lv_iload_n hx hb dX12_make_93 rfl (lv_at hl 3 rfl) ?_
                  obtain ⟨i17, h⟩ := ix_ok h
                  refine va_iald hx hb hK hP 2 1 rfl rfl i17 dX12_make_94 ?_
                  refine lv_i2l (v := (t_us l3.toNatClampNeg).toInt64) hx hb dX12_make_95 rfl ?_
                  refine lv_aload_n hx hb dX12_make_96 rfl (lv_at hl 0 rfl) ?_
                  refine va_get (D := D) (ci := 12) (v := .ref h_t_vs) (C := RX12) (T := TX12) (N := 61) hx hb ha ix12 hown hK hP 0 rfl rfl 8 (by decide) (ha _ q968) (fun _ h9 => h9) rfl dX12_make_97 ?_
                  refine lv_iload_n hx hb dX12_make_100 rfl (lv_at hl 3 rfl) ?_
                  obtain ⟨i18, h⟩ := ix_ok h
                  refine va_iald hx hb hK hP 3 2 rfl rfl i18 dX12_make_101 ?_
                  refine lv_i2l (v := (t_vs l3.toNatClampNeg).toInt64) hx hb dX12_make_102 rfl ?_
                  refine lv_aload_n hx hb dX12_make_103 rfl (lv_at hl 0 rfl) ?_
                  refine va_get (D := D) (ci := 12) (v := .ref h_t_ds) (C := RX12) (T := TX12) (N := 61) hx hb ha ix12 hown hK hP 0 rfl rfl 9 (by decide) (ha _ q969) (fun _ h9 => h9) rfl dX12_make_104 ?_
                  refine lv_iload_n hx hb dX12_make_107 rfl (lv_at hl 3 rfl) ?_
                  obtain ⟨i19, h⟩ := ix_ok h
                  refine va_iald hx hb hK hP 4 3 rfl rfl i19 dX12_make_108 ?_
                  refine lv_i2l (v := (t_ds l3.toNatClampNeg).toInt64) hx hb dX12_make_109 rfl ?_
                  obtain ⟨t_u_c110_19, t_v_c110_19, t_d_c110_19, e_c110_19, h⟩ := bnd3_ok h
                  refine cl_v (rn_v (ci := 12) (As := [.long (t_us l3.toNatClampNeg).toInt64, .long (t_vs l3.toNatClampNeg).toInt64, .long (t_ds l3.toNatClampNeg).toInt64]) (rest := []) S (c_X12_plus l D ((h_t_has, .inl (k_t_has, 10, .inl t_has)) :: (h_t_us, .inl (k_t_us, 10, .inl t_us)) :: (h_t_vs, .inl (k_t_vs, 10, .inl t_vs)) :: (h_t_ds, .inl (k_t_ds, 10, .inl t_ds)) :: R) h_t (.int 0) (z_t_1) (z_t_2) (.int t_a) (.int t_b) (z_t_5) (.ref h_t_has) (.ref h_t_us) (.ref h_t_vs) (.ref h_t_ds) t_u_c80_14 t_v_c80_14 t_d_c80_14 (z_t_13) (z_t_14) (z_t_15) (z_t_16) (z_t_17) (z_t_18) (z_t_19) (z_t_20) (z_t_21) (z_t_22) (z_t_23) (z_t_24) (z_t_25) (z_t_26) (z_t_27) (z_t_28) (z_t_29) (z_t_30) (z_t_31) (z_t_32) (z_t_33) (z_t_34) (z_t_35) (z_t_36) (z_t_37) (z_t_38) (z_t_39) (z_t_40) (z_t_41) (z_t_42) (z_t_43) (z_t_44) (z_t_45) (z_t_46) (z_t_47) (z_t_48) (z_t_49) (z_t_50) (z_t_51) (z_t_52) (z_t_53) (z_t_54) (z_t_55) (z_t_56) (z_t_57) (z_t_58) (z_t_59) (z_t_60) ((t_us l3.toNatClampNeg).toInt64) ((t_vs l3.toNatClampNeg).toInt64) ((t_ds l3.toNatClampNeg).toInt64) t_u_c110_19 t_v_c110_19 t_d_c110_19 e_c110_19 _) q1198 q1200 q31 q61 q1201 nd_X12_plus ⟨Nat.le_of_ble_eq_true rfl, Nat.le_of_ble_eq_true rfl⟩ rfl rfl hP hD (hK.sub (tys' := []) [] rfl) hN rfl ⟨0, _, rfl⟩ rfl hl.1 rfl (Nat.le_of_ble_eq_true rfl) dX12_make_110 ⟨Nat.le_of_ble_eq_true rfl, Nat.le_of_ble_eq_true rfl⟩) hS hA hD (fun H locs hP hD hS => ?_)
                  have hP : va_P D vwCl ((h_t, .inr (12, (.int 0 :: z_t_1 :: z_t_2 :: .int t_a :: .int t_b :: z_t_5 :: .ref h_t_has :: .ref h_t_us :: .ref h_t_vs :: .ref h_t_ds :: .long t_u_c110_19 :: .long t_v_c110_19 :: .long t_d_c110_19 :: z_t_13 :: z_t_14 :: z_t_15 :: z_t_16 :: z_t_17 :: z_t_18 :: z_t_19 :: z_t_20 :: z_t_21 :: z_t_22 :: z_t_23 :: z_t_24 :: z_t_25 :: z_t_26 :: z_t_27 :: z_t_28 :: z_t_29 :: z_t_30 :: z_t_31 :: z_t_32 :: z_t_33 :: z_t_34 :: z_t_35 :: z_t_36 :: z_t_37 :: z_t_38 :: z_t_39 :: z_t_40 :: z_t_41 :: z_t_42 :: z_t_43 :: z_t_44 :: z_t_45 :: z_t_46 :: z_t_47 :: z_t_48 :: z_t_49 :: z_t_50 :: z_t_51 :: z_t_52 :: z_t_53 :: z_t_54 :: z_t_55 :: z_t_56 :: z_t_57 :: z_t_58 :: z_t_59 :: z_t_60 :: []))) :: (h_t_has, .inl (k_t_has, 10, .inl t_has)) :: (h_t_us, .inl (k_t_us, 10, .inl t_us)) :: (h_t_vs, .inl (k_t_vs, 10, .inl t_vs)) :: (h_t_ds, .inl (k_t_ds, 10, .inl t_ds)) :: R) H := hP
                  have hD : va_D A ((h_t, .inr (12, (.int 0 :: z_t_1 :: z_t_2 :: .int t_a :: .int t_b :: z_t_5 :: .ref h_t_has :: .ref h_t_us :: .ref h_t_vs :: .ref h_t_ds :: .long t_u_c110_19 :: .long t_v_c110_19 :: .long t_d_c110_19 :: z_t_13 :: z_t_14 :: z_t_15 :: z_t_16 :: z_t_17 :: z_t_18 :: z_t_19 :: z_t_20 :: z_t_21 :: z_t_22 :: z_t_23 :: z_t_24 :: z_t_25 :: z_t_26 :: z_t_27 :: z_t_28 :: z_t_29 :: z_t_30 :: z_t_31 :: z_t_32 :: z_t_33 :: z_t_34 :: z_t_35 :: z_t_36 :: z_t_37 :: z_t_38 :: z_t_39 :: z_t_40 :: z_t_41 :: z_t_42 :: z_t_43 :: z_t_44 :: z_t_45 :: z_t_46 :: z_t_47 :: z_t_48 :: z_t_49 :: z_t_50 :: z_t_51 :: z_t_52 :: z_t_53 :: z_t_54 :: z_t_55 :: z_t_56 :: z_t_57 :: z_t_58 :: z_t_59 :: z_t_60 :: []))) :: (h_t_has, .inl (k_t_has, 10, .inl t_has)) :: (h_t_us, .inl (k_t_us, 10, .inl t_us)) :: (h_t_vs, .inl (k_t_vs, 10, .inl t_vs)) :: (h_t_ds, .inl (k_t_ds, 10, .inl t_ds)) :: R) := hD
                  refine lv_goto (tgt := 211) hx hb dX12_make_113 (by decide) ?_
                  refine lv_aload_n hx hb dX12_make_211 rfl (lv_at hl 0 rfl) ?_
                  refine lv_iload_n hx hb dX12_make_212 rfl (lv_at hl 1 rfl) ?_
                  obtain ⟨r_c213_20, t_has_c213_20, t_us_c213_20, t_vs_c213_20, t_ds_c213_20, e_c213_20, h⟩ := bnd5_ok h
                  refine cl_z (rn_v (ci := 12) (As := [.int l1]) (rest := []) S (c_X12_put l D (R) h_t (.int 0) (z_t_1) (z_t_2) (.int t_a) (.int t_b) (z_t_5) t_u_c110_19 t_v_c110_19 t_d_c110_19 (z_t_13) (z_t_14) (z_t_15) (z_t_16) (z_t_17) (z_t_18) (z_t_19) (z_t_20) (z_t_21) (z_t_22) (z_t_23) (z_t_24) (z_t_25) (z_t_26) (z_t_27) (z_t_28) (z_t_29) (z_t_30) (z_t_31) (z_t_32) (z_t_33) (z_t_34) (z_t_35) (z_t_36) (z_t_37) (z_t_38) (z_t_39) (z_t_40) (z_t_41) (z_t_42) (z_t_43) (z_t_44) (z_t_45) (z_t_46) (z_t_47) (z_t_48) (z_t_49) (z_t_50) (z_t_51) (z_t_52) (z_t_53) (z_t_54) (z_t_55) (z_t_56) (z_t_57) (z_t_58) (z_t_59) (z_t_60) h_t_has k_t_has t_has h_t_us k_t_us t_us h_t_vs k_t_vs t_vs h_t_ds k_t_ds t_ds l1 r_c213_20 t_has_c213_20 t_us_c213_20 t_vs_c213_20 t_ds_c213_20 e_c213_20 _) q1179 q1181 q28 q61 q1182 nd_X12_put ⟨Nat.le_of_ble_eq_true rfl, Nat.le_of_ble_eq_true rfl⟩ rfl rfl hP hD (hK.sub (tys' := [(k_t_has, .boolean), (k_t_us, .int), (k_t_vs, .int), (k_t_ds, .int)]) [0, 1, 2, 3] rfl) hN rfl ⟨0, _, rfl⟩ rfl hl.1 rfl (Nat.le_of_ble_eq_true rfl) dX12_make_213 ⟨Nat.le_of_ble_eq_true rfl, Nat.le_of_ble_eq_true rfl⟩) hS hA hD (fun H locs hP hD hS z_c213_20 => ?_)
                  have hP : va_P D vwCl ((h_t, .inr (12, (.int 0 :: z_t_1 :: z_t_2 :: .int t_a :: .int t_b :: z_t_5 :: .ref h_t_has :: .ref h_t_us :: .ref h_t_vs :: .ref h_t_ds :: .long t_u_c110_19 :: .long t_v_c110_19 :: .long t_d_c110_19 :: z_t_13 :: z_t_14 :: z_t_15 :: z_t_16 :: z_t_17 :: z_t_18 :: z_t_19 :: z_t_20 :: z_t_21 :: z_t_22 :: z_t_23 :: z_t_24 :: z_t_25 :: z_t_26 :: z_t_27 :: z_t_28 :: z_t_29 :: z_t_30 :: z_t_31 :: z_t_32 :: z_t_33 :: z_t_34 :: z_t_35 :: z_t_36 :: z_t_37 :: z_t_38 :: z_t_39 :: z_t_40 :: z_t_41 :: z_t_42 :: z_t_43 :: z_t_44 :: z_t_45 :: z_t_46 :: z_t_47 :: z_t_48 :: z_t_49 :: z_t_50 :: z_t_51 :: z_t_52 :: z_t_53 :: z_t_54 :: z_t_55 :: z_t_56 :: z_t_57 :: z_t_58 :: z_t_59 :: z_t_60 :: []))) :: (h_t_has, .inl (k_t_has, 10, .inl t_has_c213_20)) :: (h_t_us, .inl (k_t_us, 10, .inl t_us_c213_20)) :: (h_t_vs, .inl (k_t_vs, 10, .inl t_vs_c213_20)) :: (h_t_ds, .inl (k_t_ds, 10, .inl t_ds_c213_20)) :: R) H := hP
                  have hD : va_D A ((h_t, .inr (12, (.int 0 :: z_t_1 :: z_t_2 :: .int t_a :: .int t_b :: z_t_5 :: .ref h_t_has :: .ref h_t_us :: .ref h_t_vs :: .ref h_t_ds :: .long t_u_c110_19 :: .long t_v_c110_19 :: .long t_d_c110_19 :: z_t_13 :: z_t_14 :: z_t_15 :: z_t_16 :: z_t_17 :: z_t_18 :: z_t_19 :: z_t_20 :: z_t_21 :: z_t_22 :: z_t_23 :: z_t_24 :: z_t_25 :: z_t_26 :: z_t_27 :: z_t_28 :: z_t_29 :: z_t_30 :: z_t_31 :: z_t_32 :: z_t_33 :: z_t_34 :: z_t_35 :: z_t_36 :: z_t_37 :: z_t_38 :: z_t_39 :: z_t_40 :: z_t_41 :: z_t_42 :: z_t_43 :: z_t_44 :: z_t_45 :: z_t_46 :: z_t_47 :: z_t_48 :: z_t_49 :: z_t_50 :: z_t_51 :: z_t_52 :: z_t_53 :: z_t_54 :: z_t_55 :: z_t_56 :: z_t_57 :: z_t_58 :: z_t_59 :: z_t_60 :: []))) :: (h_t_has, .inl (k_t_has, 10, .inl t_has_c213_20)) :: (h_t_us, .inl (k_t_us, 10, .inl t_us_c213_20)) :: (h_t_vs, .inl (k_t_vs, 10, .inl t_vs_c213_20)) :: (h_t_ds, .inl (k_t_ds, 10, .inl t_ds_c213_20)) :: R) := hD
                  cases h
                  exact rt_z S hr hlk hP hD hS z_c213_20 dX12_make_216
              · have h := br_pos c11 h
                refine lv_iconst (v := 0) hx hb dX12_make_56 (by decide) ?_
                cases h
                exact rt_z S hr hlk hP hD hS (by decide) dX12_make_57
