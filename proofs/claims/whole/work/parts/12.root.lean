noncomputable def f_X3_fillPowers_L21 (t_a : Int32) (t_b : Int32) : Nat → Int32 → Int32 → (Nat → Int64) → (Nat → Int64) →  Option (Int32 × (Nat → Int64) × (Nat → Int64))
  | 0, _, _, _, _ => none
  | n + 1, l1, t_powers, t_powerU, t_powerV => (
    if 48 ≤ l1 then (
     some (t_powers, t_powerU, t_powerV)
    ) else (
     gd (ixb (l1 - 1) 48) (
      if 1000000 < (t_powerV (l1 - 1).toNatClampNeg) then (
       some (t_powers, t_powerU, t_powerV)
      ) else (
       gd (ixb (l1 - 1) 48) (
        gd (ixb l1 48) (
         gd (ixb (l1 - 1) 48) (
          gd (ixb (l1 - 1) 48) (
           gd (ixb l1 48) (
            f_X3_fillPowers_L21 t_a t_b n (l1 + 1) (t_powers + 1) (vp_updL t_powerU l1.toNatClampNeg (t_b.toInt64 * (t_powerV (l1 - 1).toNatClampNeg))) (vp_updL t_powerV l1.toNatClampNeg (((vp_updL t_powerU l1.toNatClampNeg (t_b.toInt64 * (t_powerV (l1 - 1).toNatClampNeg))) (l1 - 1).toNatClampNeg) + (t_a.toInt64 * (t_powerV (l1 - 1).toNatClampNeg))))
           )
          )
         )
        )
       )
      )
     )
    ))
noncomputable def f_X3_fillPowers (t_a : Int32) (t_b : Int32) (t_powers : Int32) (t_powerU : Nat → Int64) (t_powerV : Nat → Int64) : Option (Int32 × (Nat → Int64) × (Nat → Int64)) :=
  gd (ixb 0 48) (
   gd (ixb 0 48) (
    bnd3 (f_X3_fillPowers_L21 t_a t_b FU 1 1 (vp_updL t_powerU (0 : Int32).toNatClampNeg 1) (vp_updL t_powerV (0 : Int32).toNatClampNeg 0)) fun x_t_powers_L21_10 x_t_powerU_L21_10 x_t_powerV_L21_10 => (
     some (x_t_powers_L21_10, x_t_powerU_L21_10, x_t_powerV_L21_10)
    )
   )
  )
set_option maxHeartbeats 4000000 in
set_option maxRecDepth 100000 in
theorem c_X3_fillPowers (l : Launch) (D : va_G) (R : va_W) (h_t : Nat) (t_a : Int32) (t_b : Int32) (z_t_2 : Value) (z_t_5 : Value) (t_powers : Int32) (z_t_7 : Value) (h_t_powerU : Nat) (k_t_powerU : ClassId) (t_powerU : Nat → Int64) (h_t_powerV : Nat) (k_t_powerV : ClassId) (t_powerV : Nat → Int64) (o_t_powers : Int32) (o_t_powerU : Nat → Int64) (o_t_powerV : Nat → Int64)  (h : f_X3_fillPowers t_a t_b t_powers t_powerU t_powerV = some (o_t_powers, o_t_powerU, o_t_powerV)) (sz : Nat) : Met l yX3_fillPowers (WD yX3_fillPowers cX3_fillPowers 2 none) ({ frames := 0, cells := 0, slots := 0, locals := 0 }) (va_Pc [.ref h_t] (PcW D [(k_t_powerU, .long), (k_t_powerV, .long)] ((h_t, .inr (3, [.int t_a, .int t_b, z_t_2, .ref h_t_powerU, .ref h_t_powerV, z_t_5, .int t_powers, z_t_7])) :: (h_t_powerU, .inl (k_t_powerU, 48, .inr (.inl t_powerU))) :: (h_t_powerV, .inl (k_t_powerV, 48, .inr (.inl t_powerV))) :: R) sz)) (QV D ((h_t, .inr (3, [.int t_a, .int t_b, z_t_2, .ref h_t_powerU, .ref h_t_powerV, z_t_5, .int o_t_powers, z_t_7])) :: (h_t_powerU, .inl (k_t_powerU, 48, .inr (.inl o_t_powerU))) :: (h_t_powerV, .inl (k_t_powerV, 48, .inr (.inl o_t_powerV))) :: R) (va_A ((h_t, .inr (3, [.int t_a, .int t_b, z_t_2, .ref h_t_powerU, .ref h_t_powerV, z_t_5, .int t_powers, z_t_7])) :: (h_t_powerU, .inl (k_t_powerU, 48, .inr (.inl t_powerU))) :: (h_t_powerV, .inl (k_t_powerV, 48, .inr (.inl t_powerV))) :: R) sz)) 0 0 (va_A ((h_t, .inr (3, [.int t_a, .int t_b, z_t_2, .ref h_t_powerU, .ref h_t_powerV, z_t_5, .int t_powers, z_t_7])) :: (h_t_powerU, .inl (k_t_powerU, 48, .inr (.inl t_powerU))) :: (h_t_powerV, .inl (k_t_powerV, 48, .inr (.inl t_powerV))) :: R) sz) := by
  refine ct_start (QF := fun A => QV D ((h_t, .inr (3, [.int t_a, .int t_b, z_t_2, .ref h_t_powerU, .ref h_t_powerV, z_t_5, .int o_t_powers, z_t_7])) :: (h_t_powerU, .inl (k_t_powerU, 48, .inr (.inl o_t_powerU))) :: (h_t_powerV, .inl (k_t_powerV, 48, .inr (.inl o_t_powerV))) :: R) A) ?_ ?_ ?_
  · decide +kernel
  · exact Nat.le_of_ble_eq_true rfl
  intro p e s m args below meth c A ls S hr hlk hnm hS hA hP hD hK hN hl
  have S : CallFix p m c cX3_fillPowers 2 s args AL "DigitBench$Root" := S
  have hx := S.1
  have hb := S.2.1
  have hown := S.2.2.2.1
  have ha := S.2.2.2.2
  have hl : lv_has ls 2 [(0, .ref h_t)] := hl
  have L21 : ∀ (Q : State → Prop) (n : Nat) (l1 : Int32) (t_powers : Int32) (t_powerU : Nat → Int64) (t_powerV : Nat → Int64) (x_t_powers : Int32) (x_t_powerU : Nat → Int64) (x_t_powerV : Nat → Int64), f_X3_fillPowers_L21 t_a t_b n l1 t_powers t_powerU t_powerV = some (x_t_powers, x_t_powerU, x_t_powerV) → ∀ (H : Heap) (locs : List Loc) (ls : Array Slot), va_P D vwCl ((h_t, .inr (3, [.int t_a, .int t_b, z_t_2, .ref h_t_powerU, .ref h_t_powerV, z_t_5, .int t_powers, z_t_7])) :: (h_t_powerU, .inl (k_t_powerU, 48, .inr (.inl t_powerU))) :: (h_t_powerV, .inl (k_t_powerV, 48, .inr (.inl t_powerV))) :: R) H → va_D A ((h_t, .inr (3, [.int t_a, .int t_b, z_t_2, .ref h_t_powerU, .ref h_t_powerV, z_t_5, .int t_powers, z_t_7])) :: (h_t_powerU, .inl (k_t_powerU, 48, .inr (.inl t_powerU))) :: (h_t_powerV, .inl (k_t_powerV, 48, .inr (.inl t_powerV))) :: R) → va_S A s.heap H locs → lv_has ls 2 [(0, .ref h_t), (1, .int l1)] → (∀ (H : Heap) (locs : List Loc) (ls : Array Slot), va_P D vwCl ((h_t, .inr (3, [.int t_a, .int t_b, z_t_2, .ref h_t_powerU, .ref h_t_powerV, z_t_5, .int x_t_powers, z_t_7])) :: (h_t_powerU, .inl (k_t_powerU, 48, .inr (.inl x_t_powerU))) :: (h_t_powerV, .inl (k_t_powerV, 48, .inr (.inl x_t_powerV))) :: R) H → va_D A ((h_t, .inr (3, [.int t_a, .int t_b, z_t_2, .ref h_t_powerU, .ref h_t_powerV, z_t_5, .int x_t_powers, z_t_7])) :: (h_t_powerU, .inl (k_t_powerU, 48, .inr (.inl x_t_powerU))) :: (h_t_powerV, .inl (k_t_powerV, 48, .inr (.inl x_t_powerV))) :: R) → va_S A s.heap H locs → lv_has ls 2 [] → W p l e { frames := 0, cells := 0, slots := 0, locals := 0 } s m args below meth c H locs 0 0 Q (F0 m 107 ls [])) → W p l e { frames := 0, cells := 0, slots := 0, locals := 0 } s m args below meth c H locs 0 0 Q (F0 m 21 ls []) := by
    intro Q n
    induction n with
    | zero =>
      intro l1 t_powers t_powerU t_powerV x_t_powers x_t_powerU x_t_powerV h
      rw [f_X3_fillPowers_L21] at h; cases h
    | succ n ih =>
      intro l1 t_powers t_powerU t_powerV x_t_powers x_t_powerU x_t_powerV h H locs ls hP hD hS hl kk0
      rw [f_X3_fillPowers_L21] at h
      refine lv_iload_n hx hb dX3_fillPowers_21 rfl (lv_at hl 1 rfl) ?_
      refine lv_bipush (v := 48) hx hb dX3_fillPowers_22 (by decide) ?_
      refine lv_icmp_ge (tgt := 107) hx hb dX3_fillPowers_24 (by decide) (fun c3 => ?_) (fun c3 => ?_)
      · have h := br_pos c3 h
        cases h
        exact kk0 _ _ _ hP hD hS (lv_sub hl [] rfl)
      · have h := br_neg c3 h
        refine lv_aload_n hx hb dX3_fillPowers_27 rfl (lv_at hl 0 rfl) ?_
        refine va_get (D := D) (ci := 3) (v := .ref h_t_powerV) (C := RX3) (T := TX3) (N := 8) hx hb ha ix3 hown hK hP 0 rfl rfl 4 (by decide) (ha _ q124) (fun _ h9 => h9) rfl dX3_fillPowers_28 ?_
        refine lv_iload_n hx hb dX3_fillPowers_31 rfl (lv_at hl 1 rfl) ?_
        refine lv_iconst (v := 1) hx hb dX3_fillPowers_32 (by decide) ?_
        refine lv_isub hx hb dX3_fillPowers_33 ?_
        obtain ⟨i4, h⟩ := ix_ok h
        refine va_lald hx hb hK hP 2 1 rfl rfl i4 dX3_fillPowers_34 ?_
        refine lv_ldc2 (v := 1000000) hx hb hown (ha _ q106) dX3_fillPowers_35 ?_
        refine xl_gt (tgt := 107) hx hb dX3_fillPowers_38 dX3_fillPowers_39 (by decide) (fun c5 => ?_) (fun c5 => ?_)
        · have h := br_pos c5 h
          cases h
          exact kk0 _ _ _ hP hD hS (lv_sub hl [] rfl)
        · have h := br_neg c5 h
          refine lv_aload_n hx hb dX3_fillPowers_42 rfl (lv_at hl 0 rfl) ?_
          refine va_get (D := D) (ci := 3) (v := .ref h_t_powerU) (C := RX3) (T := TX3) (N := 8) hx hb ha ix3 hown hK hP 0 rfl rfl 3 (by decide) (ha _ q122) (fun _ h9 => h9) rfl dX3_fillPowers_43 ?_
          refine lv_iload_n hx hb dX3_fillPowers_46 rfl (lv_at hl 1 rfl) ?_
          refine lv_aload_n hx hb dX3_fillPowers_47 rfl (lv_at hl 0 rfl) ?_
          refine va_get (D := D) (ci := 3) (v := .int t_b) (C := RX3) (T := TX3) (N := 8) hx hb ha ix3 hown hK hP 0 rfl rfl 1 (by decide) (ha _ q118) (fun _ h9 => h9) rfl dX3_fillPowers_48 ?_
          refine lv_i2l (v := t_b.toInt64) hx hb dX3_fillPowers_51 rfl ?_
          refine lv_aload_n hx hb dX3_fillPowers_52 rfl (lv_at hl 0 rfl) ?_
          refine va_get (D := D) (ci := 3) (v := .ref h_t_powerV) (C := RX3) (T := TX3) (N := 8) hx hb ha ix3 hown hK hP 0 rfl rfl 4 (by decide) (ha _ q124) (fun _ h9 => h9) rfl dX3_fillPowers_53 ?_
          refine lv_iload_n hx hb dX3_fillPowers_56 rfl (lv_at hl 1 rfl) ?_
          refine lv_iconst (v := 1) hx hb dX3_fillPowers_57 (by decide) ?_
          refine lv_isub hx hb dX3_fillPowers_58 ?_
          obtain ⟨i6, h⟩ := ix_ok h
          refine va_lald hx hb hK hP 2 1 rfl rfl i6 dX3_fillPowers_59 ?_
          refine lv_lmul hx hb dX3_fillPowers_60 ?_
          obtain ⟨i7, h⟩ := ix_ok h
          refine va_last hx hb hK hP hD hS 1 0 rfl rfl i7 dX3_fillPowers_61 (fun H locs hP hD hS => ?_)
          have hP : va_P D vwCl ((h_t, .inr (3, [.int t_a, .int t_b, z_t_2, .ref h_t_powerU, .ref h_t_powerV, z_t_5, .int t_powers, z_t_7])) :: (h_t_powerU, .inl (k_t_powerU, 48, .inr (.inl (vp_updL t_powerU l1.toNatClampNeg (t_b.toInt64 * (t_powerV (l1 - 1).toNatClampNeg)))))) :: (h_t_powerV, .inl (k_t_powerV, 48, .inr (.inl t_powerV))) :: R) H := hP
          have hD : va_D A ((h_t, .inr (3, [.int t_a, .int t_b, z_t_2, .ref h_t_powerU, .ref h_t_powerV, z_t_5, .int t_powers, z_t_7])) :: (h_t_powerU, .inl (k_t_powerU, 48, .inr (.inl (vp_updL t_powerU l1.toNatClampNeg (t_b.toInt64 * (t_powerV (l1 - 1).toNatClampNeg)))))) :: (h_t_powerV, .inl (k_t_powerV, 48, .inr (.inl t_powerV))) :: R) := hD
          refine lv_aload_n hx hb dX3_fillPowers_62 rfl (lv_at hl 0 rfl) ?_
          refine va_get (D := D) (ci := 3) (v := .ref h_t_powerV) (C := RX3) (T := TX3) (N := 8) hx hb ha ix3 hown hK hP 0 rfl rfl 4 (by decide) (ha _ q124) (fun _ h9 => h9) rfl dX3_fillPowers_63 ?_
          refine lv_iload_n hx hb dX3_fillPowers_66 rfl (lv_at hl 1 rfl) ?_
          refine lv_aload_n hx hb dX3_fillPowers_67 rfl (lv_at hl 0 rfl) ?_
          refine va_get (D := D) (ci := 3) (v := .ref h_t_powerU) (C := RX3) (T := TX3) (N := 8) hx hb ha ix3 hown hK hP 0 rfl rfl 3 (by decide) (ha _ q122) (fun _ h9 => h9) rfl dX3_fillPowers_68 ?_
          refine lv_iload_n hx hb dX3_fillPowers_71 rfl (lv_at hl 1 rfl) ?_
          refine lv_iconst (v := 1) hx hb dX3_fillPowers_72 (by decide) ?_
          refine lv_isub hx hb dX3_fillPowers_73 ?_
          obtain ⟨i8, h⟩ := ix_ok h
          refine va_lald hx hb hK hP 1 0 rfl rfl i8 dX3_fillPowers_74 ?_
          refine lv_aload_n hx hb dX3_fillPowers_75 rfl (lv_at hl 0 rfl) ?_
          refine va_get (D := D) (ci := 3) (v := .int t_a) (C := RX3) (T := TX3) (N := 8) hx hb ha ix3 hown hK hP 0 rfl rfl 0 (by decide) (ha _ q115) (fun _ h9 => h9) rfl dX3_fillPowers_76 ?_
          refine lv_i2l (v := t_a.toInt64) hx hb dX3_fillPowers_79 rfl ?_
          refine lv_aload_n hx hb dX3_fillPowers_80 rfl (lv_at hl 0 rfl) ?_
          refine va_get (D := D) (ci := 3) (v := .ref h_t_powerV) (C := RX3) (T := TX3) (N := 8) hx hb ha ix3 hown hK hP 0 rfl rfl 4 (by decide) (ha _ q124) (fun _ h9 => h9) rfl dX3_fillPowers_81 ?_
          refine lv_iload_n hx hb dX3_fillPowers_84 rfl (lv_at hl 1 rfl) ?_
          refine lv_iconst (v := 1) hx hb dX3_fillPowers_85 (by decide) ?_
          refine lv_isub hx hb dX3_fillPowers_86 ?_
          obtain ⟨i9, h⟩ := ix_ok h
          refine va_lald hx hb hK hP 2 1 rfl rfl i9 dX3_fillPowers_87 ?_
          refine lv_lmul hx hb dX3_fillPowers_88 ?_
          refine lv_ladd hx hb dX3_fillPowers_89 ?_
          obtain ⟨i10, h⟩ := ix_ok h
          refine va_last hx hb hK hP hD hS 2 1 rfl rfl i10 dX3_fillPowers_90 (fun H locs hP hD hS => ?_)
          have hP : va_P D vwCl ((h_t, .inr (3, [.int t_a, .int t_b, z_t_2, .ref h_t_powerU, .ref h_t_powerV, z_t_5, .int t_powers, z_t_7])) :: (h_t_powerU, .inl (k_t_powerU, 48, .inr (.inl (vp_updL t_powerU l1.toNatClampNeg (t_b.toInt64 * (t_powerV (l1 - 1).toNatClampNeg)))))) :: (h_t_powerV, .inl (k_t_powerV, 48, .inr (.inl (vp_updL t_powerV l1.toNatClampNeg (((vp_updL t_powerU l1.toNatClampNeg (t_b.toInt64 * (t_powerV (l1 - 1).toNatClampNeg))) (l1 - 1).toNatClampNeg) + (t_a.toInt64 * (t_powerV (l1 - 1).toNatClampNeg))))))) :: R) H := hP
          have hD : va_D A ((h_t, .inr (3, [.int t_a, .int t_b, z_t_2, .ref h_t_powerU, .ref h_t_powerV, z_t_5, .int t_powers, z_t_7])) :: (h_t_powerU, .inl (k_t_powerU, 48, .inr (.inl (vp_updL t_powerU l1.toNatClampNeg (t_b.toInt64 * (t_powerV (l1 - 1).toNatClampNeg)))))) :: (h_t_powerV, .inl (k_t_powerV, 48, .inr (.inl (vp_updL t_powerV l1.toNatClampNeg (((vp_updL t_powerU l1.toNatClampNeg (t_b.toInt64 * (t_powerV (l1 - 1).toNatClampNeg))) (l1 - 1).toNatClampNeg) + (t_a.toInt64 * (t_powerV (l1 - 1).toNatClampNeg))))))) :: R) := hD
          refine lv_aload_n hx hb dX3_fillPowers_91 rfl (lv_at hl 0 rfl) ?_
          refine lv_dup hx hb dX3_fillPowers_92 rfl ?_
          refine va_get (D := D) (ci := 3) (v := .int t_powers) (C := RX3) (T := TX3) (N := 8) hx hb ha ix3 hown hK hP 0 rfl rfl 6 (by decide) (ha _ q127) (fun _ h9 => h9) rfl dX3_fillPowers_93 ?_
          refine lv_iconst (v := 1) hx hb dX3_fillPowers_96 (by decide) ?_
          refine lv_iadd hx hb dX3_fillPowers_97 ?_
          refine va_put (D := D) (ci := 3) (v := .int (t_powers + 1)) (ty := .int) (C := RX3) (T := TX3) (N := 8) hx hb ha ix3 tyX3 tyX3_ok nmX3 hown hK hP hD hS 0 rfl rfl 6 (by decide) (ha _ q127) (fun _ h9 => h9) rfl (by decide +kernel) rfl rfl (Nat.le_of_ble_eq_true rfl) dX3_fillPowers_98 (fun H locs hP hD hS => ?_)
          have hP : va_P D vwCl ((h_t, .inr (3, [.int t_a, .int t_b, z_t_2, .ref h_t_powerU, .ref h_t_powerV, z_t_5, .int (t_powers + 1), z_t_7])) :: (h_t_powerU, .inl (k_t_powerU, 48, .inr (.inl (vp_updL t_powerU l1.toNatClampNeg (t_b.toInt64 * (t_powerV (l1 - 1).toNatClampNeg)))))) :: (h_t_powerV, .inl (k_t_powerV, 48, .inr (.inl (vp_updL t_powerV l1.toNatClampNeg (((vp_updL t_powerU l1.toNatClampNeg (t_b.toInt64 * (t_powerV (l1 - 1).toNatClampNeg))) (l1 - 1).toNatClampNeg) + (t_a.toInt64 * (t_powerV (l1 - 1).toNatClampNeg))))))) :: R) H := hP
          have hD : va_D A ((h_t, .inr (3, [.int t_a, .int t_b, z_t_2, .ref h_t_powerU, .ref h_t_powerV, z_t_5, .int (t_powers + 1), z_t_7])) :: (h_t_powerU, .inl (k_t_powerU, 48, .inr (.inl (vp_updL t_powerU l1.toNatClampNeg (t_b.toInt64 * (t_powerV (l1 - 1).toNatClampNeg)))))) :: (h_t_powerV, .inl (k_t_powerV, 48, .inr (.inl (vp_updL t_powerV l1.toNatClampNeg (((vp_updL t_powerU l1.toNatClampNeg (t_b.toInt64 * (t_powerV (l1 - 1).toNatClampNeg))) (l1 - 1).toNatClampNeg) + (t_a.toInt64 * (t_powerV (l1 - 1).toNatClampNeg))))))) :: R) := hD
          refine lv_iinc (v := (l1 + 1)) (lv' := [(1, .int (l1 + 1)), (0, .ref h_t)]) hx hb dX3_fillPowers_101 hl (k := 1) rfl rfl (by decide) rfl (fun ls hl => ?_)
          refine lv_goto (tgt := 21) hx hb dX3_fillPowers_104 (by decide) ?_
          exact ih (l1 + 1) (t_powers + 1) (vp_updL t_powerU l1.toNatClampNeg (t_b.toInt64 * (t_powerV (l1 - 1).toNatClampNeg))) (vp_updL t_powerV l1.toNatClampNeg (((vp_updL t_powerU l1.toNatClampNeg (t_b.toInt64 * (t_powerV (l1 - 1).toNatClampNeg))) (l1 - 1).toNatClampNeg) + (t_a.toInt64 * (t_powerV (l1 - 1).toNatClampNeg)))) _ _ _ h _ _ _ hP hD hS (lv_sub hl [1, 0] rfl) kk0
  unfold f_X3_fillPowers at h
  refine lv_aload_n hx hb dX3_fillPowers_0 rfl (lv_at hl 0 rfl) ?_
  refine va_get (D := D) (ci := 3) (v := .ref h_t_powerU) (C := RX3) (T := TX3) (N := 8) hx hb ha ix3 hown hK hP 0 rfl rfl 3 (by decide) (ha _ q122) (fun _ h9 => h9) rfl dX3_fillPowers_1 ?_
  refine lv_iconst (v := 0) hx hb dX3_fillPowers_4 (by decide) ?_
  refine lv_lconst (v := 1) hx hb dX3_fillPowers_5 (by decide) ?_
  obtain ⟨i1, h⟩ := ix_ok h
  refine va_last hx hb hK hP hD hS 1 0 rfl rfl i1 dX3_fillPowers_6 (fun H locs hP hD hS => ?_)
  have hP : va_P D vwCl ((h_t, .inr (3, [.int t_a, .int t_b, z_t_2, .ref h_t_powerU, .ref h_t_powerV, z_t_5, .int t_powers, z_t_7])) :: (h_t_powerU, .inl (k_t_powerU, 48, .inr (.inl (vp_updL t_powerU (0 : Int32).toNatClampNeg 1)))) :: (h_t_powerV, .inl (k_t_powerV, 48, .inr (.inl t_powerV))) :: R) H := hP
  have hD : va_D A ((h_t, .inr (3, [.int t_a, .int t_b, z_t_2, .ref h_t_powerU, .ref h_t_powerV, z_t_5, .int t_powers, z_t_7])) :: (h_t_powerU, .inl (k_t_powerU, 48, .inr (.inl (vp_updL t_powerU (0 : Int32).toNatClampNeg 1)))) :: (h_t_powerV, .inl (k_t_powerV, 48, .inr (.inl t_powerV))) :: R) := hD
  refine lv_aload_n hx hb dX3_fillPowers_7 rfl (lv_at hl 0 rfl) ?_
  refine va_get (D := D) (ci := 3) (v := .ref h_t_powerV) (C := RX3) (T := TX3) (N := 8) hx hb ha ix3 hown hK hP 0 rfl rfl 4 (by decide) (ha _ q124) (fun _ h9 => h9) rfl dX3_fillPowers_8 ?_
  refine lv_iconst (v := 0) hx hb dX3_fillPowers_11 (by decide) ?_
  refine lv_lconst (v := 0) hx hb dX3_fillPowers_12 (by decide) ?_
  obtain ⟨i2, h⟩ := ix_ok h
  refine va_last hx hb hK hP hD hS 2 1 rfl rfl i2 dX3_fillPowers_13 (fun H locs hP hD hS => ?_)
  have hP : va_P D vwCl ((h_t, .inr (3, [.int t_a, .int t_b, z_t_2, .ref h_t_powerU, .ref h_t_powerV, z_t_5, .int t_powers, z_t_7])) :: (h_t_powerU, .inl (k_t_powerU, 48, .inr (.inl (vp_updL t_powerU (0 : Int32).toNatClampNeg 1)))) :: (h_t_powerV, .inl (k_t_powerV, 48, .inr (.inl (vp_updL t_powerV (0 : Int32).toNatClampNeg 0)))) :: R) H := hP
  have hD : va_D A ((h_t, .inr (3, [.int t_a, .int t_b, z_t_2, .ref h_t_powerU, .ref h_t_powerV, z_t_5, .int t_powers, z_t_7])) :: (h_t_powerU, .inl (k_t_powerU, 48, .inr (.inl (vp_updL t_powerU (0 : Int32).toNatClampNeg 1)))) :: (h_t_powerV, .inl (k_t_powerV, 48, .inr (.inl (vp_updL t_powerV (0 : Int32).toNatClampNeg 0)))) :: R) := hD
  refine lv_aload_n hx hb dX3_fillPowers_14 rfl (lv_at hl 0 rfl) ?_
  refine lv_iconst (v := 1) hx hb dX3_fillPowers_15 (by decide) ?_
  refine va_put (D := D) (ci := 3) (v := .int 1) (ty := .int) (C := RX3) (T := TX3) (N := 8) hx hb ha ix3 tyX3 tyX3_ok nmX3 hown hK hP hD hS 0 rfl rfl 6 (by decide) (ha _ q127) (fun _ h9 => h9) rfl (by decide +kernel) rfl rfl (Nat.le_of_ble_eq_true rfl) dX3_fillPowers_16 (fun H locs hP hD hS => ?_)
  have hP : va_P D vwCl ((h_t, .inr (3, [.int t_a, .int t_b, z_t_2, .ref h_t_powerU, .ref h_t_powerV, z_t_5, .int 1, z_t_7])) :: (h_t_powerU, .inl (k_t_powerU, 48, .inr (.inl (vp_updL t_powerU (0 : Int32).toNatClampNeg 1)))) :: (h_t_powerV, .inl (k_t_powerV, 48, .inr (.inl (vp_updL t_powerV (0 : Int32).toNatClampNeg 0)))) :: R) H := hP
  have hD : va_D A ((h_t, .inr (3, [.int t_a, .int t_b, z_t_2, .ref h_t_powerU, .ref h_t_powerV, z_t_5, .int 1, z_t_7])) :: (h_t_powerU, .inl (k_t_powerU, 48, .inr (.inl (vp_updL t_powerU (0 : Int32).toNatClampNeg 1)))) :: (h_t_powerV, .inl (k_t_powerV, 48, .inr (.inl (vp_updL t_powerV (0 : Int32).toNatClampNeg 0)))) :: R) := hD
  refine lv_iconst (v := 1) hx hb dX3_fillPowers_19 (by decide) ?_
  refine lv_istore_n (lv' := [(1, .int 1), (0, .ref h_t)]) hx hb dX3_fillPowers_20 rfl hl (by decide) rfl (fun ls hl => ?_)
  obtain ⟨x_t_powers_L21_10, x_t_powerU_L21_10, x_t_powerV_L21_10, e_L21_10, h⟩ := bnd3_ok h
  refine L21 _ _ 1 1 (vp_updL t_powerU (0 : Int32).toNatClampNeg 1) (vp_updL t_powerV (0 : Int32).toNatClampNeg 0) x_t_powers_L21_10 x_t_powerU_L21_10 x_t_powerV_L21_10 e_L21_10 _ _ _ hP hD hS (lv_sub hl [1, 0] rfl) ?_
  intro H locs ls hP hD hS hl
  cases h
  exact rt_v S hr hlk hP hD hS dX3_fillPowers_107
noncomputable def f_X3_top (t_a : Int32) (t_b : Int32) : Option (Int32) :=
  if t_b ≤ 0 then (
   some (t_a - 1)
  ) else (
   some t_a
  )
set_option maxHeartbeats 4000000 in
set_option maxRecDepth 100000 in
theorem c_X3_top (l : Launch) (D : va_G) (R : va_W) (h_t : Nat) (t_a : Int32) (t_b : Int32) (z_t_2 : Value) (z_t_3 : Value) (z_t_4 : Value) (z_t_5 : Value) (z_t_6 : Value) (z_t_7 : Value) (r : Int32)  (h : f_X3_top t_a t_b = some r) (sz : Nat) : Met l yX3_top (WD yX3_top cX3_top 1 (some .int)) ({ frames := 0, cells := 0, slots := 0, locals := 0 }) (va_Pc [.ref h_t] (PcW D [] ((h_t, .inr (3, [.int t_a, .int t_b, z_t_2, z_t_3, z_t_4, z_t_5, z_t_6, z_t_7])) :: R) sz)) (QI D r ((h_t, .inr (3, [.int t_a, .int t_b, z_t_2, z_t_3, z_t_4, z_t_5, z_t_6, z_t_7])) :: R) (va_A ((h_t, .inr (3, [.int t_a, .int t_b, z_t_2, z_t_3, z_t_4, z_t_5, z_t_6, z_t_7])) :: R) sz)) 0 0 (va_A ((h_t, .inr (3, [.int t_a, .int t_b, z_t_2, z_t_3, z_t_4, z_t_5, z_t_6, z_t_7])) :: R) sz) := by
  refine ct_start (QF := fun A => QI D r ((h_t, .inr (3, [.int t_a, .int t_b, z_t_2, z_t_3, z_t_4, z_t_5, z_t_6, z_t_7])) :: R) A) ?_ ?_ ?_
  · decide +kernel
  · exact Nat.le_of_ble_eq_true rfl
  intro p e s m args below meth c A ls S hr hlk hnm hS hA hP hD hK hN hl
  have S : CallFix p m c cX3_top 1 s args AL "DigitBench$Root" := S
  have hx := S.1
  have hb := S.2.1
  have hown := S.2.2.2.1
  have ha := S.2.2.2.2
  have hl : lv_has ls 1 [(0, .ref h_t)] := hl
  unfold f_X3_top at h
  refine lv_aload_n hx hb dX3_top_0 rfl (lv_at hl 0 rfl) ?_
  refine va_get (D := D) (ci := 3) (v := .int t_b) (C := RX3) (T := TX3) (N := 8) hx hb ha ix3 hown hK hP 0 rfl rfl 1 (by decide) (ha _ q118) (fun _ h9 => h9) rfl dX3_top_1 ?_
  refine lv_if_le (tgt := 14) hx hb dX3_top_4 (by decide) (fun c1 => ?_) (fun c1 => ?_)
  · have h := br_pos c1 h
    refine lv_aload_n hx hb dX3_top_14 rfl (lv_at hl 0 rfl) ?_
    refine va_get (D := D) (ci := 3) (v := .int t_a) (C := RX3) (T := TX3) (N := 8) hx hb ha ix3 hown hK hP 0 rfl rfl 0 (by decide) (ha _ q115) (fun _ h9 => h9) rfl dX3_top_15 ?_
    refine lv_iconst (v := 1) hx hb dX3_top_18 (by decide) ?_
    refine lv_isub hx hb dX3_top_19 ?_
    cases h
    exact rt_i S hr hlk hP hD hS dX3_top_20
  · have h := br_neg c1 h
    refine lv_aload_n hx hb dX3_top_7 rfl (lv_at hl 0 rfl) ?_
    refine va_get (D := D) (ci := 3) (v := .int t_a) (C := RX3) (T := TX3) (N := 8) hx hb ha ix3 hown hK hP 0 rfl rfl 0 (by decide) (ha _ q115) (fun _ h9 => h9) rfl dX3_top_8 ?_
    refine lv_goto (tgt := 20) hx hb dX3_top_11 (by decide) ?_
    cases h
    exact rt_i S hr hlk hP hD hS dX3_top_20
noncomputable def f_X3_fillRowCounts_L27 (t_a : Int32) (t_b : Int32) : Nat → Int32 → Int32 → (Nat → Int64) →  Option (Int32 × (Nat → Int64))
  | 0, _, _, _ => none
  | n + 1, l1, t_counted, t_rowCounts => (
    if 48 ≤ l1 then (
     some (t_counted, t_rowCounts)
    ) else (
     if l1 ≤ 16 then (
      gd (ixb (l1 - 1) 48) (
       gd (ixb (l1 - 2) 48) (
        gd (ixb l1 48) (
         f_X3_fillRowCounts_L27 t_a t_b n (l1 + 1) (t_counted + 1) (vp_updL t_rowCounts l1.toNatClampNeg ((t_a.toInt64 * (t_rowCounts (l1 - 1).toNatClampNeg)) + (t_b.toInt64 * (t_rowCounts (l1 - 2).toNatClampNeg))))
        )
       )
      )
     ) else (
      gd (ixb (l1 - 1) 48) (
       if 1000000 < (t_rowCounts (l1 - 1).toNatClampNeg) then (
        some (t_counted, t_rowCounts)
       ) else (
        gd (ixb (l1 - 1) 48) (
         gd (ixb (l1 - 2) 48) (
          gd (ixb l1 48) (
           f_X3_fillRowCounts_L27 t_a t_b n (l1 + 1) (t_counted + 1) (vp_updL t_rowCounts l1.toNatClampNeg ((t_a.toInt64 * (t_rowCounts (l1 - 1).toNatClampNeg)) + (t_b.toInt64 * (t_rowCounts (l1 - 2).toNatClampNeg))))
          )
         )
        )
       )
      )
     )
    ))
noncomputable def f_X3_fillRowCounts (t_a : Int32) (t_b : Int32) (t_counted : Int32) (t_rowCounts : Nat → Int64) : Option (Int32 × (Nat → Int64)) :=
  gd (ixb 0 48) (
   bnd1 (f_X3_top t_a t_b) fun r_c13_1 => (
    gd (ixb 1 48) (
     bnd2 (f_X3_fillRowCounts_L27 t_a t_b FU 2 2 (vp_updL (vp_updL t_rowCounts (0 : Int32).toNatClampNeg 1) (1 : Int32).toNatClampNeg ((r_c13_1 + 1).toInt64))) fun x_t_counted_L27_13 x_t_rowCounts_L27_13 => (
      some (x_t_counted_L27_13, x_t_rowCounts_L27_13)
     )
    )
   )
  )
set_option maxHeartbeats 4000000 in
set_option maxRecDepth 100000 in
theorem c_X3_fillRowCounts (l : Launch) (D : va_G) (R : va_W) (h_t : Nat) (t_a : Int32) (t_b : Int32) (z_t_2 : Value) (z_t_3 : Value) (z_t_4 : Value) (z_t_6 : Value) (t_counted : Int32) (h_t_rowCounts : Nat) (k_t_rowCounts : ClassId) (t_rowCounts : Nat → Int64) (o_t_counted : Int32) (o_t_rowCounts : Nat → Int64)  (h : f_X3_fillRowCounts t_a t_b t_counted t_rowCounts = some (o_t_counted, o_t_rowCounts)) (sz : Nat) : Met l yX3_fillRowCounts (WD yX3_fillRowCounts cX3_fillRowCounts 2 none) ({ frames := 1, cells := 0, slots := 0, locals := 20 }) (va_Pc [.ref h_t] (PcW D [(k_t_rowCounts, .long)] ((h_t, .inr (3, [.int t_a, .int t_b, z_t_2, z_t_3, z_t_4, .ref h_t_rowCounts, z_t_6, .int t_counted])) :: (h_t_rowCounts, .inl (k_t_rowCounts, 48, .inr (.inl t_rowCounts))) :: R) sz)) (QV D ((h_t, .inr (3, [.int t_a, .int t_b, z_t_2, z_t_3, z_t_4, .ref h_t_rowCounts, z_t_6, .int o_t_counted])) :: (h_t_rowCounts, .inl (k_t_rowCounts, 48, .inr (.inl o_t_rowCounts))) :: R) (va_A ((h_t, .inr (3, [.int t_a, .int t_b, z_t_2, z_t_3, z_t_4, .ref h_t_rowCounts, z_t_6, .int t_counted])) :: (h_t_rowCounts, .inl (k_t_rowCounts, 48, .inr (.inl t_rowCounts))) :: R) sz)) 0 0 (va_A ((h_t, .inr (3, [.int t_a, .int t_b, z_t_2, z_t_3, z_t_4, .ref h_t_rowCounts, z_t_6, .int t_counted])) :: (h_t_rowCounts, .inl (k_t_rowCounts, 48, .inr (.inl t_rowCounts))) :: R) sz) := by
  refine ct_start (QF := fun A => QV D ((h_t, .inr (3, [.int t_a, .int t_b, z_t_2, z_t_3, z_t_4, .ref h_t_rowCounts, z_t_6, .int o_t_counted])) :: (h_t_rowCounts, .inl (k_t_rowCounts, 48, .inr (.inl o_t_rowCounts))) :: R) A) ?_ ?_ ?_
  · decide +kernel
  · exact Nat.le_of_ble_eq_true rfl
  intro p e s m args below meth c A ls S hr hlk hnm hS hA hP hD hK hN hl
  have S : CallFix p m c cX3_fillRowCounts 2 s args AL "DigitBench$Root" := S
  have hx := S.1
  have hb := S.2.1
  have hown := S.2.2.2.1
  have ha := S.2.2.2.2
  have hl : lv_has ls 2 [(0, .ref h_t)] := hl
  have L27 : ∀ (Q : State → Prop) (n : Nat) (l1 : Int32) (t_counted : Int32) (t_rowCounts : Nat → Int64) (x_t_counted : Int32) (x_t_rowCounts : Nat → Int64), f_X3_fillRowCounts_L27 t_a t_b n l1 t_counted t_rowCounts = some (x_t_counted, x_t_rowCounts) → ∀ (H : Heap) (locs : List Loc) (ls : Array Slot), va_P D vwCl ((h_t, .inr (3, [.int t_a, .int t_b, z_t_2, z_t_3, z_t_4, .ref h_t_rowCounts, z_t_6, .int t_counted])) :: (h_t_rowCounts, .inl (k_t_rowCounts, 48, .inr (.inl t_rowCounts))) :: R) H → va_D A ((h_t, .inr (3, [.int t_a, .int t_b, z_t_2, z_t_3, z_t_4, .ref h_t_rowCounts, z_t_6, .int t_counted])) :: (h_t_rowCounts, .inl (k_t_rowCounts, 48, .inr (.inl t_rowCounts))) :: R) → va_S A s.heap H locs → lv_has ls 2 [(0, .ref h_t), (1, .int l1)] → (∀ (H : Heap) (locs : List Loc) (ls : Array Slot), va_P D vwCl ((h_t, .inr (3, [.int t_a, .int t_b, z_t_2, z_t_3, z_t_4, .ref h_t_rowCounts, z_t_6, .int x_t_counted])) :: (h_t_rowCounts, .inl (k_t_rowCounts, 48, .inr (.inl x_t_rowCounts))) :: R) H → va_D A ((h_t, .inr (3, [.int t_a, .int t_b, z_t_2, z_t_3, z_t_4, .ref h_t_rowCounts, z_t_6, .int x_t_counted])) :: (h_t_rowCounts, .inl (k_t_rowCounts, 48, .inr (.inl x_t_rowCounts))) :: R) → va_S A s.heap H locs → lv_has ls 2 [] → W p l e { frames := 1, cells := 0, slots := 0, locals := 20 } s m args below meth c H locs 0 0 Q (F0 m 105 ls [])) → W p l e { frames := 1, cells := 0, slots := 0, locals := 20 } s m args below meth c H locs 0 0 Q (F0 m 27 ls []) := by
    intro Q n
    induction n with
    | zero =>
      intro l1 t_counted t_rowCounts x_t_counted x_t_rowCounts h
      rw [f_X3_fillRowCounts_L27] at h; cases h
    | succ n ih =>
      intro l1 t_counted t_rowCounts x_t_counted x_t_rowCounts h H locs ls hP hD hS hl kk0
      rw [f_X3_fillRowCounts_L27] at h
      refine lv_iload_n hx hb dX3_fillRowCounts_27 rfl (lv_at hl 1 rfl) ?_
      refine lv_bipush (v := 48) hx hb dX3_fillRowCounts_28 (by decide) ?_
      refine lv_icmp_ge (tgt := 105) hx hb dX3_fillRowCounts_30 (by decide) (fun c4 => ?_) (fun c4 => ?_)
      · have h := br_pos c4 h
        cases h
        exact kk0 _ _ _ hP hD hS (lv_sub hl [] rfl)
      · have h := br_neg c4 h
        refine lv_iload_n hx hb dX3_fillRowCounts_33 rfl (lv_at hl 1 rfl) ?_
        refine lv_bipush (v := 16) hx hb dX3_fillRowCounts_34 (by decide) ?_
        refine lv_icmp_le (tgt := 54) hx hb dX3_fillRowCounts_36 (by decide) (fun c5 => ?_) (fun c5 => ?_)
        · have h := br_pos c5 h
          refine lv_aload_n hx hb dX3_fillRowCounts_54 rfl (lv_at hl 0 rfl) ?_
          refine va_get (D := D) (ci := 3) (v := .ref h_t_rowCounts) (C := RX3) (T := TX3) (N := 8) hx hb ha ix3 hown hK hP 0 rfl rfl 5 (by decide) (ha _ q126) (fun _ h9 => h9) rfl dX3_fillRowCounts_55 ?_
          refine lv_iload_n hx hb dX3_fillRowCounts_58 rfl (lv_at hl 1 rfl) ?_
          refine lv_aload_n hx hb dX3_fillRowCounts_59 rfl (lv_at hl 0 rfl) ?_
          refine va_get (D := D) (ci := 3) (v := .int t_a) (C := RX3) (T := TX3) (N := 8) hx hb ha ix3 hown hK hP 0 rfl rfl 0 (by decide) (ha _ q115) (fun _ h9 => h9) rfl dX3_fillRowCounts_60 ?_
          refine lv_i2l (v := t_a.toInt64) hx hb dX3_fillRowCounts_63 rfl ?_
          refine lv_aload_n hx hb dX3_fillRowCounts_64 rfl (lv_at hl 0 rfl) ?_
          refine va_get (D := D) (ci := 3) (v := .ref h_t_rowCounts) (C := RX3) (T := TX3) (N := 8) hx hb ha ix3 hown hK hP 0 rfl rfl 5 (by decide) (ha _ q126) (fun _ h9 => h9) rfl dX3_fillRowCounts_65 ?_
          refine lv_iload_n hx hb dX3_fillRowCounts_68 rfl (lv_at hl 1 rfl) ?_
          refine lv_iconst (v := 1) hx hb dX3_fillRowCounts_69 (by decide) ?_
          refine lv_isub hx hb dX3_fillRowCounts_70 ?_
          obtain ⟨i6, h⟩ := ix_ok h
          refine va_lald hx hb hK hP 1 0 rfl rfl i6 dX3_fillRowCounts_71 ?_
          refine lv_lmul hx hb dX3_fillRowCounts_72 ?_
          refine lv_aload_n hx hb dX3_fillRowCounts_73 rfl (lv_at hl 0 rfl) ?_
          refine va_get (D := D) (ci := 3) (v := .int t_b) (C := RX3) (T := TX3) (N := 8) hx hb ha ix3 hown hK hP 0 rfl rfl 1 (by decide) (ha _ q118) (fun _ h9 => h9) rfl dX3_fillRowCounts_74 ?_
          refine lv_i2l (v := t_b.toInt64) hx hb dX3_fillRowCounts_77 rfl ?_
          refine lv_aload_n hx hb dX3_fillRowCounts_78 rfl (lv_at hl 0 rfl) ?_
          refine va_get (D := D) (ci := 3) (v := .ref h_t_rowCounts) (C := RX3) (T := TX3) (N := 8) hx hb ha ix3 hown hK hP 0 rfl rfl 5 (by decide) (ha _ q126) (fun _ h9 => h9) rfl dX3_fillRowCounts_79 ?_
          refine lv_iload_n hx hb dX3_fillRowCounts_82 rfl (lv_at hl 1 rfl) ?_
          refine lv_iconst (v := 2) hx hb dX3_fillRowCounts_83 (by decide) ?_
          refine lv_isub hx hb dX3_fillRowCounts_84 ?_
          obtain ⟨i7, h⟩ := ix_ok h
          refine va_lald hx hb hK hP 1 0 rfl rfl i7 dX3_fillRowCounts_85 ?_
          refine lv_lmul hx hb dX3_fillRowCounts_86 ?_
          refine lv_ladd hx hb dX3_fillRowCounts_87 ?_
          obtain ⟨i8, h⟩ := ix_ok h
          refine va_last hx hb hK hP hD hS 1 0 rfl rfl i8 dX3_fillRowCounts_88 (fun H locs hP hD hS => ?_)
          have hP : va_P D vwCl ((h_t, .inr (3, [.int t_a, .int t_b, z_t_2, z_t_3, z_t_4, .ref h_t_rowCounts, z_t_6, .int t_counted])) :: (h_t_rowCounts, .inl (k_t_rowCounts, 48, .inr (.inl (vp_updL t_rowCounts l1.toNatClampNeg ((t_a.toInt64 * (t_rowCounts (l1 - 1).toNatClampNeg)) + (t_b.toInt64 * (t_rowCounts (l1 - 2).toNatClampNeg))))))) :: R) H := hP
          have hD : va_D A ((h_t, .inr (3, [.int t_a, .int t_b, z_t_2, z_t_3, z_t_4, .ref h_t_rowCounts, z_t_6, .int t_counted])) :: (h_t_rowCounts, .inl (k_t_rowCounts, 48, .inr (.inl (vp_updL t_rowCounts l1.toNatClampNeg ((t_a.toInt64 * (t_rowCounts (l1 - 1).toNatClampNeg)) + (t_b.toInt64 * (t_rowCounts (l1 - 2).toNatClampNeg))))))) :: R) := hD
          refine lv_aload_n hx hb dX3_fillRowCounts_89 rfl (lv_at hl 0 rfl) ?_
          refine lv_dup hx hb dX3_fillRowCounts_90 rfl ?_
          refine va_get (D := D) (ci := 3) (v := .int t_counted) (C := RX3) (T := TX3) (N := 8) hx hb ha ix3 hown hK hP 0 rfl rfl 7 (by decide) (ha _ q129) (fun _ h9 => h9) rfl dX3_fillRowCounts_91 ?_
          refine lv_iconst (v := 1) hx hb dX3_fillRowCounts_94 (by decide) ?_
          refine lv_iadd hx hb dX3_fillRowCounts_95 ?_
          refine va_put (D := D) (ci := 3) (v := .int (t_counted + 1)) (ty := .int) (C := RX3) (T := TX3) (N := 8) hx hb ha ix3 tyX3 tyX3_ok nmX3 hown hK hP hD hS 0 rfl rfl 7 (by decide) (ha _ q129) (fun _ h9 => h9) rfl (by decide +kernel) rfl rfl (Nat.le_of_ble_eq_true rfl) dX3_fillRowCounts_96 (fun H locs hP hD hS => ?_)
          have hP : va_P D vwCl ((h_t, .inr (3, [.int t_a, .int t_b, z_t_2, z_t_3, z_t_4, .ref h_t_rowCounts, z_t_6, .int (t_counted + 1)])) :: (h_t_rowCounts, .inl (k_t_rowCounts, 48, .inr (.inl (vp_updL t_rowCounts l1.toNatClampNeg ((t_a.toInt64 * (t_rowCounts (l1 - 1).toNatClampNeg)) + (t_b.toInt64 * (t_rowCounts (l1 - 2).toNatClampNeg))))))) :: R) H := hP
          have hD : va_D A ((h_t, .inr (3, [.int t_a, .int t_b, z_t_2, z_t_3, z_t_4, .ref h_t_rowCounts, z_t_6, .int (t_counted + 1)])) :: (h_t_rowCounts, .inl (k_t_rowCounts, 48, .inr (.inl (vp_updL t_rowCounts l1.toNatClampNeg ((t_a.toInt64 * (t_rowCounts (l1 - 1).toNatClampNeg)) + (t_b.toInt64 * (t_rowCounts (l1 - 2).toNatClampNeg))))))) :: R) := hD
          refine lv_iinc (v := (l1 + 1)) (lv' := [(1, .int (l1 + 1)), (0, .ref h_t)]) hx hb dX3_fillRowCounts_99 hl (k := 1) rfl rfl (by decide) rfl (fun ls hl => ?_)
          refine lv_goto (tgt := 27) hx hb dX3_fillRowCounts_102 (by decide) ?_
          exact ih (l1 + 1) (t_counted + 1) (vp_updL t_rowCounts l1.toNatClampNeg ((t_a.toInt64 * (t_rowCounts (l1 - 1).toNatClampNeg)) + (t_b.toInt64 * (t_rowCounts (l1 - 2).toNatClampNeg)))) _ _ h _ _ _ hP hD hS (lv_sub hl [1, 0] rfl) kk0
        · have h := br_neg c5 h
          refine lv_aload_n hx hb dX3_fillRowCounts_39 rfl (lv_at hl 0 rfl) ?_
          refine va_get (D := D) (ci := 3) (v := .ref h_t_rowCounts) (C := RX3) (T := TX3) (N := 8) hx hb ha ix3 hown hK hP 0 rfl rfl 5 (by decide) (ha _ q126) (fun _ h9 => h9) rfl dX3_fillRowCounts_40 ?_
          refine lv_iload_n hx hb dX3_fillRowCounts_43 rfl (lv_at hl 1 rfl) ?_
          refine lv_iconst (v := 1) hx hb dX3_fillRowCounts_44 (by decide) ?_
          refine lv_isub hx hb dX3_fillRowCounts_45 ?_
          obtain ⟨i9, h⟩ := ix_ok h
          refine va_lald hx hb hK hP 1 0 rfl rfl i9 dX3_fillRowCounts_46 ?_
          refine lv_ldc2 (v := 1000000) hx hb hown (ha _ q106) dX3_fillRowCounts_47 ?_
          refine xl_gt (tgt := 105) hx hb dX3_fillRowCounts_50 dX3_fillRowCounts_51 (by decide) (fun c10 => ?_) (fun c10 => ?_)
          · have h := br_pos c10 h
            cases h
            exact kk0 _ _ _ hP hD hS (lv_sub hl [] rfl)
          · have h := br_neg c10 h
            refine lv_aload_n hx hb dX3_fillRowCounts_54 rfl (lv_at hl 0 rfl) ?_
            refine va_get (D := D) (ci := 3) (v := .ref h_t_rowCounts) (C := RX3) (T := TX3) (N := 8) hx hb ha ix3 hown hK hP 0 rfl rfl 5 (by decide) (ha _ q126) (fun _ h9 => h9) rfl dX3_fillRowCounts_55 ?_
            refine lv_iload_n hx hb dX3_fillRowCounts_58 rfl (lv_at hl 1 rfl) ?_
            refine lv_aload_n hx hb dX3_fillRowCounts_59 rfl (lv_at hl 0 rfl) ?_
            refine va_get (D := D) (ci := 3) (v := .int t_a) (C := RX3) (T := TX3) (N := 8) hx hb ha ix3 hown hK hP 0 rfl rfl 0 (by decide) (ha _ q115) (fun _ h9 => h9) rfl dX3_fillRowCounts_60 ?_
            refine lv_i2l (v := t_a.toInt64) hx hb dX3_fillRowCounts_63 rfl ?_
            refine lv_aload_n hx hb dX3_fillRowCounts_64 rfl (lv_at hl 0 rfl) ?_
            refine va_get (D := D) (ci := 3) (v := .ref h_t_rowCounts) (C := RX3) (T := TX3) (N := 8) hx hb ha ix3 hown hK hP 0 rfl rfl 5 (by decide) (ha _ q126) (fun _ h9 => h9) rfl dX3_fillRowCounts_65 ?_
            refine lv_iload_n hx hb dX3_fillRowCounts_68 rfl (lv_at hl 1 rfl) ?_
            refine lv_iconst (v := 1) hx hb dX3_fillRowCounts_69 (by decide) ?_
            refine lv_isub hx hb dX3_fillRowCounts_70 ?_
            obtain ⟨i11, h⟩ := ix_ok h
            refine va_lald hx hb hK hP 1 0 rfl rfl i11 dX3_fillRowCounts_71 ?_
            refine lv_lmul hx hb dX3_fillRowCounts_72 ?_
            refine lv_aload_n hx hb dX3_fillRowCounts_73 rfl (lv_at hl 0 rfl) ?_
            refine va_get (D := D) (ci := 3) (v := .int t_b) (C := RX3) (T := TX3) (N := 8) hx hb ha ix3 hown hK hP 0 rfl rfl 1 (by decide) (ha _ q118) (fun _ h9 => h9) rfl dX3_fillRowCounts_74 ?_
            refine lv_i2l (v := t_b.toInt64) hx hb dX3_fillRowCounts_77 rfl ?_
            refine lv_aload_n hx hb dX3_fillRowCounts_78 rfl (lv_at hl 0 rfl) ?_
            refine va_get (D := D) (ci := 3) (v := .ref h_t_rowCounts) (C := RX3) (T := TX3) (N := 8) hx hb ha ix3 hown hK hP 0 rfl rfl 5 (by decide) (ha _ q126) (fun _ h9 => h9) rfl dX3_fillRowCounts_79 ?_
            refine lv_iload_n hx hb dX3_fillRowCounts_82 rfl (lv_at hl 1 rfl) ?_
            refine lv_iconst (v := 2) hx hb dX3_fillRowCounts_83 (by decide) ?_
            refine lv_isub hx hb dX3_fillRowCounts_84 ?_
            obtain ⟨i12, h⟩ := ix_ok h
            refine va_lald hx hb hK hP 1 0 rfl rfl i12 dX3_fillRowCounts_85 ?_
            refine lv_lmul hx hb dX3_fillRowCounts_86 ?_
            refine lv_ladd hx hb dX3_fillRowCounts_87 ?_
            obtain ⟨i13, h⟩ := ix_ok h
            refine va_last hx hb hK hP hD hS 1 0 rfl rfl i13 dX3_fillRowCounts_88 (fun H locs hP hD hS => ?_)
            have hP : va_P D vwCl ((h_t, .inr (3, [.int t_a, .int t_b, z_t_2, z_t_3, z_t_4, .ref h_t_rowCounts, z_t_6, .int t_counted])) :: (h_t_rowCounts, .inl (k_t_rowCounts, 48, .inr (.inl (vp_updL t_rowCounts l1.toNatClampNeg ((t_a.toInt64 * (t_rowCounts (l1 - 1).toNatClampNeg)) + (t_b.toInt64 * (t_rowCounts (l1 - 2).toNatClampNeg))))))) :: R) H := hP
            have hD : va_D A ((h_t, .inr (3, [.int t_a, .int t_b, z_t_2, z_t_3, z_t_4, .ref h_t_rowCounts, z_t_6, .int t_counted])) :: (h_t_rowCounts, .inl (k_t_rowCounts, 48, .inr (.inl (vp_updL t_rowCounts l1.toNatClampNeg ((t_a.toInt64 * (t_rowCounts (l1 - 1).toNatClampNeg)) + (t_b.toInt64 * (t_rowCounts (l1 - 2).toNatClampNeg))))))) :: R) := hD
            refine lv_aload_n hx hb dX3_fillRowCounts_89 rfl (lv_at hl 0 rfl) ?_
            refine lv_dup hx hb dX3_fillRowCounts_90 rfl ?_
            refine va_get (D := D) (ci := 3) (v := .int t_counted) (C := RX3) (T := TX3) (N := 8) hx hb ha ix3 hown hK hP 0 rfl rfl 7 (by decide) (ha _ q129) (fun _ h9 => h9) rfl dX3_fillRowCounts_91 ?_
            refine lv_iconst (v := 1) hx hb dX3_fillRowCounts_94 (by decide) ?_
            refine lv_iadd hx hb dX3_fillRowCounts_95 ?_
            refine va_put (D := D) (ci := 3) (v := .int (t_counted + 1)) (ty := .int) (C := RX3) (T := TX3) (N := 8) hx hb ha ix3 tyX3 tyX3_ok nmX3 hown hK hP hD hS 0 rfl rfl 7 (by decide) (ha _ q129) (fun _ h9 => h9) rfl (by decide +kernel) rfl rfl (Nat.le_of_ble_eq_true rfl) dX3_fillRowCounts_96 (fun H locs hP hD hS => ?_)
            have hP : va_P D vwCl ((h_t, .inr (3, [.int t_a, .int t_b, z_t_2, z_t_3, z_t_4, .ref h_t_rowCounts, z_t_6, .int (t_counted + 1)])) :: (h_t_rowCounts, .inl (k_t_rowCounts, 48, .inr (.inl (vp_updL t_rowCounts l1.toNatClampNeg ((t_a.toInt64 * (t_rowCounts (l1 - 1).toNatClampNeg)) + (t_b.toInt64 * (t_rowCounts (l1 - 2).toNatClampNeg))))))) :: R) H := hP
            have hD : va_D A ((h_t, .inr (3, [.int t_a, .int t_b, z_t_2, z_t_3, z_t_4, .ref h_t_rowCounts, z_t_6, .int (t_counted + 1)])) :: (h_t_rowCounts, .inl (k_t_rowCounts, 48, .inr (.inl (vp_updL t_rowCounts l1.toNatClampNeg ((t_a.toInt64 * (t_rowCounts (l1 - 1).toNatClampNeg)) + (t_b.toInt64 * (t_rowCounts (l1 - 2).toNatClampNeg))))))) :: R) := hD
            refine lv_iinc (v := (l1 + 1)) (lv' := [(1, .int (l1 + 1)), (0, .ref h_t)]) hx hb dX3_fillRowCounts_99 hl (k := 1) rfl rfl (by decide) rfl (fun ls hl => ?_)
            refine lv_goto (tgt := 27) hx hb dX3_fillRowCounts_102 (by decide) ?_
            exact ih (l1 + 1) (t_counted + 1) (vp_updL t_rowCounts l1.toNatClampNeg ((t_a.toInt64 * (t_rowCounts (l1 - 1).toNatClampNeg)) + (t_b.toInt64 * (t_rowCounts (l1 - 2).toNatClampNeg)))) _ _ h _ _ _ hP hD hS (lv_sub hl [1, 0] rfl) kk0
  unfold f_X3_fillRowCounts at h
  refine lv_aload_n hx hb dX3_fillRowCounts_0 rfl (lv_at hl 0 rfl) ?_
  refine va_get (D := D) (ci := 3) (v := .ref h_t_rowCounts) (C := RX3) (T := TX3) (N := 8) hx hb ha ix3 hown hK hP 0 rfl rfl 5 (by decide) (ha _ q126) (fun _ h9 => h9) rfl dX3_fillRowCounts_1 ?_
  refine lv_iconst (v := 0) hx hb dX3_fillRowCounts_4 (by decide) ?_
  refine lv_lconst (v := 1) hx hb dX3_fillRowCounts_5 (by decide) ?_
  obtain ⟨i1, h⟩ := ix_ok h
  refine va_last hx hb hK hP hD hS 1 0 rfl rfl i1 dX3_fillRowCounts_6 (fun H locs hP hD hS => ?_)
  have hP : va_P D vwCl ((h_t, .inr (3, [.int t_a, .int t_b, z_t_2, z_t_3, z_t_4, .ref h_t_rowCounts, z_t_6, .int t_counted])) :: (h_t_rowCounts, .inl (k_t_rowCounts, 48, .inr (.inl (vp_updL t_rowCounts (0 : Int32).toNatClampNeg 1)))) :: R) H := hP
  have hD : va_D A ((h_t, .inr (3, [.int t_a, .int t_b, z_t_2, z_t_3, z_t_4, .ref h_t_rowCounts, z_t_6, .int t_counted])) :: (h_t_rowCounts, .inl (k_t_rowCounts, 48, .inr (.inl (vp_updL t_rowCounts (0 : Int32).toNatClampNeg 1)))) :: R) := hD
  refine lv_aload_n hx hb dX3_fillRowCounts_7 rfl (lv_at hl 0 rfl) ?_
  refine va_get (D := D) (ci := 3) (v := .ref h_t_rowCounts) (C := RX3) (T := TX3) (N := 8) hx hb ha ix3 hown hK hP 0 rfl rfl 5 (by decide) (ha _ q126) (fun _ h9 => h9) rfl dX3_fillRowCounts_8 ?_
  refine lv_iconst (v := 1) hx hb dX3_fillRowCounts_11 (by decide) ?_
  refine lv_aload_n hx hb dX3_fillRowCounts_12 rfl (lv_at hl 0 rfl) ?_
  obtain ⟨r_c13_1, e_c13_1, h⟩ := bnd1_ok h
  refine cl_i (rn_v (ci := 3) (As := []) (rest := [.int 1, .ref h_t_rowCounts]) S (c_X3_top l D ((h_t_rowCounts, .inl (k_t_rowCounts, 48, .inr (.inl (vp_updL t_rowCounts (0 : Int32).toNatClampNeg 1)))) :: R) h_t t_a t_b (z_t_2) (z_t_3) (z_t_4) (.ref h_t_rowCounts) (z_t_6) (.int t_counted) r_c13_1 e_c13_1 _) q111 q112 q113 q50 q114 nd_X3_top ⟨Nat.le_of_ble_eq_true rfl, Nat.le_of_ble_eq_true rfl⟩ rfl rfl hP hD (hK.sub (tys' := []) [] rfl) hN rfl ⟨0, _, rfl⟩ rfl hl.1 rfl (Nat.le_of_ble_eq_true rfl) dX3_fillRowCounts_13 ⟨Nat.le_of_ble_eq_true rfl, Nat.le_of_ble_eq_true rfl⟩) hS hA hD (fun H locs hP hD hS => ?_)
  have hP : va_P D vwCl ((h_t, .inr (3, [.int t_a, .int t_b, z_t_2, z_t_3, z_t_4, .ref h_t_rowCounts, z_t_6, .int t_counted])) :: (h_t_rowCounts, .inl (k_t_rowCounts, 48, .inr (.inl (vp_updL t_rowCounts (0 : Int32).toNatClampNeg 1)))) :: R) H := hP
  have hD : va_D A ((h_t, .inr (3, [.int t_a, .int t_b, z_t_2, z_t_3, z_t_4, .ref h_t_rowCounts, z_t_6, .int t_counted])) :: (h_t_rowCounts, .inl (k_t_rowCounts, 48, .inr (.inl (vp_updL t_rowCounts (0 : Int32).toNatClampNeg 1)))) :: R) := hD
  refine lv_iconst (v := 1) hx hb dX3_fillRowCounts_16 (by decide) ?_
  refine lv_iadd hx hb dX3_fillRowCounts_17 ?_
  refine lv_i2l (v := (r_c13_1 + 1).toInt64) hx hb dX3_fillRowCounts_18 rfl ?_
  obtain ⟨i3, h⟩ := ix_ok h
  refine va_last hx hb hK hP hD hS 1 0 rfl rfl i3 dX3_fillRowCounts_19 (fun H locs hP hD hS => ?_)
  have hP : va_P D vwCl ((h_t, .inr (3, [.int t_a, .int t_b, z_t_2, z_t_3, z_t_4, .ref h_t_rowCounts, z_t_6, .int t_counted])) :: (h_t_rowCounts, .inl (k_t_rowCounts, 48, .inr (.inl (vp_updL (vp_updL t_rowCounts (0 : Int32).toNatClampNeg 1) (1 : Int32).toNatClampNeg ((r_c13_1 + 1).toInt64))))) :: R) H := hP
  have hD : va_D A ((h_t, .inr (3, [.int t_a, .int t_b, z_t_2, z_t_3, z_t_4, .ref h_t_rowCounts, z_t_6, .int t_counted])) :: (h_t_rowCounts, .inl (k_t_rowCounts, 48, .inr (.inl (vp_updL (vp_updL t_rowCounts (0 : Int32).toNatClampNeg 1) (1 : Int32).toNatClampNeg ((r_c13_1 + 1).toInt64))))) :: R) := hD
  refine lv_aload_n hx hb dX3_fillRowCounts_20 rfl (lv_at hl 0 rfl) ?_
  refine lv_iconst (v := 2) hx hb dX3_fillRowCounts_21 (by decide) ?_
  refine va_put (D := D) (ci := 3) (v := .int 2) (ty := .int) (C := RX3) (T := TX3) (N := 8) hx hb ha ix3 tyX3 tyX3_ok nmX3 hown hK hP hD hS 0 rfl rfl 7 (by decide) (ha _ q129) (fun _ h9 => h9) rfl (by decide +kernel) rfl rfl (Nat.le_of_ble_eq_true rfl) dX3_fillRowCounts_22 (fun H locs hP hD hS => ?_)
  have hP : va_P D vwCl ((h_t, .inr (3, [.int t_a, .int t_b, z_t_2, z_t_3, z_t_4, .ref h_t_rowCounts, z_t_6, .int 2])) :: (h_t_rowCounts, .inl (k_t_rowCounts, 48, .inr (.inl (vp_updL (vp_updL t_rowCounts (0 : Int32).toNatClampNeg 1) (1 : Int32).toNatClampNeg ((r_c13_1 + 1).toInt64))))) :: R) H := hP
  have hD : va_D A ((h_t, .inr (3, [.int t_a, .int t_b, z_t_2, z_t_3, z_t_4, .ref h_t_rowCounts, z_t_6, .int 2])) :: (h_t_rowCounts, .inl (k_t_rowCounts, 48, .inr (.inl (vp_updL (vp_updL t_rowCounts (0 : Int32).toNatClampNeg 1) (1 : Int32).toNatClampNeg ((r_c13_1 + 1).toInt64))))) :: R) := hD
  refine lv_iconst (v := 2) hx hb dX3_fillRowCounts_25 (by decide) ?_
  refine lv_istore_n (lv' := [(1, .int 2), (0, .ref h_t)]) hx hb dX3_fillRowCounts_26 rfl hl (by decide) rfl (fun ls hl => ?_)
  obtain ⟨x_t_counted_L27_13, x_t_rowCounts_L27_13, e_L27_13, h⟩ := bnd2_ok h
  refine L27 _ _ 2 2 (vp_updL (vp_updL t_rowCounts (0 : Int32).toNatClampNeg 1) (1 : Int32).toNatClampNeg ((r_c13_1 + 1).toInt64)) x_t_counted_L27_13 x_t_rowCounts_L27_13 e_L27_13 _ _ _ hP hD hS (lv_sub hl [1, 0] rfl) ?_
  intro H locs ls hP hD hS hl
  cases h
  exact rt_v S hr hlk hP hD hS dX3_fillRowCounts_105
noncomputable def f_X3_change (t_a : Int32) (t_b : Int32) (t_square : Int64) (t_powers : Int32) (t_counted : Int32) (t_powerU : Nat → Int64) (t_powerV : Nat → Int64) (t_rowCounts : Nat → Int64) (l1 : Int32) (l2 : Int32) : Option (Int32 × Int32 × Int32 × Int64 × Int32 × Int32 × (Nat → Int64) × (Nat → Int64) × (Nat → Int64)) :=
  if l1 < 1 then (
   some (0, t_a, t_b, t_square, t_powers, t_counted, t_powerU, t_powerV, t_rowCounts)
  ) else (
   if 9 < l1 then (
    some (0, t_a, t_b, t_square, t_powers, t_counted, t_powerU, t_powerV, t_rowCounts)
   ) else (
    if l2 < (-8) then (
     some (0, t_a, t_b, t_square, t_powers, t_counted, t_powerU, t_powerV, t_rowCounts)
    ) else (
     if 9 < l2 then (
      some (0, t_a, t_b, t_square, t_powers, t_counted, t_powerU, t_powerV, t_rowCounts)
     ) else (
      if l2 = 0 then (
       some (0, t_a, t_b, t_square, t_powers, t_counted, t_powerU, t_powerV, t_rowCounts)
      ) else (
       if l2 ≤ 0 then (
        if 2 ≤ (l1 + l2) then (
         bnd3 (f_X3_fillPowers l1 l2 t_powers t_powerU t_powerV) fun t_powers_c86_7 t_powerU_c86_7 t_powerV_c86_7 => (
          bnd2 (f_X3_fillRowCounts l1 l2 t_counted t_rowCounts) fun t_counted_c90_8 t_rowCounts_c90_8 => (
           some (1, l1, l2, ((l1.toInt64 * l1.toInt64) + (4 * l2.toInt64)), t_powers_c86_7, t_counted_c90_8, t_powerU_c86_7, t_powerV_c86_7, t_rowCounts_c90_8)
          )
         )
        ) else (
         some (0, t_a, t_b, t_square, t_powers, t_counted, t_powerU, t_powerV, t_rowCounts)
        )
       ) else (
        if l2 ≤ l1 then (
         bnd3 (f_X3_fillPowers l1 l2 t_powers t_powerU t_powerV) fun t_powers_c86_10 t_powerU_c86_10 t_powerV_c86_10 => (
          bnd2 (f_X3_fillRowCounts l1 l2 t_counted t_rowCounts) fun t_counted_c90_11 t_rowCounts_c90_11 => (
           some (1, l1, l2, ((l1.toInt64 * l1.toInt64) + (4 * l2.toInt64)), t_powers_c86_10, t_counted_c90_11, t_powerU_c86_10, t_powerV_c86_10, t_rowCounts_c90_11)
          )
         )
        ) else (
         some (0, t_a, t_b, t_square, t_powers, t_counted, t_powerU, t_powerV, t_rowCounts)
        )
       )
      )
     )
    )
   )
  )
set_option maxHeartbeats 4000000 in
set_option maxRecDepth 100000 in
theorem c_X3_change (l : Launch) (D : va_G) (R : va_W) (h_t : Nat) (t_a : Int32) (t_b : Int32) (t_square : Int64) (t_powers : Int32) (t_counted : Int32) (h_t_powerU : Nat) (k_t_powerU : ClassId) (t_powerU : Nat → Int64) (h_t_powerV : Nat) (k_t_powerV : ClassId) (t_powerV : Nat → Int64) (h_t_rowCounts : Nat) (k_t_rowCounts : ClassId) (t_rowCounts : Nat → Int64) (l1 : Int32) (l2 : Int32) (r : Int32) (o_t_a : Int32) (o_t_b : Int32) (o_t_square : Int64) (o_t_powers : Int32) (o_t_counted : Int32) (o_t_powerU : Nat → Int64) (o_t_powerV : Nat → Int64) (o_t_rowCounts : Nat → Int64)  (h : f_X3_change t_a t_b t_square t_powers t_counted t_powerU t_powerV t_rowCounts l1 l2 = some (r, o_t_a, o_t_b, o_t_square, o_t_powers, o_t_counted, o_t_powerU, o_t_powerV, o_t_rowCounts)) (sz : Nat) : Met l yX3_change (WD yX3_change cX3_change 3 (some .boolean)) ({ frames := 2, cells := 0, slots := 0, locals := 41 }) (va_Pc [.ref h_t, .int l1, .int l2] (PcW D [(k_t_powerU, .long), (k_t_powerV, .long), (k_t_rowCounts, .long)] ((h_t, .inr (3, [.int t_a, .int t_b, .long t_square, .ref h_t_powerU, .ref h_t_powerV, .ref h_t_rowCounts, .int t_powers, .int t_counted])) :: (h_t_powerU, .inl (k_t_powerU, 48, .inr (.inl t_powerU))) :: (h_t_powerV, .inl (k_t_powerV, 48, .inr (.inl t_powerV))) :: (h_t_rowCounts, .inl (k_t_rowCounts, 48, .inr (.inl t_rowCounts))) :: R) sz)) (QZ D r ((h_t, .inr (3, [.int o_t_a, .int o_t_b, .long o_t_square, .ref h_t_powerU, .ref h_t_powerV, .ref h_t_rowCounts, .int o_t_powers, .int o_t_counted])) :: (h_t_powerU, .inl (k_t_powerU, 48, .inr (.inl o_t_powerU))) :: (h_t_powerV, .inl (k_t_powerV, 48, .inr (.inl o_t_powerV))) :: (h_t_rowCounts, .inl (k_t_rowCounts, 48, .inr (.inl o_t_rowCounts))) :: R) (va_A ((h_t, .inr (3, [.int t_a, .int t_b, .long t_square, .ref h_t_powerU, .ref h_t_powerV, .ref h_t_rowCounts, .int t_powers, .int t_counted])) :: (h_t_powerU, .inl (k_t_powerU, 48, .inr (.inl t_powerU))) :: (h_t_powerV, .inl (k_t_powerV, 48, .inr (.inl t_powerV))) :: (h_t_rowCounts, .inl (k_t_rowCounts, 48, .inr (.inl t_rowCounts))) :: R) sz)) 0 0 (va_A ((h_t, .inr (3, [.int t_a, .int t_b, .long t_square, .ref h_t_powerU, .ref h_t_powerV, .ref h_t_rowCounts, .int t_powers, .int t_counted])) :: (h_t_powerU, .inl (k_t_powerU, 48, .inr (.inl t_powerU))) :: (h_t_powerV, .inl (k_t_powerV, 48, .inr (.inl t_powerV))) :: (h_t_rowCounts, .inl (k_t_rowCounts, 48, .inr (.inl t_rowCounts))) :: R) sz) := by
  refine ct_start (QF := fun A => QZ D r ((h_t, .inr (3, [.int o_t_a, .int o_t_b, .long o_t_square, .ref h_t_powerU, .ref h_t_powerV, .ref h_t_rowCounts, .int o_t_powers, .int o_t_counted])) :: (h_t_powerU, .inl (k_t_powerU, 48, .inr (.inl o_t_powerU))) :: (h_t_powerV, .inl (k_t_powerV, 48, .inr (.inl o_t_powerV))) :: (h_t_rowCounts, .inl (k_t_rowCounts, 48, .inr (.inl o_t_rowCounts))) :: R) A) ?_ ?_ ?_
  · decide +kernel
  · exact Nat.le_of_ble_eq_true rfl
  intro p e s m args below meth c A ls S hr hlk hnm hS hA hP hD hK hN hl
  have S : CallFix p m c cX3_change 3 s args AL "DigitBench$Root" := S
  have hx := S.1
  have hb := S.2.1
  have hown := S.2.2.2.1
  have ha := S.2.2.2.2
  have hl : lv_has ls 3 [(0, .ref h_t), (1, .int l1), (2, .int l2)] := hl
  unfold f_X3_change at h
  refine lv_iload_n hx hb dX3_change_0 rfl (lv_at hl 1 rfl) ?_
  refine lv_iconst (v := 1) hx hb dX3_change_1 (by decide) ?_
  refine lv_icmp_lt (tgt := 27) hx hb dX3_change_2 (by decide) (fun c1 => ?_) (fun c1 => ?_)
  · have h := br_pos c1 h
    refine lv_iconst (v := 0) hx hb dX3_change_27 (by decide) ?_
    cases h
    exact rt_z S hr hlk hP hD hS (by decide) dX3_change_28
  · have h := br_neg c1 h
    refine lv_iload_n hx hb dX3_change_5 rfl (lv_at hl 1 rfl) ?_
    refine lv_bipush (v := 9) hx hb dX3_change_6 (by decide) ?_
    refine lv_icmp_gt (tgt := 27) hx hb dX3_change_8 (by decide) (fun c2 => ?_) (fun c2 => ?_)
    · have h := br_pos c2 h
      refine lv_iconst (v := 0) hx hb dX3_change_27 (by decide) ?_
      cases h
      exact rt_z S hr hlk hP hD hS (by decide) dX3_change_28
    · have h := br_neg c2 h
      refine lv_iload_n hx hb dX3_change_11 rfl (lv_at hl 2 rfl) ?_
      refine lv_bipush (v := (-8)) hx hb dX3_change_12 (by decide) ?_
      refine lv_icmp_lt (tgt := 27) hx hb dX3_change_14 (by decide) (fun c3 => ?_) (fun c3 => ?_)
      · have h := br_pos c3 h
        refine lv_iconst (v := 0) hx hb dX3_change_27 (by decide) ?_
        cases h
        exact rt_z S hr hlk hP hD hS (by decide) dX3_change_28
      · have h := br_neg c3 h
        refine lv_iload_n hx hb dX3_change_17 rfl (lv_at hl 2 rfl) ?_
        refine lv_bipush (v := 9) hx hb dX3_change_18 (by decide) ?_
        refine lv_icmp_gt (tgt := 27) hx hb dX3_change_20 (by decide) (fun c4 => ?_) (fun c4 => ?_)
        · have h := br_pos c4 h
          refine lv_iconst (v := 0) hx hb dX3_change_27 (by decide) ?_
          cases h
          exact rt_z S hr hlk hP hD hS (by decide) dX3_change_28
        · have h := br_neg c4 h
          refine lv_iload_n hx hb dX3_change_23 rfl (lv_at hl 2 rfl) ?_
          refine lv_if_ne (tgt := 29) hx hb dX3_change_24 (by decide) (fun c5 => ?_) (fun c5 => ?_)
          · have h := br_neg c5 h
            refine lv_iload_n hx hb dX3_change_29 rfl (lv_at hl 2 rfl) ?_
            refine lv_if_le (tgt := 41) hx hb dX3_change_30 (by decide) (fun c6 => ?_) (fun c6 => ?_)
            · have h := br_pos c6 h
              refine lv_iload_n hx hb dX3_change_41 rfl (lv_at hl 1 rfl) ?_
              refine lv_iload_n hx hb dX3_change_42 rfl (lv_at hl 2 rfl) ?_
              refine lv_iadd hx hb dX3_change_43 ?_
              refine lv_iconst (v := 2) hx hb dX3_change_44 (by decide) ?_
              refine lv_icmp_ge (tgt := 50) hx hb dX3_change_45 (by decide) (fun c7 => ?_) (fun c7 => ?_)
              · have h := br_pos c7 h
                refine lv_aload_n hx hb dX3_change_50 rfl (lv_at hl 0 rfl) ?_
                refine lv_iload_n hx hb dX3_change_51 rfl (lv_at hl 1 rfl) ?_
                refine va_put (D := D) (ci := 3) (v := .int l1) (ty := .int) (C := RX3) (T := TX3) (N := 8) hx hb ha ix3 tyX3 tyX3_ok nmX3 hown hK hP hD hS 0 rfl rfl 0 (by decide) (ha _ q115) (fun _ h9 => h9) rfl (by decide +kernel) rfl rfl (Nat.le_of_ble_eq_true rfl) dX3_change_52 (fun H locs hP hD hS => ?_)
                have hP : va_P D vwCl ((h_t, .inr (3, [.int l1, .int t_b, .long t_square, .ref h_t_powerU, .ref h_t_powerV, .ref h_t_rowCounts, .int t_powers, .int t_counted])) :: (h_t_powerU, .inl (k_t_powerU, 48, .inr (.inl t_powerU))) :: (h_t_powerV, .inl (k_t_powerV, 48, .inr (.inl t_powerV))) :: (h_t_rowCounts, .inl (k_t_rowCounts, 48, .inr (.inl t_rowCounts))) :: R) H := hP
                have hD : va_D A ((h_t, .inr (3, [.int l1, .int t_b, .long t_square, .ref h_t_powerU, .ref h_t_powerV, .ref h_t_rowCounts, .int t_powers, .int t_counted])) :: (h_t_powerU, .inl (k_t_powerU, 48, .inr (.inl t_powerU))) :: (h_t_powerV, .inl (k_t_powerV, 48, .inr (.inl t_powerV))) :: (h_t_rowCounts, .inl (k_t_rowCounts, 48, .inr (.inl t_rowCounts))) :: R) := hD
                refine lv_aload_n hx hb dX3_change_55 rfl (lv_at hl 0 rfl) ?_
                refine lv_iload_n hx hb dX3_change_56 rfl (lv_at hl 2 rfl) ?_
                refine va_put (D := D) (ci := 3) (v := .int l2) (ty := .int) (C := RX3) (T := TX3) (N := 8) hx hb ha ix3 tyX3 tyX3_ok nmX3 hown hK hP hD hS 0 rfl rfl 1 (by decide) (ha _ q118) (fun _ h9 => h9) rfl (by decide +kernel) rfl rfl (Nat.le_of_ble_eq_true rfl) dX3_change_57 (fun H locs hP hD hS => ?_)
                have hP : va_P D vwCl ((h_t, .inr (3, [.int l1, .int l2, .long t_square, .ref h_t_powerU, .ref h_t_powerV, .ref h_t_rowCounts, .int t_powers, .int t_counted])) :: (h_t_powerU, .inl (k_t_powerU, 48, .inr (.inl t_powerU))) :: (h_t_powerV, .inl (k_t_powerV, 48, .inr (.inl t_powerV))) :: (h_t_rowCounts, .inl (k_t_rowCounts, 48, .inr (.inl t_rowCounts))) :: R) H := hP
                have hD : va_D A ((h_t, .inr (3, [.int l1, .int l2, .long t_square, .ref h_t_powerU, .ref h_t_powerV, .ref h_t_rowCounts, .int t_powers, .int t_counted])) :: (h_t_powerU, .inl (k_t_powerU, 48, .inr (.inl t_powerU))) :: (h_t_powerV, .inl (k_t_powerV, 48, .inr (.inl t_powerV))) :: (h_t_rowCounts, .inl (k_t_rowCounts, 48, .inr (.inl t_rowCounts))) :: R) := hD
                refine lv_aload_n hx hb dX3_change_60 rfl (lv_at hl 0 rfl) ?_
                refine lv_aload_n hx hb dX3_change_61 rfl (lv_at hl 0 rfl) ?_
                refine va_get (D := D) (ci := 3) (v := .int l1) (C := RX3) (T := TX3) (N := 8) hx hb ha ix3 hown hK hP 0 rfl rfl 0 (by decide) (ha _ q115) (fun _ h9 => h9) rfl dX3_change_62 ?_
                refine lv_i2l (v := l1.toInt64) hx hb dX3_change_65 rfl ?_
                refine lv_aload_n hx hb dX3_change_66 rfl (lv_at hl 0 rfl) ?_
                refine va_get (D := D) (ci := 3) (v := .int l1) (C := RX3) (T := TX3) (N := 8) hx hb ha ix3 hown hK hP 0 rfl rfl 0 (by decide) (ha _ q115) (fun _ h9 => h9) rfl dX3_change_67 ?_
                refine lv_i2l (v := l1.toInt64) hx hb dX3_change_70 rfl ?_
                refine lv_lmul hx hb dX3_change_71 ?_
                refine lv_ldc2 (v := 4) hx hb hown (ha _ q101) dX3_change_72 ?_
                refine lv_aload_n hx hb dX3_change_75 rfl (lv_at hl 0 rfl) ?_
                refine va_get (D := D) (ci := 3) (v := .int l2) (C := RX3) (T := TX3) (N := 8) hx hb ha ix3 hown hK hP 0 rfl rfl 1 (by decide) (ha _ q118) (fun _ h9 => h9) rfl dX3_change_76 ?_
                refine lv_i2l (v := l2.toInt64) hx hb dX3_change_79 rfl ?_
                refine lv_lmul hx hb dX3_change_80 ?_
                refine lv_ladd hx hb dX3_change_81 ?_
                refine va_put (D := D) (ci := 3) (v := .long ((l1.toInt64 * l1.toInt64) + (4 * l2.toInt64))) (ty := .long) (C := RX3) (T := TX3) (N := 8) hx hb ha ix3 tyX3 tyX3_ok nmX3 hown hK hP hD hS 0 rfl rfl 2 (by decide) (ha _ q121) (fun _ h9 => h9) rfl (by decide +kernel) rfl rfl (Nat.le_of_ble_eq_true rfl) dX3_change_82 (fun H locs hP hD hS => ?_)
                have hP : va_P D vwCl ((h_t, .inr (3, [.int l1, .int l2, .long ((l1.toInt64 * l1.toInt64) + (4 * l2.toInt64)), .ref h_t_powerU, .ref h_t_powerV, .ref h_t_rowCounts, .int t_powers, .int t_counted])) :: (h_t_powerU, .inl (k_t_powerU, 48, .inr (.inl t_powerU))) :: (h_t_powerV, .inl (k_t_powerV, 48, .inr (.inl t_powerV))) :: (h_t_rowCounts, .inl (k_t_rowCounts, 48, .inr (.inl t_rowCounts))) :: R) H := hP
                have hD : va_D A ((h_t, .inr (3, [.int l1, .int l2, .long ((l1.toInt64 * l1.toInt64) + (4 * l2.toInt64)), .ref h_t_powerU, .ref h_t_powerV, .ref h_t_rowCounts, .int t_powers, .int t_counted])) :: (h_t_powerU, .inl (k_t_powerU, 48, .inr (.inl t_powerU))) :: (h_t_powerV, .inl (k_t_powerV, 48, .inr (.inl t_powerV))) :: (h_t_rowCounts, .inl (k_t_rowCounts, 48, .inr (.inl t_rowCounts))) :: R) := hD
                refine lv_aload_n hx hb dX3_change_85 rfl (lv_at hl 0 rfl) ?_
                obtain ⟨t_powers_c86_7, t_powerU_c86_7, t_powerV_c86_7, e_c86_7, h⟩ := bnd3_ok h
                refine cl_v (rn_v (ci := 3) (As := []) (rest := []) S (c_X3_fillPowers l D ((h_t_rowCounts, .inl (k_t_rowCounts, 48, .inr (.inl t_rowCounts))) :: R) h_t l1 l2 (.long ((l1.toInt64 * l1.toInt64) + (4 * l2.toInt64))) (.ref h_t_rowCounts) t_powers (.int t_counted) h_t_powerU k_t_powerU t_powerU h_t_powerV k_t_powerV t_powerV t_powers_c86_7 t_powerU_c86_7 t_powerV_c86_7 e_c86_7 _) q102 q104 q0 q50 q105 nd_X3_fillPowers ⟨Nat.le_of_ble_eq_true rfl, Nat.le_of_ble_eq_true rfl⟩ rfl rfl hP hD (hK.sub (tys' := [(k_t_powerU, .long), (k_t_powerV, .long)]) [0, 1] rfl) hN rfl ⟨0, _, rfl⟩ rfl hl.1 rfl (Nat.le_of_ble_eq_true rfl) dX3_change_86 ⟨Nat.le_of_ble_eq_true rfl, Nat.le_of_ble_eq_true rfl⟩) hS hA hD (fun H locs hP hD hS => ?_)
                have hP : va_P D vwCl ((h_t, .inr (3, [.int l1, .int l2, .long ((l1.toInt64 * l1.toInt64) + (4 * l2.toInt64)), .ref h_t_powerU, .ref h_t_powerV, .ref h_t_rowCounts, .int t_powers_c86_7, .int t_counted])) :: (h_t_powerU, .inl (k_t_powerU, 48, .inr (.inl t_powerU_c86_7))) :: (h_t_powerV, .inl (k_t_powerV, 48, .inr (.inl t_powerV_c86_7))) :: (h_t_rowCounts, .inl (k_t_rowCounts, 48, .inr (.inl t_rowCounts))) :: R) H := hP
                have hD : va_D A ((h_t, .inr (3, [.int l1, .int l2, .long ((l1.toInt64 * l1.toInt64) + (4 * l2.toInt64)), .ref h_t_powerU, .ref h_t_powerV, .ref h_t_rowCounts, .int t_powers_c86_7, .int t_counted])) :: (h_t_powerU, .inl (k_t_powerU, 48, .inr (.inl t_powerU_c86_7))) :: (h_t_powerV, .inl (k_t_powerV, 48, .inr (.inl t_powerV_c86_7))) :: (h_t_rowCounts, .inl (k_t_rowCounts, 48, .inr (.inl t_rowCounts))) :: R) := hD
                refine lv_aload_n hx hb dX3_change_89 rfl (lv_at hl 0 rfl) ?_
                obtain ⟨t_counted_c90_8, t_rowCounts_c90_8, e_c90_8, h⟩ := bnd2_ok h
                have hP : va_P D vwCl ((h_t, .inr (3, [.int l1, .int l2, .long ((l1.toInt64 * l1.toInt64) + (4 * l2.toInt64)), .ref h_t_powerU, .ref h_t_powerV, .ref h_t_rowCounts, .int t_powers_c86_7, .int t_counted])) :: (h_t_rowCounts, .inl (k_t_rowCounts, 48, .inr (.inl t_rowCounts))) :: (h_t_powerU, .inl (k_t_powerU, 48, .inr (.inl t_powerU_c86_7))) :: (h_t_powerV, .inl (k_t_powerV, 48, .inr (.inl t_powerV_c86_7))) :: R) _ := pm_P [0, 3, 1, 2] 4 hP
                have hD : va_D A ((h_t, .inr (3, [.int l1, .int l2, .long ((l1.toInt64 * l1.toInt64) + (4 * l2.toInt64)), .ref h_t_powerU, .ref h_t_powerV, .ref h_t_rowCounts, .int t_powers_c86_7, .int t_counted])) :: (h_t_rowCounts, .inl (k_t_rowCounts, 48, .inr (.inl t_rowCounts))) :: (h_t_powerU, .inl (k_t_powerU, 48, .inr (.inl t_powerU_c86_7))) :: (h_t_powerV, .inl (k_t_powerV, 48, .inr (.inl t_powerV_c86_7))) :: R) := pm_D (X := [(h_t, .inr (3, [.int l1, .int l2, .long ((l1.toInt64 * l1.toInt64) + (4 * l2.toInt64)), .ref h_t_powerU, .ref h_t_powerV, .ref h_t_rowCounts, .int t_powers_c86_7, .int t_counted])), (h_t_rowCounts, .inl (k_t_rowCounts, 48, .inr (.inl t_rowCounts))), (h_t_powerU, .inl (k_t_powerU, 48, .inr (.inl t_powerU_c86_7))), (h_t_powerV, .inl (k_t_powerV, 48, .inr (.inl t_powerV_c86_7)))]) [0, 3, 1, 2] 4 (by decide) (by decide) rfl hD
                refine cl_v (rn_v (ci := 3) (As := []) (rest := []) S (c_X3_fillRowCounts l D ((h_t_powerU, .inl (k_t_powerU, 48, .inr (.inl t_powerU_c86_7))) :: (h_t_powerV, .inl (k_t_powerV, 48, .inr (.inl t_powerV_c86_7))) :: R) h_t l1 l2 (.long ((l1.toInt64 * l1.toInt64) + (4 * l2.toInt64))) (.ref h_t_powerU) (.ref h_t_powerV) (.int t_powers_c86_7) t_counted h_t_rowCounts k_t_rowCounts t_rowCounts t_counted_c90_8 t_rowCounts_c90_8 e_c90_8 _) q107 q109 q1 q50 q110 nd_X3_fillRowCounts ⟨Nat.le_of_ble_eq_true rfl, Nat.le_of_ble_eq_true rfl⟩ rfl rfl hP hD (hK.sub (tys' := [(k_t_rowCounts, .long)]) [2] rfl) hN rfl ⟨0, _, rfl⟩ rfl hl.1 rfl (Nat.le_of_ble_eq_true rfl) dX3_change_90 ⟨Nat.le_of_ble_eq_true rfl, Nat.le_of_ble_eq_true rfl⟩) hS hA hD (fun H locs hP hD hS => ?_)
                have hP : va_P D vwCl ((h_t, .inr (3, [.int l1, .int l2, .long ((l1.toInt64 * l1.toInt64) + (4 * l2.toInt64)), .ref h_t_powerU, .ref h_t_powerV, .ref h_t_rowCounts, .int t_powers_c86_7, .int t_counted_c90_8])) :: (h_t_powerU, .inl (k_t_powerU, 48, .inr (.inl t_powerU_c86_7))) :: (h_t_powerV, .inl (k_t_powerV, 48, .inr (.inl t_powerV_c86_7))) :: (h_t_rowCounts, .inl (k_t_rowCounts, 48, .inr (.inl t_rowCounts_c90_8))) :: R) H := pm_P [0, 2, 3, 1] 4 hP
                have hD : va_D A ((h_t, .inr (3, [.int l1, .int l2, .long ((l1.toInt64 * l1.toInt64) + (4 * l2.toInt64)), .ref h_t_powerU, .ref h_t_powerV, .ref h_t_rowCounts, .int t_powers_c86_7, .int t_counted_c90_8])) :: (h_t_powerU, .inl (k_t_powerU, 48, .inr (.inl t_powerU_c86_7))) :: (h_t_powerV, .inl (k_t_powerV, 48, .inr (.inl t_powerV_c86_7))) :: (h_t_rowCounts, .inl (k_t_rowCounts, 48, .inr (.inl t_rowCounts_c90_8))) :: R) := pm_D (X := [(h_t, .inr (3, [.int l1, .int l2, .long ((l1.toInt64 * l1.toInt64) + (4 * l2.toInt64)), .ref h_t_powerU, .ref h_t_powerV, .ref h_t_rowCounts, .int t_powers_c86_7, .int t_counted_c90_8])), (h_t_powerU, .inl (k_t_powerU, 48, .inr (.inl t_powerU_c86_7))), (h_t_powerV, .inl (k_t_powerV, 48, .inr (.inl t_powerV_c86_7))), (h_t_rowCounts, .inl (k_t_rowCounts, 48, .inr (.inl t_rowCounts_c90_8)))]) [0, 2, 3, 1] 4 (by decide) (by decide) rfl hD
                refine lv_iconst (v := 1) hx hb dX3_change_93 (by decide) ?_
                cases h
                exact rt_z S hr hlk hP hD hS (by decide) dX3_change_94
              · have h := br_neg c7 h
                refine lv_iconst (v := 0) hx hb dX3_change_48 (by decide) ?_
                cases h
                exact rt_z S hr hlk hP hD hS (by decide) dX3_change_49
            · have h := br_neg c6 h
              refine lv_iload_n hx hb dX3_change_33 rfl (lv_at hl 2 rfl) ?_
              refine lv_iload_n hx hb dX3_change_34 rfl (lv_at hl 1 rfl) ?_
              refine lv_icmp_le (tgt := 50) hx hb dX3_change_35 (by decide) (fun c10 => ?_) (fun c10 => ?_)
              · have h := br_pos c10 h
                refine lv_aload_n hx hb dX3_change_50 rfl (lv_at hl 0 rfl) ?_
                refine lv_iload_n hx hb dX3_change_51 rfl (lv_at hl 1 rfl) ?_
                refine va_put (D := D) (ci := 3) (v := .int l1) (ty := .int) (C := RX3) (T := TX3) (N := 8) hx hb ha ix3 tyX3 tyX3_ok nmX3 hown hK hP hD hS 0 rfl rfl 0 (by decide) (ha _ q115) (fun _ h9 => h9) rfl (by decide +kernel) rfl rfl (Nat.le_of_ble_eq_true rfl) dX3_change_52 (fun H locs hP hD hS => ?_)
                have hP : va_P D vwCl ((h_t, .inr (3, [.int l1, .int t_b, .long t_square, .ref h_t_powerU, .ref h_t_powerV, .ref h_t_rowCounts, .int t_powers, .int t_counted])) :: (h_t_powerU, .inl (k_t_powerU, 48, .inr (.inl t_powerU))) :: (h_t_powerV, .inl (k_t_powerV, 48, .inr (.inl t_powerV))) :: (h_t_rowCounts, .inl (k_t_rowCounts, 48, .inr (.inl t_rowCounts))) :: R) H := hP
                have hD : va_D A ((h_t, .inr (3, [.int l1, .int t_b, .long t_square, .ref h_t_powerU, .ref h_t_powerV, .ref h_t_rowCounts, .int t_powers, .int t_counted])) :: (h_t_powerU, .inl (k_t_powerU, 48, .inr (.inl t_powerU))) :: (h_t_powerV, .inl (k_t_powerV, 48, .inr (.inl t_powerV))) :: (h_t_rowCounts, .inl (k_t_rowCounts, 48, .inr (.inl t_rowCounts))) :: R) := hD
                refine lv_aload_n hx hb dX3_change_55 rfl (lv_at hl 0 rfl) ?_
                refine lv_iload_n hx hb dX3_change_56 rfl (lv_at hl 2 rfl) ?_
                refine va_put (D := D) (ci := 3) (v := .int l2) (ty := .int) (C := RX3) (T := TX3) (N := 8) hx hb ha ix3 tyX3 tyX3_ok nmX3 hown hK hP hD hS 0 rfl rfl 1 (by decide) (ha _ q118) (fun _ h9 => h9) rfl (by decide +kernel) rfl rfl (Nat.le_of_ble_eq_true rfl) dX3_change_57 (fun H locs hP hD hS => ?_)
                have hP : va_P D vwCl ((h_t, .inr (3, [.int l1, .int l2, .long t_square, .ref h_t_powerU, .ref h_t_powerV, .ref h_t_rowCounts, .int t_powers, .int t_counted])) :: (h_t_powerU, .inl (k_t_powerU, 48, .inr (.inl t_powerU))) :: (h_t_powerV, .inl (k_t_powerV, 48, .inr (.inl t_powerV))) :: (h_t_rowCounts, .inl (k_t_rowCounts, 48, .inr (.inl t_rowCounts))) :: R) H := hP
                have hD : va_D A ((h_t, .inr (3, [.int l1, .int l2, .long t_square, .ref h_t_powerU, .ref h_t_powerV, .ref h_t_rowCounts, .int t_powers, .int t_counted])) :: (h_t_powerU, .inl (k_t_powerU, 48, .inr (.inl t_powerU))) :: (h_t_powerV, .inl (k_t_powerV, 48, .inr (.inl t_powerV))) :: (h_t_rowCounts, .inl (k_t_rowCounts, 48, .inr (.inl t_rowCounts))) :: R) := hD
                refine lv_aload_n hx hb dX3_change_60 rfl (lv_at hl 0 rfl) ?_
                refine lv_aload_n hx hb dX3_change_61 rfl (lv_at hl 0 rfl) ?_
                refine va_get (D := D) (ci := 3) (v := .int l1) (C := RX3) (T := TX3) (N := 8) hx hb ha ix3 hown hK hP 0 rfl rfl 0 (by decide) (ha _ q115) (fun _ h9 => h9) rfl dX3_change_62 ?_
                refine lv_i2l (v := l1.toInt64) hx hb dX3_change_65 rfl ?_
                refine lv_aload_n hx hb dX3_change_66 rfl (lv_at hl 0 rfl) ?_
                refine va_get (D := D) (ci := 3) (v := .int l1) (C := RX3) (T := TX3) (N := 8) hx hb ha ix3 hown hK hP 0 rfl rfl 0 (by decide) (ha _ q115) (fun _ h9 => h9) rfl dX3_change_67 ?_
                refine lv_i2l (v := l1.toInt64) hx hb dX3_change_70 rfl ?_
                refine lv_lmul hx hb dX3_change_71 ?_
                refine lv_ldc2 (v := 4) hx hb hown (ha _ q101) dX3_change_72 ?_
                refine lv_aload_n hx hb dX3_change_75 rfl (lv_at hl 0 rfl) ?_
                refine va_get (D := D) (ci := 3) (v := .int l2) (C := RX3) (T := TX3) (N := 8) hx hb ha ix3 hown hK hP 0 rfl rfl 1 (by decide) (ha _ q118) (fun _ h9 => h9) rfl dX3_change_76 ?_
                refine lv_i2l (v := l2.toInt64) hx hb dX3_change_79 rfl ?_
                refine lv_lmul hx hb dX3_change_80 ?_
                refine lv_ladd hx hb dX3_change_81 ?_
                refine va_put (D := D) (ci := 3) (v := .long ((l1.toInt64 * l1.toInt64) + (4 * l2.toInt64))) (ty := .long) (C := RX3) (T := TX3) (N := 8) hx hb ha ix3 tyX3 tyX3_ok nmX3 hown hK hP hD hS 0 rfl rfl 2 (by decide) (ha _ q121) (fun _ h9 => h9) rfl (by decide +kernel) rfl rfl (Nat.le_of_ble_eq_true rfl) dX3_change_82 (fun H locs hP hD hS => ?_)
                have hP : va_P D vwCl ((h_t, .inr (3, [.int l1, .int l2, .long ((l1.toInt64 * l1.toInt64) + (4 * l2.toInt64)), .ref h_t_powerU, .ref h_t_powerV, .ref h_t_rowCounts, .int t_powers, .int t_counted])) :: (h_t_powerU, .inl (k_t_powerU, 48, .inr (.inl t_powerU))) :: (h_t_powerV, .inl (k_t_powerV, 48, .inr (.inl t_powerV))) :: (h_t_rowCounts, .inl (k_t_rowCounts, 48, .inr (.inl t_rowCounts))) :: R) H := hP
                have hD : va_D A ((h_t, .inr (3, [.int l1, .int l2, .long ((l1.toInt64 * l1.toInt64) + (4 * l2.toInt64)), .ref h_t_powerU, .ref h_t_powerV, .ref h_t_rowCounts, .int t_powers, .int t_counted])) :: (h_t_powerU, .inl (k_t_powerU, 48, .inr (.inl t_powerU))) :: (h_t_powerV, .inl (k_t_powerV, 48, .inr (.inl t_powerV))) :: (h_t_rowCounts, .inl (k_t_rowCounts, 48, .inr (.inl t_rowCounts))) :: R) := hD
                refine lv_aload_n hx hb dX3_change_85 rfl (lv_at hl 0 rfl) ?_
                obtain ⟨t_powers_c86_10, t_powerU_c86_10, t_powerV_c86_10, e_c86_10, h⟩ := bnd3_ok h
                refine cl_v (rn_v (ci := 3) (As := []) (rest := []) S (c_X3_fillPowers l D ((h_t_rowCounts, .inl (k_t_rowCounts, 48, .inr (.inl t_rowCounts))) :: R) h_t l1 l2 (.long ((l1.toInt64 * l1.toInt64) + (4 * l2.toInt64))) (.ref h_t_rowCounts) t_powers (.int t_counted) h_t_powerU k_t_powerU t_powerU h_t_powerV k_t_powerV t_powerV t_powers_c86_10 t_powerU_c86_10 t_powerV_c86_10 e_c86_10 _) q102 q104 q0 q50 q105 nd_X3_fillPowers ⟨Nat.le_of_ble_eq_true rfl, Nat.le_of_ble_eq_true rfl⟩ rfl rfl hP hD (hK.sub (tys' := [(k_t_powerU, .long), (k_t_powerV, .long)]) [0, 1] rfl) hN rfl ⟨0, _, rfl⟩ rfl hl.1 rfl (Nat.le_of_ble_eq_true rfl) dX3_change_86 ⟨Nat.le_of_ble_eq_true rfl, Nat.le_of_ble_eq_true rfl⟩) hS hA hD (fun H locs hP hD hS => ?_)
                have hP : va_P D vwCl ((h_t, .inr (3, [.int l1, .int l2, .long ((l1.toInt64 * l1.toInt64) + (4 * l2.toInt64)), .ref h_t_powerU, .ref h_t_powerV, .ref h_t_rowCounts, .int t_powers_c86_10, .int t_counted])) :: (h_t_powerU, .inl (k_t_powerU, 48, .inr (.inl t_powerU_c86_10))) :: (h_t_powerV, .inl (k_t_powerV, 48, .inr (.inl t_powerV_c86_10))) :: (h_t_rowCounts, .inl (k_t_rowCounts, 48, .inr (.inl t_rowCounts))) :: R) H := hP
                have hD : va_D A ((h_t, .inr (3, [.int l1, .int l2, .long ((l1.toInt64 * l1.toInt64) + (4 * l2.toInt64)), .ref h_t_powerU, .ref h_t_powerV, .ref h_t_rowCounts, .int t_powers_c86_10, .int t_counted])) :: (h_t_powerU, .inl (k_t_powerU, 48, .inr (.inl t_powerU_c86_10))) :: (h_t_powerV, .inl (k_t_powerV, 48, .inr (.inl t_powerV_c86_10))) :: (h_t_rowCounts, .inl (k_t_rowCounts, 48, .inr (.inl t_rowCounts))) :: R) := hD
                refine lv_aload_n hx hb dX3_change_89 rfl (lv_at hl 0 rfl) ?_
                obtain ⟨t_counted_c90_11, t_rowCounts_c90_11, e_c90_11, h⟩ := bnd2_ok h
                have hP : va_P D vwCl ((h_t, .inr (3, [.int l1, .int l2, .long ((l1.toInt64 * l1.toInt64) + (4 * l2.toInt64)), .ref h_t_powerU, .ref h_t_powerV, .ref h_t_rowCounts, .int t_powers_c86_10, .int t_counted])) :: (h_t_rowCounts, .inl (k_t_rowCounts, 48, .inr (.inl t_rowCounts))) :: (h_t_powerU, .inl (k_t_powerU, 48, .inr (.inl t_powerU_c86_10))) :: (h_t_powerV, .inl (k_t_powerV, 48, .inr (.inl t_powerV_c86_10))) :: R) _ := pm_P [0, 3, 1, 2] 4 hP
                have hD : va_D A ((h_t, .inr (3, [.int l1, .int l2, .long ((l1.toInt64 * l1.toInt64) + (4 * l2.toInt64)), .ref h_t_powerU, .ref h_t_powerV, .ref h_t_rowCounts, .int t_powers_c86_10, .int t_counted])) :: (h_t_rowCounts, .inl (k_t_rowCounts, 48, .inr (.inl t_rowCounts))) :: (h_t_powerU, .inl (k_t_powerU, 48, .inr (.inl t_powerU_c86_10))) :: (h_t_powerV, .inl (k_t_powerV, 48, .inr (.inl t_powerV_c86_10))) :: R) := pm_D (X := [(h_t, .inr (3, [.int l1, .int l2, .long ((l1.toInt64 * l1.toInt64) + (4 * l2.toInt64)), .ref h_t_powerU, .ref h_t_powerV, .ref h_t_rowCounts, .int t_powers_c86_10, .int t_counted])), (h_t_rowCounts, .inl (k_t_rowCounts, 48, .inr (.inl t_rowCounts))), (h_t_powerU, .inl (k_t_powerU, 48, .inr (.inl t_powerU_c86_10))), (h_t_powerV, .inl (k_t_powerV, 48, .inr (.inl t_powerV_c86_10)))]) [0, 3, 1, 2] 4 (by decide) (by decide) rfl hD
                refine cl_v (rn_v (ci := 3) (As := []) (rest := []) S (c_X3_fillRowCounts l D ((h_t_powerU, .inl (k_t_powerU, 48, .inr (.inl t_powerU_c86_10))) :: (h_t_powerV, .inl (k_t_powerV, 48, .inr (.inl t_powerV_c86_10))) :: R) h_t l1 l2 (.long ((l1.toInt64 * l1.toInt64) + (4 * l2.toInt64))) (.ref h_t_powerU) (.ref h_t_powerV) (.int t_powers_c86_10) t_counted h_t_rowCounts k_t_rowCounts t_rowCounts t_counted_c90_11 t_rowCounts_c90_11 e_c90_11 _) q107 q109 q1 q50 q110 nd_X3_fillRowCounts ⟨Nat.le_of_ble_eq_true rfl, Nat.le_of_ble_eq_true rfl⟩ rfl rfl hP hD (hK.sub (tys' := [(k_t_rowCounts, .long)]) [2] rfl) hN rfl ⟨0, _, rfl⟩ rfl hl.1 rfl (Nat.le_of_ble_eq_true rfl) dX3_change_90 ⟨Nat.le_of_ble_eq_true rfl, Nat.le_of_ble_eq_true rfl⟩) hS hA hD (fun H locs hP hD hS => ?_)
                have hP : va_P D vwCl ((h_t, .inr (3, [.int l1, .int l2, .long ((l1.toInt64 * l1.toInt64) + (4 * l2.toInt64)), .ref h_t_powerU, .ref h_t_powerV, .ref h_t_rowCounts, .int t_powers_c86_10, .int t_counted_c90_11])) :: (h_t_powerU, .inl (k_t_powerU, 48, .inr (.inl t_powerU_c86_10))) :: (h_t_powerV, .inl (k_t_powerV, 48, .inr (.inl t_powerV_c86_10))) :: (h_t_rowCounts, .inl (k_t_rowCounts, 48, .inr (.inl t_rowCounts_c90_11))) :: R) H := pm_P [0, 2, 3, 1] 4 hP
                have hD : va_D A ((h_t, .inr (3, [.int l1, .int l2, .long ((l1.toInt64 * l1.toInt64) + (4 * l2.toInt64)), .ref h_t_powerU, .ref h_t_powerV, .ref h_t_rowCounts, .int t_powers_c86_10, .int t_counted_c90_11])) :: (h_t_powerU, .inl (k_t_powerU, 48, .inr (.inl t_powerU_c86_10))) :: (h_t_powerV, .inl (k_t_powerV, 48, .inr (.inl t_powerV_c86_10))) :: (h_t_rowCounts, .inl (k_t_rowCounts, 48, .inr (.inl t_rowCounts_c90_11))) :: R) := pm_D (X := [(h_t, .inr (3, [.int l1, .int l2, .long ((l1.toInt64 * l1.toInt64) + (4 * l2.toInt64)), .ref h_t_powerU, .ref h_t_powerV, .ref h_t_rowCounts, .int t_powers_c86_10, .int t_counted_c90_11])), (h_t_powerU, .inl (k_t_powerU, 48, .inr (.inl t_powerU_c86_10))), (h_t_powerV, .inl (k_t_powerV, 48, .inr (.inl t_powerV_c86_10))), (h_t_rowCounts, .inl (k_t_rowCounts, 48, .inr (.inl t_rowCounts_c90_11)))]) [0, 2, 3, 1] 4 (by decide) (by decide) rfl hD
                refine lv_iconst (v := 1) hx hb dX3_change_93 (by decide) ?_
                cases h
                exact rt_z S hr hlk hP hD hS (by decide) dX3_change_94
              · have h := br_neg c10 h
                refine lv_goto (tgt := 48) hx hb dX3_change_38 (by decide) ?_
                refine lv_iconst (v := 0) hx hb dX3_change_48 (by decide) ?_
                cases h
                exact rt_z S hr hlk hP hD hS (by decide) dX3_change_49
          · have h := br_pos c5 h
            refine lv_iconst (v := 0) hx hb dX3_change_27 (by decide) ?_
            cases h
            exact rt_z S hr hlk hP hD hS (by decide) dX3_change_28
noncomputable def f_X3_digitOfOne (t_a : Int32) (t_b : Int32) (l1 : Int32) : Option (Int32) :=
  if t_b ≤ 0 then (
   if l1 = 1 then (
    some (t_a - 1)
   ) else (
    some ((t_a + t_b) - 1)
   )
  ) else (
   if l1 = 1 then (
    some t_a
   ) else (
    if l1 = 2 then (
     some t_b
    ) else (
     some 0
    )
   )
  )
set_option maxHeartbeats 4000000 in
set_option maxRecDepth 100000 in
theorem c_X3_digitOfOne (l : Launch) (D : va_G) (R : va_W) (h_t : Nat) (t_a : Int32) (t_b : Int32) (z_t_2 : Value) (z_t_3 : Value) (z_t_4 : Value) (z_t_5 : Value) (z_t_6 : Value) (z_t_7 : Value) (l1 : Int32) (r : Int32)  (h : f_X3_digitOfOne t_a t_b l1 = some r) (sz : Nat) : Met l yX3_digitOfOne (WD yX3_digitOfOne cX3_digitOfOne 2 (some .int)) ({ frames := 0, cells := 0, slots := 0, locals := 0 }) (va_Pc [.ref h_t, .int l1] (PcW D [] ((h_t, .inr (3, [.int t_a, .int t_b, z_t_2, z_t_3, z_t_4, z_t_5, z_t_6, z_t_7])) :: R) sz)) (QI D r ((h_t, .inr (3, [.int t_a, .int t_b, z_t_2, z_t_3, z_t_4, z_t_5, z_t_6, z_t_7])) :: R) (va_A ((h_t, .inr (3, [.int t_a, .int t_b, z_t_2, z_t_3, z_t_4, z_t_5, z_t_6, z_t_7])) :: R) sz)) 0 0 (va_A ((h_t, .inr (3, [.int t_a, .int t_b, z_t_2, z_t_3, z_t_4, z_t_5, z_t_6, z_t_7])) :: R) sz) := by
  refine ct_start (QF := fun A => QI D r ((h_t, .inr (3, [.int t_a, .int t_b, z_t_2, z_t_3, z_t_4, z_t_5, z_t_6, z_t_7])) :: R) A) ?_ ?_ ?_
  · decide +kernel
  · exact Nat.le_of_ble_eq_true rfl
  intro p e s m args below meth c A ls S hr hlk hnm hS hA hP hD hK hN hl
  have S : CallFix p m c cX3_digitOfOne 2 s args AL "DigitBench$Root" := S
  have hx := S.1
  have hb := S.2.1
  have hown := S.2.2.2.1
  have ha := S.2.2.2.2
  have hl : lv_has ls 2 [(0, .ref h_t), (1, .int l1)] := hl
  unfold f_X3_digitOfOne at h
  refine lv_aload_n hx hb dX3_digitOfOne_0 rfl (lv_at hl 0 rfl) ?_
  refine va_get (D := D) (ci := 3) (v := .int t_b) (C := RX3) (T := TX3) (N := 8) hx hb ha ix3 hown hK hP 0 rfl rfl 1 (by decide) (ha _ q118) (fun _ h9 => h9) rfl dX3_digitOfOne_1 ?_
  refine lv_if_le (tgt := 33) hx hb dX3_digitOfOne_4 (by decide) (fun c1 => ?_) (fun c1 => ?_)
  · have h := br_pos c1 h
    refine lv_iload_n hx hb dX3_digitOfOne_33 rfl (lv_at hl 1 rfl) ?_
    refine lv_iconst (v := 1) hx hb dX3_digitOfOne_34 (by decide) ?_
    refine lv_icmp_ne (tgt := 47) hx hb dX3_digitOfOne_35 (by decide) (fun c2 => ?_) (fun c2 => ?_)
    · have h := br_neg c2 h
      refine lv_aload_n hx hb dX3_digitOfOne_47 rfl (lv_at hl 0 rfl) ?_
      refine va_get (D := D) (ci := 3) (v := .int t_a) (C := RX3) (T := TX3) (N := 8) hx hb ha ix3 hown hK hP 0 rfl rfl 0 (by decide) (ha _ q115) (fun _ h9 => h9) rfl dX3_digitOfOne_48 ?_
      refine lv_aload_n hx hb dX3_digitOfOne_51 rfl (lv_at hl 0 rfl) ?_
      refine va_get (D := D) (ci := 3) (v := .int t_b) (C := RX3) (T := TX3) (N := 8) hx hb ha ix3 hown hK hP 0 rfl rfl 1 (by decide) (ha _ q118) (fun _ h9 => h9) rfl dX3_digitOfOne_52 ?_
      refine lv_iadd hx hb dX3_digitOfOne_55 ?_
      refine lv_iconst (v := 1) hx hb dX3_digitOfOne_56 (by decide) ?_
      refine lv_isub hx hb dX3_digitOfOne_57 ?_
      cases h
      exact rt_i S hr hlk hP hD hS dX3_digitOfOne_58
    · have h := br_pos c2 h
      refine lv_aload_n hx hb dX3_digitOfOne_38 rfl (lv_at hl 0 rfl) ?_
      refine va_get (D := D) (ci := 3) (v := .int t_a) (C := RX3) (T := TX3) (N := 8) hx hb ha ix3 hown hK hP 0 rfl rfl 0 (by decide) (ha _ q115) (fun _ h9 => h9) rfl dX3_digitOfOne_39 ?_
      refine lv_iconst (v := 1) hx hb dX3_digitOfOne_42 (by decide) ?_
      refine lv_isub hx hb dX3_digitOfOne_43 ?_
      refine lv_goto (tgt := 58) hx hb dX3_digitOfOne_44 (by decide) ?_
      cases h
      exact rt_i S hr hlk hP hD hS dX3_digitOfOne_58
  · have h := br_neg c1 h
    refine lv_iload_n hx hb dX3_digitOfOne_7 rfl (lv_at hl 1 rfl) ?_
    refine lv_iconst (v := 1) hx hb dX3_digitOfOne_8 (by decide) ?_
    refine lv_icmp_ne (tgt := 19) hx hb dX3_digitOfOne_9 (by decide) (fun c3 => ?_) (fun c3 => ?_)
    · have h := br_neg c3 h
      refine lv_iload_n hx hb dX3_digitOfOne_19 rfl (lv_at hl 1 rfl) ?_
      refine lv_iconst (v := 2) hx hb dX3_digitOfOne_20 (by decide) ?_
      refine lv_icmp_ne (tgt := 31) hx hb dX3_digitOfOne_21 (by decide) (fun c4 => ?_) (fun c4 => ?_)
      · have h := br_neg c4 h
        refine lv_iconst (v := 0) hx hb dX3_digitOfOne_31 (by decide) ?_
        cases h
        exact rt_i S hr hlk hP hD hS dX3_digitOfOne_32
      · have h := br_pos c4 h
        refine lv_aload_n hx hb dX3_digitOfOne_24 rfl (lv_at hl 0 rfl) ?_
        refine va_get (D := D) (ci := 3) (v := .int t_b) (C := RX3) (T := TX3) (N := 8) hx hb ha ix3 hown hK hP 0 rfl rfl 1 (by decide) (ha _ q118) (fun _ h9 => h9) rfl dX3_digitOfOne_25 ?_
        refine lv_goto (tgt := 32) hx hb dX3_digitOfOne_28 (by decide) ?_
        cases h
        exact rt_i S hr hlk hP hD hS dX3_digitOfOne_32
    · have h := br_pos c3 h
      refine lv_aload_n hx hb dX3_digitOfOne_12 rfl (lv_at hl 0 rfl) ?_
      refine va_get (D := D) (ci := 3) (v := .int t_a) (C := RX3) (T := TX3) (N := 8) hx hb ha ix3 hown hK hP 0 rfl rfl 0 (by decide) (ha _ q115) (fun _ h9 => h9) rfl dX3_digitOfOne_13 ?_
      refine lv_goto (tgt := 32) hx hb dX3_digitOfOne_16 (by decide) ?_
      cases h
      exact rt_i S hr hlk hP hD hS dX3_digitOfOne_32
noncomputable def f_X3_digitOfBar (t_a : Int32) (t_b : Int32) (l1 : Int32) : Option (Int32) :=
  if t_b ≤ 0 then (
   bnd1 (f_X3_digitOfOne t_a t_b l1) fun r_c30_1 => (
    some r_c30_1
   )
  ) else (
   gd (nzI 2) (
    if (l1 - l1 / 2 * 2) = 1 then (
     some t_a
    ) else (
     some (t_b - 1)
    )
   )
  )
set_option maxHeartbeats 4000000 in
set_option maxRecDepth 100000 in
theorem c_X3_digitOfBar (l : Launch) (D : va_G) (R : va_W) (h_t : Nat) (t_a : Int32) (t_b : Int32) (z_t_2 : Value) (z_t_3 : Value) (z_t_4 : Value) (z_t_5 : Value) (z_t_6 : Value) (z_t_7 : Value) (l1 : Int32) (r : Int32)  (h : f_X3_digitOfBar t_a t_b l1 = some r) (sz : Nat) : Met l yX3_digitOfBar (WD yX3_digitOfBar cX3_digitOfBar 2 (some .int)) ({ frames := 1, cells := 0, slots := 0, locals := 21 }) (va_Pc [.ref h_t, .int l1] (PcW D [] ((h_t, .inr (3, [.int t_a, .int t_b, z_t_2, z_t_3, z_t_4, z_t_5, z_t_6, z_t_7])) :: R) sz)) (QI D r ((h_t, .inr (3, [.int t_a, .int t_b, z_t_2, z_t_3, z_t_4, z_t_5, z_t_6, z_t_7])) :: R) (va_A ((h_t, .inr (3, [.int t_a, .int t_b, z_t_2, z_t_3, z_t_4, z_t_5, z_t_6, z_t_7])) :: R) sz)) 0 0 (va_A ((h_t, .inr (3, [.int t_a, .int t_b, z_t_2, z_t_3, z_t_4, z_t_5, z_t_6, z_t_7])) :: R) sz) := by
  refine ct_start (QF := fun A => QI D r ((h_t, .inr (3, [.int t_a, .int t_b, z_t_2, z_t_3, z_t_4, z_t_5, z_t_6, z_t_7])) :: R) A) ?_ ?_ ?_
  · decide +kernel
  · exact Nat.le_of_ble_eq_true rfl
  intro p e s m args below meth c A ls S hr hlk hnm hS hA hP hD hK hN hl
  have S : CallFix p m c cX3_digitOfBar 2 s args AL "DigitBench$Root" := S
  have hx := S.1
  have hb := S.2.1
  have hown := S.2.2.2.1
  have ha := S.2.2.2.2
  have hl : lv_has ls 2 [(0, .ref h_t), (1, .int l1)] := hl
  unfold f_X3_digitOfBar at h
  refine lv_aload_n hx hb dX3_digitOfBar_0 rfl (lv_at hl 0 rfl) ?_
  refine va_get (D := D) (ci := 3) (v := .int t_b) (C := RX3) (T := TX3) (N := 8) hx hb ha ix3 hown hK hP 0 rfl rfl 1 (by decide) (ha _ q118) (fun _ h9 => h9) rfl dX3_digitOfBar_1 ?_
  refine lv_if_le (tgt := 28) hx hb dX3_digitOfBar_4 (by decide) (fun c1 => ?_) (fun c1 => ?_)
  · have h := br_pos c1 h
    refine lv_aload_n hx hb dX3_digitOfBar_28 rfl (lv_at hl 0 rfl) ?_
    refine lv_iload_n hx hb dX3_digitOfBar_29 rfl (lv_at hl 1 rfl) ?_
    obtain ⟨r_c30_1, e_c30_1, h⟩ := bnd1_ok h
    refine cl_i (rn_v (ci := 3) (As := [.int l1]) (rest := []) S (c_X3_digitOfOne l D (R) h_t t_a t_b (z_t_2) (z_t_3) (z_t_4) (z_t_5) (z_t_6) (z_t_7) l1 r_c30_1 e_c30_1 _) q702 q703 q704 q50 q705 nd_X3_digitOfOne ⟨Nat.le_of_ble_eq_true rfl, Nat.le_of_ble_eq_true rfl⟩ rfl rfl hP hD (hK.sub (tys' := []) [] rfl) hN rfl ⟨0, _, rfl⟩ rfl hl.1 rfl (Nat.le_of_ble_eq_true rfl) dX3_digitOfBar_30 ⟨Nat.le_of_ble_eq_true rfl, Nat.le_of_ble_eq_true rfl⟩) hS hA hD (fun H locs hP hD hS => ?_)
    have hP : va_P D vwCl ((h_t, .inr (3, [.int t_a, .int t_b, z_t_2, z_t_3, z_t_4, z_t_5, z_t_6, z_t_7])) :: R) H := hP
    have hD : va_D A ((h_t, .inr (3, [.int t_a, .int t_b, z_t_2, z_t_3, z_t_4, z_t_5, z_t_6, z_t_7])) :: R) := hD
    cases h
    exact rt_i S hr hlk hP hD hS dX3_digitOfBar_33
  · have h := br_neg c1 h
    refine lv_iload_n hx hb dX3_digitOfBar_7 rfl (lv_at hl 1 rfl) ?_
    refine lv_iconst (v := 2) hx hb dX3_digitOfBar_8 (by decide) ?_
    obtain ⟨n3, h⟩ := nzI_ok h
    refine lv_irem hx hb dX3_digitOfBar_9 n3 ?_
    refine lv_iconst (v := 1) hx hb dX3_digitOfBar_10 (by decide) ?_
    refine lv_icmp_ne (tgt := 21) hx hb dX3_digitOfBar_11 (by decide) (fun c4 => ?_) (fun c4 => ?_)
    · have h := br_neg c4 h
      refine lv_aload_n hx hb dX3_digitOfBar_21 rfl (lv_at hl 0 rfl) ?_
      refine va_get (D := D) (ci := 3) (v := .int t_b) (C := RX3) (T := TX3) (N := 8) hx hb ha ix3 hown hK hP 0 rfl rfl 1 (by decide) (ha _ q118) (fun _ h9 => h9) rfl dX3_digitOfBar_22 ?_
      refine lv_iconst (v := 1) hx hb dX3_digitOfBar_25 (by decide) ?_
      refine lv_isub hx hb dX3_digitOfBar_26 ?_
      cases h
      exact rt_i S hr hlk hP hD hS dX3_digitOfBar_27
    · have h := br_pos c4 h
      refine lv_aload_n hx hb dX3_digitOfBar_14 rfl (lv_at hl 0 rfl) ?_
      refine va_get (D := D) (ci := 3) (v := .int t_a) (C := RX3) (T := TX3) (N := 8) hx hb ha ix3 hown hK hP 0 rfl rfl 0 (by decide) (ha _ q115) (fun _ h9 => h9) rfl dX3_digitOfBar_15 ?_
      refine lv_goto (tgt := 27) hx hb dX3_digitOfBar_18 (by decide) ?_
      cases h
      exact rt_i S hr hlk hP hD hS dX3_digitOfBar_27
noncomputable def f_X3_rowCount (t_counted : Int32) (t_rowCounts : Nat → Int64) (l1 : Int32) : Option (Int64) :=
  if l1 < 0 then (
   some 0
  ) else (
   if t_counted ≤ l1 then (
    some 0
   ) else (
    gd (ixb l1 48) (
     some (t_rowCounts l1.toNatClampNeg)
    )
   )
  )
set_option maxHeartbeats 4000000 in
set_option maxRecDepth 100000 in
theorem c_X3_rowCount (l : Launch) (D : va_G) (R : va_W) (h_t : Nat) (z_t_0 : Value) (z_t_1 : Value) (z_t_2 : Value) (z_t_3 : Value) (z_t_4 : Value) (z_t_6 : Value) (t_counted : Int32) (h_t_rowCounts : Nat) (k_t_rowCounts : ClassId) (t_rowCounts : Nat → Int64) (l1 : Int32) (r : Int64)  (h : f_X3_rowCount t_counted t_rowCounts l1 = some r) (sz : Nat) : Met l yX3_rowCount (WD yX3_rowCount cX3_rowCount 2 (some .long)) ({ frames := 0, cells := 0, slots := 0, locals := 0 }) (va_Pc [.ref h_t, .int l1] (PcW D [(k_t_rowCounts, .long)] ((h_t, .inr (3, [z_t_0, z_t_1, z_t_2, z_t_3, z_t_4, .ref h_t_rowCounts, z_t_6, .int t_counted])) :: (h_t_rowCounts, .inl (k_t_rowCounts, 48, .inr (.inl t_rowCounts))) :: R) sz)) (QL D r ((h_t, .inr (3, [z_t_0, z_t_1, z_t_2, z_t_3, z_t_4, .ref h_t_rowCounts, z_t_6, .int t_counted])) :: (h_t_rowCounts, .inl (k_t_rowCounts, 48, .inr (.inl t_rowCounts))) :: R) (va_A ((h_t, .inr (3, [z_t_0, z_t_1, z_t_2, z_t_3, z_t_4, .ref h_t_rowCounts, z_t_6, .int t_counted])) :: (h_t_rowCounts, .inl (k_t_rowCounts, 48, .inr (.inl t_rowCounts))) :: R) sz)) 0 0 (va_A ((h_t, .inr (3, [z_t_0, z_t_1, z_t_2, z_t_3, z_t_4, .ref h_t_rowCounts, z_t_6, .int t_counted])) :: (h_t_rowCounts, .inl (k_t_rowCounts, 48, .inr (.inl t_rowCounts))) :: R) sz) := by
  refine ct_start (QF := fun A => QL D r ((h_t, .inr (3, [z_t_0, z_t_1, z_t_2, z_t_3, z_t_4, .ref h_t_rowCounts, z_t_6, .int t_counted])) :: (h_t_rowCounts, .inl (k_t_rowCounts, 48, .inr (.inl t_rowCounts))) :: R) A) ?_ ?_ ?_
  · decide +kernel
  · exact Nat.le_of_ble_eq_true rfl
  intro p e s m args below meth c A ls S hr hlk hnm hS hA hP hD hK hN hl
  have S : CallFix p m c cX3_rowCount 2 s args AL "DigitBench$Root" := S
  have hx := S.1
  have hb := S.2.1
  have hown := S.2.2.2.1
  have ha := S.2.2.2.2
  have hl : lv_has ls 2 [(0, .ref h_t), (1, .int l1)] := hl
  unfold f_X3_rowCount at h
  refine lv_iload_n hx hb dX3_rowCount_0 rfl (lv_at hl 1 rfl) ?_
  refine lv_if_lt (tgt := 21) hx hb dX3_rowCount_1 (by decide) (fun c1 => ?_) (fun c1 => ?_)
  · have h := br_pos c1 h
    refine lv_lconst (v := 0) hx hb dX3_rowCount_21 (by decide) ?_
    cases h
    exact rt_l S hr hlk hP hD hS dX3_rowCount_22
  · have h := br_neg c1 h
    refine lv_iload_n hx hb dX3_rowCount_4 rfl (lv_at hl 1 rfl) ?_
    refine lv_aload_n hx hb dX3_rowCount_5 rfl (lv_at hl 0 rfl) ?_
    refine va_get (D := D) (ci := 3) (v := .int t_counted) (C := RX3) (T := TX3) (N := 8) hx hb ha ix3 hown hK hP 0 rfl rfl 7 (by decide) (ha _ q129) (fun _ h9 => h9) rfl dX3_rowCount_6 ?_
    refine lv_icmp_ge (tgt := 21) hx hb dX3_rowCount_9 (by decide) (fun c2 => ?_) (fun c2 => ?_)
    · have h := br_pos c2 h
      refine lv_lconst (v := 0) hx hb dX3_rowCount_21 (by decide) ?_
      cases h
      exact rt_l S hr hlk hP hD hS dX3_rowCount_22
    · have h := br_neg c2 h
      refine lv_aload_n hx hb dX3_rowCount_12 rfl (lv_at hl 0 rfl) ?_
      refine va_get (D := D) (ci := 3) (v := .ref h_t_rowCounts) (C := RX3) (T := TX3) (N := 8) hx hb ha ix3 hown hK hP 0 rfl rfl 5 (by decide) (ha _ q126) (fun _ h9 => h9) rfl dX3_rowCount_13 ?_
      refine lv_iload_n hx hb dX3_rowCount_16 rfl (lv_at hl 1 rfl) ?_
      obtain ⟨i3, h⟩ := ix_ok h
      refine va_lald hx hb hK hP 1 0 rfl rfl i3 dX3_rowCount_17 ?_
      refine lv_goto (tgt := 22) hx hb dX3_rowCount_18 (by decide) ?_
      cases h
      exact rt_l S hr hlk hP hD hS dX3_rowCount_22
noncomputable def f_X3_sign (t_a : Int32) (t_square : Int64) (l1 : Int64) (l3 : Int64) : Option (Int32) :=
  if ((2 * l1) + (t_a.toInt64 * l3)) < 0 then (
   if 0 < ((2 * l1) + (t_a.toInt64 * l3)) then (
    if (((2 * l1) + (t_a.toInt64 * l3)) * ((2 * l1) + (t_a.toInt64 * l3))) ≤ ((t_square * l3) * l3) then (
     if ((2 * l1) + (t_a.toInt64 * l3)) ≤ 0 then (
      some 1
     ) else (
      some (-1)
     )
    ) else (
     if ((2 * l1) + (t_a.toInt64 * l3)) ≤ 0 then (
      some (-1)
     ) else (
      some 1
     )
    )
   ) else (
    if 0 < l3 then (
     if (((2 * l1) + (t_a.toInt64 * l3)) * ((2 * l1) + (t_a.toInt64 * l3))) ≤ ((t_square * l3) * l3) then (
      if ((2 * l1) + (t_a.toInt64 * l3)) ≤ 0 then (
       some 1
      ) else (
       some (-1)
      )
     ) else (
      if ((2 * l1) + (t_a.toInt64 * l3)) ≤ 0 then (
       some (-1)
      ) else (
       some 1
      )
     )
    ) else (
     some (-1)
    )
   )
  ) else (
   if l3 < 0 then (
    if 0 < ((2 * l1) + (t_a.toInt64 * l3)) then (
     if (((2 * l1) + (t_a.toInt64 * l3)) * ((2 * l1) + (t_a.toInt64 * l3))) ≤ ((t_square * l3) * l3) then (
      if ((2 * l1) + (t_a.toInt64 * l3)) ≤ 0 then (
       some 1
      ) else (
       some (-1)
      )
     ) else (
      if ((2 * l1) + (t_a.toInt64 * l3)) ≤ 0 then (
       some (-1)
      ) else (
       some 1
      )
     )
    ) else (
     if 0 < l3 then (
      if (((2 * l1) + (t_a.toInt64 * l3)) * ((2 * l1) + (t_a.toInt64 * l3))) ≤ ((t_square * l3) * l3) then (
       if ((2 * l1) + (t_a.toInt64 * l3)) ≤ 0 then (
        some 1
       ) else (
        some (-1)
       )
      ) else (
       if ((2 * l1) + (t_a.toInt64 * l3)) ≤ 0 then (
        some (-1)
       ) else (
        some 1
       )
      )
     ) else (
      some (-1)
     )
    )
   ) else (
    if ((2 * l1) + (t_a.toInt64 * l3)) = 0 then (
     if l3 = 0 then (
      some 0
     ) else (
      some 1
     )
    ) else (
     some 1
    )
   )
  )
set_option maxHeartbeats 4000000 in
set_option maxRecDepth 100000 in
theorem c_X3_sign (l : Launch) (D : va_G) (R : va_W) (h_t : Nat) (t_a : Int32) (z_t_1 : Value) (t_square : Int64) (z_t_3 : Value) (z_t_4 : Value) (z_t_5 : Value) (z_t_6 : Value) (z_t_7 : Value) (l1 : Int64) (l3 : Int64) (r : Int32)  (h : f_X3_sign t_a t_square l1 l3 = some r) (sz : Nat) : Met l yX3_sign (WD yX3_sign cX3_sign 8 (some .int)) ({ frames := 0, cells := 0, slots := 0, locals := 0 }) (va_Pc [.ref h_t, .long l1, .long l3] (PcW D [] ((h_t, .inr (3, [.int t_a, z_t_1, .long t_square, z_t_3, z_t_4, z_t_5, z_t_6, z_t_7])) :: R) sz)) (QI D r ((h_t, .inr (3, [.int t_a, z_t_1, .long t_square, z_t_3, z_t_4, z_t_5, z_t_6, z_t_7])) :: R) (va_A ((h_t, .inr (3, [.int t_a, z_t_1, .long t_square, z_t_3, z_t_4, z_t_5, z_t_6, z_t_7])) :: R) sz)) 0 0 (va_A ((h_t, .inr (3, [.int t_a, z_t_1, .long t_square, z_t_3, z_t_4, z_t_5, z_t_6, z_t_7])) :: R) sz) := by
  refine ct_start (QF := fun A => QI D r ((h_t, .inr (3, [.int t_a, z_t_1, .long t_square, z_t_3, z_t_4, z_t_5, z_t_6, z_t_7])) :: R) A) ?_ ?_ ?_
  · decide +kernel
  · exact Nat.le_of_ble_eq_true rfl
  intro p e s m args below meth c A ls S hr hlk hnm hS hA hP hD hK hN hl
  have S : CallFix p m c cX3_sign 8 s args AL "DigitBench$Root" := S
  have hx := S.1
  have hb := S.2.1
  have hown := S.2.2.2.1
  have ha := S.2.2.2.2
  have hl : lv_has ls 8 [(0, .ref h_t), (1, .long l1), (3, .long l3)] := hl
  unfold f_X3_sign at h
  refine lv_ldc2 (v := 2) hx hb hown (ha _ q552) dX3_sign_0 ?_
  refine lv_lload_n hx hb dX3_sign_3 rfl (lv_at hl 1 rfl) ?_
  refine lv_lmul hx hb dX3_sign_4 ?_
  refine lv_aload_n hx hb dX3_sign_5 rfl (lv_at hl 0 rfl) ?_
  refine va_get (D := D) (ci := 3) (v := .int t_a) (C := RX3) (T := TX3) (N := 8) hx hb ha ix3 hown hK hP 0 rfl rfl 0 (by decide) (ha _ q115) (fun _ h9 => h9) rfl dX3_sign_6 ?_
  refine lv_i2l (v := t_a.toInt64) hx hb dX3_sign_9 rfl ?_
  refine lv_lload_n hx hb dX3_sign_10 rfl (lv_at hl 2 rfl) ?_
  refine lv_lmul hx hb dX3_sign_11 ?_
  refine lv_ladd hx hb dX3_sign_12 ?_
  refine lv_lstore (lv' := [(5, .long ((2 * l1) + (t_a.toInt64 * l3))), (0, .ref h_t), (1, .long l1), (3, .long l3)]) hx hb dX3_sign_13 hl (by decide) rfl (fun ls hl => ?_)
  refine lv_lload hx hb dX3_sign_15 (lv_at hl 0 rfl) ?_
  refine lv_lconst (v := 0) hx hb dX3_sign_17 (by decide) ?_
  refine xl_lt (tgt := 47) hx hb dX3_sign_18 dX3_sign_19 (by decide) (fun c1 => ?_) (fun c1 => ?_)
  · have h := br_pos c1 h
    refine lv_lload hx hb dX3_sign_47 (lv_at hl 0 rfl) ?_
    refine lv_lconst (v := 0) hx hb dX3_sign_49 (by decide) ?_
    refine xl_gt (tgt := 62) hx hb dX3_sign_50 dX3_sign_51 (by decide) (fun c2 => ?_) (fun c2 => ?_)
    · have h := br_pos c2 h
      refine lv_lload hx hb dX3_sign_62 (lv_at hl 0 rfl) ?_
      refine lv_lload hx hb dX3_sign_64 (lv_at hl 0 rfl) ?_
      refine lv_lmul hx hb dX3_sign_66 ?_
      refine lv_aload_n hx hb dX3_sign_67 rfl (lv_at hl 1 rfl) ?_
      refine va_get (D := D) (ci := 3) (v := .long t_square) (C := RX3) (T := TX3) (N := 8) hx hb ha ix3 hown hK hP 0 rfl rfl 2 (by decide) (ha _ q121) (fun _ h9 => h9) rfl dX3_sign_68 ?_
      refine lv_lload_n hx hb dX3_sign_71 rfl (lv_at hl 3 rfl) ?_
      refine lv_lmul hx hb dX3_sign_72 ?_
      refine lv_lload_n hx hb dX3_sign_73 rfl (lv_at hl 3 rfl) ?_
      refine lv_lmul hx hb dX3_sign_74 ?_
      refine xl_le (tgt := 83) hx hb dX3_sign_75 dX3_sign_76 (by decide) (fun c3 => ?_) (fun c3 => ?_)
      · have h := br_pos c3 h
        refine lv_iconst (v := 0) hx hb dX3_sign_83 (by decide) ?_
        refine lv_istore (lv' := [(7, .int 0), (5, .long ((2 * l1) + (t_a.toInt64 * l3))), (0, .ref h_t), (1, .long l1), (3, .long l3)]) hx hb dX3_sign_84 hl (by decide) rfl (fun ls hl => ?_)
        refine lv_iload hx hb dX3_sign_86 (lv_at hl 0 rfl) ?_
        refine lv_lload hx hb dX3_sign_88 (lv_at hl 1 rfl) ?_
        refine lv_lconst (v := 0) hx hb dX3_sign_90 (by decide) ?_
        refine xl_le (tgt := 99) hx hb dX3_sign_91 dX3_sign_92 (by decide) (fun c4 => ?_) (fun c4 => ?_)
        · have h := br_pos c4 h
          refine lv_iconst (v := 0) hx hb dX3_sign_99 (by decide) ?_
          refine lv_icmp_ne (tgt := 107) hx hb dX3_sign_100 (by decide) (fun c5 => ?_) (fun c5 => ?_)
          · exact absurd c5 (by decide)
          · refine lv_iconst (v := 1) hx hb dX3_sign_103 (by decide) ?_
            refine lv_goto (tgt := 108) hx hb dX3_sign_104 (by decide) ?_
            cases h
            exact rt_i S hr hlk hP hD hS dX3_sign_108
        · have h := br_neg c4 h
          refine lv_iconst (v := 1) hx hb dX3_sign_95 (by decide) ?_
          refine lv_goto (tgt := 100) hx hb dX3_sign_96 (by decide) ?_
          refine lv_icmp_ne (tgt := 107) hx hb dX3_sign_100 (by decide) (fun c6 => ?_) (fun c6 => ?_)
          · refine lv_iconst (v := (-1)) hx hb dX3_sign_107 (by decide) ?_
            cases h
            exact rt_i S hr hlk hP hD hS dX3_sign_108
          · exact absurd c6 (by decide)
      · have h := br_neg c3 h
        refine lv_iconst (v := 1) hx hb dX3_sign_79 (by decide) ?_
        refine lv_goto (tgt := 84) hx hb dX3_sign_80 (by decide) ?_
        refine lv_istore (lv' := [(7, .int 1), (5, .long ((2 * l1) + (t_a.toInt64 * l3))), (0, .ref h_t), (1, .long l1), (3, .long l3)]) hx hb dX3_sign_84 hl (by decide) rfl (fun ls hl => ?_)
        refine lv_iload hx hb dX3_sign_86 (lv_at hl 0 rfl) ?_
        refine lv_lload hx hb dX3_sign_88 (lv_at hl 1 rfl) ?_
        refine lv_lconst (v := 0) hx hb dX3_sign_90 (by decide) ?_
        refine xl_le (tgt := 99) hx hb dX3_sign_91 dX3_sign_92 (by decide) (fun c7 => ?_) (fun c7 => ?_)
        · have h := br_pos c7 h
          refine lv_iconst (v := 0) hx hb dX3_sign_99 (by decide) ?_
          refine lv_icmp_ne (tgt := 107) hx hb dX3_sign_100 (by decide) (fun c8 => ?_) (fun c8 => ?_)
          · refine lv_iconst (v := (-1)) hx hb dX3_sign_107 (by decide) ?_
            cases h
            exact rt_i S hr hlk hP hD hS dX3_sign_108
          · exact absurd c8 (by decide)
        · have h := br_neg c7 h
          refine lv_iconst (v := 1) hx hb dX3_sign_95 (by decide) ?_
          refine lv_goto (tgt := 100) hx hb dX3_sign_96 (by decide) ?_
          refine lv_icmp_ne (tgt := 107) hx hb dX3_sign_100 (by decide) (fun c9 => ?_) (fun c9 => ?_)
          · exact absurd c9 (by decide)
          · refine lv_iconst (v := 1) hx hb dX3_sign_103 (by decide) ?_
            refine lv_goto (tgt := 108) hx hb dX3_sign_104 (by decide) ?_
            cases h
            exact rt_i S hr hlk hP hD hS dX3_sign_108
    · have h := br_neg c2 h
      refine lv_lload_n hx hb dX3_sign_54 rfl (lv_at hl 3 rfl) ?_
      refine lv_lconst (v := 0) hx hb dX3_sign_55 (by decide) ?_
      refine xl_gt (tgt := 62) hx hb dX3_sign_56 dX3_sign_57 (by decide) (fun c10 => ?_) (fun c10 => ?_)
      · have h := br_pos c10 h
        refine lv_lload hx hb dX3_sign_62 (lv_at hl 0 rfl) ?_
        refine lv_lload hx hb dX3_sign_64 (lv_at hl 0 rfl) ?_
        refine lv_lmul hx hb dX3_sign_66 ?_
        refine lv_aload_n hx hb dX3_sign_67 rfl (lv_at hl 1 rfl) ?_
        refine va_get (D := D) (ci := 3) (v := .long t_square) (C := RX3) (T := TX3) (N := 8) hx hb ha ix3 hown hK hP 0 rfl rfl 2 (by decide) (ha _ q121) (fun _ h9 => h9) rfl dX3_sign_68 ?_
        refine lv_lload_n hx hb dX3_sign_71 rfl (lv_at hl 3 rfl) ?_
        refine lv_lmul hx hb dX3_sign_72 ?_
        refine lv_lload_n hx hb dX3_sign_73 rfl (lv_at hl 3 rfl) ?_
        refine lv_lmul hx hb dX3_sign_74 ?_
        refine xl_le (tgt := 83) hx hb dX3_sign_75 dX3_sign_76 (by decide) (fun c11 => ?_) (fun c11 => ?_)
        · have h := br_pos c11 h
          refine lv_iconst (v := 0) hx hb dX3_sign_83 (by decide) ?_
          refine lv_istore (lv' := [(7, .int 0), (5, .long ((2 * l1) + (t_a.toInt64 * l3))), (0, .ref h_t), (1, .long l1), (3, .long l3)]) hx hb dX3_sign_84 hl (by decide) rfl (fun ls hl => ?_)
          refine lv_iload hx hb dX3_sign_86 (lv_at hl 0 rfl) ?_
          refine lv_lload hx hb dX3_sign_88 (lv_at hl 1 rfl) ?_
          refine lv_lconst (v := 0) hx hb dX3_sign_90 (by decide) ?_
          refine xl_le (tgt := 99) hx hb dX3_sign_91 dX3_sign_92 (by decide) (fun c12 => ?_) (fun c12 => ?_)
          · have h := br_pos c12 h
            refine lv_iconst (v := 0) hx hb dX3_sign_99 (by decide) ?_
            refine lv_icmp_ne (tgt := 107) hx hb dX3_sign_100 (by decide) (fun c13 => ?_) (fun c13 => ?_)
            · exact absurd c13 (by decide)
            · refine lv_iconst (v := 1) hx hb dX3_sign_103 (by decide) ?_
              refine lv_goto (tgt := 108) hx hb dX3_sign_104 (by decide) ?_
              cases h
              exact rt_i S hr hlk hP hD hS dX3_sign_108
          · have h := br_neg c12 h
            refine lv_iconst (v := 1) hx hb dX3_sign_95 (by decide) ?_
            refine lv_goto (tgt := 100) hx hb dX3_sign_96 (by decide) ?_
            refine lv_icmp_ne (tgt := 107) hx hb dX3_sign_100 (by decide) (fun c14 => ?_) (fun c14 => ?_)
            · refine lv_iconst (v := (-1)) hx hb dX3_sign_107 (by decide) ?_
              cases h
              exact rt_i S hr hlk hP hD hS dX3_sign_108
            · exact absurd c14 (by decide)
        · have h := br_neg c11 h
          refine lv_iconst (v := 1) hx hb dX3_sign_79 (by decide) ?_
          refine lv_goto (tgt := 84) hx hb dX3_sign_80 (by decide) ?_
          refine lv_istore (lv' := [(7, .int 1), (5, .long ((2 * l1) + (t_a.toInt64 * l3))), (0, .ref h_t), (1, .long l1), (3, .long l3)]) hx hb dX3_sign_84 hl (by decide) rfl (fun ls hl => ?_)
          refine lv_iload hx hb dX3_sign_86 (lv_at hl 0 rfl) ?_
          refine lv_lload hx hb dX3_sign_88 (lv_at hl 1 rfl) ?_
          refine lv_lconst (v := 0) hx hb dX3_sign_90 (by decide) ?_
          refine xl_le (tgt := 99) hx hb dX3_sign_91 dX3_sign_92 (by decide) (fun c15 => ?_) (fun c15 => ?_)
          · have h := br_pos c15 h
            refine lv_iconst (v := 0) hx hb dX3_sign_99 (by decide) ?_
            refine lv_icmp_ne (tgt := 107) hx hb dX3_sign_100 (by decide) (fun c16 => ?_) (fun c16 => ?_)
            · refine lv_iconst (v := (-1)) hx hb dX3_sign_107 (by decide) ?_
              cases h
              exact rt_i S hr hlk hP hD hS dX3_sign_108
            · exact absurd c16 (by decide)
          · have h := br_neg c15 h
            refine lv_iconst (v := 1) hx hb dX3_sign_95 (by decide) ?_
            refine lv_goto (tgt := 100) hx hb dX3_sign_96 (by decide) ?_
            refine lv_icmp_ne (tgt := 107) hx hb dX3_sign_100 (by decide) (fun c17 => ?_) (fun c17 => ?_)
            · exact absurd c17 (by decide)
            · refine lv_iconst (v := 1) hx hb dX3_sign_103 (by decide) ?_
              refine lv_goto (tgt := 108) hx hb dX3_sign_104 (by decide) ?_
              cases h
              exact rt_i S hr hlk hP hD hS dX3_sign_108
      · have h := br_neg c10 h
        refine lv_iconst (v := (-1)) hx hb dX3_sign_60 (by decide) ?_
        cases h
        exact rt_i S hr hlk hP hD hS dX3_sign_61
  · have h := br_neg c1 h
    refine lv_lload_n hx hb dX3_sign_22 rfl (lv_at hl 3 rfl) ?_
    refine lv_lconst (v := 0) hx hb dX3_sign_23 (by decide) ?_
    refine xl_lt (tgt := 47) hx hb dX3_sign_24 dX3_sign_25 (by decide) (fun c18 => ?_) (fun c18 => ?_)
    · have h := br_pos c18 h
      refine lv_lload hx hb dX3_sign_47 (lv_at hl 0 rfl) ?_
      refine lv_lconst (v := 0) hx hb dX3_sign_49 (by decide) ?_
      refine xl_gt (tgt := 62) hx hb dX3_sign_50 dX3_sign_51 (by decide) (fun c19 => ?_) (fun c19 => ?_)
      · have h := br_pos c19 h
        refine lv_lload hx hb dX3_sign_62 (lv_at hl 0 rfl) ?_
        refine lv_lload hx hb dX3_sign_64 (lv_at hl 0 rfl) ?_
        refine lv_lmul hx hb dX3_sign_66 ?_
        refine lv_aload_n hx hb dX3_sign_67 rfl (lv_at hl 1 rfl) ?_
        refine va_get (D := D) (ci := 3) (v := .long t_square) (C := RX3) (T := TX3) (N := 8) hx hb ha ix3 hown hK hP 0 rfl rfl 2 (by decide) (ha _ q121) (fun _ h9 => h9) rfl dX3_sign_68 ?_
        refine lv_lload_n hx hb dX3_sign_71 rfl (lv_at hl 3 rfl) ?_
        refine lv_lmul hx hb dX3_sign_72 ?_
        refine lv_lload_n hx hb dX3_sign_73 rfl (lv_at hl 3 rfl) ?_
        refine lv_lmul hx hb dX3_sign_74 ?_
        refine xl_le (tgt := 83) hx hb dX3_sign_75 dX3_sign_76 (by decide) (fun c20 => ?_) (fun c20 => ?_)
        · have h := br_pos c20 h
          refine lv_iconst (v := 0) hx hb dX3_sign_83 (by decide) ?_
          refine lv_istore (lv' := [(7, .int 0), (5, .long ((2 * l1) + (t_a.toInt64 * l3))), (0, .ref h_t), (1, .long l1), (3, .long l3)]) hx hb dX3_sign_84 hl (by decide) rfl (fun ls hl => ?_)
          refine lv_iload hx hb dX3_sign_86 (lv_at hl 0 rfl) ?_
          refine lv_lload hx hb dX3_sign_88 (lv_at hl 1 rfl) ?_
          refine lv_lconst (v := 0) hx hb dX3_sign_90 (by decide) ?_
          refine xl_le (tgt := 99) hx hb dX3_sign_91 dX3_sign_92 (by decide) (fun c21 => ?_) (fun c21 => ?_)
          · have h := br_pos c21 h
            refine lv_iconst (v := 0) hx hb dX3_sign_99 (by decide) ?_
            refine lv_icmp_ne (tgt := 107) hx hb dX3_sign_100 (by decide) (fun c22 => ?_) (fun c22 => ?_)
            · exact absurd c22 (by decide)
            · refine lv_iconst (v := 1) hx hb dX3_sign_103 (by decide) ?_
              refine lv_goto (tgt := 108) hx hb dX3_sign_104 (by decide) ?_
              cases h
              exact rt_i S hr hlk hP hD hS dX3_sign_108
          · have h := br_neg c21 h
            refine lv_iconst (v := 1) hx hb dX3_sign_95 (by decide) ?_
            refine lv_goto (tgt := 100) hx hb dX3_sign_96 (by decide) ?_
            refine lv_icmp_ne (tgt := 107) hx hb dX3_sign_100 (by decide) (fun c23 => ?_) (fun c23 => ?_)
            · refine lv_iconst (v := (-1)) hx hb dX3_sign_107 (by decide) ?_
              cases h
              exact rt_i S hr hlk hP hD hS dX3_sign_108
            · exact absurd c23 (by decide)
        · have h := br_neg c20 h
          refine lv_iconst (v := 1) hx hb dX3_sign_79 (by decide) ?_
          refine lv_goto (tgt := 84) hx hb dX3_sign_80 (by decide) ?_
          refine lv_istore (lv' := [(7, .int 1), (5, .long ((2 * l1) + (t_a.toInt64 * l3))), (0, .ref h_t), (1, .long l1), (3, .long l3)]) hx hb dX3_sign_84 hl (by decide) rfl (fun ls hl => ?_)
          refine lv_iload hx hb dX3_sign_86 (lv_at hl 0 rfl) ?_
          refine lv_lload hx hb dX3_sign_88 (lv_at hl 1 rfl) ?_
          refine lv_lconst (v := 0) hx hb dX3_sign_90 (by decide) ?_
          refine xl_le (tgt := 99) hx hb dX3_sign_91 dX3_sign_92 (by decide) (fun c24 => ?_) (fun c24 => ?_)
          · have h := br_pos c24 h
            refine lv_iconst (v := 0) hx hb dX3_sign_99 (by decide) ?_
            refine lv_icmp_ne (tgt := 107) hx hb dX3_sign_100 (by decide) (fun c25 => ?_) (fun c25 => ?_)
            · refine lv_iconst (v := (-1)) hx hb dX3_sign_107 (by decide) ?_
              cases h
              exact rt_i S hr hlk hP hD hS dX3_sign_108
            · exact absurd c25 (by decide)
          · have h := br_neg c24 h
            refine lv_iconst (v := 1) hx hb dX3_sign_95 (by decide) ?_
            refine lv_goto (tgt := 100) hx hb dX3_sign_96 (by decide) ?_
            refine lv_icmp_ne (tgt := 107) hx hb dX3_sign_100 (by decide) (fun c26 => ?_) (fun c26 => ?_)
            · exact absurd c26 (by decide)
            · refine lv_iconst (v := 1) hx hb dX3_sign_103 (by decide) ?_
              refine lv_goto (tgt := 108) hx hb dX3_sign_104 (by decide) ?_
              cases h
              exact rt_i S hr hlk hP hD hS dX3_sign_108
      · have h := br_neg c19 h
        refine lv_lload_n hx hb dX3_sign_54 rfl (lv_at hl 3 rfl) ?_
        refine lv_lconst (v := 0) hx hb dX3_sign_55 (by decide) ?_
        refine xl_gt (tgt := 62) hx hb dX3_sign_56 dX3_sign_57 (by decide) (fun c27 => ?_) (fun c27 => ?_)
        · have h := br_pos c27 h
          refine lv_lload hx hb dX3_sign_62 (lv_at hl 0 rfl) ?_
          refine lv_lload hx hb dX3_sign_64 (lv_at hl 0 rfl) ?_
          refine lv_lmul hx hb dX3_sign_66 ?_
          refine lv_aload_n hx hb dX3_sign_67 rfl (lv_at hl 1 rfl) ?_
          refine va_get (D := D) (ci := 3) (v := .long t_square) (C := RX3) (T := TX3) (N := 8) hx hb ha ix3 hown hK hP 0 rfl rfl 2 (by decide) (ha _ q121) (fun _ h9 => h9) rfl dX3_sign_68 ?_
          refine lv_lload_n hx hb dX3_sign_71 rfl (lv_at hl 3 rfl) ?_
          refine lv_lmul hx hb dX3_sign_72 ?_
          refine lv_lload_n hx hb dX3_sign_73 rfl (lv_at hl 3 rfl) ?_
          refine lv_lmul hx hb dX3_sign_74 ?_
          refine xl_le (tgt := 83) hx hb dX3_sign_75 dX3_sign_76 (by decide) (fun c28 => ?_) (fun c28 => ?_)
          · have h := br_pos c28 h
            refine lv_iconst (v := 0) hx hb dX3_sign_83 (by decide) ?_
            refine lv_istore (lv' := [(7, .int 0), (5, .long ((2 * l1) + (t_a.toInt64 * l3))), (0, .ref h_t), (1, .long l1), (3, .long l3)]) hx hb dX3_sign_84 hl (by decide) rfl (fun ls hl => ?_)
            refine lv_iload hx hb dX3_sign_86 (lv_at hl 0 rfl) ?_
            refine lv_lload hx hb dX3_sign_88 (lv_at hl 1 rfl) ?_
            refine lv_lconst (v := 0) hx hb dX3_sign_90 (by decide) ?_
            refine xl_le (tgt := 99) hx hb dX3_sign_91 dX3_sign_92 (by decide) (fun c29 => ?_) (fun c29 => ?_)
            · have h := br_pos c29 h
              refine lv_iconst (v := 0) hx hb dX3_sign_99 (by decide) ?_
              refine lv_icmp_ne (tgt := 107) hx hb dX3_sign_100 (by decide) (fun c30 => ?_) (fun c30 => ?_)
              · exact absurd c30 (by decide)
              · refine lv_iconst (v := 1) hx hb dX3_sign_103 (by decide) ?_
                refine lv_goto (tgt := 108) hx hb dX3_sign_104 (by decide) ?_
                cases h
                exact rt_i S hr hlk hP hD hS dX3_sign_108
            · have h := br_neg c29 h
              refine lv_iconst (v := 1) hx hb dX3_sign_95 (by decide) ?_
              refine lv_goto (tgt := 100) hx hb dX3_sign_96 (by decide) ?_
              refine lv_icmp_ne (tgt := 107) hx hb dX3_sign_100 (by decide) (fun c31 => ?_) (fun c31 => ?_)
              · refine lv_iconst (v := (-1)) hx hb dX3_sign_107 (by decide) ?_
                cases h
                exact rt_i S hr hlk hP hD hS dX3_sign_108
              · exact absurd c31 (by decide)
          · have h := br_neg c28 h
            refine lv_iconst (v := 1) hx hb dX3_sign_79 (by decide) ?_
            refine lv_goto (tgt := 84) hx hb dX3_sign_80 (by decide) ?_
            refine lv_istore (lv' := [(7, .int 1), (5, .long ((2 * l1) + (t_a.toInt64 * l3))), (0, .ref h_t), (1, .long l1), (3, .long l3)]) hx hb dX3_sign_84 hl (by decide) rfl (fun ls hl => ?_)
            refine lv_iload hx hb dX3_sign_86 (lv_at hl 0 rfl) ?_
            refine lv_lload hx hb dX3_sign_88 (lv_at hl 1 rfl) ?_
            refine lv_lconst (v := 0) hx hb dX3_sign_90 (by decide) ?_
            refine xl_le (tgt := 99) hx hb dX3_sign_91 dX3_sign_92 (by decide) (fun c32 => ?_) (fun c32 => ?_)
            · have h := br_pos c32 h
              refine lv_iconst (v := 0) hx hb dX3_sign_99 (by decide) ?_
              refine lv_icmp_ne (tgt := 107) hx hb dX3_sign_100 (by decide) (fun c33 => ?_) (fun c33 => ?_)
              · refine lv_iconst (v := (-1)) hx hb dX3_sign_107 (by decide) ?_
                cases h
                exact rt_i S hr hlk hP hD hS dX3_sign_108
              · exact absurd c33 (by decide)
            · have h := br_neg c32 h
              refine lv_iconst (v := 1) hx hb dX3_sign_95 (by decide) ?_
              refine lv_goto (tgt := 100) hx hb dX3_sign_96 (by decide) ?_
              refine lv_icmp_ne (tgt := 107) hx hb dX3_sign_100 (by decide) (fun c34 => ?_) (fun c34 => ?_)
              · exact absurd c34 (by decide)
              · refine lv_iconst (v := 1) hx hb dX3_sign_103 (by decide) ?_
                refine lv_goto (tgt := 108) hx hb dX3_sign_104 (by decide) ?_
                cases h
                exact rt_i S hr hlk hP hD hS dX3_sign_108
        · have h := br_neg c27 h
          refine lv_iconst (v := (-1)) hx hb dX3_sign_60 (by decide) ?_
          cases h
          exact rt_i S hr hlk hP hD hS dX3_sign_61
    · have h := br_neg c18 h
      refine lv_lload hx hb dX3_sign_28 (lv_at hl 0 rfl) ?_
      refine lv_lconst (v := 0) hx hb dX3_sign_30 (by decide) ?_
      refine xl_ne (tgt := 45) hx hb dX3_sign_31 dX3_sign_32 (by decide) (fun c35 => ?_) (fun c35 => ?_)
      · have h := br_neg c35 h
        refine lv_iconst (v := 1) hx hb dX3_sign_45 (by decide) ?_
        cases h
        exact rt_i S hr hlk hP hD hS dX3_sign_46
      · have h := br_pos c35 h
        refine lv_lload_n hx hb dX3_sign_35 rfl (lv_at hl 3 rfl) ?_
        refine lv_lconst (v := 0) hx hb dX3_sign_36 (by decide) ?_
        refine xl_ne (tgt := 45) hx hb dX3_sign_37 dX3_sign_38 (by decide) (fun c36 => ?_) (fun c36 => ?_)
        · have h := br_neg c36 h
          refine lv_iconst (v := 1) hx hb dX3_sign_45 (by decide) ?_
          cases h
          exact rt_i S hr hlk hP hD hS dX3_sign_46
        · have h := br_pos c36 h
          refine lv_iconst (v := 0) hx hb dX3_sign_41 (by decide) ?_
          refine lv_goto (tgt := 46) hx hb dX3_sign_42 (by decide) ?_
          cases h
          exact rt_i S hr hlk hP hD hS dX3_sign_46
noncomputable def f_X3_squareRoot_L6 (l0 : Int64) : Nat → Int64 → Int32 →  Option (Int64)
  | 0, _, _ => none
  | n + 1, l2, l4 => (
    if l4 < 0 then (
     some l2
    ) else (
     if l0 < ((l2 + ((1 : Int64) <<< (l4.toInt64 &&& 63))) * (l2 + ((1 : Int64) <<< (l4.toInt64 &&& 63)))) then (
      f_X3_squareRoot_L6 l0 n l2 (l4 + (-1))
     ) else (
      f_X3_squareRoot_L6 l0 n (l2 + ((1 : Int64) <<< (l4.toInt64 &&& 63))) (l4 + (-1))
     )
    ))
noncomputable def f_X3_squareRoot (l0 : Int64) : Option (Int64) :=
  bnd1 (f_X3_squareRoot_L6 l0 FU 0 20) fun x2_L6_2 => (
   some x2_L6_2
  )
set_option maxHeartbeats 4000000 in
set_option maxRecDepth 100000 in
theorem c_X3_squareRoot (l : Launch) (D : va_G) (R : va_W) (l0 : Int64) (r : Int64)  (h : f_X3_squareRoot l0 = some r) (sz : Nat) : Met l yX3_squareRoot (WD yX3_squareRoot cX3_squareRoot 7 (some .long)) ({ frames := 0, cells := 0, slots := 0, locals := 0 }) (va_Pc [.long l0] (PcW D [] (R) sz)) (QL D r (R) (va_A (R) sz)) 0 0 (va_A (R) sz) := by
  refine ct_start (QF := fun A => QL D r (R) A) ?_ ?_ ?_
  · decide +kernel
  · exact Nat.le_of_ble_eq_true rfl
  intro p e s m args below meth c A ls S hr hlk hnm hS hA hP hD hK hN hl
  have S : CallFix p m c cX3_squareRoot 7 s args AL "DigitBench$Root" := S
  have hx := S.1
  have hb := S.2.1
  have hown := S.2.2.2.1
  have ha := S.2.2.2.2
  have hl : lv_has ls 7 [(0, .long l0)] := hl
  have L6 : ∀ (Q : State → Prop) (n : Nat) (l0 : Int64) (l2 : Int64) (l4 : Int32)  (x2 : Int64), f_X3_squareRoot_L6 l0 n l2 l4 = some x2 → ∀ (H : Heap) (locs : List Loc) (ls : Array Slot), va_P D vwCl (R) H → va_D A (R) → va_S A s.heap H locs → lv_has ls 7 [(0, .long l0), (2, .long l2), (4, .int l4)] → (∀ (H : Heap) (locs : List Loc) (ls : Array Slot), va_P D vwCl (R) H → va_D A (R) → va_S A s.heap H locs → lv_has ls 7 [(2, .long x2)] → W p l e { frames := 0, cells := 0, slots := 0, locals := 0 } s m args below meth c H locs 0 0 Q (F0 m 38 ls [])) → W p l e { frames := 0, cells := 0, slots := 0, locals := 0 } s m args below meth c H locs 0 0 Q (F0 m 6 ls []) := by
    intro Q n
    induction n with
    | zero =>
      intro l0 l2 l4 x2 h
      rw [f_X3_squareRoot_L6] at h; cases h
    | succ n ih =>
      intro l0 l2 l4 x2 h H locs ls hP hD hS hl kk0
      rw [f_X3_squareRoot_L6] at h
      refine lv_iload hx hb dX3_squareRoot_6 (lv_at hl 2 rfl) ?_
      refine lv_if_lt (tgt := 38) hx hb dX3_squareRoot_8 (by decide) (fun c1 => ?_) (fun c1 => ?_)
      · have h := br_pos c1 h
        cases h
        exact kk0 _ _ _ hP hD hS (lv_sub hl [1] rfl)
      · have h := br_neg c1 h
        refine lv_lload_n hx hb dX3_squareRoot_11 rfl (lv_at hl 1 rfl) ?_
        refine lv_lconst (v := 1) hx hb dX3_squareRoot_12 (by decide) ?_
        refine lv_iload hx hb dX3_squareRoot_13 (lv_at hl 2 rfl) ?_
        refine lv_lshl (v := ((1 : Int64) <<< (l4.toInt64 &&& 63))) hx hb dX3_squareRoot_15 rfl ?_
        refine lv_ladd hx hb dX3_squareRoot_16 ?_
        refine lv_lstore (lv' := [(5, .long (l2 + ((1 : Int64) <<< (l4.toInt64 &&& 63)))), (0, .long l0), (2, .long l2), (4, .int l4)]) hx hb dX3_squareRoot_17 hl (by decide) rfl (fun ls hl => ?_)
        refine lv_lload hx hb dX3_squareRoot_19 (lv_at hl 0 rfl) ?_
        refine lv_lload hx hb dX3_squareRoot_21 (lv_at hl 0 rfl) ?_
        refine lv_lmul hx hb dX3_squareRoot_23 ?_
        refine lv_lload_n hx hb dX3_squareRoot_24 rfl (lv_at hl 1 rfl) ?_
        refine xl_gt (tgt := 32) hx hb dX3_squareRoot_25 dX3_squareRoot_26 (by decide) (fun c2 => ?_) (fun c2 => ?_)
        · have h := br_pos c2 h
          refine lv_iinc (v := (l4 + (-1))) (lv' := [(4, .int (l4 + (-1))), (5, .long (l2 + ((1 : Int64) <<< (l4.toInt64 &&& 63)))), (0, .long l0), (2, .long l2)]) hx hb dX3_squareRoot_32 hl (k := 3) rfl rfl (by decide) rfl (fun ls hl => ?_)
          refine lv_goto (tgt := 6) hx hb dX3_squareRoot_35 (by decide) ?_
          exact ih l0 l2 (l4 + (-1)) _ h _ _ _ hP hD hS (lv_sub hl [2, 3, 0] rfl) kk0
        · have h := br_neg c2 h
          refine lv_lload hx hb dX3_squareRoot_29 (lv_at hl 0 rfl) ?_
          refine lv_lstore_n (lv' := [(2, .long (l2 + ((1 : Int64) <<< (l4.toInt64 &&& 63)))), (5, .long (l2 + ((1 : Int64) <<< (l4.toInt64 &&& 63)))), (0, .long l0), (4, .int l4)]) hx hb dX3_squareRoot_31 rfl hl (by decide) rfl (fun ls hl => ?_)
          refine lv_iinc (v := (l4 + (-1))) (lv' := [(4, .int (l4 + (-1))), (2, .long (l2 + ((1 : Int64) <<< (l4.toInt64 &&& 63)))), (5, .long (l2 + ((1 : Int64) <<< (l4.toInt64 &&& 63)))), (0, .long l0)]) hx hb dX3_squareRoot_32 hl (k := 3) rfl rfl (by decide) rfl (fun ls hl => ?_)
          refine lv_goto (tgt := 6) hx hb dX3_squareRoot_35 (by decide) ?_
          exact ih l0 (l2 + ((1 : Int64) <<< (l4.toInt64 &&& 63))) (l4 + (-1)) _ h _ _ _ hP hD hS (lv_sub hl [3, 1, 0] rfl) kk0
  unfold f_X3_squareRoot at h
  refine lv_lconst (v := 0) hx hb dX3_squareRoot_0 (by decide) ?_
  refine lv_lstore_n (lv' := [(2, .long 0), (0, .long l0)]) hx hb dX3_squareRoot_1 rfl hl (by decide) rfl (fun ls hl => ?_)
  refine lv_bipush (v := 20) hx hb dX3_squareRoot_2 (by decide) ?_
  refine lv_istore (lv' := [(4, .int 20), (2, .long 0), (0, .long l0)]) hx hb dX3_squareRoot_4 hl (by decide) rfl (fun ls hl => ?_)
  obtain ⟨x2_L6_2, e_L6_2, h⟩ := bnd1_ok h
  refine L6 _ _ l0 0 20 x2_L6_2 e_L6_2 _ _ _ hP hD hS (lv_sub hl [2, 1, 0] rfl) ?_
  intro H locs ls hP hD hS hl
  refine lv_lload_n hx hb dX3_squareRoot_38 rfl (lv_at hl 0 rfl) ?_
  cases h
  exact rt_l S hr hlk hP hD hS dX3_squareRoot_39
noncomputable def f_X3_wholeBelow (t_a : Int32) (t_square : Int64) (nu : Nat → Int64) (nv : Nat → Int64) (nd : Nat → Int64) (l1 : Nat) : Option (Int64) :=
  bnd1 (f_X3_squareRoot ((t_square * (nv l1)) * (nv l1))) fun r_c14_0 => (
   if (nv l1) < 0 then (
    if (2 * (nd l1)) ≤ 0 then (
     some 0
    ) else (
     bnd1 (f_J9_floorDiv_f86c9 (((2 * (nu l1)) + (t_a.toInt64 * (nv l1))) + ((-r_c14_0) - 1)) (2 * (nd l1))) fun r_c78_3 => (
      some r_c78_3
     )
    )
   ) else (
    if (2 * (nd l1)) ≤ 0 then (
     some 0
    ) else (
     bnd1 (f_J9_floorDiv_f86c9 (((2 * (nu l1)) + (t_a.toInt64 * (nv l1))) + r_c14_0) (2 * (nd l1))) fun r_c78_5 => (
      some r_c78_5
     )
    )
   )
  )
set_option maxHeartbeats 4000000 in
set_option maxRecDepth 100000 in
theorem c_X3_wholeBelow (l : Launch) (D : va_G) (R : va_W) (NL : List Nat) (nt : Nat → Int32) (nu : Nat → Int64) (nv : Nat → Int64) (nd : Nat → Int64) (h_t : Nat) (t_a : Int32) (z_t_1 : Value) (t_square : Int64) (z_t_3 : Value) (z_t_4 : Value) (z_t_5 : Value) (z_t_6 : Value) (z_t_7 : Value) (l1 : Nat) (r : Int64) (hm_1 : l1 ∈ NL) (h : f_X3_wholeBelow t_a t_square nu nv nd l1 = some r) (sz : Nat) : Met l yX3_wholeBelow (WD yX3_wholeBelow cX3_wholeBelow 8 (some .long)) ({ frames := 1, cells := 0, slots := 0, locals := 26 }) (va_Pc [.ref h_t, .ref l1] (PcW D [] ((h_t, .inr (3, [.int t_a, z_t_1, .long t_square, z_t_3, z_t_4, z_t_5, z_t_6, z_t_7])) :: (R ++ va_pl NL (nmE nt nu nv nd))) sz)) (QL D r ((h_t, .inr (3, [.int t_a, z_t_1, .long t_square, z_t_3, z_t_4, z_t_5, z_t_6, z_t_7])) :: (R ++ va_pl NL (nmE nt nu nv nd))) (va_A ((h_t, .inr (3, [.int t_a, z_t_1, .long t_square, z_t_3, z_t_4, z_t_5, z_t_6, z_t_7])) :: (R ++ va_pl NL (nmE nt nu nv nd))) sz)) 0 0 (va_A ((h_t, .inr (3, [.int t_a, z_t_1, .long t_square, z_t_3, z_t_4, z_t_5, z_t_6, z_t_7])) :: (R ++ va_pl NL (nmE nt nu nv nd))) sz) := by
  refine ct_start (QF := fun A => QL D r ((h_t, .inr (3, [.int t_a, z_t_1, .long t_square, z_t_3, z_t_4, z_t_5, z_t_6, z_t_7])) :: (R ++ va_pl NL (nmE nt nu nv nd))) A) ?_ ?_ ?_
  · decide +kernel
  · exact Nat.le_of_ble_eq_true rfl
  intro p e s m args below meth c A ls S hr hlk hnm hS hA hP hD hK hN hl
  have S : CallFix p m c cX3_wholeBelow 8 s args AL "DigitBench$Root" := S
  have hx := S.1
  have hb := S.2.1
  have hown := S.2.2.2.1
  have ha := S.2.2.2.2
  have hl : lv_has ls 8 [(0, .ref h_t), (1, .ref l1)] := hl
  unfold f_X3_wholeBelow at h
  refine lv_aload_n hx hb dX3_wholeBelow_0 rfl (lv_at hl 0 rfl) ?_
  refine va_get (D := D) (ci := 3) (v := .long t_square) (C := RX3) (T := TX3) (N := 8) hx hb ha ix3 hown hK hP 0 rfl rfl 2 (by decide) (ha _ q121) (fun _ h9 => h9) rfl dX3_wholeBelow_1 ?_
  refine lv_aload_n hx hb dX3_wholeBelow_4 rfl (lv_at hl 1 rfl) ?_
  refine xg_num (v := .long (nv l1)) S hK (Y := ((h_t, .inr (3, [.int t_a, z_t_1, .long t_square, z_t_3, z_t_4, z_t_5, z_t_6, z_t_7])) :: R)) hP hm_1 2 (by decide) (ha _ q168) rfl dX3_wholeBelow_5 ?_
  refine lv_lmul hx hb dX3_wholeBelow_8 ?_
  refine lv_aload_n hx hb dX3_wholeBelow_9 rfl (lv_at hl 1 rfl) ?_
  refine xg_num (v := .long (nv l1)) S hK (Y := ((h_t, .inr (3, [.int t_a, z_t_1, .long t_square, z_t_3, z_t_4, z_t_5, z_t_6, z_t_7])) :: R)) hP hm_1 2 (by decide) (ha _ q168) rfl dX3_wholeBelow_10 ?_
  refine lv_lmul hx hb dX3_wholeBelow_13 ?_
  obtain ⟨r_c14_0, e_c14_0, h⟩ := bnd1_ok h
  refine cl_l (rn_s (As := [.long ((t_square * (nv l1)) * (nv l1))]) (rest := []) S (c_X3_squareRoot l D ((h_t, .inr (3, [.int t_a, z_t_1, .long t_square, z_t_3, z_t_4, z_t_5, z_t_6, z_t_7])) :: (R ++ va_pl NL (nmE nt nu nv nd))) ((t_square * (nv l1)) * (nv l1)) r_c14_0 e_c14_0 _) q923 q924 q50 q925 nd_X3_squareRoot ⟨Nat.le_of_ble_eq_true rfl, Nat.le_of_ble_eq_true rfl⟩ rfl rfl hP hD (hK.sub (tys' := []) [] rfl) hN rfl hl.1 rfl (Nat.le_of_ble_eq_true rfl) dX3_wholeBelow_14 ⟨Nat.le_of_ble_eq_true rfl, Nat.le_of_ble_eq_true rfl⟩) hS hA hD (fun H locs hP hD hS => ?_)
  have hP : va_P D vwCl ((h_t, .inr (3, [.int t_a, z_t_1, .long t_square, z_t_3, z_t_4, z_t_5, z_t_6, z_t_7])) :: (R ++ va_pl NL (nmE nt nu nv nd))) H := hP
  have hD : va_D A ((h_t, .inr (3, [.int t_a, z_t_1, .long t_square, z_t_3, z_t_4, z_t_5, z_t_6, z_t_7])) :: (R ++ va_pl NL (nmE nt nu nv nd))) := hD
  refine lv_lstore_n (lv' := [(2, .long r_c14_0), (0, .ref h_t), (1, .ref l1)]) hx hb dX3_wholeBelow_17 rfl hl (by decide) rfl (fun ls hl => ?_)
  refine lv_aload_n hx hb dX3_wholeBelow_18 rfl (lv_at hl 2 rfl) ?_
  refine xg_num (v := .long (nv l1)) S hK (Y := ((h_t, .inr (3, [.int t_a, z_t_1, .long t_square, z_t_3, z_t_4, z_t_5, z_t_6, z_t_7])) :: R)) hP hm_1 2 (by decide) (ha _ q168) rfl dX3_wholeBelow_19 ?_
  refine lv_lconst (v := 0) hx hb dX3_wholeBelow_22 (by decide) ?_
  refine xl_lt (tgt := 31) hx hb dX3_wholeBelow_23 dX3_wholeBelow_24 (by decide) (fun c2 => ?_) (fun c2 => ?_)
  · have h := br_pos c2 h
    refine lv_lload_n hx hb dX3_wholeBelow_31 rfl (lv_at hl 0 rfl) ?_
    refine lv_lneg hx hb dX3_wholeBelow_32 ?_
    refine lv_lconst (v := 1) hx hb dX3_wholeBelow_33 (by decide) ?_
    refine lv_lsub hx hb dX3_wholeBelow_34 ?_
    refine lv_lstore (lv' := [(4, .long ((-r_c14_0) - 1)), (2, .long r_c14_0), (0, .ref h_t), (1, .ref l1)]) hx hb dX3_wholeBelow_35 hl (by decide) rfl (fun ls hl => ?_)
    refine lv_ldc2 (v := 2) hx hb hown (ha _ q552) dX3_wholeBelow_37 ?_
    refine lv_aload_n hx hb dX3_wholeBelow_40 rfl (lv_at hl 3 rfl) ?_
    refine xg_num (v := .long (nd l1)) S hK (Y := ((h_t, .inr (3, [.int t_a, z_t_1, .long t_square, z_t_3, z_t_4, z_t_5, z_t_6, z_t_7])) :: R)) hP hm_1 3 (by decide) (ha _ q174) rfl dX3_wholeBelow_41 ?_
    refine lv_lmul hx hb dX3_wholeBelow_44 ?_
    refine lv_lstore (lv' := [(6, .long (2 * (nd l1))), (4, .long ((-r_c14_0) - 1)), (2, .long r_c14_0), (0, .ref h_t), (1, .ref l1)]) hx hb dX3_wholeBelow_45 hl (by decide) rfl (fun ls hl => ?_)
    refine lv_lload hx hb dX3_wholeBelow_47 (lv_at hl 0 rfl) ?_
    refine lv_lconst (v := 0) hx hb dX3_wholeBelow_49 (by decide) ?_
    refine xl_le (tgt := 84) hx hb dX3_wholeBelow_50 dX3_wholeBelow_51 (by decide) (fun c3 => ?_) (fun c3 => ?_)
    · have h := br_pos c3 h
      refine lv_lconst (v := 0) hx hb dX3_wholeBelow_84 (by decide) ?_
      cases h
      exact rt_l S hr hlk hP hD hS dX3_wholeBelow_85
    · have h := br_neg c3 h
      refine lv_ldc2 (v := 2) hx hb hown (ha _ q552) dX3_wholeBelow_54 ?_
      refine lv_aload_n hx hb dX3_wholeBelow_57 rfl (lv_at hl 4 rfl) ?_
      refine xg_num (v := .long (nu l1)) S hK (Y := ((h_t, .inr (3, [.int t_a, z_t_1, .long t_square, z_t_3, z_t_4, z_t_5, z_t_6, z_t_7])) :: R)) hP hm_1 1 (by decide) (ha _ q162) rfl dX3_wholeBelow_58 ?_
      refine lv_lmul hx hb dX3_wholeBelow_61 ?_
      refine lv_aload_n hx hb dX3_wholeBelow_62 rfl (lv_at hl 3 rfl) ?_
      refine va_get (D := D) (ci := 3) (v := .int t_a) (C := RX3) (T := TX3) (N := 8) hx hb ha ix3 hown hK hP 0 rfl rfl 0 (by decide) (ha _ q115) (fun _ h9 => h9) rfl dX3_wholeBelow_63 ?_
      refine lv_i2l (v := t_a.toInt64) hx hb dX3_wholeBelow_66 rfl ?_
      refine lv_aload_n hx hb dX3_wholeBelow_67 rfl (lv_at hl 4 rfl) ?_
      refine xg_num (v := .long (nv l1)) S hK (Y := ((h_t, .inr (3, [.int t_a, z_t_1, .long t_square, z_t_3, z_t_4, z_t_5, z_t_6, z_t_7])) :: R)) hP hm_1 2 (by decide) (ha _ q168) rfl dX3_wholeBelow_68 ?_
      refine lv_lmul hx hb dX3_wholeBelow_71 ?_
      refine lv_ladd hx hb dX3_wholeBelow_72 ?_
      refine lv_lload hx hb dX3_wholeBelow_73 (lv_at hl 1 rfl) ?_
      refine lv_ladd hx hb dX3_wholeBelow_75 ?_
      refine lv_lload hx hb dX3_wholeBelow_76 (lv_at hl 0 rfl) ?_
      obtain ⟨r_c78_3, e_c78_3, h⟩ := bnd1_ok h
      refine cl_l (rn_s (As := [.long (((2 * (nu l1)) + (t_a.toInt64 * (nv l1))) + ((-r_c14_0) - 1)), .long (2 * (nd l1))]) (rest := []) S (c_J9_floorDiv_f86c9 l D ((h_t, .inr (3, [.int t_a, z_t_1, .long t_square, z_t_3, z_t_4, z_t_5, z_t_6, z_t_7])) :: (R ++ va_pl NL (nmE nt nu nv nd))) (((2 * (nu l1)) + (t_a.toInt64 * (nv l1))) + ((-r_c14_0) - 1)) (2 * (nd l1)) r_c78_3 e_c78_3 _) q926 q927 q58 q928 nd_J9_floorDiv_f86c9 ⟨Nat.le_of_ble_eq_true rfl, Nat.le_of_ble_eq_true rfl⟩ rfl rfl hP hD (hK.sub (tys' := []) [] rfl) hN rfl hl.1 rfl (Nat.le_of_ble_eq_true rfl) dX3_wholeBelow_78 ⟨Nat.le_of_ble_eq_true rfl, Nat.le_of_ble_eq_true rfl⟩) hS hA hD (fun H locs hP hD hS => ?_)
      have hP : va_P D vwCl ((h_t, .inr (3, [.int t_a, z_t_1, .long t_square, z_t_3, z_t_4, z_t_5, z_t_6, z_t_7])) :: (R ++ va_pl NL (nmE nt nu nv nd))) H := hP
      have hD : va_D A ((h_t, .inr (3, [.int t_a, z_t_1, .long t_square, z_t_3, z_t_4, z_t_5, z_t_6, z_t_7])) :: (R ++ va_pl NL (nmE nt nu nv nd))) := hD
      refine lv_goto (tgt := 85) hx hb dX3_wholeBelow_81 (by decide) ?_
      cases h
      exact rt_l S hr hlk hP hD hS dX3_wholeBelow_85
  · have h := br_neg c2 h
    refine lv_lload_n hx hb dX3_wholeBelow_27 rfl (lv_at hl 0 rfl) ?_
    refine lv_goto (tgt := 35) hx hb dX3_wholeBelow_28 (by decide) ?_
    refine lv_lstore (lv' := [(4, .long r_c14_0), (2, .long r_c14_0), (0, .ref h_t), (1, .ref l1)]) hx hb dX3_wholeBelow_35 hl (by decide) rfl (fun ls hl => ?_)
    refine lv_ldc2 (v := 2) hx hb hown (ha _ q552) dX3_wholeBelow_37 ?_
    refine lv_aload_n hx hb dX3_wholeBelow_40 rfl (lv_at hl 3 rfl) ?_
    refine xg_num (v := .long (nd l1)) S hK (Y := ((h_t, .inr (3, [.int t_a, z_t_1, .long t_square, z_t_3, z_t_4, z_t_5, z_t_6, z_t_7])) :: R)) hP hm_1 3 (by decide) (ha _ q174) rfl dX3_wholeBelow_41 ?_
    refine lv_lmul hx hb dX3_wholeBelow_44 ?_
    refine lv_lstore (lv' := [(6, .long (2 * (nd l1))), (4, .long r_c14_0), (2, .long r_c14_0), (0, .ref h_t), (1, .ref l1)]) hx hb dX3_wholeBelow_45 hl (by decide) rfl (fun ls hl => ?_)
    refine lv_lload hx hb dX3_wholeBelow_47 (lv_at hl 0 rfl) ?_
    refine lv_lconst (v := 0) hx hb dX3_wholeBelow_49 (by decide) ?_
    refine xl_le (tgt := 84) hx hb dX3_wholeBelow_50 dX3_wholeBelow_51 (by decide) (fun c5 => ?_) (fun c5 => ?_)
    · have h := br_pos c5 h
      refine lv_lconst (v := 0) hx hb dX3_wholeBelow_84 (by decide) ?_
      cases h
      exact rt_l S hr hlk hP hD hS dX3_wholeBelow_85
    · have h := br_neg c5 h
      refine lv_ldc2 (v := 2) hx hb hown (ha _ q552) dX3_wholeBelow_54 ?_
      refine lv_aload_n hx hb dX3_wholeBelow_57 rfl (lv_at hl 4 rfl) ?_
      refine xg_num (v := .long (nu l1)) S hK (Y := ((h_t, .inr (3, [.int t_a, z_t_1, .long t_square, z_t_3, z_t_4, z_t_5, z_t_6, z_t_7])) :: R)) hP hm_1 1 (by decide) (ha _ q162) rfl dX3_wholeBelow_58 ?_
      refine lv_lmul hx hb dX3_wholeBelow_61 ?_
      refine lv_aload_n hx hb dX3_wholeBelow_62 rfl (lv_at hl 3 rfl) ?_
      refine va_get (D := D) (ci := 3) (v := .int t_a) (C := RX3) (T := TX3) (N := 8) hx hb ha ix3 hown hK hP 0 rfl rfl 0 (by decide) (ha _ q115) (fun _ h9 => h9) rfl dX3_wholeBelow_63 ?_
      refine lv_i2l (v := t_a.toInt64) hx hb dX3_wholeBelow_66 rfl ?_
      refine lv_aload_n hx hb dX3_wholeBelow_67 rfl (lv_at hl 4 rfl) ?_
      refine xg_num (v := .long (nv l1)) S hK (Y := ((h_t, .inr (3, [.int t_a, z_t_1, .long t_square, z_t_3, z_t_4, z_t_5, z_t_6, z_t_7])) :: R)) hP hm_1 2 (by decide) (ha _ q168) rfl dX3_wholeBelow_68 ?_
      refine lv_lmul hx hb dX3_wholeBelow_71 ?_
      refine lv_ladd hx hb dX3_wholeBelow_72 ?_
      refine lv_lload hx hb dX3_wholeBelow_73 (lv_at hl 1 rfl) ?_
      refine lv_ladd hx hb dX3_wholeBelow_75 ?_
      refine lv_lload hx hb dX3_wholeBelow_76 (lv_at hl 0 rfl) ?_
      obtain ⟨r_c78_5, e_c78_5, h⟩ := bnd1_ok h
      refine cl_l (rn_s (As := [.long (((2 * (nu l1)) + (t_a.toInt64 * (nv l1))) + r_c14_0), .long (2 * (nd l1))]) (rest := []) S (c_J9_floorDiv_f86c9 l D ((h_t, .inr (3, [.int t_a, z_t_1, .long t_square, z_t_3, z_t_4, z_t_5, z_t_6, z_t_7])) :: (R ++ va_pl NL (nmE nt nu nv nd))) (((2 * (nu l1)) + (t_a.toInt64 * (nv l1))) + r_c14_0) (2 * (nd l1)) r_c78_5 e_c78_5 _) q926 q927 q58 q928 nd_J9_floorDiv_f86c9 ⟨Nat.le_of_ble_eq_true rfl, Nat.le_of_ble_eq_true rfl⟩ rfl rfl hP hD (hK.sub (tys' := []) [] rfl) hN rfl hl.1 rfl (Nat.le_of_ble_eq_true rfl) dX3_wholeBelow_78 ⟨Nat.le_of_ble_eq_true rfl, Nat.le_of_ble_eq_true rfl⟩) hS hA hD (fun H locs hP hD hS => ?_)
      have hP : va_P D vwCl ((h_t, .inr (3, [.int t_a, z_t_1, .long t_square, z_t_3, z_t_4, z_t_5, z_t_6, z_t_7])) :: (R ++ va_pl NL (nmE nt nu nv nd))) H := hP
      have hD : va_D A ((h_t, .inr (3, [.int t_a, z_t_1, .long t_square, z_t_3, z_t_4, z_t_5, z_t_6, z_t_7])) :: (R ++ va_pl NL (nmE nt nu nv nd))) := hD
      refine lv_goto (tgt := 85) hx hb dX3_wholeBelow_81 (by decide) ?_
      cases h
      exact rt_l S hr hlk hP hD hS dX3_wholeBelow_85
noncomputable def f_X3_join (nt : Nat → Int32) (nu : Nat → Int64) (nv : Nat → Int64) (nd : Nat → Int64) (l1 : Nat) (l2 : Nat) (l3 : Nat) (l4 : Int32) : Option (Int32 × (Nat → Int32) × (Nat → Int64) × (Nat → Int64) × (Nat → Int64)) :=
  bnd5 (f_X0_take nt nu nv nd l1 (((nu l2) * (nd l3)) + ((l4.toInt64 * (nu l3)) * (nd l2))) (((nv l2) * (nd l3)) + ((l4.toInt64 * (nv l3)) * (nd l2))) ((nd l2) * (nd l3))) fun r_c56_0 nt_c56_0 nu_c56_0 nv_c56_0 nd_c56_0 => (
   some (r_c56_0, nt_c56_0, nu_c56_0, nv_c56_0, nd_c56_0)
  )
set_option maxHeartbeats 4000000 in
set_option maxRecDepth 100000 in
theorem c_X3_join (l : Launch) (D : va_G) (R : va_W) (NL : List Nat) (nt : Nat → Int32) (nu : Nat → Int64) (nv : Nat → Int64) (nd : Nat → Int64) (h_t : Nat) (z_t_0 : Value) (z_t_1 : Value) (z_t_2 : Value) (z_t_3 : Value) (z_t_4 : Value) (z_t_5 : Value) (z_t_6 : Value) (z_t_7 : Value) (l1 : Nat) (l2 : Nat) (l3 : Nat) (l4 : Int32) (r : Int32) (o_nt : Nat → Int32) (o_nu : Nat → Int64) (o_nv : Nat → Int64) (o_nd : Nat → Int64) (hm_1 : l1 ∈ NL) (hm_2 : l2 ∈ NL) (hm_3 : l3 ∈ NL) (h : f_X3_join nt nu nv nd l1 l2 l3 l4 = some (r, o_nt, o_nu, o_nv, o_nd)) (sz : Nat) : Met l yX3_join (WD yX3_join cX3_join 5 (some .boolean)) ({ frames := 3, cells := 0, slots := 0, locals := 85 }) (va_Pc [.ref h_t, .ref l1, .ref l2, .ref l3, .int l4] (PcW D [] ((h_t, .inr (3, [z_t_0, z_t_1, z_t_2, z_t_3, z_t_4, z_t_5, z_t_6, z_t_7])) :: (R ++ va_pl NL (nmE nt nu nv nd))) sz)) (QZ D r ((h_t, .inr (3, [z_t_0, z_t_1, z_t_2, z_t_3, z_t_4, z_t_5, z_t_6, z_t_7])) :: (R ++ va_pl NL (nmE o_nt o_nu o_nv o_nd))) (va_A ((h_t, .inr (3, [z_t_0, z_t_1, z_t_2, z_t_3, z_t_4, z_t_5, z_t_6, z_t_7])) :: (R ++ va_pl NL (nmE nt nu nv nd))) sz)) 0 0 (va_A ((h_t, .inr (3, [z_t_0, z_t_1, z_t_2, z_t_3, z_t_4, z_t_5, z_t_6, z_t_7])) :: (R ++ va_pl NL (nmE nt nu nv nd))) sz) := by
  refine ct_start (QF := fun A => QZ D r ((h_t, .inr (3, [z_t_0, z_t_1, z_t_2, z_t_3, z_t_4, z_t_5, z_t_6, z_t_7])) :: (R ++ va_pl NL (nmE o_nt o_nu o_nv o_nd))) A) ?_ ?_ ?_
  · decide +kernel
  · exact Nat.le_of_ble_eq_true rfl
  intro p e s m args below meth c A ls S hr hlk hnm hS hA hP hD hK hN hl
  have S : CallFix p m c cX3_join 5 s args AL "DigitBench$Root" := S
  have hx := S.1
  have hb := S.2.1
  have hown := S.2.2.2.1
  have ha := S.2.2.2.2
  have hl : lv_has ls 5 [(0, .ref h_t), (1, .ref l1), (2, .ref l2), (3, .ref l3), (4, .int l4)] := hl
  unfold f_X3_join at h
  refine lv_aload_n hx hb dX3_join_0 rfl (lv_at hl 1 rfl) ?_
  refine lv_aload_n hx hb dX3_join_1 rfl (lv_at hl 2 rfl) ?_
  refine xg_num (v := .long (nu l2)) S hK (Y := ((h_t, .inr (3, [z_t_0, z_t_1, z_t_2, z_t_3, z_t_4, z_t_5, z_t_6, z_t_7])) :: R)) hP hm_2 1 (by decide) (ha _ q162) rfl dX3_join_2 ?_
  refine lv_aload_n hx hb dX3_join_5 rfl (lv_at hl 3 rfl) ?_
  refine xg_num (v := .long (nd l3)) S hK (Y := ((h_t, .inr (3, [z_t_0, z_t_1, z_t_2, z_t_3, z_t_4, z_t_5, z_t_6, z_t_7])) :: R)) hP hm_3 3 (by decide) (ha _ q174) rfl dX3_join_6 ?_
  refine lv_lmul hx hb dX3_join_9 ?_
  refine lv_iload hx hb dX3_join_10 (lv_at hl 4 rfl) ?_
  refine lv_i2l (v := l4.toInt64) hx hb dX3_join_12 rfl ?_
  refine lv_aload_n hx hb dX3_join_13 rfl (lv_at hl 3 rfl) ?_
  refine xg_num (v := .long (nu l3)) S hK (Y := ((h_t, .inr (3, [z_t_0, z_t_1, z_t_2, z_t_3, z_t_4, z_t_5, z_t_6, z_t_7])) :: R)) hP hm_3 1 (by decide) (ha _ q162) rfl dX3_join_14 ?_
  refine lv_lmul hx hb dX3_join_17 ?_
  refine lv_aload_n hx hb dX3_join_18 rfl (lv_at hl 2 rfl) ?_
  refine xg_num (v := .long (nd l2)) S hK (Y := ((h_t, .inr (3, [z_t_0, z_t_1, z_t_2, z_t_3, z_t_4, z_t_5, z_t_6, z_t_7])) :: R)) hP hm_2 3 (by decide) (ha _ q174) rfl dX3_join_19 ?_
  refine lv_lmul hx hb dX3_join_22 ?_
  refine lv_ladd hx hb dX3_join_23 ?_
  refine lv_aload_n hx hb dX3_join_24 rfl (lv_at hl 2 rfl) ?_
  refine xg_num (v := .long (nv l2)) S hK (Y := ((h_t, .inr (3, [z_t_0, z_t_1, z_t_2, z_t_3, z_t_4, z_t_5, z_t_6, z_t_7])) :: R)) hP hm_2 2 (by decide) (ha _ q168) rfl dX3_join_25 ?_
  refine lv_aload_n hx hb dX3_join_28 rfl (lv_at hl 3 rfl) ?_
  refine xg_num (v := .long (nd l3)) S hK (Y := ((h_t, .inr (3, [z_t_0, z_t_1, z_t_2, z_t_3, z_t_4, z_t_5, z_t_6, z_t_7])) :: R)) hP hm_3 3 (by decide) (ha _ q174) rfl dX3_join_29 ?_
  refine lv_lmul hx hb dX3_join_32 ?_
  refine lv_iload hx hb dX3_join_33 (lv_at hl 4 rfl) ?_
  refine lv_i2l (v := l4.toInt64) hx hb dX3_join_35 rfl ?_
  refine lv_aload_n hx hb dX3_join_36 rfl (lv_at hl 3 rfl) ?_
  refine xg_num (v := .long (nv l3)) S hK (Y := ((h_t, .inr (3, [z_t_0, z_t_1, z_t_2, z_t_3, z_t_4, z_t_5, z_t_6, z_t_7])) :: R)) hP hm_3 2 (by decide) (ha _ q168) rfl dX3_join_37 ?_
  refine lv_lmul hx hb dX3_join_40 ?_
  refine lv_aload_n hx hb dX3_join_41 rfl (lv_at hl 2 rfl) ?_
  refine xg_num (v := .long (nd l2)) S hK (Y := ((h_t, .inr (3, [z_t_0, z_t_1, z_t_2, z_t_3, z_t_4, z_t_5, z_t_6, z_t_7])) :: R)) hP hm_2 3 (by decide) (ha _ q174) rfl dX3_join_42 ?_
  refine lv_lmul hx hb dX3_join_45 ?_
  refine lv_ladd hx hb dX3_join_46 ?_
  refine lv_aload_n hx hb dX3_join_47 rfl (lv_at hl 2 rfl) ?_
  refine xg_num (v := .long (nd l2)) S hK (Y := ((h_t, .inr (3, [z_t_0, z_t_1, z_t_2, z_t_3, z_t_4, z_t_5, z_t_6, z_t_7])) :: R)) hP hm_2 3 (by decide) (ha _ q174) rfl dX3_join_48 ?_
  refine lv_aload_n hx hb dX3_join_51 rfl (lv_at hl 3 rfl) ?_
  refine xg_num (v := .long (nd l3)) S hK (Y := ((h_t, .inr (3, [z_t_0, z_t_1, z_t_2, z_t_3, z_t_4, z_t_5, z_t_6, z_t_7])) :: R)) hP hm_3 3 (by decide) (ha _ q174) rfl dX3_join_52 ?_
  refine lv_lmul hx hb dX3_join_55 ?_
  obtain ⟨r_c56_0, nt_c56_0, nu_c56_0, nv_c56_0, nd_c56_0, e_c56_0, h⟩ := bnd5_ok h
  refine cl_z (rn_v (ci := 0) (As := [.long (((nu l2) * (nd l3)) + ((l4.toInt64 * (nu l3)) * (nd l2))), .long (((nv l2) * (nd l3)) + ((l4.toInt64 * (nv l3)) * (nd l2))), .long ((nd l2) * (nd l3))]) (rest := []) S (c_X0_take l D ((h_t, .inr (3, [z_t_0, z_t_1, z_t_2, z_t_3, z_t_4, z_t_5, z_t_6, z_t_7])) :: R) NL nt nu nv nd l1 (((nu l2) * (nd l3)) + ((l4.toInt64 * (nu l3)) * (nd l2))) (((nv l2) * (nd l3)) + ((l4.toInt64 * (nv l3)) * (nd l2))) ((nd l2) * (nd l3)) r_c56_0 nt_c56_0 nu_c56_0 nv_c56_0 nd_c56_0 hm_1 e_c56_0 _) q534 q512 q513 q51 q514 nd_X0_take ⟨Nat.le_of_ble_eq_true rfl, Nat.le_of_ble_eq_true rfl⟩ rfl rfl hP hD (hK.sub (tys' := []) [] rfl) hN rfl (rc_num (Y := ((h_t, .inr (3, [z_t_0, z_t_1, z_t_2, z_t_3, z_t_4, z_t_5, z_t_6, z_t_7])) :: R)) hm_1) rfl hl.1 rfl (Nat.le_of_ble_eq_true rfl) dX3_join_56 ⟨Nat.le_of_ble_eq_true rfl, Nat.le_of_ble_eq_true rfl⟩) hS hA hD (fun H locs hP hD hS z_c56_0 => ?_)
  have hP : va_P D vwCl ((h_t, .inr (3, [z_t_0, z_t_1, z_t_2, z_t_3, z_t_4, z_t_5, z_t_6, z_t_7])) :: (R ++ va_pl NL (nmE nt_c56_0 nu_c56_0 nv_c56_0 nd_c56_0))) H := hP
  have hD : va_D A ((h_t, .inr (3, [z_t_0, z_t_1, z_t_2, z_t_3, z_t_4, z_t_5, z_t_6, z_t_7])) :: (R ++ va_pl NL (nmE nt_c56_0 nu_c56_0 nv_c56_0 nd_c56_0))) := hD
  cases h
  exact rt_z S hr hlk hP hD hS z_c56_0 dX3_join_59
noncomputable def f_X3_multiply (t_a : Int32) (t_b : Int32) (nt : Nat → Int32) (nu : Nat → Int64) (nv : Nat → Int64) (nd : Nat → Int64) (l1 : Nat) (l2 : Nat) (l3 : Nat) : Option (Int32 × (Nat → Int32) × (Nat → Int64) × (Nat → Int64) × (Nat → Int64)) :=
  bnd5 (f_X0_take nt nu nv nd l1 (((nu l2) * (nu l3)) + ((t_b.toInt64 * (nv l2)) * (nv l3))) ((((nu l2) * (nv l3)) + ((nv l2) * (nu l3))) + ((t_a.toInt64 * (nv l2)) * (nv l3))) ((nd l2) * (nd l3))) fun r_c70_0 nt_c70_0 nu_c70_0 nv_c70_0 nd_c70_0 => (
   some (r_c70_0, nt_c70_0, nu_c70_0, nv_c70_0, nd_c70_0)
  )
set_option maxHeartbeats 4000000 in
set_option maxRecDepth 100000 in
theorem c_X3_multiply (l : Launch) (D : va_G) (R : va_W) (NL : List Nat) (nt : Nat → Int32) (nu : Nat → Int64) (nv : Nat → Int64) (nd : Nat → Int64) (h_t : Nat) (t_a : Int32) (t_b : Int32) (z_t_2 : Value) (z_t_3 : Value) (z_t_4 : Value) (z_t_5 : Value) (z_t_6 : Value) (z_t_7 : Value) (l1 : Nat) (l2 : Nat) (l3 : Nat) (r : Int32) (o_nt : Nat → Int32) (o_nu : Nat → Int64) (o_nv : Nat → Int64) (o_nd : Nat → Int64) (hm_1 : l1 ∈ NL) (hm_2 : l2 ∈ NL) (hm_3 : l3 ∈ NL) (h : f_X3_multiply t_a t_b nt nu nv nd l1 l2 l3 = some (r, o_nt, o_nu, o_nv, o_nd)) (sz : Nat) : Met l yX3_multiply (WD yX3_multiply cX3_multiply 4 (some .boolean)) ({ frames := 3, cells := 0, slots := 0, locals := 85 }) (va_Pc [.ref h_t, .ref l1, .ref l2, .ref l3] (PcW D [] ((h_t, .inr (3, [.int t_a, .int t_b, z_t_2, z_t_3, z_t_4, z_t_5, z_t_6, z_t_7])) :: (R ++ va_pl NL (nmE nt nu nv nd))) sz)) (QZ D r ((h_t, .inr (3, [.int t_a, .int t_b, z_t_2, z_t_3, z_t_4, z_t_5, z_t_6, z_t_7])) :: (R ++ va_pl NL (nmE o_nt o_nu o_nv o_nd))) (va_A ((h_t, .inr (3, [.int t_a, .int t_b, z_t_2, z_t_3, z_t_4, z_t_5, z_t_6, z_t_7])) :: (R ++ va_pl NL (nmE nt nu nv nd))) sz)) 0 0 (va_A ((h_t, .inr (3, [.int t_a, .int t_b, z_t_2, z_t_3, z_t_4, z_t_5, z_t_6, z_t_7])) :: (R ++ va_pl NL (nmE nt nu nv nd))) sz) := by
  refine ct_start (QF := fun A => QZ D r ((h_t, .inr (3, [.int t_a, .int t_b, z_t_2, z_t_3, z_t_4, z_t_5, z_t_6, z_t_7])) :: (R ++ va_pl NL (nmE o_nt o_nu o_nv o_nd))) A) ?_ ?_ ?_
  · decide +kernel
  · exact Nat.le_of_ble_eq_true rfl
  intro p e s m args below meth c A ls S hr hlk hnm hS hA hP hD hK hN hl
  have S : CallFix p m c cX3_multiply 4 s args AL "DigitBench$Root" := S
  have hx := S.1
  have hb := S.2.1
  have hown := S.2.2.2.1
  have ha := S.2.2.2.2
  have hl : lv_has ls 4 [(0, .ref h_t), (1, .ref l1), (2, .ref l2), (3, .ref l3)] := hl
  unfold f_X3_multiply at h
  refine lv_aload_n hx hb dX3_multiply_0 rfl (lv_at hl 1 rfl) ?_
  refine lv_aload_n hx hb dX3_multiply_1 rfl (lv_at hl 2 rfl) ?_
  refine xg_num (v := .long (nu l2)) S hK (Y := ((h_t, .inr (3, [.int t_a, .int t_b, z_t_2, z_t_3, z_t_4, z_t_5, z_t_6, z_t_7])) :: R)) hP hm_2 1 (by decide) (ha _ q162) rfl dX3_multiply_2 ?_
  refine lv_aload_n hx hb dX3_multiply_5 rfl (lv_at hl 3 rfl) ?_
  refine xg_num (v := .long (nu l3)) S hK (Y := ((h_t, .inr (3, [.int t_a, .int t_b, z_t_2, z_t_3, z_t_4, z_t_5, z_t_6, z_t_7])) :: R)) hP hm_3 1 (by decide) (ha _ q162) rfl dX3_multiply_6 ?_
  refine lv_lmul hx hb dX3_multiply_9 ?_
  refine lv_aload_n hx hb dX3_multiply_10 rfl (lv_at hl 0 rfl) ?_
  refine va_get (D := D) (ci := 3) (v := .int t_b) (C := RX3) (T := TX3) (N := 8) hx hb ha ix3 hown hK hP 0 rfl rfl 1 (by decide) (ha _ q118) (fun _ h9 => h9) rfl dX3_multiply_11 ?_
  refine lv_i2l (v := t_b.toInt64) hx hb dX3_multiply_14 rfl ?_
  refine lv_aload_n hx hb dX3_multiply_15 rfl (lv_at hl 2 rfl) ?_
  refine xg_num (v := .long (nv l2)) S hK (Y := ((h_t, .inr (3, [.int t_a, .int t_b, z_t_2, z_t_3, z_t_4, z_t_5, z_t_6, z_t_7])) :: R)) hP hm_2 2 (by decide) (ha _ q168) rfl dX3_multiply_16 ?_
  refine lv_lmul hx hb dX3_multiply_19 ?_
  refine lv_aload_n hx hb dX3_multiply_20 rfl (lv_at hl 3 rfl) ?_
  refine xg_num (v := .long (nv l3)) S hK (Y := ((h_t, .inr (3, [.int t_a, .int t_b, z_t_2, z_t_3, z_t_4, z_t_5, z_t_6, z_t_7])) :: R)) hP hm_3 2 (by decide) (ha _ q168) rfl dX3_multiply_21 ?_
  refine lv_lmul hx hb dX3_multiply_24 ?_
  refine lv_ladd hx hb dX3_multiply_25 ?_
  refine lv_aload_n hx hb dX3_multiply_26 rfl (lv_at hl 2 rfl) ?_
  refine xg_num (v := .long (nu l2)) S hK (Y := ((h_t, .inr (3, [.int t_a, .int t_b, z_t_2, z_t_3, z_t_4, z_t_5, z_t_6, z_t_7])) :: R)) hP hm_2 1 (by decide) (ha _ q162) rfl dX3_multiply_27 ?_
  refine lv_aload_n hx hb dX3_multiply_30 rfl (lv_at hl 3 rfl) ?_
  refine xg_num (v := .long (nv l3)) S hK (Y := ((h_t, .inr (3, [.int t_a, .int t_b, z_t_2, z_t_3, z_t_4, z_t_5, z_t_6, z_t_7])) :: R)) hP hm_3 2 (by decide) (ha _ q168) rfl dX3_multiply_31 ?_
  refine lv_lmul hx hb dX3_multiply_34 ?_
  refine lv_aload_n hx hb dX3_multiply_35 rfl (lv_at hl 2 rfl) ?_
  refine xg_num (v := .long (nv l2)) S hK (Y := ((h_t, .inr (3, [.int t_a, .int t_b, z_t_2, z_t_3, z_t_4, z_t_5, z_t_6, z_t_7])) :: R)) hP hm_2 2 (by decide) (ha _ q168) rfl dX3_multiply_36 ?_
  refine lv_aload_n hx hb dX3_multiply_39 rfl (lv_at hl 3 rfl) ?_
  refine xg_num (v := .long (nu l3)) S hK (Y := ((h_t, .inr (3, [.int t_a, .int t_b, z_t_2, z_t_3, z_t_4, z_t_5, z_t_6, z_t_7])) :: R)) hP hm_3 1 (by decide) (ha _ q162) rfl dX3_multiply_40 ?_
  refine lv_lmul hx hb dX3_multiply_43 ?_
  refine lv_ladd hx hb dX3_multiply_44 ?_
  refine lv_aload_n hx hb dX3_multiply_45 rfl (lv_at hl 0 rfl) ?_
  refine va_get (D := D) (ci := 3) (v := .int t_a) (C := RX3) (T := TX3) (N := 8) hx hb ha ix3 hown hK hP 0 rfl rfl 0 (by decide) (ha _ q115) (fun _ h9 => h9) rfl dX3_multiply_46 ?_
  refine lv_i2l (v := t_a.toInt64) hx hb dX3_multiply_49 rfl ?_
  refine lv_aload_n hx hb dX3_multiply_50 rfl (lv_at hl 2 rfl) ?_
  refine xg_num (v := .long (nv l2)) S hK (Y := ((h_t, .inr (3, [.int t_a, .int t_b, z_t_2, z_t_3, z_t_4, z_t_5, z_t_6, z_t_7])) :: R)) hP hm_2 2 (by decide) (ha _ q168) rfl dX3_multiply_51 ?_
  refine lv_lmul hx hb dX3_multiply_54 ?_
  refine lv_aload_n hx hb dX3_multiply_55 rfl (lv_at hl 3 rfl) ?_
  refine xg_num (v := .long (nv l3)) S hK (Y := ((h_t, .inr (3, [.int t_a, .int t_b, z_t_2, z_t_3, z_t_4, z_t_5, z_t_6, z_t_7])) :: R)) hP hm_3 2 (by decide) (ha _ q168) rfl dX3_multiply_56 ?_
  refine lv_lmul hx hb dX3_multiply_59 ?_
  refine lv_ladd hx hb dX3_multiply_60 ?_
  refine lv_aload_n hx hb dX3_multiply_61 rfl (lv_at hl 2 rfl) ?_
  refine xg_num (v := .long (nd l2)) S hK (Y := ((h_t, .inr (3, [.int t_a, .int t_b, z_t_2, z_t_3, z_t_4, z_t_5, z_t_6, z_t_7])) :: R)) hP hm_2 3 (by decide) (ha _ q174) rfl dX3_multiply_62 ?_
  refine lv_aload_n hx hb dX3_multiply_65 rfl (lv_at hl 3 rfl) ?_
  refine xg_num (v := .long (nd l3)) S hK (Y := ((h_t, .inr (3, [.int t_a, .int t_b, z_t_2, z_t_3, z_t_4, z_t_5, z_t_6, z_t_7])) :: R)) hP hm_3 3 (by decide) (ha _ q174) rfl dX3_multiply_66 ?_
  refine lv_lmul hx hb dX3_multiply_69 ?_
  obtain ⟨r_c70_0, nt_c70_0, nu_c70_0, nv_c70_0, nd_c70_0, e_c70_0, h⟩ := bnd5_ok h
  refine cl_z (rn_v (ci := 0) (As := [.long (((nu l2) * (nu l3)) + ((t_b.toInt64 * (nv l2)) * (nv l3))), .long ((((nu l2) * (nv l3)) + ((nv l2) * (nu l3))) + ((t_a.toInt64 * (nv l2)) * (nv l3))), .long ((nd l2) * (nd l3))]) (rest := []) S (c_X0_take l D ((h_t, .inr (3, [.int t_a, .int t_b, z_t_2, z_t_3, z_t_4, z_t_5, z_t_6, z_t_7])) :: R) NL nt nu nv nd l1 (((nu l2) * (nu l3)) + ((t_b.toInt64 * (nv l2)) * (nv l3))) ((((nu l2) * (nv l3)) + ((nv l2) * (nu l3))) + ((t_a.toInt64 * (nv l2)) * (nv l3))) ((nd l2) * (nd l3)) r_c70_0 nt_c70_0 nu_c70_0 nv_c70_0 nd_c70_0 hm_1 e_c70_0 _) q534 q512 q513 q51 q514 nd_X0_take ⟨Nat.le_of_ble_eq_true rfl, Nat.le_of_ble_eq_true rfl⟩ rfl rfl hP hD (hK.sub (tys' := []) [] rfl) hN rfl (rc_num (Y := ((h_t, .inr (3, [.int t_a, .int t_b, z_t_2, z_t_3, z_t_4, z_t_5, z_t_6, z_t_7])) :: R)) hm_1) rfl hl.1 rfl (Nat.le_of_ble_eq_true rfl) dX3_multiply_70 ⟨Nat.le_of_ble_eq_true rfl, Nat.le_of_ble_eq_true rfl⟩) hS hA hD (fun H locs hP hD hS z_c70_0 => ?_)
  have hP : va_P D vwCl ((h_t, .inr (3, [.int t_a, .int t_b, z_t_2, z_t_3, z_t_4, z_t_5, z_t_6, z_t_7])) :: (R ++ va_pl NL (nmE nt_c70_0 nu_c70_0 nv_c70_0 nd_c70_0))) H := hP
  have hD : va_D A ((h_t, .inr (3, [.int t_a, .int t_b, z_t_2, z_t_3, z_t_4, z_t_5, z_t_6, z_t_7])) :: (R ++ va_pl NL (nmE nt_c70_0 nu_c70_0 nv_c70_0 nd_c70_0))) := hD
  cases h
  exact rt_z S hr hlk hP hD hS z_c70_0 dX3_multiply_73
noncomputable def f_X3_divide (t_a : Int32) (t_b : Int32) (nt : Nat → Int32) (nu : Nat → Int64) (nv : Nat → Int64) (nd : Nat → Int64) (l1 : Nat) (l2 : Nat) (l3 : Nat) : Option (Int32 × (Nat → Int32) × (Nat → Int64) × (Nat → Int64) × (Nat → Int64)) :=
  if ((((nu l3) * (nu l3)) + ((t_a.toInt64 * (nu l3)) * (nv l3))) - ((t_b.toInt64 * (nv l3)) * (nv l3))) = 0 then (
   some (0, nt, nu, nv, nd)
  ) else (
   if ((((nu l3) * (nu l3)) + ((t_a.toInt64 * (nu l3)) * (nv l3))) - ((t_b.toInt64 * (nv l3)) * (nv l3))) ≤ 0 then (
    bnd1 (f_J9_abs_067f4 ((((nu l3) * (nu l3)) + ((t_a.toInt64 * (nu l3)) * (nv l3))) - ((t_b.toInt64 * (nv l3)) * (nv l3)))) fun r_c168_2 => (
     bnd5 (f_X0_take nt nu nv nd l1 ((-(nd l3)) * (((nu l2) * ((nu l3) + (t_a.toInt64 * (nv l3)))) + ((t_b.toInt64 * (nv l2)) * (-(nv l3))))) ((-(nd l3)) * ((((nu l2) * (-(nv l3))) + ((nv l2) * ((nu l3) + (t_a.toInt64 * (nv l3))))) + ((t_a.toInt64 * (nv l2)) * (-(nv l3))))) ((nd l2) * r_c168_2)) fun r_c172_3 nt_c172_3 nu_c172_3 nv_c172_3 nd_c172_3 => (
      some (r_c172_3, nt_c172_3, nu_c172_3, nv_c172_3, nd_c172_3)
     )
    )
   ) else (
    bnd1 (f_J9_abs_067f4 ((((nu l3) * (nu l3)) + ((t_a.toInt64 * (nu l3)) * (nv l3))) - ((t_b.toInt64 * (nv l3)) * (nv l3)))) fun r_c168_4 => (
     bnd5 (f_X0_take nt nu nv nd l1 ((nd l3) * (((nu l2) * ((nu l3) + (t_a.toInt64 * (nv l3)))) + ((t_b.toInt64 * (nv l2)) * (-(nv l3))))) ((nd l3) * ((((nu l2) * (-(nv l3))) + ((nv l2) * ((nu l3) + (t_a.toInt64 * (nv l3))))) + ((t_a.toInt64 * (nv l2)) * (-(nv l3))))) ((nd l2) * r_c168_4)) fun r_c172_5 nt_c172_5 nu_c172_5 nv_c172_5 nd_c172_5 => (
      some (r_c172_5, nt_c172_5, nu_c172_5, nv_c172_5, nd_c172_5)
     )
    )
   )
  )
set_option maxHeartbeats 4000000 in
set_option maxRecDepth 100000 in
theorem c_X3_divide (l : Launch) (D : va_G) (R : va_W) (NL : List Nat) (nt : Nat → Int32) (nu : Nat → Int64) (nv : Nat → Int64) (nd : Nat → Int64) (h_t : Nat) (t_a : Int32) (t_b : Int32) (z_t_2 : Value) (z_t_3 : Value) (z_t_4 : Value) (z_t_5 : Value) (z_t_6 : Value) (z_t_7 : Value) (l1 : Nat) (l2 : Nat) (l3 : Nat) (r : Int32) (o_nt : Nat → Int32) (o_nu : Nat → Int64) (o_nv : Nat → Int64) (o_nd : Nat → Int64) (hm_1 : l1 ∈ NL) (hm_2 : l2 ∈ NL) (hm_3 : l3 ∈ NL) (h : f_X3_divide t_a t_b nt nu nv nd l1 l2 l3 = some (r, o_nt, o_nu, o_nv, o_nd)) (sz : Nat) : Met l yX3_divide (WD yX3_divide cX3_divide 16 (some .boolean)) ({ frames := 3, cells := 0, slots := 0, locals := 85 }) (va_Pc [.ref h_t, .ref l1, .ref l2, .ref l3] (PcW D [] ((h_t, .inr (3, [.int t_a, .int t_b, z_t_2, z_t_3, z_t_4, z_t_5, z_t_6, z_t_7])) :: (R ++ va_pl NL (nmE nt nu nv nd))) sz)) (QZ D r ((h_t, .inr (3, [.int t_a, .int t_b, z_t_2, z_t_3, z_t_4, z_t_5, z_t_6, z_t_7])) :: (R ++ va_pl NL (nmE o_nt o_nu o_nv o_nd))) (va_A ((h_t, .inr (3, [.int t_a, .int t_b, z_t_2, z_t_3, z_t_4, z_t_5, z_t_6, z_t_7])) :: (R ++ va_pl NL (nmE nt nu nv nd))) sz)) 0 0 (va_A ((h_t, .inr (3, [.int t_a, .int t_b, z_t_2, z_t_3, z_t_4, z_t_5, z_t_6, z_t_7])) :: (R ++ va_pl NL (nmE nt nu nv nd))) sz) := by
  refine ct_start (QF := fun A => QZ D r ((h_t, .inr (3, [.int t_a, .int t_b, z_t_2, z_t_3, z_t_4, z_t_5, z_t_6, z_t_7])) :: (R ++ va_pl NL (nmE o_nt o_nu o_nv o_nd))) A) ?_ ?_ ?_
  · decide +kernel
  · exact Nat.le_of_ble_eq_true rfl
  intro p e s m args below meth c A ls S hr hlk hnm hS hA hP hD hK hN hl
  have S : CallFix p m c cX3_divide 16 s args AL "DigitBench$Root" := S
  have hx := S.1
  have hb := S.2.1
  have hown := S.2.2.2.1
  have ha := S.2.2.2.2
  have hl : lv_has ls 16 [(0, .ref h_t), (1, .ref l1), (2, .ref l2), (3, .ref l3)] := hl
  unfold f_X3_divide at h
  refine lv_aload_n hx hb dX3_divide_0 rfl (lv_at hl 3 rfl) ?_
  refine xg_num (v := .long (nu l3)) S hK (Y := ((h_t, .inr (3, [.int t_a, .int t_b, z_t_2, z_t_3, z_t_4, z_t_5, z_t_6, z_t_7])) :: R)) hP hm_3 1 (by decide) (ha _ q162) rfl dX3_divide_1 ?_
  refine lv_aload_n hx hb dX3_divide_4 rfl (lv_at hl 3 rfl) ?_
  refine xg_num (v := .long (nu l3)) S hK (Y := ((h_t, .inr (3, [.int t_a, .int t_b, z_t_2, z_t_3, z_t_4, z_t_5, z_t_6, z_t_7])) :: R)) hP hm_3 1 (by decide) (ha _ q162) rfl dX3_divide_5 ?_
  refine lv_lmul hx hb dX3_divide_8 ?_
  refine lv_aload_n hx hb dX3_divide_9 rfl (lv_at hl 0 rfl) ?_
  refine va_get (D := D) (ci := 3) (v := .int t_a) (C := RX3) (T := TX3) (N := 8) hx hb ha ix3 hown hK hP 0 rfl rfl 0 (by decide) (ha _ q115) (fun _ h9 => h9) rfl dX3_divide_10 ?_
  refine lv_i2l (v := t_a.toInt64) hx hb dX3_divide_13 rfl ?_
  refine lv_aload_n hx hb dX3_divide_14 rfl (lv_at hl 3 rfl) ?_
  refine xg_num (v := .long (nu l3)) S hK (Y := ((h_t, .inr (3, [.int t_a, .int t_b, z_t_2, z_t_3, z_t_4, z_t_5, z_t_6, z_t_7])) :: R)) hP hm_3 1 (by decide) (ha _ q162) rfl dX3_divide_15 ?_
  refine lv_lmul hx hb dX3_divide_18 ?_
  refine lv_aload_n hx hb dX3_divide_19 rfl (lv_at hl 3 rfl) ?_
  refine xg_num (v := .long (nv l3)) S hK (Y := ((h_t, .inr (3, [.int t_a, .int t_b, z_t_2, z_t_3, z_t_4, z_t_5, z_t_6, z_t_7])) :: R)) hP hm_3 2 (by decide) (ha _ q168) rfl dX3_divide_20 ?_
  refine lv_lmul hx hb dX3_divide_23 ?_
  refine lv_ladd hx hb dX3_divide_24 ?_
  refine lv_aload_n hx hb dX3_divide_25 rfl (lv_at hl 0 rfl) ?_
  refine va_get (D := D) (ci := 3) (v := .int t_b) (C := RX3) (T := TX3) (N := 8) hx hb ha ix3 hown hK hP 0 rfl rfl 1 (by decide) (ha _ q118) (fun _ h9 => h9) rfl dX3_divide_26 ?_
  refine lv_i2l (v := t_b.toInt64) hx hb dX3_divide_29 rfl ?_
  refine lv_aload_n hx hb dX3_divide_30 rfl (lv_at hl 3 rfl) ?_
  refine xg_num (v := .long (nv l3)) S hK (Y := ((h_t, .inr (3, [.int t_a, .int t_b, z_t_2, z_t_3, z_t_4, z_t_5, z_t_6, z_t_7])) :: R)) hP hm_3 2 (by decide) (ha _ q168) rfl dX3_divide_31 ?_
  refine lv_lmul hx hb dX3_divide_34 ?_
  refine lv_aload_n hx hb dX3_divide_35 rfl (lv_at hl 3 rfl) ?_
  refine xg_num (v := .long (nv l3)) S hK (Y := ((h_t, .inr (3, [.int t_a, .int t_b, z_t_2, z_t_3, z_t_4, z_t_5, z_t_6, z_t_7])) :: R)) hP hm_3 2 (by decide) (ha _ q168) rfl dX3_divide_36 ?_
  refine lv_lmul hx hb dX3_divide_39 ?_
  refine lv_lsub hx hb dX3_divide_40 ?_
  refine lv_lstore (lv' := [(4, .long ((((nu l3) * (nu l3)) + ((t_a.toInt64 * (nu l3)) * (nv l3))) - ((t_b.toInt64 * (nv l3)) * (nv l3)))), (0, .ref h_t), (1, .ref l1), (2, .ref l2), (3, .ref l3)]) hx hb dX3_divide_41 hl (by decide) rfl (fun ls hl => ?_)
  refine lv_lload hx hb dX3_divide_43 (lv_at hl 0 rfl) ?_
  refine lv_lconst (v := 0) hx hb dX3_divide_45 (by decide) ?_
  refine xl_ne (tgt := 52) hx hb dX3_divide_46 dX3_divide_47 (by decide) (fun c1 => ?_) (fun c1 => ?_)
  · have h := br_neg c1 h
    refine lv_lload hx hb dX3_divide_52 (lv_at hl 0 rfl) ?_
    refine lv_lconst (v := 0) hx hb dX3_divide_54 (by decide) ?_
    refine xl_le (tgt := 66) hx hb dX3_divide_55 dX3_divide_56 (by decide) (fun c2 => ?_) (fun c2 => ?_)
    · have h := br_pos c2 h
      refine lv_aload_n hx hb dX3_divide_66 rfl (lv_at hl 4 rfl) ?_
      refine xg_num (v := .long (nd l3)) S hK (Y := ((h_t, .inr (3, [.int t_a, .int t_b, z_t_2, z_t_3, z_t_4, z_t_5, z_t_6, z_t_7])) :: R)) hP hm_3 3 (by decide) (ha _ q174) rfl dX3_divide_67 ?_
      refine lv_lneg hx hb dX3_divide_70 ?_
      refine lv_lstore (lv' := [(6, .long (-(nd l3))), (4, .long ((((nu l3) * (nu l3)) + ((t_a.toInt64 * (nu l3)) * (nv l3))) - ((t_b.toInt64 * (nv l3)) * (nv l3)))), (0, .ref h_t), (1, .ref l1), (2, .ref l2), (3, .ref l3)]) hx hb dX3_divide_71 hl (by decide) rfl (fun ls hl => ?_)
      refine lv_aload_n hx hb dX3_divide_73 rfl (lv_at hl 5 rfl) ?_
      refine xg_num (v := .long (nu l3)) S hK (Y := ((h_t, .inr (3, [.int t_a, .int t_b, z_t_2, z_t_3, z_t_4, z_t_5, z_t_6, z_t_7])) :: R)) hP hm_3 1 (by decide) (ha _ q162) rfl dX3_divide_74 ?_
      refine lv_aload_n hx hb dX3_divide_77 rfl (lv_at hl 2 rfl) ?_
      refine va_get (D := D) (ci := 3) (v := .int t_a) (C := RX3) (T := TX3) (N := 8) hx hb ha ix3 hown hK hP 0 rfl rfl 0 (by decide) (ha _ q115) (fun _ h9 => h9) rfl dX3_divide_78 ?_
      refine lv_i2l (v := t_a.toInt64) hx hb dX3_divide_81 rfl ?_
      refine lv_aload_n hx hb dX3_divide_82 rfl (lv_at hl 5 rfl) ?_
      refine xg_num (v := .long (nv l3)) S hK (Y := ((h_t, .inr (3, [.int t_a, .int t_b, z_t_2, z_t_3, z_t_4, z_t_5, z_t_6, z_t_7])) :: R)) hP hm_3 2 (by decide) (ha _ q168) rfl dX3_divide_83 ?_
      refine lv_lmul hx hb dX3_divide_86 ?_
      refine lv_ladd hx hb dX3_divide_87 ?_
      refine lv_lstore (lv' := [(8, .long ((nu l3) + (t_a.toInt64 * (nv l3)))), (6, .long (-(nd l3))), (4, .long ((((nu l3) * (nu l3)) + ((t_a.toInt64 * (nu l3)) * (nv l3))) - ((t_b.toInt64 * (nv l3)) * (nv l3)))), (0, .ref h_t), (1, .ref l1), (2, .ref l2), (3, .ref l3)]) hx hb dX3_divide_88 hl (by decide) rfl (fun ls hl => ?_)
      refine lv_aload_n hx hb dX3_divide_90 rfl (lv_at hl 6 rfl) ?_
      refine xg_num (v := .long (nv l3)) S hK (Y := ((h_t, .inr (3, [.int t_a, .int t_b, z_t_2, z_t_3, z_t_4, z_t_5, z_t_6, z_t_7])) :: R)) hP hm_3 2 (by decide) (ha _ q168) rfl dX3_divide_91 ?_
      refine lv_lneg hx hb dX3_divide_94 ?_
      refine lv_lstore (lv' := [(10, .long (-(nv l3))), (8, .long ((nu l3) + (t_a.toInt64 * (nv l3)))), (6, .long (-(nd l3))), (4, .long ((((nu l3) * (nu l3)) + ((t_a.toInt64 * (nu l3)) * (nv l3))) - ((t_b.toInt64 * (nv l3)) * (nv l3)))), (0, .ref h_t), (1, .ref l1), (2, .ref l2), (3, .ref l3)]) hx hb dX3_divide_95 hl (by decide) rfl (fun ls hl => ?_)
      refine lv_aload_n hx hb dX3_divide_97 rfl (lv_at hl 6 rfl) ?_
      refine xg_num (v := .long (nu l2)) S hK (Y := ((h_t, .inr (3, [.int t_a, .int t_b, z_t_2, z_t_3, z_t_4, z_t_5, z_t_6, z_t_7])) :: R)) hP hm_2 1 (by decide) (ha _ q162) rfl dX3_divide_98 ?_
      refine lv_lload hx hb dX3_divide_101 (lv_at hl 1 rfl) ?_
      refine lv_lmul hx hb dX3_divide_103 ?_
      refine lv_aload_n hx hb dX3_divide_104 rfl (lv_at hl 4 rfl) ?_
      refine va_get (D := D) (ci := 3) (v := .int t_b) (C := RX3) (T := TX3) (N := 8) hx hb ha ix3 hown hK hP 0 rfl rfl 1 (by decide) (ha _ q118) (fun _ h9 => h9) rfl dX3_divide_105 ?_
      refine lv_i2l (v := t_b.toInt64) hx hb dX3_divide_108 rfl ?_
      refine lv_aload_n hx hb dX3_divide_109 rfl (lv_at hl 6 rfl) ?_
      refine xg_num (v := .long (nv l2)) S hK (Y := ((h_t, .inr (3, [.int t_a, .int t_b, z_t_2, z_t_3, z_t_4, z_t_5, z_t_6, z_t_7])) :: R)) hP hm_2 2 (by decide) (ha _ q168) rfl dX3_divide_110 ?_
      refine lv_lmul hx hb dX3_divide_113 ?_
      refine lv_lload hx hb dX3_divide_114 (lv_at hl 0 rfl) ?_
      refine lv_lmul hx hb dX3_divide_116 ?_
      refine lv_ladd hx hb dX3_divide_117 ?_
      refine lv_lstore (lv' := [(12, .long (((nu l2) * ((nu l3) + (t_a.toInt64 * (nv l3)))) + ((t_b.toInt64 * (nv l2)) * (-(nv l3))))), (10, .long (-(nv l3))), (8, .long ((nu l3) + (t_a.toInt64 * (nv l3)))), (6, .long (-(nd l3))), (4, .long ((((nu l3) * (nu l3)) + ((t_a.toInt64 * (nu l3)) * (nv l3))) - ((t_b.toInt64 * (nv l3)) * (nv l3)))), (0, .ref h_t), (1, .ref l1), (2, .ref l2), (3, .ref l3)]) hx hb dX3_divide_118 hl (by decide) rfl (fun ls hl => ?_)
      refine lv_aload_n hx hb dX3_divide_120 rfl (lv_at hl 7 rfl) ?_
      refine xg_num (v := .long (nu l2)) S hK (Y := ((h_t, .inr (3, [.int t_a, .int t_b, z_t_2, z_t_3, z_t_4, z_t_5, z_t_6, z_t_7])) :: R)) hP hm_2 1 (by decide) (ha _ q162) rfl dX3_divide_121 ?_
      refine lv_lload hx hb dX3_divide_124 (lv_at hl 1 rfl) ?_
      refine lv_lmul hx hb dX3_divide_126 ?_
      refine lv_aload_n hx hb dX3_divide_127 rfl (lv_at hl 7 rfl) ?_
      refine xg_num (v := .long (nv l2)) S hK (Y := ((h_t, .inr (3, [.int t_a, .int t_b, z_t_2, z_t_3, z_t_4, z_t_5, z_t_6, z_t_7])) :: R)) hP hm_2 2 (by decide) (ha _ q168) rfl dX3_divide_128 ?_
      refine lv_lload hx hb dX3_divide_131 (lv_at hl 2 rfl) ?_
      refine lv_lmul hx hb dX3_divide_133 ?_
      refine lv_ladd hx hb dX3_divide_134 ?_
      refine lv_aload_n hx hb dX3_divide_135 rfl (lv_at hl 5 rfl) ?_
      refine va_get (D := D) (ci := 3) (v := .int t_a) (C := RX3) (T := TX3) (N := 8) hx hb ha ix3 hown hK hP 0 rfl rfl 0 (by decide) (ha _ q115) (fun _ h9 => h9) rfl dX3_divide_136 ?_
      refine lv_i2l (v := t_a.toInt64) hx hb dX3_divide_139 rfl ?_
      refine lv_aload_n hx hb dX3_divide_140 rfl (lv_at hl 7 rfl) ?_
      refine xg_num (v := .long (nv l2)) S hK (Y := ((h_t, .inr (3, [.int t_a, .int t_b, z_t_2, z_t_3, z_t_4, z_t_5, z_t_6, z_t_7])) :: R)) hP hm_2 2 (by decide) (ha _ q168) rfl dX3_divide_141 ?_
      refine lv_lmul hx hb dX3_divide_144 ?_
      refine lv_lload hx hb dX3_divide_145 (lv_at hl 1 rfl) ?_
      refine lv_lmul hx hb dX3_divide_147 ?_
      refine lv_ladd hx hb dX3_divide_148 ?_
      refine lv_lstore (lv' := [(14, .long ((((nu l2) * (-(nv l3))) + ((nv l2) * ((nu l3) + (t_a.toInt64 * (nv l3))))) + ((t_a.toInt64 * (nv l2)) * (-(nv l3))))), (12, .long (((nu l2) * ((nu l3) + (t_a.toInt64 * (nv l3)))) + ((t_b.toInt64 * (nv l2)) * (-(nv l3))))), (10, .long (-(nv l3))), (8, .long ((nu l3) + (t_a.toInt64 * (nv l3)))), (6, .long (-(nd l3))), (4, .long ((((nu l3) * (nu l3)) + ((t_a.toInt64 * (nu l3)) * (nv l3))) - ((t_b.toInt64 * (nv l3)) * (nv l3)))), (0, .ref h_t), (1, .ref l1), (2, .ref l2), (3, .ref l3)]) hx hb dX3_divide_149 hl (by decide) rfl (fun ls hl => ?_)
      refine lv_aload_n hx hb dX3_divide_151 rfl (lv_at hl 7 rfl) ?_
      refine lv_lload hx hb dX3_divide_152 (lv_at hl 4 rfl) ?_
      refine lv_lload hx hb dX3_divide_154 (lv_at hl 1 rfl) ?_
      refine lv_lmul hx hb dX3_divide_156 ?_
      refine lv_lload hx hb dX3_divide_157 (lv_at hl 4 rfl) ?_
      refine lv_lload hx hb dX3_divide_159 (lv_at hl 0 rfl) ?_
      refine lv_lmul hx hb dX3_divide_161 ?_
      refine lv_aload_n hx hb dX3_divide_162 rfl (lv_at hl 8 rfl) ?_
      refine xg_num (v := .long (nd l2)) S hK (Y := ((h_t, .inr (3, [.int t_a, .int t_b, z_t_2, z_t_3, z_t_4, z_t_5, z_t_6, z_t_7])) :: R)) hP hm_2 3 (by decide) (ha _ q174) rfl dX3_divide_163 ?_
      refine lv_lload hx hb dX3_divide_166 (lv_at hl 5 rfl) ?_
      obtain ⟨r_c168_2, e_c168_2, h⟩ := bnd1_ok h
      refine cl_l (rn_s (As := [.long ((((nu l3) * (nu l3)) + ((t_a.toInt64 * (nu l3)) * (nv l3))) - ((t_b.toInt64 * (nv l3)) * (nv l3)))]) (rest := [.long (nd l2), .long ((-(nd l3)) * ((((nu l2) * (-(nv l3))) + ((nv l2) * ((nu l3) + (t_a.toInt64 * (nv l3))))) + ((t_a.toInt64 * (nv l2)) * (-(nv l3))))), .long ((-(nd l3)) * (((nu l2) * ((nu l3) + (t_a.toInt64 * (nv l3)))) + ((t_b.toInt64 * (nv l2)) * (-(nv l3))))), .ref l1]) S (c_J9_abs_067f4 l D ((h_t, .inr (3, [.int t_a, .int t_b, z_t_2, z_t_3, z_t_4, z_t_5, z_t_6, z_t_7])) :: (R ++ va_pl NL (nmE nt nu nv nd))) ((((nu l3) * (nu l3)) + ((t_a.toInt64 * (nu l3)) * (nv l3))) - ((t_b.toInt64 * (nv l3)) * (nv l3))) r_c168_2 e_c168_2 _) q543 q329 q58 q330 nd_J9_abs_067f4 ⟨Nat.le_of_ble_eq_true rfl, Nat.le_of_ble_eq_true rfl⟩ rfl rfl hP hD (hK.sub (tys' := []) [] rfl) hN rfl hl.1 rfl (Nat.le_of_ble_eq_true rfl) dX3_divide_168 ⟨Nat.le_of_ble_eq_true rfl, Nat.le_of_ble_eq_true rfl⟩) hS hA hD (fun H locs hP hD hS => ?_)
      have hP : va_P D vwCl ((h_t, .inr (3, [.int t_a, .int t_b, z_t_2, z_t_3, z_t_4, z_t_5, z_t_6, z_t_7])) :: (R ++ va_pl NL (nmE nt nu nv nd))) H := hP
      have hD : va_D A ((h_t, .inr (3, [.int t_a, .int t_b, z_t_2, z_t_3, z_t_4, z_t_5, z_t_6, z_t_7])) :: (R ++ va_pl NL (nmE nt nu nv nd))) := hD
      refine lv_lmul hx hb dX3_divide_171 ?_
      obtain ⟨r_c172_3, nt_c172_3, nu_c172_3, nv_c172_3, nd_c172_3, e_c172_3, h⟩ := bnd5_ok h
      refine cl_z (rn_v (ci := 0) (As := [.long ((-(nd l3)) * (((nu l2) * ((nu l3) + (t_a.toInt64 * (nv l3)))) + ((t_b.toInt64 * (nv l2)) * (-(nv l3))))), .long ((-(nd l3)) * ((((nu l2) * (-(nv l3))) + ((nv l2) * ((nu l3) + (t_a.toInt64 * (nv l3))))) + ((t_a.toInt64 * (nv l2)) * (-(nv l3))))), .long ((nd l2) * r_c168_2)]) (rest := []) S (c_X0_take l D ((h_t, .inr (3, [.int t_a, .int t_b, z_t_2, z_t_3, z_t_4, z_t_5, z_t_6, z_t_7])) :: R) NL nt nu nv nd l1 ((-(nd l3)) * (((nu l2) * ((nu l3) + (t_a.toInt64 * (nv l3)))) + ((t_b.toInt64 * (nv l2)) * (-(nv l3))))) ((-(nd l3)) * ((((nu l2) * (-(nv l3))) + ((nv l2) * ((nu l3) + (t_a.toInt64 * (nv l3))))) + ((t_a.toInt64 * (nv l2)) * (-(nv l3))))) ((nd l2) * r_c168_2) r_c172_3 nt_c172_3 nu_c172_3 nv_c172_3 nd_c172_3 hm_1 e_c172_3 _) q534 q512 q513 q51 q514 nd_X0_take ⟨Nat.le_of_ble_eq_true rfl, Nat.le_of_ble_eq_true rfl⟩ rfl rfl hP hD (hK.sub (tys' := []) [] rfl) hN rfl (rc_num (Y := ((h_t, .inr (3, [.int t_a, .int t_b, z_t_2, z_t_3, z_t_4, z_t_5, z_t_6, z_t_7])) :: R)) hm_1) rfl hl.1 rfl (Nat.le_of_ble_eq_true rfl) dX3_divide_172 ⟨Nat.le_of_ble_eq_true rfl, Nat.le_of_ble_eq_true rfl⟩) hS hA hD (fun H locs hP hD hS z_c172_3 => ?_)
      have hP : va_P D vwCl ((h_t, .inr (3, [.int t_a, .int t_b, z_t_2, z_t_3, z_t_4, z_t_5, z_t_6, z_t_7])) :: (R ++ va_pl NL (nmE nt_c172_3 nu_c172_3 nv_c172_3 nd_c172_3))) H := hP
      have hD : va_D A ((h_t, .inr (3, [.int t_a, .int t_b, z_t_2, z_t_3, z_t_4, z_t_5, z_t_6, z_t_7])) :: (R ++ va_pl NL (nmE nt_c172_3 nu_c172_3 nv_c172_3 nd_c172_3))) := hD
      cases h
      exact rt_z S hr hlk hP hD hS z_c172_3 dX3_divide_175
    · have h := br_neg c2 h
      refine lv_aload_n hx hb dX3_divide_59 rfl (lv_at hl 4 rfl) ?_
      refine xg_num (v := .long (nd l3)) S hK (Y := ((h_t, .inr (3, [.int t_a, .int t_b, z_t_2, z_t_3, z_t_4, z_t_5, z_t_6, z_t_7])) :: R)) hP hm_3 3 (by decide) (ha _ q174) rfl dX3_divide_60 ?_
      refine lv_goto (tgt := 71) hx hb dX3_divide_63 (by decide) ?_
      refine lv_lstore (lv' := [(6, .long (nd l3)), (4, .long ((((nu l3) * (nu l3)) + ((t_a.toInt64 * (nu l3)) * (nv l3))) - ((t_b.toInt64 * (nv l3)) * (nv l3)))), (0, .ref h_t), (1, .ref l1), (2, .ref l2), (3, .ref l3)]) hx hb dX3_divide_71 hl (by decide) rfl (fun ls hl => ?_)
      refine lv_aload_n hx hb dX3_divide_73 rfl (lv_at hl 5 rfl) ?_
      refine xg_num (v := .long (nu l3)) S hK (Y := ((h_t, .inr (3, [.int t_a, .int t_b, z_t_2, z_t_3, z_t_4, z_t_5, z_t_6, z_t_7])) :: R)) hP hm_3 1 (by decide) (ha _ q162) rfl dX3_divide_74 ?_
      refine lv_aload_n hx hb dX3_divide_77 rfl (lv_at hl 2 rfl) ?_
      refine va_get (D := D) (ci := 3) (v := .int t_a) (C := RX3) (T := TX3) (N := 8) hx hb ha ix3 hown hK hP 0 rfl rfl 0 (by decide) (ha _ q115) (fun _ h9 => h9) rfl dX3_divide_78 ?_
      refine lv_i2l (v := t_a.toInt64) hx hb dX3_divide_81 rfl ?_
      refine lv_aload_n hx hb dX3_divide_82 rfl (lv_at hl 5 rfl) ?_
      refine xg_num (v := .long (nv l3)) S hK (Y := ((h_t, .inr (3, [.int t_a, .int t_b, z_t_2, z_t_3, z_t_4, z_t_5, z_t_6, z_t_7])) :: R)) hP hm_3 2 (by decide) (ha _ q168) rfl dX3_divide_83 ?_
      refine lv_lmul hx hb dX3_divide_86 ?_
      refine lv_ladd hx hb dX3_divide_87 ?_
      refine lv_lstore (lv' := [(8, .long ((nu l3) + (t_a.toInt64 * (nv l3)))), (6, .long (nd l3)), (4, .long ((((nu l3) * (nu l3)) + ((t_a.toInt64 * (nu l3)) * (nv l3))) - ((t_b.toInt64 * (nv l3)) * (nv l3)))), (0, .ref h_t), (1, .ref l1), (2, .ref l2), (3, .ref l3)]) hx hb dX3_divide_88 hl (by decide) rfl (fun ls hl => ?_)
      refine lv_aload_n hx hb dX3_divide_90 rfl (lv_at hl 6 rfl) ?_
      refine xg_num (v := .long (nv l3)) S hK (Y := ((h_t, .inr (3, [.int t_a, .int t_b, z_t_2, z_t_3, z_t_4, z_t_5, z_t_6, z_t_7])) :: R)) hP hm_3 2 (by decide) (ha _ q168) rfl dX3_divide_91 ?_
      refine lv_lneg hx hb dX3_divide_94 ?_
      refine lv_lstore (lv' := [(10, .long (-(nv l3))), (8, .long ((nu l3) + (t_a.toInt64 * (nv l3)))), (6, .long (nd l3)), (4, .long ((((nu l3) * (nu l3)) + ((t_a.toInt64 * (nu l3)) * (nv l3))) - ((t_b.toInt64 * (nv l3)) * (nv l3)))), (0, .ref h_t), (1, .ref l1), (2, .ref l2), (3, .ref l3)]) hx hb dX3_divide_95 hl (by decide) rfl (fun ls hl => ?_)
      refine lv_aload_n hx hb dX3_divide_97 rfl (lv_at hl 6 rfl) ?_
      refine xg_num (v := .long (nu l2)) S hK (Y := ((h_t, .inr (3, [.int t_a, .int t_b, z_t_2, z_t_3, z_t_4, z_t_5, z_t_6, z_t_7])) :: R)) hP hm_2 1 (by decide) (ha _ q162) rfl dX3_divide_98 ?_
      refine lv_lload hx hb dX3_divide_101 (lv_at hl 1 rfl) ?_
      refine lv_lmul hx hb dX3_divide_103 ?_
      refine lv_aload_n hx hb dX3_divide_104 rfl (lv_at hl 4 rfl) ?_
      refine va_get (D := D) (ci := 3) (v := .int t_b) (C := RX3) (T := TX3) (N := 8) hx hb ha ix3 hown hK hP 0 rfl rfl 1 (by decide) (ha _ q118) (fun _ h9 => h9) rfl dX3_divide_105 ?_
      refine lv_i2l (v := t_b.toInt64) hx hb dX3_divide_108 rfl ?_
      refine lv_aload_n hx hb dX3_divide_109 rfl (lv_at hl 6 rfl) ?_
      refine xg_num (v := .long (nv l2)) S hK (Y := ((h_t, .inr (3, [.int t_a, .int t_b, z_t_2, z_t_3, z_t_4, z_t_5, z_t_6, z_t_7])) :: R)) hP hm_2 2 (by decide) (ha _ q168) rfl dX3_divide_110 ?_
      refine lv_lmul hx hb dX3_divide_113 ?_
      refine lv_lload hx hb dX3_divide_114 (lv_at hl 0 rfl) ?_
      refine lv_lmul hx hb dX3_divide_116 ?_
      refine lv_ladd hx hb dX3_divide_117 ?_
      refine lv_lstore (lv' := [(12, .long (((nu l2) * ((nu l3) + (t_a.toInt64 * (nv l3)))) + ((t_b.toInt64 * (nv l2)) * (-(nv l3))))), (10, .long (-(nv l3))), (8, .long ((nu l3) + (t_a.toInt64 * (nv l3)))), (6, .long (nd l3)), (4, .long ((((nu l3) * (nu l3)) + ((t_a.toInt64 * (nu l3)) * (nv l3))) - ((t_b.toInt64 * (nv l3)) * (nv l3)))), (0, .ref h_t), (1, .ref l1), (2, .ref l2), (3, .ref l3)]) hx hb dX3_divide_118 hl (by decide) rfl (fun ls hl => ?_)
      refine lv_aload_n hx hb dX3_divide_120 rfl (lv_at hl 7 rfl) ?_
      refine xg_num (v := .long (nu l2)) S hK (Y := ((h_t, .inr (3, [.int t_a, .int t_b, z_t_2, z_t_3, z_t_4, z_t_5, z_t_6, z_t_7])) :: R)) hP hm_2 1 (by decide) (ha _ q162) rfl dX3_divide_121 ?_
      refine lv_lload hx hb dX3_divide_124 (lv_at hl 1 rfl) ?_
      refine lv_lmul hx hb dX3_divide_126 ?_
      refine lv_aload_n hx hb dX3_divide_127 rfl (lv_at hl 7 rfl) ?_
      refine xg_num (v := .long (nv l2)) S hK (Y := ((h_t, .inr (3, [.int t_a, .int t_b, z_t_2, z_t_3, z_t_4, z_t_5, z_t_6, z_t_7])) :: R)) hP hm_2 2 (by decide) (ha _ q168) rfl dX3_divide_128 ?_
      refine lv_lload hx hb dX3_divide_131 (lv_at hl 2 rfl) ?_
      refine lv_lmul hx hb dX3_divide_133 ?_
      refine lv_ladd hx hb dX3_divide_134 ?_
      refine lv_aload_n hx hb dX3_divide_135 rfl (lv_at hl 5 rfl) ?_
      refine va_get (D := D) (ci := 3) (v := .int t_a) (C := RX3) (T := TX3) (N := 8) hx hb ha ix3 hown hK hP 0 rfl rfl 0 (by decide) (ha _ q115) (fun _ h9 => h9) rfl dX3_divide_136 ?_
      refine lv_i2l (v := t_a.toInt64) hx hb dX3_divide_139 rfl ?_
      refine lv_aload_n hx hb dX3_divide_140 rfl (lv_at hl 7 rfl) ?_
      refine xg_num (v := .long (nv l2)) S hK (Y := ((h_t, .inr (3, [.int t_a, .int t_b, z_t_2, z_t_3, z_t_4, z_t_5, z_t_6, z_t_7])) :: R)) hP hm_2 2 (by decide) (ha _ q168) rfl dX3_divide_141 ?_
      refine lv_lmul hx hb dX3_divide_144 ?_
      refine lv_lload hx hb dX3_divide_145 (lv_at hl 1 rfl) ?_
      refine lv_lmul hx hb dX3_divide_147 ?_
      refine lv_ladd hx hb dX3_divide_148 ?_
      refine lv_lstore (lv' := [(14, .long ((((nu l2) * (-(nv l3))) + ((nv l2) * ((nu l3) + (t_a.toInt64 * (nv l3))))) + ((t_a.toInt64 * (nv l2)) * (-(nv l3))))), (12, .long (((nu l2) * ((nu l3) + (t_a.toInt64 * (nv l3)))) + ((t_b.toInt64 * (nv l2)) * (-(nv l3))))), (10, .long (-(nv l3))), (8, .long ((nu l3) + (t_a.toInt64 * (nv l3)))), (6, .long (nd l3)), (4, .long ((((nu l3) * (nu l3)) + ((t_a.toInt64 * (nu l3)) * (nv l3))) - ((t_b.toInt64 * (nv l3)) * (nv l3)))), (0, .ref h_t), (1, .ref l1), (2, .ref l2), (3, .ref l3)]) hx hb dX3_divide_149 hl (by decide) rfl (fun ls hl => ?_)
      refine lv_aload_n hx hb dX3_divide_151 rfl (lv_at hl 7 rfl) ?_
      refine lv_lload hx hb dX3_divide_152 (lv_at hl 4 rfl) ?_
      refine lv_lload hx hb dX3_divide_154 (lv_at hl 1 rfl) ?_
      refine lv_lmul hx hb dX3_divide_156 ?_
      refine lv_lload hx hb dX3_divide_157 (lv_at hl 4 rfl) ?_
      refine lv_lload hx hb dX3_divide_159 (lv_at hl 0 rfl) ?_
      refine lv_lmul hx hb dX3_divide_161 ?_
      refine lv_aload_n hx hb dX3_divide_162 rfl (lv_at hl 8 rfl) ?_
      refine xg_num (v := .long (nd l2)) S hK (Y := ((h_t, .inr (3, [.int t_a, .int t_b, z_t_2, z_t_3, z_t_4, z_t_5, z_t_6, z_t_7])) :: R)) hP hm_2 3 (by decide) (ha _ q174) rfl dX3_divide_163 ?_
      refine lv_lload hx hb dX3_divide_166 (lv_at hl 5 rfl) ?_
      obtain ⟨r_c168_4, e_c168_4, h⟩ := bnd1_ok h
      refine cl_l (rn_s (As := [.long ((((nu l3) * (nu l3)) + ((t_a.toInt64 * (nu l3)) * (nv l3))) - ((t_b.toInt64 * (nv l3)) * (nv l3)))]) (rest := [.long (nd l2), .long ((nd l3) * ((((nu l2) * (-(nv l3))) + ((nv l2) * ((nu l3) + (t_a.toInt64 * (nv l3))))) + ((t_a.toInt64 * (nv l2)) * (-(nv l3))))), .long ((nd l3) * (((nu l2) * ((nu l3) + (t_a.toInt64 * (nv l3)))) + ((t_b.toInt64 * (nv l2)) * (-(nv l3))))), .ref l1]) S (c_J9_abs_067f4 l D ((h_t, .inr (3, [.int t_a, .int t_b, z_t_2, z_t_3, z_t_4, z_t_5, z_t_6, z_t_7])) :: (R ++ va_pl NL (nmE nt nu nv nd))) ((((nu l3) * (nu l3)) + ((t_a.toInt64 * (nu l3)) * (nv l3))) - ((t_b.toInt64 * (nv l3)) * (nv l3))) r_c168_4 e_c168_4 _) q543 q329 q58 q330 nd_J9_abs_067f4 ⟨Nat.le_of_ble_eq_true rfl, Nat.le_of_ble_eq_true rfl⟩ rfl rfl hP hD (hK.sub (tys' := []) [] rfl) hN rfl hl.1 rfl (Nat.le_of_ble_eq_true rfl) dX3_divide_168 ⟨Nat.le_of_ble_eq_true rfl, Nat.le_of_ble_eq_true rfl⟩) hS hA hD (fun H locs hP hD hS => ?_)
      have hP : va_P D vwCl ((h_t, .inr (3, [.int t_a, .int t_b, z_t_2, z_t_3, z_t_4, z_t_5, z_t_6, z_t_7])) :: (R ++ va_pl NL (nmE nt nu nv nd))) H := hP
      have hD : va_D A ((h_t, .inr (3, [.int t_a, .int t_b, z_t_2, z_t_3, z_t_4, z_t_5, z_t_6, z_t_7])) :: (R ++ va_pl NL (nmE nt nu nv nd))) := hD
      refine lv_lmul hx hb dX3_divide_171 ?_
      obtain ⟨r_c172_5, nt_c172_5, nu_c172_5, nv_c172_5, nd_c172_5, e_c172_5, h⟩ := bnd5_ok h
      refine cl_z (rn_v (ci := 0) (As := [.long ((nd l3) * (((nu l2) * ((nu l3) + (t_a.toInt64 * (nv l3)))) + ((t_b.toInt64 * (nv l2)) * (-(nv l3))))), .long ((nd l3) * ((((nu l2) * (-(nv l3))) + ((nv l2) * ((nu l3) + (t_a.toInt64 * (nv l3))))) + ((t_a.toInt64 * (nv l2)) * (-(nv l3))))), .long ((nd l2) * r_c168_4)]) (rest := []) S (c_X0_take l D ((h_t, .inr (3, [.int t_a, .int t_b, z_t_2, z_t_3, z_t_4, z_t_5, z_t_6, z_t_7])) :: R) NL nt nu nv nd l1 ((nd l3) * (((nu l2) * ((nu l3) + (t_a.toInt64 * (nv l3)))) + ((t_b.toInt64 * (nv l2)) * (-(nv l3))))) ((nd l3) * ((((nu l2) * (-(nv l3))) + ((nv l2) * ((nu l3) + (t_a.toInt64 * (nv l3))))) + ((t_a.toInt64 * (nv l2)) * (-(nv l3))))) ((nd l2) * r_c168_4) r_c172_5 nt_c172_5 nu_c172_5 nv_c172_5 nd_c172_5 hm_1 e_c172_5 _) q534 q512 q513 q51 q514 nd_X0_take ⟨Nat.le_of_ble_eq_true rfl, Nat.le_of_ble_eq_true rfl⟩ rfl rfl hP hD (hK.sub (tys' := []) [] rfl) hN rfl (rc_num (Y := ((h_t, .inr (3, [.int t_a, .int t_b, z_t_2, z_t_3, z_t_4, z_t_5, z_t_6, z_t_7])) :: R)) hm_1) rfl hl.1 rfl (Nat.le_of_ble_eq_true rfl) dX3_divide_172 ⟨Nat.le_of_ble_eq_true rfl, Nat.le_of_ble_eq_true rfl⟩) hS hA hD (fun H locs hP hD hS z_c172_5 => ?_)
      have hP : va_P D vwCl ((h_t, .inr (3, [.int t_a, .int t_b, z_t_2, z_t_3, z_t_4, z_t_5, z_t_6, z_t_7])) :: (R ++ va_pl NL (nmE nt_c172_5 nu_c172_5 nv_c172_5 nd_c172_5))) H := hP
      have hD : va_D A ((h_t, .inr (3, [.int t_a, .int t_b, z_t_2, z_t_3, z_t_4, z_t_5, z_t_6, z_t_7])) :: (R ++ va_pl NL (nmE nt_c172_5 nu_c172_5 nv_c172_5 nd_c172_5))) := hD
      cases h
      exact rt_z S hr hlk hP hD hS z_c172_5 dX3_divide_175
  · have h := br_pos c1 h
    refine lv_iconst (v := 0) hx hb dX3_divide_50 (by decide) ?_
    cases h
    exact rt_z S hr hlk hP hD hS (by decide) dX3_divide_51
noncomputable def f_X3_multiplyByX (t_a : Int32) (t_b : Int32) (nt : Nat → Int32) (nu : Nat → Int64) (nv : Nat → Int64) (nd : Nat → Int64) (l1 : Nat) : Option (Int32 × (Nat → Int32) × (Nat → Int64) × (Nat → Int64) × (Nat → Int64)) :=
  bnd5 (f_X0_take nt nu nv nd l1 (t_b.toInt64 * (nv l1)) ((nu l1) + (t_a.toInt64 * (nv l1))) (nd l1)) fun r_c30_0 nt_c30_0 nu_c30_0 nv_c30_0 nd_c30_0 => (
   some (r_c30_0, nt_c30_0, nu_c30_0, nv_c30_0, nd_c30_0)
  )
set_option maxHeartbeats 4000000 in
set_option maxRecDepth 100000 in
theorem c_X3_multiplyByX (l : Launch) (D : va_G) (R : va_W) (NL : List Nat) (nt : Nat → Int32) (nu : Nat → Int64) (nv : Nat → Int64) (nd : Nat → Int64) (h_t : Nat) (t_a : Int32) (t_b : Int32) (z_t_2 : Value) (z_t_3 : Value) (z_t_4 : Value) (z_t_5 : Value) (z_t_6 : Value) (z_t_7 : Value) (l1 : Nat) (r : Int32) (o_nt : Nat → Int32) (o_nu : Nat → Int64) (o_nv : Nat → Int64) (o_nd : Nat → Int64) (hm_1 : l1 ∈ NL) (h : f_X3_multiplyByX t_a t_b nt nu nv nd l1 = some (r, o_nt, o_nu, o_nv, o_nd)) (sz : Nat) : Met l yX3_multiplyByX (WD yX3_multiplyByX cX3_multiplyByX 2 (some .boolean)) ({ frames := 3, cells := 0, slots := 0, locals := 85 }) (va_Pc [.ref h_t, .ref l1] (PcW D [] ((h_t, .inr (3, [.int t_a, .int t_b, z_t_2, z_t_3, z_t_4, z_t_5, z_t_6, z_t_7])) :: (R ++ va_pl NL (nmE nt nu nv nd))) sz)) (QZ D r ((h_t, .inr (3, [.int t_a, .int t_b, z_t_2, z_t_3, z_t_4, z_t_5, z_t_6, z_t_7])) :: (R ++ va_pl NL (nmE o_nt o_nu o_nv o_nd))) (va_A ((h_t, .inr (3, [.int t_a, .int t_b, z_t_2, z_t_3, z_t_4, z_t_5, z_t_6, z_t_7])) :: (R ++ va_pl NL (nmE nt nu nv nd))) sz)) 0 0 (va_A ((h_t, .inr (3, [.int t_a, .int t_b, z_t_2, z_t_3, z_t_4, z_t_5, z_t_6, z_t_7])) :: (R ++ va_pl NL (nmE nt nu nv nd))) sz) := by
  refine ct_start (QF := fun A => QZ D r ((h_t, .inr (3, [.int t_a, .int t_b, z_t_2, z_t_3, z_t_4, z_t_5, z_t_6, z_t_7])) :: (R ++ va_pl NL (nmE o_nt o_nu o_nv o_nd))) A) ?_ ?_ ?_
  · decide +kernel
  · exact Nat.le_of_ble_eq_true rfl
  intro p e s m args below meth c A ls S hr hlk hnm hS hA hP hD hK hN hl
  have S : CallFix p m c cX3_multiplyByX 2 s args AL "DigitBench$Root" := S
  have hx := S.1
  have hb := S.2.1
  have hown := S.2.2.2.1
  have ha := S.2.2.2.2
  have hl : lv_has ls 2 [(0, .ref h_t), (1, .ref l1)] := hl
  unfold f_X3_multiplyByX at h
  refine lv_aload_n hx hb dX3_multiplyByX_0 rfl (lv_at hl 1 rfl) ?_
  refine lv_aload_n hx hb dX3_multiplyByX_1 rfl (lv_at hl 0 rfl) ?_
  refine va_get (D := D) (ci := 3) (v := .int t_b) (C := RX3) (T := TX3) (N := 8) hx hb ha ix3 hown hK hP 0 rfl rfl 1 (by decide) (ha _ q118) (fun _ h9 => h9) rfl dX3_multiplyByX_2 ?_
  refine lv_i2l (v := t_b.toInt64) hx hb dX3_multiplyByX_5 rfl ?_
  refine lv_aload_n hx hb dX3_multiplyByX_6 rfl (lv_at hl 1 rfl) ?_
  refine xg_num (v := .long (nv l1)) S hK (Y := ((h_t, .inr (3, [.int t_a, .int t_b, z_t_2, z_t_3, z_t_4, z_t_5, z_t_6, z_t_7])) :: R)) hP hm_1 2 (by decide) (ha _ q168) rfl dX3_multiplyByX_7 ?_
  refine lv_lmul hx hb dX3_multiplyByX_10 ?_
  refine lv_aload_n hx hb dX3_multiplyByX_11 rfl (lv_at hl 1 rfl) ?_
  refine xg_num (v := .long (nu l1)) S hK (Y := ((h_t, .inr (3, [.int t_a, .int t_b, z_t_2, z_t_3, z_t_4, z_t_5, z_t_6, z_t_7])) :: R)) hP hm_1 1 (by decide) (ha _ q162) rfl dX3_multiplyByX_12 ?_
  refine lv_aload_n hx hb dX3_multiplyByX_15 rfl (lv_at hl 0 rfl) ?_
  refine va_get (D := D) (ci := 3) (v := .int t_a) (C := RX3) (T := TX3) (N := 8) hx hb ha ix3 hown hK hP 0 rfl rfl 0 (by decide) (ha _ q115) (fun _ h9 => h9) rfl dX3_multiplyByX_16 ?_
  refine lv_i2l (v := t_a.toInt64) hx hb dX3_multiplyByX_19 rfl ?_
  refine lv_aload_n hx hb dX3_multiplyByX_20 rfl (lv_at hl 1 rfl) ?_
  refine xg_num (v := .long (nv l1)) S hK (Y := ((h_t, .inr (3, [.int t_a, .int t_b, z_t_2, z_t_3, z_t_4, z_t_5, z_t_6, z_t_7])) :: R)) hP hm_1 2 (by decide) (ha _ q168) rfl dX3_multiplyByX_21 ?_
  refine lv_lmul hx hb dX3_multiplyByX_24 ?_
  refine lv_ladd hx hb dX3_multiplyByX_25 ?_
  refine lv_aload_n hx hb dX3_multiplyByX_26 rfl (lv_at hl 1 rfl) ?_
  refine xg_num (v := .long (nd l1)) S hK (Y := ((h_t, .inr (3, [.int t_a, .int t_b, z_t_2, z_t_3, z_t_4, z_t_5, z_t_6, z_t_7])) :: R)) hP hm_1 3 (by decide) (ha _ q174) rfl dX3_multiplyByX_27 ?_
  obtain ⟨r_c30_0, nt_c30_0, nu_c30_0, nv_c30_0, nd_c30_0, e_c30_0, h⟩ := bnd5_ok h
  refine cl_z (rn_v (ci := 0) (As := [.long (t_b.toInt64 * (nv l1)), .long ((nu l1) + (t_a.toInt64 * (nv l1))), .long (nd l1)]) (rest := []) S (c_X0_take l D ((h_t, .inr (3, [.int t_a, .int t_b, z_t_2, z_t_3, z_t_4, z_t_5, z_t_6, z_t_7])) :: R) NL nt nu nv nd l1 (t_b.toInt64 * (nv l1)) ((nu l1) + (t_a.toInt64 * (nv l1))) (nd l1) r_c30_0 nt_c30_0 nu_c30_0 nv_c30_0 nd_c30_0 hm_1 e_c30_0 _) q534 q512 q513 q51 q514 nd_X0_take ⟨Nat.le_of_ble_eq_true rfl, Nat.le_of_ble_eq_true rfl⟩ rfl rfl hP hD (hK.sub (tys' := []) [] rfl) hN rfl (rc_num (Y := ((h_t, .inr (3, [.int t_a, .int t_b, z_t_2, z_t_3, z_t_4, z_t_5, z_t_6, z_t_7])) :: R)) hm_1) rfl hl.1 rfl (Nat.le_of_ble_eq_true rfl) dX3_multiplyByX_30 ⟨Nat.le_of_ble_eq_true rfl, Nat.le_of_ble_eq_true rfl⟩) hS hA hD (fun H locs hP hD hS z_c30_0 => ?_)
  have hP : va_P D vwCl ((h_t, .inr (3, [.int t_a, .int t_b, z_t_2, z_t_3, z_t_4, z_t_5, z_t_6, z_t_7])) :: (R ++ va_pl NL (nmE nt_c30_0 nu_c30_0 nv_c30_0 nd_c30_0))) H := hP
  have hD : va_D A ((h_t, .inr (3, [.int t_a, .int t_b, z_t_2, z_t_3, z_t_4, z_t_5, z_t_6, z_t_7])) :: (R ++ va_pl NL (nmE nt_c30_0 nu_c30_0 nv_c30_0 nd_c30_0))) := hD
  cases h
  exact rt_z S hr hlk hP hD hS z_c30_0 dX3_multiplyByX_33
noncomputable def f_X3_divideByX (t_a : Int32) (t_b : Int32) (nt : Nat → Int32) (nu : Nat → Int64) (nv : Nat → Int64) (nd : Nat → Int64) (l1 : Nat) : Option (Int32 × (Nat → Int32) × (Nat → Int64) × (Nat → Int64) × (Nat → Int64)) :=
  if t_b ≤ 0 then (
   bnd5 (f_X0_take nt nu nv nd l1 ((-1 : Int32).toInt64 * ((t_b.toInt64 * (nv l1)) - (t_a.toInt64 * (nu l1)))) ((-1 : Int32).toInt64 * (nu l1)) (((nd l1) * (-1 : Int32).toInt64) * t_b.toInt64)) fun r_c58_1 nt_c58_1 nu_c58_1 nv_c58_1 nd_c58_1 => (
    some (r_c58_1, nt_c58_1, nu_c58_1, nv_c58_1, nd_c58_1)
   )
  ) else (
   bnd5 (f_X0_take nt nu nv nd l1 ((1 : Int32).toInt64 * ((t_b.toInt64 * (nv l1)) - (t_a.toInt64 * (nu l1)))) ((1 : Int32).toInt64 * (nu l1)) (((nd l1) * (1 : Int32).toInt64) * t_b.toInt64)) fun r_c58_2 nt_c58_2 nu_c58_2 nv_c58_2 nd_c58_2 => (
    some (r_c58_2, nt_c58_2, nu_c58_2, nv_c58_2, nd_c58_2)
   )
  )
set_option maxHeartbeats 4000000 in
set_option maxRecDepth 100000 in
theorem c_X3_divideByX (l : Launch) (D : va_G) (R : va_W) (NL : List Nat) (nt : Nat → Int32) (nu : Nat → Int64) (nv : Nat → Int64) (nd : Nat → Int64) (h_t : Nat) (t_a : Int32) (t_b : Int32) (z_t_2 : Value) (z_t_3 : Value) (z_t_4 : Value) (z_t_5 : Value) (z_t_6 : Value) (z_t_7 : Value) (l1 : Nat) (r : Int32) (o_nt : Nat → Int32) (o_nu : Nat → Int64) (o_nv : Nat → Int64) (o_nd : Nat → Int64) (hm_1 : l1 ∈ NL) (h : f_X3_divideByX t_a t_b nt nu nv nd l1 = some (r, o_nt, o_nu, o_nv, o_nd)) (sz : Nat) : Met l yX3_divideByX (WD yX3_divideByX cX3_divideByX 3 (some .boolean)) ({ frames := 3, cells := 0, slots := 0, locals := 85 }) (va_Pc [.ref h_t, .ref l1] (PcW D [] ((h_t, .inr (3, [.int t_a, .int t_b, z_t_2, z_t_3, z_t_4, z_t_5, z_t_6, z_t_7])) :: (R ++ va_pl NL (nmE nt nu nv nd))) sz)) (QZ D r ((h_t, .inr (3, [.int t_a, .int t_b, z_t_2, z_t_3, z_t_4, z_t_5, z_t_6, z_t_7])) :: (R ++ va_pl NL (nmE o_nt o_nu o_nv o_nd))) (va_A ((h_t, .inr (3, [.int t_a, .int t_b, z_t_2, z_t_3, z_t_4, z_t_5, z_t_6, z_t_7])) :: (R ++ va_pl NL (nmE nt nu nv nd))) sz)) 0 0 (va_A ((h_t, .inr (3, [.int t_a, .int t_b, z_t_2, z_t_3, z_t_4, z_t_5, z_t_6, z_t_7])) :: (R ++ va_pl NL (nmE nt nu nv nd))) sz) := by
  refine ct_start (QF := fun A => QZ D r ((h_t, .inr (3, [.int t_a, .int t_b, z_t_2, z_t_3, z_t_4, z_t_5, z_t_6, z_t_7])) :: (R ++ va_pl NL (nmE o_nt o_nu o_nv o_nd))) A) ?_ ?_ ?_
  · decide +kernel
  · exact Nat.le_of_ble_eq_true rfl
  intro p e s m args below meth c A ls S hr hlk hnm hS hA hP hD hK hN hl
  have S : CallFix p m c cX3_divideByX 3 s args AL "DigitBench$Root" := S
  have hx := S.1
  have hb := S.2.1
  have hown := S.2.2.2.1
  have ha := S.2.2.2.2
  have hl : lv_has ls 3 [(0, .ref h_t), (1, .ref l1)] := hl
  unfold f_X3_divideByX at h
  refine lv_aload_n hx hb dX3_divideByX_0 rfl (lv_at hl 0 rfl) ?_
  refine va_get (D := D) (ci := 3) (v := .int t_b) (C := RX3) (T := TX3) (N := 8) hx hb ha ix3 hown hK hP 0 rfl rfl 1 (by decide) (ha _ q118) (fun _ h9 => h9) rfl dX3_divideByX_1 ?_
  refine lv_if_le (tgt := 11) hx hb dX3_divideByX_4 (by decide) (fun c1 => ?_) (fun c1 => ?_)
  · have h := br_pos c1 h
    refine lv_iconst (v := (-1)) hx hb dX3_divideByX_11 (by decide) ?_
    refine lv_istore_n (lv' := [(2, .int (-1)), (0, .ref h_t), (1, .ref l1)]) hx hb dX3_divideByX_12 rfl hl (by decide) rfl (fun ls hl => ?_)
    refine lv_aload_n hx hb dX3_divideByX_13 rfl (lv_at hl 2 rfl) ?_
    refine lv_iload_n hx hb dX3_divideByX_14 rfl (lv_at hl 0 rfl) ?_
    refine lv_i2l (v := (-1 : Int32).toInt64) hx hb dX3_divideByX_15 rfl ?_
    refine lv_aload_n hx hb dX3_divideByX_16 rfl (lv_at hl 1 rfl) ?_
    refine va_get (D := D) (ci := 3) (v := .int t_b) (C := RX3) (T := TX3) (N := 8) hx hb ha ix3 hown hK hP 0 rfl rfl 1 (by decide) (ha _ q118) (fun _ h9 => h9) rfl dX3_divideByX_17 ?_
    refine lv_i2l (v := t_b.toInt64) hx hb dX3_divideByX_20 rfl ?_
    refine lv_aload_n hx hb dX3_divideByX_21 rfl (lv_at hl 2 rfl) ?_
    refine xg_num (v := .long (nv l1)) S hK (Y := ((h_t, .inr (3, [.int t_a, .int t_b, z_t_2, z_t_3, z_t_4, z_t_5, z_t_6, z_t_7])) :: R)) hP hm_1 2 (by decide) (ha _ q168) rfl dX3_divideByX_22 ?_
    refine lv_lmul hx hb dX3_divideByX_25 ?_
    refine lv_aload_n hx hb dX3_divideByX_26 rfl (lv_at hl 1 rfl) ?_
    refine va_get (D := D) (ci := 3) (v := .int t_a) (C := RX3) (T := TX3) (N := 8) hx hb ha ix3 hown hK hP 0 rfl rfl 0 (by decide) (ha _ q115) (fun _ h9 => h9) rfl dX3_divideByX_27 ?_
    refine lv_i2l (v := t_a.toInt64) hx hb dX3_divideByX_30 rfl ?_
    refine lv_aload_n hx hb dX3_divideByX_31 rfl (lv_at hl 2 rfl) ?_
    refine xg_num (v := .long (nu l1)) S hK (Y := ((h_t, .inr (3, [.int t_a, .int t_b, z_t_2, z_t_3, z_t_4, z_t_5, z_t_6, z_t_7])) :: R)) hP hm_1 1 (by decide) (ha _ q162) rfl dX3_divideByX_32 ?_
    refine lv_lmul hx hb dX3_divideByX_35 ?_
    refine lv_lsub hx hb dX3_divideByX_36 ?_
    refine lv_lmul hx hb dX3_divideByX_37 ?_
    refine lv_iload_n hx hb dX3_divideByX_38 rfl (lv_at hl 0 rfl) ?_
    refine lv_i2l (v := (-1 : Int32).toInt64) hx hb dX3_divideByX_39 rfl ?_
    refine lv_aload_n hx hb dX3_divideByX_40 rfl (lv_at hl 2 rfl) ?_
    refine xg_num (v := .long (nu l1)) S hK (Y := ((h_t, .inr (3, [.int t_a, .int t_b, z_t_2, z_t_3, z_t_4, z_t_5, z_t_6, z_t_7])) :: R)) hP hm_1 1 (by decide) (ha _ q162) rfl dX3_divideByX_41 ?_
    refine lv_lmul hx hb dX3_divideByX_44 ?_
    refine lv_aload_n hx hb dX3_divideByX_45 rfl (lv_at hl 2 rfl) ?_
    refine xg_num (v := .long (nd l1)) S hK (Y := ((h_t, .inr (3, [.int t_a, .int t_b, z_t_2, z_t_3, z_t_4, z_t_5, z_t_6, z_t_7])) :: R)) hP hm_1 3 (by decide) (ha _ q174) rfl dX3_divideByX_46 ?_
    refine lv_iload_n hx hb dX3_divideByX_49 rfl (lv_at hl 0 rfl) ?_
    refine lv_i2l (v := (-1 : Int32).toInt64) hx hb dX3_divideByX_50 rfl ?_
    refine lv_lmul hx hb dX3_divideByX_51 ?_
    refine lv_aload_n hx hb dX3_divideByX_52 rfl (lv_at hl 1 rfl) ?_
    refine va_get (D := D) (ci := 3) (v := .int t_b) (C := RX3) (T := TX3) (N := 8) hx hb ha ix3 hown hK hP 0 rfl rfl 1 (by decide) (ha _ q118) (fun _ h9 => h9) rfl dX3_divideByX_53 ?_
    refine lv_i2l (v := t_b.toInt64) hx hb dX3_divideByX_56 rfl ?_
    refine lv_lmul hx hb dX3_divideByX_57 ?_
    obtain ⟨r_c58_1, nt_c58_1, nu_c58_1, nv_c58_1, nd_c58_1, e_c58_1, h⟩ := bnd5_ok h
    refine cl_z (rn_v (ci := 0) (As := [.long ((-1 : Int32).toInt64 * ((t_b.toInt64 * (nv l1)) - (t_a.toInt64 * (nu l1)))), .long ((-1 : Int32).toInt64 * (nu l1)), .long (((nd l1) * (-1 : Int32).toInt64) * t_b.toInt64)]) (rest := []) S (c_X0_take l D ((h_t, .inr (3, [.int t_a, .int t_b, z_t_2, z_t_3, z_t_4, z_t_5, z_t_6, z_t_7])) :: R) NL nt nu nv nd l1 ((-1 : Int32).toInt64 * ((t_b.toInt64 * (nv l1)) - (t_a.toInt64 * (nu l1)))) ((-1 : Int32).toInt64 * (nu l1)) (((nd l1) * (-1 : Int32).toInt64) * t_b.toInt64) r_c58_1 nt_c58_1 nu_c58_1 nv_c58_1 nd_c58_1 hm_1 e_c58_1 _) q534 q512 q513 q51 q514 nd_X0_take ⟨Nat.le_of_ble_eq_true rfl, Nat.le_of_ble_eq_true rfl⟩ rfl rfl hP hD (hK.sub (tys' := []) [] rfl) hN rfl (rc_num (Y := ((h_t, .inr (3, [.int t_a, .int t_b, z_t_2, z_t_3, z_t_4, z_t_5, z_t_6, z_t_7])) :: R)) hm_1) rfl hl.1 rfl (Nat.le_of_ble_eq_true rfl) dX3_divideByX_58 ⟨Nat.le_of_ble_eq_true rfl, Nat.le_of_ble_eq_true rfl⟩) hS hA hD (fun H locs hP hD hS z_c58_1 => ?_)
    have hP : va_P D vwCl ((h_t, .inr (3, [.int t_a, .int t_b, z_t_2, z_t_3, z_t_4, z_t_5, z_t_6, z_t_7])) :: (R ++ va_pl NL (nmE nt_c58_1 nu_c58_1 nv_c58_1 nd_c58_1))) H := hP
    have hD : va_D A ((h_t, .inr (3, [.int t_a, .int t_b, z_t_2, z_t_3, z_t_4, z_t_5, z_t_6, z_t_7])) :: (R ++ va_pl NL (nmE nt_c58_1 nu_c58_1 nv_c58_1 nd_c58_1))) := hD
    cases h
    exact rt_z S hr hlk hP hD hS z_c58_1 dX3_divideByX_61
  · have h := br_neg c1 h
    refine lv_iconst (v := 1) hx hb dX3_divideByX_7 (by decide) ?_
    refine lv_goto (tgt := 12) hx hb dX3_divideByX_8 (by decide) ?_
    refine lv_istore_n (lv' := [(2, .int 1), (0, .ref h_t), (1, .ref l1)]) hx hb dX3_divideByX_12 rfl hl (by decide) rfl (fun ls hl => ?_)
    refine lv_aload_n hx hb dX3_divideByX_13 rfl (lv_at hl 2 rfl) ?_
    refine lv_iload_n hx hb dX3_divideByX_14 rfl (lv_at hl 0 rfl) ?_
    refine lv_i2l (v := (1 : Int32).toInt64) hx hb dX3_divideByX_15 rfl ?_
    refine lv_aload_n hx hb dX3_divideByX_16 rfl (lv_at hl 1 rfl) ?_
    refine va_get (D := D) (ci := 3) (v := .int t_b) (C := RX3) (T := TX3) (N := 8) hx hb ha ix3 hown hK hP 0 rfl rfl 1 (by decide) (ha _ q118) (fun _ h9 => h9) rfl dX3_divideByX_17 ?_
    refine lv_i2l (v := t_b.toInt64) hx hb dX3_divideByX_20 rfl ?_
    refine lv_aload_n hx hb dX3_divideByX_21 rfl (lv_at hl 2 rfl) ?_
    refine xg_num (v := .long (nv l1)) S hK (Y := ((h_t, .inr (3, [.int t_a, .int t_b, z_t_2, z_t_3, z_t_4, z_t_5, z_t_6, z_t_7])) :: R)) hP hm_1 2 (by decide) (ha _ q168) rfl dX3_divideByX_22 ?_
    refine lv_lmul hx hb dX3_divideByX_25 ?_
    refine lv_aload_n hx hb dX3_divideByX_26 rfl (lv_at hl 1 rfl) ?_
    refine va_get (D := D) (ci := 3) (v := .int t_a) (C := RX3) (T := TX3) (N := 8) hx hb ha ix3 hown hK hP 0 rfl rfl 0 (by decide) (ha _ q115) (fun _ h9 => h9) rfl dX3_divideByX_27 ?_
    refine lv_i2l (v := t_a.toInt64) hx hb dX3_divideByX_30 rfl ?_
    refine lv_aload_n hx hb dX3_divideByX_31 rfl (lv_at hl 2 rfl) ?_
    refine xg_num (v := .long (nu l1)) S hK (Y := ((h_t, .inr (3, [.int t_a, .int t_b, z_t_2, z_t_3, z_t_4, z_t_5, z_t_6, z_t_7])) :: R)) hP hm_1 1 (by decide) (ha _ q162) rfl dX3_divideByX_32 ?_
    refine lv_lmul hx hb dX3_divideByX_35 ?_
    refine lv_lsub hx hb dX3_divideByX_36 ?_
    refine lv_lmul hx hb dX3_divideByX_37 ?_
    refine lv_iload_n hx hb dX3_divideByX_38 rfl (lv_at hl 0 rfl) ?_
    refine lv_i2l (v := (1 : Int32).toInt64) hx hb dX3_divideByX_39 rfl ?_
    refine lv_aload_n hx hb dX3_divideByX_40 rfl (lv_at hl 2 rfl) ?_
    refine xg_num (v := .long (nu l1)) S hK (Y := ((h_t, .inr (3, [.int t_a, .int t_b, z_t_2, z_t_3, z_t_4, z_t_5, z_t_6, z_t_7])) :: R)) hP hm_1 1 (by decide) (ha _ q162) rfl dX3_divideByX_41 ?_
    refine lv_lmul hx hb dX3_divideByX_44 ?_
    refine lv_aload_n hx hb dX3_divideByX_45 rfl (lv_at hl 2 rfl) ?_
    refine xg_num (v := .long (nd l1)) S hK (Y := ((h_t, .inr (3, [.int t_a, .int t_b, z_t_2, z_t_3, z_t_4, z_t_5, z_t_6, z_t_7])) :: R)) hP hm_1 3 (by decide) (ha _ q174) rfl dX3_divideByX_46 ?_
    refine lv_iload_n hx hb dX3_divideByX_49 rfl (lv_at hl 0 rfl) ?_
    refine lv_i2l (v := (1 : Int32).toInt64) hx hb dX3_divideByX_50 rfl ?_
    refine lv_lmul hx hb dX3_divideByX_51 ?_
    refine lv_aload_n hx hb dX3_divideByX_52 rfl (lv_at hl 1 rfl) ?_
    refine va_get (D := D) (ci := 3) (v := .int t_b) (C := RX3) (T := TX3) (N := 8) hx hb ha ix3 hown hK hP 0 rfl rfl 1 (by decide) (ha _ q118) (fun _ h9 => h9) rfl dX3_divideByX_53 ?_
    refine lv_i2l (v := t_b.toInt64) hx hb dX3_divideByX_56 rfl ?_
    refine lv_lmul hx hb dX3_divideByX_57 ?_
    obtain ⟨r_c58_2, nt_c58_2, nu_c58_2, nv_c58_2, nd_c58_2, e_c58_2, h⟩ := bnd5_ok h
    refine cl_z (rn_v (ci := 0) (As := [.long ((1 : Int32).toInt64 * ((t_b.toInt64 * (nv l1)) - (t_a.toInt64 * (nu l1)))), .long ((1 : Int32).toInt64 * (nu l1)), .long (((nd l1) * (1 : Int32).toInt64) * t_b.toInt64)]) (rest := []) S (c_X0_take l D ((h_t, .inr (3, [.int t_a, .int t_b, z_t_2, z_t_3, z_t_4, z_t_5, z_t_6, z_t_7])) :: R) NL nt nu nv nd l1 ((1 : Int32).toInt64 * ((t_b.toInt64 * (nv l1)) - (t_a.toInt64 * (nu l1)))) ((1 : Int32).toInt64 * (nu l1)) (((nd l1) * (1 : Int32).toInt64) * t_b.toInt64) r_c58_2 nt_c58_2 nu_c58_2 nv_c58_2 nd_c58_2 hm_1 e_c58_2 _) q534 q512 q513 q51 q514 nd_X0_take ⟨Nat.le_of_ble_eq_true rfl, Nat.le_of_ble_eq_true rfl⟩ rfl rfl hP hD (hK.sub (tys' := []) [] rfl) hN rfl (rc_num (Y := ((h_t, .inr (3, [.int t_a, .int t_b, z_t_2, z_t_3, z_t_4, z_t_5, z_t_6, z_t_7])) :: R)) hm_1) rfl hl.1 rfl (Nat.le_of_ble_eq_true rfl) dX3_divideByX_58 ⟨Nat.le_of_ble_eq_true rfl, Nat.le_of_ble_eq_true rfl⟩) hS hA hD (fun H locs hP hD hS z_c58_2 => ?_)
    have hP : va_P D vwCl ((h_t, .inr (3, [.int t_a, .int t_b, z_t_2, z_t_3, z_t_4, z_t_5, z_t_6, z_t_7])) :: (R ++ va_pl NL (nmE nt_c58_2 nu_c58_2 nv_c58_2 nd_c58_2))) H := hP
    have hD : va_D A ((h_t, .inr (3, [.int t_a, .int t_b, z_t_2, z_t_3, z_t_4, z_t_5, z_t_6, z_t_7])) :: (R ++ va_pl NL (nmE nt_c58_2 nu_c58_2 nv_c58_2 nd_c58_2))) := hD
    cases h
    exact rt_z S hr hlk hP hD hS z_c58_2 dX3_divideByX_61
noncomputable def f_X3_putWhole_L24 (t_powerU : Nat → Int64) (t_powerV : Nat → Int64) (t_rowCounts : Nat → Int64) : Nat → Int64 → Int64 → Int64 → Int32 →  Option (Int64 × Int64)
  | 0, _, _, _, _ => none
  | n + 1, l3, l5, l7, l9 => (
    if l9 < 0 then (
     some (l5, l7)
    ) else (
     gd (ixb l9 48) (
      if (t_rowCounts l9.toNatClampNeg) ≤ 0 then (
       f_X3_putWhole_L24 t_powerU t_powerV t_rowCounts n l3 l5 l7 (l9 + (-1))
      ) else (
       gd (ixb l9 48) (
        gd (nzL (t_rowCounts l9.toNatClampNeg)) (
         gd (ixb l9 48) (
          gd (ixb l9 48) (
           gd (ixb l9 48) (
            f_X3_putWhole_L24 t_powerU t_powerV t_rowCounts n (l3 - ((l3 / (t_rowCounts l9.toNatClampNeg)) * (t_rowCounts l9.toNatClampNeg))) (l5 + ((l3 / (t_rowCounts l9.toNatClampNeg)) * (t_powerU l9.toNatClampNeg))) (l7 + ((l3 / (t_rowCounts l9.toNatClampNeg)) * (t_powerV l9.toNatClampNeg))) (l9 + (-1))
           )
          )
         )
        )
       )
      )
     )
    ))
noncomputable def f_X3_putWhole (t_powers : Int32) (t_counted : Int32) (t_powerU : Nat → Int64) (t_powerV : Nat → Int64) (t_rowCounts : Nat → Int64) (nt : Nat → Int32) (nu : Nat → Int64) (nv : Nat → Int64) (nd : Nat → Int64) (l1 : Nat) (l2 : Int32) : Option (Int32 × (Nat → Int32) × (Nat → Int64) × (Nat → Int64) × (Nat → Int64)) :=
  bnd1 (f_J9_min_7cf53 t_counted t_powers) fun r_c17_0 => (
   bnd2 (f_X3_putWhole_L24 t_powerU t_powerV t_rowCounts FU l2.toInt64 0 0 (r_c17_0 - 1)) fun x5_L24_9 x7_L24_9 => (
    bnd5 (f_X0_take nt nu nv nd l1 x5_L24_9 x7_L24_9 1) fun r_c107_10 nt_c107_10 nu_c107_10 nv_c107_10 nd_c107_10 => (
     some (r_c107_10, nt_c107_10, nu_c107_10, nv_c107_10, nd_c107_10)
    )
   )
  )
set_option maxHeartbeats 4000000 in
set_option maxRecDepth 100000 in
theorem c_X3_putWhole (l : Launch) (D : va_G) (R : va_W) (NL : List Nat) (nt : Nat → Int32) (nu : Nat → Int64) (nv : Nat → Int64) (nd : Nat → Int64) (h_t : Nat) (z_t_0 : Value) (z_t_1 : Value) (z_t_2 : Value) (t_powers : Int32) (t_counted : Int32) (h_t_powerU : Nat) (k_t_powerU : ClassId) (t_powerU : Nat → Int64) (h_t_powerV : Nat) (k_t_powerV : ClassId) (t_powerV : Nat → Int64) (h_t_rowCounts : Nat) (k_t_rowCounts : ClassId) (t_rowCounts : Nat → Int64) (l1 : Nat) (l2 : Int32) (r : Int32) (o_nt : Nat → Int32) (o_nu : Nat → Int64) (o_nv : Nat → Int64) (o_nd : Nat → Int64) (hm_1 : l1 ∈ NL) (h : f_X3_putWhole t_powers t_counted t_powerU t_powerV t_rowCounts nt nu nv nd l1 l2 = some (r, o_nt, o_nu, o_nv, o_nd)) (sz : Nat) : Met l yX3_putWhole (WD yX3_putWhole cX3_putWhole 12 (some .boolean)) ({ frames := 3, cells := 0, slots := 0, locals := 85 }) (va_Pc [.ref h_t, .ref l1, .int l2] (PcW D [(k_t_powerU, .long), (k_t_powerV, .long), (k_t_rowCounts, .long)] ((h_t, .inr (3, [z_t_0, z_t_1, z_t_2, .ref h_t_powerU, .ref h_t_powerV, .ref h_t_rowCounts, .int t_powers, .int t_counted])) :: (h_t_powerU, .inl (k_t_powerU, 48, .inr (.inl t_powerU))) :: (h_t_powerV, .inl (k_t_powerV, 48, .inr (.inl t_powerV))) :: (h_t_rowCounts, .inl (k_t_rowCounts, 48, .inr (.inl t_rowCounts))) :: (R ++ va_pl NL (nmE nt nu nv nd))) sz)) (QZ D r ((h_t, .inr (3, [z_t_0, z_t_1, z_t_2, .ref h_t_powerU, .ref h_t_powerV, .ref h_t_rowCounts, .int t_powers, .int t_counted])) :: (h_t_powerU, .inl (k_t_powerU, 48, .inr (.inl t_powerU))) :: (h_t_powerV, .inl (k_t_powerV, 48, .inr (.inl t_powerV))) :: (h_t_rowCounts, .inl (k_t_rowCounts, 48, .inr (.inl t_rowCounts))) :: (R ++ va_pl NL (nmE o_nt o_nu o_nv o_nd))) (va_A ((h_t, .inr (3, [z_t_0, z_t_1, z_t_2, .ref h_t_powerU, .ref h_t_powerV, .ref h_t_rowCounts, .int t_powers, .int t_counted])) :: (h_t_powerU, .inl (k_t_powerU, 48, .inr (.inl t_powerU))) :: (h_t_powerV, .inl (k_t_powerV, 48, .inr (.inl t_powerV))) :: (h_t_rowCounts, .inl (k_t_rowCounts, 48, .inr (.inl t_rowCounts))) :: (R ++ va_pl NL (nmE nt nu nv nd))) sz)) 0 0 (va_A ((h_t, .inr (3, [z_t_0, z_t_1, z_t_2, .ref h_t_powerU, .ref h_t_powerV, .ref h_t_rowCounts, .int t_powers, .int t_counted])) :: (h_t_powerU, .inl (k_t_powerU, 48, .inr (.inl t_powerU))) :: (h_t_powerV, .inl (k_t_powerV, 48, .inr (.inl t_powerV))) :: (h_t_rowCounts, .inl (k_t_rowCounts, 48, .inr (.inl t_rowCounts))) :: (R ++ va_pl NL (nmE nt nu nv nd))) sz) := by
  refine ct_start (QF := fun A => QZ D r ((h_t, .inr (3, [z_t_0, z_t_1, z_t_2, .ref h_t_powerU, .ref h_t_powerV, .ref h_t_rowCounts, .int t_powers, .int t_counted])) :: (h_t_powerU, .inl (k_t_powerU, 48, .inr (.inl t_powerU))) :: (h_t_powerV, .inl (k_t_powerV, 48, .inr (.inl t_powerV))) :: (h_t_rowCounts, .inl (k_t_rowCounts, 48, .inr (.inl t_rowCounts))) :: (R ++ va_pl NL (nmE o_nt o_nu o_nv o_nd))) A) ?_ ?_ ?_
  · decide +kernel
  · exact Nat.le_of_ble_eq_true rfl
  intro p e s m args below meth c A ls S hr hlk hnm hS hA hP hD hK hN hl
  have S : CallFix p m c cX3_putWhole 12 s args AL "DigitBench$Root" := S
  have hx := S.1
  have hb := S.2.1
  have hown := S.2.2.2.1
  have ha := S.2.2.2.2
  have hl : lv_has ls 12 [(0, .ref h_t), (1, .ref l1), (2, .int l2)] := hl
  have L24 : ∀ (Q : State → Prop) (n : Nat) (l3 : Int64) (l5 : Int64) (l7 : Int64) (l9 : Int32) (nt : Nat → Int32) (nu : Nat → Int64) (nv : Nat → Int64) (nd : Nat → Int64) (x5 : Int64) (x7 : Int64), f_X3_putWhole_L24 t_powerU t_powerV t_rowCounts n l3 l5 l7 l9 = some (x5, x7) → ∀ (H : Heap) (locs : List Loc) (ls : Array Slot), va_P D vwCl ((h_t, .inr (3, [z_t_0, z_t_1, z_t_2, .ref h_t_powerU, .ref h_t_powerV, .ref h_t_rowCounts, .int t_powers, .int t_counted])) :: (h_t_powerU, .inl (k_t_powerU, 48, .inr (.inl t_powerU))) :: (h_t_powerV, .inl (k_t_powerV, 48, .inr (.inl t_powerV))) :: (h_t_rowCounts, .inl (k_t_rowCounts, 48, .inr (.inl t_rowCounts))) :: (R ++ va_pl NL (nmE nt nu nv nd))) H → va_D A ((h_t, .inr (3, [z_t_0, z_t_1, z_t_2, .ref h_t_powerU, .ref h_t_powerV, .ref h_t_rowCounts, .int t_powers, .int t_counted])) :: (h_t_powerU, .inl (k_t_powerU, 48, .inr (.inl t_powerU))) :: (h_t_powerV, .inl (k_t_powerV, 48, .inr (.inl t_powerV))) :: (h_t_rowCounts, .inl (k_t_rowCounts, 48, .inr (.inl t_rowCounts))) :: (R ++ va_pl NL (nmE nt nu nv nd))) → va_S A s.heap H locs → lv_has ls 12 [(0, .ref h_t), (1, .ref l1), (3, .long l3), (5, .long l5), (7, .long l7), (9, .int l9)] → (∀ (H : Heap) (locs : List Loc) (ls : Array Slot), va_P D vwCl ((h_t, .inr (3, [z_t_0, z_t_1, z_t_2, .ref h_t_powerU, .ref h_t_powerV, .ref h_t_rowCounts, .int t_powers, .int t_counted])) :: (h_t_powerU, .inl (k_t_powerU, 48, .inr (.inl t_powerU))) :: (h_t_powerV, .inl (k_t_powerV, 48, .inr (.inl t_powerV))) :: (h_t_rowCounts, .inl (k_t_rowCounts, 48, .inr (.inl t_rowCounts))) :: (R ++ va_pl NL (nmE nt nu nv nd))) H → va_D A ((h_t, .inr (3, [z_t_0, z_t_1, z_t_2, .ref h_t_powerU, .ref h_t_powerV, .ref h_t_rowCounts, .int t_powers, .int t_counted])) :: (h_t_powerU, .inl (k_t_powerU, 48, .inr (.inl t_powerU))) :: (h_t_powerV, .inl (k_t_powerV, 48, .inr (.inl t_powerV))) :: (h_t_rowCounts, .inl (k_t_rowCounts, 48, .inr (.inl t_rowCounts))) :: (R ++ va_pl NL (nmE nt nu nv nd))) → va_S A s.heap H locs → lv_has ls 12 [(1, .ref l1), (5, .long x5), (7, .long x7)] → W p l e { frames := 3, cells := 0, slots := 0, locals := 85 } s m args below meth c H locs 0 0 Q (F0 m 101 ls [])) → W p l e { frames := 3, cells := 0, slots := 0, locals := 85 } s m args below meth c H locs 0 0 Q (F0 m 24 ls []) := by
    intro Q n
    induction n with
    | zero =>
      intro l3 l5 l7 l9 nt nu nv nd x5 x7 h
      rw [f_X3_putWhole_L24] at h; cases h
    | succ n ih =>
      intro l3 l5 l7 l9 nt nu nv nd x5 x7 h H locs ls hP hD hS hl kk0
      rw [f_X3_putWhole_L24] at h
      refine lv_iload hx hb dX3_putWhole_24 (lv_at hl 5 rfl) ?_
      refine lv_if_lt (tgt := 101) hx hb dX3_putWhole_26 (by decide) (fun c2 => ?_) (fun c2 => ?_)
      · have h := br_pos c2 h
        cases h
        exact kk0 _ _ _ hP hD hS (lv_sub hl [1, 3, 4] rfl)
      · have h := br_neg c2 h
        refine lv_aload_n hx hb dX3_putWhole_29 rfl (lv_at hl 0 rfl) ?_
        refine va_get (D := D) (ci := 3) (v := .ref h_t_rowCounts) (C := RX3) (T := TX3) (N := 8) hx hb ha ix3 hown hK hP 0 rfl rfl 5 (by decide) (ha _ q126) (fun _ h9 => h9) rfl dX3_putWhole_30 ?_
        refine lv_iload hx hb dX3_putWhole_33 (lv_at hl 5 rfl) ?_
        obtain ⟨i3, h⟩ := ix_ok h
        refine va_lald hx hb hK hP 3 2 rfl rfl i3 dX3_putWhole_35 ?_
        refine lv_lconst (v := 0) hx hb dX3_putWhole_36 (by decide) ?_
        refine xl_le (tgt := 95) hx hb dX3_putWhole_37 dX3_putWhole_38 (by decide) (fun c4 => ?_) (fun c4 => ?_)
        · have h := br_pos c4 h
          refine lv_iinc (v := (l9 + (-1))) (lv' := [(9, .int (l9 + (-1))), (0, .ref h_t), (1, .ref l1), (3, .long l3), (5, .long l5), (7, .long l7)]) hx hb dX3_putWhole_95 hl (k := 5) rfl rfl (by decide) rfl (fun ls hl => ?_)
          refine lv_goto (tgt := 24) hx hb dX3_putWhole_98 (by decide) ?_
          exact ih l3 l5 l7 (l9 + (-1)) nt nu nv nd _ _ h _ _ _ hP hD hS (lv_sub hl [1, 2, 3, 4, 5, 0] rfl) kk0
        · have h := br_neg c4 h
          refine lv_lload_n hx hb dX3_putWhole_41 rfl (lv_at hl 2 rfl) ?_
          refine lv_aload_n hx hb dX3_putWhole_42 rfl (lv_at hl 0 rfl) ?_
          refine va_get (D := D) (ci := 3) (v := .ref h_t_rowCounts) (C := RX3) (T := TX3) (N := 8) hx hb ha ix3 hown hK hP 0 rfl rfl 5 (by decide) (ha _ q126) (fun _ h9 => h9) rfl dX3_putWhole_43 ?_
          refine lv_iload hx hb dX3_putWhole_46 (lv_at hl 5 rfl) ?_
          obtain ⟨i5, h⟩ := ix_ok h
          refine va_lald hx hb hK hP 3 2 rfl rfl i5 dX3_putWhole_48 ?_
          obtain ⟨n6, h⟩ := nzL_ok h
          refine lv_ldiv hx hb dX3_putWhole_49 n6 ?_
          refine lv_lstore (lv' := [(10, .long (l3 / (t_rowCounts l9.toNatClampNeg))), (0, .ref h_t), (1, .ref l1), (3, .long l3), (5, .long l5), (7, .long l7), (9, .int l9)]) hx hb dX3_putWhole_50 hl (by decide) rfl (fun ls hl => ?_)
          refine lv_lload_n hx hb dX3_putWhole_52 rfl (lv_at hl 3 rfl) ?_
          refine lv_lload hx hb dX3_putWhole_53 (lv_at hl 0 rfl) ?_
          refine lv_aload_n hx hb dX3_putWhole_55 rfl (lv_at hl 1 rfl) ?_
          refine va_get (D := D) (ci := 3) (v := .ref h_t_rowCounts) (C := RX3) (T := TX3) (N := 8) hx hb ha ix3 hown hK hP 0 rfl rfl 5 (by decide) (ha _ q126) (fun _ h9 => h9) rfl dX3_putWhole_56 ?_
          refine lv_iload hx hb dX3_putWhole_59 (lv_at hl 6 rfl) ?_
          obtain ⟨i7, h⟩ := ix_ok h
          refine va_lald hx hb hK hP 3 2 rfl rfl i7 dX3_putWhole_61 ?_
          refine lv_lmul hx hb dX3_putWhole_62 ?_
          refine lv_lsub hx hb dX3_putWhole_63 ?_
          refine lv_lstore_n (lv' := [(3, .long (l3 - ((l3 / (t_rowCounts l9.toNatClampNeg)) * (t_rowCounts l9.toNatClampNeg)))), (10, .long (l3 / (t_rowCounts l9.toNatClampNeg))), (0, .ref h_t), (1, .ref l1), (5, .long l5), (7, .long l7), (9, .int l9)]) hx hb dX3_putWhole_64 rfl hl (by decide) rfl (fun ls hl => ?_)
          refine lv_lload hx hb dX3_putWhole_65 (lv_at hl 4 rfl) ?_
          refine lv_lload hx hb dX3_putWhole_67 (lv_at hl 1 rfl) ?_
          refine lv_aload_n hx hb dX3_putWhole_69 rfl (lv_at hl 2 rfl) ?_
          refine va_get (D := D) (ci := 3) (v := .ref h_t_powerU) (C := RX3) (T := TX3) (N := 8) hx hb ha ix3 hown hK hP 0 rfl rfl 3 (by decide) (ha _ q122) (fun _ h9 => h9) rfl dX3_putWhole_70 ?_
          refine lv_iload hx hb dX3_putWhole_73 (lv_at hl 6 rfl) ?_
          obtain ⟨i8, h⟩ := ix_ok h
          refine va_lald hx hb hK hP 1 0 rfl rfl i8 dX3_putWhole_75 ?_
          refine lv_lmul hx hb dX3_putWhole_76 ?_
          refine lv_ladd hx hb dX3_putWhole_77 ?_
          refine lv_lstore (lv' := [(5, .long (l5 + ((l3 / (t_rowCounts l9.toNatClampNeg)) * (t_powerU l9.toNatClampNeg)))), (3, .long (l3 - ((l3 / (t_rowCounts l9.toNatClampNeg)) * (t_rowCounts l9.toNatClampNeg)))), (10, .long (l3 / (t_rowCounts l9.toNatClampNeg))), (0, .ref h_t), (1, .ref l1), (7, .long l7), (9, .int l9)]) hx hb dX3_putWhole_78 hl (by decide) rfl (fun ls hl => ?_)
          refine lv_lload hx hb dX3_putWhole_80 (lv_at hl 5 rfl) ?_
          refine lv_lload hx hb dX3_putWhole_82 (lv_at hl 2 rfl) ?_
          refine lv_aload_n hx hb dX3_putWhole_84 rfl (lv_at hl 3 rfl) ?_
          refine va_get (D := D) (ci := 3) (v := .ref h_t_powerV) (C := RX3) (T := TX3) (N := 8) hx hb ha ix3 hown hK hP 0 rfl rfl 4 (by decide) (ha _ q124) (fun _ h9 => h9) rfl dX3_putWhole_85 ?_
          refine lv_iload hx hb dX3_putWhole_88 (lv_at hl 6 rfl) ?_
          obtain ⟨i9, h⟩ := ix_ok h
          refine va_lald hx hb hK hP 2 1 rfl rfl i9 dX3_putWhole_90 ?_
          refine lv_lmul hx hb dX3_putWhole_91 ?_
          refine lv_ladd hx hb dX3_putWhole_92 ?_
          refine lv_lstore (lv' := [(7, .long (l7 + ((l3 / (t_rowCounts l9.toNatClampNeg)) * (t_powerV l9.toNatClampNeg)))), (5, .long (l5 + ((l3 / (t_rowCounts l9.toNatClampNeg)) * (t_powerU l9.toNatClampNeg)))), (3, .long (l3 - ((l3 / (t_rowCounts l9.toNatClampNeg)) * (t_rowCounts l9.toNatClampNeg)))), (10, .long (l3 / (t_rowCounts l9.toNatClampNeg))), (0, .ref h_t), (1, .ref l1), (9, .int l9)]) hx hb dX3_putWhole_93 hl (by decide) rfl (fun ls hl => ?_)
          refine lv_iinc (v := (l9 + (-1))) (lv' := [(9, .int (l9 + (-1))), (7, .long (l7 + ((l3 / (t_rowCounts l9.toNatClampNeg)) * (t_powerV l9.toNatClampNeg)))), (5, .long (l5 + ((l3 / (t_rowCounts l9.toNatClampNeg)) * (t_powerU l9.toNatClampNeg)))), (3, .long (l3 - ((l3 / (t_rowCounts l9.toNatClampNeg)) * (t_rowCounts l9.toNatClampNeg)))), (10, .long (l3 / (t_rowCounts l9.toNatClampNeg))), (0, .ref h_t), (1, .ref l1)]) hx hb dX3_putWhole_95 hl (k := 6) rfl rfl (by decide) rfl (fun ls hl => ?_)
          refine lv_goto (tgt := 24) hx hb dX3_putWhole_98 (by decide) ?_
          exact ih (l3 - ((l3 / (t_rowCounts l9.toNatClampNeg)) * (t_rowCounts l9.toNatClampNeg))) (l5 + ((l3 / (t_rowCounts l9.toNatClampNeg)) * (t_powerU l9.toNatClampNeg))) (l7 + ((l3 / (t_rowCounts l9.toNatClampNeg)) * (t_powerV l9.toNatClampNeg))) (l9 + (-1)) nt nu nv nd _ _ h _ _ _ hP hD hS (lv_sub hl [5, 6, 3, 2, 1, 0] rfl) kk0
  unfold f_X3_putWhole at h
  refine lv_iload_n hx hb dX3_putWhole_0 rfl (lv_at hl 2 rfl) ?_
  refine lv_i2l (v := l2.toInt64) hx hb dX3_putWhole_1 rfl ?_
  refine lv_lstore_n (lv' := [(3, .long l2.toInt64), (0, .ref h_t), (1, .ref l1), (2, .int l2)]) hx hb dX3_putWhole_2 rfl hl (by decide) rfl (fun ls hl => ?_)
  refine lv_lconst (v := 0) hx hb dX3_putWhole_3 (by decide) ?_
  refine lv_lstore (lv' := [(5, .long 0), (3, .long l2.toInt64), (0, .ref h_t), (1, .ref l1), (2, .int l2)]) hx hb dX3_putWhole_4 hl (by decide) rfl (fun ls hl => ?_)
  refine lv_lconst (v := 0) hx hb dX3_putWhole_6 (by decide) ?_
  refine lv_lstore (lv' := [(7, .long 0), (5, .long 0), (3, .long l2.toInt64), (0, .ref h_t), (1, .ref l1), (2, .int l2)]) hx hb dX3_putWhole_7 hl (by decide) rfl (fun ls hl => ?_)
  refine lv_aload_n hx hb dX3_putWhole_9 rfl (lv_at hl 3 rfl) ?_
  refine va_get (D := D) (ci := 3) (v := .int t_counted) (C := RX3) (T := TX3) (N := 8) hx hb ha ix3 hown hK hP 0 rfl rfl 7 (by decide) (ha _ q129) (fun _ h9 => h9) rfl dX3_putWhole_10 ?_
  refine lv_aload_n hx hb dX3_putWhole_13 rfl (lv_at hl 3 rfl) ?_
  refine va_get (D := D) (ci := 3) (v := .int t_powers) (C := RX3) (T := TX3) (N := 8) hx hb ha ix3 hown hK hP 0 rfl rfl 6 (by decide) (ha _ q127) (fun _ h9 => h9) rfl dX3_putWhole_14 ?_
  obtain ⟨r_c17_0, e_c17_0, h⟩ := bnd1_ok h
  refine cl_i (rn_s (As := [.int t_counted, .int t_powers]) (rest := []) S (c_J9_min_7cf53 l D ((h_t, .inr (3, [z_t_0, z_t_1, z_t_2, .ref h_t_powerU, .ref h_t_powerV, .ref h_t_rowCounts, .int t_powers, .int t_counted])) :: (h_t_powerU, .inl (k_t_powerU, 48, .inr (.inl t_powerU))) :: (h_t_powerV, .inl (k_t_powerV, 48, .inr (.inl t_powerV))) :: (h_t_rowCounts, .inl (k_t_rowCounts, 48, .inr (.inl t_rowCounts))) :: (R ++ va_pl NL (nmE nt nu nv nd))) t_counted t_powers r_c17_0 e_c17_0 _) q715 q579 q58 q580 nd_J9_min_7cf53 ⟨Nat.le_of_ble_eq_true rfl, Nat.le_of_ble_eq_true rfl⟩ rfl rfl hP hD (hK.sub (tys' := []) [] rfl) hN rfl hl.1 rfl (Nat.le_of_ble_eq_true rfl) dX3_putWhole_17 ⟨Nat.le_of_ble_eq_true rfl, Nat.le_of_ble_eq_true rfl⟩) hS hA hD (fun H locs hP hD hS => ?_)
  have hP : va_P D vwCl ((h_t, .inr (3, [z_t_0, z_t_1, z_t_2, .ref h_t_powerU, .ref h_t_powerV, .ref h_t_rowCounts, .int t_powers, .int t_counted])) :: (h_t_powerU, .inl (k_t_powerU, 48, .inr (.inl t_powerU))) :: (h_t_powerV, .inl (k_t_powerV, 48, .inr (.inl t_powerV))) :: (h_t_rowCounts, .inl (k_t_rowCounts, 48, .inr (.inl t_rowCounts))) :: (R ++ va_pl NL (nmE nt nu nv nd))) H := hP
  have hD : va_D A ((h_t, .inr (3, [z_t_0, z_t_1, z_t_2, .ref h_t_powerU, .ref h_t_powerV, .ref h_t_rowCounts, .int t_powers, .int t_counted])) :: (h_t_powerU, .inl (k_t_powerU, 48, .inr (.inl t_powerU))) :: (h_t_powerV, .inl (k_t_powerV, 48, .inr (.inl t_powerV))) :: (h_t_rowCounts, .inl (k_t_rowCounts, 48, .inr (.inl t_rowCounts))) :: (R ++ va_pl NL (nmE nt nu nv nd))) := hD
  refine lv_iconst (v := 1) hx hb dX3_putWhole_20 (by decide) ?_
  refine lv_isub hx hb dX3_putWhole_21 ?_
  refine lv_istore (lv' := [(9, .int (r_c17_0 - 1)), (7, .long 0), (5, .long 0), (3, .long l2.toInt64), (0, .ref h_t), (1, .ref l1), (2, .int l2)]) hx hb dX3_putWhole_22 hl (by decide) rfl (fun ls hl => ?_)
  obtain ⟨x5_L24_9, x7_L24_9, e_L24_9, h⟩ := bnd2_ok h
  refine L24 _ _ l2.toInt64 0 0 (r_c17_0 - 1) nt nu nv nd x5_L24_9 x7_L24_9 e_L24_9 _ _ _ hP hD hS (lv_sub hl [4, 5, 3, 2, 1, 0] rfl) ?_
  intro H locs ls hP hD hS hl
  refine lv_aload_n hx hb dX3_putWhole_101 rfl (lv_at hl 0 rfl) ?_
  refine lv_lload hx hb dX3_putWhole_102 (lv_at hl 1 rfl) ?_
  refine lv_lload hx hb dX3_putWhole_104 (lv_at hl 2 rfl) ?_
  refine lv_lconst (v := 1) hx hb dX3_putWhole_106 (by decide) ?_
  obtain ⟨r_c107_10, nt_c107_10, nu_c107_10, nv_c107_10, nd_c107_10, e_c107_10, h⟩ := bnd5_ok h
  refine cl_z (rn_v (ci := 0) (As := [.long x5_L24_9, .long x7_L24_9, .long 1]) (rest := []) S (c_X0_take l D ((h_t, .inr (3, [z_t_0, z_t_1, z_t_2, .ref h_t_powerU, .ref h_t_powerV, .ref h_t_rowCounts, .int t_powers, .int t_counted])) :: (h_t_powerU, .inl (k_t_powerU, 48, .inr (.inl t_powerU))) :: (h_t_powerV, .inl (k_t_powerV, 48, .inr (.inl t_powerV))) :: (h_t_rowCounts, .inl (k_t_rowCounts, 48, .inr (.inl t_rowCounts))) :: R) NL nt nu nv nd l1 x5_L24_9 x7_L24_9 1 r_c107_10 nt_c107_10 nu_c107_10 nv_c107_10 nd_c107_10 hm_1 e_c107_10 _) q534 q512 q513 q51 q514 nd_X0_take ⟨Nat.le_of_ble_eq_true rfl, Nat.le_of_ble_eq_true rfl⟩ rfl rfl hP hD (hK.sub (tys' := []) [] rfl) hN rfl (rc_num (Y := ((h_t, .inr (3, [z_t_0, z_t_1, z_t_2, .ref h_t_powerU, .ref h_t_powerV, .ref h_t_rowCounts, .int t_powers, .int t_counted])) :: (h_t_powerU, .inl (k_t_powerU, 48, .inr (.inl t_powerU))) :: (h_t_powerV, .inl (k_t_powerV, 48, .inr (.inl t_powerV))) :: (h_t_rowCounts, .inl (k_t_rowCounts, 48, .inr (.inl t_rowCounts))) :: R)) hm_1) rfl hl.1 rfl (Nat.le_of_ble_eq_true rfl) dX3_putWhole_107 ⟨Nat.le_of_ble_eq_true rfl, Nat.le_of_ble_eq_true rfl⟩) hS hA hD (fun H locs hP hD hS z_c107_10 => ?_)
  have hP : va_P D vwCl ((h_t, .inr (3, [z_t_0, z_t_1, z_t_2, .ref h_t_powerU, .ref h_t_powerV, .ref h_t_rowCounts, .int t_powers, .int t_counted])) :: (h_t_powerU, .inl (k_t_powerU, 48, .inr (.inl t_powerU))) :: (h_t_powerV, .inl (k_t_powerV, 48, .inr (.inl t_powerV))) :: (h_t_rowCounts, .inl (k_t_rowCounts, 48, .inr (.inl t_rowCounts))) :: (R ++ va_pl NL (nmE nt_c107_10 nu_c107_10 nv_c107_10 nd_c107_10))) H := hP
  have hD : va_D A ((h_t, .inr (3, [z_t_0, z_t_1, z_t_2, .ref h_t_powerU, .ref h_t_powerV, .ref h_t_rowCounts, .int t_powers, .int t_counted])) :: (h_t_powerU, .inl (k_t_powerU, 48, .inr (.inl t_powerU))) :: (h_t_powerV, .inl (k_t_powerV, 48, .inr (.inl t_powerV))) :: (h_t_rowCounts, .inl (k_t_rowCounts, 48, .inr (.inl t_rowCounts))) :: (R ++ va_pl NL (nmE nt_c107_10 nu_c107_10 nv_c107_10 nd_c107_10))) := hD
  cases h
  exact rt_z S hr hlk hP hD hS z_c107_10 dX3_putWhole_110
