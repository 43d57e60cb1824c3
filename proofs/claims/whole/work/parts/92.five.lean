theorem rx_i {p : Program} {l : Launch} {e : Env} {R : Room} {s : State} {m : MethodId} {args : Array Value} {below : List Frame} {meth : Method} {c : Code} {H : Heap} {locs : List Loc} {XC : String → State → State → Prop} {cc : ByteArray} {pc : Nat} {ls : Array Slot} {D : va_G} {A : Nat → Prop} {ws' : va_W} {own : String} {nL : Nat} {v : Int32} {o : Option Int32} (ho : o = some v) (S : CallFix p m c cc nL s args AL own) (hr : meth.sig.returnType = some .int) (hlk : meth.locks = false) (hP : va_P D vwCl ws' H) (hD : va_D A ws') (hS : va_S A s.heap H locs) (hdg : decode cc pc = .ok (.ireturn, 1)) : W p l e R s m args below meth c H locs 0 0 (vx_MQ below (va_Qi (fun r (_ : Unit) => o = some r) (EnW D ws' A) A) XC args s 1 6 A) (F0 m pc ls [.int v]) :=
  W.widen (Nat.zero_le 1) (Nat.zero_le 6) (vx_ret (W.iret (v := v) S.1 S.2.1 hr (fun t ht hW => ⟨⟨v, (), rfl, ho, by rw [ht]; exact hP, hD⟩, hS.F ht⟩) hS.2.2 hdg hlk))
theorem rx_l {p : Program} {l : Launch} {e : Env} {R : Room} {s : State} {m : MethodId} {args : Array Value} {below : List Frame} {meth : Method} {c : Code} {H : Heap} {locs : List Loc} {XC : String → State → State → Prop} {cc : ByteArray} {pc : Nat} {ls : Array Slot} {D : va_G} {A : Nat → Prop} {ws' : va_W} {own : String} {nL : Nat} {v : Int64} {o : Option Int64} (ho : o = some v) (S : CallFix p m c cc nL s args AL own) (hr : meth.sig.returnType = some .long) (hlk : meth.locks = false) (hP : va_P D vwCl ws' H) (hD : va_D A ws') (hS : va_S A s.heap H locs) (hdg : decode cc pc = .ok (.lreturn, 1)) : W p l e R s m args below meth c H locs 0 0 (vx_MQ below (va_Ql (fun r (_ : Unit) => o = some r) (EnW D ws' A) A) XC args s 1 6 A) (F0 m pc ls [.long v]) :=
  W.widen (Nat.zero_le 1) (Nat.zero_le 6) (vx_ret (W.lret (v := v) S.1 S.2.1 hr (fun t ht hW => ⟨⟨v, (), rfl, ho, by rw [ht]; exact hP, hD⟩, hS.F ht⟩) hS.2.2 hdg hlk))
noncomputable def f_X11_part (nt : Nat → Int32) (nu : Nat → Int64) (nv : Nat → Int64) (nd : Nat → Int64) (sa : Nat → Nat) (l1 : Int32) (l2 : Int32) : Option (Option Int32) :=
  bnd1 (f_X11_hasNumber nt sa l1) fun r_c2_0 => (
   if r_c2_0 = 0 then (
    some none
   ) else (
    if l2 < 0 then (
     some none
    ) else (
     if l2 ≤ 2 then (
      gd (ixb l1 10) (
       if l2 = 0 then (
        some (some ((nu (sa l1.toNatClampNeg)).toInt32))
       ) else (
        if l2 = 1 then (
         some (some ((nv (sa l1.toNatClampNeg)).toInt32))
        ) else (
         some (some ((nd (sa l1.toNatClampNeg)).toInt32))
        )
       )
      )
     ) else (
      some none
     )
    )
   )
  )
set_option maxHeartbeats 4000000 in
set_option maxRecDepth 100000 in
theorem c_X11_part (l : Launch) (D : va_G) (R : va_W) (NL : List Nat) (nt : Nat → Int32) (nu : Nat → Int64) (nv : Nat → Int64) (nd : Nat → Int64) (h_t : Nat) (z_t_0 : Value) (z_t_1 : Value) (z_t_3 : Value) (z_t_4 : Value) (z_t_5 : Value) (z_t_6 : Value) (z_t_7 : Value) (z_t_8 : Value) (z_t_9 : Value) (z_t_10 : Value) (z_t_11 : Value) (z_t_12 : Value) (h_t_slots : Nat) (k_t_slots : ClassId) (sa : Nat → Nat) (l1 : Int32) (l2 : Int32) (o : Option Int32) (hsa : ∀ k : Nat, k < 10 → sa k ∈ NL) (h : f_X11_part nt nu nv nd sa l1 l2 = some o) (htr : l.stackTraces = false) (sz : Nat) : vx_Met l yX11_part (WD yX11_part cX11_part 4 (some .int)) ({ frames := 6, cells := 1, slots := 6, locals := 82 }) (va_Pc [.ref h_t, .int l1, .int l2] (PcX D [(k_t_slots, .object "DigitBench$Num")] ((h_t, .inr (11, [z_t_0, z_t_1, .ref h_t_slots, z_t_3, z_t_4, z_t_5, z_t_6, z_t_7, z_t_8, z_t_9, z_t_10, z_t_11, z_t_12])) :: (h_t_slots, .inl (k_t_slots, 10, .inr (.inr (.inr (.inr (fun k => some (sa k))))))) :: (R ++ va_pl NL (nmE nt nu nv nd))) sz)) (va_Qi (fun r (_ : Unit) => o = some r) (EnW D ((h_t, .inr (11, [z_t_0, z_t_1, .ref h_t_slots, z_t_3, z_t_4, z_t_5, z_t_6, z_t_7, z_t_8, z_t_9, z_t_10, z_t_11, z_t_12])) :: (h_t_slots, .inl (k_t_slots, 10, .inr (.inr (.inr (.inr (fun k => some (sa k))))))) :: (R ++ va_pl NL (nmE nt nu nv nd))) (va_A ((h_t, .inr (11, [z_t_0, z_t_1, .ref h_t_slots, z_t_3, z_t_4, z_t_5, z_t_6, z_t_7, z_t_8, z_t_9, z_t_10, z_t_11, z_t_12])) :: (h_t_slots, .inl (k_t_slots, 10, .inr (.inr (.inr (.inr (fun k => some (sa k))))))) :: (R ++ va_pl NL (nmE nt nu nv nd))) sz)) (va_A ((h_t, .inr (11, [z_t_0, z_t_1, .ref h_t_slots, z_t_3, z_t_4, z_t_5, z_t_6, z_t_7, z_t_8, z_t_9, z_t_10, z_t_11, z_t_12])) :: (h_t_slots, .inl (k_t_slots, 10, .inr (.inr (.inr (.inr (fun k => some (sa k))))))) :: (R ++ va_pl NL (nmE nt nu nv nd))) sz)) (XF D ((h_t, .inr (11, [z_t_0, z_t_1, .ref h_t_slots, z_t_3, z_t_4, z_t_5, z_t_6, z_t_7, z_t_8, z_t_9, z_t_10, z_t_11, z_t_12])) :: (h_t_slots, .inl (k_t_slots, 10, .inr (.inr (.inr (.inr (fun k => some (sa k))))))) :: (R ++ va_pl NL (nmE nt nu nv nd))) (o = none) (va_A ((h_t, .inr (11, [z_t_0, z_t_1, .ref h_t_slots, z_t_3, z_t_4, z_t_5, z_t_6, z_t_7, z_t_8, z_t_9, z_t_10, z_t_11, z_t_12])) :: (h_t_slots, .inl (k_t_slots, 10, .inr (.inr (.inr (.inr (fun k => some (sa k))))))) :: (R ++ va_pl NL (nmE nt nu nv nd))) sz)) 1 6 (va_A ((h_t, .inr (11, [z_t_0, z_t_1, .ref h_t_slots, z_t_3, z_t_4, z_t_5, z_t_6, z_t_7, z_t_8, z_t_9, z_t_10, z_t_11, z_t_12])) :: (h_t_slots, .inl (k_t_slots, 10, .inr (.inr (.inr (.inr (fun k => some (sa k))))))) :: (R ++ va_pl NL (nmE nt nu nv nd))) sz) := by
  refine ct_startX (QF := fun A => va_Qi (fun r (_ : Unit) => o = some r) (EnW D ((h_t, .inr (11, [z_t_0, z_t_1, .ref h_t_slots, z_t_3, z_t_4, z_t_5, z_t_6, z_t_7, z_t_8, z_t_9, z_t_10, z_t_11, z_t_12])) :: (h_t_slots, .inl (k_t_slots, 10, .inr (.inr (.inr (.inr (fun k => some (sa k))))))) :: (R ++ va_pl NL (nmE nt nu nv nd))) A) A) (P := o = none) ?_ ?_ ?_
  · decide +kernel
  · exact Nat.le_of_ble_eq_true rfl
  intro p e s m args below meth c A ls S hr hlk hnm hS hA hP hD hK hN hX hout hl
  have S : CallFix p m c cX11_part 4 s args AL "DigitBench" := S
  have hx := S.1
  have hb := S.2.1
  have hown := S.2.2.2.1
  have ha := S.2.2.2.2
  have hl : lv_has ls 4 [(0, .ref h_t), (1, .int l1), (2, .int l2)] := hl
  unfold f_X11_part at h
  refine lv_aload_n hx hb dX11_part_0 rfl (lv_at hl 0 rfl) ?_
  refine lv_iload_n hx hb dX11_part_1 rfl (lv_at hl 1 rfl) ?_
  obtain ⟨r_c2_0, e_c2_0, h⟩ := bnd1_ok h
  refine cl_z (rn_v (ci := 11) (As := [.int l1]) (rest := []) S (c_X11_hasNumber l D (R) NL nt nu nv nd h_t (z_t_0) (z_t_1) (z_t_3) (z_t_4) (z_t_5) (z_t_6) (z_t_7) (z_t_8) (z_t_9) (z_t_10) (z_t_11) (z_t_12) h_t_slots k_t_slots sa l1 r_c2_0 hsa e_c2_0 _) q526 q528 q7 q48 q529 nd_X11_hasNumber ⟨Nat.le_of_ble_eq_true rfl, Nat.le_of_ble_eq_true rfl⟩ rfl rfl hP hD (hK.sub (tys' := [(k_t_slots, .object "DigitBench$Num")]) [0] rfl) hN rfl ⟨0, _, rfl⟩ rfl hl.1 rfl (Nat.le_of_ble_eq_true rfl) dX11_part_2 ⟨Nat.le_of_ble_eq_true rfl, Nat.le_of_ble_eq_true rfl⟩) hS hA hD (fun H locs hP hD hS z_c2_0 => ?_)
  have hP : va_P D vwCl ((h_t, .inr (11, [z_t_0, z_t_1, .ref h_t_slots, z_t_3, z_t_4, z_t_5, z_t_6, z_t_7, z_t_8, z_t_9, z_t_10, z_t_11, z_t_12])) :: (h_t_slots, .inl (k_t_slots, 10, .inr (.inr (.inr (.inr (fun k => some (sa k))))))) :: (R ++ va_pl NL (nmE nt nu nv nd))) H := hP
  have hD : va_D A ((h_t, .inr (11, [z_t_0, z_t_1, .ref h_t_slots, z_t_3, z_t_4, z_t_5, z_t_6, z_t_7, z_t_8, z_t_9, z_t_10, z_t_11, z_t_12])) :: (h_t_slots, .inl (k_t_slots, 10, .inr (.inr (.inr (.inr (fun k => some (sa k))))))) :: (R ++ va_pl NL (nmE nt nu nv nd))) := hD
  refine lv_if_eq (tgt := 17) hx hb dX11_part_5 (by decide) (fun c2 => ?_) (fun c2 => ?_)
  · have h := br_pos c2 h
    cases h
    exact x_throw 23 S htr hX hX.s1 hS hl.1 dX11_part_17 dX11_part_20 (Or.inl ⟨dX11_part_21, rfl⟩) dX11_part_23 dX11_part_26 hout (Nat.le_of_ble_eq_true rfl) (Nat.le_of_ble_eq_true rfl) (Nat.le_of_ble_eq_true rfl) (Nat.le_of_ble_eq_true rfl) hlk (fun t hz hk => xf_mk rfl hP hD hS hz hk) hS.2.2 (Nat.le_refl _) (Nat.le_refl _)
  · have h := br_neg c2 h
    refine lv_iload_n hx hb dX11_part_8 rfl (lv_at hl 2 rfl) ?_
    refine lv_if_lt (tgt := 17) hx hb dX11_part_9 (by decide) (fun c3 => ?_) (fun c3 => ?_)
    · have h := br_pos c3 h
      cases h
      exact x_throw 23 S htr hX hX.s1 hS hl.1 dX11_part_17 dX11_part_20 (Or.inl ⟨dX11_part_21, rfl⟩) dX11_part_23 dX11_part_26 hout (Nat.le_of_ble_eq_true rfl) (Nat.le_of_ble_eq_true rfl) (Nat.le_of_ble_eq_true rfl) (Nat.le_of_ble_eq_true rfl) hlk (fun t hz hk => xf_mk rfl hP hD hS hz hk) hS.2.2 (Nat.le_refl _) (Nat.le_refl _)
    · have h := br_neg c3 h
      refine lv_iload_n hx hb dX11_part_12 rfl (lv_at hl 2 rfl) ?_
      refine lv_iconst (v := 2) hx hb dX11_part_13 (by decide) ?_
      refine lv_icmp_le (tgt := 27) hx hb dX11_part_14 (by decide) (fun c4 => ?_) (fun c4 => ?_)
      · have h := br_pos c4 h
        refine lv_aload_n hx hb dX11_part_27 rfl (lv_at hl 0 rfl) ?_
        refine va_get (D := D) (ci := 11) (v := .ref h_t_slots) (C := RX11) (T := TX11) (N := 13) hx hb ha ix11 hown hK hP 0 rfl rfl 2 (by decide) (ha _ q445) (fun _ h9 => h9) rfl dX11_part_28 ?_
        refine lv_iload_n hx hb dX11_part_31 rfl (lv_at hl 1 rfl) ?_
        obtain ⟨i5, h⟩ := ix_ok h
        refine xa_num (sa := sa) hx hb hK hP 1 0 rfl rfl i5 dX11_part_32 ?_
        refine lv_astore_n (lv' := [(3, .ref (sa l1.toNatClampNeg)), (0, .ref h_t), (1, .int l1), (2, .int l2)]) hx hb dX11_part_33 rfl hl (by decide) rfl (fun ls hl => ?_)
        refine lv_iload_n hx hb dX11_part_34 rfl (lv_at hl 3 rfl) ?_
        refine lv_if_ne (tgt := 45) hx hb dX11_part_35 (by decide) (fun c6 => ?_) (fun c6 => ?_)
        · have h := br_neg c6 h
          refine lv_iload_n hx hb dX11_part_45 rfl (lv_at hl 3 rfl) ?_
          refine lv_iconst (v := 1) hx hb dX11_part_46 (by decide) ?_
          refine lv_icmp_ne (tgt := 57) hx hb dX11_part_47 (by decide) (fun c7 => ?_) (fun c7 => ?_)
          · have h := br_neg c7 h
            refine lv_aload_n hx hb dX11_part_57 rfl (lv_at hl 0 rfl) ?_
            refine xg_num (v := .long (nd (sa l1.toNatClampNeg))) S hK (Y := ((h_t, .inr (11, [z_t_0, z_t_1, .ref h_t_slots, z_t_3, z_t_4, z_t_5, z_t_6, z_t_7, z_t_8, z_t_9, z_t_10, z_t_11, z_t_12])) :: (h_t_slots, .inl (k_t_slots, 10, .inr (.inr (.inr (.inr (fun k => some (sa k))))))) :: R)) hP (hsa _ (vp_lt i5)) 3 (by decide) (ha _ q173) rfl dX11_part_58 ?_
            refine lv_l2i (v := (nd (sa l1.toNatClampNeg)).toInt32) hx hb dX11_part_61 rfl ?_
            cases h
            exact rx_i rfl S hr hlk hP hD hS dX11_part_62
          · have h := br_pos c7 h
            refine lv_aload_n hx hb dX11_part_50 rfl (lv_at hl 0 rfl) ?_
            refine xg_num (v := .long (nv (sa l1.toNatClampNeg))) S hK (Y := ((h_t, .inr (11, [z_t_0, z_t_1, .ref h_t_slots, z_t_3, z_t_4, z_t_5, z_t_6, z_t_7, z_t_8, z_t_9, z_t_10, z_t_11, z_t_12])) :: (h_t_slots, .inl (k_t_slots, 10, .inr (.inr (.inr (.inr (fun k => some (sa k))))))) :: R)) hP (hsa _ (vp_lt i5)) 2 (by decide) (ha _ q167) rfl dX11_part_51 ?_
            refine lv_goto (tgt := 61) hx hb dX11_part_54 (by decide) ?_
            refine lv_l2i (v := (nv (sa l1.toNatClampNeg)).toInt32) hx hb dX11_part_61 rfl ?_
            cases h
            exact rx_i rfl S hr hlk hP hD hS dX11_part_62
        · have h := br_pos c6 h
          refine lv_aload_n hx hb dX11_part_38 rfl (lv_at hl 0 rfl) ?_
          refine xg_num (v := .long (nu (sa l1.toNatClampNeg))) S hK (Y := ((h_t, .inr (11, [z_t_0, z_t_1, .ref h_t_slots, z_t_3, z_t_4, z_t_5, z_t_6, z_t_7, z_t_8, z_t_9, z_t_10, z_t_11, z_t_12])) :: (h_t_slots, .inl (k_t_slots, 10, .inr (.inr (.inr (.inr (fun k => some (sa k))))))) :: R)) hP (hsa _ (vp_lt i5)) 1 (by decide) (ha _ q161) rfl dX11_part_39 ?_
          refine lv_goto (tgt := 61) hx hb dX11_part_42 (by decide) ?_
          refine lv_l2i (v := (nu (sa l1.toNatClampNeg)).toInt32) hx hb dX11_part_61 rfl ?_
          cases h
          exact rx_i rfl S hr hlk hP hD hS dX11_part_62
      · have h := br_neg c4 h
        cases h
        exact x_throw 23 S htr hX hX.s1 hS hl.1 dX11_part_17 dX11_part_20 (Or.inl ⟨dX11_part_21, rfl⟩) dX11_part_23 dX11_part_26 hout (Nat.le_of_ble_eq_true rfl) (Nat.le_of_ble_eq_true rfl) (Nat.le_of_ble_eq_true rfl) (Nat.le_of_ble_eq_true rfl) hlk (fun t hz hk => xf_mk rfl hP hD hS hz hk) hS.2.2 (Nat.le_refl _) (Nat.le_refl _)
noncomputable def f_X11_floor (t_root_a : Int32) (t_root_square : Int64) (nt : Nat → Int32) (nu : Nat → Int64) (nv : Nat → Int64) (nd : Nat → Int64) (sa : Nat → Nat) (l1 : Int32) : Option (Option Int64) :=
  bnd1 (f_X11_hasNumber nt sa l1) fun r_c2_0 => (
   if r_c2_0 = 0 then (
    some none
   ) else (
    gd (ixb l1 10) (
     bnd1 (f_X3_wholeBelow t_root_a t_root_square nu nv nd (sa l1.toNatClampNeg)) fun r_c28_3 => (
      some (some r_c28_3)
     )
    )
   )
  )
set_option maxHeartbeats 4000000 in
set_option maxRecDepth 100000 in
theorem c_X11_floor (l : Launch) (D : va_G) (R : va_W) (NL : List Nat) (nt : Nat → Int32) (nu : Nat → Int64) (nv : Nat → Int64) (nd : Nat → Int64) (h_t : Nat) (z_t_0 : Value) (z_t_3 : Value) (z_t_4 : Value) (z_t_5 : Value) (z_t_6 : Value) (z_t_7 : Value) (z_t_8 : Value) (z_t_9 : Value) (z_t_10 : Value) (z_t_11 : Value) (z_t_12 : Value) (h_t_root : Nat) (t_root_a : Int32) (z_t_root_1 : Value) (t_root_square : Int64) (z_t_root_3 : Value) (z_t_root_4 : Value) (z_t_root_5 : Value) (z_t_root_6 : Value) (z_t_root_7 : Value) (h_t_slots : Nat) (k_t_slots : ClassId) (sa : Nat → Nat) (l1 : Int32) (o : Option Int64) (hsa : ∀ k : Nat, k < 10 → sa k ∈ NL) (h : f_X11_floor t_root_a t_root_square nt nu nv nd sa l1 = some o) (htr : l.stackTraces = false) (sz : Nat) : vx_Met l yX11_floor (WD yX11_floor cX11_floor 2 (some .long)) ({ frames := 6, cells := 1, slots := 6, locals := 82 }) (va_Pc [.ref h_t, .int l1] (PcX D [(k_t_slots, .object "DigitBench$Num")] ((h_t, .inr (11, [z_t_0, .ref h_t_root, .ref h_t_slots, z_t_3, z_t_4, z_t_5, z_t_6, z_t_7, z_t_8, z_t_9, z_t_10, z_t_11, z_t_12])) :: (h_t_root, .inr (3, [.int t_root_a, z_t_root_1, .long t_root_square, z_t_root_3, z_t_root_4, z_t_root_5, z_t_root_6, z_t_root_7])) :: (h_t_slots, .inl (k_t_slots, 10, .inr (.inr (.inr (.inr (fun k => some (sa k))))))) :: (R ++ va_pl NL (nmE nt nu nv nd))) sz)) (va_Ql (fun r (_ : Unit) => o = some r) (EnW D ((h_t, .inr (11, [z_t_0, .ref h_t_root, .ref h_t_slots, z_t_3, z_t_4, z_t_5, z_t_6, z_t_7, z_t_8, z_t_9, z_t_10, z_t_11, z_t_12])) :: (h_t_root, .inr (3, [.int t_root_a, z_t_root_1, .long t_root_square, z_t_root_3, z_t_root_4, z_t_root_5, z_t_root_6, z_t_root_7])) :: (h_t_slots, .inl (k_t_slots, 10, .inr (.inr (.inr (.inr (fun k => some (sa k))))))) :: (R ++ va_pl NL (nmE nt nu nv nd))) (va_A ((h_t, .inr (11, [z_t_0, .ref h_t_root, .ref h_t_slots, z_t_3, z_t_4, z_t_5, z_t_6, z_t_7, z_t_8, z_t_9, z_t_10, z_t_11, z_t_12])) :: (h_t_root, .inr (3, [.int t_root_a, z_t_root_1, .long t_root_square, z_t_root_3, z_t_root_4, z_t_root_5, z_t_root_6, z_t_root_7])) :: (h_t_slots, .inl (k_t_slots, 10, .inr (.inr (.inr (.inr (fun k => some (sa k))))))) :: (R ++ va_pl NL (nmE nt nu nv nd))) sz)) (va_A ((h_t, .inr (11, [z_t_0, .ref h_t_root, .ref h_t_slots, z_t_3, z_t_4, z_t_5, z_t_6, z_t_7, z_t_8, z_t_9, z_t_10, z_t_11, z_t_12])) :: (h_t_root, .inr (3, [.int t_root_a, z_t_root_1, .long t_root_square, z_t_root_3, z_t_root_4, z_t_root_5, z_t_root_6, z_t_root_7])) :: (h_t_slots, .inl (k_t_slots, 10, .inr (.inr (.inr (.inr (fun k => some (sa k))))))) :: (R ++ va_pl NL (nmE nt nu nv nd))) sz)) (XF D ((h_t, .inr (11, [z_t_0, .ref h_t_root, .ref h_t_slots, z_t_3, z_t_4, z_t_5, z_t_6, z_t_7, z_t_8, z_t_9, z_t_10, z_t_11, z_t_12])) :: (h_t_root, .inr (3, [.int t_root_a, z_t_root_1, .long t_root_square, z_t_root_3, z_t_root_4, z_t_root_5, z_t_root_6, z_t_root_7])) :: (h_t_slots, .inl (k_t_slots, 10, .inr (.inr (.inr (.inr (fun k => some (sa k))))))) :: (R ++ va_pl NL (nmE nt nu nv nd))) (o = none) (va_A ((h_t, .inr (11, [z_t_0, .ref h_t_root, .ref h_t_slots, z_t_3, z_t_4, z_t_5, z_t_6, z_t_7, z_t_8, z_t_9, z_t_10, z_t_11, z_t_12])) :: (h_t_root, .inr (3, [.int t_root_a, z_t_root_1, .long t_root_square, z_t_root_3, z_t_root_4, z_t_root_5, z_t_root_6, z_t_root_7])) :: (h_t_slots, .inl (k_t_slots, 10, .inr (.inr (.inr (.inr (fun k => some (sa k))))))) :: (R ++ va_pl NL (nmE nt nu nv nd))) sz)) 1 6 (va_A ((h_t, .inr (11, [z_t_0, .ref h_t_root, .ref h_t_slots, z_t_3, z_t_4, z_t_5, z_t_6, z_t_7, z_t_8, z_t_9, z_t_10, z_t_11, z_t_12])) :: (h_t_root, .inr (3, [.int t_root_a, z_t_root_1, .long t_root_square, z_t_root_3, z_t_root_4, z_t_root_5, z_t_root_6, z_t_root_7])) :: (h_t_slots, .inl (k_t_slots, 10, .inr (.inr (.inr (.inr (fun k => some (sa k))))))) :: (R ++ va_pl NL (nmE nt nu nv nd))) sz) := by
  refine ct_startX (QF := fun A => va_Ql (fun r (_ : Unit) => o = some r) (EnW D ((h_t, .inr (11, [z_t_0, .ref h_t_root, .ref h_t_slots, z_t_3, z_t_4, z_t_5, z_t_6, z_t_7, z_t_8, z_t_9, z_t_10, z_t_11, z_t_12])) :: (h_t_root, .inr (3, [.int t_root_a, z_t_root_1, .long t_root_square, z_t_root_3, z_t_root_4, z_t_root_5, z_t_root_6, z_t_root_7])) :: (h_t_slots, .inl (k_t_slots, 10, .inr (.inr (.inr (.inr (fun k => some (sa k))))))) :: (R ++ va_pl NL (nmE nt nu nv nd))) A) A) (P := o = none) ?_ ?_ ?_
  · decide +kernel
  · exact Nat.le_of_ble_eq_true rfl
  intro p e s m args below meth c A ls S hr hlk hnm hS hA hP hD hK hN hX hout hl
  have S : CallFix p m c cX11_floor 2 s args AL "DigitBench" := S
  have hx := S.1
  have hb := S.2.1
  have hown := S.2.2.2.1
  have ha := S.2.2.2.2
  have hl : lv_has ls 2 [(0, .ref h_t), (1, .int l1)] := hl
  unfold f_X11_floor at h
  refine lv_aload_n hx hb dX11_floor_0 rfl (lv_at hl 0 rfl) ?_
  refine lv_iload_n hx hb dX11_floor_1 rfl (lv_at hl 1 rfl) ?_
  obtain ⟨r_c2_0, e_c2_0, h⟩ := bnd1_ok h
  have hP : va_P D vwCl ((h_t, .inr (11, [z_t_0, .ref h_t_root, .ref h_t_slots, z_t_3, z_t_4, z_t_5, z_t_6, z_t_7, z_t_8, z_t_9, z_t_10, z_t_11, z_t_12])) :: (h_t_slots, .inl (k_t_slots, 10, .inr (.inr (.inr (.inr (fun k => some (sa k))))))) :: (h_t_root, .inr (3, [.int t_root_a, z_t_root_1, .long t_root_square, z_t_root_3, z_t_root_4, z_t_root_5, z_t_root_6, z_t_root_7])) :: (R ++ va_pl NL (nmE nt nu nv nd))) _ := pm_P [0, 2, 1] 3 hP
  have hD : va_D A ((h_t, .inr (11, [z_t_0, .ref h_t_root, .ref h_t_slots, z_t_3, z_t_4, z_t_5, z_t_6, z_t_7, z_t_8, z_t_9, z_t_10, z_t_11, z_t_12])) :: (h_t_slots, .inl (k_t_slots, 10, .inr (.inr (.inr (.inr (fun k => some (sa k))))))) :: (h_t_root, .inr (3, [.int t_root_a, z_t_root_1, .long t_root_square, z_t_root_3, z_t_root_4, z_t_root_5, z_t_root_6, z_t_root_7])) :: (R ++ va_pl NL (nmE nt nu nv nd))) := pm_D (X := [(h_t, .inr (11, [z_t_0, .ref h_t_root, .ref h_t_slots, z_t_3, z_t_4, z_t_5, z_t_6, z_t_7, z_t_8, z_t_9, z_t_10, z_t_11, z_t_12])), (h_t_slots, .inl (k_t_slots, 10, .inr (.inr (.inr (.inr (fun k => some (sa k))))))), (h_t_root, .inr (3, [.int t_root_a, z_t_root_1, .long t_root_square, z_t_root_3, z_t_root_4, z_t_root_5, z_t_root_6, z_t_root_7]))]) [0, 2, 1] 3 (by decide) (by decide) rfl hD
  refine cl_z (rn_v (ci := 11) (As := [.int l1]) (rest := []) S (c_X11_hasNumber l D ((h_t_root, .inr (3, [.int t_root_a, z_t_root_1, .long t_root_square, z_t_root_3, z_t_root_4, z_t_root_5, z_t_root_6, z_t_root_7])) :: R) NL nt nu nv nd h_t (z_t_0) (.ref h_t_root) (z_t_3) (z_t_4) (z_t_5) (z_t_6) (z_t_7) (z_t_8) (z_t_9) (z_t_10) (z_t_11) (z_t_12) h_t_slots k_t_slots sa l1 r_c2_0 hsa e_c2_0 _) q526 q528 q7 q48 q529 nd_X11_hasNumber ⟨Nat.le_of_ble_eq_true rfl, Nat.le_of_ble_eq_true rfl⟩ rfl rfl hP hD (hK.sub (tys' := [(k_t_slots, .object "DigitBench$Num")]) [0] rfl) hN rfl ⟨0, _, rfl⟩ rfl hl.1 rfl (Nat.le_of_ble_eq_true rfl) dX11_floor_2 ⟨Nat.le_of_ble_eq_true rfl, Nat.le_of_ble_eq_true rfl⟩) hS hA hD (fun H locs hP hD hS z_c2_0 => ?_)
  have hP : va_P D vwCl ((h_t, .inr (11, [z_t_0, .ref h_t_root, .ref h_t_slots, z_t_3, z_t_4, z_t_5, z_t_6, z_t_7, z_t_8, z_t_9, z_t_10, z_t_11, z_t_12])) :: (h_t_root, .inr (3, [.int t_root_a, z_t_root_1, .long t_root_square, z_t_root_3, z_t_root_4, z_t_root_5, z_t_root_6, z_t_root_7])) :: (h_t_slots, .inl (k_t_slots, 10, .inr (.inr (.inr (.inr (fun k => some (sa k))))))) :: (R ++ va_pl NL (nmE nt nu nv nd))) H := pm_P [0, 2, 1] 3 hP
  have hD : va_D A ((h_t, .inr (11, [z_t_0, .ref h_t_root, .ref h_t_slots, z_t_3, z_t_4, z_t_5, z_t_6, z_t_7, z_t_8, z_t_9, z_t_10, z_t_11, z_t_12])) :: (h_t_root, .inr (3, [.int t_root_a, z_t_root_1, .long t_root_square, z_t_root_3, z_t_root_4, z_t_root_5, z_t_root_6, z_t_root_7])) :: (h_t_slots, .inl (k_t_slots, 10, .inr (.inr (.inr (.inr (fun k => some (sa k))))))) :: (R ++ va_pl NL (nmE nt nu nv nd))) := pm_D (X := [(h_t, .inr (11, [z_t_0, .ref h_t_root, .ref h_t_slots, z_t_3, z_t_4, z_t_5, z_t_6, z_t_7, z_t_8, z_t_9, z_t_10, z_t_11, z_t_12])), (h_t_root, .inr (3, [.int t_root_a, z_t_root_1, .long t_root_square, z_t_root_3, z_t_root_4, z_t_root_5, z_t_root_6, z_t_root_7])), (h_t_slots, .inl (k_t_slots, 10, .inr (.inr (.inr (.inr (fun k => some (sa k)))))))]) [0, 2, 1] 3 (by decide) (by decide) rfl hD
  refine lv_if_ne (tgt := 18) hx hb dX11_floor_5 (by decide) (fun c2 => ?_) (fun c2 => ?_)
  · have h := br_neg c2 h
    refine lv_aload_n hx hb dX11_floor_18 rfl (lv_at hl 0 rfl) ?_
    refine va_get (D := D) (ci := 11) (v := .ref h_t_root) (C := RX11) (T := TX11) (N := 13) hx hb ha ix11 hown hK hP 0 rfl rfl 1 (by decide) (ha _ q444) (fun _ h9 => h9) rfl dX11_floor_19 ?_
    refine lv_aload_n hx hb dX11_floor_22 rfl (lv_at hl 0 rfl) ?_
    refine va_get (D := D) (ci := 11) (v := .ref h_t_slots) (C := RX11) (T := TX11) (N := 13) hx hb ha ix11 hown hK hP 0 rfl rfl 2 (by decide) (ha _ q445) (fun _ h9 => h9) rfl dX11_floor_23 ?_
    refine lv_iload_n hx hb dX11_floor_26 rfl (lv_at hl 1 rfl) ?_
    obtain ⟨i3, h⟩ := ix_ok h
    refine xa_num (sa := sa) hx hb hK hP 2 0 rfl rfl i3 dX11_floor_27 ?_
    obtain ⟨r_c28_3, e_c28_3, h⟩ := bnd1_ok h
    have hP : va_P D vwCl ((h_t_root, .inr (3, [.int t_root_a, z_t_root_1, .long t_root_square, z_t_root_3, z_t_root_4, z_t_root_5, z_t_root_6, z_t_root_7])) :: (h_t, .inr (11, [z_t_0, .ref h_t_root, .ref h_t_slots, z_t_3, z_t_4, z_t_5, z_t_6, z_t_7, z_t_8, z_t_9, z_t_10, z_t_11, z_t_12])) :: (h_t_slots, .inl (k_t_slots, 10, .inr (.inr (.inr (.inr (fun k => some (sa k))))))) :: (R ++ va_pl NL (nmE nt nu nv nd))) _ := pm_P [1, 0, 2] 3 hP
    have hD : va_D A ((h_t_root, .inr (3, [.int t_root_a, z_t_root_1, .long t_root_square, z_t_root_3, z_t_root_4, z_t_root_5, z_t_root_6, z_t_root_7])) :: (h_t, .inr (11, [z_t_0, .ref h_t_root, .ref h_t_slots, z_t_3, z_t_4, z_t_5, z_t_6, z_t_7, z_t_8, z_t_9, z_t_10, z_t_11, z_t_12])) :: (h_t_slots, .inl (k_t_slots, 10, .inr (.inr (.inr (.inr (fun k => some (sa k))))))) :: (R ++ va_pl NL (nmE nt nu nv nd))) := pm_D (X := [(h_t_root, .inr (3, [.int t_root_a, z_t_root_1, .long t_root_square, z_t_root_3, z_t_root_4, z_t_root_5, z_t_root_6, z_t_root_7])), (h_t, .inr (11, [z_t_0, .ref h_t_root, .ref h_t_slots, z_t_3, z_t_4, z_t_5, z_t_6, z_t_7, z_t_8, z_t_9, z_t_10, z_t_11, z_t_12])), (h_t_slots, .inl (k_t_slots, 10, .inr (.inr (.inr (.inr (fun k => some (sa k)))))))]) [1, 0, 2] 3 (by decide) (by decide) rfl hD
    refine cl_l (rn_v (ci := 3) (As := [.ref (sa l1.toNatClampNeg)]) (rest := []) S (c_X3_wholeBelow l D ((h_t, .inr (11, [z_t_0, .ref h_t_root, .ref h_t_slots, z_t_3, z_t_4, z_t_5, z_t_6, z_t_7, z_t_8, z_t_9, z_t_10, z_t_11, z_t_12])) :: (h_t_slots, .inl (k_t_slots, 10, .inr (.inr (.inr (.inr (fun k => some (sa k))))))) :: R) NL nt nu nv nd h_t_root t_root_a (z_t_root_1) t_root_square (z_t_root_3) (z_t_root_4) (z_t_root_5) (z_t_root_6) (z_t_root_7) (sa l1.toNatClampNeg) r_c28_3 (hsa _ (vp_lt i3)) e_c28_3 _) q919 q920 q921 q50 q922 nd_X3_wholeBelow ⟨Nat.le_of_ble_eq_true rfl, Nat.le_of_ble_eq_true rfl⟩ rfl rfl hP hD (hK.sub (tys' := []) [] rfl) hN rfl ⟨0, _, rfl⟩ rfl hl.1 rfl (Nat.le_of_ble_eq_true rfl) dX11_floor_28 ⟨Nat.le_of_ble_eq_true rfl, Nat.le_of_ble_eq_true rfl⟩) hS hA hD (fun H locs hP hD hS => ?_)
    have hP : va_P D vwCl ((h_t, .inr (11, [z_t_0, .ref h_t_root, .ref h_t_slots, z_t_3, z_t_4, z_t_5, z_t_6, z_t_7, z_t_8, z_t_9, z_t_10, z_t_11, z_t_12])) :: (h_t_root, .inr (3, [.int t_root_a, z_t_root_1, .long t_root_square, z_t_root_3, z_t_root_4, z_t_root_5, z_t_root_6, z_t_root_7])) :: (h_t_slots, .inl (k_t_slots, 10, .inr (.inr (.inr (.inr (fun k => some (sa k))))))) :: (R ++ va_pl NL (nmE nt nu nv nd))) H := pm_P [1, 0, 2] 3 hP
    have hD : va_D A ((h_t, .inr (11, [z_t_0, .ref h_t_root, .ref h_t_slots, z_t_3, z_t_4, z_t_5, z_t_6, z_t_7, z_t_8, z_t_9, z_t_10, z_t_11, z_t_12])) :: (h_t_root, .inr (3, [.int t_root_a, z_t_root_1, .long t_root_square, z_t_root_3, z_t_root_4, z_t_root_5, z_t_root_6, z_t_root_7])) :: (h_t_slots, .inl (k_t_slots, 10, .inr (.inr (.inr (.inr (fun k => some (sa k))))))) :: (R ++ va_pl NL (nmE nt nu nv nd))) := pm_D (X := [(h_t, .inr (11, [z_t_0, .ref h_t_root, .ref h_t_slots, z_t_3, z_t_4, z_t_5, z_t_6, z_t_7, z_t_8, z_t_9, z_t_10, z_t_11, z_t_12])), (h_t_root, .inr (3, [.int t_root_a, z_t_root_1, .long t_root_square, z_t_root_3, z_t_root_4, z_t_root_5, z_t_root_6, z_t_root_7])), (h_t_slots, .inl (k_t_slots, 10, .inr (.inr (.inr (.inr (fun k => some (sa k)))))))]) [1, 0, 2] 3 (by decide) (by decide) rfl hD
    cases h
    exact rx_l rfl S hr hlk hP hD hS dX11_floor_31
  · have h := br_pos c2 h
    cases h
    exact x_throw 14 S htr hX hX.s2 hS hl.1 dX11_floor_8 dX11_floor_11 (Or.inl ⟨dX11_floor_12, rfl⟩) dX11_floor_14 dX11_floor_17 hout (Nat.le_of_ble_eq_true rfl) (Nat.le_of_ble_eq_true rfl) (Nat.le_of_ble_eq_true rfl) (Nat.le_of_ble_eq_true rfl) hlk (fun t hz hk => xf_mk rfl hP hD hS hz hk) hS.2.2 (Nat.le_refl _) (Nat.le_refl _)
noncomputable def f_X11_one (t_root_a : Int32) (t_root_b : Int32) (l1 : Int32) : Option (Option Int32) :=
  if l1 < 1 then (
   some none
  ) else (
   if l1 ≤ 60 then (
    bnd1 (f_X3_digitOfOne t_root_a t_root_b l1) fun r_c26_2 => (
     some (some r_c26_2)
    )
   ) else (
    some none
   )
  )
set_option maxHeartbeats 4000000 in
set_option maxRecDepth 100000 in
theorem c_X11_one (l : Launch) (D : va_G) (R : va_W) (h_t : Nat) (z_t_0 : Value) (z_t_2 : Value) (z_t_3 : Value) (z_t_4 : Value) (z_t_5 : Value) (z_t_6 : Value) (z_t_7 : Value) (z_t_8 : Value) (z_t_9 : Value) (z_t_10 : Value) (z_t_11 : Value) (z_t_12 : Value) (h_t_root : Nat) (t_root_a : Int32) (t_root_b : Int32) (z_t_root_2 : Value) (z_t_root_3 : Value) (z_t_root_4 : Value) (z_t_root_5 : Value) (z_t_root_6 : Value) (z_t_root_7 : Value) (l1 : Int32) (o : Option Int32)  (h : f_X11_one t_root_a t_root_b l1 = some o) (htr : l.stackTraces = false) (sz : Nat) : vx_Met l yX11_one (WD yX11_one cX11_one 2 (some .int)) ({ frames := 6, cells := 1, slots := 6, locals := 82 }) (va_Pc [.ref h_t, .int l1] (PcX D [] ((h_t, .inr (11, [z_t_0, .ref h_t_root, z_t_2, z_t_3, z_t_4, z_t_5, z_t_6, z_t_7, z_t_8, z_t_9, z_t_10, z_t_11, z_t_12])) :: (h_t_root, .inr (3, [.int t_root_a, .int t_root_b, z_t_root_2, z_t_root_3, z_t_root_4, z_t_root_5, z_t_root_6, z_t_root_7])) :: R) sz)) (va_Qi (fun r (_ : Unit) => o = some r) (EnW D ((h_t, .inr (11, [z_t_0, .ref h_t_root, z_t_2, z_t_3, z_t_4, z_t_5, z_t_6, z_t_7, z_t_8, z_t_9, z_t_10, z_t_11, z_t_12])) :: (h_t_root, .inr (3, [.int t_root_a, .int t_root_b, z_t_root_2, z_t_root_3, z_t_root_4, z_t_root_5, z_t_root_6, z_t_root_7])) :: R) (va_A ((h_t, .inr (11, [z_t_0, .ref h_t_root, z_t_2, z_t_3, z_t_4, z_t_5, z_t_6, z_t_7, z_t_8, z_t_9, z_t_10, z_t_11, z_t_12])) :: (h_t_root, .inr (3, [.int t_root_a, .int t_root_b, z_t_root_2, z_t_root_3, z_t_root_4, z_t_root_5, z_t_root_6, z_t_root_7])) :: R) sz)) (va_A ((h_t, .inr (11, [z_t_0, .ref h_t_root, z_t_2, z_t_3, z_t_4, z_t_5, z_t_6, z_t_7, z_t_8, z_t_9, z_t_10, z_t_11, z_t_12])) :: (h_t_root, .inr (3, [.int t_root_a, .int t_root_b, z_t_root_2, z_t_root_3, z_t_root_4, z_t_root_5, z_t_root_6, z_t_root_7])) :: R) sz)) (XF D ((h_t, .inr (11, [z_t_0, .ref h_t_root, z_t_2, z_t_3, z_t_4, z_t_5, z_t_6, z_t_7, z_t_8, z_t_9, z_t_10, z_t_11, z_t_12])) :: (h_t_root, .inr (3, [.int t_root_a, .int t_root_b, z_t_root_2, z_t_root_3, z_t_root_4, z_t_root_5, z_t_root_6, z_t_root_7])) :: R) (o = none) (va_A ((h_t, .inr (11, [z_t_0, .ref h_t_root, z_t_2, z_t_3, z_t_4, z_t_5, z_t_6, z_t_7, z_t_8, z_t_9, z_t_10, z_t_11, z_t_12])) :: (h_t_root, .inr (3, [.int t_root_a, .int t_root_b, z_t_root_2, z_t_root_3, z_t_root_4, z_t_root_5, z_t_root_6, z_t_root_7])) :: R) sz)) 1 6 (va_A ((h_t, .inr (11, [z_t_0, .ref h_t_root, z_t_2, z_t_3, z_t_4, z_t_5, z_t_6, z_t_7, z_t_8, z_t_9, z_t_10, z_t_11, z_t_12])) :: (h_t_root, .inr (3, [.int t_root_a, .int t_root_b, z_t_root_2, z_t_root_3, z_t_root_4, z_t_root_5, z_t_root_6, z_t_root_7])) :: R) sz) := by
  refine ct_startX (QF := fun A => va_Qi (fun r (_ : Unit) => o = some r) (EnW D ((h_t, .inr (11, [z_t_0, .ref h_t_root, z_t_2, z_t_3, z_t_4, z_t_5, z_t_6, z_t_7, z_t_8, z_t_9, z_t_10, z_t_11, z_t_12])) :: (h_t_root, .inr (3, [.int t_root_a, .int t_root_b, z_t_root_2, z_t_root_3, z_t_root_4, z_t_root_5, z_t_root_6, z_t_root_7])) :: R) A) A) (P := o = none) ?_ ?_ ?_
  · decide +kernel
  · exact Nat.le_of_ble_eq_true rfl
  intro p e s m args below meth c A ls S hr hlk hnm hS hA hP hD hK hN hX hout hl
  have S : CallFix p m c cX11_one 2 s args AL "DigitBench" := S
  have hx := S.1
  have hb := S.2.1
  have hown := S.2.2.2.1
  have ha := S.2.2.2.2
  have hl : lv_has ls 2 [(0, .ref h_t), (1, .int l1)] := hl
  unfold f_X11_one at h
  refine lv_iload_n hx hb dX11_one_0 rfl (lv_at hl 1 rfl) ?_
  refine lv_iconst (v := 1) hx hb dX11_one_1 (by decide) ?_
  refine lv_icmp_lt (tgt := 11) hx hb dX11_one_2 (by decide) (fun c1 => ?_) (fun c1 => ?_)
  · have h := br_pos c1 h
    cases h
    exact x_throw 17 S htr hX hX.s3 hS hl.1 dX11_one_11 dX11_one_14 (Or.inl ⟨dX11_one_15, rfl⟩) dX11_one_17 dX11_one_20 hout (Nat.le_of_ble_eq_true rfl) (Nat.le_of_ble_eq_true rfl) (Nat.le_of_ble_eq_true rfl) (Nat.le_of_ble_eq_true rfl) hlk (fun t hz hk => xf_mk rfl hP hD hS hz hk) hS.2.2 (Nat.le_refl _) (Nat.le_refl _)
  · have h := br_neg c1 h
    refine lv_iload_n hx hb dX11_one_5 rfl (lv_at hl 1 rfl) ?_
    refine lv_bipush (v := 60) hx hb dX11_one_6 (by decide) ?_
    refine lv_icmp_le (tgt := 21) hx hb dX11_one_8 (by decide) (fun c2 => ?_) (fun c2 => ?_)
    · have h := br_pos c2 h
      refine lv_aload_n hx hb dX11_one_21 rfl (lv_at hl 0 rfl) ?_
      refine va_get (D := D) (ci := 11) (v := .ref h_t_root) (C := RX11) (T := TX11) (N := 13) hx hb ha ix11 hown hK hP 0 rfl rfl 1 (by decide) (ha _ q444) (fun _ h9 => h9) rfl dX11_one_22 ?_
      refine lv_iload_n hx hb dX11_one_25 rfl (lv_at hl 1 rfl) ?_
      obtain ⟨r_c26_2, e_c26_2, h⟩ := bnd1_ok h
      have hP : va_P D vwCl ((h_t_root, .inr (3, [.int t_root_a, .int t_root_b, z_t_root_2, z_t_root_3, z_t_root_4, z_t_root_5, z_t_root_6, z_t_root_7])) :: (h_t, .inr (11, [z_t_0, .ref h_t_root, z_t_2, z_t_3, z_t_4, z_t_5, z_t_6, z_t_7, z_t_8, z_t_9, z_t_10, z_t_11, z_t_12])) :: R) _ := pm_P [1, 0] 2 hP
      have hD : va_D A ((h_t_root, .inr (3, [.int t_root_a, .int t_root_b, z_t_root_2, z_t_root_3, z_t_root_4, z_t_root_5, z_t_root_6, z_t_root_7])) :: (h_t, .inr (11, [z_t_0, .ref h_t_root, z_t_2, z_t_3, z_t_4, z_t_5, z_t_6, z_t_7, z_t_8, z_t_9, z_t_10, z_t_11, z_t_12])) :: R) := pm_D (X := [(h_t_root, .inr (3, [.int t_root_a, .int t_root_b, z_t_root_2, z_t_root_3, z_t_root_4, z_t_root_5, z_t_root_6, z_t_root_7])), (h_t, .inr (11, [z_t_0, .ref h_t_root, z_t_2, z_t_3, z_t_4, z_t_5, z_t_6, z_t_7, z_t_8, z_t_9, z_t_10, z_t_11, z_t_12]))]) [1, 0] 2 (by decide) (by decide) rfl hD
      refine cl_i (rn_v (ci := 3) (As := [.int l1]) (rest := []) S (c_X3_digitOfOne l D ((h_t, .inr (11, [z_t_0, .ref h_t_root, z_t_2, z_t_3, z_t_4, z_t_5, z_t_6, z_t_7, z_t_8, z_t_9, z_t_10, z_t_11, z_t_12])) :: R) h_t_root t_root_a t_root_b (z_t_root_2) (z_t_root_3) (z_t_root_4) (z_t_root_5) (z_t_root_6) (z_t_root_7) l1 r_c26_2 e_c26_2 _) q937 q703 q704 q50 q705 nd_X3_digitOfOne ⟨Nat.le_of_ble_eq_true rfl, Nat.le_of_ble_eq_true rfl⟩ rfl rfl hP hD (hK.sub (tys' := []) [] rfl) hN rfl ⟨0, _, rfl⟩ rfl hl.1 rfl (Nat.le_of_ble_eq_true rfl) dX11_one_26 ⟨Nat.le_of_ble_eq_true rfl, Nat.le_of_ble_eq_true rfl⟩) hS hA hD (fun H locs hP hD hS => ?_)
      have hP : va_P D vwCl ((h_t, .inr (11, [z_t_0, .ref h_t_root, z_t_2, z_t_3, z_t_4, z_t_5, z_t_6, z_t_7, z_t_8, z_t_9, z_t_10, z_t_11, z_t_12])) :: (h_t_root, .inr (3, [.int t_root_a, .int t_root_b, z_t_root_2, z_t_root_3, z_t_root_4, z_t_root_5, z_t_root_6, z_t_root_7])) :: R) H := pm_P [1, 0] 2 hP
      have hD : va_D A ((h_t, .inr (11, [z_t_0, .ref h_t_root, z_t_2, z_t_3, z_t_4, z_t_5, z_t_6, z_t_7, z_t_8, z_t_9, z_t_10, z_t_11, z_t_12])) :: (h_t_root, .inr (3, [.int t_root_a, .int t_root_b, z_t_root_2, z_t_root_3, z_t_root_4, z_t_root_5, z_t_root_6, z_t_root_7])) :: R) := pm_D (X := [(h_t, .inr (11, [z_t_0, .ref h_t_root, z_t_2, z_t_3, z_t_4, z_t_5, z_t_6, z_t_7, z_t_8, z_t_9, z_t_10, z_t_11, z_t_12])), (h_t_root, .inr (3, [.int t_root_a, .int t_root_b, z_t_root_2, z_t_root_3, z_t_root_4, z_t_root_5, z_t_root_6, z_t_root_7]))]) [1, 0] 2 (by decide) (by decide) rfl hD
      cases h
      exact rx_i rfl S hr hlk hP hD hS dX11_one_29
    · have h := br_neg c2 h
      cases h
      exact x_throw 17 S htr hX hX.s3 hS hl.1 dX11_one_11 dX11_one_14 (Or.inl ⟨dX11_one_15, rfl⟩) dX11_one_17 dX11_one_20 hout (Nat.le_of_ble_eq_true rfl) (Nat.le_of_ble_eq_true rfl) (Nat.le_of_ble_eq_true rfl) (Nat.le_of_ble_eq_true rfl) hlk (fun t hz hk => xf_mk rfl hP hD hS hz hk) hS.2.2 (Nat.le_refl _) (Nat.le_refl _)
noncomputable def f_X11_rows (t_root_counted : Int32) (t_root_rowCounts : Nat → Int64) (l1 : Int32) : Option (Option Int64) :=
  if l1 < 0 then (
   some none
  ) else (
   if l1 ≤ 16 then (
    bnd1 (f_X3_rowCount t_root_counted t_root_rowCounts l1) fun r_c25_2 => (
     some (some r_c25_2)
    )
   ) else (
    some none
   )
  )
set_option maxHeartbeats 4000000 in
set_option maxRecDepth 100000 in
theorem c_X11_rows (l : Launch) (D : va_G) (R : va_W) (h_t : Nat) (z_t_0 : Value) (z_t_2 : Value) (z_t_3 : Value) (z_t_4 : Value) (z_t_5 : Value) (z_t_6 : Value) (z_t_7 : Value) (z_t_8 : Value) (z_t_9 : Value) (z_t_10 : Value) (z_t_11 : Value) (z_t_12 : Value) (h_t_root : Nat) (z_t_root_0 : Value) (z_t_root_1 : Value) (z_t_root_2 : Value) (z_t_root_3 : Value) (z_t_root_4 : Value) (z_t_root_6 : Value) (t_root_counted : Int32) (h_t_root_rowCounts : Nat) (k_t_root_rowCounts : ClassId) (t_root_rowCounts : Nat → Int64) (l1 : Int32) (o : Option Int64)  (h : f_X11_rows t_root_counted t_root_rowCounts l1 = some o) (htr : l.stackTraces = false) (sz : Nat) : vx_Met l yX11_rows (WD yX11_rows cX11_rows 2 (some .long)) ({ frames := 6, cells := 1, slots := 6, locals := 82 }) (va_Pc [.ref h_t, .int l1] (PcX D [(k_t_root_rowCounts, .long)] ((h_t, .inr (11, [z_t_0, .ref h_t_root, z_t_2, z_t_3, z_t_4, z_t_5, z_t_6, z_t_7, z_t_8, z_t_9, z_t_10, z_t_11, z_t_12])) :: (h_t_root, .inr (3, [z_t_root_0, z_t_root_1, z_t_root_2, z_t_root_3, z_t_root_4, .ref h_t_root_rowCounts, z_t_root_6, .int t_root_counted])) :: (h_t_root_rowCounts, .inl (k_t_root_rowCounts, 48, .inr (.inl t_root_rowCounts))) :: R) sz)) (va_Ql (fun r (_ : Unit) => o = some r) (EnW D ((h_t, .inr (11, [z_t_0, .ref h_t_root, z_t_2, z_t_3, z_t_4, z_t_5, z_t_6, z_t_7, z_t_8, z_t_9, z_t_10, z_t_11, z_t_12])) :: (h_t_root, .inr (3, [z_t_root_0, z_t_root_1, z_t_root_2, z_t_root_3, z_t_root_4, .ref h_t_root_rowCounts, z_t_root_6, .int t_root_counted])) :: (h_t_root_rowCounts, .inl (k_t_root_rowCounts, 48, .inr (.inl t_root_rowCounts))) :: R) (va_A ((h_t, .inr (11, [z_t_0, .ref h_t_root, z_t_2, z_t_3, z_t_4, z_t_5, z_t_6, z_t_7, z_t_8, z_t_9, z_t_10, z_t_11, z_t_12])) :: (h_t_root, .inr (3, [z_t_root_0, z_t_root_1, z_t_root_2, z_t_root_3, z_t_root_4, .ref h_t_root_rowCounts, z_t_root_6, .int t_root_counted])) :: (h_t_root_rowCounts, .inl (k_t_root_rowCounts, 48, .inr (.inl t_root_rowCounts))) :: R) sz)) (va_A ((h_t, .inr (11, [z_t_0, .ref h_t_root, z_t_2, z_t_3, z_t_4, z_t_5, z_t_6, z_t_7, z_t_8, z_t_9, z_t_10, z_t_11, z_t_12])) :: (h_t_root, .inr (3, [z_t_root_0, z_t_root_1, z_t_root_2, z_t_root_3, z_t_root_4, .ref h_t_root_rowCounts, z_t_root_6, .int t_root_counted])) :: (h_t_root_rowCounts, .inl (k_t_root_rowCounts, 48, .inr (.inl t_root_rowCounts))) :: R) sz)) (XF D ((h_t, .inr (11, [z_t_0, .ref h_t_root, z_t_2, z_t_3, z_t_4, z_t_5, z_t_6, z_t_7, z_t_8, z_t_9, z_t_10, z_t_11, z_t_12])) :: (h_t_root, .inr (3, [z_t_root_0, z_t_root_1, z_t_root_2, z_t_root_3, z_t_root_4, .ref h_t_root_rowCounts, z_t_root_6, .int t_root_counted])) :: (h_t_root_rowCounts, .inl (k_t_root_rowCounts, 48, .inr (.inl t_root_rowCounts))) :: R) (o = none) (va_A ((h_t, .inr (11, [z_t_0, .ref h_t_root, z_t_2, z_t_3, z_t_4, z_t_5, z_t_6, z_t_7, z_t_8, z_t_9, z_t_10, z_t_11, z_t_12])) :: (h_t_root, .inr (3, [z_t_root_0, z_t_root_1, z_t_root_2, z_t_root_3, z_t_root_4, .ref h_t_root_rowCounts, z_t_root_6, .int t_root_counted])) :: (h_t_root_rowCounts, .inl (k_t_root_rowCounts, 48, .inr (.inl t_root_rowCounts))) :: R) sz)) 1 6 (va_A ((h_t, .inr (11, [z_t_0, .ref h_t_root, z_t_2, z_t_3, z_t_4, z_t_5, z_t_6, z_t_7, z_t_8, z_t_9, z_t_10, z_t_11, z_t_12])) :: (h_t_root, .inr (3, [z_t_root_0, z_t_root_1, z_t_root_2, z_t_root_3, z_t_root_4, .ref h_t_root_rowCounts, z_t_root_6, .int t_root_counted])) :: (h_t_root_rowCounts, .inl (k_t_root_rowCounts, 48, .inr (.inl t_root_rowCounts))) :: R) sz) := by
  refine ct_startX (QF := fun A => va_Ql (fun r (_ : Unit) => o = some r) (EnW D ((h_t, .inr (11, [z_t_0, .ref h_t_root, z_t_2, z_t_3, z_t_4, z_t_5, z_t_6, z_t_7, z_t_8, z_t_9, z_t_10, z_t_11, z_t_12])) :: (h_t_root, .inr (3, [z_t_root_0, z_t_root_1, z_t_root_2, z_t_root_3, z_t_root_4, .ref h_t_root_rowCounts, z_t_root_6, .int t_root_counted])) :: (h_t_root_rowCounts, .inl (k_t_root_rowCounts, 48, .inr (.inl t_root_rowCounts))) :: R) A) A) (P := o = none) ?_ ?_ ?_
  · decide +kernel
  · exact Nat.le_of_ble_eq_true rfl
  intro p e s m args below meth c A ls S hr hlk hnm hS hA hP hD hK hN hX hout hl
  have S : CallFix p m c cX11_rows 2 s args AL "DigitBench" := S
  have hx := S.1
  have hb := S.2.1
  have hown := S.2.2.2.1
  have ha := S.2.2.2.2
  have hl : lv_has ls 2 [(0, .ref h_t), (1, .int l1)] := hl
  unfold f_X11_rows at h
  refine lv_iload_n hx hb dX11_rows_0 rfl (lv_at hl 1 rfl) ?_
  refine lv_if_lt (tgt := 10) hx hb dX11_rows_1 (by decide) (fun c1 => ?_) (fun c1 => ?_)
  · have h := br_pos c1 h
    cases h
    exact x_throw 16 S htr hX hX.s4 hS hl.1 dX11_rows_10 dX11_rows_13 (Or.inl ⟨dX11_rows_14, rfl⟩) dX11_rows_16 dX11_rows_19 hout (Nat.le_of_ble_eq_true rfl) (Nat.le_of_ble_eq_true rfl) (Nat.le_of_ble_eq_true rfl) (Nat.le_of_ble_eq_true rfl) hlk (fun t hz hk => xf_mk rfl hP hD hS hz hk) hS.2.2 (Nat.le_refl _) (Nat.le_refl _)
  · have h := br_neg c1 h
    refine lv_iload_n hx hb dX11_rows_4 rfl (lv_at hl 1 rfl) ?_
    refine lv_bipush (v := 16) hx hb dX11_rows_5 (by decide) ?_
    refine lv_icmp_le (tgt := 20) hx hb dX11_rows_7 (by decide) (fun c2 => ?_) (fun c2 => ?_)
    · have h := br_pos c2 h
      refine lv_aload_n hx hb dX11_rows_20 rfl (lv_at hl 0 rfl) ?_
      refine va_get (D := D) (ci := 11) (v := .ref h_t_root) (C := RX11) (T := TX11) (N := 13) hx hb ha ix11 hown hK hP 0 rfl rfl 1 (by decide) (ha _ q444) (fun _ h9 => h9) rfl dX11_rows_21 ?_
      refine lv_iload_n hx hb dX11_rows_24 rfl (lv_at hl 1 rfl) ?_
      obtain ⟨r_c25_2, e_c25_2, h⟩ := bnd1_ok h
      have hP : va_P D vwCl ((h_t_root, .inr (3, [z_t_root_0, z_t_root_1, z_t_root_2, z_t_root_3, z_t_root_4, .ref h_t_root_rowCounts, z_t_root_6, .int t_root_counted])) :: (h_t_root_rowCounts, .inl (k_t_root_rowCounts, 48, .inr (.inl t_root_rowCounts))) :: (h_t, .inr (11, [z_t_0, .ref h_t_root, z_t_2, z_t_3, z_t_4, z_t_5, z_t_6, z_t_7, z_t_8, z_t_9, z_t_10, z_t_11, z_t_12])) :: R) _ := pm_P [1, 2, 0] 3 hP
      have hD : va_D A ((h_t_root, .inr (3, [z_t_root_0, z_t_root_1, z_t_root_2, z_t_root_3, z_t_root_4, .ref h_t_root_rowCounts, z_t_root_6, .int t_root_counted])) :: (h_t_root_rowCounts, .inl (k_t_root_rowCounts, 48, .inr (.inl t_root_rowCounts))) :: (h_t, .inr (11, [z_t_0, .ref h_t_root, z_t_2, z_t_3, z_t_4, z_t_5, z_t_6, z_t_7, z_t_8, z_t_9, z_t_10, z_t_11, z_t_12])) :: R) := pm_D (X := [(h_t_root, .inr (3, [z_t_root_0, z_t_root_1, z_t_root_2, z_t_root_3, z_t_root_4, .ref h_t_root_rowCounts, z_t_root_6, .int t_root_counted])), (h_t_root_rowCounts, .inl (k_t_root_rowCounts, 48, .inr (.inl t_root_rowCounts))), (h_t, .inr (11, [z_t_0, .ref h_t_root, z_t_2, z_t_3, z_t_4, z_t_5, z_t_6, z_t_7, z_t_8, z_t_9, z_t_10, z_t_11, z_t_12]))]) [1, 2, 0] 3 (by decide) (by decide) rfl hD
      refine cl_l (rn_v (ci := 3) (As := [.int l1]) (rest := []) S (c_X3_rowCount l D ((h_t, .inr (11, [z_t_0, .ref h_t_root, z_t_2, z_t_3, z_t_4, z_t_5, z_t_6, z_t_7, z_t_8, z_t_9, z_t_10, z_t_11, z_t_12])) :: R) h_t_root (z_t_root_0) (z_t_root_1) (z_t_root_2) (z_t_root_3) (z_t_root_4) (z_t_root_6) t_root_counted h_t_root_rowCounts k_t_root_rowCounts t_root_rowCounts l1 r_c25_2 e_c25_2 _) q723 q724 q725 q50 q726 nd_X3_rowCount ⟨Nat.le_of_ble_eq_true rfl, Nat.le_of_ble_eq_true rfl⟩ rfl rfl hP hD (hK.sub (tys' := [(k_t_root_rowCounts, .long)]) [0] rfl) hN rfl ⟨0, _, rfl⟩ rfl hl.1 rfl (Nat.le_of_ble_eq_true rfl) dX11_rows_25 ⟨Nat.le_of_ble_eq_true rfl, Nat.le_of_ble_eq_true rfl⟩) hS hA hD (fun H locs hP hD hS => ?_)
      have hP : va_P D vwCl ((h_t, .inr (11, [z_t_0, .ref h_t_root, z_t_2, z_t_3, z_t_4, z_t_5, z_t_6, z_t_7, z_t_8, z_t_9, z_t_10, z_t_11, z_t_12])) :: (h_t_root, .inr (3, [z_t_root_0, z_t_root_1, z_t_root_2, z_t_root_3, z_t_root_4, .ref h_t_root_rowCounts, z_t_root_6, .int t_root_counted])) :: (h_t_root_rowCounts, .inl (k_t_root_rowCounts, 48, .inr (.inl t_root_rowCounts))) :: R) H := pm_P [2, 0, 1] 3 hP
      have hD : va_D A ((h_t, .inr (11, [z_t_0, .ref h_t_root, z_t_2, z_t_3, z_t_4, z_t_5, z_t_6, z_t_7, z_t_8, z_t_9, z_t_10, z_t_11, z_t_12])) :: (h_t_root, .inr (3, [z_t_root_0, z_t_root_1, z_t_root_2, z_t_root_3, z_t_root_4, .ref h_t_root_rowCounts, z_t_root_6, .int t_root_counted])) :: (h_t_root_rowCounts, .inl (k_t_root_rowCounts, 48, .inr (.inl t_root_rowCounts))) :: R) := pm_D (X := [(h_t, .inr (11, [z_t_0, .ref h_t_root, z_t_2, z_t_3, z_t_4, z_t_5, z_t_6, z_t_7, z_t_8, z_t_9, z_t_10, z_t_11, z_t_12])), (h_t_root, .inr (3, [z_t_root_0, z_t_root_1, z_t_root_2, z_t_root_3, z_t_root_4, .ref h_t_root_rowCounts, z_t_root_6, .int t_root_counted])), (h_t_root_rowCounts, .inl (k_t_root_rowCounts, 48, .inr (.inl t_root_rowCounts)))]) [2, 0, 1] 3 (by decide) (by decide) rfl hD
      cases h
      exact rx_l rfl S hr hlk hP hD hS dX11_rows_28
    · have h := br_neg c2 h
      cases h
      exact x_throw 16 S htr hX hX.s4 hS hl.1 dX11_rows_10 dX11_rows_13 (Or.inl ⟨dX11_rows_14, rfl⟩) dX11_rows_16 dX11_rows_19 hout (Nat.le_of_ble_eq_true rfl) (Nat.le_of_ble_eq_true rfl) (Nat.le_of_ble_eq_true rfl) (Nat.le_of_ble_eq_true rfl) hlk (fun t hz hk => xf_mk rfl hP hD hS hz hk) hS.2.2 (Nat.le_refl _) (Nat.le_refl _)
noncomputable def f_X11_round (t_known_size : Int32) (t_known_lengths : Nat → Int32) (t_known_ys : Nat → Int32) (t_known_zs : Nat → Int32) (l1 : Int32) (l2 : Int32) : Option (Option Int32) :=
  if l1 < 0 then (
   some none
  ) else (
   if t_known_size ≤ l1 then (
    some none
   ) else (
    if l2 < 0 then (
     some none
    ) else (
     if l2 ≤ 2 then (
      if l2 = 0 then (
       gd (ixb l1 441) (
        some (some (t_known_lengths l1.toNatClampNeg))
       )
      ) else (
       if l2 = 1 then (
        gd (ixb l1 441) (
         some (some (t_known_ys l1.toNatClampNeg))
        )
       ) else (
        gd (ixb l1 441) (
         some (some (t_known_zs l1.toNatClampNeg))
        )
       )
      )
     ) else (
      some none
     )
    )
   )
  )
set_option maxHeartbeats 4000000 in
set_option maxRecDepth 100000 in
theorem c_X11_round (l : Launch) (D : va_G) (R : va_W) (h_t : Nat) (z_t_0 : Value) (z_t_1 : Value) (z_t_2 : Value) (z_t_3 : Value) (z_t_4 : Value) (z_t_5 : Value) (z_t_6 : Value) (z_t_7 : Value) (z_t_8 : Value) (z_t_9 : Value) (z_t_11 : Value) (z_t_12 : Value) (h_t_known : Nat) (t_known_size : Int32) (h_t_known_lengths : Nat) (k_t_known_lengths : ClassId) (t_known_lengths : Nat → Int32) (h_t_known_ys : Nat) (k_t_known_ys : ClassId) (t_known_ys : Nat → Int32) (h_t_known_zs : Nat) (k_t_known_zs : ClassId) (t_known_zs : Nat → Int32) (l1 : Int32) (l2 : Int32) (o : Option Int32)  (h : f_X11_round t_known_size t_known_lengths t_known_ys t_known_zs l1 l2 = some o) (htr : l.stackTraces = false) (sz : Nat) : vx_Met l yX11_round (WD yX11_round cX11_round 3 (some .int)) ({ frames := 6, cells := 1, slots := 6, locals := 82 }) (va_Pc [.ref h_t, .int l1, .int l2] (PcX D [(k_t_known_lengths, .int), (k_t_known_ys, .int), (k_t_known_zs, .int)] ((h_t, .inr (11, [z_t_0, z_t_1, z_t_2, z_t_3, z_t_4, z_t_5, z_t_6, z_t_7, z_t_8, z_t_9, .ref h_t_known, z_t_11, z_t_12])) :: (h_t_known, .inr (4, [.ref h_t_known_lengths, .ref h_t_known_ys, .ref h_t_known_zs, .int t_known_size])) :: (h_t_known_lengths, .inl (k_t_known_lengths, 441, .inl t_known_lengths)) :: (h_t_known_ys, .inl (k_t_known_ys, 441, .inl t_known_ys)) :: (h_t_known_zs, .inl (k_t_known_zs, 441, .inl t_known_zs)) :: R) sz)) (va_Qi (fun r (_ : Unit) => o = some r) (EnW D ((h_t, .inr (11, [z_t_0, z_t_1, z_t_2, z_t_3, z_t_4, z_t_5, z_t_6, z_t_7, z_t_8, z_t_9, .ref h_t_known, z_t_11, z_t_12])) :: (h_t_known, .inr (4, [.ref h_t_known_lengths, .ref h_t_known_ys, .ref h_t_known_zs, .int t_known_size])) :: (h_t_known_lengths, .inl (k_t_known_lengths, 441, .inl t_known_lengths)) :: (h_t_known_ys, .inl (k_t_known_ys, 441, .inl t_known_ys)) :: (h_t_known_zs, .inl (k_t_known_zs, 441, .inl t_known_zs)) :: R) (va_A ((h_t, .inr (11, [z_t_0, z_t_1, z_t_2, z_t_3, z_t_4, z_t_5, z_t_6, z_t_7, z_t_8, z_t_9, .ref h_t_known, z_t_11, z_t_12])) :: (h_t_known, .inr (4, [.ref h_t_known_lengths, .ref h_t_known_ys, .ref h_t_known_zs, .int t_known_size])) :: (h_t_known_lengths, .inl (k_t_known_lengths, 441, .inl t_known_lengths)) :: (h_t_known_ys, .inl (k_t_known_ys, 441, .inl t_known_ys)) :: (h_t_known_zs, .inl (k_t_known_zs, 441, .inl t_known_zs)) :: R) sz)) (va_A ((h_t, .inr (11, [z_t_0, z_t_1, z_t_2, z_t_3, z_t_4, z_t_5, z_t_6, z_t_7, z_t_8, z_t_9, .ref h_t_known, z_t_11, z_t_12])) :: (h_t_known, .inr (4, [.ref h_t_known_lengths, .ref h_t_known_ys, .ref h_t_known_zs, .int t_known_size])) :: (h_t_known_lengths, .inl (k_t_known_lengths, 441, .inl t_known_lengths)) :: (h_t_known_ys, .inl (k_t_known_ys, 441, .inl t_known_ys)) :: (h_t_known_zs, .inl (k_t_known_zs, 441, .inl t_known_zs)) :: R) sz)) (XF D ((h_t, .inr (11, [z_t_0, z_t_1, z_t_2, z_t_3, z_t_4, z_t_5, z_t_6, z_t_7, z_t_8, z_t_9, .ref h_t_known, z_t_11, z_t_12])) :: (h_t_known, .inr (4, [.ref h_t_known_lengths, .ref h_t_known_ys, .ref h_t_known_zs, .int t_known_size])) :: (h_t_known_lengths, .inl (k_t_known_lengths, 441, .inl t_known_lengths)) :: (h_t_known_ys, .inl (k_t_known_ys, 441, .inl t_known_ys)) :: (h_t_known_zs, .inl (k_t_known_zs, 441, .inl t_known_zs)) :: R) (o = none) (va_A ((h_t, .inr (11, [z_t_0, z_t_1, z_t_2, z_t_3, z_t_4, z_t_5, z_t_6, z_t_7, z_t_8, z_t_9, .ref h_t_known, z_t_11, z_t_12])) :: (h_t_known, .inr (4, [.ref h_t_known_lengths, .ref h_t_known_ys, .ref h_t_known_zs, .int t_known_size])) :: (h_t_known_lengths, .inl (k_t_known_lengths, 441, .inl t_known_lengths)) :: (h_t_known_ys, .inl (k_t_known_ys, 441, .inl t_known_ys)) :: (h_t_known_zs, .inl (k_t_known_zs, 441, .inl t_known_zs)) :: R) sz)) 1 6 (va_A ((h_t, .inr (11, [z_t_0, z_t_1, z_t_2, z_t_3, z_t_4, z_t_5, z_t_6, z_t_7, z_t_8, z_t_9, .ref h_t_known, z_t_11, z_t_12])) :: (h_t_known, .inr (4, [.ref h_t_known_lengths, .ref h_t_known_ys, .ref h_t_known_zs, .int t_known_size])) :: (h_t_known_lengths, .inl (k_t_known_lengths, 441, .inl t_known_lengths)) :: (h_t_known_ys, .inl (k_t_known_ys, 441, .inl t_known_ys)) :: (h_t_known_zs, .inl (k_t_known_zs, 441, .inl t_known_zs)) :: R) sz) := by
  refine ct_startX (QF := fun A => va_Qi (fun r (_ : Unit) => o = some r) (EnW D ((h_t, .inr (11, [z_t_0, z_t_1, z_t_2, z_t_3, z_t_4, z_t_5, z_t_6, z_t_7, z_t_8, z_t_9, .ref h_t_known, z_t_11, z_t_12])) :: (h_t_known, .inr (4, [.ref h_t_known_lengths, .ref h_t_known_ys, .ref h_t_known_zs, .int t_known_size])) :: (h_t_known_lengths, .inl (k_t_known_lengths, 441, .inl t_known_lengths)) :: (h_t_known_ys, .inl (k_t_known_ys, 441, .inl t_known_ys)) :: (h_t_known_zs, .inl (k_t_known_zs, 441, .inl t_known_zs)) :: R) A) A) (P := o = none) ?_ ?_ ?_
  · decide +kernel
  · exact Nat.le_of_ble_eq_true rfl
  intro p e s m args below meth c A ls S hr hlk hnm hS hA hP hD hK hN hX hout hl
  have S : CallFix p m c cX11_round 3 s args AL "DigitBench" := S
  have hx := S.1
  have hb := S.2.1
  have hown := S.2.2.2.1
  have ha := S.2.2.2.2
  have hl : lv_has ls 3 [(0, .ref h_t), (1, .int l1), (2, .int l2)] := hl
  unfold f_X11_round at h
  refine lv_iload_n hx hb dX11_round_0 rfl (lv_at hl 1 rfl) ?_
  refine lv_if_lt (tgt := 24) hx hb dX11_round_1 (by decide) (fun c1 => ?_) (fun c1 => ?_)
  · have h := br_pos c1 h
    cases h
    exact x_throw 31 S htr hX hX.s5 hS hl.1 dX11_round_24 dX11_round_27 (Or.inr ⟨dX11_round_28, rfl⟩) dX11_round_31 dX11_round_34 hout (Nat.le_of_ble_eq_true rfl) (Nat.le_of_ble_eq_true rfl) (Nat.le_of_ble_eq_true rfl) (Nat.le_of_ble_eq_true rfl) hlk (fun t hz hk => xf_mk rfl hP hD hS hz hk) hS.2.2 (Nat.le_refl _) (Nat.le_refl _)
  · have h := br_neg c1 h
    refine lv_iload_n hx hb dX11_round_4 rfl (lv_at hl 1 rfl) ?_
    refine lv_aload_n hx hb dX11_round_5 rfl (lv_at hl 0 rfl) ?_
    refine va_get (D := D) (ci := 11) (v := .ref h_t_known) (C := RX11) (T := TX11) (N := 13) hx hb ha ix11 hown hK hP 0 rfl rfl 10 (by decide) (ha _ q453) (fun _ h9 => h9) rfl dX11_round_6 ?_
    refine va_get (D := D) (ci := 4) (v := .int t_known_size) (C := RX4) (T := TX4) (N := 4) hx hb ha ix4 hown hK hP 1 rfl rfl 3 (by decide) (ha _ q433) (fun _ h9 => h9) rfl dX11_round_9 ?_
    refine lv_icmp_ge (tgt := 24) hx hb dX11_round_12 (by decide) (fun c2 => ?_) (fun c2 => ?_)
    · have h := br_pos c2 h
      cases h
      exact x_throw 31 S htr hX hX.s5 hS hl.1 dX11_round_24 dX11_round_27 (Or.inr ⟨dX11_round_28, rfl⟩) dX11_round_31 dX11_round_34 hout (Nat.le_of_ble_eq_true rfl) (Nat.le_of_ble_eq_true rfl) (Nat.le_of_ble_eq_true rfl) (Nat.le_of_ble_eq_true rfl) hlk (fun t hz hk => xf_mk rfl hP hD hS hz hk) hS.2.2 (Nat.le_refl _) (Nat.le_refl _)
    · have h := br_neg c2 h
      refine lv_iload_n hx hb dX11_round_15 rfl (lv_at hl 2 rfl) ?_
      refine lv_if_lt (tgt := 24) hx hb dX11_round_16 (by decide) (fun c3 => ?_) (fun c3 => ?_)
      · have h := br_pos c3 h
        cases h
        exact x_throw 31 S htr hX hX.s5 hS hl.1 dX11_round_24 dX11_round_27 (Or.inr ⟨dX11_round_28, rfl⟩) dX11_round_31 dX11_round_34 hout (Nat.le_of_ble_eq_true rfl) (Nat.le_of_ble_eq_true rfl) (Nat.le_of_ble_eq_true rfl) (Nat.le_of_ble_eq_true rfl) hlk (fun t hz hk => xf_mk rfl hP hD hS hz hk) hS.2.2 (Nat.le_refl _) (Nat.le_refl _)
      · have h := br_neg c3 h
        refine lv_iload_n hx hb dX11_round_19 rfl (lv_at hl 2 rfl) ?_
        refine lv_iconst (v := 2) hx hb dX11_round_20 (by decide) ?_
        refine lv_icmp_le (tgt := 35) hx hb dX11_round_21 (by decide) (fun c4 => ?_) (fun c4 => ?_)
        · have h := br_pos c4 h
          refine lv_iload_n hx hb dX11_round_35 rfl (lv_at hl 2 rfl) ?_
          refine lv_if_ne (tgt := 51) hx hb dX11_round_36 (by decide) (fun c5 => ?_) (fun c5 => ?_)
          · have h := br_neg c5 h
            refine lv_iload_n hx hb dX11_round_51 rfl (lv_at hl 2 rfl) ?_
            refine lv_iconst (v := 1) hx hb dX11_round_52 (by decide) ?_
            refine lv_icmp_ne (tgt := 68) hx hb dX11_round_53 (by decide) (fun c7 => ?_) (fun c7 => ?_)
            · have h := br_neg c7 h
              refine lv_aload_n hx hb dX11_round_68 rfl (lv_at hl 0 rfl) ?_
              refine va_get (D := D) (ci := 11) (v := .ref h_t_known) (C := RX11) (T := TX11) (N := 13) hx hb ha ix11 hown hK hP 0 rfl rfl 10 (by decide) (ha _ q453) (fun _ h9 => h9) rfl dX11_round_69 ?_
              refine va_get (D := D) (ci := 4) (v := .ref h_t_known_zs) (C := RX4) (T := TX4) (N := 4) hx hb ha ix4 hown hK hP 1 rfl rfl 2 (by decide) (ha _ q431) (fun _ h9 => h9) rfl dX11_round_72 ?_
              refine lv_iload_n hx hb dX11_round_75 rfl (lv_at hl 1 rfl) ?_
              obtain ⟨i9, h⟩ := ix_ok h
              refine va_iald hx hb hK hP 4 2 rfl rfl i9 dX11_round_76 ?_
              cases h
              exact rx_i rfl S hr hlk hP hD hS dX11_round_77
            · have h := br_pos c7 h
              refine lv_aload_n hx hb dX11_round_56 rfl (lv_at hl 0 rfl) ?_
              refine va_get (D := D) (ci := 11) (v := .ref h_t_known) (C := RX11) (T := TX11) (N := 13) hx hb ha ix11 hown hK hP 0 rfl rfl 10 (by decide) (ha _ q453) (fun _ h9 => h9) rfl dX11_round_57 ?_
              refine va_get (D := D) (ci := 4) (v := .ref h_t_known_ys) (C := RX4) (T := TX4) (N := 4) hx hb ha ix4 hown hK hP 1 rfl rfl 1 (by decide) (ha _ q429) (fun _ h9 => h9) rfl dX11_round_60 ?_
              refine lv_iload_n hx hb dX11_round_63 rfl (lv_at hl 1 rfl) ?_
              obtain ⟨i8, h⟩ := ix_ok h
              refine va_iald hx hb hK hP 3 1 rfl rfl i8 dX11_round_64 ?_
              refine lv_goto (tgt := 77) hx hb dX11_round_65 (by decide) ?_
              cases h
              exact rx_i rfl S hr hlk hP hD hS dX11_round_77
          · have h := br_pos c5 h
            refine lv_aload_n hx hb dX11_round_39 rfl (lv_at hl 0 rfl) ?_
            refine va_get (D := D) (ci := 11) (v := .ref h_t_known) (C := RX11) (T := TX11) (N := 13) hx hb ha ix11 hown hK hP 0 rfl rfl 10 (by decide) (ha _ q453) (fun _ h9 => h9) rfl dX11_round_40 ?_
            refine va_get (D := D) (ci := 4) (v := .ref h_t_known_lengths) (C := RX4) (T := TX4) (N := 4) hx hb ha ix4 hown hK hP 1 rfl rfl 0 (by decide) (ha _ q427) (fun _ h9 => h9) rfl dX11_round_43 ?_
            refine lv_iload_n hx hb dX11_round_46 rfl (lv_at hl 1 rfl) ?_
            obtain ⟨i6, h⟩ := ix_ok h
            refine va_iald hx hb hK hP 2 0 rfl rfl i6 dX11_round_47 ?_
            refine lv_goto (tgt := 77) hx hb dX11_round_48 (by decide) ?_
            cases h
            exact rx_i rfl S hr hlk hP hD hS dX11_round_77
        · have h := br_neg c4 h
          cases h
          exact x_throw 31 S htr hX hX.s5 hS hl.1 dX11_round_24 dX11_round_27 (Or.inr ⟨dX11_round_28, rfl⟩) dX11_round_31 dX11_round_34 hout (Nat.le_of_ble_eq_true rfl) (Nat.le_of_ble_eq_true rfl) (Nat.le_of_ble_eq_true rfl) (Nat.le_of_ble_eq_true rfl) hlk (fun t hz hk => xf_mk rfl hP hD hS hz hk) hS.2.2 (Nat.le_refl _) (Nat.le_refl _)
