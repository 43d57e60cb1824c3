noncomputable def f_L_part (p3 : Nat → Int64) (nt : Nat → Int32) (nu : Nat → Int64) (nv : Nat → Int64) (nd : Nat → Int64) (sa : Nat → Nat) (l1 : Int32) (l2 : Int32) : Option (Int32 × (Nat → Int64)) :=
  bnd1 (f_X11_part nt nu nv nd sa l1 l2) fun o_c5 => xm o_c5 (some (1, p3)) fun r_c5 => (
   gd (ixb 0 1) (
    some (0, (vp_updL p3 (0 : Int32).toNatClampNeg r_c5.toInt64))
   )
  )
set_option maxHeartbeats 4000000 in
set_option maxRecDepth 100000 in
theorem c_L_part (l : Launch) (D : va_G) (R : va_W) (NL : List Nat) (nt : Nat → Int32) (nu : Nat → Int64) (nv : Nat → Int64) (nd : Nat → Int64) (h_p0 : Nat) (z_p0_0 : Value) (z_p0_1 : Value) (z_p0_3 : Value) (z_p0_4 : Value) (z_p0_5 : Value) (z_p0_6 : Value) (z_p0_7 : Value) (z_p0_8 : Value) (z_p0_9 : Value) (z_p0_10 : Value) (z_p0_11 : Value) (z_p0_12 : Value) (h_p0_slots : Nat) (k_p0_slots : ClassId) (sa : Nat → Nat) (h_p3 : Nat) (k_p3 : ClassId) (p3 : Nat → Int64) (l1 : Int32) (l2 : Int32) (r : Int32) (o_p3 : Nat → Int64) (hsa : ∀ k : Nat, k < 10 → sa k ∈ NL) (h : f_L_part p3 nt nu nv nd sa l1 l2 = some (r, o_p3)) (htr : l.stackTraces = false) (sz : Nat) : Met l yL_part (WDH yL_part cL_part 5 (some .int) [(0, 10, 13, 13)]) ({ frames := 7, cells := 1, slots := 6, locals := 105 }) (va_Pc [.ref h_p0, .int l1, .int l2, .ref h_p3] (PcX D [(k_p0_slots, .object "DigitBench$Num"), (k_p3, .long)] ((h_p0, .inr (11, [z_p0_0, z_p0_1, .ref h_p0_slots, z_p0_3, z_p0_4, z_p0_5, z_p0_6, z_p0_7, z_p0_8, z_p0_9, z_p0_10, z_p0_11, z_p0_12])) :: (h_p0_slots, .inl (k_p0_slots, 10, .inr (.inr (.inr (.inr (fun k => some (sa k))))))) :: (h_p3, .inl (k_p3, 1, .inr (.inl p3))) :: (R ++ va_pl NL (nmE nt nu nv nd))) sz)) (QI D r ((h_p0, .inr (11, [z_p0_0, z_p0_1, .ref h_p0_slots, z_p0_3, z_p0_4, z_p0_5, z_p0_6, z_p0_7, z_p0_8, z_p0_9, z_p0_10, z_p0_11, z_p0_12])) :: (h_p0_slots, .inl (k_p0_slots, 10, .inr (.inr (.inr (.inr (fun k => some (sa k))))))) :: (h_p3, .inl (k_p3, 1, .inr (.inl o_p3))) :: (R ++ va_pl NL (nmE nt nu nv nd))) (va_A ((h_p0, .inr (11, [z_p0_0, z_p0_1, .ref h_p0_slots, z_p0_3, z_p0_4, z_p0_5, z_p0_6, z_p0_7, z_p0_8, z_p0_9, z_p0_10, z_p0_11, z_p0_12])) :: (h_p0_slots, .inl (k_p0_slots, 10, .inr (.inr (.inr (.inr (fun k => some (sa k))))))) :: (h_p3, .inl (k_p3, 1, .inr (.inl p3))) :: (R ++ va_pl NL (nmE nt nu nv nd))) sz)) 1 6 (va_A ((h_p0, .inr (11, [z_p0_0, z_p0_1, .ref h_p0_slots, z_p0_3, z_p0_4, z_p0_5, z_p0_6, z_p0_7, z_p0_8, z_p0_9, z_p0_10, z_p0_11, z_p0_12])) :: (h_p0_slots, .inl (k_p0_slots, 10, .inr (.inr (.inr (.inr (fun k => some (sa k))))))) :: (h_p3, .inl (k_p3, 1, .inr (.inl p3))) :: (R ++ va_pl NL (nmE nt nu nv nd))) sz) := by
  refine ct_startH (hh := [(0, 10, 13, 13)]) (QF := fun A => QI D r ((h_p0, .inr (11, [z_p0_0, z_p0_1, .ref h_p0_slots, z_p0_3, z_p0_4, z_p0_5, z_p0_6, z_p0_7, z_p0_8, z_p0_9, z_p0_10, z_p0_11, z_p0_12])) :: (h_p0_slots, .inl (k_p0_slots, 10, .inr (.inr (.inr (.inr (fun k => some (sa k))))))) :: (h_p3, .inl (k_p3, 1, .inr (.inl o_p3))) :: (R ++ va_pl NL (nmE nt nu nv nd))) A) ?_ ?_ ?_
  · decide +kernel
  · exact Nat.le_of_ble_eq_true rfl
  intro p e s m args below meth c A ls S hr hlk hnm htb hS hA hP hD hK hN hX hl
  have S : CallFix p m c cL_part 5 s args AL "DigitBenchLaw" := S
  have hx := S.1
  have hb := S.2.1
  have hown := S.2.2.2.1
  have ha := S.2.2.2.2
  have hl : lv_has ls 5 [(0, .ref h_p0), (1, .int l1), (2, .int l2), (3, .ref h_p3)] := hl
  unfold f_L_part at h
  refine lv_aload_n hx hb dL_part_0 rfl (lv_at hl 3 rfl) ?_
  refine lv_iconst (v := 0) hx hb dL_part_1 (by decide) ?_
  refine lv_aload_n hx hb dL_part_2 rfl (lv_at hl 0 rfl) ?_
  refine lv_iload_n hx hb dL_part_3 rfl (lv_at hl 1 rfl) ?_
  refine lv_iload_n hx hb dL_part_4 rfl (lv_at hl 2 rfl) ?_
  obtain ⟨o_c5, e_c5, h⟩ := bnd1_ok h
  refine clx_i (rnx_v (ci := 11) (As := [.int l1, .int l2]) (rest := [.int 0, .ref h_p3]) S (c_X11_part l D ((h_p3, .inl (k_p3, 1, .inr (.inl p3))) :: R) NL nt nu nv nd h_p0 (z_p0_0) (z_p0_1) (z_p0_3) (z_p0_4) (z_p0_5) (z_p0_6) (z_p0_7) (z_p0_8) (z_p0_9) (z_p0_10) (z_p0_11) (z_p0_12) h_p0_slots k_p0_slots sa l1 l2 o_c5 hsa e_c5 htr _) q842 q843 q844 q48 q845 nd_X11_part ⟨Nat.le_of_ble_eq_true rfl, Nat.le_of_ble_eq_true rfl⟩ rfl rfl hP hD (hK.sub (tys' := [(k_p0_slots, .object "DigitBench$Num")]) [0] rfl) hN hX hS hA rfl ⟨0, _, rfl⟩ rfl hl.1 rfl (Nat.le_of_ble_eq_true rfl) dL_part_5 ⟨Nat.le_of_ble_eq_true rfl, Nat.le_of_ble_eq_true rfl⟩) hS hA hD (fun ce q9 H locs ho hP hD hS hce hcv hcl => ?_) (fun r_c5 H locs ho hP hD hS => ?_)
  · subst ho
    have h := xm_n h
    refine x_catch S hX htb ⟨by decide, by decide⟩ hce hcv hcl ?_
    refine lv_astore (lv' := [(4, .ref q9), (0, .ref h_p0), (1, .int l1), (2, .int l2), (3, .ref h_p3)]) hx hb dL_part_13 hl (by decide) rfl (fun ls hl => ?_)
    refine lv_iconst (v := 1) hx hb dL_part_15 (by decide) ?_
    cases h
    exact rt_i S hr hlk hP hD hS dL_part_16
  subst ho
  have h := xm_s h
  refine lv_i2l (v := r_c5.toInt64) hx hb dL_part_8 rfl ?_
  obtain ⟨i1, h⟩ := ix_ok h
  refine va_last hx hb hK hP hD hS 2 1 rfl rfl i1 dL_part_9 (fun H locs hP hD hS => ?_)
  have hP : va_P D vwCl ((h_p0, .inr (11, [z_p0_0, z_p0_1, .ref h_p0_slots, z_p0_3, z_p0_4, z_p0_5, z_p0_6, z_p0_7, z_p0_8, z_p0_9, z_p0_10, z_p0_11, z_p0_12])) :: (h_p0_slots, .inl (k_p0_slots, 10, .inr (.inr (.inr (.inr (fun k => some (sa k))))))) :: (h_p3, .inl (k_p3, 1, .inr (.inl (vp_updL p3 (0 : Int32).toNatClampNeg r_c5.toInt64)))) :: (R ++ va_pl NL (nmE nt nu nv nd))) H := hP
  have hD : va_D A ((h_p0, .inr (11, [z_p0_0, z_p0_1, .ref h_p0_slots, z_p0_3, z_p0_4, z_p0_5, z_p0_6, z_p0_7, z_p0_8, z_p0_9, z_p0_10, z_p0_11, z_p0_12])) :: (h_p0_slots, .inl (k_p0_slots, 10, .inr (.inr (.inr (.inr (fun k => some (sa k))))))) :: (h_p3, .inl (k_p3, 1, .inr (.inl (vp_updL p3 (0 : Int32).toNatClampNeg r_c5.toInt64)))) :: (R ++ va_pl NL (nmE nt nu nv nd))) := hD
  refine lv_goto (tgt := 17) hx hb dL_part_10 (by decide) ?_
  refine lv_iconst (v := 0) hx hb dL_part_17 (by decide) ?_
  cases h
  exact rt_i S hr hlk hP hD hS dL_part_18
noncomputable def f_L_floor (p0_root_a : Int32) (p0_root_square : Int64) (p2 : Nat → Int64) (nt : Nat → Int32) (nu : Nat → Int64) (nv : Nat → Int64) (nd : Nat → Int64) (sa : Nat → Nat) (l1 : Int32) : Option (Int32 × (Nat → Int64)) :=
  bnd1 (f_X11_floor p0_root_a p0_root_square nt nu nv nd sa l1) fun o_c4 => xm o_c4 (some (1, p2)) fun r_c4 => (
   gd (ixb 0 1) (
    some (0, (vp_updL p2 (0 : Int32).toNatClampNeg r_c4))
   )
  )
set_option maxHeartbeats 4000000 in
set_option maxRecDepth 100000 in
theorem c_L_floor (l : Launch) (D : va_G) (R : va_W) (NL : List Nat) (nt : Nat → Int32) (nu : Nat → Int64) (nv : Nat → Int64) (nd : Nat → Int64) (h_p0 : Nat) (z_p0_0 : Value) (z_p0_3 : Value) (z_p0_4 : Value) (z_p0_5 : Value) (z_p0_6 : Value) (z_p0_7 : Value) (z_p0_8 : Value) (z_p0_9 : Value) (z_p0_10 : Value) (z_p0_11 : Value) (z_p0_12 : Value) (h_p0_root : Nat) (p0_root_a : Int32) (z_p0_root_1 : Value) (p0_root_square : Int64) (z_p0_root_3 : Value) (z_p0_root_4 : Value) (z_p0_root_5 : Value) (z_p0_root_6 : Value) (z_p0_root_7 : Value) (h_p0_slots : Nat) (k_p0_slots : ClassId) (sa : Nat → Nat) (h_p2 : Nat) (k_p2 : ClassId) (p2 : Nat → Int64) (l1 : Int32) (r : Int32) (o_p2 : Nat → Int64) (hsa : ∀ k : Nat, k < 10 → sa k ∈ NL) (h : f_L_floor p0_root_a p0_root_square p2 nt nu nv nd sa l1 = some (r, o_p2)) (htr : l.stackTraces = false) (sz : Nat) : Met l yL_floor (WDH yL_floor cL_floor 4 (some .int) [(0, 8, 11, 13)]) ({ frames := 7, cells := 1, slots := 6, locals := 103 }) (va_Pc [.ref h_p0, .int l1, .ref h_p2] (PcX D [(k_p0_slots, .object "DigitBench$Num"), (k_p2, .long)] ((h_p0, .inr (11, [z_p0_0, .ref h_p0_root, .ref h_p0_slots, z_p0_3, z_p0_4, z_p0_5, z_p0_6, z_p0_7, z_p0_8, z_p0_9, z_p0_10, z_p0_11, z_p0_12])) :: (h_p0_root, .inr (3, [.int p0_root_a, z_p0_root_1, .long p0_root_square, z_p0_root_3, z_p0_root_4, z_p0_root_5, z_p0_root_6, z_p0_root_7])) :: (h_p0_slots, .inl (k_p0_slots, 10, .inr (.inr (.inr (.inr (fun k => some (sa k))))))) :: (h_p2, .inl (k_p2, 1, .inr (.inl p2))) :: (R ++ va_pl NL (nmE nt nu nv nd))) sz)) (QI D r ((h_p0, .inr (11, [z_p0_0, .ref h_p0_root, .ref h_p0_slots, z_p0_3, z_p0_4, z_p0_5, z_p0_6, z_p0_7, z_p0_8, z_p0_9, z_p0_10, z_p0_11, z_p0_12])) :: (h_p0_root, .inr (3, [.int p0_root_a, z_p0_root_1, .long p0_root_square, z_p0_root_3, z_p0_root_4, z_p0_root_5, z_p0_root_6, z_p0_root_7])) :: (h_p0_slots, .inl (k_p0_slots, 10, .inr (.inr (.inr (.inr (fun k => some (sa k))))))) :: (h_p2, .inl (k_p2, 1, .inr (.inl o_p2))) :: (R ++ va_pl NL (nmE nt nu nv nd))) (va_A ((h_p0, .inr (11, [z_p0_0, .ref h_p0_root, .ref h_p0_slots, z_p0_3, z_p0_4, z_p0_5, z_p0_6, z_p0_7, z_p0_8, z_p0_9, z_p0_10, z_p0_11, z_p0_12])) :: (h_p0_root, .inr (3, [.int p0_root_a, z_p0_root_1, .long p0_root_square, z_p0_root_3, z_p0_root_4, z_p0_root_5, z_p0_root_6, z_p0_root_7])) :: (h_p0_slots, .inl (k_p0_slots, 10, .inr (.inr (.inr (.inr (fun k => some (sa k))))))) :: (h_p2, .inl (k_p2, 1, .inr (.inl p2))) :: (R ++ va_pl NL (nmE nt nu nv nd))) sz)) 1 6 (va_A ((h_p0, .inr (11, [z_p0_0, .ref h_p0_root, .ref h_p0_slots, z_p0_3, z_p0_4, z_p0_5, z_p0_6, z_p0_7, z_p0_8, z_p0_9, z_p0_10, z_p0_11, z_p0_12])) :: (h_p0_root, .inr (3, [.int p0_root_a, z_p0_root_1, .long p0_root_square, z_p0_root_3, z_p0_root_4, z_p0_root_5, z_p0_root_6, z_p0_root_7])) :: (h_p0_slots, .inl (k_p0_slots, 10, .inr (.inr (.inr (.inr (fun k => some (sa k))))))) :: (h_p2, .inl (k_p2, 1, .inr (.inl p2))) :: (R ++ va_pl NL (nmE nt nu nv nd))) sz) := by
  refine ct_startH (hh := [(0, 8, 11, 13)]) (QF := fun A => QI D r ((h_p0, .inr (11, [z_p0_0, .ref h_p0_root, .ref h_p0_slots, z_p0_3, z_p0_4, z_p0_5, z_p0_6, z_p0_7, z_p0_8, z_p0_9, z_p0_10, z_p0_11, z_p0_12])) :: (h_p0_root, .inr (3, [.int p0_root_a, z_p0_root_1, .long p0_root_square, z_p0_root_3, z_p0_root_4, z_p0_root_5, z_p0_root_6, z_p0_root_7])) :: (h_p0_slots, .inl (k_p0_slots, 10, .inr (.inr (.inr (.inr (fun k => some (sa k))))))) :: (h_p2, .inl (k_p2, 1, .inr (.inl o_p2))) :: (R ++ va_pl NL (nmE nt nu nv nd))) A) ?_ ?_ ?_
  · decide +kernel
  · exact Nat.le_of_ble_eq_true rfl
  intro p e s m args below meth c A ls S hr hlk hnm htb hS hA hP hD hK hN hX hl
  have S : CallFix p m c cL_floor 4 s args AL "DigitBenchLaw" := S
  have hx := S.1
  have hb := S.2.1
  have hown := S.2.2.2.1
  have ha := S.2.2.2.2
  have hl : lv_has ls 4 [(0, .ref h_p0), (1, .int l1), (2, .ref h_p2)] := hl
  unfold f_L_floor at h
  refine lv_aload_n hx hb dL_floor_0 rfl (lv_at hl 2 rfl) ?_
  refine lv_iconst (v := 0) hx hb dL_floor_1 (by decide) ?_
  refine lv_aload_n hx hb dL_floor_2 rfl (lv_at hl 0 rfl) ?_
  refine lv_iload_n hx hb dL_floor_3 rfl (lv_at hl 1 rfl) ?_
  obtain ⟨o_c4, e_c4, h⟩ := bnd1_ok h
  refine clx_l (rnx_v (ci := 11) (As := [.int l1]) (rest := [.int 0, .ref h_p2]) S (c_X11_floor l D ((h_p2, .inl (k_p2, 1, .inr (.inl p2))) :: R) NL nt nu nv nd h_p0 (z_p0_0) (z_p0_3) (z_p0_4) (z_p0_5) (z_p0_6) (z_p0_7) (z_p0_8) (z_p0_9) (z_p0_10) (z_p0_11) (z_p0_12) h_p0_root p0_root_a (z_p0_root_1) p0_root_square (z_p0_root_3) (z_p0_root_4) (z_p0_root_5) (z_p0_root_6) (z_p0_root_7) h_p0_slots k_p0_slots sa l1 o_c4 hsa e_c4 htr _) q914 q915 q916 q48 q917 nd_X11_floor ⟨Nat.le_of_ble_eq_true rfl, Nat.le_of_ble_eq_true rfl⟩ rfl rfl hP hD (hK.sub (tys' := [(k_p0_slots, .object "DigitBench$Num")]) [0] rfl) hN hX hS hA rfl ⟨0, _, rfl⟩ rfl hl.1 rfl (Nat.le_of_ble_eq_true rfl) dL_floor_4 ⟨Nat.le_of_ble_eq_true rfl, Nat.le_of_ble_eq_true rfl⟩) hS hA hD (fun ce q9 H locs ho hP hD hS hce hcv hcl => ?_) (fun r_c4 H locs ho hP hD hS => ?_)
  · subst ho
    have h := xm_n h
    refine x_catch S hX htb ⟨by decide, by decide⟩ hce hcv hcl ?_
    refine lv_astore_n (lv' := [(3, .ref q9), (0, .ref h_p0), (1, .int l1), (2, .ref h_p2)]) hx hb dL_floor_11 rfl hl (by decide) rfl (fun ls hl => ?_)
    refine lv_iconst (v := 1) hx hb dL_floor_12 (by decide) ?_
    cases h
    exact rt_i S hr hlk hP hD hS dL_floor_13
  subst ho
  have h := xm_s h
  obtain ⟨i1, h⟩ := ix_ok h
  refine va_last hx hb hK hP hD hS 3 1 rfl rfl i1 dL_floor_7 (fun H locs hP hD hS => ?_)
  have hP : va_P D vwCl ((h_p0, .inr (11, [z_p0_0, .ref h_p0_root, .ref h_p0_slots, z_p0_3, z_p0_4, z_p0_5, z_p0_6, z_p0_7, z_p0_8, z_p0_9, z_p0_10, z_p0_11, z_p0_12])) :: (h_p0_root, .inr (3, [.int p0_root_a, z_p0_root_1, .long p0_root_square, z_p0_root_3, z_p0_root_4, z_p0_root_5, z_p0_root_6, z_p0_root_7])) :: (h_p0_slots, .inl (k_p0_slots, 10, .inr (.inr (.inr (.inr (fun k => some (sa k))))))) :: (h_p2, .inl (k_p2, 1, .inr (.inl (vp_updL p2 (0 : Int32).toNatClampNeg r_c4)))) :: (R ++ va_pl NL (nmE nt nu nv nd))) H := hP
  have hD : va_D A ((h_p0, .inr (11, [z_p0_0, .ref h_p0_root, .ref h_p0_slots, z_p0_3, z_p0_4, z_p0_5, z_p0_6, z_p0_7, z_p0_8, z_p0_9, z_p0_10, z_p0_11, z_p0_12])) :: (h_p0_root, .inr (3, [.int p0_root_a, z_p0_root_1, .long p0_root_square, z_p0_root_3, z_p0_root_4, z_p0_root_5, z_p0_root_6, z_p0_root_7])) :: (h_p0_slots, .inl (k_p0_slots, 10, .inr (.inr (.inr (.inr (fun k => some (sa k))))))) :: (h_p2, .inl (k_p2, 1, .inr (.inl (vp_updL p2 (0 : Int32).toNatClampNeg r_c4)))) :: (R ++ va_pl NL (nmE nt nu nv nd))) := hD
  refine lv_goto (tgt := 14) hx hb dL_floor_8 (by decide) ?_
  refine lv_iconst (v := 0) hx hb dL_floor_14 (by decide) ?_
  cases h
  exact rt_i S hr hlk hP hD hS dL_floor_15
noncomputable def f_L_one (p0_root_a : Int32) (p0_root_b : Int32) (p2 : Nat → Int64) (l1 : Int32) : Option (Int32 × (Nat → Int64)) :=
  bnd1 (f_X11_one p0_root_a p0_root_b l1) fun o_c4 => xm o_c4 (some (1, p2)) fun r_c4 => (
   gd (ixb 0 1) (
    some (0, (vp_updL p2 (0 : Int32).toNatClampNeg r_c4.toInt64))
   )
  )
set_option maxHeartbeats 4000000 in
set_option maxRecDepth 100000 in
theorem c_L_one (l : Launch) (D : va_G) (R : va_W) (h_p0 : Nat) (z_p0_0 : Value) (z_p0_2 : Value) (z_p0_3 : Value) (z_p0_4 : Value) (z_p0_5 : Value) (z_p0_6 : Value) (z_p0_7 : Value) (z_p0_8 : Value) (z_p0_9 : Value) (z_p0_10 : Value) (z_p0_11 : Value) (z_p0_12 : Value) (h_p0_root : Nat) (p0_root_a : Int32) (p0_root_b : Int32) (z_p0_root_2 : Value) (z_p0_root_3 : Value) (z_p0_root_4 : Value) (z_p0_root_5 : Value) (z_p0_root_6 : Value) (z_p0_root_7 : Value) (h_p2 : Nat) (k_p2 : ClassId) (p2 : Nat → Int64) (l1 : Int32) (r : Int32) (o_p2 : Nat → Int64)  (h : f_L_one p0_root_a p0_root_b p2 l1 = some (r, o_p2)) (htr : l.stackTraces = false) (sz : Nat) : Met l yL_one (WDH yL_one cL_one 4 (some .int) [(0, 9, 12, 13)]) ({ frames := 7, cells := 1, slots := 6, locals := 103 }) (va_Pc [.ref h_p0, .int l1, .ref h_p2] (PcX D [(k_p2, .long)] ((h_p0, .inr (11, [z_p0_0, .ref h_p0_root, z_p0_2, z_p0_3, z_p0_4, z_p0_5, z_p0_6, z_p0_7, z_p0_8, z_p0_9, z_p0_10, z_p0_11, z_p0_12])) :: (h_p0_root, .inr (3, [.int p0_root_a, .int p0_root_b, z_p0_root_2, z_p0_root_3, z_p0_root_4, z_p0_root_5, z_p0_root_6, z_p0_root_7])) :: (h_p2, .inl (k_p2, 1, .inr (.inl p2))) :: R) sz)) (QI D r ((h_p0, .inr (11, [z_p0_0, .ref h_p0_root, z_p0_2, z_p0_3, z_p0_4, z_p0_5, z_p0_6, z_p0_7, z_p0_8, z_p0_9, z_p0_10, z_p0_11, z_p0_12])) :: (h_p0_root, .inr (3, [.int p0_root_a, .int p0_root_b, z_p0_root_2, z_p0_root_3, z_p0_root_4, z_p0_root_5, z_p0_root_6, z_p0_root_7])) :: (h_p2, .inl (k_p2, 1, .inr (.inl o_p2))) :: R) (va_A ((h_p0, .inr (11, [z_p0_0, .ref h_p0_root, z_p0_2, z_p0_3, z_p0_4, z_p0_5, z_p0_6, z_p0_7, z_p0_8, z_p0_9, z_p0_10, z_p0_11, z_p0_12])) :: (h_p0_root, .inr (3, [.int p0_root_a, .int p0_root_b, z_p0_root_2, z_p0_root_3, z_p0_root_4, z_p0_root_5, z_p0_root_6, z_p0_root_7])) :: (h_p2, .inl (k_p2, 1, .inr (.inl p2))) :: R) sz)) 1 6 (va_A ((h_p0, .inr (11, [z_p0_0, .ref h_p0_root, z_p0_2, z_p0_3, z_p0_4, z_p0_5, z_p0_6, z_p0_7, z_p0_8, z_p0_9, z_p0_10, z_p0_11, z_p0_12])) :: (h_p0_root, .inr (3, [.int p0_root_a, .int p0_root_b, z_p0_root_2, z_p0_root_3, z_p0_root_4, z_p0_root_5, z_p0_root_6, z_p0_root_7])) :: (h_p2, .inl (k_p2, 1, .inr (.inl p2))) :: R) sz) := by
  refine ct_startH (hh := [(0, 9, 12, 13)]) (QF := fun A => QI D r ((h_p0, .inr (11, [z_p0_0, .ref h_p0_root, z_p0_2, z_p0_3, z_p0_4, z_p0_5, z_p0_6, z_p0_7, z_p0_8, z_p0_9, z_p0_10, z_p0_11, z_p0_12])) :: (h_p0_root, .inr (3, [.int p0_root_a, .int p0_root_b, z_p0_root_2, z_p0_root_3, z_p0_root_4, z_p0_root_5, z_p0_root_6, z_p0_root_7])) :: (h_p2, .inl (k_p2, 1, .inr (.inl o_p2))) :: R) A) ?_ ?_ ?_
  · decide +kernel
  · exact Nat.le_of_ble_eq_true rfl
  intro p e s m args below meth c A ls S hr hlk hnm htb hS hA hP hD hK hN hX hl
  have S : CallFix p m c cL_one 4 s args AL "DigitBenchLaw" := S
  have hx := S.1
  have hb := S.2.1
  have hown := S.2.2.2.1
  have ha := S.2.2.2.2
  have hl : lv_has ls 4 [(0, .ref h_p0), (1, .int l1), (2, .ref h_p2)] := hl
  unfold f_L_one at h
  refine lv_aload_n hx hb dL_one_0 rfl (lv_at hl 2 rfl) ?_
  refine lv_iconst (v := 0) hx hb dL_one_1 (by decide) ?_
  refine lv_aload_n hx hb dL_one_2 rfl (lv_at hl 0 rfl) ?_
  refine lv_iload_n hx hb dL_one_3 rfl (lv_at hl 1 rfl) ?_
  obtain ⟨o_c4, e_c4, h⟩ := bnd1_ok h
  refine clx_i (rnx_v (ci := 11) (As := [.int l1]) (rest := [.int 0, .ref h_p2]) S (c_X11_one l D ((h_p2, .inl (k_p2, 1, .inr (.inl p2))) :: R) h_p0 (z_p0_0) (z_p0_2) (z_p0_3) (z_p0_4) (z_p0_5) (z_p0_6) (z_p0_7) (z_p0_8) (z_p0_9) (z_p0_10) (z_p0_11) (z_p0_12) h_p0_root p0_root_a p0_root_b (z_p0_root_2) (z_p0_root_3) (z_p0_root_4) (z_p0_root_5) (z_p0_root_6) (z_p0_root_7) l1 o_c4 e_c4 htr _) q932 q933 q934 q48 q935 nd_X11_one ⟨Nat.le_of_ble_eq_true rfl, Nat.le_of_ble_eq_true rfl⟩ rfl rfl hP hD (hK.sub (tys' := []) [] rfl) hN hX hS hA rfl ⟨0, _, rfl⟩ rfl hl.1 rfl (Nat.le_of_ble_eq_true rfl) dL_one_4 ⟨Nat.le_of_ble_eq_true rfl, Nat.le_of_ble_eq_true rfl⟩) hS hA hD (fun ce q9 H locs ho hP hD hS hce hcv hcl => ?_) (fun r_c4 H locs ho hP hD hS => ?_)
  · subst ho
    have h := xm_n h
    refine x_catch S hX htb ⟨by decide, by decide⟩ hce hcv hcl ?_
    refine lv_astore_n (lv' := [(3, .ref q9), (0, .ref h_p0), (1, .int l1), (2, .ref h_p2)]) hx hb dL_one_12 rfl hl (by decide) rfl (fun ls hl => ?_)
    refine lv_iconst (v := 1) hx hb dL_one_13 (by decide) ?_
    cases h
    exact rt_i S hr hlk hP hD hS dL_one_14
  subst ho
  have h := xm_s h
  refine lv_i2l (v := r_c4.toInt64) hx hb dL_one_7 rfl ?_
  obtain ⟨i1, h⟩ := ix_ok h
  refine va_last hx hb hK hP hD hS 2 0 rfl rfl i1 dL_one_8 (fun H locs hP hD hS => ?_)
  have hP : va_P D vwCl ((h_p0, .inr (11, [z_p0_0, .ref h_p0_root, z_p0_2, z_p0_3, z_p0_4, z_p0_5, z_p0_6, z_p0_7, z_p0_8, z_p0_9, z_p0_10, z_p0_11, z_p0_12])) :: (h_p0_root, .inr (3, [.int p0_root_a, .int p0_root_b, z_p0_root_2, z_p0_root_3, z_p0_root_4, z_p0_root_5, z_p0_root_6, z_p0_root_7])) :: (h_p2, .inl (k_p2, 1, .inr (.inl (vp_updL p2 (0 : Int32).toNatClampNeg r_c4.toInt64)))) :: R) H := hP
  have hD : va_D A ((h_p0, .inr (11, [z_p0_0, .ref h_p0_root, z_p0_2, z_p0_3, z_p0_4, z_p0_5, z_p0_6, z_p0_7, z_p0_8, z_p0_9, z_p0_10, z_p0_11, z_p0_12])) :: (h_p0_root, .inr (3, [.int p0_root_a, .int p0_root_b, z_p0_root_2, z_p0_root_3, z_p0_root_4, z_p0_root_5, z_p0_root_6, z_p0_root_7])) :: (h_p2, .inl (k_p2, 1, .inr (.inl (vp_updL p2 (0 : Int32).toNatClampNeg r_c4.toInt64)))) :: R) := hD
  refine lv_goto (tgt := 15) hx hb dL_one_9 (by decide) ?_
  refine lv_iconst (v := 0) hx hb dL_one_15 (by decide) ?_
  cases h
  exact rt_i S hr hlk hP hD hS dL_one_16
noncomputable def f_L_rows (p0_root_counted : Int32) (p0_root_rowCounts : Nat → Int64) (p2 : Nat → Int64) (l1 : Int32) : Option (Int32 × (Nat → Int64)) :=
  bnd1 (f_X11_rows p0_root_counted p0_root_rowCounts l1) fun o_c4 => xm o_c4 (some (1, p2)) fun r_c4 => (
   gd (ixb 0 1) (
    some (0, (vp_updL p2 (0 : Int32).toNatClampNeg r_c4))
   )
  )
set_option maxHeartbeats 4000000 in
set_option maxRecDepth 100000 in
theorem c_L_rows (l : Launch) (D : va_G) (R : va_W) (h_p0 : Nat) (z_p0_0 : Value) (z_p0_2 : Value) (z_p0_3 : Value) (z_p0_4 : Value) (z_p0_5 : Value) (z_p0_6 : Value) (z_p0_7 : Value) (z_p0_8 : Value) (z_p0_9 : Value) (z_p0_10 : Value) (z_p0_11 : Value) (z_p0_12 : Value) (h_p0_root : Nat) (z_p0_root_0 : Value) (z_p0_root_1 : Value) (z_p0_root_2 : Value) (z_p0_root_3 : Value) (z_p0_root_4 : Value) (z_p0_root_6 : Value) (p0_root_counted : Int32) (h_p0_root_rowCounts : Nat) (k_p0_root_rowCounts : ClassId) (p0_root_rowCounts : Nat → Int64) (h_p2 : Nat) (k_p2 : ClassId) (p2 : Nat → Int64) (l1 : Int32) (r : Int32) (o_p2 : Nat → Int64)  (h : f_L_rows p0_root_counted p0_root_rowCounts p2 l1 = some (r, o_p2)) (htr : l.stackTraces = false) (sz : Nat) : Met l yL_rows (WDH yL_rows cL_rows 4 (some .int) [(0, 8, 11, 13)]) ({ frames := 7, cells := 1, slots := 6, locals := 103 }) (va_Pc [.ref h_p0, .int l1, .ref h_p2] (PcX D [(k_p0_root_rowCounts, .long), (k_p2, .long)] ((h_p0, .inr (11, [z_p0_0, .ref h_p0_root, z_p0_2, z_p0_3, z_p0_4, z_p0_5, z_p0_6, z_p0_7, z_p0_8, z_p0_9, z_p0_10, z_p0_11, z_p0_12])) :: (h_p0_root, .inr (3, [z_p0_root_0, z_p0_root_1, z_p0_root_2, z_p0_root_3, z_p0_root_4, .ref h_p0_root_rowCounts, z_p0_root_6, .int p0_root_counted])) :: (h_p0_root_rowCounts, .inl (k_p0_root_rowCounts, 48, .inr (.inl p0_root_rowCounts))) :: (h_p2, .inl (k_p2, 1, .inr (.inl p2))) :: R) sz)) (QI D r ((h_p0, .inr (11, [z_p0_0, .ref h_p0_root, z_p0_2, z_p0_3, z_p0_4, z_p0_5, z_p0_6, z_p0_7, z_p0_8, z_p0_9, z_p0_10, z_p0_11, z_p0_12])) :: (h_p0_root, .inr (3, [z_p0_root_0, z_p0_root_1, z_p0_root_2, z_p0_root_3, z_p0_root_4, .ref h_p0_root_rowCounts, z_p0_root_6, .int p0_root_counted])) :: (h_p0_root_rowCounts, .inl (k_p0_root_rowCounts, 48, .inr (.inl p0_root_rowCounts))) :: (h_p2, .inl (k_p2, 1, .inr (.inl o_p2))) :: R) (va_A ((h_p0, .inr (11, [z_p0_0, .ref h_p0_root, z_p0_2, z_p0_3, z_p0_4, z_p0_5, z_p0_6, z_p0_7, z_p0_8, z_p0_9, z_p0_10, z_p0_11, z_p0_12])) :: (h_p0_root, .inr (3, [z_p0_root_0, z_p0_root_1, z_p0_root_2, z_p0_root_3, z_p0_root_4, .ref h_p0_root_rowCounts, z_p0_root_6, .int p0_root_counted])) :: (h_p0_root_rowCounts, .inl (k_p0_root_rowCounts, 48, .inr (.inl p0_root_rowCounts))) :: (h_p2, .inl (k_p2, 1, .inr (.inl p2))) :: R) sz)) 1 6 (va_A ((h_p0, .inr (11, [z_p0_0, .ref h_p0_root, z_p0_2, z_p0_3, z_p0_4, z_p0_5, z_p0_6, z_p0_7, z_p0_8, z_p0_9, z_p0_10, z_p0_11, z_p0_12])) :: (h_p0_root, .inr (3, [z_p0_root_0, z_p0_root_1, z_p0_root_2, z_p0_root_3, z_p0_root_4, .ref h_p0_root_rowCounts, z_p0_root_6, .int p0_root_counted])) :: (h_p0_root_rowCounts, .inl (k_p0_root_rowCounts, 48, .inr (.inl p0_root_rowCounts))) :: (h_p2, .inl (k_p2, 1, .inr (.inl p2))) :: R) sz) := by
  refine ct_startH (hh := [(0, 8, 11, 13)]) (QF := fun A => QI D r ((h_p0, .inr (11, [z_p0_0, .ref h_p0_root, z_p0_2, z_p0_3, z_p0_4, z_p0_5, z_p0_6, z_p0_7, z_p0_8, z_p0_9, z_p0_10, z_p0_11, z_p0_12])) :: (h_p0_root, .inr (3, [z_p0_root_0, z_p0_root_1, z_p0_root_2, z_p0_root_3, z_p0_root_4, .ref h_p0_root_rowCounts, z_p0_root_6, .int p0_root_counted])) :: (h_p0_root_rowCounts, .inl (k_p0_root_rowCounts, 48, .inr (.inl p0_root_rowCounts))) :: (h_p2, .inl (k_p2, 1, .inr (.inl o_p2))) :: R) A) ?_ ?_ ?_
  · decide +kernel
  · exact Nat.le_of_ble_eq_true rfl
  intro p e s m args below meth c A ls S hr hlk hnm htb hS hA hP hD hK hN hX hl
  have S : CallFix p m c cL_rows 4 s args AL "DigitBenchLaw" := S
  have hx := S.1
  have hb := S.2.1
  have hown := S.2.2.2.1
  have ha := S.2.2.2.2
  have hl : lv_has ls 4 [(0, .ref h_p0), (1, .int l1), (2, .ref h_p2)] := hl
  unfold f_L_rows at h
  refine lv_aload_n hx hb dL_rows_0 rfl (lv_at hl 2 rfl) ?_
  refine lv_iconst (v := 0) hx hb dL_rows_1 (by decide) ?_
  refine lv_aload_n hx hb dL_rows_2 rfl (lv_at hl 0 rfl) ?_
  refine lv_iload_n hx hb dL_rows_3 rfl (lv_at hl 1 rfl) ?_
  obtain ⟨o_c4, e_c4, h⟩ := bnd1_ok h
  refine clx_l (rnx_v (ci := 11) (As := [.int l1]) (rest := [.int 0, .ref h_p2]) S (c_X11_rows l D ((h_p2, .inl (k_p2, 1, .inr (.inl p2))) :: R) h_p0 (z_p0_0) (z_p0_2) (z_p0_3) (z_p0_4) (z_p0_5) (z_p0_6) (z_p0_7) (z_p0_8) (z_p0_9) (z_p0_10) (z_p0_11) (z_p0_12) h_p0_root (z_p0_root_0) (z_p0_root_1) (z_p0_root_2) (z_p0_root_3) (z_p0_root_4) (z_p0_root_6) p0_root_counted h_p0_root_rowCounts k_p0_root_rowCounts p0_root_rowCounts l1 o_c4 e_c4 htr _) q941 q942 q943 q48 q944 nd_X11_rows ⟨Nat.le_of_ble_eq_true rfl, Nat.le_of_ble_eq_true rfl⟩ rfl rfl hP hD (hK.sub (tys' := [(k_p0_root_rowCounts, .long)]) [0] rfl) hN hX hS hA rfl ⟨0, _, rfl⟩ rfl hl.1 rfl (Nat.le_of_ble_eq_true rfl) dL_rows_4 ⟨Nat.le_of_ble_eq_true rfl, Nat.le_of_ble_eq_true rfl⟩) hS hA hD (fun ce q9 H locs ho hP hD hS hce hcv hcl => ?_) (fun r_c4 H locs ho hP hD hS => ?_)
  · subst ho
    have h := xm_n h
    refine x_catch S hX htb ⟨by decide, by decide⟩ hce hcv hcl ?_
    refine lv_astore_n (lv' := [(3, .ref q9), (0, .ref h_p0), (1, .int l1), (2, .ref h_p2)]) hx hb dL_rows_11 rfl hl (by decide) rfl (fun ls hl => ?_)
    refine lv_iconst (v := 1) hx hb dL_rows_12 (by decide) ?_
    cases h
    exact rt_i S hr hlk hP hD hS dL_rows_13
  subst ho
  have h := xm_s h
  obtain ⟨i1, h⟩ := ix_ok h
  refine va_last hx hb hK hP hD hS 3 1 rfl rfl i1 dL_rows_7 (fun H locs hP hD hS => ?_)
  have hP : va_P D vwCl ((h_p0, .inr (11, [z_p0_0, .ref h_p0_root, z_p0_2, z_p0_3, z_p0_4, z_p0_5, z_p0_6, z_p0_7, z_p0_8, z_p0_9, z_p0_10, z_p0_11, z_p0_12])) :: (h_p0_root, .inr (3, [z_p0_root_0, z_p0_root_1, z_p0_root_2, z_p0_root_3, z_p0_root_4, .ref h_p0_root_rowCounts, z_p0_root_6, .int p0_root_counted])) :: (h_p0_root_rowCounts, .inl (k_p0_root_rowCounts, 48, .inr (.inl p0_root_rowCounts))) :: (h_p2, .inl (k_p2, 1, .inr (.inl (vp_updL p2 (0 : Int32).toNatClampNeg r_c4)))) :: R) H := hP
  have hD : va_D A ((h_p0, .inr (11, [z_p0_0, .ref h_p0_root, z_p0_2, z_p0_3, z_p0_4, z_p0_5, z_p0_6, z_p0_7, z_p0_8, z_p0_9, z_p0_10, z_p0_11, z_p0_12])) :: (h_p0_root, .inr (3, [z_p0_root_0, z_p0_root_1, z_p0_root_2, z_p0_root_3, z_p0_root_4, .ref h_p0_root_rowCounts, z_p0_root_6, .int p0_root_counted])) :: (h_p0_root_rowCounts, .inl (k_p0_root_rowCounts, 48, .inr (.inl p0_root_rowCounts))) :: (h_p2, .inl (k_p2, 1, .inr (.inl (vp_updL p2 (0 : Int32).toNatClampNeg r_c4)))) :: R) := hD
  refine lv_goto (tgt := 14) hx hb dL_rows_8 (by decide) ?_
  refine lv_iconst (v := 0) hx hb dL_rows_14 (by decide) ?_
  cases h
  exact rt_i S hr hlk hP hD hS dL_rows_15
noncomputable def f_L_round (p0_known_size : Int32) (p0_known_lengths : Nat → Int32) (p0_known_ys : Nat → Int32) (p0_known_zs : Nat → Int32) (p3 : Nat → Int64) (l1 : Int32) (l2 : Int32) : Option (Int32 × (Nat → Int64)) :=
  bnd1 (f_X11_round p0_known_size p0_known_lengths p0_known_ys p0_known_zs l1 l2) fun o_c5 => xm o_c5 (some (1, p3)) fun r_c5 => (
   gd (ixb 0 1) (
    some (0, (vp_updL p3 (0 : Int32).toNatClampNeg r_c5.toInt64))
   )
  )
set_option maxHeartbeats 4000000 in
set_option maxRecDepth 100000 in
theorem c_L_round (l : Launch) (D : va_G) (R : va_W) (h_p0 : Nat) (z_p0_0 : Value) (z_p0_1 : Value) (z_p0_2 : Value) (z_p0_3 : Value) (z_p0_4 : Value) (z_p0_5 : Value) (z_p0_6 : Value) (z_p0_7 : Value) (z_p0_8 : Value) (z_p0_9 : Value) (z_p0_11 : Value) (z_p0_12 : Value) (h_p0_known : Nat) (p0_known_size : Int32) (h_p0_known_lengths : Nat) (k_p0_known_lengths : ClassId) (p0_known_lengths : Nat → Int32) (h_p0_known_ys : Nat) (k_p0_known_ys : ClassId) (p0_known_ys : Nat → Int32) (h_p0_known_zs : Nat) (k_p0_known_zs : ClassId) (p0_known_zs : Nat → Int32) (h_p3 : Nat) (k_p3 : ClassId) (p3 : Nat → Int64) (l1 : Int32) (l2 : Int32) (r : Int32) (o_p3 : Nat → Int64)  (h : f_L_round p0_known_size p0_known_lengths p0_known_ys p0_known_zs p3 l1 l2 = some (r, o_p3)) (htr : l.stackTraces = false) (sz : Nat) : Met l yL_round (WDH yL_round cL_round 5 (some .int) [(0, 10, 13, 13)]) ({ frames := 7, cells := 1, slots := 6, locals := 104 }) (va_Pc [.ref h_p0, .int l1, .int l2, .ref h_p3] (PcX D [(k_p0_known_lengths, .int), (k_p0_known_ys, .int), (k_p0_known_zs, .int), (k_p3, .long)] ((h_p0, .inr (11, [z_p0_0, z_p0_1, z_p0_2, z_p0_3, z_p0_4, z_p0_5, z_p0_6, z_p0_7, z_p0_8, z_p0_9, .ref h_p0_known, z_p0_11, z_p0_12])) :: (h_p0_known, .inr (4, [.ref h_p0_known_lengths, .ref h_p0_known_ys, .ref h_p0_known_zs, .int p0_known_size])) :: (h_p0_known_lengths, .inl (k_p0_known_lengths, 441, .inl p0_known_lengths)) :: (h_p0_known_ys, .inl (k_p0_known_ys, 441, .inl p0_known_ys)) :: (h_p0_known_zs, .inl (k_p0_known_zs, 441, .inl p0_known_zs)) :: (h_p3, .inl (k_p3, 1, .inr (.inl p3))) :: R) sz)) (QI D r ((h_p0, .inr (11, [z_p0_0, z_p0_1, z_p0_2, z_p0_3, z_p0_4, z_p0_5, z_p0_6, z_p0_7, z_p0_8, z_p0_9, .ref h_p0_known, z_p0_11, z_p0_12])) :: (h_p0_known, .inr (4, [.ref h_p0_known_lengths, .ref h_p0_known_ys, .ref h_p0_known_zs, .int p0_known_size])) :: (h_p0_known_lengths, .inl (k_p0_known_lengths, 441, .inl p0_known_lengths)) :: (h_p0_known_ys, .inl (k_p0_known_ys, 441, .inl p0_known_ys)) :: (h_p0_known_zs, .inl (k_p0_known_zs, 441, .inl p0_known_zs)) :: (h_p3, .inl (k_p3, 1, .inr (.inl o_p3))) :: R) (va_A ((h_p0, .inr (11, [z_p0_0, z_p0_1, z_p0_2, z_p0_3, z_p0_4, z_p0_5, z_p0_6, z_p0_7, z_p0_8, z_p0_9, .ref h_p0_known, z_p0_11, z_p0_12])) :: (h_p0_known, .inr (4, [.ref h_p0_known_lengths, .ref h_p0_known_ys, .ref h_p0_known_zs, .int p0_known_size])) :: (h_p0_known_lengths, .inl (k_p0_known_lengths, 441, .inl p0_known_lengths)) :: (h_p0_known_ys, .inl (k_p0_known_ys, 441, .inl p0_known_ys)) :: (h_p0_known_zs, .inl (k_p0_known_zs, 441, .inl p0_known_zs)) :: (h_p3, .inl (k_p3, 1, .inr (.inl p3))) :: R) sz)) 1 6 (va_A ((h_p0, .inr (11, [z_p0_0, z_p0_1, z_p0_2, z_p0_3, z_p0_4, z_p0_5, z_p0_6, z_p0_7, z_p0_8, z_p0_9, .ref h_p0_known, z_p0_11, z_p0_12])) :: (h_p0_known, .inr (4, [.ref h_p0_known_lengths, .ref h_p0_known_ys, .ref h_p0_known_zs, .int p0_known_size])) :: (h_p0_known_lengths, .inl (k_p0_known_lengths, 441, .inl p0_known_lengths)) :: (h_p0_known_ys, .inl (k_p0_known_ys, 441, .inl p0_known_ys)) :: (h_p0_known_zs, .inl (k_p0_known_zs, 441, .inl p0_known_zs)) :: (h_p3, .inl (k_p3, 1, .inr (.inl p3))) :: R) sz) := by
  refine ct_startH (hh := [(0, 10, 13, 13)]) (QF := fun A => QI D r ((h_p0, .inr (11, [z_p0_0, z_p0_1, z_p0_2, z_p0_3, z_p0_4, z_p0_5, z_p0_6, z_p0_7, z_p0_8, z_p0_9, .ref h_p0_known, z_p0_11, z_p0_12])) :: (h_p0_known, .inr (4, [.ref h_p0_known_lengths, .ref h_p0_known_ys, .ref h_p0_known_zs, .int p0_known_size])) :: (h_p0_known_lengths, .inl (k_p0_known_lengths, 441, .inl p0_known_lengths)) :: (h_p0_known_ys, .inl (k_p0_known_ys, 441, .inl p0_known_ys)) :: (h_p0_known_zs, .inl (k_p0_known_zs, 441, .inl p0_known_zs)) :: (h_p3, .inl (k_p3, 1, .inr (.inl o_p3))) :: R) A) ?_ ?_ ?_
  · decide +kernel
  · exact Nat.le_of_ble_eq_true rfl
  intro p e s m args below meth c A ls S hr hlk hnm htb hS hA hP hD hK hN hX hl
  have S : CallFix p m c cL_round 5 s args AL "DigitBenchLaw" := S
  have hx := S.1
  have hb := S.2.1
  have hown := S.2.2.2.1
  have ha := S.2.2.2.2
  have hl : lv_has ls 5 [(0, .ref h_p0), (1, .int l1), (2, .int l2), (3, .ref h_p3)] := hl
  unfold f_L_round at h
  refine lv_aload_n hx hb dL_round_0 rfl (lv_at hl 3 rfl) ?_
  refine lv_iconst (v := 0) hx hb dL_round_1 (by decide) ?_
  refine lv_aload_n hx hb dL_round_2 rfl (lv_at hl 0 rfl) ?_
  refine lv_iload_n hx hb dL_round_3 rfl (lv_at hl 1 rfl) ?_
  refine lv_iload_n hx hb dL_round_4 rfl (lv_at hl 2 rfl) ?_
  obtain ⟨o_c5, e_c5, h⟩ := bnd1_ok h
  refine clx_i (rnx_v (ci := 11) (As := [.int l1, .int l2]) (rest := [.int 0, .ref h_p3]) S (c_X11_round l D ((h_p3, .inl (k_p3, 1, .inr (.inl p3))) :: R) h_p0 (z_p0_0) (z_p0_1) (z_p0_2) (z_p0_3) (z_p0_4) (z_p0_5) (z_p0_6) (z_p0_7) (z_p0_8) (z_p0_9) (z_p0_11) (z_p0_12) h_p0_known p0_known_size h_p0_known_lengths k_p0_known_lengths p0_known_lengths h_p0_known_ys k_p0_known_ys p0_known_ys h_p0_known_zs k_p0_known_zs p0_known_zs l1 l2 o_c5 e_c5 htr _) q949 q950 q951 q48 q952 nd_X11_round ⟨Nat.le_of_ble_eq_true rfl, Nat.le_of_ble_eq_true rfl⟩ rfl rfl hP hD (hK.sub (tys' := [(k_p0_known_lengths, .int), (k_p0_known_ys, .int), (k_p0_known_zs, .int)]) [0, 1, 2] rfl) hN hX hS hA rfl ⟨0, _, rfl⟩ rfl hl.1 rfl (Nat.le_of_ble_eq_true rfl) dL_round_5 ⟨Nat.le_of_ble_eq_true rfl, Nat.le_of_ble_eq_true rfl⟩) hS hA hD (fun ce q9 H locs ho hP hD hS hce hcv hcl => ?_) (fun r_c5 H locs ho hP hD hS => ?_)
  · subst ho
    have h := xm_n h
    refine x_catch S hX htb ⟨by decide, by decide⟩ hce hcv hcl ?_
    refine lv_astore (lv' := [(4, .ref q9), (0, .ref h_p0), (1, .int l1), (2, .int l2), (3, .ref h_p3)]) hx hb dL_round_13 hl (by decide) rfl (fun ls hl => ?_)
    refine lv_iconst (v := 1) hx hb dL_round_15 (by decide) ?_
    cases h
    exact rt_i S hr hlk hP hD hS dL_round_16
  subst ho
  have h := xm_s h
  refine lv_i2l (v := r_c5.toInt64) hx hb dL_round_8 rfl ?_
  obtain ⟨i1, h⟩ := ix_ok h
  refine va_last hx hb hK hP hD hS 5 3 rfl rfl i1 dL_round_9 (fun H locs hP hD hS => ?_)
  have hP : va_P D vwCl ((h_p0, .inr (11, [z_p0_0, z_p0_1, z_p0_2, z_p0_3, z_p0_4, z_p0_5, z_p0_6, z_p0_7, z_p0_8, z_p0_9, .ref h_p0_known, z_p0_11, z_p0_12])) :: (h_p0_known, .inr (4, [.ref h_p0_known_lengths, .ref h_p0_known_ys, .ref h_p0_known_zs, .int p0_known_size])) :: (h_p0_known_lengths, .inl (k_p0_known_lengths, 441, .inl p0_known_lengths)) :: (h_p0_known_ys, .inl (k_p0_known_ys, 441, .inl p0_known_ys)) :: (h_p0_known_zs, .inl (k_p0_known_zs, 441, .inl p0_known_zs)) :: (h_p3, .inl (k_p3, 1, .inr (.inl (vp_updL p3 (0 : Int32).toNatClampNeg r_c5.toInt64)))) :: R) H := hP
  have hD : va_D A ((h_p0, .inr (11, [z_p0_0, z_p0_1, z_p0_2, z_p0_3, z_p0_4, z_p0_5, z_p0_6, z_p0_7, z_p0_8, z_p0_9, .ref h_p0_known, z_p0_11, z_p0_12])) :: (h_p0_known, .inr (4, [.ref h_p0_known_lengths, .ref h_p0_known_ys, .ref h_p0_known_zs, .int p0_known_size])) :: (h_p0_known_lengths, .inl (k_p0_known_lengths, 441, .inl p0_known_lengths)) :: (h_p0_known_ys, .inl (k_p0_known_ys, 441, .inl p0_known_ys)) :: (h_p0_known_zs, .inl (k_p0_known_zs, 441, .inl p0_known_zs)) :: (h_p3, .inl (k_p3, 1, .inr (.inl (vp_updL p3 (0 : Int32).toNatClampNeg r_c5.toInt64)))) :: R) := hD
  refine lv_goto (tgt := 17) hx hb dL_round_10 (by decide) ?_
  refine lv_iconst (v := 0) hx hb dL_round_17 (by decide) ?_
  cases h
  exact rt_i S hr hlk hP hD hS dL_round_18
