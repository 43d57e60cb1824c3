/-! value(): the ROUND, in both -/
noncomputable def vR (t_a t_b : Int32) (t_u_c54_7 t_v_c54_7 t_d_c54_7 t_sumU_c54_7 t_sumV_c54_7 t_sumD_c54_7 : Int64) (t_tape t_has t_us t_vs t_ds : Nat → Int32) (r_c6_0 t_length_c6_0 l1 l2 l3 : Int32) : Option (Int32 × Int32 × Int32 × Int64 × Int64 × Int64 × Int64 × Int64 × Int64 × (Nat → Int32) × (Nat → Int32) × (Nat → Int32) × (Nat → Int32)) :=
  bnd7 (f_X12_summed t_a t_b t_u_c54_7 t_v_c54_7 t_d_c54_7 t_sumU_c54_7 t_sumV_c54_7 t_sumD_c54_7 t_tape (r_c6_0 - l3) l3 (l3 - 1)) fun r_c99_11 t_u_c99_11 t_v_c99_11 t_d_c99_11 t_sumU_c99_11 t_sumV_c99_11 t_sumD_c99_11 => (
             if r_c99_11 = 0 then (
              some (0, 0, t_length_c6_0, t_u_c99_11, t_v_c99_11, t_d_c99_11, t_sumU_c99_11, t_sumV_c99_11, t_sumD_c99_11, t_has, t_us, t_vs, t_ds)
             ) else (
              bnd4 (f_X12_power t_a t_b t_u_c99_11 t_v_c99_11 t_d_c99_11 l3) fun r_c127_13 t_u_c127_13 t_v_c127_13 t_d_c127_13 => (
               if r_c127_13 = 0 then (
                some (0, 0, t_length_c6_0, t_u_c127_13, t_v_c127_13, t_d_c127_13, t_sumU_c99_11, t_sumV_c99_11, t_sumD_c99_11, t_has, t_us, t_vs, t_ds)
               ) else (
                bnd3 (f_X12_set t_u_c127_13 t_v_c127_13 t_d_c127_13 (t_u_c127_13 - 1) t_v_c127_13 1) fun t_u_c147_15 t_v_c147_15 t_d_c147_15 => (
                 bnd1 (f_X12_isNumber t_u_c147_15 t_v_c147_15 t_d_c147_15) fun r_c151_16 => (
                  if r_c151_16 = 0 then (
                   some (0, 0, t_length_c6_0, t_u_c147_15, t_v_c147_15, t_d_c147_15, t_sumU_c99_11, t_sumV_c99_11, t_sumD_c99_11, t_has, t_us, t_vs, t_ds)
                  ) else (
                   bnd3 (f_X12_set t_u_c147_15 t_v_c147_15 t_d_c147_15 t_u_c99_11 t_v_c99_11 t_d_c99_11) fun t_u_c178_18 t_v_c178_18 t_d_c178_18 => (
                    bnd3 (f_X12_by t_a t_b t_u_c178_18 t_v_c178_18 t_d_c178_18 t_u_c147_15 t_v_c147_15 1) fun t_u_c187_19 t_v_c187_19 t_d_c187_19 => (
                     bnd1 (f_X12_isNumber t_u_c187_19 t_v_c187_19 t_d_c187_19) fun r_c191_20 => (
                      if r_c191_20 = 0 then (
                       some (0, 0, t_length_c6_0, t_u_c187_19, t_v_c187_19, t_d_c187_19, t_sumU_c99_11, t_sumV_c99_11, t_sumD_c99_11, t_has, t_us, t_vs, t_ds)
                      ) else (
                       bnd4 (f_X12_power t_a t_b t_u_c187_19 t_v_c187_19 t_d_c187_19 (l3 - l2)) fun r_c221_22 t_u_c221_22 t_v_c221_22 t_d_c221_22 => (
                        if r_c221_22 = 0 then (
                         some (0, 0, t_length_c6_0, t_u_c221_22, t_v_c221_22, t_d_c221_22, t_sumU_c99_11, t_sumV_c99_11, t_sumD_c99_11, t_has, t_us, t_vs, t_ds)
                        ) else (
                         bnd3 (f_X12_times t_a t_b t_u_c221_22 t_v_c221_22 t_d_c221_22 t_u_c187_19 t_v_c187_19 t_d_c187_19) fun t_u_c236_24 t_v_c236_24 t_d_c236_24 => (
                          bnd1 (f_X12_isNumber t_u_c236_24 t_v_c236_24 t_d_c236_24) fun r_c240_25 => (
                           if r_c240_25 = 0 then (
                            some (0, 0, t_length_c6_0, t_u_c236_24, t_v_c236_24, t_d_c236_24, t_sumU_c99_11, t_sumV_c99_11, t_sumD_c99_11, t_has, t_us, t_vs, t_ds)
                           ) else (
                            bnd3 (f_X12_plus t_u_c236_24 t_v_c236_24 t_d_c236_24 t_u_c54_7 t_v_c54_7 t_d_c54_7) fun t_u_c255_27 t_v_c255_27 t_d_c255_27 => (
                             bnd5 (f_X12_put t_u_c255_27 t_v_c255_27 t_d_c255_27 t_has t_us t_vs t_ds l1) fun r_c260_28 t_has_c260_28 t_us_c260_28 t_vs_c260_28 t_ds_c260_28 => (
                              some (r_c260_28, 0, t_length_c6_0, t_u_c255_27, t_v_c255_27, t_d_c255_27, t_sumU_c99_11, t_sumV_c99_11, t_sumD_c99_11, t_has_c260_28, t_us_c260_28, t_vs_c260_28, t_ds_c260_28)
                             )
                            )
                           )
                          )
                         )
                        )
                       )
                      )
                     )
                    )
                   )
                  )
                 )
                )
               )
              )
             )
            )
theorem take_cases {nt : Nat → Int32} {nu nv nd : Nat → Int64} {x : Nat} {U V W : Int} (bU : B62 U) (bV : B62 V) (bW : B62 W) (hW : 0 < W) :
    (NB (U.tdiv (g3 U V W)) (V.tdiv (g3 U V W)) (W.tdiv (g3 U V W)) ∧ f_X0_take nt nu nv nd x (J U) (J V) (J W) = some (1, upd nt x 1, vp_updL nu x (J (U.tdiv (g3 U V W))), vp_updL nv x (J (V.tdiv (g3 U V W))), vp_updL nd x (J (W.tdiv (g3 U V W))))) ∨ (¬ inB (U.tdiv (g3 U V W)) (V.tdiv (g3 U V W)) (W.tdiv (g3 U V W)) ∧ f_X0_take nt nu nv nd x (J U) (J V) (J W) = some (0, nt, nu, nv, nd)) := by
  have h := s_X0_take (nt := nt) (nu := nu) (nv := nv) (nd := nd) (a := x) bU bV bW hW
  rcases inB_dec (U.tdiv (g3 U V W)) (V.tdiv (g3 U V W)) (W.tdiv (g3 U V W)) with q | q
  · exact Or.inl ⟨⟨q, tdiv_pos hW (g3_pos (by omega)) (g3_d _ _ _), g3_one (by omega)⟩, h.1 q⟩
  · exact Or.inr ⟨q, h.2 q⟩
theorem num_ref {u v d : Int} (hu : R63 u) (hv : R63 v) (hd : R63 d) : (inB u v d → f_X12_isNumber (J u) (J v) (J d) = some 1) ∧ (¬ inB u v d → f_X12_isNumber (J u) (J v) (J d) = some 0) := s_X12_isNumber hu hv hd
theorem NB_R {u v d : Int} (h : NB u v d) : R63 u ∧ R63 v ∧ R63 d ∧ B62 u ∧ B62 v ∧ B62 d := by
  have := h.b
  unfold R63 B62; omega
theorem copy_nb {nt : Nat → Int32} {nu nv nd : Nat → Int64} {x y : Nat} {u v d : Int} (hA : At nu nv nd y u v d) (h : NB u v d) : f_X0_copy nt nu nv nd x y = some (1, upd nt x 1, vp_updL nu x (J u), vp_updL nv x (J v), vp_updL nd x (J d)) := by
  obtain ⟨-, -, -, b1, b2, b3⟩ := NB_R h
  unfold f_X0_copy
  rw [bnd5_eta, hA.1, hA.2.1, hA.2.2]
  exact (take_nb h.2.2 (by have := h.2.1; omega) b1 b2 b3).1 h.1
theorem sum_bad {a b : Int} (hb : VB a b) {tp : Nat → Int32} {fr T TK : Nat} (hT1 : 1 ≤ T) (hT : T ≤ TK) (hTK : TK ≤ 200) (hno : ¬ okU a b (T - 1)) (tu tv td su sv sd : Int64) : ∃ tu' tv' td' su' sv' sd' : Int64, f_X12_summed (I a) (I b) tu tv td su sv sd tp (I (fr : Int)) (I (TK : Int)) (I ((T : Int) - 1)) = some (0, tu', tv', td', su', sv', sd') := by
  have hF : FU = (FU - 1) + 1 := by rw [FU_eq]
  obtain ⟨pu, pv, pd, hp⟩ := (s_power_up hb (e := T - 1) (by omega) tu tv td).2 hno
  have e1 : I ((T : Int) - 1) - 0 = I ((T - 1 : Nat) : Int) := by rw [I0, I_sub]; congr 1; omega
  have c1 : ¬ I (TK : Int) ≤ 0 := by rw [I0, I_le (r31n (by omega)) ⟨by omega, by omega⟩]; omega
  have e : f_X12_summed_L18 (I (fr : Int)) (I (TK : Int)) (I ((T : Int) - 1)) (I a) (I b) tp FU 0 tu tv td 0 0 1 = some (0, pu, pv, pd, 0, 0, 1) := by
    rw [hF, f_X12_summed_L18, if_neg c1, e1, bnd4_s hp, if_pos rfl]
  unfold f_X12_summed
  rw [bnd7_s e, if_pos rfl]
  exact ⟨_, _, _, _, _, _, rfl⟩
theorem sum_up {a b : Int} (hb : VB a b) {tp : Nat → Int32} {fr T TK : Nat} (hT : fr + T ≤ 200) (hTK : T ≤ TK) (hTK2 : TK ≤ 200) {w : Nat → Int} (hw : ∀ k, k < T → (w k).natAbs ≤ 128) (htp : ∀ k, k < T → tp (fr + k) = I (w (T - 1 - k))) (hok : okU a b (T - 1)) (tu tv td : Int64) : ∃ tu' tv' td' : Int64, f_X12_summed_L18 (I (fr : Int)) (I (TK : Int)) (I ((T : Int) - 1)) (I a) (I b) tp FU 0 tu tv td 0 0 1 = f_X12_summed_L18 (I (fr : Int)) (I (TK : Int)) (I ((T : Int) - 1)) (I a) (I b) tp (FU - T) (I (T : Int)) tu' tv' td' (J (sS w (fun i => (pw a b i).1) T)) (J (sS w (fun i => (pw a b i).2) T)) (J 1) := by
  obtain ⟨tu', tv', td', x⟩ := ref_up hb hT hTK hTK2 hw htp hok T (FU - T) 0 tu tv td (by omega)
  refine ⟨tu', tv', td', ?_⟩
  rw [show FU - T + T = FU by rw [FU_eq]; omega, show T - 0 = T by omega, Int.sub_self, Int.sub_self] at x
  exact x
theorem sum_R {a b : Int} (hb : VB a b) {tp : Nat → Int32} {fr T : Nat} (hT : fr + T ≤ 200) {w : Nat → Int} (hw : ∀ k, k < T → (w k).natAbs ≤ 128) (htp : ∀ k, k < T → tp (fr + k) = I (w (T - 1 - k))) (hok : okU a b (T - 1)) (tu tv td su sv sd : Int64) {R1 R2 : Int} (e1 : R1 = sS w (fun i => (pw a b i).1) T) (e2 : R2 = sS w (fun i => (pw a b i).2) T) (r1 : R63 R1) (r2 : R63 R2) (b1 : B62 R1) (b2 : B62 R2) :
    (inB R1 R2 1 → f_X12_summed (I a) (I b) tu tv td su sv sd tp (I (fr : Int)) (I (T : Int)) (I ((T : Int) - 1)) = some (1, J R1, J R2, J 1, J R1, J R2, J 1)) ∧ (¬ inB R1 R2 1 → f_X12_summed (I a) (I b) tu tv td su sv sd tp (I (fr : Int)) (I (T : Int)) (I ((T : Int) - 1)) = some (0, J R1, J R2, J 1, J R1, J R2, J 1)) := by
  obtain ⟨tu', tv', td', x⟩ := sum_up hb hT (Nat.le_refl T) (by omega) hw htp hok tu tv td
  have hF : FU - T = (FU - T - 1) + 1 := by rw [FU_eq]; omega
  rw [hF, f_X12_summed_L18, if_pos (Int32.le_refl _), ← e1, ← e2] at x
  have hset := (s_X12_set (tu := tu') (tv := tv') (td := td') b1 b2 (show B62 1 by unfold B62; omega) (by omega)).1 (by omega)
  rw [g3_1, Int.tdiv_one, Int.tdiv_one, Int.tdiv_one] at hset
  have hn := s_X12_isNumber r1 r2 (show R63 1 from ⟨by omega, by omega⟩)
  unfold f_X12_summed
  rw [bnd7_s x, if_neg (by decide), bnd3_s hset]
  exact ⟨fun h => by rw [bnd1_s (hn.1 h)], fun h => by rw [bnd1_s (hn.2 h)]⟩
def vOK (q : Int × Int) : Bool := (List.range 34).all (fun i => decide (1 ≤ i → 1 ≤ (pw q.1 q.2 i).2))
theorem v_all : bases.all vOK = true := by decide +kernel
theorem pw_v1 {a b : Int} (hb : VB a b) {k : Nat} (h1 : 1 ≤ k) (hok : okU a b k) : 1 ≤ (pw a b k).2 := by
  have hP := hb.pw.1
  obtain ⟨-, hF⟩ := hb.pw
  have hlt : k < 33 := by
    rcases Nat.lt_or_ge k (pcn a b - 1) with q | q
    · omega
    · have h2 := (VB_g hb).1.2.1
      have hb1 := (hF (pcn a b - 1) (by omega)).2.2.2.2 (by omega)
      have hb2 := hok (pcn a b - 1) (by omega)
      unfold inB at hb2
      omega
  have h3 := List.all_eq_true.mp v_all (a, b) hb.mem
  unfold vOK at h3
  simp only [decide_eq_true_eq, List.all_eq_true] at h3
  exact h3 k (List.mem_range.mpr (by omega)) h1
def UX (X : Nat → Prop) (nt : Nat → Int32) (nu nv nd : Nat → Int64) (nt' : Nat → Int32) (nu' nv' nd' : Nat → Int64) : Prop := ∀ y, ¬ X y → nt' y = nt y ∧ nu' y = nu y ∧ nv' y = nv y ∧ nd' y = nd y
theorem UX_1 {X : Nat → Prop} {x : Nat} (hx : X x) {nt : Nat → Int32} {nu nv nd : Nat → Int64} {nt' : Nat → Int32} {nu' nv' nd' : Nat → Int64} (h : U1 x nt nu nv nd nt' nu' nv' nd') : UX X nt nu nv nd nt' nu' nv' nd' := fun y hy => h y (fun e => hy (by rw [e]; exact hx))
theorem UX_tr {X : Nat → Prop} {nt : Nat → Int32} {nu nv nd : Nat → Int64} {nt' : Nat → Int32} {nu' nv' nd' : Nat → Int64} {nt2 : Nat → Int32} {nu2 nv2 nd2 : Nat → Int64} (h1 : UX X nt nu nv nd nt' nu' nv' nd') (h2 : UX X nt' nu' nv' nd' nt2 nu2 nv2 nd2) : UX X nt nu nv nd nt2 nu2 nv2 nd2 := fun y hy => by
  obtain ⟨a1, a2, a3, a4⟩ := h1 y hy
  obtain ⟨b1, b2, b3, b4⟩ := h2 y hy
  exact ⟨b1.trans a1, b2.trans a2, b3.trans a3, b4.trans a4⟩
theorem UX_put {X : Nat → Prop} {x : Nat} (hx : X x) (nt : Nat → Int32) (nu nv nd : Nat → Int64) (p : Int32) (q r s : Int64) : UX X nt nu nv nd (upd nt x p) (vp_updL nu x q) (vp_updL nv x r) (vp_updL nd x s) := UX_1 hx (U1_put x nt nu nv nd p q r s)
theorem UX_id (X : Nat → Prop) (nt : Nat → Int32) (nu nv nd : Nat → Int64) : UX X nt nu nv nd nt nu nv nd := fun _ _ => ⟨rfl, rfl, rfl, rfl⟩
def X6 (hd hh hp hr hs ht : Nat) (y : Nat) : Prop := y = hd ∨ y = hh ∨ y = hp ∨ y = hr ∨ y = hs ∨ y = ht
def D6 (hd hh hp hr hs ht : Nat) : Prop := hd ≠ hh ∧ hd ≠ hp ∧ hd ≠ hr ∧ hd ≠ hs ∧ hd ≠ ht ∧ hh ≠ hp ∧ hh ≠ hr ∧ hh ≠ hs ∧ hh ≠ ht ∧ hp ≠ hr ∧ hp ≠ hs ∧ hp ≠ ht ∧ hr ≠ hs ∧ hr ≠ ht ∧ hs ≠ ht
theorem mul_sw {a b : Int} (hb : VB a b) {nt : Nat → Int32} {nu nv nd : Nat → Int64} {y z : Nat} {u v d u' v' d' : Int} (h1 : At nu nv nd y u v d) (h2 : At nu nv nd z u' v' d') (x : Nat) : f_X3_multiply (I a) (I b) nt nu nv nd x y z = f_X3_multiply (I a) (I b) nt nu nv nd x z y := by
  unfold VB at hb
  have ra : R31 a := ⟨by omega, by omega⟩
  have rb : R31 b := ⟨by omega, by omega⟩
  unfold f_X3_multiply
  rw [h1.1, h1.2.1, h1.2.2, h2.1, h2.2.1, h2.2.2, I_J ra, I_J rb]
  simp only [J_mul, J_add]
  rw [show u * u' + b * v * v' = u' * u + b * v' * v by grind, show u * v' + v * u' + a * v * v' = u' * v + v' * u + a * v' * v by grind, Int.mul_comm d d']
theorem take_ex {u v d : Int} (h : NB u v d) (nt : Nat → Int32) (nu nv nd : Nat → Int64) (x : Nat) : ∃ (nt' : Nat → Int32) (nu' nv' nd' : Nat → Int64), f_X0_take nt nu nv nd x (J u) (J v) (J d) = some (1, nt', nu', nv', nd') ∧ U1 x nt nu nv nd nt' nu' nv' nd' ∧ At nu' nv' nd' x u v d := by
  obtain ⟨-, -, -, b1, b2, b3⟩ := NB_R h
  exact ⟨_, _, _, _, (take_nb h.2.2 (by have := h.2.1; omega) b1 b2 b3).1 h.1, U1_put _ _ _ _ _ _ _ _ _, At_put _ _ _ _ _ _ _⟩
theorem take_cs {U V W : Int} (bU : B62 U) (bV : B62 V) (bW : B62 W) (hW : 0 < W) (nt : Nat → Int32) (nu nv nd : Nat → Int64) (x : Nat) :
    (∃ (nt' : Nat → Int32) (nu' nv' nd' : Nat → Int64), NB (U.tdiv (g3 U V W)) (V.tdiv (g3 U V W)) (W.tdiv (g3 U V W)) ∧ f_X0_take nt nu nv nd x (J U) (J V) (J W) = some (1, nt', nu', nv', nd') ∧ U1 x nt nu nv nd nt' nu' nv' nd' ∧ At nu' nv' nd' x (U.tdiv (g3 U V W)) (V.tdiv (g3 U V W)) (W.tdiv (g3 U V W))) ∨ (¬ inB (U.tdiv (g3 U V W)) (V.tdiv (g3 U V W)) (W.tdiv (g3 U V W)) ∧ f_X0_take nt nu nv nd x (J U) (J V) (J W) = some (0, nt, nu, nv, nd)) := by
  rcases take_cases (nt := nt) (nu := nu) (nv := nv) (nd := nd) (x := x) bU bV bW hW with ⟨h1, h2⟩ | h
  · exact Or.inl ⟨_, _, _, _, h1, h2, U1_put _ _ _ _ _ _ _ _ _, At_put _ _ _ _ _ _ _⟩
  · exact Or.inr h
theorem mulX_ex {a b : Int} (hb : VB a b) {nt : Nat → Int32} {nu nv nd : Nat → Int64} {x k : Nat} (hA : At nu nv nd x (pw a b k).1 (pw a b k).2 1) (hB : inB (pw a b k).1 (pw a b k).2 1) :
    (inB (pw a b (k + 1)).1 (pw a b (k + 1)).2 1 → ∃ (nt' : Nat → Int32) (nu' nv' nd' : Nat → Int64), f_X3_multiplyByX (I a) (I b) nt nu nv nd x = some (1, nt', nu', nv', nd') ∧ U1 x nt nu nv nd nt' nu' nv' nd' ∧ At nu' nv' nd' x (pw a b (k + 1)).1 (pw a b (k + 1)).2 1) ∧ (¬ inB (pw a b (k + 1)).1 (pw a b (k + 1)).2 1 → f_X3_multiplyByX (I a) (I b) nt nu nv nd x = some (0, nt, nu, nv, nd)) := by
  have h := s_mulX hb (nt := nt) hA.1 hA.2.1 hA.2.2 hB
  exact ⟨fun q => ⟨_, _, _, _, h.1 q, U1_put _ _ _ _ _ _ _ _ _, At_put _ _ _ _ _ _ _⟩, h.2⟩
set_option maxHeartbeats 2000000 in
theorem vR_joint {a b : Int} (hb : VB a b) {n pt rd : Nat} (h1 : 1 ≤ rd) (h2 : rd ≤ pt) (h3 : pt ≤ n) (h4 : n ≤ 200) {by_ tp : Nat → Int32} {tb : Nat → Int} (hT : ∀ k, k < n → by_ k = I (tb k) ∧ tp k = I (tb k) ∧ (tb k).natAbs ≤ 128) {hd hh hp hr hs ht : Nat} (hne : D6 hd hh hp hr hs ht) {nt : Nat → Int32} {nu nv nd : Nat → Int64} {r1 r2 r3 : Int} (hR : NB r1 r2 r3) (hAh : At nu nv nd hh r1 r2 r3) (hok : okD a b (pt - rd)) (hAs : At nu nv nd hs (dn a b (pt - rd)).1 (dn a b (pt - rd)).2.1 (dn a b (pt - rd)).2.2) {i : Nat} (hi : i < 10) (su sv sd qu qv qd : Int64) (has us vs ds : Nat → Int32) :
    ∃ (rr : Int32) (su' sv' sd' : Int64) (nt' : Nat → Int32) (nu' nv' nd' : Nat → Int64), f_X5_addRound su sv sd (I a) (I b) (I (n : Int)) by_ nt nu nv nd hd hh hp hr hs ht (I (rd : Int)) = some (rr, su', sv', sd', nt', nu', nv', nd') ∧ UX (X6 hd hh hp hr hs ht) nt nu nv nd nt' nu' nv' nd' ∧
      ((rr = 0 ∧ ∃ x1 x2 x3 x4 x5 x6 : Int64, vR (I a) (I b) (J r1) (J r2) (J r3) qu qv qd tp has us vs ds (I (n : Int)) 0 (I (i : Int)) (I (pt : Int)) (I (rd : Int)) = some (0, 0, 0, x1, x2, x3, x4, x5, x6, has, us, vs, ds)) ∨
       (rr = 1 ∧ ∃ u v d : Int, NB u v d ∧ At nu' nv' nd' hr u v d ∧ ∃ x1 x2 x3 : Int64, vR (I a) (I b) (J r1) (J r2) (J r3) qu qv qd tp has us vs ds (I (n : Int)) 0 (I (i : Int)) (I (pt : Int)) (I (rd : Int)) = some (1, 0, 0, J u, J v, J d, x1, x2, x3, upd has i 1, upd us i (I u), upd vs i (I v), upd ds i (I d)))) := by
  obtain ⟨ne1, ne2, ne3, ne4, ne5, ne6, ne7, ne8, ne9, ne10, ne11, ne12, ne13, ne14, ne15⟩ := hne
  have Xp : X6 hd hh hp hr hs ht hp := Or.inr (Or.inr (Or.inl rfl))
  have Xt : X6 hd hh hp hr hs ht ht := Or.inr (Or.inr (Or.inr (Or.inr (Or.inr rfl))))
  have Xd : X6 hd hh hp hr hs ht hd := Or.inl rfl
  have Xr : X6 hd hh hp hr hs ht hr := Or.inr (Or.inr (Or.inr (Or.inl rfl)))
  have hw : ∀ k, k < rd → (tb (n - 1 - k)).natAbs ≤ 128 := fun k hk => (hT _ (by omega)).2.2
  have hat : ∀ k, k < rd → f_X7_at (I (n : Int)) by_ (I ((n : Int) - 1) - I (k : Int)) = some (I (tb (n - 1 - k))) := fun k hk => by
    rw [show I ((n : Int) - 1) - I (k : Int) = I ((n - 1 - k : Nat) : Int) by rw [I_sub]; congr 1; omega, s_at h4 (by omega), (hT _ (by omega)).1]
  have htp : ∀ k, k < rd → tp (n - rd + k) = I (tb (n - 1 - (rd - 1 - k))) := fun k hk => by
    rw [(hT _ (by omega)).2.1]; congr 2; omega
  have e1 : I (n : Int) - I (rd : Int) = I ((n - rd : Nat) : Int) := by rw [I_sub]; congr 1; omega
  have e2 : I (rd : Int) - 1 = I ((rd : Int) - 1) := by rw [I1, I_sub]
  have e3 : I (n : Int) - 1 = I ((n : Int) - 1) := by rw [I1, I_sub]
  have e4 : I (rd : Int) - I (pt : Int) = I (-((pt - rd : Nat) : Int)) := by rw [I_sub]; congr 1; omega
  obtain ⟨up1, up2⟩ := s_addUp hb (n := n) (by_ := by_) (ix := (n : Int) - 1) (hp := hp) (M := rd) (by omega) (w := fun k => tb (n - 1 - k)) hw hat nt nu nv nd
  unfold f_X5_addRound vR f_X6_clear
  rw [bnd3_s rfl, e1, e2, e3, e4]
  rcases (Classical.em (okU a b (rd - 1))).symm with hU | hU
  · obtain ⟨s1, s2, s3, nt1, nu1, nv1, nd1, y1, y2⟩ := up2 hU
    obtain ⟨q1, q2, q3, q4, q5, q6, y3⟩ := sum_bad hb (tp := tp) (fr := n - rd) (T := rd) (TK := rd) h1 (Nat.le_refl rd) (by omega) hU (J r1) (J r2) (J r3) qu qv qd
    rw [bnd8_s y1, if_pos rfl, bnd7_s y3, if_pos rfl]
    exact ⟨0, _, _, _, _, _, _, _, rfl, UX_1 Xp y2, Or.inl ⟨rfl, _, _, _, _, _, _, rfl⟩⟩
  obtain ⟨nt1, nu1, nv1, nd1, y1, y2, y3⟩ := up1 hU
  have x1 := UX_1 Xp y2
  have hAh1 := At_U1 hAh y2 ne6
  have hAs1 := At_U1 hAs y2 (Ne.symm ne11)
  have b1 := sS_bd (w := fun k => tb (n - 1 - k)) (q := fun i => (pw a b i).1) (M := rd) hw (fun i hi => (inB_p (hU i (by omega))).1) rd (Nat.le_refl rd)
  have b2 := sS_bd (w := fun k => tb (n - 1 - k)) (q := fun i => (pw a b i).2) (M := rd) hw (fun i hi => (inB_p (hU i (by omega))).2) rd (Nat.le_refl rd)
  have hsum := sum_R hb (tp := tp) (fr := n - rd) (T := rd) (by omega) (w := fun k => tb (n - 1 - k)) hw htp hU (J r1) (J r2) (J r3) qu qv qd rfl rfl ⟨by omega, by omega⟩ ⟨by omega, by omega⟩ (by unfold B62; omega) (by unfold B62; omega)
  rw [bnd8_s y1, if_neg (show ¬ (1 : Int32) = 0 by decide)]
  generalize sS (fun k => tb (n - 1 - k)) (fun i => (pw a b i).1) rd = R1 at *
  generalize sS (fun k => tb (n - 1 - k)) (fun i => (pw a b i).2) rd = R2 at *
  have htk := take_nb (nt := nt1) (nu := nu1) (nv := nv1) (nd := nd1) (x := ht) (g3_1 R1 R2) (by omega) (by unfold B62; omega) (by unfold B62; omega) (by unfold B62; omega)
  rcases (inB_dec R1 R2 1).symm with q | q
  · rw [bnd5_s (htk.2 q), if_pos rfl, bnd7_s (hsum.2 q), if_pos rfl]
    exact ⟨0, _, _, _, _, _, _, _, rfl, x1, Or.inl ⟨rfl, _, _, _, _, _, _, rfl⟩⟩
  have hRN : NB R1 R2 1 := ⟨q, by omega, g3_1 _ _⟩
  obtain ⟨nt2, nu2, nv2, nd2, t1, t2, t3⟩ := take_ex hRN nt1 nu1 nv1 nd1 ht
  have x2 := UX_tr x1 (UX_1 Xt t2)
  have hAh2 := At_U1 hAh1 t2 ne9
  have hAs2 := At_U1 hAs1 t2 ne15
  have hAp := At_U1 y3 t2 ne12
  rw [bnd5_s t1, if_neg (show ¬ (1 : Int32) = 0 by decide), bnd7_s (hsum.1 q), if_neg (show ¬ (1 : Int32) = 0 by decide)]
  have hmx := mulX_ex hb (nt := nt2) hAp (hU (rd - 1) (by omega))
  rw [show rd - 1 + 1 = rd by omega] at hmx
  have hpo := s_power_up hb (e := rd) (by omega) (J R1) (J R2) (J 1)
  rcases (inB_dec (pw a b rd).1 (pw a b rd).2 1).symm with q2 | q2
  · obtain ⟨pu, pv, pd, y4⟩ := hpo.2 (fun h => q2 (h rd (by omega)))
    rw [bnd5_s (hmx.2 q2), if_pos rfl, bnd4_s y4, if_pos rfl]
    exact ⟨0, _, _, _, _, _, _, _, rfl, x2, Or.inl ⟨rfl, _, _, _, _, _, _, rfl⟩⟩
  have hU2 : okU a b rd := fun x hx => by
    by_cases z : x = rd
    · subst z; exact q2
    · exact hU x (by omega)
  obtain ⟨p1, p2⟩ := inB_p q2
  have pv1 := pw_v1 hb h1 hU2
  obtain ⟨nt3, nu3, nv3, nd3, m1, m2, m3⟩ := hmx.1 q2
  have x3 := UX_tr x2 (UX_1 Xp m2)
  have hAh3 := At_U1 hAh2 m2 ne6
  have hAs3 := At_U1 hAs2 m2 (Ne.symm ne11)
  have hAt3 := At_U1 t3 m2 (Ne.symm ne12)
  rw [bnd5_s m1, if_neg (show ¬ (1 : Int32) = 0 by decide), bnd4_s (hpo.1 hU2), if_neg (show ¬ (1 : Int32) = 0 by decide), m3.1, m3.2.1, m3.2.2, J1, J_sub]
  generalize (pw a b rd).1 = E1 at *
  generalize (pw a b rd).2 = E2 at *
  have htk2 := take_nb (nt := nt3) (nu := nu3) (nv := nv3) (nd := nd3) (x := hd) (g3_1 (E1 - 1) E2) (by omega) (by unfold B62; omega) (by unfold B62; omega) (by unfold B62; omega)
  have hset := (s_X12_set (tu := J E1) (tv := J E2) (td := J 1) (u := E1 - 1) (v := E2) (d := 1) (by unfold B62; omega) (by unfold B62; omega) (by unfold B62; omega) (by omega)).1 (by omega)
  rw [g3_1, Int.tdiv_one, Int.tdiv_one, Int.tdiv_one] at hset
  have hnum := s_X12_isNumber (u := E1 - 1) (v := E2) (d := 1) ⟨by omega, by omega⟩ ⟨by omega, by omega⟩ ⟨by omega, by omega⟩
  rw [bnd3_s hset]
  rcases (inB_dec (E1 - 1) E2 1).symm with q3 | q3
  · rw [bnd5_s (htk2.2 q3), if_pos rfl, bnd1_s (hnum.2 q3), if_pos rfl]
    exact ⟨0, _, _, _, _, _, _, _, rfl, x3, Or.inl ⟨rfl, _, _, _, _, _, _, rfl⟩⟩
  have hEN : NB (E1 - 1) E2 1 := ⟨q3, by omega, g3_1 _ _⟩
  obtain ⟨nt4, nu4, nv4, nd4, f1, f2, f3⟩ := take_ex hEN nt3 nu3 nv3 nd3 hd
  have x4 := UX_tr x3 (UX_1 Xd f2)
  have hAh4 := At_U1 hAh3 f2 (Ne.symm ne1)
  have hAs4 := At_U1 hAs3 f2 (Ne.symm ne4)
  have hAt4 := At_U1 hAt3 f2 (Ne.symm ne5)
  rw [bnd5_s f1, if_neg (show ¬ (1 : Int32) = 0 by decide), bnd1_s (hnum.1 q3), if_neg (show ¬ (1 : Int32) = 0 by decide), bnd3_s (set_id hRN)]
  obtain ⟨U, V, W, g1, g2, g3', g4, g5, g6⟩ := k_divide (nt := nt4) hb hAt4.1 hAt4.2.1 hAt4.2.2 f3.1 f3.2.1 f3.2.2 hRN hEN (fun z => by omega)
  rw [g5 hr, bnd3_s g6]
  have hnum2 := s_X12_isNumber (g1.q (g := g3 U V W)).r (g2.q (g := g3 U V W)).r (g3'.q (g := g3 U V W)).r
  rcases (take_cs g1 g2 g3' g4 nt4 nu4 nv4 nd4 hr).symm with ⟨q4, w1⟩ | ⟨nt5, nu5, nv5, nd5, q4, w1, w2, w3⟩
  · rw [bnd5_s w1, if_pos rfl, bnd1_s (hnum2.2 q4), if_pos rfl]
    exact ⟨0, _, _, _, _, _, _, _, rfl, x4, Or.inl ⟨rfl, _, _, _, _, _, _, rfl⟩⟩
  have x5 := UX_tr x4 (UX_1 Xr w2)
  have hAh5 := At_U1 hAh4 w2 ne7
  have hAs5 := At_U1 hAs4 w2 (Ne.symm ne13)
  rw [bnd5_s w1, if_neg (show ¬ (1 : Int32) = 0 by decide), bnd1_s (hnum2.1 q4.1), if_neg (show ¬ (1 : Int32) = 0 by decide)]
  generalize U.tdiv (g3 U V W) = u5 at *
  generalize V.tdiv (g3 U V W) = v5 at *
  generalize W.tdiv (g3 U V W) = d5 at *
  have hDN : NB (dn a b (pt - rd)).1 (dn a b (pt - rd)).2.1 (dn a b (pt - rd)).2.2 := ⟨hok (pt - rd) (Nat.le_refl _), (dn_nf hb _).1, (dn_nf hb _).2⟩
  rw [bnd4_s ((s_power_dn hb (e := pt - rd) (by omega) (J u5) (J v5) (J d5)).1 hok), if_neg (show ¬ (1 : Int32) = 0 by decide)]
  obtain ⟨U2, V2, W2, k1, k2, k3, k4, k5, k6⟩ := k_times (nt := nt5) hb hAs5.1 hAs5.2.1 hAs5.2.2 w3.1 w3.2.1 w3.2.2 hDN q4
  rw [mul_sw hb w3 hAs5 hr, k5 hr, bnd3_s k6]
  have hnum3 := s_X12_isNumber (k1.q (g := g3 U2 V2 W2)).r (k2.q (g := g3 U2 V2 W2)).r (k3.q (g := g3 U2 V2 W2)).r
  rcases (take_cs k1 k2 k3 k4 nt5 nu5 nv5 nd5 hr).symm with ⟨q5, z1⟩ | ⟨nt6, nu6, nv6, nd6, q5, z1, z2, z3⟩
  · rw [bnd5_s z1, if_pos rfl, bnd1_s (hnum3.2 q5), if_pos rfl]
    exact ⟨0, _, _, _, _, _, _, _, rfl, x5, Or.inl ⟨rfl, _, _, _, _, _, _, rfl⟩⟩
  have x6 := UX_tr x5 (UX_1 Xr z2)
  have hAh6 := At_U1 hAh5 z2 ne7
  rw [bnd5_s z1, if_neg (show ¬ (1 : Int32) = 0 by decide), bnd1_s (hnum3.1 q5.1), if_neg (show ¬ (1 : Int32) = 0 by decide)]
  generalize U2.tdiv (g3 U2 V2 W2) = u6 at *
  generalize V2.tdiv (g3 U2 V2 W2) = v6 at *
  generalize W2.tdiv (g3 U2 V2 W2) = d6 at *
  obtain ⟨U3, V3, W3, l1, l2, l3, l4, l5, l6⟩ := k_join (t := 1) (nt := nt6) (Or.inl rfl) z3.1 z3.2.1 z3.2.2 hAh6.1 hAh6.2.1 hAh6.2.2 q5 hR
  rw [Int.one_mul, Int.one_mul] at l6
  have l5' : f_X3_join nt6 nu6 nv6 nd6 hr hr hh 1 = _ := l5 hr
  rw [l5', bnd3_s l6]
  have hput := s_X12_put hi (l1.q (g := g3 U3 V3 W3)).r (l2.q (g := g3 U3 V3 W3)).r (l3.q (g := g3 U3 V3 W3)).r (has := has) (us := us) (vs := vs) (ds := ds)
  rcases (take_cs l1 l2 l3 l4 nt6 nu6 nv6 nd6 hr).symm with ⟨q6, a1⟩ | ⟨nt7, nu7, nv7, nd7, q6, a1, a2, a3⟩
  · rw [bnd5_s a1, if_pos rfl, bnd5_s (hput.2 q6)]
    exact ⟨0, _, _, _, _, _, _, _, rfl, x6, Or.inl ⟨rfl, _, _, _, _, _, _, rfl⟩⟩
  · rw [bnd5_s a1, if_neg (show ¬ (1 : Int32) = 0 by decide), bnd5_s (hput.1 q6.1)]
    exact ⟨1, _, _, _, _, _, _, _, rfl, UX_tr x6 (UX_1 Xr a2), Or.inr ⟨rfl, _, _, _, q6, a3, _, _, _, rfl⟩⟩
