/-! value() -/
theorem value_vR (t_thrown : Int32) (t_length : Int32) (t_a : Int32) (t_b : Int32) (t_u : Int64) (t_v : Int64) (t_d : Int64) (t_sumU : Int64) (t_sumV : Int64) (t_sumD : Int64) (t_tape : Nat → Int32) (t_has : Nat → Int32) (t_us : Nat → Int32) (t_vs : Nat → Int32) (t_ds : Nat → Int32) (l1 : Int32) (l2 : Int32) (l3 : Int32) : f_X12_value t_thrown t_length t_a t_b t_u t_v t_d t_sumU t_sumV t_sumD t_tape t_has t_us t_vs t_ds l1 l2 l3 =
  bnd2 (f_X12_taken t_length) fun r_c6_0 t_length_c6_0 => (
   if l1 < 0 then (
    some (0, 0, t_length_c6_0, t_u, t_v, t_d, t_sumU, t_sumV, t_sumD, t_has, t_us, t_vs, t_ds)
   ) else (
    if 10 ≤ l1 then (
     some (0, 0, t_length_c6_0, t_u, t_v, t_d, t_sumU, t_sumV, t_sumD, t_has, t_us, t_vs, t_ds)
    ) else (
     if l2 < 0 then (
      some (0, 0, t_length_c6_0, t_u, t_v, t_d, t_sumU, t_sumV, t_sumD, t_has, t_us, t_vs, t_ds)
     ) else (
      if r_c6_0 < l2 then (
       some (0, 0, t_length_c6_0, t_u, t_v, t_d, t_sumU, t_sumV, t_sumD, t_has, t_us, t_vs, t_ds)
      ) else (
       if l3 < 0 then (
        some (0, 0, t_length_c6_0, t_u, t_v, t_d, t_sumU, t_sumV, t_sumD, t_has, t_us, t_vs, t_ds)
       ) else (
        if l3 ≤ l2 then (
         bnd7 (f_X12_summed t_a t_b t_u t_v t_d t_sumU t_sumV t_sumD t_tape 0 (r_c6_0 - l3) ((r_c6_0 - l2) - 1)) fun r_c54_7 t_u_c54_7 t_v_c54_7 t_d_c54_7 t_sumU_c54_7 t_sumV_c54_7 t_sumD_c54_7 => (
          if r_c54_7 = 0 then (
           some (0, 0, t_length_c6_0, t_u_c54_7, t_v_c54_7, t_d_c54_7, t_sumU_c54_7, t_sumV_c54_7, t_sumD_c54_7, t_has, t_us, t_vs, t_ds)
          ) else (
           if l3 = 0 then (
            bnd5 (f_X12_put t_u_c54_7 t_v_c54_7 t_d_c54_7 t_has t_us t_vs t_ds l1) fun r_c68_10 t_has_c68_10 t_us_c68_10 t_vs_c68_10 t_ds_c68_10 => (
             some (r_c68_10, 0, t_length_c6_0, t_u_c54_7, t_v_c54_7, t_d_c54_7, t_sumU_c54_7, t_sumV_c54_7, t_sumD_c54_7, t_has_c68_10, t_us_c68_10, t_vs_c68_10, t_ds_c68_10)
            )
           ) else (
            vR t_a t_b t_u_c54_7 t_v_c54_7 t_d_c54_7 t_sumU_c54_7 t_sumV_c54_7 t_sumD_c54_7 t_tape t_has t_us t_vs t_ds r_c6_0 t_length_c6_0 l1 l2 l3
)
          )
         )
        ) else (
         some (0, 0, t_length_c6_0, t_u, t_v, t_d, t_sumU, t_sumV, t_sumD, t_has, t_us, t_vs, t_ds)
        )
       )
      )
     )
    )
   )
  ) := rfl
theorem RN_UX {X : Nat → Prop} {nt : Nat → Int32} {nu nv nd : Nat → Int64} {nt' : Nat → Int32} {nu' nv' nd' : Nat → Int64} {sa : Nat → Nat} {has us vs ds : Nat → Int32} (h : RN nt nu nv nd sa has us vs ds) (hX : ∀ i, i < 10 → ¬ X (sa i)) (hU : UX X nt nu nv nd nt' nu' nv' nd') : RN nt' nu' nv' nd' sa has us vs ds := fun i hi => by
  obtain ⟨a1, a2, a3, a4⟩ := hU (sa i) (hX i hi)
  unfold RN1
  rw [a1, a2, a3, a4]
  exact h i hi
theorem SF_1 (A B : Int) : SF A B 1 A B 1 := by
  unfold SF
  rw [g3_1, Int.tdiv_one, Int.tdiv_one, Int.tdiv_one]
  exact ⟨rfl, rfl, rfl⟩
set_option maxHeartbeats 2000000 in
theorem m_value {nt : Nat → Int32} {nu nv nd : Nat → Int64} {sa : Nat → Nat} {has us vs ds : Nat → Int32} (h : RN nt nu nv nd sa has us vs ds) (hsi : SI sa) {a b : Int} (hb : VB a b) {ts ln : Int32} {by_ tp : Nat → Int32} (ht0 : RT ts by_ ln tp) {hd hh hp hr hs ht : Nat} (hne : D6 hd hh hp hr hs ht) (hX : ∀ i, i < 10 → ¬ X6 hd hh hp hr hs ht (sa i)) (su sv sd : Int64) (th : Int32) (tu tv td qu qv qd : Int64) (l1 l2 l3 : Int32) :
    ∃ (r : Int32) (su' sv' sd' : Int64) (nt' : Nat → Int32) (nu' nv' nd' : Nat → Int64) (tu' tv' td' qu' qv' qd' : Int64) (has' us' vs' ds' : Nat → Int32), f_X11_value ts by_ (I a) (I b) su sv sd nt nu nv nd sa hd hh hp hr hs ht l1 l2 l3 = some (r, 0, su', sv', sd', nt', nu', nv', nd') ∧ f_X12_value th ln (I a) (I b) tu tv td qu qv qd tp has us vs ds l1 l2 l3 = some (r, 0, 0, tu', tv', td', qu', qv', qd', has', us', vs', ds') ∧ RN nt' nu' nv' nd' sa has' us' vs' ds' := by
  obtain ⟨rfl, n, hn, rfl, hag⟩ := ht0
  rw [value_vR]
  unfold f_X11_value f_X12_taken
  rw [bnd2_s rfl]
  rcases slot_cases l1 with q | ⟨i, hi, rfl⟩
  · rw [bnd1_s (s_X11_isSlot_no q), if_pos rfl]
    by_cases c : l1 < 0
    · rw [if_pos c]; exact ⟨0, _, _, _, _, _, _, _, _, _, _, _, _, _, _, _, _, _, rfl, rfl, h⟩
    · rw [if_neg c, if_pos (q.resolve_left c)]; exact ⟨0, _, _, _, _, _, _, _, _, _, _, _, _, _, _, _, _, _, rfl, rfl, h⟩
  rw [bnd1_s (s_X11_isSlot hi), if_neg (show ¬ (1 : Int32) = 0 by decide), if_neg (slot_no hi).1, if_neg (slot_no hi).2.1]
  by_cases c1 : l2 < 0
  · rw [if_pos c1, if_pos c1]; exact ⟨0, _, _, _, _, _, _, _, _, _, _, _, _, _, _, _, _, _, rfl, rfl, h⟩
  by_cases c2 : I (n : Int) < l2
  · rw [if_neg c1, if_neg c1, if_pos c2, if_pos c2]; exact ⟨0, _, _, _, _, _, _, _, _, _, _, _, _, _, _, _, _, _, rfl, rfl, h⟩
  by_cases c3 : l3 < 0
  · rw [if_neg c1, if_neg c1, if_neg c2, if_neg c2, if_pos c3, if_pos c3]; exact ⟨0, _, _, _, _, _, _, _, _, _, _, _, _, _, _, _, _, _, rfl, rfl, h⟩
  rcases (Classical.em (l3 ≤ l2)).symm with c4 | c4
  · have c5 : l2 < l3 := by
      rw [Int32.lt_iff_toInt_lt]
      rw [Int32.le_iff_toInt_le] at c4
      omega
    rw [if_neg c1, if_neg c1, if_neg c2, if_neg c2, if_neg c3, if_neg c3, if_pos c5, if_neg c4]; exact ⟨0, _, _, _, _, _, _, _, _, _, _, _, _, _, _, _, _, _, rfl, rfl, h⟩
  have c5 : ¬ l2 < l3 := by
    rw [Int32.lt_iff_toInt_lt]
    rw [Int32.le_iff_toInt_le] at c4
    omega
  rw [if_neg c1, if_neg c1, if_neg c2, if_neg c2, if_neg c3, if_neg c3, if_neg c5, if_pos c4]
  obtain ⟨z2, hz2, rfl⟩ := i32_cases l2
  obtain ⟨z3, hz3, rfl⟩ := i32_cases l3
  rw [I0, I_lt hz2 ⟨by omega, by omega⟩] at c1
  rw [I_lt (r31n (by omega)) hz2] at c2
  rw [I0, I_lt hz3 ⟨by omega, by omega⟩] at c3
  rw [I_le hz3 hz2] at c4
  obtain ⟨pt, rfl⟩ : ∃ k : Nat, z2 = (k : Int) := ⟨z2.toNat, by omega⟩
  obtain ⟨rd, rfl⟩ : ∃ k : Nat, z3 = (k : Int) := ⟨z3.toNat, by omega⟩
  clear c5
  obtain ⟨tb, htb⟩ : ∃ tb : Nat → Int, ∀ k, tb k = (tp k).toInt := ⟨fun k => (tp k).toInt, fun _ => rfl⟩
  have hT : ∀ k, k < n → by_ k = I (tb k) ∧ tp k = I (tb k) ∧ (tb k).natAbs ≤ 128 := fun k hk => by
    obtain ⟨a1, a2, a3⟩ := hag k hk
    rw [← htb] at a2 a3
    have e : tp k = I (tb k) := by rw [htb]; exact I_of _
    exact ⟨a1.trans e, e, by omega⟩
  obtain ⟨T, eT⟩ : ∃ T : Nat, n = pt + T := ⟨n - pt, by omega⟩
  obtain ⟨K, eK⟩ : ∃ K : Nat, pt = rd + K := ⟨pt - rd, by omega⟩
  have e1 : I (n : Int) - I (pt : Int) = I (T : Int) := by rw [I_sub]; congr 1; omega
  have e2 : I (T : Int) - 1 = I ((T : Int) - 1) := by rw [I1, I_sub]
  have e3 : I (pt : Int) - I (rd : Int) = I (K : Int) := by rw [I_sub]; congr 1; omega
  have e4 : I (n : Int) - I (rd : Int) = I ((T + K : Nat) : Int) := by rw [I_sub]; congr 1; omega
  have hwU : ∀ k, k < T → (tb (T - 1 - k)).natAbs ≤ 128 := fun k hk => (hT _ (by omega)).2.2
  have hatU : ∀ k, k < T → f_X7_at (I (n : Int)) by_ (I ((T : Int) - 1) - I (k : Int)) = some (I (tb (T - 1 - k))) := fun k hk => by
    rw [show I ((T : Int) - 1) - I (k : Int) = I ((T - 1 - k : Nat) : Int) by rw [I_sub]; congr 1; omega, s_at hn (by omega), (hT _ (by omega)).1]
  have htpU : ∀ k, k < T → tp (0 + k) = I (tb (T - 1 - (T - 1 - k))) := fun k hk => by
    rw [(hT _ (by omega)).2.1]; congr 2; omega
  have hwD : ∀ k, k < K → (tb (T + k)).natAbs ≤ 128 := fun k hk => (hT _ (by omega)).2.2
  have hatD : ∀ k, k < K → f_X7_at (I (n : Int)) by_ (I (T : Int) + I (k : Int)) = some (I (tb (T + k))) := fun k hk => by
    rw [show I (T : Int) + I (k : Int) = I ((T + k : Nat) : Int) by rw [I_add]; congr 1, s_at hn (by omega), (hT _ (by omega)).1]
  have htpD : ∀ k, k < K → tp (0 + T + k) = I (tb (T + k)) := fun k hk => by
    rw [show 0 + T + k = T + k by omega]; exact (hT _ (by omega)).2.1
  have Xp : X6 hd hh hp hr hs ht hp := Or.inr (Or.inr (Or.inl rfl))
  have Xh : X6 hd hh hp hr hs ht hh := Or.inr (Or.inl rfl)
  have Xs : X6 hd hh hp hr hs ht hs := Or.inr (Or.inr (Or.inr (Or.inr (Or.inl rfl))))
  have Xr : X6 hd hh hp hr hs ht hr := Or.inr (Or.inr (Or.inr (Or.inl rfl)))
  have hne' := hne
  obtain ⟨ne1, ne2, ne3, ne4, ne5, ne6, ne7, ne8, ne9, ne10, ne11, ne12, ne13, ne14, ne15⟩ := hne'
  obtain ⟨up1, up2⟩ := s_addUp hb (n := n) (by_ := by_) (ix := (T : Int) - 1) (hp := hp) (M := T) (by omega) (w := fun k => tb (T - 1 - k)) hwU hatU nt nu nv nd
  unfold f_X5_reckon f_X6_clear
  rw [bnd3_s rfl, e1, e2, e3, e4]
  rcases (Classical.em (okU a b (T - 1))).symm with hU | hU
  · obtain ⟨s1, s2, s3, nt1, nu1, nv1, nd1, y1, y2⟩ := up2 hU
    have hT1 : 1 ≤ T := by
      rcases Nat.eq_zero_or_pos T with z | z
      · exfalso; subst z; exact hU (ok0 a b).1
      · exact z
    obtain ⟨q1, q2, q3, q4, q5, q6, y3⟩ := sum_bad hb (tp := tp) (fr := 0) (T := T) (TK := T + K) hT1 (by omega) (by omega) hU tu tv td qu qv qd
    have y3 : f_X12_summed (I a) (I b) tu tv td qu qv qd tp 0 (I ((T + K : Nat) : Int)) (I ((T : Int) - 1)) = _ := y3
    rw [bnd8_s y1, if_pos rfl, bnd8_s rfl, if_pos rfl, bnd7_s y3, if_pos rfl]
    exact ⟨0, _, _, _, _, _, _, _, _, _, _, _, _, _, _, _, _, _, rfl, rfl, RN_UX h hX (UX_1 Xp y2)⟩
  obtain ⟨nt1, nu1, nv1, nd1, y1, y2, y3⟩ := up1 hU
  have b1 := sS_bd (w := fun k => tb (T - 1 - k)) (q := fun i => (pw a b i).1) (M := T) hwU (fun i hi => (inB_p (hU i (by omega))).1) T (Nat.le_refl T)
  have b2 := sS_bd (w := fun k => tb (T - 1 - k)) (q := fun i => (pw a b i).2) (M := T) hwU (fun i hi => (inB_p (hU i (by omega))).2) T (Nat.le_refl T)
  obtain ⟨tu1, tv1, td1, xs⟩ := sum_up hb (tp := tp) (fr := 0) (T := T) (TK := T + K) (by omega) (by omega) (by omega) (w := fun k => tb (T - 1 - k)) hwU htpU hU tu tv td
  have xs : f_X12_summed_L18 0 (I ((T + K : Nat) : Int)) (I ((T : Int) - 1)) (I a) (I b) tp FU 0 tu tv td 0 0 1 = _ := xs
  rw [bnd8_s y1, if_neg (show ¬ (1 : Int32) = 0 by decide)]
  generalize sS (fun k => tb (T - 1 - k)) (fun i => (pw a b i).1) T = A0 at *
  generalize sS (fun k => tb (T - 1 - k)) (fun i => (pw a b i).2) T = B0 at *
  have x1 := UX_1 Xp y2
  obtain ⟨d1, d2⟩ := dn_loop hb (n := n) (by_ := by_) (tp := tp) (ix := T) (hp := hp) (fr := 0) (T := T) (K := K) (by omega) (by omega) (w := fun k => tb (T + k)) hwD hatD htpD K FU (FU - T) 0 A0 B0 A0 B0 1 T (upd nt1 hp 1) (vp_updL nu1 hp (J 1)) (vp_updL nv1 hp (J 0)) (vp_updL nd1 hp (J 1)) tu1 tv1 td1 (by omega) (by rw [FU_eq]; omega) (by rw [FU_eq]; omega) (by omega) (ok0 a b).2 (At_put nu1 nv1 nd1 hp 1 0 1) (SF_1 A0 B0) (by show A0.natAbs ≤ T * 8388608 * 1; omega) (by show B0.natAbs ≤ T * 8388608 * 1; omega)
  unfold f_X5_addDownward f_X12_summed
  rw [bnd5_s (take_101 nt1 nu1 nv1 nd1 hp), xs]
  rcases (Classical.em (okD a b K)).symm with hD | hD
  · obtain ⟨s1, s2, s3, nt2, nu2, nv2, nd2, tu2, tv2, td2, ru, rv, rd', w1, w2, w3⟩ := d2 hD
    have w1 : f_X5_addDownward_L14 (I (T : Int)) (I (K : Int)) (I a) (I b) (I (n : Int)) by_ hp FU 0 (J A0) (J B0) (J 1) (upd nt1 hp 1) (vp_updL nu1 hp (J 1)) (vp_updL nv1 hp (J 0)) (vp_updL nd1 hp (J 1)) = _ := w1
    have w2 : f_X12_summed_L18 (I ((0 : Nat) : Int)) (I ((T + K : Nat) : Int)) (I ((T : Int) - 1)) (I a) (I b) tp (FU - T) (I (T : Int)) tu1 tv1 td1 (J A0) (J B0) (J 1) = _ := w2
    rw [bnd8_s w1, if_pos rfl, bnd8_s rfl, if_pos rfl, bnd8_s rfl, if_pos rfl, bnd7_s w2, if_pos rfl, bnd7_s rfl, if_pos rfl]
    exact ⟨0, _, _, _, _, _, _, _, _, _, _, _, _, _, _, _, _, _, rfl, rfl, RN_UX h hX (UX_tr x1 (UX_1 Xp (U1_tr (U1_put _ _ _ _ _ _ _ _ _) w3)))⟩
  obtain ⟨A', B', r1, r2, r3, nt2, nu2, nv2, nd2, tu2, tv2, td2, w1, w2, w3, w4, w5, w6, w7⟩ := d1 hD
  have w1 : f_X5_addDownward_L14 (I (T : Int)) (I (K : Int)) (I a) (I b) (I (n : Int)) by_ hp FU 0 (J A0) (J B0) (J 1) (upd nt1 hp 1) (vp_updL nu1 hp (J 1)) (vp_updL nv1 hp (J 0)) (vp_updL nd1 hp (J 1)) = _ := w1
  have w2 : f_X12_summed_L18 (I ((0 : Nat) : Int)) (I ((T + K : Nat) : Int)) (I ((T : Int) - 1)) (I a) (I b) tp (FU - T) (I (T : Int)) tu1 tv1 td1 (J A0) (J B0) (J 1) = _ := w2
  have x2 := UX_tr x1 (UX_1 Xp (U1_tr (U1_put hp nt1 nu1 nv1 nd1 1 _ _ _) w6))
  obtain ⟨-, -, dk1, dk2⟩ := dn_inB hb (hD K (Nat.le_refl K))
  obtain ⟨p1, p2, p3, p4, p5, -, -⟩ := SF_p w3 dk1
  have B1 : B62 r1 := by unfold B62; omega
  have B2 : B62 r2 := by unfold B62; omega
  have B3 : B62 r3 := by unfold B62; omega
  have hset := (s_X12_set (tu := tu2) (tv := tv2) (td := td2) B1 B2 B3 (by omega)).1 (by omega)
  rw [p5, Int.tdiv_one, Int.tdiv_one, Int.tdiv_one] at hset
  have hnum := s_X12_isNumber B1.r B2.r B3.r
  have htk := take_nb (nt := nt2) (nu := nu2) (nv := nv2) (nd := nd2) (x := hh) p5 (by omega) B1 B2 B3
  rw [bnd8_s w1, if_neg (show ¬ (1 : Nat) = 0 by decide), bnd8_s rfl, if_neg (show ¬ (1 : Int32) = 0 by decide), bnd7_s w2, if_neg (show ¬ (1 : Nat) = 0 by decide), bnd3_s hset]
  rcases (inB_dec r1 r2 r3).symm with q | q
  · rw [bnd5_s (htk.2 q), if_pos rfl, bnd8_s rfl, if_pos rfl, bnd1_s (hnum.2 q), bnd7_s rfl, if_pos rfl]
    exact ⟨0, _, _, _, _, _, _, _, _, _, _, _, _, _, _, _, _, _, rfl, rfl, RN_UX h hX x2⟩
  have hR : NB r1 r2 r3 := ⟨q, p1, p5⟩
  obtain ⟨nt3, nu3, nv3, nd3, t1, t2, t3⟩ := take_ex hR nt2 nu2 nv2 nd2 hh
  have x3 := UX_tr x2 (UX_1 Xh t2)
  have hAp := At_U1 w7 t2 (Ne.symm ne6)
  have hDN : NB (dn a b K).1 (dn a b K).2.1 (dn a b K).2.2 := ⟨hD K (Nat.le_refl _), (dn_nf hb _).1, (dn_nf hb _).2⟩
  obtain ⟨nt4, nu4, nv4, nd4, f1, f2, f3⟩ := take_ex hDN nt3 nu3 nv3 nd3 hs
  have cp : f_X0_copy nt3 nu3 nv3 nd3 hs hp = some (1, nt4, nu4, nv4, nd4) := by
    unfold f_X0_copy
    rw [bnd5_eta, hAp.1, hAp.2.1, hAp.2.2, f1]
  have x4 := UX_tr x3 (UX_1 Xs f2)
  have hAh4 := At_U1 t3 f2 ne8
  rw [bnd5_s t1, if_neg (show ¬ (1 : Int32) = 0 by decide), bnd5_s cp, if_neg (show ¬ (1 : Int32) = 0 by decide), bnd1_s (hnum.1 q), bnd7_s rfl, if_neg (show ¬ (1 : Int32) = 0 by decide)]
  have c0 : (I (rd : Int) = 0) ↔ rd = 0 := Ieq0 (by omega) 0 (by omega)
  by_cases z : rd = 0
  · rw [if_pos (c0.mpr z), if_pos (c0.mpr z)]
    obtain ⟨nt5, nu5, nv5, nd5, k1, k2, k3⟩ := take_ex hR nt4 nu4 nv4 nd4 hr
    have cp2 : f_X0_copy nt4 nu4 nv4 nd4 hr hh = some (1, nt5, nu5, nv5, nd5) := by
      unfold f_X0_copy
      rw [bnd5_eta, hAh4.1, hAh4.2.1, hAh4.2.2, k1]
    have x5 := UX_tr x4 (UX_1 Xr k2)
    rw [bnd5_s cp2, if_neg (show ¬ (1 : Int32) = 0 by decide), bnd8_s rfl, if_neg (show ¬ (1 : Int32) = 0 by decide), gdI (by omega) (by omega) (by omega), I_at rfl (by omega), bnd5_s (copy_nb k3 hR), if_neg (show ¬ (1 : Int32) = 0 by decide), bnd5_s ((s_X12_put hi B1.r B2.r B3.r).1 q)]
    exact ⟨1, _, _, _, _, _, _, _, _, _, _, _, _, _, _, _, _, _, rfl, rfl, RN_put (RN_UX h hX x5) hsi hi hR⟩
  · rw [if_neg (fun y => z (c0.mp y)), if_neg (fun y => z (c0.mp y))]
    have eK2 : pt - rd = K := by omega
    obtain ⟨rr, su5, sv5, sd5, nt5, nu5, nv5, nd5, v1, v2, v3⟩ := vR_joint hb (n := n) (pt := pt) (rd := rd) (by omega) (by omega) (by omega) hn hT hne hR hAh4 (by rw [eK2]; exact hD) (by rw [eK2]; exact f3) hi (J r1) (J r2) (J r3) (J r1) (J r2) (J r3) has us vs ds
    rw [bnd8_s v1]
    rcases v3 with ⟨rfl, y1', y2', y3', y4', y5', y6', v4⟩ | ⟨rfl, u, v, d, v4, v5, y1', y2', y3', v6⟩
    · rw [if_pos rfl, bnd8_s rfl, if_pos rfl, v4]
      exact ⟨0, _, _, _, _, _, _, _, _, _, _, _, _, _, _, _, _, _, rfl, rfl, RN_UX h hX (UX_tr x4 v2)⟩
    · rw [if_neg (show ¬ (1 : Int32) = 0 by decide), bnd8_s rfl, if_neg (show ¬ (1 : Int32) = 0 by decide), gdI (by omega) (by omega) (by omega), I_at rfl (by omega), bnd5_s (copy_nb v5 v4), if_neg (show ¬ (1 : Int32) = 0 by decide), v6]
      exact ⟨1, _, _, _, _, _, _, _, _, _, _, _, _, _, _, _, _, _, rfl, rfl, RN_put (RN_UX h hX (UX_tr x4 v2)) hsi hi v4⟩
