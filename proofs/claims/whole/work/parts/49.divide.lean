theorem dv_N {a b u v : Int} (ha : a.natAbs ≤ 9) (hb : b.natAbs ≤ 9) (hu : u.natAbs ≤ 65536) (hv : v.natAbs ≤ 65536) : (nrm a b u v).natAbs ≤ 81604378624 := by
  have j1 := bm hu hu
  have j2 := bm (bm ha hu) hv
  have j3 := bm (bm hb hv) hv
  unfold nrm
  generalize u * u = x1 at *
  generalize a * u * v = x2 at *
  generalize b * v * v = x3 at *
  clear hu hv ha hb
  omega
theorem dv_o {a u v : Int} (ha : a.natAbs ≤ 9) (hu : u.natAbs ≤ 65536) (hv : v.natAbs ≤ 65536) : (u + a * v).natAbs ≤ 655360 := by
  have j := bm ha hv
  generalize a * v = x at *
  omega
theorem dv_p {b u v o w : Int} (hb : b.natAbs ≤ 9) (hu : u.natAbs ≤ 65536) (hv : v.natAbs ≤ 65536) (ho : o.natAbs ≤ 655360) (hw : w.natAbs ≤ 65536) : (u * o + b * v * w).natAbs ≤ 81604378624 := by
  have j1 := bm hu ho
  have j2 := bm (bm hb hv) hw
  generalize u * o = x at *
  generalize b * v * w = y at *
  clear hu hv ho hw hb
  omega
theorem dv_q {a u v o w : Int} (ha : a.natAbs ≤ 9) (hu : u.natAbs ≤ 65536) (hv : v.natAbs ≤ 65536) (ho : o.natAbs ≤ 655360) (hw : w.natAbs ≤ 65536) : (u * w + v * o + a * v * w).natAbs ≤ 85899345920 := by
  have j1 := bm hv ho
  have j2 := bm (bm ha hv) hw
  have j3 := bm hu hw
  generalize v * o = x at *
  generalize a * v * w = y at *
  generalize u * w = z at *
  clear hu hv ho hw ha
  omega
theorem fac_le {G x A : Int} (hG : 0 < G) {B : Nat} (h : x = G * A) (hx : x.natAbs ≤ B) : A.natAbs ≤ B := by
  subst h
  rw [Int.natAbs_mul] at hx
  have : 1 * A.natAbs ≤ G.natAbs * A.natAbs := Nat.mul_le_mul_right _ (by omega)
  omega
theorem k_divide {nt : Nat → Int32} {nu nv nd : Nat → Int64} {y z : Nat} {a b u v d u' v' d' : Int} (hb : VB a b) (h1 : nu y = J u) (h2 : nv y = J v) (h3 : nd y = J d) (h4 : nu z = J u') (h5 : nv z = J v') (h6 : nd z = J d') (hn : NB u v d) (hm : NB u' v' d') (h0 : ¬ (u' = 0 ∧ v' = 0)) :
    ∃ U V W : Int, B62 U ∧ B62 V ∧ B62 W ∧ 0 < W ∧ (∀ x : Nat, f_X3_divide (I a) (I b) nt nu nv nd x y z = f_X0_take nt nu nv nd x (J U) (J V) (J W)) ∧ f_X12_by (I a) (I b) (J u) (J v) (J d) (J u') (J v') (J d') = some (J (U.tdiv (g3 U V W)), J (V.tdiv (g3 U V W)), J (W.tdiv (g3 U V W))) := by
  have ha9 : a.natAbs ≤ 9 := by unfold VB at hb; omega
  have hb9 : b.natAbs ≤ 9 := by unfold VB at hb; omega
  have ra : R31 a := ⟨by omega, by omega⟩
  have rb : R31 b := ⟨by omega, by omega⟩
  obtain ⟨qu, qv, qd, qd1⟩ := hn.b
  obtain ⟨qu', qv', qd', qd1'⟩ := hm.b
  have hN : nrm a b u' v' ≠ 0 := fun e => h0 (hb.nrm0 e)
  have jN := dv_N ha9 hb9 qu' qv'
  have jo := dv_o ha9 qu' qv'
  have nv' : (-v').natAbs ≤ 65536 := by rw [Int.natAbs_neg]; exact qv'
  have eN : J u' * J u' + J a * J u' * J v' - J b * J v' * J v' = J (nrm a b u' v') := by simp only [J_mul, J_add, J_sub]; rfl
  have eo : J u' + J a * J v' = J (u' + a * v') := by simp only [J_mul, J_add]
  have b1 : B62 (u' + a * v') := B62_nat jo (by decide)
  have b2 : B62 v' := B62_nat qv' (by decide)
  have b3 : B62 (nrm a b u' v') := B62_nat jN (by decide)
  generalize u' + a * v' = o at *
  generalize nrm a b u' v' = N at *
  have bg : B62 (gz o v') := b1.g b2
  have bG : B62 (gz (gz o v') N) := bg.g b3
  have hGp : 0 < gz (gz o v') N := gz_pos_r hN
  have do_ : gz (gz o v') N ∣ o := Int.dvd_trans (gz_dvd_l _ _) (gz_dvd_l _ _)
  have dv : gz (gz o v') N ∣ v' := Int.dvd_trans (gz_dvd_l _ _) (gz_dvd_r _ _)
  have dN : gz (gz o v') N ∣ N := gz_dvd_r _ _
  have hby : f_X12_by (I a) (I b) (J u) (J v) (J d) (J u') (J v') (J d') = f_X12_set (J u) (J v) (J d) (J u * (J (o.tdiv (gz (gz o v') N)) * J d') + J v * (J ((-v').tdiv (gz (gz o v') N)) * J d') * J b) (J u * (J ((-v').tdiv (gz (gz o v') N)) * J d') + J v * (J (o.tdiv (gz (gz o v') N)) * J d') + J v * (J ((-v').tdiv (gz (gz o v') N)) * J d') * J a) (J d * J (N.tdiv (gz (gz o v') N))) := by
    have b2n : B62 (-v') := B62_nat nv' (by decide)
    unfold f_X12_by f_X12_times
    rw [I_J ra, I_J rb, eN, eo, bnd1_s (s_X12_common b1.r b2.r b1.n b2.n), bnd1_s (s_X12_common bg.r b3.r bg.n b3.n), gdL bG.r (by omega), gdL bG.r (by omega), gdL bG.r (by omega), J_neg, J_div b1.r bG.r b1.n, J_div b2n.r bG.r b2n.n, J_div b3.r bG.r b3.n, bnd3_eta, bnd3_eta]
  generalize gz (gz o v') N = G at *
  obtain ⟨o1, ho1⟩ := do_
  obtain ⟨w1, hw1⟩ := dv
  obtain ⟨n1, hn1⟩ := dN
  have t1 : o.tdiv G = o1 := by rw [ho1]; exact Int.mul_tdiv_cancel_left _ (by omega)
  have t2 : (-v').tdiv G = -w1 := by rw [hw1, ← Int.mul_neg]; exact Int.mul_tdiv_cancel_left _ (by omega)
  have t3 : N.tdiv G = n1 := by rw [hn1]; exact Int.mul_tdiv_cancel_left _ (by omega)
  have fo := fac_le hGp ho1 jo
  have fw := fac_le hGp hw1 qv'
  have fn := fac_le hGp hn1 jN
  have fwn : (-w1).natAbs ≤ 65536 := by rw [Int.natAbs_neg]; exact fw
  rw [t1, t2, t3] at hby
  simp only [J_mul, J_add] at hby
  have cb1 : B62 (u * (o1 * d') + v * (-w1 * d') * b) := by
    have e : u * (o1 * d') + v * (-w1 * d') * b = d' * (u * o1 + b * v * (-w1)) := by grind
    rw [e]; exact B62_nat (bm qd' (dv_p hb9 qu qv fo fwn)) (by decide)
  have cb2 : B62 (u * (-w1 * d') + v * (o1 * d') + v * (-w1 * d') * a) := by
    have e : u * (-w1 * d') + v * (o1 * d') + v * (-w1 * d') * a = d' * (u * (-w1) + v * o1 + a * v * (-w1)) := by grind
    rw [e]; exact B62_nat (bm qd' (dv_q ha9 qu qv fo fwn)) (by decide)
  have cb3 : B62 (d * n1) := B62_nat (bm qd fn) (by decide)
  have core : ∀ s : Int, (s = 1 ∨ s = -1) → 0 < s * N → ∃ U V W : Int, B62 U ∧ B62 V ∧ B62 W ∧ 0 < W ∧ (U = s * d' * (u * o + b * v * (-v')) ∧ V = s * d' * (u * (-v') + v * o + a * v * (-v')) ∧ W = d * (s * N)) ∧ f_X12_by (I a) (I b) (J u) (J v) (J d) (J u') (J v') (J d') = some (J (U.tdiv (g3 U V W)), J (V.tdiv (g3 U V W)), J (W.tdiv (g3 U V W))) := by
    intro s hs hp
    have sd : (s * d').natAbs ≤ 1 * 1000 := bm (by rcases hs with rfl | rfl <;> decide) qd'
    have sN : (s * N).natAbs ≤ 1 * 81604378624 := bm (by rcases hs with rfl | rfl <;> decide) jN
    refine ⟨_, _, _, B62_nat (bm sd (dv_p hb9 qu qv jo nv')) (by decide), B62_nat (bm sd (dv_q ha9 qu qv jo nv')) (by decide), B62_nat (bm qd sN) (by decide), Int.mul_pos (by omega) hp, ⟨rfl, rfl, rfl⟩, ?_⟩
    rw [hby]
    obtain ⟨k1, k2, k3⟩ := q_scale (a := a) (b := b) (u := u) (v := v) (d := d) (d' := d') (o1 := o1) (w1 := w1) (n1 := n1) (G := G) hs
    rw [ho1, hw1, hn1]
    refine nf_both (c := s * G) ?_ k1 k2 k3 (Int.mul_pos (by omega) (by rw [← hn1]; exact hp)) cb1 cb2 cb3
    rcases hs with rfl | rfl <;> omega
  have z0 : R63 0 := ⟨by omega, by omega⟩
  have cz : ¬ J N = 0 := by rw [J0, J_eq b3.r z0]; exact hN
  rcases (show N < 0 ∨ 0 < N by omega) with q | q
  · obtain ⟨U, V, W, c1, c2, c3, c4, ⟨rfl, rfl, rfl⟩, c6⟩ := core (-1) (Or.inr rfl) (by omega)
    refine ⟨_, _, _, c1, c2, c3, c4, ?_, c6⟩
    have cn : J N ≤ 0 := by rw [J0, J_le b3.r z0]; omega
    intro x
    unfold f_X3_divide
    rw [h1, h2, h3, h4, h5, h6, I_J ra, I_J rb, eN, eo, if_neg cz, if_pos cn, bnd1_s (s_abs b3.r b3.n), bnd5_eta]
    simp only [J_neg, J_mul, J_add]
    rw [show (N.natAbs : Int) = -1 * N by omega, show (-1 : Int) * d' = -d' by omega]
  · obtain ⟨U, V, W, c1, c2, c3, c4, ⟨rfl, rfl, rfl⟩, c6⟩ := core 1 (Or.inl rfl) (by omega)
    refine ⟨_, _, _, c1, c2, c3, c4, ?_, c6⟩
    have cn : ¬ J N ≤ 0 := by rw [J0, J_le b3.r z0]; omega
    intro x
    unfold f_X3_divide
    rw [h1, h2, h3, h4, h5, h6, I_J ra, I_J rb, eN, eo, if_neg cz, if_neg cn, bnd1_s (s_abs b3.r b3.n), bnd5_eta]
    simp only [J_neg, J_mul, J_add]
    rw [show (N.natAbs : Int) = 1 * N by omega, show (1 : Int) * d' = d' by omega]
