theorem bnd5_eta {A1 A2 A3 A4 A5 : Type} (x : Option (A1 × A2 × A3 × A4 × A5)) : bnd5 x (fun a b c d e => some (a, b, c, d, e)) = x := by rcases x with _ | ⟨a, b, c, d, e⟩ <;> rfl
theorem bnd3_eta {A1 A2 A3 : Type} (x : Option (A1 × A2 × A3)) : bnd3 x (fun a b c => some (a, b, c)) = x := by rcases x with _ | ⟨a, b, c⟩ <;> rfl
theorem J_of_eq {a b : Int} (h : a = b) : J a = J b := by rw [h]
/-- i and j together (t = 1), i less j (t = -1) -/
theorem k_join {nt : Nat → Int32} {nu nv nd : Nat → Int64} {y z : Nat} {u v d u' v' d' t : Int} (ht : t = 1 ∨ t = -1) (h1 : nu y = J u) (h2 : nv y = J v) (h3 : nd y = J d) (h4 : nu z = J u') (h5 : nv z = J v') (h6 : nd z = J d') (hn : NB u v d) (hm : NB u' v' d') :
    ∃ U V W : Int, B62 U ∧ B62 V ∧ B62 W ∧ 0 < W ∧ (∀ x : Nat, f_X3_join nt nu nv nd x y z (I t) = f_X0_take nt nu nv nd x (J U) (J V) (J W)) ∧ f_X12_plus (J u) (J v) (J d) (J (t * u')) (J (t * v')) (J d') = some (J (U.tdiv (g3 U V W)), J (V.tdiv (g3 U V W)), J (W.tdiv (g3 U V W))) := by
  have b := hn.b
  have b' := hm.b
  have k1 := bm b.1 b'.2.2.1
  have k2 := bm b'.1 b.2.2.1
  have k3 := bm b.2.1 b'.2.2.1
  have k4 := bm b'.2.1 b.2.2.1
  have k5 := bm b.2.2.1 b'.2.2.1
  have kp : 0 < d * d' := Int.mul_pos (by omega) (by omega)
  have e1 : t * u' * d = t * (u' * d) := Int.mul_assoc _ _ _
  have e2 : t * v' * d = t * (v' * d) := Int.mul_assoc _ _ _
  have rt : R31 t := by rcases ht with rfl | rfl <;> exact ⟨by omega, by omega⟩
  have bU : B62 (u * d' + t * u' * d) := by rw [e1]; rcases ht with rfl | rfl <;> (unfold B62; omega)
  have bV : B62 (v * d' + t * v' * d) := by rw [e2]; rcases ht with rfl | rfl <;> (unfold B62; omega)
  have bW : B62 (d * d') := by unfold B62; omega
  refine ⟨u * d' + t * u' * d, v * d' + t * v' * d, d * d', bU, bV, bW, kp, ?_, ?_⟩
  · intro x
    unfold f_X3_join
    rw [h1, h2, h3, h4, h5, h6, I_J rt, bnd5_eta]
    simp only [J_mul, J_add]
  · unfold f_X12_plus
    rw [bnd3_eta]
    simp only [J_mul, J_add]
    exact (s_X12_set bU bV bW (by omega)).1 kp
theorem k_times {nt : Nat → Int32} {nu nv nd : Nat → Int64} {y z : Nat} {a b u v d u' v' d' : Int} (hb : VB a b) (h1 : nu y = J u) (h2 : nv y = J v) (h3 : nd y = J d) (h4 : nu z = J u') (h5 : nv z = J v') (h6 : nd z = J d') (hn : NB u v d) (hm : NB u' v' d') :
    ∃ U V W : Int, B62 U ∧ B62 V ∧ B62 W ∧ 0 < W ∧ (∀ x : Nat, f_X3_multiply (I a) (I b) nt nu nv nd x y z = f_X0_take nt nu nv nd x (J U) (J V) (J W)) ∧ f_X12_times (I a) (I b) (J u) (J v) (J d) (J u') (J v') (J d') = some (J (U.tdiv (g3 U V W)), J (V.tdiv (g3 U V W)), J (W.tdiv (g3 U V W))) := by
  have hb' := hb
  unfold VB at hb'
  have ra : R31 a := ⟨by omega, by omega⟩
  have rb : R31 b := ⟨by omega, by omega⟩
  have q := hn.b
  have q' := hm.b
  have k1 := bm q.1 q'.1
  have k2 := bm (bm (x := b) (A := 9) (by omega) q.2.1) q'.2.1
  have k3 := bm q.1 q'.2.1
  have k4 := bm q.2.1 q'.1
  have k5 := bm (bm (x := a) (A := 9) (by omega) q.2.1) q'.2.1
  have k6 := bm q.2.2.1 q'.2.2.1
  have kp : 0 < d * d' := Int.mul_pos (by omega) (by omega)
  have bU : B62 (u * u' + b * v * v') := by unfold B62; omega
  have bV : B62 (u * v' + v * u' + a * v * v') := by unfold B62; omega
  have bW : B62 (d * d') := by unfold B62; omega
  refine ⟨u * u' + b * v * v', u * v' + v * u' + a * v * v', d * d', bU, bV, bW, kp, ?_, ?_⟩
  · intro x
    unfold f_X3_multiply
    rw [h1, h2, h3, h4, h5, h6, I_J ra, I_J rb, bnd5_eta]
    simp only [J_mul, J_add]
  · unfold f_X12_times
    rw [I_J ra, I_J rb, bnd3_eta]
    simp only [J_mul, J_add]
    rw [show u * u' + v * v' * b = u * u' + b * v * v' by grind, show u * v' + v * u' + v * v' * a = u * v' + v * u' + a * v * v' by grind]
    exact (s_X12_set bU bV bW (by omega)).1 kp
theorem B62_nat {z : Int} {A : Nat} (h : z.natAbs ≤ A) (hA : A < 4611686018427387904) : B62 z := by unfold B62; omega
/-- the two ways to a quotient: the class's triple is s G times the reference's -/
theorem q_scale {a b u v d d' o1 w1 n1 G s : Int} (hs : s = 1 ∨ s = -1) :
    s * d' * (u * (G * o1) + b * v * (-(G * w1))) = s * G * (u * (o1 * d') + v * (-w1 * d') * b) ∧ s * d' * (u * (-(G * w1)) + v * (G * o1) + a * v * (-(G * w1))) = s * G * (u * (-w1 * d') + v * (o1 * d') + v * (-w1 * d') * a) ∧ d * (s * (G * n1)) = s * G * (d * n1) := by
  refine ⟨?_, ?_, ?_⟩ <;> grind
theorem nf_both {U V W U2 V2 W2 c : Int} {tu tv td : Int64} (hc : c ≠ 0) (h1 : U = c * U2) (h2 : V = c * V2) (h3 : W = c * W2) (hW : 0 < W) (b1 : B62 U2) (b2 : B62 V2) (b3 : B62 W2) :
    f_X12_set tu tv td (J U2) (J V2) (J W2) = some (J (U.tdiv (g3 U V W)), J (V.tdiv (g3 U V W)), J (W.tdiv (g3 U V W))) := by
  have hW2 : W2 ≠ 0 := fun e => by rw [e, Int.mul_zero] at h3; omega
  have hg := g3_pos (u := U2) (v := V2) hW2
  have du := g3_u U2 V2 W2
  have dv := g3_v U2 V2 W2
  have dw := g3_d U2 V2 W2
  have hset := s_X12_set (tu := tu) (tv := tv) (td := td) b1 b2 b3 hW2
  subst h1 h2 h3
  rw [g3_mul]
  rcases (show 0 < c ∨ c < 0 by omega) with q | q
  · have hw : 0 < W2 := by
      rcases (show 0 < W2 ∨ W2 ≤ 0 by omega) with z | z
      · exact z
      · have := Int.mul_nonpos_of_nonneg_of_nonpos (by omega : 0 ≤ c) z
        omega
    rw [nf_pos q hg du, nf_pos q hg dv, nf_pos q hg dw]
    exact hset.1 hw
  · have hw : W2 < 0 := by
      rcases (show W2 < 0 ∨ 0 ≤ W2 by omega) with z | z
      · exact z
      · have := Int.mul_nonpos_of_nonpos_of_nonneg (by omega : c ≤ 0) z
        omega
    rw [nf_neg q hg du, nf_neg q hg dv, nf_neg q hg dw]
    exact hset.2 hw
