/-! sums, products, quotients in least terms -/
theorem gz_mul (c m n : Int) : gz (c * m) (c * n) = c.natAbs * gz m n := by
  unfold gz
  rw [Int.natAbs_mul, Int.natAbs_mul, Nat.gcd_mul_left]
  exact Int.natCast_mul _ _
theorem gz_mul' (c x d : Int) : gz ((c.natAbs : Int) * x) (c * d) = c.natAbs * gz x d := by
  unfold gz
  rw [Int.natAbs_mul, Int.natAbs_mul, Int.natAbs_natCast, Nat.gcd_mul_left]
  exact Int.natCast_mul _ _
theorem g3_mul (c u v d : Int) : g3 (c * u) (c * v) (c * d) = c.natAbs * g3 u v d := by
  unfold g3
  rw [gz_mul, gz_mul']
/-- a triple and its multiple have the same least terms, but for the sign -/
theorem nf_pos {c u g : Int} (hc : 0 < c) (hg : 0 < g) (h : g ∣ u) : (c * u).tdiv ((c.natAbs : Int) * g) = u.tdiv g := by
  obtain ⟨k, rfl⟩ := h
  have e1 : ((c.natAbs : Nat) : Int) = c := by omega
  rw [e1, Int.mul_tdiv_cancel_left _ (by omega : g ≠ 0), ← Int.mul_assoc, Int.mul_tdiv_cancel_left]
  exact Int.ne_of_gt (Int.mul_pos hc hg)
theorem nf_neg {c u g : Int} (hc : c < 0) (hg : 0 < g) (h : g ∣ u) : (c * u).tdiv ((c.natAbs : Int) * g) = -(u.tdiv g) := by
  obtain ⟨k, rfl⟩ := h
  have e1 : ((c.natAbs : Nat) : Int) = -c := by omega
  rw [e1, Int.mul_tdiv_cancel_left _ (by omega : g ≠ 0)]
  have e2 : c * (g * k) = (-c * g) * (-k) := by
    rw [← Int.mul_assoc, Int.neg_mul, Int.neg_mul_neg]
  rw [e2, Int.mul_tdiv_cancel_left]
  exact Int.ne_of_gt (Int.mul_pos (by omega) hg)
theorem set_id {tu tv td : Int64} {u v d : Int} (h : NB u v d) : f_X12_set tu tv td (J u) (J v) (J d) = some (J u, J v, J d) := by
  have b := h.b
  have e := (s_X12_set (tu := tu) (tv := tv) (td := td) (u := u) (v := v) (d := d) (by unfold B62; omega) (by unfold B62; omega) (by unfold B62; omega) (by omega)).1 (by omega)
  rw [h.2.2, Int.tdiv_one, Int.tdiv_one, Int.tdiv_one] at e
  exact e
/-- the norm of p + q x is 0 for 0 alone -/
theorem sq_dvd {m q D : Nat} (hq : 0 < q) (h : m * m = D * (q * q)) : ∃ k, D = k * k := by
  have h1 : q ^ 2 ∣ m ^ 2 := ⟨D, by rw [Nat.pow_two, Nat.pow_two, h, Nat.mul_comm]⟩
  obtain ⟨k, rfl⟩ := (Nat.pow_dvd_pow_iff (by decide : (2 : Nat) ≠ 0)).mp h1
  refine ⟨k, ?_⟩
  have h2 : (q * q) * (k * k) = (q * q) * D := by
    rw [Nat.mul_comm (q * q) D, ← h, Nat.mul_mul_mul_comm]
  exact (Nat.eq_of_mul_eq_mul_left (Nat.mul_pos hq hq) h2).symm
theorem VB.nonsq {a b : Int} (h : VB a b) (k : Nat) : DD a b ≠ (k * k : Nat) := by
  intro e
  have hD := h.D
  have h0 := h.D0
  have hk : k ≤ 10 := by
    rcases Nat.lt_or_ge 10 k with q | q
    · have : 11 * 11 ≤ k * k := Nat.mul_le_mul q q
      omega
    · exact q
  have h' := h
  unfold VB at h'
  unfold DD at e
  rcases h.a9 with rfl | rfl | rfl | rfl | rfl | rfl | rfl | rfl | rfl <;>
  rcases (show k = 0 ∨ k = 1 ∨ k = 2 ∨ k = 3 ∨ k = 4 ∨ k = 5 ∨ k = 6 ∨ k = 7 ∨ k = 8 ∨ k = 9 ∨ k = 10 by omega) with rfl | rfl | rfl | rfl | rfl | rfl | rfl | rfl | rfl | rfl | rfl <;> omega
def nrm (a b p q : Int) : Int := p * p + a * p * q - b * q * q
theorem nrm4 (a b p q : Int) : 4 * nrm a b p q = (2 * p + a * q) * (2 * p + a * q) - DD a b * (q * q) := by
  unfold nrm DD
  grind
theorem VB.nrm0 {a b p q : Int} (h : VB a b) (e : nrm a b p q = 0) : p = 0 ∧ q = 0 := by
  have h4 := nrm4 a b p q
  rw [e] at h4
  have hq : q = 0 := by
    rcases Nat.eq_zero_or_pos q.natAbs with z | z
    · omega
    · exfalso
      have e1 : (2 * p + a * q) * (2 * p + a * q) = DD a b * (q * q) := by omega
      have e2 : (2 * p + a * q).natAbs * (2 * p + a * q).natAbs = (DD a b).natAbs * (q.natAbs * q.natAbs) := by
        rw [← Int.natAbs_mul, e1, Int.natAbs_mul, Int.natAbs_mul]
      obtain ⟨k, hk⟩ := sq_dvd z e2
      have h0 := h.D0
      exact h.nonsq k (by omega)
  subst hq
  have : p * p = 0 := by
    unfold nrm at e
    simpa using e
  rcases Int.mul_eq_zero.mp this with z | z <;> exact ⟨z, rfl⟩
