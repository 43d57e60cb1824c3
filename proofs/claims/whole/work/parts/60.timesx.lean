/-! times x: the order is kept -/
theorem sqcmp {x y : Int} (hy : 0 ≤ y) (h : x * x ≤ y * y) : x ≤ y := by
  rcases (show x ≤ y ∨ y < x by omega) with q | q
  · exact q
  · have := Int.mul_self_lt_mul_self hy q
    omega
theorem VB.Dpos {a b : Int} (h : VB a b) : 0 < DD a b := by
  have h0 := h.D0
  have h1 := h.nonsq 0
  omega
theorem sqn (m : Int) : (m = 0 → m * m = 0) ∧ (m ≠ 0 → 0 < m * m) := by
  refine ⟨fun e => by rw [e]; rfl, fun e => ?_⟩
  rcases (show 0 < m ∨ m < 0 by omega) with q | q
  · exact Int.mul_pos q q
  · have := Int.mul_pos (show 0 < -m by omega) (show 0 < -m by omega)
    rw [Int.neg_mul_neg] at this
    exact this
theorem nn_sq {a b : Int} (h : VB a b) {p q : Int} : nn a b p q ↔ (0 ≤ 2 * p + a * q ∧ DD a b * q * q ≤ (2 * p + a * q) * (2 * p + a * q)) ∨ (0 ≤ q ∧ (2 * p + a * q) * (2 * p + a * q) ≤ DD a b * q * q) := by
  have h4 := nrm4 a b p q
  have hD := h.Dpos
  have hne : q ≠ 0 → DD a b * q * q ≠ (2 * p + a * q) * (2 * p + a * q) := by
    intro hq e
    rw [Int.mul_assoc] at e
    have : nrm a b p q = 0 := by omega
    exact hq (h.nrm0 this).2
  have hM := sqn (2 * p + a * q)
  have hQ1 : q = 0 → DD a b * q * q = 0 := by
    intro e; rw [e, Int.mul_zero]
  have hQ2 : q ≠ 0 → 0 < DD a b * q * q := by
    intro e; rw [Int.mul_assoc]; exact Int.mul_pos hD ((sqn q).2 e)
  unfold nn sg
  generalize 2 * p + a * q = m at *
  generalize m * m = M at *
  generalize DD a b * q * q = Q at *
  repeat' split
  all_goals omega
theorem nn_x {a b : Int} (h : VB a b) {p q : Int} (h1 : nn a b p q) : nn a b (b * q) (p + a * q) := by
  have hD := h.Dpos
  have h' := h
  unfold VB at h'
  rw [nn_sq h] at *
  have e1 : 2 * (2 * (b * q) + a * (p + a * q)) = a * (2 * p + a * q) + DD a b * q := by unfold DD; grind
  have e2 : 2 * (p + a * q) = (2 * p + a * q) + a * q := by grind
  have e3 : (2 * (b * q) + a * (p + a * q)) * (2 * (b * q) + a * (p + a * q)) - DD a b * (p + a * q) * (p + a * q) = -b * ((2 * p + a * q) * (2 * p + a * q) - DD a b * q * q) := by unfold DD; grind
  have eD : DD a b = a * a + 4 * b := rfl
  generalize 2 * (b * q) + a * (p + a * q) = m1 at *
  generalize p + a * q = q1 at *
  generalize 2 * p + a * q = m at *
  have hmm : 0 ≤ m * m := by have := sqn m; omega
  have hqq : 0 ≤ q * q := by have := sqn q; omega
  have a0 : 0 ≤ a := by omega
  generalize DD a b = D at *
  rcases h1 with ⟨c1, c2⟩ | ⟨c1, c2⟩
  · rcases (show b < 0 ∨ 0 < b by omega) with hb | hb
    · left
      have hE : 0 ≤ -b * (m * m - D * q * q) := Int.mul_nonneg (by omega) (by omega)
      refine ⟨?_, by omega⟩
      have k : D * -q ≤ a * m := by
        refine sqcmp (Int.mul_nonneg a0 c1) ?_
        have k1 : D * (D * q * q) ≤ D * (m * m) := Int.mul_le_mul_of_nonneg_left c2 (by omega)
        have k2 : D * (m * m) ≤ (a * a) * (m * m) := Int.mul_le_mul_of_nonneg_right (by omega) hmm
        have k3 : D * -q * (D * -q) = D * (D * q * q) := by grind
        have k4 : a * m * (a * m) = (a * a) * (m * m) := by grind
        omega
      rw [Int.mul_neg] at k
      omega
    · right
      have hE : 0 ≤ b * (m * m - D * q * q) := Int.mul_nonneg (by omega) (by omega)
      rw [Int.neg_mul] at e3
      refine ⟨?_, by omega⟩
      have k : a * -q ≤ m := by
        refine sqcmp c1 ?_
        have k2 : (a * a) * (q * q) ≤ D * (q * q) := Int.mul_le_mul_of_nonneg_right (by omega) hqq
        have k3 : a * -q * (a * -q) = (a * a) * (q * q) := by grind
        have k4 : D * (q * q) = D * q * q := by grind
        omega
      rw [Int.mul_neg] at k
      omega
  · rcases (show b < 0 ∨ 0 < b by omega) with hb | hb
    · right
      have hE : 0 ≤ -b * (D * q * q - m * m) := Int.mul_nonneg (by omega) (by omega)
      have e5 : -b * (m * m - D * q * q) = -(-b * (D * q * q - m * m)) := by grind
      refine ⟨?_, by omega⟩
      have k : -m ≤ a * q := by
        refine sqcmp (Int.mul_nonneg a0 c1) ?_
        have k2 : D * (q * q) ≤ (a * a) * (q * q) := Int.mul_le_mul_of_nonneg_right (by omega) hqq
        have k3 : a * q * (a * q) = (a * a) * (q * q) := by grind
        have k4 : D * (q * q) = D * q * q := by grind
        rw [Int.neg_mul_neg]
        omega
      omega
    · left
      have hE : 0 ≤ b * (D * q * q - m * m) := Int.mul_nonneg (by omega) (by omega)
      have e5 : -b * (m * m - D * q * q) = b * (D * q * q - m * m) := by grind
      refine ⟨?_, by omega⟩
      have k : a * -m ≤ D * q := by
        refine sqcmp (Int.mul_nonneg (by omega) c1) ?_
        have k1 : D * (m * m) ≤ D * (D * q * q) := Int.mul_le_mul_of_nonneg_left c2 (by omega)
        have k2 : (a * a) * (m * m) ≤ D * (m * m) := Int.mul_le_mul_of_nonneg_right (by omega) hmm
        have k3 : D * q * (D * q) = D * (D * q * q) := by grind
        have k4 : a * -m * (a * -m) = (a * a) * (m * m) := by grind
        omega
      rw [Int.mul_neg] at k
      omega
theorem ng_neg {a b : Int} {p q : Int} (h1 : ¬ nn a b p q) : nn a b (-p) (-q) := by
  unfold nn at *
  rw [sg_neg]; omega
theorem ng_ne {a b : Int} {p q : Int} (h1 : nn a b (-p) (-q)) (h2 : ¬ (p = 0 ∧ q = 0)) : ¬ nn a b p q := by
  unfold nn at *
  rw [sg_neg] at h1
  intro h3
  exact h2 (sg_zero (by omega : sg a (DD a b) p q = 0))
theorem ng_x {a b : Int} (h : VB a b) {p q : Int} (h1 : ¬ nn a b p q) : ¬ nn a b (b * q) (p + a * q) := by
  have h2 := nn_x h (ng_neg h1)
  have h' := h
  unfold VB at h'
  refine ng_ne ?_ ?_
  · rw [show -(b * q) = b * -q from (Int.mul_neg _ _).symm, show -(p + a * q) = -p + a * -q by rw [Int.mul_neg]; omega]
    exact h2
  · rintro ⟨z1, z2⟩
    have hq : q = 0 := by
      rcases Int.mul_eq_zero.mp z1 with z | z
      · omega
      · exact z
    subst hq
    rw [Int.mul_zero] at z2
    have hp : p = 0 := by omega
    subst hp
    exact h1 ((nn_int h).mpr (by omega))
