/-! the order of the numbers p + q x: nn, by roots of whole numbers -/
theorem sqex (n : Nat) : ∃ r : Nat, r * r ≤ n ∧ n < (r + 1) * (r + 1) := by
  induction n with
  | zero => exact ⟨0, by decide, by decide⟩
  | succ n ih =>
    obtain ⟨r, h1, h2⟩ := ih
    by_cases q : n + 1 < (r + 1) * (r + 1)
    · exact ⟨r, by omega, q⟩
    · have : (r + 1) * (r + 1) < (r + 1 + 1) * (r + 1 + 1) := Nat.mul_self_lt_mul_self (by omega)
      exact ⟨r + 1, by omega, by omega⟩
noncomputable def sq (n : Nat) : Nat := Classical.choose (sqex n)
theorem sq_1 (n : Nat) : sq n * sq n ≤ n := (Classical.choose_spec (sqex n)).1
theorem sq_2 (n : Nat) : n < (sq n + 1) * (sq n + 1) := (Classical.choose_spec (sqex n)).2
theorem sq_le {n k : Nat} : k ≤ sq n ↔ k * k ≤ n := by
  constructor
  · intro h; exact Nat.le_trans (Nat.mul_self_le_mul_self h) (sq_1 n)
  · intro h
    rcases Nat.lt_or_ge (sq n) k with q | q
    · have := Nat.mul_self_le_mul_self (show sq n + 1 ≤ k from q)
      have := sq_2 n
      omega
    · exact q
noncomputable def S_ (D x : Nat) : Nat := sq (D * (x * x))
theorem S_lo (D x y : Nat) : S_ D x + S_ D y ≤ S_ D (x + y) := by
  unfold S_
  rw [sq_le]
  have h1 := sq_1 (D * (x * x))
  have h2 := sq_1 (D * (y * y))
  generalize sq (D * (x * x)) = r at *
  generalize sq (D * (y * y)) = t at *
  have h3 : r * t ≤ D * (x * y) := by
    rw [← Nat.mul_self_le_mul_self_iff]
    have := Nat.mul_le_mul h1 h2
    have e1 : r * t * (r * t) = r * r * (t * t) := by grind
    have e2 : D * (x * y) * (D * (x * y)) = D * (x * x) * (D * (y * y)) := by grind
    omega
  have e3 : (r + t) * (r + t) = r * r + 2 * (r * t) + t * t := by grind
  have e4 : D * ((x + y) * (x + y)) = D * (x * x) + 2 * (D * (x * y)) + D * (y * y) := by grind
  omega
theorem S_up (D x y : Nat) : S_ D (x + y) ≤ S_ D x + S_ D y + 1 := by
  unfold S_
  have h1 := sq_2 (D * (x * x))
  have h2 := sq_2 (D * (y * y))
  have h0 := sq_1 (D * ((x + y) * (x + y)))
  generalize sq (D * (x * x)) = r at *
  generalize sq (D * (y * y)) = t at *
  generalize sq (D * ((x + y) * (x + y))) = z at *
  rcases Nat.lt_or_ge (r + t + 1) z with q | q
  · exfalso
    have h3 : D * (x * y) ≤ (r + 1) * (t + 1) := by
      rw [← Nat.mul_self_le_mul_self_iff]
      have := Nat.mul_le_mul (Nat.le_of_lt h1) (Nat.le_of_lt h2)
      have e1 : (r + 1) * (t + 1) * ((r + 1) * (t + 1)) = (r + 1) * (r + 1) * ((t + 1) * (t + 1)) := by grind
      have e2 : D * (x * y) * (D * (x * y)) = D * (x * x) * (D * (y * y)) := by grind
      omega
    have h4 := Nat.mul_self_le_mul_self (show (r + 1) + (t + 1) ≤ z by omega)
    have e3 : ((r + 1) + (t + 1)) * ((r + 1) + (t + 1)) = (r + 1) * (r + 1) + 2 * ((r + 1) * (t + 1)) + (t + 1) * (t + 1) := by grind
    have e4 : D * ((x + y) * (x + y)) = D * (x * x) + 2 * (D * (x * y)) + D * (y * y) := by grind
    omega
  · exact q
/-- the whole part of q times the root of D -/
noncomputable def fl (D : Nat) (q : Int) : Int := if 0 ≤ q then (S_ D q.toNat : Int) else -(S_ D (-q).toNat : Int) - 1
theorem fl_p (D x : Nat) : fl D (x : Int) = S_ D x := by
  unfold fl; rw [if_pos (by omega)]; congr 2
theorem fl_m (D x : Nat) (h : 0 < x) : fl D (-(x : Int)) = -(S_ D x : Int) - 1 := by
  unfold fl; rw [if_neg (by omega)]; congr 4; omega
theorem S_0 (D : Nat) : S_ D 0 = 0 := by
  have := S_lo D 0 0
  simp only [Nat.add_zero] at this
  omega
theorem sgn_cases (q : Int) : (∃ x : Nat, q = (x : Int)) ∨ ∃ x : Nat, 0 < x ∧ q = -(x : Int) := by
  rcases (show 0 ≤ q ∨ q < 0 by omega) with h | h
  · exact Or.inl ⟨q.toNat, by omega⟩
  · exact Or.inr ⟨(-q).toNat, by omega, by omega⟩
theorem fl_mix (D x y : Nat) (hy : 0 < y) : fl D x + fl D (-(y : Int)) ≤ fl D ((x : Int) + -(y : Int)) ∧ fl D ((x : Int) + -(y : Int)) ≤ fl D x + fl D (-(y : Int)) + 1 := by
  rw [fl_p, fl_m _ _ hy]
  rcases Nat.lt_or_ge x y with q | q
  · obtain ⟨z, rfl⟩ : ∃ z, y = x + z := ⟨y - x, by omega⟩
    rw [show (x : Int) + -((x + z : Nat) : Int) = -(z : Int) by omega, fl_m _ _ (by omega)]
    have h1 := S_lo D x z
    have h2 := S_up D x z
    omega
  · obtain ⟨z, rfl⟩ : ∃ z, x = z + y := ⟨x - y, by omega⟩
    rw [show ((z + y : Nat) : Int) + -(y : Int) = (z : Int) by omega, fl_p]
    have h1 := S_lo D z y
    have h2 := S_up D z y
    omega
theorem fl_both (D : Nat) (q r : Int) : fl D q + fl D r ≤ fl D (q + r) ∧ fl D (q + r) ≤ fl D q + fl D r + 1 := by
  rcases sgn_cases q with ⟨x, rfl⟩ | ⟨x, hx, rfl⟩
  · rcases sgn_cases r with ⟨y, rfl⟩ | ⟨y, hy, rfl⟩
    · rw [← Int.natCast_add, fl_p, fl_p, fl_p]
      have h1 := S_lo D x y
      have h2 := S_up D x y
      omega
    · exact fl_mix D x y hy
  · rcases sgn_cases r with ⟨y, rfl⟩ | ⟨y, hy, rfl⟩
    · have := fl_mix D y x hx
      rw [Int.add_comm (-(x : Int)) (y : Int)]
      omega
    · rw [show -(x : Int) + -(y : Int) = -((x + y : Nat) : Int) by omega, fl_m _ _ hx, fl_m _ _ hy, fl_m _ _ (by omega)]
      have h1 := S_lo D x y
      have h2 := S_up D x y
      omega
theorem sgn01 {P : Prop} [Decidable P] : (0 ≤ (if P then (1 : Int) else -1)) ↔ P := by
  split <;> simp_all
theorem sg_fl {a D p q : Int} (hD : 0 ≤ D) : 0 ≤ sg a D p q ↔ 0 ≤ 2 * p + a * q + fl D.toNat q := by
  obtain ⟨d, rfl⟩ : ∃ d : Nat, D = (d : Int) := ⟨D.toNat, by omega⟩
  rw [Int.toNat_natCast]
  unfold sg
  generalize 2 * p + a * q = m
  rcases sgn_cases q with ⟨x, rfl⟩ | ⟨x, hx, rfl⟩
  · rw [fl_p]
    by_cases c1 : 0 ≤ m
    · have : 0 ≤ (if m = 0 ∧ (x : Int) = 0 then (0 : Int) else if 0 ≤ m ∧ 0 ≤ (x : Int) then 1 else if m ≤ 0 ∧ (x : Int) ≤ 0 then -1 else if ((d : Int) * x * x < m * m ↔ 0 < m) then 1 else -1) := by
        split
        · omega
        · rw [if_pos ⟨c1, by omega⟩]; omega
      exact ⟨fun _ => by omega, fun _ => this⟩
    · rw [if_neg (by omega), if_neg (by omega)]
      by_cases c2 : x = 0
      · subst c2
        rw [if_pos ⟨by omega, by omega⟩, S_0]; omega
      · rw [if_neg (by omega)]
        obtain ⟨k, rfl⟩ : ∃ k : Nat, m = -(k : Int) := ⟨(-m).toNat, by omega⟩
        have e1 : -(k : Int) * -(k : Int) = ((k * k : Nat) : Int) := by rw [Int.neg_mul_neg, Int.natCast_mul]
        have e2 : (d : Int) * x * x = ((d * (x * x) : Nat) : Int) := by rw [Int.mul_assoc, Int.natCast_mul, Int.natCast_mul]
        have hs := @sq_le (d * (x * x)) k
        rw [sgn01, e1, e2]
        unfold S_
        omega
  · rw [fl_m _ _ hx, if_neg (by omega), if_neg (by omega)]
    by_cases c1 : m ≤ 0
    · rw [if_pos ⟨c1, by omega⟩]; omega
    · rw [if_neg (by omega)]
      obtain ⟨k, rfl⟩ : ∃ k : Nat, m = (k : Int) := ⟨m.toNat, by omega⟩
      have e1 : (k : Int) * (k : Int) = ((k * k : Nat) : Int) := by rw [Int.natCast_mul]
      have e2 : (d : Int) * -(x : Int) * -(x : Int) = ((d * (x * x) : Nat) : Int) := by rw [Int.mul_assoc, Int.neg_mul_neg, Int.natCast_mul, Int.natCast_mul]
      have hs := @sq_le (d * (x * x)) k
      rw [sgn01, e1, e2]
      have h1 := sq_1 (d * (x * x))
      have h2 := sq_2 (d * (x * x))
      have hs2 : k ≤ sq (d * (x * x)) ∨ d * (x * x) < k * k := by
        rcases Nat.lt_or_ge (sq (d * (x * x))) k with q | q
        · have := Nat.mul_self_le_mul_self (show sq (d * (x * x)) + 1 ≤ k from q)
          exact Or.inr (by omega)
        · exact Or.inl q
      unfold S_
      omega
def nn (a b p q : Int) : Prop := 0 ≤ sg a (DD a b) p q
theorem VB_nn {a b : Int} (h : VB a b) {p q : Int} : nn a b p q ↔ 0 ≤ 2 * p + a * q + fl (DD a b).toNat q := sg_fl h.D0
theorem nn_add {a b : Int} (h : VB a b) {p q r s : Int} (h1 : nn a b p q) (h2 : nn a b r s) : nn a b (p + r) (q + s) := by
  rw [VB_nn h] at *
  have := (fl_both (DD a b).toNat q s).1
  have e : a * (q + s) = a * q + a * s := Int.mul_add _ _ _
  omega
theorem ng_add {a b : Int} (h : VB a b) {p q r s : Int} (h1 : ¬ nn a b p q) (h2 : ¬ nn a b r s) : ¬ nn a b (p + r) (q + s) := by
  rw [VB_nn h] at *
  have := (fl_both (DD a b).toNat q s).2
  have e : a * (q + s) = a * q + a * s := Int.mul_add _ _ _
  omega
theorem nn_int {a b : Int} (h : VB a b) {p : Int} : nn a b p 0 ↔ 0 ≤ p := by
  rw [VB_nn h]
  have := fl_p (DD a b).toNat 0
  rw [S_0] at this
  have this : fl (DD a b).toNat 0 = 0 := this
  rw [this]; omega
theorem nn_smul {a b : Int} (h : VB a b) {p q : Int} (h1 : nn a b p q) (k : Nat) : nn a b (k * p) (k * q) := by
  induction k with
  | zero => rw [show ((0 : Nat) : Int) * p = 0 by omega, show ((0 : Nat) : Int) * q = 0 by omega, nn_int h]; omega
  | succ k ih =>
    have := nn_add h ih h1
    rw [show ((k + 1 : Nat) : Int) * p = k * p + p by rw [Int.natCast_add, Int.add_mul]; omega, show ((k + 1 : Nat) : Int) * q = k * q + q by rw [Int.natCast_add, Int.add_mul]; omega]
    exact this
theorem ng_smul {a b : Int} (h : VB a b) {p q : Int} (h1 : ¬ nn a b p q) (k : Nat) : ¬ nn a b (((k + 1 : Nat) : Int) * p) (((k + 1 : Nat) : Int) * q) := by
  induction k with
  | zero => rw [show ((0 + 1 : Nat) : Int) * p = p by omega, show ((0 + 1 : Nat) : Int) * q = q by omega]; exact h1
  | succ k ih =>
    have := ng_add h ih h1
    rw [show ((k + 1 + 1 : Nat) : Int) * p = ((k + 1 : Nat) : Int) * p + p by rw [Int.natCast_add (k + 1), Int.add_mul]; omega, show ((k + 1 + 1 : Nat) : Int) * q = ((k + 1 : Nat) : Int) * q + q by rw [Int.natCast_add (k + 1), Int.add_mul]; omega]
    exact this
theorem ng_of {a b p q : Int} (h1 : 2 * p + a * q < 0) (h2 : q ≤ 0) : ¬ nn a b p q := by
  unfold nn sg
  rw [if_neg (by omega), if_neg (by omega), if_pos ⟨by omega, h2⟩]; omega
theorem nn_of {a b p q : Int} (h1 : 0 ≤ 2 * p + a * q) (h2 : 0 ≤ q) : nn a b p q := by
  unfold nn sg
  split
  · omega
  · rw [if_pos ⟨h1, h2⟩]; omega
theorem sg_neg (a D p q : Int) : sg a D (-p) (-q) = -sg a D p q := by
  unfold sg
  rw [show 2 * -p + a * -q = -(2 * p + a * q) by rw [Int.mul_neg a q]; omega]
  generalize 2 * p + a * q = m
  rw [show -m * -m = m * m from Int.neg_mul_neg m m, show D * -q * -q = D * q * q by rw [Int.mul_assoc, Int.neg_mul_neg, ← Int.mul_assoc]]
  generalize m * m = M
  generalize D * q * q = Q
  repeat' split
  all_goals omega
theorem sg_zero {a D p q : Int} (h : sg a D p q = 0) : p = 0 ∧ q = 0 := by
  unfold sg at h
  split at h
  · rename_i c
    obtain ⟨c1, c2⟩ := c
    subst c2
    omega
  · split at h
    · omega
    · split at h
      · omega
      · split at h <;> omega
