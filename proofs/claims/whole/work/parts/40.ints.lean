/-! whole numbers in longs and ints: J z, I z; sums and products need no bounds, comparisons and quotients do -/
def J (z : Int) : Int64 := Int64.ofInt z
def I (z : Int) : Int32 := Int32.ofInt z
def R63 (z : Int) : Prop := -9223372036854775808 ≤ z ∧ z < 9223372036854775808
def R31 (z : Int) : Prop := -2147483648 ≤ z ∧ z < 2147483648
theorem J_toInt {z : Int} (h : R63 z) : (J z).toInt = z := by
  unfold J; rw [Int64.toInt_ofInt, show Int64.size = 18446744073709551616 from rfl]; exact Int.bmod_eq_of_le (by unfold R63 at h; omega) (by unfold R63 at h; omega)
theorem I_toInt {z : Int} (h : R31 z) : (I z).toInt = z := by
  unfold I; rw [Int32.toInt_ofInt, show Int32.size = 4294967296 from rfl]; exact Int.bmod_eq_of_le (by unfold R31 at h; omega) (by unfold R31 at h; omega)
theorem J_of (x : Int64) : x = J x.toInt := by unfold J; simp
theorem I_of (x : Int32) : x = I x.toInt := by unfold I; simp
theorem J_rng (x : Int64) : R63 x.toInt := ⟨Int64.le_toInt x, Int64.toInt_lt x⟩
theorem I_rng (x : Int32) : R31 x.toInt := ⟨Int32.le_toInt x, Int32.toInt_lt x⟩
theorem J_add (a b : Int) : J a + J b = J (a + b) := (Int64.ofInt_add a b).symm
theorem J_sub (a b : Int) : J a - J b = J (a - b) := (Int64.ofInt_sub a b).symm
theorem J_mul (a b : Int) : J a * J b = J (a * b) := (Int64.ofInt_mul a b).symm
theorem J_neg (a : Int) : -J a = J (-a) := (Int64.ofInt_neg a).symm
theorem I_add (a b : Int) : I a + I b = I (a + b) := (Int32.ofInt_add a b).symm
theorem I_sub (a b : Int) : I a - I b = I (a - b) := (Int32.ofInt_sub a b).symm
theorem I_mul (a b : Int) : I a * I b = I (a * b) := (Int32.ofInt_mul a b).symm
theorem I_neg (a : Int) : -I a = I (-a) := (Int32.ofInt_neg a).symm
theorem J_lt {a b : Int} (ha : R63 a) (hb : R63 b) : J a < J b ↔ a < b := by rw [Int64.lt_iff_toInt_lt, J_toInt ha, J_toInt hb]
theorem J_le {a b : Int} (ha : R63 a) (hb : R63 b) : J a ≤ J b ↔ a ≤ b := by rw [Int64.le_iff_toInt_le, J_toInt ha, J_toInt hb]
theorem J_eq {a b : Int} (ha : R63 a) (hb : R63 b) : J a = J b ↔ a = b := by rw [← Int64.toInt_inj, J_toInt ha, J_toInt hb]
theorem I_lt {a b : Int} (ha : R31 a) (hb : R31 b) : I a < I b ↔ a < b := by rw [Int32.lt_iff_toInt_lt, I_toInt ha, I_toInt hb]
theorem I_le {a b : Int} (ha : R31 a) (hb : R31 b) : I a ≤ I b ↔ a ≤ b := by rw [Int32.le_iff_toInt_le, I_toInt ha, I_toInt hb]
theorem I_eq {a b : Int} (ha : R31 a) (hb : R31 b) : I a = I b ↔ a = b := by rw [← Int32.toInt_inj, I_toInt ha, I_toInt hb]
theorem I_J {a : Int} (h : R31 a) : (I a).toInt64 = J a := by
  rw [← Int64.toInt_inj, Int32.toInt_toInt64, I_toInt h, J_toInt (by unfold R31 at h; unfold R63; omega)]
theorem J_I (a : Int) : (J a).toInt32 = I a := by unfold J I; simp
theorem J_div {a b : Int} (ha : R63 a) (hb : R63 b) (hn : a ≠ -9223372036854775808) : J a / J b = J (a.tdiv b) := by
  have h1 : R63 (a.tdiv b) := by
    have := Int.natAbs_tdiv_le_natAbs a b
    unfold R63 at ha ⊢
    omega
  rw [← Int64.toInt_inj, Int64.toInt_div, J_toInt ha, J_toInt hb, J_toInt h1]
  exact Int.bmod_eq_of_le (by unfold R63 at h1; omega) (by unfold R63 at h1; omega)
theorem I_clamp {a : Int} (h0 : 0 ≤ a) (h : a < 2147483648) : (I a).toNatClampNeg = a.toNat := by
  show (I a).toInt.toNat = a.toNat
  rw [I_toInt ⟨by omega, h⟩]
theorem ixb_I {a : Int} {n : Nat} (hn : n < 2147483648) (h0 : 0 ≤ a) (h : a < n) : ixb (I a) n = true := ixb_iff.mpr (by rw [I_toInt ⟨by omega, by omega⟩]; exact ⟨h0, h⟩)
theorem gdI {α : Type} {a : Int} {n : Nat} {k : Option α} (hn : n < 2147483648) (h0 : 0 ≤ a) (h : a < n) : gd (ixb (I a) n) k = k := gd_t (ixb_I hn h0 h)
theorem gdL {α : Type} {b : Int} {k : Option α} (hb : R63 b) (h : b ≠ 0) : gd (nzL (J b)) k = k := gd_t (by
  unfold nzL
  rw [decide_eq_true_eq]
  intro q
  exact h ((J_eq hb (by unfold R63; omega)).mp q))
theorem r63 {z : Int} (h : -9223372036854775808 ≤ z ∧ z < 9223372036854775808) : R63 z := h
theorem r31 {z : Int} (h : -2147483648 ≤ z ∧ z < 2147483648) : R31 z := h
theorem J0 : (0 : Int64) = J 0 := rfl
theorem J1 : (1 : Int64) = J 1 := rfl
theorem J2 : (2 : Int64) = J 2 := rfl
theorem I0 : (0 : Int32) = I 0 := rfl
theorem I1 : (1 : Int32) = I 1 := rfl
theorem Im1 : (-1 : Int32) = I (-1) := rfl
/-- the sign of p + q x, by whole numbers: m = 2 p + a q, D = a a + 4 b -/
def sg (a D p q : Int) : Int :=
  if 2 * p + a * q = 0 ∧ q = 0 then 0
  else if 0 ≤ 2 * p + a * q ∧ 0 ≤ q then 1
  else if 2 * p + a * q ≤ 0 ∧ q ≤ 0 then -1
  else if (D * q * q < (2 * p + a * q) * (2 * p + a * q) ↔ 0 < 2 * p + a * q) then 1 else -1
/-- what the two sign methods need of their numbers -/
def sgB (a D p q : Int) : Prop := R31 a ∧ R31 D ∧ R63 (2 * p + a * q) ∧ R63 q ∧ R63 ((2 * p + a * q) * (2 * p + a * q)) ∧ R63 (D * q * q) ∧ R63 ((2 * p + a * q) * (2 * p + a * q) - D * q * q)
theorem s_X3_sign {a D p q : Int} (h : sgB a D p q) : f_X3_sign (I a) (J D) (J p) (J q) = some (I (sg a D p q)) := by
  obtain ⟨h1, h2, h3, h4, h5, h6, h7⟩ := h
  have em : 2 * J p + (I a).toInt64 * J q = J (2 * p + a * q) := by rw [I_J h1, J2, J_mul, J_mul, J_add]
  have eD : J D * J q * J q = J (D * q * q) := by rw [J_mul, J_mul]
  unfold f_X3_sign sg
  rw [em, eD, J_mul]
  generalize 2 * p + a * q = m at *
  generalize hmm : m * m = mm at *
  generalize D * q * q = dq at *
  have z0 : R63 0 := by unfold R63; omega
  simp only [J0, J_lt h3 z0, J_lt z0 h3, J_lt h4 z0, J_lt z0 h4, J_le h3 z0, J_le h5 h6, J_eq h3 z0, J_eq h4 z0, J_le z0 h3, J_le z0 h4]
  repeat' split
  all_goals first | rfl | (exfalso; omega)
theorem s_X12_sign {a D p q : Int} (h : sgB a D p q) : f_X12_sign (I a) (I D) (J p) (J q) = some (I (sg a D p q)) := by
  obtain ⟨h1, h2, h3, h4, h5, h6, h7⟩ := h
  have em : 2 * J p + J q * (I a).toInt64 = J (2 * p + a * q) := by rw [I_J h1, J2, J_mul, J_mul, J_add, Int.mul_comm q a]
  have eD : J q * J q * (I D).toInt64 = J (D * q * q) := by rw [I_J h2, J_mul, J_mul, Int.mul_comm (q * q) D, Int.mul_assoc]
  unfold f_X12_sign sg
  rw [em, eD, J_mul, J_sub]
  generalize 2 * p + a * q = m at *
  generalize hmm : m * m = mm at *
  generalize D * q * q = dq at *
  have z0 : R63 0 := by unfold R63; omega
  simp only [J0, J_lt h3 z0, J_lt z0 h3, J_lt h4 z0, J_lt z0 h4, J_le h3 z0, J_le h7 z0, J_eq h3 z0, J_eq h4 z0, J_le z0 h3, J_le z0 h4]
  repeat' split
  all_goals first | rfl | (exfalso; omega)
