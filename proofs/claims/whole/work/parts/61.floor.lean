/-! floorDiv, floorMod; the root; floor() -/
theorem xor_sign (x y : Int64) : (0 ≤ x ^^^ y) ↔ ((0 ≤ x) ↔ (0 ≤ y)) := by
  have key : ∀ z : Int64, (0 ≤ z) ↔ z.toBitVec.msb = false := by
    intro z
    rw [Int64.le_iff_toInt_le, BitVec.msb_eq_toInt]
    show (0 : Int) ≤ z.toBitVec.toInt ↔ _
    simp
  rw [key, key, key, Int64.toBitVec_xor, BitVec.msb_xor]
  cases x.toBitVec.msb <;> cases y.toBitVec.msb <;> simp
theorem s_floorDiv {x y : Int} (hx : B62 x) (hy : B62 y) (h0 : 0 < y) : f_J9_floorDiv_f86c9 (J x) (J y) = some (J (x / y)) := by
  have z0 : R63 0 := ⟨by omega, by omega⟩
  have c : (0 ≤ J x ^^^ J y) ↔ 0 ≤ x := by
    rw [xor_sign, J0, J_le z0 hx.r, J_le z0 hy.r]; omega
  unfold f_J9_floorDiv_f86c9
  rw [gdL hy.r (by omega), J_div hx.r hy.r hx.n, J_mul]
  by_cases q : 0 ≤ x
  · rw [if_pos (c.mpr q), Int.tdiv_eq_ediv_of_nonneg q]
  · rw [if_neg (fun z => q (c.mp z))]
    have ht := @Int.tdiv_eq_ediv x y
    have hm := Int.mul_ediv_add_emod x y
    have h1 := Int.emod_nonneg x (by omega : y ≠ 0)
    have h2 := Int.emod_lt_of_pos x h0
    have hc := Int.mul_comm (x.tdiv y) y
    unfold B62 at hx hy
    by_cases d : y ∣ x
    · rw [if_pos (Or.inr d), Int.add_zero] at ht
      rw [if_pos, ht]
      rw [ht, Int.mul_comm, Int.mul_ediv_cancel' d]
    · rw [if_neg (by omega), Int.sign_eq_one_of_pos h0] at ht
      have hd : ¬ x % y = 0 := fun e => d (Int.dvd_of_emod_eq_zero e)
      have e : x.tdiv y * y = y * (x / y) + y := by rw [ht, Int.add_mul, Int.mul_comm, Int.one_mul]
      rw [if_neg, ht, J1, J_sub]
      · congr 2; omega
      · rw [J_eq ⟨by omega, by omega⟩ ⟨by omega, by omega⟩]; omega
theorem s_floorMod {x y : Int} (hx : B62 x) (hy : B62 y) (h0 : 0 < y) : f_J9_floorMod_f86c9 (J x) (J y) = some (J (x % y)) := by
  have z0 : R63 0 := ⟨by omega, by omega⟩
  have c : (0 ≤ J x ^^^ J y) ↔ 0 ≤ x := by
    rw [xor_sign, J0, J_le z0 hx.r, J_le z0 hy.r]; omega
  have hm := Int.mul_ediv_add_emod x y
  have h1 := Int.emod_nonneg x (by omega : y ≠ 0)
  have h2 := Int.emod_lt_of_pos x h0
  unfold f_J9_floorMod_f86c9
  rw [gdL hy.r (by omega), J_div hx.r hy.r hx.n, J_mul, J_sub]
  by_cases q : 0 ≤ x
  · rw [if_pos (c.mpr q), Int.tdiv_eq_ediv_of_nonneg q]
    congr 2
    rw [Int.mul_comm]; omega
  · rw [if_neg (fun z => q (c.mp z))]
    have ht := @Int.tdiv_eq_ediv x y
    unfold B62 at hx hy
    by_cases d : y ∣ x
    · rw [if_pos (Or.inr d), Int.add_zero] at ht
      have e : x - x.tdiv y * y = x % y := by rw [ht, Int.mul_comm]; omega
      have e0 : x % y = 0 := Int.emod_eq_zero_of_dvd d
      rw [e, e0, if_pos (show J 0 = 0 from rfl)]
    · rw [if_neg (by omega), Int.sign_eq_one_of_pos h0] at ht
      have hd : ¬ x % y = 0 := fun e => d (Int.dvd_of_emod_eq_zero e)
      have e : x - x.tdiv y * y = x % y - y := by rw [ht, Int.add_mul, Int.mul_comm, Int.one_mul]; omega
      rw [e, if_neg, J_add]
      · congr 2; omega
      · rw [J0, J_eq ⟨by omega, by omega⟩ z0]; omega
theorem shl_J : ∀ k : Fin 21, (1 : Int64) <<< ((I (k.val : Int)).toInt64 &&& 63) = J ((2 ^ k.val : Nat) : Int) := by decide +kernel
theorem p2le {k n : Nat} (h : k ≤ n) : 2 ^ k ≤ 2 ^ n := Nat.pow_le_pow_right (by decide) h
theorem sqr_loop {n : Nat} (hn : n < 4398046511104) : ∀ (k m f : Nat), k ≤ 21 → k + 1 ≤ m → f ≤ sq n → sq n < f + 2 ^ k → f_X3_squareRoot_L6 (J (n : Int)) m (J (f : Int)) (I ((k : Int) - 1)) = some (J (sq n : Int)) := by
  have h21 : sq n < 2097152 := by
    have h1 := sq_1 n
    rcases Nat.lt_or_ge (sq n) 2097152 with q | q
    · exact q
    · have := Nat.mul_self_le_mul_self q
      omega
  intro k
  induction k with
  | zero =>
    intro m f _ hm h1 h2
    obtain ⟨m, rfl⟩ : ∃ i, m = i + 1 := ⟨m - 1, by omega⟩
    have c : I (((0 : Nat) : Int) - 1) < 0 := by decide
    rw [f_X3_squareRoot_L6, if_pos c]
    have h2 : sq n < f + 1 := h2
    rw [show f = sq n by omega]
  | succ k ih =>
    intro m f hk hm h1 h2
    obtain ⟨m, rfl⟩ : ∃ i, m = i + 1 := ⟨m - 1, by omega⟩
    have hs := shl_J ⟨k, by omega⟩
    have hs : (1 : Int64) <<< ((I (k : Int)).toInt64 &&& 63) = J ((2 ^ k : Nat) : Int) := hs
    have hp : 2 ^ k ≤ 1048576 := p2le (n := 20) (by omega)
    have hp2 : 2 ^ (k + 1) = 2 ^ k * 2 := Nat.pow_succ 2 k
    have c : ¬ I (k : Int) < 0 := by rw [I0, I_lt (r31n (by omega)) ⟨by omega, by omega⟩]; omega
    have e1 : J (f : Int) + J ((2 ^ k : Nat) : Int) = J ((f + 2 ^ k : Nat) : Int) := by rw [J_add]; congr 1
    have hb2 : (f + 2 ^ k) * (f + 2 ^ k) ≤ 4194304 * 4194304 := Nat.mul_self_le_mul_self (by omega)
    have c2 : (J (n : Int) < J ((f + 2 ^ k : Nat) : Int) * J ((f + 2 ^ k : Nat) : Int)) ↔ n < (f + 2 ^ k) * (f + 2 ^ k) := by
      rw [J_mul, ← Int.natCast_mul, J_lt ⟨by omega, by omega⟩ ⟨by omega, by omega⟩]; omega
    rw [pm1, f_X3_squareRoot_L6, if_neg c, hs, e1, I_d]
    by_cases q : n < (f + 2 ^ k) * (f + 2 ^ k)
    · rw [if_pos (c2.mpr q)]
      refine ih m f (by omega) (by omega) h1 ?_
      rcases Nat.lt_or_ge (sq n) (f + 2 ^ k) with z | z
      · exact z
      · have := sq_le.mp z
        omega
    · rw [if_neg (fun z => q (c2.mp z))]
      exact ih m (f + 2 ^ k) (by omega) (by omega) (sq_le.mpr (by omega)) (by omega)
theorem s_squareRoot {n : Nat} (hn : n < 4398046511104) : f_X3_squareRoot (J (n : Int)) = some (J (sq n : Int)) := by
  have h21 : sq n < 2097152 := by
    have h1 := sq_1 n
    rcases Nat.lt_or_ge (sq n) 2097152 with q | q
    · exact q
    · have := Nat.mul_self_le_mul_self q
      omega
  have x := sqr_loop hn 21 FU 0 (by omega) (by rw [FU_eq]; omega) (by omega) (by omega)
  have x : f_X3_squareRoot_L6 (J (n : Int)) FU 0 20 = some (J (sq n : Int)) := x
  unfold f_X3_squareRoot
  rw [bnd1_s x]
theorem S_bd {a b : Int} (hb : VB a b) {x : Nat} (hx : x ≤ 65536) : S_ (DD a b).toNat x ≤ 720896 ∧ (DD a b).toNat * (x * x) < 4398046511104 := by
  have hD := hb.D
  have h1 : (DD a b).toNat ≤ 117 := by omega
  have h2 : x * x ≤ 65536 * 65536 := Nat.mul_self_le_mul_self hx
  have h3 := Nat.mul_le_mul h1 h2
  refine ⟨?_, by omega⟩
  have h4 := sq_1 ((DD a b).toNat * (x * x))
  unfold S_
  rcases Nat.lt_or_ge (sq ((DD a b).toNat * (x * x))) 720897 with z | z
  · omega
  · have := Nat.mul_self_le_mul_self z
    omega
theorem fl_bd {a b : Int} (hb : VB a b) {v : Int} (hv : v.natAbs ≤ 65536) : (fl (DD a b).toNat v).natAbs ≤ 720897 := by
  rcases sgn_cases v with ⟨x, rfl⟩ | ⟨x, hx, rfl⟩
  · rw [fl_p]; have := (S_bd hb (x := x) (by omega)).1; omega
  · rw [fl_m _ _ hx]; have := (S_bd hb (x := x) (by omega)).1; omega
theorem F_bd {a b : Int} (hb : VB a b) {u v d : Int} (hn : NB u v d) : (2 * u + a * v + fl (DD a b).toNat v).natAbs ≤ 1441793 := by
  have q := hn.b
  have h1 := fl_bd hb q.2.1
  have h2 := bm (x := a) (y := v) (A := 9) (B := 65536) (by unfold VB at hb; omega) q.2.1
  generalize a * v = x at *
  omega
theorem s_wholeBelow {a b : Int} (hb : VB a b) {nu nv nd : Nat → Int64} {y : Nat} {u v d : Int} (h1 : nu y = J u) (h2 : nv y = J v) (h3 : nd y = J d) (hn : NB u v d) :
    f_X3_wholeBelow (I a) (J (DD a b)) nu nv nd y = some (J ((2 * u + a * v + fl (DD a b).toNat v) / (2 * d))) := by
  have q := hn.b
  have hF := F_bd hb hn
  have hD0 := hb.D0
  have ra : R31 a := by unfold VB at hb; exact ⟨by omega, by omega⟩
  have z0 : R63 0 := ⟨by omega, by omega⟩
  have hav := bm (x := a) (y := v) (A := 9) (B := 65536) (by unfold VB at hb; omega) q.2.1
  have rv : R63 v := ⟨by omega, by omega⟩
  have cv : (J v < 0) ↔ v < 0 := J_lt rv z0
  have c2 : ¬ 2 * J d ≤ 0 := by rw [J2, J_mul, J0, J_le ⟨by omega, by omega⟩ z0]; omega
  have bd : B62 (2 * d) := by unfold B62; omega
  have bF : B62 (2 * u + a * v + fl (DD a b).toNat v) := by unfold B62; omega
  have fin := s_floorDiv bF bd (by omega)
  unfold f_X3_wholeBelow
  rw [h1, h2, h3]
  obtain ⟨x, hx, hxv⟩ : ∃ x : Nat, x ≤ 65536 ∧ v.natAbs = x := ⟨v.natAbs, q.2.1, rfl⟩
  have eq : DD a b * v * v = (((DD a b).toNat * (x * x) : Nat) : Int) := by
    have e1 : v * v = ((x * x : Nat) : Int) := by rw [← hxv, Int.natAbs_mul_self]
    rw [Int.mul_assoc, e1, Int.natCast_mul (DD a b).toNat, Int.toNat_of_nonneg hD0]
  have hs := s_squareRoot (S_bd hb hx).2
  rw [J_mul, J_mul, eq, bnd1_s hs, I_J ra, if_neg c2, if_neg c2]
  by_cases c : v < 0
  · rw [if_pos (cv.mpr c)]
    have ef : fl (DD a b).toNat v = -(sq ((DD a b).toNat * (x * x)) : Int) - 1 := by
      have : v = -(x : Int) := by omega
      rw [this, fl_m _ _ (by omega)]; rfl
    rw [ef] at fin ⊢
    simp only [J2, J1, J_mul, J_neg, J_sub, J_add]
    rw [bnd1_s fin]
  · rw [if_neg (fun z => c (cv.mp z))]
    have ef : fl (DD a b).toNat v = (sq ((DD a b).toNat * (x * x)) : Int) := by
      have : v = (x : Int) := by omega
      rw [this, fl_p]; rfl
    rw [ef] at fin ⊢
    simp only [J2, J_mul, J_add]
    rw [bnd1_s fin]
