/-! keys, division and steps, in the class and in the reference -/
theorem RP_s {P p q y z sY sZ N : Int} (h : RP P p q y z sY sZ N) : p.natAbs ≤ 9 ∧ q.natAbs ≤ 9 ∧ sY.natAbs ≤ 1000000 ∧ sZ.natAbs ≤ 100000 ∧ y.natAbs ≤ 100000 ∧ z.natAbs ≤ 100000 ∧ (P = 1 ∨ P = 2) := by
  obtain ⟨h1, h2, h3⟩ := h
  rcases h1 with ⟨rfl, rfl, rfl, rfl, rfl, rfl, rfl⟩ | ⟨rfl, a1, a2, a3, a4, rfl, rfl, -⟩
  · exact ⟨by omega, by omega, by omega, by omega, by omega, by omega, Or.inl rfl⟩
  · have := bm a1 a4
    exact ⟨a1, a2, by omega, by omega, a3, a4, Or.inr rfl⟩
theorem t_bd {P p q y z sY sZ N : Int} (h : RP P p q y z sY sZ N) {m n : Int} (hm : m.natAbs ≤ 1100000) (hn : n.natAbs ≤ 1100000) : (tY q sY sZ m n).natAbs ≤ 2200000000000 ∧ (tZ p sY sZ m n).natAbs ≤ 2300000000000 := by
  obtain ⟨a1, a2, a3, a4, -⟩ := RP_s h
  have k1 := bm hm a3
  have k2 := bm (bm a2 hn) a4
  have k3 := bm hm a4
  have k4 := bm hn a3
  have k5 := bm (bm a1 hn) a4
  unfold tY tZ
  constructor <;> omega
theorem s_keyOf {P p q y z sY sZ N : Int} (h : RP P p q y z sY sZ N) {m n : Int} (hm : m.natAbs ≤ 1100000) (hn : n.natAbs ≤ 1100000) : f_X2_keyOf (I p) (I q) (I (N.natAbs : Int)) (J sY) (J sZ) (J m) (J n) = some (I (ky p q sY sZ (N.natAbs : Int) m n)) := by
  obtain ⟨a1, a2, a3, a4, -⟩ := RP_s h
  obtain ⟨b1, b2⟩ := t_bd h hm hn
  obtain ⟨-, h2, h3⟩ := h
  have rp : R31 p := ⟨by omega, by omega⟩
  have rq : R31 q := ⟨by omega, by omega⟩
  have rN : R31 (N.natAbs : Int) := ⟨by omega, by omega⟩
  have c : (0 : Int32) < I (N.natAbs : Int) := by rw [I0, I_lt ⟨by omega, by omega⟩ rN]; omega
  have e1 : f_X2_timesSideY (I q) (J sY) (J sZ) (J m) (J n) = some (J (tY q sY sZ m n)) := by
    unfold f_X2_timesSideY tY
    rw [I_J rq, J_mul, J_mul, J_mul, J_add]
  have e2 : f_X2_timesSideZ (I p) (J sY) (J sZ) (J m) (J n) = some (J (tZ p sY sZ m n)) := by
    unfold f_X2_timesSideZ tZ
    rw [I_J rp, J_mul, J_mul, J_mul, J_mul, J_add, J_add]
  have bN : B62 (N.natAbs : Int) := by unfold B62; omega
  unfold f_X2_keyOf ky
  rw [if_pos c, bnd1_s e1, I_J rN, bnd1_s (s_floorMod (B62_nat b1 (by decide)) bN (by omega)), bnd1_s e2, bnd1_s (s_floorMod (B62_nat b2 (by decide)) bN (by omega)), J_mul, J_add, J_I]
theorem J_tm {m N : Int} (hm : B62 m) (hN : B62 N) (h0 : N ≠ 0) : (J m - J m / J N * J N = 0) ↔ N ∣ m := by
  have hb : (m.tdiv N * N).natAbs ≤ m.natAbs := by
    have e := Int.natAbs_mul (m.tdiv N) N
    rw [e, Int.natAbs_tdiv]
    exact Nat.div_mul_le_self _ _
  rw [J_div hm.r hN.r hm.n, J_mul, J_sub, J0, J_eq (by unfold B62 at hm; exact ⟨by omega, by omega⟩) ⟨by omega, by omega⟩]
  constructor
  · intro e
    exact ⟨m.tdiv N, by rw [Int.mul_comm]; omega⟩
  · intro e
    rw [Int.tdiv_mul_cancel e]; omega
theorem s_divides {P p q y z sY sZ N : Int} (h : RP P p q y z sY sZ N) {m n : Int} (hm : m.natAbs ≤ 1100000) (hn : n.natAbs ≤ 1100000) (h1 : P = 1 → n = 0) (qy qz : Int64) :
    (dv p q sY sZ N m n → f_X12_divides (I P) (I p) (I q) (I y) (I z) qy qz (J m) (J n) = some (1, J ((tY q sY sZ m n).tdiv N), J ((tZ p sY sZ m n).tdiv N))) ∧ (¬ dv p q sY sZ N m n → ∃ qy' qz' : Int64, f_X12_divides (I P) (I p) (I q) (I y) (I z) qy qz (J m) (J n) = some (0, qy', qz')) := by
  obtain ⟨a1, a2, a3, a4, a5, a6, -⟩ := RP_s h
  obtain ⟨b1, b2⟩ := t_bd h hm hn
  obtain ⟨hc, h2, h3⟩ := h
  have bN : B62 N := by unfold B62; omega
  have bY := B62_nat b1 (by decide)
  have bZ := B62_nat b2 (by decide)
  have rp : R31 p := ⟨by omega, by omega⟩
  have rq : R31 q := ⟨by omega, by omega⟩
  have ry : R31 y := ⟨by omega, by omega⟩
  have rz : R31 z := ⟨by omega, by omega⟩
  have rz' : R31 (-z) := ⟨by omega, by omega⟩
  have tmY := J_tm bY bN (by omega)
  have tmZ := J_tm bZ bN (by omega)
  unfold f_X12_divides dv
  rcases hc with ⟨rfl, rfl, rfl, rfl, rfl, rfl, rfl⟩ | ⟨rfl, -, -, -, -, rfl, rfl, hN⟩
  · have hn0 := h1 rfl
    subst hn0
    have eY : tY 0 1 0 m 0 = m := by unfold tY; omega
    have eZ : tZ 0 1 0 m 0 = 0 := by unfold tZ; omega
    rw [eY] at tmY
    rw [eY, eZ, if_pos (show I 1 = 1 from rfl), I_J ry, gdL bN.r (by omega), gdL bN.r (by omega)]
    constructor
    · rintro ⟨d1, -⟩
      rw [if_pos (tmY.mpr d1), J_div (by rw [eY] at bY; exact bY.r) bN.r (by rw [eY] at bY; exact bY.n), Int.zero_tdiv]; rfl
    · intro hd
      rw [if_neg (fun e => hd ⟨tmY.mp e, Int.dvd_zero _⟩)]
      exact ⟨_, _, rfl⟩
  · have eN : (I y).toInt64 * (I y).toInt64 + (I p).toInt64 * (I y).toInt64 * (I z).toInt64 - (I q).toInt64 * (I z).toInt64 * (I z).toInt64 = J N := by
      rw [I_J ry, I_J rp, I_J rz, I_J rq, J_mul, J_mul, J_mul, J_mul, J_mul, J_add, J_sub, hN]
    have eY : J m * ((I y).toInt64 + (I z).toInt64 * (I p).toInt64) + J n * (-I z).toInt64 * (I q).toInt64 = J (tY q (y + p * z) (-z) m n) := by
      rw [I_J ry, I_J rp, I_J rz, I_J rq, I_neg, I_J rz', J_mul, J_add, J_mul, J_mul, J_mul, J_add]
      congr 1; unfold tY; grind
    have eZ : J m * (-I z).toInt64 + J n * ((I y).toInt64 + (I z).toInt64 * (I p).toInt64) + J n * (-I z).toInt64 * (I p).toInt64 = J (tZ p (y + p * z) (-z) m n) := by
      rw [I_J ry, I_J rp, I_J rz, I_neg, I_J rz', J_mul, J_mul, J_add, J_mul, J_mul, J_mul, J_add, J_add]
      congr 1; unfold tZ; grind
    rw [if_neg (show ¬ I 2 = 1 by decide), eN, eY, eZ, gdL bN.r (by omega), gdL bN.r (by omega), gdL bN.r (by omega), gdL bN.r (by omega), J_div bY.r bN.r bY.n, J_div bZ.r bN.r bZ.n]
    rw [J_div bY.r bN.r bY.n] at tmY
    rw [J_div bZ.r bN.r bZ.n] at tmZ
    constructor
    · rintro ⟨d1, d2⟩
      rw [if_pos (tmY.mpr d1), if_pos (tmZ.mpr d2)]
    · intro hd
      by_cases e1 : N ∣ tY q (y + p * z) (-z) m n
      · rw [if_pos (tmY.mpr e1), if_neg (fun e => hd ⟨e1, tmZ.mp e⟩)]
        exact ⟨_, _, rfl⟩
      · rw [if_neg (fun e => e1 (tmY.mp e))]
        exact ⟨_, _, rfl⟩
/-- a SET: digits dy, dz, found by their keys -/
def SE (P p q sY sZ N : Int) (dy dz : Nat → Int) (dY dZ dk sy sz : Nat → Int32) : Prop := ∀ i, i < N.natAbs → dY i = I (dy i) ∧ dZ i = I (dz i) ∧ sy i = I (dy i) ∧ sz i = I (dz i) ∧ (dy i).natAbs ≤ 128 ∧ (dz i).natAbs ≤ 128 ∧ (P = 1 → dz i = 0) ∧ dk (ky p q sY sZ (N.natAbs : Int) (dy i) (dz i)).toNat = I (i : Int)
theorem SE_inj {P p q y z sY sZ N : Int} (h : RP P p q y z sY sZ N) {dy dz : Nat → Int} {dY dZ dk sy sz : Nat → Int32} (hS : SE P p q sY sZ N dy dz dY dZ dk sy sz) {i j : Nat} (hi : i < N.natAbs) (hj : j < N.natAbs) (hd : dv p q sY sZ N (dy i - dy j) (dz i - dz j)) : i = j := by
  obtain ⟨-, h2, h3⟩ := h
  have e1 := (hS i hi).2.2.2.2.2.2.2
  have e2 := (hS j hj).2.2.2.2.2.2.2
  rw [(ky_eq (by omega)).mpr hd, e2] at e1
  have := (Ieq0 (by omega) i (by omega)).mp e1
  omega
theorem s_step {P p q y z sY sZ N : Int} (h : RP P p q y z sY sZ N) {dy dz : Nat → Int} {dY dZ dk sy sz : Nat → Int32} (hS : SE P p q sY sZ N dy dz dY dZ dk sy sz) {m n : Int} (hm : m.natAbs ≤ 1000000) (hn : n.natAbs ≤ 1000000) {i : Nat} (hi : i < N.natAbs) (hd : dv p q sY sZ N (m - dy i) (n - dz i)) (ny nz : Int64) :
    f_X2_step (I p) (I q) (I (N.natAbs : Int)) (J sY) (J sZ) (J N) ny nz dY dZ dk (J m) (J n) = some (I (i : Int), J ((tY q sY sZ (m - dy i) (n - dz i)).tdiv N), J ((tZ p sY sZ (m - dy i) (n - dz i)).tdiv N)) := by
  obtain ⟨a1, a2, a3, a4, -⟩ := RP_s h
  obtain ⟨s1, s2, -, -, s5, s6, -, s8⟩ := hS i hi
  obtain ⟨b1, b2⟩ := t_bd h (m := m - dy i) (n := n - dz i) (by omega) (by omega)
  have hk := s_keyOf h (m := m) (n := n) (by omega) (by omega)
  obtain ⟨-, h2, h3⟩ := h
  have hkb := ky_bd (p := p) (q := q) (sY := sY) (sZ := sZ) (m := m) (n := n) (show 0 < (N.natAbs : Int) by omega) (by omega)
  have hke := (ky_eq (p := p) (q := q) (sY := sY) (sZ := sZ) (show N ≠ 0 by omega)).mpr hd
  rw [← hke] at s8
  have bN : B62 N := by unfold B62; omega
  have bY := B62_nat b1 (by decide)
  have bZ := B62_nat b2 (by decide)
  have rp : R31 p := ⟨by omega, by omega⟩
  have rq : R31 q := ⟨by omega, by omega⟩
  have rd : R31 (dy i) := ⟨by omega, by omega⟩
  have re : R31 (dz i) := ⟨by omega, by omega⟩
  have z0 : R31 0 := ⟨by omega, by omega⟩
  generalize ky p q sY sZ (N.natAbs : Int) m n = K at *
  have c1 : ¬ I K < 0 := by rw [I0, I_lt ⟨by omega, by omega⟩ z0]; omega
  have c2 : ¬ (625 : Int32) ≤ I K := by rw [show (625 : Int32) = I 625 from rfl, I_le ⟨by omega, by omega⟩ ⟨by omega, by omega⟩]; omega
  have c3 : ¬ I (i : Int) < 0 := by rw [I0, I_lt (r31n (by omega)) z0]; omega
  have c4 : ¬ (25 : Int32) ≤ I (i : Int) := by rw [show (25 : Int32) = I ((25 : Nat) : Int) from rfl, In_le (by omega) (by omega)]; omega
  have c5 : ¬ J N = 0 := by rw [J0, J_eq bN.r ⟨by omega, by omega⟩]; omega
  have e1 : f_X2_timesSideY (I q) (J sY) (J sZ) (J (m - dy i)) (J (n - dz i)) = some (J (tY q sY sZ (m - dy i) (n - dz i))) := by
    unfold f_X2_timesSideY tY
    rw [I_J rq, J_mul, J_mul, J_mul, J_add]
  have e2 : f_X2_timesSideZ (I p) (J sY) (J sZ) (J (m - dy i)) (J (n - dz i)) = some (J (tZ p sY sZ (m - dy i) (n - dz i))) := by
    unfold f_X2_timesSideZ tZ
    rw [I_J rp, J_mul, J_mul, J_mul, J_mul, J_add, J_add]
  unfold f_X2_step
  rw [bnd1_s hk, if_neg c1, if_neg c2, gdI (by omega) (by omega) (by omega), I_at (n := K.toNat) (by omega) (by omega), s8, if_neg c3, if_neg c4, if_neg c5, gdI (by omega) (by omega) (by omega), gdI (by omega) (by omega) (by omega), I_at rfl (by omega), s1, s2, I_J rd, I_J re, J_sub, J_sub, bnd1_s e1, bnd1_s e2, gdL bN.r (by omega), gdL bN.r (by omega), J_div bY.r bN.r bY.n, J_div bZ.r bN.r bZ.n]
/-- the ring and its SET in both -/
def RR (P p q y z sY sZ N : Int) (pa cp cq no : Int32) (cy cz cd : Int64) (si : Int32) (dY dZ dk : Nat → Int32) (mpa mp mq my mz mno ms : Int32) (sy sz : Nat → Int32) : Prop :=
  RP P p q y z sY sZ N ∧ pa = I P ∧ cp = I p ∧ cq = I q ∧ no = I (N.natAbs : Int) ∧ cy = J sY ∧ cz = J sZ ∧ cd = J N ∧ mpa = I P ∧ mp = I p ∧ mq = I q ∧ my = I y ∧ mz = I z ∧ mno = I (N.natAbs : Int) ∧ si = ms ∧ (si = 0 ∨ (si = I (N.natAbs : Int) ∧ ∃ dy dz : Nat → Int, SE P p q sY sZ N dy dz dY dZ dk sy sz))
