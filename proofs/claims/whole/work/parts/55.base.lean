/-! base() -/
def RB (a b : Int) (ra rb : Int32) (sq : Int64) (po co : Int32) (pU pV rC : Nat → Int64) (ma mb mr : Int32) : Prop :=
  VB a b ∧ ra = I a ∧ rb = I b ∧ sq = J (DD a b) ∧ po = I (pcn a b : Int) ∧ co = I (ccn a b : Int) ∧ (∀ i, i < pcn a b → pU i = J (pw a b i).1 ∧ pV i = J (pw a b i).2) ∧ (∀ i, i < ccn a b → rC i = J (rc a b i)) ∧ ma = I a ∧ mb = I b ∧ mr = I (DD a b)
theorem clr_loop {nt : Nat → Int32} {sa : Nat → Nat} {has : Nat → Int32} (hs : SI sa) : ∀ (j m : Nat) (nt has : Nat → Int32), j ≤ 10 → j + 1 ≤ m → (∀ i, i < 10 - j → nt (sa i) = 0 ∧ has i = 0) →
    ∃ nt' has', f_X11_base_L16 sa m (I (10 - (j : Int))) nt = some nt' ∧ f_X12_base_L95 m (I (10 - (j : Int))) has = some has' ∧ ∀ i, i < 10 → nt' (sa i) = 0 ∧ has' i = 0 := by
  intro j
  induction j with
  | zero =>
    intro m nt has _ hm h
    obtain ⟨m, rfl⟩ : ∃ i, m = i + 1 := ⟨m - 1, by omega⟩
    rw [f_X11_base_L16, f_X12_base_L95]
    exact ⟨nt, has, rfl, rfl, fun i hi => h i (by omega)⟩
  | succ j ih =>
    intro m nt has hj hm h
    obtain ⟨m, rfl⟩ : ∃ i, m = i + 1 := ⟨m - 1, by omega⟩
    have c : ¬ (10 : Int32) ≤ I (10 - ((j + 1 : Nat) : Int)) := by
      rw [show (10 : Int32) = I 10 from rfl, I_le ⟨by omega, by omega⟩ ⟨by omega, by omega⟩]; omega
    have e1 : I (10 - ((j + 1 : Nat) : Int)) + 1 = I (10 - (j : Int)) := by rw [I1, I_add]; congr 1; omega
    have e2 : (I (10 - ((j + 1 : Nat) : Int))).toNatClampNeg = 9 - j := I_at (by omega) (by omega)
    rw [f_X11_base_L16, f_X12_base_L95, if_neg c, if_neg c, gdI (by omega) (by omega) (by omega), gdI (by omega) (by omega) (by omega), e1, e2]
    refine ih m _ _ (by omega) (by omega) (fun i hi => ?_)
    by_cases q : i = 9 - j
    · subst q
      rw [pk_us, pk_us]; exact ⟨rfl, rfl⟩
    · have q2 : sa i ≠ sa (9 - j) := fun z => q (hs i (9 - j) (by omega) (by omega) z)
      rw [pk_un q2, pk_un q]
      exact h i (by omega)
theorem sq_loop {a b : Int} (hb : VB a b) : ∀ (j m k : Nat), k + j = 11 → j + 1 ≤ m → f_X12_isSquare_L2 (I (DD a b)) m (I (k : Int)) = some 1 := by
  intro j
  have hD := hb.D
  have hD0 := hb.D0
  have rD : R31 (DD a b) := ⟨by omega, by omega⟩
  induction j with
  | zero =>
    intro m k hk hm
    obtain ⟨m, rfl⟩ : ∃ i, m = i + 1 := ⟨m - 1, by omega⟩
    have : k = 11 := by omega
    subst this
    have c : I (DD a b) < I ((11 : Nat) : Int) * I ((11 : Nat) : Int) := by
      rw [I_mul, I_lt rD ⟨by omega, by omega⟩]; omega
    rw [f_X12_isSquare_L2, if_pos c]
  | succ j ih =>
    intro m k hk hm
    obtain ⟨m, rfl⟩ : ∃ i, m = i + 1 := ⟨m - 1, by omega⟩
    have hkk : (k * k : Nat) ≤ 100 := Nat.mul_le_mul (show k ≤ 10 by omega) (show k ≤ 10 by omega)
    have ek : I (k : Int) * I (k : Int) = I ((k * k : Nat) : Int) := by rw [I_mul, Int.natCast_mul]
    have rk : R31 ((k * k : Nat) : Int) := ⟨by omega, by omega⟩
    have e4 : I (k : Int) + 1 = I ((k + 1 : Nat) : Int) := by rw [I1, I_add]; congr 1
    rw [f_X12_isSquare_L2, ek, e4]
    by_cases c : I (DD a b) < I ((k * k : Nat) : Int)
    · rw [if_pos c]
    · have c2 : ¬ I ((k * k : Nat) : Int) = I (DD a b) := by
        rw [I_eq rk rD]; exact fun e => hb.nonsq k e.symm
      rw [if_neg c, if_neg c2]
      exact ih m (k + 1) (by omega) (by omega)
theorem s_isSquare {a b : Int} (hb : VB a b) : f_X12_isSquare (I (DD a b)) = some 0 := by
  have x := sq_loop hb 11 FU 0 (by omega) (by rw [FU_eq]; decide)
  unfold f_X12_isSquare
  have x : f_X12_isSquare_L2 (I (DD a b)) FU 0 = some 1 := x
  rw [bnd1_s x, if_neg (by decide)]
theorem s_change {a b : Int} (hb : VB a b) (ra rb : Int32) (sq : Int64) (po co : Int32) (pU pV rC : Nat → Int64) : ∃ pU' pV' rC' : Nat → Int64, f_X3_change ra rb sq po co pU pV rC (I a) (I b) = some (1, I a, I b, J (DD a b), I (pcn a b : Int), I (ccn a b : Int), pU', pV', rC') ∧ (∀ i, i < pcn a b → pU' i = J (pw a b i).1 ∧ pV' i = J (pw a b i).2) ∧ ∀ i, i < ccn a b → rC' i = J (rc a b i) := by
  obtain ⟨pU', pV', x1, x2⟩ := s_fillPowers hb po pU pV
  obtain ⟨rC', y1, y2⟩ := s_fillRowCounts hb co rC
  refine ⟨pU', pV', rC', ?_, x2, y2⟩
  have hb' := hb
  unfold VB at hb'
  have qa : R31 a := ⟨by omega, by omega⟩
  have qb : R31 b := ⟨by omega, by omega⟩
  have r0 : R31 0 := ⟨by omega, by omega⟩
  have r1 : R31 1 := ⟨by omega, by omega⟩
  have r2 : R31 2 := ⟨by omega, by omega⟩
  have r9 : R31 9 := ⟨by omega, by omega⟩
  have r8 : R31 (-8) := ⟨by omega, by omega⟩
  have rab : R31 (a + b) := ⟨by omega, by omega⟩
  have eD : (I a).toInt64 * (I a).toInt64 + 4 * (I b).toInt64 = J (DD a b) := by
    rw [I_J qa, I_J qb, show (4 : Int64) = J 4 from rfl, J_mul, J_mul, J_add]; rfl
  have c1 : ¬ I a < 1 := by rw [I1, I_lt qa r1]; omega
  have c2 : ¬ (9 : Int32) < I a := by rw [show (9 : Int32) = I 9 from rfl, I_lt r9 qa]; omega
  have c3 : ¬ I b < (-8) := by rw [show (-8 : Int32) = I (-8) from rfl, I_lt qb r8]; omega
  have c4 : ¬ (9 : Int32) < I b := by rw [show (9 : Int32) = I 9 from rfl, I_lt r9 qb]; omega
  have c5 : ¬ I b = 0 := by rw [I0, I_eq qb r0]; omega
  unfold f_X3_change
  rw [if_neg c1, if_neg c2, if_neg c3, if_neg c4, if_neg c5, eD, bnd3_s x1, bnd2_s y1]
  by_cases c6 : I b ≤ 0
  · have c7 : (2 : Int32) ≤ I a + I b := by
      rw [I0, I_le qb r0] at c6
      rw [show (2 : Int32) = I 2 from rfl, I_add, I_le r2 rab]; omega
    rw [if_pos c6, if_pos c7]
  · have c7 : I b ≤ I a := by
      rw [I0, I_le qb r0] at c6
      rw [I_le qb qa]; omega
    rw [if_neg c6, if_pos c7]
