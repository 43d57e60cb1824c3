/-! base() -/
def RB (a b : Int) (ra rb : Int32) (sq : Int64) (po co : Int32) (pU pV rC : Nat → Int64) (ma mb mr : Int32) : Prop :=
  VB a b ∧ ra = I a ∧ rb = I b ∧ sq = J (DD a b) ∧ po = I (pcn a b : Int) ∧ co = I (ccn a b : Int) ∧ (∀ i, i < pcn a b → pU i = J (pw a b i).1 ∧ pV i = J (pw a b i).2) ∧ (∀ i, i < ccn a b → rC i = J (rc a b i)) ∧ ma = I a ∧ mb = I b ∧ mr = I (DD a b)
theorem clr_loop {nt : Nat → Int32} {sa : Nat → Nat} {has : Nat → Int32} (hs : SI sa) : ∀ (j m : Nat) (nt has : Nat → Int32), j ≤ 10 → j + 1 ≤ m → (∀ i, i < 10 - j → nt (sa i) = 0 ∧ has i = 0) →
    ∃ nt' has', f_X11_base_L16 sa m (I (10 - (j : Int))) nt = some nt' ∧ f_X12_base_L95 m (I (10 - (j : Int))) has = some has' ∧ ∀ i, i < 10 → nt' (sa i) = 0 ∧ has' i = 0 := by
  intro j
  induction j with
  | zero =>
    intro m nt has _ hm h
    obtain ⟨m, rfl⟩ : ∃ i, m = i + 1 := ⟨m - 1, by omega⟩
    rw [f_X11_base_L16, f_X12_base_L95]
    exact ⟨nt, has, rfl, rfl, fun i hi => h i (by omega)⟩
  | succ j ih =>
    intro m nt has hj hm h
    obtain ⟨m, rfl⟩ : ∃ i, m = i + 1 := ⟨m - 1, by omega⟩
    have c : ¬ (10 : Int32) ≤ I (10 - ((j + 1 : Nat) : Int)) := by
      rw [show (10 : Int32) = I 10 from rfl, I_le ⟨by omega, by omega⟩ ⟨by omega, by omega⟩]; omega
    have e1 : I (10 - ((j + 1 : Nat) : Int)) + 1 = I (10 - (j : Int)) := by rw [I1, I_add]; congr 1; omega
    have e2 : (I (10 - ((j + 1 : Nat) : Int))).toNatClampNeg = 9 - j := I_at (by omega) (by omega)
    rw [f_X11_base_L16, f_X12_base_L95, if_neg c, if_neg c, gdI (by omega) (by omega) (by omega), gdI (by omega) (by omega) (by omega), e1, e2]
    refine ih m _ _ (by omega) (by omega) (fun i hi => ?_)
    by_cases q : i = 9 - j
    · subst q
      rw [pk_us, pk_us]; exact ⟨rfl, rfl⟩
    · have q2 : sa i ≠ sa (9 - j) := fun z => q (hs i (9 - j) (by omega) (by omega) z)
      rw [pk_un q2, pk_un q]
      exact h i (by omega)
theorem sq_loop {a b : Int} (hb : VB a b) : ∀ (j m k : Nat), k + j = 11 → j + 1 ≤ m → f_X12_isSquare_L2 (I (DD a b)) m (I (k : Int)) = some 1 := by
  intro j
  have hD := hb.D
  have hD0 := hb.D0
  have rD : R31 (DD a b) := ⟨by omega, by omega⟩
  induction j with
  | zero =>
    intro m k hk hm
    obtain ⟨m, rfl⟩ : ∃ i, m = i + 1 := ⟨m - 1, by omega⟩
    have : k = 11 := by omega
    subst this
    have c : I (DD a b) < I ((11 : Nat) : Int) * I ((11 : Nat) : Int) := by
      rw [I_mul, I_lt rD ⟨by omega, by omega⟩]; omega
    rw [f_X12_isSquare_L2, if_pos c]
  | succ j ih =>
    intro m k hk hm
    obtain ⟨m, rfl⟩ : ∃ i, m = i + 1 := ⟨m - 1, by omega⟩
    have hkk : (k * k : Nat) ≤ 100 := Nat.mul_le_mul (show k ≤ 10 by omega) (show k ≤ 10 by omega)
    have ek : I (k : Int) * I (k : Int) = I ((k * k : Nat) : Int) := by rw [I_mul, Int.natCast_mul]
    have rk : R31 ((k * k : Nat) : Int) := ⟨by omega, by omega⟩
    have e4 : I (k : Int) + 1 = I ((k + 1 : Nat) : Int) := by rw [I1, I_add]; congr 1
    rw [f_X12_isSquare_L2, ek, e4]
    by_cases c : I (DD a b) < I ((k * k : Nat) : Int)
    · rw [if_pos c]
    · have c2 : ¬ I ((k * k : Nat) : Int) = I (DD a b) := by
        rw [I_eq rk rD]; exact fun e => hb.nonsq k e.symm
      rw [if_neg c, if_neg c2]
      exact ih m (k + 1) (by omega) (by omega)
theorem s_isSquare {a b : Int} (hb : VB a b) : f_X12_isSquare (I (DD a b)) = some 0 := by
  have x := sq_loop hb 11 FU 0 (by omega) (by rw [FU_eq]; decide)
  unfold f_X12_isSquare
  have x : f_X12_isSquare_L2 (I (DD a b)) FU 0 = some 1 := x
  rw [bnd1_s x, if_neg (by decide)]
theorem s_change {a b : Int} (hb : VB a b) (ra rb : Int32) (sq : Int64) (po co : Int32) (pU pV rC : Nat → Int64) : ∃ pU' pV' rC' : Nat → Int64, f_X3_change ra rb sq po co pU pV rC (I a) (I b) = some (1, I a, I b, J (DD a b), I (pcn a b : Int), I (ccn a b : Int), pU', pV', rC') ∧ (∀ i, i < pcn a b → pU' i = J (pw a b i).1 ∧ pV' i = J (pw a b i).2) ∧ ∀ i, i < ccn a b → rC' i = J (rc a b i) := by
  obtain ⟨pU', pV', x1, x2⟩ := s_fillPowers hb po pU pV
  obtain ⟨rC', y1, y2⟩ := s_fillRowCounts hb co rC
  refine ⟨pU', pV', rC', ?_, x2, y2⟩
  have hb' := hb
  unfold VB at hb'
  have qa : R31 a := ⟨by omega, by omega⟩
  have qb : R31 b := ⟨by omega, by omega⟩
  have r0 : R31 0 := ⟨by omega, by omega⟩
  have r1 : R31 1 := ⟨by omega, by omega⟩
  have r2 : R31 2 := ⟨by omega, by omega⟩
  have r9 : R31 9 := ⟨by omega, by omega⟩
  have r8 : R31 (-8) := ⟨by omega, by omega⟩
  have rab : R31 (a + b) := ⟨by omega, by omega⟩
  have eD : (I a).toInt64 * (I a).toInt64 + 4 * (I b).toInt64 = J (DD a b) := by
    rw [I_J qa, I_J qb, show (4 : Int64) = J 4 from rfl, J_mul, J_mul, J_add]; rfl
  have c1 : ¬ I a < 1 := by rw [I1, I_lt qa r1]; omega
  have c2 : ¬ (9 : Int32) < I a := by rw [show (9 : Int32) = I 9 from rfl, I_lt r9 qa]; omega
  have c3 : ¬ I b < (-8) := by rw [show (-8 : Int32) = I (-8) from rfl, I_lt qb r8]; omega
  have c4 : ¬ (9 : Int32) < I b := by rw [show (9 : Int32) = I 9 from rfl, I_lt r9 qb]; omega
  have c5 : ¬ I b = 0 := by rw [I0, I_eq qb r0]; omega
  unfold f_X3_change
  rw [if_neg c1, if_neg c2, if_neg c3, if_neg c4, if_neg c5, eD, bnd3_s x1, bnd2_s y1]
  by_cases c6 : I b ≤ 0
  · have c7 : (2 : Int32) ≤ I a + I b := by
      rw [I0, I_le qb r0] at c6
      rw [show (2 : Int32) = I 2 from rfl, I_add, I_le r2 rab]; omega
    rw [if_pos c6, if_pos c7]
  · have c7 : I b ≤ I a := by
      rw [I0, I_le qb r0] at c6
      rw [I_le qb qa]; omega
    rw [if_neg c6, if_pos c7]
theorem RN_clear {nt : Nat → Int32} {nu nv nd : Nat → Int64} {sa : Nat → Nat} {has us vs ds : Nat → Int32} (h : ∀ i, i < 10 → nt (sa i) = 0 ∧ has i = 0) : RN nt nu nv nd sa has us vs ds := fun i hi => by
  obtain ⟨h1, h2⟩ := h i hi
  refine ⟨by rw [h1, h2], Or.inl h2, fun q => ?_⟩
  rw [h2] at q
  exact absurd q (by decide)
theorem m_base {a b : Int} {ra rb : Int32} {sq : Int64} {po co : Int32} {pU pV rC : Nat → Int64} {ma mb mr : Int32} (h : RB a b ra rb sq po co pU pV rC ma mb mr) {nt : Nat → Int32} {nu nv nd : Nat → Int64} {sa : Nat → Nat} {has us vs ds : Nat → Int32} (hn : RN nt nu nv nd sa has us vs ds) (hs : SI sa) (kind isTold th l1 l2 : Int32) :
    ∃ (r ra' rb' : Int32) (sq' : Int64) (po' co' : Int32) (pU' pV' rC' : Nat → Int64) (kind' : Int32) (nt' : Nat → Int32) (ma' mb' mr' isTold' : Int32) (has' : Nat → Int32) (a' b' : Int), f_X11_base ra rb sq po co pU pV rC kind nt sa l1 l2 = some (r, ra', rb', sq', po', co', pU', pV', rC', kind', nt') ∧ f_X12_base th ma mb mr isTold has l1 l2 = some (r, 0, ma', mb', mr', isTold', has') ∧ RB a' b' ra' rb' sq' po' co' pU' pV' rC' ma' mb' mr' ∧ RN nt' nu nv nd sa has' us vs ds ∧ ((kind' = kind ∧ isTold' = isTold) ∨ (kind' = -1 ∧ isTold' = 0)) := by
  obtain ⟨x, hx, rfl⟩ := i32_cases l1
  obtain ⟨y, hy, rfl⟩ := i32_cases l2
  have hx' := hx
  have hy' := hy
  unfold R31 at hx' hy'
  by_cases hv : VB x y
  · obtain ⟨pU', pV', rC', c1, c2, c3⟩ := s_change hv ra rb sq po co pU pV rC
    obtain ⟨nt', has', d1, d2, d3⟩ := clr_loop (nt := nt) (has := has) hs 10 FU nt has (by omega) (by rw [FU_eq]; decide) (fun i hi => absurd hi (by omega))
    have d1 : f_X11_base_L16 sa FU 0 nt = some nt' := d1
    have d2 : f_X12_base_L95 FU 0 has = some has' := d2
    refine ⟨1, I x, I y, J (DD x y), I (pcn x y : Int), I (ccn x y : Int), pU', pV', rC', -1, nt', I x, I y, I (DD x y), 0, has', x, y, ?_, ?_, ⟨hv, rfl, rfl, rfl, rfl, rfl, c2, c3, rfl, rfl, rfl⟩, RN_clear d3, Or.inr ⟨rfl, rfl⟩⟩
    · unfold f_X11_base
      rw [bnd9_s c1, if_neg (by decide), bnd1_s d1]
    · have hv' := hv
      unfold VB at hv'
      have r0 : R31 0 := ⟨by omega, by omega⟩
      have r1 : R31 1 := ⟨by omega, by omega⟩
      have r2 : R31 2 := ⟨by omega, by omega⟩
      have r9 : R31 9 := ⟨by omega, by omega⟩
      have r8 : R31 (-8) := ⟨by omega, by omega⟩
      have rab : R31 (x + y) := ⟨by omega, by omega⟩
      have eD : I x * I x + 4 * I y = I (DD x y) := by
        rw [show (4 : Int32) = I 4 from rfl, I_mul, I_mul, I_add]; rfl
      have c1 : ¬ I x < 1 := by rw [I1, I_lt hx r1]; omega
      have c2 : ¬ (9 : Int32) < I x := by rw [show (9 : Int32) = I 9 from rfl, I_lt r9 hx]; omega
      have c3 : ¬ I y < (-8) := by rw [show (-8 : Int32) = I (-8) from rfl, I_lt hy r8]; omega
      have c4 : ¬ (9 : Int32) < I y := by rw [show (9 : Int32) = I 9 from rfl, I_lt r9 hy]; omega
      have c5 : ¬ I y = 0 := by rw [I0, I_eq hy r0]; omega
      have c6 : ¬ I x < I y := by rw [I_lt hx hy]; omega
      unfold f_X12_base
      rw [if_neg c1, if_neg c2, if_neg c3, if_neg c4, if_neg c5, if_neg c6, eD, bnd1_s (s_isSquare hv), if_pos rfl, bnd1_s d2]
      by_cases c7 : (0 : Int32) ≤ I y
      · rw [if_pos c7]
      · have c8 : ¬ I x + I y < 2 := by
          rw [I0, I_le r0 hy] at c7
          rw [show (2 : Int32) = I 2 from rfl, I_add, I_lt rab r2]; omega
        rw [if_neg c7, if_neg c8]
  · have r0 : R31 0 := ⟨by omega, by omega⟩
    have r1 : R31 1 := ⟨by omega, by omega⟩
    have r2 : R31 2 := ⟨by omega, by omega⟩
    have r9 : R31 9 := ⟨by omega, by omega⟩
    have r8 : R31 (-8) := ⟨by omega, by omega⟩
    have k1 : (I x < 1) ↔ x < 1 := I_lt hx r1
    have k2 : ((9 : Int32) < I x) ↔ 9 < x := I_lt r9 hx
    have k3 : (I y < (-8)) ↔ y < -8 := I_lt hy r8
    have k4 : ((9 : Int32) < I y) ↔ 9 < y := I_lt r9 hy
    have k5 : (I y = 0) ↔ y = 0 := I_eq hy r0
    refine ⟨0, ra, rb, sq, po, co, pU, pV, rC, kind, nt, ma, mb, mr, isTold, has, a, b, ?_, ?_, h, hn, Or.inl ⟨rfl, rfl⟩⟩
    · have e : f_X3_change ra rb sq po co pU pV rC (I x) (I y) = some (0, ra, rb, sq, po, co, pU, pV, rC) := by
        unfold f_X3_change
        simp only [k1, k2, k3, k4, k5]
        by_cases a1 : x < 1
        · rw [if_pos a1]
        by_cases a2 : 9 < x
        · rw [if_neg a1, if_pos a2]
        by_cases a3 : y < -8
        · rw [if_neg a1, if_neg a2, if_pos a3]
        by_cases a4 : 9 < y
        · rw [if_neg a1, if_neg a2, if_neg a3, if_pos a4]
        by_cases a5 : y = 0
        · rw [if_neg a1, if_neg a2, if_neg a3, if_neg a4, if_pos a5]
        rw [if_neg a1, if_neg a2, if_neg a3, if_neg a4, if_neg a5]
        have rab : R31 (x + y) := ⟨by omega, by omega⟩
        have k6 : (I y ≤ 0) ↔ y ≤ 0 := I_le hy r0
        have k7 : ((2 : Int32) ≤ I x + I y) ↔ 2 ≤ x + y := by rw [I_add]; exact I_le r2 rab
        have k8 : (I y ≤ I x) ↔ y ≤ x := I_le hy hx
        simp only [k6, k7, k8]
        by_cases a6 : y ≤ 0
        · rw [if_pos a6, if_neg (fun q => hv (by unfold VB; omega))]
        · rw [if_neg a6, if_neg (fun q => hv (by unfold VB; omega))]
      unfold f_X11_base
      rw [bnd9_s e, if_pos rfl]
    · unfold f_X12_base
      simp only [k1, k2, k3, k4, k5]
      by_cases a1 : x < 1
      · rw [if_pos a1]
      by_cases a2 : 9 < x
      · rw [if_neg a1, if_pos a2]
      by_cases a3 : y < -8
      · rw [if_neg a1, if_neg a2, if_pos a3]
      by_cases a4 : 9 < y
      · rw [if_neg a1, if_neg a2, if_neg a3, if_pos a4]
      by_cases a5 : y = 0
      · rw [if_neg a1, if_neg a2, if_neg a3, if_neg a4, if_pos a5]
      rw [if_neg a1, if_neg a2, if_neg a3, if_neg a4, if_neg a5]
      have rab : R31 (x + y) := ⟨by omega, by omega⟩
      have k6 : (I x < I y) ↔ x < y := I_lt hx hy
      have k7 : (I x + I y < 2) ↔ x + y < 2 := by rw [I_add]; exact I_lt rab r2
      have k8 : ((0 : Int32) ≤ I y) ↔ 0 ≤ y := I_le r0 hy
      simp only [k6, k7, k8]
      by_cases a6 : x < y
      · rw [if_pos a6]
      · rw [if_neg a6, if_neg (show ¬ 0 ≤ y from fun q => hv (by unfold VB; omega)), if_pos (show x + y < 2 from by
          rcases (show x + y < 2 ∨ 2 ≤ x + y by omega) with z | z
          · exact z
          · exact absurd (by unfold VB; omega) hv)]
