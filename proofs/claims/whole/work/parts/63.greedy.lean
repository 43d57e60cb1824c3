/-! greedy digits: facts of the bases, one digit -/
def gOK (q : Int × Int) : Bool := decide (tp q.1 q.2 * pcn q.1 q.2 ≤ 81) && decide (2 ≤ pcn q.1 q.2) && decide (0 ≤ sg q.1 (DD q.1 q.2) (11 * q.1 + 10) (-11)) && decide (q.2 < 0 → 0 ≤ sg q.1 (DD q.1 q.2) (10 - 11 * q.1) 11) && (List.range 34).all (fun i => decide (0 ≤ (pw q.1 q.2 i).2 ∧ (pw q.1 q.2 i).2 ≤ 2 * (pw q.1 q.2 i).1 + q.1 * (pw q.1 q.2 i).2 ∧ ((pw q.1 q.2 i).1.natAbs : Int) ≤ (pw q.1 q.2 i).2 + 1 ∧ sg q.1 (DD q.1 q.2) ((pw q.1 q.2 (i + 1)).1 - (tp q.1 q.2 + 1) * (pw q.1 q.2 i).1) ((pw q.1 q.2 (i + 1)).2 - (tp q.1 q.2 + 1) * (pw q.1 q.2 i).2) < 0 ∧ (2 * (pw q.1 q.2 i).1 + q.1 * (pw q.1 q.2 i).2 ≤ 720896 ∨ (pw q.1 q.2 i).2 ≤ 65536 → i < ccn q.1 q.2 ∧ i ≤ 30 ∧ i + 1 < pcn q.1 q.2)))
theorem g_all : bases.all gOK = true := by decide +kernel
theorem VB_g {a b : Int} (h : VB a b) : (tp a b * pcn a b ≤ 81 ∧ 2 ≤ pcn a b ∧ nn a b (11 * a + 10) (-11) ∧ (b < 0 → nn a b (10 - 11 * a) 11)) ∧ ∀ i, i < 34 → 0 ≤ (pw a b i).2 ∧ (pw a b i).2 ≤ 2 * (pw a b i).1 + a * (pw a b i).2 ∧ ((pw a b i).1.natAbs : Int) ≤ (pw a b i).2 + 1 ∧ ¬ nn a b ((pw a b (i + 1)).1 - (tp a b + 1) * (pw a b i).1) ((pw a b (i + 1)).2 - (tp a b + 1) * (pw a b i).2) ∧ (2 * (pw a b i).1 + a * (pw a b i).2 ≤ 720896 ∨ (pw a b i).2 ≤ 65536 → i < ccn a b ∧ i ≤ 30 ∧ i + 1 < pcn a b) := by
  have h1 := List.all_eq_true.mp g_all (a, b) h.mem
  unfold gOK at h1
  simp only [Bool.and_eq_true, decide_eq_true_eq, List.all_eq_true] at h1
  obtain ⟨⟨⟨⟨h2, h4⟩, h5⟩, h6⟩, h3⟩ := h1
  refine ⟨⟨h2, h4, h5, h6⟩, fun i hi => ?_⟩
  obtain ⟨k1, k2, k3, k4, k5⟩ := h3 i (List.mem_range.mpr (by omega))
  exact ⟨k1, k2, k3, by unfold nn; omega, k5⟩
theorem sgB_of2 {a D p q : Int} (ha : a.natAbs ≤ 9) (hD : D.natAbs ≤ 117) (hD0 : 0 ≤ D) (hp : p.natAbs ≤ 600000000) (hq : q.natAbs ≤ 100000000) : sgB a D p q := by
  have h1 := bm ha hq
  have h2 : (2 * p + a * q).natAbs ≤ 2100000000 := by omega
  have h3 := bm h2 h2
  have h4 := bm (bm hD hq) hq
  have h5 : 0 ≤ (2 * p + a * q) * (2 * p + a * q) := by have := sqn (2 * p + a * q); omega
  have h6 : 0 ≤ D * q * q := by
    rw [Int.mul_assoc]
    exact Int.mul_nonneg hD0 (by have := sqn q; omega)
  unfold sgB R31 R63
  generalize (2 * p + a * q) * (2 * p + a * q) = mm at *
  generalize D * q * q = dq at *
  refine ⟨by omega, by omega, by omega, by omega, by omega, by omega, by omega⟩
theorem sg_r (a D p q : Int) : R31 (sg a D p q) := by
  unfold sg R31
  repeat' split
  all_goals omega
theorem s12 {a b : Int} (hb : VB a b) {p q : Int} (hp : p.natAbs ≤ 600000000) (hq : q.natAbs ≤ 100000000) : ∃ s : Int, f_X12_sign (I a) (I (DD a b)) (J p) (J q) = some (I s) ∧ ((0 : Int32) ≤ I s ↔ nn a b p q) ∧ (I s < 0 ↔ ¬ nn a b p q) := by
  have r0 : R31 0 := ⟨by omega, by omega⟩
  refine ⟨sg a (DD a b) p q, s_X12_sign (sgB_of2 (by unfold VB at hb; omega) hb.D hb.D0 hp hq), ?_, ?_⟩
  · exact I_le r0 (sg_r _ _ _ _)
  · rw [I0, I_lt (sg_r _ _ _ _) r0]; unfold nn; omega
theorem s3 {a b : Int} (hb : VB a b) {p q : Int} (hp : p.natAbs ≤ 600000000) (hq : q.natAbs ≤ 100000000) : ∃ s : Int, f_X3_sign (I a) (J (DD a b)) (J p) (J q) = some (I s) ∧ (I s < 0 ↔ ¬ nn a b p q) := by
  have r0 : R31 0 := ⟨by omega, by omega⟩
  refine ⟨sg a (DD a b) p q, s_X3_sign (sgB_of2 (by unfold VB at hb; omega) hb.D hb.D0 hp hq), ?_⟩
  rw [I0, I_lt (sg_r _ _ _ _) r0]; unfold nn; omega
theorem s_holds {a b : Int} (hb : VB a b) {pU pV : Nat → Int64} {k : Nat} (hk : k < 48) {u v d U V : Int} (e1 : pU k = J U) (e2 : pV k = J V) (hp : (u - d * U).natAbs ≤ 600000000) (hq : (v - d * V).natAbs ≤ 100000000) :
    (nn a b (u - d * U) (v - d * V) → f_X1_holds (J u) (J v) (J d) (I a) (J (DD a b)) pU pV (I (k : Int)) = some 1) ∧ (¬ nn a b (u - d * U) (v - d * V) → f_X1_holds (J u) (J v) (J d) (I a) (J (DD a b)) pU pV (I (k : Int)) = some 0) := by
  obtain ⟨s, x1, x2⟩ := s3 hb hp hq
  have e : f_X1_holds (J u) (J v) (J d) (I a) (J (DD a b)) pU pV (I (k : Int)) = if I s < 0 then some 0 else some 1 := by
    unfold f_X1_holds
    rw [gdI (by omega) (by omega) (by omega), gdI (by omega) (by omega) (by omega), I_at rfl (by omega), e1, e2, J_mul, J_mul, J_sub, J_sub, bnd1_s x1]
  rw [e]
  exact ⟨fun h => by rw [if_neg (fun z => (x2.mp z) h)], fun h => by rw [if_pos (x2.mpr h)]⟩
/-- a power that goes into a NUMBER isn't great -/
theorem hold_bd {a b : Int} (hb : VB a b) {u v d : Int} (hn : NB u v d) {k : Nat} (hk : k < 34) (h : nn a b (u - d * (pw a b k).1) (v - d * (pw a b k).2)) : (d * (pw a b k).2).natAbs ≤ 720896 ∧ k < ccn a b ∧ k ≤ 30 ∧ k + 1 < pcn a b := by
  obtain ⟨k1, k2, k3, k4, k5⟩ := (VB_g hb).2 k hk
  have q := hn.b
  have hb' := hb
  unfold VB at hb'
  generalize (pw a b k).1 = U at *
  generalize (pw a b k).2 = V at *
  have h0 : 0 ≤ d * V := Int.mul_nonneg (by omega) k1
  have hV : V ≤ d * V := by
    have := Int.mul_le_mul_of_nonneg_right (show (1 : Int) ≤ d by omega) k1
    omega
  rcases (show d * V ≤ 65536 ∨ 65536 < d * V by omega) with c | c
  · exact ⟨by omega, k5 (Or.inr (by omega))⟩
  · have hm : ¬ 2 * (u - d * U) + a * (v - d * V) < 0 := fun z => ng_of z (by omega) h
    have e : 2 * (u - d * U) + a * (v - d * V) = 2 * u + a * v - d * (2 * U + a * V) := by grind
    have hav := bm (x := a) (y := v) (A := 9) (B := 65536) (by omega) q.2.1
    have ht : 0 ≤ 2 * U + a * V := by omega
    have h3 : 2 * U + a * V ≤ d * (2 * U + a * V) := by
      have := Int.mul_le_mul_of_nonneg_right (show (1 : Int) ≤ d by omega) ht
      omega
    have h4 : d * V ≤ d * (2 * U + a * V) := Int.mul_le_mul_of_nonneg_left k2 (by omega)
    generalize d * (2 * U + a * V) = x at *
    generalize d * V = y at *
    exact ⟨by omega, k5 (Or.inl (by omega))⟩
theorem least_not {P : Nat → Prop} : ∀ n : Nat, ¬ P n → ∃ c, c ≤ n ∧ (∀ i, i < c → P i) ∧ ¬ P c := by
  intro n
  induction n using Nat.strongRecOn with
  | ind n ih =>
    intro h
    by_cases q : ∃ i, i < n ∧ ¬ P i
    · obtain ⟨i, h1, h2⟩ := q
      obtain ⟨c, h3, h4, h5⟩ := ih i h1 h2
      exact ⟨c, by omega, h4, h5⟩
    · exact ⟨n, Nat.le_refl n, fun i hi => Classical.byContradiction (fun z => q ⟨i, hi, z⟩), h⟩
/-- c is the digit: how often d (U + V x) goes into u + v x -/
def GD (a b e f u v : Int) (c : Nat) : Prop := (c : Int) ≤ tp a b ∧ (∀ i : Nat, i < c → nn a b (u - ((i + 1 : Nat) : Int) * e) (v - ((i + 1 : Nat) : Int) * f)) ∧ ¬ nn a b (u - ((c + 1 : Nat) : Int) * e) (v - ((c + 1 : Nat) : Int) * f)
theorem tp_b {a b : Int} (hb : VB a b) : 1 ≤ tp a b ∧ tp a b ≤ 9 := by
  unfold VB at hb; unfold tp; split <;> omega
theorem GD_ex {a b : Int} (hb : VB a b) {u v d : Int} (hd : 1 ≤ d) {k : Nat} (hk : k < 34) (h : ¬ nn a b (u - d * (pw a b (k + 1)).1) (v - d * (pw a b (k + 1)).2)) : ∃ c : Nat, GD a b (d * (pw a b k).1) (d * (pw a b k).2) u v c := by
  obtain ⟨-, -, -, k4, -⟩ := (VB_g hb).2 k hk
  have ht := tp_b hb
  obtain ⟨n, hn⟩ : ∃ n : Nat, tp a b = (n : Int) := ⟨(tp a b).toNat, by omega⟩
  obtain ⟨m, rfl⟩ : ∃ m : Nat, d = ((m + 1 : Nat) : Int) := ⟨(d - 1).toNat, by omega⟩
  have hz : ¬ nn a b (u - ((n + 1 : Nat) : Int) * (((m + 1 : Nat) : Int) * (pw a b k).1)) (v - ((n + 1 : Nat) : Int) * (((m + 1 : Nat) : Int) * (pw a b k).2)) := by
    have := ng_add hb h (ng_smul hb k4 m)
    have en : ((n + 1 : Nat) : Int) = tp a b + 1 := by omega
    rw [en]
    have e1 : ∀ (w x y D T : Int), w - D * x + D * (x - (T + 1) * y) = w - (T + 1) * (D * y) := fun w x y D T => by grind
    rw [e1, e1] at this
    exact this
  obtain ⟨c, c1, c2, c3⟩ := least_not (P := fun i => nn a b (u - ((i + 1 : Nat) : Int) * (((m + 1 : Nat) : Int) * (pw a b k).1)) (v - ((i + 1 : Nat) : Int) * (((m + 1 : Nat) : Int) * (pw a b k).2))) n hz
  exact ⟨c, by omega, c2, c3⟩
theorem GD_rest {a b e f u v : Int} {c : Nat} (h : GD a b e f u v c) (h0 : nn a b u v) : nn a b (u - c * e) (v - c * f) ∧ ¬ nn a b (u - c * e - e) (v - c * f - f) := by
  obtain ⟨-, h2, h3⟩ := h
  constructor
  · rcases Nat.eq_zero_or_pos c with q | q
    · subst q
      rw [show u - ((0 : Nat) : Int) * e = u by omega, show v - ((0 : Nat) : Int) * f = v by omega]; exact h0
    · have := h2 (c - 1) (by omega)
      rw [show c - 1 + 1 = c by omega] at this
      exact this
  · rw [show u - c * e - e = u - ((c + 1 : Nat) : Int) * e by rw [Int.natCast_add, Int.add_mul]; omega, show v - c * f - f = v - ((c + 1 : Nat) : Int) * f by rw [Int.natCast_add, Int.add_mul]; omega]
    exact h3
theorem mul10 {i : Nat} {e : Int} (hi : i ≤ 10) : ((i : Int) * e).natAbs ≤ 10 * e.natAbs := by
  rw [Int.natAbs_mul, Int.natAbs_natCast]; exact Nat.mul_le_mul_right _ hi
