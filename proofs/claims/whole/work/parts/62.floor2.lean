/-! the reference's floor; floor() -/
theorem fl_test {a b : Int} (hb : VB a b) {u v d Q low : Int} (hn : NB u v d) (hQ : Q = (2 * u + a * v + fl (DD a b).toNat v) / (2 * d)) (hl : low.natAbs ≤ 8 * Q.natAbs + 2) :
    ∃ s : Int, f_X12_sign (I a) (I (DD a b)) (J u - J low * J d) (J v) = some (I s) ∧ R31 s ∧ (0 ≤ s ↔ low ≤ Q) := by
  have q := hn.b
  have hF := F_bd hb hn
  have hi : low ≤ Q ↔ low * (2 * d) ≤ 2 * u + a * v + fl (DD a b).toNat v := by
    rw [hQ]; exact Int.le_ediv_iff_mul_le (by omega)
  have h1 : Q * (2 * d) ≤ 2 * u + a * v + fl (DD a b).toNat v := by rw [hQ]; exact Int.ediv_mul_le _ (by omega)
  have h2 : 2 * u + a * v + fl (DD a b).toNat v < (Q + 1) * (2 * d) := by rw [hQ]; exact Int.lt_ediv_add_one_mul_self _ (by omega)
  have e1 : Q * (2 * d) = 2 * (Q * d) := by grind
  have e2 : (Q + 1) * (2 * d) = 2 * (Q * d) + 2 * d := by grind
  have e3 : low * (2 * d) = 2 * (low * d) := by grind
  have e4 : (Q * d).natAbs = Q.natAbs * d.natAbs := Int.natAbs_mul _ _
  have e5 : (low * d).natAbs = low.natAbs * d.natAbs := Int.natAbs_mul _ _
  have h3 : (Q * d).natAbs ≤ 722000 := by omega
  have h4 : low.natAbs * d.natAbs ≤ (8 * Q.natAbs + 2) * d.natAbs := Nat.mul_le_mul_right _ hl
  have e6 : (8 * Q.natAbs + 2) * d.natAbs = 8 * (Q.natAbs * d.natAbs) + 2 * d.natAbs := by grind
  have h5 : (low * d).natAbs ≤ 5778000 := by omega
  have hB := sgB_of (a := a) (D := DD a b) (p := u - low * d) (q := v) (by unfold VB at hb; omega) hb.D hb.D0 (by omega) (by omega)
  refine ⟨sg a (DD a b) (u - low * d) v, ?_, ?_, ?_⟩
  · rw [J_mul, J_sub]; exact s_X12_sign hB
  · unfold sg R31
    repeat' split
    all_goals omega
  · have := @VB_nn a b hb (u - low * d) v
    unfold nn at this
    rw [this, hi]
    omega
theorem l6_loop {a b : Int} (hb : VB a b) {u v d Q : Int} (hn : NB u v d) (hQ : Q = (2 * u + a * v + fl (DD a b).toNat v) / (2 * d)) :
    ∀ (j m : Nat) (t : Int), 1 ≤ t → (t = 1 ∨ t ≤ -2 * Q) → -Q < t * 2 ^ j → j + 1 ≤ m → ∃ low : Int, low ≤ Q ∧ (low = 0 ∨ 1 + 2 * Q ≤ low) ∧ low ≤ 0 ∧ f_X12_floorOf_L6 (J u) (J v) (J d) (I a) (I (DD a b)) m (J (1 - t)) (J t) = some (J low) := by
  have r0 : R31 0 := ⟨by omega, by omega⟩
  intro j
  induction j with
  | zero =>
    intro m t h1 h2 h3 hm
    obtain ⟨m, rfl⟩ : ∃ i, m = i + 1 := ⟨m - 1, by omega⟩
    rw [Int.pow_zero, Int.mul_one] at h3
    obtain ⟨s, x1, x2, x3⟩ := fl_test hb hn hQ (low := 1 - t) (by omega)
    have c : (0 : Int32) ≤ I s := (I_le r0 x2).mpr (x3.mpr (by omega))
    exact ⟨1 - t, by omega, by omega, by omega, by rw [f_X12_floorOf_L6, bnd1_s x1, if_pos c]⟩
  | succ j ih =>
    intro m t h1 h2 h3 hm
    obtain ⟨m, rfl⟩ : ∃ i, m = i + 1 := ⟨m - 1, by omega⟩
    obtain ⟨s, x1, x2, x3⟩ := fl_test hb hn hQ (low := 1 - t) (by omega)
    by_cases c : (0 : Int32) ≤ I s
    · have c' := x3.mp ((I_le r0 x2).mp c)
      exact ⟨1 - t, by omega, by omega, by omega, by rw [f_X12_floorOf_L6, bnd1_s x1, if_pos c]⟩
    · have c' : ¬ 1 - t ≤ Q := fun z => c ((I_le r0 x2).mpr (x3.mpr z))
      obtain ⟨low, y1, y2, y3, y4⟩ := ih m (t * 2) (by omega) (by omega) (by rw [Int.pow_succ] at h3; rw [show t * 2 * 2 ^ j = t * (2 ^ j * 2) by grind]; exact h3) (by omega)
      refine ⟨low, y1, y2, y3, ?_⟩
      rw [f_X12_floorOf_L6, bnd1_s x1, if_neg c, J2, J_mul, J_sub, show 1 - t - t = 1 - t * 2 by omega]
      exact y4
theorem p2pos (k : Nat) : (1 : Int) ≤ 2 ^ k := by
  induction k with
  | zero => decide
  | succ k ih => rw [Int.pow_succ]; omega
theorem l42_loop {a b : Int} (hb : VB a b) {u v d Q low : Int} (hn : NB u v d) (hQ : Q = (2 * u + a * v + fl (DD a b).toNat v) / (2 * d)) (hl1 : low ≤ Q) (hl2 : low = 0 ∨ 1 + 2 * Q ≤ low) (hl3 : low ≤ 0) :
    ∀ (j m k : Nat), (k = 0 ∨ (2 : Int) ^ k ≤ 2 * (Q - low)) → Q - low < 2 ^ k * 2 ^ j → j + 1 ≤ m → ∃ k' : Nat, k' ≤ k + j ∧ f_X12_floorOf_L42 (J u) (J v) (J d) (J low) (I a) (I (DD a b)) m (J (2 ^ k)) = some (J (2 ^ k')) ∧ Q < low + 2 ^ k' ∧ (k' = 0 ∨ (2 : Int) ^ k' ≤ 2 * (Q - low)) := by
  have r0 : R31 0 := ⟨by omega, by omega⟩
  have bd : ∀ k : Nat, (k = 0 ∨ (2 : Int) ^ k ≤ 2 * (Q - low)) → (low + 2 ^ k).natAbs ≤ 8 * Q.natAbs + 2 := by
    intro k hk
    have hp := p2pos k
    rcases hk with rfl | hk
    · rw [Int.pow_zero]; omega
    · generalize (2 : Int) ^ k = t at *
      omega
  intro j
  induction j with
  | zero =>
    intro m k h2 h3 hm
    obtain ⟨m, rfl⟩ : ∃ i, m = i + 1 := ⟨m - 1, by omega⟩
    rw [Int.pow_zero, Int.mul_one] at h3
    obtain ⟨s, x1, x2, x3⟩ := fl_test hb hn hQ (low := low + 2 ^ k) (bd k h2)
    have c : I s < 0 := (I_lt x2 r0).mpr (by omega)
    exact ⟨k, by omega, by rw [f_X12_floorOf_L42, J_add, bnd1_s x1, if_pos c], by omega, h2⟩
  | succ j ih =>
    intro m k h2 h3 hm
    obtain ⟨m, rfl⟩ : ∃ i, m = i + 1 := ⟨m - 1, by omega⟩
    obtain ⟨s, x1, x2, x3⟩ := fl_test hb hn hQ (low := low + 2 ^ k) (bd k h2)
    by_cases c : I s < 0
    · have c' := (I_lt x2 r0).mp c
      exact ⟨k, by omega, by rw [f_X12_floorOf_L42, J_add, bnd1_s x1, if_pos c], by omega, h2⟩
    · have c' : ¬ s < 0 := fun z => c ((I_lt x2 r0).mpr z)
      have c2 : low + 2 ^ k ≤ Q := x3.mp (by omega)
      obtain ⟨k', y1, y2, y3, y4⟩ := ih m (k + 1) (Or.inr (by rw [Int.pow_succ]; generalize (2 : Int) ^ k = t at *; omega)) (by rw [Int.pow_succ] at h3 ⊢; rw [show (2 : Int) ^ k * 2 * 2 ^ j = 2 ^ k * (2 ^ j * 2) by grind]; exact h3) (by omega)
      refine ⟨k', by omega, ?_, y3, y4⟩
      rw [f_X12_floorOf_L42, J_add, bnd1_s x1, if_neg c, J2, J_mul, ← Int.pow_succ]
      exact y2
theorem l71_loop {a b : Int} (hb : VB a b) {u v d Q : Int} (hn : NB u v d) (hQ : Q = (2 * u + a * v + fl (DD a b).toNat v) / (2 * d)) (hQb : Q.natAbs ≤ 800000) :
    ∀ (k m : Nat) (low : Int), low ≤ Q → Q < low + 2 ^ (k + 1) → -(2 * (Q.natAbs : Int)) ≤ low → (2 : Int) ^ k ≤ 6 * Q.natAbs + 1 → k + 2 ≤ m → f_X12_floorOf_L71 (J u) (J v) (J d) (I a) (I (DD a b)) m (J low) (J (2 ^ k)) = some (J Q) := by
  have r0 : R31 0 := ⟨by omega, by omega⟩
  have z0 : R63 0 := ⟨by omega, by omega⟩
  have r2 : R63 2 := ⟨by omega, by omega⟩
  intro k
  induction k with
  | zero =>
    intro m low h1 h2 h3 h4 hm
    obtain ⟨m, rfl⟩ : ∃ i, m = i + 2 := ⟨m - 2, by omega⟩
    have h2 : Q < low + 2 := h2
    rw [Int.pow_zero]
    obtain ⟨s, x1, x2, x3⟩ := fl_test hb hn hQ (low := low + 1) (by omega)
    have c0 : ¬ J 1 ≤ 0 := by decide
    have e : J 1 / 2 = 0 := by decide
    rw [f_X12_floorOf_L71, if_neg c0, J_add, bnd1_s x1, J2, gdL r2 (by omega), ← J2, e]
    by_cases c : I s < 0
    · have c' := (I_lt x2 r0).mp c
      rw [if_pos c, f_X12_floorOf_L71, if_pos (by decide : (0 : Int64) ≤ 0)]
      congr 2; omega
    · have c' : ¬ s < 0 := fun z => c ((I_lt x2 r0).mpr z)
      have := x3.mp (by omega)
      rw [if_neg c, gd_t (by decide), f_X12_floorOf_L71, if_pos (by decide : (0 : Int64) ≤ 0), show low + 1 = Q by omega]
  | succ k ih =>
    intro m low h1 h2 h3 h4 hm
    obtain ⟨m, rfl⟩ : ∃ i, m = i + 1 := ⟨m - 1, by omega⟩
    have hp := p2pos k
    have ps : (2 : Int) ^ (k + 1) = 2 ^ k * 2 := Int.pow_succ 2 k
    have ps2 : (2 : Int) ^ (k + 1 + 1) = 2 ^ (k + 1) * 2 := Int.pow_succ 2 (k + 1)
    have rk : R63 ((2 : Int) ^ (k + 1)) := ⟨by omega, by omega⟩
    obtain ⟨s, x1, x2, x3⟩ := fl_test hb hn hQ (low := low + 2 ^ (k + 1)) (by omega)
    have c0 : ¬ J (2 ^ (k + 1)) ≤ 0 := by rw [J0, J_le rk z0]; omega
    have e : J (2 ^ (k + 1)) / J 2 = J (2 ^ k) := by
      rw [J_div rk r2 (by omega), Int.tdiv_eq_ediv_of_nonneg (by omega), ps, Int.mul_ediv_cancel _ (by omega)]
    rw [f_X12_floorOf_L71, if_neg c0, J_add, bnd1_s x1, J2, gdL r2 (by omega), e]
    by_cases c : I s < 0
    · have c' := (I_lt x2 r0).mp c
      rw [if_pos c]
      exact ih m low h1 (by omega) h3 (by omega) (by omega)
    · have c' : ¬ s < 0 := fun z => c ((I_lt x2 r0).mpr z)
      have := x3.mp (by omega)
      rw [if_neg c]
      exact ih m (low + 2 ^ (k + 1)) this (by omega) (by omega) (by omega) (by omega)
theorem s_floorOf {a b : Int} (hb : VB a b) {u v d : Int} (hn : NB u v d) : f_X12_floorOf (I a) (I (DD a b)) (J u) (J v) (J d) = some (J ((2 * u + a * v + fl (DD a b).toNat v) / (2 * d))) := by
  generalize hQ : (2 * u + a * v + fl (DD a b).toNat v) / (2 * d) = Q
  have q := hn.b
  have hF := F_bd hb hn
  have hQb : Q.natAbs ≤ 800000 := by
    have h1 : Q * (2 * d) ≤ 2 * u + a * v + fl (DD a b).toNat v := by rw [← hQ]; exact Int.ediv_mul_le _ (by omega)
    have h2 : 2 * u + a * v + fl (DD a b).toNat v < (Q + 1) * (2 * d) := by rw [← hQ]; exact Int.lt_ediv_add_one_mul_self _ (by omega)
    have e1 : Q * (2 * d) = 2 * (Q * d) := by grind
    have e2 : (Q + 1) * (2 * d) = 2 * (Q * d) + 2 * d := by grind
    have e4 : (Q * d).natAbs = Q.natAbs * d.natAbs := Int.natAbs_mul _ _
    have e5 : Q.natAbs * 1 ≤ Q.natAbs * d.natAbs := Nat.mul_le_mul_left _ (by omega)
    omega
  obtain ⟨low, y1, y2, y3, y4⟩ := l6_loop hb hn hQ.symm 20 FU 1 (by omega) (Or.inl rfl) (by show -Q < 1 * 1048576; omega) (by rw [FU_eq]; omega)
  obtain ⟨k, z1, z2, z3, z4⟩ := l42_loop hb hn hQ.symm y1 y2 y3 22 FU 0 (Or.inl rfl) (by show Q - low < 1 * 4194304; omega) (by rw [FU_eq]; omega)
  have z5 := l71_loop hb hn hQ.symm hQb k FU low y1 (by rw [Int.pow_succ]; have := p2pos k; omega) (by omega) (by
    rcases z4 with rfl | z4
    · rw [Int.pow_zero]; omega
    · omega) (by rw [FU_eq]; omega)
  have y4 : f_X12_floorOf_L6 (J u) (J v) (J d) (I a) (I (DD a b)) FU 0 1 = some (J low) := y4
  have z2 : f_X12_floorOf_L42 (J u) (J v) (J d) (J low) (I a) (I (DD a b)) FU 1 = some (J (2 ^ k)) := z2
  unfold f_X12_floorOf
  rw [bnd1_s y4, bnd1_s z2, bnd1_s z5]
theorem m_floor {nt : Nat → Int32} {nu nv nd : Nat → Int64} {sa : Nat → Nat} {has us vs ds : Nat → Int32} (h : RN nt nu nv nd sa has us vs ds) {a b : Int} (hb : VB a b) (th s : Int32) :
    (f_X11_hasNumber nt sa s = some 0 ∧ f_X12_floor th (I a) (I (DD a b)) has us vs ds s = some (0, 1)) ∨ ∃ (i : Nat) (r : Int64), i < 10 ∧ s = I (i : Int) ∧ f_X11_hasNumber nt sa s = some 1 ∧ f_X3_wholeBelow (I a) (J (DD a b)) nu nv nd (sa i) = some r ∧ f_X12_floor th (I a) (I (DD a b)) has us vs ds s = some (r, 0) := by
  unfold f_X12_floor
  rw [thr1, thr0]
  rcases num_cases h s with ⟨q1, q2⟩ | ⟨i, u, v, d, hi, rfl, q1, q2, -, e1, e2, e3, e4, e5, e6, hn⟩
  · refine Or.inl ⟨q1, ?_⟩
    rw [bnd1_s q2, if_pos rfl, bnd2_s rfl, if_neg (by decide)]
  · refine Or.inr ⟨i, _, hi, rfl, q1, s_wholeBelow hb e1 e2 e3 hn, ?_⟩
    rw [bnd1_s q2, if_neg (show ¬ (1 : Int32) = 0 by decide), bnd2_s rfl, if_pos (show (0 : Int32) = 0 from rfl), gdI (by omega) (by omega) (by omega), gdI (by omega) (by omega) (by omega), gdI (by omega) (by omega) (by omega), I_at rfl (by omega), e4, e5, e6, I_J hn.r.1, I_J hn.r.2.1, I_J hn.r.2.2, bnd1_s (s_floorOf hb hn)]
