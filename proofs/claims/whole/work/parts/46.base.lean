/-! the base; bounds of signs; compare() -/
def VB (a b : Int) : Prop := 1 ≤ a ∧ a ≤ 9 ∧ -8 ≤ b ∧ b ≤ 9 ∧ b ≠ 0 ∧ (0 < b → b ≤ a) ∧ (b < 0 → 2 ≤ a + b)
def DD (a b : Int) : Int := a * a + 4 * b
theorem bm {x y : Int} {A B : Nat} (hx : x.natAbs ≤ A) (hy : y.natAbs ≤ B) : (x * y).natAbs ≤ A * B := by rw [Int.natAbs_mul]; exact Nat.mul_le_mul hx hy
theorem VB.D {a b : Int} (h : VB a b) : (DD a b).natAbs ≤ 117 := by
  obtain ⟨h1, h2, h3, h4, h5, h6, h7⟩ := h
  have := bm (x := a) (y := a) (A := 9) (B := 9) (by omega) (by omega)
  have h0 : 0 ≤ a * a := Int.mul_nonneg (by omega) (by omega)
  have h8 : a * a ≥ a * 1 := Int.mul_le_mul_of_nonneg_left h1 (by omega)
  unfold DD
  omega
theorem VB.a9 {a b : Int} (h : VB a b) : a = 1 ∨ a = 2 ∨ a = 3 ∨ a = 4 ∨ a = 5 ∨ a = 6 ∨ a = 7 ∨ a = 8 ∨ a = 9 := by unfold VB at h; omega
theorem VB.D0 {a b : Int} (h : VB a b) : 0 ≤ DD a b := by
  have h' := h
  unfold VB at h'
  unfold DD
  rcases h.a9 with rfl | rfl | rfl | rfl | rfl | rfl | rfl | rfl | rfl <;> omega
theorem sgB_of {a D p q : Int} (ha : a.natAbs ≤ 9) (hD : D.natAbs ≤ 117) (hD0 : 0 ≤ D) (hp : p.natAbs ≤ 250000000) (hq : q.natAbs ≤ 250000000) : sgB a D p q := by
  have h1 := bm ha hq
  have h2 : (2 * p + a * q).natAbs ≤ 2750000000 := by omega
  have h3 := bm h2 h2
  have h4 := bm (bm hD hq) hq
  have h5 : 0 ≤ (2 * p + a * q) * (2 * p + a * q) := by
    rcases Int.le_total 0 (2 * p + a * q) with z | z
    · exact Int.mul_nonneg z z
    · exact Int.mul_nonneg_of_nonpos_of_nonpos z z
  have h6 : 0 ≤ D * q * q := by
    rw [Int.mul_assoc]
    refine Int.mul_nonneg hD0 ?_
    rcases Int.le_total 0 q with z | z
    · exact Int.mul_nonneg z z
    · exact Int.mul_nonneg_of_nonpos_of_nonpos z z
  unfold sgB R31 R63
  generalize (2 * p + a * q) * (2 * p + a * q) = mm at *
  generalize D * q * q = dq at *
  refine ⟨by omega, by omega, by omega, by omega, by omega, by omega, by omega⟩
theorem NB.b {u v d : Int} (h : NB u v d) : u.natAbs ≤ 65536 ∧ v.natAbs ≤ 65536 ∧ d.natAbs ≤ 1000 ∧ 1 ≤ d := by
  obtain ⟨⟨h1, h2, h3, h4, h5⟩, h6, -⟩ := h
  omega
theorem b01 {x : Int32} (h : x = 0 ∨ x = 1) : ¬ x = 0 → x = 1 := fun q => h.resolve_left q
theorem s_has_no {nt : Nat → Int32} {sa : Nat → Nat} {has : Nat → Int32} {s : Int32} (h : s < 0 ∨ (10 : Int32) ≤ s) : f_X11_hasNumber nt sa s = some 0 ∧ f_X12_isThere has s = some 0 := by
  constructor
  · unfold f_X11_hasNumber
    rw [bnd1_s (s_X11_isSlot_no h), if_pos rfl]
  · unfold f_X12_isThere
    by_cases a : s < 0
    · rw [if_pos a]
    · rw [if_neg a, if_pos (h.resolve_left a)]
theorem s_has {nt : Nat → Int32} {nu nv nd : Nat → Int64} {sa : Nat → Nat} {has us vs ds : Nat → Int32} (h : RN nt nu nv nd sa has us vs ds) {i : Nat} (hi : i < 10) : f_X11_hasNumber nt sa (I (i : Int)) = some (has i) ∧ f_X12_isThere has (I (i : Int)) = some (has i) := by
  obtain ⟨h1, h2, -⟩ := h i hi
  constructor
  · unfold f_X11_hasNumber
    rw [bnd1_s (s_X11_isSlot hi), if_neg (show ¬ (1 : Int32) = 0 by decide), gdI (by omega) (by omega) (by omega), I_at rfl (by omega), h1]
    rcases h2 with q | q
    · rw [q, if_pos rfl]
    · rw [q, if_neg (by decide)]
  · unfold f_X12_isThere
    rw [if_neg (slot_no hi).1, if_neg (slot_no hi).2.1, gdI (by omega) (by omega) (by omega), I_at rfl (by omega)]
    rcases h2 with q | q
    · rw [q, if_pos rfl]
    · rw [q, if_neg (by decide)]
/-- a slot: none of both, or the same NUMBER in both -/
theorem num_cases {nt : Nat → Int32} {nu nv nd : Nat → Int64} {sa : Nat → Nat} {has us vs ds : Nat → Int32} (h : RN nt nu nv nd sa has us vs ds) (s : Int32) :
    (f_X11_hasNumber nt sa s = some 0 ∧ f_X12_isThere has s = some 0) ∨ ∃ (i : Nat) (u v d : Int), i < 10 ∧ s = I i ∧ f_X11_hasNumber nt sa s = some 1 ∧ f_X12_isThere has s = some 1 ∧ has i = 1 ∧ nu (sa i) = J u ∧ nv (sa i) = J v ∧ nd (sa i) = J d ∧ us i = I u ∧ vs i = I v ∧ ds i = I d ∧ NB u v d := by
  rcases slot_cases s with q | ⟨i, hi, rfl⟩
  · exact Or.inl (s_has_no q)
  · obtain ⟨a, b⟩ := s_has h hi
    obtain ⟨-, h2, h3⟩ := h i hi
    rcases h2 with q | q
    · rw [q] at a b; exact Or.inl ⟨a, b⟩
    · obtain ⟨u, v, d, e1, e2, e3, e4, e5, e6, e7⟩ := h3 q
      rw [q] at a b
      exact Or.inr ⟨i, u, v, d, hi, rfl, a, b, q, e1, e2, e3, e4, e5, e6, e7⟩
theorem NB.r {u v d : Int} (h : NB u v d) : R31 u ∧ R31 v ∧ R31 d := by
  have := h.b
  unfold R31; omega
theorem m_compare {nt : Nat → Int32} {nu nv nd : Nat → Int64} {sa : Nat → Nat} {has us vs ds : Nat → Int32} (h : RN nt nu nv nd sa has us vs ds) {a b : Int} (hb : VB a b) (th s t : Int32) :
    ∃ r : Int32, f_X11_compare (I a) (J (DD a b)) nt nu nv nd sa s t = some r ∧ f_X12_compare th (I a) (I (DD a b)) has us vs ds s t = some (r, 0) := by
  unfold f_X11_compare f_X12_compare
  rcases num_cases h s with ⟨q1, q2⟩ | ⟨i, u, v, d, hi, rfl, q1, q2, -, e1, e2, e3, e4, e5, e6, hn⟩
  · rw [bnd1_s q1, bnd1_s q2, if_pos rfl, if_pos rfl]; exact ⟨2, rfl, rfl⟩
  · rw [bnd1_s q1, bnd1_s q2, if_neg (show ¬ (1 : Int32) = 0 by decide), if_neg (show ¬ (1 : Int32) = 0 by decide)]
    rcases num_cases h t with ⟨q1, q2⟩ | ⟨j, u', v', d', hj, rfl, q1, q2, -, f1, f2, f3, f4, f5, f6, hm⟩
    · rw [bnd1_s q1, bnd1_s q2, if_pos rfl, if_pos rfl]; exact ⟨2, rfl, rfl⟩
    · rw [bnd1_s q1, bnd1_s q2, if_neg (show ¬ (1 : Int32) = 0 by decide), if_neg (show ¬ (1 : Int32) = 0 by decide)]
      simp only [gdI (a := (i : Int)) (n := 10) (by omega) (by omega) (by omega), gdI (a := (j : Int)) (n := 10) (by omega) (by omega) (by omega), I_at (a := (i : Int)) rfl (by omega), I_at (a := (j : Int)) rfl (by omega), e1, e2, e3, e4, e5, e6, f1, f2, f3, f4, f5, f6, I_J hn.r.1, I_J hn.r.2.1, I_J hn.r.2.2, I_J hm.r.1, I_J hm.r.2.1, I_J hm.r.2.2, J_mul, J_sub]
      have bn := hn.b
      have bm' := hm.b
      have k1 := bm bn.1 bm'.2.2.1
      have k2 := bm bm'.1 bn.2.2.1
      have k3 := bm bn.2.1 bm'.2.2.1
      have k4 := bm bm'.2.1 bn.2.2.1
      have hs := sgB_of (a := a) (D := DD a b) (p := u * d' - u' * d) (q := v * d' - v' * d) (by unfold VB at hb; omega) hb.D hb.D0 (by omega) (by omega)
      rw [bnd1_s (s_X3_sign hs), bnd1_s (s_X12_sign hs)]
      exact ⟨_, rfl, rfl⟩
