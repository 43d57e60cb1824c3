/-! Euclid, in both classes -/
theorem J_mod {x y : Nat} (hx : x < 9223372036854775808) (h0 : 0 < y) (hy : y < 9223372036854775808) : J x - J x / J y * J y = J ((x % y : Nat) : Int) := by
  have hd := J_div (a := (x : Int)) (b := (y : Int)) ⟨by omega, by omega⟩ ⟨by omega, by omega⟩ (by omega)
  rw [hd, ← Int.ofNat_tdiv, J_mul, J_sub]
  have h : (y : Int) * ((x / y : Nat) : Int) + ((x % y : Nat) : Int) = x := by exact_mod_cast Nat.div_add_mod x y
  have h2 : ((x / y : Nat) : Int) * (y : Int) = (y : Int) * ((x / y : Nat) : Int) := Int.mul_comm _ _
  congr 1
  rw [h2]
  omega
def GF : Nat → Nat
  | 0 => 1
  | 1 => 1
  | n + 2 => GF (n + 1) + GF n
theorem GF_pos : ∀ n, 0 < GF n
  | 0 => by decide
  | 1 => by decide
  | n + 2 => by rw [GF]; have := GF_pos n; omega
theorem Jz {y : Nat} (hy : y < 9223372036854775808) : (J (y : Int) = 0) ↔ y = 0 := by
  rw [J0, J_eq ⟨by omega, by omega⟩ ⟨by omega, by omega⟩]; omega
theorem eu_bound {k x y r : Nat} (h : y < GF (k + 2)) (hr : x % y = r) (hy : 0 < y) : r < GF (k + 1) ∨ (0 < r ∧ y % r < GF k) := by
  by_cases q : r < GF (k + 1)
  · exact Or.inl q
  · refine Or.inr ⟨by have := GF_pos (k + 1); omega, ?_⟩
    have h1 : r < y := by rw [← hr]; exact Nat.mod_lt _ hy
    have h2 : y % r ≤ y - r := by
      rw [Nat.mod_eq_sub_mod (by omega)]
      exact Nat.mod_le _ _
    rw [GF] at h
    omega
theorem eu12 : ∀ (k n x y : Nat), x < 9223372036854775808 → y < 9223372036854775808 → y < GF (k + 1) → k + 1 ≤ n → f_X12_common_L28 n (J x) (J y) = some (J ((Nat.gcd x y : Nat) : Int)) := by
  intro k
  induction k using Nat.strongRecOn with
  | ind k ih =>
    intro n x y hx hy hk hn
    obtain ⟨n, rfl⟩ : ∃ j, n = j + 1 := ⟨n - 1, by omega⟩
    rw [f_X12_common_L28]
    by_cases h0 : y = 0
    · rw [if_pos ((Jz hy).mpr h0), h0, Nat.gcd_zero_right]
    · rw [if_neg (fun q => h0 ((Jz hy).mp q)), gdL ⟨by omega, by omega⟩ (by omega), J_mod hx (by omega) hy]
      have hg : Nat.gcd x y = Nat.gcd y (x % y) := by rw [Nat.gcd_comm x y, Nat.gcd_rec y x, Nat.gcd_comm]
      rw [hg]
      have hlt : x % y < y := Nat.mod_lt _ (by omega)
      cases k with
      | zero => rw [GF] at hk; omega
      | succ k =>
        rcases eu_bound (x := x) hk rfl (by omega) with q | ⟨q1, q2⟩
        · exact ih k (by omega) n y (x % y) hy (by omega) q (by omega)
        · obtain ⟨n, rfl⟩ : ∃ j, n = j + 1 := ⟨n - 1, by omega⟩
          rw [f_X12_common_L28, if_neg (fun z => by have := (Jz (by omega)).mp z; omega), gdL ⟨by omega, by omega⟩ (by omega), J_mod hy q1 (by omega)]
          have hg2 : Nat.gcd y (x % y) = Nat.gcd (x % y) (y % (x % y)) := by rw [Nat.gcd_comm y (x % y), Nat.gcd_rec (x % y) y, Nat.gcd_comm]
          rw [hg2]
          have hl2 : y % (x % y) < x % y := Nat.mod_lt _ q1
          cases k with
          | zero =>
            rw [GF, GF, GF] at hk
            omega
          | succ k => exact ih k (by omega) n (x % y) (y % (x % y)) (by omega) (by omega) q2 (by omega)
theorem eu11 : ∀ (k n x y : Nat) (c : Int), x < 9223372036854775808 → y < 9223372036854775808 → y < GF (k + 1) → k + 1 ≤ n → 0 ≤ c → c + k ≤ 100 → f_X11_common_L15 n (J x) (J y) (I c) = some (J ((Nat.gcd x y : Nat) : Int)) := by
  intro k
  induction k using Nat.strongRecOn with
  | ind k ih =>
    intro n x y c hx hy hk hn hc hck
    obtain ⟨n, rfl⟩ : ∃ j, n = j + 1 := ⟨n - 1, by omega⟩
    rw [f_X11_common_L15]
    have hI : ∀ z : Int, 0 ≤ z → z ≤ 100 → ((100 : Int32) ≤ I z ↔ 100 ≤ z) := fun z h1 h2 => by
      rw [show (100 : Int32) = I 100 from rfl, I_le ⟨by omega, by omega⟩ ⟨by omega, by omega⟩]
    by_cases h0 : y = 0
    · rw [h0, Nat.gcd_zero_right]
      by_cases h1 : (100 : Int32) ≤ I c
      · rw [if_pos h1]
      · rw [if_neg h1, if_pos (show J ((0 : Nat) : Int) = 0 from rfl)]
    · have hk1 : 1 ≤ k := by
        rcases Nat.eq_zero_or_pos k with e | e
        · subst e; rw [GF] at hk; omega
        · exact e
      rw [if_neg (fun q => by have := (hI c hc (by omega)).mp q; omega), if_neg (fun q => h0 ((Jz hy).mp q)), gdL ⟨by omega, by omega⟩ (by omega), J_mod hx (by omega) hy, I1, I_add]
      have hg : Nat.gcd x y = Nat.gcd y (x % y) := by rw [Nat.gcd_comm x y, Nat.gcd_rec y x, Nat.gcd_comm]
      rw [hg]
      have hlt : x % y < y := Nat.mod_lt _ (by omega)
      cases k with
      | zero => omega
      | succ k =>
        rcases eu_bound (x := x) hk rfl (by omega) with q | ⟨q1, q2⟩
        · exact ih k (by omega) n y (x % y) (c + 1) hy (by omega) q (by omega) (by omega) (by omega)
        · obtain ⟨n, rfl⟩ : ∃ j, n = j + 1 := ⟨n - 1, by omega⟩
          have hk2 : 1 ≤ k := by
            rcases Nat.eq_zero_or_pos k with e | e
            · subst e
              have : x % y < y := hlt
              rw [GF, GF, GF] at hk
              omega
            · exact e
          rw [f_X11_common_L15, if_neg (fun q => by have := (hI (c + 1) (by omega) (by omega)).mp q; omega), if_neg (fun z => by have := (Jz (by omega)).mp z; omega), gdL ⟨by omega, by omega⟩ (by omega), J_mod hy q1 (by omega), I1, I_add]
          have hg2 : Nat.gcd y (x % y) = Nat.gcd (x % y) (y % (x % y)) := by rw [Nat.gcd_comm y (x % y), Nat.gcd_rec (x % y) y, Nat.gcd_comm]
          rw [hg2]
          have hl2 : y % (x % y) < x % y := Nat.mod_lt _ q1
          cases k with
          | zero => omega
          | succ k => exact ih k (by omega) n (x % y) (y % (x % y)) (c + 1 + 1) (by omega) (by omega) q2 (by omega) (by omega) (by omega)
theorem GF91 : 9223372036854775808 ≤ GF 91 + GF 92 := by decide +kernel
theorem GF_big : 9223372036854775808 ≤ GF 93 := by
  have : GF 93 = GF 92 + GF 91 := rfl
  have := GF91
  omega
def gz (m n : Int) : Int := ((Nat.gcd m.natAbs n.natAbs : Nat) : Int)
theorem s_abs {m : Int} (h : R63 m) (hm : m ≠ -9223372036854775808) : f_J9_abs_067f4 (J m) = some (J (m.natAbs : Int)) := by
  unfold f_J9_abs_067f4
  rw [J0, J_neg]
  by_cases h0 : 0 ≤ m
  · rw [if_pos ((J_le ⟨by omega, by omega⟩ h).mpr h0)]
    congr 2; omega
  · rw [if_neg (fun q => h0 ((J_le ⟨by omega, by omega⟩ h).mp q))]
    congr 2; omega
theorem s_X11_common {m n : Int} (hm : R63 m) (hn : R63 n) (hm2 : m ≠ -9223372036854775808) (hn2 : n ≠ -9223372036854775808) : f_X11_common (J m) (J n) = some (J (gz m n)) := by
  unfold f_X11_common
  have h1 : m.natAbs < 9223372036854775808 := by unfold R63 at hm; omega
  have h2 : n.natAbs < 9223372036854775808 := by unfold R63 at hn; omega
  rw [bnd1_s (s_abs hm hm2), bnd1_s (s_abs hn hn2), I0, bnd1_s (eu11 92 FU _ _ 0 h1 h2 (Nat.lt_of_lt_of_le h2 GF_big) (by rw [FU_eq]; decide) (by omega) (by omega))]
  rfl
theorem s_X12_common {m n : Int} (hm : R63 m) (hn : R63 n) (hm2 : m ≠ -9223372036854775808) (hn2 : n ≠ -9223372036854775808) : f_X12_common (J m) (J n) = some (J (gz m n)) := by
  unfold f_X12_common
  have h1 : m.natAbs < 9223372036854775808 := by unfold R63 at hm; omega
  have h2 : n.natAbs < 9223372036854775808 := by unfold R63 at hn; omega
  have key := eu12 92 FU m.natAbs n.natAbs h1 h2 (Nat.lt_of_lt_of_le h2 GF_big) (by rw [FU_eq]; decide)
  have z0 : R63 0 := ⟨by omega, by omega⟩
  have e1 : ∀ z : Int, 0 ≤ z → J z = J (z.natAbs : Int) := fun z hz => by congr 1; omega
  have e2 : ∀ z : Int, ¬ 0 ≤ z → J (-z) = J (z.natAbs : Int) := fun z hz => by congr 1; omega
  rw [J0, J_neg, J_neg]
  by_cases a : 0 ≤ m
  · rw [if_pos ((J_le z0 hm).mpr a), e1 m a]
    by_cases b : 0 ≤ n
    · rw [if_pos ((J_le z0 hn).mpr b), e1 n b, bnd1_s key]; rfl
    · rw [if_neg (fun q => b ((J_le z0 hn).mp q)), e2 n b, bnd1_s key]; rfl
  · rw [if_neg (fun q => a ((J_le z0 hm).mp q)), e2 m a]
    by_cases b : 0 ≤ n
    · rw [if_pos ((J_le z0 hn).mpr b), e1 n b, bnd1_s key]; rfl
    · rw [if_neg (fun q => b ((J_le z0 hn).mp q)), e2 n b, bnd1_s key]; rfl
