/-! rings: multiples of the BASE, keys, as many classes as NORM -/
def tY (q sY sZ m n : Int) : Int := m * sY + q * n * sZ
def tZ (p sY sZ m n : Int) : Int := m * sZ + n * sY + p * n * sZ
def dv (p q sY sZ N m n : Int) : Prop := N ∣ tY q sY sZ m n ∧ N ∣ tZ p sY sZ m n
def ky (p q sY sZ k m n : Int) : Int := tY q sY sZ m n % k * k + tZ p sY sZ m n % k
theorem tY_sub (q sY sZ m n m' n' : Int) : tY q sY sZ (m - m') (n - n') = tY q sY sZ m n - tY q sY sZ m' n' := by unfold tY; grind
theorem tZ_sub (p sY sZ m n m' n' : Int) : tZ p sY sZ (m - m') (n - n') = tZ p sY sZ m n - tZ p sY sZ m' n' := by unfold tZ; grind
theorem tY_lin (q sY sZ c d m n m' n' : Int) : tY q sY sZ (c * m + d * m') (c * n + d * n') = c * tY q sY sZ m n + d * tY q sY sZ m' n' := by unfold tY; grind
theorem tZ_lin (p sY sZ c d m n m' n' : Int) : tZ p sY sZ (c * m + d * m') (c * n + d * n') = c * tZ p sY sZ m n + d * tZ p sY sZ m' n' := by unfold tZ; grind
theorem dv_lin {p q sY sZ N : Int} (c d : Int) {m n m' n' : Int} (h : dv p q sY sZ N m n) (h' : dv p q sY sZ N m' n') : dv p q sY sZ N (c * m + d * m') (c * n + d * n') := by
  unfold dv
  rw [tY_lin, tZ_lin]
  exact ⟨Int.dvd_add (Int.dvd_mul_of_dvd_right h.1) (Int.dvd_mul_of_dvd_right h'.1), Int.dvd_add (Int.dvd_mul_of_dvd_right h.2) (Int.dvd_mul_of_dvd_right h'.2)⟩
theorem dv_symm {p q sY sZ N m n m' n' : Int} (h : dv p q sY sZ N (m - m') (n - n')) : dv p q sY sZ N (m' - m) (n' - n) := by
  have := dv_lin (-1) 0 h h
  rw [show -1 * (m - m') + 0 * (m - m') = m' - m by omega, show -1 * (n - n') + 0 * (n - n') = n' - n by omega] at this
  exact this
theorem radix {A B A' B' k : Int} (h : A * k + B = A' * k + B') (h1 : 0 ≤ B) (h2 : B < k) (h3 : 0 ≤ B') (h4 : B' < k) : A = A' ∧ B = B' := by
  have e : A = A' := by
    rcases Int.lt_trichotomy A A' with q | q | q
    · have := Int.mul_le_mul_of_nonneg_right (show A + 1 ≤ A' by omega) (show 0 ≤ k by omega)
      rw [Int.add_mul, Int.one_mul] at this
      omega
    · exact q
    · have := Int.mul_le_mul_of_nonneg_right (show A' + 1 ≤ A by omega) (show 0 ≤ k by omega)
      rw [Int.add_mul, Int.one_mul] at this
      omega
  subst e
  exact ⟨rfl, by omega⟩
theorem emod_dvd {x y k : Int} : x % k = y % k ↔ k ∣ x - y := by
  constructor
  · intro h
    have h1 := Int.mul_ediv_add_emod x k
    have h2 := Int.mul_ediv_add_emod y k
    exact ⟨x / k - y / k, by rw [Int.mul_sub]; omega⟩
  · rintro ⟨c, hc⟩
    rw [show x = y + k * c by omega, Int.add_mul_emod_self_left]
theorem ky_eq {p q sY sZ N m n m' n' : Int} (hN : N ≠ 0) : ky p q sY sZ (N.natAbs : Int) m n = ky p q sY sZ (N.natAbs : Int) m' n' ↔ dv p q sY sZ N (m - m') (n - n') := by
  have hp : 0 < (N.natAbs : Int) := by omega
  unfold dv
  rw [tY_sub, tZ_sub, ← Int.natAbs_dvd (a := N), ← Int.natAbs_dvd (a := N), ← emod_dvd, ← emod_dvd]
  unfold ky
  constructor
  · intro h
    exact radix h (Int.emod_nonneg _ (by omega)) (Int.emod_lt_of_pos _ hp) (Int.emod_nonneg _ (by omega)) (Int.emod_lt_of_pos _ hp)
  · rintro ⟨h1, h2⟩
    rw [h1, h2]
theorem ky_bd {p q sY sZ k m n : Int} (hk : 0 < k) (hk2 : k ≤ 25) : 0 ≤ ky p q sY sZ k m n ∧ ky p q sY sZ k m n < 625 := by
  unfold ky
  have h1 := Int.emod_nonneg (tY q sY sZ m n) (show k ≠ 0 by omega)
  have h2 := Int.emod_lt_of_pos (tY q sY sZ m n) hk
  have h3 := Int.emod_nonneg (tZ p sY sZ m n) (show k ≠ 0 by omega)
  have h4 := Int.emod_lt_of_pos (tZ p sY sZ m n) hk
  have h5 := Int.mul_le_mul (show tY q sY sZ m n % k ≤ 24 by omega) hk2 (by omega) (by omega)
  have h6 := Int.mul_nonneg h1 (show 0 ≤ k by omega)
  omega
theorem bezN (a b : Nat) : ∃ x y : Int, ((Nat.gcd a b : Nat) : Int) = x * a + y * b := by
  induction a, b using Nat.gcd.induction with
  | H0 n => exact ⟨0, 1, by rw [Nat.gcd_zero_left]; omega⟩
  | H1 m n hm ih =>
    obtain ⟨x, y, e⟩ := ih
    refine ⟨y - x * ((n / m : Nat) : Int), x, ?_⟩
    rw [Nat.gcd_rec, e]
    have h : (m : Int) * ((n / m : Nat) : Int) + ((n % m : Nat) : Int) = n := by exact_mod_cast Nat.div_add_mod n m
    rw [show (n : Int) = (m : Int) * ((n / m : Nat) : Int) + ((n % m : Nat) : Int) from h.symm]
    grind
theorem bez (a b : Int) : ∃ x y : Int, gz a b = x * a + y * b := by
  obtain ⟨x, y, e⟩ := bezN a.natAbs b.natAbs
  unfold gz
  rw [e]
  have ha : ∃ s : Int, (a.natAbs : Int) = s * a := by
    rcases (show 0 ≤ a ∨ a < 0 by omega) with h | h
    · exact ⟨1, by omega⟩
    · exact ⟨-1, by omega⟩
  have hb : ∃ s : Int, (b.natAbs : Int) = s * b := by
    rcases (show 0 ≤ b ∨ b < 0 by omega) with h | h
    · exact ⟨1, by omega⟩
    · exact ⟨-1, by omega⟩
  obtain ⟨s, hs⟩ := ha
  obtain ⟨t, ht⟩ := hb
  exact ⟨x * s, y * t, by rw [hs, ht]; grind⟩
theorem pig : ∀ (n : Nat) (f : Nat → Nat), (∀ i, i < n + 1 → f i < n) → ∃ i j, i < j ∧ j < n + 1 ∧ f i = f j := by
  intro n
  induction n with
  | zero => intro f h; exact absurd (h 0 (by omega)) (by omega)
  | succ n ih =>
    intro f h
    by_cases q : ∃ j, j < n + 1 ∧ f j = f (n + 1)
    · obtain ⟨j, h1, h2⟩ := q
      exact ⟨j, n + 1, h1, by omega, h2⟩
    · have hne : ∀ j, j < n + 1 → f j ≠ f (n + 1) := fun j hj e => q ⟨j, hj, e⟩
      have hl := h (n + 1) (by omega)
      obtain ⟨i, j, h1, h2, h3⟩ := ih (fun i => if f i = n then f (n + 1) else f i) (fun i hi => by
        have := h i (by omega)
        have := hne i hi
        by_cases z : f i = n
        · simp only [z, if_true]; omega
        · simp only [z, if_false]; omega)
      refine ⟨i, j, h1, by omega, ?_⟩
      have n1 := hne i (by omega)
      have n2 := hne j (by omega)
      by_cases z1 : f i = n
      · by_cases z2 : f j = n
        · omega
        · simp only [z1, z2, if_true, if_false] at h3
          exact absurd h3.symm n2
      · by_cases z2 : f j = n
        · simp only [z1, z2, if_true, if_false] at h3
          exact absurd h3 n1
        · simp only [z1, z2, if_false] at h3
          exact h3
def RP (P p q y z sY sZ N : Int) : Prop := ((P = 1 ∧ p = 0 ∧ q = 0 ∧ z = 0 ∧ sY = 1 ∧ sZ = 0 ∧ N = y) ∨ (P = 2 ∧ p.natAbs ≤ 9 ∧ q.natAbs ≤ 9 ∧ y.natAbs ≤ 100000 ∧ z.natAbs ≤ 100000 ∧ sY = y + p * z ∧ sZ = -z ∧ N = y * y + p * y * z - q * z * z)) ∧ 2 ≤ N.natAbs ∧ N.natAbs ≤ 25
theorem RP_phi {P p q y z sY sZ N : Int} (h : RP P p q y z sY sZ N) : ∃ f : Int → Int → Nat, (∀ m n, f m n < N.natAbs) ∧ ∀ m n m' n', (P = 1 → n = 0 ∧ n' = 0) → f m n = f m' n' → dv p q sY sZ N (m - m') (n - n') := by
  obtain ⟨h1, h2, h3⟩ := h
  rcases h1 with ⟨hP, rfl, rfl, rfl, rfl, rfl, rfl⟩ | ⟨hP, -, -, -, -, rfl, rfl, hN⟩
  · refine ⟨fun m _ => (m % (N.natAbs : Int)).toNat, fun m n => ?_, fun m n m' n' h0 e => ?_⟩
    · have h4 := Int.emod_nonneg m (show (N.natAbs : Int) ≠ 0 by omega)
      have h5 := Int.emod_lt_of_pos m (show 0 < (N.natAbs : Int) by omega)
      show (m % (N.natAbs : Int)).toNat < N.natAbs
      omega
    · have e : (m % (N.natAbs : Int)).toNat = (m' % (N.natAbs : Int)).toNat := e
      have h4 := Int.emod_nonneg m (show (N.natAbs : Int) ≠ 0 by omega)
      have h5 := Int.emod_nonneg m' (show (N.natAbs : Int) ≠ 0 by omega)
      have e2 : m % (N.natAbs : Int) = m' % (N.natAbs : Int) := by omega
      rw [emod_dvd, Int.natAbs_dvd] at e2
      obtain ⟨z1, z2⟩ := h0 hP
      subst z1 z2
      unfold dv tY tZ
      refine ⟨?_, ?_⟩
      · rw [show (m - m') * 1 + 0 * (0 - 0) * 0 = m - m' by omega]; exact e2
      · rw [show (m - m') * 0 + (0 - 0) * 1 + 0 * (0 - 0) * 0 = 0 by omega]; exact Int.dvd_zero N
  · obtain ⟨α, β, hG⟩ := bez z (y + p * z)
    have d1 := gz_dvd_l z (y + p * z)
    have d2 := gz_dvd_r z (y + p * z)
    have G0 := gz_nonneg z (y + p * z)
    generalize gz z (y + p * z) = G at *
    obtain ⟨z1, hz1⟩ := d1
    obtain ⟨z2, hz2⟩ := d2
    have hGh : G * (z2 * y - z1 * q * z) = N := by
      have e1 : G * (z2 * y - z1 * q * z) = (G * z2) * y - (G * z1) * q * z := by grind
      rw [e1, ← hz1, ← hz2, hN]; grind
    have hGne : G ≠ 0 := fun e => by rw [e, Int.zero_mul] at hGh; omega
    have hGp : 0 < G := by omega
    have B1 : dv p q (y + p * z) (-z) N y z := by
      unfold dv tY tZ
      refine ⟨⟨1, by rw [hN]; grind⟩, ⟨0, by grind⟩⟩
    have B2 : dv p q (y + p * z) (-z) N (q * z) (y + p * z) := by
      unfold dv tY tZ
      refine ⟨⟨0, by grind⟩, ⟨1, by rw [hN]; grind⟩⟩
    have E1 := dv_lin α β B1 B2
    have E0 := dv_lin z2 (-z1) B1 B2
    rw [show z2 * z + -z1 * (y + p * z) = 0 by rw [hz2]; rw [show z2 * z = z2 * (G * z1) by rw [← hz1]]; grind] at E0
    rw [← hG] at E1
    have eh : z2 * y + -z1 * (q * z) = z2 * y - z1 * q * z := by grind
    rw [eh] at E0
    generalize z2 * y - z1 * q * z = h at *
    generalize α * y + β * (q * z) = s at *
    have hh : h ≠ 0 := fun e => by rw [e, Int.mul_zero] at hGh; omega
    have hNm : (N.natAbs : Int) = h.natAbs * G := by
      rw [← hGh, Int.natAbs_mul, Int.natCast_mul, Int.mul_comm]
      congr 1; omega
    refine ⟨fun m n => ((m - n / G * s) % (h.natAbs : Int) * G + n % G).toNat, fun m n => ?_, fun m n m' n' _ e => ?_⟩
    · have a1 := Int.emod_nonneg (m - n / G * s) (show (h.natAbs : Int) ≠ 0 by omega)
      have a2 := Int.emod_lt_of_pos (m - n / G * s) (show 0 < (h.natAbs : Int) by omega)
      have a3 := Int.emod_nonneg n hGne
      have a4 := Int.emod_lt_of_pos n hGp
      have a5 := Int.mul_nonneg a1 G0
      have a6 := Int.mul_le_mul_of_nonneg_right (show (m - n / G * s) % (h.natAbs : Int) + 1 ≤ (h.natAbs : Int) by omega) G0
      rw [Int.add_mul, Int.one_mul] at a6
      show ((m - n / G * s) % (h.natAbs : Int) * G + n % G).toNat < N.natAbs
      omega
    · have e : ((m - n / G * s) % (h.natAbs : Int) * G + n % G).toNat = ((m' - n' / G * s) % (h.natAbs : Int) * G + n' % G).toNat := e
      have a1 := Int.emod_nonneg (m - n / G * s) (show (h.natAbs : Int) ≠ 0 by omega)
      have b1 := Int.emod_nonneg (m' - n' / G * s) (show (h.natAbs : Int) ≠ 0 by omega)
      have a3 := Int.emod_nonneg n hGne
      have a4 := Int.emod_lt_of_pos n hGp
      have b3 := Int.emod_nonneg n' hGne
      have b4 := Int.emod_lt_of_pos n' hGp
      have a5 := Int.mul_nonneg a1 G0
      have b5 := Int.mul_nonneg b1 G0
      obtain ⟨r1, r2⟩ := radix (show (m - n / G * s) % (h.natAbs : Int) * G + n % G = (m' - n' / G * s) % (h.natAbs : Int) * G + n' % G by omega) a3 a4 b3 b4
      rw [emod_dvd, Int.natAbs_dvd] at r1
      obtain ⟨c, hc⟩ := r1
      have n1 := Int.mul_ediv_add_emod n G
      have n2 := Int.mul_ediv_add_emod n' G
      have := dv_lin (n / G - n' / G) c E1 E0
      rw [show (n / G - n' / G) * s + c * h = m - m' by rw [Int.mul_comm c h, ← hc]; grind, show (n / G - n' / G) * G + c * 0 = n - n' by rw [Int.sub_mul, Int.mul_comm _ G, Int.mul_comm _ G]; omega] at this
      exact this
/-- each member has a digit -/
theorem RP_digit {P p q y z sY sZ N : Int} (h : RP P p q y z sY sZ N) {dy dz : Nat → Int} (h1 : P = 1 → ∀ i, i < N.natAbs → dz i = 0) (h2 : ∀ i j, i < N.natAbs → j < N.natAbs → dv p q sY sZ N (dy i - dy j) (dz i - dz j) → i = j) (m n : Int) (h3 : P = 1 → n = 0) : ∃ i, i < N.natAbs ∧ dv p q sY sZ N (m - dy i) (n - dz i) := by
  obtain ⟨f, f1, f2⟩ := RP_phi h
  obtain ⟨i, j, c1, c2, c3⟩ := pig N.natAbs (fun i => if i = N.natAbs then f m n else f (dy i) (dz i)) (fun i hi => by
    by_cases e : i = N.natAbs
    · simp only [e, if_true]; exact f1 _ _
    · simp only [e, if_false]; exact f1 _ _)
  have e1 : ¬ i = N.natAbs := by omega
  by_cases e : j = N.natAbs
  · simp only [e, e1, if_true, if_false] at c3
    exact ⟨i, by omega, dv_symm (f2 _ _ _ _ (fun hP => ⟨h1 hP i (by omega), h3 hP⟩) c3)⟩
  · simp only [e, e1, if_false] at c3
    have := h2 i j (by omega) (by omega) (f2 _ _ _ _ (fun hP => ⟨h1 hP i (by omega), h1 hP j (by omega)⟩) c3)
    omega
