/-! the digits told: told, digit -/
def RD (kind top ahead len : Int32) (front behind : Nat → Int32) (isTold result mtop mahead mround : Int32) (dig : Nat → Int64) : Prop :=
  (kind = -1 ∧ isTold = 0) ∨ (isTold = 1 ∧ kind = result ∧ ¬ kind = -1 ∧ ∃ T A L : Nat, top = I T ∧ mtop = I T ∧ ahead = I A ∧ mahead = I A ∧ len = I L ∧ mround = I L ∧ T < 48 ∧ A + L ≤ 400 ∧ (∀ k, k ≤ T → front k = (dig (T - k)).toInt32) ∧ ∀ i, i < A + L → behind i = (dig (T + 1 + i)).toInt32)
theorem m_told {kind top ahead len isTold result mtop mahead mround th : Int32} {front behind : Nat → Int32} {dig : Nat → Int64} (h : RD kind top ahead len front behind isTold result mtop mahead mround dig) (w : Int32) :
    ∃ r : Int32, f_X11_told kind top ahead len w = some r ∧ f_X12_told th isTold mtop mahead mround w = some (r, 0) := by
  unfold f_X11_told f_X12_told
  rcases h with ⟨h1, h2⟩ | ⟨h1, h2, h3, T, A, L, e1, e2, e3, e4, e5, e6, -⟩
  · rw [if_pos h1, if_pos h2]; exact ⟨-1, rfl, rfl⟩
  · have h4 : ¬ isTold = 0 := by rw [h1]; decide
    rw [if_neg h3, if_neg h4, e1, e2, e3, e4, e5, e6]
    by_cases a : w = 0
    · rw [if_pos a, if_pos a]; exact ⟨_, rfl, rfl⟩
    · rw [if_neg a, if_neg a]
      by_cases b : w = 1
      · rw [if_pos b, if_pos b]; exact ⟨_, rfl, rfl⟩
      · rw [if_neg b, if_neg b]
        by_cases c : w = 2
        · rw [if_pos c, if_pos c]; exact ⟨_, rfl, rfl⟩
        · rw [if_neg c, if_neg c]; exact ⟨-1, rfl, rfl⟩
theorem J_rem {x y : Nat} (hx : x < 9223372036854775808) (h0 : 0 < y) (hy : y < 9223372036854775808) {X Y : Int} (eX : X = x) (eY : Y = y) : J X - J X / J Y * J Y = J ((x % y : Nat) : Int) := by
  subst eX eY; exact J_mod hx h0 hy
theorem I_at {a : Int} {n : Nat} (h : a = n) (hn : n < 2147483648) : (I a).toNatClampNeg = n := by
  subst h; rw [I_clamp (by omega) (by omega)]; omega
set_option maxHeartbeats 2000000 in
theorem m_digit {kind top ahead len isTold result mtop mahead mround th : Int32} {front behind : Nat → Int32} {dig : Nat → Int64} (h : RD kind top ahead len front behind isTold result mtop mahead mround dig) (w : Int32) :
    ∃ r : Int32, f_X11_digit kind top ahead len front behind w = some r ∧ f_X12_digit th isTold result mtop mahead mround dig w = some (r, 0) := by
  suffices hh : ∃ r : Int32, f_X8_at kind top ahead len front behind w = some r ∧ f_X12_digit th isTold result mtop mahead mround dig w = some (r, 0) by
    obtain ⟨r, a, b⟩ := hh
    exact ⟨r, by unfold f_X11_digit; rw [bnd1_s a], b⟩
  rcases h with ⟨h1, h2⟩ | ⟨h1, h2, h3, T, A, L, e1, e2, e3, e4, e5, e6, hT, hAL, hf, hb⟩
  · unfold f_X8_at f_X12_digit
    rw [if_pos h1, if_pos h2]; exact ⟨-1, rfl, rfl⟩
  · have h4 : ¬ isTold = 0 := by rw [h1]; decide
    subst e1 e2 e3 e4 e5 e6 h2
    obtain ⟨z, hz, rfl⟩ : ∃ z : Int, R31 z ∧ w = I z := ⟨w.toInt, I_rng w, I_of w⟩
    have hz' := hz
    unfold R31 at hz
    have rT : R31 (T : Int) := r31n (by omega)
    have rA : R31 (A : Int) := r31n (by omega)
    have rL : R31 (L : Int) := r31n (by omega)
    have z0 : R31 0 := ⟨by omega, by omega⟩
    by_cases c : z < 0
    · have c1 : I z < 0 := by rw [I0, I_lt hz' z0]; exact c
      have c2 : I z ≤ I (T : Int) := by rw [I_le hz' rT]; omega
      obtain ⟨i, hi⟩ : ∃ i : Nat, -1 - z = (i : Int) := ⟨(-1 - z).toNat, by omega⟩
      have hib : i < 2147483648 := by omega
      have eA : (I (A : Int)).toInt64 = J A := I_J rA
      have eL : (I (L : Int)).toInt64 = J L := I_J rL
      have eAL : (I (A : Int) + I (L : Int)).toInt64 = J ((A : Int) + L) := by rw [I_add]; exact I_J ⟨by omega, by omega⟩
      have ei : (-1 : Int64) - (I z).toInt64 = J (i : Int) := by rw [I_J hz', show (-1 : Int64) = J (-1) from rfl, J_sub, hi]
      have ei1 : -(I z).toInt64 = J ((i : Int) + 1) := by rw [I_J hz', J_neg]; congr 1; omega
      have ri : R63 (i : Int) := ⟨by omega, by omega⟩
      have ri1 : R63 ((i : Int) + 1) := ⟨by omega, by omega⟩
      have qA : R63 (A : Int) := ⟨by omega, by omega⟩
      have qL : R63 (L : Int) := ⟨by omega, by omega⟩
      have qAL : R63 ((A : Int) + L) := ⟨by omega, by omega⟩
      have q4 : R63 400 := ⟨by omega, by omega⟩
      have cl : (I (L : Int) ≤ 0) ↔ (L : Int) ≤ 0 := I_le rL z0
      have fin : ∀ j : Nat, j < A + L → gd (ixb (I (j : Int)) 400) (some (behind (I (j : Int)).toNatClampNeg)) = some ((dig (T + 1 + j)).toInt32) ∧ gd (ixb (I (T : Int) + I ((j : Int) + 1)) 500) (some ((dig (I (T : Int) + I ((j : Int) + 1)).toNatClampNeg).toInt32, (0 : Int32))) = some ((dig (T + 1 + j)).toInt32, 0) := fun j hj => by
        constructor
        · rw [gdI (by omega) (by omega) (by omega), I_at rfl (by omega), hb j hj]
        · rw [I_add, gdI (by omega) (by omega) (by omega), I_at (n := T + 1 + j) (by omega) (by omega)]
      have X0 : f_X8_at kind (I (T : Int)) (I (A : Int)) (I (L : Int)) front behind (I z) = (if (L : Int) ≤ 0 ∨ (i : Int) < A then (if (A : Int) + L ≤ i then (if kind = 2 then some (-1) else some 0) else (if (400 : Int) ≤ i then (if kind = 2 then some (-1) else some 0) else gd (ixb (I (i : Int)) 400) (some (behind (I (i : Int)).toNatClampNeg)))) else gd (ixb (I ((A + (i - A) % L : Nat) : Int)) 400) (some (behind (I ((A + (i - A) % L : Nat) : Int)).toNatClampNeg))) := by
        unfold f_X8_at
        rw [if_neg h3, if_pos c1, ei, eA, eL, eAL, show (400 : Int64) = J 400 from rfl]
        simp only [J_I, cl, J_lt ri qA, J_le qAL ri, J_le q4 ri]
        by_cases a : (L : Int) ≤ 0
        · rw [if_pos a, if_pos (Or.inl a)]
        · rw [if_neg a]
          by_cases b : (i : Int) < A
          · rw [if_pos b, if_pos (Or.inr b)]
          · rw [if_neg b, if_neg (by omega : ¬ ((L : Int) ≤ 0 ∨ (i : Int) < A)), gdL qL (by omega)]
            obtain ⟨g, hg⟩ : ∃ g : Nat, i = A + g := ⟨i - A, by omega⟩
            have em : g % L < L := Nat.mod_lt _ (by omega)
            have e7 : J (i : Int) - J (A : Int) = J (g : Int) := by rw [J_sub]; congr 1; omega
            have rr : R63 ((A : Int) + ((g % L : Nat) : Int)) := ⟨by omega, by omega⟩
            rw [e7, J_mod (by omega) (by omega) (by omega), J_add, J_I]
            have n1 : ¬ J ((A : Int) + L) ≤ J ((A : Int) + ((g % L : Nat) : Int)) := by rw [J_le qAL rr]; omega
            have n2 : ¬ J 400 ≤ J ((A : Int) + ((g % L : Nat) : Int)) := by rw [J_le q4 rr]; omega
            rw [if_neg n1, if_neg n2, show i - A = g by omega]
            rfl
      have Y0 : f_X12_digit th isTold kind (I (T : Int)) (I (A : Int)) (I (L : Int)) dig (I z) = (if (L : Int) ≤ 0 ∨ (i : Int) < A then (if (i : Int) + 1 ≤ (A : Int) + L then gd (ixb (I (T : Int) + I ((i : Int) + 1)) 500) (some ((dig (I (T : Int) + I ((i : Int) + 1)).toNatClampNeg).toInt32, (0 : Int32))) else (if kind = 2 then some (-1, 0) else some (0, 0))) else gd (ixb (I (T : Int) + I (((A + (i - A) % L : Nat) : Int) + 1)) 500) (some ((dig (I (T : Int) + I (((A + (i - A) % L : Nat) : Int) + 1)).toNatClampNeg).toInt32, (0 : Int32)))) := by
        unfold f_X12_digit
        rw [if_neg h4, if_pos c2, if_pos c1, ei1, eA, eL, eAL]
        simp only [J_I, cl, J_le ri1 qA, J_le ri1 qAL]
        by_cases b : (i : Int) < A
        · rw [if_pos (by omega : (i : Int) + 1 ≤ A), if_pos (Or.inr b)]
        · rw [if_neg (by omega : ¬ (i : Int) + 1 ≤ A)]
          by_cases a : (L : Int) ≤ 0
          · rw [if_pos a, if_pos (Or.inl a)]
          · rw [if_neg a, if_neg (by omega : ¬ ((L : Int) ≤ 0 ∨ (i : Int) < A)), gdL qL (by omega)]
            obtain ⟨g, hg⟩ : ∃ g : Nat, i = A + g := ⟨i - A, by omega⟩
            have em : g % L < L := Nat.mod_lt _ (by omega)
            have e8 : J ((i : Int) + 1) - J (A : Int) - 1 = J (g : Int) := by rw [J1, J_sub, J_sub]; congr 1; omega
            have rr1 : R63 ((A : Int) + 1 + ((g % L : Nat) : Int)) := ⟨by omega, by omega⟩
            rw [e8, J_mod (by omega) (by omega) (by omega), J1, J_add, J_add, J_I]
            have n1 : J ((A : Int) + 1 + ((g % L : Nat) : Int)) ≤ J ((A : Int) + L) := by rw [J_le rr1 qAL]; omega
            rw [if_pos n1, show i - A = g by omega, show (A : Int) + 1 + ((g % L : Nat) : Int) = ((A + g % L : Nat) : Int) + 1 by omega]
      rw [X0, Y0]
      by_cases a : (L : Int) ≤ 0 ∨ (i : Int) < A
      · rw [if_pos a, if_pos a]
        by_cases d : (A : Int) + L ≤ i
        · rw [if_pos d, if_neg (by omega : ¬ (i : Int) + 1 ≤ (A : Int) + L)]
          by_cases k2 : kind = 2
          · rw [if_pos k2, if_pos k2]; exact ⟨-1, rfl, rfl⟩
          · rw [if_neg k2, if_neg k2]; exact ⟨0, rfl, rfl⟩
        · rw [if_neg d, if_pos (by omega : (i : Int) + 1 ≤ (A : Int) + L), if_neg (by omega : ¬ (400 : Int) ≤ i)]
          exact ⟨_, fin i (by omega)⟩
      · rw [if_neg a, if_neg a]
        have em : (i - A) % L < L := Nat.mod_lt _ (by omega)
        exact ⟨_, fin (A + (i - A) % L) (by omega)⟩
    · have c1 : ¬ I z < 0 := by rw [I0, I_lt hz' z0]; exact c
      by_cases d : z ≤ T
      · refine ⟨front z.toNat, ?_, ?_⟩
        · have n1 : ¬ I (T : Int) < I z := by rw [I_lt rT hz']; omega
          have n2 : ¬ (48 : Int32) ≤ I z := by rw [show (48 : Int32) = I 48 from rfl, I_le ⟨by omega, by omega⟩ hz']; omega
          unfold f_X8_at
          rw [if_neg h3, if_neg c1, if_neg n1, if_neg n2, gdI (by omega) (by omega) (by omega), I_at (n := z.toNat) (by omega) (by omega)]
        · unfold f_X12_digit
          rw [if_neg h4, if_pos ((I_le hz' rT).mpr d), if_neg c1, I_sub, gdI (by omega) (by omega) (by omega), I_at (n := T - z.toNat) (by omega) (by omega), hf _ (by omega)]
      · refine ⟨0, ?_, ?_⟩
        · have n1 : I (T : Int) < I z := by rw [I_lt rT hz']; omega
          unfold f_X8_at
          rw [if_neg h3, if_neg c1, if_pos n1]
        · have n1 : ¬ I z ≤ I (T : Int) := by rw [I_le hz' rT]; exact d
          unfold f_X12_digit
          rw [if_neg h4, if_neg n1]
