/-! the latest write: written, place; count -/
def RW (kind ahead len : Int32) (places : Nat → Int32) (isW met rnd many : Int32) (last : Nat → Int32) : Prop :=
  (kind = -1 ∧ isW = 0) ∨ (isW = 1 ∧ ¬ kind = -1 ∧ ∃ A L : Nat, ahead = I A ∧ met = I A ∧ len = I L ∧ rnd = I L ∧ A + L ≤ 300 ∧ many = I ((A + L : Nat) : Int) ∧ ∀ k, k < A + L → places k = last k)
theorem i32_cases (w : Int32) : ∃ z : Int, R31 z ∧ w = I z := ⟨w.toInt, I_rng w, I_of w⟩
theorem m_written {kind ahead len isW met rnd many th : Int32} {places last : Nat → Int32} (h : RW kind ahead len places isW met rnd many last) (w : Int32) : ∃ r : Int32, f_X11_written kind ahead len w = some r ∧ f_X12_written th isW met rnd w = some (r, 0) := by
  unfold f_X11_written f_X12_written
  rcases h with ⟨h1, h2⟩ | ⟨h1, h3, A, L, e1, e2, e3, e4, -⟩
  · rw [if_pos h1, if_pos h2]; exact ⟨-1, rfl, rfl⟩
  · have h4 : ¬ isW = 0 := by rw [h1]; decide
    rw [if_neg h3, if_neg h4, e1, e2, e3, e4]
    obtain ⟨z, hz, rfl⟩ := i32_cases w
    have r0 : R31 0 := ⟨by omega, by omega⟩
    have r1 : R31 1 := ⟨by omega, by omega⟩
    rw [I0, I1]
    simp only [I_lt hz r0, I_le hz r1, I_eq hz r0, I_eq hz r1]
    by_cases a : z = 0
    · simp [a]
    · by_cases b : z = 1
      · simp [b]
      · by_cases c : z < 0
        · simp [a, b, c]
        · have d : ¬ z ≤ 1 := by omega
          simp [a, b, c, d]
theorem m_place {kind ahead len isW met rnd many th : Int32} {places last : Nat → Int32} (h : RW kind ahead len places isW met rnd many last) (w : Int32) : ∃ r : Int32, f_X11_place kind ahead len places w = some r ∧ f_X12_place th isW many last w = some (r, 0) := by
  unfold f_X11_place f_X10_at f_X12_place
  rcases h with ⟨h1, h2⟩ | ⟨h1, h3, A, L, e1, e2, e3, e4, hAL, e5, hp⟩
  · rw [if_pos h1, if_pos h2]; exact ⟨-1, rfl, rfl⟩
  · have h4 : ¬ isW = 0 := by rw [h1]; decide
    subst e1 e2 e3 e4 e5
    rw [if_neg h3, if_neg h4, I_add]
    obtain ⟨z, hz, rfl⟩ := i32_cases w
    have hz' := hz
    unfold R31 at hz'
    have r0 : R31 0 := ⟨by omega, by omega⟩
    have r3 : R31 300 := ⟨by omega, by omega⟩
    have rAL : R31 ((A : Int) + L) := ⟨by omega, by omega⟩
    have rAL2 : R31 ((A + L : Nat) : Int) := ⟨by omega, by omega⟩
    have c0 : (I z < 0) ↔ z < 0 := I_lt hz r0
    have c1 : (I ((A : Int) + L) ≤ I z) ↔ (A : Int) + L ≤ z := I_le rAL hz
    have c2 : ((300 : Int32) ≤ I z) ↔ 300 ≤ z := I_le r3 hz
    have c3 : (I z < I ((A + L : Nat) : Int)) ↔ z < ((A + L : Nat) : Int) := I_lt hz rAL2
    simp only [c0, c1, c2, c3]
    by_cases a : z < 0
    · rw [if_pos a, if_pos a]; exact ⟨-1, rfl, rfl⟩
    · rw [if_neg a, if_neg a]
      by_cases b : (A : Int) + L ≤ z
      · rw [if_pos b, if_neg (by omega : ¬ z < ((A + L : Nat) : Int))]; exact ⟨-1, rfl, rfl⟩
      · rw [if_neg b, if_pos (by omega : z < ((A + L : Nat) : Int)), if_neg (by omega : ¬ (300 : Int) ≤ z), gdI (by omega) (by omega) (by omega), gdI (by omega) (by omega) (by omega), I_at (n := z.toNat) (by omega) (by omega), hp _ (by omega)]
        exact ⟨_, rfl, rfl⟩
theorem cnt_loop {nt : Nat → Int32} {nu nv nd : Nat → Int64} {sa : Nat → Nat} {has us vs ds : Nat → Int32} (h : RN nt nu nv nd sa has us vs ds) : ∀ (j m : Nat) (x : Int32), j ≤ 10 → j + 1 ≤ m → ∃ r, f_X11_numbersThere_L4 nt sa m x (I (10 - (j : Int))) = some r ∧ f_X12_count_L87 has m x (I (10 - (j : Int))) = some r := by
  intro j
  induction j with
  | zero =>
    intro m x _ hm
    obtain ⟨m, rfl⟩ : ∃ i, m = i + 1 := ⟨m - 1, by omega⟩
    rw [f_X11_numbersThere_L4, f_X12_count_L87]
    exact ⟨x, rfl, rfl⟩
  | succ j ih =>
    intro m x hj hm
    obtain ⟨m, rfl⟩ : ∃ i, m = i + 1 := ⟨m - 1, by omega⟩
    have c : ¬ (10 : Int32) ≤ I (10 - ((j + 1 : Nat) : Int)) := by
      rw [show (10 : Int32) = I 10 from rfl, I_le ⟨by omega, by omega⟩ ⟨by omega, by omega⟩]; omega
    have e1 : I (10 - ((j + 1 : Nat) : Int)) + 1 = I (10 - (j : Int)) := by rw [I1, I_add]; congr 1; omega
    have e2 : (I (10 - ((j + 1 : Nat) : Int))).toNatClampNeg = 9 - j := I_at (by omega) (by omega)
    rw [f_X11_numbersThere_L4, f_X12_count_L87, if_neg c, if_neg c, gdI (by omega) (by omega) (by omega), gdI (by omega) (by omega) (by omega), e1, e2, (h (9 - j) (by omega)).1]
    by_cases q : has (9 - j) = 0
    · rw [if_pos q, if_pos q, Int32.add_zero]; exact ih m x (by omega) (by omega)
    · rw [if_neg q, if_neg q]; exact ih m (x + 1) (by omega) (by omega)
theorem m_count {nt : Nat → Int32} {nu nv nd : Nat → Int64} {sa : Nat → Nat} {has us vs ds : Nat → Int32} (h : RN nt nu nv nd sa has us vs ds) {a b : Int} (hb : VB a b) (th sz norm size parts w : Int32) :
    ∃ r : Int32, f_X11_count sz (I a) (I b) parts norm size nt sa w = some r ∧ f_X12_count th sz (I a) (I b) parts norm size has w = some (r, 0) := by
  obtain ⟨r, x1, x2⟩ := cnt_loop h 10 FU 0 (by omega) (by rw [FU_eq]; decide)
  have x1 : f_X11_numbersThere_L4 nt sa FU 0 0 = some r := x1
  have x2 : f_X12_count_L87 has FU 0 0 = some r := x2
  unfold f_X11_count f_X12_count f_X11_numbersThere f_X3_top
  rw [bnd1_s x1, bnd1_s x2]
  by_cases w0 : w = 0
  · simp [w0]
  by_cases w1 : w = 1
  · simp [w1]
  by_cases w2 : w = 2
  · rw [if_neg w0, if_neg w1, if_pos w2, if_neg w0, if_neg w1, if_pos w2]
    by_cases q : I b ≤ 0
    · rw [if_pos q, if_pos q]; exact ⟨_, rfl, rfl⟩
    · rw [if_neg q, if_neg q]; exact ⟨_, rfl, rfl⟩
  by_cases w3 : w = 3
  · rw [if_neg w0, if_neg w1, if_neg w2, if_pos w3, if_neg w0, if_neg w1, if_neg w2, if_pos w3]; exact ⟨r, rfl, rfl⟩
  rw [if_neg w0, if_neg w1, if_neg w2, if_neg w3, if_neg w0, if_neg w1, if_neg w2, if_neg w3]
  by_cases w4 : w = 4
  · simp [w4]
  by_cases w5 : w = 5
  · simp [w5]
  by_cases w6 : w = 6
  · simp [w6]
  by_cases w7 : w = 7
  · simp [w7]
  rw [if_neg w4, if_neg w5, if_neg w6, if_neg w7, if_neg w4, if_neg w5, if_neg w6, if_neg w7]
  exact ⟨_, rfl, rfl⟩
