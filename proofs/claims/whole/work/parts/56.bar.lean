/-! the BAR; allowed(), one() -/
theorem I_div {a b : Int} (ha : R31 a) (hb : R31 b) (hn : a ≠ -2147483648) : I a / I b = I (a.tdiv b) := by
  have h1 : R31 (a.tdiv b) := by
    have := Int.natAbs_tdiv_le_natAbs a b
    unfold R31 at ha ⊢
    omega
  rw [← Int32.toInt_inj, Int32.toInt_div, I_toInt ha, I_toInt hb, I_toInt h1]
  exact Int.bmod_eq_of_le (by unfold R31 at h1; omega) (by unfold R31 at h1; omega)
theorem I_mod {x y : Nat} (hx : x < 2147483648) (h0 : 0 < y) (hy : y < 2147483648) : I x - I x / I y * I y = I ((x % y : Nat) : Int) := by
  have hd := I_div (a := (x : Int)) (b := (y : Int)) ⟨by omega, by omega⟩ ⟨by omega, by omega⟩ (by omega)
  rw [hd, ← Int.ofNat_tdiv, I_mul, I_sub]
  have h : (y : Int) * ((x / y : Nat) : Int) + ((x % y : Nat) : Int) = x := by exact_mod_cast Nat.div_add_mod x y
  have h2 : ((x / y : Nat) : Int) * (y : Int) = (y : Int) * ((x / y : Nat) : Int) := Int.mul_comm _ _
  congr 1
  rw [h2]
  omega
def br (a b : Int) (k : Nat) : Int := if 0 < b then (if k % 2 = 0 then a else b - 1) else (if k = 0 then a - 1 else a + b - 1)
theorem Ieq0 {k : Nat} (hk : k < 2147483648) (c : Nat) (hc : c < 2147483648) : (I (k : Int) = I (c : Int)) ↔ k = c := by
  rw [I_eq (r31n hk) (r31n hc)]; omega
theorem s_bar {a b : Int} (hb : VB a b) {k : Nat} (hk : k < 1000) : f_X12_bar (I a) (I b) (I (k : Int)) = some (I (br a b k)) ∧ f_X3_digitOfBar (I a) (I b) (I ((k + 1 : Nat) : Int)) = some (I (br a b k)) := by
  unfold VB at hb
  have rb : R31 b := ⟨by omega, by omega⟩
  have r0 : R31 0 := ⟨by omega, by omega⟩
  have c : (I b ≤ 0) ↔ b ≤ 0 := I_le rb r0
  have k0 : (I (k : Int) = 0) ↔ k = 0 := Ieq0 (by omega) 0 (by omega)
  have k1 : (I ((k + 1 : Nat) : Int) = 1) ↔ k + 1 = 1 := Ieq0 (by omega) 1 (by omega)
  have e1 : I (k : Int) - I (k : Int) / 2 * 2 = I ((k % 2 : Nat) : Int) := by
    have := I_mod (x := k) (y := 2) (by omega) (by omega) (by omega)
    exact this
  have e2 : I ((k + 1 : Nat) : Int) - I ((k + 1 : Nat) : Int) / 2 * 2 = I (((k + 1) % 2 : Nat) : Int) := by
    have := I_mod (x := k + 1) (y := 2) (by omega) (by omega) (by omega)
    exact this
  have m0 : (I ((k % 2 : Nat) : Int) = 0) ↔ k % 2 = 0 := Ieq0 (by omega) 0 (by omega)
  have m1 : (I (((k + 1) % 2 : Nat) : Int) = 1) ↔ (k + 1) % 2 = 1 := Ieq0 (by omega) 1 (by omega)
  have n2 : nzI 2 = true := by decide
  unfold f_X12_bar f_X3_digitOfBar f_X3_digitOfOne br
  by_cases q : b ≤ 0
  · rw [if_pos (c.mpr q), if_pos (c.mpr q), if_neg (by omega : ¬ 0 < b), if_pos (c.mpr q)]
    by_cases e : k = 0
    · rw [if_pos (k0.mpr e), if_pos (k1.mpr (by omega)), if_pos e, I1, I_sub, bnd1_s rfl]; exact ⟨rfl, rfl⟩
    · rw [if_neg (fun z => e (k0.mp z)), if_neg (show ¬ I ((k + 1 : Nat) : Int) = 1 from fun z => e (by have := k1.mp z; omega)), if_neg e, I1, I_add, I_sub, bnd1_s rfl]; exact ⟨rfl, rfl⟩
  · rw [if_neg (fun z => q (c.mp z)), if_neg (fun z => q (c.mp z)), if_pos (by omega : 0 < b), gd_t n2, gd_t n2, e1, e2]
    by_cases e : k % 2 = 0
    · rw [if_pos (m0.mpr e), if_pos (m1.mpr (by omega)), if_pos e]; exact ⟨rfl, rfl⟩
    · rw [if_neg (fun z => e (m0.mp z)), if_neg (show ¬ I (((k + 1) % 2 : Nat) : Int) = 1 from fun z => e (by have := m1.mp z; omega)), if_neg e, I1, I_sub]; exact ⟨rfl, rfl⟩
theorem s_at {n : Nat} {by_ : Nat → Int32} (hn : n ≤ 200) {k : Nat} (hk : k < n) : f_X7_at (I (n : Int)) by_ (I (k : Int)) = some (by_ k) := by
  unfold f_X7_at
  have c1 : ¬ I (k : Int) < 0 := by rw [I0, I_lt (r31n (by omega)) ⟨by omega, by omega⟩]; omega
  have c2 : ¬ I (n : Int) ≤ I (k : Int) := by rw [I_le (r31n (by omega)) (r31n (by omega))]; omega
  rw [if_neg c1, if_neg c2, gdI (by omega) (by omega) (by omega), I_at rfl (by omega)]
theorem I_s (k : Nat) : I (k : Int) + 1 = I ((k + 1 : Nat) : Int) := by rw [I1, I_add]; congr 1
theorem In_le {m n : Nat} (hm : m < 2147483648) (hn : n < 2147483648) : (I (m : Int) ≤ I (n : Int)) ↔ m ≤ n := by rw [I_le (r31n hm) (r31n hn)]; omega
theorem In_lt {m n : Nat} (hm : m < 2147483648) (hn : n < 2147483648) : (I (m : Int) < I (n : Int)) ↔ m < n := by rw [I_lt (r31n hm) (r31n hn)]; omega
theorem neg_loop {n : Nat} {by_ tp : Nat → Int32} (hn : n ≤ 200) (h : agT n by_ tp) : ∀ (j m k : Nat), k + j = n → j + 1 ≤ m → ∃ r : Nat, f_X7_hasNegative_L2 (I (n : Int)) by_ m (I (k : Int)) = some r ∧ f_X12_allowed_L12 (I (n : Int)) tp m (I (k : Int)) = some r := by
  intro j
  induction j with
  | zero =>
    intro m k hk hm
    obtain ⟨m, rfl⟩ : ∃ i, m = i + 1 := ⟨m - 1, by omega⟩
    rw [f_X7_hasNegative_L2, f_X12_allowed_L12, if_pos ((In_le (by omega) (by omega)).mpr (by omega)), if_pos ((In_le (by omega) (by omega)).mpr (by omega))]
    exact ⟨1, rfl, rfl⟩
  | succ j ih =>
    intro m k hk hm
    obtain ⟨m, rfl⟩ : ∃ i, m = i + 1 := ⟨m - 1, by omega⟩
    have c : ¬ I (n : Int) ≤ I (k : Int) := fun q => by have := (In_le (by omega) (by omega)).mp q; omega
    rw [f_X7_hasNegative_L2, f_X12_allowed_L12, if_neg c, if_neg c, gdI (by omega) (by omega) (by omega), gdI (by omega) (by omega) (by omega), I_at rfl (by omega), (h k (by omega)).1, I_s]
    by_cases q : 0 ≤ tp k
    · rw [if_pos q, if_pos q]; exact ih m (k + 1) (by omega) (by omega)
    · rw [if_neg q, if_neg q]; exact ⟨0, rfl, rfl⟩
theorem bar_loop {a b : Int} (hb : VB a b) {n s : Nat} {by_ tp : Nat → Int32} (hn : n ≤ 200) (h : agT n by_ tp) : ∀ (j m i : Nat), s + i + j = n → j + 1 ≤ m →
    (f_X11_isAboveBar_L2 (I (s : Int)) (I (n : Int)) by_ (I a) (I b) m (I ((s + i : Nat) : Int)) = some (1, 0, 0) ∧ f_X12_allowed_L44 (I (n : Int)) (I (s : Int)) (I a) (I b) tp m (I (i : Int)) = some (I ((n - s : Nat) : Int))) ∨
    ∃ i' : Nat, s + i' < n ∧ f_X11_isAboveBar_L2 (I (s : Int)) (I (n : Int)) by_ (I a) (I b) m (I ((s + i : Nat) : Int)) = some (0, tp (s + i'), I (br a b i')) ∧ f_X12_allowed_L44 (I (n : Int)) (I (s : Int)) (I a) (I b) tp m (I (i : Int)) = some (I (i' : Int)) := by
  intro j
  induction j with
  | zero =>
    intro m i hk hm
    obtain ⟨m, rfl⟩ : ∃ i, m = i + 1 := ⟨m - 1, by omega⟩
    have e : I (s : Int) + I (i : Int) = I ((s + i : Nat) : Int) := by rw [I_add]; congr 1
    refine Or.inl ⟨?_, ?_⟩
    · rw [f_X11_isAboveBar_L2, if_pos ((In_le (by omega) (by omega)).mpr (by omega))]
    · rw [f_X12_allowed_L44, e, if_pos ((In_le (by omega) (by omega)).mpr (by omega)), show n - s = i by omega]
  | succ j ih =>
    intro m i hk hm
    obtain ⟨m, rfl⟩ : ∃ i, m = i + 1 := ⟨m - 1, by omega⟩
    have e : I (s : Int) + I (i : Int) = I ((s + i : Nat) : Int) := by rw [I_add]; congr 1
    have e2 : I ((s + i : Nat) : Int) - I (s : Int) + 1 = I ((i + 1 : Nat) : Int) := by rw [I1, I_sub, I_add]; congr 1; omega
    have c : ¬ I (n : Int) ≤ I ((s + i : Nat) : Int) := fun q => by have := (In_le (by omega) (by omega)).mp q; omega
    have hbar := s_bar hb (k := i) (by omega)
    rw [f_X11_isAboveBar_L2, f_X12_allowed_L44, e, if_neg c, if_neg c, bnd1_s (s_at hn (by omega)), e2, bnd1_s hbar.2, gdI (by omega) (by omega) (by omega), bnd1_s hbar.1, I_at rfl (by omega), (h (s + i) (by omega)).1, I_s, I_s]
    by_cases q : tp (s + i) = I (br a b i)
    · rw [if_pos q, if_pos q]
      exact ih m (i + 1) (by omega) (by omega)
    · rw [if_neg q, if_neg q]
      exact Or.inr ⟨i, by omega, rfl, rfl⟩
theorem first_loop {a b : Int} (hb : VB a b) {n : Nat} {by_ tp : Nat → Int32} (hn : n ≤ 200) (h : agT n by_ tp) : ∀ (j m s : Nat), s + j = n → j + 1 ≤ m → ∃ (t : Nat) (x : Int32), f_X11_firstAboveBar_L2 (I (n : Int)) by_ (I a) (I b) m (I (s : Int)) = some (t, x) ∧ f_X12_allowed_L37 (I (n : Int)) (I a) (I b) tp m (I (s : Int)) = some (t, x) := by
  intro j
  induction j with
  | zero =>
    intro m s hk hm
    obtain ⟨m, rfl⟩ : ∃ i, m = i + 1 := ⟨m - 1, by omega⟩
    rw [f_X11_firstAboveBar_L2, f_X12_allowed_L37, if_pos ((In_le (by omega) (by omega)).mpr (by omega)), if_pos ((In_le (by omega) (by omega)).mpr (by omega))]
    exact ⟨_, _, rfl, rfl⟩
  | succ j ih =>
    intro m s hk hm
    obtain ⟨m, rfl⟩ : ∃ i, m = i + 1 := ⟨m - 1, by omega⟩
    have c : ¬ I (n : Int) ≤ I (s : Int) := fun q => by have := (In_le (by omega) (by omega)).mp q; omega
    rw [f_X11_firstAboveBar_L2, f_X12_allowed_L37, if_neg c, if_neg c]
    have hr := ih m (s + 1) (by omega) (by omega)
    rcases bar_loop hb (s := s) hn h (j + 1) FU 0 (by omega) (by rw [FU_eq]; omega) with ⟨x1, x2⟩ | ⟨i', hi, x1, x2⟩
    · have x1 : f_X11_isAboveBar_L2 (I (s : Int)) (I (n : Int)) by_ (I a) (I b) FU (I (s : Int)) = some (1, 0, 0) := x1
      have x2 : f_X12_allowed_L44 (I (n : Int)) (I (s : Int)) (I a) (I b) tp FU 0 = some (I ((n - s : Nat) : Int)) := x2
      have e : I (s : Int) + I ((n - s : Nat) : Int) = I (n : Int) := by rw [I_add]; congr 1; omega
      unfold f_X11_isAboveBar
      rw [bnd3_s x1, bnd1_s x2, e, if_pos (show I (n : Int) ≤ I (n : Int) from (In_le (by omega) (by omega)).mpr (by omega)), if_neg (by decide : ¬ (1 : Nat) = 0), bnd1_s rfl, if_pos rfl, I_s]
      exact hr
    · have x1 : f_X11_isAboveBar_L2 (I (s : Int)) (I (n : Int)) by_ (I a) (I b) FU (I (s : Int)) = some (0, tp (s + i'), I (br a b i')) := x1
      have x2 : f_X12_allowed_L44 (I (n : Int)) (I (s : Int)) (I a) (I b) tp FU 0 = some (I (i' : Int)) := x2
      have e : I (s : Int) + I (i' : Int) = I ((s + i' : Nat) : Int) := by rw [I_add]; congr 1
      have c2 : ¬ I (n : Int) ≤ I ((s + i' : Nat) : Int) := fun q => by have := (In_le (by omega) (by omega)).mp q; omega
      unfold f_X11_isAboveBar
      rw [bnd3_s x1, bnd1_s x2, e, if_neg c2, if_pos rfl, gdI (by omega) (by omega) (by omega), I_at rfl (by omega), bnd1_s (s_bar hb (by omega)).1, I_s]
      by_cases q : tp (s + i') ≤ I (br a b i')
      · rw [if_pos q, if_pos q, bnd1_s rfl, if_pos rfl]
        exact hr
      · rw [if_neg q, if_neg q, bnd1_s rfl, if_neg (by decide)]
        exact ⟨_, _, rfl, rfl⟩
theorem m_allowed {sz ln : Int32} {by_ tp : Nat → Int32} (h : RT sz by_ ln tp) {a b : Int} (hb : VB a b) (th : Int32) : ∃ r : Int32, f_X11_allowed sz by_ (I a) (I b) = some (r, 0) ∧ f_X12_allowed th ln (I a) (I b) tp = some (r, 0, 0) := by
  obtain ⟨rfl, n, hn, rfl, hag⟩ := h
  obtain ⟨t, x1, x2⟩ := neg_loop hn hag n FU 0 (by omega) (by rw [FU_eq]; omega)
  have x1 : f_X7_hasNegative_L2 (I (n : Int)) by_ FU 0 = some t := x1
  have x2 : f_X12_allowed_L12 (I (n : Int)) tp FU 0 = some t := x2
  obtain ⟨w, y, y1, y2⟩ := first_loop hb hn hag n FU 0 (by omega) (by rw [FU_eq]; omega)
  have y1 : f_X11_firstAboveBar_L2 (I (n : Int)) by_ (I a) (I b) FU 0 = some (w, y) := y1
  have y2 : f_X12_allowed_L37 (I (n : Int)) (I a) (I b) tp FU 0 = some (w, y) := y2
  unfold f_X11_allowed f_X12_allowed f_X7_hasNegative f_X11_firstAboveBar f_X12_taken
  rw [bnd1_s x1, bnd2_s rfl, bnd1_s x2, bnd2_s y1, bnd2_s y2]
  by_cases q : t = 0
  · rw [if_pos q, if_pos q, bnd1_s rfl, if_neg (by decide)]; exact ⟨_, rfl, rfl⟩
  · rw [if_neg q, if_neg q, bnd1_s rfl, if_pos rfl]
    by_cases p : w = 0
    · rw [if_pos p, if_pos p, bnd1_s rfl]; exact ⟨_, rfl, rfl⟩
    · rw [if_neg p, if_neg p, bnd1_s rfl]; exact ⟨_, rfl, rfl⟩
theorem RT_0 (by_ tp : Nat → Int32) : RT 0 by_ 0 tp := ⟨rfl, 0, by omega, rfl, fun k hk => absurd hk (by omega)⟩
theorem m_one (a b th : Int32) (k : Int32) : ((k < 1 ∨ ¬ k ≤ 60) ∧ f_X12_one th a b k = some (0, 1)) ∨ (¬ k < 1 ∧ k ≤ 60 ∧ ∃ r : Int32, f_X3_digitOfOne a b k = some r ∧ f_X12_one th a b k = some (r, 0)) := by
  by_cases c1 : k < 1
  · refine Or.inl ⟨Or.inl c1, ?_⟩
    unfold f_X12_one f_X12_throwsIf
    rw [if_pos c1, if_neg (by decide : ¬ (1 : Int32) = 0), bnd2_s rfl, if_neg (by decide : ¬ (1 : Int32) = 0)]
  · by_cases c2 : k ≤ 60
    · refine Or.inr ⟨c1, c2, ?_⟩
      unfold f_X12_one f_X12_throwsIf f_X3_digitOfOne
      rw [if_neg c1, if_pos c2, if_pos (rfl : (0 : Int32) = 0), bnd2_s rfl, if_pos (rfl : (0 : Int32) = 0)]
      by_cases q : b ≤ 0
      · rw [if_pos q, if_pos q]
        by_cases e : k = 1
        · rw [if_pos e, if_pos e]; exact ⟨_, rfl, rfl⟩
        · rw [if_neg e, if_neg e]; exact ⟨_, rfl, rfl⟩
      · rw [if_neg q, if_neg q]
        by_cases e : k = 1
        · rw [if_pos e, if_pos e]; exact ⟨_, rfl, rfl⟩
        · rw [if_neg e, if_neg e]
          by_cases e2 : k = 2
          · rw [if_pos e2, if_pos e2]; exact ⟨_, rfl, rfl⟩
          · rw [if_neg e2, if_neg e2]; exact ⟨_, rfl, rfl⟩
    · refine Or.inl ⟨Or.inr c2, ?_⟩
      unfold f_X12_one f_X12_throwsIf
      rw [if_neg c1, if_neg c2, if_neg (by decide : ¬ (1 : Int32) = 0), bnd2_s rfl, if_neg (by decide : ¬ (1 : Int32) = 0)]
