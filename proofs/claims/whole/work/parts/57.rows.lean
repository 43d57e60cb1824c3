/-! part(), round(): the pure halves; the reference's row counts; rows() -/
theorem thr1 (th : Int32) : f_X12_throwsIf th 1 = some (1, 1) := by
  unfold f_X12_throwsIf; rw [if_neg (by decide)]
theorem thr0 (th : Int32) : f_X12_throwsIf th 0 = some (0, 0) := by
  unfold f_X12_throwsIf; rw [if_pos rfl]
theorem m_part {nt : Nat → Int32} {nu nv nd : Nat → Int64} {sa : Nat → Nat} {has us vs ds : Nat → Int32} (h : RN nt nu nv nd sa has us vs ds) (th s w : Int32) :
    (f_X11_hasNumber nt sa s = some 0 ∧ f_X12_part th has us vs ds s w = some (0, 1)) ∨ ∃ i : Nat, i < 10 ∧ s = I (i : Int) ∧ f_X11_hasNumber nt sa s = some 1 ∧ (((w < 0 ∨ ¬ w ≤ 2) ∧ f_X12_part th has us vs ds s w = some (0, 1)) ∨ (¬ w < 0 ∧ w ≤ 2 ∧ f_X12_part th has us vs ds s w = some (if w = 0 then (nu (sa i)).toInt32 else if w = 1 then (nv (sa i)).toInt32 else (nd (sa i)).toInt32, 0))) := by
  unfold f_X12_part
  rw [thr1, thr0]
  rcases num_cases h s with ⟨q1, q2⟩ | ⟨i, u, v, d, hi, rfl, q1, q2, -, e1, e2, e3, e4, e5, e6, hn⟩
  · refine Or.inl ⟨q1, ?_⟩
    rw [bnd1_s q2, if_pos rfl, bnd2_s rfl, if_neg (by decide)]
  · refine Or.inr ⟨i, hi, rfl, q1, ?_⟩
    rw [bnd1_s q2, if_neg (show ¬ (1 : Int32) = 0 by decide)]
    by_cases c1 : w < 0
    · refine Or.inl ⟨Or.inl c1, ?_⟩
      rw [if_pos c1, bnd2_s rfl, if_neg (by decide)]
    · by_cases c2 : w ≤ 2
      · refine Or.inr ⟨c1, c2, ?_⟩
        rw [if_neg c1, if_pos c2, bnd2_s rfl, if_pos (show (0 : Int32) = 0 from rfl), gdI (by omega) (by omega) (by omega), gdI (by omega) (by omega) (by omega), gdI (by omega) (by omega) (by omega), I_at rfl (by omega), e1, e2, e3, e4, e5, e6, J_I, J_I, J_I]
        by_cases w0 : w = 0
        · rw [if_pos w0, if_pos w0]
        · rw [if_neg w0, if_neg w0]
          by_cases w1 : w = 1
          · rw [if_pos w1, if_pos w1]
          · rw [if_neg w1, if_neg w1]
      · refine Or.inl ⟨Or.inr c2, ?_⟩
        rw [if_neg c1, if_neg c2, bnd2_s rfl, if_neg (by decide)]
def RK (sz : Int32) (le ys zs : Nat → Int32) (rm : Int32) (rl ry rz : Nat → Int32) : Prop := ∃ n : Nat, n ≤ 441 ∧ sz = I (n : Int) ∧ rm = I (n : Int) ∧ ∀ k, k < n → le k = rl k ∧ ys k = ry k ∧ zs k = rz k
theorem m_round {sz : Int32} {le ys zs : Nat → Int32} {rm : Int32} {rl ry rz : Nat → Int32} (h : RK sz le ys zs rm rl ry rz) (th l w : Int32) :
    ((l < 0 ∨ sz ≤ l ∨ w < 0 ∨ ¬ w ≤ 2) ∧ f_X12_round th rm rl ry rz l w = some (0, 1)) ∨ (¬ l < 0 ∧ ¬ sz ≤ l ∧ ¬ w < 0 ∧ w ≤ 2 ∧ ∃ k : Nat, k < 441 ∧ l = I (k : Int) ∧ f_X12_round th rm rl ry rz l w = some (if w = 0 then le k else if w = 1 then ys k else zs k, 0)) := by
  obtain ⟨n, hn, rfl, rfl, hk⟩ := h
  unfold f_X12_round
  rw [thr1, thr0]
  by_cases c1 : l < 0
  · refine Or.inl ⟨Or.inl c1, ?_⟩
    rw [if_pos c1, bnd2_s rfl, if_neg (by decide)]
  by_cases c2 : I (n : Int) ≤ l
  · refine Or.inl ⟨Or.inr (Or.inl c2), ?_⟩
    rw [if_neg c1, if_pos c2, bnd2_s rfl, if_neg (by decide)]
  by_cases c3 : w < 0
  · refine Or.inl ⟨Or.inr (Or.inr (Or.inl c3)), ?_⟩
    rw [if_neg c1, if_neg c2, if_pos c3, bnd2_s rfl, if_neg (by decide)]
  by_cases c4 : w ≤ 2
  · refine Or.inr ⟨c1, c2, c3, c4, ?_⟩
    obtain ⟨z, hz, rfl⟩ := i32_cases l
    rw [I0, I_lt hz ⟨by omega, by omega⟩] at c1
    rw [I_le (r31n (by omega)) hz] at c2
    refine ⟨z.toNat, by omega, by congr 1; omega, ?_⟩
    obtain ⟨k1, k2, k3⟩ := hk z.toNat (by omega)
    have c1' : ¬ I z < 0 := by rw [I0, I_lt hz ⟨by omega, by omega⟩]; exact c1
    have c2' : ¬ I (n : Int) ≤ I z := by rw [I_le (r31n (by omega)) hz]; exact c2
    rw [if_neg c1', if_neg c2', if_neg c3, if_pos c4, bnd2_s rfl, if_pos (show (0 : Int32) = 0 from rfl), gdI (by omega) (by omega) (by omega), gdI (by omega) (by omega) (by omega), gdI (by omega) (by omega) (by omega), I_at (n := z.toNat) (by omega) (by omega), k1, k2, k3]
    by_cases w0 : w = 0
    · rw [if_pos w0, if_pos w0]
    · rw [if_neg w0, if_neg w0]
      by_cases w1 : w = 1
      · rw [if_pos w1, if_pos w1]
      · rw [if_neg w1, if_neg w1]
  · refine Or.inl ⟨Or.inr (Or.inr (Or.inr c4)), ?_⟩
    rw [if_neg c1, if_neg c2, if_neg c3, if_neg c4, bnd2_s rfl, if_neg (by decide)]
/-- rows that are free, rows that stand at the BAR's second digit -/
def fr (a b : Int) : Nat → Int × Int
  | 0 => (1, 1)
  | k + 1 => match fr a b k with
    | (x, y) => (br a b 0 * x + y, br a b 1 * x + (if 0 < b then x else y))
theorem fr_s (a b : Int) (k : Nat) : fr a b (k + 1) = (br a b 0 * (fr a b k).1 + (fr a b k).2, br a b 1 * (fr a b k).1 + (if 0 < b then (fr a b k).1 else (fr a b k).2)) := by rw [fr]
theorem fr_rc {a b : Int} : ∀ k : Nat, (fr a b k).1 = rc a b k ∧ (fr a b (k + 1)).1 = rc a b (k + 1) := by
  intro k
  have e0 : br a b 0 = tp a b := by unfold br tp; by_cases q : 0 < b <;> simp [q]
  induction k with
  | zero =>
    refine ⟨rfl, ?_⟩
    show br a b 0 * 1 + 1 = tp a b + 1
    rw [e0]; omega
  | succ k ih =>
    refine ⟨ih.2, ?_⟩
    rw [rc_s, ← ih.1, ← ih.2, fr_s a b (k + 1)]
    have h1 : (fr a b (k + 1)).1 = br a b 0 * (fr a b k).1 + (fr a b k).2 := by rw [fr_s]
    have h2 : (fr a b (k + 1)).2 = br a b 1 * (fr a b k).1 + (if 0 < b then (fr a b k).1 else (fr a b k).2) := by rw [fr_s]
    show br a b 0 * (fr a b (k + 1)).1 + (fr a b (k + 1)).2 = a * (fr a b (k + 1)).1 + b * (fr a b k).1
    have b0 : br a b 0 = if 0 < b then a else a - 1 := by unfold br; by_cases q : 0 < b <;> simp [q]
    have b1 : br a b 1 = if 0 < b then b - 1 else a + b - 1 := by unfold br; by_cases q : 0 < b <;> simp [q]
    by_cases q : 0 < b
    · rw [if_pos q] at b0 b1 h2
      rw [h2, b0, b1]; grind
    · rw [if_neg q] at b0 b1 h2
      rw [b0] at h1
      rw [h2, b0, b1]
      have h3 : (fr a b k).2 = (fr a b (k + 1)).1 - (a - 1) * (fr a b k).1 := by omega
      rw [h3]; grind
theorem VB.bar {a b : Int} (h : VB a b) (k : Nat) : 0 ≤ br a b k ∧ br a b k ≤ 9 := by
  unfold VB at h
  unfold br
  split <;> split <;> omega
theorem cnt0_loop {a b : Int} (hb : VB a b) {n : Nat} (hn : n ≤ 31) : ∀ (j m k : Nat) (be : Nat → Int64), k + j = n + 1 → 1 ≤ k → j + 1 ≤ m → (∀ i, i < k → be (2 * i) = J (fr a b i).1 ∧ be (2 * i + 1) = J (fr a b i).2) →
    ∃ be' : Nat → Int64, f_X12_count0_L16 (I (n : Int)) (I a) (I b) m (I (k : Int)) be = some be' ∧ ∀ i, i ≤ n → be' (2 * i) = J (fr a b i).1 ∧ be' (2 * i + 1) = J (fr a b i).2 := by
  intro j
  have k0 := hb.bar 0
  have k1 := hb.bar 1
  have hb' := hb
  unfold VB at hb'
  have rb : R31 b := ⟨by omega, by omega⟩
  have r0 : R31 0 := ⟨by omega, by omega⟩
  have c0 : (I b ≤ 0) ↔ b ≤ 0 := I_le rb r0
  have s0 : f_X12_bar (I a) (I b) 0 = some (I (br a b 0)) := (s_bar hb (k := 0) (by omega)).1
  have s1 : f_X12_bar (I a) (I b) 1 = some (I (br a b 1)) := (s_bar hb (k := 1) (by omega)).1
  induction j with
  | zero =>
    intro m k be hk h1 hm h
    obtain ⟨m, rfl⟩ : ∃ i, m = i + 1 := ⟨m - 1, by omega⟩
    rw [f_X12_count0_L16, if_pos ((In_lt (by omega) (by omega)).mpr (by omega))]
    exact ⟨be, rfl, fun i hi => h i (by omega)⟩
  | succ j ih =>
    intro m k be hk h1 hm h
    obtain ⟨m, rfl⟩ : ∃ i, m = i + 1 := ⟨m - 1, by omega⟩
    have c : ¬ I (n : Int) < I (k : Int) := fun q => by have := (In_lt (by omega) (by omega)).mp q; omega
    have e1 : 2 * I (k : Int) - 2 = I ((2 * (k - 1) : Nat) : Int) := by rw [show (2 : Int32) = I 2 from rfl, I_mul, I_sub]; congr 1; omega
    have e2 : 2 * I (k : Int) - 1 = I ((2 * (k - 1) + 1 : Nat) : Int) := by rw [show (2 : Int32) = I 2 from rfl, I1, I_mul, I_sub]; congr 1; omega
    have e4 : 2 * I (k : Int) + 1 = I ((2 * k + 1 : Nat) : Int) := by rw [show (2 : Int32) = I 2 from rfl, I1, I_mul, I_add]; congr 1
    have e3 : 2 * I (k : Int) = I ((2 * k : Nat) : Int) := by rw [show (2 : Int32) = I 2 from rfl, I_mul]; congr 1
    obtain ⟨h2, h3⟩ := h (k - 1) (by omega)
    have hf := fr_s a b (k - 1)
    rw [show k - 1 + 1 = k by omega] at hf
    rw [f_X12_count0_L16, if_neg c, e1, e2, e4, e3, gdI (by omega) (by omega) (by omega), gdI (by omega) (by omega) (by omega), bnd1_s s0, gdI (by omega) (by omega) (by omega), bnd1_s s1, gdI (by omega) (by omega) (by omega), I_at (n := 2 * (k - 1)) rfl (by omega), I_at (n := 2 * (k - 1) + 1) rfl (by omega), I_at (n := 2 * k) rfl (by omega), I_at (n := 2 * k + 1) rfl (by omega), h2, h3, I_J (by unfold R31; omega), I_J (by unfold R31; omega), I_s]
    simp only [J_mul, J_add]
    have step : ∀ (X Y : Int), X = (fr a b k).1 → Y = (fr a b k).2 → ∃ be' : Nat → Int64, f_X12_count0_L16 (I (n : Int)) (I a) (I b) m (I ((k + 1 : Nat) : Int)) (vp_updL (vp_updL be (2 * k) (J X)) (2 * k + 1) (J Y)) = some be' ∧ ∀ i, i ≤ n → be' (2 * i) = J (fr a b i).1 ∧ be' (2 * i + 1) = J (fr a b i).2 := by
      intro X Y hX hY
      refine ih m (k + 1) _ (by omega) (by omega) (by omega) (fun i hi => ?_)
      by_cases q : i = k
      · subst q
        rw [pk_uLn (by omega), pk_uLs, pk_uLs, hX, hY]; exact ⟨rfl, rfl⟩
      · rw [pk_uLn (by omega), pk_uLn (by omega), pk_uLn (by omega), pk_uLn (by omega)]
        exact h i (by omega)
    by_cases q : b ≤ 0
    · rw [if_pos (c0.mpr q)]
      exact step _ _ (by rw [hf]) (by rw [hf, if_neg (by omega : ¬ 0 < b)])
    · rw [if_neg (fun z => q (c0.mp z)), gdI (by omega) (by omega) (by omega)]
      exact step _ _ (by rw [hf]) (by rw [hf, if_pos (by omega : 0 < b)])
theorem s_count0 {a b : Int} (hb : VB a b) {n : Nat} (hn : n ≤ 31) (be : Nat → Int64) : ∃ be' : Nat → Int64, f_X12_count0 (I a) (I b) be (I (n : Int)) = some be' ∧ ∀ i, i ≤ n → be' (2 * i) = J (fr a b i).1 ∧ be' (2 * i + 1) = J (fr a b i).2 := by
  obtain ⟨be', x1, x2⟩ := cnt0_loop hb hn n FU 1 (vp_updL (vp_updL be 0 1) 1 1) (by omega) (by omega) (by rw [FU_eq]; omega) (fun i hi => by
    have : i = 0 := by omega
    subst this
    rw [pk_uLn (by decide), pk_uLs, pk_uLs]; exact ⟨rfl, rfl⟩)
  refine ⟨be', ?_, x2⟩
  unfold f_X12_count0
  rw [I0, I1, gdI (by omega) (by omega) (by omega), gdI (by omega) (by omega) (by omega)]
  have x1 : f_X12_count0_L16 (I (n : Int)) (I a) (I b) FU (I 1) (vp_updL (vp_updL be (I 0).toNatClampNeg 1) (I 1).toNatClampNeg 1) = some be' := x1
  rw [bnd1_s x1]
theorem s_rowCount {a b : Int} (hb : VB a b) {rC : Nat → Int64} (h : ∀ i, i < ccn a b → rC i = J (rc a b i)) {k : Nat} (hk : k < ccn a b) : f_X3_rowCount (I (ccn a b : Int)) rC (I (k : Int)) = some (J (rc a b k)) := by
  obtain ⟨h1, -, -⟩ := hb.rc
  unfold f_X3_rowCount
  have c1 : ¬ I (k : Int) < 0 := by rw [I0, I_lt (r31n (by omega)) ⟨by omega, by omega⟩]; omega
  have c2 : ¬ I (ccn a b : Int) ≤ I (k : Int) := fun q => by have := (In_le (by omega) (by omega)).mp q; omega
  rw [if_neg c1, if_neg c2, gdI (by omega) (by omega) (by omega), I_at rfl (by omega), h k hk]
theorem m_rows {a b : Int} (hb : VB a b) {rC : Nat → Int64} (h : ∀ i, i < ccn a b → rC i = J (rc a b i)) (th : Int32) (be : Nat → Int64) (l : Int32) :
    ((l < 0 ∨ ¬ l ≤ 16) ∧ f_X12_rows th (I a) (I b) be l = some (0, 1, be)) ∨ (¬ l < 0 ∧ l ≤ 16 ∧ ∃ (r : Int64) (be' : Nat → Int64), f_X3_rowCount (I (ccn a b : Int)) rC l = some r ∧ f_X12_rows th (I a) (I b) be l = some (r, 0, be')) := by
  unfold f_X12_rows
  rw [thr1, thr0]
  by_cases c1 : l < 0
  · refine Or.inl ⟨Or.inl c1, ?_⟩
    rw [if_pos c1, bnd2_s rfl, if_neg (by decide)]
  by_cases c2 : l ≤ 16
  · refine Or.inr ⟨c1, c2, ?_⟩
    rw [if_neg c1, if_pos c2, bnd2_s rfl, if_pos (show (0 : Int32) = 0 from rfl)]
    obtain ⟨z, hz, rfl⟩ := i32_cases l
    rw [I0, I_lt hz ⟨by omega, by omega⟩] at c1
    rw [show (16 : Int32) = I 16 from rfl, I_le hz ⟨by omega, by omega⟩] at c2
    obtain ⟨n, rfl⟩ : ∃ n : Nat, z = (n : Int) := ⟨z.toNat, by omega⟩
    obtain ⟨be', x1, x2⟩ := s_count0 hb (n := n) (by omega) be
    obtain ⟨-, h17, -⟩ := hb.rc
    have e3 : 2 * I (n : Int) = I ((2 * n : Nat) : Int) := by rw [show (2 : Int32) = I 2 from rfl, I_mul]; congr 1
    refine ⟨J (rc a b n), be', s_rowCount hb h (by omega), ?_⟩
    rw [bnd1_s x1, e3, gdI (by omega) (by omega) (by omega), I_at rfl (by omega), (x2 n (by omega)).1, (fr_rc n).1]
  · refine Or.inl ⟨Or.inr c2, ?_⟩
    rw [if_neg c1, if_neg c2, bnd2_s rfl, if_neg (by decide)]
