/-! the least member of a ROUND; the lists of ROUNDS -/
theorem s_first {n : Nat} (hn : n ≤ 401) {F : Nat → Int64} {k : Nat} (hk : k < n) : f_X9_firstAt (I (n : Int)) F (I (k : Int)) = some (F k) := by
  unfold f_X9_firstAt
  have c1 : ¬ I (k : Int) < 0 := by rw [I0, I_lt (r31n (by omega)) ⟨by omega, by omega⟩]; omega
  have c2 : ¬ I (n : Int) ≤ I (k : Int) := fun z => by have := (In_le (by omega) (by omega)).mp z; omega
  rw [if_neg c1, if_neg c2, gdI (by omega) (by omega) (by omega), I_at rfl (by omega)]
theorem s_second {n : Nat} (hn : n ≤ 401) {S : Nat → Int64} {k : Nat} (hk : k < n) : f_X9_secondAt (I (n : Int)) S (I (k : Int)) = some (S k) := by
  unfold f_X9_secondAt
  have c1 : ¬ I (k : Int) < 0 := by rw [I0, I_lt (r31n (by omega)) ⟨by omega, by omega⟩]; omega
  have c2 : ¬ I (n : Int) ≤ I (k : Int) := fun z => by have := (In_le (by omega) (by omega)).mp z; omega
  rw [if_neg c1, if_neg c2, gdI (by omega) (by omega) (by omega), I_at rfl (by omega)]
theorem least_loop {A L : Nat} (hAL : A + L ≤ 300) {F S : Nat → Int64} {wy wz : Nat → Int32} (hW : WY (A + L) F S wy wz) : ∀ (j m m' k x : Nat), k + j = A + L → j + 1 ≤ m → j + 1 ≤ m' → x < A + L →
    ∃ x' : Nat, x' < A + L ∧ f_X9_leastOf_L7 (I (A : Int)) (I (L : Int)) (I ((A + L : Nat) : Int)) F S m (I (x : Int)) (I (k : Int)) = some (I (x' : Int)) ∧ f_X12_keep_L10 (I (A : Int)) (I (L : Int)) wy wz m' (I (x : Int)) (I (k : Int)) = some (I (x' : Int)) := by
  have e : I (A : Int) + I (L : Int) = I ((A + L : Nat) : Int) := by rw [I_add]; congr 1
  intro j
  induction j with
  | zero =>
    intro m m' k x hk hm hm' h2
    obtain ⟨m, rfl⟩ : ∃ i, m = i + 1 := ⟨m - 1, by omega⟩
    obtain ⟨m', rfl⟩ : ∃ i, m' = i + 1 := ⟨m' - 1, by omega⟩
    have c : I ((A + L : Nat) : Int) ≤ I (k : Int) := (In_le (by omega) (by omega)).mpr (by omega)
    rw [f_X9_leastOf_L7, f_X12_keep_L10, e, if_pos c, if_pos c]
    exact ⟨x, h2, rfl, rfl⟩
  | succ j ih =>
    intro m m' k x hk hm hm' h2
    obtain ⟨m, rfl⟩ : ∃ i, m = i + 1 := ⟨m - 1, by omega⟩
    obtain ⟨m', rfl⟩ : ∃ i, m' = i + 1 := ⟨m' - 1, by omega⟩
    have c : ¬ I ((A + L : Nat) : Int) ≤ I (k : Int) := fun z => by have := (In_le (by omega) (by omega)).mp z; omega
    obtain ⟨m1, n1, a1, a2, a3, a4, a5, a6⟩ := hW k (by omega)
    obtain ⟨m2, n2, b1, b2, b3, b4, b5, b6⟩ := hW x h2
    have z0 : R63 0 := ⟨by omega, by omega⟩
    have q1 : (J m1 - J m2 < 0) ↔ m1 < m2 := by rw [J_sub, J0, J_lt ⟨by omega, by omega⟩ z0]; omega
    have q2 : (J m1 - J m2 = 0) ↔ m1 = m2 := by rw [J_sub, J0, J_eq ⟨by omega, by omega⟩ z0]; omega
    have q3 : (J n2 ≤ J n1) ↔ n2 ≤ n1 := J_le ⟨by omega, by omega⟩ ⟨by omega, by omega⟩
    have p1 : (I m1 < I m2) ↔ m1 < m2 := I_lt ⟨by omega, by omega⟩ ⟨by omega, by omega⟩
    have p2 : (I m1 = I m2) ↔ m1 = m2 := I_eq ⟨by omega, by omega⟩ ⟨by omega, by omega⟩
    have p3 : (I n2 ≤ I n1) ↔ n2 ≤ n1 := I_le ⟨by omega, by omega⟩ ⟨by omega, by omega⟩
    rw [f_X9_leastOf_L7, f_X12_keep_L10, e, if_neg c, if_neg c]
    simp only [gdI (a := (k : Int)) (n := 301) (by omega) (by omega) (by omega), gdI (a := (x : Int)) (n := 301) (by omega) (by omega) (by omega), I_at (a := (k : Int)) (n := k) rfl (by omega), I_at (a := (x : Int)) (n := x) rfl (by omega), I_s]
    rw [bnd1_s (s_first (by omega) (by omega)), bnd1_s (s_first (by omega) h2), bnd1_s (s_second (by omega) (by omega)), bnd1_s (s_second (by omega) h2), a1, a2, a3, a4, b1, b2, b3, b4]
    simp only [q1, q2, q3, p1, p2, p3]
    by_cases d1 : m1 < m2
    · rw [if_pos d1, if_pos d1]
      exact ih m m' (k + 1) k (by omega) (by omega) (by omega) (by omega)
    · rw [if_neg d1, if_neg d1]
      by_cases d2 : m1 = m2
      · rw [if_pos d2, if_pos d2]
        by_cases d3 : n2 ≤ n1
        · rw [if_pos d3, if_pos d3]
          exact ih m m' (k + 1) x (by omega) (by omega) (by omega) h2
        · rw [if_neg d3, if_neg d3]
          exact ih m m' (k + 1) k (by omega) (by omega) (by omega) (by omega)
      · rw [if_neg d2, if_neg d2]
        exact ih m m' (k + 1) x (by omega) (by omega) (by omega) h2
/-- the index of the least member, in both -/
theorem least_both {A L : Nat} (hAL : A + L ≤ 300) (hL : 1 ≤ L) {F S : Nat → Int64} {wy wz : Nat → Int32} (hW : WY (A + L) F S wy wz) : ∃ x' : Nat, x' < A + L ∧ f_X9_leastOf (I ((A + L : Nat) : Int)) F S (I (A : Int)) (I (L : Int)) = some (I (x' : Int)) ∧ f_X12_keep_L10 (I (A : Int)) (I (L : Int)) wy wz FU (I (A : Int)) (I (A : Int)) = some (I (x' : Int)) := by
  obtain ⟨x', h1, h2, h3⟩ := least_loop hAL hW (L - 1) FU (FU - 1) (A + 1) A (by omega) (by rw [FU_eq]; omega) (by rw [FU_eq]; omega) (by omega)
  refine ⟨x', h1, ?_, ?_⟩
  · unfold f_X9_leastOf
    rw [I_s, bnd1_s h2]
  · have hF : FU = (FU - 1) + 1 := by rw [FU_eq]
    have e : I (A : Int) + I (L : Int) = I ((A + L : Nat) : Int) := by rw [I_add]; congr 1
    have c : ¬ I ((A + L : Nat) : Int) ≤ I (A : Int) := fun z => by have := (In_le (by omega) (by omega)).mp z; omega
    rw [hF, f_X12_keep_L10, e, if_neg c]
    simp only [gdI (a := (A : Int)) (n := 301) (by omega) (by omega) (by omega), I_at (a := (A : Int)) (n := A) rfl (by omega), I_s]
    rw [if_neg (Int32.lt_irrefl), if_pos trivial, if_pos (Int32.le_refl _)]
    exact h3
def AG (n : Nat) (le ys zs rl ry rz : Nat → Int32) : Prop := ∀ k, k < n → le k = rl k ∧ ys k = ry k ∧ zs k = rz k
theorem find_loop {n : Nat} (hn : n ≤ 440) {le ys zs rl ry rz : Nat → Int32} (hA : AG n le ys zs rl ry rz) {x : Nat} (hx : x ≤ 300) {wy wz : Nat → Int32} : ∀ (j m m' k : Nat), k + j = n → j + 1 ≤ m → j + 1 ≤ m' →
    ∃ i : Nat, i ≤ n ∧ f_X4_include_L3 (wy x) (wz x) (I (n : Int)) ys zs m (I (k : Int)) = some (I (i : Int)) ∧ f_X12_keep_L78 (I (x : Int)) (I (n : Int)) wy wz ry rz m' (I (k : Int)) = some (I (i : Int)) := by
  intro j
  induction j with
  | zero =>
    intro m m' k hk hm hm'
    obtain ⟨m, rfl⟩ : ∃ i, m = i + 1 := ⟨m - 1, by omega⟩
    obtain ⟨m', rfl⟩ : ∃ i, m' = i + 1 := ⟨m' - 1, by omega⟩
    have c : I (n : Int) ≤ I (k : Int) := (In_le (by omega) (by omega)).mpr (by omega)
    rw [f_X4_include_L3, f_X12_keep_L78, if_pos c, if_pos c]
    exact ⟨k, by omega, rfl, rfl⟩
  | succ j ih =>
    intro m m' k hk hm hm'
    obtain ⟨m, rfl⟩ : ∃ i, m = i + 1 := ⟨m - 1, by omega⟩
    obtain ⟨m', rfl⟩ : ∃ i, m' = i + 1 := ⟨m' - 1, by omega⟩
    have c : ¬ I (n : Int) ≤ I (k : Int) := fun z => by have := (In_le (by omega) (by omega)).mp z; omega
    obtain ⟨-, a2, a3⟩ := hA k (by omega)
    have hih := ih m m' (k + 1) (by omega) (by omega) (by omega)
    unfold f_X4_include_L3 f_X4_isLess
    rw [f_X12_keep_L78]
    simp only [if_neg c, gdI (a := (k : Int)) (n := 441) (by omega) (by omega) (by omega), gdI (a := (k : Int)) (n := 450) (by omega) (by omega) (by omega), gdI (a := (x : Int)) (n := 301) (by omega) (by omega) (by omega), I_at (a := (k : Int)) (n := k) rfl (by omega), I_at (a := (x : Int)) (n := x) rfl (by omega), I_s, a2, a3]
    by_cases d1 : ry k < wy x
    · rw [if_pos d1, if_pos d1, bnd1_s rfl, if_neg (by decide)]; exact hih
    · rw [if_neg d1, if_neg d1]
      by_cases d2 : ry k = wy x
      · rw [if_pos d2, if_pos d2]
        by_cases d3 : wz x ≤ rz k
        · rw [if_pos d3, if_pos d3, bnd1_s rfl, if_pos rfl]
          exact ⟨k, by omega, rfl, rfl⟩
        · rw [if_neg d3, if_neg d3, bnd1_s rfl, if_neg (by decide)]; exact hih
      · rw [if_neg d2, if_neg d2, bnd1_s rfl, if_pos rfl]
        exact ⟨k, by omega, rfl, rfl⟩
theorem shift_loop {n i : Nat} (hn : n ≤ 440) : ∀ (j m m' : Nat) (le ys zs rl ry rz : Nat → Int32), i + j ≤ n → j + 1 ≤ m → j + 1 ≤ m' → (∀ x, x ≤ n → x ≠ i + j → le x = rl x ∧ ys x = ry x ∧ zs x = rz x) →
    ∃ le' ys' zs' rl' ry' rz' : Nat → Int32, f_X4_include_L89 (I (i : Int)) m (I ((i + j : Nat) : Int)) le ys zs = some (le', ys', zs') ∧ f_X12_keep_L181 (I (i : Int)) m' (I ((i + j : Nat) : Int)) rl ry rz = some (rl', ry', rz') ∧ ∀ x, x ≤ n → x ≠ i → le' x = rl' x ∧ ys' x = ry' x ∧ zs' x = rz' x := by
  intro j
  induction j with
  | zero =>
    intro m m' le ys zs rl ry rz hj hm hm' h
    obtain ⟨m, rfl⟩ : ∃ i, m = i + 1 := ⟨m - 1, by omega⟩
    obtain ⟨m', rfl⟩ : ∃ i, m' = i + 1 := ⟨m' - 1, by omega⟩
    have c : I ((i + 0 : Nat) : Int) ≤ I (i : Int) := (In_le (by omega) (by omega)).mpr (by omega)
    rw [f_X4_include_L89, f_X12_keep_L181, if_pos c, if_pos c]
    exact ⟨le, ys, zs, rl, ry, rz, rfl, rfl, fun x h1 h2 => h x h1 (by omega)⟩
  | succ j ih =>
    intro m m' le ys zs rl ry rz hj hm hm' h
    obtain ⟨m, rfl⟩ : ∃ i, m = i + 1 := ⟨m - 1, by omega⟩
    obtain ⟨m', rfl⟩ : ∃ i, m' = i + 1 := ⟨m' - 1, by omega⟩
    have c : ¬ I ((i + (j + 1) : Nat) : Int) ≤ I (i : Int) := fun z => by have := (In_le (by omega) (by omega)).mp z; omega
    have e1 : I ((i + (j + 1) : Nat) : Int) - 1 = I ((i + j : Nat) : Int) := by rw [I1, I_sub]; congr 1; omega
    have e2 : I ((i + (j + 1) : Nat) : Int) + (-1) = I ((i + j : Nat) : Int) := by rw [Im1, I_add]; congr 1; omega
    rw [f_X4_include_L89, f_X12_keep_L181, if_neg c, if_neg c, e1, e2]
    simp only [gdI (a := ((i + j : Nat) : Int)) (n := 441) (by omega) (by omega) (by omega), gdI (a := ((i + (j + 1) : Nat) : Int)) (n := 441) (by omega) (by omega) (by omega), gdI (a := ((i + j : Nat) : Int)) (n := 450) (by omega) (by omega) (by omega), gdI (a := ((i + (j + 1) : Nat) : Int)) (n := 450) (by omega) (by omega) (by omega), I_at (a := ((i + j : Nat) : Int)) (n := i + j) rfl (by omega), I_at (a := ((i + (j + 1) : Nat) : Int)) (n := i + (j + 1)) rfl (by omega)]
    obtain ⟨h1, h2, h3⟩ := h (i + j) (by omega) (by omega)
    rw [h1, h2, h3]
    refine ih m m' _ _ _ _ _ _ (by omega) (by omega) (by omega) (fun x hx hne => ?_)
    by_cases e : x = i + (j + 1)
    · subst e; rw [pk_us, pk_us, pk_us, pk_us, pk_us, pk_us]; exact ⟨rfl, rfl, rfl⟩
    · rw [pk_un e, pk_un e, pk_un e, pk_un e, pk_un e, pk_un e]; exact h x hx e
/-- a ROUND is put into both lists, or it was there -/
theorem list_put {n : Nat} (hn : n ≤ 440) {le ys zs rl ry rz : Nat → Int32} (hA : AG n le ys zs rl ry rz) {A L : Nat} (hAL : A + L ≤ 300) (hL : 1 ≤ L) {F S : Nat → Int64} {wy wz : Nat → Int32} (hW : WY (A + L) F S wy wz) (en kd : Int32) (hkd : ¬ kd = 0) :
    ∃ (n' : Nat) (le' ys' zs' rl' ry' rz' : Nat → Int32), n' ≤ n + 1 ∧ f_X11_noteOutcome en (I ((A + L : Nat) : Int)) F S kd (I (A : Int)) (I (L : Int)) (I (n : Int)) le ys zs = some (en, I (n' : Int), le', ys', zs') ∧ f_X12_keep (I (A : Int)) (I (L : Int)) (I (n : Int)) wy wz rl ry rz = some (I (n' : Int), rl', ry', rz') ∧ AG n' le' ys' zs' rl' ry' rz' := by
  obtain ⟨x, x1, x2, x3⟩ := least_both hAL hL hW
  obtain ⟨m, w, a1, a2, a3, a4, a5, a6⟩ := hW x x1
  obtain ⟨i, i1, i2, i3⟩ := find_loop hn hA (x := x) (by omega) (wy := wy) (wz := wz) n FU FU 0 (by omega) (by rw [FU_eq]; omega) (by rw [FU_eq]; omega)
  have i2 : f_X4_include_L3 (wy x) (wz x) (I (n : Int)) ys zs FU 0 = some (I (i : Int)) := i2
  have i3 : f_X12_keep_L78 (I (x : Int)) (I (n : Int)) wy wz ry rz FU 0 = some (I (i : Int)) := i3
  have ht1 : (F x).toInt32 = wy x := by rw [a1, a3, J_I]
  have ht2 : (S x).toInt32 = wz x := by rw [a2, a4, J_I]
  obtain ⟨le', ys', zs', rl', ry', rz', s1, s2, s3⟩ := shift_loop (n := n) (i := i) hn (n - i) FU FU le ys zs rl ry rz (by omega) (by rw [FU_eq]; omega) (by rw [FU_eq]; omega) (fun y h1 h2 => hA y (by omega))
  rw [show i + (n - i) = n by omega] at s1 s2
  have c1 : I (n : Int) < 441 := by rw [show (441 : Int32) = I ((441 : Nat) : Int) from rfl, In_lt (by omega) (by omega)]; omega
  have new : AG (n + 1) (upd le' i (I (L : Int))) (upd ys' i (wy x)) (upd zs' i (wz x)) (upd rl' i (I (L : Int))) (upd ry' i (wy x)) (upd rz' i (wz x)) := by
    intro y hy
    by_cases e : y = i
    · subst e; rw [pk_us, pk_us, pk_us, pk_us, pk_us, pk_us]; exact ⟨rfl, rfl, rfl⟩
    · rw [pk_un e, pk_un e, pk_un e, pk_un e, pk_un e, pk_un e]; exact s3 y (by omega) e
  unfold f_X11_noteOutcome f_X12_keep f_X4_include
  rw [if_neg hkd, bnd1_s x2, bnd1_s (s_first (by omega) x1), bnd1_s (s_second (by omega) x1), ht1, ht2, bnd1_s i2, bnd1_s x3, bnd1_s i3, if_pos c1]
  simp only [gdI (a := (i : Int)) (n := 441) (by omega) (by omega) (by omega), gdI (a := (i : Int)) (n := 450) (by omega) (by omega) (by omega), gdI (a := (x : Int)) (n := 301) (by omega) (by omega) (by omega), I_at (a := (i : Int)) (n := i) rfl (by omega), I_at (a := (x : Int)) (n := x) rfl (by omega), I_s]
  rw [bnd3_s s1, bnd3_s s2]
  by_cases c : I (n : Int) ≤ I (i : Int)
  · rw [if_pos c, if_pos c, bnd4_s rfl]
    exact ⟨n + 1, _, _, _, _, _, _, by omega, rfl, rfl, new⟩
  · have hi : i < n := by
      rcases Nat.lt_or_ge i n with z | z
      · exact z
      · exact absurd ((In_le (by omega) (by omega)).mpr z) c
    obtain ⟨h1, h2, h3⟩ := hA i hi
    rw [if_neg c, if_neg c, h2, h3]
    by_cases d1 : ry i = wy x
    · rw [if_pos d1, if_pos d1]
      by_cases d2 : rz i = wz x
      · rw [if_pos d2, if_pos d2, bnd4_s rfl]
        exact ⟨n, _, _, _, _, _, _, by omega, rfl, rfl, hA⟩
      · rw [if_neg d2, if_neg d2, bnd4_s rfl]
        exact ⟨n + 1, _, _, _, _, _, _, by omega, rfl, rfl, new⟩
    · rw [if_neg d1, if_neg d1, bnd4_s rfl]
      exact ⟨n + 1, _, _, _, _, _, _, by omega, rfl, rfl, new⟩
