/-! one digit, in the class and in the reference -/
theorem step_e (u e : Int) (i : Nat) : u - (i : Int) * e - e = u - ((i + 1 : Nat) : Int) * e := by rw [Int.natCast_add, Int.add_mul]; omega
theorem peel_loop {a b : Int} (hb : VB a b) {pU pV : Nat → Int64} {k : Nat} (hk : k < 48) {u v d U V : Int} (e1 : pU k = J U) (e2 : pV k = J V) {c : Nat} (h : GD a b (d * U) (d * V) u v c) (hu : u.natAbs + 10 * (d * U).natAbs ≤ 600000000) (hv : v.natAbs + 10 * (d * V).natAbs ≤ 100000000) :
    ∀ (j m i : Nat), i + j = c → j + 1 ≤ m → f_X1_peel_L22 (I (k : Int)) (J d) (I a) (J (DD a b)) pU pV m (I (i : Int)) (I (tp a b - i)) (J (u - i * (d * U))) (J (v - i * (d * V))) = some (I (c : Int), J (u - c * (d * U)), J (v - c * (d * V))) := by
  obtain ⟨h1, h2, h3⟩ := h
  have ht := tp_b hb
  have r0 : R31 0 := ⟨by omega, by omega⟩
  intro j
  induction j with
  | zero =>
    intro m i hi hm
    obtain ⟨m, rfl⟩ : ∃ i, m = i + 1 := ⟨m - 1, by omega⟩
    have : i = c := by omega
    subst this
    rw [f_X1_peel_L22]
    by_cases q : I (tp a b - i) ≤ 0
    · rw [if_pos q]
    · have b1 := mul10 (i := i + 1) (e := d * U) (by omega)
      have b2 := mul10 (i := i + 1) (e := d * V) (by omega)
      have hh := s_holds hb hk (u := u - i * (d * U)) (v := v - i * (d * V)) (d := d) e1 e2 (by rw [step_e]; omega) (by rw [step_e]; omega)
      rw [step_e, step_e] at hh
      rw [if_neg q, bnd1_s (hh.2 h3), if_pos rfl]
  | succ j ih =>
    intro m i hi hm
    obtain ⟨m, rfl⟩ : ∃ i, m = i + 1 := ⟨m - 1, by omega⟩
    have q : ¬ I (tp a b - i) ≤ 0 := by rw [I0, I_le ⟨by omega, by omega⟩ r0]; omega
    have b1 := mul10 (i := i + 1) (e := d * U) (by omega)
    have b2 := mul10 (i := i + 1) (e := d * V) (by omega)
    have hh := s_holds hb hk (u := u - i * (d * U)) (v := v - i * (d * V)) (d := d) e1 e2 (by rw [step_e]; omega) (by rw [step_e]; omega)
    rw [step_e, step_e] at hh
    have e3 : I (tp a b - i) + (-1) = I (tp a b - ((i + 1 : Nat) : Int)) := by rw [Im1, I_add]; congr 1; omega
    rw [f_X1_peel_L22, if_neg q, bnd1_s (hh.1 (h2 i (by omega))), if_neg (by decide), gdI (by omega) (by omega) (by omega), gdI (by omega) (by omega) (by omega), I_at rfl (by omega), e1, e2, I_s, e3, J_mul, J_mul, J_sub, J_sub, step_e, step_e]
    exact ih m (i + 1) (by omega) (by omega)
theorem s_peel {a b : Int} (hb : VB a b) {pU pV : Nat → Int64} {k : Nat} (hk : k < pcn a b) {u v d U V : Int} (e1 : pU k = J U) (e2 : pV k = J V) {c : Nat} (h : GD a b (d * U) (d * V) u v c) (hu : u.natAbs + 10 * (d * U).natAbs ≤ 600000000) (hv : v.natAbs + 10 * (d * V).natAbs ≤ 100000000) :
    f_X1_peel (J u) (J v) (J d) (I a) (I b) (J (DD a b)) (I (pcn a b : Int)) pU pV (I (k : Int)) = some (I (c : Int), J (u - c * (d * U)), J (v - c * (d * V))) := by
  have hP := hb.pw.1
  have ht := tp_b hb
  have c1 : ¬ I (k : Int) < 0 := by rw [I0, I_lt (r31n (by omega)) ⟨by omega, by omega⟩]; omega
  have c2 : I (k : Int) < I (pcn a b : Int) := (In_lt (by omega) (by omega)).mpr hk
  have hc := h.1
  have x := peel_loop hb (k := k) (by omega) e1 e2 h hu hv c FU 0 (by omega) (by rw [FU_eq]; omega)
  rw [show tp a b - ((0 : Nat) : Int) = tp a b by omega, show u - ((0 : Nat) : Int) * (d * U) = u by omega, show v - ((0 : Nat) : Int) * (d * V) = v by omega] at x
  have x : f_X1_peel_L22 (I (k : Int)) (J d) (I a) (J (DD a b)) pU pV FU 0 (I (tp a b)) (J u) (J v) = _ := x
  unfold f_X1_peel
  rw [if_neg c1, if_pos c2, bnd1_s (s_top hb), bnd3_s x]
theorem l95_loop {a b : Int} (hb : VB a b) {u v d U V : Int} {c : Nat} (h : GD a b (d * U) (d * V) u v c) (hu : u.natAbs + 10 * (d * U).natAbs ≤ 600000000) (hv : v.natAbs + 10 * (d * V).natAbs ≤ 100000000) :
    ∀ (j m i : Nat), i + j = c → j + 1 ≤ m → f_X12_whole_L95 (J d) (J U) (J V) (I a) (I (DD a b)) m (J (u - i * (d * U))) (J (v - i * (d * V))) (J (i : Int)) = some (J (u - c * (d * U)), J (v - c * (d * V)), J (c : Int)) := by
  obtain ⟨h1, h2, h3⟩ := h
  have ht := tp_b hb
  intro j
  induction j with
  | zero =>
    intro m i hi hm
    obtain ⟨m, rfl⟩ : ∃ i, m = i + 1 := ⟨m - 1, by omega⟩
    have : i = c := by omega
    subst this
    have b1 := mul10 (i := i + 1) (e := d * U) (by omega)
    have b2 := mul10 (i := i + 1) (e := d * V) (by omega)
    obtain ⟨s, x1, x2, x3⟩ := s12 hb (p := u - ((i + 1 : Nat) : Int) * (d * U)) (q := v - ((i + 1 : Nat) : Int) * (d * V)) (by omega) (by omega)
    rw [f_X12_whole_L95, J_mul, J_mul, J_sub, J_sub, Int.mul_comm U d, Int.mul_comm V d, step_e, step_e, bnd1_s x1, if_pos (x3.mpr h3)]
  | succ j ih =>
    intro m i hi hm
    obtain ⟨m, rfl⟩ : ∃ i, m = i + 1 := ⟨m - 1, by omega⟩
    have b1 := mul10 (i := i + 1) (e := d * U) (by omega)
    have b2 := mul10 (i := i + 1) (e := d * V) (by omega)
    obtain ⟨s, x1, x2, x3⟩ := s12 hb (p := u - ((i + 1 : Nat) : Int) * (d * U)) (q := v - ((i + 1 : Nat) : Int) * (d * V)) (by omega) (by omega)
    rw [f_X12_whole_L95, J_mul, J_mul, J_sub, J_sub, Int.mul_comm U d, Int.mul_comm V d, step_e, step_e, bnd1_s x1, if_neg (fun z => x3.mp z (h2 i (by omega))), J1, J_add]
    exact ih m (i + 1) (by omega) (by omega)
theorem l155_loop {a b : Int} (hb : VB a b) {u v d U V : Int} {c : Nat} (h : GD a b (d * U) (d * V) u v c) (hu : u.natAbs + 10 * (d * U).natAbs ≤ 600000000) (hv : v.natAbs + 10 * (d * V).natAbs ≤ 100000000) :
    ∀ (j m i : Nat), i + j = c → j + 1 ≤ m → f_X12_rank_L155 (J d) (J U) (J V) (I a) (I (DD a b)) m (J (u - i * (d * U))) (J (v - i * (d * V))) (I (i : Int)) = some (J (u - c * (d * U)), J (v - c * (d * V)), I (c : Int)) := by
  obtain ⟨h1, h2, h3⟩ := h
  have ht := tp_b hb
  intro j
  induction j with
  | zero =>
    intro m i hi hm
    obtain ⟨m, rfl⟩ : ∃ i, m = i + 1 := ⟨m - 1, by omega⟩
    have : i = c := by omega
    subst this
    have b1 := mul10 (i := i + 1) (e := d * U) (by omega)
    have b2 := mul10 (i := i + 1) (e := d * V) (by omega)
    obtain ⟨s, x1, x2, x3⟩ := s12 hb (p := u - ((i + 1 : Nat) : Int) * (d * U)) (q := v - ((i + 1 : Nat) : Int) * (d * V)) (by omega) (by omega)
    rw [f_X12_rank_L155, J_mul, J_mul, J_sub, J_sub, Int.mul_comm U d, Int.mul_comm V d, step_e, step_e, bnd1_s x1, if_pos (x3.mpr h3)]
  | succ j ih =>
    intro m i hi hm
    obtain ⟨m, rfl⟩ : ∃ i, m = i + 1 := ⟨m - 1, by omega⟩
    have b1 := mul10 (i := i + 1) (e := d * U) (by omega)
    have b2 := mul10 (i := i + 1) (e := d * V) (by omega)
    obtain ⟨s, x1, x2, x3⟩ := s12 hb (p := u - ((i + 1 : Nat) : Int) * (d * U)) (q := v - ((i + 1 : Nat) : Int) * (d * V)) (by omega) (by omega)
    rw [f_X12_rank_L155, J_mul, J_mul, J_sub, J_sub, Int.mul_comm U d, Int.mul_comm V d, step_e, step_e, bnd1_s x1, if_neg (fun z => x3.mp z (h2 i (by omega))), I_s]
    exact ih m (i + 1) (by omega) (by omega)
theorem l242_loop {a b : Int} (hb : VB a b) {u v d : Int} {c : Nat} (h : GD a b d 0 u v c) (hu : u.natAbs + 10 * d.natAbs ≤ 600000000) (hv : v.natAbs ≤ 100000000) :
    ∀ (j m i : Nat), i + j = c → j + 1 ≤ m → f_X12_digits_L242 (J d) (J v) (I a) (I (DD a b)) m (J (u - i * d)) (J (i : Int)) = some (J (u - c * d), J (c : Int)) := by
  obtain ⟨h1, h2, h3⟩ := h
  have ht := tp_b hb
  simp only [Int.mul_zero, Int.sub_zero] at h2 h3
  intro j
  induction j with
  | zero =>
    intro m i hi hm
    obtain ⟨m, rfl⟩ : ∃ i, m = i + 1 := ⟨m - 1, by omega⟩
    have : i = c := by omega
    subst this
    have b1 := mul10 (i := i + 1) (e := d) (by omega)
    obtain ⟨s, x1, x2, x3⟩ := s12 hb (p := u - ((i + 1 : Nat) : Int) * d) (q := v) (by omega) (by omega)
    rw [f_X12_digits_L242, J_sub, step_e, bnd1_s x1, if_pos (x3.mpr h3)]
  | succ j ih =>
    intro m i hi hm
    obtain ⟨m, rfl⟩ : ∃ i, m = i + 1 := ⟨m - 1, by omega⟩
    have b1 := mul10 (i := i + 1) (e := d) (by omega)
    obtain ⟨s, x1, x2, x3⟩ := s12 hb (p := u - ((i + 1 : Nat) : Int) * d) (q := v) (by omega) (by omega)
    rw [f_X12_digits_L242, J_sub, step_e, bnd1_s x1, if_neg (fun z => x3.mp z (h2 i (by omega))), J1, J_add]
    exact ih m (i + 1) (by omega) (by omega)
/-- the greatest power that isn't above a NUMBER -/
def TopP (a b u v d : Int) (T : Nat) : Prop := T + 1 < pcn a b ∧ T < ccn a b ∧ T ≤ 30 ∧ ¬ nn a b (u - d * (pw a b (T + 1)).1) (v - d * (pw a b (T + 1)).2) ∧ ∀ k, k ≤ T → (d * (pw a b k).2).natAbs ≤ 720896 ∧ (d * (pw a b k).1).natAbs ≤ 721896
theorem pw_nb {a b : Int} (hb : VB a b) {u v d : Int} (hn : NB u v d) {k : Nat} (hk : k < 34) (h : (d * (pw a b k).2).natAbs ≤ 720896) : (d * (pw a b k).1).natAbs ≤ 721896 ∧ (d * (pw a b (k + 1)).2).natAbs ≤ 7300000 ∧ (d * (pw a b (k + 1)).1).natAbs ≤ 7300000 := by
  obtain ⟨k1, k2, k3, k4, k5⟩ := (VB_g hb).2 k hk
  have q := hn.b
  have hb' := hb
  unfold VB at hb'
  rw [pw_s]
  generalize (pw a b k).1 = U at *
  generalize (pw a b k).2 = V at *
  have h1 : (d * U).natAbs ≤ 721896 := by
    have e : (d * U).natAbs = d.natAbs * U.natAbs := Int.natAbs_mul _ _
    have e2 : (d * V).natAbs = d.natAbs * V.natAbs := Int.natAbs_mul _ _
    have e3 : d.natAbs * U.natAbs ≤ d.natAbs * (V.natAbs + 1) := Nat.mul_le_mul_left _ (by omega)
    rw [Nat.mul_add, Nat.mul_one] at e3
    omega
  have h2 := bm (x := a) (A := 9) (by omega) h
  have h3 := bm (x := b) (A := 9) (by omega) h
  have e4 : d * (U + a * V) = d * U + a * (d * V) := by grind
  have e5 : d * (b * V) = b * (d * V) := by grind
  refine ⟨h1, ?_, ?_⟩
  · show (d * (U + a * V)).natAbs ≤ 7300000
    rw [e4]; omega
  · show (d * (b * V)).natAbs ≤ 7300000
    rw [e5]; omega
