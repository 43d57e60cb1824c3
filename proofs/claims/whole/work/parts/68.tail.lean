/-! the digits behind the point: bounds, the search of the reference -/
theorem x_lo {a b : Int} (hb : VB a b) : (0 < b → nn a b (-a) 1) ∧ (b < 0 → nn a b a (-1)) := by
  have hD : DD a b = a * a + 4 * b := rfl
  have hb' := hb
  unfold VB at hb'
  constructor
  · intro h
    rw [nn_sq hb]
    right
    refine ⟨by omega, ?_⟩
    have e : (2 * -a + a * 1) * (2 * -a + a * 1) = a * a := by grind
    have e2 : DD a b * 1 * 1 = DD a b := by omega
    omega
  · intro h
    rw [nn_sq hb]
    left
    refine ⟨by omega, ?_⟩
    have e : (2 * a + a * -1) * (2 * a + a * -1) = a * a := by grind
    have e2 : DD a b * -1 * -1 = DD a b := by omega
    omega
theorem nn_cancel {a b : Int} (hb : VB a b) {p q r s : Int} (i j : Nat) (h1 : nn a b p q) (h2 : nn a b r s) (e : (i : Int) * q + j * s = 0) : 0 ≤ (i : Int) * p + j * r := by
  have := nn_add hb (nn_smul hb h1 i) (nn_smul hb h2 j)
  rw [e, nn_int hb] at this
  exact this
theorem tail_q {a b : Int} (hb : VB a b) {u v d : Int} {M : Nat} (hd : 1 ≤ d) (hdM : 11 * d ≤ M) (h1 : nn a b u v) (h2 : ¬ nn a b (u - d) v) (hv : v.natAbs ≤ M) : (u + a * v).natAbs ≤ M := by
  obtain ⟨⟨-, -, g1, g2⟩, -⟩ := VB_g hb
  obtain ⟨x1, x2⟩ := x_lo hb
  have h3 := ng_neg h2
  have hb' := hb
  unfold VB at hb'
  rcases sgn_cases v with ⟨n, rfl⟩ | ⟨n, hn, rfl⟩
  · have e0 : a * (n : Int) = (n : Int) * a := Int.mul_comm _ _
    have e1 : (n : Int) * (11 * a + 10) = 11 * (n * a) + 10 * n := by grind
    have e2 : (n : Int) * (10 - 11 * a) = 10 * n - 11 * (n * a) := by grind
    have e3 : (n : Int) * -a = -(n * a) := Int.mul_neg _ _
    rcases (show b < 0 ∨ 0 < b by omega) with c | c
    · have k1 := nn_cancel hb 1 n h1 (x2 c) (by omega)
      have k2 := nn_cancel hb 11 n h3 (g2 c) (by omega)
      rw [e2] at k2
      rw [e0]
      generalize (n : Int) * a = x at *
      omega
    · have k1 := nn_cancel hb 11 n h1 g1 (by omega)
      have k2 := nn_cancel hb 1 n h3 (x1 c) (by omega)
      rw [e1] at k1
      rw [e3] at k2
      rw [e0]
      generalize (n : Int) * a = x at *
      omega
  · have e0 : a * -(n : Int) = -((n : Int) * a) := by grind
    have e1 : (n : Int) * (11 * a + 10) = 11 * (n * a) + 10 * n := by grind
    have e2 : (n : Int) * (10 - 11 * a) = 10 * n - 11 * (n * a) := by grind
    have e3 : (n : Int) * -a = -(n * a) := Int.mul_neg _ _
    rcases (show b < 0 ∨ 0 < b by omega) with c | c
    · have k1 := nn_cancel hb 11 n h1 (g2 c) (by omega)
      have k2 := nn_cancel hb 1 n h3 (x2 c) (by omega)
      rw [e2] at k1
      rw [e0]
      generalize (n : Int) * a = x at *
      omega
    · have k1 := nn_cancel hb 1 n h1 (x1 c) (by omega)
      have k2 := nn_cancel hb 11 n h3 g1 (by omega)
      rw [e1] at k2
      rw [e3] at k1
      rw [e0]
      generalize (n : Int) * a = x at *
      omega
def TI (a b d u v : Int) : Prop := nn a b u v ∧ ¬ nn a b (u - d) v ∧ u.natAbs ≤ 527000000 ∧ v.natAbs ≤ 58547536
theorem tail_step {a b : Int} (hb : VB a b) {u v d : Int} (hd : 1 ≤ d ∧ d ≤ 1000) (h : TI a b d u v) : ∃ c : Nat, GD a b (d * 1) (d * 0) (b * v) (u + a * v) c ∧ GD a b d 0 (b * v) (u + a * v) c ∧ TI a b d (b * v - c * d) (u + a * v) ∧ (b * v).natAbs + 10 * (d * 1).natAbs ≤ 600000000 ∧ (u + a * v).natAbs + 10 * (d * 0).natAbs ≤ 100000000 := by
  obtain ⟨h1, h2, h3, h4⟩ := h
  have hq := tail_q hb (M := 58547536) hd.1 (by omega) h1 h2 h4
  have hb' := hb
  unfold VB at hb'
  have hp := bm (x := b) (A := 9) (by omega) h4
  have k1 := nn_x hb h1
  have k2 := ng_x hb h2
  have k3 : ¬ nn a b (b * v - d * (pw a b (0 + 1)).1) (u + a * v - d * (pw a b (0 + 1)).2) := by
    rw [pw_s, pw0]
    show ¬ nn a b (b * v - d * (b * 0)) (u + a * v - d * (1 + a * 0))
    rw [show b * v - d * (b * 0) = b * v by rw [Int.mul_zero, Int.mul_zero]; omega, show u + a * v - d * (1 + a * 0) = u - d + a * v by rw [Int.mul_zero]; omega]
    exact k2
  obtain ⟨c, hc⟩ := GD_ex hb hd.1 (k := 0) (by omega) k3
  have hc : GD a b (d * 1) (d * 0) (b * v) (u + a * v) c := hc
  have hc2 : GD a b d 0 (b * v) (u + a * v) c := by rw [Int.mul_one, Int.mul_zero] at hc; exact hc
  obtain ⟨r1, r2⟩ := GD_rest hc2 k1
  rw [Int.mul_zero, Int.sub_zero] at r1 r2
  rw [Int.sub_zero] at r2
  have ht := tp_b hb
  have hc1 := hc.1
  have b1 := mul10 (i := c) (e := d) (by omega)
  refine ⟨c, hc, hc2, ⟨r1, r2, by omega, hq⟩, ?_, ?_⟩
  · rw [Int.mul_one]; omega
  · rw [Int.mul_zero]; omega
theorem l116_loop {k : Nat} (hk : k ≤ 400) {LU LV : Nat → Int64} : ∀ (j m p : Nat), p + j = k → j + 1 ≤ m → (∀ i, i < p → ¬ (LU i = LU k ∧ LV i = LV k)) →
    (∃ i : Nat, i < k ∧ LU i = LU k ∧ LV i = LV k ∧ f_X12_digits_L116 (I (k : Int)) LU LV m (I (p : Int)) = some (0, I (i : Int))) ∨ ((∀ i, i < k → ¬ (LU i = LU k ∧ LV i = LV k)) ∧ f_X12_digits_L116 (I (k : Int)) LU LV m (I (p : Int)) = some (1, I (k : Int))) := by
  intro j
  induction j with
  | zero =>
    intro m p hp hm h
    obtain ⟨m, rfl⟩ : ∃ i, m = i + 1 := ⟨m - 1, by omega⟩
    have : p = k := by omega
    subst this
    refine Or.inr ⟨h, ?_⟩
    rw [f_X12_digits_L116, if_pos ((In_le (by omega) (by omega)).mpr (by omega))]
  | succ j ih =>
    intro m p hp hm h
    obtain ⟨m, rfl⟩ : ∃ i, m = i + 1 := ⟨m - 1, by omega⟩
    have c : ¬ I (k : Int) ≤ I (p : Int) := fun z => by have := (In_le (by omega) (by omega)).mp z; omega
    rw [f_X12_digits_L116, if_neg c]
    simp only [gdI (a := (k : Int)) (n := 401) (by omega) (by omega) (by omega), gdI (a := (p : Int)) (n := 401) (by omega) (by omega) (by omega), I_at (a := (k : Int)) (n := k) rfl (by omega), I_at (a := (p : Int)) (n := p) rfl (by omega), I_s]
    have go : ¬ (LU p = LU k ∧ LV p = LV k) → _ := fun hne => ih m (p + 1) (by omega) (by omega) (fun i hi => by
      by_cases q : i = p
      · subst q; exact hne
      · exact h i (by omega))
    by_cases a1 : LU p = LU k
    · by_cases a2 : LV p = LV k
      · rw [if_pos a1, if_pos a2]
        exact Or.inl ⟨p, by omega, a1, a2, rfl⟩
      · rw [if_pos a1, if_neg a2]
        exact go (fun z => a2 z.2)
    · rw [if_neg a1]
      exact go (fun z => a1 z.1)
