/-! the reference's powers -/
def okU (a b : Int) (k : Nat) : Prop := ∀ x, x ≤ k → inB (pw a b x).1 (pw a b x).2 1
def okD (a b : Int) (k : Nat) : Prop := ∀ x, x ≤ k → inB (dn a b x).1 (dn a b x).2.1 (dn a b x).2.2
theorem ok0 (a b : Int) : okU a b 0 ∧ okD a b 0 := by
  constructor
  · intro x hx
    rw [show x = 0 by omega]
    show inB 1 0 1
    unfold inB; omega
  · intro x hx
    rw [show x = 0 by omega]
    show inB 1 0 1
    unfold inB; omega
theorem bz0 : bz 0 = true := by decide
theorem bz1 : bz 1 = true := by decide
theorem t_up {a b : Int} (hb : VB a b) {k : Nat} (hB : inB (pw a b k).1 (pw a b k).2 1) : f_X12_times (I a) (I b) (J (pw a b k).1) (J (pw a b k).2) (J 1) 0 1 1 = some (J (pw a b (k + 1)).1, J (pw a b (k + 1)).2, J 1) ∧ R63 (pw a b (k + 1)).1 ∧ R63 (pw a b (k + 1)).2 := by
  have hb' := hb
  unfold VB at hb'
  have ra : R31 a := ⟨by omega, by omega⟩
  have rb : R31 b := ⟨by omega, by omega⟩
  unfold inB at hB
  have k1 := bm (x := b) (y := (pw a b k).2) (A := 9) (B := 65536) (by omega) (by omega)
  have k2 := bm (x := a) (y := (pw a b k).2) (A := 9) (B := 65536) (by omega) (by omega)
  have hps := pw_s a b k
  have bu : B62 (pw a b (k + 1)).1 := by rw [hps]; show B62 (b * (pw a b k).2); unfold B62; omega
  have bv : B62 (pw a b (k + 1)).2 := by rw [hps]; show B62 ((pw a b k).1 + a * (pw a b k).2); unfold B62; omega
  have hset := (s_X12_set (tu := J (pw a b k).1) (tv := J (pw a b k).2) (td := J 1) bu bv (show B62 1 by unfold B62; omega) (by omega)).1 (by omega)
  rw [g3_1, Int.tdiv_one, Int.tdiv_one, Int.tdiv_one] at hset
  refine ⟨?_, bu.r, bv.r⟩
  unfold f_X12_times
  rw [bnd3_eta, I_J ra, I_J rb, J0, J1]
  simp only [J_mul, J_add]
  rw [show (pw a b k).1 * 0 + (pw a b k).2 * 1 * b = (pw a b (k + 1)).1 by rw [hps]; show _ = b * (pw a b k).2; grind, show (pw a b k).1 * 1 + (pw a b k).2 * 0 + (pw a b k).2 * 1 * a = (pw a b (k + 1)).2 by rw [hps]; show _ = (pw a b k).1 + a * (pw a b k).2; grind, show (1 : Int) * 1 = 1 from rfl]
  exact hset
theorem t_dn {a b : Int} (hb : VB a b) {k : Nat} (hB : inB (dn a b k).1 (dn a b k).2.1 (dn a b k).2.2) : f_X12_times (I a) (I b) (J (dn a b k).1) (J (dn a b k).2.1) (J (dn a b k).2.2) ((-I a).toInt64) 1 (I b).toInt64 = some (J (dn a b (k + 1)).1, J (dn a b (k + 1)).2.1, J (dn a b (k + 1)).2.2) ∧ R63 (dn a b (k + 1)).1 ∧ R63 (dn a b (k + 1)).2.1 ∧ R63 (dn a b (k + 1)).2.2 := by
  have hb' := hb
  unfold VB at hb'
  have ra : R31 a := ⟨by omega, by omega⟩
  have rb : R31 b := ⟨by omega, by omega⟩
  have ht := tn_b hb
  have hd1 := (dn_nf hb k).1
  obtain ⟨u, v, d, e⟩ : ∃ u v d, dn a b k = (u, v, d) := ⟨_, _, _, rfl⟩
  rw [e] at hB hd1
  have hd1 : 1 ≤ d := hd1
  have hB : inB u v d := hB
  obtain ⟨b1, b2, b3, b4⟩ := dn_bd hb (u := u) (v := v) (d := d) hB hd1
  rw [dn_s a b k e, e]
  refine ⟨?_, b1.q.r, b2.q.r, b3.q.r⟩
  unfold f_X12_times
  rw [bnd3_eta, I_neg, I_J ra, I_J rb, I_J (show R31 (-a) from ⟨by omega, by omega⟩), J1]
  simp only [J_mul, J_add]
  unfold inB at hB
  have k1 := bm (x := b) (y := v) (A := 9) (B := 65536) (by omega) (by omega)
  have k2 := bm (x := a) (y := u) (A := 9) (B := 65536) (by omega) (by omega)
  have k3 := bm (x := d) (y := b) (A := 1000) (B := 9) (by omega) (by omega)
  have c1 : u * -a + v * 1 * b = b * v - a * u := by grind
  have c2 : u * 1 + v * -a + v * 1 * a = u := by grind
  show f_X12_set (J u) (J v) (J d) (J (u * -a + v * 1 * b)) (J (u * 1 + v * -a + v * 1 * a)) (J (d * b)) = _
  rw [c1, c2]
  refine nf_both (c := tn b) ?_ rfl rfl ?_ b4 ?_ ?_ ?_
  · rcases ht.2.1 with z | z <;> rw [z] <;> decide
  · grind
  · unfold B62; omega
  · unfold B62; omega
  · unfold B62; omega
theorem pow_up {a b : Int} (hb : VB a b) {e : Nat} (he : e ≤ 250) : ∀ (j m i : Nat), i + j = e → j + 2 ≤ m → okU a b i →
    (okU a b e → f_X12_power_L11 (I (e : Int)) (I a) (I b) m 1 (I (i : Int)) (J (pw a b i).1) (J (pw a b i).2) (J 1) = some (1, J (pw a b e).1, J (pw a b e).2, J 1)) ∧ (¬ okU a b e → ∃ u v d : Int64, f_X12_power_L11 (I (e : Int)) (I a) (I b) m 1 (I (i : Int)) (J (pw a b i).1) (J (pw a b i).2) (J 1) = some (0, u, v, d)) := by
  have c0 : (0 : Int32) ≤ I (e : Int) := by rw [I0, I_le ⟨by omega, by omega⟩ (r31n (by omega))]; omega
  intro j
  induction j with
  | zero =>
    intro m i hi hm hok
    obtain ⟨m, rfl⟩ : ∃ i, m = i + 1 := ⟨m - 1, by omega⟩
    have : i = e := by omega
    subst this
    refine ⟨fun _ => ?_, fun h => absurd hok h⟩
    rw [f_X12_power_L11, if_pos c0, if_pos (Int32.le_refl _)]
  | succ j ih =>
    intro m i hi hm hok
    obtain ⟨m, rfl⟩ : ∃ i, m = i + 1 := ⟨m - 1, by omega⟩
    have c1 : ¬ I (e : Int) ≤ I (i : Int) := fun z => by have := (In_le (by omega) (by omega)).mp z; omega
    have c2 : ¬ I (e : Int) ≤ 0 := by rw [I0, I_le (r31n (by omega)) ⟨by omega, by omega⟩]; omega
    obtain ⟨t1, t2, t3⟩ := t_up hb (hok i (by omega))
    have hn := s_X12_isNumber t2 t3 (show R63 1 from ⟨by omega, by omega⟩)
    have e1 : ∀ r : Int32, f_X12_isNumber (J (pw a b (i + 1)).1) (J (pw a b (i + 1)).2) (J 1) = some r → f_X12_power_L11 (I (e : Int)) (I a) (I b) (m + 1) 1 (I (i : Int)) (J (pw a b i).1) (J (pw a b i).2) (J 1) = f_X12_power_L11 (I (e : Int)) (I a) (I b) m r (I ((i + 1 : Nat) : Int)) (J (pw a b (i + 1)).1) (J (pw a b (i + 1)).2) (J 1) := by
      intro r hr
      rw [f_X12_power_L11, if_pos c0, if_neg c1, if_neg (show ¬ (1 : Int32) = 0 by decide), if_neg c2, bnd3_s t1, bnd1_s hr, I_s]
    rcases inB_dec (pw a b (i + 1)).1 (pw a b (i + 1)).2 1 with q | q
    · rw [e1 1 (hn.1 q)]
      exact ih m (i + 1) (by omega) (by omega) (fun x hx => by
        by_cases z : x = i + 1
        · subst z; exact q
        · exact hok x (by omega))
    · rw [e1 0 (hn.2 q)]
      refine ⟨fun h => absurd (h (i + 1) (by omega)) q, fun _ => ?_⟩
      obtain ⟨m, rfl⟩ : ∃ i, m = i + 1 := ⟨m - 1, by omega⟩
      rw [f_X12_power_L11, if_pos c0]
      split
      · exact ⟨_, _, _, rfl⟩
      · rw [if_pos rfl]; exact ⟨_, _, _, rfl⟩
theorem pow_dn {a b : Int} (hb : VB a b) {e : Nat} (he : e ≤ 250) (he1 : 1 ≤ e) : ∀ (j m i : Nat), i + j = e → j + 2 ≤ m → okD a b i →
    (okD a b e → f_X12_power_L11 (I (-(e : Int))) (I a) (I b) m 1 (I (i : Int)) (J (dn a b i).1) (J (dn a b i).2.1) (J (dn a b i).2.2) = some (1, J (dn a b e).1, J (dn a b e).2.1, J (dn a b e).2.2)) ∧ (¬ okD a b e → ∃ u v d : Int64, f_X12_power_L11 (I (-(e : Int))) (I a) (I b) m 1 (I (i : Int)) (J (dn a b i).1) (J (dn a b i).2.1) (J (dn a b i).2.2) = some (0, u, v, d)) := by
  have c0 : ¬ (0 : Int32) ≤ I (-(e : Int)) := by rw [I0, I_le ⟨by omega, by omega⟩ ⟨by omega, by omega⟩]; omega
  have cn : -I (-(e : Int)) = I (e : Int) := by rw [I_neg]; congr 1; omega
  have c2 : I (-(e : Int)) ≤ 0 := by rw [I0, I_le ⟨by omega, by omega⟩ ⟨by omega, by omega⟩]; omega
  intro j
  induction j with
  | zero =>
    intro m i hi hm hok
    obtain ⟨m, rfl⟩ : ∃ i, m = i + 1 := ⟨m - 1, by omega⟩
    have : i = e := by omega
    subst this
    refine ⟨fun _ => ?_, fun h => absurd hok h⟩
    rw [f_X12_power_L11, if_neg c0, cn, if_pos (Int32.le_refl _)]
  | succ j ih =>
    intro m i hi hm hok
    obtain ⟨m, rfl⟩ : ∃ i, m = i + 1 := ⟨m - 1, by omega⟩
    have c1 : ¬ I (e : Int) ≤ I (i : Int) := fun z => by have := (In_le (by omega) (by omega)).mp z; omega
    obtain ⟨t1, t2, t3, t4⟩ := t_dn hb (hok i (by omega))
    have hn := s_X12_isNumber t2 t3 t4
    have e1 : ∀ r : Int32, f_X12_isNumber (J (dn a b (i + 1)).1) (J (dn a b (i + 1)).2.1) (J (dn a b (i + 1)).2.2) = some r → f_X12_power_L11 (I (-(e : Int))) (I a) (I b) (m + 1) 1 (I (i : Int)) (J (dn a b i).1) (J (dn a b i).2.1) (J (dn a b i).2.2) = f_X12_power_L11 (I (-(e : Int))) (I a) (I b) m r (I ((i + 1 : Nat) : Int)) (J (dn a b (i + 1)).1) (J (dn a b (i + 1)).2.1) (J (dn a b (i + 1)).2.2) := by
      intro r hr
      rw [f_X12_power_L11, if_neg c0, cn, if_neg c1, if_neg (show ¬ (1 : Int32) = 0 by decide), if_pos c2, bnd3_s t1, bnd1_s hr, I_s]
    rcases inB_dec (dn a b (i + 1)).1 (dn a b (i + 1)).2.1 (dn a b (i + 1)).2.2 with q | q
    · rw [e1 1 (hn.1 q)]
      exact ih m (i + 1) (by omega) (by omega) (fun x hx => by
        by_cases z : x = i + 1
        · subst z; exact q
        · exact hok x (by omega))
    · rw [e1 0 (hn.2 q)]
      refine ⟨fun h => absurd (h (i + 1) (by omega)) q, fun _ => ?_⟩
      obtain ⟨m, rfl⟩ : ∃ i, m = i + 1 := ⟨m - 1, by omega⟩
      rw [f_X12_power_L11, if_neg c0, cn]
      split
      · exact ⟨_, _, _, rfl⟩
      · rw [if_pos rfl]; exact ⟨_, _, _, rfl⟩
theorem set_101 (tu tv td : Int64) : f_X12_set tu tv td 1 0 1 = some (J 1, J 0, J 1) := by
  have := (s_X12_set (tu := tu) (tv := tv) (td := td) (u := 1) (v := 0) (d := 1) (by unfold B62; omega) (by unfold B62; omega) (by unfold B62; omega) (by omega)).1 (by omega)
  rw [g3_1, Int.tdiv_one, Int.tdiv_one] at this
  exact this
theorem s_power_up {a b : Int} (hb : VB a b) {e : Nat} (he : e ≤ 250) (tu tv td : Int64) : (okU a b e → f_X12_power (I a) (I b) tu tv td (I (e : Int)) = some (1, J (pw a b e).1, J (pw a b e).2, J 1)) ∧ (¬ okU a b e → ∃ u v d : Int64, f_X12_power (I a) (I b) tu tv td (I (e : Int)) = some (0, u, v, d)) := by
  have x := pow_up hb he e FU 0 (by omega) (by rw [FU_eq]; omega) (ok0 a b).1
  unfold f_X12_power
  rw [bnd3_s (set_101 tu tv td)]
  constructor
  · intro h
    have y : f_X12_power_L11 (I (e : Int)) (I a) (I b) FU 1 0 (J 1) (J 0) (J 1) = _ := x.1 h
    rw [bnd4_s y, gd_t bz1]
  · intro h
    obtain ⟨u, v, d, y⟩ := x.2 h
    have y : f_X12_power_L11 (I (e : Int)) (I a) (I b) FU 1 0 (J 1) (J 0) (J 1) = _ := y
    exact ⟨u, v, d, by rw [bnd4_s y, gd_t bz0]⟩
theorem s_power_dn {a b : Int} (hb : VB a b) {e : Nat} (he : e ≤ 250) (tu tv td : Int64) : (okD a b e → f_X12_power (I a) (I b) tu tv td (I (-(e : Int))) = some (1, J (dn a b e).1, J (dn a b e).2.1, J (dn a b e).2.2)) ∧ (¬ okD a b e → ∃ u v d : Int64, f_X12_power (I a) (I b) tu tv td (I (-(e : Int))) = some (0, u, v, d)) := by
  rcases Nat.eq_zero_or_pos e with z | z
  · subst z
    refine ⟨fun _ => (s_power_up hb (e := 0) (by omega) tu tv td).1 (ok0 a b).1, fun h => absurd (ok0 a b).2 h⟩
  have x := pow_dn hb he z e FU 0 (by omega) (by rw [FU_eq]; omega) (ok0 a b).2
  unfold f_X12_power
  rw [bnd3_s (set_101 tu tv td)]
  constructor
  · intro h
    have y : f_X12_power_L11 (I (-(e : Int))) (I a) (I b) FU 1 0 (J 1) (J 0) (J 1) = _ := x.1 h
    rw [bnd4_s y, gd_t bz1]
  · intro h
    obtain ⟨u, v, d, y⟩ := x.2 h
    have y : f_X12_power_L11 (I (-(e : Int))) (I a) (I b) FU 1 0 (J 1) (J 0) (J 1) = _ := y
    exact ⟨u, v, d, by rw [bnd4_s y, gd_t bz0]⟩
