/-! the greatest power; the digits ahead of the point -/
theorem pw0 (a b : Int) : pw a b 0 = (1, 0) := rfl
theorem TopP_ex {a b : Int} (hb : VB a b) {u v d : Int} (hn : NB u v d) : ∃ T : Nat, TopP a b u v d T ∧ ∀ k, k < T → nn a b (u - d * (pw a b (k + 1)).1) (v - d * (pw a b (k + 1)).2) := by
  have hP := hb.pw.1
  have h2 := (VB_g hb).1.2.1
  have hC := hb.rc.2.1
  have q := hn.b
  have hz : ¬ nn a b (u - d * (pw a b (pcn a b - 2 + 1)).1) (v - d * (pw a b (pcn a b - 2 + 1)).2) := fun z => by
    have := (hold_bd hb hn (k := pcn a b - 2 + 1) (by omega) z).2.2.2
    omega
  obtain ⟨T, c1, c2, c3⟩ := least_not (P := fun k => nn a b (u - d * (pw a b (k + 1)).1) (v - d * (pw a b (k + 1)).2)) (pcn a b - 2) hz
  have bd : ∀ k, k ≤ T → (d * (pw a b k).2).natAbs ≤ 720896 := fun k hk => by
    rcases Nat.eq_zero_or_pos k with e | e
    · subst e; rw [pw0]; show (d * 0).natAbs ≤ 720896; rw [Int.mul_zero]; decide
    · have hh := c2 (k - 1) (by omega)
      rw [show k - 1 + 1 = k by omega] at hh
      exact (hold_bd hb hn (by omega) hh).1
  refine ⟨T, ⟨by omega, ?_, ?_, c3, fun k hk => ⟨bd k hk, (pw_nb hb hn (by omega) (bd k hk)).1⟩⟩, c2⟩
  · rcases Nat.eq_zero_or_pos T with e | e
    · omega
    · have hh := c2 (T - 1) (by omega)
      rw [show T - 1 + 1 = T by omega] at hh
      exact (hold_bd hb hn (by omega) hh).2.1
  · rcases Nat.eq_zero_or_pos T with e | e
    · omega
    · have hh := c2 (T - 1) (by omega)
      rw [show T - 1 + 1 = T by omega] at hh
      exact (hold_bd hb hn (by omega) hh).2.2.1
theorem top_4 {a b : Int} (hb : VB a b) {pU pV : Nat → Int64} (hp : ∀ i, i < pcn a b → pU i = J (pw a b i).1 ∧ pV i = J (pw a b i).2) {u v d : Int} (hn : NB u v d) {T : Nat} (hT : TopP a b u v d T) (hh : ∀ k, k < T → nn a b (u - d * (pw a b (k + 1)).1) (v - d * (pw a b (k + 1)).2)) :
    ∀ (j m k : Nat), k + j = T → j + 1 ≤ m → f_X1_greatestPower_L4 (J u) (J v) (J d) (I a) (J (DD a b)) (I (pcn a b : Int)) pU pV m (I (k : Int)) (I ((k + 1 : Nat) : Int)) = some (I (T : Int)) := by
  obtain ⟨t1, t2, t3, t4, t5⟩ := hT
  have hP := hb.pw.1
  have q := hn.b
  intro j
  induction j with
  | zero =>
    intro m k hk hm
    obtain ⟨m, rfl⟩ : ∃ i, m = i + 1 := ⟨m - 1, by omega⟩
    have : k = T := by omega
    subst this
    have c : ¬ I (pcn a b : Int) ≤ I ((k + 1 : Nat) : Int) := fun z => by have := (In_le (by omega) (by omega)).mp z; omega
    obtain ⟨-, b2, b3⟩ := pw_nb hb hn (k := k) (by omega) (t5 k (by omega)).1
    have x := (s_holds hb (k := k + 1) (by omega) (u := u) (v := v) (d := d) (hp (k + 1) (by omega)).1 (hp (k + 1) (by omega)).2 (by omega) (by omega)).2 t4
    rw [f_X1_greatestPower_L4, if_neg c, bnd1_s x, if_pos rfl]
  | succ j ih =>
    intro m k hk hm
    obtain ⟨m, rfl⟩ : ∃ i, m = i + 1 := ⟨m - 1, by omega⟩
    have c : ¬ I (pcn a b : Int) ≤ I ((k + 1 : Nat) : Int) := fun z => by have := (In_le (by omega) (by omega)).mp z; omega
    obtain ⟨-, b2, b3⟩ := pw_nb hb hn (k := k) (by omega) (t5 k (by omega)).1
    have x := (s_holds hb (k := k + 1) (by omega) (u := u) (v := v) (d := d) (hp (k + 1) (by omega)).1 (hp (k + 1) (by omega)).2 (by omega) (by omega)).1 (hh k (by omega))
    rw [f_X1_greatestPower_L4, if_neg c, bnd1_s x, if_neg (by decide), I_s]
    exact ih m (k + 1) (by omega) (by omega)
theorem s_greatest {a b : Int} (hb : VB a b) {pU pV : Nat → Int64} (hp : ∀ i, i < pcn a b → pU i = J (pw a b i).1 ∧ pV i = J (pw a b i).2) {u v d : Int} (hn : NB u v d) {T : Nat} (hT : TopP a b u v d T) (hh : ∀ k, k < T → nn a b (u - d * (pw a b (k + 1)).1) (v - d * (pw a b (k + 1)).2)) :
    f_X1_greatestPower (J u) (J v) (J d) (I a) (J (DD a b)) (I (pcn a b : Int)) pU pV = some (I (T : Int)) := by
  have x := top_4 hb hp hn hT hh T FU 0 (by omega) (by rw [FU_eq]; have := hT.2.2.1; omega)
  have x : f_X1_greatestPower_L4 (J u) (J v) (J d) (I a) (J (DD a b)) (I (pcn a b : Int)) pU pV FU 0 1 = some (I (T : Int)) := x
  unfold f_X1_greatestPower
  rw [bnd1_s x]
theorem nextE {a b : Int} (hb : VB a b) (k : Nat) (d : Int) : J (pw a b k).2 * (I b).toInt64 = J (pw a b (k + 1)).1 ∧ J (pw a b k).1 + J (pw a b k).2 * (I a).toInt64 = J (pw a b (k + 1)).2 ∧ (pw a b (k + 1)).1 * d = d * (pw a b (k + 1)).1 ∧ (pw a b (k + 1)).2 * d = d * (pw a b (k + 1)).2 := by
  have hb' := hb
  unfold VB at hb'
  have ra : R31 a := ⟨by omega, by omega⟩
  have rb : R31 b := ⟨by omega, by omega⟩
  rw [pw_s, I_J ra, I_J rb, J_mul, J_mul, J_add, Int.mul_comm (pw a b k).2 b, Int.mul_comm (pw a b k).2 a]
  exact ⟨rfl, rfl, Int.mul_comm _ _, Int.mul_comm _ _⟩
theorem top_9 {a b : Int} (hb : VB a b) {u v d : Int} (hn : NB u v d) {T : Nat} (hT : TopP a b u v d T) (hh : ∀ k, k < T → nn a b (u - d * (pw a b (k + 1)).1) (v - d * (pw a b (k + 1)).2)) :
    ∀ (j m k : Nat), k + j = T → j + 1 ≤ m → f_X12_whole_L9 (J u) (J v) (J d) (I a) (I b) (I (DD a b)) m (J (pw a b k).1) (J (pw a b k).2) (I (k : Int)) = some (J (pw a b T).1, J (pw a b T).2, I (T : Int)) := by
  obtain ⟨t1, t2, t3, t4, t5⟩ := hT
  have q := hn.b
  intro j
  induction j with
  | zero =>
    intro m k hk hm
    obtain ⟨m, rfl⟩ : ∃ i, m = i + 1 := ⟨m - 1, by omega⟩
    have : k = T := by omega
    subst this
    obtain ⟨n1, n2, n3, n4⟩ := nextE hb k d
    obtain ⟨-, b2, b3⟩ := pw_nb hb hn (k := k) (by omega) (t5 k (by omega)).1
    obtain ⟨s, x1, x2, x3⟩ := s12 hb (p := u - d * (pw a b (k + 1)).1) (q := v - d * (pw a b (k + 1)).2) (by omega) (by omega)
    rw [f_X12_whole_L9, n1, n2, J_mul, J_mul, n3, n4, J_sub, J_sub, bnd1_s x1, if_neg (fun z => t4 (x2.mp z))]
  | succ j ih =>
    intro m k hk hm
    obtain ⟨m, rfl⟩ : ∃ i, m = i + 1 := ⟨m - 1, by omega⟩
    obtain ⟨n1, n2, n3, n4⟩ := nextE hb k d
    obtain ⟨-, b2, b3⟩ := pw_nb hb hn (k := k) (by omega) (t5 k (by omega)).1
    obtain ⟨s, x1, x2, x3⟩ := s12 hb (p := u - d * (pw a b (k + 1)).1) (q := v - d * (pw a b (k + 1)).2) (by omega) (by omega)
    rw [f_X12_whole_L9, n1, n2, J_mul, J_mul, n3, n4, J_sub, J_sub, bnd1_s x1, if_pos (x2.mpr (hh k (by omega))), I_s]
    exact ih m (k + 1) (by omega) (by omega)
theorem top_71 {a b : Int} (hb : VB a b) {u v d : Int} (hn : NB u v d) {T : Nat} (hT : TopP a b u v d T) (hh : ∀ k, k < T → nn a b (u - d * (pw a b (k + 1)).1) (v - d * (pw a b (k + 1)).2)) :
    ∀ (j m k : Nat), k + j = T → j + 1 ≤ m → f_X12_rank_L71 (J u) (J v) (J d) (I a) (I b) (I (DD a b)) m (J (pw a b k).1) (J (pw a b k).2) (I (k : Int)) = some (J (pw a b T).1, J (pw a b T).2, I (T : Int)) := by
  obtain ⟨t1, t2, t3, t4, t5⟩ := hT
  have q := hn.b
  intro j
  induction j with
  | zero =>
    intro m k hk hm
    obtain ⟨m, rfl⟩ : ∃ i, m = i + 1 := ⟨m - 1, by omega⟩
    have : k = T := by omega
    subst this
    obtain ⟨n1, n2, n3, n4⟩ := nextE hb k d
    obtain ⟨-, b2, b3⟩ := pw_nb hb hn (k := k) (by omega) (t5 k (by omega)).1
    obtain ⟨s, x1, x2, x3⟩ := s12 hb (p := u - d * (pw a b (k + 1)).1) (q := v - d * (pw a b (k + 1)).2) (by omega) (by omega)
    rw [f_X12_rank_L71, n1, n2, J_mul, J_mul, n3, n4, J_sub, J_sub, bnd1_s x1, if_pos (x3.mpr t4)]
  | succ j ih =>
    intro m k hk hm
    obtain ⟨m, rfl⟩ : ∃ i, m = i + 1 := ⟨m - 1, by omega⟩
    obtain ⟨n1, n2, n3, n4⟩ := nextE hb k d
    obtain ⟨-, b2, b3⟩ := pw_nb hb hn (k := k) (by omega) (t5 k (by omega)).1
    obtain ⟨s, x1, x2, x3⟩ := s12 hb (p := u - d * (pw a b (k + 1)).1) (q := v - d * (pw a b (k + 1)).2) (by omega) (by omega)
    rw [f_X12_rank_L71, n1, n2, J_mul, J_mul, n3, n4, J_sub, J_sub, bnd1_s x1, if_neg (fun z => x3.mp z (hh k (by omega))), I_s]
    exact ih m (k + 1) (by omega) (by omega)
/-- g holds the digits at x^(k-1) .. x^0 of u + v x by d, and u' + v' x is left -/
def Fr (a b d : Int) : Nat → Int → Int → (Nat → Nat) → Int → Int → Prop
  | 0, u, v, _, u', v' => u' = u ∧ v' = v
  | k + 1, u, v, g, u', v' => GD a b (d * (pw a b k).1) (d * (pw a b k).2) u v (g k) ∧ Fr a b d k (u - g k * (d * (pw a b k).1)) (v - g k * (d * (pw a b k).2)) g u' v'
theorem Fr_congr {a b d : Int} : ∀ (k : Nat) (u v : Int) (g h : Nat → Nat) (u' v' : Int), (∀ i, i < k → g i = h i) → Fr a b d k u v g u' v' → Fr a b d k u v h u' v' := by
  intro k
  induction k with
  | zero => intro u v g h u' v' _ x; exact x
  | succ k ih =>
    intro u v g h u' v' e x
    obtain ⟨x1, x2⟩ := x
    rw [e k (by omega)] at x1 x2
    exact ⟨x1, ih _ _ g h u' v' (fun i hi => e i (by omega)) x2⟩
theorem Fr_ex {a b : Int} (hb : VB a b) {d : Int} (hd : 1 ≤ d) : ∀ (k : Nat) (u v : Int), k ≤ 33 → nn a b u v → ¬ nn a b (u - d * (pw a b k).1) (v - d * (pw a b k).2) → ∃ (g : Nat → Nat) (u' v' : Int), Fr a b d k u v g u' v' ∧ nn a b u' v' ∧ ¬ nn a b (u' - d) v' := by
  intro k
  induction k with
  | zero =>
    intro u v _ h1 h2
    refine ⟨fun _ => 0, u, v, ⟨rfl, rfl⟩, h1, ?_⟩
    rw [pw0, Int.mul_one, Int.mul_zero, Int.sub_zero] at h2
    exact h2
  | succ k ih =>
    intro u v hk h1 h2
    obtain ⟨c, hc⟩ := GD_ex hb hd (k := k) (by omega) h2
    obtain ⟨r1, r2⟩ := GD_rest hc h1
    obtain ⟨g, u', v', x1, x2, x3⟩ := ih _ _ (by omega) r1 r2
    obtain ⟨h, e1, e2⟩ : ∃ h : Nat → Nat, h k = c ∧ ∀ i, i < k → g i = h i := ⟨fun i => if i = k then c else g i, if_pos rfl, fun i hi => (if_neg (by omega)).symm⟩
    refine ⟨h, u', v', ⟨?_, ?_⟩, x2, x3⟩
    · rw [e1]; exact hc
    · rw [e1]
      exact Fr_congr k _ _ g h u' v' e2 x1
/-- what is spent of the bounds in a digit -/
theorem spend {a b : Int} (hb : VB a b) {e u : Int} {c : Nat} (hc : (c : Int) ≤ tp a b) (he : e.natAbs ≤ 722000) {k : Nat} {B : Nat} (h : u.natAbs + (k + 1) * ((tp a b).toNat * 722000) ≤ B) : (u - c * e).natAbs + k * ((tp a b).toNat * 722000) ≤ B := by
  have h1 : ((c : Int) * e).natAbs ≤ (tp a b).toNat * 722000 := by
    rw [Int.natAbs_mul, Int.natAbs_natCast]; exact Nat.mul_le_mul (by omega) he
  have h2 : (k + 1) * ((tp a b).toNat * 722000) = k * ((tp a b).toNat * 722000) + (tp a b).toNat * 722000 := by rw [Nat.add_mul, Nat.one_mul]
  omega
