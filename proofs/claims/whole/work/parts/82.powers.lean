/-! value(): powers of x up and down, in least terms -/
theorem nf_eq {u v d u' v' d' : Int} (hd : 0 < d) (hd' : 0 < d') (h1 : u * d' = u' * d) (h2 : v * d' = v' * d) :
    u.tdiv (g3 u v d) = u'.tdiv (g3 u' v' d') ∧ v.tdiv (g3 u v d) = v'.tdiv (g3 u' v' d') ∧ d.tdiv (g3 u v d) = d'.tdiv (g3 u' v' d') := by
  have hg := g3_pos (u := u) (v := v) (d := d) (by omega)
  have hg' := g3_pos (u := u') (v := v') (d := d') (by omega)
  have e1 : d' * u = d * u' := by rw [Int.mul_comm d' u, Int.mul_comm d u']; exact h1
  have e2 : d' * v = d * v' := by rw [Int.mul_comm d' v, Int.mul_comm d v']; exact h2
  have e3 : d' * d = d * d' := Int.mul_comm _ _
  have eG : (d'.natAbs : Int) * g3 u v d = d.natAbs * g3 u' v' d' := by rw [← g3_mul, ← g3_mul, e1, e2, e3]
  refine ⟨?_, ?_, ?_⟩
  · rw [← nf_pos hd' hg (g3_u u v d), e1, eG, nf_pos hd hg' (g3_u u' v' d')]
  · rw [← nf_pos hd' hg (g3_v u v d), e2, eG, nf_pos hd hg' (g3_v u' v' d')]
  · rw [← nf_pos hd' hg (g3_d u v d), e3, eG, nf_pos hd hg' (g3_d u' v' d')]
theorem nf_sq {u v d : Int} (hd : 0 < d) : u.tdiv (g3 u v d) * d = u * d.tdiv (g3 u v d) ∧ v.tdiv (g3 u v d) * d = v * d.tdiv (g3 u v d) := by
  have e1 : g3 u v d * u.tdiv (g3 u v d) = u := Int.mul_tdiv_cancel' (g3_u u v d)
  have e2 : g3 u v d * v.tdiv (g3 u v d) = v := Int.mul_tdiv_cancel' (g3_v u v d)
  have e3 : g3 u v d * d.tdiv (g3 u v d) = d := Int.mul_tdiv_cancel' (g3_d u v d)
  generalize u.tdiv (g3 u v d) = x at *
  generalize v.tdiv (g3 u v d) = y at *
  generalize d.tdiv (g3 u v d) = z at *
  generalize g3 u v d = g at *
  subst e1 e2 e3
  constructor <;> grind
theorem g3_1 (u v : Int) : g3 u v 1 = 1 := Int.eq_one_of_dvd_one (g3_nonneg _ _ _) (g3_d u v 1)
theorem take_nb {nt : Nat → Int32} {nu nv nd : Nat → Int64} {x : Nat} {u v d : Int} (hg : g3 u v d = 1) (hd : 0 < d) (bu : B62 u) (bv : B62 v) (bd : B62 d) :
    (inB u v d → f_X0_take nt nu nv nd x (J u) (J v) (J d) = some (1, upd nt x 1, vp_updL nu x (J u), vp_updL nv x (J v), vp_updL nd x (J d))) ∧ (¬ inB u v d → f_X0_take nt nu nv nd x (J u) (J v) (J d) = some (0, nt, nu, nv, nd)) := by
  have h := s_X0_take (nt := nt) (nu := nu) (nv := nv) (nd := nd) (a := x) bu bv bd hd
  rw [hg, Int.tdiv_one, Int.tdiv_one, Int.tdiv_one] at h
  exact h
def tn (b : Int) : Int := if 0 < b then 1 else -1
def dn (a b : Int) : Nat → Int × Int × Int
  | 0 => (1, 0, 1)
  | k + 1 => match dn a b k with
    | (u, v, d) => ((tn b * (b * v - a * u)).tdiv (g3 (tn b * (b * v - a * u)) (tn b * u) (d * tn b * b)), (tn b * u).tdiv (g3 (tn b * (b * v - a * u)) (tn b * u) (d * tn b * b)), (d * tn b * b).tdiv (g3 (tn b * (b * v - a * u)) (tn b * u) (d * tn b * b)))
theorem dn_s (a b : Int) (k : Nat) {u v d : Int} (h : dn a b k = (u, v, d)) : dn a b (k + 1) = ((tn b * (b * v - a * u)).tdiv (g3 (tn b * (b * v - a * u)) (tn b * u) (d * tn b * b)), (tn b * u).tdiv (g3 (tn b * (b * v - a * u)) (tn b * u) (d * tn b * b)), (d * tn b * b).tdiv (g3 (tn b * (b * v - a * u)) (tn b * u) (d * tn b * b))) := by rw [dn, h]
theorem tn_b {a b : Int} (hb : VB a b) : 0 < tn b * b ∧ (tn b = 1 ∨ tn b = -1) ∧ (tn b * b).natAbs ≤ 9 := by
  unfold VB at hb
  unfold tn
  split <;> omega
theorem dn_nf {a b : Int} (hb : VB a b) : ∀ k : Nat, 1 ≤ (dn a b k).2.2 ∧ g3 (dn a b k).1 (dn a b k).2.1 (dn a b k).2.2 = 1 := by
  intro k
  have ht := tn_b hb
  induction k with
  | zero => exact ⟨Int.le_refl 1, g3_1 1 0⟩
  | succ k ih =>
    obtain ⟨u, v, d, e⟩ : ∃ u v d, dn a b k = (u, v, d) := ⟨_, _, _, rfl⟩
    rw [e] at ih
    have hd : 0 < d * tn b * b := by rw [Int.mul_assoc]; exact Int.mul_pos (by have := ih.1; exact this) ht.1
    rw [dn_s a b k e]
    exact ⟨tdiv_pos hd (g3_pos (by omega)) (g3_d _ _ _), g3_one (by omega)⟩
/-- x times the next one is this one; so its divisor divides the next one's -/
theorem dn_dvd {a b : Int} (hb : VB a b) (k : Nat) : (dn a b k).2.2 ∣ (dn a b (k + 1)).2.2 := by
  have ht := tn_b hb
  obtain ⟨u, v, d, e⟩ : ∃ u v d, dn a b k = (u, v, d) := ⟨_, _, _, rfl⟩
  have h0 := dn_nf hb k
  rw [e] at h0
  obtain ⟨h1, h2⟩ := h0
  have h1 : 1 ≤ d := h1
  have h2 : g3 u v d = 1 := h2
  have hd : 0 < d * tn b * b := by rw [Int.mul_assoc]; exact Int.mul_pos (by omega) ht.1
  have hs := nf_sq (u := tn b * (b * v - a * u)) (v := tn b * u) hd
  rw [dn_s a b k e, e]
  show d ∣ (d * tn b * b).tdiv _
  generalize (tn b * (b * v - a * u)).tdiv (g3 (tn b * (b * v - a * u)) (tn b * u) (d * tn b * b)) = u' at *
  generalize (tn b * u).tdiv (g3 (tn b * (b * v - a * u)) (tn b * u) (d * tn b * b)) = v' at *
  generalize (d * tn b * b).tdiv (g3 (tn b * (b * v - a * u)) (tn b * u) (d * tn b * b)) = d' at *
  obtain ⟨s1, s2⟩ := hs
  have htn : tn b * tn b = 1 := by rcases ht.2.1 with z | z <;> rw [z] <;> rfl
  have hb0 : b ≠ 0 := by unfold VB at hb; omega
  have k1 : u * d' = d * (b * v') := by
    have : tn b * (tn b * u * d') = tn b * (v' * (d * tn b * b)) := by rw [s2]
    rw [show tn b * (tn b * u * d') = tn b * tn b * (u * d') by grind, show tn b * (v' * (d * tn b * b)) = tn b * tn b * (d * (b * v')) by grind, htn] at this
    omega
  have k2 : v * d' = d * (u' + a * v') := by
    have h3 : tn b * (tn b * (b * v - a * u) * d') = tn b * (u' * (d * tn b * b)) := by rw [s1]
    rw [show tn b * (tn b * (b * v - a * u) * d') = tn b * tn b * (b * (v * d') - a * (u * d')) by grind, show tn b * (u' * (d * tn b * b)) = tn b * tn b * (b * (d * u')) by grind, htn, k1] at h3
    have h4 : b * (v * d') = b * (d * (u' + a * v')) := by
      rw [show b * (d * (u' + a * v')) = b * (d * u') + a * (d * (b * v')) by grind]
      omega
    exact Int.eq_of_mul_eq_mul_left hb0 h4
  have h5 : d ∣ g3 (d' * u) (d' * v) (d' * d) := dvd_g3 ⟨b * v', by rw [Int.mul_comm d' u]; exact k1⟩ ⟨u' + a * v', by rw [Int.mul_comm d' v]; exact k2⟩ ⟨d', Int.mul_comm _ _⟩
  rw [g3_mul, h2, Int.mul_one] at h5
  rw [← Int.dvd_natAbs]
  exact h5
theorem s_mulX {a b : Int} (hb : VB a b) {nt : Nat → Int32} {nu nv nd : Nat → Int64} {x k : Nat} (h1 : nu x = J (pw a b k).1) (h2 : nv x = J (pw a b k).2) (h3 : nd x = J 1) (hB : inB (pw a b k).1 (pw a b k).2 1) :
    (inB (pw a b (k + 1)).1 (pw a b (k + 1)).2 1 → f_X3_multiplyByX (I a) (I b) nt nu nv nd x = some (1, upd nt x 1, vp_updL nu x (J (pw a b (k + 1)).1), vp_updL nv x (J (pw a b (k + 1)).2), vp_updL nd x (J 1))) ∧ (¬ inB (pw a b (k + 1)).1 (pw a b (k + 1)).2 1 → f_X3_multiplyByX (I a) (I b) nt nu nv nd x = some (0, nt, nu, nv, nd)) := by
  have hb' := hb
  unfold VB at hb'
  have ra : R31 a := ⟨by omega, by omega⟩
  have rb : R31 b := ⟨by omega, by omega⟩
  unfold inB at hB
  have k1 := bm (x := b) (y := (pw a b k).2) (A := 9) (B := 65536) (by omega) (by omega)
  have k2 := bm (x := a) (y := (pw a b k).2) (A := 9) (B := 65536) (by omega) (by omega)
  have hps := pw_s a b k
  have bu : B62 (pw a b (k + 1)).1 := by rw [hps]; show B62 (b * (pw a b k).2); unfold B62; omega
  have bv : B62 (pw a b (k + 1)).2 := by rw [hps]; show B62 ((pw a b k).1 + a * (pw a b k).2); unfold B62; omega
  have e : f_X3_multiplyByX (I a) (I b) nt nu nv nd x = f_X0_take nt nu nv nd x (J (pw a b (k + 1)).1) (J (pw a b (k + 1)).2) (J 1) := by
    unfold f_X3_multiplyByX
    rw [bnd5_eta, h1, h2, h3, I_J ra, I_J rb, J_mul, J_mul, J_add, hps]
  rw [e]
  exact take_nb (g3_1 _ _) (by omega) bu bv (by unfold B62; omega)
theorem dn_bd {a b : Int} (hb : VB a b) {u v d : Int} (hB : inB u v d) (hd : 1 ≤ d) : B62 (tn b * (b * v - a * u)) ∧ B62 (tn b * u) ∧ B62 (d * tn b * b) ∧ 0 < d * tn b * b := by
  have ht := tn_b hb
  have hb' := hb
  unfold VB at hb'
  unfold inB at hB
  have k1 := bm (x := b) (y := v) (A := 9) (B := 65536) (by omega) (by omega)
  have k2 := bm (x := a) (y := u) (A := 9) (B := 65536) (by omega) (by omega)
  have k3 := bm (x := d) (A := 1000) (by omega) ht.2.2
  refine ⟨?_, ?_, ?_, ?_⟩
  · rcases ht.2.1 with z | z <;> rw [z] <;> unfold B62 <;> omega
  · rcases ht.2.1 with z | z <;> rw [z] <;> unfold B62 <;> omega
  · rw [Int.mul_assoc]; unfold B62; omega
  · rw [Int.mul_assoc]; exact Int.mul_pos (by omega) ht.1
theorem s_divX {a b : Int} (hb : VB a b) {nt : Nat → Int32} {nu nv nd : Nat → Int64} {x k : Nat} (h1 : nu x = J (dn a b k).1) (h2 : nv x = J (dn a b k).2.1) (h3 : nd x = J (dn a b k).2.2) (hB : inB (dn a b k).1 (dn a b k).2.1 (dn a b k).2.2) :
    (inB (dn a b (k + 1)).1 (dn a b (k + 1)).2.1 (dn a b (k + 1)).2.2 → f_X3_divideByX (I a) (I b) nt nu nv nd x = some (1, upd nt x 1, vp_updL nu x (J (dn a b (k + 1)).1), vp_updL nv x (J (dn a b (k + 1)).2.1), vp_updL nd x (J (dn a b (k + 1)).2.2))) ∧ (¬ inB (dn a b (k + 1)).1 (dn a b (k + 1)).2.1 (dn a b (k + 1)).2.2 → f_X3_divideByX (I a) (I b) nt nu nv nd x = some (0, nt, nu, nv, nd)) := by
  have hb' := hb
  unfold VB at hb'
  have ra : R31 a := ⟨by omega, by omega⟩
  have rb : R31 b := ⟨by omega, by omega⟩
  have r0 : R31 0 := ⟨by omega, by omega⟩
  have cb : (I b ≤ 0) ↔ b ≤ 0 := I_le rb r0
  have hd1 := (dn_nf hb k).1
  obtain ⟨u, v, d, e⟩ : ∃ u v d, dn a b k = (u, v, d) := ⟨_, _, _, rfl⟩
  rw [e] at h1 h2 h3 hB hd1
  have h1 : nu x = J u := h1
  have h2 : nv x = J v := h2
  have h3 : nd x = J d := h3
  obtain ⟨b1, b2, b3, b4⟩ := dn_bd hb (u := u) (v := v) (d := d) hB hd1
  have eq : f_X3_divideByX (I a) (I b) nt nu nv nd x = f_X0_take nt nu nv nd x (J (tn b * (b * v - a * u))) (J (tn b * u)) (J (d * tn b * b)) := by
    unfold f_X3_divideByX
    rw [bnd5_eta, bnd5_eta, h1, h2, h3, I_J ra, I_J rb, show (-1 : Int32).toInt64 = J (-1) from rfl, show (1 : Int32).toInt64 = J 1 from rfl]
    simp only [J_mul, J_sub]
    by_cases q : b ≤ 0
    · rw [if_pos (cb.mpr q), show tn b = -1 by unfold tn; rw [if_neg (by omega)]]
    · rw [if_neg (fun z => q (cb.mp z)), show tn b = 1 by unfold tn; rw [if_pos (by omega)]]
  rw [eq, dn_s a b k e]
  exact s_X0_take b1 b2 b3 b4
