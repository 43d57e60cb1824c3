/-! one step of a walk, in the class and in the reference -/
theorem c300 {k : Nat} (hk : k ≤ 300) : ¬ (300 : Int32) < I (k : Int) := by rw [show (300 : Int32) = I 300 from rfl, I_lt ⟨by omega, by omega⟩ (r31n (by omega))]; omega
theorem isB6_no {m : Int} (h : m.natAbs ≤ 1000000) : f_X11_isBeyond (J m) 1000000 = some 0 := by
  obtain ⟨-, -, -, -, -, -, -, -, r1, r2, -⟩ := r25
  exact isB_no (b := 1000000) ⟨by omega, by omega⟩ r1 r2 (by omega)
theorem isB6_yes {m : Int} (hm : B62 m) (h : ¬ m.natAbs ≤ 1000000) : f_X11_isBeyond (J m) 1000000 = some 1 := by
  obtain ⟨-, -, -, -, -, -, -, -, r1, r2, -⟩ := r25
  exact isB_yes (b := 1000000) hm.r r1 r2 (by omega)
section
variable {cp cq no st sz : Int32} {cy cz cd ny nz : Int64} {dY dZ dk pl lk he sm : Nat → Int32} {F S : Nat → Int64} {f k : Nat} {m n : Int}
theorem gl_end (hk : k ≤ 300) (h : J m = 0 ∧ J n = 0) : f_X10_go_L14 cp cq no cy cz cd dY dZ dk st (f + 1) (J m) (J n) (I (k : Int)) pl ny nz sz F S lk he sm = some (0, I (k : Int), 0, pl, ny, nz, sz, F, S, lk, he, sm) := by
  rw [f_X10_go_L14, if_neg (c300 hk), if_pos h.1, if_pos h.2]
theorem gl_far (hk : k ≤ 300) (hm : B62 m) (hn : B62 n) (h : ¬ (m.natAbs ≤ 1000000 ∧ n.natAbs ≤ 1000000)) : f_X10_go_L14 cp cq no cy cz cd dY dZ dk st (f + 1) (J m) (J n) (I (k : Int)) pl ny nz sz F S lk he sm = some (1, I (k : Int), 0, pl, ny, nz, sz, F, S, lk, he, sm) := by
  have z0 : R63 0 := ⟨by omega, by omega⟩
  have cm : (J m = 0) ↔ m = 0 := J_eq hm.r z0
  have cn : (J n = 0) ↔ n = 0 := J_eq hn.r z0
  rw [f_X10_go_L14, if_neg (c300 hk)]
  by_cases a : m.natAbs ≤ 1000000
  · have b : ¬ n.natAbs ≤ 1000000 := fun z => h ⟨a, z⟩
    rw [bnd1_s (isB6_no a), if_pos rfl, bnd1_s (isB6_yes hn b), if_neg (show ¬ (1 : Int32) = 0 by decide), if_neg (show ¬ J n = 0 from fun z => b (by rw [cn.mp z]; decide))]
    split <;> rfl
  · rw [bnd1_s (isB6_yes hm a), if_neg (show ¬ (1 : Int32) = 0 by decide), if_neg (show ¬ J m = 0 from fun z => a (by rw [cm.mp z]; decide))]
theorem gl_body (hk : k ≤ 300) (hm : m.natAbs ≤ 1000000) (hn : n.natAbs ≤ 1000000) (h : ¬ (J m = 0 ∧ J n = 0)) : f_X10_go_L14 cp cq no cy cz cd dY dZ dk st (f + 1) (J m) (J n) (I (k : Int)) pl ny nz sz F S lk he sm = bnd7 (f_X9_meet st sz F S lk he sm (J m) (J n)) (fun r s1 s2 s3 s4 s5 s6 => if r = (-1) then (if 300 ≤ I (k : Int) then f_X10_go_L14 cp cq no cy cz cd dY dZ dk st f (J m) (J n) (I (k : Int) + 1) pl ny nz s1 s2 s3 s4 s5 s6 else bnd3 (f_X2_step cp cq no cy cz cd ny nz dY dZ dk (J m) (J n)) (fun r2 ny' nz' => gd (ixb (I (k : Int)) 300) (f_X10_go_L14 cp cq no cy cz cd dY dZ dk st f ny' nz' (I (k : Int) + 1) (upd pl (I (k : Int)).toNatClampNeg r2) ny' nz' s1 s2 s3 s4 s5 s6))) else some (2, I (k : Int), r, pl, ny, nz, s1, s2, s3, s4, s5, s6)) := by
  rw [f_X10_go_L14, if_neg (c300 hk), bnd1_s (isB6_no hm), if_pos rfl, bnd1_s (isB6_no hn), if_pos rfl]
  by_cases q : J m = 0
  · rw [if_pos q, if_neg (fun z => h ⟨q, z⟩)]
  · rw [if_neg q]
theorem gl_met (hk : k ≤ 300) (hm : m.natAbs ≤ 1000000) (hn : n.natAbs ≤ 1000000) (h : ¬ (J m = 0 ∧ J n = 0)) {i : Nat} (hi : i < 401) (hmt : f_X9_meet st sz F S lk he sm (J m) (J n) = some (I (i : Int), sz, F, S, lk, he, sm)) : f_X10_go_L14 cp cq no cy cz cd dY dZ dk st (f + 1) (J m) (J n) (I (k : Int)) pl ny nz sz F S lk he sm = some (2, I (k : Int), I (i : Int), pl, ny, nz, sz, F, S, lk, he, sm) := by
  have nm : ¬ I (i : Int) = -1 := by rw [Im1, I_eq (r31n (by omega)) ⟨by omega, by omega⟩]; omega
  rw [gl_body hk hm hn h, bnd7_s hmt, if_neg nm]
theorem gl_300 (hk : k = 300) (hm : m.natAbs ≤ 1000000) (hn : n.natAbs ≤ 1000000) (h : ¬ (J m = 0 ∧ J n = 0)) {sz' : Int32} {F' S' : Nat → Int64} {lk' he' sm' : Nat → Int32} (hmt : f_X9_meet st sz F S lk he sm (J m) (J n) = some (-1, sz', F', S', lk', he', sm')) : f_X10_go_L14 cp cq no cy cz cd dY dZ dk st (f + 2) (J m) (J n) (I (k : Int)) pl ny nz sz F S lk he sm = some (3, I ((k + 1 : Nat) : Int), 0, pl, ny, nz, sz', F', S', lk', he', sm') := by
  rw [show f + 2 = (f + 1) + 1 from rfl, gl_body (by omega) hm hn h, bnd7_s hmt, if_pos rfl, if_pos (by rw [hk]; decide), I_s, f_X10_go_L14, if_pos (by rw [hk]; decide)]
theorem gl_step (hk : k < 300) (hm : m.natAbs ≤ 1000000) (hn : n.natAbs ≤ 1000000) (h : ¬ (J m = 0 ∧ J n = 0)) {sz' : Int32} {F' S' : Nat → Int64} {lk' he' sm' : Nat → Int32} (hmt : f_X9_meet st sz F S lk he sm (J m) (J n) = some (-1, sz', F', S', lk', he', sm')) {c : Int32} {m' n' : Int64} (hs : f_X2_step cp cq no cy cz cd ny nz dY dZ dk (J m) (J n) = some (c, m', n')) : f_X10_go_L14 cp cq no cy cz cd dY dZ dk st (f + 1) (J m) (J n) (I (k : Int)) pl ny nz sz F S lk he sm = f_X10_go_L14 cp cq no cy cz cd dY dZ dk st f m' n' (I ((k + 1 : Nat) : Int)) (upd pl k c) m' n' sz' F' S' lk' he' sm' := by
  have c4 : ¬ (300 : Int32) ≤ I (k : Int) := by rw [show (300 : Int32) = I 300 from rfl, I_le ⟨by omega, by omega⟩ (r31n (by omega))]; omega
  rw [gl_body (by omega) hm hn h, bnd7_s hmt, if_pos rfl, if_neg c4, bnd3_s hs, gdI (by omega) (by omega) (by omega), I_at rfl (by omega), I_s]
end
section
variable {mp1 mp mq my mz pm met how : Int32} {qy qz : Int64} {sy sz wy wz pl : Nat → Int32} {f k : Nat}
theorem wl_end (hk : k ≤ 300) (h : wy k = 0 ∧ wz k = 0) : f_X12_walk_L26 mp1 mp mq my mz sy sz (f + 1) (I (k : Int)) qy qz pm met how wy wz pl = some (0, I (k : Int), 0, qy, qz, pm, I (k : Int), how, wy, wz, pl) := by
  rw [f_X12_walk_L26, gdI (by omega) (by omega) (by omega), gdI (by omega) (by omega) (by omega), I_at rfl (by omega), if_pos h.1, if_pos h.2]
theorem wl_met (hk : k ≤ 300) (h : ¬ (wy k = 0 ∧ wz k = 0)) {x : Int32} (hs : f_X12_walk_L58 (I (k : Int)) wy wz FU 0 = some (0, x)) : f_X12_walk_L26 mp1 mp mq my mz sy sz (f + 1) (I (k : Int)) qy qz pm met how wy wz pl = some (1, I (k : Int), x, qy, qz, pm, I (k : Int), how, wy, wz, pl) := by
  rw [f_X12_walk_L26, bnd2_s hs, gdI (by omega) (by omega) (by omega), gdI (by omega) (by omega) (by omega), I_at rfl (by omega)]
  by_cases q : wy k = 0
  · rw [if_pos q, if_neg (fun z => h ⟨q, z⟩), if_pos rfl]
  · rw [if_neg q, if_pos rfl]
theorem wl_300 (hk : k = 300) (h : ¬ (wy k = 0 ∧ wz k = 0)) {x : Int32} (hs : f_X12_walk_L58 (I (k : Int)) wy wz FU 0 = some (1, x)) : f_X12_walk_L26 mp1 mp mq my mz sy sz (f + 1) (I (k : Int)) qy qz pm met how wy wz pl = some (2, I (k : Int), 0, qy, qz, pm, I (k : Int), 2, wy, wz, pl) := by
  have c : I (k : Int) = 300 := by rw [hk]; rfl
  rw [f_X12_walk_L26, bnd2_s hs, gdI (by omega) (by omega) (by omega), gdI (by omega) (by omega) (by omega), I_at rfl (by omega)]
  by_cases q : wy k = 0
  · rw [if_pos q, if_neg (fun z => h ⟨q, z⟩), if_neg (by decide), if_pos c]
  · rw [if_neg q, if_neg (by decide), if_pos c]
theorem wl_go (hk : k < 300) (h : ¬ (wy k = 0 ∧ wz k = 0)) {x : Int32} (hs : f_X12_walk_L58 (I (k : Int)) wy wz FU 0 = some (1, x)) {c : Int32} {m n : Int} (hm : B62 m) (hn : B62 n) (hc : f_X12_walk_L141 (I (k : Int)) mp1 mp mq my mz sy sz wy wz FU 0 qy qz = some (c, J m, J n)) :
    (¬ (m.natAbs ≤ 1000000 ∧ n.natAbs ≤ 1000000) → f_X12_walk_L26 mp1 mp mq my mz sy sz (f + 1) (I (k : Int)) qy qz pm met how wy wz pl = some (3, I (k : Int), c, J m, J n, I ((k + 1 : Nat) : Int), I ((k + 1 : Nat) : Int), 2, wy, wz, upd pl k c)) ∧ (m.natAbs ≤ 1000000 ∧ n.natAbs ≤ 1000000 → f_X12_walk_L26 mp1 mp mq my mz sy sz (f + 1) (I (k : Int)) qy qz pm met how wy wz pl = f_X12_walk_L26 mp1 mp mq my mz sy sz f (I ((k + 1 : Nat) : Int)) (J m) (J n) (I ((k + 1 : Nat) : Int)) (I ((k + 1 : Nat) : Int)) 2 (upd wy (k + 1) (I m)) (upd wz (k + 1) (I n)) (upd pl k c)) := by
  obtain ⟨-, -, -, -, -, -, -, -, r1, r2, -⟩ := r25
  have c4 : ¬ I (k : Int) = 300 := by rw [show (300 : Int32) = I ((300 : Nat) : Int) from rfl, Ieq0 (by omega) 300 (by omega)]; omega
  have body : f_X12_walk_L26 mp1 mp mq my mz sy sz (f + 1) (I (k : Int)) qy qz pm met how wy wz pl = (if 1000000 < m then some (3, I (k : Int), c, J m, J n, I ((k + 1 : Nat) : Int), I ((k + 1 : Nat) : Int), 2, wy, wz, upd pl k c) else if m < -1000000 then some (3, I (k : Int), c, J m, J n, I ((k + 1 : Nat) : Int), I ((k + 1 : Nat) : Int), 2, wy, wz, upd pl k c) else if 1000000 < n then some (3, I (k : Int), c, J m, J n, I ((k + 1 : Nat) : Int), I ((k + 1 : Nat) : Int), 2, wy, wz, upd pl k c) else if -1000000 ≤ n then f_X12_walk_L26 mp1 mp mq my mz sy sz f (I ((k + 1 : Nat) : Int)) (J m) (J n) (I ((k + 1 : Nat) : Int)) (I ((k + 1 : Nat) : Int)) 2 (upd wy (k + 1) (I m)) (upd wz (k + 1) (I n)) (upd pl k c) else some (3, I (k : Int), c, J m, J n, I ((k + 1 : Nat) : Int), I ((k + 1 : Nat) : Int), 2, wy, wz, upd pl k c)) := by
    rw [f_X12_walk_L26, bnd2_s hs, bnd3_s hc, show (-1000000 : Int64) = J (-1000000) from rfl, show (1000000 : Int64) = J 1000000 from rfl]
    simp only [gdI (a := (k : Int)) (n := 301) (by omega) (by omega) (by omega), gdI (a := (k : Int)) (n := 300) (by omega) (by omega) (by omega), I_at (a := (k : Int)) (n := k) rfl (by omega), I_s, gdI (a := ((k + 1 : Nat) : Int)) (n := 301) (by omega) (by omega) (by omega), I_at (a := ((k + 1 : Nat) : Int)) (n := k + 1) rfl (by omega), J_I, J_lt r1 hm.r, J_lt hm.r r2, J_lt r1 hn.r, J_le r2 hn.r]
    by_cases q : wy k = 0
    · rw [if_pos q, if_neg (fun z => h ⟨q, z⟩), if_neg (by decide), if_neg c4]
    · rw [if_neg q, if_neg (by decide), if_neg c4]
  rw [body]
  constructor
  · intro hh
    by_cases a1 : 1000000 < m
    · rw [if_pos a1]
    by_cases a2 : m < -1000000
    · rw [if_neg a1, if_pos a2]
    by_cases a3 : 1000000 < n
    · rw [if_neg a1, if_neg a2, if_pos a3]
    · rw [if_neg a1, if_neg a2, if_neg a3, if_neg (by omega)]
  · intro hh
    rw [if_neg (by omega : ¬ 1000000 < m), if_neg (by omega : ¬ m < -1000000), if_neg (by omega : ¬ 1000000 < n), if_pos (by omega : -1000000 ≤ n)]
end
theorem l58_loop {k : Nat} (hk : k ≤ 300) {wy wz : Nat → Int32} : ∀ (j m p : Nat), p + j = k → j + 1 ≤ m → (∀ i, i < p → ¬ (wy i = wy k ∧ wz i = wz k)) →
    (∃ i : Nat, i < k ∧ wy i = wy k ∧ wz i = wz k ∧ f_X12_walk_L58 (I (k : Int)) wy wz m (I (p : Int)) = some (0, I (i : Int))) ∨ ((∀ i, i < k → ¬ (wy i = wy k ∧ wz i = wz k)) ∧ f_X12_walk_L58 (I (k : Int)) wy wz m (I (p : Int)) = some (1, I (k : Int))) := by
  intro j
  induction j with
  | zero =>
    intro m p hp hm h
    obtain ⟨m, rfl⟩ : ∃ i, m = i + 1 := ⟨m - 1, by omega⟩
    have : p = k := by omega
    subst this
    refine Or.inr ⟨h, ?_⟩
    rw [f_X12_walk_L58, if_pos ((In_le (by omega) (by omega)).mpr (by omega))]
  | succ j ih =>
    intro m p hp hm h
    obtain ⟨m, rfl⟩ : ∃ i, m = i + 1 := ⟨m - 1, by omega⟩
    have c : ¬ I (k : Int) ≤ I (p : Int) := fun z => by have := (In_le (by omega) (by omega)).mp z; omega
    rw [f_X12_walk_L58, if_neg c]
    simp only [gdI (a := (k : Int)) (n := 301) (by omega) (by omega) (by omega), gdI (a := (p : Int)) (n := 301) (by omega) (by omega) (by omega), I_at (a := (k : Int)) (n := k) rfl (by omega), I_at (a := (p : Int)) (n := p) rfl (by omega), I_s]
    have go : ¬ (wy p = wy k ∧ wz p = wz k) → _ := fun hne => ih m (p + 1) (by omega) (by omega) (fun i hi => by
      by_cases q : i = p
      · subst q; exact hne
      · exact h i (by omega))
    by_cases a1 : wy p = wy k
    · by_cases a2 : wz p = wz k
      · rw [if_pos a1, if_pos a2]
        exact Or.inl ⟨p, by omega, a1, a2, rfl⟩
      · rw [if_pos a1, if_neg a2]
        exact go (fun z => a2 z.2)
    · rw [if_neg a1]
      exact go (fun z => a1 z.1)
theorem l141_loop {P p q y z sY sZ N : Int} (h : RP P p q y z sY sZ N) {dy dz : Nat → Int} {dY dZ dk sy sz : Nat → Int32} (hS : SE P p q sY sZ N dy dz dY dZ dk sy sz) {m n : Int} (hm : m.natAbs ≤ 1000000) (hn : n.natAbs ≤ 1000000) (hP : P = 1 → n = 0) {i : Nat} (hi : i < N.natAbs) (hd : dv p q sY sZ N (m - dy i) (n - dz i)) {k : Nat} (hk : k ≤ 300) {wy wz : Nat → Int32} (hwy : wy k = I m) (hwz : wz k = I n) :
    ∀ (j f x : Nat) (qy qz : Int64), x + j = i → j + 1 ≤ f → f_X12_walk_L141 (I (k : Int)) (I P) (I p) (I q) (I y) (I z) sy sz wy wz f (I (x : Int)) qy qz = some (I (i : Int), J ((tY q sY sZ (m - dy i) (n - dz i)).tdiv N), J ((tZ p sY sZ (m - dy i) (n - dz i)).tdiv N)) := by
  have hN := h.2
  intro j
  induction j with
  | zero =>
    intro f x qy qz hx hf
    obtain ⟨f, rfl⟩ : ∃ i, f = i + 1 := ⟨f - 1, by omega⟩
    have : x = i := by omega
    subst this
    obtain ⟨-, -, s3, s4, s5, s6, s7, -⟩ := hS x hi
    have hdv := (s_divides h (m := m - dy x) (n := n - dz x) (by omega) (by omega) (fun e => by rw [hP e, s7 e]; omega) qy qz).1 hd
    rw [f_X12_walk_L141]
    simp only [gdI (a := (k : Int)) (n := 301) (by omega) (by omega) (by omega), gdI (a := (x : Int)) (n := 25) (by omega) (by omega) (by omega), I_at (a := (k : Int)) (n := k) rfl (by omega), I_at (a := (x : Int)) (n := x) rfl (by omega)]
    rw [hwy, hwz, s3, s4, I_J ⟨by omega, by omega⟩, I_J ⟨by omega, by omega⟩, I_J ⟨by omega, by omega⟩, I_J ⟨by omega, by omega⟩, J_sub, J_sub, bnd3_s hdv, if_neg (by decide)]
  | succ j ih =>
    intro f x qy qz hx hf
    obtain ⟨f, rfl⟩ : ∃ i, f = i + 1 := ⟨f - 1, by omega⟩
    obtain ⟨-, -, s3, s4, s5, s6, s7, -⟩ := hS x (by omega)
    have hne : ¬ dv p q sY sZ N (m - dy x) (n - dz x) := fun hx2 => by
      have h3 := dv_lin 1 (-1) hd hx2
      rw [show 1 * (m - dy i) + -1 * (m - dy x) = dy x - dy i by omega, show 1 * (n - dz i) + -1 * (n - dz x) = dz x - dz i by omega] at h3
      have := SE_inj h hS (by omega) hi h3
      omega
    obtain ⟨qy', qz', hdv⟩ := (s_divides h (m := m - dy x) (n := n - dz x) (by omega) (by omega) (fun e => by rw [hP e, s7 e]; omega) qy qz).2 hne
    rw [f_X12_walk_L141]
    simp only [gdI (a := (k : Int)) (n := 301) (by omega) (by omega) (by omega), gdI (a := (x : Int)) (n := 25) (by omega) (by omega) (by omega), I_at (a := (k : Int)) (n := k) rfl (by omega), I_at (a := (x : Int)) (n := x) rfl (by omega), I_s]
    rw [hwy, hwz, s3, s4, I_J ⟨by omega, by omega⟩, I_J ⟨by omega, by omega⟩, I_J ⟨by omega, by omega⟩, I_J ⟨by omega, by omega⟩, J_sub, J_sub, bnd3_s hdv, if_pos rfl]
    exact ih f (x + 1) qy' qz' (by omega) (by omega)
