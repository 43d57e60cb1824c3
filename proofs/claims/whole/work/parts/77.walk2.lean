/-! a walk: go() and walk() -/
def WR (tg tg' A L : Nat) (kd x11 x12 y3 y4 pm met how : Int32) : Prop :=
  (tg = 0 ∧ tg' = 0 ∧ kd = 0 ∧ L = 0 ∧ x11 = I (A : Int) ∧ met = I (A : Int) ∧ pm = I ((A + L : Nat) : Int)) ∨
  (tg = 2 ∧ tg' = 1 ∧ kd = 1 ∧ x12 = I (A : Int) ∧ y4 = I (A : Int) ∧ x11 - x12 = I (L : Int) ∧ y3 - y4 = I (L : Int) ∧ pm = I ((A + L : Nat) : Int)) ∨
  (tg = 1 ∧ tg' = 3 ∧ kd = 2 ∧ L = 0 ∧ x11 = I (A : Int) ∧ met = I (A : Int) ∧ pm = I ((A + L : Nat) : Int) ∧ how = 2) ∨
  (tg = 3 ∧ tg' = 2 ∧ kd = 2 ∧ A = 300 ∧ L = 0 ∧ met = I (A : Int) ∧ pm = I ((A + L : Nat) : Int) ∧ how = 2)
/-- the way as both hold it -/
def WY (k : Nat) (F S : Nat → Int64) (wy wz : Nat → Int32) : Prop := ∀ i, i < k → ∃ m n : Int, F i = J m ∧ S i = J n ∧ wy i = I m ∧ wz i = I n ∧ m.natAbs ≤ 1000000 ∧ n.natAbs ≤ 1000000
theorem WY_I {m n : Int} (h : J m = J n) : I m = I n := by rw [← J_I, ← J_I, h]
theorem RP_z0 {P p q y z sY sZ N : Int} (h : RP P p q y z sY sZ N) {m n : Int} (h1 : P = 1 → n = 0) : P = 1 → (tZ p sY sZ m n).tdiv N = 0 := by
  intro e
  have hn := h1 e
  rcases h.1 with ⟨-, rfl, -, -, rfl, rfl, -⟩ | ⟨e2, -⟩
  · subst hn
    rw [show tZ 0 1 0 m 0 = 0 by unfold tZ; omega, Int.zero_tdiv]
  · omega
set_option maxHeartbeats 1000000 in
theorem walk_loop {P p q y z sY sZ N : Int} (h : RP P p q y z sY sZ N) {dy dz : Nat → Int} {dY dZ dk sy sz : Nat → Int32} (hS : SE P p q sY sZ N dy dz dY dZ dk sy sz) {s : Nat} {st : Int32} :
    ∀ (j k f f' : Nat) (m n : Int) (pl : Nat → Int32) (ny nz : Int64) (ts : Int32) (F S : Nat → Int64) (lk he sm : Nat → Int32) (qy qz : Int64) (met how : Int32) (wy wz pl2 : Nat → Int32), k + j = 300 → j + 2 ≤ f → j + 1 ≤ f' → m.natAbs ≤ 1000000 → n.natAbs ≤ 1000000 → (P = 1 → n = 0) → TR s k st ts F S lk he sm → WY k F S wy wz → wy k = I m → wz k = I n → (∀ i i', i < i' → i' < k → ¬ (wy i = wy i' ∧ wz i = wz i')) → (∀ i, i < k → pl i = pl2 i) →
    ∃ (tg tg' A L : Nat) (kd x11 x12 : Int32) (pl' : Nat → Int32) (ny' nz' : Int64) (ts' : Int32) (F' S' : Nat → Int64) (lk' he' sm' : Nat → Int32) (y3 y4 : Int32) (qy' qz' : Int64) (pm' met' how' : Int32) (wy' wz' pl2' : Nat → Int32),
      f_X10_go_L14 (I p) (I q) (I (N.natAbs : Int)) (J sY) (J sZ) (J N) dY dZ dk st f (J m) (J n) (I (k : Int)) pl ny nz ts F S lk he sm = some (tg, x11, x12, pl', ny', nz', ts', F', S', lk', he', sm') ∧
      f_X12_walk_L26 (I P) (I p) (I q) (I y) (I z) sy sz f' (I (k : Int)) qy qz (I (k : Int)) met how wy wz pl2 = some (tg', y3, y4, qy', qz', pm', met', how', wy', wz', pl2') ∧
      WR tg tg' A L kd x11 x12 y3 y4 pm' met' how' ∧ A + L ≤ 300 ∧ (∀ i, i < A + L → pl' i = pl2' i) ∧ RS s st sm' ∧ (kd = 1 → 1 ≤ L ∧ ts' = I ((A + L : Nat) : Int) ∧ WY (A + L) F' S' wy' wz') := by
  have hN := h.2
  have z6 : R63 0 := ⟨by omega, by omega⟩
  have z3 : R31 0 := ⟨by omega, by omega⟩
  intro j
  induction j with
  | zero =>
    intro k f f' m n pl ny nz ts F S lk he sm qy qz met how wy wz pl2 hk hf hf' hm hn hP1 hTR hW hwy hwz hdis hpl
    obtain ⟨f, rfl⟩ : ∃ i, f = i + 2 := ⟨f - 2, by omega⟩
    obtain ⟨f', rfl⟩ : ∃ i, f' = i + 1 := ⟨f' - 1, by omega⟩
    have hRS := TR_RS hTR
    have cz : (wy k = 0 ∧ wz k = 0) ↔ (J m = 0 ∧ J n = 0) := by
      rw [hwy, hwz, I0, J0, I_eq ⟨by omega, by omega⟩ z3, I_eq ⟨by omega, by omega⟩ z3, J_eq ⟨by omega, by omega⟩ z6, J_eq ⟨by omega, by omega⟩ z6]
    by_cases q0 : J m = 0 ∧ J n = 0
    · exact ⟨0, 0, k, 0, 0, _, _, _, _, _, _, _, _, _, _, _, _, _, _, _, _, _, _, _, _, _, gl_end (by omega) q0, wl_end (by omega) (cz.mpr q0), Or.inl ⟨rfl, rfl, rfl, rfl, rfl, rfl, rfl⟩, by omega, hpl, hRS, fun e => absurd e (by decide)⟩
    · have q0' : ¬ (wy k = 0 ∧ wz k = 0) := fun e => q0 (cz.mp e)
      have h58 := l58_loop (k := k) (by omega) (wy := wy) (wz := wz) k FU 0 (by omega) (by rw [FU_eq]; omega) (fun i hi => absurd hi (by omega))
      rcases s_meet hTR (by omega) (J m) (J n) with ⟨i, i1, i2, i3, i4⟩ | ⟨i1, lk', he', sm', i4, i5⟩
      · obtain ⟨a, b, w1, w2, w3, w4, w5, w6⟩ := hW i i1
        have e1 : wy i = wy k := by rw [w3, hwy]; exact WY_I (by rw [← w1, i2])
        have e2 : wz i = wz k := by rw [w4, hwz]; exact WY_I (by rw [← w2, i3])
        rcases h58 with ⟨p', p1, p2, p3, p4⟩ | ⟨p1, -⟩
        · have e : p' = i := by
            rcases Nat.lt_trichotomy p' i with z | z | z
            · exact absurd ⟨by rw [p2, e1], by rw [p3, e2]⟩ (hdis p' i z i1)
            · exact z
            · exact absurd ⟨by rw [p2, e1], by rw [p3, e2]⟩ (hdis i p' z p1)
          subst e
          have ed : I (k : Int) - I (p' : Int) = I ((k - p' : Nat) : Int) := by rw [I_sub]; congr 1; omega
          have ek : p' + (k - p') = k := by omega
          refine ⟨2, 1, p', k - p', 1, _, _, _, _, _, _, _, _, _, _, _, _, _, _, _, _, _, _, _, _, _, gl_met (by omega) hm hn q0 (by omega) i4, wl_met (by omega) q0' p4, Or.inr (Or.inl ⟨rfl, rfl, rfl, rfl, rfl, ed, ed, by rw [ek]⟩), by omega, fun i hi => hpl i (by omega), hRS, fun _ => ⟨by omega, ?_, ?_⟩⟩
          · rw [ek]; exact hTR.2.2.1
          · rw [ek]; exact hW
        · exact absurd ⟨e1, e2⟩ (p1 i i1)
      · rcases h58 with ⟨p', p1, p2, p3, p4⟩ | ⟨-, p4⟩
        · obtain ⟨a, b, w1, w2, w3, w4, w5, w6⟩ := hW p' p1
          refine absurd ⟨?_, ?_⟩ (i1 p' p1)
          · rw [w3, hwy, I_eq ⟨by omega, by omega⟩ ⟨by omega, by omega⟩] at p2
            rw [w1, p2]
          · rw [w4, hwz, I_eq ⟨by omega, by omega⟩ ⟨by omega, by omega⟩] at p3
            rw [w2, p3]
        · exact ⟨3, 2, k, 0, 2, _, _, _, _, _, _, _, _, _, _, _, _, _, _, _, _, _, _, _, _, _, gl_300 (by omega) hm hn q0 i4, wl_300 (by omega) q0' p4, Or.inr (Or.inr (Or.inr ⟨rfl, rfl, rfl, by omega, rfl, rfl, rfl, rfl⟩)), by omega, fun i hi => hpl i (by omega), TR_RS i5, fun e => absurd e (by decide)⟩
  | succ j ih =>
    intro k f f' m n pl ny nz ts F S lk he sm qy qz met how wy wz pl2 hk hf hf' hm hn hP1 hTR hW hwy hwz hdis hpl
    obtain ⟨f, rfl⟩ : ∃ i, f = i + 1 := ⟨f - 1, by omega⟩
    obtain ⟨f', rfl⟩ : ∃ i, f' = i + 1 := ⟨f' - 1, by omega⟩
    have hRS := TR_RS hTR
    have cz : (wy k = 0 ∧ wz k = 0) ↔ (J m = 0 ∧ J n = 0) := by
      rw [hwy, hwz, I0, J0, I_eq ⟨by omega, by omega⟩ z3, I_eq ⟨by omega, by omega⟩ z3, J_eq ⟨by omega, by omega⟩ z6, J_eq ⟨by omega, by omega⟩ z6]
    by_cases q0 : J m = 0 ∧ J n = 0
    · exact ⟨0, 0, k, 0, 0, _, _, _, _, _, _, _, _, _, _, _, _, _, _, _, _, _, _, _, _, _, gl_end (by omega) q0, wl_end (by omega) (cz.mpr q0), Or.inl ⟨rfl, rfl, rfl, rfl, rfl, rfl, rfl⟩, by omega, hpl, hRS, fun e => absurd e (by decide)⟩
    · have q0' : ¬ (wy k = 0 ∧ wz k = 0) := fun e => q0 (cz.mp e)
      have h58 := l58_loop (k := k) (by omega) (wy := wy) (wz := wz) k FU 0 (by omega) (by rw [FU_eq]; omega) (fun i hi => absurd hi (by omega))
      rcases s_meet hTR (by omega) (J m) (J n) with ⟨i, i1, i2, i3, i4⟩ | ⟨i1, lk', he', sm', i4, i5⟩
      · obtain ⟨a, b, w1, w2, w3, w4, w5, w6⟩ := hW i i1
        have e1 : wy i = wy k := by rw [w3, hwy]; exact WY_I (by rw [← w1, i2])
        have e2 : wz i = wz k := by rw [w4, hwz]; exact WY_I (by rw [← w2, i3])
        rcases h58 with ⟨p', p1, p2, p3, p4⟩ | ⟨p1, -⟩
        · have e : p' = i := by
            rcases Nat.lt_trichotomy p' i with z | z | z
            · exact absurd ⟨by rw [p2, e1], by rw [p3, e2]⟩ (hdis p' i z i1)
            · exact z
            · exact absurd ⟨by rw [p2, e1], by rw [p3, e2]⟩ (hdis i p' z p1)
          subst e
          have ed : I (k : Int) - I (p' : Int) = I ((k - p' : Nat) : Int) := by rw [I_sub]; congr 1; omega
          have ek : p' + (k - p') = k := by omega
          refine ⟨2, 1, p', k - p', 1, _, _, _, _, _, _, _, _, _, _, _, _, _, _, _, _, _, _, _, _, _, gl_met (by omega) hm hn q0 (by omega) i4, wl_met (by omega) q0' p4, Or.inr (Or.inl ⟨rfl, rfl, rfl, rfl, rfl, ed, ed, by rw [ek]⟩), by omega, fun i hi => hpl i (by omega), hRS, fun _ => ⟨by omega, ?_, ?_⟩⟩
          · rw [ek]; exact hTR.2.2.1
          · rw [ek]; exact hW
        · exact absurd ⟨e1, e2⟩ (p1 i i1)
      · rcases h58 with ⟨p', p1, p2, p3, p4⟩ | ⟨p1, p4⟩
        · obtain ⟨a, b, w1, w2, w3, w4, w5, w6⟩ := hW p' p1
          refine absurd ⟨?_, ?_⟩ (i1 p' p1)
          · rw [w3, hwy, I_eq ⟨by omega, by omega⟩ ⟨by omega, by omega⟩] at p2
            rw [w1, p2]
          · rw [w4, hwz, I_eq ⟨by omega, by omega⟩ ⟨by omega, by omega⟩] at p3
            rw [w2, p3]
        · obtain ⟨i, hi, hd⟩ := RP_digit h (fun e i hi => (hS i hi).2.2.2.2.2.2.1 e) (fun i j a b => SE_inj h hS a b) m n hP1
          obtain ⟨-, -, -, -, s5, s6, s7, -⟩ := hS i hi
          obtain ⟨b1, b2⟩ := t_bd h (m := m - dy i) (n := n - dz i) (by omega) (by omega)
          have bY := (B62_nat b1 (by decide)).q (g := N)
          have bZ := (B62_nat b2 (by decide)).q (g := N)
          have hst := s_step h hS hm hn hi hd ny nz
          have h141 := l141_loop h hS hm hn hP1 hi hd (k := k) (by omega) hwy hwz i FU 0 qy qz (by omega) (by rw [FU_eq]; omega)
          have h141 : f_X12_walk_L141 (I (k : Int)) (I P) (I p) (I q) (I y) (I z) sy sz wy wz FU 0 qy qz = _ := h141
          have hz0 := RP_z0 h (m := m - dy i) (n := n - dz i) (fun e => by rw [hP1 e, s7 e]; omega)
          have g1 := gl_step (f := f) (pl := pl) (k := k) (by omega) hm hn q0 i4 hst
          have g2 := wl_go (f := f') (pm := I (k : Int)) (met := met) (how := how) (pl := pl2) (k := k) (by omega) q0' p4 bY bZ h141
          generalize (tY q sY sZ (m - dy i) (n - dz i)).tdiv N = m' at *
          generalize (tZ p sY sZ (m - dy i) (n - dz i)).tdiv N = n' at *
          by_cases hin : m'.natAbs ≤ 1000000 ∧ n'.natAbs ≤ 1000000
          · rw [g1, g2.2 hin]
            refine ih (k + 1) f f' m' n' _ _ _ _ _ _ _ _ _ _ _ _ _ _ _ _ (by omega) (by omega) (by omega) hin.1 hin.2 hz0 i5 ?_ ?_ ?_ ?_ ?_
            · intro x hx
              by_cases z : x = k
              · subst z
                rw [pk_uLs, pk_uLs, pk_un (by omega), pk_un (by omega)]
                exact ⟨m, n, rfl, rfl, hwy, hwz, hm, hn⟩
              · rw [pk_uLn z, pk_uLn z, pk_un (by omega), pk_un (by omega)]
                exact hW x (by omega)
            · rw [pk_us]
            · rw [pk_us]
            · intro x x' h1 h2
              rw [pk_un (by omega), pk_un (by omega), pk_un (by omega), pk_un (by omega)]
              by_cases z : x' = k
              · subst z; exact p1 x h1
              · exact hdis x x' h1 (by omega)
            · intro x hx
              by_cases z : x = k
              · subst z; rw [pk_us, pk_us]
              · rw [pk_un z, pk_un z]; exact hpl x (by omega)
          · obtain ⟨f, rfl⟩ : ∃ i, f = i + 1 := ⟨f - 1, by omega⟩
            refine ⟨1, 3, k + 1, 0, 2, _, _, _, _, _, _, _, _, _, _, _, _, _, _, _, _, _, _, _, _, _, by rw [g1]; exact gl_far (by omega) bY bZ hin, g2.1 hin, Or.inr (Or.inr (Or.inl ⟨rfl, rfl, rfl, rfl, rfl, rfl, rfl, rfl⟩)), by omega, fun x hx => ?_, TR_RS i5, fun e => absurd e (by decide)⟩
            by_cases z : x = k
            · subst z; rw [pk_us, pk_us]
            · rw [pk_un z, pk_un z]; exact hpl x (by omega)
theorem s_walk {P p q y z sY sZ N : Int} (h : RP P p q y z sY sZ N) {dy dz : Nat → Int} {dY dZ dk sy sz : Nat → Int32} (hS : SE P p q sY sZ N dy dz dY dZ dk sy sz) {s : Nat} {st : Int32} {sm : Nat → Int32} (hRS : RS s st sm) (hs : s < 1999999999) {m n : Int} (hm : m.natAbs ≤ 1000000) (hn : n.natAbs ≤ 1000000) (hP1 : P = 1 → n = 0) (kd0 ah0 le0 : Int32) (pl : Nat → Int32) (ny nz : Int64) (ts : Int32) (F S : Nat → Int64) (lk he : Nat → Int32) (qy qz : Int64) (pm met len how : Int32) (wy wz pl2 : Nat → Int32) :
    ∃ (A L : Nat) (kd : Int32) (pl' : Nat → Int32) (ny' nz' : Int64) (ts' : Int32) (F' S' : Nat → Int64) (lk' he' sm' : Nat → Int32) (qy' qz' : Int64) (wy' wz' pl2' : Nat → Int32),
      f_X10_go kd0 ah0 le0 pl (I p) (I q) (I (N.natAbs : Int)) (J sY) (J sZ) (J N) ny nz dY dZ dk st ts F S lk he sm (J m) (J n) = some (kd, I (A : Int), I (L : Int), pl', ny', nz', I ((s + 1 : Nat) : Int), ts', F', S', lk', he', sm') ∧
      f_X12_walk (I P) (I p) (I q) (I y) (I z) qy qz pm met len how sy sz wy wz pl2 (I m) (I n) = some (qy', qz', I ((A + L : Nat) : Int), I (A : Int), I (L : Int), kd, wy', wz', pl2') ∧
      (kd = 0 ∨ kd = 1 ∨ kd = 2) ∧ A + L ≤ 300 ∧ (∀ i, i < A + L → pl' i = pl2' i) ∧ RS (s + 1) (I ((s + 1 : Nat) : Int)) sm' ∧ (kd = 1 → 1 ≤ L ∧ ts' = I ((A + L : Nat) : Int) ∧ WY (A + L) F' S' wy' wz') := by
  obtain ⟨cc, hTR⟩ := TR_clear hRS hs F S lk he ts
  obtain ⟨tg, tg', A, L, kd, x11, x12, pl', ny', nz', ts', F', S', lk', he', sm', y3, y4, qy', qz', pm', met', how', wy', wz', pl2', g1, g2, g3, g4, g5, g6, g7⟩ := walk_loop h hS 300 0 FU FU m n pl ny nz 0 F S lk he sm qy qz met how (upd wy 0 (I m)) (upd wz 0 (I n)) pl2 (by omega) (by rw [FU_eq]; omega) (by rw [FU_eq]; omega) hm hn hP1 hTR (fun i hi => absurd hi (by omega)) (by rw [pk_us]) (by rw [pk_us]) (fun i i' _ h2 => absurd h2 (by omega)) (fun i hi => absurd hi (by omega))
  have g1 : f_X10_go_L14 (I p) (I q) (I (N.natAbs : Int)) (J sY) (J sZ) (J N) dY dZ dk (I ((s + 1 : Nat) : Int)) FU (J m) (J n) 0 pl ny nz 0 F S lk he sm = _ := g1
  have g2 : f_X12_walk_L26 (I P) (I p) (I q) (I y) (I z) sy sz FU 0 qy qz 0 met how (upd wy (0 : Int32).toNatClampNeg (I m)) (upd wz (0 : Int32).toNatClampNeg (I n)) pl2 = _ := g2
  refine ⟨A, L, kd, pl', ny', nz', ts', F', S', lk', he', sm', qy', qz', wy', wz', pl2', ?_, ?_, ?_, g4, g5, g6, g7⟩
  · unfold f_X10_go f_X10_settle
    rw [bnd2_s cc, bnd12_s g1]
    rcases g3 with ⟨rfl, -, rfl, rfl, rfl, -⟩ | ⟨rfl, -, rfl, rfl, -, e1, -⟩ | ⟨rfl, -, rfl, rfl, rfl, -⟩ | ⟨rfl, -, rfl, rfl, rfl, -⟩
    · rw [if_pos rfl, bnd3_s rfl]; rfl
    · rw [if_neg (by decide), if_neg (by decide), if_pos rfl, e1, bnd3_s rfl]
    · rw [if_neg (by decide), if_pos rfl, bnd3_s rfl]; rfl
    · rw [if_neg (by decide), if_neg (by decide), if_neg (by decide), bnd3_s rfl]; rfl
  · unfold f_X12_walk
    rw [gd_t (by decide), gd_t (by decide), bnd11_s g2]
    rcases g3 with ⟨-, rfl, rfl, rfl, -, rfl, rfl⟩ | ⟨-, rfl, rfl, -, rfl, -, e1, rfl⟩ | ⟨-, rfl, rfl, rfl, -, rfl, rfl, rfl⟩ | ⟨-, rfl, rfl, -, rfl, rfl, rfl, rfl⟩
    · rw [if_pos rfl]; rfl
    · rw [if_neg (by decide), if_pos rfl, e1]
    · rw [if_neg (by decide), if_neg (by decide), if_neg (by decide)]; rfl
    · rw [if_neg (by decide), if_neg (by decide), if_pos rfl]; rfl
  · rcases g3 with ⟨-, -, e, -⟩ | ⟨-, -, e, -⟩ | ⟨-, -, e, -⟩ | ⟨-, -, e, -⟩
    · exact Or.inl e
    · exact Or.inr (Or.inl e)
    · exact Or.inr (Or.inr e)
    · exact Or.inr (Or.inr e)
