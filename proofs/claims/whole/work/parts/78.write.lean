/-! write() -/
theorem s12_isBeyond {z b : Int} (hz : R31 z) (hb : R31 b) (hb2 : R31 (-b)) : f_X12_isBeyond (I z) (I b) = some (if z < -b ∨ b < z then 1 else 0) := by
  unfold f_X12_isBeyond
  rw [I_neg]
  simp only [I_lt hz hb2, I_le hz hb]
  repeat' split
  all_goals first | rfl | (exfalso; omega)
theorem bey_no {z : Int} (hz : z.natAbs ≤ 100000) : f_X11_isBeyond (I z).toInt64 100000 = some 0 ∧ f_X12_isBeyond (I z) 100000 = some 0 := by
  obtain ⟨-, -, -, -, -, -, r7, r8, -⟩ := r25
  have h1 := isB_no (z := z) (b := 100000) ⟨by omega, by omega⟩ r7 r8 (by omega)
  have h2 := s12_isBeyond (z := z) (b := 100000) ⟨by omega, by omega⟩ ⟨by omega, by omega⟩ ⟨by omega, by omega⟩
  rw [if_neg (by omega)] at h2
  exact ⟨by rw [I_J ⟨by omega, by omega⟩]; exact h1, h2⟩
theorem bey_yes {z : Int} (hr : R31 z) (hz : ¬ z.natAbs ≤ 100000) : f_X11_isBeyond (I z).toInt64 100000 = some 1 ∧ f_X12_isBeyond (I z) 100000 = some 1 := by
  obtain ⟨-, -, -, -, -, -, r7, r8, -⟩ := r25
  have hr' := hr
  unfold R31 at hr'
  have h1 := isB_yes (z := z) (b := 100000) ⟨by omega, by omega⟩ r7 r8 (by omega)
  have h2 := s12_isBeyond (z := z) (b := 100000) hr ⟨by omega, by omega⟩ ⟨by omega, by omega⟩
  rw [if_pos (by omega)] at h2
  exact ⟨by rw [I_J hr]; exact h1, h2⟩
theorem w84_loop {n : Nat} (hn : n ≤ 300) {pl : Nat → Int32} : ∀ (j m k : Nat) (la : Nat → Int32), k + j = n → j + 1 ≤ m → (∀ i, i < k → la i = pl i) → ∃ la' : Nat → Int32, f_X12_write_L84 (I (n : Int)) pl m (I (k : Int)) la = some la' ∧ ∀ i, i < n → la' i = pl i := by
  intro j
  induction j with
  | zero =>
    intro m k la hk hm h
    obtain ⟨m, rfl⟩ : ∃ i, m = i + 1 := ⟨m - 1, by omega⟩
    rw [f_X12_write_L84, if_pos ((In_le (by omega) (by omega)).mpr (by omega))]
    exact ⟨la, rfl, fun i hi => h i (by omega)⟩
  | succ j ih =>
    intro m k la hk hm h
    obtain ⟨m, rfl⟩ : ∃ i, m = i + 1 := ⟨m - 1, by omega⟩
    have c : ¬ I (n : Int) ≤ I (k : Int) := fun z => by have := (In_le (by omega) (by omega)).mp z; omega
    rw [f_X12_write_L84, if_neg c, gdI (by omega) (by omega) (by omega), gdI (by omega) (by omega) (by omega), I_at rfl (by omega), I_s]
    refine ih m (k + 1) _ (by omega) (by omega) (fun i hi => ?_)
    by_cases e : i = k
    · subst e; rw [pk_us]
    · rw [pk_un e]; exact h i (by omega)
theorem m_write {P p q y z sY sZ N : Int} {pa cp cq no : Int32} {cy cz cd : Int64} {si : Int32} {dY dZ dk : Nat → Int32} {mpa mp mq my mz mno ms : Int32} {sy sz : Nat → Int32} (h : RR P p q y z sY sZ N pa cp cq no cy cz cd si dY dZ dk mpa mp mq my mz mno ms sy sz) {s : Nat} {st : Int32} {sm : Nat → Int32} (hRS : RS s st sm) (hs : s < 1999999999) {kind ahead len : Int32} {pl : Nat → Int32} {isW lmet lrnd lmany : Int32} {last : Nat → Int32} (hW : RW kind ahead len pl isW lmet lrnd lmany last) (ny nz : Int64) (ts : Int32) (F S : Nat → Int64) (lk he : Nat → Int32) (th : Int32) (qy qz : Int64) (pm met len0 how : Int32) (wy wz pl2 : Nat → Int32) (l1 l2 : Int32) :
    ∃ (r st' ts' : Int32) (F' S' : Nat → Int64) (lk' he' sm' : Nat → Int32) (ny' nz' : Int64) (kind' ahead' len' : Int32) (pl' : Nat → Int32) (qy' qz' : Int64) (pm' met' len0' how' isW' lmet' lrnd' lmany' : Int32) (wy' wz' pl2' last' : Nat → Int32) (s' : Nat),
      f_X11_write st ts F S lk he sm pa cp cq no cy cz cd si ny nz dY dZ dk kind ahead len pl l1 l2 = some (r, st', ts', F', S', lk', he', sm', ny', nz', kind', ahead', len', pl') ∧
      f_X12_write th mpa mp mq my mz ms qy qz pm met len0 how isW lmet lrnd lmany sy sz wy wz pl2 last l1 l2 = some (r, 0, qy', qz', pm', met', len0', how', isW', lmet', lrnd', lmany', wy', wz', pl2', last') ∧
      RW kind' ahead' len' pl' isW' lmet' lrnd' lmany' last' ∧ RS s' st' sm' ∧ s' ≤ s + 1 := by
  obtain ⟨hP, rfl, rfl, rfl, rfl, rfl, rfl, rfl, rfl, rfl, rfl, rfl, rfl, rfl, rfl, hset⟩ := h
  obtain ⟨-, -, -, -, -, -, hPc⟩ := RP_s hP
  have hN := hP.2
  have none : ∃ (r st' ts' : Int32) (F' S' : Nat → Int64) (lk' he' sm' : Nat → Int32) (ny' nz' : Int64) (kind' ahead' len' : Int32) (pl' : Nat → Int32) (qy' qz' : Int64) (pm' met' len0' how' isW' lmet' lrnd' lmany' : Int32) (wy' wz' pl2' last' : Nat → Int32) (s' : Nat), (some (-1, st, ts, F, S, lk, he, sm, ny, nz, kind, ahead, len, pl) : Option (Int32 × Int32 × Int32 × (Nat → Int64) × (Nat → Int64) × (Nat → Int32) × (Nat → Int32) × (Nat → Int32) × Int64 × Int64 × Int32 × Int32 × Int32 × (Nat → Int32))) = some (r, st', ts', F', S', lk', he', sm', ny', nz', kind', ahead', len', pl') ∧ (some (-1, 0, qy, qz, pm, met, len0, how, isW, lmet, lrnd, lmany, wy, wz, pl2, last) : Option (Int32 × Int32 × Int64 × Int64 × Int32 × Int32 × Int32 × Int32 × Int32 × Int32 × Int32 × Int32 × (Nat → Int32) × (Nat → Int32) × (Nat → Int32) × (Nat → Int32))) = some (r, 0, qy', qz', pm', met', len0', how', isW', lmet', lrnd', lmany', wy', wz', pl2', last') ∧ RW kind' ahead' len' pl' isW' lmet' lrnd' lmany' last' ∧ RS s' st' sm' ∧ s' ≤ s + 1 :=
    ⟨_, _, _, _, _, _, _, _, _, _, _, _, _, _, _, _, _, _, _, _, _, _, _, _, _, _, _, _, s, rfl, rfl, hW, hRS, by omega⟩
  obtain ⟨m, hm, rfl⟩ := i32_cases l1
  obtain ⟨n, hn, rfl⟩ := i32_cases l2
  have core : ∀ n' : Int, n'.natAbs ≤ 100000 → m.natAbs ≤ 100000 → (P = 1 → n' = 0) → (∃ dy dz : Nat → Int, SE P p q sY sZ N dy dz dY dZ dk sy sz) → ∃ (r st' ts' : Int32) (F' S' : Nat → Int64) (lk' he' sm' : Nat → Int32) (ny' nz' : Int64) (kind' ahead' len' : Int32) (pl' : Nat → Int32) (qy' qz' : Int64) (pm' met' len0' how' isW' lmet' lrnd' lmany' : Int32) (wy' wz' pl2' last' : Nat → Int32) (s' : Nat),
      (bnd13 (f_X10_go kind ahead len pl (I p) (I q) (I (N.natAbs : Int)) (J sY) (J sZ) (J N) ny nz dY dZ dk st ts F S lk he sm (I m).toInt64 (I n').toInt64) fun a1 a2 a3 a4 a5 a6 a7 a8 a9 a10 a11 a12 a13 => some (a1, a7, a8, a9, a10, a11, a12, a13, a5, a6, a1, a2, a3, a4)) = some (r, st', ts', F', S', lk', he', sm', ny', nz', kind', ahead', len', pl') ∧
      (bnd9 (f_X12_walk (I P) (I p) (I q) (I y) (I z) qy qz pm met len0 how sy sz wy wz pl2 (I m) (I n')) fun b1 b2 b3 b4 b5 b6 b7 b8 b9 => bnd1 (f_X12_write_L84 b3 b9 FU 0 last) fun c => some (b6, (0 : Int32), b1, b2, b3, b4, b5, b6, (1 : Int32), b4, b5, b3, b7, b8, b9, c)) = some (r, (0 : Int32), qy', qz', pm', met', len0', how', isW', lmet', lrnd', lmany', wy', wz', pl2', last') ∧
      RW kind' ahead' len' pl' isW' lmet' lrnd' lmany' last' ∧ RS s' st' sm' ∧ s' ≤ s + 1 := by
    rintro n' h1 h2 h3 ⟨dy, dz, hS⟩
    have hn' : R31 n' := ⟨by omega, by omega⟩
    obtain ⟨A, L, kd, pl', ny', nz', ts', F', S', lk', he', sm', qy', qz', wy', wz', pl2', g1, g2, g3, g4, g5, g6, -⟩ := s_walk hP hS hRS hs (m := m) (n := n') (by omega) (by omega) h3 kind ahead len pl ny nz ts F S lk he qy qz pm met len0 how wy wz pl2
    obtain ⟨la, w1, w2⟩ := w84_loop (n := A + L) g4 (pl := pl2') (A + L) FU 0 last (by omega) (by rw [FU_eq]; omega) (fun i hi => absurd hi (by omega))
    have w1 : f_X12_write_L84 (I ((A + L : Nat) : Int)) pl2' FU 0 last = some la := w1
    rw [I_J hm, I_J hn', bnd13_s g1, bnd9_s g2, bnd1_s w1]
    refine ⟨_, _, _, _, _, _, _, _, _, _, _, _, _, _, _, _, _, _, _, _, _, _, _, _, _, _, _, _, s + 1, rfl, rfl, Or.inr ⟨rfl, ?_, A, L, rfl, rfl, rfl, rfl, g4, rfl, fun k hk => by rw [g5 k hk, w2 k hk]⟩, g6, by omega⟩
    rcases g3 with e | e | e <;> rw [e] <;> decide
  unfold f_X11_write f_X12_write
  by_cases e0 : si = 0
  · rw [if_pos e0, if_pos e0, if_pos e0, if_pos e0]
    split <;> exact none
  · rw [if_neg e0, if_neg e0, if_neg e0, if_neg e0]
    have hset := (hset.resolve_left e0).2
    by_cases hmB : m.natAbs ≤ 100000
    · rw [bnd1_s (bey_no hmB).1, bnd1_s (bey_no hmB).1, bnd1_s (bey_no hmB).2, bnd1_s (bey_no hmB).2, if_pos rfl, if_pos rfl, if_pos rfl, if_pos rfl]
      rcases hPc with rfl | rfl
      · have h0 := bey_no (z := 0) (by decide)
        have h01 : f_X11_isBeyond ((0 : Int32).toInt64) 100000 = some 0 := h0.1
        have h02 : f_X12_isBeyond 0 100000 = some 0 := h0.2
        rw [if_pos (show I 1 = 1 from rfl), if_pos (show I 1 = 1 from rfl), bnd1_s h01, if_pos rfl, bnd1_s h02, if_pos rfl]
        exact core 0 (by decide) hmB (fun _ => rfl) hset
      · rw [if_neg (show ¬ I 2 = 1 by decide), if_neg (show ¬ I 2 = 1 by decide)]
        by_cases hnB : n.natAbs ≤ 100000
        · rw [bnd1_s (bey_no hnB).1, if_pos rfl, bnd1_s (bey_no hnB).2, if_pos rfl]
          have cc := core n hnB hmB (fun e => absurd e (by decide)) hset
          obtain ⟨a1, a2, a3, a4, a5, a6, a7, a8, a9, a10, a11, a12, a13, a14, a15, a16, a17, a18, a19, a20, a21, a22, a23, a24, a25, a26, a27, a28, s', k1, k2, k3, k4, k5⟩ := cc
          refine ⟨a1, a2, a3, a4, a5, a6, a7, a8, a9, a10, a11, a12, a13, a14, a15, a16, a17, a18, a19, a20, a21, a22, a23, a24, a25, a26, a27, a28, s', ?_, ?_, k3, k4, k5⟩
          · exact k1
          · exact k2
        · rw [bnd1_s (bey_yes hn hnB).1, if_neg (by decide), bnd1_s (bey_yes hn hnB).2, if_neg (by decide)]
          exact none
    · rw [bnd1_s (bey_yes hm hmB).1, bnd1_s (bey_yes hm hmB).1, bnd1_s (bey_yes hm hmB).2, bnd1_s (bey_yes hm hmB).2, if_neg (show ¬ (1 : Int32) = 0 by decide), if_neg (show ¬ (1 : Int32) = 0 by decide), if_neg (show ¬ (1 : Int32) = 0 by decide), if_neg (show ¬ (1 : Int32) = 0 by decide)]
      rcases hPc with rfl | rfl
      · rw [if_pos (show I 1 = 1 from rfl), if_pos (show I 1 = 1 from rfl)]
        exact none
      · rw [if_neg (show ¬ I 2 = 1 by decide), if_neg (show ¬ I 2 = 1 by decide)]
        exact none
