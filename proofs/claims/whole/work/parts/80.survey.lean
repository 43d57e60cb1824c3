/-! all members of a square: rounds(), ending() -/
set_option maxHeartbeats 1000000 in
theorem sv_in {P p q y z sY sZ N : Int} (h : RP P p q y z sY sZ N) {dy dz : Nat → Int} {dY dZ dk sy sz : Nat → Int32} (hS : SE P p q sY sZ N dy dz dY dZ dk sy sz) {s0 : Nat} (hs0 : s0 < 1999990000) {W r : Nat} (hW : W ≤ 10) (hWr : (P = 1 ∧ W = 0) ∨ (P = 2 ∧ W = r)) {v : Int} (hv : v.natAbs ≤ 10) :
    ∀ (j f f' : Nat) (zi : Int) (c n : Nat) (en st ts : Int32) (F S : Nat → Int64) (lk he sm : Nat → Int32) (ny nz : Int64) (pk pa pl : Int32) (pp le ys zs : Nat → Int32) (qy qz : Int64) (pm met len how : Int32) (wy wz pl2 rl ry rz : Nat → Int32), zi + j = W + 1 → j ≤ 2 * W + 1 → c + j ≤ 441 → j + 1 ≤ f → j + 1 ≤ f' → n ≤ c → RS (s0 + c) st sm → AG n le ys zs rl ry rz →
    ∃ (tg c' n' : Nat) (en' st' ts' : Int32) (F' S' : Nat → Int64) (lk' he' sm' : Nat → Int32) (ny' nz' : Int64) (pk' pa' pl' : Int32) (pp' le' ys' zs' : Nat → Int32) (qy' qz' : Int64) (pm' met' len' how' : Int32) (wy' wz' pl2' rl' ry' rz' : Nat → Int32),
      f_X11_surveyAll_L64 (I (W : Int)) (I v) (I p) (I q) (I (N.natAbs : Int)) (J sY) (J sZ) (J N) dY dZ dk f (I zi) en st ts F S lk he sm ny nz pk pa pl pp (I (n : Int)) le ys zs = some (tg, en', st', ts', F', S', lk', he', sm', ny', nz', pk', pa', pl', pp', I (n' : Int), le', ys', zs') ∧
      f_X12_all_L52 (I (r : Int)) (I v) (I P) (I p) (I q) (I y) (I z) sy sz f' (I zi) qy qz pm met len how (I (n : Int)) en wy wz pl2 rl ry rz = some (tg, qy', qz', pm', met', len', how', I (n' : Int), en', wy', wz', pl2', rl', ry', rz') ∧
      (tg = 0 ∨ tg = 1) ∧ n' ≤ c' ∧ c' ≤ c + j ∧ RS (s0 + c') st' sm' ∧ AG n' le' ys' zs' rl' ry' rz' := by
  intro j
  induction j with
  | zero =>
    intro f f' zi c n en st ts F S lk he sm ny nz pk pa pl pp le ys zs qy qz pm met len how wy wz pl2 rl ry rz hz hj hc hf hf' hn hRS hA
    obtain ⟨f, rfl⟩ : ∃ i, f = i + 1 := ⟨f - 1, by omega⟩
    obtain ⟨f', rfl⟩ : ∃ i, f' = i + 1 := ⟨f' - 1, by omega⟩
    have c1 : I (W : Int) < I zi := by rw [I_lt (r31n (by omega)) ⟨by omega, by omega⟩]; omega
    rw [f_X11_surveyAll_L64, if_pos c1, f_X12_all_L52]
    rcases hWr with ⟨rfl, rfl⟩ | ⟨rfl, rfl⟩
    · rw [if_pos (show I 1 = 1 from rfl), if_pos (show (0 : Int32) < I zi from c1)]
      exact ⟨1, c, n, _, _, _, _, _, _, _, _, _, _, _, _, _, _, _, _, _, _, _, _, _, _, _, _, _, _, _, _, _, rfl, rfl, Or.inr rfl, hn, by omega, hRS, hA⟩
    · rw [if_neg (show ¬ I 2 = 1 by decide), if_pos c1]
      exact ⟨1, c, n, _, _, _, _, _, _, _, _, _, _, _, _, _, _, _, _, _, _, _, _, _, _, _, _, _, _, _, _, _, rfl, rfl, Or.inr rfl, hn, by omega, hRS, hA⟩
  | succ j ih =>
    intro f f' zi c n en st ts F S lk he sm ny nz pk pa pl pp le ys zs qy qz pm met len how wy wz pl2 rl ry rz hz hj hc hf hf' hn hRS hA
    obtain ⟨f, rfl⟩ : ∃ i, f = i + 1 := ⟨f - 1, by omega⟩
    obtain ⟨f', rfl⟩ : ∃ i, f' = i + 1 := ⟨f' - 1, by omega⟩
    have c1 : ¬ I (W : Int) < I zi := by rw [I_lt (r31n (by omega)) ⟨by omega, by omega⟩]; omega
    have hP1 : P = 1 → zi = 0 := fun e => by rcases hWr with ⟨-, h2⟩ | ⟨h2, -⟩ <;> omega
    have rv : R31 v := ⟨by omega, by omega⟩
    have rz' : R31 zi := ⟨by omega, by omega⟩
    obtain ⟨A, L, kd, pp', ny', nz', ts', F', S', lk', he', sm', qy', qz', wy', wz', pl2', g1, g2, g3, g4, g5, g6, g7⟩ := s_walk h hS hRS (by omega) (m := v) (n := zi) (by omega) (by omega) hP1 pk pa pl pp ny nz ts F S lk he qy qz pm met len how wy wz pl2
    have e1 : I zi + 1 = I (zi + 1) := by rw [I1, I_add]
    have refE : f_X12_all_L52 (I (r : Int)) (I v) (I P) (I p) (I q) (I y) (I z) sy sz (f' + 1) (I zi) qy qz pm met len how (I (n : Int)) en wy wz pl2 rl ry rz = (if kd = 2 then some (0, qy', qz', I ((A + L : Nat) : Int), I (A : Int), I (L : Int), kd, I (n : Int), en, wy', wz', pl2', rl, ry, rz) else if kd = 0 then f_X12_all_L52 (I (r : Int)) (I v) (I P) (I p) (I q) (I y) (I z) sy sz f' (I (zi + 1)) qy' qz' (I ((A + L : Nat) : Int)) (I (A : Int)) (I (L : Int)) kd (I (n : Int)) (en + 1) wy' wz' pl2' rl ry rz else bnd4 (f_X12_keep (I (A : Int)) (I (L : Int)) (I (n : Int)) wy' wz' rl ry rz) (fun k1 k2 k3 k4 => f_X12_all_L52 (I (r : Int)) (I v) (I P) (I p) (I q) (I y) (I z) sy sz f' (I (zi + 1)) qy' qz' (I ((A + L : Nat) : Int)) (I (A : Int)) (I (L : Int)) kd k1 en wy' wz' pl2' k2 k3 k4)) := by
      rw [f_X12_all_L52]
      rcases hWr with ⟨rfl, rfl⟩ | ⟨rfl, rfl⟩
      · rw [if_pos (show I 1 = 1 from rfl), if_neg (show ¬ (0 : Int32) < I zi from c1), bnd9_s g2, e1]
      · rw [if_neg (show ¬ I 2 = 1 by decide), if_neg c1, bnd9_s g2, e1]
    rw [refE, f_X11_surveyAll_L64, if_neg c1, I_J rv, I_J rz', bnd13_s g1, e1]
    rcases g3 with rfl | rfl | rfl
    · have hno : f_X11_noteOutcome en ts' F' S' 0 (I (A : Int)) (I (L : Int)) (I (n : Int)) le ys zs = some (en + 1, I (n : Int), le, ys, zs) := by
        unfold f_X11_noteOutcome; rw [if_pos rfl]
      rw [if_neg (show ¬ (0 : Int32) = 2 by decide), bnd5_s hno, if_neg (show ¬ (0 : Int32) = 2 by decide), if_pos rfl]
      obtain ⟨tg, c', n', r1⟩ := ih f f' (zi + 1) (c + 1) n (en + 1) _ ts' F' S' lk' he' sm' ny' nz' 0 (I (A : Int)) (I (L : Int)) pp' le ys zs qy' qz' _ _ _ _ wy' wz' pl2' rl ry rz (by omega) (by omega) (by omega) (by omega) (by omega) (by omega) g6 hA
      obtain ⟨a1, a2, a3, a4, a5, a6, a7, a8, a9, a10, a11, a12, a13, a14, a15, a16, a17, a18, a19, a20, a21, a22, a23, a24, a25, a26, a27, a28, a29, k1, k2, k3, k4, k5, k6, k7⟩ := r1
      exact ⟨tg, c', n', a1, a2, a3, a4, a5, a6, a7, a8, a9, a10, a11, a12, a13, a14, a15, a16, a17, a18, a19, a20, a21, a22, a23, a24, a25, a26, a27, a28, a29, k1, k2, k3, k4, by omega, k6, k7⟩
    · obtain ⟨l1, l2, l3⟩ := g7 rfl
      subst l2
      obtain ⟨n', le', ys', zs', rl', ry', rz'', b1, b2, b3, b4⟩ := list_put (n := n) (by omega) hA g4 l1 l3 en 1 (by decide)
      rw [if_neg (show ¬ (1 : Int32) = 2 by decide), bnd5_s b2, if_neg (show ¬ (1 : Int32) = 2 by decide), if_neg (show ¬ (1 : Int32) = 0 by decide), bnd4_s b3]
      obtain ⟨tg, c', n'', r1⟩ := ih f f' (zi + 1) (c + 1) n' en _ _ F' S' lk' he' sm' ny' nz' 1 (I (A : Int)) (I (L : Int)) pp' le' ys' zs' qy' qz' _ _ _ _ wy' wz' pl2' rl' ry' rz'' (by omega) (by omega) (by omega) (by omega) (by omega) (by omega) g6 b4
      obtain ⟨a1, a2, a3, a4, a5, a6, a7, a8, a9, a10, a11, a12, a13, a14, a15, a16, a17, a18, a19, a20, a21, a22, a23, a24, a25, a26, a27, a28, a29, k1, k2, k3, k4, k5, k6, k7⟩ := r1
      exact ⟨tg, c', n'', a1, a2, a3, a4, a5, a6, a7, a8, a9, a10, a11, a12, a13, a14, a15, a16, a17, a18, a19, a20, a21, a22, a23, a24, a25, a26, a27, a28, a29, k1, k2, k3, k4, by omega, k6, k7⟩
    · rw [if_pos rfl, if_pos rfl]
      exact ⟨0, c + 1, n, _, _, _, _, _, _, _, _, _, _, _, _, _, _, _, _, _, _, _, _, _, _, _, _, _, _, _, _, _, rfl, rfl, Or.inl rfl, by omega, by omega, g6, hA⟩
set_option maxHeartbeats 1000000 in
theorem sv_out {P p q y z sY sZ N : Int} (h : RP P p q y z sY sZ N) {dy dz : Nat → Int} {dY dZ dk sy sz : Nat → Int32} (hS : SE P p q sY sZ N dy dz dY dZ dk sy sz) {s0 : Nat} (hs0 : s0 < 1999990000) {W r : Nat} (hr : r ≤ 10) (hWr : (P = 1 ∧ W = 0) ∨ (P = 2 ∧ W = r)) :
    ∀ (j f f' : Nat) (v : Int) (c n : Nat) (en st ts : Int32) (F S : Nat → Int64) (lk he sm : Nat → Int32) (ny nz : Int64) (pk pa pl : Int32) (pp le ys zs : Nat → Int32) (qy qz : Int64) (pm met len how : Int32) (wy wz pl2 rl ry rz : Nat → Int32), v + j = r + 1 → j ≤ 2 * r + 1 → c + j * 21 ≤ 441 → j + 1 ≤ f → j + 1 ≤ f' → n ≤ c → RS (s0 + c) st sm → AG n le ys zs rl ry rz →
    ∃ (tg c' n' : Nat) (en' st' ts' : Int32) (F' S' : Nat → Int64) (lk' he' sm' : Nat → Int32) (ny' nz' : Int64) (pk' pa' pl' : Int32) (pp' le' ys' zs' : Nat → Int32) (qy' qz' : Int64) (pm' met' len' how' : Int32) (wy' wz' pl2' rl' ry' rz' : Nat → Int32),
      f_X11_surveyAll_L55 (I (r : Int)) (I (W : Int)) (I p) (I q) (I (N.natAbs : Int)) (J sY) (J sZ) (J N) dY dZ dk f (I v) en st ts F S lk he sm ny nz pk pa pl pp (I (n : Int)) le ys zs = some (tg, en', st', ts', F', S', lk', he', sm', ny', nz', pk', pa', pl', pp', I (n' : Int), le', ys', zs') ∧
      f_X12_all_L32 (I (r : Int)) (I P) (I p) (I q) (I y) (I z) sy sz f' (I v) qy qz pm met len how (I (n : Int)) en wy wz pl2 rl ry rz = some (tg, qy', qz', pm', met', len', how', I (n' : Int), en', wy', wz', pl2', rl', ry', rz') ∧
      (tg = 0 ∨ tg = 1) ∧ n' ≤ c' ∧ c' ≤ c + j * 21 ∧ RS (s0 + c') st' sm' ∧ AG n' le' ys' zs' rl' ry' rz' := by
  have hW10 : W ≤ 10 := by rcases hWr with ⟨-, h2⟩ | ⟨-, h2⟩ <;> omega
  intro j
  induction j with
  | zero =>
    intro f f' v c n en st ts F S lk he sm ny nz pk pa pl pp le ys zs qy qz pm met len how wy wz pl2 rl ry rz hz hj hc hf hf' hn hRS hA
    obtain ⟨f, rfl⟩ : ∃ i, f = i + 1 := ⟨f - 1, by omega⟩
    obtain ⟨f', rfl⟩ : ∃ i, f' = i + 1 := ⟨f' - 1, by omega⟩
    have c1 : I (r : Int) < I v := by rw [I_lt (r31n (by omega)) ⟨by omega, by omega⟩]; omega
    rw [f_X11_surveyAll_L55, if_pos c1, f_X12_all_L32, if_pos c1]
    exact ⟨1, c, n, _, _, _, _, _, _, _, _, _, _, _, _, _, _, _, _, _, _, _, _, _, _, _, _, _, _, _, _, _, rfl, rfl, Or.inr rfl, hn, by omega, hRS, hA⟩
  | succ j ih =>
    intro f f' v c n en st ts F S lk he sm ny nz pk pa pl pp le ys zs qy qz pm met len how wy wz pl2 rl ry rz hz hj hc hf hf' hn hRS hA
    obtain ⟨f, rfl⟩ : ∃ i, f = i + 1 := ⟨f - 1, by omega⟩
    obtain ⟨f', rfl⟩ : ∃ i, f' = i + 1 := ⟨f' - 1, by omega⟩
    have c1 : ¬ I (r : Int) < I v := by rw [I_lt (r31n (by omega)) ⟨by omega, by omega⟩]; omega
    have e1 : I v + 1 = I (v + 1) := by rw [I1, I_add]
    obtain ⟨tg, c', n', a1, a2, a3, a4, a5, a6, a7, a8, a9, a10, a11, a12, a13, a14, a15, a16, a17, a18, a19, a20, a21, a22, a23, a24, a25, a26, a27, a28, a29, k1, k2, k3, k4, k5, k6, k7⟩ := sv_in h hS hs0 hW10 hWr (v := v) (by omega) (2 * W + 1) FU FU (-(W : Int)) c n en st ts F S lk he sm ny nz pk pa pl pp le ys zs qy qz pm met len how wy wz pl2 rl ry rz (by omega) (by omega) (by omega) (by rw [FU_eq]; omega) (by rw [FU_eq]; omega) hn hRS hA
    rw [f_X11_surveyAll_L55, if_neg c1, f_X12_all_L32, if_neg c1, I_neg, bnd19_s k1, e1]
    have refE : ∀ (K : Nat → Int64 → Int64 → Int32 → Int32 → Int32 → Int32 → Int32 → Int32 → (Nat → Int32) → (Nat → Int32) → (Nat → Int32) → (Nat → Int32) → (Nat → Int32) → (Nat → Int32) → Option (Nat × Int64 × Int64 × Int32 × Int32 × Int32 × Int32 × Int32 × Int32 × (Nat → Int32) × (Nat → Int32) × (Nat → Int32) × (Nat → Int32) × (Nat → Int32) × (Nat → Int32))), (if I P = 1 then bnd15 (f_X12_all_L52 (I (r : Int)) (I v) (I P) (I p) (I q) (I y) (I z) sy sz FU 0 qy qz pm met len how (I (n : Int)) en wy wz pl2 rl ry rz) K else bnd15 (f_X12_all_L52 (I (r : Int)) (I v) (I P) (I p) (I q) (I y) (I z) sy sz FU (-I (r : Int)) qy qz pm met len how (I (n : Int)) en wy wz pl2 rl ry rz) K) = K tg a18 a19 a20 a21 a22 a23 (I (n' : Int)) a1 a24 a25 a26 a27 a28 a29 := by
      intro K
      rcases hWr with ⟨rfl, rfl⟩ | ⟨rfl, rfl⟩
      · have k2 : f_X12_all_L52 (I (r : Int)) (I v) (I 1) (I p) (I q) (I y) (I z) sy sz FU 0 qy qz pm met len how (I (n : Int)) en wy wz pl2 rl ry rz = _ := k2
        rw [if_pos (show I 1 = 1 from rfl), bnd15_s k2]
      · rw [if_neg (show ¬ I 2 = 1 by decide), I_neg, bnd15_s k2]
    rw [refE]
    rcases k3 with rfl | rfl
    · rw [if_pos rfl, if_pos rfl]
      exact ⟨0, c', n', _, _, _, _, _, _, _, _, _, _, _, _, _, _, _, _, _, _, _, _, _, _, _, _, _, _, _, _, _, rfl, rfl, Or.inl rfl, k4, by omega, k6, k7⟩
    · rw [if_neg (by decide), if_neg (by decide)]
      obtain ⟨tg, c'', n'', b1, b2, b3, b4, b5, b6, b7, b8, b9, b10, b11, b12, b13, b14, b15, b16, b17, b18, b19, b20, b21, b22, b23, b24, b25, b26, b27, b28, b29, m1, m2, m3, m4, m5, m6, m7⟩ := ih f f' (v + 1) c' n' a1 a2 a3 a4 a5 a6 a7 a8 a9 a10 a11 a12 a13 a14 a15 a16 a17 a18 a19 a20 a21 a22 a23 a24 a25 a26 a27 a28 a29 (by omega) (by omega) (by omega) (by omega) (by omega) k4 k6 k7
      exact ⟨tg, c'', n'', b1, b2, b3, b4, b5, b6, b7, b8, b9, b10, b11, b12, b13, b14, b15, b16, b17, b18, b19, b20, b21, b22, b23, b24, b25, b26, b27, b28, b29, m1, m2, m3, m4, by omega, m6, m7⟩
theorem m_all {P p q y z sY sZ N : Int} {pa cp cq no : Int32} {cy cz cd : Int64} {si : Int32} {dY dZ dk : Nat → Int32} {mpa mp mq my mz mno ms : Int32} {sy sz : Nat → Int32} (h : RR P p q y z sY sZ N pa cp cq no cy cz cd si dY dZ dk mpa mp mq my mz mno ms sy sz) {s : Nat} {st : Int32} {sm : Nat → Int32} (hRS : RS s st sm) (hs : s < 1999990000) (en ts : Int32) (F S : Nat → Int64) (lk he : Nat → Int32) (ny nz : Int64) (pk pb pl : Int32) (pp : Nat → Int32) (lz : Int32) (le ys zs : Nat → Int32) (qy qz : Int64) (pm met len how nm men : Int32) (wy wz pl2 rl ry rz : Nat → Int32) (l : Int32) :
    ∃ (rr en' st' ts' : Int32) (F' S' : Nat → Int64) (lk' he' sm' : Nat → Int32) (ny' nz' : Int64) (pk' pb' pl' : Int32) (pp' : Nat → Int32) (lz' : Int32) (le' ys' zs' : Nat → Int32) (qy' qz' : Int64) (pm' met' len' how' nm' men' : Int32) (wy' wz' pl2' rl' ry' rz' : Nat → Int32) (s' : Nat),
      f_X11_surveyAll en st ts F S lk he sm pa cp cq no cy cz cd si ny nz dY dZ dk pk pb pl pp lz le ys zs l = some (rr, en', st', ts', F', S', lk', he', sm', ny', nz', pk', pb', pl', pp', lz', le', ys', zs') ∧
      f_X12_all mpa mp mq my mz ms qy qz pm met len how nm men sy sz wy wz pl2 rl ry rz l = some (rr, qy', qz', pm', met', len', how', nm', men', wy', wz', pl2', rl', ry', rz') ∧
      RS s' st' sm' ∧ s' ≤ s + 441 ∧ (rr = 0 ∨ (rr = 1 ∧ en' = men' ∧ ∃ n : Nat, n ≤ 441 ∧ lz' = I (n : Int) ∧ nm' = I (n : Int) ∧ AG n le' ys' zs' rl' ry' rz')) := by
  obtain ⟨hP, rfl, rfl, rfl, rfl, rfl, rfl, rfl, rfl, rfl, rfl, rfl, rfl, rfl, rfl, hset⟩ := h
  obtain ⟨-, -, -, -, -, -, hPc⟩ := RP_s hP
  unfold f_X11_surveyAll f_X12_all
  by_cases e0 : si = 0
  · rw [if_pos e0, if_pos e0]
    exact ⟨_, _, _, _, _, _, _, _, _, _, _, _, _, _, _, _, _, _, _, _, _, _, _, _, _, _, _, _, _, _, _, _, _, s, rfl, rfl, hRS, by omega, Or.inl rfl⟩
  obtain ⟨-, dy, dz, hS⟩ := hset.resolve_left e0
  by_cases e1 : l < 0
  · rw [if_neg e0, if_neg e0, if_pos e1, if_pos e1]
    exact ⟨_, _, _, _, _, _, _, _, _, _, _, _, _, _, _, _, _, _, _, _, _, _, _, _, _, _, _, _, _, _, _, _, _, s, rfl, rfl, hRS, by omega, Or.inl rfl⟩
  by_cases e2 : l ≤ 10
  · rw [if_neg e0, if_neg e0, if_neg e1, if_neg e1, if_pos e2, if_pos e2]
    obtain ⟨w, hw, rfl⟩ := i32_cases l
    rw [I0, I_lt hw ⟨by omega, by omega⟩] at e1
    rw [show (10 : Int32) = I 10 from rfl, I_le hw ⟨by omega, by omega⟩] at e2
    obtain ⟨r, rfl⟩ : ∃ r : Nat, w = (r : Int) := ⟨w.toNat, by omega⟩
    have fin : ∀ W : Nat, ((P = 1 ∧ W = 0) ∨ (P = 2 ∧ W = r)) → ∃ (tg c' n' : Nat) (en' st' ts' : Int32) (F' S' : Nat → Int64) (lk' he' sm' : Nat → Int32) (ny' nz' : Int64) (pk' pa' pl' : Int32) (pp' le' ys' zs' : Nat → Int32) (qy' qz' : Int64) (pm' met' len' how' : Int32) (wy' wz' pl2' rl' ry' rz' : Nat → Int32), f_X11_surveyAll_L55 (I (r : Int)) (I (W : Int)) (I p) (I q) (I (N.natAbs : Int)) (J sY) (J sZ) (J N) dY dZ dk FU (-I (r : Int)) 0 st ts F S lk he sm ny nz pk pb pl pp 0 le ys zs = some (tg, en', st', ts', F', S', lk', he', sm', ny', nz', pk', pa', pl', pp', I (n' : Int), le', ys', zs') ∧ f_X12_all_L32 (I (r : Int)) (I P) (I p) (I q) (I y) (I z) sy sz FU (-I (r : Int)) qy qz pm met len how 0 0 wy wz pl2 rl ry rz = some (tg, qy', qz', pm', met', len', how', I (n' : Int), en', wy', wz', pl2', rl', ry', rz') ∧ (tg = 0 ∨ tg = 1) ∧ n' ≤ 441 ∧ c' ≤ 441 ∧ RS (s + c') st' sm' ∧ AG n' le' ys' zs' rl' ry' rz' := by
      intro W hWr
      obtain ⟨tg, c', n', a1, a2, a3, a4, a5, a6, a7, a8, a9, a10, a11, a12, a13, a14, a15, a16, a17, a18, a19, a20, a21, a22, a23, a24, a25, a26, a27, a28, a29, k1, k2, k3, k4, k5, k6, k7⟩ := sv_out hP hS (s0 := s) hs (W := W) (r := r) (by omega) hWr (2 * r + 1) FU FU (-(r : Int)) 0 0 0 st ts F S lk he sm ny nz pk pb pl pp le ys zs qy qz pm met len how wy wz pl2 rl ry rz (by omega) (by omega) (by omega) (by rw [FU_eq]; omega) (by rw [FU_eq]; omega) (by omega) hRS (fun k hk => absurd hk (by omega))
      rw [I_neg]
      exact ⟨tg, c', n', a1, a2, a3, a4, a5, a6, a7, a8, a9, a10, a11, a12, a13, a14, a15, a16, a17, a18, a19, a20, a21, a22, a23, a24, a25, a26, a27, a28, a29, k1, k2, k3, by omega, by omega, k6, k7⟩
    rcases hPc with rfl | rfl
    · obtain ⟨tg, c', n', a1, a2, a3, a4, a5, a6, a7, a8, a9, a10, a11, a12, a13, a14, a15, a16, a17, a18, a19, a20, a21, a22, a23, a24, a25, a26, a27, a28, a29, k1, k2, k3, k4, k5, k6, k7⟩ := fin 0 (Or.inl ⟨rfl, rfl⟩)
      have k1 : f_X11_surveyAll_L55 (I (r : Int)) 0 (I p) (I q) (I (N.natAbs : Int)) (J sY) (J sZ) (J N) dY dZ dk FU (-I (r : Int)) 0 st ts F S lk he sm ny nz pk pb pl pp 0 le ys zs = _ := k1
      rw [if_pos (show I 1 = 1 from rfl), bnd19_s k1, bnd15_s k2]
      rcases k3 with rfl | rfl
      · rw [if_pos rfl, if_pos rfl]
        exact ⟨_, _, _, _, _, _, _, _, _, _, _, _, _, _, _, _, _, _, _, _, _, _, _, _, _, _, _, _, _, _, _, _, _, s + c', rfl, rfl, k6, by omega, Or.inl rfl⟩
      · rw [if_neg (by decide), if_neg (by decide)]
        exact ⟨_, _, _, _, _, _, _, _, _, _, _, _, _, _, _, _, _, _, _, _, _, _, _, _, _, _, _, _, _, _, _, _, _, s + c', rfl, rfl, k6, by omega, Or.inr ⟨rfl, rfl, n', k4, rfl, rfl, k7⟩⟩
    · obtain ⟨tg, c', n', a1, a2, a3, a4, a5, a6, a7, a8, a9, a10, a11, a12, a13, a14, a15, a16, a17, a18, a19, a20, a21, a22, a23, a24, a25, a26, a27, a28, a29, k1, k2, k3, k4, k5, k6, k7⟩ := fin r (Or.inr ⟨rfl, rfl⟩)
      rw [if_neg (show ¬ I 2 = 1 by decide), bnd19_s k1, bnd15_s k2]
      rcases k3 with rfl | rfl
      · rw [if_pos rfl, if_pos rfl]
        exact ⟨_, _, _, _, _, _, _, _, _, _, _, _, _, _, _, _, _, _, _, _, _, _, _, _, _, _, _, _, _, _, _, _, _, s + c', rfl, rfl, k6, by omega, Or.inl rfl⟩
      · rw [if_neg (by decide), if_neg (by decide)]
        exact ⟨_, _, _, _, _, _, _, _, _, _, _, _, _, _, _, _, _, _, _, _, _, _, _, _, _, _, _, _, _, _, _, _, _, s + c', rfl, rfl, k6, by omega, Or.inr ⟨rfl, rfl, n', k4, rfl, rfl, k7⟩⟩
  · rw [if_neg e0, if_neg e0, if_neg e1, if_neg e1, if_neg e2, if_neg e2]
    exact ⟨_, _, _, _, _, _, _, _, _, _, _, _, _, _, _, _, _, _, _, _, _, _, _, _, _, _, _, _, _, _, _, _, _, s, rfl, rfl, hRS, by omega, Or.inl rfl⟩
