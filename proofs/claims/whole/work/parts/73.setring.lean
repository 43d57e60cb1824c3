/-! ring(), set() -/
theorem isB_no {z b : Int} (hz : R63 z) (hb : R63 b) (hb2 : R63 (-b)) (h : ¬ (z < -b ∨ b < z)) : f_X11_isBeyond (J z) (J b) = some 0 := by rw [s_isBeyond hz hb hb2, if_neg h]
theorem isB_yes {z b : Int} (hz : R63 z) (hb : R63 b) (hb2 : R63 (-b)) (h : z < -b ∨ b < z) : f_X11_isBeyond (J z) (J b) = some 1 := by rw [s_isBeyond hz hb hb2, if_pos h]
theorem r25 : R63 25 ∧ R63 (-25) ∧ R63 1 ∧ R63 (-1) ∧ R63 9 ∧ R63 (-9) ∧ R63 100000 ∧ R63 (-100000) ∧ R63 1000000 ∧ R63 (-1000000) ∧ R63 0 ∧ R63 2 := by unfold R63; omega
theorem s_become {N : Int} (hN : B62 N) (a : Int32) (b c d : Int64) (e : Int32) (y z : Int64) : f_X2_become a b c d e y z (J N) = some (I (N.natAbs : Int), y, z, J N, 0) := by
  unfold f_X2_become
  rw [bnd1_s (s_abs hN.r hN.n), J_I]
theorem ring_one {y : Int} (hy : R31 y) (pa cp cq no : Int32) (cy cz cd : Int64) (si : Int32) :
    (2 ≤ y.natAbs ∧ y.natAbs ≤ 25 → f_X2_becomeSingle pa cp cq no cy cz cd si (I y) = some (1, 1, 0, 0, I (y.natAbs : Int), 1, 0, J y, 0)) ∧ (¬ (2 ≤ y.natAbs ∧ y.natAbs ≤ 25) → f_X2_becomeSingle pa cp cq no cy cz cd si (I y) = some (0, pa, cp, cq, no, cy, cz, cd, si)) := by
  obtain ⟨r1, r2, r3, r4, -⟩ := r25
  have hy' := hy
  unfold R31 at hy'
  have ry : R63 y := ⟨by omega, by omega⟩
  unfold f_X2_becomeSingle
  rw [I_J hy, show (25 : Int64) = J 25 from rfl]
  constructor
  · intro h
    rw [bnd1_s (isB_no ry r1 r2 (by omega)), if_pos rfl, J1, bnd1_s (isB_yes ry r3 r4 (by omega)), if_neg (by decide), ← J1, bnd5_s (s_become (by unfold B62; omega) _ _ _ _ _ _ _)]
  · intro h
    by_cases c : y < -25 ∨ 25 < y
    · rw [bnd1_s (isB_yes ry r1 r2 c), if_neg (by decide)]
    · rw [bnd1_s (isB_no ry r1 r2 c), if_pos rfl, J1, bnd1_s (isB_no ry r3 r4 (by omega)), if_pos rfl]
theorem ring_two {p q y z : Int} (hp : R31 p) (hq : R31 q) (hy : R31 y) (hz : R31 z) (pa cp cq no : Int32) (cy cz cd : Int64) (si : Int32) :
    ((p.natAbs ≤ 9 ∧ q.natAbs ≤ 9 ∧ y.natAbs ≤ 100000 ∧ z.natAbs ≤ 100000) ∧ (2 ≤ (y * y + p * y * z - q * z * z).natAbs ∧ (y * y + p * y * z - q * z * z).natAbs ≤ 25) → f_X2_becomeDouble pa cp cq no cy cz cd si (I p) (I q) (I y) (I z) = some (1, 2, I p, I q, I ((y * y + p * y * z - q * z * z).natAbs : Int), J (y + p * z), J (-z), J (y * y + p * y * z - q * z * z), 0)) ∧ (¬ ((p.natAbs ≤ 9 ∧ q.natAbs ≤ 9 ∧ y.natAbs ≤ 100000 ∧ z.natAbs ≤ 100000) ∧ (2 ≤ (y * y + p * y * z - q * z * z).natAbs ∧ (y * y + p * y * z - q * z * z).natAbs ≤ 25)) → f_X2_becomeDouble pa cp cq no cy cz cd si (I p) (I q) (I y) (I z) = some (0, pa, cp, cq, no, cy, cz, cd, si)) := by
  obtain ⟨r1, r2, r3, r4, r5, r6, r7, r8, -⟩ := r25
  have hp' := hp
  have hq' := hq
  have hy' := hy
  have hz' := hz
  unfold R31 at hp' hq' hy' hz'
  have rp : R63 p := ⟨by omega, by omega⟩
  have rq : R63 q := ⟨by omega, by omega⟩
  have ry : R63 y := ⟨by omega, by omega⟩
  have rz : R63 z := ⟨by omega, by omega⟩
  unfold f_X2_becomeDouble
  rw [I_J hp, I_J hq, I_J hy, I_J hz, show (25 : Int64) = J 25 from rfl, show (9 : Int64) = J 9 from rfl, show (100000 : Int64) = J 100000 from rfl]
  simp only [J_mul, J_add, J_sub]
  by_cases c1 : p < -9 ∨ 9 < p
  · refine ⟨fun h => by omega, fun _ => ?_⟩
    rw [bnd1_s (isB_yes rp r5 r6 c1), if_neg (by decide)]
  rw [bnd1_s (isB_no rp r5 r6 c1), if_pos rfl]
  by_cases c2 : q < -9 ∨ 9 < q
  · refine ⟨fun h => by omega, fun _ => ?_⟩
    rw [bnd1_s (isB_yes rq r5 r6 c2), if_neg (by decide)]
  rw [bnd1_s (isB_no rq r5 r6 c2), if_pos rfl]
  by_cases c3 : y < -100000 ∨ 100000 < y
  · refine ⟨fun h => by omega, fun _ => ?_⟩
    rw [bnd1_s (isB_yes ry r7 r8 c3), if_neg (by decide)]
  rw [bnd1_s (isB_no ry r7 r8 c3), if_pos rfl]
  by_cases c4 : z < -100000 ∨ 100000 < z
  · refine ⟨fun h => by omega, fun _ => ?_⟩
    rw [bnd1_s (isB_yes rz r7 r8 c4), if_neg (by decide)]
  rw [bnd1_s (isB_no rz r7 r8 c4), if_pos rfl]
  have k1 := bm (x := y) (y := y) (A := 100000) (B := 100000) (by omega) (by omega)
  have k2 := bm (bm (x := p) (y := y) (A := 9) (B := 100000) (by omega) (by omega)) (y := z) (B := 100000) (by omega)
  have k3 := bm (bm (x := q) (y := z) (A := 9) (B := 100000) (by omega) (by omega)) (y := z) (B := 100000) (by omega)
  have bN : B62 (y * y + p * y * z - q * z * z) := by unfold B62; omega
  have hI : (-I z).toInt64 = J (-z) := by rw [I_neg, I_J ⟨by omega, by omega⟩]
  generalize y * y + p * y * z - q * z * z = N at *
  by_cases c5 : N < -25 ∨ 25 < N
  · refine ⟨fun h => by omega, fun _ => ?_⟩
    rw [bnd1_s (isB_yes bN.r r1 r2 c5), if_neg (by decide)]
  rw [bnd1_s (isB_no bN.r r1 r2 c5), if_pos rfl, J1]
  by_cases c6 : N < -1 ∨ 1 < N
  · refine ⟨fun _ => ?_, fun h => by omega⟩
    rw [bnd1_s (isB_yes bN.r r3 r4 c6), if_neg (by decide), hI, bnd5_s (s_become bN _ _ _ _ _ _ _)]
  · refine ⟨fun h => by omega, fun _ => ?_⟩
    rw [bnd1_s (isB_no bN.r r3 r4 c6), if_pos rfl]
theorem ref_one {y : Int} (hy : R31 y) {l1 : Int32} (hl : ¬ l1 = 0) (th pa cp cq my mz no ms l2 l3 l5 : Int32) :
    (2 ≤ y.natAbs ∧ y.natAbs ≤ 25 → f_X12_ring th pa cp cq my mz no ms l1 l2 l3 (I y) l5 = some (1, 0, 1, 0, 0, I y, 0, I (y.natAbs : Int), 0)) ∧ (¬ (2 ≤ y.natAbs ∧ y.natAbs ≤ 25) → f_X12_ring th pa cp cq my mz no ms l1 l2 l3 (I y) l5 = some (0, 0, pa, cp, cq, my, mz, no, ms)) := by
  obtain ⟨r1, r2, r3, r4, r5, r6, r7, r8, -, -, r0, r22⟩ := r25
  have hy' := hy
  unfold R31 at hy'
  have ry : R63 y := ⟨by omega, by omega⟩
  have ry' : R63 (-y) := ⟨by omega, by omega⟩
  unfold f_X12_ring
  rw [if_neg hl, I_J hy, J_neg, show (25 : Int64) = J 25 from rfl, J2, J0, J_I, J_I]
  simp only [J_le r0 ry, J_lt ry r22, J_le ry r1, J_lt ry' r22, J_le ry' r1]
  constructor
  · intro h
    by_cases c : 0 ≤ y
    · rw [if_pos c, if_neg (by omega : ¬ y < 2), if_pos (by omega : y ≤ 25), show (y.natAbs : Int) = y by omega]
    · rw [if_neg c, if_neg (by omega : ¬ -y < 2), if_pos (by omega : -y ≤ 25), show (y.natAbs : Int) = -y by omega]
  · intro h
    by_cases c : 0 ≤ y
    · rw [if_pos c]
      by_cases c2 : y < 2
      · rw [if_pos c2]
      · rw [if_neg c2, if_neg (by omega : ¬ y ≤ 25)]
    · rw [if_neg c]
      by_cases c2 : -y < 2
      · rw [if_pos c2]
      · rw [if_neg c2, if_neg (by omega : ¬ -y ≤ 25)]
theorem ref_two {p q y z : Int} (hp : R31 p) (hq : R31 q) (hy : R31 y) (hz : R31 z) (th pa cp cq my mz no ms : Int32) :
    ((p.natAbs ≤ 9 ∧ q.natAbs ≤ 9 ∧ y.natAbs ≤ 100000 ∧ z.natAbs ≤ 100000) ∧ (2 ≤ (y * y + p * y * z - q * z * z).natAbs ∧ (y * y + p * y * z - q * z * z).natAbs ≤ 25) → f_X12_ring th pa cp cq my mz no ms 0 (I p) (I q) (I y) (I z) = some (1, 0, 2, I p, I q, I y, I z, I ((y * y + p * y * z - q * z * z).natAbs : Int), 0)) ∧ (¬ ((p.natAbs ≤ 9 ∧ q.natAbs ≤ 9 ∧ y.natAbs ≤ 100000 ∧ z.natAbs ≤ 100000) ∧ (2 ≤ (y * y + p * y * z - q * z * z).natAbs ∧ (y * y + p * y * z - q * z * z).natAbs ≤ 25)) → f_X12_ring th pa cp cq my mz no ms 0 (I p) (I q) (I y) (I z) = some (0, 0, pa, cp, cq, my, mz, no, ms)) := by
  obtain ⟨r1, r2, r3, r4, r5, r6, r7, r8, -, -, r0, r22⟩ := r25
  have k9 : R31 9 := ⟨by omega, by omega⟩
  have k9' : R31 (-9) := ⟨by omega, by omega⟩
  have k5 : R31 100000 := ⟨by omega, by omega⟩
  have k5' : R31 (-100000) := ⟨by omega, by omega⟩
  unfold f_X12_ring
  rw [if_pos rfl, I_J hp, I_J hq, I_J hy, I_J hz, show (25 : Int64) = J 25 from rfl, J2, show (-9 : Int32) = I (-9) from rfl, show (9 : Int32) = I 9 from rfl, show (-100000 : Int32) = I (-100000) from rfl, show (100000 : Int32) = I 100000 from rfl]
  simp only [J_mul, J_add, J_sub, J_neg, J_I, I_lt hp k9', I_lt k9 hp, I_lt hq k9', I_lt k9 hq, I_lt hy k5', I_lt k5 hy, I_lt hz k5', I_le hz k5]
  by_cases c1 : p < -9
  · exact ⟨fun h => by omega, fun _ => by rw [if_pos c1]⟩
  by_cases c2 : 9 < p
  · exact ⟨fun h => by omega, fun _ => by rw [if_neg c1, if_pos c2]⟩
  by_cases c3 : q < -9
  · exact ⟨fun h => by omega, fun _ => by rw [if_neg c1, if_neg c2, if_pos c3]⟩
  by_cases c4 : 9 < q
  · exact ⟨fun h => by omega, fun _ => by rw [if_neg c1, if_neg c2, if_neg c3, if_pos c4]⟩
  by_cases c5 : y < -100000
  · exact ⟨fun h => by omega, fun _ => by rw [if_neg c1, if_neg c2, if_neg c3, if_neg c4, if_pos c5]⟩
  by_cases c6 : 100000 < y
  · exact ⟨fun h => by omega, fun _ => by rw [if_neg c1, if_neg c2, if_neg c3, if_neg c4, if_neg c5, if_pos c6]⟩
  by_cases c7 : z < -100000
  · exact ⟨fun h => by omega, fun _ => by rw [if_neg c1, if_neg c2, if_neg c3, if_neg c4, if_neg c5, if_neg c6, if_pos c7]⟩
  by_cases c8 : z ≤ 100000
  · rw [if_neg c1, if_neg c2, if_neg c3, if_neg c4, if_neg c5, if_neg c6, if_neg c7, if_pos c8]
    have k1 := bm (x := y) (y := y) (A := 100000) (B := 100000) (by omega) (by omega)
    have k2 := bm (bm (x := p) (y := y) (A := 9) (B := 100000) (by omega) (by omega)) (y := z) (B := 100000) (by omega)
    have k3 := bm (bm (x := q) (y := z) (A := 9) (B := 100000) (by omega) (by omega)) (y := z) (B := 100000) (by omega)
    have rN : R63 (y * y + p * y * z - q * z * z) := ⟨by omega, by omega⟩
    have rN' : R63 (-(y * y + p * y * z - q * z * z)) := ⟨by omega, by omega⟩
    rw [J0]
    simp only [J_le r0 rN, J_lt rN r22, J_le rN r1, J_lt rN' r22, J_le rN' r1]
    generalize y * y + p * y * z - q * z * z = N at *
    constructor
    · intro h
      by_cases c : 0 ≤ N
      · rw [if_pos c, if_neg (by omega : ¬ N < 2), if_pos (by omega : N ≤ 25), show (N.natAbs : Int) = N by omega]
      · rw [if_neg c, if_neg (by omega : ¬ -N < 2), if_pos (by omega : -N ≤ 25), show (N.natAbs : Int) = -N by omega]
    · intro h
      by_cases c : 0 ≤ N
      · rw [if_pos c]
        by_cases c2 : N < 2
        · rw [if_pos c2]
        · rw [if_neg c2, if_neg (by omega : ¬ N ≤ 25)]
      · rw [if_neg c]
        by_cases c2 : -N < 2
        · rw [if_pos c2]
        · rw [if_neg c2, if_neg (by omega : ¬ -N ≤ 25)]
  · exact ⟨fun h => by omega, fun _ => by rw [if_neg c1, if_neg c2, if_neg c3, if_neg c4, if_neg c5, if_neg c6, if_neg c7, if_neg c8]⟩
theorem m_ring {P p q y z sY sZ N : Int} {pa cp cq no : Int32} {cy cz cd : Int64} {si : Int32} {dY dZ dk : Nat → Int32} {mpa mp mq my mz mno ms : Int32} {sy sz : Nat → Int32} (h : RR P p q y z sY sZ N pa cp cq no cy cz cd si dY dZ dk mpa mp mq my mz mno ms sy sz) (th l1 l2 l3 l4 l5 : Int32) :
    ∃ (r pa' cp' cq' no' : Int32) (cy' cz' cd' : Int64) (si' mpa' mp' mq' my' mz' mno' ms' : Int32) (P' p' q' y' z' sY' sZ' N' : Int), f_X11_ring pa cp cq no cy cz cd si l1 l2 l3 l4 l5 = some (r, pa', cp', cq', no', cy', cz', cd', si') ∧ f_X12_ring th mpa mp mq my mz mno ms l1 l2 l3 l4 l5 = some (r, 0, mpa', mp', mq', my', mz', mno', ms') ∧ RR P' p' q' y' z' sY' sZ' N' pa' cp' cq' no' cy' cz' cd' si' dY dZ dk mpa' mp' mq' my' mz' mno' ms' sy sz ∧ (r = 0 ∨ r = 1) := by
  obtain ⟨w4, h4, rfl⟩ := i32_cases l4
  unfold f_X11_ring
  by_cases c : l1 = 0
  · subst c
    obtain ⟨w2, h2, rfl⟩ := i32_cases l2
    obtain ⟨w3, h3, rfl⟩ := i32_cases l3
    obtain ⟨w5, h5, rfl⟩ := i32_cases l5
    have x := ring_two h2 h3 h4 h5 pa cp cq no cy cz cd si
    have w := ref_two h2 h3 h4 h5 th mpa mp mq my mz mno ms
    rw [if_pos rfl]
    by_cases g : (w2.natAbs ≤ 9 ∧ w3.natAbs ≤ 9 ∧ w4.natAbs ≤ 100000 ∧ w5.natAbs ≤ 100000) ∧ (2 ≤ (w4 * w4 + w2 * w4 * w5 - w3 * w5 * w5).natAbs ∧ (w4 * w4 + w2 * w4 * w5 - w3 * w5 * w5).natAbs ≤ 25)
    · rw [bnd9_s (x.1 g)]
      exact ⟨_, _, _, _, _, _, _, _, _, _, _, _, _, _, _, _, 2, w2, w3, w4, w5, w4 + w2 * w5, -w5, _, rfl, w.1 g, ⟨⟨Or.inr ⟨rfl, g.1.1, g.1.2.1, g.1.2.2.1, g.1.2.2.2, rfl, rfl, rfl⟩, g.2.1, g.2.2⟩, rfl, rfl, rfl, rfl, rfl, rfl, rfl, rfl, rfl, rfl, rfl, rfl, rfl, rfl, Or.inl rfl⟩, Or.inr rfl⟩
    · rw [bnd9_s (x.2 g)]
      exact ⟨_, _, _, _, _, _, _, _, _, _, _, _, _, _, _, _, P, p, q, y, z, sY, sZ, N, rfl, w.2 g, h, Or.inl rfl⟩
  · have x := ring_one h4 pa cp cq no cy cz cd si
    have w := ref_one h4 c th mpa mp mq my mz mno ms l2 l3 l5
    rw [if_neg c]
    by_cases g : 2 ≤ w4.natAbs ∧ w4.natAbs ≤ 25
    · rw [bnd9_s (x.1 g)]
      exact ⟨_, _, _, _, _, _, _, _, _, _, _, _, _, _, _, _, 1, 0, 0, w4, 0, 1, 0, w4, rfl, w.1 g, ⟨⟨Or.inl ⟨rfl, rfl, rfl, rfl, rfl, rfl, rfl⟩, g.1, g.2⟩, rfl, rfl, rfl, rfl, rfl, rfl, rfl, rfl, rfl, rfl, rfl, rfl, rfl, rfl, Or.inl rfl⟩, Or.inr rfl⟩
    · rw [bnd9_s (x.2 g)]
      exact ⟨_, _, _, _, _, _, _, _, _, _, _, _, _, _, _, _, P, p, q, y, z, sY, sZ, N, rfl, w.2 g, h, Or.inl rfl⟩
