theorem m_set {P p q y z sY sZ N : Int} {pa cp cq no : Int32} {cy cz cd : Int64} {si : Int32} {dY dZ dk : Nat → Int32} {mpa mp mq my mz mno ms : Int32} {sy sz : Nat → Int32} (h : RR P p q y z sY sZ N pa cp cq no cy cz cd si dY dZ dk mpa mp mq my mz mno ms sy sz) {ts ln : Int32} {by_ tp : Nat → Int32} (ht : RT ts by_ ln tp) (ks : Nat → Int32) (th : Int32) (qy qz : Int64) (fy fz : Nat → Int32) :
    ∃ (r si' : Int32) (dY' dZ' ks' dk' : Nat → Int32) (ms' : Int32) (qy' qz' : Int64) (sy' sz' fy' fz' : Nat → Int32), f_X11_set ts by_ pa cp cq no cy cz si dY dZ ks dk = some (r, 0, si', dY', dZ', ks', dk') ∧ f_X12_set_ th ln mpa mp mq my mz mno ms qy qz tp sy sz fy fz = some (r, 0, 0, ms', qy', qz', sy', sz', fy', fz') ∧ RR P p q y z sY sZ N pa cp cq no cy cz cd si' dY' dZ' dk' mpa mp mq my mz mno ms' sy' sz' ∧ (r = 0 ∨ r = 1) := by
  have hRR := h
  obtain ⟨hP, rfl, rfl, rfl, rfl, rfl, rfl, rfl, rfl, rfl, rfl, rfl, rfl, rfl, rfl, -⟩ := h
  obtain ⟨rfl, n, hn, rfl, hag⟩ := ht
  obtain ⟨-, -, -, -, -, -, hPc⟩ := RP_s hP
  have hN := hP.2
  obtain ⟨Pn, rfl, hPn⟩ : ∃ Pn : Nat, P = (Pn : Int) ∧ (Pn = 1 ∨ Pn = 2) := by
    rcases hPc with rfl | rfl
    · exact ⟨1, rfl, Or.inl rfl⟩
    · exact ⟨2, rfl, Or.inr rfl⟩
  unfold f_X11_set f_X2_takeDigits f_X12_set_ f_X12_taken
  rw [bnd2_s rfl]
  have eP : I (N.natAbs : Int) * I (Pn : Int) = I ((N.natAbs * Pn : Nat) : Int) := by rw [I_mul]; congr 1
  have hNP : N.natAbs * Pn ≤ 50 := by rcases hPn with rfl | rfl <;> omega
  by_cases e : I (n : Int) = I (N.natAbs : Int) * I (Pn : Int)
  · rw [if_pos e, if_pos e]
    rw [eP, Ieq0 (by omega) _ (by omega)] at e
    have hlt : ∀ k, k < N.natAbs → k * Pn < n ∧ (Pn = 2 → k * Pn + 1 < n) := fun k hk => by
      rcases hPn with rfl | rfl <;> omega
    obtain ⟨dy, hdy⟩ : ∃ dy : Nat → Int, ∀ i, dy i = (tp (Pn * i)).toInt := ⟨fun i => (tp (Pn * i)).toInt, fun _ => rfl⟩
    obtain ⟨dz, hdz1, hdz2⟩ : ∃ dz : Nat → Int, (Pn = 1 → ∀ i, dz i = 0) ∧ (Pn = 2 → ∀ i, dz i = (tp (Pn * i + 1)).toInt) := by
      rcases hPn with rfl | rfl
      · exact ⟨fun _ => 0, fun _ _ => rfl, fun z => absurd z (by decide)⟩
      · exact ⟨fun i => (tp (2 * i + 1)).toInt, fun z => absurd z (by decide), fun _ _ => rfl⟩
    have hy : ∀ i, tp (Pn * i) = I (dy i) := fun i => by rw [hdy]; exact I_of _
    have hz : Pn = 2 → ∀ i, tp (Pn * i + 1) = I (dz i) := fun e2 i => by rw [hdz2 e2]; exact I_of _
    have hd : ∀ i, i < N.natAbs → (dy i).natAbs ≤ 128 ∧ (dz i).natAbs ≤ 128 ∧ ((Pn : Int) = 1 → dz i = 0) := fun i hi => by
      obtain ⟨l1, l2⟩ := hlt i hi
      have b1 := (hag (i * Pn) l1).2
      rw [Nat.mul_comm, ← hdy] at b1
      refine ⟨by omega, ?_, fun e1 => hdz1 (by omega) i⟩
      rcases hPn with e1 | e2
      · rw [hdz1 e1]; decide
      · have b2 := (hag (i * Pn + 1) (l2 e2)).2
        rw [Nat.mul_comm, ← hdz2 e2] at b2
        omega
    have hat : ∀ k, k < N.natAbs → f_X7_at (I (n : Int)) by_ (I (k : Int) * I (Pn : Int)) = some (I (dy k)) ∧ f_X2_zOf (I (Pn : Int)) (I (n : Int)) by_ (I (k : Int)) = some (I (dz k)) := fun k hk => by
      obtain ⟨l1, l2⟩ := hlt k hk
      have ek : I (k : Int) * I (Pn : Int) = I ((k * Pn : Nat) : Int) := by rw [I_mul]; congr 1
      refine ⟨?_, ?_⟩
      · rw [ek, s_at hn l1, (hag _ l1).1, Nat.mul_comm, hy]
      · unfold f_X2_zOf
        rcases hPn with e1 | e2
        · rw [hdz1 e1]
          subst e1
          rw [if_pos (show I ((1 : Nat) : Int) = 1 from rfl)]; rfl
        · have c2 : ¬ I (Pn : Int) = 1 := by rw [e2]; decide
          rw [if_neg c2, ek, I_s, bnd1_s (s_at hn (l2 e2)), (hag _ (l2 e2)).1, Nat.mul_comm, hz e2]
    obtain ⟨fy', fz', f1, f2⟩ := fresh_loop hPn (nm := N.natAbs) (tp := tp) (by omega) (fun i _ => hy i) (fun i _ => ⟨fun e1 => hdz1 e1 i, fun e2 => hz e2 i⟩) N.natAbs FU 0 fy fz (by omega) (by rw [FU_eq]; omega) (fun i hi => absurd hi (by omega))
    have f1 : f_X12_set__L27 (I (Pn : Int)) (I (N.natAbs : Int)) tp FU 0 fy fz = some (fy', fz') := f1
    obtain ⟨ks', qy', qz', hh⟩ := dup_loop hP hd f2 hat N.natAbs FU FU 0 ks qy qz (by omega) (by rw [FU_eq]; omega) (by rw [FU_eq]; omega) (fun i hi => absurd hi (by omega)) (fun i i' _ h2 => absurd h2 (by omega))
    unfold f_X2_fillKeys
    rcases hh with ⟨g1, g2⟩ | ⟨g1, g2, g3, g4⟩
    · have g1 : f_X2_fillKeys_L2 (I (Pn : Int)) (I p) (I q) (I (N.natAbs : Int)) (J sY) (J sZ) (I (n : Int)) by_ FU 0 ks = some (0, ks') := g1
      have g2 : f_X12_set__L91 (I (Pn : Int)) (I p) (I q) (I y) (I z) (I (N.natAbs : Int)) fy' fz' FU 0 qy qz = some (0, qy', qz') := g2
      rw [bnd2_s g1, if_pos rfl, bnd2_s rfl, if_pos rfl, bnd6_s rfl, bnd2_s f1, bnd3_s g2, if_pos rfl]
      exact ⟨_, _, _, _, _, _, _, _, _, _, _, _, _, rfl, rfl, hRR, Or.inl rfl⟩
    · have g1 : f_X2_fillKeys_L2 (I (Pn : Int)) (I p) (I q) (I (N.natAbs : Int)) (J sY) (J sZ) (I (n : Int)) by_ FU 0 ks = some (1, ks') := g1
      have g2 : f_X12_set__L91 (I (Pn : Int)) (I p) (I q) (I y) (I z) (I (N.natAbs : Int)) fy' fz' FU 0 qy qz = some (1, qy', qz') := g2
      obtain ⟨dY', dZ', a1, a2⟩ := take_loop hP hat N.natAbs FU 0 dY dZ (by omega) (by rw [FU_eq]; omega) (fun i hi => absurd hi (by omega))
      have a1 : f_X2_takeDigits_L28 (I (Pn : Int)) (I (N.natAbs : Int)) (I (n : Int)) by_ FU 0 dY dZ = some (dY', dZ') := a1
      obtain ⟨dk', b1, b2⟩ := keep_loop hP g3 g4 N.natAbs FU 0 dk (by omega) (by rw [FU_eq]; omega) (fun i hi => absurd hi (by omega))
      have b1 : f_X2_keepDigits_L2 (I (N.natAbs : Int)) ks' FU 0 dk = some dk' := b1
      obtain ⟨sy', sz', c1, c2⟩ := copy_loop (nm := N.natAbs) (by omega) f2 N.natAbs FU 0 sy sz (by omega) (by rw [FU_eq]; omega) (fun i hi => absurd hi (by omega))
      have c1 : f_X12_set__L157 (I (N.natAbs : Int)) fy' fz' FU 0 sy sz = some (sy', sz') := c1
      unfold f_X2_keepDigits
      rw [bnd2_s g1, if_neg (by decide), bnd2_s rfl, if_neg (by decide), bnd2_s a1, bnd1_s b1, bnd2_s rfl, bnd6_s rfl, bnd2_s f1, bnd3_s g2, if_neg (by decide), bnd2_s c1]
      exact ⟨_, _, _, _, _, _, _, _, _, _, _, _, _, rfl, rfl, ⟨hP, rfl, rfl, rfl, rfl, rfl, rfl, rfl, rfl, rfl, rfl, rfl, rfl, rfl, rfl, Or.inr ⟨rfl, dy, dz, fun i hi => ⟨(a2 i hi).1, (a2 i hi).2, (c2 i hi).1, (c2 i hi).2, (hd i hi).1, (hd i hi).2.1, (hd i hi).2.2, b2 i hi⟩⟩⟩, Or.inr rfl⟩
  · rw [if_neg e, if_neg e, bnd6_s rfl]
    exact ⟨_, _, _, _, _, _, _, _, _, _, _, _, _, rfl, rfl, hRR, Or.inl rfl⟩
