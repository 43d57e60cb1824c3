/-! rounds(), ending() -/
theorem r25_loop {n : Nat} (hn : n ≤ 441) {nl nY nZ : Nat → Int32} : ∀ (j m k : Nat) (rl ry rz : Nat → Int32), k + j = n → j + 1 ≤ m → AG k nl nY nZ rl ry rz → ∃ rl' ry' rz' : Nat → Int32, f_X12_rounds_L25 (I (n : Int)) nl nY nZ m (I (k : Int)) rl ry rz = some (rl', ry', rz') ∧ AG n nl nY nZ rl' ry' rz' := by
  intro j
  induction j with
  | zero =>
    intro m k rl ry rz hk hm h
    obtain ⟨m, rfl⟩ : ∃ i, m = i + 1 := ⟨m - 1, by omega⟩
    rw [f_X12_rounds_L25, if_pos ((In_le (by omega) (by omega)).mpr (by omega))]
    exact ⟨rl, ry, rz, rfl, fun i hi => h i (by omega)⟩
  | succ j ih =>
    intro m k rl ry rz hk hm h
    obtain ⟨m, rfl⟩ : ∃ i, m = i + 1 := ⟨m - 1, by omega⟩
    have c : ¬ I (n : Int) ≤ I (k : Int) := fun z => by have := (In_le (by omega) (by omega)).mp z; omega
    rw [f_X12_rounds_L25, if_neg c]
    simp only [gdI (a := (k : Int)) (n := 450) (by omega) (by omega) (by omega), I_at (a := (k : Int)) (n := k) rfl (by omega), I_s]
    refine ih m (k + 1) _ _ _ (by omega) (by omega) (fun i hi => ?_)
    by_cases e : i = k
    · subst e; rw [pk_us, pk_us, pk_us]; exact ⟨rfl, rfl, rfl⟩
    · rw [pk_un e, pk_un e, pk_un e]; exact h i (by omega)
theorem m_ending {P p q y z sY sZ N : Int} {pa cp cq no : Int32} {cy cz cd : Int64} {si : Int32} {dY dZ dk : Nat → Int32} {mpa mp mq my mz mno ms : Int32} {sy sz : Nat → Int32} (h : RR P p q y z sY sZ N pa cp cq no cy cz cd si dY dZ dk mpa mp mq my mz mno ms sy sz) {s : Nat} {st : Int32} {sm : Nat → Int32} (hRS : RS s st sm) (hs : s < 1999990000) (en ts : Int32) (F S : Nat → Int64) (lk he : Nat → Int32) (ny nz : Int64) (pk pb pl : Int32) (pp : Nat → Int32) (lz : Int32) (le ys zs : Nat → Int32) (th : Int32) (qy qz : Int64) (pm met len how nm men : Int32) (wy wz pl2 rl ry rz : Nat → Int32) (l : Int32) :
    ∃ (r en' st' ts' : Int32) (F' S' : Nat → Int64) (lk' he' sm' : Nat → Int32) (ny' nz' : Int64) (pk' pb' pl' : Int32) (pp' : Nat → Int32) (lz' : Int32) (le' ys' zs' : Nat → Int32) (qy' qz' : Int64) (pm' met' len' how' nm' men' : Int32) (wy' wz' pl2' rl' ry' rz' : Nat → Int32) (s' : Nat),
      f_X11_ending en st ts F S lk he sm pa cp cq no cy cz cd si ny nz dY dZ dk pk pb pl pp lz le ys zs l = some (r, en', st', ts', F', S', lk', he', sm', ny', nz', pk', pb', pl', pp', lz', le', ys', zs') ∧
      f_X12_ending th mpa mp mq my mz ms qy qz pm met len how nm men sy sz wy wz pl2 rl ry rz l = some (r, 0, qy', qz', pm', met', len', how', nm', men', wy', wz', pl2', rl', ry', rz') ∧
      RS s' st' sm' ∧ s' ≤ s + 441 := by
  obtain ⟨rr, en', st', ts', F', S', lk', he', sm', ny', nz', pk', pb', pl', pp', lz', le', ys', zs', qy', qz', pm', met', len', how', nm', men', wy', wz', pl2', rl', ry', rz', s', k1, k2, k3, k4, k5⟩ := m_all h hRS hs en ts F S lk he ny nz pk pb pl pp lz le ys zs qy qz pm met len how nm men wy wz pl2 rl ry rz l
  unfold f_X11_ending f_X12_ending
  rw [bnd19_s k1, bnd15_s k2]
  rcases k5 with rfl | ⟨rfl, rfl, -⟩
  · rw [if_pos rfl, if_pos rfl]
    exact ⟨_, _, _, _, _, _, _, _, _, _, _, _, _, _, _, _, _, _, _, _, _, _, _, _, _, _, _, _, _, _, _, _, _, s', rfl, rfl, k3, k4⟩
  · rw [if_neg (by decide), if_neg (by decide)]
    exact ⟨_, _, _, _, _, _, _, _, _, _, _, _, _, _, _, _, _, _, _, _, _, _, _, _, _, _, _, _, _, _, _, _, _, s', rfl, rfl, k3, k4⟩
/-- the lists known are swapped in the class; hk, hp are the two lists' places -/
theorem m_rounds {P p q y z sY sZ N : Int} {pa cp cq no : Int32} {cy cz cd : Int64} {si : Int32} {dY dZ dk : Nat → Int32} {mpa mp mq my mz mno ms : Int32} {sy sz : Nat → Int32} (h : RR P p q y z sY sZ N pa cp cq no cy cz cd si dY dZ dk mpa mp mq my mz mno ms sy sz) {s : Nat} {st : Int32} {sm : Nat → Int32} (hRS : RS s st sm) (hs : s < 1999990000) (hk hp : Nat) (en ts : Int32) (F S : Nat → Int64) (lk he : Nat → Int32) (ny nz : Int64) (pk pb pl : Int32) (pp : Nat → Int32) (lz : Int32) (le ys zs : Nat → Int32) (th : Int32) (qy qz : Int64) (pm met len how rm nm men : Int32) (wy wz pl2 ol oy oz rl ry rz : Nat → Int32) (l : Int32) :
    ∃ (r : Int32) (hk' hp' : Nat) (en' st' ts' : Int32) (F' S' : Nat → Int64) (lk' he' sm' : Nat → Int32) (ny' nz' : Int64) (pk' pb' pl' : Int32) (pp' : Nat → Int32) (lz' : Int32) (le' ys' zs' : Nat → Int32) (qy' qz' : Int64) (pm' met' len' how' rm' nm' men' : Int32) (wy' wz' pl2' ol' oy' oz' rl' ry' rz' : Nat → Int32) (s' : Nat),
      f_X11_rounds hk hp en st ts F S lk he sm pa cp cq no cy cz cd si ny nz dY dZ dk pk pb pl pp lz le ys zs l = some (r, hk', hp', en', st', ts', F', S', lk', he', sm', ny', nz', pk', pb', pl', pp', lz', le', ys', zs') ∧
      f_X12_rounds th mpa mp mq my mz ms qy qz pm met len how rm nm men sy sz wy wz pl2 ol oy oz rl ry rz l = some (r, 0, qy', qz', pm', met', len', how', rm', nm', men', wy', wz', pl2', ol', oy', oz', rl', ry', rz') ∧
      RS s' st' sm' ∧ s' ≤ s + 441 ∧ ((hk' = hk ∧ hp' = hp ∧ rm' = rm ∧ ol' = ol ∧ oy' = oy ∧ oz' = oz) ∨ (hk' = hp ∧ hp' = hk ∧ RK lz' le' ys' zs' rm' ol' oy' oz')) := by
  obtain ⟨rr, en', st', ts', F', S', lk', he', sm', ny', nz', pk', pb', pl', pp', lz', le', ys', zs', qy', qz', pm', met', len', how', nm', men', wy', wz', pl2', rl', ry', rz', s', k1, k2, k3, k4, k5⟩ := m_all h hRS hs en ts F S lk he ny nz pk pb pl pp lz le ys zs qy qz pm met len how nm men wy wz pl2 rl ry rz l
  unfold f_X11_rounds f_X12_rounds
  rw [bnd19_s k1, bnd15_s k2]
  rcases k5 with rfl | ⟨rfl, rfl, n, hn, rfl, rfl, hA⟩
  · rw [if_pos rfl, if_pos rfl]
    exact ⟨_, _, _, _, _, _, _, _, _, _, _, _, _, _, _, _, _, _, _, _, _, _, _, _, _, _, _, _, _, _, _, _, _, _, _, _, _, _, _, s', rfl, rfl, k3, k4, Or.inl ⟨rfl, rfl, rfl, rfl, rfl, rfl⟩⟩
  · obtain ⟨ol', oy', oz', g1, g2⟩ := r25_loop hn (nl := rl') (nY := ry') (nZ := rz') n FU 0 ol oy oz (by omega) (by rw [FU_eq]; omega) (fun i hi => absurd hi (by omega))
    have g1 : f_X12_rounds_L25 (I (n : Int)) rl' ry' rz' FU 0 ol oy oz = some (ol', oy', oz') := g1
    rw [if_neg (by decide), if_neg (by decide), bnd3_s g1]
    exact ⟨_, _, _, _, _, _, _, _, _, _, _, _, _, _, _, _, _, _, _, _, _, _, _, _, _, _, _, _, _, _, _, _, _, _, _, _, _, _, _, s', rfl, rfl, k3, k4, Or.inr ⟨rfl, rfl, n, hn, rfl, rfl, fun k hk => by
      obtain ⟨a1, a2, a3⟩ := hA k hk
      obtain ⟨b1, b2, b3⟩ := g2 k hk
      exact ⟨by rw [a1, b1], by rw [a2, b2], by rw [a3, b3]⟩⟩⟩
