/-! digits() -/
def TD (tg A L : Nat) (x4 x5 y4 y5 ah : Int32) : Prop := (tg = 0 ∧ L = 0 ∧ x4 = I (A : Int) ∧ ah = I (A : Int)) ∨ (tg = 1 ∧ x5 = I (A : Int) ∧ y5 = I (A : Int) ∧ x4 - x5 = I (L : Int) ∧ y4 - y5 = I (L : Int)) ∨ (tg = 2 ∧ A = 400 ∧ L = 0 ∧ ah = I 400)
theorem tail_loop {a b : Int} (hb : VB a b) {pU pV : Nat → Int64} (hp : ∀ i, i < pcn a b → pU i = J (pw a b i).1 ∧ pV i = J (pw a b i).2) {d : Int} (hd : 1 ≤ d ∧ d ≤ 1000) {T : Nat} (hT : T ≤ 30) {s : Nat} {st : Int32} {dg0 : Nat → Int64} :
    ∀ (j k m m' : Nat) (u v : Int) (be : Nat → Int32) (sz : Int32) (F S : Nat → Int64) (lk he sm : Nat → Int32) (ah : Int32) (dg LU LV : Nat → Int64), k + j = 400 → j + 2 ≤ m → j + 1 ≤ m' → TI a b d u v → TR s k st sz F S lk he sm → (∀ i, i < k → F i = LU i ∧ S i = LV i) → LU k = J u → LV k = J v → (∀ i i', i < i' → i' < k → ¬ (LU i = LU i' ∧ LV i = LV i')) → (∀ i, i < k → be i = (dg (T + 1 + i)).toInt32) → (∀ i, i < T + 1 → dg i = dg0 i) →
    ∃ (tg A L : Nat) (x4 x5 : Int32) (be' : Nat → Int32) (ru rv : Int64) (sz' : Int32) (F' S' : Nat → Int64) (lk' he' sm' : Nat → Int32) (y4 y5 ah' dm' : Int32) (dg' LU' LV' : Nat → Int64),
      f_X8_tellBehind_L7 (I a) (I b) (J (DD a b)) (I (pcn a b : Int)) pU pV (J d) st m (I (k : Int)) be (J u) (J v) sz F S lk he sm = some (tg, x4, x5, be', ru, rv, sz', F', S', lk', he', sm') ∧
      f_X12_digits_L76 (J d) (I a) (I b) (I (DD a b)) m' (I (k : Int)) ah (I ((T + 1 + k : Nat) : Int)) dg LU LV = some (tg, y4, y5, ah', dm', dg', LU', LV') ∧
      TD tg A L x4 x5 y4 y5 ah' ∧ A + L ≤ 400 ∧ (∀ i, i < A + L → be' i = (dg' (T + 1 + i)).toInt32) ∧ (∀ i, i < T + 1 → dg' i = dg0 i) ∧ RS s st sm' := by
  have h2p := (VB_g hb).1.2.1
  have hb' := hb
  unfold VB at hb'
  have ra : R31 a := ⟨by omega, by omega⟩
  have rb : R31 b := ⟨by omega, by omega⟩
  have z0 : R63 0 := ⟨by omega, by omega⟩
  intro j
  induction j with
  | zero =>
    intro k m m' u v be sz F S lk he sm ah dg LU LV hk hm hm' hI hTR hFS hLU hLV hdis hbe hdg
    obtain ⟨m, rfl⟩ : ∃ i, m = i + 2 := ⟨m - 2, by omega⟩
    obtain ⟨m', rfl⟩ : ∃ i, m' = i + 1 := ⟨m' - 1, by omega⟩
    have hRS := TR_RS hTR
    by_cases q : J u = 0 ∧ J v = 0
    · exact ⟨0, k, 0, _, _, _, _, _, _, _, _, _, _, _, _, _, _, _, _, _, _, cl_end (by omega) q, re_end (by omega) (by rw [hLU, hLV]; exact q), Or.inl ⟨rfl, rfl, rfl, rfl⟩, by omega, hbe, hdg, hRS⟩
    · have q' : ¬ (LU k = 0 ∧ LV k = 0) := by rw [hLU, hLV]; exact q
      have h116 := l116_loop (k := k) (by omega) (LU := LU) (LV := LV) k FU 0 (by omega) (by rw [FU_eq]; omega) (fun i hi => absurd hi (by omega))
      rcases s_meet hTR (by omega) (J u) (J v) with ⟨i, i1, i2, i3, i4⟩ | ⟨i1, lk', he', sm', i4, i5⟩
      · rcases h116 with ⟨p, p1, p2, p3, p4⟩ | ⟨p1, -⟩
        · have e : p = i := by
            rcases Nat.lt_trichotomy p i with z | z | z
            · exact absurd ⟨by rw [p2, ← (hFS i i1).1, i2, hLU], by rw [p3, ← (hFS i i1).2, i3, hLV]⟩ (hdis p i z i1)
            · exact z
            · exact absurd ⟨by rw [p2, ← (hFS i i1).1, i2, hLU], by rw [p3, ← (hFS i i1).2, i3, hLV]⟩ (hdis i p z p1)
          subst e
          have ed : I (k : Int) - I (p : Int) = I ((k - p : Nat) : Int) := by rw [I_sub]; congr 1; omega
          exact ⟨1, p, k - p, _, _, _, _, _, _, _, _, _, _, _, _, _, _, _, _, _, _, cl_met (by omega) q (by omega) i4, re_met (by omega) q' p4, Or.inr (Or.inl ⟨rfl, rfl, rfl, ed, ed⟩), by omega, fun i hi => hbe i (by omega), hdg, hRS⟩
        · exact absurd ⟨by rw [← (hFS i i1).1, i2, hLU], by rw [← (hFS i i1).2, i3, hLV]⟩ (p1 i i1)
      · rcases h116 with ⟨p, p1, p2, p3, p4⟩ | ⟨-, p4⟩
        · exact absurd ⟨by rw [(hFS p p1).1, p2, hLU], by rw [(hFS p p1).2, p3, hLV]⟩ (i1 p p1)
        · refine ⟨2, 400, 0, _, _, _, _, _, _, _, _, _, _, _, _, _, _, _, _, _, _, cl_far (by omega) q i4, re_far (by omega) q' p4, Or.inr (Or.inr ⟨rfl, rfl, rfl, ?_⟩), by omega, fun i hi => hbe i (by omega), hdg, TR_RS i5⟩
          rw [show k = 400 by omega]; rfl
  | succ j ih =>
    intro k m m' u v be sz F S lk he sm ah dg LU LV hk hm hm' hI hTR hFS hLU hLV hdis hbe hdg
    obtain ⟨m, rfl⟩ : ∃ i, m = i + 1 := ⟨m - 1, by omega⟩
    obtain ⟨m', rfl⟩ : ∃ i, m' = i + 1 := ⟨m' - 1, by omega⟩
    have hRS := TR_RS hTR
    by_cases q : J u = 0 ∧ J v = 0
    · exact ⟨0, k, 0, _, _, _, _, _, _, _, _, _, _, _, _, _, _, _, _, _, _, cl_end (by omega) q, re_end (by omega) (by rw [hLU, hLV]; exact q), Or.inl ⟨rfl, rfl, rfl, rfl⟩, by omega, hbe, hdg, hRS⟩
    · have q' : ¬ (LU k = 0 ∧ LV k = 0) := by rw [hLU, hLV]; exact q
      have h116 := l116_loop (k := k) (by omega) (LU := LU) (LV := LV) k FU 0 (by omega) (by rw [FU_eq]; omega) (fun i hi => absurd hi (by omega))
      rcases s_meet hTR (by omega) (J u) (J v) with ⟨i, i1, i2, i3, i4⟩ | ⟨i1, lk', he', sm', i4, i5⟩
      · rcases h116 with ⟨p, p1, p2, p3, p4⟩ | ⟨p1, -⟩
        · have e : p = i := by
            rcases Nat.lt_trichotomy p i with z | z | z
            · exact absurd ⟨by rw [p2, ← (hFS i i1).1, i2, hLU], by rw [p3, ← (hFS i i1).2, i3, hLV]⟩ (hdis p i z i1)
            · exact z
            · exact absurd ⟨by rw [p2, ← (hFS i i1).1, i2, hLU], by rw [p3, ← (hFS i i1).2, i3, hLV]⟩ (hdis i p z p1)
          subst e
          have ed : I (k : Int) - I (p : Int) = I ((k - p : Nat) : Int) := by rw [I_sub]; congr 1; omega
          exact ⟨1, p, k - p, _, _, _, _, _, _, _, _, _, _, _, _, _, _, _, _, _, _, cl_met (by omega) q (by omega) i4, re_met (by omega) q' p4, Or.inr (Or.inl ⟨rfl, rfl, rfl, ed, ed⟩), by omega, fun i hi => hbe i (by omega), hdg, hRS⟩
        · exact absurd ⟨by rw [← (hFS i i1).1, i2, hLU], by rw [← (hFS i i1).2, i3, hLV]⟩ (p1 i i1)
      · rcases h116 with ⟨p, p1, p2, p3, p4⟩ | ⟨-, p4⟩
        · exact absurd ⟨by rw [(hFS p p1).1, p2, hLU], by rw [(hFS p p1).2, p3, hLV]⟩ (i1 p p1)
        · obtain ⟨c, g1, g2, g3, g4, g5⟩ := tail_step hb hd hI
          have hpe := s_peel hb (k := 0) (by omega) (U := 1) (V := 0) (hp 0 (by omega)).1 (hp 0 (by omega)).2 g1 g4 g5
          rw [Int.mul_one, Int.mul_zero, Int.mul_zero, Int.sub_zero] at hpe
          have hpe' : f_X1_peel ((I b).toInt64 * J v) (J u + (I a).toInt64 * J v) (J d) (I a) (I b) (J (DD a b)) (I (pcn a b : Int)) pU pV 0 = some (I (c : Int), J (b * v - c * d), J (u + a * v)) := by
            rw [I_J ra, I_J rb, J_mul, J_mul, J_add]; exact hpe
          have h242 := l242_loop hb g2 (by rw [Int.mul_one] at g4; exact g4) (by omega) c FU 0 (by omega) (by rw [FU_eq]; have := g1.1; have := tp_b hb; omega)
          rw [show b * v - ((0 : Nat) : Int) * d = b * v by omega] at h242
          have h242' : f_X12_digits_L242 (J d) (LU k + LV k * (I a).toInt64) (I a) (I (DD a b)) FU (LV k * (I b).toInt64) 0 = some (J (b * v - c * d), J (c : Int)) := by
            rw [hLU, hLV, I_J ra, I_J rb, J_mul, J_mul, J_add, Int.mul_comm v a, Int.mul_comm v b]; exact h242
          have hq : LU k + LV k * (I a).toInt64 = J (u + a * v) := by rw [hLU, hLV, I_J ra, J_mul, J_add, Int.mul_comm v a]
          have s1 := cl_step (m := m) (be := be) (k := k) (by omega) q i4 hpe'
          have s2 := re_step (m := m') (ah := ah) (dg := dg) (k := k) (by omega) q' p4 (q := T + 1 + k) (by omega) rfl h242'
          rw [hq] at s2
          rw [s1, s2]
          refine ih (k + 1) m m' (b * v - c * d) (u + a * v) _ _ _ _ _ _ _ _ _ _ _ (by omega) (by omega) (by omega) g3 i5 ?_ ?_ ?_ ?_ ?_ ?_
          · intro i hi
            by_cases z : i = k
            · subst z
              rw [pk_uLs, pk_uLs, pk_uLn (by omega), pk_uLn (by omega)]; exact ⟨hLU.symm, hLV.symm⟩
            · rw [pk_uLn z, pk_uLn z, pk_uLn (by omega), pk_uLn (by omega)]; exact hFS i (by omega)
          · rw [pk_uLs]
          · rw [pk_uLs]
          · intro x y h1 h2
            rw [pk_uLn (by omega), pk_uLn (by omega), pk_uLn (by omega), pk_uLn (by omega)]
            by_cases z : y = k
            · subst z
              rw [← (hFS x (by omega)).1, ← (hFS x (by omega)).2, hLU, hLV]
              exact i1 x (by omega)
            · exact hdis x y h1 (by omega)
          · intro i hi
            by_cases z : i = k
            · subst z
              rw [pk_us, pk_uLs, J_I]
            · rw [pk_un z, pk_uLn (by omega)]; exact hbe i (by omega)
          · intro i hi
            rw [pk_uLn (by omega)]; exact hdg i hi
theorem RS_up {s s' : Nat} {st : Int32} {sm : Nat → Int32} (h : RS s st sm) (e : s = s') : RS s' st sm := by subst e; exact h
theorem m_digits {nt : Nat → Int32} {nu nv nd : Nat → Int64} {sa : Nat → Nat} {has us vs ds : Nat → Int32} (h : RN nt nu nv nd sa has us vs ds) {a b : Int} (hb : VB a b) {pU pV : Nat → Int64} (hp : ∀ i, i < pcn a b → pU i = J (pw a b i).1 ∧ pV i = J (pw a b i).2) {kind top ahead len : Int32} {front behind : Nat → Int32} {isTold result mtop mahead mround : Int32} {dig : Nat → Int64} (hD : RD kind top ahead len front behind isTold result mtop mahead mround dig)
    {sn : Nat} {st : Int32} {sm : Nat → Int32} (hS : RS sn st sm) (hsn : sn < 1999999999) (ru rv rd : Int64) (sz : Int32) (F S : Nat → Int64) (lk he : Nat → Int32) (th mdm : Int32) (LU LV : Nat → Int64) (s : Int32) :
    ∃ (r : Int32) (ru' rv' rd' : Int64) (kind' top' ahead' len' : Int32) (front' behind' : Nat → Int32) (st' sz' : Int32) (F' S' : Nat → Int64) (lk' he' sm' : Nat → Int32) (isTold' result' mtop' mahead' mround' mdm' : Int32) (dig' LU' LV' : Nat → Int64) (sn' : Nat),
      f_X11_digits (I a) (I b) (J (DD a b)) (I (pcn a b : Int)) pU pV ru rv rd kind top ahead len front behind st sz F S lk he sm nt nu nv nd sa s = some (r, ru', rv', rd', kind', top', ahead', len', front', behind', st', sz', F', S', lk', he', sm') ∧
      f_X12_digits th (I a) (I b) (I (DD a b)) isTold result mtop mahead mround mdm has us vs ds dig LU LV s = some (r, 0, isTold', result', mtop', mahead', mround', mdm', dig', LU', LV') ∧
      RD kind' top' ahead' len' front' behind' isTold' result' mtop' mahead' mround' dig' ∧ RS sn' st' sm' ∧ sn' ≤ sn + 1 := by
  unfold f_X11_digits f_X12_digits
  rcases from0 h hb s with ⟨q1, q2⟩ | ⟨i, u, v, d, hi, rfl, q2, e1, e2, e3, e4, e5, e6, hn, t, x1, hx⟩
  · rw [bnd1_s q1, if_pos rfl, bnd1_s q2, if_pos rfl]
    exact ⟨-1, _, _, _, _, _, _, _, _, _, _, _, _, _, _, _, _, _, _, _, _, _, _, _, _, _, sn, rfl, rfl, hD, hS, by omega⟩
  · have q := hn.b
    rw [bnd1_s q2, if_neg (show ¬ (1 : Int32) = 0 by decide)]
    simp only [gdI (a := (i : Int)) (n := 10) (by omega) (by omega) (by omega), I_at (a := (i : Int)) (n := i) rfl (by omega)]
    rw [e4, e5, e6, I_J hn.r.1, I_J hn.r.2.1, I_J hn.r.2.2, bnd1_s x1]
    rcases hx with ⟨z1, z2⟩ | ⟨z1, z2, z3⟩
    · rw [bnd1_s z1, if_pos rfl, if_neg z2]
      exact ⟨-1, _, _, _, _, _, _, _, _, _, _, _, _, _, _, _, _, _, _, _, _, _, _, _, _, _, sn, rfl, rfl, hD, hS, by omega⟩
    · obtain ⟨T, hT, hh⟩ := TopP_ex hb hn
      have sg1 := s_greatest hb hp hn hT hh
      have r9 := top_9 hb hn hT hh T FU 0 (by omega) (by rw [FU_eq]; have := hT.2.2.1; omega)
      have r9 : f_X12_whole_L9 (J u) (J v) (J d) (I a) (I b) (I (DD a b)) FU 1 0 0 = _ := r9
      obtain ⟨t1, t2, t3, t4, t5⟩ := hT
      have hP := hb.pw.1
      obtain ⟨g, u', v', f1, f2, f3⟩ := Fr_ex hb (d := d) (by omega) (T + 1) u v (by omega) z3 t4
      have hbd := VB_bd hb t1
      obtain ⟨w1, w2, fr', dg', y1, y2, y3, y4, y5⟩ := tell_loop hb hp t1 t3 t5 (T + 1) FU FU u v (J (pw a b T).1) (J (pw a b T).2) front dig (by omega) (by rw [FU_eq]; omega) (by rw [FU_eq]; omega) f1 (by omega) (by omega) (fun _ => ⟨rfl, rfl⟩)
      rw [show (((T + 1 : Nat) : Int) - 1) = (T : Int) by omega] at y1 y2
      rw [show T + 1 - (T + 1) = 0 by omega] at y2
      have y2 : f_X12_whole_L87 (J d) (I a) (I b) (I (DD a b)) FU (J (pw a b T).1) (J (pw a b T).2) (I (T : Int)) (J u) (J v) 0 dig = _ := y2
      obtain ⟨cc, hTR⟩ := TR_clear hS hsn F S lk he sz
      obtain ⟨tg, A, L, x4, x5, be', ru', rv', sz', F', S', lk', he', sm', yy4, yy5, ah', dm', dg2, LU', LV', l1, l2, l3, l4, l5, l6, l7⟩ := tail_loop hb hp (d := d) (by omega) t3 (dg0 := dg') 400 0 FU FU u' v' behind 0 F S lk he sm mahead dg' (vp_updL LU 0 (J u')) (vp_updL LV 0 (J v')) (by omega) (by rw [FU_eq]; omega) (by rw [FU_eq]; omega) ⟨f2, f3, by omega, w2⟩ hTR (fun i hi => absurd hi (by omega)) (by rw [pk_uLs]) (by rw [pk_uLs]) (fun i i' _ h2 => absurd h2 (by omega)) (fun i hi => absurd hi (by omega)) (fun i _ => rfl)
      have l1 : f_X8_tellBehind_L7 (I a) (I b) (J (DD a b)) (I (pcn a b : Int)) pU pV (J d) (I ((sn + 1 : Nat) : Int)) FU 0 behind (J u') (J v') 0 F S lk he sm = _ := l1
      have l2 : f_X12_digits_L76 (J d) (I a) (I b) (I (DD a b)) FU 0 mahead (I ((T + 1 : Nat) : Int)) dg' (vp_updL LU 0 (J u')) (vp_updL LV 0 (J v')) = _ := l2
      have hwh : f_X12_whole (I a) (I b) (I (DD a b)) mtop mdm dig LU LV (J u) (J v) (J d) = some (I (T : Int), I ((T + 1 : Nat) : Int), dg', vp_updL LU 0 (J u'), vp_updL LV 0 (J v')) := by
        unfold f_X12_whole
        rw [bnd3_s r9, bnd4_s y2, gd_t (by decide), gd_t (by decide)]; rfl
      have hmin : f_J9_min_7cf53 (I (T : Int)) (48 - 1) = some (I (T : Int)) := by
        have := s_min (m := T) (n := 47) (by omega) (by omega)
        rw [show min T 47 = T by omega] at this
        exact this
      have hRDof : ∀ (kd ahd ln : Int32), kd ≠ -1 → ahd = I (A : Int) → ln = I (L : Int) → RD kd (I (T : Int)) ahd ln fr' be' 1 kd (I (T : Int)) (I (A : Int)) (I (L : Int)) dg2 := by
        intro kd ahd ln hk1 hk2 hk3
        refine Or.inr ⟨rfl, rfl, hk1, T, A, L, rfl, rfl, hk2, rfl, hk3, rfl, by omega, l4, ?_, l5⟩
        intro k hk
        rw [l6 (T - k) (by omega), (y3 k (by omega)).1, (y3 k (by omega)).2, J_I]
      have htb : ∀ (k0 a0 l0 : Int32), ∃ kd : Int32, kd ≠ -1 ∧ ((tg = 0 ∧ kd = 0) ∨ (tg = 1 ∧ kd = 1) ∨ (tg = 2 ∧ kd = 2)) ∧ f_X8_tellBehind k0 a0 l0 behind (I a) (I b) (J (DD a b)) (I (pcn a b : Int)) pU pV (J u') (J v') (J d) st sz F S lk he sm = some (kd, I (A : Int), I (L : Int), be', ru', rv', I ((sn + 1 : Nat) : Int), sz', F', S', lk', he', sm') := by
        intro k0 a0 l0
        unfold f_X8_tellBehind f_X8_settle
        rw [bnd2_s cc, bnd12_s l1]
        rcases l3 with ⟨rfl, rfl, rfl, -⟩ | ⟨rfl, rfl, -, k4, -⟩ | ⟨rfl, rfl, rfl, -⟩
        · exact ⟨0, by decide, Or.inl ⟨rfl, rfl⟩, by rw [if_pos rfl, bnd3_s rfl]; rfl⟩
        · exact ⟨1, by decide, Or.inr (Or.inl ⟨rfl, rfl⟩), by rw [if_neg (by decide), if_pos rfl, k4, bnd3_s rfl]⟩
        · exact ⟨2, by decide, Or.inr (Or.inr ⟨rfl, rfl⟩), by rw [if_neg (by decide), if_neg (by decide), bnd3_s rfl]; rfl⟩
      obtain ⟨kd, kd1, kd2, kd3⟩ := htb kind ahead len
      refine ⟨kd, ru', rv', J d, kd, I (T : Int), I (A : Int), I (L : Int), fr', be', I ((sn + 1 : Nat) : Int), sz', F', S', lk', he', sm', 1, kd, I (T : Int), I (A : Int), I (L : Int), dm', dg2, LU', LV', sn + 1, ?_, ?_, hRDof kd _ _ kd1 rfl rfl, l7, by omega⟩
      · unfold f_X8_tell f_X1_of
        rw [bnd1_s z1, if_neg (show ¬ (1 : Int32) = 0 by decide), e1, e2, e3, bnd3_s rfl, bnd1_s sg1, bnd1_s hmin, bnd3_s y1, bnd13_s kd3, bnd16_s rfl]
      · rw [if_pos z2, bnd5_s hwh, bnd8_s l2]
        rcases kd2 with ⟨rfl, rfl⟩ | ⟨rfl, rfl⟩ | ⟨rfl, rfl⟩
        · rcases l3 with ⟨-, rfl, -, rfl⟩ | ⟨z, -⟩ | ⟨z, -⟩
          · rw [if_pos rfl]; rfl
          · exact absurd z (by decide)
          · exact absurd z (by decide)
        · rcases l3 with ⟨z, -⟩ | ⟨-, -, rfl, -, k5⟩ | ⟨z, -⟩
          · exact absurd z (by decide)
          · rw [if_neg (by decide), if_pos rfl, k5]
          · exact absurd z (by decide)
        · rcases l3 with ⟨z, -⟩ | ⟨z, -⟩ | ⟨-, rfl, rfl, rfl⟩
          · exact absurd z (by decide)
          · exact absurd z (by decide)
          · rw [if_neg (by decide), if_neg (by decide)]; rfl
