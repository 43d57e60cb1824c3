/-- what make() comes to where both NUMBERS are there: nothing, or one triple -/
theorem mk_cases {nt : Nat → Int32} {nu nv nd : Nat → Int64} {sa : Nat → Nat} {has us vs ds : Nat → Int32} {a b : Int} (hb : VB a b) (th : Int32) (tu tv td : Int64) (s w : Int32) {i j : Nat} (hi : i < 10) (hj : j < 10) {u v d u' v' d' : Int}
    (q1 : f_X11_hasNumber nt sa (I (i : Int)) = some 1) (q2 : f_X12_isThere has (I (i : Int)) = some 1) (e1 : nu (sa i) = J u) (e2 : nv (sa i) = J v) (e3 : nd (sa i) = J d) (e4 : us i = I u) (e5 : vs i = I v) (e6 : ds i = I d) (hn : NB u v d)
    (p1 : f_X11_hasNumber nt sa (I (j : Int)) = some 1) (p2 : f_X12_isThere has (I (j : Int)) = some 1) (f1 : nu (sa j) = J u') (f2 : nv (sa j) = J v') (f3 : nd (sa j) = J d') (f4 : us j = I u') (f5 : vs j = I v') (f6 : ds j = I d') (hm : NB u' v' d') :
    ((∀ k : Nat, k < 10 → f_X11_make (I a) (I b) nt nu nv nd sa (I (k : Int)) (I (i : Int)) (I (j : Int)) w = some (0, nt, nu, nv, nd)) ∧ f_X12_make th (I a) (I b) tu tv td has us vs ds s (I (i : Int)) (I (j : Int)) w = some (0, 0, tu, tv, td, has, us, vs, ds)) ∨
    ∃ U V W : Int, B62 U ∧ B62 V ∧ B62 W ∧ 0 < W ∧ (∀ k : Nat, k < 10 → f_X11_make (I a) (I b) nt nu nv nd sa (I (k : Int)) (I (i : Int)) (I (j : Int)) w = f_X0_take nt nu nv nd (sa k) (J U) (J V) (J W)) ∧
      f_X12_make th (I a) (I b) tu tv td has us vs ds s (I (i : Int)) (I (j : Int)) w = bnd5 (f_X12_put (J (U.tdiv (g3 U V W))) (J (V.tdiv (g3 U V W))) (J (W.tdiv (g3 U V W))) has us vs ds s) (fun r h1 h2 h3 h4 => some (r, 0, J (U.tdiv (g3 U V W)), J (V.tdiv (g3 U V W)), J (W.tdiv (g3 U V W)), h1, h2, h3, h4)) := by
  have n1 : ¬ (1 : Int32) = 0 := by decide
  have gi : ∀ {α : Type} {k : Option α}, gd (ixb (I (i : Int)) 10) k = k := gdI (by omega) (by omega) (by omega)
  have gj : ∀ {α : Type} {k : Option α}, gd (ixb (I (j : Int)) 10) k = k := gdI (by omega) (by omega) (by omega)
  have ci : (I (i : Int)).toNatClampNeg = i := I_at rfl (by omega)
  have cj : (I (j : Int)).toNatClampNeg = j := I_at rfl (by omega)
  have gk : ∀ (k : Nat), k < 10 → ∀ {α : Type} {x : Option α}, gd (ixb (I (k : Int)) 10) x = x := fun k hk => gdI (by omega) (by omega) (by omega)
  have ck : ∀ (k : Nat), k < 10 → (I (k : Int)).toNatClampNeg = k := fun k hk => I_at rfl (by omega)
  have ru := hn.r
  have ru' := hm.r
  have set1 := set_id (tu := tu) (tv := tv) (td := td) hn
  have j1 : (I u').toInt64 = J (1 * u') := by rw [I_J ru'.1, Int.one_mul]
  have j2 : (I v').toInt64 = J (1 * v') := by rw [I_J ru'.2.1, Int.one_mul]
  have b' := hm.b
  have j3 : (-I u').toInt64 = J (-1 * u') := by rw [I_neg, I_J ⟨by omega, by omega⟩]; exact J_of_eq (by omega)
  have j4 : (-I v').toInt64 = J (-1 * v') := by rw [I_neg, I_J ⟨by omega, by omega⟩]; exact J_of_eq (by omega)
  by_cases w0 : w = 0
  · subst w0
    obtain ⟨U, V, W, c1, c2, c3, c4, c5, c6⟩ := k_join (nt := nt) (nu := nu) (nv := nv) (nd := nd) (t := 1) (Or.inl rfl) e1 e2 e3 f1 f2 f3 hn hm
    refine Or.inr ⟨U, V, W, c1, c2, c3, c4, fun k hk => ?_, ?_⟩
    · unfold f_X11_make
      rw [bnd1_s (s_X11_isSlot hk), if_neg n1, bnd1_s q1, if_neg n1, bnd1_s p1, if_neg n1]
      simp (decide := true) only [if_true, if_false, reduceIte, gk k hk, gi, gj, ck k hk, ci, cj, bnd5_eta]
      exact c5 (sa k)
    · unfold f_X12_make
      rw [bnd1_s q2, if_neg n1, bnd1_s p2, if_neg n1]
      simp (decide := true) only [if_true, if_false, reduceIte, gi, gj, ci, cj, e4, e5, e6, f4, f5, f6, I_J ru.1, I_J ru.2.1, I_J ru.2.2, j1, j2, I_J ru'.2.2, bnd3_s set1, bnd3_s c6]
  by_cases w1 : w = 1
  · subst w1
    obtain ⟨U, V, W, c1, c2, c3, c4, c5, c6⟩ := k_join (nt := nt) (nu := nu) (nv := nv) (nd := nd) (t := -1) (Or.inr rfl) e1 e2 e3 f1 f2 f3 hn hm
    refine Or.inr ⟨U, V, W, c1, c2, c3, c4, fun k hk => ?_, ?_⟩
    · unfold f_X11_make
      rw [bnd1_s (s_X11_isSlot hk), if_neg n1, bnd1_s q1, if_neg n1, bnd1_s p1, if_neg n1]
      simp (decide := true) only [if_true, if_false, reduceIte, gk k hk, gi, gj, ck k hk, ci, cj, bnd5_eta]
      exact c5 (sa k)
    · unfold f_X12_make
      rw [bnd1_s q2, if_neg n1, bnd1_s p2, if_neg n1]
      simp (decide := true) only [if_true, if_false, reduceIte, gi, gj, ci, cj, e4, e5, e6, f4, f5, f6, I_J ru.1, I_J ru.2.1, I_J ru.2.2, j3, j4, I_J ru'.2.2, bnd3_s set1, bnd3_s c6]
  by_cases w2 : w = 2
  · subst w2
    obtain ⟨U, V, W, c1, c2, c3, c4, c5, c6⟩ := k_times (nt := nt) (nu := nu) (nv := nv) (nd := nd) hb e1 e2 e3 f1 f2 f3 hn hm
    refine Or.inr ⟨U, V, W, c1, c2, c3, c4, fun k hk => ?_, ?_⟩
    · unfold f_X11_make
      rw [bnd1_s (s_X11_isSlot hk), if_neg n1, bnd1_s q1, if_neg n1, bnd1_s p1, if_neg n1]
      simp (decide := true) only [if_true, if_false, reduceIte, gk k hk, gi, gj, ck k hk, ci, cj, bnd5_eta]
      exact c5 (sa k)
    · unfold f_X12_make
      rw [bnd1_s q2, if_neg n1, bnd1_s p2, if_neg n1]
      simp (decide := true) only [if_true, if_false, reduceIte, gi, gj, ci, cj, e4, e5, e6, f4, f5, f6, I_J ru.1, I_J ru.2.1, I_J ru.2.2, I_J ru'.1, I_J ru'.2.1, I_J ru'.2.2, bnd3_s set1, bnd3_s c6]
  by_cases w3 : w = 3
  · subst w3
    have r0 : R31 0 := ⟨by omega, by omega⟩
    have z1 : (I u' = 0) ↔ u' = 0 := by rw [I0]; exact I_eq ru'.1 r0
    have z2 : (I v' = 0) ↔ v' = 0 := by rw [I0]; exact I_eq ru'.2.1 r0
    by_cases h0 : u' = 0 ∧ v' = 0
    · refine Or.inl ⟨fun k hk => ?_, ?_⟩
      · have eN : J u' * J u' + (I a).toInt64 * J u' * J v' - (I b).toInt64 * J v' * J v' = 0 := by
          rw [h0.1, h0.2]; simp [J]
        unfold f_X11_make f_X3_divide
        rw [bnd1_s (s_X11_isSlot hk), if_neg n1, bnd1_s q1, if_neg n1, bnd1_s p1, if_neg n1]
        simp (decide := true) only [if_true, if_false, reduceIte, gk k hk, gi, gj, ck k hk, ci, cj, bnd5_eta, f1, f2, eN]
      · unfold f_X12_make
        rw [bnd1_s q2, if_neg n1, bnd1_s p2, if_neg n1]
        simp (decide := true) only [if_true, if_false, reduceIte, gi, gj, ci, cj, f4, f5, z1.mpr h0.1, z2.mpr h0.2]
    · obtain ⟨U, V, W, c1, c2, c3, c4, c5, c6⟩ := k_divide (nt := nt) (nu := nu) (nv := nv) (nd := nd) hb e1 e2 e3 f1 f2 f3 hn hm h0
      refine Or.inr ⟨U, V, W, c1, c2, c3, c4, fun k hk => ?_, ?_⟩
      · unfold f_X11_make
        rw [bnd1_s (s_X11_isSlot hk), if_neg n1, bnd1_s q1, if_neg n1, bnd1_s p1, if_neg n1]
        simp (decide := true) only [if_true, if_false, reduceIte, gk k hk, gi, gj, ck k hk, ci, cj, bnd5_eta]
        exact c5 (sa k)
      · unfold f_X12_make
        rw [bnd1_s q2, if_neg n1, bnd1_s p2, if_neg n1]
        by_cases k1 : u' = 0
        · have k2 : ¬ v' = 0 := fun q => h0 ⟨k1, q⟩
          simp (decide := true) only [if_true, if_false, reduceIte, gi, gj, ci, cj, e4, e5, e6, f4, f5, f6, z1, z2, k1, k2, I_J ru.1, I_J ru.2.1, I_J ru.2.2, I_J ru'.2.1, I_J ru'.2.2, bnd3_s set1]
          rw [k1] at c6
          rw [show (I 0).toInt64 = J 0 from rfl, bnd3_s c6]
        · simp (decide := true) only [if_true, if_false, reduceIte, gi, gj, ci, cj, e4, e5, e6, f4, f5, f6, z1, z2, k1, I_J ru.1, I_J ru.2.1, I_J ru.2.2, I_J ru'.1, I_J ru'.2.1, I_J ru'.2.2, bnd3_s set1, bnd3_s c6]
  · refine Or.inl ⟨fun k hk => ?_, ?_⟩
    · unfold f_X11_make
      rw [bnd1_s (s_X11_isSlot hk), if_neg n1, bnd1_s q1, if_neg n1, bnd1_s p1, if_neg n1, if_neg w0, if_neg w1, if_neg w2, if_neg w3]
    · unfold f_X12_make
      rw [bnd1_s q2, if_neg n1, bnd1_s p2, if_neg n1]
      by_cases k1 : w < 0
      · rw [if_pos k1]
      · rw [if_neg k1]
        by_cases k2 : 3 < w
        · rw [if_pos k2]
        · exfalso
          rw [Int32.lt_iff_toInt_lt, show (0 : Int32).toInt = 0 from rfl] at k1
          rw [Int32.lt_iff_toInt_lt, show (3 : Int32).toInt = 3 from rfl] at k2
          have e : w = I w.toInt := I_of w
          rcases (show w.toInt = 0 ∨ w.toInt = 1 ∨ w.toInt = 2 ∨ w.toInt = 3 by omega) with z | z | z | z
          · exact w0 (by rw [e, z]; rfl)
          · exact w1 (by rw [e, z]; rfl)
          · exact w2 (by rw [e, z]; rfl)
          · exact w3 (by rw [e, z]; rfl)
theorem m_make {nt : Nat → Int32} {nu nv nd : Nat → Int64} {sa : Nat → Nat} {has us vs ds : Nat → Int32} (h : RN nt nu nv nd sa has us vs ds) (hs : SI sa) {a b : Int} (hb : VB a b) (th : Int32) (tu tv td : Int64) (s i j w : Int32) :
    ∃ (r : Int32) (nt' : Nat → Int32) (nu' nv' nd' : Nat → Int64) (tu' tv' td' : Int64) (has' us' vs' ds' : Nat → Int32), f_X11_make (I a) (I b) nt nu nv nd sa s i j w = some (r, nt', nu', nv', nd') ∧ f_X12_make th (I a) (I b) tu tv td has us vs ds s i j w = some (r, 0, tu', tv', td', has', us', vs', ds') ∧ RN nt' nu' nv' nd' sa has' us' vs' ds' := by
  have n1 : ¬ (1 : Int32) = 0 := by decide
  have cno : (s < 0 ∨ (10 : Int32) ≤ s) → f_X11_make (I a) (I b) nt nu nv nd sa s i j w = some (0, nt, nu, nv, nd) := fun q => by
    unfold f_X11_make
    rw [bnd1_s (s_X11_isSlot_no q), if_pos rfl]
  have none_case : (f_X11_hasNumber nt sa i = some 0 ∨ (f_X11_hasNumber nt sa i = some 1 ∧ f_X11_hasNumber nt sa j = some 0)) → f_X11_make (I a) (I b) nt nu nv nd sa s i j w = some (0, nt, nu, nv, nd) := fun q => by
    rcases slot_cases s with z | ⟨k, hk, rfl⟩
    · exact cno z
    · unfold f_X11_make
      rw [bnd1_s (s_X11_isSlot hk), if_neg n1]
      rcases q with q | ⟨q, q'⟩
      · rw [bnd1_s q, if_pos rfl]
      · rw [bnd1_s q, if_neg n1, bnd1_s q', if_pos rfl]
  rcases num_cases h i with ⟨q1, q2⟩ | ⟨i, u, v, d, hi, rfl, q1, q2, -, e1, e2, e3, e4, e5, e6, hn⟩
  · refine ⟨0, nt, nu, nv, nd, tu, tv, td, has, us, vs, ds, none_case (Or.inl q1), ?_, h⟩
    unfold f_X12_make
    rw [bnd1_s q2, if_pos rfl]
  · rcases num_cases h j with ⟨p1, p2⟩ | ⟨j, u', v', d', hj, rfl, p1, p2, -, f1, f2, f3, f4, f5, f6, hm⟩
    · refine ⟨0, nt, nu, nv, nd, tu, tv, td, has, us, vs, ds, none_case (Or.inr ⟨q1, p1⟩), ?_, h⟩
      unfold f_X12_make
      rw [bnd1_s q2, if_neg n1, bnd1_s p2, if_pos rfl]
    · rcases mk_cases hb th tu tv td s w hi hj q1 q2 e1 e2 e3 e4 e5 e6 hn p1 p2 f1 f2 f3 f4 f5 f6 hm with ⟨k1, k2⟩ | ⟨U, V, W, c1, c2, c3, c4, c5, c6⟩
      · refine ⟨0, nt, nu, nv, nd, tu, tv, td, has, us, vs, ds, ?_, k2, h⟩
        rcases slot_cases s with z | ⟨k, hk, rfl⟩
        · exact cno z
        · exact k1 k hk
      · rcases slot_cases s with z | ⟨k, hk, rfl⟩
        · refine ⟨0, nt, nu, nv, nd, J (U.tdiv (g3 U V W)), J (V.tdiv (g3 U V W)), J (W.tdiv (g3 U V W)), has, us, vs, ds, cno z, ?_, h⟩
          rw [c6, bnd5_s (s_X12_put_no z)]
        · obtain ⟨r, nt', nu', nv', nd', has', us', vs', ds', hr, x1, x2, x3⟩ := m_store h hs hk c1 c2 c3 c4
          refine ⟨r, nt', nu', nv', nd', J (U.tdiv (g3 U V W)), J (V.tdiv (g3 U V W)), J (W.tdiv (g3 U V W)), has', us', vs', ds', ?_, ?_, x3⟩
          · rw [c5 k hk, x1]
          · rw [c6, bnd5_s x2]
