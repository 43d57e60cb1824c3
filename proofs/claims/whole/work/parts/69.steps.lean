/-! one place behind the point, in the class and in the reference -/
theorem nothing0 {u v : Int64} (h : ¬ (u = 0 ∧ v = 0)) : f_X1_isNothing u v = some 0 := by
  unfold f_X1_isNothing
  by_cases q : u = 0
  · rw [if_pos q, if_neg (fun z => h ⟨q, z⟩)]
  · rw [if_neg q]
theorem nothing1 {u v : Int64} (h : u = 0 ∧ v = 0) : f_X1_isNothing u v = some 1 := by
  unfold f_X1_isNothing
  rw [if_pos h.1, if_pos h.2]
theorem c400 {k : Nat} (hk : k ≤ 400) : ¬ (400 : Int32) < I (k : Int) := by rw [show (400 : Int32) = I 400 from rfl, I_lt ⟨by omega, by omega⟩ (r31n (by omega))]; omega
section
variable {A B P sz st : Int32} {D u v d : Int64} {pU pV F S : Nat → Int64} {be lk he sm : Nat → Int32} {m k : Nat}
theorem cl_end (hk : k ≤ 400) (h : u = 0 ∧ v = 0) : f_X8_tellBehind_L7 A B D P pU pV d st (m + 1) (I (k : Int)) be u v sz F S lk he sm = some (0, I (k : Int), 0, be, u, v, sz, F, S, lk, he, sm) := by
  rw [f_X8_tellBehind_L7, if_neg (c400 hk), bnd1_s (nothing1 h), if_neg (by decide)]
theorem cl_met (hk : k ≤ 400) (h : ¬ (u = 0 ∧ v = 0)) {i : Nat} (hi : i < 401) (hm : f_X9_meet st sz F S lk he sm u v = some (I (i : Int), sz, F, S, lk, he, sm)) : f_X8_tellBehind_L7 A B D P pU pV d st (m + 1) (I (k : Int)) be u v sz F S lk he sm = some (1, I (k : Int), I (i : Int), be, u, v, sz, F, S, lk, he, sm) := by
  have nm : ¬ I (i : Int) = -1 := by rw [Im1, I_eq (r31n (by omega)) ⟨by omega, by omega⟩]; omega
  rw [f_X8_tellBehind_L7, if_neg (c400 hk), bnd1_s (nothing0 h), if_pos rfl, bnd7_s hm, if_neg nm]
theorem cl_far (hk : k = 400) (h : ¬ (u = 0 ∧ v = 0)) {sz' : Int32} {F' S' : Nat → Int64} {lk' he' sm' : Nat → Int32} (hm : f_X9_meet st sz F S lk he sm u v = some (-1, sz', F', S', lk', he', sm')) : f_X8_tellBehind_L7 A B D P pU pV d st (m + 2) (I (k : Int)) be u v sz F S lk he sm = some (2, I ((k + 1 : Nat) : Int), 0, be, u, v, sz', F', S', lk', he', sm') := by
  subst hk
  rw [f_X8_tellBehind_L7, if_neg (c400 (by omega)), bnd1_s (nothing0 h), if_pos rfl, bnd7_s hm, if_pos rfl, if_pos (by decide), I_s, f_X8_tellBehind_L7, if_pos (by decide)]
theorem cl_step (hk : k < 400) (h : ¬ (u = 0 ∧ v = 0)) {sz' : Int32} {F' S' : Nat → Int64} {lk' he' sm' : Nat → Int32} (hm : f_X9_meet st sz F S lk he sm u v = some (-1, sz', F', S', lk', he', sm')) {c : Int32} {u' v' : Int64} (hp : f_X1_peel (B.toInt64 * v) (u + A.toInt64 * v) d A B D P pU pV 0 = some (c, u', v')) : f_X8_tellBehind_L7 A B D P pU pV d st (m + 1) (I (k : Int)) be u v sz F S lk he sm = f_X8_tellBehind_L7 A B D P pU pV d st m (I ((k + 1 : Nat) : Int)) (upd be k c) u' v' sz' F' S' lk' he' sm' := by
  have c4 : ¬ (400 : Int32) ≤ I (k : Int) := by rw [show (400 : Int32) = I 400 from rfl, I_le ⟨by omega, by omega⟩ (r31n (by omega))]; omega
  rw [f_X8_tellBehind_L7, if_neg (c400 (by omega)), bnd1_s (nothing0 h), if_pos rfl, bnd7_s hm, if_pos rfl, if_neg c4]
  unfold f_X1_multiplyByX
  rw [bnd2_s rfl, bnd3_s hp, gdI (by omega) (by omega) (by omega), I_at rfl (by omega), I_s]
end
section
variable {A B R ah dm : Int32} {d : Int64} {dg LU LV : Nat → Int64} {m k : Nat}
theorem re_end (hk : k ≤ 400) (h : LU k = 0 ∧ LV k = 0) : f_X12_digits_L76 d A B R (m + 1) (I (k : Int)) ah dm dg LU LV = some (0, I (k : Int), 0, I (k : Int), dm, dg, LU, LV) := by
  rw [f_X12_digits_L76, gdI (by omega) (by omega) (by omega), gdI (by omega) (by omega) (by omega), I_at rfl (by omega), if_pos h.1, if_pos h.2]
theorem re_met (hk : k ≤ 400) (h : ¬ (LU k = 0 ∧ LV k = 0)) {x : Int32} (hs : f_X12_digits_L116 (I (k : Int)) LU LV FU 0 = some (0, x)) : f_X12_digits_L76 d A B R (m + 1) (I (k : Int)) ah dm dg LU LV = some (1, I (k : Int), x, I (k : Int), dm, dg, LU, LV) := by
  rw [f_X12_digits_L76, bnd2_s hs, gdI (by omega) (by omega) (by omega), gdI (by omega) (by omega) (by omega), I_at rfl (by omega)]
  by_cases q : LU k = 0
  · rw [if_pos q, if_neg (fun z => h ⟨q, z⟩), if_pos rfl]
  · rw [if_neg q, if_pos rfl]
theorem re_far (hk : k = 400) (h : ¬ (LU k = 0 ∧ LV k = 0)) {x : Int32} (hs : f_X12_digits_L116 (I (k : Int)) LU LV FU 0 = some (1, x)) : f_X12_digits_L76 d A B R (m + 1) (I (k : Int)) ah dm dg LU LV = some (2, I (k : Int), 0, I (k : Int), dm, dg, LU, LV) := by
  subst hk
  have c : I ((400 : Nat) : Int) = 400 := rfl
  rw [f_X12_digits_L76, bnd2_s hs, gdI (by omega) (by omega) (by omega), gdI (by omega) (by omega) (by omega), I_at rfl (by omega)]
  by_cases q : LU 400 = 0
  · rw [if_pos q, if_neg (fun z => h ⟨q, z⟩), if_neg (by decide), if_pos c]
  · rw [if_neg q, if_neg (by decide), if_pos c]
theorem re_step (hk : k < 400) (h : ¬ (LU k = 0 ∧ LV k = 0)) {x : Int32} (hs : f_X12_digits_L116 (I (k : Int)) LU LV FU 0 = some (1, x)) {q : Nat} (hq : q < 500) (hdm : dm = I (q : Int)) {p' c : Int64} (hc : f_X12_digits_L242 d (LU k + LV k * A.toInt64) A R FU (LV k * B.toInt64) 0 = some (p', c)) : f_X12_digits_L76 d A B R (m + 1) (I (k : Int)) ah dm dg LU LV = f_X12_digits_L76 d A B R m (I ((k + 1 : Nat) : Int)) (I (k : Int)) (I ((q + 1 : Nat) : Int)) (vp_updL dg q c) (vp_updL LU (k + 1) p') (vp_updL LV (k + 1) (LU k + LV k * A.toInt64)) := by
  subst hdm
  have c4 : ¬ I (k : Int) = 400 := by rw [show (400 : Int32) = I ((400 : Nat) : Int) from rfl, Ieq0 (by omega) 400 (by omega)]; omega
  rw [f_X12_digits_L76, bnd2_s hs]
  simp only [gdI (a := (k : Int)) (n := 401) (by omega) (by omega) (by omega), I_at (a := (k : Int)) (n := k) rfl (by omega), I_s, gdI (a := ((k + 1 : Nat) : Int)) (n := 401) (by omega) (by omega) (by omega), I_at (a := ((k + 1 : Nat) : Int)) (n := k + 1) rfl (by omega), gdI (a := (q : Int)) (n := 500) (by omega) (by omega) (by omega), I_at (a := (q : Int)) (n := q) rfl (by omega)]
  rw [bnd2_s hc]
  by_cases q : LU k = 0
  · rw [if_pos q, if_neg (fun z => h ⟨q, z⟩), if_neg (by decide), if_neg c4]
  · rw [if_neg q, if_neg (by decide), if_neg c4]
end
