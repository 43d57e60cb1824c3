/-! the trail: a pair that came before is found, another one is added -/
noncomputable def hx (l1 l3 : Int64) : Int32 := (((((l1 * (-7046029254386353131)) + (l3 * (-4417276706812531889))).toUInt64 >>> ((32 : Int32).toInt64.toUInt64 &&& Int64.toUInt64 63)).toInt64).toInt32 &&& 511)
theorem meet_hx (t_stamp : Int32) (t_size : Int32) (t_firsts : Nat → Int64) (t_seconds : Nat → Int64) (t_links : Nat → Int32) (t_heads : Nat → Int32) (t_stamps : Nat → Int32) (l1 : Int64) (l3 : Int64) : f_X9_meet t_stamp t_size t_firsts t_seconds t_links t_heads t_stamps l1 l3 =
  gd (ixb (hx l1 l3) 512) (
   if (t_stamps (hx l1 l3).toNatClampNeg) = t_stamp then (
    gd (ixb (hx l1 l3) 512) (
     bnd2 (f_X9_meet_L55 l1 l3 t_size t_firsts t_seconds t_links FU (t_heads (hx l1 l3).toNatClampNeg) 0) fun tg_L55_12 x8_L55_12 => (
      if tg_L55_12 = 0 then (
       some (x8_L55_12, t_size, t_firsts, t_seconds, t_links, t_heads, t_stamps)
      ) else (
       bnd6 (f_X9_append t_stamp t_size t_firsts t_seconds t_links t_heads t_stamps (hx l1 l3) l1 l3) fun t_size_c124_13 t_firsts_c124_13 t_seconds_c124_13 t_links_c124_13 t_heads_c124_13 t_stamps_c124_13 => (
        some ((-1), t_size_c124_13, t_firsts_c124_13, t_seconds_c124_13, t_links_c124_13, t_heads_c124_13, t_stamps_c124_13)
       )
      )
     )
    )
   ) else (
    bnd2 (f_X9_meet_L55 l1 l3 t_size t_firsts t_seconds t_links FU (-1) 0) fun tg_L55_14 x8_L55_14 => (
     if tg_L55_14 = 0 then (
      some (x8_L55_14, t_size, t_firsts, t_seconds, t_links, t_heads, t_stamps)
     ) else (
      bnd6 (f_X9_append t_stamp t_size t_firsts t_seconds t_links t_heads t_stamps (hx l1 l3) l1 l3) fun t_size_c124_15 t_firsts_c124_15 t_seconds_c124_15 t_links_c124_15 t_heads_c124_15 t_stamps_c124_15 => (
       some ((-1), t_size_c124_15, t_firsts_c124_15, t_seconds_c124_15, t_links_c124_15, t_heads_c124_15, t_stamps_c124_15)
      )
     )
    )
   )
  ) := rfl
theorem and511 (x : Int32) : 0 ≤ (x &&& 511).toInt ∧ (x &&& 511).toInt < 512 := by
  have e : (x &&& 511).toBitVec.toNat ≤ 511 := by
    rw [Int32.toBitVec_and, BitVec.toNat_and]
    exact Nat.and_le_right
  have e2 : (x &&& 511).toInt = ((x &&& 511).toBitVec.toNat : Int) := by
    show (x &&& 511).toBitVec.toInt = _
    exact BitVec.toInt_eq_toNat_of_lt (by omega)
  omega
noncomputable def hn (x y : Int64) : Nat := (hx x y).toInt.toNat
theorem hx_I (x y : Int64) : hx x y = I (hn x y : Int) ∧ hn x y < 512 := by
  have h := and511 (((((x * (-7046029254386353131)) + (y * (-4417276706812531889))).toUInt64 >>> ((32 : Int32).toInt64.toUInt64 &&& Int64.toUInt64 63)).toInt64).toInt32)
  have h : 0 ≤ (hx x y).toInt ∧ (hx x y).toInt < 512 := h
  unfold hn
  refine ⟨?_, by omega⟩
  rw [Int.toNat_of_nonneg h.1]; exact I_of _
noncomputable def HH (F S : Nat → Int64) (i : Nat) : Nat := hn (F i) (S i)
/-- x is the last place below n with the head h, or -1 -/
def Ch (H : Nat → Nat) (h n : Nat) (x : Int32) : Prop := (x = -1 ∧ ∀ i, i < n → H i ≠ h) ∨ ∃ i : Nat, i < n ∧ x = I (i : Int) ∧ H i = h ∧ ∀ j, i < j → j < n → H j ≠ h
theorem Ch_congr {H H' : Nat → Nat} {h n : Nat} {x : Int32} (e : ∀ i, i < n → H i = H' i) (c : Ch H h n x) : Ch H' h n x := by
  rcases c with ⟨c1, c2⟩ | ⟨i, c1, c2, c3, c4⟩
  · exact Or.inl ⟨c1, fun i hi => by rw [← e i hi]; exact c2 i hi⟩
  · exact Or.inr ⟨i, c1, c2, by rw [← e i c1]; exact c3, fun j h1 h2 => by rw [← e j h2]; exact c4 j h1 h2⟩
theorem Ch_skip {H : Nat → Nat} {h n : Nat} {x : Int32} (e : H n ≠ h) (c : Ch H h n x) : Ch H h (n + 1) x := by
  rcases c with ⟨c1, c2⟩ | ⟨i, c1, c2, c3, c4⟩
  · refine Or.inl ⟨c1, fun i hi => ?_⟩
    by_cases q : i = n
    · subst q; exact e
    · exact c2 i (by omega)
  · refine Or.inr ⟨i, by omega, c2, c3, fun j h1 h2 => ?_⟩
    by_cases q : j = n
    · subst q; exact e
    · exact c4 j h1 (by omega)
def TR (s n : Nat) (st sz : Int32) (F S : Nat → Int64) (lk hd sm : Nat → Int32) : Prop := st = I (s : Int) ∧ s < 2000000000 ∧ sz = I (n : Int) ∧ n ≤ 401 ∧ (∀ i, i < n → Ch (HH F S) (HH F S i) i (lk i)) ∧ (∀ h, h < 512 → Ch (HH F S) h n (if sm h = st then hd h else -1)) ∧ ∀ h, h < 512 → ∃ t : Nat, t ≤ s ∧ sm h = I (t : Int)
def RS (s : Nat) (st : Int32) (sm : Nat → Int32) : Prop := st = I (s : Int) ∧ ∀ h, h < 512 → ∃ t : Nat, t ≤ s ∧ sm h = I (t : Int)
theorem TR_clear {s : Nat} {st : Int32} {sm : Nat → Int32} (h : RS s st sm) (hs : s < 1999999999) (F S : Nat → Int64) (lk hd : Nat → Int32) (sz : Int32) : f_X9_clear st sz = some (I ((s + 1 : Nat) : Int), 0) ∧ TR (s + 1) 0 (I ((s + 1 : Nat) : Int)) 0 F S lk hd sm := by
  obtain ⟨rfl, h2⟩ := h
  refine ⟨?_, rfl, by omega, rfl, by omega, fun i hi => absurd hi (by omega), fun h hh => ?_, fun h hh => ?_⟩
  · unfold f_X9_clear; rw [I_s]
  · obtain ⟨t, t1, t2⟩ := h2 h hh
    rw [if_neg]
    · exact Or.inl ⟨rfl, fun i hi => absurd hi (by omega)⟩
    · rw [t2]; intro q
      have := (Ieq0 (by omega) (s + 1) (by omega)).mp q
      omega
  · obtain ⟨t, t1, t2⟩ := h2 h hh
    exact ⟨t, by omega, t2⟩
theorem TR_RS {s n : Nat} {st sz : Int32} {F S : Nat → Int64} {lk hd sm : Nat → Int32} (h : TR s n st sz F S lk hd sm) : RS s st sm := ⟨h.1, h.2.2.2.2.2.2⟩
theorem meet_loop {n : Nat} (hn4 : n ≤ 401) {F S : Nat → Int64} {lk : Nat → Int32} (hl : ∀ i, i < n → Ch (HH F S) (HH F S i) i (lk i)) (x y : Int64) :
    ∀ (k m c : Nat) (at_ : Int32), k ≤ n → c + k ≤ 401 → k + 1 ≤ m → Ch (HH F S) (hn x y) k at_ → (∀ i, k ≤ i → i < n → ¬ (F i = x ∧ S i = y)) →
    (∃ i : Nat, i < n ∧ F i = x ∧ S i = y ∧ f_X9_meet_L55 x y (I (n : Int)) F S lk m at_ (I (c : Int)) = some (0, I (i : Int))) ∨ ((∀ i, i < n → ¬ (F i = x ∧ S i = y)) ∧ ∃ z : Int32, f_X9_meet_L55 x y (I (n : Int)) F S lk m at_ (I (c : Int)) = some (1, z)) := by
  intro k
  induction k using Nat.strongRecOn with
  | ind k ih =>
    intro m c at_ hk hc hm hch hno
    obtain ⟨m, rfl⟩ : ∃ i, m = i + 1 := ⟨m - 1, by omega⟩
    rw [f_X9_meet_L55]
    rcases hch with ⟨rfl, c2⟩ | ⟨i, c1, rfl, c3, c4⟩
    · refine Or.inr ⟨fun i hi => ?_, ?_⟩
      · by_cases q : i < k
        · rintro ⟨z1, z2⟩
          refine c2 i q ?_
          unfold HH; rw [z1, z2]
        · exact hno i (by omega) hi
      · by_cases q : (401 : Int32) ≤ I (c : Int)
        · rw [if_pos q]; exact ⟨_, rfl⟩
        · rw [if_neg q, if_pos (by decide)]; exact ⟨_, rfl⟩
    · have q1 : ¬ (401 : Int32) ≤ I (c : Int) := by rw [show (401 : Int32) = I 401 from rfl, I_le ⟨by omega, by omega⟩ (r31n (by omega))]; omega
      have q2 : ¬ I (i : Int) < 0 := by rw [I0, I_lt (r31n (by omega)) ⟨by omega, by omega⟩]; omega
      have q3 : ¬ I (n : Int) ≤ I (i : Int) := fun z => by have := (In_le (by omega) (by omega)).mp z; omega
      rw [if_neg q1, if_neg q2, if_neg q3]
      simp only [gdI (a := (i : Int)) (n := 401) (by omega) (by omega) (by omega), I_at (a := (i : Int)) (n := i) rfl (by omega), I_s]
      have go : ¬ (F i = x ∧ S i = y) → (∃ p : Nat, p < n ∧ F p = x ∧ S p = y ∧ f_X9_meet_L55 x y (I (n : Int)) F S lk m (lk i) (I ((c + 1 : Nat) : Int)) = some (0, I (p : Int))) ∨ ((∀ p, p < n → ¬ (F p = x ∧ S p = y)) ∧ ∃ z : Int32, f_X9_meet_L55 x y (I (n : Int)) F S lk m (lk i) (I ((c + 1 : Nat) : Int)) = some (1, z)) := by
        intro hne
        refine ih i c1 m (c + 1) (lk i) (by omega) (by omega) (by omega) ?_ (fun j h1 h2 => ?_)
        · have := hl i (by omega)
          rw [c3] at this
          exact this
        · by_cases q : j = i
          · subst q; exact hne
          · by_cases q2 : j < k
            · rintro ⟨z1, z2⟩
              refine c4 j (by omega) q2 ?_
              unfold HH; rw [z1, z2]
            · exact hno j (by omega) h2
      by_cases a1 : F i = x
      · by_cases a2 : S i = y
        · rw [if_pos a1, if_pos a2]
          exact Or.inl ⟨i, by omega, a1, a2, rfl⟩
        · rw [if_pos a1, if_neg a2]
          exact go (fun z => a2 z.2)
      · rw [if_neg a1]
        exact go (fun z => a1 z.1)
theorem s_append {s n : Nat} {st sz : Int32} {F S : Nat → Int64} {lk hd sm : Nat → Int32} (h : TR s n st sz F S lk hd sm) (h4 : n ≤ 400) (x y : Int64) :
    ∃ lk' hd' sm' : Nat → Int32, f_X9_append st sz F S lk hd sm (hx x y) x y = some (I ((n + 1 : Nat) : Int), vp_updL F n x, vp_updL S n y, lk', hd', sm') ∧ TR s (n + 1) st (I ((n + 1 : Nat) : Int)) (vp_updL F n x) (vp_updL S n y) lk' hd' sm' := by
  obtain ⟨t1, t2, rfl, t4, t5, t6, t7⟩ := h
  obtain ⟨hh, hlt⟩ := hx_I x y
  have c : I (n : Int) < 401 := by rw [show (401 : Int32) = I 401 from rfl, I_lt (r31n (by omega)) ⟨by omega, by omega⟩]; omega
  have hHn : HH (vp_updL F n x) (vp_updL S n y) n = hn x y := by unfold HH; rw [pk_uLs, pk_uLs]
  have hHi : ∀ i, i < n → HH F S i = HH (vp_updL F n x) (vp_updL S n y) i := fun i hi => by unfold HH; rw [pk_uLn (by omega), pk_uLn (by omega)]
  have e : f_X9_append st (I (n : Int)) F S lk hd sm (hx x y) x y = some (I ((n + 1 : Nat) : Int), vp_updL F n x, vp_updL S n y, upd lk n (if sm (hn x y) = st then hd (hn x y) else -1), upd hd (hn x y) (I (n : Int)), upd sm (hn x y) st) := by
    unfold f_X9_append
    rw [if_pos c, hh]
    simp only [gdI (a := (n : Int)) (n := 401) (by omega) (by omega) (by omega), gdI (a := (hn x y : Int)) (n := 512) (by omega) (by omega) (by omega), I_at (a := (n : Int)) (n := n) rfl (by omega), I_at (a := (hn x y : Int)) (n := hn x y) rfl (by omega), I_s]
    by_cases q : sm (hn x y) = st
    · rw [if_pos q, if_pos q]
    · rw [if_neg q, if_neg q]
  refine ⟨_, _, _, e, t1, t2, rfl, by omega, ?_, ?_, ?_⟩
  · intro i hi
    by_cases q : i = n
    · subst q
      rw [pk_us, hHn]
      exact Ch_congr hHi (t6 _ hlt)
    · rw [pk_un q, ← hHi i (by omega)]
      exact Ch_congr (fun j hj => hHi j (by omega)) (t5 i (by omega))
  · intro h hh
    by_cases q : h = hn x y
    · subst q
      rw [pk_us, if_pos rfl, pk_us]
      exact Or.inr ⟨n, by omega, rfl, hHn, fun j h1 h2 => by omega⟩
    · rw [pk_un q, pk_un q]
      exact Ch_skip (by rw [hHn]; exact fun z => q z.symm) (Ch_congr hHi (t6 h hh))
  · intro h hh
    by_cases q : h = hn x y
    · subst q
      rw [pk_us]; exact ⟨s, by omega, t1⟩
    · rw [pk_un q]; exact t7 h hh
theorem s_meet {s n : Nat} {st sz : Int32} {F S : Nat → Int64} {lk hd sm : Nat → Int32} (h : TR s n st sz F S lk hd sm) (h4 : n ≤ 400) (x y : Int64) :
    (∃ i : Nat, i < n ∧ F i = x ∧ S i = y ∧ f_X9_meet st sz F S lk hd sm x y = some (I (i : Int), sz, F, S, lk, hd, sm)) ∨ ((∀ i, i < n → ¬ (F i = x ∧ S i = y)) ∧ ∃ lk' hd' sm' : Nat → Int32, f_X9_meet st sz F S lk hd sm x y = some (-1, I ((n + 1 : Nat) : Int), vp_updL F n x, vp_updL S n y, lk', hd', sm') ∧ TR s (n + 1) st (I ((n + 1 : Nat) : Int)) (vp_updL F n x) (vp_updL S n y) lk' hd' sm') := by
  obtain ⟨lk', hd', sm', a1, a2⟩ := s_append h h4 x y
  obtain ⟨t1, t2, rfl, t4, t5, t6, t7⟩ := h
  obtain ⟨hh, hlt⟩ := hx_I x y
  have key := meet_loop t4 t5 x y n FU 0 (if sm (hn x y) = st then hd (hn x y) else -1) (by omega) (by omega) (by rw [FU_eq]; omega) (t6 _ hlt) (fun i h1 h2 => absurd h2 (by omega))
  rw [meet_hx, a1, hh]
  simp only [gdI (a := (hn x y : Int)) (n := 512) (by omega) (by omega) (by omega), I_at (a := (hn x y : Int)) (n := hn x y) rfl (by omega)]
  by_cases q : sm (hn x y) = st
  · rw [if_pos q] at key ⊢
    rcases key with ⟨i, k1, k2, k3, k4⟩ | ⟨k1, z, k4⟩
    · have k4 : f_X9_meet_L55 x y (I (n : Int)) F S lk FU (hd (hn x y)) 0 = _ := k4
      rw [bnd2_s k4, if_pos rfl]
      exact Or.inl ⟨i, k1, k2, k3, rfl⟩
    · have k4 : f_X9_meet_L55 x y (I (n : Int)) F S lk FU (hd (hn x y)) 0 = _ := k4
      rw [bnd2_s k4, if_neg (by decide), bnd6_s rfl]
      exact Or.inr ⟨k1, lk', hd', sm', rfl, a2⟩
  · rw [if_neg q] at key ⊢
    rcases key with ⟨i, k1, k2, k3, k4⟩ | ⟨k1, z, k4⟩
    · have k4 : f_X9_meet_L55 x y (I (n : Int)) F S lk FU (-1) 0 = _ := k4
      rw [bnd2_s k4, if_pos rfl]
      exact Or.inl ⟨i, k1, k2, k3, rfl⟩
    · have k4 : f_X9_meet_L55 x y (I (n : Int)) F S lk FU (-1) 0 = _ := k4
      rw [bnd2_s k4, if_neg (by decide), bnd6_s rfl]
      exact Or.inr ⟨k1, lk', hd', sm', rfl, a2⟩
