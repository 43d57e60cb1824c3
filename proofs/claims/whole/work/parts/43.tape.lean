/-! the tape in both classes: feed, end -/
def agT (n : Nat) (by_ tp : Nat → Int32) : Prop := ∀ k, k < n → by_ k = tp k ∧ -128 ≤ (tp k).toInt ∧ (tp k).toInt ≤ 127
def RT (sz : Int32) (by_ : Nat → Int32) (ln : Int32) (tp : Nat → Int32) : Prop := sz = ln ∧ ∃ n : Nat, n ≤ 200 ∧ sz = I n ∧ agT n by_ tp
theorem r31n {n : Nat} (h : n < 2147483648) : R31 (n : Int) := ⟨by omega, by omega⟩
theorem byte_rng (x : Int32) : -128 ≤ (vp_nar .byte x).toInt ∧ (vp_nar .byte x).toInt ≤ 127 := by
  rw [vp_nar_byte, Int8.toInt_toInt32]
  have h1 := Int8.le_toInt x.toInt8
  have h2 := Int8.toInt_lt x.toInt8
  omega
theorem agT_up {n : Nat} {by_ tp : Nat → Int32} (h : agT n by_ tp) (x : Int32) : agT (n + 1) (upd by_ n (vp_nar .byte x)) (upd tp n (vp_nar .byte x)) := by
  intro k hk
  by_cases e : k = n
  · subst e
    rw [pk_us, pk_us]
    exact ⟨rfl, byte_rng x⟩
  · rw [pk_un e, pk_un e]
    exact h k (by omega)
theorem ap_tape (x : Int32) : ∀ (j m n : Nat) (by_ tp : Nat → Int32), j ≤ 4 → j + 1 ≤ m → n + j ≤ 200 → agT n by_ tp →
    ∃ by' tp', f_X7_append_L3 x m (I (8 * (j : Int) - 8)) (I n) by_ = some (I ((n + j : Nat) : Int), by') ∧ f_X12_four_L3 x m (I (8 * (j : Int) - 8)) (I n) tp = some (I ((n + j : Nat) : Int), tp') ∧ agT (n + j) by' tp' := by
  intro j
  induction j with
  | zero =>
    intro m n by_ tp _ hm _ h
    obtain ⟨m, rfl⟩ : ∃ i, m = i + 1 := ⟨m - 1, by omega⟩
    have c : I (8 * ((0 : Nat) : Int) - 8) < 0 := by decide
    refine ⟨by_, tp, ?_, ?_, h⟩
    · rw [f_X7_append_L3, if_pos c]; rfl
    · rw [f_X12_four_L3, if_pos c]; rfl
  | succ j ih =>
    intro m n by_ tp hj hm hn h
    obtain ⟨m, rfl⟩ : ∃ i, m = i + 1 := ⟨m - 1, by omega⟩
    have c : ¬ I (8 * ((j + 1 : Nat) : Int) - 8) < 0 := by
      rw [I0, I_lt ⟨by omega, by omega⟩ ⟨by omega, by omega⟩]; omega
    have c2 : ¬ (200 : Int32) ≤ I n := by
      rw [show (200 : Int32) = I 200 from rfl, I_le ⟨by omega, by omega⟩ ⟨by omega, by omega⟩]; omega
    have e1 : I (8 * ((j + 1 : Nat) : Int) - 8) + (-8) = I (8 * (j : Int) - 8) := by
      rw [show (-8 : Int32) = I (-8) from rfl, I_add]; congr 1; omega
    have e2 : I (n : Int) + 1 = I ((n + 1 : Nat) : Int) := by rw [I1, I_add]; congr 1
    have e3 : (I (n : Int)).toNatClampNeg = n := by rw [I_clamp (by omega) (by omega)]; omega
    obtain ⟨by', tp', a1, a2, a3⟩ := ih m (n + 1) _ _ (by omega) (by omega) (by omega) (agT_up h ((x >>> (I (8 * ((j + 1 : Nat) : Int) - 8) &&& 31)).toInt8.toInt32))
    refine ⟨by', tp', ?_, ?_, by rw [show n + (j + 1) = n + 1 + j by omega]; exact a3⟩
    · rw [f_X7_append_L3, if_neg c, if_neg c2, gdI (by omega) (by omega) (by omega), e1, e2, e3, a1]; congr 4; omega
    · rw [f_X12_four_L3, if_neg c, gdI (by omega) (by omega) (by omega), e1, e2, e3, a2]; congr 4; omega
theorem s_four (x : Int32) {n : Nat} {by_ tp : Nat → Int32} (hn : n + 4 ≤ 200) (h : agT n by_ tp) :
    ∃ by' tp', f_X7_append (I n) by_ x = some (I ((n + 4 : Nat) : Int), by') ∧ f_X12_four (I n) tp x = some (I ((n + 4 : Nat) : Int), tp') ∧ agT (n + 4) by' tp' := by
  obtain ⟨by', tp', a1, a2, a3⟩ := ap_tape x 4 FU n by_ tp (by omega) (by rw [FU_eq]; decide) hn h
  refine ⟨by', tp', ?_, ?_, a3⟩
  · unfold f_X7_append
    rw [show (24 : Int32) = I (8 * ((4 : Nat) : Int) - 8) from rfl, bnd2_s a1]
  · unfold f_X12_four
    rw [show (24 : Int32) = I (8 * ((4 : Nat) : Int) - 8) from rfl, bnd2_s a2]
theorem m_feed {sz ln th : Int32} {by_ tp : Nat → Int32} (h : RT sz by_ ln tp) (l1 l2 l3 l4 l5 : Int32) :
    ∃ (r sz' : Int32) (by' tp' : Nat → Int32), f_X11_feed sz by_ l1 l2 l3 l4 l5 = some (r, sz', by') ∧ f_X12_feed th ln tp l1 l2 l3 l4 l5 = some (r, 0, sz', tp') ∧ RT sz' by' sz' tp' := by
  obtain ⟨rfl, n, hn, rfl, hag⟩ := h
  have e : I (n : Int) + 20 = I ((n : Int) + 20) := by rw [show (20 : Int32) = I 20 from rfl, I_add]
  by_cases c : n + 20 ≤ 200
  · obtain ⟨b1, t1, x1, y1, z1⟩ := s_four l1 (by omega) hag
    obtain ⟨b2, t2, x2, y2, z2⟩ := s_four l2 (by omega) z1
    obtain ⟨b3, t3, x3, y3, z3⟩ := s_four l3 (by omega) z2
    obtain ⟨b4, t4, x4, y4, z4⟩ := s_four l4 (by omega) z3
    obtain ⟨b5, t5, x5, y5, z5⟩ := s_four l5 (by omega) z4
    refine ⟨I ((n + 4 + 4 + 4 + 4 + 4 : Nat) : Int), I ((n + 4 + 4 + 4 + 4 + 4 : Nat) : Int), b5, t5, ?_, ?_, rfl, n + 4 + 4 + 4 + 4 + 4, by omega, rfl, z5⟩
    · unfold f_X11_feed f_X7_hasRoomForFive
      rw [e, show (200 : Int32) = I 200 from rfl, if_neg (by rw [I_lt ⟨by omega, by omega⟩ ⟨by omega, by omega⟩]; omega), bnd1_s rfl, if_neg (by decide), bnd2_s x1, bnd2_s x2, bnd2_s x3, bnd2_s x4, bnd2_s x5]
    · unfold f_X12_feed
      rw [e, show (200 : Int32) = I 200 from rfl, if_pos (by rw [I_le ⟨by omega, by omega⟩ ⟨by omega, by omega⟩]; omega), bnd2_s y1, bnd2_s y2, bnd2_s y3, bnd2_s y4, bnd2_s y5]
  · refine ⟨-1, I n, by_, tp, ?_, ?_, rfl, n, hn, rfl, hag⟩
    · unfold f_X11_feed f_X7_hasRoomForFive
      rw [e, show (200 : Int32) = I 200 from rfl, if_pos (by rw [I_lt ⟨by omega, by omega⟩ ⟨by omega, by omega⟩]; omega), bnd1_s rfl, if_pos rfl]
    · unfold f_X12_feed
      rw [e, show (200 : Int32) = I 200 from rfl, if_neg (by rw [I_le ⟨by omega, by omega⟩ ⟨by omega, by omega⟩]; omega)]
theorem m_end {sz ln th : Int32} {by_ tp : Nat → Int32} (h : RT sz by_ ln tp) (l1 : Int32) :
    ∃ (r sz' : Int32), f_X11_end sz l1 = some (r, sz') ∧ f_X12_end th ln l1 = some (r, 0, sz') ∧ RT sz' by_ sz' tp ∧ narrow .boolean (.int r) = .int r := by
  obtain ⟨rfl, n, hn, rfl, hag⟩ := h
  unfold f_X11_end f_X12_end
  by_cases c1 : l1 < 0
  · rw [if_pos c1, if_pos c1]
    exact ⟨0, I n, rfl, rfl, ⟨rfl, n, hn, rfl, hag⟩, by decide⟩
  · rw [if_neg c1, if_neg c1]
    by_cases c2 : l1 ≤ I n
    · rw [if_pos c2, if_pos c2]
      refine ⟨1, l1, rfl, rfl, ⟨rfl, l1.toInt.toNat, ?_, ?_, ?_⟩, by decide⟩
      all_goals
        rw [Int32.le_iff_toInt_le, I_toInt (r31n (by omega))] at c2
        rw [Int32.lt_iff_toInt_lt, Int32.toInt_zero] at c1
      · omega
      · have : ((l1.toInt.toNat : Nat) : Int) = l1.toInt := by omega
        rw [this]; exact I_of l1
      · intro k hk; exact hag k (by omega)
    · rw [if_neg c2, if_neg c2]
      exact ⟨0, I n, rfl, rfl, ⟨rfl, n, hn, rfl, hag⟩, by decide⟩
