/-! the law's five methods beside the reference's -/
theorem l_ix0 {α : Type} {k : Option α} : gd (ixb 0 1) k = k := gd_t (by decide)
theorem ml_part {nt : Nat → Int32} {nu nv nd : Nat → Int64} {sa : Nat → Nat} {has us vs ds : Nat → Int32} (h : RN nt nu nv nd sa has us vs ds) (o : Nat → Int64) (th s w : Int32) :
    (f_L_part o nt nu nv nd sa s w = some (1, o) ∧ f_X12_part th has us vs ds s w = some (0, 1)) ∨ ∃ v : Int32, f_L_part o nt nu nv nd sa s w = some (0, vp_updL o (0 : Int32).toNatClampNeg v.toInt64) ∧ f_X12_part th has us vs ds s w = some (v, 0) := by
  unfold f_L_part f_X11_part
  rcases m_part h th s w with ⟨e1, e2⟩ | ⟨i, hi, rfl, e1, ⟨c, e2⟩ | ⟨c1, c2, e2⟩⟩
  · refine Or.inl ⟨?_, e2⟩
    rw [bnd1_s e1, if_pos rfl, bnd1_s rfl]; rfl
  · refine Or.inl ⟨?_, e2⟩
    rw [bnd1_s e1, if_neg (show ¬ (1 : Int32) = 0 by decide)]
    rcases c with c | c
    · rw [if_pos c, bnd1_s rfl]; rfl
    · by_cases c0 : w < 0
      · rw [if_pos c0, bnd1_s rfl]; rfl
      · rw [if_neg c0, if_neg c, bnd1_s rfl]; rfl
  · refine Or.inr ⟨_, ?_, e2⟩
    rw [bnd1_s e1, if_neg (show ¬ (1 : Int32) = 0 by decide), if_neg c1, if_pos c2, gdI (by omega) (by omega) (by omega), I_at rfl (by omega)]
    by_cases q0 : w = 0
    · rw [if_pos q0, if_pos q0, bnd1_s rfl]; exact l_ix0
    · rw [if_neg q0, if_neg q0]
      by_cases q1 : w = 1
      · rw [if_pos q1, if_pos q1, bnd1_s rfl]; exact l_ix0
      · rw [if_neg q1, if_neg q1, bnd1_s rfl]; exact l_ix0
theorem ml_floor {nt : Nat → Int32} {nu nv nd : Nat → Int64} {sa : Nat → Nat} {has us vs ds : Nat → Int32} (h : RN nt nu nv nd sa has us vs ds) {a b : Int} (hb : VB a b) (o : Nat → Int64) (th s : Int32) :
    (f_L_floor (I a) (J (DD a b)) o nt nu nv nd sa s = some (1, o) ∧ f_X12_floor th (I a) (I (DD a b)) has us vs ds s = some (0, 1)) ∨ ∃ v : Int64, f_L_floor (I a) (J (DD a b)) o nt nu nv nd sa s = some (0, vp_updL o (0 : Int32).toNatClampNeg v) ∧ f_X12_floor th (I a) (I (DD a b)) has us vs ds s = some (v, 0) := by
  unfold f_L_floor f_X11_floor
  rcases m_floor h hb th s with ⟨e1, e2⟩ | ⟨i, r, hi, rfl, e1, e3, e2⟩
  · refine Or.inl ⟨?_, e2⟩
    rw [bnd1_s e1, if_pos rfl, bnd1_s rfl]; rfl
  · refine Or.inr ⟨r, ?_, e2⟩
    rw [bnd1_s e1, if_neg (show ¬ (1 : Int32) = 0 by decide), gdI (by omega) (by omega) (by omega), I_at rfl (by omega), bnd1_s e3, bnd1_s rfl]; exact l_ix0
theorem ml_one (a b th : Int32) (o : Nat → Int64) (k : Int32) : (f_L_one a b o k = some (1, o) ∧ f_X12_one th a b k = some (0, 1)) ∨ ∃ v : Int32, f_L_one a b o k = some (0, vp_updL o (0 : Int32).toNatClampNeg v.toInt64) ∧ f_X12_one th a b k = some (v, 0) := by
  unfold f_L_one f_X11_one
  rcases m_one a b th k with ⟨c, e2⟩ | ⟨c1, c2, r, e1, e2⟩
  · refine Or.inl ⟨?_, e2⟩
    rcases c with c | c
    · rw [if_pos c, bnd1_s rfl]; rfl
    · by_cases c0 : k < 1
      · rw [if_pos c0, bnd1_s rfl]; rfl
      · rw [if_neg c0, if_neg c, bnd1_s rfl]; rfl
  · refine Or.inr ⟨r, ?_, e2⟩
    rw [if_neg c1, if_pos c2, bnd1_s e1, bnd1_s rfl]; exact l_ix0
theorem ml_rows {a b : Int} (hb : VB a b) {rC : Nat → Int64} (h : ∀ i, i < ccn a b → rC i = J (rc a b i)) (th : Int32) (be o : Nat → Int64) (l : Int32) :
    (f_L_rows (I (ccn a b : Int)) rC o l = some (1, o) ∧ f_X12_rows th (I a) (I b) be l = some (0, 1, be)) ∨ ∃ (v : Int64) (be' : Nat → Int64), f_L_rows (I (ccn a b : Int)) rC o l = some (0, vp_updL o (0 : Int32).toNatClampNeg v) ∧ f_X12_rows th (I a) (I b) be l = some (v, 0, be') := by
  unfold f_L_rows f_X11_rows
  rcases m_rows hb h th be l with ⟨c, e2⟩ | ⟨c1, c2, r, be', e1, e2⟩
  · refine Or.inl ⟨?_, e2⟩
    rcases c with c | c
    · rw [if_pos c, bnd1_s rfl]; rfl
    · by_cases c0 : l < 0
      · rw [if_pos c0, bnd1_s rfl]; rfl
      · rw [if_neg c0, if_neg c, bnd1_s rfl]; rfl
  · refine Or.inr ⟨r, be', ?_, e2⟩
    rw [if_neg c1, if_pos c2, bnd1_s e1, bnd1_s rfl]; exact l_ix0
theorem ml_round {sz : Int32} {le ys zs : Nat → Int32} {rm : Int32} {rl ry rz : Nat → Int32} (h : RK sz le ys zs rm rl ry rz) (o : Nat → Int64) (th l w : Int32) :
    (f_L_round sz le ys zs o l w = some (1, o) ∧ f_X12_round th rm rl ry rz l w = some (0, 1)) ∨ ∃ v : Int32, f_L_round sz le ys zs o l w = some (0, vp_updL o (0 : Int32).toNatClampNeg v.toInt64) ∧ f_X12_round th rm rl ry rz l w = some (v, 0) := by
  unfold f_L_round f_X11_round
  rcases m_round h th l w with ⟨c, e2⟩ | ⟨c1, c2, c3, c4, k, hk, rfl, e2⟩
  · refine Or.inl ⟨?_, e2⟩
    by_cases d1 : l < 0
    · rw [if_pos d1, bnd1_s rfl]; rfl
    · by_cases d2 : sz ≤ l
      · rw [if_neg d1, if_pos d2, bnd1_s rfl]; rfl
      · by_cases d3 : w < 0
        · rw [if_neg d1, if_neg d2, if_pos d3, bnd1_s rfl]; rfl
        · have d4 : ¬ w ≤ 2 := by
            rcases c with c | c | c | c
            · exact absurd c d1
            · exact absurd c d2
            · exact absurd c d3
            · exact c
          rw [if_neg d1, if_neg d2, if_neg d3, if_neg d4, bnd1_s rfl]; rfl
  · refine Or.inr ⟨_, ?_, e2⟩
    rw [if_neg c1, if_neg c2, if_neg c3, if_pos c4]
    have g : ∀ {α : Type} (z : Option α), gd (ixb (I (k : Int)) 441) z = z := fun z => gdI (by omega) (by omega) (by omega)
    rw [g, g, g, I_at rfl (by omega)]
    by_cases q0 : w = 0
    · rw [if_pos q0, if_pos q0, bnd1_s rfl]; exact l_ix0
    · rw [if_neg q0, if_neg q0]
      by_cases q1 : w = 1
      · rw [if_pos q1, if_pos q1, bnd1_s rfl]; exact l_ix0
      · rw [if_neg q1, if_neg q1, bnd1_s rfl]; exact l_ix0
theorem m_thrown (th : Int32) : f_X12_thrown th = some th := rfl
theorem l_upd (o : Nat → Int64) (v : Int64) : vp_updL o (0 : Int32).toNatClampNeg v (0 : Int32).toNatClampNeg = v := by simp [vp_updL]
