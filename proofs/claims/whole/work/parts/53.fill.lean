/-! fillPowers and fillRowCounts lay what the mathematics says -/
theorem pw_loop {a b : Int} (hb : VB a b) : ∀ (j m k : Nat) (pU pV : Nat → Int64), k + j = pcn a b → 1 ≤ k → j + 1 ≤ m → (∀ i, i < k → pU i = J (pw a b i).1 ∧ pV i = J (pw a b i).2) →
    ∃ (pU' pV' : Nat → Int64), f_X3_fillPowers_L21 (I a) (I b) m (I (k : Int)) (I (k : Int)) pU pV = some (I (pcn a b : Int), pU', pV') ∧ ∀ i, i < pcn a b → pU' i = J (pw a b i).1 ∧ pV' i = J (pw a b i).2 := by
  intro j
  obtain ⟨hP, hF⟩ := hb.pw
  have hb' := hb
  unfold VB at hb'
  have ra : R31 a := ⟨by omega, by omega⟩
  have rb : R31 b := ⟨by omega, by omega⟩
  have r6 : R63 1000000 := ⟨by omega, by omega⟩
  induction j with
  | zero =>
    intro m k pU pV hk h1 hm h
    obtain ⟨m, rfl⟩ : ∃ i, m = i + 1 := ⟨m - 1, by omega⟩
    obtain ⟨b1, b2, b3, b4, b5⟩ := hF (k - 1) (by omega)
    have c : ¬ (48 : Int32) ≤ I (k : Int) := by rw [show (48 : Int32) = I 48 from rfl, I_le ⟨by omega, by omega⟩ ⟨by omega, by omega⟩]; omega
    have e1 : I (k : Int) - 1 = I (((k - 1 : Nat)) : Int) := by rw [I1, I_sub]; congr 1; omega
    have e2 : (I (((k - 1 : Nat)) : Int)).toNatClampNeg = k - 1 := I_at rfl (by omega)
    have c2 : (1000000 : Int64) < J (pw a b (k - 1)).2 := by rw [show (1000000 : Int64) = J 1000000 from rfl, J_lt r6 ⟨by omega, by omega⟩]; exact b5 (by omega)
    refine ⟨pU, pV, ?_, fun i hi => h i (by omega)⟩
    rw [f_X3_fillPowers_L21, if_neg c, e1, gdI (by omega) (by omega) (by omega), e2, (h (k - 1) (by omega)).2, if_pos c2, show pcn a b = k by omega]
  | succ j ih =>
    intro m k pU pV hk h1 hm h
    obtain ⟨m, rfl⟩ : ∃ i, m = i + 1 := ⟨m - 1, by omega⟩
    obtain ⟨b1, b2, b3, b4, b5⟩ := hF (k - 1) (by omega)
    have c : ¬ (48 : Int32) ≤ I (k : Int) := by rw [show (48 : Int32) = I 48 from rfl, I_le ⟨by omega, by omega⟩ ⟨by omega, by omega⟩]; omega
    have e1 : I (k : Int) - 1 = I (((k - 1 : Nat)) : Int) := by rw [I1, I_sub]; congr 1; omega
    have e2 : (I (((k - 1 : Nat)) : Int)).toNatClampNeg = k - 1 := I_at rfl (by omega)
    have e3 : (I (k : Int)).toNatClampNeg = k := I_at rfl (by omega)
    have e4 : I (k : Int) + 1 = I ((k + 1 : Nat) : Int) := by rw [I1, I_add]; congr 1
    have c2 : ¬ (1000000 : Int64) < J (pw a b (k - 1)).2 := by rw [show (1000000 : Int64) = J 1000000 from rfl, J_lt r6 ⟨by omega, by omega⟩]; have := b4 (by omega); omega
    obtain ⟨hu, hv⟩ := h (k - 1) (by omega)
    have hp : pw a b k = (b * (pw a b (k - 1)).2, (pw a b (k - 1)).1 + a * (pw a b (k - 1)).2) := by
      have := pw_s a b (k - 1)
      rw [show k - 1 + 1 = k by omega] at this
      exact this
    have hne : k - 1 ≠ k := by omega
    obtain ⟨pU', pV', x1, x2⟩ := ih m (k + 1) (vp_updL pU k (J (pw a b k).1)) (vp_updL pV k (J (pw a b k).2)) (by omega) (by omega) (by omega) (fun i hi => by
      by_cases q : i = k
      · subst q; rw [pk_uLs, pk_uLs]; exact ⟨rfl, rfl⟩
      · rw [pk_uLn q, pk_uLn q]; exact h i (by omega))
    refine ⟨pU', pV', ?_, x2⟩
    rw [f_X3_fillPowers_L21, if_neg c, e1, gdI (by omega) (by omega) (by omega), e2, hv, if_neg c2, gdI (by omega) (by omega) (by omega), gdI (by omega) (by omega) (by omega), gdI (by omega) (by omega) (by omega), gdI (by omega) (by omega) (by omega), gdI (by omega) (by omega) (by omega), e3, e4, pk_uLn hne, hu, I_J ra, I_J rb, J_mul, J_mul, J_add]
    rw [hp] at x1
    exact x1
theorem s_fillPowers {a b : Int} (hb : VB a b) (p : Int32) (pU pV : Nat → Int64) : ∃ (pU' pV' : Nat → Int64), f_X3_fillPowers (I a) (I b) p pU pV = some (I (pcn a b : Int), pU', pV') ∧ ∀ i, i < pcn a b → pU' i = J (pw a b i).1 ∧ pV' i = J (pw a b i).2 := by
  obtain ⟨hP, hF⟩ := hb.pw
  have h1 : 1 ≤ pcn a b := by unfold pcn; omega
  obtain ⟨pU', pV', x1, x2⟩ := pw_loop hb (pcn a b - 1) FU 1 (vp_updL pU 0 1) (vp_updL pV 0 0) (by omega) (by omega) (by rw [FU_eq]; omega) (fun i hi => by
    have : i = 0 := by omega
    subst this
    rw [pk_uLs, pk_uLs]; exact ⟨rfl, rfl⟩)
  refine ⟨pU', pV', ?_, x2⟩
  unfold f_X3_fillPowers
  rw [I0, gdI (by omega) (by omega) (by omega), gdI (by omega) (by omega) (by omega)]
  have e : (I 0).toNatClampNeg = 0 := rfl
  rw [e]
  have x1 : f_X3_fillPowers_L21 (I a) (I b) FU 1 1 (vp_updL pU 0 1) (vp_updL pV 0 0) = some (I (pcn a b : Int), pU', pV') := x1
  rw [bnd3_s x1]
