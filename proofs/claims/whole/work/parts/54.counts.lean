/-! the row counts, as fillRowCounts lays them -/
def tp (a b : Int) : Int := if 0 < b then a else a - 1
def rp (a b : Int) : Nat → Int × Int
  | 0 => (1, tp a b + 1)
  | k + 1 => match rp a b k with
    | (x, y) => (y, a * y + b * x)
def rc (a b : Int) (k : Nat) : Int := (rp a b k).1
theorem rp_s (a b : Int) (k : Nat) : rp a b (k + 1) = ((rp a b k).2, a * (rp a b k).2 + b * (rp a b k).1) := by rw [rp]
theorem rc_s (a b : Int) (k : Nat) : rc a b (k + 2) = a * rc a b (k + 1) + b * rc a b k := by
  unfold rc; rw [rp_s, rp_s]
def ccn (a b : Int) : Nat := ((List.range 48).filter (fun i => decide (i < 16 ∨ rc a b i ≤ 1000000))).length + 1
def rcOK (q : Int × Int) : Bool := decide (ccn q.1 q.2 ≤ 31) && decide (17 ≤ ccn q.1 q.2) && (List.range 32).all (fun i => decide (i < ccn q.1 q.2 → (rc q.1 q.2 i).natAbs ≤ 10000000000000000 ∧ 1 ≤ rc q.1 q.2 i ∧ (i + 1 < ccn q.1 q.2 → i < 16 ∨ rc q.1 q.2 i ≤ 1000000) ∧ (i + 1 = ccn q.1 q.2 → 16 ≤ i ∧ 1000000 < rc q.1 q.2 i)))
theorem rc_all : bases.all rcOK = true := by decide +kernel
theorem VB.rc {a b : Int} (h : VB a b) : ccn a b ≤ 31 ∧ 17 ≤ ccn a b ∧ ∀ i, i < ccn a b → (rc a b i).natAbs ≤ 10000000000000000 ∧ 1 ≤ rc a b i ∧ (i + 1 < ccn a b → i < 16 ∨ rc a b i ≤ 1000000) ∧ (i + 1 = ccn a b → 16 ≤ i ∧ 1000000 < rc a b i) := by
  have h1 := List.all_eq_true.mp rc_all (a, b) h.mem
  unfold rcOK at h1
  simp only [Bool.and_eq_true, decide_eq_true_eq, List.all_eq_true] at h1
  obtain ⟨⟨h2, h4⟩, h3⟩ := h1
  exact ⟨h2, h4, fun i hi => h3 i (List.mem_range.mpr (by omega)) hi⟩
theorem rc_loop {a b : Int} (hb : VB a b) : ∀ (j m k : Nat) (rC : Nat → Int64), k + j = ccn a b → 2 ≤ k → j + 1 ≤ m → (∀ i, i < k → rC i = J (rc a b i)) →
    ∃ (rC' : Nat → Int64), f_X3_fillRowCounts_L27 (I a) (I b) m (I (k : Int)) (I (k : Int)) rC = some (I (ccn a b : Int), rC') ∧ ∀ i, i < ccn a b → rC' i = J (rc a b i) := by
  intro j
  obtain ⟨hP, hP2, hF⟩ := hb.rc
  have hb' := hb
  unfold VB at hb'
  have ra : R31 a := ⟨by omega, by omega⟩
  have rb : R31 b := ⟨by omega, by omega⟩
  have r6 : R63 1000000 := ⟨by omega, by omega⟩
  induction j with
  | zero =>
    intro m k rC hk h1 hm h
    obtain ⟨m, rfl⟩ : ∃ i, m = i + 1 := ⟨m - 1, by omega⟩
    obtain ⟨b1, b2, b3, b4⟩ := hF (k - 1) (by omega)
    have c : ¬ (48 : Int32) ≤ I (k : Int) := by rw [show (48 : Int32) = I 48 from rfl, I_le ⟨by omega, by omega⟩ ⟨by omega, by omega⟩]; omega
    have c1 : ¬ I (k : Int) ≤ 16 := by rw [show (16 : Int32) = I 16 from rfl, I_le ⟨by omega, by omega⟩ ⟨by omega, by omega⟩]; have := b4 (by omega); omega
    have e1 : I (k : Int) - 1 = I (((k - 1 : Nat)) : Int) := by rw [I1, I_sub]; congr 1; omega
    have e2 : (I (((k - 1 : Nat)) : Int)).toNatClampNeg = k - 1 := I_at rfl (by omega)
    have c2 : (1000000 : Int64) < J (rc a b (k - 1)) := by rw [show (1000000 : Int64) = J 1000000 from rfl, J_lt r6 ⟨by omega, by omega⟩]; exact (b4 (by omega)).2
    refine ⟨rC, ?_, fun i hi => h i (by omega)⟩
    rw [f_X3_fillRowCounts_L27, if_neg c, if_neg c1, e1, gdI (by omega) (by omega) (by omega), e2, h (k - 1) (by omega), if_pos c2, show ccn a b = k by omega]
  | succ j ih =>
    intro m k rC hk h1 hm h
    obtain ⟨m, rfl⟩ : ∃ i, m = i + 1 := ⟨m - 1, by omega⟩
    obtain ⟨b1, b2, b3, b4⟩ := hF (k - 1) (by omega)
    have c : ¬ (48 : Int32) ≤ I (k : Int) := by rw [show (48 : Int32) = I 48 from rfl, I_le ⟨by omega, by omega⟩ ⟨by omega, by omega⟩]; omega
    have e1 : I (k : Int) - 1 = I (((k - 1 : Nat)) : Int) := by rw [I1, I_sub]; congr 1; omega
    have e1' : I (k : Int) - 2 = I (((k - 2 : Nat)) : Int) := by rw [show (2 : Int32) = I 2 from rfl, I_sub]; congr 1; omega
    have e2 : (I (((k - 1 : Nat)) : Int)).toNatClampNeg = k - 1 := I_at rfl (by omega)
    have e2' : (I (((k - 2 : Nat)) : Int)).toNatClampNeg = k - 2 := I_at rfl (by omega)
    have e3 : (I (k : Int)).toNatClampNeg = k := I_at rfl (by omega)
    have e4 : I (k : Int) + 1 = I ((k + 1 : Nat) : Int) := by rw [I1, I_add]; congr 1
    have hv := h (k - 1) (by omega)
    have hv' := h (k - 2) (by omega)
    have hp : rc a b k = a * rc a b (k - 1) + b * rc a b (k - 2) := by
      have := rc_s a b (k - 2)
      rw [show k - 2 + 2 = k by omega, show k - 2 + 1 = k - 1 by omega] at this
      exact this
    obtain ⟨rC', x1, x2⟩ := ih m (k + 1) (vp_updL rC k (J (rc a b k))) (by omega) (by omega) (by omega) (fun i hi => by
      by_cases q : i = k
      · subst q; rw [pk_uLs]
      · rw [pk_uLn q]; exact h i (by omega))
    refine ⟨rC', ?_, x2⟩
    rw [hp] at x1
    rw [f_X3_fillRowCounts_L27, if_neg c, e1, e1', e2, e2', e3, e4, hv, hv', I_J ra, I_J rb, J_mul, J_mul, J_add, gdI (by omega) (by omega) (by omega), gdI (by omega) (by omega) (by omega), gdI (by omega) (by omega) (by omega)]
    by_cases c1 : I (k : Int) ≤ 16
    · rw [if_pos c1]; exact x1
    · have c2 : ¬ (1000000 : Int64) < J (rc a b (k - 1)) := by
        rw [show (16 : Int32) = I 16 from rfl, I_le ⟨by omega, by omega⟩ ⟨by omega, by omega⟩] at c1
        rw [show (1000000 : Int64) = J 1000000 from rfl, J_lt r6 ⟨by omega, by omega⟩]
        have := b3 (by omega); omega
      rw [if_neg c1, if_neg c2, gdI (by omega) (by omega) (by omega)]
      exact x1
theorem s_top {a b : Int} (hb : VB a b) : f_X3_top (I a) (I b) = some (I (tp a b)) := by
  unfold VB at hb
  unfold f_X3_top tp
  have rb : R31 b := ⟨by omega, by omega⟩
  have r0 : R31 0 := ⟨by omega, by omega⟩
  have c : (I b ≤ 0) ↔ b ≤ 0 := I_le rb r0
  simp only [c]
  by_cases q : b ≤ 0
  · rw [if_pos q, if_neg (by omega : ¬ 0 < b), I1, I_sub]
  · rw [if_neg q, if_pos (by omega : 0 < b)]
theorem s_fillRowCounts {a b : Int} (hb : VB a b) (p : Int32) (rC : Nat → Int64) : ∃ (rC' : Nat → Int64), f_X3_fillRowCounts (I a) (I b) p rC = some (I (ccn a b : Int), rC') ∧ ∀ i, i < ccn a b → rC' i = J (rc a b i) := by
  obtain ⟨hP, hP2, hF⟩ := hb.rc
  have ht : R31 (tp a b + 1) := by unfold VB at hb; unfold tp; split <;> exact ⟨by omega, by omega⟩
  obtain ⟨rC', x1, x2⟩ := rc_loop hb (ccn a b - 2) FU 2 (vp_updL (vp_updL rC 0 1) 1 (J (tp a b + 1))) (by omega) (by omega) (by rw [FU_eq]; omega) (fun i hi => by
    rcases (show i = 0 ∨ i = 1 by omega) with rfl | rfl
    · rw [pk_uLn (by decide), pk_uLs]; rfl
    · rw [pk_uLs]; rfl)
  refine ⟨rC', ?_, x2⟩
  unfold f_X3_fillRowCounts
  rw [bnd1_s (s_top hb), I1, I_add, I_J ht, I0, gdI (by omega) (by omega) (by omega), gdI (by omega) (by omega) (by omega)]
  have x1 : f_X3_fillRowCounts_L27 (I a) (I b) FU 2 2 (vp_updL (vp_updL rC (I 0).toNatClampNeg 1) (I 1).toNatClampNeg (J (tp a b + 1))) = some (I (ccn a b : Int), rC') := x1
  rw [bnd2_s x1]
