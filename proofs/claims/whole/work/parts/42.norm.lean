/-! a fraction in its least terms: take() and set() -/
theorem gz_nonneg (m n : Int) : 0 ≤ gz m n := by unfold gz; omega
theorem gz_dvd_l (m n : Int) : gz m n ∣ m := by
  unfold gz
  exact Int.ofNat_dvd_left.mpr (Nat.gcd_dvd_left _ _)
theorem gz_dvd_r (m n : Int) : gz m n ∣ n := by
  unfold gz
  exact Int.ofNat_dvd_left.mpr (Nat.gcd_dvd_right _ _)
theorem gz_pos_r {m n : Int} (h : n ≠ 0) : 0 < gz m n := by
  unfold gz
  have := Nat.gcd_pos_of_pos_right m.natAbs (show 0 < n.natAbs by omega)
  omega
theorem gz_pos_l {m n : Int} (h : m ≠ 0) : 0 < gz m n := by
  unfold gz
  have := Nat.gcd_pos_of_pos_left n.natAbs (show 0 < m.natAbs by omega)
  omega
theorem gz_le_r {m n : Int} (h : n ≠ 0) : gz m n ≤ n.natAbs := by
  unfold gz
  have := Nat.le_of_dvd (show 0 < n.natAbs by omega) (Nat.gcd_dvd_right m.natAbs n.natAbs)
  omega
theorem gz_lt {m n b : Int} (hm : -b < m ∧ m < b) (hn : -b < n ∧ n < b) : gz m n < b := by
  by_cases h : n = 0
  · subst h
    unfold gz
    rw [Int.natAbs_zero, Nat.gcd_zero_right]
    omega
  · have := gz_le_r (m := m) h
    omega
def g3 (u v d : Int) : Int := gz (gz u v) d
theorem g3_pos {u v d : Int} (h : d ≠ 0) : 0 < g3 u v d := gz_pos_r h
theorem g3_u (u v d : Int) : g3 u v d ∣ u := Int.dvd_trans (gz_dvd_l _ _) (gz_dvd_l _ _)
theorem g3_v (u v d : Int) : g3 u v d ∣ v := Int.dvd_trans (gz_dvd_l _ _) (gz_dvd_r _ _)
theorem g3_d (u v d : Int) : g3 u v d ∣ d := gz_dvd_r _ _
/-- u, v, d in bounds -/
def inB (u v d : Int) : Prop := -65536 ≤ u ∧ u ≤ 65536 ∧ -65536 ≤ v ∧ v ≤ 65536 ∧ d ≤ 1000
/-- a NUMBER -/
def NB (u v d : Int) : Prop := inB u v d ∧ 1 ≤ d ∧ g3 u v d = 1
def B62 (z : Int) : Prop := -4611686018427387904 < z ∧ z < 4611686018427387904
theorem B62.r {z : Int} (h : B62 z) : R63 z := by unfold B62 at h; exact ⟨by omega, by omega⟩
theorem B62.n {z : Int} (h : B62 z) : z ≠ -9223372036854775808 := by unfold B62 at h; omega
theorem B62.g {u v : Int} (hu : B62 u) (hv : B62 v) : B62 (gz u v) := by
  have h1 := gz_nonneg u v
  have h2 := gz_lt (b := 4611686018427387904) hu hv
  unfold B62; omega
theorem tdiv_abs (u g : Int) : (u.tdiv g).natAbs ≤ u.natAbs := Int.natAbs_tdiv_le_natAbs u g
theorem B62.q {u g : Int} (hu : B62 u) : B62 (u.tdiv g) := by
  have := tdiv_abs u g
  unfold B62 at *; omega
theorem s_isBeyond {z b : Int} (hz : R63 z) (hb : R63 b) (hb2 : R63 (-b)) : f_X11_isBeyond (J z) (J b) = some (if z < -b ∨ b < z then 1 else 0) := by
  unfold f_X11_isBeyond
  rw [J_neg]
  simp only [J_lt hz hb2, J_lt hb hz, J_le hz hb, J_le hb2 hz]
  repeat' split
  all_goals first | rfl | (exfalso; omega)
theorem s_X0_take {nt : Nat → Int32} {nu nv nd : Nat → Int64} {a : Nat} {u v d : Int} (hu : B62 u) (hv : B62 v) (hd : B62 d) (h0 : 0 < d) :
    (inB (u.tdiv (g3 u v d)) (v.tdiv (g3 u v d)) (d.tdiv (g3 u v d)) → f_X0_take nt nu nv nd a (J u) (J v) (J d) = some (1, upd nt a 1, vp_updL nu a (J (u.tdiv (g3 u v d))), vp_updL nv a (J (v.tdiv (g3 u v d))), vp_updL nd a (J (d.tdiv (g3 u v d))))) ∧
    (¬ inB (u.tdiv (g3 u v d)) (v.tdiv (g3 u v d)) (d.tdiv (g3 u v d)) → f_X0_take nt nu nv nd a (J u) (J v) (J d) = some (0, nt, nu, nv, nd)) := by
  have hg := hu.g hv
  have hG : B62 (g3 u v d) := hg.g hd
  have hGp : 0 < g3 u v d := g3_pos (by omega)
  have z0 : R63 0 := ⟨by omega, by omega⟩
  have c6 : R63 65536 := ⟨by omega, by omega⟩
  have c6n : R63 (-65536) := ⟨by omega, by omega⟩
  have c1 : R63 1000 := ⟨by omega, by omega⟩
  have e : f_X0_take nt nu nv nd a (J u) (J v) (J d) = if (u.tdiv (g3 u v d) < -65536 ∨ 65536 < u.tdiv (g3 u v d)) ∨ (v.tdiv (g3 u v d) < -65536 ∨ 65536 < v.tdiv (g3 u v d)) ∨ ¬ d.tdiv (g3 u v d) ≤ 1000 then some (0, nt, nu, nv, nd) else some (1, upd nt a 1, vp_updL nu a (J (u.tdiv (g3 u v d))), vp_updL nv a (J (v.tdiv (g3 u v d))), vp_updL nd a (J (d.tdiv (g3 u v d)))) := by
    unfold f_X0_take
    rw [J0, if_pos ((J_lt z0 hd.r).mpr h0), bnd1_s (s_X11_common hu.r hv.r hu.n hv.n), bnd1_s (s_X11_common hg.r hd.r hg.n hd.n)]
    rw [show gz (gz u v) d = g3 u v d from rfl]
    rw [if_pos ((J_lt z0 hG.r).mpr hGp)]
    rw [gdL hG.r (by omega), gdL hG.r (by omega), gdL hG.r (by omega), J_div hu.r hG.r hu.n, J_div hv.r hG.r hv.n, J_div hd.r hG.r hd.n]
    rw [show (65536 : Int64) = J 65536 from rfl, show (1000 : Int64) = J 1000 from rfl, bnd1_s (s_isBeyond (hu.q).r c6 c6n), bnd1_s (s_isBeyond (hv.q).r c6 c6n)]
    simp only [J_le (hd.q (g := g3 u v d)).r c1]
    generalize u.tdiv (g3 u v d) = U
    generalize v.tdiv (g3 u v d) = V
    generalize d.tdiv (g3 u v d) = W
    by_cases a1 : U < -65536 ∨ 65536 < U
    · simp [a1]
    · by_cases a2 : V < -65536 ∨ 65536 < V
      · simp [a1, a2]
      · by_cases a3 : W ≤ 1000
        · simp [a1, a2, a3]
        · simp [a1, a2, a3]
  rw [e]
  unfold inB
  constructor
  · intro h; rw [if_neg (by omega)]
  · intro h; rw [if_pos (by omega)]
theorem s_X12_set {tu tv td : Int64} {u v d : Int} (hu : B62 u) (hv : B62 v) (hd : B62 d) (h0 : d ≠ 0) :
    (0 < d → f_X12_set tu tv td (J u) (J v) (J d) = some (J (u.tdiv (g3 u v d)), J (v.tdiv (g3 u v d)), J (d.tdiv (g3 u v d)))) ∧
    (d < 0 → f_X12_set tu tv td (J u) (J v) (J d) = some (J (-(u.tdiv (g3 u v d))), J (-(v.tdiv (g3 u v d))), J (-(d.tdiv (g3 u v d))))) := by
  have hg := hu.g hv
  have hG : B62 (g3 u v d) := hg.g hd
  have hGp : 0 < g3 u v d := g3_pos h0
  have z0 : R63 0 := ⟨by omega, by omega⟩
  have hq : g3 u v d * d.tdiv (g3 u v d) = d := Int.mul_tdiv_cancel' (g3_d u v d)
  have e : f_X12_set tu tv td (J u) (J v) (J d) = if 0 ≤ d.tdiv (g3 u v d) then some (J (u.tdiv (g3 u v d)), J (v.tdiv (g3 u v d)), J (d.tdiv (g3 u v d))) else some (J (-(u.tdiv (g3 u v d))), J (-(v.tdiv (g3 u v d))), J (-(d.tdiv (g3 u v d)))) := by
    unfold f_X12_set
    rw [bnd1_s (s_X12_common hu.r hv.r hu.n hv.n), bnd1_s (s_X12_common hg.r hd.r hg.n hd.n)]
    rw [show gz (gz u v) d = g3 u v d from rfl]
    rw [gdL hG.r (by omega), gdL hG.r (by omega), gdL hG.r (by omega)]
    show (if (0 : Int64) ≤ J d / J (g3 u v d) then some (J u / J (g3 u v d), J v / J (g3 u v d), J d / J (g3 u v d)) else some (-(J u / J (g3 u v d)), -(J v / J (g3 u v d)), -(J d / J (g3 u v d)))) = _
    rw [J_div hu.r hG.r hu.n, J_div hv.r hG.r hv.n, J_div hd.r hG.r hd.n, J0, J_neg, J_neg, J_neg]
    simp only [J_le z0 (hd.q (g := g3 u v d)).r]
  rw [e]
  constructor
  · intro h
    rw [if_pos]
    exact Int.tdiv_nonneg (by omega) (by omega)
  · intro h
    rw [if_neg]
    intro q
    have := Int.mul_nonneg (by omega : 0 ≤ g3 u v d) q
    omega
