/-! the numbers of the slots in both classes; number() -/
theorem dvd_gz {z m n : Int} (h1 : z ∣ m) (h2 : z ∣ n) : z ∣ gz m n := by
  unfold gz
  rw [← Int.natAbs_dvd]
  exact Int.ofNat_dvd.mpr (Nat.dvd_gcd (Int.natAbs_dvd_natAbs.mpr h1) (Int.natAbs_dvd_natAbs.mpr h2))
theorem dvd_g3 {z u v d : Int} (h1 : z ∣ u) (h2 : z ∣ v) (h3 : z ∣ d) : z ∣ g3 u v d := dvd_gz (dvd_gz h1 h2) h3
theorem g3_nonneg (u v d : Int) : 0 ≤ g3 u v d := gz_nonneg _ _
theorem g3_one {u v d : Int} (h : d ≠ 0) : g3 (u.tdiv (g3 u v d)) (v.tdiv (g3 u v d)) (d.tdiv (g3 u v d)) = 1 := by
  have hg := g3_pos (u := u) (v := v) h
  generalize hG : g3 u v d = g at *
  have eu : g * u.tdiv g = u := Int.mul_tdiv_cancel' (by rw [← hG]; exact g3_u u v d)
  have ev : g * v.tdiv g = v := Int.mul_tdiv_cancel' (by rw [← hG]; exact g3_v u v d)
  have ed : g * d.tdiv g = d := Int.mul_tdiv_cancel' (by rw [← hG]; exact g3_d u v d)
  generalize hK : g3 (u.tdiv g) (v.tdiv g) (d.tdiv g) = k
  have h1 : g * k ∣ u := by rw [← eu]; exact Int.mul_dvd_mul_left g (by rw [← hK]; exact g3_u _ _ _)
  have h2 : g * k ∣ v := by rw [← ev]; exact Int.mul_dvd_mul_left g (by rw [← hK]; exact g3_v _ _ _)
  have h3 : g * k ∣ d := by rw [← ed]; exact Int.mul_dvd_mul_left g (by rw [← hK]; exact g3_d _ _ _)
  have h4 : g * k ∣ g := by
    have := dvd_g3 h1 h2 h3
    rw [hG] at this; exact this
  have hk0 : 0 ≤ k := by rw [← hK]; exact g3_nonneg _ _ _
  obtain ⟨c, hc⟩ := h4
  have h5 : g * 1 = g * (k * c) := by rw [Int.mul_one, ← Int.mul_assoc]; exact hc
  have h6 : 1 = k * c := Int.eq_of_mul_eq_mul_left (by omega) h5
  exact Int.eq_one_of_dvd_one hk0 ⟨c, h6⟩
theorem tdiv_pos {d g : Int} (hd : 0 < d) (hg : 0 < g) (h : g ∣ d) : 1 ≤ d.tdiv g := by
  have e : g * d.tdiv g = d := Int.mul_tdiv_cancel' h
  have h1 : 0 ≤ d.tdiv g := Int.tdiv_nonneg (by omega) (by omega)
  rcases (show 0 < d.tdiv g ∨ d.tdiv g ≤ 0 by omega) with q | q
  · omega
  · have : d.tdiv g = 0 := by omega
    rw [this, Int.mul_zero] at e
    omega
theorem inB_dec (u v d : Int) : inB u v d ∨ ¬ inB u v d := Classical.em _
def RN1 (nt : Nat → Int32) (nu nv nd : Nat → Int64) (sa : Nat → Nat) (has us vs ds : Nat → Int32) (i : Nat) : Prop :=
  nt (sa i) = has i ∧ (has i = 0 ∨ has i = 1) ∧ (has i = 1 → ∃ u v d : Int, nu (sa i) = J u ∧ nv (sa i) = J v ∧ nd (sa i) = J d ∧ us i = I u ∧ vs i = I v ∧ ds i = I d ∧ NB u v d)
def RN (nt : Nat → Int32) (nu nv nd : Nat → Int64) (sa : Nat → Nat) (has us vs ds : Nat → Int32) : Prop := ∀ i, i < 10 → RN1 nt nu nv nd sa has us vs ds i
def SI (sa : Nat → Nat) : Prop := ∀ i j, i < 10 → j < 10 → sa i = sa j → i = j
theorem RN_put {nt : Nat → Int32} {nu nv nd : Nat → Int64} {sa : Nat → Nat} {has us vs ds : Nat → Int32} (h : RN nt nu nv nd sa has us vs ds) (hs : SI sa) {i : Nat} (hi : i < 10) {u v d : Int} (hn : NB u v d) :
    RN (upd nt (sa i) 1) (vp_updL nu (sa i) (J u)) (vp_updL nv (sa i) (J v)) (vp_updL nd (sa i) (J d)) sa (upd has i 1) (upd us i (I u)) (upd vs i (I v)) (upd ds i (I d)) := by
  intro k hk
  by_cases e : k = i
  · subst e
    unfold RN1
    rw [pk_us, pk_us, pk_uLs, pk_uLs, pk_uLs, pk_us, pk_us, pk_us]
    exact ⟨rfl, Or.inr rfl, fun _ => ⟨u, v, d, rfl, rfl, rfl, rfl, rfl, rfl, hn⟩⟩
  · have e2 : sa k ≠ sa i := fun q => e (hs k i hk hi q)
    unfold RN1
    rw [pk_un e2, pk_un e, pk_uLn e2, pk_uLn e2, pk_uLn e2, pk_un e, pk_un e, pk_un e]
    exact h k hk
theorem s_X12_isNumber {u v d : Int} (hu : R63 u) (hv : R63 v) (hd : R63 d) : (inB u v d → f_X12_isNumber (J u) (J v) (J d) = some 1) ∧ (¬ inB u v d → f_X12_isNumber (J u) (J v) (J d) = some 0) := by
  have c1 : R63 (-65536) := ⟨by omega, by omega⟩
  have c2 : R63 65536 := ⟨by omega, by omega⟩
  have c3 : R63 1000 := ⟨by omega, by omega⟩
  have e : f_X12_isNumber (J u) (J v) (J d) = if u < -65536 ∨ 65536 < u ∨ v < -65536 ∨ 65536 < v ∨ 1000 < d then some 0 else some 1 := by
    unfold f_X12_isNumber
    rw [show (-65536 : Int64) = J (-65536) from rfl, show (65536 : Int64) = J 65536 from rfl, show (1000 : Int64) = J 1000 from rfl]
    simp only [J_lt hu c1, J_lt c2 hu, J_lt hv c1, J_lt c2 hv, J_lt c3 hd]
    repeat' split
    all_goals first | rfl | (exfalso; omega)
  rw [e]
  unfold inB
  exact ⟨fun h => by rw [if_neg (by omega)], fun h => by rw [if_pos (by omega)]⟩
theorem slot_cases (s : Int32) : (s < 0 ∨ (10 : Int32) ≤ s) ∨ ∃ i : Nat, i < 10 ∧ s = I i := by
  obtain ⟨z, hz, rfl⟩ : ∃ z : Int, R31 z ∧ s = I z := ⟨s.toInt, I_rng s, I_of s⟩
  have h10 : R31 10 := ⟨by omega, by omega⟩
  have h0 : R31 0 := ⟨by omega, by omega⟩
  rw [I0, I_lt hz h0, show (10 : Int32) = I 10 from rfl, I_le h10 hz]
  rcases (show z < 0 ∨ 0 ≤ z by omega) with q | q
  · exact Or.inl (Or.inl q)
  · rcases (show z < 10 ∨ 10 ≤ z by omega) with q2 | q2
    · exact Or.inr ⟨z.toNat, by omega, by congr 1; omega⟩
    · exact Or.inl (Or.inr q2)
theorem slot_no {i : Nat} (h : i < 10) : ¬ I (i : Int) < 0 ∧ ¬ (10 : Int32) ≤ I (i : Int) ∧ I (i : Int) < 10 := by
  have hz : R31 (i : Int) := r31n (by omega)
  rw [I0, I_lt hz ⟨by omega, by omega⟩, show (10 : Int32) = I 10 from rfl, I_le ⟨by omega, by omega⟩ hz, I_lt hz ⟨by omega, by omega⟩]
  omega
theorem s_X11_isSlot_no {s : Int32} (h : s < 0 ∨ (10 : Int32) ≤ s) : f_X11_isSlot s = some 0 := by
  unfold f_X11_isSlot
  by_cases a : s < 0
  · rw [if_pos a]
  · rw [if_neg a, if_pos (h.resolve_left a)]
theorem s_X11_isSlot {i : Nat} (h : i < 10) : f_X11_isSlot (I (i : Int)) = some 1 := by
  unfold f_X11_isSlot
  rw [if_neg (slot_no h).1, if_neg (slot_no h).2.1]
theorem s_X12_put_no {s : Int32} {tu tv td : Int64} {has us vs ds : Nat → Int32} (h : s < 0 ∨ (10 : Int32) ≤ s) : f_X12_put tu tv td has us vs ds s = some (0, has, us, vs, ds) := by
  unfold f_X12_put
  by_cases a : s < 0
  · rw [if_pos a]
  · rw [if_neg a, if_pos (h.resolve_left a)]
theorem s_X12_put {i : Nat} (hi : i < 10) {u v d : Int} (hu : R63 u) (hv : R63 v) (hd : R63 d) {has us vs ds : Nat → Int32} :
    (inB u v d → f_X12_put (J u) (J v) (J d) has us vs ds (I (i : Int)) = some (1, upd has i 1, upd us i (I u), upd vs i (I v), upd ds i (I d))) ∧ (¬ inB u v d → f_X12_put (J u) (J v) (J d) has us vs ds (I (i : Int)) = some (0, has, us, vs, ds)) := by
  unfold f_X12_put
  rw [if_neg (slot_no hi).1, if_neg (slot_no hi).2.1]
  constructor
  · intro h
    rw [bnd1_s ((s_X12_isNumber hu hv hd).1 h), if_neg (by decide), gdI (by omega) (by omega) (by omega), gdI (by omega) (by omega) (by omega), gdI (by omega) (by omega) (by omega), gdI (by omega) (by omega) (by omega), I_at rfl (by omega), J_I, J_I, J_I]
    rfl
  · intro h
    rw [bnd1_s ((s_X12_isNumber hu hv hd).2 h), if_pos rfl]
theorem B62_of {z b : Int} (hb : b < 4611686018427387904) (h : -b ≤ z ∧ z ≤ b) : B62 z := by unfold B62; omega
/-- a triple is put into a slot by both: take() in the class, set() and put() in the reference -/
theorem m_store {nt : Nat → Int32} {nu nv nd : Nat → Int64} {sa : Nat → Nat} {has us vs ds : Nat → Int32} (h : RN nt nu nv nd sa has us vs ds) (hs : SI sa) {i : Nat} (hi : i < 10) {u v d : Int} (hu : B62 u) (hv : B62 v) (hd : B62 d) (h0 : 0 < d) :
    ∃ (r : Int32) (nt' : Nat → Int32) (nu' nv' nd' : Nat → Int64) (has' us' vs' ds' : Nat → Int32), (r = 0 ∨ r = 1) ∧ f_X0_take nt nu nv nd (sa i) (J u) (J v) (J d) = some (r, nt', nu', nv', nd') ∧ f_X12_put (J (u.tdiv (g3 u v d))) (J (v.tdiv (g3 u v d))) (J (d.tdiv (g3 u v d))) has us vs ds (I (i : Int)) = some (r, has', us', vs', ds') ∧ RN nt' nu' nv' nd' sa has' us' vs' ds' := by
  have hp := s_X12_put hi (hu.q (g := g3 u v d)).r (hv.q (g := g3 u v d)).r (hd.q (g := g3 u v d)).r (has := has) (us := us) (vs := vs) (ds := ds)
  have ht := s_X0_take (nt := nt) (nu := nu) (nv := nv) (nd := nd) (a := sa i) hu hv hd h0
  rcases inB_dec (u.tdiv (g3 u v d)) (v.tdiv (g3 u v d)) (d.tdiv (g3 u v d)) with q | q
  · exact ⟨1, _, _, _, _, _, _, _, _, Or.inr rfl, ht.1 q, hp.1 q, RN_put h hs hi ⟨q, tdiv_pos h0 (g3_pos (by omega)) (g3_d _ _ _), g3_one (by omega)⟩⟩
  · exact ⟨0, _, _, _, _, _, _, _, _, Or.inl rfl, ht.2 q, hp.2 q, h⟩
theorem m_number {nt : Nat → Int32} {nu nv nd : Nat → Int64} {sa : Nat → Nat} {has us vs ds : Nat → Int32} (h : RN nt nu nv nd sa has us vs ds) (hs : SI sa) (th : Int32) (tu tv td : Int64) (s lu lv ld : Int32) :
    ∃ (r : Int32) (nt' : Nat → Int32) (nu' nv' nd' : Nat → Int64) (tu' tv' td' : Int64) (has' us' vs' ds' : Nat → Int32), f_X11_number nt nu nv nd sa s lu lv ld = some (r, nt', nu', nv', nd') ∧ f_X12_number th tu tv td has us vs ds s lu lv ld = some (r, 0, tu', tv', td', has', us', vs', ds') ∧ RN nt' nu' nv' nd' sa has' us' vs' ds' := by
  obtain ⟨u, hu, rfl⟩ : ∃ z : Int, R31 z ∧ lu = I z := ⟨lu.toInt, I_rng lu, I_of lu⟩
  obtain ⟨v, hv, rfl⟩ : ∃ z : Int, R31 z ∧ lv = I z := ⟨lv.toInt, I_rng lv, I_of lv⟩
  obtain ⟨d, hd, rfl⟩ : ∃ z : Int, R31 z ∧ ld = I z := ⟨ld.toInt, I_rng ld, I_of ld⟩
  have bu : B62 u := by unfold R31 at hu; unfold B62; omega
  have bv : B62 v := by unfold R31 at hv; unfold B62; omega
  have bd : B62 d := by unfold R31 at hd; unfold B62; omega
  have z0 : R31 0 := ⟨by omega, by omega⟩
  unfold f_X11_number f_X12_number
  rw [I_J hu, I_J hv, I_J hd]
  have hc : ((0 : Int32) < I d) ↔ 0 < d := I_lt z0 hd
  by_cases h0 : 0 < d
  · have hset := (s_X12_set (tu := tu) (tv := tv) (td := td) bu bv bd (by omega)).1 h0
    rw [if_pos (hc.mpr h0), bnd3_s hset]
    rcases slot_cases s with q | ⟨i, hi, rfl⟩
    · rw [bnd1_s (s_X11_isSlot_no q), if_pos (show (0 : Int32) = 0 from rfl), bnd5_s (s_X12_put_no q)]
      exact ⟨0, nt, nu, nv, nd, _, _, _, has, us, vs, ds, rfl, rfl, h⟩
    · obtain ⟨r, nt', nu', nv', nd', has', us', vs', ds', hr, a, b, c⟩ := m_store h hs hi bu bv bd h0
      rw [bnd1_s (s_X11_isSlot hi), if_neg (show ¬ (1 : Int32) = 0 by decide), gdI (by omega) (by omega) (by omega), I_at rfl (by omega), bnd5_s a, bnd5_s b]
      refine ⟨r, nt', nu', nv', nd', _, _, _, has', us', vs', ds', ?_, rfl, c⟩
      rcases hr with rfl | rfl
      · rw [if_pos rfl]
      · rw [if_neg (by decide)]
  · rw [if_neg (fun q => h0 (hc.mp q))]
    refine ⟨0, nt, nu, nv, nd, tu, tv, td, has, us, vs, ds, ?_, rfl, h⟩
    rcases slot_cases s with q | ⟨i, hi, rfl⟩
    · rw [bnd1_s (s_X11_isSlot_no q), if_pos rfl]
    · have e : f_X0_take nt nu nv nd (sa i) (J u) (J v) (J d) = some (0, nt, nu, nv, nd) := by
        unfold f_X0_take
        rw [if_neg]
        rw [J0, J_lt ⟨by omega, by omega⟩ bd.r]; exact h0
      rw [bnd1_s (s_X11_isSlot hi), if_neg (show ¬ (1 : Int32) = 0 by decide), gdI (by omega) (by omega) (by omega), I_at rfl (by omega), bnd5_s e, if_pos rfl]
