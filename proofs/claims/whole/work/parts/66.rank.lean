/-! the digits ahead of the point, as told and as ranked; rank() -/
theorem VB_bd {a b : Int} (hb : VB a b) {T : Nat} (hT : T + 1 < pcn a b) : 65536 + (T + 1) * ((tp a b).toNat * 722000) ≤ 58547536 := by
  have h1 := (VB_g hb).1.1
  have ht := tp_b hb
  obtain ⟨n, hn⟩ : ∃ n : Nat, tp a b = (n : Int) := ⟨(tp a b).toNat, by omega⟩
  rw [hn] at h1
  rw [hn, Int.toNat_natCast]
  have h2 : n * pcn a b ≤ 81 := by
    rw [← Int.natCast_mul] at h1; omega
  have h3 : (T + 1) * n ≤ pcn a b * n := Nat.mul_le_mul_right _ (by omega)
  rw [Nat.mul_comm (pcn a b) n] at h3
  have h4 : (T + 1) * (n * 722000) = (T + 1) * n * 722000 := by rw [Nat.mul_assoc]
  omega
theorem backE {a b : Int} (hb : VB a b) {k : Nat} (hk : k + 1 < pcn a b) : J (pw a b (k + 1)).1 / (I b).toInt64 = J (pw a b k).2 ∧ J (pw a b (k + 1)).2 - (I a).toInt64 * J (pw a b k).2 = J (pw a b k).1 := by
  have hb' := hb
  unfold VB at hb'
  have ra : R31 a := ⟨by omega, by omega⟩
  have rb : R31 b := ⟨by omega, by omega⟩
  have rb6 : R63 b := ⟨by omega, by omega⟩
  obtain ⟨b1, -⟩ := hb.pw.2 (k + 1) hk
  have rU : R63 (pw a b (k + 1)).1 := ⟨by omega, by omega⟩
  rw [I_J ra, I_J rb, J_div rU rb6 (by omega), J_mul, J_sub, pw_s]
  constructor
  · congr 1; exact Int.mul_tdiv_cancel_left _ (by omega)
  · congr 1; show (pw a b k).1 + a * (pw a b k).2 - a * (pw a b k).2 = _; omega
theorem tell_loop {a b : Int} (hb : VB a b) {pU pV : Nat → Int64} (hp : ∀ i, i < pcn a b → pU i = J (pw a b i).1 ∧ pV i = J (pw a b i).2) {d : Int} {T : Nat} (hT : T + 1 < pcn a b) (hT30 : T ≤ 30) (hbd : ∀ k, k ≤ T → (d * (pw a b k).2).natAbs ≤ 720896 ∧ (d * (pw a b k).1).natAbs ≤ 721896) {g : Nat → Nat} {u' v' : Int} :
    ∀ (k m m' : Nat) (u v : Int) (x y : Int64) (fr : Nat → Int32) (dg : Nat → Int64), k ≤ T + 1 → k + 1 ≤ m → k + 1 ≤ m' → Fr a b d k u v g u' v' → u.natAbs + k * ((tp a b).toNat * 722000) ≤ 58547536 → v.natAbs + k * ((tp a b).toNat * 722000) ≤ 58547536 → (1 ≤ k → x = J (pw a b (k - 1)).1 ∧ y = J (pw a b (k - 1)).2) →
    u'.natAbs ≤ 58547536 ∧ v'.natAbs ≤ 58547536 ∧ ∃ (fr' : Nat → Int32) (dg' : Nat → Int64), f_X8_tell_L30 (I a) (I b) (J (DD a b)) (I (pcn a b : Int)) pU pV (J d) m (I ((k : Int) - 1)) fr (J u) (J v) = some (fr', J u', J v') ∧ f_X12_whole_L87 (J d) (I a) (I b) (I (DD a b)) m' x y (I ((k : Int) - 1)) (J u) (J v) (I ((T + 1 - k : Nat) : Int)) dg = some (J u', J v', I ((T + 1 : Nat) : Int), dg') ∧ (∀ i, i < k → fr' i = I (g i : Int) ∧ dg' (T - i) = J (g i : Int)) ∧ (∀ i, k ≤ i → fr' i = fr i) ∧ (∀ i, i < T + 1 - k → dg' i = dg i) := by
  have ht := tp_b hb
  have hb' := hb
  unfold VB at hb'
  have rb : R31 b := ⟨by omega, by omega⟩
  have rb6 : R63 b := ⟨by omega, by omega⟩
  intro k
  induction k with
  | zero =>
    intro m m' u v x y fr dg _ hm hm' hF hu hv _
    obtain ⟨m, rfl⟩ : ∃ i, m = i + 1 := ⟨m - 1, by omega⟩
    obtain ⟨m', rfl⟩ : ∃ i, m' = i + 1 := ⟨m' - 1, by omega⟩
    obtain ⟨rfl, rfl⟩ := hF
    have c : I (((0 : Nat) : Int) - 1) < 0 := by decide
    refine ⟨by omega, by omega, fr, dg, ?_, ?_, fun i hi => absurd hi (by omega), fun i _ => rfl, fun i _ => rfl⟩
    · rw [f_X8_tell_L30, if_pos c]
    · rw [f_X12_whole_L87, if_pos c]; rfl
  | succ k ih =>
    intro m m' u v x y fr dg hk hm hm' hF hu hv hxy
    obtain ⟨m, rfl⟩ : ∃ i, m = i + 1 := ⟨m - 1, by omega⟩
    obtain ⟨m', rfl⟩ : ∃ i, m' = i + 1 := ⟨m' - 1, by omega⟩
    obtain ⟨hG, hF⟩ := hF
    obtain ⟨hx, hy⟩ := hxy (by omega)
    rw [show k + 1 - 1 = k by omega] at hx hy
    subst hx hy
    obtain ⟨bV, bU⟩ := hbd k (by omega)
    have c1 : ¬ I (k : Int) < 0 := by rw [I0, I_lt (r31n (by omega)) ⟨by omega, by omega⟩]; omega
    have hpe := s_peel hb (k := k) (by omega) (hp k (by omega)).1 (hp k (by omega)).2 hG (by omega) (by omega)
    have h95 := l95_loop hb hG (by omega) (by omega) (g k) FU 0 (by omega) (by rw [FU_eq]; have := hG.1; omega)
    rw [show u - ((0 : Nat) : Int) * (d * (pw a b k).1) = u by omega, show v - ((0 : Nat) : Int) * (d * (pw a b k).2) = v by omega] at h95
    have h95 : f_X12_whole_L95 (J d) (J (pw a b k).1) (J (pw a b k).2) (I a) (I (DD a b)) FU (J u) (J v) 0 = _ := h95
    have e1 : I ((T + 1 - (k + 1) : Nat) : Int) + 1 = I ((T + 1 - k : Nat) : Int) := by rw [I_s]; congr 2; omega
    obtain ⟨z1, z2, fr', dg', y1, y2, y3, y4, y5⟩ := ih m m' _ _ (J (pw a b k).2 - (I a).toInt64 * (J (pw a b k).1 / (I b).toInt64)) (J (pw a b k).1 / (I b).toInt64) (upd fr k (I (g k : Int))) (vp_updL dg (T - k) (J (g k : Int))) (by omega) (by omega) (by omega) hF (spend hb hG.1 (by omega) hu) (spend hb hG.1 (by omega) hv) (fun h1 => by
      have := backE hb (k := k - 1) (by omega)
      rw [show k - 1 + 1 = k by omega] at this
      rw [this.1]
      exact ⟨this.2, rfl⟩)
    refine ⟨z1, z2, fr', dg', ?_, ?_, ?_, ?_, ?_⟩
    · rw [pm1, f_X8_tell_L30, if_neg c1, bnd3_s hpe, gdI (by omega) (by omega) (by omega), I_at rfl (by omega), I_d]
      exact y1
    · rw [pm1, f_X12_whole_L87, if_neg c1, bnd3_s h95, gdI (by omega) (by omega) (by omega), I_J rb, gdL rb6 (by omega), gdL rb6 (by omega), ← I_J rb, I_at (n := T - k) (by omega) (by omega), I_d, e1]
      exact y2
    · intro i hi
      by_cases q : i = k
      · subst q
        rw [y4 i (by omega), y5 (T - i) (by omega), pk_us, pk_uLs]; exact ⟨rfl, rfl⟩
      · exact y3 i (by omega)
    · intro i hi
      rw [y4 i (by omega), pk_un (by omega)]
    · intro i hi
      rw [y5 i (by omega), pk_uLn (by omega)]
def Sd (a b : Int) (g : Nat → Nat) : Nat → Int
  | 0 => 0
  | k + 1 => g k * rc a b k + Sd a b g k
theorem rank_loop {a b : Int} (hb : VB a b) {pU pV rC : Nat → Int64} (hp : ∀ i, i < pcn a b → pU i = J (pw a b i).1 ∧ pV i = J (pw a b i).2) (hr : ∀ i, i < ccn a b → rC i = J (rc a b i)) {d : Int} {T : Nat} (hT : T + 1 < pcn a b) (hTc : T < ccn a b) (hT30 : T ≤ 30) (hbd : ∀ k, k ≤ T → (d * (pw a b k).2).natAbs ≤ 720896 ∧ (d * (pw a b k).1).natAbs ≤ 721896) {g : Nat → Nat} {u' v' : Int} :
    ∀ (k m m' : Nat) (u v s : Int) (x y : Int64) (ha : Nat → Int32), k ≤ T + 1 → k + 1 ≤ m → k + 1 ≤ m' → Fr a b d k u v g u' v' → u.natAbs + k * ((tp a b).toNat * 722000) ≤ 58547536 → v.natAbs + k * ((tp a b).toNat * 722000) ≤ 58547536 → (1 ≤ k → x = J (pw a b (k - 1)).1 ∧ y = J (pw a b (k - 1)).2) →
    u'.natAbs ≤ 58547536 ∧ v'.natAbs ≤ 58547536 ∧ ∃ (ha' : Nat → Int32), f_X11_rank_L38 (I a) (I b) (J (DD a b)) (I (pcn a b : Int)) (I (ccn a b : Int)) pU pV rC (J d) m (J s) (I ((k : Int) - 1)) (J u) (J v) = some (J (s + Sd a b g k), J u', J v') ∧ f_X12_rank_L147 (J d) (I ((T + 1 : Nat) : Int)) (I a) (I b) (I (DD a b)) m' (J u) (J v) x y (I ((k : Int) - 1)) ha = some (J u', J v', ha') ∧ (∀ i, i < k → ha' (T - i) = I (g i : Int) ∧ (g i : Int) ≤ tp a b) ∧ (∀ i, i < T + 1 - k → ha' i = ha i) := by
  have ht := tp_b hb
  have hb' := hb
  unfold VB at hb'
  have rb : R31 b := ⟨by omega, by omega⟩
  have rb6 : R63 b := ⟨by omega, by omega⟩
  intro k
  induction k with
  | zero =>
    intro m m' u v s x y ha _ hm hm' hF hu hv _
    obtain ⟨m, rfl⟩ : ∃ i, m = i + 1 := ⟨m - 1, by omega⟩
    obtain ⟨m', rfl⟩ : ∃ i, m' = i + 1 := ⟨m' - 1, by omega⟩
    obtain ⟨rfl, rfl⟩ := hF
    have c : I (((0 : Nat) : Int) - 1) < 0 := by decide
    refine ⟨by omega, by omega, ha, ?_, ?_, fun i hi => absurd hi (by omega), fun i _ => rfl⟩
    · rw [f_X11_rank_L38, if_pos c]
      rw [show s + Sd a b g 0 = s from Int.add_zero s]
    · rw [f_X12_rank_L147, if_pos c]
  | succ k ih =>
    intro m m' u v s x y ha hk hm hm' hF hu hv hxy
    obtain ⟨m, rfl⟩ : ∃ i, m = i + 1 := ⟨m - 1, by omega⟩
    obtain ⟨m', rfl⟩ : ∃ i, m' = i + 1 := ⟨m' - 1, by omega⟩
    obtain ⟨hG, hF⟩ := hF
    obtain ⟨hx, hy⟩ := hxy (by omega)
    rw [show k + 1 - 1 = k by omega] at hx hy
    subst hx hy
    obtain ⟨bV, bU⟩ := hbd k (by omega)
    have hg1 := hG.1
    have c1 : ¬ I (k : Int) < 0 := by rw [I0, I_lt (r31n (by omega)) ⟨by omega, by omega⟩]; omega
    have hpe := s_peel hb (k := k) (by omega) (hp k (by omega)).1 (hp k (by omega)).2 hG (by omega) (by omega)
    have h155 := l155_loop hb hG (by omega) (by omega) (g k) FU 0 (by omega) (by rw [FU_eq]; omega)
    rw [show u - ((0 : Nat) : Int) * (d * (pw a b k).1) = u by omega, show v - ((0 : Nat) : Int) * (d * (pw a b k).2) = v by omega] at h155
    have h155 : f_X12_rank_L155 (J d) (J (pw a b k).1) (J (pw a b k).2) (I a) (I (DD a b)) FU (J u) (J v) 0 = _ := h155
    have e1 : I ((T + 1 : Nat) : Int) - 1 - I (k : Int) = I ((T - k : Nat) : Int) := by rw [I1, I_sub, I_sub]; congr 1; omega
    obtain ⟨z1, z2, ha', y1, y2, y3, y5⟩ := ih m m' _ _ (s + g k * rc a b k) (J (pw a b k).2 - (I a).toInt64 * (J (pw a b k).1 / (I b).toInt64)) (J (pw a b k).1 / (I b).toInt64) (upd ha (T - k) (I (g k : Int))) (by omega) (by omega) (by omega) hF (spend hb hG.1 (by omega) hu) (spend hb hG.1 (by omega) hv) (fun h1 => by
      have := backE hb (k := k - 1) (by omega)
      rw [show k - 1 + 1 = k by omega] at this
      rw [this.1]
      exact ⟨this.2, rfl⟩)
    refine ⟨z1, z2, ha', ?_, ?_, ?_, ?_⟩
    · rw [pm1, f_X11_rank_L38, if_neg c1, bnd3_s hpe, bnd1_s (s_rowCount hb hr (by omega)), I_J ⟨by omega, by omega⟩, J_mul, J_add, I_d, y1]
      rw [show s + g k * rc a b k + Sd a b g k = s + Sd a b g (k + 1) by rw [Sd]; omega]
    · rw [pm1, f_X12_rank_L147, if_neg c1, bnd3_s h155, e1, gdI (by omega) (by omega) (by omega), I_J rb, gdL rb6 (by omega), gdL rb6 (by omega), ← I_J rb, I_at rfl (by omega), I_d]
      exact y2
    · intro i hi
      by_cases q : i = k
      · subst q
        rw [y5 (T - i) (by omega), pk_us]; exact ⟨rfl, hg1⟩
      · exact y3 i (by omega)
    · intro i hi
      rw [y5 i (by omega), pk_un (by omega)]
theorem l284_loop {a b : Int} (hb : VB a b) {be : Nat → Int64} {ha : Nat → Int32} {T : Nat} (hT : T ≤ 30) {g : Nat → Nat} (hbe : ∀ i, i ≤ T + 1 → be (2 * i) = J (fr a b i).1) (hha : ∀ i, i < T + 1 → ha (T - i) = I (g i : Int) ∧ (g i : Int) ≤ tp a b) :
    ∀ (k m st : Nat) (w : Int), k ≤ T + 1 → k + 1 ≤ m → st ≤ 1 → f_X12_rank_L284 (I ((T + 1 : Nat) : Int)) (I a) (I b) be ha m (J w) (I (st : Int)) (I ((T + 1 - k : Nat) : Int)) = some (J (w + Sd a b g k)) := by
  have ht := tp_b hb
  intro k
  induction k with
  | zero =>
    intro m st w _ hm _
    obtain ⟨m, rfl⟩ : ∃ i, m = i + 1 := ⟨m - 1, by omega⟩
    rw [f_X12_rank_L284, if_pos ((In_le (by omega) (by omega)).mpr (by omega)), show w + Sd a b g 0 = w from Int.add_zero w]
  | succ k ih =>
    intro m st w hk hm hst
    obtain ⟨m, rfl⟩ : ∃ i, m = i + 1 := ⟨m - 1, by omega⟩
    obtain ⟨h1, h2⟩ := hha k (by omega)
    have c : ¬ I ((T + 1 : Nat) : Int) ≤ I ((T + 1 - (k + 1) : Nat) : Int) := fun z => by have := (In_le (by omega) (by omega)).mp z; omega
    have e1 : 2 * (I ((T + 1 : Nat) : Int) - 1 - I ((T + 1 - (k + 1) : Nat) : Int)) = I ((2 * k : Nat) : Int) := by rw [show (2 : Int32) = I 2 from rfl, I1, I_sub, I_sub, I_mul]; congr 1; omega
    have e2 : I ((T + 1 - (k + 1) : Nat) : Int) + 1 = I ((T + 1 - k : Nat) : Int) := by rw [I_s]; congr 2; omega
    have e3 : w + g k * rc a b k + Sd a b g k = w + Sd a b g (k + 1) := by rw [Sd]; omega
    rw [f_X12_rank_L284, if_neg c, e1, gdI (by omega) (by omega) (by omega), gdI (by omega) (by omega) (by omega), bnd1_s (s_bar hb (k := st) (by omega)).1, I_at (n := T - k) (by omega) (by omega), I_at rfl (by omega), h1, hbe k (by omega), (fr_rc k).1, I_J ⟨by omega, by omega⟩, J_mul, J_add, e2]
    split
    · split
      · have := ih m 1 (w + g k * rc a b k) (by omega) (by omega) (by omega)
        rw [e3] at this; exact this
      · have := ih m (1 - st) (w + g k * rc a b k) (by omega) (by omega) (by omega)
        rw [e3] at this
        rw [show (1 : Int32) - I (st : Int) = I ((1 - st : Nat) : Int) by rw [I1, I_sub]; congr 1; omega]
        exact this
    · have := ih m 0 (w + g k * rc a b k) (by omega) (by omega) (by omega)
      rw [e3] at this; exact this
theorem from0 {nt : Nat → Int32} {nu nv nd : Nat → Int64} {sa : Nat → Nat} {has us vs ds : Nat → Int32} (h : RN nt nu nv nd sa has us vs ds) {a b : Int} (hb : VB a b) (s : Int32) :
    (f_X11_hasNumberFromZero (I a) (J (DD a b)) nt nu nv sa s = some 0 ∧ f_X12_isThere has s = some 0) ∨ ∃ (i : Nat) (u v d : Int), i < 10 ∧ s = I (i : Int) ∧ f_X12_isThere has s = some 1 ∧ nu (sa i) = J u ∧ nv (sa i) = J v ∧ nd (sa i) = J d ∧ us i = I u ∧ vs i = I v ∧ ds i = I d ∧ NB u v d ∧ ∃ t : Int, f_X12_sign (I a) (I (DD a b)) (J u) (J v) = some (I t) ∧ ((f_X11_hasNumberFromZero (I a) (J (DD a b)) nt nu nv sa s = some 0 ∧ ¬ (0 : Int32) ≤ I t) ∨ (f_X11_hasNumberFromZero (I a) (J (DD a b)) nt nu nv sa s = some 1 ∧ (0 : Int32) ≤ I t ∧ nn a b u v)) := by
  unfold f_X11_hasNumberFromZero
  rcases num_cases h s with ⟨q1, q2⟩ | ⟨i, u, v, d, hi, rfl, q1, q2, -, e1, e2, e3, e4, e5, e6, hn⟩
  · refine Or.inl ⟨?_, q2⟩
    rw [bnd1_s q1, if_pos rfl]
  · refine Or.inr ⟨i, u, v, d, hi, rfl, q2, e1, e2, e3, e4, e5, e6, hn, ?_⟩
    have q := hn.b
    obtain ⟨t, x1, x2, x3⟩ := s12 hb (p := u) (q := v) (by omega) (by omega)
    obtain ⟨t', y1, y2⟩ := s3 hb (p := u) (q := v) (by omega) (by omega)
    refine ⟨t, x1, ?_⟩
    rw [bnd1_s q1, if_neg (show ¬ (1 : Int32) = 0 by decide), gdI (by omega) (by omega) (by omega), gdI (by omega) (by omega) (by omega), I_at rfl (by omega), e1, e2, bnd1_s y1]
    by_cases c : nn a b u v
    · exact Or.inr ⟨by rw [if_neg (fun z => y2.mp z c)], x2.mpr c, c⟩
    · exact Or.inl ⟨by rw [if_pos (y2.mpr c)], fun z => c (x2.mp z)⟩
theorem m_rank {nt : Nat → Int32} {nu nv nd : Nat → Int64} {sa : Nat → Nat} {has us vs ds : Nat → Int32} (h : RN nt nu nv nd sa has us vs ds) {a b : Int} (hb : VB a b) {pU pV rC : Nat → Int64} (hp : ∀ i, i < pcn a b → pU i = J (pw a b i).1 ∧ pV i = J (pw a b i).2) (hr : ∀ i, i < ccn a b → rC i = J (rc a b i)) (th : Int32) (ru rv rd : Int64) (be : Nat → Int64) (ha : Nat → Int32) (s : Int32) :
    ∃ (r : Int32) (ru' rv' rd' : Int64) (be' : Nat → Int64) (ha' : Nat → Int32), f_X11_rank (I a) (I b) (J (DD a b)) (I (pcn a b : Int)) (I (ccn a b : Int)) pU pV rC ru rv rd nt nu nv nd sa s = some (r, ru', rv', rd') ∧ f_X12_rank th (I a) (I b) (I (DD a b)) has us vs ds be ha s = some (r, 0, be', ha') := by
  unfold f_X11_rank f_X12_rank
  rcases from0 h hb s with ⟨q1, q2⟩ | ⟨i, u, v, d, hi, rfl, q2, e1, e2, e3, e4, e5, e6, hn, t, x1, hx⟩
  · rw [bnd1_s q1, if_pos rfl, bnd1_s q2, if_pos rfl]
    exact ⟨-1, _, _, _, _, _, rfl, rfl⟩
  · have q := hn.b
    rw [bnd1_s q2, if_neg (show ¬ (1 : Int32) = 0 by decide)]
    simp only [gdI (a := (i : Int)) (n := 10) (by omega) (by omega) (by omega), I_at (a := (i : Int)) (n := i) rfl (by omega)]
    rw [e4, e5, e6, I_J hn.r.1, I_J hn.r.2.1, I_J hn.r.2.2, bnd1_s x1]
    rcases hx with ⟨z1, z2⟩ | ⟨z1, z2, z3⟩
    · rw [bnd1_s z1, if_pos rfl, if_neg z2]
      exact ⟨-1, _, _, _, _, _, rfl, rfl⟩
    · obtain ⟨T, hT, hh⟩ := TopP_ex hb hn
      have sg1 := s_greatest hb hp hn hT hh
      have r71 := top_71 hb hn hT hh T FU 0 (by omega) (by rw [FU_eq]; have := hT.2.2.1; omega)
      have r71 : f_X12_rank_L71 (J u) (J v) (J d) (I a) (I b) (I (DD a b)) FU 1 0 0 = _ := r71
      obtain ⟨t1, t2, t3, t4, t5⟩ := hT
      have hP := hb.pw.1
      obtain ⟨g, u', v', f1, f2, f3⟩ := Fr_ex hb (d := d) (by omega) (T + 1) u v (by omega) z3 t4
      have hbd := VB_bd hb t1
      obtain ⟨w1, w2, ha', y1, y2, y3, y4⟩ := rank_loop hb hp hr t1 t2 t3 t5 (T + 1) FU FU u v 0 (J (pw a b T).1) (J (pw a b T).2) ha (by omega) (by rw [FU_eq]; omega) (by rw [FU_eq]; omega) f1 (by omega) (by omega) (fun _ => ⟨rfl, rfl⟩)
      rw [show (((T + 1 : Nat) : Int) - 1) = (T : Int) by omega] at y1 y2
      have y1 : f_X11_rank_L38 (I a) (I b) (J (DD a b)) (I (pcn a b : Int)) (I (ccn a b : Int)) pU pV rC (J d) FU 0 (I (T : Int)) (J u) (J v) = _ := y1
      obtain ⟨be', c1, c2⟩ := s_count0 hb (n := T + 1) (by omega) be
      have l2 := l284_loop hb (be := be') (ha := ha') t3 (g := g) (fun i hi => (c2 i hi).1) y3 (T + 1) FU 0 0 (by omega) (by rw [FU_eq]; omega) (by omega)
      rw [show T + 1 - (T + 1) = 0 by omega] at l2
      have l2 : f_X12_rank_L284 (I ((T + 1 : Nat) : Int)) (I a) (I b) be' ha' FU 0 0 0 = some (J (0 + Sd a b g (T + 1))) := l2
      have z0 : R63 0 := ⟨by omega, by omega⟩
      have cu : (J u' = 0) ↔ u' = 0 := J_eq ⟨by omega, by omega⟩ z0
      have cv : (J v' = 0) ↔ v' = 0 := J_eq ⟨by omega, by omega⟩ z0
      unfold f_X1_of f_X1_isNothing
      rw [bnd1_s z1, if_neg (show ¬ (1 : Int32) = 0 by decide), if_pos z2, e1, e2, e3, bnd3_s rfl, bnd1_s sg1, bnd3_s y1, bnd3_s r71, I_s, bnd3_s y2, bnd1_s c1, bnd1_s l2]
      by_cases c3 : J u' = 0
      · by_cases c4 : J v' = 0
        · rw [if_pos c3, if_pos c4, bnd1_s rfl, if_neg (show ¬ (1 : Int32) = 0 by decide), if_pos c3, if_pos c4]
          by_cases c5 : 50000 < J (0 + Sd a b g (T + 1))
          · rw [if_pos c5, if_neg (fun z => by rw [Int64.le_iff_toInt_le] at z; rw [Int64.lt_iff_toInt_lt] at c5; omega)]
            exact ⟨_, _, _, _, _, _, rfl, rfl⟩
          · rw [if_neg c5, if_pos (by rw [Int64.lt_iff_toInt_lt] at c5; rw [Int64.le_iff_toInt_le]; omega)]
            exact ⟨_, _, _, _, _, _, rfl, rfl⟩
        · rw [if_pos c3, if_neg c4, bnd1_s rfl, if_pos (show (0 : Int32) = 0 from rfl), if_pos c3, if_neg c4]
          exact ⟨_, _, _, _, _, _, rfl, rfl⟩
      · rw [if_neg c3, bnd1_s rfl, if_pos (show (0 : Int32) = 0 from rfl), if_neg c3]
        exact ⟨_, _, _, _, _, _, rfl, rfl⟩
