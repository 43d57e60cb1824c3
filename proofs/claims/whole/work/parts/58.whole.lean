/-! whole(): WHOLE one number n -/
def wM (a b : Int) : Nat := min (ccn a b) (pcn a b)
def whOK (q : Int × Int) : Bool := decide (50000 < rc q.1 q.2 (min 26 (wM q.1 q.2 - 1))) && decide (1 ≤ wM q.1 q.2) && (List.range 34).all (fun i => decide (rc q.1 q.2 i < rc q.1 q.2 (i + 1) ∧ (fr q.1 q.2 i).2 ≤ (fr q.1 q.2 i).1 ∧ 1 ≤ (fr q.1 q.2 i).1))
theorem wh_all : bases.all whOK = true := by decide +kernel
theorem VB_wh {a b : Int} (h : VB a b) : 50000 < rc a b (min 26 (wM a b - 1)) ∧ 1 ≤ wM a b ∧ ∀ i, i < 34 → rc a b i < rc a b (i + 1) ∧ (fr a b i).2 ≤ (fr a b i).1 ∧ 1 ≤ (fr a b i).1 := by
  have h1 := List.all_eq_true.mp wh_all (a, b) h.mem
  unfold whOK at h1
  simp only [Bool.and_eq_true, decide_eq_true_eq, List.all_eq_true] at h1
  obtain ⟨⟨h2, h4⟩, h3⟩ := h1
  exact ⟨h2, h4, fun i hi => h3 i (List.mem_range.mpr (by omega))⟩
theorem VB_mono {a b : Int} (h : VB a b) {i : Nat} : ∀ j : Nat, i + j ≤ 34 → rc a b i ≤ rc a b (i + j) := by
  intro j
  induction j with
  | zero => intro _; exact Int.le_refl _
  | succ j ih =>
    intro hj
    have h1 := ih (by omega)
    have h2 := ((VB_wh h).2.2 (i + j) (by omega)).1
    rw [show i + (j + 1) = i + j + 1 by omega]
    omega
theorem VB_M {a b : Int} (h : VB a b) : wM a b ≤ ccn a b ∧ wM a b ≤ pcn a b ∧ wM a b ≤ 31 := by
  have h1 := h.rc.1
  unfold wM
  omega
theorem J1000 {z : Int} (h : z.natAbs ≤ 10000000000000000) : R63 z := ⟨by omega, by omega⟩
theorem many_loop {a b : Int} (hb : VB a b) {n : Nat} (hn : n ≤ 50000) {be : Nat → Int64} (hbe : ∀ i, i ≤ 26 → be (2 * i) = J (fr a b i).1) : ∀ (j m k : Nat), k + j = min 26 (wM a b - 1) → j + 1 ≤ m → (∀ i, i < k → rc a b i ≤ n) →
    ∃ t : Nat, t ≤ min 26 (wM a b - 1) ∧ f_X12_whole__L35 (I (n : Int)) be m (I (k : Int)) = some (I (t : Int)) ∧ (n : Int) < rc a b t := by
  obtain ⟨w1, w2, w3⟩ := (VB_wh hb)
  obtain ⟨m1, m2, m3⟩ := (VB_M hb)
  have r3 := hb.rc.2.2
  intro j
  induction j with
  | zero =>
    intro m k hk hm h
    obtain ⟨m, rfl⟩ : ∃ i, m = i + 1 := ⟨m - 1, by omega⟩
    have e3 : 2 * I (k : Int) = I ((2 * k : Nat) : Int) := by rw [show (2 : Int32) = I 2 from rfl, I_mul]; congr 1
    have c : (n : Int) < rc a b k := by rw [show k = min 26 (wM a b - 1) by omega]; omega
    have c' : J (n : Int) < J (rc a b k) := (J_lt ⟨by omega, by omega⟩ (J1000 (r3 k (by omega)).1)).mpr c
    refine ⟨k, by omega, ?_, c⟩
    rw [f_X12_whole__L35, e3, gdI (by omega) (by omega) (by omega), I_at rfl (by omega), hbe k (by omega), (fr_rc k).1, I_J (r31n (by omega)), if_pos c']
  | succ j ih =>
    intro m k hk hm h
    obtain ⟨m, rfl⟩ : ∃ i, m = i + 1 := ⟨m - 1, by omega⟩
    have e3 : 2 * I (k : Int) = I ((2 * k : Nat) : Int) := by rw [show (2 : Int32) = I 2 from rfl, I_mul]; congr 1
    rw [f_X12_whole__L35, e3, gdI (by omega) (by omega) (by omega), I_at rfl (by omega), hbe k (by omega), (fr_rc k).1, I_J (r31n (by omega)), I_s]
    by_cases c : J (n : Int) < J (rc a b k)
    · rw [if_pos c]
      exact ⟨k, by omega, rfl, (J_lt ⟨by omega, by omega⟩ (J1000 (r3 k (by omega)).1)).mp c⟩
    · rw [if_neg c]
      rw [J_lt ⟨by omega, by omega⟩ (J1000 (r3 k (by omega)).1)] at c
      exact ih m (k + 1) (by omega) (by omega) (fun i hi => by
        by_cases q : i = k
        · subst q; omega
        · exact h i (by omega))
theorem I_p (k : Nat) : I ((k + 1 : Nat) : Int) - 1 = I (k : Int) := by rw [I1, I_sub]; congr 1; omega
theorem I_d (k : Nat) : I ((k : Int)) + (-1) = I ((k : Int) - 1) := by rw [Im1, I_add]; congr 1
theorem pm1 (k : Nat) : I (((k + 1 : Nat) : Int) - 1) = I (k : Int) := by congr 1; omega
/-- the powers that are too great: nothing comes of them -/
theorem wh_skip {a b : Int} (hb : VB a b) {pU pV rC : Nat → Int64} (hp : ∀ i, i < pcn a b → pU i = J (pw a b i).1 ∧ pV i = J (pw a b i).2) (hr : ∀ i, i < ccn a b → rC i = J (rc a b i)) {n t : Nat} (hn : n ≤ 50000) (ht : (n : Int) < rc a b t) :
    ∀ (j m : Nat), t + j ≤ wM a b → f_X3_putWhole_L24 pU pV rC (m + j) (J (n : Int)) 0 0 (I (((t + j : Nat) : Int) - 1)) = f_X3_putWhole_L24 pU pV rC m (J (n : Int)) 0 0 (I ((t : Int) - 1)) := by
  obtain ⟨m1, m2, m3⟩ := (VB_M hb)
  intro j
  induction j with
  | zero => intro m _; rfl
  | succ j ih =>
    intro m hj
    rw [← ih m (by omega), show m + (j + 1) = (m + j) + 1 by omega, show t + (j + 1) = t + j + 1 by omega, pm1]
    obtain ⟨g1, g2, -⟩ := hb.rc.2.2 (t + j) (by omega)
    have hm := VB_mono hb (i := t) j (by omega)
    have rR := J1000 g1
    have c1 : ¬ I ((t + j : Nat) : Int) < 0 := by rw [I0, I_lt (r31n (by omega)) ⟨by omega, by omega⟩]; omega
    have c2 : ¬ J (rc a b (t + j)) ≤ 0 := by rw [J0, J_le rR ⟨by omega, by omega⟩]; omega
    have e : J (n : Int) / J (rc a b (t + j)) = J 0 := by
      rw [J_div ⟨by omega, by omega⟩ rR (by omega), Int.tdiv_eq_ediv_of_nonneg (by omega), Int.ediv_eq_zero_of_lt (by omega) (by omega)]
    rw [f_X3_putWhole_L24, if_neg c1, gdI (by omega) (by omega) (by omega), gdI (by omega) (by omega) (by omega), gdI (by omega) (by omega) (by omega), gdI (by omega) (by omega) (by omega), gdI (by omega) (by omega) (by omega), I_at rfl (by omega), hr _ (by omega), if_neg c2, gdL rR (by omega), (hp _ (by omega)).1, (hp _ (by omega)).2, e, I_d, J0, J_mul, J_mul, J_mul, J_sub, J_add, J_add]
    simp only [Int.zero_mul, Int.sub_zero, Int.add_zero]
def wN (a b : Int) (s k : Nat) : Int := if s = 0 then (fr a b k).1 else (fr a b k).2
theorem dig_loop {a b : Int} (hb : VB a b) {be : Nat → Int64} (hbe : ∀ i, i ≤ 26 → be (2 * i) = J (fr a b i).1) {s k : Nat} (hs : s ≤ 1) (hk : k ≤ 26) (hkc : k < ccn a b) {l : Int} (h0 : 0 ≤ l) (hl : l ≤ 50000) (hc : l / rc a b k ≤ br a b s) :
    ∀ (j m : Nat) (i : Int), 0 ≤ i → i + j = l / rc a b k → j + 1 ≤ m → f_X12_whole__L81 (I (s : Int)) (I (k : Int)) (I a) (I b) be m (J (l - i * rc a b k)) (I i) = some (J (l - l / rc a b k * rc a b k), I (l / rc a b k)) := by
  obtain ⟨g1, g2, -⟩ := hb.rc.2.2 k hkc
  have rR := J1000 g1
  have hbr := hb.bar s
  have e3 : 2 * I (k : Int) = I ((2 * k : Nat) : Int) := by rw [show (2 : Int32) = I 2 from rfl, I_mul]; congr 1
  have hsb := (s_bar hb (k := s) (by omega)).1
  have hq0 : 0 ≤ l / rc a b k := Int.ediv_nonneg h0 (by omega)
  have hq1 : l / rc a b k * rc a b k ≤ l := Int.ediv_mul_le l (by omega)
  have hq2 : l < (l / rc a b k + 1) * rc a b k := Int.lt_ediv_add_one_mul_self l (by omega)
  generalize hQ : l / rc a b k = Q at *
  generalize hR : rc a b k = R at *
  intro j
  induction j with
  | zero =>
    intro m i hi hj hm
    obtain ⟨m, rfl⟩ : ∃ i, m = i + 1 := ⟨m - 1, by omega⟩
    have : i = Q := by omega
    subst this
    rw [f_X12_whole__L81, bnd1_s hsb]
    by_cases c : I (br a b s) ≤ I i
    · rw [if_pos c]
    · have c2 : J (l - i * R) < J R := by
        rw [Int.add_mul, Int.one_mul] at hq2
        generalize i * R = x at *
        rw [J_lt ⟨by omega, by omega⟩ rR]; omega
      rw [if_neg c, e3, gdI (by omega) (by omega) (by omega), I_at rfl (by omega), hbe k hk, (fr_rc k).1, hR, if_pos c2]
  | succ j ih =>
    intro m i hi hj hm
    obtain ⟨m, rfl⟩ : ∃ i, m = i + 1 := ⟨m - 1, by omega⟩
    have c : ¬ I (br a b s) ≤ I i := by rw [I_le ⟨by omega, by omega⟩ ⟨by omega, by omega⟩]; omega
    have hle : (i + 1) * R ≤ Q * R := Int.mul_le_mul_of_nonneg_right (by omega) (by omega)
    have hge : 0 ≤ i * R := Int.mul_nonneg hi (by omega)
    have hh := ih m (i + 1) (by omega) (by omega) (by omega)
    rw [Int.add_mul, Int.one_mul] at hle hh
    have c2 : ¬ J (l - i * R) < J R := by
      generalize i * R = x at *
      rw [J_lt ⟨by omega, by omega⟩ rR]; omega
    have e4 : J (l - i * R) - J R = J (l - (i * R + R)) := by rw [J_sub]; congr 1; omega
    have e5 : I i + 1 = I (i + 1) := by rw [I1, I_add]
    rw [f_X12_whole__L81, bnd1_s hsb, if_neg c, e3, gdI (by omega) (by omega) (by omega), gdI (by omega) (by omega) (by omega), I_at rfl (by omega), hbe k hk, (fr_rc k).1, hR, if_neg c2, e4, e5]
    exact hh
theorem wh_loop {a b : Int} (hb : VB a b) {pU pV rC be : Nat → Int64} (hp : ∀ i, i < pcn a b → pU i = J (pw a b i).1 ∧ pV i = J (pw a b i).2) (hr : ∀ i, i < ccn a b → rC i = J (rc a b i)) (hbe : ∀ i, i ≤ 26 → be (2 * i) = J (fr a b i).1) :
    ∀ (k m m' s : Nat) (l p q U0 V0 : Int), k ≤ wM a b → k ≤ 26 → k + 1 ≤ m → k + 1 ≤ m' → s ≤ 1 → 0 ≤ l → l ≤ 50000 → l < wN a b s k → U0 = p * (pw a b k).1 + b * q * (pw a b k).2 → V0 = p * (pw a b k).2 + q * (pw a b k).1 + a * q * (pw a b k).2 →
    ∃ U V : Int, f_X3_putWhole_L24 pU pV rC m (J l) (J U0) (J V0) (I ((k : Int) - 1)) = some (J U, J V) ∧ f_X12_whole__L73 (I a) (I b) be m' (J l) (I (s : Int)) (J p) (J q) (I ((k : Int) - 1)) = some (J U, J V) ∧ U.natAbs ≤ U0.natAbs + k * 450000000000 ∧ V.natAbs ≤ V0.natAbs + k * 450000000000 := by
  obtain ⟨m1, m2, m3⟩ := (VB_M hb)
  have hb' := hb
  unfold VB at hb'
  have ra : R31 a := ⟨by omega, by omega⟩
  have rb : R31 b := ⟨by omega, by omega⟩
  have r0 : R31 0 := ⟨by omega, by omega⟩
  have c0 : (I b ≤ 0) ↔ b ≤ 0 := I_le rb r0
  intro k
  induction k with
  | zero =>
    intro m m' s l p q U0 V0 _ _ hm hm' _ _ _ _ hU hV
    obtain ⟨m, rfl⟩ : ∃ i, m = i + 1 := ⟨m - 1, by omega⟩
    obtain ⟨m', rfl⟩ : ∃ i, m' = i + 1 := ⟨m' - 1, by omega⟩
    have c : I (((0 : Nat) : Int) - 1) < 0 := by decide
    have e1 : U0 = p := by rw [hU]; show p * 1 + b * q * 0 = p; omega
    have e2 : V0 = q := by rw [hV]; show p * 0 + q * 1 + a * q * 0 = q; omega
    subst e1 e2
    refine ⟨U0, V0, ?_, ?_, by omega, by omega⟩
    · rw [f_X3_putWhole_L24, if_pos c]
    · rw [f_X12_whole__L73, if_pos c]
  | succ k ih =>
    intro m m' s l p q U0 V0 hk hk26 hm hm' hs h0 hl hlt hU hV
    obtain ⟨m, rfl⟩ : ∃ i, m = i + 1 := ⟨m - 1, by omega⟩
    obtain ⟨m', rfl⟩ : ∃ i, m' = i + 1 := ⟨m' - 1, by omega⟩
    obtain ⟨g1, g2, -⟩ := hb.rc.2.2 k (by omega)
    obtain ⟨f1, f2, f3⟩ := (VB_wh hb).2.2 k (by omega)
    obtain ⟨p1, p2, -⟩ := hb.pw.2 k (by omega)
    have rR := J1000 g1
    have hbr := hb.bar s
    have hfr := fr_s a b k
    have hrc := (fr_rc (a := a) (b := b) k).1
    -- the digit
    have hN : wN a b s (k + 1) = br a b s * rc a b k + wN a b (if s = 0 then 1 else if 0 < b then 0 else 1) k := by
      rcases (show s = 0 ∨ s = 1 by omega) with rfl | rfl
      · unfold wN
        rw [if_pos rfl, if_pos rfl, if_neg (by decide), hfr, hrc]
      · unfold wN
        rw [if_neg (show ¬ (1 : Nat) = 0 by decide), if_neg (show ¬ (1 : Nat) = 0 by decide), hfr]
        by_cases z : 0 < b
        · rw [if_pos z, if_pos z, if_pos rfl, hrc]
        · rw [if_neg z, if_neg z, if_neg (by decide), hrc]
    have hNle : wN a b (if s = 0 then 1 else if 0 < b then 0 else 1) k ≤ rc a b k := by
      unfold wN; rw [← hrc]; split <;> omega
    have hq0 : 0 ≤ l / rc a b k := Int.ediv_nonneg h0 (by omega)
    have hq1 : l / rc a b k * rc a b k ≤ l := Int.ediv_mul_le l (by omega)
    have hq2 : l < (l / rc a b k + 1) * rc a b k := Int.lt_ediv_add_one_mul_self l (by omega)
    have hq3 : l / rc a b k < br a b s + 1 := Int.ediv_lt_of_lt_mul (by omega) (by rw [Int.add_mul, Int.one_mul]; omega)
    have hdl := dig_loop hb hbe (k := k) hs (by omega) (by omega) h0 hl (by omega) (l / rc a b k).toNat FU 0 (by omega) (by omega) (by rw [FU_eq]; omega)
    rw [Int.zero_mul, Int.sub_zero] at hdl
    have e1 : J l / J (rc a b k) = J (l / rc a b k) := by
      rw [J_div ⟨by omega, by omega⟩ rR (by omega), Int.tdiv_eq_ediv_of_nonneg h0]
    have c1 : ¬ I (k : Int) < 0 := by rw [I0, I_lt (r31n (by omega)) ⟨by omega, by omega⟩]; omega
    have c2 : ¬ J (rc a b k) ≤ 0 := by rw [J0, J_le rR ⟨by omega, by omega⟩]; omega
    have hps := pw_s a b k
    have hcl : (l / rc a b k).natAbs ≤ 50000 := by omega
    have b1 := bm hcl p1
    have b2 := bm hcl p2
    have hl2 : 0 ≤ l - l / rc a b k * rc a b k := by omega
    have hstep : ∀ s' : Nat, s' ≤ 1 → l - l / rc a b k * rc a b k < wN a b s' k → ∃ U V : Int, f_X3_putWhole_L24 pU pV rC m (J (l - l / rc a b k * rc a b k)) (J (U0 + l / rc a b k * (pw a b k).1)) (J (V0 + l / rc a b k * (pw a b k).2)) (I ((k : Int) - 1)) = some (J U, J V) ∧ f_X12_whole__L73 (I a) (I b) be m' (J (l - l / rc a b k * rc a b k)) (I (s' : Int)) (J (q * b + l / rc a b k)) (J (p + q * a)) (I ((k : Int) - 1)) = some (J U, J V) ∧ U.natAbs ≤ U0.natAbs + (k + 1) * 450000000000 ∧ V.natAbs ≤ V0.natAbs + (k + 1) * 450000000000 := by
      intro s' hs' hlt'
      have hmul : 0 ≤ l / rc a b k * rc a b k := Int.mul_nonneg hq0 (by omega)
      obtain ⟨U, V, y1, y2, y3, y4⟩ := ih m m' s' (l - l / rc a b k * rc a b k) (q * b + l / rc a b k) (p + q * a) (U0 + l / rc a b k * (pw a b k).1) (V0 + l / rc a b k * (pw a b k).2) (by omega) (by omega) (by omega) (by omega) hs' hl2 (by omega) hlt' (by rw [hU, hps]; grind) (by rw [hV, hps]; grind)
      refine ⟨U, V, y1, y2, ?_, ?_⟩
      · generalize l / rc a b k * (pw a b k).1 = x at *
        omega
      · generalize l / rc a b k * (pw a b k).2 = x at *
        omega
    rw [pm1, f_X3_putWhole_L24, if_neg c1, gdI (by omega) (by omega) (by omega), gdI (by omega) (by omega) (by omega), gdI (by omega) (by omega) (by omega), gdI (by omega) (by omega) (by omega), gdI (by omega) (by omega) (by omega), I_at rfl (by omega), hr _ (by omega), if_neg c2, gdL rR (by omega), (hp _ (by omega)).1, (hp _ (by omega)).2, e1, I_d, J_mul, J_mul, J_mul, J_sub, J_add, J_add]
    rw [f_X12_whole__L73, if_neg c1, bnd2_s (show f_X12_whole__L81 (I (s : Int)) (I (k : Int)) (I a) (I b) be FU (J l) 0 = _ from hdl), bnd1_s (s_bar hb (k := s) (by omega)).1, I_d, I_J ra, I_J rb, I_J (⟨by omega, by omega⟩ : R31 (l / rc a b k)), J_mul, J_mul, J_add, J_add]
    by_cases c : I (br a b s) ≤ I (l / rc a b k)
    · rw [if_pos c]
      rw [I_le ⟨by omega, by omega⟩ ⟨by omega, by omega⟩] at c
      have ec : l / rc a b k = br a b s := by omega
      have hlt2 : l - l / rc a b k * rc a b k < wN a b (if s = 0 then 1 else if 0 < b then 0 else 1) k := by rw [ec]; omega
      by_cases z : b ≤ 0
      · rw [if_pos (c0.mpr z)]
        rw [if_neg (by omega : ¬ 0 < b)] at hlt2
        have : (if s = 0 then 1 else 1) = 1 := by split <;> rfl
        rw [this] at hlt2
        exact hstep 1 (by omega) hlt2
      · rw [if_neg (fun y => z (c0.mp y))]
        rw [if_pos (by omega : 0 < b)] at hlt2
        have e : (if s = 0 then 1 else 0) = 1 - s := by split <;> omega
        rw [e] at hlt2
        have e2 : (1 : Int32) - I (s : Int) = I ((1 - s : Nat) : Int) := by rw [I1, I_sub]; congr 1; omega
        rw [e2]
        exact hstep (1 - s) (by omega) hlt2
    · rw [if_neg c]
      refine hstep 0 (by omega) ?_
      unfold wN
      rw [if_pos rfl, hrc]
      rw [Int.add_mul, Int.one_mul] at hq2
      omega
theorem s_min {m n : Nat} (hm : m < 2147483648) (hn : n < 2147483648) : f_J9_min_7cf53 (I (m : Int)) (I (n : Int)) = some (I ((min m n : Nat) : Int)) := by
  unfold f_J9_min_7cf53
  by_cases q : n < m
  · rw [if_pos ((In_lt hn hm).mpr q), show min m n = n by omega]
  · rw [if_neg (fun z => q ((In_lt hn hm).mp z)), show min m n = m by omega]
theorem m_whole {nt : Nat → Int32} {nu nv nd : Nat → Int64} {sa : Nat → Nat} {has us vs ds : Nat → Int32} (h : RN nt nu nv nd sa has us vs ds) (hs : SI sa) {a b : Int} (hb : VB a b) {pU pV rC : Nat → Int64} (hp : ∀ i, i < pcn a b → pU i = J (pw a b i).1 ∧ pV i = J (pw a b i).2) (hr : ∀ i, i < ccn a b → rC i = J (rc a b i)) (th : Int32) (tu tv td : Int64) (be : Nat → Int64) (s n : Int32) :
    ∃ (r : Int32) (nt' : Nat → Int32) (nu' nv' nd' : Nat → Int64) (tu' tv' td' : Int64) (has' us' vs' ds' : Nat → Int32) (be' : Nat → Int64), f_X11_whole (I (pcn a b : Int)) (I (ccn a b : Int)) pU pV rC nt nu nv nd sa s n = some (r, nt', nu', nv', nd') ∧ f_X12_whole_ th (I a) (I b) tu tv td has us vs ds be s n = some (r, 0, tu', tv', td', has', us', vs', ds', be') ∧ RN nt' nu' nv' nd' sa has' us' vs' ds' := by
  unfold f_X11_whole f_X12_whole_
  rcases slot_cases s with q | ⟨i, hi, rfl⟩
  · rw [bnd1_s (s_X11_isSlot_no q), if_pos (show (0 : Int32) = 0 from rfl)]
    refine ⟨0, nt, nu, nv, nd, tu, tv, td, has, us, vs, ds, be, rfl, ?_, h⟩
    by_cases c : s < 0
    · rw [if_pos c]
    · rw [if_neg c, if_pos (q.resolve_left c)]
  · rw [bnd1_s (s_X11_isSlot hi), if_neg (show ¬ (1 : Int32) = 0 by decide), if_neg (slot_no hi).1, if_neg (slot_no hi).2.1]
    by_cases c1 : n < 0
    · rw [if_pos c1, if_pos c1]
      exact ⟨0, nt, nu, nv, nd, tu, tv, td, has, us, vs, ds, be, rfl, rfl, h⟩
    by_cases c2 : n ≤ 50000
    · rw [if_neg c1, if_neg c1, if_pos c2, if_pos c2]
      obtain ⟨z, hz, rfl⟩ := i32_cases n
      rw [I0, I_lt hz ⟨by omega, by omega⟩] at c1
      rw [show (50000 : Int32) = I 50000 from rfl, I_le hz ⟨by omega, by omega⟩] at c2
      obtain ⟨n, rfl⟩ : ∃ n : Nat, z = (n : Int) := ⟨z.toNat, by omega⟩
      obtain ⟨m1, m2, m3⟩ := (VB_M hb)
      obtain ⟨hP, -⟩ := hb.pw
      obtain ⟨hC, -⟩ := hb.rc
      obtain ⟨be', x1, x2⟩ := s_count0 hb (n := 26) (by omega) be
      have x1 : f_X12_count0 (I a) (I b) be 26 = some be' := x1
      obtain ⟨t, t1, t2, t3⟩ := many_loop hb (n := n) (by omega) (fun i hi => (x2 i hi).1) (min 26 (wM a b - 1)) FU 0 (by omega) (by rw [FU_eq]; omega) (fun i hi => absurd hi (by omega))
      have t2 : f_X12_whole__L35 (I (n : Int)) be' FU 0 = some (I (t : Int)) := t2
      have hw2 := (VB_wh hb).2.1
      have et : I (t : Int) - 1 = I ((t : Int) - 1) := by rw [I1, I_sub]
      obtain ⟨U, V, y1, y2, y3, y4⟩ := wh_loop hb hp hr (fun i hi => (x2 i hi).1) t (FU - (wM a b - t)) FU 0 n 0 0 0 0 (by omega) (by omega) (by rw [FU_eq]; omega) (by rw [FU_eq]; omega) (by omega) (by omega) (by omega) (by unfold wN; rw [if_pos rfl, (fr_rc t).1]; exact t3) (by omega) (by omega)
      have sk := wh_skip hb hp hr (n := n) (t := t) (by omega) t3 (wM a b - t) (FU - (wM a b - t)) (by omega)
      rw [show FU - (wM a b - t) + (wM a b - t) = FU by rw [FU_eq]; omega, show t + (wM a b - t) = wM a b by omega] at sk
      have y1' : f_X3_putWhole_L24 pU pV rC FU (J (n : Int)) 0 0 (I ((wM a b : Int) - 1)) = some (J U, J V) := by rw [sk]; exact y1
      have y2' : f_X12_whole__L73 (I a) (I b) be' FU (J (n : Int)) 0 0 0 (I (t : Int) - 1) = some (J U, J V) := by rw [et]; exact y2
      have bU : B62 U := by unfold B62; omega
      have bV : B62 V := by unfold B62; omega
      have b1 : B62 1 := by unfold B62; omega
      have hset := (s_X12_set (tu := tu) (tv := tv) (td := td) bU bV b1 (by omega)).1 (by omega)
      obtain ⟨r, nt', nu', nv', nd', has', us', vs', ds', hr', z1, z2, z3⟩ := m_store h hs hi bU bV b1 (by omega)
      refine ⟨r, nt', nu', nv', nd', J (U.tdiv (g3 U V 1)), J (V.tdiv (g3 U V 1)), J (Int.tdiv 1 (g3 U V 1)), has', us', vs', ds', be', ?_, ?_, z3⟩
      · unfold f_X3_putWhole
        have em : I ((min (ccn a b) (pcn a b) : Nat) : Int) - 1 = I ((wM a b : Int) - 1) := by rw [I1, I_sub]; rfl
        rw [gdI (by omega) (by omega) (by omega), I_at rfl (by omega), bnd1_s (s_min (by omega) (by omega)), em, I_J hz, bnd2_s y1', bnd5_s (show f_X0_take nt nu nv nd (sa i) (J U) (J V) 1 = _ from z1), bnd5_s rfl]
      · rw [bnd1_s x1, bnd1_s t2, I_J hz, bnd2_s y2', bnd3_s (show f_X12_set tu tv td (J U) (J V) 1 = _ from hset), bnd5_s z2]
    · rw [if_neg c1, if_neg c1, if_neg c2, if_neg c2]
      exact ⟨0, nt, nu, nv, nd, tu, tv, td, has, us, vs, ds, be, rfl, rfl, h⟩
