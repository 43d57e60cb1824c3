/-! value(): the reference's sums; both downward -/
theorem plus_1 {u v p q : Int} (h1 : (u + p).natAbs ≤ 4000000000) (h2 : (v + q).natAbs ≤ 4000000000) : f_X12_plus (J u) (J v) (J 1) (J p) (J q) (J 1) = some (J (u + p), J (v + q), J 1) := by
  have hset := (s_X12_set (tu := J u) (tv := J v) (td := J 1) (u := u + p) (v := v + q) (d := 1) (by unfold B62; omega) (by unfold B62; omega) (by unfold B62; omega) (by omega)).1 (by omega)
  rw [g3_1, Int.tdiv_one, Int.tdiv_one, Int.tdiv_one] at hset
  unfold f_X12_plus
  rw [bnd3_eta]
  simp only [J_mul, J_add]
  rw [show u * 1 + p * 1 = u + p by omega, show v * 1 + q * 1 = v + q by omega, show (1 : Int) * 1 = 1 from rfl]
  exact hset
theorem ref_up {a b : Int} (hb : VB a b) {tp : Nat → Int32} {fr T TK : Nat} (hT : fr + T ≤ 200) (hTK : T ≤ TK) (hTK2 : TK ≤ 200) {w : Nat → Int} (hw : ∀ k, k < T → (w k).natAbs ≤ 128) (htp : ∀ k, k < T → tp (fr + k) = I (w (T - 1 - k))) (hok : okU a b (T - 1)) :
    ∀ (j m k : Nat) (tu tv td : Int64), k + j = T → ∃ tu' tv' td' : Int64, f_X12_summed_L18 (I (fr : Int)) (I (TK : Int)) (I ((T : Int) - 1)) (I a) (I b) tp (m + j) (I (k : Int)) tu tv td (J (sS w (fun i => (pw a b i).1) T - sS w (fun i => (pw a b i).1) (T - k))) (J (sS w (fun i => (pw a b i).2) T - sS w (fun i => (pw a b i).2) (T - k))) (J 1) = f_X12_summed_L18 (I (fr : Int)) (I (TK : Int)) (I ((T : Int) - 1)) (I a) (I b) tp m (I (T : Int)) tu' tv' td' (J (sS w (fun i => (pw a b i).1) T)) (J (sS w (fun i => (pw a b i).2) T)) (J 1) := by
  have q1 := sS_bd (w := w) (q := fun i => (pw a b i).1) (M := T) hw (fun i hi => (inB_p (hok i (by omega))).1)
  have q2 := sS_bd (w := w) (q := fun i => (pw a b i).2) (M := T) hw (fun i hi => (inB_p (hok i (by omega))).2)
  intro j
  induction j with
  | zero =>
    intro m k tu tv td hk
    have : k = T := by omega
    subst this
    refine ⟨tu, tv, td, ?_⟩
    rw [show k - k = 0 by omega, show sS w (fun i => (pw a b i).1) 0 = 0 from rfl, show sS w (fun i => (pw a b i).2) 0 = 0 from rfl, Int.sub_zero, Int.sub_zero]
    rfl
  | succ j ih =>
    intro m k tu tv td hk
    have c1 : ¬ I (TK : Int) ≤ I (k : Int) := fun z => by have := (In_le (by omega) (by omega)).mp z; omega
    have e1 : I ((T : Int) - 1) - I (k : Int) = I ((T - 1 - k : Nat) : Int) := by rw [I_sub]; congr 1; omega
    have e2 : I (fr : Int) + I (k : Int) = I ((fr + k : Nat) : Int) := by rw [I_add]; congr 1
    obtain ⟨p1, p2⟩ := inB_p (hok (T - 1 - k) (by omega))
    have hpo := (s_power_up hb (e := T - 1 - k) (by omega) tu tv td).1 (fun x hx => hok x (by omega))
    have rw_ := hw (T - 1 - k) (by omega)
    have k1 := bm rw_ p1
    have k2 := bm rw_ p2
    have g1 := q1 T (by omega)
    have g2 := q1 (T - k) (by omega)
    have g3' := q2 T (by omega)
    have g4 := q2 (T - k) (by omega)
    have s1 : sS w (fun i => (pw a b i).1) (T - k) = sS w (fun i => (pw a b i).1) (T - (k + 1)) + w (T - 1 - k) * (pw a b (T - 1 - k)).1 := by
      rw [show T - k = T - 1 - k + 1 by omega, show T - (k + 1) = T - 1 - k by omega]; rfl
    have s2 : sS w (fun i => (pw a b i).2) (T - k) = sS w (fun i => (pw a b i).2) (T - (k + 1)) + w (T - 1 - k) * (pw a b (T - 1 - k)).2 := by
      rw [show T - k = T - 1 - k + 1 by omega, show T - (k + 1) = T - 1 - k by omega]; rfl
    have m1 : (pw a b (T - 1 - k)).1 * w (T - 1 - k) = w (T - 1 - k) * (pw a b (T - 1 - k)).1 := Int.mul_comm _ _
    have m2 : (pw a b (T - 1 - k)).2 * w (T - 1 - k) = w (T - 1 - k) * (pw a b (T - 1 - k)).2 := Int.mul_comm _ _
    have hpl := plus_1 (u := (pw a b (T - 1 - k)).1 * w (T - 1 - k)) (v := (pw a b (T - 1 - k)).2 * w (T - 1 - k)) (p := sS w (fun i => (pw a b i).1) T - sS w (fun i => (pw a b i).1) (T - k)) (q := sS w (fun i => (pw a b i).2) T - sS w (fun i => (pw a b i).2) (T - k)) (by omega) (by omega)
    have f1 : (pw a b (T - 1 - k)).1 * w (T - 1 - k) + (sS w (fun i => (pw a b i).1) T - sS w (fun i => (pw a b i).1) (T - k)) = sS w (fun i => (pw a b i).1) T - sS w (fun i => (pw a b i).1) (T - (k + 1)) := by omega
    have f2 : (pw a b (T - 1 - k)).2 * w (T - 1 - k) + (sS w (fun i => (pw a b i).2) T - sS w (fun i => (pw a b i).2) (T - k)) = sS w (fun i => (pw a b i).2) T - sS w (fun i => (pw a b i).2) (T - (k + 1)) := by omega
    rw [f1, f2] at hpl
    obtain ⟨tu', tv', td', x⟩ := ih m (k + 1) (J (sS w (fun i => (pw a b i).1) T - sS w (fun i => (pw a b i).1) (T - (k + 1)))) (J (sS w (fun i => (pw a b i).2) T - sS w (fun i => (pw a b i).2) (T - (k + 1)))) (J 1) (by omega)
    refine ⟨tu', tv', td', ?_⟩
    rw [← x, show m + (j + 1) = (m + j) + 1 by omega, f_X12_summed_L18, if_neg c1, e1, bnd4_s hpo, if_neg (show ¬ (1 : Int32) = 0 by decide), e2, gdI (by omega) (by omega) (by omega), I_at rfl (by omega), htp k (by omega), I_J ⟨by omega, by omega⟩, J_mul, J_mul, bnd3_s hpl, I_s]
/-- a sum in its least terms -/
def SF (A B D s1 s2 s3 : Int) : Prop := s1 = A.tdiv (g3 A B D) ∧ s2 = B.tdiv (g3 A B D) ∧ s3 = D.tdiv (g3 A B D)
theorem SF_p {A B D s1 s2 s3 : Int} (h : SF A B D s1 s2 s3) (hD : 1 ≤ D) : 1 ≤ s3 ∧ s3 ≤ D ∧ s1.natAbs ≤ A.natAbs ∧ s2.natAbs ≤ B.natAbs ∧ g3 s1 s2 s3 = 1 ∧ s1 * D = A * s3 ∧ s2 * D = B * s3 := by
  obtain ⟨rfl, rfl, rfl⟩ := h
  have h3 := tdiv_pos (d := D) (by omega) (g3_pos (u := A) (v := B) (by omega)) (g3_d A B D)
  have h4 := tdiv_abs D (g3 A B D)
  have hs := nf_sq (u := A) (v := B) (d := D) (by omega)
  exact ⟨h3, by omega, tdiv_abs _ _, tdiv_abs _ _, g3_one (by omega), hs.1, hs.2⟩
theorem dn_inB {a b : Int} (hb : VB a b) {k : Nat} (h : inB (dn a b k).1 (dn a b k).2.1 (dn a b k).2.2) : (dn a b k).1.natAbs ≤ 65536 ∧ (dn a b k).2.1.natAbs ≤ 65536 ∧ 1 ≤ (dn a b k).2.2 ∧ (dn a b k).2.2 ≤ 1000 := by
  have := (dn_nf hb k).1
  unfold inB at h; omega
/-- one digit more behind the point, in both -/
theorem dn_add {a b : Int} (hb : VB a b) {k : Nat} (hk : inB (dn a b k).1 (dn a b k).2.1 (dn a b k).2.2) (hk1 : inB (dn a b (k + 1)).1 (dn a b (k + 1)).2.1 (dn a b (k + 1)).2.2) {A B s1 s2 s3 t : Int} {c : Nat} (hc : c ≤ 200) (hS : SF A B (dn a b k).2.2 s1 s2 s3) (hA : A.natAbs ≤ c * 8388608 * (dn a b k).2.2.natAbs) (hB : B.natAbs ≤ c * 8388608 * (dn a b k).2.2.natAbs) (ht : t.natAbs ≤ 128) {nu nv nd : Nat → Int64} {x : Nat} (hAt : At nu nv nd x (dn a b (k + 1)).1 (dn a b (k + 1)).2.1 (dn a b (k + 1)).2.2) :
    ∃ A' B' r1 r2 r3 : Int, SF A' B' (dn a b (k + 1)).2.2 r1 r2 r3 ∧ A'.natAbs ≤ (c + 1) * 8388608 * (dn a b (k + 1)).2.2.natAbs ∧ B'.natAbs ≤ (c + 1) * 8388608 * (dn a b (k + 1)).2.2.natAbs ∧ f_X6_add (J s1) (J s2) (J s3) nu nv nd (I t) x = some (J r1, J r2, J r3) ∧ f_X12_plus (J (dn a b (k + 1)).1 * J t) (J (dn a b (k + 1)).2.1 * J t) (J (dn a b (k + 1)).2.2) (J s1) (J s2) (J s3) = some (J r1, J r2, J r3) := by
  obtain ⟨-, -, d1, d2⟩ := dn_inB hb hk
  obtain ⟨u1, u2, e1, e2⟩ := dn_inB hb hk1
  obtain ⟨e, he⟩ := dn_dvd hb k
  obtain ⟨p1, p2, p3, p4, p5, p6, p7⟩ := SF_p hS d1
  generalize (dn a b k).2.2 = D at *
  generalize hD' : (dn a b (k + 1)).2.2 = D' at *
  generalize (dn a b (k + 1)).1 = u at *
  generalize (dn a b (k + 1)).2.1 = v at *
  have he1 : 1 ≤ e := by
    rcases (show 1 ≤ e ∨ e ≤ 0 by omega) with z | z
    · exact z
    · have := Int.mul_nonpos_of_nonneg_of_nonpos (show 0 ≤ D by omega) z
      omega
  have hDa : D'.natAbs = D.natAbs * e.natAbs := by rw [he, Int.natAbs_mul]
  have hAb : A.natAbs ≤ 1677721600000 := by
    have : c * 8388608 * D.natAbs ≤ 200 * 8388608 * 1000 := Nat.mul_le_mul (Nat.mul_le_mul_right _ hc) (by omega)
    omega
  have hBb : B.natAbs ≤ 1677721600000 := by
    have : c * 8388608 * D.natAbs ≤ 200 * 8388608 * 1000 := Nat.mul_le_mul (Nat.mul_le_mul_right _ hc) (by omega)
    omega
  have k1 := bm ht u1
  have k2 := bm ht u2
  have k3 := bm k1 (show s3.natAbs ≤ 1000 by omega)
  have k4 := bm k2 (show s3.natAbs ≤ 1000 by omega)
  have k5 := bm (show s1.natAbs ≤ 1677721600000 by omega) (show D'.natAbs ≤ 1000 by omega)
  have k6 := bm (show s2.natAbs ≤ 1677721600000 by omega) (show D'.natAbs ≤ 1000 by omega)
  have k7 := bm (show s3.natAbs ≤ 1000 by omega) (show D'.natAbs ≤ 1000 by omega)
  have kp : 0 < s3 * D' := Int.mul_pos (by omega) (by omega)
  have b1 : B62 (s1 * D' + t * u * s3) := by unfold B62; omega
  have b2 : B62 (s2 * D' + t * v * s3) := by unfold B62; omega
  have b3 : B62 (s3 * D') := by unfold B62; omega
  have hadd := s_add hAt ht b1 b2 b3 kp
  have q1 : (s1 * D' + t * u * s3) * D' = (A * e + t * u) * (s3 * D') := by
    rw [he, show s1 * (D * e) + t * u * s3 = s1 * D * e + t * u * s3 by grind, p6]; grind
  have q2 : (s2 * D' + t * v * s3) * D' = (B * e + t * v) * (s3 * D') := by
    rw [he, show s2 * (D * e) + t * v * s3 = s2 * D * e + t * v * s3 by grind, p7]; grind
  obtain ⟨n1, n2, n3⟩ := nf_eq kp (show 0 < D' by omega) q1 q2
  rw [n1, n2, n3] at hadd
  have hAe : (A * e).natAbs ≤ c * 8388608 * D'.natAbs := by
    rw [Int.natAbs_mul, hDa, ← Nat.mul_assoc]; exact Nat.mul_le_mul_right _ hA
  have hBe : (B * e).natAbs ≤ c * 8388608 * D'.natAbs := by
    rw [Int.natAbs_mul, hDa, ← Nat.mul_assoc]; exact Nat.mul_le_mul_right _ hB
  have hst : (c + 1) * 8388608 * D'.natAbs = c * 8388608 * D'.natAbs + 8388608 * D'.natAbs := by grind
  refine ⟨A * e + t * u, B * e + t * v, _, _, _, ⟨rfl, rfl, rfl⟩, ?_, ?_, hadd, ?_⟩
  · omega
  · omega
  · have hset := (s_X12_set (tu := J (u * t)) (tv := J (v * t)) (td := J D') b1 b2 b3 (by omega)).1 kp
    rw [n1, n2, n3] at hset
    unfold f_X12_plus
    rw [bnd3_eta]
    simp only [J_mul, J_add]
    rw [show u * t * s3 + s1 * D' = s1 * D' + t * u * s3 by grind, show v * t * s3 + s2 * D' = s2 * D' + t * v * s3 by grind, show D' * s3 = s3 * D' from Int.mul_comm _ _]
    exact hset
theorem dn_loop {a b : Int} (hb : VB a b) {n : Nat} {by_ tp : Nat → Int32} {ix hp fr T K : Nat} (hK : T + K ≤ 200) (hfr : fr + T + K ≤ 200) {w : Nat → Int} (hw : ∀ k, k < K → (w k).natAbs ≤ 128) (hat : ∀ k, k < K → f_X7_at (I (n : Int)) by_ (I (ix : Int) + I (k : Int)) = some (I (w k))) (htp : ∀ k, k < K → tp (fr + T + k) = I (w k)) :
    ∀ (j m m' k : Nat) (A B s1 s2 s3 : Int) (c : Nat) (nt : Nat → Int32) (nu nv nd : Nat → Int64) (tu tv td : Int64), k + j = K → j + 1 ≤ m → j + 1 ≤ m' → c + j ≤ 200 → okD a b k → At nu nv nd hp (dn a b k).1 (dn a b k).2.1 (dn a b k).2.2 → SF A B (dn a b k).2.2 s1 s2 s3 → A.natAbs ≤ c * 8388608 * (dn a b k).2.2.natAbs → B.natAbs ≤ c * 8388608 * (dn a b k).2.2.natAbs →
    (okD a b K → ∃ (A' B' r1 r2 r3 : Int) (nt' : Nat → Int32) (nu' nv' nd' : Nat → Int64) (tu' tv' td' : Int64), f_X5_addDownward_L14 (I (ix : Int)) (I (K : Int)) (I a) (I b) (I (n : Int)) by_ hp m (I (k : Int)) (J s1) (J s2) (J s3) nt nu nv nd = some (1, J r1, J r2, J r3, nt', nu', nv', nd') ∧ f_X12_summed_L18 (I (fr : Int)) (I ((T + K : Nat) : Int)) (I ((T : Int) - 1)) (I a) (I b) tp m' (I ((T + k : Nat) : Int)) tu tv td (J s1) (J s2) (J s3) = some (1, tu', tv', td', J r1, J r2, J r3) ∧ SF A' B' (dn a b K).2.2 r1 r2 r3 ∧ A'.natAbs ≤ 1677721600000 ∧ B'.natAbs ≤ 1677721600000 ∧ U1 hp nt nu nv nd nt' nu' nv' nd' ∧ At nu' nv' nd' hp (dn a b K).1 (dn a b K).2.1 (dn a b K).2.2) ∧
    (¬ okD a b K → ∃ (su sv sd : Int64) (nt' : Nat → Int32) (nu' nv' nd' : Nat → Int64) (tu' tv' td' ru rv rd : Int64), f_X5_addDownward_L14 (I (ix : Int)) (I (K : Int)) (I a) (I b) (I (n : Int)) by_ hp m (I (k : Int)) (J s1) (J s2) (J s3) nt nu nv nd = some (0, su, sv, sd, nt', nu', nv', nd') ∧ f_X12_summed_L18 (I (fr : Int)) (I ((T + K : Nat) : Int)) (I ((T : Int) - 1)) (I a) (I b) tp m' (I ((T + k : Nat) : Int)) tu tv td (J s1) (J s2) (J s3) = some (0, tu', tv', td', ru, rv, rd) ∧ U1 hp nt nu nv nd nt' nu' nv' nd') := by
  intro j
  induction j with
  | zero =>
    intro m m' k A B s1 s2 s3 c nt nu nv nd tu tv td hk hm hm' hc hok hAt hS hA hB
    obtain ⟨m, rfl⟩ : ∃ i, m = i + 1 := ⟨m - 1, by omega⟩
    obtain ⟨m', rfl⟩ : ∃ i, m' = i + 1 := ⟨m' - 1, by omega⟩
    have : k = K := by omega
    subst this
    refine ⟨fun _ => ?_, fun h => absurd hok h⟩
    obtain ⟨-, -, d1, d2⟩ := dn_inB hb (hok k (by omega))
    have hb1 : c * 8388608 * (dn a b k).2.2.natAbs ≤ 200 * 8388608 * 1000 := Nat.mul_le_mul (Nat.mul_le_mul_right _ (by omega)) (by omega)
    rw [f_X5_addDownward_L14, if_pos (Int32.le_refl _), f_X12_summed_L18, if_pos (Int32.le_refl _)]
    exact ⟨A, B, s1, s2, s3, nt, nu, nv, nd, tu, tv, td, rfl, rfl, hS, by omega, by omega, U1_id _ _ _ _ _, hAt⟩
  | succ j ih =>
    intro m m' k A B s1 s2 s3 c nt nu nv nd tu tv td hk hm hm' hc hok hAt hS hA hB
    obtain ⟨m, rfl⟩ : ∃ i, m = i + 1 := ⟨m - 1, by omega⟩
    obtain ⟨m', rfl⟩ : ∃ i, m' = i + 1 := ⟨m' - 1, by omega⟩
    have c1 : ¬ I (K : Int) ≤ I (k : Int) := fun z => by have := (In_le (by omega) (by omega)).mp z; omega
    have c2 : ¬ I ((T + K : Nat) : Int) ≤ I ((T + k : Nat) : Int) := fun z => by have := (In_le (by omega) (by omega)).mp z; omega
    have e1 : I ((T : Int) - 1) - I ((T + k : Nat) : Int) = I (-((k + 1 : Nat) : Int)) := by rw [I_sub]; congr 1; omega
    have e2 : I (fr : Int) + I ((T + k : Nat) : Int) = I ((fr + T + k : Nat) : Int) := by rw [I_add]; congr 1; omega
    have e3 : I ((T + k : Nat) : Int) + 1 = I ((T + (k + 1) : Nat) : Int) := by rw [I_s]; rfl
    have hdx := s_divX hb (nt := nt) hAt.1 hAt.2.1 hAt.2.2 (hok k (by omega))
    have hpo := s_power_dn hb (e := k + 1) (by omega) tu tv td
    have hok1 : inB (dn a b (k + 1)).1 (dn a b (k + 1)).2.1 (dn a b (k + 1)).2.2 → okD a b (k + 1) := fun q x hx => by
      by_cases z : x = k + 1
      · subst z; exact q
      · exact hok x (by omega)
    rcases inB_dec (dn a b (k + 1)).1 (dn a b (k + 1)).2.1 (dn a b (k + 1)).2.2 with q | q
    · have hwk := hw k (by omega)
      obtain ⟨A', B', r1, r2, r3, a1, a2, a3, a4, a5⟩ := dn_add hb (hok k (by omega)) q (c := c) (by omega) hS hA hB hwk (At_put nu nv nd hp (dn a b (k + 1)).1 (dn a b (k + 1)).2.1 (dn a b (k + 1)).2.2)
      obtain ⟨x1, x2⟩ := ih m m' (k + 1) A' B' r1 r2 r3 (c + 1) (upd nt hp 1) _ _ _ (J r1) (J r2) (J r3) (by omega) (by omega) (by omega) (by omega) (hok1 q) (At_put nu nv nd hp _ _ _) a1 a2 a3
      rw [f_X5_addDownward_L14, if_neg c1, bnd5_s (hdx.1 q), if_neg (show ¬ (1 : Int32) = 0 by decide), bnd1_s (hat k (by omega)), bnd3_s a4, I_s]
      rw [f_X12_summed_L18, if_neg c2, e1, bnd4_s (hpo.1 (hok1 q)), if_neg (show ¬ (1 : Int32) = 0 by decide), e2, gdI (by omega) (by omega) (by omega), I_at rfl (by omega), htp k (by omega), I_J ⟨by omega, by omega⟩, bnd3_s a5, e3]
      constructor
      · intro h
        obtain ⟨A2, B2, q1, q2, q3, nt', nu', nv', nd', tu', tv', td', y1, y2, y3, y4, y5, y6, y7⟩ := x1 h
        exact ⟨A2, B2, q1, q2, q3, nt', nu', nv', nd', tu', tv', td', y1, y2, y3, y4, y5, U1_tr (U1_put _ _ _ _ _ _ _ _ _) y6, y7⟩
      · intro h
        obtain ⟨su, sv, sd, nt', nu', nv', nd', tu', tv', td', ru, rv, rd, y1, y2, y3⟩ := x2 h
        exact ⟨su, sv, sd, nt', nu', nv', nd', tu', tv', td', ru, rv, rd, y1, y2, U1_tr (U1_put _ _ _ _ _ _ _ _ _) y3⟩
    · refine ⟨fun h => absurd (h (k + 1) (by omega)) q, fun _ => ?_⟩
      obtain ⟨pu, pv, pd, hp0⟩ := hpo.2 (fun h => q (h (k + 1) (by omega)))
      rw [f_X5_addDownward_L14, if_neg c1, bnd5_s (hdx.2 q), if_pos rfl, f_X12_summed_L18, if_neg c2, e1, bnd4_s hp0, if_pos rfl]
      exact ⟨_, _, _, nt, nu, nv, nd, _, _, _, _, _, _, rfl, rfl, U1_id _ _ _ _ _⟩
