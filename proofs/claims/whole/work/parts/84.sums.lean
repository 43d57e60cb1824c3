/-! value(): the class's sums upward -/
def U1 (x : Nat) (nt : Nat → Int32) (nu nv nd : Nat → Int64) (nt' : Nat → Int32) (nu' nv' nd' : Nat → Int64) : Prop := ∀ y, y ≠ x → nt' y = nt y ∧ nu' y = nu y ∧ nv' y = nv y ∧ nd' y = nd y
def At (nu nv nd : Nat → Int64) (x : Nat) (u v d : Int) : Prop := nu x = J u ∧ nv x = J v ∧ nd x = J d
theorem U1_id (x : Nat) (nt : Nat → Int32) (nu nv nd : Nat → Int64) : U1 x nt nu nv nd nt nu nv nd := fun _ _ => ⟨rfl, rfl, rfl, rfl⟩
theorem U1_put (x : Nat) (nt : Nat → Int32) (nu nv nd : Nat → Int64) (p : Int32) (q r s : Int64) : U1 x nt nu nv nd (upd nt x p) (vp_updL nu x q) (vp_updL nv x r) (vp_updL nd x s) := fun y hy => by rw [pk_un hy, pk_uLn hy, pk_uLn hy, pk_uLn hy]; exact ⟨rfl, rfl, rfl, rfl⟩
theorem U1_tr {x : Nat} {nt : Nat → Int32} {nu nv nd : Nat → Int64} {nt' : Nat → Int32} {nu' nv' nd' : Nat → Int64} {nt2 : Nat → Int32} {nu2 nv2 nd2 : Nat → Int64} (h1 : U1 x nt nu nv nd nt' nu' nv' nd') (h2 : U1 x nt' nu' nv' nd' nt2 nu2 nv2 nd2) : U1 x nt nu nv nd nt2 nu2 nv2 nd2 := fun y hy => by
  obtain ⟨a1, a2, a3, a4⟩ := h1 y hy
  obtain ⟨b1, b2, b3, b4⟩ := h2 y hy
  exact ⟨b1.trans a1, b2.trans a2, b3.trans a3, b4.trans a4⟩
theorem At_put (nu nv nd : Nat → Int64) (x : Nat) (u v d : Int) : At (vp_updL nu x (J u)) (vp_updL nv x (J v)) (vp_updL nd x (J d)) x u v d := ⟨pk_uLs, pk_uLs, pk_uLs⟩
theorem At_U1 {x y : Nat} {nt : Nat → Int32} {nu nv nd : Nat → Int64} {nt' : Nat → Int32} {nu' nv' nd' : Nat → Int64} {u v d : Int} (h : At nu nv nd y u v d) (hU : U1 x nt nu nv nd nt' nu' nv' nd') (hne : y ≠ x) : At nu' nv' nd' y u v d := by
  obtain ⟨-, a2, a3, a4⟩ := hU y hne
  exact ⟨a2.trans h.1, a3.trans h.2.1, a4.trans h.2.2⟩
theorem s_add {nu nv nd : Nat → Int64} {x : Nat} {u v d su sv sd t : Int} (hA : At nu nv nd x u v d) (ht : t.natAbs ≤ 128) (b1 : B62 (su * d + t * u * sd)) (b2 : B62 (sv * d + t * v * sd)) (b3 : B62 (sd * d)) (hp : 0 < sd * d) :
    f_X6_add (J su) (J sv) (J sd) nu nv nd (I t) x = some (J ((su * d + t * u * sd).tdiv (g3 (su * d + t * u * sd) (sv * d + t * v * sd) (sd * d))), J ((sv * d + t * v * sd).tdiv (g3 (su * d + t * u * sd) (sv * d + t * v * sd) (sd * d))), J ((sd * d).tdiv (g3 (su * d + t * u * sd) (sv * d + t * v * sd) (sd * d)))) := by
  obtain ⟨h1, h2, h3⟩ := hA
  have rt : R31 t := ⟨by omega, by omega⟩
  have bg := b1.g b2
  have bG : B62 (g3 (su * d + t * u * sd) (sv * d + t * v * sd) (sd * d)) := bg.g b3
  have hG : 0 < g3 (su * d + t * u * sd) (sv * d + t * v * sd) (sd * d) := g3_pos (by omega)
  unfold f_X6_add
  rw [h1, h2, h3, I_J rt]
  simp only [J_mul, J_add]
  rw [bnd1_s (s_X11_common b1.r b2.r b1.n b2.n), bnd1_s (s_X11_common bg.r b3.r bg.n b3.n)]
  rw [show gz (gz (su * d + t * u * sd) (sv * d + t * v * sd)) (sd * d) = g3 (su * d + t * u * sd) (sv * d + t * v * sd) (sd * d) from rfl]
  have c : ¬ J (g3 (su * d + t * u * sd) (sv * d + t * v * sd) (sd * d)) ≤ 0 := by rw [J0, J_le bG.r ⟨by omega, by omega⟩]; omega
  rw [if_neg c, gdL bG.r (by omega), gdL bG.r (by omega), gdL bG.r (by omega), J_div b1.r bG.r b1.n, J_div b2.r bG.r b2.n, J_div b3.r bG.r b3.n]
def sS (w q : Nat → Int) : Nat → Int
  | 0 => 0
  | k + 1 => sS w q k + w k * q k
theorem sS_bd {w q : Nat → Int} {M : Nat} (hw : ∀ k, k < M → (w k).natAbs ≤ 128) (hq : ∀ k, k < M → (q k).natAbs ≤ 65536) : ∀ k, k ≤ M → (sS w q k).natAbs ≤ k * 8388608 := by
  intro k
  induction k with
  | zero => intro _; exact Nat.le_refl 0
  | succ k ih =>
    intro hk
    have h1 := ih (by omega)
    have h2 := bm (hw k (by omega)) (hq k (by omega))
    show (sS w q k + w k * q k).natAbs ≤ (k + 1) * 8388608
    omega
theorem inB_p {a b : Int} {k : Nat} (h : inB (pw a b k).1 (pw a b k).2 1) : (pw a b k).1.natAbs ≤ 65536 ∧ (pw a b k).2.natAbs ≤ 65536 := by
  unfold inB at h; omega
theorem add_1 {nu nv nd : Nat → Int64} {x : Nat} {u v su sv t : Int} (hA : At nu nv nd x u v 1) (ht : t.natAbs ≤ 128) (hu : u.natAbs ≤ 65536) (hv : v.natAbs ≤ 65536) (b1 : su.natAbs ≤ 2000000000) (b2 : sv.natAbs ≤ 2000000000) : f_X6_add (J su) (J sv) (J 1) nu nv nd (I t) x = some (J (su + t * u), J (sv + t * v), J 1) := by
  have k1 := bm ht hu
  have k2 := bm ht hv
  have e1 : su * 1 + t * u * 1 = su + t * u := by omega
  have e2 : sv * 1 + t * v * 1 = sv + t * v := by omega
  have h := s_add (su := su) (sv := sv) (sd := 1) hA ht (by rw [e1]; unfold B62; omega) (by rw [e2]; unfold B62; omega) (by unfold B62; omega) (by omega)
  rw [e1, e2, show (1 : Int) * 1 = 1 from rfl, g3_1, Int.tdiv_one, Int.tdiv_one] at h
  exact h
theorem up_loop {a b : Int} (hb : VB a b) {n : Nat} {by_ : Nat → Int32} {ix : Int} {hp M : Nat} (hM : M ≤ 200) {w : Nat → Int} (hw : ∀ k, k < M → (w k).natAbs ≤ 128) (hat : ∀ k, k < M → f_X7_at (I (n : Int)) by_ (I ix - I (k : Int)) = some (I (w k))) :
    ∀ (j m k : Nat) (nt : Nat → Int32) (nu nv nd : Nat → Int64), k + j = M → 1 ≤ k → j + 1 ≤ m → okU a b (k - 1) → At nu nv nd hp (pw a b (k - 1)).1 (pw a b (k - 1)).2 1 →
    (okU a b (M - 1) → ∃ (nt' : Nat → Int32) (nu' nv' nd' : Nat → Int64), f_X5_addUpward_L14 (I ix) (I (M : Int)) (I a) (I b) (I (n : Int)) by_ hp m (I (k : Int)) (J (sS w (fun i => (pw a b i).1) k)) (J (sS w (fun i => (pw a b i).2) k)) (J 1) nt nu nv nd = some (1, J (sS w (fun i => (pw a b i).1) M), J (sS w (fun i => (pw a b i).2) M), J 1, nt', nu', nv', nd') ∧ U1 hp nt nu nv nd nt' nu' nv' nd' ∧ At nu' nv' nd' hp (pw a b (M - 1)).1 (pw a b (M - 1)).2 1) ∧
    (¬ okU a b (M - 1) → ∃ (su sv sd : Int64) (nt' : Nat → Int32) (nu' nv' nd' : Nat → Int64), f_X5_addUpward_L14 (I ix) (I (M : Int)) (I a) (I b) (I (n : Int)) by_ hp m (I (k : Int)) (J (sS w (fun i => (pw a b i).1) k)) (J (sS w (fun i => (pw a b i).2) k)) (J 1) nt nu nv nd = some (0, su, sv, sd, nt', nu', nv', nd') ∧ U1 hp nt nu nv nd nt' nu' nv' nd') := by
  intro j
  induction j with
  | zero =>
    intro m k nt nu nv nd hk h1 hm hok hA
    obtain ⟨m, rfl⟩ : ∃ i, m = i + 1 := ⟨m - 1, by omega⟩
    have : k = M := by omega
    subst this
    refine ⟨fun _ => ?_, fun h => absurd hok h⟩
    rw [f_X5_addUpward_L14, if_pos (Int32.le_refl _)]
    exact ⟨nt, nu, nv, nd, rfl, U1_id _ _ _ _ _, hA⟩
  | succ j ih =>
    intro m k nt nu nv nd hk h1 hm hok hA
    obtain ⟨m, rfl⟩ : ∃ i, m = i + 1 := ⟨m - 1, by omega⟩
    have c1 : ¬ I (M : Int) ≤ I (k : Int) := fun z => by have := (In_le (by omega) (by omega)).mp z; omega
    have c2 : ¬ I (k : Int) ≤ 0 := by rw [I0, I_le (r31n (by omega)) ⟨by omega, by omega⟩]; omega
    have hmx := s_mulX hb (nt := nt) hA.1 hA.2.1 hA.2.2 (hok (k - 1) (by omega))
    rw [show k - 1 + 1 = k by omega] at hmx
    rcases inB_dec (pw a b k).1 (pw a b k).2 1 with q | q
    · have hok' : okU a b k := fun x hx => by
        by_cases z : x = k
        · subst z; exact q
        · exact hok x (by omega)
      obtain ⟨p1, p2⟩ := inB_p q
      have s1 := sS_bd (w := w) (q := fun i => (pw a b i).1) (M := k) (fun i hi => hw i (by omega)) (fun i hi => (inB_p (hok' i (by omega))).1) k (by omega)
      have s2 := sS_bd (w := w) (q := fun i => (pw a b i).2) (M := k) (fun i hi => hw i (by omega)) (fun i hi => (inB_p (hok' i (by omega))).2) k (by omega)
      have ha := add_1 (su := sS w (fun i => (pw a b i).1) k) (sv := sS w (fun i => (pw a b i).2) k) (At_put nu nv nd hp (pw a b k).1 (pw a b k).2 1) (hw k (by omega)) p1 p2 (by omega) (by omega)
      obtain ⟨x1, x2⟩ := ih m (k + 1) (upd nt hp 1) _ _ _ (by omega) (by omega) (by omega) (by rw [show k + 1 - 1 = k by omega]; exact hok') (by rw [show k + 1 - 1 = k by omega]; exact At_put nu nv nd hp (pw a b k).1 (pw a b k).2 1)
      rw [f_X5_addUpward_L14, if_neg c1, if_neg c2, bnd5_s (hmx.1 q), if_neg (show ¬ (1 : Int32) = 0 by decide), bnd1_s (hat k (by omega)), bnd3_s ha, I_s]
      constructor
      · intro h
        obtain ⟨nt', nu', nv', nd', y1, y2, y3⟩ := x1 h
        exact ⟨nt', nu', nv', nd', y1, U1_tr (U1_put _ _ _ _ _ _ _ _ _) y2, y3⟩
      · intro h
        obtain ⟨su, sv, sd, nt', nu', nv', nd', y1, y2⟩ := x2 h
        exact ⟨su, sv, sd, nt', nu', nv', nd', y1, U1_tr (U1_put _ _ _ _ _ _ _ _ _) y2⟩
    · refine ⟨fun h => absurd (h k (by omega)) q, fun _ => ?_⟩
      rw [f_X5_addUpward_L14, if_neg c1, if_neg c2, bnd5_s (hmx.2 q), if_pos rfl]
      exact ⟨_, _, _, nt, nu, nv, nd, rfl, U1_id _ _ _ _ _⟩
theorem take_101 (nt : Nat → Int32) (nu nv nd : Nat → Int64) (x : Nat) : f_X0_take nt nu nv nd x 1 0 1 = some (1, upd nt x 1, vp_updL nu x (J 1), vp_updL nv x (J 0), vp_updL nd x (J 1)) := (take_nb (u := 1) (v := 0) (d := 1) (g3_1 1 0) (by omega) (by unfold B62; omega) (by unfold B62; omega) (by unfold B62; omega)).1 (by unfold inB; omega)
theorem s_addUp {a b : Int} (hb : VB a b) {n : Nat} {by_ : Nat → Int32} {ix : Int} {hp M : Nat} (hM : M ≤ 200) {w : Nat → Int} (hw : ∀ k, k < M → (w k).natAbs ≤ 128) (hat : ∀ k, k < M → f_X7_at (I (n : Int)) by_ (I ix - I (k : Int)) = some (I (w k))) (nt : Nat → Int32) (nu nv nd : Nat → Int64) :
    (okU a b (M - 1) → ∃ (nt' : Nat → Int32) (nu' nv' nd' : Nat → Int64), f_X5_addUpward 0 0 1 (I a) (I b) (I (n : Int)) by_ nt nu nv nd hp (I ix) (I (M : Int)) = some (1, J (sS w (fun i => (pw a b i).1) M), J (sS w (fun i => (pw a b i).2) M), J 1, nt', nu', nv', nd') ∧ U1 hp nt nu nv nd nt' nu' nv' nd' ∧ At nu' nv' nd' hp (pw a b (M - 1)).1 (pw a b (M - 1)).2 1) ∧
    (¬ okU a b (M - 1) → ∃ (su sv sd : Int64) (nt' : Nat → Int32) (nu' nv' nd' : Nat → Int64), f_X5_addUpward 0 0 1 (I a) (I b) (I (n : Int)) by_ nt nu nv nd hp (I ix) (I (M : Int)) = some (0, su, sv, sd, nt', nu', nv', nd') ∧ U1 hp nt nu nv nd nt' nu' nv' nd') := by
  have hF : FU = (FU - 1) + 1 := by rw [FU_eq]
  unfold f_X5_addUpward
  rw [bnd5_s (take_101 nt nu nv nd hp)]
  have hA0 := At_put nu nv nd hp 1 0 1
  rcases Nat.eq_zero_or_pos M with z | z
  · subst z
    refine ⟨fun _ => ?_, fun h => absurd (ok0 a b).1 h⟩
    have e : f_X5_addUpward_L14 (I ix) (I ((0 : Nat) : Int)) (I a) (I b) (I (n : Int)) by_ hp FU 0 0 0 1 (upd nt hp 1) (vp_updL nu hp (J 1)) (vp_updL nv hp (J 0)) (vp_updL nd hp (J 1)) = some (1, 0, 0, 1, upd nt hp 1, vp_updL nu hp (J 1), vp_updL nv hp (J 0), vp_updL nd hp (J 1)) := by
      rw [hF, f_X5_addUpward_L14, if_pos (by decide)]
    rw [bnd8_s e, if_neg (by decide)]
    exact ⟨_, _, _, _, rfl, U1_put _ _ _ _ _ _ _ _ _, hA0⟩
  · have ha := add_1 (su := 0) (sv := 0) hA0 (hw 0 z) (by decide) (by decide) (by decide) (by decide)
    have c1 : ¬ I (M : Int) ≤ 0 := by rw [I0, I_le (r31n (by omega)) ⟨by omega, by omega⟩]; omega
    have e : ∀ r, f_X5_addUpward_L14 (I ix) (I (M : Int)) (I a) (I b) (I (n : Int)) by_ hp (FU - 1) (I ((1 : Nat) : Int)) (J (sS w (fun i => (pw a b i).1) 1)) (J (sS w (fun i => (pw a b i).2) 1)) (J 1) (upd nt hp 1) (vp_updL nu hp (J 1)) (vp_updL nv hp (J 0)) (vp_updL nd hp (J 1)) = r → f_X5_addUpward_L14 (I ix) (I (M : Int)) (I a) (I b) (I (n : Int)) by_ hp FU 0 0 0 1 (upd nt hp 1) (vp_updL nu hp (J 1)) (vp_updL nv hp (J 0)) (vp_updL nd hp (J 1)) = r := by
      intro r hr
      rw [hF, f_X5_addUpward_L14, if_neg c1, if_pos (by decide), bnd1_s (show f_X7_at (I (n : Int)) by_ (I ix - 0) = _ from hat 0 z), bnd3_s (show f_X6_add 0 0 1 (vp_updL nu hp (J 1)) (vp_updL nv hp (J 0)) (vp_updL nd hp (J 1)) (I (w 0)) hp = _ from ha)]
      exact hr
    obtain ⟨x1, x2⟩ := up_loop hb hM hw hat (M - 1) (FU - 1) 1 (upd nt hp 1) _ _ _ (by omega) (by omega) (by rw [FU_eq]; omega) (ok0 a b).1 hA0
    constructor
    · intro h
      obtain ⟨nt', nu', nv', nd', y1, y2, y3⟩ := x1 h
      rw [bnd8_s (e _ y1), if_neg (by decide)]
      exact ⟨nt', nu', nv', nd', rfl, U1_tr (U1_put _ _ _ _ _ _ _ _ _) y2, y3⟩
    · intro h
      obtain ⟨su, sv, sd, nt', nu', nv', nd', y1, y2⟩ := x2 h
      rw [bnd8_s (e _ y1), if_pos rfl]
      exact ⟨su, sv, sd, nt', nu', nv', nd', rfl, U1_tr (U1_put _ _ _ _ _ _ _ _ _) y2⟩
