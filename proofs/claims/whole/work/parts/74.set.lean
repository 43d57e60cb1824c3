/-! set() -/
theorem c25 {k : Nat} (hk : k < 25) : ¬ (25 : Int32) ≤ I (k : Int) := by rw [show (25 : Int32) = I ((25 : Nat) : Int) from rfl, In_le (by omega) (by omega)]; omega
section
variable {P p q y z sY sZ N : Int} {n nm : Nat} {by_ tp : Nat → Int32} {dy dz : Nat → Int}
theorem key_dup (hnm : nm ≤ 25) {k : Nat} (hk : k < nm) {K : Nat → Int} {ks : Nat → Int32} (hK : ∀ i, i ≤ k → ks i = I (K i) ∧ 0 ≤ K i ∧ K i < 625) : ∀ (j m i : Nat), i + j = k → j + 1 ≤ m → (∀ i', i' < i → K i' ≠ K k) →
    ((∃ i', i' < k ∧ K i' = K k) ∧ f_X2_fillKeys_L46 (I (k : Int)) ks m (I (i : Int)) = some 0) ∨ ((∀ i', i' < k → K i' ≠ K k) ∧ f_X2_fillKeys_L46 (I (k : Int)) ks m (I (i : Int)) = some 1) := by
  intro j
  induction j with
  | zero =>
    intro m i hi hm h
    obtain ⟨m, rfl⟩ : ∃ i, m = i + 1 := ⟨m - 1, by omega⟩
    refine Or.inr ⟨fun i' hi' => h i' (by omega), ?_⟩
    rw [f_X2_fillKeys_L46, if_pos ((In_le (by omega) (by omega)).mpr (by omega))]
  | succ j ih =>
    intro m i hi hm h
    obtain ⟨m, rfl⟩ : ∃ i, m = i + 1 := ⟨m - 1, by omega⟩
    have c : ¬ I (k : Int) ≤ I (i : Int) := fun z => by have := (In_le (by omega) (by omega)).mp z; omega
    obtain ⟨a1, a2, a3⟩ := hK i (by omega)
    obtain ⟨b1, b2, b3⟩ := hK k (by omega)
    have hiff : (ks i = ks k) ↔ K i = K k := by rw [a1, b1]; exact I_eq ⟨by omega, by omega⟩ ⟨by omega, by omega⟩
    rw [f_X2_fillKeys_L46, if_neg c, gdI (by omega) (by omega) (by omega), gdI (by omega) (by omega) (by omega), I_at rfl (by omega), I_at rfl (by omega), I_s]
    by_cases e : K i = K k
    · rw [if_pos (hiff.mpr e)]; exact Or.inl ⟨⟨i, by omega, e⟩, rfl⟩
    · rw [if_neg (fun z => e (hiff.mp z))]
      exact ih m (i + 1) (by omega) (by omega) (fun i' hi' => by
        by_cases z : i' = i
        · subst z; exact e
        · exact h i' (by omega))
theorem ref_dup (h : RP P p q y z sY sZ N) (hd : ∀ i, i < N.natAbs → (dy i).natAbs ≤ 128 ∧ (dz i).natAbs ≤ 128 ∧ (P = 1 → dz i = 0)) {fy fz : Nat → Int32} (hf : ∀ i, i < N.natAbs → fy i = I (dy i) ∧ fz i = I (dz i)) {k : Nat} (hk : k < N.natAbs) : ∀ (j m i : Nat) (qy qz : Int64), i + j = k → j + 1 ≤ m → (∀ i', i' < i → ¬ dv p q sY sZ N (dy k - dy i') (dz k - dz i')) →
    ((∃ i', i' < k ∧ dv p q sY sZ N (dy k - dy i') (dz k - dz i')) ∧ ∃ qy' qz' : Int64, f_X12_set__L101 (I (k : Int)) (I P) (I p) (I q) (I y) (I z) fy fz m (I (i : Int)) qy qz = some (0, qy', qz')) ∨ ((∀ i', i' < k → ¬ dv p q sY sZ N (dy k - dy i') (dz k - dz i')) ∧ ∃ qy' qz' : Int64, f_X12_set__L101 (I (k : Int)) (I P) (I p) (I q) (I y) (I z) fy fz m (I (i : Int)) qy qz = some (1, qy', qz')) := by
  have hN := h.2
  intro j
  induction j with
  | zero =>
    intro m i qy qz hi hm hh
    obtain ⟨m, rfl⟩ : ∃ i, m = i + 1 := ⟨m - 1, by omega⟩
    refine Or.inr ⟨fun i' hi' => hh i' (by omega), ?_⟩
    rw [f_X12_set__L101, if_pos ((In_le (by omega) (by omega)).mpr (by omega))]
    exact ⟨_, _, rfl⟩
  | succ j ih =>
    intro m i qy qz hi hm hh
    obtain ⟨m, rfl⟩ : ∃ i, m = i + 1 := ⟨m - 1, by omega⟩
    have c : ¬ I (k : Int) ≤ I (i : Int) := fun z => by have := (In_le (by omega) (by omega)).mp z; omega
    obtain ⟨a1, a2, a3⟩ := hd i (by omega)
    obtain ⟨b1, b2, b3⟩ := hd k (by omega)
    have hdv := s_divides h (m := dy k - dy i) (n := dz k - dz i) (by omega) (by omega) (fun e => by rw [a3 e, b3 e]; omega) qy qz
    rw [f_X12_set__L101, if_neg c]
    simp only [gdI (a := (k : Int)) (n := 25) (by omega) (by omega) (by omega), gdI (a := (i : Int)) (n := 25) (by omega) (by omega) (by omega), I_at (a := (k : Int)) (n := k) rfl (by omega), I_at (a := (i : Int)) (n := i) rfl (by omega), I_s]
    rw [(hf k (by omega)).1, (hf k (by omega)).2, (hf i (by omega)).1, (hf i (by omega)).2, I_sub, I_sub, I_J ⟨by omega, by omega⟩, I_J ⟨by omega, by omega⟩]
    by_cases e : dv p q sY sZ N (dy k - dy i) (dz k - dz i)
    · rw [bnd3_s (hdv.1 e), if_neg (by decide)]
      exact Or.inl ⟨⟨i, by omega, e⟩, _, _, rfl⟩
    · obtain ⟨qy', qz', e2⟩ := hdv.2 e
      rw [bnd3_s e2, if_pos rfl]
      exact ih m (i + 1) qy' qz' (by omega) (by omega) (fun i' hi' => by
        by_cases z : i' = i
        · subst z; exact e
        · exact hh i' (by omega))
/-- both look for two digits of one class -/
theorem dup_loop (h : RP P p q y z sY sZ N) (hd : ∀ i, i < N.natAbs → (dy i).natAbs ≤ 128 ∧ (dz i).natAbs ≤ 128 ∧ (P = 1 → dz i = 0)) {fy fz : Nat → Int32} (hf : ∀ i, i < N.natAbs → fy i = I (dy i) ∧ fz i = I (dz i)) (hat : ∀ k, k < N.natAbs → f_X7_at (I (n : Int)) by_ (I (k : Int) * I P) = some (I (dy k)) ∧ f_X2_zOf (I P) (I (n : Int)) by_ (I (k : Int)) = some (I (dz k))) :
    ∀ (j m m' k : Nat) (ks : Nat → Int32) (qy qz : Int64), k + j = N.natAbs → j + 1 ≤ m → j + 1 ≤ m' → (∀ i, i < k → ks i = I (ky p q sY sZ (N.natAbs : Int) (dy i) (dz i))) → (∀ i i', i < i' → i' < k → ¬ dv p q sY sZ N (dy i' - dy i) (dz i' - dz i)) →
    ∃ (ks' : Nat → Int32) (qy' qz' : Int64), (f_X2_fillKeys_L2 (I P) (I p) (I q) (I (N.natAbs : Int)) (J sY) (J sZ) (I (n : Int)) by_ m (I (k : Int)) ks = some (0, ks') ∧ f_X12_set__L91 (I P) (I p) (I q) (I y) (I z) (I (N.natAbs : Int)) fy fz m' (I (k : Int)) qy qz = some (0, qy', qz')) ∨ (f_X2_fillKeys_L2 (I P) (I p) (I q) (I (N.natAbs : Int)) (J sY) (J sZ) (I (n : Int)) by_ m (I (k : Int)) ks = some (1, ks') ∧ f_X12_set__L91 (I P) (I p) (I q) (I y) (I z) (I (N.natAbs : Int)) fy fz m' (I (k : Int)) qy qz = some (1, qy', qz') ∧ (∀ i, i < N.natAbs → ks' i = I (ky p q sY sZ (N.natAbs : Int) (dy i) (dz i))) ∧ (∀ i i', i < i' → i' < N.natAbs → ¬ dv p q sY sZ N (dy i' - dy i) (dz i' - dz i))) := by
  have hN := h.2
  intro j
  induction j with
  | zero =>
    intro m m' k ks qy qz hk hm hm' h1 h2
    obtain ⟨m, rfl⟩ : ∃ i, m = i + 1 := ⟨m - 1, by omega⟩
    obtain ⟨m', rfl⟩ : ∃ i, m' = i + 1 := ⟨m' - 1, by omega⟩
    have hk' : k = N.natAbs := by omega
    have c : I (N.natAbs : Int) ≤ I (k : Int) := (In_le (by omega) (by omega)).mpr (by omega)
    refine ⟨ks, qy, qz, Or.inr ⟨?_, ?_, fun i hi => h1 i (by omega), fun i i' a b => h2 i i' a (by omega)⟩⟩
    · rw [f_X2_fillKeys_L2, if_pos c]
    · rw [f_X12_set__L91, if_pos c]
  | succ j ih =>
    intro m m' k ks qy qz hk hm hm' h1 h2
    obtain ⟨m, rfl⟩ : ∃ i, m = i + 1 := ⟨m - 1, by omega⟩
    obtain ⟨m', rfl⟩ : ∃ i, m' = i + 1 := ⟨m' - 1, by omega⟩
    have c : ¬ I (N.natAbs : Int) ≤ I (k : Int) := fun z => by have := (In_le (by omega) (by omega)).mp z; omega
    obtain ⟨a1, a2, a3⟩ := hd k (by omega)
    have hkey := s_keyOf h (m := dy k) (n := dz k) (by omega) (by omega)
    have hkb : ∀ m n : Int, 0 ≤ ky p q sY sZ (N.natAbs : Int) m n ∧ ky p q sY sZ (N.natAbs : Int) m n < 625 := fun m n => ky_bd (by omega) (by omega)
    have hks : ∀ i, i ≤ k → upd ks k (I (ky p q sY sZ (N.natAbs : Int) (dy k) (dz k))) i = I (ky p q sY sZ (N.natAbs : Int) (dy i) (dz i)) := fun i hi => by
      by_cases e : i = k
      · subst e; rw [pk_us]
      · rw [pk_un e]; exact h1 i (by omega)
    have e1 : f_X2_fillKeys_L2 (I P) (I p) (I q) (I (N.natAbs : Int)) (J sY) (J sZ) (I (n : Int)) by_ (m + 1) (I (k : Int)) ks = bnd1 (f_X2_fillKeys_L46 (I (k : Int)) (upd ks k (I (ky p q sY sZ (N.natAbs : Int) (dy k) (dz k)))) FU 0) (fun tg => if tg = 0 then some (0, upd ks k (I (ky p q sY sZ (N.natAbs : Int) (dy k) (dz k)))) else f_X2_fillKeys_L2 (I P) (I p) (I q) (I (N.natAbs : Int)) (J sY) (J sZ) (I (n : Int)) by_ m (I ((k + 1 : Nat) : Int)) (upd ks k (I (ky p q sY sZ (N.natAbs : Int) (dy k) (dz k))))) := by
      rw [f_X2_fillKeys_L2, if_neg c, if_neg (c25 (by omega)), bnd1_s (hat k (by omega)).1, bnd1_s (hat k (by omega)).2, I_J ⟨by omega, by omega⟩, I_J ⟨by omega, by omega⟩, bnd1_s hkey, gdI (by omega) (by omega) (by omega), I_at rfl (by omega), I_s]
    have kd := key_dup (nm := N.natAbs) (by omega) (k := k) (by omega) (K := fun i => ky p q sY sZ (N.natAbs : Int) (dy i) (dz i)) (ks := upd ks k (I (ky p q sY sZ (N.natAbs : Int) (dy k) (dz k)))) (fun i hi => ⟨hks i hi, hkb _ _⟩) k FU 0 (by omega) (by rw [FU_eq]; omega) (fun i' hi' => absurd hi' (by omega))
    have rd := ref_dup h hd hf (k := k) (by omega) k FU 0 qy qz (by omega) (by rw [FU_eq]; omega) (fun i' hi' => absurd hi' (by omega))
    rw [e1, f_X12_set__L91, if_neg c, I_s]
    rcases kd with ⟨⟨i', k1, k2⟩, k3⟩ | ⟨k1, k3⟩
    · have k3 : f_X2_fillKeys_L46 (I (k : Int)) (upd ks k (I (ky p q sY sZ (N.natAbs : Int) (dy k) (dz k)))) FU 0 = some 0 := k3
      rcases rd with ⟨-, qy', qz', r3⟩ | ⟨r1, -⟩
      · have r3 : f_X12_set__L101 (I (k : Int)) (I P) (I p) (I q) (I y) (I z) fy fz FU 0 qy qz = some (0, qy', qz') := r3
        rw [bnd1_s k3, if_pos rfl, bnd3_s r3, if_pos rfl]
        exact ⟨_, _, _, Or.inl ⟨rfl, rfl⟩⟩
      · exact absurd ((ky_eq (by omega)).mp k2.symm) (r1 i' k1)
    · have k3 : f_X2_fillKeys_L46 (I (k : Int)) (upd ks k (I (ky p q sY sZ (N.natAbs : Int) (dy k) (dz k)))) FU 0 = some 1 := k3
      rcases rd with ⟨⟨i', r1, r2⟩, -⟩ | ⟨r1, qy', qz', r3⟩
      · exact absurd ((ky_eq (by omega)).mpr r2).symm (k1 i' r1)
      · have r3 : f_X12_set__L101 (I (k : Int)) (I P) (I p) (I q) (I y) (I z) fy fz FU 0 qy qz = some (1, qy', qz') := r3
        rw [bnd1_s k3, if_neg (by decide), bnd3_s r3, if_neg (by decide)]
        exact ih m m' (k + 1) _ qy' qz' (by omega) (by omega) (by omega) (fun i hi => hks i (by omega)) (fun i i' a b => by
          by_cases e : i' = k
          · subst e; exact r1 i a
          · exact h2 i i' a (by omega))
theorem keep_loop (h : RP P p q y z sY sZ N) {ks : Nat → Int32} (hks : ∀ i, i < N.natAbs → ks i = I (ky p q sY sZ (N.natAbs : Int) (dy i) (dz i))) (hdis : ∀ i i', i < i' → i' < N.natAbs → ¬ dv p q sY sZ N (dy i' - dy i) (dz i' - dz i)) :
    ∀ (j m k : Nat) (dk : Nat → Int32), k + j = N.natAbs → j + 1 ≤ m → (∀ i, i < k → dk (ky p q sY sZ (N.natAbs : Int) (dy i) (dz i)).toNat = I (i : Int)) → ∃ dk' : Nat → Int32, f_X2_keepDigits_L2 (I (N.natAbs : Int)) ks m (I (k : Int)) dk = some dk' ∧ ∀ i, i < N.natAbs → dk' (ky p q sY sZ (N.natAbs : Int) (dy i) (dz i)).toNat = I (i : Int) := by
  have hN := h.2
  intro j
  induction j with
  | zero =>
    intro m k dk hk hm h1
    obtain ⟨m, rfl⟩ : ∃ i, m = i + 1 := ⟨m - 1, by omega⟩
    rw [f_X2_keepDigits_L2, if_pos ((In_le (by omega) (by omega)).mpr (by omega))]
    exact ⟨dk, rfl, fun i hi => h1 i (by omega)⟩
  | succ j ih =>
    intro m k dk hk hm h1
    obtain ⟨m, rfl⟩ : ∃ i, m = i + 1 := ⟨m - 1, by omega⟩
    have c : ¬ I (N.natAbs : Int) ≤ I (k : Int) := fun z => by have := (In_le (by omega) (by omega)).mp z; omega
    have hkb : ∀ m n : Int, 0 ≤ ky p q sY sZ (N.natAbs : Int) m n ∧ ky p q sY sZ (N.natAbs : Int) m n < 625 := fun m n => ky_bd (by omega) (by omega)
    obtain ⟨b1, b2⟩ := hkb (dy k) (dz k)
    have hneq : ∀ i, i < k → (ky p q sY sZ (N.natAbs : Int) (dy i) (dz i)).toNat ≠ (ky p q sY sZ (N.natAbs : Int) (dy k) (dz k)).toNat := fun i hi e => by
      have := hkb (dy i) (dz i)
      exact hdis i k hi (by omega) ((ky_eq (by omega)).mp (by omega))
    have c1 : ¬ I (ky p q sY sZ (N.natAbs : Int) (dy k) (dz k)) < 0 := by rw [I0, I_lt ⟨by omega, by omega⟩ ⟨by omega, by omega⟩]; omega
    have c2 : ¬ (625 : Int32) ≤ I (ky p q sY sZ (N.natAbs : Int) (dy k) (dz k)) := by rw [show (625 : Int32) = I 625 from rfl, I_le ⟨by omega, by omega⟩ ⟨by omega, by omega⟩]; omega
    rw [f_X2_keepDigits_L2, if_neg c, if_neg (c25 (by omega)), gdI (by omega) (by omega) (by omega), I_at (n := k) rfl (by omega), hks k (by omega), if_neg c1, if_neg c2, gdI (by omega) (by omega) (by omega), I_at (n := (ky p q sY sZ (N.natAbs : Int) (dy k) (dz k)).toNat) (by omega) (by omega), I_s]
    refine ih m (k + 1) _ (by omega) (by omega) (fun i hi => ?_)
    by_cases e : i = k
    · subst e; rw [pk_us]
    · rw [pk_un (hneq i (by omega))]; exact h1 i (by omega)
theorem take_loop (h : RP P p q y z sY sZ N) (hat : ∀ k, k < N.natAbs → f_X7_at (I (n : Int)) by_ (I (k : Int) * I P) = some (I (dy k)) ∧ f_X2_zOf (I P) (I (n : Int)) by_ (I (k : Int)) = some (I (dz k))) :
    ∀ (j m k : Nat) (dY dZ : Nat → Int32), k + j = N.natAbs → j + 1 ≤ m → (∀ i, i < k → dY i = I (dy i) ∧ dZ i = I (dz i)) → ∃ dY' dZ' : Nat → Int32, f_X2_takeDigits_L28 (I P) (I (N.natAbs : Int)) (I (n : Int)) by_ m (I (k : Int)) dY dZ = some (dY', dZ') ∧ ∀ i, i < N.natAbs → dY' i = I (dy i) ∧ dZ' i = I (dz i) := by
  have hN := h.2
  intro j
  induction j with
  | zero =>
    intro m k dY dZ hk hm h1
    obtain ⟨m, rfl⟩ : ∃ i, m = i + 1 := ⟨m - 1, by omega⟩
    rw [f_X2_takeDigits_L28, if_pos ((In_le (by omega) (by omega)).mpr (by omega))]
    exact ⟨dY, dZ, rfl, fun i hi => h1 i (by omega)⟩
  | succ j ih =>
    intro m k dY dZ hk hm h1
    obtain ⟨m, rfl⟩ : ∃ i, m = i + 1 := ⟨m - 1, by omega⟩
    have c : ¬ I (N.natAbs : Int) ≤ I (k : Int) := fun z => by have := (In_le (by omega) (by omega)).mp z; omega
    rw [f_X2_takeDigits_L28, if_neg c, if_neg (c25 (by omega)), bnd1_s (hat k (by omega)).1, gdI (by omega) (by omega) (by omega), bnd1_s (hat k (by omega)).2, gdI (by omega) (by omega) (by omega), I_at rfl (by omega), I_s]
    refine ih m (k + 1) _ _ (by omega) (by omega) (fun i hi => ?_)
    by_cases e : i = k
    · subst e; rw [pk_us, pk_us]; exact ⟨rfl, rfl⟩
    · rw [pk_un e, pk_un e]; exact h1 i (by omega)
theorem copy_loop (hN : nm ≤ 25) {fy fz : Nat → Int32} (hf : ∀ i, i < nm → fy i = I (dy i) ∧ fz i = I (dz i)) :
    ∀ (j m k : Nat) (sy sz : Nat → Int32), k + j = nm → j + 1 ≤ m → (∀ i, i < k → sy i = I (dy i) ∧ sz i = I (dz i)) → ∃ sy' sz' : Nat → Int32, f_X12_set__L157 (I (nm : Int)) fy fz m (I (k : Int)) sy sz = some (sy', sz') ∧ ∀ i, i < nm → sy' i = I (dy i) ∧ sz' i = I (dz i) := by
  intro j
  induction j with
  | zero =>
    intro m k sy sz hk hm h1
    obtain ⟨m, rfl⟩ : ∃ i, m = i + 1 := ⟨m - 1, by omega⟩
    rw [f_X12_set__L157, if_pos ((In_le (by omega) (by omega)).mpr (by omega))]
    exact ⟨sy, sz, rfl, fun i hi => h1 i (by omega)⟩
  | succ j ih =>
    intro m k sy sz hk hm h1
    obtain ⟨m, rfl⟩ : ∃ i, m = i + 1 := ⟨m - 1, by omega⟩
    have c : ¬ I (nm : Int) ≤ I (k : Int) := fun z => by have := (In_le (by omega) (by omega)).mp z; omega
    rw [f_X12_set__L157, if_neg c]
    simp only [gdI (a := (k : Int)) (n := 25) (by omega) (by omega) (by omega), I_at (a := (k : Int)) (n := k) rfl (by omega), I_s]
    refine ih m (k + 1) _ _ (by omega) (by omega) (fun i hi => ?_)
    by_cases e : i = k
    · subst e; rw [pk_us, pk_us]; exact hf i (by omega)
    · rw [pk_un e, pk_un e]; exact h1 i (by omega)
theorem fresh_loop {Pn : Nat} (hPn : Pn = 1 ∨ Pn = 2) (hN : nm ≤ 25) (hy : ∀ i, i < nm → tp (Pn * i) = I (dy i)) (hz : ∀ i, i < nm → (Pn = 1 → dz i = 0) ∧ (Pn = 2 → tp (Pn * i + 1) = I (dz i))) :
    ∀ (j m k : Nat) (fy fz : Nat → Int32), k + j = nm → j + 1 ≤ m → (∀ i, i < k → fy i = I (dy i) ∧ fz i = I (dz i)) → ∃ fy' fz' : Nat → Int32, f_X12_set__L27 (I (Pn : Int)) (I (nm : Int)) tp m (I (k : Int)) fy fz = some (fy', fz') ∧ ∀ i, i < nm → fy' i = I (dy i) ∧ fz' i = I (dz i) := by
  intro j
  induction j with
  | zero =>
    intro m k fy fz hk hm h1
    obtain ⟨m, rfl⟩ : ∃ i, m = i + 1 := ⟨m - 1, by omega⟩
    rw [f_X12_set__L27, if_pos ((In_le (by omega) (by omega)).mpr (by omega))]
    exact ⟨fy, fz, rfl, fun i hi => h1 i (by omega)⟩
  | succ j ih =>
    intro m k fy fz hk hm h1
    obtain ⟨m, rfl⟩ : ∃ i, m = i + 1 := ⟨m - 1, by omega⟩
    have c : ¬ I (nm : Int) ≤ I (k : Int) := fun z => by have := (In_le (by omega) (by omega)).mp z; omega
    have hPk : Pn * k ≤ 48 := by rcases hPn with rfl | rfl <;> omega
    have e1 : I (Pn : Int) * I (k : Int) = I ((Pn * k : Nat) : Int) := by rw [I_mul]; congr 1
    have go : ∀ (w : Int32), w = I (dz k) → ∃ fy' fz' : Nat → Int32, f_X12_set__L27 (I (Pn : Int)) (I (nm : Int)) tp m (I ((k + 1 : Nat) : Int)) (upd fy k (I (dy k))) (upd fz k w) = some (fy', fz') ∧ ∀ i, i < nm → fy' i = I (dy i) ∧ fz' i = I (dz i) := by
      intro w hw
      refine ih m (k + 1) _ _ (by omega) (by omega) (fun i hi => ?_)
      by_cases e : i = k
      · subst e; rw [pk_us, pk_us]; exact ⟨rfl, hw⟩
      · rw [pk_un e, pk_un e]; exact h1 i (by omega)
    rw [f_X12_set__L27, if_neg c, e1]
    simp only [gdI (a := ((Pn * k : Nat) : Int)) (n := 200) (by omega) (by omega) (by omega), gdI (a := (k : Int)) (n := 25) (by omega) (by omega) (by omega), I_at (a := ((Pn * k : Nat) : Int)) (n := Pn * k) rfl (by omega), I_at (a := (k : Int)) (n := k) rfl (by omega), I_s, hy k (by omega)]
    rcases hPn with rfl | rfl
    · rw [if_pos (show I ((1 : Nat) : Int) = 1 from rfl)]
      exact go 0 (by rw [(hz k (by omega)).1 rfl]; rfl)
    · rw [if_neg (show ¬ I ((2 : Nat) : Int) = 1 by decide), gdI (by omega) (by omega) (by omega), I_at rfl (by omega)]
      exact go _ ((hz k (by omega)).2 rfl)
end
