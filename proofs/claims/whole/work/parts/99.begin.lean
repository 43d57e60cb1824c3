/-! the start: what both objects hold when they are made -/
theorem rp10 : RP 1 0 0 10 0 1 0 10 := ⟨Or.inl ⟨rfl, rfl, rfl, rfl, rfl, rfl, rfl⟩, by decide, by decide⟩
theorem in_loop : ∀ (j m k : Nat) (dY ks : Nat → Int32), k + j = 10 → j + 1 ≤ m → (∀ i, i < k → dY i = I (i : Int) ∧ ks i = I (ky 0 0 1 0 10 (i : Int) 0)) → ∃ dY' ks' : Nat → Int32, f_X2_init_L46 (I 0) (I 0) (I 10) (J 1) (J 0) m (I (k : Int)) dY ks = some (dY', ks') ∧ ∀ i, i < 10 → dY' i = I (i : Int) ∧ ks' i = I (ky 0 0 1 0 10 (i : Int) 0) := by
  intro j
  induction j with
  | zero =>
    intro m k dY ks hk hm h1
    obtain ⟨m, rfl⟩ : ∃ i, m = i + 1 := ⟨m - 1, by omega⟩
    obtain rfl : k = 10 := by omega
    rw [f_X2_init_L46, if_pos (by decide)]
    exact ⟨dY, ks, rfl, fun i hi => h1 i hi⟩
  | succ j ih =>
    intro m k dY ks hk hm h1
    obtain ⟨m, rfl⟩ : ∃ i, m = i + 1 := ⟨m - 1, by omega⟩
    have c : ¬ I 10 ≤ I (k : Int) := by rw [I_le ⟨by omega, by omega⟩ ⟨by omega, by omega⟩]; omega
    have hky : f_X2_keyOf (I 0) (I 0) (I 10) (J 1) (J 0) (J (k : Int)) (J 0) = some (I (ky 0 0 1 0 10 (k : Int) 0)) := s_keyOf rp10 (m := (k : Int)) (n := 0) (by omega) (by omega)
    rw [f_X2_init_L46, if_neg c, gdI (by omega) (by omega) (by omega), I_J ⟨by omega, by omega⟩, J0, bnd1_s hky, gdI (by omega) (by omega) (by omega), I_at rfl (by omega), I_s]
    refine ih m (k + 1) _ _ (by omega) (by omega) (fun i hi => ?_)
    by_cases e : i = k
    · subst e; rw [pk_us, pk_us]; exact ⟨rfl, rfl⟩
    · rw [pk_un e, pk_un e]; exact h1 i (by omega)
theorem i_ring {sy sz : Nat → Int32} (hs : ∀ i, i < 10 → sy i = I (i : Int) ∧ sz i = I 0) : ∃ dY ks dk : Nat → Int32, f_X2_init = some (1, 0, 0, 10, 1, 0, 10, 10, 0, 0, dY, (fun _ => 0), ks, dk) ∧ RR 1 0 0 10 0 1 0 10 1 0 0 10 1 0 10 10 dY (fun _ => 0) dk 1 0 0 10 0 10 10 sy sz := by
  obtain ⟨dY, ks, e1, g⟩ := in_loop 10 FU 0 (fun _ => 0) (fun _ => 0) (by omega) (by rw [FU_eq]; omega) (fun i hi => absurd hi (by omega))
  have hdis : ∀ i i' : Nat, i < i' → i' < (10 : Int).natAbs → ¬ dv 0 0 1 0 10 ((i' : Int) - (i : Int)) (0 - 0) := fun i i' h1 h2 h3 => by
    have h4 : i' < 10 := h2
    have h5 := h3.1
    unfold tY at h5
    omega
  obtain ⟨dk, e2, g2⟩ := keep_loop (dy := fun i => (i : Int)) (dz := fun _ => 0) rp10 (ks := ks) (fun i hi => (g i hi).2) hdis 10 FU 0 (fun _ => 0) (by decide) (by rw [FU_eq]; omega) (fun i hi => absurd hi (by omega))
  have h1 : f_X2_becomeSingle 0 0 0 0 0 0 0 0 10 = some (1, 1, 0, 0, 10, 1, 0, 10, 0) := (ring_one (y := 10) ⟨by omega, by omega⟩ 0 0 0 0 0 0 0 0).1 ⟨by decide, by decide⟩
  have e1' : f_X2_init_L46 0 0 10 1 0 FU 0 (fun _ => 0) (fun _ => 0) = some (dY, ks) := e1
  have e3 : f_X2_keepDigits 10 0 ks (fun _ => 0) = some (10, dk) := by
    unfold f_X2_keepDigits
    rw [bnd1_s (show f_X2_keepDigits_L2 10 ks FU 0 (fun _ => 0) = some dk from e2)]
  refine ⟨dY, ks, dk, ?_, rp10, rfl, rfl, rfl, rfl, rfl, rfl, rfl, rfl, rfl, rfl, rfl, rfl, rfl, rfl, Or.inr ⟨rfl, fun i => (i : Int), fun _ => 0, fun i hi => ?_⟩⟩
  · unfold f_X2_init
    rw [bnd9_s h1, bnd2_s e1', bnd2_s e3]
  · have hi' : i < 10 := hi
    exact ⟨(g i hi').1, rfl, (hs i hi').1, (hs i hi').2, (show (i : Int).natAbs ≤ 128 by omega), (show (0 : Int).natAbs ≤ 128 by decide), fun _ => rfl, g2 i hi⟩
theorem vb11 : VB 1 1 := by unfold VB; decide
theorem i_root : ∃ pU pV rC : Nat → Int64, f_X3_init = some (I 1, I 1, J (DD 1 1), I (pcn 1 1 : Int), I (ccn 1 1 : Int), pU, pV, rC) ∧ (∀ i, i < pcn 1 1 → pU i = J (pw 1 1 i).1 ∧ pV i = J (pw 1 1 i).2) ∧ ∀ i, i < ccn 1 1 → rC i = J (rc 1 1 i) := by
  obtain ⟨pU, pV, rC, e, h1, h2⟩ := s_change vb11 0 0 0 0 0 (fun _ => 0) (fun _ => 0) (fun _ => 0)
  refine ⟨pU, pV, rC, ?_, h1, h2⟩
  unfold f_X3_init
  rw [bnd9_s (show f_X3_change 0 0 0 0 0 (fun _ => 0) (fun _ => 0) (fun _ => 0) 1 1 = _ from e)]
