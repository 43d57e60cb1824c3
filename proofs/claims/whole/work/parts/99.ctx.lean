theorem xt_start {b : Nat} {s : State} (hts : ∀ w ∈ lw_tbl, w.before #[Value.ref b] s = true) (hgv : (Jvm.Cond.and given_1 narrow_1).before #[Value.ref b] s = true) : XT (fun q : Nat => s.heap.size ≤ q) s := by
  have hs := flat_of_before _ hgv
  have st : ∀ (k : Nat) (tx : String), (Cond.stringRef RX11 k tx).before #[Value.ref b] s = true → (Cond.exactly (.string RX11 k) "java/lang/String").before #[Value.ref b] s = true → ∃ a, vk_R RX11 k tx a s := fun k tx h1 h2 => by
    obtain ⟨a, c, cA, kA, q1, -⟩ := Cond.exactly_spec (args := #[Value.ref b]) (first := s) (o := none) (s := s) (idx := []) h2
    exact ⟨a, vk_R.of h1 q1⟩
  have hn : ∀ a : Nat, a < s.heap.size → ¬ s.heap.size ≤ a := fun a h => Nat.not_le.mpr h
  have w62 : (Cond.initialized "java/lang/Throwable").before #[Value.ref b] s = true := hts _ (al_in q62)
  exact ⟨(va_Nw.of rfl (show xW1.before #[Value.ref b] s = true from (hts _ (List.mem_of_getElem? (i := 848) (by decide +kernel))))), (va_Nw.of rfl (show xW2.before #[Value.ref b] s = true from (hts _ (List.mem_of_getElem? (i := 850) (by decide +kernel))))), (va_Nw.of rfl (show xW3.before #[Value.ref b] s = true from (hts _ (List.mem_of_getElem? (i := 852) (by decide +kernel))))), (va_Nw.of rfl (show xW4.before #[Value.ref b] s = true from (hts _ (List.mem_of_getElem? (i := 854) (by decide +kernel))))), (st 132 "no such part of a number" (hts _ (List.mem_of_getElem? (i := 885) (by decide +kernel))) (hs _ (by decide +kernel))), (st 151 "the slot has no number" (hts _ (List.mem_of_getElem? (i := 918) (by decide +kernel))) (hs _ (by decide +kernel))), (st 196 "no such digit of one" (hts _ (List.mem_of_getElem? (i := 936) (by decide +kernel))) (hs _ (by decide +kernel))), (st 201 "no such length of a row" (hts _ (List.mem_of_getElem? (i := 945) (by decide +kernel))) (hs _ (by decide +kernel))), (st 262 "no such round" (hts _ (List.mem_of_getElem? (i := 953) (by decide +kernel))) (hs _ (by decide +kernel))), (vx_Zqof (hts _ (List.mem_of_getElem? (i := 873) (by decide +kernel))) w62 (hs _ (by decide +kernel)) hn), (vx_Zqof (hts _ (List.mem_of_getElem? (i := 875) (by decide +kernel))) w62 (hs _ (by decide +kernel)) hn)⟩
theorem k_start {args : Array Value} {s : State} (ha : ∀ w ∈ AL, w.before args s = true) : ∃ D : va_G, va_K D vwCl [] s := by
  obtain ⟨c0, i0, h0⟩ := u_known (C := RX0) (T := TX0) (N := 4) (n := 4) ha ix0 (ha _ q150)
  obtain ⟨c1, i1, h1⟩ := u_known (C := RX1) (T := TX1) (N := 3) (n := 3) ha ix1 (ha _ q185)
  obtain ⟨c2, i2, h2⟩ := u_known (C := RX2) (T := TX2) (N := 14) (n := 14) ha ix2 (ha _ q311)
  obtain ⟨c3, i3, h3⟩ := u_known (C := RX3) (T := TX3) (N := 8) (n := 8) ha ix3 (ha _ q92)
  obtain ⟨c4, i4, h4⟩ := u_known (C := RX4) (T := TX4) (N := 4) (n := 4) ha ix4 (ha _ q421)
  obtain ⟨c5, i5, h5⟩ := u_known (C := RX5) (T := TX5) (N := 7) (n := 7) ha ix5 (ha _ q233)
  obtain ⟨c6, i6, h6⟩ := u_known (C := RX6) (T := TX6) (N := 3) (n := 3) ha ix6 (ha _ q241)
  obtain ⟨c7, i7, h7⟩ := u_known (C := RX7) (T := TX7) (N := 2) (n := 2) ha ix7 (ha _ q75)
  obtain ⟨c8, i8, h8⟩ := u_known (C := RX8) (T := TX8) (N := 6) (n := 6) ha ix8 (ha _ q203)
  obtain ⟨c9, i9, h9⟩ := u_known (C := RX9) (T := TX9) (N := 7) (n := 7) ha ix9 (ha _ q283)
  obtain ⟨c10, i10, h10⟩ := u_known (C := RX10) (T := TX10) (N := 4) (n := 4) ha ix10 (ha _ q399)
  obtain ⟨c11, i11, h11⟩ := u_known (C := RX11) (T := TX11) (N := 13) (n := 13) ha ix11 (ha _ q67)
  obtain ⟨c12, i12, h12⟩ := u_known (C := RX12) (T := TX12) (N := 61) (n := 61) ha ix12 (ha _ q955)
  refine ⟨(fun k => match k with | 0 => c0 | 1 => c1 | 2 => c2 | 3 => c3 | 4 => c4 | 5 => c5 | 6 => c6 | 7 => c7 | 8 => c8 | 9 => c9 | 10 => c10 | 11 => c11 | _ => c12, fun k => match k with | 0 => i0 | 1 => i1 | 2 => i2 | 3 => i3 | 4 => i4 | 5 => i5 | 6 => i6 | 7 => i7 | 8 => i8 | 9 => i9 | 10 => i10 | 11 => i11 | _ => i12), fun k q hq => ?_, fun k q h => by simp at h⟩
  match k, hq with
  | 0, hq => cases hq; exact h0
  | 1, hq => cases hq; exact h1
  | 2, hq => cases hq; exact h2
  | 3, hq => cases hq; exact h3
  | 4, hq => cases hq; exact h4
  | 5, hq => cases hq; exact h5
  | 6, hq => cases hq; exact h6
  | 7, hq => cases hq; exact h7
  | 8, hq => cases hq; exact h8
  | 9, hq => cases hq; exact h9
  | 10, hq => cases hq; exact h10
  | 11, hq => cases hq; exact h11
  | 12, hq => cases hq; exact h12
  | k + 13, hq => simp [vwCl] at hq
theorem pcA_blind {av : List Value} {D : va_G} {tys : List (ClassId × FieldType)} {ws : va_W} {sz : Nat} : FrameBlind (va_Pc av (fun U => PcW D tys ws sz U ∧ va_AO "DigitBench$Num" U)) := fun a U g mk q => ⟨q.1, (pcw_blind a U g mk ⟨q.1, q.2.1⟩).2, va_AO.moved (u := U) (U := U.calling g mk a) (Vm.Alike.refl U.vm) q.2.2⟩
section
variable {p : Program} {l : Launch} {e : Env} {R : Room} {s : State} {m : MethodId} {args : Array Value} {below : List Frame} {meth : Method} {c : Code} {H : Heap} {locs : List Loc} {cells slots : Nat} {Q : State → Prop}
variable {cc : ByteArray} {pc : Nat} {ls : Array Slot} {rest : List Value} {D : va_G} {A : Nat → Prop} {own : String} {nL : Nat} {tys : List (ClassId × FieldType)}
variable {st0 : List Value} {wc : va_W} {y : MethodName} {yc : ByteArray} {maxL n index mc ms : Nat} {rm : Room} {Qc : Array Value → State → Outcome → State → Prop} {free : Addr → Prop} {b : Addr} {As : List Value}
theorem rn_iA (S : CallFix p m c cc nL s args AL own) (hM : Met l y (WD y yc maxL none) rm (va_Pc (.ref b :: As) (fun U => PcW D tys wc H.size U ∧ va_AO "DigitBench$Num" U)) Qc mc ms free) (hO : va_AO "DigitBench$Num" s) (q1 : Cond.methodLink own index y ∈ AL) (q2 : Cond.instanceMethod y ∈ AL) (q4 : Cond.initialized y.cls ∈ AL) (q5 : Cond.code y yc maxL none ∈ AL) (hd : y.cls ≠ "java/lang/invoke/MethodHandle" ∧ y.cls ≠ "java/lang/invoke/VarHandle" ∧ (parseMethodDescriptor y.desc).map (fun d => d.parameters.length) = some n) (hy : y.name = "<init>") (hR : rm.frames + 1 ≤ R.frames ∧ 8 + (maxL + 11) + rm.locals ≤ R.locals) (hrc : rm.cells = mc) (hrs : rm.slots = ms)
    (hP : va_P D vwCl wc H) (hD : va_D A wc) (hK : va_K D vwCl tys s) (hN : NW s) (hn : As.length = n) (hl : ls.size = nL) (hst : st0 = As.reverse ++ .ref b :: rest) (hW : (rest.map fun v => v.category).sum ≤ 8) (hdg : decode cc pc = .ok (.invokespecial index, 3)) (hf : cells + mc ≤ R.cells ∧ slots + ms ≤ R.slots) : va_Run p l e R s m args below meth c H locs cells slots mc ms (F0 m pc ls st0) rest (Qc (Value.ref b :: As).toArray) free :=
  va_runI S hM ⟨callB_of n S.2.2.2.2 (al_gd q5) rfl hrc hrs (S.2.2.2.2 _ q4) (S.2.2.2.2 _ q1) hd hR, hy, S.2.2.2.2 _ q2⟩ ⟨pcA_blind, fun U hU hW => ⟨rfl, ⟨by rw [hU], by rw [hU]; exact hP, va_K.moved hW.alike hK, hD.weaken (fun _ _ _ _ => trivial), hN.warm hW⟩, va_AO.moved hW.alike hO⟩⟩ rfl hn hl hst (lv_room hW) hdg hf
end
/-- a row of references by another name of its contents -/
theorem sl_cell {cA : ClassId} {f g : Nat → Option Nat} (h : ∀ j, j < 10 → f j = g j) : vp_cell cA (10, .inr (.inr (.inr (.inr f)))) = vp_cell cA (10, .inr (.inr (.inr (.inr g)))) := by
  rw [vp_cell_q, vp_cell_q]
  unfold arrV
  congr 1
  apply Array.ext
  · simp
  · intro i h1 h2
    have hi : i < 10 := by simpa using h1
    simp [h i hi]
theorem sl_P {D : va_G} {X Y : va_W} {H : Heap} {a : Nat} {cA : ClassId} {f g : Nat → Option Nat} (h : ∀ j, j < 10 → f j = g j) (hP : va_P D vwCl (X ++ (a, .inl (cA, 10, .inr (.inr (.inr (.inr f))))) :: Y) H) : va_P D vwCl (X ++ (a, .inl (cA, 10, .inr (.inr (.inr (.inr g))))) :: Y) H := by
  intro k q hk
  by_cases e : k = X.length
  · subst e
    have h0 := hP X.length (a, .inl (cA, 10, .inr (.inr (.inr (.inr f))))) (by simp)
    rw [List.getElem?_append_right (Nat.le_refl _)] at hk
    simp at hk
    subst hk
    show H[a]? = some (vp_cell cA (10, .inr (.inr (.inr (.inr g)))))
    rw [← sl_cell h]
    exact h0
  · refine hP k q ?_
    rcases Nat.lt_or_gt_of_ne e with hlt | hgt
    · rw [List.getElem?_append_left hlt] at hk ⊢; exact hk
    · rw [List.getElem?_append_right (by omega)] at hk ⊢
      obtain ⟨j, hj⟩ : ∃ j, k - X.length = j + 1 := ⟨k - X.length - 1, by omega⟩
      rw [hj] at hk ⊢
      exact hk
theorem sl_D {A : Nat → Prop} {X Y : va_W} {a : Nat} {cA : ClassId} {f g : Nat → Option Nat} (hD : va_D A (X ++ (a, .inl (cA, 10, .inr (.inr (.inr (.inr f))))) :: Y)) : va_D A (X ++ (a, .inl (cA, 10, .inr (.inr (.inr (.inr g))))) :: Y) := by
  have key : ∀ (k : Nat) (q : Nat × va_E), (X ++ (a, (.inl (cA, 10, .inr (.inr (.inr (.inr g)))) : va_E)) :: Y)[k]? = some q → ∃ e, (X ++ (a, (.inl (cA, 10, .inr (.inr (.inr (.inr f)))) : va_E)) :: Y)[k]? = some (q.1, e) := by
    intro k q hk
    by_cases e : k = X.length
    · subst e
      rw [List.getElem?_append_right (Nat.le_refl _)] at hk
      simp at hk
      subst hk
      exact ⟨.inl (cA, 10, .inr (.inr (.inr (.inr f)))), by simp⟩
    · rcases Nat.lt_or_gt_of_ne e with hlt | hgt
      · rw [List.getElem?_append_left hlt] at hk
        exact ⟨q.2, by rw [List.getElem?_append_left hlt]; exact hk⟩
      · rw [List.getElem?_append_right (by omega)] at hk
        obtain ⟨j, hj⟩ : ∃ j, k - X.length = j + 1 := ⟨k - X.length - 1, by omega⟩
        rw [hj] at hk
        exact ⟨q.2, by rw [List.getElem?_append_right (by omega), hj]; exact hk⟩
  refine ⟨fun i j p q hi hj e => ?_, fun k q hk => ?_⟩
  · obtain ⟨e1, h1⟩ := key i p hi
    obtain ⟨e2, h2⟩ := key j q hj
    exact hD.1 i j _ _ h1 h2 e
  · obtain ⟨e1, h1⟩ := key k q hk
    exact hD.2 k (q.1, e1) h1
/-- a list without a name twice, by its growing -/
def Inj (L : List Nat) : Prop := ∀ (i j x : Nat), L[i]? = some x → L[j]? = some x → i = j
theorem inj_nil : Inj [] := fun i j x h => by simp at h
theorem inj_snoc {L : List Nat} {q : Nat} (h : Inj L) (hq : q ∉ L) : Inj (L ++ [q]) := by
  have last : ∀ (j x : Nat), ¬ j < L.length → (L ++ [q])[j]? = some x → j = L.length ∧ x = q := fun j x cj hj => by
    rw [List.getElem?_append_right (by omega)] at hj
    have h1 := (List.getElem?_eq_some_iff.mp hj).1
    have h2 := List.mem_of_getElem? hj
    simp at h1 h2
    exact ⟨by omega, h2⟩
  intro i j x hi hj
  by_cases ci : i < L.length
  · by_cases cj : j < L.length
    · rw [List.getElem?_append_left ci] at hi
      rw [List.getElem?_append_left cj] at hj
      exact h i j x hi hj
    · rw [List.getElem?_append_left ci] at hi
      have := (last j x cj hj).2
      subst this
      exact absurd (List.mem_of_getElem? hi) hq
  · by_cases cj : j < L.length
    · rw [List.getElem?_append_left cj] at hj
      have := (last i x ci hi).2
      subst this
      exact absurd (List.mem_of_getElem? hj) hq
    · rw [(last i x ci hi).1, (last j x cj hj).1]
theorem inj_ne {L : List Nat} (h : Inj L) {i j x y : Nat} (hx : L[i]? = some x) (hy : L[j]? = some y) (hij : i ≠ j) : x ≠ y := fun e => hij (h i j x hx (by rw [e]; exact hy))
def sa10 (q0 q1 q2 q3 q4 q5 q6 q7 q8 q9 : Nat) : Nat → Nat := fun k => if k = 0 then q0 else if k = 1 then q1 else if k = 2 then q2 else if k = 3 then q3 else if k = 4 then q4 else if k = 5 then q5 else if k = 6 then q6 else if k = 7 then q7 else if k = 8 then q8 else q9
theorem ten {j : Nat} (h : j < 10) : j = 0 ∨ j = 1 ∨ j = 2 ∨ j = 3 ∨ j = 4 ∨ j = 5 ∨ j = 6 ∨ j = 7 ∨ j = 8 ∨ j = 9 := by omega
