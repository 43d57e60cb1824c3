theorem mv_at {α : Type} {ws : List α} {x : α} {k : Nat} {q : α} (h : (x :: ws)[k]? = some q) : (ws ++ [x])[if k = 0 then ws.length else k - 1]? = some q := by
  cases k with
  | zero => simpa using h
  | succ k =>
    have h1 : ws[k]? = some q := by simpa using h
    rw [if_neg (Nat.succ_ne_zero k), Nat.add_sub_cancel, List.getElem?_append_left (List.getElem?_eq_some_iff.mp h1).1]
    exact h1
theorem mv_P {D : va_G} {ws : va_W} {x : Nat × va_E} {H : Heap} (h : va_P D vwCl (ws ++ [x]) H) : va_P D vwCl (x :: ws) H := h.by (fun k => if k = 0 then ws.length else k - 1) (fun _ _ hk => mv_at hk)
theorem mv_D {A : Nat → Prop} {ws : va_W} {x : Nat × va_E} (h : va_D A (ws ++ [x])) : va_D A (x :: ws) := by
  refine h.by (fun k => if k = 0 then ws.length else k - 1) (fun _ _ hk => mv_at hk) (fun i j hi hj e => ?_)
  simp only [List.length_cons] at hi hj
  by_cases a : i = 0
  · by_cases b : j = 0
    · rw [a, b]
    · simp only [a, b, if_true, if_false] at e; omega
  · by_cases b : j = 0
    · simp only [a, b, if_true, if_false] at e; omega
    · simp only [a, b, if_false] at e; omega
/-- the start of a method that makes cells -/
theorem ct_startA {l : Launch} {y : MethodName} {cc : ByteArray} {maxL mc ms : Nat} {ret : Option FieldType} {rm : Room} {av : List Value} {D : va_G} {tys : List (ClassId × FieldType)} {ws : va_W} {sz : Nat} {X : State → Prop} {QF : (Nat → Prop) → Array Value → State → Outcome → State → Prop} (hy : plainFor y = true) (hn : (lg_sl av).length ≤ maxL)
    (body : ∀ (p : Program) (e : Env) (s : State) (m : MethodId) (args : Array Value) (below : List Frame) (meth : Method) (c : Code) (A : Nat → Prop) (ls : Array Slot), CallFix p m c cc maxL s args AL y.cls → meth.sig.returnType = ret → meth.locks = false → meth.name = y.name → va_S A s.heap s.heap [] → (∀ q, s.heap.size ≤ q → A q) → va_P D vwCl ws s.heap → va_D A ws → va_K D vwCl tys s → NW s → X s → lv_has ls maxL (lv_args 0 av) → W p l e rm s m args below meth c s.heap [] 0 0 (MQ below (QF A) args s mc ms A) (F0 m 0 ls [])) :
    Met l y (WD y cc maxL ret) rm (va_Pc av (fun U => PcW D tys ws sz U ∧ X U)) (QF (va_A ws sz)) mc ms (va_A ws sz) := by
  refine Met.ofWF (cc := cc) (maxL := maxL) (ret := ret) hy rfl ?_
  intro p e s m args below meth c s₁ B hml hv
  obtain ⟨rfl, ⟨hsz, hP, hK, hD0, hN⟩, hX⟩ := hv
  subst hsz
  have hts := atoms_spec (ws := WD y cc maxL ret) B.pre
  have hD := hD0.self (sz := s.heap.size)
  rw [lg_entry_eq]
  exact body p e s m _ below meth c (va_A ws s.heap.size) _ ⟨B.exec, B.bytes, hml, findClass_of_methodNamed B.named, fun w h => hts w (List.mem_cons_of_mem _ h)⟩ B.returns B.notSynchronized (name_of_methodNamed B.named B.method).1 va_S.rf (fun q h => Or.inr h) hP hD hK hN hX (lv_entry av hn)
section
variable {p : Program} {l : Launch} {e : Env} {R : Room} {s : State} {m : MethodId} {args : Array Value} {below : List Frame} {meth : Method} {c : Code} {H : Heap} {locs : List Loc} {cells slots : Nat} {Q : State → Prop}
variable {cc : ByteArray} {pc : Nat} {ls : Array Slot} {rest : List Value} {D : va_G} {A : Nat → Prop} {own : String} {nL : Nat} {tys : List (ClassId × FieldType)} {H0 : Heap} {ws : va_W}

theorem ob_init (S : CallFix p m c cc nL s args AL own) {idx : Nat} (q1 : Cond.methodLink own idx (⟨"java/lang/Object", "<init>", "()V"⟩ : MethodName) ∈ AL) {a : Nat} (hl : ls.size = nL) (hdg : decode cc pc = .ok (.invokespecial idx, 3)) (hf : 1 ≤ R.frames) (hlo : (rest.map fun v => v.category).sum + 12 ≤ R.locals) (q2 : Cond.instanceMethod (⟨"java/lang/Object", "<init>", "()V"⟩ : MethodName) ∈ AL) (q3 : (Cond.code Lib.objectInit ⟨#[0xb1]⟩ 1 none).before args s = true) (kk : W p l e R s m args below meth c H locs cells slots Q (F0 m (pc + 3) ls rest)) : W p l e R s m args below meth c H locs cells slots Q (F0 m pc ls (.ref a :: rest)) := by
  refine W.objInit S.1 S.2.1 S.2.2.2.1 (S.2.2.2.2 _ q1) (S.2.2.2.2 _ q2) q3 rfl (by rw [S.2.2.1]; exact hl) rfl hdg hf ?_ kk
  show 2 * 0 + _ + 12 ≤ R.locals
  omega
theorem xn_obj (S : CallFix p m c cc nL s args AL own) {C : String} {T : u_T} {N ci index : Nat} (hin : ∀ w ∈ u_ws C T N, w ∈ AL) (ty : Nat → FieldType) (hty : ∀ k, k < N → parseFieldDescriptor (T k).2.2.1 = some (ty k)) (q1 : Cond.classLink own index C ∈ AL) (q2 : Cond.instantiable C N ∈ AL) (q3 : Cond.initialized C ∈ AL) (hK : va_K D vwCl tys s) (hP : va_P D vwCl ws H) (hD : va_D A ws) (hS : va_S A H0 H locs) (hA : ∀ q, H0.size ≤ q → A q) (hc : vwCl[ci]? = some (C, T, N)) {fs : List Value} (hfs : ∀ j, j < N → defaultValue (ty j) = vp_V fs j) {k n : Nat} (hcells : cells + 1 ≤ R.cells) (hslots : slots + N ≤ R.slots) (hk : cells + 1 = k) (hn : slots + N = n) (hdg : decode cc pc = .ok (.new index, 3)) (kk : ∀ (q : Nat) (H1 : Heap), va_P D vwCl ((q, .inr (ci, fs)) :: ws) H1 → va_D A ((q, .inr (ci, fs)) :: ws) → va_S A H0 H1 locs → W p l e R s m args below meth c H1 locs k n Q (F0 m (pc + 3) ls (.ref q :: rest))) : W p l e R s m args below meth c H locs cells slots Q (F0 m pc ls rest) := by
  subst hk hn
  exact va_new S.1 S.2.1 S.2.2.2.2 hin ty hty S.2.2.2.1 (S.2.2.2.2 _ q1) (S.2.2.2.2 _ q2) (S.2.2.2.2 _ q3) hK hP hD hS hA hc hfs hcells hslots hdg (fun q H1 hP hD hS => kk q H1 (mv_P hP) (mv_D hD) hS)
theorem xn_num (S : CallFix p m c cc nL s args AL own) {index : Nat} {Y : va_W} {NL : List Nat} {nt : Nat → Int32} {nu nv nd : Nat → Int64} (q1 : Cond.classLink own index "DigitBench$Num" ∈ AL) (q2 : Cond.instantiable "DigitBench$Num" 4 ∈ AL) (q3 : Cond.initialized "DigitBench$Num" ∈ AL) (hK : va_K D vwCl tys s) (hP : va_P D vwCl (Y ++ va_pl NL (nmE nt nu nv nd)) H) (hD : va_D A (Y ++ va_pl NL (nmE nt nu nv nd))) (hS : va_S A H0 H locs) (hA : ∀ q, H0.size ≤ q → A q) {k n : Nat} (hcells : cells + 1 ≤ R.cells) (hslots : slots + 4 ≤ R.slots) (hk : cells + 1 = k) (hn : slots + 4 = n) (hdg : decode cc pc = .ok (.new index, 3)) (kk : ∀ (q : Nat) (H1 : Heap), q ∉ NL → va_P D vwCl (Y ++ va_pl (NL ++ [q]) (nmE (upd nt q 0) (vp_updL nu q 0) (vp_updL nv q 0) (vp_updL nd q 0))) H1 → va_D A (Y ++ va_pl (NL ++ [q]) (nmE (upd nt q 0) (vp_updL nu q 0) (vp_updL nv q 0) (vp_updL nd q 0))) → va_S A H0 H1 locs → W p l e R s m args below meth c H1 locs k n Q (F0 m (pc + 3) ls (.ref q :: rest))) : W p l e R s m args below meth c H locs cells slots Q (F0 m pc ls rest) := by
  subst hk hn
  refine va_new (fs := [.int 0, .long 0, .long 0, .long 0]) (ci := 0) (C := RX0) (T := TX0) (N := 4) S.1 S.2.1 S.2.2.2.2 ix0 tyX0 tyX0_ok S.2.2.2.1 (S.2.2.2.2 _ q1) (S.2.2.2.2 _ q2) (S.2.2.2.2 _ q3) hK hP hD hS hA rfl (fun j hj => by rcases (show j = 0 ∨ j = 1 ∨ j = 2 ∨ j = 3 by omega) with rfl | rfl | rfl | rfl <;> rfl) hcells hslots hdg (fun q H1 hP hD hS => ?_)
  have hq : q ∉ NL := fun h => by
    obtain ⟨k, hk⟩ := va_pl_get (X := Y) (f := nmE nt nu nv nd) h
    have h2 : ((Y ++ va_pl NL (nmE nt nu nv nd)) ++ [(q, (.inr (0, [.int 0, .long 0, .long 0, .long 0]) : va_E))])[(Y ++ va_pl NL (nmE nt nu nv nd)).length]? = some (q, .inr (0, [.int 0, .long 0, .long 0, .long 0])) := by simp
    have hl := (List.getElem?_eq_some_iff.mp hk).1
    have h1 : ((Y ++ va_pl NL (nmE nt nu nv nd)) ++ [(q, (.inr (0, [.int 0, .long 0, .long 0, .long 0]) : va_E))])[k]? = some (q, nmE nt nu nv nd q) := by rw [List.getElem?_append_left hl]; exact hk
    have h3 := hD.1 k _ _ _ h1 h2 rfl
    omega
  have e : va_up (nmE nt nu nv nd) q (.inr (0, [.int 0, .long 0, .long 0, .long 0])) = nmE (upd nt q 0) (vp_updL nu q 0) (vp_updL nv q 0) (vp_updL nd q 0) := by
    funext b
    unfold va_up nmE upd vp_updL
    by_cases h : b = q
    · subst h; simp
    · simp [h]
  rw [List.append_assoc, va_pl_push hq, e] at hP hD
  exact kk q H1 hq hP hD hS
theorem xn_arr (S : CallFix p m c cc nL s args AL own) {atype : ArrayType} {ty : FieldType} (hty : newarray.typeOf atype = ty) (q1 : Cond.arrayClass ty ∈ AL) (hK : va_K D vwCl tys s) (hP : va_P D vwCl ws H) (hD : va_D A ws) (hS : va_S A H0 H locs) (hA : ∀ q, H0.size ≤ q → A q) {nn : Int32} {N' : Nat} {a0 : vp_A} (ha : ∀ cA : ClassId, vp_cell cA a0 = arrV cA N' (fun _ => defaultValue ty)) (hn : ¬ nn < 0) (hN : nn.toNatClampNeg = N') (hbytes : N' * componentBytes ty ≤ 536870912) {k n : Nat} (hcells : cells + 1 ≤ R.cells) (hslots : slots + N' ≤ R.slots) (hk : cells + 1 = k) (hn2 : slots + N' = n) (hdg : decode cc pc = .ok (.newarray atype, 2)) (kk : ∀ (q : Nat) (cA : ClassId) (H1 : Heap), va_K D vwCl (tys ++ [(cA, ty)]) s → va_P D vwCl ((q, .inl (cA, a0)) :: ws) H1 → va_D A ((q, .inl (cA, a0)) :: ws) → va_S A H0 H1 locs → W p l e R s m args below meth c H1 locs k n Q (F0 m (pc + 2) ls (.ref q :: rest))) : W p l e R s m args below meth c H locs cells slots Q (F0 m pc ls (.int nn :: rest)) := by
  subst hk hn2
  exact va_newa S.1 S.2.1 (by rw [hty]; exact S.2.2.2.2 _ q1) hty hK hP hD hS hA ha hn hN hbytes hcells hslots hdg (fun q cA H1 hK hP hD hS => kk q cA H1 hK (mv_P hP) (mv_D hD) hS)
theorem xn_ref (S : CallFix p m c cc nL s args AL own) {C : String} {index : Nat} (q1 : Cond.classLink own index C ∈ AL) (hov : va_AO C s) (hK : va_K D vwCl tys s) (hP : va_P D vwCl ws H) (hD : va_D A ws) (hS : va_S A H0 H locs) (hA : ∀ q, H0.size ≤ q → A q) {nn : Int32} {N' : Nat} (hn : ¬ nn < 0) (hN : nn.toNatClampNeg = N') (hbytes : N' * 4 ≤ 536870912) {k n : Nat} (hcells : cells + 1 ≤ R.cells) (hslots : slots + N' ≤ R.slots) (hk : cells + 1 = k) (hn2 : slots + N' = n) (hdg : decode cc pc = .ok (.anewarray index, 3)) (kk : ∀ (q : Nat) (cA : ClassId) (H1 : Heap), va_K D vwCl (tys ++ [(cA, .object C)]) s → va_P D vwCl ((q, .inl (cA, N', .inr (.inr (.inr (.inr (fun _ => none)))))) :: ws) H1 → va_D A ((q, .inl (cA, N', .inr (.inr (.inr (.inr (fun _ => none)))))) :: ws) → va_S A H0 H1 locs → W p l e R s m args below meth c H1 locs k n Q (F0 m (pc + 3) ls (.ref q :: rest))) : W p l e R s m args below meth c H locs cells slots Q (F0 m pc ls (.int nn :: rest)) := by
  subst hk hn2
  exact va_newq S.1 S.2.1 S.2.2.2.1 (S.2.2.2.2 _ q1) hov hK hP hD hS hA hn hN hbytes hcells hslots hdg (fun q cA H1 hK hP hD hS => kk q cA H1 hK (mv_P hP) (mv_D hD) hS)
variable {st0 : List Value} {wc : va_W} {y : MethodName} {yc : ByteArray} {maxL n index mc ms : Nat} {rm : Room} {Qc : Array Value → State → Outcome → State → Prop} {free : Addr → Prop} {b : Addr} {As : List Value}
theorem pcx_blind {av : List Value} {D : va_G} {tys : List (ClassId × FieldType)} {ws : va_W} {sz : Nat} : FrameBlind (va_Pc av (fun U => PcW D tys ws sz U ∧ True)) := fun a U g mk q => ⟨q.1, (pcw_blind a U g mk ⟨q.1, q.2.1⟩).2, trivial⟩
/-- a constructor is called -/
theorem rn_i (S : CallFix p m c cc nL s args AL own) (hM : Met l y (WD y yc maxL none) rm (va_Pc (.ref b :: As) (fun U => PcW D tys wc H.size U ∧ True)) Qc mc ms free) (q1 : Cond.methodLink own index y ∈ AL) (q2 : Cond.instanceMethod y ∈ AL) (q4 : Cond.initialized y.cls ∈ AL) (q5 : Cond.code y yc maxL none ∈ AL) (hd : y.cls ≠ "java/lang/invoke/MethodHandle" ∧ y.cls ≠ "java/lang/invoke/VarHandle" ∧ (parseMethodDescriptor y.desc).map (fun d => d.parameters.length) = some n) (hy : y.name = "<init>") (hR : rm.frames + 1 ≤ R.frames ∧ 8 + (maxL + 11) + rm.locals ≤ R.locals) (hrc : rm.cells = mc) (hrs : rm.slots = ms)
    (hP : va_P D vwCl wc H) (hD : va_D A wc) (hK : va_K D vwCl tys s) (hN : NW s) (hn : As.length = n) (hl : ls.size = nL) (hst : st0 = As.reverse ++ .ref b :: rest) (hW : (rest.map fun v => v.category).sum ≤ 8) (hdg : decode cc pc = .ok (.invokespecial index, 3)) (hf : cells + mc ≤ R.cells ∧ slots + ms ≤ R.slots) : va_Run p l e R s m args below meth c H locs cells slots mc ms (F0 m pc ls st0) rest (Qc (Value.ref b :: As).toArray) free :=
  va_runI S hM ⟨callB_of n S.2.2.2.2 (al_gd q5) rfl hrc hrs (S.2.2.2.2 _ q4) (S.2.2.2.2 _ q1) hd hR, hy, S.2.2.2.2 _ q2⟩ ⟨pcx_blind, fun U hU hW => ⟨rfl, ⟨by rw [hU], by rw [hU]; exact hP, va_K.moved hW.alike hK, hD.weaken (fun _ _ _ _ => trivial), hN.warm hW⟩, trivial⟩⟩ rfl hn hl hst (lv_room hW) hdg hf
theorem rn_in {host : String} (S : CallFix p m c cc nL s args AL own) (hM : Met l y (WD y yc maxL none) rm (va_Pc (.ref b :: As) (fun U => PcW D tys wc H.size U ∧ True)) Qc mc ms free) (q1 : va_Nw (.methodLinkNest own index y host) s) (q2 : Cond.instanceMethod y ∈ AL) (q4 : Cond.initialized y.cls ∈ AL) (q5 : Cond.code y yc maxL none ∈ AL) (hd : y.cls ≠ "java/lang/invoke/MethodHandle" ∧ y.cls ≠ "java/lang/invoke/VarHandle" ∧ (parseMethodDescriptor y.desc).map (fun d => d.parameters.length) = some n) (hy : y.name = "<init>") (hR : rm.frames + 1 ≤ R.frames ∧ 8 + (maxL + 11) + rm.locals ≤ R.locals) (hrc : rm.cells = mc) (hrs : rm.slots = ms)
    (hP : va_P D vwCl wc H) (hD : va_D A wc) (hK : va_K D vwCl tys s) (hN : NW s) (hn : As.length = n) (hl : ls.size = nL) (hst : st0 = As.reverse ++ .ref b :: rest) (hW : (rest.map fun v => v.category).sum ≤ 8) (hdg : decode cc pc = .ok (.invokespecial index, 3)) (hf : cells + mc ≤ R.cells ∧ slots + ms ≤ R.slots) : va_Run p l e R s m args below meth c H locs cells slots mc ms (F0 m pc ls st0) rest (Qc (Value.ref b :: As).toArray) free :=
  va_runIN S hM ⟨va_cnB n S.2.2.2.2 (al_gd q5) rfl hrc hrs q1 (S.2.2.2.2 _ q4) hd hR, hy, S.2.2.2.2 _ q2⟩ ⟨pcx_blind, fun U hU hW => ⟨rfl, ⟨by rw [hU], by rw [hU]; exact hP, va_K.moved hW.alike hK, hD.weaken (fun _ _ _ _ => trivial), hN.warm hW⟩, trivial⟩⟩ rfl hn hl hst (lv_room hW) hdg hf
/-- an end that gives the world by an existential -/
theorem rt_va (S : CallFix p m c cc nL s args AL own) (hr : meth.sig.returnType = none) (hlk : meth.locks = false) {B : State → Prop} (hB : ∀ t : State, t.heap = H → s.vm.Alike t.vm → B t) (hS : va_S A s.heap H locs) (hdg : decode cc pc = .ok (.return_, 1)) : W p l e R s m args below meth c H locs cells slots (MQ below (va_Qv (fun (_ : Unit) => True) (fun _ t => B t) A) args s cells slots A) (F0 m pc ls []) :=
  W.vret S.1 S.2.1 hr (fun t ht hW => ⟨⟨(), rfl, trivial, hB t ht hW.alike⟩, hS.F ht⟩) hS.2.2 hdg hlk
end
