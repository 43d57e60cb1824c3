/-! calls of methods that may throw, and the law's five that catch -/
def xm {α β : Type} (o : Option α) (a : β) (b : α → β) : β := match o with | none => a | some v => b v
theorem xm_n {α β : Type} {a r : β} {b : α → β} (h : xm none a b = r) : a = r := h
theorem xm_s {α β : Type} {a r : β} {b : α → β} {v : α} (h : xm (some v) a b = r) : b v = r := h
abbrev WDH (y : MethodName) (cc : ByteArray) (n : Nat) (ret : Option FieldType) (hh : List (Nat × Nat × Nat × Nat)) : List Cond := Cond.codeWith y cc n ret hh :: AL
theorem ct_startH {l : Launch} {y : MethodName} {cc : ByteArray} {maxL : Nat} {ret : Option FieldType} {rm : Room} {hh : List (Nat × Nat × Nat × Nat)} {av : List Value} {D : va_G} {tys : List (ClassId × FieldType)} {ws : va_W} {sz : Nat} {QF : (Nat → Prop) → Array Value → State → Outcome → State → Prop} (hy : plainName y.cls = true) (hn : (lg_sl av).length ≤ maxL)
    (body : ∀ (p : Program) (e : Env) (s : State) (m : MethodId) (args : Array Value) (below : List Frame) (meth : Method) (c : Code) (A : Nat → Prop) (ls : Array Slot), CallFix p m c cc maxL s args AL y.cls → meth.sig.returnType = ret → meth.locks = false → meth.name = y.name → c.exceptionTable.toList = tableOf hh → va_S A s.heap s.heap [] → (∀ q, s.heap.size ≤ q → A q) → va_P D vwCl ws s.heap → va_D A ws → va_K D vwCl tys s → NW s → XT A s → lv_has ls maxL (lv_args 0 av) → W p l e rm s m args below meth c s.heap [] 0 0 (MQ below (QF A) args s 1 6 A) (F0 m 0 ls [])) :
    Met l y (WDH y cc maxL ret hh) rm (va_Pc av (PcX D tys ws sz)) (QF (va_A ws sz)) 1 6 (va_A ws sz) := by
  refine va_MetW (cc := cc) (maxL := maxL) (ret := ret) (hh := hh) hy rfl ?_
  intro p e s m args below meth c s₁ B hml hv
  obtain ⟨rfl, ⟨hsz, hP, hK, hD0, hN⟩, hX⟩ := hv
  subst hsz
  have hts := atoms_spec (ws := WDH y cc maxL ret hh) B.pre
  have hD := hD0.self (sz := s.heap.size)
  rw [lg_entry_eq]
  exact body p e s m _ below meth c (va_A ws s.heap.size) _ ⟨B.exec, B.bytes, hml, findClass_of_methodNamed B.named, fun w h => hts w (List.mem_cons_of_mem _ h)⟩ B.returns B.notSynchronized (name_of_methodNamed B.named B.method).1 (vx_table (x := y) B (hts _ List.mem_cons_self)) va_S.rf (fun q h => Or.inr h) hP hD hK hN hX (lv_entry av hn)
section
variable {p : Program} {l : Launch} {e : Env} {R : Room} {s : State} {m : MethodId} {args : Array Value} {below : List Frame} {meth : Method} {c : Code} {H : Heap} {locs : List Loc} {cells slots : Nat} {Q : State → Prop}
variable {cc : ByteArray} {pc : Nat} {ls : Array Slot} {rest : List Value} {D : va_G} {A : Nat → Prop} {own : String} {nL : Nat}
variable {st0 : List Value} {a : Array Value} {H0 : Heap} {wc w1 : va_W}
variable {y : MethodName} {yc : ByteArray} {maxL n index : Nat} {ret : Option FieldType} {rm : Room} {Qc : Array Value → State → Outcome → State → Prop} {XC : String → State → State → Prop} {free : Addr → Prop} {b : Addr} {As : List Value} {tys : List (ClassId × FieldType)}
theorem rnx_v (S : CallFix p m c cc nL s args AL own) (hM : vx_Met l y (WD y yc maxL ret) rm (va_Pc (.ref b :: As) (PcX D tys wc H.size)) Qc XC 1 6 free) (q1 : Cond.methodLink own index y ∈ AL) (q2 : Cond.instanceMethod y ∈ AL) (q3 : Cond.selects y.cls y y ∈ AL) (q4 : Cond.initialized y.cls ∈ AL) (q5 : Cond.code y yc maxL ret ∈ AL) (hd : y.cls ≠ "java/lang/invoke/MethodHandle" ∧ y.cls ≠ "java/lang/invoke/VarHandle" ∧ (parseMethodDescriptor y.desc).map (fun d => d.parameters.length) = some n) (hR : rm.frames + 1 ≤ R.frames ∧ 8 + (maxL + 11) + rm.locals ≤ R.locals) (hrc : rm.cells = 1) (hrs : rm.slots = 6)
    (hP : va_P D vwCl wc H) (hD : va_D A wc) (hK : va_K D vwCl tys s) (hN : NW s) (hX : XT A s) (hS : va_S A s.heap H locs) (hA : ∀ q, s.heap.size ≤ q → A q) {ci N : Nat} {T : u_T} (hcl : vwCl[ci]? = some (y.cls, T, N)) (hrec : ∃ (q0 : Nat) (fs : List Value), wc[q0]? = some (b, .inr (ci, fs))) (hn : As.length = n) (hl : ls.size = nL) (hst : st0 = As.reverse ++ .ref b :: rest) (hW : (rest.map fun v => v.category).sum ≤ 8) (hdg : decode cc pc = .ok (.invokevirtual index, 3)) (hf : cells + 1 ≤ R.cells ∧ slots + 6 ≤ R.slots) : vx_Run p l e R s m args below meth c H locs cells slots 1 6 (F0 m pc ls st0) rest (Qc (Value.ref b :: As).toArray) XC free :=
  vx_runV (C := y.cls) S hM ⟨callB_of n S.2.2.2.2 (al_gd q5) rfl hrc hrs (S.2.2.2.2 _ q4) (S.2.2.2.2 _ q1) hd hR, S.2.2.2.2 _ q2, S.2.2.2.2 _ q3⟩ ⟨pcX_blind, (let ⟨_, _, h⟩ := hrec; va_recv hK hP hcl h), fun U hU hW => ⟨rfl, ⟨by rw [hU], by rw [hU]; exact hP, va_K.moved hW.alike hK, hD.weaken (fun _ _ _ _ => trivial), hN.warm hW⟩, hX.at hW (by rw [hU]; exact hS.2.1) (fr_c hD hS hA)⟩⟩ rfl hn hl hst (lv_room hW) hdg hf
theorem clx_i {o : Option Int32} (hr : vx_Run p l e R s m args below meth c H locs cells slots 1 6 (F0 m pc ls st0) rest (va_Qi (fun r (_ : Unit) => o = some r) (EnW D w1 (va_A wc H.size)) (va_A wc H.size) a) (XF D w1 (o = none) (va_A wc H.size)) (va_A wc H.size)) (hS : va_S A H0 H locs) (hA : ∀ q, H0.size ≤ q → A q) (hD : va_D A wc)
    (kx : ∀ (ce : Cell) (q9 : Addr) (H1 : Heap) (locs1 : List Loc), o = none → va_P D vwCl w1 H1 → va_D A w1 → va_S A H0 H1 locs1 → H1[q9]? = some ce → ce.vm = .none → s.vm.findClass xN = some ce.cls → vx_W p l e R s m args below meth c H1 locs1 (cells + 1) (slots + 6) Q (F0 m pc ls rest) q9)
    (kk : ∀ (r : Int32) (H1 : Heap) (locs1 : List Loc), o = some r → va_P D vwCl w1 H1 → va_D A w1 → va_S A H0 H1 locs1 → W p l e R s m args below meth c H1 locs1 (cells + 1) (slots + 6) Q (F0 m (pc + 3) ls (.int r :: rest))) : W p l e R s m args below meth c H locs cells slots Q (F0 m pc ls st0) := by
  have hF := fr_c hD hS hA
  refine vx_calli hr hS (fun q _ h => hF q h) hF (fun q _ h => hF q h) (fun E ce q9 u t H1 locs1 ht hvm hp hB hz hk hS1 hce hcv hcl => ?_) (fun r u t H1 locs1 ht hvm hw hB hz hk hS1 => ?_)
  · obtain ⟨rfl, hP1, hD1⟩ := hB
    rw [ht] at hP1
    exact kx ce q9 H1 locs1 hp hP1 (hD1.weaken (fun _ _ _ h => hF _ h)) hS1 hce hcv hcl
  · obtain ⟨hP1, hD1⟩ := hB
    rw [ht] at hP1
    exact kk r H1 locs1 hw hP1 (hD1.weaken (fun _ _ _ h => hF _ h)) hS1
theorem clx_l {o : Option Int64} (hr : vx_Run p l e R s m args below meth c H locs cells slots 1 6 (F0 m pc ls st0) rest (va_Ql (fun r (_ : Unit) => o = some r) (EnW D w1 (va_A wc H.size)) (va_A wc H.size) a) (XF D w1 (o = none) (va_A wc H.size)) (va_A wc H.size)) (hS : va_S A H0 H locs) (hA : ∀ q, H0.size ≤ q → A q) (hD : va_D A wc)
    (kx : ∀ (ce : Cell) (q9 : Addr) (H1 : Heap) (locs1 : List Loc), o = none → va_P D vwCl w1 H1 → va_D A w1 → va_S A H0 H1 locs1 → H1[q9]? = some ce → ce.vm = .none → s.vm.findClass xN = some ce.cls → vx_W p l e R s m args below meth c H1 locs1 (cells + 1) (slots + 6) Q (F0 m pc ls rest) q9)
    (kk : ∀ (r : Int64) (H1 : Heap) (locs1 : List Loc), o = some r → va_P D vwCl w1 H1 → va_D A w1 → va_S A H0 H1 locs1 → W p l e R s m args below meth c H1 locs1 (cells + 1) (slots + 6) Q (F0 m (pc + 3) ls (.long r :: rest))) : W p l e R s m args below meth c H locs cells slots Q (F0 m pc ls st0) := by
  have hF := fr_c hD hS hA
  refine vx_calll hr hS (fun q _ h => hF q h) hF (fun q _ h => hF q h) (fun E ce q9 u t H1 locs1 ht hvm hp hB hz hk hS1 hce hcv hcl => ?_) (fun r u t H1 locs1 ht hvm hw hB hz hk hS1 => ?_)
  · obtain ⟨rfl, hP1, hD1⟩ := hB
    rw [ht] at hP1
    exact kx ce q9 H1 locs1 hp hP1 (hD1.weaken (fun _ _ _ h => hF _ h)) hS1 hce hcv hcl
  · obtain ⟨hP1, hD1⟩ := hB
    rw [ht] at hP1
    exact kk r H1 locs1 hw hP1 (hD1.weaken (fun _ _ _ h => hF _ h)) hS1
/-- caught by the one row of the law's method -/
theorem x_catch {b9 e9 h9 : Nat} {ce : Cell} {q : Addr} (S : CallFix p m c cc nL s args AL "DigitBenchLaw") (hX : XT A s) (htb : c.exceptionTable.toList = tableOf [(b9, e9, h9, 13)]) (hx : b9 ≤ pc ∧ pc < e9) (hcell : H[q]? = some ce) (hv : ce.vm = .none) (hcl : s.vm.findClass xN = some ce.cls)
    (kk : W p l e R s m args below meth c H locs cells slots Q (F0 m h9 ls [.ref q])) : vx_W p l e R s m args below meth c H locs cells slots Q (F0 m pc ls rest) q := by
  refine vx_catch (own := "DigitBenchLaw") (name := xN) (E := xN) S.2.2.2.1 [] ⟨b9, e9, h9, 13⟩ [] htb (fun z hz => nomatch hz) ?_ (show (13 : Nat) ≠ 0 by decide) (S.2.2.2.2 _ q841) (va_Nw.use rfl hX.w1) hcell hv hcl kk
  simp [covers, hx.1, hx.2]
end
