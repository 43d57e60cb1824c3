/-! throw new NoSuchElementException(text), as a row -/
def xW1 : Cond := Cond.castable "java/util/NoSuchElementException" "java/util/NoSuchElementException"
def xW2 : Cond := Cond.declares (⟨"java/lang/RuntimeException", "<init>", "(Ljava/lang/String;)V"⟩ : MethodName)
def xW3 : Cond := Cond.declares (⟨"java/lang/Exception", "<init>", "(Ljava/lang/String;)V"⟩ : MethodName)
def xW4 : Cond := Cond.declares (⟨"java/lang/Throwable", "<init>", "(Ljava/lang/String;)V"⟩ : MethodName)
/-- what stands wherever it is thrown -/
def XT (A : Nat → Prop) (U : State) : Prop := (va_Nw xW1 U) ∧ (va_Nw xW2 U) ∧ (va_Nw xW3 U) ∧ (va_Nw xW4 U) ∧ (∃ a, vk_R RX11 132 "no such part of a number" a U) ∧ (∃ a, vk_R RX11 151 "the slot has no number" a U) ∧ (∃ a, vk_R RX11 196 "no such digit of one" a U) ∧ (∃ a, vk_R RX11 201 "no such length of a row" a U) ∧ (∃ a, vk_R RX11 262 "no such round" a U) ∧ (vx_Zq Bundle.tN "UNASSIGNED_STACK" Bundle.steD A U U.heap) ∧ (vx_Zq Bundle.tN "SUPPRESSED_SENTINEL" Bundle.listD A U U.heap)
theorem XT.w1 {A : Nat → Prop} {U : State} (h : XT A U) : va_Nw xW1 U := h.1
theorem XT.w2 {A : Nat → Prop} {U : State} (h : XT A U) : va_Nw xW2 U := h.2.1
theorem XT.w3 {A : Nat → Prop} {U : State} (h : XT A U) : va_Nw xW3 U := h.2.2.1
theorem XT.w4 {A : Nat → Prop} {U : State} (h : XT A U) : va_Nw xW4 U := h.2.2.2.1
theorem XT.s1 {A : Nat → Prop} {U : State} (h : XT A U) : ∃ a, vk_R RX11 132 "no such part of a number" a U := h.2.2.2.2.1
theorem XT.s2 {A : Nat → Prop} {U : State} (h : XT A U) : ∃ a, vk_R RX11 151 "the slot has no number" a U := h.2.2.2.2.2.1
theorem XT.s3 {A : Nat → Prop} {U : State} (h : XT A U) : ∃ a, vk_R RX11 196 "no such digit of one" a U := h.2.2.2.2.2.2.1
theorem XT.s4 {A : Nat → Prop} {U : State} (h : XT A U) : ∃ a, vk_R RX11 201 "no such length of a row" a U := h.2.2.2.2.2.2.2.1
theorem XT.s5 {A : Nat → Prop} {U : State} (h : XT A U) : ∃ a, vk_R RX11 262 "no such round" a U := h.2.2.2.2.2.2.2.2.1
theorem XT.zu {A : Nat → Prop} {U : State} (h : XT A U) : vx_Zq Bundle.tN "UNASSIGNED_STACK" Bundle.steD A U U.heap := h.2.2.2.2.2.2.2.2.2.1
theorem XT.zn {A : Nat → Prop} {U : State} (h : XT A U) : vx_Zq Bundle.tN "SUPPRESSED_SENTINEL" Bundle.listD A U U.heap := h.2.2.2.2.2.2.2.2.2.2
theorem XT.at {A B : Nat → Prop} {s U : State} (h : XT A s) (hW : s.WarmedH U.vm) (hk : ∀ q : Nat, q < s.heap.size → ¬ A q → U.heap[q]? = s.heap[q]?) (hB : ∀ q, B q → A q) : XT B U := ⟨(va_Nw.warmC hW h.w1), (va_Nw.warmD hW h.w2), (va_Nw.warmD hW h.w3), (va_Nw.warmD hW h.w4), (let ⟨a, q⟩ := h.s1; ⟨a, q.warm hW⟩), (let ⟨a, q⟩ := h.s2; ⟨a, q.warm hW⟩), (let ⟨a, q⟩ := h.s3; ⟨a, q.warm hW⟩), (let ⟨a, q⟩ := h.s4; ⟨a, q.warm hW⟩), (let ⟨a, q⟩ := h.s5; ⟨a, q.warm hW⟩), ((vx_Zq.moved hW.alike (h.zu.kept hk)).narrow hB), ((vx_Zq.moved hW.alike (h.zn.kept hk)).narrow hB)⟩
theorem XT.call {A : Nat → Prop} {U : State} {g : JFrame} {mk : MethodId} {a : Array Value} (h : XT A U) : XT A (U.calling g mk a) := ⟨(va_Nw.same rfl rfl h.w1), (va_Nw.same rfl rfl h.w2), (va_Nw.same rfl rfl h.w3), (va_Nw.same rfl rfl h.w4), (let ⟨a, q⟩ := h.s1; ⟨a, vk_R.same rfl q⟩), (let ⟨a, q⟩ := h.s2; ⟨a, vk_R.same rfl q⟩), (let ⟨a, q⟩ := h.s3; ⟨a, vk_R.same rfl q⟩), (let ⟨a, q⟩ := h.s4; ⟨a, vk_R.same rfl q⟩), (let ⟨a, q⟩ := h.s5; ⟨a, vk_R.same rfl q⟩), (vx_Zq.moved (u := U) (U := U.calling g mk a) (Vm.Alike.refl U.vm) h.zu), (vx_Zq.moved (u := U) (U := U.calling g mk a) (Vm.Alike.refl U.vm) h.zn)⟩
theorem x_throw {p : Program} {l : Launch} {e : Env} {R : Room} {s : State} {m : MethodId} {args : Array Value} {below : List Frame} {meth : Method} {c : Code} {H : Heap} {locs : List Loc} {cells slots : Nat} {ls : Array Slot} {rest : List Value} {Qc : Array Value → State → Outcome → State → Prop} {XC : String → State → State → Prop} {free : Addr → Prop} {cc : ByteArray} {pc nL : Nat} {text : String} {is mc ms : Nat} {A : Nat → Prop} (k : Nat)
    (S : CallFix p m c cc nL s args AL "DigitBench") (hl : l.stackTraces = false) (hX : XT A s) (hstr : ∃ sa, vk_R RX11 is text sa s) (hS : va_S A s.heap H locs) (hsize : ls.size = nL)
    (d0 : decode cc pc = .ok (.new 130, 3)) (d3 : decode cc (pc + 3) = .ok (.dup, 1)) (d4 : (decode cc (pc + 4) = .ok (.ldc is, 2) ∧ k = pc + 6) ∨ (decode cc (pc + 4) = .ok (.ldc_w is, 3) ∧ k = pc + 7)) (d6 : decode cc k = .ok (.invokespecial 134, 3)) (d9 : decode cc (k + 3) = .ok (.athrow, 1))
    (hout : ∀ x ∈ c.exceptionTable.toList, False) (hRframes : 5 < R.frames) (hRlocals : (rest.map fun v => v.category).sum + 82 ≤ R.locals) (hRcells : cells + 1 ≤ R.cells) (hRslots : slots + 6 ≤ R.slots) (hlocks : meth.locks = false)
    (hx : ∀ t : State, H.size ≤ t.heap.size → (∀ q : Nat, q < H.size → t.heap[q]? = H[q]?) → XC xN s t) (hf : ∀ z ∈ locs, free z.base) (hc : cells + 1 ≤ mc) (hs : slots + 6 ≤ ms) :
    W p l e R s m args below meth c H locs cells slots (vx_MQ below Qc XC args s mc ms free) (F0 m pc ls rest) := by
  obtain ⟨hexec, hb, hml, hown, ha⟩ := S
  obtain ⟨sa, hstr⟩ := hstr
  intro T hT X
  have htr : e.platform.stackTraces = false := (show e.platform.stackTraces = l.stackTraces by rw [X.admits.platform]).trans hl
  have Y := vx_rebase X (R' := { frames := R.frames, locals := R.locals, cells := 1, slots := 6 }) (Nat.le_refl _) (Nat.le_refl _) hRcells hRslots
  obtain ⟨s', hA⟩ : ∃ z, z = (T.setVm s.vm).setFrames (.invoking m args :: below) := ⟨_, rfl⟩
  rw [← hA] at Y
  have hvm : s'.vm = s.vm := by rw [hA]; rfl
  have hhp : s'.heap = H := by rw [hA]; exact hT
  have hW0 : s.WarmedH s'.vm := by rw [hvm]; exact State.WarmedH.refl s
  have hat := x_at ha (va_Nw.use rfl hX.w1) (va_Nw.use rfl hX.w2) (va_Nw.use rfl hX.w3) (va_Nw.use rfl hX.w4)
  have hat' : ∀ w ∈ xAt, w.before args s' = true := fun w hw => vx_ot_at hW0 hvm.symm (x_ot w (List.mem_cons_of_mem _ (List.mem_cons_of_mem _ hw))) (hat w hw)
  have hk' : (Cond.classLink RX11 130 xN).before args s' = true := vx_ot_at hW0 hvm.symm (x_ot _ List.mem_cons_self) (ha _ q846)
  have hini' : (Cond.initialized xN).before args s' = true := vx_ot_at hW0 hvm.symm (x_ot _ (List.mem_cons_of_mem _ List.mem_cons_self)) (ha _ q65)
  have hU' : vx_Zq Bundle.tN "UNASSIGNED_STACK" Bundle.steD A s' s'.heap := by rw [hhp]; exact vx_Zq.moved hW0.alike (hX.zu.kept hS.2.1)
  have hN' : vx_Zq Bundle.tN "SUPPRESSED_SENTINEL" Bundle.listD A s' s'.heap := by rw [hhp]; exact vx_Zq.moved hW0.alike (hX.zn.kept hS.2.1)
  have h : ∀ w ∈ Bundle.ownAtomsX RX11 134 xN 13 xB xS, w.before args s' = true := vx_own hat' (vx_isRefq hU'.1) (vx_isRefq hN'.1) hU'.2.word hN'.2.word
  have hown' : s'.vm.findClass RX11 = some m.cls := by rw [hvm]; exact hown
  have hins : (Cond.instantiable xN 6).before args s' = true := h _ (by simp [Bundle.ownAtomsX])
  obtain ⟨vm₁, cX, kX, hfX, hkX, -, -, X₁, st1⟩ := Y.newCold hexec (own := RX11) (C := xN) (index := 130) (n := 6) hown' hk' hins hini' (g := F0 m pc ls rest) rfl (by rw [hb]; exact d0) (Nat.le_refl _) (Nat.le_refl _)
  generalize hT1 : (T.setVm vm₁).pushCell { cls := cX, slots := kX.instanceTypes.map defaultValue, vm := .none } = T1 at X₁ st1
  have hcat : (Value.ref T.heap.size).category = 1 := rfl
  have hcellA : T1.heap[T.heap.size]? = some (freshCell cX kX) := by rw [← hT1]; exact State.heap_pushCell_size _ _
  have d3' : decode c.code (pc + 3) = .ok (.dup, 1) := by rw [hb]; exact d3
  have hstr' : vk_R RX11 is text sa s' := vk_R.warm hW0 hstr
  obtain ⟨U, hsteps, hrun, hend, hW, hsame, ce, hce, hO1, hO2⟩ := x_ctor X₁ hexec htr xB0 xB1 xB2 xB5 (own := RX11) (cls := xN) (names := xS) (ic := 134) hown' (by decide +kernel) (by decide +kernel) h (fun x hx => nomatch hx) hfX hkX hcellA (by rw [hhp, hT]; exact Nat.le_refl _) (msg := .ref sa) rfl
    (g := { method := m, pc := k, locals := ls, stack := .ref sa :: .ref T.heap.size :: .ref T.heap.size :: rest, locked := none }) rfl (hsize.trans hml.symm) rfl rfl (rest := rest) rfl
    (by rw [hb]; exact d6) (by rw [hb]; exact d9) (fun x hx => (hout x hx).elim) hRframes (by simp only [List.map_cons, List.sum_cons, hcat, xS, List.length_cons, List.length_nil]; omega) hlocks
  obtain ⟨f1, f2⟩ := vx_frame hsame
  rw [hhp] at f1 f2
  have hWs : s.WarmedH U.vm := State.WarmedH.trans hW0 hW
  have hcl : s.vm.findClass xN = some ce.cls := by
    rw [hO1, ← hvm]
    exact hfX
  have hall : s.sameButNew ({ U with vm := s.vm } : State) locs mc ms := by
    subst hA
    obtain ⟨e1, e2⟩ := hsame
    rw [State.setFrames_setFrames] at e1
    have h2 : (T.setVm s.vm).sameButNew ({ U with vm := s.vm } : State) [] (0 + 1) (0 + 6) := ⟨e1, e2⟩
    have h3 := X.same.trans h2
    rw [List.append_nil] at h3
    exact h3.mono hc hs
  refine ⟨U, ?_, .threw T.heap.size, hrun, hend, Or.inr ⟨T.heap.size, rfl, xN, ce, locs, hx U f1 (fun q hq => f2 q hq (fun z hz => nomatch hz)), hce, hO2, hcl, hWs, hall, hf⟩⟩
  refine st1 _ ?_
  show Steps p.tables e below (T1.setTop { method := m, pc := pc + 3, locals := ls, stack := .ref T.heap.size :: rest, locked := none }) _
  jvm_step X₁.here [X₁.here.top, hexec, d3', Value.category]
  rcases d4 with ⟨d4, rfl⟩ | ⟨d4, rfl⟩
  · have d4' : decode c.code (pc + 4) = .ok (.ldc is, 2) := by rw [hb]; exact d4
    exact X₁.ldcString hexec (own := RX11) (text := text) (index := is) (a := sa) hown' hstr'.1 hstr'.2
      (g := { method := m, pc := pc + 4, locals := ls, stack := .ref T.heap.size :: .ref T.heap.size :: rest, locked := none }) rfl d4' _ hsteps
  · have d4' : decode c.code (pc + 4) = .ok (.ldc_w is, 3) := by rw [hb]; exact d4
    exact X₁.ldcStringW hexec (own := RX11) (text := text) (index := is) (a := sa) hown' hstr'.1 hstr'.2
      (g := { method := m, pc := pc + 4, locals := ls, stack := .ref T.heap.size :: .ref T.heap.size :: rest, locked := none }) rfl d4' _ hsteps
/-! the start of a method that may throw -/
abbrev PcX (D : va_G) (tys : List (ClassId × FieldType)) (ws : va_W) (sz : Nat) : State → Prop := fun U => PcW D tys ws sz U ∧ XT (va_A ws sz) U
abbrev XF (D : va_G) (ws : va_W) (P : Prop) (A : Nat → Prop) : String → State → State → Prop := vx_X (fun (_ : Unit) => P) (fun E u t => E = xN ∧ EnW D ws A u t) A
theorem pcX_blind {av : List Value} {D : va_G} {tys : List (ClassId × FieldType)} {ws : va_W} {sz : Nat} : FrameBlind (va_Pc av (PcX D tys ws sz)) := fun a U g mk q => by
  obtain ⟨q0, ⟨q1, qP, qK, qD, qN⟩, qX⟩ := q
  exact ⟨q0, ⟨q1, qP, va_K.moved (u := U) (U := U.calling g mk a) (Vm.Alike.refl U.vm) qK, qD, qN.call⟩, qX.call⟩
theorem ct_startX {l : Launch} {y : MethodName} {cc : ByteArray} {maxL : Nat} {ret : Option FieldType} {rm : Room} {av : List Value} {D : va_G} {tys : List (ClassId × FieldType)} {ws : va_W} {sz : Nat} {QF : (Nat → Prop) → Array Value → State → Outcome → State → Prop} {P : Prop} (hy : plainName y.cls = true) (hn : (lg_sl av).length ≤ maxL)
    (body : ∀ (p : Program) (e : Env) (s : State) (m : MethodId) (args : Array Value) (below : List Frame) (meth : Method) (c : Code) (A : Nat → Prop) (ls : Array Slot), CallFix p m c cc maxL s args AL y.cls → meth.sig.returnType = ret → meth.locks = false → meth.name = y.name → va_S A s.heap s.heap [] → (∀ q, s.heap.size ≤ q → A q) → va_P D vwCl ws s.heap → va_D A ws → va_K D vwCl tys s → NW s → XT A s → (∀ x ∈ c.exceptionTable.toList, False) → lv_has ls maxL (lv_args 0 av) → W p l e rm s m args below meth c s.heap [] 0 0 (vx_MQ below (QF A) (XF D ws P A) args s 1 6 A) (F0 m 0 ls [])) :
    vx_Met l y (WD y cc maxL ret) rm (va_Pc av (PcX D tys ws sz)) (QF (va_A ws sz)) (XF D ws P (va_A ws sz)) 1 6 (va_A ws sz) := by
  refine vx_ofW (cc := cc) (maxL := maxL) (ret := ret) hy rfl ?_
  intro p e s m args below meth c s₁ B hml ht hv
  obtain ⟨rfl, ⟨hsz, hP, hK, hD0, hN⟩, hX⟩ := hv
  subst hsz
  have hts := atoms_spec (ws := WD y cc maxL ret) B.pre
  have hD := hD0.self (sz := s.heap.size)
  rw [lg_entry_eq]
  exact body p e s m _ below meth c (va_A ws s.heap.size) _ ⟨B.exec, B.bytes, hml, findClass_of_methodNamed B.named, fun w h => hts w (List.mem_cons_of_mem _ h)⟩ B.returns B.notSynchronized (name_of_methodNamed B.named B.method).1 va_S.rf (fun q h => Or.inr h) hP hD hK hN hX ht (lv_entry av hn)
theorem xf_mk {D : va_G} {ws : va_W} {P : Prop} {A : Nat → Prop} {s t : State} {H : Heap} {locs : List Loc} (hp : P) (hP : va_P D vwCl ws H) (hD : va_D A ws) (hS : va_S A s.heap H locs) (hz : H.size ≤ t.heap.size) (hk : ∀ q : Nat, q < H.size → t.heap[q]? = H[q]?) : XF D ws P A xN s t :=
  ⟨(), hp, ⟨rfl, hP.kept (fun k q hq => hk q.1 (vx_lt hP hq)), hD⟩, Nat.le_trans hS.1 hz, fun q h1 h2 => (hk q (Nat.lt_of_lt_of_le h1 hS.1)).trans (hS.2.1 q h1 h2)⟩
