/-! a call that throws, caught in the caller by one of its own clauses -/
/-- what the search for a handler gives, and the tables that it leaves -/
def gx_Fi (e : Env) (s : State) (f : JFrame) (a : Addr) (xs : List ExceptionTableEntry) (h : Handler) (vm' : Vm) : Prop :=
  ∀ (Q : Handler → Pre) (E : CtlPost) (d : Bool) (acts : List Action), wp (findHandler.go f a xs) Q E e d acts s ↔ Q h d acts (s.setVm vm')
section GFI
variable {e : Env} {s : State} {f : JFrame} {a : Addr} {x : ExceptionTableEntry} {xs : List ExceptionTableEntry} {h : Handler} {vm' : Vm} {c : ClassId} {cell : Cell}
theorem gx_Fi.skip (hx : covers x f.pc = false) (hr : gx_Fi e s f a xs h vm') : gx_Fi e s f a (x :: xs) h vm' := by
  intro Q E d acts
  rw [W.findHandler_go_skip hx]
  exact hr Q E d acts
theorem gx_Fi.take (hx : covers x f.pc = true) (h0 : x.catchType ≠ 0) (hl : s.vm.ClassLinks e.platform f.method.cls x.catchType c) (hcell : s.heap[a]? = some cell) (hobj : ∀ k, cell.vm ≠ .statics k)
    (hk : ∃ k, s.vm.classes[cell.cls]? = some k) (hc : ∃ k, s.vm.classes[c]? = some k) (hfit : s.vm.assignable cell.cls c = true) : gx_Fi e s f a (x :: xs) (.found x.handlerPc) (s.vm.noted f.method.cls x.catchType (.cls c)) := by
  intro Q E d acts
  simp only [covers] at hx
  obtain ⟨ha, ht⟩ := (resolveClass_links e.toSetting hl).op (op := VmOp.resolveClass f.method.cls x.catchType) rfl
  have hal : s.vm.Alike (s.vm.noted f.method.cls x.catchType (.cls c)) := (Vm.Alike.refl s.vm).noted _ _ _
  obtain ⟨k1, hk1⟩ := hk
  obtain ⟨k2, hk2⟩ := hc
  obtain ⟨k1', hk1', -⟩ := hal.2.2 _ _ hk1
  obtain ⟨k2', hk2', -⟩ := hal.2.2 _ _ hk2
  have hfit' : (s.vm.noted f.method.cls x.catchType (.cls c)).assignable cell.cls c = true := by rw [hal.assignable]; exact hfit
  simp [findHandler.go, hx, h0, ha, ht, hcell, hobj, hk1', hk2', hfit', VmOp.dirties, VmOp.acts]
theorem gx_Fi.pass (hx : covers x f.pc = true) (h0 : x.catchType ≠ 0) (hl : s.vm.ClassLinks e.platform f.method.cls x.catchType c) (hcell : s.heap[a]? = some cell) (hobj : ∀ k, cell.vm ≠ .statics k)
    (hk : ∃ k, s.vm.classes[cell.cls]? = some k) (hc : ∃ k, s.vm.classes[c]? = some k) (hfit : s.vm.assignable cell.cls c = false) (hr : gx_Fi e (s.setVm (s.vm.noted f.method.cls x.catchType (.cls c))) f a xs h vm') : gx_Fi e s f a (x :: xs) h vm' := by
  intro Q E d acts
  have hr' := hr Q E d acts
  simp only [covers] at hx
  obtain ⟨ha, ht⟩ := (resolveClass_links e.toSetting hl).op (op := VmOp.resolveClass f.method.cls x.catchType) rfl
  have hal : s.vm.Alike (s.vm.noted f.method.cls x.catchType (.cls c)) := (Vm.Alike.refl s.vm).noted _ _ _
  obtain ⟨k1, hk1⟩ := hk
  obtain ⟨k2, hk2⟩ := hc
  obtain ⟨k1', hk1', -⟩ := hal.2.2 _ _ hk1
  obtain ⟨k2', hk2', -⟩ := hal.2.2 _ _ hk2
  have hfit' : (s.vm.noted f.method.cls x.catchType (.cls c)).assignable cell.cls c = false := by rw [hal.assignable]; exact hfit
  have e2 : (s.setVm (s.vm.noted f.method.cls x.catchType (.cls c))).setVm vm' = s.setVm vm' := rfl
  rw [e2] at hr'
  simp [findHandler.go, hx, h0, ha, ht, hcell, hobj, hk1', hk2', hfit', VmOp.dirties, VmOp.acts]
  exact hr'
end GFI
theorem gx_ncast {A : Array Value} {s : State} {X n : String} {c t : ClassId} (h : (Cond.not (.castable X n)).before A s = true) (h1 : s.vm.findClass X = some c) (h2 : s.vm.findClass n = some t) : s.vm.assignable c t = false := by
  simp only [Cond.before, Cond.holds, Cond.value, h1, h2] at h
  simpa using h
/-- the clauses of a method, with the names of their classes: an X thrown at pc is taken at hpc -/
def gx_hp (own X : String) (pc hpc : Nat) : List (Nat × Nat × Nat × Nat) → List String → Prop
  | e :: es, n :: ns => (e.1 ≤ pc ∧ pc < e.2.1) ∧ e.2.2.2 ≠ 0 ∧ Cond.classLink own e.2.2.2 n ∈ gtbl ∧ ((n = X ∧ e.2.2.1 = hpc ∧ Cond.castable X X ∈ gl_odd) ∨ (Cond.not (.castable X n) ∈ gl_odd ∧ gx_hp own X pc hpc es ns))
  | _, _ => False
abbrev gx_quad (h : ExceptionTableEntry) : Nat × Nat × Nat × Nat := (h.startPc, h.endPc, h.handlerPc, h.catchType)
section GFN
variable {p : Program} {l : Launch} {e : Env} {R : Room} {s : State} {m : MethodId} {args : Array Value} {below : List Frame} {meth : Method} {c : Code}
theorem gx_find {own X : String} {pc hpc : Nat} (hpl : e.platform.magicAccessors = ({} : Platform).magicAccessors) (hown : s.vm.findClass own = some m.cls) (ht : ∀ w ∈ gtbl, w.before args s = true) (ho : ∀ w ∈ gl_odd, w.before args s = true)
    {f : JFrame} (hf : f.method = m) (hfpc : f.pc = pc) {a : Addr} {cell : Cell} {T0 : State} (hcell : T0.heap[a]? = some cell) (hvm : cell.vm = .none) (hcl : s.vm.findClass X = some cell.cls) :
    ∀ (es : List (Nat × Nat × Nat × Nat)) (ns : List String) (xs : List ExceptionTableEntry) (v : Vm), s.WarmedH v → gx_hp own X pc hpc es ns → xs.map gx_quad = es → ∃ vm', gx_Fi e (T0.setVm v) f a xs (.found hpc) vm' ∧ s.WarmedH vm'
  | [], _, _, _, _, h, _ => by cases h
  | q :: es, [], _, _, _, h, _ => by cases h
  | q :: es, n :: ns, [], _, _, _, hx => by cases hx
  | q :: es, n :: ns, x :: xs, v, hW, h, hx => by
    obtain ⟨h1, h2, h3, h4⟩ := h
    have hq : gx_quad x = q := (List.cons.inj hx).1
    have hxs : xs.map gx_quad = es := (List.cons.inj hx).2
    subst hq
    have hcov : covers x f.pc = true := by
      rw [hfpc]
      simp only [covers]
      simpa using h1
    obtain ⟨c', hc', hcl'⟩ := Cond.classLink_spec hown (ht _ h3) e.platform hpl
    obtain ⟨dk, _, _, kt, hd, _, _, _, _, hkt, _, hopen⟩ := hcl'.here
    have hcl₀ := hW.classLinks hcl'
    have hW' : s.WarmedH (v.noted m.cls x.catchType (.cls c')) := hW.noted hd hopen (State.rightAt_cls hcl')
    obtain ⟨kt', hkt', -⟩ := hW.alike.2.2 _ _ hkt
    obtain ⟨kx, hkx⟩ := Vm.classAt_of_findClass hcl
    obtain ⟨kx', hkx', -⟩ := hW.alike.2.2 _ _ hkx
    have hobj : ∀ k, cell.vm ≠ .statics k := fun k => by rw [hvm]; intro h; cases h
    have hcl₁ : v.ClassLinks e.platform f.method.cls x.catchType c' := by rw [hf]; exact hcl₀
    have hW1 : s.WarmedH (v.noted f.method.cls x.catchType (.cls c')) := by rw [hf]; exact hW'
    rcases h4 with ⟨rfl, rfl, hcast⟩ | ⟨hno, hrest⟩
    · obtain ⟨c3, c4, hc3, hc4, hasg⟩ := Cond.castable_spec (ho _ hcast)
      cases hc3.symm.trans hcl
      cases hc4.symm.trans hc'
      refine ⟨_, gx_Fi.take (s := T0.setVm v) hcov h2 hcl₁ hcell hobj ⟨kx', hkx'⟩ ⟨kt', hkt'⟩ ?_, hW1⟩
      show v.assignable _ _ = true
      rw [hW.alike.assignable]
      exact hasg
    · obtain ⟨vm', hF, hWv⟩ := gx_find hpl hown ht ho hf hfpc hcell hvm hcl es ns xs _ hW1 hrest hxs
      refine ⟨vm', gx_Fi.pass (s := T0.setVm v) hcov h2 hcl₁ hcell hobj ⟨kx', hkx'⟩ ⟨kt', hkt'⟩ ?_ hF, hWv⟩
      show v.assignable _ _ = false
      rw [hW.alike.assignable]
      exact gx_ncast (ho _ hno) hcl hc'
theorem gx_catchTo {s target : State} {g : JFrame} {a : Addr} (h : At s g.method c below) {pc : Nat} {vm' : Vm} (hm : s.vm.method? g.method = some meth) (hc : meth.code = some c)
    (hfind : gx_Fi e ((s.setTop g).pushFrame (.throwing a)) g a c.exceptionTable.toList (.found pc) vm') (hrest : Steps p.tables e below ((s.setVm vm').setTop { g with pc := pc, stack := [.ref a] }) target) :
    Steps p.tables e below ((s.setTop g).pushFrame (.throwing a)) target := by
  obtain ⟨hgo, hw⟩ := h.throwing a
  refine Steps.head hgo hw ?_
  have hm' : ((s.setTop g).pushFrame (.throwing a)).vm.method? g.method = some meth := by simpa [State.pushFrame, State.setFrames] using hm
  have hstep : (stepThrowing e ((s.setTop g).pushFrame (.throwing a)) a (.java g :: s.frames.tail)).Is ((((s.setTop g).pushFrame (.throwing a)).setVm vm').setFrames (.java { g with pc := pc, stack := [.ref a] } :: s.frames.tail)) [] := by
    simp only [stepThrowing, searchFrame, vmDo]
    generalize hr : Sem.go _ e false [] _ = res
    obtain ⟨as, rfl, ha⟩ := Sem.eq_ok_of hr (a := Handler.found pc) (s' := ((s.setTop g).pushFrame (.throwing a)).setVm vm') (acts' := []) (by simp [W.findHandler_eq hm' hc, hfind _ _ _ _])
    exact ⟨rfl, ha⟩
  rw [stepThread_throwing (frames_entered h.top _), hstep.1]
  obtain ⟨g₀, hg⟩ := Option.isSome_iff_exists.mp h.top
  obtain ⟨r, hr⟩ := State.topJava?_eq_some.mp hg
  have hr' : (s.setVm vm').frames = .java g₀ :: r := hr
  have e1 : ∀ (u : State) (F G : List Frame), ((u.setFrames F).setVm vm').setFrames G = (u.setVm vm').setFrames G := fun u F G => by
    have h1 : (u.setFrames F).setVm vm' = (u.setVm vm').setFrames F := rfl
    rw [h1, State.setFrames_setFrames]
  rw [State.setTop_of_frames _ hr'] at hrest
  rw [hr, List.tail_cons, State.pushFrame, e1, State.setTop_of_frames _ hr, e1]
  exact hrest
end GFN
section GVT
variable {p : Program} {l : Launch} {e : Env} {R : Room} {s : State} {m : MethodId} {args : Array Value} {below : List Frame} {meth : Method} {c : Code} {H : Heap} {locs : List Loc} {cells slots : Nat} {Q : State → Prop}
variable {cc b2 : ByteArray} {nL n2 index : Nat} {own X : String} {z : State} {D : va_G} {g : Nat → ClassId} {A : Nat → Prop} {ws wc wc' ws2 : va_W} {pc hpc fr lo : Nat} {ls : Array Slot} {rest st0 : List Value} {y : MethodName} {b : Addr} {As : List Value} {ret : Option FieldType} {hh : List (Nat × Nat × Nat × Nat)} {ns : List String}
set_option maxHeartbeats 1000000 in
theorem gx_VT (S : CallFix p m c cc nL s args gtbl own) (htab : c.exceptionTable.toList.map gx_quad = hh) (hclause : gx_hp own X pc hpc hh ns) (E : gx_E z D g s A) (hS : va_S A s.heap H locs) (hP : va_P D vwC ws H) (hD : va_D A ws)
    (hM : gx_MT l z D g y b2 n2 ret ({ frames := fr, cells := 1, slots := 6, locals := lo } : Room) (.ref b :: As) wc wc' X)
    (hcal : gx_cal y b2 n2 ret As.length) (hins : Cond.instanceMethod y ∈ gtbl) (hsel : Cond.selects y.cls y y ∈ gtbl) (hlink : Cond.methodLink own index y ∈ gtbl) (hrm : (Nat.ble (fr + 1) R.frames && Nat.ble (8 + (n2 + 11) + lo) R.locals) = true)
    (isC : List Nat) (hC : isC.map (fun i => ws[i]?) = wc.map some) (hn : va_nd isC = true) (he : wc'.map (fun q => q.1) = wc.map (fun q => q.1))
    (hrcv : ∃ cellB : Cell, H[b]? = some cellB ∧ cellB.vm.isStatics = false ∧ s.vm.findClass y.cls = some cellB.cls) (hstack : st0 = As.reverse ++ .ref b :: rest) (hls : ls.size = nL) (hcat : Nat.ble ((rest.map fun v => v.category).sum) 8 = true)
    (hdg : decode cc pc = .ok (.invokevirtual index, 3)) (hroom : cells + 1 ≤ R.cells ∧ slots + 6 ≤ R.slots) (hw : gx_set ws isC wc' = ws2)
    (kk : ∀ (x : Addr) (H1 : Heap) (locs1 : List Loc), va_S A s.heap H1 locs1 → va_P D vwC ws2 H1 → va_D A ws2 → W p l e R s m args below meth c H1 locs1 (cells + 1) (slots + 6) Q (F0 m hpc ls [.ref x])) : W p l e R s m args below meth c H locs cells slots Q (F0 m pc ls st0) := by
  rw [Bool.and_eq_true] at hrm
  have hR1 := Nat.le_of_ble_eq_true hrm.1
  have hR2 := Nat.le_of_ble_eq_true hrm.2
  have hFc := va_free (wc := wc) hD hS E.2.2.2 isC hC
  have hX : gx_X z := E.2.1.2.2.2.2.2.2.2.2
  have hodd : ∀ w ∈ gl_odd, w.before args s = true := fun w hw => gx_vmOnly E.2.1.1.alike (List.all_eq_true.mp gx_osh_all w hw) (hX.2.2.2 w hw)
  intro T hT X0
  have hy : y.cls ≠ "java/lang/invoke/MethodHandle" ∧ y.cls ≠ "java/lang/invoke/VarHandle" := ⟨hcal.2.2.1, hcal.2.2.2.1⟩
  obtain ⟨mk, methM, hnamed, hmethM, hstM, habM⟩ := Cond.instanceMethod_spec (S.2.2.2.2 _ hins)
  obtain ⟨methM', cM, hmethM', hcM, -, hlM, -, -, -, hsigM⟩ := Cond.code_spec hnamed (S.2.2.2.2 _ hcal.1)
  cases hmethM.symm.trans hmethM'
  obtain ⟨cellB, hcB, hoB, hclB⟩ := hrcv
  obtain ⟨c2, r2, m2, q1, q2, q3, q4, kP, hkP, hkPi⟩ := Cond.selects_spec (S.2.2.2.2 _ hsel)
  cases hclB.symm.trans q1
  cases (State.methodFound?_of_named hnamed hy).symm.trans q2
  cases hnamed.symm.trans q3
  have hselP : selectMethod e.platform s.vm cellB.cls mk = .method mk := by rw [Launch.admits_selectMethod X0.admits]; exact q4
  have hlen : As.length = methM.sig.parameters.length := by
    have h2 := hcal.2.2.2.2
    rw [hsigM] at h2
    exact (Option.some.inj h2).symm
  obtain ⟨vm₁, X₁, hstep₁⟩ := X0.invokevirtual S.1 S.2.2.2.1 (S.2.2.2.2 _ hlink) hnamed hmethM hstM hkP hkPi hy (a := b) (cell := cellB) (by rw [hT]; exact hcB)
    (fun z h => by rw [h] at hoB; cases hoB) hselP hmethM habM hkP hkPi (g := F0 m pc ls st0) rfl (argsL := As) (rest := rest) hlen hstack (by rw [S.2.1]; exact hdg)
  generalize hU : T.setVm vm₁ = U at X₁
  have hUh : U.heap = H := by rw [← hU, ← hT]; rfl
  have hWU : s.WarmedH U.vm := X₁.warmed
  have hnU : U.methodNamed? y = some mk := X₁.named hnamed
  obtain ⟨kY, hkY, -⟩ := className_of_methodNamed hnU
  have hall : ∀ v ∈ gtbl, v.before ((Value.ref b :: As).toArray) U = true := fun v hv => pay_in S.2.2.2.2 gx_good v hv _ U hWU
  have hinitY : kY.init = .initialized := Cond.initialized_spec (findClass_of_methodNamed hnU) hkY (hall _ hcal.2.1)
  have h : At U m c below := X₁.here
  have hdc : decode c.code (F0 m pc ls rest).pc = .ok (.invokevirtual index, 3) := by rw [S.2.1]; exact hdg
  have happ : (headSpec (Cond.code y b2 n2 ret :: gtbl) ({ frames := fr, cells := 1, slots := 6, locals := lo } : Room)).appliesLoose y e.platform (U.calling (F0 m pc ls rest) mk (Value.ref b :: As).toArray) = true :=
    Spec.appliesLoose_calling (g := F0 m pc ls rest) h hdc hnU hkY hinitY
      (X₁.room_calling (g := F0 m pc ls rest) (R' := ({ frames := fr, cells := 1, slots := 6, locals := lo } : Room)) (hls.trans S.2.2.1.symm) (show U.vm.method? mk = some methM by rw [hWU.alike.method?]; exact hmethM) hcM hR1 (by
        have h1 := gx_room (m := m) (pc := pc) (ls := ls) (st0 := rest) (rest := rest) hcat
        rw [hlM]
        show 2 * (F0 m pc ls rest).monitorRoom + (rest.map fun v => v.category).sum + (n2 + 11) + lo ≤ R.locals
        omega) hroom.1 hroom.2)
      (atoms_intro fun w hw => (List.mem_cons.mp hw).elim (fun e => by rw [e]; exact hall _ hcal.1) (fun h => hall w h))
  obtain ⟨mid, hmid⟩ := h.above
  have hfr : (U.setTop (F0 m pc ls rest)).frames = (.java (F0 m pc ls rest) :: mid) ++ below := by rw [State.frames_setTop' _ h.top, hmid]; rfl
  have hPU : gx_Pre z D g (.ref b :: As) wc H.size (Value.ref b :: As).toArray U := gx_pre (av := .ref b :: As) E hS hP hD isC hC hn U hUh hWU
  obtain ⟨o, s₂, hsteps, -, hend, hq⟩ := Steps.callFree (hM H.size) p X₁.admits X₁.cas X₁.clock (acts := []) hfr happ (gx_blind _ _ _ _ hPU) trivial
  obtain ⟨x, ce, rfl, hce, hcvm, hccl, hP2, hD2, hF2, hW2, L, hsm, hL⟩ := hq
  rw [State.frames_setTop' _ h.top] at hend
  have hend' : s₂.frames = .throwing x :: .java (F0 m pc ls rest) :: U.frames.tail := hend
  obtain ⟨e2, q2', q3', q4', q5', q6'⟩ := hsm
  have hW' : U.WarmedH s₂.vm := hW2
  have e3 : s₂ = ({ (U.calling (F0 m pc ls rest) mk (Value.ref b :: As).toArray).setFrames s₂.frames with heap := s₂.heap, slotsUsed := s₂.slotsUsed } : State).setVm s₂.vm := by
    have h1 : s₂ = ({ s₂ with vm := (U.calling (F0 m pc ls rest) mk (Value.ref b :: As).toArray).vm } : State).setVm s₂.vm := rfl
    have e2' : ({ s₂ with vm := (U.calling (F0 m pc ls rest) mk (Value.ref b :: As).toArray).vm } : State) = ({ (U.calling (F0 m pc ls rest) mk (Value.ref b :: As).toArray).setFrames s₂.frames with heap := s₂.heap, slotsUsed := s₂.slotsUsed } : State) := e2
    rw [e2'] at h1
    exact h1
  obtain ⟨g₀, hg0⟩ := Option.isSome_iff_exists.mp h.top
  obtain ⟨r, hr⟩ := State.topJava?_eq_some.mp hg0
  generalize hT' : ({ U with heap := s₂.heap, slotsUsed := s₂.slotsUsed } : State).setVm s₂.vm = T'
  have hr' : T'.frames = .java g₀ :: r := by rw [← hT']; exact hr
  have hsame : U.sameButNew ({ U with heap := s₂.heap, slotsUsed := s₂.slotsUsed } : State) L 1 6 := by
    refine ⟨?_, q2', q3', q4', q5', q6'⟩
    obtain ⟨t, ht, -⟩ := State.frames_cons hr
    show ({ U with heap := s₂.heap, slotsUsed := s₂.slotsUsed } : State) = { U.setFrames U.frames with heap := s₂.heap, slotsUsed := s₂.slotsUsed }
    rw [State.setFrames_self ht]
  have X' : Stand p l e R s m args below meth c T' (locs ++ L) (cells + 1) (slots + 6) := by
    rw [← hT']
    exact ⟨X₁.admits, X₁.cas, X₁.clock, X₁.frames, X₁.room, X₁.hears, X₁.method, X₁.code, (X₁.here.setHeapUsed s₂.heap s₂.slotsUsed).setVm hW'.alike, X₁.tail, State.WarmedH.trans X₁.warmed hW', X₁.limits, X₁.bytes, X₁.same.trans (hsame.setVm s.vm)⟩
  have hs₂ : s₂ = (T'.setTop (F0 m pc ls rest)).pushFrame (.throwing x) := by
    have hcur : T'.cur < T'.threads.size := State.cur_lt_of_frames hr'
    have hfr2 : (T'.setFrames (.java (F0 m pc ls rest) :: r)).frames = .java (F0 m pc ls rest) :: r := State.frames_setFrames _ hcur
    rw [State.pushFrame, State.setTop_of_frames _ hr', hfr2, State.setFrames_setFrames]
    refine e3.trans ?_
    rw [hend', hr, State.calling_eq h.top, State.setFrames_setFrames, ← hT']
    rfl
  have hhp : T'.heap = s₂.heap := by rw [← hT']; rfl
  have hpl : e.platform.magicAccessors = ({} : Platform).magicAccessors := by rw [X₁.admits.platform]
  have hcl : s.vm.findClass X = some ce.cls := by
    have h9 : U.vm.findClass X = some ce.cls := hccl
    rw [hWU.alike.findClass] at h9
    exact h9
  have hfv : ∀ v : Vm, ((T'.setTop (F0 m pc ls rest)).pushFrame (.throwing x)).heap = T'.heap := fun v => by simp [State.pushFrame, State.setFrames, State.setTop, State.modifyTopJava]
  have hvv : ((T'.setTop (F0 m pc ls rest)).pushFrame (.throwing x)).vm = T'.vm := by simp [State.pushFrame, State.setFrames, State.setTop, State.modifyTopJava]
  obtain ⟨vm', hF, hWv⟩ := gx_find (e := e) (T0 := (T'.setTop (F0 m pc ls rest)).pushFrame (.throwing x)) (f := F0 m pc ls rest) (a := x) hpl S.2.2.2.1 S.2.2.2.2 hodd rfl rfl (by rw [hfv T'.vm, hhp]; exact hce) hcvm hcl hh ns c.exceptionTable.toList T'.vm X'.warmed hclause htab
  have hF' : gx_Fi e ((T'.setTop (F0 m pc ls rest)).pushFrame (.throwing x)) (F0 m pc ls rest) x c.exceptionTable.toList (.found hpc) vm' := by
    have e4 : ((T'.setTop (F0 m pc ls rest)).pushFrame (.throwing x)).setVm T'.vm = (T'.setTop (F0 m pc ls rest)).pushFrame (.throwing x) := by rw [← hvv]; rfl
    rw [e4] at hF
    exact hF
  have hk : ∀ q : Nat, q < H.size → ¬ va_A wc H.size q → s₂.heap[q]? = H[q]? := fun q h1 h2 => by
    have := hF2.2 q (by show q < U.heap.size; rw [hUh]; exact h1) h2
    rw [this]
    show U.heap[q]? = _
    rw [hUh]
  obtain ⟨hP3, hD3⟩ := gx_back hP hD isC hC hn he hk hP2
  rw [hw] at hP3 hD3
  have hz : H.size ≤ s₂.heap.size := by
    have h9 : U.heap.size ≤ s₂.heap.size := hF2.1
    rw [hUh] at h9
    exact h9
  have hS3 : va_S A s.heap s₂.heap (locs ++ L) := ⟨Nat.le_trans hS.1 hz, fun q h1 h2 => by rw [hk q (Nat.lt_of_lt_of_le h1 hS.1) (fun z => h2 (hFc q z))]; exact hS.2.1 q h1 h2, fun q hq => by
    rcases List.mem_append.mp hq with h | h
    · exact hS.2.2 q h
    · exact hFc _ (hL q h)⟩
  obtain ⟨t2, a1, b1⟩ := kk x s₂.heap (locs ++ L) hS3 hP3 hD3 (T'.setVm vm') hhp (X'.noted hWv)
  refine ⟨t2, ?_, b1⟩
  refine hstep₁ _ fun acts => ?_
  rw [doInvoke_state]
  have hst := gx_catchTo (p := p) (meth := meth) (e := e) (target := t2) (g := F0 m pc ls rest) X'.here X'.method' X'.code hF' a1
  rw [hU]
  exact hsteps.trans (hs₂ ▸ hst)
end GVT
