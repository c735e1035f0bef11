/-! the contract of a method that throws, and the row of a throw -/
/-- what a throw asks of the launch and of the law's start beside gx_F -/
def gx_H (l : Launch) (z : State) : Prop := l.stackTraces = false ∧ (Cond.laysStatic "java/lang/Throwable" "UNASSIGNED_STACK" "[Ljava/lang/StackTraceElement;").before #[] z = true ∧ (Cond.laysStatic "java/lang/Throwable" "SUPPRESSED_SENTINEL" "Ljava/util/List;").before #[] z = true
theorem gx_layS {O f d : String} {A A' : Array Value} {z U : State} (h : (Cond.laysStatic O f d).before A z = true) (hvm : z.vm.Alike U.vm) (hq : ∀ q : Nat, q < z.heap.size → U.heap[q]? = z.heap[q]?) : (Cond.laysStatic O f d).before A' U = true := by
  obtain ⟨c, k, i, fd, a, cell, hc, hi, hst, ha, hcell, hs, hcls, hlt, hty⟩ := Cond.laysStatic_spec h
  obtain ⟨k', hi', hek⟩ := State.fieldFound?_setVm hvm hi
  exact Cond.laysStatic_of (s := U) (by rw [hvm.findClass]; exact hc) hi' hst (by rw [hek]; exact ha) (by rw [hq a (Array.getElem?_eq_some_iff.mp hcell).1]; exact hcell) hs hcls hlt (by rw [hek]; exact hty)
theorem gx_isR {C n d : String} {A : Nat → Prop} {U : State} {args : Array Value} (h : va_Zq C n d A U U.heap) : (Cond.isRef (.static C n d)).before args U = true := by
  rcases h with h | ⟨t, h⟩
  · obtain ⟨cf, kf, fi, f, a, cell, h1, h2, h3, h4, h5, h6, h7, h8⟩ := h
    simp [Cond.before, Cond.holds, Cond.value, Term.eval, State.fieldNamed?, h1, h2, h4, h5, h6, h7]
  · obtain ⟨cf, kf, fi, f, a, cell, h1, h2, h3, h4, h5, h6, h7, h8⟩ := h
    simp [Cond.before, Cond.holds, Cond.value, Term.eval, State.fieldNamed?, h1, h2, h4, h5, h6, h7]
def gx_osh : Cond → Bool
  | .castable _ _ => true
  | .declares _ => true
  | .not (.castable _ _) => true
  | _ => false
theorem gx_osh_all : gl_odd.all gx_osh = true := by decide +kernel
theorem gx_vmOnly {A A' : Array Value} {z U : State} (hvm : z.vm.Alike U.vm) : ∀ {w : Cond}, gx_osh w = true → w.before A z = true → w.before A' U = true
  | .castable a b, _, hz => by
    have h1 : (Cond.castable a b).before A (z.setVm U.vm) = true := by rw [Cond.castable_setVm hvm]; exact hz
    have e := Cond.onTables_vm (A := A) (A' := A') (U := z) (U' := U) U.vm (Cond.castable a b) rfl
    rw [e] at h1
    exact h1
  | .declares x, _, hz => by
    have h1 : (Cond.declares x).before A (z.setVm U.vm) = true := by rw [Cond.declares_setVm hvm]; exact hz
    have e := Cond.onTables_vm (A := A) (A' := A') (U := z) (U' := U) U.vm (Cond.declares x) rfl
    rw [e] at h1
    exact h1
  | .not (.castable a b), _, hz => by
    simp only [Cond.before, Cond.holds, Cond.value, hvm.findClass, hvm.assignable] at hz ⊢
    exact hz
def gx_xu (args : Array Value) (U : State) : Prop := (∀ w ∈ gtbl, w.before args U = true) ∧ (∀ w ∈ gl_odd, w.before args U = true) ∧
  (Cond.laysStatic "java/lang/Throwable" "UNASSIGNED_STACK" "[Ljava/lang/StackTraceElement;").before args U = true ∧ (Cond.laysStatic "java/lang/Throwable" "SUPPRESSED_SENTINEL" "Ljava/util/List;").before args U = true ∧
  (Cond.isRef (.static "java/lang/Throwable" "UNASSIGNED_STACK" "[Ljava/lang/StackTraceElement;")).before args U = true ∧ (Cond.isRef (.static "java/lang/Throwable" "SUPPRESSED_SENTINEL" "Ljava/util/List;")).before args U = true
theorem gx_mvZq {z : State} {D : va_G} {g : Nat → ClassId} {s : State} {A : Nat → Prop} {C n d : String} (E : gx_E z D g s A) (h : va_Zq C n d (gx_A0 z) z z.heap) : va_Zq C n d A s s.heap := by
  rcases h with h | ⟨t, h⟩
  · exact Or.inl (gx_mvZ E h)
  · exact Or.inr ⟨t, gx_mvZ E h⟩
theorem gx_xu_of {l : Launch} {z : State} {D : va_G} {g : Nat → ClassId} {s : State} {A : Nat → Prop} {args a' : Array Value} (hH : gx_H l z) (E : gx_E z D g s A) (ht : ∀ w ∈ gtbl, w.before args s = true) : gx_xu a' s := by
  have hX : gx_X z := E.2.1.2.2.2.2.2.2.2.2
  refine ⟨fun w hw => pay_in ht gx_good w hw a' s (State.WarmedH.refl s), fun w hw => gx_vmOnly E.2.1.1.alike (List.all_eq_true.mp gx_osh_all w hw) (hX.2.2.2 w hw), gx_layS hH.2.1 E.2.1.1.alike E.2.1.2.2.1, gx_layS hH.2.2 E.2.1.1.alike E.2.1.2.2.1, gx_isR (gx_mvZq E hX.2.1), gx_isR (gx_mvZq E hX.2.2.1)⟩
/-- what is known of an exception's class: its name, the links by which NumberText makes it -/
def gx_xf (X : String) (cl ic idx : Nat) (bytes : ByteArray) : Prop := Bundle.fit X = true ∧ (decode bytes 0 = .ok (.aload_n 0, 1) ∧ decode bytes 1 = .ok (.aload_n 1, 1) ∧ decode bytes 2 = .ok (.invokespecial idx, 3) ∧ decode bytes 5 = .ok (.return_, 1)) ∧
  (Cond.classLink "NumberText" cl X ∈ gtbl ∧ Cond.instantiable X 6 ∈ gtbl ∧ Cond.initialized X ∈ gtbl) ∧ ∀ (args : Array Value) (U : State), gx_xu args U → ∀ a ∈ gx_oa "NumberText" ic X idx bytes, a.before args U = true
def gx_Qt (D : va_G) (w w' : va_W) (X : String) (sz : Nat) : Array Value → State → Outcome → State → Prop := fun _ s o t =>
  ∃ (x : Addr) (ce : Cell), o = .threw x ∧ t.heap[x]? = some ce ∧ ce.vm = .none ∧ s.vm.findClass X = some ce.cls ∧ va_P D vwC w' t.heap ∧ va_D (va_A w sz) w' ∧ va_F (va_A w sz) s t ∧ s.WarmedH t.vm ∧ ∃ L, s.sameButNew ({ t with vm := s.vm } : State) L 1 6 ∧ ∀ q ∈ L, va_A w sz q.base
def gx_MQT (below : List Frame) (Qt : Array Value → State → Outcome → State → Prop) (a : Array Value) (s : State) : State → Prop := fun t => ∃ o, t.status = .running ∧ Ended t below o ∧ Qt a s o t
def gx_MT (l : Launch) (z : State) (D : va_G) (g : Nat → ClassId) (y : MethodName) (cc : ByteArray) (nL : Nat) (ret : Option FieldType) (rm : Room) (av : List Value) (w w' : va_W) (X : String) : Prop :=
  ∀ sz, MetFree l y (headSpec (Cond.code y cc nL ret :: gtbl) rm) (gx_Pre z D g av w sz) (fun _ _ _ _ _ => True) (gx_Qt D w w' X sz)
theorem gx_goT {l : Launch} {z : State} {D : va_G} {g : Nat → ClassId} {y : MethodName} {cc : ByteArray} {nL : Nat} {ret : Option FieldType} {rm : Room} {av : List Value} {w w' : va_W} {X : String} (hy : plainFor y = true) (hlen : Nat.ble (lg_sl av).length nL = true)
    (body : ∀ (p : Program) (e : Env) (s : State) (m : MethodId) (below : List Frame) (meth : Method) (c : Code) (ls : Array Slot), CallFix p m c cc nL s av.toArray gtbl y.cls → c.exceptionTable.isEmpty = true → meth.locks = false → meth.name = y.name → gx_E z D g s (va_A w s.heap.size) → va_P D vwC w s.heap → va_D (va_A w s.heap.size) w → lv_has ls nL (lv_args 0 av) →
      W p l e rm s m av.toArray below meth c s.heap [] 0 0 (gx_MQT below (gx_Qt D w w' X s.heap.size) av.toArray s) (F0 m 0 ls [])) :
    gx_MT l z D g y cc nL ret rm av w w' X := by
  intro sz
  refine MetFree.of_bodySF (code := cc) (maxLocals := nL) (ret := ret) hy ?_ ?_
  · intro args s m h hn
    obtain ⟨meth, c, h1, h2, h3, h4, h5, h6, -, -⟩ := Cond.code_spec hn (atoms_spec (ws := Cond.code y cc nL ret :: gtbl) h _ List.mem_cons_self)
    exact ⟨meth, c, h1, h2, h3, h4, h5, h6⟩
  · intro p e s m args below meth c s₁ B hml hv _
    obtain ⟨rfl, hsz, hP, hK, hZ, hD0⟩ := hv
    subst hsz
    have hh0 : s₁.heap = s.heap := by rw [B.state]; rfl
    have hts := atoms_spec (ws := Cond.code y cc nL ret :: gtbl) B.pre
    have hW : W p l e rm s m av.toArray below meth c s.heap [] 0 0 (gx_MQT below (gx_Qt D w w' X s.heap.size) av.toArray s) (entryFrame m av.toArray nL) := by
      rw [lg_entry_eq]
      refine body p e s m below meth c _ ⟨B.exec, B.bytes, hml, findClass_of_methodNamed B.named, fun v h => hts v (List.mem_cons_of_mem _ h)⟩ (B.noHandlers (hts _ List.mem_cons_self)) B.notSynchronized (name_of_methodNamed B.named B.method).1 ⟨hK, hZ, fun q h => ?_, fun q h => Or.inr h⟩ hP hD0.self (lv_entry av (Nat.le_of_ble_eq_true hlen))
      rcases h with ⟨k, e, h⟩ | h
      · exact hD0.2 k (q, e) h
      · exact Nat.le_trans hZ.2.1 h
    obtain ⟨t, a1, o, b1, b2, b3⟩ := hW s₁ hh0 (Stand.of_body B)
    exact ⟨t, o, a1, b1, b2, b3⟩
section GTR
variable {p : Program} {l : Launch} {e : Env} {R : Room} {s : State} {m : MethodId} {args : Array Value} {below : List Frame} {meth : Method} {c : Code} {H : Heap} {locs : List Loc} {cc : ByteArray} {nL : Nat} {z : State} {D : va_G} {g : Nat → ClassId} {w w' : va_W} {pc cl ic idx ix q : Nat} {ls : Array Slot} {X tx : String} {bytes : ByteArray}
theorem gx_thr (hH : gx_H l z) (S : CallFix p m c cc nL s args gtbl "NumberText") (hex : c.exceptionTable.isEmpty = true) (hlk : meth.locks = false) (E : gx_E z D g s (va_A w s.heap.size)) (hS : va_S (va_A w s.heap.size) s.heap H locs) (hP : va_P D vwC w' H) (hD : va_D (va_A w s.heap.size) w')
    (hX : gx_xf X cl ic idx bytes) (hstr : ∀ {U : State} {A : Nat → Prop}, gx_E z D g U A → vk_R "NumberText" ix tx q U) (hls : ls.size = nL) (hR : (Nat.ble 1 R.cells && (Nat.ble 6 R.slots && (Nat.ble 6 R.frames && Nat.ble 90 R.locals))) = true)
    (h0 : decode cc pc = .ok (.new cl, 3)) (h3 : decode cc (pc + 3) = .ok (.dup, 1)) (h4 : decode cc (pc + 3 + 1) = .ok (.ldc ix, 2)) (h6 : decode cc (pc + 3 + 1 + 2) = .ok (.invokespecial ic, 3)) (h9 : decode cc (pc + 3 + 1 + 2 + 3) = .ok (.athrow, 1)) :
    W p l e R s m args below meth c H locs 0 0 (gx_MQT below (gx_Qt D w w' X s.heap.size) args s) (F0 m pc ls []) := by
  simp only [Bool.and_eq_true] at hR
  have hR1 := Nat.le_of_ble_eq_true hR.1
  have hR2 := Nat.le_of_ble_eq_true hR.2.1
  have hR3 := Nat.le_of_ble_eq_true hR.2.2.1
  have hR4 := Nat.le_of_ble_eq_true hR.2.2.2
  intro T hT Y0
  have Y := gx_rebase Y0 (Nat.zero_le _) (Nat.zero_le _)
  generalize hs' : T.setFrames (.invoking m args :: below) = s' at Y
  have hvm : s'.vm = T.vm := by rw [← hs']; rfl
  have hhp : s'.heap = H := by rw [← hs', ← hT]; rfl
  have hW0 : s.WarmedH s'.vm := by rw [hvm]; exact Y0.warmed
  have E' : gx_E z D g s' (fun q => z.heap.size ≤ q) := by
    refine ⟨gx_K.moved hW0 E.1, ⟨State.WarmedH.trans E.2.1.1 hW0, by rw [hhp]; exact Nat.le_trans E.2.1.2.1 hS.1, fun q hq => ?_, E.2.1.2.2.2⟩, fun q h => h, fun q hq => Nat.le_trans (by rw [hhp]; exact Nat.le_trans E.2.1.2.1 hS.1) hq⟩
    rw [hhp, hS.2.1 q (Nat.lt_of_lt_of_le hq E.2.1.2.1) (fun h => absurd hq (Nat.not_lt.mpr (E.2.2.1 q h)))]
    exact E.2.1.2.2.1 q hq
  have hall : ∀ v ∈ gtbl, v.before args s' = true := fun v hv => pay_in S.2.2.2.2 gx_good v hv args s' hW0
  have hown : s'.vm.findClass "NumberText" = some m.cls := by rw [hW0.alike.findClass]; exact S.2.2.2.1
  have htr : e.platform.stackTraces = false := by
    have := Y0.admits.platform
    rw [this]
    exact hH.1
  have key : W p l e ({ frames := R.frames, cells := R.cells - 0, slots := R.slots - 0, locals := R.locals } : Room) s' m args below meth c T.heap [] 0 0 (gx_MQT below (gx_Qt D w w' X s.heap.size) args s) (F0 m pc ls []) := by
    obtain ⟨cX, kX0, hfX, -⟩ := Cond.instantiable_spec (hall _ hX.2.2.1.2.1)
    refine W.newcK (C := X) (cC := cX) (h := T.heap.size) S.1 S.2.1 hown (hall _ hX.2.2.1.1) (hall _ hX.2.2.1.2.1) (hall _ hX.2.2.1.2.2) rfl h0 (by show 0 + 1 ≤ R.cells - 0; omega) (by show 0 + 6 ≤ R.slots - 0; omega) hfX rfl (fun H' kX hkX hb hsz hold => ?_)
    refine lv_dup S.1 S.2.1 h3 rfl ?_
    refine va_ldcS S.1 S.2.1 hown (hstr E') h4 ?_
    intro T2 hT2 Y2
    obtain ⟨U, ce, hst, hrun, hend, hwm, hsame, hheap, hcls, hcvm⟩ := gx_ctor Y2 S.1 htr hlk hown hX.1 hX.2.1.1 hX.2.1.2.1 hX.2.1.2.2.1 hX.2.1.2.2.2 (hX.2.2.2 args s' (gx_xu_of hH E' hall)) hfX hkX (a := T.heap.size) (by rw [hT2]; exact hb) (by rw [hhp, hT]; exact Nat.le_refl _)
      (msg := .ref q) rfl (g := F0 m (pc + 3 + 1 + 2) ls [.ref q, .ref T.heap.size, .ref T.heap.size]) rfl (hls.trans S.2.2.1.symm) rfl rfl rfl (by rw [S.2.1]; exact h6) (by rw [S.2.1]; exact h9) (covers_of_empty hex _) (by show 5 < R.frames; omega) (by
        have := gx_room (m := m) (pc := pc + 3 + 1 + 2) (ls := ls) (st0 := [.ref q, .ref T.heap.size, .ref T.heap.size]) (rest := []) (by decide)
        have e0 : ((([] : List Value)).map fun v => v.category).sum = 0 := rfl
        rw [e0] at this
        show 2 * (F0 m (pc + 3 + 1 + 2) ls [.ref q, .ref T.heap.size, .ref T.heap.size]).monitorRoom + 1 + 81 ≤ R.locals
        generalize (F0 m (pc + 3 + 1 + 2) ls [.ref q, .ref T.heap.size, .ref T.heap.size]).monitorRoom = mr at this ⊢
        omega)
    have hUx : U.heap[T.heap.size]? = some ce := by rw [hheap, Array.getElem?_setIfInBounds_self_of_lt (by rw [hT2, hsz]; omega)]
    have hUq : ∀ q : Nat, q < T.heap.size → U.heap[q]? = T.heap[q]? := fun q hq => by
      rw [hheap, Array.getElem?_setIfInBounds_ne (by omega), hT2]
      exact hold q hq
    have hUs : U.heap.size = T.heap.size + 1 := by rw [hheap, Array.size_setIfInBounds, hT2]; exact hsz
    refine ⟨U, hst, .threw T.heap.size, hrun, hend, T.heap.size, ce, rfl, hUx, hcvm, ?_, ?_, hD, ⟨?_, ?_⟩, State.WarmedH.trans hW0 hwm, ?_⟩
    · rw [hcls, ← hW0.alike.findClass]; exact hfX
    · intro k qq hq
      have hq2 := hP k qq hq
      rw [← hT] at hq2
      exact hq2.kept (hUq _ hq2.lt)
    · rw [hUs, hT]; exact Nat.le_trans hS.1 (Nat.le_succ _)
    · intro q hq hA
      rw [hUq q (by rw [hT]; exact Nat.lt_of_lt_of_le hq hS.1), hT]
      exact hS.2.1 q hq hA
    · refine ⟨locs, ?_, hS.2.2⟩
      have h1 := Y0.same
      have h2 : s'.sameButNew ({ U with vm := s'.vm } : State) [] 1 6 := hsame
      have h4 : T.sameButNew (U.setVm T.vm) [] 1 6 := by
        obtain ⟨e1, e2, e3, e4, e5, e6⟩ := h2
        subst hs'
        refine ⟨?_, e2, e3, e4, e5, e6⟩
        rw [State.setFrames_setFrames] at e1
        exact e1
      have h3 := h1.trans (h4.setVm s.vm)
      rw [List.append_nil, Nat.zero_add, Nat.zero_add] at h3
      exact h3
  exact key T rfl Y
end GTR
