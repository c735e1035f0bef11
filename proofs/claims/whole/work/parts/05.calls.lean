abbrev gx_N (U : State) : Prop := ∀ q ∈ gx_nests, va_Nw (.methodLinkNest q.1 q.2.1 q.2.2.1 q.2.2.2) U
def gx_K (D : va_G) (g : Nat → ClassId) (U : State) : Prop := va_K D vwC (tyG g) U ∧ gx_N U
theorem gx_K.moved {D : va_G} {g : Nat → ClassId} {s U : State} (hW : s.WarmedH U.vm) (h : gx_K D g s) : gx_K D g U := ⟨va_K.moved hW.alike h.1, fun q hq => va_Nw.warmM hW (h.2 q hq)⟩
theorem gx_K.same {D : va_G} {g : Nat → ClassId} {u U : State} (hv : u.vm = U.vm) (h : gx_K D g u) : gx_K D g U := ⟨va_K.moved (by rw [hv]; exact Vm.Alike.refl _) h.1, fun q hq => va_Nw.same rfl hv (h.2 q hq)⟩
abbrev gx_A0 (z : State) : Nat → Prop := fun q => z.heap.size ≤ q
/-- what is said of exceptions at the law's start -/
def gl_odd : List Cond := [(Jvm.Cond.castable "java/lang/IndexOutOfBoundsException" "java/lang/IndexOutOfBoundsException"), (Jvm.Cond.declares ({ cls := "java/lang/RuntimeException", name := "<init>", desc := "()V" } : Jvm.MethodName)), (Jvm.Cond.declares ({ cls := "java/lang/RuntimeException", name := "<init>", desc := "(Ljava/lang/String;)V" } : Jvm.MethodName)), (Jvm.Cond.declares ({ cls := "java/lang/Exception", name := "<init>", desc := "()V" } : Jvm.MethodName)), (Jvm.Cond.declares ({ cls := "java/lang/Exception", name := "<init>", desc := "(Ljava/lang/String;)V" } : Jvm.MethodName)), (Jvm.Cond.declares ({ cls := "java/lang/Throwable", name := "<init>", desc := "()V" } : Jvm.MethodName)), (Jvm.Cond.declares ({ cls := "java/lang/Throwable", name := "<init>", desc := "(Ljava/lang/String;)V" } : Jvm.MethodName)), (Jvm.Cond.castable "java/lang/IllegalArgumentException" "java/lang/IllegalArgumentException"), (Jvm.Cond.castable "java/lang/UnsupportedOperationException" "java/lang/UnsupportedOperationException"), (Jvm.Cond.castable "java/lang/IllegalStateException" "java/lang/IllegalStateException"), (Jvm.Cond.castable "java/util/NoSuchElementException" "java/util/NoSuchElementException"), .not (.castable "java/lang/IllegalArgumentException" "java/lang/IndexOutOfBoundsException"), .not (.castable "java/lang/UnsupportedOperationException" "java/lang/IndexOutOfBoundsException"), .not (.castable "java/lang/IllegalStateException" "java/lang/IndexOutOfBoundsException"), .not (.castable "java/util/NoSuchElementException" "java/lang/IndexOutOfBoundsException"), .not (.castable "java/lang/IndexOutOfBoundsException" "java/lang/IllegalArgumentException"), .not (.castable "java/lang/UnsupportedOperationException" "java/lang/IllegalArgumentException"), .not (.castable "java/lang/IllegalStateException" "java/lang/IllegalArgumentException"), .not (.castable "java/util/NoSuchElementException" "java/lang/IllegalArgumentException"), .not (.castable "java/lang/IndexOutOfBoundsException" "java/lang/UnsupportedOperationException"), .not (.castable "java/lang/IllegalArgumentException" "java/lang/UnsupportedOperationException"), .not (.castable "java/lang/IllegalStateException" "java/lang/UnsupportedOperationException"), .not (.castable "java/util/NoSuchElementException" "java/lang/UnsupportedOperationException"), .not (.castable "java/lang/IndexOutOfBoundsException" "java/lang/IllegalStateException"), .not (.castable "java/lang/IllegalArgumentException" "java/lang/IllegalStateException"), .not (.castable "java/lang/UnsupportedOperationException" "java/lang/IllegalStateException"), .not (.castable "java/util/NoSuchElementException" "java/lang/IllegalStateException"), .not (.castable "java/lang/IndexOutOfBoundsException" "java/util/NoSuchElementException"), .not (.castable "java/lang/IllegalArgumentException" "java/util/NoSuchElementException"), .not (.castable "java/lang/UnsupportedOperationException" "java/util/NoSuchElementException"), .not (.castable "java/lang/IllegalStateException" "java/util/NoSuchElementException")]
def gx_X (z : State) : Prop := va_Zq "jdk/internal/util/Preconditions" "SIOOBE_FORMATTER" "Ljava/util/function/BiFunction;" (gx_A0 z) z z.heap ∧ va_Zq "java/lang/Throwable" "UNASSIGNED_STACK" "[Ljava/lang/StackTraceElement;" (gx_A0 z) z z.heap ∧ va_Zq "java/lang/Throwable" "SUPPRESSED_SENTINEL" "Ljava/util/List;" (gx_A0 z) z z.heap ∧ ∀ w ∈ gl_odd, w.before #[] z = true
/-- the constants of the classes, as they stand at the law's start: the table of fives at g 10, the two sizes at g 11 and g 12, the i-th text at g (100 + i) with its bytes at g (300 + i) -/
def gx_F (z : State) (g : Nat → ClassId) : Prop :=
  (va_Z "NumberText$Big" "FIVES" "[I" (.ref (g 10)) (gx_A0 z) z z.heap ∧ va_T .int (g 10) 14 (fun j => .int (gl_five.getD j 0)) (gx_A0 z) z z.heap) ∧
  (va_Z "NumberText$Size" "DOUBLE" "LNumberText$Size;" (.ref (g 11)) (gx_A0 z) z z.heap ∧ va_Z "NumberText$Size" "FLOAT" "LNumberText$Size;" (.ref (g 12)) (gx_A0 z) z z.heap ∧
    ∀ k, k < 2 → va_O "NumberText$Size" (g (11 + k)) (gx_A0 z) z z.heap ∧ ∀ q ∈ gl_size, va_OF "NumberText$Size" q.1 "I" (.int (q.2.getD k 0)) (g (11 + k)) (gx_A0 z) z z.heap) ∧
  (∀ i, i < 74 → va_O "java/lang/String" (g (100 + i)) (gx_A0 z) z z.heap ∧ va_OF "java/lang/String" "coder" "B" (.int 0) (g (100 + i)) (gx_A0 z) z z.heap ∧ va_OF "java/lang/String" "value" "[B" (.ref (g (300 + i))) (g (100 + i)) (gx_A0 z) z z.heap ∧ va_T .byte (g (300 + i)) (gl_len.getD i 0) (fun j => .int ((gl_byt.getD i []).getD j 0)) (gx_A0 z) z z.heap) ∧
  (∀ (i : Nat) (q : String × Nat × String), gl_ref[i]? = some q → vk_R q.1 q.2.1 q.2.2 (g (100 + i)) z) ∧
  va_Z "java/lang/String" "COMPACT_STRINGS" "Z" (.int 1) (gx_A0 z) z z.heap ∧ gx_X z
/-- what stood at the law's start stands, cell by cell -/
def gx_Z (z : State) (g : Nat → ClassId) (U : State) : Prop := z.WarmedH U.vm ∧ z.heap.size ≤ U.heap.size ∧ (∀ q : Nat, q < z.heap.size → U.heap[q]? = z.heap[q]?) ∧ gx_F z g
def gx_E (z : State) (D : va_G) (g : Nat → ClassId) (s : State) (A : Nat → Prop) : Prop := gx_K D g s ∧ gx_Z z g s ∧ (∀ q, A q → z.heap.size ≤ q) ∧ ∀ q, s.heap.size ≤ q → A q
theorem gx_mvZ {z : State} {D : va_G} {g : Nat → ClassId} {s : State} {A : Nat → Prop} {C n d : String} {v : Value} (E : gx_E z D g s A) (h : va_Z C n d v (gx_A0 z) z z.heap) : va_Z C n d v A s s.heap := ((h.moved E.2.1.1.alike).kept (fun a ha _ => E.2.1.2.2.1 a ha)).narrow E.2.2.1
theorem gx_mvT {z : State} {D : va_G} {g : Nat → ClassId} {s : State} {A : Nat → Prop} {ty : FieldType} {t N : Nat} {f : Nat → Value} (E : gx_E z D g s A) (h : va_T ty t N f (gx_A0 z) z z.heap) : va_T ty t N f A s s.heap := ((h.moved E.2.1.1.alike).kept (fun a ha _ => E.2.1.2.2.1 a ha)).narrow E.2.2.1
theorem gx_mvO {z : State} {D : va_G} {g : Nat → ClassId} {s : State} {A : Nat → Prop} {C : String} {t : Nat} (E : gx_E z D g s A) (h : va_O C t (gx_A0 z) z z.heap) : va_O C t A s s.heap := ((h.moved E.2.1.1.alike).kept (fun a ha _ => E.2.1.2.2.1 a ha)).narrow E.2.2.1
theorem gx_mvF {z : State} {D : va_G} {g : Nat → ClassId} {s : State} {A : Nat → Prop} {o n d : String} {v : Value} {t : Nat} (E : gx_E z D g s A) (h : va_OF o n d v t (gx_A0 z) z z.heap) : va_OF o n d v t A s s.heap := ((h.moved E.2.1.1.alike).kept (fun a ha _ => E.2.1.2.2.1 a ha)).narrow E.2.2.1
theorem gx_five {z : State} {D : va_G} {g : Nat → ClassId} {s : State} {A : Nat → Prop} (E : gx_E z D g s A) : va_Z "NumberText$Big" "FIVES" "[I" (.ref (g 10)) A s s.heap := gx_mvZ E E.2.1.2.2.2.1.1
theorem gx_fiveT {z : State} {D : va_G} {g : Nat → ClassId} {s : State} {A : Nat → Prop} (E : gx_E z D g s A) : va_T .int (g 10) 14 (fun j => .int (gl_five.getD j 0)) A s s.heap := gx_mvT E E.2.1.2.2.2.1.2
theorem gx_dbl {z : State} {D : va_G} {g : Nat → ClassId} {s : State} {A : Nat → Prop} (E : gx_E z D g s A) : va_Z "NumberText$Size" "DOUBLE" "LNumberText$Size;" (.ref (g (11 + 0))) A s s.heap := gx_mvZ E E.2.1.2.2.2.2.1.1
theorem gx_flt {z : State} {D : va_G} {g : Nat → ClassId} {s : State} {A : Nat → Prop} (E : gx_E z D g s A) : va_Z "NumberText$Size" "FLOAT" "LNumberText$Size;" (.ref (g (11 + 1))) A s s.heap := gx_mvZ E E.2.1.2.2.2.2.1.2.1
theorem gx_szO {z : State} {D : va_G} {g : Nat → ClassId} {s : State} {A : Nat → Prop} {k : Nat} (E : gx_E z D g s A) (hk : k < 2) : va_O "NumberText$Size" (g (11 + k)) A s s.heap := gx_mvO E (E.2.1.2.2.2.2.1.2.2 k hk).1
theorem gx_szF {z : State} {D : va_G} {g : Nat → ClassId} {s : State} {A : Nat → Prop} {k : Nat} (E : gx_E z D g s A) (hk : k < 2) {q : String × List Int32} (hq : q ∈ gl_size) : va_OF "NumberText$Size" q.1 "I" (.int (q.2.getD k 0)) (g (11 + k)) A s s.heap := gx_mvF E ((E.2.1.2.2.2.2.1.2.2 k hk).2 q hq)
theorem gx_stO {z : State} {D : va_G} {g : Nat → ClassId} {s : State} {A : Nat → Prop} {k : Nat} (E : gx_E z D g s A) (hk : k < 74) : va_O "java/lang/String" (g (100 + k)) A s s.heap := gx_mvO E (E.2.1.2.2.2.2.2.1 k hk).1
theorem gx_stC {z : State} {D : va_G} {g : Nat → ClassId} {s : State} {A : Nat → Prop} {k : Nat} (E : gx_E z D g s A) (hk : k < 74) : va_OF "java/lang/String" "coder" "B" (.int 0) (g (100 + k)) A s s.heap := gx_mvF E (E.2.1.2.2.2.2.2.1 k hk).2.1
theorem gx_stV {z : State} {D : va_G} {g : Nat → ClassId} {s : State} {A : Nat → Prop} {k : Nat} (E : gx_E z D g s A) (hk : k < 74) : va_OF "java/lang/String" "value" "[B" (.ref (g (300 + k))) (g (100 + k)) A s s.heap := gx_mvF E (E.2.1.2.2.2.2.2.1 k hk).2.2.1
theorem gx_stT {z : State} {D : va_G} {g : Nat → ClassId} {s : State} {A : Nat → Prop} {k : Nat} (E : gx_E z D g s A) (hk : k < 74) : va_T .byte (g (300 + k)) (gl_len.getD k 0) (fun j => .int ((gl_byt.getD k []).getD j 0)) A s s.heap := gx_mvT E (E.2.1.2.2.2.2.2.1 k hk).2.2.2
theorem gx_stR {z : State} {D : va_G} {g : Nat → ClassId} {s : State} {A : Nat → Prop} (E : gx_E z D g s A) (k : Nat) {q : String × Nat × String} (hk : gl_ref[k]? = some q) : vk_R q.1 q.2.1 q.2.2 (g (100 + k)) s := vk_R.warm E.2.1.1 (E.2.1.2.2.2.2.2.2.1 k q hk)
theorem gx_cmp {z : State} {D : va_G} {g : Nat → ClassId} {s : State} {A : Nat → Prop} (E : gx_E z D g s A) : va_Z "java/lang/String" "COMPACT_STRINGS" "Z" (.int 1) A s s.heap := gx_mvZ E E.2.1.2.2.2.2.2.2.2.1
theorem gx_sio {z : State} {D : va_G} {g : Nat → ClassId} {s : State} {A : Nat → Prop} (E : gx_E z D g s A) : va_Zq "jdk/internal/util/Preconditions" "SIOOBE_FORMATTER" "Ljava/util/function/BiFunction;" A s s.heap := ((E.2.1.2.2.2.2.2.2.2.2.1.moved E.2.1.1.alike).kept (fun a ha _ => E.2.1.2.2.1 a ha)).narrow E.2.2.1
abbrev gx_Pre (z : State) (D : va_G) (g : Nat → ClassId) (av : List Value) (w : va_W) (sz : Nat) : Array Value → State → Prop := va_Pc av (fun U => U.heap.size = sz ∧ va_P D vwC w U.heap ∧ gx_K D g U ∧ gx_Z z g U ∧ va_D (fun q => z.heap.size ≤ q) w)
abbrev gx_B (D : va_G) (w w' : va_W) (sz : Nat) : Unit → State → Prop := fun _ t => va_P D vwC w' t.heap ∧ va_D (va_A w sz) w'
abbrev gx_Qi (D : va_G) (w w' : va_W) (r : Int32) (sz : Nat) : Array Value → State → Outcome → State → Prop := va_Qi (fun r' (_ : Unit) => r' = r) (gx_B D w w' sz) (va_A w sz)
abbrev gx_Ql (D : va_G) (w w' : va_W) (r : Int64) (sz : Nat) : Array Value → State → Outcome → State → Prop := va_Ql (fun r' (_ : Unit) => r' = r) (gx_B D w w' sz) (va_A w sz)
abbrev gx_Qv (D : va_G) (w w' : va_W) (sz : Nat) : Array Value → State → Outcome → State → Prop := va_Qv (fun _ : Unit => True) (gx_B D w w' sz) (va_A w sz)
def gx_Mi (l : Launch) (z : State) (D : va_G) (g : Nat → ClassId) (y : MethodName) (cc : ByteArray) (nL : Nat) (ret : FieldType) (rm : Room) (av : List Value) (w w' : va_W) (r : Int32) : Prop :=
  ∀ sz, Met l y (Cond.code y cc nL (some ret) :: gtbl) rm (gx_Pre z D g av w sz) (gx_Qi D w w' r sz) 0 0 (va_A w sz)
def gx_Ml (l : Launch) (z : State) (D : va_G) (g : Nat → ClassId) (y : MethodName) (cc : ByteArray) (nL : Nat) (ret : FieldType) (rm : Room) (av : List Value) (w w' : va_W) (r : Int64) : Prop :=
  ∀ sz, Met l y (Cond.code y cc nL (some ret) :: gtbl) rm (gx_Pre z D g av w sz) (gx_Ql D w w' r sz) 0 0 (va_A w sz)
def gx_Mv (l : Launch) (z : State) (D : va_G) (g : Nat → ClassId) (y : MethodName) (cc : ByteArray) (nL : Nat) (rm : Room) (av : List Value) (w w' : va_W) : Prop :=
  ∀ sz, Met l y (Cond.code y cc nL none :: gtbl) rm (gx_Pre z D g av w sz) (gx_Qv D w w' sz) 0 0 (va_A w sz)
theorem gx_go {l : Launch} {z : State} {D : va_G} {g : Nat → ClassId} {y : MethodName} {cc : ByteArray} {nL : Nat} {ret : Option FieldType} {rm : Room} {av : List Value} {w : va_W} {Qc : Nat → Array Value → State → Outcome → State → Prop} {mc ms : Nat} (hy : plainFor y = true) (hlen : Nat.ble (lg_sl av).length nL = true)
    (body : ∀ (p : Program) (e : Env) (s : State) (m : MethodId) (below : List Frame) (meth : Method) (c : Code) (ls : Array Slot), CallFix p m c cc nL s av.toArray gtbl y.cls → meth.sig.returnType = ret → meth.locks = false → meth.name = y.name → gx_E z D g s (va_A w s.heap.size) → va_P D vwC w s.heap → va_D (va_A w s.heap.size) w → lv_has ls nL (lv_args 0 av) →
      W p l e rm s m av.toArray below meth c s.heap [] 0 0 (MQ below (Qc s.heap.size) av.toArray s mc ms (va_A w s.heap.size)) (F0 m 0 ls [])) :
    ∀ sz, Met l y (Cond.code y cc nL ret :: gtbl) rm (gx_Pre z D g av w sz) (Qc sz) mc ms (va_A w sz) := by
  intro sz
  refine va_MetF (cc := cc) (maxL := nL) (ret := ret) hy rfl ?_
  intro p e s m args below meth c s₁ B hml hv
  obtain ⟨rfl, hsz, hP, hK, hZ, hD0⟩ := hv
  subst hsz
  have hts := atoms_spec (ws := Cond.code y cc nL ret :: gtbl) B.pre
  rw [lg_entry_eq]
  refine body p e s m below meth c _ ⟨B.exec, B.bytes, hml, findClass_of_methodNamed B.named, fun v h => hts v (List.mem_cons_of_mem _ h)⟩ B.returns B.notSynchronized (name_of_methodNamed B.named B.method).1 ⟨hK, hZ, fun q h => ?_, fun q h => Or.inr h⟩ hP hD0.self (lv_entry av (Nat.le_of_ble_eq_true hlen))
  rcases h with ⟨k, e, h⟩ | h
  · exact hD0.2 k (q, e) h
  · exact Nat.le_trans hZ.2.1 h
section GXR
variable {p : Program} {l : Launch} {e : Env} {R : Room} {s : State} {m : MethodId} {args : Array Value} {below : List Frame} {meth : Method} {c : Code} {H : Heap} {locs : List Loc} {cc : ByteArray} {nL : Nat} {own : String} {D : va_G} {w w' : va_W} {pc : Nat} {ls : Array Slot}
theorem gx_ri {r : Int32} (S : CallFix p m c cc nL s args gtbl own) (hr : meth.sig.returnType = some .int) (hlk : meth.locks = false) (hS : va_S (va_A w s.heap.size) s.heap H locs) (hP : va_P D vwC w' H) (hD : va_D (va_A w s.heap.size) w') (hdg : decode cc pc = .ok (.ireturn, 1)) :
    W p l e R s m args below meth c H locs 0 0 (MQ below (gx_Qi D w w' r s.heap.size) args s 0 0 (va_A w s.heap.size)) (F0 m pc ls [.int r]) :=
  W.iret S.1 S.2.1 hr (fun t ht _ => ⟨⟨r, (), rfl, rfl, by rw [ht]; exact hP, hD⟩, hS.F ht⟩) hS.2.2 hdg
theorem gx_rz {r : Int32} {ty : FieldType} (S : CallFix p m c cc nL s args gtbl own) (hr : meth.sig.returnType = some ty) (hn : narrow ty (.int r) = .int r) (hlk : meth.locks = false) (hS : va_S (va_A w s.heap.size) s.heap H locs) (hP : va_P D vwC w' H) (hD : va_D (va_A w s.heap.size) w') (hdg : decode cc pc = .ok (.ireturn, 1)) :
    W p l e R s m args below meth c H locs 0 0 (MQ below (gx_Qi D w w' r s.heap.size) args s 0 0 (va_A w s.heap.size)) (F0 m pc ls [.int r]) :=
  W.zret S.1 S.2.1 hr hn (fun t ht _ => ⟨⟨r, (), rfl, rfl, by rw [ht]; exact hP, hD⟩, hS.F ht⟩) hS.2.2 hdg
theorem gx_rl {r : Int64} (S : CallFix p m c cc nL s args gtbl own) (hr : meth.sig.returnType = some .long) (hlk : meth.locks = false) (hS : va_S (va_A w s.heap.size) s.heap H locs) (hP : va_P D vwC w' H) (hD : va_D (va_A w s.heap.size) w') (hdg : decode cc pc = .ok (.lreturn, 1)) :
    W p l e R s m args below meth c H locs 0 0 (MQ below (gx_Ql D w w' r s.heap.size) args s 0 0 (va_A w s.heap.size)) (F0 m pc ls [.long r]) :=
  W.lret S.1 S.2.1 hr (fun t ht _ => ⟨⟨r, (), rfl, rfl, by rw [ht]; exact hP, hD⟩, hS.F ht⟩) hS.2.2 hdg
theorem gx_rv (S : CallFix p m c cc nL s args gtbl own) (hr : meth.sig.returnType = none) (hlk : meth.locks = false) (hS : va_S (va_A w s.heap.size) s.heap H locs) (hP : va_P D vwC w' H) (hD : va_D (va_A w s.heap.size) w') (hdg : decode cc pc = .ok (.return_, 1)) :
    W p l e R s m args below meth c H locs 0 0 (MQ below (gx_Qv D w w' s.heap.size) args s 0 0 (va_A w s.heap.size)) (F0 m pc ls []) :=
  W.vret S.1 S.2.1 hr (fun t ht _ => ⟨⟨(), rfl, trivial, by rw [ht]; exact hP, hD⟩, hS.F ht⟩) hS.2.2 hdg
end GXR
/-- a callee's words: its code, its class, how many arguments -/
def gx_cal (y : MethodName) (cc : ByteArray) (nL : Nat) (ret : Option FieldType) (n : Nat) : Prop := Cond.code y cc nL ret ∈ gtbl ∧ Cond.initialized y.cls ∈ gtbl ∧ (y.cls ≠ "java/lang/invoke/MethodHandle" ∧ y.cls ≠ "java/lang/invoke/VarHandle" ∧ (parseMethodDescriptor y.desc).map (fun d => d.parameters.length) = some n)
def gx_rmb (rm : Room) (n2 : Nat) (R : Room) : Bool := rm.cells.beq 0 && (rm.slots.beq 0 && (Nat.ble (rm.frames + 1) R.frames && Nat.ble (8 + (n2 + 11) + rm.locals) R.locals))
theorem gx_rm_of {rm R : Room} {n2 : Nat} (h : gx_rmb rm n2 R = true) : rm.cells = 0 ∧ rm.slots = 0 ∧ rm.frames + 1 ≤ R.frames ∧ 8 + (n2 + 11) + rm.locals ≤ R.locals := by
  simp only [gx_rmb, Bool.and_eq_true] at h
  exact ⟨Nat.eq_of_beq_eq_true h.1, Nat.eq_of_beq_eq_true h.2.1, Nat.le_of_ble_eq_true h.2.2.1, Nat.le_of_ble_eq_true h.2.2.2⟩
theorem gx_room {m : MethodId} {pc : Nat} {ls : Array Slot} {st0 rest : List Value} (h : Nat.ble ((rest.map fun v => v.category).sum) 8 = true) : 2 * (F0 m pc ls st0).monitorRoom + (rest.map fun v => v.category).sum ≤ 8 := lv_room (Nat.le_of_ble_eq_true h)
theorem gx_blind {z : State} {D : va_G} {g : Nat → ClassId} {av : List Value} {w : va_W} {sz : Nat} : FrameBlind (gx_Pre z D g av w sz) := by
  intro a U gg mk q
  obtain ⟨q0, q1, qP, qK, qZ, qD⟩ := q
  exact ⟨q0, q1, qP, gx_K.same (u := U) rfl qK, ⟨qZ.1, qZ.2.1, qZ.2.2.1, qZ.2.2.2⟩, qD⟩
theorem gx_pre {z : State} {D : va_G} {g : Nat → ClassId} {s : State} {A : Nat → Prop} {H : Heap} {locs : List Loc} {ws wc : va_W} {av : List Value} (E : gx_E z D g s A) (hS : va_S A s.heap H locs) (hP : va_P D vwC ws H) (hD : va_D A ws) (isC : List Nat) (hC : isC.map (fun i => ws[i]?) = wc.map some) (hn : va_nd isC = true) :
    ∀ U : State, U.heap = H → s.WarmedH U.vm → gx_Pre z D g av wc H.size av.toArray U := by
  intro U hU hW
  have hPc : va_P D vwC wc H := by
    intro j q hq
    have h1 : (isC.map (fun i => ws[i]?))[j]? = some (some q) := by rw [hC, List.getElem?_map, hq]; rfl
    rw [List.getElem?_map] at h1
    cases hi : isC[j]? with
    | none => rw [hi] at h1; cases h1
    | some i => rw [hi] at h1; exact hP i q (Option.some.inj h1)
  refine ⟨rfl, by rw [hU], by rw [hU]; exact hPc, gx_K.moved hW E.1, ⟨State.WarmedH.trans E.2.1.1 hW, by rw [hU]; exact Nat.le_trans E.2.1.2.1 hS.1, fun q hq => ?_, E.2.1.2.2.2⟩, (hD.sub isC hn hC).weaken (fun k q _ h => E.2.2.1 q.1 h)⟩
  rw [hU, hS.2.1 q (Nat.lt_of_lt_of_le hq E.2.1.2.1) (fun h => absurd hq (Nat.not_lt.mpr (E.2.2.1 q h)))]
  exact E.2.1.2.2.1 q hq
theorem gx_rc {z : State} {D : va_G} {g : Nat → ClassId} {s : State} {A : Nat → Prop} {H : Heap} {ws : va_W} {b : Nat} (E : gx_E z D g s A) (hP : va_P D vwC ws H) (q0 : Nat) {ci : Nat} {fs : List Value} (h0 : ws[q0]? = some (b, .inr (ci, fs))) {C : String} {T : u_T} {N : Nat} (hc : vwC[ci]? = some (C, T, N)) : ∃ cellB : Cell, H[b]? = some cellB ∧ cellB.vm.isStatics = false ∧ s.vm.findClass C = some cellB.cls := va_recv E.1.1 hP hc h0
theorem gx_rcO {C : String} {t : Nat} {s : State} {A : Nat → Prop} {H : Heap} {locs : List Loc} (h : va_O C t A s s.heap) (hS : va_S A s.heap H locs) : ∃ cellB : Cell, H[t]? = some cellB ∧ cellB.vm.isStatics = false ∧ s.vm.findClass C = some cellB.cls := by
  obtain ⟨cell, h1, h2, h3, -⟩ := h.kept hS.2.1
  exact ⟨cell, h1, h2, h3⟩
section GXC
variable {p : Program} {l : Launch} {e : Env} {R : Room} {s : State} {m : MethodId} {args : Array Value} {below : List Frame} {meth : Method} {c : Code} {H : Heap} {locs : List Loc} {cells slots : Nat} {Q : State → Prop}
variable {cc b2 : ByteArray} {nL n2 index : Nat} {own C host : String} {z : State} {D : va_G} {g : Nat → ClassId} {A : Nat → Prop} {ws wc wc' : va_W} {pc : Nat} {ls : Array Slot} {rest st0 : List Value} {y : MethodName} {ret : FieldType} {rm : Room} {b : Addr} {As : List Value}
abbrev gx_kk (p : Program) (l : Launch) (e : Env) (R : Room) (s : State) (m : MethodId) (args : Array Value) (below : List Frame) (meth : Method) (c : Code) (cells slots : Nat) (Q : State → Prop) (D : va_G) (A : Nat → Prop) (w : va_W) (fr : JFrame) : Prop :=
  ∀ (H1 : Heap) (locs1 : List Loc), va_S A s.heap H1 locs1 → va_P D vwC w H1 → va_D A w → W p l e R s m args below meth c H1 locs1 cells slots Q fr
theorem gx_Vi {r : Int32} (S : CallFix p m c cc nL s args gtbl own) (E : gx_E z D g s A) (hS : va_S A s.heap H locs) (hP : va_P D vwC ws H) (hD : va_D A ws) (hM : gx_Mi l z D g y b2 n2 ret rm (.ref b :: As) wc wc' r)
    (hcal : gx_cal y b2 n2 (some ret) As.length) (hins : Cond.instanceMethod y ∈ gtbl) (hsel : Cond.selects y.cls y y ∈ gtbl) (hlink : Cond.methodLink own index y ∈ gtbl) (hrm : gx_rmb rm n2 R = true) (isC : List Nat) (hC : isC.map (fun i => ws[i]?) = wc.map some) (hn : va_nd isC = true) (he : wc'.map (fun q => q.1) = wc.map (fun q => q.1))
    (hrcv : ∃ cellB : Cell, H[b]? = some cellB ∧ cellB.vm.isStatics = false ∧ s.vm.findClass y.cls = some cellB.cls) (hstack : st0 = As.reverse ++ .ref b :: rest) (hls : ls.size = nL) (hcat : Nat.ble ((rest.map fun v => v.category).sum) 8 = true) (hdg : decode cc pc = .ok (.invokevirtual index, 3)) (hroom : cells ≤ R.cells ∧ slots ≤ R.slots)
    {ws2 : va_W} (hw : gx_set ws isC wc' = ws2) (kk : gx_kk p l e R s m args below meth c cells slots Q D A ws2 (F0 m (pc + 3) ls (.int r :: rest))) : W p l e R s m args below meth c H locs cells slots Q (F0 m pc ls st0) := by
  obtain ⟨h1, h2, h3, h4⟩ := gx_rm_of hrm
  have hFc := va_free (wc := wc) hD hS E.2.2.2 isC hC
  refine va_calli (va_runV (As := As) (rest := rest) (b := b) (C := y.cls) S (hM H.size) ⟨callB_of As.length S.2.2.2.2 (gx_goodC hcal.1) rfl h1 h2 (S.2.2.2.2 _ hcal.2.1) (S.2.2.2.2 _ hlink) hcal.2.2 ⟨h3, h4⟩, S.2.2.2.2 _ hins, S.2.2.2.2 _ hsel⟩ ⟨gx_blind, hrcv, gx_pre E hS hP hD isC hC hn⟩ rfl rfl hls hstack (gx_room hcat) hdg hroom) hS (fun q _ h => hFc q h) hFc (fun r' u t H1 locs1 ht hvm hpost hB hz hk hS1 => ?_)
  subst hpost
  obtain ⟨hP2, hD2⟩ := gx_back hP hD isC hC hn he hk (by rw [← ht]; exact hB.1)
  rw [hw] at hP2 hD2
  exact kk H1 locs1 hS1 hP2 hD2
theorem gx_Vl {r : Int64} (S : CallFix p m c cc nL s args gtbl own) (E : gx_E z D g s A) (hS : va_S A s.heap H locs) (hP : va_P D vwC ws H) (hD : va_D A ws) (hM : gx_Ml l z D g y b2 n2 ret rm (.ref b :: As) wc wc' r)
    (hcal : gx_cal y b2 n2 (some ret) As.length) (hins : Cond.instanceMethod y ∈ gtbl) (hsel : Cond.selects y.cls y y ∈ gtbl) (hlink : Cond.methodLink own index y ∈ gtbl) (hrm : gx_rmb rm n2 R = true) (isC : List Nat) (hC : isC.map (fun i => ws[i]?) = wc.map some) (hn : va_nd isC = true) (he : wc'.map (fun q => q.1) = wc.map (fun q => q.1))
    (hrcv : ∃ cellB : Cell, H[b]? = some cellB ∧ cellB.vm.isStatics = false ∧ s.vm.findClass y.cls = some cellB.cls) (hstack : st0 = As.reverse ++ .ref b :: rest) (hls : ls.size = nL) (hcat : Nat.ble ((rest.map fun v => v.category).sum) 8 = true) (hdg : decode cc pc = .ok (.invokevirtual index, 3)) (hroom : cells ≤ R.cells ∧ slots ≤ R.slots)
    {ws2 : va_W} (hw : gx_set ws isC wc' = ws2) (kk : gx_kk p l e R s m args below meth c cells slots Q D A ws2 (F0 m (pc + 3) ls (.long r :: rest))) : W p l e R s m args below meth c H locs cells slots Q (F0 m pc ls st0) := by
  obtain ⟨h1, h2, h3, h4⟩ := gx_rm_of hrm
  have hFc := va_free (wc := wc) hD hS E.2.2.2 isC hC
  refine va_calll (va_runV (As := As) (rest := rest) (b := b) (C := y.cls) S (hM H.size) ⟨callB_of As.length S.2.2.2.2 (gx_goodC hcal.1) rfl h1 h2 (S.2.2.2.2 _ hcal.2.1) (S.2.2.2.2 _ hlink) hcal.2.2 ⟨h3, h4⟩, S.2.2.2.2 _ hins, S.2.2.2.2 _ hsel⟩ ⟨gx_blind, hrcv, gx_pre E hS hP hD isC hC hn⟩ rfl rfl hls hstack (gx_room hcat) hdg hroom) hS (fun q _ h => hFc q h) hFc (fun r' u t H1 locs1 ht hvm hpost hB hz hk hS1 => ?_)
  subst hpost
  obtain ⟨hP2, hD2⟩ := gx_back hP hD isC hC hn he hk (by rw [← ht]; exact hB.1)
  rw [hw] at hP2 hD2
  exact kk H1 locs1 hS1 hP2 hD2
theorem gx_Vv (S : CallFix p m c cc nL s args gtbl own) (E : gx_E z D g s A) (hS : va_S A s.heap H locs) (hP : va_P D vwC ws H) (hD : va_D A ws) (hM : gx_Mv l z D g y b2 n2 rm (.ref b :: As) wc wc')
    (hcal : gx_cal y b2 n2 none As.length) (hins : Cond.instanceMethod y ∈ gtbl) (hsel : Cond.selects y.cls y y ∈ gtbl) (hlink : Cond.methodLink own index y ∈ gtbl) (hrm : gx_rmb rm n2 R = true) (isC : List Nat) (hC : isC.map (fun i => ws[i]?) = wc.map some) (hn : va_nd isC = true) (he : wc'.map (fun q => q.1) = wc.map (fun q => q.1))
    (hrcv : ∃ cellB : Cell, H[b]? = some cellB ∧ cellB.vm.isStatics = false ∧ s.vm.findClass y.cls = some cellB.cls) (hstack : st0 = As.reverse ++ .ref b :: rest) (hls : ls.size = nL) (hcat : Nat.ble ((rest.map fun v => v.category).sum) 8 = true) (hdg : decode cc pc = .ok (.invokevirtual index, 3)) (hroom : cells ≤ R.cells ∧ slots ≤ R.slots)
    {ws2 : va_W} (hw : gx_set ws isC wc' = ws2) (kk : gx_kk p l e R s m args below meth c cells slots Q D A ws2 (F0 m (pc + 3) ls rest)) : W p l e R s m args below meth c H locs cells slots Q (F0 m pc ls st0) := by
  obtain ⟨h1, h2, h3, h4⟩ := gx_rm_of hrm
  have hFc := va_free (wc := wc) hD hS E.2.2.2 isC hC
  refine va_callv (va_runV (As := As) (rest := rest) (b := b) (C := y.cls) S (hM H.size) ⟨callB_of As.length S.2.2.2.2 (gx_goodC hcal.1) rfl h1 h2 (S.2.2.2.2 _ hcal.2.1) (S.2.2.2.2 _ hlink) hcal.2.2 ⟨h3, h4⟩, S.2.2.2.2 _ hins, S.2.2.2.2 _ hsel⟩ ⟨gx_blind, hrcv, gx_pre E hS hP hD isC hC hn⟩ rfl rfl hls hstack (gx_room hcat) hdg hroom) hS (fun q _ h => hFc q h) hFc (fun u t H1 locs1 ht hvm hpost hB hz hk hS1 => ?_)
  obtain ⟨hP2, hD2⟩ := gx_back hP hD isC hC hn he hk (by rw [← ht]; exact hB.1)
  rw [hw] at hP2 hD2
  exact kk H1 locs1 hS1 hP2 hD2
theorem gx_Si {r : Int32} (S : CallFix p m c cc nL s args gtbl own) (E : gx_E z D g s A) (hS : va_S A s.heap H locs) (hP : va_P D vwC ws H) (hD : va_D A ws) (hM : gx_Mi l z D g y b2 n2 ret rm As wc wc' r)
    (hcal : gx_cal y b2 n2 (some ret) As.length) (hst : Cond.static y ∈ gtbl) (hlink : Cond.methodLink own index y ∈ gtbl) (hrm : gx_rmb rm n2 R = true) (isC : List Nat) (hC : isC.map (fun i => ws[i]?) = wc.map some) (hn : va_nd isC = true) (he : wc'.map (fun q => q.1) = wc.map (fun q => q.1))
    (hstack : st0 = As.reverse ++ rest) (hls : ls.size = nL) (hcat : Nat.ble ((rest.map fun v => v.category).sum) 8 = true) (hdg : decode cc pc = .ok (.invokestatic index, 3)) (hroom : cells ≤ R.cells ∧ slots ≤ R.slots)
    {ws2 : va_W} (hw : gx_set ws isC wc' = ws2) (kk : gx_kk p l e R s m args below meth c cells slots Q D A ws2 (F0 m (pc + 3) ls (.int r :: rest))) : W p l e R s m args below meth c H locs cells slots Q (F0 m pc ls st0) := by
  obtain ⟨h1, h2, h3, h4⟩ := gx_rm_of hrm
  have hFc := va_free (wc := wc) hD hS E.2.2.2 isC hC
  refine va_calli (va_runS (As := As) (rest := rest) S (hM H.size) ⟨callB_of As.length S.2.2.2.2 (gx_goodC hcal.1) rfl h1 h2 (S.2.2.2.2 _ hcal.2.1) (S.2.2.2.2 _ hlink) hcal.2.2 ⟨h3, h4⟩, S.2.2.2.2 _ hst⟩ ⟨gx_blind, gx_pre E hS hP hD isC hC hn⟩ rfl rfl hls hstack (gx_room hcat) hdg hroom) hS (fun q _ h => hFc q h) hFc (fun r' u t H1 locs1 ht hvm hpost hB hz hk hS1 => ?_)
  subst hpost
  obtain ⟨hP2, hD2⟩ := gx_back hP hD isC hC hn he hk (by rw [← ht]; exact hB.1)
  rw [hw] at hP2 hD2
  exact kk H1 locs1 hS1 hP2 hD2
theorem gx_Sl {r : Int64} (S : CallFix p m c cc nL s args gtbl own) (E : gx_E z D g s A) (hS : va_S A s.heap H locs) (hP : va_P D vwC ws H) (hD : va_D A ws) (hM : gx_Ml l z D g y b2 n2 ret rm As wc wc' r)
    (hcal : gx_cal y b2 n2 (some ret) As.length) (hst : Cond.static y ∈ gtbl) (hlink : Cond.methodLink own index y ∈ gtbl) (hrm : gx_rmb rm n2 R = true) (isC : List Nat) (hC : isC.map (fun i => ws[i]?) = wc.map some) (hn : va_nd isC = true) (he : wc'.map (fun q => q.1) = wc.map (fun q => q.1))
    (hstack : st0 = As.reverse ++ rest) (hls : ls.size = nL) (hcat : Nat.ble ((rest.map fun v => v.category).sum) 8 = true) (hdg : decode cc pc = .ok (.invokestatic index, 3)) (hroom : cells ≤ R.cells ∧ slots ≤ R.slots)
    {ws2 : va_W} (hw : gx_set ws isC wc' = ws2) (kk : gx_kk p l e R s m args below meth c cells slots Q D A ws2 (F0 m (pc + 3) ls (.long r :: rest))) : W p l e R s m args below meth c H locs cells slots Q (F0 m pc ls st0) := by
  obtain ⟨h1, h2, h3, h4⟩ := gx_rm_of hrm
  have hFc := va_free (wc := wc) hD hS E.2.2.2 isC hC
  refine va_calll (va_runS (As := As) (rest := rest) S (hM H.size) ⟨callB_of As.length S.2.2.2.2 (gx_goodC hcal.1) rfl h1 h2 (S.2.2.2.2 _ hcal.2.1) (S.2.2.2.2 _ hlink) hcal.2.2 ⟨h3, h4⟩, S.2.2.2.2 _ hst⟩ ⟨gx_blind, gx_pre E hS hP hD isC hC hn⟩ rfl rfl hls hstack (gx_room hcat) hdg hroom) hS (fun q _ h => hFc q h) hFc (fun r' u t H1 locs1 ht hvm hpost hB hz hk hS1 => ?_)
  subst hpost
  obtain ⟨hP2, hD2⟩ := gx_back hP hD isC hC hn he hk (by rw [← ht]; exact hB.1)
  rw [hw] at hP2 hD2
  exact kk H1 locs1 hS1 hP2 hD2
theorem gx_Sv (S : CallFix p m c cc nL s args gtbl own) (E : gx_E z D g s A) (hS : va_S A s.heap H locs) (hP : va_P D vwC ws H) (hD : va_D A ws) (hM : gx_Mv l z D g y b2 n2 rm As wc wc')
    (hcal : gx_cal y b2 n2 none As.length) (hst : Cond.static y ∈ gtbl) (hlink : Cond.methodLink own index y ∈ gtbl) (hrm : gx_rmb rm n2 R = true) (isC : List Nat) (hC : isC.map (fun i => ws[i]?) = wc.map some) (hn : va_nd isC = true) (he : wc'.map (fun q => q.1) = wc.map (fun q => q.1))
    (hstack : st0 = As.reverse ++ rest) (hls : ls.size = nL) (hcat : Nat.ble ((rest.map fun v => v.category).sum) 8 = true) (hdg : decode cc pc = .ok (.invokestatic index, 3)) (hroom : cells ≤ R.cells ∧ slots ≤ R.slots)
    {ws2 : va_W} (hw : gx_set ws isC wc' = ws2) (kk : gx_kk p l e R s m args below meth c cells slots Q D A ws2 (F0 m (pc + 3) ls rest)) : W p l e R s m args below meth c H locs cells slots Q (F0 m pc ls st0) := by
  obtain ⟨h1, h2, h3, h4⟩ := gx_rm_of hrm
  have hFc := va_free (wc := wc) hD hS E.2.2.2 isC hC
  refine va_callv (va_runS (As := As) (rest := rest) S (hM H.size) ⟨callB_of As.length S.2.2.2.2 (gx_goodC hcal.1) rfl h1 h2 (S.2.2.2.2 _ hcal.2.1) (S.2.2.2.2 _ hlink) hcal.2.2 ⟨h3, h4⟩, S.2.2.2.2 _ hst⟩ ⟨gx_blind, gx_pre E hS hP hD isC hC hn⟩ rfl rfl hls hstack (gx_room hcat) hdg hroom) hS (fun q _ h => hFc q h) hFc (fun u t H1 locs1 ht hvm hpost hB hz hk hS1 => ?_)
  obtain ⟨hP2, hD2⟩ := gx_back hP hD isC hC hn he hk (by rw [← ht]; exact hB.1)
  rw [hw] at hP2 hD2
  exact kk H1 locs1 hS1 hP2 hD2
theorem gx_Ti {r : Int32} (S : CallFix p m c cc nL s args gtbl own) (E : gx_E z D g s A) (hS : va_S A s.heap H locs) (hP : va_P D vwC ws H) (hD : va_D A ws) (hM : gx_Mi l z D g y b2 n2 ret rm As wc wc' r)
    (hcal : gx_cal y b2 n2 (some ret) As.length) (hst : Cond.static y ∈ gtbl) (hlink : (own, index, y, host) ∈ gx_nests) (hrm : gx_rmb rm n2 R = true) (isC : List Nat) (hC : isC.map (fun i => ws[i]?) = wc.map some) (hn : va_nd isC = true) (he : wc'.map (fun q => q.1) = wc.map (fun q => q.1))
    (hstack : st0 = As.reverse ++ rest) (hls : ls.size = nL) (hcat : Nat.ble ((rest.map fun v => v.category).sum) 8 = true) (hdg : decode cc pc = .ok (.invokestatic index, 3)) (hroom : cells ≤ R.cells ∧ slots ≤ R.slots)
    {ws2 : va_W} (hw : gx_set ws isC wc' = ws2) (kk : gx_kk p l e R s m args below meth c cells slots Q D A ws2 (F0 m (pc + 3) ls (.int r :: rest))) : W p l e R s m args below meth c H locs cells slots Q (F0 m pc ls st0) := by
  obtain ⟨h1, h2, h3, h4⟩ := gx_rm_of hrm
  have hFc := va_free (wc := wc) hD hS E.2.2.2 isC hC
  refine va_calli (va_runSN (As := As) (rest := rest) S (hM H.size) ⟨va_cnB As.length S.2.2.2.2 (gx_goodC hcal.1) rfl h1 h2 (E.1.2 _ hlink) (S.2.2.2.2 _ hcal.2.1) hcal.2.2 ⟨h3, h4⟩, S.2.2.2.2 _ hst, trivial⟩ ⟨gx_blind, gx_pre E hS hP hD isC hC hn⟩ rfl rfl hls hstack (gx_room hcat) hdg hroom) hS (fun q _ h => hFc q h) hFc (fun r' u t H1 locs1 ht hvm hpost hB hz hk hS1 => ?_)
  subst hpost
  obtain ⟨hP2, hD2⟩ := gx_back hP hD isC hC hn he hk (by rw [← ht]; exact hB.1)
  rw [hw] at hP2 hD2
  exact kk H1 locs1 hS1 hP2 hD2
theorem gx_Tl {r : Int64} (S : CallFix p m c cc nL s args gtbl own) (E : gx_E z D g s A) (hS : va_S A s.heap H locs) (hP : va_P D vwC ws H) (hD : va_D A ws) (hM : gx_Ml l z D g y b2 n2 ret rm As wc wc' r)
    (hcal : gx_cal y b2 n2 (some ret) As.length) (hst : Cond.static y ∈ gtbl) (hlink : (own, index, y, host) ∈ gx_nests) (hrm : gx_rmb rm n2 R = true) (isC : List Nat) (hC : isC.map (fun i => ws[i]?) = wc.map some) (hn : va_nd isC = true) (he : wc'.map (fun q => q.1) = wc.map (fun q => q.1))
    (hstack : st0 = As.reverse ++ rest) (hls : ls.size = nL) (hcat : Nat.ble ((rest.map fun v => v.category).sum) 8 = true) (hdg : decode cc pc = .ok (.invokestatic index, 3)) (hroom : cells ≤ R.cells ∧ slots ≤ R.slots)
    {ws2 : va_W} (hw : gx_set ws isC wc' = ws2) (kk : gx_kk p l e R s m args below meth c cells slots Q D A ws2 (F0 m (pc + 3) ls (.long r :: rest))) : W p l e R s m args below meth c H locs cells slots Q (F0 m pc ls st0) := by
  obtain ⟨h1, h2, h3, h4⟩ := gx_rm_of hrm
  have hFc := va_free (wc := wc) hD hS E.2.2.2 isC hC
  refine va_calll (va_runSN (As := As) (rest := rest) S (hM H.size) ⟨va_cnB As.length S.2.2.2.2 (gx_goodC hcal.1) rfl h1 h2 (E.1.2 _ hlink) (S.2.2.2.2 _ hcal.2.1) hcal.2.2 ⟨h3, h4⟩, S.2.2.2.2 _ hst, trivial⟩ ⟨gx_blind, gx_pre E hS hP hD isC hC hn⟩ rfl rfl hls hstack (gx_room hcat) hdg hroom) hS (fun q _ h => hFc q h) hFc (fun r' u t H1 locs1 ht hvm hpost hB hz hk hS1 => ?_)
  subst hpost
  obtain ⟨hP2, hD2⟩ := gx_back hP hD isC hC hn he hk (by rw [← ht]; exact hB.1)
  rw [hw] at hP2 hD2
  exact kk H1 locs1 hS1 hP2 hD2
end GXC
