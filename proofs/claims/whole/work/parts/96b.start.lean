/-! the rest of what stands at the start -/
theorem gs_fives {A : Array Value} {s : State} (h : ∀ w ∈ tables_1, w.before A s = true) (hn : narrow_1.before A s = true) : ∃ t : Nat, va_Z "NumberText$Big" "FIVES" "[I" (.ref t) (gx_A0 s) s s.heap ∧ va_T .int t 14 (fun j => .int (gl_five.getD j 0)) (gx_A0 s) s s.heap := by
  obtain ⟨t, ht, hT⟩ := va_Tof (N := 14) (f := fun j => .int (gl_five.getD j 0)) (by decide) (gs_l (gs_r (gs_r (gs_r (gs_l (gs_l (gs_l (gs_l (gs_l (gs_l hn)))))))))) (va_eqt (gs_l (gs_r (gs_r (gs_r (gs_r (gs_l (gs_l (gs_l (gs_l (gs_l (gs_l hn)))))))))))) (fun j hj => va_eqt (gs_el0 (bs := gl_five) (And.intro (gs_r (gs_r (gs_r (gs_r (gs_r (gs_l (gs_l (gs_l (gs_l (gs_l (gs_l hn))))))))))) (And.intro (gs_l (gs_l (gs_l (gs_l (gs_r (gs_l (gs_l (gs_l (gs_l (gs_l hn)))))))))) (And.intro (gs_r (gs_l (gs_l (gs_l (gs_r (gs_l (gs_l (gs_l (gs_l (gs_l hn)))))))))) (And.intro (gs_l (gs_r (gs_l (gs_l (gs_r (gs_l (gs_l (gs_l (gs_l (gs_l hn)))))))))) (And.intro (gs_r (gs_r (gs_l (gs_l (gs_r (gs_l (gs_l (gs_l (gs_l (gs_l hn)))))))))) (And.intro (gs_l (gs_l (gs_r (gs_l (gs_r (gs_l (gs_l (gs_l (gs_l (gs_l hn)))))))))) (And.intro (gs_r (gs_l (gs_r (gs_l (gs_r (gs_l (gs_l (gs_l (gs_l (gs_l hn)))))))))) (And.intro (gs_l (gs_r (gs_r (gs_l (gs_r (gs_l (gs_l (gs_l (gs_l (gs_l hn)))))))))) (And.intro (gs_r (gs_r (gs_r (gs_l (gs_r (gs_l (gs_l (gs_l (gs_l (gs_l hn)))))))))) (And.intro (gs_l (gs_l (gs_l (gs_r (gs_r (gs_l (gs_l (gs_l (gs_l (gs_l hn)))))))))) (And.intro (gs_r (gs_l (gs_l (gs_r (gs_r (gs_l (gs_l (gs_l (gs_l (gs_l hn)))))))))) (And.intro (gs_l (gs_r (gs_l (gs_r (gs_r (gs_l (gs_l (gs_l (gs_l (gs_l hn)))))))))) (And.intro (gs_r (gs_r (gs_l (gs_r (gs_r (gs_l (gs_l (gs_l (gs_l (gs_l hn)))))))))) (And.intro (gs_l (gs_l (gs_r (gs_r (gs_r (gs_l (gs_l (gs_l (gs_l (gs_l hn)))))))))) trivial)))))))))))))) j hj)) gs_nA
  exact ⟨t, va_Zref (h (Jvm.Cond.laysStatic "NumberText$Big" "FIVES" "[I") (gt_3 (List.mem_of_getElem? (i := 35) (by decide +kernel)))) (h (Jvm.Cond.initialized "NumberText$Big") (gt_1 (List.mem_of_getElem? (i := 5) (by decide +kernel)))) ht gs_nA, hT⟩
theorem gs_size0 {A : Array Value} {s : State} (h : ∀ w ∈ tables_1, w.before A s = true) (hn : narrow_1.before A s = true) : ∃ t : Nat, va_Z "NumberText$Size" "DOUBLE" "LNumberText$Size;" (.ref t) (gx_A0 s) s s.heap ∧ va_O "NumberText$Size" t (gx_A0 s) s s.heap ∧ ∀ q ∈ gl_size, va_OF "NumberText$Size" q.1 "I" (.int (q.2.getD 0 0)) t (gx_A0 s) s s.heap := by
  have hx := (gs_l (gs_r (gs_l (gs_l (gs_l (gs_l (gs_l (gs_l (gs_l (gs_l hn))))))))))
  obtain ⟨a, c, cell, kk, q1, -⟩ := Cond.exactly_spec hx
  refine ⟨a, va_Zref (h (Jvm.Cond.laysStatic "NumberText$Size" "DOUBLE" "LNumberText$Size;") (gt_1 (List.mem_of_getElem? (i := 164) (by decide +kernel)))) (h (Jvm.Cond.initialized "NumberText$Size") (gt_1 (List.mem_of_getElem? (i := 8) (by decide +kernel)))) q1 gs_nA, va_Oof hx q1 gs_nA, fun q hq => ?_⟩
  have hq : q ∈ [("digits", [53, 24]), ("least", [-1074, -149]), ("greatest", [971, 104]), ("signAt", [63, 31])] := hq
  rcases List.mem_cons.mp hq with rfl | hq
  · exact (vk_OFof q1 (va_eqt (gs_l (gs_l (gs_r (gs_l (gs_l (gs_l (gs_l (gs_l (gs_l (gs_l hn))))))))))) gs_nA)
  rcases List.mem_cons.mp hq with rfl | hq
  · exact (vk_OFof q1 (va_eqt (gs_r (gs_l (gs_r (gs_l (gs_l (gs_l (gs_l (gs_l (gs_l (gs_l hn))))))))))) gs_nA)
  rcases List.mem_cons.mp hq with rfl | hq
  · exact (vk_OFof q1 (va_eqt (gs_l (gs_r (gs_r (gs_l (gs_l (gs_l (gs_l (gs_l (gs_l (gs_l hn))))))))))) gs_nA)
  rcases List.mem_cons.mp hq with rfl | hq
  · exact (vk_OFof q1 (va_eqt (gs_r (gs_r (gs_r (gs_l (gs_l (gs_l (gs_l (gs_l (gs_l (gs_l hn))))))))))) gs_nA)
  · exact absurd hq List.not_mem_nil
theorem gs_size1 {A : Array Value} {s : State} (h : ∀ w ∈ tables_1, w.before A s = true) (hn : narrow_1.before A s = true) : ∃ t : Nat, va_Z "NumberText$Size" "FLOAT" "LNumberText$Size;" (.ref t) (gx_A0 s) s s.heap ∧ va_O "NumberText$Size" t (gx_A0 s) s s.heap ∧ ∀ q ∈ gl_size, va_OF "NumberText$Size" q.1 "I" (.int (q.2.getD 1 0)) t (gx_A0 s) s s.heap := by
  have hx := (gs_r (gs_l (gs_r (gs_r (gs_r (gs_l (gs_l (gs_l (gs_l (gs_l hn))))))))))
  obtain ⟨a, c, cell, kk, q1, -⟩ := Cond.exactly_spec hx
  refine ⟨a, va_Zref (h (Jvm.Cond.laysStatic "NumberText$Size" "FLOAT" "LNumberText$Size;") (gt_3 (List.mem_of_getElem? (i := 144) (by decide +kernel)))) (h (Jvm.Cond.initialized "NumberText$Size") (gt_1 (List.mem_of_getElem? (i := 8) (by decide +kernel)))) q1 gs_nA, va_Oof hx q1 gs_nA, fun q hq => ?_⟩
  have hq : q ∈ [("digits", [53, 24]), ("least", [-1074, -149]), ("greatest", [971, 104]), ("signAt", [63, 31])] := hq
  rcases List.mem_cons.mp hq with rfl | hq
  · exact (vk_OFof q1 (va_eqt (gs_l (gs_r (gs_r (gs_r (gs_r (gs_r (gs_l (gs_l (gs_l (gs_l (gs_l hn)))))))))))) gs_nA)
  rcases List.mem_cons.mp hq with rfl | hq
  · exact (vk_OFof q1 (va_eqt (gs_r (gs_r (gs_r (gs_r (gs_r (gs_r (gs_l (gs_l (gs_l (gs_l (gs_l hn)))))))))))) gs_nA)
  rcases List.mem_cons.mp hq with rfl | hq
  · exact (vk_OFof q1 (va_eqt (gs_l (gs_l (gs_l (gs_l (gs_l (gs_r (gs_l (gs_l (gs_l (gs_l hn))))))))))) gs_nA)
  rcases List.mem_cons.mp hq with rfl | hq
  · exact (vk_OFof q1 (va_eqt (gs_r (gs_l (gs_l (gs_l (gs_l (gs_r (gs_l (gs_l (gs_l (gs_l hn))))))))))) gs_nA)
  · exact absurd hq List.not_mem_nil
theorem gs_nc {a b : String} {A : Array Value} {s : State} (h : (Cond.not (.castable a b)).before A s = true) : (Cond.not (.castable a b)).before #[] s = true := by
  first | exact h | (simp only [Cond.before, Cond.holds, Cond.value] at h ⊢; exact h)
def gs_W (A : Array Value) (s : State) : List Cond → Prop
  | [] => True
  | w :: r => w.before A s = true ∧ gs_W A s r
theorem gs_W_at {A : Array Value} {s : State} : ∀ (L : List Cond), gs_W A s L → ∀ w ∈ L, w.before A s = true
  | [], _, w, hw => absurd hw List.not_mem_nil
  | a :: r, h, w, hw => by
    rcases List.mem_cons.mp hw with rfl | hw
    · exact h.1
    · exact gs_W_at r h.2 w hw
theorem gs_odd {A : Array Value} {s : State} (h : ∀ w ∈ tables_1, w.before A s = true) (hn : narrow_1.before A s = true) : ∀ w ∈ gl_odd, w.before #[] s = true := gs_W_at gl_odd (And.intro (va_tabs rfl rfl (h (Jvm.Cond.castable "java/lang/IndexOutOfBoundsException" "java/lang/IndexOutOfBoundsException") (gt_3 (List.mem_of_getElem? (i := 160) (by decide +kernel))))) (And.intro (va_tabs rfl rfl (h (Jvm.Cond.declares ({ cls := "java/lang/RuntimeException", name := "<init>", desc := "()V" } : Jvm.MethodName)) (gt_3 (List.mem_of_getElem? (i := 161) (by decide +kernel))))) (And.intro (va_tabs rfl rfl (h (Jvm.Cond.declares ({ cls := "java/lang/RuntimeException", name := "<init>", desc := "(Ljava/lang/String;)V" } : Jvm.MethodName)) (gt_3 (List.mem_of_getElem? (i := 162) (by decide +kernel))))) (And.intro (va_tabs rfl rfl (h (Jvm.Cond.declares ({ cls := "java/lang/Exception", name := "<init>", desc := "()V" } : Jvm.MethodName)) (gt_3 (List.mem_of_getElem? (i := 163) (by decide +kernel))))) (And.intro (va_tabs rfl rfl (h (Jvm.Cond.declares ({ cls := "java/lang/Exception", name := "<init>", desc := "(Ljava/lang/String;)V" } : Jvm.MethodName)) (gt_3 (List.mem_of_getElem? (i := 164) (by decide +kernel))))) (And.intro (va_tabs rfl rfl (h (Jvm.Cond.declares ({ cls := "java/lang/Throwable", name := "<init>", desc := "()V" } : Jvm.MethodName)) (gt_3 (List.mem_of_getElem? (i := 165) (by decide +kernel))))) (And.intro (va_tabs rfl rfl (h (Jvm.Cond.declares ({ cls := "java/lang/Throwable", name := "<init>", desc := "(Ljava/lang/String;)V" } : Jvm.MethodName)) (gt_3 (List.mem_of_getElem? (i := 166) (by decide +kernel))))) (And.intro (va_tabs rfl rfl (h (Jvm.Cond.castable "java/lang/IllegalArgumentException" "java/lang/IllegalArgumentException") (gt_4 (List.mem_of_getElem? (i := 1) (by decide +kernel))))) (And.intro (va_tabs rfl rfl (h (Jvm.Cond.castable "java/lang/UnsupportedOperationException" "java/lang/UnsupportedOperationException") (gt_4 (List.mem_of_getElem? (i := 119) (by decide +kernel))))) (And.intro (va_tabs rfl rfl (h (Jvm.Cond.castable "java/lang/IllegalStateException" "java/lang/IllegalStateException") (gt_5 (List.mem_of_getElem? (i := 221) (by decide +kernel))))) (And.intro (va_tabs rfl rfl (h (Jvm.Cond.castable "java/util/NoSuchElementException" "java/util/NoSuchElementException") (gt_6 (List.mem_of_getElem? (i := 48) (by decide +kernel))))) (And.intro (gs_nc (gs_r (gs_l (gs_l (gs_l (gs_r (gs_r (gs_l (gs_l (gs_l (gs_l hn))))))))))) (And.intro (gs_nc (gs_l (gs_r (gs_l (gs_l (gs_r (gs_r (gs_l (gs_l (gs_l (gs_l hn))))))))))) (And.intro (gs_nc (gs_r (gs_r (gs_l (gs_l (gs_r (gs_r (gs_l (gs_l (gs_l (gs_l hn))))))))))) (And.intro (gs_nc (gs_l (gs_l (gs_r (gs_l (gs_r (gs_r (gs_l (gs_l (gs_l (gs_l hn))))))))))) (And.intro (gs_nc (gs_r (gs_l (gs_l (gs_l (gs_l (gs_l (gs_r (gs_l (gs_l (gs_l hn))))))))))) (And.intro (gs_nc (gs_l (gs_r (gs_l (gs_l (gs_l (gs_l (gs_r (gs_l (gs_l (gs_l hn))))))))))) (And.intro (gs_nc (gs_r (gs_r (gs_l (gs_l (gs_l (gs_l (gs_r (gs_l (gs_l (gs_l hn))))))))))) (And.intro (gs_nc (gs_l (gs_l (gs_r (gs_l (gs_l (gs_l (gs_r (gs_l (gs_l (gs_l hn))))))))))) (And.intro (gs_nc (gs_r (gs_l (gs_l (gs_l (gs_r (gs_l (gs_r (gs_l (gs_l (gs_l hn))))))))))) (And.intro (gs_nc (gs_l (gs_r (gs_l (gs_l (gs_r (gs_l (gs_r (gs_l (gs_l (gs_l hn))))))))))) (And.intro (gs_nc (gs_r (gs_r (gs_l (gs_l (gs_r (gs_l (gs_r (gs_l (gs_l (gs_l hn))))))))))) (And.intro (gs_nc (gs_l (gs_l (gs_r (gs_l (gs_r (gs_l (gs_r (gs_l (gs_l (gs_l hn))))))))))) (And.intro (gs_nc (gs_r (gs_l (gs_l (gs_l (gs_l (gs_r (gs_r (gs_l (gs_l (gs_l hn))))))))))) (And.intro (gs_nc (gs_l (gs_r (gs_l (gs_l (gs_l (gs_r (gs_r (gs_l (gs_l (gs_l hn))))))))))) (And.intro (gs_nc (gs_r (gs_r (gs_l (gs_l (gs_l (gs_r (gs_r (gs_l (gs_l (gs_l hn))))))))))) (And.intro (gs_nc (gs_l (gs_l (gs_r (gs_l (gs_l (gs_r (gs_r (gs_l (gs_l (gs_l hn))))))))))) (And.intro (gs_nc (gs_r (gs_l (gs_l (gs_l (gs_r (gs_r (gs_r (gs_l (gs_l (gs_l hn))))))))))) (And.intro (gs_nc (gs_l (gs_r (gs_l (gs_l (gs_r (gs_r (gs_r (gs_l (gs_l (gs_l hn))))))))))) (And.intro (gs_nc (gs_r (gs_r (gs_l (gs_l (gs_r (gs_r (gs_r (gs_l (gs_l (gs_l hn))))))))))) (And.intro (gs_nc (gs_l (gs_l (gs_r (gs_l (gs_r (gs_r (gs_r (gs_l (gs_l (gs_l hn))))))))))) trivial)))))))))))))))))))))))))))))))
theorem gs_X {A : Array Value} {s : State} (h : ∀ w ∈ tables_1, w.before A s = true) (hn : narrow_1.before A s = true) : gx_X s := ⟨va_Zqof (h (Jvm.Cond.laysStatic "jdk/internal/util/Preconditions" "SIOOBE_FORMATTER" "Ljava/util/function/BiFunction;") (gt_2 (List.mem_of_getElem? (i := 215) (by decide +kernel)))) (h (Jvm.Cond.initialized "jdk/internal/util/Preconditions") (gt_1 (List.mem_of_getElem? (i := 23) (by decide +kernel)))) (gs_r (gs_l (gs_l (gs_r (gs_l (gs_l (gs_l (gs_l (gs_l (gs_l hn)))))))))) gs_nA, va_Zqof (h (Jvm.Cond.laysStatic "java/lang/Throwable" "UNASSIGNED_STACK" "[Ljava/lang/StackTraceElement;") (gt_3 (List.mem_of_getElem? (i := 185) (by decide +kernel)))) (h (Jvm.Cond.initialized "java/lang/Throwable") (gt_1 (List.mem_of_getElem? (i := 15) (by decide +kernel)))) (gs_r (gs_r (gs_l (gs_l (gs_l (gs_r (gs_l (gs_l (gs_l (gs_l hn)))))))))) gs_nA, va_Zqof (h (Jvm.Cond.laysStatic "java/lang/Throwable" "SUPPRESSED_SENTINEL" "Ljava/util/List;") (gt_3 (List.mem_of_getElem? (i := 187) (by decide +kernel)))) (h (Jvm.Cond.initialized "java/lang/Throwable") (gt_1 (List.mem_of_getElem? (i := 15) (by decide +kernel)))) (gs_l (gs_l (gs_r (gs_l (gs_l (gs_r (gs_l (gs_l (gs_l (gs_l hn)))))))))) gs_nA, gs_odd h hn⟩
theorem gs_comp {A : Array Value} {s : State} (h : ∀ w ∈ tables_1, w.before A s = true) (hn : narrow_1.before A s = true) : va_Z "java/lang/String" "COMPACT_STRINGS" "Z" (.int 1) (gx_A0 s) s s.heap := va_Zof (h (Jvm.Cond.laysStatic "java/lang/String" "COMPACT_STRINGS" "Z") (gt_2 (List.mem_of_getElem? (i := 199) (by decide +kernel)))) (h (Jvm.Cond.initialized "java/lang/String") (gt_1 (List.mem_of_getElem? (i := 21) (by decide +kernel)))) (va_eqi (gs_l (gs_l (gs_l (gs_r (gs_l (gs_l (gs_l (gs_l (gs_l (gs_l hn))))))))))) gs_nA
def gs_M (s : State) : List (String × Nat × MethodName × String) → Prop
  | [] => True
  | q :: r => va_Nw (.methodLinkNest q.1 q.2.1 q.2.2.1 q.2.2.2) s ∧ gs_M s r
theorem gs_M_at {s : State} : ∀ (L : List (String × Nat × MethodName × String)), gs_M s L → ∀ q ∈ L, va_Nw (.methodLinkNest q.1 q.2.1 q.2.2.1 q.2.2.2) s
  | [], _, w, hw => absurd hw List.not_mem_nil
  | a :: r, h, w, hw => by
    rcases List.mem_cons.mp hw with rfl | hw
    · exact h.1
    · exact gs_M_at r h.2 w hw
theorem gs_N {A : Array Value} {s : State} (h : ∀ w ∈ tables_1, w.before A s = true) : gx_N s := gs_M_at gx_nests (And.intro (va_Nw.of rfl (h (Jvm.Cond.methodLinkNest "NumberText$Reader" (11 : Nat) ({ cls := "NumberText$Big", name := "<init>", desc := "()V" } : Jvm.MethodName) "NumberText") (gt_1 (List.mem_of_getElem? (i := 102) (by decide +kernel))))) (And.intro (va_Nw.of rfl (h (Jvm.Cond.methodLinkNest "NumberText" (41 : Nat) ({ cls := "NumberText$Binary", name := "<init>", desc := "()V" } : Jvm.MethodName) "NumberText") (gt_1 (List.mem_of_getElem? (i := 159) (by decide +kernel))))) (And.intro (va_Nw.of rfl (h (Jvm.Cond.methodLinkNest "NumberText" (48 : Nat) ({ cls := "NumberText$Shortest", name := "<init>", desc := "()V" } : Jvm.MethodName) "NumberText") (gt_1 (List.mem_of_getElem? (i := 196) (by decide +kernel))))) (And.intro (va_Nw.of rfl (h (Jvm.Cond.methodLinkNest "NumberText$Shortest" (9 : Nat) ({ cls := "NumberText$Decimal", name := "<init>", desc := "()V" } : Jvm.MethodName) "NumberText") (gt_1 (List.mem_of_getElem? (i := 202) (by decide +kernel))))) (And.intro (va_Nw.of rfl (h (Jvm.Cond.methodLinkNest "NumberText$Decimal" (9 : Nat) ({ cls := "NumberText$Big", name := "<init>", desc := "()V" } : Jvm.MethodName) "NumberText") (gt_1 (List.mem_of_getElem? (i := 207) (by decide +kernel))))) (And.intro (va_Nw.of rfl (h (Jvm.Cond.methodLinkNest "NumberText$Shortest" (18 : Nat) ({ cls := "NumberText$Big", name := "<init>", desc := "()V" } : Jvm.MethodName) "NumberText") (gt_1 (List.mem_of_getElem? (i := 228) (by decide +kernel))))) (And.intro (va_Nw.of rfl (h (Jvm.Cond.methodLinkNest "NumberText" (59 : Nat) ({ cls := "NumberText$Format", name := "<init>", desc := "()V" } : Jvm.MethodName) "NumberText") (gt_2 (List.mem_of_getElem? (i := 14) (by decide +kernel))))) (And.intro (va_Nw.of rfl (h (Jvm.Cond.methodLinkNest "NumberText$Printer" (11 : Nat) ({ cls := "NumberText$Decimal", name := "<init>", desc := "()V" } : Jvm.MethodName) "NumberText") (gt_2 (List.mem_of_getElem? (i := 71) (by decide +kernel))))) (And.intro (va_Nw.of rfl (h (Jvm.Cond.methodLinkNest "NumberText$Printer" (20 : Nat) ({ cls := "NumberText$Binary", name := "<init>", desc := "()V" } : Jvm.MethodName) "NumberText") (gt_2 (List.mem_of_getElem? (i := 73) (by decide +kernel))))) (And.intro (va_Nw.of rfl (h (Jvm.Cond.methodLinkNest "NumberText$Reader" (146 : Nat) ({ cls := "NumberText", name := "isDigit", desc := "(I)Z" } : Jvm.MethodName) "NumberText") (gt_4 (List.mem_of_getElem? (i := 69) (by decide +kernel))))) (And.intro (va_Nw.of rfl (h (Jvm.Cond.methodLinkNest "NumberText$Size" (62 : Nat) ({ cls := "NumberText", name := "nearestEven", desc := "(JI)J" } : Jvm.MethodName) "NumberText") (gt_4 (List.mem_of_getElem? (i := 153) (by decide +kernel))))) (And.intro (va_Nw.of rfl (h (Jvm.Cond.methodLinkNest "NumberText$Printer" (307 : Nat) ({ cls := "NumberText", name := "nearestEven", desc := "(JI)J" } : Jvm.MethodName) "NumberText") (gt_5 (List.mem_of_getElem? (i := 2) (by decide +kernel))))) (And.intro (va_Nw.of rfl (h (Jvm.Cond.methodLinkNest "NumberText$Format" (69 : Nat) ({ cls := "NumberText", name := "isDigit", desc := "(I)Z" } : Jvm.MethodName) "NumberText") (gt_5 (List.mem_of_getElem? (i := 129) (by decide +kernel))))) (And.intro (va_Nw.of rfl (h (Jvm.Cond.methodLinkNest "NumberText$Printer" (136 : Nat) ({ cls := "NumberText", name := "isCharacter", desc := "(J)Z" } : Jvm.MethodName) "NumberText") (gt_6 (List.mem_of_getElem? (i := 21) (by decide +kernel))))) (And.intro (va_Nw.of rfl (h (Jvm.Cond.methodLinkNest "NumberTextModel" (28 : Nat) ({ cls := "NumberTextModel$Row", name := "<init>", desc := "()V" } : Jvm.MethodName) "NumberTextModel") (gt_6 (List.mem_of_getElem? (i := 92) (by decide +kernel))))) trivial)))))))))))))))
def gs_U (s : State) : List vw_C → Prop
  | [] => True
  | q :: r => (∃ (c : ClassId) (i : Nat → Nat), u_Kn s q.1 q.2.1 q.2.2 c i) ∧ gs_U s r
theorem gs_U_at {s : State} : ∀ (L : List vw_C), gs_U s L → ∀ (k : Nat) (q : vw_C), L[k]? = some q → ∃ (c : ClassId) (i : Nat → Nat), u_Kn s q.1 q.2.1 q.2.2 c i
  | [], _, k, q, hq => by simp at hq
  | a :: r, h, 0, q, hq => by
    cases hq
    exact h.1
  | a :: r, h, k + 1, q, hq => gs_U_at r h.2 k q hq
theorem gs_cls {A : Array Value} {s : State} (h : ∀ w ∈ tables_1, w.before A s = true) (hg : ∀ w ∈ gtbl, w.before A s = true) : gs_U s vwC := (And.intro (u_known hg i_Ar (h (Jvm.Cond.instantiable "NumberText$Arguments" (4 : Nat)) (gt_1 (List.mem_of_getElem? (i := 66) (by decide +kernel))))) (And.intro (u_known hg i_Bg (h (Jvm.Cond.instantiable "NumberText$Big" (2 : Nat)) (gt_1 (List.mem_of_getElem? (i := 101) (by decide +kernel))))) (And.intro (u_known hg i_Bi (h (Jvm.Cond.instantiable "NumberText$Binary" (6 : Nat)) (gt_1 (List.mem_of_getElem? (i := 158) (by decide +kernel))))) (And.intro (u_known hg i_By (h (Jvm.Cond.instantiable "NumberText$Bytes" (3 : Nat)) (gt_1 (List.mem_of_getElem? (i := 41) (by decide +kernel))))) (And.intro (u_known hg i_Dc (h (Jvm.Cond.instantiable "NumberText$Decimal" (5 : Nat)) (gt_1 (List.mem_of_getElem? (i := 201) (by decide +kernel))))) (And.intro (u_known hg i_Fm (h (Jvm.Cond.instantiable "NumberText$Format" (11 : Nat)) (gt_2 (List.mem_of_getElem? (i := 13) (by decide +kernel))))) (And.intro (u_known hg i_Pr (h (Jvm.Cond.instantiable "NumberText$Printer" (14 : Nat)) (gt_2 (List.mem_of_getElem? (i := 65) (by decide +kernel))))) (And.intro (u_known hg i_Rd (h (Jvm.Cond.instantiable "NumberText$Reader" (14 : Nat)) (gt_1 (List.mem_of_getElem? (i := 95) (by decide +kernel))))) (And.intro (u_known hg i_Sh (h (Jvm.Cond.instantiable "NumberText$Shortest" (7 : Nat)) (gt_1 (List.mem_of_getElem? (i := 195) (by decide +kernel))))) (And.intro (u_known hg i_Nt (h (Jvm.Cond.instantiable "NumberText" (11 : Nat)) (gt_1 (List.mem_of_getElem? (i := 33) (by decide +kernel))))) (And.intro (u_known hg i_Rw (h (Jvm.Cond.instantiable "NumberTextModel$Row" (3 : Nat)) (gt_6 (List.mem_of_getElem? (i := 91) (by decide +kernel))))) (And.intro (u_known hg i_Md (h (Jvm.Cond.instantiable "NumberTextModel" (50 : Nat)) (gt_6 (List.mem_of_getElem? (i := 83) (by decide +kernel))))) trivial))))))))))))
theorem gs_D {A : Array Value} {s : State} (h : ∀ w ∈ tables_1, w.before A s = true) (hg : ∀ w ∈ gtbl, w.before A s = true) : ∃ D : va_G, ∀ (k : Nat) (q : vw_C), vwC[k]? = some q → u_Kn s q.1 q.2.1 q.2.2 (D.1 k) (D.2 k) := by
  have h0 : ∀ k : Nat, ∃ p : ClassId × (Nat → Nat), ∀ q : vw_C, vwC[k]? = some q → u_Kn s q.1 q.2.1 q.2.2 p.1 p.2 := by
    intro k
    cases hq : vwC[k]? with
    | none => exact ⟨(0, fun _ => 0), fun q hq' => by cases hq'⟩
    | some q =>
      obtain ⟨c, i, hk⟩ := gs_U_at vwC (gs_cls h hg) k q hq
      exact ⟨(c, i), fun q' hq' => by cases hq'; exact hk⟩
  obtain ⟨F, hF⟩ := Classical.axiomOfChoice h0
  exact ⟨(fun k => (F k).1, fun k => (F k).2), fun k q hq => hF k q hq⟩
theorem gs_arr {ty : FieldType} {A : Array Value} {s : State} (h : (Cond.arrayClass ty).before A s = true) (hty : ∀ C, ty ≠ .object C) : ∃ cA : ClassId, ArrOfT s cA ty ∧ va_RA s cA ty := by
  unfold Cond.before Cond.holds at h
  simp only [Cond.value] at h
  cases h1 : s.vm.findClass ("[" ++ ty.toString) with
  | none => rw [h1] at h; simp at h
  | some cA =>
    rw [h1] at h
    cases h2 : s.vm.classes[cA]? with
    | none => simp [h2] at h
    | some kA =>
      have h3 : ∃ comp, kA.kind = .array comp ty := by
        simp only [Option.bind_some, h2, Option.map_some] at h
        cases hk : kA.kind with
        | array comp t =>
          rw [hk] at h
          simp at h
          exact ⟨comp, by rw [h]⟩
        | _ => rw [hk] at h; simp at h
      obtain ⟨comp, hk⟩ := h3
      refine ⟨cA, fun n z => ⟨fun k q => (by cases q), kA, h2, comp, hk⟩, ?_⟩
      cases ty with
      | object C => exact absurd rfl (hty C)
      | _ => exact h1
theorem gs_arrO {C : String} {A : Array Value} {s : State} (h : (Cond.arrayOver (.object C)).before A s = true) : ∃ cA : ClassId, ArrOfT s cA (.object C) ∧ va_RA s cA (.object C) := by
  obtain ⟨comp, c, k, h1, h2, h3, h4, h5⟩ := Cond.arrayOver_spec h
  exact ⟨c, fun n z => ⟨fun k q => (by cases q), k, h3, comp, h4⟩, k, comp, h3, h4, h1, h5⟩
theorem gs_arrA {A : Array Value} {s : State} (h : (Cond.arrayOver (.array .byte)).before A s = true) : ∃ cA : ClassId, ArrOfT s cA (.array .byte) ∧ va_RA s cA (.array .byte) := by
  obtain ⟨comp, c, k, h1, h2, h3, h4, h5⟩ := arrayOverA_spec h
  exact ⟨c, fun n z => ⟨fun k q => (by cases q), k, h3, comp, h4⟩, h5⟩
theorem gs_start {A : Array Value} {s : State} (h : ∀ w ∈ tables_1, w.before A s = true) (hn : narrow_1.before A s = true) (hg : ∀ w ∈ gtbl, w.before A s = true) : ∃ (D : va_G) (g : Nat → ClassId), gx_E s D g s (gx_A0 s) := by
  obtain ⟨D, hD⟩ := gs_D h hg
  obtain ⟨a0, p0⟩ := gs_arr (h (Jvm.Cond.arrayClass Jvm.ClassFile.FieldType.int) (gt_1 (List.mem_of_getElem? (i := 92) (by decide +kernel)))) (fun C q => by cases q)
  obtain ⟨a1, p1⟩ := gs_arr (h (Jvm.Cond.arrayClass Jvm.ClassFile.FieldType.byte) (gt_1 (List.mem_of_getElem? (i := 63) (by decide +kernel)))) (fun C q => by cases q)
  obtain ⟨a2, p2⟩ := gs_arr (h (Jvm.Cond.arrayClass Jvm.ClassFile.FieldType.long) (gt_1 (List.mem_of_getElem? (i := 93) (by decide +kernel)))) (fun C q => by cases q)
  obtain ⟨a3, p3⟩ := gs_arr (h (Jvm.Cond.arrayClass Jvm.ClassFile.FieldType.boolean) (gt_7 (List.mem_of_getElem? (i := 19) (by decide +kernel)))) (fun C q => by cases q)
  obtain ⟨a4, p4⟩ := gs_arrO (h (Jvm.Cond.arrayOver (Jvm.ClassFile.FieldType.object "NumberText$Bytes")) (gt_1 (List.mem_of_getElem? (i := 72) (by decide +kernel))))
  obtain ⟨a5, p5⟩ := gs_arrO (h (Jvm.Cond.arrayOver (Jvm.ClassFile.FieldType.object "NumberText$Format")) (gt_2 (List.mem_of_getElem? (i := 12) (by decide +kernel))))
  obtain ⟨a6, p6⟩ := gs_arrA (h (Jvm.Cond.arrayOver (Jvm.ClassFile.FieldType.array Jvm.ClassFile.FieldType.byte)) (gt_6 (List.mem_of_getElem? (i := 108) (by decide +kernel))))
  obtain ⟨t5, f1, f2⟩ := gs_fives h hn
  obtain ⟨td, d1, d2, d3⟩ := gs_size0 h hn
  obtain ⟨tf, e1, e2, e3⟩ := gs_size1 h hn
  have h0 : ∀ i : Nat, ∃ p : Nat × Nat, ∀ q : String × Nat × String, gl_ref[i]? = some q → va_O "java/lang/String" p.1 (gx_A0 s) s s.heap ∧ va_OF "java/lang/String" "coder" "B" (.int 0) p.1 (gx_A0 s) s s.heap ∧ va_OF "java/lang/String" "value" "[B" (.ref p.2) p.1 (gx_A0 s) s s.heap ∧ va_T .byte p.2 (gl_len.getD i 0) (fun j => .int ((gl_byt.getD i []).getD j 0)) (gx_A0 s) s s.heap ∧ vk_R q.1 q.2.1 q.2.2 p.1 s := by
    intro i
    cases hq : gl_ref[i]? with
    | none => exact ⟨(0, 0), fun q hq' => by cases hq'⟩
    | some q =>
      have hi : i < 74 := (List.getElem?_eq_some_iff.mp hq).1
      obtain ⟨a, c, r⟩ := gs_Q_at gl_ref gl_len gl_byt (gs_lits h hn) i q hq hi hi
      exact ⟨(a, c), fun q' hq' => by cases hq'; exact r⟩
  obtain ⟨F, hF⟩ := Classical.axiomOfChoice h0
  refine ⟨D, fun n => if n = 0 then a0 else if n = 1 then a1 else if n = 2 then a2 else if n = 3 then a3 else if n = 4 then a4 else if n = 5 then a5 else if n = 6 then a6 else if n = 10 then t5 else if n = 11 then td else if n = 12 then tf else if n < 300 then (F (n - 100)).1 else (F (n - 300)).2, ⟨⟨hD, ?_⟩, gs_N h⟩, ⟨State.WarmedH.refl _, Nat.le_refl _, fun q _ => rfl, ?_⟩, fun q hq => hq, fun q hq => hq⟩
  · intro k q hq
    match k, hq with
    | 0, hq => cases hq; exact p0
    | 1, hq => cases hq; exact p1
    | 2, hq => cases hq; exact p2
    | 3, hq => cases hq; exact p3
    | 4, hq => cases hq; exact p4
    | 5, hq => cases hq; exact p5
    | 6, hq => cases hq; exact p6
    | k + 7, hq => simp at hq
  · have g1 : ∀ i, i < 74 → (fun n => if n = 0 then a0 else if n = 1 then a1 else if n = 2 then a2 else if n = 3 then a3 else if n = 4 then a4 else if n = 5 then a5 else if n = 6 then a6 else if n = 10 then t5 else if n = 11 then td else if n = 12 then tf else if n < 300 then (F (n - 100)).1 else (F (n - 300)).2) (100 + i) = (F i).1 := by
      intro i hi
      simp only []
      rw [if_neg (by omega), if_neg (by omega), if_neg (by omega), if_neg (by omega), if_neg (by omega), if_neg (by omega), if_neg (by omega), if_neg (by omega), if_neg (by omega), if_neg (by omega), if_pos (by omega), Nat.add_sub_cancel_left]
    have g3 : ∀ i, i < 74 → (fun n => if n = 0 then a0 else if n = 1 then a1 else if n = 2 then a2 else if n = 3 then a3 else if n = 4 then a4 else if n = 5 then a5 else if n = 6 then a6 else if n = 10 then t5 else if n = 11 then td else if n = 12 then tf else if n < 300 then (F (n - 100)).1 else (F (n - 300)).2) (300 + i) = (F i).2 := by
      intro i hi
      simp only []
      rw [if_neg (by omega), if_neg (by omega), if_neg (by omega), if_neg (by omega), if_neg (by omega), if_neg (by omega), if_neg (by omega), if_neg (by omega), if_neg (by omega), if_neg (by omega), if_neg (by omega), Nat.add_sub_cancel_left]
    refine ⟨⟨f1, f2⟩, ⟨d1, e1, fun k hk => ?_⟩, fun i hi => ?_, fun i q hq => ?_, gs_comp h hn, gs_X h hn⟩
    · match k, hk with
      | 0, _ => exact ⟨d2, d3⟩
      | 1, _ => exact ⟨e2, e3⟩
      | k + 2, hk => exact absurd hk (by omega)
    · rw [g1 i hi, g3 i hi]
      have hl : gl_ref.length = 74 := rfl
      obtain ⟨r1, r2, r3, r4, -⟩ := hF i (gl_ref[i]'(by rw [hl]; exact hi)) (List.getElem?_eq_getElem _)
      exact ⟨r1, r2, r3, r4⟩
    · have hi : i < 74 := (List.getElem?_eq_some_iff.mp hq).1
      rw [g1 i hi]
      exact (hF i q hq).2.2.2.2
theorem gs_AO {A : Array Value} {s : State} (h : ∀ w ∈ tables_1, w.before A s = true) : va_AO "NumberText$Bytes" s ∧ va_AO "NumberText$Format" s ∧ gx_AA s := ⟨va_AO.of (h (Jvm.Cond.arrayOver (Jvm.ClassFile.FieldType.object "NumberText$Bytes")) (gt_1 (List.mem_of_getElem? (i := 72) (by decide +kernel)))), va_AO.of (h (Jvm.Cond.arrayOver (Jvm.ClassFile.FieldType.object "NumberText$Format")) (gt_2 (List.mem_of_getElem? (i := 12) (by decide +kernel)))), (show gx_AA s from (h (Jvm.Cond.arrayOver (Jvm.ClassFile.FieldType.array Jvm.ClassFile.FieldType.byte)) (gt_6 (List.mem_of_getElem? (i := 108) (by decide +kernel)))))⟩
theorem gs_H {A : Array Value} {s : State} {l : Launch} (hl : l.stackTraces = false) (h : ∀ w ∈ tables_1, w.before A s = true) : gx_H l s := ⟨hl, (h (Jvm.Cond.laysStatic "java/lang/Throwable" "UNASSIGNED_STACK" "[Ljava/lang/StackTraceElement;") (gt_3 (List.mem_of_getElem? (i := 185) (by decide +kernel)))), (h (Jvm.Cond.laysStatic "java/lang/Throwable" "SUPPRESSED_SENTINEL" "Ljava/util/List;") (gt_3 (List.mem_of_getElem? (i := 187) (by decide +kernel))))⟩
