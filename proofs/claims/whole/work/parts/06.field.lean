section GXF
variable {p : Program} {l : Launch} {e : Env} {R : Room} {s : State} {m : MethodId} {args : Array Value} {below : List Frame} {meth : Method} {c : Code} {H : Heap} {locs : List Loc} {cells slots : Nat} {Q : State → Prop}
variable {cc : ByteArray} {nL index : Nat} {own : String} {z : State} {D : va_G} {g : Nat → ClassId} {A : Nat → Prop} {ws : va_W} {pc : Nat} {ls : Array Slot} {rest : List Value} {a : Nat}
theorem gx_gf (S : CallFix p m c cc nL s args gtbl own) (E : gx_E z D g s A) (hP : va_P D vwC ws H) (q0 : Nat) {ci : Nat} {fs : List Value} (h0 : ws[q0]? = some (a, .inr (ci, fs))) {C : String} {T : u_T} {N : Nat} (hc : vwC[ci]? = some (C, T, N)) (hin : ∀ w ∈ u_ws C T N, w ∈ gtbl) (k : Nat) (hk : Nat.ble (k + 1) N = true) {fn fd : String}
    (hlink : Cond.fieldLink own index C fn fd ∈ gtbl) (hT : (T k).1 = C ∧ (T k).2.1 = fn ∧ (T k).2.2.1 = fd) {v : Value} (hv : fs[k]? = some v) (hdg : decode cc pc = .ok (.getfield index, 3)) (kk : W p l e R s m args below meth c H locs cells slots Q (F0 m (pc + 3) ls (v :: rest))) : W p l e R s m args below meth c H locs cells slots Q (F0 m pc ls (.ref a :: rest)) := by
  obtain ⟨t1, rfl, rfl⟩ := hT
  exact va_get S.1 S.2.1 S.2.2.2.2 hin S.2.2.2.1 E.1.1 hP q0 h0 hc k (Nat.le_of_ble_eq_true hk) (S.2.2.2.2 _ hlink) (fun x hx => by rw [t1] at hx; exact hx) hv hdg kk
theorem gx_pf (S : CallFix p m c cc nL s args gtbl own) (E : gx_E z D g s A) (hS : va_S A s.heap H locs) (hP : va_P D vwC ws H) (hD : va_D A ws) (q0 : Nat) {ci : Nat} {fs : List Value} (h0 : ws[q0]? = some (a, .inr (ci, fs))) {C : String} {T : u_T} {N : Nat} (hc : vwC[ci]? = some (C, T, N)) (hin : ∀ w ∈ u_ws C T N, w ∈ gtbl) {ty0 : Nat → FieldType} (hty : ∀ k, k < N → parseFieldDescriptor (T k).2.2.1 = some (ty0 k)) (hnm : ∀ a, a < N → ∀ b, b < N → a ≠ b → (T a).2.1 ≠ (T b).2.1)
    (k : Nat) (hk : Nat.ble (k + 1) N = true) {fn fd : String} (hlink : Cond.fieldLink own index C fn fd ∈ gtbl) (hT : (T k).1 = C ∧ (T k).2.1 = fn ∧ (T k).2.2.1 = fd ∧ (T k).2.2.2 = false) {v : Value} (hn : narrow (ty0 k) v = v) (hfit : fits (ty0 k) v = true) (hl : Nat.ble (k + 1) fs.length = true) (hdg : decode cc pc = .ok (.putfield index, 3))
    (kk : gx_kk p l e R s m args below meth c cells slots Q D A (ws.set q0 (a, .inr (ci, fs.set k v))) (F0 m (pc + 3) ls rest)) : W p l e R s m args below meth c H locs cells slots Q (F0 m pc ls (v :: .ref a :: rest)) := by
  obtain ⟨t1, rfl, rfl, t4⟩ := hT
  exact va_put S.1 S.2.1 S.2.2.2.2 hin ty0 hty hnm S.2.2.2.1 E.1.1 hP hD hS q0 h0 hc k (Nat.le_of_ble_eq_true hk) (S.2.2.2.2 _ hlink) (fun x hx => by rw [t1] at hx; exact hx) t4 (hty k (Nat.le_of_ble_eq_true hk)) hn hfit (Nat.le_of_ble_eq_true hl) hdg (fun H1 locs1 h1 h2 h3 => kk H1 locs1 h3 h1 h2)
theorem gx_ldcw {T : State} (X : Stand p l e R s m args below meth c T locs cells slots) (hexec : p.tables.exec = Jvm.exec) {text : String} (hown : s.vm.findClass own = some m.cls) (hZ : vk_R own index text a s) {fr : JFrame} (hg : fr.method = m) (hdg : decode c.code fr.pc = .ok (.ldc_w index, 3)) :
    ∀ target, Steps p.tables e below (T.setTop { fr with pc := fr.pc + 3, stack := .ref a :: fr.stack }) target → Steps p.tables e below (T.setTop fr) target := by
  obtain ⟨k, cf, i, a', hk, hcf, hcp, -, hr, hev'⟩ := Cond.stringRef_spec hown hZ.1
  cases hZ.2.symm.trans hev'
  obtain ⟨k', hk', he⟩ := X.warmed.alike.2.2 _ _ hk
  have hr' : k'.resolved[index]? = some (some (.string a)) := by
    rcases X.warmed.entry hk hk' index with h | ⟨h, -⟩
    · rw [h]; exact hr
    · rw [hr] at h; cases h
  intro target hrest
  subst hg
  jvm_step X.here [hexec, hdg, ldc_w.wp_string (e := e) (s := T) (f := fr) X.here.top hk' (by rw [he]; exact hcf) hcp hr']
  exact hrest
theorem gx_ldcW (S : CallFix p m c cc nL s args gtbl own) {text : String} (hZ : vk_R own index text a s) (hdg : decode cc pc = .ok (.ldc_w index, 3)) (kk : W p l e R s m args below meth c H locs cells slots Q (F0 m (pc + 3) ls (.ref a :: rest))) : W p l e R s m args below meth c H locs cells slots Q (F0 m pc ls rest) := by
  intro T hT X
  obtain ⟨t, a1, b1⟩ := kk T hT X
  exact ⟨t, gx_ldcw X S.1 S.2.2.2.1 hZ (fr := F0 m pc ls rest) rfl (by rw [S.2.1]; exact hdg) t a1, b1⟩
/-- what a copy asks of its numbers -/
def gx_cpk (sp dp n : Int32) (n0 n1 : Nat) : Bool := decide (¬ sp < 0) && (decide (¬ dp < 0) && (decide (¬ n < 0) && (decide (sp.toNatClampNeg + n.toNatClampNeg ≤ n0) && decide (dp.toNatClampNeg + n.toNatClampNeg ≤ n1))))
def gx_cpf (ty : FieldType) (f : Nat → Int32) (sp n : Int32) : Bool := (List.range n.toNatClampNeg).all (fun i => fits ty (.int (f (sp.toNatClampNeg + i))))
theorem gx_cp (S : CallFix p m c cc nL s args gtbl own) (E : gx_E z D g s A) (hS : va_S A s.heap H locs) (hP : va_P D vwC ws H) (hD : va_D A ws) (hml : ls.size = nL) (hlink : Cond.methodLink own index arraycopyName ∈ gtbl) (hnat : Cond.native arraycopyName ∈ gtbl) (hstat : Cond.static arraycopyName ∈ gtbl) (hini : Cond.initialized "java/lang/System" ∈ gtbl) (q0 q1 t0 : Nat) {a0 : Nat} {c0 c1 : ClassId} {n0 n1 : Nat} {f f1 : Nat → Int32} {ty : FieldType} (ha0 : ws[q0]? = some (a0, .inl (c0, n0, .inl f))) (ha1 : ws[q1]? = some (a, .inl (c1, n1, .inl f1))) (ht0 : (tyG g)[t0]? = some (c0, ty)) (ht1 : (tyG g)[t0]? = some (c1, ty)) (hprim : refKind ty = false)
    {sp dp n : Int32} (hk : gx_cpk sp dp n n0 n1 = true) (hf : gx_cpf ty f sp n = true) (hfr : Nat.ble 1 R.frames = true) (hlo : Nat.ble ((rest.map fun v => v.category).sum + 18) R.locals = true) (hdg : decode cc pc = .ok (.invokestatic index, 3))
    (kk : gx_kk p l e R s m args below meth c cells slots Q D A (ws.set q1 (a, .inl (c1, n1, .inl (va_cpy f f1 sp.toNatClampNeg dp.toNatClampNeg n.toNatClampNeg)))) (F0 m (pc + 3) ls rest)) : W p l e R s m args below meth c H locs cells slots Q (F0 m pc ls (.int n :: .int dp :: .ref a :: .int sp :: .ref a0 :: rest)) := by
  simp only [gx_cpk, Bool.and_eq_true, decide_eq_true_eq] at hk
  refine va_copyi S.1 S.2.1 (S.2.2.1.trans hml.symm) S.2.2.2.1 (S.2.2.2.2 _ hlink) (S.2.2.2.2 _ hnat) (S.2.2.2.2 _ hstat) (S.2.2.2.2 _ hini) E.1.1 hP hD hS q0 q1 t0 t0 ha0 ha1 ht0 ht1 hprim hk.1 hk.2.1 hk.2.2.1 hk.2.2.2.1 hk.2.2.2.2 (fun i hi => ?_) (Nat.le_of_ble_eq_true hfr) ?_ hdg (fun H1 locs1 h1 h2 h3 => kk H1 locs1 h3 h1 h2)
  · exact List.all_eq_true.mp hf i (List.mem_range.mpr hi)
  · have h := Nat.le_of_ble_eq_true hlo
    have e : nativeFrameWords "java/lang/System" "arraycopy" 5 = 7 := by decide +kernel
    rw [e]; exact h
end GXF
def gx_bo (v : Int32) : Bool := v == 0 || v == 1
theorem gx_bo_n {v : Int32} (h : gx_bo v = true) : narrow .boolean (.int v) = .int v := by
  simp only [gx_bo, Bool.or_eq_true, beq_iff_eq] at h
  rcases h with rfl | rfl <;> decide +kernel
theorem gx_bo_f {v : Int32} (h : gx_bo v = true) : fits .boolean (.int v) = true := by
  simp only [gx_bo, Bool.or_eq_true, beq_iff_eq] at h
  rcases h with rfl | rfl <;> decide +kernel
abbrev gx_sz (i : Nat) : List Int32 := match i with
  | 0 => [53, 24]
  | 1 => [-1074, -149]
  | 2 => [971, 104]
  | _ => [63, 31]
def gx_nr (ty : FieldType) (v : Int32) : Bool := match narrow ty (.int v) with
  | .int w => w == v
  | _ => false
theorem gx_nr_n {ty : FieldType} {v : Int32} (h : gx_nr ty v = true) : narrow ty (.int v) = .int v := by
  unfold gx_nr at h
  cases hn : narrow ty (.int v) with
  | int w => rw [hn] at h; simp only [beq_iff_eq] at h; rw [h]
  | _ => rw [hn] at h; cases h
