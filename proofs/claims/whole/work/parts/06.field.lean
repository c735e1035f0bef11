section GXF
variable {p : Program} {l : Launch} {e : Env} {R : Room} {s : State} {m : MethodId} {args : Array Value} {below : List Frame} {meth : Method} {c : Code} {H : Heap} {locs : List Loc} {cells slots : Nat} {Q : State → Prop}
variable {cc : ByteArray} {nL index : Nat} {own : String} {z : State} {D : va_G} {g : Nat → ClassId} {A : Nat → Prop} {ws : va_W} {pc : Nat} {ls : Array Slot} {rest : List Value} {a : Nat}
theorem gx_gf (S : CallFix p m c cc nL s args gtbl own) (E : gx_E z D g s A) (hP : va_P D vwC ws H) (q0 : Nat) {ci : Nat} {fs : List Value} (h0 : ws[q0]? = some (a, .inr (ci, fs))) {C : String} {T : u_T} {N : Nat} (hc : vwC[ci]? = some (C, T, N)) (hin : ∀ w ∈ u_ws C T N, w ∈ gtbl) (k : Nat) (hk : Nat.ble (k + 1) N = true) {fn fd : String}
    (hlink : Cond.fieldLink own index C fn fd ∈ gtbl) (hT : (T k).1 = C ∧ (T k).2.1 = fn ∧ (T k).2.2.1 = fd) {v : Value} (hv : fs[k]? = some v) (hdg : decode cc pc = .ok (.getfield index, 3)) (kk : W p l e R s m args below meth c H locs cells slots Q (F0 m (pc + 3) ls (v :: rest))) : W p l e R s m args below meth c H locs cells slots Q (F0 m pc ls (.ref a :: rest)) := by
  obtain ⟨t1, rfl, rfl⟩ := hT
  exact va_get S.1 S.2.1 S.2.2.2.2 hin S.2.2.2.1 E.1.1 hP q0 h0 hc k (Nat.le_of_ble_eq_true hk) (S.2.2.2.2 _ hlink) (fun x hx => by rw [t1] at hx; exact hx) hv hdg kk
theorem gx_pf (S : CallFix p m c cc nL s args gtbl own) (E : gx_E z D g s A) (hS : va_S A s.heap H locs) (hP : va_P D vwC ws H) (hD : va_D A ws) (q0 : Nat) {ci : Nat} {fs : List Value} (h0 : ws[q0]? = some (a, .inr (ci, fs))) {C : String} {T : u_T} {N : Nat} (hc : vwC[ci]? = some (C, T, N)) (hin : ∀ w ∈ u_ws C T N, w ∈ gtbl) {ty0 : Nat → FieldType} (hty : ∀ k, k < N → parseFieldDescriptor (T k).2.2.1 = some (ty0 k)) (hnm : ∀ a, a < N → ∀ b, b < N → a ≠ b → (T a).2.1 ≠ (T b).2.1)
    (k : Nat) (hk : Nat.ble (k + 1) N = true) {fn fd : String} (hlink : Cond.fieldLink own index C fn fd ∈ gtbl) (hT : (T k).1 = C ∧ (T k).2.1 = fn ∧ (T k).2.2.1 = fd ∧ (T k).2.2.2 = false) {v : Value} (hn : narrow (ty0 k) v = v) (hfit : fits (ty0 k) v = true) (hl : Nat.ble (k + 1) fs.length = true) (hdg : decode cc pc = .ok (.putfield index, 3))
    {ws2 : va_W} (hw : ws.set q0 (a, .inr (ci, fs.set k v)) = ws2) (kk : gx_kk p l e R s m args below meth c cells slots Q D A ws2 (F0 m (pc + 3) ls rest)) : W p l e R s m args below meth c H locs cells slots Q (F0 m pc ls (v :: .ref a :: rest)) := by
  obtain ⟨t1, rfl, rfl, t4⟩ := hT
  exact va_put S.1 S.2.1 S.2.2.2.2 hin ty0 hty hnm S.2.2.2.1 E.1.1 hP hD hS q0 h0 hc k (Nat.le_of_ble_eq_true hk) (S.2.2.2.2 _ hlink) (fun x hx => by rw [t1] at hx; exact hx) t4 (hty k (Nat.le_of_ble_eq_true hk)) hn hfit (Nat.le_of_ble_eq_true hl) hdg (fun H1 locs1 h1 h2 h3 => kk H1 locs1 h3 (by rw [← hw]; exact h1) (by rw [← hw]; exact h2))
theorem gx_ldcw {T : State} (X : Stand p l e R s m args below meth c T locs cells slots) (hexec : p.tables.exec = Jvm.exec) {text : String} (hown : s.vm.findClass own = some m.cls) (hZ : vk_R own index text a s) {fr : JFrame} (hg : fr.method = m) (hdg : decode c.code fr.pc = .ok (.ldc_w index, 3)) :
    ∀ target, Steps p.tables e below (T.setTop { fr with pc := fr.pc + 3, stack := .ref a :: fr.stack }) target → Steps p.tables e below (T.setTop fr) target := by
  obtain ⟨k, cf, i, a', hk, hcf, hcp, -, hr, hev'⟩ := Cond.stringRef_spec hown hZ.1
  cases hZ.2.symm.trans hev'
  obtain ⟨k', hk', he⟩ := X.warmed.alike.2.2 _ _ hk
  have hr' : k'.resolved[index]? = some (some (.string a)) := by
    rcases X.warmed.entry hk hk' index with h | ⟨h, -⟩
    · rw [h]; exact hr
    · rw [hr] at h; cases h
  intro target hrest
  subst hg
  jvm_step X.here [hexec, hdg, ldc_w.wp_string (e := e) (s := T) (f := fr) X.here.top hk' (by rw [he]; exact hcf) hcp hr']
  exact hrest
theorem gx_ldcW (S : CallFix p m c cc nL s args gtbl own) {text : String} (hZ : vk_R own index text a s) (hdg : decode cc pc = .ok (.ldc_w index, 3)) (kk : W p l e R s m args below meth c H locs cells slots Q (F0 m (pc + 3) ls (.ref a :: rest))) : W p l e R s m args below meth c H locs cells slots Q (F0 m pc ls rest) := by
  intro T hT X
  obtain ⟨t, a1, b1⟩ := kk T hT X
  exact ⟨t, gx_ldcw X S.1 S.2.2.2.1 hZ (fr := F0 m pc ls rest) rfl (by rw [S.2.1]; exact hdg) t a1, b1⟩
theorem gx_iast (S : CallFix p m c cc nL s args gtbl own) (E : gx_E z D g s A) (hS : va_S A s.heap H locs) (hP : va_P D vwC ws H) (hD : va_D A ws) (q0 t0 : Nat) {cA : ClassId} {n : Nat} {f : Nat → Int32} (ha : ws[q0]? = some (a, .inl (cA, n, .inl f))) (ht : (tyG g)[t0]? = some (cA, .int)) {i : Int32} {x : Int32} (hin : gx_ok i n = true) (hdg : decode cc pc = .ok (.iastore, 1)) {ws2 : va_W} (hw : ws.set q0 (a, .inl (cA, n, .inl (upd f i.toNatClampNeg x))) = ws2)
    (kk : gx_kk p l e R s m args below meth c cells slots Q D A ws2 (F0 m (pc + 1) ls rest)) : W p l e R s m args below meth c H locs cells slots Q (F0 m pc ls (.int x :: .int i :: .ref a :: rest)) :=
  va_iast S.1 S.2.1 E.1.1 hP hD hS q0 t0 ha ht (gx_okv hin) hdg (fun H1 locs1 h1 h2 h3 => kk H1 locs1 h3 (by rw [← hw]; exact h1) (by rw [← hw]; exact h2))
theorem gx_bast (S : CallFix p m c cc nL s args gtbl own) (E : gx_E z D g s A) (hS : va_S A s.heap H locs) (hP : va_P D vwC ws H) (hD : va_D A ws) (q0 t0 : Nat) {cA : ClassId} {n : Nat} {f : Nat → Int32} (ha : ws[q0]? = some (a, .inl (cA, n, .inl f))) (ht : (tyG g)[t0]? = some (cA, .byte)) {i : Int32} {x : Int32} (hin : gx_ok i n = true) (hdg : decode cc pc = .ok (.bastore, 1)) {ws2 : va_W} (hw : ws.set q0 (a, .inl (cA, n, .inl (upd f i.toNatClampNeg (vp_nar .byte x)))) = ws2)
    (kk : gx_kk p l e R s m args below meth c cells slots Q D A ws2 (F0 m (pc + 1) ls rest)) : W p l e R s m args below meth c H locs cells slots Q (F0 m pc ls (.int x :: .int i :: .ref a :: rest)) :=
  va_bast S.1 S.2.1 E.1.1 hP hD hS q0 t0 ha ht (gx_okv hin) hdg (fun H1 locs1 h1 h2 h3 => kk H1 locs1 h3 (by rw [← hw]; exact h1) (by rw [← hw]; exact h2))
theorem gx_zast (S : CallFix p m c cc nL s args gtbl own) (E : gx_E z D g s A) (hS : va_S A s.heap H locs) (hP : va_P D vwC ws H) (hD : va_D A ws) (q0 t0 : Nat) {cA : ClassId} {n : Nat} {f : Nat → Int32} (ha : ws[q0]? = some (a, .inl (cA, n, .inl f))) (ht : (tyG g)[t0]? = some (cA, .boolean)) {i : Int32} {x : Int32} (hin : gx_ok i n = true) (hdg : decode cc pc = .ok (.bastore, 1)) {ws2 : va_W} (hw : ws.set q0 (a, .inl (cA, n, .inl (upd f i.toNatClampNeg (vp_nar .boolean x)))) = ws2)
    (kk : gx_kk p l e R s m args below meth c cells slots Q D A ws2 (F0 m (pc + 1) ls rest)) : W p l e R s m args below meth c H locs cells slots Q (F0 m pc ls (.int x :: .int i :: .ref a :: rest)) :=
  va_zast S.1 S.2.1 E.1.1 hP hD hS q0 t0 ha ht (gx_okv hin) hdg (fun H1 locs1 h1 h2 h3 => kk H1 locs1 h3 (by rw [← hw]; exact h1) (by rw [← hw]; exact h2))
theorem gx_last (S : CallFix p m c cc nL s args gtbl own) (E : gx_E z D g s A) (hS : va_S A s.heap H locs) (hP : va_P D vwC ws H) (hD : va_D A ws) (q0 t0 : Nat) {cA : ClassId} {n : Nat} {f : Nat → Int64} (ha : ws[q0]? = some (a, .inl (cA, n, .inr (.inl f)))) (ht : (tyG g)[t0]? = some (cA, .long)) {i : Int32} {x : Int64} (hin : gx_ok i n = true) (hdg : decode cc pc = .ok (.lastore, 1)) {ws2 : va_W} (hw : ws.set q0 (a, .inl (cA, n, .inr (.inl (vp_updL f i.toNatClampNeg x)))) = ws2)
    (kk : gx_kk p l e R s m args below meth c cells slots Q D A ws2 (F0 m (pc + 1) ls rest)) : W p l e R s m args below meth c H locs cells slots Q (F0 m pc ls (.long x :: .int i :: .ref a :: rest)) :=
  va_last S.1 S.2.1 E.1.1 hP hD hS q0 t0 ha ht (gx_okv hin) hdg (fun H1 locs1 h1 h2 h3 => kk H1 locs1 h3 (by rw [← hw]; exact h1) (by rw [← hw]; exact h2))
/-- what a copy asks of its numbers -/
def gx_cpk (sp dp n : Int32) (n0 n1 : Nat) : Bool := decide (¬ sp < 0) && (decide (¬ dp < 0) && (decide (¬ n < 0) && (decide (sp.toNatClampNeg + n.toNatClampNeg ≤ n0) && decide (dp.toNatClampNeg + n.toNatClampNeg ≤ n1))))
def gx_cpf (ty : FieldType) (f : Nat → Int32) (sp n : Int32) : Bool := (List.range n.toNatClampNeg).all (fun i => fits ty (.int (f (sp.toNatClampNeg + i))))
theorem gx_cp (S : CallFix p m c cc nL s args gtbl own) (E : gx_E z D g s A) (hS : va_S A s.heap H locs) (hP : va_P D vwC ws H) (hD : va_D A ws) (hml : ls.size = nL) (hlink : Cond.methodLink own index arraycopyName ∈ gtbl) (hnat : Cond.native arraycopyName ∈ gtbl) (hstat : Cond.static arraycopyName ∈ gtbl) (hini : Cond.initialized "java/lang/System" ∈ gtbl) (q0 q1 t0 : Nat) {a0 : Nat} {c0 c1 : ClassId} {n0 n1 : Nat} {f f1 : Nat → Int32} {ty : FieldType} (ha0 : ws[q0]? = some (a0, .inl (c0, n0, .inl f))) (ha1 : ws[q1]? = some (a, .inl (c1, n1, .inl f1))) (ht0 : (tyG g)[t0]? = some (c0, ty)) (ht1 : (tyG g)[t0]? = some (c1, ty)) (hprim : refKind ty = false)
    {sp dp n : Int32} (hk : gx_cpk sp dp n n0 n1 = true) (hf : gx_cpf ty f sp n = true) (hfr : Nat.ble 1 R.frames = true) (hlo : Nat.ble ((rest.map fun v => v.category).sum + 18) R.locals = true) (hdg : decode cc pc = .ok (.invokestatic index, 3))
    {ws2 : va_W} (hw : ws.set q1 (a, .inl (c1, n1, .inl (va_cpy f f1 sp.toNatClampNeg dp.toNatClampNeg n.toNatClampNeg))) = ws2) (kk : gx_kk p l e R s m args below meth c cells slots Q D A ws2 (F0 m (pc + 3) ls rest)) : W p l e R s m args below meth c H locs cells slots Q (F0 m pc ls (.int n :: .int dp :: .ref a :: .int sp :: .ref a0 :: rest)) := by
  simp only [gx_cpk, Bool.and_eq_true, decide_eq_true_eq] at hk
  refine va_copyi S.1 S.2.1 (S.2.2.1.trans hml.symm) S.2.2.2.1 (S.2.2.2.2 _ hlink) (S.2.2.2.2 _ hnat) (S.2.2.2.2 _ hstat) (S.2.2.2.2 _ hini) E.1.1 hP hD hS q0 q1 t0 t0 ha0 ha1 ht0 ht1 hprim hk.1 hk.2.1 hk.2.2.1 hk.2.2.2.1 hk.2.2.2.2 (fun i hi => ?_) (Nat.le_of_ble_eq_true hfr) ?_ hdg (fun H1 locs1 h1 h2 h3 => kk H1 locs1 h3 (by rw [← hw]; exact h1) (by rw [← hw]; exact h2))
  · exact List.all_eq_true.mp hf i (List.mem_range.mpr hi)
  · have h := Nat.le_of_ble_eq_true hlo
    have e : nativeFrameWords "java/lang/System" "arraycopy" 5 = 7 := by decide +kernel
    rw [e]; exact h
end GXF
def gx_bo (v : Int32) : Bool := v == 0 || v == 1
theorem gx_bo_n {v : Int32} (h : gx_bo v = true) : narrow .boolean (.int v) = .int v := by
  simp only [gx_bo, Bool.or_eq_true, beq_iff_eq] at h
  rcases h with rfl | rfl <;> decide +kernel
theorem gx_bo_f {v : Int32} (h : gx_bo v = true) : fits .boolean (.int v) = true := by
  simp only [gx_bo, Bool.or_eq_true, beq_iff_eq] at h
  rcases h with rfl | rfl <;> decide +kernel
abbrev gx_sz (i : Nat) : List Int32 := match i with
  | 0 => [53, 24]
  | 1 => [-1074, -149]
  | 2 => [971, 104]
  | _ => [63, 31]
def gx_nr (ty : FieldType) (v : Int32) : Bool := match narrow ty (.int v) with
  | .int w => w == v
  | _ => false
theorem gx_nr_n {ty : FieldType} {v : Int32} (h : gx_nr ty v = true) : narrow ty (.int v) = .int v := by
  unfold gx_nr at h
  cases hn : narrow ty (.int v) with
  | int w => rw [hn] at h; simp only [beq_iff_eq] at h; rw [h]
  | _ => rw [hn] at h; cases h
theorem gx_ok_lt {i : Int32} {n : Nat} (h : gx_ok i n = true) : i.toNatClampNeg < n := Nat.not_le.mp fun q => (gx_okv h) (Or.inr q)
theorem gx_lt16 {n : Nat} (h : n < 16) : n = 0 ∨ n = 1 ∨ n = 2 ∨ n = 3 ∨ n = 4 ∨ n = 5 ∨ n = 6 ∨ n = 7 ∨ n = 8 ∨ n = 9 ∨ n = 10 ∨ n = 11 ∨ n = 12 ∨ n = 13 ∨ n = 14 ∨ n = 15 := by omega
def gx_tx (g : Nat → ClassId) (ta ra : Nat → Nat) (tl tv : Nat → Int32) (tc : Nat → Nat → Int32) : va_W := [(ta 0, .inr (3, [.ref (ra 0), .int (tl 0), .int (tv 0)])), (ra 0, .inl (g 1, 200, .inl (tc 0))), (ta 1, .inr (3, [.ref (ra 1), .int (tl 1), .int (tv 1)])), (ra 1, .inl (g 1, 200, .inl (tc 1))), (ta 2, .inr (3, [.ref (ra 2), .int (tl 2), .int (tv 2)])), (ra 2, .inl (g 1, 200, .inl (tc 2))), (ta 3, .inr (3, [.ref (ra 3), .int (tl 3), .int (tv 3)])), (ra 3, .inl (g 1, 200, .inl (tc 3))), (ta 4, .inr (3, [.ref (ra 4), .int (tl 4), .int (tv 4)])), (ra 4, .inl (g 1, 200, .inl (tc 4))), (ta 5, .inr (3, [.ref (ra 5), .int (tl 5), .int (tv 5)])), (ra 5, .inl (g 1, 200, .inl (tc 5))), (ta 6, .inr (3, [.ref (ra 6), .int (tl 6), .int (tv 6)])), (ra 6, .inl (g 1, 200, .inl (tc 6))), (ta 7, .inr (3, [.ref (ra 7), .int (tl 7), .int (tv 7)])), (ra 7, .inl (g 1, 200, .inl (tc 7))), (ta 8, .inr (3, [.ref (ra 8), .int (tl 8), .int (tv 8)])), (ra 8, .inl (g 1, 200, .inl (tc 8))), (ta 9, .inr (3, [.ref (ra 9), .int (tl 9), .int (tv 9)])), (ra 9, .inl (g 1, 200, .inl (tc 9))), (ta 10, .inr (3, [.ref (ra 10), .int (tl 10), .int (tv 10)])), (ra 10, .inl (g 1, 200, .inl (tc 10))), (ta 11, .inr (3, [.ref (ra 11), .int (tl 11), .int (tv 11)])), (ra 11, .inl (g 1, 200, .inl (tc 11))), (ta 12, .inr (3, [.ref (ra 12), .int (tl 12), .int (tv 12)])), (ra 12, .inl (g 1, 200, .inl (tc 12))), (ta 13, .inr (3, [.ref (ra 13), .int (tl 13), .int (tv 13)])), (ra 13, .inl (g 1, 200, .inl (tc 13))), (ta 14, .inr (3, [.ref (ra 14), .int (tl 14), .int (tv 14)])), (ra 14, .inl (g 1, 200, .inl (tc 14))), (ta 15, .inr (3, [.ref (ra 15), .int (tl 15), .int (tv 15)])), (ra 15, .inl (g 1, 200, .inl (tc 15)))]
def gx_mt (g : Nat → ClassId) (ta : Nat → Nat) (tc : Nat → Nat → Int32) : va_W := [(ta 0, .inl (g 1, 200, .inl (tc 0))), (ta 1, .inl (g 1, 200, .inl (tc 1))), (ta 2, .inl (g 1, 200, .inl (tc 2))), (ta 3, .inl (g 1, 200, .inl (tc 3))), (ta 4, .inl (g 1, 200, .inl (tc 4))), (ta 5, .inl (g 1, 200, .inl (tc 5))), (ta 6, .inl (g 1, 200, .inl (tc 6))), (ta 7, .inl (g 1, 200, .inl (tc 7))), (ta 8, .inl (g 1, 200, .inl (tc 8))), (ta 9, .inl (g 1, 200, .inl (tc 9))), (ta 10, .inl (g 1, 200, .inl (tc 10))), (ta 11, .inl (g 1, 200, .inl (tc 11))), (ta 12, .inl (g 1, 200, .inl (tc 12))), (ta 13, .inl (g 1, 200, .inl (tc 13))), (ta 14, .inl (g 1, 200, .inl (tc 14))), (ta 15, .inl (g 1, 200, .inl (tc 15)))]
section GXG
variable {p : Program} {l : Launch} {e : Env} {R : Room} {s : State} {m : MethodId} {args : Array Value} {below : List Frame} {meth : Method} {c : Code} {H : Heap} {locs : List Loc} {cells slots : Nat} {Q : State → Prop} {cc : ByteArray} {pc : Nat} {ls : Array Slot} {rest : List Value} {D : va_G} {cl : List vw_C} {a : Nat} {tys : List (ClassId × FieldType)} {ws : va_W}
theorem gx_aald {x : Nat} (hexec : p.tables.exec = Jvm.exec) (hb : c.code = cc) (hK : va_K D cl tys s) (hP : va_P D cl ws H) (q0 t0 : Nat) {cA : ClassId} {ty : FieldType} {n : Nat} {f : Nat → Option Nat} (ha : ws[q0]? = some (a, .inl (cA, n, .inr (.inr (.inr (.inr f)))))) (ht : tys[t0]? = some (cA, ty)) {i : Int32} (hin : vp_in i n) (hx : f i.toNatClampNeg = some x) (hdg : decode cc pc = .ok (.aaload, 1)) (hr : ty.isReference = true)
    (kk : W p l e R s m args below meth c H locs cells slots Q (F0 m (pc + 1) ls (.ref x :: rest))) : W p l e R s m args below meth c H locs cells slots Q (F0 m pc ls (.int i :: .ref a :: rest)) := by
  have hlt : i.toNatClampNeg < n := Nat.not_le.mp fun q => hin (Or.inr q)
  have kk : W p l e R s m args below meth c H locs cells slots Q (F0 m (pc + 1) ls (va_rf (f i.toNatClampNeg) :: rest)) := by rw [hx]; exact kk
  exact W.aald (v := va_rf (f i.toNatClampNeg)) (ty := ty) hexec hb (hP q0 _ ha) ((hK.2 t0 _ ht).1 n (fun j => va_rf (f j))) hr (fun q => by cases q) (by show ¬ (i < 0 ∨ (arrV _ _ _).slots.size ≤ _); rw [arrV_size]; exact hin) (by show (arrV _ _ _).slots[_]? = _; rw [arrV_read _ _ hlt]) rfl rfl hdg kk
end GXG
theorem gx_n0 : narrow .boolean (.int 0) = .int 0 := by decide +kernel
theorem gx_n1 : narrow .boolean (.int 1) = .int 1 := by decide +kernel
