section GXF
variable {p : Program} {l : Launch} {e : Env} {R : Room} {s : State} {m : MethodId} {args : Array Value} {below : List Frame} {meth : Method} {c : Code} {H : Heap} {locs : List Loc} {cells slots : Nat} {Q : State → Prop}
variable {cc : ByteArray} {nL index : Nat} {own : String} {z : State} {D : va_G} {g : Nat → ClassId} {A : Nat → Prop} {ws : va_W} {pc : Nat} {ls : Array Slot} {rest : List Value} {a : Nat}
theorem gx_gf (S : CallFix p m c cc nL s args gtbl own) (E : gx_E z D g s A) (hP : va_P D vwC ws H) (q0 : Nat) {ci : Nat} {fs : List Value} (h0 : ws[q0]? = some (a, .inr (ci, fs))) {C : String} {T : u_T} {N : Nat} (hc : vwC[ci]? = some (C, T, N)) (hin : ∀ w ∈ u_ws C T N, w ∈ gtbl) (k : Nat) (hk : Nat.ble (k + 1) N = true) {fn fd : String}
    (hlink : Cond.fieldLink own index C fn fd ∈ gtbl) (hT : (T k).1 = C ∧ (T k).2.1 = fn ∧ (T k).2.2.1 = fd) {v : Value} (hv : fs[k]? = some v) (hdg : decode cc pc = .ok (.getfield index, 3)) (kk : W p l e R s m args below meth c H locs cells slots Q (F0 m (pc + 3) ls (v :: rest))) : W p l e R s m args below meth c H locs cells slots Q (F0 m pc ls (.ref a :: rest)) := by
  obtain ⟨t1, rfl, rfl⟩ := hT
  exact va_get S.1 S.2.1 S.2.2.2.2 hin S.2.2.2.1 E.1.1 hP q0 h0 hc k (Nat.le_of_ble_eq_true hk) (S.2.2.2.2 _ hlink) (fun x hx => by rw [t1] at hx; exact hx) hv hdg kk
theorem gx_pf (S : CallFix p m c cc nL s args gtbl own) (E : gx_E z D g s A) (hS : va_S A s.heap H locs) (hP : va_P D vwC ws H) (hD : va_D A ws) (q0 : Nat) {ci : Nat} {fs : List Value} (h0 : ws[q0]? = some (a, .inr (ci, fs))) {C : String} {T : u_T} {N : Nat} (hc : vwC[ci]? = some (C, T, N)) (hin : ∀ w ∈ u_ws C T N, w ∈ gtbl) {ty0 : Nat → FieldType} (hty : ∀ k, k < N → parseFieldDescriptor (T k).2.2.1 = some (ty0 k)) (hnm : ∀ a, a < N → ∀ b, b < N → a ≠ b → (T a).2.1 ≠ (T b).2.1)
    (k : Nat) (hk : Nat.ble (k + 1) N = true) {fn fd : String} (hlink : Cond.fieldLink own index C fn fd ∈ gtbl) (hT : (T k).1 = C ∧ (T k).2.1 = fn ∧ (T k).2.2.1 = fd ∧ (T k).2.2.2 = false) {v : Value} (hn : narrow (ty0 k) v = v) (hfit : fits (ty0 k) v = true) (hl : Nat.ble (k + 1) fs.length = true) (hdg : decode cc pc = .ok (.putfield index, 3))
    (kk : gx_kk p l e R s m args below meth c cells slots Q D A (ws.set q0 (a, .inr (ci, fs.set k v))) (F0 m (pc + 3) ls rest)) : W p l e R s m args below meth c H locs cells slots Q (F0 m pc ls (v :: .ref a :: rest)) := by
  obtain ⟨t1, rfl, rfl, t4⟩ := hT
  exact va_put S.1 S.2.1 S.2.2.2.2 hin ty0 hty hnm S.2.2.2.1 E.1.1 hP hD hS q0 h0 hc k (Nat.le_of_ble_eq_true hk) (S.2.2.2.2 _ hlink) (fun x hx => by rw [t1] at hx; exact hx) t4 (hty k (Nat.le_of_ble_eq_true hk)) hn hfit (Nat.le_of_ble_eq_true hl) hdg (fun H1 locs1 h1 h2 h3 => kk H1 locs1 h3 h1 h2)
end GXF
def gx_bo (v : Int32) : Bool := v == 0 || v == 1
theorem gx_bo_n {v : Int32} (h : gx_bo v = true) : narrow .boolean (.int v) = .int v := by
  simp only [gx_bo, Bool.or_eq_true, beq_iff_eq] at h
  rcases h with rfl | rfl <;> decide +kernel
theorem gx_bo_f {v : Int32} (h : gx_bo v = true) : fits .boolean (.int v) = true := by
  simp only [gx_bo, Bool.or_eq_true, beq_iff_eq] at h
  rcases h with rfl | rfl <;> decide +kernel
