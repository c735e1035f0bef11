section GPF
variable {p : Program} {l : Launch} {e : Env} {R : Room} {s : State} {m : MethodId} {args : Array Value} {below : List Frame} {meth : Method} {c : Code} {H : Heap} {locs : List Loc} {cells slots : Nat} {Q : State → Prop}
variable {cc : ByteArray} {nL index a : Nat} {own : String} {z : State} {D : va_G} {g : Nat → ClassId} {A : Nat → Prop} {ws : va_W} {pc : Nat} {ls : Array Slot} {rest : List Value}
/-- a final field is written in its own constructor -/
theorem gx_pfF (hinit : meth.name = "<init>") (S : CallFix p m c cc nL s args gtbl own) (E : gx_E z D g s A) (hS : va_S A s.heap H locs) (hP : va_P D vwC ws H) (hD : va_D A ws) (q0 : Nat) {ci : Nat} {fs : List Value} (h0 : ws[q0]? = some (a, .inr (ci, fs))) {C : String} {T : u_T} {N : Nat} (hc : vwC[ci]? = some (C, T, N)) (hin : ∀ w ∈ u_ws C T N, w ∈ gtbl) {ty0 : Nat → FieldType} (hty : ∀ k, k < N → parseFieldDescriptor (T k).2.2.1 = some (ty0 k)) (hnm : ∀ a, a < N → ∀ b, b < N → a ≠ b → (T a).2.1 ≠ (T b).2.1)
    (k : Nat) (hk : Nat.ble (k + 1) N = true) {fn fd : String} (hlink : Cond.fieldLink own index C fn fd ∈ gtbl) (hT : (T k).1 = C ∧ (T k).2.1 = fn ∧ (T k).2.2.1 = fd ∧ (T k).2.2.2 = true ∧ (T k).1 = own) {v : Value} (hn : narrow (ty0 k) v = v) (hfit : fits (ty0 k) v = true) (hl : Nat.ble (k + 1) fs.length = true) (hdg : decode cc pc = .ok (.putfield index, 3))
    {ws2 : va_W} (hw : ws.set q0 (a, .inr (ci, fs.set k v)) = ws2) (kk : gx_kk p l e R s m args below meth c cells slots Q D A ws2 (F0 m (pc + 3) ls rest)) : W p l e R s m args below meth c H locs cells slots Q (F0 m pc ls (v :: .ref a :: rest)) := by
  obtain ⟨t1, rfl, rfl, t4, t5⟩ := hT
  exact va_putF S.1 S.2.1 S.2.2.2.2 hin ty0 hty hnm S.2.2.2.1 E.1.1 hP hD hS q0 h0 hc k (Nat.le_of_ble_eq_true hk) (S.2.2.2.2 _ hlink) (fun x hx => by rw [t1] at hx; exact hx) t4 hinit t5 (hty k (Nat.le_of_ble_eq_true hk)) hn hfit (Nat.le_of_ble_eq_true hl) hdg (fun H1 locs1 h1 h2 h3 => kk H1 locs1 h3 (by rw [← hw]; exact h1) (by rw [← hw]; exact h2))
/-- an array of objects is made -/
theorem gx_nwq (j : Nat) {C : String} {x : Int32} {N : Nat} (S : CallFix p m c cc nL s args gtbl own) (E : gx_E z D g s A) (hover : va_AO C s) (hS : va_S A s.heap H locs) (hP : va_P D vwC ws H) (hD : va_D A ws) (hcl : Cond.classLink own index C ∈ gtbl) (hg : (tyG g)[j]? = some (g j, .object C)) (hlen : (tyG g).length = 7)
    (hn : ¬ x < 0) (hN : x.toNatClampNeg = N) (hb : Nat.ble (N * 4) 536870912 = true) (hroom : (Nat.ble (cells + 1) R.cells && Nat.ble (slots + N) R.slots) = true) (hdg : decode cc pc = .ok (.anewarray index, 3))
    (kk : ∀ (q : Nat) (H : Heap), va_S A s.heap H locs → va_P D vwC (ws ++ [(q, .inl (g j, N, .inr (.inr (.inr (.inr (fun _ => none))))))]) H → va_D A (ws ++ [(q, .inl (g j, N, .inr (.inr (.inr (.inr (fun _ => none))))))]) → W p l e R s m args below meth c H locs (cells + 1) (slots + N) Q (F0 m (pc + 3) ls (.ref q :: rest))) : W p l e R s m args below meth c H locs cells slots Q (F0 m pc ls (.int x :: rest)) := by
  rw [Bool.and_eq_true] at hroom
  refine va_newq (tys := tyG g) S.1 S.2.1 S.2.2.2.1 (S.2.2.2.2 _ hcl) hover E.1.1 hP hD hS E.2.2.2 hn hN (Nat.le_of_ble_eq_true hb) (Nat.le_of_ble_eq_true hroom.1) (Nat.le_of_ble_eq_true hroom.2) hdg (fun q cA H hK7 h1 h2 h3 => ?_)
  obtain ⟨kA, comp, -, -, -, e1⟩ := (hK7.2 7 (cA, .object C) (by rw [List.getElem?_append_right (by omega), hlen]; rfl)).2
  obtain ⟨kA2, comp2, -, -, -, e2⟩ := (E.1.1.2 j (g j, .object C) hg).2
  obtain rfl : cA = g j := Option.some.inj (e1.symm.trans e2)
  exact kk q H h3 h1 h2
end GPF
/-- a row of references is looked at place by place -/
theorem gx_refs {D : va_G} {A : Nat → Prop} {ws ws2 : va_W} {H : Heap} {a N : Nat} {c : ClassId} {f f' : Nat → Option Nat} (i : Nat) (hP : va_P D vwC ws H) (hD : va_D A ws) (h : ws[i]? = some (a, .inl (c, N, .inr (.inr (.inr (.inr f)))))) (hf : ∀ j, j < N → f j = f' j) (hw : ws.set i (a, .inl (c, N, .inr (.inr (.inr (.inr f'))))) = ws2) : va_P D vwC ws2 H ∧ va_D A ws2 := by
  subst hw
  have e0 : vp_cell c (N, .inr (.inr (.inr (.inr f)))) = vp_cell c (N, .inr (.inr (.inr (.inr f')))) := by
    rw [vp_cell_q, vp_cell_q]
    unfold arrV
    congr 2
    funext j
    show va_rf (f j.val) = va_rf (f' j.val)
    rw [hf j.val j.isLt]
  have hil : i < ws.length := (List.getElem?_eq_some_iff.mp h).1
  refine ⟨fun k q hq => ?_, fun k1 k2 p q h1 h2 h3 => ?_, fun k q hq => ?_⟩
  · by_cases hk : i = k
    · subst hk
      rw [List.getElem?_set_self hil] at hq
      cases hq
      have h1 : H[a]? = some (vp_cell c (N, .inr (.inr (.inr (.inr f))))) := hP i _ h
      rw [e0] at h1
      exact h1
    · rw [List.getElem?_set_ne hk] at hq
      exact hP k q hq
  · have key : ∀ (k : Nat) (q : Nat × va_E), (ws.set i (a, .inl (c, N, .inr (.inr (.inr (.inr f'))))))[k]? = some q → ∃ q', ws[k]? = some q' ∧ q'.1 = q.1 := fun k q hq => by
      by_cases hk : i = k
      · subst hk
        rw [List.getElem?_set_self hil] at hq
        cases hq
        exact ⟨_, h, rfl⟩
      · rw [List.getElem?_set_ne hk] at hq
        exact ⟨q, hq, rfl⟩
    obtain ⟨p', a1, a2⟩ := key k1 p h1
    obtain ⟨q', b1, b2⟩ := key k2 q h2
    exact hD.1 k1 k2 p' q' a1 b1 (a2.trans (h3.trans b2.symm))
  · by_cases hk : i = k
    · subst hk
      rw [List.getElem?_set_self hil] at hq
      cases hq
      exact (hD.2 i (a, .inl (c, N, .inr (.inr (.inr (.inr f))))) h)
    · rw [List.getElem?_set_ne hk] at hq
      exact hD.2 k q hq
theorem gx_lt8 {n : Nat} (h : n < 8) : n = 0 ∨ n = 1 ∨ n = 2 ∨ n = 3 ∨ n = 4 ∨ n = 5 ∨ n = 6 ∨ n = 7 := by omega
