/-! the law's helpers: methods with clauses that catch -/
def gx_MiW (l : Launch) (z : State) (D : va_G) (g : Nat → ClassId) (y : MethodName) (cc : ByteArray) (nL : Nat) (hh : List (Nat × Nat × Nat × Nat)) (fr lo : Nat) (av : List Value) (w w' : va_W) (r : Int32) : Prop :=
  ∀ sz, Met l y (Cond.codeWith y cc nL (some .int) hh :: gtbl) ({ frames := fr, cells := 1, slots := 6, locals := lo } : Room) (gx_Pre z D g av w sz) (gx_Qi D w w' r sz) 1 6 (va_A w sz)
theorem gx_goW {l : Launch} {z : State} {D : va_G} {g : Nat → ClassId} {y : MethodName} {cc : ByteArray} {nL fr lo : Nat} {hh : List (Nat × Nat × Nat × Nat)} {av : List Value} {w w' : va_W} {r : Int32} (hy : plainName y.cls = true) (hlen : Nat.ble (lg_sl av).length nL = true)
    (body : ∀ (p : Program) (e : Env) (s : State) (m : MethodId) (below : List Frame) (meth : Method) (c : Code) (ls : Array Slot), CallFix p m c cc nL s av.toArray gtbl y.cls → c.exceptionTable.toList.map gx_quad = hh → meth.sig.returnType = some .int → meth.locks = false → gx_E z D g s (va_A w s.heap.size) → va_P D vwC w s.heap → va_D (va_A w s.heap.size) w → lv_has ls nL (lv_args 0 av) →
      W p l e ({ frames := fr, cells := 1, slots := 6, locals := lo } : Room) s m av.toArray below meth c s.heap [] 0 0 (MQ below (gx_Qi D w w' r s.heap.size) av.toArray s 1 6 (va_A w s.heap.size)) (F0 m 0 ls [])) :
    gx_MiW l z D g y cc nL hh fr lo av w w' r := by
  intro sz
  refine va_MetW (cc := cc) (maxL := nL) (ret := some .int) (hh := hh) hy rfl ?_
  intro p e s m args below meth c s₁ B hml hv
  obtain ⟨rfl, hsz, hP, hK, hZ, hD0⟩ := hv
  subst hsz
  have hts := atoms_spec (ws := Cond.codeWith y cc nL (some .int) hh :: gtbl) B.pre
  have htab : c.exceptionTable.toList.map gx_quad = hh := by
    obtain ⟨m9, meth', c', hn9, hm', hc', -, -, ht, -⟩ := Cond.codeWith_spec (hts _ List.mem_cons_self)
    cases B.named.symm.trans hn9
    cases B.method.symm.trans hm'
    cases (Stand.of_body B).code.symm.trans hc'
    exact ht
  rw [lg_entry_eq]
  refine body p e s m below meth c _ ⟨B.exec, B.bytes, hml, findClass_of_methodNamed B.named, fun v h => hts v (List.mem_cons_of_mem _ h)⟩ htab B.returns B.notSynchronized ⟨hK, hZ, fun q h => ?_, fun q h => Or.inr h⟩ hP hD0.self (lv_entry av (Nat.le_of_ble_eq_true hlen))
  rcases h with ⟨k, e, h⟩ | h
  · exact hD0.2 k (q, e) h
  · exact Nat.le_trans hZ.2.1 h
def gx_calW (y : MethodName) (cc : ByteArray) (nL : Nat) (hh : List (Nat × Nat × Nat × Nat)) (n : Nat) : Prop := Cond.codeWith y cc nL (some .int) hh ∈ gtbl ∧ Cond.initialized y.cls ∈ gtbl ∧ (y.cls ≠ "java/lang/invoke/MethodHandle" ∧ y.cls ≠ "java/lang/invoke/VarHandle" ∧ (parseMethodDescriptor y.desc).map (fun d => d.parameters.length) = some n)
section GSW
variable {p : Program} {l : Launch} {e : Env} {R : Room} {s : State} {m : MethodId} {args : Array Value} {below : List Frame} {meth : Method} {c : Code} {H : Heap} {locs : List Loc} {cells slots : Nat} {Q : State → Prop}
variable {cc b2 : ByteArray} {nL n2 index : Nat} {own : String} {z : State} {D : va_G} {g : Nat → ClassId} {A : Nat → Prop} {ws wc wc' ws2 w w' : va_W} {pc fr lo : Nat} {ls : Array Slot} {rest st0 : List Value} {y : MethodName} {As : List Value} {hh : List (Nat × Nat × Nat × Nat)}
theorem gx_riW {r : Int32} (S : CallFix p m c cc nL s args gtbl own) (hr : meth.sig.returnType = some .int) (hlk : meth.locks = false) (hS : va_S (va_A w s.heap.size) s.heap H locs) (hP : va_P D vwC w' H) (hD : va_D (va_A w s.heap.size) w') (hdg : decode cc pc = .ok (.ireturn, 1)) :
    W p l e R s m args below meth c H locs 1 6 (MQ below (gx_Qi D w w' r s.heap.size) args s 1 6 (va_A w s.heap.size)) (F0 m pc ls [.int r]) :=
  W.iret S.1 S.2.1 hr (fun t ht _ => ⟨⟨r, (), rfl, rfl, by rw [ht]; exact hP, hD⟩, hS.F ht⟩) hS.2.2 hdg
theorem gx_SiW {r : Int32} (S : CallFix p m c cc nL s args gtbl own) (E : gx_E z D g s A) (hS : va_S A s.heap H locs) (hP : va_P D vwC ws H) (hD : va_D A ws) (hM : gx_MiW l z D g y b2 n2 hh fr lo As wc wc' r)
    (hcal : gx_calW y b2 n2 hh As.length) (hst : Cond.static y ∈ gtbl) (hlink : Cond.methodLink own index y ∈ gtbl) (hrm : (Nat.ble (fr + 1) R.frames && Nat.ble (8 + (n2 + 11) + lo) R.locals) = true) (isC : List Nat) (hC : isC.map (fun i => ws[i]?) = wc.map some) (hn : va_nd isC = true) (he : wc'.map (fun q => q.1) = wc.map (fun q => q.1))
    (hstack : st0 = As.reverse ++ rest) (hls : ls.size = nL) (hcat : Nat.ble ((rest.map fun v => v.category).sum) 8 = true) (hdg : decode cc pc = .ok (.invokestatic index, 3)) (hroom : cells + 1 ≤ R.cells ∧ slots + 6 ≤ R.slots)
    (hw : gx_set ws isC wc' = ws2) (kk : ∀ (H1 : Heap) (locs1 : List Loc), va_S A s.heap H1 locs1 → va_P D vwC ws2 H1 → va_D A ws2 → W p l e R s m args below meth c H1 locs1 (cells + 1) (slots + 6) Q (F0 m (pc + 3) ls (.int r :: rest))) : W p l e R s m args below meth c H locs cells slots Q (F0 m pc ls st0) := by
  rw [Bool.and_eq_true] at hrm
  have hFc := va_free (wc := wc) hD hS E.2.2.2 isC hC
  have hin := gx_goodC hcal.1
  have hrun : va_Run p l e R s m args below meth c H locs cells slots 1 6 (F0 m pc ls st0) rest (gx_Qi D wc wc' r H.size As.toArray) (va_A wc H.size) := by
    have hK : Back l R p e below s args y 3 8 (PreOf R 1 6 (gx_Pre z D g As wc H.size)) (PostOf (gx_Qi D wc wc' r H.size) 1 6 (va_A wc H.size)) := va_backW (hh := hh) (bytes := b2) (maxL := n2) (ret := some .int) (hM H.size) gx_blind rfl rfl (Nat.le_of_ble_eq_true hrm.1) (Nat.le_of_ble_eq_true hrm.2) (pay_in S.2.2.2.2 hin) List.mem_cons_self (fun a' U hW => pay_in S.2.2.2.2 gx_good _ hcal.2.1 a' U hW)
    intro T hT X
    obtain ⟨mk, methM, cM, hnamed, hmethM, -, -, -, -, -, -, hsigM⟩ := Cond.codeWith_spec (S.2.2.2.2 _ hcal.1)
    have hstatic : methM.isStatic = true := Cond.static_spec hnamed hmethM (S.2.2.2.2 _ hst)
    obtain ⟨kP, hkP, -⟩ := className_of_methodNamed hnamed
    have hinitP : kP.init = .initialized := Cond.initialized_spec (findClass_of_methodNamed hnamed) hkP (S.2.2.2.2 _ hcal.2.1)
    have hlen : As.length = methM.sig.parameters.length := by
      have h2 := hcal.2.2.2.2
      rw [hsigM] at h2
      exact (Option.some.inj h2).symm
    obtain ⟨vm₁, X₁, hstep₁⟩ := X.invokestatic S.1 S.2.2.2.1 (S.2.2.2.2 _ hlink) hnamed hmethM hstatic hkP hinitP ⟨hcal.2.2.1, hcal.2.2.2.1⟩ (g := F0 m pc ls st0) rfl (argsL := As) (rest := rest) hlen hstack (by rw [S.2.1]; exact hdg)
    obtain ⟨v, ⟨U', l2, c2, s2⟩, X', ⟨g', mk', t, L, e1, e2, hq, h1, hL, h2, h3⟩, st⟩ := hK m meth c ⟨T.setVm vm₁, locs, cells, slots⟩ (F0 m pc ls rest) (.invokestatic index) mk As.toArray X₁ rfl (hls.trans S.2.2.1.symm) (by rw [S.2.1]; exact hdg) (gx_room hcat) (X₁.named hnamed) ⟨hroom.1, hroom.2, gx_pre (av := As) E hS hP hD isC hC hn (T.setVm vm₁) hT X₁.warmed⟩
    dsimp only [Pt.U, Pt.locs, Pt.cells, Pt.slots] at X' e1 e2 h1 h2 h3 st
    subst h1; subst h2; subst h3
    exact ⟨v, (T.setVm vm₁).calling g' mk' As.toArray, t, U', L, hT, X', hL, e1, e2, hq, fun target h => hstep₁ _ fun acts => by rw [doInvoke_state]; exact st.trans h⟩
  refine va_calli hrun hS (fun q _ h => hFc q h) hFc (fun rr u t H1 locs1 ht hvm hpost hB hz hk hS1 => ?_)
  subst hpost
  obtain ⟨hP2, hD2⟩ := gx_back hP hD isC hC hn he hk (by rw [← ht]; exact hB.1)
  rw [hw] at hP2 hD2
  exact kk H1 locs1 hS1 hP2 hD2
end GSW
/-- the callee's world stands behind one cell -/
theorem gx_hC {x : Nat × va_E} {F : va_W} {n : Nat} (h : F.length = n) : (gx_fr 1 n).map (fun i => (x :: F)[i]?) = F.map some := by
  subst h
  exact gx_map_fr F [x]
theorem gx_hw {x : Nat × va_E} {F F' : va_W} {n : Nat} (h : F.length = n) (h' : F'.length = n) : gx_set (x :: F) (gx_fr 1 n) F' = x :: F' := by
  have := gx_set_fr F F' [x] (by rw [h, h'])
  rw [h'] at this
  exact this
