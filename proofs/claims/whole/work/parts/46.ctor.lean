/-! rows for constructors: what is made stands at the end of the world -/
def gx_MxV (l : Launch) (z : State) (D : va_G) (g : Nat → ClassId) (y : MethodName) (cc : ByteArray) (nL fr lo k n : Nat) (av : List Value) (w : va_W) (w' : (Nat → Nat) → va_W) : Prop :=
  ∀ sz, Met l y (Cond.code y cc nL none :: gtbl) ({ frames := fr, cells := k, slots := n, locals := lo } : Room) (gx_Pre z D g av w sz) (va_Qv (fun _ : Nat → Nat => True) (fun q t => va_P D vwC (w' q) t.heap ∧ va_D (va_A w sz) (w' q)) (va_A w sz)) k n (va_A w sz)
section GCT
variable {p : Program} {l : Launch} {e : Env} {R : Room} {s : State} {m : MethodId} {args : Array Value} {below : List Frame} {meth : Method} {c : Code} {H : Heap} {locs : List Loc} {cells slots : Nat} {Q : State → Prop}
variable {cc b2 : ByteArray} {nL n2 index fr lo : Nat} {own C host : String} {z : State} {D : va_G} {g : Nat → ClassId} {A : Nat → Prop} {ws : va_W} {wc' : (Nat → Nat) → va_W} {pc : Nat} {ls : Array Slot} {rest st0 : List Value} {y : MethodName} {b : Addr} {As : List Value} {k n : Nat}
/-- a constructor's own end -/
theorem gx_rvx {w : va_W} {w' : (Nat → Nat) → va_W} {q : Nat → Nat} (S : CallFix p m c cc nL s args gtbl own) (hr : meth.sig.returnType = none) (hlk : meth.locks = false) (hS : va_S (va_A w s.heap.size) s.heap H locs) (hP : va_P D vwC (w' q) H) (hD : va_D (va_A w s.heap.size) (w' q)) (hdg : decode cc pc = .ok (.return_, 1)) :
    W p l e R s m args below meth c H locs k n (MQ below (va_Qv (fun _ : Nat → Nat => True) (fun q t => va_P D vwC (w' q) t.heap ∧ va_D (va_A w s.heap.size) (w' q)) (va_A w s.heap.size)) args s k n (va_A w s.heap.size)) (F0 m pc ls []) :=
  W.vret S.1 S.2.1 hr (fun t ht _ => ⟨⟨q, rfl, trivial, by rw [ht]; exact hP, hD⟩, hS.F ht⟩) hS.2.2 hdg
theorem gx_oi (S : CallFix p m c cc nL s args gtbl own) (hlink : Cond.methodLink own index Lib.objectInit ∈ gtbl) (hinst : Cond.instanceMethod Lib.objectInit ∈ gtbl) (hcode : Cond.code Lib.objectInit ⟨#[0xb1]⟩ 1 none ∈ gtbl) (hls : ls.size = nL) (hcat : Nat.ble ((rest.map fun v => v.category).sum) 8 = true)
    (hdg : decode cc pc = .ok (.invokespecial index, 3)) (hR : (Nat.ble 1 R.frames && Nat.ble 20 R.locals) = true)
    (kk : W p l e R s m args below meth c H locs cells slots Q (F0 m (pc + 3) ls rest)) : W p l e R s m args below meth c H locs cells slots Q (F0 m pc ls (.ref b :: rest)) := by
  rw [Bool.and_eq_true] at hR
  have h1 := Nat.le_of_ble_eq_true hR.1
  have h2 := Nat.le_of_ble_eq_true hR.2
  have h3 := gx_room (m := m) (pc := pc) (ls := ls) (st0 := .ref b :: rest) (rest := rest) hcat
  exact W.objInit S.1 S.2.1 S.2.2.2.1 (S.2.2.2.2 _ hlink) (S.2.2.2.2 _ hinst) (S.2.2.2.2 _ hcode) rfl (hls.trans S.2.2.1.symm) rfl hdg h1 (by omega) kk
theorem gx_nw {T : u_T} {N ci : Nat} {ty : Nat → FieldType} {fs : List Value} (S : CallFix p m c cc nL s args gtbl own) (E : gx_E z D g s A) (hS : va_S A s.heap H locs) (hP : va_P D vwC ws H) (hD : va_D A ws) (hin : ∀ w ∈ u_ws C T N, w ∈ gtbl) (hty : ∀ k, k < N → parseFieldDescriptor (T k).2.2.1 = some (ty k))
    (hcl : Cond.classLink own index C ∈ gtbl) (hinst : Cond.instantiable C N ∈ gtbl) (hini : Cond.initialized C ∈ gtbl) (hc : vwC[ci]? = some (C, T, N)) (hfs : ∀ j, j < N → defaultValue (ty j) = vp_V fs j) (hroom : (Nat.ble (cells + 1) R.cells && Nat.ble (slots + N) R.slots) = true) (hdg : decode cc pc = .ok (.new index, 3))
    (kk : ∀ (q : Nat) (H : Heap), va_S A s.heap H locs → va_P D vwC (ws ++ [(q, .inr (ci, fs))]) H → va_D A (ws ++ [(q, .inr (ci, fs))]) → W p l e R s m args below meth c H locs (cells + 1) (slots + N) Q (F0 m (pc + 3) ls (.ref q :: rest))) : W p l e R s m args below meth c H locs cells slots Q (F0 m pc ls rest) := by
  rw [Bool.and_eq_true] at hroom
  exact va_new S.1 S.2.1 S.2.2.2.2 hin ty hty S.2.2.2.1 (S.2.2.2.2 _ hcl) (S.2.2.2.2 _ hinst) (S.2.2.2.2 _ hini) E.1.1 hP hD hS E.2.2.2 hc hfs (Nat.le_of_ble_eq_true hroom.1) (Nat.le_of_ble_eq_true hroom.2) hdg (fun q H h1 h2 h3 => kk q H h3 h1 h2)
theorem gx_nwa (j : Nat) {atype : ArrayType} {ty : FieldType} {x : Int32} {N : Nat} {a0 : vp_A} (S : CallFix p m c cc nL s args gtbl own) (E : gx_E z D g s A) (hS : va_S A s.heap H locs) (hP : va_P D vwC ws H) (hD : va_D A ws) (harr : Cond.arrayClass (newarray.typeOf atype) ∈ gtbl) (hty : newarray.typeOf atype = ty) (hg : (tyG g)[j]? = some (g j, ty)) (hlen : (tyG g).length = 7) (href : ∀ cA : ClassId, va_RA s cA ty → s.vm.findClass ("[" ++ ty.toString) = some cA)
    (ha : ∀ cA : ClassId, vp_cell cA a0 = arrV cA N (fun _ => defaultValue ty)) (hn : ¬ x < 0) (hN : x.toNatClampNeg = N) (hb : Nat.ble (N * componentBytes ty) 536870912 = true) (hroom : (Nat.ble (cells + 1) R.cells && Nat.ble (slots + N) R.slots) = true) (hdg : decode cc pc = .ok (.newarray atype, 2))
    (kk : ∀ (q : Nat) (H : Heap), va_S A s.heap H locs → va_P D vwC (ws ++ [(q, .inl (g j, a0))]) H → va_D A (ws ++ [(q, .inl (g j, a0))]) → W p l e R s m args below meth c H locs (cells + 1) (slots + N) Q (F0 m (pc + 2) ls (.ref q :: rest))) : W p l e R s m args below meth c H locs cells slots Q (F0 m pc ls (.int x :: rest)) := by
  rw [Bool.and_eq_true] at hroom
  refine va_newa (tys := tyG g) S.1 S.2.1 (S.2.2.2.2 _ harr) hty E.1.1 hP hD hS E.2.2.2 ha hn hN (Nat.le_of_ble_eq_true hb) (Nat.le_of_ble_eq_true hroom.1) (Nat.le_of_ble_eq_true hroom.2) hdg (fun q cA H hK7 h1 h2 h3 => ?_)
  have e1 := href cA ((hK7.2 7 (cA, ty) (by rw [List.getElem?_append_right (by omega), hlen]; rfl)).2)
  have e2 := href (g j) ((E.1.1.2 j (g j, ty) hg).2)
  obtain rfl : cA = g j := Option.some.inj (e1.symm.trans e2)
  exact kk q H h3 h1 h2
/-- a constructor's call on the object that was made last -/
theorem gx_Ci {o0 : va_E} (S : CallFix p m c cc nL s args gtbl own) (E : gx_E z D g s A) (hS : va_S A s.heap H locs) (hP : va_P D vwC (ws ++ [(b, o0)]) H) (hD : va_D A (ws ++ [(b, o0)])) (hM : gx_MxV l z D g y b2 n2 fr lo k n (.ref b :: As) [(b, o0)] wc')
    (hcal : gx_cal y b2 n2 none As.length) (hy : y.name = "<init>") (hins : Cond.instanceMethod y ∈ gtbl) (hlink : Cond.methodLink own index y ∈ gtbl) (hrm : (Nat.ble (fr + 1) R.frames && (Nat.ble (8 + (n2 + 11) + lo) R.locals && (Nat.ble (cells + k) R.cells && Nat.ble (slots + n) R.slots))) = true)
    (hstack : st0 = As.reverse ++ .ref b :: rest) (hls : ls.size = nL) (hcat : Nat.ble ((rest.map fun v => v.category).sum) 8 = true) (hdg : decode cc pc = .ok (.invokespecial index, 3))
    (kk : ∀ (q : Nat → Nat) (H1 : Heap) (locs1 : List Loc), va_S A s.heap H1 locs1 → va_P D vwC (ws ++ wc' q) H1 → va_D A (ws ++ wc' q) → W p l e R s m args below meth c H1 locs1 (cells + k) (slots + n) Q (F0 m (pc + 3) ls rest)) :
    W p l e R s m args below meth c H locs cells slots Q (F0 m pc ls st0) := by
  simp only [Bool.and_eq_true] at hrm
  have hC : [ws.length].map (fun i => (ws ++ [(b, o0)])[i]?) = [(b, o0)].map some := by simp
  have hR : (gx_fr 0 ws.length).map (fun i => (ws ++ [(b, o0)])[i]?) = ws.map some := by
    have h1 := gx_map_fr ws []
    simp only [List.length_nil, List.nil_append] at h1
    rw [← h1]
    refine List.map_congr_left (fun i hi => ?_)
    have hlt : ∀ (a n : Nat), i ∈ gx_fr a n → i < a + n := by
      intro a n
      induction n generalizing a with
      | zero => intro h; cases h
      | succ n ih =>
        intro h
        rcases List.mem_cons.mp h with rfl | h
        · omega
        · have := ih (a + 1) h; omega
    have := hlt 0 _ hi
    exact List.getElem?_append_left (by omega)
  have hlt2 : ∀ (a n : Nat), ∀ i ∈ gx_fr a n, a ≤ i ∧ i < a + n := by
    intro a n
    induction n generalizing a with
    | zero => intro i h; cases h
    | succ n ih =>
      intro i h
      rcases List.mem_cons.mp h with rfl | h
      · omega
      · have := ih (a + 1) i h; omega
  have hnd : ∀ (a n : Nat), va_nd (gx_fr a n) = true := by
    intro a n
    induction n generalizing a with
    | zero => rfl
    | succ n ih =>
      show va_nd (a :: gx_fr (a + 1) n) = true
      simp only [va_nd, Bool.and_eq_true, decide_eq_true_eq]
      exact ⟨fun h => by have := hlt2 _ _ _ h; omega, ih (a + 1)⟩
  have hFc := va_free (wc := [(b, o0)]) hD hS E.2.2.2 [ws.length] hC
  refine va_callv (va_runI (As := As) (rest := rest) (b := b) S (hM H.size) ⟨callB_of As.length S.2.2.2.2 (gx_goodC hcal.1) rfl rfl rfl (S.2.2.2.2 _ hcal.2.1) (S.2.2.2.2 _ hlink) hcal.2.2 ⟨Nat.le_of_ble_eq_true hrm.1, Nat.le_of_ble_eq_true hrm.2.1⟩, hy, S.2.2.2.2 _ hins⟩ ⟨gx_blind, gx_pre (av := .ref b :: As) E hS hP hD [ws.length] hC rfl⟩ rfl rfl hls hstack (gx_room hcat) hdg ⟨Nat.le_of_ble_eq_true hrm.2.2.1, Nat.le_of_ble_eq_true hrm.2.2.2⟩) hS (fun q _ h => hFc q h) hFc (fun u t H1 locs1 ht hvm hpost hB hz hk hS1 => ?_)
  obtain ⟨hP1, hD1⟩ := hB
  rw [ht] at hP1
  obtain ⟨hP2, hD2⟩ := va_join (wr := ws) (w1 := wc' u) hP hD [ws.length] (gx_fr 0 ws.length) hC hR (hnd 0 _) (fun i hi hc => by
    have h1 := hlt2 _ _ _ hi
    have h2 := List.mem_singleton.mp hc
    omega) hk hFc hP1 hD1
  exact kk u H1 locs1 hS1 hP2 hD2
theorem gx_CiN {o0 : va_E} (S : CallFix p m c cc nL s args gtbl own) (E : gx_E z D g s A) (hS : va_S A s.heap H locs) (hP : va_P D vwC (ws ++ [(b, o0)]) H) (hD : va_D A (ws ++ [(b, o0)])) (hM : gx_MxV l z D g y b2 n2 fr lo k n (.ref b :: As) [(b, o0)] wc')
    (hcal : gx_cal y b2 n2 none As.length) (hy : y.name = "<init>") (hins : Cond.instanceMethod y ∈ gtbl) (hlink : (own, index, y, host) ∈ gx_nests) (hrm : (Nat.ble (fr + 1) R.frames && (Nat.ble (8 + (n2 + 11) + lo) R.locals && (Nat.ble (cells + k) R.cells && Nat.ble (slots + n) R.slots))) = true)
    (hstack : st0 = As.reverse ++ .ref b :: rest) (hls : ls.size = nL) (hcat : Nat.ble ((rest.map fun v => v.category).sum) 8 = true) (hdg : decode cc pc = .ok (.invokespecial index, 3))
    (kk : ∀ (q : Nat → Nat) (H1 : Heap) (locs1 : List Loc), va_S A s.heap H1 locs1 → va_P D vwC (ws ++ wc' q) H1 → va_D A (ws ++ wc' q) → W p l e R s m args below meth c H1 locs1 (cells + k) (slots + n) Q (F0 m (pc + 3) ls rest)) :
    W p l e R s m args below meth c H locs cells slots Q (F0 m pc ls st0) := by
  simp only [Bool.and_eq_true] at hrm
  have hC : [ws.length].map (fun i => (ws ++ [(b, o0)])[i]?) = [(b, o0)].map some := by simp
  have hlt2 : ∀ (a n : Nat), ∀ i ∈ gx_fr a n, a ≤ i ∧ i < a + n := by
    intro a n
    induction n generalizing a with
    | zero => intro i h; cases h
    | succ n ih =>
      intro i h
      rcases List.mem_cons.mp h with rfl | h
      · omega
      · have := ih (a + 1) i h; omega
  have hR : (gx_fr 0 ws.length).map (fun i => (ws ++ [(b, o0)])[i]?) = ws.map some := by
    have h1 := gx_map_fr ws []
    simp only [List.length_nil, List.nil_append] at h1
    rw [← h1]
    refine List.map_congr_left (fun i hi => ?_)
    have := hlt2 0 _ i hi
    exact List.getElem?_append_left (by omega)
  have hnd : ∀ (a n : Nat), va_nd (gx_fr a n) = true := by
    intro a n
    induction n generalizing a with
    | zero => rfl
    | succ n ih =>
      show va_nd (a :: gx_fr (a + 1) n) = true
      simp only [va_nd, Bool.and_eq_true, decide_eq_true_eq]
      exact ⟨fun h => by have := hlt2 _ _ _ h; omega, ih (a + 1)⟩
  have hFc := va_free (wc := [(b, o0)]) hD hS E.2.2.2 [ws.length] hC
  refine va_callv (va_runIN (As := As) (rest := rest) (b := b) S (hM H.size) ⟨va_cnB As.length S.2.2.2.2 (gx_goodC hcal.1) rfl rfl rfl (E.1.2 _ hlink) (S.2.2.2.2 _ hcal.2.1) hcal.2.2 ⟨Nat.le_of_ble_eq_true hrm.1, Nat.le_of_ble_eq_true hrm.2.1⟩, hy, S.2.2.2.2 _ hins⟩ ⟨gx_blind, gx_pre (av := .ref b :: As) E hS hP hD [ws.length] hC rfl⟩ rfl rfl hls hstack (gx_room hcat) hdg ⟨Nat.le_of_ble_eq_true hrm.2.2.1, Nat.le_of_ble_eq_true hrm.2.2.2⟩) hS (fun q _ h => hFc q h) hFc (fun u t H1 locs1 ht hvm hpost hB hz hk hS1 => ?_)
  obtain ⟨hP1, hD1⟩ := hB
  rw [ht] at hP1
  obtain ⟨hP2, hD2⟩ := va_join (wr := ws) (w1 := wc' u) hP hD [ws.length] (gx_fr 0 ws.length) hC hR (hnd 0 _) (fun i hi hc => by
    have h1 := hlt2 _ _ _ hi
    have h2 := List.mem_singleton.mp hc
    omega) hk hFc hP1 hD1
  exact kk u H1 locs1 hS1 hP2 hD2
end GCT
