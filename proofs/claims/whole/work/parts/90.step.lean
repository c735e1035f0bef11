/-! calls of the law: by the cells of the one side, the cells of the other beside them -/
theorem gw_p1 {W0 V wc M : va_W} (h : W0.Perm (V ++ wc)) : (W0 ++ M).Perm ((M ++ V) ++ wc) := by
  rw [List.append_assoc]
  exact (h.append_right M).trans List.perm_append_comm
theorem gw_p2 {W1 V wc M : va_W} (h : (V ++ wc).Perm W1) : ((M ++ V) ++ wc).Perm (W1 ++ M) := by
  rw [List.append_assoc]
  exact List.perm_append_comm.trans (h.append_right M)
theorem gw_p3 {W0 V wc M : va_W} (h : W0.Perm (V ++ wc)) : (M ++ W0).Perm ((M ++ V) ++ wc) := by
  rw [List.append_assoc]
  exact h.append_left M
theorem gw_p4 {W1 V wc M : va_W} (h : (V ++ wc).Perm W1) : ((M ++ V) ++ wc).Perm (M ++ W1) := by
  rw [List.append_assoc]
  exact h.append_left M
def LwH (l : Launch) (z : State) (D : va_G) (g : Nat → ClassId) (y : MethodName) (b2 : ByteArray) (n2 : Nat) (hh : List (Nat × Nat × Nat × Nat)) (fr lo : Nat) (As : List Value) (W0 W1 : va_W) (r : Int32) : Prop :=
  ∃ V wc wc' : va_W, W0.Perm (V ++ wc) ∧ (V ++ wc').Perm W1 ∧ wc'.map (fun q => q.1) = wc.map (fun q => q.1) ∧ gx_MiW l z D g y b2 n2 hh fr lo As wc wc' r
def LwX {X : Type} (l : Launch) (z : State) (D : va_G) (g : Nat → ClassId) (y : MethodName) (b2 : ByteArray) (n2 fr lo k b : Nat) (As : List Value) (W0 : va_W) (W1 : X → va_W) (r : Int32) : Prop :=
  ∃ (V wc : va_W) (w' : X → va_W), W0.Perm (V ++ wc) ∧ (∀ q, (V ++ w' q).Perm (W1 q)) ∧ gx_MxI l z D g y b2 n2 fr lo k (.ref b :: As) wc w' r
def LwL (l : Launch) (z : State) (D : va_G) (g : Nat → ClassId) (y : MethodName) (b2 : ByteArray) (n2 fr lo b : Nat) (As : List Value) (W0 W1 : va_W) (r : Int64) : Prop :=
  ∃ V wc wc' : va_W, W0.Perm (V ++ wc) ∧ (V ++ wc').Perm W1 ∧ wc'.map (fun q => q.1) = wc.map (fun q => q.1) ∧ gx_Ml l z D g y b2 n2 .long ({ frames := fr, cells := 0, slots := 0, locals := lo } : Room) (.ref b :: As) wc wc' r
theorem LwH.of {l : Launch} {z : State} {D : va_G} {g : Nat → ClassId} {y : MethodName} {b2 : ByteArray} {n2 fr lo : Nat} {hh : List (Nat × Nat × Nat × Nat)} {As : List Value} {W0 W1 V wc wc' : va_W} {r : Int32} (h1 : W0.Perm (V ++ wc)) (h2 : (V ++ wc').Perm W1) (h3 : wc'.map (fun q => q.1) = wc.map (fun q => q.1)) (h : gx_MiW l z D g y b2 n2 hh fr lo As wc wc' r) : LwH l z D g y b2 n2 hh fr lo As W0 W1 r := ⟨V, wc, wc', h1, h2, h3, h⟩
theorem LwX.ofI {l : Launch} {z : State} {D : va_G} {g : Nat → ClassId} {y : MethodName} {b2 : ByteArray} {n2 fr lo b : Nat} {As : List Value} {W0 W1 V wc wc' : va_W} {r : Int32} (h1 : W0.Perm (V ++ wc)) (h2 : (V ++ wc').Perm W1) (h : gx_Mi l z D g y b2 n2 .int ({ frames := fr, cells := 0, slots := 0, locals := lo } : Room) (.ref b :: As) wc wc' r) : LwX (X := Unit) l z D g y b2 n2 fr lo 0 b As W0 (fun _ => W1) r := ⟨V, wc, fun _ => wc', h1, fun _ => h2, fun sz => h sz⟩
theorem LwX.ofB {l : Launch} {z : State} {D : va_G} {g : Nat → ClassId} {y : MethodName} {b2 : ByteArray} {n2 fr lo k b : Nat} {As : List Value} {W0 V wc : va_W} {W1 w' : Nat → va_W} {r : Int32} (h1 : W0.Perm (V ++ wc)) (h : gx_MbI l z D g y b2 n2 fr lo k (.ref b :: As) wc w' r) (h2 : ∀ q, (V ++ w' q).Perm (W1 q)) : LwX l z D g y b2 n2 fr lo k b As W0 W1 r := ⟨V, wc, w', h1, h2, fun sz => h sz⟩
theorem LwX.ofX {X : Type} {l : Launch} {z : State} {D : va_G} {g : Nat → ClassId} {y : MethodName} {b2 : ByteArray} {n2 fr lo k b : Nat} {As : List Value} {W0 V wc : va_W} {W1 w' : X → va_W} {r : Int32} (h1 : W0.Perm (V ++ wc)) (h : gx_MxI l z D g y b2 n2 fr lo k (.ref b :: As) wc w' r) (h2 : ∀ q, (V ++ w' q).Perm (W1 q)) : LwX l z D g y b2 n2 fr lo k b As W0 W1 r := ⟨V, wc, w', h1, h2, h⟩
theorem LwL.of {l : Launch} {z : State} {D : va_G} {g : Nat → ClassId} {y : MethodName} {b2 : ByteArray} {n2 fr lo b : Nat} {As : List Value} {W0 W1 V wc wc' : va_W} {r : Int64} (h1 : W0.Perm (V ++ wc)) (h2 : (V ++ wc').Perm W1) (h3 : wc'.map (fun q => q.1) = wc.map (fun q => q.1)) (h : gx_Ml l z D g y b2 n2 .long ({ frames := fr, cells := 0, slots := 0, locals := lo } : Room) (.ref b :: As) wc wc' r) : LwL l z D g y b2 n2 fr lo b As W0 W1 r := ⟨V, wc, wc', h1, h2, h3, h⟩
theorem gw_rcm {z : State} {D : va_G} {g : Nat → ClassId} {s : State} {A : Nat → Prop} {H : Heap} {ws : va_W} {b : Nat} (E : gx_E z D g s A) (hP : va_P D vwC ws H) {ci : Nat} {fs : List Value} (hm : ((b, .inr (ci, fs)) : Nat × va_E) ∈ ws) {C : String} {T : u_T} {N : Nat} (hc : vwC[ci]? = some (C, T, N)) : ∃ cellB : Cell, H[b]? = some cellB ∧ cellB.vm.isStatics = false ∧ s.vm.findClass C = some cellB.cls := by
  obtain ⟨j, hj⟩ := List.mem_iff_getElem?.mp hm
  exact gx_rc E hP j hj hc
theorem gw_om (g : Nat → ClassId) (om : Nat) (u : Nat → Nat) (qb : Nat) (w : MV) (C : va_W) : ∃ fs : List Value, ((om, .inr (11, fs)) : Nat × va_E) ∈ C ++ wMD g om u qb w := by
  unfold wMD mcore
  exact ⟨_, List.mem_append_right _ (List.mem_append_left _ List.mem_cons_self)⟩
theorem gw_o (g : Nat → ClassId) (o : Nat) (q : Nat → Nat) (fq : Nat → Nat → Nat) (out : Nat) (oc : Nat → Int64) (v : NV) (M : va_W) : ∃ fs : List Value, ((o, .inr (9, fs)) : Nat × va_E) ∈ wCL g o q fq out oc v ++ M := by
  unfold wCL core
  exact ⟨_, List.mem_append_left _ (List.mem_append_left _ (List.mem_cons_of_mem _ List.mem_cons_self))⟩
theorem gw_rm {z : State} {D : va_G} {g : Nat → ClassId} {s : State} {A : Nat → Prop} {H : Heap} {om : Nat} {u : Nat → Nat} {qb : Nat} {w : MV} {C : va_W} (E : gx_E z D g s A) (hP : va_P D vwC (C ++ wMD g om u qb w) H) : ∃ cellB : Cell, H[om]? = some cellB ∧ cellB.vm.isStatics = false ∧ s.vm.findClass "NumberTextModel" = some cellB.cls := by
  obtain ⟨fs, h⟩ := gw_om g om u qb w C
  exact gw_rcm E hP h rfl
theorem gw_ro {z : State} {D : va_G} {g : Nat → ClassId} {s : State} {A : Nat → Prop} {H : Heap} {o : Nat} {q : Nat → Nat} {fq : Nat → Nat → Nat} {out : Nat} {oc : Nat → Int64} {v : NV} {M : va_W} (E : gx_E z D g s A) (hP : va_P D vwC (wCL g o q fq out oc v ++ M) H) : ∃ cellB : Cell, H[o]? = some cellB ∧ cellB.vm.isStatics = false ∧ s.vm.findClass "NumberText" = some cellB.cls := by
  obtain ⟨fs, h⟩ := gw_o g o q fq out oc v M
  exact gw_rcm E hP h rfl
section GWL
variable {p : Program} {l : Launch} {e : Env} {R : Room} {s : State} {m : MethodId} {args : Array Value} {below : List Frame} {meth : Method} {c : Code} {H : Heap} {locs : List Loc} {cells slots : Nat} {Q : State → Prop}
variable {cc b2 : ByteArray} {nL n2 index : Nat} {own : String} {z : State} {D : va_G} {g : Nat → ClassId} {A : Nat → Prop} {W0 W1 M : va_W} {pc fr lo b k : Nat} {ls : Array Slot} {rest st0 : List Value} {y : MethodName} {As : List Value} {hh : List (Nat × Nat × Nat × Nat)}
theorem gw_H {r : Int32} (S : CallFix p m c cc nL s args gtbl own) (E : gx_E z D g s A) (hS : va_S A s.heap H locs) (hP : va_P D vwC (W0 ++ M) H) (hD : va_D A (W0 ++ M)) (hM : LwH l z D g y b2 n2 hh fr lo As W0 W1 r)
    (hcal : gx_calW y b2 n2 hh As.length) (hst : Cond.static y ∈ gtbl) (hlink : Cond.methodLink own index y ∈ gtbl) (hrm : (Nat.ble (fr + 1) R.frames && Nat.ble (8 + (n2 + 11) + lo) R.locals) = true)
    (hstack : st0 = As.reverse ++ rest) (hls : ls.size = nL) (hcat : Nat.ble ((rest.map fun v => v.category).sum) 8 = true) (hdg : decode cc pc = .ok (.invokestatic index, 3)) (hroom : cells + 1 ≤ R.cells ∧ slots + 6 ≤ R.slots)
    (kk : ∀ (H1 : Heap) (locs1 : List Loc), va_S A s.heap H1 locs1 → va_P D vwC (W1 ++ M) H1 → va_D A (W1 ++ M) → W p l e R s m args below meth c H1 locs1 (cells + 1) (slots + 6) Q (F0 m (pc + 3) ls (.int r :: rest))) : W p l e R s m args below meth c H locs cells slots Q (F0 m pc ls st0) := by
  obtain ⟨V, wc, wc', h1, h2, h3, h4⟩ := hM
  exact gx_LSi S E hS hP hD h4 hcal hst hlink hrm (gw_p1 h1) h3 hstack hls hcat hdg hroom (gw_p2 h2) kk
theorem gw_XC {X : Type} {r : Int32} {W2 : X → va_W} (S : CallFix p m c cc nL s args gtbl own) (E : gx_E z D g s A) (hS : va_S A s.heap H locs) (hP : va_P D vwC (W0 ++ M) H) (hD : va_D A (W0 ++ M)) (hM : LwX l z D g y b2 n2 fr lo k b As W0 W2 r)
    (hcal : gx_cal y b2 n2 (some .int) As.length) (hins : Cond.instanceMethod y ∈ gtbl) (hsel : Cond.selects y.cls y y ∈ gtbl) (hlink : Cond.methodLink own index y ∈ gtbl) (hrm : (Nat.ble (fr + 1) R.frames && Nat.ble (8 + (n2 + 11) + lo) R.locals) = true) (hroom : cells + k ≤ R.cells ∧ slots + 2 * k ≤ R.slots)
    (hrcv : ∃ cellB : Cell, H[b]? = some cellB ∧ cellB.vm.isStatics = false ∧ s.vm.findClass y.cls = some cellB.cls) (hstack : st0 = As.reverse ++ .ref b :: rest) (hls : ls.size = nL) (hcat : Nat.ble ((rest.map fun v => v.category).sum) 8 = true) (hdg : decode cc pc = .ok (.invokevirtual index, 3))
    (kk : ∀ (q : X) (H1 : Heap) (locs1 : List Loc), va_S A s.heap H1 locs1 → va_P D vwC (W2 q ++ M) H1 → va_D A (W2 q ++ M) → W p l e R s m args below meth c H1 locs1 (cells + k) (slots + 2 * k) Q (F0 m (pc + 3) ls (.int r :: rest))) :
    W p l e R s m args below meth c H locs cells slots Q (F0 m pc ls st0) := by
  obtain ⟨V, wc, w', h1, h2, h4⟩ := hM
  exact gx_LVx (w2 := fun q => W2 q ++ M) S E hS hP hD h4 hcal hins hsel hlink hrm hroom (gw_p1 h1) hrcv hstack hls hcat hdg (fun q => gw_p2 (h2 q)) kk
theorem gw_XM {X : Type} {r : Int32} {W2 : X → va_W} (S : CallFix p m c cc nL s args gtbl own) (E : gx_E z D g s A) (hS : va_S A s.heap H locs) (hP : va_P D vwC (M ++ W0) H) (hD : va_D A (M ++ W0)) (hM : LwX l z D g y b2 n2 fr lo k b As W0 W2 r)
    (hcal : gx_cal y b2 n2 (some .int) As.length) (hins : Cond.instanceMethod y ∈ gtbl) (hsel : Cond.selects y.cls y y ∈ gtbl) (hlink : Cond.methodLink own index y ∈ gtbl) (hrm : (Nat.ble (fr + 1) R.frames && Nat.ble (8 + (n2 + 11) + lo) R.locals) = true) (hroom : cells + k ≤ R.cells ∧ slots + 2 * k ≤ R.slots)
    (hrcv : ∃ cellB : Cell, H[b]? = some cellB ∧ cellB.vm.isStatics = false ∧ s.vm.findClass y.cls = some cellB.cls) (hstack : st0 = As.reverse ++ .ref b :: rest) (hls : ls.size = nL) (hcat : Nat.ble ((rest.map fun v => v.category).sum) 8 = true) (hdg : decode cc pc = .ok (.invokevirtual index, 3))
    (kk : ∀ (q : X) (H1 : Heap) (locs1 : List Loc), va_S A s.heap H1 locs1 → va_P D vwC (M ++ W2 q) H1 → va_D A (M ++ W2 q) → W p l e R s m args below meth c H1 locs1 (cells + k) (slots + 2 * k) Q (F0 m (pc + 3) ls (.int r :: rest))) :
    W p l e R s m args below meth c H locs cells slots Q (F0 m pc ls st0) := by
  obtain ⟨V, wc, w', h1, h2, h4⟩ := hM
  exact gx_LVx (w2 := fun q => M ++ W2 q) S E hS hP hD h4 hcal hins hsel hlink hrm hroom (gw_p3 h1) hrcv hstack hls hcat hdg (fun q => gw_p4 (h2 q)) kk
theorem gw_LM {r : Int64} (S : CallFix p m c cc nL s args gtbl own) (E : gx_E z D g s A) (hS : va_S A s.heap H locs) (hP : va_P D vwC (M ++ W0) H) (hD : va_D A (M ++ W0)) (hM : LwL l z D g y b2 n2 fr lo b As W0 W1 r)
    (hcal : gx_cal y b2 n2 (some .long) As.length) (hins : Cond.instanceMethod y ∈ gtbl) (hsel : Cond.selects y.cls y y ∈ gtbl) (hlink : Cond.methodLink own index y ∈ gtbl) (hrm : gx_rmb ({ frames := fr, cells := 0, slots := 0, locals := lo } : Room) n2 R = true)
    (hrcv : ∃ cellB : Cell, H[b]? = some cellB ∧ cellB.vm.isStatics = false ∧ s.vm.findClass y.cls = some cellB.cls) (hstack : st0 = As.reverse ++ .ref b :: rest) (hls : ls.size = nL) (hcat : Nat.ble ((rest.map fun v => v.category).sum) 8 = true) (hdg : decode cc pc = .ok (.invokevirtual index, 3)) (hroom : cells ≤ R.cells ∧ slots ≤ R.slots)
    (kk : gx_kk p l e R s m args below meth c cells slots Q D A (M ++ W1) (F0 m (pc + 3) ls (.long r :: rest))) :
    W p l e R s m args below meth c H locs cells slots Q (F0 m pc ls st0) := by
  obtain ⟨V, wc, wc', h1, h2, h3, h4⟩ := hM
  exact gx_LVl S E hS hP hD h4 hcal hins hsel hlink hrm (gw_p3 h1) h3 hrcv hstack hls hcat hdg hroom (gw_p4 h2) kk
end GWL
