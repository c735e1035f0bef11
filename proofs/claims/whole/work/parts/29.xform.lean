/-! methods of the reference that may move its buffer to a longer row: k is by how much it has grown -/
def gx_MbV (l : Launch) (z : State) (D : va_G) (g : Nat → ClassId) (y : MethodName) (cc : ByteArray) (nL fr lo k : Nat) (av : List Value) (w : va_W) (w' : Nat → va_W) : Prop :=
  ∀ sz, Met l y (Cond.code y cc nL none :: gtbl) ({ frames := fr, cells := k, slots := 2 * k, locals := lo } : Room) (gx_Pre z D g av w sz) (va_Qv (fun _ : Nat => True) (fun q t => va_P D vwC (w' q) t.heap ∧ va_D (va_A w sz) (w' q)) (va_A w sz)) k (2 * k) (va_A w sz)
def gx_MbI (l : Launch) (z : State) (D : va_G) (g : Nat → ClassId) (y : MethodName) (cc : ByteArray) (nL fr lo k : Nat) (av : List Value) (w : va_W) (w' : Nat → va_W) (r : Int32) : Prop :=
  ∀ sz, Met l y (Cond.code y cc nL (some .int) :: gtbl) ({ frames := fr, cells := k, slots := 2 * k, locals := lo } : Room) (gx_Pre z D g av w sz) (va_Qi (fun r' (_ : Nat) => r' = r) (fun q t => va_P D vwC (w' q) t.heap ∧ va_D (va_A w sz) (w' q)) (va_A w sz)) k (2 * k) (va_A w sz)
/-- what is left must not end with a shorter buffer than there is now -/
def gx_mo {τ : Type} (π : τ → Nat) (b : Nat) (x : Option τ) : Option τ := x.bind fun r => if b ≤ π r then some r else none
theorem gx_mo_of {τ : Type} {π : τ → Nat} {b : Nat} {x : Option τ} {r : τ} (h : gx_mo π b x = some r) : b ≤ π r ∧ x = some r := by
  obtain ⟨u, h1, h2⟩ := gx_bnd h
  obtain ⟨h3, h4⟩ := gx_chk h2
  cases h4
  exact ⟨h3, h1⟩
/-- the i-th cell of a world -/
abbrev gx_at (ws : va_W) (i : Nat) : Nat × va_E := ws.getD i (0, .inr (0, []))
theorem gx_hr {b0 cur f : Nat} (h : cur ≤ f) : cur - b0 ≤ f - b0 ∧ 2 * (cur - b0) ≤ 2 * (f - b0) := ⟨Nat.sub_le_sub_right h _, Nat.mul_le_mul_left 2 (Nat.sub_le_sub_right h _)⟩
section GXB
variable {p : Program} {l : Launch} {e : Env} {R : Room} {s : State} {m : MethodId} {args : Array Value} {below : List Frame} {meth : Method} {c : Code} {H : Heap} {locs : List Loc} {Q : State → Prop}
variable {cc b2 : ByteArray} {nL n2 index fr lo : Nat} {own : String} {z : State} {D : va_G} {g : Nat → ClassId} {A : Nat → Prop} {ws wc wr : va_W} {wc' ws2 : Nat → va_W} {pc : Nat} {ls : Array Slot} {rest st0 : List Value} {y : MethodName} {b : Addr} {As : List Value} {k : Nat} {w : va_W} {w' : Nat → va_W}
theorem gx_rvb {q : Nat} (S : CallFix p m c cc nL s args gtbl own) (hr : meth.sig.returnType = none) (hlk : meth.locks = false) (hS : va_S (va_A w s.heap.size) s.heap H locs) (hP : va_P D vwC (w' q) H) (hD : va_D (va_A w s.heap.size) (w' q)) (hdg : decode cc pc = .ok (.return_, 1)) :
    W p l e R s m args below meth c H locs k (2 * k) (MQ below (va_Qv (fun _ : Nat => True) (fun q t => va_P D vwC (w' q) t.heap ∧ va_D (va_A w s.heap.size) (w' q)) (va_A w s.heap.size)) args s k (2 * k) (va_A w s.heap.size)) (F0 m pc ls []) :=
  W.vret S.1 S.2.1 hr (fun t ht _ => ⟨⟨q, rfl, trivial, by rw [ht]; exact hP, hD⟩, hS.F ht⟩) hS.2.2 hdg
theorem gx_rib {q : Nat} {r : Int32} (S : CallFix p m c cc nL s args gtbl own) (hr : meth.sig.returnType = some .int) (hlk : meth.locks = false) (hS : va_S (va_A w s.heap.size) s.heap H locs) (hP : va_P D vwC (w' q) H) (hD : va_D (va_A w s.heap.size) (w' q)) (hdg : decode cc pc = .ok (.ireturn, 1)) :
    W p l e R s m args below meth c H locs k (2 * k) (MQ below (va_Qi (fun r' (_ : Nat) => r' = r) (fun q t => va_P D vwC (w' q) t.heap ∧ va_D (va_A w s.heap.size) (w' q)) (va_A w s.heap.size)) args s k (2 * k) (va_A w s.heap.size)) (F0 m pc ls [.int r]) :=
  W.iret S.1 S.2.1 hr (fun t ht _ => ⟨⟨r, q, rfl, rfl, by rw [ht]; exact hP, hD⟩, hS.F ht⟩) hS.2.2 hdg
theorem gx_bVv {b0 cur bn : Nat} (S : CallFix p m c cc nL s args gtbl own) (E : gx_E z D g s A) (hS : va_S A s.heap H locs) (hP : va_P D vwC ws H) (hD : va_D A ws) (hM : gx_MbV l z D g y b2 n2 fr lo (bn - cur) (.ref b :: As) wc wc')
    (hcal : gx_cal y b2 n2 none As.length) (hins : Cond.instanceMethod y ∈ gtbl) (hsel : Cond.selects y.cls y y ∈ gtbl) (hlink : Cond.methodLink own index y ∈ gtbl) (hrm : (Nat.ble (fr + 1) R.frames && Nat.ble (8 + (n2 + 11) + lo) R.locals) = true) (h1 : b0 ≤ cur) (h2 : cur ≤ bn) (hroom : bn - b0 ≤ R.cells ∧ 2 * (bn - b0) ≤ R.slots)
    (isC : List Nat) (hC : isC.map (fun i => ws[i]?) = wc.map some) (hn : va_nd isC = true) (isR : List Nat) (hR : isR.map (fun i => ws[i]?) = wr.map some) (hnR : va_nd isR = true) (hdis : (isR.all fun i => !isC.contains i) = true) (pm : List Nat) (hpm : va_nd pm = true) (hw : ∀ q, pm.map (fun i => (wr ++ wc' q)[i]?) = (ws2 q).map some)
    (hrcv : ∃ cellB : Cell, H[b]? = some cellB ∧ cellB.vm.isStatics = false ∧ s.vm.findClass y.cls = some cellB.cls) (hstack : st0 = As.reverse ++ .ref b :: rest) (hls : ls.size = nL) (hcat : Nat.ble ((rest.map fun v => v.category).sum) 8 = true) (hdg : decode cc pc = .ok (.invokevirtual index, 3))
    (kk : ∀ (q : Nat) (H1 : Heap) (locs1 : List Loc), va_S A s.heap H1 locs1 → va_P D vwC (ws2 q) H1 → va_D A (ws2 q) → W p l e R s m args below meth c H1 locs1 (bn - b0) (2 * (bn - b0)) Q (F0 m (pc + 3) ls rest)) :
    W p l e R s m args below meth c H locs (cur - b0) (2 * (cur - b0)) Q (F0 m pc ls st0) := by
  rw [Bool.and_eq_true] at hrm
  have hFc := va_free (wc := wc) hD hS E.2.2.2 isC hC
  have e1 : cur - b0 + (bn - cur) = bn - b0 := by omega
  have e2 : 2 * (cur - b0) + 2 * (bn - cur) = 2 * (bn - b0) := by omega
  refine va_callv (va_runV (As := As) (rest := rest) (b := b) (C := y.cls) S (hM H.size) ⟨callB_of As.length S.2.2.2.2 (gx_goodC hcal.1) rfl rfl rfl (S.2.2.2.2 _ hcal.2.1) (S.2.2.2.2 _ hlink) hcal.2.2 ⟨Nat.le_of_ble_eq_true hrm.1, Nat.le_of_ble_eq_true hrm.2⟩, S.2.2.2.2 _ hins, S.2.2.2.2 _ hsel⟩ ⟨gx_blind, hrcv, gx_pre E hS hP hD isC hC hn⟩ rfl rfl hls hstack (gx_room hcat) hdg (by rw [e1, e2]; exact hroom)) hS (fun q _ h => hFc q h) hFc (fun u t H1 locs1 ht hvm hpost hB hz hk hS1 => ?_)
  rw [e1, e2]
  obtain ⟨hP1, hD1⟩ := hB
  rw [ht] at hP1
  obtain ⟨hP2, hD2⟩ := va_join (wr := wr) (w1 := wc' u) hP hD isC isR hC hR hnR (fun i hi hc => by
    have := List.all_eq_true.mp hdis i hi
    simp [hc] at this) hk hFc hP1 hD1
  refine kk u H1 locs1 hS1 (fun j q hq => ?_) (hD2.sub pm hpm (hw u))
  have h1 : (pm.map (fun i => (wr ++ wc' u)[i]?))[j]? = some (some q) := by rw [hw u, List.getElem?_map, hq]; rfl
  rw [List.getElem?_map] at h1
  cases hi : pm[j]? with
  | none => rw [hi] at h1; cases h1
  | some i => rw [hi] at h1; exact hP2 i q (Option.some.inj h1)
end GXB
