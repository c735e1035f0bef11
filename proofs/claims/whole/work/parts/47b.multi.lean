/-! an array of n1 arrays of n2 bytes -/
def gx_in (cI : ClassId) (n2 : Nat) : Cell := { cls := cI, slots := Array.replicate n2 (.int 0), vm := .none }
def gx_ou (S : State) (cO : ClassId) (n1 k : Nat) : Cell := arrV cO n1 (fun j => if j < k then .ref (S.heap.size + 1 + j) else .null)
def gx_mn (S : State) (cO cI : ClassId) (n1 n2 : Nat) : Nat → State
  | 0 => S.pushCell { cls := cO, slots := Array.replicate n1 .null, vm := .none }
  | k + 1 => ((gx_mn S cO cI n1 n2 k).pushCell (gx_in cI n2)).setCell S.heap.size ((gx_ou S cO n1 k).setSlot k (.ref (S.heap.size + 1 + k)))
theorem gx_ou_next (S : State) (cO : ClassId) (n1 k : Nat) : (gx_ou S cO n1 k).setSlot k (.ref (S.heap.size + 1 + k)) = gx_ou S cO n1 (k + 1) := by
  unfold gx_ou
  rw [arrV_store]
  congr 1
  funext j
  unfold updV
  by_cases h : j = k
  · subst h; simp
  · by_cases h2 : j < k
    · simp [h, h2, Nat.lt_succ_of_lt h2]
    · have h3 : ¬ j < k + 1 := by omega
      simp [h, h2, h3]
theorem gx_mn_facts (S : State) (cO cI : ClassId) (n1 n2 : Nat) : ∀ k, (gx_mn S cO cI n1 n2 k).heap.size = S.heap.size + 1 + k ∧ (gx_mn S cO cI n1 n2 k).heap[S.heap.size]? = some (gx_ou S cO n1 k) ∧ (∀ q : Nat, q < S.heap.size → (gx_mn S cO cI n1 n2 k).heap[q]? = S.heap[q]?) ∧ (∀ j, j < k → (gx_mn S cO cI n1 n2 k).heap[S.heap.size + 1 + j]? = some (gx_in cI n2)) ∧ (gx_mn S cO cI n1 n2 k).vm = S.vm ∧ (gx_mn S cO cI n1 n2 k).slotsUsed = S.slotsUsed + n1 + k * n2
  | 0 => by
    refine ⟨by simp [gx_mn, State.pushCell], ?_, fun q hq => ?_, fun j hj => absurd hj (Nat.not_lt_zero _), rfl, by simp [gx_mn, State.pushCell]⟩
    · show (S.heap.push _)[S.heap.size]? = _
      rw [Array.getElem?_push_size, arrV_new]
      unfold gx_ou
      simp
    · show (S.heap.push _)[q]? = _
      rw [Array.getElem?_push, if_neg (Nat.ne_of_lt hq)]
  | k + 1 => by
    obtain ⟨h1, h2, h3, h4, h5, h6⟩ := gx_mn_facts S cO cI n1 n2 k
    have hh : (gx_mn S cO cI n1 n2 (k + 1)).heap = ((gx_mn S cO cI n1 n2 k).heap.push (gx_in cI n2)).setIfInBounds S.heap.size (gx_ou S cO n1 (k + 1)) := by rw [← gx_ou_next]; rfl
    have hsz : S.heap.size < ((gx_mn S cO cI n1 n2 k).heap.push (gx_in cI n2)).size := by rw [Array.size_push, h1]; omega
    refine ⟨by rw [hh, Array.size_setIfInBounds, Array.size_push, h1]; omega, by rw [hh, Array.getElem?_setIfInBounds_self_of_lt hsz], fun q hq => ?_, fun j hj => ?_, h5, ?_⟩
    · rw [hh, Array.getElem?_setIfInBounds_ne (by omega), Array.getElem?_push, if_neg (by omega)]
      exact h3 q hq
    · rw [hh, Array.getElem?_setIfInBounds_ne (by omega), Array.getElem?_push]
      by_cases hjk : j = k
      · rw [if_pos (by omega)]
      · rw [if_neg (by omega)]
        exact h4 j (by omega)
    · show (gx_mn S cO cI n1 n2 k).slotsUsed + (gx_in cI n2).slots.size = _
      rw [h6]
      simp [gx_in]
      rw [Nat.add_mul]
      omega
theorem gx_mn_stand {p : Program} {l : Launch} {e : Env} {R : Room} {s : State} {m : MethodId} {args : Array Value} {below : List Frame} {meth : Method} {c : Code} {T : State} {locs : List Loc} {cells slots : Nat} (cO cI : ClassId) (n1 n2 : Nat) (X : Stand p l e R s m args below meth c T locs cells slots) :
    ∀ k, ∃ L, (∀ q ∈ L, q.base = T.heap.size) ∧ Stand p l e R s m args below meth c (gx_mn T cO cI n1 n2 k) (locs ++ L) (cells + 1 + k) (slots + n1 + k * n2)
  | 0 => by
    have h := X.pushed { cls := cO, slots := Array.replicate n1 .null, vm := .none }
    refine ⟨[], (fun q h => absurd h List.not_mem_nil), ?_⟩
    rw [List.append_nil, Nat.add_zero, Nat.zero_mul, Nat.add_zero]
    simpa [gx_mn] using h
  | k + 1 => by
    obtain ⟨L, h1, h2⟩ := gx_mn_stand cO cI n1 n2 X k
    obtain ⟨f1, f2, -⟩ := gx_mn_facts T cO cI n1 n2 k
    have h3 := h2.pushed (gx_in cI n2)
    have f3 : ((gx_mn T cO cI n1 n2 k).pushCell (gx_in cI n2)).heap[T.heap.size]? = some (gx_ou T cO n1 k) := by
      show ((gx_mn T cO cI n1 n2 k).heap.push _)[T.heap.size]? = _
      rw [Array.getElem?_push, if_neg (by omega)]
      exact f2
    have h4 := h3.stored f3 k (.ref (T.heap.size + 1 + k))
    refine ⟨L ++ [⟨T.heap.size, k⟩], fun q hq => ?_, ?_⟩
    · rcases List.mem_append.mp hq with h | h
      · exact h1 q h
      · rw [List.mem_singleton.mp h]
    · have e1 : slots + n1 + k * n2 + (gx_in cI n2).slots.size = slots + n1 + (k + 1) * n2 := by
        simp [gx_in]
        rw [Nat.add_mul]
        omega
      rw [e1, List.append_assoc] at h4
      exact h4
set_option maxHeartbeats 1000000 in
theorem gx_mn_wp {Q : Addr → Pre} {E : CtlPost} {e : Env} {d : Bool} {acts : List Action} {S : State} {cO cI comp : ClassId} {kO kI : Class} {x1 x2 : Int32} {n1 n2 : Nat} (hkO : S.vm.classes[cO]? = some kO) (hdO : kO.kind = .array cI (.array .byte)) (hkI : S.vm.classes[cI]? = some kI) (hdI : kI.kind = .array comp .byte)
    (h1 : ¬ x1 < 0) (hN1 : x1.toNatClampNeg = n1) (h2 : ¬ x2 < 0) (hN2 : x2.toNatClampNeg = n2) (h0 : x1 ≠ 0) (l1 : ¬ n1 > e.platform.arrayLengthLimit) (l2 : ¬ n2 > e.platform.arrayLengthLimit) (b1 : ¬ n1 * componentBytes (.array .byte) > e.platform.maxHeapBytes) (b2 : ¬ n2 * componentBytes .byte > e.platform.maxHeapBytes)
    (hc : S.heap.size + 1 + n1 ≤ e.platform.maxCells) (hs : S.slotsUsed + n1 + n1 * n2 ≤ e.platform.maxSlots) (hs2 : 0 < n1) (hq : ∀ d' acts', Q S.heap.size d' acts' (gx_mn S cO cI n1 n2 n1)) :
    wp (multianewarray.make cO [x1, x2]) Q E e d acts S := by
  have hs1 : n1 ≤ e.platform.maxSlots := by have : n1 ≤ S.slotsUsed + n1 + n1 * n2 := by omega
                                            omega
  have hs3 : n2 ≤ e.platform.maxSlots := by
    have : n2 ≤ n1 * n2 := Nat.le_mul_of_pos_left _ hs2
    omega
  subst hN1
  subst hN2
  have hone : ∀ (U : State) (Q' : Addr → Pre) (d' : Bool) (acts' : List Action), U.vm = S.vm → U.heap.size < e.platform.maxCells → U.slotsUsed + x2.toNatClampNeg ≤ e.platform.maxSlots → (∀ d2 a2, Q' U.heap.size d2 a2 (U.pushCell (gx_in cI x2.toNatClampNeg))) → wp (multianewarray.make cI [x2]) Q' E e d' acts' U := by
    intro U Q' d' acts' hvm hcU hsU hqU
    have hkU : U.vm.classes[cI]? = some kI := by rw [hvm]; exact hkI
    unfold multianewarray.make
    simp only [wp_bind', W.ite, h2, if_false, wp_pure', W.theClass, hkU, Option.some.injEq, exists_eq_left', hdI]
    simp only [Jvm.newArray, Jvm.arrayFits, wp_bind', W.ask, W.ite, W.theClass, hkU, Option.some.injEq, exists_eq_left', hdI, l2, b2, if_false, W.alloc, wp_pure']
    rw [if_neg (by omega)]
    refine ⟨hcU, by simpa using hsU, ?_, hqU _ _⟩
    intro i v hv
    simp only [Array.getElem?_replicate] at hv
    split at hv
    · cases hv; simp [State.fitsSlot, State.slotType?, hkU, hdI, defaultValue]; rfl
    · cases hv
  unfold multianewarray.make
  simp only [wp_bind', W.ite, h1, if_false, wp_pure', W.theClass, hkO, Option.some.injEq, exists_eq_left', hdO]
  simp only [Jvm.newArray, Jvm.arrayFits, wp_bind', W.ask, W.ite, W.theClass, hkO, Option.some.injEq, exists_eq_left', hdO, l1, b1, if_false, W.alloc, wp_pure']
  rw [if_neg (by omega)]
  refine ⟨by omega, by simp; omega, ?_, ?_⟩
  · intro i v hv
    simp only [Array.getElem?_replicate] at hv
    split at hv
    · cases hv; simp [State.fitsSlot, State.slotType?, hkO, hdO]; rfl
    · cases hv
  · have hne : (x1 == 0) = false := by simpa using h0
    simp only [hne, if_false, Bool.false_eq_true, wp_bind', wp_pure', Std.Legacy.Range.forIn_eq_forIn_range']
    have hsize : ([:x1.toNatClampNeg] : Std.Legacy.Range).size = x1.toNatClampNeg := by simp [Std.Legacy.Range.size]
    rw [hsize]
    refine wp_forIn_inv (fun l U => ∃ k, k ≤ x1.toNatClampNeg ∧ l = List.range' k (x1.toNatClampNeg - k) ∧ U = gx_mn S cO cI x1.toNatClampNeg x2.toNatClampNeg k) _ _ ⟨0, Nat.zero_le _, rfl, rfl⟩ ?_ ?_
    · rintro y rest U d1 a1 Q1 ⟨k, hk, hl, rfl⟩ hQ1
      have hkl : k < x1.toNatClampNeg := by
        rcases Nat.lt_or_ge k x1.toNatClampNeg with q | q
        · exact q
        · rw [Nat.sub_eq_zero_of_le q] at hl; cases hl
      obtain ⟨t, ht⟩ : ∃ t, x1.toNatClampNeg - k = t + 1 := ⟨x1.toNatClampNeg - k - 1, by omega⟩
      rw [ht, List.range'_succ] at hl
      obtain ⟨rfl, rfl⟩ := List.cons.inj hl
      obtain ⟨f1, f2, f3, f4, f5, f6⟩ := gx_mn_facts S cO cI x1.toNatClampNeg x2.toNatClampNeg y
      simp only [wp_bind']
      have hroom : y * x2.toNatClampNeg + x2.toNatClampNeg ≤ x1.toNatClampNeg * x2.toNatClampNeg := by
        have := Nat.mul_le_mul_right x2.toNatClampNeg (show y + 1 ≤ x1.toNatClampNeg by omega)
        rw [Nat.add_mul, Nat.one_mul] at this
        exact this
      refine hone _ _ _ _ f5 (by rw [f1]; omega) (by rw [f6]; omega) (fun d2 a2 => ?_)
      have hcell : ((gx_mn S cO cI x1.toNatClampNeg x2.toNatClampNeg y).pushCell (gx_in cI x2.toNatClampNeg)).heap[S.heap.size]? = some (gx_ou S cO x1.toNatClampNeg y) := by
        show ((gx_mn S cO cI x1.toNatClampNeg x2.toNatClampNeg y).heap.push _)[S.heap.size]? = _
        rw [Array.getElem?_push, if_neg (by omega)]
        exact f2
      simp only [wp_bind', W.writeLoc, wp_pure']
      have hvm2 : ((gx_mn S cO cI x1.toNatClampNeg x2.toNatClampNeg y).pushCell (gx_in cI x2.toNatClampNeg)).vm = S.vm := f5
      have hkO2 : ((gx_mn S cO cI x1.toNatClampNeg x2.toNatClampNeg y).pushCell (gx_in cI x2.toNatClampNeg)).vm.classes[cO]? = some kO := by rw [hvm2]; exact hkO
      refine ⟨_, hcell, ?_, ?_, ?_, ?_⟩
      · intro h
        cases h
      · show y < (Array.ofFn _).size
        rw [Array.size_ofFn]
        exact hkl
      · show State.fitsSlot _ cO .none y (.ref _) = true
        have hkO3 : (gx_mn S cO cI x1.toNatClampNeg x2.toNatClampNeg y).vm.classes[cO]? = some kO := hkO2
        simp [State.fitsSlot, State.slotType?, hkO3, hdO]
        rfl
      · refine hQ1 _ _ _ ⟨y + 1, by omega, ?_, ?_⟩
        · congr 1; omega
        · rw [f1]; rfl
    · rintro U d1 a1 ⟨k, hk, hl, rfl⟩
      have hkn : k = x1.toNatClampNeg := by
        rcases Nat.lt_or_ge k x1.toNatClampNeg with q | q
        · obtain ⟨t, ht⟩ : ∃ t, x1.toNatClampNeg - k = t + 1 := ⟨x1.toNatClampNeg - k - 1, by omega⟩
          rw [ht, List.range'_succ] at hl; cases hl
        · omega
      rw [hkn]
      exact hq _ _
theorem gx_mn_top (S : State) (f : JFrame) (cO cI : ClassId) (n1 n2 : Nat) : ∀ k, gx_mn (S.setTop f) cO cI n1 n2 k = (gx_mn S cO cI n1 n2 k).setTop f
  | 0 => by
    show (S.setTop f).pushCell _ = (S.pushCell _).setTop f
    simp
  | k + 1 => by
    have h := gx_mn_top S f cO cI n1 n2 k
    show ((gx_mn (S.setTop f) cO cI n1 n2 k).pushCell (gx_in cI n2)).setCell (S.setTop f).heap.size ((gx_ou (S.setTop f) cO n1 k).setSlot k (.ref ((S.setTop f).heap.size + 1 + k))) = _
    rw [h]
    have hh : (S.setTop f).heap = S.heap := by simp
    have ho : gx_ou (S.setTop f) cO n1 k = gx_ou S cO n1 k := by unfold gx_ou; rw [hh]
    rw [ho, hh]
    show _ = (((gx_mn S cO cI n1 n2 k).pushCell (gx_in cI n2)).setCell S.heap.size ((gx_ou S cO n1 k).setSlot k (.ref (S.heap.size + 1 + k)))).setTop f
    simp
theorem gx_mn_topJ (S : State) (cO cI : ClassId) (n1 n2 : Nat) : ∀ k, (gx_mn S cO cI n1 n2 k).topJava? = S.topJava?
  | 0 => by
    show (S.pushCell _).topJava? = _
    simp
  | k + 1 => by
    show (((gx_mn S cO cI n1 n2 k).pushCell _).setCell _ _).topJava? = _
    simp
    exact gx_mn_topJ S cO cI n1 n2 k
theorem gx_multi_sem {Q : Unit → Pre} {E : CtlPost} {e : Env} {d : Bool} {acts : List Action} {S : State} {f : JFrame} {index : Nat} {cO cI comp : ClassId} {kO kI : Class} {x1 x2 : Int32} {n1 n2 : Nat} {rest : List Value} (hs : S.topJava?.isSome) (hr : S.vm.classReady f.method.cls index cO) (hkO : S.vm.classes[cO]? = some kO) (hdO : kO.kind = .array cI (.array .byte)) (hkI : S.vm.classes[cI]? = some kI) (hdI : kI.kind = .array comp .byte)
    (hstack : f.stack = .int x2 :: .int x1 :: rest) (h1 : ¬ x1 < 0) (hN1 : x1.toNatClampNeg = n1) (h2 : ¬ x2 < 0) (hN2 : x2.toNatClampNeg = n2) (h0 : x1 ≠ 0) (l1 : ¬ n1 > e.platform.arrayLengthLimit) (l2 : ¬ n2 > e.platform.arrayLengthLimit) (b1 : ¬ n1 * componentBytes (.array .byte) > e.platform.maxHeapBytes) (b2 : ¬ n2 * componentBytes .byte > e.platform.maxHeapBytes)
    (hc : S.heap.size + 1 + n1 ≤ e.platform.maxCells) (hsl : S.slotsUsed + n1 + n1 * n2 ≤ e.platform.maxSlots) (hs2 : 0 < n1) (hq : ∀ d' acts', Q () d' acts' ((gx_mn S cO cI n1 n2 n1).setTop { f with stack := .ref S.heap.size :: rest })) :
    wp (multianewarray.sem index 2) Q E e d acts (S.setTop f) := by
  unfold multianewarray.sem
  simp only [wp_bind', W.resolveClassAt_ready (State.method?_setTop f hs) hr]
  have hst : f.stack = [Value.int x1, Value.int x2].reverse ++ rest := hstack
  refine (popN_top (args := [Value.int x1, Value.int x2]) hs hst).mpr ?_
  simp only [wp_bind', wp_pure', List.mapM_cons, List.mapM_nil]
  have hh : (S.setTop { f with stack := rest }).heap = S.heap := by simp
  have hv : (S.setTop { f with stack := rest }).vm = S.vm := by simp
  have hu : (S.setTop { f with stack := rest }).slotsUsed = S.slotsUsed := by simp
  refine gx_mn_wp (cI := cI) (comp := comp) (kO := kO) (kI := kI) (n1 := n1) (n2 := n2) (by rw [hv]; exact hkO) hdO (by rw [hv]; exact hkI) hdI h1 hN1 h2 hN2 h0 l1 l2 b1 b2 (by rw [hh]; exact hc) (by rw [hu]; exact hsl) hs2 (fun d' acts' => ?_)
  rw [hh, gx_mn_top]
  have htop : (gx_mn S cO cI n1 n2 n1).topJava?.isSome := by rw [gx_mn_topJ]; exact hs
  simp only [wp_bind', W.mark, W.pushRef, State.topJava?_setTop' _ htop, Option.some.injEq, exists_eq_left', State.setTop_setTop]
  exact hq _ _


theorem gx_multi_cold {Q : Unit → Pre} {E : CtlPost} {e : Env} {d : Bool} {acts : List Action} {s : State} {f : JFrame} {index k c : Nat} {vm' : Vm} (hs : s.topJava?.isSome) (hg : (Jvm.resolveClass f.method.cls index).Gives e.toSetting s.vm (.ok c) vm') (hr : vm'.classReady f.method.cls index c)
    (hsz : vm'.classes.size ≤ s.vm.classes.size := by no_record) :
    wp (multianewarray.sem index k) Q E e d acts (s.setTop f) ↔ wp (multianewarray.sem index k) Q E e d acts ((s.setVm vm').setTop f) := by
  simp only [multianewarray.sem, wp_bind']
  exact W.resolveClassAt_transfer (s := s.setTop f) (State.method?_setTop f hs) hg hr
set_option maxHeartbeats 1000000 in
theorem gx_Wmulti {p : Program} {l : Launch} {e : Env} {R : Room} {s : State} {m : MethodId} {args : Array Value} {below : List Frame} {meth : Method} {c : Code} {H : Heap} {locs : List Loc} {cells slots : Nat} {Q : State → Prop} {cc : ByteArray} (hexec : p.tables.exec = Jvm.exec) (hb : c.code = cc) {own : String} {index : Nat} (hown : s.vm.findClass own = some m.cls) (hclink : (Cond.classLink own index "[[B").before args s = true) (hover : (Cond.arrayOver (.array .byte)).before args s = true)
    {cI compI : ClassId} {kI : Class} (hcI : s.vm.findClass "[B" = some cI) (hkI : s.vm.classes[cI]? = some kI) (hdI : kI.kind = .array compI .byte)
    {g : JFrame} (hg : g.method = m) (hdg : decode cc g.pc = .ok (.multianewarray index 2, 4)) {x1 x2 : Int32} {n1 n2 : Nat} {rest : List Value} (hstack : g.stack = .int x2 :: .int x1 :: rest) (h1 : ¬ x1 < 0) (hN1 : x1.toNatClampNeg = n1) (h2 : ¬ x2 < 0) (hN2 : x2.toNatClampNeg = n2) (h0 : x1 ≠ 0) (hs2 : 0 < n1) (hb1 : n1 * 4 ≤ 536870912) (hb2 : n2 * 4 ≤ 536870912) (hcells : cells + 1 + n1 ≤ R.cells) (hslots : slots + n1 + n1 * n2 ≤ R.slots)
    (kk : ∀ (cO : ClassId) (kO : Class) (H1 : Heap) (L : List Loc), s.vm.findClass "[[B" = some cO → s.vm.classes[cO]? = some kO → kO.kind = .array cI (.array .byte) → H1.size = H.size + 1 + n1 → H1[H.size]? = some (arrV cO n1 (fun j => if j < n1 then .ref (H.size + 1 + j) else .null)) → (∀ q : Nat, q < H.size → H1[q]? = H[q]?) → (∀ j, j < n1 → H1[H.size + 1 + j]? = some (gx_in cI n2)) → (∀ q ∈ L, q.base = H.size) →
      W p l e R s m args below meth c H1 (locs ++ L) (cells + 1 + n1) (slots + n1 + n1 * n2) Q { g with pc := g.pc + 4, stack := .ref H.size :: rest }) : W p l e R s m args below meth c H locs cells slots Q g := by
  intro T hT X
  subst hT; subst hb; subst hg
  have hpl : e.platform.magicAccessors = ({} : Platform).magicAccessors := by rw [X.admits.platform]
  obtain ⟨comp, cA, kA, hcomp, hidx, hkA, hkindA, hnameA⟩ := arrayOverA_spec hover
  obtain rfl : comp = cI := Option.some.inj (hcomp.symm.trans hcI)
  obtain ⟨cc', hfcc, hcl⟩ := Cond.classLink_spec hown hclink e.platform hpl
  obtain rfl : cc' = cA := Option.some.inj (hfcc.symm.trans hnameA)
  obtain ⟨hg₁, hwarm₁, hready₁⟩ := State.classEntry (e := e) X.warmed hcl
  generalize T.vm.noted g.method.cls index (.cls cc') = vm₁ at hg₁ hwarm₁ hready₁
  have hal : s.vm.Alike vm₁ := hwarm₁.alike
  obtain ⟨kA₁, hkA₁, heA⟩ := hal.2.2 _ _ hkA
  have hkindA₁ : kA₁.kind = .array comp (.array .byte) := by rw [heA]; exact hkindA
  obtain ⟨kI₁, hkI₁, heI⟩ := hal.2.2 _ _ hkI
  have hkindI₁ : kI₁.kind = .array compI .byte := by rw [heI]; exact hdI
  have hl1 : ¬ n1 > e.platform.arrayLengthLimit := by rw [Launch.admits_arrayLengthLimit X.admits]; omega
  have hl2 : ¬ n2 > e.platform.arrayLengthLimit := by rw [Launch.admits_arrayLengthLimit X.admits]; omega
  have hh1 : ¬ n1 * componentBytes (.array .byte) > e.platform.maxHeapBytes := by
    rw [Launch.admits_maxHeapBytes X.admits]; show ¬ n1 * 4 > 536870912; omega
  have hh2 : ¬ n2 * componentBytes .byte > e.platform.maxHeapBytes := by
    rw [Launch.admits_maxHeapBytes X.admits]; show ¬ n2 * 1 > 536870912; omega
  have X₁ := X.noted hwarm₁
  obtain ⟨L, hL, X₂⟩ := gx_mn_stand cc' comp n1 n2 X₁ n1
  obtain ⟨f1, f2, f3, f4, f5, f6⟩ := gx_mn_facts (T.setVm vm₁) cc' comp n1 n2 n1
  obtain ⟨hr1, hr2⟩ := X.roomAbove (show cells + (1 + n1) ≤ R.cells by omega) (show slots + (n1 + n1 * n2) ≤ R.slots by omega)
  obtain ⟨t', a1, b1⟩ := kk cc' kA (gx_mn (T.setVm vm₁) cc' comp n1 n2 n1).heap L hnameA hkA hkindA f1 f2 f3 f4 hL (gx_mn (T.setVm vm₁) cc' comp n1 n2 n1) (by rfl) (by simpa using X₂)
  refine ⟨t', ?_, b1⟩
  refine Steps.instr (c := _) (by simpa using X.here) ?_
  simp [jvm, wpRun, exec, X.here.top, hexec, hdg]
  rw [gx_multi_cold X.here.top hg₁ hready₁]
  obtain ⟨u1, u2⟩ := (show T.heap.size + (1 + n1) ≤ e.platform.maxCells ∧ T.slotsUsed + (n1 + n1 * n2) ≤ e.platform.maxSlots from ⟨by omega, by omega⟩)
  refine gx_multi_sem (S := T.setVm vm₁) (f := g) (kO := kA₁) (kI := kI₁) (comp := compI) (by simpa using X.here.top) hready₁ hkA₁ hkindA₁ hkI₁ hkindI₁ hstack h1 hN1 h2 hN2 h0 hl1 hl2 hh1 hh2 (show T.heap.size + 1 + n1 ≤ _ by omega) (show T.slotsUsed + n1 + n1 * n2 ≤ _ by omega) hs2 (fun d' acts' acts'' => ?_)
  have htop2 : (gx_mn (T.setVm vm₁) cc' comp n1 n2 n1).topJava?.isSome := by rw [gx_mn_topJ]; simpa using X.here.top
  simpa [jvm, afterInstr, htop2, State.modifyTopJava_setTop] using a1
def gx_AA (U : State) : Prop := (Cond.arrayOver (.array .byte)).before #[] U = true
theorem gx_AA.moved {u U : State} (hvm : u.vm.Alike U.vm) (h : gx_AA u) : gx_AA U := by
  obtain ⟨comp, c, k, h1, h2, h3, h4, h5⟩ := arrayOverA_spec h
  obtain ⟨k', hk', he⟩ := hvm.2.2 _ _ h3
  have hi : (U.vm.classes.findIdx? fun (x : Class) => match x.kind with | .array component _ => component == comp | _ => false) = some c := by
    rw [hvm.findIdx?_eq _ (fun _ => rfl)]
    exact h2
  have hkind : k'.kind = .array comp (.array .byte) := by rw [he]; exact h4
  have f1 : U.vm.findClass (FieldType.array .byte).toString = some comp := by rw [hvm.findClass]; exact h1
  have f2 : U.vm.findClass ("[" ++ (FieldType.array .byte).toString) = some c := by rw [hvm.findClass]; exact h5
  unfold gx_AA Cond.before Cond.holds
  simp only [Cond.value]
  rw [f1, Option.bind_some]
  refine (congrArg (fun o : Option Nat => (o.bind (fun c => (U.vm.classes[c]?).map fun (k : Class) => match k.kind with | .array _ ty => decide (ty = FieldType.array .byte) && decide (U.vm.findClass ("[" ++ (FieldType.array .byte).toString) = some c) | _ => false) == some true)) hi).trans ?_
  simp [hk', hkind, f2]
/-- cells that are made behind all others -/
theorem gx_Dnew {A : Nat → Prop} {D : va_G} {cl : List vw_C} {ws w2 : va_W} {H : Heap} (hD : va_D A ws) (hP : va_P D cl ws H) (hA : ∀ q, H.size ≤ q → A q) (h2 : ∀ k q, w2[k]? = some q → q.1 = H.size + k) : va_D A (ws ++ w2) := by
  have key : ∀ (k : Nat) (q : Nat × va_E), (ws ++ w2)[k]? = some q → (k < ws.length ∧ ws[k]? = some q ∧ q.1 < H.size) ∨ (ws.length ≤ k ∧ q.1 = H.size + (k - ws.length)) := by
    intro k q hk
    by_cases hl : k < ws.length
    · rw [List.getElem?_append_left hl] at hk
      exact Or.inl ⟨hl, hk, (hP k q hk).lt⟩
    · rw [List.getElem?_append_right (by omega)] at hk
      exact Or.inr ⟨by omega, h2 _ _ hk⟩
  refine ⟨fun i j p q hi hj he => ?_, fun k q hk => ?_⟩
  · rcases key i p hi with ⟨a1, a2, a3⟩ | ⟨a1, a2⟩
    · rcases key j q hj with ⟨b1, b2, b3⟩ | ⟨b1, b2⟩
      · exact hD.1 i j p q a2 b2 he
      · omega
    · rcases key j q hj with ⟨b1, b2, b3⟩ | ⟨b1, b2⟩
      · omega
      · omega
  · rcases key k q hk with ⟨a1, a2, a3⟩ | ⟨a1, a2⟩
    · exact hD.2 k q a2
    · exact hA _ (by omega)
def gx_nwW (g : Nat → ClassId) (u : Nat → Nat) (n1 n2 : Nat) : va_W := (u 0, .inl (g 6, n1, .inr (.inr (.inr (.inr (fun j => some (u (j + 1)))))))) :: (List.range n1).map (fun j => (u (j + 1), .inl (g 1, n2, .inl (fun _ => 0))))
section
variable {p : Program} {l : Launch} {e : Env} {R : Room} {s : State} {m : MethodId} {args : Array Value} {below : List Frame} {meth : Method} {c : Code} {H : Heap} {locs : List Loc} {cells slots : Nat} {Q : State → Prop}
variable {cc : ByteArray} {nL index : Nat} {own : String} {z : State} {D : va_G} {g : Nat → ClassId} {A : Nat → Prop} {ws : va_W} {pc : Nat} {ls : Array Slot} {rest : List Value}
theorem gx_nwm (S : CallFix p m c cc nL s args gtbl own) (E : gx_E z D g s A) (hAA : gx_AA s) (hS : va_S A s.heap H locs) (hP : va_P D vwC ws H) (hD : va_D A ws) (hcl : Cond.classLink own index "[[B" ∈ gtbl) (n1 n2 : Nat) {x1 x2 : Int32} (h1 : ¬ x1 < 0) (hN1 : x1.toNatClampNeg = n1) (h2 : ¬ x2 < 0) (hN2 : x2.toNatClampNeg = n2) (h0 : x1 ≠ 0)
    (hroom : ((Nat.ble (cells + 1 + n1) R.cells && Nat.ble (slots + n1 + n1 * n2) R.slots) && (Nat.ble 1 n1 && (Nat.ble (n1 * 4) 536870912 && Nat.ble (n2 * 4) 536870912))) = true) (hdg : decode cc pc = .ok (.multianewarray index 2, 4))
    (kk : ∀ (u : Nat → Nat) (H : Heap) (locs : List Loc), va_S A s.heap H locs → va_P D vwC (ws ++ gx_nwW g u n1 n2) H → va_D A (ws ++ gx_nwW g u n1 n2) → W p l e R s m args below meth c H locs (cells + 1 + n1) (slots + n1 + n1 * n2) Q (F0 m (pc + 4) ls (.ref (u 0) :: rest))) : W p l e R s m args below meth c H locs cells slots Q (F0 m pc ls (.int x2 :: .int x1 :: rest)) := by
  simp only [Bool.and_eq_true] at hroom
  obtain ⟨⟨r1, r2⟩, r3, r4, r5⟩ := hroom
  obtain ⟨-, kI, hkI, compI, hdI⟩ := (E.1.1.2 1 (g 1, .byte) rfl).1 0 (fun _ => .null)
  have hnI : s.vm.findClass "[B" = some (g 1) := (E.1.1.2 1 (g 1, .byte) rfl).2
  have hnO : s.vm.findClass "[[B" = some (g 6) := (E.1.1.2 6 (g 6, .array .byte) rfl).2
  refine gx_Wmulti S.1 S.2.1 S.2.2.2.1 (S.2.2.2.2 _ hcl) hAA hnI hkI hdI rfl hdg rfl h1 hN1 h2 hN2 h0 (Nat.le_of_ble_eq_true r3) (Nat.le_of_ble_eq_true r4) (Nat.le_of_ble_eq_true r5) (Nat.le_of_ble_eq_true r1) (Nat.le_of_ble_eq_true r2) (fun cO kO H1 L f1 f2 f3 z1 e1 o1 i1 hL => ?_)
  obtain rfl : cO = g 6 := Option.some.inj (f1.symm.trans hnO)
  have hA : ∀ q, H.size ≤ q → A q := fun q hq => E.2.2.2 q (Nat.le_trans hS.1 hq)
  have hk : ∀ (k : Nat) (x : Nat × va_E), ws[k]? = some x → H1[x.1]? = H[x.1]? := fun k x hx => o1 x.1 ((hP k x hx).lt)
  have hidx : ∀ k q, (gx_nwW g (fun i => H.size + i) n1 n2)[k]? = some q → q.1 = H.size + k := by
    intro k q hq
    cases k with
    | zero => cases hq; rfl
    | succ k =>
      rw [gx_nwW, List.getElem?_cons_succ, List.getElem?_map] at hq
      by_cases hkn : k < n1
      · rw [List.getElem?_range hkn] at hq; cases hq; rfl
      · rw [List.getElem?_eq_none (by simpa using hkn)] at hq; cases hq
  refine kk (fun i => H.size + i) H1 (locs ++ L) ⟨Nat.le_trans hS.1 (by omega), fun x h1 h2 => (o1 x (Nat.lt_of_lt_of_le h1 hS.1)).trans (hS.2.1 x h1 h2), fun x hx => ?_⟩ ((hP.kept hk).app (fun k x hx => ?_)) (gx_Dnew hD hP hA hidx)
  · rcases List.mem_append.mp hx with h | h
    · exact hS.2.2 x h
    · rw [hL x h]; exact hA _ (Nat.le_refl _)
  · cases k with
    | zero =>
      cases hx
      show H1[H.size + 0]? = some (vp_cell (g 6) (n1, .inr (.inr (.inr (.inr (fun j => some (H.size + (j + 1))))))))
      rw [Nat.add_zero, e1, vp_cell_q]
      unfold arrV
      congr 3
      funext j
      show (if j.val < n1 then Value.ref (H.size + 1 + j.val) else .null) = va_rf (some (H.size + (j.val + 1)))
      rw [if_pos j.isLt, Nat.add_assoc, Nat.add_comm 1]
      rfl
    | succ k =>
      rw [gx_nwW, List.getElem?_cons_succ, List.getElem?_map] at hx
      by_cases hkn : k < n1
      · rw [List.getElem?_range hkn] at hx
        cases hx
        show H1[H.size + (k + 1)]? = some (vp_cell (g 1) (n2, .inl (fun _ => 0)))
        have := i1 k hkn
        rw [Nat.add_assoc, Nat.add_comm 1] at this
        rw [this, vp_cell_i]
        unfold gx_in
        rw [arrV_new]
      · rw [List.getElem?_eq_none (by simpa using hkn)] at hx; cases hx
end
