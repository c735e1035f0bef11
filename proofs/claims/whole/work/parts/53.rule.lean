/-! calls in the law: the callee's cells stand behind what is left of the world -/
theorem gx_nd_fr : ∀ (n b : Nat), va_nd (gx_fr b n) = true ∧ ∀ i ∈ gx_fr b n, b ≤ i ∧ i < b + n
  | 0, b => ⟨rfl, fun i h => absurd h List.not_mem_nil⟩
  | n + 1, b => by
    obtain ⟨h1, h2⟩ := gx_nd_fr n (b + 1)
    refine ⟨?_, fun i hi => ?_⟩
    · show (decide (b ∉ gx_fr (b + 1) n) && va_nd (gx_fr (b + 1) n)) = true
      rw [h1, Bool.and_true, decide_eq_true_eq]
      intro q
      have := h2 b q
      omega
    · rcases List.mem_cons.mp hi with e | e
      · omega
      · have := h2 i e; omega
theorem gx_pP {D : va_G} {cl : List vw_C} {ws ws' : va_W} {H : Heap} (hp : ws.Perm ws') (h : va_P D cl ws H) : va_P D cl ws' H := by
  intro k q hq
  obtain ⟨j, hj⟩ := List.mem_iff_getElem?.mp (hp.symm.subset (List.mem_of_getElem? hq))
  exact h j q hj
theorem gx_dN {A : Nat → Prop} {ws : va_W} : va_D A ws ↔ ws.Pairwise (fun a b => a.1 ≠ b.1) ∧ ∀ q ∈ ws, A q.1 := by
  constructor
  · rintro ⟨h1, h2⟩
    refine ⟨?_, fun q hq => ?_⟩
    · rw [List.pairwise_iff_getElem]
      intro i j hi hj hij e
      have := h1 i j _ _ (List.getElem?_eq_getElem hi) (List.getElem?_eq_getElem hj) e
      omega
    · obtain ⟨j, hj⟩ := List.mem_iff_getElem?.mp hq
      exact h2 j q hj
  · rintro ⟨h1, h2⟩
    refine ⟨fun i j p q hi hj e => ?_, fun k q hq => h2 q (List.mem_of_getElem? hq)⟩
    rw [List.pairwise_iff_getElem] at h1
    have key : ∀ a b : Nat, ∀ x y : Nat × va_E, ws[a]? = some x → ws[b]? = some y → x.1 = y.1 → a < b → False := by
      intro a b x y ha hb hxy hab
      obtain ⟨a1, a2⟩ := List.getElem?_eq_some_iff.mp ha
      obtain ⟨b1, b2⟩ := List.getElem?_eq_some_iff.mp hb
      exact h1 a b a1 b1 hab (by rw [a2, b2]; exact hxy)
    rcases Nat.lt_trichotomy i j with h | h | h
    · exact (key i j p q hi hj e h).elim
    · exact h
    · exact (key j i q p hj hi e.symm h).elim
theorem gx_pD {A : Nat → Prop} {ws ws' : va_W} (hp : ws.Perm ws') (h : va_D A ws) : va_D A ws' := by
  rw [gx_dN] at h ⊢
  exact ⟨(hp.pairwise_iff (fun h => Ne.symm h)).mp h.1, fun q hq => h.2 q (hp.symm.subset hq)⟩
theorem gx_map_0 : ∀ (V F : va_W), (gx_fr 0 V.length).map (fun i => (V ++ F)[i]?) = V.map some := by
  intro V F
  have key : ∀ (U V : va_W), (gx_fr U.length V.length).map (fun i => ((U ++ V) ++ F)[i]?) = V.map some := by
    intro U V
    induction V generalizing U with
    | nil => rfl
    | cons a t ih =>
      have := ih (U ++ [a])
      rw [List.length_append, List.length_singleton, show (U ++ [a]) ++ t = U ++ a :: t from by rw [List.append_assoc]; rfl] at this
      show (((U ++ a :: t) ++ F)[U.length]? :: (gx_fr (U.length + 1) t.length).map (fun i => ((U ++ a :: t) ++ F)[i]?)) = some a :: t.map some
      rw [this]
      congr 1
      rw [List.append_assoc, List.getElem?_append_right (Nat.le_refl _), Nat.sub_self]
      rfl
  exact key [] V
/-- two lists with the same cells, by the places -/
theorem gx_pm {α : Type} {A B : List α} (is : List Nat) (hn : is.Perm (List.range A.length)) (h : is.map (fun i => A[i]?) = B.map some) : A.Perm B := by
  have h1 : (List.range A.length).map (fun i => A[i]?) = A.map some := by
    apply List.ext_getElem?
    intro i
    rw [List.getElem?_map, List.getElem?_map]
    by_cases q : i < A.length
    · rw [List.getElem?_range q, List.getElem?_eq_getElem q]; simp [q]
    · rw [List.getElem?_eq_none (by simpa using q), List.getElem?_eq_none (by simpa using q)]; rfl
  have h2 : (B.map some).Perm (A.map some) := by rw [← h, ← h1]; exact hn.map _
  have h3 := h2.filterMap id
  rw [List.filterMap_map, List.filterMap_map] at h3
  have e : ∀ L : List α, L.filterMap (id ∘ some) = L := fun L => by
    induction L with
    | nil => rfl
    | cons a t ih => simp [List.filterMap_cons] at ih ⊢
  rw [e, e] at h3
  exact h3.symm
section GXL
variable {p : Program} {l : Launch} {e : Env} {R : Room} {s : State} {m : MethodId} {args : Array Value} {below : List Frame} {meth : Method} {c : Code} {H : Heap} {locs : List Loc} {cells slots : Nat} {Q : State → Prop}
variable {cc b2 : ByteArray} {nL n2 index : Nat} {own : String} {z : State} {D : va_G} {g : Nat → ClassId} {A : Nat → Prop} {ws wc wc' ws2 V : va_W} {pc fr lo b : Nat} {ls : Array Slot} {rest st0 : List Value} {y : MethodName} {As : List Value} {hh : List (Nat × Nat × Nat × Nat)}
theorem gx_he {a b : va_W} (h : a.map (fun q => q.1) = b.map (fun q => q.1)) : b.length = a.length := by
  have := congrArg List.length h
  rw [List.length_map, List.length_map] at this
  exact this.symm
theorem gx_LSi {r : Int32} (S : CallFix p m c cc nL s args gtbl own) (E : gx_E z D g s A) (hS : va_S A s.heap H locs) (hP : va_P D vwC ws H) (hD : va_D A ws) (hM : gx_MiW l z D g y b2 n2 hh fr lo As wc wc' r)
    (hcal : gx_calW y b2 n2 hh As.length) (hst : Cond.static y ∈ gtbl) (hlink : Cond.methodLink own index y ∈ gtbl) (hrm : (Nat.ble (fr + 1) R.frames && Nat.ble (8 + (n2 + 11) + lo) R.locals) = true) (hp : ws.Perm (V ++ wc)) (he : wc'.map (fun q => q.1) = wc.map (fun q => q.1))
    (hstack : st0 = As.reverse ++ rest) (hls : ls.size = nL) (hcat : Nat.ble ((rest.map fun v => v.category).sum) 8 = true) (hdg : decode cc pc = .ok (.invokestatic index, 3)) (hroom : cells + 1 ≤ R.cells ∧ slots + 6 ≤ R.slots)
    (hp2 : (V ++ wc').Perm ws2) (kk : ∀ (H1 : Heap) (locs1 : List Loc), va_S A s.heap H1 locs1 → va_P D vwC ws2 H1 → va_D A ws2 → W p l e R s m args below meth c H1 locs1 (cells + 1) (slots + 6) Q (F0 m (pc + 3) ls (.int r :: rest))) : W p l e R s m args below meth c H locs cells slots Q (F0 m pc ls st0) := by
  have hl := gx_he he
  refine gx_SiW (ws := V ++ wc) (ws2 := V ++ wc') S E hS (gx_pP hp hP) (gx_pD hp hD) hM hcal hst hlink hrm (gx_fr V.length wc.length) (gx_map_fr wc V) (gx_nd_fr _ _).1 he hstack hls hcat hdg hroom (by rw [hl]; exact gx_set_fr wc wc' V hl) (fun H1 locs1 a b c => kk H1 locs1 a (gx_pP hp2 b) (gx_pD hp2 c))
theorem gx_LVi {r : Int32} {ret : FieldType} {rm : Room} (S : CallFix p m c cc nL s args gtbl own) (E : gx_E z D g s A) (hS : va_S A s.heap H locs) (hP : va_P D vwC ws H) (hD : va_D A ws) (hM : gx_Mi l z D g y b2 n2 ret rm (.ref b :: As) wc wc' r)
    (hcal : gx_cal y b2 n2 (some ret) As.length) (hins : Cond.instanceMethod y ∈ gtbl) (hsel : Cond.selects y.cls y y ∈ gtbl) (hlink : Cond.methodLink own index y ∈ gtbl) (hrm : gx_rmb rm n2 R = true) (hp : ws.Perm (V ++ wc)) (he : wc'.map (fun q => q.1) = wc.map (fun q => q.1))
    (hrcv : ∃ cellB : Cell, H[b]? = some cellB ∧ cellB.vm.isStatics = false ∧ s.vm.findClass y.cls = some cellB.cls) (hstack : st0 = As.reverse ++ .ref b :: rest) (hls : ls.size = nL) (hcat : Nat.ble ((rest.map fun v => v.category).sum) 8 = true) (hdg : decode cc pc = .ok (.invokevirtual index, 3)) (hroom : cells ≤ R.cells ∧ slots ≤ R.slots)
    (hp2 : (V ++ wc').Perm ws2) (kk : gx_kk p l e R s m args below meth c cells slots Q D A ws2 (F0 m (pc + 3) ls (.int r :: rest))) : W p l e R s m args below meth c H locs cells slots Q (F0 m pc ls st0) := by
  have hl := gx_he he
  refine gx_Vi (ws := V ++ wc) (ws2 := V ++ wc') S E hS (gx_pP hp hP) (gx_pD hp hD) hM hcal hins hsel hlink hrm (gx_fr V.length wc.length) (gx_map_fr wc V) (gx_nd_fr _ _).1 he hrcv hstack hls hcat hdg hroom (by rw [hl]; exact gx_set_fr wc wc' V hl) (fun H1 locs1 a b c => kk H1 locs1 a (gx_pP hp2 b) (gx_pD hp2 c))
theorem gx_LVl {r : Int64} {ret : FieldType} {rm : Room} (S : CallFix p m c cc nL s args gtbl own) (E : gx_E z D g s A) (hS : va_S A s.heap H locs) (hP : va_P D vwC ws H) (hD : va_D A ws) (hM : gx_Ml l z D g y b2 n2 ret rm (.ref b :: As) wc wc' r)
    (hcal : gx_cal y b2 n2 (some ret) As.length) (hins : Cond.instanceMethod y ∈ gtbl) (hsel : Cond.selects y.cls y y ∈ gtbl) (hlink : Cond.methodLink own index y ∈ gtbl) (hrm : gx_rmb rm n2 R = true) (hp : ws.Perm (V ++ wc)) (he : wc'.map (fun q => q.1) = wc.map (fun q => q.1))
    (hrcv : ∃ cellB : Cell, H[b]? = some cellB ∧ cellB.vm.isStatics = false ∧ s.vm.findClass y.cls = some cellB.cls) (hstack : st0 = As.reverse ++ .ref b :: rest) (hls : ls.size = nL) (hcat : Nat.ble ((rest.map fun v => v.category).sum) 8 = true) (hdg : decode cc pc = .ok (.invokevirtual index, 3)) (hroom : cells ≤ R.cells ∧ slots ≤ R.slots)
    (hp2 : (V ++ wc').Perm ws2) (kk : gx_kk p l e R s m args below meth c cells slots Q D A ws2 (F0 m (pc + 3) ls (.long r :: rest))) : W p l e R s m args below meth c H locs cells slots Q (F0 m pc ls st0) := by
  have hl := gx_he he
  refine gx_Vl (ws := V ++ wc) (ws2 := V ++ wc') S E hS (gx_pP hp hP) (gx_pD hp hD) hM hcal hins hsel hlink hrm (gx_fr V.length wc.length) (gx_map_fr wc V) (gx_nd_fr _ _).1 he hrcv hstack hls hcat hdg hroom (by rw [hl]; exact gx_set_fr wc wc' V hl) (fun H1 locs1 a b c => kk H1 locs1 a (gx_pP hp2 b) (gx_pD hp2 c))
theorem gx_LVx {X : Type} {r : Int32} {k : Nat} {w' : X → va_W} {w2 : X → va_W} (S : CallFix p m c cc nL s args gtbl own) (E : gx_E z D g s A) (hS : va_S A s.heap H locs) (hP : va_P D vwC ws H) (hD : va_D A ws) (hM : gx_MxI l z D g y b2 n2 fr lo k (.ref b :: As) wc w' r)
    (hcal : gx_cal y b2 n2 (some .int) As.length) (hins : Cond.instanceMethod y ∈ gtbl) (hsel : Cond.selects y.cls y y ∈ gtbl) (hlink : Cond.methodLink own index y ∈ gtbl) (hrm : (Nat.ble (fr + 1) R.frames && Nat.ble (8 + (n2 + 11) + lo) R.locals) = true) (hroom : cells + k ≤ R.cells ∧ slots + 2 * k ≤ R.slots)
    (hp : ws.Perm (V ++ wc)) (hrcv : ∃ cellB : Cell, H[b]? = some cellB ∧ cellB.vm.isStatics = false ∧ s.vm.findClass y.cls = some cellB.cls) (hstack : st0 = As.reverse ++ .ref b :: rest) (hls : ls.size = nL) (hcat : Nat.ble ((rest.map fun v => v.category).sum) 8 = true) (hdg : decode cc pc = .ok (.invokevirtual index, 3))
    (hp2 : ∀ q, (V ++ w' q).Perm (w2 q)) (kk : ∀ (q : X) (H1 : Heap) (locs1 : List Loc), va_S A s.heap H1 locs1 → va_P D vwC (w2 q) H1 → va_D A (w2 q) → W p l e R s m args below meth c H1 locs1 (cells + k) (slots + 2 * k) Q (F0 m (pc + 3) ls (.int r :: rest))) :
    W p l e R s m args below meth c H locs cells slots Q (F0 m pc ls st0) := by
  rw [Bool.and_eq_true] at hrm
  have hP0 := gx_pP hp hP
  have hD0 := gx_pD hp hD
  have hC := gx_map_fr wc V
  have hFc := va_free (wc := wc) hD0 hS E.2.2.2 (gx_fr V.length wc.length) hC
  refine va_calli (va_runV (As := As) (rest := rest) (b := b) (C := y.cls) S (hM H.size) ⟨callB_of As.length S.2.2.2.2 (gx_goodC hcal.1) rfl rfl rfl (S.2.2.2.2 _ hcal.2.1) (S.2.2.2.2 _ hlink) hcal.2.2 ⟨Nat.le_of_ble_eq_true hrm.1, Nat.le_of_ble_eq_true hrm.2⟩, S.2.2.2.2 _ hins, S.2.2.2.2 _ hsel⟩ ⟨gx_blind, hrcv, gx_pre E hS hP0 hD0 (gx_fr V.length wc.length) hC (gx_nd_fr _ _).1⟩ rfl rfl hls hstack (gx_room hcat) hdg hroom) hS (fun q _ h => hFc q h) hFc (fun r' u t H1 locs1 ht hvm hpost hB hz hk hS1 => ?_)
  subst hpost
  obtain ⟨hP1, hD1⟩ := hB
  rw [ht] at hP1
  obtain ⟨hP2, hD2⟩ := va_join (wr := V) (w1 := w' u) hP0 hD0 (gx_fr V.length wc.length) (gx_fr 0 V.length) hC (gx_map_0 V wc) (gx_nd_fr _ _).1 (fun i hi hc => by
    have h1 := (gx_nd_fr V.length 0).2 i hi
    have h2 := (gx_nd_fr wc.length V.length).2 i hc
    omega) hk hFc hP1 hD1
  exact kk u H1 locs1 hS1 (gx_pP (hp2 u) hP2) (gx_pD (hp2 u) hD2)
end GXL
