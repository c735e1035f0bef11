section GXT
variable {p : Program} {l : Launch} {e : Env} {R : Room} {s : State} {m : MethodId} {args : Array Value} {below : List Frame} {meth : Method} {c : Code} {T : State} {locs : List Loc} {cells slots : Nat}
/-- a walk looked at from where it stands now: as if the method had begun with this heap -/
theorem gx_rebase (X : Stand p l e R s m args below meth c T locs cells slots) (hc : cells ≤ R.cells) (hs : slots ≤ R.slots) :
    Stand p l e ({ frames := R.frames, cells := R.cells - cells, slots := R.slots - slots, locals := R.locals } : Room) (T.setFrames (.invoking m args :: below)) m args below meth c T [] 0 0 := by
  obtain ⟨g₀, hg⟩ := Option.isSome_iff_exists.mp X.here.top
  obtain ⟨tl, htl⟩ := State.topJava?_eq_some.mp hg
  have hcur : T.cur < T.threads.size := State.cur_lt_of_frames htl
  have hm' := X.method'
  have hfr : (T.setFrames (.invoking m args :: below)).frames = .invoking m args :: below := State.frames_setFrames _ hcur
  have ht : T.threads[T.cur]? = some T.threads[T.cur] := Array.getElem?_eq_getElem hcur
  refine ⟨X.admits, X.cas, X.clock, hfr, ?_, ?_, hm', X.code, X.here, X.tail, State.WarmedH.refl (T.setFrames (.invoking m args :: below)), (State.stackLimits_setFrames _ _ _).symm, ?_, ?_⟩
  · have h := X.room
    have hl1 := State.localsInUse_invoking X.frames X.method X.code
    have hl2 := State.localsInUse_invoking (s := T.setFrames (.invoking m args :: below)) hfr hm' X.code
    have hb : (T.setFrames (.invoking m args :: below)).slotsTrue = true := X.book
    have hz := X.heapSize
    have hu := X.used
    have hlim : e.platform.stackLimits (T.setFrames (.invoking m args :: below)).me = e.platform.stackLimits s.me := (State.stackLimits_setFrames _ _ _).trans X.limits
    have hby : (T.setFrames (.invoking m args :: below)).me.stackBytes = s.me.stackBytes := by
      rw [← X.bytes]
      unfold State.me State.setFrames
      simp only [Array.getElem?_modify]
      cases T.threads[T.cur]? <;> simp
    simp only [State.hasRoom, Bool.and_eq_true, decide_eq_true_eq] at h ⊢
    rw [hfr, hl2, hlim, hby]
    rw [X.frames, hl1] at h
    refine ⟨⟨⟨⟨h.1.1.1.1, h.1.1.1.2⟩, ?_⟩, ?_⟩, hb⟩
    · have := h.1.1.2
      show T.heap.size + (R.cells - cells) ≤ _
      omega
    · have := h.1.2
      show T.slotsUsed + (R.slots - slots) ≤ _
      omega
  · have h := X.hears
    have e2 : ∀ fs, (T.setFrames fs).vm.method? m = s.vm.method? m := fun fs => by show T.vm.method? m = _; rw [hm', X.method]
    unfold State.hears at h ⊢
    cases below with
    | nil => show Option.any _ ((T.setFrames _).vm.method? m) = true; rw [e2]; exact h
    | cons f fs =>
      cases f with
      | java gg =>
        have e1 : (T.setFrames (.invoking m args :: Frame.java gg :: fs)).code? gg.method = s.code? gg.method := by
          rw [State.code?_eq, State.code?_eq]
          show (T.vm.method? gg.method).bind _ = _
          rw [X.warmed.alike.method?]
        simp only [e1]
        exact h
      | _ => first | exact h | (show Option.any _ ((T.setFrames _).vm.method? m) = true; rw [e2]; exact h)
  · unfold State.me State.setFrames
    simp only [Array.getElem?_modify]
    cases T.threads[T.cur]? <;> simp
  · refine ⟨?_, Nat.le_refl _, Nat.le_refl _, ?_, ?_, fun a c h => ⟨c, h, rfl, rfl, fun i _ => rfl⟩⟩
    · show T = ({ (T.setFrames (.invoking m args :: below)).setFrames T.frames with heap := T.heap, slotsUsed := T.slotsUsed } : State)
      rw [State.setFrames_setFrames, State.setFrames_self ht]
    · show T.slotsUsed = T.slotsUsed + ((T.heap.toList.drop T.heap.size).map (·.slots.size)).sum
      rw [List.drop_of_length_le (by simp)]; simp
    · show ((T.heap.toList.drop T.heap.size).map (·.slots.size)).sum ≤ 0
      rw [List.drop_of_length_le (by simp)]; simp
end GXT
