/-! the words that stay good over every call, and my own forms of contract and call -/
def gtbl : List Cond := lw_tbl.filter (fun w => goodWord w)
theorem gx_w {w : Cond} (h : w ∈ tables_1) (hg : goodWord w = true) : w ∈ gtbl := List.mem_filter.mpr ⟨List.mem_append_right _ h, hg⟩
theorem gx_ws {w : Cond} (h : w ∈ k2_sels lw_privs) (hg : goodWord w = true) : w ∈ gtbl := List.mem_filter.mpr ⟨List.mem_append_left _ h, hg⟩
theorem gx_good : GoodIn gtbl gtbl := fun w h => ⟨h, good_of_word (List.mem_filter.mp h).2⟩
theorem gx_goodC {w : Cond} (h : w ∈ gtbl) : GoodIn gtbl (w :: gtbl) := fun v hv => (List.mem_cons.mp hv).elim (fun e => by rw [e]; exact gx_good _ h) (fun h => gx_good _ h)
theorem gx_ifp {α : Type} {c : Prop} {h0 : Decidable c} {a b r : α} (h : c) (e : (@ite α c h0 a b) = r) : a = r := by rw [if_pos h] at e; exact e
theorem gx_ifn {α : Type} {c : Prop} {h0 : Decidable c} {a b r : α} (h : ¬ c) (e : (@ite α c h0 a b) = r) : b = r := by rw [if_neg h] at e; exact e
theorem gx_chk {α : Type} {c : Prop} {h0 : Decidable c} {a : Option α} {r : α} (e : (@ite (Option α) c h0 a none) = some r) : c ∧ a = some r := by
  by_cases h : c
  · rw [if_pos h] at e; exact ⟨h, e⟩
  · rw [if_neg h] at e; cases e
theorem gx_bnd {α β : Type} {o : Option α} {k : α → Option β} {r : β} (h : o.bind k = some r) : ∃ u, o = some u ∧ k u = some r := by
  cases o with
  | none => cases h
  | some u => exact ⟨u, rfl, h⟩
def gx_ok (i : Int32) (n : Nat) : Bool := decide (¬ (i < 0 ∨ n ≤ i.toNatClampNeg))
theorem gx_okv {i : Int32} {n : Nat} (h : gx_ok i n = true) : vp_in i n := (of_decide_eq_true h : ¬ (i < 0 ∨ n ≤ i.toNatClampNeg))
/-- the fuel that a call is given: far above what any run needs -/
def gx_fu : Nat := 100000000
theorem gx_fu_irr : gx_fu = 100000000 := rfl
def gx_set : va_W → List Nat → va_W → va_W
  | ws, i :: is, q :: qs => gx_set (ws.set i q) is qs
  | ws, _, _ => ws
theorem gx_set_get : ∀ (is : List Nat) (w1 ws : va_W), va_nd is = true → is.length = w1.length → ∀ (k : Nat) (q : Nat × va_E), (gx_set ws is w1)[k]? = some q → (∃ j : Nat, is[j]? = some k ∧ w1[j]? = some q) ∨ (k ∉ is ∧ ws[k]? = some q)
  | [], _, ws, _, _, k, q, h => Or.inr ⟨List.not_mem_nil, by simpa [gx_set] using h⟩
  | i :: is, [], _, _, hl, _, _, _ => by simp at hl
  | i :: is, q0 :: qs, ws, hn, hl, k, q, h => by
    simp only [va_nd, Bool.and_eq_true, decide_eq_true_eq] at hn
    have h : (gx_set (ws.set i q0) is qs)[k]? = some q := h
    rcases gx_set_get is qs (ws.set i q0) hn.2 (by simpa using hl) k q h with ⟨j, h1, h2⟩ | ⟨h1, h2⟩
    · exact Or.inl ⟨j + 1, by simpa using h1, by simpa using h2⟩
    · by_cases hk : k = i
      · subst hk
        by_cases hlt : k < ws.length
        · rw [List.getElem?_set_self hlt] at h2
          exact Or.inl ⟨0, rfl, h2⟩
        · rw [List.getElem?_eq_none (by simpa using Nat.le_of_not_lt hlt)] at h2
          cases h2
      · rw [List.getElem?_set_ne (Ne.symm hk)] at h2
        exact Or.inr ⟨by simp [hk, h1], h2⟩
theorem gx_fst {l1 l2 : va_W} (h : l1.map (fun q => q.1) = l2.map (fun q => q.1)) {j : Nat} {q : Nat × va_E} (hq : l1[j]? = some q) : ∃ q2, l2[j]? = some q2 ∧ q2.1 = q.1 := by
  have h1 : (l1.map (fun q => q.1))[j]? = some q.1 := by rw [List.getElem?_map, hq]; rfl
  rw [h, List.getElem?_map] at h1
  cases h2 : l2[j]? with
  | none => rw [h2] at h1; cases h1
  | some q2 => rw [h2] at h1; exact ⟨q2, rfl, Option.some.inj h1⟩
theorem gx_back {A0 : Nat → Prop} {D : va_G} {cl : List vw_C} {ws wc w1 : va_W} {H H1 : Heap} (hP : va_P D cl ws H) (hD : va_D A0 ws) (isC : List Nat) (hC : isC.map (fun i => ws[i]?) = wc.map some) (hn : va_nd isC = true) (he : w1.map (fun q => q.1) = wc.map (fun q => q.1))
    (hk : ∀ q : Nat, q < H.size → ¬ va_A wc H.size q → H1[q]? = H[q]?) (hP1 : va_P D cl w1 H1) : va_P D cl (gx_set ws isC w1) H1 ∧ va_D A0 (gx_set ws isC w1) := by
  have hlc : isC.length = wc.length := by have := congrArg List.length hC; simpa using this
  have hl1 : isC.length = w1.length := by have := congrArg List.length he; simp at this; omega
  have at' : ∀ (j : Nat) (q : Nat × va_E), wc[j]? = some q → ∃ i : Nat, isC[j]? = some i ∧ ws[i]? = some q := by
    intro j q hq
    have h1 : (isC.map (fun i => ws[i]?))[j]? = some (some q) := by rw [hC, List.getElem?_map, hq]; rfl
    rw [List.getElem?_map] at h1
    cases hi : isC[j]? with
    | none => rw [hi] at h1; cases h1
    | some i => rw [hi] at h1; exact ⟨i, rfl, Option.some.inj h1⟩
  have key : ∀ (k : Nat) (q : Nat × va_E), (gx_set ws isC w1)[k]? = some q → (∃ j : Nat, w1[j]? = some q ∧ isC[j]? = some k ∧ ∃ q0, ws[k]? = some q0 ∧ q0.1 = q.1) ∨ (k ∉ isC ∧ ws[k]? = some q) := by
    intro k q h
    rcases gx_set_get isC w1 ws hn hl1 k q h with ⟨j, h1, h2⟩ | h1
    · obtain ⟨q2, h3, h4⟩ := gx_fst he h2
      obtain ⟨i, h5, h6⟩ := at' j q2 h3
      cases h1.symm.trans h5
      exact Or.inl ⟨j, h2, h1, q2, h6, h4⟩
    · exact Or.inr h1
  refine ⟨fun k q h => ?_, fun i j x y hi hj hxy => ?_, fun k q h => ?_⟩
  · rcases key k q h with ⟨j, h1, -⟩ | ⟨h1, h2⟩
    · exact hP1 j q h1
    · refine (hP k q h2).kept (hk q.1 (hP k q h2).lt (fun z => ?_))
      rcases z with ⟨k2, e, z⟩ | z
      · obtain ⟨i, h3, h4⟩ := at' k2 (q.1, e) z
        cases hD.1 k i q (q.1, e) h2 h4 rfl
        exact h1 (List.mem_of_getElem? h3)
      · exact absurd (hP k q h2).lt (Nat.not_lt.mpr z)
  · have hx : ∃ x0, ws[i]? = some x0 ∧ x0.1 = x.1 := by
      rcases key i x hi with ⟨-, -, -, h⟩ | ⟨-, h⟩
      · exact h
      · exact ⟨x, h, rfl⟩
    have hy : ∃ y0, ws[j]? = some y0 ∧ y0.1 = y.1 := by
      rcases key j y hj with ⟨-, -, -, h⟩ | ⟨-, h⟩
      · exact h
      · exact ⟨y, h, rfl⟩
    obtain ⟨x0, a1, a2⟩ := hx
    obtain ⟨y0, b1, b2⟩ := hy
    exact hD.1 i j x0 y0 a1 b1 (a2.trans (hxy.trans b2.symm))
  · rcases key k q h with ⟨-, -, -, q0, h1, h2⟩ | ⟨-, h1⟩
    · rw [← h2]; exact hD.2 k q0 h1
    · exact hD.2 k q h1
