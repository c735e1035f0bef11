/-! a whole family of texts goes along into a call -/
def gx_fr : Nat → Nat → List Nat
  | _, 0 => []
  | b, n + 1 => b :: gx_fr (b + 1) n
theorem gx_set_fr : ∀ (F F' V : va_W), F.length = F'.length → gx_set (V ++ F) (gx_fr V.length F'.length) F' = V ++ F'
  | [], [], V, _ => rfl
  | [], _ :: _, _, h => by simp at h
  | _ :: _, [], _, h => by simp at h
  | f :: F, q :: F', V, h => by
    show gx_set ((V ++ f :: F).set V.length q) (gx_fr (V.length + 1) F'.length) F' = _
    have e : (V ++ f :: F).set V.length q = (V ++ [q]) ++ F := by simp
    have h2 := gx_set_fr F F' (V ++ [q]) (by simpa using h)
    rw [e, show V.length + 1 = (V ++ [q]).length by simp, h2]
    simp
theorem gx_set_app {F F' : va_W} {js : List Nat} : ∀ (is : List Nat) (c W : va_W), is.length = c.length → (∀ i ∈ is, i < W.length) → gx_set (W ++ F) (is ++ js) (c ++ F') = gx_set (gx_set W is c ++ F) js F'
  | [], [], W, _, _ => rfl
  | [], _ :: _, _, h, _ => by simp at h
  | _ :: _, [], _, h, _ => by simp at h
  | i :: is, q :: c, W, h, hi => by
    show gx_set ((W ++ F).set i q) (is ++ js) (c ++ F') = gx_set (gx_set (W.set i q) is c ++ F) js F'
    rw [List.set_append_left _ _ (hi i List.mem_cons_self)]
    exact gx_set_app is c (W.set i q) (by simpa using h) (fun k hk => by rw [List.length_set]; exact hi k (List.mem_cons_of_mem _ hk))
theorem gx_set_len : ∀ (is : List Nat) (c W : va_W), (gx_set W is c).length = W.length
  | [], c, W => by cases c <;> rfl
  | i :: is, [], W => rfl
  | i :: is, q :: c, W => by
    show (gx_set (W.set i q) is c).length = _
    rw [gx_set_len is c, List.length_set]
theorem gx_fset {W c F F' : va_W} {is : List Nat} {b n : Nat} (hb : W.length = b) (hn : F.length = n) (hn' : F'.length = n) (hl : is.length = c.length) (hi : (is.all fun i => Nat.blt i b) = true) : gx_set (W ++ F) (is ++ gx_fr b n) (c ++ F') = gx_set W is c ++ F' := by
  rw [gx_set_app is c W hl (fun i h => by rw [hb]; exact Nat.le_of_ble_eq_true (List.all_eq_true.mp hi i h))]
  have h := gx_set_fr F F' (gx_set W is c) (by rw [hn, hn'])
  rw [gx_set_len, hb, hn'] at h
  exact h
theorem gx_map_fr : ∀ (F V : va_W), (gx_fr V.length F.length).map (fun i => (V ++ F)[i]?) = F.map some
  | [], V => rfl
  | f :: F, V => by
    show (V ++ f :: F)[V.length]? :: (gx_fr (V.length + 1) F.length).map (fun i => (V ++ f :: F)[i]?) = some f :: F.map some
    have e : V ++ f :: F = (V ++ [f]) ++ F := by simp
    have h := gx_map_fr F (V ++ [f])
    rw [List.length_append, List.length_singleton, ← e] at h
    rw [h, List.getElem?_append_right (Nat.le_refl _), Nat.sub_self]
    rfl
theorem gx_fmap {W c F : va_W} {is : List Nat} {b n : Nat} (hb : W.length = b) (hn : F.length = n) (hi : (is.all fun i => Nat.blt i b) = true) (h : is.map (fun i => W[i]?) = c.map some) : (is ++ gx_fr b n).map (fun i => (W ++ F)[i]?) = (c ++ F).map some := by
  rw [List.map_append, List.map_append, ← h]
  have h2 := gx_map_fr F W
  rw [hb, hn] at h2
  rw [h2]
  congr 1
  refine List.map_congr_left (fun i hm => ?_)
  exact List.getElem?_append_left (by rw [hb]; exact Nat.le_of_ble_eq_true (List.all_eq_true.mp hi i hm))
theorem gx_fsetE {W W' c F F' : va_W} {is : List Nat} {b n : Nat} (hb : W.length = b) (hn : F.length = n) (hn' : F'.length = n) (hl : is.length = c.length) (hi : (is.all fun i => Nat.blt i b) = true) (h : gx_set W is c = W') : gx_set (W ++ F) (is ++ gx_fr b n) (c ++ F') = W' ++ F' := by
  rw [gx_fset hb hn hn' hl hi, h]
/-- what stands in a world behind a call, place by place -/
theorem gx_setL {ws wc' ws2 : va_W} {isC : List Nat} (isR : List Nat) {n : Nat} (hl : ws.length = n) (hl2 : ws2.length = n) (hn : va_nd isC = true) (hlen : isC.length = wc'.length) (ha : isC.map (fun i => ws2[i]?) = wc'.map some) (hb : isR.map (fun i => ws2[i]?) = isR.map (fun i => ws[i]?)) (hcov : ((List.range n).all fun i => isC.contains i || isR.contains i) = true) : gx_set ws isC wc' = ws2 := by
  refine List.ext_getElem? (fun k => ?_)
  by_cases hk : k < n
  · obtain ⟨q, hq⟩ : ∃ q, (gx_set ws isC wc')[k]? = some q := ⟨_, List.getElem?_eq_getElem (by rw [gx_set_len, hl]; exact hk)⟩
    rw [hq]
    rcases gx_set_get isC wc' ws hn hlen k q hq with ⟨j, h1, h2⟩ | ⟨h1, h2⟩
    · have h3 : (isC.map (fun i => ws2[i]?))[j]? = (wc'.map some)[j]? := by rw [ha]
      rw [List.getElem?_map, List.getElem?_map, h1, h2] at h3
      exact (Option.some.inj h3).symm
    · have h3 := List.all_eq_true.mp hcov k (List.mem_range.mpr hk)
      have h4 : k ∈ isR := by
        simp only [Bool.or_eq_true, List.contains_iff_mem] at h3
        rcases h3 with h3 | h3
        · exact absurd h3 h1
        · exact h3
      obtain ⟨j, hj⟩ := List.getElem?_of_mem h4
      have h5 : (isR.map (fun i => ws2[i]?))[j]? = (isR.map (fun i => ws[i]?))[j]? := by rw [hb]
      rw [List.getElem?_map, List.getElem?_map, hj] at h5
      have h6 : ws2[k]? = ws[k]? := Option.some.inj h5
      rw [h6, h2]
  · rw [List.getElem?_eq_none (by rw [gx_set_len, hl]; omega), List.getElem?_eq_none (by rw [hl2]; omega)]
theorem gx_setF {W W' c F : va_W} {is : List Nat} {b : Nat} (hb : W.length = b) (hl : is.length = c.length) (hi : (is.all fun i => Nat.blt i b) = true) (h : gx_set W is c = W') : gx_set (W ++ F) is c = W' ++ F := by
  have h1 := gx_set_app (F := F) (F' := []) (js := []) is c W hl (fun i h => by rw [hb]; exact Nat.le_of_ble_eq_true (List.all_eq_true.mp hi i h))
  rw [List.append_nil, List.append_nil] at h1
  rw [h1, h]
  rfl
