/-! a whole family of texts goes along into a call -/
def gx_fr : Nat → Nat → List Nat
  | _, 0 => []
  | b, n + 1 => b :: gx_fr (b + 1) n
theorem gx_set_fr : ∀ (F F' V : va_W), F.length = F'.length → gx_set (V ++ F) (gx_fr V.length F'.length) F' = V ++ F'
  | [], [], V, _ => rfl
  | [], _ :: _, _, h => by simp at h
  | _ :: _, [], _, h => by simp at h
  | f :: F, q :: F', V, h => by
    show gx_set ((V ++ f :: F).set V.length q) (gx_fr (V.length + 1) F'.length) F' = _
    have e : (V ++ f :: F).set V.length q = (V ++ [q]) ++ F := by simp
    have h2 := gx_set_fr F F' (V ++ [q]) (by simpa using h)
    rw [e, show V.length + 1 = (V ++ [q]).length by simp, h2]
    simp
theorem gx_set_app {F F' : va_W} {js : List Nat} : ∀ (is : List Nat) (c W : va_W), is.length = c.length → (∀ i ∈ is, i < W.length) → gx_set (W ++ F) (is ++ js) (c ++ F') = gx_set (gx_set W is c ++ F) js F'
  | [], [], W, _, _ => rfl
  | [], _ :: _, _, h, _ => by simp at h
  | _ :: _, [], _, h, _ => by simp at h
  | i :: is, q :: c, W, h, hi => by
    show gx_set ((W ++ F).set i q) (is ++ js) (c ++ F') = gx_set (gx_set (W.set i q) is c ++ F) js F'
    rw [List.set_append_left _ _ (hi i List.mem_cons_self)]
    exact gx_set_app is c (W.set i q) (by simpa using h) (fun k hk => by rw [List.length_set]; exact hi k (List.mem_cons_of_mem _ hk))
theorem gx_set_len : ∀ (is : List Nat) (c W : va_W), (gx_set W is c).length = W.length
  | [], c, W => by cases c <;> rfl
  | i :: is, [], W => rfl
  | i :: is, q :: c, W => by
    show (gx_set (W.set i q) is c).length = _
    rw [gx_set_len is c, List.length_set]
theorem gx_fset {W c F F' : va_W} {is : List Nat} {b n : Nat} (hb : W.length = b) (hn : F.length = n) (hn' : F'.length = n) (hl : is.length = c.length) (hi : (is.all fun i => Nat.blt i b) = true) : gx_set (W ++ F) (is ++ gx_fr b n) (c ++ F') = gx_set W is c ++ F' := by
  rw [gx_set_app is c W hl (fun i h => by rw [hb]; exact Nat.le_of_ble_eq_true (List.all_eq_true.mp hi i h))]
  have h := gx_set_fr F F' (gx_set W is c) (by rw [hn, hn'])
  rw [gx_set_len, hb, hn'] at h
  exact h
theorem gx_map_fr : ∀ (F V : va_W), (gx_fr V.length F.length).map (fun i => (V ++ F)[i]?) = F.map some
  | [], V => rfl
  | f :: F, V => by
    show (V ++ f :: F)[V.length]? :: (gx_fr (V.length + 1) F.length).map (fun i => (V ++ f :: F)[i]?) = some f :: F.map some
    have e : V ++ f :: F = (V ++ [f]) ++ F := by simp
    have h := gx_map_fr F (V ++ [f])
    rw [List.length_append, List.length_singleton, ← e] at h
    rw [h, List.getElem?_append_right (Nat.le_refl _), Nat.sub_self]
    rfl
theorem gx_fmap {W c F : va_W} {is : List Nat} {b n : Nat} (hb : W.length = b) (hn : F.length = n) (hi : (is.all fun i => Nat.blt i b) = true) (h : is.map (fun i => W[i]?) = c.map some) : (is ++ gx_fr b n).map (fun i => (W ++ F)[i]?) = (c ++ F).map some := by
  rw [List.map_append, List.map_append, ← h]
  have h2 := gx_map_fr F W
  rw [hb, hn] at h2
  rw [h2]
  congr 1
  refine List.map_congr_left (fun i hm => ?_)
  exact List.getElem?_append_left (by rw [hb]; exact Nat.le_of_ble_eq_true (List.all_eq_true.mp hi i hm))
