theorem gx_apr {ex fam : va_W} {b m : Nat} {q : Nat × va_E} (hb : ex.length = b) (h : fam[m]? = some q) : (ex ++ fam)[b + m]? = some q := by
  rw [List.getElem?_append_right (by omega), show b + m - ex.length = m by omega]; exact h
theorem gx_tx_get {g : Nat → ClassId} {ta ra : Nat → Nat} {tl tv : Nat → Int32} {tc : Nat → Nat → Int32} {n : Nat} (hn : n < 16) : (gx_tx g ta ra tl tv tc)[2 * n]? = some (ta n, .inr (3, [.ref (ra n), .int (tl n), .int (tv n)])) ∧ (gx_tx g ta ra tl tv tc)[2 * n + 1]? = some (ra n, .inl (g 1, 200, .inl (tc n))) := by
  rcases gx_lt16 hn with rfl | rfl | rfl | rfl | rfl | rfl | rfl | rfl | rfl | rfl | rfl | rfl | rfl | rfl | rfl | rfl <;> exact ⟨rfl, rfl⟩
theorem gx_tx_set {g : Nat → ClassId} {ta ra : Nat → Nat} {tl tv : Nat → Int32} {tc : Nat → Nat → Int32} {n : Nat} (hn : n < 16) (x y : Int32) (zf : Nat → Int32) : ((gx_tx g ta ra tl tv tc).set (2 * n) (ta n, .inr (3, [.ref (ra n), .int x, .int y]))).set (2 * n + 1) (ra n, .inl (g 1, 200, .inl zf)) = gx_tx g ta ra (va_up tl n x) (va_up tv n y) (va_up tc n zf) := by
  rcases gx_lt16 hn with rfl | rfl | rfl | rfl | rfl | rfl | rfl | rfl | rfl | rfl | rfl | rfl | rfl | rfl | rfl | rfl <;> rfl
theorem gx_up_same {α : Type} (f : Nat → α) (k : Nat) : va_up f k (f k) = f := by
  funext j
  by_cases h : j = k
  · rw [h, va_up_self]
  · rw [va_up_ne _ _ h]
theorem gx_tx_keep {g : Nat → ClassId} {ta ra : Nat → Nat} {tl tv : Nat → Int32} {tc : Nat → Nat → Int32} {n : Nat} (hn : n < 16) : ((gx_tx g ta ra tl tv tc).set (2 * n) (ta n, .inr (3, [.ref (ra n), .int (tl n), .int (tv n)]))).set (2 * n + 1) (ra n, .inl (g 1, 200, .inl (tc n))) = gx_tx g ta ra tl tv tc := by
  rw [gx_tx_set hn, gx_up_same, gx_up_same, gx_up_same]
theorem gx_mt_get {g : Nat → ClassId} {ta : Nat → Nat} {tc : Nat → Nat → Int32} {n : Nat} (hn : n < 16) : (gx_mt g ta tc)[n]? = some (ta n, .inl (g 1, 200, .inl (tc n))) := by
  rcases gx_lt16 hn with rfl | rfl | rfl | rfl | rfl | rfl | rfl | rfl | rfl | rfl | rfl | rfl | rfl | rfl | rfl | rfl <;> rfl
theorem gx_mt_set {g : Nat → ClassId} {ta : Nat → Nat} {tc : Nat → Nat → Int32} {n : Nat} (hn : n < 16) (zf : Nat → Int32) : (gx_mt g ta tc).set n (ta n, .inl (g 1, 200, .inl zf)) = gx_mt g ta (va_up tc n zf) := by
  rcases gx_lt16 hn with rfl | rfl | rfl | rfl | rfl | rfl | rfl | rfl | rfl | rfl | rfl | rfl | rfl | rfl | rfl | rfl <;> rfl
theorem gx_map4 {ws : va_W} {i0 i1 i2 i3 : Nat} {q0 q1 q2 q3 : Nat × va_E} (h0 : ws[i0]? = some q0) (h1 : ws[i1]? = some q1) (h2 : ws[i2]? = some q2) (h3 : ws[i3]? = some q3) : [i0, i1, i2, i3].map (fun i => ws[i]?) = [q0, q1, q2, q3].map some := by simp [h0, h1, h2, h3]
theorem gx_nd4 {a b c d : Nat} (h1 : a ≠ b) (h2 : a ≠ c) (h3 : a ≠ d) (h4 : b ≠ c) (h5 : b ≠ d) (h6 : c ≠ d) : va_nd [a, b, c, d] = true := by simp [va_nd, h1, h2, h3, h4, h5, h6]
theorem gx_sr {ex fam : va_W} {b m : Nat} {q : Nat × va_E} (hb : ex.length = b) : (ex ++ fam).set (b + m) q = ex ++ fam.set m q := by
  rw [List.set_append_right _ _ (by omega), show b + m - ex.length = m by omega]
theorem gx_sl {ex fam : va_W} {i : Nat} {q : Nat × va_E} (h : i < ex.length) : (ex ++ fam).set i q = ex.set i q ++ fam := List.set_append_left _ _ h
/-- a chosen text stands first and third among the callee's cells -/
theorem gx_fs02 {ex fam : va_W} {b i1 i3 m0 m2 : Nat} {c0 c1 c2 c3 : Nat × va_E} (hb : ex.length = b) (h1 : i1 < b) (h3 : i3 < b) : gx_set (ex ++ fam) [b + m0, i1, b + m2, i3] [c0, c1, c2, c3] = (ex.set i1 c1).set i3 c3 ++ (fam.set m0 c0).set m2 c2 := by
  show ((((ex ++ fam).set (b + m0) c0).set i1 c1).set (b + m2) c2).set i3 c3 = _
  rw [gx_sr hb, gx_sl (by omega), gx_sr (by rw [List.length_set]; exact hb), gx_sl (by rw [List.length_set]; omega)]
/-- a chosen text stands second and fourth -/
theorem gx_fs13 {ex fam : va_W} {b i0 i2 m1 m3 : Nat} {c0 c1 c2 c3 : Nat × va_E} (hb : ex.length = b) (h0 : i0 < b) (h2 : i2 < b) : gx_set (ex ++ fam) [i0, b + m1, i2, b + m3] [c0, c1, c2, c3] = (ex.set i0 c0).set i2 c2 ++ (fam.set m1 c1).set m3 c3 := by
  show ((((ex ++ fam).set i0 c0).set (b + m1) c1).set i2 c2).set (b + m3) c3 = _
  rw [gx_sl (by omega), gx_sr (by rw [List.length_set]; exact hb), gx_sl (by rw [List.length_set]; omega), gx_sr (by rw [List.length_set, List.length_set]; exact hb)]
theorem gx_app {a a' b b' : va_W} (h1 : a = a') (h2 : b = b') : a ++ b = a' ++ b' := by rw [h1, h2]
