-- C
set_option maxRecDepth 10000 in
theorem bm8 (a : Int) : -128 ≤ a.bmod 256 ∧ a.bmod 256 < 128 ∧ (a.bmod 256 - a) % 256 = 0 := by
  have h1 := Int.le_bmod (x := a) (m := 256) (by decide)
  have h2 := Int.bmod_lt (x := a) (m := 256) (by decide)
  have h3 := Int.bmod_emod (x := a) (m := 256)
  omega
set_option maxRecDepth 10000 in
theorem bm8_u {a b : Int} (h1 : -128 ≤ b) (h2 : b < 128) (h3 : (b - a) % 256 = 0) : a.bmod 256 = b := by
  have := bm8 a
  omega
set_option maxRecDepth 10000 in
def sb (x : Int32) : Int32 := x.toInt8.toInt32
set_option maxRecDepth 10000 in
theorem sb_i (a : Int) : sb (iI a) = iI (a.bmod 256) := iI_i8
set_option maxRecDepth 10000 in
theorem sb_ex (x : Int32) : ∃ a : Int, -128 ≤ a ∧ a < 128 ∧ sb x = iI a := by
  obtain ⟨a, _, _, rfl⟩ := iI_ex x
  have := bm8 a
  exact ⟨_, this.1, this.2.1, sb_i a⟩
set_option maxRecDepth 10000 in
theorem sb_small {a : Int} (h1 : -128 ≤ a) (h2 : a < 128) : sb (iI a) = iI a := by rw [sb_i, bm8_u h1 h2 (by omega)]
set_option maxRecDepth 10000 in
theorem sb_sb (x : Int32) : sb (sb x) = sb x := by
  obtain ⟨a, h1, h2, e⟩ := sb_ex x
  rw [e, sb_small h1 h2]
set_option maxRecDepth 10000 in
theorem sb_of {x : Int32} (h : sb x = x) : ∃ a : Int, -128 ≤ a ∧ a < 128 ∧ x = iI a := by
  obtain ⟨a, h1, h2, e⟩ := sb_ex x
  exact ⟨a, h1, h2, by rw [← h, e]⟩
set_option maxRecDepth 10000 in
theorem nar_b (x : Int32) : vp_nar .byte x.toInt8.toInt32 = sb x := by
  show (x.toInt8.toInt32).toInt8.toInt32 = _
  exact sb_sb x
set_option maxRecDepth 10000 in
theorem nar_bs (x : Int32) : vp_nar .byte x = sb x := rfl
set_option maxRecDepth 10000 in
theorem fits_b {x : Int32} (h : sb x = x) : fits .byte (.int x) = true := by
  obtain ⟨a, h1, h2, rfl⟩ := sb_of h
  show (decide (-128 ≤ iI a) && decide (iI a ≤ 127)) = true
  simp (disch := omega) only [iI_lit, iL_lit, iI_add, iI_sub, iI_mul, iI_neg, iL_add, iL_sub, iL_mul, iL_neg, iI_lt, iI_le, iI_eq, iL_lt, iL_le, iL_eqS, iI_c, iI_ok, iI_l, iL_i, iI_low, l_ushrI, l_shlI, l_shrI, i_shlI, i_shrI, i_ushrI, iI_div, iL_div, Int.toNat_natCast, Int.reduceToNat, iI_ofNat]
  simp
  omega
set_option maxRecDepth 10000 in
def ub (x : Int32) : Int := u3 x % 256
set_option maxRecDepth 10000 in
theorem ub_0 (x : Int32) : 0 ≤ ub x := by unfold ub; omega
set_option maxRecDepth 10000 in
theorem ub_l (x : Int32) : ub x < 256 := by unfold ub; omega
set_option maxRecDepth 10000 in
theorem and255 (x : Int32) : x &&& iI 255 = iI (ub x) := by
  rw [← i_u3 (x &&& iI 255), u3_and, u3_i (by decide) (by decide), show (255 : Int).toNat = 2 ^ 8 - 1 from rfl, Nat.and_two_pow_sub_one_eq_mod]
  congr 1
set_option maxRecDepth 10000 in
theorem ub_i (a : Int) : ub (iI a) = a % 256 := by unfold ub; rw [u3_m]; omega
set_option maxRecDepth 10000 in
theorem ub_sb (a : Int) : ub (sb (iI a)) = a % 256 := by rw [sb_i, ub_i]; have := bm8 a; omega
set_option maxRecDepth 10000 in
theorem ub_inj {x y : Int32} (hx : sb x = x) (hy : sb y = y) (h : ub x = ub y) : x = y := by
  obtain ⟨a, h1, h2, rfl⟩ := sb_of hx
  obtain ⟨b, h3, h4, rfl⟩ := sb_of hy
  rw [ub_i, ub_i] at h
  congr 1
  omega
set_option maxRecDepth 10000 in
def BY (n : Nat) (len over : Int32) (c : Nat → Int32) (E : List Int32) : Prop :=
  len = iI ((min E.length n : Nat) : Int) ∧ over = iI (if n < E.length then 1 else 0) ∧ (∀ i x, E[i]? = some x → i < n → c i = x) ∧ ∀ x ∈ E, sb x = x
set_option maxRecDepth 10000 in
theorem BY_nil (n : Nat) (c : Nat → Int32) : BY n (iI 0) (iI 0) c [] := by
  refine ⟨?_, ?_, ?_, ?_⟩
  · simp
  · simp
  · simp
  · simp
set_option maxRecDepth 10000 in
theorem abs_spec {a : Int} (h : -2147483648 < a) (h' : a < 2147483648) : f_JMath_abs (iI a) = some (iI a.natAbs) := by
  unfold f_JMath_abs
  simp (disch := omega) only [iI_lit, iL_lit, iI_add, iI_sub, iI_mul, iI_neg, iL_add, iL_sub, iL_mul, iL_neg, iI_lt, iI_le, iI_eq, iL_lt, iL_le, iL_eqS, iI_c, iI_ok, iI_l, iL_i, iI_low, l_ushrI, l_shlI, l_shrI, i_shlI, i_shrI, i_ushrI, iI_div, iL_div, Int.toNat_natCast, Int.reduceToNat, iI_ofNat]
  by_cases q : 0 ≤ a
  · rw [if_pos q]; congr 2; omega
  · rw [if_neg q]; congr 2; omega
set_option maxRecDepth 10000 in
theorem keep_spec {n : Nat} (hn : n < 2147483648) {len over : Int32} {c : Nat → Int32} {E : List Int32} (h : BY n len over c E) {m : Int} (hm : -2147483648 ≤ m) (hm' : m < 2147483648) :
    ∃ len' over', f_By_keep (iI m) len over = some (len', over') ∧ BY n len' over' c ((E.take n).take m.toNat) := by
  obtain ⟨rfl, rfl, h3, h4⟩ := h
  unfold f_By_keep
  simp (disch := omega) only [iI_lit, iL_lit, iI_add, iI_sub, iI_mul, iI_neg, iL_add, iL_sub, iL_mul, iL_neg, iI_lt, iI_le, iI_eq, iL_lt, iL_le, iL_eqS, iI_c, iI_ok, iI_l, iL_i, iI_low, l_ushrI, l_shlI, l_shrI, i_shlI, i_shrI, i_ushrI, iI_div, iL_div, Int.toNat_natCast, Int.reduceToNat, iI_ofNat]
  rw [max_spec hm hm' (by omega) (by omega), Option.bind_some, min_spec (by omega) (by omega) (by omega) (by omega), Option.bind_some]
  refine ⟨_, _, rfl, ?_, ?_, ?_, ?_⟩
  · congr 1
    simp only [List.length_take]
    omega
  · rw [if_neg (by simp only [List.length_take]; omega)]
  · intro i x hi hin
    refine h3 i x ?_ hin
    rw [List.getElem?_take] at hi
    split at hi
    · rw [List.getElem?_take_of_lt hin] at hi; exact hi
    · cases hi
  · intro x hx
    exact h4 x (List.mem_of_mem_take (List.mem_of_mem_take hx))
set_option maxRecDepth 10000 in
theorem at_spec {n : Nat} (hn : n < 2147483648) {len over : Int32} {c : Nat → Int32} {E : List Int32} (h : BY n len over c E) {i : Int} (hm : -2147483648 ≤ i) (hm' : i < 2147483648) :
    f_By_at (iI i) n len c = some (iI (if 0 ≤ i then (((E.take n)[i.toNat]?).map ub).getD (-1) else -1)) := by
  obtain ⟨rfl, rfl, h3, h4⟩ := h
  unfold f_By_at f_By_at_25
  simp (disch := omega) only [iI_lit, iL_lit, iI_add, iI_sub, iI_mul, iI_neg, iL_add, iL_sub, iL_mul, iL_neg, iI_lt, iI_le, iI_eq, iL_lt, iL_le, iL_eqS, iI_c, iI_ok, iI_l, iL_i, iI_low, l_ushrI, l_shlI, l_shrI, i_shlI, i_shrI, i_ushrI, iI_div, iL_div, Int.toNat_natCast, Int.reduceToNat, iI_ofNat]
  by_cases h0 : i < 0
  · rw [if_pos h0, if_neg (by omega)]
  · rw [if_neg h0, if_pos (show 0 ≤ i by omega)]
    by_cases h1 : ((min E.length n : Nat) : Int) ≤ i
    · rw [if_pos h1, List.getElem?_eq_none (by simp only [List.length_take]; omega)]
      rfl
    · rw [if_neg h1, if_pos (by omega)]
      have hl : i.toNat < E.length := by omega
      rw [List.getElem?_take_of_lt (by omega), List.getElem?_eq_getElem hl, and255, h3 i.toNat E[i.toNat] (List.getElem?_eq_getElem hl) (by omega)]
      rfl
set_option maxRecDepth 10000 in
theorem BY_app {n : Nat} {len over : Int32} {c c' : Nat → Int32} {E F : List Int32} (h : BY n len over c E) (hF : ∀ x ∈ F, sb x = x) (hc : ∀ i, i < E.length → i < n → c' i = c i) (hc2 : ∀ i x, F[i]? = some x → E.length + i < n → c' (E.length + i) = x) :
    BY n (iI ((min (E.length + F.length) n : Nat) : Int)) (iI (if n < E.length + F.length then 1 else 0)) c' (E ++ F) := by
  obtain ⟨_, _, h3, h4⟩ := h
  refine ⟨by rw [List.length_append], by rw [List.length_append], ?_, ?_⟩
  · intro i x hi hin
    by_cases hl : i < E.length
    · rw [List.getElem?_append_left hl] at hi
      rw [hc i hl hin]; exact h3 i x hi hin
    · rw [List.getElem?_append_right (by omega)] at hi
      have := hc2 (i - E.length) x hi (by omega)
      rw [show E.length + (i - E.length) = i by omega] at this
      exact this
  · intro x hx
    rcases List.mem_append.mp hx with q | q
    · exact h4 x q
    · exact hF x q
set_option maxRecDepth 10000 in
theorem add_spec {n : Nat} (hn : n < 2147483647) {len over : Int32} {c : Nat → Int32} {E : List Int32} (h : BY n len over c E) (x : Int32) :
    ∃ len' over' c', f_By_add x n len over c = some (len', over', c') ∧ BY n len' over' c' (E ++ [sb x]) := by
  have h0 := h
  obtain ⟨rfl, rfl, h3, h4⟩ := h
  unfold f_By_add
  rw [nar_b]
  simp (disch := omega) only [iI_lit, iL_lit, iI_add, iI_sub, iI_mul, iI_neg, iL_add, iL_sub, iL_mul, iL_neg, iI_lt, iI_le, iI_eq, iL_lt, iL_le, iL_eqS, iI_c, iI_ok, iI_l, iL_i, iI_low, l_ushrI, l_shlI, l_shrI, i_shlI, i_shrI, i_ushrI, iI_div, iL_div, Int.toNat_natCast, Int.reduceToNat, iI_ofNat]
  have hF : ∀ y ∈ [sb x], sb y = y := by intro y hy; rw [List.mem_singleton.mp hy, sb_sb]
  by_cases h1 : n ≤ E.length
  · rw [if_pos (by omega)]
    have key := BY_app (c' := c) h0 hF (fun i _ _ => rfl) (fun i y hi hl => by omega)
    refine ⟨_, _, _, rfl, ?_⟩
    simp only [List.length_singleton] at key
    rw [if_pos (by omega), show min (E.length + 1) n = min E.length n by omega] at key
    exact key
  · rw [if_neg (by omega), if_pos (by omega)]
    have key := BY_app (c' := upd c E.length (sb x)) h0 hF (fun i q _ => upd_n (by omega)) (fun i y hi hl => by
      have hi0 : i < 1 := by have := (List.getElem?_eq_some_iff.mp hi).1; simpa using this
      obtain rfl : i = 0 := by omega
      simp at hi
      rw [Nat.add_zero, upd_s]; exact hi)
    refine ⟨_, _, _, rfl, ?_⟩
    simp only [List.length_singleton] at key
    rw [show min E.length n = E.length by omega, if_neg (by omega)]
    rw [if_neg (by omega), show min (E.length + 1) n = E.length + 1 by omega] at key
    exact key
set_option maxRecDepth 10000 in
theorem atimes_loop {n : Nat} (hn : n < 2147483647) {len over : Int32} {c0 : Nat → Int32} {E : List Int32} (h : BY n len over c0 E) (x : Int32) (k : Int) (hk : -2147483648 ≤ k) (hk' : k < 2147483648) (f : Nat) (hf : f = min k.toNat (n - min E.length n)) :
    ∀ (d i m : Nat) (c : Nat → Int32), i + d = f → d < m → (∀ j, (j < min E.length n ∨ min E.length n + i ≤ j) → c j = c0 j) → (∀ j, j < i → c (min E.length n + j) = sb x) →
    ∃ len' over' c', f_By_addTimes_22 m x (iI k) (iI f) (iI i) n len over c = some (len', over', c') ∧ BY n len' over' c' (E ++ List.replicate k.toNat (sb x))
  | 0, i, m + 1, c, hi, hm, hc, hd => by
    have h0 := h
    obtain ⟨rfl, rfl, h3, h4⟩ := h
    obtain rfl : i = f := by omega
    unfold f_By_addTimes_22 f_By_addTimes_71
    have key := BY_app (c' := c) (F := List.replicate k.toNat (sb x)) h0 (fun y hy => by rw [List.eq_of_mem_replicate hy, sb_sb]) (fun i q1 q2 => hc i (Or.inl (by omega))) (fun j y hj hl => by
      have hj2 := List.getElem?_eq_some_iff.mp hj
      obtain ⟨q1, q2⟩ := hj2
      rw [List.getElem_replicate] at q2
      rw [List.length_replicate] at q1
      rw [← q2]
      have := hd j (by omega)
      rw [show min E.length n = E.length by omega] at this
      exact this)
    rw [List.length_replicate] at key
    have e1 : ((min E.length n : Nat) : Int) + (i : Int) = ((min (E.length + k.toNat) n : Nat) : Int) := by omega
    by_cases ho : n < E.length
    · rw [if_pos ho]
      rw [if_pos (show n < E.length + k.toNat by omega)] at key
      simp (disch := omega) only [iI_lit, iL_lit, iI_add, iI_sub, iI_mul, iI_neg, iL_add, iL_sub, iL_mul, iL_neg, iI_lt, iI_le, iI_eq, iL_lt, iL_le, iL_eqS, iI_c, iI_ok, iI_l, iL_i, iI_low, l_ushrI, l_shlI, l_shrI, i_shlI, i_shrI, i_ushrI, iI_div, iL_div, Int.toNat_natCast, Int.reduceToNat, iI_ofNat]
      rw [if_pos (by omega), if_neg (by omega), e1]
      exact ⟨_, _, _, rfl, key⟩
    · rw [if_neg ho]
      simp (disch := omega) only [iI_lit, iL_lit, iI_add, iI_sub, iI_mul, iI_neg, iL_add, iL_sub, iL_mul, iL_neg, iI_lt, iI_le, iI_eq, iL_lt, iL_le, iL_eqS, iI_c, iI_ok, iI_l, iL_i, iI_low, l_ushrI, l_shlI, l_shrI, i_shlI, i_shrI, i_ushrI, iI_div, iL_div, Int.toNat_natCast, Int.reduceToNat, iI_ofNat]
      rw [if_pos (by omega), if_pos trivial, e1]
      by_cases hq : k ≤ (i : Int)
      · rw [if_pos hq]
        rw [if_neg (by omega)] at key
        exact ⟨_, _, _, rfl, key⟩
      · rw [if_neg hq]
        rw [if_pos (by omega)] at key
        exact ⟨_, _, _, rfl, key⟩
  | d + 1, i, m + 1, c, hi, hm, hc, hd => by
    have h0 := h
    obtain ⟨rfl, rfl, h3, h4⟩ := h
    unfold f_By_addTimes_22
    rw [nar_b]
    simp (disch := omega) only [iI_lit, iL_lit, iI_add, iI_sub, iI_mul, iI_neg, iL_add, iL_sub, iL_mul, iL_neg, iI_lt, iI_le, iI_eq, iL_lt, iL_le, iL_eqS, iI_c, iI_ok, iI_l, iL_i, iI_low, l_ushrI, l_shlI, l_shrI, i_shlI, i_shrI, i_ushrI, iI_div, iL_div, Int.toNat_natCast, Int.reduceToNat, iI_ofNat]
    rw [if_neg (by omega), if_pos (by omega)]
    have e : (((min E.length n : Nat) : Int) + (i : Int)).toNat = min E.length n + i := by omega
    rw [e]
    refine atimes_loop hn h0 x k hk hk' f hf d (i + 1) m _ (by omega) (by omega) (fun j hj => ?_) (fun j hj => ?_)
    · rw [upd_n (by omega)]; exact hc j (by omega)
    · by_cases hji : j = i
      · rw [hji, upd_s]
      · rw [upd_n (by omega)]; exact hd j (by omega)
set_option maxRecDepth 10000 in
theorem atimes_spec {n : Nat} (hn : n < 10000000) {len over : Int32} {c : Nat → Int32} {E : List Int32} (h : BY n len over c E) (x : Int32) {k : Int} (hk : -2147483648 ≤ k) (hk' : k < 2147483648) :
    ∃ len' over' c', f_By_addTimes x (iI k) n len over c = some (len', over', c') ∧ BY n len' over' c' (E ++ List.replicate k.toNat (sb x)) := by
  unfold f_By_addTimes
  have h0 := h
  obtain ⟨rfl, rfl, h3, h4⟩ := h
  simp (disch := omega) only [iI_lit, iL_lit, iI_add, iI_sub, iI_mul, iI_neg, iL_add, iL_sub, iL_mul, iL_neg, iI_lt, iI_le, iI_eq, iL_lt, iL_le, iL_eqS, iI_c, iI_ok, iI_l, iL_i, iI_low, l_ushrI, l_shlI, l_shrI, i_shlI, i_shrI, i_ushrI, iI_div, iL_div, Int.toNat_natCast, Int.reduceToNat, iI_ofNat]
  rw [max_spec hk hk' (by omega) (by omega), Option.bind_some, min_spec (by omega) (by omega) (by omega) (by omega), Option.bind_some]
  have e : min (max k 0) ((n : Int) - ((min E.length n : Nat) : Int)) = ((min k.toNat (n - min E.length n) : Nat) : Int) := by omega
  rw [e]
  exact atimes_loop (by omega) h0 x k hk hk' (min k.toNat (n - min E.length n)) rfl (min k.toNat (n - min E.length n)) 0 gx_fu c (by omega) (by have : 100000000 = gx_fu := rfl; omega) (fun _ _ => rfl) (fun j hj => by omega)
set_option maxRecDepth 10000 in
theorem slen_spec {o : Nat} (h : o < 74) : f_JStr_length o = some (iI (gl_len.getD o 0 : Nat)) := by
  have : ∀ o : Fin 74, f_JStr_length o.val = some (iI (gl_len.getD o.val 0 : Nat)) := by decide +kernel
  exact this ⟨o, h⟩
set_option maxRecDepth 10000 in
def litOK (o : Nat) : Bool := (gl_byt.getD o []).length == gl_len.getD o 0 && ((gl_byt.getD o []).all (fun x => sb x == x && (0 ≤ x && x ≤ 127)) && decide (gl_len.getD o 0 < 100))
set_option maxRecDepth 10000 in
theorem lit_ok {o : Nat} (h : o < 74) : (gl_byt.getD o []).length = gl_len.getD o 0 ∧ (∀ x ∈ gl_byt.getD o [], sb x = x ∧ 0 ≤ x ∧ x ≤ 127) ∧ gl_len.getD o 0 < 100 := by
  have : ∀ o : Fin 74, litOK o.val = true := by decide +kernel
  have := this ⟨o, h⟩
  simp only [litOK, Bool.and_eq_true, beq_iff_eq, List.all_eq_true, decide_eq_true_eq] at this
  exact ⟨this.1, fun x hx => this.2.1 x hx, this.2.2⟩
set_option maxRecDepth 10000 in
theorem nrc {a : Int} (h0 : 0 ≤ a) (h1 : a < 65536) : gx_nr .char (iI a) = true := by
  show ((iI a).toUInt32.toUInt16.toUInt32.toInt32 == iI a) = true
  rw [beq_iff_eq]
  apply u3_inj
  show ((((iI a).toBitVec.toNat % 65536) : Nat) : Int) = _
  rw [iI_u h0 (by omega), u3_i h0 (by omega)]
  omega
set_option maxRecDepth 10000 in
theorem mm_16 {a : Int} (h0 : 0 ≤ a) (h1 : a < 65536) : ((iI a).toUInt32 % 65536).toInt32 = iI a := by
  apply u3_inj
  show ((((iI a).toUInt32 % 65536).toNat : Nat) : Int) = _
  rw [UInt32.toNat_mod, u3_i h0 (by omega)]
  show (((iI a).toBitVec.toNat % 65536 : Nat) : Int) = _
  rw [iI_u h0 (by omega)]
  omega
set_option maxRecDepth 10000 in
theorem lit_byte {o i : Nat} (h : o < 74) {x : Int32} (hx : (gl_byt.getD o [])[i]? = some x) : ∃ a : Int, 0 ≤ a ∧ a ≤ 127 ∧ x = iI a := by
  obtain ⟨h1, h2, h3⟩ := (lit_ok h).2.1 x (List.mem_of_getElem? hx)
  obtain ⟨a, q1, q2, rfl⟩ := iI_ex x
  rw [show (0 : Int32) = iI 0 from rfl, iI_le (by omega) (by omega) (by omega) (by omega)] at h2
  rw [show (127 : Int32) = iI 127 from rfl, iI_le (by omega) (by omega) (by omega) (by omega)] at h3
  exact ⟨a, h2, h3, rfl⟩
set_option maxRecDepth 10000 in
theorem charAt_spec {o i : Nat} (h : o < 74) {x : Int32} (hx : (gl_byt.getD o [])[i]? = some x) : f_JStr_charAt o (iI i) = some x := by
  obtain ⟨a, h0, h1, rfl⟩ := lit_byte h hx
  have hl := (lit_ok h).1
  have hlb := (lit_ok h).2.2
  have hi := (List.getElem?_eq_some_iff.mp hx).1
  rw [hl] at hi
  unfold f_JStr_charAt f_JStr_isLatin1 f_JLat_charAt f_JStr_checkIndex f_JPre_checkIndex
  have ea : (gl_byt.getD o []).getD i (iI 0) = iI a := by rw [List.getD_eq_getElem?_getD, hx]; rfl
  have e255 : iI a &&& iI 255 = iI a := by rw [and255, ub_i]; congr 1; omega
  simp (disch := omega) only [iI_lit, iL_lit, iI_add, iI_sub, iI_mul, iI_neg, iL_add, iL_sub, iL_mul, iL_neg, iI_lt, iI_le, iI_eq, iL_lt, iL_le, iL_eqS, iI_c, iI_ok, iI_l, iL_i, iI_low, l_ushrI, l_shlI, l_shrI, i_shlI, i_shrI, i_ushrI, iI_div, iL_div, Int.toNat_natCast, Int.reduceToNat, iI_ofNat]
  have e65 : (65536 : UInt32) = 65536 := rfl
  simp only [if_pos h, Option.bind_some, ea, e255, mm_16 h0 (show a < 65536 by omega), nrc h0 (show a < 65536 by omega)]
  rw [if_neg (by decide), if_pos (by decide)]
  simp only [Option.bind_some]
  simp (disch := omega) only [iI_lit, iL_lit, iI_add, iI_sub, iI_mul, iI_neg, iL_add, iL_sub, iL_mul, iL_neg, iI_lt, iI_le, iI_eq, iL_lt, iL_le, iL_eqS, iI_c, iI_ok, iI_l, iL_i, iI_low, l_ushrI, l_shlI, l_shrI, i_shlI, i_shrI, i_ushrI, iI_div, iL_div, Int.toNat_natCast, Int.reduceToNat, iI_ofNat]
  rw [if_neg (by decide), if_neg (by omega), if_pos (by omega)]
  simp only [Option.bind_some]
  rw [if_pos (by omega)]
  simp [nrc h0 (show a < 65536 by omega)]
set_option maxRecDepth 10000 in
theorem astr_loop {n : Nat} (hn : n < 2147483647) {o : Nat} (ho : o < 74) : ∀ (d i m : Nat) (len over : Int32) (c : Nat → Int32) (E : List Int32), i + d = gl_len.getD o 0 → d < m → BY n len over c E →
    ∃ len' over' c', f_By_addString_2 m o (iI i) n len over c = some (len', over', c') ∧ BY n len' over' c' (E ++ (gl_byt.getD o []).drop i)
  | 0, i, m + 1, len, over, c, E, hi, hm, h => by
    unfold f_By_addString_2
    have := (lit_ok ho).2.2
    rw [if_pos ho, slen_spec ho, Option.bind_some]
    simp (disch := omega) only [iI_lit, iL_lit, iI_add, iI_sub, iI_mul, iI_neg, iL_add, iL_sub, iL_mul, iL_neg, iI_lt, iI_le, iI_eq, iL_lt, iL_le, iL_eqS, iI_c, iI_ok, iI_l, iL_i, iI_low, l_ushrI, l_shlI, l_shrI, i_shlI, i_shrI, i_ushrI, iI_div, iL_div, Int.toNat_natCast, Int.reduceToNat, iI_ofNat]
    rw [if_pos (by omega), List.drop_eq_nil_of_le (by rw [(lit_ok ho).1]; omega), List.append_nil]
    exact ⟨_, _, _, rfl, h⟩
  | d + 1, i, m + 1, len, over, c, E, hi, hm, h => by
    unfold f_By_addString_2
    have := (lit_ok ho).2.2
    have hl : i < (gl_byt.getD o []).length := by rw [(lit_ok ho).1]; omega
    rw [if_pos ho, slen_spec ho, Option.bind_some, if_pos ho, charAt_spec ho (List.getElem?_eq_getElem hl), Option.bind_some]
    obtain ⟨l1, o1, c1, e1, h1⟩ := add_spec hn h (gl_byt.getD o [])[i]
    rw [e1, Option.bind_some]
    simp (disch := omega) only [iI_lit, iL_lit, iI_add, iI_sub, iI_mul, iI_neg, iL_add, iL_sub, iL_mul, iL_neg, iI_lt, iI_le, iI_eq, iL_lt, iL_le, iL_eqS, iI_c, iI_ok, iI_l, iL_i, iI_low, l_ushrI, l_shlI, l_shrI, i_shlI, i_shrI, i_ushrI, iI_div, iL_div, Int.toNat_natCast, Int.reduceToNat, iI_ofNat]
    rw [if_neg (by omega)]
    obtain ⟨l2, o2, c2, e2, h2⟩ := astr_loop hn ho d (i + 1) m l1 o1 c1 _ (by omega) (by omega) h1
    refine ⟨l2, o2, c2, e2, ?_⟩
    have hsb := ((lit_ok ho).2.1 _ (List.getElem_mem hl)).1
    rw [List.append_assoc, hsb, List.singleton_append, List.getElem_cons_drop] at h2
    exact h2
set_option maxRecDepth 10000 in
theorem astr_spec {n : Nat} (hn : n < 2147483647) {o : Nat} (ho : o < 74) {len over : Int32} {c : Nat → Int32} {E : List Int32} (h : BY n len over c E) :
    ∃ len' over' c', f_By_addString o n len over c = some (len', over', c') ∧ BY n len' over' c' (E ++ gl_byt.getD o []) := by
  unfold f_By_addString
  have := (lit_ok ho).2.2
  have := astr_loop hn ho (gl_len.getD o 0) 0 gx_fu len over c E (by omega) (by have := fu_pos; omega) h
  rw [List.drop_zero] at this
  exact this
set_option maxRecDepth 10000 in
theorem apart_spec {n n2 : Nat} (hn : n < 1000000) (hn2 : n2 < 1000000) {len over len2 over2 : Int32} {c c2 : Nat → Int32} {E E2 : List Int32} (h : BY n len over c E) (h2 : BY n2 len2 over2 c2 E2) {f t : Int} (hf0 : -2147483648 ≤ f) (hf : f < 2147483648) (ht0 : -1000000000 ≤ t) (ht : t < 2147483648) :
    ∃ len' over' c', f_By_addPart (iI f) (iI t) n n2 len2 len c2 over c = some (len', over', c') ∧ BY n len' over' c' (E ++ ((E2.take n2).take t.toNat).drop f.toNat) := by
  have h0 := h
  obtain ⟨rfl, rfl, h3, h4⟩ := h
  obtain ⟨rfl, rfl, g3, g4⟩ := h2
  unfold f_By_addPart f_By_addPart_93
  simp (disch := omega) only [iI_lit, iL_lit, iI_add, iI_sub, iI_mul, iI_neg, iL_add, iL_sub, iL_mul, iL_neg, iI_lt, iI_le, iI_eq, iL_lt, iL_le, iL_eqS, iI_c, iI_ok, iI_l, iL_i, iI_low, l_ushrI, l_shlI, l_shrI, i_shlI, i_shrI, i_ushrI, iI_div, iL_div, Int.toNat_natCast, Int.reduceToNat, iI_ofNat]
  rw [max_spec hf0 hf (by omega) (by omega), Option.bind_some, min_spec (by omega) (by omega) (by omega) (by omega), Option.bind_some, min_spec (by omega) (by omega) (by omega) (by omega), Option.bind_some, iI_sub, max_spec (by omega) (by omega) (by omega) (by omega), Option.bind_some, min_spec (by omega) (by omega) (by omega) (by omega), Option.bind_some]
  generalize hF : ((E2.take n2).take t.toNat).drop f.toNat = F
  have hFl : F.length = min t.toNat (min E2.length n2) - f.toNat := by rw [← hF]; simp only [List.length_drop, List.length_take]; omega
  obtain ⟨st, hst⟩ : ∃ st : Nat, min (max f 0) ((min E2.length n2 : Nat) : Int) = st := ⟨min f.toNat (min E2.length n2), by omega⟩
  rw [hst]
  have hw : max (min t ((min E2.length n2 : Nat) : Int) - (st : Int)) 0 = F.length := by omega
  rw [hw]
  obtain ⟨w, hwe⟩ : ∃ w : Nat, min (F.length : Int) ((n : Int) - ((min E.length n : Nat) : Int)) = w := ⟨min F.length (n - min E.length n), by omega⟩
  rw [hwe]
  have hFg : ∀ i x, F[i]? = some x → E2[f.toNat + i]? = some x ∧ f.toNat + i < n2 := by
    intro i x hx
    rw [← hF, List.getElem?_drop, List.getElem?_take] at hx
    split at hx
    · rw [List.getElem?_take] at hx
      split at hx
      · exact ⟨hx, by omega⟩
      · cases hx
    · cases hx
  have hFb : ∀ x ∈ F, sb x = x := by
    intro x hx
    obtain ⟨i, hi⟩ := List.mem_iff_getElem?.mp hx
    exact g4 x (List.mem_of_getElem? (hFg i x hi).1)
  have hsf : 0 < F.length → st = f.toNat := by intro q; omega
  have key := BY_app (c' := va_cpy c2 c st (min E.length n) w) h0 hFb (fun i q1 q2 => by rw [va_cpy, if_neg (by omega)]) (fun i x hi hl => by
    have hil := (List.getElem?_eq_some_iff.mp hi).1
    rw [va_cpy, if_pos (by omega)]
    obtain ⟨q1, q2⟩ := hFg i x hi
    have := g3 _ x q1 q2
    rw [hsf (by omega), show f.toNat + (E.length + i - min E.length n) = f.toNat + i by omega]
    exact this)
  have hcpk : gx_cpk (iI st) (iI ((min E.length n : Nat) : Int)) (iI w) n2 n = true := by
    unfold gx_cpk
    simp (disch := omega) only [iI_lit, iL_lit, iI_add, iI_sub, iI_mul, iI_neg, iL_add, iL_sub, iL_mul, iL_neg, iI_lt, iI_le, iI_eq, iL_lt, iL_le, iL_eqS, iI_c, iI_ok, iI_l, iL_i, iI_low, l_ushrI, l_shlI, l_shrI, i_shlI, i_shrI, i_ushrI, iI_div, iL_div, Int.toNat_natCast, Int.reduceToNat, iI_ofNat]
    simp
    omega
  have hcpf : gx_cpf .byte c2 (iI st) (iI w) = true := by
    unfold gx_cpf
    simp (disch := omega) only [iI_lit, iL_lit, iI_add, iI_sub, iI_mul, iI_neg, iL_add, iL_sub, iL_mul, iL_neg, iI_lt, iI_le, iI_eq, iL_lt, iL_le, iL_eqS, iI_c, iI_ok, iI_l, iL_i, iI_low, l_ushrI, l_shlI, l_shrI, i_shlI, i_shrI, i_ushrI, iI_div, iL_div, Int.toNat_natCast, Int.reduceToNat, iI_ofNat]
    rw [List.all_eq_true]
    intro i hi
    rw [List.mem_range] at hi
    have hil : i < F.length := by omega
    obtain ⟨q1, q2⟩ := hFg i F[i] (List.getElem?_eq_getElem hil)
    have := g3 _ _ q1 q2
    rw [hsf (by omega), this]
    exact fits_b (hFb _ (List.getElem_mem hil))
  rw [if_pos hcpk, if_pos hcpf]
  simp (disch := omega) only [iI_lit, iL_lit, iI_add, iI_sub, iI_mul, iI_neg, iL_add, iL_sub, iL_mul, iL_neg, iI_lt, iI_le, iI_eq, iL_lt, iL_le, iL_eqS, iI_c, iI_ok, iI_l, iL_i, iI_low, l_ushrI, l_shlI, l_shrI, i_shlI, i_shrI, i_ushrI, iI_div, iL_div, Int.toNat_natCast, Int.reduceToNat, iI_ofNat]
  have e1 : ((min E.length n : Nat) : Int) + (w : Int) = ((min (E.length + F.length) n : Nat) : Int) := by omega
  rw [e1]
  by_cases ho : n < E.length
  · rw [if_pos ho]
    rw [if_pos (show n < E.length + F.length by omega)] at key
    try simp (disch := omega) only [iI_lit, iL_lit, iI_add, iI_sub, iI_mul, iI_neg, iL_add, iL_sub, iL_mul, iL_neg, iI_lt, iI_le, iI_eq, iL_lt, iL_le, iL_eqS, iI_c, iI_ok, iI_l, iL_i, iI_low, l_ushrI, l_shlI, l_shrI, i_shlI, i_shrI, i_ushrI, iI_div, iL_div, Int.toNat_natCast, Int.reduceToNat, iI_ofNat]
    rw [if_neg (by decide)]
    exact ⟨_, _, _, rfl, key⟩
  · rw [if_neg ho]
    rw [if_pos rfl]
    by_cases hq : (F.length : Int) ≤ w
    · rw [if_pos hq]
      rw [if_neg (show ¬ n < E.length + F.length by omega)] at key
      exact ⟨_, _, _, rfl, key⟩
    · rw [if_neg hq]
      rw [if_pos (show n < E.length + F.length by omega)] at key
      exact ⟨_, _, _, rfl, key⟩
set_option maxRecDepth 10000 in
theorem bcopy_spec {n n2 : Nat} (hn : n < 1000000) (hn2 : n2 < 1000000) {len over len2 over2 : Int32} {c c2 : Nat → Int32} {E E2 : List Int32} (h : BY n len over c E) (h2 : BY n2 len2 over2 c2 E2) :
    ∃ len' over' c', f_By_copy n n2 len len2 c2 over c = some (len', over', c') ∧ BY n len' over' c' (E2.take n2) := by
  unfold f_By_copy
  rw [iI_lit]
  obtain ⟨l1, o1, e1, h1⟩ := keep_spec (by omega) h (m := 0) (by omega) (by omega)
  rw [e1, Option.bind_some]
  have hl2 : len2 = iI ((min E2.length n2 : Nat) : Int) := h2.1
  obtain ⟨l3, o3, c3, e3, h3⟩ := apart_spec hn hn2 h1 h2 (f := 0) (t := ((min E2.length n2 : Nat) : Int)) (by omega) (by omega) (by omega) (by omega)
  rw [← hl2] at e3
  rw [e3, Option.bind_some]
  refine ⟨_, _, _, rfl, ?_⟩
  simp only [Int.toNat_zero, List.take_zero, List.nil_append, List.drop_zero, Int.toNat_natCast] at h3
  rw [List.take_of_length_le (by rw [List.length_take]; omega)] at h3
  exact h3
-- E
set_option maxRecDepth 10000 in
theorem isBL_add {v : Int} {b k : Nat} (h : isBL (v / 2 ^ k) b) (hb : 0 < b) : isBL v (b + k) := by
  have hp := p2_pos k
  constructor
  · rw [Int.pow_add]
    exact (Int.ediv_lt_iff_lt_mul hp).mp h.1
  · intro _
    rw [show b + k - 1 = (b - 1) + k by omega, Int.pow_add]
    exact (Int.le_ediv_iff_mul_le hp).mp (h.2 hb)
set_option maxRecDepth 10000 in
theorem nlzL_spec {v : Int} (h1 : 0 ≤ v) (h2 : v < 18446744073709551616) : ∃ b : Nat, b ≤ 64 ∧ isBL v b ∧ f_JLong_numberOfLeadingZeros (iL v) = some (iI (64 - b)) := by
  unfold f_JLong_numberOfLeadingZeros
  simp (disch := omega) only [iI_lit, iL_lit, iI_add, iI_sub, iI_mul, iI_neg, iL_add, iL_sub, iL_mul, iL_neg, iI_lt, iI_le, iI_eq, iL_lt, iL_le, iL_eqS, iI_c, iI_ok, iI_l, iL_i, iI_low, l_ushrI, l_shlI, l_shrI, i_shlI, i_shrI, i_ushrI, iI_div, iL_div, Int.toNat_natCast, Int.reduceToNat, iI_ofNat]
  rw [show (2 : Int) ^ 32 = 4294967296 from rfl]
  have hz : (iI (v / 4294967296) = iI 0) = (v / 4294967296 = 0) := by
    apply propext
    constructor
    · intro q
      have := congrArg u3 q
      rw [u3_i (by omega) (by omega), u3_z'] at this
      exact this
    · intro q; rw [q]
  simp only [hz]
  by_cases h : v / 4294967296 = 0
  · rw [if_pos h]
    obtain ⟨b, hb, q1, q2⟩ := nlzI_spec (v := v) h1 (by omega)
    rw [q2, Option.bind_some, iI_add]
    exact ⟨b, by omega, q1, by congr 2; omega⟩
  · rw [if_neg h]
    obtain ⟨b, hb, q1, q2⟩ := nlzI_spec (v := v / 4294967296) (by omega) (by omega)
    rw [q2, Option.bind_some]
    have hb0 : 0 < b := by
      rcases Nat.eq_zero_or_pos b with q | q
      · subst q
        have := q1.1
        rw [Int.pow_zero] at this
        omega
      · exact q
    exact ⟨b + 32, by omega, isBL_add q1 hb0, by congr 2; omega⟩
set_option maxRecDepth 10000 in
theorem ntz_bits {k m : Nat} (hk : k < 32) (hx : 2 ^ k * (2 * m + 1) < 2 ^ 32) : (iI ((2 ^ k * (2 * m + 1) : Nat) : Int) ^^^ (-1 : Int32)) &&& (iI ((2 ^ k * (2 * m + 1) : Nat) : Int) - (1 : Int32)) = iI ((2 ^ k - 1 : Nat) : Int) := by
  have hpk := Nat.two_pow_pos k
  have e1 : iI ((2 ^ k * (2 * m + 1) : Nat) : Int) - (1 : Int32) = iI ((2 ^ k * (2 * m + 1) - 1 : Nat) : Int) := by
    rw [show (1 : Int32) = iI 1 from rfl, iI_sub]
    congr 1
    have : 1 ≤ 2 ^ k * (2 * m + 1) := Nat.mul_pos hpk (by omega)
    omega
  rw [e1]
  apply Int32.toBitVec_inj.mp
  apply BitVec.eq_of_getLsbD_eq
  intro i hi
  have hb : ∀ n : Nat, n < 2 ^ 32 → (iI (n : Int)).toBitVec = BitVec.ofNat 32 n := by
    intro n hn
    apply BitVec.eq_of_toNat_eq
    rw [iI_u (by omega) (by omega), BitVec.toNat_ofNat]
    omega
  rw [Int32.toBitVec_and, Int32.toBitVec_xor, hb _ hx, hb _ (by omega), hb _ (by have := Nat.pow_lt_pow_right (show 1 < 2 by omega) hk; omega)]
  have hm1 : (-1 : Int32).toBitVec = BitVec.allOnes 32 := by decide +kernel
  rw [hm1, BitVec.getLsbD_and, BitVec.getLsbD_xor, BitVec.getLsbD_allOnes]
  simp only [BitVec.getLsbD_ofNat, hi, decide_true, Bool.true_and, Bool.xor_true]
  have ex : 2 ^ k * (2 * m + 1) = 2 ^ (k + 1) * m + 2 ^ k := by rw [Nat.pow_succ]; grind
  have ey : 2 ^ k * (2 * m + 1) - 1 = 2 ^ (k + 1) * m + (2 ^ k - 1) := by rw [ex]; omega
  rw [ey, ex, Nat.testBit_two_pow_mul_add _ (by rw [Nat.pow_succ]; omega), Nat.testBit_two_pow_mul_add _ (by rw [Nat.pow_succ]; omega), Nat.testBit_two_pow_sub_one, Nat.testBit_two_pow]
  by_cases q : i < k + 1
  · rw [if_pos q, if_pos q]
    by_cases q2 : i = k
    · subst q2; simp
    · simp; omega
  · rw [if_neg q, if_neg q]
    simp
    omega
set_option maxRecDepth 10000 in
theorem ntzI_spec {k m : Nat} (hk : k < 32) (hx : 2 ^ k * (2 * m + 1) < 2 ^ 32) : f_JInt_numberOfTrailingZeros (iI ((2 ^ k * (2 * m + 1) : Nat) : Int)) = some (iI k) := by
  unfold f_JInt_numberOfTrailingZeros
  rw [ntz_bits hk hx]
  have : ∀ k : Fin 32, (if 0 < iI ((2 ^ k.val - 1 : Nat) : Int) then (if iI ((2 ^ k.val - 1 : Nat) : Int) ≤ (65536 : Int32) then (f_JInt_numberOfTrailingZeros_34 (iI ((2 ^ k.val - 1 : Nat) : Int)) (1 : Int32)) else (f_JInt_numberOfTrailingZeros_34 (((iI ((2 ^ k.val - 1 : Nat) : Int)).toUInt32 >>> ((16 : Int32).toUInt32 &&& Int32.toUInt32 31)).toInt32) ((1 : Int32) + 16))) else (some ((iI ((2 ^ k.val - 1 : Nat) : Int)) &&& (32 : Int32)))) = some (iI (k.val : Int)) := by decide +kernel
  exact this ⟨k, hk⟩
set_option maxRecDepth 10000 in
theorem odd_part : ∀ (b x : Nat), 0 < x → x < 2 ^ b → ∃ k m, k < b ∧ x = 2 ^ k * (2 * m + 1)
  | 0, x, h0, h => by omega
  | b + 1, x, h0, h => by
    by_cases hx : x % 2 = 1
    · exact ⟨0, x / 2, by omega, by omega⟩
    · obtain ⟨k, m, h1, h2⟩ := odd_part b (x / 2) (by omega) (by rw [Nat.pow_succ] at h; omega)
      refine ⟨k + 1, m, by omega, ?_⟩
      rw [Nat.pow_succ, Nat.mul_right_comm, ← h2]
      omega
set_option maxRecDepth 10000 in
theorem ntzL_spec {v : Int} (h0 : 0 < v) (h2 : v < 18446744073709551616) : ∃ k m : Nat, k < 64 ∧ v = 2 ^ k * (2 * m + 1) ∧ f_JLong_numberOfTrailingZeros (iL v) = some (iI k) := by
  obtain ⟨x, rfl⟩ : ∃ x : Nat, v = x := ⟨v.toNat, by omega⟩
  unfold f_JLong_numberOfTrailingZeros
  simp (disch := omega) only [iI_lit, iL_lit, iI_add, iI_sub, iI_mul, iI_neg, iL_add, iL_sub, iL_mul, iL_neg, iI_lt, iI_le, iI_eq, iL_lt, iL_le, iL_eqS, iI_c, iI_ok, iI_l, iL_i, iI_low, l_ushrI, l_shlI, l_shrI, i_shlI, i_shrI, i_ushrI, iI_div, iL_div, Int.toNat_natCast, Int.reduceToNat, iI_ofNat]
  rw [show (2 : Int) ^ 32 = 4294967296 from rfl]
  have hz : (iI (x : Int) = iI 0) = (x % 4294967296 = 0) := by
    apply propext
    constructor
    · intro q
      have := congrArg u3 q
      rw [u3_m, u3_z'] at this
      omega
    · intro q
      rw [← iI_emod, show (x : Int) % 4294967296 = 0 by omega]
  simp only [hz]
  by_cases h : x % 4294967296 = 0
  · rw [if_pos h]
    obtain ⟨k, m, hk, hm⟩ := odd_part 32 (x / 4294967296) (by omega) (by omega)
    have e : ((x : Int) / 4294967296) = ((2 ^ k * (2 * m + 1) : Nat) : Int) := by omega
    rw [e, ntzI_spec hk (by omega), Option.bind_some, iI_add]
    refine ⟨k + 32, m, by omega, ?_, by congr 2; omega⟩
    have : x = 2 ^ (k + 32) * (2 * m + 1) := by rw [Nat.pow_add, Nat.mul_right_comm, ← hm]; omega
    rw [this]; simp
  · rw [if_neg h]
    obtain ⟨k, m, hk, hm⟩ := odd_part 32 (x % 4294967296) (by omega) (by omega)
    have e : iI (x : Int) = iI ((2 ^ k * (2 * m + 1) : Nat) : Int) := by rw [← iI_emod]; congr 1; omega
    rw [e, ntzI_spec hk (by omega), Option.bind_some]
    have hk2 : 2 ^ 32 = 2 ^ k * (2 * 2 ^ (31 - k)) := by rw [← Nat.pow_succ', ← Nat.pow_add]; congr 1; omega
    refine ⟨k, m + 2 ^ (31 - k) * (x / 4294967296), by omega, ?_, rfl⟩
    have : x = 2 ^ k * (2 * (m + 2 ^ (31 - k) * (x / 4294967296)) + 1) := by
      have e3 : 2 ^ k * (2 * (m + 2 ^ (31 - k) * (x / 4294967296)) + 1) = 2 ^ k * (2 * m + 1) + (2 ^ k * (2 * 2 ^ (31 - k))) * (x / 4294967296) := by grind
      rw [e3, ← hk2, ← hm]
      omega
    exact_mod_cast this
