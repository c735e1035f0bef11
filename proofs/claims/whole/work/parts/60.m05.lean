-- G
set_option maxRecDepth 10000 in
def tr (δ : Nat → Nat) (k : Nat) : Nat → Nat := fun i => if i < k then δ i else 0
set_option maxRecDepth 10000 in
def last9 (δ : Nat → Nat) : Nat → Option Nat
  | 0 => none
  | k + 1 => if δ k = 9 then last9 δ k else some k
set_option maxRecDepth 10000 in
def one1 : Nat → Nat := fun i => if i = 0 then 1 else 0
set_option maxRecDepth 10000 in
def incF (δ : Nat → Nat) (k : Nat) : Nat → Nat := match last9 δ k with
  | none => one1
  | some j => fun i => if i < j then δ i else if i = j then δ j + 1 else 0
set_option maxRecDepth 10000 in
def incC (δ : Nat → Nat) (k : Nat) : Int := match last9 δ k with
  | none => 1
  | some _ => 0
set_option maxRecDepth 10000 in
theorem last9_lt {δ : Nat → Nat} : ∀ {k j : Nat}, last9 δ k = some j → j < k ∧ δ j ≠ 9 ∧ ∀ i, j < i → i < k → δ i = 9
  | 0, j, h => by cases h
  | k + 1, j, h => by
    rw [last9] at h
    by_cases q : δ k = 9
    · rw [if_pos q] at h
      obtain ⟨h1, h2, h3⟩ := last9_lt h
      refine ⟨by omega, h2, fun i hi hk => ?_⟩
      by_cases e : i = k
      · subst e; exact q
      · exact h3 i hi (by omega)
    · rw [if_neg q] at h
      cases h
      exact ⟨by omega, q, fun i hi hk => by omega⟩
set_option maxRecDepth 10000 in
theorem last9_none {δ : Nat → Nat} : ∀ {k : Nat}, last9 δ k = none → ∀ i, i < k → δ i = 9
  | 0, h, i, hi => by omega
  | k + 1, h, i, hi => by
    rw [last9] at h
    by_cases q : δ k = 9
    · rw [if_pos q] at h
      by_cases e : i = k
      · subst e; exact q
      · exact last9_none h i (by omega)
    · rw [if_neg q] at h; cases h
set_option maxRecDepth 10000 in
theorem last9_congr {δ ε : Nat → Nat} : ∀ {k : Nat}, (∀ i, i < k → δ i = ε i) → last9 δ k = last9 ε k
  | 0, h => rfl
  | k + 1, h => by rw [last9, last9, h k (by omega), last9_congr (fun i hi => h i (by omega))]
set_option maxRecDepth 10000 in
theorem incF_le {δ : Nat → Nat} (h : ∀ i, δ i ≤ 9) (k i : Nat) : incF δ k i ≤ 9 := by
  unfold incF
  cases hj : last9 δ k with
  | none => show one1 i ≤ 9; unfold one1; split <;> omega
  | some j =>
    have := last9_lt hj
    have := h j
    have := h i
    show (if i < j then δ i else if i = j then δ j + 1 else 0) ≤ 9
    split
    · omega
    · split <;> omega
set_option maxRecDepth 10000 in
theorem digit_spec {sz : Int32} {c : Nat → Int32} {n : Nat} {δ : Nat → Nat} (h : DL 792 sz c n δ) {i : Int} (h1 : -2147483648 ≤ i) (h2 : i < 2147483648) : f_Dc_digit (iI i) sz c = some (iI (if 0 ≤ i then (δ i.toNat : Int) else 0)) := by
  obtain ⟨rfl, q1, q2, q3, q4⟩ := h
  unfold f_Dc_digit f_Dc_digit_21
  simp (disch := omega) only [iI_lit, iL_lit, iI_add, iI_sub, iI_mul, iI_neg, iL_add, iL_sub, iL_mul, iL_neg, iI_lt, iI_le, iI_eq, iL_lt, iL_le, iL_eqS, iI_c, iI_ok, iI_l, iL_i, iI_low, l_ushrI, l_shlI, l_shrI, i_shlI, i_shrI, i_ushrI, iI_div, iL_div, Int.toNat_natCast, Int.reduceToNat, iI_ofNat]
  by_cases h0 : i < 0
  · rw [if_pos h0, if_neg (by omega)]
  · rw [if_neg h0, if_pos (show 0 ≤ i by omega)]
    by_cases hn : (n : Int) ≤ i
    · rw [if_pos hn, q3 _ (by omega)]; rfl
    · rw [if_neg hn, if_pos (by omega), q2 _ (by omega)]
set_option maxRecDepth 10000 in
theorem dz_loop {c : Nat → Int32} {δ : Nat → Nat} (h9 : ∀ i, δ i ≤ 9) : ∀ (s n : Nat), s ≤ 792 → s < n → (∀ i, i < s → c i = iI (δ i)) → (∀ i, s ≤ i → δ i = 0) → ∃ t : Nat, t ≤ s ∧ f_Dc_dropZeros_5 n (iI s) (iI s) c = some (iI t) ∧ (0 < t → δ (t - 1) ≠ 0) ∧ DL 792 (iI t) c t δ
  | 0, n + 1, _, _, hc, h0 => ⟨0, Nat.le_refl _, by rw [f_Dc_dropZeros_5, if_pos (by decide)], fun h => absurd h (by omega), rfl, by omega, fun i hi => by omega, h0, h9⟩
  | s + 1, n + 1, hs, hn, hc, h0 => by
    unfold f_Dc_dropZeros_5
    simp (disch := omega) only [iI_lit, iL_lit, iI_add, iI_sub, iI_mul, iI_neg, iL_add, iL_sub, iL_mul, iL_neg, iI_lt, iI_le, iI_eq, iL_lt, iL_le, iL_eqS, iI_c, iI_ok, iI_l, iL_i, iI_low, l_ushrI, l_shlI, l_shrI, i_shlI, i_shrI, i_ushrI, iI_div, iL_div, Int.toNat_natCast, Int.reduceToNat, iI_ofNat]
    rw [if_neg (by omega), if_pos (by omega)]
    simp only [show (((s + 1 : Nat) : Int) - 1) = (s : Int) by omega, show (((s + 1 : Nat) : Int) + -1) = (s : Int) by omega, Int.toNat_natCast]
    have := h9 s
    rw [hc s (by omega)]
    simp (disch := omega) only [iI_lit, iL_lit, iI_add, iI_sub, iI_mul, iI_neg, iL_add, iL_sub, iL_mul, iL_neg, iI_lt, iI_le, iI_eq, iL_lt, iL_le, iL_eqS, iI_c, iI_ok, iI_l, iL_i, iI_low, l_ushrI, l_shlI, l_shrI, i_shlI, i_shrI, i_ushrI, iI_div, iL_div, Int.toNat_natCast, Int.reduceToNat, iI_ofNat]
    by_cases h : δ s = 0
    · rw [if_pos (by omega)]
      obtain ⟨t, h1, h2, h3, h4⟩ := dz_loop h9 s n (by omega) (by omega) (fun i hi => hc i (by omega)) (fun i hi => by
        by_cases e : i = s
        · subst e; exact h
        · exact h0 i (by omega))
      exact ⟨t, by omega, h2, h3, h4⟩
    · rw [if_neg (by omega)]
      exact ⟨s + 1, Nat.le_refl _, rfl, fun _ => h, rfl, hs, hc, h0, h9⟩
set_option maxRecDepth 10000 in
theorem dz_spec {sz : Int32} {c : Nat → Int32} {n : Nat} {δ : Nat → Nat} (h : DL 792 sz c n δ) : ∃ t : Nat, t ≤ n ∧ f_Dc_dropZeros sz c = some (iI t) ∧ (0 < t → δ (t - 1) ≠ 0) ∧ DL 792 (iI t) c t δ := by
  obtain ⟨rfl, q1, q2, q3, q4⟩ := h
  unfold f_Dc_dropZeros
  exact dz_loop q4 n gx_fu q1 (by have := fu_pos; omega) q2 q3
set_option maxRecDepth 10000 in
theorem ao_loop {c : Nat → Int32} {δ : Nat → Nat} (h9 : ∀ i, δ i ≤ 9) {p : Int} : ∀ (s n : Nat), s ≤ 792 → s < n → (∀ i, i < s → c i = iI (δ i)) →
    ∃ sz' c' n', f_Dc_addOneToLast_5 n (iI s) (iI s) (iI p) c = some (sz', iI (p + incC δ s), c') ∧ DL 792 sz' c' n' (incF δ s) ∧ 0 < n' ∧ n' ≤ max s 1
  | 0, n + 1, _, _, hc => by
    unfold f_Dc_addOneToLast_5 f_Dc_addOneToLast_35
    rw [nar_bs]
    simp (disch := omega) only [iI_lit, iL_lit, iI_add, iI_sub, iI_mul, iI_neg, iL_add, iL_sub, iL_mul, iL_neg, iI_lt, iI_le, iI_eq, iL_lt, iL_le, iL_eqS, iI_c, iI_ok, iI_l, iL_i, iI_low, l_ushrI, l_shlI, l_shrI, i_shlI, i_shrI, i_ushrI, iI_div, iL_div, Int.toNat_natCast, Int.reduceToNat, iI_ofNat]
    rw [if_pos (by decide), if_pos (by decide), if_pos (by decide)]
    refine ⟨_, _, 1, rfl, ⟨rfl, by omega, fun i hi => ?_, fun i hi => ?_, incF_le h9 0⟩, by omega, by omega⟩
    · obtain rfl : i = 0 := by omega
      rw [upd_s, sb_small (by omega) (by omega)]; rfl
    · show one1 i = 0
      unfold one1; rw [if_neg (by omega)]
  | s + 1, n + 1, hs, hn, hc => by
    unfold f_Dc_addOneToLast_5
    simp (disch := omega) only [iI_lit, iL_lit, iI_add, iI_sub, iI_mul, iI_neg, iL_add, iL_sub, iL_mul, iL_neg, iI_lt, iI_le, iI_eq, iL_lt, iL_le, iL_eqS, iI_c, iI_ok, iI_l, iL_i, iI_low, l_ushrI, l_shlI, l_shrI, i_shlI, i_shrI, i_ushrI, iI_div, iL_div, Int.toNat_natCast, Int.reduceToNat, iI_ofNat]
    rw [if_neg (by omega), if_pos (by omega)]
    simp only [show (((s + 1 : Nat) : Int) - 1) = (s : Int) by omega, show (((s + 1 : Nat) : Int) + -1) = (s : Int) by omega, Int.toNat_natCast]
    have := h9 s
    rw [hc s (by omega)]
    simp (disch := omega) only [iI_lit, iL_lit, iI_add, iI_sub, iI_mul, iI_neg, iL_add, iL_sub, iL_mul, iL_neg, iI_lt, iI_le, iI_eq, iL_lt, iL_le, iL_eqS, iI_c, iI_ok, iI_l, iL_i, iI_low, l_ushrI, l_shlI, l_shrI, i_shlI, i_shrI, i_ushrI, iI_div, iL_div, Int.toNat_natCast, Int.reduceToNat, iI_ofNat]
    by_cases h : δ s = 9
    · rw [if_pos (by omega)]
      have e1 : incC δ (s + 1) = incC δ s := by unfold incC; rw [last9, if_pos h]
      have e2 : incF δ (s + 1) = incF δ s := by unfold incF; rw [last9, if_pos h]
      rw [e1, e2]
      obtain ⟨sz', c', n', h1, h2, h3, h4⟩ := ao_loop h9 s n (by omega) (by omega) (fun i hi => hc i (by omega))
      exact ⟨sz', c', n', h1, h2, h3, by omega⟩
    · rw [if_neg (by omega)]
      unfold f_Dc_addOneToLast_35
      rw [nar_b]
      simp (disch := omega) only [iI_lit, iL_lit, iI_add, iI_sub, iI_mul, iI_neg, iL_add, iL_sub, iL_mul, iL_neg, iI_lt, iI_le, iI_eq, iL_lt, iL_le, iL_eqS, iI_c, iI_ok, iI_l, iL_i, iI_low, l_ushrI, l_shlI, l_shrI, i_shlI, i_shrI, i_ushrI, iI_div, iL_div, Int.toNat_natCast, Int.reduceToNat, iI_ofNat]
      rw [if_neg (by omega), if_pos (by omega), if_pos (by omega)]
      simp only [show (((s + 1 : Nat) : Int) - 1) = (s : Int) by omega, Int.toNat_natCast]
      have e0 : last9 δ (s + 1) = some s := by rw [last9, if_neg h]
      have e1 : incC δ (s + 1) = 0 := by unfold incC; rw [e0]
      have e2 : incF δ (s + 1) = fun i => if i < s then δ i else if i = s then δ s + 1 else 0 := by unfold incF; rw [e0]
      rw [e1, Int.add_zero]
      refine ⟨_, _, s + 1, rfl, ⟨rfl, hs, fun i hi => ?_, fun i hi => ?_, incF_le h9 _⟩, by omega, by omega⟩
      · rw [e2]
        by_cases e : i = s
        · subst e
          rw [upd_s, hc i (by omega), iI_add, sb_small (by omega) (by omega)]
          dsimp only
          rw [if_neg (by omega), if_pos rfl]; rfl
        · rw [upd_n e, hc i (by omega)]
          dsimp only
          rw [if_pos (by omega)]
      · rw [e2]; dsimp only; rw [if_neg (by omega), if_neg (by omega)]
set_option maxRecDepth 10000 in
def rndF (δ : Nat → Nat) (k : Int) : Nat → Nat := if k < 0 then fun _ => 0 else if 5 ≤ δ k.toNat then incF δ k.toNat else tr δ k.toNat
set_option maxRecDepth 10000 in
def rndC (δ : Nat → Nat) (k : Int) : Int := if k < 0 then 0 else if 5 ≤ δ k.toNat then incC δ k.toNat else 0
set_option maxRecDepth 10000 in
theorem tr_le {δ : Nat → Nat} (h : ∀ i, δ i ≤ 9) (k i : Nat) : tr δ k i ≤ 9 := by
  unfold tr; have := h i; split <;> omega
set_option maxRecDepth 10000 in
theorem ro_spec {sz : Int32} {c : Nat → Int32} {n : Nat} {δ : Nat → Nat} (h : DL 792 sz c n δ) {k p : Int} (h1 : -2147483648 ≤ k) (h2 : k < 2147483648) (h3 : -1000000 ≤ p) (h4 : p ≤ 1000000) :
    ∃ sz' c' n', f_Dc_roundTo (iI k) sz c (iI p) = some (sz', c', iI (if k < n ∧ k ≤ 0 ∧ ¬ (0 ≤ k ∧ 5 ≤ δ k.toNat) then 1 else p + rndC δ k)) ∧ DL 792 sz' c' n' (rndF δ k) ∧ (n' = 0 ↔ (n = 0 ∨ k < 0 ∨ (k = 0 ∧ δ 0 < 5))) := by
  have hd := digit_spec h h1 h2
  obtain ⟨rfl, q1, q2, q3, q4⟩ := h
  unfold f_Dc_roundTo
  rw [hd, Option.bind_some]
  have hdk := q4 k.toNat
  simp (disch := omega) only [iI_lit, iL_lit, iI_add, iI_sub, iI_mul, iI_neg, iL_add, iL_sub, iL_mul, iL_neg, iI_lt, iI_le, iI_eq, iL_lt, iL_le, iL_eqS, iI_c, iI_ok, iI_l, iL_i, iI_low, l_ushrI, l_shlI, l_shrI, i_shlI, i_shrI, i_ushrI, iI_div, iL_div, Int.toNat_natCast, Int.reduceToNat, iI_ofNat]
  by_cases hk : k < n
  · rw [if_pos hk]
    unfold f_Dc_roundTo_23
    generalize hdd : (if 0 ≤ k then (δ k.toNat : Int) else 0) = dd
    have hdd0 : 0 ≤ dd ∧ dd ≤ 9 := by rw [← hdd]; split <;> omega
    simp (disch := omega) only [iI_lit, iL_lit, iI_add, iI_sub, iI_mul, iI_neg, iL_add, iL_sub, iL_mul, iL_neg, iI_lt, iI_le, iI_eq, iL_lt, iL_le, iL_eqS, iI_c, iI_ok, iI_l, iL_i, iI_low, l_ushrI, l_shlI, l_shrI, i_shlI, i_shrI, i_ushrI, iI_div, iL_div, Int.toNat_natCast, Int.reduceToNat, iI_ofNat]
    rw [max_spec h1 h2 (by omega) (by omega)]
    simp only [Option.bind_some]
    simp (disch := omega) only [iI_lit, iL_lit, iI_add, iI_sub, iI_mul, iI_neg, iL_add, iL_sub, iL_mul, iL_neg, iI_lt, iI_le, iI_eq, iL_lt, iL_le, iL_eqS, iI_c, iI_ok, iI_l, iL_i, iI_low, l_ushrI, l_shlI, l_shrI, i_shlI, i_shrI, i_ushrI, iI_div, iL_div, Int.toNat_natCast, Int.reduceToNat, iI_ofNat]
    by_cases hup : 0 ≤ k ∧ 5 ≤ δ k.toNat
    · rw [if_pos hup.1] at hdd
      rw [if_neg (show ¬ dd < 5 by omega), if_neg (show ¬ ((1 : Int) = 0) by decide), if_neg (show ¬ (k < n ∧ k ≤ 0 ∧ ¬ (0 ≤ k ∧ 5 ≤ δ k.toNat)) by omega)]
      rw [Int.max_eq_left hup.1]
      unfold f_Dc_addOneToLast
      obtain ⟨m, rfl⟩ : ∃ m : Nat, k = m := ⟨k.toNat, by omega⟩
      obtain ⟨sz', c', n', e1, e2, e3, e4⟩ := ao_loop (c := c) (p := p) q4 m gx_fu (by omega) (by have := fu_pos; omega) (fun i hi => q2 i (by omega))
      rw [e1, Option.bind_some]
      have er : rndF δ (m : Int) = incF δ m := by unfold rndF; rw [if_neg (by omega), if_pos hup.2, Int.toNat_natCast]
      have ec : rndC δ (m : Int) = incC δ m := by unfold rndC; rw [if_neg (by omega), if_pos hup.2, Int.toNat_natCast]
      rw [er, ec]
      refine ⟨_, _, n', rfl, e2, ?_⟩
      rw [Int.toNat_natCast] at hup
      constructor
      · intro q; omega
      · rintro (q | q | ⟨q, r⟩)
        · omega
        · omega
        · obtain rfl : m = 0 := by omega
          omega
    · have e0 : dd < 5 := by rw [← hdd]; split <;> omega
      rw [if_pos e0, if_pos trivial]
      have ec : rndC δ k = 0 := by
        unfold rndC
        by_cases q : k < 0
        · rw [if_pos q]
        · rw [if_neg q, if_neg (by omega)]
      rw [ec, Int.add_zero]
      by_cases hk0 : k ≤ 0
      · rw [if_pos (by omega), if_pos ⟨hk, hk0, hup⟩, Int.max_eq_right hk0]
        refine ⟨_, _, 0, rfl, ⟨rfl, by omega, fun i hi => by omega, fun i hi => ?_, ?_⟩, ?_⟩
        · unfold rndF
          by_cases q : k < 0
          · rw [if_pos q]
          · rw [if_neg q, if_neg (by omega), tr, if_neg (by omega)]
        · intro i
          unfold rndF
          by_cases q : k < 0
          · rw [if_pos q]; exact Nat.zero_le _
          · rw [if_neg q, if_neg (by omega)]; exact tr_le q4 _ _
        · constructor
          · intro _
            by_cases q : k < 0
            · exact Or.inr (Or.inl q)
            · have : k = 0 := by omega
              subst this
              exact Or.inr (Or.inr ⟨rfl, by rcases Nat.lt_or_ge (δ 0) 5 with r | r; exact r; exact absurd ⟨Int.le_refl 0, r⟩ hup⟩)
          · intro _; rfl
      · rw [if_neg (by omega), if_neg (by omega), Int.max_eq_left (by omega)]
        have er : rndF δ k = tr δ k.toNat := by unfold rndF; rw [if_neg (by omega), if_neg (by omega)]
        rw [er]
        refine ⟨_, _, k.toNat, rfl, ⟨by congr 1; omega, by omega, fun i hi => ?_, fun i hi => ?_, tr_le q4 _⟩, by omega⟩
        · rw [tr, if_pos hi]; exact q2 i (by omega)
        · rw [tr, if_neg (by omega)]
  · rw [if_neg hk, if_neg (by omega)]
    have ez : δ k.toNat = 0 := q3 _ (by omega)
    have ec : rndC δ k = 0 := by unfold rndC; rw [if_neg (by omega), if_neg (by omega)]
    have er : rndF δ k = δ := by
      unfold rndF
      rw [if_neg (by omega), if_neg (by omega)]
      funext i
      unfold tr
      by_cases q : i < k.toNat
      · rw [if_pos q]
      · rw [if_neg q]; exact (q3 i (by omega)).symm
    rw [ec, er, Int.add_zero]
    refine ⟨_, _, n, rfl, ⟨rfl, q1, q2, q3, q4⟩, ?_⟩
    constructor
    · intro q; exact Or.inl q
    · rintro (q | q | ⟨q, r⟩)
      · exact q
      · omega
      · omega
-- H
set_option maxRecDepth 10000 in
def dg (δ : Nat → Nat) (j : Int) : Int := if 0 ≤ j then (δ j.toNat : Int) else 0
set_option maxRecDepth 10000 in
theorem dg_b {δ : Nat → Nat} (h : ∀ i, δ i ≤ 9) (j : Int) : 0 ≤ dg δ j ∧ dg δ j ≤ 9 := by
  unfold dg; have := h j.toNat; split <;> omega
set_option maxRecDepth 10000 in
def wholeAt (δ : Nat → Nat) (p : Int) (g : Prop) [Decidable g] (L : Int) (i : Nat) : List Int32 := (if g ∧ 0 < i ∧ (L - i) % 3 = 0 then [iI 44] else []) ++ [iI (48 + dg δ (i + p - L))]
set_option maxRecDepth 10000 in
def wholeE (δ : Nat → Nat) (p : Int) (g : Prop) [Decidable g] : List Int32 := (List.range' 0 (max p 1).toNat).flatMap (wholeAt δ p g (max p 1))
set_option maxRecDepth 10000 in
def digE (δ : Nat → Nat) (f : Int) (m : Nat) : List Int32 := (List.range' 0 m).map (fun i : Nat => iI (48 + dg δ (f + (i : Int))))
set_option maxRecDepth 10000 in
theorem aw_loop {sz : Int32} {dc : Nat → Int32} {k : Nat} {δ : Nat → Nat} (hD : DL 792 sz dc k δ) {p L : Int} (hp : -100000 ≤ p) (hp' : p ≤ 100000) (hL : 1 ≤ L) (hL' : L ≤ 100000) (gv : Int32) {n : Nat} (hn : n < 2147483647) :
    ∀ (d i m : Nat) (len over : Int32) (c : Nat → Int32) (E : List Int32), (i : Int) + d = L → d < m → BY n len over c E →
    ∃ len' over' c', f_Dc_addWhole_12 m gv (iI L) (iI i) n (iI p) sz dc len over c = some (len', over', c') ∧ BY n len' over' c' (E ++ (List.range' i d).flatMap (wholeAt δ p (gv ≠ 0) L))
  | 0, i, m + 1, len, over, c, E, hi, hm, h => by
    unfold f_Dc_addWhole_12
    simp (disch := omega) only [iI_lit, iL_lit, iI_add, iI_sub, iI_mul, iI_neg, iL_add, iL_sub, iL_mul, iL_neg, iI_lt, iI_le, iI_eq, iL_lt, iL_le, iL_eqS, iI_c, iI_ok, iI_l, iL_i, iI_low, l_ushrI, l_shlI, l_shrI, i_shlI, i_shrI, i_ushrI, iI_div, iL_div, Int.toNat_natCast, Int.reduceToNat, iI_ofNat]
    rw [if_pos (by omega)]
    refine ⟨_, _, _, rfl, ?_⟩
    simp only [List.range'_zero, List.flatMap_nil, List.append_nil]
    exact h
  | d + 1, i, m + 1, len, over, c, E, hi, hm, h => by
    have hdg := dg_b hD.2.2.2.2 ((i : Int) + p - L)
    have step : ∀ (len over : Int32) (c : Nat → Int32) (E' : List Int32), BY n len over c E' → E' ++ [iI (48 + dg δ (i + p - L))] = E ++ wholeAt δ p (gv ≠ 0) L i →
        ∃ len' over' c', f_Dc_addWhole_42 (fun v2 v3 v4 a1_row_n o_point o_size o_digits_c a1_lengthq a1_overq a1_row_cq => f_Dc_addWhole_12 m v2 v3 v4 a1_row_n o_point o_size o_digits_c a1_lengthq a1_overq a1_row_cq) gv (iI L) (iI i) n (iI p) sz dc len over c = some (len', over', c') ∧ BY n len' over' c' (E ++ (List.range' i (d + 1)).flatMap (wholeAt δ p (gv ≠ 0) L)) := by
      intro len over c E' hB hE
      unfold f_Dc_addWhole_42
      simp (disch := omega) only [iI_lit, iL_lit, iI_add, iI_sub, iI_mul, iI_neg, iL_add, iL_sub, iL_mul, iL_neg, iI_lt, iI_le, iI_eq, iL_lt, iL_le, iL_eqS, iI_c, iI_ok, iI_l, iL_i, iI_low, l_ushrI, l_shlI, l_shrI, i_shlI, i_shrI, i_ushrI, iI_div, iL_div, Int.toNat_natCast, Int.reduceToNat, iI_ofNat]
      rw [digit_spec hD (by omega) (by omega), Option.bind_some]
      simp (disch := omega) only [iI_lit, iL_lit, iI_add, iI_sub, iI_mul, iI_neg, iL_add, iL_sub, iL_mul, iL_neg, iI_lt, iI_le, iI_eq, iL_lt, iL_le, iL_eqS, iI_c, iI_ok, iI_l, iL_i, iI_low, l_ushrI, l_shlI, l_shrI, i_shlI, i_shrI, i_ushrI, iI_div, iL_div, Int.toNat_natCast, Int.reduceToNat, iI_ofNat]
      obtain ⟨l1, o1, c1, e1, h1⟩ := add_spec hn hB (iI (48 + dg δ (i + p - L)))
      unfold dg at e1
      rw [e1, Option.bind_some]
      rw [sb_small (by omega) (by omega), hE] at h1
      obtain ⟨l2, o2, c2, e2, h2⟩ := aw_loop hD hp hp' hL hL' gv hn d (i + 1) m l1 o1 c1 _ (by omega) (by omega) h1
      refine ⟨l2, o2, c2, e2, ?_⟩
      rw [List.range'_succ, List.flatMap_cons, ← List.append_assoc]
      exact h2
    unfold f_Dc_addWhole_12
    by_cases hg : gv = 0
    · rw [if_pos hg]
      simp (disch := omega) only [iI_lit, iL_lit, iI_add, iI_sub, iI_mul, iI_neg, iL_add, iL_sub, iL_mul, iL_neg, iI_lt, iI_le, iI_eq, iL_lt, iL_le, iL_eqS, iI_c, iI_ok, iI_l, iL_i, iI_low, l_ushrI, l_shlI, l_shrI, i_shlI, i_shrI, i_ushrI, iI_div, iL_div, Int.toNat_natCast, Int.reduceToNat, iI_ofNat]
      rw [if_neg (by omega)]
      exact step len over c E h (by unfold wholeAt; rw [if_neg (by simp [hg]), List.nil_append])
    · rw [if_neg hg]
      have e3 : ((L : Int) - i) - (L - i) / 3 * 3 = (L - i) % 3 := by omega
      simp (disch := omega) only [iI_lit, iL_lit, iI_add, iI_sub, iI_mul, iI_neg, iL_add, iL_sub, iL_mul, iL_neg, iI_lt, iI_le, iI_eq, iL_lt, iL_le, iL_eqS, iI_c, iI_ok, iI_l, iL_i, iI_low, l_ushrI, l_shlI, l_shrI, i_shlI, i_shrI, i_ushrI, iI_div, iL_div, Int.toNat_natCast, Int.reduceToNat, iI_ofNat]
      rw [if_neg (by omega), e3]
      by_cases hi0 : (i : Int) ≤ 0
      · rw [if_pos hi0]
        exact step len over c E h (by unfold wholeAt; rw [if_neg (by omega), List.nil_append])
      · rw [if_neg hi0]
        by_cases h3 : (L - i) % 3 = 0
        · rw [if_pos h3]
          obtain ⟨l1, o1, c1, e1, h1⟩ := add_spec hn h (iI 44)
          rw [e1, Option.bind_some]
          rw [sb_small (by omega) (by omega)] at h1
          exact step l1 o1 c1 _ h1 (by unfold wholeAt; rw [if_pos ⟨hg, by omega, h3⟩, List.append_assoc])
        · rw [if_neg h3]
          exact step len over c E h (by unfold wholeAt; rw [if_neg (fun q => h3 q.2.2), List.nil_append])
set_option maxRecDepth 10000 in
theorem aw_spec {sz : Int32} {dc : Nat → Int32} {k : Nat} {δ : Nat → Nat} (hD : DL 792 sz dc k δ) {p : Int} (hp : -100000 ≤ p) (hp' : p < 100000) (gv : Int32) {n : Nat} (hn : n < 2147483647) {len over : Int32} {c : Nat → Int32} {E : List Int32} (h : BY n len over c E) :
    ∃ len' over' c', f_Dc_addWhole gv n (iI p) sz dc len over c = some (len', over', c') ∧ BY n len' over' c' (E ++ wholeE δ p (gv ≠ 0)) := by
  unfold f_Dc_addWhole
  simp (disch := omega) only [iI_lit, iL_lit, iI_add, iI_sub, iI_mul, iI_neg, iL_add, iL_sub, iL_mul, iL_neg, iI_lt, iI_le, iI_eq, iL_lt, iL_le, iL_eqS, iI_c, iI_ok, iI_l, iL_i, iI_low, l_ushrI, l_shlI, l_shrI, i_shlI, i_shrI, i_ushrI, iI_div, iL_div, Int.toNat_natCast, Int.reduceToNat, iI_ofNat]
  rw [max_spec (by omega) (by omega) (by omega) (by omega), Option.bind_some]
  exact aw_loop hD hp (by omega) (by omega) (by omega) gv hn (max p 1).toNat 0 gx_fu len over c E (by omega) (by have : 100000000 = gx_fu := rfl; omega) h
set_option maxRecDepth 10000 in
theorem ad_loop {sz : Int32} {dc : Nat → Int32} {k : Nat} {δ : Nat → Nat} (hD : DL 792 sz dc k δ) {f : Int} (hf : -100000 ≤ f) (hf' : f ≤ 100000) {many real : Nat} (hm1 : many ≤ 100000) (hr : (real : Int) = min (many : Int) (max ((k : Int) - f) 0)) {n : Nat} (hn : n < 10000000) :
    ∀ (d i m : Nat) (len over : Int32) (c : Nat → Int32) (E : List Int32), i + d = real → d < m → BY n len over c E →
    ∃ len' over' c', f_Dc_addDigits_19 m (iI f) (iI many) (iI real) (iI i) n sz len over dc c = some (len', over', c') ∧ BY n len' over' c' (E ++ (List.range' i (many - i)).map (fun i : Nat => iI (48 + dg δ (f + (i : Int)))))
  | 0, i, m + 1, len, over, c, E, hi, hm, h => by
    unfold f_Dc_addDigits_19
    simp (disch := omega) only [iI_lit, iL_lit, iI_add, iI_sub, iI_mul, iI_neg, iL_add, iL_sub, iL_mul, iL_neg, iI_lt, iI_le, iI_eq, iL_lt, iL_le, iL_eqS, iI_c, iI_ok, iI_l, iL_i, iI_low, l_ushrI, l_shlI, l_shrI, i_shlI, i_shrI, i_ushrI, iI_div, iL_div, Int.toNat_natCast, Int.reduceToNat, iI_ofNat]
    rw [if_pos (by omega)]
    obtain ⟨l1, o1, c1, e1, h1⟩ := atimes_spec hn h (iI 48) (k := (many : Int) - real) (by omega) (by omega)
    rw [e1, Option.bind_some]
    refine ⟨_, _, _, rfl, ?_⟩
    rw [sb_small (by omega) (by omega)] at h1
    have : List.replicate ((many : Int) - real).toNat (iI 48) = (List.range' i (many - i)).map (fun i : Nat => iI (48 + dg δ (f + (i : Int)))) := by
      apply List.ext_getElem?
      intro j
      rw [List.getElem?_replicate, List.getElem?_map]
      by_cases q : j < many - i
      · rw [if_pos (by omega), List.getElem?_range' q]
        simp only [Option.map_some]
        have hz : dg δ (f + ((i + 1 * j : Nat) : Int)) = 0 := by
          unfold dg
          by_cases s : 0 ≤ f + ((i + 1 * j : Nat) : Int)
          · rw [if_pos s, hD.2.2.2.1 _ (by omega)]; rfl
          · rw [if_neg s]
        rw [hz]; rfl
      · rw [if_neg (by omega), List.getElem?_eq_none (by simp; omega)]; rfl
    rw [this] at h1
    exact h1
  | d + 1, i, m + 1, len, over, c, E, hi, hm, h => by
    have hdg := dg_b hD.2.2.2.2 (f + i)
    unfold f_Dc_addDigits_19
    simp (disch := omega) only [iI_lit, iL_lit, iI_add, iI_sub, iI_mul, iI_neg, iL_add, iL_sub, iL_mul, iL_neg, iI_lt, iI_le, iI_eq, iL_lt, iL_le, iL_eqS, iI_c, iI_ok, iI_l, iL_i, iI_low, l_ushrI, l_shlI, l_shrI, i_shlI, i_shrI, i_ushrI, iI_div, iL_div, Int.toNat_natCast, Int.reduceToNat, iI_ofNat]
    rw [if_neg (by omega), digit_spec hD (by omega) (by omega), Option.bind_some]
    simp (disch := omega) only [iI_lit, iL_lit, iI_add, iI_sub, iI_mul, iI_neg, iL_add, iL_sub, iL_mul, iL_neg, iI_lt, iI_le, iI_eq, iL_lt, iL_le, iL_eqS, iI_c, iI_ok, iI_l, iL_i, iI_low, l_ushrI, l_shlI, l_shrI, i_shlI, i_shrI, i_ushrI, iI_div, iL_div, Int.toNat_natCast, Int.reduceToNat, iI_ofNat]
    obtain ⟨l1, o1, c1, e1, h1⟩ := add_spec (by omega) h (iI (48 + dg δ (f + i)))
    unfold dg at e1
    rw [e1, Option.bind_some]
    rw [sb_small (by omega) (by omega)] at h1
    obtain ⟨l2, o2, c2, e2, h2⟩ := ad_loop hD hf hf' hm1 hr hn d (i + 1) m l1 o1 c1 _ (by omega) (by omega) h1
    refine ⟨l2, o2, c2, e2, ?_⟩
    rw [show many - i = (many - (i + 1)) + 1 by omega, List.range'_succ, List.map_cons]
    rw [List.append_assoc, List.singleton_append] at h2
    exact h2
set_option maxRecDepth 10000 in
theorem ad_spec {sz : Int32} {dc : Nat → Int32} {k : Nat} {δ : Nat → Nat} (hD : DL 792 sz dc k δ) {f : Int} (hf : -100000 ≤ f) (hf' : f ≤ 100000) {many : Int} (hm0 : 0 ≤ many) (hm1 : many ≤ 100000) {n : Nat} (hn : n < 10000000) {len over : Int32} {c : Nat → Int32} {E : List Int32} (h : BY n len over c E) :
    ∃ len' over' c', f_Dc_addDigits (iI f) (iI many) n sz len over dc c = some (len', over', c') ∧ BY n len' over' c' (E ++ digE δ f many.toNat) := by
  unfold f_Dc_addDigits
  have hsz := hD.1
  have hk := hD.2.1
  subst hsz
  simp (disch := omega) only [iI_lit, iL_lit, iI_add, iI_sub, iI_mul, iI_neg, iL_add, iL_sub, iL_mul, iL_neg, iI_lt, iI_le, iI_eq, iL_lt, iL_le, iL_eqS, iI_c, iI_ok, iI_l, iL_i, iI_low, l_ushrI, l_shlI, l_shrI, i_shlI, i_shrI, i_ushrI, iI_div, iL_div, Int.toNat_natCast, Int.reduceToNat, iI_ofNat]
  rw [max_spec (by omega) (by omega) (by omega) (by omega), Option.bind_some, min_spec (by omega) (by omega) (by omega) (by omega), Option.bind_some]
  obtain ⟨real, hr⟩ : ∃ r : Nat, (r : Int) = min many (max ((k : Int) - f) 0) := ⟨(min many (max ((k : Int) - f) 0)).toNat, by omega⟩
  obtain ⟨mm, rfl⟩ : ∃ mm : Nat, many = mm := ⟨many.toNat, by omega⟩
  rw [← hr]
  have := ad_loop hD hf hf' (many := mm) (real := real) (by omega) hr hn real 0 gx_fu len over c E (by omega) (by have := fu_pos; have : 100000000 = gx_fu := rfl; omega) h
  exact this
set_option maxRecDepth 10000 in
def numAt (v w u d : Int) : List Int32 := if u ≤ v ∨ d ≤ w then [iI (48 + v / u % 10)] else []
set_option maxRecDepth 10000 in
def numE (v w : Int) : List Int32 := numAt v w 1000 4 ++ (numAt v w 100 3 ++ (numAt v w 10 2 ++ numAt v w 1 1))
set_option maxRecDepth 10000 in
theorem an_step {n : Nat} (hn : n < 2147483647) {v w u d : Int} (hv : 0 ≤ v) (hv' : v < 10000) (hw : 0 ≤ w) (hw' : w < 10) (hu : 1 ≤ u) (hu' : u ≤ 1000) (hd : 1 ≤ d) (hd' : d ≤ 4) {m : Nat} {len over : Int32} {c : Nat → Int32} {E : List Int32} (h : BY n len over c E) :
    ∃ len' over' c', f_By_addNumber_7 (m + 1) (iI v) (iI w) (iI u) (iI d) n len over c = f_By_addNumber_7 m (iI v) (iI w) (iI (max (u / 10) 1)) (iI (d - 1)) n len' over' c' ∧ BY n len' over' c' (E ++ numAt v w u d) := by
  rw [f_By_addNumber_7]
  have hq0 : 0 ≤ v / u := Int.ediv_nonneg hv (by omega)
  have hq1 : v / u ≤ v := Int.ediv_le_self _ hv
  have e36 : ∀ (len over : Int32) (c : Nat → Int32), f_By_addNumber_36 (fun v1 v2 v3 v4 o_row_n o_lengthq o_overq o_row_cq => f_By_addNumber_7 m v1 v2 v3 v4 o_row_n o_lengthq o_overq o_row_cq) (iI v) (iI w) (iI u) (iI d) n len over c = f_By_addNumber_7 m (iI v) (iI w) (iI (max (u / 10) 1)) (iI (d - 1)) n len over c := by
    intro len over c
    unfold f_By_addNumber_36
    simp (disch := omega) only [iI_lit, iL_lit, iI_add, iI_sub, iI_mul, iI_neg, iL_add, iL_sub, iL_mul, iL_neg, iI_lt, iI_le, iI_eq, iL_lt, iL_le, iL_eqS, iI_c, iI_ok, iI_l, iL_i, iI_low, l_ushrI, l_shlI, l_shrI, i_shlI, i_shrI, i_ushrI, iI_div, iL_div, Int.toNat_natCast, Int.reduceToNat, iI_ofNat]
    rw [max_spec (by omega) (by omega) (by omega) (by omega), Option.bind_some, show d + -1 = d - 1 by omega]
  have e23 : u ≤ v ∨ d ≤ w → ∃ len' over' c', f_By_addNumber_23 (fun v1 v2 v3 v4 o_row_n o_lengthq o_overq o_row_cq => f_By_addNumber_7 m v1 v2 v3 v4 o_row_n o_lengthq o_overq o_row_cq) (iI v) (iI w) (iI u) (iI d) n len over c = f_By_addNumber_7 m (iI v) (iI w) (iI (max (u / 10) 1)) (iI (d - 1)) n len' over' c' ∧ BY n len' over' c' (E ++ numAt v w u d) := by
    intro hor
    unfold f_By_addNumber_23
    simp (disch := omega) only [iI_lit, iL_lit, iI_add, iI_sub, iI_mul, iI_neg, iL_add, iL_sub, iL_mul, iL_neg, iI_lt, iI_le, iI_eq, iL_lt, iL_le, iL_eqS, iI_c, iI_ok, iI_l, iL_i, iI_low, l_ushrI, l_shlI, l_shrI, i_shlI, i_shrI, i_ushrI, iI_div, iL_div, Int.toNat_natCast, Int.reduceToNat, iI_ofNat]
    rw [if_pos (by omega), show v / u - v / u / 10 * 10 = v / u % 10 by omega]
    obtain ⟨l1, o1, c1, e1, h1⟩ := add_spec hn h (iI (48 + v / u % 10))
    rw [e1, Option.bind_some, e36]
    refine ⟨l1, o1, c1, rfl, ?_⟩
    unfold numAt
    rw [if_pos hor]
    rw [sb_small (by omega) (by omega)] at h1
    exact h1
  simp (disch := omega) only [iI_lit, iL_lit, iI_add, iI_sub, iI_mul, iI_neg, iL_add, iL_sub, iL_mul, iL_neg, iI_lt, iI_le, iI_eq, iL_lt, iL_le, iL_eqS, iI_c, iI_ok, iI_l, iL_i, iI_low, l_ushrI, l_shlI, l_shrI, i_shlI, i_shrI, i_ushrI, iI_div, iL_div, Int.toNat_natCast, Int.reduceToNat, iI_ofNat]
  rw [if_neg (by omega)]
  by_cases h1 : u ≤ v
  · rw [if_pos h1]; exact e23 (Or.inl h1)
  · rw [if_neg h1]
    by_cases h2 : w < d
    · rw [if_pos h2, e36]
      refine ⟨len, over, c, rfl, ?_⟩
      unfold numAt
      rw [if_neg (by omega), List.append_nil]
      exact h
    · rw [if_neg h2]; exact e23 (Or.inr (by omega))
set_option maxRecDepth 10000 in
theorem an_spec {n : Nat} (hn : n < 2147483647) {v w : Int} (hv : 0 ≤ v) (hv' : v < 10000) (hw : 0 ≤ w) (hw' : w < 10) {len over : Int32} {c : Nat → Int32} {E : List Int32} (h : BY n len over c E) :
    ∃ len' over' c', f_By_addNumber (iI v) (iI w) n len over c = some (len', over', c') ∧ BY n len' over' c' (E ++ numE v w) := by
  unfold f_By_addNumber
  obtain ⟨m, hm⟩ : ∃ m, gx_fu = m + 1 + 1 + 1 + 1 + 1 := ⟨gx_fu - 5, by have := fu_pos; omega⟩
  rw [hm]
  obtain ⟨l1, o1, c1, e1, h1⟩ := an_step hn (u := 1000) (d := 4) (m := m + 1 + 1 + 1 + 1) hv hv' hw hw' (by omega) (by omega) (by omega) (by omega) h
  obtain ⟨l2, o2, c2, e2, h2⟩ := an_step hn (u := 100) (d := 3) (m := m + 1 + 1 + 1) hv hv' hw hw' (by omega) (by omega) (by omega) (by omega) h1
  obtain ⟨l3, o3, c3, e3, h3⟩ := an_step hn (u := 10) (d := 2) (m := m + 1 + 1) hv hv' hw hw' (by omega) (by omega) (by omega) (by omega) h2
  obtain ⟨l4, o4, c4, e4, h4⟩ := an_step hn (u := 1) (d := 1) (m := m + 1) hv hv' hw hw' (by omega) (by omega) (by omega) (by omega) h3
  simp (disch := omega) only [iI_lit, iL_lit, iI_add, iI_sub, iI_mul, iI_neg, iL_add, iL_sub, iL_mul, iL_neg, iI_lt, iI_le, iI_eq, iL_lt, iL_le, iL_eqS, iI_c, iI_ok, iI_l, iL_i, iI_low, l_ushrI, l_shlI, l_shrI, i_shlI, i_shrI, i_ushrI, iI_div, iL_div, Int.toNat_natCast, Int.reduceToNat, iI_ofNat]
  rw [e1]
  rw [show max ((1000 : Int) / 10) 1 = 100 from rfl, show (4 : Int) - 1 = 3 from rfl, e2]
  rw [show max ((100 : Int) / 10) 1 = 10 from rfl, show (3 : Int) - 1 = 2 from rfl, e3]
  rw [show max ((10 : Int) / 10) 1 = 1 from rfl, show (2 : Int) - 1 = 1 from rfl, e4]
  rw [f_By_addNumber_7, if_pos (by decide)]
  refine ⟨_, _, _, rfl, ?_⟩
  unfold numE
  simp only [List.append_assoc] at h4
  exact h4
set_option maxRecDepth 10000 in
def intE (x : Int32) : List Int32 := [sb (iI (u3 x / 2 ^ 24)), sb (iI (u3 x / 2 ^ 16)), sb (iI (u3 x / 2 ^ 8)), sb x]
set_option maxRecDepth 10000 in
theorem aint_spec {n : Nat} (hn : n < 2147483647) (x : Int32) {len over : Int32} {c : Nat → Int32} {E : List Int32} (h : BY n len over c E) :
    ∃ len' over' c', f_By_addInt x n len over c = some (len', over', c') ∧ BY n len' over' c' (E ++ intE x) := by
  unfold f_By_addInt
  have hx0 := u3_0 x
  have hx1 := u3_l x
  have hx : x = iI (u3 x) := (i_u3 x).symm
  have e : ∀ s : Int, 0 ≤ s → s < 32 → (x.toUInt32 >>> ((iI s).toUInt32 &&& (iI 31).toUInt32)).toInt32 = iI (u3 x / 2 ^ s.toNat) := by
    intro s h1 h2
    have := i_ushrI h1 h2 hx0 hx1
    rw [← hx] at this
    exact this
  simp (disch := omega) only [iI_lit, iL_lit, iI_add, iI_sub, iI_mul, iI_neg, iL_add, iL_sub, iL_mul, iL_neg, iI_lt, iI_le, iI_eq, iL_lt, iL_le, iL_eqS, iI_c, iI_ok, iI_l, iL_i, iI_low, l_ushrI, l_shlI, l_shrI, i_shlI, i_shrI, i_ushrI, iI_div, iL_div, Int.toNat_natCast, Int.reduceToNat, iI_ofNat, e]
  obtain ⟨l1, o1, c1, e1, h1⟩ := add_spec hn h (iI (u3 x / 2 ^ 24))
  obtain ⟨l2, o2, c2, e2, h2⟩ := add_spec hn h1 (iI (u3 x / 2 ^ 16))
  obtain ⟨l3, o3, c3, e3, h3⟩ := add_spec hn h2 (iI (u3 x / 2 ^ 8))
  obtain ⟨l4, o4, c4, e4, h4⟩ := add_spec hn h3 x
  rw [e1, Option.bind_some, e2, Option.bind_some, e3, Option.bind_some, e4, Option.bind_some]
  refine ⟨_, _, _, rfl, ?_⟩
  simp only [List.append_assoc, List.singleton_append] at h4
  exact h4
-- I
set_option maxRecDepth 10000 in
def szD (s : Nat) : Nat := if s = 0 then 53 else 24
set_option maxRecDepth 10000 in
def szL (s : Nat) : Int := if s = 0 then -1074 else -149
set_option maxRecDepth 10000 in
def szG (s : Nat) : Int := if s = 0 then 971 else 104
set_option maxRecDepth 10000 in
def szS (s : Nat) : Nat := if s = 0 then 63 else 31
set_option maxRecDepth 10000 in
def szK (s : Nat) : Nat := if s = 0 then 11 else 8
set_option maxRecDepth 10000 in
def biF (s : Nat) (u : Int) : Int := u % 2 ^ (szD s - 1)
set_option maxRecDepth 10000 in
def biX (s : Nat) (u : Int) : Int := u / 2 ^ (szD s - 1) % 2 ^ szK s
set_option maxRecDepth 10000 in
def biN (s : Nat) (u : Int) : Int := if biX s u = 2 ^ szK s - 1 ∧ biF s u ≠ 0 then 1 else 0
set_option maxRecDepth 10000 in
def biI (s : Nat) (u : Int) : Int := if biX s u = 2 ^ szK s - 1 ∧ biF s u = 0 then 1 else 0
set_option maxRecDepth 10000 in
def biS (s : Nat) (u : Int) : Int := if biX s u = 2 ^ szK s - 1 ∧ biF s u ≠ 0 then 0 else u / 2 ^ szS s % 2
set_option maxRecDepth 10000 in
def biC (s : Nat) (u : Int) : Int := if biX s u = 0 then biF s u else biF s u + 2 ^ (szD s - 1)
set_option maxRecDepth 10000 in
def biQ (s : Nat) (u : Int) : Int := szL s + max (biX s u - 1) 0
set_option maxRecDepth 10000 in
theorem iL_mask {a : Int} {k : Nat} (h : 0 ≤ a) (h' : a < 18446744073709551616) (hk : k < 64) : iL a &&& iL (2 ^ k - 1) = iL (a % 2 ^ k) := by
  have hp := p2_pos k
  have hm : (2 : Int) ^ k ≤ 2 ^ 63 := p2_mono (by omega)
  have e63 : (2 : Int) ^ 63 = 9223372036854775808 := rfl
  rw [iL_and h h' (by omega) (by omega)]
  congr 1
  have e1 : ((2 : Int) ^ k - 1).toNat = 2 ^ k - 1 := by
    have : ((2 ^ k : Nat) : Int) = 2 ^ k := by simp
    omega
  rw [e1, Nat.and_two_pow_sub_one_eq_mod]
  have : ((2 ^ k : Nat) : Int) = 2 ^ k := by simp
  rw [Int.natCast_emod, Int.toNat_of_nonneg h, this]
set_option maxRecDepth 10000 in
theorem iI_mask {a : Int} {k : Nat} (hk : k < 32) : iI a &&& iI (2 ^ k - 1) = iI (a % 2 ^ k) := by
  have hp := p2_pos k
  have hm : (2 : Int) ^ k ≤ 2 ^ 31 := p2_mono (by omega)
  have e31 : (2 : Int) ^ 31 = 2147483648 := rfl
  rw [← iI_emod a, iI_and (by omega) (by omega) (by omega) (by omega)]
  congr 1
  have e1 : ((2 : Int) ^ k - 1).toNat = 2 ^ k - 1 := by
    have : ((2 ^ k : Nat) : Int) = 2 ^ k := by simp
    omega
  rw [e1, Nat.and_two_pow_sub_one_eq_mod]
  have : ((2 ^ k : Nat) : Int) = 2 ^ k := by simp
  rw [Int.natCast_emod, Int.toNat_of_nonneg (by omega), this]
  have : (4294967296 : Int) = 2 ^ k * 2 ^ (32 - k) := by rw [← Int.pow_add, show k + (32 - k) = 32 by omega]; rfl
  rw [this]
  exact Int.emod_emod_of_dvd a (Int.dvd_mul_right _ _)
set_option maxRecDepth 10000 in
theorem one_and {a : Int} (h : 0 ≤ a) (h' : a < 18446744073709551616) : iL a &&& iL 1 = iL (a % 2) := iL_mask (k := 1) h h' (by omega)
set_option maxRecDepth 10000 in
theorem sz_cases {s : Nat} (h : s < 2) : (s = 0 ∧ szD s = 53 ∧ szL s = -1074 ∧ szG s = 971 ∧ szS s = 63 ∧ szK s = 11) ∨ (s = 1 ∧ szD s = 24 ∧ szL s = -149 ∧ szG s = 104 ∧ szS s = 31 ∧ szK s = 8) := by
  have : s = 0 ∨ s = 1 := by omega
  rcases this with rfl | rfl
  · exact Or.inl ⟨rfl, rfl, rfl, rfl, rfl, rfl⟩
  · exact Or.inr ⟨rfl, rfl, rfl, rfl, rfl, rfl⟩
set_option maxRecDepth 10000 in
theorem gz {s : Nat} (h : s < 2) : (gx_sz 0).getD s (iI 0) = iI (szD s) ∧ (gx_sz 1).getD s (iI 0) = iI (szL s) ∧ (gx_sz 2).getD s (iI 0) = iI (szG s) ∧ (gx_sz 3).getD s (iI 0) = iI (szS s) := by
  have : s = 0 ∨ s = 1 := by omega
  rcases this with rfl | rfl
  · exact ⟨rfl, rfl, rfl, rfl⟩
  · exact ⟨rfl, rfl, rfl, rfl⟩
set_option maxRecDepth 10000 in
theorem tk138 {s : Nat} (hs : s < 2) {X : Int} (hX0 : 0 ≤ X) (hX1 : X < 10000) (a b d : Int32) (z : Nat) (t c0 : Int64) (q0 : Int32) : f_Bi_take_138 s (iI X) t a z b d c0 q0 = some (a, z, b, d, t, iI (szL s + max (X - 1) 0)) := by
  unfold f_Bi_take_138
  rw [if_pos hs]
  simp (disch := omega) only [iI_lit, iL_lit, iI_add, iI_sub, iI_mul, iI_neg, iL_add, iL_sub, iL_mul, iL_neg, iI_lt, iI_le, iI_eq, iL_lt, iL_le, iL_eqS, iI_c, iI_ok, iI_l, iL_i, iI_low, l_ushrI, l_shlI, l_shrI, i_shlI, i_shrI, i_ushrI, iI_div, iL_div, Int.toNat_natCast, Int.reduceToNat, iI_ofNat]
  rw [max_spec (by omega) (by omega) (by omega) (by omega), Option.bind_some, (gz hs).2.1, iI_add]
set_option maxRecDepth 10000 in
theorem p2_52 {s : Nat} (hs : s < 2) {F X : Int} (hX0 : 0 ≤ X) (hX1 : X < 10000) (hF0 : 0 ≤ F) (hF1 : F < 2 ^ (szD s - 1)) : (2 : Int) ^ (szD s - 1) ≤ 4503599627370496 ∧ szD s - 1 < 63 ∧ 0 < szD s := by
  rcases sz_cases hs with h | h
  · rw [h.2.1]; exact ⟨by decide, by omega, by omega⟩
  · rw [h.2.1]; exact ⟨by decide, by omega, by omega⟩
set_option maxRecDepth 10000 in
theorem tk113 {s : Nat} (hs : s < 2) {F X : Int} (hX0 : 0 ≤ X) (hX1 : X < 10000) (hF0 : 0 ≤ F) (hF1 : F < 2 ^ (szD s - 1)) (a b d : Int32) (z : Nat) (c0 : Int64) (q0 : Int32) {zv : Int} (hz : zv = 0 ∨ zv = 1) : f_Bi_take_113 s (iL F) (iI X) (iI zv) a z b d c0 q0 = some (a, z, b, iI zv, iL (if X = 0 then F else F + 2 ^ (szD s - 1)), iI (szL s + max (X - 1) 0)) := by
  unfold f_Bi_take_113
  obtain ⟨hp, hk, hd⟩ := p2_52 hs hX0 hX1 hF0 hF1
  have hb : gx_bo (iI zv) = true := by rcases hz with rfl | rfl <;> rfl
  rw [if_pos hb]
  simp (disch := omega) only [iI_lit, iL_lit, iI_add, iI_sub, iI_mul, iI_neg, iL_add, iL_sub, iL_mul, iL_neg, iI_lt, iI_le, iI_eq, iL_lt, iL_le, iL_eqS, iI_c, iI_ok, iI_l, iL_i, iI_low, l_ushrI, l_shlI, l_shrI, i_shlI, i_shrI, i_ushrI, iI_div, iL_div, Int.toNat_natCast, Int.reduceToNat, iI_ofNat]
  by_cases h : X = 0
  · rw [if_pos h, if_pos h, tk138 hs hX0 hX1]
  · rw [if_neg h, if_neg h, if_pos hs, (gz hs).1, tk138 hs hX0 hX1]
    simp (disch := omega) only [iI_lit, iL_lit, iI_add, iI_sub, iI_mul, iI_neg, iL_add, iL_sub, iL_mul, iL_neg, iI_lt, iI_le, iI_eq, iL_lt, iL_le, iL_eqS, iI_c, iI_ok, iI_l, iL_i, iI_low, l_ushrI, l_shlI, l_shrI, i_shlI, i_shrI, i_ushrI, iI_div, iL_div, Int.toNat_natCast, Int.reduceToNat, iI_ofNat]
    rw [show ((szD s : Int) - 1).toNat = szD s - 1 by omega, Int64.or_comm, iL_orK (szD s - 1) (by omega) hF0 hF1 (by omega), Int.one_mul, Int.add_comm]
set_option maxRecDepth 10000 in
theorem tk84 {s : Nat} (hs : s < 2) {u F X : Int} (hX0 : 0 ≤ X) (hX1 : X < 10000) (hF0 : 0 ≤ F) (hF1 : F < 2 ^ (szD s - 1)) (hu0 : 0 ≤ u) (hu1 : u < 18446744073709551616) (b d : Int32) (z : Nat) (c0 : Int64) (q0 : Int32) {nv iv : Int} (hn : nv = 0 ∨ nv = 1) (hi : iv = 0 ∨ iv = 1) : f_Bi_take_84 s (iL u) (iL F) (iI X) (iI iv) (iI nv) z b d c0 q0 = some (iI nv, z, iI iv, iI (if nv = 1 then 0 else u / 2 ^ szS s % 2), iL (if X = 0 then F else F + 2 ^ (szD s - 1)), iI (szL s + max (X - 1) 0)) := by
  unfold f_Bi_take_84 f_Bi_take_112
  have hb : gx_bo (iI iv) = true := by rcases hi with rfl | rfl <;> rfl
  have hS : szS s < 64 := by rcases sz_cases hs with h | h <;> omega
  rw [if_pos hb]
  simp only [show (0 : Int32) = iI 0 from rfl, show (1 : Int32) = iI 1 from rfl, tk113 hs hX0 hX1 hF0 hF1 _ _ _ _ _ _ (Or.inl rfl), tk113 hs hX0 hX1 hF0 hF1 _ _ _ _ _ _ (Or.inr rfl)]
  rcases hn with rfl | rfl
  · rw [if_pos rfl, if_pos hs, if_neg (show ¬ ((0 : Int) = 1) by decide), (gz hs).2.2.2]
    simp (disch := omega) only [iI_lit, iL_lit, iI_add, iI_sub, iI_mul, iI_neg, iL_add, iL_sub, iL_mul, iL_neg, iI_lt, iI_le, iI_eq, iL_lt, iL_le, iL_eqS, iI_c, iI_ok, iI_l, iL_i, iI_low, l_ushrI, l_shlI, l_shrI, i_shlI, i_shrI, i_ushrI, iI_div, iL_div, Int.toNat_natCast, Int.reduceToNat, iI_ofNat]
    have h2 : 0 ≤ u / 2 ^ szS s := Int.ediv_nonneg hu0 (Int.le_of_lt (p2_pos _))
    have h3 : u / 2 ^ szS s ≤ u := Int.ediv_le_self _ hu0
    rw [one_and h2 (by omega)]
    have hq : u / 2 ^ szS s % 2 = 0 ∨ u / 2 ^ szS s % 2 = 1 := by omega
    rcases hq with q | q
    · rw [q, if_pos rfl]
    · rw [q, if_neg (by decide)]
  · rw [if_neg (by decide), if_pos (show (1 : Int) = 1 from rfl)]
set_option maxRecDepth 10000 in
theorem tk63 {s : Nat} (hs : s < 2) {u F X : Int} (hX0 : 0 ≤ X) (hX1 : X < 10000) (hF0 : 0 ≤ F) (hF1 : F < 2 ^ (szD s - 1)) (hu0 : 0 ≤ u) (hu1 : u < 18446744073709551616) (a b d : Int32) (z : Nat) (c0 : Int64) (q0 : Int32) {nv sp : Int} (hn : nv = 0 ∨ nv = 1) (hsp : sp = 0 ∨ sp = 1) : f_Bi_take_63 s (iL u) (iL F) (iI X) (iI sp) (iI nv) a z b d c0 q0 = some (iI nv, z, iI (if sp = 1 ∧ F = 0 then 1 else 0), iI (if nv = 1 then 0 else u / 2 ^ szS s % 2), iL (if X = 0 then F else F + 2 ^ (szD s - 1)), iI (szL s + max (X - 1) 0)) := by
  obtain ⟨hp, hk, hd⟩ := p2_52 hs hX0 hX1 hF0 hF1
  unfold f_Bi_take_63 f_Bi_take_83
  have hb : gx_bo (iI nv) = true := by rcases hn with rfl | rfl <;> rfl
  rw [if_pos hb]
  simp only [show (0 : Int32) = iI 0 from rfl, show (1 : Int32) = iI 1 from rfl, tk84 hs hX0 hX1 hF0 hF1 hu0 hu1 _ _ _ _ _ hn (Or.inl rfl), tk84 hs hX0 hX1 hF0 hF1 hu0 hu1 _ _ _ _ _ hn (Or.inr rfl)]
  rcases hsp with rfl | rfl
  · rw [if_pos rfl, if_neg (show ¬ ((0 : Int) = 1 ∧ F = 0) by omega)]
  · rw [if_neg (by decide)]
    simp (disch := omega) only [iI_lit, iL_lit, iI_add, iI_sub, iI_mul, iI_neg, iL_add, iL_sub, iL_mul, iL_neg, iI_lt, iI_le, iI_eq, iL_lt, iL_le, iL_eqS, iI_c, iI_ok, iI_l, iL_i, iI_low, l_ushrI, l_shlI, l_shrI, i_shlI, i_shrI, i_ushrI, iI_div, iL_div, Int.toNat_natCast, Int.reduceToNat, iI_ofNat]
    by_cases h : F = 0
    · simp [h]
    · simp [h]
set_option maxRecDepth 10000 in
theorem tk43 {s : Nat} (hs : s < 2) {u F X : Int} (hX0 : 0 ≤ X) (hX1 : X < 10000) (hF0 : 0 ≤ F) (hF1 : F < 2 ^ (szD s - 1)) (hu0 : 0 ≤ u) (hu1 : u < 18446744073709551616) (a b d : Int32) (z : Nat) (c0 : Int64) (q0 : Int32) {sp : Int} (hsp : sp = 0 ∨ sp = 1) : f_Bi_take_43 s (iL u) (iL F) (iI X) (iI sp) a z b d c0 q0 = some (iI (if sp = 1 ∧ F ≠ 0 then 1 else 0), z, iI (if sp = 1 ∧ F = 0 then 1 else 0), iI (if sp = 1 ∧ F ≠ 0 then 0 else u / 2 ^ szS s % 2), iL (if X = 0 then F else F + 2 ^ (szD s - 1)), iI (szL s + max (X - 1) 0)) := by
  obtain ⟨hp, hk, hd⟩ := p2_52 hs hX0 hX1 hF0 hF1
  unfold f_Bi_take_43 f_Bi_take_62
  simp only [show (0 : Int32) = iI 0 from rfl, show (1 : Int32) = iI 1 from rfl, tk63 hs hX0 hX1 hF0 hF1 hu0 hu1 _ _ _ _ _ _ (Or.inl rfl) hsp, tk63 hs hX0 hX1 hF0 hF1 hu0 hu1 _ _ _ _ _ _ (Or.inr rfl) hsp]
  rcases hsp with rfl | rfl
  · rw [if_pos rfl]; simp
  · rw [if_neg (by decide)]
    simp (disch := omega) only [iI_lit, iL_lit, iI_add, iI_sub, iI_mul, iI_neg, iL_add, iL_sub, iL_mul, iL_neg, iI_lt, iI_le, iI_eq, iL_lt, iL_le, iL_eqS, iI_c, iI_ok, iI_l, iL_i, iI_low, l_ushrI, l_shlI, l_shrI, i_shlI, i_shrI, i_ushrI, iI_div, iL_div, Int.toNat_natCast, Int.reduceToNat, iI_ofNat]
    by_cases h : F = 0
    · simp [h]
    · simp [h]
set_option maxRecDepth 10000 in
theorem take_spec {s : Nat} (hs : s < 2) {u : Int} (h0 : 0 ≤ u) (h1 : u < 18446744073709551616) (a b d : Int32) (z : Nat) (e : Int64) (f : Int32) :
    f_Bi_take s (iL u) a z b d e f = some (iI (biN s u), s, iI (biI s u), iI (biS s u), iL (biC s u), iI (biQ s u)) := by
  unfold f_Bi_take f_Sz_fractionMask f_Sz_exponentMask
  have hk : szD s - 1 < 63 ∧ 0 < szD s ∧ szK s < 12 ∧ szG s - szL s + 2 = 2 ^ szK s - 1 ∧ (2 : Int) ^ szK s ≤ 2048 := by
    rcases sz_cases hs with h | h
    · obtain ⟨_, h1, h2, h3, _, h4⟩ := h; rw [h1, h2, h3, h4]; decide
    · obtain ⟨_, h1, h2, h3, _, h4⟩ := h; rw [h1, h2, h3, h4]; decide
  obtain ⟨k1, k2, k3, k4, k5⟩ := hk
  simp only [if_pos hs, Option.bind_some, show (0 : Int32) = iI 0 from rfl, (gz hs).1, (gz hs).2.1, (gz hs).2.2.1]
  simp (disch := omega) only [iI_lit, iL_lit, iI_add, iI_sub, iI_mul, iI_neg, iL_add, iL_sub, iL_mul, iL_neg, iI_lt, iI_le, iI_eq, iL_lt, iL_le, iL_eqS, iI_c, iI_ok, iI_l, iL_i, iI_low, l_ushrI, l_shlI, l_shrI, i_shlI, i_shrI, i_ushrI, iI_div, iL_div, Int.toNat_natCast, Int.reduceToNat, iI_ofNat]
  rw [show ((szD s : Int) - 1).toNat = szD s - 1 by omega, Int.one_mul, k4, iL_mask h0 h1 (by omega), iI_mask (by omega)]
  have hX0 : 0 ≤ biX s u := Int.emod_nonneg _ (by have := p2_pos (szK s); omega)
  have hX1 : biX s u < 2 ^ szK s := Int.emod_lt_of_pos _ (p2_pos _)
  have hF0 : 0 ≤ biF s u := Int.emod_nonneg _ (by have := p2_pos (szD s - 1); omega)
  have hF1 : biF s u < 2 ^ (szD s - 1) := Int.emod_lt_of_pos _ (p2_pos _)
  show (if iI (biX s u) = iI (2 ^ szK s - 1) then f_Bi_take_43 s (iL u) (iL (biF s u)) (iI (biX s u)) (iI 1) a s b d e f else f_Bi_take_43 s (iL u) (iL (biF s u)) (iI (biX s u)) (iI 0) a s b d e f) = _
  rw [tk43 hs hX0 (by omega) hF0 hF1 h0 h1 _ _ _ _ _ _ (Or.inl rfl), tk43 hs hX0 (by omega) hF0 hF1 h0 h1 _ _ _ _ _ _ (Or.inr rfl)]
  simp (disch := omega) only [iI_lit, iL_lit, iI_add, iI_sub, iI_mul, iI_neg, iL_add, iL_sub, iL_mul, iL_neg, iI_lt, iI_le, iI_eq, iL_lt, iL_le, iL_eqS, iI_c, iI_ok, iI_l, iL_i, iI_low, l_ushrI, l_shlI, l_shrI, i_shlI, i_shrI, i_ushrI, iI_div, iL_div, Int.toNat_natCast, Int.reduceToNat, iI_ofNat]
  unfold biN biI biS biC biQ
  by_cases q : biX s u = 2 ^ szK s - 1
  · rw [if_pos q]; simp [q]
  · rw [if_neg q]; simp [q]
set_option maxRecDepth 10000 in
theorem uneven_spec {s : Nat} (hs : s < 2) {c q : Int} (h0 : 0 ≤ c) (h1 : c < 9223372036854775808) (hq0 : -2000 ≤ q) (hq1 : q ≤ 2000) : f_Bi_isUneven (iL c) s (iI q) = some (iI (if c = 2 ^ (szD s - 1) ∧ szL s < q then 1 else 0)) := by
  unfold f_Bi_isUneven f_Bi_isUneven_37
  have hk : szD s - 1 < 63 ∧ 0 < szD s ∧ -2000 < szL s ∧ szL s < 0 ∧ (2 : Int) ^ (szD s - 1) ≤ 4503599627370496 := by
    rcases sz_cases hs with h | h
    · obtain ⟨_, h1, h2, _⟩ := h; rw [h1, h2]; decide
    · obtain ⟨_, h1, h2, _⟩ := h; rw [h1, h2]; decide
  have hp := p2_pos (szD s - 1)
  simp only [if_pos hs, show (0 : Int32) = iI 0 from rfl, (gz hs).1, (gz hs).2.1]
  simp (disch := omega) only [iI_lit, iL_lit, iI_add, iI_sub, iI_mul, iI_neg, iL_add, iL_sub, iL_mul, iL_neg, iI_lt, iI_le, iI_eq, iL_lt, iL_le, iL_eqS, iI_c, iI_ok, iI_l, iL_i, iI_low, l_ushrI, l_shlI, l_shrI, i_shlI, i_shrI, i_ushrI, iI_div, iL_div, Int.toNat_natCast, Int.reduceToNat, iI_ofNat]
  rw [show ((szD s : Int) - 1).toNat = szD s - 1 by omega, Int.one_mul]
  simp (disch := omega) only [iI_lit, iL_lit, iI_add, iI_sub, iI_mul, iI_neg, iL_add, iL_sub, iL_mul, iL_neg, iI_lt, iI_le, iI_eq, iL_lt, iL_le, iL_eqS, iI_c, iI_ok, iI_l, iL_i, iI_low, l_ushrI, l_shlI, l_shrI, i_shlI, i_shrI, i_ushrI, iI_div, iL_div, Int.toNat_natCast, Int.reduceToNat, iI_ofNat]
  by_cases q1 : c = 2 ^ (szD s - 1)
  · rw [if_pos q1]
    by_cases q2 : q ≤ szL s
    · rw [if_pos q2, if_neg (by omega)]
    · rw [if_neg q2, if_pos ⟨q1, by omega⟩]
  · rw [if_neg q1, if_neg (fun r => q1 r.1)]
