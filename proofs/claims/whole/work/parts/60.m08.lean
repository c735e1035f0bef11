-- N3
set_option maxRecDepth 10000 in
theorem rowP_us {us us' : Int32} {N q : Int} {x} (h : rowP us N q x) : rowP us' N q x := h
set_option maxRecDepth 10000 in
theorem r54 {q : Int} (hq0 : -2000 ≤ q) (hq1 : q ≤ 2000) (rn rp : Int32) (c : Nat → Int32) : ∀ (d k m : Nat) (us : Int32) (lc : Nat → Int64) (N : Int), (k : Int) + d = (if 0 < q then q else 0) → k % 29 = 0 → d < m → LR us lc N → N * 2 ^ d * 5 ^ (if q < 0 then (-q).toNat else 0) < 2 ^ 2600 → rowP us (N * 2 ^ d * 5 ^ (if q < 0 then (-q).toNat else 0)) q (f_Md_row_54 m (iI q) (iI k) us rn c lc rp)
  | d, k, 0, us, lc, N, hk, h12, hm, h, hb => by omega
  | d, k, m + 1, us, lc, N, hk, h12, hm, h, hb => by
    have hN := LR_nn h
    have hp140 := p9_140
    have hp150 := p9_150
    have end93 : ∀ (us : Int32) (lc : Nat → Int64) (N : Int), LR us lc N → N * 5 ^ (if q < 0 then (-q).toNat else 0) < 2 ^ 2600 → rowP us (N * 5 ^ (if q < 0 then (-q).toNat else 0)) q (f_Md_row_90 (iI q) us rn c lc rp) := by
      intro us lc N h hb
      unfold f_Md_row_90
      exact r93 hq0 hq1 rn rp c (if q < 0 then (-q).toNat else 0) 0 gx_fu us lc N (by split <;> omega) (by omega) (by have := fu_pos; split <;> omega) h hb
    rw [f_Md_row_54]
    simp (disch := omega) only [iI_lit, iL_lit, iI_add, iI_sub, iI_mul, iI_neg, iL_add, iL_sub, iL_mul, iL_neg, iI_lt, iI_le, iI_eq, iL_lt, iL_le, iL_eqS, iI_c, iI_ok, iI_l, iL_i, iI_low, l_ushrI, l_shlI, l_shrI, i_shlI, i_shrI, i_ushrI, iI_div, iL_div, Int.toNat_natCast, Int.reduceToNat, iI_ofNat]
    by_cases hlt : q < (k : Int) + 29
    · rw [if_pos hlt]
      by_cases hq : q ≤ 0
      · rw [if_pos hq]
        rw [if_neg (by omega)] at hk
        have hd0 : d = 0 := by omega
        subst hd0
        rw [Int.pow_zero, Int.mul_one] at *
        exact end93 us lc N h hb
      · rw [if_neg hq]
        rw [if_pos (by omega)] at hk
        have hn : ¬ q < 0 := by omega
        rw [if_neg hn] at *
        rw [Int.pow_zero, Int.mul_one] at *
        have hmod : q - q / 29 * 29 = (d : Int) := by omega
        rw [hmod]
        simp (disch := omega) only [iI_lit, iL_lit, iI_add, iI_sub, iI_mul, iI_neg, iL_add, iL_sub, iL_mul, iL_neg, iI_lt, iI_le, iI_eq, iL_lt, iL_le, iL_eqS, iI_c, iI_ok, iI_l, iL_i, iI_low, l_ushrI, l_shlI, l_shrI, i_shlI, i_shrI, i_ushrI, iI_div, iL_div, Int.toNat_natCast, Int.reduceToNat, iI_ofNat]
        rw [Int.one_mul]
        have hp2 : (2 : Int) ^ d ≤ 2 ^ 28 := p2_mono (by omega)
        have e28 : (2 : Int) ^ 28 = 268435456 := rfl
        obtain ⟨us1, lc1, e1, h1⟩ := mtimes_spec h (k := 2 ^ d) (p2_pos d) (by omega) (by omega)
        rw [e1, Option.bind_some]
        have := end93 us1 lc1 (N * 2 ^ d) h1 (by rw [Int.mul_one]; exact hb)
        rw [Int.mul_one] at this
        exact this
    · rw [if_neg hlt]
      have hq : 0 < q := by omega
      rw [if_pos hq] at hk
      have e2 : (2 : Int) ^ d = 536870912 * 2 ^ (d - 29) := by rw [show (536870912 : Int) = 2 ^ 29 from rfl, ← Int.pow_add]; congr 1; omega
      have hp := p2_pos (d - 29)
      have hn : ¬ q < 0 := by omega
      rw [if_neg hn] at *
      rw [Int.pow_zero, Int.mul_one] at *
      have hle : N * 536870912 ≤ N * 2 ^ d := by
        rw [e2]
        exact Int.mul_le_mul_of_nonneg_left (by omega) hN
      obtain ⟨us1, lc1, e1, h1⟩ := mtimes_spec h (k := 536870912) (by omega) (by omega) (by omega)
      rw [e1, Option.bind_some]
      have ee : N * 2 ^ d = N * 536870912 * 2 ^ (d - 29) := by rw [e2, Int.mul_assoc]
      rw [ee]
      rw [ee] at hb
      have := r54 hq0 hq1 rn rp c (d - 29) (k + 29) m us1 lc1 (N * 536870912) (by rw [if_pos hq]; omega) (by omega) (by omega) h1 (by rw [if_neg hn, Int.pow_zero, Int.mul_one]; exact hb)
      rw [if_neg hn, Int.pow_zero, Int.mul_one] at this
      exact this
set_option maxRecDepth 10000 in
def mantI (c q : Int) : Int := c * (if 0 ≤ q then 2 ^ q.toNat else 5 ^ (-q).toNat)
set_option maxRecDepth 10000 in
theorem mantI_eq (c q : Int) : c * 2 ^ (if 0 < q then q.toNat else 0) * 5 ^ (if q < 0 then (-q).toNat else 0) = mantI c q := by
  unfold mantI
  by_cases h : 0 ≤ q
  · rw [if_pos h, if_neg (show ¬ q < 0 by omega), Int.pow_zero, Int.mul_one]
    by_cases h2 : 0 < q
    · rw [if_pos h2]
    · rw [if_neg h2, show q = 0 by omega]; rfl
  · rw [if_neg h, if_neg (show ¬ 0 < q by omega), if_pos (show q < 0 by omega), Int.pow_zero, Int.mul_one]
set_option maxRecDepth 10000 in
theorem r8 {q : Int} (hq0 : -2000 ≤ q) (hq1 : q ≤ 2000) (rn rp : Int32) (c : Nat → Int32) {C : Int} (hC0 : 0 ≤ C) (hC1 : C < 9223372036854775808) (hb : mantI C q < 2 ^ 2600) : ∀ (f s m : Nat) (lc : Nat → Int64) (X : Int), X < 1000000000 ^ f → s + f = 4 → f < m → 0 ≤ X → X < 9223372036854775808 → (∀ i, i < s → u6 (lc i) < 1000000000) → lv lc s + X * 1000000000 ^ s = C → (X = 0 → 0 < s → 1000000000 ^ (s - 1) ≤ C) → rowP (iI 0) (mantI C q) q (f_Md_row_8 m (iI q) (iL X) (iI s) rn c lc rp) := by
  intro f
  have fin : ∀ (s m : Nat) (lc : Nat → Int64), s ≤ 4 → (∀ i, i < s → u6 (lc i) < 1000000000) → lv lc s = C → (0 < s → 1000000000 ^ (s - 1) ≤ C) → rowP (iI 0) (mantI C q) q (f_Md_row_8 (m + 1) (iI q) (iL 0) (iI s) rn c lc rp) := by
    intro s m lc hs h9 hv htop
    rw [f_Md_row_8, if_pos (by decide)]
    have := r54 hq0 hq1 rn rp c (if 0 < q then q.toNat else 0) 0 gx_fu (iI s) lc C (by split <;> omega) (by omega) (by have := fu_pos; split <;> omega) ⟨s, rfl, by omega, h9, htop, hv⟩ (by rw [mantI_eq]; exact hb)
    rw [mantI_eq] at this
    exact this
  induction f with
  | zero =>
    intro s m lc X hX hs hm hX0 hX1 h9 hv htop
    obtain ⟨m, rfl⟩ : ∃ m', m = m' + 1 := ⟨m - 1, by omega⟩
    rw [Int.pow_zero] at hX
    obtain rfl : X = 0 := by omega
    exact fin s m lc (by omega) h9 (by rw [Int.zero_mul, Int.add_zero] at hv; exact hv) (htop rfl)
  | succ f ih =>
    intro s m lc X hX hs hm hX0 hX1 h9 hv htop
    obtain ⟨m, rfl⟩ : ∃ m', m = m' + 1 := ⟨m - 1, by omega⟩
    by_cases hz : X = 0
    · subst hz
      exact fin s m lc (by omega) h9 (by rw [Int.zero_mul, Int.add_zero] at hv; exact hv) (htop rfl)
    · rw [f_Md_row_8]
      simp (disch := omega) only [iI_lit, iL_lit, iI_add, iI_sub, iI_mul, iI_neg, iL_add, iL_sub, iL_mul, iL_neg, iI_lt, iI_le, iI_eq, iL_lt, iL_le, iL_eqS, iI_c, iI_ok, iI_l, iL_i, iI_low, l_ushrI, l_shlI, l_shrI, i_shlI, i_shrI, i_ushrI, iI_div, iL_div, Int.toNat_natCast, Int.reduceToNat, iI_ofNat]
      rw [if_neg (by omega), if_pos (by omega), show X - X / 1000000000 * 1000000000 = X % 1000000000 by omega, show ((s : Int) + 1) = ((s + 1 : Nat) : Int) by omega]
      have hvv : lv (vp_updL lc s (iL (X % 1000000000))) (s + 1) + X / 1000000000 * 1000000000 ^ (s + 1) = C := by
        rw [lv, lv_upd (Nat.le_refl _), updL_s, u6_i (by omega) (by omega), pw9, ← hv]
        have e := Int.mul_ediv_add_emod X 1000000000
        generalize (1000000000 : Int) ^ s = P
        generalize X / 1000000000 = a at *
        generalize X % 1000000000 = b at *
        rw [← e]
        grind
      refine ih (s + 1) m _ _ ?_ (by omega) (by omega) (by omega) (by omega) (fun i hi => ?_) hvv (fun h1 _ => ?_)
      · apply Int.ediv_lt_of_lt_mul (by decide)
        rw [pw9] at hX
        omega
      · by_cases e : i = s
        · subst e; rw [updL_s, u6_i (by omega) (by omega)]; omega
        · rw [updL_n e]; exact h9 i (by omega)
      · rw [Nat.add_sub_cancel]
        have hX1 : 1 ≤ X := by omega
        have := Int.mul_le_mul_of_nonneg_right hX1 (Int.le_of_lt (p9_pos s))
        have := lv_nn lc s
        omega
set_option maxRecDepth 10000 in
theorem row_spec {C q : Int} (hC0 : 0 ≤ C) (hC1 : C < 9223372036854775808) (hq0 : -2000 ≤ q) (hq1 : q ≤ 2000) (hb : mantI C q < 2 ^ 2600) (us rn rp : Int32) (c : Nat → Int32) (lc : Nat → Int64) : rowP us (mantI C q) q (f_Md_row (iL C) (iI q) us rn c lc rp) := by
  unfold f_Md_row
  exact r8 hq0 hq1 rn rp c hC0 hC1 hb 4 0 gx_fu lc C (by have : (1000000000 : Int) ^ 4 = 1000000000000000000000000000000000000 := rfl; omega) (by omega) (by have := fu_pos; omega) hC0 hC1 (fun i hi => by omega) (by simp [lv]) (fun _ h => by omega)
-- O
set_option maxRecDepth 10000 in
def pre (α : Nat → Nat) : Nat → Nat
  | 0 => 0
  | n + 1 => 10 * pre α n + α n
set_option maxRecDepth 10000 in
theorem pre_congr {α β : Nat → Nat} : ∀ {n : Nat}, (∀ i, i < n → α i = β i) → pre α n = pre β n
  | 0, _ => rfl
  | n + 1, h => by rw [pre, pre, pre_congr (fun i hi => h i (by omega)), h n (by omega)]
set_option maxRecDepth 10000 in
theorem pre_lt {α : Nat → Nat} (h9 : ∀ i, α i ≤ 9) : ∀ n, pre α n < 10 ^ n
  | 0 => by simp [pre]
  | n + 1 => by rw [pre, Nat.pow_succ]; have := pre_lt h9 n; have := h9 n; omega
set_option maxRecDepth 10000 in
theorem pre_ge {α : Nat → Nat} (h0 : α 0 ≠ 0) : ∀ n, 10 ^ n ≤ pre α (n + 1)
  | 0 => by simp [pre]; omega
  | n + 1 => by rw [pre, Nat.pow_succ]; have := pre_ge h0 n; omega
set_option maxRecDepth 10000 in
theorem pre_zero {α : Nat → Nat} {n : Nat} (h : ∀ i, n ≤ i → α i = 0) : ∀ k, pre α (n + k) = pre α n * 10 ^ k
  | 0 => by simp
  | k + 1 => by
    have e := pre_zero h k
    rw [← Nat.add_assoc, pre, e, h (n + k) (by omega), Nat.pow_succ]
    grind
set_option maxRecDepth 10000 in
theorem digF_pre {α : Nat → Nat} (h9 : ∀ i, α i ≤ 9) (h0 : α 0 ≠ 0) {n : Nat} (hn : 0 < n) : nd (pre α n) = n ∧ ∀ i, i < n → digF (pre α n) i = α i := by
  induction n with
  | zero => omega
  | succ n ih =>
    by_cases hn0 : n = 0
    · subst hn0
      have h1 := h9 0
      have e : pre α 1 = 10 * 0 + α 0 := by simp [pre]
      rw [e]
      refine ⟨by rw [nd_step (by omega) (by omega), nd_zero], fun i hi => ?_⟩
      obtain rfl : i = 0 := by omega
      rw [digF_step (by omega) (by omega), nd_zero, if_pos rfl]
    · obtain ⟨h1, h2⟩ := ih (by omega)
      have h3 := h9 n
      have hp : 0 < pre α n := by
        obtain ⟨m, rfl⟩ : ∃ m, n = m + 1 := ⟨n - 1, by omega⟩
        have := pre_ge h0 m
        have : 0 < 10 ^ m := Nat.pow_pos (by omega)
        omega
      rw [pre]
      refine ⟨by rw [nd_step (by omega) (by omega), h1], fun i hi => ?_⟩
      rw [digF_step (by omega) (by omega), h1]
      by_cases e : i = n
      · rw [if_pos e, e]
      · rw [if_neg e]; exact h2 i (by omega)
set_option maxRecDepth 10000 in
theorem digF_pre' {α : Nat → Nat} (h9 : ∀ i, α i ≤ 9) (h0 : α 0 ≠ 0) {n : Nat} (hn : 0 < n) (hz : ∀ i, n ≤ i → α i = 0) : digF (pre α n) = α := by
  obtain ⟨h1, h2⟩ := digF_pre h9 h0 hn
  funext i
  by_cases h : i < n
  · exact h2 i h
  · rw [digF_out (by omega), hz i (by omega)]
set_option maxRecDepth 10000 in
theorem pre_digF {N : Nat} (h : 0 < N) : ∀ n, pre (digF N) n = if n ≤ nd N then N / 10 ^ (nd N - n) else N * 10 ^ (n - nd N)
  | 0 => by
    rw [if_pos (by omega), pre, Nat.sub_zero, Nat.div_eq_of_lt (nd_lt N)]
  | n + 1 => by
    rw [pre, pre_digF h n]
    by_cases q : n + 1 ≤ nd N
    · rw [if_pos (by omega), if_pos q, digF_in (by omega), show nd N - n = (nd N - (n + 1)) + 1 by omega, show nd N - 1 - n = nd N - (n + 1) by omega, Nat.pow_succ, ← Nat.div_div_eq_div_mul]
      omega
    · rw [if_neg q, digF_out (by omega)]
      by_cases q2 : n ≤ nd N
      · obtain rfl : n = nd N := by omega
        rw [if_pos (by omega), Nat.sub_self, Nat.pow_zero, Nat.div_one, show nd N + 1 - nd N = 1 by omega]
        omega
      · rw [if_neg q2, show n + 1 - nd N = (n - nd N) + 1 by omega, Nat.pow_succ]
        grind
set_option maxRecDepth 10000 in
theorem digF_0 {N : Nat} (h : 0 < N) : digF N 0 ≠ 0 := by
  have hn := nd_pos h
  rw [digF_in hn, Nat.sub_zero]
  have h1 := nd_le h
  have h2 := nd_lt N
  have hp : 0 < 10 ^ (nd N - 1) := Nat.pow_pos (by omega)
  have h3 : 1 ≤ N / 10 ^ (nd N - 1) := (Nat.le_div_iff_mul_le hp).mpr (by omega)
  have h4 : N / 10 ^ (nd N - 1) < 10 := by
    apply Nat.div_lt_of_lt_mul
    rw [← Nat.pow_succ]
    show N < 10 ^ (nd N - 1 + 1)
    rw [show nd N - 1 + 1 = nd N by omega]
    exact h2
  omega
set_option maxRecDepth 10000 in
def rv (α : Nat → Nat) (L : Nat) (p : Int) : Int := (pre α L : Int) * 10 ^ (p - L + 2000).toNat
set_option maxRecDepth 10000 in
theorem rv_ext {α : Nat → Nat} {L : Nat} (h : ∀ i, L ≤ i → α i = 0) {p : Int} (k : Nat) (hp : 0 ≤ p - (L + k : Nat) + 2000) : rv α (L + k) p = rv α L p := by
  unfold rv
  rw [pre_zero h k, Int.natCast_mul, Int.natCast_pow, Int.mul_assoc]
  congr 1
  rw [show (p - L + 2000).toNat = k + (p - (L + k : Nat) + 2000).toNat by omega, Int.pow_add]
  rfl
set_option maxRecDepth 10000 in
theorem pre_lex {α β : Nat → Nat} (ha : ∀ i, α i ≤ 9) (hb : ∀ i, β i ≤ 9) {i : Nat} (he : ∀ j, j < i → α j = β j) (hlt : α i < β i) : ∀ k, pre α (i + 1 + k) < pre β (i + 1 + k)
  | 0 => by show 10 * pre α i + α i < 10 * pre β i + β i; rw [pre_congr he]; omega
  | k + 1 => by
    have := pre_lex ha hb he hlt k
    show 10 * pre α (i + 1 + k) + α (i + 1 + k) < 10 * pre β (i + 1 + k) + β (i + 1 + k)
    have := ha (i + 1 + k)
    omega
set_option maxRecDepth 10000 in
theorem cmp65 {αc βc : Nat → Int32} {α β : Nat → Nat} {n1 n2 L an : Nat} {p4 : Int32} (ha : ∀ i, α i ≤ 9) (hb : ∀ i, β i ≤ 9) (hac : ∀ i, i < n1 → αc i = iI (α i)) (hbc : ∀ i, i < n2 → βc i = iI (β i)) (hza : ∀ i, n1 ≤ i → α i = 0) (hzb : ∀ i, n2 ≤ i → β i = 0) (h1 : n1 ≤ an) (h2 : n2 ≤ 1300) (han : an ≤ 100000) (hL : L = max n1 n2) :
    ∀ (d i m : Nat), i + d = L → d < m → (∀ j, j < i → α j = β j) → f_Md_compare_65 m (iI n1) (iI i) an (iI n2) p4 βc αc = some (iI (cmpI (pre α L) (pre β L)))
  | 0, i, m + 1, hi, hm, he => by
    rw [f_Md_compare_65]
    simp (disch := omega) only [iI_lit, iL_lit, iI_add, iI_sub, iI_mul, iI_neg, iL_add, iL_sub, iL_mul, iL_neg, iI_lt, iI_le, iI_eq, iL_lt, iL_le, iL_eqS, iI_c, iI_ok, iI_l, iL_i, iI_low, l_ushrI, l_shlI, l_shrI, i_shlI, i_shrI, i_ushrI, iI_div, iL_div, Int.toNat_natCast, Int.reduceToNat, iI_ofNat]
    rw [if_neg (by omega), if_pos (by omega)]
    have : pre α L = pre β L := pre_congr (fun j hj => he j (by omega))
    rw [this]
    unfold cmpI
    rw [if_neg (by omega), if_pos rfl]
  | d + 1, i, m + 1, hi, hm, he => by
    rw [f_Md_compare_65]
    have h81 : f_Md_compare_81 (fun v1 v5 a1_n a4_n a4_p a4_d_c a1_c => f_Md_compare_65 m v1 v5 a1_n a4_n a4_p a4_d_c a1_c) (iI n1) (iI i) an (iI n2) p4 βc αc = some (iI (cmpI (pre α L) (pre β L))) := by
      have hai := ha i
      have hbi := hb i
      have h119 : f_Md_compare_119 (fun v1 v5 a1_n a4_n a4_p a4_d_c a1_c => f_Md_compare_65 m v1 v5 a1_n a4_n a4_p a4_d_c a1_c) (iI n1) (iI i) (iI (α i)) (iI (β i)) an (iI n2) p4 βc αc = some (iI (cmpI (pre α L) (pre β L))) := by
        unfold f_Md_compare_119
        simp (disch := omega) only [iI_lit, iL_lit, iI_add, iI_sub, iI_mul, iI_neg, iL_add, iL_sub, iL_mul, iL_neg, iI_lt, iI_le, iI_eq, iL_lt, iL_le, iL_eqS, iI_c, iI_ok, iI_l, iL_i, iI_low, l_ushrI, l_shlI, l_shrI, i_shlI, i_shrI, i_ushrI, iI_div, iL_div, Int.toNat_natCast, Int.reduceToNat, iI_ofNat]
        by_cases q : α i = β i
        · rw [if_pos (by omega), show ((i : Int) + 1) = ((i + 1 : Nat) : Int) by omega]
          exact cmp65 ha hb hac hbc hza hzb h1 h2 han hL d (i + 1) m (by omega) (by omega) (fun j hj => by
            by_cases e : j = i
            · subst e; exact q
            · exact he j (by omega))
        · rw [if_neg (by omega)]
          have eL : L = i + 1 + (L - i - 1) := by omega
          by_cases q2 : (β i : Int) ≤ α i
          · rw [if_pos q2]
            have := pre_lex hb ha (fun j hj => (he j hj).symm) (show β i < α i by omega) (L - i - 1)
            rw [← eL] at this
            unfold cmpI
            rw [if_neg (by omega), if_neg (by omega)]
          · rw [if_neg q2]
            have := pre_lex ha hb he (show α i < β i by omega) (L - i - 1)
            rw [← eL] at this
            unfold cmpI
            rw [if_pos (by omega)]
      have h95 : f_Md_compare_95 (fun v1 v5 a1_n a4_n a4_p a4_d_c a1_c => f_Md_compare_65 m v1 v5 a1_n a4_n a4_p a4_d_c a1_c) (iI n1) (iI i) (iI (α i)) an (iI n2) p4 βc αc = some (iI (cmpI (pre α L) (pre β L))) := by
        unfold f_Md_compare_95
        simp (disch := omega) only [iI_lit, iL_lit, iI_add, iI_sub, iI_mul, iI_neg, iL_add, iL_sub, iL_mul, iL_neg, iI_lt, iI_le, iI_eq, iL_lt, iL_le, iL_eqS, iI_c, iI_ok, iI_l, iL_i, iI_low, l_ushrI, l_shlI, l_shrI, i_shlI, i_shrI, i_ushrI, iI_div, iL_div, Int.toNat_natCast, Int.reduceToNat, iI_ofNat]
        by_cases q : (n2 : Int) ≤ i
        · rw [if_pos q]
          have := hzb i (by omega)
          rw [this] at h119
          exact h119
        · rw [if_neg q, if_pos (by omega), hbc i (by omega)]
          exact h119
      unfold f_Md_compare_81
      simp (disch := omega) only [iI_lit, iL_lit, iI_add, iI_sub, iI_mul, iI_neg, iL_add, iL_sub, iL_mul, iL_neg, iI_lt, iI_le, iI_eq, iL_lt, iL_le, iL_eqS, iI_c, iI_ok, iI_l, iL_i, iI_low, l_ushrI, l_shlI, l_shrI, i_shlI, i_shrI, i_ushrI, iI_div, iL_div, Int.toNat_natCast, Int.reduceToNat, iI_ofNat]
      by_cases q : (n1 : Int) ≤ i
      · rw [if_pos q]
        have := hza i (by omega)
        rw [this] at h95
        exact h95
      · rw [if_neg q, if_pos (by omega), hac i (by omega)]
        exact h95
    simp (disch := omega) only [iI_lit, iL_lit, iI_add, iI_sub, iI_mul, iI_neg, iL_add, iL_sub, iL_mul, iL_neg, iI_lt, iI_le, iI_eq, iL_lt, iL_le, iL_eqS, iI_c, iI_ok, iI_l, iL_i, iI_low, l_ushrI, l_shlI, l_shrI, i_shlI, i_shrI, i_ushrI, iI_div, iL_div, Int.toNat_natCast, Int.reduceToNat, iI_ofNat]
    by_cases q : (i : Int) < n1
    · rw [if_pos q]; exact h81
    · rw [if_neg q, if_neg (by omega)]; exact h81
set_option maxRecDepth 10000 in
theorem compare_spec {αc βc : Nat → Int32} {α β : Nat → Nat} {n1 n2 an : Nat} {p1 p2 : Int} (ha : ∀ i, α i ≤ 9) (hb : ∀ i, β i ≤ 9) (hac : ∀ i, i < n1 → αc i = iI (α i)) (hbc : ∀ i, i < n2 → βc i = iI (β i)) (hza : ∀ i, n1 ≤ i → α i = 0) (hzb : ∀ i, n2 ≤ i → β i = 0) (h1 : n1 ≤ an) (h2 : n2 ≤ 1300) (han : an ≤ 1300) (hp1 : -600 ≤ p1) (hp1' : p1 ≤ 600) (hp2 : -600 ≤ p2) (hp2' : p2 ≤ 600) (ha0 : α 0 ≠ 0) (hb0 : β 0 ≠ 0) :
    f_Md_compare (iI n1) (iL p1) an (iI n2) (iI p2) βc αc = some (iI (cmpI (rv α n1 p1) (rv β n2 p2))) := by
  have hn1 : 0 < n1 := by rcases Nat.eq_zero_or_pos n1 with q | q; exact absurd (hza 0 (by omega)) ha0; exact q
  have hn2 : 0 < n2 := by rcases Nat.eq_zero_or_pos n2 with q | q; exact absurd (hzb 0 (by omega)) hb0; exact q
  unfold f_Md_compare
  simp (disch := omega) only [iI_lit, iL_lit, iI_add, iI_sub, iI_mul, iI_neg, iL_add, iL_sub, iL_mul, iL_neg, iI_lt, iI_le, iI_eq, iL_lt, iL_le, iL_eqS, iI_c, iI_ok, iI_l, iL_i, iI_low, l_ushrI, l_shlI, l_shrI, i_shlI, i_shrI, i_ushrI, iI_div, iL_div, Int.toNat_natCast, Int.reduceToNat, iI_ofNat]
  rw [if_neg (by omega), if_neg (by omega)]
  have big : ∀ (γ : Nat → Nat) (n : Nat) (p : Int), (∀ i, γ i ≤ 9) → γ 0 ≠ 0 → 0 < n → n ≤ 1300 → -600 ≤ p → (10 : Int) ^ (p - 1 + 2000).toNat ≤ rv γ n p ∧ rv γ n p < 10 ^ (p + 2000).toNat := by
    intro γ n p h9 h0 hn hn2 hp
    have l1 := pre_lt h9 n
    have l2 := pre_ge h0 (n - 1)
    rw [show n - 1 + 1 = n by omega] at l2
    unfold rv
    have hpp := p10_pos (p - n + 2000).toNat
    constructor
    · rw [show (p - 1 + 2000).toNat = (n - 1) + (p - n + 2000).toNat by omega, Int.pow_add]
      have : ((10 ^ (n - 1) : Nat) : Int) ≤ (pre γ n : Int) := Int.ofNat_le.mpr l2
      rw [Int.natCast_pow] at this
      exact Int.mul_le_mul_of_nonneg_right this (by omega)
    · rw [show (p + 2000).toNat = n + (p - n + 2000).toNat by omega, Int.pow_add]
      have : (pre γ n : Int) < ((10 ^ n : Nat) : Int) := Int.ofNat_lt.mpr l1
      rw [Int.natCast_pow] at this
      exact Int.mul_lt_mul_of_pos_right this hpp
  obtain ⟨a1, a2⟩ := big α n1 p1 ha ha0 hn1 (by omega) hp1
  obtain ⟨b1, b2⟩ := big β n2 p2 hb hb0 hn2 h2 hp2
  by_cases hp : p1 = p2
  · rw [if_pos hp]
    subst hp
    have := cmp65 (p4 := iI p1) (L := max n1 n2) ha hb hac hbc hza hzb h1 h2 (by omega) rfl (max n1 n2) 0 gx_fu (by omega) (by have := fu_pos; omega) (fun j hj => by omega)
    rw [show iI (0 : Int) = iI ((0 : Nat) : Int) from rfl, this]
    have e1 := rv_ext (L := n1) hza (p := p1) (max n1 n2 - n1) (by omega)
    have e2 := rv_ext (L := n2) hzb (p := p1) (max n1 n2 - n2) (by omega)
    rw [show n1 + (max n1 n2 - n1) = max n1 n2 by omega] at e1
    rw [show n2 + (max n1 n2 - n2) = max n1 n2 by omega] at e2
    rw [← e1, ← e2]
    unfold rv cmpI
    have hpp := p10_pos (p1 - (max n1 n2 : Nat) + 2000).toNat
    generalize (10 : Int) ^ (p1 - (max n1 n2 : Nat) + 2000).toNat = X at *
    generalize (pre α (max n1 n2) : Int) = A
    generalize (pre β (max n1 n2) : Int) = B
    rcases Int.lt_trichotomy A B with q | q | q
    · rw [if_pos q, if_pos (Int.mul_lt_mul_of_pos_right q hpp)]
    · subst q; rw [if_neg (by omega), if_pos rfl, if_neg (by omega), if_pos rfl]
    · have := Int.mul_lt_mul_of_pos_right q hpp
      rw [if_neg (by omega), if_neg (by omega), if_neg (by omega), if_neg (by omega)]
  · rw [if_neg hp]
    unfold cmpI
    by_cases hle : p2 ≤ p1
    · rw [if_pos hle]
      have := p10I_mono (show (p2 + 2000).toNat ≤ (p1 - 1 + 2000).toNat by omega)
      rw [if_neg (by omega), if_neg (by omega)]
    · rw [if_neg hle]
      have := p10I_mono (show (p1 + 2000).toNat ≤ (p2 - 1 + 2000).toNat by omega)
      rw [if_pos (by omega)]
-- P
set_option maxRecDepth 10000 in
theorem more58 {n : Nat} {p : Int} (hn : n < 1300) : ∀ (k m : Nat) (c : Nat → Int32), k ≤ n → k < m → (∀ i, i < n + 1 → i ≠ k → c i = iI 0) →
    ∃ c', f_Md_more_58 m (iI k) (iI n) (iI p) c = some (iI ((n + 1 : Nat) : Int), iI (p + 1), c') ∧ ∀ i, i < n + 1 → c' i = iI (one1 i)
  | 0, m + 1, c, hk, hm, hc => by
    rw [f_Md_more_58]
    rw [nar_bs]
    simp (disch := omega) only [iI_lit, iL_lit, iI_add, iI_sub, iI_mul, iI_neg, iL_add, iL_sub, iL_mul, iL_neg, iI_lt, iI_le, iI_eq, iL_lt, iL_le, iL_eqS, iI_c, iI_ok, iI_l, iL_i, iI_low, l_ushrI, l_shlI, l_shrI, i_shlI, i_shrI, i_ushrI, iI_div, iL_div, Int.toNat_natCast, Int.reduceToNat, iI_ofNat]
    rw [if_pos (by omega), if_pos (by omega)]
    refine ⟨_, rfl, fun i hi => ?_⟩
    unfold one1
    by_cases e : i = 0
    · subst e; rw [upd_s, if_pos rfl, sb_small (by omega) (by omega)]; rfl
    · rw [upd_n e, if_neg e, hc i hi e]; rfl
  | k + 1, m + 1, c, hk, hm, hc => by
    rw [f_Md_more_58]
    simp only [nar_bs]
    simp (disch := omega) only [iI_lit, iL_lit, iI_add, iI_sub, iI_mul, iI_neg, iL_add, iL_sub, iL_mul, iL_neg, iI_lt, iI_le, iI_eq, iL_lt, iL_le, iL_eqS, iI_c, iI_ok, iI_l, iL_i, iI_low, l_ushrI, l_shlI, l_shrI, i_shlI, i_shrI, i_ushrI, iI_div, iL_div, Int.toNat_natCast, Int.reduceToNat, iI_ofNat]
    rw [if_neg (by omega), if_pos (by omega), if_pos (by omega)]
    have e1 : (((k + 1 : Nat) : Int) - 1).toNat = k := by omega
    rw [e1, hc k (by omega) (by omega), sb_small (by omega) (by omega), show ((k + 1 : Nat) : Int) + -1 = (k : Int) by omega]
    exact more58 hn k m _ (by omega) (by omega) (fun i hi hik => by
      by_cases e : i = k + 1
      · subst e; rw [upd_s]
      · rw [upd_n e]; exact hc i hi e)
set_option maxRecDepth 10000 in
theorem more7 {α : Nat → Nat} (h9 : ∀ i, α i ≤ 9) {n : Nat} {p : Int} (hn : n < 1300) : ∀ (k m : Nat) (c : Nat → Int32), k ≤ n → k < m → (∀ i, i < k → c i = iI (α i)) → (∀ i, k ≤ i → i < n → c i = iI 0 ∧ α i = 9) →
    ∃ n' c', f_Md_more_7 m (iI ((k : Int) - 1)) (iI n) (iI p) c = some (iI (n' : Nat), iI (p + incC α n), c') ∧ (∀ i, i < n' → c' i = iI (incF α n i)) ∧ n ≤ n' ∧ n' ≤ n + 1 ∧ (∀ i, n' ≤ i → incF α n i = 0)
  | 0, m + 1, c, hk, hm, hc, hz => by
    rw [f_Md_more_7]
    simp (disch := omega) only [iI_lit, iL_lit, iI_add, iI_sub, iI_mul, iI_neg, iL_add, iL_sub, iL_mul, iL_neg, iI_lt, iI_le, iI_eq, iL_lt, iL_le, iL_eqS, iI_c, iI_ok, iI_l, iL_i, iI_low, l_ushrI, l_shlI, l_shrI, i_shlI, i_shrI, i_ushrI, iI_div, iL_div, Int.toNat_natCast, Int.reduceToNat, iI_ofNat]
    rw [if_pos (by omega)]
    unfold f_Md_more_35
    simp (disch := omega) only [iI_lit, iL_lit, iI_add, iI_sub, iI_mul, iI_neg, iL_add, iL_sub, iL_mul, iL_neg, iI_lt, iI_le, iI_eq, iL_lt, iL_le, iL_eqS, iI_c, iI_ok, iI_l, iL_i, iI_low, l_ushrI, l_shlI, l_shrI, i_shlI, i_shrI, i_ushrI, iI_div, iL_div, Int.toNat_natCast, Int.reduceToNat, iI_ofNat]
    rw [if_pos (by omega)]
    have hnone : last9 α n = none := by
      cases h : last9 α n with
      | none => rfl
      | some j =>
        have := last9_lt h
        exact absurd (hz j (by omega) this.1).2 this.2.1
    have eF : incF α n = one1 := by unfold incF; rw [hnone]
    have eC : incC α n = 1 := by unfold incC; rw [hnone]
    rw [eF, eC]
    obtain ⟨c', e1, h1⟩ := more58 (p := p) hn n gx_fu c (Nat.le_refl _) (by have := fu_pos; omega) (fun i hi hin => (hz i (by omega) (by omega)).1)
    rw [e1]
    exact ⟨n + 1, c', rfl, h1, by omega, by omega, fun i hi => by unfold one1; rw [if_neg (by omega)]⟩
  | k + 1, m + 1, c, hk, hm, hc, hz => by
    rw [f_Md_more_7]
    rw [show (((k + 1 : Nat) : Int) - 1) = (k : Int) by omega]
    have h9k := h9 k
    simp (disch := omega) only [iI_lit, iL_lit, iI_add, iI_sub, iI_mul, iI_neg, iL_add, iL_sub, iL_mul, iL_neg, iI_lt, iI_le, iI_eq, iL_lt, iL_le, iL_eqS, iI_c, iI_ok, iI_l, iL_i, iI_low, l_ushrI, l_shlI, l_shrI, i_shlI, i_shrI, i_ushrI, iI_div, iL_div, Int.toNat_natCast, Int.reduceToNat, iI_ofNat]
    rw [if_neg (by omega), if_pos (by omega), hc k (by omega)]
    simp (disch := omega) only [iI_lit, iL_lit, iI_add, iI_sub, iI_mul, iI_neg, iL_add, iL_sub, iL_mul, iL_neg, iI_lt, iI_le, iI_eq, iL_lt, iL_le, iL_eqS, iI_c, iI_ok, iI_l, iL_i, iI_low, l_ushrI, l_shlI, l_shrI, i_shlI, i_shrI, i_ushrI, iI_div, iL_div, Int.toNat_natCast, Int.reduceToNat, iI_ofNat]
    by_cases q : α k = 9
    · rw [if_pos (by omega), if_pos (by omega), nar_bs, sb_small (by omega) (by omega), show ((k : Int) + -1) = (k : Int) - 1 by omega]
      exact more7 h9 hn k m _ (by omega) (by omega) (fun i hi => by rw [upd_n (by omega)]; exact hc i (by omega)) (fun i h1 h2 => by
        by_cases e : i = k
        · subst e; exact ⟨upd_s _ _ _, q⟩
        · rw [upd_n e]; exact hz i (by omega) h2)
    · rw [if_neg (by omega)]
      unfold f_Md_more_35
      rw [nar_b]
      simp (disch := omega) only [iI_lit, iL_lit, iI_add, iI_sub, iI_mul, iI_neg, iL_add, iL_sub, iL_mul, iL_neg, iI_lt, iI_le, iI_eq, iL_lt, iL_le, iL_eqS, iI_c, iI_ok, iI_l, iL_i, iI_low, l_ushrI, l_shlI, l_shrI, i_shlI, i_shrI, i_ushrI, iI_div, iL_div, Int.toNat_natCast, Int.reduceToNat, iI_ofNat]
      rw [if_neg (by omega), if_pos (by omega), if_pos (by omega), hc k (by omega), iI_add, sb_small (by omega) (by omega)]
      have hsome : last9 α n = some k := by
        have : ∀ d, k + 1 + d ≤ n → last9 α (k + 1 + d) = some k := by
          intro d
          induction d with
          | zero => intro _; show (if α k = 9 then _ else _) = _; rw [if_neg q]
          | succ d ih =>
            intro hd
            show (if α (k + 1 + d) = 9 then _ else _) = _
            rw [if_pos (hz (k + 1 + d) (by omega) (by omega)).2]
            exact ih (by omega)
        have := this (n - k - 1) (by omega)
        rw [show k + 1 + (n - k - 1) = n by omega] at this
        exact this
      have eF : incF α n = fun i => if i < k then α i else if i = k then α k + 1 else 0 := by unfold incF; rw [hsome]
      have eC : incC α n = 0 := by unfold incC; rw [hsome]
      rw [eF, eC, Int.add_zero]
      refine ⟨n, _, rfl, fun i hi => ?_, by omega, by omega, fun i hi => ?_⟩
      · dsimp only
        by_cases e : i = k
        · subst e; rw [upd_s, if_neg (by omega), if_pos rfl]; rfl
        · rw [upd_n e]
          by_cases h2 : i < k
          · rw [if_pos h2]; exact hc i (by omega)
          · rw [if_neg h2, if_neg e]; exact (hz i (by omega) hi).1
      · dsimp only
        rw [if_neg (by omega), if_neg (by omega)]
set_option maxRecDepth 10000 in
theorem more_spec {α : Nat → Nat} (h9 : ∀ i, α i ≤ 9) {n : Nat} {p : Int} (hn : n < 1300) {c : Nat → Int32} (hc : ∀ i, i < n → c i = iI (α i)) :
    ∃ n' c', f_Md_more (iI n) (iI p) c = some (iI (n' : Nat), iI (p + incC α n), c') ∧ (∀ i, i < n' → c' i = iI (incF α n i)) ∧ n ≤ n' ∧ n' ≤ n + 1 ∧ (∀ i, n' ≤ i → incF α n i = 0) := by
  unfold f_Md_more
  rw [show (1 : Int32) = iI 1 from rfl, iI_sub]
  exact more7 h9 hn n gx_fu c (Nat.le_refl _) (by have := fu_pos; omega) hc (fun i h1 h2 => by omega)
set_option maxRecDepth 10000 in
theorem cut72 {δ : Nat → Nat} (h9 : ∀ i, δ i ≤ 9) {ep en rp : Int32} {ed c : Nat → Int32} : ∀ (s n : Nat), s ≤ 1300 → s < n → (∀ i, i < s → c i = iI (δ i)) → (∀ i, s ≤ i → δ i = 0) → ∃ t : Nat, t ≤ s ∧ f_Md_cut_72 n ep (iI s) c rp en ed = some (iI t, c, rp) ∧ isStrip δ t ∧ DL 1300 (iI t) c t δ
  | 0, n + 1, _, _, hc, h0 => ⟨0, Nat.le_refl _, by rw [f_Md_cut_72, if_pos (by decide)], ⟨h0, fun h => absurd h (by omega)⟩, rfl, by omega, fun i hi => by omega, h0, h9⟩
  | s + 1, n + 1, hs, hn, hc, h0 => by
    rw [f_Md_cut_72]
    simp (disch := omega) only [iI_lit, iL_lit, iI_add, iI_sub, iI_mul, iI_neg, iL_add, iL_sub, iL_mul, iL_neg, iI_lt, iI_le, iI_eq, iL_lt, iL_le, iL_eqS, iI_c, iI_ok, iI_l, iL_i, iI_low, l_ushrI, l_shlI, l_shrI, i_shlI, i_shrI, i_ushrI, iI_div, iL_div, Int.toNat_natCast, Int.reduceToNat, iI_ofNat]
    rw [if_neg (by omega), if_pos (by omega)]
    simp only [show (((s + 1 : Nat) : Int) - 1) = (s : Int) by omega, Int.toNat_natCast]
    have := h9 s
    rw [hc s (by omega)]
    simp (disch := omega) only [iI_lit, iL_lit, iI_add, iI_sub, iI_mul, iI_neg, iL_add, iL_sub, iL_mul, iL_neg, iI_lt, iI_le, iI_eq, iL_lt, iL_le, iL_eqS, iI_c, iI_ok, iI_l, iL_i, iI_low, l_ushrI, l_shlI, l_shrI, i_shlI, i_shrI, i_ushrI, iI_div, iL_div, Int.toNat_natCast, Int.reduceToNat, iI_ofNat]
    by_cases h : δ s = 0
    · rw [if_pos (by omega)]
      obtain ⟨t, h1, h2, h3, h4⟩ := cut72 h9 s n (by omega) (by omega) (fun i hi => hc i (by omega)) (fun i hi => by
        by_cases e : i = s
        · subst e; exact h
        · exact h0 i (by omega))
      exact ⟨t, by omega, h2, h3, h4⟩
    · rw [if_neg (by omega)]
      exact ⟨s + 1, Nat.le_refl _, rfl, ⟨h0, fun _ => h⟩, rfl, hs, hc, h0, h9⟩
set_option maxRecDepth 10000 in
def cutF (δ : Nat → Nat) (n : Nat) (up : Int) : Nat → Nat := if up = 0 then tr δ n else incF (tr δ n) n
set_option maxRecDepth 10000 in
def cutC (δ : Nat → Nat) (n : Nat) (up : Int) : Int := if up = 0 then 0 else incC (tr δ n) n
set_option maxRecDepth 10000 in
theorem cut19 {δ : Nat → Nat} {en : Nat} {ed : Nat → Int32} (hE : DL 1300 (iI en) ed en δ) {n : Nat} (hn : n < 1300) {p up : Int} (hup : up = 0 ∨ up = 1) : ∀ (d i m : Nat) (c : Nat → Int32), i + d = n → d < m → (∀ j, j < i → c j = iI (δ j)) →
    ∃ (t : Nat) (c' : Nat → Int32), f_Md_cut_19 m (iI n) (iI up) (iI i) (iI p) (iI n) c (iI p) (iI en) ed = some (iI t, c', iI (p + cutC δ n up)) ∧ isStrip (cutF δ n up) t ∧ DL 1300 (iI t) c' t (cutF δ n up)
  | 0, i, m + 1, c, hi, hm, hc => by
    obtain ⟨_, hen, hed, hez, he9⟩ := hE
    obtain rfl : i = n := by omega
    have ht9 : ∀ k, tr δ i k ≤ 9 := tr_le he9 i
    have hct : ∀ j, j < i → c j = iI (tr δ i j) := fun j hj => by rw [tr, if_pos hj]; exact hc j hj
    have htz : ∀ j, i ≤ j → tr δ i j = 0 := fun j hj => by rw [tr, if_neg (by omega)]
    rw [f_Md_cut_19]
    simp (disch := omega) only [iI_lit, iL_lit, iI_add, iI_sub, iI_mul, iI_neg, iL_add, iL_sub, iL_mul, iL_neg, iI_lt, iI_le, iI_eq, iL_lt, iL_le, iL_eqS, iI_c, iI_ok, iI_l, iL_i, iI_low, l_ushrI, l_shlI, l_shrI, i_shlI, i_shrI, i_ushrI, iI_div, iL_div, Int.toNat_natCast, Int.reduceToNat, iI_ofNat]
    rw [if_pos (by omega)]
    unfold cutF cutC
    rcases hup with rfl | rfl
    · rw [if_pos rfl, if_pos rfl, if_pos rfl, Int.add_zero]
      obtain ⟨t, h1, h2, h3, h4⟩ := cut72 (ep := iI p) (en := iI en) (rp := iI p) (ed := ed) (c := c) ht9 i gx_fu (by omega) (by have := fu_pos; omega) hct htz
      exact ⟨t, c, h2, h3, h4⟩
    · rw [if_neg (by decide), if_neg (by decide), if_neg (by decide)]
      obtain ⟨n', c', e1, h1, h2, h3, h4⟩ := more_spec (p := p) ht9 hn hct
      rw [e1, Option.bind_some]
      dsimp only
      obtain ⟨t, q1, q2, q3, q4⟩ := cut72 (ep := iI p) (en := iI en) (rp := iI (p + incC (tr δ i) i)) (ed := ed) (c := c') (incF_le ht9 i) n' gx_fu (by omega) (by have := fu_pos; omega) h1 h4
      exact ⟨t, c', q2, q3, q4⟩
  | d + 1, i, m + 1, c, hi, hm, hc => by
    have hE' := hE
    obtain ⟨_, hen, hed, hez, he9⟩ := hE'
    rw [f_Md_cut_19]
    have h9i := he9 i
    have h57 : f_Md_cut_57 (fun v1 v2 v4 o_exact_p a3_nq a3_d_cq a3_pq o_exact_n o_exact_d_c => f_Md_cut_19 m v1 v2 v4 o_exact_p a3_nq a3_d_cq a3_pq o_exact_n o_exact_d_c) (iI n) (iI up) (iI i) (iI (δ i)) (iI i) (iI p) (iI n) c (iI p) (iI en) ed = f_Md_cut_19 m (iI n) (iI up) (iI ((i + 1 : Nat) : Int)) (iI p) (iI n) (upd c i (iI (δ i))) (iI p) (iI en) ed := by
      unfold f_Md_cut_57
      rw [nar_bs, sb_small (by omega) (by omega)]
      simp (disch := omega) only [iI_lit, iL_lit, iI_add, iI_sub, iI_mul, iI_neg, iL_add, iL_sub, iL_mul, iL_neg, iI_lt, iI_le, iI_eq, iL_lt, iL_le, iL_eqS, iI_c, iI_ok, iI_l, iL_i, iI_low, l_ushrI, l_shlI, l_shrI, i_shlI, i_shrI, i_ushrI, iI_div, iL_div, Int.toNat_natCast, Int.reduceToNat, iI_ofNat]
      rw [if_pos (by omega)]
      rfl
    have fin := cut19 hE hn (p := p) hup d (i + 1) m (upd c i (iI (δ i))) (by omega) (by omega) (fun j hj => by
      by_cases e : j = i
      · subst e; rw [upd_s]
      · rw [upd_n e]; exact hc j (by omega))
    simp (disch := omega) only [iI_lit, iL_lit, iI_add, iI_sub, iI_mul, iI_neg, iL_add, iL_sub, iL_mul, iL_neg, iI_lt, iI_le, iI_eq, iL_lt, iL_le, iL_eqS, iI_c, iI_ok, iI_l, iL_i, iI_low, l_ushrI, l_shlI, l_shrI, i_shlI, i_shrI, i_ushrI, iI_div, iL_div, Int.toNat_natCast, Int.reduceToNat, iI_ofNat]
    rw [if_neg (by omega)]
    by_cases q : (en : Int) ≤ i
    · rw [if_pos q]
      have := hez i (by omega)
      rw [this] at h57 fin
      rw [show iI 0 = iI ((0 : Nat) : Int) from rfl, h57]
      exact fin
    · rw [if_neg q, if_pos (by omega), hed i (by omega), h57]
      exact fin
set_option maxRecDepth 10000 in
theorem cut_spec {δ : Nat → Nat} {en : Nat} {ed : Nat → Int32} (hE : DL 1300 (iI en) ed en δ) {n : Nat} (hn : n < 1300) {p up : Int} (hup : up = 0 ∨ up = 1) (rn rp : Int32) (c : Nat → Int32) :
    ∃ (t : Nat) (c' : Nat → Int32), f_Md_cut (iI n) (iI up) (iI p) rn c rp (iI en) ed = some (iI t, c', iI (p + cutC δ n up)) ∧ isStrip (cutF δ n up) t ∧ DL 1300 (iI t) c' t (cutF δ n up) := by
  unfold f_Md_cut
  exact cut19 hE hn hup n 0 gx_fu c (by omega) (by have := fu_pos; omega) (fun j hj => by omega)
-- Q
set_option maxRecDepth 10000 in
def c2k : Int := 10 ^ 2000
set_option maxRecDepth 10000 in
def xs (c q : Int) : Int := mantI c q * 10 ^ (min q 0 + 2000).toNat
set_option maxRecDepth 10000 in
def gq (q : Int) : Int := 2 ^ (q + 2000).toNat * 5 ^ 2000
set_option maxRecDepth 10000 in
theorem gq_pos (q : Int) : 0 < gq q := Int.mul_pos (p2_pos _) (p5_pos _)
set_option maxRecDepth 10000 in
theorem p10_25 (n : Nat) : (10 : Int) ^ n = 2 ^ n * 5 ^ n := by rw [show (10 : Int) = 2 * 5 from rfl, Int.mul_pow]
set_option maxRecDepth 10000 in
theorem xs_eq {c q : Int} (hq : -2000 ≤ q) : xs c q = c * gq q := by
  unfold xs mantI gq
  rw [p10_25]
  by_cases h : 0 ≤ q
  · rw [if_pos h, show (min q 0 + 2000).toNat = 2000 by omega, show (q + 2000).toNat = q.toNat + 2000 by omega, Int.pow_add]
    generalize (2 : Int) ^ q.toNat = A
    generalize (2 : Int) ^ 2000 = B
    generalize (5 : Int) ^ 2000 = C
    grind
  · rw [if_neg h, show (min q 0 + 2000).toNat = (q + 2000).toNat by omega]
    have : (5 : Int) ^ 2000 = 5 ^ (-q).toNat * 5 ^ (q + 2000).toNat := by rw [← Int.pow_add]; congr 1; omega
    rw [this]
    generalize (2 : Int) ^ (q + 2000).toNat = A
    generalize (5 : Int) ^ (-q).toNat = B
    generalize (5 : Int) ^ (q + 2000).toNat = C
    grind
set_option maxRecDepth 10000 in
theorem gq_step {q : Int} (hq : -2000 < q) : gq q = 2 * gq (q - 1) := by
  unfold gq
  rw [show (q + 2000).toNat = (q - 1 + 2000).toNat + 1 by omega, Int.pow_succ]
  generalize (2 : Int) ^ (q - 1 + 2000).toNat = A
  generalize (5 : Int) ^ 2000 = C
  grind
set_option maxRecDepth 10000 in
theorem rv_row {N : Int} (hN : 0 < N) {q : Int} (hq0 : -1500 ≤ q) (hq1 : q ≤ 1500) (hb : N < 2 ^ 2600) {t : Nat} (ht : isStrip (digF N.toNat) t) (htn : t ≤ nd N.toNat) : rv (digF N.toNat) t ((nd N.toNat : Int) + min q 0) = N * 10 ^ (min q 0 + 2000).toNat := by
  have hn : nd N.toNat ≤ 800 := nd_le_of (Nat.lt_of_lt_of_le (te_big (N := N.toNat) (by omega)) (p10_mono (by omega)))
  have e := rv_ext (L := t) ht.1 (p := (nd N.toNat : Int) + min q 0) (nd N.toNat - t) (by omega)
  rw [show t + (nd N.toNat - t) = nd N.toNat by omega] at e
  rw [← e]
  unfold rv
  rw [pre_digF (by omega), if_pos (Nat.le_refl _), Nat.sub_self, Nat.pow_zero, Nat.div_one, Int.toNat_of_nonneg (by omega)]
  congr 2
  omega
set_option maxRecDepth 10000 in
theorem strip_le {N : Nat} {t : Nat} (ht : isStrip (digF N) t) : t ≤ nd N := by
  rcases Nat.lt_or_ge (nd N) t with q | q
  · exact absurd (digF_out (N := N) (i := t - 1) (by omega)) (ht.2 (by omega))
  · exact q
set_option maxRecDepth 10000 in
theorem strip_uniq {δ : Nat → Nat} {a b : Nat} (ha : isStrip δ a) (hb : isStrip δ b) : a = b := by
  rcases Nat.lt_trichotomy a b with q | q | q
  · exact absurd (ha.1 (b - 1) (by omega)) (hb.2 (by omega))
  · exact q
  · exact absurd (hb.1 (a - 1) (by omega)) (ha.2 (by omega))
set_option maxRecDepth 10000 in
theorem pre_inc_some {α : Nat → Nat} {n j : Nat} (h : last9 α n = some j) : pre (incF α n) n = pre α n + 1 := by
  have hl := last9_lt h
  have eF : incF α n = fun i => if i < j then α i else if i = j then α j + 1 else 0 := by unfold incF; rw [h]
  rw [eF]
  have key : ∀ d, j + 1 + d ≤ n → pre (fun i => if i < j then α i else if i = j then α j + 1 else 0) (j + 1 + d) = pre α (j + 1 + d) + 1 := by
    intro d
    induction d with
    | zero =>
      intro _
      show 10 * pre _ j + (if j < j then α j else if j = j then α j + 1 else 0) = 10 * pre α j + α j + 1
      rw [if_neg (by omega), if_pos rfl, pre_congr (β := α) (fun i hi => by rw [if_pos hi])]
      omega
    | succ d ih =>
      intro hd
      show 10 * pre _ (j + 1 + d) + (if j + 1 + d < j then α (j + 1 + d) else if j + 1 + d = j then α j + 1 else 0) = 10 * pre α (j + 1 + d) + α (j + 1 + d) + 1
      rw [if_neg (by omega), if_neg (by omega), ih (by omega), hl.2.2 (j + 1 + d) (by omega) (by omega)]
      omega
  have := key (n - j - 1) (by omega)
  rw [show j + 1 + (n - j - 1) = n by omega] at this
  exact this
set_option maxRecDepth 10000 in
theorem pre_nines {α : Nat → Nat} : ∀ {n : Nat}, (∀ i, i < n → α i = 9) → pre α n + 1 = 10 ^ n
  | 0, _ => rfl
  | n + 1, h => by
    have := pre_nines (n := n) (fun i hi => h i (by omega))
    rw [pre, h n (by omega), Nat.pow_succ]
    omega
set_option maxRecDepth 10000 in
theorem incF_0 {α : Nat → Nat} (h0 : α 0 ≠ 0) {n : Nat} (hn : 0 < n) : incF α n 0 ≠ 0 := by
  unfold incF
  cases h : last9 α n with
  | none => show one1 0 ≠ 0; decide
  | some j =>
    show (if 0 < j then α 0 else if 0 = j then α j + 1 else 0) ≠ 0
    by_cases q : 0 < j
    · rw [if_pos q]; exact h0
    · rw [if_neg q, if_pos (by omega)]; omega
set_option maxRecDepth 10000 in
theorem rv_inc {α : Nat → Nat} {n : Nat} (hn1 : n ≤ 1300) {p : Int} (hp : -600 ≤ p) {t : Nat} (ht : isStrip (incF α n) t) : rv (incF α n) t (p + incC α n) = ((pre α n : Int) + 1) * 10 ^ (p - n + 2000).toNat := by
  cases h : last9 α n with
  | none =>
    have eF : incF α n = one1 := by unfold incF; rw [h]
    have eC : incC α n = 1 := by unfold incC; rw [h]
    rw [eF] at ht ⊢
    rw [eC]
    have ht1 : t = 1 := strip_uniq ht ⟨fun i hi => by unfold one1; rw [if_neg (by omega)], fun _ => by decide⟩
    rw [ht1]
    have := pre_nines (fun i hi => last9_none h i hi)
    have e2 : ((pre α n : Int) + 1) = 10 ^ n := by
      have : ((pre α n + 1 : Nat) : Int) = ((10 ^ n : Nat) : Int) := by rw [this]
      rw [Int.natCast_pow] at this
      exact this
    rw [e2, ← Int.pow_add]
    unfold rv
    show (1 : Int) * _ = _
    rw [Int.one_mul]
    congr 1
    omega
  | some j =>
    have hj := last9_lt h
    have eC : incC α n = 0 := by unfold incC; rw [h]
    have hzz : ∀ i, n ≤ i → incF α n i = 0 := by
      intro i hi
      unfold incF; rw [h]
      show (if i < j then α i else if i = j then α j + 1 else 0) = 0
      rw [if_neg (by omega), if_neg (by omega)]
    have htn : t ≤ n := by
      rcases Nat.lt_or_ge n t with q | q
      · exact absurd (hzz (t - 1) (by omega)) (ht.2 (by omega))
      · exact q
    rw [eC, Int.add_zero]
    have e := rv_ext (L := t) ht.1 (p := p) (n - t) (by omega)
    rw [show t + (n - t) = n by omega] at e
    rw [← e]
    unfold rv
    rw [pre_inc_some h]
    rfl
set_option maxRecDepth 10000 in
theorem rv_tr {δ : Nat → Nat} {n : Nat} (hn1 : n ≤ 1300) {p : Int} (hp : -600 ≤ p) {t : Nat} (ht : isStrip (tr δ n) t) : rv (tr δ n) t p = (pre δ n : Int) * 10 ^ (p - n + 2000).toNat := by
  have hzz : ∀ i, n ≤ i → tr δ n i = 0 := fun i hi => by unfold tr; rw [if_neg (by omega)]
  have htn : t ≤ n := by
    rcases Nat.lt_or_ge n t with q | q
    · exact absurd (hzz (t - 1) (by omega)) (ht.2 (by omega))
    · exact q
  have e := rv_ext (L := t) ht.1 (p := p) (n - t) (by omega)
  rw [show t + (n - t) = n by omega] at e
  rw [← e]
  unfold rv
  rw [pre_congr (β := δ) (fun i hi => by unfold tr; rw [if_pos hi])]
set_option maxRecDepth 10000 in
theorem reads_spec {c : Int} (hc0 : 0 ≤ c) (hc1 : c < 9223372036854775808) {α ln hn : Nat → Nat} {na nl nh : Nat} {pa pl ph : Int} {ac lc hc : Nat → Int32} (hA : DL 1300 (iI na) ac na α) (hLo : DL 1300 (iI nl) lc nl ln) (hHi : DL 1300 (iI nh) hc nh hn) (ha0 : α 0 ≠ 0) (hl0 : ln 0 ≠ 0) (hh0 : hn 0 ≠ 0) (hpa : -600 ≤ pa ∧ pa ≤ 600) (hpl : -600 ≤ pl ∧ pl ≤ 600) (hph : -600 ≤ ph ∧ ph ≤ 600) :
    f_Md_reads (iL c) 1300 (iI na) (iI pa) (iI nl) (iI pl) lc ac (iI nh) (iI ph) hc = some (iI (if c % 2 = 0 then (if rv ln nl pl ≤ rv α na pa ∧ rv α na pa ≤ rv hn nh ph then 1 else 0) else (if rv ln nl pl < rv α na pa ∧ rv α na pa < rv hn nh ph then 1 else 0))) := by
  obtain ⟨_, a1, a2, a3, a4⟩ := hA
  obtain ⟨_, l1, l2, l3, l4⟩ := hLo
  obtain ⟨_, h1, h2, h3, h4⟩ := hHi
  unfold f_Md_reads f_Md_reads_66 f_Md_reads_84
  rw [iI_l (by omega) (by omega), compare_spec a4 l4 a2 l2 a3 l3 a1 l1 (by omega) hpa.1 hpa.2 hpl.1 hpl.2 ha0 hl0, Option.bind_some, compare_spec a4 h4 a2 h2 a3 h3 a1 h1 (by omega) hpa.1 hpa.2 hph.1 hph.2 ha0 hh0, Option.bind_some, show (1 : Int64) = iL 1 from rfl, one_and hc0 (by omega)]
  generalize rv α na pa = A
  generalize rv ln nl pl = B
  generalize rv hn nh ph = C
  have cm : ∀ x y : Int, (cmpI x y = -1 ∧ x < y) ∨ (cmpI x y = 0 ∧ x = y) ∨ (cmpI x y = 1 ∧ y < x) := by
    intro x y
    unfold cmpI
    rcases Int.lt_trichotomy x y with q | q | q
    · exact Or.inl ⟨by rw [if_pos q], q⟩
    · exact Or.inr (Or.inl ⟨by rw [if_neg (by omega), if_pos q], q⟩)
    · exact Or.inr (Or.inr ⟨by rw [if_neg (by omega), if_neg (by omega)], q⟩)
  have h2 : c % 2 = 0 ∨ c % 2 = 1 := by omega
  rcases h2 with e | e
  · rw [e, if_pos (show iL 0 = 0 from rfl), if_pos rfl]
    rcases cm A B with ⟨x1, x2⟩ | ⟨x1, x2⟩ | ⟨x1, x2⟩
    · rw [x1, if_pos (by decide), if_neg (by omega)]; rfl
    · rcases cm A C with ⟨y1, y2⟩ | ⟨y1, y2⟩ | ⟨y1, y2⟩
      · rw [x1, y1, if_neg (by decide), if_neg (by decide), if_pos (by omega)]; rfl
      · rw [x1, y1, if_neg (by decide), if_neg (by decide), if_pos (by omega)]; rfl
      · rw [x1, y1, if_neg (by decide), if_pos (by decide), if_neg (by omega)]; rfl
    · rcases cm A C with ⟨y1, y2⟩ | ⟨y1, y2⟩ | ⟨y1, y2⟩
      · rw [x1, y1, if_neg (by decide), if_neg (by decide), if_pos (by omega)]; rfl
      · rw [x1, y1, if_neg (by decide), if_neg (by decide), if_pos (by omega)]; rfl
      · rw [x1, y1, if_neg (by decide), if_pos (by decide), if_neg (by omega)]; rfl
  · rw [e, if_neg (show ¬ (iL 1 = 0) by decide), if_neg (show ¬ ((1 : Int) = 0) by decide)]
    rcases cm A B with ⟨x1, x2⟩ | ⟨x1, x2⟩ | ⟨x1, x2⟩
    · rw [x1, if_pos (by decide), if_neg (by omega)]; rfl
    · rw [x1, if_pos (by decide), if_neg (by omega)]; rfl
    · rcases cm A C with ⟨y1, y2⟩ | ⟨y1, y2⟩ | ⟨y1, y2⟩
      · rw [x1, y1, if_neg (by decide), if_neg (by decide), if_pos (by omega)]; rfl
      · rw [x1, y1, if_neg (by decide), if_pos (by decide), if_neg (by omega)]; rfl
      · rw [x1, y1, if_neg (by decide), if_pos (by decide), if_neg (by omega)]; rfl
