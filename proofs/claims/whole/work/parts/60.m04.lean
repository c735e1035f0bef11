-- F
set_option maxRecDepth 10000 in
def digs (N : Nat) : List Nat := if h : N = 0 then [] else digs (N / 10) ++ [N % 10]
termination_by N
decreasing_by omega
set_option maxRecDepth 10000 in
theorem digs_zero : digs 0 = [] := by rw [digs]; simp
set_option maxRecDepth 10000 in
theorem digs_step {a d : Nat} (hd : d < 10) (h : 0 < 10 * a + d) : digs (10 * a + d) = digs a ++ [d] := by
  rw [digs, dif_neg (by omega), show (10 * a + d) / 10 = a by omega, show (10 * a + d) % 10 = d by omega]
set_option maxRecDepth 10000 in
def nd (N : Nat) : Nat := (digs N).length
set_option maxRecDepth 10000 in
theorem nd_zero : nd 0 = 0 := by rw [nd, digs_zero]; rfl
set_option maxRecDepth 10000 in
theorem nd_step {a d : Nat} (hd : d < 10) (h : 0 < 10 * a + d) : nd (10 * a + d) = nd a + 1 := by rw [nd, digs_step hd h]; simp [nd]
set_option maxRecDepth 10000 in
theorem digs_le (N : Nat) : ∀ x ∈ digs N, x ≤ 9 := by
  induction N using Nat.strongRecOn with
  | ind N ih =>
    intro x hx
    rw [digs] at hx
    split at hx
    · cases hx
    · rcases List.mem_append.mp hx with q | q
      · exact ih (N / 10) (by omega) x q
      · rw [List.mem_singleton.mp q]; omega
set_option maxRecDepth 10000 in
theorem nd_pos {N : Nat} (h : 0 < N) : 0 < nd N := by
  rw [nd, digs, dif_neg (by omega)]; simp
set_option maxRecDepth 10000 in
theorem nd_lt (N : Nat) : N < 10 ^ nd N := by
  induction N using Nat.strongRecOn with
  | ind N ih =>
    by_cases h : N = 0
    · subst h; rw [nd_zero]; omega
    · have e : N = 10 * (N / 10) + N % 10 := by omega
      rw [e, nd_step (by omega) (by omega), Nat.pow_succ]
      have := ih (N / 10) (by omega)
      omega
set_option maxRecDepth 10000 in
theorem nd_le {N : Nat} (h : 0 < N) : 10 ^ (nd N - 1) ≤ N := by
  induction N using Nat.strongRecOn with
  | ind N ih =>
    have e : N = 10 * (N / 10) + N % 10 := by omega
    rw [e, nd_step (by omega) (by omega), Nat.add_sub_cancel]
    by_cases h0 : N / 10 = 0
    · rw [h0, nd_zero]; simp; omega
    · have := ih (N / 10) (by omega) (by omega)
      have e2 : 10 ^ nd (N / 10) = 10 * 10 ^ (nd (N / 10) - 1) := by
        rw [← Nat.pow_succ']; congr 1; have := nd_pos (N := N / 10) (by omega); omega
      rw [e2]
      omega
set_option maxRecDepth 10000 in
theorem p10_mono {a b : Nat} (h : a ≤ b) : 10 ^ a ≤ 10 ^ b := Nat.pow_le_pow_right (by omega) h
set_option maxRecDepth 10000 in
theorem nd_uniq {N k : Nat} (h : 0 < N) (h1 : N < 10 ^ k) (h2 : 10 ^ (k - 1) ≤ N) : nd N = k := by
  have a1 := nd_lt N
  have a2 := nd_le h
  have a3 := nd_pos h
  rcases Nat.lt_trichotomy (nd N) k with q | q | q
  · have := p10_mono (show nd N ≤ k - 1 by omega); omega
  · exact q
  · have := p10_mono (show k ≤ nd N - 1 by omega); omega
set_option maxRecDepth 10000 in
theorem nd_le_of {N k : Nat} (h : N < 10 ^ k) : nd N ≤ k := by
  by_cases h0 : N = 0
  · subst h0; rw [nd_zero]; omega
  · have := nd_le (N := N) (by omega)
    rcases Nat.lt_or_ge k (nd N) with q | q
    · have := p10_mono (show k ≤ nd N - 1 by omega); omega
    · exact q
set_option maxRecDepth 10000 in
theorem digs_get (N : Nat) : ∀ i, i < nd N → (digs N)[i]? = some (N / 10 ^ (nd N - 1 - i) % 10) := by
  induction N using Nat.strongRecOn with
  | ind N ih =>
    intro i hi
    by_cases h : N = 0
    · subst h; rw [nd_zero] at hi; omega
    · have e : N = 10 * (N / 10) + N % 10 := by omega
      have hn := nd_step (a := N / 10) (d := N % 10) (by omega) (by omega)
      rw [← e] at hn
      have hd := digs_step (a := N / 10) (d := N % 10) (by omega) (by omega)
      rw [← e] at hd
      rw [hd, hn]
      by_cases hl : i < nd (N / 10)
      · rw [List.getElem?_append_left hl, ih (N / 10) (by omega) i hl, show nd (N / 10) + 1 - 1 - i = (nd (N / 10) - 1 - i) + 1 by omega, Nat.pow_succ', ← Nat.div_div_eq_div_mul]
      · rw [List.getElem?_append_right (by exact Nat.le_of_not_lt hl)]
        have : i = nd (N / 10) := by omega
        subst this
        simp [nd]
set_option maxRecDepth 10000 in
def digF (N i : Nat) : Nat := (digs N)[i]?.getD 0
set_option maxRecDepth 10000 in
theorem digF_in {N i : Nat} (h : i < nd N) : digF N i = N / 10 ^ (nd N - 1 - i) % 10 := by rw [digF, digs_get N i h]; rfl
set_option maxRecDepth 10000 in
theorem digF_out {N i : Nat} (h : nd N ≤ i) : digF N i = 0 := by rw [digF, List.getElem?_eq_none h]; rfl
set_option maxRecDepth 10000 in
theorem digF_le (N i : Nat) : digF N i ≤ 9 := by
  by_cases h : i < nd N
  · rw [digF_in h]; omega
  · rw [digF_out (by omega)]; omega
set_option maxRecDepth 10000 in
theorem nd_mul10 {N : Nat} (k : Nat) (h : 0 < N) : nd (N * 10 ^ k) = nd N + k := by
  apply nd_uniq (Nat.mul_pos h (Nat.pow_pos (by omega)))
  · rw [Nat.pow_add]; exact Nat.mul_lt_mul_of_pos_right (nd_lt N) (Nat.pow_pos (by omega))
  · have := nd_pos h
    rw [show nd N + k - 1 = (nd N - 1) + k by omega, Nat.pow_add]; exact Nat.mul_le_mul_right _ (nd_le h)
set_option maxRecDepth 10000 in
theorem digF_mul10 {N : Nat} (k i : Nat) : digF (N * 10 ^ k) i = digF N i := by
  by_cases h : N = 0
  · subst h; rw [Nat.zero_mul]
  · have hn := nd_mul10 (N := N) k (by omega)
    by_cases hi : i < nd N
    · rw [digF_in hi, digF_in (by omega), hn, show nd N + k - 1 - i = (nd N - 1 - i) + k by omega, Nat.pow_add, Nat.mul_div_mul_right _ _ (Nat.pow_pos (by omega))]
    · rw [digF_out (N := N) (by omega)]
      by_cases h2 : i < nd N + k
      · rw [digF_in (by omega), hn]
        have e : N * 10 ^ k = (N * 10 ^ (i - nd N) * 10) * 10 ^ (nd N + k - 1 - i) := by
          rw [Nat.mul_assoc, ← Nat.pow_succ', Nat.mul_assoc, ← Nat.pow_add]; congr 2; omega
        rw [e, Nat.mul_div_cancel _ (Nat.pow_pos (by omega)), Nat.mul_mod_left]
      · rw [digF_out (by omega)]
set_option maxRecDepth 10000 in
def DL (m : Nat) (sz : Int32) (c : Nat → Int32) (n : Nat) (δ : Nat → Nat) : Prop := sz = iI n ∧ n ≤ m ∧ (∀ i, i < n → c i = iI (δ i)) ∧ (∀ i, n ≤ i → δ i = 0) ∧ ∀ i, δ i ≤ 9
set_option maxRecDepth 10000 in
theorem digF_step {a d : Nat} (hd : d < 10) (h : 0 < 10 * a + d) (i : Nat) : digF (10 * a + d) i = if i = nd a then d else digF a i := by
  unfold digF
  rw [digs_step hd h]
  by_cases h1 : i < nd a
  · rw [List.getElem?_append_left h1, if_neg (by omega)]
  · rw [List.getElem?_append_right (by exact Nat.le_of_not_lt h1)]
    by_cases h2 : i = nd a
    · rw [if_pos h2]; subst h2; simp [nd]
    · rw [if_neg h2, List.getElem?_eq_none (l := digs a) (by exact Nat.le_of_not_lt h1)]
      have : ¬ i - (digs a).length = 0 := by have : nd a = (digs a).length := rfl; omega
      rw [List.getElem?_eq_none (by simp; omega)]
set_option maxRecDepth 10000 in
theorem append_spec {sz : Int32} {c : Nat → Int32} {A d : Nat} (hd : d < 10) (h : DL 792 sz c (nd A) (digF A)) (hl : nd A < 792) : ∃ sz' c', f_Dc_append (iI d) sz c = some (sz', c') ∧ DL 792 sz' c' (nd (10 * A + d)) (digF (10 * A + d)) := by
  obtain ⟨rfl, h1, h2, h3, h4⟩ := h
  unfold f_Dc_append f_Dc_append_11
  rw [nar_b]
  simp (disch := omega) only [iI_lit, iL_lit, iI_add, iI_sub, iI_mul, iI_neg, iL_add, iL_sub, iL_mul, iL_neg, iI_lt, iI_le, iI_eq, iL_lt, iL_le, iL_eqS, iI_c, iI_ok, iI_l, iL_i, iI_low, l_ushrI, l_shlI, l_shrI, i_shlI, i_shrI, i_ushrI, iI_div, iL_div, Int.toNat_natCast, Int.reduceToNat, iI_ofNat]
  rw [sb_small (by omega) (by omega)]
  have key : 0 < 10 * A + d → DL 792 (iI ((nd A : Int) + 1)) (upd c (nd A) (iI d)) (nd (10 * A + d)) (digF (10 * A + d)) := by
    intro q
    refine ⟨by rw [nd_step hd q]; rfl, by rw [nd_step hd q]; omega, fun i hi => ?_, fun i hi => digF_out hi, digF_le _⟩
    rw [nd_step hd q] at hi
    rw [digF_step hd q]
    by_cases hi2 : i = nd A
    · subst hi2; rw [upd_s, if_pos rfl]
    · rw [upd_n hi2, if_neg hi2]; exact h2 i (by omega)
  by_cases h0 : A = 0
  · subst h0
    rw [nd_zero] at *
    rw [if_neg (by omega)]
    by_cases hd0 : d = 0
    · subst hd0
      rw [if_pos (by omega)]
      exact ⟨_, _, rfl, by rw [nd_zero], by rw [nd_zero]; omega, fun i hi => by rw [nd_zero] at hi; omega, fun i hi => digF_out hi, digF_le _⟩
    · rw [if_neg (by omega), if_neg (by omega), if_pos (by omega)]
      exact ⟨_, _, rfl, key (by omega)⟩
  · have := nd_pos (N := A) (by omega)
    rw [if_pos (by omega), if_neg (by omega), if_pos (by omega)]
    exact ⟨_, _, rfl, key (by omega)⟩
set_option maxRecDepth 10000 in
theorem DL_zero (sz : Int32) (c : Nat → Int32) (h : sz = iI 0) : DL 792 sz c (nd 0) (digF 0) := by
  subst h
  exact ⟨by rw [nd_zero]; rfl, by rw [nd_zero]; omega, fun i hi => by rw [nd_zero] at hi; omega, fun i hi => digF_out hi, digF_le _⟩
set_option maxRecDepth 10000 in
theorem p10_lt19 {k : Nat} (h : k ≤ 18) : (10 : Int) ^ k ≤ 1000000000000000000 ∧ (0 : Int) < 10 ^ k := by
  have : ∀ k : Fin 19, (10 : Int) ^ k.val ≤ 1000000000000000000 ∧ (0 : Int) < 10 ^ k.val := by decide +kernel
  exact this ⟨k, by omega⟩
set_option maxRecDepth 10000 in
theorem tw_step (k m : Nat) (A : Nat) (R : Nat) (sz pt : Int32) (c : Nat → Int32) (hk : k ≤ 18) (hR : R < 10 ^ (k + 1)) (hR2 : R ≤ 9223372036854775808) (hA : nd A + k + 1 ≤ 792) (h : DL 792 sz c (nd A) (digF A)) :
    ∃ sz' c', DL 792 sz' c' (nd (10 * A + R / 10 ^ k)) (digF (10 * A + R / 10 ^ k)) ∧ f_Dc_takeWhole_23 (m + 1) (iL (-(R : Int))) (iL (10 ^ k)) sz pt c = f_Dc_takeWhole_23 m (iL (-((R % 10 ^ k : Nat) : Int))) (iL (10 ^ k / 10)) sz' pt c' := by
  obtain ⟨hp1, hp2⟩ := p10_lt19 hk
  have hd : R / 10 ^ k < 10 := Nat.div_lt_of_lt_mul (by rw [← Nat.pow_succ]; exact hR)
  obtain ⟨sz', c', e, h'⟩ := append_spec hd h (by omega)
  refine ⟨sz', c', h', ?_⟩
  rw [f_Dc_takeWhole_23]
  have hdiv : iL (-(R : Int)) / iL (10 ^ k) = iL (-((R / 10 ^ k : Nat) : Int)) := by
    have e1 : (-(R : Int)).tdiv (10 ^ k) = -((R / 10 ^ k : Nat) : Int) := by
      rw [Int.neg_tdiv, Int.tdiv_eq_ediv_of_nonneg (by omega)]; simp
    by_cases hk0 : k = 0
    · subst hk0
      rw [← Int64.toInt_inj, Int64.toInt_div, iL_t (by omega) (by omega), iL_t (by omega) (by omega), e1, iL_t (by omega) (by omega), Int.bmod_eq_of_le (by omega) (by omega)]
    · have h10 : (1 : Int) < 10 ^ k := by
        have := p10_mono (show 1 ≤ k by omega)
        have e : ((10 ^ k : Nat) : Int) = 10 ^ k := by simp
        omega
      rw [iL_tdiv (by omega) (by omega) h10 (by omega), e1]
  have hne : (iL (10 ^ k) = iL 0) = False := by
    rw [iL_eqS (by omega) (by omega) (by omega) (by omega)]
    apply propext; constructor
    · intro q; omega
    · intro q; exact q.elim
  simp (disch := omega) only [iI_lit, iL_lit, iI_add, iI_sub, iI_mul, iI_neg, iL_add, iL_sub, iL_mul, iL_neg, iI_lt, iI_le, iI_eq, iL_lt, iL_le, iL_eqS, iI_c, iI_ok, iI_l, iL_i, iI_low, l_ushrI, l_shlI, l_shrI, i_shlI, i_shrI, i_ushrI, iI_div, iL_div, Int.toNat_natCast, Int.reduceToNat, iI_ofNat]
  rw [if_neg (by omega)]
  rw [hdiv]
  simp (disch := omega) only [iI_lit, iL_lit, iI_add, iI_sub, iI_mul, iI_neg, iL_add, iL_sub, iL_mul, iL_neg, iI_lt, iI_le, iI_eq, iL_lt, iL_le, iL_eqS, iI_c, iI_ok, iI_l, iL_i, iI_low, l_ushrI, l_shlI, l_shrI, i_shlI, i_shrI, i_ushrI, iI_div, iL_div, Int.toNat_natCast, Int.reduceToNat, iI_ofNat]
  rw [show -(-((R / 10 ^ k : Nat) : Int)) = ((R / 10 ^ k : Nat) : Int) by omega, e, Option.bind_some, if_pos (by omega), if_pos (by omega)]
  have e3 : (-(R : Int)) - -((R / 10 ^ k : Nat) : Int) * 10 ^ k = -((R % 10 ^ k : Nat) : Int) := by
    have := Nat.div_add_mod R (10 ^ k)
    have e4 : ((10 ^ k * (R / 10 ^ k) + R % 10 ^ k : Nat) : Int) = R := by rw [this]
    rw [Int.natCast_add, Int.natCast_mul] at e4
    have e5 : ((10 ^ k : Nat) : Int) = 10 ^ k := by simp
    rw [e5] at e4
    rw [Int.neg_mul, Int.mul_comm _ ((10 : Int) ^ k)]
    omega
  rw [e3]
set_option maxRecDepth 10000 in
theorem tw_loop : ∀ (k m A R : Nat) (sz pt : Int32) (c : Nat → Int32), k ≤ 18 → k + 1 < m → R < 10 ^ (k + 1) → R ≤ 9223372036854775808 → nd A + k + 1 ≤ 792 → DL 792 sz c (nd A) (digF A) →
    ∃ sz' c', DL 792 sz' c' (nd (A * 10 ^ (k + 1) + R)) (digF (A * 10 ^ (k + 1) + R)) ∧ f_Dc_takeWhole_23 m (iL (-(R : Int))) (iL (10 ^ k)) sz pt c = some (sz', iI (if A * 10 ^ (k + 1) + R = 0 then 1 else (nd (A * 10 ^ (k + 1) + R) : Int)), c')
  | 0, m + 1, A, R, sz, pt, c, hk, hm, hR, hR2, hA, h => by
    obtain ⟨sz', c', h1, h2⟩ := tw_step 0 m A R sz pt c hk hR hR2 hA h
    rw [h2]
    obtain ⟨m, rfl⟩ : ∃ m', m = m' + 1 := ⟨m - 1, by omega⟩
    rw [f_Dc_takeWhole_23]
    simp only [Nat.pow_zero, Nat.div_one, Nat.zero_add, Nat.pow_one] at *
    rw [show A * 10 + R = 10 * A + R by omega]
    obtain ⟨rfl, q1, q2, q3, q4⟩ := h1
    rw [show ((10 : Int) ^ 0 / 10) = 0 from rfl]
    simp (disch := omega) only [iI_lit, iL_lit, iI_add, iI_sub, iI_mul, iI_neg, iL_add, iL_sub, iL_mul, iL_neg, iI_lt, iI_le, iI_eq, iL_lt, iL_le, iL_eqS, iI_c, iI_ok, iI_l, iL_i, iI_low, l_ushrI, l_shlI, l_shrI, i_shlI, i_shrI, i_ushrI, iI_div, iL_div, Int.toNat_natCast, Int.reduceToNat, iI_ofNat]
    rw [if_pos (by omega)]
    by_cases h0 : 10 * A + R = 0
    · rw [if_pos h0, if_pos (by rw [h0, nd_zero]; rfl)]
      exact ⟨_, _, ⟨rfl, q1, q2, q3, q4⟩, rfl⟩
    · have := nd_pos (N := 10 * A + R) (by omega)
      rw [if_neg (by omega), if_neg h0]
      exact ⟨_, _, ⟨rfl, q1, q2, q3, q4⟩, rfl⟩
  | k + 1, m + 1, A, R, sz, pt, c, hk, hm, hR, hR2, hA, h => by
    obtain ⟨sz', c', h1, h2⟩ := tw_step (k + 1) m A R sz pt c hk hR hR2 hA h
    rw [h2]
    have e1 : ((10 : Int) ^ (k + 1) / 10) = 10 ^ k := by rw [Int.pow_succ]; omega
    rw [e1]
    have hd : R / 10 ^ (k + 1) < 10 := Nat.div_lt_of_lt_mul (by rw [← Nat.pow_succ]; exact hR)
    have hnd : nd (10 * A + R / 10 ^ (k + 1)) ≤ nd A + 1 := by
      rcases Nat.eq_zero_or_pos (10 * A + R / 10 ^ (k + 1)) with q | q
      · rw [q, nd_zero]; omega
      · rw [nd_step hd q]; omega
    obtain ⟨sz2, c2, h3, h4⟩ := tw_loop k m (10 * A + R / 10 ^ (k + 1)) (R % 10 ^ (k + 1)) sz' pt c' (by omega) (by omega) (Nat.mod_lt _ (Nat.pow_pos (by omega))) (by have := Nat.mod_le R (10 ^ (k + 1)); omega) (by omega) h1
    have e2 : (10 * A + R / 10 ^ (k + 1)) * 10 ^ (k + 1) + R % 10 ^ (k + 1) = A * 10 ^ (k + 1 + 1) + R := by
      have := Nat.div_add_mod R (10 ^ (k + 1))
      rw [Nat.pow_succ 10 (k + 1)]
      generalize 10 ^ (k + 1) = P at *
      rw [Nat.add_mul, Nat.mul_comm (R / P), Nat.add_assoc, this]
      grind
    rw [e2] at h3 h4
    exact ⟨sz2, c2, h3, h4⟩
set_option maxRecDepth 10000 in
theorem tw_spec {v : Int} (h0 : -9223372036854775808 ≤ v) (h1 : v < 9223372036854775808) (sz pt : Int32) (c : Nat → Int32) :
    ∃ sz' c', DL 792 sz' c' (nd v.natAbs) (digF v.natAbs) ∧ f_Dc_takeWhole (iL v) sz pt c = some (sz', iI (if v = 0 then 1 else (nd v.natAbs : Int)), c') := by
  unfold f_Dc_takeWhole f_Dc_takeWhole_12
  simp (disch := omega) only [iI_lit, iL_lit, iI_add, iI_sub, iI_mul, iI_neg, iL_add, iL_sub, iL_mul, iL_neg, iI_lt, iI_le, iI_eq, iL_lt, iL_le, iL_eqS, iI_c, iI_ok, iI_l, iL_i, iI_low, l_ushrI, l_shlI, l_shrI, i_shlI, i_shrI, i_ushrI, iI_div, iL_div, Int.toNat_natCast, Int.reduceToNat, iI_ofNat]
  obtain ⟨sz', c', q1, q2⟩ := tw_loop 18 gx_fu 0 v.natAbs (iI 0) pt c (by omega) (by have := fu_pos; omega) (by omega) (by omega) (by rw [nd_zero]; omega) (DL_zero _ _ rfl)
  rw [Nat.zero_mul, Nat.zero_add] at q1 q2
  have e : (if v.natAbs = 0 then (1 : Int) else (nd v.natAbs : Int)) = (if v = 0 then 1 else (nd v.natAbs : Int)) := by
    by_cases q : v = 0
    · rw [if_pos q, if_pos (by omega)]
    · rw [if_neg q, if_neg (by omega)]
  rw [e] at q2
  refine ⟨sz', c', q1, ?_⟩
  by_cases hs : 0 ≤ v
  · rw [if_pos hs, show -v = -(v.natAbs : Int) by omega]
    exact q2
  · rw [if_neg hs]
    rw [show -(v.natAbs : Int) = v by omega] at q2
    exact q2
set_option maxRecDepth 10000 in
def cv (c : Nat → Int32) : Nat → Nat
  | 0 => 0
  | n + 1 => cv c n + (u3 (c n)).toNat * 1000000000 ^ n
set_option maxRecDepth 10000 in
theorem cv_congr {c d : Nat → Int32} : ∀ {n : Nat}, (∀ i, i < n → c i = d i) → cv c n = cv d n
  | 0, _ => rfl
  | n + 1, h => by rw [cv, cv, cv_congr (fun i hi => h i (by omega)), h n (by omega)]
set_option maxRecDepth 10000 in
theorem cv_upd {c : Nat → Int32} {n : Nat} {x : Int32} : cv (upd c n x) n = cv c n := cv_congr (fun i hi => upd_n (by omega))
set_option maxRecDepth 10000 in
theorem nd_app (A k : Nat) {r : Nat} (h : r < 10 ^ k) : nd (A * 10 ^ k + r) ≤ nd A + k := by
  apply nd_le_of
  rw [Nat.pow_add]
  have := nd_lt A
  have : (A + 1) * 10 ^ k ≤ 10 ^ nd A * 10 ^ k := Nat.mul_le_mul_right _ (by omega)
  rw [Nat.add_mul] at this
  omega
set_option maxRecDepth 10000 in
theorem p10_lt9 {k : Nat} (h : k ≤ 8) : (10 : Int) ^ k ≤ 100000000 ∧ (0 : Int) < 10 ^ k := by
  have : ∀ k : Fin 9, (10 : Int) ^ k.val ≤ 100000000 ∧ (0 : Int) < 10 ^ k.val := by decide +kernel
  exact this ⟨k, by omega⟩
set_option maxRecDepth 10000 in
theorem tn_in {K : Int32 → (Nat → Int32) → Int32 → Int32 → (Nat → Int32) → (Nat → Int32) → Option ((Nat → Int32) × Int32 × Int32 × (Nat → Int32) × (Nat → Int32))} {i C : Nat} {ch : Nat → Int32} {ns : Int32} {nl : Nat → Int32} (hi : i < 88) (hC : C < 1000000000) (hch : ch i = iI C) :
    ∀ (k m A : Nat) (sz : Int32) (c : Nat → Int32), k ≤ 9 → k < m → nd A + k ≤ 792 → DL 792 sz c (nd A) (digF A) →
    ∃ sz' c', DL 792 sz' c' (nd (A * 10 ^ k + C % 10 ^ k)) (digF (A * 10 ^ k + C % 10 ^ k)) ∧ f_Dc_takeNumber_48 K m (iI i) (iI (10 ^ k / 10)) ch sz ns nl c = K (iI ((i : Int) - 1)) ch sz' ns nl c'
  | 0, m + 1, A, sz, c, hk, hm, hA, h => by
    rw [f_Dc_takeNumber_48]
    rw [show ((10 : Int) ^ 0 / 10) = 0 from rfl]
    simp (disch := omega) only [iI_lit, iL_lit, iI_add, iI_sub, iI_mul, iI_neg, iL_add, iL_sub, iL_mul, iL_neg, iI_lt, iI_le, iI_eq, iL_lt, iL_le, iL_eqS, iI_c, iI_ok, iI_l, iL_i, iI_low, l_ushrI, l_shlI, l_shrI, i_shlI, i_shrI, i_ushrI, iI_div, iL_div, Int.toNat_natCast, Int.reduceToNat, iI_ofNat]
    rw [if_pos (by omega)]
    refine ⟨sz, c, ?_, rfl⟩
    rw [Nat.pow_zero, Nat.mul_one, Nat.mod_one, Nat.add_zero]
    exact h
  | k + 1, m + 1, A, sz, c, hk, hm, hA, h => by
    rw [f_Dc_takeNumber_48]
    have e1 : ((10 : Int) ^ (k + 1) / 10) = 10 ^ k := by rw [Int.pow_succ]; omega
    obtain ⟨hp1, hp2⟩ := p10_lt9 (show k ≤ 8 by omega)
    rw [e1]
    have hpk : 0 < 10 ^ k := Nat.pow_pos (by omega)
    have e5 : ((10 ^ k : Nat) : Int) = 10 ^ k := by simp
    simp (disch := omega) only [iI_lit, iL_lit, iI_add, iI_sub, iI_mul, iI_neg, iL_add, iL_sub, iL_mul, iL_neg, iI_lt, iI_le, iI_eq, iL_lt, iL_le, iL_eqS, iI_c, iI_ok, iI_l, iL_i, iI_low, l_ushrI, l_shlI, l_shrI, i_shlI, i_shrI, i_ushrI, iI_div, iL_div, Int.toNat_natCast, Int.reduceToNat, iI_ofNat, hch]
    have hq0 : 0 ≤ (C : Int) / 10 ^ k := Int.ediv_nonneg (by omega) (by omega)
    have hq1 : (C : Int) / 10 ^ k ≤ C := Int.ediv_le_self _ (by omega)
    simp (disch := omega) only [iI_lit, iL_lit, iI_add, iI_sub, iI_mul, iI_neg, iL_add, iL_sub, iL_mul, iL_neg, iI_lt, iI_le, iI_eq, iL_lt, iL_le, iL_eqS, iI_c, iI_ok, iI_l, iL_i, iI_low, l_ushrI, l_shlI, l_shrI, i_shlI, i_shrI, i_ushrI, iI_div, iL_div, Int.toNat_natCast, Int.reduceToNat, iI_ofNat]
    rw [if_neg (by omega), if_pos (by omega), if_pos (by omega)]
    have hdig : (C : Int) / 10 ^ k - (C : Int) / 10 ^ k / 10 * 10 = ((C / 10 ^ k % 10 : Nat) : Int) := by
      rw [← e5]
      omega
    rw [hdig]
    obtain ⟨sz', c', e, h'⟩ := append_spec (d := C / 10 ^ k % 10) (by omega) h (by omega)
    rw [e, Option.bind_some]
    have hnd : nd (10 * A + C / 10 ^ k % 10) ≤ nd A + 1 := by
      have := nd_app A 1 (r := C / 10 ^ k % 10) (by omega)
      rw [show A * 10 ^ 1 = 10 * A by omega] at this
      exact this
    obtain ⟨sz2, c2, h3, h4⟩ := tn_in (K := K) (ns := ns) (nl := nl) hi hC hch k m (10 * A + C / 10 ^ k % 10) sz' c' (by omega) (by omega) (by omega) h'
    have e2 : (10 * A + C / 10 ^ k % 10) * 10 ^ k + C % 10 ^ k = A * 10 ^ (k + 1) + C % 10 ^ (k + 1) := by
      rw [Nat.pow_succ, Nat.mod_mul]
      generalize 10 ^ k = P
      grind
    rw [e2] at h3
    exact ⟨sz2, c2, h3, h4⟩
set_option maxRecDepth 10000 in
theorem p9 (i : Nat) : 1000000000 ^ i = 10 ^ (9 * i) := by rw [Nat.pow_mul]
set_option maxRecDepth 10000 in
theorem tn_out {ch : Nat → Int32} {ns : Int32} {nl : Nat → Int32} :
    ∀ (i m A : Nat) (sz : Int32) (c : Nat → Int32), i ≤ 88 → i < m → nd A + 9 * i ≤ 792 → (∀ j, j < i → u3 (ch j) < 1000000000) → DL 792 sz c (nd A) (digF A) →
    ∃ sz' c', DL 792 sz' c' (nd (A * 10 ^ (9 * i) + cv ch i)) (digF (A * 10 ^ (9 * i) + cv ch i)) ∧ f_Dc_takeNumber_41 m (iI ((i : Int) - 1)) ch sz ns nl c = some (ch, sz', ns, nl, c')
  | 0, m + 1, A, sz, c, hi, hm, hA, hch, h => by
    rw [f_Dc_takeNumber_41]
    simp (disch := omega) only [iI_lit, iL_lit, iI_add, iI_sub, iI_mul, iI_neg, iL_add, iL_sub, iL_mul, iL_neg, iI_lt, iI_le, iI_eq, iL_lt, iL_le, iL_eqS, iI_c, iI_ok, iI_l, iL_i, iI_low, l_ushrI, l_shlI, l_shrI, i_shlI, i_shrI, i_ushrI, iI_div, iL_div, Int.toNat_natCast, Int.reduceToNat, iI_ofNat]
    rw [if_pos (by omega)]
    refine ⟨sz, c, ?_, rfl⟩
    rw [Nat.mul_zero, Nat.pow_zero, Nat.mul_one, cv, Nat.add_zero]
    exact h
  | i + 1, m + 1, A, sz, c, hi, hm, hA, hch, h => by
    rw [f_Dc_takeNumber_41]
    have hC := hch i (by omega)
    have hC0 := u3_0 (ch i)
    have e1 : (((i + 1 : Nat) : Int) - 1) = (i : Int) := by omega
    rw [e1]
    simp (disch := omega) only [iI_lit, iL_lit, iI_add, iI_sub, iI_mul, iI_neg, iL_add, iL_sub, iL_mul, iL_neg, iI_lt, iI_le, iI_eq, iL_lt, iL_le, iL_eqS, iI_c, iI_ok, iI_l, iL_i, iI_low, l_ushrI, l_shlI, l_shrI, i_shlI, i_shrI, i_ushrI, iI_div, iL_div, Int.toNat_natCast, Int.reduceToNat, iI_ofNat]
    rw [if_neg (by omega)]
    obtain ⟨sz1, c1, h1, h2⟩ := tn_in (K := fun v2 o_chunks_cq o_sizeq o_number_sizeq o_number_limbs_cq o_digits_cq => f_Dc_takeNumber_41 m v2 o_chunks_cq o_sizeq o_number_sizeq o_number_limbs_cq o_digits_cq) (i := i) (C := (u3 (ch i)).toNat) (ch := ch) (ns := ns) (nl := nl) (by omega) (by omega) (by rw [Int.toNat_of_nonneg hC0, i_u3]) 9 gx_fu A sz c (by omega) (by have := fu_pos; omega) (by omega) h
    rw [show ((10 : Int) ^ 9 / 10) = 100000000 from rfl] at h2
    rw [h2]
    rw [Nat.mod_eq_of_lt (by show (u3 (ch i)).toNat < 1000000000; omega)] at h1
    have hnd := nd_app A 9 (r := (u3 (ch i)).toNat) (by show _ < 1000000000; omega)
    obtain ⟨sz2, c2, h3, h4⟩ := tn_out (ch := ch) (ns := ns) (nl := nl) i m (A * 10 ^ 9 + (u3 (ch i)).toNat) sz1 c1 (by omega) (by omega) (by omega) (fun j hj => hch j (by omega)) h1
    refine ⟨sz2, c2, ?_, h4⟩
    have e2 : (A * 10 ^ 9 + (u3 (ch i)).toNat) * 10 ^ (9 * i) + cv ch i = A * 10 ^ (9 * (i + 1)) + cv ch (i + 1) := by
      rw [cv, p9, Nat.mul_add 9, Nat.pow_add]
      generalize 10 ^ (9 * i) = P
      generalize (u3 (ch i)).toNat = C
      grind
    rw [e2] at h3
    exact h3
set_option maxRecDepth 10000 in
theorem tn_loop {N : Nat} (hN : N < 10 ^ 792) {c : Nat → Int32} : ∀ (d j m : Nat) (ch : Nat → Int32) (ns : Int32) (nl : Nat → Int32) (M : Nat), j + d = 88 → d < m → (∀ i, i < j → u3 (ch i) < 1000000000) → BR ns nl (M : Int) → cv ch j + M * 10 ^ (9 * j) = N →
    ∃ ch' sz' ns' nl' c', DL 792 sz' c' (nd N) (digF N) ∧ BR ns' nl' 0 ∧ f_Dc_takeNumber_2 m (iI j) ch (iI 0) ns nl c = some (ch', sz', ns', nl', c') := by
  have fin : ∀ (j : Nat) (ch : Nat → Int32) (ns : Int32) (nl : Nat → Int32) (M : Nat), j ≤ 88 → (∀ i, i < j → u3 (ch i) < 1000000000) → BR ns nl (M : Int) → cv ch j + M * 10 ^ (9 * j) = N → M = 0 → ∃ ch' sz' ns' nl' c', DL 792 sz' c' (nd N) (digF N) ∧ BR ns' nl' 0 ∧ f_Dc_takeNumber_37 (iI j) ch (iI 0) ns nl c = some (ch', sz', ns', nl', c') := by
    intro j ch ns nl M hj hch hB hM hM0
    unfold f_Dc_takeNumber_37
    obtain ⟨sz', c', h1, h2⟩ := tn_out (ch := ch) (ns := ns) (nl := nl) j gx_fu 0 (iI 0) c hj (by have := fu_pos; omega) (by rw [nd_zero]; omega) hch (DL_zero _ _ rfl)
    subst hM0
    rw [Nat.zero_mul, Nat.add_zero] at hM
    rw [Nat.zero_mul, Nat.zero_add, hM] at h1
    rw [show (1 : Int32) = iI 1 from rfl, iI_sub, h2]
    exact ⟨_, _, _, _, _, h1, hB, rfl⟩
  intro d
  induction d with
  | zero =>
    intro j m ch ns nl M hj hm hch hB hM
    obtain ⟨m, rfl⟩ : ∃ m', m = m' + 1 := ⟨m - 1, by omega⟩
    rw [f_Dc_takeNumber_2]
    obtain rfl : j = 88 := by omega
    have hM0 : M = 0 := by
      rcases Nat.eq_zero_or_pos M with q | q
      · exact q
      · have : 1 * 10 ^ (9 * 88) ≤ M * 10 ^ (9 * 88) := Nat.mul_le_mul_right _ q
        rw [show 9 * 88 = 792 from rfl] at *
        omega
    rw [if_pos (by decide)]
    exact fin 88 ch ns nl M (by omega) hch hB hM hM0
  | succ d ih =>
    intro j m ch ns nl M hj hm hch hB hM
    obtain ⟨m, rfl⟩ : ∃ m', m = m' + 1 := ⟨m - 1, by omega⟩
    rw [f_Dc_takeNumber_2, isZero_spec hB, Option.bind_some]
    simp (disch := omega) only [iI_lit, iL_lit, iI_add, iI_sub, iI_mul, iI_neg, iL_add, iL_sub, iL_mul, iL_neg, iI_lt, iI_le, iI_eq, iL_lt, iL_le, iL_eqS, iI_c, iI_ok, iI_l, iL_i, iI_low, l_ushrI, l_shlI, l_shrI, i_shlI, i_shrI, i_ushrI, iI_div, iL_div, Int.toNat_natCast, Int.reduceToNat, iI_ofNat]
    rw [if_neg (by omega)]
    by_cases h0 : M = 0
    · rw [if_pos (show (M : Int) = 0 by omega), if_neg (by decide)]
      exact fin j ch ns nl M (by omega) hch hB hM h0
    · rw [if_neg (show ¬ (M : Int) = 0 by omega), if_pos rfl]
      obtain ⟨ns', nl', e, hB'⟩ := db_spec hB
      rw [e, Option.bind_some, if_pos (by omega)]
      have e1 : (M : Int) / 1000000000 = ((M / 1000000000 : Nat) : Int) := by omega
      rw [e1] at hB'
      rw [show ((j : Int) + 1) = ((j + 1 : Nat) : Int) by omega]
      have hu : u3 (iI ((M : Int) % 1000000000)) = (M : Int) % 1000000000 := u3_i (by omega) (by omega)
      refine ih (j + 1) m _ ns' nl' (M / 1000000000) (by omega) (by omega) (fun i hi => ?_) hB' ?_
      · by_cases q : i = j
        · subst q; rw [upd_s, hu]; omega
        · rw [upd_n q]; exact hch i (by omega)
      · rw [cv, cv_upd, upd_s, hu, p9, Nat.mul_add 9, Nat.pow_add, ← hM]
        have e2 : ((M : Int) % 1000000000).toNat = M % 1000000000 := by omega
        rw [e2]
        have := Nat.div_add_mod M 1000000000
        generalize 10 ^ (9 * j) = P
        show _ + _ * P + _ * (P * 1000000000) = _
        generalize M / 1000000000 = q at *
        generalize M % 1000000000 = r at *
        subst this
        grind
set_option maxRecDepth 10000 in
theorem tn_spec {N : Nat} (hN : N < 10 ^ 792) {c ch nl : Nat → Int32} {ns : Int32} (hB : BR ns nl (N : Int)) : ∃ ch' sz' ns' nl' c', DL 792 sz' c' (nd N) (digF N) ∧ BR ns' nl' 0 ∧ f_Dc_takeNumber ch (iI 0) ns nl c = some (ch', sz', ns', nl', c') := by
  unfold f_Dc_takeNumber
  exact tn_loop hN 88 0 gx_fu ch ns nl N (by omega) (by have := fu_pos; omega) (fun i hi => by omega) hB (by rw [cv]; simp)
set_option maxRecDepth 10000 in
def mant (c q : Int) : Nat := (c * (if 0 ≤ q then 2 ^ q.toNat else 5 ^ (-q).toNat)).toNat
set_option maxRecDepth 10000 in
theorem te_big {N : Nat} (h : (N : Int) < 2 ^ 2600) : N < 10 ^ 792 := by
  have : (2 : Int) ^ 2600 ≤ ((10 ^ 792 : Nat) : Int) := by decide +kernel
  omega
set_option maxRecDepth 10000 in
theorem te_spec {v q : Int} (h0 : 0 ≤ v) (h1 : v < 9223372036854775808) (hq0 : -1074 ≤ q) (hq1 : q ≤ 971) (hv : v * (if 0 ≤ q then 2 ^ q.toNat else 5 ^ (-q).toNat) < 2 ^ 2600) (ns sz pt : Int32) (nl ch c : Nat → Int32) :
    ∃ ns' nl' ch' sz' c', f_Dc_takeExact (iL v) (iI q) ns nl ch sz pt c = some (ns', nl', ch', sz', iI (if v = 0 then 1 else (nd (mant v q) : Int) + min q 0), c') ∧
      (if v = 0 then DL 792 sz' c' 0 (fun _ => 0) else ∃ M k : Nat, mant v q = M * 10 ^ k ∧ 0 < M ∧ DL 792 sz' c' (nd M) (digF M)) := by
  unfold f_Dc_takeExact
  simp (disch := omega) only [iI_lit, iL_lit, iI_add, iI_sub, iI_mul, iI_neg, iL_add, iL_sub, iL_mul, iL_neg, iI_lt, iI_le, iI_eq, iL_lt, iL_le, iL_eqS, iI_c, iI_ok, iI_l, iL_i, iI_low, l_ushrI, l_shlI, l_shrI, i_shlI, i_shrI, i_ushrI, iI_div, iL_div, Int.toNat_natCast, Int.reduceToNat, iI_ofNat]
  by_cases hz : v = 0
  · rw [if_pos hz, if_pos hz]
    refine ⟨_, _, _, _, _, rfl, ?_⟩
    rw [if_pos hz]
    exact ⟨rfl, by omega, fun i hi => by omega, fun _ _ => rfl, fun _ => Nat.zero_le _⟩
  · rw [if_neg hz, if_neg hz]
    obtain ⟨k, m, hk, hvm, hn⟩ := ntzL_spec (v := v) (by omega) (by omega)
    rw [hn, Option.bind_some]
    simp (disch := omega) only [iI_lit, iL_lit, iI_add, iI_sub, iI_mul, iI_neg, iL_add, iL_sub, iL_mul, iL_neg, iI_lt, iI_le, iI_eq, iL_lt, iL_le, iL_eqS, iI_c, iI_ok, iI_l, iL_i, iI_low, l_ushrI, l_shlI, l_shrI, i_shlI, i_shrI, i_ushrI, iI_div, iL_div, Int.toNat_natCast, Int.reduceToNat, iI_ofNat]
    have hp := p2_pos k
    have hdiv : v / 2 ^ k = 2 * m + 1 := by rw [hvm]; exact Int.mul_ediv_cancel_left _ (by omega)
    rw [hdiv]
    have hle : (2 * m + 1 : Int) ≤ v := by
      have : 1 * (2 * m + 1 : Int) ≤ 2 ^ k * (2 * m + 1) := Int.mul_le_mul_of_nonneg_right (by omega) (by omega)
      omega
    obtain ⟨s1, c1, e1, b1⟩ := set_spec (v := 2 * m + 1) (by omega) (by omega) ns nl
    rw [e1, Option.bind_some]
    simp only []
    -- the number that is printed, and what is left out of it
    have fin : ∀ (s2 : Int32) (c2 : Nat → Int32) (M e : Nat), BR s2 c2 (M : Int) → 0 < M → mant v q = M * 10 ^ e → (nd M : Int) + min (q + k) 0 = (nd M : Int) + e + min q 0 →
        ∃ ns' nl' ch' sz' c', f_Dc_takeExact_67 (iI (q + k)) s2 c2 ch (iI 0) (iI 1) c = some (ns', nl', ch', sz', iI ((nd (mant v q) : Int) + min q 0), c') ∧
          (if v = 0 then DL 792 sz' c' 0 (fun _ => 0) else ∃ M k : Nat, mant v q = M * 10 ^ k ∧ 0 < M ∧ DL 792 sz' c' (nd M) (digF M)) := by
      intro s2 c2 M e hB hM hme hpt
      have hml : M ≤ mant v q := by rw [hme]; exact Nat.le_mul_of_pos_right _ (Nat.pow_pos (by omega))
      have hmb : ((mant v q : Nat) : Int) < 2 ^ 2600 := by
        have hnn : 0 ≤ v * (if 0 ≤ q then 2 ^ q.toNat else 5 ^ (-q).toNat) := Int.mul_nonneg h0 (by split; exact Int.le_of_lt (p2_pos _); exact Int.le_of_lt (p5_pos _))
        unfold mant
        omega
      unfold f_Dc_takeExact_67
      obtain ⟨ch', sz', ns', nl', c', q1, q2, q3⟩ := tn_spec (c := c) (ch := ch) (te_big (N := M) (by omega)) hB
      rw [q3, Option.bind_some, show (0 : Int32) = iI 0 from rfl, min_spec (by omega) (by omega) (by omega) (by omega), Option.bind_some]
      have hsz := q1.1
      refine ⟨ns', nl', ch', sz', c', ?_, ?_⟩
      · rw [hsz, iI_add, hpt, hme, nd_mul10 e hM]
        rfl
      · rw [if_neg hz]
        exact ⟨M, e, hme, hM, q1⟩
    have hm0 : (0 : Int) < 2 * m + 1 := by omega
    by_cases hneg : q + k < 0
    · rw [if_pos hneg]
      have hq : ¬ 0 ≤ q := by omega
      rw [if_neg hq] at hv
      have e5 : (5 : Int) ^ (-q).toNat = 5 ^ (-(q + k)).toNat * 5 ^ k := by rw [← Int.pow_add]; congr 1; omega
      have hM0 : (0 : Int) < (2 * m + 1) * 5 ^ (-(q + k)).toNat := Int.mul_pos hm0 (p5_pos _)
      have e10 : v * 5 ^ (-q).toNat = ((2 * m + 1) * 5 ^ (-(q + k)).toNat) * 10 ^ k := by
        rw [hvm, e5, show (10 : Int) = 2 * 5 from rfl, Int.mul_pow]
        generalize (5 : Int) ^ (-(q + k)).toNat = F
        generalize (5 : Int) ^ k = G
        generalize (2 : Int) ^ k = H
        grind
      have h10 : (1 : Int) ≤ 10 ^ k := Int.pow_pos (by decide)
      have hMl : (2 * m + 1) * 5 ^ (-(q + k)).toNat ≤ v * 5 ^ (-q).toNat := by
        rw [e10]
        have := Int.mul_le_mul_of_nonneg_left h10 (Int.le_of_lt hM0)
        omega
      have hb3 : (2 : Int) ^ 2600 < 2 ^ 3072 := by decide +kernel
      obtain ⟨s2, c2, e2, b2⟩ := tf_spec b1 (p := -(q + k)) (by omega) (by omega) (by omega)
      rw [e2, Option.bind_some]
      obtain ⟨M, hM⟩ : ∃ M : Nat, (M : Int) = (2 * m + 1) * 5 ^ (-(q + k)).toNat := ⟨((2 * m + 1) * 5 ^ (-(q + k)).toNat : Int).toNat, by omega⟩
      rw [← hM] at b2 e10 hM0
      refine fin s2 c2 M k b2 (by omega) ?_ (by omega)
      unfold mant
      rw [if_neg hq, e10]
      have : ((M * 10 ^ k : Nat) : Int) = (M : Int) * 10 ^ k := by simp
      omega
    · rw [if_neg hneg]
      have hM0 : (0 : Int) < (2 * m + 1) * 2 ^ (q + k).toNat := Int.mul_pos hm0 (p2_pos _)
      have hb3 : (2 : Int) ^ 2600 < 2 ^ 3072 := by decide +kernel
      by_cases hq : 0 ≤ q
      · rw [if_pos hq] at hv
        have e10 : v * 2 ^ q.toNat = (2 * m + 1) * 2 ^ (q + k).toNat := by
          rw [hvm, show (q + k).toNat = q.toNat + k by omega, Int.pow_add]
          generalize (2 : Int) ^ q.toNat = F
          generalize (2 : Int) ^ k = H
          grind
        obtain ⟨s2, c2, e2, b2⟩ := sl_spec b1 (b := q + k) (by omega) (by omega) (by omega)
        rw [e2, Option.bind_some]
        obtain ⟨M, hM⟩ : ∃ M : Nat, (M : Int) = (2 * m + 1) * 2 ^ (q + k).toNat := ⟨((2 * m + 1) * 2 ^ (q + k).toNat : Int).toNat, by omega⟩
        rw [← hM] at b2 e10 hM0
        refine fin s2 c2 M 0 b2 (by omega) ?_ (by omega)
        unfold mant
        rw [if_pos hq, e10]
        simp
      · rw [if_neg hq] at hv
        have e10 : v * 5 ^ (-q).toNat = ((2 * m + 1) * 2 ^ (q + k).toNat) * 10 ^ (-q).toNat := by
          rw [hvm, show (10 : Int) = 2 * 5 from rfl, Int.mul_pow, show (2 : Int) ^ k = 2 ^ (q + k).toNat * 2 ^ (-q).toNat by rw [← Int.pow_add]; congr 1; omega]
          generalize (5 : Int) ^ (-q).toNat = F
          generalize (2 : Int) ^ (q + k).toNat = G
          generalize (2 : Int) ^ (-q).toNat = H
          grind
        have h10 : (1 : Int) ≤ 10 ^ (-q).toNat := Int.pow_pos (by decide)
        have hMl : (2 * m + 1) * 2 ^ (q + k).toNat ≤ v * 5 ^ (-q).toNat := by
          rw [e10]
          have := Int.mul_le_mul_of_nonneg_left h10 (Int.le_of_lt hM0)
          omega
        obtain ⟨s2, c2, e2, b2⟩ := sl_spec b1 (b := q + k) (by omega) (by omega) (by omega)
        rw [e2, Option.bind_some]
        obtain ⟨M, hM⟩ : ∃ M : Nat, (M : Int) = (2 * m + 1) * 2 ^ (q + k).toNat := ⟨((2 * m + 1) * 2 ^ (q + k).toNat : Int).toNat, by omega⟩
        rw [← hM] at b2 e10 hM0
        refine fin s2 c2 M (-q).toNat b2 (by omega) ?_ (by omega)
        unfold mant
        rw [if_neg hq, e10]
        have : ((M * 10 ^ (-q).toNat : Nat) : Int) = (M : Int) * 10 ^ (-q).toNat := by simp
        omega
