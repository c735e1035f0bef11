-- J
set_option maxRecDepth 10000 in
theorem within_spec {s1 s2 : Int32} {c d : Nat → Int32} {N M : Int} (h1 : BR s1 c N) (h2 : BR s2 d M) {ev : Int} (he : ev = 0 ∨ ev = 1) : f_Sh_isWithin (iI ev) s1 s2 c d = some (iI (if N < M ∨ (N = M ∧ ev = 1) then 1 else 0)) := by
  unfold f_Sh_isWithin f_Sh_isWithin_18 f_Sh_isWithin_22
  rw [ag_spec h1 h2, Option.bind_some]
  unfold cmpI
  by_cases q1 : N < M
  · rw [if_pos q1, if_pos (by decide), if_pos (Or.inl q1)]; rfl
  · rw [if_neg q1]
    by_cases q2 : N = M
    · rw [if_pos q2, if_neg (by decide), if_pos (by decide)]
      rcases he with rfl | rfl
      · rw [if_pos (by decide), if_neg (by omega)]; rfl
      · rw [if_neg (by decide), if_pos (by omega)]; rfl
    · rw [if_neg q2, if_neg (by decide), if_neg (by decide), if_neg (by omega)]; rfl
set_option maxRecDepth 10000 in
theorem better_spec {s1 s2 : Int32} {c d : Nat → Int32} {N M a : Int} (h1 : BR s1 c N) (h2 : BR s2 d M) (ha : 0 ≤ a) (ha' : a < 9223372036854775808) : f_Sh_isUpperBetter (iL a) s1 s2 c d = some (iI (if M < N ∨ (N = M ∧ a % 2 = 1) then 1 else 0)) := by
  unfold f_Sh_isUpperBetter f_Sh_isUpperBetter_28 f_Sh_isUpperBetter_32
  rw [ag_spec h1 h2, Option.bind_some, show (1 : Int64) = iL 1 from rfl, one_and ha (by omega)]
  unfold cmpI
  by_cases q1 : N < M
  · rw [if_pos q1, if_neg (by decide), if_neg (by decide), if_neg (by omega)]; rfl
  · rw [if_neg q1]
    by_cases q2 : N = M
    · rw [if_pos q2, if_neg (by decide), if_pos (by decide)]
      have : a % 2 = 0 ∨ a % 2 = 1 := by omega
      rcases this with q | q
      · rw [q, if_pos (by decide), if_neg (by omega)]; rfl
      · rw [q, if_neg (by decide), if_pos (by omega)]; rfl
    · rw [if_neg q2, if_pos (by decide), if_pos (by omega)]; rfl
set_option maxRecDepth 10000 in
def isTop (T : Int) (t : Nat) : Prop := 2 ^ (32 * t + 27) ≤ T ∧ T < 2 ^ (32 * t + 28) ∧ t < 90
set_option maxRecDepth 10000 in
theorem top_size {sz : Int32} {c : Nat → Int32} {T : Int} {t : Nat} (h : BR sz c T) (ht : isTop T t) : sz = iI ((t + 1 : Nat) : Int) := by
  obtain ⟨s, rfl, hs, htop, rfl⟩ := h
  obtain ⟨h1, h2, h3⟩ := ht
  congr 2
  have hl := bv_lt c s
  rcases Nat.lt_trichotomy s (t + 1) with q | q | q
  · have := p2_mono (show 32 * s ≤ 32 * t + 27 by omega); omega
  · exact q
  · have := bv_top (by omega) (htop (by omega))
    have := p2_mono (show 32 * t + 28 ≤ 32 * (s - 1) by omega); omega
set_option maxRecDepth 10000 in
theorem nextD_spec {vs us ws ts : Int32} {vc uc wc tc : Nat → Int32} {V U W T : Int} {t : Nat} (hV : BR vs vc V) (hU : BR us uc U) (hW : BR ws wc W) (hT : BR ts tc T) (ht : isTop T t) (hVT : V < T) (hUb : U * 10 < 2 ^ 3072) (hWb : W * 10 < 2 ^ 3072) :
    ∃ vs' vc' us' uc' ws' wc', f_Sh_nextDigit vs vc us uc ws wc ts tc = some (iI (V * 10 / T), vs', vc', us', uc', ws', wc') ∧ BR vs' vc' (V * 10 % T) ∧ BR us' uc' (U * 10) ∧ BR ws' wc' (W * 10) := by
  have hts := top_size hT ht
  obtain ⟨ht1, ht2, ht3⟩ := ht
  have hV0 := BR_nn hV
  have hp28 : (2 : Int) ^ (32 * t + 28) = 268435456 * 2 ^ (32 * t) := by rw [Int.pow_add, Int.mul_comm]; rfl
  have hp27 : (2 : Int) ^ (32 * t + 27) = 134217728 * 2 ^ (32 * t) := by rw [Int.pow_add, Int.mul_comm]; rfl
  have hpp := p2_pos (32 * t)
  have hcap : (4294967296 : Int) * 2 ^ (32 * t) ≤ 2 ^ 3072 := by
    rw [← pw32]; exact p2_mono (by omega)
  unfold f_Sh_nextDigit
  simp (disch := omega) only [iI_lit, iL_lit, iI_add, iI_sub, iI_mul, iI_neg, iL_add, iL_sub, iL_mul, iL_neg, iI_lt, iI_le, iI_eq, iL_lt, iL_le, iL_eqS, iI_c, iI_ok, iI_l, iL_i, iI_low, l_ushrI, l_shlI, l_shrI, i_shlI, i_shrI, i_ushrI, iI_div, iL_div, Int.toNat_natCast, Int.reduceToNat, iI_ofNat]
  obtain ⟨v1, c1, e1, b1⟩ := tp_spec hV (k := 10) (a := 0) (by omega) (by omega) (by omega) (by omega) (by omega)
  obtain ⟨v2, c2, e2, b2⟩ := tp_spec hU (k := 10) (a := 0) (by omega) (by omega) (by omega) (by omega) (by omega)
  obtain ⟨v3, c3, e3, b3⟩ := tp_spec hW (k := 10) (a := 0) (by omega) (by omega) (by omega) (by omega) (by omega)
  rw [Int.add_zero] at b1 b2 b3
  rw [e1, Option.bind_some, e2, Option.bind_some, e3, Option.bind_some]
  have b1' := b1
  have hT' := hT
  obtain ⟨s1, q1, q2, q3, q4⟩ := b1'
  obtain ⟨sT, r1, r2, r3, r4⟩ := hT'
  rw [hts, iI_sub]
  have et : ((t + 1 : Nat) : Int) - 1 = (t : Int) := by omega
  rw [et]
  dsimp only
  rw [q1, limb_spec q2 (by omega) (by omega), limb_of (by omega), q4, Option.bind_some]
  have hts2 : sT = t + 1 := by
    rw [r1] at hts
    have := congrArg u3 hts
    rw [u3_i (by omega) (by omega), u3_i (by omega) (by omega)] at this
    omega
  rw [limb_spec (s := t + 1) (by omega) (by omega) (by omega), limb_of (by omega), ← hts2, r4, Option.bind_some, Int.toNat_natCast]
  -- the limbs are what is left of the numbers
  have hA : V * 10 / 2 ^ (32 * t) % 4294967296 = V * 10 / 2 ^ (32 * t) := by
    apply Int.emod_eq_of_lt (Int.ediv_nonneg (by omega) (by omega))
    apply Int.ediv_lt_of_lt_mul hpp
    omega
  have hB : T / 2 ^ (32 * t) % 4294967296 = T / 2 ^ (32 * t) := by
    apply Int.emod_eq_of_lt (Int.ediv_nonneg (by omega) (by omega))
    apply Int.ediv_lt_of_lt_mul hpp
    omega
  rw [hA, hB]
  have hB1 : 134217728 ≤ T / 2 ^ (32 * t) := by rw [Int.le_ediv_iff_mul_le hpp]; omega
  have hB2 : T / 2 ^ (32 * t) < 268435456 := by apply Int.ediv_lt_of_lt_mul hpp; omega
  have hA1 : 0 ≤ V * 10 / 2 ^ (32 * t) := Int.ediv_nonneg (by omega) (by omega)
  have hA2 : V * 10 / 2 ^ (32 * t) < 4294967296 := by apply Int.ediv_lt_of_lt_mul hpp; omega
  have eA := Int.mul_ediv_add_emod (V * 10) (2 ^ (32 * t))
  have eB := Int.mul_ediv_add_emod T (2 ^ (32 * t))
  have lA := Int.emod_lt_of_pos (V * 10) hpp
  have lB := Int.emod_lt_of_pos T hpp
  have nA := Int.emod_nonneg (V * 10) (show (2 : Int) ^ (32 * t) ≠ 0 by omega)
  have nB := Int.emod_nonneg T (show (2 : Int) ^ (32 * t) ≠ 0 by omega)
  generalize V * 10 / 2 ^ (32 * t) = A at *
  generalize T / 2 ^ (32 * t) = B at *
  have hg0 : 0 ≤ A / (B + 1) := Int.ediv_nonneg hA1 (by omega)
  have hg1 : A / (B + 1) * (B + 1) ≤ A := Int.ediv_mul_le _ (by omega)
  have hg2 : A < (A / (B + 1) + 1) * (B + 1) := Int.lt_ediv_add_one_mul_self A (by omega)
  have hgA : A / (B + 1) ≤ A := Int.ediv_le_self _ hA1
  simp (disch := omega) only [iI_lit, iL_lit, iI_add, iI_sub, iI_mul, iI_neg, iL_add, iL_sub, iL_mul, iL_neg, iI_lt, iI_le, iI_eq, iL_lt, iL_le, iL_eqS, iI_c, iI_ok, iI_l, iL_i, iI_low, l_ushrI, l_shlI, l_shrI, i_shlI, i_shrI, i_ushrI, iI_div, iL_div, Int.toNat_natCast, Int.reduceToNat, iI_ofNat]
  generalize hg : A / (B + 1) = g at *
  -- the guess is not too great
  have hT0 : 0 < T := by omega
  have h10 : (10 : Int) * V < 10 * T := by omega
  have hgT : T * g ≤ V * 10 := by
    have h1 : T * g ≤ ((B + 1) * 2 ^ (32 * t)) * g := Int.mul_le_mul_of_nonneg_right (by rw [Int.add_mul, Int.one_mul, Int.mul_comm B]; omega) hg0
    have h2 : ((B + 1) * 2 ^ (32 * t)) * g = (g * (B + 1)) * 2 ^ (32 * t) := by grind
    have h3 : (g * (B + 1)) * 2 ^ (32 * t) ≤ A * 2 ^ (32 * t) := Int.mul_le_mul_of_nonneg_right hg1 (by omega)
    have h4 : A * 2 ^ (32 * t) = 2 ^ (32 * t) * A := Int.mul_comm _ _
    omega
  have hd0 := Int.mul_ediv_add_emod (V * 10) T
  have hdl := Int.emod_lt_of_pos (V * 10) hT0
  have hdn := Int.emod_nonneg (V * 10) (show T ≠ 0 by omega)
  have hd9 : V * 10 / T < 10 := by apply Int.ediv_lt_of_lt_mul hT0; omega
  have hdp : 0 ≤ V * 10 / T := Int.ediv_nonneg (by omega) (by omega)
  have hgd : g ≤ V * 10 / T := by rw [Int.le_ediv_iff_mul_le hT0, Int.mul_comm]; exact hgT
  have hdg : V * 10 / T ≤ g + 1 := by
    generalize V * 10 / T = d at *
    have h1 : d * B * 2 ^ (32 * t) ≤ T * d := by
      have : (B * 2 ^ (32 * t)) * d ≤ T * d := Int.mul_le_mul_of_nonneg_right (by rw [Int.mul_comm B]; omega) hdp
      have e : (B * 2 ^ (32 * t)) * d = d * B * 2 ^ (32 * t) := by grind
      omega
    have h2 : d * B * 2 ^ (32 * t) < (A + 1) * 2 ^ (32 * t) := by
      rw [Int.add_mul, Int.one_mul, Int.mul_comm A]
      omega
    have h3 : d * B < A + 1 := Int.lt_of_mul_lt_mul_right h2 (by omega)
    have h4 : (d - 1) * (B + 1) = d * B + d - B - 1 := by grind
    have h5 : (d - 1) * (B + 1) < (g + 1) * (B + 1) := by omega
    have := Int.lt_of_mul_lt_mul_right h5 (by omega)
    omega
  rw [if_pos (by omega)]
  rw [← q1]
  obtain ⟨m1, mc1, e4, b4⟩ := mt_spec b1 hT (t := g) hg0 (by omega) hgT
  rw [hts] at e4
  rw [hts2, e4, Option.bind_some]
  have hT2 := hT
  rw [hts] at hT2
  rw [ag_spec b4 hT2, Option.bind_some]
  unfold cmpI
  by_cases hlt : V * 10 - T * g < T
  · rw [if_pos hlt, if_pos (by decide)]
    have hgeq : g = V * 10 / T := by
      rcases Decidable.em (g = V * 10 / T) with q | q
      · exact q
      · exfalso
        have e : V * 10 / T = g + 1 := by omega
        rw [e, Int.mul_add, Int.mul_one] at hd0
        omega
    refine ⟨_, _, _, _, _, _, by rw [← hgeq], ?_, b2, b3⟩
    have : V * 10 % T = V * 10 - T * g := by rw [hgeq]; omega
    rw [this]; exact b4
  · rw [if_neg hlt]
    have hgeq : V * 10 / T = g + 1 := by
      rcases Decidable.em (V * 10 / T = g + 1) with q | q
      · exact q
      · exfalso
        have e : V * 10 / T = g := by omega
        rw [e] at hd0
        omega
    obtain ⟨m2, mc2, e5, b5⟩ := mt_spec b4 hT (t := 1) (by omega) (by omega) (by omega)
    rw [hts] at e5
    have hif : ¬ iI (if V * 10 - T * g = T then 0 else 1) < iI 0 := by
      split <;> decide
    rw [if_neg hif, e5, Option.bind_some, hgeq]
    refine ⟨_, _, _, _, _, _, rfl, ?_, b2, b3⟩
    have : V * 10 % T = V * 10 - T * g - T * 1 := by
      rw [hgeq, Int.mul_add] at hd0
      omega
    rw [this]; exact b5
-- K
set_option maxRecDepth 10000 in
abbrev lowR (ev V0 W0 T : Int) (n : Nat) : Prop := V0 * 10 ^ n % T < W0 * 10 ^ n ∨ (V0 * 10 ^ n % T = W0 * 10 ^ n ∧ ev = 1)
set_option maxRecDepth 10000 in
abbrev uppR (ev V0 U0 T : Int) (n : Nat) : Prop := T - V0 * 10 ^ n % T < U0 * 10 ^ n ∨ (T - V0 * 10 ^ n % T = U0 * 10 ^ n ∧ ev = 1)
set_option maxRecDepth 10000 in
abbrev betR (V0 T : Int) (n : Nat) : Prop := T - V0 * 10 ^ n % T < V0 * 10 ^ n % T ∨ (V0 * 10 ^ n % T = T - V0 * 10 ^ n % T ∧ (V0 * 10 ^ n / T) % 2 = 1)
set_option maxRecDepth 10000 in
def finD (ev V0 U0 W0 T : Int) (n : Nat) : Int := V0 * 10 ^ n / T + (if uppR ev V0 U0 T n ∧ (¬ lowR ev V0 W0 T n ∨ betR V0 T n) then 1 else 0)
set_option maxRecDepth 10000 in
theorem sD_step {V0 T : Int} (hT : 0 < T) (n : Nat) : V0 * 10 ^ (n + 1) / T = V0 * 10 ^ n / T * 10 + V0 * 10 ^ n % T * 10 / T ∧ V0 * 10 ^ (n + 1) % T = V0 * 10 ^ n % T * 10 % T := by
  have e : V0 * 10 ^ (n + 1) = V0 * 10 ^ n % T * 10 + T * (V0 * 10 ^ n / T * 10) := by
    have := Int.mul_ediv_add_emod (V0 * 10 ^ n) T
    rw [Int.pow_succ, ← Int.mul_assoc]
    generalize V0 * 10 ^ n / T = q at *
    generalize V0 * 10 ^ n % T = r at *
    rw [← this]
    grind
  constructor
  · rw [e, Int.add_mul_ediv_left _ _ (by omega), Int.add_comm]
  · rw [e, Int.add_mul_emod_self_left]
set_option maxRecDepth 10000 in
theorem p10_pos (n : Nat) : (0 : Int) < 10 ^ n := Int.pow_pos (by decide)
set_option maxRecDepth 10000 in
theorem p10I_mono {a b : Nat} (h : a ≤ b) : (10 : Int) ^ a ≤ 10 ^ b := by
  rw [show b = a + (b - a) by omega, Int.pow_add]
  have := p10_pos a
  have := p10_pos (b - a)
  have := Int.mul_le_mul_of_nonneg_left (show (1 : Int) ≤ 10 ^ (b - a) by omega) (show (0 : Int) ≤ 10 ^ a by omega)
  omega
set_option maxRecDepth 10000 in
def shEnd (x : Option (Int32 × (Nat → Int32) × Int32 × (Nat → Int32) × Int32 × (Nat → Int32) × Int32 × Int32 × (Nat → Int32) × Int32 × (Nat → Int32))) (p : Int) (N : Nat) (Df : Int) : Prop :=
  ∃ (vs' : Int32) (vc' : Nat → Int32) (us' : Int32) (uc' : Nat → Int32) (ws' : Int32) (wc' : Nat → Int32) (t : Nat) (dc' : Nat → Int32) (rs' : Int32) (rc' : Nat → Int32), x = some (vs', vc', us', uc', ws', wc', iI t, iI ((nd Df.natAbs : Int) + (p - N)), dc', rs', rc') ∧ DL 792 (iI t) dc' t (digF Df.natAbs) ∧ (0 < t → digF Df.natAbs (t - 1) ≠ 0)
set_option maxRecDepth 10000 in
theorem f132 {Df : Int} (h0 : 0 < Df) (h1 : Df < 9223372036854775808) {p : Int} (hp0 : -10000 ≤ p) (hp1 : p ≤ 10000) {N : Nat} (hN : N ≤ 18) (vs us ws ts rs ds dp : Int32) (vc uc wc tc rc dc : Nat → Int32) :
    ∃ (t : Nat) (dc' : Nat → Int32), f_Sh_find_132 (iL Df) (iI N) vs vc us uc ws wc ts tc ds dp (iI p) dc rs rc = some (vs, vc, us, uc, ws, wc, iI t, iI ((nd Df.natAbs : Int) + (p - N)), dc', rs, rc) ∧ DL 792 (iI t) dc' t (digF Df.natAbs) ∧ (0 < t → digF Df.natAbs (t - 1) ≠ 0) := by
  unfold f_Sh_find_132
  obtain ⟨s1, c1, h2, h3⟩ := tw_spec (v := Df) (by omega) h1 ds dp dc
  rw [h3, Option.bind_some]
  obtain ⟨t, q1, q2, q3, q4⟩ := dz_spec h2
  rw [q2, Option.bind_some, if_neg (by omega)]
  dsimp only
  rw [iI_sub, iI_add]
  exact ⟨t, c1, rfl, q4, q3⟩
set_option maxRecDepth 10000 in
theorem p10s (n : Nat) : (10 : Int) ^ n * 10 = 10 ^ (n + 1) := (Int.pow_succ 10 n).symm
set_option maxRecDepth 10000 in
theorem sDb {V0 T : Int} (hT0 : 0 < T) (hVT : V0 < T) (n : Nat) : V0 * 10 ^ n / T < 10 ^ n := by
  apply Int.ediv_lt_of_lt_mul hT0
  rw [Int.mul_comm]
  exact Int.mul_lt_mul_of_pos_left hVT (p10_pos n)
set_option maxRecDepth 10000 in
theorem sDn {V0 T : Int} (hT0 : 0 < T) (hV0 : 0 < V0) (n : Nat) : 0 ≤ V0 * 10 ^ n / T := Int.ediv_nonneg (Int.mul_nonneg (by omega) (Int.le_of_lt (p10_pos n))) (by omega)
set_option maxRecDepth 10000 in
theorem find_step {ev V0 U0 W0 T : Int} (he : ev = 0 ∨ ev = 1) {t : Nat} {ts : Int32} {tc : Nat → Int32} (hT : BR ts tc T) (ht : isTop T t) (hV0 : 0 < V0) (hVT : V0 < T) (hU : 0 ≤ U0) (hW : 0 ≤ W0) (hUb : U0 * 10 ^ 18 < 2 ^ 3072) (hWb : W0 * 10 ^ 18 < 2 ^ 3072) (n m : Nat) (hN : n + 1 ≤ 18) (vs us ws rs ds dp p : Int32) (vc uc wc rc dc : Nat → Int32) (bV : BR vs vc (V0 * 10 ^ n % T)) (bU : BR us uc (U0 * 10 ^ n)) (bW : BR ws wc (W0 * 10 ^ n)) :
    ∃ (v1 : Int32) (vc1 : Nat → Int32) (u1 : Int32) (uc1 : Nat → Int32) (w1 : Int32) (wc1 : Nat → Int32) (r1 : Int32) (rc1 : Nat → Int32),
      f_Sh_find_12 (m + 1) (iI ev) (iL (V0 * 10 ^ n / T)) (iI n) (iI 0) vs vc us uc ws wc ts tc ds dp p dc rs rc = f_Sh_find_12 m (iI ev) (iL (finD ev V0 U0 W0 T (n + 1))) (iI ((n + 1 : Nat) : Int)) (iI (if lowR ev V0 W0 T (n + 1) ∨ uppR ev V0 U0 T (n + 1) then 1 else 0)) v1 vc1 u1 uc1 w1 wc1 ts tc ds dp p dc r1 rc1 ∧
      BR v1 vc1 (V0 * 10 ^ (n + 1) % T) ∧ BR u1 uc1 (U0 * 10 ^ (n + 1)) ∧ BR w1 wc1 (W0 * 10 ^ (n + 1)) := by
  have hT0 : 0 < T := by have := p2_pos (32 * t + 27); have := ht.1; omega
  have h18 : (10 : Int) ^ 18 = 1000000000000000000 := rfl
  have hUb' : U0 * 10 ^ n * 10 < 2 ^ 3072 := by
    rw [Int.mul_assoc, p10s]
    have := Int.mul_le_mul_of_nonneg_left (p10I_mono hN) hU
    omega
  have hWb' : W0 * 10 ^ n * 10 < 2 ^ 3072 := by
    rw [Int.mul_assoc, p10s]
    have := Int.mul_le_mul_of_nonneg_left (p10I_mono hN) hW
    omega
  obtain ⟨v1, vc1, u1, uc1, w1, wc1, e1, b1, b2, b3⟩ := nextD_spec bV bU bW hT ht (Int.emod_lt_of_pos _ hT0) hUb' hWb'
  rw [← (sD_step hT0 n).2] at b1
  rw [Int.mul_assoc, p10s] at b2 b3
  obtain ⟨r1, rc1, e2, b4⟩ := copy_spec hT rs rc
  have hlt := Int.emod_lt_of_pos (V0 * 10 ^ (n + 1)) hT0
  have hnn := Int.emod_nonneg (V0 * 10 ^ (n + 1)) (show T ≠ 0 by omega)
  obtain ⟨r2, rc2, e3, b5⟩ := mt_spec b4 b1 (t := 1) (by omega) (by omega) (by omega)
  rw [Int.mul_one] at b5
  rw [show iI 1 = (1 : Int32) from rfl] at e3
  refine ⟨v1, vc1, u1, uc1, w1, wc1, r2, rc2, ?_, b1, b2, b3⟩
  have hq0 : 0 ≤ V0 * 10 ^ n % T * 10 / T := Int.ediv_nonneg (Int.mul_nonneg (Int.emod_nonneg _ (by omega)) (by omega)) (by omega)
  have hq1 : V0 * 10 ^ n % T * 10 / T < 10 := by
    apply Int.ediv_lt_of_lt_mul hT0
    have := Int.emod_lt_of_pos (V0 * 10 ^ n) hT0
    omega
  have hDn := sDb hT0 hVT n
  have hDn1 := sDb hT0 hVT (n + 1)
  have hDp := sDn hT0 hV0 n
  have hDp1 := sDn hT0 hV0 (n + 1)
  have hm18 := p10I_mono hN
  have hm18' := p10I_mono (show n ≤ 18 by omega)
  rw [f_Sh_find_12]
  rw [e1, Option.bind_some]
  dsimp only
  rw [e2, Option.bind_some]
  dsimp only
  rw [e3, Option.bind_some]
  dsimp only
  rw [within_spec b1 b3 he, Option.bind_some, within_spec b5 b2 he, Option.bind_some]
  have ed : iL (V0 * 10 ^ n / T) * 10 + (iI (V0 * 10 ^ n % T * 10 / T)).toInt64 = iL (V0 * 10 ^ (n + 1) / T) := by
    rw [(sD_step hT0 n).1]
    simp (disch := omega) only [iI_lit, iL_lit, iI_add, iI_sub, iI_mul, iI_neg, iL_add, iL_sub, iL_mul, iL_neg, iI_lt, iI_le, iI_eq, iL_lt, iL_le, iL_eqS, iI_c, iI_ok, iI_l, iL_i, iI_low, l_ushrI, l_shlI, l_shrI, i_shlI, i_shrI, i_ushrI, iI_div, iL_div, Int.toNat_natCast, Int.reduceToNat, iI_ofNat]
  rw [ed]
  unfold f_Sh_find_97 f_Sh_find_102 f_Sh_find_122 f_Sh_find_126
  rw [better_spec b1 b5 hDp1 (by omega), Option.bind_some]
  have e18 : ¬ (18 : Int32) ≤ iI n := by simp (disch := omega) only [iI_lit, iL_lit, iI_add, iI_sub, iI_mul, iI_neg, iL_add, iL_sub, iL_mul, iL_neg, iI_lt, iI_le, iI_eq, iL_lt, iL_le, iL_eqS, iI_c, iI_ok, iI_l, iL_i, iI_low, l_ushrI, l_shlI, l_shrI, i_shlI, i_shrI, i_ushrI, iI_div, iL_div, Int.toNat_natCast, Int.reduceToNat, iI_ofNat]; omega
  have en : iI (n : Int) + 1 = iI ((n + 1 : Nat) : Int) := by simp (disch := omega) only [iI_lit, iL_lit, iI_add, iI_sub, iI_mul, iI_neg, iL_add, iL_sub, iL_mul, iL_neg, iI_lt, iI_le, iI_eq, iL_lt, iL_le, iL_eqS, iI_c, iI_ok, iI_l, iL_i, iI_low, l_ushrI, l_shlI, l_shrI, i_shlI, i_shrI, i_ushrI, iI_div, iL_div, Int.toNat_natCast, Int.reduceToNat, iI_ofNat]; rfl
  rw [if_neg e18, if_pos (show iI 0 = 0 from rfl), en, show (1 : Int64) = iL 1 from rfl, iL_add, show (1 : Int32) = iI 1 from rfl, show (0 : Int32) = iI 0 from rfl]
  have hlf : (if V0 * 10 ^ (n + 1) % T < W0 * 10 ^ (n + 1) ∨ V0 * 10 ^ (n + 1) % T = W0 * 10 ^ (n + 1) ∧ ev = 1 then (1 : Int) else 0) = if lowR ev V0 W0 T (n + 1) then 1 else 0 := rfl
  have huf : (if T - V0 * 10 ^ (n + 1) % T < U0 * 10 ^ (n + 1) ∨ T - V0 * 10 ^ (n + 1) % T = U0 * 10 ^ (n + 1) ∧ ev = 1 then (1 : Int) else 0) = if uppR ev V0 U0 T (n + 1) then 1 else 0 := rfl
  have hbf : (if T - V0 * 10 ^ (n + 1) % T < V0 * 10 ^ (n + 1) % T ∨ V0 * 10 ^ (n + 1) % T = T - V0 * 10 ^ (n + 1) % T ∧ V0 * 10 ^ (n + 1) / T % 2 = 1 then (1 : Int) else 0) = if betR V0 T (n + 1) then 1 else 0 := rfl
  rw [hlf, huf, hbf]
  unfold finD
  by_cases hl : lowR ev V0 W0 T (n + 1)
  · by_cases hu : uppR ev V0 U0 T (n + 1)
    · by_cases hb : betR V0 T (n + 1)
      · simp [hl, hu, hb, show ¬ (iI 1 = iI 0) by decide]
      · simp [hl, hu, hb, show ¬ (iI 1 = iI 0) by decide]
    · simp [hl, hu, show ¬ (iI 1 = iI 0) by decide]
  · by_cases hu : uppR ev V0 U0 T (n + 1)
    · simp [hl, hu, show ¬ (iI 1 = iI 0) by decide]
    · simp [hl, hu, show ¬ (iI 1 = iI 0) by decide]
set_option maxRecDepth 10000 in
theorem find_loop {ev V0 U0 W0 T : Int} (he : ev = 0 ∨ ev = 1) {t : Nat} {ts : Int32} {tc : Nat → Int32} (hT : BR ts tc T) (ht : isTop T t) (hV0 : 0 < V0) (hVT : V0 < T) (hU : 0 ≤ U0) (hW : 0 ≤ W0) (hUb : U0 * 10 ^ 18 < 2 ^ 3072) (hWb : W0 * 10 ^ 18 < 2 ^ 3072) {p : Int} (hp0 : -10000 ≤ p) (hp1 : p ≤ 10000) {N : Nat} (hN : N ≤ 18) (hfound : lowR ev V0 W0 T N ∨ uppR ev V0 U0 T N) (hD1 : 0 < V0 * 10 ^ N / T) :
    ∀ (d n m : Nat) (vs us ws rs ds dp : Int32) (vc uc wc rc dc : Nat → Int32), n + (d + 1) = N → d + 2 < m → (∀ k, n < k → k < N → ¬ (lowR ev V0 W0 T k ∨ uppR ev V0 U0 T k)) → BR vs vc (V0 * 10 ^ n % T) → BR us uc (U0 * 10 ^ n) → BR ws wc (W0 * 10 ^ n) →
    shEnd (f_Sh_find_12 m (iI ev) (iL (V0 * 10 ^ n / T)) (iI n) (iI 0) vs vc us uc ws wc ts tc ds dp (iI p) dc rs rc) p N (finD ev V0 U0 W0 T N)
  | 0, n, m, vs, us, ws, rs, ds, dp, vc, uc, wc, rc, dc, hn, hm, hnot, bV, bU, bW => by
    have hT0 : 0 < T := by have := p2_pos (32 * t + 27); have := ht.1; omega
    obtain ⟨m, rfl⟩ : ∃ m', m = m' + 1 + 1 := ⟨m - 2, by omega⟩
    obtain rfl : N = n + 1 := by omega
    obtain ⟨v1, vc1, u1, uc1, w1, wc1, r1, rc1, e, b1, b2, b3⟩ := find_step he hT ht hV0 hVT hU hW hUb hWb n (m + 1) hN vs us ws rs ds dp (iI p) vc uc wc rc dc bV bU bW
    rw [e, if_pos hfound, f_Sh_find_12]
    have hb := sDb hT0 hVT (n + 1)
    have hm18 := p10I_mono hN
    have h18 : (10 : Int) ^ 18 = 1000000000000000000 := rfl
    have h0 : 0 < finD ev V0 U0 W0 T (n + 1) := by unfold finD; split <;> omega
    have h1 : finD ev V0 U0 W0 T (n + 1) < 9223372036854775808 := by unfold finD; split <;> omega
    obtain ⟨t, dc', q1, q2, q3⟩ := f132 h0 h1 hp0 hp1 (N := n + 1) hN v1 u1 w1 ts r1 ds dp vc1 uc1 wc1 tc rc1 dc
    by_cases q : (18 : Int32) ≤ iI ((n + 1 : Nat) : Int)
    · rw [if_pos q, q1]; exact ⟨_, _, _, _, _, _, t, dc', _, _, rfl, q2, q3⟩
    · rw [if_neg q, if_neg (by decide), q1]; exact ⟨_, _, _, _, _, _, t, dc', _, _, rfl, q2, q3⟩
  | d + 1, n, m, vs, us, ws, rs, ds, dp, vc, uc, wc, rc, dc, hn, hm, hnot, bV, bU, bW => by
    obtain ⟨m, rfl⟩ : ∃ m', m = m' + 1 := ⟨m - 1, by omega⟩
    obtain ⟨v1, vc1, u1, uc1, w1, wc1, r1, rc1, e, b1, b2, b3⟩ := find_step he hT ht hV0 hVT hU hW hUb hWb n m (by omega) vs us ws rs ds dp (iI p) vc uc wc rc dc bV bU bW
    have hno := hnot (n + 1) (by omega) (by omega)
    have ef : finD ev V0 U0 W0 T (n + 1) = V0 * 10 ^ (n + 1) / T := by unfold finD; rw [if_neg (fun q => hno (Or.inr q.1)), Int.add_zero]
    rw [e, if_neg hno, ef]
    exact find_loop he hT ht hV0 hVT hU hW hUb hWb hp0 hp1 hN hfound hD1 d (n + 1) m v1 u1 w1 r1 ds dp vc1 uc1 wc1 rc1 dc (by omega) (by omega) (fun k h1 h2 => hnot k (by omega) h2) b1 b2 b3
set_option maxRecDepth 10000 in
theorem find_spec {ev V0 U0 W0 T : Int} (he : ev = 0 ∨ ev = 1) {t : Nat} {ts : Int32} {tc : Nat → Int32} (hT : BR ts tc T) (ht : isTop T t) (hV0 : 0 < V0) (hVT : V0 < T) (hU : 0 ≤ U0) (hW : 0 ≤ W0) (hUb : U0 * 10 ^ 18 < 2 ^ 3072) (hWb : W0 * 10 ^ 18 < 2 ^ 3072) {p : Int} (hp0 : -10000 ≤ p) (hp1 : p ≤ 10000) {N : Nat} (hN : N ≤ 18) (hN2 : 2 ≤ N) (hfound : lowR ev V0 W0 T N ∨ uppR ev V0 U0 T N) (hnot : ∀ k, 2 ≤ k → k < N → ¬ (lowR ev V0 W0 T k ∨ uppR ev V0 U0 T k)) (hD1 : 0 < V0 * 10 ^ N / T) (vs us ws rs ds dp : Int32) (vc uc wc rc dc : Nat → Int32) (bV : BR vs vc V0) (bU : BR us uc U0) (bW : BR ws wc W0) :
    shEnd (f_Sh_find (iI ev) vs vc us uc ws wc ts tc ds dp (iI p) dc rs rc) p N (finD ev V0 U0 W0 T N) := by
  have hT0 : 0 < T := by have := p2_pos (32 * t + 27); have := ht.1; omega
  unfold f_Sh_find
  have h18 : (10 : Int) ^ 18 = 1000000000000000000 := rfl
  obtain ⟨v1, vc1, u1, uc1, w1, wc1, e1, b1, b2, b3⟩ := nextD_spec bV bU bW hT ht hVT (by omega) (by omega)
  rw [e1, Option.bind_some]
  dsimp only
  have hq0 : 0 ≤ V0 * 10 / T := Int.ediv_nonneg (by omega) (by omega)
  have hq1 : V0 * 10 / T < 10 := Int.ediv_lt_of_lt_mul hT0 (by omega)
  simp (disch := omega) only [iI_lit, iL_lit, iI_add, iI_sub, iI_mul, iI_neg, iL_add, iL_sub, iL_mul, iL_neg, iI_lt, iI_le, iI_eq, iL_lt, iL_le, iL_eqS, iI_c, iI_ok, iI_l, iL_i, iI_low, l_ushrI, l_shlI, l_shrI, i_shlI, i_shrI, i_ushrI, iI_div, iL_div, Int.toNat_natCast, Int.reduceToNat, iI_ofNat]
  have e10 : (10 : Int) ^ 1 = 10 := rfl
  have := find_loop he hT ht hV0 hVT hU hW hUb hWb hp0 hp1 hN hfound hD1 (N - 2) 1 gx_fu v1 u1 w1 rs ds dp vc1 uc1 wc1 rc dc (by omega) (by have := fu_pos; omega) (fun k h1 h2 => hnot k (by omega) h2) (by rw [e10]; exact b1) (by rw [e10]; exact b2) (by rw [e10]; exact b3)
  rw [e10] at this
  exact this
-- L
set_option maxRecDepth 10000 in
def logOK (i : Nat) : Bool :=
  let top : Int := (i : Int) - 1074
  let f : Int := top * 78913 / 262144
  decide (-325 ≤ f ∧ f ≤ 308) && (decide (10 ^ (f + 400).toNat * 2 ^ 1100 ≤ 2 ^ (top + 1100).toNat * 10 ^ 400) && decide (2 ^ (top + 1101).toNat * 10 ^ 400 ≤ 10 ^ (f + 402).toNat * 2 ^ 1100))
set_option maxRecDepth 10000 in
theorem log_all : (List.range 2098).all logOK = true := by decide +kernel
set_option maxRecDepth 10000 in
def cA : Int := 10 ^ 400
set_option maxRecDepth 10000 in
def cB : Int := 2 ^ 1100
set_option maxRecDepth 10000 in
theorem cA_pos : 0 < cA := p10_pos 400
set_option maxRecDepth 10000 in
theorem cB_pos : 0 < cB := p2_pos 1100
set_option maxRecDepth 10000 in
theorem castpp (a b e f : Nat) : ((a ^ e * b ^ f : Nat) : Int) = (a : Int) ^ e * (b : Int) ^ f := by rw [Int.natCast_mul, Int.natCast_pow, Int.natCast_pow]
set_option maxRecDepth 10000 in
theorem log_ok {top : Int} (h0 : -1074 ≤ top) (h1 : top ≤ 1023) : (-325 ≤ top * 78913 / 262144 ∧ top * 78913 / 262144 ≤ 308) ∧ (10 : Int) ^ (top * 78913 / 262144 + 400).toNat * cB ≤ 2 ^ (top + 1100).toNat * cA ∧ (2 : Int) ^ (top + 1101).toNat * cA ≤ 10 ^ (top * 78913 / 262144 + 402).toNat * cB := by
  have h := List.all_eq_true.mp log_all (top + 1074).toNat (List.mem_range.mpr (by omega))
  simp only [logOK, Bool.and_eq_true, decide_eq_true_eq] at h
  rw [show (((top + 1074).toNat : Nat) : Int) - 1074 = top by omega] at h
  obtain ⟨a, b, c⟩ := h
  refine ⟨a, ?_, ?_⟩
  · have := Int.ofNat_le.mpr b
    rw [castpp, castpp] at this
    exact this
  · have := Int.ofNat_le.mpr c
    rw [castpp, castpp] at this
    exact this
set_option maxRecDepth 10000 in
def suRel (q p K T : Int) : Prop := T * 2 ^ (q + 1100).toNat * cA = 4 * K * 10 ^ (p + 400).toNat * cB
set_option maxRecDepth 10000 in
theorem p5le {n : Nat} (h : n ≤ 330) : (5 : Int) ^ n ≤ 2 ^ 770 := by
  have := p5_mono h
  have e : (5 : Int) ^ 330 ≤ 2 ^ 770 := by decide +kernel
  omega
set_option maxRecDepth 10000 in
theorem mul_le3 {a b c A B C : Int} (ha : 0 ≤ a) (hb : 0 ≤ b) (hc : 0 ≤ c) (h1 : a ≤ A) (h2 : b ≤ B) (h3 : c ≤ C) : a * b * c ≤ A * B * C :=
  Int.mul_le_mul (Int.mul_le_mul h1 h2 hb (by omega)) h3 hc (Int.mul_nonneg (by omega) (by omega))
set_option maxRecDepth 10000 in
theorem sl_spec' {sz : Int32} {c : Nat → Int32} {N b : Int} (h : BR sz c N) (hb : b < 100000) (hb' : -100000 < b) (hm : N * 2 ^ b.toNat < 2 ^ 3072) : ∃ sz' c', f_Bg_shiftLeft (iI b) sz c = some (sz', c') ∧ BR sz' c' (N * 2 ^ b.toNat) := sl_spec h hb hb' hm
set_option maxRecDepth 10000 in
theorem su182 {aq : Int32} {ac : Int64} {as_ : Nat} {op vs us ws ts : Int32} {vc uc wc tc : Nat → Int32} {V U W T : Int} (bV : BR vs vc V) (bU : BR us uc U) (bW : BR ws wc W) (bT : BR ts tc T) (hT0 : 0 < T) (hV : V < 2 ^ 2600) (hU : U < 2 ^ 2600) (hW : W < 2 ^ 2600) (hT : T < 2 ^ 2600) :
    ∃ (s t : Nat) (vs' : Int32) (vc' : Nat → Int32) (us' : Int32) (uc' : Nat → Int32) (ws' : Int32) (wc' : Nat → Int32) (ts' : Int32) (tc' : Nat → Int32), f_Sh_setUp_182 aq ac op vs vc us uc as_ ws wc ts tc = some (op, vs', vc', us', uc', ws', wc', ts', tc') ∧ s < 32 ∧ isTop (T * 2 ^ s) t ∧ BR vs' vc' (V * 2 ^ s) ∧ BR us' uc' (U * 2 ^ s) ∧ BR ws' wc' (W * 2 ^ s) ∧ BR ts' tc' (T * 2 ^ s) := by
  unfold f_Sh_setUp_182
  obtain ⟨b, hb, hbl, e⟩ := bl_spec bT
  rw [e, Option.bind_some]
  simp (disch := omega) only [iI_lit, iL_lit, iI_add, iI_sub, iI_mul, iI_neg, iL_add, iL_sub, iL_mul, iL_neg, iI_lt, iI_le, iI_eq, iL_lt, iL_le, iL_eqS, iI_c, iI_ok, iI_l, iL_i, iI_low, l_ushrI, l_shlI, l_shrI, i_shlI, i_shrI, i_ushrI, iI_div, iL_div, Int.toNat_natCast, Int.reduceToNat, iI_ofNat]
  have hmask : iI (28 - (b : Int)) &&& iI 31 = iI ((28 - (b : Int)) % 32) := iI_mask (k := 5) (by omega)
  rw [hmask]
  obtain ⟨s, hs⟩ : ∃ s : Nat, (28 - (b : Int)) % 32 = s := ⟨((28 - (b : Int)) % 32).toNat, by omega⟩
  rw [hs]
  have hps : (2 : Int) ^ s ≤ 2 ^ 31 := p2_mono (by omega)
  have hps0 := p2_pos s
  have big : ∀ X : Int, 0 ≤ X → X < 2 ^ 2600 → X * 2 ^ ((s : Int)).toNat < 2 ^ 3072 := by
    intro X h0 h1
    rw [Int.toNat_natCast]
    have h2 : X * 2 ^ s ≤ 2 ^ 2600 * 2 ^ 31 := Int.mul_le_mul (by omega) hps (by omega) (Int.le_of_lt (p2_pos _))
    have h3 : (2 : Int) ^ 2600 * 2 ^ 31 < 2 ^ 3072 := by decide +kernel
    omega
  obtain ⟨v1, c1, e1, b1⟩ := sl_spec bV (b := (s : Int)) (by omega) (by omega) (big V (BR_nn bV) hV)
  obtain ⟨v2, c2, e2, b2⟩ := sl_spec bU (b := (s : Int)) (by omega) (by omega) (big U (BR_nn bU) hU)
  obtain ⟨v3, c3, e3, b3⟩ := sl_spec bW (b := (s : Int)) (by omega) (by omega) (big W (BR_nn bW) hW)
  obtain ⟨v4, c4, e4, b4⟩ := sl_spec bT (b := (s : Int)) (by omega) (by omega) (big T (BR_nn bT) hT)
  rw [e1, Option.bind_some, e2, Option.bind_some, e3, Option.bind_some, e4, Option.bind_some]
  rw [Int.toNat_natCast] at b1 b2 b3 b4
  have hb0 : 0 < b := by
    rcases Nat.eq_zero_or_pos b with r | r
    · subst r; have := hbl.1; rw [Int.pow_zero] at this; omega
    · exact r
  have hT26 : b ≤ 2600 := by
    rcases Nat.lt_or_ge 2600 b with r | r
    · have := hbl.2 hb0
      have := p2_mono (show 2600 ≤ b - 1 by omega)
      omega
    · exact r
  refine ⟨s, (b + s - 28) / 32, v1, c1, v2, c2, v3, c3, v4, c4, rfl, by omega, ⟨?_, ?_, by omega⟩, b1, b2, b3, b4⟩
  · have : 32 * ((b + s - 28) / 32) + 27 = (b - 1) + s := by omega
    rw [this, Int.pow_add]
    exact Int.mul_le_mul_of_nonneg_right (hbl.2 hb0) (by omega)
  · have : 32 * ((b + s - 28) / 32) + 28 = b + s := by omega
    rw [this, Int.pow_add]
    exact Int.mul_lt_mul_of_pos_right hbl.1 hps0
set_option maxRecDepth 10000 in
theorem st2 {v f t : Int} (hv0 : 0 ≤ v) (hv : v ≤ 9007199254740992) (hf0 : 0 ≤ f) (hf : f ≤ 330) (ht0 : 0 ≤ t) (ht : t ≤ 1450) (sz : Int32) (c : Nat → Int32) : ∃ sz' c', f_Bg_setTimes (iL v) (iI f) (iI t) sz c = some (sz', c') ∧ BR sz' c' (v * 5 ^ f.toNat * 2 ^ t.toNat) ∧ v * 5 ^ f.toNat * 2 ^ t.toNat < 2 ^ 2400 := by
  have h5 := p5le (n := f.toNat) (by omega)
  have h2 := p2_mono (show t.toNat ≤ 1450 by omega)
  have hm := mul_le3 hv0 (Int.le_of_lt (p5_pos f.toNat)) (Int.le_of_lt (p2_pos t.toNat)) hv h5 h2
  have e : (9007199254740992 : Int) * 2 ^ 770 * 2 ^ 1450 < 2 ^ 2400 := by decide +kernel
  have e2 : (2 : Int) ^ 2400 < 2 ^ 3072 := by decide +kernel
  obtain ⟨s1, c1, e1, b1⟩ := st_spec hv0 (by omega) hf0 (by omega) ht0 (by omega) (show v * 5 ^ f.toNat * 2 ^ t.toNat < 2 ^ 3072 by omega) sz c
  exact ⟨s1, c1, e1, b1, by omega⟩
set_option maxRecDepth 10000 in
def suPost (c q p K T : Int) (w : Int) (x : Option (Int32 × Int32 × (Nat → Int32) × Int32 × (Nat → Int32) × Int32 × (Nat → Int32) × Int32 × (Nat → Int32))) : Prop :=
  ∃ (t : Nat) (vs' : Int32) (vc' : Nat → Int32) (us' : Int32) (uc' : Nat → Int32) (ws' : Int32) (wc' : Nat → Int32) (ts' : Int32) (tc' : Nat → Int32), x = some (iI p, vs', vc', us', uc', ws', wc', ts', tc') ∧ isTop T t ∧ BR vs' vc' (4 * c * K) ∧ BR us' uc' (2 * K) ∧ BR ws' wc' (w * K) ∧ BR ts' tc' T
set_option maxRecDepth 10000 in
theorem suRel_mul {q p K T : Int} (h : suRel q p K T) (x : Int) : suRel q p (K * x) (T * x) := by
  unfold suRel at *
  have e1 : T * x * 2 ^ (q + 1100).toNat * cA = x * (T * 2 ^ (q + 1100).toNat * cA) := by
    generalize (2 : Int) ^ (q + 1100).toNat = A
    generalize cA = B
    grind
  have e2 : 4 * (K * x) * 10 ^ (p + 400).toNat * cB = x * (4 * K * 10 ^ (p + 400).toNat * cB) := by
    generalize (10 : Int) ^ (p + 400).toNat = A
    generalize cB = B
    grind
  rw [e1, e2, h]
set_option maxRecDepth 10000 in
theorem su_cmp {c q p K T : Int} (hK : 0 < K) (hT : 0 < T) (h : suRel q p K T) : (4 * c * K < T ↔ c * 2 ^ (q + 1100).toNat * cA < 10 ^ (p + 400).toNat * cB) := by
  unfold suRel at h
  have hA := p2_pos (q + 1100).toNat
  have hB := cA_pos
  have hC := p10_pos (p + 400).toNat
  have hD := cB_pos
  generalize (2 : Int) ^ (q + 1100).toNat = A at *
  generalize cA = B at *
  generalize (10 : Int) ^ (p + 400).toNat = C at *
  generalize cB = D at *
  have hAB : 0 < A * B := Int.mul_pos hA hB
  have e1 : 4 * c * K * (A * B) = (4 * K) * (c * A * B) := by grind
  have e2 : T * (A * B) = (4 * K) * (C * D) := by rw [← Int.mul_assoc, h]; grind
  constructor
  · intro q
    have := Int.mul_lt_mul_of_pos_right q hAB
    rw [e1, e2] at this
    exact Int.lt_of_mul_lt_mul_left this (by omega)
  · intro q
    have := Int.mul_lt_mul_of_pos_left q (show 0 < 4 * K by omega)
    rw [← e1, ← e2] at this
    exact Int.lt_of_mul_lt_mul_right this (by omega)
set_option maxRecDepth 10000 in
theorem suRel_ten {q p K T : Int} (hp : -400 ≤ p) (h : suRel q p K T) : suRel q (p + 1) K (T * 10) := by
  unfold suRel at *
  rw [show (p + 1 + 400).toNat = (p + 400).toNat + 1 by omega, Int.pow_succ]
  generalize (2 : Int) ^ (q + 1100).toNat = A at *
  generalize cA = B at *
  generalize (10 : Int) ^ (p + 400).toNat = C at *
  generalize cB = D at *
  have e1 : T * 10 * A * B = 10 * (T * A * B) := by grind
  have e2 : 4 * K * (C * 10) * D = 10 * (4 * K * C * D) := by grind
  rw [e1, e2, h]
-- L2
set_option maxRecDepth 10000 in
theorem su121 {c q P : Int} {s : Nat} (hc0 : 0 < c) (hc1 : c ≤ 9007199254740992) (hq0 : -1074 ≤ q) (hq1 : q ≤ 971) (hP0 : -324 ≤ P) (hP1 : P ≤ 309) {K w : Int} (hK : K = 5 ^ (max (-P) 0).toNat * 2 ^ (max (q - P) 0).toNat) (hw : w = 1 ∨ w = 2) {vs us ws ts : Int32} {vc uc wc tc : Nat → Int32} (bV : BR vs vc (4 * c * K)) (bU : BR us uc (2 * K)) (hKb : 4 * c * K < 2 ^ 2400)
    (hlo : 10 ^ (P - 1 + 400).toNat * cB ≤ c * 2 ^ (q + 1100).toNat * cA) (hhi : c * 2 ^ (q + 1100).toNat * cA < 10 ^ (P + 1 + 400).toNat * cB) :
    ∃ p K' T : Int, suPost c q p K' T w (f_Sh_setUp_121 (iI (q - P)) (iI (max (q - P) 0 + (w - 1))) (iI (max (-P) 0)) (iL 1) (iI q) (iL c) (iI P) vs vc us uc s ws wc ts tc) ∧ suRel q p K' T ∧ 0 < K' ∧ 4 * c * K' < T ∧ T ≤ 10 * (4 * c * K') ∧ -330 ≤ p ∧ p ≤ 330 ∧ K' < 2 ^ 2500 := by
  unfold f_Sh_setUp_121
  have hK0 : 0 < K := by rw [hK]; exact Int.mul_pos (p5_pos _) (p2_pos _)
  obtain ⟨w1, wc1, e1, b1, l1⟩ := st2 (v := 1) (f := max (-P) 0) (t := max (q - P) 0 + (w - 1)) (by omega) (by omega) (by omega) (by omega) (by omega) (by omega) ws wc
  rw [e1, Option.bind_some]
  have hWe : 1 * 5 ^ (max (-P) 0).toNat * 2 ^ (max (q - P) 0 + (w - 1)).toNat = w * K := by
    rw [hK, Int.one_mul]
    rcases hw with rfl | rfl
    · rw [show max (q - P) 0 + (1 - 1) = max (q - P) 0 by omega, Int.one_mul]
    · rw [show (max (q - P) 0 + (2 - 1)).toNat = (max (q - P) 0).toNat + 1 by omega, Int.pow_succ]
      generalize (5 : Int) ^ (max (-P) 0).toNat = A
      generalize (2 : Int) ^ (max (q - P) 0).toNat = B
      grind
  rw [hWe] at b1
  simp (disch := omega) only [iI_lit, iL_lit, iI_add, iI_sub, iI_mul, iI_neg, iL_add, iL_sub, iL_mul, iL_neg, iI_lt, iI_le, iI_eq, iL_lt, iL_le, iL_eqS, iI_c, iI_ok, iI_l, iL_i, iI_low, l_ushrI, l_shlI, l_shrI, i_shlI, i_shrI, i_ushrI, iI_div, iL_div, Int.toNat_natCast, Int.reduceToNat, iI_ofNat]
  rw [max_spec (by omega) (by omega) (by omega) (by omega), Option.bind_some, max_spec (by omega) (by omega) (by omega) (by omega), Option.bind_some, iI_add]
  obtain ⟨t1, tc1, e2, b2, l2⟩ := st2 (v := 1) (f := max P 0) (t := max (-(q - P)) 0 + 2) (by omega) (by omega) (by omega) (by omega) (by omega) (by omega) ts tc
  rw [e2, Option.bind_some]
  generalize hT : (1 : Int) * 5 ^ (max P 0).toNat * 2 ^ (max (-(q - P)) 0 + 2).toNat = T at *
  have hT0 : 0 < T := by rw [← hT]; exact Int.mul_pos (Int.mul_pos (by omega) (p5_pos _)) (p2_pos _)
  have hrel : suRel q P K T := by
    unfold suRel
    have hcA : cA = 2 ^ 400 * 5 ^ 400 := by unfold cA; rw [show (10 : Int) = 2 * 5 from rfl, Int.mul_pow]
    have hcB : cB = 2 ^ 1100 := rfl
    rw [← hT, hK, Int.one_mul, show (10 : Int) = 2 * 5 from rfl, Int.mul_pow, hcA, hcB]
    clear hT b2 e2 bV bU hKb hlo hhi e1 b1 hWe l1 l2 hT0 hK0 hK
    have a1 : (5 : Int) ^ (max P 0).toNat * 5 ^ 400 = 5 ^ (max (-P) 0).toNat * 5 ^ (P + 400).toNat := by rw [← Int.pow_add, ← Int.pow_add]; congr 1; omega
    have a2 : (2 : Int) ^ (max (-(q - P)) 0 + 2).toNat * 2 ^ (q + 1100).toNat * 2 ^ 400 = 4 * 2 ^ (max (q - P) 0).toNat * 2 ^ (P + 400).toNat * 2 ^ 1100 := by
      rw [show (4 : Int) = 2 ^ 2 from rfl, ← Int.pow_add, ← Int.pow_add, ← Int.pow_add, ← Int.pow_add, ← Int.pow_add]; congr 1; omega
    generalize (5 : Int) ^ (max P 0).toNat = A at *
    generalize (5 : Int) ^ 400 = B at *
    generalize (5 : Int) ^ (max (-P) 0).toNat = C at *
    generalize (5 : Int) ^ (P + 400).toNat = D at *
    generalize (2 : Int) ^ (max (-(q - P)) 0 + 2).toNat = E at *
    generalize (2 : Int) ^ (q + 1100).toNat = F at *
    generalize (2 : Int) ^ 400 = G at *
    generalize (2 : Int) ^ (max (q - P) 0).toNat = H at *
    generalize (2 : Int) ^ (P + 400).toNat = I at *
    generalize (2 : Int) ^ 1100 = J at *
    have l : A * E * F * (G * B) = (A * B) * (E * F * G) := by grind
    have r : 4 * (C * H) * (I * D) * J = (C * D) * (4 * H * I * J) := by grind
    rw [l, r, a1, a2]
  have hV : BR vs vc (4 * c * K) := bV
  rw [ag_spec bV b2, Option.bind_some]
  have b26 : (2 : Int) ^ 2400 * 16 < 2 ^ 2600 := by decide +kernel
  have hcK : 4 * K ≤ 4 * c * K := by
    have := Int.mul_le_mul_of_nonneg_right (show (1 : Int) ≤ c by omega) (show 0 ≤ 4 * K by omega)
    have e : c * (4 * K) = 4 * c * K := by grind
    omega
  have hwK : w * K ≤ 2 * K := Int.mul_le_mul_of_nonneg_right (by omega) (by omega)
  have b25 : (2 : Int) ^ 2400 * 4294967296 < 2 ^ 2500 := by decide +kernel
  have fin : ∀ (p T : Int) (ts : Int32) (tc : Nat → Int32), BR ts tc T → 0 < T → T < 2 ^ 2600 → suRel q p K T → 4 * c * K < T → T ≤ 10 * (4 * c * K) → -330 ≤ p → p ≤ 330 → ∃ p' K' T' : Int, suPost c q p' K' T' w (f_Sh_setUp_182 (iI q) (iL c) (iI p) vs vc us uc s w1 wc1 ts tc) ∧ suRel q p' K' T' ∧ 0 < K' ∧ 4 * c * K' < T' ∧ T' ≤ 10 * (4 * c * K') ∧ -330 ≤ p' ∧ p' ≤ 330 ∧ K' < 2 ^ 2500 := by
    intro p T ts tc bT hT0 hTb hr h1 h2 h3 h4
    obtain ⟨sh, t, vs', vc', us', uc', ws', wc', ts', tc', e, hs, htop, q1, q2, q3, q4⟩ := su182 (aq := iI q) (ac := iL c) (as_ := s) (op := iI p) bV bU b1 bT hT0 (by omega) (by omega) (by omega) hTb
    have hps := p2_pos sh
    have hps2 : (2 : Int) ^ sh ≤ 2 ^ 31 := p2_mono (by omega)
    refine ⟨p, K * 2 ^ sh, T * 2 ^ sh, ⟨t, vs', vc', us', uc', ws', wc', ts', tc', e, htop, ?_, ?_, ?_, q4⟩, suRel_mul hr _, Int.mul_pos hK0 hps, ?_, ?_, h3, h4, ?_⟩
    · rw [← Int.mul_assoc]; exact q1
    · rw [← Int.mul_assoc]; exact q2
    · rw [← Int.mul_assoc]; exact q3
    · rw [← Int.mul_assoc]; exact Int.mul_lt_mul_of_pos_right h1 hps
    · have := Int.mul_le_mul_of_nonneg_right h2 (Int.le_of_lt hps)
      rw [Int.mul_assoc 10] at this
      rw [← Int.mul_assoc (4 * c)]; exact this
    · have := Int.mul_le_mul (show K ≤ 2 ^ 2400 by omega) hps2 (by omega) (Int.le_of_lt (p2_pos 2400))
      have e31 : (2 : Int) ^ 31 = 2147483648 := rfl
      rw [e31] at this
      omega
  have hno : ¬ 4 * (10 * c) * K < T := by
    rw [su_cmp hK0 hT0 hrel]
    have h10 := Int.mul_le_mul_of_nonneg_left hlo (show (0 : Int) ≤ 10 by omega)
    have e10 : (10 : Int) * (10 ^ (P - 1 + 400).toNat * cB) = 10 ^ (P + 400).toNat * cB := by
      rw [show (P + 400).toNat = (P - 1 + 400).toNat + 1 by omega, Int.pow_succ]
      generalize (10 : Int) ^ (P - 1 + 400).toNat = A
      generalize cB = B
      grind
    have e11 : 10 * c * 2 ^ (q + 1100).toNat * cA = 10 * (c * 2 ^ (q + 1100).toNat * cA) := by
      generalize (2 : Int) ^ (q + 1100).toNat = A
      generalize cA = B
      grind
    rw [e10] at h10
    rw [e11]
    omega
  have e40 : 4 * (10 * c) * K = 10 * (4 * c * K) := by grind
  rw [e40] at hno
  unfold cmpI
  by_cases hlt : 4 * c * K < T
  · rw [if_pos hlt, if_pos (by decide)]
    exact fin P T t1 tc1 b2 hT0 (by omega) hrel hlt (by omega) (by omega) (by omega)
  · rw [if_neg hlt]
    have hif : ¬ iI (if 4 * c * K = T then 0 else 1) < iI 0 := by split <;> decide
    rw [if_neg hif]
    have b37 : (2 : Int) ^ 2400 * 16 < 2 ^ 3072 := by decide +kernel
    obtain ⟨t2, tc2, e3, b3⟩ := tp_spec b2 (k := 10) (a := 0) (by omega) (by omega) (by omega) (by omega) (by omega)
    rw [Int.add_zero] at b3
    rw [e3, Option.bind_some]
    dsimp only
    have hr2 := suRel_ten (by omega) hrel
    exact fin (P + 1) (T * 10) t2 tc2 b3 (by omega) (by omega) hr2 ((su_cmp hK0 (by omega) hr2).mpr hhi) (by omega) (by omega) (by omega)
-- L3
set_option maxRecDepth 10000 in
theorem setUp_spec {c q : Int} {s : Nat} (hs : s < 2) (hc0 : 0 < c) (hc1 : c < 9007199254740992) (hq0 : -1074 ≤ q) (hq1 : q ≤ 971) (op vs us ws ts : Int32) (vc uc wc tc : Nat → Int32) :
    ∃ p K T : Int, suPost c q p K T (if c = 2 ^ (szD s - 1) ∧ szL s < q then 1 else 2) (f_Sh_setUp (iI q) (iL c) op vs vc us uc s ws wc ts tc) ∧ suRel q p K T ∧ 0 < K ∧ 4 * c * K < T ∧ T ≤ 10 * (4 * c * K) ∧ -330 ≤ p ∧ p ≤ 330 ∧ K < 2 ^ 2500 := by
  unfold f_Sh_setUp
  obtain ⟨b, hb, hbl, e⟩ := nlzL_spec (v := c) (by omega) (by omega)
  rw [e, Option.bind_some, uneven_spec hs (by omega) (by omega) (by omega) (by omega)]
  have hb0 : 0 < b := by
    rcases Nat.eq_zero_or_pos b with r | r
    · subst r; have := hbl.1; rw [Int.pow_zero] at this; omega
    · exact r
  have hb53 : b ≤ 53 := by
    rcases Nat.lt_or_ge 53 b with r | r
    · have := hbl.2 hb0
      have := p2_mono (show 53 ≤ b - 1 by omega)
      have e53 : (2 : Int) ^ 53 = 9007199254740992 := rfl
      omega
    · exact r
  have hlo2 := hbl.2 hb0
  have hhi2 := hbl.1
  obtain ⟨top, htop⟩ : ∃ top : Int, top = q + 63 - (64 - (b : Int)) := ⟨_, rfl⟩
  have htop' : top = q + b - 1 := by omega
  obtain ⟨⟨hf0, hf1⟩, hl1, hl2⟩ := log_ok (top := top) (by omega) (by omega)
  simp (disch := omega) only [iI_lit, iL_lit, iI_add, iI_sub, iI_mul, iI_neg, iL_add, iL_sub, iL_mul, iL_neg, iI_lt, iI_le, iI_eq, iL_lt, iL_le, iL_eqS, iI_c, iI_ok, iI_l, iL_i, iI_low, l_ushrI, l_shlI, l_shrI, i_shlI, i_shrI, i_ushrI, iI_div, iL_div, Int.toNat_natCast, Int.reduceToNat, iI_ofNat]
  rw [← htop]
  rw [show (2 : Int) ^ 18 = 262144 from rfl]
  obtain ⟨P, hP⟩ : ∃ P : Int, P = top * 78913 / 262144 + 1 := ⟨_, rfl⟩
  rw [← hP]
  rw [max_spec (by omega) (by omega) (by omega) (by omega), Option.bind_some, max_spec (by omega) (by omega) (by omega) (by omega), Option.bind_some, iI_add]
  obtain ⟨K, hK⟩ : ∃ K : Int, K = 5 ^ (max (-P) 0).toNat * 2 ^ (max (q - P) 0).toNat := ⟨_, rfl⟩
  obtain ⟨v1, c1, e1, b1, l1⟩ := st2 (v := c) (f := max (-P) 0) (t := max (q - P) 0 + 2) (by omega) (by omega) (by omega) (by omega) (by omega) (by omega) vs vc
  rw [e1, Option.bind_some, Option.bind_some, iI_add]
  obtain ⟨v2, c2, e2, b2, l2⟩ := st2 (v := 1) (f := max (-P) 0) (t := max (q - P) 0 + 1) (by omega) (by omega) (by omega) (by omega) (by omega) (by omega) us uc
  rw [e2, Option.bind_some, Option.bind_some, Option.bind_some]
  dsimp only
  have hV : c * 5 ^ (max (-P) 0).toNat * 2 ^ (max (q - P) 0 + 2).toNat = 4 * c * K := by
    rw [hK, show (max (q - P) 0 + 2).toNat = (max (q - P) 0).toNat + 2 by omega, Int.pow_add]
    generalize (5 : Int) ^ (max (-P) 0).toNat = A
    generalize (2 : Int) ^ (max (q - P) 0).toNat = B
    show c * A * (B * 4) = _
    clear l1 l2 b1 b2 e1 e2
    grind
  have hU : 1 * 5 ^ (max (-P) 0).toNat * 2 ^ (max (q - P) 0 + 1).toNat = 2 * K := by
    rw [hK, show (max (q - P) 0 + 1).toNat = (max (q - P) 0).toNat + 1 by omega, Int.pow_add]
    generalize (5 : Int) ^ (max (-P) 0).toNat = A
    generalize (2 : Int) ^ (max (q - P) 0).toNat = B
    show 1 * A * (B * 2) = _
    clear l1 l2 b1 b2 e1 e2
    grind
  rw [hV] at b1 l1
  rw [hU] at b2
  -- the number lies between the powers
  have hA := p2_pos (top + 1100).toNat
  have hlo : 10 ^ (P - 1 + 400).toNat * cB ≤ c * 2 ^ (q + 1100).toNat * cA := by
    rw [show P - 1 + 400 = top * 78913 / 262144 + 400 by omega]
    refine Int.le_trans hl1 (Int.mul_le_mul_of_nonneg_right ?_ (Int.le_of_lt cA_pos))
    rw [show (top + 1100).toNat = (b - 1) + (q + 1100).toNat by omega, Int.pow_add]
    exact Int.mul_le_mul_of_nonneg_right hlo2 (Int.le_of_lt (p2_pos _))
  have hhi : c * 2 ^ (q + 1100).toNat * cA < 10 ^ (P + 1 + 400).toNat * cB := by
    rw [show P + 1 + 400 = top * 78913 / 262144 + 402 by omega]
    refine Int.lt_of_lt_of_le (Int.mul_lt_mul_of_pos_right ?_ cA_pos) hl2
    rw [show (top + 1101).toNat = b + (q + 1100).toNat by omega, Int.pow_add]
    exact Int.mul_lt_mul_of_pos_right hhi2 (p2_pos _)
  by_cases hun : c = 2 ^ (szD s - 1) ∧ szL s < q
  · rw [if_pos hun, if_pos hun, if_neg (by decide)]
    have := su121 (s := s) hc0 (by omega) hq0 hq1 (by omega) (by omega) hK (w := 1) (Or.inl rfl) (ws := ws) (ts := ts) (wc := wc) (tc := tc) b1 b2 l1 hlo hhi
    rw [show max (q - P) 0 + (1 - 1) = max (q - P) 0 by omega] at this
    exact this
  · rw [if_neg hun, if_neg hun, if_pos rfl]
    have := su121 (s := s) hc0 (by omega) hq0 hq1 (by omega) (by omega) hK (w := 2) (Or.inr rfl) (ws := ws) (ts := ts) (wc := wc) (tc := tc) b1 b2 l1 hlo hhi
    rw [show max (q - P) 0 + (2 - 1) = max (q - P) 0 + 1 by omega] at this
    exact this
