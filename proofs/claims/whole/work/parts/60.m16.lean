-- YE
set_option maxRecDepth 10000 in
def RS (N f : Nat) (ke ch un ns : Int32) (nc : Nat → Int32) (lo po : Int32) : Prop :=
  ∃ (Nb c : Int) (j : Nat), ke = iI (min (nd N) 800 : Nat) ∧ un = iI (10 ^ j) ∧ ch = iI c ∧ j ≤ 8 ∧ 0 ≤ c ∧ c < 10 ^ j ∧ BR ns nc Nb ∧ Nb * 10 ^ j + c = ((N / 10 ^ (nd N - 800) : Nat) : Int) ∧ lo = iI (if N % 10 ^ (nd N - 800) = 0 then 0 else 1) ∧ po = iI (((nd N - 800 : Nat) : Int) - f)
set_option maxRecDepth 10000 in
def GIV (s : Nat) (fo m t : Int) (r : Int) : Prop := ∃ b, isBL m b ∧ r = (if fo = 1 then (2 ^ szK s - 1) * 2 ^ (szD s - 1) else roV s m t b)
set_option maxRecDepth 10000 in
theorem cut_lt (N : Nat) : cutN N < 10 ^ 801 ∧ N / 10 ^ (nd N - 800) < 10 ^ 800 := by
  have h800 : N / 10 ^ (nd N - 800) < 10 ^ 800 := by
    rcases Nat.lt_or_ge 800 (nd N) with q | q
    · exact (nd_cut q).2.2
    · rw [show nd N - 800 = 0 by omega, Nat.pow_zero, Nat.div_one]
      exact Nat.lt_of_lt_of_le (nd_lt N) (p10_mono q)
  refine ⟨?_, h800⟩
  unfold cutN
  have : (10 : Nat) ^ 801 = 10 * 10 ^ 800 := by rw [show 801 = 800 + 1 from rfl, Nat.pow_succ, Nat.mul_comm]
  generalize 10 ^ 801 = Z at *
  generalize (10 : Nat) ^ 800 = Y at *
  split <;> omega
set_option maxRecDepth 10000 in
theorem j8 {j : Nat} (h : j ≤ 8) : 0 < (10 : Int) ^ j ∧ (10 : Int) ^ j ≤ 100000000 := by
  refine ⟨p10_pos j, ?_⟩
  have := p10I_mono h
  rwa [show (10 : Int) ^ 8 = 100000000 from rfl] at this
set_option maxRecDepth 10000 in
theorem c800 : ((10 ^ 800 : Nat) : Int) ≤ 2 ^ 2660 := by decide +kernel
set_option maxRecDepth 10000 in
theorem c801 : ((10 ^ 801 : Nat) : Int) ≤ 2 ^ 2663 := by decide +kernel
set_option maxRecDepth 10000 in
theorem c2660 : (2 : Int) ^ 2660 < 2 ^ 3072 ∧ (2 : Int) ^ 2663 < 2 ^ 2700 ∧ (2 : Int) ^ 2663 < 2 ^ 3072 ∧ (2 : Int) ^ 2700 < 2 ^ 3072 := by decide +kernel
set_option maxRecDepth 10000 in
theorem fd_div {N' : Nat} {P pt : Int} (hN : 0 < N') (hn : nd N' ≤ 801) (hpt : pt = nd N' + P) (h0 : -326 < pt) (h1 : pt < 311) {ns : Int32} {nc : Nat → Int32} (hB : BR ns nc (N' : Int)) (ds : Int32) (dc : Nat → Int32) (mt : Int64) :
    ∃ ns' nc' ds' dc' m t, ((f_Bg_set (1 : Int64) ds dc).bind fun u106 => (f_JMath_max (iI P) (0 : Int32)).bind fun u118 => (f_Bg_timesFives u118 ns nc).bind fun u121 => (f_JMath_max (-(iI P)) (0 : Int32)).bind fun u134 => (f_Bg_timesFives u134 u106.1 u106.2).bind fun u137 => f_Rd_divide u121.1 u121.2 u137.1 u137.2 (iI P) mt) = some (ns', nc', ds', dc', iI t, iL m) ∧ 0 ≤ m ∧ m < 4611686018427387904 ∧ -10000 ≤ t ∧ t ≤ 10000 ∧ ∀ s, s < 2 → ∀ b, isBL m b → NE s (VD N' pt) (WD s) (roV s m t b) := by
  have hk := KK_eq
  obtain ⟨k1, k2, k3, k4⟩ := c2660
  have hl := nd_lt N'
  obtain ⟨s1, c1, e1, g1⟩ := set_spec (v := 1) (by omega) (by omega) ds dc
  have hpb : ((N' : Nat) : Int) * 5 ^ (max P 0).toNat < 2 ^ 2700 := by
    by_cases q : P ≤ 0
    · rw [show (max P 0).toNat = 0 by omega, Int.pow_zero, Int.mul_one]
      have a1 : (N' : Int) < ((10 ^ 801 : Nat) : Int) := Int.ofNat_lt.mpr (Nat.lt_of_lt_of_le hl (p10_mono hn))
      have := c801
      generalize (2 : Int) ^ 2700 = X1 at *
      generalize (2 : Int) ^ 2663 = X2 at *
      generalize ((10 ^ 801 : Nat) : Int) = X3 at *
      omega
    · rw [show (max P 0).toNat = P.toNat by omega]
      have a1 : (N' : Int) < ((10 ^ nd N' : Nat) : Int) := Int.ofNat_lt.mpr hl
      rw [Int.natCast_pow] at a1
      have a2 : (5 : Int) ^ P.toNat ≤ 10 ^ P.toNat := by
        rw [p10_25]
        have := Int.mul_le_mul_of_nonneg_right (show (1 : Int) ≤ 2 ^ P.toNat from p2_pos _) (show (0 : Int) ≤ 5 ^ P.toNat from Int.le_of_lt (p5_pos _))
        rwa [Int.one_mul] at this
      have a3 := Int.mul_le_mul_of_nonneg_left a2 (show (0 : Int) ≤ N' by omega)
      have a4 := Int.mul_lt_mul_of_pos_right a1 (p10_pos P.toNat)
      have a5 : ((10 : Nat) : Int) ^ nd N' * 10 ^ P.toNat ≤ 10 ^ 800 := by
        show (10 : Int) ^ nd N' * 10 ^ P.toNat ≤ 10 ^ 800
        rw [← Int.pow_add]; exact p10I_mono (by omega)
      have a6 := c800
      rw [Int.natCast_pow] at a6
      have a7 : (2 : Int) ^ 2660 ≤ 2 ^ 2700 := p2_mono (by omega)
      exact Int.lt_of_le_of_lt a3 (Int.lt_of_lt_of_le a4 (Int.le_trans a5 (Int.le_trans a6 a7)))
  have hdb : (1 : Int) * 5 ^ (max (-P) 0).toNat < 2 ^ 2700 := by
    rw [Int.one_mul]
    have a1 := p5_mono (show (max (-P) 0).toNat ≤ 1127 by omega)
    have a2 : (5 : Int) ^ 1127 < 2 ^ 2700 := by decide +kernel
    exact Int.lt_of_le_of_lt a1 a2
  obtain ⟨s2, c2, e2, g2⟩ := tf_spec (p := max P 0) hB (by omega) (by omega) (Int.lt_trans hpb k4)
  obtain ⟨s3, c3, e3, g3⟩ := tf_spec (p := max (-P) 0) g1 (by omega) (by omega) (Int.lt_trans hdb k4)
  have hA0 : 0 < ((N' : Nat) : Int) * 5 ^ (max P 0).toNat := Int.mul_pos (by omega) (p5_pos _)
  have hD0 : 0 < (1 : Int) * 5 ^ (max (-P) 0).toNat := Int.mul_pos (by omega) (p5_pos _)
  obtain ⟨lg, l0, l1, ns', nc', ds', dc', m, R, e4, _, _, m0, m1, m2, stk⟩ := divide_spec (pw := P) hA0 hD0 hpb hdb g2 g3 mt
  refine ⟨ns', nc', ds', dc', m, P + (lg - 61), ?_, m0, m1, by omega, by omega, ?_⟩
  · rw [show (1 : Int64) = iL 1 from rfl, e1, Option.bind_some, show (0 : Int32) = iI 0 from rfl, max_spec (by omega) (by omega) (by omega) (by omega), Option.bind_some, e2, Option.bind_some, iI_neg, max_spec (by omega) (by omega) (by omega) (by omega), Option.bind_some, e3, Option.bind_some, e4]
  · intro s hs b hb
    have hb62 : b ≤ 62 := bl_le hb (by rw [show (2 : Int) ^ 62 = 4611686018427387904 from by decide]; exact m1)
    have hb61 : 61 ≤ b := by
      rcases Nat.lt_or_ge b 61 with q | q
      · have a1 := hb.1
        have a2 : (2 : Int) ^ b ≤ 2 ^ 60 := p2_mono (by omega)
        rw [show (2 : Int) ^ 60 = 1152921504606846976 from by decide] at a2
        omega
      · exact q
    have g := szGL hs
    have g53 : szD s ≤ 53 := by rcases sz_cases hs with h | h <;> omega
    have hY : 0 < (1 : Int) * 5 ^ (max (-P) 0).toNat * 2 ^ lg.toNat := Int.mul_pos hD0 (p2_pos _)
    have hL := (sz_p hs).2.2.2.2
    generalize ht : P + (lg - 61) = t
    have key := roV_all hs (t := t) (p := (t - szL s).toNat) (n := (szL s - t).toNat) (show 0 < m by omega) hY stk hb hb62 (Or.inr (by omega)) (by omega)
    refine NE_cross (Int.mul_pos hY (p2_pos _)) (WD_pos s) ?_ key
    unfold WD VD
    rw [show (pt - nd N' + KK).toNat = (P + KK).toNat by omega, p10_25]
    have five : (5 : Int) ^ (max P 0).toNat * 5 ^ KK = 5 ^ (P + KK).toNat * 5 ^ (max (-P) 0).toNat := by
      rw [← Int.pow_add, ← Int.pow_add]; congr 1; omega
    have two : (2 : Int) ^ (-lg).toNat * 2 ^ 61 * 2 ^ (t - szL s).toNat * 2 ^ (szL s + KK).toNat = 2 ^ (P + KK).toNat * 2 ^ lg.toNat * 2 ^ (szL s - t).toNat := by
      rw [← Int.pow_add, ← Int.pow_add, ← Int.pow_add, ← Int.pow_add, ← Int.pow_add]; congr 1; omega
    generalize (5 : Int) ^ (max P 0).toNat = f1 at *
    generalize (5 : Int) ^ KK = f2 at *
    generalize (5 : Int) ^ (P + KK).toNat = f3 at *
    generalize (5 : Int) ^ (max (-P) 0).toNat = f4 at *
    generalize (2 : Int) ^ (-lg).toNat = t1 at *
    generalize (2 : Int) ^ 61 = t2 at *
    generalize (2 : Int) ^ (t - szL s).toNat = t3 at *
    generalize (2 : Int) ^ (szL s + KK).toNat = t4 at *
    generalize (2 : Int) ^ (P + KK).toNat = t5 at *
    generalize (2 : Int) ^ lg.toNat = t6 at *
    generalize (2 : Int) ^ (szL s - t).toNat = t7 at *
    calc (N' : Int) * f1 * t1 * t2 * t3 * (t4 * f2) = (N' : Int) * (f1 * f2) * (t1 * t2 * t3 * t4) := by grind
      _ = (N' : Int) * (f3 * f4) * (t5 * t6 * t7) := by rw [five, two]
      _ = (N' : Int) * (t5 * f3) * (1 * f4 * t6 * t7) := by grind
set_option maxRecDepth 10000 in
theorem fd_spec {N f : Nat} {E : Int} (hn : nd N ≤ 65536) (hf : f ≤ 65536) (hE0 : -1000000000 ≤ E) (hE1 : E ≤ 1000000000) {ke ch un ns lo po : Int32} {nc : Nat → Int32} (hR : RS N f ke ch un ns nc lo po) (ds : Int32) (dc : Nat → Int32) :
    ∃ ns' nc' po' ke' ds' dc' m fo, f_Rd_finishDecimal un ch ns nc lo po (iI E) ke ds dc (iL 0) (iI 2) = some (iI 1, iI 0, ns', nc', iI po', ke', ds', dc', iL m, iI fo) ∧ 0 ≤ m ∧ m < 4611686018427387904 ∧ -1100000000 ≤ po' ∧ po' ≤ 1100000000 ∧ (fo = 1 ∨ fo = 2) ∧ (N = 0 → m = 0 ∧ fo = 2) ∧
      (0 < N → ∀ s, s < 2 → ∀ b, isBL m b → DEC s N ((nd N : Int) - f + E) (if fo = 1 then (2 ^ szK s - 1) * 2 ^ (szD s - 1) else roV s m po' b)) := by
  obtain ⟨Nb, c, j, rfl, rfl, rfl, hj, hc0, hc1, hB, eA, rfl, rfl⟩ := hR
  obtain ⟨k1, k2, k3, k4⟩ := c2660
  obtain ⟨j0, j1⟩ := j8 hj
  obtain ⟨u1, u2⟩ := cut_lt N
  have u3 : ((N / 10 ^ (nd N - 800) : Nat) : Int) < 2 ^ 2660 := by
    have a1 : ((N / 10 ^ (nd N - 800) : Nat) : Int) < ((10 ^ 800 : Nat) : Int) := Int.ofNat_lt.mpr u2
    exact Int.lt_of_lt_of_le a1 c800
  obtain ⟨s1, c1, e1, g1⟩ := tp_spec (k := 10 ^ j) (a := c) hB j0 (by omega) hc0 (by omega) (by rw [eA]; exact Int.lt_trans u3 k1)
  rw [eA] at g1
  unfold f_Rd_finishDecimal f_Rd_keepChunk
  rw [e1, Option.bind_some, Option.bind_some]
  dsimp only
  -- the number that is kept, and its power
  have mid : ∃ s2 c2, BR s2 c2 ((cutN N : Nat) : Int) ∧ (if iI (if N % 10 ^ (nd N - 800) = 0 then 0 else 1) = 0 then f_Rd_finishDecimal_41 1 0 s1 c1 (iI (if N % 10 ^ (nd N - 800) = 0 then 0 else 1)) (iI (((nd N - 800 : Nat) : Int) - f)) (iI E) (iI (min (nd N) 800 : Nat)) ds dc (iL 0) (iI 2) else ((f_Bg_timesPlus (10 : Int32) (1 : Int32) s1 c1).bind fun u18 => f_Rd_finishDecimal_41 1 0 u18.1 u18.2 (iI (if N % 10 ^ (nd N - 800) = 0 then 0 else 1)) (iI (((nd N - 800 : Nat) : Int) - f) - (1 : Int32)) (iI E) (iI (min (nd N) 800 : Nat) + (1 : Int32)) ds dc (iL 0) (iI 2))) = f_Rd_finishDecimal_41 1 0 s2 c2 (iI (if N % 10 ^ (nd N - 800) = 0 then 0 else 1)) (iI ((nd N : Int) - nd (cutN N) - f)) (iI E) (iI (nd (cutN N))) ds dc (iL 0) (iI 2) := by
    rcases Nat.eq_zero_or_pos N with hz | hN
    · subst hz
      have : cutN 0 = 0 := cut_small (by rw [nd_zero]; omega)
      refine ⟨s1, c1, ?_, ?_⟩
      · rw [this]
        have e0 : ((0 / 10 ^ (nd 0 - 800) : Nat) : Int) = ((0 : Nat) : Int) := by rw [Nat.zero_div]
        rw [← e0]; exact g1
      · rw [Nat.zero_mod, if_pos rfl, if_pos (show iI 0 = 0 from rfl), this, nd_zero]; rfl
    · have hnd := cut_nd hN
      by_cases q : N % 10 ^ (nd N - 800) = 0
      · rw [if_pos q] at hnd
        have ec : cutN N = N / 10 ^ (nd N - 800) := if_pos q
        refine ⟨s1, c1, by rw [ec]; exact g1, ?_⟩
        rw [if_pos q, if_pos (show iI 0 = 0 from rfl)]
        rw [show ((nd N - 800 : Nat) : Int) - f = (nd N : Int) - nd (cutN N) - f by omega, show (min (nd N) 800 : Nat) = nd (cutN N) by omega]
      · rw [if_neg q] at hnd
        have ec : cutN N = 10 * (N / 10 ^ (nd N - 800)) + 1 := if_neg q
        have c8 := c801
        have u4 : ((cutN N : Nat) : Int) < ((10 ^ 801 : Nat) : Int) := Int.ofNat_lt.mpr u1
        have e10 : ((N / 10 ^ (nd N - 800) : Nat) : Int) * 10 + 1 = ((cutN N : Nat) : Int) := by rw [ec]; omega
        obtain ⟨s2, c2, e2, g2⟩ := tp_spec (k := 10) (a := 1) g1 (by omega) (by omega) (by omega) (by omega) (by rw [e10]; exact Int.lt_trans (Int.lt_of_lt_of_le u4 c8) k3)
        rw [e10] at g2
        refine ⟨s2, c2, g2, ?_⟩
        have h800 : 800 < nd N := by
          rcases Nat.lt_or_ge 800 (nd N) with r | r
          · exact r
          · rw [show nd N - 800 = 0 by omega, Nat.pow_zero, Nat.mod_one] at q; exact absurd rfl q
        rw [if_neg q, if_neg (show ¬ iI 1 = 0 from by decide), show (10 : Int32) = iI 10 from rfl, show (1 : Int32) = iI 1 from rfl, e2, Option.bind_some, iI_sub, iI_add]
        rw [show ((nd N - 800 : Nat) : Int) - f - 1 = (nd N : Int) - nd (cutN N) - f by omega, show ((min (nd N) 800 : Nat) : Int) + 1 = ((nd (cutN N) : Nat) : Int) by omega]
  obtain ⟨s2, c2, g2, em⟩ := mid
  rw [em]
  have hk801 : nd (cutN N) ≤ 801 := nd_le_of u1
  unfold f_Rd_finishDecimal_41 f_Rd_finishDecimal_78
  rw [iI_add, iI_add]
  rcases Nat.eq_zero_or_pos N with hz | hN
  · subst hz
    have : cutN 0 = 0 := cut_small (by rw [nd_zero]; omega)
    rw [this, nd_zero, if_pos (show iI ((0 : Nat) : Int) = 0 from rfl)]
    exact ⟨_, _, 0, _, _, _, 0, 2, rfl, by omega, by omega, by omega, by omega, Or.inr rfl, fun _ => ⟨rfl, rfl⟩, fun h => absurd h (by omega)⟩
  · have hcp := cut_pos hN
    have hcn := nd_pos hcp
    rw [if_neg (show ¬ iI (nd (cutN N) : Int) = 0 from by simp (disch := omega) only [iI_lit, iL_lit, iI_add, iI_sub, iI_mul, iI_neg, iL_add, iL_sub, iL_mul, iL_neg, iI_lt, iI_le, iI_eq, iL_lt, iL_le, iL_eqS, iI_c, iI_ok, iI_l, iL_i, iI_low, l_ushrI, l_shlI, l_shrI, i_shlI, i_shrI, i_ushrI, iI_div, iL_div, Int.toNat_natCast, Int.reduceToNat, iI_ofNat]; omega)]
    generalize hP : (nd N : Int) - nd (cutN N) - f + E = P
    have hpt : (nd (cutN N) : Int) + P = (nd N : Int) - f + E := by omega
    by_cases q1 : -326 < (nd (cutN N) : Int) + P
    · rw [if_pos (show (-326 : Int32) < iI ((nd (cutN N) : Int) + P) from by simp (disch := omega) only [iI_lit, iL_lit, iI_add, iI_sub, iI_mul, iI_neg, iL_add, iL_sub, iL_mul, iL_neg, iI_lt, iI_le, iI_eq, iL_lt, iL_le, iL_eqS, iI_c, iI_ok, iI_l, iL_i, iI_low, l_ushrI, l_shlI, l_shrI, i_shlI, i_shrI, i_ushrI, iI_div, iL_div, Int.toNat_natCast, Int.reduceToNat, iI_ofNat]; omega)]
      by_cases q2 : (nd (cutN N) : Int) + P < 311
      · rw [if_pos (show iI ((nd (cutN N) : Int) + P) < 311 from by simp (disch := omega) only [iI_lit, iL_lit, iI_add, iI_sub, iI_mul, iI_neg, iL_add, iL_sub, iL_mul, iL_neg, iI_lt, iI_le, iI_eq, iL_lt, iL_le, iL_eqS, iI_c, iI_ok, iI_l, iL_i, iI_low, l_ushrI, l_shlI, l_shrI, i_shlI, i_shrI, i_ushrI, iI_div, iL_div, Int.toNat_natCast, Int.reduceToNat, iI_ofNat]; omega)]
        obtain ⟨ns', nc', ds', dc', m, t, ed, m0, m1, t0, t1, kk⟩ := fd_div (P := P) hcp hk801 rfl q1 q2 g2 ds dc (iL 0)
        simp only [Option.bind_eq_some_iff] at ed
        obtain ⟨x1, y1, x2, y2, x3, y3, x4, y4, x5, y5, y6⟩ := ed
        rw [y1, Option.bind_some, y2, Option.bind_some, y3, Option.bind_some, y4, Option.bind_some, y5, Option.bind_some, y6, Option.bind_some]
        refine ⟨_, _, t, _, _, _, m, 2, rfl, m0, m1, by omega, by omega, Or.inr rfl, fun h => absurd h (by omega), fun _ s hs b hb => ?_⟩
        rw [if_neg (show ¬ (2 : Int) = 1 by decide)]
        have hne := cut_NE hs hN hn (p := (nd (cutN N) : Int) + P) (by omega) (by omega) (kk s hs b hb)
        rw [hpt] at hne
        exact ⟨fun h => NE_uniq hs (WD_pos s) hne (NE_hi hs hN h hn), fun h => NE_uniq hs (WD_pos s) hne (NE_lo hs hN (by omega) h hn), fun _ _ => hne⟩
      · rw [if_neg (show ¬ iI ((nd (cutN N) : Int) + P) < 311 from by simp (disch := omega) only [iI_lit, iL_lit, iI_add, iI_sub, iI_mul, iI_neg, iL_add, iL_sub, iL_mul, iL_neg, iI_lt, iI_le, iI_eq, iL_lt, iL_le, iL_eqS, iI_c, iI_ok, iI_l, iL_i, iI_low, l_ushrI, l_shlI, l_shrI, i_shlI, i_shrI, i_ushrI, iI_div, iL_div, Int.toNat_natCast, Int.reduceToNat, iI_ofNat]; omega)]
        refine ⟨_, _, P, _, _, _, 0, 1, rfl, by omega, by omega, by omega, by omega, Or.inl rfl, fun h => absurd h (by omega), fun _ s hs b hb => ?_⟩
        rw [if_pos rfl]
        exact ⟨fun _ => rfl, fun h => by omega, fun _ h => by omega⟩
    · rw [if_neg (show ¬ (-326 : Int32) < iI ((nd (cutN N) : Int) + P) from by simp (disch := omega) only [iI_lit, iL_lit, iI_add, iI_sub, iI_mul, iI_neg, iL_add, iL_sub, iL_mul, iL_neg, iI_lt, iI_le, iI_eq, iL_lt, iL_le, iL_eqS, iI_c, iI_ok, iI_l, iL_i, iI_low, l_ushrI, l_shlI, l_shrI, i_shlI, i_shrI, i_ushrI, iI_div, iL_div, Int.toNat_natCast, Int.reduceToNat, iI_ofNat]; omega)]
      refine ⟨_, _, 0, _, _, _, 0, 2, rfl, by omega, by omega, by omega, by omega, Or.inr rfl, fun h => absurd h (by omega), fun _ s hs b hb => ?_⟩
      rw [if_neg (show ¬ (2 : Int) = 1 by decide)]
      have : roV s 0 0 b = 0 := by unfold roV; rw [if_pos rfl]
      rw [this]
      exact ⟨fun h => by omega, fun _ => rfl, fun h => by omega⟩
-- YF
set_option maxRecDepth 10000 in
def hr (E : List Int32) (z i : Nat) : Int := if i < z then ubAt E i else -1
set_option maxRecDepth 10000 in
theorem hr_b (E : List Int32) (z i : Nat) : -1 ≤ hr E z i ∧ hr E z i < 256 := by
  have := ubAt_b E i
  unfold hr
  split <;> omega
set_option maxRecDepth 10000 in
theorem hr_in {E : List Int32} {z i : Nat} (h : 0 ≤ hr E z i) : i < z := by
  unfold hr at h
  split at h
  · assumption
  · omega
set_option maxRecDepth 10000 in
theorem here_spec {n : Nat} (hn : n < 1000000) {len over : Int32} {c : Nat → Int32} {E : List Int32} (h : BY n len over c E) (hE : E.length ≤ n) {z i : Nat} (hz : z ≤ E.length) (hi : i ≤ 1000000) : f_Rd_here n (iI i) (iI z) len c = some (iI (hr E z i)) := by
  unfold f_Rd_here hr
  by_cases q : i < z
  · rw [if_neg (show ¬ iI (z : Int) ≤ iI i from by simp (disch := omega) only [iI_lit, iL_lit, iI_add, iI_sub, iI_mul, iI_neg, iL_add, iL_sub, iL_mul, iL_neg, iI_lt, iI_le, iI_eq, iL_lt, iL_le, iL_eqS, iI_c, iI_ok, iI_l, iL_i, iI_low, l_ushrI, l_shlI, l_shrI, i_shlI, i_shrI, i_ushrI, iI_div, iL_div, Int.toNat_natCast, Int.reduceToNat, iI_ofNat]; omega), if_pos q, at_in (by omega) h hE (by omega)]
    rfl
  · rw [if_pos (show iI (z : Int) ≤ iI i from by simp (disch := omega) only [iI_lit, iL_lit, iI_add, iI_sub, iI_mul, iI_neg, iL_add, iL_sub, iL_mul, iL_neg, iI_lt, iI_le, iI_eq, iL_lt, iL_le, iL_eqS, iI_c, iI_ok, iI_l, iL_i, iI_low, l_ushrI, l_shlI, l_shrI, i_shlI, i_shrI, i_ushrI, iI_div, iL_div, Int.toNat_natCast, Int.reduceToNat, iI_ofNat]; omega), if_neg q]
    rfl
set_option maxRecDepth 10000 in
theorem sees_spec {n : Nat} (hn : n < 1000000) {len over : Int32} {c : Nat → Int32} {E : List Int32} (h : BY n len over c E) (hE : E.length ≤ n) {z i : Nat} (hz : z ≤ E.length) (hi : i ≤ 1000000) {k : Int} (hk0 : 0 ≤ k) (hk : k < 128) : f_Rd_sees (iI k) n (iI i) (iI z) len c = some (iI (if hr E z i = k then 1 else 0)) := by
  have hb := hr_b E z i
  unfold f_Rd_sees
  rw [here_spec hn h hE hz hi, Option.bind_some]
  by_cases q : hr E z i = k
  · rw [if_pos (show iI (hr E z i) = iI k from by rw [q]), if_pos q]; rfl
  · rw [if_neg (show ¬ iI (hr E z i) = iI k from by simp (disch := omega) only [iI_lit, iL_lit, iI_add, iI_sub, iI_mul, iI_neg, iL_add, iL_sub, iL_mul, iL_neg, iI_lt, iI_le, iI_eq, iL_lt, iL_le, iL_eqS, iI_c, iI_ok, iI_l, iL_i, iI_low, l_ushrI, l_shlI, l_shrI, i_shlI, i_shrI, i_ushrI, iI_div, iL_div, Int.toNat_natCast, Int.reduceToNat, iI_ofNat]; omega), if_neg q]; rfl
set_option maxRecDepth 10000 in
theorem ntdig_spec {x : Int} (h0 : -1 ≤ x) (h1 : x < 256) : f_Nt_isDigit (iI x) = some (iI (if 48 ≤ x ∧ x ≤ 57 then 1 else 0)) := by
  unfold f_Nt_isDigit
  by_cases q : x < 48
  · rw [if_pos (show iI x < 48 from by simp (disch := omega) only [iI_lit, iL_lit, iI_add, iI_sub, iI_mul, iI_neg, iL_add, iL_sub, iL_mul, iL_neg, iI_lt, iI_le, iI_eq, iL_lt, iL_le, iL_eqS, iI_c, iI_ok, iI_l, iL_i, iI_low, l_ushrI, l_shlI, l_shrI, i_shlI, i_shrI, i_ushrI, iI_div, iL_div, Int.toNat_natCast, Int.reduceToNat, iI_ofNat]; omega), if_neg (show ¬ (48 ≤ x ∧ x ≤ 57) by omega)]; rfl
  · rw [if_neg (show ¬ iI x < 48 from by simp (disch := omega) only [iI_lit, iL_lit, iI_add, iI_sub, iI_mul, iI_neg, iL_add, iL_sub, iL_mul, iL_neg, iI_lt, iI_le, iI_eq, iL_lt, iL_le, iL_eqS, iI_c, iI_ok, iI_l, iL_i, iI_low, l_ushrI, l_shlI, l_shrI, i_shlI, i_shrI, i_ushrI, iI_div, iL_div, Int.toNat_natCast, Int.reduceToNat, iI_ofNat]; omega)]
    by_cases r : x ≤ 57
    · rw [if_neg (show ¬ (57 : Int32) < iI x from by simp (disch := omega) only [iI_lit, iL_lit, iI_add, iI_sub, iI_mul, iI_neg, iL_add, iL_sub, iL_mul, iL_neg, iI_lt, iI_le, iI_eq, iL_lt, iL_le, iL_eqS, iI_c, iI_ok, iI_l, iL_i, iI_low, l_ushrI, l_shlI, l_shrI, i_shlI, i_shrI, i_ushrI, iI_div, iL_div, Int.toNat_natCast, Int.reduceToNat, iI_ofNat]; omega), if_pos (show 48 ≤ x ∧ x ≤ 57 by omega)]; rfl
    · rw [if_pos (show (57 : Int32) < iI x from by simp (disch := omega) only [iI_lit, iL_lit, iI_add, iI_sub, iI_mul, iI_neg, iL_add, iL_sub, iL_mul, iL_neg, iI_lt, iI_le, iI_eq, iL_lt, iL_le, iL_eqS, iI_c, iI_ok, iI_l, iL_i, iI_low, l_ushrI, l_shlI, l_shrI, i_shlI, i_shrI, i_ushrI, iI_div, iL_div, Int.toNat_natCast, Int.reduceToNat, iI_ofNat]; omega), if_neg (show ¬ (48 ≤ x ∧ x ≤ 57) by omega)]; rfl
set_option maxRecDepth 10000 in
theorem tp_at {t : Int32} {tc : Nat → Int32} {E : List Int32} (h : TP t tc E) {i : Nat} (hi : i < E.length) : ∃ a : Int, -128 ≤ a ∧ a < 128 ∧ tc i = iI a ∧ ubAt E i = (if 0 ≤ a then a else a + 256) := by
  obtain ⟨_, h2, h3⟩ := h
  have e := h2 i E[i] (List.getElem?_eq_getElem hi)
  obtain ⟨a, a0, a1, ea⟩ := sb_of (h3 E[i] (List.getElem_mem hi))
  refine ⟨a, a0, a1, by rw [e, ea], ?_⟩
  rw [ubAt_get hi, ea]
  unfold ub
  rw [u3_m]
  split <;> omega
set_option maxRecDepth 10000 in
theorem mdis_spec {t : Int32} {tc : Nat → Int32} {E : List Int32} (h : TP t tc E) (hE : E.length ≤ 65536) {z i : Nat} (hz : z ≤ E.length) (hi : i ≤ 1000000) {k : Int} (hk0 : 0 ≤ k) (hk : k < 128) : f_Md_is (iI k) (iI i) (iI z) tc = some (iI (if hr E z i = k then 1 else 0)) := by
  unfold f_Md_is hr
  by_cases q : i < z
  · obtain ⟨a, a0, a1, e, ea⟩ := tp_at h (show i < E.length by omega)
    rw [if_neg (show ¬ iI (z : Int) ≤ iI i from by simp (disch := omega) only [iI_lit, iL_lit, iI_add, iI_sub, iI_mul, iI_neg, iL_add, iL_sub, iL_mul, iL_neg, iI_lt, iI_le, iI_eq, iL_lt, iL_le, iL_eqS, iI_c, iI_ok, iI_l, iL_i, iI_low, l_ushrI, l_shlI, l_shrI, i_shlI, i_shrI, i_ushrI, iI_div, iL_div, Int.toNat_natCast, Int.reduceToNat, iI_ofNat]; omega), if_pos q]
    rw [if_pos (show gx_ok (iI (i : Int)) 65536 = true from by simp (disch := omega) only [iI_lit, iL_lit, iI_add, iI_sub, iI_mul, iI_neg, iL_add, iL_sub, iL_mul, iL_neg, iI_lt, iI_le, iI_eq, iL_lt, iL_le, iL_eqS, iI_c, iI_ok, iI_l, iL_i, iI_low, l_ushrI, l_shlI, l_shrI, i_shlI, i_shrI, i_ushrI, iI_div, iL_div, Int.toNat_natCast, Int.reduceToNat, iI_ofNat]; omega), iI_c (by omega) (by omega), Int.toNat_natCast, e, ea]
    by_cases r : a = k
    · have : (if 0 ≤ a then a else a + 256) = k := by split <;> omega
      rw [if_pos (show iI a = iI k from by rw [r]), if_pos this]; rfl
    · have : ¬ (if 0 ≤ a then a else a + 256) = k := by split <;> omega
      rw [if_neg (show ¬ iI a = iI k from by simp (disch := omega) only [iI_lit, iL_lit, iI_add, iI_sub, iI_mul, iI_neg, iL_add, iL_sub, iL_mul, iL_neg, iI_lt, iI_le, iI_eq, iL_lt, iL_le, iL_eqS, iI_c, iI_ok, iI_l, iL_i, iI_low, l_ushrI, l_shlI, l_shrI, i_shlI, i_shrI, i_ushrI, iI_div, iL_div, Int.toNat_natCast, Int.reduceToNat, iI_ofNat]; omega), if_neg this]; rfl
  · rw [if_pos (show iI (z : Int) ≤ iI i from by simp (disch := omega) only [iI_lit, iL_lit, iI_add, iI_sub, iI_mul, iI_neg, iL_add, iL_sub, iL_mul, iL_neg, iI_lt, iI_le, iI_eq, iL_lt, iL_le, iL_eqS, iI_c, iI_ok, iI_l, iL_i, iI_low, l_ushrI, l_shlI, l_shrI, i_shlI, i_shrI, i_ushrI, iI_div, iL_div, Int.toNat_natCast, Int.reduceToNat, iI_ofNat]; omega), if_neg q, if_neg (by omega)]; rfl
set_option maxRecDepth 10000 in
theorem mddig_spec {t : Int32} {tc : Nat → Int32} {E : List Int32} (h : TP t tc E) (hE : E.length ≤ 65536) {z i : Nat} (hz : z ≤ E.length) (hi : i ≤ 1000000) : f_Md_isDigit (iI i) (iI z) tc = some (iI (if 48 ≤ hr E z i ∧ hr E z i ≤ 57 then 1 else 0)) := by
  unfold f_Md_isDigit hr
  by_cases q : i < z
  · obtain ⟨a, a0, a1, e, ea⟩ := tp_at h (show i < E.length by omega)
    rw [if_neg (show ¬ iI (z : Int) ≤ iI i from by simp (disch := omega) only [iI_lit, iL_lit, iI_add, iI_sub, iI_mul, iI_neg, iL_add, iL_sub, iL_mul, iL_neg, iI_lt, iI_le, iI_eq, iL_lt, iL_le, iL_eqS, iI_c, iI_ok, iI_l, iL_i, iI_low, l_ushrI, l_shlI, l_shrI, i_shlI, i_shrI, i_ushrI, iI_div, iL_div, Int.toNat_natCast, Int.reduceToNat, iI_ofNat]; omega), if_pos q]
    have hok : gx_ok (iI (i : Int)) 65536 = true := by simp (disch := omega) only [iI_lit, iL_lit, iI_add, iI_sub, iI_mul, iI_neg, iL_add, iL_sub, iL_mul, iL_neg, iI_lt, iI_le, iI_eq, iL_lt, iL_le, iL_eqS, iI_c, iI_ok, iI_l, iL_i, iI_low, l_ushrI, l_shlI, l_shrI, i_shlI, i_shrI, i_ushrI, iI_div, iL_div, Int.toNat_natCast, Int.reduceToNat, iI_ofNat]; omega
    rw [if_pos hok, if_pos hok, iI_c (by omega) (by omega), Int.toNat_natCast, e, ea]
    by_cases r : a < 48
    · rw [if_pos (show iI a < 48 from by simp (disch := omega) only [iI_lit, iL_lit, iI_add, iI_sub, iI_mul, iI_neg, iL_add, iL_sub, iL_mul, iL_neg, iI_lt, iI_le, iI_eq, iL_lt, iL_le, iL_eqS, iI_c, iI_ok, iI_l, iL_i, iI_low, l_ushrI, l_shlI, l_shrI, i_shlI, i_shrI, i_ushrI, iI_div, iL_div, Int.toNat_natCast, Int.reduceToNat, iI_ofNat]; omega)]
      have : ¬ (48 ≤ (if 0 ≤ a then a else a + 256) ∧ (if 0 ≤ a then a else a + 256) ≤ 57) := by split <;> omega
      rw [if_neg this]; rfl
    · rw [if_neg (show ¬ iI a < 48 from by simp (disch := omega) only [iI_lit, iL_lit, iI_add, iI_sub, iI_mul, iI_neg, iL_add, iL_sub, iL_mul, iL_neg, iI_lt, iI_le, iI_eq, iL_lt, iL_le, iL_eqS, iI_c, iI_ok, iI_l, iL_i, iI_low, l_ushrI, l_shlI, l_shrI, i_shlI, i_shrI, i_ushrI, iI_div, iL_div, Int.toNat_natCast, Int.reduceToNat, iI_ofNat]; omega)]
      rw [if_pos (show 0 ≤ a by omega)]
      by_cases r2 : a ≤ 57
      · rw [if_neg (show ¬ (57 : Int32) < iI a from by simp (disch := omega) only [iI_lit, iL_lit, iI_add, iI_sub, iI_mul, iI_neg, iL_add, iL_sub, iL_mul, iL_neg, iI_lt, iI_le, iI_eq, iL_lt, iL_le, iL_eqS, iI_c, iI_ok, iI_l, iL_i, iI_low, l_ushrI, l_shlI, l_shrI, i_shlI, i_shrI, i_ushrI, iI_div, iL_div, Int.toNat_natCast, Int.reduceToNat, iI_ofNat]; omega), if_pos (show 48 ≤ a ∧ a ≤ 57 by omega)]; rfl
      · rw [if_pos (show (57 : Int32) < iI a from by simp (disch := omega) only [iI_lit, iL_lit, iI_add, iI_sub, iI_mul, iI_neg, iL_add, iL_sub, iL_mul, iL_neg, iI_lt, iI_le, iI_eq, iL_lt, iL_le, iL_eqS, iI_c, iI_ok, iI_l, iL_i, iI_low, l_ushrI, l_shlI, l_shrI, i_shlI, i_shrI, i_ushrI, iI_div, iL_div, Int.toNat_natCast, Int.reduceToNat, iI_ofNat]; omega), if_neg (show ¬ (48 ≤ a ∧ a ≤ 57) by omega)]; rfl
  · rw [if_pos (show iI (z : Int) ≤ iI i from by simp (disch := omega) only [iI_lit, iL_lit, iI_add, iI_sub, iI_mul, iI_neg, iL_add, iL_sub, iL_mul, iL_neg, iI_lt, iI_le, iI_eq, iL_lt, iL_le, iL_eqS, iI_c, iI_ok, iI_l, iL_i, iI_low, l_ushrI, l_shlI, l_shrI, i_shlI, i_shrI, i_ushrI, iI_div, iL_div, Int.toNat_natCast, Int.reduceToNat, iI_ofNat]; omega), if_neg q, if_neg (by omega)]; rfl
-- YG
set_option maxRecDepth 10000 in
def dRun (E : List Int32) (z : Nat) : Nat → Nat → Nat → Nat × Nat
  | 0, N, i => (N, i)
  | d + 1, N, i => if 48 ≤ hr E z i ∧ hr E z i ≤ 57 then dRun E z d (10 * N + (hr E z i - 48).toNat) (i + 1) else (N, i)
set_option maxRecDepth 10000 in
theorem dRun_b (E : List Int32) (z : Nat) : ∀ d N i, i ≤ (dRun E z d N i).2 ∧ (dRun E z d N i).2 ≤ i + d
  | 0, N, i => ⟨Nat.le_refl _, Nat.le_refl _⟩
  | d + 1, N, i => by
    have := dRun_b E z d (10 * N + (hr E z i - 48).toNat) (i + 1)
    unfold dRun
    split <;> omega
set_option maxRecDepth 10000 in
theorem nd_step0 {a d : Nat} (hd : d < 10) : nd (10 * a + d) ≤ nd a + 1 := by
  by_cases h : 0 < 10 * a + d
  · rw [nd_step hd h]; omega
  · have e : 10 * a + d = 0 := by omega
    rw [e, nd_zero]; omega
set_option maxRecDepth 10000 in
theorem dRun_nd (E : List Int32) (z : Nat) : ∀ d N i, nd (dRun E z d N i).1 + i ≤ nd N + (dRun E z d N i).2
  | 0, N, i => Nat.le_refl _
  | d + 1, N, i => by
    have := dRun_nd E z d (10 * N + (hr E z i - 48).toNat) (i + 1)
    unfold dRun
    split
    · have := nd_step0 (a := N) (d := (hr E z i - 48).toNat) (by omega)
      omega
    · exact Nat.le_refl _
set_option maxRecDepth 10000 in
theorem keepD_spec {x : Int} (h0 : 0 ≤ x) (h1 : x ≤ 9) {Nb c A : Int} {j : Nat} (hj : j ≤ 8) (hc0 : 0 ≤ c) (hc1 : c < 10 ^ j) {ns : Int32} {nc : Nat → Int32} (hB : BR ns nc Nb) (e : Nb * 10 ^ j + c = A) (hA : A * 10 + x < 2 ^ 3072) (k : Int) :
    ∃ Nb' c' j' ns' nc', f_Rd_keepDigit (iI x) (iI k) (iI c) (iI (10 ^ j)) ns nc = some (iI (k + 1), iI c', iI (10 ^ j'), ns', nc') ∧ j' ≤ 8 ∧ 0 ≤ c' ∧ c' < 10 ^ j' ∧ BR ns' nc' Nb' ∧ Nb' * 10 ^ j' + c' = A * 10 + x := by
  obtain ⟨j0, j1⟩ := j8 hj
  have ej : (10 : Int) ^ (j + 1) = 10 * 10 ^ j := by rw [Int.pow_succ, Int.mul_comm]
  unfold f_Rd_keepDigit f_Rd_keepChunk
  rw [show (10 : Int32) = iI 10 from rfl, show (1 : Int32) = iI 1 from rfl, iI_mul, iI_mul, iI_add, iI_add]
  rw [show (10 : Int) ^ j * 10 = 10 ^ (j + 1) by omega]
  by_cases q : j = 8
  · subst q
    rw [if_pos (show iI (10 ^ (8 + 1)) = 1000000000 from rfl)]
    obtain ⟨s1, c1, e1, g1⟩ := tp_spec (k := 10 ^ (8 + 1)) (a := c * 10 + x) hB (by decide) (by decide) (by omega) (by rw [show (10 : Int) ^ 8 = 100000000 from rfl] at hc1; omega) (by
      have : Nb * 10 ^ (8 + 1) + (c * 10 + x) = A * 10 + x := by rw [← e, ej]; grind
      rw [this]; exact hA)
    rw [e1, Option.bind_some]
    refine ⟨_, 0, 0, s1, c1, rfl, by omega, by omega, by decide, g1, ?_⟩
    rw [← e, ej]; grind
  · have hle : (10 : Int) ^ (j + 1) ≤ 100000000 := (j8 (show j + 1 ≤ 8 by omega)).2
    rw [if_neg (show ¬ iI (10 ^ (j + 1)) = 1000000000 from by simp (disch := omega) only [iI_lit, iL_lit, iI_add, iI_sub, iI_mul, iI_neg, iL_add, iL_sub, iL_mul, iL_neg, iI_lt, iI_le, iI_eq, iL_lt, iL_le, iL_eqS, iI_c, iI_ok, iI_l, iL_i, iI_low, l_ushrI, l_shlI, l_shrI, i_shlI, i_shrI, i_ushrI, iI_div, iL_div, Int.toNat_natCast, Int.reduceToNat, iI_ofNat]; omega)]
    refine ⟨Nb, c * 10 + x, j + 1, ns, nc, rfl, by omega, by omega, by omega, hB, ?_⟩
    rw [← e, ej]; grind
set_option maxRecDepth 10000 in
theorem cq_step {N x r : Nat} (hx : x < 10) : (10 * N + x) / 10 ^ (r + 1) = N / 10 ^ r ∧ (10 * N + x) % 10 ^ (r + 1) = 10 * (N % 10 ^ r) + x := by
  have hp : 0 < 10 ^ r := Nat.pow_pos (by decide)
  have e : 10 ^ (r + 1) = 10 * 10 ^ r := by rw [Nat.pow_succ, Nat.mul_comm]
  have h1 := Nat.div_add_mod N (10 ^ r)
  have h2 := Nat.mod_lt N hp
  have key : 10 * N + x = (10 * 10 ^ r) * (N / 10 ^ r) + (10 * (N % 10 ^ r) + x) := by
    have : 10 * N = 10 * (10 ^ r * (N / 10 ^ r) + N % 10 ^ r) := by rw [h1]
    rw [this, Nat.mul_add, Nat.mul_assoc]; omega
  rw [e]
  generalize N / 10 ^ r = a at *
  generalize N % 10 ^ r = b at *
  generalize 10 ^ r = P at *
  rw [key]
  constructor
  · rw [Nat.mul_add_div (by omega), Nat.div_eq_of_lt (by omega), Nat.add_zero]
  · rw [Nat.mul_add_mod, Nat.mod_eq_of_lt (by omega)]
set_option maxRecDepth 10000 in
theorem c800' {N : Nat} (h : nd N < 800) {x : Int} (h1 : x ≤ 9) : (N : Int) * 10 + x < 2 ^ 3072 := by
  have a1 : N < 10 ^ 799 := Nat.lt_of_lt_of_le (nd_lt N) (p10_mono (by omega))
  have a2 : (N : Int) < ((10 ^ 799 : Nat) : Int) := Int.ofNat_lt.mpr a1
  have a3 : ((10 ^ 799 : Nat) : Int) * 10 + 9 < 2 ^ 3072 := by decide +kernel
  generalize ((10 ^ 799 : Nat) : Int) = Z at *
  generalize (2 : Int) ^ 3072 = Y at *
  omega
set_option maxRecDepth 10000 in
theorem rd_step {n : Nat} (hn : n < 1000000) {len over : Int32} {c : Nat → Int32} {E : List Int32} (h : BY n len over c E) (hE : E.length ≤ n) {z i : Nat} (hz : z ≤ E.length) (hd : 48 ≤ hr E z i ∧ hr E z i ≤ 57) {N f bh : Nat} (hbh : bh ≤ 1) (hnd : nd N ≤ 100000) (hf : f ≤ 100000) {ke ch un ns lo po : Int32} {nc : Nat → Int32} (hR : RS N f ke ch un ns nc lo po) (m : Nat) (v2 : Int32) :
    ∃ ke' ch' un' ns' nc' lo' po', RS (10 * N + (hr E z i - 48).toNat) (f + bh) ke' ch' un' ns' nc' lo' po' ∧ f_Rd_readDigits_5 (m + 1) (iI bh) v2 n (iI i) (iI z) len c ke po ch un ns nc lo = f_Rd_readDigits_5 m (iI bh) v2 n (iI ((i + 1 : Nat) : Int)) (iI z) len c ke' po' ch' un' ns' nc' lo' := by
  have hi := hr_in (E := E) (z := z) (i := i) (by omega)
  have hhere := here_spec hn h hE hz (show i ≤ 1000000 by omega)
  obtain ⟨Nb, cc, j, rfl, rfl, rfl, hj, hc0, hc1, hB, eA, rfl, rfl⟩ := hR
  rw [f_Rd_readDigits_5, if_neg (show ¬ iI (z : Int) ≤ iI i from by simp (disch := omega) only [iI_lit, iL_lit, iI_add, iI_sub, iI_mul, iI_neg, iL_add, iL_sub, iL_mul, iL_neg, iI_lt, iI_le, iI_eq, iL_lt, iL_le, iL_eqS, iI_c, iI_ok, iI_l, iL_i, iI_low, l_ushrI, l_shlI, l_shrI, i_shlI, i_shrI, i_ushrI, iI_div, iL_div, Int.toNat_natCast, Int.reduceToNat, iI_ofNat]; omega), hhere, Option.bind_some, ntdig_spec (by omega) (by omega), Option.bind_some, if_pos hd, if_neg (show ¬ iI 1 = 0 from by decide), Option.bind_some]
  rw [show (48 : Int32) = iI 48 from rfl, iI_sub]
  obtain ⟨x, hx⟩ : ∃ x : Nat, hr E z i - 48 = (x : Int) := ⟨(hr E z i - 48).toNat, by omega⟩
  rw [hx, Int.toNat_natCast]
  have hx9 : x ≤ 9 := by omega
  have e147 : iI (i : Int) + 1 = iI ((i + 1 : Nat) : Int) := by rw [show (1 : Int32) = iI 1 from rfl, iI_add]; rfl
  have hb01 : bh = 0 ∨ bh = 1 := by omega
  unfold f_Rd_readDigits_49 f_Rd_readDigits_50 f_Rd_readDigits_71 f_Rd_readDigits_72 f_Rd_readDigits_96 f_Rd_readDigits_123 f_Rd_readDigits_110 f_Rd_readDigits_147
  rw [e147]
  -- a digit that counts
  have counts : 0 < 10 * N + x → nd N < 800 → ∃ ke' ch' un' ns' nc' lo' po', RS (10 * N + x) (f + bh) ke' ch' un' ns' nc' lo' po' ∧ ∃ u : Int32 × Int32 × Int32 × Int32 × (Nat → Int32), f_Rd_keepDigit (iI x) (iI ((min (nd N) 800 : Nat) : Int)) (iI cc) (iI (10 ^ j)) ns nc = some u ∧ u = (ke', ch', un', ns', nc') ∧ lo' = iI (if N % 10 ^ (nd N - 800) = 0 then 0 else 1) ∧ po' = iI (((nd N - 800 : Nat) : Int) - f - bh) := by
    intro hp hk
    have hr0 : nd N - 800 = 0 := by omega
    have eN : N / 10 ^ (nd N - 800) = N := by rw [hr0, Nat.pow_zero, Nat.div_one]
    rw [eN] at eA
    obtain ⟨Nb', c', j', ns', nc', e1, j1, j2, j3, j4, j5⟩ := keepD_spec (x := x) (by omega) (by omega) hj hc0 hc1 hB eA (c800' hk (by omega)) ((min (nd N) 800 : Nat) : Int)
    have hnd' := nd_step (a := N) (d := x) (by omega) hp
    refine ⟨_, _, _, ns', nc', _, _, ⟨Nb', c', j', rfl, rfl, rfl, j1, j2, j3, j4, ?_, rfl, rfl⟩, _, e1, ?_, ?_, ?_⟩
    · rw [j5, hnd', show nd N + 1 - 800 = 0 by omega, Nat.pow_zero, Nat.div_one]; omega
    · rw [show ((min (nd N) 800 : Nat) : Int) + 1 = ((min (nd (10 * N + x)) 800 : Nat) : Int) by rw [hnd']; omega]
    · rw [hnd', hr0, show nd N + 1 - 800 = 0 by omega, Nat.pow_zero, Nat.mod_one, Nat.mod_one]
    · rw [hnd', hr0, show nd N + 1 - 800 = 0 by omega]; congr 1; omega
  by_cases q0 : nd N = 0
  · have hN0 : N = 0 := by
      rcases Nat.eq_zero_or_pos N with r | r
      · exact r
      · have := nd_pos r; omega
    rw [if_pos (show iI ((min (nd N) 800 : Nat) : Int) = 0 from by rw [q0]; rfl)]
    by_cases qx : x = 0
    · subst qx
      rw [if_pos (show iI ((0 : Nat) : Int) = 0 from rfl)]
      rw [if_neg (show ¬ (1 : Int32) = 0 from by decide), if_pos rfl, if_pos (show iI ((0 : Nat) : Int) = 0 from rfl)]
      subst hN0
      rcases hb01 with rfl | rfl
      · rw [if_pos (show iI ((0 : Nat) : Int) = 0 from rfl), if_pos (show iI ((0 : Nat) : Int) = 0 from rfl), if_pos rfl, if_neg (show ¬ (1 : Int32) = 0 from by decide)]
        exact ⟨_, _, _, _, _, _, _, ⟨Nb, cc, j, rfl, rfl, rfl, hj, hc0, hc1, hB, eA, rfl, rfl⟩, rfl⟩
      · rw [if_neg (show ¬ iI ((1 : Nat) : Int) = 0 from by decide), if_pos rfl, if_neg (show ¬ (1 : Int32) = 0 from by decide), show (1 : Int32) = iI 1 from rfl, iI_sub]
        refine ⟨_, _, _, _, _, _, _, ⟨Nb, cc, j, rfl, rfl, rfl, hj, hc0, hc1, hB, eA, rfl, ?_⟩, rfl⟩
        congr 1
        show ((nd 0 - 800 : Nat) : Int) - f - 1 = ((nd (10 * 0 + 0) - 800 : Nat) : Int) - (f + 1 : Nat)
        rw [nd_zero]; omega
    · rw [if_neg (show ¬ iI (x : Int) = 0 from by simp (disch := omega) only [iI_lit, iL_lit, iI_add, iI_sub, iI_mul, iI_neg, iL_add, iL_sub, iL_mul, iL_neg, iI_lt, iI_le, iI_eq, iL_lt, iL_le, iL_eqS, iI_c, iI_ok, iI_l, iL_i, iI_low, l_ushrI, l_shlI, l_shrI, i_shlI, i_shrI, i_ushrI, iI_div, iL_div, Int.toNat_natCast, Int.reduceToNat, iI_ofNat]; omega), if_pos rfl, if_neg (show ¬ (800 : Int32) ≤ iI ((min (nd N) 800 : Nat) : Int) from by simp (disch := omega) only [iI_lit, iL_lit, iI_add, iI_sub, iI_mul, iI_neg, iL_add, iL_sub, iL_mul, iL_neg, iI_lt, iI_le, iI_eq, iL_lt, iL_le, iL_eqS, iI_c, iI_ok, iI_l, iL_i, iI_low, l_ushrI, l_shlI, l_shrI, i_shlI, i_shrI, i_ushrI, iI_div, iL_div, Int.toNat_natCast, Int.reduceToNat, iI_ofNat]; omega), if_neg (show ¬ (1 : Int32) = 0 from by decide)]
      obtain ⟨ke', ch', un', ns', nc', lo', po', r1, u, r2, r3, r4, r5⟩ := counts (by omega) (by omega)
      rw [r2, Option.bind_some, r3]
      refine ⟨ke', ch', un', ns', nc', lo', po', r1, ?_⟩
      rw [r4, r5]
      rcases hb01 with rfl | rfl
      · rw [if_pos (show iI ((0 : Nat) : Int) = 0 from rfl), if_pos (show iI ((0 : Nat) : Int) = 0 from rfl), if_neg (show ¬ (1 : Int32) = 0 from by decide)]
        simp
      · rw [if_neg (show ¬ iI ((1 : Nat) : Int) = 0 from by decide), if_neg (show ¬ (1 : Int32) = 0 from by decide), show (1 : Int32) = iI 1 from rfl, iI_sub]
        rfl
  · rw [if_neg (show ¬ iI ((min (nd N) 800 : Nat) : Int) = 0 from by simp (disch := omega) only [iI_lit, iL_lit, iI_add, iI_sub, iI_mul, iI_neg, iL_add, iL_sub, iL_mul, iL_neg, iI_lt, iI_le, iI_eq, iL_lt, iL_le, iL_eqS, iI_c, iI_ok, iI_l, iL_i, iI_low, l_ushrI, l_shlI, l_shrI, i_shlI, i_shrI, i_ushrI, iI_div, iL_div, Int.toNat_natCast, Int.reduceToNat, iI_ofNat]; omega), if_pos rfl]
    have hN0 : 0 < N := by
      rcases Nat.eq_zero_or_pos N with r | r
      · subst r; rw [nd_zero] at q0; exact absurd rfl q0
      · exact r
    by_cases q8 : nd N < 800
    · rw [if_neg (show ¬ (800 : Int32) ≤ iI ((min (nd N) 800 : Nat) : Int) from by simp (disch := omega) only [iI_lit, iL_lit, iI_add, iI_sub, iI_mul, iI_neg, iL_add, iL_sub, iL_mul, iL_neg, iI_lt, iI_le, iI_eq, iL_lt, iL_le, iL_eqS, iI_c, iI_ok, iI_l, iL_i, iI_low, l_ushrI, l_shlI, l_shrI, i_shlI, i_shrI, i_ushrI, iI_div, iL_div, Int.toNat_natCast, Int.reduceToNat, iI_ofNat]; omega), if_neg (show ¬ (1 : Int32) = 0 from by decide)]
      obtain ⟨ke', ch', un', ns', nc', lo', po', r1, u, r2, r3, r4, r5⟩ := counts (by omega) q8
      rw [r2, Option.bind_some, r3]
      refine ⟨ke', ch', un', ns', nc', lo', po', r1, ?_⟩
      rw [r4, r5]
      rcases hb01 with rfl | rfl
      · rw [if_pos (show iI ((0 : Nat) : Int) = 0 from rfl), if_pos (show iI ((0 : Nat) : Int) = 0 from rfl), if_neg (show ¬ (1 : Int32) = 0 from by decide)]
        simp
      · rw [if_neg (show ¬ iI ((1 : Nat) : Int) = 0 from by decide), if_neg (show ¬ (1 : Int32) = 0 from by decide), show (1 : Int32) = iI 1 from rfl, iI_sub]
        rfl
    · rw [if_pos (show (800 : Int32) ≤ iI ((min (nd N) 800 : Nat) : Int) from by simp (disch := omega) only [iI_lit, iL_lit, iI_add, iI_sub, iI_mul, iI_neg, iL_add, iL_sub, iL_mul, iL_neg, iI_lt, iI_le, iI_eq, iL_lt, iL_le, iL_eqS, iI_c, iI_ok, iI_l, iL_i, iI_low, l_ushrI, l_shlI, l_shrI, i_shlI, i_shrI, i_ushrI, iI_div, iL_div, Int.toNat_natCast, Int.reduceToNat, iI_ofNat]; omega), if_pos rfl]
      have hnd' := nd_step (a := N) (d := x) (by omega) (by omega)
      obtain ⟨d1, d2⟩ := cq_step (N := N) (r := nd N - 800) (show x < 10 by omega)
      have er : nd (10 * N + x) - 800 = nd N - 800 + 1 := by rw [hnd']; omega
      have fin : ∀ lo', lo' = iI (if 10 * (N % 10 ^ (nd N - 800)) + x = 0 then 0 else 1) → RS (10 * N + x) (f + bh) (iI ((min (nd N) 800 : Nat) : Int)) (iI cc) (iI (10 ^ j)) ns nc lo' (iI (((nd N - 800 : Nat) : Int) - f + 1 - bh)) := by
        intro lo' hl
        refine ⟨Nb, cc, j, ?_, rfl, rfl, hj, hc0, hc1, hB, ?_, ?_, ?_⟩
        · congr 2; rw [hnd']; omega
        · rw [er, d1, eA]
        · rw [er, d2, hl]
        · rw [er]; congr 1; omega
      by_cases qx : x = 0
      · subst qx
        rw [if_pos (show iI ((0 : Nat) : Int) = 0 from rfl)]
        have f1 := fin (iI (if N % 10 ^ (nd N - 800) = 0 then 0 else 1)) (by by_cases w : N % 10 ^ (nd N - 800) = 0; rw [if_pos w, if_pos (by omega)]; rw [if_neg w, if_neg (by omega)])
        rcases hb01 with rfl | rfl
        · rw [if_pos (show iI ((0 : Nat) : Int) = 0 from rfl), if_pos (show iI ((0 : Nat) : Int) = 0 from rfl), if_pos rfl, if_pos rfl, show (1 : Int32) = iI 1 from rfl, iI_add]
          refine ⟨_, _, _, _, _, _, _, f1, ?_⟩
          simp
        · rw [if_neg (show ¬ iI ((1 : Nat) : Int) = 0 from by decide), if_pos rfl, if_pos rfl, if_neg (show ¬ iI ((1 : Nat) : Int) = 0 from by decide)]
          refine ⟨_, _, _, _, _, _, _, f1, ?_⟩
          rw [show ((nd N - 800 : Nat) : Int) - f + 1 - ((1 : Nat) : Int) = ((nd N - 800 : Nat) : Int) - f by omega]
      · rw [if_neg (show ¬ iI (x : Int) = 0 from by simp (disch := omega) only [iI_lit, iL_lit, iI_add, iI_sub, iI_mul, iI_neg, iL_add, iL_sub, iL_mul, iL_neg, iI_lt, iI_le, iI_eq, iL_lt, iL_le, iL_eqS, iI_c, iI_ok, iI_l, iL_i, iI_low, l_ushrI, l_shlI, l_shrI, i_shlI, i_shrI, i_ushrI, iI_div, iL_div, Int.toNat_natCast, Int.reduceToNat, iI_ofNat]; omega)]
        have f1 := fin (iI 1) (by rw [if_neg (by omega)])
        rcases hb01 with rfl | rfl
        · rw [if_pos (show iI ((0 : Nat) : Int) = 0 from rfl), if_pos (show iI ((0 : Nat) : Int) = 0 from rfl), if_pos rfl, if_pos rfl, show (1 : Int32) = iI 1 from rfl, iI_add]
          refine ⟨_, _, _, _, _, _, _, f1, ?_⟩
          simp
        · rw [if_neg (show ¬ iI ((1 : Nat) : Int) = 0 from by decide), if_pos rfl, if_pos rfl, if_neg (show ¬ iI ((1 : Nat) : Int) = 0 from by decide)]
          refine ⟨_, _, _, _, _, _, _, f1, ?_⟩
          rw [show ((nd N - 800 : Nat) : Int) - f + 1 - ((1 : Nat) : Int) = ((nd N - 800 : Nat) : Int) - f by omega]
          rfl
-- YH
set_option maxRecDepth 10000 in
theorem rd_loop {n : Nat} (hn : n < 90000) {len over : Int32} {c : Nat → Int32} {E : List Int32} (h : BY n len over c E) (hE : E.length ≤ n) {z : Nat} (hz : z ≤ E.length) {bh : Nat} (hbh : bh ≤ 1) (fr : Int) :
    ∀ (d i m N f : Nat) (ke ch un ns lo po : Int32) (nc : Nat → Int32), i + d = z → d < m → nd N ≤ i → f ≤ i → RS N f ke ch un ns nc lo po →
    ∃ ke' ch' un' ns' nc' lo' po', RS (dRun E z d N i).1 (f + bh * ((dRun E z d N i).2 - i)) ke' ch' un' ns' nc' lo' po' ∧ f_Rd_readDigits_5 m (iI bh) (iI fr) n (iI i) (iI z) len c ke po ch un ns nc lo = some (iI (((dRun E z d N i).2 : Int) - fr), iI (dRun E z d N i).2, ke', po', ch', un', ns', nc', lo')
  | 0, i, m + 1, N, f, ke, ch, un, ns, lo, po, nc, hi, hm, hnd, hf, hR => by
    rw [f_Rd_readDigits_5, if_pos (show iI (z : Int) ≤ iI i from by simp (disch := omega) only [iI_lit, iL_lit, iI_add, iI_sub, iI_mul, iI_neg, iL_add, iL_sub, iL_mul, iL_neg, iI_lt, iI_le, iI_eq, iL_lt, iL_le, iL_eqS, iI_c, iI_ok, iI_l, iL_i, iI_low, l_ushrI, l_shlI, l_shrI, i_shlI, i_shrI, i_ushrI, iI_div, iL_div, Int.toNat_natCast, Int.reduceToNat, iI_ofNat]; omega)]
    unfold f_Rd_readDigits_160
    rw [iI_sub]
    refine ⟨ke, ch, un, ns, nc, lo, po, ?_, rfl⟩
    show RS N (f + bh * (i - i)) ke ch un ns nc lo po
    rw [Nat.sub_self, Nat.mul_zero, Nat.add_zero]
    exact hR
  | d + 1, i, m + 1, N, f, ke, ch, un, ns, lo, po, nc, hi, hm, hnd, hf, hR => by
    by_cases q : 48 ≤ hr E z i ∧ hr E z i ≤ 57
    · obtain ⟨ke1, ch1, un1, ns1, nc1, lo1, po1, hR1, e1⟩ := rd_step (by omega) h hE hz q hbh (by omega) (by omega) hR m (iI fr)
      have hnd1 := nd_step0 (a := N) (d := (hr E z i - 48).toNat) (by omega)
      obtain ⟨ke2, ch2, un2, ns2, nc2, lo2, po2, hR2, e2⟩ := rd_loop hn h hE hz hbh fr d (i + 1) m _ _ ke1 ch1 un1 ns1 lo1 po1 nc1 (by omega) (by omega) (by omega) (by omega) hR1
      have eD : dRun E z (d + 1) N i = dRun E z d (10 * N + (hr E z i - 48).toNat) (i + 1) := by
        show (if 48 ≤ hr E z i ∧ hr E z i ≤ 57 then _ else _) = _
        rw [if_pos q]
      rw [eD]
      have hb := dRun_b E z d (10 * N + (hr E z i - 48).toNat) (i + 1)
      generalize dRun E z d (10 * N + (hr E z i - 48).toNat) (i + 1) = R at *
      refine ⟨ke2, ch2, un2, ns2, nc2, lo2, po2, ?_, by rw [e1, e2]⟩
      rw [show f + bh * (R.2 - i) = f + bh + bh * (R.2 - (i + 1)) by
        rw [show R.2 - i = (R.2 - (i + 1)) + 1 by omega, Nat.mul_add]; omega]
      exact hR2
    · have eD : dRun E z (d + 1) N i = (N, i) := by
        show (if 48 ≤ hr E z i ∧ hr E z i ≤ 57 then _ else _) = _
        rw [if_neg q]
      have hb := hr_b E z i
      rw [eD, f_Rd_readDigits_5, if_neg (show ¬ iI (z : Int) ≤ iI i from by simp (disch := omega) only [iI_lit, iL_lit, iI_add, iI_sub, iI_mul, iI_neg, iL_add, iL_sub, iL_mul, iL_neg, iI_lt, iI_le, iI_eq, iL_lt, iL_le, iL_eqS, iI_c, iI_ok, iI_l, iL_i, iI_low, l_ushrI, l_shlI, l_shrI, i_shlI, i_shrI, i_ushrI, iI_div, iL_div, Int.toNat_natCast, Int.reduceToNat, iI_ofNat]; omega), here_spec (by omega) h hE hz (by omega), Option.bind_some, ntdig_spec (by omega) (by omega), Option.bind_some, if_neg q, if_pos (show iI 0 = 0 from rfl)]
      unfold f_Rd_readDigits_160
      rw [iI_sub]
      refine ⟨ke, ch, un, ns, nc, lo, po, ?_, rfl⟩
      show RS N (f + bh * (i - i)) ke ch un ns nc lo po
      rw [Nat.sub_self, Nat.mul_zero, Nat.add_zero]
      exact hR
set_option maxRecDepth 10000 in
theorem readDigits_spec {n : Nat} (hn : n < 90000) {len over : Int32} {c : Nat → Int32} {E : List Int32} (h : BY n len over c E) (hE : E.length ≤ n) {z : Nat} (hz : z ≤ E.length) {bh : Nat} (hbh : bh ≤ 1) {i N f : Nat} (hi : i ≤ z) (hnd : nd N ≤ i) (hf : f ≤ i) {ke ch un ns lo po : Int32} {nc : Nat → Int32} (hR : RS N f ke ch un ns nc lo po) :
    ∃ ke' ch' un' ns' nc' lo' po', RS (dRun E z (z - i) N i).1 (f + bh * ((dRun E z (z - i) N i).2 - i)) ke' ch' un' ns' nc' lo' po' ∧ f_Rd_readDigits (iI bh) n (iI i) (iI z) len c ke po ch un ns nc lo = some (iI (((dRun E z (z - i) N i).2 : Int) - i), iI (dRun E z (z - i) N i).2, ke', po', ch', un', ns', nc', lo') :=
  rd_loop hn h hE hz hbh i (z - i) i gx_fu N f ke ch un ns lo po nc (by omega) (by have := fu_pos; omega) hnd hf hR
-- YI
set_option maxRecDepth 10000 in
def eRun (E : List Int32) (z : Nat) (L : Int) : Nat → Int → Nat → Int × Nat
  | 0, e, i => (e, i)
  | d + 1, e, i => if 48 ≤ hr E z i ∧ hr E z i ≤ 57 then eRun E z L d (if L ≤ e then e else 10 * e + (hr E z i - 48)) (i + 1) else (e, i)
set_option maxRecDepth 10000 in
theorem eRun_b (E : List Int32) (z : Nat) (L : Int) : ∀ d e i, i ≤ (eRun E z L d e i).2 ∧ (eRun E z L d e i).2 ≤ i + d
  | 0, e, i => ⟨Nat.le_refl _, Nat.le_refl _⟩
  | d + 1, e, i => by
    have := eRun_b E z L d (if L ≤ e then e else 10 * e + (hr E z i - 48)) (i + 1)
    unfold eRun
    split <;> omega
set_option maxRecDepth 10000 in
def eRel (a b : Int) : Prop := (a = b ∧ 0 ≤ a ∧ a < 100000000) ∨ (10000000 ≤ b ∧ b < 100000000 ∧ 10000000 ≤ a ∧ a < 1000000000)
set_option maxRecDepth 10000 in
theorem eRun_rel (E : List Int32) (z : Nat) : ∀ d a b i, eRel a b → (eRun E z 100000000 d a i).2 = (eRun E z 10000000 d b i).2 ∧ eRel (eRun E z 100000000 d a i).1 (eRun E z 10000000 d b i).1
  | 0, a, b, i, h => ⟨rfl, h⟩
  | d + 1, a, b, i, h => by
    unfold eRun
    by_cases q : 48 ≤ hr E z i ∧ hr E z i ≤ 57
    · rw [if_pos q, if_pos q]
      apply eRun_rel E z d
      unfold eRel at h ⊢
      split <;> split <;> omega
    · rw [if_neg q, if_neg q]
      exact ⟨rfl, h⟩
set_option maxRecDepth 10000 in
theorem re45 {n : Nat} (hn : n < 90000) {len over : Int32} {c : Nat → Int32} {E : List Int32} (h : BY n len over c E) (hE : E.length ≤ n) {z : Nat} (hz : z ≤ E.length) (v1 v2 : Int32) :
    ∀ (d i m : Nat) (e : Int), i + d = z → d < m → 0 ≤ e → e < 1000000000 → f_Rd_readExponent_45 m v1 v2 n (iI i) (iI z) len c (iI e) = f_Rd_readExponent_107 v1 v2 n (iI (eRun E z 100000000 d e i).2) (iI z) len c (iI (eRun E z 100000000 d e i).1) ∧ 0 ≤ (eRun E z 100000000 d e i).1 ∧ (eRun E z 100000000 d e i).1 < 1000000000
  | 0, i, m + 1, e, hi, hm, he0, he1 => by
    rw [f_Rd_readExponent_45, if_pos (show iI (z : Int) ≤ iI i from by simp (disch := omega) only [iI_lit, iL_lit, iI_add, iI_sub, iI_mul, iI_neg, iL_add, iL_sub, iL_mul, iL_neg, iI_lt, iI_le, iI_eq, iL_lt, iL_le, iL_eqS, iI_c, iI_ok, iI_l, iL_i, iI_low, l_ushrI, l_shlI, l_shrI, i_shlI, i_shrI, i_ushrI, iI_div, iL_div, Int.toNat_natCast, Int.reduceToNat, iI_ofNat]; omega)]
    exact ⟨rfl, he0, he1⟩
  | d + 1, i, m + 1, e, hi, hm, he0, he1 => by
    have hb := hr_b E z i
    rw [f_Rd_readExponent_45, if_neg (show ¬ iI (z : Int) ≤ iI i from by simp (disch := omega) only [iI_lit, iL_lit, iI_add, iI_sub, iI_mul, iI_neg, iL_add, iL_sub, iL_mul, iL_neg, iI_lt, iI_le, iI_eq, iL_lt, iL_le, iL_eqS, iI_c, iI_ok, iI_l, iL_i, iI_low, l_ushrI, l_shlI, l_shrI, i_shlI, i_shrI, i_ushrI, iI_div, iL_div, Int.toNat_natCast, Int.reduceToNat, iI_ofNat]; omega), here_spec (by omega) h hE hz (by omega), Option.bind_some, ntdig_spec (by omega) (by omega), Option.bind_some]
    unfold eRun
    by_cases q : 48 ≤ hr E z i ∧ hr E z i ≤ 57
    · rw [if_pos q, if_pos q, if_neg (show ¬ iI 1 = 0 from by decide), Option.bind_some]
      unfold f_Rd_readExponent_94
      have e1 : iI (i : Int) + 1 = iI ((i + 1 : Nat) : Int) := by rw [show (1 : Int32) = iI 1 from rfl, iI_add]; rfl
      by_cases r : 100000000 ≤ e
      · rw [if_pos (show (100000000 : Int32) ≤ iI e from by simp (disch := omega) only [iI_lit, iL_lit, iI_add, iI_sub, iI_mul, iI_neg, iL_add, iL_sub, iL_mul, iL_neg, iI_lt, iI_le, iI_eq, iL_lt, iL_le, iL_eqS, iI_c, iI_ok, iI_l, iL_i, iI_low, l_ushrI, l_shlI, l_shrI, i_shlI, i_shrI, i_ushrI, iI_div, iL_div, Int.toNat_natCast, Int.reduceToNat, iI_ofNat]; omega), e1, if_pos r]
        exact re45 hn h hE hz v1 v2 d (i + 1) m e (by omega) (by omega) he0 he1
      · rw [if_neg (show ¬ (100000000 : Int32) ≤ iI e from by simp (disch := omega) only [iI_lit, iL_lit, iI_add, iI_sub, iI_mul, iI_neg, iL_add, iL_sub, iL_mul, iL_neg, iI_lt, iI_le, iI_eq, iL_lt, iL_le, iL_eqS, iI_c, iI_ok, iI_l, iL_i, iI_low, l_ushrI, l_shlI, l_shrI, i_shlI, i_shrI, i_ushrI, iI_div, iL_div, Int.toNat_natCast, Int.reduceToNat, iI_ofNat]; omega), e1, if_neg r]
        rw [show (10 : Int32) = iI 10 from rfl, show (48 : Int32) = iI 48 from rfl, iI_mul, iI_add, iI_sub, show e * 10 + hr E z i - 48 = 10 * e + (hr E z i - 48) by omega]
        exact re45 hn h hE hz v1 v2 d (i + 1) m _ (by omega) (by omega) (by omega) (by omega)
    · rw [if_neg q, if_neg q, if_pos (show iI 0 = 0 from rfl)]
      exact ⟨rfl, he0, he1⟩
set_option maxRecDepth 10000 in
def xBeg (E : List Int32) (z i : Nat) : Nat := if hr E z i = 45 ∨ hr E z i = 43 then i + 1 else i
set_option maxRecDepth 10000 in
def xEnd (E : List Int32) (z i : Nat) : Nat := (eRun E z 100000000 (z - xBeg E z i) 0 (xBeg E z i)).2
set_option maxRecDepth 10000 in
def xC (E : List Int32) (z i : Nat) : Int := if hr E z i = 45 then -(eRun E z 100000000 (z - xBeg E z i) 0 (xBeg E z i)).1 else (eRun E z 100000000 (z - xBeg E z i) 0 (xBeg E z i)).1
set_option maxRecDepth 10000 in
def xM (E : List Int32) (z i : Nat) : Int := if hr E z i = 45 then -(eRun E z 10000000 (z - xBeg E z i) 0 (xBeg E z i)).1 else (eRun E z 10000000 (z - xBeg E z i) 0 (xBeg E z i)).1
set_option maxRecDepth 10000 in
theorem xBeg_b {E : List Int32} {z i : Nat} (h : i ≤ z) : i ≤ xBeg E z i ∧ xBeg E z i ≤ z := by
  unfold xBeg
  split
  · have := hr_in (E := E) (z := z) (i := i) (by omega); omega
  · omega
set_option maxRecDepth 10000 in
theorem xEnd_b {E : List Int32} {z i : Nat} (h : i ≤ z) : xBeg E z i ≤ xEnd E z i ∧ xEnd E z i ≤ z := by
  have := xBeg_b (E := E) h
  have := eRun_b E z 100000000 (z - xBeg E z i) 0 (xBeg E z i)
  unfold xEnd
  omega
set_option maxRecDepth 10000 in
theorem x_rel (E : List Int32) (z i : Nat) : xEnd E z i = (eRun E z 10000000 (z - xBeg E z i) 0 (xBeg E z i)).2 ∧ -1000000000 < xC E z i ∧ xC E z i < 1000000000 ∧ -100000000 < xM E z i ∧ xM E z i < 100000000 ∧ (xC E z i = xM E z i ∨ (10000000 ≤ xC E z i ∧ 10000000 ≤ xM E z i) ∨ (xC E z i ≤ -10000000 ∧ xM E z i ≤ -10000000)) := by
  obtain ⟨a, b⟩ := eRun_rel E z (z - xBeg E z i) 0 0 (xBeg E z i) (Or.inl ⟨rfl, by omega, by omega⟩)
  unfold xEnd xC xM eRel at *
  refine ⟨a, ?_⟩
  split <;> omega
set_option maxRecDepth 10000 in
theorem readExponent_spec {n : Nat} (hn : n < 90000) {len over : Int32} {c : Nat → Int32} {E : List Int32} (h : BY n len over c E) (hE : E.length ≤ n) {z i : Nat} (hz : z ≤ E.length) (hi : i < z) :
    f_Rd_readExponent n (iI i) (iI z) len c (iI 0) = some (iI (if xBeg E z (i + 1) < xEnd E z (i + 1) then 1 else 0), iI (xEnd E z (i + 1)), iI (xC E z (i + 1))) := by
  have e1 : iI (i : Int) + 1 = iI ((i + 1 : Nat) : Int) := by rw [show (1 : Int32) = iI 1 from rfl, iI_add]; rfl
  have e2 : iI ((i + 1 : Nat) : Int) + 1 = iI ((i + 1 + 1 : Nat) : Int) := by rw [show (1 : Int32) = iI 1 from rfl, iI_add]; rfl
  have hx := xBeg_b (E := E) (show i + 1 ≤ z by omega)
  have hy := xEnd_b (E := E) (show i + 1 ≤ z by omega)
  have key : ∀ v1 : Int, (v1 = if hr E z (i + 1) = 45 then 1 else 0) → f_Rd_readExponent_40 (iI v1) n (iI (xBeg E z (i + 1))) (iI z) len c (iI 0) = some (iI (if xBeg E z (i + 1) < xEnd E z (i + 1) then 1 else 0), iI (xEnd E z (i + 1)), iI (xC E z (i + 1))) := by
    intro v1 hv
    unfold f_Rd_readExponent_40
    obtain ⟨a, b, d⟩ := re45 hn h hE hz (iI v1) (iI (xBeg E z (i + 1))) (z - xBeg E z (i + 1)) (xBeg E z (i + 1)) gx_fu 0 (by omega) (by have := fu_pos; omega) (by omega) (by omega)
    rw [a]
    unfold f_Rd_readExponent_107 f_Rd_readExponent_120
    have fin : ∀ x : Int32, (if iI (xEnd E z (i + 1) : Int) ≤ iI (xBeg E z (i + 1) : Int) then some ((0 : Int32), iI (xEnd E z (i + 1) : Int), x) else some ((1 : Int32), iI (xEnd E z (i + 1) : Int), x)) = some (iI (if xBeg E z (i + 1) < xEnd E z (i + 1) then 1 else 0), iI (xEnd E z (i + 1)), x) := by
      intro x
      by_cases q : xBeg E z (i + 1) < xEnd E z (i + 1)
      · rw [if_pos q, if_neg (show ¬ iI (xEnd E z (i + 1) : Int) ≤ iI (xBeg E z (i + 1) : Int) from by simp (disch := omega) only [iI_lit, iL_lit, iI_add, iI_sub, iI_mul, iI_neg, iL_add, iL_sub, iL_mul, iL_neg, iI_lt, iI_le, iI_eq, iL_lt, iL_le, iL_eqS, iI_c, iI_ok, iI_l, iL_i, iI_low, l_ushrI, l_shlI, l_shrI, i_shlI, i_shrI, i_ushrI, iI_div, iL_div, Int.toNat_natCast, Int.reduceToNat, iI_ofNat]; omega)]; rfl
      · rw [if_neg q, if_pos (show iI (xEnd E z (i + 1) : Int) ≤ iI (xBeg E z (i + 1) : Int) from by simp (disch := omega) only [iI_lit, iL_lit, iI_add, iI_sub, iI_mul, iI_neg, iL_add, iL_sub, iL_mul, iL_neg, iI_lt, iI_le, iI_eq, iL_lt, iL_le, iL_eqS, iI_c, iI_ok, iI_l, iL_i, iI_low, l_ushrI, l_shlI, l_shrI, i_shlI, i_shrI, i_ushrI, iI_div, iL_div, Int.toNat_natCast, Int.reduceToNat, iI_ofNat]; omega)]; rfl
    by_cases q : hr E z (i + 1) = 45
    · rw [if_pos q] at hv
      subst hv
      rw [if_neg (show ¬ iI 1 = 0 from by decide), iI_neg]
      have : xC E z (i + 1) = -(eRun E z 100000000 (z - xBeg E z (i + 1)) 0 (xBeg E z (i + 1))).1 := if_pos q
      rw [this]
      exact fin _
    · rw [if_neg q] at hv
      subst hv
      rw [if_pos (show iI 0 = 0 from rfl)]
      have : xC E z (i + 1) = (eRun E z 100000000 (z - xBeg E z (i + 1)) 0 (xBeg E z (i + 1))).1 := if_neg q
      rw [this]
      exact fin _
  unfold f_Rd_readExponent f_Rd_readExponent_30
  rw [e1, e2, show (45 : Int32) = iI 45 from rfl, show (43 : Int32) = iI 43 from rfl, sees_spec (by omega) h hE hz (by omega) (by omega) (by omega), Option.bind_some, sees_spec (by omega) h hE hz (by omega) (by omega) (by omega), Option.bind_some]
  by_cases q : hr E z (i + 1) = 45
  · have hb : xBeg E z (i + 1) = i + 1 + 1 := if_pos (Or.inl q)
    have k := key 1 (by rw [if_pos q])
    rw [hb] at k ⊢
    rw [if_pos q, if_neg (show ¬ iI 1 = 0 from by decide)]
    exact k
  · rw [if_neg q, if_pos (show iI 0 = 0 from rfl)]
    by_cases r : hr E z (i + 1) = 43
    · have hb : xBeg E z (i + 1) = i + 1 + 1 := if_pos (Or.inr r)
      have k := key 0 (by rw [if_neg q])
      rw [hb] at k ⊢
      rw [if_pos r, if_neg (show ¬ iI 1 = 0 from by decide)]
      exact k
    · have hb : xBeg E z (i + 1) = i + 1 := if_neg (by omega)
      have k := key 0 (by rw [if_neg q])
      rw [hb] at k ⊢
      rw [if_neg r, if_pos (show iI 0 = 0 from rfl)]
      exact k
