-- ZY
set_option maxRecDepth 10000 in
theorem rvK_N {K N t an : Nat} {p : Int} (hN : 0 < N) (ht : isStrip (digF N) t) (hp : -600 ≤ p) (hn : nd N ≤ an) (hK : an + 700 ≤ K) : rvK K (digF N) t p = (N : Int) * 10 ^ (p - nd N + K).toNat := by
  have htn := strip_le ht
  have e := rvK_ext (K := K) (L := t) ht.1 (p := p) (nd N - t) (by omega)
  rw [show t + (nd N - t) = nd N by omega] at e
  rw [← e]
  unfold rvK
  rw [pre_digF hN, if_pos (Nat.le_refl _), Nat.sub_self, Nat.pow_zero, Nat.div_one]
set_option maxRecDepth 10000 in
theorem mant_K {K : Nat} {C q : Int} (hq : -1500 ≤ q) (hK : 2000 ≤ K) : mantI C q * 10 ^ (min q 0 + K).toNat = C * (2 ^ (q + K).toNat * 5 ^ K) := by
  unfold mantI
  rw [p10_25]
  by_cases h : 0 ≤ q
  · rw [if_pos h, show (min q 0 + K).toNat = K by omega, show (q + K).toNat = q.toNat + K by omega, Int.pow_add]
    generalize (2 : Int) ^ q.toNat = a
    generalize (2 : Int) ^ K = b
    generalize (5 : Int) ^ K = c
    grind
  · rw [if_neg h, show (min q 0 + K).toNat = (q + K).toNat by omega]
    have e : (5 : Int) ^ K = 5 ^ (-q).toNat * 5 ^ (q + K).toNat := by rw [← Int.pow_add]; congr 1; omega
    rw [e]
    generalize (5 : Int) ^ (-q).toNat = a
    generalize (2 : Int) ^ (q + K).toNat = b
    generalize (5 : Int) ^ (q + K).toNat = c
    grind
set_option maxRecDepth 10000 in
theorem rowcmp {K N t an : Nat} {p C q : Int} (hN : 0 < N) (ht : isStrip (digF N) t) (hp0 : -400 ≤ p) (hp1 : p ≤ 400) (hC0 : 0 < C) (hC1 : C < 72057594037927936) (hq0 : -1080 ≤ q) (hq1 : q ≤ 980) (hn : nd N ≤ an) (han : an ≤ 99999) (hK : an + 2000 ≤ K) {dc : Nat → Int32} (hd : ∀ i, i < t → dc i = iI (digF N i)) (us rn rp : Int32) (c : Nat → Int32) (lc : Nat → Int64) :
    ∃ us' rn' c' lc' rp', f_Md_row (iL C) (iI q) us rn c lc rp = some (us', rn', c', lc', rp') ∧ f_Md_compare (iI t) (iL p) an rn' rp' c' dc = some (iI (cmpI ((N : Int) * 10 ^ (p - nd N + K).toNat) (C * (2 ^ (q + K).toNat * 5 ^ K)))) := by
  obtain ⟨m0, m1⟩ := mant_b hC0 hC1 hq0 hq1
  obtain ⟨p0, p1⟩ := pt_b hC0 hC1 hq0 hq1
  obtain ⟨us', t', c', lc', e, hs, _, d1, d2, d3, d4⟩ := row_spec (C := C) (q := q) (by omega) (by omega) (by omega) (by omega) m1 us rn rp c lc
  have hM0 : 0 < (mantI C q).toNat := by omega
  refine ⟨_, _, _, _, _, e, ?_⟩
  have htn := strip_le ht
  have htn' := strip_le hs
  have hnd : nd (mantI C q).toNat ≤ 800 := nd_le_of (Nat.lt_of_lt_of_le (te_big (N := (mantI C q).toNat) (by omega)) (p10_mono (by omega)))
  rw [compare_K (K := K) (n1 := t) (n2 := t') (an := an) (p1 := p) (α := digF N) (β := digF (mantI C q).toNat) (fun i => digF_le N i) d4 hd d2 ht.1 d3 (by omega) d1 han hK (by omega) (by omega) p0 (by omega) (digF_0 hN) (digF_0 hM0)]
  rw [rvK_N hN ht (by omega) hn (by omega), rvK_N (an := 800) hM0 hs (by omega) hnd (by omega), Int.toNat_of_nonneg (by omega)]
  rw [show ((nd (mantI C q).toNat : Int) + min q 0 - nd (mantI C q).toNat + K).toNat = (min q 0 + K).toNat by omega, mant_K (by omega) (by omega)]
set_option maxRecDepth 10000 in
theorem val_K {s : Nat} {z : Int} {K : Nat} (hs : s < 2) (hz : 0 ≤ z) (hK : 2000 ≤ K) : mC s z * (2 ^ (mQ s z + K).toNat * 5 ^ K) = valS s z * (2 ^ (szL s + K).toNat * 5 ^ K) := by
  obtain ⟨z1, z2, z3, z4, z5, z6⟩ := sz_p hs
  have hq : szL s ≤ mQ s z := by
    unfold mQ
    have : 0 ≤ z / 2 ^ (szD s - 1) := Int.ediv_nonneg hz (by omega)
    split <;> omega
  unfold valS
  rw [show (mQ s z + K).toNat = (mQ s z - szL s).toNat + (szL s + K).toNat by omega, Int.pow_add]
  generalize (2 : Int) ^ (mQ s z - szL s).toNat = a
  generalize (2 : Int) ^ (szL s + K).toNat = b
  generalize (5 : Int) ^ K = c
  grind
set_option maxRecDepth 10000 in
theorem mQ_b {s : Nat} (hs : s < 2) {z : Int} (h0 : 0 ≤ z) (h1 : z < (2 ^ szK s - 1) * 2 ^ (szD s - 1)) : szL s ≤ mQ s z ∧ mQ s z ≤ 972 ∧ z / 2 ^ (szD s - 1) < 10000 := by
  have hP := p2_pos (szD s - 1)
  have a0 : 0 ≤ z / 2 ^ (szD s - 1) := Int.ediv_nonneg h0 (by omega)
  have a1 : z / 2 ^ (szD s - 1) < 2 ^ szK s - 1 := Int.ediv_lt_of_lt_mul hP h1
  have a2 : (2 : Int) ^ szK s - 1 = szG s - szL s + 2 ∧ szG s ≤ 971 ∧ -1074 ≤ szL s := by
    rcases sz_cases hs with h | h
    · obtain ⟨_, h1, h2, h3, _, h5⟩ := h; rw [h2, h3, h5]; decide
    · obtain ⟨_, h1, h2, h3, _, h5⟩ := h; rw [h2, h3, h5]; decide
  unfold mQ
  split <;> omega
set_option maxRecDepth 10000 in
theorem mid_K {s : Nat} (hs : s < 2) {z : Int} {K : Nat} (h0 : 0 ≤ z) (hq : szL s ≤ mQ s z) (hK : 2000 ≤ K) : 2 * ((2 * mC s z + 1) * (2 ^ (mQ s z - 1 + K).toNat * 5 ^ K)) = (valS s z + valS s (z + 1)) * (2 ^ (szL s + K).toNat * 5 ^ K) := by
  have hL := (sz_p hs).2.2.2.2.1
  have e := val_K hs h0 hK
  have a : (2 : Int) ^ (mQ s z + K).toNat = 2 * 2 ^ (mQ s z - 1 + K).toNat := by
    rw [show (mQ s z + K).toNat = (mQ s z - 1 + K).toNat + 1 by omega, Int.pow_succ, Int.mul_comm]
  have b : (2 : Int) ^ (mQ s z + K).toNat = 2 ^ (mQ s z - szL s).toNat * 2 ^ (szL s + K).toNat := by rw [← Int.pow_add]; congr 1; omega
  rw [valS_succ hs h0]
  rw [a] at e b
  generalize (2 : Int) ^ (mQ s z - 1 + K).toNat = x at *
  generalize (2 : Int) ^ (mQ s z - szL s).toNat = y at *
  generalize (2 : Int) ^ (szL s + K).toNat = w at *
  generalize (5 : Int) ^ K = f at *
  have h2 : 2 * x * f = y * w * f := by rw [b]
  have e2 : mC s z * (2 * x * f) = valS s z * (w * f) := e
  grind
-- ZZ
set_option maxRecDepth 10000 in
def nearP (s : Nat) (V W : Int) (x : Option (Int64 × Int32 × Int32 × (Nat → Int32) × (Nat → Int64) × Int32 × Int32 × (Nat → Int32) × Int32)) : Prop :=
  ∃ r u1 u2 u3 u4 u5 u6 u7 u8, x = some (iL r, u1, u2, u3, u4, u5, u6, u7, u8) ∧ NE s V W r
set_option maxRecDepth 10000 in
theorem cmpI_lt0 {a b : Int} : (iI (cmpI a b) < (0 : Int32)) = (a < b) := by
  unfold cmpI
  by_cases h : a < b
  · rw [if_pos h]; simp only [h]; exact eq_true (by decide)
  · rw [if_neg h]
    by_cases e : a = b
    · rw [if_pos e]; simp only [h]; exact eq_false (by decide)
    · rw [if_neg e]; simp only [h]; exact eq_false (by decide)
set_option maxRecDepth 10000 in
theorem cmpI_eq0 {a b : Int} : (iI (cmpI a b) = (0 : Int32)) = (a = b) := by
  unfold cmpI
  by_cases h : a < b
  · rw [if_pos h]
    have : ¬ a = b := by omega
    simp only [this]; exact eq_false (by decide)
  · rw [if_neg h]
    by_cases e : a = b
    · rw [if_pos e]; simp only [e]; exact eq_true (by decide)
    · rw [if_neg e]; simp only [e]; exact eq_false (by decide)
set_option maxRecDepth 10000 in
theorem near38 {s : Nat} (hs : s < 2) {K N t an : Nat} {p V W : Int} (hN : 0 < N) (ht : isStrip (digF N) t) (hp0 : -400 ≤ p) (hp1 : p ≤ 400) (hn : nd N ≤ an) (han : an ≤ 99999) (hK : an + 2000 ≤ K) {dc : Nat → Int32} (hd : ∀ i, i < t → dc i = iI (digF N i)) (hV : V = (N : Int) * 10 ^ (p - nd N + K).toNat) (hW : W = 2 ^ (szL s + K).toNat * 5 ^ K) :
    ∀ (k n : Nat) (a b : Int) (us hn_ hp_ en ep : Int32) (hdc edc : Nat → Int32) (lc : Nat → Int64), k < n → 0 ≤ a → a ≤ b → b < (2 ^ szK s - 1) * 2 ^ (szD s - 1) → b - a < 2 ^ k → valS s a * W ≤ V → (b + 1 < (2 ^ szK s - 1) * 2 ^ (szD s - 1) → V < valS s (b + 1) * W) →
    nearP s V W (f_Md_nearest_38 n (iL a) (iL b) an (iL p) (iI (szD s)) (iI (szL s)) us hn_ hdc lc (iI t) hp_ dc en edc ep)
  | k, 0, a, b, us, hn_, hp_, en, ep, hdc, edc, lc, hk, _, _, _, _, _, _ => by omega
  | k, n + 1, a, b, us, hn_, hp_, en, ep, hdc, edc, lc, hk, ha, hab, hb, hd2, h1, h2 => by
    have ib := inf_b hs
    obtain ⟨z1, z2, z3, z4, z5, z6⟩ := sz_p hs
    rw [f_Md_nearest_38]
    by_cases q : b ≤ a
    · have eab : a = b := by omega
      subst eab
      rw [if_pos (show iL a ≤ iL a from by simp (disch := omega) only [iI_lit, iL_lit, iI_add, iI_sub, iI_mul, iI_neg, iL_add, iL_sub, iL_mul, iL_neg, iI_lt, iI_le, iI_eq, iL_lt, iL_le, iL_eqS, iI_c, iI_ok, iI_l, iL_i, iI_low, l_ushrI, l_shlI, l_shrI, i_shlI, i_shrI, i_ushrI, iI_div, iL_div, Int.toNat_natCast, Int.reduceToNat, iI_ofNat]; omega)]
      obtain ⟨q1, q2, q3⟩ := mQ_b hs ha hb
      have hcb : 0 ≤ mC s a ∧ mC s a < 9007199254740992 := by
        by_cases r : a = 0
        · subst r
          have : mC s 0 = 0 := by unfold mC; rw [if_pos (by omega)]
          omega
        · have := mC_b hs (show 0 < a by omega); omega
      obtain ⟨us', rn', c', lc', rp', e1, e2⟩ := rowcmp (K := K) (C := 2 * mC s a + 1) (q := mQ s a - 1) hN ht hp0 hp1 (by omega) (by omega) (by omega) (by omega) hn han hK hd us hn_ hp_ hdc lc
      rw [mc_spec hs ha (by omega), Option.bind_some, mq_spec hs ha (by omega) q3, Option.bind_some]
      rw [show (2 : Int64) = iL 2 from rfl, show (1 : Int64) = iL 1 from rfl, show (1 : Int32) = iI 1 from rfl, iL_mul, iL_add, iI_sub, e1, Option.bind_some, e2, Option.bind_some, one_and ha (by omega)]
      have em := mid_K hs ha q1 (K := K) (by omega)
      rw [← hW] at em
      rw [← hV]
      simp only [cmpI_lt0, cmpI_eq0]
      have hz : (iL (a % 2) = (0 : Int64)) = (a % 2 = 0) := by
        rw [show (0 : Int64) = iL 0 from rfl, iL_eqU (by omega) (by omega) (by omega) (by omega)]
      simp only [hz]
      generalize (2 * mC s a + 1) * (2 ^ (mQ s a - 1 + K).toNat * 5 ^ K) = M at *
      have fin : ∀ r, r = (if 2 * V < (valS s a + valS s (a + 1)) * W ∨ (2 * V = (valS s a + valS s (a + 1)) * W ∧ a % 2 = 0) then a else a + 1) → NE s V W r := fun r hr => ⟨a, ha, hb, h1, h2, hr⟩
      rw [← em] at fin
      unfold f_Md_nearest_178 f_Md_nearest_182
      by_cases c1 : V < M
      · rw [if_pos c1]
        exact ⟨a, _, _, _, _, _, _, _, _, rfl, fin a (by rw [if_pos (Or.inl (by omega))])⟩
      · rw [if_neg c1]
        by_cases c2 : V = M
        · rw [if_pos c2]
          by_cases c3 : a % 2 = 0
          · rw [if_pos c3]
            exact ⟨a, _, _, _, _, _, _, _, _, rfl, fin a (by rw [if_pos (Or.inr ⟨by omega, c3⟩)])⟩
          · rw [if_neg c3]
            refine ⟨a + 1, _, _, _, _, _, _, _, _, by rw [show (1 : Int64) = iL 1 from rfl, iL_add], fin (a + 1) (by rw [if_neg (by omega)])⟩
        · rw [if_neg c2]
          refine ⟨a + 1, _, _, _, _, _, _, _, _, by rw [show (1 : Int64) = iL 1 from rfl, iL_add], fin (a + 1) (by rw [if_neg (by omega)])⟩
    · obtain ⟨k, rfl⟩ : ∃ j, k = j + 1 := by
        rcases k with _ | j
        · simp at hd2; omega
        · exact ⟨j, rfl⟩
      rw [if_neg (show ¬ iL b ≤ iL a from by simp (disch := omega) only [iI_lit, iL_lit, iI_add, iI_sub, iI_mul, iI_neg, iL_add, iL_sub, iL_mul, iL_neg, iI_lt, iI_le, iI_eq, iL_lt, iL_le, iL_eqS, iI_c, iI_ok, iI_l, iL_i, iI_low, l_ushrI, l_shlI, l_shrI, i_shlI, i_shrI, i_ushrI, iI_div, iL_div, Int.toNat_natCast, Int.reduceToNat, iI_ofNat]; omega)]
      have hm : iL a + (iL b - iL a + (1 : Int64)) / (2 : Int64) = iL (a + (b - a + 1) / 2) := by
        rw [show (2 : Int64) = iL 2 from rfl, show (1 : Int64) = iL 1 from rfl, iL_sub, iL_add, iL_div (by omega) (by omega) (by omega) (by omega), iL_add]
      rw [hm]
      have hm0 : a < a + (b - a + 1) / 2 := by omega
      have hm1 : a + (b - a + 1) / 2 ≤ b := by omega
      have hp2 : (2 : Int) ^ (k + 1) = 2 * 2 ^ k := by rw [Int.pow_succ, Int.mul_comm]
      have hm2 : b - (a + (b - a + 1) / 2) < 2 ^ k := by omega
      have hm3 : a + (b - a + 1) / 2 - 1 - a < 2 ^ k := by omega
      generalize a + (b - a + 1) / 2 = m at *
      obtain ⟨q1, q2, q3⟩ := mQ_b hs (z := m) (by omega) (by omega)
      have hcb := mC_b hs (z := m) (by omega)
      obtain ⟨us', rn', c', lc', rp', e1, e2⟩ := rowcmp (K := K) (C := mC s m) (q := mQ s m) hN ht hp0 hp1 (by omega) (by omega) (by omega) (by omega) hn han hK hd us en ep edc lc
      rw [mc_spec hs (by omega) (by omega), Option.bind_some, mq_spec hs (by omega) (by omega) q3, Option.bind_some, e1, Option.bind_some, e2, Option.bind_some]
      have ev := val_K hs (z := m) (by omega) (K := K) (by omega)
      rw [← hW] at ev
      rw [← hV, ev]
      simp only [cmpI_lt0]
      unfold f_Md_nearest_110
      by_cases c1 : V < valS s m * W
      · rw [if_pos c1, show (1 : Int64) = iL 1 from rfl, iL_sub]
        exact near38 hs hN ht hp0 hp1 hn han hK hd hV hW k n a (m - 1) us' hn_ hp_ rn' rp' hdc c' lc' (by omega) ha (by omega) (by omega) hm3 h1 (fun _ => by rw [show m - 1 + 1 = m by omega]; exact c1)
      · rw [if_neg c1]
        exact near38 hs hN ht hp0 hp1 hn han hK hd hV hW k n m b us' hn_ hp_ rn' rp' hdc c' lc' (by omega) (by omega) hm1 hb hm2 (by omega) h2
set_option maxRecDepth 10000 in
def KK : Nat := 67536
set_option maxRecDepth 10000 in
theorem KK_eq : KK = 67536 := by unfold KK; rfl
set_option maxRecDepth 10000 in
def VD (N : Nat) (p : Int) : Int := (N : Int) * 10 ^ (p - nd N + KK).toNat
set_option maxRecDepth 10000 in
def WD (s : Nat) : Int := 2 ^ (szL s + KK).toNat * 5 ^ KK
set_option maxRecDepth 10000 in
theorem WD_pos (s : Nat) : 0 < WD s := Int.mul_pos (p2_pos _) (p5_pos _)
set_option maxRecDepth 10000 in
def DEC (s N : Nat) (p r : Int) : Prop := (310 ≤ p → r = (2 ^ szK s - 1) * 2 ^ (szD s - 1)) ∧ (p ≤ -324 → r = 0) ∧ (-324 < p → p < 310 → NE s (VD N p) (WD s) r)
set_option maxRecDepth 10000 in
theorem DEC_uniq {s N : Nat} (hs : s < 2) {p r r' : Int} (h : DEC s N p r) (h' : DEC s N p r') : r = r' := by
  by_cases a : 310 ≤ p
  · rw [h.1 a, h'.1 a]
  · by_cases b : p ≤ -324
    · rw [h.2.1 b, h'.2.1 b]
    · exact NE_uniq hs (WD_pos s) (h.2.2 (by omega) (by omega)) (h'.2.2 (by omega) (by omega))
set_option maxRecDepth 10000 in
theorem VD_b {N : Nat} {p : Int} (hN : 0 < N) (hp : -600 ≤ p) (hn : nd N ≤ 65536) : 10 ^ (p - 1 + KK).toNat ≤ VD N p ∧ VD N p < 10 ^ (p + KK).toNat := by
  have hk := KK_eq
  have l1 := nd_lt N
  have l2 := nd_le hN
  have l0 := nd_pos hN
  unfold VD
  have hpp := p10_pos (p - nd N + KK).toNat
  constructor
  · rw [show (p - 1 + KK).toNat = (nd N - 1) + (p - nd N + KK).toNat by omega, Int.pow_add]
    have : ((10 ^ (nd N - 1) : Nat) : Int) ≤ (N : Int) := Int.ofNat_le.mpr l2
    rw [Int.natCast_pow] at this
    exact Int.mul_le_mul_of_nonneg_right this (by omega)
  · rw [show (p + KK).toNat = nd N + (p - nd N + KK).toNat by omega, Int.pow_add]
    have : (N : Int) < ((10 ^ nd N : Nat) : Int) := Int.ofNat_lt.mpr l1
    rw [Int.natCast_pow] at this
    exact Int.mul_lt_mul_of_pos_right this hpp
set_option maxRecDepth 10000 in
theorem WD_10 {s : Nat} (hs : s < 2) : WD s * 2 ^ (- szL s).toNat = 10 ^ KK := by
  have hk := KK_eq
  have hL := (sz_p hs).2.2.2.2
  unfold WD
  have e : (10 : Int) ^ KK = 2 ^ KK * 5 ^ KK := p10_25 KK
  rw [e]
  have e2 : (2 : Int) ^ KK = 2 ^ (szL s + KK).toNat * 2 ^ (- szL s).toNat := by rw [← Int.pow_add]; congr 1 <;> omega
  rw [e2]
  generalize (5 : Int) ^ KK = a
  generalize (2 : Int) ^ (szL s + KK).toNat = b
  generalize (2 : Int) ^ (- szL s).toNat = c
  grind
set_option maxRecDepth 10000 in
theorem NE_hi {s : Nat} (hs : s < 2) {N : Nat} {p : Int} (hN : 0 < N) (hp : 310 ≤ p) (hn : nd N ≤ 65536) : NE s (VD N p) (WD s) ((2 ^ szK s - 1) * 2 ^ (szD s - 1)) := by
  have hk := KK_eq
  refine NE_inf hs (WD_pos s) ?_
  obtain ⟨v0, _⟩ := VD_b (p := p) hN (by omega) hn
  have hm := p10I_mono (show 309 + KK ≤ (p - 1 + KK).toNat by omega)
  rw [inf_val hs]
  have e : (2 : Int) ^ (szG s + 1 - szL s).toNat * WD s = 2 ^ (szG s + 1).toNat * 10 ^ KK := by
    rw [← WD_10 hs]
    have hL := (sz_p hs).2.2.2.2
    have hG : 0 ≤ szG s := by rcases sz_cases hs with h | h <;> omega
    rw [show (szG s + 1 - szL s).toNat = (szG s + 1).toNat + (- szL s).toNat by omega, Int.pow_add]
    generalize (2 : Int) ^ (szG s + 1).toNat = a
    generalize (2 : Int) ^ (- szL s).toNat = c
    generalize WD s = w
    grind
  rw [Int.mul_assoc, e, ← Int.mul_assoc]
  have h309 : (2 : Int) ^ (szD s - 1) * 2 ^ (szG s + 1).toNat ≤ 10 ^ 309 := by
    rcases sz_cases hs with h | h
    · obtain ⟨_, h1, h2, h3, _⟩ := h; rw [h1, h3]; decide +kernel
    · obtain ⟨_, h1, h2, h3, _⟩ := h; rw [h1, h3]; decide +kernel
  have h4 := Int.mul_le_mul_of_nonneg_right h309 (show (0 : Int) ≤ 10 ^ KK from Int.le_of_lt (p10_pos KK))
  rw [← Int.pow_add 10] at h4
  exact Int.le_trans h4 (Int.le_trans hm v0)
set_option maxRecDepth 10000 in
theorem NE_lo {s : Nat} (hs : s < 2) {N : Nat} {p : Int} (hN : 0 < N) (hp0 : -600 ≤ p) (hp : p ≤ -324) (hn : nd N ≤ 65536) : NE s (VD N p) (WD s) 0 := by
  have hk := KK_eq
  obtain ⟨v0, v1⟩ := VD_b (p := p) hN (by omega) hn
  have hz := p10_pos (p - 1 + KK).toNat
  refine NE_zero hs (WD_pos s) (by omega) ?_
  have hm := p10I_mono (show (p + KK).toNat ≤ KK - 324 by omega)
  have e := WD_10 hs
  have e10 : (10 : Int) ^ KK = 10 ^ 324 * 10 ^ (KK - 324) := by rw [← Int.pow_add]; congr 1 <;> omega
  rw [e10] at e
  have h324 : (2 : Int) * 2 ^ (- szL s).toNat ≤ 10 ^ 324 := by
    rcases sz_cases hs with h | h
    · obtain ⟨_, h1, h2, h3, _⟩ := h; rw [h2]; decide +kernel
    · obtain ⟨_, h1, h2, h3, _⟩ := h; rw [h2]; decide +kernel
  have hp := p2_pos (- szL s).toNat
  have hx := p10_pos (KK - 324)
  generalize (10 : Int) ^ (KK - 324) = X at *
  generalize (10 : Int) ^ 324 = Y at *
  generalize (2 : Int) ^ (- szL s).toNat = Z at *
  generalize WD s = w at *
  have h5 := Int.mul_le_mul_of_nonneg_right h324 (show 0 ≤ X by omega)
  rw [← e] at h5
  have h6 : 2 * X * Z ≤ w * Z := by grind
  have h7 := Int.le_of_mul_le_mul_right h6 hp
  omega
set_option maxRecDepth 10000 in
theorem nearest_spec {s : Nat} (hs : s < 2) {N t : Nat} {p : Int} (hN : 0 < N) (ht : isStrip (digF N) t) (hn : nd N ≤ 65536) (hp0 : -1000000000 ≤ p) (hp1 : p ≤ 1000000000) {dc : Nat → Int32} (hd : ∀ i, i < t → dc i = iI (digF N i)) (us hn_ hp_ en ep : Int32) (hdc edc : Nat → Int32) (lc : Nat → Int64) :
    ∃ r u1 u2 u3 u4 u5 u6 u7 u8, f_Md_nearest 65536 (iL p) (iI (szD s)) (iI (szL s)) us hn_ hdc lc (iI t) hp_ dc en edc ep = some (iL r, u1, u2, u3, u4, u5, u6, u7, u8) ∧ DEC s N p r ∧ 0 ≤ r ∧ r ≤ (2 ^ szK s - 1) * 2 ^ (szD s - 1) := by
  have hk := KK_eq
  have ib := inf_b hs
  unfold f_Md_nearest
  rw [inf_spec hs, Option.bind_some, Option.bind_some]
  by_cases c1 : p ≤ 400
  · rw [if_pos (show iL p ≤ 400 from by simp (disch := omega) only [iI_lit, iL_lit, iI_add, iI_sub, iI_mul, iI_neg, iL_add, iL_sub, iL_mul, iL_neg, iI_lt, iI_le, iI_eq, iL_lt, iL_le, iL_eqS, iI_c, iI_ok, iI_l, iL_i, iI_low, l_ushrI, l_shlI, l_shrI, i_shlI, i_shrI, i_ushrI, iI_div, iL_div, Int.toNat_natCast, Int.reduceToNat, iI_ofNat]; omega)]
    by_cases c2 : -400 ≤ p
    · rw [if_pos (show (-400 : Int64) ≤ iL p from by simp (disch := omega) only [iI_lit, iL_lit, iI_add, iI_sub, iI_mul, iI_neg, iL_add, iL_sub, iL_mul, iL_neg, iI_lt, iI_le, iI_eq, iL_lt, iL_le, iL_eqS, iI_c, iI_ok, iI_l, iL_i, iI_low, l_ushrI, l_shlI, l_shrI, i_shlI, i_shrI, i_ushrI, iI_div, iL_div, Int.toNat_natCast, Int.reduceToNat, iI_ofNat]; omega), show (0 : Int64) = iL 0 from rfl, show (1 : Int64) = iL 1 from rfl, iL_sub]
      have hv0 : valS s 0 = 0 := by
        have := valS_at (s := s) (x := 0) (f := 0) (Int.le_refl _) (Int.le_refl _) (p2_pos _)
        rwa [Int.mul_zero, Int.zero_add, if_pos rfl] at this
      have hvd : 0 ≤ VD N p := Int.mul_nonneg (by omega) (Int.le_of_lt (p10_pos _))
      have := near38 hs (K := KK) (V := VD N p) (W := WD s) hN ht c2 c1 hn (by omega) (by omega) hd rfl rfl 63 gx_fu 0 ((2 ^ szK s - 1) * 2 ^ (szD s - 1) - 1) us hn_ hp_ en ep hdc edc lc (by decide) (Int.le_refl _) (by omega) (by omega) (by rw [show (2 : Int) ^ 63 = 9223372036854775808 from rfl]; omega) (by rw [hv0, Int.zero_mul]; exact hvd) (fun h => by omega)
      obtain ⟨r, u1, u2, u3, u4, u5, u6, u7, u8, e, g⟩ := this
      refine ⟨r, u1, u2, u3, u4, u5, u6, u7, u8, e, ⟨fun h => ?_, fun h => ?_, fun _ _ => g⟩, ?_, ?_⟩
      · exact NE_uniq hs (WD_pos s) g (NE_hi hs hN h hn)
      · exact NE_uniq hs (WD_pos s) g (NE_lo hs hN (by omega) h hn)
      · obtain ⟨a, a0, a1, _, _, a5⟩ := g
        rw [a5]; split <;> omega
      · obtain ⟨a, a0, a1, _, _, a5⟩ := g
        rw [a5]; split <;> omega
    · rw [if_neg (show ¬ (-400 : Int64) ≤ iL p from by simp (disch := omega) only [iI_lit, iL_lit, iI_add, iI_sub, iI_mul, iI_neg, iL_add, iL_sub, iL_mul, iL_neg, iI_lt, iI_le, iI_eq, iL_lt, iL_le, iL_eqS, iI_c, iI_ok, iI_l, iL_i, iI_low, l_ushrI, l_shlI, l_shrI, i_shlI, i_shrI, i_ushrI, iI_div, iL_div, Int.toNat_natCast, Int.reduceToNat, iI_ofNat]; omega)]
      exact ⟨0, _, _, _, _, _, _, _, _, rfl, ⟨fun h => by omega, fun _ => rfl, fun h => by omega⟩, by omega, by omega⟩
  · rw [if_neg (show ¬ iL p ≤ 400 from by simp (disch := omega) only [iI_lit, iL_lit, iI_add, iI_sub, iI_mul, iI_neg, iL_add, iL_sub, iL_mul, iL_neg, iI_lt, iI_le, iI_eq, iL_lt, iL_le, iL_eqS, iI_c, iI_ok, iI_l, iL_i, iI_low, l_ushrI, l_shlI, l_shrI, i_shlI, i_shrI, i_ushrI, iI_div, iL_div, Int.toNat_natCast, Int.reduceToNat, iI_ofNat]; omega)]
    exact ⟨_, _, _, _, _, _, _, _, _, rfl, ⟨fun _ => rfl, fun h => by omega, fun _ h => by omega⟩, by omega, by omega⟩
-- YA
set_option maxRecDepth 10000 in
theorem or1_even {m : Int} (h0 : 0 ≤ m) (h1 : 2 * m + 1 < 18446744073709551616) : iL (2 * m) ||| (1 : Int64) = iL (2 * m + 1) := by
  have := iL_orK (a := m) (b := 1) 1 h0 (by omega) (by decide) (by omega)
  rw [show m * 2 ^ 1 = 2 * m by omega] at this
  exact this
set_option maxRecDepth 10000 in
theorem or1_odd {m : Int} (h0 : 0 ≤ m) (h1 : 2 * m + 1 < 18446744073709551616) : iL (2 * m + 1) ||| (1 : Int64) = iL (2 * m + 1) := by
  rw [← or1_even h0 h1]
  apply Int64.toBitVec_inj.mp
  rw [Int64.toBitVec_or, Int64.toBitVec_or, BitVec.or_assoc, BitVec.or_self]
set_option maxRecDepth 10000 in
theorem or1 {m : Int} (h0 : 0 ≤ m) (h1 : m + 1 < 18446744073709551616) : iL m ||| (1 : Int64) = iL (m / 2 * 2 + 1) := by
  rcases Int.emod_two_eq m with h | h
  · rw [show m = 2 * (m / 2) by omega, or1_even (by omega) (by omega)]
    congr 1; omega
  · have := or1_odd (m := m / 2) (by omega) (by omega)
    rw [show 2 * (m / 2) + 1 = m by omega] at this
    rw [this]; congr 1; omega
set_option maxRecDepth 10000 in
def divP (X Y : Int) (v1 pw : Int) (x : Option (Int32 × (Nat → Int32) × Int32 × (Nat → Int32) × Int32 × Int64)) : Prop :=
  ∃ ns nc ds dc m R, x = some (ns, nc, ds, dc, iI (pw + (v1 - 61)), iL m) ∧ BR ns nc R ∧ BR ds dc Y ∧ 0 ≤ m ∧ m < 4611686018427387904 ∧ 1152921504606846976 ≤ m ∧ STK m (X * 2 ^ 61) Y
set_option maxRecDepth 10000 in
theorem div40 {X Y v1 pw : Int} (hY : 0 < Y) (hX0 : 0 < X) (hXY : X < 2 * Y) (hYX : Y < 2 * X) (hYb : 2 * Y < 2 ^ 3072) {ds : Int32} {dc : Nat → Int32} (hD : BR ds dc Y) :
    ∀ (d i n : Nat) (ns : Int32) (nc : Nat → Int32) (R m : Int), i + d = 62 → d < n → BR ns nc R → 0 ≤ m → R < 2 * Y → X * 2 ^ i = 2 * m * Y + R →
    divP X Y v1 pw (f_Rd_divide_40 n (iI v1) (iI i) ns nc ds dc (iI pw) (iL m))
  | 0, i, n + 1, ns, nc, R, m, hi, hn, hR, hm, hR2, e => by
    have hi62 : i = 62 := by omega
    subst hi62
    have hR0 := BR_nn hR
    rw [show (2 : Int) ^ 62 = 2 * 2 ^ 61 from by decide] at e
    have e2 : X * 2 ^ 61 * 2 = 2 * m * Y + R := by rw [← e]; grind
    have hb1 : m < 4611686018427387904 := by
      apply Int.not_le.mp
      intro q
      have a1 := Int.mul_le_mul_of_nonneg_right q (show 0 ≤ Y by omega)
      have a2 : 2 * m * Y = 2 * (m * Y) := by grind
      omega
    have hb0 : 1152921504606846976 ≤ m := by
      apply Int.not_lt.mp
      intro q
      have a1 := Int.mul_le_mul_of_nonneg_right (show m ≤ 1152921504606846975 by omega) (show 0 ≤ Y by omega)
      have a2 : 2 * m * Y = 2 * (m * Y) := by grind
      omega
    rw [f_Rd_divide_40, if_pos (show (62 : Int32) ≤ iI ((62 : Nat) : Int) from by decide), isZero_spec hR, Option.bind_some]
    unfold f_Rd_divide_127
    by_cases q : R = 0
    · rw [if_pos q, if_neg (show ¬ iI 1 = 0 by decide), show (61 : Int32) = iI 61 from rfl, iI_sub, iI_add]
      refine ⟨_, _, _, _, _, _, rfl, hR, hD, hm, hb1, hb0, Or.inl ?_⟩
      subst q
      have : X * 2 ^ 61 * 2 = m * Y * 2 := by rw [e2]; grind
      omega
    · rw [if_neg q, if_pos (show iI 0 = 0 by decide), show (61 : Int32) = iI 61 from rfl, iI_sub, iI_add, or1 hm (by omega)]
      refine ⟨_, _, _, _, _, _, rfl, hR, hD, by omega, by omega, by omega, Or.inr ⟨by omega, ?_⟩⟩
      have a2 : 2 * m * Y = 2 * (m * Y) := by grind
      have a3 : (m + 1) * Y = m * Y + Y := by grind
      have a4 : (m - 1) * Y = m * Y - Y := by grind
      have a5 : (m + 2) * Y = m * Y + 2 * Y := by grind
      rcases Int.emod_two_eq m with h | h
      · rw [show m / 2 * 2 + 1 = m + 1 by omega, show m + 1 - 1 = m by omega, show m + 1 + 1 = m + 2 by omega]
        omega
      · rw [show m / 2 * 2 + 1 = m by omega]
        omega
  | d + 1, i, n + 1, ns, nc, R, m, hi, hn, hR, hm, hR2, e => by
    have hR0 := BR_nn hR
    have hb1 : m < 4611686018427387904 := by
      apply Int.not_le.mp
      intro q
      have a1 := Int.mul_le_mul_of_nonneg_right q (show 0 ≤ Y by omega)
      have a2 : 2 * m * Y = 2 * (m * Y) := by grind
      have a3 : (2 : Int) ^ i ≤ 2 ^ 61 := p2_mono (by omega)
      rw [show (2 : Int) ^ 61 = 2305843009213693952 from by decide] at a3
      have a4 := Int.mul_le_mul_of_nonneg_left a3 (show 0 ≤ X by omega)
      omega
    have e2 : X * 2 ^ (i + 1) = 2 * (2 * m * Y + R) := by rw [← e, Int.pow_succ]; grind
    rw [f_Rd_divide_40, if_neg (show ¬ (62 : Int32) ≤ iI (i : Int) from by simp (disch := omega) only [iI_lit, iL_lit, iI_add, iI_sub, iI_mul, iI_neg, iL_add, iL_sub, iL_mul, iL_neg, iI_lt, iI_le, iI_eq, iL_lt, iL_le, iL_eqS, iI_c, iI_ok, iI_l, iL_i, iI_low, l_ushrI, l_shlI, l_shrI, i_shlI, i_shrI, i_ushrI, iI_div, iL_div, Int.toNat_natCast, Int.reduceToNat, iI_ofNat]; omega), ag_spec hR hD, Option.bind_some]
    rw [show (1 : Int32).toInt64 &&& 63 = iL 1 &&& iL 63 from rfl, show (1 : Int32) = iI 1 from rfl]
    have hs : iL m <<< (iL 1 &&& iL 63) = iL (2 * m) := by
      have := l_shlI (a := m) (s := 1) (by omega) (by omega)
      rw [this]; congr 1; rw [show (2 : Int) ^ (1 : Int).toNat = 2 from rfl]; omega
    rw [hs]
    simp only [cmpI_lt0]
    unfold f_Rd_divide_92
    rw [show (2 : Int32) = iI 2 from rfl, show (0 : Int32) = iI 0 from rfl]
    by_cases q : R < Y
    · rw [if_pos q]
      obtain ⟨sz', c', e3, h3⟩ := tp_spec (k := 2) (a := 0) hR (by omega) (by omega) (by omega) (by omega) (by omega)
      rw [e3, Option.bind_some, show (1 : Int32) = iI 1 from rfl, iI_add]
      exact div40 hY hX0 hXY hYX hYb hD d (i + 1) n sz' c' (R * 2 + 0) (2 * m) (by omega) (by omega) h3 (by omega) (by omega) (by rw [e2]; grind)
    · rw [if_neg q]
      obtain ⟨sz2, c2, e4, h4⟩ := mt_spec (t := 1) hR hD (by omega) (by omega) (by omega)
      obtain ⟨sz', c', e3, h3⟩ := tp_spec (k := 2) (a := 0) h4 (by omega) (by omega) (by omega) (by omega) (by omega)
      rw [e4, Option.bind_some, e3, Option.bind_some, show (1 : Int32) = iI 1 from rfl, iI_add, or1_even hm (by omega)]
      exact div40 hY hX0 hXY hYX hYb hD d (i + 1) n sz' c' ((R - Y * 1) * 2 + 0) (2 * m + 1) (by omega) (by omega) h3 (by omega) (by omega) (by rw [e2]; grind)
-- YB
set_option maxRecDepth 10000 in
theorem bl_le {N : Int} {b k : Nat} (h : isBL N b) (hN : N < 2 ^ k) : b ≤ k := by
  rcases Nat.lt_or_ge k b with q | q
  · have h1 := h.2 (by omega)
    have h2 : (2 : Int) ^ k ≤ 2 ^ (b - 1) := p2_mono (by omega)
    omega
  · exact q
set_option maxRecDepth 10000 in
theorem bl_pos {N : Int} {b : Nat} (h : isBL N b) (hN : 0 < N) : 0 < b := by
  rcases Nat.eq_zero_or_pos b with q | q
  · have := h.1
    rw [q] at this
    simp at this
    omega
  · exact q
set_option maxRecDepth 10000 in
theorem bl_shl {N : Int} {b k : Nat} (h : isBL N b) (hb : 0 < b) : N * 2 ^ k < 2 ^ (b + k) ∧ 2 ^ (b + k - 1) ≤ N * 2 ^ k := by
  have hk := p2_pos k
  constructor
  · rw [Int.pow_add]; exact Int.mul_lt_mul_of_pos_right h.1 hk
  · rw [show b + k - 1 = b - 1 + k by omega, Int.pow_add]; exact Int.mul_le_mul_of_nonneg_right (h.2 hb) (by omega)
set_option maxRecDepth 10000 in
theorem divide_spec {A D pw : Int} (hA : 0 < A) (hD : 0 < D) (hAb : A < 2 ^ 2700) (hDb : D < 2 ^ 2700) {ns ds : Int32} {nc dc : Nat → Int32} (hN : BR ns nc A) (hE : BR ds dc D) (mt : Int64) :
    ∃ lg : Int, -2700 ≤ lg ∧ lg ≤ 2700 ∧ divP (A * 2 ^ (-lg).toNat) (D * 2 ^ lg.toNat) lg pw (f_Rd_divide ns nc ds dc (iI pw) mt) := by
  obtain ⟨ba, _, h1, e1⟩ := bl_spec hN
  obtain ⟨bd, _, h2, e2⟩ := bl_spec hE
  have l1 := bl_le h1 hAb
  have l2 := bl_le h2 hDb
  have g1 := bl_pos h1 hA
  have g2 := bl_pos h2 hD
  obtain ⟨x1, x2⟩ := bl_shl (k := (-((ba : Int) - bd)).toNat) h1 g1
  obtain ⟨y1, y2⟩ := bl_shl (k := ((ba : Int) - bd).toNat) h2 g2
  have hB : ba + (-((ba : Int) - bd)).toNat = bd + ((ba : Int) - bd).toNat := by omega
  have hBm : bd + ((ba : Int) - bd).toNat ≤ 2700 := by omega
  rw [hB] at x1 x2
  have hpw : (2 : Int) ^ (bd + ((ba : Int) - bd).toNat) = 2 * 2 ^ (bd + ((ba : Int) - bd).toNat - 1) := by
    rw [show bd + ((ba : Int) - bd).toNat = (bd + ((ba : Int) - bd).toNat - 1) + 1 by omega, Int.pow_succ, Int.mul_comm]
    rfl
  have hm : (2 : Int) ^ (bd + ((ba : Int) - bd).toNat + 1) ≤ 2 ^ 3072 := p2_mono (by omega)
  rw [Int.pow_succ] at hm
  have hX0 : 0 < A * 2 ^ (-((ba : Int) - bd)).toNat := Int.mul_pos hA (p2_pos _)
  have hY0 : 0 < D * 2 ^ ((ba : Int) - bd).toNat := Int.mul_pos hD (p2_pos _)
  refine ⟨(ba : Int) - bd, by omega, by omega, ?_⟩
  unfold f_Rd_divide
  rw [e1, Option.bind_some, e2, Option.bind_some, iI_sub]
  generalize hZ : (2 : Int) ^ 3072 = Z at *
  obtain ⟨s1, c1, e3, h3⟩ := sl_spec (b := (ba : Int) - bd) hE (by omega) (by omega) (by rw [hZ]; omega)
  obtain ⟨s2, c2, e4, h4⟩ := sl_spec (b := -((ba : Int) - bd)) hN (by omega) (by omega) (by rw [hZ]; omega)
  rw [e3, Option.bind_some, iI_neg, e4, Option.bind_some]
  exact div40 hY0 hX0 (by omega) (by omega) (by rw [hZ]; omega) h3 62 0 gx_fu s2 c2 _ 0 rfl (by have := fu_pos; omega) h4 (Int.le_refl _) (by omega) (by rw [Int.pow_zero, Int.mul_one, Int.mul_zero, Int.zero_mul, Int.zero_add])
-- YC
set_option maxRecDepth 10000 in
theorem border_no {s : Nat} (hs : s < 2) {c A : Int} {j g : Nat} (hc0 : 0 ≤ c) (hc1 : c ≤ 18014398509481984) (hA : 10 ^ 799 ≤ A) (hg : g ≤ 2000) :
    ¬ (2 * (A * 10 ^ (KK - g)) < c * 2 ^ j * WD s ∧ c * 2 ^ j * WD s < 2 * ((A + 1) * 10 ^ (KK - g))) := by
  have hk := KK_eq
  obtain ⟨_, _, _, _, z5, z6⟩ := sz_p hs
  obtain ⟨l, hl⟩ : ∃ l : Nat, szL s = -(l : Int) := ⟨(- szL s).toNat, by omega⟩
  have hMp := p10_pos (KK - g)
  have hW : WD s * 2 ^ l = 10 ^ (KK - g) * (2 ^ g * 5 ^ g) := by
    have e := WD_10 hs
    rw [hl, show (- -(l : Int)).toNat = l by omega] at e
    rw [e, ← p10_25, ← Int.pow_add]; congr 1; omega
  -- a multiple cannot lie between
  have mult : ∀ Q, c * 2 ^ j * WD s = 2 * (Q * 10 ^ (KK - g)) → ¬ (2 * (A * 10 ^ (KK - g)) < c * 2 ^ j * WD s ∧ c * 2 ^ j * WD s < 2 * ((A + 1) * 10 ^ (KK - g))) := by
    intro Q hQ h
    rw [hQ] at h
    have a1 := Int.lt_of_mul_lt_mul_right (show A * 10 ^ (KK - g) < Q * 10 ^ (KK - g) by omega) (by omega)
    have a2 := Int.lt_of_mul_lt_mul_right (show Q * 10 ^ (KK - g) < (A + 1) * 10 ^ (KK - g) by omega) (by omega)
    omega
  generalize hM : (10 : Int) ^ (KK - g) = M at *
  generalize hWW : WD s = W at *
  have hlp := p2_pos l
  by_cases q1 : l + 1 ≤ j + g
  · apply mult (c * 5 ^ g * 2 ^ (j + g - (l + 1)))
    apply Int.eq_of_mul_eq_mul_right (a := 2 ^ l) (by omega)
    have e : (2 : Int) ^ j * 2 ^ g = 2 * 2 ^ (j + g - (l + 1)) * 2 ^ l := by
      rw [← Int.pow_add, show j + g = (j + g - (l + 1)) + (l + 1) by omega, Int.pow_add, Int.pow_succ]
      rw [show j + g - (l + 1) + (l + 1) - (l + 1) = j + g - (l + 1) by omega]
      grind
    have e2 : c * 2 ^ j * W * 2 ^ l = c * M * 5 ^ g * (2 ^ j * 2 ^ g) := by
      rw [Int.mul_assoc (c * 2 ^ j) W, hW]; grind
    rw [e2, e]
    grind
  · intro h
    have hgl : j + g ≤ l := by omega
    have h1 := Int.mul_lt_mul_of_pos_right h.1 hlp
    have e2 : c * 2 ^ j * W * 2 ^ l = c * 5 ^ g * M * (2 ^ j * 2 ^ g) := by
      rw [Int.mul_assoc (c * 2 ^ j) W, hW]; grind
    rw [e2] at h1
    have e3 : (2 : Int) ^ j * 2 ^ g ≤ 2 ^ l := by rw [← Int.pow_add]; exact p2_mono hgl
    have hcM : 0 ≤ c * 5 ^ g * M := Int.mul_nonneg (Int.mul_nonneg hc0 (Int.le_of_lt (p5_pos g))) (by omega)
    have h2 := Int.mul_le_mul_of_nonneg_left e3 hcM
    have h3 : 2 * (A * M) < c * 5 ^ g * M := Int.lt_of_mul_lt_mul_right (Int.lt_of_lt_of_le h1 h2) (by omega)
    have h4 : 2 * A < c * 5 ^ g := Int.lt_of_mul_lt_mul_right (show 2 * A * M < c * 5 ^ g * M by rw [Int.mul_assoc]; exact h3) (by omega)
    have h5 : (5 : Int) ^ g ≤ 5 ^ 1074 := p5_mono (by omega)
    have h6 := Int.mul_le_mul hc1 h5 (Int.le_of_lt (p5_pos g)) (by omega)
    have h7 : (18014398509481984 : Int) * 5 ^ 1074 ≤ 10 ^ 799 := by decide +kernel
    have h8 := p10_pos 799
    generalize (10 : Int) ^ 799 = Z at *
    generalize (5 : Int) ^ 1074 = Y at *
    omega
set_option maxRecDepth 10000 in
theorem NE_same {s : Nat} (hs : s < 2) {V V' A : Int} {g : Nat} (hA : 10 ^ 799 ≤ A) (hg : g ≤ 2000) (h1 : A * 10 ^ (KK - g) < V) (h2 : V < (A + 1) * 10 ^ (KK - g)) (h3 : A * 10 ^ (KK - g) < V') (h4 : V' < (A + 1) * 10 ^ (KK - g)) {r : Int} (h : NE s V (WD s) r) : NE s V' (WD s) r := by
  have key : ∀ c : Int, ∀ j : Nat, 0 ≤ c → c ≤ 18014398509481984 → c * 2 ^ j * WD s ≤ 2 * (A * 10 ^ (KK - g)) ∨ 2 * ((A + 1) * 10 ^ (KK - g)) ≤ c * 2 ^ j * WD s := by
    intro c j c0 c1
    have := border_no hs (j := j) c0 c1 hA hg
    omega
  have hc : ∀ a, 0 ≤ a → 0 ≤ mC s a ∧ mC s a < 9007199254740992 := by
    intro a ha
    by_cases r : a = 0
    · subst r
      have : mC s 0 = 0 := by unfold mC; rw [if_pos (p2_pos _)]
      omega
    · have := mC_b hs (show 0 < a by omega); omega
  have e1 : ∀ a, 0 ≤ a → 2 * (valS s a * WD s) ≤ 2 * (A * 10 ^ (KK - g)) ∨ 2 * ((A + 1) * 10 ^ (KK - g)) ≤ 2 * (valS s a * WD s) := by
    intro a ha
    have := key (2 * mC s a) (mQ s a - szL s).toNat (by have := hc a ha; omega) (by have := hc a ha; omega)
    rwa [show 2 * mC s a * 2 ^ (mQ s a - szL s).toNat * WD s = 2 * (valS s a * WD s) by unfold valS; grind] at this
  obtain ⟨a, a0, a1, a2, a3, a4⟩ := h
  have m := key (2 * mC s a + 1) (mQ s a - szL s).toNat (by have := hc a a0; omega) (by have := hc a a0; omega)
  rw [show (2 * mC s a + 1) * 2 ^ (mQ s a - szL s).toNat * WD s = (valS s a + valS s (a + 1)) * WD s by rw [valS_succ hs a0]; unfold valS; grind] at m
  have b1 := e1 a a0
  have b2 := e1 (a + 1) (by omega)
  refine ⟨a, a0, a1, by omega, fun h => by have := a3 h; omega, ?_⟩
  rw [a4]
  generalize (valS s a + valS s (a + 1)) * WD s = S at *
  by_cases q : 2 * V < S
  · rw [if_pos (Or.inl q), if_pos (Or.inl (by omega))]
  · rw [if_neg (by omega), if_neg (by omega)]
-- YD
set_option maxRecDepth 10000 in
theorem nd_cut {N : Nat} (h : 800 < nd N) : nd (N / 10 ^ (nd N - 800)) = 800 ∧ 10 ^ 799 ≤ N / 10 ^ (nd N - 800) ∧ N / 10 ^ (nd N - 800) < 10 ^ 800 := by
  have hN : 0 < N := by
    rcases Nat.eq_zero_or_pos N with q | q
    · subst q; rw [nd_zero] at h; omega
    · exact q
  have l1 := nd_lt N
  have l2 := nd_le hN
  have hp : 0 < 10 ^ (nd N - 800) := Nat.pow_pos (by decide)
  have a1 : N / 10 ^ (nd N - 800) < 10 ^ 800 := by
    apply Nat.div_lt_of_lt_mul
    rw [← Nat.pow_add, show nd N - 800 + 800 = nd N by omega]; exact l1
  have a2 : 10 ^ 799 ≤ N / 10 ^ (nd N - 800) := by
    rw [Nat.le_div_iff_mul_le hp, ← Nat.pow_add, show 799 + (nd N - 800) = nd N - 1 by omega]; exact l2
  have a3 : 0 < N / 10 ^ (nd N - 800) := Nat.lt_of_lt_of_le (Nat.pow_pos (by decide)) a2
  exact ⟨nd_uniq a3 a1 a2, a2, a1⟩
set_option maxRecDepth 10000 in
theorem VD_exact {A r : Nat} {p : Int} (hA : 0 < A) (hp : -600 ≤ p) (hn : nd A + r ≤ 65536) : VD (A * 10 ^ r) p = VD A p := by
  have hk := KK_eq
  unfold VD
  rw [nd_mul10 r hA, Int.natCast_mul, Int.natCast_pow]
  rw [show (p - nd A + KK).toNat = r + (p - (nd A + r : Nat) + KK).toNat by omega, Int.pow_add, Int.mul_assoc]
  rfl
set_option maxRecDepth 10000 in
def cutN (N : Nat) : Nat := if N % 10 ^ (nd N - 800) = 0 then N / 10 ^ (nd N - 800) else 10 * (N / 10 ^ (nd N - 800)) + 1
set_option maxRecDepth 10000 in
theorem cut_small {N : Nat} (h : nd N ≤ 800) : cutN N = N := by
  unfold cutN
  rw [show nd N - 800 = 0 by omega, Nat.pow_zero, Nat.mod_one, if_pos rfl, Nat.div_one]
set_option maxRecDepth 10000 in
theorem cut_pos {N : Nat} (hN : 0 < N) : 0 < cutN N := by
  rcases Nat.lt_or_ge 800 (nd N) with q | q
  · obtain ⟨_, a, _⟩ := nd_cut q
    have : 0 < 10 ^ 799 := Nat.pow_pos (by decide)
    unfold cutN
    generalize 10 ^ 799 = Z at *
    split <;> omega
  · rw [cut_small q]; exact hN
set_option maxRecDepth 10000 in
theorem cut_nd {N : Nat} (hN : 0 < N) : nd (cutN N) = min (nd N) 800 + (if N % 10 ^ (nd N - 800) = 0 then 0 else 1) := by
  rcases Nat.lt_or_ge 800 (nd N) with q | q
  · obtain ⟨a, _, _⟩ := nd_cut q
    unfold cutN
    split
    · omega
    · rw [nd_step (by omega) (by omega)]; omega
  · rw [cut_small q, show nd N - 800 = 0 by omega, Nat.pow_zero, Nat.mod_one, if_pos rfl]; omega
set_option maxRecDepth 10000 in
theorem cut_NE {s : Nat} (hs : s < 2) {N : Nat} {p r : Int} (hN : 0 < N) (hn : nd N ≤ 65536) (hp0 : -600 ≤ p) (hp1 : p ≤ 400) (h : NE s (VD (cutN N) p) (WD s) r) : NE s (VD N p) (WD s) r := by
  have hk := KK_eq
  rcases Nat.lt_or_ge 800 (nd N) with q | q
  · obtain ⟨a, a1, a2⟩ := nd_cut q
    have hz : 0 < 10 ^ (nd N - 800) := Nat.pow_pos (by decide)
    have hA0 : 0 < N / 10 ^ (nd N - 800) := Nat.lt_of_lt_of_le (Nat.pow_pos (by decide)) a1
    have hdm := Nat.div_add_mod N (10 ^ (nd N - 800))
    have hml := Nat.mod_lt N hz
    by_cases c : N % 10 ^ (nd N - 800) = 0
    · have e : cutN N = N / 10 ^ (nd N - 800) := if_pos c
      rw [e] at h
      rw [← VD_exact (r := nd N - 800) hA0 hp0 (by omega)] at h
      have : N / 10 ^ (nd N - 800) * 10 ^ (nd N - 800) = N := by rw [Nat.mul_comm]; omega
      rwa [this] at h
    · have e : cutN N = 10 * (N / 10 ^ (nd N - 800)) + 1 := if_neg c
      have en : nd (10 * (N / 10 ^ (nd N - 800)) + 1) = 801 := by rw [nd_step (by omega) (by omega), a]
      rw [e] at h
      have hu := p10_pos (p - 801 + KK).toNat
      have e1 : (10 : Int) ^ (KK - (800 - p).toNat) = 10 * 10 ^ (p - 801 + KK).toNat := by
        rw [show KK - (800 - p).toNat = (p - 801 + KK).toNat + 1 by omega, Int.pow_succ, Int.mul_comm]
      have e2 : (10 : Int) ^ (KK - (800 - p).toNat) = 10 ^ (nd N - 800) * 10 ^ (p - nd N + KK).toNat := by
        rw [← Int.pow_add]; congr 1; omega
      have hA : (10 : Int) ^ 799 ≤ ((N / 10 ^ (nd N - 800) : Nat) : Int) := by
        have : ((10 ^ 799 : Nat) : Int) ≤ ((N / 10 ^ (nd N - 800) : Nat) : Int) := Int.ofNat_le.mpr a1
        rwa [Int.natCast_pow] at this
      have hw := p10_pos (p - nd N + KK).toNat
      have v1 : VD (10 * (N / 10 ^ (nd N - 800)) + 1) p = ((10 * (N / 10 ^ (nd N - 800)) + 1 : Nat) : Int) * 10 ^ (p - 801 + KK).toNat := by unfold VD; rw [en]; rfl
      refine NE_same hs (g := (800 - p).toNat) (A := ((N / 10 ^ (nd N - 800) : Nat) : Int)) hA (by omega) ?_ ?_ ?_ ?_ h
      · rw [v1, e1, ← Int.mul_assoc]
        exact Int.mul_lt_mul_of_pos_right (by omega) hu
      · rw [v1, e1, ← Int.mul_assoc]
        exact Int.mul_lt_mul_of_pos_right (by omega) hu
      · unfold VD
        rw [e2, ← Int.mul_assoc]
        refine Int.mul_lt_mul_of_pos_right ?_ hw
        have : ((10 ^ (nd N - 800) * (N / 10 ^ (nd N - 800)) : Nat) : Int) < (N : Int) := Int.ofNat_lt.mpr (by omega)
        rw [Int.natCast_mul, Int.natCast_pow] at this
        rw [Int.mul_comm]; exact this
      · unfold VD
        rw [e2, ← Int.mul_assoc]
        refine Int.mul_lt_mul_of_pos_right ?_ hw
        have : (N : Int) < ((10 ^ (nd N - 800) * (N / 10 ^ (nd N - 800) + 1) : Nat) : Int) := Int.ofNat_lt.mpr (by rw [Nat.mul_add]; omega)
        rw [Int.natCast_mul, Int.natCast_pow] at this
        rw [Int.mul_comm]; exact this
  · rw [cut_small q] at h; exact h
